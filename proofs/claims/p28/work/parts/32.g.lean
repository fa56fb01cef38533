section Zq2_0
set_option maxHeartbeats 4000000 in
set_option maxRecDepth 100000 in
theorem s_X5_readNames_2 {N : Nat} (hN : 1048576 ≤ N)  {σ0 : zS}  (hR : RF σ0.2.2) (hX : σ0.2.2 57 5 = 1) (hD : RD σ0.1) (hW : WI 2 σ0.1) : Ok (f_X5_readNames N 57 2 σ0) (fun r => Tr [2, 57] σ0 r.2 ∧ ((r.1 = 0 ∨ r.1 = 1) ∧ RD r.2.1 ∧ WI 2 r.2.1)) := by
  have hT : Tr [2, 57] σ0 σ0 := Tr.rf
  have hD0 := hD
  rw [f_X5_readNames.eq_1]
  refine ok_gC rfl ?_
  refine ok_zbT (Q := fun V σ => (V = 0 ∨ V = 1) ∧ RD σ.1 ∧ (¬ V = 0 → 1 ≤ (σ.1 57 9).toInt ∧ (1 : Int32).toInt ≤ (lastv σ.1).toInt ∧ (lastv σ.1).toInt ≤ (10 : Int32).toInt)) hT (s_X5_passNumber hN (hR.tr hT) (by first | exact hX | exact hT.1.2 hX) (hD)) (by decide) (fun v1 σ2 hOσ2 hT hqv1 => ?_)
  have hqv1 : (v1 = 0 ∨ v1 = 1) ∧ RD σ2.1 ∧ (¬ v1 = 0 → 1 ≤ (σ2.1 57 9).toInt ∧ (1 : Int32).toInt ≤ (lastv σ2.1).toInt ∧ (lastv σ2.1).toInt ≤ (10 : Int32).toInt) := hqv1
  have hD : RD σ2.1 := by first | exact hqv1.2 | exact hqv1.2.1
  have hW : WI 2 σ2.1 := WI.tr hOσ2 (by decide) (by decide) (by decide) hW
  refine ok_if (fun hc3 => ?_) (fun hc3 => ?_)
  · exact ok_rZ (Or.inl rfl) ⟨hT, (show ((0 : Int32) = 0 ∨ (0 : Int32) = 1) ∧ RD σ2.1 ∧ WI 2 σ2.1 from by first | exact ⟨Or.inl rfl, hD, hW⟩ | exact ⟨Or.inr rfl, hD, hW⟩)⟩
  · have q0 := hqv1.2.2 hc3
    refine ok_gC rfl ?_
    refine ok_zbT (Q := fun V σ => 1 ≤ (σ2.1 57 9).toInt → V = lastv σ2.1) hT (s_X5_passed hN (hR.tr hT) (by first | exact hX | exact hT.1.2 hX) (hD)) (fun _ h9 => absurd h9 List.not_mem_nil) (fun v4 σ5 hOσ5 hT hqv4 => ?_)
    have hqv4 : 1 ≤ (σ2.1 57 9).toInt → v4 = lastv σ2.1 := hqv4
    have hD : RD σ5.1 := RD.tr hOσ5 (by decide) (by decide) (by decide) (by decide) hD
    have hW : WI 2 σ5.1 := WI.tr hOσ5 (by decide) (by decide) (by decide) hW
    have q1 := hqv4 q0.1
    refine ok_pI hT rfl (by decide) (fun σ6 eσ6 hOσ6 hT => ?_)
    have qn := zI_atI eσ6
    have hD : RD σ6.1 := RD_p eσ6 (fun q => absurd q (by decide)) (fun q => absurd q (by decide)) hD
    have hW : WI 2 σ6.1 := WI.tr hOσ6 (by decide) (by decide) (by decide) hW
    refine ok_gI rfl ?_
    refine ok_pI hT rfl (by decide) (fun σ8 eσ8 hOσ8 hT => ?_)
    have hD : RD σ8.1 := RD.tr hOσ8 (by decide) (by decide) (by decide) (by decide) hD
    have hW : WI 2 σ8.1 := WI_p0 eσ8 (by rw [qn, q1]; have q9 := q0.2; simp only [Int32.reduceToInt] at q9; omega) hW
    exact ok_rZ (Or.inr rfl) ⟨hT, (show ((1 : Int32) = 0 ∨ (1 : Int32) = 1) ∧ RD σ8.1 ∧ WI 2 σ8.1 from by first | exact ⟨Or.inl rfl, hD, hW⟩ | exact ⟨Or.inr rfl, hD, hW⟩)⟩

set_option maxHeartbeats 4000000 in
set_option maxRecDepth 100000 in
theorem s_X5_readWeight_2 {N : Nat} (hN : 1048576 ≤ N)  {σ0 : zS}  (hR : RF σ0.2.2) (hX : σ0.2.2 57 5 = 1) (hD : RD σ0.1) (hW : WI 2 σ0.1) : Ok (f_X5_readWeight N 57 2 σ0) (fun r => Tr [5, 57] σ0 r.2 ∧ ((r.1 = 0 ∨ r.1 = 1) ∧ RD r.2.1 ∧ WI 2 r.2.1)) := by
  have hT : Tr [5, 57] σ0 σ0 := Tr.rf
  have hD0 := hD
  rw [f_X5_readWeight.eq_1]
  refine ok_gR (v := 61) hT rfl (hR 57 10 rfl) ?_
  refine ok_gI rfl ?_
  refine ok_aIn rfl (by have q1 := hD.1; have q2 := hD.2.1; have q3 := hD0.1; have q4 := hD0.2.1; first | omega | decide | (simp only [Int32.le_iff_toInt_le, Int32.lt_iff_toInt_lt, ti_add, ti_sub, ti_mul, Int32.reduceToInt] at *; omega) | (exfalso; simp_all; done)) (by have q1 := hD.1; have q2 := hD.2.1; have q3 := hD0.1; have q4 := hD0.2.1; first | omega | decide | (simp only [Int32.le_iff_toInt_le, Int32.lt_iff_toInt_lt, ti_add, ti_sub, ti_mul, Int32.reduceToInt] at *; omega) | (exfalso; simp_all; done)) (fun v3 ev3 => ?_)
  refine ok_if (fun hc4 => ?_) (fun hc4 => ?_)
  · refine ok_gR (v := 64) hT rfl (hR 57 13 rfl) ?_
    refine ok_gI rfl ?_
    refine ok_aIn rfl (by have q1 := hD.1; have q2 := hD.2.1; have q3 := hD0.1; have q4 := hD0.2.1; first | omega | decide | (simp only [Int32.le_iff_toInt_le, Int32.lt_iff_toInt_lt, ti_add, ti_sub, ti_mul, Int32.reduceToInt] at *; omega) | (exfalso; simp_all; done)) (by have q1 := hD.1; have q2 := hD.2.1; have q3 := hD0.1; have q4 := hD0.2.1; first | omega | decide | (simp only [Int32.le_iff_toInt_le, Int32.lt_iff_toInt_lt, ti_add, ti_sub, ti_mul, Int32.reduceToInt] at *; omega) | (exfalso; simp_all; done)) (fun v7 ev7 => ?_)
    have qe : 0 ≤ v7.toInt ∧ v7.toInt ≤ 600 := by rw [ev7]; exact RD_en hD (by have q1 := hD.1; have q2 := hD.2.1; have q3 := hD0.1; have q4 := hD0.2.1; first | omega | decide | (simp only [Int32.le_iff_toInt_le, Int32.lt_iff_toInt_lt, ti_add, ti_sub, ti_mul, Int32.reduceToInt] at *; omega)) (by have q1 := hD.1; have q2 := hD.2.1; have q3 := hD0.1; have q4 := hD0.2.1; first | omega | decide | (simp only [Int32.le_iff_toInt_le, Int32.lt_iff_toInt_lt, ti_add, ti_sub, ti_mul, Int32.reduceToInt] at *; omega))
    refine ok_gR (v := 63) hT rfl (hR 57 12 rfl) ?_
    refine ok_gI rfl ?_
    refine ok_aIn rfl (by have q1 := hD.1; have q2 := hD.2.1; have q3 := hD0.1; have q4 := hD0.2.1; first | omega | decide | (simp only [Int32.le_iff_toInt_le, Int32.lt_iff_toInt_lt, ti_add, ti_sub, ti_mul, Int32.reduceToInt] at *; omega) | (exfalso; simp_all; done)) (by have q1 := hD.1; have q2 := hD.2.1; have q3 := hD0.1; have q4 := hD0.2.1; first | omega | decide | (simp only [Int32.le_iff_toInt_le, Int32.lt_iff_toInt_lt, ti_add, ti_sub, ti_mul, Int32.reduceToInt] at *; omega) | (exfalso; simp_all; done)) (fun v10 ev10 => ?_)
    have qs : 0 ≤ v10.toInt ∧ v10.toInt ≤ 600 := by rw [ev10]; exact RD_st hD (by have q1 := hD.1; have q2 := hD.2.1; have q3 := hD0.1; have q4 := hD0.2.1; first | omega | decide | (simp only [Int32.le_iff_toInt_le, Int32.lt_iff_toInt_lt, ti_add, ti_sub, ti_mul, Int32.reduceToInt] at *; omega)) (by have q1 := hD.1; have q2 := hD.2.1; have q3 := hD0.1; have q4 := hD0.2.1; first | omega | decide | (simp only [Int32.le_iff_toInt_le, Int32.lt_iff_toInt_lt, ti_add, ti_sub, ti_mul, Int32.reduceToInt] at *; omega))
    have qsv := ev10
    refine ok_if (fun hc11 => ?_) (fun hc11 => ?_)
    · rw [ti_eq] at hc11
      refine ok_gRX hT hX ?_
      refine ok_gR (v := 63) hT rfl (hR 57 12 rfl) ?_
      refine ok_gI rfl ?_
      refine ok_aIn rfl (by have q1 := hD.1; have q2 := hD.2.1; have q3 := hD0.1; have q4 := hD0.2.1; first | omega | decide | (simp only [Int32.le_iff_toInt_le, Int32.lt_iff_toInt_lt, ti_add, ti_sub, ti_mul, Int32.reduceToInt] at *; omega) | (exfalso; simp_all; done)) (by have q1 := hD.1; have q2 := hD.2.1; have q3 := hD0.1; have q4 := hD0.2.1; first | omega | decide | (simp only [Int32.le_iff_toInt_le, Int32.lt_iff_toInt_lt, ti_add, ti_sub, ti_mul, Int32.reduceToInt] at *; omega) | (exfalso; simp_all; done)) (fun v15 ev15 => ?_)
      have qst := congrArg Int32.toInt (ev15.trans qsv.symm)
      refine ok_aIn rfl (by have q1 := hD.1; have q2 := hD.2.1; have q3 := hD0.1; have q4 := hD0.2.1; first | omega | decide | (simp only [Int32.le_iff_toInt_le, Int32.lt_iff_toInt_lt, ti_add, ti_sub, ti_mul, Int32.reduceToInt] at *; omega) | (exfalso; simp_all; done)) (by have q1 := hD.1; have q2 := hD.2.1; have q3 := hD0.1; have q4 := hD0.2.1; first | omega | decide | (simp only [Int32.le_iff_toInt_le, Int32.lt_iff_toInt_lt, ti_add, ti_sub, ti_mul, Int32.reduceToInt] at *; omega) | (exfalso; simp_all; done)) (fun v16 ev16 => ?_)
      refine ok_if (fun hc17 => ?_) (fun hc17 => ?_)
      · rw [J_X5_readWeight_83.eq_1]
        refine ok_gC rfl ?_
        refine ok_zbT (Q := fun V σ => V = (0 : Int32) ∧ RD σ.1 ∧ (¬ (0 : Int32) = 0 → ¬ σ0.1 61 (Int32.toNatClampNeg (σ0.1 57 9)) = 0 → (σ.1 57 9).toInt = (σ0.1 57 9).toInt + 1)) hT (s_X5_advance hN (hR.tr hT) (by first | exact hX | exact hT.1.2 hX) (hD) (by first | exact Or.inl rfl | exact Or.inr rfl | assumption)) (by decide) (fun v18 σ19 hOσ19 hT hqv18 => ?_)
        have hqv18 : v18 = (0 : Int32) ∧ RD σ19.1 ∧ (¬ (0 : Int32) = 0 → ¬ σ0.1 61 (Int32.toNatClampNeg (σ0.1 57 9)) = 0 → (σ19.1 57 9).toInt = (σ0.1 57 9).toInt + 1) := hqv18
        have hD : RD σ19.1 := by first | exact hqv18.2 | exact hqv18.2.1
        have hW : WI 2 σ19.1 := WI.tr hOσ19 (by decide) (by decide) (by decide) hW
        refine ok_if (fun hc20 => ?_) (fun hc20 => ?_)
        · exact ok_rZ (Or.inl rfl) ⟨hT, (show ((0 : Int32) = 0 ∨ (0 : Int32) = 1) ∧ RD σ19.1 ∧ WI 2 σ19.1 from by first | exact ⟨Or.inl rfl, hD, hW⟩ | exact ⟨Or.inr rfl, hD, hW⟩ | exact ⟨Or.inl hqv18.1, hD, hW⟩)⟩
        · refine ok_gC rfl ?_
          refine ok_zbT (Q := fun V σ => (V = 0 ∨ V = 1) ∧ RD σ.1 ∧ (¬ V = 0 → 1 ≤ (σ.1 57 9).toInt ∧ (0 : Int32).toInt ≤ (lastv σ.1).toInt ∧ (lastv σ.1).toInt ≤ (99 : Int32).toInt)) hT (s_X5_passNumber hN (hR.tr hT) (by first | exact hX | exact hT.1.2 hX) (hD)) (by decide) (fun v21 σ22 hOσ22 hT hqv21 => ?_)
          have hqv21 : (v21 = 0 ∨ v21 = 1) ∧ RD σ22.1 ∧ (¬ v21 = 0 → 1 ≤ (σ22.1 57 9).toInt ∧ (0 : Int32).toInt ≤ (lastv σ22.1).toInt ∧ (lastv σ22.1).toInt ≤ (99 : Int32).toInt) := hqv21
          have hD : RD σ22.1 := by first | exact hqv21.2 | exact hqv21.2.1
          have hW : WI 2 σ22.1 := WI.tr hOσ22 (by decide) (by decide) (by decide) hW
          refine ok_if (fun hc23 => ?_) (fun hc23 => ?_)
          · exact ok_rZ (Or.inl rfl) ⟨hT, (show ((0 : Int32) = 0 ∨ (0 : Int32) = 1) ∧ RD σ22.1 ∧ WI 2 σ22.1 from by first | exact ⟨Or.inl rfl, hD, hW⟩ | exact ⟨Or.inr rfl, hD, hW⟩ | exact ⟨Or.inl hqv21.1, hD, hW⟩)⟩
          · refine ok_gR (v := 5) hT rfl (hR 2 5 rfl) ?_
            refine ok_gC rfl ?_
            refine ok_zbT (Q := fun V σ => 1 ≤ (σ22.1 57 9).toInt → V = lastv σ22.1) hT (s_X5_passed hN (hR.tr hT) (by first | exact hX | exact hT.1.2 hX) (hD)) (fun _ h9 => absurd h9 List.not_mem_nil) (fun v25 σ26 hOσ26 hT hqv25 => ?_)
            have hqv25 : 1 ≤ (σ22.1 57 9).toInt → v25 = lastv σ22.1 := hqv25
            have hD : RD σ26.1 := RD.tr hOσ26 (by decide) (by decide) (by decide) (by decide) hD
            have hW : WI 2 σ26.1 := WI.tr hOσ26 (by decide) (by decide) (by decide) hW
            refine ok_s14 hT rfl (by decide) (by have q1 := hD.1; have q2 := hD.2.1; have q3 := hD0.1; have q4 := hD0.2.1; first | omega | decide | (simp only [Int32.le_iff_toInt_le, Int32.lt_iff_toInt_lt, ti_add, ti_sub, ti_mul, Int32.reduceToInt] at *; omega) | (exfalso; simp_all; done)) (by have q1 := hD.1; have q2 := hD.2.1; have q3 := hD0.1; have q4 := hD0.2.1; first | omega | decide | (simp only [Int32.le_iff_toInt_le, Int32.lt_iff_toInt_lt, ti_add, ti_sub, ti_mul, Int32.reduceToInt] at *; omega) | (exfalso; simp_all; done)) (fun σ27 eσ27 hOσ27 hT => ?_)
            have hD : RD σ27.1 := RD.tr hOσ27 (by decide) (by decide) (by decide) (by decide) hD
            have hW : WI 2 σ27.1 := WI.tr hOσ27 (by decide) (by decide) (by decide) hW
            exact ok_rZ (Or.inr rfl) ⟨hT, (show ((1 : Int32) = 0 ∨ (1 : Int32) = 1) ∧ RD σ27.1 ∧ WI 2 σ27.1 from by first | exact ⟨Or.inl rfl, hD, hW⟩ | exact ⟨Or.inr rfl, hD, hW⟩ | exact ⟨Or.inl hqv25.1, hD, hW⟩)⟩
      · refine ok_gI rfl ?_
        refine ok_if (fun hc29 => ?_) (fun hc29 => ?_)
        · rw [J_X5_readWeight_83.eq_1]
          refine ok_gC rfl ?_
          refine ok_zbT (Q := fun V σ => V = (0 : Int32) ∧ RD σ.1 ∧ (¬ (0 : Int32) = 0 → ¬ σ0.1 61 (Int32.toNatClampNeg (σ0.1 57 9)) = 0 → (σ.1 57 9).toInt = (σ0.1 57 9).toInt + 1)) hT (s_X5_advance hN (hR.tr hT) (by first | exact hX | exact hT.1.2 hX) (hD) (by first | exact Or.inl rfl | exact Or.inr rfl | assumption)) (by decide) (fun v30 σ31 hOσ31 hT hqv30 => ?_)
          have hqv30 : v30 = (0 : Int32) ∧ RD σ31.1 ∧ (¬ (0 : Int32) = 0 → ¬ σ0.1 61 (Int32.toNatClampNeg (σ0.1 57 9)) = 0 → (σ31.1 57 9).toInt = (σ0.1 57 9).toInt + 1) := hqv30
          have hD : RD σ31.1 := by first | exact hqv30.2 | exact hqv30.2.1
          have hW : WI 2 σ31.1 := WI.tr hOσ31 (by decide) (by decide) (by decide) hW
          refine ok_if (fun hc32 => ?_) (fun hc32 => ?_)
          · exact ok_rZ (Or.inl rfl) ⟨hT, (show ((0 : Int32) = 0 ∨ (0 : Int32) = 1) ∧ RD σ31.1 ∧ WI 2 σ31.1 from by first | exact ⟨Or.inl rfl, hD, hW⟩ | exact ⟨Or.inr rfl, hD, hW⟩ | exact ⟨Or.inl hqv30.1, hD, hW⟩)⟩
          · refine ok_gC rfl ?_
            refine ok_zbT (Q := fun V σ => (V = 0 ∨ V = 1) ∧ RD σ.1 ∧ (¬ V = 0 → 1 ≤ (σ.1 57 9).toInt ∧ (0 : Int32).toInt ≤ (lastv σ.1).toInt ∧ (lastv σ.1).toInt ≤ (99 : Int32).toInt)) hT (s_X5_passNumber hN (hR.tr hT) (by first | exact hX | exact hT.1.2 hX) (hD)) (by decide) (fun v33 σ34 hOσ34 hT hqv33 => ?_)
            have hqv33 : (v33 = 0 ∨ v33 = 1) ∧ RD σ34.1 ∧ (¬ v33 = 0 → 1 ≤ (σ34.1 57 9).toInt ∧ (0 : Int32).toInt ≤ (lastv σ34.1).toInt ∧ (lastv σ34.1).toInt ≤ (99 : Int32).toInt) := hqv33
            have hD : RD σ34.1 := by first | exact hqv33.2 | exact hqv33.2.1
            have hW : WI 2 σ34.1 := WI.tr hOσ34 (by decide) (by decide) (by decide) hW
            refine ok_if (fun hc35 => ?_) (fun hc35 => ?_)
            · exact ok_rZ (Or.inl rfl) ⟨hT, (show ((0 : Int32) = 0 ∨ (0 : Int32) = 1) ∧ RD σ34.1 ∧ WI 2 σ34.1 from by first | exact ⟨Or.inl rfl, hD, hW⟩ | exact ⟨Or.inr rfl, hD, hW⟩ | exact ⟨Or.inl hqv33.1, hD, hW⟩)⟩
            · refine ok_gR (v := 5) hT rfl (hR 2 5 rfl) ?_
              refine ok_gC rfl ?_
              refine ok_zbT (Q := fun V σ => 1 ≤ (σ34.1 57 9).toInt → V = lastv σ34.1) hT (s_X5_passed hN (hR.tr hT) (by first | exact hX | exact hT.1.2 hX) (hD)) (fun _ h9 => absurd h9 List.not_mem_nil) (fun v37 σ38 hOσ38 hT hqv37 => ?_)
              have hqv37 : 1 ≤ (σ34.1 57 9).toInt → v37 = lastv σ34.1 := hqv37
              have hD : RD σ38.1 := RD.tr hOσ38 (by decide) (by decide) (by decide) (by decide) hD
              have hW : WI 2 σ38.1 := WI.tr hOσ38 (by decide) (by decide) (by decide) hW
              refine ok_s14 hT rfl (by decide) (by have q1 := hD.1; have q2 := hD.2.1; have q3 := hD0.1; have q4 := hD0.2.1; first | omega | decide | (simp only [Int32.le_iff_toInt_le, Int32.lt_iff_toInt_lt, ti_add, ti_sub, ti_mul, Int32.reduceToInt] at *; omega) | (exfalso; simp_all; done)) (by have q1 := hD.1; have q2 := hD.2.1; have q3 := hD0.1; have q4 := hD0.2.1; first | omega | decide | (simp only [Int32.le_iff_toInt_le, Int32.lt_iff_toInt_lt, ti_add, ti_sub, ti_mul, Int32.reduceToInt] at *; omega) | (exfalso; simp_all; done)) (fun σ39 eσ39 hOσ39 hT => ?_)
              have hD : RD σ39.1 := RD.tr hOσ39 (by decide) (by decide) (by decide) (by decide) hD
              have hW : WI 2 σ39.1 := WI.tr hOσ39 (by decide) (by decide) (by decide) hW
              exact ok_rZ (Or.inr rfl) ⟨hT, (show ((1 : Int32) = 0 ∨ (1 : Int32) = 1) ∧ RD σ39.1 ∧ WI 2 σ39.1 from by first | exact ⟨Or.inl rfl, hD, hW⟩ | exact ⟨Or.inr rfl, hD, hW⟩ | exact ⟨Or.inl hqv37.1, hD, hW⟩)⟩
        · refine ok_if (fun hc40 => ?_) (fun hc40 => ?_)
          · rw [J_X5_readWeight_83.eq_1]
            refine ok_gC rfl ?_
            refine ok_zbT (Q := fun V σ => V = (0 : Int32) ∧ RD σ.1 ∧ (¬ (0 : Int32) = 0 → ¬ σ0.1 61 (Int32.toNatClampNeg (σ0.1 57 9)) = 0 → (σ.1 57 9).toInt = (σ0.1 57 9).toInt + 1)) hT (s_X5_advance hN (hR.tr hT) (by first | exact hX | exact hT.1.2 hX) (hD) (by first | exact Or.inl rfl | exact Or.inr rfl | assumption)) (by decide) (fun v41 σ42 hOσ42 hT hqv41 => ?_)
            have hqv41 : v41 = (0 : Int32) ∧ RD σ42.1 ∧ (¬ (0 : Int32) = 0 → ¬ σ0.1 61 (Int32.toNatClampNeg (σ0.1 57 9)) = 0 → (σ42.1 57 9).toInt = (σ0.1 57 9).toInt + 1) := hqv41
            have hD : RD σ42.1 := by first | exact hqv41.2 | exact hqv41.2.1
            have hW : WI 2 σ42.1 := WI.tr hOσ42 (by decide) (by decide) (by decide) hW
            refine ok_if (fun hc43 => ?_) (fun hc43 => ?_)
            · exact ok_rZ (Or.inl rfl) ⟨hT, (show ((0 : Int32) = 0 ∨ (0 : Int32) = 1) ∧ RD σ42.1 ∧ WI 2 σ42.1 from by first | exact ⟨Or.inl rfl, hD, hW⟩ | exact ⟨Or.inr rfl, hD, hW⟩ | exact ⟨Or.inl hqv41.1, hD, hW⟩)⟩
            · refine ok_gC rfl ?_
              refine ok_zbT (Q := fun V σ => (V = 0 ∨ V = 1) ∧ RD σ.1 ∧ (¬ V = 0 → 1 ≤ (σ.1 57 9).toInt ∧ (0 : Int32).toInt ≤ (lastv σ.1).toInt ∧ (lastv σ.1).toInt ≤ (99 : Int32).toInt)) hT (s_X5_passNumber hN (hR.tr hT) (by first | exact hX | exact hT.1.2 hX) (hD)) (by decide) (fun v44 σ45 hOσ45 hT hqv44 => ?_)
              have hqv44 : (v44 = 0 ∨ v44 = 1) ∧ RD σ45.1 ∧ (¬ v44 = 0 → 1 ≤ (σ45.1 57 9).toInt ∧ (0 : Int32).toInt ≤ (lastv σ45.1).toInt ∧ (lastv σ45.1).toInt ≤ (99 : Int32).toInt) := hqv44
              have hD : RD σ45.1 := by first | exact hqv44.2 | exact hqv44.2.1
              have hW : WI 2 σ45.1 := WI.tr hOσ45 (by decide) (by decide) (by decide) hW
              refine ok_if (fun hc46 => ?_) (fun hc46 => ?_)
              · exact ok_rZ (Or.inl rfl) ⟨hT, (show ((0 : Int32) = 0 ∨ (0 : Int32) = 1) ∧ RD σ45.1 ∧ WI 2 σ45.1 from by first | exact ⟨Or.inl rfl, hD, hW⟩ | exact ⟨Or.inr rfl, hD, hW⟩ | exact ⟨Or.inl hqv44.1, hD, hW⟩)⟩
              · refine ok_gR (v := 5) hT rfl (hR 2 5 rfl) ?_
                refine ok_gC rfl ?_
                refine ok_zbT (Q := fun V σ => 1 ≤ (σ45.1 57 9).toInt → V = lastv σ45.1) hT (s_X5_passed hN (hR.tr hT) (by first | exact hX | exact hT.1.2 hX) (hD)) (fun _ h9 => absurd h9 List.not_mem_nil) (fun v48 σ49 hOσ49 hT hqv48 => ?_)
                have hqv48 : 1 ≤ (σ45.1 57 9).toInt → v48 = lastv σ45.1 := hqv48
                have hD : RD σ49.1 := RD.tr hOσ49 (by decide) (by decide) (by decide) (by decide) hD
                have hW : WI 2 σ49.1 := WI.tr hOσ49 (by decide) (by decide) (by decide) hW
                refine ok_s14 hT rfl (by decide) (by have q1 := hD.1; have q2 := hD.2.1; have q3 := hD0.1; have q4 := hD0.2.1; first | omega | decide | (simp only [Int32.le_iff_toInt_le, Int32.lt_iff_toInt_lt, ti_add, ti_sub, ti_mul, Int32.reduceToInt] at *; omega) | (exfalso; simp_all; done)) (by have q1 := hD.1; have q2 := hD.2.1; have q3 := hD0.1; have q4 := hD0.2.1; first | omega | decide | (simp only [Int32.le_iff_toInt_le, Int32.lt_iff_toInt_lt, ti_add, ti_sub, ti_mul, Int32.reduceToInt] at *; omega) | (exfalso; simp_all; done)) (fun σ50 eσ50 hOσ50 hT => ?_)
                have hD : RD σ50.1 := RD.tr hOσ50 (by decide) (by decide) (by decide) (by decide) hD
                have hW : WI 2 σ50.1 := WI.tr hOσ50 (by decide) (by decide) (by decide) hW
                exact ok_rZ (Or.inr rfl) ⟨hT, (show ((1 : Int32) = 0 ∨ (1 : Int32) = 1) ∧ RD σ50.1 ∧ WI 2 σ50.1 from by first | exact ⟨Or.inl rfl, hD, hW⟩ | exact ⟨Or.inr rfl, hD, hW⟩ | exact ⟨Or.inl hqv48.1, hD, hW⟩)⟩
          · rw [J_X5_readWeight_83.eq_1]
            refine ok_gC rfl ?_
            refine ok_zbT (Q := fun V σ => V = (1 : Int32) ∧ RD σ.1 ∧ (¬ (1 : Int32) = 0 → ¬ σ0.1 61 (Int32.toNatClampNeg (σ0.1 57 9)) = 0 → (σ.1 57 9).toInt = (σ0.1 57 9).toInt + 1)) hT (s_X5_advance hN (hR.tr hT) (by first | exact hX | exact hT.1.2 hX) (hD) (by first | exact Or.inl rfl | exact Or.inr rfl | assumption)) (by decide) (fun v51 σ52 hOσ52 hT hqv51 => ?_)
            have hqv51 : v51 = (1 : Int32) ∧ RD σ52.1 ∧ (¬ (1 : Int32) = 0 → ¬ σ0.1 61 (Int32.toNatClampNeg (σ0.1 57 9)) = 0 → (σ52.1 57 9).toInt = (σ0.1 57 9).toInt + 1) := hqv51
            have hD : RD σ52.1 := by first | exact hqv51.2 | exact hqv51.2.1
            have hW : WI 2 σ52.1 := WI.tr hOσ52 (by decide) (by decide) (by decide) hW
            refine ok_if (fun hc53 => ?_) (fun hc53 => ?_)
            · exact ok_rZ (Or.inl rfl) ⟨hT, (show ((0 : Int32) = 0 ∨ (0 : Int32) = 1) ∧ RD σ52.1 ∧ WI 2 σ52.1 from by first | exact ⟨Or.inl rfl, hD, hW⟩ | exact ⟨Or.inr rfl, hD, hW⟩ | exact ⟨Or.inl hqv51.1, hD, hW⟩)⟩
            · refine ok_gC rfl ?_
              refine ok_zbT (Q := fun V σ => (V = 0 ∨ V = 1) ∧ RD σ.1 ∧ (¬ V = 0 → 1 ≤ (σ.1 57 9).toInt ∧ (0 : Int32).toInt ≤ (lastv σ.1).toInt ∧ (lastv σ.1).toInt ≤ (99 : Int32).toInt)) hT (s_X5_passNumber hN (hR.tr hT) (by first | exact hX | exact hT.1.2 hX) (hD)) (by decide) (fun v54 σ55 hOσ55 hT hqv54 => ?_)
              have hqv54 : (v54 = 0 ∨ v54 = 1) ∧ RD σ55.1 ∧ (¬ v54 = 0 → 1 ≤ (σ55.1 57 9).toInt ∧ (0 : Int32).toInt ≤ (lastv σ55.1).toInt ∧ (lastv σ55.1).toInt ≤ (99 : Int32).toInt) := hqv54
              have hD : RD σ55.1 := by first | exact hqv54.2 | exact hqv54.2.1
              have hW : WI 2 σ55.1 := WI.tr hOσ55 (by decide) (by decide) (by decide) hW
              refine ok_if (fun hc56 => ?_) (fun hc56 => ?_)
              · exact ok_rZ (Or.inl rfl) ⟨hT, (show ((0 : Int32) = 0 ∨ (0 : Int32) = 1) ∧ RD σ55.1 ∧ WI 2 σ55.1 from by first | exact ⟨Or.inl rfl, hD, hW⟩ | exact ⟨Or.inr rfl, hD, hW⟩ | exact ⟨Or.inl hqv54.1, hD, hW⟩)⟩
              · refine ok_gR (v := 5) hT rfl (hR 2 5 rfl) ?_
                refine ok_gC rfl ?_
                refine ok_zbT (Q := fun V σ => 1 ≤ (σ55.1 57 9).toInt → V = lastv σ55.1) hT (s_X5_passed hN (hR.tr hT) (by first | exact hX | exact hT.1.2 hX) (hD)) (fun _ h9 => absurd h9 List.not_mem_nil) (fun v58 σ59 hOσ59 hT hqv58 => ?_)
                have hqv58 : 1 ≤ (σ55.1 57 9).toInt → v58 = lastv σ55.1 := hqv58
                have hD : RD σ59.1 := RD.tr hOσ59 (by decide) (by decide) (by decide) (by decide) hD
                have hW : WI 2 σ59.1 := WI.tr hOσ59 (by decide) (by decide) (by decide) hW
                refine ok_s14 hT rfl (by decide) (by have q1 := hD.1; have q2 := hD.2.1; have q3 := hD0.1; have q4 := hD0.2.1; first | omega | decide | (simp only [Int32.le_iff_toInt_le, Int32.lt_iff_toInt_lt, ti_add, ti_sub, ti_mul, Int32.reduceToInt] at *; omega) | (exfalso; simp_all; done)) (by have q1 := hD.1; have q2 := hD.2.1; have q3 := hD0.1; have q4 := hD0.2.1; first | omega | decide | (simp only [Int32.le_iff_toInt_le, Int32.lt_iff_toInt_lt, ti_add, ti_sub, ti_mul, Int32.reduceToInt] at *; omega) | (exfalso; simp_all; done)) (fun σ60 eσ60 hOσ60 hT => ?_)
                have hD : RD σ60.1 := RD.tr hOσ60 (by decide) (by decide) (by decide) (by decide) hD
                have hW : WI 2 σ60.1 := WI.tr hOσ60 (by decide) (by decide) (by decide) hW
                exact ok_rZ (Or.inr rfl) ⟨hT, (show ((1 : Int32) = 0 ∨ (1 : Int32) = 1) ∧ RD σ60.1 ∧ WI 2 σ60.1 from by first | exact ⟨Or.inl rfl, hD, hW⟩ | exact ⟨Or.inr rfl, hD, hW⟩ | exact ⟨Or.inl hqv58.1, hD, hW⟩)⟩
    · refine ok_gC rfl ?_
      refine ok_zbT (Q := fun V σ => V = 0 ∧ RD σ.1) hT (s_X5_fail hN (hR.tr hT) (by first | exact hX | exact hT.1.2 hX) (hD)) (by decide) (fun v61 σ62 hOσ62 hT hqv61 => ?_)
      have hqv61 : v61 = 0 ∧ RD σ62.1 := hqv61
      have hD : RD σ62.1 := by first | exact hqv61.2 | exact hqv61.2.1
      have hW : WI 2 σ62.1 := WI.tr hOσ62 (by decide) (by decide) (by decide) hW
      exact ok_rZ (Or.inl hqv61.1) ⟨hT, (show (v61 = 0 ∨ v61 = 1) ∧ RD σ62.1 ∧ WI 2 σ62.1 from by first | exact ⟨Or.inl rfl, hD, hW⟩ | exact ⟨Or.inr rfl, hD, hW⟩ | exact ⟨Or.inl hqv61.1, hD, hW⟩)⟩
  · refine ok_gC rfl ?_
    refine ok_zbT (Q := fun V σ => V = 0 ∧ RD σ.1) hT (s_X5_fail hN (hR.tr hT) (by first | exact hX | exact hT.1.2 hX) (hD)) (by decide) (fun v63 σ64 hOσ64 hT hqv63 => ?_)
    have hqv63 : v63 = 0 ∧ RD σ64.1 := hqv63
    have hD : RD σ64.1 := by first | exact hqv63.2 | exact hqv63.2.1
    have hW : WI 2 σ64.1 := WI.tr hOσ64 (by decide) (by decide) (by decide) hW
    exact ok_rZ (Or.inl hqv63.1) ⟨hT, (show (v63 = 0 ∨ v63 = 1) ∧ RD σ64.1 ∧ WI 2 σ64.1 from by first | exact ⟨Or.inl rfl, hD, hW⟩ | exact ⟨Or.inr rfl, hD, hW⟩ | exact ⟨Or.inl hqv63.1, hD, hW⟩)⟩

set_option maxHeartbeats 4000000 in
set_option maxRecDepth 100000 in
theorem s_X5_readEdge_2 {N : Nat} (hN : 1048576 ≤ N)  {σ0 : zS}  (hR : RF σ0.2.2) (hX : σ0.2.2 57 5 = 1) (hD : RD σ0.1) (hW : WI 2 σ0.1) : Ok (f_X5_readEdge N 57 2 σ0) (fun r => Tr [2, 3, 4, 57] σ0 r.2 ∧ ((r.1 = 0 ∨ r.1 = 1) ∧ RD r.2.1 ∧ WI 2 r.2.1)) := by
  have hT : Tr [2, 3, 4, 57] σ0 σ0 := Tr.rf
  have hD0 := hD
  rw [f_X5_readEdge.eq_1]
  refine ok_gC rfl ?_
  refine ok_zbT (Q := fun V σ => (V = 0 ∨ V = 1) ∧ RD σ.1 ∧ (¬ V = 0 → 1 ≤ (σ.1 57 9).toInt ∧ (0 : Int32).toInt ≤ (lastv σ.1).toInt ∧ (lastv σ.1).toInt ≤ (7 : Int32).toInt)) hT (s_X5_passNumber hN (hR.tr hT) (by first | exact hX | exact hT.1.2 hX) (hD)) (by decide) (fun v1 σ2 hOσ2 hT hqv1 => ?_)
  have hqv1 : (v1 = 0 ∨ v1 = 1) ∧ RD σ2.1 ∧ (¬ v1 = 0 → 1 ≤ (σ2.1 57 9).toInt ∧ (0 : Int32).toInt ≤ (lastv σ2.1).toInt ∧ (lastv σ2.1).toInt ≤ (7 : Int32).toInt) := hqv1
  have hD : RD σ2.1 := by first | exact hqv1.2 | exact hqv1.2.1
  have hW : WI 2 σ2.1 := WI.tr hOσ2 (by decide) (by decide) (by decide) hW
  refine ok_if (fun hc3 => ?_) (fun hc3 => ?_)
  · exact ok_rZ (Or.inl rfl) ⟨hT, (show ((0 : Int32) = 0 ∨ (0 : Int32) = 1) ∧ RD σ2.1 ∧ WI 2 σ2.1 from by first | exact ⟨Or.inl rfl, hD, hW⟩ | exact ⟨Or.inr rfl, hD, hW⟩ | exact ⟨Or.inl hqv1.1, hD, hW⟩)⟩
  · have q0 := hqv1.2.2 hc3
    refine ok_gC rfl ?_
    refine ok_zbT (Q := fun V σ => 1 ≤ (σ2.1 57 9).toInt → V = lastv σ2.1) hT (s_X5_passed hN (hR.tr hT) (by first | exact hX | exact hT.1.2 hX) (hD)) (fun _ h9 => absurd h9 List.not_mem_nil) (fun v4 σ5 hOσ5 hT hqv4 => ?_)
    have hqv4 : 1 ≤ (σ2.1 57 9).toInt → v4 = lastv σ2.1 := hqv4
    have hD : RD σ5.1 := RD.tr hOσ5 (by decide) (by decide) (by decide) (by decide) hD
    have hW : WI 2 σ5.1 := WI.tr hOσ5 (by decide) (by decide) (by decide) hW
    have q1 := hqv4 q0.1
    have r1 : 0 ≤ v4.toInt ∧ v4.toInt ≤ 7 := by rw [q1]; have q9 := q0.2; simp only [Int32.reduceToInt] at q9; omega
    refine ok_gR (v := 61) hT rfl (hR 57 10 rfl) ?_
    refine ok_gI rfl ?_
    refine ok_aIn rfl (by have q1 := hD.1; have q2 := hD.2.1; have q3 := hD0.1; have q4 := hD0.2.1; first | omega | decide | (simp only [Int32.le_iff_toInt_le, Int32.lt_iff_toInt_lt, ti_add, ti_sub, ti_mul, Int32.reduceToInt] at *; omega) | (exfalso; simp_all; done)) (by have q1 := hD.1; have q2 := hD.2.1; have q3 := hD0.1; have q4 := hD0.2.1; first | omega | decide | (simp only [Int32.le_iff_toInt_le, Int32.lt_iff_toInt_lt, ti_add, ti_sub, ti_mul, Int32.reduceToInt] at *; omega) | (exfalso; simp_all; done)) (fun v8 ev8 => ?_)
    refine ok_if (fun hc9 => ?_) (fun hc9 => ?_)
    · refine ok_gR (v := 62) hT rfl (hR 57 11 rfl) ?_
      refine ok_gI rfl ?_
      refine ok_aIn rfl (by have q1 := hD.1; have q2 := hD.2.1; have q3 := hD0.1; have q4 := hD0.2.1; first | omega | decide | (simp only [Int32.le_iff_toInt_le, Int32.lt_iff_toInt_lt, ti_add, ti_sub, ti_mul, Int32.reduceToInt] at *; omega) | (exfalso; simp_all; done)) (by have q1 := hD.1; have q2 := hD.2.1; have q3 := hD0.1; have q4 := hD0.2.1; first | omega | decide | (simp only [Int32.le_iff_toInt_le, Int32.lt_iff_toInt_lt, ti_add, ti_sub, ti_mul, Int32.reduceToInt] at *; omega) | (exfalso; simp_all; done)) (fun v12 ev12 => ?_)
      refine ok_if (fun hc13 => ?_) (fun hc13 => ?_)
      · refine ok_gC rfl ?_
        refine ok_zbT (Q := fun V σ => V = 0 ∧ RD σ.1) hT (s_X5_fail hN (hR.tr hT) (by first | exact hX | exact hT.1.2 hX) (hD)) (by decide) (fun v14 σ15 hOσ15 hT hqv14 => ?_)
        have hqv14 : v14 = 0 ∧ RD σ15.1 := hqv14
        have hD : RD σ15.1 := by first | exact hqv14.2 | exact hqv14.2.1
        have hW : WI 2 σ15.1 := WI.tr hOσ15 (by decide) (by decide) (by decide) hW
        exact ok_rZ (Or.inl hqv14.1) ⟨hT, (show (v14 = 0 ∨ v14 = 1) ∧ RD σ15.1 ∧ WI 2 σ15.1 from by first | exact ⟨Or.inl rfl, hD, hW⟩ | exact ⟨Or.inr rfl, hD, hW⟩ | exact ⟨Or.inl hqv14.1, hD, hW⟩)⟩
      · rw [J_X5_readEdge_49.eq_1]
        refine ok_gC rfl ?_
        refine ok_zbT (Q := fun V σ => (V = 0 ∨ V = 1) ∧ RD σ.1 ∧ (¬ V = 0 → 1 ≤ (σ.1 57 9).toInt ∧ (0 : Int32).toInt ≤ (lastv σ.1).toInt ∧ (lastv σ.1).toInt ≤ (7 : Int32).toInt)) hT (s_X5_passNumber hN (hR.tr hT) (by first | exact hX | exact hT.1.2 hX) (hD)) (by decide) (fun v16 σ17 hOσ17 hT hqv16 => ?_)
        have hqv16 : (v16 = 0 ∨ v16 = 1) ∧ RD σ17.1 ∧ (¬ v16 = 0 → 1 ≤ (σ17.1 57 9).toInt ∧ (0 : Int32).toInt ≤ (lastv σ17.1).toInt ∧ (lastv σ17.1).toInt ≤ (7 : Int32).toInt) := hqv16
        have hD : RD σ17.1 := by first | exact hqv16.2 | exact hqv16.2.1
        have hW : WI 2 σ17.1 := WI.tr hOσ17 (by decide) (by decide) (by decide) hW
        refine ok_if (fun hc18 => ?_) (fun hc18 => ?_)
        · exact ok_rZ (Or.inl rfl) ⟨hT, (show ((0 : Int32) = 0 ∨ (0 : Int32) = 1) ∧ RD σ17.1 ∧ WI 2 σ17.1 from by first | exact ⟨Or.inl rfl, hD, hW⟩ | exact ⟨Or.inr rfl, hD, hW⟩ | exact ⟨Or.inl hqv16.1, hD, hW⟩)⟩
        · have q5 := hqv16.2.2 hc18
          refine ok_gC rfl ?_
          refine ok_zbT (Q := fun V σ => 1 ≤ (σ17.1 57 9).toInt → V = lastv σ17.1) hT (s_X5_passed hN (hR.tr hT) (by first | exact hX | exact hT.1.2 hX) (hD)) (fun _ h9 => absurd h9 List.not_mem_nil) (fun v19 σ20 hOσ20 hT hqv19 => ?_)
          have hqv19 : 1 ≤ (σ17.1 57 9).toInt → v19 = lastv σ17.1 := hqv19
          have hD : RD σ20.1 := RD.tr hOσ20 (by decide) (by decide) (by decide) (by decide) hD
          have hW : WI 2 σ20.1 := WI.tr hOσ20 (by decide) (by decide) (by decide) hW
          have q6 := hqv19 q5.1
          have r6 : 0 ≤ v19.toInt ∧ v19.toInt ≤ 7 := by rw [q6]; have q9 := q5.2; simp only [Int32.reduceToInt] at q9; omega
          refine ok_gC rfl ?_
          refine ok_zbT (Q := fun V σ => WI 2 σ.1) hT (s_X10_addEdge_2 hN (hR.tr hT) (by exact hW) (by have q1 := hD.1; have q2 := hD.2.1; have q3 := hD0.1; have q4 := hD0.2.1; first | omega | decide | (simp only [Int32.le_iff_toInt_le, Int32.lt_iff_toInt_lt, ti_add, ti_sub, ti_mul, Int32.reduceToInt] at *; omega) | (exfalso; simp_all; done)) (by have q1 := hD.1; have q2 := hD.2.1; have q3 := hD0.1; have q4 := hD0.2.1; first | omega | decide | (simp only [Int32.le_iff_toInt_le, Int32.lt_iff_toInt_lt, ti_add, ti_sub, ti_mul, Int32.reduceToInt] at *; omega) | (exfalso; simp_all; done))) (by decide) (fun v21 σ22 hOσ22 hT hqv21 => ?_)
          have hqv21 : WI 2 σ22.1 := hqv21
          have hD : RD σ22.1 := RD.tr hOσ22 (by decide) (by decide) (by decide) (by decide) hD
          have hW : WI 2 σ22.1 := hqv21
          exact ok_rZ (Or.inr rfl) ⟨hT, (show ((1 : Int32) = 0 ∨ (1 : Int32) = 1) ∧ RD σ22.1 ∧ WI 2 σ22.1 from by first | exact ⟨Or.inl rfl, hD, hW⟩ | exact ⟨Or.inr rfl, hD, hW⟩ | exact ⟨Or.inl hqv21.1, hD, hW⟩)⟩
    · rw [J_X5_readEdge_49.eq_1]
      refine ok_gC rfl ?_
      refine ok_zbT (Q := fun V σ => (V = 0 ∨ V = 1) ∧ RD σ.1 ∧ (¬ V = 0 → 1 ≤ (σ.1 57 9).toInt ∧ (0 : Int32).toInt ≤ (lastv σ.1).toInt ∧ (lastv σ.1).toInt ≤ (7 : Int32).toInt)) hT (s_X5_passNumber hN (hR.tr hT) (by first | exact hX | exact hT.1.2 hX) (hD)) (by decide) (fun v23 σ24 hOσ24 hT hqv23 => ?_)
      have hqv23 : (v23 = 0 ∨ v23 = 1) ∧ RD σ24.1 ∧ (¬ v23 = 0 → 1 ≤ (σ24.1 57 9).toInt ∧ (0 : Int32).toInt ≤ (lastv σ24.1).toInt ∧ (lastv σ24.1).toInt ≤ (7 : Int32).toInt) := hqv23
      have hD : RD σ24.1 := by first | exact hqv23.2 | exact hqv23.2.1
      have hW : WI 2 σ24.1 := WI.tr hOσ24 (by decide) (by decide) (by decide) hW
      refine ok_if (fun hc25 => ?_) (fun hc25 => ?_)
      · exact ok_rZ (Or.inl rfl) ⟨hT, (show ((0 : Int32) = 0 ∨ (0 : Int32) = 1) ∧ RD σ24.1 ∧ WI 2 σ24.1 from by first | exact ⟨Or.inl rfl, hD, hW⟩ | exact ⟨Or.inr rfl, hD, hW⟩ | exact ⟨Or.inl hqv23.1, hD, hW⟩)⟩
      · have q5 := hqv23.2.2 hc25
        refine ok_gC rfl ?_
        refine ok_zbT (Q := fun V σ => 1 ≤ (σ24.1 57 9).toInt → V = lastv σ24.1) hT (s_X5_passed hN (hR.tr hT) (by first | exact hX | exact hT.1.2 hX) (hD)) (fun _ h9 => absurd h9 List.not_mem_nil) (fun v26 σ27 hOσ27 hT hqv26 => ?_)
        have hqv26 : 1 ≤ (σ24.1 57 9).toInt → v26 = lastv σ24.1 := hqv26
        have hD : RD σ27.1 := RD.tr hOσ27 (by decide) (by decide) (by decide) (by decide) hD
        have hW : WI 2 σ27.1 := WI.tr hOσ27 (by decide) (by decide) (by decide) hW
        have q6 := hqv26 q5.1
        have r6 : 0 ≤ v26.toInt ∧ v26.toInt ≤ 7 := by rw [q6]; have q9 := q5.2; simp only [Int32.reduceToInt] at q9; omega
        refine ok_gC rfl ?_
        refine ok_zbT (Q := fun V σ => WI 2 σ.1) hT (s_X10_addEdge_2 hN (hR.tr hT) (by exact hW) (by have q1 := hD.1; have q2 := hD.2.1; have q3 := hD0.1; have q4 := hD0.2.1; first | omega | decide | (simp only [Int32.le_iff_toInt_le, Int32.lt_iff_toInt_lt, ti_add, ti_sub, ti_mul, Int32.reduceToInt] at *; omega) | (exfalso; simp_all; done)) (by have q1 := hD.1; have q2 := hD.2.1; have q3 := hD0.1; have q4 := hD0.2.1; first | omega | decide | (simp only [Int32.le_iff_toInt_le, Int32.lt_iff_toInt_lt, ti_add, ti_sub, ti_mul, Int32.reduceToInt] at *; omega) | (exfalso; simp_all; done))) (by decide) (fun v28 σ29 hOσ29 hT hqv28 => ?_)
        have hqv28 : WI 2 σ29.1 := hqv28
        have hD : RD σ29.1 := RD.tr hOσ29 (by decide) (by decide) (by decide) (by decide) hD
        have hW : WI 2 σ29.1 := hqv28
        exact ok_rZ (Or.inr rfl) ⟨hT, (show ((1 : Int32) = 0 ∨ (1 : Int32) = 1) ∧ RD σ29.1 ∧ WI 2 σ29.1 from by first | exact ⟨Or.inl rfl, hD, hW⟩ | exact ⟨Or.inr rfl, hD, hW⟩ | exact ⟨Or.inl hqv28.1, hD, hW⟩)⟩

set_option maxHeartbeats 4000000 in
set_option maxRecDepth 100000 in
theorem s_X5_readLine_2 {N : Nat} (hN : 1048576 ≤ N)  {σ0 : zS}  (hR : RF σ0.2.2) (hX : σ0.2.2 57 5 = 1) (hD : RD σ0.1) (hW : WI 2 σ0.1) : Ok (f_X5_readLine N 57 2 σ0) (fun r => Tr [2, 3, 4, 5, 57, 58, 59] σ0 r.2 ∧ ((r.1 = 0 ∨ r.1 = 1) ∧ RD r.2.1 ∧ WI 2 r.2.1)) := by
  have hT : Tr [2, 3, 4, 5, 57, 58, 59] σ0 σ0 := Tr.rf
  have hD0 := hD
  rw [f_X5_readLine.eq_1]
  refine ok_gR (v := 61) hT rfl (hR 57 10 rfl) ?_
  refine ok_gI rfl ?_
  refine ok_aIn rfl (by have q1 := hD.1; have q2 := hD.2.1; have q3 := hD0.1; have q4 := hD0.2.1; first | omega | decide | (simp only [Int32.le_iff_toInt_le, Int32.lt_iff_toInt_lt, ti_add, ti_sub, ti_mul, Int32.reduceToInt] at *; omega) | (exfalso; simp_all; done)) (by have q1 := hD.1; have q2 := hD.2.1; have q3 := hD0.1; have q4 := hD0.2.1; first | omega | decide | (simp only [Int32.le_iff_toInt_le, Int32.lt_iff_toInt_lt, ti_add, ti_sub, ti_mul, Int32.reduceToInt] at *; omega) | (exfalso; simp_all; done)) (fun v3 ev3 => ?_)
  refine ok_if (fun hc4 => ?_) (fun hc4 => ?_)
  · refine ok_gR (v := 62) hT rfl (hR 57 11 rfl) ?_
    refine ok_gI rfl ?_
    refine ok_aIn rfl (by have q1 := hD.1; have q2 := hD.2.1; have q3 := hD0.1; have q4 := hD0.2.1; first | omega | decide | (simp only [Int32.le_iff_toInt_le, Int32.lt_iff_toInt_lt, ti_add, ti_sub, ti_mul, Int32.reduceToInt] at *; omega) | (exfalso; simp_all; done)) (by have q1 := hD.1; have q2 := hD.2.1; have q3 := hD0.1; have q4 := hD0.2.1; first | omega | decide | (simp only [Int32.le_iff_toInt_le, Int32.lt_iff_toInt_lt, ti_add, ti_sub, ti_mul, Int32.reduceToInt] at *; omega) | (exfalso; simp_all; done)) (fun v7 ev7 => ?_)
    rw [J_X5_readLine_26.eq_1]
    refine ok_gI rfl ?_
    refine ok_if (fun hc9 => ?_) (fun hc9 => ?_)
    · rw [J_X5_readLine_39.eq_1]
      refine ok_if (fun hc10 => ?_) (fun hc10 => ?_)
      · rw [J_X5_readLine_51.eq_1]
        refine ok_if (fun hc11 => ?_) (fun hc11 => ?_)
        · refine ok_if (fun hc12 => ?_) (fun hc12 => ?_)
          · refine ok_gC rfl ?_
            refine ok_zbT (Q := fun V σ => V = 0 ∧ RD σ.1) hT (s_X5_fail hN (hR.tr hT) (by first | exact hX | exact hT.1.2 hX) (hD)) (by decide) (fun v13 σ14 hOσ14 hT hqv13 => ?_)
            have hqv13 : v13 = 0 ∧ RD σ14.1 := hqv13
            have hD : RD σ14.1 := by first | exact hqv13.2 | exact hqv13.2.1
            have hW : WI 2 σ14.1 := WI.tr hOσ14 (by decide) (by decide) (by decide) hW
            exact ok_rZ (by have q := hqv13.1; first | exact q | exact Or.inl q | exact Or.inr q) ⟨hT, (show (v13 = 0 ∨ v13 = 1) ∧ RD σ14.1 ∧ WI 2 σ14.1 from by first | exact ⟨Or.inl rfl, hD, hW⟩ | exact ⟨Or.inr rfl, hD, hW⟩ | exact ⟨Or.inl hqv13.1, hD, hW⟩ | exact ⟨hqv13.1, hD, hW⟩)⟩
          · refine ok_if (fun hc15 => ?_) (fun hc15 => ?_)
            · refine ok_if (fun hc16 => ?_) (fun hc16 => ?_)
              · refine ok_gI rfl ?_
                refine ok_gI rfl ?_
                refine ok_if (fun hc19 => ?_) (fun hc19 => ?_)
                · rw [J_X5_readLine_92.eq_1]
                  refine ok_gC rfl ?_
                  refine ok_zbT (Q := fun V σ => (V = 0 ∨ V = 1) ∧ RD σ.1) hT (s_X5_pass hN (hR.tr hT) (by first | exact hX | exact hT.1.2 hX) (hD)) (by decide) (fun v20 σ21 hOσ21 hT hqv20 => ?_)
                  have hqv20 : (v20 = 0 ∨ v20 = 1) ∧ RD σ21.1 := hqv20
                  have hD : RD σ21.1 := by first | exact hqv20.2 | exact hqv20.2.1
                  have hW : WI 2 σ21.1 := WI.tr hOσ21 (by decide) (by decide) (by decide) hW
                  refine ok_gR (v := 62) hT rfl (hR 57 11 rfl) ?_
                  refine ok_gI rfl ?_
                  refine ok_aIn rfl (by have q1 := hD.1; have q2 := hD.2.1; have q3 := hD0.1; have q4 := hD0.2.1; first | omega | decide | (simp only [Int32.le_iff_toInt_le, Int32.lt_iff_toInt_lt, ti_add, ti_sub, ti_mul, Int32.reduceToInt] at *; omega) | (exfalso; simp_all; done)) (by have q1 := hD.1; have q2 := hD.2.1; have q3 := hD0.1; have q4 := hD0.2.1; first | omega | decide | (simp only [Int32.le_iff_toInt_le, Int32.lt_iff_toInt_lt, ti_add, ti_sub, ti_mul, Int32.reduceToInt] at *; omega) | (exfalso; simp_all; done)) (fun v24 ev24 => ?_)
                  refine ok_if (fun hc25 => ?_) (fun hc25 => ?_)
                  · refine ok_gC rfl ?_
                    refine ok_zbT (Q := fun V σ => (V = 0 ∨ V = 1) ∧ RD σ.1 ∧ WI 2 σ.1) hT (s_X5_readNames_2 hN (hR.tr hT) (by first | exact hX | exact hT.1.2 hX) (hD) (hW)) (by decide) (fun v26 σ27 hOσ27 hT hqv26 => ?_)
                    have hqv26 : (v26 = 0 ∨ v26 = 1) ∧ RD σ27.1 ∧ WI 2 σ27.1 := hqv26
                    have hD : RD σ27.1 := by first | exact hqv26.2 | exact hqv26.2.1
                    have hW : WI 2 σ27.1 := by first | exact hqv26.2.2 | exact hqv26
                    rw [J_X5_readLine_211.eq_1]
                    refine ok_if (fun hc28 => ?_) (fun hc28 => ?_)
                    · exact ok_rZ (Or.inl rfl) ⟨hT, (show ((0 : Int32) = 0 ∨ (0 : Int32) = 1) ∧ RD σ27.1 ∧ WI 2 σ27.1 from by first | exact ⟨Or.inl rfl, hD, hW⟩ | exact ⟨Or.inr rfl, hD, hW⟩ | exact ⟨Or.inl hqv26.1, hD, hW⟩ | exact ⟨hqv26.1, hD, hW⟩)⟩
                    · refine ok_gC rfl ?_
                      refine ok_zbT (Q := fun V σ => (V = 0 ∨ V = 1) ∧ RD σ.1) hT (s_X5_pass hN (hR.tr hT) (by first | exact hX | exact hT.1.2 hX) (hD)) (by decide) (fun v29 σ30 hOσ30 hT hqv29 => ?_)
                      have hqv29 : (v29 = 0 ∨ v29 = 1) ∧ RD σ30.1 := hqv29
                      have hD : RD σ30.1 := by first | exact hqv29.2 | exact hqv29.2.1
                      have hW : WI 2 σ30.1 := WI.tr hOσ30 (by decide) (by decide) (by decide) hW
                      refine ok_if (fun hc31 => ?_) (fun hc31 => ?_)
                      · exact ok_rZ (Or.inl rfl) ⟨hT, (show ((0 : Int32) = 0 ∨ (0 : Int32) = 1) ∧ RD σ30.1 ∧ WI 2 σ30.1 from by first | exact ⟨Or.inl rfl, hD, hW⟩ | exact ⟨Or.inr rfl, hD, hW⟩ | exact ⟨Or.inl hqv29.1, hD, hW⟩ | exact ⟨hqv29.1, hD, hW⟩)⟩
                      · exact ok_rZ (Or.inr rfl) ⟨hT, (show ((1 : Int32) = 0 ∨ (1 : Int32) = 1) ∧ RD σ30.1 ∧ WI 2 σ30.1 from by first | exact ⟨Or.inl rfl, hD, hW⟩ | exact ⟨Or.inr rfl, hD, hW⟩ | exact ⟨Or.inl hqv29.1, hD, hW⟩ | exact ⟨hqv29.1, hD, hW⟩)⟩
                  refine ok_if (fun hc32 => ?_) (fun hc32 => ?_)
                  · refine ok_gC rfl ?_
                    refine ok_zbT (Q := fun V σ => (V = 0 ∨ V = 1) ∧ RD σ.1 ∧ WI 2 σ.1) hT (s_X5_readWeight_2 hN (hR.tr hT) (by first | exact hX | exact hT.1.2 hX) (hD) (hW)) (by decide) (fun v33 σ34 hOσ34 hT hqv33 => ?_)
                    have hqv33 : (v33 = 0 ∨ v33 = 1) ∧ RD σ34.1 ∧ WI 2 σ34.1 := hqv33
                    have hD : RD σ34.1 := by first | exact hqv33.2 | exact hqv33.2.1
                    have hW : WI 2 σ34.1 := WI.tr hOσ34 (by decide) (by decide) (by decide) hW
                    rw [J_X5_readLine_211.eq_1]
                    refine ok_if (fun hc35 => ?_) (fun hc35 => ?_)
                    · exact ok_rZ (Or.inl rfl) ⟨hT, (show ((0 : Int32) = 0 ∨ (0 : Int32) = 1) ∧ RD σ34.1 ∧ WI 2 σ34.1 from by first | exact ⟨Or.inl rfl, hD, hW⟩ | exact ⟨Or.inr rfl, hD, hW⟩ | exact ⟨Or.inl hqv33.1, hD, hW⟩ | exact ⟨hqv33.1, hD, hW⟩)⟩
                    · refine ok_gC rfl ?_
                      refine ok_zbT (Q := fun V σ => (V = 0 ∨ V = 1) ∧ RD σ.1) hT (s_X5_pass hN (hR.tr hT) (by first | exact hX | exact hT.1.2 hX) (hD)) (by decide) (fun v36 σ37 hOσ37 hT hqv36 => ?_)
                      have hqv36 : (v36 = 0 ∨ v36 = 1) ∧ RD σ37.1 := hqv36
                      have hD : RD σ37.1 := by first | exact hqv36.2 | exact hqv36.2.1
                      have hW : WI 2 σ37.1 := WI.tr hOσ37 (by decide) (by decide) (by decide) hW
                      refine ok_if (fun hc38 => ?_) (fun hc38 => ?_)
                      · exact ok_rZ (Or.inl rfl) ⟨hT, (show ((0 : Int32) = 0 ∨ (0 : Int32) = 1) ∧ RD σ37.1 ∧ WI 2 σ37.1 from by first | exact ⟨Or.inl rfl, hD, hW⟩ | exact ⟨Or.inr rfl, hD, hW⟩ | exact ⟨Or.inl hqv36.1, hD, hW⟩ | exact ⟨hqv36.1, hD, hW⟩)⟩
                      · exact ok_rZ (Or.inr rfl) ⟨hT, (show ((1 : Int32) = 0 ∨ (1 : Int32) = 1) ∧ RD σ37.1 ∧ WI 2 σ37.1 from by first | exact ⟨Or.inl rfl, hD, hW⟩ | exact ⟨Or.inr rfl, hD, hW⟩ | exact ⟨Or.inl hqv36.1, hD, hW⟩ | exact ⟨hqv36.1, hD, hW⟩)⟩
                  refine ok_if (fun hc39 => ?_) (fun hc39 => ?_)
                  · refine ok_gC rfl ?_
                    refine ok_zbT (Q := fun V σ => (V = 0 ∨ V = 1) ∧ RD σ.1 ∧ WI 2 σ.1) hT (s_X5_readEdge_2 hN (hR.tr hT) (by first | exact hX | exact hT.1.2 hX) (hD) (hW)) (by decide) (fun v40 σ41 hOσ41 hT hqv40 => ?_)
                    have hqv40 : (v40 = 0 ∨ v40 = 1) ∧ RD σ41.1 ∧ WI 2 σ41.1 := hqv40
                    have hD : RD σ41.1 := by first | exact hqv40.2 | exact hqv40.2.1
                    have hW : WI 2 σ41.1 := by first | exact hqv40.2.2 | exact hqv40
                    rw [J_X5_readLine_211.eq_1]
                    refine ok_if (fun hc42 => ?_) (fun hc42 => ?_)
                    · exact ok_rZ (Or.inl rfl) ⟨hT, (show ((0 : Int32) = 0 ∨ (0 : Int32) = 1) ∧ RD σ41.1 ∧ WI 2 σ41.1 from by first | exact ⟨Or.inl rfl, hD, hW⟩ | exact ⟨Or.inr rfl, hD, hW⟩ | exact ⟨Or.inl hqv40.1, hD, hW⟩ | exact ⟨hqv40.1, hD, hW⟩)⟩
                    · refine ok_gC rfl ?_
                      refine ok_zbT (Q := fun V σ => (V = 0 ∨ V = 1) ∧ RD σ.1) hT (s_X5_pass hN (hR.tr hT) (by first | exact hX | exact hT.1.2 hX) (hD)) (by decide) (fun v43 σ44 hOσ44 hT hqv43 => ?_)
                      have hqv43 : (v43 = 0 ∨ v43 = 1) ∧ RD σ44.1 := hqv43
                      have hD : RD σ44.1 := by first | exact hqv43.2 | exact hqv43.2.1
                      have hW : WI 2 σ44.1 := WI.tr hOσ44 (by decide) (by decide) (by decide) hW
                      refine ok_if (fun hc45 => ?_) (fun hc45 => ?_)
                      · exact ok_rZ (Or.inl rfl) ⟨hT, (show ((0 : Int32) = 0 ∨ (0 : Int32) = 1) ∧ RD σ44.1 ∧ WI 2 σ44.1 from by first | exact ⟨Or.inl rfl, hD, hW⟩ | exact ⟨Or.inr rfl, hD, hW⟩ | exact ⟨Or.inl hqv43.1, hD, hW⟩ | exact ⟨hqv43.1, hD, hW⟩)⟩
                      · exact ok_rZ (Or.inr rfl) ⟨hT, (show ((1 : Int32) = 0 ∨ (1 : Int32) = 1) ∧ RD σ44.1 ∧ WI 2 σ44.1 from by first | exact ⟨Or.inl rfl, hD, hW⟩ | exact ⟨Or.inr rfl, hD, hW⟩ | exact ⟨Or.inl hqv43.1, hD, hW⟩ | exact ⟨hqv43.1, hD, hW⟩)⟩
                  refine ok_gC rfl ?_
                  refine ok_zbT (Q := fun V σ => (V = 0 ∨ V = 1) ∧ RD σ.1 ∧ (¬ V = 0 → 1 ≤ (σ.1 57 9).toInt ∧ (0 : Int32).toInt ≤ (lastv σ.1).toInt ∧ (lastv σ.1).toInt ≤ (9 : Int32).toInt)) hT (s_X5_passNumber hN (hR.tr hT) (by first | exact hX | exact hT.1.2 hX) (hD)) (by decide) (fun v46 σ47 hOσ47 hT hqv46 => ?_)
                  have hqv46 : (v46 = 0 ∨ v46 = 1) ∧ RD σ47.1 ∧ (¬ v46 = 0 → 1 ≤ (σ47.1 57 9).toInt ∧ (0 : Int32).toInt ≤ (lastv σ47.1).toInt ∧ (lastv σ47.1).toInt ≤ (9 : Int32).toInt) := hqv46
                  have hD : RD σ47.1 := by first | exact hqv46.2 | exact hqv46.2.1
                  have hW : WI 2 σ47.1 := WI.tr hOσ47 (by decide) (by decide) (by decide) hW
                  refine ok_if (fun hc48 => ?_) (fun hc48 => ?_)
                  · rw [J_X5_readLine_211.eq_1]
                    refine ok_if (fun hc49 => ?_) (fun hc49 => ?_)
                    · exact ok_rZ (Or.inl rfl) ⟨hT, (show ((0 : Int32) = 0 ∨ (0 : Int32) = 1) ∧ RD σ47.1 ∧ WI 2 σ47.1 from by first | exact ⟨Or.inl rfl, hD, hW⟩ | exact ⟨Or.inr rfl, hD, hW⟩ | exact ⟨Or.inl hqv46.1, hD, hW⟩ | exact ⟨hqv46.1, hD, hW⟩)⟩
                    · refine ok_gC rfl ?_
                      refine ok_zbT (Q := fun V σ => (V = 0 ∨ V = 1) ∧ RD σ.1) hT (s_X5_pass hN (hR.tr hT) (by first | exact hX | exact hT.1.2 hX) (hD)) (by decide) (fun v50 σ51 hOσ51 hT hqv50 => ?_)
                      have hqv50 : (v50 = 0 ∨ v50 = 1) ∧ RD σ51.1 := hqv50
                      have hD : RD σ51.1 := by first | exact hqv50.2 | exact hqv50.2.1
                      have hW : WI 2 σ51.1 := WI.tr hOσ51 (by decide) (by decide) (by decide) hW
                      refine ok_if (fun hc52 => ?_) (fun hc52 => ?_)
                      · exact ok_rZ (Or.inl rfl) ⟨hT, (show ((0 : Int32) = 0 ∨ (0 : Int32) = 1) ∧ RD σ51.1 ∧ WI 2 σ51.1 from by first | exact ⟨Or.inl rfl, hD, hW⟩ | exact ⟨Or.inr rfl, hD, hW⟩ | exact ⟨Or.inl hqv50.1, hD, hW⟩ | exact ⟨hqv50.1, hD, hW⟩)⟩
                      · exact ok_rZ (Or.inr rfl) ⟨hT, (show ((1 : Int32) = 0 ∨ (1 : Int32) = 1) ∧ RD σ51.1 ∧ WI 2 σ51.1 from by first | exact ⟨Or.inl rfl, hD, hW⟩ | exact ⟨Or.inr rfl, hD, hW⟩ | exact ⟨Or.inl hqv50.1, hD, hW⟩ | exact ⟨hqv50.1, hD, hW⟩)⟩
                  · refine ok_gC rfl ?_
                    refine ok_zbT (Q := fun V σ => (V = 0 ∨ V = 1) ∧ RD σ.1) hT (s_X5_pass hN (hR.tr hT) (by first | exact hX | exact hT.1.2 hX) (hD)) (by decide) (fun v53 σ54 hOσ54 hT hqv53 => ?_)
                    have hqv53 : (v53 = 0 ∨ v53 = 1) ∧ RD σ54.1 := hqv53
                    have hD : RD σ54.1 := by first | exact hqv53.2 | exact hqv53.2.1
                    have hW : WI 2 σ54.1 := WI.tr hOσ54 (by decide) (by decide) (by decide) hW
                    refine ok_if (fun hc55 => ?_) (fun hc55 => ?_)
                    · rw [J_X5_readLine_211.eq_1]
                      refine ok_if (fun hc56 => ?_) (fun hc56 => ?_)
                      · exact ok_rZ (Or.inl rfl) ⟨hT, (show ((0 : Int32) = 0 ∨ (0 : Int32) = 1) ∧ RD σ54.1 ∧ WI 2 σ54.1 from by first | exact ⟨Or.inl rfl, hD, hW⟩ | exact ⟨Or.inr rfl, hD, hW⟩ | exact ⟨Or.inl hqv53.1, hD, hW⟩ | exact ⟨hqv53.1, hD, hW⟩)⟩
                      · refine ok_gC rfl ?_
                        refine ok_zbT (Q := fun V σ => (V = 0 ∨ V = 1) ∧ RD σ.1) hT (s_X5_pass hN (hR.tr hT) (by first | exact hX | exact hT.1.2 hX) (hD)) (by decide) (fun v57 σ58 hOσ58 hT hqv57 => ?_)
                        have hqv57 : (v57 = 0 ∨ v57 = 1) ∧ RD σ58.1 := hqv57
                        have hD : RD σ58.1 := by first | exact hqv57.2 | exact hqv57.2.1
                        have hW : WI 2 σ58.1 := WI.tr hOσ58 (by decide) (by decide) (by decide) hW
                        refine ok_if (fun hc59 => ?_) (fun hc59 => ?_)
                        · exact ok_rZ (Or.inl rfl) ⟨hT, (show ((0 : Int32) = 0 ∨ (0 : Int32) = 1) ∧ RD σ58.1 ∧ WI 2 σ58.1 from by first | exact ⟨Or.inl rfl, hD, hW⟩ | exact ⟨Or.inr rfl, hD, hW⟩ | exact ⟨Or.inl hqv57.1, hD, hW⟩ | exact ⟨hqv57.1, hD, hW⟩)⟩
                        · exact ok_rZ (Or.inr rfl) ⟨hT, (show ((1 : Int32) = 0 ∨ (1 : Int32) = 1) ∧ RD σ58.1 ∧ WI 2 σ58.1 from by first | exact ⟨Or.inl rfl, hD, hW⟩ | exact ⟨Or.inr rfl, hD, hW⟩ | exact ⟨Or.inl hqv57.1, hD, hW⟩ | exact ⟨hqv57.1, hD, hW⟩)⟩
                    · refine ok_gC rfl ?_
                      refine ok_zbT (Q := fun V σ => (V = 0 ∨ V = 1) ∧ RD σ.1) hT (s_X5_sum hN (hR.tr hT) (by first | exact hX | exact hT.1.2 hX) (hD) (by have q1 := hD.1; have q2 := hD.2.1; have q3 := hD0.1; have q4 := hD0.2.1; first | omega | decide | (simp only [Int32.le_iff_toInt_le, Int32.lt_iff_toInt_lt, ti_add, ti_sub, ti_mul, Int32.reduceToInt] at *; omega) | (exfalso; simp_all; done)) (by have q1 := hD.1; have q2 := hD.2.1; have q3 := hD0.1; have q4 := hD0.2.1; first | omega | decide | (simp only [Int32.le_iff_toInt_le, Int32.lt_iff_toInt_lt, ti_add, ti_sub, ti_mul, Int32.reduceToInt] at *; omega) | (exfalso; simp_all; done))) (by decide) (fun v60 σ61 hOσ61 hT hqv60 => ?_)
                      have hqv60 : (v60 = 0 ∨ v60 = 1) ∧ RD σ61.1 := hqv60
                      have hD : RD σ61.1 := by first | exact hqv60.2 | exact hqv60.2.1
                      have hW : WI 2 σ61.1 := WI.tr hOσ61 (by decide) (by decide) (by decide) hW
                      refine ok_if (fun hc62 => ?_) (fun hc62 => ?_)
                      · rw [J_X5_readLine_211.eq_1]
                        refine ok_if (fun hc63 => ?_) (fun hc63 => ?_)
                        · exact ok_rZ (Or.inl rfl) ⟨hT, (show ((0 : Int32) = 0 ∨ (0 : Int32) = 1) ∧ RD σ61.1 ∧ WI 2 σ61.1 from by first | exact ⟨Or.inl rfl, hD, hW⟩ | exact ⟨Or.inr rfl, hD, hW⟩ | exact ⟨Or.inl hqv60.1, hD, hW⟩ | exact ⟨hqv60.1, hD, hW⟩)⟩
                        · refine ok_gC rfl ?_
                          refine ok_zbT (Q := fun V σ => (V = 0 ∨ V = 1) ∧ RD σ.1) hT (s_X5_pass hN (hR.tr hT) (by first | exact hX | exact hT.1.2 hX) (hD)) (by decide) (fun v64 σ65 hOσ65 hT hqv64 => ?_)
                          have hqv64 : (v64 = 0 ∨ v64 = 1) ∧ RD σ65.1 := hqv64
                          have hD : RD σ65.1 := by first | exact hqv64.2 | exact hqv64.2.1
                          have hW : WI 2 σ65.1 := WI.tr hOσ65 (by decide) (by decide) (by decide) hW
                          refine ok_if (fun hc66 => ?_) (fun hc66 => ?_)
                          · exact ok_rZ (Or.inl rfl) ⟨hT, (show ((0 : Int32) = 0 ∨ (0 : Int32) = 1) ∧ RD σ65.1 ∧ WI 2 σ65.1 from by first | exact ⟨Or.inl rfl, hD, hW⟩ | exact ⟨Or.inr rfl, hD, hW⟩ | exact ⟨Or.inl hqv64.1, hD, hW⟩ | exact ⟨hqv64.1, hD, hW⟩)⟩
                          · exact ok_rZ (Or.inr rfl) ⟨hT, (show ((1 : Int32) = 0 ∨ (1 : Int32) = 1) ∧ RD σ65.1 ∧ WI 2 σ65.1 from by first | exact ⟨Or.inl rfl, hD, hW⟩ | exact ⟨Or.inr rfl, hD, hW⟩ | exact ⟨Or.inl hqv64.1, hD, hW⟩ | exact ⟨hqv64.1, hD, hW⟩)⟩
                      · refine ok_gC rfl ?_
                        refine ok_zbT (Q := fun V σ => V = 1 ∧ RD σ.1) hT (s_X5_emit hN (hR.tr hT) (by first | exact hX | exact hT.1.2 hX) (hD)) (by decide) (fun v67 σ68 hOσ68 hT hqv67 => ?_)
                        have hqv67 : v67 = 1 ∧ RD σ68.1 := hqv67
                        have hD : RD σ68.1 := by first | exact hqv67.2 | exact hqv67.2.1
                        have hW : WI 2 σ68.1 := WI.tr hOσ68 (by decide) (by decide) (by decide) hW
                        refine ok_if (fun hc69 => ?_) (fun hc69 => ?_)
                        · rw [J_X5_readLine_211.eq_1]
                          refine ok_if (fun hc70 => ?_) (fun hc70 => ?_)
                          · exact ok_rZ (Or.inl rfl) ⟨hT, (show ((0 : Int32) = 0 ∨ (0 : Int32) = 1) ∧ RD σ68.1 ∧ WI 2 σ68.1 from by first | exact ⟨Or.inl rfl, hD, hW⟩ | exact ⟨Or.inr rfl, hD, hW⟩ | exact ⟨Or.inl hqv67.1, hD, hW⟩ | exact ⟨hqv67.1, hD, hW⟩)⟩
                          · refine ok_gC rfl ?_
                            refine ok_zbT (Q := fun V σ => (V = 0 ∨ V = 1) ∧ RD σ.1) hT (s_X5_pass hN (hR.tr hT) (by first | exact hX | exact hT.1.2 hX) (hD)) (by decide) (fun v71 σ72 hOσ72 hT hqv71 => ?_)
                            have hqv71 : (v71 = 0 ∨ v71 = 1) ∧ RD σ72.1 := hqv71
                            have hD : RD σ72.1 := by first | exact hqv71.2 | exact hqv71.2.1
                            have hW : WI 2 σ72.1 := WI.tr hOσ72 (by decide) (by decide) (by decide) hW
                            refine ok_if (fun hc73 => ?_) (fun hc73 => ?_)
                            · exact ok_rZ (Or.inl rfl) ⟨hT, (show ((0 : Int32) = 0 ∨ (0 : Int32) = 1) ∧ RD σ72.1 ∧ WI 2 σ72.1 from by first | exact ⟨Or.inl rfl, hD, hW⟩ | exact ⟨Or.inr rfl, hD, hW⟩ | exact ⟨Or.inl hqv71.1, hD, hW⟩ | exact ⟨hqv71.1, hD, hW⟩)⟩
                            · exact ok_rZ (Or.inr rfl) ⟨hT, (show ((1 : Int32) = 0 ∨ (1 : Int32) = 1) ∧ RD σ72.1 ∧ WI 2 σ72.1 from by first | exact ⟨Or.inl rfl, hD, hW⟩ | exact ⟨Or.inr rfl, hD, hW⟩ | exact ⟨Or.inl hqv71.1, hD, hW⟩ | exact ⟨hqv71.1, hD, hW⟩)⟩
                        · rw [J_X5_readLine_211.eq_1]
                          refine ok_if (fun hc74 => ?_) (fun hc74 => ?_)
                          · exact ok_rZ (Or.inl rfl) ⟨hT, (show ((0 : Int32) = 0 ∨ (0 : Int32) = 1) ∧ RD σ68.1 ∧ WI 2 σ68.1 from by first | exact ⟨Or.inl rfl, hD, hW⟩ | exact ⟨Or.inr rfl, hD, hW⟩ | exact ⟨Or.inl hqv67.1, hD, hW⟩ | exact ⟨hqv67.1, hD, hW⟩)⟩
                          · refine ok_gC rfl ?_
                            refine ok_zbT (Q := fun V σ => (V = 0 ∨ V = 1) ∧ RD σ.1) hT (s_X5_pass hN (hR.tr hT) (by first | exact hX | exact hT.1.2 hX) (hD)) (by decide) (fun v75 σ76 hOσ76 hT hqv75 => ?_)
                            have hqv75 : (v75 = 0 ∨ v75 = 1) ∧ RD σ76.1 := hqv75
                            have hD : RD σ76.1 := by first | exact hqv75.2 | exact hqv75.2.1
                            have hW : WI 2 σ76.1 := WI.tr hOσ76 (by decide) (by decide) (by decide) hW
                            refine ok_if (fun hc77 => ?_) (fun hc77 => ?_)
                            · exact ok_rZ (Or.inl rfl) ⟨hT, (show ((0 : Int32) = 0 ∨ (0 : Int32) = 1) ∧ RD σ76.1 ∧ WI 2 σ76.1 from by first | exact ⟨Or.inl rfl, hD, hW⟩ | exact ⟨Or.inr rfl, hD, hW⟩ | exact ⟨Or.inl hqv75.1, hD, hW⟩ | exact ⟨hqv75.1, hD, hW⟩)⟩
                            · exact ok_rZ (Or.inr rfl) ⟨hT, (show ((1 : Int32) = 0 ∨ (1 : Int32) = 1) ∧ RD σ76.1 ∧ WI 2 σ76.1 from by first | exact ⟨Or.inl rfl, hD, hW⟩ | exact ⟨Or.inr rfl, hD, hW⟩ | exact ⟨Or.inl hqv75.1, hD, hW⟩ | exact ⟨hqv75.1, hD, hW⟩)⟩
                · refine ok_gC rfl ?_
                  refine ok_zbT (Q := fun V σ => V = 0 ∧ RD σ.1) hT (s_X5_fail hN (hR.tr hT) (by first | exact hX | exact hT.1.2 hX) (hD)) (by decide) (fun v78 σ79 hOσ79 hT hqv78 => ?_)
                  have hqv78 : v78 = 0 ∧ RD σ79.1 := hqv78
                  have hD : RD σ79.1 := by first | exact hqv78.2 | exact hqv78.2.1
                  have hW : WI 2 σ79.1 := WI.tr hOσ79 (by decide) (by decide) (by decide) hW
                  exact ok_rZ (by have q := hqv78.1; first | exact q | exact Or.inl q | exact Or.inr q) ⟨hT, (show (v78 = 0 ∨ v78 = 1) ∧ RD σ79.1 ∧ WI 2 σ79.1 from by first | exact ⟨Or.inl rfl, hD, hW⟩ | exact ⟨Or.inr rfl, hD, hW⟩ | exact ⟨Or.inl hqv78.1, hD, hW⟩ | exact ⟨hqv78.1, hD, hW⟩)⟩
              · rw [J_X5_readLine_92.eq_1]
                refine ok_gC rfl ?_
                refine ok_zbT (Q := fun V σ => (V = 0 ∨ V = 1) ∧ RD σ.1) hT (s_X5_pass hN (hR.tr hT) (by first | exact hX | exact hT.1.2 hX) (hD)) (by decide) (fun v80 σ81 hOσ81 hT hqv80 => ?_)
                have hqv80 : (v80 = 0 ∨ v80 = 1) ∧ RD σ81.1 := hqv80
                have hD : RD σ81.1 := by first | exact hqv80.2 | exact hqv80.2.1
                have hW : WI 2 σ81.1 := WI.tr hOσ81 (by decide) (by decide) (by decide) hW
                refine ok_gR (v := 62) hT rfl (hR 57 11 rfl) ?_
                refine ok_gI rfl ?_
                refine ok_aIn rfl (by have q1 := hD.1; have q2 := hD.2.1; have q3 := hD0.1; have q4 := hD0.2.1; first | omega | decide | (simp only [Int32.le_iff_toInt_le, Int32.lt_iff_toInt_lt, ti_add, ti_sub, ti_mul, Int32.reduceToInt] at *; omega) | (exfalso; simp_all; done)) (by have q1 := hD.1; have q2 := hD.2.1; have q3 := hD0.1; have q4 := hD0.2.1; first | omega | decide | (simp only [Int32.le_iff_toInt_le, Int32.lt_iff_toInt_lt, ti_add, ti_sub, ti_mul, Int32.reduceToInt] at *; omega) | (exfalso; simp_all; done)) (fun v84 ev84 => ?_)
                refine ok_if (fun hc85 => ?_) (fun hc85 => ?_)
                · refine ok_gC rfl ?_
                  refine ok_zbT (Q := fun V σ => (V = 0 ∨ V = 1) ∧ RD σ.1 ∧ WI 2 σ.1) hT (s_X5_readNames_2 hN (hR.tr hT) (by first | exact hX | exact hT.1.2 hX) (hD) (hW)) (by decide) (fun v86 σ87 hOσ87 hT hqv86 => ?_)
                  have hqv86 : (v86 = 0 ∨ v86 = 1) ∧ RD σ87.1 ∧ WI 2 σ87.1 := hqv86
                  have hD : RD σ87.1 := by first | exact hqv86.2 | exact hqv86.2.1
                  have hW : WI 2 σ87.1 := by first | exact hqv86.2.2 | exact hqv86
                  rw [J_X5_readLine_211.eq_1]
                  refine ok_if (fun hc88 => ?_) (fun hc88 => ?_)
                  · exact ok_rZ (Or.inl rfl) ⟨hT, (show ((0 : Int32) = 0 ∨ (0 : Int32) = 1) ∧ RD σ87.1 ∧ WI 2 σ87.1 from by first | exact ⟨Or.inl rfl, hD, hW⟩ | exact ⟨Or.inr rfl, hD, hW⟩ | exact ⟨Or.inl hqv86.1, hD, hW⟩ | exact ⟨hqv86.1, hD, hW⟩)⟩
                  · refine ok_gC rfl ?_
                    refine ok_zbT (Q := fun V σ => (V = 0 ∨ V = 1) ∧ RD σ.1) hT (s_X5_pass hN (hR.tr hT) (by first | exact hX | exact hT.1.2 hX) (hD)) (by decide) (fun v89 σ90 hOσ90 hT hqv89 => ?_)
                    have hqv89 : (v89 = 0 ∨ v89 = 1) ∧ RD σ90.1 := hqv89
                    have hD : RD σ90.1 := by first | exact hqv89.2 | exact hqv89.2.1
                    have hW : WI 2 σ90.1 := WI.tr hOσ90 (by decide) (by decide) (by decide) hW
                    refine ok_if (fun hc91 => ?_) (fun hc91 => ?_)
                    · exact ok_rZ (Or.inl rfl) ⟨hT, (show ((0 : Int32) = 0 ∨ (0 : Int32) = 1) ∧ RD σ90.1 ∧ WI 2 σ90.1 from by first | exact ⟨Or.inl rfl, hD, hW⟩ | exact ⟨Or.inr rfl, hD, hW⟩ | exact ⟨Or.inl hqv89.1, hD, hW⟩ | exact ⟨hqv89.1, hD, hW⟩)⟩
                    · exact ok_rZ (Or.inr rfl) ⟨hT, (show ((1 : Int32) = 0 ∨ (1 : Int32) = 1) ∧ RD σ90.1 ∧ WI 2 σ90.1 from by first | exact ⟨Or.inl rfl, hD, hW⟩ | exact ⟨Or.inr rfl, hD, hW⟩ | exact ⟨Or.inl hqv89.1, hD, hW⟩ | exact ⟨hqv89.1, hD, hW⟩)⟩
                refine ok_if (fun hc92 => ?_) (fun hc92 => ?_)
                · refine ok_gC rfl ?_
                  refine ok_zbT (Q := fun V σ => (V = 0 ∨ V = 1) ∧ RD σ.1 ∧ WI 2 σ.1) hT (s_X5_readWeight_2 hN (hR.tr hT) (by first | exact hX | exact hT.1.2 hX) (hD) (hW)) (by decide) (fun v93 σ94 hOσ94 hT hqv93 => ?_)
                  have hqv93 : (v93 = 0 ∨ v93 = 1) ∧ RD σ94.1 ∧ WI 2 σ94.1 := hqv93
                  have hD : RD σ94.1 := by first | exact hqv93.2 | exact hqv93.2.1
                  have hW : WI 2 σ94.1 := WI.tr hOσ94 (by decide) (by decide) (by decide) hW
                  rw [J_X5_readLine_211.eq_1]
                  refine ok_if (fun hc95 => ?_) (fun hc95 => ?_)
                  · exact ok_rZ (Or.inl rfl) ⟨hT, (show ((0 : Int32) = 0 ∨ (0 : Int32) = 1) ∧ RD σ94.1 ∧ WI 2 σ94.1 from by first | exact ⟨Or.inl rfl, hD, hW⟩ | exact ⟨Or.inr rfl, hD, hW⟩ | exact ⟨Or.inl hqv93.1, hD, hW⟩ | exact ⟨hqv93.1, hD, hW⟩)⟩
                  · refine ok_gC rfl ?_
                    refine ok_zbT (Q := fun V σ => (V = 0 ∨ V = 1) ∧ RD σ.1) hT (s_X5_pass hN (hR.tr hT) (by first | exact hX | exact hT.1.2 hX) (hD)) (by decide) (fun v96 σ97 hOσ97 hT hqv96 => ?_)
                    have hqv96 : (v96 = 0 ∨ v96 = 1) ∧ RD σ97.1 := hqv96
                    have hD : RD σ97.1 := by first | exact hqv96.2 | exact hqv96.2.1
                    have hW : WI 2 σ97.1 := WI.tr hOσ97 (by decide) (by decide) (by decide) hW
                    refine ok_if (fun hc98 => ?_) (fun hc98 => ?_)
                    · exact ok_rZ (Or.inl rfl) ⟨hT, (show ((0 : Int32) = 0 ∨ (0 : Int32) = 1) ∧ RD σ97.1 ∧ WI 2 σ97.1 from by first | exact ⟨Or.inl rfl, hD, hW⟩ | exact ⟨Or.inr rfl, hD, hW⟩ | exact ⟨Or.inl hqv96.1, hD, hW⟩ | exact ⟨hqv96.1, hD, hW⟩)⟩
                    · exact ok_rZ (Or.inr rfl) ⟨hT, (show ((1 : Int32) = 0 ∨ (1 : Int32) = 1) ∧ RD σ97.1 ∧ WI 2 σ97.1 from by first | exact ⟨Or.inl rfl, hD, hW⟩ | exact ⟨Or.inr rfl, hD, hW⟩ | exact ⟨Or.inl hqv96.1, hD, hW⟩ | exact ⟨hqv96.1, hD, hW⟩)⟩
                refine ok_if (fun hc99 => ?_) (fun hc99 => ?_)
                · refine ok_gC rfl ?_
                  refine ok_zbT (Q := fun V σ => (V = 0 ∨ V = 1) ∧ RD σ.1 ∧ WI 2 σ.1) hT (s_X5_readEdge_2 hN (hR.tr hT) (by first | exact hX | exact hT.1.2 hX) (hD) (hW)) (by decide) (fun v100 σ101 hOσ101 hT hqv100 => ?_)
                  have hqv100 : (v100 = 0 ∨ v100 = 1) ∧ RD σ101.1 ∧ WI 2 σ101.1 := hqv100
                  have hD : RD σ101.1 := by first | exact hqv100.2 | exact hqv100.2.1
                  have hW : WI 2 σ101.1 := by first | exact hqv100.2.2 | exact hqv100
                  rw [J_X5_readLine_211.eq_1]
                  refine ok_if (fun hc102 => ?_) (fun hc102 => ?_)
                  · exact ok_rZ (Or.inl rfl) ⟨hT, (show ((0 : Int32) = 0 ∨ (0 : Int32) = 1) ∧ RD σ101.1 ∧ WI 2 σ101.1 from by first | exact ⟨Or.inl rfl, hD, hW⟩ | exact ⟨Or.inr rfl, hD, hW⟩ | exact ⟨Or.inl hqv100.1, hD, hW⟩ | exact ⟨hqv100.1, hD, hW⟩)⟩
                  · refine ok_gC rfl ?_
                    refine ok_zbT (Q := fun V σ => (V = 0 ∨ V = 1) ∧ RD σ.1) hT (s_X5_pass hN (hR.tr hT) (by first | exact hX | exact hT.1.2 hX) (hD)) (by decide) (fun v103 σ104 hOσ104 hT hqv103 => ?_)
                    have hqv103 : (v103 = 0 ∨ v103 = 1) ∧ RD σ104.1 := hqv103
                    have hD : RD σ104.1 := by first | exact hqv103.2 | exact hqv103.2.1
                    have hW : WI 2 σ104.1 := WI.tr hOσ104 (by decide) (by decide) (by decide) hW
                    refine ok_if (fun hc105 => ?_) (fun hc105 => ?_)
                    · exact ok_rZ (Or.inl rfl) ⟨hT, (show ((0 : Int32) = 0 ∨ (0 : Int32) = 1) ∧ RD σ104.1 ∧ WI 2 σ104.1 from by first | exact ⟨Or.inl rfl, hD, hW⟩ | exact ⟨Or.inr rfl, hD, hW⟩ | exact ⟨Or.inl hqv103.1, hD, hW⟩ | exact ⟨hqv103.1, hD, hW⟩)⟩
                    · exact ok_rZ (Or.inr rfl) ⟨hT, (show ((1 : Int32) = 0 ∨ (1 : Int32) = 1) ∧ RD σ104.1 ∧ WI 2 σ104.1 from by first | exact ⟨Or.inl rfl, hD, hW⟩ | exact ⟨Or.inr rfl, hD, hW⟩ | exact ⟨Or.inl hqv103.1, hD, hW⟩ | exact ⟨hqv103.1, hD, hW⟩)⟩
                refine ok_gC rfl ?_
                refine ok_zbT (Q := fun V σ => (V = 0 ∨ V = 1) ∧ RD σ.1 ∧ (¬ V = 0 → 1 ≤ (σ.1 57 9).toInt ∧ (0 : Int32).toInt ≤ (lastv σ.1).toInt ∧ (lastv σ.1).toInt ≤ (9 : Int32).toInt)) hT (s_X5_passNumber hN (hR.tr hT) (by first | exact hX | exact hT.1.2 hX) (hD)) (by decide) (fun v106 σ107 hOσ107 hT hqv106 => ?_)
                have hqv106 : (v106 = 0 ∨ v106 = 1) ∧ RD σ107.1 ∧ (¬ v106 = 0 → 1 ≤ (σ107.1 57 9).toInt ∧ (0 : Int32).toInt ≤ (lastv σ107.1).toInt ∧ (lastv σ107.1).toInt ≤ (9 : Int32).toInt) := hqv106
                have hD : RD σ107.1 := by first | exact hqv106.2 | exact hqv106.2.1
                have hW : WI 2 σ107.1 := WI.tr hOσ107 (by decide) (by decide) (by decide) hW
                refine ok_if (fun hc108 => ?_) (fun hc108 => ?_)
                · rw [J_X5_readLine_211.eq_1]
                  refine ok_if (fun hc109 => ?_) (fun hc109 => ?_)
                  · exact ok_rZ (Or.inl rfl) ⟨hT, (show ((0 : Int32) = 0 ∨ (0 : Int32) = 1) ∧ RD σ107.1 ∧ WI 2 σ107.1 from by first | exact ⟨Or.inl rfl, hD, hW⟩ | exact ⟨Or.inr rfl, hD, hW⟩ | exact ⟨Or.inl hqv106.1, hD, hW⟩ | exact ⟨hqv106.1, hD, hW⟩)⟩
                  · refine ok_gC rfl ?_
                    refine ok_zbT (Q := fun V σ => (V = 0 ∨ V = 1) ∧ RD σ.1) hT (s_X5_pass hN (hR.tr hT) (by first | exact hX | exact hT.1.2 hX) (hD)) (by decide) (fun v110 σ111 hOσ111 hT hqv110 => ?_)
                    have hqv110 : (v110 = 0 ∨ v110 = 1) ∧ RD σ111.1 := hqv110
                    have hD : RD σ111.1 := by first | exact hqv110.2 | exact hqv110.2.1
                    have hW : WI 2 σ111.1 := WI.tr hOσ111 (by decide) (by decide) (by decide) hW
                    refine ok_if (fun hc112 => ?_) (fun hc112 => ?_)
                    · exact ok_rZ (Or.inl rfl) ⟨hT, (show ((0 : Int32) = 0 ∨ (0 : Int32) = 1) ∧ RD σ111.1 ∧ WI 2 σ111.1 from by first | exact ⟨Or.inl rfl, hD, hW⟩ | exact ⟨Or.inr rfl, hD, hW⟩ | exact ⟨Or.inl hqv110.1, hD, hW⟩ | exact ⟨hqv110.1, hD, hW⟩)⟩
                    · exact ok_rZ (Or.inr rfl) ⟨hT, (show ((1 : Int32) = 0 ∨ (1 : Int32) = 1) ∧ RD σ111.1 ∧ WI 2 σ111.1 from by first | exact ⟨Or.inl rfl, hD, hW⟩ | exact ⟨Or.inr rfl, hD, hW⟩ | exact ⟨Or.inl hqv110.1, hD, hW⟩ | exact ⟨hqv110.1, hD, hW⟩)⟩
                · refine ok_gC rfl ?_
                  refine ok_zbT (Q := fun V σ => (V = 0 ∨ V = 1) ∧ RD σ.1) hT (s_X5_pass hN (hR.tr hT) (by first | exact hX | exact hT.1.2 hX) (hD)) (by decide) (fun v113 σ114 hOσ114 hT hqv113 => ?_)
                  have hqv113 : (v113 = 0 ∨ v113 = 1) ∧ RD σ114.1 := hqv113
                  have hD : RD σ114.1 := by first | exact hqv113.2 | exact hqv113.2.1
                  have hW : WI 2 σ114.1 := WI.tr hOσ114 (by decide) (by decide) (by decide) hW
                  refine ok_if (fun hc115 => ?_) (fun hc115 => ?_)
                  · rw [J_X5_readLine_211.eq_1]
                    refine ok_if (fun hc116 => ?_) (fun hc116 => ?_)
                    · exact ok_rZ (Or.inl rfl) ⟨hT, (show ((0 : Int32) = 0 ∨ (0 : Int32) = 1) ∧ RD σ114.1 ∧ WI 2 σ114.1 from by first | exact ⟨Or.inl rfl, hD, hW⟩ | exact ⟨Or.inr rfl, hD, hW⟩ | exact ⟨Or.inl hqv113.1, hD, hW⟩ | exact ⟨hqv113.1, hD, hW⟩)⟩
                    · refine ok_gC rfl ?_
                      refine ok_zbT (Q := fun V σ => (V = 0 ∨ V = 1) ∧ RD σ.1) hT (s_X5_pass hN (hR.tr hT) (by first | exact hX | exact hT.1.2 hX) (hD)) (by decide) (fun v117 σ118 hOσ118 hT hqv117 => ?_)
                      have hqv117 : (v117 = 0 ∨ v117 = 1) ∧ RD σ118.1 := hqv117
                      have hD : RD σ118.1 := by first | exact hqv117.2 | exact hqv117.2.1
                      have hW : WI 2 σ118.1 := WI.tr hOσ118 (by decide) (by decide) (by decide) hW
                      refine ok_if (fun hc119 => ?_) (fun hc119 => ?_)
                      · exact ok_rZ (Or.inl rfl) ⟨hT, (show ((0 : Int32) = 0 ∨ (0 : Int32) = 1) ∧ RD σ118.1 ∧ WI 2 σ118.1 from by first | exact ⟨Or.inl rfl, hD, hW⟩ | exact ⟨Or.inr rfl, hD, hW⟩ | exact ⟨Or.inl hqv117.1, hD, hW⟩ | exact ⟨hqv117.1, hD, hW⟩)⟩
                      · exact ok_rZ (Or.inr rfl) ⟨hT, (show ((1 : Int32) = 0 ∨ (1 : Int32) = 1) ∧ RD σ118.1 ∧ WI 2 σ118.1 from by first | exact ⟨Or.inl rfl, hD, hW⟩ | exact ⟨Or.inr rfl, hD, hW⟩ | exact ⟨Or.inl hqv117.1, hD, hW⟩ | exact ⟨hqv117.1, hD, hW⟩)⟩
                  · refine ok_gC rfl ?_
                    refine ok_zbT (Q := fun V σ => (V = 0 ∨ V = 1) ∧ RD σ.1) hT (s_X5_sum hN (hR.tr hT) (by first | exact hX | exact hT.1.2 hX) (hD) (by have q1 := hD.1; have q2 := hD.2.1; have q3 := hD0.1; have q4 := hD0.2.1; first | omega | decide | (simp only [Int32.le_iff_toInt_le, Int32.lt_iff_toInt_lt, ti_add, ti_sub, ti_mul, Int32.reduceToInt] at *; omega) | (exfalso; simp_all; done)) (by have q1 := hD.1; have q2 := hD.2.1; have q3 := hD0.1; have q4 := hD0.2.1; first | omega | decide | (simp only [Int32.le_iff_toInt_le, Int32.lt_iff_toInt_lt, ti_add, ti_sub, ti_mul, Int32.reduceToInt] at *; omega) | (exfalso; simp_all; done))) (by decide) (fun v120 σ121 hOσ121 hT hqv120 => ?_)
                    have hqv120 : (v120 = 0 ∨ v120 = 1) ∧ RD σ121.1 := hqv120
                    have hD : RD σ121.1 := by first | exact hqv120.2 | exact hqv120.2.1
                    have hW : WI 2 σ121.1 := WI.tr hOσ121 (by decide) (by decide) (by decide) hW
                    refine ok_if (fun hc122 => ?_) (fun hc122 => ?_)
                    · rw [J_X5_readLine_211.eq_1]
                      refine ok_if (fun hc123 => ?_) (fun hc123 => ?_)
                      · exact ok_rZ (Or.inl rfl) ⟨hT, (show ((0 : Int32) = 0 ∨ (0 : Int32) = 1) ∧ RD σ121.1 ∧ WI 2 σ121.1 from by first | exact ⟨Or.inl rfl, hD, hW⟩ | exact ⟨Or.inr rfl, hD, hW⟩ | exact ⟨Or.inl hqv120.1, hD, hW⟩ | exact ⟨hqv120.1, hD, hW⟩)⟩
                      · refine ok_gC rfl ?_
                        refine ok_zbT (Q := fun V σ => (V = 0 ∨ V = 1) ∧ RD σ.1) hT (s_X5_pass hN (hR.tr hT) (by first | exact hX | exact hT.1.2 hX) (hD)) (by decide) (fun v124 σ125 hOσ125 hT hqv124 => ?_)
                        have hqv124 : (v124 = 0 ∨ v124 = 1) ∧ RD σ125.1 := hqv124
                        have hD : RD σ125.1 := by first | exact hqv124.2 | exact hqv124.2.1
                        have hW : WI 2 σ125.1 := WI.tr hOσ125 (by decide) (by decide) (by decide) hW
                        refine ok_if (fun hc126 => ?_) (fun hc126 => ?_)
                        · exact ok_rZ (Or.inl rfl) ⟨hT, (show ((0 : Int32) = 0 ∨ (0 : Int32) = 1) ∧ RD σ125.1 ∧ WI 2 σ125.1 from by first | exact ⟨Or.inl rfl, hD, hW⟩ | exact ⟨Or.inr rfl, hD, hW⟩ | exact ⟨Or.inl hqv124.1, hD, hW⟩ | exact ⟨hqv124.1, hD, hW⟩)⟩
                        · exact ok_rZ (Or.inr rfl) ⟨hT, (show ((1 : Int32) = 0 ∨ (1 : Int32) = 1) ∧ RD σ125.1 ∧ WI 2 σ125.1 from by first | exact ⟨Or.inl rfl, hD, hW⟩ | exact ⟨Or.inr rfl, hD, hW⟩ | exact ⟨Or.inl hqv124.1, hD, hW⟩ | exact ⟨hqv124.1, hD, hW⟩)⟩
                    · refine ok_gC rfl ?_
                      refine ok_zbT (Q := fun V σ => V = 1 ∧ RD σ.1) hT (s_X5_emit hN (hR.tr hT) (by first | exact hX | exact hT.1.2 hX) (hD)) (by decide) (fun v127 σ128 hOσ128 hT hqv127 => ?_)
                      have hqv127 : v127 = 1 ∧ RD σ128.1 := hqv127
                      have hD : RD σ128.1 := by first | exact hqv127.2 | exact hqv127.2.1
                      have hW : WI 2 σ128.1 := WI.tr hOσ128 (by decide) (by decide) (by decide) hW
                      refine ok_if (fun hc129 => ?_) (fun hc129 => ?_)
                      · rw [J_X5_readLine_211.eq_1]
                        refine ok_if (fun hc130 => ?_) (fun hc130 => ?_)
                        · exact ok_rZ (Or.inl rfl) ⟨hT, (show ((0 : Int32) = 0 ∨ (0 : Int32) = 1) ∧ RD σ128.1 ∧ WI 2 σ128.1 from by first | exact ⟨Or.inl rfl, hD, hW⟩ | exact ⟨Or.inr rfl, hD, hW⟩ | exact ⟨Or.inl hqv127.1, hD, hW⟩ | exact ⟨hqv127.1, hD, hW⟩)⟩
                        · refine ok_gC rfl ?_
                          refine ok_zbT (Q := fun V σ => (V = 0 ∨ V = 1) ∧ RD σ.1) hT (s_X5_pass hN (hR.tr hT) (by first | exact hX | exact hT.1.2 hX) (hD)) (by decide) (fun v131 σ132 hOσ132 hT hqv131 => ?_)
                          have hqv131 : (v131 = 0 ∨ v131 = 1) ∧ RD σ132.1 := hqv131
                          have hD : RD σ132.1 := by first | exact hqv131.2 | exact hqv131.2.1
                          have hW : WI 2 σ132.1 := WI.tr hOσ132 (by decide) (by decide) (by decide) hW
                          refine ok_if (fun hc133 => ?_) (fun hc133 => ?_)
                          · exact ok_rZ (Or.inl rfl) ⟨hT, (show ((0 : Int32) = 0 ∨ (0 : Int32) = 1) ∧ RD σ132.1 ∧ WI 2 σ132.1 from by first | exact ⟨Or.inl rfl, hD, hW⟩ | exact ⟨Or.inr rfl, hD, hW⟩ | exact ⟨Or.inl hqv131.1, hD, hW⟩ | exact ⟨hqv131.1, hD, hW⟩)⟩
                          · exact ok_rZ (Or.inr rfl) ⟨hT, (show ((1 : Int32) = 0 ∨ (1 : Int32) = 1) ∧ RD σ132.1 ∧ WI 2 σ132.1 from by first | exact ⟨Or.inl rfl, hD, hW⟩ | exact ⟨Or.inr rfl, hD, hW⟩ | exact ⟨Or.inl hqv131.1, hD, hW⟩ | exact ⟨hqv131.1, hD, hW⟩)⟩
                      · rw [J_X5_readLine_211.eq_1]
                        refine ok_if (fun hc134 => ?_) (fun hc134 => ?_)
                        · exact ok_rZ (Or.inl rfl) ⟨hT, (show ((0 : Int32) = 0 ∨ (0 : Int32) = 1) ∧ RD σ128.1 ∧ WI 2 σ128.1 from by first | exact ⟨Or.inl rfl, hD, hW⟩ | exact ⟨Or.inr rfl, hD, hW⟩ | exact ⟨Or.inl hqv127.1, hD, hW⟩ | exact ⟨hqv127.1, hD, hW⟩)⟩
                        · refine ok_gC rfl ?_
                          refine ok_zbT (Q := fun V σ => (V = 0 ∨ V = 1) ∧ RD σ.1) hT (s_X5_pass hN (hR.tr hT) (by first | exact hX | exact hT.1.2 hX) (hD)) (by decide) (fun v135 σ136 hOσ136 hT hqv135 => ?_)
                          have hqv135 : (v135 = 0 ∨ v135 = 1) ∧ RD σ136.1 := hqv135
                          have hD : RD σ136.1 := by first | exact hqv135.2 | exact hqv135.2.1
                          have hW : WI 2 σ136.1 := WI.tr hOσ136 (by decide) (by decide) (by decide) hW
                          refine ok_if (fun hc137 => ?_) (fun hc137 => ?_)
                          · exact ok_rZ (Or.inl rfl) ⟨hT, (show ((0 : Int32) = 0 ∨ (0 : Int32) = 1) ∧ RD σ136.1 ∧ WI 2 σ136.1 from by first | exact ⟨Or.inl rfl, hD, hW⟩ | exact ⟨Or.inr rfl, hD, hW⟩ | exact ⟨Or.inl hqv135.1, hD, hW⟩ | exact ⟨hqv135.1, hD, hW⟩)⟩
                          · exact ok_rZ (Or.inr rfl) ⟨hT, (show ((1 : Int32) = 0 ∨ (1 : Int32) = 1) ∧ RD σ136.1 ∧ WI 2 σ136.1 from by first | exact ⟨Or.inl rfl, hD, hW⟩ | exact ⟨Or.inr rfl, hD, hW⟩ | exact ⟨Or.inl hqv135.1, hD, hW⟩ | exact ⟨hqv135.1, hD, hW⟩)⟩
            · refine ok_gC rfl ?_
              refine ok_zbT (Q := fun V σ => V = 0 ∧ RD σ.1) hT (s_X5_fail hN (hR.tr hT) (by first | exact hX | exact hT.1.2 hX) (hD)) (by decide) (fun v138 σ139 hOσ139 hT hqv138 => ?_)
              have hqv138 : v138 = 0 ∧ RD σ139.1 := hqv138
              have hD : RD σ139.1 := by first | exact hqv138.2 | exact hqv138.2.1
              have hW : WI 2 σ139.1 := WI.tr hOσ139 (by decide) (by decide) (by decide) hW
              exact ok_rZ (by have q := hqv138.1; first | exact q | exact Or.inl q | exact Or.inr q) ⟨hT, (show (v138 = 0 ∨ v138 = 1) ∧ RD σ139.1 ∧ WI 2 σ139.1 from by first | exact ⟨Or.inl rfl, hD, hW⟩ | exact ⟨Or.inr rfl, hD, hW⟩ | exact ⟨Or.inl hqv138.1, hD, hW⟩ | exact ⟨hqv138.1, hD, hW⟩)⟩
        · refine ok_gC rfl ?_
          refine ok_zbT (Q := fun V σ => V = 0 ∧ RD σ.1) hT (s_X5_fail hN (hR.tr hT) (by first | exact hX | exact hT.1.2 hX) (hD)) (by decide) (fun v140 σ141 hOσ141 hT hqv140 => ?_)
          have hqv140 : v140 = 0 ∧ RD σ141.1 := hqv140
          have hD : RD σ141.1 := by first | exact hqv140.2 | exact hqv140.2.1
          have hW : WI 2 σ141.1 := WI.tr hOσ141 (by decide) (by decide) (by decide) hW
          exact ok_rZ (by have q := hqv140.1; first | exact q | exact Or.inl q | exact Or.inr q) ⟨hT, (show (v140 = 0 ∨ v140 = 1) ∧ RD σ141.1 ∧ WI 2 σ141.1 from by first | exact ⟨Or.inl rfl, hD, hW⟩ | exact ⟨Or.inr rfl, hD, hW⟩ | exact ⟨Or.inl hqv140.1, hD, hW⟩ | exact ⟨hqv140.1, hD, hW⟩)⟩
      · rw [J_X5_readLine_51.eq_1]
        refine ok_if (fun hc142 => ?_) (fun hc142 => ?_)
        · refine ok_if (fun hc143 => ?_) (fun hc143 => ?_)
          · refine ok_gC rfl ?_
            refine ok_zbT (Q := fun V σ => V = 0 ∧ RD σ.1) hT (s_X5_fail hN (hR.tr hT) (by first | exact hX | exact hT.1.2 hX) (hD)) (by decide) (fun v144 σ145 hOσ145 hT hqv144 => ?_)
            have hqv144 : v144 = 0 ∧ RD σ145.1 := hqv144
            have hD : RD σ145.1 := by first | exact hqv144.2 | exact hqv144.2.1
            have hW : WI 2 σ145.1 := WI.tr hOσ145 (by decide) (by decide) (by decide) hW
            exact ok_rZ (by have q := hqv144.1; first | exact q | exact Or.inl q | exact Or.inr q) ⟨hT, (show (v144 = 0 ∨ v144 = 1) ∧ RD σ145.1 ∧ WI 2 σ145.1 from by first | exact ⟨Or.inl rfl, hD, hW⟩ | exact ⟨Or.inr rfl, hD, hW⟩ | exact ⟨Or.inl hqv144.1, hD, hW⟩ | exact ⟨hqv144.1, hD, hW⟩)⟩
          · refine ok_if (fun hc146 => ?_) (fun hc146 => ?_)
            · refine ok_if (fun hc147 => ?_) (fun hc147 => ?_)
              · refine ok_gI rfl ?_
                refine ok_gI rfl ?_
                refine ok_if (fun hc150 => ?_) (fun hc150 => ?_)
                · rw [J_X5_readLine_92.eq_1]
                  refine ok_gC rfl ?_
                  refine ok_zbT (Q := fun V σ => (V = 0 ∨ V = 1) ∧ RD σ.1) hT (s_X5_pass hN (hR.tr hT) (by first | exact hX | exact hT.1.2 hX) (hD)) (by decide) (fun v151 σ152 hOσ152 hT hqv151 => ?_)
                  have hqv151 : (v151 = 0 ∨ v151 = 1) ∧ RD σ152.1 := hqv151
                  have hD : RD σ152.1 := by first | exact hqv151.2 | exact hqv151.2.1
                  have hW : WI 2 σ152.1 := WI.tr hOσ152 (by decide) (by decide) (by decide) hW
                  refine ok_gR (v := 62) hT rfl (hR 57 11 rfl) ?_
                  refine ok_gI rfl ?_
                  refine ok_aIn rfl (by have q1 := hD.1; have q2 := hD.2.1; have q3 := hD0.1; have q4 := hD0.2.1; first | omega | decide | (simp only [Int32.le_iff_toInt_le, Int32.lt_iff_toInt_lt, ti_add, ti_sub, ti_mul, Int32.reduceToInt] at *; omega) | (exfalso; simp_all; done)) (by have q1 := hD.1; have q2 := hD.2.1; have q3 := hD0.1; have q4 := hD0.2.1; first | omega | decide | (simp only [Int32.le_iff_toInt_le, Int32.lt_iff_toInt_lt, ti_add, ti_sub, ti_mul, Int32.reduceToInt] at *; omega) | (exfalso; simp_all; done)) (fun v155 ev155 => ?_)
                  refine ok_if (fun hc156 => ?_) (fun hc156 => ?_)
                  · refine ok_gC rfl ?_
                    refine ok_zbT (Q := fun V σ => (V = 0 ∨ V = 1) ∧ RD σ.1 ∧ WI 2 σ.1) hT (s_X5_readNames_2 hN (hR.tr hT) (by first | exact hX | exact hT.1.2 hX) (hD) (hW)) (by decide) (fun v157 σ158 hOσ158 hT hqv157 => ?_)
                    have hqv157 : (v157 = 0 ∨ v157 = 1) ∧ RD σ158.1 ∧ WI 2 σ158.1 := hqv157
                    have hD : RD σ158.1 := by first | exact hqv157.2 | exact hqv157.2.1
                    have hW : WI 2 σ158.1 := by first | exact hqv157.2.2 | exact hqv157
                    rw [J_X5_readLine_211.eq_1]
                    refine ok_if (fun hc159 => ?_) (fun hc159 => ?_)
                    · exact ok_rZ (Or.inl rfl) ⟨hT, (show ((0 : Int32) = 0 ∨ (0 : Int32) = 1) ∧ RD σ158.1 ∧ WI 2 σ158.1 from by first | exact ⟨Or.inl rfl, hD, hW⟩ | exact ⟨Or.inr rfl, hD, hW⟩ | exact ⟨Or.inl hqv157.1, hD, hW⟩ | exact ⟨hqv157.1, hD, hW⟩)⟩
                    · refine ok_gC rfl ?_
                      refine ok_zbT (Q := fun V σ => (V = 0 ∨ V = 1) ∧ RD σ.1) hT (s_X5_pass hN (hR.tr hT) (by first | exact hX | exact hT.1.2 hX) (hD)) (by decide) (fun v160 σ161 hOσ161 hT hqv160 => ?_)
                      have hqv160 : (v160 = 0 ∨ v160 = 1) ∧ RD σ161.1 := hqv160
                      have hD : RD σ161.1 := by first | exact hqv160.2 | exact hqv160.2.1
                      have hW : WI 2 σ161.1 := WI.tr hOσ161 (by decide) (by decide) (by decide) hW
                      refine ok_if (fun hc162 => ?_) (fun hc162 => ?_)
                      · exact ok_rZ (Or.inl rfl) ⟨hT, (show ((0 : Int32) = 0 ∨ (0 : Int32) = 1) ∧ RD σ161.1 ∧ WI 2 σ161.1 from by first | exact ⟨Or.inl rfl, hD, hW⟩ | exact ⟨Or.inr rfl, hD, hW⟩ | exact ⟨Or.inl hqv160.1, hD, hW⟩ | exact ⟨hqv160.1, hD, hW⟩)⟩
                      · exact ok_rZ (Or.inr rfl) ⟨hT, (show ((1 : Int32) = 0 ∨ (1 : Int32) = 1) ∧ RD σ161.1 ∧ WI 2 σ161.1 from by first | exact ⟨Or.inl rfl, hD, hW⟩ | exact ⟨Or.inr rfl, hD, hW⟩ | exact ⟨Or.inl hqv160.1, hD, hW⟩ | exact ⟨hqv160.1, hD, hW⟩)⟩
                  refine ok_if (fun hc163 => ?_) (fun hc163 => ?_)
                  · refine ok_gC rfl ?_
                    refine ok_zbT (Q := fun V σ => (V = 0 ∨ V = 1) ∧ RD σ.1 ∧ WI 2 σ.1) hT (s_X5_readWeight_2 hN (hR.tr hT) (by first | exact hX | exact hT.1.2 hX) (hD) (hW)) (by decide) (fun v164 σ165 hOσ165 hT hqv164 => ?_)
                    have hqv164 : (v164 = 0 ∨ v164 = 1) ∧ RD σ165.1 ∧ WI 2 σ165.1 := hqv164
                    have hD : RD σ165.1 := by first | exact hqv164.2 | exact hqv164.2.1
                    have hW : WI 2 σ165.1 := WI.tr hOσ165 (by decide) (by decide) (by decide) hW
                    rw [J_X5_readLine_211.eq_1]
                    refine ok_if (fun hc166 => ?_) (fun hc166 => ?_)
                    · exact ok_rZ (Or.inl rfl) ⟨hT, (show ((0 : Int32) = 0 ∨ (0 : Int32) = 1) ∧ RD σ165.1 ∧ WI 2 σ165.1 from by first | exact ⟨Or.inl rfl, hD, hW⟩ | exact ⟨Or.inr rfl, hD, hW⟩ | exact ⟨Or.inl hqv164.1, hD, hW⟩ | exact ⟨hqv164.1, hD, hW⟩)⟩
                    · refine ok_gC rfl ?_
                      refine ok_zbT (Q := fun V σ => (V = 0 ∨ V = 1) ∧ RD σ.1) hT (s_X5_pass hN (hR.tr hT) (by first | exact hX | exact hT.1.2 hX) (hD)) (by decide) (fun v167 σ168 hOσ168 hT hqv167 => ?_)
                      have hqv167 : (v167 = 0 ∨ v167 = 1) ∧ RD σ168.1 := hqv167
                      have hD : RD σ168.1 := by first | exact hqv167.2 | exact hqv167.2.1
                      have hW : WI 2 σ168.1 := WI.tr hOσ168 (by decide) (by decide) (by decide) hW
                      refine ok_if (fun hc169 => ?_) (fun hc169 => ?_)
                      · exact ok_rZ (Or.inl rfl) ⟨hT, (show ((0 : Int32) = 0 ∨ (0 : Int32) = 1) ∧ RD σ168.1 ∧ WI 2 σ168.1 from by first | exact ⟨Or.inl rfl, hD, hW⟩ | exact ⟨Or.inr rfl, hD, hW⟩ | exact ⟨Or.inl hqv167.1, hD, hW⟩ | exact ⟨hqv167.1, hD, hW⟩)⟩
                      · exact ok_rZ (Or.inr rfl) ⟨hT, (show ((1 : Int32) = 0 ∨ (1 : Int32) = 1) ∧ RD σ168.1 ∧ WI 2 σ168.1 from by first | exact ⟨Or.inl rfl, hD, hW⟩ | exact ⟨Or.inr rfl, hD, hW⟩ | exact ⟨Or.inl hqv167.1, hD, hW⟩ | exact ⟨hqv167.1, hD, hW⟩)⟩
                  refine ok_if (fun hc170 => ?_) (fun hc170 => ?_)
                  · refine ok_gC rfl ?_
                    refine ok_zbT (Q := fun V σ => (V = 0 ∨ V = 1) ∧ RD σ.1 ∧ WI 2 σ.1) hT (s_X5_readEdge_2 hN (hR.tr hT) (by first | exact hX | exact hT.1.2 hX) (hD) (hW)) (by decide) (fun v171 σ172 hOσ172 hT hqv171 => ?_)
                    have hqv171 : (v171 = 0 ∨ v171 = 1) ∧ RD σ172.1 ∧ WI 2 σ172.1 := hqv171
                    have hD : RD σ172.1 := by first | exact hqv171.2 | exact hqv171.2.1
                    have hW : WI 2 σ172.1 := by first | exact hqv171.2.2 | exact hqv171
                    rw [J_X5_readLine_211.eq_1]
                    refine ok_if (fun hc173 => ?_) (fun hc173 => ?_)
                    · exact ok_rZ (Or.inl rfl) ⟨hT, (show ((0 : Int32) = 0 ∨ (0 : Int32) = 1) ∧ RD σ172.1 ∧ WI 2 σ172.1 from by first | exact ⟨Or.inl rfl, hD, hW⟩ | exact ⟨Or.inr rfl, hD, hW⟩ | exact ⟨Or.inl hqv171.1, hD, hW⟩ | exact ⟨hqv171.1, hD, hW⟩)⟩
                    · refine ok_gC rfl ?_
                      refine ok_zbT (Q := fun V σ => (V = 0 ∨ V = 1) ∧ RD σ.1) hT (s_X5_pass hN (hR.tr hT) (by first | exact hX | exact hT.1.2 hX) (hD)) (by decide) (fun v174 σ175 hOσ175 hT hqv174 => ?_)
                      have hqv174 : (v174 = 0 ∨ v174 = 1) ∧ RD σ175.1 := hqv174
                      have hD : RD σ175.1 := by first | exact hqv174.2 | exact hqv174.2.1
                      have hW : WI 2 σ175.1 := WI.tr hOσ175 (by decide) (by decide) (by decide) hW
                      refine ok_if (fun hc176 => ?_) (fun hc176 => ?_)
                      · exact ok_rZ (Or.inl rfl) ⟨hT, (show ((0 : Int32) = 0 ∨ (0 : Int32) = 1) ∧ RD σ175.1 ∧ WI 2 σ175.1 from by first | exact ⟨Or.inl rfl, hD, hW⟩ | exact ⟨Or.inr rfl, hD, hW⟩ | exact ⟨Or.inl hqv174.1, hD, hW⟩ | exact ⟨hqv174.1, hD, hW⟩)⟩
                      · exact ok_rZ (Or.inr rfl) ⟨hT, (show ((1 : Int32) = 0 ∨ (1 : Int32) = 1) ∧ RD σ175.1 ∧ WI 2 σ175.1 from by first | exact ⟨Or.inl rfl, hD, hW⟩ | exact ⟨Or.inr rfl, hD, hW⟩ | exact ⟨Or.inl hqv174.1, hD, hW⟩ | exact ⟨hqv174.1, hD, hW⟩)⟩
                  refine ok_gC rfl ?_
                  refine ok_zbT (Q := fun V σ => (V = 0 ∨ V = 1) ∧ RD σ.1 ∧ (¬ V = 0 → 1 ≤ (σ.1 57 9).toInt ∧ (0 : Int32).toInt ≤ (lastv σ.1).toInt ∧ (lastv σ.1).toInt ≤ (9 : Int32).toInt)) hT (s_X5_passNumber hN (hR.tr hT) (by first | exact hX | exact hT.1.2 hX) (hD)) (by decide) (fun v177 σ178 hOσ178 hT hqv177 => ?_)
                  have hqv177 : (v177 = 0 ∨ v177 = 1) ∧ RD σ178.1 ∧ (¬ v177 = 0 → 1 ≤ (σ178.1 57 9).toInt ∧ (0 : Int32).toInt ≤ (lastv σ178.1).toInt ∧ (lastv σ178.1).toInt ≤ (9 : Int32).toInt) := hqv177
                  have hD : RD σ178.1 := by first | exact hqv177.2 | exact hqv177.2.1
                  have hW : WI 2 σ178.1 := WI.tr hOσ178 (by decide) (by decide) (by decide) hW
                  refine ok_if (fun hc179 => ?_) (fun hc179 => ?_)
                  · rw [J_X5_readLine_211.eq_1]
                    refine ok_if (fun hc180 => ?_) (fun hc180 => ?_)
                    · exact ok_rZ (Or.inl rfl) ⟨hT, (show ((0 : Int32) = 0 ∨ (0 : Int32) = 1) ∧ RD σ178.1 ∧ WI 2 σ178.1 from by first | exact ⟨Or.inl rfl, hD, hW⟩ | exact ⟨Or.inr rfl, hD, hW⟩ | exact ⟨Or.inl hqv177.1, hD, hW⟩ | exact ⟨hqv177.1, hD, hW⟩)⟩
                    · refine ok_gC rfl ?_
                      refine ok_zbT (Q := fun V σ => (V = 0 ∨ V = 1) ∧ RD σ.1) hT (s_X5_pass hN (hR.tr hT) (by first | exact hX | exact hT.1.2 hX) (hD)) (by decide) (fun v181 σ182 hOσ182 hT hqv181 => ?_)
                      have hqv181 : (v181 = 0 ∨ v181 = 1) ∧ RD σ182.1 := hqv181
                      have hD : RD σ182.1 := by first | exact hqv181.2 | exact hqv181.2.1
                      have hW : WI 2 σ182.1 := WI.tr hOσ182 (by decide) (by decide) (by decide) hW
                      refine ok_if (fun hc183 => ?_) (fun hc183 => ?_)
                      · exact ok_rZ (Or.inl rfl) ⟨hT, (show ((0 : Int32) = 0 ∨ (0 : Int32) = 1) ∧ RD σ182.1 ∧ WI 2 σ182.1 from by first | exact ⟨Or.inl rfl, hD, hW⟩ | exact ⟨Or.inr rfl, hD, hW⟩ | exact ⟨Or.inl hqv181.1, hD, hW⟩ | exact ⟨hqv181.1, hD, hW⟩)⟩
                      · exact ok_rZ (Or.inr rfl) ⟨hT, (show ((1 : Int32) = 0 ∨ (1 : Int32) = 1) ∧ RD σ182.1 ∧ WI 2 σ182.1 from by first | exact ⟨Or.inl rfl, hD, hW⟩ | exact ⟨Or.inr rfl, hD, hW⟩ | exact ⟨Or.inl hqv181.1, hD, hW⟩ | exact ⟨hqv181.1, hD, hW⟩)⟩
                  · refine ok_gC rfl ?_
                    refine ok_zbT (Q := fun V σ => (V = 0 ∨ V = 1) ∧ RD σ.1) hT (s_X5_pass hN (hR.tr hT) (by first | exact hX | exact hT.1.2 hX) (hD)) (by decide) (fun v184 σ185 hOσ185 hT hqv184 => ?_)
                    have hqv184 : (v184 = 0 ∨ v184 = 1) ∧ RD σ185.1 := hqv184
                    have hD : RD σ185.1 := by first | exact hqv184.2 | exact hqv184.2.1
                    have hW : WI 2 σ185.1 := WI.tr hOσ185 (by decide) (by decide) (by decide) hW
                    refine ok_if (fun hc186 => ?_) (fun hc186 => ?_)
                    · rw [J_X5_readLine_211.eq_1]
                      refine ok_if (fun hc187 => ?_) (fun hc187 => ?_)
                      · exact ok_rZ (Or.inl rfl) ⟨hT, (show ((0 : Int32) = 0 ∨ (0 : Int32) = 1) ∧ RD σ185.1 ∧ WI 2 σ185.1 from by first | exact ⟨Or.inl rfl, hD, hW⟩ | exact ⟨Or.inr rfl, hD, hW⟩ | exact ⟨Or.inl hqv184.1, hD, hW⟩ | exact ⟨hqv184.1, hD, hW⟩)⟩
                      · refine ok_gC rfl ?_
                        refine ok_zbT (Q := fun V σ => (V = 0 ∨ V = 1) ∧ RD σ.1) hT (s_X5_pass hN (hR.tr hT) (by first | exact hX | exact hT.1.2 hX) (hD)) (by decide) (fun v188 σ189 hOσ189 hT hqv188 => ?_)
                        have hqv188 : (v188 = 0 ∨ v188 = 1) ∧ RD σ189.1 := hqv188
                        have hD : RD σ189.1 := by first | exact hqv188.2 | exact hqv188.2.1
                        have hW : WI 2 σ189.1 := WI.tr hOσ189 (by decide) (by decide) (by decide) hW
                        refine ok_if (fun hc190 => ?_) (fun hc190 => ?_)
                        · exact ok_rZ (Or.inl rfl) ⟨hT, (show ((0 : Int32) = 0 ∨ (0 : Int32) = 1) ∧ RD σ189.1 ∧ WI 2 σ189.1 from by first | exact ⟨Or.inl rfl, hD, hW⟩ | exact ⟨Or.inr rfl, hD, hW⟩ | exact ⟨Or.inl hqv188.1, hD, hW⟩ | exact ⟨hqv188.1, hD, hW⟩)⟩
                        · exact ok_rZ (Or.inr rfl) ⟨hT, (show ((1 : Int32) = 0 ∨ (1 : Int32) = 1) ∧ RD σ189.1 ∧ WI 2 σ189.1 from by first | exact ⟨Or.inl rfl, hD, hW⟩ | exact ⟨Or.inr rfl, hD, hW⟩ | exact ⟨Or.inl hqv188.1, hD, hW⟩ | exact ⟨hqv188.1, hD, hW⟩)⟩
                    · refine ok_gC rfl ?_
                      refine ok_zbT (Q := fun V σ => (V = 0 ∨ V = 1) ∧ RD σ.1) hT (s_X5_sum hN (hR.tr hT) (by first | exact hX | exact hT.1.2 hX) (hD) (by have q1 := hD.1; have q2 := hD.2.1; have q3 := hD0.1; have q4 := hD0.2.1; first | omega | decide | (simp only [Int32.le_iff_toInt_le, Int32.lt_iff_toInt_lt, ti_add, ti_sub, ti_mul, Int32.reduceToInt] at *; omega) | (exfalso; simp_all; done)) (by have q1 := hD.1; have q2 := hD.2.1; have q3 := hD0.1; have q4 := hD0.2.1; first | omega | decide | (simp only [Int32.le_iff_toInt_le, Int32.lt_iff_toInt_lt, ti_add, ti_sub, ti_mul, Int32.reduceToInt] at *; omega) | (exfalso; simp_all; done))) (by decide) (fun v191 σ192 hOσ192 hT hqv191 => ?_)
                      have hqv191 : (v191 = 0 ∨ v191 = 1) ∧ RD σ192.1 := hqv191
                      have hD : RD σ192.1 := by first | exact hqv191.2 | exact hqv191.2.1
                      have hW : WI 2 σ192.1 := WI.tr hOσ192 (by decide) (by decide) (by decide) hW
                      refine ok_if (fun hc193 => ?_) (fun hc193 => ?_)
                      · rw [J_X5_readLine_211.eq_1]
                        refine ok_if (fun hc194 => ?_) (fun hc194 => ?_)
                        · exact ok_rZ (Or.inl rfl) ⟨hT, (show ((0 : Int32) = 0 ∨ (0 : Int32) = 1) ∧ RD σ192.1 ∧ WI 2 σ192.1 from by first | exact ⟨Or.inl rfl, hD, hW⟩ | exact ⟨Or.inr rfl, hD, hW⟩ | exact ⟨Or.inl hqv191.1, hD, hW⟩ | exact ⟨hqv191.1, hD, hW⟩)⟩
                        · refine ok_gC rfl ?_
                          refine ok_zbT (Q := fun V σ => (V = 0 ∨ V = 1) ∧ RD σ.1) hT (s_X5_pass hN (hR.tr hT) (by first | exact hX | exact hT.1.2 hX) (hD)) (by decide) (fun v195 σ196 hOσ196 hT hqv195 => ?_)
                          have hqv195 : (v195 = 0 ∨ v195 = 1) ∧ RD σ196.1 := hqv195
                          have hD : RD σ196.1 := by first | exact hqv195.2 | exact hqv195.2.1
                          have hW : WI 2 σ196.1 := WI.tr hOσ196 (by decide) (by decide) (by decide) hW
                          refine ok_if (fun hc197 => ?_) (fun hc197 => ?_)
                          · exact ok_rZ (Or.inl rfl) ⟨hT, (show ((0 : Int32) = 0 ∨ (0 : Int32) = 1) ∧ RD σ196.1 ∧ WI 2 σ196.1 from by first | exact ⟨Or.inl rfl, hD, hW⟩ | exact ⟨Or.inr rfl, hD, hW⟩ | exact ⟨Or.inl hqv195.1, hD, hW⟩ | exact ⟨hqv195.1, hD, hW⟩)⟩
                          · exact ok_rZ (Or.inr rfl) ⟨hT, (show ((1 : Int32) = 0 ∨ (1 : Int32) = 1) ∧ RD σ196.1 ∧ WI 2 σ196.1 from by first | exact ⟨Or.inl rfl, hD, hW⟩ | exact ⟨Or.inr rfl, hD, hW⟩ | exact ⟨Or.inl hqv195.1, hD, hW⟩ | exact ⟨hqv195.1, hD, hW⟩)⟩
                      · refine ok_gC rfl ?_
                        refine ok_zbT (Q := fun V σ => V = 1 ∧ RD σ.1) hT (s_X5_emit hN (hR.tr hT) (by first | exact hX | exact hT.1.2 hX) (hD)) (by decide) (fun v198 σ199 hOσ199 hT hqv198 => ?_)
                        have hqv198 : v198 = 1 ∧ RD σ199.1 := hqv198
                        have hD : RD σ199.1 := by first | exact hqv198.2 | exact hqv198.2.1
                        have hW : WI 2 σ199.1 := WI.tr hOσ199 (by decide) (by decide) (by decide) hW
                        refine ok_if (fun hc200 => ?_) (fun hc200 => ?_)
                        · rw [J_X5_readLine_211.eq_1]
                          refine ok_if (fun hc201 => ?_) (fun hc201 => ?_)
                          · exact ok_rZ (Or.inl rfl) ⟨hT, (show ((0 : Int32) = 0 ∨ (0 : Int32) = 1) ∧ RD σ199.1 ∧ WI 2 σ199.1 from by first | exact ⟨Or.inl rfl, hD, hW⟩ | exact ⟨Or.inr rfl, hD, hW⟩ | exact ⟨Or.inl hqv198.1, hD, hW⟩ | exact ⟨hqv198.1, hD, hW⟩)⟩
                          · refine ok_gC rfl ?_
                            refine ok_zbT (Q := fun V σ => (V = 0 ∨ V = 1) ∧ RD σ.1) hT (s_X5_pass hN (hR.tr hT) (by first | exact hX | exact hT.1.2 hX) (hD)) (by decide) (fun v202 σ203 hOσ203 hT hqv202 => ?_)
                            have hqv202 : (v202 = 0 ∨ v202 = 1) ∧ RD σ203.1 := hqv202
                            have hD : RD σ203.1 := by first | exact hqv202.2 | exact hqv202.2.1
                            have hW : WI 2 σ203.1 := WI.tr hOσ203 (by decide) (by decide) (by decide) hW
                            refine ok_if (fun hc204 => ?_) (fun hc204 => ?_)
                            · exact ok_rZ (Or.inl rfl) ⟨hT, (show ((0 : Int32) = 0 ∨ (0 : Int32) = 1) ∧ RD σ203.1 ∧ WI 2 σ203.1 from by first | exact ⟨Or.inl rfl, hD, hW⟩ | exact ⟨Or.inr rfl, hD, hW⟩ | exact ⟨Or.inl hqv202.1, hD, hW⟩ | exact ⟨hqv202.1, hD, hW⟩)⟩
                            · exact ok_rZ (Or.inr rfl) ⟨hT, (show ((1 : Int32) = 0 ∨ (1 : Int32) = 1) ∧ RD σ203.1 ∧ WI 2 σ203.1 from by first | exact ⟨Or.inl rfl, hD, hW⟩ | exact ⟨Or.inr rfl, hD, hW⟩ | exact ⟨Or.inl hqv202.1, hD, hW⟩ | exact ⟨hqv202.1, hD, hW⟩)⟩
                        · rw [J_X5_readLine_211.eq_1]
                          refine ok_if (fun hc205 => ?_) (fun hc205 => ?_)
                          · exact ok_rZ (Or.inl rfl) ⟨hT, (show ((0 : Int32) = 0 ∨ (0 : Int32) = 1) ∧ RD σ199.1 ∧ WI 2 σ199.1 from by first | exact ⟨Or.inl rfl, hD, hW⟩ | exact ⟨Or.inr rfl, hD, hW⟩ | exact ⟨Or.inl hqv198.1, hD, hW⟩ | exact ⟨hqv198.1, hD, hW⟩)⟩
                          · refine ok_gC rfl ?_
                            refine ok_zbT (Q := fun V σ => (V = 0 ∨ V = 1) ∧ RD σ.1) hT (s_X5_pass hN (hR.tr hT) (by first | exact hX | exact hT.1.2 hX) (hD)) (by decide) (fun v206 σ207 hOσ207 hT hqv206 => ?_)
                            have hqv206 : (v206 = 0 ∨ v206 = 1) ∧ RD σ207.1 := hqv206
                            have hD : RD σ207.1 := by first | exact hqv206.2 | exact hqv206.2.1
                            have hW : WI 2 σ207.1 := WI.tr hOσ207 (by decide) (by decide) (by decide) hW
                            refine ok_if (fun hc208 => ?_) (fun hc208 => ?_)
                            · exact ok_rZ (Or.inl rfl) ⟨hT, (show ((0 : Int32) = 0 ∨ (0 : Int32) = 1) ∧ RD σ207.1 ∧ WI 2 σ207.1 from by first | exact ⟨Or.inl rfl, hD, hW⟩ | exact ⟨Or.inr rfl, hD, hW⟩ | exact ⟨Or.inl hqv206.1, hD, hW⟩ | exact ⟨hqv206.1, hD, hW⟩)⟩
                            · exact ok_rZ (Or.inr rfl) ⟨hT, (show ((1 : Int32) = 0 ∨ (1 : Int32) = 1) ∧ RD σ207.1 ∧ WI 2 σ207.1 from by first | exact ⟨Or.inl rfl, hD, hW⟩ | exact ⟨Or.inr rfl, hD, hW⟩ | exact ⟨Or.inl hqv206.1, hD, hW⟩ | exact ⟨hqv206.1, hD, hW⟩)⟩
                · refine ok_gC rfl ?_
                  refine ok_zbT (Q := fun V σ => V = 0 ∧ RD σ.1) hT (s_X5_fail hN (hR.tr hT) (by first | exact hX | exact hT.1.2 hX) (hD)) (by decide) (fun v209 σ210 hOσ210 hT hqv209 => ?_)
                  have hqv209 : v209 = 0 ∧ RD σ210.1 := hqv209
                  have hD : RD σ210.1 := by first | exact hqv209.2 | exact hqv209.2.1
                  have hW : WI 2 σ210.1 := WI.tr hOσ210 (by decide) (by decide) (by decide) hW
                  exact ok_rZ (by have q := hqv209.1; first | exact q | exact Or.inl q | exact Or.inr q) ⟨hT, (show (v209 = 0 ∨ v209 = 1) ∧ RD σ210.1 ∧ WI 2 σ210.1 from by first | exact ⟨Or.inl rfl, hD, hW⟩ | exact ⟨Or.inr rfl, hD, hW⟩ | exact ⟨Or.inl hqv209.1, hD, hW⟩ | exact ⟨hqv209.1, hD, hW⟩)⟩
              · rw [J_X5_readLine_92.eq_1]
                refine ok_gC rfl ?_
                refine ok_zbT (Q := fun V σ => (V = 0 ∨ V = 1) ∧ RD σ.1) hT (s_X5_pass hN (hR.tr hT) (by first | exact hX | exact hT.1.2 hX) (hD)) (by decide) (fun v211 σ212 hOσ212 hT hqv211 => ?_)
                have hqv211 : (v211 = 0 ∨ v211 = 1) ∧ RD σ212.1 := hqv211
                have hD : RD σ212.1 := by first | exact hqv211.2 | exact hqv211.2.1
                have hW : WI 2 σ212.1 := WI.tr hOσ212 (by decide) (by decide) (by decide) hW
                refine ok_gR (v := 62) hT rfl (hR 57 11 rfl) ?_
                refine ok_gI rfl ?_
                refine ok_aIn rfl (by have q1 := hD.1; have q2 := hD.2.1; have q3 := hD0.1; have q4 := hD0.2.1; first | omega | decide | (simp only [Int32.le_iff_toInt_le, Int32.lt_iff_toInt_lt, ti_add, ti_sub, ti_mul, Int32.reduceToInt] at *; omega) | (exfalso; simp_all; done)) (by have q1 := hD.1; have q2 := hD.2.1; have q3 := hD0.1; have q4 := hD0.2.1; first | omega | decide | (simp only [Int32.le_iff_toInt_le, Int32.lt_iff_toInt_lt, ti_add, ti_sub, ti_mul, Int32.reduceToInt] at *; omega) | (exfalso; simp_all; done)) (fun v215 ev215 => ?_)
                refine ok_if (fun hc216 => ?_) (fun hc216 => ?_)
                · refine ok_gC rfl ?_
                  refine ok_zbT (Q := fun V σ => (V = 0 ∨ V = 1) ∧ RD σ.1 ∧ WI 2 σ.1) hT (s_X5_readNames_2 hN (hR.tr hT) (by first | exact hX | exact hT.1.2 hX) (hD) (hW)) (by decide) (fun v217 σ218 hOσ218 hT hqv217 => ?_)
                  have hqv217 : (v217 = 0 ∨ v217 = 1) ∧ RD σ218.1 ∧ WI 2 σ218.1 := hqv217
                  have hD : RD σ218.1 := by first | exact hqv217.2 | exact hqv217.2.1
                  have hW : WI 2 σ218.1 := by first | exact hqv217.2.2 | exact hqv217
                  rw [J_X5_readLine_211.eq_1]
                  refine ok_if (fun hc219 => ?_) (fun hc219 => ?_)
                  · exact ok_rZ (Or.inl rfl) ⟨hT, (show ((0 : Int32) = 0 ∨ (0 : Int32) = 1) ∧ RD σ218.1 ∧ WI 2 σ218.1 from by first | exact ⟨Or.inl rfl, hD, hW⟩ | exact ⟨Or.inr rfl, hD, hW⟩ | exact ⟨Or.inl hqv217.1, hD, hW⟩ | exact ⟨hqv217.1, hD, hW⟩)⟩
                  · refine ok_gC rfl ?_
                    refine ok_zbT (Q := fun V σ => (V = 0 ∨ V = 1) ∧ RD σ.1) hT (s_X5_pass hN (hR.tr hT) (by first | exact hX | exact hT.1.2 hX) (hD)) (by decide) (fun v220 σ221 hOσ221 hT hqv220 => ?_)
                    have hqv220 : (v220 = 0 ∨ v220 = 1) ∧ RD σ221.1 := hqv220
                    have hD : RD σ221.1 := by first | exact hqv220.2 | exact hqv220.2.1
                    have hW : WI 2 σ221.1 := WI.tr hOσ221 (by decide) (by decide) (by decide) hW
                    refine ok_if (fun hc222 => ?_) (fun hc222 => ?_)
                    · exact ok_rZ (Or.inl rfl) ⟨hT, (show ((0 : Int32) = 0 ∨ (0 : Int32) = 1) ∧ RD σ221.1 ∧ WI 2 σ221.1 from by first | exact ⟨Or.inl rfl, hD, hW⟩ | exact ⟨Or.inr rfl, hD, hW⟩ | exact ⟨Or.inl hqv220.1, hD, hW⟩ | exact ⟨hqv220.1, hD, hW⟩)⟩
                    · exact ok_rZ (Or.inr rfl) ⟨hT, (show ((1 : Int32) = 0 ∨ (1 : Int32) = 1) ∧ RD σ221.1 ∧ WI 2 σ221.1 from by first | exact ⟨Or.inl rfl, hD, hW⟩ | exact ⟨Or.inr rfl, hD, hW⟩ | exact ⟨Or.inl hqv220.1, hD, hW⟩ | exact ⟨hqv220.1, hD, hW⟩)⟩
                refine ok_if (fun hc223 => ?_) (fun hc223 => ?_)
                · refine ok_gC rfl ?_
                  refine ok_zbT (Q := fun V σ => (V = 0 ∨ V = 1) ∧ RD σ.1 ∧ WI 2 σ.1) hT (s_X5_readWeight_2 hN (hR.tr hT) (by first | exact hX | exact hT.1.2 hX) (hD) (hW)) (by decide) (fun v224 σ225 hOσ225 hT hqv224 => ?_)
                  have hqv224 : (v224 = 0 ∨ v224 = 1) ∧ RD σ225.1 ∧ WI 2 σ225.1 := hqv224
                  have hD : RD σ225.1 := by first | exact hqv224.2 | exact hqv224.2.1
                  have hW : WI 2 σ225.1 := WI.tr hOσ225 (by decide) (by decide) (by decide) hW
                  rw [J_X5_readLine_211.eq_1]
                  refine ok_if (fun hc226 => ?_) (fun hc226 => ?_)
                  · exact ok_rZ (Or.inl rfl) ⟨hT, (show ((0 : Int32) = 0 ∨ (0 : Int32) = 1) ∧ RD σ225.1 ∧ WI 2 σ225.1 from by first | exact ⟨Or.inl rfl, hD, hW⟩ | exact ⟨Or.inr rfl, hD, hW⟩ | exact ⟨Or.inl hqv224.1, hD, hW⟩ | exact ⟨hqv224.1, hD, hW⟩)⟩
                  · refine ok_gC rfl ?_
                    refine ok_zbT (Q := fun V σ => (V = 0 ∨ V = 1) ∧ RD σ.1) hT (s_X5_pass hN (hR.tr hT) (by first | exact hX | exact hT.1.2 hX) (hD)) (by decide) (fun v227 σ228 hOσ228 hT hqv227 => ?_)
                    have hqv227 : (v227 = 0 ∨ v227 = 1) ∧ RD σ228.1 := hqv227
                    have hD : RD σ228.1 := by first | exact hqv227.2 | exact hqv227.2.1
                    have hW : WI 2 σ228.1 := WI.tr hOσ228 (by decide) (by decide) (by decide) hW
                    refine ok_if (fun hc229 => ?_) (fun hc229 => ?_)
                    · exact ok_rZ (Or.inl rfl) ⟨hT, (show ((0 : Int32) = 0 ∨ (0 : Int32) = 1) ∧ RD σ228.1 ∧ WI 2 σ228.1 from by first | exact ⟨Or.inl rfl, hD, hW⟩ | exact ⟨Or.inr rfl, hD, hW⟩ | exact ⟨Or.inl hqv227.1, hD, hW⟩ | exact ⟨hqv227.1, hD, hW⟩)⟩
                    · exact ok_rZ (Or.inr rfl) ⟨hT, (show ((1 : Int32) = 0 ∨ (1 : Int32) = 1) ∧ RD σ228.1 ∧ WI 2 σ228.1 from by first | exact ⟨Or.inl rfl, hD, hW⟩ | exact ⟨Or.inr rfl, hD, hW⟩ | exact ⟨Or.inl hqv227.1, hD, hW⟩ | exact ⟨hqv227.1, hD, hW⟩)⟩
                refine ok_if (fun hc230 => ?_) (fun hc230 => ?_)
                · refine ok_gC rfl ?_
                  refine ok_zbT (Q := fun V σ => (V = 0 ∨ V = 1) ∧ RD σ.1 ∧ WI 2 σ.1) hT (s_X5_readEdge_2 hN (hR.tr hT) (by first | exact hX | exact hT.1.2 hX) (hD) (hW)) (by decide) (fun v231 σ232 hOσ232 hT hqv231 => ?_)
                  have hqv231 : (v231 = 0 ∨ v231 = 1) ∧ RD σ232.1 ∧ WI 2 σ232.1 := hqv231
                  have hD : RD σ232.1 := by first | exact hqv231.2 | exact hqv231.2.1
                  have hW : WI 2 σ232.1 := by first | exact hqv231.2.2 | exact hqv231
                  rw [J_X5_readLine_211.eq_1]
                  refine ok_if (fun hc233 => ?_) (fun hc233 => ?_)
                  · exact ok_rZ (Or.inl rfl) ⟨hT, (show ((0 : Int32) = 0 ∨ (0 : Int32) = 1) ∧ RD σ232.1 ∧ WI 2 σ232.1 from by first | exact ⟨Or.inl rfl, hD, hW⟩ | exact ⟨Or.inr rfl, hD, hW⟩ | exact ⟨Or.inl hqv231.1, hD, hW⟩ | exact ⟨hqv231.1, hD, hW⟩)⟩
                  · refine ok_gC rfl ?_
                    refine ok_zbT (Q := fun V σ => (V = 0 ∨ V = 1) ∧ RD σ.1) hT (s_X5_pass hN (hR.tr hT) (by first | exact hX | exact hT.1.2 hX) (hD)) (by decide) (fun v234 σ235 hOσ235 hT hqv234 => ?_)
                    have hqv234 : (v234 = 0 ∨ v234 = 1) ∧ RD σ235.1 := hqv234
                    have hD : RD σ235.1 := by first | exact hqv234.2 | exact hqv234.2.1
                    have hW : WI 2 σ235.1 := WI.tr hOσ235 (by decide) (by decide) (by decide) hW
                    refine ok_if (fun hc236 => ?_) (fun hc236 => ?_)
                    · exact ok_rZ (Or.inl rfl) ⟨hT, (show ((0 : Int32) = 0 ∨ (0 : Int32) = 1) ∧ RD σ235.1 ∧ WI 2 σ235.1 from by first | exact ⟨Or.inl rfl, hD, hW⟩ | exact ⟨Or.inr rfl, hD, hW⟩ | exact ⟨Or.inl hqv234.1, hD, hW⟩ | exact ⟨hqv234.1, hD, hW⟩)⟩
                    · exact ok_rZ (Or.inr rfl) ⟨hT, (show ((1 : Int32) = 0 ∨ (1 : Int32) = 1) ∧ RD σ235.1 ∧ WI 2 σ235.1 from by first | exact ⟨Or.inl rfl, hD, hW⟩ | exact ⟨Or.inr rfl, hD, hW⟩ | exact ⟨Or.inl hqv234.1, hD, hW⟩ | exact ⟨hqv234.1, hD, hW⟩)⟩
                refine ok_gC rfl ?_
                refine ok_zbT (Q := fun V σ => (V = 0 ∨ V = 1) ∧ RD σ.1 ∧ (¬ V = 0 → 1 ≤ (σ.1 57 9).toInt ∧ (0 : Int32).toInt ≤ (lastv σ.1).toInt ∧ (lastv σ.1).toInt ≤ (9 : Int32).toInt)) hT (s_X5_passNumber hN (hR.tr hT) (by first | exact hX | exact hT.1.2 hX) (hD)) (by decide) (fun v237 σ238 hOσ238 hT hqv237 => ?_)
                have hqv237 : (v237 = 0 ∨ v237 = 1) ∧ RD σ238.1 ∧ (¬ v237 = 0 → 1 ≤ (σ238.1 57 9).toInt ∧ (0 : Int32).toInt ≤ (lastv σ238.1).toInt ∧ (lastv σ238.1).toInt ≤ (9 : Int32).toInt) := hqv237
                have hD : RD σ238.1 := by first | exact hqv237.2 | exact hqv237.2.1
                have hW : WI 2 σ238.1 := WI.tr hOσ238 (by decide) (by decide) (by decide) hW
                refine ok_if (fun hc239 => ?_) (fun hc239 => ?_)
                · rw [J_X5_readLine_211.eq_1]
                  refine ok_if (fun hc240 => ?_) (fun hc240 => ?_)
                  · exact ok_rZ (Or.inl rfl) ⟨hT, (show ((0 : Int32) = 0 ∨ (0 : Int32) = 1) ∧ RD σ238.1 ∧ WI 2 σ238.1 from by first | exact ⟨Or.inl rfl, hD, hW⟩ | exact ⟨Or.inr rfl, hD, hW⟩ | exact ⟨Or.inl hqv237.1, hD, hW⟩ | exact ⟨hqv237.1, hD, hW⟩)⟩
                  · refine ok_gC rfl ?_
                    refine ok_zbT (Q := fun V σ => (V = 0 ∨ V = 1) ∧ RD σ.1) hT (s_X5_pass hN (hR.tr hT) (by first | exact hX | exact hT.1.2 hX) (hD)) (by decide) (fun v241 σ242 hOσ242 hT hqv241 => ?_)
                    have hqv241 : (v241 = 0 ∨ v241 = 1) ∧ RD σ242.1 := hqv241
                    have hD : RD σ242.1 := by first | exact hqv241.2 | exact hqv241.2.1
                    have hW : WI 2 σ242.1 := WI.tr hOσ242 (by decide) (by decide) (by decide) hW
                    refine ok_if (fun hc243 => ?_) (fun hc243 => ?_)
                    · exact ok_rZ (Or.inl rfl) ⟨hT, (show ((0 : Int32) = 0 ∨ (0 : Int32) = 1) ∧ RD σ242.1 ∧ WI 2 σ242.1 from by first | exact ⟨Or.inl rfl, hD, hW⟩ | exact ⟨Or.inr rfl, hD, hW⟩ | exact ⟨Or.inl hqv241.1, hD, hW⟩ | exact ⟨hqv241.1, hD, hW⟩)⟩
                    · exact ok_rZ (Or.inr rfl) ⟨hT, (show ((1 : Int32) = 0 ∨ (1 : Int32) = 1) ∧ RD σ242.1 ∧ WI 2 σ242.1 from by first | exact ⟨Or.inl rfl, hD, hW⟩ | exact ⟨Or.inr rfl, hD, hW⟩ | exact ⟨Or.inl hqv241.1, hD, hW⟩ | exact ⟨hqv241.1, hD, hW⟩)⟩
                · refine ok_gC rfl ?_
                  refine ok_zbT (Q := fun V σ => (V = 0 ∨ V = 1) ∧ RD σ.1) hT (s_X5_pass hN (hR.tr hT) (by first | exact hX | exact hT.1.2 hX) (hD)) (by decide) (fun v244 σ245 hOσ245 hT hqv244 => ?_)
                  have hqv244 : (v244 = 0 ∨ v244 = 1) ∧ RD σ245.1 := hqv244
                  have hD : RD σ245.1 := by first | exact hqv244.2 | exact hqv244.2.1
                  have hW : WI 2 σ245.1 := WI.tr hOσ245 (by decide) (by decide) (by decide) hW
                  refine ok_if (fun hc246 => ?_) (fun hc246 => ?_)
                  · rw [J_X5_readLine_211.eq_1]
                    refine ok_if (fun hc247 => ?_) (fun hc247 => ?_)
                    · exact ok_rZ (Or.inl rfl) ⟨hT, (show ((0 : Int32) = 0 ∨ (0 : Int32) = 1) ∧ RD σ245.1 ∧ WI 2 σ245.1 from by first | exact ⟨Or.inl rfl, hD, hW⟩ | exact ⟨Or.inr rfl, hD, hW⟩ | exact ⟨Or.inl hqv244.1, hD, hW⟩ | exact ⟨hqv244.1, hD, hW⟩)⟩
                    · refine ok_gC rfl ?_
                      refine ok_zbT (Q := fun V σ => (V = 0 ∨ V = 1) ∧ RD σ.1) hT (s_X5_pass hN (hR.tr hT) (by first | exact hX | exact hT.1.2 hX) (hD)) (by decide) (fun v248 σ249 hOσ249 hT hqv248 => ?_)
                      have hqv248 : (v248 = 0 ∨ v248 = 1) ∧ RD σ249.1 := hqv248
                      have hD : RD σ249.1 := by first | exact hqv248.2 | exact hqv248.2.1
                      have hW : WI 2 σ249.1 := WI.tr hOσ249 (by decide) (by decide) (by decide) hW
                      refine ok_if (fun hc250 => ?_) (fun hc250 => ?_)
                      · exact ok_rZ (Or.inl rfl) ⟨hT, (show ((0 : Int32) = 0 ∨ (0 : Int32) = 1) ∧ RD σ249.1 ∧ WI 2 σ249.1 from by first | exact ⟨Or.inl rfl, hD, hW⟩ | exact ⟨Or.inr rfl, hD, hW⟩ | exact ⟨Or.inl hqv248.1, hD, hW⟩ | exact ⟨hqv248.1, hD, hW⟩)⟩
                      · exact ok_rZ (Or.inr rfl) ⟨hT, (show ((1 : Int32) = 0 ∨ (1 : Int32) = 1) ∧ RD σ249.1 ∧ WI 2 σ249.1 from by first | exact ⟨Or.inl rfl, hD, hW⟩ | exact ⟨Or.inr rfl, hD, hW⟩ | exact ⟨Or.inl hqv248.1, hD, hW⟩ | exact ⟨hqv248.1, hD, hW⟩)⟩
                  · refine ok_gC rfl ?_
                    refine ok_zbT (Q := fun V σ => (V = 0 ∨ V = 1) ∧ RD σ.1) hT (s_X5_sum hN (hR.tr hT) (by first | exact hX | exact hT.1.2 hX) (hD) (by have q1 := hD.1; have q2 := hD.2.1; have q3 := hD0.1; have q4 := hD0.2.1; first | omega | decide | (simp only [Int32.le_iff_toInt_le, Int32.lt_iff_toInt_lt, ti_add, ti_sub, ti_mul, Int32.reduceToInt] at *; omega) | (exfalso; simp_all; done)) (by have q1 := hD.1; have q2 := hD.2.1; have q3 := hD0.1; have q4 := hD0.2.1; first | omega | decide | (simp only [Int32.le_iff_toInt_le, Int32.lt_iff_toInt_lt, ti_add, ti_sub, ti_mul, Int32.reduceToInt] at *; omega) | (exfalso; simp_all; done))) (by decide) (fun v251 σ252 hOσ252 hT hqv251 => ?_)
                    have hqv251 : (v251 = 0 ∨ v251 = 1) ∧ RD σ252.1 := hqv251
                    have hD : RD σ252.1 := by first | exact hqv251.2 | exact hqv251.2.1
                    have hW : WI 2 σ252.1 := WI.tr hOσ252 (by decide) (by decide) (by decide) hW
                    refine ok_if (fun hc253 => ?_) (fun hc253 => ?_)
                    · rw [J_X5_readLine_211.eq_1]
                      refine ok_if (fun hc254 => ?_) (fun hc254 => ?_)
                      · exact ok_rZ (Or.inl rfl) ⟨hT, (show ((0 : Int32) = 0 ∨ (0 : Int32) = 1) ∧ RD σ252.1 ∧ WI 2 σ252.1 from by first | exact ⟨Or.inl rfl, hD, hW⟩ | exact ⟨Or.inr rfl, hD, hW⟩ | exact ⟨Or.inl hqv251.1, hD, hW⟩ | exact ⟨hqv251.1, hD, hW⟩)⟩
                      · refine ok_gC rfl ?_
                        refine ok_zbT (Q := fun V σ => (V = 0 ∨ V = 1) ∧ RD σ.1) hT (s_X5_pass hN (hR.tr hT) (by first | exact hX | exact hT.1.2 hX) (hD)) (by decide) (fun v255 σ256 hOσ256 hT hqv255 => ?_)
                        have hqv255 : (v255 = 0 ∨ v255 = 1) ∧ RD σ256.1 := hqv255
                        have hD : RD σ256.1 := by first | exact hqv255.2 | exact hqv255.2.1
                        have hW : WI 2 σ256.1 := WI.tr hOσ256 (by decide) (by decide) (by decide) hW
                        refine ok_if (fun hc257 => ?_) (fun hc257 => ?_)
                        · exact ok_rZ (Or.inl rfl) ⟨hT, (show ((0 : Int32) = 0 ∨ (0 : Int32) = 1) ∧ RD σ256.1 ∧ WI 2 σ256.1 from by first | exact ⟨Or.inl rfl, hD, hW⟩ | exact ⟨Or.inr rfl, hD, hW⟩ | exact ⟨Or.inl hqv255.1, hD, hW⟩ | exact ⟨hqv255.1, hD, hW⟩)⟩
                        · exact ok_rZ (Or.inr rfl) ⟨hT, (show ((1 : Int32) = 0 ∨ (1 : Int32) = 1) ∧ RD σ256.1 ∧ WI 2 σ256.1 from by first | exact ⟨Or.inl rfl, hD, hW⟩ | exact ⟨Or.inr rfl, hD, hW⟩ | exact ⟨Or.inl hqv255.1, hD, hW⟩ | exact ⟨hqv255.1, hD, hW⟩)⟩
                    · refine ok_gC rfl ?_
                      refine ok_zbT (Q := fun V σ => V = 1 ∧ RD σ.1) hT (s_X5_emit hN (hR.tr hT) (by first | exact hX | exact hT.1.2 hX) (hD)) (by decide) (fun v258 σ259 hOσ259 hT hqv258 => ?_)
                      have hqv258 : v258 = 1 ∧ RD σ259.1 := hqv258
                      have hD : RD σ259.1 := by first | exact hqv258.2 | exact hqv258.2.1
                      have hW : WI 2 σ259.1 := WI.tr hOσ259 (by decide) (by decide) (by decide) hW
                      refine ok_if (fun hc260 => ?_) (fun hc260 => ?_)
                      · rw [J_X5_readLine_211.eq_1]
                        refine ok_if (fun hc261 => ?_) (fun hc261 => ?_)
                        · exact ok_rZ (Or.inl rfl) ⟨hT, (show ((0 : Int32) = 0 ∨ (0 : Int32) = 1) ∧ RD σ259.1 ∧ WI 2 σ259.1 from by first | exact ⟨Or.inl rfl, hD, hW⟩ | exact ⟨Or.inr rfl, hD, hW⟩ | exact ⟨Or.inl hqv258.1, hD, hW⟩ | exact ⟨hqv258.1, hD, hW⟩)⟩
                        · refine ok_gC rfl ?_
                          refine ok_zbT (Q := fun V σ => (V = 0 ∨ V = 1) ∧ RD σ.1) hT (s_X5_pass hN (hR.tr hT) (by first | exact hX | exact hT.1.2 hX) (hD)) (by decide) (fun v262 σ263 hOσ263 hT hqv262 => ?_)
                          have hqv262 : (v262 = 0 ∨ v262 = 1) ∧ RD σ263.1 := hqv262
                          have hD : RD σ263.1 := by first | exact hqv262.2 | exact hqv262.2.1
                          have hW : WI 2 σ263.1 := WI.tr hOσ263 (by decide) (by decide) (by decide) hW
                          refine ok_if (fun hc264 => ?_) (fun hc264 => ?_)
                          · exact ok_rZ (Or.inl rfl) ⟨hT, (show ((0 : Int32) = 0 ∨ (0 : Int32) = 1) ∧ RD σ263.1 ∧ WI 2 σ263.1 from by first | exact ⟨Or.inl rfl, hD, hW⟩ | exact ⟨Or.inr rfl, hD, hW⟩ | exact ⟨Or.inl hqv262.1, hD, hW⟩ | exact ⟨hqv262.1, hD, hW⟩)⟩
                          · exact ok_rZ (Or.inr rfl) ⟨hT, (show ((1 : Int32) = 0 ∨ (1 : Int32) = 1) ∧ RD σ263.1 ∧ WI 2 σ263.1 from by first | exact ⟨Or.inl rfl, hD, hW⟩ | exact ⟨Or.inr rfl, hD, hW⟩ | exact ⟨Or.inl hqv262.1, hD, hW⟩ | exact ⟨hqv262.1, hD, hW⟩)⟩
                      · rw [J_X5_readLine_211.eq_1]
                        refine ok_if (fun hc265 => ?_) (fun hc265 => ?_)
                        · exact ok_rZ (Or.inl rfl) ⟨hT, (show ((0 : Int32) = 0 ∨ (0 : Int32) = 1) ∧ RD σ259.1 ∧ WI 2 σ259.1 from by first | exact ⟨Or.inl rfl, hD, hW⟩ | exact ⟨Or.inr rfl, hD, hW⟩ | exact ⟨Or.inl hqv258.1, hD, hW⟩ | exact ⟨hqv258.1, hD, hW⟩)⟩
                        · refine ok_gC rfl ?_
                          refine ok_zbT (Q := fun V σ => (V = 0 ∨ V = 1) ∧ RD σ.1) hT (s_X5_pass hN (hR.tr hT) (by first | exact hX | exact hT.1.2 hX) (hD)) (by decide) (fun v266 σ267 hOσ267 hT hqv266 => ?_)
                          have hqv266 : (v266 = 0 ∨ v266 = 1) ∧ RD σ267.1 := hqv266
                          have hD : RD σ267.1 := by first | exact hqv266.2 | exact hqv266.2.1
                          have hW : WI 2 σ267.1 := WI.tr hOσ267 (by decide) (by decide) (by decide) hW
                          refine ok_if (fun hc268 => ?_) (fun hc268 => ?_)
                          · exact ok_rZ (Or.inl rfl) ⟨hT, (show ((0 : Int32) = 0 ∨ (0 : Int32) = 1) ∧ RD σ267.1 ∧ WI 2 σ267.1 from by first | exact ⟨Or.inl rfl, hD, hW⟩ | exact ⟨Or.inr rfl, hD, hW⟩ | exact ⟨Or.inl hqv266.1, hD, hW⟩ | exact ⟨hqv266.1, hD, hW⟩)⟩
                          · exact ok_rZ (Or.inr rfl) ⟨hT, (show ((1 : Int32) = 0 ∨ (1 : Int32) = 1) ∧ RD σ267.1 ∧ WI 2 σ267.1 from by first | exact ⟨Or.inl rfl, hD, hW⟩ | exact ⟨Or.inr rfl, hD, hW⟩ | exact ⟨Or.inl hqv266.1, hD, hW⟩ | exact ⟨hqv266.1, hD, hW⟩)⟩
            · refine ok_gC rfl ?_
              refine ok_zbT (Q := fun V σ => V = 0 ∧ RD σ.1) hT (s_X5_fail hN (hR.tr hT) (by first | exact hX | exact hT.1.2 hX) (hD)) (by decide) (fun v269 σ270 hOσ270 hT hqv269 => ?_)
              have hqv269 : v269 = 0 ∧ RD σ270.1 := hqv269
              have hD : RD σ270.1 := by first | exact hqv269.2 | exact hqv269.2.1
              have hW : WI 2 σ270.1 := WI.tr hOσ270 (by decide) (by decide) (by decide) hW
              exact ok_rZ (by have q := hqv269.1; first | exact q | exact Or.inl q | exact Or.inr q) ⟨hT, (show (v269 = 0 ∨ v269 = 1) ∧ RD σ270.1 ∧ WI 2 σ270.1 from by first | exact ⟨Or.inl rfl, hD, hW⟩ | exact ⟨Or.inr rfl, hD, hW⟩ | exact ⟨Or.inl hqv269.1, hD, hW⟩ | exact ⟨hqv269.1, hD, hW⟩)⟩
        · refine ok_gC rfl ?_
          refine ok_zbT (Q := fun V σ => V = 0 ∧ RD σ.1) hT (s_X5_fail hN (hR.tr hT) (by first | exact hX | exact hT.1.2 hX) (hD)) (by decide) (fun v271 σ272 hOσ272 hT hqv271 => ?_)
          have hqv271 : v271 = 0 ∧ RD σ272.1 := hqv271
          have hD : RD σ272.1 := by first | exact hqv271.2 | exact hqv271.2.1
          have hW : WI 2 σ272.1 := WI.tr hOσ272 (by decide) (by decide) (by decide) hW
          exact ok_rZ (by have q := hqv271.1; first | exact q | exact Or.inl q | exact Or.inr q) ⟨hT, (show (v271 = 0 ∨ v271 = 1) ∧ RD σ272.1 ∧ WI 2 σ272.1 from by first | exact ⟨Or.inl rfl, hD, hW⟩ | exact ⟨Or.inr rfl, hD, hW⟩ | exact ⟨Or.inl hqv271.1, hD, hW⟩ | exact ⟨hqv271.1, hD, hW⟩)⟩
    · rw [J_X5_readLine_39.eq_1]
      refine ok_if (fun hc273 => ?_) (fun hc273 => ?_)
      · rw [J_X5_readLine_51.eq_1]
        refine ok_if (fun hc274 => ?_) (fun hc274 => ?_)
        · refine ok_if (fun hc275 => ?_) (fun hc275 => ?_)
          · refine ok_gC rfl ?_
            refine ok_zbT (Q := fun V σ => V = 0 ∧ RD σ.1) hT (s_X5_fail hN (hR.tr hT) (by first | exact hX | exact hT.1.2 hX) (hD)) (by decide) (fun v276 σ277 hOσ277 hT hqv276 => ?_)
            have hqv276 : v276 = 0 ∧ RD σ277.1 := hqv276
            have hD : RD σ277.1 := by first | exact hqv276.2 | exact hqv276.2.1
            have hW : WI 2 σ277.1 := WI.tr hOσ277 (by decide) (by decide) (by decide) hW
            exact ok_rZ (by have q := hqv276.1; first | exact q | exact Or.inl q | exact Or.inr q) ⟨hT, (show (v276 = 0 ∨ v276 = 1) ∧ RD σ277.1 ∧ WI 2 σ277.1 from by first | exact ⟨Or.inl rfl, hD, hW⟩ | exact ⟨Or.inr rfl, hD, hW⟩ | exact ⟨Or.inl hqv276.1, hD, hW⟩ | exact ⟨hqv276.1, hD, hW⟩)⟩
          · refine ok_if (fun hc278 => ?_) (fun hc278 => ?_)
            · refine ok_if (fun hc279 => ?_) (fun hc279 => ?_)
              · refine ok_gI rfl ?_
                refine ok_gI rfl ?_
                refine ok_if (fun hc282 => ?_) (fun hc282 => ?_)
                · rw [J_X5_readLine_92.eq_1]
                  refine ok_gC rfl ?_
                  refine ok_zbT (Q := fun V σ => (V = 0 ∨ V = 1) ∧ RD σ.1) hT (s_X5_pass hN (hR.tr hT) (by first | exact hX | exact hT.1.2 hX) (hD)) (by decide) (fun v283 σ284 hOσ284 hT hqv283 => ?_)
                  have hqv283 : (v283 = 0 ∨ v283 = 1) ∧ RD σ284.1 := hqv283
                  have hD : RD σ284.1 := by first | exact hqv283.2 | exact hqv283.2.1
                  have hW : WI 2 σ284.1 := WI.tr hOσ284 (by decide) (by decide) (by decide) hW
                  refine ok_gR (v := 62) hT rfl (hR 57 11 rfl) ?_
                  refine ok_gI rfl ?_
                  refine ok_aIn rfl (by have q1 := hD.1; have q2 := hD.2.1; have q3 := hD0.1; have q4 := hD0.2.1; first | omega | decide | (simp only [Int32.le_iff_toInt_le, Int32.lt_iff_toInt_lt, ti_add, ti_sub, ti_mul, Int32.reduceToInt] at *; omega) | (exfalso; simp_all; done)) (by have q1 := hD.1; have q2 := hD.2.1; have q3 := hD0.1; have q4 := hD0.2.1; first | omega | decide | (simp only [Int32.le_iff_toInt_le, Int32.lt_iff_toInt_lt, ti_add, ti_sub, ti_mul, Int32.reduceToInt] at *; omega) | (exfalso; simp_all; done)) (fun v287 ev287 => ?_)
                  refine ok_if (fun hc288 => ?_) (fun hc288 => ?_)
                  · refine ok_gC rfl ?_
                    refine ok_zbT (Q := fun V σ => (V = 0 ∨ V = 1) ∧ RD σ.1 ∧ WI 2 σ.1) hT (s_X5_readNames_2 hN (hR.tr hT) (by first | exact hX | exact hT.1.2 hX) (hD) (hW)) (by decide) (fun v289 σ290 hOσ290 hT hqv289 => ?_)
                    have hqv289 : (v289 = 0 ∨ v289 = 1) ∧ RD σ290.1 ∧ WI 2 σ290.1 := hqv289
                    have hD : RD σ290.1 := by first | exact hqv289.2 | exact hqv289.2.1
                    have hW : WI 2 σ290.1 := by first | exact hqv289.2.2 | exact hqv289
                    rw [J_X5_readLine_211.eq_1]
                    refine ok_if (fun hc291 => ?_) (fun hc291 => ?_)
                    · exact ok_rZ (Or.inl rfl) ⟨hT, (show ((0 : Int32) = 0 ∨ (0 : Int32) = 1) ∧ RD σ290.1 ∧ WI 2 σ290.1 from by first | exact ⟨Or.inl rfl, hD, hW⟩ | exact ⟨Or.inr rfl, hD, hW⟩ | exact ⟨Or.inl hqv289.1, hD, hW⟩ | exact ⟨hqv289.1, hD, hW⟩)⟩
                    · refine ok_gC rfl ?_
                      refine ok_zbT (Q := fun V σ => (V = 0 ∨ V = 1) ∧ RD σ.1) hT (s_X5_pass hN (hR.tr hT) (by first | exact hX | exact hT.1.2 hX) (hD)) (by decide) (fun v292 σ293 hOσ293 hT hqv292 => ?_)
                      have hqv292 : (v292 = 0 ∨ v292 = 1) ∧ RD σ293.1 := hqv292
                      have hD : RD σ293.1 := by first | exact hqv292.2 | exact hqv292.2.1
                      have hW : WI 2 σ293.1 := WI.tr hOσ293 (by decide) (by decide) (by decide) hW
                      refine ok_if (fun hc294 => ?_) (fun hc294 => ?_)
                      · exact ok_rZ (Or.inl rfl) ⟨hT, (show ((0 : Int32) = 0 ∨ (0 : Int32) = 1) ∧ RD σ293.1 ∧ WI 2 σ293.1 from by first | exact ⟨Or.inl rfl, hD, hW⟩ | exact ⟨Or.inr rfl, hD, hW⟩ | exact ⟨Or.inl hqv292.1, hD, hW⟩ | exact ⟨hqv292.1, hD, hW⟩)⟩
                      · exact ok_rZ (Or.inr rfl) ⟨hT, (show ((1 : Int32) = 0 ∨ (1 : Int32) = 1) ∧ RD σ293.1 ∧ WI 2 σ293.1 from by first | exact ⟨Or.inl rfl, hD, hW⟩ | exact ⟨Or.inr rfl, hD, hW⟩ | exact ⟨Or.inl hqv292.1, hD, hW⟩ | exact ⟨hqv292.1, hD, hW⟩)⟩
                  refine ok_if (fun hc295 => ?_) (fun hc295 => ?_)
                  · refine ok_gC rfl ?_
                    refine ok_zbT (Q := fun V σ => (V = 0 ∨ V = 1) ∧ RD σ.1 ∧ WI 2 σ.1) hT (s_X5_readWeight_2 hN (hR.tr hT) (by first | exact hX | exact hT.1.2 hX) (hD) (hW)) (by decide) (fun v296 σ297 hOσ297 hT hqv296 => ?_)
                    have hqv296 : (v296 = 0 ∨ v296 = 1) ∧ RD σ297.1 ∧ WI 2 σ297.1 := hqv296
                    have hD : RD σ297.1 := by first | exact hqv296.2 | exact hqv296.2.1
                    have hW : WI 2 σ297.1 := WI.tr hOσ297 (by decide) (by decide) (by decide) hW
                    rw [J_X5_readLine_211.eq_1]
                    refine ok_if (fun hc298 => ?_) (fun hc298 => ?_)
                    · exact ok_rZ (Or.inl rfl) ⟨hT, (show ((0 : Int32) = 0 ∨ (0 : Int32) = 1) ∧ RD σ297.1 ∧ WI 2 σ297.1 from by first | exact ⟨Or.inl rfl, hD, hW⟩ | exact ⟨Or.inr rfl, hD, hW⟩ | exact ⟨Or.inl hqv296.1, hD, hW⟩ | exact ⟨hqv296.1, hD, hW⟩)⟩
                    · refine ok_gC rfl ?_
                      refine ok_zbT (Q := fun V σ => (V = 0 ∨ V = 1) ∧ RD σ.1) hT (s_X5_pass hN (hR.tr hT) (by first | exact hX | exact hT.1.2 hX) (hD)) (by decide) (fun v299 σ300 hOσ300 hT hqv299 => ?_)
                      have hqv299 : (v299 = 0 ∨ v299 = 1) ∧ RD σ300.1 := hqv299
                      have hD : RD σ300.1 := by first | exact hqv299.2 | exact hqv299.2.1
                      have hW : WI 2 σ300.1 := WI.tr hOσ300 (by decide) (by decide) (by decide) hW
                      refine ok_if (fun hc301 => ?_) (fun hc301 => ?_)
                      · exact ok_rZ (Or.inl rfl) ⟨hT, (show ((0 : Int32) = 0 ∨ (0 : Int32) = 1) ∧ RD σ300.1 ∧ WI 2 σ300.1 from by first | exact ⟨Or.inl rfl, hD, hW⟩ | exact ⟨Or.inr rfl, hD, hW⟩ | exact ⟨Or.inl hqv299.1, hD, hW⟩ | exact ⟨hqv299.1, hD, hW⟩)⟩
                      · exact ok_rZ (Or.inr rfl) ⟨hT, (show ((1 : Int32) = 0 ∨ (1 : Int32) = 1) ∧ RD σ300.1 ∧ WI 2 σ300.1 from by first | exact ⟨Or.inl rfl, hD, hW⟩ | exact ⟨Or.inr rfl, hD, hW⟩ | exact ⟨Or.inl hqv299.1, hD, hW⟩ | exact ⟨hqv299.1, hD, hW⟩)⟩
                  refine ok_if (fun hc302 => ?_) (fun hc302 => ?_)
                  · refine ok_gC rfl ?_
                    refine ok_zbT (Q := fun V σ => (V = 0 ∨ V = 1) ∧ RD σ.1 ∧ WI 2 σ.1) hT (s_X5_readEdge_2 hN (hR.tr hT) (by first | exact hX | exact hT.1.2 hX) (hD) (hW)) (by decide) (fun v303 σ304 hOσ304 hT hqv303 => ?_)
                    have hqv303 : (v303 = 0 ∨ v303 = 1) ∧ RD σ304.1 ∧ WI 2 σ304.1 := hqv303
                    have hD : RD σ304.1 := by first | exact hqv303.2 | exact hqv303.2.1
                    have hW : WI 2 σ304.1 := by first | exact hqv303.2.2 | exact hqv303
                    rw [J_X5_readLine_211.eq_1]
                    refine ok_if (fun hc305 => ?_) (fun hc305 => ?_)
                    · exact ok_rZ (Or.inl rfl) ⟨hT, (show ((0 : Int32) = 0 ∨ (0 : Int32) = 1) ∧ RD σ304.1 ∧ WI 2 σ304.1 from by first | exact ⟨Or.inl rfl, hD, hW⟩ | exact ⟨Or.inr rfl, hD, hW⟩ | exact ⟨Or.inl hqv303.1, hD, hW⟩ | exact ⟨hqv303.1, hD, hW⟩)⟩
                    · refine ok_gC rfl ?_
                      refine ok_zbT (Q := fun V σ => (V = 0 ∨ V = 1) ∧ RD σ.1) hT (s_X5_pass hN (hR.tr hT) (by first | exact hX | exact hT.1.2 hX) (hD)) (by decide) (fun v306 σ307 hOσ307 hT hqv306 => ?_)
                      have hqv306 : (v306 = 0 ∨ v306 = 1) ∧ RD σ307.1 := hqv306
                      have hD : RD σ307.1 := by first | exact hqv306.2 | exact hqv306.2.1
                      have hW : WI 2 σ307.1 := WI.tr hOσ307 (by decide) (by decide) (by decide) hW
                      refine ok_if (fun hc308 => ?_) (fun hc308 => ?_)
                      · exact ok_rZ (Or.inl rfl) ⟨hT, (show ((0 : Int32) = 0 ∨ (0 : Int32) = 1) ∧ RD σ307.1 ∧ WI 2 σ307.1 from by first | exact ⟨Or.inl rfl, hD, hW⟩ | exact ⟨Or.inr rfl, hD, hW⟩ | exact ⟨Or.inl hqv306.1, hD, hW⟩ | exact ⟨hqv306.1, hD, hW⟩)⟩
                      · exact ok_rZ (Or.inr rfl) ⟨hT, (show ((1 : Int32) = 0 ∨ (1 : Int32) = 1) ∧ RD σ307.1 ∧ WI 2 σ307.1 from by first | exact ⟨Or.inl rfl, hD, hW⟩ | exact ⟨Or.inr rfl, hD, hW⟩ | exact ⟨Or.inl hqv306.1, hD, hW⟩ | exact ⟨hqv306.1, hD, hW⟩)⟩
                  refine ok_gC rfl ?_
                  refine ok_zbT (Q := fun V σ => (V = 0 ∨ V = 1) ∧ RD σ.1 ∧ (¬ V = 0 → 1 ≤ (σ.1 57 9).toInt ∧ (0 : Int32).toInt ≤ (lastv σ.1).toInt ∧ (lastv σ.1).toInt ≤ (9 : Int32).toInt)) hT (s_X5_passNumber hN (hR.tr hT) (by first | exact hX | exact hT.1.2 hX) (hD)) (by decide) (fun v309 σ310 hOσ310 hT hqv309 => ?_)
                  have hqv309 : (v309 = 0 ∨ v309 = 1) ∧ RD σ310.1 ∧ (¬ v309 = 0 → 1 ≤ (σ310.1 57 9).toInt ∧ (0 : Int32).toInt ≤ (lastv σ310.1).toInt ∧ (lastv σ310.1).toInt ≤ (9 : Int32).toInt) := hqv309
                  have hD : RD σ310.1 := by first | exact hqv309.2 | exact hqv309.2.1
                  have hW : WI 2 σ310.1 := WI.tr hOσ310 (by decide) (by decide) (by decide) hW
                  refine ok_if (fun hc311 => ?_) (fun hc311 => ?_)
                  · rw [J_X5_readLine_211.eq_1]
                    refine ok_if (fun hc312 => ?_) (fun hc312 => ?_)
                    · exact ok_rZ (Or.inl rfl) ⟨hT, (show ((0 : Int32) = 0 ∨ (0 : Int32) = 1) ∧ RD σ310.1 ∧ WI 2 σ310.1 from by first | exact ⟨Or.inl rfl, hD, hW⟩ | exact ⟨Or.inr rfl, hD, hW⟩ | exact ⟨Or.inl hqv309.1, hD, hW⟩ | exact ⟨hqv309.1, hD, hW⟩)⟩
                    · refine ok_gC rfl ?_
                      refine ok_zbT (Q := fun V σ => (V = 0 ∨ V = 1) ∧ RD σ.1) hT (s_X5_pass hN (hR.tr hT) (by first | exact hX | exact hT.1.2 hX) (hD)) (by decide) (fun v313 σ314 hOσ314 hT hqv313 => ?_)
                      have hqv313 : (v313 = 0 ∨ v313 = 1) ∧ RD σ314.1 := hqv313
                      have hD : RD σ314.1 := by first | exact hqv313.2 | exact hqv313.2.1
                      have hW : WI 2 σ314.1 := WI.tr hOσ314 (by decide) (by decide) (by decide) hW
                      refine ok_if (fun hc315 => ?_) (fun hc315 => ?_)
                      · exact ok_rZ (Or.inl rfl) ⟨hT, (show ((0 : Int32) = 0 ∨ (0 : Int32) = 1) ∧ RD σ314.1 ∧ WI 2 σ314.1 from by first | exact ⟨Or.inl rfl, hD, hW⟩ | exact ⟨Or.inr rfl, hD, hW⟩ | exact ⟨Or.inl hqv313.1, hD, hW⟩ | exact ⟨hqv313.1, hD, hW⟩)⟩
                      · exact ok_rZ (Or.inr rfl) ⟨hT, (show ((1 : Int32) = 0 ∨ (1 : Int32) = 1) ∧ RD σ314.1 ∧ WI 2 σ314.1 from by first | exact ⟨Or.inl rfl, hD, hW⟩ | exact ⟨Or.inr rfl, hD, hW⟩ | exact ⟨Or.inl hqv313.1, hD, hW⟩ | exact ⟨hqv313.1, hD, hW⟩)⟩
                  · refine ok_gC rfl ?_
                    refine ok_zbT (Q := fun V σ => (V = 0 ∨ V = 1) ∧ RD σ.1) hT (s_X5_pass hN (hR.tr hT) (by first | exact hX | exact hT.1.2 hX) (hD)) (by decide) (fun v316 σ317 hOσ317 hT hqv316 => ?_)
                    have hqv316 : (v316 = 0 ∨ v316 = 1) ∧ RD σ317.1 := hqv316
                    have hD : RD σ317.1 := by first | exact hqv316.2 | exact hqv316.2.1
                    have hW : WI 2 σ317.1 := WI.tr hOσ317 (by decide) (by decide) (by decide) hW
                    refine ok_if (fun hc318 => ?_) (fun hc318 => ?_)
                    · rw [J_X5_readLine_211.eq_1]
                      refine ok_if (fun hc319 => ?_) (fun hc319 => ?_)
                      · exact ok_rZ (Or.inl rfl) ⟨hT, (show ((0 : Int32) = 0 ∨ (0 : Int32) = 1) ∧ RD σ317.1 ∧ WI 2 σ317.1 from by first | exact ⟨Or.inl rfl, hD, hW⟩ | exact ⟨Or.inr rfl, hD, hW⟩ | exact ⟨Or.inl hqv316.1, hD, hW⟩ | exact ⟨hqv316.1, hD, hW⟩)⟩
                      · refine ok_gC rfl ?_
                        refine ok_zbT (Q := fun V σ => (V = 0 ∨ V = 1) ∧ RD σ.1) hT (s_X5_pass hN (hR.tr hT) (by first | exact hX | exact hT.1.2 hX) (hD)) (by decide) (fun v320 σ321 hOσ321 hT hqv320 => ?_)
                        have hqv320 : (v320 = 0 ∨ v320 = 1) ∧ RD σ321.1 := hqv320
                        have hD : RD σ321.1 := by first | exact hqv320.2 | exact hqv320.2.1
                        have hW : WI 2 σ321.1 := WI.tr hOσ321 (by decide) (by decide) (by decide) hW
                        refine ok_if (fun hc322 => ?_) (fun hc322 => ?_)
                        · exact ok_rZ (Or.inl rfl) ⟨hT, (show ((0 : Int32) = 0 ∨ (0 : Int32) = 1) ∧ RD σ321.1 ∧ WI 2 σ321.1 from by first | exact ⟨Or.inl rfl, hD, hW⟩ | exact ⟨Or.inr rfl, hD, hW⟩ | exact ⟨Or.inl hqv320.1, hD, hW⟩ | exact ⟨hqv320.1, hD, hW⟩)⟩
                        · exact ok_rZ (Or.inr rfl) ⟨hT, (show ((1 : Int32) = 0 ∨ (1 : Int32) = 1) ∧ RD σ321.1 ∧ WI 2 σ321.1 from by first | exact ⟨Or.inl rfl, hD, hW⟩ | exact ⟨Or.inr rfl, hD, hW⟩ | exact ⟨Or.inl hqv320.1, hD, hW⟩ | exact ⟨hqv320.1, hD, hW⟩)⟩
                    · refine ok_gC rfl ?_
                      refine ok_zbT (Q := fun V σ => (V = 0 ∨ V = 1) ∧ RD σ.1) hT (s_X5_sum hN (hR.tr hT) (by first | exact hX | exact hT.1.2 hX) (hD) (by have q1 := hD.1; have q2 := hD.2.1; have q3 := hD0.1; have q4 := hD0.2.1; first | omega | decide | (simp only [Int32.le_iff_toInt_le, Int32.lt_iff_toInt_lt, ti_add, ti_sub, ti_mul, Int32.reduceToInt] at *; omega) | (exfalso; simp_all; done)) (by have q1 := hD.1; have q2 := hD.2.1; have q3 := hD0.1; have q4 := hD0.2.1; first | omega | decide | (simp only [Int32.le_iff_toInt_le, Int32.lt_iff_toInt_lt, ti_add, ti_sub, ti_mul, Int32.reduceToInt] at *; omega) | (exfalso; simp_all; done))) (by decide) (fun v323 σ324 hOσ324 hT hqv323 => ?_)
                      have hqv323 : (v323 = 0 ∨ v323 = 1) ∧ RD σ324.1 := hqv323
                      have hD : RD σ324.1 := by first | exact hqv323.2 | exact hqv323.2.1
                      have hW : WI 2 σ324.1 := WI.tr hOσ324 (by decide) (by decide) (by decide) hW
                      refine ok_if (fun hc325 => ?_) (fun hc325 => ?_)
                      · rw [J_X5_readLine_211.eq_1]
                        refine ok_if (fun hc326 => ?_) (fun hc326 => ?_)
                        · exact ok_rZ (Or.inl rfl) ⟨hT, (show ((0 : Int32) = 0 ∨ (0 : Int32) = 1) ∧ RD σ324.1 ∧ WI 2 σ324.1 from by first | exact ⟨Or.inl rfl, hD, hW⟩ | exact ⟨Or.inr rfl, hD, hW⟩ | exact ⟨Or.inl hqv323.1, hD, hW⟩ | exact ⟨hqv323.1, hD, hW⟩)⟩
                        · refine ok_gC rfl ?_
                          refine ok_zbT (Q := fun V σ => (V = 0 ∨ V = 1) ∧ RD σ.1) hT (s_X5_pass hN (hR.tr hT) (by first | exact hX | exact hT.1.2 hX) (hD)) (by decide) (fun v327 σ328 hOσ328 hT hqv327 => ?_)
                          have hqv327 : (v327 = 0 ∨ v327 = 1) ∧ RD σ328.1 := hqv327
                          have hD : RD σ328.1 := by first | exact hqv327.2 | exact hqv327.2.1
                          have hW : WI 2 σ328.1 := WI.tr hOσ328 (by decide) (by decide) (by decide) hW
                          refine ok_if (fun hc329 => ?_) (fun hc329 => ?_)
                          · exact ok_rZ (Or.inl rfl) ⟨hT, (show ((0 : Int32) = 0 ∨ (0 : Int32) = 1) ∧ RD σ328.1 ∧ WI 2 σ328.1 from by first | exact ⟨Or.inl rfl, hD, hW⟩ | exact ⟨Or.inr rfl, hD, hW⟩ | exact ⟨Or.inl hqv327.1, hD, hW⟩ | exact ⟨hqv327.1, hD, hW⟩)⟩
                          · exact ok_rZ (Or.inr rfl) ⟨hT, (show ((1 : Int32) = 0 ∨ (1 : Int32) = 1) ∧ RD σ328.1 ∧ WI 2 σ328.1 from by first | exact ⟨Or.inl rfl, hD, hW⟩ | exact ⟨Or.inr rfl, hD, hW⟩ | exact ⟨Or.inl hqv327.1, hD, hW⟩ | exact ⟨hqv327.1, hD, hW⟩)⟩
                      · refine ok_gC rfl ?_
                        refine ok_zbT (Q := fun V σ => V = 1 ∧ RD σ.1) hT (s_X5_emit hN (hR.tr hT) (by first | exact hX | exact hT.1.2 hX) (hD)) (by decide) (fun v330 σ331 hOσ331 hT hqv330 => ?_)
                        have hqv330 : v330 = 1 ∧ RD σ331.1 := hqv330
                        have hD : RD σ331.1 := by first | exact hqv330.2 | exact hqv330.2.1
                        have hW : WI 2 σ331.1 := WI.tr hOσ331 (by decide) (by decide) (by decide) hW
                        refine ok_if (fun hc332 => ?_) (fun hc332 => ?_)
                        · rw [J_X5_readLine_211.eq_1]
                          refine ok_if (fun hc333 => ?_) (fun hc333 => ?_)
                          · exact ok_rZ (Or.inl rfl) ⟨hT, (show ((0 : Int32) = 0 ∨ (0 : Int32) = 1) ∧ RD σ331.1 ∧ WI 2 σ331.1 from by first | exact ⟨Or.inl rfl, hD, hW⟩ | exact ⟨Or.inr rfl, hD, hW⟩ | exact ⟨Or.inl hqv330.1, hD, hW⟩ | exact ⟨hqv330.1, hD, hW⟩)⟩
                          · refine ok_gC rfl ?_
                            refine ok_zbT (Q := fun V σ => (V = 0 ∨ V = 1) ∧ RD σ.1) hT (s_X5_pass hN (hR.tr hT) (by first | exact hX | exact hT.1.2 hX) (hD)) (by decide) (fun v334 σ335 hOσ335 hT hqv334 => ?_)
                            have hqv334 : (v334 = 0 ∨ v334 = 1) ∧ RD σ335.1 := hqv334
                            have hD : RD σ335.1 := by first | exact hqv334.2 | exact hqv334.2.1
                            have hW : WI 2 σ335.1 := WI.tr hOσ335 (by decide) (by decide) (by decide) hW
                            refine ok_if (fun hc336 => ?_) (fun hc336 => ?_)
                            · exact ok_rZ (Or.inl rfl) ⟨hT, (show ((0 : Int32) = 0 ∨ (0 : Int32) = 1) ∧ RD σ335.1 ∧ WI 2 σ335.1 from by first | exact ⟨Or.inl rfl, hD, hW⟩ | exact ⟨Or.inr rfl, hD, hW⟩ | exact ⟨Or.inl hqv334.1, hD, hW⟩ | exact ⟨hqv334.1, hD, hW⟩)⟩
                            · exact ok_rZ (Or.inr rfl) ⟨hT, (show ((1 : Int32) = 0 ∨ (1 : Int32) = 1) ∧ RD σ335.1 ∧ WI 2 σ335.1 from by first | exact ⟨Or.inl rfl, hD, hW⟩ | exact ⟨Or.inr rfl, hD, hW⟩ | exact ⟨Or.inl hqv334.1, hD, hW⟩ | exact ⟨hqv334.1, hD, hW⟩)⟩
                        · rw [J_X5_readLine_211.eq_1]
                          refine ok_if (fun hc337 => ?_) (fun hc337 => ?_)
                          · exact ok_rZ (Or.inl rfl) ⟨hT, (show ((0 : Int32) = 0 ∨ (0 : Int32) = 1) ∧ RD σ331.1 ∧ WI 2 σ331.1 from by first | exact ⟨Or.inl rfl, hD, hW⟩ | exact ⟨Or.inr rfl, hD, hW⟩ | exact ⟨Or.inl hqv330.1, hD, hW⟩ | exact ⟨hqv330.1, hD, hW⟩)⟩
                          · refine ok_gC rfl ?_
                            refine ok_zbT (Q := fun V σ => (V = 0 ∨ V = 1) ∧ RD σ.1) hT (s_X5_pass hN (hR.tr hT) (by first | exact hX | exact hT.1.2 hX) (hD)) (by decide) (fun v338 σ339 hOσ339 hT hqv338 => ?_)
                            have hqv338 : (v338 = 0 ∨ v338 = 1) ∧ RD σ339.1 := hqv338
                            have hD : RD σ339.1 := by first | exact hqv338.2 | exact hqv338.2.1
                            have hW : WI 2 σ339.1 := WI.tr hOσ339 (by decide) (by decide) (by decide) hW
                            refine ok_if (fun hc340 => ?_) (fun hc340 => ?_)
                            · exact ok_rZ (Or.inl rfl) ⟨hT, (show ((0 : Int32) = 0 ∨ (0 : Int32) = 1) ∧ RD σ339.1 ∧ WI 2 σ339.1 from by first | exact ⟨Or.inl rfl, hD, hW⟩ | exact ⟨Or.inr rfl, hD, hW⟩ | exact ⟨Or.inl hqv338.1, hD, hW⟩ | exact ⟨hqv338.1, hD, hW⟩)⟩
                            · exact ok_rZ (Or.inr rfl) ⟨hT, (show ((1 : Int32) = 0 ∨ (1 : Int32) = 1) ∧ RD σ339.1 ∧ WI 2 σ339.1 from by first | exact ⟨Or.inl rfl, hD, hW⟩ | exact ⟨Or.inr rfl, hD, hW⟩ | exact ⟨Or.inl hqv338.1, hD, hW⟩ | exact ⟨hqv338.1, hD, hW⟩)⟩
                · refine ok_gC rfl ?_
                  refine ok_zbT (Q := fun V σ => V = 0 ∧ RD σ.1) hT (s_X5_fail hN (hR.tr hT) (by first | exact hX | exact hT.1.2 hX) (hD)) (by decide) (fun v341 σ342 hOσ342 hT hqv341 => ?_)
                  have hqv341 : v341 = 0 ∧ RD σ342.1 := hqv341
                  have hD : RD σ342.1 := by first | exact hqv341.2 | exact hqv341.2.1
                  have hW : WI 2 σ342.1 := WI.tr hOσ342 (by decide) (by decide) (by decide) hW
                  exact ok_rZ (by have q := hqv341.1; first | exact q | exact Or.inl q | exact Or.inr q) ⟨hT, (show (v341 = 0 ∨ v341 = 1) ∧ RD σ342.1 ∧ WI 2 σ342.1 from by first | exact ⟨Or.inl rfl, hD, hW⟩ | exact ⟨Or.inr rfl, hD, hW⟩ | exact ⟨Or.inl hqv341.1, hD, hW⟩ | exact ⟨hqv341.1, hD, hW⟩)⟩
              · rw [J_X5_readLine_92.eq_1]
                refine ok_gC rfl ?_
                refine ok_zbT (Q := fun V σ => (V = 0 ∨ V = 1) ∧ RD σ.1) hT (s_X5_pass hN (hR.tr hT) (by first | exact hX | exact hT.1.2 hX) (hD)) (by decide) (fun v343 σ344 hOσ344 hT hqv343 => ?_)
                have hqv343 : (v343 = 0 ∨ v343 = 1) ∧ RD σ344.1 := hqv343
                have hD : RD σ344.1 := by first | exact hqv343.2 | exact hqv343.2.1
                have hW : WI 2 σ344.1 := WI.tr hOσ344 (by decide) (by decide) (by decide) hW
                refine ok_gR (v := 62) hT rfl (hR 57 11 rfl) ?_
                refine ok_gI rfl ?_
                refine ok_aIn rfl (by have q1 := hD.1; have q2 := hD.2.1; have q3 := hD0.1; have q4 := hD0.2.1; first | omega | decide | (simp only [Int32.le_iff_toInt_le, Int32.lt_iff_toInt_lt, ti_add, ti_sub, ti_mul, Int32.reduceToInt] at *; omega) | (exfalso; simp_all; done)) (by have q1 := hD.1; have q2 := hD.2.1; have q3 := hD0.1; have q4 := hD0.2.1; first | omega | decide | (simp only [Int32.le_iff_toInt_le, Int32.lt_iff_toInt_lt, ti_add, ti_sub, ti_mul, Int32.reduceToInt] at *; omega) | (exfalso; simp_all; done)) (fun v347 ev347 => ?_)
                refine ok_if (fun hc348 => ?_) (fun hc348 => ?_)
                · refine ok_gC rfl ?_
                  refine ok_zbT (Q := fun V σ => (V = 0 ∨ V = 1) ∧ RD σ.1 ∧ WI 2 σ.1) hT (s_X5_readNames_2 hN (hR.tr hT) (by first | exact hX | exact hT.1.2 hX) (hD) (hW)) (by decide) (fun v349 σ350 hOσ350 hT hqv349 => ?_)
                  have hqv349 : (v349 = 0 ∨ v349 = 1) ∧ RD σ350.1 ∧ WI 2 σ350.1 := hqv349
                  have hD : RD σ350.1 := by first | exact hqv349.2 | exact hqv349.2.1
                  have hW : WI 2 σ350.1 := by first | exact hqv349.2.2 | exact hqv349
                  rw [J_X5_readLine_211.eq_1]
                  refine ok_if (fun hc351 => ?_) (fun hc351 => ?_)
                  · exact ok_rZ (Or.inl rfl) ⟨hT, (show ((0 : Int32) = 0 ∨ (0 : Int32) = 1) ∧ RD σ350.1 ∧ WI 2 σ350.1 from by first | exact ⟨Or.inl rfl, hD, hW⟩ | exact ⟨Or.inr rfl, hD, hW⟩ | exact ⟨Or.inl hqv349.1, hD, hW⟩ | exact ⟨hqv349.1, hD, hW⟩)⟩
                  · refine ok_gC rfl ?_
                    refine ok_zbT (Q := fun V σ => (V = 0 ∨ V = 1) ∧ RD σ.1) hT (s_X5_pass hN (hR.tr hT) (by first | exact hX | exact hT.1.2 hX) (hD)) (by decide) (fun v352 σ353 hOσ353 hT hqv352 => ?_)
                    have hqv352 : (v352 = 0 ∨ v352 = 1) ∧ RD σ353.1 := hqv352
                    have hD : RD σ353.1 := by first | exact hqv352.2 | exact hqv352.2.1
                    have hW : WI 2 σ353.1 := WI.tr hOσ353 (by decide) (by decide) (by decide) hW
                    refine ok_if (fun hc354 => ?_) (fun hc354 => ?_)
                    · exact ok_rZ (Or.inl rfl) ⟨hT, (show ((0 : Int32) = 0 ∨ (0 : Int32) = 1) ∧ RD σ353.1 ∧ WI 2 σ353.1 from by first | exact ⟨Or.inl rfl, hD, hW⟩ | exact ⟨Or.inr rfl, hD, hW⟩ | exact ⟨Or.inl hqv352.1, hD, hW⟩ | exact ⟨hqv352.1, hD, hW⟩)⟩
                    · exact ok_rZ (Or.inr rfl) ⟨hT, (show ((1 : Int32) = 0 ∨ (1 : Int32) = 1) ∧ RD σ353.1 ∧ WI 2 σ353.1 from by first | exact ⟨Or.inl rfl, hD, hW⟩ | exact ⟨Or.inr rfl, hD, hW⟩ | exact ⟨Or.inl hqv352.1, hD, hW⟩ | exact ⟨hqv352.1, hD, hW⟩)⟩
                refine ok_if (fun hc355 => ?_) (fun hc355 => ?_)
                · refine ok_gC rfl ?_
                  refine ok_zbT (Q := fun V σ => (V = 0 ∨ V = 1) ∧ RD σ.1 ∧ WI 2 σ.1) hT (s_X5_readWeight_2 hN (hR.tr hT) (by first | exact hX | exact hT.1.2 hX) (hD) (hW)) (by decide) (fun v356 σ357 hOσ357 hT hqv356 => ?_)
                  have hqv356 : (v356 = 0 ∨ v356 = 1) ∧ RD σ357.1 ∧ WI 2 σ357.1 := hqv356
                  have hD : RD σ357.1 := by first | exact hqv356.2 | exact hqv356.2.1
                  have hW : WI 2 σ357.1 := WI.tr hOσ357 (by decide) (by decide) (by decide) hW
                  rw [J_X5_readLine_211.eq_1]
                  refine ok_if (fun hc358 => ?_) (fun hc358 => ?_)
                  · exact ok_rZ (Or.inl rfl) ⟨hT, (show ((0 : Int32) = 0 ∨ (0 : Int32) = 1) ∧ RD σ357.1 ∧ WI 2 σ357.1 from by first | exact ⟨Or.inl rfl, hD, hW⟩ | exact ⟨Or.inr rfl, hD, hW⟩ | exact ⟨Or.inl hqv356.1, hD, hW⟩ | exact ⟨hqv356.1, hD, hW⟩)⟩
                  · refine ok_gC rfl ?_
                    refine ok_zbT (Q := fun V σ => (V = 0 ∨ V = 1) ∧ RD σ.1) hT (s_X5_pass hN (hR.tr hT) (by first | exact hX | exact hT.1.2 hX) (hD)) (by decide) (fun v359 σ360 hOσ360 hT hqv359 => ?_)
                    have hqv359 : (v359 = 0 ∨ v359 = 1) ∧ RD σ360.1 := hqv359
                    have hD : RD σ360.1 := by first | exact hqv359.2 | exact hqv359.2.1
                    have hW : WI 2 σ360.1 := WI.tr hOσ360 (by decide) (by decide) (by decide) hW
                    refine ok_if (fun hc361 => ?_) (fun hc361 => ?_)
                    · exact ok_rZ (Or.inl rfl) ⟨hT, (show ((0 : Int32) = 0 ∨ (0 : Int32) = 1) ∧ RD σ360.1 ∧ WI 2 σ360.1 from by first | exact ⟨Or.inl rfl, hD, hW⟩ | exact ⟨Or.inr rfl, hD, hW⟩ | exact ⟨Or.inl hqv359.1, hD, hW⟩ | exact ⟨hqv359.1, hD, hW⟩)⟩
                    · exact ok_rZ (Or.inr rfl) ⟨hT, (show ((1 : Int32) = 0 ∨ (1 : Int32) = 1) ∧ RD σ360.1 ∧ WI 2 σ360.1 from by first | exact ⟨Or.inl rfl, hD, hW⟩ | exact ⟨Or.inr rfl, hD, hW⟩ | exact ⟨Or.inl hqv359.1, hD, hW⟩ | exact ⟨hqv359.1, hD, hW⟩)⟩
                refine ok_if (fun hc362 => ?_) (fun hc362 => ?_)
                · refine ok_gC rfl ?_
                  refine ok_zbT (Q := fun V σ => (V = 0 ∨ V = 1) ∧ RD σ.1 ∧ WI 2 σ.1) hT (s_X5_readEdge_2 hN (hR.tr hT) (by first | exact hX | exact hT.1.2 hX) (hD) (hW)) (by decide) (fun v363 σ364 hOσ364 hT hqv363 => ?_)
                  have hqv363 : (v363 = 0 ∨ v363 = 1) ∧ RD σ364.1 ∧ WI 2 σ364.1 := hqv363
                  have hD : RD σ364.1 := by first | exact hqv363.2 | exact hqv363.2.1
                  have hW : WI 2 σ364.1 := by first | exact hqv363.2.2 | exact hqv363
                  rw [J_X5_readLine_211.eq_1]
                  refine ok_if (fun hc365 => ?_) (fun hc365 => ?_)
                  · exact ok_rZ (Or.inl rfl) ⟨hT, (show ((0 : Int32) = 0 ∨ (0 : Int32) = 1) ∧ RD σ364.1 ∧ WI 2 σ364.1 from by first | exact ⟨Or.inl rfl, hD, hW⟩ | exact ⟨Or.inr rfl, hD, hW⟩ | exact ⟨Or.inl hqv363.1, hD, hW⟩ | exact ⟨hqv363.1, hD, hW⟩)⟩
                  · refine ok_gC rfl ?_
                    refine ok_zbT (Q := fun V σ => (V = 0 ∨ V = 1) ∧ RD σ.1) hT (s_X5_pass hN (hR.tr hT) (by first | exact hX | exact hT.1.2 hX) (hD)) (by decide) (fun v366 σ367 hOσ367 hT hqv366 => ?_)
                    have hqv366 : (v366 = 0 ∨ v366 = 1) ∧ RD σ367.1 := hqv366
                    have hD : RD σ367.1 := by first | exact hqv366.2 | exact hqv366.2.1
                    have hW : WI 2 σ367.1 := WI.tr hOσ367 (by decide) (by decide) (by decide) hW
                    refine ok_if (fun hc368 => ?_) (fun hc368 => ?_)
                    · exact ok_rZ (Or.inl rfl) ⟨hT, (show ((0 : Int32) = 0 ∨ (0 : Int32) = 1) ∧ RD σ367.1 ∧ WI 2 σ367.1 from by first | exact ⟨Or.inl rfl, hD, hW⟩ | exact ⟨Or.inr rfl, hD, hW⟩ | exact ⟨Or.inl hqv366.1, hD, hW⟩ | exact ⟨hqv366.1, hD, hW⟩)⟩
                    · exact ok_rZ (Or.inr rfl) ⟨hT, (show ((1 : Int32) = 0 ∨ (1 : Int32) = 1) ∧ RD σ367.1 ∧ WI 2 σ367.1 from by first | exact ⟨Or.inl rfl, hD, hW⟩ | exact ⟨Or.inr rfl, hD, hW⟩ | exact ⟨Or.inl hqv366.1, hD, hW⟩ | exact ⟨hqv366.1, hD, hW⟩)⟩
                refine ok_gC rfl ?_
                refine ok_zbT (Q := fun V σ => (V = 0 ∨ V = 1) ∧ RD σ.1 ∧ (¬ V = 0 → 1 ≤ (σ.1 57 9).toInt ∧ (0 : Int32).toInt ≤ (lastv σ.1).toInt ∧ (lastv σ.1).toInt ≤ (9 : Int32).toInt)) hT (s_X5_passNumber hN (hR.tr hT) (by first | exact hX | exact hT.1.2 hX) (hD)) (by decide) (fun v369 σ370 hOσ370 hT hqv369 => ?_)
                have hqv369 : (v369 = 0 ∨ v369 = 1) ∧ RD σ370.1 ∧ (¬ v369 = 0 → 1 ≤ (σ370.1 57 9).toInt ∧ (0 : Int32).toInt ≤ (lastv σ370.1).toInt ∧ (lastv σ370.1).toInt ≤ (9 : Int32).toInt) := hqv369
                have hD : RD σ370.1 := by first | exact hqv369.2 | exact hqv369.2.1
                have hW : WI 2 σ370.1 := WI.tr hOσ370 (by decide) (by decide) (by decide) hW
                refine ok_if (fun hc371 => ?_) (fun hc371 => ?_)
                · rw [J_X5_readLine_211.eq_1]
                  refine ok_if (fun hc372 => ?_) (fun hc372 => ?_)
                  · exact ok_rZ (Or.inl rfl) ⟨hT, (show ((0 : Int32) = 0 ∨ (0 : Int32) = 1) ∧ RD σ370.1 ∧ WI 2 σ370.1 from by first | exact ⟨Or.inl rfl, hD, hW⟩ | exact ⟨Or.inr rfl, hD, hW⟩ | exact ⟨Or.inl hqv369.1, hD, hW⟩ | exact ⟨hqv369.1, hD, hW⟩)⟩
                  · refine ok_gC rfl ?_
                    refine ok_zbT (Q := fun V σ => (V = 0 ∨ V = 1) ∧ RD σ.1) hT (s_X5_pass hN (hR.tr hT) (by first | exact hX | exact hT.1.2 hX) (hD)) (by decide) (fun v373 σ374 hOσ374 hT hqv373 => ?_)
                    have hqv373 : (v373 = 0 ∨ v373 = 1) ∧ RD σ374.1 := hqv373
                    have hD : RD σ374.1 := by first | exact hqv373.2 | exact hqv373.2.1
                    have hW : WI 2 σ374.1 := WI.tr hOσ374 (by decide) (by decide) (by decide) hW
                    refine ok_if (fun hc375 => ?_) (fun hc375 => ?_)
                    · exact ok_rZ (Or.inl rfl) ⟨hT, (show ((0 : Int32) = 0 ∨ (0 : Int32) = 1) ∧ RD σ374.1 ∧ WI 2 σ374.1 from by first | exact ⟨Or.inl rfl, hD, hW⟩ | exact ⟨Or.inr rfl, hD, hW⟩ | exact ⟨Or.inl hqv373.1, hD, hW⟩ | exact ⟨hqv373.1, hD, hW⟩)⟩
                    · exact ok_rZ (Or.inr rfl) ⟨hT, (show ((1 : Int32) = 0 ∨ (1 : Int32) = 1) ∧ RD σ374.1 ∧ WI 2 σ374.1 from by first | exact ⟨Or.inl rfl, hD, hW⟩ | exact ⟨Or.inr rfl, hD, hW⟩ | exact ⟨Or.inl hqv373.1, hD, hW⟩ | exact ⟨hqv373.1, hD, hW⟩)⟩
                · refine ok_gC rfl ?_
                  refine ok_zbT (Q := fun V σ => (V = 0 ∨ V = 1) ∧ RD σ.1) hT (s_X5_pass hN (hR.tr hT) (by first | exact hX | exact hT.1.2 hX) (hD)) (by decide) (fun v376 σ377 hOσ377 hT hqv376 => ?_)
                  have hqv376 : (v376 = 0 ∨ v376 = 1) ∧ RD σ377.1 := hqv376
                  have hD : RD σ377.1 := by first | exact hqv376.2 | exact hqv376.2.1
                  have hW : WI 2 σ377.1 := WI.tr hOσ377 (by decide) (by decide) (by decide) hW
                  refine ok_if (fun hc378 => ?_) (fun hc378 => ?_)
                  · rw [J_X5_readLine_211.eq_1]
                    refine ok_if (fun hc379 => ?_) (fun hc379 => ?_)
                    · exact ok_rZ (Or.inl rfl) ⟨hT, (show ((0 : Int32) = 0 ∨ (0 : Int32) = 1) ∧ RD σ377.1 ∧ WI 2 σ377.1 from by first | exact ⟨Or.inl rfl, hD, hW⟩ | exact ⟨Or.inr rfl, hD, hW⟩ | exact ⟨Or.inl hqv376.1, hD, hW⟩ | exact ⟨hqv376.1, hD, hW⟩)⟩
                    · refine ok_gC rfl ?_
                      refine ok_zbT (Q := fun V σ => (V = 0 ∨ V = 1) ∧ RD σ.1) hT (s_X5_pass hN (hR.tr hT) (by first | exact hX | exact hT.1.2 hX) (hD)) (by decide) (fun v380 σ381 hOσ381 hT hqv380 => ?_)
                      have hqv380 : (v380 = 0 ∨ v380 = 1) ∧ RD σ381.1 := hqv380
                      have hD : RD σ381.1 := by first | exact hqv380.2 | exact hqv380.2.1
                      have hW : WI 2 σ381.1 := WI.tr hOσ381 (by decide) (by decide) (by decide) hW
                      refine ok_if (fun hc382 => ?_) (fun hc382 => ?_)
                      · exact ok_rZ (Or.inl rfl) ⟨hT, (show ((0 : Int32) = 0 ∨ (0 : Int32) = 1) ∧ RD σ381.1 ∧ WI 2 σ381.1 from by first | exact ⟨Or.inl rfl, hD, hW⟩ | exact ⟨Or.inr rfl, hD, hW⟩ | exact ⟨Or.inl hqv380.1, hD, hW⟩ | exact ⟨hqv380.1, hD, hW⟩)⟩
                      · exact ok_rZ (Or.inr rfl) ⟨hT, (show ((1 : Int32) = 0 ∨ (1 : Int32) = 1) ∧ RD σ381.1 ∧ WI 2 σ381.1 from by first | exact ⟨Or.inl rfl, hD, hW⟩ | exact ⟨Or.inr rfl, hD, hW⟩ | exact ⟨Or.inl hqv380.1, hD, hW⟩ | exact ⟨hqv380.1, hD, hW⟩)⟩
                  · refine ok_gC rfl ?_
                    refine ok_zbT (Q := fun V σ => (V = 0 ∨ V = 1) ∧ RD σ.1) hT (s_X5_sum hN (hR.tr hT) (by first | exact hX | exact hT.1.2 hX) (hD) (by have q1 := hD.1; have q2 := hD.2.1; have q3 := hD0.1; have q4 := hD0.2.1; first | omega | decide | (simp only [Int32.le_iff_toInt_le, Int32.lt_iff_toInt_lt, ti_add, ti_sub, ti_mul, Int32.reduceToInt] at *; omega) | (exfalso; simp_all; done)) (by have q1 := hD.1; have q2 := hD.2.1; have q3 := hD0.1; have q4 := hD0.2.1; first | omega | decide | (simp only [Int32.le_iff_toInt_le, Int32.lt_iff_toInt_lt, ti_add, ti_sub, ti_mul, Int32.reduceToInt] at *; omega) | (exfalso; simp_all; done))) (by decide) (fun v383 σ384 hOσ384 hT hqv383 => ?_)
                    have hqv383 : (v383 = 0 ∨ v383 = 1) ∧ RD σ384.1 := hqv383
                    have hD : RD σ384.1 := by first | exact hqv383.2 | exact hqv383.2.1
                    have hW : WI 2 σ384.1 := WI.tr hOσ384 (by decide) (by decide) (by decide) hW
                    refine ok_if (fun hc385 => ?_) (fun hc385 => ?_)
                    · rw [J_X5_readLine_211.eq_1]
                      refine ok_if (fun hc386 => ?_) (fun hc386 => ?_)
                      · exact ok_rZ (Or.inl rfl) ⟨hT, (show ((0 : Int32) = 0 ∨ (0 : Int32) = 1) ∧ RD σ384.1 ∧ WI 2 σ384.1 from by first | exact ⟨Or.inl rfl, hD, hW⟩ | exact ⟨Or.inr rfl, hD, hW⟩ | exact ⟨Or.inl hqv383.1, hD, hW⟩ | exact ⟨hqv383.1, hD, hW⟩)⟩
                      · refine ok_gC rfl ?_
                        refine ok_zbT (Q := fun V σ => (V = 0 ∨ V = 1) ∧ RD σ.1) hT (s_X5_pass hN (hR.tr hT) (by first | exact hX | exact hT.1.2 hX) (hD)) (by decide) (fun v387 σ388 hOσ388 hT hqv387 => ?_)
                        have hqv387 : (v387 = 0 ∨ v387 = 1) ∧ RD σ388.1 := hqv387
                        have hD : RD σ388.1 := by first | exact hqv387.2 | exact hqv387.2.1
                        have hW : WI 2 σ388.1 := WI.tr hOσ388 (by decide) (by decide) (by decide) hW
                        refine ok_if (fun hc389 => ?_) (fun hc389 => ?_)
                        · exact ok_rZ (Or.inl rfl) ⟨hT, (show ((0 : Int32) = 0 ∨ (0 : Int32) = 1) ∧ RD σ388.1 ∧ WI 2 σ388.1 from by first | exact ⟨Or.inl rfl, hD, hW⟩ | exact ⟨Or.inr rfl, hD, hW⟩ | exact ⟨Or.inl hqv387.1, hD, hW⟩ | exact ⟨hqv387.1, hD, hW⟩)⟩
                        · exact ok_rZ (Or.inr rfl) ⟨hT, (show ((1 : Int32) = 0 ∨ (1 : Int32) = 1) ∧ RD σ388.1 ∧ WI 2 σ388.1 from by first | exact ⟨Or.inl rfl, hD, hW⟩ | exact ⟨Or.inr rfl, hD, hW⟩ | exact ⟨Or.inl hqv387.1, hD, hW⟩ | exact ⟨hqv387.1, hD, hW⟩)⟩
                    · refine ok_gC rfl ?_
                      refine ok_zbT (Q := fun V σ => V = 1 ∧ RD σ.1) hT (s_X5_emit hN (hR.tr hT) (by first | exact hX | exact hT.1.2 hX) (hD)) (by decide) (fun v390 σ391 hOσ391 hT hqv390 => ?_)
                      have hqv390 : v390 = 1 ∧ RD σ391.1 := hqv390
                      have hD : RD σ391.1 := by first | exact hqv390.2 | exact hqv390.2.1
                      have hW : WI 2 σ391.1 := WI.tr hOσ391 (by decide) (by decide) (by decide) hW
                      refine ok_if (fun hc392 => ?_) (fun hc392 => ?_)
                      · rw [J_X5_readLine_211.eq_1]
                        refine ok_if (fun hc393 => ?_) (fun hc393 => ?_)
                        · exact ok_rZ (Or.inl rfl) ⟨hT, (show ((0 : Int32) = 0 ∨ (0 : Int32) = 1) ∧ RD σ391.1 ∧ WI 2 σ391.1 from by first | exact ⟨Or.inl rfl, hD, hW⟩ | exact ⟨Or.inr rfl, hD, hW⟩ | exact ⟨Or.inl hqv390.1, hD, hW⟩ | exact ⟨hqv390.1, hD, hW⟩)⟩
                        · refine ok_gC rfl ?_
                          refine ok_zbT (Q := fun V σ => (V = 0 ∨ V = 1) ∧ RD σ.1) hT (s_X5_pass hN (hR.tr hT) (by first | exact hX | exact hT.1.2 hX) (hD)) (by decide) (fun v394 σ395 hOσ395 hT hqv394 => ?_)
                          have hqv394 : (v394 = 0 ∨ v394 = 1) ∧ RD σ395.1 := hqv394
                          have hD : RD σ395.1 := by first | exact hqv394.2 | exact hqv394.2.1
                          have hW : WI 2 σ395.1 := WI.tr hOσ395 (by decide) (by decide) (by decide) hW
                          refine ok_if (fun hc396 => ?_) (fun hc396 => ?_)
                          · exact ok_rZ (Or.inl rfl) ⟨hT, (show ((0 : Int32) = 0 ∨ (0 : Int32) = 1) ∧ RD σ395.1 ∧ WI 2 σ395.1 from by first | exact ⟨Or.inl rfl, hD, hW⟩ | exact ⟨Or.inr rfl, hD, hW⟩ | exact ⟨Or.inl hqv394.1, hD, hW⟩ | exact ⟨hqv394.1, hD, hW⟩)⟩
                          · exact ok_rZ (Or.inr rfl) ⟨hT, (show ((1 : Int32) = 0 ∨ (1 : Int32) = 1) ∧ RD σ395.1 ∧ WI 2 σ395.1 from by first | exact ⟨Or.inl rfl, hD, hW⟩ | exact ⟨Or.inr rfl, hD, hW⟩ | exact ⟨Or.inl hqv394.1, hD, hW⟩ | exact ⟨hqv394.1, hD, hW⟩)⟩
                      · rw [J_X5_readLine_211.eq_1]
                        refine ok_if (fun hc397 => ?_) (fun hc397 => ?_)
                        · exact ok_rZ (Or.inl rfl) ⟨hT, (show ((0 : Int32) = 0 ∨ (0 : Int32) = 1) ∧ RD σ391.1 ∧ WI 2 σ391.1 from by first | exact ⟨Or.inl rfl, hD, hW⟩ | exact ⟨Or.inr rfl, hD, hW⟩ | exact ⟨Or.inl hqv390.1, hD, hW⟩ | exact ⟨hqv390.1, hD, hW⟩)⟩
                        · refine ok_gC rfl ?_
                          refine ok_zbT (Q := fun V σ => (V = 0 ∨ V = 1) ∧ RD σ.1) hT (s_X5_pass hN (hR.tr hT) (by first | exact hX | exact hT.1.2 hX) (hD)) (by decide) (fun v398 σ399 hOσ399 hT hqv398 => ?_)
                          have hqv398 : (v398 = 0 ∨ v398 = 1) ∧ RD σ399.1 := hqv398
                          have hD : RD σ399.1 := by first | exact hqv398.2 | exact hqv398.2.1
                          have hW : WI 2 σ399.1 := WI.tr hOσ399 (by decide) (by decide) (by decide) hW
                          refine ok_if (fun hc400 => ?_) (fun hc400 => ?_)
                          · exact ok_rZ (Or.inl rfl) ⟨hT, (show ((0 : Int32) = 0 ∨ (0 : Int32) = 1) ∧ RD σ399.1 ∧ WI 2 σ399.1 from by first | exact ⟨Or.inl rfl, hD, hW⟩ | exact ⟨Or.inr rfl, hD, hW⟩ | exact ⟨Or.inl hqv398.1, hD, hW⟩ | exact ⟨hqv398.1, hD, hW⟩)⟩
                          · exact ok_rZ (Or.inr rfl) ⟨hT, (show ((1 : Int32) = 0 ∨ (1 : Int32) = 1) ∧ RD σ399.1 ∧ WI 2 σ399.1 from by first | exact ⟨Or.inl rfl, hD, hW⟩ | exact ⟨Or.inr rfl, hD, hW⟩ | exact ⟨Or.inl hqv398.1, hD, hW⟩ | exact ⟨hqv398.1, hD, hW⟩)⟩
            · refine ok_gC rfl ?_
              refine ok_zbT (Q := fun V σ => V = 0 ∧ RD σ.1) hT (s_X5_fail hN (hR.tr hT) (by first | exact hX | exact hT.1.2 hX) (hD)) (by decide) (fun v401 σ402 hOσ402 hT hqv401 => ?_)
              have hqv401 : v401 = 0 ∧ RD σ402.1 := hqv401
              have hD : RD σ402.1 := by first | exact hqv401.2 | exact hqv401.2.1
              have hW : WI 2 σ402.1 := WI.tr hOσ402 (by decide) (by decide) (by decide) hW
              exact ok_rZ (by have q := hqv401.1; first | exact q | exact Or.inl q | exact Or.inr q) ⟨hT, (show (v401 = 0 ∨ v401 = 1) ∧ RD σ402.1 ∧ WI 2 σ402.1 from by first | exact ⟨Or.inl rfl, hD, hW⟩ | exact ⟨Or.inr rfl, hD, hW⟩ | exact ⟨Or.inl hqv401.1, hD, hW⟩ | exact ⟨hqv401.1, hD, hW⟩)⟩
        · refine ok_gC rfl ?_
          refine ok_zbT (Q := fun V σ => V = 0 ∧ RD σ.1) hT (s_X5_fail hN (hR.tr hT) (by first | exact hX | exact hT.1.2 hX) (hD)) (by decide) (fun v403 σ404 hOσ404 hT hqv403 => ?_)
          have hqv403 : v403 = 0 ∧ RD σ404.1 := hqv403
          have hD : RD σ404.1 := by first | exact hqv403.2 | exact hqv403.2.1
          have hW : WI 2 σ404.1 := WI.tr hOσ404 (by decide) (by decide) (by decide) hW
          exact ok_rZ (by have q := hqv403.1; first | exact q | exact Or.inl q | exact Or.inr q) ⟨hT, (show (v403 = 0 ∨ v403 = 1) ∧ RD σ404.1 ∧ WI 2 σ404.1 from by first | exact ⟨Or.inl rfl, hD, hW⟩ | exact ⟨Or.inr rfl, hD, hW⟩ | exact ⟨Or.inl hqv403.1, hD, hW⟩ | exact ⟨hqv403.1, hD, hW⟩)⟩
      · rw [J_X5_readLine_51.eq_1]
        refine ok_if (fun hc405 => ?_) (fun hc405 => ?_)
        · refine ok_if (fun hc406 => ?_) (fun hc406 => ?_)
          · refine ok_gC rfl ?_
            refine ok_zbT (Q := fun V σ => V = 0 ∧ RD σ.1) hT (s_X5_fail hN (hR.tr hT) (by first | exact hX | exact hT.1.2 hX) (hD)) (by decide) (fun v407 σ408 hOσ408 hT hqv407 => ?_)
            have hqv407 : v407 = 0 ∧ RD σ408.1 := hqv407
            have hD : RD σ408.1 := by first | exact hqv407.2 | exact hqv407.2.1
            have hW : WI 2 σ408.1 := WI.tr hOσ408 (by decide) (by decide) (by decide) hW
            exact ok_rZ (by have q := hqv407.1; first | exact q | exact Or.inl q | exact Or.inr q) ⟨hT, (show (v407 = 0 ∨ v407 = 1) ∧ RD σ408.1 ∧ WI 2 σ408.1 from by first | exact ⟨Or.inl rfl, hD, hW⟩ | exact ⟨Or.inr rfl, hD, hW⟩ | exact ⟨Or.inl hqv407.1, hD, hW⟩ | exact ⟨hqv407.1, hD, hW⟩)⟩
          · refine ok_if (fun hc409 => ?_) (fun hc409 => ?_)
            · refine ok_if (fun hc410 => ?_) (fun hc410 => ?_)
              · refine ok_gI rfl ?_
                refine ok_gI rfl ?_
                refine ok_if (fun hc413 => ?_) (fun hc413 => ?_)
                · rw [J_X5_readLine_92.eq_1]
                  refine ok_gC rfl ?_
                  refine ok_zbT (Q := fun V σ => (V = 0 ∨ V = 1) ∧ RD σ.1) hT (s_X5_pass hN (hR.tr hT) (by first | exact hX | exact hT.1.2 hX) (hD)) (by decide) (fun v414 σ415 hOσ415 hT hqv414 => ?_)
                  have hqv414 : (v414 = 0 ∨ v414 = 1) ∧ RD σ415.1 := hqv414
                  have hD : RD σ415.1 := by first | exact hqv414.2 | exact hqv414.2.1
                  have hW : WI 2 σ415.1 := WI.tr hOσ415 (by decide) (by decide) (by decide) hW
                  refine ok_gR (v := 62) hT rfl (hR 57 11 rfl) ?_
                  refine ok_gI rfl ?_
                  refine ok_aIn rfl (by have q1 := hD.1; have q2 := hD.2.1; have q3 := hD0.1; have q4 := hD0.2.1; first | omega | decide | (simp only [Int32.le_iff_toInt_le, Int32.lt_iff_toInt_lt, ti_add, ti_sub, ti_mul, Int32.reduceToInt] at *; omega) | (exfalso; simp_all; done)) (by have q1 := hD.1; have q2 := hD.2.1; have q3 := hD0.1; have q4 := hD0.2.1; first | omega | decide | (simp only [Int32.le_iff_toInt_le, Int32.lt_iff_toInt_lt, ti_add, ti_sub, ti_mul, Int32.reduceToInt] at *; omega) | (exfalso; simp_all; done)) (fun v418 ev418 => ?_)
                  refine ok_if (fun hc419 => ?_) (fun hc419 => ?_)
                  · refine ok_gC rfl ?_
                    refine ok_zbT (Q := fun V σ => (V = 0 ∨ V = 1) ∧ RD σ.1 ∧ WI 2 σ.1) hT (s_X5_readNames_2 hN (hR.tr hT) (by first | exact hX | exact hT.1.2 hX) (hD) (hW)) (by decide) (fun v420 σ421 hOσ421 hT hqv420 => ?_)
                    have hqv420 : (v420 = 0 ∨ v420 = 1) ∧ RD σ421.1 ∧ WI 2 σ421.1 := hqv420
                    have hD : RD σ421.1 := by first | exact hqv420.2 | exact hqv420.2.1
                    have hW : WI 2 σ421.1 := by first | exact hqv420.2.2 | exact hqv420
                    rw [J_X5_readLine_211.eq_1]
                    refine ok_if (fun hc422 => ?_) (fun hc422 => ?_)
                    · exact ok_rZ (Or.inl rfl) ⟨hT, (show ((0 : Int32) = 0 ∨ (0 : Int32) = 1) ∧ RD σ421.1 ∧ WI 2 σ421.1 from by first | exact ⟨Or.inl rfl, hD, hW⟩ | exact ⟨Or.inr rfl, hD, hW⟩ | exact ⟨Or.inl hqv420.1, hD, hW⟩ | exact ⟨hqv420.1, hD, hW⟩)⟩
                    · refine ok_gC rfl ?_
                      refine ok_zbT (Q := fun V σ => (V = 0 ∨ V = 1) ∧ RD σ.1) hT (s_X5_pass hN (hR.tr hT) (by first | exact hX | exact hT.1.2 hX) (hD)) (by decide) (fun v423 σ424 hOσ424 hT hqv423 => ?_)
                      have hqv423 : (v423 = 0 ∨ v423 = 1) ∧ RD σ424.1 := hqv423
                      have hD : RD σ424.1 := by first | exact hqv423.2 | exact hqv423.2.1
                      have hW : WI 2 σ424.1 := WI.tr hOσ424 (by decide) (by decide) (by decide) hW
                      refine ok_if (fun hc425 => ?_) (fun hc425 => ?_)
                      · exact ok_rZ (Or.inl rfl) ⟨hT, (show ((0 : Int32) = 0 ∨ (0 : Int32) = 1) ∧ RD σ424.1 ∧ WI 2 σ424.1 from by first | exact ⟨Or.inl rfl, hD, hW⟩ | exact ⟨Or.inr rfl, hD, hW⟩ | exact ⟨Or.inl hqv423.1, hD, hW⟩ | exact ⟨hqv423.1, hD, hW⟩)⟩
                      · exact ok_rZ (Or.inr rfl) ⟨hT, (show ((1 : Int32) = 0 ∨ (1 : Int32) = 1) ∧ RD σ424.1 ∧ WI 2 σ424.1 from by first | exact ⟨Or.inl rfl, hD, hW⟩ | exact ⟨Or.inr rfl, hD, hW⟩ | exact ⟨Or.inl hqv423.1, hD, hW⟩ | exact ⟨hqv423.1, hD, hW⟩)⟩
                  refine ok_if (fun hc426 => ?_) (fun hc426 => ?_)
                  · refine ok_gC rfl ?_
                    refine ok_zbT (Q := fun V σ => (V = 0 ∨ V = 1) ∧ RD σ.1 ∧ WI 2 σ.1) hT (s_X5_readWeight_2 hN (hR.tr hT) (by first | exact hX | exact hT.1.2 hX) (hD) (hW)) (by decide) (fun v427 σ428 hOσ428 hT hqv427 => ?_)
                    have hqv427 : (v427 = 0 ∨ v427 = 1) ∧ RD σ428.1 ∧ WI 2 σ428.1 := hqv427
                    have hD : RD σ428.1 := by first | exact hqv427.2 | exact hqv427.2.1
                    have hW : WI 2 σ428.1 := WI.tr hOσ428 (by decide) (by decide) (by decide) hW
                    rw [J_X5_readLine_211.eq_1]
                    refine ok_if (fun hc429 => ?_) (fun hc429 => ?_)
                    · exact ok_rZ (Or.inl rfl) ⟨hT, (show ((0 : Int32) = 0 ∨ (0 : Int32) = 1) ∧ RD σ428.1 ∧ WI 2 σ428.1 from by first | exact ⟨Or.inl rfl, hD, hW⟩ | exact ⟨Or.inr rfl, hD, hW⟩ | exact ⟨Or.inl hqv427.1, hD, hW⟩ | exact ⟨hqv427.1, hD, hW⟩)⟩
                    · refine ok_gC rfl ?_
                      refine ok_zbT (Q := fun V σ => (V = 0 ∨ V = 1) ∧ RD σ.1) hT (s_X5_pass hN (hR.tr hT) (by first | exact hX | exact hT.1.2 hX) (hD)) (by decide) (fun v430 σ431 hOσ431 hT hqv430 => ?_)
                      have hqv430 : (v430 = 0 ∨ v430 = 1) ∧ RD σ431.1 := hqv430
                      have hD : RD σ431.1 := by first | exact hqv430.2 | exact hqv430.2.1
                      have hW : WI 2 σ431.1 := WI.tr hOσ431 (by decide) (by decide) (by decide) hW
                      refine ok_if (fun hc432 => ?_) (fun hc432 => ?_)
                      · exact ok_rZ (Or.inl rfl) ⟨hT, (show ((0 : Int32) = 0 ∨ (0 : Int32) = 1) ∧ RD σ431.1 ∧ WI 2 σ431.1 from by first | exact ⟨Or.inl rfl, hD, hW⟩ | exact ⟨Or.inr rfl, hD, hW⟩ | exact ⟨Or.inl hqv430.1, hD, hW⟩ | exact ⟨hqv430.1, hD, hW⟩)⟩
                      · exact ok_rZ (Or.inr rfl) ⟨hT, (show ((1 : Int32) = 0 ∨ (1 : Int32) = 1) ∧ RD σ431.1 ∧ WI 2 σ431.1 from by first | exact ⟨Or.inl rfl, hD, hW⟩ | exact ⟨Or.inr rfl, hD, hW⟩ | exact ⟨Or.inl hqv430.1, hD, hW⟩ | exact ⟨hqv430.1, hD, hW⟩)⟩
                  refine ok_if (fun hc433 => ?_) (fun hc433 => ?_)
                  · refine ok_gC rfl ?_
                    refine ok_zbT (Q := fun V σ => (V = 0 ∨ V = 1) ∧ RD σ.1 ∧ WI 2 σ.1) hT (s_X5_readEdge_2 hN (hR.tr hT) (by first | exact hX | exact hT.1.2 hX) (hD) (hW)) (by decide) (fun v434 σ435 hOσ435 hT hqv434 => ?_)
                    have hqv434 : (v434 = 0 ∨ v434 = 1) ∧ RD σ435.1 ∧ WI 2 σ435.1 := hqv434
                    have hD : RD σ435.1 := by first | exact hqv434.2 | exact hqv434.2.1
                    have hW : WI 2 σ435.1 := by first | exact hqv434.2.2 | exact hqv434
                    rw [J_X5_readLine_211.eq_1]
                    refine ok_if (fun hc436 => ?_) (fun hc436 => ?_)
                    · exact ok_rZ (Or.inl rfl) ⟨hT, (show ((0 : Int32) = 0 ∨ (0 : Int32) = 1) ∧ RD σ435.1 ∧ WI 2 σ435.1 from by first | exact ⟨Or.inl rfl, hD, hW⟩ | exact ⟨Or.inr rfl, hD, hW⟩ | exact ⟨Or.inl hqv434.1, hD, hW⟩ | exact ⟨hqv434.1, hD, hW⟩)⟩
                    · refine ok_gC rfl ?_
                      refine ok_zbT (Q := fun V σ => (V = 0 ∨ V = 1) ∧ RD σ.1) hT (s_X5_pass hN (hR.tr hT) (by first | exact hX | exact hT.1.2 hX) (hD)) (by decide) (fun v437 σ438 hOσ438 hT hqv437 => ?_)
                      have hqv437 : (v437 = 0 ∨ v437 = 1) ∧ RD σ438.1 := hqv437
                      have hD : RD σ438.1 := by first | exact hqv437.2 | exact hqv437.2.1
                      have hW : WI 2 σ438.1 := WI.tr hOσ438 (by decide) (by decide) (by decide) hW
                      refine ok_if (fun hc439 => ?_) (fun hc439 => ?_)
                      · exact ok_rZ (Or.inl rfl) ⟨hT, (show ((0 : Int32) = 0 ∨ (0 : Int32) = 1) ∧ RD σ438.1 ∧ WI 2 σ438.1 from by first | exact ⟨Or.inl rfl, hD, hW⟩ | exact ⟨Or.inr rfl, hD, hW⟩ | exact ⟨Or.inl hqv437.1, hD, hW⟩ | exact ⟨hqv437.1, hD, hW⟩)⟩
                      · exact ok_rZ (Or.inr rfl) ⟨hT, (show ((1 : Int32) = 0 ∨ (1 : Int32) = 1) ∧ RD σ438.1 ∧ WI 2 σ438.1 from by first | exact ⟨Or.inl rfl, hD, hW⟩ | exact ⟨Or.inr rfl, hD, hW⟩ | exact ⟨Or.inl hqv437.1, hD, hW⟩ | exact ⟨hqv437.1, hD, hW⟩)⟩
                  refine ok_gC rfl ?_
                  refine ok_zbT (Q := fun V σ => (V = 0 ∨ V = 1) ∧ RD σ.1 ∧ (¬ V = 0 → 1 ≤ (σ.1 57 9).toInt ∧ (0 : Int32).toInt ≤ (lastv σ.1).toInt ∧ (lastv σ.1).toInt ≤ (9 : Int32).toInt)) hT (s_X5_passNumber hN (hR.tr hT) (by first | exact hX | exact hT.1.2 hX) (hD)) (by decide) (fun v440 σ441 hOσ441 hT hqv440 => ?_)
                  have hqv440 : (v440 = 0 ∨ v440 = 1) ∧ RD σ441.1 ∧ (¬ v440 = 0 → 1 ≤ (σ441.1 57 9).toInt ∧ (0 : Int32).toInt ≤ (lastv σ441.1).toInt ∧ (lastv σ441.1).toInt ≤ (9 : Int32).toInt) := hqv440
                  have hD : RD σ441.1 := by first | exact hqv440.2 | exact hqv440.2.1
                  have hW : WI 2 σ441.1 := WI.tr hOσ441 (by decide) (by decide) (by decide) hW
                  refine ok_if (fun hc442 => ?_) (fun hc442 => ?_)
                  · rw [J_X5_readLine_211.eq_1]
                    refine ok_if (fun hc443 => ?_) (fun hc443 => ?_)
                    · exact ok_rZ (Or.inl rfl) ⟨hT, (show ((0 : Int32) = 0 ∨ (0 : Int32) = 1) ∧ RD σ441.1 ∧ WI 2 σ441.1 from by first | exact ⟨Or.inl rfl, hD, hW⟩ | exact ⟨Or.inr rfl, hD, hW⟩ | exact ⟨Or.inl hqv440.1, hD, hW⟩ | exact ⟨hqv440.1, hD, hW⟩)⟩
                    · refine ok_gC rfl ?_
                      refine ok_zbT (Q := fun V σ => (V = 0 ∨ V = 1) ∧ RD σ.1) hT (s_X5_pass hN (hR.tr hT) (by first | exact hX | exact hT.1.2 hX) (hD)) (by decide) (fun v444 σ445 hOσ445 hT hqv444 => ?_)
                      have hqv444 : (v444 = 0 ∨ v444 = 1) ∧ RD σ445.1 := hqv444
                      have hD : RD σ445.1 := by first | exact hqv444.2 | exact hqv444.2.1
                      have hW : WI 2 σ445.1 := WI.tr hOσ445 (by decide) (by decide) (by decide) hW
                      refine ok_if (fun hc446 => ?_) (fun hc446 => ?_)
                      · exact ok_rZ (Or.inl rfl) ⟨hT, (show ((0 : Int32) = 0 ∨ (0 : Int32) = 1) ∧ RD σ445.1 ∧ WI 2 σ445.1 from by first | exact ⟨Or.inl rfl, hD, hW⟩ | exact ⟨Or.inr rfl, hD, hW⟩ | exact ⟨Or.inl hqv444.1, hD, hW⟩ | exact ⟨hqv444.1, hD, hW⟩)⟩
                      · exact ok_rZ (Or.inr rfl) ⟨hT, (show ((1 : Int32) = 0 ∨ (1 : Int32) = 1) ∧ RD σ445.1 ∧ WI 2 σ445.1 from by first | exact ⟨Or.inl rfl, hD, hW⟩ | exact ⟨Or.inr rfl, hD, hW⟩ | exact ⟨Or.inl hqv444.1, hD, hW⟩ | exact ⟨hqv444.1, hD, hW⟩)⟩
                  · refine ok_gC rfl ?_
                    refine ok_zbT (Q := fun V σ => (V = 0 ∨ V = 1) ∧ RD σ.1) hT (s_X5_pass hN (hR.tr hT) (by first | exact hX | exact hT.1.2 hX) (hD)) (by decide) (fun v447 σ448 hOσ448 hT hqv447 => ?_)
                    have hqv447 : (v447 = 0 ∨ v447 = 1) ∧ RD σ448.1 := hqv447
                    have hD : RD σ448.1 := by first | exact hqv447.2 | exact hqv447.2.1
                    have hW : WI 2 σ448.1 := WI.tr hOσ448 (by decide) (by decide) (by decide) hW
                    refine ok_if (fun hc449 => ?_) (fun hc449 => ?_)
                    · rw [J_X5_readLine_211.eq_1]
                      refine ok_if (fun hc450 => ?_) (fun hc450 => ?_)
                      · exact ok_rZ (Or.inl rfl) ⟨hT, (show ((0 : Int32) = 0 ∨ (0 : Int32) = 1) ∧ RD σ448.1 ∧ WI 2 σ448.1 from by first | exact ⟨Or.inl rfl, hD, hW⟩ | exact ⟨Or.inr rfl, hD, hW⟩ | exact ⟨Or.inl hqv447.1, hD, hW⟩ | exact ⟨hqv447.1, hD, hW⟩)⟩
                      · refine ok_gC rfl ?_
                        refine ok_zbT (Q := fun V σ => (V = 0 ∨ V = 1) ∧ RD σ.1) hT (s_X5_pass hN (hR.tr hT) (by first | exact hX | exact hT.1.2 hX) (hD)) (by decide) (fun v451 σ452 hOσ452 hT hqv451 => ?_)
                        have hqv451 : (v451 = 0 ∨ v451 = 1) ∧ RD σ452.1 := hqv451
                        have hD : RD σ452.1 := by first | exact hqv451.2 | exact hqv451.2.1
                        have hW : WI 2 σ452.1 := WI.tr hOσ452 (by decide) (by decide) (by decide) hW
                        refine ok_if (fun hc453 => ?_) (fun hc453 => ?_)
                        · exact ok_rZ (Or.inl rfl) ⟨hT, (show ((0 : Int32) = 0 ∨ (0 : Int32) = 1) ∧ RD σ452.1 ∧ WI 2 σ452.1 from by first | exact ⟨Or.inl rfl, hD, hW⟩ | exact ⟨Or.inr rfl, hD, hW⟩ | exact ⟨Or.inl hqv451.1, hD, hW⟩ | exact ⟨hqv451.1, hD, hW⟩)⟩
                        · exact ok_rZ (Or.inr rfl) ⟨hT, (show ((1 : Int32) = 0 ∨ (1 : Int32) = 1) ∧ RD σ452.1 ∧ WI 2 σ452.1 from by first | exact ⟨Or.inl rfl, hD, hW⟩ | exact ⟨Or.inr rfl, hD, hW⟩ | exact ⟨Or.inl hqv451.1, hD, hW⟩ | exact ⟨hqv451.1, hD, hW⟩)⟩
                    · refine ok_gC rfl ?_
                      refine ok_zbT (Q := fun V σ => (V = 0 ∨ V = 1) ∧ RD σ.1) hT (s_X5_sum hN (hR.tr hT) (by first | exact hX | exact hT.1.2 hX) (hD) (by have q1 := hD.1; have q2 := hD.2.1; have q3 := hD0.1; have q4 := hD0.2.1; first | omega | decide | (simp only [Int32.le_iff_toInt_le, Int32.lt_iff_toInt_lt, ti_add, ti_sub, ti_mul, Int32.reduceToInt] at *; omega) | (exfalso; simp_all; done)) (by have q1 := hD.1; have q2 := hD.2.1; have q3 := hD0.1; have q4 := hD0.2.1; first | omega | decide | (simp only [Int32.le_iff_toInt_le, Int32.lt_iff_toInt_lt, ti_add, ti_sub, ti_mul, Int32.reduceToInt] at *; omega) | (exfalso; simp_all; done))) (by decide) (fun v454 σ455 hOσ455 hT hqv454 => ?_)
                      have hqv454 : (v454 = 0 ∨ v454 = 1) ∧ RD σ455.1 := hqv454
                      have hD : RD σ455.1 := by first | exact hqv454.2 | exact hqv454.2.1
                      have hW : WI 2 σ455.1 := WI.tr hOσ455 (by decide) (by decide) (by decide) hW
                      refine ok_if (fun hc456 => ?_) (fun hc456 => ?_)
                      · rw [J_X5_readLine_211.eq_1]
                        refine ok_if (fun hc457 => ?_) (fun hc457 => ?_)
                        · exact ok_rZ (Or.inl rfl) ⟨hT, (show ((0 : Int32) = 0 ∨ (0 : Int32) = 1) ∧ RD σ455.1 ∧ WI 2 σ455.1 from by first | exact ⟨Or.inl rfl, hD, hW⟩ | exact ⟨Or.inr rfl, hD, hW⟩ | exact ⟨Or.inl hqv454.1, hD, hW⟩ | exact ⟨hqv454.1, hD, hW⟩)⟩
                        · refine ok_gC rfl ?_
                          refine ok_zbT (Q := fun V σ => (V = 0 ∨ V = 1) ∧ RD σ.1) hT (s_X5_pass hN (hR.tr hT) (by first | exact hX | exact hT.1.2 hX) (hD)) (by decide) (fun v458 σ459 hOσ459 hT hqv458 => ?_)
                          have hqv458 : (v458 = 0 ∨ v458 = 1) ∧ RD σ459.1 := hqv458
                          have hD : RD σ459.1 := by first | exact hqv458.2 | exact hqv458.2.1
                          have hW : WI 2 σ459.1 := WI.tr hOσ459 (by decide) (by decide) (by decide) hW
                          refine ok_if (fun hc460 => ?_) (fun hc460 => ?_)
                          · exact ok_rZ (Or.inl rfl) ⟨hT, (show ((0 : Int32) = 0 ∨ (0 : Int32) = 1) ∧ RD σ459.1 ∧ WI 2 σ459.1 from by first | exact ⟨Or.inl rfl, hD, hW⟩ | exact ⟨Or.inr rfl, hD, hW⟩ | exact ⟨Or.inl hqv458.1, hD, hW⟩ | exact ⟨hqv458.1, hD, hW⟩)⟩
                          · exact ok_rZ (Or.inr rfl) ⟨hT, (show ((1 : Int32) = 0 ∨ (1 : Int32) = 1) ∧ RD σ459.1 ∧ WI 2 σ459.1 from by first | exact ⟨Or.inl rfl, hD, hW⟩ | exact ⟨Or.inr rfl, hD, hW⟩ | exact ⟨Or.inl hqv458.1, hD, hW⟩ | exact ⟨hqv458.1, hD, hW⟩)⟩
                      · refine ok_gC rfl ?_
                        refine ok_zbT (Q := fun V σ => V = 1 ∧ RD σ.1) hT (s_X5_emit hN (hR.tr hT) (by first | exact hX | exact hT.1.2 hX) (hD)) (by decide) (fun v461 σ462 hOσ462 hT hqv461 => ?_)
                        have hqv461 : v461 = 1 ∧ RD σ462.1 := hqv461
                        have hD : RD σ462.1 := by first | exact hqv461.2 | exact hqv461.2.1
                        have hW : WI 2 σ462.1 := WI.tr hOσ462 (by decide) (by decide) (by decide) hW
                        refine ok_if (fun hc463 => ?_) (fun hc463 => ?_)
                        · rw [J_X5_readLine_211.eq_1]
                          refine ok_if (fun hc464 => ?_) (fun hc464 => ?_)
                          · exact ok_rZ (Or.inl rfl) ⟨hT, (show ((0 : Int32) = 0 ∨ (0 : Int32) = 1) ∧ RD σ462.1 ∧ WI 2 σ462.1 from by first | exact ⟨Or.inl rfl, hD, hW⟩ | exact ⟨Or.inr rfl, hD, hW⟩ | exact ⟨Or.inl hqv461.1, hD, hW⟩ | exact ⟨hqv461.1, hD, hW⟩)⟩
                          · refine ok_gC rfl ?_
                            refine ok_zbT (Q := fun V σ => (V = 0 ∨ V = 1) ∧ RD σ.1) hT (s_X5_pass hN (hR.tr hT) (by first | exact hX | exact hT.1.2 hX) (hD)) (by decide) (fun v465 σ466 hOσ466 hT hqv465 => ?_)
                            have hqv465 : (v465 = 0 ∨ v465 = 1) ∧ RD σ466.1 := hqv465
                            have hD : RD σ466.1 := by first | exact hqv465.2 | exact hqv465.2.1
                            have hW : WI 2 σ466.1 := WI.tr hOσ466 (by decide) (by decide) (by decide) hW
                            refine ok_if (fun hc467 => ?_) (fun hc467 => ?_)
                            · exact ok_rZ (Or.inl rfl) ⟨hT, (show ((0 : Int32) = 0 ∨ (0 : Int32) = 1) ∧ RD σ466.1 ∧ WI 2 σ466.1 from by first | exact ⟨Or.inl rfl, hD, hW⟩ | exact ⟨Or.inr rfl, hD, hW⟩ | exact ⟨Or.inl hqv465.1, hD, hW⟩ | exact ⟨hqv465.1, hD, hW⟩)⟩
                            · exact ok_rZ (Or.inr rfl) ⟨hT, (show ((1 : Int32) = 0 ∨ (1 : Int32) = 1) ∧ RD σ466.1 ∧ WI 2 σ466.1 from by first | exact ⟨Or.inl rfl, hD, hW⟩ | exact ⟨Or.inr rfl, hD, hW⟩ | exact ⟨Or.inl hqv465.1, hD, hW⟩ | exact ⟨hqv465.1, hD, hW⟩)⟩
                        · rw [J_X5_readLine_211.eq_1]
                          refine ok_if (fun hc468 => ?_) (fun hc468 => ?_)
                          · exact ok_rZ (Or.inl rfl) ⟨hT, (show ((0 : Int32) = 0 ∨ (0 : Int32) = 1) ∧ RD σ462.1 ∧ WI 2 σ462.1 from by first | exact ⟨Or.inl rfl, hD, hW⟩ | exact ⟨Or.inr rfl, hD, hW⟩ | exact ⟨Or.inl hqv461.1, hD, hW⟩ | exact ⟨hqv461.1, hD, hW⟩)⟩
                          · refine ok_gC rfl ?_
                            refine ok_zbT (Q := fun V σ => (V = 0 ∨ V = 1) ∧ RD σ.1) hT (s_X5_pass hN (hR.tr hT) (by first | exact hX | exact hT.1.2 hX) (hD)) (by decide) (fun v469 σ470 hOσ470 hT hqv469 => ?_)
                            have hqv469 : (v469 = 0 ∨ v469 = 1) ∧ RD σ470.1 := hqv469
                            have hD : RD σ470.1 := by first | exact hqv469.2 | exact hqv469.2.1
                            have hW : WI 2 σ470.1 := WI.tr hOσ470 (by decide) (by decide) (by decide) hW
                            refine ok_if (fun hc471 => ?_) (fun hc471 => ?_)
                            · exact ok_rZ (Or.inl rfl) ⟨hT, (show ((0 : Int32) = 0 ∨ (0 : Int32) = 1) ∧ RD σ470.1 ∧ WI 2 σ470.1 from by first | exact ⟨Or.inl rfl, hD, hW⟩ | exact ⟨Or.inr rfl, hD, hW⟩ | exact ⟨Or.inl hqv469.1, hD, hW⟩ | exact ⟨hqv469.1, hD, hW⟩)⟩
                            · exact ok_rZ (Or.inr rfl) ⟨hT, (show ((1 : Int32) = 0 ∨ (1 : Int32) = 1) ∧ RD σ470.1 ∧ WI 2 σ470.1 from by first | exact ⟨Or.inl rfl, hD, hW⟩ | exact ⟨Or.inr rfl, hD, hW⟩ | exact ⟨Or.inl hqv469.1, hD, hW⟩ | exact ⟨hqv469.1, hD, hW⟩)⟩
                · refine ok_gC rfl ?_
                  refine ok_zbT (Q := fun V σ => V = 0 ∧ RD σ.1) hT (s_X5_fail hN (hR.tr hT) (by first | exact hX | exact hT.1.2 hX) (hD)) (by decide) (fun v472 σ473 hOσ473 hT hqv472 => ?_)
                  have hqv472 : v472 = 0 ∧ RD σ473.1 := hqv472
                  have hD : RD σ473.1 := by first | exact hqv472.2 | exact hqv472.2.1
                  have hW : WI 2 σ473.1 := WI.tr hOσ473 (by decide) (by decide) (by decide) hW
                  exact ok_rZ (by have q := hqv472.1; first | exact q | exact Or.inl q | exact Or.inr q) ⟨hT, (show (v472 = 0 ∨ v472 = 1) ∧ RD σ473.1 ∧ WI 2 σ473.1 from by first | exact ⟨Or.inl rfl, hD, hW⟩ | exact ⟨Or.inr rfl, hD, hW⟩ | exact ⟨Or.inl hqv472.1, hD, hW⟩ | exact ⟨hqv472.1, hD, hW⟩)⟩
              · rw [J_X5_readLine_92.eq_1]
                refine ok_gC rfl ?_
                refine ok_zbT (Q := fun V σ => (V = 0 ∨ V = 1) ∧ RD σ.1) hT (s_X5_pass hN (hR.tr hT) (by first | exact hX | exact hT.1.2 hX) (hD)) (by decide) (fun v474 σ475 hOσ475 hT hqv474 => ?_)
                have hqv474 : (v474 = 0 ∨ v474 = 1) ∧ RD σ475.1 := hqv474
                have hD : RD σ475.1 := by first | exact hqv474.2 | exact hqv474.2.1
                have hW : WI 2 σ475.1 := WI.tr hOσ475 (by decide) (by decide) (by decide) hW
                refine ok_gR (v := 62) hT rfl (hR 57 11 rfl) ?_
                refine ok_gI rfl ?_
                refine ok_aIn rfl (by have q1 := hD.1; have q2 := hD.2.1; have q3 := hD0.1; have q4 := hD0.2.1; first | omega | decide | (simp only [Int32.le_iff_toInt_le, Int32.lt_iff_toInt_lt, ti_add, ti_sub, ti_mul, Int32.reduceToInt] at *; omega) | (exfalso; simp_all; done)) (by have q1 := hD.1; have q2 := hD.2.1; have q3 := hD0.1; have q4 := hD0.2.1; first | omega | decide | (simp only [Int32.le_iff_toInt_le, Int32.lt_iff_toInt_lt, ti_add, ti_sub, ti_mul, Int32.reduceToInt] at *; omega) | (exfalso; simp_all; done)) (fun v478 ev478 => ?_)
                refine ok_if (fun hc479 => ?_) (fun hc479 => ?_)
                · refine ok_gC rfl ?_
                  refine ok_zbT (Q := fun V σ => (V = 0 ∨ V = 1) ∧ RD σ.1 ∧ WI 2 σ.1) hT (s_X5_readNames_2 hN (hR.tr hT) (by first | exact hX | exact hT.1.2 hX) (hD) (hW)) (by decide) (fun v480 σ481 hOσ481 hT hqv480 => ?_)
                  have hqv480 : (v480 = 0 ∨ v480 = 1) ∧ RD σ481.1 ∧ WI 2 σ481.1 := hqv480
                  have hD : RD σ481.1 := by first | exact hqv480.2 | exact hqv480.2.1
                  have hW : WI 2 σ481.1 := by first | exact hqv480.2.2 | exact hqv480
                  rw [J_X5_readLine_211.eq_1]
                  refine ok_if (fun hc482 => ?_) (fun hc482 => ?_)
                  · exact ok_rZ (Or.inl rfl) ⟨hT, (show ((0 : Int32) = 0 ∨ (0 : Int32) = 1) ∧ RD σ481.1 ∧ WI 2 σ481.1 from by first | exact ⟨Or.inl rfl, hD, hW⟩ | exact ⟨Or.inr rfl, hD, hW⟩ | exact ⟨Or.inl hqv480.1, hD, hW⟩ | exact ⟨hqv480.1, hD, hW⟩)⟩
                  · refine ok_gC rfl ?_
                    refine ok_zbT (Q := fun V σ => (V = 0 ∨ V = 1) ∧ RD σ.1) hT (s_X5_pass hN (hR.tr hT) (by first | exact hX | exact hT.1.2 hX) (hD)) (by decide) (fun v483 σ484 hOσ484 hT hqv483 => ?_)
                    have hqv483 : (v483 = 0 ∨ v483 = 1) ∧ RD σ484.1 := hqv483
                    have hD : RD σ484.1 := by first | exact hqv483.2 | exact hqv483.2.1
                    have hW : WI 2 σ484.1 := WI.tr hOσ484 (by decide) (by decide) (by decide) hW
                    refine ok_if (fun hc485 => ?_) (fun hc485 => ?_)
                    · exact ok_rZ (Or.inl rfl) ⟨hT, (show ((0 : Int32) = 0 ∨ (0 : Int32) = 1) ∧ RD σ484.1 ∧ WI 2 σ484.1 from by first | exact ⟨Or.inl rfl, hD, hW⟩ | exact ⟨Or.inr rfl, hD, hW⟩ | exact ⟨Or.inl hqv483.1, hD, hW⟩ | exact ⟨hqv483.1, hD, hW⟩)⟩
                    · exact ok_rZ (Or.inr rfl) ⟨hT, (show ((1 : Int32) = 0 ∨ (1 : Int32) = 1) ∧ RD σ484.1 ∧ WI 2 σ484.1 from by first | exact ⟨Or.inl rfl, hD, hW⟩ | exact ⟨Or.inr rfl, hD, hW⟩ | exact ⟨Or.inl hqv483.1, hD, hW⟩ | exact ⟨hqv483.1, hD, hW⟩)⟩
                refine ok_if (fun hc486 => ?_) (fun hc486 => ?_)
                · refine ok_gC rfl ?_
                  refine ok_zbT (Q := fun V σ => (V = 0 ∨ V = 1) ∧ RD σ.1 ∧ WI 2 σ.1) hT (s_X5_readWeight_2 hN (hR.tr hT) (by first | exact hX | exact hT.1.2 hX) (hD) (hW)) (by decide) (fun v487 σ488 hOσ488 hT hqv487 => ?_)
                  have hqv487 : (v487 = 0 ∨ v487 = 1) ∧ RD σ488.1 ∧ WI 2 σ488.1 := hqv487
                  have hD : RD σ488.1 := by first | exact hqv487.2 | exact hqv487.2.1
                  have hW : WI 2 σ488.1 := WI.tr hOσ488 (by decide) (by decide) (by decide) hW
                  rw [J_X5_readLine_211.eq_1]
                  refine ok_if (fun hc489 => ?_) (fun hc489 => ?_)
                  · exact ok_rZ (Or.inl rfl) ⟨hT, (show ((0 : Int32) = 0 ∨ (0 : Int32) = 1) ∧ RD σ488.1 ∧ WI 2 σ488.1 from by first | exact ⟨Or.inl rfl, hD, hW⟩ | exact ⟨Or.inr rfl, hD, hW⟩ | exact ⟨Or.inl hqv487.1, hD, hW⟩ | exact ⟨hqv487.1, hD, hW⟩)⟩
                  · refine ok_gC rfl ?_
                    refine ok_zbT (Q := fun V σ => (V = 0 ∨ V = 1) ∧ RD σ.1) hT (s_X5_pass hN (hR.tr hT) (by first | exact hX | exact hT.1.2 hX) (hD)) (by decide) (fun v490 σ491 hOσ491 hT hqv490 => ?_)
                    have hqv490 : (v490 = 0 ∨ v490 = 1) ∧ RD σ491.1 := hqv490
                    have hD : RD σ491.1 := by first | exact hqv490.2 | exact hqv490.2.1
                    have hW : WI 2 σ491.1 := WI.tr hOσ491 (by decide) (by decide) (by decide) hW
                    refine ok_if (fun hc492 => ?_) (fun hc492 => ?_)
                    · exact ok_rZ (Or.inl rfl) ⟨hT, (show ((0 : Int32) = 0 ∨ (0 : Int32) = 1) ∧ RD σ491.1 ∧ WI 2 σ491.1 from by first | exact ⟨Or.inl rfl, hD, hW⟩ | exact ⟨Or.inr rfl, hD, hW⟩ | exact ⟨Or.inl hqv490.1, hD, hW⟩ | exact ⟨hqv490.1, hD, hW⟩)⟩
                    · exact ok_rZ (Or.inr rfl) ⟨hT, (show ((1 : Int32) = 0 ∨ (1 : Int32) = 1) ∧ RD σ491.1 ∧ WI 2 σ491.1 from by first | exact ⟨Or.inl rfl, hD, hW⟩ | exact ⟨Or.inr rfl, hD, hW⟩ | exact ⟨Or.inl hqv490.1, hD, hW⟩ | exact ⟨hqv490.1, hD, hW⟩)⟩
                refine ok_if (fun hc493 => ?_) (fun hc493 => ?_)
                · refine ok_gC rfl ?_
                  refine ok_zbT (Q := fun V σ => (V = 0 ∨ V = 1) ∧ RD σ.1 ∧ WI 2 σ.1) hT (s_X5_readEdge_2 hN (hR.tr hT) (by first | exact hX | exact hT.1.2 hX) (hD) (hW)) (by decide) (fun v494 σ495 hOσ495 hT hqv494 => ?_)
                  have hqv494 : (v494 = 0 ∨ v494 = 1) ∧ RD σ495.1 ∧ WI 2 σ495.1 := hqv494
                  have hD : RD σ495.1 := by first | exact hqv494.2 | exact hqv494.2.1
                  have hW : WI 2 σ495.1 := by first | exact hqv494.2.2 | exact hqv494
                  rw [J_X5_readLine_211.eq_1]
                  refine ok_if (fun hc496 => ?_) (fun hc496 => ?_)
                  · exact ok_rZ (Or.inl rfl) ⟨hT, (show ((0 : Int32) = 0 ∨ (0 : Int32) = 1) ∧ RD σ495.1 ∧ WI 2 σ495.1 from by first | exact ⟨Or.inl rfl, hD, hW⟩ | exact ⟨Or.inr rfl, hD, hW⟩ | exact ⟨Or.inl hqv494.1, hD, hW⟩ | exact ⟨hqv494.1, hD, hW⟩)⟩
                  · refine ok_gC rfl ?_
                    refine ok_zbT (Q := fun V σ => (V = 0 ∨ V = 1) ∧ RD σ.1) hT (s_X5_pass hN (hR.tr hT) (by first | exact hX | exact hT.1.2 hX) (hD)) (by decide) (fun v497 σ498 hOσ498 hT hqv497 => ?_)
                    have hqv497 : (v497 = 0 ∨ v497 = 1) ∧ RD σ498.1 := hqv497
                    have hD : RD σ498.1 := by first | exact hqv497.2 | exact hqv497.2.1
                    have hW : WI 2 σ498.1 := WI.tr hOσ498 (by decide) (by decide) (by decide) hW
                    refine ok_if (fun hc499 => ?_) (fun hc499 => ?_)
                    · exact ok_rZ (Or.inl rfl) ⟨hT, (show ((0 : Int32) = 0 ∨ (0 : Int32) = 1) ∧ RD σ498.1 ∧ WI 2 σ498.1 from by first | exact ⟨Or.inl rfl, hD, hW⟩ | exact ⟨Or.inr rfl, hD, hW⟩ | exact ⟨Or.inl hqv497.1, hD, hW⟩ | exact ⟨hqv497.1, hD, hW⟩)⟩
                    · exact ok_rZ (Or.inr rfl) ⟨hT, (show ((1 : Int32) = 0 ∨ (1 : Int32) = 1) ∧ RD σ498.1 ∧ WI 2 σ498.1 from by first | exact ⟨Or.inl rfl, hD, hW⟩ | exact ⟨Or.inr rfl, hD, hW⟩ | exact ⟨Or.inl hqv497.1, hD, hW⟩ | exact ⟨hqv497.1, hD, hW⟩)⟩
                refine ok_gC rfl ?_
                refine ok_zbT (Q := fun V σ => (V = 0 ∨ V = 1) ∧ RD σ.1 ∧ (¬ V = 0 → 1 ≤ (σ.1 57 9).toInt ∧ (0 : Int32).toInt ≤ (lastv σ.1).toInt ∧ (lastv σ.1).toInt ≤ (9 : Int32).toInt)) hT (s_X5_passNumber hN (hR.tr hT) (by first | exact hX | exact hT.1.2 hX) (hD)) (by decide) (fun v500 σ501 hOσ501 hT hqv500 => ?_)
                have hqv500 : (v500 = 0 ∨ v500 = 1) ∧ RD σ501.1 ∧ (¬ v500 = 0 → 1 ≤ (σ501.1 57 9).toInt ∧ (0 : Int32).toInt ≤ (lastv σ501.1).toInt ∧ (lastv σ501.1).toInt ≤ (9 : Int32).toInt) := hqv500
                have hD : RD σ501.1 := by first | exact hqv500.2 | exact hqv500.2.1
                have hW : WI 2 σ501.1 := WI.tr hOσ501 (by decide) (by decide) (by decide) hW
                refine ok_if (fun hc502 => ?_) (fun hc502 => ?_)
                · rw [J_X5_readLine_211.eq_1]
                  refine ok_if (fun hc503 => ?_) (fun hc503 => ?_)
                  · exact ok_rZ (Or.inl rfl) ⟨hT, (show ((0 : Int32) = 0 ∨ (0 : Int32) = 1) ∧ RD σ501.1 ∧ WI 2 σ501.1 from by first | exact ⟨Or.inl rfl, hD, hW⟩ | exact ⟨Or.inr rfl, hD, hW⟩ | exact ⟨Or.inl hqv500.1, hD, hW⟩ | exact ⟨hqv500.1, hD, hW⟩)⟩
                  · refine ok_gC rfl ?_
                    refine ok_zbT (Q := fun V σ => (V = 0 ∨ V = 1) ∧ RD σ.1) hT (s_X5_pass hN (hR.tr hT) (by first | exact hX | exact hT.1.2 hX) (hD)) (by decide) (fun v504 σ505 hOσ505 hT hqv504 => ?_)
                    have hqv504 : (v504 = 0 ∨ v504 = 1) ∧ RD σ505.1 := hqv504
                    have hD : RD σ505.1 := by first | exact hqv504.2 | exact hqv504.2.1
                    have hW : WI 2 σ505.1 := WI.tr hOσ505 (by decide) (by decide) (by decide) hW
                    refine ok_if (fun hc506 => ?_) (fun hc506 => ?_)
                    · exact ok_rZ (Or.inl rfl) ⟨hT, (show ((0 : Int32) = 0 ∨ (0 : Int32) = 1) ∧ RD σ505.1 ∧ WI 2 σ505.1 from by first | exact ⟨Or.inl rfl, hD, hW⟩ | exact ⟨Or.inr rfl, hD, hW⟩ | exact ⟨Or.inl hqv504.1, hD, hW⟩ | exact ⟨hqv504.1, hD, hW⟩)⟩
                    · exact ok_rZ (Or.inr rfl) ⟨hT, (show ((1 : Int32) = 0 ∨ (1 : Int32) = 1) ∧ RD σ505.1 ∧ WI 2 σ505.1 from by first | exact ⟨Or.inl rfl, hD, hW⟩ | exact ⟨Or.inr rfl, hD, hW⟩ | exact ⟨Or.inl hqv504.1, hD, hW⟩ | exact ⟨hqv504.1, hD, hW⟩)⟩
                · refine ok_gC rfl ?_
                  refine ok_zbT (Q := fun V σ => (V = 0 ∨ V = 1) ∧ RD σ.1) hT (s_X5_pass hN (hR.tr hT) (by first | exact hX | exact hT.1.2 hX) (hD)) (by decide) (fun v507 σ508 hOσ508 hT hqv507 => ?_)
                  have hqv507 : (v507 = 0 ∨ v507 = 1) ∧ RD σ508.1 := hqv507
                  have hD : RD σ508.1 := by first | exact hqv507.2 | exact hqv507.2.1
                  have hW : WI 2 σ508.1 := WI.tr hOσ508 (by decide) (by decide) (by decide) hW
                  refine ok_if (fun hc509 => ?_) (fun hc509 => ?_)
                  · rw [J_X5_readLine_211.eq_1]
                    refine ok_if (fun hc510 => ?_) (fun hc510 => ?_)
                    · exact ok_rZ (Or.inl rfl) ⟨hT, (show ((0 : Int32) = 0 ∨ (0 : Int32) = 1) ∧ RD σ508.1 ∧ WI 2 σ508.1 from by first | exact ⟨Or.inl rfl, hD, hW⟩ | exact ⟨Or.inr rfl, hD, hW⟩ | exact ⟨Or.inl hqv507.1, hD, hW⟩ | exact ⟨hqv507.1, hD, hW⟩)⟩
                    · refine ok_gC rfl ?_
                      refine ok_zbT (Q := fun V σ => (V = 0 ∨ V = 1) ∧ RD σ.1) hT (s_X5_pass hN (hR.tr hT) (by first | exact hX | exact hT.1.2 hX) (hD)) (by decide) (fun v511 σ512 hOσ512 hT hqv511 => ?_)
                      have hqv511 : (v511 = 0 ∨ v511 = 1) ∧ RD σ512.1 := hqv511
                      have hD : RD σ512.1 := by first | exact hqv511.2 | exact hqv511.2.1
                      have hW : WI 2 σ512.1 := WI.tr hOσ512 (by decide) (by decide) (by decide) hW
                      refine ok_if (fun hc513 => ?_) (fun hc513 => ?_)
                      · exact ok_rZ (Or.inl rfl) ⟨hT, (show ((0 : Int32) = 0 ∨ (0 : Int32) = 1) ∧ RD σ512.1 ∧ WI 2 σ512.1 from by first | exact ⟨Or.inl rfl, hD, hW⟩ | exact ⟨Or.inr rfl, hD, hW⟩ | exact ⟨Or.inl hqv511.1, hD, hW⟩ | exact ⟨hqv511.1, hD, hW⟩)⟩
                      · exact ok_rZ (Or.inr rfl) ⟨hT, (show ((1 : Int32) = 0 ∨ (1 : Int32) = 1) ∧ RD σ512.1 ∧ WI 2 σ512.1 from by first | exact ⟨Or.inl rfl, hD, hW⟩ | exact ⟨Or.inr rfl, hD, hW⟩ | exact ⟨Or.inl hqv511.1, hD, hW⟩ | exact ⟨hqv511.1, hD, hW⟩)⟩
                  · refine ok_gC rfl ?_
                    refine ok_zbT (Q := fun V σ => (V = 0 ∨ V = 1) ∧ RD σ.1) hT (s_X5_sum hN (hR.tr hT) (by first | exact hX | exact hT.1.2 hX) (hD) (by have q1 := hD.1; have q2 := hD.2.1; have q3 := hD0.1; have q4 := hD0.2.1; first | omega | decide | (simp only [Int32.le_iff_toInt_le, Int32.lt_iff_toInt_lt, ti_add, ti_sub, ti_mul, Int32.reduceToInt] at *; omega) | (exfalso; simp_all; done)) (by have q1 := hD.1; have q2 := hD.2.1; have q3 := hD0.1; have q4 := hD0.2.1; first | omega | decide | (simp only [Int32.le_iff_toInt_le, Int32.lt_iff_toInt_lt, ti_add, ti_sub, ti_mul, Int32.reduceToInt] at *; omega) | (exfalso; simp_all; done))) (by decide) (fun v514 σ515 hOσ515 hT hqv514 => ?_)
                    have hqv514 : (v514 = 0 ∨ v514 = 1) ∧ RD σ515.1 := hqv514
                    have hD : RD σ515.1 := by first | exact hqv514.2 | exact hqv514.2.1
                    have hW : WI 2 σ515.1 := WI.tr hOσ515 (by decide) (by decide) (by decide) hW
                    refine ok_if (fun hc516 => ?_) (fun hc516 => ?_)
                    · rw [J_X5_readLine_211.eq_1]
                      refine ok_if (fun hc517 => ?_) (fun hc517 => ?_)
                      · exact ok_rZ (Or.inl rfl) ⟨hT, (show ((0 : Int32) = 0 ∨ (0 : Int32) = 1) ∧ RD σ515.1 ∧ WI 2 σ515.1 from by first | exact ⟨Or.inl rfl, hD, hW⟩ | exact ⟨Or.inr rfl, hD, hW⟩ | exact ⟨Or.inl hqv514.1, hD, hW⟩ | exact ⟨hqv514.1, hD, hW⟩)⟩
                      · refine ok_gC rfl ?_
                        refine ok_zbT (Q := fun V σ => (V = 0 ∨ V = 1) ∧ RD σ.1) hT (s_X5_pass hN (hR.tr hT) (by first | exact hX | exact hT.1.2 hX) (hD)) (by decide) (fun v518 σ519 hOσ519 hT hqv518 => ?_)
                        have hqv518 : (v518 = 0 ∨ v518 = 1) ∧ RD σ519.1 := hqv518
                        have hD : RD σ519.1 := by first | exact hqv518.2 | exact hqv518.2.1
                        have hW : WI 2 σ519.1 := WI.tr hOσ519 (by decide) (by decide) (by decide) hW
                        refine ok_if (fun hc520 => ?_) (fun hc520 => ?_)
                        · exact ok_rZ (Or.inl rfl) ⟨hT, (show ((0 : Int32) = 0 ∨ (0 : Int32) = 1) ∧ RD σ519.1 ∧ WI 2 σ519.1 from by first | exact ⟨Or.inl rfl, hD, hW⟩ | exact ⟨Or.inr rfl, hD, hW⟩ | exact ⟨Or.inl hqv518.1, hD, hW⟩ | exact ⟨hqv518.1, hD, hW⟩)⟩
                        · exact ok_rZ (Or.inr rfl) ⟨hT, (show ((1 : Int32) = 0 ∨ (1 : Int32) = 1) ∧ RD σ519.1 ∧ WI 2 σ519.1 from by first | exact ⟨Or.inl rfl, hD, hW⟩ | exact ⟨Or.inr rfl, hD, hW⟩ | exact ⟨Or.inl hqv518.1, hD, hW⟩ | exact ⟨hqv518.1, hD, hW⟩)⟩
                    · refine ok_gC rfl ?_
                      refine ok_zbT (Q := fun V σ => V = 1 ∧ RD σ.1) hT (s_X5_emit hN (hR.tr hT) (by first | exact hX | exact hT.1.2 hX) (hD)) (by decide) (fun v521 σ522 hOσ522 hT hqv521 => ?_)
                      have hqv521 : v521 = 1 ∧ RD σ522.1 := hqv521
                      have hD : RD σ522.1 := by first | exact hqv521.2 | exact hqv521.2.1
                      have hW : WI 2 σ522.1 := WI.tr hOσ522 (by decide) (by decide) (by decide) hW
                      refine ok_if (fun hc523 => ?_) (fun hc523 => ?_)
                      · rw [J_X5_readLine_211.eq_1]
                        refine ok_if (fun hc524 => ?_) (fun hc524 => ?_)
                        · exact ok_rZ (Or.inl rfl) ⟨hT, (show ((0 : Int32) = 0 ∨ (0 : Int32) = 1) ∧ RD σ522.1 ∧ WI 2 σ522.1 from by first | exact ⟨Or.inl rfl, hD, hW⟩ | exact ⟨Or.inr rfl, hD, hW⟩ | exact ⟨Or.inl hqv521.1, hD, hW⟩ | exact ⟨hqv521.1, hD, hW⟩)⟩
                        · refine ok_gC rfl ?_
                          refine ok_zbT (Q := fun V σ => (V = 0 ∨ V = 1) ∧ RD σ.1) hT (s_X5_pass hN (hR.tr hT) (by first | exact hX | exact hT.1.2 hX) (hD)) (by decide) (fun v525 σ526 hOσ526 hT hqv525 => ?_)
                          have hqv525 : (v525 = 0 ∨ v525 = 1) ∧ RD σ526.1 := hqv525
                          have hD : RD σ526.1 := by first | exact hqv525.2 | exact hqv525.2.1
                          have hW : WI 2 σ526.1 := WI.tr hOσ526 (by decide) (by decide) (by decide) hW
                          refine ok_if (fun hc527 => ?_) (fun hc527 => ?_)
                          · exact ok_rZ (Or.inl rfl) ⟨hT, (show ((0 : Int32) = 0 ∨ (0 : Int32) = 1) ∧ RD σ526.1 ∧ WI 2 σ526.1 from by first | exact ⟨Or.inl rfl, hD, hW⟩ | exact ⟨Or.inr rfl, hD, hW⟩ | exact ⟨Or.inl hqv525.1, hD, hW⟩ | exact ⟨hqv525.1, hD, hW⟩)⟩
                          · exact ok_rZ (Or.inr rfl) ⟨hT, (show ((1 : Int32) = 0 ∨ (1 : Int32) = 1) ∧ RD σ526.1 ∧ WI 2 σ526.1 from by first | exact ⟨Or.inl rfl, hD, hW⟩ | exact ⟨Or.inr rfl, hD, hW⟩ | exact ⟨Or.inl hqv525.1, hD, hW⟩ | exact ⟨hqv525.1, hD, hW⟩)⟩
                      · rw [J_X5_readLine_211.eq_1]
                        refine ok_if (fun hc528 => ?_) (fun hc528 => ?_)
                        · exact ok_rZ (Or.inl rfl) ⟨hT, (show ((0 : Int32) = 0 ∨ (0 : Int32) = 1) ∧ RD σ522.1 ∧ WI 2 σ522.1 from by first | exact ⟨Or.inl rfl, hD, hW⟩ | exact ⟨Or.inr rfl, hD, hW⟩ | exact ⟨Or.inl hqv521.1, hD, hW⟩ | exact ⟨hqv521.1, hD, hW⟩)⟩
                        · refine ok_gC rfl ?_
                          refine ok_zbT (Q := fun V σ => (V = 0 ∨ V = 1) ∧ RD σ.1) hT (s_X5_pass hN (hR.tr hT) (by first | exact hX | exact hT.1.2 hX) (hD)) (by decide) (fun v529 σ530 hOσ530 hT hqv529 => ?_)
                          have hqv529 : (v529 = 0 ∨ v529 = 1) ∧ RD σ530.1 := hqv529
                          have hD : RD σ530.1 := by first | exact hqv529.2 | exact hqv529.2.1
                          have hW : WI 2 σ530.1 := WI.tr hOσ530 (by decide) (by decide) (by decide) hW
                          refine ok_if (fun hc531 => ?_) (fun hc531 => ?_)
                          · exact ok_rZ (Or.inl rfl) ⟨hT, (show ((0 : Int32) = 0 ∨ (0 : Int32) = 1) ∧ RD σ530.1 ∧ WI 2 σ530.1 from by first | exact ⟨Or.inl rfl, hD, hW⟩ | exact ⟨Or.inr rfl, hD, hW⟩ | exact ⟨Or.inl hqv529.1, hD, hW⟩ | exact ⟨hqv529.1, hD, hW⟩)⟩
                          · exact ok_rZ (Or.inr rfl) ⟨hT, (show ((1 : Int32) = 0 ∨ (1 : Int32) = 1) ∧ RD σ530.1 ∧ WI 2 σ530.1 from by first | exact ⟨Or.inl rfl, hD, hW⟩ | exact ⟨Or.inr rfl, hD, hW⟩ | exact ⟨Or.inl hqv529.1, hD, hW⟩ | exact ⟨hqv529.1, hD, hW⟩)⟩
            · refine ok_gC rfl ?_
              refine ok_zbT (Q := fun V σ => V = 0 ∧ RD σ.1) hT (s_X5_fail hN (hR.tr hT) (by first | exact hX | exact hT.1.2 hX) (hD)) (by decide) (fun v532 σ533 hOσ533 hT hqv532 => ?_)
              have hqv532 : v532 = 0 ∧ RD σ533.1 := hqv532
              have hD : RD σ533.1 := by first | exact hqv532.2 | exact hqv532.2.1
              have hW : WI 2 σ533.1 := WI.tr hOσ533 (by decide) (by decide) (by decide) hW
              exact ok_rZ (by have q := hqv532.1; first | exact q | exact Or.inl q | exact Or.inr q) ⟨hT, (show (v532 = 0 ∨ v532 = 1) ∧ RD σ533.1 ∧ WI 2 σ533.1 from by first | exact ⟨Or.inl rfl, hD, hW⟩ | exact ⟨Or.inr rfl, hD, hW⟩ | exact ⟨Or.inl hqv532.1, hD, hW⟩ | exact ⟨hqv532.1, hD, hW⟩)⟩
        · refine ok_gC rfl ?_
          refine ok_zbT (Q := fun V σ => V = 0 ∧ RD σ.1) hT (s_X5_fail hN (hR.tr hT) (by first | exact hX | exact hT.1.2 hX) (hD)) (by decide) (fun v534 σ535 hOσ535 hT hqv534 => ?_)
          have hqv534 : v534 = 0 ∧ RD σ535.1 := hqv534
          have hD : RD σ535.1 := by first | exact hqv534.2 | exact hqv534.2.1
          have hW : WI 2 σ535.1 := WI.tr hOσ535 (by decide) (by decide) (by decide) hW
          exact ok_rZ (by have q := hqv534.1; first | exact q | exact Or.inl q | exact Or.inr q) ⟨hT, (show (v534 = 0 ∨ v534 = 1) ∧ RD σ535.1 ∧ WI 2 σ535.1 from by first | exact ⟨Or.inl rfl, hD, hW⟩ | exact ⟨Or.inr rfl, hD, hW⟩ | exact ⟨Or.inl hqv534.1, hD, hW⟩ | exact ⟨hqv534.1, hD, hW⟩)⟩
  · rw [J_X5_readLine_26.eq_1]
    refine ok_gI rfl ?_
    refine ok_if (fun hc537 => ?_) (fun hc537 => ?_)
    · rw [J_X5_readLine_39.eq_1]
      refine ok_if (fun hc538 => ?_) (fun hc538 => ?_)
      · rw [J_X5_readLine_51.eq_1]
        refine ok_if (fun hc539 => ?_) (fun hc539 => ?_)
        · refine ok_if (fun hc540 => ?_) (fun hc540 => ?_)
          · refine ok_gC rfl ?_
            refine ok_zbT (Q := fun V σ => V = 0 ∧ RD σ.1) hT (s_X5_fail hN (hR.tr hT) (by first | exact hX | exact hT.1.2 hX) (hD)) (by decide) (fun v541 σ542 hOσ542 hT hqv541 => ?_)
            have hqv541 : v541 = 0 ∧ RD σ542.1 := hqv541
            have hD : RD σ542.1 := by first | exact hqv541.2 | exact hqv541.2.1
            have hW : WI 2 σ542.1 := WI.tr hOσ542 (by decide) (by decide) (by decide) hW
            exact ok_rZ (by have q := hqv541.1; first | exact q | exact Or.inl q | exact Or.inr q) ⟨hT, (show (v541 = 0 ∨ v541 = 1) ∧ RD σ542.1 ∧ WI 2 σ542.1 from by first | exact ⟨Or.inl rfl, hD, hW⟩ | exact ⟨Or.inr rfl, hD, hW⟩ | exact ⟨Or.inl hqv541.1, hD, hW⟩ | exact ⟨hqv541.1, hD, hW⟩)⟩
          · refine ok_if (fun hc543 => ?_) (fun hc543 => ?_)
            · refine ok_if (fun hc544 => ?_) (fun hc544 => ?_)
              · refine ok_gI rfl ?_
                refine ok_gI rfl ?_
                refine ok_if (fun hc547 => ?_) (fun hc547 => ?_)
                · rw [J_X5_readLine_92.eq_1]
                  refine ok_gC rfl ?_
                  refine ok_zbT (Q := fun V σ => (V = 0 ∨ V = 1) ∧ RD σ.1) hT (s_X5_pass hN (hR.tr hT) (by first | exact hX | exact hT.1.2 hX) (hD)) (by decide) (fun v548 σ549 hOσ549 hT hqv548 => ?_)
                  have hqv548 : (v548 = 0 ∨ v548 = 1) ∧ RD σ549.1 := hqv548
                  have hD : RD σ549.1 := by first | exact hqv548.2 | exact hqv548.2.1
                  have hW : WI 2 σ549.1 := WI.tr hOσ549 (by decide) (by decide) (by decide) hW
                  refine ok_gR (v := 62) hT rfl (hR 57 11 rfl) ?_
                  refine ok_gI rfl ?_
                  refine ok_aIn rfl (by have q1 := hD.1; have q2 := hD.2.1; have q3 := hD0.1; have q4 := hD0.2.1; first | omega | decide | (simp only [Int32.le_iff_toInt_le, Int32.lt_iff_toInt_lt, ti_add, ti_sub, ti_mul, Int32.reduceToInt] at *; omega) | (exfalso; simp_all; done)) (by have q1 := hD.1; have q2 := hD.2.1; have q3 := hD0.1; have q4 := hD0.2.1; first | omega | decide | (simp only [Int32.le_iff_toInt_le, Int32.lt_iff_toInt_lt, ti_add, ti_sub, ti_mul, Int32.reduceToInt] at *; omega) | (exfalso; simp_all; done)) (fun v552 ev552 => ?_)
                  refine ok_if (fun hc553 => ?_) (fun hc553 => ?_)
                  · refine ok_gC rfl ?_
                    refine ok_zbT (Q := fun V σ => (V = 0 ∨ V = 1) ∧ RD σ.1 ∧ WI 2 σ.1) hT (s_X5_readNames_2 hN (hR.tr hT) (by first | exact hX | exact hT.1.2 hX) (hD) (hW)) (by decide) (fun v554 σ555 hOσ555 hT hqv554 => ?_)
                    have hqv554 : (v554 = 0 ∨ v554 = 1) ∧ RD σ555.1 ∧ WI 2 σ555.1 := hqv554
                    have hD : RD σ555.1 := by first | exact hqv554.2 | exact hqv554.2.1
                    have hW : WI 2 σ555.1 := by first | exact hqv554.2.2 | exact hqv554
                    rw [J_X5_readLine_211.eq_1]
                    refine ok_if (fun hc556 => ?_) (fun hc556 => ?_)
                    · exact ok_rZ (Or.inl rfl) ⟨hT, (show ((0 : Int32) = 0 ∨ (0 : Int32) = 1) ∧ RD σ555.1 ∧ WI 2 σ555.1 from by first | exact ⟨Or.inl rfl, hD, hW⟩ | exact ⟨Or.inr rfl, hD, hW⟩ | exact ⟨Or.inl hqv554.1, hD, hW⟩ | exact ⟨hqv554.1, hD, hW⟩)⟩
                    · refine ok_gC rfl ?_
                      refine ok_zbT (Q := fun V σ => (V = 0 ∨ V = 1) ∧ RD σ.1) hT (s_X5_pass hN (hR.tr hT) (by first | exact hX | exact hT.1.2 hX) (hD)) (by decide) (fun v557 σ558 hOσ558 hT hqv557 => ?_)
                      have hqv557 : (v557 = 0 ∨ v557 = 1) ∧ RD σ558.1 := hqv557
                      have hD : RD σ558.1 := by first | exact hqv557.2 | exact hqv557.2.1
                      have hW : WI 2 σ558.1 := WI.tr hOσ558 (by decide) (by decide) (by decide) hW
                      refine ok_if (fun hc559 => ?_) (fun hc559 => ?_)
                      · exact ok_rZ (Or.inl rfl) ⟨hT, (show ((0 : Int32) = 0 ∨ (0 : Int32) = 1) ∧ RD σ558.1 ∧ WI 2 σ558.1 from by first | exact ⟨Or.inl rfl, hD, hW⟩ | exact ⟨Or.inr rfl, hD, hW⟩ | exact ⟨Or.inl hqv557.1, hD, hW⟩ | exact ⟨hqv557.1, hD, hW⟩)⟩
                      · exact ok_rZ (Or.inr rfl) ⟨hT, (show ((1 : Int32) = 0 ∨ (1 : Int32) = 1) ∧ RD σ558.1 ∧ WI 2 σ558.1 from by first | exact ⟨Or.inl rfl, hD, hW⟩ | exact ⟨Or.inr rfl, hD, hW⟩ | exact ⟨Or.inl hqv557.1, hD, hW⟩ | exact ⟨hqv557.1, hD, hW⟩)⟩
                  refine ok_if (fun hc560 => ?_) (fun hc560 => ?_)
                  · refine ok_gC rfl ?_
                    refine ok_zbT (Q := fun V σ => (V = 0 ∨ V = 1) ∧ RD σ.1 ∧ WI 2 σ.1) hT (s_X5_readWeight_2 hN (hR.tr hT) (by first | exact hX | exact hT.1.2 hX) (hD) (hW)) (by decide) (fun v561 σ562 hOσ562 hT hqv561 => ?_)
                    have hqv561 : (v561 = 0 ∨ v561 = 1) ∧ RD σ562.1 ∧ WI 2 σ562.1 := hqv561
                    have hD : RD σ562.1 := by first | exact hqv561.2 | exact hqv561.2.1
                    have hW : WI 2 σ562.1 := WI.tr hOσ562 (by decide) (by decide) (by decide) hW
                    rw [J_X5_readLine_211.eq_1]
                    refine ok_if (fun hc563 => ?_) (fun hc563 => ?_)
                    · exact ok_rZ (Or.inl rfl) ⟨hT, (show ((0 : Int32) = 0 ∨ (0 : Int32) = 1) ∧ RD σ562.1 ∧ WI 2 σ562.1 from by first | exact ⟨Or.inl rfl, hD, hW⟩ | exact ⟨Or.inr rfl, hD, hW⟩ | exact ⟨Or.inl hqv561.1, hD, hW⟩ | exact ⟨hqv561.1, hD, hW⟩)⟩
                    · refine ok_gC rfl ?_
                      refine ok_zbT (Q := fun V σ => (V = 0 ∨ V = 1) ∧ RD σ.1) hT (s_X5_pass hN (hR.tr hT) (by first | exact hX | exact hT.1.2 hX) (hD)) (by decide) (fun v564 σ565 hOσ565 hT hqv564 => ?_)
                      have hqv564 : (v564 = 0 ∨ v564 = 1) ∧ RD σ565.1 := hqv564
                      have hD : RD σ565.1 := by first | exact hqv564.2 | exact hqv564.2.1
                      have hW : WI 2 σ565.1 := WI.tr hOσ565 (by decide) (by decide) (by decide) hW
                      refine ok_if (fun hc566 => ?_) (fun hc566 => ?_)
                      · exact ok_rZ (Or.inl rfl) ⟨hT, (show ((0 : Int32) = 0 ∨ (0 : Int32) = 1) ∧ RD σ565.1 ∧ WI 2 σ565.1 from by first | exact ⟨Or.inl rfl, hD, hW⟩ | exact ⟨Or.inr rfl, hD, hW⟩ | exact ⟨Or.inl hqv564.1, hD, hW⟩ | exact ⟨hqv564.1, hD, hW⟩)⟩
                      · exact ok_rZ (Or.inr rfl) ⟨hT, (show ((1 : Int32) = 0 ∨ (1 : Int32) = 1) ∧ RD σ565.1 ∧ WI 2 σ565.1 from by first | exact ⟨Or.inl rfl, hD, hW⟩ | exact ⟨Or.inr rfl, hD, hW⟩ | exact ⟨Or.inl hqv564.1, hD, hW⟩ | exact ⟨hqv564.1, hD, hW⟩)⟩
                  refine ok_if (fun hc567 => ?_) (fun hc567 => ?_)
                  · refine ok_gC rfl ?_
                    refine ok_zbT (Q := fun V σ => (V = 0 ∨ V = 1) ∧ RD σ.1 ∧ WI 2 σ.1) hT (s_X5_readEdge_2 hN (hR.tr hT) (by first | exact hX | exact hT.1.2 hX) (hD) (hW)) (by decide) (fun v568 σ569 hOσ569 hT hqv568 => ?_)
                    have hqv568 : (v568 = 0 ∨ v568 = 1) ∧ RD σ569.1 ∧ WI 2 σ569.1 := hqv568
                    have hD : RD σ569.1 := by first | exact hqv568.2 | exact hqv568.2.1
                    have hW : WI 2 σ569.1 := by first | exact hqv568.2.2 | exact hqv568
                    rw [J_X5_readLine_211.eq_1]
                    refine ok_if (fun hc570 => ?_) (fun hc570 => ?_)
                    · exact ok_rZ (Or.inl rfl) ⟨hT, (show ((0 : Int32) = 0 ∨ (0 : Int32) = 1) ∧ RD σ569.1 ∧ WI 2 σ569.1 from by first | exact ⟨Or.inl rfl, hD, hW⟩ | exact ⟨Or.inr rfl, hD, hW⟩ | exact ⟨Or.inl hqv568.1, hD, hW⟩ | exact ⟨hqv568.1, hD, hW⟩)⟩
                    · refine ok_gC rfl ?_
                      refine ok_zbT (Q := fun V σ => (V = 0 ∨ V = 1) ∧ RD σ.1) hT (s_X5_pass hN (hR.tr hT) (by first | exact hX | exact hT.1.2 hX) (hD)) (by decide) (fun v571 σ572 hOσ572 hT hqv571 => ?_)
                      have hqv571 : (v571 = 0 ∨ v571 = 1) ∧ RD σ572.1 := hqv571
                      have hD : RD σ572.1 := by first | exact hqv571.2 | exact hqv571.2.1
                      have hW : WI 2 σ572.1 := WI.tr hOσ572 (by decide) (by decide) (by decide) hW
                      refine ok_if (fun hc573 => ?_) (fun hc573 => ?_)
                      · exact ok_rZ (Or.inl rfl) ⟨hT, (show ((0 : Int32) = 0 ∨ (0 : Int32) = 1) ∧ RD σ572.1 ∧ WI 2 σ572.1 from by first | exact ⟨Or.inl rfl, hD, hW⟩ | exact ⟨Or.inr rfl, hD, hW⟩ | exact ⟨Or.inl hqv571.1, hD, hW⟩ | exact ⟨hqv571.1, hD, hW⟩)⟩
                      · exact ok_rZ (Or.inr rfl) ⟨hT, (show ((1 : Int32) = 0 ∨ (1 : Int32) = 1) ∧ RD σ572.1 ∧ WI 2 σ572.1 from by first | exact ⟨Or.inl rfl, hD, hW⟩ | exact ⟨Or.inr rfl, hD, hW⟩ | exact ⟨Or.inl hqv571.1, hD, hW⟩ | exact ⟨hqv571.1, hD, hW⟩)⟩
                  refine ok_gC rfl ?_
                  refine ok_zbT (Q := fun V σ => (V = 0 ∨ V = 1) ∧ RD σ.1 ∧ (¬ V = 0 → 1 ≤ (σ.1 57 9).toInt ∧ (0 : Int32).toInt ≤ (lastv σ.1).toInt ∧ (lastv σ.1).toInt ≤ (9 : Int32).toInt)) hT (s_X5_passNumber hN (hR.tr hT) (by first | exact hX | exact hT.1.2 hX) (hD)) (by decide) (fun v574 σ575 hOσ575 hT hqv574 => ?_)
                  have hqv574 : (v574 = 0 ∨ v574 = 1) ∧ RD σ575.1 ∧ (¬ v574 = 0 → 1 ≤ (σ575.1 57 9).toInt ∧ (0 : Int32).toInt ≤ (lastv σ575.1).toInt ∧ (lastv σ575.1).toInt ≤ (9 : Int32).toInt) := hqv574
                  have hD : RD σ575.1 := by first | exact hqv574.2 | exact hqv574.2.1
                  have hW : WI 2 σ575.1 := WI.tr hOσ575 (by decide) (by decide) (by decide) hW
                  refine ok_if (fun hc576 => ?_) (fun hc576 => ?_)
                  · rw [J_X5_readLine_211.eq_1]
                    refine ok_if (fun hc577 => ?_) (fun hc577 => ?_)
                    · exact ok_rZ (Or.inl rfl) ⟨hT, (show ((0 : Int32) = 0 ∨ (0 : Int32) = 1) ∧ RD σ575.1 ∧ WI 2 σ575.1 from by first | exact ⟨Or.inl rfl, hD, hW⟩ | exact ⟨Or.inr rfl, hD, hW⟩ | exact ⟨Or.inl hqv574.1, hD, hW⟩ | exact ⟨hqv574.1, hD, hW⟩)⟩
                    · refine ok_gC rfl ?_
                      refine ok_zbT (Q := fun V σ => (V = 0 ∨ V = 1) ∧ RD σ.1) hT (s_X5_pass hN (hR.tr hT) (by first | exact hX | exact hT.1.2 hX) (hD)) (by decide) (fun v578 σ579 hOσ579 hT hqv578 => ?_)
                      have hqv578 : (v578 = 0 ∨ v578 = 1) ∧ RD σ579.1 := hqv578
                      have hD : RD σ579.1 := by first | exact hqv578.2 | exact hqv578.2.1
                      have hW : WI 2 σ579.1 := WI.tr hOσ579 (by decide) (by decide) (by decide) hW
                      refine ok_if (fun hc580 => ?_) (fun hc580 => ?_)
                      · exact ok_rZ (Or.inl rfl) ⟨hT, (show ((0 : Int32) = 0 ∨ (0 : Int32) = 1) ∧ RD σ579.1 ∧ WI 2 σ579.1 from by first | exact ⟨Or.inl rfl, hD, hW⟩ | exact ⟨Or.inr rfl, hD, hW⟩ | exact ⟨Or.inl hqv578.1, hD, hW⟩ | exact ⟨hqv578.1, hD, hW⟩)⟩
                      · exact ok_rZ (Or.inr rfl) ⟨hT, (show ((1 : Int32) = 0 ∨ (1 : Int32) = 1) ∧ RD σ579.1 ∧ WI 2 σ579.1 from by first | exact ⟨Or.inl rfl, hD, hW⟩ | exact ⟨Or.inr rfl, hD, hW⟩ | exact ⟨Or.inl hqv578.1, hD, hW⟩ | exact ⟨hqv578.1, hD, hW⟩)⟩
                  · refine ok_gC rfl ?_
                    refine ok_zbT (Q := fun V σ => (V = 0 ∨ V = 1) ∧ RD σ.1) hT (s_X5_pass hN (hR.tr hT) (by first | exact hX | exact hT.1.2 hX) (hD)) (by decide) (fun v581 σ582 hOσ582 hT hqv581 => ?_)
                    have hqv581 : (v581 = 0 ∨ v581 = 1) ∧ RD σ582.1 := hqv581
                    have hD : RD σ582.1 := by first | exact hqv581.2 | exact hqv581.2.1
                    have hW : WI 2 σ582.1 := WI.tr hOσ582 (by decide) (by decide) (by decide) hW
                    refine ok_if (fun hc583 => ?_) (fun hc583 => ?_)
                    · rw [J_X5_readLine_211.eq_1]
                      refine ok_if (fun hc584 => ?_) (fun hc584 => ?_)
                      · exact ok_rZ (Or.inl rfl) ⟨hT, (show ((0 : Int32) = 0 ∨ (0 : Int32) = 1) ∧ RD σ582.1 ∧ WI 2 σ582.1 from by first | exact ⟨Or.inl rfl, hD, hW⟩ | exact ⟨Or.inr rfl, hD, hW⟩ | exact ⟨Or.inl hqv581.1, hD, hW⟩ | exact ⟨hqv581.1, hD, hW⟩)⟩
                      · refine ok_gC rfl ?_
                        refine ok_zbT (Q := fun V σ => (V = 0 ∨ V = 1) ∧ RD σ.1) hT (s_X5_pass hN (hR.tr hT) (by first | exact hX | exact hT.1.2 hX) (hD)) (by decide) (fun v585 σ586 hOσ586 hT hqv585 => ?_)
                        have hqv585 : (v585 = 0 ∨ v585 = 1) ∧ RD σ586.1 := hqv585
                        have hD : RD σ586.1 := by first | exact hqv585.2 | exact hqv585.2.1
                        have hW : WI 2 σ586.1 := WI.tr hOσ586 (by decide) (by decide) (by decide) hW
                        refine ok_if (fun hc587 => ?_) (fun hc587 => ?_)
                        · exact ok_rZ (Or.inl rfl) ⟨hT, (show ((0 : Int32) = 0 ∨ (0 : Int32) = 1) ∧ RD σ586.1 ∧ WI 2 σ586.1 from by first | exact ⟨Or.inl rfl, hD, hW⟩ | exact ⟨Or.inr rfl, hD, hW⟩ | exact ⟨Or.inl hqv585.1, hD, hW⟩ | exact ⟨hqv585.1, hD, hW⟩)⟩
                        · exact ok_rZ (Or.inr rfl) ⟨hT, (show ((1 : Int32) = 0 ∨ (1 : Int32) = 1) ∧ RD σ586.1 ∧ WI 2 σ586.1 from by first | exact ⟨Or.inl rfl, hD, hW⟩ | exact ⟨Or.inr rfl, hD, hW⟩ | exact ⟨Or.inl hqv585.1, hD, hW⟩ | exact ⟨hqv585.1, hD, hW⟩)⟩
                    · refine ok_gC rfl ?_
                      refine ok_zbT (Q := fun V σ => (V = 0 ∨ V = 1) ∧ RD σ.1) hT (s_X5_sum hN (hR.tr hT) (by first | exact hX | exact hT.1.2 hX) (hD) (by have q1 := hD.1; have q2 := hD.2.1; have q3 := hD0.1; have q4 := hD0.2.1; first | omega | decide | (simp only [Int32.le_iff_toInt_le, Int32.lt_iff_toInt_lt, ti_add, ti_sub, ti_mul, Int32.reduceToInt] at *; omega) | (exfalso; simp_all; done)) (by have q1 := hD.1; have q2 := hD.2.1; have q3 := hD0.1; have q4 := hD0.2.1; first | omega | decide | (simp only [Int32.le_iff_toInt_le, Int32.lt_iff_toInt_lt, ti_add, ti_sub, ti_mul, Int32.reduceToInt] at *; omega) | (exfalso; simp_all; done))) (by decide) (fun v588 σ589 hOσ589 hT hqv588 => ?_)
                      have hqv588 : (v588 = 0 ∨ v588 = 1) ∧ RD σ589.1 := hqv588
                      have hD : RD σ589.1 := by first | exact hqv588.2 | exact hqv588.2.1
                      have hW : WI 2 σ589.1 := WI.tr hOσ589 (by decide) (by decide) (by decide) hW
                      refine ok_if (fun hc590 => ?_) (fun hc590 => ?_)
                      · rw [J_X5_readLine_211.eq_1]
                        refine ok_if (fun hc591 => ?_) (fun hc591 => ?_)
                        · exact ok_rZ (Or.inl rfl) ⟨hT, (show ((0 : Int32) = 0 ∨ (0 : Int32) = 1) ∧ RD σ589.1 ∧ WI 2 σ589.1 from by first | exact ⟨Or.inl rfl, hD, hW⟩ | exact ⟨Or.inr rfl, hD, hW⟩ | exact ⟨Or.inl hqv588.1, hD, hW⟩ | exact ⟨hqv588.1, hD, hW⟩)⟩
                        · refine ok_gC rfl ?_
                          refine ok_zbT (Q := fun V σ => (V = 0 ∨ V = 1) ∧ RD σ.1) hT (s_X5_pass hN (hR.tr hT) (by first | exact hX | exact hT.1.2 hX) (hD)) (by decide) (fun v592 σ593 hOσ593 hT hqv592 => ?_)
                          have hqv592 : (v592 = 0 ∨ v592 = 1) ∧ RD σ593.1 := hqv592
                          have hD : RD σ593.1 := by first | exact hqv592.2 | exact hqv592.2.1
                          have hW : WI 2 σ593.1 := WI.tr hOσ593 (by decide) (by decide) (by decide) hW
                          refine ok_if (fun hc594 => ?_) (fun hc594 => ?_)
                          · exact ok_rZ (Or.inl rfl) ⟨hT, (show ((0 : Int32) = 0 ∨ (0 : Int32) = 1) ∧ RD σ593.1 ∧ WI 2 σ593.1 from by first | exact ⟨Or.inl rfl, hD, hW⟩ | exact ⟨Or.inr rfl, hD, hW⟩ | exact ⟨Or.inl hqv592.1, hD, hW⟩ | exact ⟨hqv592.1, hD, hW⟩)⟩
                          · exact ok_rZ (Or.inr rfl) ⟨hT, (show ((1 : Int32) = 0 ∨ (1 : Int32) = 1) ∧ RD σ593.1 ∧ WI 2 σ593.1 from by first | exact ⟨Or.inl rfl, hD, hW⟩ | exact ⟨Or.inr rfl, hD, hW⟩ | exact ⟨Or.inl hqv592.1, hD, hW⟩ | exact ⟨hqv592.1, hD, hW⟩)⟩
                      · refine ok_gC rfl ?_
                        refine ok_zbT (Q := fun V σ => V = 1 ∧ RD σ.1) hT (s_X5_emit hN (hR.tr hT) (by first | exact hX | exact hT.1.2 hX) (hD)) (by decide) (fun v595 σ596 hOσ596 hT hqv595 => ?_)
                        have hqv595 : v595 = 1 ∧ RD σ596.1 := hqv595
                        have hD : RD σ596.1 := by first | exact hqv595.2 | exact hqv595.2.1
                        have hW : WI 2 σ596.1 := WI.tr hOσ596 (by decide) (by decide) (by decide) hW
                        refine ok_if (fun hc597 => ?_) (fun hc597 => ?_)
                        · rw [J_X5_readLine_211.eq_1]
                          refine ok_if (fun hc598 => ?_) (fun hc598 => ?_)
                          · exact ok_rZ (Or.inl rfl) ⟨hT, (show ((0 : Int32) = 0 ∨ (0 : Int32) = 1) ∧ RD σ596.1 ∧ WI 2 σ596.1 from by first | exact ⟨Or.inl rfl, hD, hW⟩ | exact ⟨Or.inr rfl, hD, hW⟩ | exact ⟨Or.inl hqv595.1, hD, hW⟩ | exact ⟨hqv595.1, hD, hW⟩)⟩
                          · refine ok_gC rfl ?_
                            refine ok_zbT (Q := fun V σ => (V = 0 ∨ V = 1) ∧ RD σ.1) hT (s_X5_pass hN (hR.tr hT) (by first | exact hX | exact hT.1.2 hX) (hD)) (by decide) (fun v599 σ600 hOσ600 hT hqv599 => ?_)
                            have hqv599 : (v599 = 0 ∨ v599 = 1) ∧ RD σ600.1 := hqv599
                            have hD : RD σ600.1 := by first | exact hqv599.2 | exact hqv599.2.1
                            have hW : WI 2 σ600.1 := WI.tr hOσ600 (by decide) (by decide) (by decide) hW
                            refine ok_if (fun hc601 => ?_) (fun hc601 => ?_)
                            · exact ok_rZ (Or.inl rfl) ⟨hT, (show ((0 : Int32) = 0 ∨ (0 : Int32) = 1) ∧ RD σ600.1 ∧ WI 2 σ600.1 from by first | exact ⟨Or.inl rfl, hD, hW⟩ | exact ⟨Or.inr rfl, hD, hW⟩ | exact ⟨Or.inl hqv599.1, hD, hW⟩ | exact ⟨hqv599.1, hD, hW⟩)⟩
                            · exact ok_rZ (Or.inr rfl) ⟨hT, (show ((1 : Int32) = 0 ∨ (1 : Int32) = 1) ∧ RD σ600.1 ∧ WI 2 σ600.1 from by first | exact ⟨Or.inl rfl, hD, hW⟩ | exact ⟨Or.inr rfl, hD, hW⟩ | exact ⟨Or.inl hqv599.1, hD, hW⟩ | exact ⟨hqv599.1, hD, hW⟩)⟩
                        · rw [J_X5_readLine_211.eq_1]
                          refine ok_if (fun hc602 => ?_) (fun hc602 => ?_)
                          · exact ok_rZ (Or.inl rfl) ⟨hT, (show ((0 : Int32) = 0 ∨ (0 : Int32) = 1) ∧ RD σ596.1 ∧ WI 2 σ596.1 from by first | exact ⟨Or.inl rfl, hD, hW⟩ | exact ⟨Or.inr rfl, hD, hW⟩ | exact ⟨Or.inl hqv595.1, hD, hW⟩ | exact ⟨hqv595.1, hD, hW⟩)⟩
                          · refine ok_gC rfl ?_
                            refine ok_zbT (Q := fun V σ => (V = 0 ∨ V = 1) ∧ RD σ.1) hT (s_X5_pass hN (hR.tr hT) (by first | exact hX | exact hT.1.2 hX) (hD)) (by decide) (fun v603 σ604 hOσ604 hT hqv603 => ?_)
                            have hqv603 : (v603 = 0 ∨ v603 = 1) ∧ RD σ604.1 := hqv603
                            have hD : RD σ604.1 := by first | exact hqv603.2 | exact hqv603.2.1
                            have hW : WI 2 σ604.1 := WI.tr hOσ604 (by decide) (by decide) (by decide) hW
                            refine ok_if (fun hc605 => ?_) (fun hc605 => ?_)
                            · exact ok_rZ (Or.inl rfl) ⟨hT, (show ((0 : Int32) = 0 ∨ (0 : Int32) = 1) ∧ RD σ604.1 ∧ WI 2 σ604.1 from by first | exact ⟨Or.inl rfl, hD, hW⟩ | exact ⟨Or.inr rfl, hD, hW⟩ | exact ⟨Or.inl hqv603.1, hD, hW⟩ | exact ⟨hqv603.1, hD, hW⟩)⟩
                            · exact ok_rZ (Or.inr rfl) ⟨hT, (show ((1 : Int32) = 0 ∨ (1 : Int32) = 1) ∧ RD σ604.1 ∧ WI 2 σ604.1 from by first | exact ⟨Or.inl rfl, hD, hW⟩ | exact ⟨Or.inr rfl, hD, hW⟩ | exact ⟨Or.inl hqv603.1, hD, hW⟩ | exact ⟨hqv603.1, hD, hW⟩)⟩
                · refine ok_gC rfl ?_
                  refine ok_zbT (Q := fun V σ => V = 0 ∧ RD σ.1) hT (s_X5_fail hN (hR.tr hT) (by first | exact hX | exact hT.1.2 hX) (hD)) (by decide) (fun v606 σ607 hOσ607 hT hqv606 => ?_)
                  have hqv606 : v606 = 0 ∧ RD σ607.1 := hqv606
                  have hD : RD σ607.1 := by first | exact hqv606.2 | exact hqv606.2.1
                  have hW : WI 2 σ607.1 := WI.tr hOσ607 (by decide) (by decide) (by decide) hW
                  exact ok_rZ (by have q := hqv606.1; first | exact q | exact Or.inl q | exact Or.inr q) ⟨hT, (show (v606 = 0 ∨ v606 = 1) ∧ RD σ607.1 ∧ WI 2 σ607.1 from by first | exact ⟨Or.inl rfl, hD, hW⟩ | exact ⟨Or.inr rfl, hD, hW⟩ | exact ⟨Or.inl hqv606.1, hD, hW⟩ | exact ⟨hqv606.1, hD, hW⟩)⟩
              · rw [J_X5_readLine_92.eq_1]
                refine ok_gC rfl ?_
                refine ok_zbT (Q := fun V σ => (V = 0 ∨ V = 1) ∧ RD σ.1) hT (s_X5_pass hN (hR.tr hT) (by first | exact hX | exact hT.1.2 hX) (hD)) (by decide) (fun v608 σ609 hOσ609 hT hqv608 => ?_)
                have hqv608 : (v608 = 0 ∨ v608 = 1) ∧ RD σ609.1 := hqv608
                have hD : RD σ609.1 := by first | exact hqv608.2 | exact hqv608.2.1
                have hW : WI 2 σ609.1 := WI.tr hOσ609 (by decide) (by decide) (by decide) hW
                refine ok_gR (v := 62) hT rfl (hR 57 11 rfl) ?_
                refine ok_gI rfl ?_
                refine ok_aIn rfl (by have q1 := hD.1; have q2 := hD.2.1; have q3 := hD0.1; have q4 := hD0.2.1; first | omega | decide | (simp only [Int32.le_iff_toInt_le, Int32.lt_iff_toInt_lt, ti_add, ti_sub, ti_mul, Int32.reduceToInt] at *; omega) | (exfalso; simp_all; done)) (by have q1 := hD.1; have q2 := hD.2.1; have q3 := hD0.1; have q4 := hD0.2.1; first | omega | decide | (simp only [Int32.le_iff_toInt_le, Int32.lt_iff_toInt_lt, ti_add, ti_sub, ti_mul, Int32.reduceToInt] at *; omega) | (exfalso; simp_all; done)) (fun v612 ev612 => ?_)
                refine ok_if (fun hc613 => ?_) (fun hc613 => ?_)
                · refine ok_gC rfl ?_
                  refine ok_zbT (Q := fun V σ => (V = 0 ∨ V = 1) ∧ RD σ.1 ∧ WI 2 σ.1) hT (s_X5_readNames_2 hN (hR.tr hT) (by first | exact hX | exact hT.1.2 hX) (hD) (hW)) (by decide) (fun v614 σ615 hOσ615 hT hqv614 => ?_)
                  have hqv614 : (v614 = 0 ∨ v614 = 1) ∧ RD σ615.1 ∧ WI 2 σ615.1 := hqv614
                  have hD : RD σ615.1 := by first | exact hqv614.2 | exact hqv614.2.1
                  have hW : WI 2 σ615.1 := by first | exact hqv614.2.2 | exact hqv614
                  rw [J_X5_readLine_211.eq_1]
                  refine ok_if (fun hc616 => ?_) (fun hc616 => ?_)
                  · exact ok_rZ (Or.inl rfl) ⟨hT, (show ((0 : Int32) = 0 ∨ (0 : Int32) = 1) ∧ RD σ615.1 ∧ WI 2 σ615.1 from by first | exact ⟨Or.inl rfl, hD, hW⟩ | exact ⟨Or.inr rfl, hD, hW⟩ | exact ⟨Or.inl hqv614.1, hD, hW⟩ | exact ⟨hqv614.1, hD, hW⟩)⟩
                  · refine ok_gC rfl ?_
                    refine ok_zbT (Q := fun V σ => (V = 0 ∨ V = 1) ∧ RD σ.1) hT (s_X5_pass hN (hR.tr hT) (by first | exact hX | exact hT.1.2 hX) (hD)) (by decide) (fun v617 σ618 hOσ618 hT hqv617 => ?_)
                    have hqv617 : (v617 = 0 ∨ v617 = 1) ∧ RD σ618.1 := hqv617
                    have hD : RD σ618.1 := by first | exact hqv617.2 | exact hqv617.2.1
                    have hW : WI 2 σ618.1 := WI.tr hOσ618 (by decide) (by decide) (by decide) hW
                    refine ok_if (fun hc619 => ?_) (fun hc619 => ?_)
                    · exact ok_rZ (Or.inl rfl) ⟨hT, (show ((0 : Int32) = 0 ∨ (0 : Int32) = 1) ∧ RD σ618.1 ∧ WI 2 σ618.1 from by first | exact ⟨Or.inl rfl, hD, hW⟩ | exact ⟨Or.inr rfl, hD, hW⟩ | exact ⟨Or.inl hqv617.1, hD, hW⟩ | exact ⟨hqv617.1, hD, hW⟩)⟩
                    · exact ok_rZ (Or.inr rfl) ⟨hT, (show ((1 : Int32) = 0 ∨ (1 : Int32) = 1) ∧ RD σ618.1 ∧ WI 2 σ618.1 from by first | exact ⟨Or.inl rfl, hD, hW⟩ | exact ⟨Or.inr rfl, hD, hW⟩ | exact ⟨Or.inl hqv617.1, hD, hW⟩ | exact ⟨hqv617.1, hD, hW⟩)⟩
                refine ok_if (fun hc620 => ?_) (fun hc620 => ?_)
                · refine ok_gC rfl ?_
                  refine ok_zbT (Q := fun V σ => (V = 0 ∨ V = 1) ∧ RD σ.1 ∧ WI 2 σ.1) hT (s_X5_readWeight_2 hN (hR.tr hT) (by first | exact hX | exact hT.1.2 hX) (hD) (hW)) (by decide) (fun v621 σ622 hOσ622 hT hqv621 => ?_)
                  have hqv621 : (v621 = 0 ∨ v621 = 1) ∧ RD σ622.1 ∧ WI 2 σ622.1 := hqv621
                  have hD : RD σ622.1 := by first | exact hqv621.2 | exact hqv621.2.1
                  have hW : WI 2 σ622.1 := WI.tr hOσ622 (by decide) (by decide) (by decide) hW
                  rw [J_X5_readLine_211.eq_1]
                  refine ok_if (fun hc623 => ?_) (fun hc623 => ?_)
                  · exact ok_rZ (Or.inl rfl) ⟨hT, (show ((0 : Int32) = 0 ∨ (0 : Int32) = 1) ∧ RD σ622.1 ∧ WI 2 σ622.1 from by first | exact ⟨Or.inl rfl, hD, hW⟩ | exact ⟨Or.inr rfl, hD, hW⟩ | exact ⟨Or.inl hqv621.1, hD, hW⟩ | exact ⟨hqv621.1, hD, hW⟩)⟩
                  · refine ok_gC rfl ?_
                    refine ok_zbT (Q := fun V σ => (V = 0 ∨ V = 1) ∧ RD σ.1) hT (s_X5_pass hN (hR.tr hT) (by first | exact hX | exact hT.1.2 hX) (hD)) (by decide) (fun v624 σ625 hOσ625 hT hqv624 => ?_)
                    have hqv624 : (v624 = 0 ∨ v624 = 1) ∧ RD σ625.1 := hqv624
                    have hD : RD σ625.1 := by first | exact hqv624.2 | exact hqv624.2.1
                    have hW : WI 2 σ625.1 := WI.tr hOσ625 (by decide) (by decide) (by decide) hW
                    refine ok_if (fun hc626 => ?_) (fun hc626 => ?_)
                    · exact ok_rZ (Or.inl rfl) ⟨hT, (show ((0 : Int32) = 0 ∨ (0 : Int32) = 1) ∧ RD σ625.1 ∧ WI 2 σ625.1 from by first | exact ⟨Or.inl rfl, hD, hW⟩ | exact ⟨Or.inr rfl, hD, hW⟩ | exact ⟨Or.inl hqv624.1, hD, hW⟩ | exact ⟨hqv624.1, hD, hW⟩)⟩
                    · exact ok_rZ (Or.inr rfl) ⟨hT, (show ((1 : Int32) = 0 ∨ (1 : Int32) = 1) ∧ RD σ625.1 ∧ WI 2 σ625.1 from by first | exact ⟨Or.inl rfl, hD, hW⟩ | exact ⟨Or.inr rfl, hD, hW⟩ | exact ⟨Or.inl hqv624.1, hD, hW⟩ | exact ⟨hqv624.1, hD, hW⟩)⟩
                refine ok_if (fun hc627 => ?_) (fun hc627 => ?_)
                · refine ok_gC rfl ?_
                  refine ok_zbT (Q := fun V σ => (V = 0 ∨ V = 1) ∧ RD σ.1 ∧ WI 2 σ.1) hT (s_X5_readEdge_2 hN (hR.tr hT) (by first | exact hX | exact hT.1.2 hX) (hD) (hW)) (by decide) (fun v628 σ629 hOσ629 hT hqv628 => ?_)
                  have hqv628 : (v628 = 0 ∨ v628 = 1) ∧ RD σ629.1 ∧ WI 2 σ629.1 := hqv628
                  have hD : RD σ629.1 := by first | exact hqv628.2 | exact hqv628.2.1
                  have hW : WI 2 σ629.1 := by first | exact hqv628.2.2 | exact hqv628
                  rw [J_X5_readLine_211.eq_1]
                  refine ok_if (fun hc630 => ?_) (fun hc630 => ?_)
                  · exact ok_rZ (Or.inl rfl) ⟨hT, (show ((0 : Int32) = 0 ∨ (0 : Int32) = 1) ∧ RD σ629.1 ∧ WI 2 σ629.1 from by first | exact ⟨Or.inl rfl, hD, hW⟩ | exact ⟨Or.inr rfl, hD, hW⟩ | exact ⟨Or.inl hqv628.1, hD, hW⟩ | exact ⟨hqv628.1, hD, hW⟩)⟩
                  · refine ok_gC rfl ?_
                    refine ok_zbT (Q := fun V σ => (V = 0 ∨ V = 1) ∧ RD σ.1) hT (s_X5_pass hN (hR.tr hT) (by first | exact hX | exact hT.1.2 hX) (hD)) (by decide) (fun v631 σ632 hOσ632 hT hqv631 => ?_)
                    have hqv631 : (v631 = 0 ∨ v631 = 1) ∧ RD σ632.1 := hqv631
                    have hD : RD σ632.1 := by first | exact hqv631.2 | exact hqv631.2.1
                    have hW : WI 2 σ632.1 := WI.tr hOσ632 (by decide) (by decide) (by decide) hW
                    refine ok_if (fun hc633 => ?_) (fun hc633 => ?_)
                    · exact ok_rZ (Or.inl rfl) ⟨hT, (show ((0 : Int32) = 0 ∨ (0 : Int32) = 1) ∧ RD σ632.1 ∧ WI 2 σ632.1 from by first | exact ⟨Or.inl rfl, hD, hW⟩ | exact ⟨Or.inr rfl, hD, hW⟩ | exact ⟨Or.inl hqv631.1, hD, hW⟩ | exact ⟨hqv631.1, hD, hW⟩)⟩
                    · exact ok_rZ (Or.inr rfl) ⟨hT, (show ((1 : Int32) = 0 ∨ (1 : Int32) = 1) ∧ RD σ632.1 ∧ WI 2 σ632.1 from by first | exact ⟨Or.inl rfl, hD, hW⟩ | exact ⟨Or.inr rfl, hD, hW⟩ | exact ⟨Or.inl hqv631.1, hD, hW⟩ | exact ⟨hqv631.1, hD, hW⟩)⟩
                refine ok_gC rfl ?_
                refine ok_zbT (Q := fun V σ => (V = 0 ∨ V = 1) ∧ RD σ.1 ∧ (¬ V = 0 → 1 ≤ (σ.1 57 9).toInt ∧ (0 : Int32).toInt ≤ (lastv σ.1).toInt ∧ (lastv σ.1).toInt ≤ (9 : Int32).toInt)) hT (s_X5_passNumber hN (hR.tr hT) (by first | exact hX | exact hT.1.2 hX) (hD)) (by decide) (fun v634 σ635 hOσ635 hT hqv634 => ?_)
                have hqv634 : (v634 = 0 ∨ v634 = 1) ∧ RD σ635.1 ∧ (¬ v634 = 0 → 1 ≤ (σ635.1 57 9).toInt ∧ (0 : Int32).toInt ≤ (lastv σ635.1).toInt ∧ (lastv σ635.1).toInt ≤ (9 : Int32).toInt) := hqv634
                have hD : RD σ635.1 := by first | exact hqv634.2 | exact hqv634.2.1
                have hW : WI 2 σ635.1 := WI.tr hOσ635 (by decide) (by decide) (by decide) hW
                refine ok_if (fun hc636 => ?_) (fun hc636 => ?_)
                · rw [J_X5_readLine_211.eq_1]
                  refine ok_if (fun hc637 => ?_) (fun hc637 => ?_)
                  · exact ok_rZ (Or.inl rfl) ⟨hT, (show ((0 : Int32) = 0 ∨ (0 : Int32) = 1) ∧ RD σ635.1 ∧ WI 2 σ635.1 from by first | exact ⟨Or.inl rfl, hD, hW⟩ | exact ⟨Or.inr rfl, hD, hW⟩ | exact ⟨Or.inl hqv634.1, hD, hW⟩ | exact ⟨hqv634.1, hD, hW⟩)⟩
                  · refine ok_gC rfl ?_
                    refine ok_zbT (Q := fun V σ => (V = 0 ∨ V = 1) ∧ RD σ.1) hT (s_X5_pass hN (hR.tr hT) (by first | exact hX | exact hT.1.2 hX) (hD)) (by decide) (fun v638 σ639 hOσ639 hT hqv638 => ?_)
                    have hqv638 : (v638 = 0 ∨ v638 = 1) ∧ RD σ639.1 := hqv638
                    have hD : RD σ639.1 := by first | exact hqv638.2 | exact hqv638.2.1
                    have hW : WI 2 σ639.1 := WI.tr hOσ639 (by decide) (by decide) (by decide) hW
                    refine ok_if (fun hc640 => ?_) (fun hc640 => ?_)
                    · exact ok_rZ (Or.inl rfl) ⟨hT, (show ((0 : Int32) = 0 ∨ (0 : Int32) = 1) ∧ RD σ639.1 ∧ WI 2 σ639.1 from by first | exact ⟨Or.inl rfl, hD, hW⟩ | exact ⟨Or.inr rfl, hD, hW⟩ | exact ⟨Or.inl hqv638.1, hD, hW⟩ | exact ⟨hqv638.1, hD, hW⟩)⟩
                    · exact ok_rZ (Or.inr rfl) ⟨hT, (show ((1 : Int32) = 0 ∨ (1 : Int32) = 1) ∧ RD σ639.1 ∧ WI 2 σ639.1 from by first | exact ⟨Or.inl rfl, hD, hW⟩ | exact ⟨Or.inr rfl, hD, hW⟩ | exact ⟨Or.inl hqv638.1, hD, hW⟩ | exact ⟨hqv638.1, hD, hW⟩)⟩
                · refine ok_gC rfl ?_
                  refine ok_zbT (Q := fun V σ => (V = 0 ∨ V = 1) ∧ RD σ.1) hT (s_X5_pass hN (hR.tr hT) (by first | exact hX | exact hT.1.2 hX) (hD)) (by decide) (fun v641 σ642 hOσ642 hT hqv641 => ?_)
                  have hqv641 : (v641 = 0 ∨ v641 = 1) ∧ RD σ642.1 := hqv641
                  have hD : RD σ642.1 := by first | exact hqv641.2 | exact hqv641.2.1
                  have hW : WI 2 σ642.1 := WI.tr hOσ642 (by decide) (by decide) (by decide) hW
                  refine ok_if (fun hc643 => ?_) (fun hc643 => ?_)
                  · rw [J_X5_readLine_211.eq_1]
                    refine ok_if (fun hc644 => ?_) (fun hc644 => ?_)
                    · exact ok_rZ (Or.inl rfl) ⟨hT, (show ((0 : Int32) = 0 ∨ (0 : Int32) = 1) ∧ RD σ642.1 ∧ WI 2 σ642.1 from by first | exact ⟨Or.inl rfl, hD, hW⟩ | exact ⟨Or.inr rfl, hD, hW⟩ | exact ⟨Or.inl hqv641.1, hD, hW⟩ | exact ⟨hqv641.1, hD, hW⟩)⟩
                    · refine ok_gC rfl ?_
                      refine ok_zbT (Q := fun V σ => (V = 0 ∨ V = 1) ∧ RD σ.1) hT (s_X5_pass hN (hR.tr hT) (by first | exact hX | exact hT.1.2 hX) (hD)) (by decide) (fun v645 σ646 hOσ646 hT hqv645 => ?_)
                      have hqv645 : (v645 = 0 ∨ v645 = 1) ∧ RD σ646.1 := hqv645
                      have hD : RD σ646.1 := by first | exact hqv645.2 | exact hqv645.2.1
                      have hW : WI 2 σ646.1 := WI.tr hOσ646 (by decide) (by decide) (by decide) hW
                      refine ok_if (fun hc647 => ?_) (fun hc647 => ?_)
                      · exact ok_rZ (Or.inl rfl) ⟨hT, (show ((0 : Int32) = 0 ∨ (0 : Int32) = 1) ∧ RD σ646.1 ∧ WI 2 σ646.1 from by first | exact ⟨Or.inl rfl, hD, hW⟩ | exact ⟨Or.inr rfl, hD, hW⟩ | exact ⟨Or.inl hqv645.1, hD, hW⟩ | exact ⟨hqv645.1, hD, hW⟩)⟩
                      · exact ok_rZ (Or.inr rfl) ⟨hT, (show ((1 : Int32) = 0 ∨ (1 : Int32) = 1) ∧ RD σ646.1 ∧ WI 2 σ646.1 from by first | exact ⟨Or.inl rfl, hD, hW⟩ | exact ⟨Or.inr rfl, hD, hW⟩ | exact ⟨Or.inl hqv645.1, hD, hW⟩ | exact ⟨hqv645.1, hD, hW⟩)⟩
                  · refine ok_gC rfl ?_
                    refine ok_zbT (Q := fun V σ => (V = 0 ∨ V = 1) ∧ RD σ.1) hT (s_X5_sum hN (hR.tr hT) (by first | exact hX | exact hT.1.2 hX) (hD) (by have q1 := hD.1; have q2 := hD.2.1; have q3 := hD0.1; have q4 := hD0.2.1; first | omega | decide | (simp only [Int32.le_iff_toInt_le, Int32.lt_iff_toInt_lt, ti_add, ti_sub, ti_mul, Int32.reduceToInt] at *; omega) | (exfalso; simp_all; done)) (by have q1 := hD.1; have q2 := hD.2.1; have q3 := hD0.1; have q4 := hD0.2.1; first | omega | decide | (simp only [Int32.le_iff_toInt_le, Int32.lt_iff_toInt_lt, ti_add, ti_sub, ti_mul, Int32.reduceToInt] at *; omega) | (exfalso; simp_all; done))) (by decide) (fun v648 σ649 hOσ649 hT hqv648 => ?_)
                    have hqv648 : (v648 = 0 ∨ v648 = 1) ∧ RD σ649.1 := hqv648
                    have hD : RD σ649.1 := by first | exact hqv648.2 | exact hqv648.2.1
                    have hW : WI 2 σ649.1 := WI.tr hOσ649 (by decide) (by decide) (by decide) hW
                    refine ok_if (fun hc650 => ?_) (fun hc650 => ?_)
                    · rw [J_X5_readLine_211.eq_1]
                      refine ok_if (fun hc651 => ?_) (fun hc651 => ?_)
                      · exact ok_rZ (Or.inl rfl) ⟨hT, (show ((0 : Int32) = 0 ∨ (0 : Int32) = 1) ∧ RD σ649.1 ∧ WI 2 σ649.1 from by first | exact ⟨Or.inl rfl, hD, hW⟩ | exact ⟨Or.inr rfl, hD, hW⟩ | exact ⟨Or.inl hqv648.1, hD, hW⟩ | exact ⟨hqv648.1, hD, hW⟩)⟩
                      · refine ok_gC rfl ?_
                        refine ok_zbT (Q := fun V σ => (V = 0 ∨ V = 1) ∧ RD σ.1) hT (s_X5_pass hN (hR.tr hT) (by first | exact hX | exact hT.1.2 hX) (hD)) (by decide) (fun v652 σ653 hOσ653 hT hqv652 => ?_)
                        have hqv652 : (v652 = 0 ∨ v652 = 1) ∧ RD σ653.1 := hqv652
                        have hD : RD σ653.1 := by first | exact hqv652.2 | exact hqv652.2.1
                        have hW : WI 2 σ653.1 := WI.tr hOσ653 (by decide) (by decide) (by decide) hW
                        refine ok_if (fun hc654 => ?_) (fun hc654 => ?_)
                        · exact ok_rZ (Or.inl rfl) ⟨hT, (show ((0 : Int32) = 0 ∨ (0 : Int32) = 1) ∧ RD σ653.1 ∧ WI 2 σ653.1 from by first | exact ⟨Or.inl rfl, hD, hW⟩ | exact ⟨Or.inr rfl, hD, hW⟩ | exact ⟨Or.inl hqv652.1, hD, hW⟩ | exact ⟨hqv652.1, hD, hW⟩)⟩
                        · exact ok_rZ (Or.inr rfl) ⟨hT, (show ((1 : Int32) = 0 ∨ (1 : Int32) = 1) ∧ RD σ653.1 ∧ WI 2 σ653.1 from by first | exact ⟨Or.inl rfl, hD, hW⟩ | exact ⟨Or.inr rfl, hD, hW⟩ | exact ⟨Or.inl hqv652.1, hD, hW⟩ | exact ⟨hqv652.1, hD, hW⟩)⟩
                    · refine ok_gC rfl ?_
                      refine ok_zbT (Q := fun V σ => V = 1 ∧ RD σ.1) hT (s_X5_emit hN (hR.tr hT) (by first | exact hX | exact hT.1.2 hX) (hD)) (by decide) (fun v655 σ656 hOσ656 hT hqv655 => ?_)
                      have hqv655 : v655 = 1 ∧ RD σ656.1 := hqv655
                      have hD : RD σ656.1 := by first | exact hqv655.2 | exact hqv655.2.1
                      have hW : WI 2 σ656.1 := WI.tr hOσ656 (by decide) (by decide) (by decide) hW
                      refine ok_if (fun hc657 => ?_) (fun hc657 => ?_)
                      · rw [J_X5_readLine_211.eq_1]
                        refine ok_if (fun hc658 => ?_) (fun hc658 => ?_)
                        · exact ok_rZ (Or.inl rfl) ⟨hT, (show ((0 : Int32) = 0 ∨ (0 : Int32) = 1) ∧ RD σ656.1 ∧ WI 2 σ656.1 from by first | exact ⟨Or.inl rfl, hD, hW⟩ | exact ⟨Or.inr rfl, hD, hW⟩ | exact ⟨Or.inl hqv655.1, hD, hW⟩ | exact ⟨hqv655.1, hD, hW⟩)⟩
                        · refine ok_gC rfl ?_
                          refine ok_zbT (Q := fun V σ => (V = 0 ∨ V = 1) ∧ RD σ.1) hT (s_X5_pass hN (hR.tr hT) (by first | exact hX | exact hT.1.2 hX) (hD)) (by decide) (fun v659 σ660 hOσ660 hT hqv659 => ?_)
                          have hqv659 : (v659 = 0 ∨ v659 = 1) ∧ RD σ660.1 := hqv659
                          have hD : RD σ660.1 := by first | exact hqv659.2 | exact hqv659.2.1
                          have hW : WI 2 σ660.1 := WI.tr hOσ660 (by decide) (by decide) (by decide) hW
                          refine ok_if (fun hc661 => ?_) (fun hc661 => ?_)
                          · exact ok_rZ (Or.inl rfl) ⟨hT, (show ((0 : Int32) = 0 ∨ (0 : Int32) = 1) ∧ RD σ660.1 ∧ WI 2 σ660.1 from by first | exact ⟨Or.inl rfl, hD, hW⟩ | exact ⟨Or.inr rfl, hD, hW⟩ | exact ⟨Or.inl hqv659.1, hD, hW⟩ | exact ⟨hqv659.1, hD, hW⟩)⟩
                          · exact ok_rZ (Or.inr rfl) ⟨hT, (show ((1 : Int32) = 0 ∨ (1 : Int32) = 1) ∧ RD σ660.1 ∧ WI 2 σ660.1 from by first | exact ⟨Or.inl rfl, hD, hW⟩ | exact ⟨Or.inr rfl, hD, hW⟩ | exact ⟨Or.inl hqv659.1, hD, hW⟩ | exact ⟨hqv659.1, hD, hW⟩)⟩
                      · rw [J_X5_readLine_211.eq_1]
                        refine ok_if (fun hc662 => ?_) (fun hc662 => ?_)
                        · exact ok_rZ (Or.inl rfl) ⟨hT, (show ((0 : Int32) = 0 ∨ (0 : Int32) = 1) ∧ RD σ656.1 ∧ WI 2 σ656.1 from by first | exact ⟨Or.inl rfl, hD, hW⟩ | exact ⟨Or.inr rfl, hD, hW⟩ | exact ⟨Or.inl hqv655.1, hD, hW⟩ | exact ⟨hqv655.1, hD, hW⟩)⟩
                        · refine ok_gC rfl ?_
                          refine ok_zbT (Q := fun V σ => (V = 0 ∨ V = 1) ∧ RD σ.1) hT (s_X5_pass hN (hR.tr hT) (by first | exact hX | exact hT.1.2 hX) (hD)) (by decide) (fun v663 σ664 hOσ664 hT hqv663 => ?_)
                          have hqv663 : (v663 = 0 ∨ v663 = 1) ∧ RD σ664.1 := hqv663
                          have hD : RD σ664.1 := by first | exact hqv663.2 | exact hqv663.2.1
                          have hW : WI 2 σ664.1 := WI.tr hOσ664 (by decide) (by decide) (by decide) hW
                          refine ok_if (fun hc665 => ?_) (fun hc665 => ?_)
                          · exact ok_rZ (Or.inl rfl) ⟨hT, (show ((0 : Int32) = 0 ∨ (0 : Int32) = 1) ∧ RD σ664.1 ∧ WI 2 σ664.1 from by first | exact ⟨Or.inl rfl, hD, hW⟩ | exact ⟨Or.inr rfl, hD, hW⟩ | exact ⟨Or.inl hqv663.1, hD, hW⟩ | exact ⟨hqv663.1, hD, hW⟩)⟩
                          · exact ok_rZ (Or.inr rfl) ⟨hT, (show ((1 : Int32) = 0 ∨ (1 : Int32) = 1) ∧ RD σ664.1 ∧ WI 2 σ664.1 from by first | exact ⟨Or.inl rfl, hD, hW⟩ | exact ⟨Or.inr rfl, hD, hW⟩ | exact ⟨Or.inl hqv663.1, hD, hW⟩ | exact ⟨hqv663.1, hD, hW⟩)⟩
            · refine ok_gC rfl ?_
              refine ok_zbT (Q := fun V σ => V = 0 ∧ RD σ.1) hT (s_X5_fail hN (hR.tr hT) (by first | exact hX | exact hT.1.2 hX) (hD)) (by decide) (fun v666 σ667 hOσ667 hT hqv666 => ?_)
              have hqv666 : v666 = 0 ∧ RD σ667.1 := hqv666
              have hD : RD σ667.1 := by first | exact hqv666.2 | exact hqv666.2.1
              have hW : WI 2 σ667.1 := WI.tr hOσ667 (by decide) (by decide) (by decide) hW
              exact ok_rZ (by have q := hqv666.1; first | exact q | exact Or.inl q | exact Or.inr q) ⟨hT, (show (v666 = 0 ∨ v666 = 1) ∧ RD σ667.1 ∧ WI 2 σ667.1 from by first | exact ⟨Or.inl rfl, hD, hW⟩ | exact ⟨Or.inr rfl, hD, hW⟩ | exact ⟨Or.inl hqv666.1, hD, hW⟩ | exact ⟨hqv666.1, hD, hW⟩)⟩
        · refine ok_gC rfl ?_
          refine ok_zbT (Q := fun V σ => V = 0 ∧ RD σ.1) hT (s_X5_fail hN (hR.tr hT) (by first | exact hX | exact hT.1.2 hX) (hD)) (by decide) (fun v668 σ669 hOσ669 hT hqv668 => ?_)
          have hqv668 : v668 = 0 ∧ RD σ669.1 := hqv668
          have hD : RD σ669.1 := by first | exact hqv668.2 | exact hqv668.2.1
          have hW : WI 2 σ669.1 := WI.tr hOσ669 (by decide) (by decide) (by decide) hW
          exact ok_rZ (by have q := hqv668.1; first | exact q | exact Or.inl q | exact Or.inr q) ⟨hT, (show (v668 = 0 ∨ v668 = 1) ∧ RD σ669.1 ∧ WI 2 σ669.1 from by first | exact ⟨Or.inl rfl, hD, hW⟩ | exact ⟨Or.inr rfl, hD, hW⟩ | exact ⟨Or.inl hqv668.1, hD, hW⟩ | exact ⟨hqv668.1, hD, hW⟩)⟩
      · rw [J_X5_readLine_51.eq_1]
        refine ok_if (fun hc670 => ?_) (fun hc670 => ?_)
        · refine ok_if (fun hc671 => ?_) (fun hc671 => ?_)
          · refine ok_gC rfl ?_
            refine ok_zbT (Q := fun V σ => V = 0 ∧ RD σ.1) hT (s_X5_fail hN (hR.tr hT) (by first | exact hX | exact hT.1.2 hX) (hD)) (by decide) (fun v672 σ673 hOσ673 hT hqv672 => ?_)
            have hqv672 : v672 = 0 ∧ RD σ673.1 := hqv672
            have hD : RD σ673.1 := by first | exact hqv672.2 | exact hqv672.2.1
            have hW : WI 2 σ673.1 := WI.tr hOσ673 (by decide) (by decide) (by decide) hW
            exact ok_rZ (by have q := hqv672.1; first | exact q | exact Or.inl q | exact Or.inr q) ⟨hT, (show (v672 = 0 ∨ v672 = 1) ∧ RD σ673.1 ∧ WI 2 σ673.1 from by first | exact ⟨Or.inl rfl, hD, hW⟩ | exact ⟨Or.inr rfl, hD, hW⟩ | exact ⟨Or.inl hqv672.1, hD, hW⟩ | exact ⟨hqv672.1, hD, hW⟩)⟩
          · refine ok_if (fun hc674 => ?_) (fun hc674 => ?_)
            · refine ok_if (fun hc675 => ?_) (fun hc675 => ?_)
              · refine ok_gI rfl ?_
                refine ok_gI rfl ?_
                refine ok_if (fun hc678 => ?_) (fun hc678 => ?_)
                · rw [J_X5_readLine_92.eq_1]
                  refine ok_gC rfl ?_
                  refine ok_zbT (Q := fun V σ => (V = 0 ∨ V = 1) ∧ RD σ.1) hT (s_X5_pass hN (hR.tr hT) (by first | exact hX | exact hT.1.2 hX) (hD)) (by decide) (fun v679 σ680 hOσ680 hT hqv679 => ?_)
                  have hqv679 : (v679 = 0 ∨ v679 = 1) ∧ RD σ680.1 := hqv679
                  have hD : RD σ680.1 := by first | exact hqv679.2 | exact hqv679.2.1
                  have hW : WI 2 σ680.1 := WI.tr hOσ680 (by decide) (by decide) (by decide) hW
                  refine ok_gR (v := 62) hT rfl (hR 57 11 rfl) ?_
                  refine ok_gI rfl ?_
                  refine ok_aIn rfl (by have q1 := hD.1; have q2 := hD.2.1; have q3 := hD0.1; have q4 := hD0.2.1; first | omega | decide | (simp only [Int32.le_iff_toInt_le, Int32.lt_iff_toInt_lt, ti_add, ti_sub, ti_mul, Int32.reduceToInt] at *; omega) | (exfalso; simp_all; done)) (by have q1 := hD.1; have q2 := hD.2.1; have q3 := hD0.1; have q4 := hD0.2.1; first | omega | decide | (simp only [Int32.le_iff_toInt_le, Int32.lt_iff_toInt_lt, ti_add, ti_sub, ti_mul, Int32.reduceToInt] at *; omega) | (exfalso; simp_all; done)) (fun v683 ev683 => ?_)
                  refine ok_if (fun hc684 => ?_) (fun hc684 => ?_)
                  · refine ok_gC rfl ?_
                    refine ok_zbT (Q := fun V σ => (V = 0 ∨ V = 1) ∧ RD σ.1 ∧ WI 2 σ.1) hT (s_X5_readNames_2 hN (hR.tr hT) (by first | exact hX | exact hT.1.2 hX) (hD) (hW)) (by decide) (fun v685 σ686 hOσ686 hT hqv685 => ?_)
                    have hqv685 : (v685 = 0 ∨ v685 = 1) ∧ RD σ686.1 ∧ WI 2 σ686.1 := hqv685
                    have hD : RD σ686.1 := by first | exact hqv685.2 | exact hqv685.2.1
                    have hW : WI 2 σ686.1 := by first | exact hqv685.2.2 | exact hqv685
                    rw [J_X5_readLine_211.eq_1]
                    refine ok_if (fun hc687 => ?_) (fun hc687 => ?_)
                    · exact ok_rZ (Or.inl rfl) ⟨hT, (show ((0 : Int32) = 0 ∨ (0 : Int32) = 1) ∧ RD σ686.1 ∧ WI 2 σ686.1 from by first | exact ⟨Or.inl rfl, hD, hW⟩ | exact ⟨Or.inr rfl, hD, hW⟩ | exact ⟨Or.inl hqv685.1, hD, hW⟩ | exact ⟨hqv685.1, hD, hW⟩)⟩
                    · refine ok_gC rfl ?_
                      refine ok_zbT (Q := fun V σ => (V = 0 ∨ V = 1) ∧ RD σ.1) hT (s_X5_pass hN (hR.tr hT) (by first | exact hX | exact hT.1.2 hX) (hD)) (by decide) (fun v688 σ689 hOσ689 hT hqv688 => ?_)
                      have hqv688 : (v688 = 0 ∨ v688 = 1) ∧ RD σ689.1 := hqv688
                      have hD : RD σ689.1 := by first | exact hqv688.2 | exact hqv688.2.1
                      have hW : WI 2 σ689.1 := WI.tr hOσ689 (by decide) (by decide) (by decide) hW
                      refine ok_if (fun hc690 => ?_) (fun hc690 => ?_)
                      · exact ok_rZ (Or.inl rfl) ⟨hT, (show ((0 : Int32) = 0 ∨ (0 : Int32) = 1) ∧ RD σ689.1 ∧ WI 2 σ689.1 from by first | exact ⟨Or.inl rfl, hD, hW⟩ | exact ⟨Or.inr rfl, hD, hW⟩ | exact ⟨Or.inl hqv688.1, hD, hW⟩ | exact ⟨hqv688.1, hD, hW⟩)⟩
                      · exact ok_rZ (Or.inr rfl) ⟨hT, (show ((1 : Int32) = 0 ∨ (1 : Int32) = 1) ∧ RD σ689.1 ∧ WI 2 σ689.1 from by first | exact ⟨Or.inl rfl, hD, hW⟩ | exact ⟨Or.inr rfl, hD, hW⟩ | exact ⟨Or.inl hqv688.1, hD, hW⟩ | exact ⟨hqv688.1, hD, hW⟩)⟩
                  refine ok_if (fun hc691 => ?_) (fun hc691 => ?_)
                  · refine ok_gC rfl ?_
                    refine ok_zbT (Q := fun V σ => (V = 0 ∨ V = 1) ∧ RD σ.1 ∧ WI 2 σ.1) hT (s_X5_readWeight_2 hN (hR.tr hT) (by first | exact hX | exact hT.1.2 hX) (hD) (hW)) (by decide) (fun v692 σ693 hOσ693 hT hqv692 => ?_)
                    have hqv692 : (v692 = 0 ∨ v692 = 1) ∧ RD σ693.1 ∧ WI 2 σ693.1 := hqv692
                    have hD : RD σ693.1 := by first | exact hqv692.2 | exact hqv692.2.1
                    have hW : WI 2 σ693.1 := WI.tr hOσ693 (by decide) (by decide) (by decide) hW
                    rw [J_X5_readLine_211.eq_1]
                    refine ok_if (fun hc694 => ?_) (fun hc694 => ?_)
                    · exact ok_rZ (Or.inl rfl) ⟨hT, (show ((0 : Int32) = 0 ∨ (0 : Int32) = 1) ∧ RD σ693.1 ∧ WI 2 σ693.1 from by first | exact ⟨Or.inl rfl, hD, hW⟩ | exact ⟨Or.inr rfl, hD, hW⟩ | exact ⟨Or.inl hqv692.1, hD, hW⟩ | exact ⟨hqv692.1, hD, hW⟩)⟩
                    · refine ok_gC rfl ?_
                      refine ok_zbT (Q := fun V σ => (V = 0 ∨ V = 1) ∧ RD σ.1) hT (s_X5_pass hN (hR.tr hT) (by first | exact hX | exact hT.1.2 hX) (hD)) (by decide) (fun v695 σ696 hOσ696 hT hqv695 => ?_)
                      have hqv695 : (v695 = 0 ∨ v695 = 1) ∧ RD σ696.1 := hqv695
                      have hD : RD σ696.1 := by first | exact hqv695.2 | exact hqv695.2.1
                      have hW : WI 2 σ696.1 := WI.tr hOσ696 (by decide) (by decide) (by decide) hW
                      refine ok_if (fun hc697 => ?_) (fun hc697 => ?_)
                      · exact ok_rZ (Or.inl rfl) ⟨hT, (show ((0 : Int32) = 0 ∨ (0 : Int32) = 1) ∧ RD σ696.1 ∧ WI 2 σ696.1 from by first | exact ⟨Or.inl rfl, hD, hW⟩ | exact ⟨Or.inr rfl, hD, hW⟩ | exact ⟨Or.inl hqv695.1, hD, hW⟩ | exact ⟨hqv695.1, hD, hW⟩)⟩
                      · exact ok_rZ (Or.inr rfl) ⟨hT, (show ((1 : Int32) = 0 ∨ (1 : Int32) = 1) ∧ RD σ696.1 ∧ WI 2 σ696.1 from by first | exact ⟨Or.inl rfl, hD, hW⟩ | exact ⟨Or.inr rfl, hD, hW⟩ | exact ⟨Or.inl hqv695.1, hD, hW⟩ | exact ⟨hqv695.1, hD, hW⟩)⟩
                  refine ok_if (fun hc698 => ?_) (fun hc698 => ?_)
                  · refine ok_gC rfl ?_
                    refine ok_zbT (Q := fun V σ => (V = 0 ∨ V = 1) ∧ RD σ.1 ∧ WI 2 σ.1) hT (s_X5_readEdge_2 hN (hR.tr hT) (by first | exact hX | exact hT.1.2 hX) (hD) (hW)) (by decide) (fun v699 σ700 hOσ700 hT hqv699 => ?_)
                    have hqv699 : (v699 = 0 ∨ v699 = 1) ∧ RD σ700.1 ∧ WI 2 σ700.1 := hqv699
                    have hD : RD σ700.1 := by first | exact hqv699.2 | exact hqv699.2.1
                    have hW : WI 2 σ700.1 := by first | exact hqv699.2.2 | exact hqv699
                    rw [J_X5_readLine_211.eq_1]
                    refine ok_if (fun hc701 => ?_) (fun hc701 => ?_)
                    · exact ok_rZ (Or.inl rfl) ⟨hT, (show ((0 : Int32) = 0 ∨ (0 : Int32) = 1) ∧ RD σ700.1 ∧ WI 2 σ700.1 from by first | exact ⟨Or.inl rfl, hD, hW⟩ | exact ⟨Or.inr rfl, hD, hW⟩ | exact ⟨Or.inl hqv699.1, hD, hW⟩ | exact ⟨hqv699.1, hD, hW⟩)⟩
                    · refine ok_gC rfl ?_
                      refine ok_zbT (Q := fun V σ => (V = 0 ∨ V = 1) ∧ RD σ.1) hT (s_X5_pass hN (hR.tr hT) (by first | exact hX | exact hT.1.2 hX) (hD)) (by decide) (fun v702 σ703 hOσ703 hT hqv702 => ?_)
                      have hqv702 : (v702 = 0 ∨ v702 = 1) ∧ RD σ703.1 := hqv702
                      have hD : RD σ703.1 := by first | exact hqv702.2 | exact hqv702.2.1
                      have hW : WI 2 σ703.1 := WI.tr hOσ703 (by decide) (by decide) (by decide) hW
                      refine ok_if (fun hc704 => ?_) (fun hc704 => ?_)
                      · exact ok_rZ (Or.inl rfl) ⟨hT, (show ((0 : Int32) = 0 ∨ (0 : Int32) = 1) ∧ RD σ703.1 ∧ WI 2 σ703.1 from by first | exact ⟨Or.inl rfl, hD, hW⟩ | exact ⟨Or.inr rfl, hD, hW⟩ | exact ⟨Or.inl hqv702.1, hD, hW⟩ | exact ⟨hqv702.1, hD, hW⟩)⟩
                      · exact ok_rZ (Or.inr rfl) ⟨hT, (show ((1 : Int32) = 0 ∨ (1 : Int32) = 1) ∧ RD σ703.1 ∧ WI 2 σ703.1 from by first | exact ⟨Or.inl rfl, hD, hW⟩ | exact ⟨Or.inr rfl, hD, hW⟩ | exact ⟨Or.inl hqv702.1, hD, hW⟩ | exact ⟨hqv702.1, hD, hW⟩)⟩
                  refine ok_gC rfl ?_
                  refine ok_zbT (Q := fun V σ => (V = 0 ∨ V = 1) ∧ RD σ.1 ∧ (¬ V = 0 → 1 ≤ (σ.1 57 9).toInt ∧ (0 : Int32).toInt ≤ (lastv σ.1).toInt ∧ (lastv σ.1).toInt ≤ (9 : Int32).toInt)) hT (s_X5_passNumber hN (hR.tr hT) (by first | exact hX | exact hT.1.2 hX) (hD)) (by decide) (fun v705 σ706 hOσ706 hT hqv705 => ?_)
                  have hqv705 : (v705 = 0 ∨ v705 = 1) ∧ RD σ706.1 ∧ (¬ v705 = 0 → 1 ≤ (σ706.1 57 9).toInt ∧ (0 : Int32).toInt ≤ (lastv σ706.1).toInt ∧ (lastv σ706.1).toInt ≤ (9 : Int32).toInt) := hqv705
                  have hD : RD σ706.1 := by first | exact hqv705.2 | exact hqv705.2.1
                  have hW : WI 2 σ706.1 := WI.tr hOσ706 (by decide) (by decide) (by decide) hW
                  refine ok_if (fun hc707 => ?_) (fun hc707 => ?_)
                  · rw [J_X5_readLine_211.eq_1]
                    refine ok_if (fun hc708 => ?_) (fun hc708 => ?_)
                    · exact ok_rZ (Or.inl rfl) ⟨hT, (show ((0 : Int32) = 0 ∨ (0 : Int32) = 1) ∧ RD σ706.1 ∧ WI 2 σ706.1 from by first | exact ⟨Or.inl rfl, hD, hW⟩ | exact ⟨Or.inr rfl, hD, hW⟩ | exact ⟨Or.inl hqv705.1, hD, hW⟩ | exact ⟨hqv705.1, hD, hW⟩)⟩
                    · refine ok_gC rfl ?_
                      refine ok_zbT (Q := fun V σ => (V = 0 ∨ V = 1) ∧ RD σ.1) hT (s_X5_pass hN (hR.tr hT) (by first | exact hX | exact hT.1.2 hX) (hD)) (by decide) (fun v709 σ710 hOσ710 hT hqv709 => ?_)
                      have hqv709 : (v709 = 0 ∨ v709 = 1) ∧ RD σ710.1 := hqv709
                      have hD : RD σ710.1 := by first | exact hqv709.2 | exact hqv709.2.1
                      have hW : WI 2 σ710.1 := WI.tr hOσ710 (by decide) (by decide) (by decide) hW
                      refine ok_if (fun hc711 => ?_) (fun hc711 => ?_)
                      · exact ok_rZ (Or.inl rfl) ⟨hT, (show ((0 : Int32) = 0 ∨ (0 : Int32) = 1) ∧ RD σ710.1 ∧ WI 2 σ710.1 from by first | exact ⟨Or.inl rfl, hD, hW⟩ | exact ⟨Or.inr rfl, hD, hW⟩ | exact ⟨Or.inl hqv709.1, hD, hW⟩ | exact ⟨hqv709.1, hD, hW⟩)⟩
                      · exact ok_rZ (Or.inr rfl) ⟨hT, (show ((1 : Int32) = 0 ∨ (1 : Int32) = 1) ∧ RD σ710.1 ∧ WI 2 σ710.1 from by first | exact ⟨Or.inl rfl, hD, hW⟩ | exact ⟨Or.inr rfl, hD, hW⟩ | exact ⟨Or.inl hqv709.1, hD, hW⟩ | exact ⟨hqv709.1, hD, hW⟩)⟩
                  · refine ok_gC rfl ?_
                    refine ok_zbT (Q := fun V σ => (V = 0 ∨ V = 1) ∧ RD σ.1) hT (s_X5_pass hN (hR.tr hT) (by first | exact hX | exact hT.1.2 hX) (hD)) (by decide) (fun v712 σ713 hOσ713 hT hqv712 => ?_)
                    have hqv712 : (v712 = 0 ∨ v712 = 1) ∧ RD σ713.1 := hqv712
                    have hD : RD σ713.1 := by first | exact hqv712.2 | exact hqv712.2.1
                    have hW : WI 2 σ713.1 := WI.tr hOσ713 (by decide) (by decide) (by decide) hW
                    refine ok_if (fun hc714 => ?_) (fun hc714 => ?_)
                    · rw [J_X5_readLine_211.eq_1]
                      refine ok_if (fun hc715 => ?_) (fun hc715 => ?_)
                      · exact ok_rZ (Or.inl rfl) ⟨hT, (show ((0 : Int32) = 0 ∨ (0 : Int32) = 1) ∧ RD σ713.1 ∧ WI 2 σ713.1 from by first | exact ⟨Or.inl rfl, hD, hW⟩ | exact ⟨Or.inr rfl, hD, hW⟩ | exact ⟨Or.inl hqv712.1, hD, hW⟩ | exact ⟨hqv712.1, hD, hW⟩)⟩
                      · refine ok_gC rfl ?_
                        refine ok_zbT (Q := fun V σ => (V = 0 ∨ V = 1) ∧ RD σ.1) hT (s_X5_pass hN (hR.tr hT) (by first | exact hX | exact hT.1.2 hX) (hD)) (by decide) (fun v716 σ717 hOσ717 hT hqv716 => ?_)
                        have hqv716 : (v716 = 0 ∨ v716 = 1) ∧ RD σ717.1 := hqv716
                        have hD : RD σ717.1 := by first | exact hqv716.2 | exact hqv716.2.1
                        have hW : WI 2 σ717.1 := WI.tr hOσ717 (by decide) (by decide) (by decide) hW
                        refine ok_if (fun hc718 => ?_) (fun hc718 => ?_)
                        · exact ok_rZ (Or.inl rfl) ⟨hT, (show ((0 : Int32) = 0 ∨ (0 : Int32) = 1) ∧ RD σ717.1 ∧ WI 2 σ717.1 from by first | exact ⟨Or.inl rfl, hD, hW⟩ | exact ⟨Or.inr rfl, hD, hW⟩ | exact ⟨Or.inl hqv716.1, hD, hW⟩ | exact ⟨hqv716.1, hD, hW⟩)⟩
                        · exact ok_rZ (Or.inr rfl) ⟨hT, (show ((1 : Int32) = 0 ∨ (1 : Int32) = 1) ∧ RD σ717.1 ∧ WI 2 σ717.1 from by first | exact ⟨Or.inl rfl, hD, hW⟩ | exact ⟨Or.inr rfl, hD, hW⟩ | exact ⟨Or.inl hqv716.1, hD, hW⟩ | exact ⟨hqv716.1, hD, hW⟩)⟩
                    · refine ok_gC rfl ?_
                      refine ok_zbT (Q := fun V σ => (V = 0 ∨ V = 1) ∧ RD σ.1) hT (s_X5_sum hN (hR.tr hT) (by first | exact hX | exact hT.1.2 hX) (hD) (by have q1 := hD.1; have q2 := hD.2.1; have q3 := hD0.1; have q4 := hD0.2.1; first | omega | decide | (simp only [Int32.le_iff_toInt_le, Int32.lt_iff_toInt_lt, ti_add, ti_sub, ti_mul, Int32.reduceToInt] at *; omega) | (exfalso; simp_all; done)) (by have q1 := hD.1; have q2 := hD.2.1; have q3 := hD0.1; have q4 := hD0.2.1; first | omega | decide | (simp only [Int32.le_iff_toInt_le, Int32.lt_iff_toInt_lt, ti_add, ti_sub, ti_mul, Int32.reduceToInt] at *; omega) | (exfalso; simp_all; done))) (by decide) (fun v719 σ720 hOσ720 hT hqv719 => ?_)
                      have hqv719 : (v719 = 0 ∨ v719 = 1) ∧ RD σ720.1 := hqv719
                      have hD : RD σ720.1 := by first | exact hqv719.2 | exact hqv719.2.1
                      have hW : WI 2 σ720.1 := WI.tr hOσ720 (by decide) (by decide) (by decide) hW
                      refine ok_if (fun hc721 => ?_) (fun hc721 => ?_)
                      · rw [J_X5_readLine_211.eq_1]
                        refine ok_if (fun hc722 => ?_) (fun hc722 => ?_)
                        · exact ok_rZ (Or.inl rfl) ⟨hT, (show ((0 : Int32) = 0 ∨ (0 : Int32) = 1) ∧ RD σ720.1 ∧ WI 2 σ720.1 from by first | exact ⟨Or.inl rfl, hD, hW⟩ | exact ⟨Or.inr rfl, hD, hW⟩ | exact ⟨Or.inl hqv719.1, hD, hW⟩ | exact ⟨hqv719.1, hD, hW⟩)⟩
                        · refine ok_gC rfl ?_
                          refine ok_zbT (Q := fun V σ => (V = 0 ∨ V = 1) ∧ RD σ.1) hT (s_X5_pass hN (hR.tr hT) (by first | exact hX | exact hT.1.2 hX) (hD)) (by decide) (fun v723 σ724 hOσ724 hT hqv723 => ?_)
                          have hqv723 : (v723 = 0 ∨ v723 = 1) ∧ RD σ724.1 := hqv723
                          have hD : RD σ724.1 := by first | exact hqv723.2 | exact hqv723.2.1
                          have hW : WI 2 σ724.1 := WI.tr hOσ724 (by decide) (by decide) (by decide) hW
                          refine ok_if (fun hc725 => ?_) (fun hc725 => ?_)
                          · exact ok_rZ (Or.inl rfl) ⟨hT, (show ((0 : Int32) = 0 ∨ (0 : Int32) = 1) ∧ RD σ724.1 ∧ WI 2 σ724.1 from by first | exact ⟨Or.inl rfl, hD, hW⟩ | exact ⟨Or.inr rfl, hD, hW⟩ | exact ⟨Or.inl hqv723.1, hD, hW⟩ | exact ⟨hqv723.1, hD, hW⟩)⟩
                          · exact ok_rZ (Or.inr rfl) ⟨hT, (show ((1 : Int32) = 0 ∨ (1 : Int32) = 1) ∧ RD σ724.1 ∧ WI 2 σ724.1 from by first | exact ⟨Or.inl rfl, hD, hW⟩ | exact ⟨Or.inr rfl, hD, hW⟩ | exact ⟨Or.inl hqv723.1, hD, hW⟩ | exact ⟨hqv723.1, hD, hW⟩)⟩
                      · refine ok_gC rfl ?_
                        refine ok_zbT (Q := fun V σ => V = 1 ∧ RD σ.1) hT (s_X5_emit hN (hR.tr hT) (by first | exact hX | exact hT.1.2 hX) (hD)) (by decide) (fun v726 σ727 hOσ727 hT hqv726 => ?_)
                        have hqv726 : v726 = 1 ∧ RD σ727.1 := hqv726
                        have hD : RD σ727.1 := by first | exact hqv726.2 | exact hqv726.2.1
                        have hW : WI 2 σ727.1 := WI.tr hOσ727 (by decide) (by decide) (by decide) hW
                        refine ok_if (fun hc728 => ?_) (fun hc728 => ?_)
                        · rw [J_X5_readLine_211.eq_1]
                          refine ok_if (fun hc729 => ?_) (fun hc729 => ?_)
                          · exact ok_rZ (Or.inl rfl) ⟨hT, (show ((0 : Int32) = 0 ∨ (0 : Int32) = 1) ∧ RD σ727.1 ∧ WI 2 σ727.1 from by first | exact ⟨Or.inl rfl, hD, hW⟩ | exact ⟨Or.inr rfl, hD, hW⟩ | exact ⟨Or.inl hqv726.1, hD, hW⟩ | exact ⟨hqv726.1, hD, hW⟩)⟩
                          · refine ok_gC rfl ?_
                            refine ok_zbT (Q := fun V σ => (V = 0 ∨ V = 1) ∧ RD σ.1) hT (s_X5_pass hN (hR.tr hT) (by first | exact hX | exact hT.1.2 hX) (hD)) (by decide) (fun v730 σ731 hOσ731 hT hqv730 => ?_)
                            have hqv730 : (v730 = 0 ∨ v730 = 1) ∧ RD σ731.1 := hqv730
                            have hD : RD σ731.1 := by first | exact hqv730.2 | exact hqv730.2.1
                            have hW : WI 2 σ731.1 := WI.tr hOσ731 (by decide) (by decide) (by decide) hW
                            refine ok_if (fun hc732 => ?_) (fun hc732 => ?_)
                            · exact ok_rZ (Or.inl rfl) ⟨hT, (show ((0 : Int32) = 0 ∨ (0 : Int32) = 1) ∧ RD σ731.1 ∧ WI 2 σ731.1 from by first | exact ⟨Or.inl rfl, hD, hW⟩ | exact ⟨Or.inr rfl, hD, hW⟩ | exact ⟨Or.inl hqv730.1, hD, hW⟩ | exact ⟨hqv730.1, hD, hW⟩)⟩
                            · exact ok_rZ (Or.inr rfl) ⟨hT, (show ((1 : Int32) = 0 ∨ (1 : Int32) = 1) ∧ RD σ731.1 ∧ WI 2 σ731.1 from by first | exact ⟨Or.inl rfl, hD, hW⟩ | exact ⟨Or.inr rfl, hD, hW⟩ | exact ⟨Or.inl hqv730.1, hD, hW⟩ | exact ⟨hqv730.1, hD, hW⟩)⟩
                        · rw [J_X5_readLine_211.eq_1]
                          refine ok_if (fun hc733 => ?_) (fun hc733 => ?_)
                          · exact ok_rZ (Or.inl rfl) ⟨hT, (show ((0 : Int32) = 0 ∨ (0 : Int32) = 1) ∧ RD σ727.1 ∧ WI 2 σ727.1 from by first | exact ⟨Or.inl rfl, hD, hW⟩ | exact ⟨Or.inr rfl, hD, hW⟩ | exact ⟨Or.inl hqv726.1, hD, hW⟩ | exact ⟨hqv726.1, hD, hW⟩)⟩
                          · refine ok_gC rfl ?_
                            refine ok_zbT (Q := fun V σ => (V = 0 ∨ V = 1) ∧ RD σ.1) hT (s_X5_pass hN (hR.tr hT) (by first | exact hX | exact hT.1.2 hX) (hD)) (by decide) (fun v734 σ735 hOσ735 hT hqv734 => ?_)
                            have hqv734 : (v734 = 0 ∨ v734 = 1) ∧ RD σ735.1 := hqv734
                            have hD : RD σ735.1 := by first | exact hqv734.2 | exact hqv734.2.1
                            have hW : WI 2 σ735.1 := WI.tr hOσ735 (by decide) (by decide) (by decide) hW
                            refine ok_if (fun hc736 => ?_) (fun hc736 => ?_)
                            · exact ok_rZ (Or.inl rfl) ⟨hT, (show ((0 : Int32) = 0 ∨ (0 : Int32) = 1) ∧ RD σ735.1 ∧ WI 2 σ735.1 from by first | exact ⟨Or.inl rfl, hD, hW⟩ | exact ⟨Or.inr rfl, hD, hW⟩ | exact ⟨Or.inl hqv734.1, hD, hW⟩ | exact ⟨hqv734.1, hD, hW⟩)⟩
                            · exact ok_rZ (Or.inr rfl) ⟨hT, (show ((1 : Int32) = 0 ∨ (1 : Int32) = 1) ∧ RD σ735.1 ∧ WI 2 σ735.1 from by first | exact ⟨Or.inl rfl, hD, hW⟩ | exact ⟨Or.inr rfl, hD, hW⟩ | exact ⟨Or.inl hqv734.1, hD, hW⟩ | exact ⟨hqv734.1, hD, hW⟩)⟩
                · refine ok_gC rfl ?_
                  refine ok_zbT (Q := fun V σ => V = 0 ∧ RD σ.1) hT (s_X5_fail hN (hR.tr hT) (by first | exact hX | exact hT.1.2 hX) (hD)) (by decide) (fun v737 σ738 hOσ738 hT hqv737 => ?_)
                  have hqv737 : v737 = 0 ∧ RD σ738.1 := hqv737
                  have hD : RD σ738.1 := by first | exact hqv737.2 | exact hqv737.2.1
                  have hW : WI 2 σ738.1 := WI.tr hOσ738 (by decide) (by decide) (by decide) hW
                  exact ok_rZ (by have q := hqv737.1; first | exact q | exact Or.inl q | exact Or.inr q) ⟨hT, (show (v737 = 0 ∨ v737 = 1) ∧ RD σ738.1 ∧ WI 2 σ738.1 from by first | exact ⟨Or.inl rfl, hD, hW⟩ | exact ⟨Or.inr rfl, hD, hW⟩ | exact ⟨Or.inl hqv737.1, hD, hW⟩ | exact ⟨hqv737.1, hD, hW⟩)⟩
              · rw [J_X5_readLine_92.eq_1]
                refine ok_gC rfl ?_
                refine ok_zbT (Q := fun V σ => (V = 0 ∨ V = 1) ∧ RD σ.1) hT (s_X5_pass hN (hR.tr hT) (by first | exact hX | exact hT.1.2 hX) (hD)) (by decide) (fun v739 σ740 hOσ740 hT hqv739 => ?_)
                have hqv739 : (v739 = 0 ∨ v739 = 1) ∧ RD σ740.1 := hqv739
                have hD : RD σ740.1 := by first | exact hqv739.2 | exact hqv739.2.1
                have hW : WI 2 σ740.1 := WI.tr hOσ740 (by decide) (by decide) (by decide) hW
                refine ok_gR (v := 62) hT rfl (hR 57 11 rfl) ?_
                refine ok_gI rfl ?_
                refine ok_aIn rfl (by have q1 := hD.1; have q2 := hD.2.1; have q3 := hD0.1; have q4 := hD0.2.1; first | omega | decide | (simp only [Int32.le_iff_toInt_le, Int32.lt_iff_toInt_lt, ti_add, ti_sub, ti_mul, Int32.reduceToInt] at *; omega) | (exfalso; simp_all; done)) (by have q1 := hD.1; have q2 := hD.2.1; have q3 := hD0.1; have q4 := hD0.2.1; first | omega | decide | (simp only [Int32.le_iff_toInt_le, Int32.lt_iff_toInt_lt, ti_add, ti_sub, ti_mul, Int32.reduceToInt] at *; omega) | (exfalso; simp_all; done)) (fun v743 ev743 => ?_)
                refine ok_if (fun hc744 => ?_) (fun hc744 => ?_)
                · refine ok_gC rfl ?_
                  refine ok_zbT (Q := fun V σ => (V = 0 ∨ V = 1) ∧ RD σ.1 ∧ WI 2 σ.1) hT (s_X5_readNames_2 hN (hR.tr hT) (by first | exact hX | exact hT.1.2 hX) (hD) (hW)) (by decide) (fun v745 σ746 hOσ746 hT hqv745 => ?_)
                  have hqv745 : (v745 = 0 ∨ v745 = 1) ∧ RD σ746.1 ∧ WI 2 σ746.1 := hqv745
                  have hD : RD σ746.1 := by first | exact hqv745.2 | exact hqv745.2.1
                  have hW : WI 2 σ746.1 := by first | exact hqv745.2.2 | exact hqv745
                  rw [J_X5_readLine_211.eq_1]
                  refine ok_if (fun hc747 => ?_) (fun hc747 => ?_)
                  · exact ok_rZ (Or.inl rfl) ⟨hT, (show ((0 : Int32) = 0 ∨ (0 : Int32) = 1) ∧ RD σ746.1 ∧ WI 2 σ746.1 from by first | exact ⟨Or.inl rfl, hD, hW⟩ | exact ⟨Or.inr rfl, hD, hW⟩ | exact ⟨Or.inl hqv745.1, hD, hW⟩ | exact ⟨hqv745.1, hD, hW⟩)⟩
                  · refine ok_gC rfl ?_
                    refine ok_zbT (Q := fun V σ => (V = 0 ∨ V = 1) ∧ RD σ.1) hT (s_X5_pass hN (hR.tr hT) (by first | exact hX | exact hT.1.2 hX) (hD)) (by decide) (fun v748 σ749 hOσ749 hT hqv748 => ?_)
                    have hqv748 : (v748 = 0 ∨ v748 = 1) ∧ RD σ749.1 := hqv748
                    have hD : RD σ749.1 := by first | exact hqv748.2 | exact hqv748.2.1
                    have hW : WI 2 σ749.1 := WI.tr hOσ749 (by decide) (by decide) (by decide) hW
                    refine ok_if (fun hc750 => ?_) (fun hc750 => ?_)
                    · exact ok_rZ (Or.inl rfl) ⟨hT, (show ((0 : Int32) = 0 ∨ (0 : Int32) = 1) ∧ RD σ749.1 ∧ WI 2 σ749.1 from by first | exact ⟨Or.inl rfl, hD, hW⟩ | exact ⟨Or.inr rfl, hD, hW⟩ | exact ⟨Or.inl hqv748.1, hD, hW⟩ | exact ⟨hqv748.1, hD, hW⟩)⟩
                    · exact ok_rZ (Or.inr rfl) ⟨hT, (show ((1 : Int32) = 0 ∨ (1 : Int32) = 1) ∧ RD σ749.1 ∧ WI 2 σ749.1 from by first | exact ⟨Or.inl rfl, hD, hW⟩ | exact ⟨Or.inr rfl, hD, hW⟩ | exact ⟨Or.inl hqv748.1, hD, hW⟩ | exact ⟨hqv748.1, hD, hW⟩)⟩
                refine ok_if (fun hc751 => ?_) (fun hc751 => ?_)
                · refine ok_gC rfl ?_
                  refine ok_zbT (Q := fun V σ => (V = 0 ∨ V = 1) ∧ RD σ.1 ∧ WI 2 σ.1) hT (s_X5_readWeight_2 hN (hR.tr hT) (by first | exact hX | exact hT.1.2 hX) (hD) (hW)) (by decide) (fun v752 σ753 hOσ753 hT hqv752 => ?_)
                  have hqv752 : (v752 = 0 ∨ v752 = 1) ∧ RD σ753.1 ∧ WI 2 σ753.1 := hqv752
                  have hD : RD σ753.1 := by first | exact hqv752.2 | exact hqv752.2.1
                  have hW : WI 2 σ753.1 := WI.tr hOσ753 (by decide) (by decide) (by decide) hW
                  rw [J_X5_readLine_211.eq_1]
                  refine ok_if (fun hc754 => ?_) (fun hc754 => ?_)
                  · exact ok_rZ (Or.inl rfl) ⟨hT, (show ((0 : Int32) = 0 ∨ (0 : Int32) = 1) ∧ RD σ753.1 ∧ WI 2 σ753.1 from by first | exact ⟨Or.inl rfl, hD, hW⟩ | exact ⟨Or.inr rfl, hD, hW⟩ | exact ⟨Or.inl hqv752.1, hD, hW⟩ | exact ⟨hqv752.1, hD, hW⟩)⟩
                  · refine ok_gC rfl ?_
                    refine ok_zbT (Q := fun V σ => (V = 0 ∨ V = 1) ∧ RD σ.1) hT (s_X5_pass hN (hR.tr hT) (by first | exact hX | exact hT.1.2 hX) (hD)) (by decide) (fun v755 σ756 hOσ756 hT hqv755 => ?_)
                    have hqv755 : (v755 = 0 ∨ v755 = 1) ∧ RD σ756.1 := hqv755
                    have hD : RD σ756.1 := by first | exact hqv755.2 | exact hqv755.2.1
                    have hW : WI 2 σ756.1 := WI.tr hOσ756 (by decide) (by decide) (by decide) hW
                    refine ok_if (fun hc757 => ?_) (fun hc757 => ?_)
                    · exact ok_rZ (Or.inl rfl) ⟨hT, (show ((0 : Int32) = 0 ∨ (0 : Int32) = 1) ∧ RD σ756.1 ∧ WI 2 σ756.1 from by first | exact ⟨Or.inl rfl, hD, hW⟩ | exact ⟨Or.inr rfl, hD, hW⟩ | exact ⟨Or.inl hqv755.1, hD, hW⟩ | exact ⟨hqv755.1, hD, hW⟩)⟩
                    · exact ok_rZ (Or.inr rfl) ⟨hT, (show ((1 : Int32) = 0 ∨ (1 : Int32) = 1) ∧ RD σ756.1 ∧ WI 2 σ756.1 from by first | exact ⟨Or.inl rfl, hD, hW⟩ | exact ⟨Or.inr rfl, hD, hW⟩ | exact ⟨Or.inl hqv755.1, hD, hW⟩ | exact ⟨hqv755.1, hD, hW⟩)⟩
                refine ok_if (fun hc758 => ?_) (fun hc758 => ?_)
                · refine ok_gC rfl ?_
                  refine ok_zbT (Q := fun V σ => (V = 0 ∨ V = 1) ∧ RD σ.1 ∧ WI 2 σ.1) hT (s_X5_readEdge_2 hN (hR.tr hT) (by first | exact hX | exact hT.1.2 hX) (hD) (hW)) (by decide) (fun v759 σ760 hOσ760 hT hqv759 => ?_)
                  have hqv759 : (v759 = 0 ∨ v759 = 1) ∧ RD σ760.1 ∧ WI 2 σ760.1 := hqv759
                  have hD : RD σ760.1 := by first | exact hqv759.2 | exact hqv759.2.1
                  have hW : WI 2 σ760.1 := by first | exact hqv759.2.2 | exact hqv759
                  rw [J_X5_readLine_211.eq_1]
                  refine ok_if (fun hc761 => ?_) (fun hc761 => ?_)
                  · exact ok_rZ (Or.inl rfl) ⟨hT, (show ((0 : Int32) = 0 ∨ (0 : Int32) = 1) ∧ RD σ760.1 ∧ WI 2 σ760.1 from by first | exact ⟨Or.inl rfl, hD, hW⟩ | exact ⟨Or.inr rfl, hD, hW⟩ | exact ⟨Or.inl hqv759.1, hD, hW⟩ | exact ⟨hqv759.1, hD, hW⟩)⟩
                  · refine ok_gC rfl ?_
                    refine ok_zbT (Q := fun V σ => (V = 0 ∨ V = 1) ∧ RD σ.1) hT (s_X5_pass hN (hR.tr hT) (by first | exact hX | exact hT.1.2 hX) (hD)) (by decide) (fun v762 σ763 hOσ763 hT hqv762 => ?_)
                    have hqv762 : (v762 = 0 ∨ v762 = 1) ∧ RD σ763.1 := hqv762
                    have hD : RD σ763.1 := by first | exact hqv762.2 | exact hqv762.2.1
                    have hW : WI 2 σ763.1 := WI.tr hOσ763 (by decide) (by decide) (by decide) hW
                    refine ok_if (fun hc764 => ?_) (fun hc764 => ?_)
                    · exact ok_rZ (Or.inl rfl) ⟨hT, (show ((0 : Int32) = 0 ∨ (0 : Int32) = 1) ∧ RD σ763.1 ∧ WI 2 σ763.1 from by first | exact ⟨Or.inl rfl, hD, hW⟩ | exact ⟨Or.inr rfl, hD, hW⟩ | exact ⟨Or.inl hqv762.1, hD, hW⟩ | exact ⟨hqv762.1, hD, hW⟩)⟩
                    · exact ok_rZ (Or.inr rfl) ⟨hT, (show ((1 : Int32) = 0 ∨ (1 : Int32) = 1) ∧ RD σ763.1 ∧ WI 2 σ763.1 from by first | exact ⟨Or.inl rfl, hD, hW⟩ | exact ⟨Or.inr rfl, hD, hW⟩ | exact ⟨Or.inl hqv762.1, hD, hW⟩ | exact ⟨hqv762.1, hD, hW⟩)⟩
                refine ok_gC rfl ?_
                refine ok_zbT (Q := fun V σ => (V = 0 ∨ V = 1) ∧ RD σ.1 ∧ (¬ V = 0 → 1 ≤ (σ.1 57 9).toInt ∧ (0 : Int32).toInt ≤ (lastv σ.1).toInt ∧ (lastv σ.1).toInt ≤ (9 : Int32).toInt)) hT (s_X5_passNumber hN (hR.tr hT) (by first | exact hX | exact hT.1.2 hX) (hD)) (by decide) (fun v765 σ766 hOσ766 hT hqv765 => ?_)
                have hqv765 : (v765 = 0 ∨ v765 = 1) ∧ RD σ766.1 ∧ (¬ v765 = 0 → 1 ≤ (σ766.1 57 9).toInt ∧ (0 : Int32).toInt ≤ (lastv σ766.1).toInt ∧ (lastv σ766.1).toInt ≤ (9 : Int32).toInt) := hqv765
                have hD : RD σ766.1 := by first | exact hqv765.2 | exact hqv765.2.1
                have hW : WI 2 σ766.1 := WI.tr hOσ766 (by decide) (by decide) (by decide) hW
                refine ok_if (fun hc767 => ?_) (fun hc767 => ?_)
                · rw [J_X5_readLine_211.eq_1]
                  refine ok_if (fun hc768 => ?_) (fun hc768 => ?_)
                  · exact ok_rZ (Or.inl rfl) ⟨hT, (show ((0 : Int32) = 0 ∨ (0 : Int32) = 1) ∧ RD σ766.1 ∧ WI 2 σ766.1 from by first | exact ⟨Or.inl rfl, hD, hW⟩ | exact ⟨Or.inr rfl, hD, hW⟩ | exact ⟨Or.inl hqv765.1, hD, hW⟩ | exact ⟨hqv765.1, hD, hW⟩)⟩
                  · refine ok_gC rfl ?_
                    refine ok_zbT (Q := fun V σ => (V = 0 ∨ V = 1) ∧ RD σ.1) hT (s_X5_pass hN (hR.tr hT) (by first | exact hX | exact hT.1.2 hX) (hD)) (by decide) (fun v769 σ770 hOσ770 hT hqv769 => ?_)
                    have hqv769 : (v769 = 0 ∨ v769 = 1) ∧ RD σ770.1 := hqv769
                    have hD : RD σ770.1 := by first | exact hqv769.2 | exact hqv769.2.1
                    have hW : WI 2 σ770.1 := WI.tr hOσ770 (by decide) (by decide) (by decide) hW
                    refine ok_if (fun hc771 => ?_) (fun hc771 => ?_)
                    · exact ok_rZ (Or.inl rfl) ⟨hT, (show ((0 : Int32) = 0 ∨ (0 : Int32) = 1) ∧ RD σ770.1 ∧ WI 2 σ770.1 from by first | exact ⟨Or.inl rfl, hD, hW⟩ | exact ⟨Or.inr rfl, hD, hW⟩ | exact ⟨Or.inl hqv769.1, hD, hW⟩ | exact ⟨hqv769.1, hD, hW⟩)⟩
                    · exact ok_rZ (Or.inr rfl) ⟨hT, (show ((1 : Int32) = 0 ∨ (1 : Int32) = 1) ∧ RD σ770.1 ∧ WI 2 σ770.1 from by first | exact ⟨Or.inl rfl, hD, hW⟩ | exact ⟨Or.inr rfl, hD, hW⟩ | exact ⟨Or.inl hqv769.1, hD, hW⟩ | exact ⟨hqv769.1, hD, hW⟩)⟩
                · refine ok_gC rfl ?_
                  refine ok_zbT (Q := fun V σ => (V = 0 ∨ V = 1) ∧ RD σ.1) hT (s_X5_pass hN (hR.tr hT) (by first | exact hX | exact hT.1.2 hX) (hD)) (by decide) (fun v772 σ773 hOσ773 hT hqv772 => ?_)
                  have hqv772 : (v772 = 0 ∨ v772 = 1) ∧ RD σ773.1 := hqv772
                  have hD : RD σ773.1 := by first | exact hqv772.2 | exact hqv772.2.1
                  have hW : WI 2 σ773.1 := WI.tr hOσ773 (by decide) (by decide) (by decide) hW
                  refine ok_if (fun hc774 => ?_) (fun hc774 => ?_)
                  · rw [J_X5_readLine_211.eq_1]
                    refine ok_if (fun hc775 => ?_) (fun hc775 => ?_)
                    · exact ok_rZ (Or.inl rfl) ⟨hT, (show ((0 : Int32) = 0 ∨ (0 : Int32) = 1) ∧ RD σ773.1 ∧ WI 2 σ773.1 from by first | exact ⟨Or.inl rfl, hD, hW⟩ | exact ⟨Or.inr rfl, hD, hW⟩ | exact ⟨Or.inl hqv772.1, hD, hW⟩ | exact ⟨hqv772.1, hD, hW⟩)⟩
                    · refine ok_gC rfl ?_
                      refine ok_zbT (Q := fun V σ => (V = 0 ∨ V = 1) ∧ RD σ.1) hT (s_X5_pass hN (hR.tr hT) (by first | exact hX | exact hT.1.2 hX) (hD)) (by decide) (fun v776 σ777 hOσ777 hT hqv776 => ?_)
                      have hqv776 : (v776 = 0 ∨ v776 = 1) ∧ RD σ777.1 := hqv776
                      have hD : RD σ777.1 := by first | exact hqv776.2 | exact hqv776.2.1
                      have hW : WI 2 σ777.1 := WI.tr hOσ777 (by decide) (by decide) (by decide) hW
                      refine ok_if (fun hc778 => ?_) (fun hc778 => ?_)
                      · exact ok_rZ (Or.inl rfl) ⟨hT, (show ((0 : Int32) = 0 ∨ (0 : Int32) = 1) ∧ RD σ777.1 ∧ WI 2 σ777.1 from by first | exact ⟨Or.inl rfl, hD, hW⟩ | exact ⟨Or.inr rfl, hD, hW⟩ | exact ⟨Or.inl hqv776.1, hD, hW⟩ | exact ⟨hqv776.1, hD, hW⟩)⟩
                      · exact ok_rZ (Or.inr rfl) ⟨hT, (show ((1 : Int32) = 0 ∨ (1 : Int32) = 1) ∧ RD σ777.1 ∧ WI 2 σ777.1 from by first | exact ⟨Or.inl rfl, hD, hW⟩ | exact ⟨Or.inr rfl, hD, hW⟩ | exact ⟨Or.inl hqv776.1, hD, hW⟩ | exact ⟨hqv776.1, hD, hW⟩)⟩
                  · refine ok_gC rfl ?_
                    refine ok_zbT (Q := fun V σ => (V = 0 ∨ V = 1) ∧ RD σ.1) hT (s_X5_sum hN (hR.tr hT) (by first | exact hX | exact hT.1.2 hX) (hD) (by have q1 := hD.1; have q2 := hD.2.1; have q3 := hD0.1; have q4 := hD0.2.1; first | omega | decide | (simp only [Int32.le_iff_toInt_le, Int32.lt_iff_toInt_lt, ti_add, ti_sub, ti_mul, Int32.reduceToInt] at *; omega) | (exfalso; simp_all; done)) (by have q1 := hD.1; have q2 := hD.2.1; have q3 := hD0.1; have q4 := hD0.2.1; first | omega | decide | (simp only [Int32.le_iff_toInt_le, Int32.lt_iff_toInt_lt, ti_add, ti_sub, ti_mul, Int32.reduceToInt] at *; omega) | (exfalso; simp_all; done))) (by decide) (fun v779 σ780 hOσ780 hT hqv779 => ?_)
                    have hqv779 : (v779 = 0 ∨ v779 = 1) ∧ RD σ780.1 := hqv779
                    have hD : RD σ780.1 := by first | exact hqv779.2 | exact hqv779.2.1
                    have hW : WI 2 σ780.1 := WI.tr hOσ780 (by decide) (by decide) (by decide) hW
                    refine ok_if (fun hc781 => ?_) (fun hc781 => ?_)
                    · rw [J_X5_readLine_211.eq_1]
                      refine ok_if (fun hc782 => ?_) (fun hc782 => ?_)
                      · exact ok_rZ (Or.inl rfl) ⟨hT, (show ((0 : Int32) = 0 ∨ (0 : Int32) = 1) ∧ RD σ780.1 ∧ WI 2 σ780.1 from by first | exact ⟨Or.inl rfl, hD, hW⟩ | exact ⟨Or.inr rfl, hD, hW⟩ | exact ⟨Or.inl hqv779.1, hD, hW⟩ | exact ⟨hqv779.1, hD, hW⟩)⟩
                      · refine ok_gC rfl ?_
                        refine ok_zbT (Q := fun V σ => (V = 0 ∨ V = 1) ∧ RD σ.1) hT (s_X5_pass hN (hR.tr hT) (by first | exact hX | exact hT.1.2 hX) (hD)) (by decide) (fun v783 σ784 hOσ784 hT hqv783 => ?_)
                        have hqv783 : (v783 = 0 ∨ v783 = 1) ∧ RD σ784.1 := hqv783
                        have hD : RD σ784.1 := by first | exact hqv783.2 | exact hqv783.2.1
                        have hW : WI 2 σ784.1 := WI.tr hOσ784 (by decide) (by decide) (by decide) hW
                        refine ok_if (fun hc785 => ?_) (fun hc785 => ?_)
                        · exact ok_rZ (Or.inl rfl) ⟨hT, (show ((0 : Int32) = 0 ∨ (0 : Int32) = 1) ∧ RD σ784.1 ∧ WI 2 σ784.1 from by first | exact ⟨Or.inl rfl, hD, hW⟩ | exact ⟨Or.inr rfl, hD, hW⟩ | exact ⟨Or.inl hqv783.1, hD, hW⟩ | exact ⟨hqv783.1, hD, hW⟩)⟩
                        · exact ok_rZ (Or.inr rfl) ⟨hT, (show ((1 : Int32) = 0 ∨ (1 : Int32) = 1) ∧ RD σ784.1 ∧ WI 2 σ784.1 from by first | exact ⟨Or.inl rfl, hD, hW⟩ | exact ⟨Or.inr rfl, hD, hW⟩ | exact ⟨Or.inl hqv783.1, hD, hW⟩ | exact ⟨hqv783.1, hD, hW⟩)⟩
                    · refine ok_gC rfl ?_
                      refine ok_zbT (Q := fun V σ => V = 1 ∧ RD σ.1) hT (s_X5_emit hN (hR.tr hT) (by first | exact hX | exact hT.1.2 hX) (hD)) (by decide) (fun v786 σ787 hOσ787 hT hqv786 => ?_)
                      have hqv786 : v786 = 1 ∧ RD σ787.1 := hqv786
                      have hD : RD σ787.1 := by first | exact hqv786.2 | exact hqv786.2.1
                      have hW : WI 2 σ787.1 := WI.tr hOσ787 (by decide) (by decide) (by decide) hW
                      refine ok_if (fun hc788 => ?_) (fun hc788 => ?_)
                      · rw [J_X5_readLine_211.eq_1]
                        refine ok_if (fun hc789 => ?_) (fun hc789 => ?_)
                        · exact ok_rZ (Or.inl rfl) ⟨hT, (show ((0 : Int32) = 0 ∨ (0 : Int32) = 1) ∧ RD σ787.1 ∧ WI 2 σ787.1 from by first | exact ⟨Or.inl rfl, hD, hW⟩ | exact ⟨Or.inr rfl, hD, hW⟩ | exact ⟨Or.inl hqv786.1, hD, hW⟩ | exact ⟨hqv786.1, hD, hW⟩)⟩
                        · refine ok_gC rfl ?_
                          refine ok_zbT (Q := fun V σ => (V = 0 ∨ V = 1) ∧ RD σ.1) hT (s_X5_pass hN (hR.tr hT) (by first | exact hX | exact hT.1.2 hX) (hD)) (by decide) (fun v790 σ791 hOσ791 hT hqv790 => ?_)
                          have hqv790 : (v790 = 0 ∨ v790 = 1) ∧ RD σ791.1 := hqv790
                          have hD : RD σ791.1 := by first | exact hqv790.2 | exact hqv790.2.1
                          have hW : WI 2 σ791.1 := WI.tr hOσ791 (by decide) (by decide) (by decide) hW
                          refine ok_if (fun hc792 => ?_) (fun hc792 => ?_)
                          · exact ok_rZ (Or.inl rfl) ⟨hT, (show ((0 : Int32) = 0 ∨ (0 : Int32) = 1) ∧ RD σ791.1 ∧ WI 2 σ791.1 from by first | exact ⟨Or.inl rfl, hD, hW⟩ | exact ⟨Or.inr rfl, hD, hW⟩ | exact ⟨Or.inl hqv790.1, hD, hW⟩ | exact ⟨hqv790.1, hD, hW⟩)⟩
                          · exact ok_rZ (Or.inr rfl) ⟨hT, (show ((1 : Int32) = 0 ∨ (1 : Int32) = 1) ∧ RD σ791.1 ∧ WI 2 σ791.1 from by first | exact ⟨Or.inl rfl, hD, hW⟩ | exact ⟨Or.inr rfl, hD, hW⟩ | exact ⟨Or.inl hqv790.1, hD, hW⟩ | exact ⟨hqv790.1, hD, hW⟩)⟩
                      · rw [J_X5_readLine_211.eq_1]
                        refine ok_if (fun hc793 => ?_) (fun hc793 => ?_)
                        · exact ok_rZ (Or.inl rfl) ⟨hT, (show ((0 : Int32) = 0 ∨ (0 : Int32) = 1) ∧ RD σ787.1 ∧ WI 2 σ787.1 from by first | exact ⟨Or.inl rfl, hD, hW⟩ | exact ⟨Or.inr rfl, hD, hW⟩ | exact ⟨Or.inl hqv786.1, hD, hW⟩ | exact ⟨hqv786.1, hD, hW⟩)⟩
                        · refine ok_gC rfl ?_
                          refine ok_zbT (Q := fun V σ => (V = 0 ∨ V = 1) ∧ RD σ.1) hT (s_X5_pass hN (hR.tr hT) (by first | exact hX | exact hT.1.2 hX) (hD)) (by decide) (fun v794 σ795 hOσ795 hT hqv794 => ?_)
                          have hqv794 : (v794 = 0 ∨ v794 = 1) ∧ RD σ795.1 := hqv794
                          have hD : RD σ795.1 := by first | exact hqv794.2 | exact hqv794.2.1
                          have hW : WI 2 σ795.1 := WI.tr hOσ795 (by decide) (by decide) (by decide) hW
                          refine ok_if (fun hc796 => ?_) (fun hc796 => ?_)
                          · exact ok_rZ (Or.inl rfl) ⟨hT, (show ((0 : Int32) = 0 ∨ (0 : Int32) = 1) ∧ RD σ795.1 ∧ WI 2 σ795.1 from by first | exact ⟨Or.inl rfl, hD, hW⟩ | exact ⟨Or.inr rfl, hD, hW⟩ | exact ⟨Or.inl hqv794.1, hD, hW⟩ | exact ⟨hqv794.1, hD, hW⟩)⟩
                          · exact ok_rZ (Or.inr rfl) ⟨hT, (show ((1 : Int32) = 0 ∨ (1 : Int32) = 1) ∧ RD σ795.1 ∧ WI 2 σ795.1 from by first | exact ⟨Or.inl rfl, hD, hW⟩ | exact ⟨Or.inr rfl, hD, hW⟩ | exact ⟨Or.inl hqv794.1, hD, hW⟩ | exact ⟨hqv794.1, hD, hW⟩)⟩
            · refine ok_gC rfl ?_
              refine ok_zbT (Q := fun V σ => V = 0 ∧ RD σ.1) hT (s_X5_fail hN (hR.tr hT) (by first | exact hX | exact hT.1.2 hX) (hD)) (by decide) (fun v797 σ798 hOσ798 hT hqv797 => ?_)
              have hqv797 : v797 = 0 ∧ RD σ798.1 := hqv797
              have hD : RD σ798.1 := by first | exact hqv797.2 | exact hqv797.2.1
              have hW : WI 2 σ798.1 := WI.tr hOσ798 (by decide) (by decide) (by decide) hW
              exact ok_rZ (by have q := hqv797.1; first | exact q | exact Or.inl q | exact Or.inr q) ⟨hT, (show (v797 = 0 ∨ v797 = 1) ∧ RD σ798.1 ∧ WI 2 σ798.1 from by first | exact ⟨Or.inl rfl, hD, hW⟩ | exact ⟨Or.inr rfl, hD, hW⟩ | exact ⟨Or.inl hqv797.1, hD, hW⟩ | exact ⟨hqv797.1, hD, hW⟩)⟩
        · refine ok_gC rfl ?_
          refine ok_zbT (Q := fun V σ => V = 0 ∧ RD σ.1) hT (s_X5_fail hN (hR.tr hT) (by first | exact hX | exact hT.1.2 hX) (hD)) (by decide) (fun v799 σ800 hOσ800 hT hqv799 => ?_)
          have hqv799 : v799 = 0 ∧ RD σ800.1 := hqv799
          have hD : RD σ800.1 := by first | exact hqv799.2 | exact hqv799.2.1
          have hW : WI 2 σ800.1 := WI.tr hOσ800 (by decide) (by decide) (by decide) hW
          exact ok_rZ (by have q := hqv799.1; first | exact q | exact Or.inl q | exact Or.inr q) ⟨hT, (show (v799 = 0 ∨ v799 = 1) ∧ RD σ800.1 ∧ WI 2 σ800.1 from by first | exact ⟨Or.inl rfl, hD, hW⟩ | exact ⟨Or.inr rfl, hD, hW⟩ | exact ⟨Or.inl hqv799.1, hD, hW⟩ | exact ⟨hqv799.1, hD, hW⟩)⟩
    · rw [J_X5_readLine_39.eq_1]
      refine ok_if (fun hc801 => ?_) (fun hc801 => ?_)
      · rw [J_X5_readLine_51.eq_1]
        refine ok_if (fun hc802 => ?_) (fun hc802 => ?_)
        · refine ok_if (fun hc803 => ?_) (fun hc803 => ?_)
          · refine ok_gC rfl ?_
            refine ok_zbT (Q := fun V σ => V = 0 ∧ RD σ.1) hT (s_X5_fail hN (hR.tr hT) (by first | exact hX | exact hT.1.2 hX) (hD)) (by decide) (fun v804 σ805 hOσ805 hT hqv804 => ?_)
            have hqv804 : v804 = 0 ∧ RD σ805.1 := hqv804
            have hD : RD σ805.1 := by first | exact hqv804.2 | exact hqv804.2.1
            have hW : WI 2 σ805.1 := WI.tr hOσ805 (by decide) (by decide) (by decide) hW
            exact ok_rZ (by have q := hqv804.1; first | exact q | exact Or.inl q | exact Or.inr q) ⟨hT, (show (v804 = 0 ∨ v804 = 1) ∧ RD σ805.1 ∧ WI 2 σ805.1 from by first | exact ⟨Or.inl rfl, hD, hW⟩ | exact ⟨Or.inr rfl, hD, hW⟩ | exact ⟨Or.inl hqv804.1, hD, hW⟩ | exact ⟨hqv804.1, hD, hW⟩)⟩
          · refine ok_if (fun hc806 => ?_) (fun hc806 => ?_)
            · refine ok_if (fun hc807 => ?_) (fun hc807 => ?_)
              · refine ok_gI rfl ?_
                refine ok_gI rfl ?_
                refine ok_if (fun hc810 => ?_) (fun hc810 => ?_)
                · rw [J_X5_readLine_92.eq_1]
                  refine ok_gC rfl ?_
                  refine ok_zbT (Q := fun V σ => (V = 0 ∨ V = 1) ∧ RD σ.1) hT (s_X5_pass hN (hR.tr hT) (by first | exact hX | exact hT.1.2 hX) (hD)) (by decide) (fun v811 σ812 hOσ812 hT hqv811 => ?_)
                  have hqv811 : (v811 = 0 ∨ v811 = 1) ∧ RD σ812.1 := hqv811
                  have hD : RD σ812.1 := by first | exact hqv811.2 | exact hqv811.2.1
                  have hW : WI 2 σ812.1 := WI.tr hOσ812 (by decide) (by decide) (by decide) hW
                  refine ok_gR (v := 62) hT rfl (hR 57 11 rfl) ?_
                  refine ok_gI rfl ?_
                  refine ok_aIn rfl (by have q1 := hD.1; have q2 := hD.2.1; have q3 := hD0.1; have q4 := hD0.2.1; first | omega | decide | (simp only [Int32.le_iff_toInt_le, Int32.lt_iff_toInt_lt, ti_add, ti_sub, ti_mul, Int32.reduceToInt] at *; omega) | (exfalso; simp_all; done)) (by have q1 := hD.1; have q2 := hD.2.1; have q3 := hD0.1; have q4 := hD0.2.1; first | omega | decide | (simp only [Int32.le_iff_toInt_le, Int32.lt_iff_toInt_lt, ti_add, ti_sub, ti_mul, Int32.reduceToInt] at *; omega) | (exfalso; simp_all; done)) (fun v815 ev815 => ?_)
                  refine ok_if (fun hc816 => ?_) (fun hc816 => ?_)
                  · refine ok_gC rfl ?_
                    refine ok_zbT (Q := fun V σ => (V = 0 ∨ V = 1) ∧ RD σ.1 ∧ WI 2 σ.1) hT (s_X5_readNames_2 hN (hR.tr hT) (by first | exact hX | exact hT.1.2 hX) (hD) (hW)) (by decide) (fun v817 σ818 hOσ818 hT hqv817 => ?_)
                    have hqv817 : (v817 = 0 ∨ v817 = 1) ∧ RD σ818.1 ∧ WI 2 σ818.1 := hqv817
                    have hD : RD σ818.1 := by first | exact hqv817.2 | exact hqv817.2.1
                    have hW : WI 2 σ818.1 := by first | exact hqv817.2.2 | exact hqv817
                    rw [J_X5_readLine_211.eq_1]
                    refine ok_if (fun hc819 => ?_) (fun hc819 => ?_)
                    · exact ok_rZ (Or.inl rfl) ⟨hT, (show ((0 : Int32) = 0 ∨ (0 : Int32) = 1) ∧ RD σ818.1 ∧ WI 2 σ818.1 from by first | exact ⟨Or.inl rfl, hD, hW⟩ | exact ⟨Or.inr rfl, hD, hW⟩ | exact ⟨Or.inl hqv817.1, hD, hW⟩ | exact ⟨hqv817.1, hD, hW⟩)⟩
                    · refine ok_gC rfl ?_
                      refine ok_zbT (Q := fun V σ => (V = 0 ∨ V = 1) ∧ RD σ.1) hT (s_X5_pass hN (hR.tr hT) (by first | exact hX | exact hT.1.2 hX) (hD)) (by decide) (fun v820 σ821 hOσ821 hT hqv820 => ?_)
                      have hqv820 : (v820 = 0 ∨ v820 = 1) ∧ RD σ821.1 := hqv820
                      have hD : RD σ821.1 := by first | exact hqv820.2 | exact hqv820.2.1
                      have hW : WI 2 σ821.1 := WI.tr hOσ821 (by decide) (by decide) (by decide) hW
                      refine ok_if (fun hc822 => ?_) (fun hc822 => ?_)
                      · exact ok_rZ (Or.inl rfl) ⟨hT, (show ((0 : Int32) = 0 ∨ (0 : Int32) = 1) ∧ RD σ821.1 ∧ WI 2 σ821.1 from by first | exact ⟨Or.inl rfl, hD, hW⟩ | exact ⟨Or.inr rfl, hD, hW⟩ | exact ⟨Or.inl hqv820.1, hD, hW⟩ | exact ⟨hqv820.1, hD, hW⟩)⟩
                      · exact ok_rZ (Or.inr rfl) ⟨hT, (show ((1 : Int32) = 0 ∨ (1 : Int32) = 1) ∧ RD σ821.1 ∧ WI 2 σ821.1 from by first | exact ⟨Or.inl rfl, hD, hW⟩ | exact ⟨Or.inr rfl, hD, hW⟩ | exact ⟨Or.inl hqv820.1, hD, hW⟩ | exact ⟨hqv820.1, hD, hW⟩)⟩
                  refine ok_if (fun hc823 => ?_) (fun hc823 => ?_)
                  · refine ok_gC rfl ?_
                    refine ok_zbT (Q := fun V σ => (V = 0 ∨ V = 1) ∧ RD σ.1 ∧ WI 2 σ.1) hT (s_X5_readWeight_2 hN (hR.tr hT) (by first | exact hX | exact hT.1.2 hX) (hD) (hW)) (by decide) (fun v824 σ825 hOσ825 hT hqv824 => ?_)
                    have hqv824 : (v824 = 0 ∨ v824 = 1) ∧ RD σ825.1 ∧ WI 2 σ825.1 := hqv824
                    have hD : RD σ825.1 := by first | exact hqv824.2 | exact hqv824.2.1
                    have hW : WI 2 σ825.1 := WI.tr hOσ825 (by decide) (by decide) (by decide) hW
                    rw [J_X5_readLine_211.eq_1]
                    refine ok_if (fun hc826 => ?_) (fun hc826 => ?_)
                    · exact ok_rZ (Or.inl rfl) ⟨hT, (show ((0 : Int32) = 0 ∨ (0 : Int32) = 1) ∧ RD σ825.1 ∧ WI 2 σ825.1 from by first | exact ⟨Or.inl rfl, hD, hW⟩ | exact ⟨Or.inr rfl, hD, hW⟩ | exact ⟨Or.inl hqv824.1, hD, hW⟩ | exact ⟨hqv824.1, hD, hW⟩)⟩
                    · refine ok_gC rfl ?_
                      refine ok_zbT (Q := fun V σ => (V = 0 ∨ V = 1) ∧ RD σ.1) hT (s_X5_pass hN (hR.tr hT) (by first | exact hX | exact hT.1.2 hX) (hD)) (by decide) (fun v827 σ828 hOσ828 hT hqv827 => ?_)
                      have hqv827 : (v827 = 0 ∨ v827 = 1) ∧ RD σ828.1 := hqv827
                      have hD : RD σ828.1 := by first | exact hqv827.2 | exact hqv827.2.1
                      have hW : WI 2 σ828.1 := WI.tr hOσ828 (by decide) (by decide) (by decide) hW
                      refine ok_if (fun hc829 => ?_) (fun hc829 => ?_)
                      · exact ok_rZ (Or.inl rfl) ⟨hT, (show ((0 : Int32) = 0 ∨ (0 : Int32) = 1) ∧ RD σ828.1 ∧ WI 2 σ828.1 from by first | exact ⟨Or.inl rfl, hD, hW⟩ | exact ⟨Or.inr rfl, hD, hW⟩ | exact ⟨Or.inl hqv827.1, hD, hW⟩ | exact ⟨hqv827.1, hD, hW⟩)⟩
                      · exact ok_rZ (Or.inr rfl) ⟨hT, (show ((1 : Int32) = 0 ∨ (1 : Int32) = 1) ∧ RD σ828.1 ∧ WI 2 σ828.1 from by first | exact ⟨Or.inl rfl, hD, hW⟩ | exact ⟨Or.inr rfl, hD, hW⟩ | exact ⟨Or.inl hqv827.1, hD, hW⟩ | exact ⟨hqv827.1, hD, hW⟩)⟩
                  refine ok_if (fun hc830 => ?_) (fun hc830 => ?_)
                  · refine ok_gC rfl ?_
                    refine ok_zbT (Q := fun V σ => (V = 0 ∨ V = 1) ∧ RD σ.1 ∧ WI 2 σ.1) hT (s_X5_readEdge_2 hN (hR.tr hT) (by first | exact hX | exact hT.1.2 hX) (hD) (hW)) (by decide) (fun v831 σ832 hOσ832 hT hqv831 => ?_)
                    have hqv831 : (v831 = 0 ∨ v831 = 1) ∧ RD σ832.1 ∧ WI 2 σ832.1 := hqv831
                    have hD : RD σ832.1 := by first | exact hqv831.2 | exact hqv831.2.1
                    have hW : WI 2 σ832.1 := by first | exact hqv831.2.2 | exact hqv831
                    rw [J_X5_readLine_211.eq_1]
                    refine ok_if (fun hc833 => ?_) (fun hc833 => ?_)
                    · exact ok_rZ (Or.inl rfl) ⟨hT, (show ((0 : Int32) = 0 ∨ (0 : Int32) = 1) ∧ RD σ832.1 ∧ WI 2 σ832.1 from by first | exact ⟨Or.inl rfl, hD, hW⟩ | exact ⟨Or.inr rfl, hD, hW⟩ | exact ⟨Or.inl hqv831.1, hD, hW⟩ | exact ⟨hqv831.1, hD, hW⟩)⟩
                    · refine ok_gC rfl ?_
                      refine ok_zbT (Q := fun V σ => (V = 0 ∨ V = 1) ∧ RD σ.1) hT (s_X5_pass hN (hR.tr hT) (by first | exact hX | exact hT.1.2 hX) (hD)) (by decide) (fun v834 σ835 hOσ835 hT hqv834 => ?_)
                      have hqv834 : (v834 = 0 ∨ v834 = 1) ∧ RD σ835.1 := hqv834
                      have hD : RD σ835.1 := by first | exact hqv834.2 | exact hqv834.2.1
                      have hW : WI 2 σ835.1 := WI.tr hOσ835 (by decide) (by decide) (by decide) hW
                      refine ok_if (fun hc836 => ?_) (fun hc836 => ?_)
                      · exact ok_rZ (Or.inl rfl) ⟨hT, (show ((0 : Int32) = 0 ∨ (0 : Int32) = 1) ∧ RD σ835.1 ∧ WI 2 σ835.1 from by first | exact ⟨Or.inl rfl, hD, hW⟩ | exact ⟨Or.inr rfl, hD, hW⟩ | exact ⟨Or.inl hqv834.1, hD, hW⟩ | exact ⟨hqv834.1, hD, hW⟩)⟩
                      · exact ok_rZ (Or.inr rfl) ⟨hT, (show ((1 : Int32) = 0 ∨ (1 : Int32) = 1) ∧ RD σ835.1 ∧ WI 2 σ835.1 from by first | exact ⟨Or.inl rfl, hD, hW⟩ | exact ⟨Or.inr rfl, hD, hW⟩ | exact ⟨Or.inl hqv834.1, hD, hW⟩ | exact ⟨hqv834.1, hD, hW⟩)⟩
                  refine ok_gC rfl ?_
                  refine ok_zbT (Q := fun V σ => (V = 0 ∨ V = 1) ∧ RD σ.1 ∧ (¬ V = 0 → 1 ≤ (σ.1 57 9).toInt ∧ (0 : Int32).toInt ≤ (lastv σ.1).toInt ∧ (lastv σ.1).toInt ≤ (9 : Int32).toInt)) hT (s_X5_passNumber hN (hR.tr hT) (by first | exact hX | exact hT.1.2 hX) (hD)) (by decide) (fun v837 σ838 hOσ838 hT hqv837 => ?_)
                  have hqv837 : (v837 = 0 ∨ v837 = 1) ∧ RD σ838.1 ∧ (¬ v837 = 0 → 1 ≤ (σ838.1 57 9).toInt ∧ (0 : Int32).toInt ≤ (lastv σ838.1).toInt ∧ (lastv σ838.1).toInt ≤ (9 : Int32).toInt) := hqv837
                  have hD : RD σ838.1 := by first | exact hqv837.2 | exact hqv837.2.1
                  have hW : WI 2 σ838.1 := WI.tr hOσ838 (by decide) (by decide) (by decide) hW
                  refine ok_if (fun hc839 => ?_) (fun hc839 => ?_)
                  · rw [J_X5_readLine_211.eq_1]
                    refine ok_if (fun hc840 => ?_) (fun hc840 => ?_)
                    · exact ok_rZ (Or.inl rfl) ⟨hT, (show ((0 : Int32) = 0 ∨ (0 : Int32) = 1) ∧ RD σ838.1 ∧ WI 2 σ838.1 from by first | exact ⟨Or.inl rfl, hD, hW⟩ | exact ⟨Or.inr rfl, hD, hW⟩ | exact ⟨Or.inl hqv837.1, hD, hW⟩ | exact ⟨hqv837.1, hD, hW⟩)⟩
                    · refine ok_gC rfl ?_
                      refine ok_zbT (Q := fun V σ => (V = 0 ∨ V = 1) ∧ RD σ.1) hT (s_X5_pass hN (hR.tr hT) (by first | exact hX | exact hT.1.2 hX) (hD)) (by decide) (fun v841 σ842 hOσ842 hT hqv841 => ?_)
                      have hqv841 : (v841 = 0 ∨ v841 = 1) ∧ RD σ842.1 := hqv841
                      have hD : RD σ842.1 := by first | exact hqv841.2 | exact hqv841.2.1
                      have hW : WI 2 σ842.1 := WI.tr hOσ842 (by decide) (by decide) (by decide) hW
                      refine ok_if (fun hc843 => ?_) (fun hc843 => ?_)
                      · exact ok_rZ (Or.inl rfl) ⟨hT, (show ((0 : Int32) = 0 ∨ (0 : Int32) = 1) ∧ RD σ842.1 ∧ WI 2 σ842.1 from by first | exact ⟨Or.inl rfl, hD, hW⟩ | exact ⟨Or.inr rfl, hD, hW⟩ | exact ⟨Or.inl hqv841.1, hD, hW⟩ | exact ⟨hqv841.1, hD, hW⟩)⟩
                      · exact ok_rZ (Or.inr rfl) ⟨hT, (show ((1 : Int32) = 0 ∨ (1 : Int32) = 1) ∧ RD σ842.1 ∧ WI 2 σ842.1 from by first | exact ⟨Or.inl rfl, hD, hW⟩ | exact ⟨Or.inr rfl, hD, hW⟩ | exact ⟨Or.inl hqv841.1, hD, hW⟩ | exact ⟨hqv841.1, hD, hW⟩)⟩
                  · refine ok_gC rfl ?_
                    refine ok_zbT (Q := fun V σ => (V = 0 ∨ V = 1) ∧ RD σ.1) hT (s_X5_pass hN (hR.tr hT) (by first | exact hX | exact hT.1.2 hX) (hD)) (by decide) (fun v844 σ845 hOσ845 hT hqv844 => ?_)
                    have hqv844 : (v844 = 0 ∨ v844 = 1) ∧ RD σ845.1 := hqv844
                    have hD : RD σ845.1 := by first | exact hqv844.2 | exact hqv844.2.1
                    have hW : WI 2 σ845.1 := WI.tr hOσ845 (by decide) (by decide) (by decide) hW
                    refine ok_if (fun hc846 => ?_) (fun hc846 => ?_)
                    · rw [J_X5_readLine_211.eq_1]
                      refine ok_if (fun hc847 => ?_) (fun hc847 => ?_)
                      · exact ok_rZ (Or.inl rfl) ⟨hT, (show ((0 : Int32) = 0 ∨ (0 : Int32) = 1) ∧ RD σ845.1 ∧ WI 2 σ845.1 from by first | exact ⟨Or.inl rfl, hD, hW⟩ | exact ⟨Or.inr rfl, hD, hW⟩ | exact ⟨Or.inl hqv844.1, hD, hW⟩ | exact ⟨hqv844.1, hD, hW⟩)⟩
                      · refine ok_gC rfl ?_
                        refine ok_zbT (Q := fun V σ => (V = 0 ∨ V = 1) ∧ RD σ.1) hT (s_X5_pass hN (hR.tr hT) (by first | exact hX | exact hT.1.2 hX) (hD)) (by decide) (fun v848 σ849 hOσ849 hT hqv848 => ?_)
                        have hqv848 : (v848 = 0 ∨ v848 = 1) ∧ RD σ849.1 := hqv848
                        have hD : RD σ849.1 := by first | exact hqv848.2 | exact hqv848.2.1
                        have hW : WI 2 σ849.1 := WI.tr hOσ849 (by decide) (by decide) (by decide) hW
                        refine ok_if (fun hc850 => ?_) (fun hc850 => ?_)
                        · exact ok_rZ (Or.inl rfl) ⟨hT, (show ((0 : Int32) = 0 ∨ (0 : Int32) = 1) ∧ RD σ849.1 ∧ WI 2 σ849.1 from by first | exact ⟨Or.inl rfl, hD, hW⟩ | exact ⟨Or.inr rfl, hD, hW⟩ | exact ⟨Or.inl hqv848.1, hD, hW⟩ | exact ⟨hqv848.1, hD, hW⟩)⟩
                        · exact ok_rZ (Or.inr rfl) ⟨hT, (show ((1 : Int32) = 0 ∨ (1 : Int32) = 1) ∧ RD σ849.1 ∧ WI 2 σ849.1 from by first | exact ⟨Or.inl rfl, hD, hW⟩ | exact ⟨Or.inr rfl, hD, hW⟩ | exact ⟨Or.inl hqv848.1, hD, hW⟩ | exact ⟨hqv848.1, hD, hW⟩)⟩
                    · refine ok_gC rfl ?_
                      refine ok_zbT (Q := fun V σ => (V = 0 ∨ V = 1) ∧ RD σ.1) hT (s_X5_sum hN (hR.tr hT) (by first | exact hX | exact hT.1.2 hX) (hD) (by have q1 := hD.1; have q2 := hD.2.1; have q3 := hD0.1; have q4 := hD0.2.1; first | omega | decide | (simp only [Int32.le_iff_toInt_le, Int32.lt_iff_toInt_lt, ti_add, ti_sub, ti_mul, Int32.reduceToInt] at *; omega) | (exfalso; simp_all; done)) (by have q1 := hD.1; have q2 := hD.2.1; have q3 := hD0.1; have q4 := hD0.2.1; first | omega | decide | (simp only [Int32.le_iff_toInt_le, Int32.lt_iff_toInt_lt, ti_add, ti_sub, ti_mul, Int32.reduceToInt] at *; omega) | (exfalso; simp_all; done))) (by decide) (fun v851 σ852 hOσ852 hT hqv851 => ?_)
                      have hqv851 : (v851 = 0 ∨ v851 = 1) ∧ RD σ852.1 := hqv851
                      have hD : RD σ852.1 := by first | exact hqv851.2 | exact hqv851.2.1
                      have hW : WI 2 σ852.1 := WI.tr hOσ852 (by decide) (by decide) (by decide) hW
                      refine ok_if (fun hc853 => ?_) (fun hc853 => ?_)
                      · rw [J_X5_readLine_211.eq_1]
                        refine ok_if (fun hc854 => ?_) (fun hc854 => ?_)
                        · exact ok_rZ (Or.inl rfl) ⟨hT, (show ((0 : Int32) = 0 ∨ (0 : Int32) = 1) ∧ RD σ852.1 ∧ WI 2 σ852.1 from by first | exact ⟨Or.inl rfl, hD, hW⟩ | exact ⟨Or.inr rfl, hD, hW⟩ | exact ⟨Or.inl hqv851.1, hD, hW⟩ | exact ⟨hqv851.1, hD, hW⟩)⟩
                        · refine ok_gC rfl ?_
                          refine ok_zbT (Q := fun V σ => (V = 0 ∨ V = 1) ∧ RD σ.1) hT (s_X5_pass hN (hR.tr hT) (by first | exact hX | exact hT.1.2 hX) (hD)) (by decide) (fun v855 σ856 hOσ856 hT hqv855 => ?_)
                          have hqv855 : (v855 = 0 ∨ v855 = 1) ∧ RD σ856.1 := hqv855
                          have hD : RD σ856.1 := by first | exact hqv855.2 | exact hqv855.2.1
                          have hW : WI 2 σ856.1 := WI.tr hOσ856 (by decide) (by decide) (by decide) hW
                          refine ok_if (fun hc857 => ?_) (fun hc857 => ?_)
                          · exact ok_rZ (Or.inl rfl) ⟨hT, (show ((0 : Int32) = 0 ∨ (0 : Int32) = 1) ∧ RD σ856.1 ∧ WI 2 σ856.1 from by first | exact ⟨Or.inl rfl, hD, hW⟩ | exact ⟨Or.inr rfl, hD, hW⟩ | exact ⟨Or.inl hqv855.1, hD, hW⟩ | exact ⟨hqv855.1, hD, hW⟩)⟩
                          · exact ok_rZ (Or.inr rfl) ⟨hT, (show ((1 : Int32) = 0 ∨ (1 : Int32) = 1) ∧ RD σ856.1 ∧ WI 2 σ856.1 from by first | exact ⟨Or.inl rfl, hD, hW⟩ | exact ⟨Or.inr rfl, hD, hW⟩ | exact ⟨Or.inl hqv855.1, hD, hW⟩ | exact ⟨hqv855.1, hD, hW⟩)⟩
                      · refine ok_gC rfl ?_
                        refine ok_zbT (Q := fun V σ => V = 1 ∧ RD σ.1) hT (s_X5_emit hN (hR.tr hT) (by first | exact hX | exact hT.1.2 hX) (hD)) (by decide) (fun v858 σ859 hOσ859 hT hqv858 => ?_)
                        have hqv858 : v858 = 1 ∧ RD σ859.1 := hqv858
                        have hD : RD σ859.1 := by first | exact hqv858.2 | exact hqv858.2.1
                        have hW : WI 2 σ859.1 := WI.tr hOσ859 (by decide) (by decide) (by decide) hW
                        refine ok_if (fun hc860 => ?_) (fun hc860 => ?_)
                        · rw [J_X5_readLine_211.eq_1]
                          refine ok_if (fun hc861 => ?_) (fun hc861 => ?_)
                          · exact ok_rZ (Or.inl rfl) ⟨hT, (show ((0 : Int32) = 0 ∨ (0 : Int32) = 1) ∧ RD σ859.1 ∧ WI 2 σ859.1 from by first | exact ⟨Or.inl rfl, hD, hW⟩ | exact ⟨Or.inr rfl, hD, hW⟩ | exact ⟨Or.inl hqv858.1, hD, hW⟩ | exact ⟨hqv858.1, hD, hW⟩)⟩
                          · refine ok_gC rfl ?_
                            refine ok_zbT (Q := fun V σ => (V = 0 ∨ V = 1) ∧ RD σ.1) hT (s_X5_pass hN (hR.tr hT) (by first | exact hX | exact hT.1.2 hX) (hD)) (by decide) (fun v862 σ863 hOσ863 hT hqv862 => ?_)
                            have hqv862 : (v862 = 0 ∨ v862 = 1) ∧ RD σ863.1 := hqv862
                            have hD : RD σ863.1 := by first | exact hqv862.2 | exact hqv862.2.1
                            have hW : WI 2 σ863.1 := WI.tr hOσ863 (by decide) (by decide) (by decide) hW
                            refine ok_if (fun hc864 => ?_) (fun hc864 => ?_)
                            · exact ok_rZ (Or.inl rfl) ⟨hT, (show ((0 : Int32) = 0 ∨ (0 : Int32) = 1) ∧ RD σ863.1 ∧ WI 2 σ863.1 from by first | exact ⟨Or.inl rfl, hD, hW⟩ | exact ⟨Or.inr rfl, hD, hW⟩ | exact ⟨Or.inl hqv862.1, hD, hW⟩ | exact ⟨hqv862.1, hD, hW⟩)⟩
                            · exact ok_rZ (Or.inr rfl) ⟨hT, (show ((1 : Int32) = 0 ∨ (1 : Int32) = 1) ∧ RD σ863.1 ∧ WI 2 σ863.1 from by first | exact ⟨Or.inl rfl, hD, hW⟩ | exact ⟨Or.inr rfl, hD, hW⟩ | exact ⟨Or.inl hqv862.1, hD, hW⟩ | exact ⟨hqv862.1, hD, hW⟩)⟩
                        · rw [J_X5_readLine_211.eq_1]
                          refine ok_if (fun hc865 => ?_) (fun hc865 => ?_)
                          · exact ok_rZ (Or.inl rfl) ⟨hT, (show ((0 : Int32) = 0 ∨ (0 : Int32) = 1) ∧ RD σ859.1 ∧ WI 2 σ859.1 from by first | exact ⟨Or.inl rfl, hD, hW⟩ | exact ⟨Or.inr rfl, hD, hW⟩ | exact ⟨Or.inl hqv858.1, hD, hW⟩ | exact ⟨hqv858.1, hD, hW⟩)⟩
                          · refine ok_gC rfl ?_
                            refine ok_zbT (Q := fun V σ => (V = 0 ∨ V = 1) ∧ RD σ.1) hT (s_X5_pass hN (hR.tr hT) (by first | exact hX | exact hT.1.2 hX) (hD)) (by decide) (fun v866 σ867 hOσ867 hT hqv866 => ?_)
                            have hqv866 : (v866 = 0 ∨ v866 = 1) ∧ RD σ867.1 := hqv866
                            have hD : RD σ867.1 := by first | exact hqv866.2 | exact hqv866.2.1
                            have hW : WI 2 σ867.1 := WI.tr hOσ867 (by decide) (by decide) (by decide) hW
                            refine ok_if (fun hc868 => ?_) (fun hc868 => ?_)
                            · exact ok_rZ (Or.inl rfl) ⟨hT, (show ((0 : Int32) = 0 ∨ (0 : Int32) = 1) ∧ RD σ867.1 ∧ WI 2 σ867.1 from by first | exact ⟨Or.inl rfl, hD, hW⟩ | exact ⟨Or.inr rfl, hD, hW⟩ | exact ⟨Or.inl hqv866.1, hD, hW⟩ | exact ⟨hqv866.1, hD, hW⟩)⟩
                            · exact ok_rZ (Or.inr rfl) ⟨hT, (show ((1 : Int32) = 0 ∨ (1 : Int32) = 1) ∧ RD σ867.1 ∧ WI 2 σ867.1 from by first | exact ⟨Or.inl rfl, hD, hW⟩ | exact ⟨Or.inr rfl, hD, hW⟩ | exact ⟨Or.inl hqv866.1, hD, hW⟩ | exact ⟨hqv866.1, hD, hW⟩)⟩
                · refine ok_gC rfl ?_
                  refine ok_zbT (Q := fun V σ => V = 0 ∧ RD σ.1) hT (s_X5_fail hN (hR.tr hT) (by first | exact hX | exact hT.1.2 hX) (hD)) (by decide) (fun v869 σ870 hOσ870 hT hqv869 => ?_)
                  have hqv869 : v869 = 0 ∧ RD σ870.1 := hqv869
                  have hD : RD σ870.1 := by first | exact hqv869.2 | exact hqv869.2.1
                  have hW : WI 2 σ870.1 := WI.tr hOσ870 (by decide) (by decide) (by decide) hW
                  exact ok_rZ (by have q := hqv869.1; first | exact q | exact Or.inl q | exact Or.inr q) ⟨hT, (show (v869 = 0 ∨ v869 = 1) ∧ RD σ870.1 ∧ WI 2 σ870.1 from by first | exact ⟨Or.inl rfl, hD, hW⟩ | exact ⟨Or.inr rfl, hD, hW⟩ | exact ⟨Or.inl hqv869.1, hD, hW⟩ | exact ⟨hqv869.1, hD, hW⟩)⟩
              · rw [J_X5_readLine_92.eq_1]
                refine ok_gC rfl ?_
                refine ok_zbT (Q := fun V σ => (V = 0 ∨ V = 1) ∧ RD σ.1) hT (s_X5_pass hN (hR.tr hT) (by first | exact hX | exact hT.1.2 hX) (hD)) (by decide) (fun v871 σ872 hOσ872 hT hqv871 => ?_)
                have hqv871 : (v871 = 0 ∨ v871 = 1) ∧ RD σ872.1 := hqv871
                have hD : RD σ872.1 := by first | exact hqv871.2 | exact hqv871.2.1
                have hW : WI 2 σ872.1 := WI.tr hOσ872 (by decide) (by decide) (by decide) hW
                refine ok_gR (v := 62) hT rfl (hR 57 11 rfl) ?_
                refine ok_gI rfl ?_
                refine ok_aIn rfl (by have q1 := hD.1; have q2 := hD.2.1; have q3 := hD0.1; have q4 := hD0.2.1; first | omega | decide | (simp only [Int32.le_iff_toInt_le, Int32.lt_iff_toInt_lt, ti_add, ti_sub, ti_mul, Int32.reduceToInt] at *; omega) | (exfalso; simp_all; done)) (by have q1 := hD.1; have q2 := hD.2.1; have q3 := hD0.1; have q4 := hD0.2.1; first | omega | decide | (simp only [Int32.le_iff_toInt_le, Int32.lt_iff_toInt_lt, ti_add, ti_sub, ti_mul, Int32.reduceToInt] at *; omega) | (exfalso; simp_all; done)) (fun v875 ev875 => ?_)
                refine ok_if (fun hc876 => ?_) (fun hc876 => ?_)
                · refine ok_gC rfl ?_
                  refine ok_zbT (Q := fun V σ => (V = 0 ∨ V = 1) ∧ RD σ.1 ∧ WI 2 σ.1) hT (s_X5_readNames_2 hN (hR.tr hT) (by first | exact hX | exact hT.1.2 hX) (hD) (hW)) (by decide) (fun v877 σ878 hOσ878 hT hqv877 => ?_)
                  have hqv877 : (v877 = 0 ∨ v877 = 1) ∧ RD σ878.1 ∧ WI 2 σ878.1 := hqv877
                  have hD : RD σ878.1 := by first | exact hqv877.2 | exact hqv877.2.1
                  have hW : WI 2 σ878.1 := by first | exact hqv877.2.2 | exact hqv877
                  rw [J_X5_readLine_211.eq_1]
                  refine ok_if (fun hc879 => ?_) (fun hc879 => ?_)
                  · exact ok_rZ (Or.inl rfl) ⟨hT, (show ((0 : Int32) = 0 ∨ (0 : Int32) = 1) ∧ RD σ878.1 ∧ WI 2 σ878.1 from by first | exact ⟨Or.inl rfl, hD, hW⟩ | exact ⟨Or.inr rfl, hD, hW⟩ | exact ⟨Or.inl hqv877.1, hD, hW⟩ | exact ⟨hqv877.1, hD, hW⟩)⟩
                  · refine ok_gC rfl ?_
                    refine ok_zbT (Q := fun V σ => (V = 0 ∨ V = 1) ∧ RD σ.1) hT (s_X5_pass hN (hR.tr hT) (by first | exact hX | exact hT.1.2 hX) (hD)) (by decide) (fun v880 σ881 hOσ881 hT hqv880 => ?_)
                    have hqv880 : (v880 = 0 ∨ v880 = 1) ∧ RD σ881.1 := hqv880
                    have hD : RD σ881.1 := by first | exact hqv880.2 | exact hqv880.2.1
                    have hW : WI 2 σ881.1 := WI.tr hOσ881 (by decide) (by decide) (by decide) hW
                    refine ok_if (fun hc882 => ?_) (fun hc882 => ?_)
                    · exact ok_rZ (Or.inl rfl) ⟨hT, (show ((0 : Int32) = 0 ∨ (0 : Int32) = 1) ∧ RD σ881.1 ∧ WI 2 σ881.1 from by first | exact ⟨Or.inl rfl, hD, hW⟩ | exact ⟨Or.inr rfl, hD, hW⟩ | exact ⟨Or.inl hqv880.1, hD, hW⟩ | exact ⟨hqv880.1, hD, hW⟩)⟩
                    · exact ok_rZ (Or.inr rfl) ⟨hT, (show ((1 : Int32) = 0 ∨ (1 : Int32) = 1) ∧ RD σ881.1 ∧ WI 2 σ881.1 from by first | exact ⟨Or.inl rfl, hD, hW⟩ | exact ⟨Or.inr rfl, hD, hW⟩ | exact ⟨Or.inl hqv880.1, hD, hW⟩ | exact ⟨hqv880.1, hD, hW⟩)⟩
                refine ok_if (fun hc883 => ?_) (fun hc883 => ?_)
                · refine ok_gC rfl ?_
                  refine ok_zbT (Q := fun V σ => (V = 0 ∨ V = 1) ∧ RD σ.1 ∧ WI 2 σ.1) hT (s_X5_readWeight_2 hN (hR.tr hT) (by first | exact hX | exact hT.1.2 hX) (hD) (hW)) (by decide) (fun v884 σ885 hOσ885 hT hqv884 => ?_)
                  have hqv884 : (v884 = 0 ∨ v884 = 1) ∧ RD σ885.1 ∧ WI 2 σ885.1 := hqv884
                  have hD : RD σ885.1 := by first | exact hqv884.2 | exact hqv884.2.1
                  have hW : WI 2 σ885.1 := WI.tr hOσ885 (by decide) (by decide) (by decide) hW
                  rw [J_X5_readLine_211.eq_1]
                  refine ok_if (fun hc886 => ?_) (fun hc886 => ?_)
                  · exact ok_rZ (Or.inl rfl) ⟨hT, (show ((0 : Int32) = 0 ∨ (0 : Int32) = 1) ∧ RD σ885.1 ∧ WI 2 σ885.1 from by first | exact ⟨Or.inl rfl, hD, hW⟩ | exact ⟨Or.inr rfl, hD, hW⟩ | exact ⟨Or.inl hqv884.1, hD, hW⟩ | exact ⟨hqv884.1, hD, hW⟩)⟩
                  · refine ok_gC rfl ?_
                    refine ok_zbT (Q := fun V σ => (V = 0 ∨ V = 1) ∧ RD σ.1) hT (s_X5_pass hN (hR.tr hT) (by first | exact hX | exact hT.1.2 hX) (hD)) (by decide) (fun v887 σ888 hOσ888 hT hqv887 => ?_)
                    have hqv887 : (v887 = 0 ∨ v887 = 1) ∧ RD σ888.1 := hqv887
                    have hD : RD σ888.1 := by first | exact hqv887.2 | exact hqv887.2.1
                    have hW : WI 2 σ888.1 := WI.tr hOσ888 (by decide) (by decide) (by decide) hW
                    refine ok_if (fun hc889 => ?_) (fun hc889 => ?_)
                    · exact ok_rZ (Or.inl rfl) ⟨hT, (show ((0 : Int32) = 0 ∨ (0 : Int32) = 1) ∧ RD σ888.1 ∧ WI 2 σ888.1 from by first | exact ⟨Or.inl rfl, hD, hW⟩ | exact ⟨Or.inr rfl, hD, hW⟩ | exact ⟨Or.inl hqv887.1, hD, hW⟩ | exact ⟨hqv887.1, hD, hW⟩)⟩
                    · exact ok_rZ (Or.inr rfl) ⟨hT, (show ((1 : Int32) = 0 ∨ (1 : Int32) = 1) ∧ RD σ888.1 ∧ WI 2 σ888.1 from by first | exact ⟨Or.inl rfl, hD, hW⟩ | exact ⟨Or.inr rfl, hD, hW⟩ | exact ⟨Or.inl hqv887.1, hD, hW⟩ | exact ⟨hqv887.1, hD, hW⟩)⟩
                refine ok_if (fun hc890 => ?_) (fun hc890 => ?_)
                · refine ok_gC rfl ?_
                  refine ok_zbT (Q := fun V σ => (V = 0 ∨ V = 1) ∧ RD σ.1 ∧ WI 2 σ.1) hT (s_X5_readEdge_2 hN (hR.tr hT) (by first | exact hX | exact hT.1.2 hX) (hD) (hW)) (by decide) (fun v891 σ892 hOσ892 hT hqv891 => ?_)
                  have hqv891 : (v891 = 0 ∨ v891 = 1) ∧ RD σ892.1 ∧ WI 2 σ892.1 := hqv891
                  have hD : RD σ892.1 := by first | exact hqv891.2 | exact hqv891.2.1
                  have hW : WI 2 σ892.1 := by first | exact hqv891.2.2 | exact hqv891
                  rw [J_X5_readLine_211.eq_1]
                  refine ok_if (fun hc893 => ?_) (fun hc893 => ?_)
                  · exact ok_rZ (Or.inl rfl) ⟨hT, (show ((0 : Int32) = 0 ∨ (0 : Int32) = 1) ∧ RD σ892.1 ∧ WI 2 σ892.1 from by first | exact ⟨Or.inl rfl, hD, hW⟩ | exact ⟨Or.inr rfl, hD, hW⟩ | exact ⟨Or.inl hqv891.1, hD, hW⟩ | exact ⟨hqv891.1, hD, hW⟩)⟩
                  · refine ok_gC rfl ?_
                    refine ok_zbT (Q := fun V σ => (V = 0 ∨ V = 1) ∧ RD σ.1) hT (s_X5_pass hN (hR.tr hT) (by first | exact hX | exact hT.1.2 hX) (hD)) (by decide) (fun v894 σ895 hOσ895 hT hqv894 => ?_)
                    have hqv894 : (v894 = 0 ∨ v894 = 1) ∧ RD σ895.1 := hqv894
                    have hD : RD σ895.1 := by first | exact hqv894.2 | exact hqv894.2.1
                    have hW : WI 2 σ895.1 := WI.tr hOσ895 (by decide) (by decide) (by decide) hW
                    refine ok_if (fun hc896 => ?_) (fun hc896 => ?_)
                    · exact ok_rZ (Or.inl rfl) ⟨hT, (show ((0 : Int32) = 0 ∨ (0 : Int32) = 1) ∧ RD σ895.1 ∧ WI 2 σ895.1 from by first | exact ⟨Or.inl rfl, hD, hW⟩ | exact ⟨Or.inr rfl, hD, hW⟩ | exact ⟨Or.inl hqv894.1, hD, hW⟩ | exact ⟨hqv894.1, hD, hW⟩)⟩
                    · exact ok_rZ (Or.inr rfl) ⟨hT, (show ((1 : Int32) = 0 ∨ (1 : Int32) = 1) ∧ RD σ895.1 ∧ WI 2 σ895.1 from by first | exact ⟨Or.inl rfl, hD, hW⟩ | exact ⟨Or.inr rfl, hD, hW⟩ | exact ⟨Or.inl hqv894.1, hD, hW⟩ | exact ⟨hqv894.1, hD, hW⟩)⟩
                refine ok_gC rfl ?_
                refine ok_zbT (Q := fun V σ => (V = 0 ∨ V = 1) ∧ RD σ.1 ∧ (¬ V = 0 → 1 ≤ (σ.1 57 9).toInt ∧ (0 : Int32).toInt ≤ (lastv σ.1).toInt ∧ (lastv σ.1).toInt ≤ (9 : Int32).toInt)) hT (s_X5_passNumber hN (hR.tr hT) (by first | exact hX | exact hT.1.2 hX) (hD)) (by decide) (fun v897 σ898 hOσ898 hT hqv897 => ?_)
                have hqv897 : (v897 = 0 ∨ v897 = 1) ∧ RD σ898.1 ∧ (¬ v897 = 0 → 1 ≤ (σ898.1 57 9).toInt ∧ (0 : Int32).toInt ≤ (lastv σ898.1).toInt ∧ (lastv σ898.1).toInt ≤ (9 : Int32).toInt) := hqv897
                have hD : RD σ898.1 := by first | exact hqv897.2 | exact hqv897.2.1
                have hW : WI 2 σ898.1 := WI.tr hOσ898 (by decide) (by decide) (by decide) hW
                refine ok_if (fun hc899 => ?_) (fun hc899 => ?_)
                · rw [J_X5_readLine_211.eq_1]
                  refine ok_if (fun hc900 => ?_) (fun hc900 => ?_)
                  · exact ok_rZ (Or.inl rfl) ⟨hT, (show ((0 : Int32) = 0 ∨ (0 : Int32) = 1) ∧ RD σ898.1 ∧ WI 2 σ898.1 from by first | exact ⟨Or.inl rfl, hD, hW⟩ | exact ⟨Or.inr rfl, hD, hW⟩ | exact ⟨Or.inl hqv897.1, hD, hW⟩ | exact ⟨hqv897.1, hD, hW⟩)⟩
                  · refine ok_gC rfl ?_
                    refine ok_zbT (Q := fun V σ => (V = 0 ∨ V = 1) ∧ RD σ.1) hT (s_X5_pass hN (hR.tr hT) (by first | exact hX | exact hT.1.2 hX) (hD)) (by decide) (fun v901 σ902 hOσ902 hT hqv901 => ?_)
                    have hqv901 : (v901 = 0 ∨ v901 = 1) ∧ RD σ902.1 := hqv901
                    have hD : RD σ902.1 := by first | exact hqv901.2 | exact hqv901.2.1
                    have hW : WI 2 σ902.1 := WI.tr hOσ902 (by decide) (by decide) (by decide) hW
                    refine ok_if (fun hc903 => ?_) (fun hc903 => ?_)
                    · exact ok_rZ (Or.inl rfl) ⟨hT, (show ((0 : Int32) = 0 ∨ (0 : Int32) = 1) ∧ RD σ902.1 ∧ WI 2 σ902.1 from by first | exact ⟨Or.inl rfl, hD, hW⟩ | exact ⟨Or.inr rfl, hD, hW⟩ | exact ⟨Or.inl hqv901.1, hD, hW⟩ | exact ⟨hqv901.1, hD, hW⟩)⟩
                    · exact ok_rZ (Or.inr rfl) ⟨hT, (show ((1 : Int32) = 0 ∨ (1 : Int32) = 1) ∧ RD σ902.1 ∧ WI 2 σ902.1 from by first | exact ⟨Or.inl rfl, hD, hW⟩ | exact ⟨Or.inr rfl, hD, hW⟩ | exact ⟨Or.inl hqv901.1, hD, hW⟩ | exact ⟨hqv901.1, hD, hW⟩)⟩
                · refine ok_gC rfl ?_
                  refine ok_zbT (Q := fun V σ => (V = 0 ∨ V = 1) ∧ RD σ.1) hT (s_X5_pass hN (hR.tr hT) (by first | exact hX | exact hT.1.2 hX) (hD)) (by decide) (fun v904 σ905 hOσ905 hT hqv904 => ?_)
                  have hqv904 : (v904 = 0 ∨ v904 = 1) ∧ RD σ905.1 := hqv904
                  have hD : RD σ905.1 := by first | exact hqv904.2 | exact hqv904.2.1
                  have hW : WI 2 σ905.1 := WI.tr hOσ905 (by decide) (by decide) (by decide) hW
                  refine ok_if (fun hc906 => ?_) (fun hc906 => ?_)
                  · rw [J_X5_readLine_211.eq_1]
                    refine ok_if (fun hc907 => ?_) (fun hc907 => ?_)
                    · exact ok_rZ (Or.inl rfl) ⟨hT, (show ((0 : Int32) = 0 ∨ (0 : Int32) = 1) ∧ RD σ905.1 ∧ WI 2 σ905.1 from by first | exact ⟨Or.inl rfl, hD, hW⟩ | exact ⟨Or.inr rfl, hD, hW⟩ | exact ⟨Or.inl hqv904.1, hD, hW⟩ | exact ⟨hqv904.1, hD, hW⟩)⟩
                    · refine ok_gC rfl ?_
                      refine ok_zbT (Q := fun V σ => (V = 0 ∨ V = 1) ∧ RD σ.1) hT (s_X5_pass hN (hR.tr hT) (by first | exact hX | exact hT.1.2 hX) (hD)) (by decide) (fun v908 σ909 hOσ909 hT hqv908 => ?_)
                      have hqv908 : (v908 = 0 ∨ v908 = 1) ∧ RD σ909.1 := hqv908
                      have hD : RD σ909.1 := by first | exact hqv908.2 | exact hqv908.2.1
                      have hW : WI 2 σ909.1 := WI.tr hOσ909 (by decide) (by decide) (by decide) hW
                      refine ok_if (fun hc910 => ?_) (fun hc910 => ?_)
                      · exact ok_rZ (Or.inl rfl) ⟨hT, (show ((0 : Int32) = 0 ∨ (0 : Int32) = 1) ∧ RD σ909.1 ∧ WI 2 σ909.1 from by first | exact ⟨Or.inl rfl, hD, hW⟩ | exact ⟨Or.inr rfl, hD, hW⟩ | exact ⟨Or.inl hqv908.1, hD, hW⟩ | exact ⟨hqv908.1, hD, hW⟩)⟩
                      · exact ok_rZ (Or.inr rfl) ⟨hT, (show ((1 : Int32) = 0 ∨ (1 : Int32) = 1) ∧ RD σ909.1 ∧ WI 2 σ909.1 from by first | exact ⟨Or.inl rfl, hD, hW⟩ | exact ⟨Or.inr rfl, hD, hW⟩ | exact ⟨Or.inl hqv908.1, hD, hW⟩ | exact ⟨hqv908.1, hD, hW⟩)⟩
                  · refine ok_gC rfl ?_
                    refine ok_zbT (Q := fun V σ => (V = 0 ∨ V = 1) ∧ RD σ.1) hT (s_X5_sum hN (hR.tr hT) (by first | exact hX | exact hT.1.2 hX) (hD) (by have q1 := hD.1; have q2 := hD.2.1; have q3 := hD0.1; have q4 := hD0.2.1; first | omega | decide | (simp only [Int32.le_iff_toInt_le, Int32.lt_iff_toInt_lt, ti_add, ti_sub, ti_mul, Int32.reduceToInt] at *; omega) | (exfalso; simp_all; done)) (by have q1 := hD.1; have q2 := hD.2.1; have q3 := hD0.1; have q4 := hD0.2.1; first | omega | decide | (simp only [Int32.le_iff_toInt_le, Int32.lt_iff_toInt_lt, ti_add, ti_sub, ti_mul, Int32.reduceToInt] at *; omega) | (exfalso; simp_all; done))) (by decide) (fun v911 σ912 hOσ912 hT hqv911 => ?_)
                    have hqv911 : (v911 = 0 ∨ v911 = 1) ∧ RD σ912.1 := hqv911
                    have hD : RD σ912.1 := by first | exact hqv911.2 | exact hqv911.2.1
                    have hW : WI 2 σ912.1 := WI.tr hOσ912 (by decide) (by decide) (by decide) hW
                    refine ok_if (fun hc913 => ?_) (fun hc913 => ?_)
                    · rw [J_X5_readLine_211.eq_1]
                      refine ok_if (fun hc914 => ?_) (fun hc914 => ?_)
                      · exact ok_rZ (Or.inl rfl) ⟨hT, (show ((0 : Int32) = 0 ∨ (0 : Int32) = 1) ∧ RD σ912.1 ∧ WI 2 σ912.1 from by first | exact ⟨Or.inl rfl, hD, hW⟩ | exact ⟨Or.inr rfl, hD, hW⟩ | exact ⟨Or.inl hqv911.1, hD, hW⟩ | exact ⟨hqv911.1, hD, hW⟩)⟩
                      · refine ok_gC rfl ?_
                        refine ok_zbT (Q := fun V σ => (V = 0 ∨ V = 1) ∧ RD σ.1) hT (s_X5_pass hN (hR.tr hT) (by first | exact hX | exact hT.1.2 hX) (hD)) (by decide) (fun v915 σ916 hOσ916 hT hqv915 => ?_)
                        have hqv915 : (v915 = 0 ∨ v915 = 1) ∧ RD σ916.1 := hqv915
                        have hD : RD σ916.1 := by first | exact hqv915.2 | exact hqv915.2.1
                        have hW : WI 2 σ916.1 := WI.tr hOσ916 (by decide) (by decide) (by decide) hW
                        refine ok_if (fun hc917 => ?_) (fun hc917 => ?_)
                        · exact ok_rZ (Or.inl rfl) ⟨hT, (show ((0 : Int32) = 0 ∨ (0 : Int32) = 1) ∧ RD σ916.1 ∧ WI 2 σ916.1 from by first | exact ⟨Or.inl rfl, hD, hW⟩ | exact ⟨Or.inr rfl, hD, hW⟩ | exact ⟨Or.inl hqv915.1, hD, hW⟩ | exact ⟨hqv915.1, hD, hW⟩)⟩
                        · exact ok_rZ (Or.inr rfl) ⟨hT, (show ((1 : Int32) = 0 ∨ (1 : Int32) = 1) ∧ RD σ916.1 ∧ WI 2 σ916.1 from by first | exact ⟨Or.inl rfl, hD, hW⟩ | exact ⟨Or.inr rfl, hD, hW⟩ | exact ⟨Or.inl hqv915.1, hD, hW⟩ | exact ⟨hqv915.1, hD, hW⟩)⟩
                    · refine ok_gC rfl ?_
                      refine ok_zbT (Q := fun V σ => V = 1 ∧ RD σ.1) hT (s_X5_emit hN (hR.tr hT) (by first | exact hX | exact hT.1.2 hX) (hD)) (by decide) (fun v918 σ919 hOσ919 hT hqv918 => ?_)
                      have hqv918 : v918 = 1 ∧ RD σ919.1 := hqv918
                      have hD : RD σ919.1 := by first | exact hqv918.2 | exact hqv918.2.1
                      have hW : WI 2 σ919.1 := WI.tr hOσ919 (by decide) (by decide) (by decide) hW
                      refine ok_if (fun hc920 => ?_) (fun hc920 => ?_)
                      · rw [J_X5_readLine_211.eq_1]
                        refine ok_if (fun hc921 => ?_) (fun hc921 => ?_)
                        · exact ok_rZ (Or.inl rfl) ⟨hT, (show ((0 : Int32) = 0 ∨ (0 : Int32) = 1) ∧ RD σ919.1 ∧ WI 2 σ919.1 from by first | exact ⟨Or.inl rfl, hD, hW⟩ | exact ⟨Or.inr rfl, hD, hW⟩ | exact ⟨Or.inl hqv918.1, hD, hW⟩ | exact ⟨hqv918.1, hD, hW⟩)⟩
                        · refine ok_gC rfl ?_
                          refine ok_zbT (Q := fun V σ => (V = 0 ∨ V = 1) ∧ RD σ.1) hT (s_X5_pass hN (hR.tr hT) (by first | exact hX | exact hT.1.2 hX) (hD)) (by decide) (fun v922 σ923 hOσ923 hT hqv922 => ?_)
                          have hqv922 : (v922 = 0 ∨ v922 = 1) ∧ RD σ923.1 := hqv922
                          have hD : RD σ923.1 := by first | exact hqv922.2 | exact hqv922.2.1
                          have hW : WI 2 σ923.1 := WI.tr hOσ923 (by decide) (by decide) (by decide) hW
                          refine ok_if (fun hc924 => ?_) (fun hc924 => ?_)
                          · exact ok_rZ (Or.inl rfl) ⟨hT, (show ((0 : Int32) = 0 ∨ (0 : Int32) = 1) ∧ RD σ923.1 ∧ WI 2 σ923.1 from by first | exact ⟨Or.inl rfl, hD, hW⟩ | exact ⟨Or.inr rfl, hD, hW⟩ | exact ⟨Or.inl hqv922.1, hD, hW⟩ | exact ⟨hqv922.1, hD, hW⟩)⟩
                          · exact ok_rZ (Or.inr rfl) ⟨hT, (show ((1 : Int32) = 0 ∨ (1 : Int32) = 1) ∧ RD σ923.1 ∧ WI 2 σ923.1 from by first | exact ⟨Or.inl rfl, hD, hW⟩ | exact ⟨Or.inr rfl, hD, hW⟩ | exact ⟨Or.inl hqv922.1, hD, hW⟩ | exact ⟨hqv922.1, hD, hW⟩)⟩
                      · rw [J_X5_readLine_211.eq_1]
                        refine ok_if (fun hc925 => ?_) (fun hc925 => ?_)
                        · exact ok_rZ (Or.inl rfl) ⟨hT, (show ((0 : Int32) = 0 ∨ (0 : Int32) = 1) ∧ RD σ919.1 ∧ WI 2 σ919.1 from by first | exact ⟨Or.inl rfl, hD, hW⟩ | exact ⟨Or.inr rfl, hD, hW⟩ | exact ⟨Or.inl hqv918.1, hD, hW⟩ | exact ⟨hqv918.1, hD, hW⟩)⟩
                        · refine ok_gC rfl ?_
                          refine ok_zbT (Q := fun V σ => (V = 0 ∨ V = 1) ∧ RD σ.1) hT (s_X5_pass hN (hR.tr hT) (by first | exact hX | exact hT.1.2 hX) (hD)) (by decide) (fun v926 σ927 hOσ927 hT hqv926 => ?_)
                          have hqv926 : (v926 = 0 ∨ v926 = 1) ∧ RD σ927.1 := hqv926
                          have hD : RD σ927.1 := by first | exact hqv926.2 | exact hqv926.2.1
                          have hW : WI 2 σ927.1 := WI.tr hOσ927 (by decide) (by decide) (by decide) hW
                          refine ok_if (fun hc928 => ?_) (fun hc928 => ?_)
                          · exact ok_rZ (Or.inl rfl) ⟨hT, (show ((0 : Int32) = 0 ∨ (0 : Int32) = 1) ∧ RD σ927.1 ∧ WI 2 σ927.1 from by first | exact ⟨Or.inl rfl, hD, hW⟩ | exact ⟨Or.inr rfl, hD, hW⟩ | exact ⟨Or.inl hqv926.1, hD, hW⟩ | exact ⟨hqv926.1, hD, hW⟩)⟩
                          · exact ok_rZ (Or.inr rfl) ⟨hT, (show ((1 : Int32) = 0 ∨ (1 : Int32) = 1) ∧ RD σ927.1 ∧ WI 2 σ927.1 from by first | exact ⟨Or.inl rfl, hD, hW⟩ | exact ⟨Or.inr rfl, hD, hW⟩ | exact ⟨Or.inl hqv926.1, hD, hW⟩ | exact ⟨hqv926.1, hD, hW⟩)⟩
            · refine ok_gC rfl ?_
              refine ok_zbT (Q := fun V σ => V = 0 ∧ RD σ.1) hT (s_X5_fail hN (hR.tr hT) (by first | exact hX | exact hT.1.2 hX) (hD)) (by decide) (fun v929 σ930 hOσ930 hT hqv929 => ?_)
              have hqv929 : v929 = 0 ∧ RD σ930.1 := hqv929
              have hD : RD σ930.1 := by first | exact hqv929.2 | exact hqv929.2.1
              have hW : WI 2 σ930.1 := WI.tr hOσ930 (by decide) (by decide) (by decide) hW
              exact ok_rZ (by have q := hqv929.1; first | exact q | exact Or.inl q | exact Or.inr q) ⟨hT, (show (v929 = 0 ∨ v929 = 1) ∧ RD σ930.1 ∧ WI 2 σ930.1 from by first | exact ⟨Or.inl rfl, hD, hW⟩ | exact ⟨Or.inr rfl, hD, hW⟩ | exact ⟨Or.inl hqv929.1, hD, hW⟩ | exact ⟨hqv929.1, hD, hW⟩)⟩
        · refine ok_gC rfl ?_
          refine ok_zbT (Q := fun V σ => V = 0 ∧ RD σ.1) hT (s_X5_fail hN (hR.tr hT) (by first | exact hX | exact hT.1.2 hX) (hD)) (by decide) (fun v931 σ932 hOσ932 hT hqv931 => ?_)
          have hqv931 : v931 = 0 ∧ RD σ932.1 := hqv931
          have hD : RD σ932.1 := by first | exact hqv931.2 | exact hqv931.2.1
          have hW : WI 2 σ932.1 := WI.tr hOσ932 (by decide) (by decide) (by decide) hW
          exact ok_rZ (by have q := hqv931.1; first | exact q | exact Or.inl q | exact Or.inr q) ⟨hT, (show (v931 = 0 ∨ v931 = 1) ∧ RD σ932.1 ∧ WI 2 σ932.1 from by first | exact ⟨Or.inl rfl, hD, hW⟩ | exact ⟨Or.inr rfl, hD, hW⟩ | exact ⟨Or.inl hqv931.1, hD, hW⟩ | exact ⟨hqv931.1, hD, hW⟩)⟩
      · rw [J_X5_readLine_51.eq_1]
        refine ok_if (fun hc933 => ?_) (fun hc933 => ?_)
        · refine ok_if (fun hc934 => ?_) (fun hc934 => ?_)
          · refine ok_gC rfl ?_
            refine ok_zbT (Q := fun V σ => V = 0 ∧ RD σ.1) hT (s_X5_fail hN (hR.tr hT) (by first | exact hX | exact hT.1.2 hX) (hD)) (by decide) (fun v935 σ936 hOσ936 hT hqv935 => ?_)
            have hqv935 : v935 = 0 ∧ RD σ936.1 := hqv935
            have hD : RD σ936.1 := by first | exact hqv935.2 | exact hqv935.2.1
            have hW : WI 2 σ936.1 := WI.tr hOσ936 (by decide) (by decide) (by decide) hW
            exact ok_rZ (by have q := hqv935.1; first | exact q | exact Or.inl q | exact Or.inr q) ⟨hT, (show (v935 = 0 ∨ v935 = 1) ∧ RD σ936.1 ∧ WI 2 σ936.1 from by first | exact ⟨Or.inl rfl, hD, hW⟩ | exact ⟨Or.inr rfl, hD, hW⟩ | exact ⟨Or.inl hqv935.1, hD, hW⟩ | exact ⟨hqv935.1, hD, hW⟩)⟩
          · refine ok_if (fun hc937 => ?_) (fun hc937 => ?_)
            · refine ok_if (fun hc938 => ?_) (fun hc938 => ?_)
              · refine ok_gI rfl ?_
                refine ok_gI rfl ?_
                refine ok_if (fun hc941 => ?_) (fun hc941 => ?_)
                · rw [J_X5_readLine_92.eq_1]
                  refine ok_gC rfl ?_
                  refine ok_zbT (Q := fun V σ => (V = 0 ∨ V = 1) ∧ RD σ.1) hT (s_X5_pass hN (hR.tr hT) (by first | exact hX | exact hT.1.2 hX) (hD)) (by decide) (fun v942 σ943 hOσ943 hT hqv942 => ?_)
                  have hqv942 : (v942 = 0 ∨ v942 = 1) ∧ RD σ943.1 := hqv942
                  have hD : RD σ943.1 := by first | exact hqv942.2 | exact hqv942.2.1
                  have hW : WI 2 σ943.1 := WI.tr hOσ943 (by decide) (by decide) (by decide) hW
                  refine ok_gR (v := 62) hT rfl (hR 57 11 rfl) ?_
                  refine ok_gI rfl ?_
                  refine ok_aIn rfl (by have q1 := hD.1; have q2 := hD.2.1; have q3 := hD0.1; have q4 := hD0.2.1; first | omega | decide | (simp only [Int32.le_iff_toInt_le, Int32.lt_iff_toInt_lt, ti_add, ti_sub, ti_mul, Int32.reduceToInt] at *; omega) | (exfalso; simp_all; done)) (by have q1 := hD.1; have q2 := hD.2.1; have q3 := hD0.1; have q4 := hD0.2.1; first | omega | decide | (simp only [Int32.le_iff_toInt_le, Int32.lt_iff_toInt_lt, ti_add, ti_sub, ti_mul, Int32.reduceToInt] at *; omega) | (exfalso; simp_all; done)) (fun v946 ev946 => ?_)
                  refine ok_if (fun hc947 => ?_) (fun hc947 => ?_)
                  · refine ok_gC rfl ?_
                    refine ok_zbT (Q := fun V σ => (V = 0 ∨ V = 1) ∧ RD σ.1 ∧ WI 2 σ.1) hT (s_X5_readNames_2 hN (hR.tr hT) (by first | exact hX | exact hT.1.2 hX) (hD) (hW)) (by decide) (fun v948 σ949 hOσ949 hT hqv948 => ?_)
                    have hqv948 : (v948 = 0 ∨ v948 = 1) ∧ RD σ949.1 ∧ WI 2 σ949.1 := hqv948
                    have hD : RD σ949.1 := by first | exact hqv948.2 | exact hqv948.2.1
                    have hW : WI 2 σ949.1 := by first | exact hqv948.2.2 | exact hqv948
                    rw [J_X5_readLine_211.eq_1]
                    refine ok_if (fun hc950 => ?_) (fun hc950 => ?_)
                    · exact ok_rZ (Or.inl rfl) ⟨hT, (show ((0 : Int32) = 0 ∨ (0 : Int32) = 1) ∧ RD σ949.1 ∧ WI 2 σ949.1 from by first | exact ⟨Or.inl rfl, hD, hW⟩ | exact ⟨Or.inr rfl, hD, hW⟩ | exact ⟨Or.inl hqv948.1, hD, hW⟩ | exact ⟨hqv948.1, hD, hW⟩)⟩
                    · refine ok_gC rfl ?_
                      refine ok_zbT (Q := fun V σ => (V = 0 ∨ V = 1) ∧ RD σ.1) hT (s_X5_pass hN (hR.tr hT) (by first | exact hX | exact hT.1.2 hX) (hD)) (by decide) (fun v951 σ952 hOσ952 hT hqv951 => ?_)
                      have hqv951 : (v951 = 0 ∨ v951 = 1) ∧ RD σ952.1 := hqv951
                      have hD : RD σ952.1 := by first | exact hqv951.2 | exact hqv951.2.1
                      have hW : WI 2 σ952.1 := WI.tr hOσ952 (by decide) (by decide) (by decide) hW
                      refine ok_if (fun hc953 => ?_) (fun hc953 => ?_)
                      · exact ok_rZ (Or.inl rfl) ⟨hT, (show ((0 : Int32) = 0 ∨ (0 : Int32) = 1) ∧ RD σ952.1 ∧ WI 2 σ952.1 from by first | exact ⟨Or.inl rfl, hD, hW⟩ | exact ⟨Or.inr rfl, hD, hW⟩ | exact ⟨Or.inl hqv951.1, hD, hW⟩ | exact ⟨hqv951.1, hD, hW⟩)⟩
                      · exact ok_rZ (Or.inr rfl) ⟨hT, (show ((1 : Int32) = 0 ∨ (1 : Int32) = 1) ∧ RD σ952.1 ∧ WI 2 σ952.1 from by first | exact ⟨Or.inl rfl, hD, hW⟩ | exact ⟨Or.inr rfl, hD, hW⟩ | exact ⟨Or.inl hqv951.1, hD, hW⟩ | exact ⟨hqv951.1, hD, hW⟩)⟩
                  refine ok_if (fun hc954 => ?_) (fun hc954 => ?_)
                  · refine ok_gC rfl ?_
                    refine ok_zbT (Q := fun V σ => (V = 0 ∨ V = 1) ∧ RD σ.1 ∧ WI 2 σ.1) hT (s_X5_readWeight_2 hN (hR.tr hT) (by first | exact hX | exact hT.1.2 hX) (hD) (hW)) (by decide) (fun v955 σ956 hOσ956 hT hqv955 => ?_)
                    have hqv955 : (v955 = 0 ∨ v955 = 1) ∧ RD σ956.1 ∧ WI 2 σ956.1 := hqv955
                    have hD : RD σ956.1 := by first | exact hqv955.2 | exact hqv955.2.1
                    have hW : WI 2 σ956.1 := WI.tr hOσ956 (by decide) (by decide) (by decide) hW
                    rw [J_X5_readLine_211.eq_1]
                    refine ok_if (fun hc957 => ?_) (fun hc957 => ?_)
                    · exact ok_rZ (Or.inl rfl) ⟨hT, (show ((0 : Int32) = 0 ∨ (0 : Int32) = 1) ∧ RD σ956.1 ∧ WI 2 σ956.1 from by first | exact ⟨Or.inl rfl, hD, hW⟩ | exact ⟨Or.inr rfl, hD, hW⟩ | exact ⟨Or.inl hqv955.1, hD, hW⟩ | exact ⟨hqv955.1, hD, hW⟩)⟩
                    · refine ok_gC rfl ?_
                      refine ok_zbT (Q := fun V σ => (V = 0 ∨ V = 1) ∧ RD σ.1) hT (s_X5_pass hN (hR.tr hT) (by first | exact hX | exact hT.1.2 hX) (hD)) (by decide) (fun v958 σ959 hOσ959 hT hqv958 => ?_)
                      have hqv958 : (v958 = 0 ∨ v958 = 1) ∧ RD σ959.1 := hqv958
                      have hD : RD σ959.1 := by first | exact hqv958.2 | exact hqv958.2.1
                      have hW : WI 2 σ959.1 := WI.tr hOσ959 (by decide) (by decide) (by decide) hW
                      refine ok_if (fun hc960 => ?_) (fun hc960 => ?_)
                      · exact ok_rZ (Or.inl rfl) ⟨hT, (show ((0 : Int32) = 0 ∨ (0 : Int32) = 1) ∧ RD σ959.1 ∧ WI 2 σ959.1 from by first | exact ⟨Or.inl rfl, hD, hW⟩ | exact ⟨Or.inr rfl, hD, hW⟩ | exact ⟨Or.inl hqv958.1, hD, hW⟩ | exact ⟨hqv958.1, hD, hW⟩)⟩
                      · exact ok_rZ (Or.inr rfl) ⟨hT, (show ((1 : Int32) = 0 ∨ (1 : Int32) = 1) ∧ RD σ959.1 ∧ WI 2 σ959.1 from by first | exact ⟨Or.inl rfl, hD, hW⟩ | exact ⟨Or.inr rfl, hD, hW⟩ | exact ⟨Or.inl hqv958.1, hD, hW⟩ | exact ⟨hqv958.1, hD, hW⟩)⟩
                  refine ok_if (fun hc961 => ?_) (fun hc961 => ?_)
                  · refine ok_gC rfl ?_
                    refine ok_zbT (Q := fun V σ => (V = 0 ∨ V = 1) ∧ RD σ.1 ∧ WI 2 σ.1) hT (s_X5_readEdge_2 hN (hR.tr hT) (by first | exact hX | exact hT.1.2 hX) (hD) (hW)) (by decide) (fun v962 σ963 hOσ963 hT hqv962 => ?_)
                    have hqv962 : (v962 = 0 ∨ v962 = 1) ∧ RD σ963.1 ∧ WI 2 σ963.1 := hqv962
                    have hD : RD σ963.1 := by first | exact hqv962.2 | exact hqv962.2.1
                    have hW : WI 2 σ963.1 := by first | exact hqv962.2.2 | exact hqv962
                    rw [J_X5_readLine_211.eq_1]
                    refine ok_if (fun hc964 => ?_) (fun hc964 => ?_)
                    · exact ok_rZ (Or.inl rfl) ⟨hT, (show ((0 : Int32) = 0 ∨ (0 : Int32) = 1) ∧ RD σ963.1 ∧ WI 2 σ963.1 from by first | exact ⟨Or.inl rfl, hD, hW⟩ | exact ⟨Or.inr rfl, hD, hW⟩ | exact ⟨Or.inl hqv962.1, hD, hW⟩ | exact ⟨hqv962.1, hD, hW⟩)⟩
                    · refine ok_gC rfl ?_
                      refine ok_zbT (Q := fun V σ => (V = 0 ∨ V = 1) ∧ RD σ.1) hT (s_X5_pass hN (hR.tr hT) (by first | exact hX | exact hT.1.2 hX) (hD)) (by decide) (fun v965 σ966 hOσ966 hT hqv965 => ?_)
                      have hqv965 : (v965 = 0 ∨ v965 = 1) ∧ RD σ966.1 := hqv965
                      have hD : RD σ966.1 := by first | exact hqv965.2 | exact hqv965.2.1
                      have hW : WI 2 σ966.1 := WI.tr hOσ966 (by decide) (by decide) (by decide) hW
                      refine ok_if (fun hc967 => ?_) (fun hc967 => ?_)
                      · exact ok_rZ (Or.inl rfl) ⟨hT, (show ((0 : Int32) = 0 ∨ (0 : Int32) = 1) ∧ RD σ966.1 ∧ WI 2 σ966.1 from by first | exact ⟨Or.inl rfl, hD, hW⟩ | exact ⟨Or.inr rfl, hD, hW⟩ | exact ⟨Or.inl hqv965.1, hD, hW⟩ | exact ⟨hqv965.1, hD, hW⟩)⟩
                      · exact ok_rZ (Or.inr rfl) ⟨hT, (show ((1 : Int32) = 0 ∨ (1 : Int32) = 1) ∧ RD σ966.1 ∧ WI 2 σ966.1 from by first | exact ⟨Or.inl rfl, hD, hW⟩ | exact ⟨Or.inr rfl, hD, hW⟩ | exact ⟨Or.inl hqv965.1, hD, hW⟩ | exact ⟨hqv965.1, hD, hW⟩)⟩
                  refine ok_gC rfl ?_
                  refine ok_zbT (Q := fun V σ => (V = 0 ∨ V = 1) ∧ RD σ.1 ∧ (¬ V = 0 → 1 ≤ (σ.1 57 9).toInt ∧ (0 : Int32).toInt ≤ (lastv σ.1).toInt ∧ (lastv σ.1).toInt ≤ (9 : Int32).toInt)) hT (s_X5_passNumber hN (hR.tr hT) (by first | exact hX | exact hT.1.2 hX) (hD)) (by decide) (fun v968 σ969 hOσ969 hT hqv968 => ?_)
                  have hqv968 : (v968 = 0 ∨ v968 = 1) ∧ RD σ969.1 ∧ (¬ v968 = 0 → 1 ≤ (σ969.1 57 9).toInt ∧ (0 : Int32).toInt ≤ (lastv σ969.1).toInt ∧ (lastv σ969.1).toInt ≤ (9 : Int32).toInt) := hqv968
                  have hD : RD σ969.1 := by first | exact hqv968.2 | exact hqv968.2.1
                  have hW : WI 2 σ969.1 := WI.tr hOσ969 (by decide) (by decide) (by decide) hW
                  refine ok_if (fun hc970 => ?_) (fun hc970 => ?_)
                  · rw [J_X5_readLine_211.eq_1]
                    refine ok_if (fun hc971 => ?_) (fun hc971 => ?_)
                    · exact ok_rZ (Or.inl rfl) ⟨hT, (show ((0 : Int32) = 0 ∨ (0 : Int32) = 1) ∧ RD σ969.1 ∧ WI 2 σ969.1 from by first | exact ⟨Or.inl rfl, hD, hW⟩ | exact ⟨Or.inr rfl, hD, hW⟩ | exact ⟨Or.inl hqv968.1, hD, hW⟩ | exact ⟨hqv968.1, hD, hW⟩)⟩
                    · refine ok_gC rfl ?_
                      refine ok_zbT (Q := fun V σ => (V = 0 ∨ V = 1) ∧ RD σ.1) hT (s_X5_pass hN (hR.tr hT) (by first | exact hX | exact hT.1.2 hX) (hD)) (by decide) (fun v972 σ973 hOσ973 hT hqv972 => ?_)
                      have hqv972 : (v972 = 0 ∨ v972 = 1) ∧ RD σ973.1 := hqv972
                      have hD : RD σ973.1 := by first | exact hqv972.2 | exact hqv972.2.1
                      have hW : WI 2 σ973.1 := WI.tr hOσ973 (by decide) (by decide) (by decide) hW
                      refine ok_if (fun hc974 => ?_) (fun hc974 => ?_)
                      · exact ok_rZ (Or.inl rfl) ⟨hT, (show ((0 : Int32) = 0 ∨ (0 : Int32) = 1) ∧ RD σ973.1 ∧ WI 2 σ973.1 from by first | exact ⟨Or.inl rfl, hD, hW⟩ | exact ⟨Or.inr rfl, hD, hW⟩ | exact ⟨Or.inl hqv972.1, hD, hW⟩ | exact ⟨hqv972.1, hD, hW⟩)⟩
                      · exact ok_rZ (Or.inr rfl) ⟨hT, (show ((1 : Int32) = 0 ∨ (1 : Int32) = 1) ∧ RD σ973.1 ∧ WI 2 σ973.1 from by first | exact ⟨Or.inl rfl, hD, hW⟩ | exact ⟨Or.inr rfl, hD, hW⟩ | exact ⟨Or.inl hqv972.1, hD, hW⟩ | exact ⟨hqv972.1, hD, hW⟩)⟩
                  · refine ok_gC rfl ?_
                    refine ok_zbT (Q := fun V σ => (V = 0 ∨ V = 1) ∧ RD σ.1) hT (s_X5_pass hN (hR.tr hT) (by first | exact hX | exact hT.1.2 hX) (hD)) (by decide) (fun v975 σ976 hOσ976 hT hqv975 => ?_)
                    have hqv975 : (v975 = 0 ∨ v975 = 1) ∧ RD σ976.1 := hqv975
                    have hD : RD σ976.1 := by first | exact hqv975.2 | exact hqv975.2.1
                    have hW : WI 2 σ976.1 := WI.tr hOσ976 (by decide) (by decide) (by decide) hW
                    refine ok_if (fun hc977 => ?_) (fun hc977 => ?_)
                    · rw [J_X5_readLine_211.eq_1]
                      refine ok_if (fun hc978 => ?_) (fun hc978 => ?_)
                      · exact ok_rZ (Or.inl rfl) ⟨hT, (show ((0 : Int32) = 0 ∨ (0 : Int32) = 1) ∧ RD σ976.1 ∧ WI 2 σ976.1 from by first | exact ⟨Or.inl rfl, hD, hW⟩ | exact ⟨Or.inr rfl, hD, hW⟩ | exact ⟨Or.inl hqv975.1, hD, hW⟩ | exact ⟨hqv975.1, hD, hW⟩)⟩
                      · refine ok_gC rfl ?_
                        refine ok_zbT (Q := fun V σ => (V = 0 ∨ V = 1) ∧ RD σ.1) hT (s_X5_pass hN (hR.tr hT) (by first | exact hX | exact hT.1.2 hX) (hD)) (by decide) (fun v979 σ980 hOσ980 hT hqv979 => ?_)
                        have hqv979 : (v979 = 0 ∨ v979 = 1) ∧ RD σ980.1 := hqv979
                        have hD : RD σ980.1 := by first | exact hqv979.2 | exact hqv979.2.1
                        have hW : WI 2 σ980.1 := WI.tr hOσ980 (by decide) (by decide) (by decide) hW
                        refine ok_if (fun hc981 => ?_) (fun hc981 => ?_)
                        · exact ok_rZ (Or.inl rfl) ⟨hT, (show ((0 : Int32) = 0 ∨ (0 : Int32) = 1) ∧ RD σ980.1 ∧ WI 2 σ980.1 from by first | exact ⟨Or.inl rfl, hD, hW⟩ | exact ⟨Or.inr rfl, hD, hW⟩ | exact ⟨Or.inl hqv979.1, hD, hW⟩ | exact ⟨hqv979.1, hD, hW⟩)⟩
                        · exact ok_rZ (Or.inr rfl) ⟨hT, (show ((1 : Int32) = 0 ∨ (1 : Int32) = 1) ∧ RD σ980.1 ∧ WI 2 σ980.1 from by first | exact ⟨Or.inl rfl, hD, hW⟩ | exact ⟨Or.inr rfl, hD, hW⟩ | exact ⟨Or.inl hqv979.1, hD, hW⟩ | exact ⟨hqv979.1, hD, hW⟩)⟩
                    · refine ok_gC rfl ?_
                      refine ok_zbT (Q := fun V σ => (V = 0 ∨ V = 1) ∧ RD σ.1) hT (s_X5_sum hN (hR.tr hT) (by first | exact hX | exact hT.1.2 hX) (hD) (by have q1 := hD.1; have q2 := hD.2.1; have q3 := hD0.1; have q4 := hD0.2.1; first | omega | decide | (simp only [Int32.le_iff_toInt_le, Int32.lt_iff_toInt_lt, ti_add, ti_sub, ti_mul, Int32.reduceToInt] at *; omega) | (exfalso; simp_all; done)) (by have q1 := hD.1; have q2 := hD.2.1; have q3 := hD0.1; have q4 := hD0.2.1; first | omega | decide | (simp only [Int32.le_iff_toInt_le, Int32.lt_iff_toInt_lt, ti_add, ti_sub, ti_mul, Int32.reduceToInt] at *; omega) | (exfalso; simp_all; done))) (by decide) (fun v982 σ983 hOσ983 hT hqv982 => ?_)
                      have hqv982 : (v982 = 0 ∨ v982 = 1) ∧ RD σ983.1 := hqv982
                      have hD : RD σ983.1 := by first | exact hqv982.2 | exact hqv982.2.1
                      have hW : WI 2 σ983.1 := WI.tr hOσ983 (by decide) (by decide) (by decide) hW
                      refine ok_if (fun hc984 => ?_) (fun hc984 => ?_)
                      · rw [J_X5_readLine_211.eq_1]
                        refine ok_if (fun hc985 => ?_) (fun hc985 => ?_)
                        · exact ok_rZ (Or.inl rfl) ⟨hT, (show ((0 : Int32) = 0 ∨ (0 : Int32) = 1) ∧ RD σ983.1 ∧ WI 2 σ983.1 from by first | exact ⟨Or.inl rfl, hD, hW⟩ | exact ⟨Or.inr rfl, hD, hW⟩ | exact ⟨Or.inl hqv982.1, hD, hW⟩ | exact ⟨hqv982.1, hD, hW⟩)⟩
                        · refine ok_gC rfl ?_
                          refine ok_zbT (Q := fun V σ => (V = 0 ∨ V = 1) ∧ RD σ.1) hT (s_X5_pass hN (hR.tr hT) (by first | exact hX | exact hT.1.2 hX) (hD)) (by decide) (fun v986 σ987 hOσ987 hT hqv986 => ?_)
                          have hqv986 : (v986 = 0 ∨ v986 = 1) ∧ RD σ987.1 := hqv986
                          have hD : RD σ987.1 := by first | exact hqv986.2 | exact hqv986.2.1
                          have hW : WI 2 σ987.1 := WI.tr hOσ987 (by decide) (by decide) (by decide) hW
                          refine ok_if (fun hc988 => ?_) (fun hc988 => ?_)
                          · exact ok_rZ (Or.inl rfl) ⟨hT, (show ((0 : Int32) = 0 ∨ (0 : Int32) = 1) ∧ RD σ987.1 ∧ WI 2 σ987.1 from by first | exact ⟨Or.inl rfl, hD, hW⟩ | exact ⟨Or.inr rfl, hD, hW⟩ | exact ⟨Or.inl hqv986.1, hD, hW⟩ | exact ⟨hqv986.1, hD, hW⟩)⟩
                          · exact ok_rZ (Or.inr rfl) ⟨hT, (show ((1 : Int32) = 0 ∨ (1 : Int32) = 1) ∧ RD σ987.1 ∧ WI 2 σ987.1 from by first | exact ⟨Or.inl rfl, hD, hW⟩ | exact ⟨Or.inr rfl, hD, hW⟩ | exact ⟨Or.inl hqv986.1, hD, hW⟩ | exact ⟨hqv986.1, hD, hW⟩)⟩
                      · refine ok_gC rfl ?_
                        refine ok_zbT (Q := fun V σ => V = 1 ∧ RD σ.1) hT (s_X5_emit hN (hR.tr hT) (by first | exact hX | exact hT.1.2 hX) (hD)) (by decide) (fun v989 σ990 hOσ990 hT hqv989 => ?_)
                        have hqv989 : v989 = 1 ∧ RD σ990.1 := hqv989
                        have hD : RD σ990.1 := by first | exact hqv989.2 | exact hqv989.2.1
                        have hW : WI 2 σ990.1 := WI.tr hOσ990 (by decide) (by decide) (by decide) hW
                        refine ok_if (fun hc991 => ?_) (fun hc991 => ?_)
                        · rw [J_X5_readLine_211.eq_1]
                          refine ok_if (fun hc992 => ?_) (fun hc992 => ?_)
                          · exact ok_rZ (Or.inl rfl) ⟨hT, (show ((0 : Int32) = 0 ∨ (0 : Int32) = 1) ∧ RD σ990.1 ∧ WI 2 σ990.1 from by first | exact ⟨Or.inl rfl, hD, hW⟩ | exact ⟨Or.inr rfl, hD, hW⟩ | exact ⟨Or.inl hqv989.1, hD, hW⟩ | exact ⟨hqv989.1, hD, hW⟩)⟩
                          · refine ok_gC rfl ?_
                            refine ok_zbT (Q := fun V σ => (V = 0 ∨ V = 1) ∧ RD σ.1) hT (s_X5_pass hN (hR.tr hT) (by first | exact hX | exact hT.1.2 hX) (hD)) (by decide) (fun v993 σ994 hOσ994 hT hqv993 => ?_)
                            have hqv993 : (v993 = 0 ∨ v993 = 1) ∧ RD σ994.1 := hqv993
                            have hD : RD σ994.1 := by first | exact hqv993.2 | exact hqv993.2.1
                            have hW : WI 2 σ994.1 := WI.tr hOσ994 (by decide) (by decide) (by decide) hW
                            refine ok_if (fun hc995 => ?_) (fun hc995 => ?_)
                            · exact ok_rZ (Or.inl rfl) ⟨hT, (show ((0 : Int32) = 0 ∨ (0 : Int32) = 1) ∧ RD σ994.1 ∧ WI 2 σ994.1 from by first | exact ⟨Or.inl rfl, hD, hW⟩ | exact ⟨Or.inr rfl, hD, hW⟩ | exact ⟨Or.inl hqv993.1, hD, hW⟩ | exact ⟨hqv993.1, hD, hW⟩)⟩
                            · exact ok_rZ (Or.inr rfl) ⟨hT, (show ((1 : Int32) = 0 ∨ (1 : Int32) = 1) ∧ RD σ994.1 ∧ WI 2 σ994.1 from by first | exact ⟨Or.inl rfl, hD, hW⟩ | exact ⟨Or.inr rfl, hD, hW⟩ | exact ⟨Or.inl hqv993.1, hD, hW⟩ | exact ⟨hqv993.1, hD, hW⟩)⟩
                        · rw [J_X5_readLine_211.eq_1]
                          refine ok_if (fun hc996 => ?_) (fun hc996 => ?_)
                          · exact ok_rZ (Or.inl rfl) ⟨hT, (show ((0 : Int32) = 0 ∨ (0 : Int32) = 1) ∧ RD σ990.1 ∧ WI 2 σ990.1 from by first | exact ⟨Or.inl rfl, hD, hW⟩ | exact ⟨Or.inr rfl, hD, hW⟩ | exact ⟨Or.inl hqv989.1, hD, hW⟩ | exact ⟨hqv989.1, hD, hW⟩)⟩
                          · refine ok_gC rfl ?_
                            refine ok_zbT (Q := fun V σ => (V = 0 ∨ V = 1) ∧ RD σ.1) hT (s_X5_pass hN (hR.tr hT) (by first | exact hX | exact hT.1.2 hX) (hD)) (by decide) (fun v997 σ998 hOσ998 hT hqv997 => ?_)
                            have hqv997 : (v997 = 0 ∨ v997 = 1) ∧ RD σ998.1 := hqv997
                            have hD : RD σ998.1 := by first | exact hqv997.2 | exact hqv997.2.1
                            have hW : WI 2 σ998.1 := WI.tr hOσ998 (by decide) (by decide) (by decide) hW
                            refine ok_if (fun hc999 => ?_) (fun hc999 => ?_)
                            · exact ok_rZ (Or.inl rfl) ⟨hT, (show ((0 : Int32) = 0 ∨ (0 : Int32) = 1) ∧ RD σ998.1 ∧ WI 2 σ998.1 from by first | exact ⟨Or.inl rfl, hD, hW⟩ | exact ⟨Or.inr rfl, hD, hW⟩ | exact ⟨Or.inl hqv997.1, hD, hW⟩ | exact ⟨hqv997.1, hD, hW⟩)⟩
                            · exact ok_rZ (Or.inr rfl) ⟨hT, (show ((1 : Int32) = 0 ∨ (1 : Int32) = 1) ∧ RD σ998.1 ∧ WI 2 σ998.1 from by first | exact ⟨Or.inl rfl, hD, hW⟩ | exact ⟨Or.inr rfl, hD, hW⟩ | exact ⟨Or.inl hqv997.1, hD, hW⟩ | exact ⟨hqv997.1, hD, hW⟩)⟩
                · refine ok_gC rfl ?_
                  refine ok_zbT (Q := fun V σ => V = 0 ∧ RD σ.1) hT (s_X5_fail hN (hR.tr hT) (by first | exact hX | exact hT.1.2 hX) (hD)) (by decide) (fun v1000 σ1001 hOσ1001 hT hqv1000 => ?_)
                  have hqv1000 : v1000 = 0 ∧ RD σ1001.1 := hqv1000
                  have hD : RD σ1001.1 := by first | exact hqv1000.2 | exact hqv1000.2.1
                  have hW : WI 2 σ1001.1 := WI.tr hOσ1001 (by decide) (by decide) (by decide) hW
                  exact ok_rZ (by have q := hqv1000.1; first | exact q | exact Or.inl q | exact Or.inr q) ⟨hT, (show (v1000 = 0 ∨ v1000 = 1) ∧ RD σ1001.1 ∧ WI 2 σ1001.1 from by first | exact ⟨Or.inl rfl, hD, hW⟩ | exact ⟨Or.inr rfl, hD, hW⟩ | exact ⟨Or.inl hqv1000.1, hD, hW⟩ | exact ⟨hqv1000.1, hD, hW⟩)⟩
              · rw [J_X5_readLine_92.eq_1]
                refine ok_gC rfl ?_
                refine ok_zbT (Q := fun V σ => (V = 0 ∨ V = 1) ∧ RD σ.1) hT (s_X5_pass hN (hR.tr hT) (by first | exact hX | exact hT.1.2 hX) (hD)) (by decide) (fun v1002 σ1003 hOσ1003 hT hqv1002 => ?_)
                have hqv1002 : (v1002 = 0 ∨ v1002 = 1) ∧ RD σ1003.1 := hqv1002
                have hD : RD σ1003.1 := by first | exact hqv1002.2 | exact hqv1002.2.1
                have hW : WI 2 σ1003.1 := WI.tr hOσ1003 (by decide) (by decide) (by decide) hW
                refine ok_gR (v := 62) hT rfl (hR 57 11 rfl) ?_
                refine ok_gI rfl ?_
                refine ok_aIn rfl (by have q1 := hD.1; have q2 := hD.2.1; have q3 := hD0.1; have q4 := hD0.2.1; first | omega | decide | (simp only [Int32.le_iff_toInt_le, Int32.lt_iff_toInt_lt, ti_add, ti_sub, ti_mul, Int32.reduceToInt] at *; omega) | (exfalso; simp_all; done)) (by have q1 := hD.1; have q2 := hD.2.1; have q3 := hD0.1; have q4 := hD0.2.1; first | omega | decide | (simp only [Int32.le_iff_toInt_le, Int32.lt_iff_toInt_lt, ti_add, ti_sub, ti_mul, Int32.reduceToInt] at *; omega) | (exfalso; simp_all; done)) (fun v1006 ev1006 => ?_)
                refine ok_if (fun hc1007 => ?_) (fun hc1007 => ?_)
                · refine ok_gC rfl ?_
                  refine ok_zbT (Q := fun V σ => (V = 0 ∨ V = 1) ∧ RD σ.1 ∧ WI 2 σ.1) hT (s_X5_readNames_2 hN (hR.tr hT) (by first | exact hX | exact hT.1.2 hX) (hD) (hW)) (by decide) (fun v1008 σ1009 hOσ1009 hT hqv1008 => ?_)
                  have hqv1008 : (v1008 = 0 ∨ v1008 = 1) ∧ RD σ1009.1 ∧ WI 2 σ1009.1 := hqv1008
                  have hD : RD σ1009.1 := by first | exact hqv1008.2 | exact hqv1008.2.1
                  have hW : WI 2 σ1009.1 := by first | exact hqv1008.2.2 | exact hqv1008
                  rw [J_X5_readLine_211.eq_1]
                  refine ok_if (fun hc1010 => ?_) (fun hc1010 => ?_)
                  · exact ok_rZ (Or.inl rfl) ⟨hT, (show ((0 : Int32) = 0 ∨ (0 : Int32) = 1) ∧ RD σ1009.1 ∧ WI 2 σ1009.1 from by first | exact ⟨Or.inl rfl, hD, hW⟩ | exact ⟨Or.inr rfl, hD, hW⟩ | exact ⟨Or.inl hqv1008.1, hD, hW⟩ | exact ⟨hqv1008.1, hD, hW⟩)⟩
                  · refine ok_gC rfl ?_
                    refine ok_zbT (Q := fun V σ => (V = 0 ∨ V = 1) ∧ RD σ.1) hT (s_X5_pass hN (hR.tr hT) (by first | exact hX | exact hT.1.2 hX) (hD)) (by decide) (fun v1011 σ1012 hOσ1012 hT hqv1011 => ?_)
                    have hqv1011 : (v1011 = 0 ∨ v1011 = 1) ∧ RD σ1012.1 := hqv1011
                    have hD : RD σ1012.1 := by first | exact hqv1011.2 | exact hqv1011.2.1
                    have hW : WI 2 σ1012.1 := WI.tr hOσ1012 (by decide) (by decide) (by decide) hW
                    refine ok_if (fun hc1013 => ?_) (fun hc1013 => ?_)
                    · exact ok_rZ (Or.inl rfl) ⟨hT, (show ((0 : Int32) = 0 ∨ (0 : Int32) = 1) ∧ RD σ1012.1 ∧ WI 2 σ1012.1 from by first | exact ⟨Or.inl rfl, hD, hW⟩ | exact ⟨Or.inr rfl, hD, hW⟩ | exact ⟨Or.inl hqv1011.1, hD, hW⟩ | exact ⟨hqv1011.1, hD, hW⟩)⟩
                    · exact ok_rZ (Or.inr rfl) ⟨hT, (show ((1 : Int32) = 0 ∨ (1 : Int32) = 1) ∧ RD σ1012.1 ∧ WI 2 σ1012.1 from by first | exact ⟨Or.inl rfl, hD, hW⟩ | exact ⟨Or.inr rfl, hD, hW⟩ | exact ⟨Or.inl hqv1011.1, hD, hW⟩ | exact ⟨hqv1011.1, hD, hW⟩)⟩
                refine ok_if (fun hc1014 => ?_) (fun hc1014 => ?_)
                · refine ok_gC rfl ?_
                  refine ok_zbT (Q := fun V σ => (V = 0 ∨ V = 1) ∧ RD σ.1 ∧ WI 2 σ.1) hT (s_X5_readWeight_2 hN (hR.tr hT) (by first | exact hX | exact hT.1.2 hX) (hD) (hW)) (by decide) (fun v1015 σ1016 hOσ1016 hT hqv1015 => ?_)
                  have hqv1015 : (v1015 = 0 ∨ v1015 = 1) ∧ RD σ1016.1 ∧ WI 2 σ1016.1 := hqv1015
                  have hD : RD σ1016.1 := by first | exact hqv1015.2 | exact hqv1015.2.1
                  have hW : WI 2 σ1016.1 := WI.tr hOσ1016 (by decide) (by decide) (by decide) hW
                  rw [J_X5_readLine_211.eq_1]
                  refine ok_if (fun hc1017 => ?_) (fun hc1017 => ?_)
                  · exact ok_rZ (Or.inl rfl) ⟨hT, (show ((0 : Int32) = 0 ∨ (0 : Int32) = 1) ∧ RD σ1016.1 ∧ WI 2 σ1016.1 from by first | exact ⟨Or.inl rfl, hD, hW⟩ | exact ⟨Or.inr rfl, hD, hW⟩ | exact ⟨Or.inl hqv1015.1, hD, hW⟩ | exact ⟨hqv1015.1, hD, hW⟩)⟩
                  · refine ok_gC rfl ?_
                    refine ok_zbT (Q := fun V σ => (V = 0 ∨ V = 1) ∧ RD σ.1) hT (s_X5_pass hN (hR.tr hT) (by first | exact hX | exact hT.1.2 hX) (hD)) (by decide) (fun v1018 σ1019 hOσ1019 hT hqv1018 => ?_)
                    have hqv1018 : (v1018 = 0 ∨ v1018 = 1) ∧ RD σ1019.1 := hqv1018
                    have hD : RD σ1019.1 := by first | exact hqv1018.2 | exact hqv1018.2.1
                    have hW : WI 2 σ1019.1 := WI.tr hOσ1019 (by decide) (by decide) (by decide) hW
                    refine ok_if (fun hc1020 => ?_) (fun hc1020 => ?_)
                    · exact ok_rZ (Or.inl rfl) ⟨hT, (show ((0 : Int32) = 0 ∨ (0 : Int32) = 1) ∧ RD σ1019.1 ∧ WI 2 σ1019.1 from by first | exact ⟨Or.inl rfl, hD, hW⟩ | exact ⟨Or.inr rfl, hD, hW⟩ | exact ⟨Or.inl hqv1018.1, hD, hW⟩ | exact ⟨hqv1018.1, hD, hW⟩)⟩
                    · exact ok_rZ (Or.inr rfl) ⟨hT, (show ((1 : Int32) = 0 ∨ (1 : Int32) = 1) ∧ RD σ1019.1 ∧ WI 2 σ1019.1 from by first | exact ⟨Or.inl rfl, hD, hW⟩ | exact ⟨Or.inr rfl, hD, hW⟩ | exact ⟨Or.inl hqv1018.1, hD, hW⟩ | exact ⟨hqv1018.1, hD, hW⟩)⟩
                refine ok_if (fun hc1021 => ?_) (fun hc1021 => ?_)
                · refine ok_gC rfl ?_
                  refine ok_zbT (Q := fun V σ => (V = 0 ∨ V = 1) ∧ RD σ.1 ∧ WI 2 σ.1) hT (s_X5_readEdge_2 hN (hR.tr hT) (by first | exact hX | exact hT.1.2 hX) (hD) (hW)) (by decide) (fun v1022 σ1023 hOσ1023 hT hqv1022 => ?_)
                  have hqv1022 : (v1022 = 0 ∨ v1022 = 1) ∧ RD σ1023.1 ∧ WI 2 σ1023.1 := hqv1022
                  have hD : RD σ1023.1 := by first | exact hqv1022.2 | exact hqv1022.2.1
                  have hW : WI 2 σ1023.1 := by first | exact hqv1022.2.2 | exact hqv1022
                  rw [J_X5_readLine_211.eq_1]
                  refine ok_if (fun hc1024 => ?_) (fun hc1024 => ?_)
                  · exact ok_rZ (Or.inl rfl) ⟨hT, (show ((0 : Int32) = 0 ∨ (0 : Int32) = 1) ∧ RD σ1023.1 ∧ WI 2 σ1023.1 from by first | exact ⟨Or.inl rfl, hD, hW⟩ | exact ⟨Or.inr rfl, hD, hW⟩ | exact ⟨Or.inl hqv1022.1, hD, hW⟩ | exact ⟨hqv1022.1, hD, hW⟩)⟩
                  · refine ok_gC rfl ?_
                    refine ok_zbT (Q := fun V σ => (V = 0 ∨ V = 1) ∧ RD σ.1) hT (s_X5_pass hN (hR.tr hT) (by first | exact hX | exact hT.1.2 hX) (hD)) (by decide) (fun v1025 σ1026 hOσ1026 hT hqv1025 => ?_)
                    have hqv1025 : (v1025 = 0 ∨ v1025 = 1) ∧ RD σ1026.1 := hqv1025
                    have hD : RD σ1026.1 := by first | exact hqv1025.2 | exact hqv1025.2.1
                    have hW : WI 2 σ1026.1 := WI.tr hOσ1026 (by decide) (by decide) (by decide) hW
                    refine ok_if (fun hc1027 => ?_) (fun hc1027 => ?_)
                    · exact ok_rZ (Or.inl rfl) ⟨hT, (show ((0 : Int32) = 0 ∨ (0 : Int32) = 1) ∧ RD σ1026.1 ∧ WI 2 σ1026.1 from by first | exact ⟨Or.inl rfl, hD, hW⟩ | exact ⟨Or.inr rfl, hD, hW⟩ | exact ⟨Or.inl hqv1025.1, hD, hW⟩ | exact ⟨hqv1025.1, hD, hW⟩)⟩
                    · exact ok_rZ (Or.inr rfl) ⟨hT, (show ((1 : Int32) = 0 ∨ (1 : Int32) = 1) ∧ RD σ1026.1 ∧ WI 2 σ1026.1 from by first | exact ⟨Or.inl rfl, hD, hW⟩ | exact ⟨Or.inr rfl, hD, hW⟩ | exact ⟨Or.inl hqv1025.1, hD, hW⟩ | exact ⟨hqv1025.1, hD, hW⟩)⟩
                refine ok_gC rfl ?_
                refine ok_zbT (Q := fun V σ => (V = 0 ∨ V = 1) ∧ RD σ.1 ∧ (¬ V = 0 → 1 ≤ (σ.1 57 9).toInt ∧ (0 : Int32).toInt ≤ (lastv σ.1).toInt ∧ (lastv σ.1).toInt ≤ (9 : Int32).toInt)) hT (s_X5_passNumber hN (hR.tr hT) (by first | exact hX | exact hT.1.2 hX) (hD)) (by decide) (fun v1028 σ1029 hOσ1029 hT hqv1028 => ?_)
                have hqv1028 : (v1028 = 0 ∨ v1028 = 1) ∧ RD σ1029.1 ∧ (¬ v1028 = 0 → 1 ≤ (σ1029.1 57 9).toInt ∧ (0 : Int32).toInt ≤ (lastv σ1029.1).toInt ∧ (lastv σ1029.1).toInt ≤ (9 : Int32).toInt) := hqv1028
                have hD : RD σ1029.1 := by first | exact hqv1028.2 | exact hqv1028.2.1
                have hW : WI 2 σ1029.1 := WI.tr hOσ1029 (by decide) (by decide) (by decide) hW
                refine ok_if (fun hc1030 => ?_) (fun hc1030 => ?_)
                · rw [J_X5_readLine_211.eq_1]
                  refine ok_if (fun hc1031 => ?_) (fun hc1031 => ?_)
                  · exact ok_rZ (Or.inl rfl) ⟨hT, (show ((0 : Int32) = 0 ∨ (0 : Int32) = 1) ∧ RD σ1029.1 ∧ WI 2 σ1029.1 from by first | exact ⟨Or.inl rfl, hD, hW⟩ | exact ⟨Or.inr rfl, hD, hW⟩ | exact ⟨Or.inl hqv1028.1, hD, hW⟩ | exact ⟨hqv1028.1, hD, hW⟩)⟩
                  · refine ok_gC rfl ?_
                    refine ok_zbT (Q := fun V σ => (V = 0 ∨ V = 1) ∧ RD σ.1) hT (s_X5_pass hN (hR.tr hT) (by first | exact hX | exact hT.1.2 hX) (hD)) (by decide) (fun v1032 σ1033 hOσ1033 hT hqv1032 => ?_)
                    have hqv1032 : (v1032 = 0 ∨ v1032 = 1) ∧ RD σ1033.1 := hqv1032
                    have hD : RD σ1033.1 := by first | exact hqv1032.2 | exact hqv1032.2.1
                    have hW : WI 2 σ1033.1 := WI.tr hOσ1033 (by decide) (by decide) (by decide) hW
                    refine ok_if (fun hc1034 => ?_) (fun hc1034 => ?_)
                    · exact ok_rZ (Or.inl rfl) ⟨hT, (show ((0 : Int32) = 0 ∨ (0 : Int32) = 1) ∧ RD σ1033.1 ∧ WI 2 σ1033.1 from by first | exact ⟨Or.inl rfl, hD, hW⟩ | exact ⟨Or.inr rfl, hD, hW⟩ | exact ⟨Or.inl hqv1032.1, hD, hW⟩ | exact ⟨hqv1032.1, hD, hW⟩)⟩
                    · exact ok_rZ (Or.inr rfl) ⟨hT, (show ((1 : Int32) = 0 ∨ (1 : Int32) = 1) ∧ RD σ1033.1 ∧ WI 2 σ1033.1 from by first | exact ⟨Or.inl rfl, hD, hW⟩ | exact ⟨Or.inr rfl, hD, hW⟩ | exact ⟨Or.inl hqv1032.1, hD, hW⟩ | exact ⟨hqv1032.1, hD, hW⟩)⟩
                · refine ok_gC rfl ?_
                  refine ok_zbT (Q := fun V σ => (V = 0 ∨ V = 1) ∧ RD σ.1) hT (s_X5_pass hN (hR.tr hT) (by first | exact hX | exact hT.1.2 hX) (hD)) (by decide) (fun v1035 σ1036 hOσ1036 hT hqv1035 => ?_)
                  have hqv1035 : (v1035 = 0 ∨ v1035 = 1) ∧ RD σ1036.1 := hqv1035
                  have hD : RD σ1036.1 := by first | exact hqv1035.2 | exact hqv1035.2.1
                  have hW : WI 2 σ1036.1 := WI.tr hOσ1036 (by decide) (by decide) (by decide) hW
                  refine ok_if (fun hc1037 => ?_) (fun hc1037 => ?_)
                  · rw [J_X5_readLine_211.eq_1]
                    refine ok_if (fun hc1038 => ?_) (fun hc1038 => ?_)
                    · exact ok_rZ (Or.inl rfl) ⟨hT, (show ((0 : Int32) = 0 ∨ (0 : Int32) = 1) ∧ RD σ1036.1 ∧ WI 2 σ1036.1 from by first | exact ⟨Or.inl rfl, hD, hW⟩ | exact ⟨Or.inr rfl, hD, hW⟩ | exact ⟨Or.inl hqv1035.1, hD, hW⟩ | exact ⟨hqv1035.1, hD, hW⟩)⟩
                    · refine ok_gC rfl ?_
                      refine ok_zbT (Q := fun V σ => (V = 0 ∨ V = 1) ∧ RD σ.1) hT (s_X5_pass hN (hR.tr hT) (by first | exact hX | exact hT.1.2 hX) (hD)) (by decide) (fun v1039 σ1040 hOσ1040 hT hqv1039 => ?_)
                      have hqv1039 : (v1039 = 0 ∨ v1039 = 1) ∧ RD σ1040.1 := hqv1039
                      have hD : RD σ1040.1 := by first | exact hqv1039.2 | exact hqv1039.2.1
                      have hW : WI 2 σ1040.1 := WI.tr hOσ1040 (by decide) (by decide) (by decide) hW
                      refine ok_if (fun hc1041 => ?_) (fun hc1041 => ?_)
                      · exact ok_rZ (Or.inl rfl) ⟨hT, (show ((0 : Int32) = 0 ∨ (0 : Int32) = 1) ∧ RD σ1040.1 ∧ WI 2 σ1040.1 from by first | exact ⟨Or.inl rfl, hD, hW⟩ | exact ⟨Or.inr rfl, hD, hW⟩ | exact ⟨Or.inl hqv1039.1, hD, hW⟩ | exact ⟨hqv1039.1, hD, hW⟩)⟩
                      · exact ok_rZ (Or.inr rfl) ⟨hT, (show ((1 : Int32) = 0 ∨ (1 : Int32) = 1) ∧ RD σ1040.1 ∧ WI 2 σ1040.1 from by first | exact ⟨Or.inl rfl, hD, hW⟩ | exact ⟨Or.inr rfl, hD, hW⟩ | exact ⟨Or.inl hqv1039.1, hD, hW⟩ | exact ⟨hqv1039.1, hD, hW⟩)⟩
                  · refine ok_gC rfl ?_
                    refine ok_zbT (Q := fun V σ => (V = 0 ∨ V = 1) ∧ RD σ.1) hT (s_X5_sum hN (hR.tr hT) (by first | exact hX | exact hT.1.2 hX) (hD) (by have q1 := hD.1; have q2 := hD.2.1; have q3 := hD0.1; have q4 := hD0.2.1; first | omega | decide | (simp only [Int32.le_iff_toInt_le, Int32.lt_iff_toInt_lt, ti_add, ti_sub, ti_mul, Int32.reduceToInt] at *; omega) | (exfalso; simp_all; done)) (by have q1 := hD.1; have q2 := hD.2.1; have q3 := hD0.1; have q4 := hD0.2.1; first | omega | decide | (simp only [Int32.le_iff_toInt_le, Int32.lt_iff_toInt_lt, ti_add, ti_sub, ti_mul, Int32.reduceToInt] at *; omega) | (exfalso; simp_all; done))) (by decide) (fun v1042 σ1043 hOσ1043 hT hqv1042 => ?_)
                    have hqv1042 : (v1042 = 0 ∨ v1042 = 1) ∧ RD σ1043.1 := hqv1042
                    have hD : RD σ1043.1 := by first | exact hqv1042.2 | exact hqv1042.2.1
                    have hW : WI 2 σ1043.1 := WI.tr hOσ1043 (by decide) (by decide) (by decide) hW
                    refine ok_if (fun hc1044 => ?_) (fun hc1044 => ?_)
                    · rw [J_X5_readLine_211.eq_1]
                      refine ok_if (fun hc1045 => ?_) (fun hc1045 => ?_)
                      · exact ok_rZ (Or.inl rfl) ⟨hT, (show ((0 : Int32) = 0 ∨ (0 : Int32) = 1) ∧ RD σ1043.1 ∧ WI 2 σ1043.1 from by first | exact ⟨Or.inl rfl, hD, hW⟩ | exact ⟨Or.inr rfl, hD, hW⟩ | exact ⟨Or.inl hqv1042.1, hD, hW⟩ | exact ⟨hqv1042.1, hD, hW⟩)⟩
                      · refine ok_gC rfl ?_
                        refine ok_zbT (Q := fun V σ => (V = 0 ∨ V = 1) ∧ RD σ.1) hT (s_X5_pass hN (hR.tr hT) (by first | exact hX | exact hT.1.2 hX) (hD)) (by decide) (fun v1046 σ1047 hOσ1047 hT hqv1046 => ?_)
                        have hqv1046 : (v1046 = 0 ∨ v1046 = 1) ∧ RD σ1047.1 := hqv1046
                        have hD : RD σ1047.1 := by first | exact hqv1046.2 | exact hqv1046.2.1
                        have hW : WI 2 σ1047.1 := WI.tr hOσ1047 (by decide) (by decide) (by decide) hW
                        refine ok_if (fun hc1048 => ?_) (fun hc1048 => ?_)
                        · exact ok_rZ (Or.inl rfl) ⟨hT, (show ((0 : Int32) = 0 ∨ (0 : Int32) = 1) ∧ RD σ1047.1 ∧ WI 2 σ1047.1 from by first | exact ⟨Or.inl rfl, hD, hW⟩ | exact ⟨Or.inr rfl, hD, hW⟩ | exact ⟨Or.inl hqv1046.1, hD, hW⟩ | exact ⟨hqv1046.1, hD, hW⟩)⟩
                        · exact ok_rZ (Or.inr rfl) ⟨hT, (show ((1 : Int32) = 0 ∨ (1 : Int32) = 1) ∧ RD σ1047.1 ∧ WI 2 σ1047.1 from by first | exact ⟨Or.inl rfl, hD, hW⟩ | exact ⟨Or.inr rfl, hD, hW⟩ | exact ⟨Or.inl hqv1046.1, hD, hW⟩ | exact ⟨hqv1046.1, hD, hW⟩)⟩
                    · refine ok_gC rfl ?_
                      refine ok_zbT (Q := fun V σ => V = 1 ∧ RD σ.1) hT (s_X5_emit hN (hR.tr hT) (by first | exact hX | exact hT.1.2 hX) (hD)) (by decide) (fun v1049 σ1050 hOσ1050 hT hqv1049 => ?_)
                      have hqv1049 : v1049 = 1 ∧ RD σ1050.1 := hqv1049
                      have hD : RD σ1050.1 := by first | exact hqv1049.2 | exact hqv1049.2.1
                      have hW : WI 2 σ1050.1 := WI.tr hOσ1050 (by decide) (by decide) (by decide) hW
                      refine ok_if (fun hc1051 => ?_) (fun hc1051 => ?_)
                      · rw [J_X5_readLine_211.eq_1]
                        refine ok_if (fun hc1052 => ?_) (fun hc1052 => ?_)
                        · exact ok_rZ (Or.inl rfl) ⟨hT, (show ((0 : Int32) = 0 ∨ (0 : Int32) = 1) ∧ RD σ1050.1 ∧ WI 2 σ1050.1 from by first | exact ⟨Or.inl rfl, hD, hW⟩ | exact ⟨Or.inr rfl, hD, hW⟩ | exact ⟨Or.inl hqv1049.1, hD, hW⟩ | exact ⟨hqv1049.1, hD, hW⟩)⟩
                        · refine ok_gC rfl ?_
                          refine ok_zbT (Q := fun V σ => (V = 0 ∨ V = 1) ∧ RD σ.1) hT (s_X5_pass hN (hR.tr hT) (by first | exact hX | exact hT.1.2 hX) (hD)) (by decide) (fun v1053 σ1054 hOσ1054 hT hqv1053 => ?_)
                          have hqv1053 : (v1053 = 0 ∨ v1053 = 1) ∧ RD σ1054.1 := hqv1053
                          have hD : RD σ1054.1 := by first | exact hqv1053.2 | exact hqv1053.2.1
                          have hW : WI 2 σ1054.1 := WI.tr hOσ1054 (by decide) (by decide) (by decide) hW
                          refine ok_if (fun hc1055 => ?_) (fun hc1055 => ?_)
                          · exact ok_rZ (Or.inl rfl) ⟨hT, (show ((0 : Int32) = 0 ∨ (0 : Int32) = 1) ∧ RD σ1054.1 ∧ WI 2 σ1054.1 from by first | exact ⟨Or.inl rfl, hD, hW⟩ | exact ⟨Or.inr rfl, hD, hW⟩ | exact ⟨Or.inl hqv1053.1, hD, hW⟩ | exact ⟨hqv1053.1, hD, hW⟩)⟩
                          · exact ok_rZ (Or.inr rfl) ⟨hT, (show ((1 : Int32) = 0 ∨ (1 : Int32) = 1) ∧ RD σ1054.1 ∧ WI 2 σ1054.1 from by first | exact ⟨Or.inl rfl, hD, hW⟩ | exact ⟨Or.inr rfl, hD, hW⟩ | exact ⟨Or.inl hqv1053.1, hD, hW⟩ | exact ⟨hqv1053.1, hD, hW⟩)⟩
                      · rw [J_X5_readLine_211.eq_1]
                        refine ok_if (fun hc1056 => ?_) (fun hc1056 => ?_)
                        · exact ok_rZ (Or.inl rfl) ⟨hT, (show ((0 : Int32) = 0 ∨ (0 : Int32) = 1) ∧ RD σ1050.1 ∧ WI 2 σ1050.1 from by first | exact ⟨Or.inl rfl, hD, hW⟩ | exact ⟨Or.inr rfl, hD, hW⟩ | exact ⟨Or.inl hqv1049.1, hD, hW⟩ | exact ⟨hqv1049.1, hD, hW⟩)⟩
                        · refine ok_gC rfl ?_
                          refine ok_zbT (Q := fun V σ => (V = 0 ∨ V = 1) ∧ RD σ.1) hT (s_X5_pass hN (hR.tr hT) (by first | exact hX | exact hT.1.2 hX) (hD)) (by decide) (fun v1057 σ1058 hOσ1058 hT hqv1057 => ?_)
                          have hqv1057 : (v1057 = 0 ∨ v1057 = 1) ∧ RD σ1058.1 := hqv1057
                          have hD : RD σ1058.1 := by first | exact hqv1057.2 | exact hqv1057.2.1
                          have hW : WI 2 σ1058.1 := WI.tr hOσ1058 (by decide) (by decide) (by decide) hW
                          refine ok_if (fun hc1059 => ?_) (fun hc1059 => ?_)
                          · exact ok_rZ (Or.inl rfl) ⟨hT, (show ((0 : Int32) = 0 ∨ (0 : Int32) = 1) ∧ RD σ1058.1 ∧ WI 2 σ1058.1 from by first | exact ⟨Or.inl rfl, hD, hW⟩ | exact ⟨Or.inr rfl, hD, hW⟩ | exact ⟨Or.inl hqv1057.1, hD, hW⟩ | exact ⟨hqv1057.1, hD, hW⟩)⟩
                          · exact ok_rZ (Or.inr rfl) ⟨hT, (show ((1 : Int32) = 0 ∨ (1 : Int32) = 1) ∧ RD σ1058.1 ∧ WI 2 σ1058.1 from by first | exact ⟨Or.inl rfl, hD, hW⟩ | exact ⟨Or.inr rfl, hD, hW⟩ | exact ⟨Or.inl hqv1057.1, hD, hW⟩ | exact ⟨hqv1057.1, hD, hW⟩)⟩
            · refine ok_gC rfl ?_
              refine ok_zbT (Q := fun V σ => V = 0 ∧ RD σ.1) hT (s_X5_fail hN (hR.tr hT) (by first | exact hX | exact hT.1.2 hX) (hD)) (by decide) (fun v1060 σ1061 hOσ1061 hT hqv1060 => ?_)
              have hqv1060 : v1060 = 0 ∧ RD σ1061.1 := hqv1060
              have hD : RD σ1061.1 := by first | exact hqv1060.2 | exact hqv1060.2.1
              have hW : WI 2 σ1061.1 := WI.tr hOσ1061 (by decide) (by decide) (by decide) hW
              exact ok_rZ (by have q := hqv1060.1; first | exact q | exact Or.inl q | exact Or.inr q) ⟨hT, (show (v1060 = 0 ∨ v1060 = 1) ∧ RD σ1061.1 ∧ WI 2 σ1061.1 from by first | exact ⟨Or.inl rfl, hD, hW⟩ | exact ⟨Or.inr rfl, hD, hW⟩ | exact ⟨Or.inl hqv1060.1, hD, hW⟩ | exact ⟨hqv1060.1, hD, hW⟩)⟩
        · refine ok_gC rfl ?_
          refine ok_zbT (Q := fun V σ => V = 0 ∧ RD σ.1) hT (s_X5_fail hN (hR.tr hT) (by first | exact hX | exact hT.1.2 hX) (hD)) (by decide) (fun v1062 σ1063 hOσ1063 hT hqv1062 => ?_)
          have hqv1062 : v1062 = 0 ∧ RD σ1063.1 := hqv1062
          have hD : RD σ1063.1 := by first | exact hqv1062.2 | exact hqv1062.2.1
          have hW : WI 2 σ1063.1 := WI.tr hOσ1063 (by decide) (by decide) (by decide) hW
          exact ok_rZ (by have q := hqv1062.1; first | exact q | exact Or.inl q | exact Or.inr q) ⟨hT, (show (v1062 = 0 ∨ v1062 = 1) ∧ RD σ1063.1 ∧ WI 2 σ1063.1 from by first | exact ⟨Or.inl rfl, hD, hW⟩ | exact ⟨Or.inr rfl, hD, hW⟩ | exact ⟨Or.inl hqv1062.1, hD, hW⟩ | exact ⟨hqv1062.1, hD, hW⟩)⟩

set_option maxHeartbeats 4000000 in
set_option maxRecDepth 100000 in
theorem s_X5_readNames_28 {N : Nat} (hN : 1048576 ≤ N)  {σ0 : zS}  (hR : RF σ0.2.2) (hX : σ0.2.2 57 5 = 1) (hD : RD σ0.1) (hW : WI 28 σ0.1) : Ok (f_X5_readNames N 57 28 σ0) (fun r => Tr [28, 57] σ0 r.2 ∧ ((r.1 = 0 ∨ r.1 = 1) ∧ RD r.2.1 ∧ WI 28 r.2.1)) := by
  have hT : Tr [28, 57] σ0 σ0 := Tr.rf
  have hD0 := hD
  rw [f_X5_readNames.eq_1]
  refine ok_gC rfl ?_
  refine ok_zbT (Q := fun V σ => (V = 0 ∨ V = 1) ∧ RD σ.1 ∧ (¬ V = 0 → 1 ≤ (σ.1 57 9).toInt ∧ (1 : Int32).toInt ≤ (lastv σ.1).toInt ∧ (lastv σ.1).toInt ≤ (10 : Int32).toInt)) hT (s_X5_passNumber hN (hR.tr hT) (by first | exact hX | exact hT.1.2 hX) (hD)) (by decide) (fun v1 σ2 hOσ2 hT hqv1 => ?_)
  have hqv1 : (v1 = 0 ∨ v1 = 1) ∧ RD σ2.1 ∧ (¬ v1 = 0 → 1 ≤ (σ2.1 57 9).toInt ∧ (1 : Int32).toInt ≤ (lastv σ2.1).toInt ∧ (lastv σ2.1).toInt ≤ (10 : Int32).toInt) := hqv1
  have hD : RD σ2.1 := by first | exact hqv1.2 | exact hqv1.2.1
  have hW : WI 28 σ2.1 := WI.tr hOσ2 (by decide) (by decide) (by decide) hW
  refine ok_if (fun hc3 => ?_) (fun hc3 => ?_)
  · exact ok_rZ (Or.inl rfl) ⟨hT, (show ((0 : Int32) = 0 ∨ (0 : Int32) = 1) ∧ RD σ2.1 ∧ WI 28 σ2.1 from by first | exact ⟨Or.inl rfl, hD, hW⟩ | exact ⟨Or.inr rfl, hD, hW⟩)⟩
  · have q0 := hqv1.2.2 hc3
    refine ok_gC rfl ?_
    refine ok_zbT (Q := fun V σ => 1 ≤ (σ2.1 57 9).toInt → V = lastv σ2.1) hT (s_X5_passed hN (hR.tr hT) (by first | exact hX | exact hT.1.2 hX) (hD)) (fun _ h9 => absurd h9 List.not_mem_nil) (fun v4 σ5 hOσ5 hT hqv4 => ?_)
    have hqv4 : 1 ≤ (σ2.1 57 9).toInt → v4 = lastv σ2.1 := hqv4
    have hD : RD σ5.1 := RD.tr hOσ5 (by decide) (by decide) (by decide) (by decide) hD
    have hW : WI 28 σ5.1 := WI.tr hOσ5 (by decide) (by decide) (by decide) hW
    have q1 := hqv4 q0.1
    refine ok_pI hT rfl (by decide) (fun σ6 eσ6 hOσ6 hT => ?_)
    have qn := zI_atI eσ6
    have hD : RD σ6.1 := RD_p eσ6 (fun q => absurd q (by decide)) (fun q => absurd q (by decide)) hD
    have hW : WI 28 σ6.1 := WI.tr hOσ6 (by decide) (by decide) (by decide) hW
    refine ok_gI rfl ?_
    refine ok_pI hT rfl (by decide) (fun σ8 eσ8 hOσ8 hT => ?_)
    have hD : RD σ8.1 := RD.tr hOσ8 (by decide) (by decide) (by decide) (by decide) hD
    have hW : WI 28 σ8.1 := WI_p0 eσ8 (by rw [qn, q1]; have q9 := q0.2; simp only [Int32.reduceToInt] at q9; omega) hW
    exact ok_rZ (Or.inr rfl) ⟨hT, (show ((1 : Int32) = 0 ∨ (1 : Int32) = 1) ∧ RD σ8.1 ∧ WI 28 σ8.1 from by first | exact ⟨Or.inl rfl, hD, hW⟩ | exact ⟨Or.inr rfl, hD, hW⟩)⟩

set_option maxHeartbeats 4000000 in
set_option maxRecDepth 100000 in
theorem s_X5_readWeight_28 {N : Nat} (hN : 1048576 ≤ N)  {σ0 : zS}  (hR : RF σ0.2.2) (hX : σ0.2.2 57 5 = 1) (hD : RD σ0.1) (hW : WI 28 σ0.1) : Ok (f_X5_readWeight N 57 28 σ0) (fun r => Tr [31, 57] σ0 r.2 ∧ ((r.1 = 0 ∨ r.1 = 1) ∧ RD r.2.1 ∧ WI 28 r.2.1)) := by
  have hT : Tr [31, 57] σ0 σ0 := Tr.rf
  have hD0 := hD
  rw [f_X5_readWeight.eq_1]
  refine ok_gR (v := 61) hT rfl (hR 57 10 rfl) ?_
  refine ok_gI rfl ?_
  refine ok_aIn rfl (by have q1 := hD.1; have q2 := hD.2.1; have q3 := hD0.1; have q4 := hD0.2.1; first | omega | decide | (simp only [Int32.le_iff_toInt_le, Int32.lt_iff_toInt_lt, ti_add, ti_sub, ti_mul, Int32.reduceToInt] at *; omega) | (exfalso; simp_all; done)) (by have q1 := hD.1; have q2 := hD.2.1; have q3 := hD0.1; have q4 := hD0.2.1; first | omega | decide | (simp only [Int32.le_iff_toInt_le, Int32.lt_iff_toInt_lt, ti_add, ti_sub, ti_mul, Int32.reduceToInt] at *; omega) | (exfalso; simp_all; done)) (fun v3 ev3 => ?_)
  refine ok_if (fun hc4 => ?_) (fun hc4 => ?_)
  · refine ok_gR (v := 64) hT rfl (hR 57 13 rfl) ?_
    refine ok_gI rfl ?_
    refine ok_aIn rfl (by have q1 := hD.1; have q2 := hD.2.1; have q3 := hD0.1; have q4 := hD0.2.1; first | omega | decide | (simp only [Int32.le_iff_toInt_le, Int32.lt_iff_toInt_lt, ti_add, ti_sub, ti_mul, Int32.reduceToInt] at *; omega) | (exfalso; simp_all; done)) (by have q1 := hD.1; have q2 := hD.2.1; have q3 := hD0.1; have q4 := hD0.2.1; first | omega | decide | (simp only [Int32.le_iff_toInt_le, Int32.lt_iff_toInt_lt, ti_add, ti_sub, ti_mul, Int32.reduceToInt] at *; omega) | (exfalso; simp_all; done)) (fun v7 ev7 => ?_)
    have qe : 0 ≤ v7.toInt ∧ v7.toInt ≤ 600 := by rw [ev7]; exact RD_en hD (by have q1 := hD.1; have q2 := hD.2.1; have q3 := hD0.1; have q4 := hD0.2.1; first | omega | decide | (simp only [Int32.le_iff_toInt_le, Int32.lt_iff_toInt_lt, ti_add, ti_sub, ti_mul, Int32.reduceToInt] at *; omega)) (by have q1 := hD.1; have q2 := hD.2.1; have q3 := hD0.1; have q4 := hD0.2.1; first | omega | decide | (simp only [Int32.le_iff_toInt_le, Int32.lt_iff_toInt_lt, ti_add, ti_sub, ti_mul, Int32.reduceToInt] at *; omega))
    refine ok_gR (v := 63) hT rfl (hR 57 12 rfl) ?_
    refine ok_gI rfl ?_
    refine ok_aIn rfl (by have q1 := hD.1; have q2 := hD.2.1; have q3 := hD0.1; have q4 := hD0.2.1; first | omega | decide | (simp only [Int32.le_iff_toInt_le, Int32.lt_iff_toInt_lt, ti_add, ti_sub, ti_mul, Int32.reduceToInt] at *; omega) | (exfalso; simp_all; done)) (by have q1 := hD.1; have q2 := hD.2.1; have q3 := hD0.1; have q4 := hD0.2.1; first | omega | decide | (simp only [Int32.le_iff_toInt_le, Int32.lt_iff_toInt_lt, ti_add, ti_sub, ti_mul, Int32.reduceToInt] at *; omega) | (exfalso; simp_all; done)) (fun v10 ev10 => ?_)
    have qs : 0 ≤ v10.toInt ∧ v10.toInt ≤ 600 := by rw [ev10]; exact RD_st hD (by have q1 := hD.1; have q2 := hD.2.1; have q3 := hD0.1; have q4 := hD0.2.1; first | omega | decide | (simp only [Int32.le_iff_toInt_le, Int32.lt_iff_toInt_lt, ti_add, ti_sub, ti_mul, Int32.reduceToInt] at *; omega)) (by have q1 := hD.1; have q2 := hD.2.1; have q3 := hD0.1; have q4 := hD0.2.1; first | omega | decide | (simp only [Int32.le_iff_toInt_le, Int32.lt_iff_toInt_lt, ti_add, ti_sub, ti_mul, Int32.reduceToInt] at *; omega))
    have qsv := ev10
    refine ok_if (fun hc11 => ?_) (fun hc11 => ?_)
    · rw [ti_eq] at hc11
      refine ok_gRX hT hX ?_
      refine ok_gR (v := 63) hT rfl (hR 57 12 rfl) ?_
      refine ok_gI rfl ?_
      refine ok_aIn rfl (by have q1 := hD.1; have q2 := hD.2.1; have q3 := hD0.1; have q4 := hD0.2.1; first | omega | decide | (simp only [Int32.le_iff_toInt_le, Int32.lt_iff_toInt_lt, ti_add, ti_sub, ti_mul, Int32.reduceToInt] at *; omega) | (exfalso; simp_all; done)) (by have q1 := hD.1; have q2 := hD.2.1; have q3 := hD0.1; have q4 := hD0.2.1; first | omega | decide | (simp only [Int32.le_iff_toInt_le, Int32.lt_iff_toInt_lt, ti_add, ti_sub, ti_mul, Int32.reduceToInt] at *; omega) | (exfalso; simp_all; done)) (fun v15 ev15 => ?_)
      have qst := congrArg Int32.toInt (ev15.trans qsv.symm)
      refine ok_aIn rfl (by have q1 := hD.1; have q2 := hD.2.1; have q3 := hD0.1; have q4 := hD0.2.1; first | omega | decide | (simp only [Int32.le_iff_toInt_le, Int32.lt_iff_toInt_lt, ti_add, ti_sub, ti_mul, Int32.reduceToInt] at *; omega) | (exfalso; simp_all; done)) (by have q1 := hD.1; have q2 := hD.2.1; have q3 := hD0.1; have q4 := hD0.2.1; first | omega | decide | (simp only [Int32.le_iff_toInt_le, Int32.lt_iff_toInt_lt, ti_add, ti_sub, ti_mul, Int32.reduceToInt] at *; omega) | (exfalso; simp_all; done)) (fun v16 ev16 => ?_)
      refine ok_if (fun hc17 => ?_) (fun hc17 => ?_)
      · rw [J_X5_readWeight_83.eq_1]
        refine ok_gC rfl ?_
        refine ok_zbT (Q := fun V σ => V = (0 : Int32) ∧ RD σ.1 ∧ (¬ (0 : Int32) = 0 → ¬ σ0.1 61 (Int32.toNatClampNeg (σ0.1 57 9)) = 0 → (σ.1 57 9).toInt = (σ0.1 57 9).toInt + 1)) hT (s_X5_advance hN (hR.tr hT) (by first | exact hX | exact hT.1.2 hX) (hD) (by first | exact Or.inl rfl | exact Or.inr rfl | assumption)) (by decide) (fun v18 σ19 hOσ19 hT hqv18 => ?_)
        have hqv18 : v18 = (0 : Int32) ∧ RD σ19.1 ∧ (¬ (0 : Int32) = 0 → ¬ σ0.1 61 (Int32.toNatClampNeg (σ0.1 57 9)) = 0 → (σ19.1 57 9).toInt = (σ0.1 57 9).toInt + 1) := hqv18
        have hD : RD σ19.1 := by first | exact hqv18.2 | exact hqv18.2.1
        have hW : WI 28 σ19.1 := WI.tr hOσ19 (by decide) (by decide) (by decide) hW
        refine ok_if (fun hc20 => ?_) (fun hc20 => ?_)
        · exact ok_rZ (Or.inl rfl) ⟨hT, (show ((0 : Int32) = 0 ∨ (0 : Int32) = 1) ∧ RD σ19.1 ∧ WI 28 σ19.1 from by first | exact ⟨Or.inl rfl, hD, hW⟩ | exact ⟨Or.inr rfl, hD, hW⟩ | exact ⟨Or.inl hqv18.1, hD, hW⟩)⟩
        · refine ok_gC rfl ?_
          refine ok_zbT (Q := fun V σ => (V = 0 ∨ V = 1) ∧ RD σ.1 ∧ (¬ V = 0 → 1 ≤ (σ.1 57 9).toInt ∧ (0 : Int32).toInt ≤ (lastv σ.1).toInt ∧ (lastv σ.1).toInt ≤ (99 : Int32).toInt)) hT (s_X5_passNumber hN (hR.tr hT) (by first | exact hX | exact hT.1.2 hX) (hD)) (by decide) (fun v21 σ22 hOσ22 hT hqv21 => ?_)
          have hqv21 : (v21 = 0 ∨ v21 = 1) ∧ RD σ22.1 ∧ (¬ v21 = 0 → 1 ≤ (σ22.1 57 9).toInt ∧ (0 : Int32).toInt ≤ (lastv σ22.1).toInt ∧ (lastv σ22.1).toInt ≤ (99 : Int32).toInt) := hqv21
          have hD : RD σ22.1 := by first | exact hqv21.2 | exact hqv21.2.1
          have hW : WI 28 σ22.1 := WI.tr hOσ22 (by decide) (by decide) (by decide) hW
          refine ok_if (fun hc23 => ?_) (fun hc23 => ?_)
          · exact ok_rZ (Or.inl rfl) ⟨hT, (show ((0 : Int32) = 0 ∨ (0 : Int32) = 1) ∧ RD σ22.1 ∧ WI 28 σ22.1 from by first | exact ⟨Or.inl rfl, hD, hW⟩ | exact ⟨Or.inr rfl, hD, hW⟩ | exact ⟨Or.inl hqv21.1, hD, hW⟩)⟩
          · refine ok_gR (v := 31) hT rfl (hR 28 5 rfl) ?_
            refine ok_gC rfl ?_
            refine ok_zbT (Q := fun V σ => 1 ≤ (σ22.1 57 9).toInt → V = lastv σ22.1) hT (s_X5_passed hN (hR.tr hT) (by first | exact hX | exact hT.1.2 hX) (hD)) (fun _ h9 => absurd h9 List.not_mem_nil) (fun v25 σ26 hOσ26 hT hqv25 => ?_)
            have hqv25 : 1 ≤ (σ22.1 57 9).toInt → v25 = lastv σ22.1 := hqv25
            have hD : RD σ26.1 := RD.tr hOσ26 (by decide) (by decide) (by decide) (by decide) hD
            have hW : WI 28 σ26.1 := WI.tr hOσ26 (by decide) (by decide) (by decide) hW
            refine ok_s14 hT rfl (by decide) (by have q1 := hD.1; have q2 := hD.2.1; have q3 := hD0.1; have q4 := hD0.2.1; first | omega | decide | (simp only [Int32.le_iff_toInt_le, Int32.lt_iff_toInt_lt, ti_add, ti_sub, ti_mul, Int32.reduceToInt] at *; omega) | (exfalso; simp_all; done)) (by have q1 := hD.1; have q2 := hD.2.1; have q3 := hD0.1; have q4 := hD0.2.1; first | omega | decide | (simp only [Int32.le_iff_toInt_le, Int32.lt_iff_toInt_lt, ti_add, ti_sub, ti_mul, Int32.reduceToInt] at *; omega) | (exfalso; simp_all; done)) (fun σ27 eσ27 hOσ27 hT => ?_)
            have hD : RD σ27.1 := RD.tr hOσ27 (by decide) (by decide) (by decide) (by decide) hD
            have hW : WI 28 σ27.1 := WI.tr hOσ27 (by decide) (by decide) (by decide) hW
            exact ok_rZ (Or.inr rfl) ⟨hT, (show ((1 : Int32) = 0 ∨ (1 : Int32) = 1) ∧ RD σ27.1 ∧ WI 28 σ27.1 from by first | exact ⟨Or.inl rfl, hD, hW⟩ | exact ⟨Or.inr rfl, hD, hW⟩ | exact ⟨Or.inl hqv25.1, hD, hW⟩)⟩
      · refine ok_gI rfl ?_
        refine ok_if (fun hc29 => ?_) (fun hc29 => ?_)
        · rw [J_X5_readWeight_83.eq_1]
          refine ok_gC rfl ?_
          refine ok_zbT (Q := fun V σ => V = (0 : Int32) ∧ RD σ.1 ∧ (¬ (0 : Int32) = 0 → ¬ σ0.1 61 (Int32.toNatClampNeg (σ0.1 57 9)) = 0 → (σ.1 57 9).toInt = (σ0.1 57 9).toInt + 1)) hT (s_X5_advance hN (hR.tr hT) (by first | exact hX | exact hT.1.2 hX) (hD) (by first | exact Or.inl rfl | exact Or.inr rfl | assumption)) (by decide) (fun v30 σ31 hOσ31 hT hqv30 => ?_)
          have hqv30 : v30 = (0 : Int32) ∧ RD σ31.1 ∧ (¬ (0 : Int32) = 0 → ¬ σ0.1 61 (Int32.toNatClampNeg (σ0.1 57 9)) = 0 → (σ31.1 57 9).toInt = (σ0.1 57 9).toInt + 1) := hqv30
          have hD : RD σ31.1 := by first | exact hqv30.2 | exact hqv30.2.1
          have hW : WI 28 σ31.1 := WI.tr hOσ31 (by decide) (by decide) (by decide) hW
          refine ok_if (fun hc32 => ?_) (fun hc32 => ?_)
          · exact ok_rZ (Or.inl rfl) ⟨hT, (show ((0 : Int32) = 0 ∨ (0 : Int32) = 1) ∧ RD σ31.1 ∧ WI 28 σ31.1 from by first | exact ⟨Or.inl rfl, hD, hW⟩ | exact ⟨Or.inr rfl, hD, hW⟩ | exact ⟨Or.inl hqv30.1, hD, hW⟩)⟩
          · refine ok_gC rfl ?_
            refine ok_zbT (Q := fun V σ => (V = 0 ∨ V = 1) ∧ RD σ.1 ∧ (¬ V = 0 → 1 ≤ (σ.1 57 9).toInt ∧ (0 : Int32).toInt ≤ (lastv σ.1).toInt ∧ (lastv σ.1).toInt ≤ (99 : Int32).toInt)) hT (s_X5_passNumber hN (hR.tr hT) (by first | exact hX | exact hT.1.2 hX) (hD)) (by decide) (fun v33 σ34 hOσ34 hT hqv33 => ?_)
            have hqv33 : (v33 = 0 ∨ v33 = 1) ∧ RD σ34.1 ∧ (¬ v33 = 0 → 1 ≤ (σ34.1 57 9).toInt ∧ (0 : Int32).toInt ≤ (lastv σ34.1).toInt ∧ (lastv σ34.1).toInt ≤ (99 : Int32).toInt) := hqv33
            have hD : RD σ34.1 := by first | exact hqv33.2 | exact hqv33.2.1
            have hW : WI 28 σ34.1 := WI.tr hOσ34 (by decide) (by decide) (by decide) hW
            refine ok_if (fun hc35 => ?_) (fun hc35 => ?_)
            · exact ok_rZ (Or.inl rfl) ⟨hT, (show ((0 : Int32) = 0 ∨ (0 : Int32) = 1) ∧ RD σ34.1 ∧ WI 28 σ34.1 from by first | exact ⟨Or.inl rfl, hD, hW⟩ | exact ⟨Or.inr rfl, hD, hW⟩ | exact ⟨Or.inl hqv33.1, hD, hW⟩)⟩
            · refine ok_gR (v := 31) hT rfl (hR 28 5 rfl) ?_
              refine ok_gC rfl ?_
              refine ok_zbT (Q := fun V σ => 1 ≤ (σ34.1 57 9).toInt → V = lastv σ34.1) hT (s_X5_passed hN (hR.tr hT) (by first | exact hX | exact hT.1.2 hX) (hD)) (fun _ h9 => absurd h9 List.not_mem_nil) (fun v37 σ38 hOσ38 hT hqv37 => ?_)
              have hqv37 : 1 ≤ (σ34.1 57 9).toInt → v37 = lastv σ34.1 := hqv37
              have hD : RD σ38.1 := RD.tr hOσ38 (by decide) (by decide) (by decide) (by decide) hD
              have hW : WI 28 σ38.1 := WI.tr hOσ38 (by decide) (by decide) (by decide) hW
              refine ok_s14 hT rfl (by decide) (by have q1 := hD.1; have q2 := hD.2.1; have q3 := hD0.1; have q4 := hD0.2.1; first | omega | decide | (simp only [Int32.le_iff_toInt_le, Int32.lt_iff_toInt_lt, ti_add, ti_sub, ti_mul, Int32.reduceToInt] at *; omega) | (exfalso; simp_all; done)) (by have q1 := hD.1; have q2 := hD.2.1; have q3 := hD0.1; have q4 := hD0.2.1; first | omega | decide | (simp only [Int32.le_iff_toInt_le, Int32.lt_iff_toInt_lt, ti_add, ti_sub, ti_mul, Int32.reduceToInt] at *; omega) | (exfalso; simp_all; done)) (fun σ39 eσ39 hOσ39 hT => ?_)
              have hD : RD σ39.1 := RD.tr hOσ39 (by decide) (by decide) (by decide) (by decide) hD
              have hW : WI 28 σ39.1 := WI.tr hOσ39 (by decide) (by decide) (by decide) hW
              exact ok_rZ (Or.inr rfl) ⟨hT, (show ((1 : Int32) = 0 ∨ (1 : Int32) = 1) ∧ RD σ39.1 ∧ WI 28 σ39.1 from by first | exact ⟨Or.inl rfl, hD, hW⟩ | exact ⟨Or.inr rfl, hD, hW⟩ | exact ⟨Or.inl hqv37.1, hD, hW⟩)⟩
        · refine ok_if (fun hc40 => ?_) (fun hc40 => ?_)
          · rw [J_X5_readWeight_83.eq_1]
            refine ok_gC rfl ?_
            refine ok_zbT (Q := fun V σ => V = (0 : Int32) ∧ RD σ.1 ∧ (¬ (0 : Int32) = 0 → ¬ σ0.1 61 (Int32.toNatClampNeg (σ0.1 57 9)) = 0 → (σ.1 57 9).toInt = (σ0.1 57 9).toInt + 1)) hT (s_X5_advance hN (hR.tr hT) (by first | exact hX | exact hT.1.2 hX) (hD) (by first | exact Or.inl rfl | exact Or.inr rfl | assumption)) (by decide) (fun v41 σ42 hOσ42 hT hqv41 => ?_)
            have hqv41 : v41 = (0 : Int32) ∧ RD σ42.1 ∧ (¬ (0 : Int32) = 0 → ¬ σ0.1 61 (Int32.toNatClampNeg (σ0.1 57 9)) = 0 → (σ42.1 57 9).toInt = (σ0.1 57 9).toInt + 1) := hqv41
            have hD : RD σ42.1 := by first | exact hqv41.2 | exact hqv41.2.1
            have hW : WI 28 σ42.1 := WI.tr hOσ42 (by decide) (by decide) (by decide) hW
            refine ok_if (fun hc43 => ?_) (fun hc43 => ?_)
            · exact ok_rZ (Or.inl rfl) ⟨hT, (show ((0 : Int32) = 0 ∨ (0 : Int32) = 1) ∧ RD σ42.1 ∧ WI 28 σ42.1 from by first | exact ⟨Or.inl rfl, hD, hW⟩ | exact ⟨Or.inr rfl, hD, hW⟩ | exact ⟨Or.inl hqv41.1, hD, hW⟩)⟩
            · refine ok_gC rfl ?_
              refine ok_zbT (Q := fun V σ => (V = 0 ∨ V = 1) ∧ RD σ.1 ∧ (¬ V = 0 → 1 ≤ (σ.1 57 9).toInt ∧ (0 : Int32).toInt ≤ (lastv σ.1).toInt ∧ (lastv σ.1).toInt ≤ (99 : Int32).toInt)) hT (s_X5_passNumber hN (hR.tr hT) (by first | exact hX | exact hT.1.2 hX) (hD)) (by decide) (fun v44 σ45 hOσ45 hT hqv44 => ?_)
              have hqv44 : (v44 = 0 ∨ v44 = 1) ∧ RD σ45.1 ∧ (¬ v44 = 0 → 1 ≤ (σ45.1 57 9).toInt ∧ (0 : Int32).toInt ≤ (lastv σ45.1).toInt ∧ (lastv σ45.1).toInt ≤ (99 : Int32).toInt) := hqv44
              have hD : RD σ45.1 := by first | exact hqv44.2 | exact hqv44.2.1
              have hW : WI 28 σ45.1 := WI.tr hOσ45 (by decide) (by decide) (by decide) hW
              refine ok_if (fun hc46 => ?_) (fun hc46 => ?_)
              · exact ok_rZ (Or.inl rfl) ⟨hT, (show ((0 : Int32) = 0 ∨ (0 : Int32) = 1) ∧ RD σ45.1 ∧ WI 28 σ45.1 from by first | exact ⟨Or.inl rfl, hD, hW⟩ | exact ⟨Or.inr rfl, hD, hW⟩ | exact ⟨Or.inl hqv44.1, hD, hW⟩)⟩
              · refine ok_gR (v := 31) hT rfl (hR 28 5 rfl) ?_
                refine ok_gC rfl ?_
                refine ok_zbT (Q := fun V σ => 1 ≤ (σ45.1 57 9).toInt → V = lastv σ45.1) hT (s_X5_passed hN (hR.tr hT) (by first | exact hX | exact hT.1.2 hX) (hD)) (fun _ h9 => absurd h9 List.not_mem_nil) (fun v48 σ49 hOσ49 hT hqv48 => ?_)
                have hqv48 : 1 ≤ (σ45.1 57 9).toInt → v48 = lastv σ45.1 := hqv48
                have hD : RD σ49.1 := RD.tr hOσ49 (by decide) (by decide) (by decide) (by decide) hD
                have hW : WI 28 σ49.1 := WI.tr hOσ49 (by decide) (by decide) (by decide) hW
                refine ok_s14 hT rfl (by decide) (by have q1 := hD.1; have q2 := hD.2.1; have q3 := hD0.1; have q4 := hD0.2.1; first | omega | decide | (simp only [Int32.le_iff_toInt_le, Int32.lt_iff_toInt_lt, ti_add, ti_sub, ti_mul, Int32.reduceToInt] at *; omega) | (exfalso; simp_all; done)) (by have q1 := hD.1; have q2 := hD.2.1; have q3 := hD0.1; have q4 := hD0.2.1; first | omega | decide | (simp only [Int32.le_iff_toInt_le, Int32.lt_iff_toInt_lt, ti_add, ti_sub, ti_mul, Int32.reduceToInt] at *; omega) | (exfalso; simp_all; done)) (fun σ50 eσ50 hOσ50 hT => ?_)
                have hD : RD σ50.1 := RD.tr hOσ50 (by decide) (by decide) (by decide) (by decide) hD
                have hW : WI 28 σ50.1 := WI.tr hOσ50 (by decide) (by decide) (by decide) hW
                exact ok_rZ (Or.inr rfl) ⟨hT, (show ((1 : Int32) = 0 ∨ (1 : Int32) = 1) ∧ RD σ50.1 ∧ WI 28 σ50.1 from by first | exact ⟨Or.inl rfl, hD, hW⟩ | exact ⟨Or.inr rfl, hD, hW⟩ | exact ⟨Or.inl hqv48.1, hD, hW⟩)⟩
          · rw [J_X5_readWeight_83.eq_1]
            refine ok_gC rfl ?_
            refine ok_zbT (Q := fun V σ => V = (1 : Int32) ∧ RD σ.1 ∧ (¬ (1 : Int32) = 0 → ¬ σ0.1 61 (Int32.toNatClampNeg (σ0.1 57 9)) = 0 → (σ.1 57 9).toInt = (σ0.1 57 9).toInt + 1)) hT (s_X5_advance hN (hR.tr hT) (by first | exact hX | exact hT.1.2 hX) (hD) (by first | exact Or.inl rfl | exact Or.inr rfl | assumption)) (by decide) (fun v51 σ52 hOσ52 hT hqv51 => ?_)
            have hqv51 : v51 = (1 : Int32) ∧ RD σ52.1 ∧ (¬ (1 : Int32) = 0 → ¬ σ0.1 61 (Int32.toNatClampNeg (σ0.1 57 9)) = 0 → (σ52.1 57 9).toInt = (σ0.1 57 9).toInt + 1) := hqv51
            have hD : RD σ52.1 := by first | exact hqv51.2 | exact hqv51.2.1
            have hW : WI 28 σ52.1 := WI.tr hOσ52 (by decide) (by decide) (by decide) hW
            refine ok_if (fun hc53 => ?_) (fun hc53 => ?_)
            · exact ok_rZ (Or.inl rfl) ⟨hT, (show ((0 : Int32) = 0 ∨ (0 : Int32) = 1) ∧ RD σ52.1 ∧ WI 28 σ52.1 from by first | exact ⟨Or.inl rfl, hD, hW⟩ | exact ⟨Or.inr rfl, hD, hW⟩ | exact ⟨Or.inl hqv51.1, hD, hW⟩)⟩
            · refine ok_gC rfl ?_
              refine ok_zbT (Q := fun V σ => (V = 0 ∨ V = 1) ∧ RD σ.1 ∧ (¬ V = 0 → 1 ≤ (σ.1 57 9).toInt ∧ (0 : Int32).toInt ≤ (lastv σ.1).toInt ∧ (lastv σ.1).toInt ≤ (99 : Int32).toInt)) hT (s_X5_passNumber hN (hR.tr hT) (by first | exact hX | exact hT.1.2 hX) (hD)) (by decide) (fun v54 σ55 hOσ55 hT hqv54 => ?_)
              have hqv54 : (v54 = 0 ∨ v54 = 1) ∧ RD σ55.1 ∧ (¬ v54 = 0 → 1 ≤ (σ55.1 57 9).toInt ∧ (0 : Int32).toInt ≤ (lastv σ55.1).toInt ∧ (lastv σ55.1).toInt ≤ (99 : Int32).toInt) := hqv54
              have hD : RD σ55.1 := by first | exact hqv54.2 | exact hqv54.2.1
              have hW : WI 28 σ55.1 := WI.tr hOσ55 (by decide) (by decide) (by decide) hW
              refine ok_if (fun hc56 => ?_) (fun hc56 => ?_)
              · exact ok_rZ (Or.inl rfl) ⟨hT, (show ((0 : Int32) = 0 ∨ (0 : Int32) = 1) ∧ RD σ55.1 ∧ WI 28 σ55.1 from by first | exact ⟨Or.inl rfl, hD, hW⟩ | exact ⟨Or.inr rfl, hD, hW⟩ | exact ⟨Or.inl hqv54.1, hD, hW⟩)⟩
              · refine ok_gR (v := 31) hT rfl (hR 28 5 rfl) ?_
                refine ok_gC rfl ?_
                refine ok_zbT (Q := fun V σ => 1 ≤ (σ55.1 57 9).toInt → V = lastv σ55.1) hT (s_X5_passed hN (hR.tr hT) (by first | exact hX | exact hT.1.2 hX) (hD)) (fun _ h9 => absurd h9 List.not_mem_nil) (fun v58 σ59 hOσ59 hT hqv58 => ?_)
                have hqv58 : 1 ≤ (σ55.1 57 9).toInt → v58 = lastv σ55.1 := hqv58
                have hD : RD σ59.1 := RD.tr hOσ59 (by decide) (by decide) (by decide) (by decide) hD
                have hW : WI 28 σ59.1 := WI.tr hOσ59 (by decide) (by decide) (by decide) hW
                refine ok_s14 hT rfl (by decide) (by have q1 := hD.1; have q2 := hD.2.1; have q3 := hD0.1; have q4 := hD0.2.1; first | omega | decide | (simp only [Int32.le_iff_toInt_le, Int32.lt_iff_toInt_lt, ti_add, ti_sub, ti_mul, Int32.reduceToInt] at *; omega) | (exfalso; simp_all; done)) (by have q1 := hD.1; have q2 := hD.2.1; have q3 := hD0.1; have q4 := hD0.2.1; first | omega | decide | (simp only [Int32.le_iff_toInt_le, Int32.lt_iff_toInt_lt, ti_add, ti_sub, ti_mul, Int32.reduceToInt] at *; omega) | (exfalso; simp_all; done)) (fun σ60 eσ60 hOσ60 hT => ?_)
                have hD : RD σ60.1 := RD.tr hOσ60 (by decide) (by decide) (by decide) (by decide) hD
                have hW : WI 28 σ60.1 := WI.tr hOσ60 (by decide) (by decide) (by decide) hW
                exact ok_rZ (Or.inr rfl) ⟨hT, (show ((1 : Int32) = 0 ∨ (1 : Int32) = 1) ∧ RD σ60.1 ∧ WI 28 σ60.1 from by first | exact ⟨Or.inl rfl, hD, hW⟩ | exact ⟨Or.inr rfl, hD, hW⟩ | exact ⟨Or.inl hqv58.1, hD, hW⟩)⟩
    · refine ok_gC rfl ?_
      refine ok_zbT (Q := fun V σ => V = 0 ∧ RD σ.1) hT (s_X5_fail hN (hR.tr hT) (by first | exact hX | exact hT.1.2 hX) (hD)) (by decide) (fun v61 σ62 hOσ62 hT hqv61 => ?_)
      have hqv61 : v61 = 0 ∧ RD σ62.1 := hqv61
      have hD : RD σ62.1 := by first | exact hqv61.2 | exact hqv61.2.1
      have hW : WI 28 σ62.1 := WI.tr hOσ62 (by decide) (by decide) (by decide) hW
      exact ok_rZ (Or.inl hqv61.1) ⟨hT, (show (v61 = 0 ∨ v61 = 1) ∧ RD σ62.1 ∧ WI 28 σ62.1 from by first | exact ⟨Or.inl rfl, hD, hW⟩ | exact ⟨Or.inr rfl, hD, hW⟩ | exact ⟨Or.inl hqv61.1, hD, hW⟩)⟩
  · refine ok_gC rfl ?_
    refine ok_zbT (Q := fun V σ => V = 0 ∧ RD σ.1) hT (s_X5_fail hN (hR.tr hT) (by first | exact hX | exact hT.1.2 hX) (hD)) (by decide) (fun v63 σ64 hOσ64 hT hqv63 => ?_)
    have hqv63 : v63 = 0 ∧ RD σ64.1 := hqv63
    have hD : RD σ64.1 := by first | exact hqv63.2 | exact hqv63.2.1
    have hW : WI 28 σ64.1 := WI.tr hOσ64 (by decide) (by decide) (by decide) hW
    exact ok_rZ (Or.inl hqv63.1) ⟨hT, (show (v63 = 0 ∨ v63 = 1) ∧ RD σ64.1 ∧ WI 28 σ64.1 from by first | exact ⟨Or.inl rfl, hD, hW⟩ | exact ⟨Or.inr rfl, hD, hW⟩ | exact ⟨Or.inl hqv63.1, hD, hW⟩)⟩

set_option maxHeartbeats 4000000 in
set_option maxRecDepth 100000 in
theorem s_X5_readEdge_28 {N : Nat} (hN : 1048576 ≤ N)  {σ0 : zS}  (hR : RF σ0.2.2) (hX : σ0.2.2 57 5 = 1) (hD : RD σ0.1) (hW : WI 28 σ0.1) : Ok (f_X5_readEdge N 57 28 σ0) (fun r => Tr [28, 29, 30, 57] σ0 r.2 ∧ ((r.1 = 0 ∨ r.1 = 1) ∧ RD r.2.1 ∧ WI 28 r.2.1)) := by
  have hT : Tr [28, 29, 30, 57] σ0 σ0 := Tr.rf
  have hD0 := hD
  rw [f_X5_readEdge.eq_1]
  refine ok_gC rfl ?_
  refine ok_zbT (Q := fun V σ => (V = 0 ∨ V = 1) ∧ RD σ.1 ∧ (¬ V = 0 → 1 ≤ (σ.1 57 9).toInt ∧ (0 : Int32).toInt ≤ (lastv σ.1).toInt ∧ (lastv σ.1).toInt ≤ (7 : Int32).toInt)) hT (s_X5_passNumber hN (hR.tr hT) (by first | exact hX | exact hT.1.2 hX) (hD)) (by decide) (fun v1 σ2 hOσ2 hT hqv1 => ?_)
  have hqv1 : (v1 = 0 ∨ v1 = 1) ∧ RD σ2.1 ∧ (¬ v1 = 0 → 1 ≤ (σ2.1 57 9).toInt ∧ (0 : Int32).toInt ≤ (lastv σ2.1).toInt ∧ (lastv σ2.1).toInt ≤ (7 : Int32).toInt) := hqv1
  have hD : RD σ2.1 := by first | exact hqv1.2 | exact hqv1.2.1
  have hW : WI 28 σ2.1 := WI.tr hOσ2 (by decide) (by decide) (by decide) hW
  refine ok_if (fun hc3 => ?_) (fun hc3 => ?_)
  · exact ok_rZ (Or.inl rfl) ⟨hT, (show ((0 : Int32) = 0 ∨ (0 : Int32) = 1) ∧ RD σ2.1 ∧ WI 28 σ2.1 from by first | exact ⟨Or.inl rfl, hD, hW⟩ | exact ⟨Or.inr rfl, hD, hW⟩ | exact ⟨Or.inl hqv1.1, hD, hW⟩)⟩
  · have q0 := hqv1.2.2 hc3
    refine ok_gC rfl ?_
    refine ok_zbT (Q := fun V σ => 1 ≤ (σ2.1 57 9).toInt → V = lastv σ2.1) hT (s_X5_passed hN (hR.tr hT) (by first | exact hX | exact hT.1.2 hX) (hD)) (fun _ h9 => absurd h9 List.not_mem_nil) (fun v4 σ5 hOσ5 hT hqv4 => ?_)
    have hqv4 : 1 ≤ (σ2.1 57 9).toInt → v4 = lastv σ2.1 := hqv4
    have hD : RD σ5.1 := RD.tr hOσ5 (by decide) (by decide) (by decide) (by decide) hD
    have hW : WI 28 σ5.1 := WI.tr hOσ5 (by decide) (by decide) (by decide) hW
    have q1 := hqv4 q0.1
    have r1 : 0 ≤ v4.toInt ∧ v4.toInt ≤ 7 := by rw [q1]; have q9 := q0.2; simp only [Int32.reduceToInt] at q9; omega
    refine ok_gR (v := 61) hT rfl (hR 57 10 rfl) ?_
    refine ok_gI rfl ?_
    refine ok_aIn rfl (by have q1 := hD.1; have q2 := hD.2.1; have q3 := hD0.1; have q4 := hD0.2.1; first | omega | decide | (simp only [Int32.le_iff_toInt_le, Int32.lt_iff_toInt_lt, ti_add, ti_sub, ti_mul, Int32.reduceToInt] at *; omega) | (exfalso; simp_all; done)) (by have q1 := hD.1; have q2 := hD.2.1; have q3 := hD0.1; have q4 := hD0.2.1; first | omega | decide | (simp only [Int32.le_iff_toInt_le, Int32.lt_iff_toInt_lt, ti_add, ti_sub, ti_mul, Int32.reduceToInt] at *; omega) | (exfalso; simp_all; done)) (fun v8 ev8 => ?_)
    refine ok_if (fun hc9 => ?_) (fun hc9 => ?_)
    · refine ok_gR (v := 62) hT rfl (hR 57 11 rfl) ?_
      refine ok_gI rfl ?_
      refine ok_aIn rfl (by have q1 := hD.1; have q2 := hD.2.1; have q3 := hD0.1; have q4 := hD0.2.1; first | omega | decide | (simp only [Int32.le_iff_toInt_le, Int32.lt_iff_toInt_lt, ti_add, ti_sub, ti_mul, Int32.reduceToInt] at *; omega) | (exfalso; simp_all; done)) (by have q1 := hD.1; have q2 := hD.2.1; have q3 := hD0.1; have q4 := hD0.2.1; first | omega | decide | (simp only [Int32.le_iff_toInt_le, Int32.lt_iff_toInt_lt, ti_add, ti_sub, ti_mul, Int32.reduceToInt] at *; omega) | (exfalso; simp_all; done)) (fun v12 ev12 => ?_)
      refine ok_if (fun hc13 => ?_) (fun hc13 => ?_)
      · refine ok_gC rfl ?_
        refine ok_zbT (Q := fun V σ => V = 0 ∧ RD σ.1) hT (s_X5_fail hN (hR.tr hT) (by first | exact hX | exact hT.1.2 hX) (hD)) (by decide) (fun v14 σ15 hOσ15 hT hqv14 => ?_)
        have hqv14 : v14 = 0 ∧ RD σ15.1 := hqv14
        have hD : RD σ15.1 := by first | exact hqv14.2 | exact hqv14.2.1
        have hW : WI 28 σ15.1 := WI.tr hOσ15 (by decide) (by decide) (by decide) hW
        exact ok_rZ (Or.inl hqv14.1) ⟨hT, (show (v14 = 0 ∨ v14 = 1) ∧ RD σ15.1 ∧ WI 28 σ15.1 from by first | exact ⟨Or.inl rfl, hD, hW⟩ | exact ⟨Or.inr rfl, hD, hW⟩ | exact ⟨Or.inl hqv14.1, hD, hW⟩)⟩
      · rw [J_X5_readEdge_49.eq_1]
        refine ok_gC rfl ?_
        refine ok_zbT (Q := fun V σ => (V = 0 ∨ V = 1) ∧ RD σ.1 ∧ (¬ V = 0 → 1 ≤ (σ.1 57 9).toInt ∧ (0 : Int32).toInt ≤ (lastv σ.1).toInt ∧ (lastv σ.1).toInt ≤ (7 : Int32).toInt)) hT (s_X5_passNumber hN (hR.tr hT) (by first | exact hX | exact hT.1.2 hX) (hD)) (by decide) (fun v16 σ17 hOσ17 hT hqv16 => ?_)
        have hqv16 : (v16 = 0 ∨ v16 = 1) ∧ RD σ17.1 ∧ (¬ v16 = 0 → 1 ≤ (σ17.1 57 9).toInt ∧ (0 : Int32).toInt ≤ (lastv σ17.1).toInt ∧ (lastv σ17.1).toInt ≤ (7 : Int32).toInt) := hqv16
        have hD : RD σ17.1 := by first | exact hqv16.2 | exact hqv16.2.1
        have hW : WI 28 σ17.1 := WI.tr hOσ17 (by decide) (by decide) (by decide) hW
        refine ok_if (fun hc18 => ?_) (fun hc18 => ?_)
        · exact ok_rZ (Or.inl rfl) ⟨hT, (show ((0 : Int32) = 0 ∨ (0 : Int32) = 1) ∧ RD σ17.1 ∧ WI 28 σ17.1 from by first | exact ⟨Or.inl rfl, hD, hW⟩ | exact ⟨Or.inr rfl, hD, hW⟩ | exact ⟨Or.inl hqv16.1, hD, hW⟩)⟩
        · have q5 := hqv16.2.2 hc18
          refine ok_gC rfl ?_
          refine ok_zbT (Q := fun V σ => 1 ≤ (σ17.1 57 9).toInt → V = lastv σ17.1) hT (s_X5_passed hN (hR.tr hT) (by first | exact hX | exact hT.1.2 hX) (hD)) (fun _ h9 => absurd h9 List.not_mem_nil) (fun v19 σ20 hOσ20 hT hqv19 => ?_)
          have hqv19 : 1 ≤ (σ17.1 57 9).toInt → v19 = lastv σ17.1 := hqv19
          have hD : RD σ20.1 := RD.tr hOσ20 (by decide) (by decide) (by decide) (by decide) hD
          have hW : WI 28 σ20.1 := WI.tr hOσ20 (by decide) (by decide) (by decide) hW
          have q6 := hqv19 q5.1
          have r6 : 0 ≤ v19.toInt ∧ v19.toInt ≤ 7 := by rw [q6]; have q9 := q5.2; simp only [Int32.reduceToInt] at q9; omega
          refine ok_gC rfl ?_
          refine ok_zbT (Q := fun V σ => WI 28 σ.1) hT (s_X10_addEdge_28 hN (hR.tr hT) (by exact hW) (by have q1 := hD.1; have q2 := hD.2.1; have q3 := hD0.1; have q4 := hD0.2.1; first | omega | decide | (simp only [Int32.le_iff_toInt_le, Int32.lt_iff_toInt_lt, ti_add, ti_sub, ti_mul, Int32.reduceToInt] at *; omega) | (exfalso; simp_all; done)) (by have q1 := hD.1; have q2 := hD.2.1; have q3 := hD0.1; have q4 := hD0.2.1; first | omega | decide | (simp only [Int32.le_iff_toInt_le, Int32.lt_iff_toInt_lt, ti_add, ti_sub, ti_mul, Int32.reduceToInt] at *; omega) | (exfalso; simp_all; done))) (by decide) (fun v21 σ22 hOσ22 hT hqv21 => ?_)
          have hqv21 : WI 28 σ22.1 := hqv21
          have hD : RD σ22.1 := RD.tr hOσ22 (by decide) (by decide) (by decide) (by decide) hD
          have hW : WI 28 σ22.1 := hqv21
          exact ok_rZ (Or.inr rfl) ⟨hT, (show ((1 : Int32) = 0 ∨ (1 : Int32) = 1) ∧ RD σ22.1 ∧ WI 28 σ22.1 from by first | exact ⟨Or.inl rfl, hD, hW⟩ | exact ⟨Or.inr rfl, hD, hW⟩ | exact ⟨Or.inl hqv21.1, hD, hW⟩)⟩
    · rw [J_X5_readEdge_49.eq_1]
      refine ok_gC rfl ?_
      refine ok_zbT (Q := fun V σ => (V = 0 ∨ V = 1) ∧ RD σ.1 ∧ (¬ V = 0 → 1 ≤ (σ.1 57 9).toInt ∧ (0 : Int32).toInt ≤ (lastv σ.1).toInt ∧ (lastv σ.1).toInt ≤ (7 : Int32).toInt)) hT (s_X5_passNumber hN (hR.tr hT) (by first | exact hX | exact hT.1.2 hX) (hD)) (by decide) (fun v23 σ24 hOσ24 hT hqv23 => ?_)
      have hqv23 : (v23 = 0 ∨ v23 = 1) ∧ RD σ24.1 ∧ (¬ v23 = 0 → 1 ≤ (σ24.1 57 9).toInt ∧ (0 : Int32).toInt ≤ (lastv σ24.1).toInt ∧ (lastv σ24.1).toInt ≤ (7 : Int32).toInt) := hqv23
      have hD : RD σ24.1 := by first | exact hqv23.2 | exact hqv23.2.1
      have hW : WI 28 σ24.1 := WI.tr hOσ24 (by decide) (by decide) (by decide) hW
      refine ok_if (fun hc25 => ?_) (fun hc25 => ?_)
      · exact ok_rZ (Or.inl rfl) ⟨hT, (show ((0 : Int32) = 0 ∨ (0 : Int32) = 1) ∧ RD σ24.1 ∧ WI 28 σ24.1 from by first | exact ⟨Or.inl rfl, hD, hW⟩ | exact ⟨Or.inr rfl, hD, hW⟩ | exact ⟨Or.inl hqv23.1, hD, hW⟩)⟩
      · have q5 := hqv23.2.2 hc25
        refine ok_gC rfl ?_
        refine ok_zbT (Q := fun V σ => 1 ≤ (σ24.1 57 9).toInt → V = lastv σ24.1) hT (s_X5_passed hN (hR.tr hT) (by first | exact hX | exact hT.1.2 hX) (hD)) (fun _ h9 => absurd h9 List.not_mem_nil) (fun v26 σ27 hOσ27 hT hqv26 => ?_)
        have hqv26 : 1 ≤ (σ24.1 57 9).toInt → v26 = lastv σ24.1 := hqv26
        have hD : RD σ27.1 := RD.tr hOσ27 (by decide) (by decide) (by decide) (by decide) hD
        have hW : WI 28 σ27.1 := WI.tr hOσ27 (by decide) (by decide) (by decide) hW
        have q6 := hqv26 q5.1
        have r6 : 0 ≤ v26.toInt ∧ v26.toInt ≤ 7 := by rw [q6]; have q9 := q5.2; simp only [Int32.reduceToInt] at q9; omega
        refine ok_gC rfl ?_
        refine ok_zbT (Q := fun V σ => WI 28 σ.1) hT (s_X10_addEdge_28 hN (hR.tr hT) (by exact hW) (by have q1 := hD.1; have q2 := hD.2.1; have q3 := hD0.1; have q4 := hD0.2.1; first | omega | decide | (simp only [Int32.le_iff_toInt_le, Int32.lt_iff_toInt_lt, ti_add, ti_sub, ti_mul, Int32.reduceToInt] at *; omega) | (exfalso; simp_all; done)) (by have q1 := hD.1; have q2 := hD.2.1; have q3 := hD0.1; have q4 := hD0.2.1; first | omega | decide | (simp only [Int32.le_iff_toInt_le, Int32.lt_iff_toInt_lt, ti_add, ti_sub, ti_mul, Int32.reduceToInt] at *; omega) | (exfalso; simp_all; done))) (by decide) (fun v28 σ29 hOσ29 hT hqv28 => ?_)
        have hqv28 : WI 28 σ29.1 := hqv28
        have hD : RD σ29.1 := RD.tr hOσ29 (by decide) (by decide) (by decide) (by decide) hD
        have hW : WI 28 σ29.1 := hqv28
        exact ok_rZ (Or.inr rfl) ⟨hT, (show ((1 : Int32) = 0 ∨ (1 : Int32) = 1) ∧ RD σ29.1 ∧ WI 28 σ29.1 from by first | exact ⟨Or.inl rfl, hD, hW⟩ | exact ⟨Or.inr rfl, hD, hW⟩ | exact ⟨Or.inl hqv28.1, hD, hW⟩)⟩

set_option maxHeartbeats 4000000 in
set_option maxRecDepth 100000 in
theorem s_X5_readLine_28 {N : Nat} (hN : 1048576 ≤ N)  {σ0 : zS}  (hR : RF σ0.2.2) (hX : σ0.2.2 57 5 = 1) (hD : RD σ0.1) (hW : WI 28 σ0.1) : Ok (f_X5_readLine N 57 28 σ0) (fun r => Tr [28, 29, 30, 31, 57, 58, 59] σ0 r.2 ∧ ((r.1 = 0 ∨ r.1 = 1) ∧ RD r.2.1 ∧ WI 28 r.2.1)) := by
  have hT : Tr [28, 29, 30, 31, 57, 58, 59] σ0 σ0 := Tr.rf
  have hD0 := hD
  rw [f_X5_readLine.eq_1]
  refine ok_gR (v := 61) hT rfl (hR 57 10 rfl) ?_
  refine ok_gI rfl ?_
  refine ok_aIn rfl (by have q1 := hD.1; have q2 := hD.2.1; have q3 := hD0.1; have q4 := hD0.2.1; first | omega | decide | (simp only [Int32.le_iff_toInt_le, Int32.lt_iff_toInt_lt, ti_add, ti_sub, ti_mul, Int32.reduceToInt] at *; omega) | (exfalso; simp_all; done)) (by have q1 := hD.1; have q2 := hD.2.1; have q3 := hD0.1; have q4 := hD0.2.1; first | omega | decide | (simp only [Int32.le_iff_toInt_le, Int32.lt_iff_toInt_lt, ti_add, ti_sub, ti_mul, Int32.reduceToInt] at *; omega) | (exfalso; simp_all; done)) (fun v3 ev3 => ?_)
  refine ok_if (fun hc4 => ?_) (fun hc4 => ?_)
  · refine ok_gR (v := 62) hT rfl (hR 57 11 rfl) ?_
    refine ok_gI rfl ?_
    refine ok_aIn rfl (by have q1 := hD.1; have q2 := hD.2.1; have q3 := hD0.1; have q4 := hD0.2.1; first | omega | decide | (simp only [Int32.le_iff_toInt_le, Int32.lt_iff_toInt_lt, ti_add, ti_sub, ti_mul, Int32.reduceToInt] at *; omega) | (exfalso; simp_all; done)) (by have q1 := hD.1; have q2 := hD.2.1; have q3 := hD0.1; have q4 := hD0.2.1; first | omega | decide | (simp only [Int32.le_iff_toInt_le, Int32.lt_iff_toInt_lt, ti_add, ti_sub, ti_mul, Int32.reduceToInt] at *; omega) | (exfalso; simp_all; done)) (fun v7 ev7 => ?_)
    rw [J_X5_readLine_26.eq_1]
    refine ok_gI rfl ?_
    refine ok_if (fun hc9 => ?_) (fun hc9 => ?_)
    · rw [J_X5_readLine_39.eq_1]
      refine ok_if (fun hc10 => ?_) (fun hc10 => ?_)
      · rw [J_X5_readLine_51.eq_1]
        refine ok_if (fun hc11 => ?_) (fun hc11 => ?_)
        · refine ok_if (fun hc12 => ?_) (fun hc12 => ?_)
          · refine ok_gC rfl ?_
            refine ok_zbT (Q := fun V σ => V = 0 ∧ RD σ.1) hT (s_X5_fail hN (hR.tr hT) (by first | exact hX | exact hT.1.2 hX) (hD)) (by decide) (fun v13 σ14 hOσ14 hT hqv13 => ?_)
            have hqv13 : v13 = 0 ∧ RD σ14.1 := hqv13
            have hD : RD σ14.1 := by first | exact hqv13.2 | exact hqv13.2.1
            have hW : WI 28 σ14.1 := WI.tr hOσ14 (by decide) (by decide) (by decide) hW
            exact ok_rZ (by have q := hqv13.1; first | exact q | exact Or.inl q | exact Or.inr q) ⟨hT, (show (v13 = 0 ∨ v13 = 1) ∧ RD σ14.1 ∧ WI 28 σ14.1 from by first | exact ⟨Or.inl rfl, hD, hW⟩ | exact ⟨Or.inr rfl, hD, hW⟩ | exact ⟨Or.inl hqv13.1, hD, hW⟩ | exact ⟨hqv13.1, hD, hW⟩)⟩
          · refine ok_if (fun hc15 => ?_) (fun hc15 => ?_)
            · refine ok_if (fun hc16 => ?_) (fun hc16 => ?_)
              · refine ok_gI rfl ?_
                refine ok_gI rfl ?_
                refine ok_if (fun hc19 => ?_) (fun hc19 => ?_)
                · rw [J_X5_readLine_92.eq_1]
                  refine ok_gC rfl ?_
                  refine ok_zbT (Q := fun V σ => (V = 0 ∨ V = 1) ∧ RD σ.1) hT (s_X5_pass hN (hR.tr hT) (by first | exact hX | exact hT.1.2 hX) (hD)) (by decide) (fun v20 σ21 hOσ21 hT hqv20 => ?_)
                  have hqv20 : (v20 = 0 ∨ v20 = 1) ∧ RD σ21.1 := hqv20
                  have hD : RD σ21.1 := by first | exact hqv20.2 | exact hqv20.2.1
                  have hW : WI 28 σ21.1 := WI.tr hOσ21 (by decide) (by decide) (by decide) hW
                  refine ok_gR (v := 62) hT rfl (hR 57 11 rfl) ?_
                  refine ok_gI rfl ?_
                  refine ok_aIn rfl (by have q1 := hD.1; have q2 := hD.2.1; have q3 := hD0.1; have q4 := hD0.2.1; first | omega | decide | (simp only [Int32.le_iff_toInt_le, Int32.lt_iff_toInt_lt, ti_add, ti_sub, ti_mul, Int32.reduceToInt] at *; omega) | (exfalso; simp_all; done)) (by have q1 := hD.1; have q2 := hD.2.1; have q3 := hD0.1; have q4 := hD0.2.1; first | omega | decide | (simp only [Int32.le_iff_toInt_le, Int32.lt_iff_toInt_lt, ti_add, ti_sub, ti_mul, Int32.reduceToInt] at *; omega) | (exfalso; simp_all; done)) (fun v24 ev24 => ?_)
                  refine ok_if (fun hc25 => ?_) (fun hc25 => ?_)
                  · refine ok_gC rfl ?_
                    refine ok_zbT (Q := fun V σ => (V = 0 ∨ V = 1) ∧ RD σ.1 ∧ WI 28 σ.1) hT (s_X5_readNames_28 hN (hR.tr hT) (by first | exact hX | exact hT.1.2 hX) (hD) (hW)) (by decide) (fun v26 σ27 hOσ27 hT hqv26 => ?_)
                    have hqv26 : (v26 = 0 ∨ v26 = 1) ∧ RD σ27.1 ∧ WI 28 σ27.1 := hqv26
                    have hD : RD σ27.1 := by first | exact hqv26.2 | exact hqv26.2.1
                    have hW : WI 28 σ27.1 := by first | exact hqv26.2.2 | exact hqv26
                    rw [J_X5_readLine_211.eq_1]
                    refine ok_if (fun hc28 => ?_) (fun hc28 => ?_)
                    · exact ok_rZ (Or.inl rfl) ⟨hT, (show ((0 : Int32) = 0 ∨ (0 : Int32) = 1) ∧ RD σ27.1 ∧ WI 28 σ27.1 from by first | exact ⟨Or.inl rfl, hD, hW⟩ | exact ⟨Or.inr rfl, hD, hW⟩ | exact ⟨Or.inl hqv26.1, hD, hW⟩ | exact ⟨hqv26.1, hD, hW⟩)⟩
                    · refine ok_gC rfl ?_
                      refine ok_zbT (Q := fun V σ => (V = 0 ∨ V = 1) ∧ RD σ.1) hT (s_X5_pass hN (hR.tr hT) (by first | exact hX | exact hT.1.2 hX) (hD)) (by decide) (fun v29 σ30 hOσ30 hT hqv29 => ?_)
                      have hqv29 : (v29 = 0 ∨ v29 = 1) ∧ RD σ30.1 := hqv29
                      have hD : RD σ30.1 := by first | exact hqv29.2 | exact hqv29.2.1
                      have hW : WI 28 σ30.1 := WI.tr hOσ30 (by decide) (by decide) (by decide) hW
                      refine ok_if (fun hc31 => ?_) (fun hc31 => ?_)
                      · exact ok_rZ (Or.inl rfl) ⟨hT, (show ((0 : Int32) = 0 ∨ (0 : Int32) = 1) ∧ RD σ30.1 ∧ WI 28 σ30.1 from by first | exact ⟨Or.inl rfl, hD, hW⟩ | exact ⟨Or.inr rfl, hD, hW⟩ | exact ⟨Or.inl hqv29.1, hD, hW⟩ | exact ⟨hqv29.1, hD, hW⟩)⟩
                      · exact ok_rZ (Or.inr rfl) ⟨hT, (show ((1 : Int32) = 0 ∨ (1 : Int32) = 1) ∧ RD σ30.1 ∧ WI 28 σ30.1 from by first | exact ⟨Or.inl rfl, hD, hW⟩ | exact ⟨Or.inr rfl, hD, hW⟩ | exact ⟨Or.inl hqv29.1, hD, hW⟩ | exact ⟨hqv29.1, hD, hW⟩)⟩
                  refine ok_if (fun hc32 => ?_) (fun hc32 => ?_)
                  · refine ok_gC rfl ?_
                    refine ok_zbT (Q := fun V σ => (V = 0 ∨ V = 1) ∧ RD σ.1 ∧ WI 28 σ.1) hT (s_X5_readWeight_28 hN (hR.tr hT) (by first | exact hX | exact hT.1.2 hX) (hD) (hW)) (by decide) (fun v33 σ34 hOσ34 hT hqv33 => ?_)
                    have hqv33 : (v33 = 0 ∨ v33 = 1) ∧ RD σ34.1 ∧ WI 28 σ34.1 := hqv33
                    have hD : RD σ34.1 := by first | exact hqv33.2 | exact hqv33.2.1
                    have hW : WI 28 σ34.1 := WI.tr hOσ34 (by decide) (by decide) (by decide) hW
                    rw [J_X5_readLine_211.eq_1]
                    refine ok_if (fun hc35 => ?_) (fun hc35 => ?_)
                    · exact ok_rZ (Or.inl rfl) ⟨hT, (show ((0 : Int32) = 0 ∨ (0 : Int32) = 1) ∧ RD σ34.1 ∧ WI 28 σ34.1 from by first | exact ⟨Or.inl rfl, hD, hW⟩ | exact ⟨Or.inr rfl, hD, hW⟩ | exact ⟨Or.inl hqv33.1, hD, hW⟩ | exact ⟨hqv33.1, hD, hW⟩)⟩
                    · refine ok_gC rfl ?_
                      refine ok_zbT (Q := fun V σ => (V = 0 ∨ V = 1) ∧ RD σ.1) hT (s_X5_pass hN (hR.tr hT) (by first | exact hX | exact hT.1.2 hX) (hD)) (by decide) (fun v36 σ37 hOσ37 hT hqv36 => ?_)
                      have hqv36 : (v36 = 0 ∨ v36 = 1) ∧ RD σ37.1 := hqv36
                      have hD : RD σ37.1 := by first | exact hqv36.2 | exact hqv36.2.1
                      have hW : WI 28 σ37.1 := WI.tr hOσ37 (by decide) (by decide) (by decide) hW
                      refine ok_if (fun hc38 => ?_) (fun hc38 => ?_)
                      · exact ok_rZ (Or.inl rfl) ⟨hT, (show ((0 : Int32) = 0 ∨ (0 : Int32) = 1) ∧ RD σ37.1 ∧ WI 28 σ37.1 from by first | exact ⟨Or.inl rfl, hD, hW⟩ | exact ⟨Or.inr rfl, hD, hW⟩ | exact ⟨Or.inl hqv36.1, hD, hW⟩ | exact ⟨hqv36.1, hD, hW⟩)⟩
                      · exact ok_rZ (Or.inr rfl) ⟨hT, (show ((1 : Int32) = 0 ∨ (1 : Int32) = 1) ∧ RD σ37.1 ∧ WI 28 σ37.1 from by first | exact ⟨Or.inl rfl, hD, hW⟩ | exact ⟨Or.inr rfl, hD, hW⟩ | exact ⟨Or.inl hqv36.1, hD, hW⟩ | exact ⟨hqv36.1, hD, hW⟩)⟩
                  refine ok_if (fun hc39 => ?_) (fun hc39 => ?_)
                  · refine ok_gC rfl ?_
                    refine ok_zbT (Q := fun V σ => (V = 0 ∨ V = 1) ∧ RD σ.1 ∧ WI 28 σ.1) hT (s_X5_readEdge_28 hN (hR.tr hT) (by first | exact hX | exact hT.1.2 hX) (hD) (hW)) (by decide) (fun v40 σ41 hOσ41 hT hqv40 => ?_)
                    have hqv40 : (v40 = 0 ∨ v40 = 1) ∧ RD σ41.1 ∧ WI 28 σ41.1 := hqv40
                    have hD : RD σ41.1 := by first | exact hqv40.2 | exact hqv40.2.1
                    have hW : WI 28 σ41.1 := by first | exact hqv40.2.2 | exact hqv40
                    rw [J_X5_readLine_211.eq_1]
                    refine ok_if (fun hc42 => ?_) (fun hc42 => ?_)
                    · exact ok_rZ (Or.inl rfl) ⟨hT, (show ((0 : Int32) = 0 ∨ (0 : Int32) = 1) ∧ RD σ41.1 ∧ WI 28 σ41.1 from by first | exact ⟨Or.inl rfl, hD, hW⟩ | exact ⟨Or.inr rfl, hD, hW⟩ | exact ⟨Or.inl hqv40.1, hD, hW⟩ | exact ⟨hqv40.1, hD, hW⟩)⟩
                    · refine ok_gC rfl ?_
                      refine ok_zbT (Q := fun V σ => (V = 0 ∨ V = 1) ∧ RD σ.1) hT (s_X5_pass hN (hR.tr hT) (by first | exact hX | exact hT.1.2 hX) (hD)) (by decide) (fun v43 σ44 hOσ44 hT hqv43 => ?_)
                      have hqv43 : (v43 = 0 ∨ v43 = 1) ∧ RD σ44.1 := hqv43
                      have hD : RD σ44.1 := by first | exact hqv43.2 | exact hqv43.2.1
                      have hW : WI 28 σ44.1 := WI.tr hOσ44 (by decide) (by decide) (by decide) hW
                      refine ok_if (fun hc45 => ?_) (fun hc45 => ?_)
                      · exact ok_rZ (Or.inl rfl) ⟨hT, (show ((0 : Int32) = 0 ∨ (0 : Int32) = 1) ∧ RD σ44.1 ∧ WI 28 σ44.1 from by first | exact ⟨Or.inl rfl, hD, hW⟩ | exact ⟨Or.inr rfl, hD, hW⟩ | exact ⟨Or.inl hqv43.1, hD, hW⟩ | exact ⟨hqv43.1, hD, hW⟩)⟩
                      · exact ok_rZ (Or.inr rfl) ⟨hT, (show ((1 : Int32) = 0 ∨ (1 : Int32) = 1) ∧ RD σ44.1 ∧ WI 28 σ44.1 from by first | exact ⟨Or.inl rfl, hD, hW⟩ | exact ⟨Or.inr rfl, hD, hW⟩ | exact ⟨Or.inl hqv43.1, hD, hW⟩ | exact ⟨hqv43.1, hD, hW⟩)⟩
                  refine ok_gC rfl ?_
                  refine ok_zbT (Q := fun V σ => (V = 0 ∨ V = 1) ∧ RD σ.1 ∧ (¬ V = 0 → 1 ≤ (σ.1 57 9).toInt ∧ (0 : Int32).toInt ≤ (lastv σ.1).toInt ∧ (lastv σ.1).toInt ≤ (9 : Int32).toInt)) hT (s_X5_passNumber hN (hR.tr hT) (by first | exact hX | exact hT.1.2 hX) (hD)) (by decide) (fun v46 σ47 hOσ47 hT hqv46 => ?_)
                  have hqv46 : (v46 = 0 ∨ v46 = 1) ∧ RD σ47.1 ∧ (¬ v46 = 0 → 1 ≤ (σ47.1 57 9).toInt ∧ (0 : Int32).toInt ≤ (lastv σ47.1).toInt ∧ (lastv σ47.1).toInt ≤ (9 : Int32).toInt) := hqv46
                  have hD : RD σ47.1 := by first | exact hqv46.2 | exact hqv46.2.1
                  have hW : WI 28 σ47.1 := WI.tr hOσ47 (by decide) (by decide) (by decide) hW
                  refine ok_if (fun hc48 => ?_) (fun hc48 => ?_)
                  · rw [J_X5_readLine_211.eq_1]
                    refine ok_if (fun hc49 => ?_) (fun hc49 => ?_)
                    · exact ok_rZ (Or.inl rfl) ⟨hT, (show ((0 : Int32) = 0 ∨ (0 : Int32) = 1) ∧ RD σ47.1 ∧ WI 28 σ47.1 from by first | exact ⟨Or.inl rfl, hD, hW⟩ | exact ⟨Or.inr rfl, hD, hW⟩ | exact ⟨Or.inl hqv46.1, hD, hW⟩ | exact ⟨hqv46.1, hD, hW⟩)⟩
                    · refine ok_gC rfl ?_
                      refine ok_zbT (Q := fun V σ => (V = 0 ∨ V = 1) ∧ RD σ.1) hT (s_X5_pass hN (hR.tr hT) (by first | exact hX | exact hT.1.2 hX) (hD)) (by decide) (fun v50 σ51 hOσ51 hT hqv50 => ?_)
                      have hqv50 : (v50 = 0 ∨ v50 = 1) ∧ RD σ51.1 := hqv50
                      have hD : RD σ51.1 := by first | exact hqv50.2 | exact hqv50.2.1
                      have hW : WI 28 σ51.1 := WI.tr hOσ51 (by decide) (by decide) (by decide) hW
                      refine ok_if (fun hc52 => ?_) (fun hc52 => ?_)
                      · exact ok_rZ (Or.inl rfl) ⟨hT, (show ((0 : Int32) = 0 ∨ (0 : Int32) = 1) ∧ RD σ51.1 ∧ WI 28 σ51.1 from by first | exact ⟨Or.inl rfl, hD, hW⟩ | exact ⟨Or.inr rfl, hD, hW⟩ | exact ⟨Or.inl hqv50.1, hD, hW⟩ | exact ⟨hqv50.1, hD, hW⟩)⟩
                      · exact ok_rZ (Or.inr rfl) ⟨hT, (show ((1 : Int32) = 0 ∨ (1 : Int32) = 1) ∧ RD σ51.1 ∧ WI 28 σ51.1 from by first | exact ⟨Or.inl rfl, hD, hW⟩ | exact ⟨Or.inr rfl, hD, hW⟩ | exact ⟨Or.inl hqv50.1, hD, hW⟩ | exact ⟨hqv50.1, hD, hW⟩)⟩
                  · refine ok_gC rfl ?_
                    refine ok_zbT (Q := fun V σ => (V = 0 ∨ V = 1) ∧ RD σ.1) hT (s_X5_pass hN (hR.tr hT) (by first | exact hX | exact hT.1.2 hX) (hD)) (by decide) (fun v53 σ54 hOσ54 hT hqv53 => ?_)
                    have hqv53 : (v53 = 0 ∨ v53 = 1) ∧ RD σ54.1 := hqv53
                    have hD : RD σ54.1 := by first | exact hqv53.2 | exact hqv53.2.1
                    have hW : WI 28 σ54.1 := WI.tr hOσ54 (by decide) (by decide) (by decide) hW
                    refine ok_if (fun hc55 => ?_) (fun hc55 => ?_)
                    · rw [J_X5_readLine_211.eq_1]
                      refine ok_if (fun hc56 => ?_) (fun hc56 => ?_)
                      · exact ok_rZ (Or.inl rfl) ⟨hT, (show ((0 : Int32) = 0 ∨ (0 : Int32) = 1) ∧ RD σ54.1 ∧ WI 28 σ54.1 from by first | exact ⟨Or.inl rfl, hD, hW⟩ | exact ⟨Or.inr rfl, hD, hW⟩ | exact ⟨Or.inl hqv53.1, hD, hW⟩ | exact ⟨hqv53.1, hD, hW⟩)⟩
                      · refine ok_gC rfl ?_
                        refine ok_zbT (Q := fun V σ => (V = 0 ∨ V = 1) ∧ RD σ.1) hT (s_X5_pass hN (hR.tr hT) (by first | exact hX | exact hT.1.2 hX) (hD)) (by decide) (fun v57 σ58 hOσ58 hT hqv57 => ?_)
                        have hqv57 : (v57 = 0 ∨ v57 = 1) ∧ RD σ58.1 := hqv57
                        have hD : RD σ58.1 := by first | exact hqv57.2 | exact hqv57.2.1
                        have hW : WI 28 σ58.1 := WI.tr hOσ58 (by decide) (by decide) (by decide) hW
                        refine ok_if (fun hc59 => ?_) (fun hc59 => ?_)
                        · exact ok_rZ (Or.inl rfl) ⟨hT, (show ((0 : Int32) = 0 ∨ (0 : Int32) = 1) ∧ RD σ58.1 ∧ WI 28 σ58.1 from by first | exact ⟨Or.inl rfl, hD, hW⟩ | exact ⟨Or.inr rfl, hD, hW⟩ | exact ⟨Or.inl hqv57.1, hD, hW⟩ | exact ⟨hqv57.1, hD, hW⟩)⟩
                        · exact ok_rZ (Or.inr rfl) ⟨hT, (show ((1 : Int32) = 0 ∨ (1 : Int32) = 1) ∧ RD σ58.1 ∧ WI 28 σ58.1 from by first | exact ⟨Or.inl rfl, hD, hW⟩ | exact ⟨Or.inr rfl, hD, hW⟩ | exact ⟨Or.inl hqv57.1, hD, hW⟩ | exact ⟨hqv57.1, hD, hW⟩)⟩
                    · refine ok_gC rfl ?_
                      refine ok_zbT (Q := fun V σ => (V = 0 ∨ V = 1) ∧ RD σ.1) hT (s_X5_sum hN (hR.tr hT) (by first | exact hX | exact hT.1.2 hX) (hD) (by have q1 := hD.1; have q2 := hD.2.1; have q3 := hD0.1; have q4 := hD0.2.1; first | omega | decide | (simp only [Int32.le_iff_toInt_le, Int32.lt_iff_toInt_lt, ti_add, ti_sub, ti_mul, Int32.reduceToInt] at *; omega) | (exfalso; simp_all; done)) (by have q1 := hD.1; have q2 := hD.2.1; have q3 := hD0.1; have q4 := hD0.2.1; first | omega | decide | (simp only [Int32.le_iff_toInt_le, Int32.lt_iff_toInt_lt, ti_add, ti_sub, ti_mul, Int32.reduceToInt] at *; omega) | (exfalso; simp_all; done))) (by decide) (fun v60 σ61 hOσ61 hT hqv60 => ?_)
                      have hqv60 : (v60 = 0 ∨ v60 = 1) ∧ RD σ61.1 := hqv60
                      have hD : RD σ61.1 := by first | exact hqv60.2 | exact hqv60.2.1
                      have hW : WI 28 σ61.1 := WI.tr hOσ61 (by decide) (by decide) (by decide) hW
                      refine ok_if (fun hc62 => ?_) (fun hc62 => ?_)
                      · rw [J_X5_readLine_211.eq_1]
                        refine ok_if (fun hc63 => ?_) (fun hc63 => ?_)
                        · exact ok_rZ (Or.inl rfl) ⟨hT, (show ((0 : Int32) = 0 ∨ (0 : Int32) = 1) ∧ RD σ61.1 ∧ WI 28 σ61.1 from by first | exact ⟨Or.inl rfl, hD, hW⟩ | exact ⟨Or.inr rfl, hD, hW⟩ | exact ⟨Or.inl hqv60.1, hD, hW⟩ | exact ⟨hqv60.1, hD, hW⟩)⟩
                        · refine ok_gC rfl ?_
                          refine ok_zbT (Q := fun V σ => (V = 0 ∨ V = 1) ∧ RD σ.1) hT (s_X5_pass hN (hR.tr hT) (by first | exact hX | exact hT.1.2 hX) (hD)) (by decide) (fun v64 σ65 hOσ65 hT hqv64 => ?_)
                          have hqv64 : (v64 = 0 ∨ v64 = 1) ∧ RD σ65.1 := hqv64
                          have hD : RD σ65.1 := by first | exact hqv64.2 | exact hqv64.2.1
                          have hW : WI 28 σ65.1 := WI.tr hOσ65 (by decide) (by decide) (by decide) hW
                          refine ok_if (fun hc66 => ?_) (fun hc66 => ?_)
                          · exact ok_rZ (Or.inl rfl) ⟨hT, (show ((0 : Int32) = 0 ∨ (0 : Int32) = 1) ∧ RD σ65.1 ∧ WI 28 σ65.1 from by first | exact ⟨Or.inl rfl, hD, hW⟩ | exact ⟨Or.inr rfl, hD, hW⟩ | exact ⟨Or.inl hqv64.1, hD, hW⟩ | exact ⟨hqv64.1, hD, hW⟩)⟩
                          · exact ok_rZ (Or.inr rfl) ⟨hT, (show ((1 : Int32) = 0 ∨ (1 : Int32) = 1) ∧ RD σ65.1 ∧ WI 28 σ65.1 from by first | exact ⟨Or.inl rfl, hD, hW⟩ | exact ⟨Or.inr rfl, hD, hW⟩ | exact ⟨Or.inl hqv64.1, hD, hW⟩ | exact ⟨hqv64.1, hD, hW⟩)⟩
                      · refine ok_gC rfl ?_
                        refine ok_zbT (Q := fun V σ => V = 1 ∧ RD σ.1) hT (s_X5_emit hN (hR.tr hT) (by first | exact hX | exact hT.1.2 hX) (hD)) (by decide) (fun v67 σ68 hOσ68 hT hqv67 => ?_)
                        have hqv67 : v67 = 1 ∧ RD σ68.1 := hqv67
                        have hD : RD σ68.1 := by first | exact hqv67.2 | exact hqv67.2.1
                        have hW : WI 28 σ68.1 := WI.tr hOσ68 (by decide) (by decide) (by decide) hW
                        refine ok_if (fun hc69 => ?_) (fun hc69 => ?_)
                        · rw [J_X5_readLine_211.eq_1]
                          refine ok_if (fun hc70 => ?_) (fun hc70 => ?_)
                          · exact ok_rZ (Or.inl rfl) ⟨hT, (show ((0 : Int32) = 0 ∨ (0 : Int32) = 1) ∧ RD σ68.1 ∧ WI 28 σ68.1 from by first | exact ⟨Or.inl rfl, hD, hW⟩ | exact ⟨Or.inr rfl, hD, hW⟩ | exact ⟨Or.inl hqv67.1, hD, hW⟩ | exact ⟨hqv67.1, hD, hW⟩)⟩
                          · refine ok_gC rfl ?_
                            refine ok_zbT (Q := fun V σ => (V = 0 ∨ V = 1) ∧ RD σ.1) hT (s_X5_pass hN (hR.tr hT) (by first | exact hX | exact hT.1.2 hX) (hD)) (by decide) (fun v71 σ72 hOσ72 hT hqv71 => ?_)
                            have hqv71 : (v71 = 0 ∨ v71 = 1) ∧ RD σ72.1 := hqv71
                            have hD : RD σ72.1 := by first | exact hqv71.2 | exact hqv71.2.1
                            have hW : WI 28 σ72.1 := WI.tr hOσ72 (by decide) (by decide) (by decide) hW
                            refine ok_if (fun hc73 => ?_) (fun hc73 => ?_)
                            · exact ok_rZ (Or.inl rfl) ⟨hT, (show ((0 : Int32) = 0 ∨ (0 : Int32) = 1) ∧ RD σ72.1 ∧ WI 28 σ72.1 from by first | exact ⟨Or.inl rfl, hD, hW⟩ | exact ⟨Or.inr rfl, hD, hW⟩ | exact ⟨Or.inl hqv71.1, hD, hW⟩ | exact ⟨hqv71.1, hD, hW⟩)⟩
                            · exact ok_rZ (Or.inr rfl) ⟨hT, (show ((1 : Int32) = 0 ∨ (1 : Int32) = 1) ∧ RD σ72.1 ∧ WI 28 σ72.1 from by first | exact ⟨Or.inl rfl, hD, hW⟩ | exact ⟨Or.inr rfl, hD, hW⟩ | exact ⟨Or.inl hqv71.1, hD, hW⟩ | exact ⟨hqv71.1, hD, hW⟩)⟩
                        · rw [J_X5_readLine_211.eq_1]
                          refine ok_if (fun hc74 => ?_) (fun hc74 => ?_)
                          · exact ok_rZ (Or.inl rfl) ⟨hT, (show ((0 : Int32) = 0 ∨ (0 : Int32) = 1) ∧ RD σ68.1 ∧ WI 28 σ68.1 from by first | exact ⟨Or.inl rfl, hD, hW⟩ | exact ⟨Or.inr rfl, hD, hW⟩ | exact ⟨Or.inl hqv67.1, hD, hW⟩ | exact ⟨hqv67.1, hD, hW⟩)⟩
                          · refine ok_gC rfl ?_
                            refine ok_zbT (Q := fun V σ => (V = 0 ∨ V = 1) ∧ RD σ.1) hT (s_X5_pass hN (hR.tr hT) (by first | exact hX | exact hT.1.2 hX) (hD)) (by decide) (fun v75 σ76 hOσ76 hT hqv75 => ?_)
                            have hqv75 : (v75 = 0 ∨ v75 = 1) ∧ RD σ76.1 := hqv75
                            have hD : RD σ76.1 := by first | exact hqv75.2 | exact hqv75.2.1
                            have hW : WI 28 σ76.1 := WI.tr hOσ76 (by decide) (by decide) (by decide) hW
                            refine ok_if (fun hc77 => ?_) (fun hc77 => ?_)
                            · exact ok_rZ (Or.inl rfl) ⟨hT, (show ((0 : Int32) = 0 ∨ (0 : Int32) = 1) ∧ RD σ76.1 ∧ WI 28 σ76.1 from by first | exact ⟨Or.inl rfl, hD, hW⟩ | exact ⟨Or.inr rfl, hD, hW⟩ | exact ⟨Or.inl hqv75.1, hD, hW⟩ | exact ⟨hqv75.1, hD, hW⟩)⟩
                            · exact ok_rZ (Or.inr rfl) ⟨hT, (show ((1 : Int32) = 0 ∨ (1 : Int32) = 1) ∧ RD σ76.1 ∧ WI 28 σ76.1 from by first | exact ⟨Or.inl rfl, hD, hW⟩ | exact ⟨Or.inr rfl, hD, hW⟩ | exact ⟨Or.inl hqv75.1, hD, hW⟩ | exact ⟨hqv75.1, hD, hW⟩)⟩
                · refine ok_gC rfl ?_
                  refine ok_zbT (Q := fun V σ => V = 0 ∧ RD σ.1) hT (s_X5_fail hN (hR.tr hT) (by first | exact hX | exact hT.1.2 hX) (hD)) (by decide) (fun v78 σ79 hOσ79 hT hqv78 => ?_)
                  have hqv78 : v78 = 0 ∧ RD σ79.1 := hqv78
                  have hD : RD σ79.1 := by first | exact hqv78.2 | exact hqv78.2.1
                  have hW : WI 28 σ79.1 := WI.tr hOσ79 (by decide) (by decide) (by decide) hW
                  exact ok_rZ (by have q := hqv78.1; first | exact q | exact Or.inl q | exact Or.inr q) ⟨hT, (show (v78 = 0 ∨ v78 = 1) ∧ RD σ79.1 ∧ WI 28 σ79.1 from by first | exact ⟨Or.inl rfl, hD, hW⟩ | exact ⟨Or.inr rfl, hD, hW⟩ | exact ⟨Or.inl hqv78.1, hD, hW⟩ | exact ⟨hqv78.1, hD, hW⟩)⟩
              · rw [J_X5_readLine_92.eq_1]
                refine ok_gC rfl ?_
                refine ok_zbT (Q := fun V σ => (V = 0 ∨ V = 1) ∧ RD σ.1) hT (s_X5_pass hN (hR.tr hT) (by first | exact hX | exact hT.1.2 hX) (hD)) (by decide) (fun v80 σ81 hOσ81 hT hqv80 => ?_)
                have hqv80 : (v80 = 0 ∨ v80 = 1) ∧ RD σ81.1 := hqv80
                have hD : RD σ81.1 := by first | exact hqv80.2 | exact hqv80.2.1
                have hW : WI 28 σ81.1 := WI.tr hOσ81 (by decide) (by decide) (by decide) hW
                refine ok_gR (v := 62) hT rfl (hR 57 11 rfl) ?_
                refine ok_gI rfl ?_
                refine ok_aIn rfl (by have q1 := hD.1; have q2 := hD.2.1; have q3 := hD0.1; have q4 := hD0.2.1; first | omega | decide | (simp only [Int32.le_iff_toInt_le, Int32.lt_iff_toInt_lt, ti_add, ti_sub, ti_mul, Int32.reduceToInt] at *; omega) | (exfalso; simp_all; done)) (by have q1 := hD.1; have q2 := hD.2.1; have q3 := hD0.1; have q4 := hD0.2.1; first | omega | decide | (simp only [Int32.le_iff_toInt_le, Int32.lt_iff_toInt_lt, ti_add, ti_sub, ti_mul, Int32.reduceToInt] at *; omega) | (exfalso; simp_all; done)) (fun v84 ev84 => ?_)
                refine ok_if (fun hc85 => ?_) (fun hc85 => ?_)
                · refine ok_gC rfl ?_
                  refine ok_zbT (Q := fun V σ => (V = 0 ∨ V = 1) ∧ RD σ.1 ∧ WI 28 σ.1) hT (s_X5_readNames_28 hN (hR.tr hT) (by first | exact hX | exact hT.1.2 hX) (hD) (hW)) (by decide) (fun v86 σ87 hOσ87 hT hqv86 => ?_)
                  have hqv86 : (v86 = 0 ∨ v86 = 1) ∧ RD σ87.1 ∧ WI 28 σ87.1 := hqv86
                  have hD : RD σ87.1 := by first | exact hqv86.2 | exact hqv86.2.1
                  have hW : WI 28 σ87.1 := by first | exact hqv86.2.2 | exact hqv86
                  rw [J_X5_readLine_211.eq_1]
                  refine ok_if (fun hc88 => ?_) (fun hc88 => ?_)
                  · exact ok_rZ (Or.inl rfl) ⟨hT, (show ((0 : Int32) = 0 ∨ (0 : Int32) = 1) ∧ RD σ87.1 ∧ WI 28 σ87.1 from by first | exact ⟨Or.inl rfl, hD, hW⟩ | exact ⟨Or.inr rfl, hD, hW⟩ | exact ⟨Or.inl hqv86.1, hD, hW⟩ | exact ⟨hqv86.1, hD, hW⟩)⟩
                  · refine ok_gC rfl ?_
                    refine ok_zbT (Q := fun V σ => (V = 0 ∨ V = 1) ∧ RD σ.1) hT (s_X5_pass hN (hR.tr hT) (by first | exact hX | exact hT.1.2 hX) (hD)) (by decide) (fun v89 σ90 hOσ90 hT hqv89 => ?_)
                    have hqv89 : (v89 = 0 ∨ v89 = 1) ∧ RD σ90.1 := hqv89
                    have hD : RD σ90.1 := by first | exact hqv89.2 | exact hqv89.2.1
                    have hW : WI 28 σ90.1 := WI.tr hOσ90 (by decide) (by decide) (by decide) hW
                    refine ok_if (fun hc91 => ?_) (fun hc91 => ?_)
                    · exact ok_rZ (Or.inl rfl) ⟨hT, (show ((0 : Int32) = 0 ∨ (0 : Int32) = 1) ∧ RD σ90.1 ∧ WI 28 σ90.1 from by first | exact ⟨Or.inl rfl, hD, hW⟩ | exact ⟨Or.inr rfl, hD, hW⟩ | exact ⟨Or.inl hqv89.1, hD, hW⟩ | exact ⟨hqv89.1, hD, hW⟩)⟩
                    · exact ok_rZ (Or.inr rfl) ⟨hT, (show ((1 : Int32) = 0 ∨ (1 : Int32) = 1) ∧ RD σ90.1 ∧ WI 28 σ90.1 from by first | exact ⟨Or.inl rfl, hD, hW⟩ | exact ⟨Or.inr rfl, hD, hW⟩ | exact ⟨Or.inl hqv89.1, hD, hW⟩ | exact ⟨hqv89.1, hD, hW⟩)⟩
                refine ok_if (fun hc92 => ?_) (fun hc92 => ?_)
                · refine ok_gC rfl ?_
                  refine ok_zbT (Q := fun V σ => (V = 0 ∨ V = 1) ∧ RD σ.1 ∧ WI 28 σ.1) hT (s_X5_readWeight_28 hN (hR.tr hT) (by first | exact hX | exact hT.1.2 hX) (hD) (hW)) (by decide) (fun v93 σ94 hOσ94 hT hqv93 => ?_)
                  have hqv93 : (v93 = 0 ∨ v93 = 1) ∧ RD σ94.1 ∧ WI 28 σ94.1 := hqv93
                  have hD : RD σ94.1 := by first | exact hqv93.2 | exact hqv93.2.1
                  have hW : WI 28 σ94.1 := WI.tr hOσ94 (by decide) (by decide) (by decide) hW
                  rw [J_X5_readLine_211.eq_1]
                  refine ok_if (fun hc95 => ?_) (fun hc95 => ?_)
                  · exact ok_rZ (Or.inl rfl) ⟨hT, (show ((0 : Int32) = 0 ∨ (0 : Int32) = 1) ∧ RD σ94.1 ∧ WI 28 σ94.1 from by first | exact ⟨Or.inl rfl, hD, hW⟩ | exact ⟨Or.inr rfl, hD, hW⟩ | exact ⟨Or.inl hqv93.1, hD, hW⟩ | exact ⟨hqv93.1, hD, hW⟩)⟩
                  · refine ok_gC rfl ?_
                    refine ok_zbT (Q := fun V σ => (V = 0 ∨ V = 1) ∧ RD σ.1) hT (s_X5_pass hN (hR.tr hT) (by first | exact hX | exact hT.1.2 hX) (hD)) (by decide) (fun v96 σ97 hOσ97 hT hqv96 => ?_)
                    have hqv96 : (v96 = 0 ∨ v96 = 1) ∧ RD σ97.1 := hqv96
                    have hD : RD σ97.1 := by first | exact hqv96.2 | exact hqv96.2.1
                    have hW : WI 28 σ97.1 := WI.tr hOσ97 (by decide) (by decide) (by decide) hW
                    refine ok_if (fun hc98 => ?_) (fun hc98 => ?_)
                    · exact ok_rZ (Or.inl rfl) ⟨hT, (show ((0 : Int32) = 0 ∨ (0 : Int32) = 1) ∧ RD σ97.1 ∧ WI 28 σ97.1 from by first | exact ⟨Or.inl rfl, hD, hW⟩ | exact ⟨Or.inr rfl, hD, hW⟩ | exact ⟨Or.inl hqv96.1, hD, hW⟩ | exact ⟨hqv96.1, hD, hW⟩)⟩
                    · exact ok_rZ (Or.inr rfl) ⟨hT, (show ((1 : Int32) = 0 ∨ (1 : Int32) = 1) ∧ RD σ97.1 ∧ WI 28 σ97.1 from by first | exact ⟨Or.inl rfl, hD, hW⟩ | exact ⟨Or.inr rfl, hD, hW⟩ | exact ⟨Or.inl hqv96.1, hD, hW⟩ | exact ⟨hqv96.1, hD, hW⟩)⟩
                refine ok_if (fun hc99 => ?_) (fun hc99 => ?_)
                · refine ok_gC rfl ?_
                  refine ok_zbT (Q := fun V σ => (V = 0 ∨ V = 1) ∧ RD σ.1 ∧ WI 28 σ.1) hT (s_X5_readEdge_28 hN (hR.tr hT) (by first | exact hX | exact hT.1.2 hX) (hD) (hW)) (by decide) (fun v100 σ101 hOσ101 hT hqv100 => ?_)
                  have hqv100 : (v100 = 0 ∨ v100 = 1) ∧ RD σ101.1 ∧ WI 28 σ101.1 := hqv100
                  have hD : RD σ101.1 := by first | exact hqv100.2 | exact hqv100.2.1
                  have hW : WI 28 σ101.1 := by first | exact hqv100.2.2 | exact hqv100
                  rw [J_X5_readLine_211.eq_1]
                  refine ok_if (fun hc102 => ?_) (fun hc102 => ?_)
                  · exact ok_rZ (Or.inl rfl) ⟨hT, (show ((0 : Int32) = 0 ∨ (0 : Int32) = 1) ∧ RD σ101.1 ∧ WI 28 σ101.1 from by first | exact ⟨Or.inl rfl, hD, hW⟩ | exact ⟨Or.inr rfl, hD, hW⟩ | exact ⟨Or.inl hqv100.1, hD, hW⟩ | exact ⟨hqv100.1, hD, hW⟩)⟩
                  · refine ok_gC rfl ?_
                    refine ok_zbT (Q := fun V σ => (V = 0 ∨ V = 1) ∧ RD σ.1) hT (s_X5_pass hN (hR.tr hT) (by first | exact hX | exact hT.1.2 hX) (hD)) (by decide) (fun v103 σ104 hOσ104 hT hqv103 => ?_)
                    have hqv103 : (v103 = 0 ∨ v103 = 1) ∧ RD σ104.1 := hqv103
                    have hD : RD σ104.1 := by first | exact hqv103.2 | exact hqv103.2.1
                    have hW : WI 28 σ104.1 := WI.tr hOσ104 (by decide) (by decide) (by decide) hW
                    refine ok_if (fun hc105 => ?_) (fun hc105 => ?_)
                    · exact ok_rZ (Or.inl rfl) ⟨hT, (show ((0 : Int32) = 0 ∨ (0 : Int32) = 1) ∧ RD σ104.1 ∧ WI 28 σ104.1 from by first | exact ⟨Or.inl rfl, hD, hW⟩ | exact ⟨Or.inr rfl, hD, hW⟩ | exact ⟨Or.inl hqv103.1, hD, hW⟩ | exact ⟨hqv103.1, hD, hW⟩)⟩
                    · exact ok_rZ (Or.inr rfl) ⟨hT, (show ((1 : Int32) = 0 ∨ (1 : Int32) = 1) ∧ RD σ104.1 ∧ WI 28 σ104.1 from by first | exact ⟨Or.inl rfl, hD, hW⟩ | exact ⟨Or.inr rfl, hD, hW⟩ | exact ⟨Or.inl hqv103.1, hD, hW⟩ | exact ⟨hqv103.1, hD, hW⟩)⟩
                refine ok_gC rfl ?_
                refine ok_zbT (Q := fun V σ => (V = 0 ∨ V = 1) ∧ RD σ.1 ∧ (¬ V = 0 → 1 ≤ (σ.1 57 9).toInt ∧ (0 : Int32).toInt ≤ (lastv σ.1).toInt ∧ (lastv σ.1).toInt ≤ (9 : Int32).toInt)) hT (s_X5_passNumber hN (hR.tr hT) (by first | exact hX | exact hT.1.2 hX) (hD)) (by decide) (fun v106 σ107 hOσ107 hT hqv106 => ?_)
                have hqv106 : (v106 = 0 ∨ v106 = 1) ∧ RD σ107.1 ∧ (¬ v106 = 0 → 1 ≤ (σ107.1 57 9).toInt ∧ (0 : Int32).toInt ≤ (lastv σ107.1).toInt ∧ (lastv σ107.1).toInt ≤ (9 : Int32).toInt) := hqv106
                have hD : RD σ107.1 := by first | exact hqv106.2 | exact hqv106.2.1
                have hW : WI 28 σ107.1 := WI.tr hOσ107 (by decide) (by decide) (by decide) hW
                refine ok_if (fun hc108 => ?_) (fun hc108 => ?_)
                · rw [J_X5_readLine_211.eq_1]
                  refine ok_if (fun hc109 => ?_) (fun hc109 => ?_)
                  · exact ok_rZ (Or.inl rfl) ⟨hT, (show ((0 : Int32) = 0 ∨ (0 : Int32) = 1) ∧ RD σ107.1 ∧ WI 28 σ107.1 from by first | exact ⟨Or.inl rfl, hD, hW⟩ | exact ⟨Or.inr rfl, hD, hW⟩ | exact ⟨Or.inl hqv106.1, hD, hW⟩ | exact ⟨hqv106.1, hD, hW⟩)⟩
                  · refine ok_gC rfl ?_
                    refine ok_zbT (Q := fun V σ => (V = 0 ∨ V = 1) ∧ RD σ.1) hT (s_X5_pass hN (hR.tr hT) (by first | exact hX | exact hT.1.2 hX) (hD)) (by decide) (fun v110 σ111 hOσ111 hT hqv110 => ?_)
                    have hqv110 : (v110 = 0 ∨ v110 = 1) ∧ RD σ111.1 := hqv110
                    have hD : RD σ111.1 := by first | exact hqv110.2 | exact hqv110.2.1
                    have hW : WI 28 σ111.1 := WI.tr hOσ111 (by decide) (by decide) (by decide) hW
                    refine ok_if (fun hc112 => ?_) (fun hc112 => ?_)
                    · exact ok_rZ (Or.inl rfl) ⟨hT, (show ((0 : Int32) = 0 ∨ (0 : Int32) = 1) ∧ RD σ111.1 ∧ WI 28 σ111.1 from by first | exact ⟨Or.inl rfl, hD, hW⟩ | exact ⟨Or.inr rfl, hD, hW⟩ | exact ⟨Or.inl hqv110.1, hD, hW⟩ | exact ⟨hqv110.1, hD, hW⟩)⟩
                    · exact ok_rZ (Or.inr rfl) ⟨hT, (show ((1 : Int32) = 0 ∨ (1 : Int32) = 1) ∧ RD σ111.1 ∧ WI 28 σ111.1 from by first | exact ⟨Or.inl rfl, hD, hW⟩ | exact ⟨Or.inr rfl, hD, hW⟩ | exact ⟨Or.inl hqv110.1, hD, hW⟩ | exact ⟨hqv110.1, hD, hW⟩)⟩
                · refine ok_gC rfl ?_
                  refine ok_zbT (Q := fun V σ => (V = 0 ∨ V = 1) ∧ RD σ.1) hT (s_X5_pass hN (hR.tr hT) (by first | exact hX | exact hT.1.2 hX) (hD)) (by decide) (fun v113 σ114 hOσ114 hT hqv113 => ?_)
                  have hqv113 : (v113 = 0 ∨ v113 = 1) ∧ RD σ114.1 := hqv113
                  have hD : RD σ114.1 := by first | exact hqv113.2 | exact hqv113.2.1
                  have hW : WI 28 σ114.1 := WI.tr hOσ114 (by decide) (by decide) (by decide) hW
                  refine ok_if (fun hc115 => ?_) (fun hc115 => ?_)
                  · rw [J_X5_readLine_211.eq_1]
                    refine ok_if (fun hc116 => ?_) (fun hc116 => ?_)
                    · exact ok_rZ (Or.inl rfl) ⟨hT, (show ((0 : Int32) = 0 ∨ (0 : Int32) = 1) ∧ RD σ114.1 ∧ WI 28 σ114.1 from by first | exact ⟨Or.inl rfl, hD, hW⟩ | exact ⟨Or.inr rfl, hD, hW⟩ | exact ⟨Or.inl hqv113.1, hD, hW⟩ | exact ⟨hqv113.1, hD, hW⟩)⟩
                    · refine ok_gC rfl ?_
                      refine ok_zbT (Q := fun V σ => (V = 0 ∨ V = 1) ∧ RD σ.1) hT (s_X5_pass hN (hR.tr hT) (by first | exact hX | exact hT.1.2 hX) (hD)) (by decide) (fun v117 σ118 hOσ118 hT hqv117 => ?_)
                      have hqv117 : (v117 = 0 ∨ v117 = 1) ∧ RD σ118.1 := hqv117
                      have hD : RD σ118.1 := by first | exact hqv117.2 | exact hqv117.2.1
                      have hW : WI 28 σ118.1 := WI.tr hOσ118 (by decide) (by decide) (by decide) hW
                      refine ok_if (fun hc119 => ?_) (fun hc119 => ?_)
                      · exact ok_rZ (Or.inl rfl) ⟨hT, (show ((0 : Int32) = 0 ∨ (0 : Int32) = 1) ∧ RD σ118.1 ∧ WI 28 σ118.1 from by first | exact ⟨Or.inl rfl, hD, hW⟩ | exact ⟨Or.inr rfl, hD, hW⟩ | exact ⟨Or.inl hqv117.1, hD, hW⟩ | exact ⟨hqv117.1, hD, hW⟩)⟩
                      · exact ok_rZ (Or.inr rfl) ⟨hT, (show ((1 : Int32) = 0 ∨ (1 : Int32) = 1) ∧ RD σ118.1 ∧ WI 28 σ118.1 from by first | exact ⟨Or.inl rfl, hD, hW⟩ | exact ⟨Or.inr rfl, hD, hW⟩ | exact ⟨Or.inl hqv117.1, hD, hW⟩ | exact ⟨hqv117.1, hD, hW⟩)⟩
                  · refine ok_gC rfl ?_
                    refine ok_zbT (Q := fun V σ => (V = 0 ∨ V = 1) ∧ RD σ.1) hT (s_X5_sum hN (hR.tr hT) (by first | exact hX | exact hT.1.2 hX) (hD) (by have q1 := hD.1; have q2 := hD.2.1; have q3 := hD0.1; have q4 := hD0.2.1; first | omega | decide | (simp only [Int32.le_iff_toInt_le, Int32.lt_iff_toInt_lt, ti_add, ti_sub, ti_mul, Int32.reduceToInt] at *; omega) | (exfalso; simp_all; done)) (by have q1 := hD.1; have q2 := hD.2.1; have q3 := hD0.1; have q4 := hD0.2.1; first | omega | decide | (simp only [Int32.le_iff_toInt_le, Int32.lt_iff_toInt_lt, ti_add, ti_sub, ti_mul, Int32.reduceToInt] at *; omega) | (exfalso; simp_all; done))) (by decide) (fun v120 σ121 hOσ121 hT hqv120 => ?_)
                    have hqv120 : (v120 = 0 ∨ v120 = 1) ∧ RD σ121.1 := hqv120
                    have hD : RD σ121.1 := by first | exact hqv120.2 | exact hqv120.2.1
                    have hW : WI 28 σ121.1 := WI.tr hOσ121 (by decide) (by decide) (by decide) hW
                    refine ok_if (fun hc122 => ?_) (fun hc122 => ?_)
                    · rw [J_X5_readLine_211.eq_1]
                      refine ok_if (fun hc123 => ?_) (fun hc123 => ?_)
                      · exact ok_rZ (Or.inl rfl) ⟨hT, (show ((0 : Int32) = 0 ∨ (0 : Int32) = 1) ∧ RD σ121.1 ∧ WI 28 σ121.1 from by first | exact ⟨Or.inl rfl, hD, hW⟩ | exact ⟨Or.inr rfl, hD, hW⟩ | exact ⟨Or.inl hqv120.1, hD, hW⟩ | exact ⟨hqv120.1, hD, hW⟩)⟩
                      · refine ok_gC rfl ?_
                        refine ok_zbT (Q := fun V σ => (V = 0 ∨ V = 1) ∧ RD σ.1) hT (s_X5_pass hN (hR.tr hT) (by first | exact hX | exact hT.1.2 hX) (hD)) (by decide) (fun v124 σ125 hOσ125 hT hqv124 => ?_)
                        have hqv124 : (v124 = 0 ∨ v124 = 1) ∧ RD σ125.1 := hqv124
                        have hD : RD σ125.1 := by first | exact hqv124.2 | exact hqv124.2.1
                        have hW : WI 28 σ125.1 := WI.tr hOσ125 (by decide) (by decide) (by decide) hW
                        refine ok_if (fun hc126 => ?_) (fun hc126 => ?_)
                        · exact ok_rZ (Or.inl rfl) ⟨hT, (show ((0 : Int32) = 0 ∨ (0 : Int32) = 1) ∧ RD σ125.1 ∧ WI 28 σ125.1 from by first | exact ⟨Or.inl rfl, hD, hW⟩ | exact ⟨Or.inr rfl, hD, hW⟩ | exact ⟨Or.inl hqv124.1, hD, hW⟩ | exact ⟨hqv124.1, hD, hW⟩)⟩
                        · exact ok_rZ (Or.inr rfl) ⟨hT, (show ((1 : Int32) = 0 ∨ (1 : Int32) = 1) ∧ RD σ125.1 ∧ WI 28 σ125.1 from by first | exact ⟨Or.inl rfl, hD, hW⟩ | exact ⟨Or.inr rfl, hD, hW⟩ | exact ⟨Or.inl hqv124.1, hD, hW⟩ | exact ⟨hqv124.1, hD, hW⟩)⟩
                    · refine ok_gC rfl ?_
                      refine ok_zbT (Q := fun V σ => V = 1 ∧ RD σ.1) hT (s_X5_emit hN (hR.tr hT) (by first | exact hX | exact hT.1.2 hX) (hD)) (by decide) (fun v127 σ128 hOσ128 hT hqv127 => ?_)
                      have hqv127 : v127 = 1 ∧ RD σ128.1 := hqv127
                      have hD : RD σ128.1 := by first | exact hqv127.2 | exact hqv127.2.1
                      have hW : WI 28 σ128.1 := WI.tr hOσ128 (by decide) (by decide) (by decide) hW
                      refine ok_if (fun hc129 => ?_) (fun hc129 => ?_)
                      · rw [J_X5_readLine_211.eq_1]
                        refine ok_if (fun hc130 => ?_) (fun hc130 => ?_)
                        · exact ok_rZ (Or.inl rfl) ⟨hT, (show ((0 : Int32) = 0 ∨ (0 : Int32) = 1) ∧ RD σ128.1 ∧ WI 28 σ128.1 from by first | exact ⟨Or.inl rfl, hD, hW⟩ | exact ⟨Or.inr rfl, hD, hW⟩ | exact ⟨Or.inl hqv127.1, hD, hW⟩ | exact ⟨hqv127.1, hD, hW⟩)⟩
                        · refine ok_gC rfl ?_
                          refine ok_zbT (Q := fun V σ => (V = 0 ∨ V = 1) ∧ RD σ.1) hT (s_X5_pass hN (hR.tr hT) (by first | exact hX | exact hT.1.2 hX) (hD)) (by decide) (fun v131 σ132 hOσ132 hT hqv131 => ?_)
                          have hqv131 : (v131 = 0 ∨ v131 = 1) ∧ RD σ132.1 := hqv131
                          have hD : RD σ132.1 := by first | exact hqv131.2 | exact hqv131.2.1
                          have hW : WI 28 σ132.1 := WI.tr hOσ132 (by decide) (by decide) (by decide) hW
                          refine ok_if (fun hc133 => ?_) (fun hc133 => ?_)
                          · exact ok_rZ (Or.inl rfl) ⟨hT, (show ((0 : Int32) = 0 ∨ (0 : Int32) = 1) ∧ RD σ132.1 ∧ WI 28 σ132.1 from by first | exact ⟨Or.inl rfl, hD, hW⟩ | exact ⟨Or.inr rfl, hD, hW⟩ | exact ⟨Or.inl hqv131.1, hD, hW⟩ | exact ⟨hqv131.1, hD, hW⟩)⟩
                          · exact ok_rZ (Or.inr rfl) ⟨hT, (show ((1 : Int32) = 0 ∨ (1 : Int32) = 1) ∧ RD σ132.1 ∧ WI 28 σ132.1 from by first | exact ⟨Or.inl rfl, hD, hW⟩ | exact ⟨Or.inr rfl, hD, hW⟩ | exact ⟨Or.inl hqv131.1, hD, hW⟩ | exact ⟨hqv131.1, hD, hW⟩)⟩
                      · rw [J_X5_readLine_211.eq_1]
                        refine ok_if (fun hc134 => ?_) (fun hc134 => ?_)
                        · exact ok_rZ (Or.inl rfl) ⟨hT, (show ((0 : Int32) = 0 ∨ (0 : Int32) = 1) ∧ RD σ128.1 ∧ WI 28 σ128.1 from by first | exact ⟨Or.inl rfl, hD, hW⟩ | exact ⟨Or.inr rfl, hD, hW⟩ | exact ⟨Or.inl hqv127.1, hD, hW⟩ | exact ⟨hqv127.1, hD, hW⟩)⟩
                        · refine ok_gC rfl ?_
                          refine ok_zbT (Q := fun V σ => (V = 0 ∨ V = 1) ∧ RD σ.1) hT (s_X5_pass hN (hR.tr hT) (by first | exact hX | exact hT.1.2 hX) (hD)) (by decide) (fun v135 σ136 hOσ136 hT hqv135 => ?_)
                          have hqv135 : (v135 = 0 ∨ v135 = 1) ∧ RD σ136.1 := hqv135
                          have hD : RD σ136.1 := by first | exact hqv135.2 | exact hqv135.2.1
                          have hW : WI 28 σ136.1 := WI.tr hOσ136 (by decide) (by decide) (by decide) hW
                          refine ok_if (fun hc137 => ?_) (fun hc137 => ?_)
                          · exact ok_rZ (Or.inl rfl) ⟨hT, (show ((0 : Int32) = 0 ∨ (0 : Int32) = 1) ∧ RD σ136.1 ∧ WI 28 σ136.1 from by first | exact ⟨Or.inl rfl, hD, hW⟩ | exact ⟨Or.inr rfl, hD, hW⟩ | exact ⟨Or.inl hqv135.1, hD, hW⟩ | exact ⟨hqv135.1, hD, hW⟩)⟩
                          · exact ok_rZ (Or.inr rfl) ⟨hT, (show ((1 : Int32) = 0 ∨ (1 : Int32) = 1) ∧ RD σ136.1 ∧ WI 28 σ136.1 from by first | exact ⟨Or.inl rfl, hD, hW⟩ | exact ⟨Or.inr rfl, hD, hW⟩ | exact ⟨Or.inl hqv135.1, hD, hW⟩ | exact ⟨hqv135.1, hD, hW⟩)⟩
            · refine ok_gC rfl ?_
              refine ok_zbT (Q := fun V σ => V = 0 ∧ RD σ.1) hT (s_X5_fail hN (hR.tr hT) (by first | exact hX | exact hT.1.2 hX) (hD)) (by decide) (fun v138 σ139 hOσ139 hT hqv138 => ?_)
              have hqv138 : v138 = 0 ∧ RD σ139.1 := hqv138
              have hD : RD σ139.1 := by first | exact hqv138.2 | exact hqv138.2.1
              have hW : WI 28 σ139.1 := WI.tr hOσ139 (by decide) (by decide) (by decide) hW
              exact ok_rZ (by have q := hqv138.1; first | exact q | exact Or.inl q | exact Or.inr q) ⟨hT, (show (v138 = 0 ∨ v138 = 1) ∧ RD σ139.1 ∧ WI 28 σ139.1 from by first | exact ⟨Or.inl rfl, hD, hW⟩ | exact ⟨Or.inr rfl, hD, hW⟩ | exact ⟨Or.inl hqv138.1, hD, hW⟩ | exact ⟨hqv138.1, hD, hW⟩)⟩
        · refine ok_gC rfl ?_
          refine ok_zbT (Q := fun V σ => V = 0 ∧ RD σ.1) hT (s_X5_fail hN (hR.tr hT) (by first | exact hX | exact hT.1.2 hX) (hD)) (by decide) (fun v140 σ141 hOσ141 hT hqv140 => ?_)
          have hqv140 : v140 = 0 ∧ RD σ141.1 := hqv140
          have hD : RD σ141.1 := by first | exact hqv140.2 | exact hqv140.2.1
          have hW : WI 28 σ141.1 := WI.tr hOσ141 (by decide) (by decide) (by decide) hW
          exact ok_rZ (by have q := hqv140.1; first | exact q | exact Or.inl q | exact Or.inr q) ⟨hT, (show (v140 = 0 ∨ v140 = 1) ∧ RD σ141.1 ∧ WI 28 σ141.1 from by first | exact ⟨Or.inl rfl, hD, hW⟩ | exact ⟨Or.inr rfl, hD, hW⟩ | exact ⟨Or.inl hqv140.1, hD, hW⟩ | exact ⟨hqv140.1, hD, hW⟩)⟩
      · rw [J_X5_readLine_51.eq_1]
        refine ok_if (fun hc142 => ?_) (fun hc142 => ?_)
        · refine ok_if (fun hc143 => ?_) (fun hc143 => ?_)
          · refine ok_gC rfl ?_
            refine ok_zbT (Q := fun V σ => V = 0 ∧ RD σ.1) hT (s_X5_fail hN (hR.tr hT) (by first | exact hX | exact hT.1.2 hX) (hD)) (by decide) (fun v144 σ145 hOσ145 hT hqv144 => ?_)
            have hqv144 : v144 = 0 ∧ RD σ145.1 := hqv144
            have hD : RD σ145.1 := by first | exact hqv144.2 | exact hqv144.2.1
            have hW : WI 28 σ145.1 := WI.tr hOσ145 (by decide) (by decide) (by decide) hW
            exact ok_rZ (by have q := hqv144.1; first | exact q | exact Or.inl q | exact Or.inr q) ⟨hT, (show (v144 = 0 ∨ v144 = 1) ∧ RD σ145.1 ∧ WI 28 σ145.1 from by first | exact ⟨Or.inl rfl, hD, hW⟩ | exact ⟨Or.inr rfl, hD, hW⟩ | exact ⟨Or.inl hqv144.1, hD, hW⟩ | exact ⟨hqv144.1, hD, hW⟩)⟩
          · refine ok_if (fun hc146 => ?_) (fun hc146 => ?_)
            · refine ok_if (fun hc147 => ?_) (fun hc147 => ?_)
              · refine ok_gI rfl ?_
                refine ok_gI rfl ?_
                refine ok_if (fun hc150 => ?_) (fun hc150 => ?_)
                · rw [J_X5_readLine_92.eq_1]
                  refine ok_gC rfl ?_
                  refine ok_zbT (Q := fun V σ => (V = 0 ∨ V = 1) ∧ RD σ.1) hT (s_X5_pass hN (hR.tr hT) (by first | exact hX | exact hT.1.2 hX) (hD)) (by decide) (fun v151 σ152 hOσ152 hT hqv151 => ?_)
                  have hqv151 : (v151 = 0 ∨ v151 = 1) ∧ RD σ152.1 := hqv151
                  have hD : RD σ152.1 := by first | exact hqv151.2 | exact hqv151.2.1
                  have hW : WI 28 σ152.1 := WI.tr hOσ152 (by decide) (by decide) (by decide) hW
                  refine ok_gR (v := 62) hT rfl (hR 57 11 rfl) ?_
                  refine ok_gI rfl ?_
                  refine ok_aIn rfl (by have q1 := hD.1; have q2 := hD.2.1; have q3 := hD0.1; have q4 := hD0.2.1; first | omega | decide | (simp only [Int32.le_iff_toInt_le, Int32.lt_iff_toInt_lt, ti_add, ti_sub, ti_mul, Int32.reduceToInt] at *; omega) | (exfalso; simp_all; done)) (by have q1 := hD.1; have q2 := hD.2.1; have q3 := hD0.1; have q4 := hD0.2.1; first | omega | decide | (simp only [Int32.le_iff_toInt_le, Int32.lt_iff_toInt_lt, ti_add, ti_sub, ti_mul, Int32.reduceToInt] at *; omega) | (exfalso; simp_all; done)) (fun v155 ev155 => ?_)
                  refine ok_if (fun hc156 => ?_) (fun hc156 => ?_)
                  · refine ok_gC rfl ?_
                    refine ok_zbT (Q := fun V σ => (V = 0 ∨ V = 1) ∧ RD σ.1 ∧ WI 28 σ.1) hT (s_X5_readNames_28 hN (hR.tr hT) (by first | exact hX | exact hT.1.2 hX) (hD) (hW)) (by decide) (fun v157 σ158 hOσ158 hT hqv157 => ?_)
                    have hqv157 : (v157 = 0 ∨ v157 = 1) ∧ RD σ158.1 ∧ WI 28 σ158.1 := hqv157
                    have hD : RD σ158.1 := by first | exact hqv157.2 | exact hqv157.2.1
                    have hW : WI 28 σ158.1 := by first | exact hqv157.2.2 | exact hqv157
                    rw [J_X5_readLine_211.eq_1]
                    refine ok_if (fun hc159 => ?_) (fun hc159 => ?_)
                    · exact ok_rZ (Or.inl rfl) ⟨hT, (show ((0 : Int32) = 0 ∨ (0 : Int32) = 1) ∧ RD σ158.1 ∧ WI 28 σ158.1 from by first | exact ⟨Or.inl rfl, hD, hW⟩ | exact ⟨Or.inr rfl, hD, hW⟩ | exact ⟨Or.inl hqv157.1, hD, hW⟩ | exact ⟨hqv157.1, hD, hW⟩)⟩
                    · refine ok_gC rfl ?_
                      refine ok_zbT (Q := fun V σ => (V = 0 ∨ V = 1) ∧ RD σ.1) hT (s_X5_pass hN (hR.tr hT) (by first | exact hX | exact hT.1.2 hX) (hD)) (by decide) (fun v160 σ161 hOσ161 hT hqv160 => ?_)
                      have hqv160 : (v160 = 0 ∨ v160 = 1) ∧ RD σ161.1 := hqv160
                      have hD : RD σ161.1 := by first | exact hqv160.2 | exact hqv160.2.1
                      have hW : WI 28 σ161.1 := WI.tr hOσ161 (by decide) (by decide) (by decide) hW
                      refine ok_if (fun hc162 => ?_) (fun hc162 => ?_)
                      · exact ok_rZ (Or.inl rfl) ⟨hT, (show ((0 : Int32) = 0 ∨ (0 : Int32) = 1) ∧ RD σ161.1 ∧ WI 28 σ161.1 from by first | exact ⟨Or.inl rfl, hD, hW⟩ | exact ⟨Or.inr rfl, hD, hW⟩ | exact ⟨Or.inl hqv160.1, hD, hW⟩ | exact ⟨hqv160.1, hD, hW⟩)⟩
                      · exact ok_rZ (Or.inr rfl) ⟨hT, (show ((1 : Int32) = 0 ∨ (1 : Int32) = 1) ∧ RD σ161.1 ∧ WI 28 σ161.1 from by first | exact ⟨Or.inl rfl, hD, hW⟩ | exact ⟨Or.inr rfl, hD, hW⟩ | exact ⟨Or.inl hqv160.1, hD, hW⟩ | exact ⟨hqv160.1, hD, hW⟩)⟩
                  refine ok_if (fun hc163 => ?_) (fun hc163 => ?_)
                  · refine ok_gC rfl ?_
                    refine ok_zbT (Q := fun V σ => (V = 0 ∨ V = 1) ∧ RD σ.1 ∧ WI 28 σ.1) hT (s_X5_readWeight_28 hN (hR.tr hT) (by first | exact hX | exact hT.1.2 hX) (hD) (hW)) (by decide) (fun v164 σ165 hOσ165 hT hqv164 => ?_)
                    have hqv164 : (v164 = 0 ∨ v164 = 1) ∧ RD σ165.1 ∧ WI 28 σ165.1 := hqv164
                    have hD : RD σ165.1 := by first | exact hqv164.2 | exact hqv164.2.1
                    have hW : WI 28 σ165.1 := WI.tr hOσ165 (by decide) (by decide) (by decide) hW
                    rw [J_X5_readLine_211.eq_1]
                    refine ok_if (fun hc166 => ?_) (fun hc166 => ?_)
                    · exact ok_rZ (Or.inl rfl) ⟨hT, (show ((0 : Int32) = 0 ∨ (0 : Int32) = 1) ∧ RD σ165.1 ∧ WI 28 σ165.1 from by first | exact ⟨Or.inl rfl, hD, hW⟩ | exact ⟨Or.inr rfl, hD, hW⟩ | exact ⟨Or.inl hqv164.1, hD, hW⟩ | exact ⟨hqv164.1, hD, hW⟩)⟩
                    · refine ok_gC rfl ?_
                      refine ok_zbT (Q := fun V σ => (V = 0 ∨ V = 1) ∧ RD σ.1) hT (s_X5_pass hN (hR.tr hT) (by first | exact hX | exact hT.1.2 hX) (hD)) (by decide) (fun v167 σ168 hOσ168 hT hqv167 => ?_)
                      have hqv167 : (v167 = 0 ∨ v167 = 1) ∧ RD σ168.1 := hqv167
                      have hD : RD σ168.1 := by first | exact hqv167.2 | exact hqv167.2.1
                      have hW : WI 28 σ168.1 := WI.tr hOσ168 (by decide) (by decide) (by decide) hW
                      refine ok_if (fun hc169 => ?_) (fun hc169 => ?_)
                      · exact ok_rZ (Or.inl rfl) ⟨hT, (show ((0 : Int32) = 0 ∨ (0 : Int32) = 1) ∧ RD σ168.1 ∧ WI 28 σ168.1 from by first | exact ⟨Or.inl rfl, hD, hW⟩ | exact ⟨Or.inr rfl, hD, hW⟩ | exact ⟨Or.inl hqv167.1, hD, hW⟩ | exact ⟨hqv167.1, hD, hW⟩)⟩
                      · exact ok_rZ (Or.inr rfl) ⟨hT, (show ((1 : Int32) = 0 ∨ (1 : Int32) = 1) ∧ RD σ168.1 ∧ WI 28 σ168.1 from by first | exact ⟨Or.inl rfl, hD, hW⟩ | exact ⟨Or.inr rfl, hD, hW⟩ | exact ⟨Or.inl hqv167.1, hD, hW⟩ | exact ⟨hqv167.1, hD, hW⟩)⟩
                  refine ok_if (fun hc170 => ?_) (fun hc170 => ?_)
                  · refine ok_gC rfl ?_
                    refine ok_zbT (Q := fun V σ => (V = 0 ∨ V = 1) ∧ RD σ.1 ∧ WI 28 σ.1) hT (s_X5_readEdge_28 hN (hR.tr hT) (by first | exact hX | exact hT.1.2 hX) (hD) (hW)) (by decide) (fun v171 σ172 hOσ172 hT hqv171 => ?_)
                    have hqv171 : (v171 = 0 ∨ v171 = 1) ∧ RD σ172.1 ∧ WI 28 σ172.1 := hqv171
                    have hD : RD σ172.1 := by first | exact hqv171.2 | exact hqv171.2.1
                    have hW : WI 28 σ172.1 := by first | exact hqv171.2.2 | exact hqv171
                    rw [J_X5_readLine_211.eq_1]
                    refine ok_if (fun hc173 => ?_) (fun hc173 => ?_)
                    · exact ok_rZ (Or.inl rfl) ⟨hT, (show ((0 : Int32) = 0 ∨ (0 : Int32) = 1) ∧ RD σ172.1 ∧ WI 28 σ172.1 from by first | exact ⟨Or.inl rfl, hD, hW⟩ | exact ⟨Or.inr rfl, hD, hW⟩ | exact ⟨Or.inl hqv171.1, hD, hW⟩ | exact ⟨hqv171.1, hD, hW⟩)⟩
                    · refine ok_gC rfl ?_
                      refine ok_zbT (Q := fun V σ => (V = 0 ∨ V = 1) ∧ RD σ.1) hT (s_X5_pass hN (hR.tr hT) (by first | exact hX | exact hT.1.2 hX) (hD)) (by decide) (fun v174 σ175 hOσ175 hT hqv174 => ?_)
                      have hqv174 : (v174 = 0 ∨ v174 = 1) ∧ RD σ175.1 := hqv174
                      have hD : RD σ175.1 := by first | exact hqv174.2 | exact hqv174.2.1
                      have hW : WI 28 σ175.1 := WI.tr hOσ175 (by decide) (by decide) (by decide) hW
                      refine ok_if (fun hc176 => ?_) (fun hc176 => ?_)
                      · exact ok_rZ (Or.inl rfl) ⟨hT, (show ((0 : Int32) = 0 ∨ (0 : Int32) = 1) ∧ RD σ175.1 ∧ WI 28 σ175.1 from by first | exact ⟨Or.inl rfl, hD, hW⟩ | exact ⟨Or.inr rfl, hD, hW⟩ | exact ⟨Or.inl hqv174.1, hD, hW⟩ | exact ⟨hqv174.1, hD, hW⟩)⟩
                      · exact ok_rZ (Or.inr rfl) ⟨hT, (show ((1 : Int32) = 0 ∨ (1 : Int32) = 1) ∧ RD σ175.1 ∧ WI 28 σ175.1 from by first | exact ⟨Or.inl rfl, hD, hW⟩ | exact ⟨Or.inr rfl, hD, hW⟩ | exact ⟨Or.inl hqv174.1, hD, hW⟩ | exact ⟨hqv174.1, hD, hW⟩)⟩
                  refine ok_gC rfl ?_
                  refine ok_zbT (Q := fun V σ => (V = 0 ∨ V = 1) ∧ RD σ.1 ∧ (¬ V = 0 → 1 ≤ (σ.1 57 9).toInt ∧ (0 : Int32).toInt ≤ (lastv σ.1).toInt ∧ (lastv σ.1).toInt ≤ (9 : Int32).toInt)) hT (s_X5_passNumber hN (hR.tr hT) (by first | exact hX | exact hT.1.2 hX) (hD)) (by decide) (fun v177 σ178 hOσ178 hT hqv177 => ?_)
                  have hqv177 : (v177 = 0 ∨ v177 = 1) ∧ RD σ178.1 ∧ (¬ v177 = 0 → 1 ≤ (σ178.1 57 9).toInt ∧ (0 : Int32).toInt ≤ (lastv σ178.1).toInt ∧ (lastv σ178.1).toInt ≤ (9 : Int32).toInt) := hqv177
                  have hD : RD σ178.1 := by first | exact hqv177.2 | exact hqv177.2.1
                  have hW : WI 28 σ178.1 := WI.tr hOσ178 (by decide) (by decide) (by decide) hW
                  refine ok_if (fun hc179 => ?_) (fun hc179 => ?_)
                  · rw [J_X5_readLine_211.eq_1]
                    refine ok_if (fun hc180 => ?_) (fun hc180 => ?_)
                    · exact ok_rZ (Or.inl rfl) ⟨hT, (show ((0 : Int32) = 0 ∨ (0 : Int32) = 1) ∧ RD σ178.1 ∧ WI 28 σ178.1 from by first | exact ⟨Or.inl rfl, hD, hW⟩ | exact ⟨Or.inr rfl, hD, hW⟩ | exact ⟨Or.inl hqv177.1, hD, hW⟩ | exact ⟨hqv177.1, hD, hW⟩)⟩
                    · refine ok_gC rfl ?_
                      refine ok_zbT (Q := fun V σ => (V = 0 ∨ V = 1) ∧ RD σ.1) hT (s_X5_pass hN (hR.tr hT) (by first | exact hX | exact hT.1.2 hX) (hD)) (by decide) (fun v181 σ182 hOσ182 hT hqv181 => ?_)
                      have hqv181 : (v181 = 0 ∨ v181 = 1) ∧ RD σ182.1 := hqv181
                      have hD : RD σ182.1 := by first | exact hqv181.2 | exact hqv181.2.1
                      have hW : WI 28 σ182.1 := WI.tr hOσ182 (by decide) (by decide) (by decide) hW
                      refine ok_if (fun hc183 => ?_) (fun hc183 => ?_)
                      · exact ok_rZ (Or.inl rfl) ⟨hT, (show ((0 : Int32) = 0 ∨ (0 : Int32) = 1) ∧ RD σ182.1 ∧ WI 28 σ182.1 from by first | exact ⟨Or.inl rfl, hD, hW⟩ | exact ⟨Or.inr rfl, hD, hW⟩ | exact ⟨Or.inl hqv181.1, hD, hW⟩ | exact ⟨hqv181.1, hD, hW⟩)⟩
                      · exact ok_rZ (Or.inr rfl) ⟨hT, (show ((1 : Int32) = 0 ∨ (1 : Int32) = 1) ∧ RD σ182.1 ∧ WI 28 σ182.1 from by first | exact ⟨Or.inl rfl, hD, hW⟩ | exact ⟨Or.inr rfl, hD, hW⟩ | exact ⟨Or.inl hqv181.1, hD, hW⟩ | exact ⟨hqv181.1, hD, hW⟩)⟩
                  · refine ok_gC rfl ?_
                    refine ok_zbT (Q := fun V σ => (V = 0 ∨ V = 1) ∧ RD σ.1) hT (s_X5_pass hN (hR.tr hT) (by first | exact hX | exact hT.1.2 hX) (hD)) (by decide) (fun v184 σ185 hOσ185 hT hqv184 => ?_)
                    have hqv184 : (v184 = 0 ∨ v184 = 1) ∧ RD σ185.1 := hqv184
                    have hD : RD σ185.1 := by first | exact hqv184.2 | exact hqv184.2.1
                    have hW : WI 28 σ185.1 := WI.tr hOσ185 (by decide) (by decide) (by decide) hW
                    refine ok_if (fun hc186 => ?_) (fun hc186 => ?_)
                    · rw [J_X5_readLine_211.eq_1]
                      refine ok_if (fun hc187 => ?_) (fun hc187 => ?_)
                      · exact ok_rZ (Or.inl rfl) ⟨hT, (show ((0 : Int32) = 0 ∨ (0 : Int32) = 1) ∧ RD σ185.1 ∧ WI 28 σ185.1 from by first | exact ⟨Or.inl rfl, hD, hW⟩ | exact ⟨Or.inr rfl, hD, hW⟩ | exact ⟨Or.inl hqv184.1, hD, hW⟩ | exact ⟨hqv184.1, hD, hW⟩)⟩
                      · refine ok_gC rfl ?_
                        refine ok_zbT (Q := fun V σ => (V = 0 ∨ V = 1) ∧ RD σ.1) hT (s_X5_pass hN (hR.tr hT) (by first | exact hX | exact hT.1.2 hX) (hD)) (by decide) (fun v188 σ189 hOσ189 hT hqv188 => ?_)
                        have hqv188 : (v188 = 0 ∨ v188 = 1) ∧ RD σ189.1 := hqv188
                        have hD : RD σ189.1 := by first | exact hqv188.2 | exact hqv188.2.1
                        have hW : WI 28 σ189.1 := WI.tr hOσ189 (by decide) (by decide) (by decide) hW
                        refine ok_if (fun hc190 => ?_) (fun hc190 => ?_)
                        · exact ok_rZ (Or.inl rfl) ⟨hT, (show ((0 : Int32) = 0 ∨ (0 : Int32) = 1) ∧ RD σ189.1 ∧ WI 28 σ189.1 from by first | exact ⟨Or.inl rfl, hD, hW⟩ | exact ⟨Or.inr rfl, hD, hW⟩ | exact ⟨Or.inl hqv188.1, hD, hW⟩ | exact ⟨hqv188.1, hD, hW⟩)⟩
                        · exact ok_rZ (Or.inr rfl) ⟨hT, (show ((1 : Int32) = 0 ∨ (1 : Int32) = 1) ∧ RD σ189.1 ∧ WI 28 σ189.1 from by first | exact ⟨Or.inl rfl, hD, hW⟩ | exact ⟨Or.inr rfl, hD, hW⟩ | exact ⟨Or.inl hqv188.1, hD, hW⟩ | exact ⟨hqv188.1, hD, hW⟩)⟩
                    · refine ok_gC rfl ?_
                      refine ok_zbT (Q := fun V σ => (V = 0 ∨ V = 1) ∧ RD σ.1) hT (s_X5_sum hN (hR.tr hT) (by first | exact hX | exact hT.1.2 hX) (hD) (by have q1 := hD.1; have q2 := hD.2.1; have q3 := hD0.1; have q4 := hD0.2.1; first | omega | decide | (simp only [Int32.le_iff_toInt_le, Int32.lt_iff_toInt_lt, ti_add, ti_sub, ti_mul, Int32.reduceToInt] at *; omega) | (exfalso; simp_all; done)) (by have q1 := hD.1; have q2 := hD.2.1; have q3 := hD0.1; have q4 := hD0.2.1; first | omega | decide | (simp only [Int32.le_iff_toInt_le, Int32.lt_iff_toInt_lt, ti_add, ti_sub, ti_mul, Int32.reduceToInt] at *; omega) | (exfalso; simp_all; done))) (by decide) (fun v191 σ192 hOσ192 hT hqv191 => ?_)
                      have hqv191 : (v191 = 0 ∨ v191 = 1) ∧ RD σ192.1 := hqv191
                      have hD : RD σ192.1 := by first | exact hqv191.2 | exact hqv191.2.1
                      have hW : WI 28 σ192.1 := WI.tr hOσ192 (by decide) (by decide) (by decide) hW
                      refine ok_if (fun hc193 => ?_) (fun hc193 => ?_)
                      · rw [J_X5_readLine_211.eq_1]
                        refine ok_if (fun hc194 => ?_) (fun hc194 => ?_)
                        · exact ok_rZ (Or.inl rfl) ⟨hT, (show ((0 : Int32) = 0 ∨ (0 : Int32) = 1) ∧ RD σ192.1 ∧ WI 28 σ192.1 from by first | exact ⟨Or.inl rfl, hD, hW⟩ | exact ⟨Or.inr rfl, hD, hW⟩ | exact ⟨Or.inl hqv191.1, hD, hW⟩ | exact ⟨hqv191.1, hD, hW⟩)⟩
                        · refine ok_gC rfl ?_
                          refine ok_zbT (Q := fun V σ => (V = 0 ∨ V = 1) ∧ RD σ.1) hT (s_X5_pass hN (hR.tr hT) (by first | exact hX | exact hT.1.2 hX) (hD)) (by decide) (fun v195 σ196 hOσ196 hT hqv195 => ?_)
                          have hqv195 : (v195 = 0 ∨ v195 = 1) ∧ RD σ196.1 := hqv195
                          have hD : RD σ196.1 := by first | exact hqv195.2 | exact hqv195.2.1
                          have hW : WI 28 σ196.1 := WI.tr hOσ196 (by decide) (by decide) (by decide) hW
                          refine ok_if (fun hc197 => ?_) (fun hc197 => ?_)
                          · exact ok_rZ (Or.inl rfl) ⟨hT, (show ((0 : Int32) = 0 ∨ (0 : Int32) = 1) ∧ RD σ196.1 ∧ WI 28 σ196.1 from by first | exact ⟨Or.inl rfl, hD, hW⟩ | exact ⟨Or.inr rfl, hD, hW⟩ | exact ⟨Or.inl hqv195.1, hD, hW⟩ | exact ⟨hqv195.1, hD, hW⟩)⟩
                          · exact ok_rZ (Or.inr rfl) ⟨hT, (show ((1 : Int32) = 0 ∨ (1 : Int32) = 1) ∧ RD σ196.1 ∧ WI 28 σ196.1 from by first | exact ⟨Or.inl rfl, hD, hW⟩ | exact ⟨Or.inr rfl, hD, hW⟩ | exact ⟨Or.inl hqv195.1, hD, hW⟩ | exact ⟨hqv195.1, hD, hW⟩)⟩
                      · refine ok_gC rfl ?_
                        refine ok_zbT (Q := fun V σ => V = 1 ∧ RD σ.1) hT (s_X5_emit hN (hR.tr hT) (by first | exact hX | exact hT.1.2 hX) (hD)) (by decide) (fun v198 σ199 hOσ199 hT hqv198 => ?_)
                        have hqv198 : v198 = 1 ∧ RD σ199.1 := hqv198
                        have hD : RD σ199.1 := by first | exact hqv198.2 | exact hqv198.2.1
                        have hW : WI 28 σ199.1 := WI.tr hOσ199 (by decide) (by decide) (by decide) hW
                        refine ok_if (fun hc200 => ?_) (fun hc200 => ?_)
                        · rw [J_X5_readLine_211.eq_1]
                          refine ok_if (fun hc201 => ?_) (fun hc201 => ?_)
                          · exact ok_rZ (Or.inl rfl) ⟨hT, (show ((0 : Int32) = 0 ∨ (0 : Int32) = 1) ∧ RD σ199.1 ∧ WI 28 σ199.1 from by first | exact ⟨Or.inl rfl, hD, hW⟩ | exact ⟨Or.inr rfl, hD, hW⟩ | exact ⟨Or.inl hqv198.1, hD, hW⟩ | exact ⟨hqv198.1, hD, hW⟩)⟩
                          · refine ok_gC rfl ?_
                            refine ok_zbT (Q := fun V σ => (V = 0 ∨ V = 1) ∧ RD σ.1) hT (s_X5_pass hN (hR.tr hT) (by first | exact hX | exact hT.1.2 hX) (hD)) (by decide) (fun v202 σ203 hOσ203 hT hqv202 => ?_)
                            have hqv202 : (v202 = 0 ∨ v202 = 1) ∧ RD σ203.1 := hqv202
                            have hD : RD σ203.1 := by first | exact hqv202.2 | exact hqv202.2.1
                            have hW : WI 28 σ203.1 := WI.tr hOσ203 (by decide) (by decide) (by decide) hW
                            refine ok_if (fun hc204 => ?_) (fun hc204 => ?_)
                            · exact ok_rZ (Or.inl rfl) ⟨hT, (show ((0 : Int32) = 0 ∨ (0 : Int32) = 1) ∧ RD σ203.1 ∧ WI 28 σ203.1 from by first | exact ⟨Or.inl rfl, hD, hW⟩ | exact ⟨Or.inr rfl, hD, hW⟩ | exact ⟨Or.inl hqv202.1, hD, hW⟩ | exact ⟨hqv202.1, hD, hW⟩)⟩
                            · exact ok_rZ (Or.inr rfl) ⟨hT, (show ((1 : Int32) = 0 ∨ (1 : Int32) = 1) ∧ RD σ203.1 ∧ WI 28 σ203.1 from by first | exact ⟨Or.inl rfl, hD, hW⟩ | exact ⟨Or.inr rfl, hD, hW⟩ | exact ⟨Or.inl hqv202.1, hD, hW⟩ | exact ⟨hqv202.1, hD, hW⟩)⟩
                        · rw [J_X5_readLine_211.eq_1]
                          refine ok_if (fun hc205 => ?_) (fun hc205 => ?_)
                          · exact ok_rZ (Or.inl rfl) ⟨hT, (show ((0 : Int32) = 0 ∨ (0 : Int32) = 1) ∧ RD σ199.1 ∧ WI 28 σ199.1 from by first | exact ⟨Or.inl rfl, hD, hW⟩ | exact ⟨Or.inr rfl, hD, hW⟩ | exact ⟨Or.inl hqv198.1, hD, hW⟩ | exact ⟨hqv198.1, hD, hW⟩)⟩
                          · refine ok_gC rfl ?_
                            refine ok_zbT (Q := fun V σ => (V = 0 ∨ V = 1) ∧ RD σ.1) hT (s_X5_pass hN (hR.tr hT) (by first | exact hX | exact hT.1.2 hX) (hD)) (by decide) (fun v206 σ207 hOσ207 hT hqv206 => ?_)
                            have hqv206 : (v206 = 0 ∨ v206 = 1) ∧ RD σ207.1 := hqv206
                            have hD : RD σ207.1 := by first | exact hqv206.2 | exact hqv206.2.1
                            have hW : WI 28 σ207.1 := WI.tr hOσ207 (by decide) (by decide) (by decide) hW
                            refine ok_if (fun hc208 => ?_) (fun hc208 => ?_)
                            · exact ok_rZ (Or.inl rfl) ⟨hT, (show ((0 : Int32) = 0 ∨ (0 : Int32) = 1) ∧ RD σ207.1 ∧ WI 28 σ207.1 from by first | exact ⟨Or.inl rfl, hD, hW⟩ | exact ⟨Or.inr rfl, hD, hW⟩ | exact ⟨Or.inl hqv206.1, hD, hW⟩ | exact ⟨hqv206.1, hD, hW⟩)⟩
                            · exact ok_rZ (Or.inr rfl) ⟨hT, (show ((1 : Int32) = 0 ∨ (1 : Int32) = 1) ∧ RD σ207.1 ∧ WI 28 σ207.1 from by first | exact ⟨Or.inl rfl, hD, hW⟩ | exact ⟨Or.inr rfl, hD, hW⟩ | exact ⟨Or.inl hqv206.1, hD, hW⟩ | exact ⟨hqv206.1, hD, hW⟩)⟩
                · refine ok_gC rfl ?_
                  refine ok_zbT (Q := fun V σ => V = 0 ∧ RD σ.1) hT (s_X5_fail hN (hR.tr hT) (by first | exact hX | exact hT.1.2 hX) (hD)) (by decide) (fun v209 σ210 hOσ210 hT hqv209 => ?_)
                  have hqv209 : v209 = 0 ∧ RD σ210.1 := hqv209
                  have hD : RD σ210.1 := by first | exact hqv209.2 | exact hqv209.2.1
                  have hW : WI 28 σ210.1 := WI.tr hOσ210 (by decide) (by decide) (by decide) hW
                  exact ok_rZ (by have q := hqv209.1; first | exact q | exact Or.inl q | exact Or.inr q) ⟨hT, (show (v209 = 0 ∨ v209 = 1) ∧ RD σ210.1 ∧ WI 28 σ210.1 from by first | exact ⟨Or.inl rfl, hD, hW⟩ | exact ⟨Or.inr rfl, hD, hW⟩ | exact ⟨Or.inl hqv209.1, hD, hW⟩ | exact ⟨hqv209.1, hD, hW⟩)⟩
              · rw [J_X5_readLine_92.eq_1]
                refine ok_gC rfl ?_
                refine ok_zbT (Q := fun V σ => (V = 0 ∨ V = 1) ∧ RD σ.1) hT (s_X5_pass hN (hR.tr hT) (by first | exact hX | exact hT.1.2 hX) (hD)) (by decide) (fun v211 σ212 hOσ212 hT hqv211 => ?_)
                have hqv211 : (v211 = 0 ∨ v211 = 1) ∧ RD σ212.1 := hqv211
                have hD : RD σ212.1 := by first | exact hqv211.2 | exact hqv211.2.1
                have hW : WI 28 σ212.1 := WI.tr hOσ212 (by decide) (by decide) (by decide) hW
                refine ok_gR (v := 62) hT rfl (hR 57 11 rfl) ?_
                refine ok_gI rfl ?_
                refine ok_aIn rfl (by have q1 := hD.1; have q2 := hD.2.1; have q3 := hD0.1; have q4 := hD0.2.1; first | omega | decide | (simp only [Int32.le_iff_toInt_le, Int32.lt_iff_toInt_lt, ti_add, ti_sub, ti_mul, Int32.reduceToInt] at *; omega) | (exfalso; simp_all; done)) (by have q1 := hD.1; have q2 := hD.2.1; have q3 := hD0.1; have q4 := hD0.2.1; first | omega | decide | (simp only [Int32.le_iff_toInt_le, Int32.lt_iff_toInt_lt, ti_add, ti_sub, ti_mul, Int32.reduceToInt] at *; omega) | (exfalso; simp_all; done)) (fun v215 ev215 => ?_)
                refine ok_if (fun hc216 => ?_) (fun hc216 => ?_)
                · refine ok_gC rfl ?_
                  refine ok_zbT (Q := fun V σ => (V = 0 ∨ V = 1) ∧ RD σ.1 ∧ WI 28 σ.1) hT (s_X5_readNames_28 hN (hR.tr hT) (by first | exact hX | exact hT.1.2 hX) (hD) (hW)) (by decide) (fun v217 σ218 hOσ218 hT hqv217 => ?_)
                  have hqv217 : (v217 = 0 ∨ v217 = 1) ∧ RD σ218.1 ∧ WI 28 σ218.1 := hqv217
                  have hD : RD σ218.1 := by first | exact hqv217.2 | exact hqv217.2.1
                  have hW : WI 28 σ218.1 := by first | exact hqv217.2.2 | exact hqv217
                  rw [J_X5_readLine_211.eq_1]
                  refine ok_if (fun hc219 => ?_) (fun hc219 => ?_)
                  · exact ok_rZ (Or.inl rfl) ⟨hT, (show ((0 : Int32) = 0 ∨ (0 : Int32) = 1) ∧ RD σ218.1 ∧ WI 28 σ218.1 from by first | exact ⟨Or.inl rfl, hD, hW⟩ | exact ⟨Or.inr rfl, hD, hW⟩ | exact ⟨Or.inl hqv217.1, hD, hW⟩ | exact ⟨hqv217.1, hD, hW⟩)⟩
                  · refine ok_gC rfl ?_
                    refine ok_zbT (Q := fun V σ => (V = 0 ∨ V = 1) ∧ RD σ.1) hT (s_X5_pass hN (hR.tr hT) (by first | exact hX | exact hT.1.2 hX) (hD)) (by decide) (fun v220 σ221 hOσ221 hT hqv220 => ?_)
                    have hqv220 : (v220 = 0 ∨ v220 = 1) ∧ RD σ221.1 := hqv220
                    have hD : RD σ221.1 := by first | exact hqv220.2 | exact hqv220.2.1
                    have hW : WI 28 σ221.1 := WI.tr hOσ221 (by decide) (by decide) (by decide) hW
                    refine ok_if (fun hc222 => ?_) (fun hc222 => ?_)
                    · exact ok_rZ (Or.inl rfl) ⟨hT, (show ((0 : Int32) = 0 ∨ (0 : Int32) = 1) ∧ RD σ221.1 ∧ WI 28 σ221.1 from by first | exact ⟨Or.inl rfl, hD, hW⟩ | exact ⟨Or.inr rfl, hD, hW⟩ | exact ⟨Or.inl hqv220.1, hD, hW⟩ | exact ⟨hqv220.1, hD, hW⟩)⟩
                    · exact ok_rZ (Or.inr rfl) ⟨hT, (show ((1 : Int32) = 0 ∨ (1 : Int32) = 1) ∧ RD σ221.1 ∧ WI 28 σ221.1 from by first | exact ⟨Or.inl rfl, hD, hW⟩ | exact ⟨Or.inr rfl, hD, hW⟩ | exact ⟨Or.inl hqv220.1, hD, hW⟩ | exact ⟨hqv220.1, hD, hW⟩)⟩
                refine ok_if (fun hc223 => ?_) (fun hc223 => ?_)
                · refine ok_gC rfl ?_
                  refine ok_zbT (Q := fun V σ => (V = 0 ∨ V = 1) ∧ RD σ.1 ∧ WI 28 σ.1) hT (s_X5_readWeight_28 hN (hR.tr hT) (by first | exact hX | exact hT.1.2 hX) (hD) (hW)) (by decide) (fun v224 σ225 hOσ225 hT hqv224 => ?_)
                  have hqv224 : (v224 = 0 ∨ v224 = 1) ∧ RD σ225.1 ∧ WI 28 σ225.1 := hqv224
                  have hD : RD σ225.1 := by first | exact hqv224.2 | exact hqv224.2.1
                  have hW : WI 28 σ225.1 := WI.tr hOσ225 (by decide) (by decide) (by decide) hW
                  rw [J_X5_readLine_211.eq_1]
                  refine ok_if (fun hc226 => ?_) (fun hc226 => ?_)
                  · exact ok_rZ (Or.inl rfl) ⟨hT, (show ((0 : Int32) = 0 ∨ (0 : Int32) = 1) ∧ RD σ225.1 ∧ WI 28 σ225.1 from by first | exact ⟨Or.inl rfl, hD, hW⟩ | exact ⟨Or.inr rfl, hD, hW⟩ | exact ⟨Or.inl hqv224.1, hD, hW⟩ | exact ⟨hqv224.1, hD, hW⟩)⟩
                  · refine ok_gC rfl ?_
                    refine ok_zbT (Q := fun V σ => (V = 0 ∨ V = 1) ∧ RD σ.1) hT (s_X5_pass hN (hR.tr hT) (by first | exact hX | exact hT.1.2 hX) (hD)) (by decide) (fun v227 σ228 hOσ228 hT hqv227 => ?_)
                    have hqv227 : (v227 = 0 ∨ v227 = 1) ∧ RD σ228.1 := hqv227
                    have hD : RD σ228.1 := by first | exact hqv227.2 | exact hqv227.2.1
                    have hW : WI 28 σ228.1 := WI.tr hOσ228 (by decide) (by decide) (by decide) hW
                    refine ok_if (fun hc229 => ?_) (fun hc229 => ?_)
                    · exact ok_rZ (Or.inl rfl) ⟨hT, (show ((0 : Int32) = 0 ∨ (0 : Int32) = 1) ∧ RD σ228.1 ∧ WI 28 σ228.1 from by first | exact ⟨Or.inl rfl, hD, hW⟩ | exact ⟨Or.inr rfl, hD, hW⟩ | exact ⟨Or.inl hqv227.1, hD, hW⟩ | exact ⟨hqv227.1, hD, hW⟩)⟩
                    · exact ok_rZ (Or.inr rfl) ⟨hT, (show ((1 : Int32) = 0 ∨ (1 : Int32) = 1) ∧ RD σ228.1 ∧ WI 28 σ228.1 from by first | exact ⟨Or.inl rfl, hD, hW⟩ | exact ⟨Or.inr rfl, hD, hW⟩ | exact ⟨Or.inl hqv227.1, hD, hW⟩ | exact ⟨hqv227.1, hD, hW⟩)⟩
                refine ok_if (fun hc230 => ?_) (fun hc230 => ?_)
                · refine ok_gC rfl ?_
                  refine ok_zbT (Q := fun V σ => (V = 0 ∨ V = 1) ∧ RD σ.1 ∧ WI 28 σ.1) hT (s_X5_readEdge_28 hN (hR.tr hT) (by first | exact hX | exact hT.1.2 hX) (hD) (hW)) (by decide) (fun v231 σ232 hOσ232 hT hqv231 => ?_)
                  have hqv231 : (v231 = 0 ∨ v231 = 1) ∧ RD σ232.1 ∧ WI 28 σ232.1 := hqv231
                  have hD : RD σ232.1 := by first | exact hqv231.2 | exact hqv231.2.1
                  have hW : WI 28 σ232.1 := by first | exact hqv231.2.2 | exact hqv231
                  rw [J_X5_readLine_211.eq_1]
                  refine ok_if (fun hc233 => ?_) (fun hc233 => ?_)
                  · exact ok_rZ (Or.inl rfl) ⟨hT, (show ((0 : Int32) = 0 ∨ (0 : Int32) = 1) ∧ RD σ232.1 ∧ WI 28 σ232.1 from by first | exact ⟨Or.inl rfl, hD, hW⟩ | exact ⟨Or.inr rfl, hD, hW⟩ | exact ⟨Or.inl hqv231.1, hD, hW⟩ | exact ⟨hqv231.1, hD, hW⟩)⟩
                  · refine ok_gC rfl ?_
                    refine ok_zbT (Q := fun V σ => (V = 0 ∨ V = 1) ∧ RD σ.1) hT (s_X5_pass hN (hR.tr hT) (by first | exact hX | exact hT.1.2 hX) (hD)) (by decide) (fun v234 σ235 hOσ235 hT hqv234 => ?_)
                    have hqv234 : (v234 = 0 ∨ v234 = 1) ∧ RD σ235.1 := hqv234
                    have hD : RD σ235.1 := by first | exact hqv234.2 | exact hqv234.2.1
                    have hW : WI 28 σ235.1 := WI.tr hOσ235 (by decide) (by decide) (by decide) hW
                    refine ok_if (fun hc236 => ?_) (fun hc236 => ?_)
                    · exact ok_rZ (Or.inl rfl) ⟨hT, (show ((0 : Int32) = 0 ∨ (0 : Int32) = 1) ∧ RD σ235.1 ∧ WI 28 σ235.1 from by first | exact ⟨Or.inl rfl, hD, hW⟩ | exact ⟨Or.inr rfl, hD, hW⟩ | exact ⟨Or.inl hqv234.1, hD, hW⟩ | exact ⟨hqv234.1, hD, hW⟩)⟩
                    · exact ok_rZ (Or.inr rfl) ⟨hT, (show ((1 : Int32) = 0 ∨ (1 : Int32) = 1) ∧ RD σ235.1 ∧ WI 28 σ235.1 from by first | exact ⟨Or.inl rfl, hD, hW⟩ | exact ⟨Or.inr rfl, hD, hW⟩ | exact ⟨Or.inl hqv234.1, hD, hW⟩ | exact ⟨hqv234.1, hD, hW⟩)⟩
                refine ok_gC rfl ?_
                refine ok_zbT (Q := fun V σ => (V = 0 ∨ V = 1) ∧ RD σ.1 ∧ (¬ V = 0 → 1 ≤ (σ.1 57 9).toInt ∧ (0 : Int32).toInt ≤ (lastv σ.1).toInt ∧ (lastv σ.1).toInt ≤ (9 : Int32).toInt)) hT (s_X5_passNumber hN (hR.tr hT) (by first | exact hX | exact hT.1.2 hX) (hD)) (by decide) (fun v237 σ238 hOσ238 hT hqv237 => ?_)
                have hqv237 : (v237 = 0 ∨ v237 = 1) ∧ RD σ238.1 ∧ (¬ v237 = 0 → 1 ≤ (σ238.1 57 9).toInt ∧ (0 : Int32).toInt ≤ (lastv σ238.1).toInt ∧ (lastv σ238.1).toInt ≤ (9 : Int32).toInt) := hqv237
                have hD : RD σ238.1 := by first | exact hqv237.2 | exact hqv237.2.1
                have hW : WI 28 σ238.1 := WI.tr hOσ238 (by decide) (by decide) (by decide) hW
                refine ok_if (fun hc239 => ?_) (fun hc239 => ?_)
                · rw [J_X5_readLine_211.eq_1]
                  refine ok_if (fun hc240 => ?_) (fun hc240 => ?_)
                  · exact ok_rZ (Or.inl rfl) ⟨hT, (show ((0 : Int32) = 0 ∨ (0 : Int32) = 1) ∧ RD σ238.1 ∧ WI 28 σ238.1 from by first | exact ⟨Or.inl rfl, hD, hW⟩ | exact ⟨Or.inr rfl, hD, hW⟩ | exact ⟨Or.inl hqv237.1, hD, hW⟩ | exact ⟨hqv237.1, hD, hW⟩)⟩
                  · refine ok_gC rfl ?_
                    refine ok_zbT (Q := fun V σ => (V = 0 ∨ V = 1) ∧ RD σ.1) hT (s_X5_pass hN (hR.tr hT) (by first | exact hX | exact hT.1.2 hX) (hD)) (by decide) (fun v241 σ242 hOσ242 hT hqv241 => ?_)
                    have hqv241 : (v241 = 0 ∨ v241 = 1) ∧ RD σ242.1 := hqv241
                    have hD : RD σ242.1 := by first | exact hqv241.2 | exact hqv241.2.1
                    have hW : WI 28 σ242.1 := WI.tr hOσ242 (by decide) (by decide) (by decide) hW
                    refine ok_if (fun hc243 => ?_) (fun hc243 => ?_)
                    · exact ok_rZ (Or.inl rfl) ⟨hT, (show ((0 : Int32) = 0 ∨ (0 : Int32) = 1) ∧ RD σ242.1 ∧ WI 28 σ242.1 from by first | exact ⟨Or.inl rfl, hD, hW⟩ | exact ⟨Or.inr rfl, hD, hW⟩ | exact ⟨Or.inl hqv241.1, hD, hW⟩ | exact ⟨hqv241.1, hD, hW⟩)⟩
                    · exact ok_rZ (Or.inr rfl) ⟨hT, (show ((1 : Int32) = 0 ∨ (1 : Int32) = 1) ∧ RD σ242.1 ∧ WI 28 σ242.1 from by first | exact ⟨Or.inl rfl, hD, hW⟩ | exact ⟨Or.inr rfl, hD, hW⟩ | exact ⟨Or.inl hqv241.1, hD, hW⟩ | exact ⟨hqv241.1, hD, hW⟩)⟩
                · refine ok_gC rfl ?_
                  refine ok_zbT (Q := fun V σ => (V = 0 ∨ V = 1) ∧ RD σ.1) hT (s_X5_pass hN (hR.tr hT) (by first | exact hX | exact hT.1.2 hX) (hD)) (by decide) (fun v244 σ245 hOσ245 hT hqv244 => ?_)
                  have hqv244 : (v244 = 0 ∨ v244 = 1) ∧ RD σ245.1 := hqv244
                  have hD : RD σ245.1 := by first | exact hqv244.2 | exact hqv244.2.1
                  have hW : WI 28 σ245.1 := WI.tr hOσ245 (by decide) (by decide) (by decide) hW
                  refine ok_if (fun hc246 => ?_) (fun hc246 => ?_)
                  · rw [J_X5_readLine_211.eq_1]
                    refine ok_if (fun hc247 => ?_) (fun hc247 => ?_)
                    · exact ok_rZ (Or.inl rfl) ⟨hT, (show ((0 : Int32) = 0 ∨ (0 : Int32) = 1) ∧ RD σ245.1 ∧ WI 28 σ245.1 from by first | exact ⟨Or.inl rfl, hD, hW⟩ | exact ⟨Or.inr rfl, hD, hW⟩ | exact ⟨Or.inl hqv244.1, hD, hW⟩ | exact ⟨hqv244.1, hD, hW⟩)⟩
                    · refine ok_gC rfl ?_
                      refine ok_zbT (Q := fun V σ => (V = 0 ∨ V = 1) ∧ RD σ.1) hT (s_X5_pass hN (hR.tr hT) (by first | exact hX | exact hT.1.2 hX) (hD)) (by decide) (fun v248 σ249 hOσ249 hT hqv248 => ?_)
                      have hqv248 : (v248 = 0 ∨ v248 = 1) ∧ RD σ249.1 := hqv248
                      have hD : RD σ249.1 := by first | exact hqv248.2 | exact hqv248.2.1
                      have hW : WI 28 σ249.1 := WI.tr hOσ249 (by decide) (by decide) (by decide) hW
                      refine ok_if (fun hc250 => ?_) (fun hc250 => ?_)
                      · exact ok_rZ (Or.inl rfl) ⟨hT, (show ((0 : Int32) = 0 ∨ (0 : Int32) = 1) ∧ RD σ249.1 ∧ WI 28 σ249.1 from by first | exact ⟨Or.inl rfl, hD, hW⟩ | exact ⟨Or.inr rfl, hD, hW⟩ | exact ⟨Or.inl hqv248.1, hD, hW⟩ | exact ⟨hqv248.1, hD, hW⟩)⟩
                      · exact ok_rZ (Or.inr rfl) ⟨hT, (show ((1 : Int32) = 0 ∨ (1 : Int32) = 1) ∧ RD σ249.1 ∧ WI 28 σ249.1 from by first | exact ⟨Or.inl rfl, hD, hW⟩ | exact ⟨Or.inr rfl, hD, hW⟩ | exact ⟨Or.inl hqv248.1, hD, hW⟩ | exact ⟨hqv248.1, hD, hW⟩)⟩
                  · refine ok_gC rfl ?_
                    refine ok_zbT (Q := fun V σ => (V = 0 ∨ V = 1) ∧ RD σ.1) hT (s_X5_sum hN (hR.tr hT) (by first | exact hX | exact hT.1.2 hX) (hD) (by have q1 := hD.1; have q2 := hD.2.1; have q3 := hD0.1; have q4 := hD0.2.1; first | omega | decide | (simp only [Int32.le_iff_toInt_le, Int32.lt_iff_toInt_lt, ti_add, ti_sub, ti_mul, Int32.reduceToInt] at *; omega) | (exfalso; simp_all; done)) (by have q1 := hD.1; have q2 := hD.2.1; have q3 := hD0.1; have q4 := hD0.2.1; first | omega | decide | (simp only [Int32.le_iff_toInt_le, Int32.lt_iff_toInt_lt, ti_add, ti_sub, ti_mul, Int32.reduceToInt] at *; omega) | (exfalso; simp_all; done))) (by decide) (fun v251 σ252 hOσ252 hT hqv251 => ?_)
                    have hqv251 : (v251 = 0 ∨ v251 = 1) ∧ RD σ252.1 := hqv251
                    have hD : RD σ252.1 := by first | exact hqv251.2 | exact hqv251.2.1
                    have hW : WI 28 σ252.1 := WI.tr hOσ252 (by decide) (by decide) (by decide) hW
                    refine ok_if (fun hc253 => ?_) (fun hc253 => ?_)
                    · rw [J_X5_readLine_211.eq_1]
                      refine ok_if (fun hc254 => ?_) (fun hc254 => ?_)
                      · exact ok_rZ (Or.inl rfl) ⟨hT, (show ((0 : Int32) = 0 ∨ (0 : Int32) = 1) ∧ RD σ252.1 ∧ WI 28 σ252.1 from by first | exact ⟨Or.inl rfl, hD, hW⟩ | exact ⟨Or.inr rfl, hD, hW⟩ | exact ⟨Or.inl hqv251.1, hD, hW⟩ | exact ⟨hqv251.1, hD, hW⟩)⟩
                      · refine ok_gC rfl ?_
                        refine ok_zbT (Q := fun V σ => (V = 0 ∨ V = 1) ∧ RD σ.1) hT (s_X5_pass hN (hR.tr hT) (by first | exact hX | exact hT.1.2 hX) (hD)) (by decide) (fun v255 σ256 hOσ256 hT hqv255 => ?_)
                        have hqv255 : (v255 = 0 ∨ v255 = 1) ∧ RD σ256.1 := hqv255
                        have hD : RD σ256.1 := by first | exact hqv255.2 | exact hqv255.2.1
                        have hW : WI 28 σ256.1 := WI.tr hOσ256 (by decide) (by decide) (by decide) hW
                        refine ok_if (fun hc257 => ?_) (fun hc257 => ?_)
                        · exact ok_rZ (Or.inl rfl) ⟨hT, (show ((0 : Int32) = 0 ∨ (0 : Int32) = 1) ∧ RD σ256.1 ∧ WI 28 σ256.1 from by first | exact ⟨Or.inl rfl, hD, hW⟩ | exact ⟨Or.inr rfl, hD, hW⟩ | exact ⟨Or.inl hqv255.1, hD, hW⟩ | exact ⟨hqv255.1, hD, hW⟩)⟩
                        · exact ok_rZ (Or.inr rfl) ⟨hT, (show ((1 : Int32) = 0 ∨ (1 : Int32) = 1) ∧ RD σ256.1 ∧ WI 28 σ256.1 from by first | exact ⟨Or.inl rfl, hD, hW⟩ | exact ⟨Or.inr rfl, hD, hW⟩ | exact ⟨Or.inl hqv255.1, hD, hW⟩ | exact ⟨hqv255.1, hD, hW⟩)⟩
                    · refine ok_gC rfl ?_
                      refine ok_zbT (Q := fun V σ => V = 1 ∧ RD σ.1) hT (s_X5_emit hN (hR.tr hT) (by first | exact hX | exact hT.1.2 hX) (hD)) (by decide) (fun v258 σ259 hOσ259 hT hqv258 => ?_)
                      have hqv258 : v258 = 1 ∧ RD σ259.1 := hqv258
                      have hD : RD σ259.1 := by first | exact hqv258.2 | exact hqv258.2.1
                      have hW : WI 28 σ259.1 := WI.tr hOσ259 (by decide) (by decide) (by decide) hW
                      refine ok_if (fun hc260 => ?_) (fun hc260 => ?_)
                      · rw [J_X5_readLine_211.eq_1]
                        refine ok_if (fun hc261 => ?_) (fun hc261 => ?_)
                        · exact ok_rZ (Or.inl rfl) ⟨hT, (show ((0 : Int32) = 0 ∨ (0 : Int32) = 1) ∧ RD σ259.1 ∧ WI 28 σ259.1 from by first | exact ⟨Or.inl rfl, hD, hW⟩ | exact ⟨Or.inr rfl, hD, hW⟩ | exact ⟨Or.inl hqv258.1, hD, hW⟩ | exact ⟨hqv258.1, hD, hW⟩)⟩
                        · refine ok_gC rfl ?_
                          refine ok_zbT (Q := fun V σ => (V = 0 ∨ V = 1) ∧ RD σ.1) hT (s_X5_pass hN (hR.tr hT) (by first | exact hX | exact hT.1.2 hX) (hD)) (by decide) (fun v262 σ263 hOσ263 hT hqv262 => ?_)
                          have hqv262 : (v262 = 0 ∨ v262 = 1) ∧ RD σ263.1 := hqv262
                          have hD : RD σ263.1 := by first | exact hqv262.2 | exact hqv262.2.1
                          have hW : WI 28 σ263.1 := WI.tr hOσ263 (by decide) (by decide) (by decide) hW
                          refine ok_if (fun hc264 => ?_) (fun hc264 => ?_)
                          · exact ok_rZ (Or.inl rfl) ⟨hT, (show ((0 : Int32) = 0 ∨ (0 : Int32) = 1) ∧ RD σ263.1 ∧ WI 28 σ263.1 from by first | exact ⟨Or.inl rfl, hD, hW⟩ | exact ⟨Or.inr rfl, hD, hW⟩ | exact ⟨Or.inl hqv262.1, hD, hW⟩ | exact ⟨hqv262.1, hD, hW⟩)⟩
                          · exact ok_rZ (Or.inr rfl) ⟨hT, (show ((1 : Int32) = 0 ∨ (1 : Int32) = 1) ∧ RD σ263.1 ∧ WI 28 σ263.1 from by first | exact ⟨Or.inl rfl, hD, hW⟩ | exact ⟨Or.inr rfl, hD, hW⟩ | exact ⟨Or.inl hqv262.1, hD, hW⟩ | exact ⟨hqv262.1, hD, hW⟩)⟩
                      · rw [J_X5_readLine_211.eq_1]
                        refine ok_if (fun hc265 => ?_) (fun hc265 => ?_)
                        · exact ok_rZ (Or.inl rfl) ⟨hT, (show ((0 : Int32) = 0 ∨ (0 : Int32) = 1) ∧ RD σ259.1 ∧ WI 28 σ259.1 from by first | exact ⟨Or.inl rfl, hD, hW⟩ | exact ⟨Or.inr rfl, hD, hW⟩ | exact ⟨Or.inl hqv258.1, hD, hW⟩ | exact ⟨hqv258.1, hD, hW⟩)⟩
                        · refine ok_gC rfl ?_
                          refine ok_zbT (Q := fun V σ => (V = 0 ∨ V = 1) ∧ RD σ.1) hT (s_X5_pass hN (hR.tr hT) (by first | exact hX | exact hT.1.2 hX) (hD)) (by decide) (fun v266 σ267 hOσ267 hT hqv266 => ?_)
                          have hqv266 : (v266 = 0 ∨ v266 = 1) ∧ RD σ267.1 := hqv266
                          have hD : RD σ267.1 := by first | exact hqv266.2 | exact hqv266.2.1
                          have hW : WI 28 σ267.1 := WI.tr hOσ267 (by decide) (by decide) (by decide) hW
                          refine ok_if (fun hc268 => ?_) (fun hc268 => ?_)
                          · exact ok_rZ (Or.inl rfl) ⟨hT, (show ((0 : Int32) = 0 ∨ (0 : Int32) = 1) ∧ RD σ267.1 ∧ WI 28 σ267.1 from by first | exact ⟨Or.inl rfl, hD, hW⟩ | exact ⟨Or.inr rfl, hD, hW⟩ | exact ⟨Or.inl hqv266.1, hD, hW⟩ | exact ⟨hqv266.1, hD, hW⟩)⟩
                          · exact ok_rZ (Or.inr rfl) ⟨hT, (show ((1 : Int32) = 0 ∨ (1 : Int32) = 1) ∧ RD σ267.1 ∧ WI 28 σ267.1 from by first | exact ⟨Or.inl rfl, hD, hW⟩ | exact ⟨Or.inr rfl, hD, hW⟩ | exact ⟨Or.inl hqv266.1, hD, hW⟩ | exact ⟨hqv266.1, hD, hW⟩)⟩
            · refine ok_gC rfl ?_
              refine ok_zbT (Q := fun V σ => V = 0 ∧ RD σ.1) hT (s_X5_fail hN (hR.tr hT) (by first | exact hX | exact hT.1.2 hX) (hD)) (by decide) (fun v269 σ270 hOσ270 hT hqv269 => ?_)
              have hqv269 : v269 = 0 ∧ RD σ270.1 := hqv269
              have hD : RD σ270.1 := by first | exact hqv269.2 | exact hqv269.2.1
              have hW : WI 28 σ270.1 := WI.tr hOσ270 (by decide) (by decide) (by decide) hW
              exact ok_rZ (by have q := hqv269.1; first | exact q | exact Or.inl q | exact Or.inr q) ⟨hT, (show (v269 = 0 ∨ v269 = 1) ∧ RD σ270.1 ∧ WI 28 σ270.1 from by first | exact ⟨Or.inl rfl, hD, hW⟩ | exact ⟨Or.inr rfl, hD, hW⟩ | exact ⟨Or.inl hqv269.1, hD, hW⟩ | exact ⟨hqv269.1, hD, hW⟩)⟩
        · refine ok_gC rfl ?_
          refine ok_zbT (Q := fun V σ => V = 0 ∧ RD σ.1) hT (s_X5_fail hN (hR.tr hT) (by first | exact hX | exact hT.1.2 hX) (hD)) (by decide) (fun v271 σ272 hOσ272 hT hqv271 => ?_)
          have hqv271 : v271 = 0 ∧ RD σ272.1 := hqv271
          have hD : RD σ272.1 := by first | exact hqv271.2 | exact hqv271.2.1
          have hW : WI 28 σ272.1 := WI.tr hOσ272 (by decide) (by decide) (by decide) hW
          exact ok_rZ (by have q := hqv271.1; first | exact q | exact Or.inl q | exact Or.inr q) ⟨hT, (show (v271 = 0 ∨ v271 = 1) ∧ RD σ272.1 ∧ WI 28 σ272.1 from by first | exact ⟨Or.inl rfl, hD, hW⟩ | exact ⟨Or.inr rfl, hD, hW⟩ | exact ⟨Or.inl hqv271.1, hD, hW⟩ | exact ⟨hqv271.1, hD, hW⟩)⟩
    · rw [J_X5_readLine_39.eq_1]
      refine ok_if (fun hc273 => ?_) (fun hc273 => ?_)
      · rw [J_X5_readLine_51.eq_1]
        refine ok_if (fun hc274 => ?_) (fun hc274 => ?_)
        · refine ok_if (fun hc275 => ?_) (fun hc275 => ?_)
          · refine ok_gC rfl ?_
            refine ok_zbT (Q := fun V σ => V = 0 ∧ RD σ.1) hT (s_X5_fail hN (hR.tr hT) (by first | exact hX | exact hT.1.2 hX) (hD)) (by decide) (fun v276 σ277 hOσ277 hT hqv276 => ?_)
            have hqv276 : v276 = 0 ∧ RD σ277.1 := hqv276
            have hD : RD σ277.1 := by first | exact hqv276.2 | exact hqv276.2.1
            have hW : WI 28 σ277.1 := WI.tr hOσ277 (by decide) (by decide) (by decide) hW
            exact ok_rZ (by have q := hqv276.1; first | exact q | exact Or.inl q | exact Or.inr q) ⟨hT, (show (v276 = 0 ∨ v276 = 1) ∧ RD σ277.1 ∧ WI 28 σ277.1 from by first | exact ⟨Or.inl rfl, hD, hW⟩ | exact ⟨Or.inr rfl, hD, hW⟩ | exact ⟨Or.inl hqv276.1, hD, hW⟩ | exact ⟨hqv276.1, hD, hW⟩)⟩
          · refine ok_if (fun hc278 => ?_) (fun hc278 => ?_)
            · refine ok_if (fun hc279 => ?_) (fun hc279 => ?_)
              · refine ok_gI rfl ?_
                refine ok_gI rfl ?_
                refine ok_if (fun hc282 => ?_) (fun hc282 => ?_)
                · rw [J_X5_readLine_92.eq_1]
                  refine ok_gC rfl ?_
                  refine ok_zbT (Q := fun V σ => (V = 0 ∨ V = 1) ∧ RD σ.1) hT (s_X5_pass hN (hR.tr hT) (by first | exact hX | exact hT.1.2 hX) (hD)) (by decide) (fun v283 σ284 hOσ284 hT hqv283 => ?_)
                  have hqv283 : (v283 = 0 ∨ v283 = 1) ∧ RD σ284.1 := hqv283
                  have hD : RD σ284.1 := by first | exact hqv283.2 | exact hqv283.2.1
                  have hW : WI 28 σ284.1 := WI.tr hOσ284 (by decide) (by decide) (by decide) hW
                  refine ok_gR (v := 62) hT rfl (hR 57 11 rfl) ?_
                  refine ok_gI rfl ?_
                  refine ok_aIn rfl (by have q1 := hD.1; have q2 := hD.2.1; have q3 := hD0.1; have q4 := hD0.2.1; first | omega | decide | (simp only [Int32.le_iff_toInt_le, Int32.lt_iff_toInt_lt, ti_add, ti_sub, ti_mul, Int32.reduceToInt] at *; omega) | (exfalso; simp_all; done)) (by have q1 := hD.1; have q2 := hD.2.1; have q3 := hD0.1; have q4 := hD0.2.1; first | omega | decide | (simp only [Int32.le_iff_toInt_le, Int32.lt_iff_toInt_lt, ti_add, ti_sub, ti_mul, Int32.reduceToInt] at *; omega) | (exfalso; simp_all; done)) (fun v287 ev287 => ?_)
                  refine ok_if (fun hc288 => ?_) (fun hc288 => ?_)
                  · refine ok_gC rfl ?_
                    refine ok_zbT (Q := fun V σ => (V = 0 ∨ V = 1) ∧ RD σ.1 ∧ WI 28 σ.1) hT (s_X5_readNames_28 hN (hR.tr hT) (by first | exact hX | exact hT.1.2 hX) (hD) (hW)) (by decide) (fun v289 σ290 hOσ290 hT hqv289 => ?_)
                    have hqv289 : (v289 = 0 ∨ v289 = 1) ∧ RD σ290.1 ∧ WI 28 σ290.1 := hqv289
                    have hD : RD σ290.1 := by first | exact hqv289.2 | exact hqv289.2.1
                    have hW : WI 28 σ290.1 := by first | exact hqv289.2.2 | exact hqv289
                    rw [J_X5_readLine_211.eq_1]
                    refine ok_if (fun hc291 => ?_) (fun hc291 => ?_)
                    · exact ok_rZ (Or.inl rfl) ⟨hT, (show ((0 : Int32) = 0 ∨ (0 : Int32) = 1) ∧ RD σ290.1 ∧ WI 28 σ290.1 from by first | exact ⟨Or.inl rfl, hD, hW⟩ | exact ⟨Or.inr rfl, hD, hW⟩ | exact ⟨Or.inl hqv289.1, hD, hW⟩ | exact ⟨hqv289.1, hD, hW⟩)⟩
                    · refine ok_gC rfl ?_
                      refine ok_zbT (Q := fun V σ => (V = 0 ∨ V = 1) ∧ RD σ.1) hT (s_X5_pass hN (hR.tr hT) (by first | exact hX | exact hT.1.2 hX) (hD)) (by decide) (fun v292 σ293 hOσ293 hT hqv292 => ?_)
                      have hqv292 : (v292 = 0 ∨ v292 = 1) ∧ RD σ293.1 := hqv292
                      have hD : RD σ293.1 := by first | exact hqv292.2 | exact hqv292.2.1
                      have hW : WI 28 σ293.1 := WI.tr hOσ293 (by decide) (by decide) (by decide) hW
                      refine ok_if (fun hc294 => ?_) (fun hc294 => ?_)
                      · exact ok_rZ (Or.inl rfl) ⟨hT, (show ((0 : Int32) = 0 ∨ (0 : Int32) = 1) ∧ RD σ293.1 ∧ WI 28 σ293.1 from by first | exact ⟨Or.inl rfl, hD, hW⟩ | exact ⟨Or.inr rfl, hD, hW⟩ | exact ⟨Or.inl hqv292.1, hD, hW⟩ | exact ⟨hqv292.1, hD, hW⟩)⟩
                      · exact ok_rZ (Or.inr rfl) ⟨hT, (show ((1 : Int32) = 0 ∨ (1 : Int32) = 1) ∧ RD σ293.1 ∧ WI 28 σ293.1 from by first | exact ⟨Or.inl rfl, hD, hW⟩ | exact ⟨Or.inr rfl, hD, hW⟩ | exact ⟨Or.inl hqv292.1, hD, hW⟩ | exact ⟨hqv292.1, hD, hW⟩)⟩
                  refine ok_if (fun hc295 => ?_) (fun hc295 => ?_)
                  · refine ok_gC rfl ?_
                    refine ok_zbT (Q := fun V σ => (V = 0 ∨ V = 1) ∧ RD σ.1 ∧ WI 28 σ.1) hT (s_X5_readWeight_28 hN (hR.tr hT) (by first | exact hX | exact hT.1.2 hX) (hD) (hW)) (by decide) (fun v296 σ297 hOσ297 hT hqv296 => ?_)
                    have hqv296 : (v296 = 0 ∨ v296 = 1) ∧ RD σ297.1 ∧ WI 28 σ297.1 := hqv296
                    have hD : RD σ297.1 := by first | exact hqv296.2 | exact hqv296.2.1
                    have hW : WI 28 σ297.1 := WI.tr hOσ297 (by decide) (by decide) (by decide) hW
                    rw [J_X5_readLine_211.eq_1]
                    refine ok_if (fun hc298 => ?_) (fun hc298 => ?_)
                    · exact ok_rZ (Or.inl rfl) ⟨hT, (show ((0 : Int32) = 0 ∨ (0 : Int32) = 1) ∧ RD σ297.1 ∧ WI 28 σ297.1 from by first | exact ⟨Or.inl rfl, hD, hW⟩ | exact ⟨Or.inr rfl, hD, hW⟩ | exact ⟨Or.inl hqv296.1, hD, hW⟩ | exact ⟨hqv296.1, hD, hW⟩)⟩
                    · refine ok_gC rfl ?_
                      refine ok_zbT (Q := fun V σ => (V = 0 ∨ V = 1) ∧ RD σ.1) hT (s_X5_pass hN (hR.tr hT) (by first | exact hX | exact hT.1.2 hX) (hD)) (by decide) (fun v299 σ300 hOσ300 hT hqv299 => ?_)
                      have hqv299 : (v299 = 0 ∨ v299 = 1) ∧ RD σ300.1 := hqv299
                      have hD : RD σ300.1 := by first | exact hqv299.2 | exact hqv299.2.1
                      have hW : WI 28 σ300.1 := WI.tr hOσ300 (by decide) (by decide) (by decide) hW
                      refine ok_if (fun hc301 => ?_) (fun hc301 => ?_)
                      · exact ok_rZ (Or.inl rfl) ⟨hT, (show ((0 : Int32) = 0 ∨ (0 : Int32) = 1) ∧ RD σ300.1 ∧ WI 28 σ300.1 from by first | exact ⟨Or.inl rfl, hD, hW⟩ | exact ⟨Or.inr rfl, hD, hW⟩ | exact ⟨Or.inl hqv299.1, hD, hW⟩ | exact ⟨hqv299.1, hD, hW⟩)⟩
                      · exact ok_rZ (Or.inr rfl) ⟨hT, (show ((1 : Int32) = 0 ∨ (1 : Int32) = 1) ∧ RD σ300.1 ∧ WI 28 σ300.1 from by first | exact ⟨Or.inl rfl, hD, hW⟩ | exact ⟨Or.inr rfl, hD, hW⟩ | exact ⟨Or.inl hqv299.1, hD, hW⟩ | exact ⟨hqv299.1, hD, hW⟩)⟩
                  refine ok_if (fun hc302 => ?_) (fun hc302 => ?_)
                  · refine ok_gC rfl ?_
                    refine ok_zbT (Q := fun V σ => (V = 0 ∨ V = 1) ∧ RD σ.1 ∧ WI 28 σ.1) hT (s_X5_readEdge_28 hN (hR.tr hT) (by first | exact hX | exact hT.1.2 hX) (hD) (hW)) (by decide) (fun v303 σ304 hOσ304 hT hqv303 => ?_)
                    have hqv303 : (v303 = 0 ∨ v303 = 1) ∧ RD σ304.1 ∧ WI 28 σ304.1 := hqv303
                    have hD : RD σ304.1 := by first | exact hqv303.2 | exact hqv303.2.1
                    have hW : WI 28 σ304.1 := by first | exact hqv303.2.2 | exact hqv303
                    rw [J_X5_readLine_211.eq_1]
                    refine ok_if (fun hc305 => ?_) (fun hc305 => ?_)
                    · exact ok_rZ (Or.inl rfl) ⟨hT, (show ((0 : Int32) = 0 ∨ (0 : Int32) = 1) ∧ RD σ304.1 ∧ WI 28 σ304.1 from by first | exact ⟨Or.inl rfl, hD, hW⟩ | exact ⟨Or.inr rfl, hD, hW⟩ | exact ⟨Or.inl hqv303.1, hD, hW⟩ | exact ⟨hqv303.1, hD, hW⟩)⟩
                    · refine ok_gC rfl ?_
                      refine ok_zbT (Q := fun V σ => (V = 0 ∨ V = 1) ∧ RD σ.1) hT (s_X5_pass hN (hR.tr hT) (by first | exact hX | exact hT.1.2 hX) (hD)) (by decide) (fun v306 σ307 hOσ307 hT hqv306 => ?_)
                      have hqv306 : (v306 = 0 ∨ v306 = 1) ∧ RD σ307.1 := hqv306
                      have hD : RD σ307.1 := by first | exact hqv306.2 | exact hqv306.2.1
                      have hW : WI 28 σ307.1 := WI.tr hOσ307 (by decide) (by decide) (by decide) hW
                      refine ok_if (fun hc308 => ?_) (fun hc308 => ?_)
                      · exact ok_rZ (Or.inl rfl) ⟨hT, (show ((0 : Int32) = 0 ∨ (0 : Int32) = 1) ∧ RD σ307.1 ∧ WI 28 σ307.1 from by first | exact ⟨Or.inl rfl, hD, hW⟩ | exact ⟨Or.inr rfl, hD, hW⟩ | exact ⟨Or.inl hqv306.1, hD, hW⟩ | exact ⟨hqv306.1, hD, hW⟩)⟩
                      · exact ok_rZ (Or.inr rfl) ⟨hT, (show ((1 : Int32) = 0 ∨ (1 : Int32) = 1) ∧ RD σ307.1 ∧ WI 28 σ307.1 from by first | exact ⟨Or.inl rfl, hD, hW⟩ | exact ⟨Or.inr rfl, hD, hW⟩ | exact ⟨Or.inl hqv306.1, hD, hW⟩ | exact ⟨hqv306.1, hD, hW⟩)⟩
                  refine ok_gC rfl ?_
                  refine ok_zbT (Q := fun V σ => (V = 0 ∨ V = 1) ∧ RD σ.1 ∧ (¬ V = 0 → 1 ≤ (σ.1 57 9).toInt ∧ (0 : Int32).toInt ≤ (lastv σ.1).toInt ∧ (lastv σ.1).toInt ≤ (9 : Int32).toInt)) hT (s_X5_passNumber hN (hR.tr hT) (by first | exact hX | exact hT.1.2 hX) (hD)) (by decide) (fun v309 σ310 hOσ310 hT hqv309 => ?_)
                  have hqv309 : (v309 = 0 ∨ v309 = 1) ∧ RD σ310.1 ∧ (¬ v309 = 0 → 1 ≤ (σ310.1 57 9).toInt ∧ (0 : Int32).toInt ≤ (lastv σ310.1).toInt ∧ (lastv σ310.1).toInt ≤ (9 : Int32).toInt) := hqv309
                  have hD : RD σ310.1 := by first | exact hqv309.2 | exact hqv309.2.1
                  have hW : WI 28 σ310.1 := WI.tr hOσ310 (by decide) (by decide) (by decide) hW
                  refine ok_if (fun hc311 => ?_) (fun hc311 => ?_)
                  · rw [J_X5_readLine_211.eq_1]
                    refine ok_if (fun hc312 => ?_) (fun hc312 => ?_)
                    · exact ok_rZ (Or.inl rfl) ⟨hT, (show ((0 : Int32) = 0 ∨ (0 : Int32) = 1) ∧ RD σ310.1 ∧ WI 28 σ310.1 from by first | exact ⟨Or.inl rfl, hD, hW⟩ | exact ⟨Or.inr rfl, hD, hW⟩ | exact ⟨Or.inl hqv309.1, hD, hW⟩ | exact ⟨hqv309.1, hD, hW⟩)⟩
                    · refine ok_gC rfl ?_
                      refine ok_zbT (Q := fun V σ => (V = 0 ∨ V = 1) ∧ RD σ.1) hT (s_X5_pass hN (hR.tr hT) (by first | exact hX | exact hT.1.2 hX) (hD)) (by decide) (fun v313 σ314 hOσ314 hT hqv313 => ?_)
                      have hqv313 : (v313 = 0 ∨ v313 = 1) ∧ RD σ314.1 := hqv313
                      have hD : RD σ314.1 := by first | exact hqv313.2 | exact hqv313.2.1
                      have hW : WI 28 σ314.1 := WI.tr hOσ314 (by decide) (by decide) (by decide) hW
                      refine ok_if (fun hc315 => ?_) (fun hc315 => ?_)
                      · exact ok_rZ (Or.inl rfl) ⟨hT, (show ((0 : Int32) = 0 ∨ (0 : Int32) = 1) ∧ RD σ314.1 ∧ WI 28 σ314.1 from by first | exact ⟨Or.inl rfl, hD, hW⟩ | exact ⟨Or.inr rfl, hD, hW⟩ | exact ⟨Or.inl hqv313.1, hD, hW⟩ | exact ⟨hqv313.1, hD, hW⟩)⟩
                      · exact ok_rZ (Or.inr rfl) ⟨hT, (show ((1 : Int32) = 0 ∨ (1 : Int32) = 1) ∧ RD σ314.1 ∧ WI 28 σ314.1 from by first | exact ⟨Or.inl rfl, hD, hW⟩ | exact ⟨Or.inr rfl, hD, hW⟩ | exact ⟨Or.inl hqv313.1, hD, hW⟩ | exact ⟨hqv313.1, hD, hW⟩)⟩
                  · refine ok_gC rfl ?_
                    refine ok_zbT (Q := fun V σ => (V = 0 ∨ V = 1) ∧ RD σ.1) hT (s_X5_pass hN (hR.tr hT) (by first | exact hX | exact hT.1.2 hX) (hD)) (by decide) (fun v316 σ317 hOσ317 hT hqv316 => ?_)
                    have hqv316 : (v316 = 0 ∨ v316 = 1) ∧ RD σ317.1 := hqv316
                    have hD : RD σ317.1 := by first | exact hqv316.2 | exact hqv316.2.1
                    have hW : WI 28 σ317.1 := WI.tr hOσ317 (by decide) (by decide) (by decide) hW
                    refine ok_if (fun hc318 => ?_) (fun hc318 => ?_)
                    · rw [J_X5_readLine_211.eq_1]
                      refine ok_if (fun hc319 => ?_) (fun hc319 => ?_)
                      · exact ok_rZ (Or.inl rfl) ⟨hT, (show ((0 : Int32) = 0 ∨ (0 : Int32) = 1) ∧ RD σ317.1 ∧ WI 28 σ317.1 from by first | exact ⟨Or.inl rfl, hD, hW⟩ | exact ⟨Or.inr rfl, hD, hW⟩ | exact ⟨Or.inl hqv316.1, hD, hW⟩ | exact ⟨hqv316.1, hD, hW⟩)⟩
                      · refine ok_gC rfl ?_
                        refine ok_zbT (Q := fun V σ => (V = 0 ∨ V = 1) ∧ RD σ.1) hT (s_X5_pass hN (hR.tr hT) (by first | exact hX | exact hT.1.2 hX) (hD)) (by decide) (fun v320 σ321 hOσ321 hT hqv320 => ?_)
                        have hqv320 : (v320 = 0 ∨ v320 = 1) ∧ RD σ321.1 := hqv320
                        have hD : RD σ321.1 := by first | exact hqv320.2 | exact hqv320.2.1
                        have hW : WI 28 σ321.1 := WI.tr hOσ321 (by decide) (by decide) (by decide) hW
                        refine ok_if (fun hc322 => ?_) (fun hc322 => ?_)
                        · exact ok_rZ (Or.inl rfl) ⟨hT, (show ((0 : Int32) = 0 ∨ (0 : Int32) = 1) ∧ RD σ321.1 ∧ WI 28 σ321.1 from by first | exact ⟨Or.inl rfl, hD, hW⟩ | exact ⟨Or.inr rfl, hD, hW⟩ | exact ⟨Or.inl hqv320.1, hD, hW⟩ | exact ⟨hqv320.1, hD, hW⟩)⟩
                        · exact ok_rZ (Or.inr rfl) ⟨hT, (show ((1 : Int32) = 0 ∨ (1 : Int32) = 1) ∧ RD σ321.1 ∧ WI 28 σ321.1 from by first | exact ⟨Or.inl rfl, hD, hW⟩ | exact ⟨Or.inr rfl, hD, hW⟩ | exact ⟨Or.inl hqv320.1, hD, hW⟩ | exact ⟨hqv320.1, hD, hW⟩)⟩
                    · refine ok_gC rfl ?_
                      refine ok_zbT (Q := fun V σ => (V = 0 ∨ V = 1) ∧ RD σ.1) hT (s_X5_sum hN (hR.tr hT) (by first | exact hX | exact hT.1.2 hX) (hD) (by have q1 := hD.1; have q2 := hD.2.1; have q3 := hD0.1; have q4 := hD0.2.1; first | omega | decide | (simp only [Int32.le_iff_toInt_le, Int32.lt_iff_toInt_lt, ti_add, ti_sub, ti_mul, Int32.reduceToInt] at *; omega) | (exfalso; simp_all; done)) (by have q1 := hD.1; have q2 := hD.2.1; have q3 := hD0.1; have q4 := hD0.2.1; first | omega | decide | (simp only [Int32.le_iff_toInt_le, Int32.lt_iff_toInt_lt, ti_add, ti_sub, ti_mul, Int32.reduceToInt] at *; omega) | (exfalso; simp_all; done))) (by decide) (fun v323 σ324 hOσ324 hT hqv323 => ?_)
                      have hqv323 : (v323 = 0 ∨ v323 = 1) ∧ RD σ324.1 := hqv323
                      have hD : RD σ324.1 := by first | exact hqv323.2 | exact hqv323.2.1
                      have hW : WI 28 σ324.1 := WI.tr hOσ324 (by decide) (by decide) (by decide) hW
                      refine ok_if (fun hc325 => ?_) (fun hc325 => ?_)
                      · rw [J_X5_readLine_211.eq_1]
                        refine ok_if (fun hc326 => ?_) (fun hc326 => ?_)
                        · exact ok_rZ (Or.inl rfl) ⟨hT, (show ((0 : Int32) = 0 ∨ (0 : Int32) = 1) ∧ RD σ324.1 ∧ WI 28 σ324.1 from by first | exact ⟨Or.inl rfl, hD, hW⟩ | exact ⟨Or.inr rfl, hD, hW⟩ | exact ⟨Or.inl hqv323.1, hD, hW⟩ | exact ⟨hqv323.1, hD, hW⟩)⟩
                        · refine ok_gC rfl ?_
                          refine ok_zbT (Q := fun V σ => (V = 0 ∨ V = 1) ∧ RD σ.1) hT (s_X5_pass hN (hR.tr hT) (by first | exact hX | exact hT.1.2 hX) (hD)) (by decide) (fun v327 σ328 hOσ328 hT hqv327 => ?_)
                          have hqv327 : (v327 = 0 ∨ v327 = 1) ∧ RD σ328.1 := hqv327
                          have hD : RD σ328.1 := by first | exact hqv327.2 | exact hqv327.2.1
                          have hW : WI 28 σ328.1 := WI.tr hOσ328 (by decide) (by decide) (by decide) hW
                          refine ok_if (fun hc329 => ?_) (fun hc329 => ?_)
                          · exact ok_rZ (Or.inl rfl) ⟨hT, (show ((0 : Int32) = 0 ∨ (0 : Int32) = 1) ∧ RD σ328.1 ∧ WI 28 σ328.1 from by first | exact ⟨Or.inl rfl, hD, hW⟩ | exact ⟨Or.inr rfl, hD, hW⟩ | exact ⟨Or.inl hqv327.1, hD, hW⟩ | exact ⟨hqv327.1, hD, hW⟩)⟩
                          · exact ok_rZ (Or.inr rfl) ⟨hT, (show ((1 : Int32) = 0 ∨ (1 : Int32) = 1) ∧ RD σ328.1 ∧ WI 28 σ328.1 from by first | exact ⟨Or.inl rfl, hD, hW⟩ | exact ⟨Or.inr rfl, hD, hW⟩ | exact ⟨Or.inl hqv327.1, hD, hW⟩ | exact ⟨hqv327.1, hD, hW⟩)⟩
                      · refine ok_gC rfl ?_
                        refine ok_zbT (Q := fun V σ => V = 1 ∧ RD σ.1) hT (s_X5_emit hN (hR.tr hT) (by first | exact hX | exact hT.1.2 hX) (hD)) (by decide) (fun v330 σ331 hOσ331 hT hqv330 => ?_)
                        have hqv330 : v330 = 1 ∧ RD σ331.1 := hqv330
                        have hD : RD σ331.1 := by first | exact hqv330.2 | exact hqv330.2.1
                        have hW : WI 28 σ331.1 := WI.tr hOσ331 (by decide) (by decide) (by decide) hW
                        refine ok_if (fun hc332 => ?_) (fun hc332 => ?_)
                        · rw [J_X5_readLine_211.eq_1]
                          refine ok_if (fun hc333 => ?_) (fun hc333 => ?_)
                          · exact ok_rZ (Or.inl rfl) ⟨hT, (show ((0 : Int32) = 0 ∨ (0 : Int32) = 1) ∧ RD σ331.1 ∧ WI 28 σ331.1 from by first | exact ⟨Or.inl rfl, hD, hW⟩ | exact ⟨Or.inr rfl, hD, hW⟩ | exact ⟨Or.inl hqv330.1, hD, hW⟩ | exact ⟨hqv330.1, hD, hW⟩)⟩
                          · refine ok_gC rfl ?_
                            refine ok_zbT (Q := fun V σ => (V = 0 ∨ V = 1) ∧ RD σ.1) hT (s_X5_pass hN (hR.tr hT) (by first | exact hX | exact hT.1.2 hX) (hD)) (by decide) (fun v334 σ335 hOσ335 hT hqv334 => ?_)
                            have hqv334 : (v334 = 0 ∨ v334 = 1) ∧ RD σ335.1 := hqv334
                            have hD : RD σ335.1 := by first | exact hqv334.2 | exact hqv334.2.1
                            have hW : WI 28 σ335.1 := WI.tr hOσ335 (by decide) (by decide) (by decide) hW
                            refine ok_if (fun hc336 => ?_) (fun hc336 => ?_)
                            · exact ok_rZ (Or.inl rfl) ⟨hT, (show ((0 : Int32) = 0 ∨ (0 : Int32) = 1) ∧ RD σ335.1 ∧ WI 28 σ335.1 from by first | exact ⟨Or.inl rfl, hD, hW⟩ | exact ⟨Or.inr rfl, hD, hW⟩ | exact ⟨Or.inl hqv334.1, hD, hW⟩ | exact ⟨hqv334.1, hD, hW⟩)⟩
                            · exact ok_rZ (Or.inr rfl) ⟨hT, (show ((1 : Int32) = 0 ∨ (1 : Int32) = 1) ∧ RD σ335.1 ∧ WI 28 σ335.1 from by first | exact ⟨Or.inl rfl, hD, hW⟩ | exact ⟨Or.inr rfl, hD, hW⟩ | exact ⟨Or.inl hqv334.1, hD, hW⟩ | exact ⟨hqv334.1, hD, hW⟩)⟩
                        · rw [J_X5_readLine_211.eq_1]
                          refine ok_if (fun hc337 => ?_) (fun hc337 => ?_)
                          · exact ok_rZ (Or.inl rfl) ⟨hT, (show ((0 : Int32) = 0 ∨ (0 : Int32) = 1) ∧ RD σ331.1 ∧ WI 28 σ331.1 from by first | exact ⟨Or.inl rfl, hD, hW⟩ | exact ⟨Or.inr rfl, hD, hW⟩ | exact ⟨Or.inl hqv330.1, hD, hW⟩ | exact ⟨hqv330.1, hD, hW⟩)⟩
                          · refine ok_gC rfl ?_
                            refine ok_zbT (Q := fun V σ => (V = 0 ∨ V = 1) ∧ RD σ.1) hT (s_X5_pass hN (hR.tr hT) (by first | exact hX | exact hT.1.2 hX) (hD)) (by decide) (fun v338 σ339 hOσ339 hT hqv338 => ?_)
                            have hqv338 : (v338 = 0 ∨ v338 = 1) ∧ RD σ339.1 := hqv338
                            have hD : RD σ339.1 := by first | exact hqv338.2 | exact hqv338.2.1
                            have hW : WI 28 σ339.1 := WI.tr hOσ339 (by decide) (by decide) (by decide) hW
                            refine ok_if (fun hc340 => ?_) (fun hc340 => ?_)
                            · exact ok_rZ (Or.inl rfl) ⟨hT, (show ((0 : Int32) = 0 ∨ (0 : Int32) = 1) ∧ RD σ339.1 ∧ WI 28 σ339.1 from by first | exact ⟨Or.inl rfl, hD, hW⟩ | exact ⟨Or.inr rfl, hD, hW⟩ | exact ⟨Or.inl hqv338.1, hD, hW⟩ | exact ⟨hqv338.1, hD, hW⟩)⟩
                            · exact ok_rZ (Or.inr rfl) ⟨hT, (show ((1 : Int32) = 0 ∨ (1 : Int32) = 1) ∧ RD σ339.1 ∧ WI 28 σ339.1 from by first | exact ⟨Or.inl rfl, hD, hW⟩ | exact ⟨Or.inr rfl, hD, hW⟩ | exact ⟨Or.inl hqv338.1, hD, hW⟩ | exact ⟨hqv338.1, hD, hW⟩)⟩
                · refine ok_gC rfl ?_
                  refine ok_zbT (Q := fun V σ => V = 0 ∧ RD σ.1) hT (s_X5_fail hN (hR.tr hT) (by first | exact hX | exact hT.1.2 hX) (hD)) (by decide) (fun v341 σ342 hOσ342 hT hqv341 => ?_)
                  have hqv341 : v341 = 0 ∧ RD σ342.1 := hqv341
                  have hD : RD σ342.1 := by first | exact hqv341.2 | exact hqv341.2.1
                  have hW : WI 28 σ342.1 := WI.tr hOσ342 (by decide) (by decide) (by decide) hW
                  exact ok_rZ (by have q := hqv341.1; first | exact q | exact Or.inl q | exact Or.inr q) ⟨hT, (show (v341 = 0 ∨ v341 = 1) ∧ RD σ342.1 ∧ WI 28 σ342.1 from by first | exact ⟨Or.inl rfl, hD, hW⟩ | exact ⟨Or.inr rfl, hD, hW⟩ | exact ⟨Or.inl hqv341.1, hD, hW⟩ | exact ⟨hqv341.1, hD, hW⟩)⟩
              · rw [J_X5_readLine_92.eq_1]
                refine ok_gC rfl ?_
                refine ok_zbT (Q := fun V σ => (V = 0 ∨ V = 1) ∧ RD σ.1) hT (s_X5_pass hN (hR.tr hT) (by first | exact hX | exact hT.1.2 hX) (hD)) (by decide) (fun v343 σ344 hOσ344 hT hqv343 => ?_)
                have hqv343 : (v343 = 0 ∨ v343 = 1) ∧ RD σ344.1 := hqv343
                have hD : RD σ344.1 := by first | exact hqv343.2 | exact hqv343.2.1
                have hW : WI 28 σ344.1 := WI.tr hOσ344 (by decide) (by decide) (by decide) hW
                refine ok_gR (v := 62) hT rfl (hR 57 11 rfl) ?_
                refine ok_gI rfl ?_
                refine ok_aIn rfl (by have q1 := hD.1; have q2 := hD.2.1; have q3 := hD0.1; have q4 := hD0.2.1; first | omega | decide | (simp only [Int32.le_iff_toInt_le, Int32.lt_iff_toInt_lt, ti_add, ti_sub, ti_mul, Int32.reduceToInt] at *; omega) | (exfalso; simp_all; done)) (by have q1 := hD.1; have q2 := hD.2.1; have q3 := hD0.1; have q4 := hD0.2.1; first | omega | decide | (simp only [Int32.le_iff_toInt_le, Int32.lt_iff_toInt_lt, ti_add, ti_sub, ti_mul, Int32.reduceToInt] at *; omega) | (exfalso; simp_all; done)) (fun v347 ev347 => ?_)
                refine ok_if (fun hc348 => ?_) (fun hc348 => ?_)
                · refine ok_gC rfl ?_
                  refine ok_zbT (Q := fun V σ => (V = 0 ∨ V = 1) ∧ RD σ.1 ∧ WI 28 σ.1) hT (s_X5_readNames_28 hN (hR.tr hT) (by first | exact hX | exact hT.1.2 hX) (hD) (hW)) (by decide) (fun v349 σ350 hOσ350 hT hqv349 => ?_)
                  have hqv349 : (v349 = 0 ∨ v349 = 1) ∧ RD σ350.1 ∧ WI 28 σ350.1 := hqv349
                  have hD : RD σ350.1 := by first | exact hqv349.2 | exact hqv349.2.1
                  have hW : WI 28 σ350.1 := by first | exact hqv349.2.2 | exact hqv349
                  rw [J_X5_readLine_211.eq_1]
                  refine ok_if (fun hc351 => ?_) (fun hc351 => ?_)
                  · exact ok_rZ (Or.inl rfl) ⟨hT, (show ((0 : Int32) = 0 ∨ (0 : Int32) = 1) ∧ RD σ350.1 ∧ WI 28 σ350.1 from by first | exact ⟨Or.inl rfl, hD, hW⟩ | exact ⟨Or.inr rfl, hD, hW⟩ | exact ⟨Or.inl hqv349.1, hD, hW⟩ | exact ⟨hqv349.1, hD, hW⟩)⟩
                  · refine ok_gC rfl ?_
                    refine ok_zbT (Q := fun V σ => (V = 0 ∨ V = 1) ∧ RD σ.1) hT (s_X5_pass hN (hR.tr hT) (by first | exact hX | exact hT.1.2 hX) (hD)) (by decide) (fun v352 σ353 hOσ353 hT hqv352 => ?_)
                    have hqv352 : (v352 = 0 ∨ v352 = 1) ∧ RD σ353.1 := hqv352
                    have hD : RD σ353.1 := by first | exact hqv352.2 | exact hqv352.2.1
                    have hW : WI 28 σ353.1 := WI.tr hOσ353 (by decide) (by decide) (by decide) hW
                    refine ok_if (fun hc354 => ?_) (fun hc354 => ?_)
                    · exact ok_rZ (Or.inl rfl) ⟨hT, (show ((0 : Int32) = 0 ∨ (0 : Int32) = 1) ∧ RD σ353.1 ∧ WI 28 σ353.1 from by first | exact ⟨Or.inl rfl, hD, hW⟩ | exact ⟨Or.inr rfl, hD, hW⟩ | exact ⟨Or.inl hqv352.1, hD, hW⟩ | exact ⟨hqv352.1, hD, hW⟩)⟩
                    · exact ok_rZ (Or.inr rfl) ⟨hT, (show ((1 : Int32) = 0 ∨ (1 : Int32) = 1) ∧ RD σ353.1 ∧ WI 28 σ353.1 from by first | exact ⟨Or.inl rfl, hD, hW⟩ | exact ⟨Or.inr rfl, hD, hW⟩ | exact ⟨Or.inl hqv352.1, hD, hW⟩ | exact ⟨hqv352.1, hD, hW⟩)⟩
                refine ok_if (fun hc355 => ?_) (fun hc355 => ?_)
                · refine ok_gC rfl ?_
                  refine ok_zbT (Q := fun V σ => (V = 0 ∨ V = 1) ∧ RD σ.1 ∧ WI 28 σ.1) hT (s_X5_readWeight_28 hN (hR.tr hT) (by first | exact hX | exact hT.1.2 hX) (hD) (hW)) (by decide) (fun v356 σ357 hOσ357 hT hqv356 => ?_)
                  have hqv356 : (v356 = 0 ∨ v356 = 1) ∧ RD σ357.1 ∧ WI 28 σ357.1 := hqv356
                  have hD : RD σ357.1 := by first | exact hqv356.2 | exact hqv356.2.1
                  have hW : WI 28 σ357.1 := WI.tr hOσ357 (by decide) (by decide) (by decide) hW
                  rw [J_X5_readLine_211.eq_1]
                  refine ok_if (fun hc358 => ?_) (fun hc358 => ?_)
                  · exact ok_rZ (Or.inl rfl) ⟨hT, (show ((0 : Int32) = 0 ∨ (0 : Int32) = 1) ∧ RD σ357.1 ∧ WI 28 σ357.1 from by first | exact ⟨Or.inl rfl, hD, hW⟩ | exact ⟨Or.inr rfl, hD, hW⟩ | exact ⟨Or.inl hqv356.1, hD, hW⟩ | exact ⟨hqv356.1, hD, hW⟩)⟩
                  · refine ok_gC rfl ?_
                    refine ok_zbT (Q := fun V σ => (V = 0 ∨ V = 1) ∧ RD σ.1) hT (s_X5_pass hN (hR.tr hT) (by first | exact hX | exact hT.1.2 hX) (hD)) (by decide) (fun v359 σ360 hOσ360 hT hqv359 => ?_)
                    have hqv359 : (v359 = 0 ∨ v359 = 1) ∧ RD σ360.1 := hqv359
                    have hD : RD σ360.1 := by first | exact hqv359.2 | exact hqv359.2.1
                    have hW : WI 28 σ360.1 := WI.tr hOσ360 (by decide) (by decide) (by decide) hW
                    refine ok_if (fun hc361 => ?_) (fun hc361 => ?_)
                    · exact ok_rZ (Or.inl rfl) ⟨hT, (show ((0 : Int32) = 0 ∨ (0 : Int32) = 1) ∧ RD σ360.1 ∧ WI 28 σ360.1 from by first | exact ⟨Or.inl rfl, hD, hW⟩ | exact ⟨Or.inr rfl, hD, hW⟩ | exact ⟨Or.inl hqv359.1, hD, hW⟩ | exact ⟨hqv359.1, hD, hW⟩)⟩
                    · exact ok_rZ (Or.inr rfl) ⟨hT, (show ((1 : Int32) = 0 ∨ (1 : Int32) = 1) ∧ RD σ360.1 ∧ WI 28 σ360.1 from by first | exact ⟨Or.inl rfl, hD, hW⟩ | exact ⟨Or.inr rfl, hD, hW⟩ | exact ⟨Or.inl hqv359.1, hD, hW⟩ | exact ⟨hqv359.1, hD, hW⟩)⟩
                refine ok_if (fun hc362 => ?_) (fun hc362 => ?_)
                · refine ok_gC rfl ?_
                  refine ok_zbT (Q := fun V σ => (V = 0 ∨ V = 1) ∧ RD σ.1 ∧ WI 28 σ.1) hT (s_X5_readEdge_28 hN (hR.tr hT) (by first | exact hX | exact hT.1.2 hX) (hD) (hW)) (by decide) (fun v363 σ364 hOσ364 hT hqv363 => ?_)
                  have hqv363 : (v363 = 0 ∨ v363 = 1) ∧ RD σ364.1 ∧ WI 28 σ364.1 := hqv363
                  have hD : RD σ364.1 := by first | exact hqv363.2 | exact hqv363.2.1
                  have hW : WI 28 σ364.1 := by first | exact hqv363.2.2 | exact hqv363
                  rw [J_X5_readLine_211.eq_1]
                  refine ok_if (fun hc365 => ?_) (fun hc365 => ?_)
                  · exact ok_rZ (Or.inl rfl) ⟨hT, (show ((0 : Int32) = 0 ∨ (0 : Int32) = 1) ∧ RD σ364.1 ∧ WI 28 σ364.1 from by first | exact ⟨Or.inl rfl, hD, hW⟩ | exact ⟨Or.inr rfl, hD, hW⟩ | exact ⟨Or.inl hqv363.1, hD, hW⟩ | exact ⟨hqv363.1, hD, hW⟩)⟩
                  · refine ok_gC rfl ?_
                    refine ok_zbT (Q := fun V σ => (V = 0 ∨ V = 1) ∧ RD σ.1) hT (s_X5_pass hN (hR.tr hT) (by first | exact hX | exact hT.1.2 hX) (hD)) (by decide) (fun v366 σ367 hOσ367 hT hqv366 => ?_)
                    have hqv366 : (v366 = 0 ∨ v366 = 1) ∧ RD σ367.1 := hqv366
                    have hD : RD σ367.1 := by first | exact hqv366.2 | exact hqv366.2.1
                    have hW : WI 28 σ367.1 := WI.tr hOσ367 (by decide) (by decide) (by decide) hW
                    refine ok_if (fun hc368 => ?_) (fun hc368 => ?_)
                    · exact ok_rZ (Or.inl rfl) ⟨hT, (show ((0 : Int32) = 0 ∨ (0 : Int32) = 1) ∧ RD σ367.1 ∧ WI 28 σ367.1 from by first | exact ⟨Or.inl rfl, hD, hW⟩ | exact ⟨Or.inr rfl, hD, hW⟩ | exact ⟨Or.inl hqv366.1, hD, hW⟩ | exact ⟨hqv366.1, hD, hW⟩)⟩
                    · exact ok_rZ (Or.inr rfl) ⟨hT, (show ((1 : Int32) = 0 ∨ (1 : Int32) = 1) ∧ RD σ367.1 ∧ WI 28 σ367.1 from by first | exact ⟨Or.inl rfl, hD, hW⟩ | exact ⟨Or.inr rfl, hD, hW⟩ | exact ⟨Or.inl hqv366.1, hD, hW⟩ | exact ⟨hqv366.1, hD, hW⟩)⟩
                refine ok_gC rfl ?_
                refine ok_zbT (Q := fun V σ => (V = 0 ∨ V = 1) ∧ RD σ.1 ∧ (¬ V = 0 → 1 ≤ (σ.1 57 9).toInt ∧ (0 : Int32).toInt ≤ (lastv σ.1).toInt ∧ (lastv σ.1).toInt ≤ (9 : Int32).toInt)) hT (s_X5_passNumber hN (hR.tr hT) (by first | exact hX | exact hT.1.2 hX) (hD)) (by decide) (fun v369 σ370 hOσ370 hT hqv369 => ?_)
                have hqv369 : (v369 = 0 ∨ v369 = 1) ∧ RD σ370.1 ∧ (¬ v369 = 0 → 1 ≤ (σ370.1 57 9).toInt ∧ (0 : Int32).toInt ≤ (lastv σ370.1).toInt ∧ (lastv σ370.1).toInt ≤ (9 : Int32).toInt) := hqv369
                have hD : RD σ370.1 := by first | exact hqv369.2 | exact hqv369.2.1
                have hW : WI 28 σ370.1 := WI.tr hOσ370 (by decide) (by decide) (by decide) hW
                refine ok_if (fun hc371 => ?_) (fun hc371 => ?_)
                · rw [J_X5_readLine_211.eq_1]
                  refine ok_if (fun hc372 => ?_) (fun hc372 => ?_)
                  · exact ok_rZ (Or.inl rfl) ⟨hT, (show ((0 : Int32) = 0 ∨ (0 : Int32) = 1) ∧ RD σ370.1 ∧ WI 28 σ370.1 from by first | exact ⟨Or.inl rfl, hD, hW⟩ | exact ⟨Or.inr rfl, hD, hW⟩ | exact ⟨Or.inl hqv369.1, hD, hW⟩ | exact ⟨hqv369.1, hD, hW⟩)⟩
                  · refine ok_gC rfl ?_
                    refine ok_zbT (Q := fun V σ => (V = 0 ∨ V = 1) ∧ RD σ.1) hT (s_X5_pass hN (hR.tr hT) (by first | exact hX | exact hT.1.2 hX) (hD)) (by decide) (fun v373 σ374 hOσ374 hT hqv373 => ?_)
                    have hqv373 : (v373 = 0 ∨ v373 = 1) ∧ RD σ374.1 := hqv373
                    have hD : RD σ374.1 := by first | exact hqv373.2 | exact hqv373.2.1
                    have hW : WI 28 σ374.1 := WI.tr hOσ374 (by decide) (by decide) (by decide) hW
                    refine ok_if (fun hc375 => ?_) (fun hc375 => ?_)
                    · exact ok_rZ (Or.inl rfl) ⟨hT, (show ((0 : Int32) = 0 ∨ (0 : Int32) = 1) ∧ RD σ374.1 ∧ WI 28 σ374.1 from by first | exact ⟨Or.inl rfl, hD, hW⟩ | exact ⟨Or.inr rfl, hD, hW⟩ | exact ⟨Or.inl hqv373.1, hD, hW⟩ | exact ⟨hqv373.1, hD, hW⟩)⟩
                    · exact ok_rZ (Or.inr rfl) ⟨hT, (show ((1 : Int32) = 0 ∨ (1 : Int32) = 1) ∧ RD σ374.1 ∧ WI 28 σ374.1 from by first | exact ⟨Or.inl rfl, hD, hW⟩ | exact ⟨Or.inr rfl, hD, hW⟩ | exact ⟨Or.inl hqv373.1, hD, hW⟩ | exact ⟨hqv373.1, hD, hW⟩)⟩
                · refine ok_gC rfl ?_
                  refine ok_zbT (Q := fun V σ => (V = 0 ∨ V = 1) ∧ RD σ.1) hT (s_X5_pass hN (hR.tr hT) (by first | exact hX | exact hT.1.2 hX) (hD)) (by decide) (fun v376 σ377 hOσ377 hT hqv376 => ?_)
                  have hqv376 : (v376 = 0 ∨ v376 = 1) ∧ RD σ377.1 := hqv376
                  have hD : RD σ377.1 := by first | exact hqv376.2 | exact hqv376.2.1
                  have hW : WI 28 σ377.1 := WI.tr hOσ377 (by decide) (by decide) (by decide) hW
                  refine ok_if (fun hc378 => ?_) (fun hc378 => ?_)
                  · rw [J_X5_readLine_211.eq_1]
                    refine ok_if (fun hc379 => ?_) (fun hc379 => ?_)
                    · exact ok_rZ (Or.inl rfl) ⟨hT, (show ((0 : Int32) = 0 ∨ (0 : Int32) = 1) ∧ RD σ377.1 ∧ WI 28 σ377.1 from by first | exact ⟨Or.inl rfl, hD, hW⟩ | exact ⟨Or.inr rfl, hD, hW⟩ | exact ⟨Or.inl hqv376.1, hD, hW⟩ | exact ⟨hqv376.1, hD, hW⟩)⟩
                    · refine ok_gC rfl ?_
                      refine ok_zbT (Q := fun V σ => (V = 0 ∨ V = 1) ∧ RD σ.1) hT (s_X5_pass hN (hR.tr hT) (by first | exact hX | exact hT.1.2 hX) (hD)) (by decide) (fun v380 σ381 hOσ381 hT hqv380 => ?_)
                      have hqv380 : (v380 = 0 ∨ v380 = 1) ∧ RD σ381.1 := hqv380
                      have hD : RD σ381.1 := by first | exact hqv380.2 | exact hqv380.2.1
                      have hW : WI 28 σ381.1 := WI.tr hOσ381 (by decide) (by decide) (by decide) hW
                      refine ok_if (fun hc382 => ?_) (fun hc382 => ?_)
                      · exact ok_rZ (Or.inl rfl) ⟨hT, (show ((0 : Int32) = 0 ∨ (0 : Int32) = 1) ∧ RD σ381.1 ∧ WI 28 σ381.1 from by first | exact ⟨Or.inl rfl, hD, hW⟩ | exact ⟨Or.inr rfl, hD, hW⟩ | exact ⟨Or.inl hqv380.1, hD, hW⟩ | exact ⟨hqv380.1, hD, hW⟩)⟩
                      · exact ok_rZ (Or.inr rfl) ⟨hT, (show ((1 : Int32) = 0 ∨ (1 : Int32) = 1) ∧ RD σ381.1 ∧ WI 28 σ381.1 from by first | exact ⟨Or.inl rfl, hD, hW⟩ | exact ⟨Or.inr rfl, hD, hW⟩ | exact ⟨Or.inl hqv380.1, hD, hW⟩ | exact ⟨hqv380.1, hD, hW⟩)⟩
                  · refine ok_gC rfl ?_
                    refine ok_zbT (Q := fun V σ => (V = 0 ∨ V = 1) ∧ RD σ.1) hT (s_X5_sum hN (hR.tr hT) (by first | exact hX | exact hT.1.2 hX) (hD) (by have q1 := hD.1; have q2 := hD.2.1; have q3 := hD0.1; have q4 := hD0.2.1; first | omega | decide | (simp only [Int32.le_iff_toInt_le, Int32.lt_iff_toInt_lt, ti_add, ti_sub, ti_mul, Int32.reduceToInt] at *; omega) | (exfalso; simp_all; done)) (by have q1 := hD.1; have q2 := hD.2.1; have q3 := hD0.1; have q4 := hD0.2.1; first | omega | decide | (simp only [Int32.le_iff_toInt_le, Int32.lt_iff_toInt_lt, ti_add, ti_sub, ti_mul, Int32.reduceToInt] at *; omega) | (exfalso; simp_all; done))) (by decide) (fun v383 σ384 hOσ384 hT hqv383 => ?_)
                    have hqv383 : (v383 = 0 ∨ v383 = 1) ∧ RD σ384.1 := hqv383
                    have hD : RD σ384.1 := by first | exact hqv383.2 | exact hqv383.2.1
                    have hW : WI 28 σ384.1 := WI.tr hOσ384 (by decide) (by decide) (by decide) hW
                    refine ok_if (fun hc385 => ?_) (fun hc385 => ?_)
                    · rw [J_X5_readLine_211.eq_1]
                      refine ok_if (fun hc386 => ?_) (fun hc386 => ?_)
                      · exact ok_rZ (Or.inl rfl) ⟨hT, (show ((0 : Int32) = 0 ∨ (0 : Int32) = 1) ∧ RD σ384.1 ∧ WI 28 σ384.1 from by first | exact ⟨Or.inl rfl, hD, hW⟩ | exact ⟨Or.inr rfl, hD, hW⟩ | exact ⟨Or.inl hqv383.1, hD, hW⟩ | exact ⟨hqv383.1, hD, hW⟩)⟩
                      · refine ok_gC rfl ?_
                        refine ok_zbT (Q := fun V σ => (V = 0 ∨ V = 1) ∧ RD σ.1) hT (s_X5_pass hN (hR.tr hT) (by first | exact hX | exact hT.1.2 hX) (hD)) (by decide) (fun v387 σ388 hOσ388 hT hqv387 => ?_)
                        have hqv387 : (v387 = 0 ∨ v387 = 1) ∧ RD σ388.1 := hqv387
                        have hD : RD σ388.1 := by first | exact hqv387.2 | exact hqv387.2.1
                        have hW : WI 28 σ388.1 := WI.tr hOσ388 (by decide) (by decide) (by decide) hW
                        refine ok_if (fun hc389 => ?_) (fun hc389 => ?_)
                        · exact ok_rZ (Or.inl rfl) ⟨hT, (show ((0 : Int32) = 0 ∨ (0 : Int32) = 1) ∧ RD σ388.1 ∧ WI 28 σ388.1 from by first | exact ⟨Or.inl rfl, hD, hW⟩ | exact ⟨Or.inr rfl, hD, hW⟩ | exact ⟨Or.inl hqv387.1, hD, hW⟩ | exact ⟨hqv387.1, hD, hW⟩)⟩
                        · exact ok_rZ (Or.inr rfl) ⟨hT, (show ((1 : Int32) = 0 ∨ (1 : Int32) = 1) ∧ RD σ388.1 ∧ WI 28 σ388.1 from by first | exact ⟨Or.inl rfl, hD, hW⟩ | exact ⟨Or.inr rfl, hD, hW⟩ | exact ⟨Or.inl hqv387.1, hD, hW⟩ | exact ⟨hqv387.1, hD, hW⟩)⟩
                    · refine ok_gC rfl ?_
                      refine ok_zbT (Q := fun V σ => V = 1 ∧ RD σ.1) hT (s_X5_emit hN (hR.tr hT) (by first | exact hX | exact hT.1.2 hX) (hD)) (by decide) (fun v390 σ391 hOσ391 hT hqv390 => ?_)
                      have hqv390 : v390 = 1 ∧ RD σ391.1 := hqv390
                      have hD : RD σ391.1 := by first | exact hqv390.2 | exact hqv390.2.1
                      have hW : WI 28 σ391.1 := WI.tr hOσ391 (by decide) (by decide) (by decide) hW
                      refine ok_if (fun hc392 => ?_) (fun hc392 => ?_)
                      · rw [J_X5_readLine_211.eq_1]
                        refine ok_if (fun hc393 => ?_) (fun hc393 => ?_)
                        · exact ok_rZ (Or.inl rfl) ⟨hT, (show ((0 : Int32) = 0 ∨ (0 : Int32) = 1) ∧ RD σ391.1 ∧ WI 28 σ391.1 from by first | exact ⟨Or.inl rfl, hD, hW⟩ | exact ⟨Or.inr rfl, hD, hW⟩ | exact ⟨Or.inl hqv390.1, hD, hW⟩ | exact ⟨hqv390.1, hD, hW⟩)⟩
                        · refine ok_gC rfl ?_
                          refine ok_zbT (Q := fun V σ => (V = 0 ∨ V = 1) ∧ RD σ.1) hT (s_X5_pass hN (hR.tr hT) (by first | exact hX | exact hT.1.2 hX) (hD)) (by decide) (fun v394 σ395 hOσ395 hT hqv394 => ?_)
                          have hqv394 : (v394 = 0 ∨ v394 = 1) ∧ RD σ395.1 := hqv394
                          have hD : RD σ395.1 := by first | exact hqv394.2 | exact hqv394.2.1
                          have hW : WI 28 σ395.1 := WI.tr hOσ395 (by decide) (by decide) (by decide) hW
                          refine ok_if (fun hc396 => ?_) (fun hc396 => ?_)
                          · exact ok_rZ (Or.inl rfl) ⟨hT, (show ((0 : Int32) = 0 ∨ (0 : Int32) = 1) ∧ RD σ395.1 ∧ WI 28 σ395.1 from by first | exact ⟨Or.inl rfl, hD, hW⟩ | exact ⟨Or.inr rfl, hD, hW⟩ | exact ⟨Or.inl hqv394.1, hD, hW⟩ | exact ⟨hqv394.1, hD, hW⟩)⟩
                          · exact ok_rZ (Or.inr rfl) ⟨hT, (show ((1 : Int32) = 0 ∨ (1 : Int32) = 1) ∧ RD σ395.1 ∧ WI 28 σ395.1 from by first | exact ⟨Or.inl rfl, hD, hW⟩ | exact ⟨Or.inr rfl, hD, hW⟩ | exact ⟨Or.inl hqv394.1, hD, hW⟩ | exact ⟨hqv394.1, hD, hW⟩)⟩
                      · rw [J_X5_readLine_211.eq_1]
                        refine ok_if (fun hc397 => ?_) (fun hc397 => ?_)
                        · exact ok_rZ (Or.inl rfl) ⟨hT, (show ((0 : Int32) = 0 ∨ (0 : Int32) = 1) ∧ RD σ391.1 ∧ WI 28 σ391.1 from by first | exact ⟨Or.inl rfl, hD, hW⟩ | exact ⟨Or.inr rfl, hD, hW⟩ | exact ⟨Or.inl hqv390.1, hD, hW⟩ | exact ⟨hqv390.1, hD, hW⟩)⟩
                        · refine ok_gC rfl ?_
                          refine ok_zbT (Q := fun V σ => (V = 0 ∨ V = 1) ∧ RD σ.1) hT (s_X5_pass hN (hR.tr hT) (by first | exact hX | exact hT.1.2 hX) (hD)) (by decide) (fun v398 σ399 hOσ399 hT hqv398 => ?_)
                          have hqv398 : (v398 = 0 ∨ v398 = 1) ∧ RD σ399.1 := hqv398
                          have hD : RD σ399.1 := by first | exact hqv398.2 | exact hqv398.2.1
                          have hW : WI 28 σ399.1 := WI.tr hOσ399 (by decide) (by decide) (by decide) hW
                          refine ok_if (fun hc400 => ?_) (fun hc400 => ?_)
                          · exact ok_rZ (Or.inl rfl) ⟨hT, (show ((0 : Int32) = 0 ∨ (0 : Int32) = 1) ∧ RD σ399.1 ∧ WI 28 σ399.1 from by first | exact ⟨Or.inl rfl, hD, hW⟩ | exact ⟨Or.inr rfl, hD, hW⟩ | exact ⟨Or.inl hqv398.1, hD, hW⟩ | exact ⟨hqv398.1, hD, hW⟩)⟩
                          · exact ok_rZ (Or.inr rfl) ⟨hT, (show ((1 : Int32) = 0 ∨ (1 : Int32) = 1) ∧ RD σ399.1 ∧ WI 28 σ399.1 from by first | exact ⟨Or.inl rfl, hD, hW⟩ | exact ⟨Or.inr rfl, hD, hW⟩ | exact ⟨Or.inl hqv398.1, hD, hW⟩ | exact ⟨hqv398.1, hD, hW⟩)⟩
            · refine ok_gC rfl ?_
              refine ok_zbT (Q := fun V σ => V = 0 ∧ RD σ.1) hT (s_X5_fail hN (hR.tr hT) (by first | exact hX | exact hT.1.2 hX) (hD)) (by decide) (fun v401 σ402 hOσ402 hT hqv401 => ?_)
              have hqv401 : v401 = 0 ∧ RD σ402.1 := hqv401
              have hD : RD σ402.1 := by first | exact hqv401.2 | exact hqv401.2.1
              have hW : WI 28 σ402.1 := WI.tr hOσ402 (by decide) (by decide) (by decide) hW
              exact ok_rZ (by have q := hqv401.1; first | exact q | exact Or.inl q | exact Or.inr q) ⟨hT, (show (v401 = 0 ∨ v401 = 1) ∧ RD σ402.1 ∧ WI 28 σ402.1 from by first | exact ⟨Or.inl rfl, hD, hW⟩ | exact ⟨Or.inr rfl, hD, hW⟩ | exact ⟨Or.inl hqv401.1, hD, hW⟩ | exact ⟨hqv401.1, hD, hW⟩)⟩
        · refine ok_gC rfl ?_
          refine ok_zbT (Q := fun V σ => V = 0 ∧ RD σ.1) hT (s_X5_fail hN (hR.tr hT) (by first | exact hX | exact hT.1.2 hX) (hD)) (by decide) (fun v403 σ404 hOσ404 hT hqv403 => ?_)
          have hqv403 : v403 = 0 ∧ RD σ404.1 := hqv403
          have hD : RD σ404.1 := by first | exact hqv403.2 | exact hqv403.2.1
          have hW : WI 28 σ404.1 := WI.tr hOσ404 (by decide) (by decide) (by decide) hW
          exact ok_rZ (by have q := hqv403.1; first | exact q | exact Or.inl q | exact Or.inr q) ⟨hT, (show (v403 = 0 ∨ v403 = 1) ∧ RD σ404.1 ∧ WI 28 σ404.1 from by first | exact ⟨Or.inl rfl, hD, hW⟩ | exact ⟨Or.inr rfl, hD, hW⟩ | exact ⟨Or.inl hqv403.1, hD, hW⟩ | exact ⟨hqv403.1, hD, hW⟩)⟩
      · rw [J_X5_readLine_51.eq_1]
        refine ok_if (fun hc405 => ?_) (fun hc405 => ?_)
        · refine ok_if (fun hc406 => ?_) (fun hc406 => ?_)
          · refine ok_gC rfl ?_
            refine ok_zbT (Q := fun V σ => V = 0 ∧ RD σ.1) hT (s_X5_fail hN (hR.tr hT) (by first | exact hX | exact hT.1.2 hX) (hD)) (by decide) (fun v407 σ408 hOσ408 hT hqv407 => ?_)
            have hqv407 : v407 = 0 ∧ RD σ408.1 := hqv407
            have hD : RD σ408.1 := by first | exact hqv407.2 | exact hqv407.2.1
            have hW : WI 28 σ408.1 := WI.tr hOσ408 (by decide) (by decide) (by decide) hW
            exact ok_rZ (by have q := hqv407.1; first | exact q | exact Or.inl q | exact Or.inr q) ⟨hT, (show (v407 = 0 ∨ v407 = 1) ∧ RD σ408.1 ∧ WI 28 σ408.1 from by first | exact ⟨Or.inl rfl, hD, hW⟩ | exact ⟨Or.inr rfl, hD, hW⟩ | exact ⟨Or.inl hqv407.1, hD, hW⟩ | exact ⟨hqv407.1, hD, hW⟩)⟩
          · refine ok_if (fun hc409 => ?_) (fun hc409 => ?_)
            · refine ok_if (fun hc410 => ?_) (fun hc410 => ?_)
              · refine ok_gI rfl ?_
                refine ok_gI rfl ?_
                refine ok_if (fun hc413 => ?_) (fun hc413 => ?_)
                · rw [J_X5_readLine_92.eq_1]
                  refine ok_gC rfl ?_
                  refine ok_zbT (Q := fun V σ => (V = 0 ∨ V = 1) ∧ RD σ.1) hT (s_X5_pass hN (hR.tr hT) (by first | exact hX | exact hT.1.2 hX) (hD)) (by decide) (fun v414 σ415 hOσ415 hT hqv414 => ?_)
                  have hqv414 : (v414 = 0 ∨ v414 = 1) ∧ RD σ415.1 := hqv414
                  have hD : RD σ415.1 := by first | exact hqv414.2 | exact hqv414.2.1
                  have hW : WI 28 σ415.1 := WI.tr hOσ415 (by decide) (by decide) (by decide) hW
                  refine ok_gR (v := 62) hT rfl (hR 57 11 rfl) ?_
                  refine ok_gI rfl ?_
                  refine ok_aIn rfl (by have q1 := hD.1; have q2 := hD.2.1; have q3 := hD0.1; have q4 := hD0.2.1; first | omega | decide | (simp only [Int32.le_iff_toInt_le, Int32.lt_iff_toInt_lt, ti_add, ti_sub, ti_mul, Int32.reduceToInt] at *; omega) | (exfalso; simp_all; done)) (by have q1 := hD.1; have q2 := hD.2.1; have q3 := hD0.1; have q4 := hD0.2.1; first | omega | decide | (simp only [Int32.le_iff_toInt_le, Int32.lt_iff_toInt_lt, ti_add, ti_sub, ti_mul, Int32.reduceToInt] at *; omega) | (exfalso; simp_all; done)) (fun v418 ev418 => ?_)
                  refine ok_if (fun hc419 => ?_) (fun hc419 => ?_)
                  · refine ok_gC rfl ?_
                    refine ok_zbT (Q := fun V σ => (V = 0 ∨ V = 1) ∧ RD σ.1 ∧ WI 28 σ.1) hT (s_X5_readNames_28 hN (hR.tr hT) (by first | exact hX | exact hT.1.2 hX) (hD) (hW)) (by decide) (fun v420 σ421 hOσ421 hT hqv420 => ?_)
                    have hqv420 : (v420 = 0 ∨ v420 = 1) ∧ RD σ421.1 ∧ WI 28 σ421.1 := hqv420
                    have hD : RD σ421.1 := by first | exact hqv420.2 | exact hqv420.2.1
                    have hW : WI 28 σ421.1 := by first | exact hqv420.2.2 | exact hqv420
                    rw [J_X5_readLine_211.eq_1]
                    refine ok_if (fun hc422 => ?_) (fun hc422 => ?_)
                    · exact ok_rZ (Or.inl rfl) ⟨hT, (show ((0 : Int32) = 0 ∨ (0 : Int32) = 1) ∧ RD σ421.1 ∧ WI 28 σ421.1 from by first | exact ⟨Or.inl rfl, hD, hW⟩ | exact ⟨Or.inr rfl, hD, hW⟩ | exact ⟨Or.inl hqv420.1, hD, hW⟩ | exact ⟨hqv420.1, hD, hW⟩)⟩
                    · refine ok_gC rfl ?_
                      refine ok_zbT (Q := fun V σ => (V = 0 ∨ V = 1) ∧ RD σ.1) hT (s_X5_pass hN (hR.tr hT) (by first | exact hX | exact hT.1.2 hX) (hD)) (by decide) (fun v423 σ424 hOσ424 hT hqv423 => ?_)
                      have hqv423 : (v423 = 0 ∨ v423 = 1) ∧ RD σ424.1 := hqv423
                      have hD : RD σ424.1 := by first | exact hqv423.2 | exact hqv423.2.1
                      have hW : WI 28 σ424.1 := WI.tr hOσ424 (by decide) (by decide) (by decide) hW
                      refine ok_if (fun hc425 => ?_) (fun hc425 => ?_)
                      · exact ok_rZ (Or.inl rfl) ⟨hT, (show ((0 : Int32) = 0 ∨ (0 : Int32) = 1) ∧ RD σ424.1 ∧ WI 28 σ424.1 from by first | exact ⟨Or.inl rfl, hD, hW⟩ | exact ⟨Or.inr rfl, hD, hW⟩ | exact ⟨Or.inl hqv423.1, hD, hW⟩ | exact ⟨hqv423.1, hD, hW⟩)⟩
                      · exact ok_rZ (Or.inr rfl) ⟨hT, (show ((1 : Int32) = 0 ∨ (1 : Int32) = 1) ∧ RD σ424.1 ∧ WI 28 σ424.1 from by first | exact ⟨Or.inl rfl, hD, hW⟩ | exact ⟨Or.inr rfl, hD, hW⟩ | exact ⟨Or.inl hqv423.1, hD, hW⟩ | exact ⟨hqv423.1, hD, hW⟩)⟩
                  refine ok_if (fun hc426 => ?_) (fun hc426 => ?_)
                  · refine ok_gC rfl ?_
                    refine ok_zbT (Q := fun V σ => (V = 0 ∨ V = 1) ∧ RD σ.1 ∧ WI 28 σ.1) hT (s_X5_readWeight_28 hN (hR.tr hT) (by first | exact hX | exact hT.1.2 hX) (hD) (hW)) (by decide) (fun v427 σ428 hOσ428 hT hqv427 => ?_)
                    have hqv427 : (v427 = 0 ∨ v427 = 1) ∧ RD σ428.1 ∧ WI 28 σ428.1 := hqv427
                    have hD : RD σ428.1 := by first | exact hqv427.2 | exact hqv427.2.1
                    have hW : WI 28 σ428.1 := WI.tr hOσ428 (by decide) (by decide) (by decide) hW
                    rw [J_X5_readLine_211.eq_1]
                    refine ok_if (fun hc429 => ?_) (fun hc429 => ?_)
                    · exact ok_rZ (Or.inl rfl) ⟨hT, (show ((0 : Int32) = 0 ∨ (0 : Int32) = 1) ∧ RD σ428.1 ∧ WI 28 σ428.1 from by first | exact ⟨Or.inl rfl, hD, hW⟩ | exact ⟨Or.inr rfl, hD, hW⟩ | exact ⟨Or.inl hqv427.1, hD, hW⟩ | exact ⟨hqv427.1, hD, hW⟩)⟩
                    · refine ok_gC rfl ?_
                      refine ok_zbT (Q := fun V σ => (V = 0 ∨ V = 1) ∧ RD σ.1) hT (s_X5_pass hN (hR.tr hT) (by first | exact hX | exact hT.1.2 hX) (hD)) (by decide) (fun v430 σ431 hOσ431 hT hqv430 => ?_)
                      have hqv430 : (v430 = 0 ∨ v430 = 1) ∧ RD σ431.1 := hqv430
                      have hD : RD σ431.1 := by first | exact hqv430.2 | exact hqv430.2.1
                      have hW : WI 28 σ431.1 := WI.tr hOσ431 (by decide) (by decide) (by decide) hW
                      refine ok_if (fun hc432 => ?_) (fun hc432 => ?_)
                      · exact ok_rZ (Or.inl rfl) ⟨hT, (show ((0 : Int32) = 0 ∨ (0 : Int32) = 1) ∧ RD σ431.1 ∧ WI 28 σ431.1 from by first | exact ⟨Or.inl rfl, hD, hW⟩ | exact ⟨Or.inr rfl, hD, hW⟩ | exact ⟨Or.inl hqv430.1, hD, hW⟩ | exact ⟨hqv430.1, hD, hW⟩)⟩
                      · exact ok_rZ (Or.inr rfl) ⟨hT, (show ((1 : Int32) = 0 ∨ (1 : Int32) = 1) ∧ RD σ431.1 ∧ WI 28 σ431.1 from by first | exact ⟨Or.inl rfl, hD, hW⟩ | exact ⟨Or.inr rfl, hD, hW⟩ | exact ⟨Or.inl hqv430.1, hD, hW⟩ | exact ⟨hqv430.1, hD, hW⟩)⟩
                  refine ok_if (fun hc433 => ?_) (fun hc433 => ?_)
                  · refine ok_gC rfl ?_
                    refine ok_zbT (Q := fun V σ => (V = 0 ∨ V = 1) ∧ RD σ.1 ∧ WI 28 σ.1) hT (s_X5_readEdge_28 hN (hR.tr hT) (by first | exact hX | exact hT.1.2 hX) (hD) (hW)) (by decide) (fun v434 σ435 hOσ435 hT hqv434 => ?_)
                    have hqv434 : (v434 = 0 ∨ v434 = 1) ∧ RD σ435.1 ∧ WI 28 σ435.1 := hqv434
                    have hD : RD σ435.1 := by first | exact hqv434.2 | exact hqv434.2.1
                    have hW : WI 28 σ435.1 := by first | exact hqv434.2.2 | exact hqv434
                    rw [J_X5_readLine_211.eq_1]
                    refine ok_if (fun hc436 => ?_) (fun hc436 => ?_)
                    · exact ok_rZ (Or.inl rfl) ⟨hT, (show ((0 : Int32) = 0 ∨ (0 : Int32) = 1) ∧ RD σ435.1 ∧ WI 28 σ435.1 from by first | exact ⟨Or.inl rfl, hD, hW⟩ | exact ⟨Or.inr rfl, hD, hW⟩ | exact ⟨Or.inl hqv434.1, hD, hW⟩ | exact ⟨hqv434.1, hD, hW⟩)⟩
                    · refine ok_gC rfl ?_
                      refine ok_zbT (Q := fun V σ => (V = 0 ∨ V = 1) ∧ RD σ.1) hT (s_X5_pass hN (hR.tr hT) (by first | exact hX | exact hT.1.2 hX) (hD)) (by decide) (fun v437 σ438 hOσ438 hT hqv437 => ?_)
                      have hqv437 : (v437 = 0 ∨ v437 = 1) ∧ RD σ438.1 := hqv437
                      have hD : RD σ438.1 := by first | exact hqv437.2 | exact hqv437.2.1
                      have hW : WI 28 σ438.1 := WI.tr hOσ438 (by decide) (by decide) (by decide) hW
                      refine ok_if (fun hc439 => ?_) (fun hc439 => ?_)
                      · exact ok_rZ (Or.inl rfl) ⟨hT, (show ((0 : Int32) = 0 ∨ (0 : Int32) = 1) ∧ RD σ438.1 ∧ WI 28 σ438.1 from by first | exact ⟨Or.inl rfl, hD, hW⟩ | exact ⟨Or.inr rfl, hD, hW⟩ | exact ⟨Or.inl hqv437.1, hD, hW⟩ | exact ⟨hqv437.1, hD, hW⟩)⟩
                      · exact ok_rZ (Or.inr rfl) ⟨hT, (show ((1 : Int32) = 0 ∨ (1 : Int32) = 1) ∧ RD σ438.1 ∧ WI 28 σ438.1 from by first | exact ⟨Or.inl rfl, hD, hW⟩ | exact ⟨Or.inr rfl, hD, hW⟩ | exact ⟨Or.inl hqv437.1, hD, hW⟩ | exact ⟨hqv437.1, hD, hW⟩)⟩
                  refine ok_gC rfl ?_
                  refine ok_zbT (Q := fun V σ => (V = 0 ∨ V = 1) ∧ RD σ.1 ∧ (¬ V = 0 → 1 ≤ (σ.1 57 9).toInt ∧ (0 : Int32).toInt ≤ (lastv σ.1).toInt ∧ (lastv σ.1).toInt ≤ (9 : Int32).toInt)) hT (s_X5_passNumber hN (hR.tr hT) (by first | exact hX | exact hT.1.2 hX) (hD)) (by decide) (fun v440 σ441 hOσ441 hT hqv440 => ?_)
                  have hqv440 : (v440 = 0 ∨ v440 = 1) ∧ RD σ441.1 ∧ (¬ v440 = 0 → 1 ≤ (σ441.1 57 9).toInt ∧ (0 : Int32).toInt ≤ (lastv σ441.1).toInt ∧ (lastv σ441.1).toInt ≤ (9 : Int32).toInt) := hqv440
                  have hD : RD σ441.1 := by first | exact hqv440.2 | exact hqv440.2.1
                  have hW : WI 28 σ441.1 := WI.tr hOσ441 (by decide) (by decide) (by decide) hW
                  refine ok_if (fun hc442 => ?_) (fun hc442 => ?_)
                  · rw [J_X5_readLine_211.eq_1]
                    refine ok_if (fun hc443 => ?_) (fun hc443 => ?_)
                    · exact ok_rZ (Or.inl rfl) ⟨hT, (show ((0 : Int32) = 0 ∨ (0 : Int32) = 1) ∧ RD σ441.1 ∧ WI 28 σ441.1 from by first | exact ⟨Or.inl rfl, hD, hW⟩ | exact ⟨Or.inr rfl, hD, hW⟩ | exact ⟨Or.inl hqv440.1, hD, hW⟩ | exact ⟨hqv440.1, hD, hW⟩)⟩
                    · refine ok_gC rfl ?_
                      refine ok_zbT (Q := fun V σ => (V = 0 ∨ V = 1) ∧ RD σ.1) hT (s_X5_pass hN (hR.tr hT) (by first | exact hX | exact hT.1.2 hX) (hD)) (by decide) (fun v444 σ445 hOσ445 hT hqv444 => ?_)
                      have hqv444 : (v444 = 0 ∨ v444 = 1) ∧ RD σ445.1 := hqv444
                      have hD : RD σ445.1 := by first | exact hqv444.2 | exact hqv444.2.1
                      have hW : WI 28 σ445.1 := WI.tr hOσ445 (by decide) (by decide) (by decide) hW
                      refine ok_if (fun hc446 => ?_) (fun hc446 => ?_)
                      · exact ok_rZ (Or.inl rfl) ⟨hT, (show ((0 : Int32) = 0 ∨ (0 : Int32) = 1) ∧ RD σ445.1 ∧ WI 28 σ445.1 from by first | exact ⟨Or.inl rfl, hD, hW⟩ | exact ⟨Or.inr rfl, hD, hW⟩ | exact ⟨Or.inl hqv444.1, hD, hW⟩ | exact ⟨hqv444.1, hD, hW⟩)⟩
                      · exact ok_rZ (Or.inr rfl) ⟨hT, (show ((1 : Int32) = 0 ∨ (1 : Int32) = 1) ∧ RD σ445.1 ∧ WI 28 σ445.1 from by first | exact ⟨Or.inl rfl, hD, hW⟩ | exact ⟨Or.inr rfl, hD, hW⟩ | exact ⟨Or.inl hqv444.1, hD, hW⟩ | exact ⟨hqv444.1, hD, hW⟩)⟩
                  · refine ok_gC rfl ?_
                    refine ok_zbT (Q := fun V σ => (V = 0 ∨ V = 1) ∧ RD σ.1) hT (s_X5_pass hN (hR.tr hT) (by first | exact hX | exact hT.1.2 hX) (hD)) (by decide) (fun v447 σ448 hOσ448 hT hqv447 => ?_)
                    have hqv447 : (v447 = 0 ∨ v447 = 1) ∧ RD σ448.1 := hqv447
                    have hD : RD σ448.1 := by first | exact hqv447.2 | exact hqv447.2.1
                    have hW : WI 28 σ448.1 := WI.tr hOσ448 (by decide) (by decide) (by decide) hW
                    refine ok_if (fun hc449 => ?_) (fun hc449 => ?_)
                    · rw [J_X5_readLine_211.eq_1]
                      refine ok_if (fun hc450 => ?_) (fun hc450 => ?_)
                      · exact ok_rZ (Or.inl rfl) ⟨hT, (show ((0 : Int32) = 0 ∨ (0 : Int32) = 1) ∧ RD σ448.1 ∧ WI 28 σ448.1 from by first | exact ⟨Or.inl rfl, hD, hW⟩ | exact ⟨Or.inr rfl, hD, hW⟩ | exact ⟨Or.inl hqv447.1, hD, hW⟩ | exact ⟨hqv447.1, hD, hW⟩)⟩
                      · refine ok_gC rfl ?_
                        refine ok_zbT (Q := fun V σ => (V = 0 ∨ V = 1) ∧ RD σ.1) hT (s_X5_pass hN (hR.tr hT) (by first | exact hX | exact hT.1.2 hX) (hD)) (by decide) (fun v451 σ452 hOσ452 hT hqv451 => ?_)
                        have hqv451 : (v451 = 0 ∨ v451 = 1) ∧ RD σ452.1 := hqv451
                        have hD : RD σ452.1 := by first | exact hqv451.2 | exact hqv451.2.1
                        have hW : WI 28 σ452.1 := WI.tr hOσ452 (by decide) (by decide) (by decide) hW
                        refine ok_if (fun hc453 => ?_) (fun hc453 => ?_)
                        · exact ok_rZ (Or.inl rfl) ⟨hT, (show ((0 : Int32) = 0 ∨ (0 : Int32) = 1) ∧ RD σ452.1 ∧ WI 28 σ452.1 from by first | exact ⟨Or.inl rfl, hD, hW⟩ | exact ⟨Or.inr rfl, hD, hW⟩ | exact ⟨Or.inl hqv451.1, hD, hW⟩ | exact ⟨hqv451.1, hD, hW⟩)⟩
                        · exact ok_rZ (Or.inr rfl) ⟨hT, (show ((1 : Int32) = 0 ∨ (1 : Int32) = 1) ∧ RD σ452.1 ∧ WI 28 σ452.1 from by first | exact ⟨Or.inl rfl, hD, hW⟩ | exact ⟨Or.inr rfl, hD, hW⟩ | exact ⟨Or.inl hqv451.1, hD, hW⟩ | exact ⟨hqv451.1, hD, hW⟩)⟩
                    · refine ok_gC rfl ?_
                      refine ok_zbT (Q := fun V σ => (V = 0 ∨ V = 1) ∧ RD σ.1) hT (s_X5_sum hN (hR.tr hT) (by first | exact hX | exact hT.1.2 hX) (hD) (by have q1 := hD.1; have q2 := hD.2.1; have q3 := hD0.1; have q4 := hD0.2.1; first | omega | decide | (simp only [Int32.le_iff_toInt_le, Int32.lt_iff_toInt_lt, ti_add, ti_sub, ti_mul, Int32.reduceToInt] at *; omega) | (exfalso; simp_all; done)) (by have q1 := hD.1; have q2 := hD.2.1; have q3 := hD0.1; have q4 := hD0.2.1; first | omega | decide | (simp only [Int32.le_iff_toInt_le, Int32.lt_iff_toInt_lt, ti_add, ti_sub, ti_mul, Int32.reduceToInt] at *; omega) | (exfalso; simp_all; done))) (by decide) (fun v454 σ455 hOσ455 hT hqv454 => ?_)
                      have hqv454 : (v454 = 0 ∨ v454 = 1) ∧ RD σ455.1 := hqv454
                      have hD : RD σ455.1 := by first | exact hqv454.2 | exact hqv454.2.1
                      have hW : WI 28 σ455.1 := WI.tr hOσ455 (by decide) (by decide) (by decide) hW
                      refine ok_if (fun hc456 => ?_) (fun hc456 => ?_)
                      · rw [J_X5_readLine_211.eq_1]
                        refine ok_if (fun hc457 => ?_) (fun hc457 => ?_)
                        · exact ok_rZ (Or.inl rfl) ⟨hT, (show ((0 : Int32) = 0 ∨ (0 : Int32) = 1) ∧ RD σ455.1 ∧ WI 28 σ455.1 from by first | exact ⟨Or.inl rfl, hD, hW⟩ | exact ⟨Or.inr rfl, hD, hW⟩ | exact ⟨Or.inl hqv454.1, hD, hW⟩ | exact ⟨hqv454.1, hD, hW⟩)⟩
                        · refine ok_gC rfl ?_
                          refine ok_zbT (Q := fun V σ => (V = 0 ∨ V = 1) ∧ RD σ.1) hT (s_X5_pass hN (hR.tr hT) (by first | exact hX | exact hT.1.2 hX) (hD)) (by decide) (fun v458 σ459 hOσ459 hT hqv458 => ?_)
                          have hqv458 : (v458 = 0 ∨ v458 = 1) ∧ RD σ459.1 := hqv458
                          have hD : RD σ459.1 := by first | exact hqv458.2 | exact hqv458.2.1
                          have hW : WI 28 σ459.1 := WI.tr hOσ459 (by decide) (by decide) (by decide) hW
                          refine ok_if (fun hc460 => ?_) (fun hc460 => ?_)
                          · exact ok_rZ (Or.inl rfl) ⟨hT, (show ((0 : Int32) = 0 ∨ (0 : Int32) = 1) ∧ RD σ459.1 ∧ WI 28 σ459.1 from by first | exact ⟨Or.inl rfl, hD, hW⟩ | exact ⟨Or.inr rfl, hD, hW⟩ | exact ⟨Or.inl hqv458.1, hD, hW⟩ | exact ⟨hqv458.1, hD, hW⟩)⟩
                          · exact ok_rZ (Or.inr rfl) ⟨hT, (show ((1 : Int32) = 0 ∨ (1 : Int32) = 1) ∧ RD σ459.1 ∧ WI 28 σ459.1 from by first | exact ⟨Or.inl rfl, hD, hW⟩ | exact ⟨Or.inr rfl, hD, hW⟩ | exact ⟨Or.inl hqv458.1, hD, hW⟩ | exact ⟨hqv458.1, hD, hW⟩)⟩
                      · refine ok_gC rfl ?_
                        refine ok_zbT (Q := fun V σ => V = 1 ∧ RD σ.1) hT (s_X5_emit hN (hR.tr hT) (by first | exact hX | exact hT.1.2 hX) (hD)) (by decide) (fun v461 σ462 hOσ462 hT hqv461 => ?_)
                        have hqv461 : v461 = 1 ∧ RD σ462.1 := hqv461
                        have hD : RD σ462.1 := by first | exact hqv461.2 | exact hqv461.2.1
                        have hW : WI 28 σ462.1 := WI.tr hOσ462 (by decide) (by decide) (by decide) hW
                        refine ok_if (fun hc463 => ?_) (fun hc463 => ?_)
                        · rw [J_X5_readLine_211.eq_1]
                          refine ok_if (fun hc464 => ?_) (fun hc464 => ?_)
                          · exact ok_rZ (Or.inl rfl) ⟨hT, (show ((0 : Int32) = 0 ∨ (0 : Int32) = 1) ∧ RD σ462.1 ∧ WI 28 σ462.1 from by first | exact ⟨Or.inl rfl, hD, hW⟩ | exact ⟨Or.inr rfl, hD, hW⟩ | exact ⟨Or.inl hqv461.1, hD, hW⟩ | exact ⟨hqv461.1, hD, hW⟩)⟩
                          · refine ok_gC rfl ?_
                            refine ok_zbT (Q := fun V σ => (V = 0 ∨ V = 1) ∧ RD σ.1) hT (s_X5_pass hN (hR.tr hT) (by first | exact hX | exact hT.1.2 hX) (hD)) (by decide) (fun v465 σ466 hOσ466 hT hqv465 => ?_)
                            have hqv465 : (v465 = 0 ∨ v465 = 1) ∧ RD σ466.1 := hqv465
                            have hD : RD σ466.1 := by first | exact hqv465.2 | exact hqv465.2.1
                            have hW : WI 28 σ466.1 := WI.tr hOσ466 (by decide) (by decide) (by decide) hW
                            refine ok_if (fun hc467 => ?_) (fun hc467 => ?_)
                            · exact ok_rZ (Or.inl rfl) ⟨hT, (show ((0 : Int32) = 0 ∨ (0 : Int32) = 1) ∧ RD σ466.1 ∧ WI 28 σ466.1 from by first | exact ⟨Or.inl rfl, hD, hW⟩ | exact ⟨Or.inr rfl, hD, hW⟩ | exact ⟨Or.inl hqv465.1, hD, hW⟩ | exact ⟨hqv465.1, hD, hW⟩)⟩
                            · exact ok_rZ (Or.inr rfl) ⟨hT, (show ((1 : Int32) = 0 ∨ (1 : Int32) = 1) ∧ RD σ466.1 ∧ WI 28 σ466.1 from by first | exact ⟨Or.inl rfl, hD, hW⟩ | exact ⟨Or.inr rfl, hD, hW⟩ | exact ⟨Or.inl hqv465.1, hD, hW⟩ | exact ⟨hqv465.1, hD, hW⟩)⟩
                        · rw [J_X5_readLine_211.eq_1]
                          refine ok_if (fun hc468 => ?_) (fun hc468 => ?_)
                          · exact ok_rZ (Or.inl rfl) ⟨hT, (show ((0 : Int32) = 0 ∨ (0 : Int32) = 1) ∧ RD σ462.1 ∧ WI 28 σ462.1 from by first | exact ⟨Or.inl rfl, hD, hW⟩ | exact ⟨Or.inr rfl, hD, hW⟩ | exact ⟨Or.inl hqv461.1, hD, hW⟩ | exact ⟨hqv461.1, hD, hW⟩)⟩
                          · refine ok_gC rfl ?_
                            refine ok_zbT (Q := fun V σ => (V = 0 ∨ V = 1) ∧ RD σ.1) hT (s_X5_pass hN (hR.tr hT) (by first | exact hX | exact hT.1.2 hX) (hD)) (by decide) (fun v469 σ470 hOσ470 hT hqv469 => ?_)
                            have hqv469 : (v469 = 0 ∨ v469 = 1) ∧ RD σ470.1 := hqv469
                            have hD : RD σ470.1 := by first | exact hqv469.2 | exact hqv469.2.1
                            have hW : WI 28 σ470.1 := WI.tr hOσ470 (by decide) (by decide) (by decide) hW
                            refine ok_if (fun hc471 => ?_) (fun hc471 => ?_)
                            · exact ok_rZ (Or.inl rfl) ⟨hT, (show ((0 : Int32) = 0 ∨ (0 : Int32) = 1) ∧ RD σ470.1 ∧ WI 28 σ470.1 from by first | exact ⟨Or.inl rfl, hD, hW⟩ | exact ⟨Or.inr rfl, hD, hW⟩ | exact ⟨Or.inl hqv469.1, hD, hW⟩ | exact ⟨hqv469.1, hD, hW⟩)⟩
                            · exact ok_rZ (Or.inr rfl) ⟨hT, (show ((1 : Int32) = 0 ∨ (1 : Int32) = 1) ∧ RD σ470.1 ∧ WI 28 σ470.1 from by first | exact ⟨Or.inl rfl, hD, hW⟩ | exact ⟨Or.inr rfl, hD, hW⟩ | exact ⟨Or.inl hqv469.1, hD, hW⟩ | exact ⟨hqv469.1, hD, hW⟩)⟩
                · refine ok_gC rfl ?_
                  refine ok_zbT (Q := fun V σ => V = 0 ∧ RD σ.1) hT (s_X5_fail hN (hR.tr hT) (by first | exact hX | exact hT.1.2 hX) (hD)) (by decide) (fun v472 σ473 hOσ473 hT hqv472 => ?_)
                  have hqv472 : v472 = 0 ∧ RD σ473.1 := hqv472
                  have hD : RD σ473.1 := by first | exact hqv472.2 | exact hqv472.2.1
                  have hW : WI 28 σ473.1 := WI.tr hOσ473 (by decide) (by decide) (by decide) hW
                  exact ok_rZ (by have q := hqv472.1; first | exact q | exact Or.inl q | exact Or.inr q) ⟨hT, (show (v472 = 0 ∨ v472 = 1) ∧ RD σ473.1 ∧ WI 28 σ473.1 from by first | exact ⟨Or.inl rfl, hD, hW⟩ | exact ⟨Or.inr rfl, hD, hW⟩ | exact ⟨Or.inl hqv472.1, hD, hW⟩ | exact ⟨hqv472.1, hD, hW⟩)⟩
              · rw [J_X5_readLine_92.eq_1]
                refine ok_gC rfl ?_
                refine ok_zbT (Q := fun V σ => (V = 0 ∨ V = 1) ∧ RD σ.1) hT (s_X5_pass hN (hR.tr hT) (by first | exact hX | exact hT.1.2 hX) (hD)) (by decide) (fun v474 σ475 hOσ475 hT hqv474 => ?_)
                have hqv474 : (v474 = 0 ∨ v474 = 1) ∧ RD σ475.1 := hqv474
                have hD : RD σ475.1 := by first | exact hqv474.2 | exact hqv474.2.1
                have hW : WI 28 σ475.1 := WI.tr hOσ475 (by decide) (by decide) (by decide) hW
                refine ok_gR (v := 62) hT rfl (hR 57 11 rfl) ?_
                refine ok_gI rfl ?_
                refine ok_aIn rfl (by have q1 := hD.1; have q2 := hD.2.1; have q3 := hD0.1; have q4 := hD0.2.1; first | omega | decide | (simp only [Int32.le_iff_toInt_le, Int32.lt_iff_toInt_lt, ti_add, ti_sub, ti_mul, Int32.reduceToInt] at *; omega) | (exfalso; simp_all; done)) (by have q1 := hD.1; have q2 := hD.2.1; have q3 := hD0.1; have q4 := hD0.2.1; first | omega | decide | (simp only [Int32.le_iff_toInt_le, Int32.lt_iff_toInt_lt, ti_add, ti_sub, ti_mul, Int32.reduceToInt] at *; omega) | (exfalso; simp_all; done)) (fun v478 ev478 => ?_)
                refine ok_if (fun hc479 => ?_) (fun hc479 => ?_)
                · refine ok_gC rfl ?_
                  refine ok_zbT (Q := fun V σ => (V = 0 ∨ V = 1) ∧ RD σ.1 ∧ WI 28 σ.1) hT (s_X5_readNames_28 hN (hR.tr hT) (by first | exact hX | exact hT.1.2 hX) (hD) (hW)) (by decide) (fun v480 σ481 hOσ481 hT hqv480 => ?_)
                  have hqv480 : (v480 = 0 ∨ v480 = 1) ∧ RD σ481.1 ∧ WI 28 σ481.1 := hqv480
                  have hD : RD σ481.1 := by first | exact hqv480.2 | exact hqv480.2.1
                  have hW : WI 28 σ481.1 := by first | exact hqv480.2.2 | exact hqv480
                  rw [J_X5_readLine_211.eq_1]
                  refine ok_if (fun hc482 => ?_) (fun hc482 => ?_)
                  · exact ok_rZ (Or.inl rfl) ⟨hT, (show ((0 : Int32) = 0 ∨ (0 : Int32) = 1) ∧ RD σ481.1 ∧ WI 28 σ481.1 from by first | exact ⟨Or.inl rfl, hD, hW⟩ | exact ⟨Or.inr rfl, hD, hW⟩ | exact ⟨Or.inl hqv480.1, hD, hW⟩ | exact ⟨hqv480.1, hD, hW⟩)⟩
                  · refine ok_gC rfl ?_
                    refine ok_zbT (Q := fun V σ => (V = 0 ∨ V = 1) ∧ RD σ.1) hT (s_X5_pass hN (hR.tr hT) (by first | exact hX | exact hT.1.2 hX) (hD)) (by decide) (fun v483 σ484 hOσ484 hT hqv483 => ?_)
                    have hqv483 : (v483 = 0 ∨ v483 = 1) ∧ RD σ484.1 := hqv483
                    have hD : RD σ484.1 := by first | exact hqv483.2 | exact hqv483.2.1
                    have hW : WI 28 σ484.1 := WI.tr hOσ484 (by decide) (by decide) (by decide) hW
                    refine ok_if (fun hc485 => ?_) (fun hc485 => ?_)
                    · exact ok_rZ (Or.inl rfl) ⟨hT, (show ((0 : Int32) = 0 ∨ (0 : Int32) = 1) ∧ RD σ484.1 ∧ WI 28 σ484.1 from by first | exact ⟨Or.inl rfl, hD, hW⟩ | exact ⟨Or.inr rfl, hD, hW⟩ | exact ⟨Or.inl hqv483.1, hD, hW⟩ | exact ⟨hqv483.1, hD, hW⟩)⟩
                    · exact ok_rZ (Or.inr rfl) ⟨hT, (show ((1 : Int32) = 0 ∨ (1 : Int32) = 1) ∧ RD σ484.1 ∧ WI 28 σ484.1 from by first | exact ⟨Or.inl rfl, hD, hW⟩ | exact ⟨Or.inr rfl, hD, hW⟩ | exact ⟨Or.inl hqv483.1, hD, hW⟩ | exact ⟨hqv483.1, hD, hW⟩)⟩
                refine ok_if (fun hc486 => ?_) (fun hc486 => ?_)
                · refine ok_gC rfl ?_
                  refine ok_zbT (Q := fun V σ => (V = 0 ∨ V = 1) ∧ RD σ.1 ∧ WI 28 σ.1) hT (s_X5_readWeight_28 hN (hR.tr hT) (by first | exact hX | exact hT.1.2 hX) (hD) (hW)) (by decide) (fun v487 σ488 hOσ488 hT hqv487 => ?_)
                  have hqv487 : (v487 = 0 ∨ v487 = 1) ∧ RD σ488.1 ∧ WI 28 σ488.1 := hqv487
                  have hD : RD σ488.1 := by first | exact hqv487.2 | exact hqv487.2.1
                  have hW : WI 28 σ488.1 := WI.tr hOσ488 (by decide) (by decide) (by decide) hW
                  rw [J_X5_readLine_211.eq_1]
                  refine ok_if (fun hc489 => ?_) (fun hc489 => ?_)
                  · exact ok_rZ (Or.inl rfl) ⟨hT, (show ((0 : Int32) = 0 ∨ (0 : Int32) = 1) ∧ RD σ488.1 ∧ WI 28 σ488.1 from by first | exact ⟨Or.inl rfl, hD, hW⟩ | exact ⟨Or.inr rfl, hD, hW⟩ | exact ⟨Or.inl hqv487.1, hD, hW⟩ | exact ⟨hqv487.1, hD, hW⟩)⟩
                  · refine ok_gC rfl ?_
                    refine ok_zbT (Q := fun V σ => (V = 0 ∨ V = 1) ∧ RD σ.1) hT (s_X5_pass hN (hR.tr hT) (by first | exact hX | exact hT.1.2 hX) (hD)) (by decide) (fun v490 σ491 hOσ491 hT hqv490 => ?_)
                    have hqv490 : (v490 = 0 ∨ v490 = 1) ∧ RD σ491.1 := hqv490
                    have hD : RD σ491.1 := by first | exact hqv490.2 | exact hqv490.2.1
                    have hW : WI 28 σ491.1 := WI.tr hOσ491 (by decide) (by decide) (by decide) hW
                    refine ok_if (fun hc492 => ?_) (fun hc492 => ?_)
                    · exact ok_rZ (Or.inl rfl) ⟨hT, (show ((0 : Int32) = 0 ∨ (0 : Int32) = 1) ∧ RD σ491.1 ∧ WI 28 σ491.1 from by first | exact ⟨Or.inl rfl, hD, hW⟩ | exact ⟨Or.inr rfl, hD, hW⟩ | exact ⟨Or.inl hqv490.1, hD, hW⟩ | exact ⟨hqv490.1, hD, hW⟩)⟩
                    · exact ok_rZ (Or.inr rfl) ⟨hT, (show ((1 : Int32) = 0 ∨ (1 : Int32) = 1) ∧ RD σ491.1 ∧ WI 28 σ491.1 from by first | exact ⟨Or.inl rfl, hD, hW⟩ | exact ⟨Or.inr rfl, hD, hW⟩ | exact ⟨Or.inl hqv490.1, hD, hW⟩ | exact ⟨hqv490.1, hD, hW⟩)⟩
                refine ok_if (fun hc493 => ?_) (fun hc493 => ?_)
                · refine ok_gC rfl ?_
                  refine ok_zbT (Q := fun V σ => (V = 0 ∨ V = 1) ∧ RD σ.1 ∧ WI 28 σ.1) hT (s_X5_readEdge_28 hN (hR.tr hT) (by first | exact hX | exact hT.1.2 hX) (hD) (hW)) (by decide) (fun v494 σ495 hOσ495 hT hqv494 => ?_)
                  have hqv494 : (v494 = 0 ∨ v494 = 1) ∧ RD σ495.1 ∧ WI 28 σ495.1 := hqv494
                  have hD : RD σ495.1 := by first | exact hqv494.2 | exact hqv494.2.1
                  have hW : WI 28 σ495.1 := by first | exact hqv494.2.2 | exact hqv494
                  rw [J_X5_readLine_211.eq_1]
                  refine ok_if (fun hc496 => ?_) (fun hc496 => ?_)
                  · exact ok_rZ (Or.inl rfl) ⟨hT, (show ((0 : Int32) = 0 ∨ (0 : Int32) = 1) ∧ RD σ495.1 ∧ WI 28 σ495.1 from by first | exact ⟨Or.inl rfl, hD, hW⟩ | exact ⟨Or.inr rfl, hD, hW⟩ | exact ⟨Or.inl hqv494.1, hD, hW⟩ | exact ⟨hqv494.1, hD, hW⟩)⟩
                  · refine ok_gC rfl ?_
                    refine ok_zbT (Q := fun V σ => (V = 0 ∨ V = 1) ∧ RD σ.1) hT (s_X5_pass hN (hR.tr hT) (by first | exact hX | exact hT.1.2 hX) (hD)) (by decide) (fun v497 σ498 hOσ498 hT hqv497 => ?_)
                    have hqv497 : (v497 = 0 ∨ v497 = 1) ∧ RD σ498.1 := hqv497
                    have hD : RD σ498.1 := by first | exact hqv497.2 | exact hqv497.2.1
                    have hW : WI 28 σ498.1 := WI.tr hOσ498 (by decide) (by decide) (by decide) hW
                    refine ok_if (fun hc499 => ?_) (fun hc499 => ?_)
                    · exact ok_rZ (Or.inl rfl) ⟨hT, (show ((0 : Int32) = 0 ∨ (0 : Int32) = 1) ∧ RD σ498.1 ∧ WI 28 σ498.1 from by first | exact ⟨Or.inl rfl, hD, hW⟩ | exact ⟨Or.inr rfl, hD, hW⟩ | exact ⟨Or.inl hqv497.1, hD, hW⟩ | exact ⟨hqv497.1, hD, hW⟩)⟩
                    · exact ok_rZ (Or.inr rfl) ⟨hT, (show ((1 : Int32) = 0 ∨ (1 : Int32) = 1) ∧ RD σ498.1 ∧ WI 28 σ498.1 from by first | exact ⟨Or.inl rfl, hD, hW⟩ | exact ⟨Or.inr rfl, hD, hW⟩ | exact ⟨Or.inl hqv497.1, hD, hW⟩ | exact ⟨hqv497.1, hD, hW⟩)⟩
                refine ok_gC rfl ?_
                refine ok_zbT (Q := fun V σ => (V = 0 ∨ V = 1) ∧ RD σ.1 ∧ (¬ V = 0 → 1 ≤ (σ.1 57 9).toInt ∧ (0 : Int32).toInt ≤ (lastv σ.1).toInt ∧ (lastv σ.1).toInt ≤ (9 : Int32).toInt)) hT (s_X5_passNumber hN (hR.tr hT) (by first | exact hX | exact hT.1.2 hX) (hD)) (by decide) (fun v500 σ501 hOσ501 hT hqv500 => ?_)
                have hqv500 : (v500 = 0 ∨ v500 = 1) ∧ RD σ501.1 ∧ (¬ v500 = 0 → 1 ≤ (σ501.1 57 9).toInt ∧ (0 : Int32).toInt ≤ (lastv σ501.1).toInt ∧ (lastv σ501.1).toInt ≤ (9 : Int32).toInt) := hqv500
                have hD : RD σ501.1 := by first | exact hqv500.2 | exact hqv500.2.1
                have hW : WI 28 σ501.1 := WI.tr hOσ501 (by decide) (by decide) (by decide) hW
                refine ok_if (fun hc502 => ?_) (fun hc502 => ?_)
                · rw [J_X5_readLine_211.eq_1]
                  refine ok_if (fun hc503 => ?_) (fun hc503 => ?_)
                  · exact ok_rZ (Or.inl rfl) ⟨hT, (show ((0 : Int32) = 0 ∨ (0 : Int32) = 1) ∧ RD σ501.1 ∧ WI 28 σ501.1 from by first | exact ⟨Or.inl rfl, hD, hW⟩ | exact ⟨Or.inr rfl, hD, hW⟩ | exact ⟨Or.inl hqv500.1, hD, hW⟩ | exact ⟨hqv500.1, hD, hW⟩)⟩
                  · refine ok_gC rfl ?_
                    refine ok_zbT (Q := fun V σ => (V = 0 ∨ V = 1) ∧ RD σ.1) hT (s_X5_pass hN (hR.tr hT) (by first | exact hX | exact hT.1.2 hX) (hD)) (by decide) (fun v504 σ505 hOσ505 hT hqv504 => ?_)
                    have hqv504 : (v504 = 0 ∨ v504 = 1) ∧ RD σ505.1 := hqv504
                    have hD : RD σ505.1 := by first | exact hqv504.2 | exact hqv504.2.1
                    have hW : WI 28 σ505.1 := WI.tr hOσ505 (by decide) (by decide) (by decide) hW
                    refine ok_if (fun hc506 => ?_) (fun hc506 => ?_)
                    · exact ok_rZ (Or.inl rfl) ⟨hT, (show ((0 : Int32) = 0 ∨ (0 : Int32) = 1) ∧ RD σ505.1 ∧ WI 28 σ505.1 from by first | exact ⟨Or.inl rfl, hD, hW⟩ | exact ⟨Or.inr rfl, hD, hW⟩ | exact ⟨Or.inl hqv504.1, hD, hW⟩ | exact ⟨hqv504.1, hD, hW⟩)⟩
                    · exact ok_rZ (Or.inr rfl) ⟨hT, (show ((1 : Int32) = 0 ∨ (1 : Int32) = 1) ∧ RD σ505.1 ∧ WI 28 σ505.1 from by first | exact ⟨Or.inl rfl, hD, hW⟩ | exact ⟨Or.inr rfl, hD, hW⟩ | exact ⟨Or.inl hqv504.1, hD, hW⟩ | exact ⟨hqv504.1, hD, hW⟩)⟩
                · refine ok_gC rfl ?_
                  refine ok_zbT (Q := fun V σ => (V = 0 ∨ V = 1) ∧ RD σ.1) hT (s_X5_pass hN (hR.tr hT) (by first | exact hX | exact hT.1.2 hX) (hD)) (by decide) (fun v507 σ508 hOσ508 hT hqv507 => ?_)
                  have hqv507 : (v507 = 0 ∨ v507 = 1) ∧ RD σ508.1 := hqv507
                  have hD : RD σ508.1 := by first | exact hqv507.2 | exact hqv507.2.1
                  have hW : WI 28 σ508.1 := WI.tr hOσ508 (by decide) (by decide) (by decide) hW
                  refine ok_if (fun hc509 => ?_) (fun hc509 => ?_)
                  · rw [J_X5_readLine_211.eq_1]
                    refine ok_if (fun hc510 => ?_) (fun hc510 => ?_)
                    · exact ok_rZ (Or.inl rfl) ⟨hT, (show ((0 : Int32) = 0 ∨ (0 : Int32) = 1) ∧ RD σ508.1 ∧ WI 28 σ508.1 from by first | exact ⟨Or.inl rfl, hD, hW⟩ | exact ⟨Or.inr rfl, hD, hW⟩ | exact ⟨Or.inl hqv507.1, hD, hW⟩ | exact ⟨hqv507.1, hD, hW⟩)⟩
                    · refine ok_gC rfl ?_
                      refine ok_zbT (Q := fun V σ => (V = 0 ∨ V = 1) ∧ RD σ.1) hT (s_X5_pass hN (hR.tr hT) (by first | exact hX | exact hT.1.2 hX) (hD)) (by decide) (fun v511 σ512 hOσ512 hT hqv511 => ?_)
                      have hqv511 : (v511 = 0 ∨ v511 = 1) ∧ RD σ512.1 := hqv511
                      have hD : RD σ512.1 := by first | exact hqv511.2 | exact hqv511.2.1
                      have hW : WI 28 σ512.1 := WI.tr hOσ512 (by decide) (by decide) (by decide) hW
                      refine ok_if (fun hc513 => ?_) (fun hc513 => ?_)
                      · exact ok_rZ (Or.inl rfl) ⟨hT, (show ((0 : Int32) = 0 ∨ (0 : Int32) = 1) ∧ RD σ512.1 ∧ WI 28 σ512.1 from by first | exact ⟨Or.inl rfl, hD, hW⟩ | exact ⟨Or.inr rfl, hD, hW⟩ | exact ⟨Or.inl hqv511.1, hD, hW⟩ | exact ⟨hqv511.1, hD, hW⟩)⟩
                      · exact ok_rZ (Or.inr rfl) ⟨hT, (show ((1 : Int32) = 0 ∨ (1 : Int32) = 1) ∧ RD σ512.1 ∧ WI 28 σ512.1 from by first | exact ⟨Or.inl rfl, hD, hW⟩ | exact ⟨Or.inr rfl, hD, hW⟩ | exact ⟨Or.inl hqv511.1, hD, hW⟩ | exact ⟨hqv511.1, hD, hW⟩)⟩
                  · refine ok_gC rfl ?_
                    refine ok_zbT (Q := fun V σ => (V = 0 ∨ V = 1) ∧ RD σ.1) hT (s_X5_sum hN (hR.tr hT) (by first | exact hX | exact hT.1.2 hX) (hD) (by have q1 := hD.1; have q2 := hD.2.1; have q3 := hD0.1; have q4 := hD0.2.1; first | omega | decide | (simp only [Int32.le_iff_toInt_le, Int32.lt_iff_toInt_lt, ti_add, ti_sub, ti_mul, Int32.reduceToInt] at *; omega) | (exfalso; simp_all; done)) (by have q1 := hD.1; have q2 := hD.2.1; have q3 := hD0.1; have q4 := hD0.2.1; first | omega | decide | (simp only [Int32.le_iff_toInt_le, Int32.lt_iff_toInt_lt, ti_add, ti_sub, ti_mul, Int32.reduceToInt] at *; omega) | (exfalso; simp_all; done))) (by decide) (fun v514 σ515 hOσ515 hT hqv514 => ?_)
                    have hqv514 : (v514 = 0 ∨ v514 = 1) ∧ RD σ515.1 := hqv514
                    have hD : RD σ515.1 := by first | exact hqv514.2 | exact hqv514.2.1
                    have hW : WI 28 σ515.1 := WI.tr hOσ515 (by decide) (by decide) (by decide) hW
                    refine ok_if (fun hc516 => ?_) (fun hc516 => ?_)
                    · rw [J_X5_readLine_211.eq_1]
                      refine ok_if (fun hc517 => ?_) (fun hc517 => ?_)
                      · exact ok_rZ (Or.inl rfl) ⟨hT, (show ((0 : Int32) = 0 ∨ (0 : Int32) = 1) ∧ RD σ515.1 ∧ WI 28 σ515.1 from by first | exact ⟨Or.inl rfl, hD, hW⟩ | exact ⟨Or.inr rfl, hD, hW⟩ | exact ⟨Or.inl hqv514.1, hD, hW⟩ | exact ⟨hqv514.1, hD, hW⟩)⟩
                      · refine ok_gC rfl ?_
                        refine ok_zbT (Q := fun V σ => (V = 0 ∨ V = 1) ∧ RD σ.1) hT (s_X5_pass hN (hR.tr hT) (by first | exact hX | exact hT.1.2 hX) (hD)) (by decide) (fun v518 σ519 hOσ519 hT hqv518 => ?_)
                        have hqv518 : (v518 = 0 ∨ v518 = 1) ∧ RD σ519.1 := hqv518
                        have hD : RD σ519.1 := by first | exact hqv518.2 | exact hqv518.2.1
                        have hW : WI 28 σ519.1 := WI.tr hOσ519 (by decide) (by decide) (by decide) hW
                        refine ok_if (fun hc520 => ?_) (fun hc520 => ?_)
                        · exact ok_rZ (Or.inl rfl) ⟨hT, (show ((0 : Int32) = 0 ∨ (0 : Int32) = 1) ∧ RD σ519.1 ∧ WI 28 σ519.1 from by first | exact ⟨Or.inl rfl, hD, hW⟩ | exact ⟨Or.inr rfl, hD, hW⟩ | exact ⟨Or.inl hqv518.1, hD, hW⟩ | exact ⟨hqv518.1, hD, hW⟩)⟩
                        · exact ok_rZ (Or.inr rfl) ⟨hT, (show ((1 : Int32) = 0 ∨ (1 : Int32) = 1) ∧ RD σ519.1 ∧ WI 28 σ519.1 from by first | exact ⟨Or.inl rfl, hD, hW⟩ | exact ⟨Or.inr rfl, hD, hW⟩ | exact ⟨Or.inl hqv518.1, hD, hW⟩ | exact ⟨hqv518.1, hD, hW⟩)⟩
                    · refine ok_gC rfl ?_
                      refine ok_zbT (Q := fun V σ => V = 1 ∧ RD σ.1) hT (s_X5_emit hN (hR.tr hT) (by first | exact hX | exact hT.1.2 hX) (hD)) (by decide) (fun v521 σ522 hOσ522 hT hqv521 => ?_)
                      have hqv521 : v521 = 1 ∧ RD σ522.1 := hqv521
                      have hD : RD σ522.1 := by first | exact hqv521.2 | exact hqv521.2.1
                      have hW : WI 28 σ522.1 := WI.tr hOσ522 (by decide) (by decide) (by decide) hW
                      refine ok_if (fun hc523 => ?_) (fun hc523 => ?_)
                      · rw [J_X5_readLine_211.eq_1]
                        refine ok_if (fun hc524 => ?_) (fun hc524 => ?_)
                        · exact ok_rZ (Or.inl rfl) ⟨hT, (show ((0 : Int32) = 0 ∨ (0 : Int32) = 1) ∧ RD σ522.1 ∧ WI 28 σ522.1 from by first | exact ⟨Or.inl rfl, hD, hW⟩ | exact ⟨Or.inr rfl, hD, hW⟩ | exact ⟨Or.inl hqv521.1, hD, hW⟩ | exact ⟨hqv521.1, hD, hW⟩)⟩
                        · refine ok_gC rfl ?_
                          refine ok_zbT (Q := fun V σ => (V = 0 ∨ V = 1) ∧ RD σ.1) hT (s_X5_pass hN (hR.tr hT) (by first | exact hX | exact hT.1.2 hX) (hD)) (by decide) (fun v525 σ526 hOσ526 hT hqv525 => ?_)
                          have hqv525 : (v525 = 0 ∨ v525 = 1) ∧ RD σ526.1 := hqv525
                          have hD : RD σ526.1 := by first | exact hqv525.2 | exact hqv525.2.1
                          have hW : WI 28 σ526.1 := WI.tr hOσ526 (by decide) (by decide) (by decide) hW
                          refine ok_if (fun hc527 => ?_) (fun hc527 => ?_)
                          · exact ok_rZ (Or.inl rfl) ⟨hT, (show ((0 : Int32) = 0 ∨ (0 : Int32) = 1) ∧ RD σ526.1 ∧ WI 28 σ526.1 from by first | exact ⟨Or.inl rfl, hD, hW⟩ | exact ⟨Or.inr rfl, hD, hW⟩ | exact ⟨Or.inl hqv525.1, hD, hW⟩ | exact ⟨hqv525.1, hD, hW⟩)⟩
                          · exact ok_rZ (Or.inr rfl) ⟨hT, (show ((1 : Int32) = 0 ∨ (1 : Int32) = 1) ∧ RD σ526.1 ∧ WI 28 σ526.1 from by first | exact ⟨Or.inl rfl, hD, hW⟩ | exact ⟨Or.inr rfl, hD, hW⟩ | exact ⟨Or.inl hqv525.1, hD, hW⟩ | exact ⟨hqv525.1, hD, hW⟩)⟩
                      · rw [J_X5_readLine_211.eq_1]
                        refine ok_if (fun hc528 => ?_) (fun hc528 => ?_)
                        · exact ok_rZ (Or.inl rfl) ⟨hT, (show ((0 : Int32) = 0 ∨ (0 : Int32) = 1) ∧ RD σ522.1 ∧ WI 28 σ522.1 from by first | exact ⟨Or.inl rfl, hD, hW⟩ | exact ⟨Or.inr rfl, hD, hW⟩ | exact ⟨Or.inl hqv521.1, hD, hW⟩ | exact ⟨hqv521.1, hD, hW⟩)⟩
                        · refine ok_gC rfl ?_
                          refine ok_zbT (Q := fun V σ => (V = 0 ∨ V = 1) ∧ RD σ.1) hT (s_X5_pass hN (hR.tr hT) (by first | exact hX | exact hT.1.2 hX) (hD)) (by decide) (fun v529 σ530 hOσ530 hT hqv529 => ?_)
                          have hqv529 : (v529 = 0 ∨ v529 = 1) ∧ RD σ530.1 := hqv529
                          have hD : RD σ530.1 := by first | exact hqv529.2 | exact hqv529.2.1
                          have hW : WI 28 σ530.1 := WI.tr hOσ530 (by decide) (by decide) (by decide) hW
                          refine ok_if (fun hc531 => ?_) (fun hc531 => ?_)
                          · exact ok_rZ (Or.inl rfl) ⟨hT, (show ((0 : Int32) = 0 ∨ (0 : Int32) = 1) ∧ RD σ530.1 ∧ WI 28 σ530.1 from by first | exact ⟨Or.inl rfl, hD, hW⟩ | exact ⟨Or.inr rfl, hD, hW⟩ | exact ⟨Or.inl hqv529.1, hD, hW⟩ | exact ⟨hqv529.1, hD, hW⟩)⟩
                          · exact ok_rZ (Or.inr rfl) ⟨hT, (show ((1 : Int32) = 0 ∨ (1 : Int32) = 1) ∧ RD σ530.1 ∧ WI 28 σ530.1 from by first | exact ⟨Or.inl rfl, hD, hW⟩ | exact ⟨Or.inr rfl, hD, hW⟩ | exact ⟨Or.inl hqv529.1, hD, hW⟩ | exact ⟨hqv529.1, hD, hW⟩)⟩
            · refine ok_gC rfl ?_
              refine ok_zbT (Q := fun V σ => V = 0 ∧ RD σ.1) hT (s_X5_fail hN (hR.tr hT) (by first | exact hX | exact hT.1.2 hX) (hD)) (by decide) (fun v532 σ533 hOσ533 hT hqv532 => ?_)
              have hqv532 : v532 = 0 ∧ RD σ533.1 := hqv532
              have hD : RD σ533.1 := by first | exact hqv532.2 | exact hqv532.2.1
              have hW : WI 28 σ533.1 := WI.tr hOσ533 (by decide) (by decide) (by decide) hW
              exact ok_rZ (by have q := hqv532.1; first | exact q | exact Or.inl q | exact Or.inr q) ⟨hT, (show (v532 = 0 ∨ v532 = 1) ∧ RD σ533.1 ∧ WI 28 σ533.1 from by first | exact ⟨Or.inl rfl, hD, hW⟩ | exact ⟨Or.inr rfl, hD, hW⟩ | exact ⟨Or.inl hqv532.1, hD, hW⟩ | exact ⟨hqv532.1, hD, hW⟩)⟩
        · refine ok_gC rfl ?_
          refine ok_zbT (Q := fun V σ => V = 0 ∧ RD σ.1) hT (s_X5_fail hN (hR.tr hT) (by first | exact hX | exact hT.1.2 hX) (hD)) (by decide) (fun v534 σ535 hOσ535 hT hqv534 => ?_)
          have hqv534 : v534 = 0 ∧ RD σ535.1 := hqv534
          have hD : RD σ535.1 := by first | exact hqv534.2 | exact hqv534.2.1
          have hW : WI 28 σ535.1 := WI.tr hOσ535 (by decide) (by decide) (by decide) hW
          exact ok_rZ (by have q := hqv534.1; first | exact q | exact Or.inl q | exact Or.inr q) ⟨hT, (show (v534 = 0 ∨ v534 = 1) ∧ RD σ535.1 ∧ WI 28 σ535.1 from by first | exact ⟨Or.inl rfl, hD, hW⟩ | exact ⟨Or.inr rfl, hD, hW⟩ | exact ⟨Or.inl hqv534.1, hD, hW⟩ | exact ⟨hqv534.1, hD, hW⟩)⟩
  · rw [J_X5_readLine_26.eq_1]
    refine ok_gI rfl ?_
    refine ok_if (fun hc537 => ?_) (fun hc537 => ?_)
    · rw [J_X5_readLine_39.eq_1]
      refine ok_if (fun hc538 => ?_) (fun hc538 => ?_)
      · rw [J_X5_readLine_51.eq_1]
        refine ok_if (fun hc539 => ?_) (fun hc539 => ?_)
        · refine ok_if (fun hc540 => ?_) (fun hc540 => ?_)
          · refine ok_gC rfl ?_
            refine ok_zbT (Q := fun V σ => V = 0 ∧ RD σ.1) hT (s_X5_fail hN (hR.tr hT) (by first | exact hX | exact hT.1.2 hX) (hD)) (by decide) (fun v541 σ542 hOσ542 hT hqv541 => ?_)
            have hqv541 : v541 = 0 ∧ RD σ542.1 := hqv541
            have hD : RD σ542.1 := by first | exact hqv541.2 | exact hqv541.2.1
            have hW : WI 28 σ542.1 := WI.tr hOσ542 (by decide) (by decide) (by decide) hW
            exact ok_rZ (by have q := hqv541.1; first | exact q | exact Or.inl q | exact Or.inr q) ⟨hT, (show (v541 = 0 ∨ v541 = 1) ∧ RD σ542.1 ∧ WI 28 σ542.1 from by first | exact ⟨Or.inl rfl, hD, hW⟩ | exact ⟨Or.inr rfl, hD, hW⟩ | exact ⟨Or.inl hqv541.1, hD, hW⟩ | exact ⟨hqv541.1, hD, hW⟩)⟩
          · refine ok_if (fun hc543 => ?_) (fun hc543 => ?_)
            · refine ok_if (fun hc544 => ?_) (fun hc544 => ?_)
              · refine ok_gI rfl ?_
                refine ok_gI rfl ?_
                refine ok_if (fun hc547 => ?_) (fun hc547 => ?_)
                · rw [J_X5_readLine_92.eq_1]
                  refine ok_gC rfl ?_
                  refine ok_zbT (Q := fun V σ => (V = 0 ∨ V = 1) ∧ RD σ.1) hT (s_X5_pass hN (hR.tr hT) (by first | exact hX | exact hT.1.2 hX) (hD)) (by decide) (fun v548 σ549 hOσ549 hT hqv548 => ?_)
                  have hqv548 : (v548 = 0 ∨ v548 = 1) ∧ RD σ549.1 := hqv548
                  have hD : RD σ549.1 := by first | exact hqv548.2 | exact hqv548.2.1
                  have hW : WI 28 σ549.1 := WI.tr hOσ549 (by decide) (by decide) (by decide) hW
                  refine ok_gR (v := 62) hT rfl (hR 57 11 rfl) ?_
                  refine ok_gI rfl ?_
                  refine ok_aIn rfl (by have q1 := hD.1; have q2 := hD.2.1; have q3 := hD0.1; have q4 := hD0.2.1; first | omega | decide | (simp only [Int32.le_iff_toInt_le, Int32.lt_iff_toInt_lt, ti_add, ti_sub, ti_mul, Int32.reduceToInt] at *; omega) | (exfalso; simp_all; done)) (by have q1 := hD.1; have q2 := hD.2.1; have q3 := hD0.1; have q4 := hD0.2.1; first | omega | decide | (simp only [Int32.le_iff_toInt_le, Int32.lt_iff_toInt_lt, ti_add, ti_sub, ti_mul, Int32.reduceToInt] at *; omega) | (exfalso; simp_all; done)) (fun v552 ev552 => ?_)
                  refine ok_if (fun hc553 => ?_) (fun hc553 => ?_)
                  · refine ok_gC rfl ?_
                    refine ok_zbT (Q := fun V σ => (V = 0 ∨ V = 1) ∧ RD σ.1 ∧ WI 28 σ.1) hT (s_X5_readNames_28 hN (hR.tr hT) (by first | exact hX | exact hT.1.2 hX) (hD) (hW)) (by decide) (fun v554 σ555 hOσ555 hT hqv554 => ?_)
                    have hqv554 : (v554 = 0 ∨ v554 = 1) ∧ RD σ555.1 ∧ WI 28 σ555.1 := hqv554
                    have hD : RD σ555.1 := by first | exact hqv554.2 | exact hqv554.2.1
                    have hW : WI 28 σ555.1 := by first | exact hqv554.2.2 | exact hqv554
                    rw [J_X5_readLine_211.eq_1]
                    refine ok_if (fun hc556 => ?_) (fun hc556 => ?_)
                    · exact ok_rZ (Or.inl rfl) ⟨hT, (show ((0 : Int32) = 0 ∨ (0 : Int32) = 1) ∧ RD σ555.1 ∧ WI 28 σ555.1 from by first | exact ⟨Or.inl rfl, hD, hW⟩ | exact ⟨Or.inr rfl, hD, hW⟩ | exact ⟨Or.inl hqv554.1, hD, hW⟩ | exact ⟨hqv554.1, hD, hW⟩)⟩
                    · refine ok_gC rfl ?_
                      refine ok_zbT (Q := fun V σ => (V = 0 ∨ V = 1) ∧ RD σ.1) hT (s_X5_pass hN (hR.tr hT) (by first | exact hX | exact hT.1.2 hX) (hD)) (by decide) (fun v557 σ558 hOσ558 hT hqv557 => ?_)
                      have hqv557 : (v557 = 0 ∨ v557 = 1) ∧ RD σ558.1 := hqv557
                      have hD : RD σ558.1 := by first | exact hqv557.2 | exact hqv557.2.1
                      have hW : WI 28 σ558.1 := WI.tr hOσ558 (by decide) (by decide) (by decide) hW
                      refine ok_if (fun hc559 => ?_) (fun hc559 => ?_)
                      · exact ok_rZ (Or.inl rfl) ⟨hT, (show ((0 : Int32) = 0 ∨ (0 : Int32) = 1) ∧ RD σ558.1 ∧ WI 28 σ558.1 from by first | exact ⟨Or.inl rfl, hD, hW⟩ | exact ⟨Or.inr rfl, hD, hW⟩ | exact ⟨Or.inl hqv557.1, hD, hW⟩ | exact ⟨hqv557.1, hD, hW⟩)⟩
                      · exact ok_rZ (Or.inr rfl) ⟨hT, (show ((1 : Int32) = 0 ∨ (1 : Int32) = 1) ∧ RD σ558.1 ∧ WI 28 σ558.1 from by first | exact ⟨Or.inl rfl, hD, hW⟩ | exact ⟨Or.inr rfl, hD, hW⟩ | exact ⟨Or.inl hqv557.1, hD, hW⟩ | exact ⟨hqv557.1, hD, hW⟩)⟩
                  refine ok_if (fun hc560 => ?_) (fun hc560 => ?_)
                  · refine ok_gC rfl ?_
                    refine ok_zbT (Q := fun V σ => (V = 0 ∨ V = 1) ∧ RD σ.1 ∧ WI 28 σ.1) hT (s_X5_readWeight_28 hN (hR.tr hT) (by first | exact hX | exact hT.1.2 hX) (hD) (hW)) (by decide) (fun v561 σ562 hOσ562 hT hqv561 => ?_)
                    have hqv561 : (v561 = 0 ∨ v561 = 1) ∧ RD σ562.1 ∧ WI 28 σ562.1 := hqv561
                    have hD : RD σ562.1 := by first | exact hqv561.2 | exact hqv561.2.1
                    have hW : WI 28 σ562.1 := WI.tr hOσ562 (by decide) (by decide) (by decide) hW
                    rw [J_X5_readLine_211.eq_1]
                    refine ok_if (fun hc563 => ?_) (fun hc563 => ?_)
                    · exact ok_rZ (Or.inl rfl) ⟨hT, (show ((0 : Int32) = 0 ∨ (0 : Int32) = 1) ∧ RD σ562.1 ∧ WI 28 σ562.1 from by first | exact ⟨Or.inl rfl, hD, hW⟩ | exact ⟨Or.inr rfl, hD, hW⟩ | exact ⟨Or.inl hqv561.1, hD, hW⟩ | exact ⟨hqv561.1, hD, hW⟩)⟩
                    · refine ok_gC rfl ?_
                      refine ok_zbT (Q := fun V σ => (V = 0 ∨ V = 1) ∧ RD σ.1) hT (s_X5_pass hN (hR.tr hT) (by first | exact hX | exact hT.1.2 hX) (hD)) (by decide) (fun v564 σ565 hOσ565 hT hqv564 => ?_)
                      have hqv564 : (v564 = 0 ∨ v564 = 1) ∧ RD σ565.1 := hqv564
                      have hD : RD σ565.1 := by first | exact hqv564.2 | exact hqv564.2.1
                      have hW : WI 28 σ565.1 := WI.tr hOσ565 (by decide) (by decide) (by decide) hW
                      refine ok_if (fun hc566 => ?_) (fun hc566 => ?_)
                      · exact ok_rZ (Or.inl rfl) ⟨hT, (show ((0 : Int32) = 0 ∨ (0 : Int32) = 1) ∧ RD σ565.1 ∧ WI 28 σ565.1 from by first | exact ⟨Or.inl rfl, hD, hW⟩ | exact ⟨Or.inr rfl, hD, hW⟩ | exact ⟨Or.inl hqv564.1, hD, hW⟩ | exact ⟨hqv564.1, hD, hW⟩)⟩
                      · exact ok_rZ (Or.inr rfl) ⟨hT, (show ((1 : Int32) = 0 ∨ (1 : Int32) = 1) ∧ RD σ565.1 ∧ WI 28 σ565.1 from by first | exact ⟨Or.inl rfl, hD, hW⟩ | exact ⟨Or.inr rfl, hD, hW⟩ | exact ⟨Or.inl hqv564.1, hD, hW⟩ | exact ⟨hqv564.1, hD, hW⟩)⟩
                  refine ok_if (fun hc567 => ?_) (fun hc567 => ?_)
                  · refine ok_gC rfl ?_
                    refine ok_zbT (Q := fun V σ => (V = 0 ∨ V = 1) ∧ RD σ.1 ∧ WI 28 σ.1) hT (s_X5_readEdge_28 hN (hR.tr hT) (by first | exact hX | exact hT.1.2 hX) (hD) (hW)) (by decide) (fun v568 σ569 hOσ569 hT hqv568 => ?_)
                    have hqv568 : (v568 = 0 ∨ v568 = 1) ∧ RD σ569.1 ∧ WI 28 σ569.1 := hqv568
                    have hD : RD σ569.1 := by first | exact hqv568.2 | exact hqv568.2.1
                    have hW : WI 28 σ569.1 := by first | exact hqv568.2.2 | exact hqv568
                    rw [J_X5_readLine_211.eq_1]
                    refine ok_if (fun hc570 => ?_) (fun hc570 => ?_)
                    · exact ok_rZ (Or.inl rfl) ⟨hT, (show ((0 : Int32) = 0 ∨ (0 : Int32) = 1) ∧ RD σ569.1 ∧ WI 28 σ569.1 from by first | exact ⟨Or.inl rfl, hD, hW⟩ | exact ⟨Or.inr rfl, hD, hW⟩ | exact ⟨Or.inl hqv568.1, hD, hW⟩ | exact ⟨hqv568.1, hD, hW⟩)⟩
                    · refine ok_gC rfl ?_
                      refine ok_zbT (Q := fun V σ => (V = 0 ∨ V = 1) ∧ RD σ.1) hT (s_X5_pass hN (hR.tr hT) (by first | exact hX | exact hT.1.2 hX) (hD)) (by decide) (fun v571 σ572 hOσ572 hT hqv571 => ?_)
                      have hqv571 : (v571 = 0 ∨ v571 = 1) ∧ RD σ572.1 := hqv571
                      have hD : RD σ572.1 := by first | exact hqv571.2 | exact hqv571.2.1
                      have hW : WI 28 σ572.1 := WI.tr hOσ572 (by decide) (by decide) (by decide) hW
                      refine ok_if (fun hc573 => ?_) (fun hc573 => ?_)
                      · exact ok_rZ (Or.inl rfl) ⟨hT, (show ((0 : Int32) = 0 ∨ (0 : Int32) = 1) ∧ RD σ572.1 ∧ WI 28 σ572.1 from by first | exact ⟨Or.inl rfl, hD, hW⟩ | exact ⟨Or.inr rfl, hD, hW⟩ | exact ⟨Or.inl hqv571.1, hD, hW⟩ | exact ⟨hqv571.1, hD, hW⟩)⟩
                      · exact ok_rZ (Or.inr rfl) ⟨hT, (show ((1 : Int32) = 0 ∨ (1 : Int32) = 1) ∧ RD σ572.1 ∧ WI 28 σ572.1 from by first | exact ⟨Or.inl rfl, hD, hW⟩ | exact ⟨Or.inr rfl, hD, hW⟩ | exact ⟨Or.inl hqv571.1, hD, hW⟩ | exact ⟨hqv571.1, hD, hW⟩)⟩
                  refine ok_gC rfl ?_
                  refine ok_zbT (Q := fun V σ => (V = 0 ∨ V = 1) ∧ RD σ.1 ∧ (¬ V = 0 → 1 ≤ (σ.1 57 9).toInt ∧ (0 : Int32).toInt ≤ (lastv σ.1).toInt ∧ (lastv σ.1).toInt ≤ (9 : Int32).toInt)) hT (s_X5_passNumber hN (hR.tr hT) (by first | exact hX | exact hT.1.2 hX) (hD)) (by decide) (fun v574 σ575 hOσ575 hT hqv574 => ?_)
                  have hqv574 : (v574 = 0 ∨ v574 = 1) ∧ RD σ575.1 ∧ (¬ v574 = 0 → 1 ≤ (σ575.1 57 9).toInt ∧ (0 : Int32).toInt ≤ (lastv σ575.1).toInt ∧ (lastv σ575.1).toInt ≤ (9 : Int32).toInt) := hqv574
                  have hD : RD σ575.1 := by first | exact hqv574.2 | exact hqv574.2.1
                  have hW : WI 28 σ575.1 := WI.tr hOσ575 (by decide) (by decide) (by decide) hW
                  refine ok_if (fun hc576 => ?_) (fun hc576 => ?_)
                  · rw [J_X5_readLine_211.eq_1]
                    refine ok_if (fun hc577 => ?_) (fun hc577 => ?_)
                    · exact ok_rZ (Or.inl rfl) ⟨hT, (show ((0 : Int32) = 0 ∨ (0 : Int32) = 1) ∧ RD σ575.1 ∧ WI 28 σ575.1 from by first | exact ⟨Or.inl rfl, hD, hW⟩ | exact ⟨Or.inr rfl, hD, hW⟩ | exact ⟨Or.inl hqv574.1, hD, hW⟩ | exact ⟨hqv574.1, hD, hW⟩)⟩
                    · refine ok_gC rfl ?_
                      refine ok_zbT (Q := fun V σ => (V = 0 ∨ V = 1) ∧ RD σ.1) hT (s_X5_pass hN (hR.tr hT) (by first | exact hX | exact hT.1.2 hX) (hD)) (by decide) (fun v578 σ579 hOσ579 hT hqv578 => ?_)
                      have hqv578 : (v578 = 0 ∨ v578 = 1) ∧ RD σ579.1 := hqv578
                      have hD : RD σ579.1 := by first | exact hqv578.2 | exact hqv578.2.1
                      have hW : WI 28 σ579.1 := WI.tr hOσ579 (by decide) (by decide) (by decide) hW
                      refine ok_if (fun hc580 => ?_) (fun hc580 => ?_)
                      · exact ok_rZ (Or.inl rfl) ⟨hT, (show ((0 : Int32) = 0 ∨ (0 : Int32) = 1) ∧ RD σ579.1 ∧ WI 28 σ579.1 from by first | exact ⟨Or.inl rfl, hD, hW⟩ | exact ⟨Or.inr rfl, hD, hW⟩ | exact ⟨Or.inl hqv578.1, hD, hW⟩ | exact ⟨hqv578.1, hD, hW⟩)⟩
                      · exact ok_rZ (Or.inr rfl) ⟨hT, (show ((1 : Int32) = 0 ∨ (1 : Int32) = 1) ∧ RD σ579.1 ∧ WI 28 σ579.1 from by first | exact ⟨Or.inl rfl, hD, hW⟩ | exact ⟨Or.inr rfl, hD, hW⟩ | exact ⟨Or.inl hqv578.1, hD, hW⟩ | exact ⟨hqv578.1, hD, hW⟩)⟩
                  · refine ok_gC rfl ?_
                    refine ok_zbT (Q := fun V σ => (V = 0 ∨ V = 1) ∧ RD σ.1) hT (s_X5_pass hN (hR.tr hT) (by first | exact hX | exact hT.1.2 hX) (hD)) (by decide) (fun v581 σ582 hOσ582 hT hqv581 => ?_)
                    have hqv581 : (v581 = 0 ∨ v581 = 1) ∧ RD σ582.1 := hqv581
                    have hD : RD σ582.1 := by first | exact hqv581.2 | exact hqv581.2.1
                    have hW : WI 28 σ582.1 := WI.tr hOσ582 (by decide) (by decide) (by decide) hW
                    refine ok_if (fun hc583 => ?_) (fun hc583 => ?_)
                    · rw [J_X5_readLine_211.eq_1]
                      refine ok_if (fun hc584 => ?_) (fun hc584 => ?_)
                      · exact ok_rZ (Or.inl rfl) ⟨hT, (show ((0 : Int32) = 0 ∨ (0 : Int32) = 1) ∧ RD σ582.1 ∧ WI 28 σ582.1 from by first | exact ⟨Or.inl rfl, hD, hW⟩ | exact ⟨Or.inr rfl, hD, hW⟩ | exact ⟨Or.inl hqv581.1, hD, hW⟩ | exact ⟨hqv581.1, hD, hW⟩)⟩
                      · refine ok_gC rfl ?_
                        refine ok_zbT (Q := fun V σ => (V = 0 ∨ V = 1) ∧ RD σ.1) hT (s_X5_pass hN (hR.tr hT) (by first | exact hX | exact hT.1.2 hX) (hD)) (by decide) (fun v585 σ586 hOσ586 hT hqv585 => ?_)
                        have hqv585 : (v585 = 0 ∨ v585 = 1) ∧ RD σ586.1 := hqv585
                        have hD : RD σ586.1 := by first | exact hqv585.2 | exact hqv585.2.1
                        have hW : WI 28 σ586.1 := WI.tr hOσ586 (by decide) (by decide) (by decide) hW
                        refine ok_if (fun hc587 => ?_) (fun hc587 => ?_)
                        · exact ok_rZ (Or.inl rfl) ⟨hT, (show ((0 : Int32) = 0 ∨ (0 : Int32) = 1) ∧ RD σ586.1 ∧ WI 28 σ586.1 from by first | exact ⟨Or.inl rfl, hD, hW⟩ | exact ⟨Or.inr rfl, hD, hW⟩ | exact ⟨Or.inl hqv585.1, hD, hW⟩ | exact ⟨hqv585.1, hD, hW⟩)⟩
                        · exact ok_rZ (Or.inr rfl) ⟨hT, (show ((1 : Int32) = 0 ∨ (1 : Int32) = 1) ∧ RD σ586.1 ∧ WI 28 σ586.1 from by first | exact ⟨Or.inl rfl, hD, hW⟩ | exact ⟨Or.inr rfl, hD, hW⟩ | exact ⟨Or.inl hqv585.1, hD, hW⟩ | exact ⟨hqv585.1, hD, hW⟩)⟩
                    · refine ok_gC rfl ?_
                      refine ok_zbT (Q := fun V σ => (V = 0 ∨ V = 1) ∧ RD σ.1) hT (s_X5_sum hN (hR.tr hT) (by first | exact hX | exact hT.1.2 hX) (hD) (by have q1 := hD.1; have q2 := hD.2.1; have q3 := hD0.1; have q4 := hD0.2.1; first | omega | decide | (simp only [Int32.le_iff_toInt_le, Int32.lt_iff_toInt_lt, ti_add, ti_sub, ti_mul, Int32.reduceToInt] at *; omega) | (exfalso; simp_all; done)) (by have q1 := hD.1; have q2 := hD.2.1; have q3 := hD0.1; have q4 := hD0.2.1; first | omega | decide | (simp only [Int32.le_iff_toInt_le, Int32.lt_iff_toInt_lt, ti_add, ti_sub, ti_mul, Int32.reduceToInt] at *; omega) | (exfalso; simp_all; done))) (by decide) (fun v588 σ589 hOσ589 hT hqv588 => ?_)
                      have hqv588 : (v588 = 0 ∨ v588 = 1) ∧ RD σ589.1 := hqv588
                      have hD : RD σ589.1 := by first | exact hqv588.2 | exact hqv588.2.1
                      have hW : WI 28 σ589.1 := WI.tr hOσ589 (by decide) (by decide) (by decide) hW
                      refine ok_if (fun hc590 => ?_) (fun hc590 => ?_)
                      · rw [J_X5_readLine_211.eq_1]
                        refine ok_if (fun hc591 => ?_) (fun hc591 => ?_)
                        · exact ok_rZ (Or.inl rfl) ⟨hT, (show ((0 : Int32) = 0 ∨ (0 : Int32) = 1) ∧ RD σ589.1 ∧ WI 28 σ589.1 from by first | exact ⟨Or.inl rfl, hD, hW⟩ | exact ⟨Or.inr rfl, hD, hW⟩ | exact ⟨Or.inl hqv588.1, hD, hW⟩ | exact ⟨hqv588.1, hD, hW⟩)⟩
                        · refine ok_gC rfl ?_
                          refine ok_zbT (Q := fun V σ => (V = 0 ∨ V = 1) ∧ RD σ.1) hT (s_X5_pass hN (hR.tr hT) (by first | exact hX | exact hT.1.2 hX) (hD)) (by decide) (fun v592 σ593 hOσ593 hT hqv592 => ?_)
                          have hqv592 : (v592 = 0 ∨ v592 = 1) ∧ RD σ593.1 := hqv592
                          have hD : RD σ593.1 := by first | exact hqv592.2 | exact hqv592.2.1
                          have hW : WI 28 σ593.1 := WI.tr hOσ593 (by decide) (by decide) (by decide) hW
                          refine ok_if (fun hc594 => ?_) (fun hc594 => ?_)
                          · exact ok_rZ (Or.inl rfl) ⟨hT, (show ((0 : Int32) = 0 ∨ (0 : Int32) = 1) ∧ RD σ593.1 ∧ WI 28 σ593.1 from by first | exact ⟨Or.inl rfl, hD, hW⟩ | exact ⟨Or.inr rfl, hD, hW⟩ | exact ⟨Or.inl hqv592.1, hD, hW⟩ | exact ⟨hqv592.1, hD, hW⟩)⟩
                          · exact ok_rZ (Or.inr rfl) ⟨hT, (show ((1 : Int32) = 0 ∨ (1 : Int32) = 1) ∧ RD σ593.1 ∧ WI 28 σ593.1 from by first | exact ⟨Or.inl rfl, hD, hW⟩ | exact ⟨Or.inr rfl, hD, hW⟩ | exact ⟨Or.inl hqv592.1, hD, hW⟩ | exact ⟨hqv592.1, hD, hW⟩)⟩
                      · refine ok_gC rfl ?_
                        refine ok_zbT (Q := fun V σ => V = 1 ∧ RD σ.1) hT (s_X5_emit hN (hR.tr hT) (by first | exact hX | exact hT.1.2 hX) (hD)) (by decide) (fun v595 σ596 hOσ596 hT hqv595 => ?_)
                        have hqv595 : v595 = 1 ∧ RD σ596.1 := hqv595
                        have hD : RD σ596.1 := by first | exact hqv595.2 | exact hqv595.2.1
                        have hW : WI 28 σ596.1 := WI.tr hOσ596 (by decide) (by decide) (by decide) hW
                        refine ok_if (fun hc597 => ?_) (fun hc597 => ?_)
                        · rw [J_X5_readLine_211.eq_1]
                          refine ok_if (fun hc598 => ?_) (fun hc598 => ?_)
                          · exact ok_rZ (Or.inl rfl) ⟨hT, (show ((0 : Int32) = 0 ∨ (0 : Int32) = 1) ∧ RD σ596.1 ∧ WI 28 σ596.1 from by first | exact ⟨Or.inl rfl, hD, hW⟩ | exact ⟨Or.inr rfl, hD, hW⟩ | exact ⟨Or.inl hqv595.1, hD, hW⟩ | exact ⟨hqv595.1, hD, hW⟩)⟩
                          · refine ok_gC rfl ?_
                            refine ok_zbT (Q := fun V σ => (V = 0 ∨ V = 1) ∧ RD σ.1) hT (s_X5_pass hN (hR.tr hT) (by first | exact hX | exact hT.1.2 hX) (hD)) (by decide) (fun v599 σ600 hOσ600 hT hqv599 => ?_)
                            have hqv599 : (v599 = 0 ∨ v599 = 1) ∧ RD σ600.1 := hqv599
                            have hD : RD σ600.1 := by first | exact hqv599.2 | exact hqv599.2.1
                            have hW : WI 28 σ600.1 := WI.tr hOσ600 (by decide) (by decide) (by decide) hW
                            refine ok_if (fun hc601 => ?_) (fun hc601 => ?_)
                            · exact ok_rZ (Or.inl rfl) ⟨hT, (show ((0 : Int32) = 0 ∨ (0 : Int32) = 1) ∧ RD σ600.1 ∧ WI 28 σ600.1 from by first | exact ⟨Or.inl rfl, hD, hW⟩ | exact ⟨Or.inr rfl, hD, hW⟩ | exact ⟨Or.inl hqv599.1, hD, hW⟩ | exact ⟨hqv599.1, hD, hW⟩)⟩
                            · exact ok_rZ (Or.inr rfl) ⟨hT, (show ((1 : Int32) = 0 ∨ (1 : Int32) = 1) ∧ RD σ600.1 ∧ WI 28 σ600.1 from by first | exact ⟨Or.inl rfl, hD, hW⟩ | exact ⟨Or.inr rfl, hD, hW⟩ | exact ⟨Or.inl hqv599.1, hD, hW⟩ | exact ⟨hqv599.1, hD, hW⟩)⟩
                        · rw [J_X5_readLine_211.eq_1]
                          refine ok_if (fun hc602 => ?_) (fun hc602 => ?_)
                          · exact ok_rZ (Or.inl rfl) ⟨hT, (show ((0 : Int32) = 0 ∨ (0 : Int32) = 1) ∧ RD σ596.1 ∧ WI 28 σ596.1 from by first | exact ⟨Or.inl rfl, hD, hW⟩ | exact ⟨Or.inr rfl, hD, hW⟩ | exact ⟨Or.inl hqv595.1, hD, hW⟩ | exact ⟨hqv595.1, hD, hW⟩)⟩
                          · refine ok_gC rfl ?_
                            refine ok_zbT (Q := fun V σ => (V = 0 ∨ V = 1) ∧ RD σ.1) hT (s_X5_pass hN (hR.tr hT) (by first | exact hX | exact hT.1.2 hX) (hD)) (by decide) (fun v603 σ604 hOσ604 hT hqv603 => ?_)
                            have hqv603 : (v603 = 0 ∨ v603 = 1) ∧ RD σ604.1 := hqv603
                            have hD : RD σ604.1 := by first | exact hqv603.2 | exact hqv603.2.1
                            have hW : WI 28 σ604.1 := WI.tr hOσ604 (by decide) (by decide) (by decide) hW
                            refine ok_if (fun hc605 => ?_) (fun hc605 => ?_)
                            · exact ok_rZ (Or.inl rfl) ⟨hT, (show ((0 : Int32) = 0 ∨ (0 : Int32) = 1) ∧ RD σ604.1 ∧ WI 28 σ604.1 from by first | exact ⟨Or.inl rfl, hD, hW⟩ | exact ⟨Or.inr rfl, hD, hW⟩ | exact ⟨Or.inl hqv603.1, hD, hW⟩ | exact ⟨hqv603.1, hD, hW⟩)⟩
                            · exact ok_rZ (Or.inr rfl) ⟨hT, (show ((1 : Int32) = 0 ∨ (1 : Int32) = 1) ∧ RD σ604.1 ∧ WI 28 σ604.1 from by first | exact ⟨Or.inl rfl, hD, hW⟩ | exact ⟨Or.inr rfl, hD, hW⟩ | exact ⟨Or.inl hqv603.1, hD, hW⟩ | exact ⟨hqv603.1, hD, hW⟩)⟩
                · refine ok_gC rfl ?_
                  refine ok_zbT (Q := fun V σ => V = 0 ∧ RD σ.1) hT (s_X5_fail hN (hR.tr hT) (by first | exact hX | exact hT.1.2 hX) (hD)) (by decide) (fun v606 σ607 hOσ607 hT hqv606 => ?_)
                  have hqv606 : v606 = 0 ∧ RD σ607.1 := hqv606
                  have hD : RD σ607.1 := by first | exact hqv606.2 | exact hqv606.2.1
                  have hW : WI 28 σ607.1 := WI.tr hOσ607 (by decide) (by decide) (by decide) hW
                  exact ok_rZ (by have q := hqv606.1; first | exact q | exact Or.inl q | exact Or.inr q) ⟨hT, (show (v606 = 0 ∨ v606 = 1) ∧ RD σ607.1 ∧ WI 28 σ607.1 from by first | exact ⟨Or.inl rfl, hD, hW⟩ | exact ⟨Or.inr rfl, hD, hW⟩ | exact ⟨Or.inl hqv606.1, hD, hW⟩ | exact ⟨hqv606.1, hD, hW⟩)⟩
              · rw [J_X5_readLine_92.eq_1]
                refine ok_gC rfl ?_
                refine ok_zbT (Q := fun V σ => (V = 0 ∨ V = 1) ∧ RD σ.1) hT (s_X5_pass hN (hR.tr hT) (by first | exact hX | exact hT.1.2 hX) (hD)) (by decide) (fun v608 σ609 hOσ609 hT hqv608 => ?_)
                have hqv608 : (v608 = 0 ∨ v608 = 1) ∧ RD σ609.1 := hqv608
                have hD : RD σ609.1 := by first | exact hqv608.2 | exact hqv608.2.1
                have hW : WI 28 σ609.1 := WI.tr hOσ609 (by decide) (by decide) (by decide) hW
                refine ok_gR (v := 62) hT rfl (hR 57 11 rfl) ?_
                refine ok_gI rfl ?_
                refine ok_aIn rfl (by have q1 := hD.1; have q2 := hD.2.1; have q3 := hD0.1; have q4 := hD0.2.1; first | omega | decide | (simp only [Int32.le_iff_toInt_le, Int32.lt_iff_toInt_lt, ti_add, ti_sub, ti_mul, Int32.reduceToInt] at *; omega) | (exfalso; simp_all; done)) (by have q1 := hD.1; have q2 := hD.2.1; have q3 := hD0.1; have q4 := hD0.2.1; first | omega | decide | (simp only [Int32.le_iff_toInt_le, Int32.lt_iff_toInt_lt, ti_add, ti_sub, ti_mul, Int32.reduceToInt] at *; omega) | (exfalso; simp_all; done)) (fun v612 ev612 => ?_)
                refine ok_if (fun hc613 => ?_) (fun hc613 => ?_)
                · refine ok_gC rfl ?_
                  refine ok_zbT (Q := fun V σ => (V = 0 ∨ V = 1) ∧ RD σ.1 ∧ WI 28 σ.1) hT (s_X5_readNames_28 hN (hR.tr hT) (by first | exact hX | exact hT.1.2 hX) (hD) (hW)) (by decide) (fun v614 σ615 hOσ615 hT hqv614 => ?_)
                  have hqv614 : (v614 = 0 ∨ v614 = 1) ∧ RD σ615.1 ∧ WI 28 σ615.1 := hqv614
                  have hD : RD σ615.1 := by first | exact hqv614.2 | exact hqv614.2.1
                  have hW : WI 28 σ615.1 := by first | exact hqv614.2.2 | exact hqv614
                  rw [J_X5_readLine_211.eq_1]
                  refine ok_if (fun hc616 => ?_) (fun hc616 => ?_)
                  · exact ok_rZ (Or.inl rfl) ⟨hT, (show ((0 : Int32) = 0 ∨ (0 : Int32) = 1) ∧ RD σ615.1 ∧ WI 28 σ615.1 from by first | exact ⟨Or.inl rfl, hD, hW⟩ | exact ⟨Or.inr rfl, hD, hW⟩ | exact ⟨Or.inl hqv614.1, hD, hW⟩ | exact ⟨hqv614.1, hD, hW⟩)⟩
                  · refine ok_gC rfl ?_
                    refine ok_zbT (Q := fun V σ => (V = 0 ∨ V = 1) ∧ RD σ.1) hT (s_X5_pass hN (hR.tr hT) (by first | exact hX | exact hT.1.2 hX) (hD)) (by decide) (fun v617 σ618 hOσ618 hT hqv617 => ?_)
                    have hqv617 : (v617 = 0 ∨ v617 = 1) ∧ RD σ618.1 := hqv617
                    have hD : RD σ618.1 := by first | exact hqv617.2 | exact hqv617.2.1
                    have hW : WI 28 σ618.1 := WI.tr hOσ618 (by decide) (by decide) (by decide) hW
                    refine ok_if (fun hc619 => ?_) (fun hc619 => ?_)
                    · exact ok_rZ (Or.inl rfl) ⟨hT, (show ((0 : Int32) = 0 ∨ (0 : Int32) = 1) ∧ RD σ618.1 ∧ WI 28 σ618.1 from by first | exact ⟨Or.inl rfl, hD, hW⟩ | exact ⟨Or.inr rfl, hD, hW⟩ | exact ⟨Or.inl hqv617.1, hD, hW⟩ | exact ⟨hqv617.1, hD, hW⟩)⟩
                    · exact ok_rZ (Or.inr rfl) ⟨hT, (show ((1 : Int32) = 0 ∨ (1 : Int32) = 1) ∧ RD σ618.1 ∧ WI 28 σ618.1 from by first | exact ⟨Or.inl rfl, hD, hW⟩ | exact ⟨Or.inr rfl, hD, hW⟩ | exact ⟨Or.inl hqv617.1, hD, hW⟩ | exact ⟨hqv617.1, hD, hW⟩)⟩
                refine ok_if (fun hc620 => ?_) (fun hc620 => ?_)
                · refine ok_gC rfl ?_
                  refine ok_zbT (Q := fun V σ => (V = 0 ∨ V = 1) ∧ RD σ.1 ∧ WI 28 σ.1) hT (s_X5_readWeight_28 hN (hR.tr hT) (by first | exact hX | exact hT.1.2 hX) (hD) (hW)) (by decide) (fun v621 σ622 hOσ622 hT hqv621 => ?_)
                  have hqv621 : (v621 = 0 ∨ v621 = 1) ∧ RD σ622.1 ∧ WI 28 σ622.1 := hqv621
                  have hD : RD σ622.1 := by first | exact hqv621.2 | exact hqv621.2.1
                  have hW : WI 28 σ622.1 := WI.tr hOσ622 (by decide) (by decide) (by decide) hW
                  rw [J_X5_readLine_211.eq_1]
                  refine ok_if (fun hc623 => ?_) (fun hc623 => ?_)
                  · exact ok_rZ (Or.inl rfl) ⟨hT, (show ((0 : Int32) = 0 ∨ (0 : Int32) = 1) ∧ RD σ622.1 ∧ WI 28 σ622.1 from by first | exact ⟨Or.inl rfl, hD, hW⟩ | exact ⟨Or.inr rfl, hD, hW⟩ | exact ⟨Or.inl hqv621.1, hD, hW⟩ | exact ⟨hqv621.1, hD, hW⟩)⟩
                  · refine ok_gC rfl ?_
                    refine ok_zbT (Q := fun V σ => (V = 0 ∨ V = 1) ∧ RD σ.1) hT (s_X5_pass hN (hR.tr hT) (by first | exact hX | exact hT.1.2 hX) (hD)) (by decide) (fun v624 σ625 hOσ625 hT hqv624 => ?_)
                    have hqv624 : (v624 = 0 ∨ v624 = 1) ∧ RD σ625.1 := hqv624
                    have hD : RD σ625.1 := by first | exact hqv624.2 | exact hqv624.2.1
                    have hW : WI 28 σ625.1 := WI.tr hOσ625 (by decide) (by decide) (by decide) hW
                    refine ok_if (fun hc626 => ?_) (fun hc626 => ?_)
                    · exact ok_rZ (Or.inl rfl) ⟨hT, (show ((0 : Int32) = 0 ∨ (0 : Int32) = 1) ∧ RD σ625.1 ∧ WI 28 σ625.1 from by first | exact ⟨Or.inl rfl, hD, hW⟩ | exact ⟨Or.inr rfl, hD, hW⟩ | exact ⟨Or.inl hqv624.1, hD, hW⟩ | exact ⟨hqv624.1, hD, hW⟩)⟩
                    · exact ok_rZ (Or.inr rfl) ⟨hT, (show ((1 : Int32) = 0 ∨ (1 : Int32) = 1) ∧ RD σ625.1 ∧ WI 28 σ625.1 from by first | exact ⟨Or.inl rfl, hD, hW⟩ | exact ⟨Or.inr rfl, hD, hW⟩ | exact ⟨Or.inl hqv624.1, hD, hW⟩ | exact ⟨hqv624.1, hD, hW⟩)⟩
                refine ok_if (fun hc627 => ?_) (fun hc627 => ?_)
                · refine ok_gC rfl ?_
                  refine ok_zbT (Q := fun V σ => (V = 0 ∨ V = 1) ∧ RD σ.1 ∧ WI 28 σ.1) hT (s_X5_readEdge_28 hN (hR.tr hT) (by first | exact hX | exact hT.1.2 hX) (hD) (hW)) (by decide) (fun v628 σ629 hOσ629 hT hqv628 => ?_)
                  have hqv628 : (v628 = 0 ∨ v628 = 1) ∧ RD σ629.1 ∧ WI 28 σ629.1 := hqv628
                  have hD : RD σ629.1 := by first | exact hqv628.2 | exact hqv628.2.1
                  have hW : WI 28 σ629.1 := by first | exact hqv628.2.2 | exact hqv628
                  rw [J_X5_readLine_211.eq_1]
                  refine ok_if (fun hc630 => ?_) (fun hc630 => ?_)
                  · exact ok_rZ (Or.inl rfl) ⟨hT, (show ((0 : Int32) = 0 ∨ (0 : Int32) = 1) ∧ RD σ629.1 ∧ WI 28 σ629.1 from by first | exact ⟨Or.inl rfl, hD, hW⟩ | exact ⟨Or.inr rfl, hD, hW⟩ | exact ⟨Or.inl hqv628.1, hD, hW⟩ | exact ⟨hqv628.1, hD, hW⟩)⟩
                  · refine ok_gC rfl ?_
                    refine ok_zbT (Q := fun V σ => (V = 0 ∨ V = 1) ∧ RD σ.1) hT (s_X5_pass hN (hR.tr hT) (by first | exact hX | exact hT.1.2 hX) (hD)) (by decide) (fun v631 σ632 hOσ632 hT hqv631 => ?_)
                    have hqv631 : (v631 = 0 ∨ v631 = 1) ∧ RD σ632.1 := hqv631
                    have hD : RD σ632.1 := by first | exact hqv631.2 | exact hqv631.2.1
                    have hW : WI 28 σ632.1 := WI.tr hOσ632 (by decide) (by decide) (by decide) hW
                    refine ok_if (fun hc633 => ?_) (fun hc633 => ?_)
                    · exact ok_rZ (Or.inl rfl) ⟨hT, (show ((0 : Int32) = 0 ∨ (0 : Int32) = 1) ∧ RD σ632.1 ∧ WI 28 σ632.1 from by first | exact ⟨Or.inl rfl, hD, hW⟩ | exact ⟨Or.inr rfl, hD, hW⟩ | exact ⟨Or.inl hqv631.1, hD, hW⟩ | exact ⟨hqv631.1, hD, hW⟩)⟩
                    · exact ok_rZ (Or.inr rfl) ⟨hT, (show ((1 : Int32) = 0 ∨ (1 : Int32) = 1) ∧ RD σ632.1 ∧ WI 28 σ632.1 from by first | exact ⟨Or.inl rfl, hD, hW⟩ | exact ⟨Or.inr rfl, hD, hW⟩ | exact ⟨Or.inl hqv631.1, hD, hW⟩ | exact ⟨hqv631.1, hD, hW⟩)⟩
                refine ok_gC rfl ?_
                refine ok_zbT (Q := fun V σ => (V = 0 ∨ V = 1) ∧ RD σ.1 ∧ (¬ V = 0 → 1 ≤ (σ.1 57 9).toInt ∧ (0 : Int32).toInt ≤ (lastv σ.1).toInt ∧ (lastv σ.1).toInt ≤ (9 : Int32).toInt)) hT (s_X5_passNumber hN (hR.tr hT) (by first | exact hX | exact hT.1.2 hX) (hD)) (by decide) (fun v634 σ635 hOσ635 hT hqv634 => ?_)
                have hqv634 : (v634 = 0 ∨ v634 = 1) ∧ RD σ635.1 ∧ (¬ v634 = 0 → 1 ≤ (σ635.1 57 9).toInt ∧ (0 : Int32).toInt ≤ (lastv σ635.1).toInt ∧ (lastv σ635.1).toInt ≤ (9 : Int32).toInt) := hqv634
                have hD : RD σ635.1 := by first | exact hqv634.2 | exact hqv634.2.1
                have hW : WI 28 σ635.1 := WI.tr hOσ635 (by decide) (by decide) (by decide) hW
                refine ok_if (fun hc636 => ?_) (fun hc636 => ?_)
                · rw [J_X5_readLine_211.eq_1]
                  refine ok_if (fun hc637 => ?_) (fun hc637 => ?_)
                  · exact ok_rZ (Or.inl rfl) ⟨hT, (show ((0 : Int32) = 0 ∨ (0 : Int32) = 1) ∧ RD σ635.1 ∧ WI 28 σ635.1 from by first | exact ⟨Or.inl rfl, hD, hW⟩ | exact ⟨Or.inr rfl, hD, hW⟩ | exact ⟨Or.inl hqv634.1, hD, hW⟩ | exact ⟨hqv634.1, hD, hW⟩)⟩
                  · refine ok_gC rfl ?_
                    refine ok_zbT (Q := fun V σ => (V = 0 ∨ V = 1) ∧ RD σ.1) hT (s_X5_pass hN (hR.tr hT) (by first | exact hX | exact hT.1.2 hX) (hD)) (by decide) (fun v638 σ639 hOσ639 hT hqv638 => ?_)
                    have hqv638 : (v638 = 0 ∨ v638 = 1) ∧ RD σ639.1 := hqv638
                    have hD : RD σ639.1 := by first | exact hqv638.2 | exact hqv638.2.1
                    have hW : WI 28 σ639.1 := WI.tr hOσ639 (by decide) (by decide) (by decide) hW
                    refine ok_if (fun hc640 => ?_) (fun hc640 => ?_)
                    · exact ok_rZ (Or.inl rfl) ⟨hT, (show ((0 : Int32) = 0 ∨ (0 : Int32) = 1) ∧ RD σ639.1 ∧ WI 28 σ639.1 from by first | exact ⟨Or.inl rfl, hD, hW⟩ | exact ⟨Or.inr rfl, hD, hW⟩ | exact ⟨Or.inl hqv638.1, hD, hW⟩ | exact ⟨hqv638.1, hD, hW⟩)⟩
                    · exact ok_rZ (Or.inr rfl) ⟨hT, (show ((1 : Int32) = 0 ∨ (1 : Int32) = 1) ∧ RD σ639.1 ∧ WI 28 σ639.1 from by first | exact ⟨Or.inl rfl, hD, hW⟩ | exact ⟨Or.inr rfl, hD, hW⟩ | exact ⟨Or.inl hqv638.1, hD, hW⟩ | exact ⟨hqv638.1, hD, hW⟩)⟩
                · refine ok_gC rfl ?_
                  refine ok_zbT (Q := fun V σ => (V = 0 ∨ V = 1) ∧ RD σ.1) hT (s_X5_pass hN (hR.tr hT) (by first | exact hX | exact hT.1.2 hX) (hD)) (by decide) (fun v641 σ642 hOσ642 hT hqv641 => ?_)
                  have hqv641 : (v641 = 0 ∨ v641 = 1) ∧ RD σ642.1 := hqv641
                  have hD : RD σ642.1 := by first | exact hqv641.2 | exact hqv641.2.1
                  have hW : WI 28 σ642.1 := WI.tr hOσ642 (by decide) (by decide) (by decide) hW
                  refine ok_if (fun hc643 => ?_) (fun hc643 => ?_)
                  · rw [J_X5_readLine_211.eq_1]
                    refine ok_if (fun hc644 => ?_) (fun hc644 => ?_)
                    · exact ok_rZ (Or.inl rfl) ⟨hT, (show ((0 : Int32) = 0 ∨ (0 : Int32) = 1) ∧ RD σ642.1 ∧ WI 28 σ642.1 from by first | exact ⟨Or.inl rfl, hD, hW⟩ | exact ⟨Or.inr rfl, hD, hW⟩ | exact ⟨Or.inl hqv641.1, hD, hW⟩ | exact ⟨hqv641.1, hD, hW⟩)⟩
                    · refine ok_gC rfl ?_
                      refine ok_zbT (Q := fun V σ => (V = 0 ∨ V = 1) ∧ RD σ.1) hT (s_X5_pass hN (hR.tr hT) (by first | exact hX | exact hT.1.2 hX) (hD)) (by decide) (fun v645 σ646 hOσ646 hT hqv645 => ?_)
                      have hqv645 : (v645 = 0 ∨ v645 = 1) ∧ RD σ646.1 := hqv645
                      have hD : RD σ646.1 := by first | exact hqv645.2 | exact hqv645.2.1
                      have hW : WI 28 σ646.1 := WI.tr hOσ646 (by decide) (by decide) (by decide) hW
                      refine ok_if (fun hc647 => ?_) (fun hc647 => ?_)
                      · exact ok_rZ (Or.inl rfl) ⟨hT, (show ((0 : Int32) = 0 ∨ (0 : Int32) = 1) ∧ RD σ646.1 ∧ WI 28 σ646.1 from by first | exact ⟨Or.inl rfl, hD, hW⟩ | exact ⟨Or.inr rfl, hD, hW⟩ | exact ⟨Or.inl hqv645.1, hD, hW⟩ | exact ⟨hqv645.1, hD, hW⟩)⟩
                      · exact ok_rZ (Or.inr rfl) ⟨hT, (show ((1 : Int32) = 0 ∨ (1 : Int32) = 1) ∧ RD σ646.1 ∧ WI 28 σ646.1 from by first | exact ⟨Or.inl rfl, hD, hW⟩ | exact ⟨Or.inr rfl, hD, hW⟩ | exact ⟨Or.inl hqv645.1, hD, hW⟩ | exact ⟨hqv645.1, hD, hW⟩)⟩
                  · refine ok_gC rfl ?_
                    refine ok_zbT (Q := fun V σ => (V = 0 ∨ V = 1) ∧ RD σ.1) hT (s_X5_sum hN (hR.tr hT) (by first | exact hX | exact hT.1.2 hX) (hD) (by have q1 := hD.1; have q2 := hD.2.1; have q3 := hD0.1; have q4 := hD0.2.1; first | omega | decide | (simp only [Int32.le_iff_toInt_le, Int32.lt_iff_toInt_lt, ti_add, ti_sub, ti_mul, Int32.reduceToInt] at *; omega) | (exfalso; simp_all; done)) (by have q1 := hD.1; have q2 := hD.2.1; have q3 := hD0.1; have q4 := hD0.2.1; first | omega | decide | (simp only [Int32.le_iff_toInt_le, Int32.lt_iff_toInt_lt, ti_add, ti_sub, ti_mul, Int32.reduceToInt] at *; omega) | (exfalso; simp_all; done))) (by decide) (fun v648 σ649 hOσ649 hT hqv648 => ?_)
                    have hqv648 : (v648 = 0 ∨ v648 = 1) ∧ RD σ649.1 := hqv648
                    have hD : RD σ649.1 := by first | exact hqv648.2 | exact hqv648.2.1
                    have hW : WI 28 σ649.1 := WI.tr hOσ649 (by decide) (by decide) (by decide) hW
                    refine ok_if (fun hc650 => ?_) (fun hc650 => ?_)
                    · rw [J_X5_readLine_211.eq_1]
                      refine ok_if (fun hc651 => ?_) (fun hc651 => ?_)
                      · exact ok_rZ (Or.inl rfl) ⟨hT, (show ((0 : Int32) = 0 ∨ (0 : Int32) = 1) ∧ RD σ649.1 ∧ WI 28 σ649.1 from by first | exact ⟨Or.inl rfl, hD, hW⟩ | exact ⟨Or.inr rfl, hD, hW⟩ | exact ⟨Or.inl hqv648.1, hD, hW⟩ | exact ⟨hqv648.1, hD, hW⟩)⟩
                      · refine ok_gC rfl ?_
                        refine ok_zbT (Q := fun V σ => (V = 0 ∨ V = 1) ∧ RD σ.1) hT (s_X5_pass hN (hR.tr hT) (by first | exact hX | exact hT.1.2 hX) (hD)) (by decide) (fun v652 σ653 hOσ653 hT hqv652 => ?_)
                        have hqv652 : (v652 = 0 ∨ v652 = 1) ∧ RD σ653.1 := hqv652
                        have hD : RD σ653.1 := by first | exact hqv652.2 | exact hqv652.2.1
                        have hW : WI 28 σ653.1 := WI.tr hOσ653 (by decide) (by decide) (by decide) hW
                        refine ok_if (fun hc654 => ?_) (fun hc654 => ?_)
                        · exact ok_rZ (Or.inl rfl) ⟨hT, (show ((0 : Int32) = 0 ∨ (0 : Int32) = 1) ∧ RD σ653.1 ∧ WI 28 σ653.1 from by first | exact ⟨Or.inl rfl, hD, hW⟩ | exact ⟨Or.inr rfl, hD, hW⟩ | exact ⟨Or.inl hqv652.1, hD, hW⟩ | exact ⟨hqv652.1, hD, hW⟩)⟩
                        · exact ok_rZ (Or.inr rfl) ⟨hT, (show ((1 : Int32) = 0 ∨ (1 : Int32) = 1) ∧ RD σ653.1 ∧ WI 28 σ653.1 from by first | exact ⟨Or.inl rfl, hD, hW⟩ | exact ⟨Or.inr rfl, hD, hW⟩ | exact ⟨Or.inl hqv652.1, hD, hW⟩ | exact ⟨hqv652.1, hD, hW⟩)⟩
                    · refine ok_gC rfl ?_
                      refine ok_zbT (Q := fun V σ => V = 1 ∧ RD σ.1) hT (s_X5_emit hN (hR.tr hT) (by first | exact hX | exact hT.1.2 hX) (hD)) (by decide) (fun v655 σ656 hOσ656 hT hqv655 => ?_)
                      have hqv655 : v655 = 1 ∧ RD σ656.1 := hqv655
                      have hD : RD σ656.1 := by first | exact hqv655.2 | exact hqv655.2.1
                      have hW : WI 28 σ656.1 := WI.tr hOσ656 (by decide) (by decide) (by decide) hW
                      refine ok_if (fun hc657 => ?_) (fun hc657 => ?_)
                      · rw [J_X5_readLine_211.eq_1]
                        refine ok_if (fun hc658 => ?_) (fun hc658 => ?_)
                        · exact ok_rZ (Or.inl rfl) ⟨hT, (show ((0 : Int32) = 0 ∨ (0 : Int32) = 1) ∧ RD σ656.1 ∧ WI 28 σ656.1 from by first | exact ⟨Or.inl rfl, hD, hW⟩ | exact ⟨Or.inr rfl, hD, hW⟩ | exact ⟨Or.inl hqv655.1, hD, hW⟩ | exact ⟨hqv655.1, hD, hW⟩)⟩
                        · refine ok_gC rfl ?_
                          refine ok_zbT (Q := fun V σ => (V = 0 ∨ V = 1) ∧ RD σ.1) hT (s_X5_pass hN (hR.tr hT) (by first | exact hX | exact hT.1.2 hX) (hD)) (by decide) (fun v659 σ660 hOσ660 hT hqv659 => ?_)
                          have hqv659 : (v659 = 0 ∨ v659 = 1) ∧ RD σ660.1 := hqv659
                          have hD : RD σ660.1 := by first | exact hqv659.2 | exact hqv659.2.1
                          have hW : WI 28 σ660.1 := WI.tr hOσ660 (by decide) (by decide) (by decide) hW
                          refine ok_if (fun hc661 => ?_) (fun hc661 => ?_)
                          · exact ok_rZ (Or.inl rfl) ⟨hT, (show ((0 : Int32) = 0 ∨ (0 : Int32) = 1) ∧ RD σ660.1 ∧ WI 28 σ660.1 from by first | exact ⟨Or.inl rfl, hD, hW⟩ | exact ⟨Or.inr rfl, hD, hW⟩ | exact ⟨Or.inl hqv659.1, hD, hW⟩ | exact ⟨hqv659.1, hD, hW⟩)⟩
                          · exact ok_rZ (Or.inr rfl) ⟨hT, (show ((1 : Int32) = 0 ∨ (1 : Int32) = 1) ∧ RD σ660.1 ∧ WI 28 σ660.1 from by first | exact ⟨Or.inl rfl, hD, hW⟩ | exact ⟨Or.inr rfl, hD, hW⟩ | exact ⟨Or.inl hqv659.1, hD, hW⟩ | exact ⟨hqv659.1, hD, hW⟩)⟩
                      · rw [J_X5_readLine_211.eq_1]
                        refine ok_if (fun hc662 => ?_) (fun hc662 => ?_)
                        · exact ok_rZ (Or.inl rfl) ⟨hT, (show ((0 : Int32) = 0 ∨ (0 : Int32) = 1) ∧ RD σ656.1 ∧ WI 28 σ656.1 from by first | exact ⟨Or.inl rfl, hD, hW⟩ | exact ⟨Or.inr rfl, hD, hW⟩ | exact ⟨Or.inl hqv655.1, hD, hW⟩ | exact ⟨hqv655.1, hD, hW⟩)⟩
                        · refine ok_gC rfl ?_
                          refine ok_zbT (Q := fun V σ => (V = 0 ∨ V = 1) ∧ RD σ.1) hT (s_X5_pass hN (hR.tr hT) (by first | exact hX | exact hT.1.2 hX) (hD)) (by decide) (fun v663 σ664 hOσ664 hT hqv663 => ?_)
                          have hqv663 : (v663 = 0 ∨ v663 = 1) ∧ RD σ664.1 := hqv663
                          have hD : RD σ664.1 := by first | exact hqv663.2 | exact hqv663.2.1
                          have hW : WI 28 σ664.1 := WI.tr hOσ664 (by decide) (by decide) (by decide) hW
                          refine ok_if (fun hc665 => ?_) (fun hc665 => ?_)
                          · exact ok_rZ (Or.inl rfl) ⟨hT, (show ((0 : Int32) = 0 ∨ (0 : Int32) = 1) ∧ RD σ664.1 ∧ WI 28 σ664.1 from by first | exact ⟨Or.inl rfl, hD, hW⟩ | exact ⟨Or.inr rfl, hD, hW⟩ | exact ⟨Or.inl hqv663.1, hD, hW⟩ | exact ⟨hqv663.1, hD, hW⟩)⟩
                          · exact ok_rZ (Or.inr rfl) ⟨hT, (show ((1 : Int32) = 0 ∨ (1 : Int32) = 1) ∧ RD σ664.1 ∧ WI 28 σ664.1 from by first | exact ⟨Or.inl rfl, hD, hW⟩ | exact ⟨Or.inr rfl, hD, hW⟩ | exact ⟨Or.inl hqv663.1, hD, hW⟩ | exact ⟨hqv663.1, hD, hW⟩)⟩
            · refine ok_gC rfl ?_
              refine ok_zbT (Q := fun V σ => V = 0 ∧ RD σ.1) hT (s_X5_fail hN (hR.tr hT) (by first | exact hX | exact hT.1.2 hX) (hD)) (by decide) (fun v666 σ667 hOσ667 hT hqv666 => ?_)
              have hqv666 : v666 = 0 ∧ RD σ667.1 := hqv666
              have hD : RD σ667.1 := by first | exact hqv666.2 | exact hqv666.2.1
              have hW : WI 28 σ667.1 := WI.tr hOσ667 (by decide) (by decide) (by decide) hW
              exact ok_rZ (by have q := hqv666.1; first | exact q | exact Or.inl q | exact Or.inr q) ⟨hT, (show (v666 = 0 ∨ v666 = 1) ∧ RD σ667.1 ∧ WI 28 σ667.1 from by first | exact ⟨Or.inl rfl, hD, hW⟩ | exact ⟨Or.inr rfl, hD, hW⟩ | exact ⟨Or.inl hqv666.1, hD, hW⟩ | exact ⟨hqv666.1, hD, hW⟩)⟩
        · refine ok_gC rfl ?_
          refine ok_zbT (Q := fun V σ => V = 0 ∧ RD σ.1) hT (s_X5_fail hN (hR.tr hT) (by first | exact hX | exact hT.1.2 hX) (hD)) (by decide) (fun v668 σ669 hOσ669 hT hqv668 => ?_)
          have hqv668 : v668 = 0 ∧ RD σ669.1 := hqv668
          have hD : RD σ669.1 := by first | exact hqv668.2 | exact hqv668.2.1
          have hW : WI 28 σ669.1 := WI.tr hOσ669 (by decide) (by decide) (by decide) hW
          exact ok_rZ (by have q := hqv668.1; first | exact q | exact Or.inl q | exact Or.inr q) ⟨hT, (show (v668 = 0 ∨ v668 = 1) ∧ RD σ669.1 ∧ WI 28 σ669.1 from by first | exact ⟨Or.inl rfl, hD, hW⟩ | exact ⟨Or.inr rfl, hD, hW⟩ | exact ⟨Or.inl hqv668.1, hD, hW⟩ | exact ⟨hqv668.1, hD, hW⟩)⟩
      · rw [J_X5_readLine_51.eq_1]
        refine ok_if (fun hc670 => ?_) (fun hc670 => ?_)
        · refine ok_if (fun hc671 => ?_) (fun hc671 => ?_)
          · refine ok_gC rfl ?_
            refine ok_zbT (Q := fun V σ => V = 0 ∧ RD σ.1) hT (s_X5_fail hN (hR.tr hT) (by first | exact hX | exact hT.1.2 hX) (hD)) (by decide) (fun v672 σ673 hOσ673 hT hqv672 => ?_)
            have hqv672 : v672 = 0 ∧ RD σ673.1 := hqv672
            have hD : RD σ673.1 := by first | exact hqv672.2 | exact hqv672.2.1
            have hW : WI 28 σ673.1 := WI.tr hOσ673 (by decide) (by decide) (by decide) hW
            exact ok_rZ (by have q := hqv672.1; first | exact q | exact Or.inl q | exact Or.inr q) ⟨hT, (show (v672 = 0 ∨ v672 = 1) ∧ RD σ673.1 ∧ WI 28 σ673.1 from by first | exact ⟨Or.inl rfl, hD, hW⟩ | exact ⟨Or.inr rfl, hD, hW⟩ | exact ⟨Or.inl hqv672.1, hD, hW⟩ | exact ⟨hqv672.1, hD, hW⟩)⟩
          · refine ok_if (fun hc674 => ?_) (fun hc674 => ?_)
            · refine ok_if (fun hc675 => ?_) (fun hc675 => ?_)
              · refine ok_gI rfl ?_
                refine ok_gI rfl ?_
                refine ok_if (fun hc678 => ?_) (fun hc678 => ?_)
                · rw [J_X5_readLine_92.eq_1]
                  refine ok_gC rfl ?_
                  refine ok_zbT (Q := fun V σ => (V = 0 ∨ V = 1) ∧ RD σ.1) hT (s_X5_pass hN (hR.tr hT) (by first | exact hX | exact hT.1.2 hX) (hD)) (by decide) (fun v679 σ680 hOσ680 hT hqv679 => ?_)
                  have hqv679 : (v679 = 0 ∨ v679 = 1) ∧ RD σ680.1 := hqv679
                  have hD : RD σ680.1 := by first | exact hqv679.2 | exact hqv679.2.1
                  have hW : WI 28 σ680.1 := WI.tr hOσ680 (by decide) (by decide) (by decide) hW
                  refine ok_gR (v := 62) hT rfl (hR 57 11 rfl) ?_
                  refine ok_gI rfl ?_
                  refine ok_aIn rfl (by have q1 := hD.1; have q2 := hD.2.1; have q3 := hD0.1; have q4 := hD0.2.1; first | omega | decide | (simp only [Int32.le_iff_toInt_le, Int32.lt_iff_toInt_lt, ti_add, ti_sub, ti_mul, Int32.reduceToInt] at *; omega) | (exfalso; simp_all; done)) (by have q1 := hD.1; have q2 := hD.2.1; have q3 := hD0.1; have q4 := hD0.2.1; first | omega | decide | (simp only [Int32.le_iff_toInt_le, Int32.lt_iff_toInt_lt, ti_add, ti_sub, ti_mul, Int32.reduceToInt] at *; omega) | (exfalso; simp_all; done)) (fun v683 ev683 => ?_)
                  refine ok_if (fun hc684 => ?_) (fun hc684 => ?_)
                  · refine ok_gC rfl ?_
                    refine ok_zbT (Q := fun V σ => (V = 0 ∨ V = 1) ∧ RD σ.1 ∧ WI 28 σ.1) hT (s_X5_readNames_28 hN (hR.tr hT) (by first | exact hX | exact hT.1.2 hX) (hD) (hW)) (by decide) (fun v685 σ686 hOσ686 hT hqv685 => ?_)
                    have hqv685 : (v685 = 0 ∨ v685 = 1) ∧ RD σ686.1 ∧ WI 28 σ686.1 := hqv685
                    have hD : RD σ686.1 := by first | exact hqv685.2 | exact hqv685.2.1
                    have hW : WI 28 σ686.1 := by first | exact hqv685.2.2 | exact hqv685
                    rw [J_X5_readLine_211.eq_1]
                    refine ok_if (fun hc687 => ?_) (fun hc687 => ?_)
                    · exact ok_rZ (Or.inl rfl) ⟨hT, (show ((0 : Int32) = 0 ∨ (0 : Int32) = 1) ∧ RD σ686.1 ∧ WI 28 σ686.1 from by first | exact ⟨Or.inl rfl, hD, hW⟩ | exact ⟨Or.inr rfl, hD, hW⟩ | exact ⟨Or.inl hqv685.1, hD, hW⟩ | exact ⟨hqv685.1, hD, hW⟩)⟩
                    · refine ok_gC rfl ?_
                      refine ok_zbT (Q := fun V σ => (V = 0 ∨ V = 1) ∧ RD σ.1) hT (s_X5_pass hN (hR.tr hT) (by first | exact hX | exact hT.1.2 hX) (hD)) (by decide) (fun v688 σ689 hOσ689 hT hqv688 => ?_)
                      have hqv688 : (v688 = 0 ∨ v688 = 1) ∧ RD σ689.1 := hqv688
                      have hD : RD σ689.1 := by first | exact hqv688.2 | exact hqv688.2.1
                      have hW : WI 28 σ689.1 := WI.tr hOσ689 (by decide) (by decide) (by decide) hW
                      refine ok_if (fun hc690 => ?_) (fun hc690 => ?_)
                      · exact ok_rZ (Or.inl rfl) ⟨hT, (show ((0 : Int32) = 0 ∨ (0 : Int32) = 1) ∧ RD σ689.1 ∧ WI 28 σ689.1 from by first | exact ⟨Or.inl rfl, hD, hW⟩ | exact ⟨Or.inr rfl, hD, hW⟩ | exact ⟨Or.inl hqv688.1, hD, hW⟩ | exact ⟨hqv688.1, hD, hW⟩)⟩
                      · exact ok_rZ (Or.inr rfl) ⟨hT, (show ((1 : Int32) = 0 ∨ (1 : Int32) = 1) ∧ RD σ689.1 ∧ WI 28 σ689.1 from by first | exact ⟨Or.inl rfl, hD, hW⟩ | exact ⟨Or.inr rfl, hD, hW⟩ | exact ⟨Or.inl hqv688.1, hD, hW⟩ | exact ⟨hqv688.1, hD, hW⟩)⟩
                  refine ok_if (fun hc691 => ?_) (fun hc691 => ?_)
                  · refine ok_gC rfl ?_
                    refine ok_zbT (Q := fun V σ => (V = 0 ∨ V = 1) ∧ RD σ.1 ∧ WI 28 σ.1) hT (s_X5_readWeight_28 hN (hR.tr hT) (by first | exact hX | exact hT.1.2 hX) (hD) (hW)) (by decide) (fun v692 σ693 hOσ693 hT hqv692 => ?_)
                    have hqv692 : (v692 = 0 ∨ v692 = 1) ∧ RD σ693.1 ∧ WI 28 σ693.1 := hqv692
                    have hD : RD σ693.1 := by first | exact hqv692.2 | exact hqv692.2.1
                    have hW : WI 28 σ693.1 := WI.tr hOσ693 (by decide) (by decide) (by decide) hW
                    rw [J_X5_readLine_211.eq_1]
                    refine ok_if (fun hc694 => ?_) (fun hc694 => ?_)
                    · exact ok_rZ (Or.inl rfl) ⟨hT, (show ((0 : Int32) = 0 ∨ (0 : Int32) = 1) ∧ RD σ693.1 ∧ WI 28 σ693.1 from by first | exact ⟨Or.inl rfl, hD, hW⟩ | exact ⟨Or.inr rfl, hD, hW⟩ | exact ⟨Or.inl hqv692.1, hD, hW⟩ | exact ⟨hqv692.1, hD, hW⟩)⟩
                    · refine ok_gC rfl ?_
                      refine ok_zbT (Q := fun V σ => (V = 0 ∨ V = 1) ∧ RD σ.1) hT (s_X5_pass hN (hR.tr hT) (by first | exact hX | exact hT.1.2 hX) (hD)) (by decide) (fun v695 σ696 hOσ696 hT hqv695 => ?_)
                      have hqv695 : (v695 = 0 ∨ v695 = 1) ∧ RD σ696.1 := hqv695
                      have hD : RD σ696.1 := by first | exact hqv695.2 | exact hqv695.2.1
                      have hW : WI 28 σ696.1 := WI.tr hOσ696 (by decide) (by decide) (by decide) hW
                      refine ok_if (fun hc697 => ?_) (fun hc697 => ?_)
                      · exact ok_rZ (Or.inl rfl) ⟨hT, (show ((0 : Int32) = 0 ∨ (0 : Int32) = 1) ∧ RD σ696.1 ∧ WI 28 σ696.1 from by first | exact ⟨Or.inl rfl, hD, hW⟩ | exact ⟨Or.inr rfl, hD, hW⟩ | exact ⟨Or.inl hqv695.1, hD, hW⟩ | exact ⟨hqv695.1, hD, hW⟩)⟩
                      · exact ok_rZ (Or.inr rfl) ⟨hT, (show ((1 : Int32) = 0 ∨ (1 : Int32) = 1) ∧ RD σ696.1 ∧ WI 28 σ696.1 from by first | exact ⟨Or.inl rfl, hD, hW⟩ | exact ⟨Or.inr rfl, hD, hW⟩ | exact ⟨Or.inl hqv695.1, hD, hW⟩ | exact ⟨hqv695.1, hD, hW⟩)⟩
                  refine ok_if (fun hc698 => ?_) (fun hc698 => ?_)
                  · refine ok_gC rfl ?_
                    refine ok_zbT (Q := fun V σ => (V = 0 ∨ V = 1) ∧ RD σ.1 ∧ WI 28 σ.1) hT (s_X5_readEdge_28 hN (hR.tr hT) (by first | exact hX | exact hT.1.2 hX) (hD) (hW)) (by decide) (fun v699 σ700 hOσ700 hT hqv699 => ?_)
                    have hqv699 : (v699 = 0 ∨ v699 = 1) ∧ RD σ700.1 ∧ WI 28 σ700.1 := hqv699
                    have hD : RD σ700.1 := by first | exact hqv699.2 | exact hqv699.2.1
                    have hW : WI 28 σ700.1 := by first | exact hqv699.2.2 | exact hqv699
                    rw [J_X5_readLine_211.eq_1]
                    refine ok_if (fun hc701 => ?_) (fun hc701 => ?_)
                    · exact ok_rZ (Or.inl rfl) ⟨hT, (show ((0 : Int32) = 0 ∨ (0 : Int32) = 1) ∧ RD σ700.1 ∧ WI 28 σ700.1 from by first | exact ⟨Or.inl rfl, hD, hW⟩ | exact ⟨Or.inr rfl, hD, hW⟩ | exact ⟨Or.inl hqv699.1, hD, hW⟩ | exact ⟨hqv699.1, hD, hW⟩)⟩
                    · refine ok_gC rfl ?_
                      refine ok_zbT (Q := fun V σ => (V = 0 ∨ V = 1) ∧ RD σ.1) hT (s_X5_pass hN (hR.tr hT) (by first | exact hX | exact hT.1.2 hX) (hD)) (by decide) (fun v702 σ703 hOσ703 hT hqv702 => ?_)
                      have hqv702 : (v702 = 0 ∨ v702 = 1) ∧ RD σ703.1 := hqv702
                      have hD : RD σ703.1 := by first | exact hqv702.2 | exact hqv702.2.1
                      have hW : WI 28 σ703.1 := WI.tr hOσ703 (by decide) (by decide) (by decide) hW
                      refine ok_if (fun hc704 => ?_) (fun hc704 => ?_)
                      · exact ok_rZ (Or.inl rfl) ⟨hT, (show ((0 : Int32) = 0 ∨ (0 : Int32) = 1) ∧ RD σ703.1 ∧ WI 28 σ703.1 from by first | exact ⟨Or.inl rfl, hD, hW⟩ | exact ⟨Or.inr rfl, hD, hW⟩ | exact ⟨Or.inl hqv702.1, hD, hW⟩ | exact ⟨hqv702.1, hD, hW⟩)⟩
                      · exact ok_rZ (Or.inr rfl) ⟨hT, (show ((1 : Int32) = 0 ∨ (1 : Int32) = 1) ∧ RD σ703.1 ∧ WI 28 σ703.1 from by first | exact ⟨Or.inl rfl, hD, hW⟩ | exact ⟨Or.inr rfl, hD, hW⟩ | exact ⟨Or.inl hqv702.1, hD, hW⟩ | exact ⟨hqv702.1, hD, hW⟩)⟩
                  refine ok_gC rfl ?_
                  refine ok_zbT (Q := fun V σ => (V = 0 ∨ V = 1) ∧ RD σ.1 ∧ (¬ V = 0 → 1 ≤ (σ.1 57 9).toInt ∧ (0 : Int32).toInt ≤ (lastv σ.1).toInt ∧ (lastv σ.1).toInt ≤ (9 : Int32).toInt)) hT (s_X5_passNumber hN (hR.tr hT) (by first | exact hX | exact hT.1.2 hX) (hD)) (by decide) (fun v705 σ706 hOσ706 hT hqv705 => ?_)
                  have hqv705 : (v705 = 0 ∨ v705 = 1) ∧ RD σ706.1 ∧ (¬ v705 = 0 → 1 ≤ (σ706.1 57 9).toInt ∧ (0 : Int32).toInt ≤ (lastv σ706.1).toInt ∧ (lastv σ706.1).toInt ≤ (9 : Int32).toInt) := hqv705
                  have hD : RD σ706.1 := by first | exact hqv705.2 | exact hqv705.2.1
                  have hW : WI 28 σ706.1 := WI.tr hOσ706 (by decide) (by decide) (by decide) hW
                  refine ok_if (fun hc707 => ?_) (fun hc707 => ?_)
                  · rw [J_X5_readLine_211.eq_1]
                    refine ok_if (fun hc708 => ?_) (fun hc708 => ?_)
                    · exact ok_rZ (Or.inl rfl) ⟨hT, (show ((0 : Int32) = 0 ∨ (0 : Int32) = 1) ∧ RD σ706.1 ∧ WI 28 σ706.1 from by first | exact ⟨Or.inl rfl, hD, hW⟩ | exact ⟨Or.inr rfl, hD, hW⟩ | exact ⟨Or.inl hqv705.1, hD, hW⟩ | exact ⟨hqv705.1, hD, hW⟩)⟩
                    · refine ok_gC rfl ?_
                      refine ok_zbT (Q := fun V σ => (V = 0 ∨ V = 1) ∧ RD σ.1) hT (s_X5_pass hN (hR.tr hT) (by first | exact hX | exact hT.1.2 hX) (hD)) (by decide) (fun v709 σ710 hOσ710 hT hqv709 => ?_)
                      have hqv709 : (v709 = 0 ∨ v709 = 1) ∧ RD σ710.1 := hqv709
                      have hD : RD σ710.1 := by first | exact hqv709.2 | exact hqv709.2.1
                      have hW : WI 28 σ710.1 := WI.tr hOσ710 (by decide) (by decide) (by decide) hW
                      refine ok_if (fun hc711 => ?_) (fun hc711 => ?_)
                      · exact ok_rZ (Or.inl rfl) ⟨hT, (show ((0 : Int32) = 0 ∨ (0 : Int32) = 1) ∧ RD σ710.1 ∧ WI 28 σ710.1 from by first | exact ⟨Or.inl rfl, hD, hW⟩ | exact ⟨Or.inr rfl, hD, hW⟩ | exact ⟨Or.inl hqv709.1, hD, hW⟩ | exact ⟨hqv709.1, hD, hW⟩)⟩
                      · exact ok_rZ (Or.inr rfl) ⟨hT, (show ((1 : Int32) = 0 ∨ (1 : Int32) = 1) ∧ RD σ710.1 ∧ WI 28 σ710.1 from by first | exact ⟨Or.inl rfl, hD, hW⟩ | exact ⟨Or.inr rfl, hD, hW⟩ | exact ⟨Or.inl hqv709.1, hD, hW⟩ | exact ⟨hqv709.1, hD, hW⟩)⟩
                  · refine ok_gC rfl ?_
                    refine ok_zbT (Q := fun V σ => (V = 0 ∨ V = 1) ∧ RD σ.1) hT (s_X5_pass hN (hR.tr hT) (by first | exact hX | exact hT.1.2 hX) (hD)) (by decide) (fun v712 σ713 hOσ713 hT hqv712 => ?_)
                    have hqv712 : (v712 = 0 ∨ v712 = 1) ∧ RD σ713.1 := hqv712
                    have hD : RD σ713.1 := by first | exact hqv712.2 | exact hqv712.2.1
                    have hW : WI 28 σ713.1 := WI.tr hOσ713 (by decide) (by decide) (by decide) hW
                    refine ok_if (fun hc714 => ?_) (fun hc714 => ?_)
                    · rw [J_X5_readLine_211.eq_1]
                      refine ok_if (fun hc715 => ?_) (fun hc715 => ?_)
                      · exact ok_rZ (Or.inl rfl) ⟨hT, (show ((0 : Int32) = 0 ∨ (0 : Int32) = 1) ∧ RD σ713.1 ∧ WI 28 σ713.1 from by first | exact ⟨Or.inl rfl, hD, hW⟩ | exact ⟨Or.inr rfl, hD, hW⟩ | exact ⟨Or.inl hqv712.1, hD, hW⟩ | exact ⟨hqv712.1, hD, hW⟩)⟩
                      · refine ok_gC rfl ?_
                        refine ok_zbT (Q := fun V σ => (V = 0 ∨ V = 1) ∧ RD σ.1) hT (s_X5_pass hN (hR.tr hT) (by first | exact hX | exact hT.1.2 hX) (hD)) (by decide) (fun v716 σ717 hOσ717 hT hqv716 => ?_)
                        have hqv716 : (v716 = 0 ∨ v716 = 1) ∧ RD σ717.1 := hqv716
                        have hD : RD σ717.1 := by first | exact hqv716.2 | exact hqv716.2.1
                        have hW : WI 28 σ717.1 := WI.tr hOσ717 (by decide) (by decide) (by decide) hW
                        refine ok_if (fun hc718 => ?_) (fun hc718 => ?_)
                        · exact ok_rZ (Or.inl rfl) ⟨hT, (show ((0 : Int32) = 0 ∨ (0 : Int32) = 1) ∧ RD σ717.1 ∧ WI 28 σ717.1 from by first | exact ⟨Or.inl rfl, hD, hW⟩ | exact ⟨Or.inr rfl, hD, hW⟩ | exact ⟨Or.inl hqv716.1, hD, hW⟩ | exact ⟨hqv716.1, hD, hW⟩)⟩
                        · exact ok_rZ (Or.inr rfl) ⟨hT, (show ((1 : Int32) = 0 ∨ (1 : Int32) = 1) ∧ RD σ717.1 ∧ WI 28 σ717.1 from by first | exact ⟨Or.inl rfl, hD, hW⟩ | exact ⟨Or.inr rfl, hD, hW⟩ | exact ⟨Or.inl hqv716.1, hD, hW⟩ | exact ⟨hqv716.1, hD, hW⟩)⟩
                    · refine ok_gC rfl ?_
                      refine ok_zbT (Q := fun V σ => (V = 0 ∨ V = 1) ∧ RD σ.1) hT (s_X5_sum hN (hR.tr hT) (by first | exact hX | exact hT.1.2 hX) (hD) (by have q1 := hD.1; have q2 := hD.2.1; have q3 := hD0.1; have q4 := hD0.2.1; first | omega | decide | (simp only [Int32.le_iff_toInt_le, Int32.lt_iff_toInt_lt, ti_add, ti_sub, ti_mul, Int32.reduceToInt] at *; omega) | (exfalso; simp_all; done)) (by have q1 := hD.1; have q2 := hD.2.1; have q3 := hD0.1; have q4 := hD0.2.1; first | omega | decide | (simp only [Int32.le_iff_toInt_le, Int32.lt_iff_toInt_lt, ti_add, ti_sub, ti_mul, Int32.reduceToInt] at *; omega) | (exfalso; simp_all; done))) (by decide) (fun v719 σ720 hOσ720 hT hqv719 => ?_)
                      have hqv719 : (v719 = 0 ∨ v719 = 1) ∧ RD σ720.1 := hqv719
                      have hD : RD σ720.1 := by first | exact hqv719.2 | exact hqv719.2.1
                      have hW : WI 28 σ720.1 := WI.tr hOσ720 (by decide) (by decide) (by decide) hW
                      refine ok_if (fun hc721 => ?_) (fun hc721 => ?_)
                      · rw [J_X5_readLine_211.eq_1]
                        refine ok_if (fun hc722 => ?_) (fun hc722 => ?_)
                        · exact ok_rZ (Or.inl rfl) ⟨hT, (show ((0 : Int32) = 0 ∨ (0 : Int32) = 1) ∧ RD σ720.1 ∧ WI 28 σ720.1 from by first | exact ⟨Or.inl rfl, hD, hW⟩ | exact ⟨Or.inr rfl, hD, hW⟩ | exact ⟨Or.inl hqv719.1, hD, hW⟩ | exact ⟨hqv719.1, hD, hW⟩)⟩
                        · refine ok_gC rfl ?_
                          refine ok_zbT (Q := fun V σ => (V = 0 ∨ V = 1) ∧ RD σ.1) hT (s_X5_pass hN (hR.tr hT) (by first | exact hX | exact hT.1.2 hX) (hD)) (by decide) (fun v723 σ724 hOσ724 hT hqv723 => ?_)
                          have hqv723 : (v723 = 0 ∨ v723 = 1) ∧ RD σ724.1 := hqv723
                          have hD : RD σ724.1 := by first | exact hqv723.2 | exact hqv723.2.1
                          have hW : WI 28 σ724.1 := WI.tr hOσ724 (by decide) (by decide) (by decide) hW
                          refine ok_if (fun hc725 => ?_) (fun hc725 => ?_)
                          · exact ok_rZ (Or.inl rfl) ⟨hT, (show ((0 : Int32) = 0 ∨ (0 : Int32) = 1) ∧ RD σ724.1 ∧ WI 28 σ724.1 from by first | exact ⟨Or.inl rfl, hD, hW⟩ | exact ⟨Or.inr rfl, hD, hW⟩ | exact ⟨Or.inl hqv723.1, hD, hW⟩ | exact ⟨hqv723.1, hD, hW⟩)⟩
                          · exact ok_rZ (Or.inr rfl) ⟨hT, (show ((1 : Int32) = 0 ∨ (1 : Int32) = 1) ∧ RD σ724.1 ∧ WI 28 σ724.1 from by first | exact ⟨Or.inl rfl, hD, hW⟩ | exact ⟨Or.inr rfl, hD, hW⟩ | exact ⟨Or.inl hqv723.1, hD, hW⟩ | exact ⟨hqv723.1, hD, hW⟩)⟩
                      · refine ok_gC rfl ?_
                        refine ok_zbT (Q := fun V σ => V = 1 ∧ RD σ.1) hT (s_X5_emit hN (hR.tr hT) (by first | exact hX | exact hT.1.2 hX) (hD)) (by decide) (fun v726 σ727 hOσ727 hT hqv726 => ?_)
                        have hqv726 : v726 = 1 ∧ RD σ727.1 := hqv726
                        have hD : RD σ727.1 := by first | exact hqv726.2 | exact hqv726.2.1
                        have hW : WI 28 σ727.1 := WI.tr hOσ727 (by decide) (by decide) (by decide) hW
                        refine ok_if (fun hc728 => ?_) (fun hc728 => ?_)
                        · rw [J_X5_readLine_211.eq_1]
                          refine ok_if (fun hc729 => ?_) (fun hc729 => ?_)
                          · exact ok_rZ (Or.inl rfl) ⟨hT, (show ((0 : Int32) = 0 ∨ (0 : Int32) = 1) ∧ RD σ727.1 ∧ WI 28 σ727.1 from by first | exact ⟨Or.inl rfl, hD, hW⟩ | exact ⟨Or.inr rfl, hD, hW⟩ | exact ⟨Or.inl hqv726.1, hD, hW⟩ | exact ⟨hqv726.1, hD, hW⟩)⟩
                          · refine ok_gC rfl ?_
                            refine ok_zbT (Q := fun V σ => (V = 0 ∨ V = 1) ∧ RD σ.1) hT (s_X5_pass hN (hR.tr hT) (by first | exact hX | exact hT.1.2 hX) (hD)) (by decide) (fun v730 σ731 hOσ731 hT hqv730 => ?_)
                            have hqv730 : (v730 = 0 ∨ v730 = 1) ∧ RD σ731.1 := hqv730
                            have hD : RD σ731.1 := by first | exact hqv730.2 | exact hqv730.2.1
                            have hW : WI 28 σ731.1 := WI.tr hOσ731 (by decide) (by decide) (by decide) hW
                            refine ok_if (fun hc732 => ?_) (fun hc732 => ?_)
                            · exact ok_rZ (Or.inl rfl) ⟨hT, (show ((0 : Int32) = 0 ∨ (0 : Int32) = 1) ∧ RD σ731.1 ∧ WI 28 σ731.1 from by first | exact ⟨Or.inl rfl, hD, hW⟩ | exact ⟨Or.inr rfl, hD, hW⟩ | exact ⟨Or.inl hqv730.1, hD, hW⟩ | exact ⟨hqv730.1, hD, hW⟩)⟩
                            · exact ok_rZ (Or.inr rfl) ⟨hT, (show ((1 : Int32) = 0 ∨ (1 : Int32) = 1) ∧ RD σ731.1 ∧ WI 28 σ731.1 from by first | exact ⟨Or.inl rfl, hD, hW⟩ | exact ⟨Or.inr rfl, hD, hW⟩ | exact ⟨Or.inl hqv730.1, hD, hW⟩ | exact ⟨hqv730.1, hD, hW⟩)⟩
                        · rw [J_X5_readLine_211.eq_1]
                          refine ok_if (fun hc733 => ?_) (fun hc733 => ?_)
                          · exact ok_rZ (Or.inl rfl) ⟨hT, (show ((0 : Int32) = 0 ∨ (0 : Int32) = 1) ∧ RD σ727.1 ∧ WI 28 σ727.1 from by first | exact ⟨Or.inl rfl, hD, hW⟩ | exact ⟨Or.inr rfl, hD, hW⟩ | exact ⟨Or.inl hqv726.1, hD, hW⟩ | exact ⟨hqv726.1, hD, hW⟩)⟩
                          · refine ok_gC rfl ?_
                            refine ok_zbT (Q := fun V σ => (V = 0 ∨ V = 1) ∧ RD σ.1) hT (s_X5_pass hN (hR.tr hT) (by first | exact hX | exact hT.1.2 hX) (hD)) (by decide) (fun v734 σ735 hOσ735 hT hqv734 => ?_)
                            have hqv734 : (v734 = 0 ∨ v734 = 1) ∧ RD σ735.1 := hqv734
                            have hD : RD σ735.1 := by first | exact hqv734.2 | exact hqv734.2.1
                            have hW : WI 28 σ735.1 := WI.tr hOσ735 (by decide) (by decide) (by decide) hW
                            refine ok_if (fun hc736 => ?_) (fun hc736 => ?_)
                            · exact ok_rZ (Or.inl rfl) ⟨hT, (show ((0 : Int32) = 0 ∨ (0 : Int32) = 1) ∧ RD σ735.1 ∧ WI 28 σ735.1 from by first | exact ⟨Or.inl rfl, hD, hW⟩ | exact ⟨Or.inr rfl, hD, hW⟩ | exact ⟨Or.inl hqv734.1, hD, hW⟩ | exact ⟨hqv734.1, hD, hW⟩)⟩
                            · exact ok_rZ (Or.inr rfl) ⟨hT, (show ((1 : Int32) = 0 ∨ (1 : Int32) = 1) ∧ RD σ735.1 ∧ WI 28 σ735.1 from by first | exact ⟨Or.inl rfl, hD, hW⟩ | exact ⟨Or.inr rfl, hD, hW⟩ | exact ⟨Or.inl hqv734.1, hD, hW⟩ | exact ⟨hqv734.1, hD, hW⟩)⟩
                · refine ok_gC rfl ?_
                  refine ok_zbT (Q := fun V σ => V = 0 ∧ RD σ.1) hT (s_X5_fail hN (hR.tr hT) (by first | exact hX | exact hT.1.2 hX) (hD)) (by decide) (fun v737 σ738 hOσ738 hT hqv737 => ?_)
                  have hqv737 : v737 = 0 ∧ RD σ738.1 := hqv737
                  have hD : RD σ738.1 := by first | exact hqv737.2 | exact hqv737.2.1
                  have hW : WI 28 σ738.1 := WI.tr hOσ738 (by decide) (by decide) (by decide) hW
                  exact ok_rZ (by have q := hqv737.1; first | exact q | exact Or.inl q | exact Or.inr q) ⟨hT, (show (v737 = 0 ∨ v737 = 1) ∧ RD σ738.1 ∧ WI 28 σ738.1 from by first | exact ⟨Or.inl rfl, hD, hW⟩ | exact ⟨Or.inr rfl, hD, hW⟩ | exact ⟨Or.inl hqv737.1, hD, hW⟩ | exact ⟨hqv737.1, hD, hW⟩)⟩
              · rw [J_X5_readLine_92.eq_1]
                refine ok_gC rfl ?_
                refine ok_zbT (Q := fun V σ => (V = 0 ∨ V = 1) ∧ RD σ.1) hT (s_X5_pass hN (hR.tr hT) (by first | exact hX | exact hT.1.2 hX) (hD)) (by decide) (fun v739 σ740 hOσ740 hT hqv739 => ?_)
                have hqv739 : (v739 = 0 ∨ v739 = 1) ∧ RD σ740.1 := hqv739
                have hD : RD σ740.1 := by first | exact hqv739.2 | exact hqv739.2.1
                have hW : WI 28 σ740.1 := WI.tr hOσ740 (by decide) (by decide) (by decide) hW
                refine ok_gR (v := 62) hT rfl (hR 57 11 rfl) ?_
                refine ok_gI rfl ?_
                refine ok_aIn rfl (by have q1 := hD.1; have q2 := hD.2.1; have q3 := hD0.1; have q4 := hD0.2.1; first | omega | decide | (simp only [Int32.le_iff_toInt_le, Int32.lt_iff_toInt_lt, ti_add, ti_sub, ti_mul, Int32.reduceToInt] at *; omega) | (exfalso; simp_all; done)) (by have q1 := hD.1; have q2 := hD.2.1; have q3 := hD0.1; have q4 := hD0.2.1; first | omega | decide | (simp only [Int32.le_iff_toInt_le, Int32.lt_iff_toInt_lt, ti_add, ti_sub, ti_mul, Int32.reduceToInt] at *; omega) | (exfalso; simp_all; done)) (fun v743 ev743 => ?_)
                refine ok_if (fun hc744 => ?_) (fun hc744 => ?_)
                · refine ok_gC rfl ?_
                  refine ok_zbT (Q := fun V σ => (V = 0 ∨ V = 1) ∧ RD σ.1 ∧ WI 28 σ.1) hT (s_X5_readNames_28 hN (hR.tr hT) (by first | exact hX | exact hT.1.2 hX) (hD) (hW)) (by decide) (fun v745 σ746 hOσ746 hT hqv745 => ?_)
                  have hqv745 : (v745 = 0 ∨ v745 = 1) ∧ RD σ746.1 ∧ WI 28 σ746.1 := hqv745
                  have hD : RD σ746.1 := by first | exact hqv745.2 | exact hqv745.2.1
                  have hW : WI 28 σ746.1 := by first | exact hqv745.2.2 | exact hqv745
                  rw [J_X5_readLine_211.eq_1]
                  refine ok_if (fun hc747 => ?_) (fun hc747 => ?_)
                  · exact ok_rZ (Or.inl rfl) ⟨hT, (show ((0 : Int32) = 0 ∨ (0 : Int32) = 1) ∧ RD σ746.1 ∧ WI 28 σ746.1 from by first | exact ⟨Or.inl rfl, hD, hW⟩ | exact ⟨Or.inr rfl, hD, hW⟩ | exact ⟨Or.inl hqv745.1, hD, hW⟩ | exact ⟨hqv745.1, hD, hW⟩)⟩
                  · refine ok_gC rfl ?_
                    refine ok_zbT (Q := fun V σ => (V = 0 ∨ V = 1) ∧ RD σ.1) hT (s_X5_pass hN (hR.tr hT) (by first | exact hX | exact hT.1.2 hX) (hD)) (by decide) (fun v748 σ749 hOσ749 hT hqv748 => ?_)
                    have hqv748 : (v748 = 0 ∨ v748 = 1) ∧ RD σ749.1 := hqv748
                    have hD : RD σ749.1 := by first | exact hqv748.2 | exact hqv748.2.1
                    have hW : WI 28 σ749.1 := WI.tr hOσ749 (by decide) (by decide) (by decide) hW
                    refine ok_if (fun hc750 => ?_) (fun hc750 => ?_)
                    · exact ok_rZ (Or.inl rfl) ⟨hT, (show ((0 : Int32) = 0 ∨ (0 : Int32) = 1) ∧ RD σ749.1 ∧ WI 28 σ749.1 from by first | exact ⟨Or.inl rfl, hD, hW⟩ | exact ⟨Or.inr rfl, hD, hW⟩ | exact ⟨Or.inl hqv748.1, hD, hW⟩ | exact ⟨hqv748.1, hD, hW⟩)⟩
                    · exact ok_rZ (Or.inr rfl) ⟨hT, (show ((1 : Int32) = 0 ∨ (1 : Int32) = 1) ∧ RD σ749.1 ∧ WI 28 σ749.1 from by first | exact ⟨Or.inl rfl, hD, hW⟩ | exact ⟨Or.inr rfl, hD, hW⟩ | exact ⟨Or.inl hqv748.1, hD, hW⟩ | exact ⟨hqv748.1, hD, hW⟩)⟩
                refine ok_if (fun hc751 => ?_) (fun hc751 => ?_)
                · refine ok_gC rfl ?_
                  refine ok_zbT (Q := fun V σ => (V = 0 ∨ V = 1) ∧ RD σ.1 ∧ WI 28 σ.1) hT (s_X5_readWeight_28 hN (hR.tr hT) (by first | exact hX | exact hT.1.2 hX) (hD) (hW)) (by decide) (fun v752 σ753 hOσ753 hT hqv752 => ?_)
                  have hqv752 : (v752 = 0 ∨ v752 = 1) ∧ RD σ753.1 ∧ WI 28 σ753.1 := hqv752
                  have hD : RD σ753.1 := by first | exact hqv752.2 | exact hqv752.2.1
                  have hW : WI 28 σ753.1 := WI.tr hOσ753 (by decide) (by decide) (by decide) hW
                  rw [J_X5_readLine_211.eq_1]
                  refine ok_if (fun hc754 => ?_) (fun hc754 => ?_)
                  · exact ok_rZ (Or.inl rfl) ⟨hT, (show ((0 : Int32) = 0 ∨ (0 : Int32) = 1) ∧ RD σ753.1 ∧ WI 28 σ753.1 from by first | exact ⟨Or.inl rfl, hD, hW⟩ | exact ⟨Or.inr rfl, hD, hW⟩ | exact ⟨Or.inl hqv752.1, hD, hW⟩ | exact ⟨hqv752.1, hD, hW⟩)⟩
                  · refine ok_gC rfl ?_
                    refine ok_zbT (Q := fun V σ => (V = 0 ∨ V = 1) ∧ RD σ.1) hT (s_X5_pass hN (hR.tr hT) (by first | exact hX | exact hT.1.2 hX) (hD)) (by decide) (fun v755 σ756 hOσ756 hT hqv755 => ?_)
                    have hqv755 : (v755 = 0 ∨ v755 = 1) ∧ RD σ756.1 := hqv755
                    have hD : RD σ756.1 := by first | exact hqv755.2 | exact hqv755.2.1
                    have hW : WI 28 σ756.1 := WI.tr hOσ756 (by decide) (by decide) (by decide) hW
                    refine ok_if (fun hc757 => ?_) (fun hc757 => ?_)
                    · exact ok_rZ (Or.inl rfl) ⟨hT, (show ((0 : Int32) = 0 ∨ (0 : Int32) = 1) ∧ RD σ756.1 ∧ WI 28 σ756.1 from by first | exact ⟨Or.inl rfl, hD, hW⟩ | exact ⟨Or.inr rfl, hD, hW⟩ | exact ⟨Or.inl hqv755.1, hD, hW⟩ | exact ⟨hqv755.1, hD, hW⟩)⟩
                    · exact ok_rZ (Or.inr rfl) ⟨hT, (show ((1 : Int32) = 0 ∨ (1 : Int32) = 1) ∧ RD σ756.1 ∧ WI 28 σ756.1 from by first | exact ⟨Or.inl rfl, hD, hW⟩ | exact ⟨Or.inr rfl, hD, hW⟩ | exact ⟨Or.inl hqv755.1, hD, hW⟩ | exact ⟨hqv755.1, hD, hW⟩)⟩
                refine ok_if (fun hc758 => ?_) (fun hc758 => ?_)
                · refine ok_gC rfl ?_
                  refine ok_zbT (Q := fun V σ => (V = 0 ∨ V = 1) ∧ RD σ.1 ∧ WI 28 σ.1) hT (s_X5_readEdge_28 hN (hR.tr hT) (by first | exact hX | exact hT.1.2 hX) (hD) (hW)) (by decide) (fun v759 σ760 hOσ760 hT hqv759 => ?_)
                  have hqv759 : (v759 = 0 ∨ v759 = 1) ∧ RD σ760.1 ∧ WI 28 σ760.1 := hqv759
                  have hD : RD σ760.1 := by first | exact hqv759.2 | exact hqv759.2.1
                  have hW : WI 28 σ760.1 := by first | exact hqv759.2.2 | exact hqv759
                  rw [J_X5_readLine_211.eq_1]
                  refine ok_if (fun hc761 => ?_) (fun hc761 => ?_)
                  · exact ok_rZ (Or.inl rfl) ⟨hT, (show ((0 : Int32) = 0 ∨ (0 : Int32) = 1) ∧ RD σ760.1 ∧ WI 28 σ760.1 from by first | exact ⟨Or.inl rfl, hD, hW⟩ | exact ⟨Or.inr rfl, hD, hW⟩ | exact ⟨Or.inl hqv759.1, hD, hW⟩ | exact ⟨hqv759.1, hD, hW⟩)⟩
                  · refine ok_gC rfl ?_
                    refine ok_zbT (Q := fun V σ => (V = 0 ∨ V = 1) ∧ RD σ.1) hT (s_X5_pass hN (hR.tr hT) (by first | exact hX | exact hT.1.2 hX) (hD)) (by decide) (fun v762 σ763 hOσ763 hT hqv762 => ?_)
                    have hqv762 : (v762 = 0 ∨ v762 = 1) ∧ RD σ763.1 := hqv762
                    have hD : RD σ763.1 := by first | exact hqv762.2 | exact hqv762.2.1
                    have hW : WI 28 σ763.1 := WI.tr hOσ763 (by decide) (by decide) (by decide) hW
                    refine ok_if (fun hc764 => ?_) (fun hc764 => ?_)
                    · exact ok_rZ (Or.inl rfl) ⟨hT, (show ((0 : Int32) = 0 ∨ (0 : Int32) = 1) ∧ RD σ763.1 ∧ WI 28 σ763.1 from by first | exact ⟨Or.inl rfl, hD, hW⟩ | exact ⟨Or.inr rfl, hD, hW⟩ | exact ⟨Or.inl hqv762.1, hD, hW⟩ | exact ⟨hqv762.1, hD, hW⟩)⟩
                    · exact ok_rZ (Or.inr rfl) ⟨hT, (show ((1 : Int32) = 0 ∨ (1 : Int32) = 1) ∧ RD σ763.1 ∧ WI 28 σ763.1 from by first | exact ⟨Or.inl rfl, hD, hW⟩ | exact ⟨Or.inr rfl, hD, hW⟩ | exact ⟨Or.inl hqv762.1, hD, hW⟩ | exact ⟨hqv762.1, hD, hW⟩)⟩
                refine ok_gC rfl ?_
                refine ok_zbT (Q := fun V σ => (V = 0 ∨ V = 1) ∧ RD σ.1 ∧ (¬ V = 0 → 1 ≤ (σ.1 57 9).toInt ∧ (0 : Int32).toInt ≤ (lastv σ.1).toInt ∧ (lastv σ.1).toInt ≤ (9 : Int32).toInt)) hT (s_X5_passNumber hN (hR.tr hT) (by first | exact hX | exact hT.1.2 hX) (hD)) (by decide) (fun v765 σ766 hOσ766 hT hqv765 => ?_)
                have hqv765 : (v765 = 0 ∨ v765 = 1) ∧ RD σ766.1 ∧ (¬ v765 = 0 → 1 ≤ (σ766.1 57 9).toInt ∧ (0 : Int32).toInt ≤ (lastv σ766.1).toInt ∧ (lastv σ766.1).toInt ≤ (9 : Int32).toInt) := hqv765
                have hD : RD σ766.1 := by first | exact hqv765.2 | exact hqv765.2.1
                have hW : WI 28 σ766.1 := WI.tr hOσ766 (by decide) (by decide) (by decide) hW
                refine ok_if (fun hc767 => ?_) (fun hc767 => ?_)
                · rw [J_X5_readLine_211.eq_1]
                  refine ok_if (fun hc768 => ?_) (fun hc768 => ?_)
                  · exact ok_rZ (Or.inl rfl) ⟨hT, (show ((0 : Int32) = 0 ∨ (0 : Int32) = 1) ∧ RD σ766.1 ∧ WI 28 σ766.1 from by first | exact ⟨Or.inl rfl, hD, hW⟩ | exact ⟨Or.inr rfl, hD, hW⟩ | exact ⟨Or.inl hqv765.1, hD, hW⟩ | exact ⟨hqv765.1, hD, hW⟩)⟩
                  · refine ok_gC rfl ?_
                    refine ok_zbT (Q := fun V σ => (V = 0 ∨ V = 1) ∧ RD σ.1) hT (s_X5_pass hN (hR.tr hT) (by first | exact hX | exact hT.1.2 hX) (hD)) (by decide) (fun v769 σ770 hOσ770 hT hqv769 => ?_)
                    have hqv769 : (v769 = 0 ∨ v769 = 1) ∧ RD σ770.1 := hqv769
                    have hD : RD σ770.1 := by first | exact hqv769.2 | exact hqv769.2.1
                    have hW : WI 28 σ770.1 := WI.tr hOσ770 (by decide) (by decide) (by decide) hW
                    refine ok_if (fun hc771 => ?_) (fun hc771 => ?_)
                    · exact ok_rZ (Or.inl rfl) ⟨hT, (show ((0 : Int32) = 0 ∨ (0 : Int32) = 1) ∧ RD σ770.1 ∧ WI 28 σ770.1 from by first | exact ⟨Or.inl rfl, hD, hW⟩ | exact ⟨Or.inr rfl, hD, hW⟩ | exact ⟨Or.inl hqv769.1, hD, hW⟩ | exact ⟨hqv769.1, hD, hW⟩)⟩
                    · exact ok_rZ (Or.inr rfl) ⟨hT, (show ((1 : Int32) = 0 ∨ (1 : Int32) = 1) ∧ RD σ770.1 ∧ WI 28 σ770.1 from by first | exact ⟨Or.inl rfl, hD, hW⟩ | exact ⟨Or.inr rfl, hD, hW⟩ | exact ⟨Or.inl hqv769.1, hD, hW⟩ | exact ⟨hqv769.1, hD, hW⟩)⟩
                · refine ok_gC rfl ?_
                  refine ok_zbT (Q := fun V σ => (V = 0 ∨ V = 1) ∧ RD σ.1) hT (s_X5_pass hN (hR.tr hT) (by first | exact hX | exact hT.1.2 hX) (hD)) (by decide) (fun v772 σ773 hOσ773 hT hqv772 => ?_)
                  have hqv772 : (v772 = 0 ∨ v772 = 1) ∧ RD σ773.1 := hqv772
                  have hD : RD σ773.1 := by first | exact hqv772.2 | exact hqv772.2.1
                  have hW : WI 28 σ773.1 := WI.tr hOσ773 (by decide) (by decide) (by decide) hW
                  refine ok_if (fun hc774 => ?_) (fun hc774 => ?_)
                  · rw [J_X5_readLine_211.eq_1]
                    refine ok_if (fun hc775 => ?_) (fun hc775 => ?_)
                    · exact ok_rZ (Or.inl rfl) ⟨hT, (show ((0 : Int32) = 0 ∨ (0 : Int32) = 1) ∧ RD σ773.1 ∧ WI 28 σ773.1 from by first | exact ⟨Or.inl rfl, hD, hW⟩ | exact ⟨Or.inr rfl, hD, hW⟩ | exact ⟨Or.inl hqv772.1, hD, hW⟩ | exact ⟨hqv772.1, hD, hW⟩)⟩
                    · refine ok_gC rfl ?_
                      refine ok_zbT (Q := fun V σ => (V = 0 ∨ V = 1) ∧ RD σ.1) hT (s_X5_pass hN (hR.tr hT) (by first | exact hX | exact hT.1.2 hX) (hD)) (by decide) (fun v776 σ777 hOσ777 hT hqv776 => ?_)
                      have hqv776 : (v776 = 0 ∨ v776 = 1) ∧ RD σ777.1 := hqv776
                      have hD : RD σ777.1 := by first | exact hqv776.2 | exact hqv776.2.1
                      have hW : WI 28 σ777.1 := WI.tr hOσ777 (by decide) (by decide) (by decide) hW
                      refine ok_if (fun hc778 => ?_) (fun hc778 => ?_)
                      · exact ok_rZ (Or.inl rfl) ⟨hT, (show ((0 : Int32) = 0 ∨ (0 : Int32) = 1) ∧ RD σ777.1 ∧ WI 28 σ777.1 from by first | exact ⟨Or.inl rfl, hD, hW⟩ | exact ⟨Or.inr rfl, hD, hW⟩ | exact ⟨Or.inl hqv776.1, hD, hW⟩ | exact ⟨hqv776.1, hD, hW⟩)⟩
                      · exact ok_rZ (Or.inr rfl) ⟨hT, (show ((1 : Int32) = 0 ∨ (1 : Int32) = 1) ∧ RD σ777.1 ∧ WI 28 σ777.1 from by first | exact ⟨Or.inl rfl, hD, hW⟩ | exact ⟨Or.inr rfl, hD, hW⟩ | exact ⟨Or.inl hqv776.1, hD, hW⟩ | exact ⟨hqv776.1, hD, hW⟩)⟩
                  · refine ok_gC rfl ?_
                    refine ok_zbT (Q := fun V σ => (V = 0 ∨ V = 1) ∧ RD σ.1) hT (s_X5_sum hN (hR.tr hT) (by first | exact hX | exact hT.1.2 hX) (hD) (by have q1 := hD.1; have q2 := hD.2.1; have q3 := hD0.1; have q4 := hD0.2.1; first | omega | decide | (simp only [Int32.le_iff_toInt_le, Int32.lt_iff_toInt_lt, ti_add, ti_sub, ti_mul, Int32.reduceToInt] at *; omega) | (exfalso; simp_all; done)) (by have q1 := hD.1; have q2 := hD.2.1; have q3 := hD0.1; have q4 := hD0.2.1; first | omega | decide | (simp only [Int32.le_iff_toInt_le, Int32.lt_iff_toInt_lt, ti_add, ti_sub, ti_mul, Int32.reduceToInt] at *; omega) | (exfalso; simp_all; done))) (by decide) (fun v779 σ780 hOσ780 hT hqv779 => ?_)
                    have hqv779 : (v779 = 0 ∨ v779 = 1) ∧ RD σ780.1 := hqv779
                    have hD : RD σ780.1 := by first | exact hqv779.2 | exact hqv779.2.1
                    have hW : WI 28 σ780.1 := WI.tr hOσ780 (by decide) (by decide) (by decide) hW
                    refine ok_if (fun hc781 => ?_) (fun hc781 => ?_)
                    · rw [J_X5_readLine_211.eq_1]
                      refine ok_if (fun hc782 => ?_) (fun hc782 => ?_)
                      · exact ok_rZ (Or.inl rfl) ⟨hT, (show ((0 : Int32) = 0 ∨ (0 : Int32) = 1) ∧ RD σ780.1 ∧ WI 28 σ780.1 from by first | exact ⟨Or.inl rfl, hD, hW⟩ | exact ⟨Or.inr rfl, hD, hW⟩ | exact ⟨Or.inl hqv779.1, hD, hW⟩ | exact ⟨hqv779.1, hD, hW⟩)⟩
                      · refine ok_gC rfl ?_
                        refine ok_zbT (Q := fun V σ => (V = 0 ∨ V = 1) ∧ RD σ.1) hT (s_X5_pass hN (hR.tr hT) (by first | exact hX | exact hT.1.2 hX) (hD)) (by decide) (fun v783 σ784 hOσ784 hT hqv783 => ?_)
                        have hqv783 : (v783 = 0 ∨ v783 = 1) ∧ RD σ784.1 := hqv783
                        have hD : RD σ784.1 := by first | exact hqv783.2 | exact hqv783.2.1
                        have hW : WI 28 σ784.1 := WI.tr hOσ784 (by decide) (by decide) (by decide) hW
                        refine ok_if (fun hc785 => ?_) (fun hc785 => ?_)
                        · exact ok_rZ (Or.inl rfl) ⟨hT, (show ((0 : Int32) = 0 ∨ (0 : Int32) = 1) ∧ RD σ784.1 ∧ WI 28 σ784.1 from by first | exact ⟨Or.inl rfl, hD, hW⟩ | exact ⟨Or.inr rfl, hD, hW⟩ | exact ⟨Or.inl hqv783.1, hD, hW⟩ | exact ⟨hqv783.1, hD, hW⟩)⟩
                        · exact ok_rZ (Or.inr rfl) ⟨hT, (show ((1 : Int32) = 0 ∨ (1 : Int32) = 1) ∧ RD σ784.1 ∧ WI 28 σ784.1 from by first | exact ⟨Or.inl rfl, hD, hW⟩ | exact ⟨Or.inr rfl, hD, hW⟩ | exact ⟨Or.inl hqv783.1, hD, hW⟩ | exact ⟨hqv783.1, hD, hW⟩)⟩
                    · refine ok_gC rfl ?_
                      refine ok_zbT (Q := fun V σ => V = 1 ∧ RD σ.1) hT (s_X5_emit hN (hR.tr hT) (by first | exact hX | exact hT.1.2 hX) (hD)) (by decide) (fun v786 σ787 hOσ787 hT hqv786 => ?_)
                      have hqv786 : v786 = 1 ∧ RD σ787.1 := hqv786
                      have hD : RD σ787.1 := by first | exact hqv786.2 | exact hqv786.2.1
                      have hW : WI 28 σ787.1 := WI.tr hOσ787 (by decide) (by decide) (by decide) hW
                      refine ok_if (fun hc788 => ?_) (fun hc788 => ?_)
                      · rw [J_X5_readLine_211.eq_1]
                        refine ok_if (fun hc789 => ?_) (fun hc789 => ?_)
                        · exact ok_rZ (Or.inl rfl) ⟨hT, (show ((0 : Int32) = 0 ∨ (0 : Int32) = 1) ∧ RD σ787.1 ∧ WI 28 σ787.1 from by first | exact ⟨Or.inl rfl, hD, hW⟩ | exact ⟨Or.inr rfl, hD, hW⟩ | exact ⟨Or.inl hqv786.1, hD, hW⟩ | exact ⟨hqv786.1, hD, hW⟩)⟩
                        · refine ok_gC rfl ?_
                          refine ok_zbT (Q := fun V σ => (V = 0 ∨ V = 1) ∧ RD σ.1) hT (s_X5_pass hN (hR.tr hT) (by first | exact hX | exact hT.1.2 hX) (hD)) (by decide) (fun v790 σ791 hOσ791 hT hqv790 => ?_)
                          have hqv790 : (v790 = 0 ∨ v790 = 1) ∧ RD σ791.1 := hqv790
                          have hD : RD σ791.1 := by first | exact hqv790.2 | exact hqv790.2.1
                          have hW : WI 28 σ791.1 := WI.tr hOσ791 (by decide) (by decide) (by decide) hW
                          refine ok_if (fun hc792 => ?_) (fun hc792 => ?_)
                          · exact ok_rZ (Or.inl rfl) ⟨hT, (show ((0 : Int32) = 0 ∨ (0 : Int32) = 1) ∧ RD σ791.1 ∧ WI 28 σ791.1 from by first | exact ⟨Or.inl rfl, hD, hW⟩ | exact ⟨Or.inr rfl, hD, hW⟩ | exact ⟨Or.inl hqv790.1, hD, hW⟩ | exact ⟨hqv790.1, hD, hW⟩)⟩
                          · exact ok_rZ (Or.inr rfl) ⟨hT, (show ((1 : Int32) = 0 ∨ (1 : Int32) = 1) ∧ RD σ791.1 ∧ WI 28 σ791.1 from by first | exact ⟨Or.inl rfl, hD, hW⟩ | exact ⟨Or.inr rfl, hD, hW⟩ | exact ⟨Or.inl hqv790.1, hD, hW⟩ | exact ⟨hqv790.1, hD, hW⟩)⟩
                      · rw [J_X5_readLine_211.eq_1]
                        refine ok_if (fun hc793 => ?_) (fun hc793 => ?_)
                        · exact ok_rZ (Or.inl rfl) ⟨hT, (show ((0 : Int32) = 0 ∨ (0 : Int32) = 1) ∧ RD σ787.1 ∧ WI 28 σ787.1 from by first | exact ⟨Or.inl rfl, hD, hW⟩ | exact ⟨Or.inr rfl, hD, hW⟩ | exact ⟨Or.inl hqv786.1, hD, hW⟩ | exact ⟨hqv786.1, hD, hW⟩)⟩
                        · refine ok_gC rfl ?_
                          refine ok_zbT (Q := fun V σ => (V = 0 ∨ V = 1) ∧ RD σ.1) hT (s_X5_pass hN (hR.tr hT) (by first | exact hX | exact hT.1.2 hX) (hD)) (by decide) (fun v794 σ795 hOσ795 hT hqv794 => ?_)
                          have hqv794 : (v794 = 0 ∨ v794 = 1) ∧ RD σ795.1 := hqv794
                          have hD : RD σ795.1 := by first | exact hqv794.2 | exact hqv794.2.1
                          have hW : WI 28 σ795.1 := WI.tr hOσ795 (by decide) (by decide) (by decide) hW
                          refine ok_if (fun hc796 => ?_) (fun hc796 => ?_)
                          · exact ok_rZ (Or.inl rfl) ⟨hT, (show ((0 : Int32) = 0 ∨ (0 : Int32) = 1) ∧ RD σ795.1 ∧ WI 28 σ795.1 from by first | exact ⟨Or.inl rfl, hD, hW⟩ | exact ⟨Or.inr rfl, hD, hW⟩ | exact ⟨Or.inl hqv794.1, hD, hW⟩ | exact ⟨hqv794.1, hD, hW⟩)⟩
                          · exact ok_rZ (Or.inr rfl) ⟨hT, (show ((1 : Int32) = 0 ∨ (1 : Int32) = 1) ∧ RD σ795.1 ∧ WI 28 σ795.1 from by first | exact ⟨Or.inl rfl, hD, hW⟩ | exact ⟨Or.inr rfl, hD, hW⟩ | exact ⟨Or.inl hqv794.1, hD, hW⟩ | exact ⟨hqv794.1, hD, hW⟩)⟩
            · refine ok_gC rfl ?_
              refine ok_zbT (Q := fun V σ => V = 0 ∧ RD σ.1) hT (s_X5_fail hN (hR.tr hT) (by first | exact hX | exact hT.1.2 hX) (hD)) (by decide) (fun v797 σ798 hOσ798 hT hqv797 => ?_)
              have hqv797 : v797 = 0 ∧ RD σ798.1 := hqv797
              have hD : RD σ798.1 := by first | exact hqv797.2 | exact hqv797.2.1
              have hW : WI 28 σ798.1 := WI.tr hOσ798 (by decide) (by decide) (by decide) hW
              exact ok_rZ (by have q := hqv797.1; first | exact q | exact Or.inl q | exact Or.inr q) ⟨hT, (show (v797 = 0 ∨ v797 = 1) ∧ RD σ798.1 ∧ WI 28 σ798.1 from by first | exact ⟨Or.inl rfl, hD, hW⟩ | exact ⟨Or.inr rfl, hD, hW⟩ | exact ⟨Or.inl hqv797.1, hD, hW⟩ | exact ⟨hqv797.1, hD, hW⟩)⟩
        · refine ok_gC rfl ?_
          refine ok_zbT (Q := fun V σ => V = 0 ∧ RD σ.1) hT (s_X5_fail hN (hR.tr hT) (by first | exact hX | exact hT.1.2 hX) (hD)) (by decide) (fun v799 σ800 hOσ800 hT hqv799 => ?_)
          have hqv799 : v799 = 0 ∧ RD σ800.1 := hqv799
          have hD : RD σ800.1 := by first | exact hqv799.2 | exact hqv799.2.1
          have hW : WI 28 σ800.1 := WI.tr hOσ800 (by decide) (by decide) (by decide) hW
          exact ok_rZ (by have q := hqv799.1; first | exact q | exact Or.inl q | exact Or.inr q) ⟨hT, (show (v799 = 0 ∨ v799 = 1) ∧ RD σ800.1 ∧ WI 28 σ800.1 from by first | exact ⟨Or.inl rfl, hD, hW⟩ | exact ⟨Or.inr rfl, hD, hW⟩ | exact ⟨Or.inl hqv799.1, hD, hW⟩ | exact ⟨hqv799.1, hD, hW⟩)⟩
    · rw [J_X5_readLine_39.eq_1]
      refine ok_if (fun hc801 => ?_) (fun hc801 => ?_)
      · rw [J_X5_readLine_51.eq_1]
        refine ok_if (fun hc802 => ?_) (fun hc802 => ?_)
        · refine ok_if (fun hc803 => ?_) (fun hc803 => ?_)
          · refine ok_gC rfl ?_
            refine ok_zbT (Q := fun V σ => V = 0 ∧ RD σ.1) hT (s_X5_fail hN (hR.tr hT) (by first | exact hX | exact hT.1.2 hX) (hD)) (by decide) (fun v804 σ805 hOσ805 hT hqv804 => ?_)
            have hqv804 : v804 = 0 ∧ RD σ805.1 := hqv804
            have hD : RD σ805.1 := by first | exact hqv804.2 | exact hqv804.2.1
            have hW : WI 28 σ805.1 := WI.tr hOσ805 (by decide) (by decide) (by decide) hW
            exact ok_rZ (by have q := hqv804.1; first | exact q | exact Or.inl q | exact Or.inr q) ⟨hT, (show (v804 = 0 ∨ v804 = 1) ∧ RD σ805.1 ∧ WI 28 σ805.1 from by first | exact ⟨Or.inl rfl, hD, hW⟩ | exact ⟨Or.inr rfl, hD, hW⟩ | exact ⟨Or.inl hqv804.1, hD, hW⟩ | exact ⟨hqv804.1, hD, hW⟩)⟩
          · refine ok_if (fun hc806 => ?_) (fun hc806 => ?_)
            · refine ok_if (fun hc807 => ?_) (fun hc807 => ?_)
              · refine ok_gI rfl ?_
                refine ok_gI rfl ?_
                refine ok_if (fun hc810 => ?_) (fun hc810 => ?_)
                · rw [J_X5_readLine_92.eq_1]
                  refine ok_gC rfl ?_
                  refine ok_zbT (Q := fun V σ => (V = 0 ∨ V = 1) ∧ RD σ.1) hT (s_X5_pass hN (hR.tr hT) (by first | exact hX | exact hT.1.2 hX) (hD)) (by decide) (fun v811 σ812 hOσ812 hT hqv811 => ?_)
                  have hqv811 : (v811 = 0 ∨ v811 = 1) ∧ RD σ812.1 := hqv811
                  have hD : RD σ812.1 := by first | exact hqv811.2 | exact hqv811.2.1
                  have hW : WI 28 σ812.1 := WI.tr hOσ812 (by decide) (by decide) (by decide) hW
                  refine ok_gR (v := 62) hT rfl (hR 57 11 rfl) ?_
                  refine ok_gI rfl ?_
                  refine ok_aIn rfl (by have q1 := hD.1; have q2 := hD.2.1; have q3 := hD0.1; have q4 := hD0.2.1; first | omega | decide | (simp only [Int32.le_iff_toInt_le, Int32.lt_iff_toInt_lt, ti_add, ti_sub, ti_mul, Int32.reduceToInt] at *; omega) | (exfalso; simp_all; done)) (by have q1 := hD.1; have q2 := hD.2.1; have q3 := hD0.1; have q4 := hD0.2.1; first | omega | decide | (simp only [Int32.le_iff_toInt_le, Int32.lt_iff_toInt_lt, ti_add, ti_sub, ti_mul, Int32.reduceToInt] at *; omega) | (exfalso; simp_all; done)) (fun v815 ev815 => ?_)
                  refine ok_if (fun hc816 => ?_) (fun hc816 => ?_)
                  · refine ok_gC rfl ?_
                    refine ok_zbT (Q := fun V σ => (V = 0 ∨ V = 1) ∧ RD σ.1 ∧ WI 28 σ.1) hT (s_X5_readNames_28 hN (hR.tr hT) (by first | exact hX | exact hT.1.2 hX) (hD) (hW)) (by decide) (fun v817 σ818 hOσ818 hT hqv817 => ?_)
                    have hqv817 : (v817 = 0 ∨ v817 = 1) ∧ RD σ818.1 ∧ WI 28 σ818.1 := hqv817
                    have hD : RD σ818.1 := by first | exact hqv817.2 | exact hqv817.2.1
                    have hW : WI 28 σ818.1 := by first | exact hqv817.2.2 | exact hqv817
                    rw [J_X5_readLine_211.eq_1]
                    refine ok_if (fun hc819 => ?_) (fun hc819 => ?_)
                    · exact ok_rZ (Or.inl rfl) ⟨hT, (show ((0 : Int32) = 0 ∨ (0 : Int32) = 1) ∧ RD σ818.1 ∧ WI 28 σ818.1 from by first | exact ⟨Or.inl rfl, hD, hW⟩ | exact ⟨Or.inr rfl, hD, hW⟩ | exact ⟨Or.inl hqv817.1, hD, hW⟩ | exact ⟨hqv817.1, hD, hW⟩)⟩
                    · refine ok_gC rfl ?_
                      refine ok_zbT (Q := fun V σ => (V = 0 ∨ V = 1) ∧ RD σ.1) hT (s_X5_pass hN (hR.tr hT) (by first | exact hX | exact hT.1.2 hX) (hD)) (by decide) (fun v820 σ821 hOσ821 hT hqv820 => ?_)
                      have hqv820 : (v820 = 0 ∨ v820 = 1) ∧ RD σ821.1 := hqv820
                      have hD : RD σ821.1 := by first | exact hqv820.2 | exact hqv820.2.1
                      have hW : WI 28 σ821.1 := WI.tr hOσ821 (by decide) (by decide) (by decide) hW
                      refine ok_if (fun hc822 => ?_) (fun hc822 => ?_)
                      · exact ok_rZ (Or.inl rfl) ⟨hT, (show ((0 : Int32) = 0 ∨ (0 : Int32) = 1) ∧ RD σ821.1 ∧ WI 28 σ821.1 from by first | exact ⟨Or.inl rfl, hD, hW⟩ | exact ⟨Or.inr rfl, hD, hW⟩ | exact ⟨Or.inl hqv820.1, hD, hW⟩ | exact ⟨hqv820.1, hD, hW⟩)⟩
                      · exact ok_rZ (Or.inr rfl) ⟨hT, (show ((1 : Int32) = 0 ∨ (1 : Int32) = 1) ∧ RD σ821.1 ∧ WI 28 σ821.1 from by first | exact ⟨Or.inl rfl, hD, hW⟩ | exact ⟨Or.inr rfl, hD, hW⟩ | exact ⟨Or.inl hqv820.1, hD, hW⟩ | exact ⟨hqv820.1, hD, hW⟩)⟩
                  refine ok_if (fun hc823 => ?_) (fun hc823 => ?_)
                  · refine ok_gC rfl ?_
                    refine ok_zbT (Q := fun V σ => (V = 0 ∨ V = 1) ∧ RD σ.1 ∧ WI 28 σ.1) hT (s_X5_readWeight_28 hN (hR.tr hT) (by first | exact hX | exact hT.1.2 hX) (hD) (hW)) (by decide) (fun v824 σ825 hOσ825 hT hqv824 => ?_)
                    have hqv824 : (v824 = 0 ∨ v824 = 1) ∧ RD σ825.1 ∧ WI 28 σ825.1 := hqv824
                    have hD : RD σ825.1 := by first | exact hqv824.2 | exact hqv824.2.1
                    have hW : WI 28 σ825.1 := WI.tr hOσ825 (by decide) (by decide) (by decide) hW
                    rw [J_X5_readLine_211.eq_1]
                    refine ok_if (fun hc826 => ?_) (fun hc826 => ?_)
                    · exact ok_rZ (Or.inl rfl) ⟨hT, (show ((0 : Int32) = 0 ∨ (0 : Int32) = 1) ∧ RD σ825.1 ∧ WI 28 σ825.1 from by first | exact ⟨Or.inl rfl, hD, hW⟩ | exact ⟨Or.inr rfl, hD, hW⟩ | exact ⟨Or.inl hqv824.1, hD, hW⟩ | exact ⟨hqv824.1, hD, hW⟩)⟩
                    · refine ok_gC rfl ?_
                      refine ok_zbT (Q := fun V σ => (V = 0 ∨ V = 1) ∧ RD σ.1) hT (s_X5_pass hN (hR.tr hT) (by first | exact hX | exact hT.1.2 hX) (hD)) (by decide) (fun v827 σ828 hOσ828 hT hqv827 => ?_)
                      have hqv827 : (v827 = 0 ∨ v827 = 1) ∧ RD σ828.1 := hqv827
                      have hD : RD σ828.1 := by first | exact hqv827.2 | exact hqv827.2.1
                      have hW : WI 28 σ828.1 := WI.tr hOσ828 (by decide) (by decide) (by decide) hW
                      refine ok_if (fun hc829 => ?_) (fun hc829 => ?_)
                      · exact ok_rZ (Or.inl rfl) ⟨hT, (show ((0 : Int32) = 0 ∨ (0 : Int32) = 1) ∧ RD σ828.1 ∧ WI 28 σ828.1 from by first | exact ⟨Or.inl rfl, hD, hW⟩ | exact ⟨Or.inr rfl, hD, hW⟩ | exact ⟨Or.inl hqv827.1, hD, hW⟩ | exact ⟨hqv827.1, hD, hW⟩)⟩
                      · exact ok_rZ (Or.inr rfl) ⟨hT, (show ((1 : Int32) = 0 ∨ (1 : Int32) = 1) ∧ RD σ828.1 ∧ WI 28 σ828.1 from by first | exact ⟨Or.inl rfl, hD, hW⟩ | exact ⟨Or.inr rfl, hD, hW⟩ | exact ⟨Or.inl hqv827.1, hD, hW⟩ | exact ⟨hqv827.1, hD, hW⟩)⟩
                  refine ok_if (fun hc830 => ?_) (fun hc830 => ?_)
                  · refine ok_gC rfl ?_
                    refine ok_zbT (Q := fun V σ => (V = 0 ∨ V = 1) ∧ RD σ.1 ∧ WI 28 σ.1) hT (s_X5_readEdge_28 hN (hR.tr hT) (by first | exact hX | exact hT.1.2 hX) (hD) (hW)) (by decide) (fun v831 σ832 hOσ832 hT hqv831 => ?_)
                    have hqv831 : (v831 = 0 ∨ v831 = 1) ∧ RD σ832.1 ∧ WI 28 σ832.1 := hqv831
                    have hD : RD σ832.1 := by first | exact hqv831.2 | exact hqv831.2.1
                    have hW : WI 28 σ832.1 := by first | exact hqv831.2.2 | exact hqv831
                    rw [J_X5_readLine_211.eq_1]
                    refine ok_if (fun hc833 => ?_) (fun hc833 => ?_)
                    · exact ok_rZ (Or.inl rfl) ⟨hT, (show ((0 : Int32) = 0 ∨ (0 : Int32) = 1) ∧ RD σ832.1 ∧ WI 28 σ832.1 from by first | exact ⟨Or.inl rfl, hD, hW⟩ | exact ⟨Or.inr rfl, hD, hW⟩ | exact ⟨Or.inl hqv831.1, hD, hW⟩ | exact ⟨hqv831.1, hD, hW⟩)⟩
                    · refine ok_gC rfl ?_
                      refine ok_zbT (Q := fun V σ => (V = 0 ∨ V = 1) ∧ RD σ.1) hT (s_X5_pass hN (hR.tr hT) (by first | exact hX | exact hT.1.2 hX) (hD)) (by decide) (fun v834 σ835 hOσ835 hT hqv834 => ?_)
                      have hqv834 : (v834 = 0 ∨ v834 = 1) ∧ RD σ835.1 := hqv834
                      have hD : RD σ835.1 := by first | exact hqv834.2 | exact hqv834.2.1
                      have hW : WI 28 σ835.1 := WI.tr hOσ835 (by decide) (by decide) (by decide) hW
                      refine ok_if (fun hc836 => ?_) (fun hc836 => ?_)
                      · exact ok_rZ (Or.inl rfl) ⟨hT, (show ((0 : Int32) = 0 ∨ (0 : Int32) = 1) ∧ RD σ835.1 ∧ WI 28 σ835.1 from by first | exact ⟨Or.inl rfl, hD, hW⟩ | exact ⟨Or.inr rfl, hD, hW⟩ | exact ⟨Or.inl hqv834.1, hD, hW⟩ | exact ⟨hqv834.1, hD, hW⟩)⟩
                      · exact ok_rZ (Or.inr rfl) ⟨hT, (show ((1 : Int32) = 0 ∨ (1 : Int32) = 1) ∧ RD σ835.1 ∧ WI 28 σ835.1 from by first | exact ⟨Or.inl rfl, hD, hW⟩ | exact ⟨Or.inr rfl, hD, hW⟩ | exact ⟨Or.inl hqv834.1, hD, hW⟩ | exact ⟨hqv834.1, hD, hW⟩)⟩
                  refine ok_gC rfl ?_
                  refine ok_zbT (Q := fun V σ => (V = 0 ∨ V = 1) ∧ RD σ.1 ∧ (¬ V = 0 → 1 ≤ (σ.1 57 9).toInt ∧ (0 : Int32).toInt ≤ (lastv σ.1).toInt ∧ (lastv σ.1).toInt ≤ (9 : Int32).toInt)) hT (s_X5_passNumber hN (hR.tr hT) (by first | exact hX | exact hT.1.2 hX) (hD)) (by decide) (fun v837 σ838 hOσ838 hT hqv837 => ?_)
                  have hqv837 : (v837 = 0 ∨ v837 = 1) ∧ RD σ838.1 ∧ (¬ v837 = 0 → 1 ≤ (σ838.1 57 9).toInt ∧ (0 : Int32).toInt ≤ (lastv σ838.1).toInt ∧ (lastv σ838.1).toInt ≤ (9 : Int32).toInt) := hqv837
                  have hD : RD σ838.1 := by first | exact hqv837.2 | exact hqv837.2.1
                  have hW : WI 28 σ838.1 := WI.tr hOσ838 (by decide) (by decide) (by decide) hW
                  refine ok_if (fun hc839 => ?_) (fun hc839 => ?_)
                  · rw [J_X5_readLine_211.eq_1]
                    refine ok_if (fun hc840 => ?_) (fun hc840 => ?_)
                    · exact ok_rZ (Or.inl rfl) ⟨hT, (show ((0 : Int32) = 0 ∨ (0 : Int32) = 1) ∧ RD σ838.1 ∧ WI 28 σ838.1 from by first | exact ⟨Or.inl rfl, hD, hW⟩ | exact ⟨Or.inr rfl, hD, hW⟩ | exact ⟨Or.inl hqv837.1, hD, hW⟩ | exact ⟨hqv837.1, hD, hW⟩)⟩
                    · refine ok_gC rfl ?_
                      refine ok_zbT (Q := fun V σ => (V = 0 ∨ V = 1) ∧ RD σ.1) hT (s_X5_pass hN (hR.tr hT) (by first | exact hX | exact hT.1.2 hX) (hD)) (by decide) (fun v841 σ842 hOσ842 hT hqv841 => ?_)
                      have hqv841 : (v841 = 0 ∨ v841 = 1) ∧ RD σ842.1 := hqv841
                      have hD : RD σ842.1 := by first | exact hqv841.2 | exact hqv841.2.1
                      have hW : WI 28 σ842.1 := WI.tr hOσ842 (by decide) (by decide) (by decide) hW
                      refine ok_if (fun hc843 => ?_) (fun hc843 => ?_)
                      · exact ok_rZ (Or.inl rfl) ⟨hT, (show ((0 : Int32) = 0 ∨ (0 : Int32) = 1) ∧ RD σ842.1 ∧ WI 28 σ842.1 from by first | exact ⟨Or.inl rfl, hD, hW⟩ | exact ⟨Or.inr rfl, hD, hW⟩ | exact ⟨Or.inl hqv841.1, hD, hW⟩ | exact ⟨hqv841.1, hD, hW⟩)⟩
                      · exact ok_rZ (Or.inr rfl) ⟨hT, (show ((1 : Int32) = 0 ∨ (1 : Int32) = 1) ∧ RD σ842.1 ∧ WI 28 σ842.1 from by first | exact ⟨Or.inl rfl, hD, hW⟩ | exact ⟨Or.inr rfl, hD, hW⟩ | exact ⟨Or.inl hqv841.1, hD, hW⟩ | exact ⟨hqv841.1, hD, hW⟩)⟩
                  · refine ok_gC rfl ?_
                    refine ok_zbT (Q := fun V σ => (V = 0 ∨ V = 1) ∧ RD σ.1) hT (s_X5_pass hN (hR.tr hT) (by first | exact hX | exact hT.1.2 hX) (hD)) (by decide) (fun v844 σ845 hOσ845 hT hqv844 => ?_)
                    have hqv844 : (v844 = 0 ∨ v844 = 1) ∧ RD σ845.1 := hqv844
                    have hD : RD σ845.1 := by first | exact hqv844.2 | exact hqv844.2.1
                    have hW : WI 28 σ845.1 := WI.tr hOσ845 (by decide) (by decide) (by decide) hW
                    refine ok_if (fun hc846 => ?_) (fun hc846 => ?_)
                    · rw [J_X5_readLine_211.eq_1]
                      refine ok_if (fun hc847 => ?_) (fun hc847 => ?_)
                      · exact ok_rZ (Or.inl rfl) ⟨hT, (show ((0 : Int32) = 0 ∨ (0 : Int32) = 1) ∧ RD σ845.1 ∧ WI 28 σ845.1 from by first | exact ⟨Or.inl rfl, hD, hW⟩ | exact ⟨Or.inr rfl, hD, hW⟩ | exact ⟨Or.inl hqv844.1, hD, hW⟩ | exact ⟨hqv844.1, hD, hW⟩)⟩
                      · refine ok_gC rfl ?_
                        refine ok_zbT (Q := fun V σ => (V = 0 ∨ V = 1) ∧ RD σ.1) hT (s_X5_pass hN (hR.tr hT) (by first | exact hX | exact hT.1.2 hX) (hD)) (by decide) (fun v848 σ849 hOσ849 hT hqv848 => ?_)
                        have hqv848 : (v848 = 0 ∨ v848 = 1) ∧ RD σ849.1 := hqv848
                        have hD : RD σ849.1 := by first | exact hqv848.2 | exact hqv848.2.1
                        have hW : WI 28 σ849.1 := WI.tr hOσ849 (by decide) (by decide) (by decide) hW
                        refine ok_if (fun hc850 => ?_) (fun hc850 => ?_)
                        · exact ok_rZ (Or.inl rfl) ⟨hT, (show ((0 : Int32) = 0 ∨ (0 : Int32) = 1) ∧ RD σ849.1 ∧ WI 28 σ849.1 from by first | exact ⟨Or.inl rfl, hD, hW⟩ | exact ⟨Or.inr rfl, hD, hW⟩ | exact ⟨Or.inl hqv848.1, hD, hW⟩ | exact ⟨hqv848.1, hD, hW⟩)⟩
                        · exact ok_rZ (Or.inr rfl) ⟨hT, (show ((1 : Int32) = 0 ∨ (1 : Int32) = 1) ∧ RD σ849.1 ∧ WI 28 σ849.1 from by first | exact ⟨Or.inl rfl, hD, hW⟩ | exact ⟨Or.inr rfl, hD, hW⟩ | exact ⟨Or.inl hqv848.1, hD, hW⟩ | exact ⟨hqv848.1, hD, hW⟩)⟩
                    · refine ok_gC rfl ?_
                      refine ok_zbT (Q := fun V σ => (V = 0 ∨ V = 1) ∧ RD σ.1) hT (s_X5_sum hN (hR.tr hT) (by first | exact hX | exact hT.1.2 hX) (hD) (by have q1 := hD.1; have q2 := hD.2.1; have q3 := hD0.1; have q4 := hD0.2.1; first | omega | decide | (simp only [Int32.le_iff_toInt_le, Int32.lt_iff_toInt_lt, ti_add, ti_sub, ti_mul, Int32.reduceToInt] at *; omega) | (exfalso; simp_all; done)) (by have q1 := hD.1; have q2 := hD.2.1; have q3 := hD0.1; have q4 := hD0.2.1; first | omega | decide | (simp only [Int32.le_iff_toInt_le, Int32.lt_iff_toInt_lt, ti_add, ti_sub, ti_mul, Int32.reduceToInt] at *; omega) | (exfalso; simp_all; done))) (by decide) (fun v851 σ852 hOσ852 hT hqv851 => ?_)
                      have hqv851 : (v851 = 0 ∨ v851 = 1) ∧ RD σ852.1 := hqv851
                      have hD : RD σ852.1 := by first | exact hqv851.2 | exact hqv851.2.1
                      have hW : WI 28 σ852.1 := WI.tr hOσ852 (by decide) (by decide) (by decide) hW
                      refine ok_if (fun hc853 => ?_) (fun hc853 => ?_)
                      · rw [J_X5_readLine_211.eq_1]
                        refine ok_if (fun hc854 => ?_) (fun hc854 => ?_)
                        · exact ok_rZ (Or.inl rfl) ⟨hT, (show ((0 : Int32) = 0 ∨ (0 : Int32) = 1) ∧ RD σ852.1 ∧ WI 28 σ852.1 from by first | exact ⟨Or.inl rfl, hD, hW⟩ | exact ⟨Or.inr rfl, hD, hW⟩ | exact ⟨Or.inl hqv851.1, hD, hW⟩ | exact ⟨hqv851.1, hD, hW⟩)⟩
                        · refine ok_gC rfl ?_
                          refine ok_zbT (Q := fun V σ => (V = 0 ∨ V = 1) ∧ RD σ.1) hT (s_X5_pass hN (hR.tr hT) (by first | exact hX | exact hT.1.2 hX) (hD)) (by decide) (fun v855 σ856 hOσ856 hT hqv855 => ?_)
                          have hqv855 : (v855 = 0 ∨ v855 = 1) ∧ RD σ856.1 := hqv855
                          have hD : RD σ856.1 := by first | exact hqv855.2 | exact hqv855.2.1
                          have hW : WI 28 σ856.1 := WI.tr hOσ856 (by decide) (by decide) (by decide) hW
                          refine ok_if (fun hc857 => ?_) (fun hc857 => ?_)
                          · exact ok_rZ (Or.inl rfl) ⟨hT, (show ((0 : Int32) = 0 ∨ (0 : Int32) = 1) ∧ RD σ856.1 ∧ WI 28 σ856.1 from by first | exact ⟨Or.inl rfl, hD, hW⟩ | exact ⟨Or.inr rfl, hD, hW⟩ | exact ⟨Or.inl hqv855.1, hD, hW⟩ | exact ⟨hqv855.1, hD, hW⟩)⟩
                          · exact ok_rZ (Or.inr rfl) ⟨hT, (show ((1 : Int32) = 0 ∨ (1 : Int32) = 1) ∧ RD σ856.1 ∧ WI 28 σ856.1 from by first | exact ⟨Or.inl rfl, hD, hW⟩ | exact ⟨Or.inr rfl, hD, hW⟩ | exact ⟨Or.inl hqv855.1, hD, hW⟩ | exact ⟨hqv855.1, hD, hW⟩)⟩
                      · refine ok_gC rfl ?_
                        refine ok_zbT (Q := fun V σ => V = 1 ∧ RD σ.1) hT (s_X5_emit hN (hR.tr hT) (by first | exact hX | exact hT.1.2 hX) (hD)) (by decide) (fun v858 σ859 hOσ859 hT hqv858 => ?_)
                        have hqv858 : v858 = 1 ∧ RD σ859.1 := hqv858
                        have hD : RD σ859.1 := by first | exact hqv858.2 | exact hqv858.2.1
                        have hW : WI 28 σ859.1 := WI.tr hOσ859 (by decide) (by decide) (by decide) hW
                        refine ok_if (fun hc860 => ?_) (fun hc860 => ?_)
                        · rw [J_X5_readLine_211.eq_1]
                          refine ok_if (fun hc861 => ?_) (fun hc861 => ?_)
                          · exact ok_rZ (Or.inl rfl) ⟨hT, (show ((0 : Int32) = 0 ∨ (0 : Int32) = 1) ∧ RD σ859.1 ∧ WI 28 σ859.1 from by first | exact ⟨Or.inl rfl, hD, hW⟩ | exact ⟨Or.inr rfl, hD, hW⟩ | exact ⟨Or.inl hqv858.1, hD, hW⟩ | exact ⟨hqv858.1, hD, hW⟩)⟩
                          · refine ok_gC rfl ?_
                            refine ok_zbT (Q := fun V σ => (V = 0 ∨ V = 1) ∧ RD σ.1) hT (s_X5_pass hN (hR.tr hT) (by first | exact hX | exact hT.1.2 hX) (hD)) (by decide) (fun v862 σ863 hOσ863 hT hqv862 => ?_)
                            have hqv862 : (v862 = 0 ∨ v862 = 1) ∧ RD σ863.1 := hqv862
                            have hD : RD σ863.1 := by first | exact hqv862.2 | exact hqv862.2.1
                            have hW : WI 28 σ863.1 := WI.tr hOσ863 (by decide) (by decide) (by decide) hW
                            refine ok_if (fun hc864 => ?_) (fun hc864 => ?_)
                            · exact ok_rZ (Or.inl rfl) ⟨hT, (show ((0 : Int32) = 0 ∨ (0 : Int32) = 1) ∧ RD σ863.1 ∧ WI 28 σ863.1 from by first | exact ⟨Or.inl rfl, hD, hW⟩ | exact ⟨Or.inr rfl, hD, hW⟩ | exact ⟨Or.inl hqv862.1, hD, hW⟩ | exact ⟨hqv862.1, hD, hW⟩)⟩
                            · exact ok_rZ (Or.inr rfl) ⟨hT, (show ((1 : Int32) = 0 ∨ (1 : Int32) = 1) ∧ RD σ863.1 ∧ WI 28 σ863.1 from by first | exact ⟨Or.inl rfl, hD, hW⟩ | exact ⟨Or.inr rfl, hD, hW⟩ | exact ⟨Or.inl hqv862.1, hD, hW⟩ | exact ⟨hqv862.1, hD, hW⟩)⟩
                        · rw [J_X5_readLine_211.eq_1]
                          refine ok_if (fun hc865 => ?_) (fun hc865 => ?_)
                          · exact ok_rZ (Or.inl rfl) ⟨hT, (show ((0 : Int32) = 0 ∨ (0 : Int32) = 1) ∧ RD σ859.1 ∧ WI 28 σ859.1 from by first | exact ⟨Or.inl rfl, hD, hW⟩ | exact ⟨Or.inr rfl, hD, hW⟩ | exact ⟨Or.inl hqv858.1, hD, hW⟩ | exact ⟨hqv858.1, hD, hW⟩)⟩
                          · refine ok_gC rfl ?_
                            refine ok_zbT (Q := fun V σ => (V = 0 ∨ V = 1) ∧ RD σ.1) hT (s_X5_pass hN (hR.tr hT) (by first | exact hX | exact hT.1.2 hX) (hD)) (by decide) (fun v866 σ867 hOσ867 hT hqv866 => ?_)
                            have hqv866 : (v866 = 0 ∨ v866 = 1) ∧ RD σ867.1 := hqv866
                            have hD : RD σ867.1 := by first | exact hqv866.2 | exact hqv866.2.1
                            have hW : WI 28 σ867.1 := WI.tr hOσ867 (by decide) (by decide) (by decide) hW
                            refine ok_if (fun hc868 => ?_) (fun hc868 => ?_)
                            · exact ok_rZ (Or.inl rfl) ⟨hT, (show ((0 : Int32) = 0 ∨ (0 : Int32) = 1) ∧ RD σ867.1 ∧ WI 28 σ867.1 from by first | exact ⟨Or.inl rfl, hD, hW⟩ | exact ⟨Or.inr rfl, hD, hW⟩ | exact ⟨Or.inl hqv866.1, hD, hW⟩ | exact ⟨hqv866.1, hD, hW⟩)⟩
                            · exact ok_rZ (Or.inr rfl) ⟨hT, (show ((1 : Int32) = 0 ∨ (1 : Int32) = 1) ∧ RD σ867.1 ∧ WI 28 σ867.1 from by first | exact ⟨Or.inl rfl, hD, hW⟩ | exact ⟨Or.inr rfl, hD, hW⟩ | exact ⟨Or.inl hqv866.1, hD, hW⟩ | exact ⟨hqv866.1, hD, hW⟩)⟩
                · refine ok_gC rfl ?_
                  refine ok_zbT (Q := fun V σ => V = 0 ∧ RD σ.1) hT (s_X5_fail hN (hR.tr hT) (by first | exact hX | exact hT.1.2 hX) (hD)) (by decide) (fun v869 σ870 hOσ870 hT hqv869 => ?_)
                  have hqv869 : v869 = 0 ∧ RD σ870.1 := hqv869
                  have hD : RD σ870.1 := by first | exact hqv869.2 | exact hqv869.2.1
                  have hW : WI 28 σ870.1 := WI.tr hOσ870 (by decide) (by decide) (by decide) hW
                  exact ok_rZ (by have q := hqv869.1; first | exact q | exact Or.inl q | exact Or.inr q) ⟨hT, (show (v869 = 0 ∨ v869 = 1) ∧ RD σ870.1 ∧ WI 28 σ870.1 from by first | exact ⟨Or.inl rfl, hD, hW⟩ | exact ⟨Or.inr rfl, hD, hW⟩ | exact ⟨Or.inl hqv869.1, hD, hW⟩ | exact ⟨hqv869.1, hD, hW⟩)⟩
              · rw [J_X5_readLine_92.eq_1]
                refine ok_gC rfl ?_
                refine ok_zbT (Q := fun V σ => (V = 0 ∨ V = 1) ∧ RD σ.1) hT (s_X5_pass hN (hR.tr hT) (by first | exact hX | exact hT.1.2 hX) (hD)) (by decide) (fun v871 σ872 hOσ872 hT hqv871 => ?_)
                have hqv871 : (v871 = 0 ∨ v871 = 1) ∧ RD σ872.1 := hqv871
                have hD : RD σ872.1 := by first | exact hqv871.2 | exact hqv871.2.1
                have hW : WI 28 σ872.1 := WI.tr hOσ872 (by decide) (by decide) (by decide) hW
                refine ok_gR (v := 62) hT rfl (hR 57 11 rfl) ?_
                refine ok_gI rfl ?_
                refine ok_aIn rfl (by have q1 := hD.1; have q2 := hD.2.1; have q3 := hD0.1; have q4 := hD0.2.1; first | omega | decide | (simp only [Int32.le_iff_toInt_le, Int32.lt_iff_toInt_lt, ti_add, ti_sub, ti_mul, Int32.reduceToInt] at *; omega) | (exfalso; simp_all; done)) (by have q1 := hD.1; have q2 := hD.2.1; have q3 := hD0.1; have q4 := hD0.2.1; first | omega | decide | (simp only [Int32.le_iff_toInt_le, Int32.lt_iff_toInt_lt, ti_add, ti_sub, ti_mul, Int32.reduceToInt] at *; omega) | (exfalso; simp_all; done)) (fun v875 ev875 => ?_)
                refine ok_if (fun hc876 => ?_) (fun hc876 => ?_)
                · refine ok_gC rfl ?_
                  refine ok_zbT (Q := fun V σ => (V = 0 ∨ V = 1) ∧ RD σ.1 ∧ WI 28 σ.1) hT (s_X5_readNames_28 hN (hR.tr hT) (by first | exact hX | exact hT.1.2 hX) (hD) (hW)) (by decide) (fun v877 σ878 hOσ878 hT hqv877 => ?_)
                  have hqv877 : (v877 = 0 ∨ v877 = 1) ∧ RD σ878.1 ∧ WI 28 σ878.1 := hqv877
                  have hD : RD σ878.1 := by first | exact hqv877.2 | exact hqv877.2.1
                  have hW : WI 28 σ878.1 := by first | exact hqv877.2.2 | exact hqv877
                  rw [J_X5_readLine_211.eq_1]
                  refine ok_if (fun hc879 => ?_) (fun hc879 => ?_)
                  · exact ok_rZ (Or.inl rfl) ⟨hT, (show ((0 : Int32) = 0 ∨ (0 : Int32) = 1) ∧ RD σ878.1 ∧ WI 28 σ878.1 from by first | exact ⟨Or.inl rfl, hD, hW⟩ | exact ⟨Or.inr rfl, hD, hW⟩ | exact ⟨Or.inl hqv877.1, hD, hW⟩ | exact ⟨hqv877.1, hD, hW⟩)⟩
                  · refine ok_gC rfl ?_
                    refine ok_zbT (Q := fun V σ => (V = 0 ∨ V = 1) ∧ RD σ.1) hT (s_X5_pass hN (hR.tr hT) (by first | exact hX | exact hT.1.2 hX) (hD)) (by decide) (fun v880 σ881 hOσ881 hT hqv880 => ?_)
                    have hqv880 : (v880 = 0 ∨ v880 = 1) ∧ RD σ881.1 := hqv880
                    have hD : RD σ881.1 := by first | exact hqv880.2 | exact hqv880.2.1
                    have hW : WI 28 σ881.1 := WI.tr hOσ881 (by decide) (by decide) (by decide) hW
                    refine ok_if (fun hc882 => ?_) (fun hc882 => ?_)
                    · exact ok_rZ (Or.inl rfl) ⟨hT, (show ((0 : Int32) = 0 ∨ (0 : Int32) = 1) ∧ RD σ881.1 ∧ WI 28 σ881.1 from by first | exact ⟨Or.inl rfl, hD, hW⟩ | exact ⟨Or.inr rfl, hD, hW⟩ | exact ⟨Or.inl hqv880.1, hD, hW⟩ | exact ⟨hqv880.1, hD, hW⟩)⟩
                    · exact ok_rZ (Or.inr rfl) ⟨hT, (show ((1 : Int32) = 0 ∨ (1 : Int32) = 1) ∧ RD σ881.1 ∧ WI 28 σ881.1 from by first | exact ⟨Or.inl rfl, hD, hW⟩ | exact ⟨Or.inr rfl, hD, hW⟩ | exact ⟨Or.inl hqv880.1, hD, hW⟩ | exact ⟨hqv880.1, hD, hW⟩)⟩
                refine ok_if (fun hc883 => ?_) (fun hc883 => ?_)
                · refine ok_gC rfl ?_
                  refine ok_zbT (Q := fun V σ => (V = 0 ∨ V = 1) ∧ RD σ.1 ∧ WI 28 σ.1) hT (s_X5_readWeight_28 hN (hR.tr hT) (by first | exact hX | exact hT.1.2 hX) (hD) (hW)) (by decide) (fun v884 σ885 hOσ885 hT hqv884 => ?_)
                  have hqv884 : (v884 = 0 ∨ v884 = 1) ∧ RD σ885.1 ∧ WI 28 σ885.1 := hqv884
                  have hD : RD σ885.1 := by first | exact hqv884.2 | exact hqv884.2.1
                  have hW : WI 28 σ885.1 := WI.tr hOσ885 (by decide) (by decide) (by decide) hW
                  rw [J_X5_readLine_211.eq_1]
                  refine ok_if (fun hc886 => ?_) (fun hc886 => ?_)
                  · exact ok_rZ (Or.inl rfl) ⟨hT, (show ((0 : Int32) = 0 ∨ (0 : Int32) = 1) ∧ RD σ885.1 ∧ WI 28 σ885.1 from by first | exact ⟨Or.inl rfl, hD, hW⟩ | exact ⟨Or.inr rfl, hD, hW⟩ | exact ⟨Or.inl hqv884.1, hD, hW⟩ | exact ⟨hqv884.1, hD, hW⟩)⟩
                  · refine ok_gC rfl ?_
                    refine ok_zbT (Q := fun V σ => (V = 0 ∨ V = 1) ∧ RD σ.1) hT (s_X5_pass hN (hR.tr hT) (by first | exact hX | exact hT.1.2 hX) (hD)) (by decide) (fun v887 σ888 hOσ888 hT hqv887 => ?_)
                    have hqv887 : (v887 = 0 ∨ v887 = 1) ∧ RD σ888.1 := hqv887
                    have hD : RD σ888.1 := by first | exact hqv887.2 | exact hqv887.2.1
                    have hW : WI 28 σ888.1 := WI.tr hOσ888 (by decide) (by decide) (by decide) hW
                    refine ok_if (fun hc889 => ?_) (fun hc889 => ?_)
                    · exact ok_rZ (Or.inl rfl) ⟨hT, (show ((0 : Int32) = 0 ∨ (0 : Int32) = 1) ∧ RD σ888.1 ∧ WI 28 σ888.1 from by first | exact ⟨Or.inl rfl, hD, hW⟩ | exact ⟨Or.inr rfl, hD, hW⟩ | exact ⟨Or.inl hqv887.1, hD, hW⟩ | exact ⟨hqv887.1, hD, hW⟩)⟩
                    · exact ok_rZ (Or.inr rfl) ⟨hT, (show ((1 : Int32) = 0 ∨ (1 : Int32) = 1) ∧ RD σ888.1 ∧ WI 28 σ888.1 from by first | exact ⟨Or.inl rfl, hD, hW⟩ | exact ⟨Or.inr rfl, hD, hW⟩ | exact ⟨Or.inl hqv887.1, hD, hW⟩ | exact ⟨hqv887.1, hD, hW⟩)⟩
                refine ok_if (fun hc890 => ?_) (fun hc890 => ?_)
                · refine ok_gC rfl ?_
                  refine ok_zbT (Q := fun V σ => (V = 0 ∨ V = 1) ∧ RD σ.1 ∧ WI 28 σ.1) hT (s_X5_readEdge_28 hN (hR.tr hT) (by first | exact hX | exact hT.1.2 hX) (hD) (hW)) (by decide) (fun v891 σ892 hOσ892 hT hqv891 => ?_)
                  have hqv891 : (v891 = 0 ∨ v891 = 1) ∧ RD σ892.1 ∧ WI 28 σ892.1 := hqv891
                  have hD : RD σ892.1 := by first | exact hqv891.2 | exact hqv891.2.1
                  have hW : WI 28 σ892.1 := by first | exact hqv891.2.2 | exact hqv891
                  rw [J_X5_readLine_211.eq_1]
                  refine ok_if (fun hc893 => ?_) (fun hc893 => ?_)
                  · exact ok_rZ (Or.inl rfl) ⟨hT, (show ((0 : Int32) = 0 ∨ (0 : Int32) = 1) ∧ RD σ892.1 ∧ WI 28 σ892.1 from by first | exact ⟨Or.inl rfl, hD, hW⟩ | exact ⟨Or.inr rfl, hD, hW⟩ | exact ⟨Or.inl hqv891.1, hD, hW⟩ | exact ⟨hqv891.1, hD, hW⟩)⟩
                  · refine ok_gC rfl ?_
                    refine ok_zbT (Q := fun V σ => (V = 0 ∨ V = 1) ∧ RD σ.1) hT (s_X5_pass hN (hR.tr hT) (by first | exact hX | exact hT.1.2 hX) (hD)) (by decide) (fun v894 σ895 hOσ895 hT hqv894 => ?_)
                    have hqv894 : (v894 = 0 ∨ v894 = 1) ∧ RD σ895.1 := hqv894
                    have hD : RD σ895.1 := by first | exact hqv894.2 | exact hqv894.2.1
                    have hW : WI 28 σ895.1 := WI.tr hOσ895 (by decide) (by decide) (by decide) hW
                    refine ok_if (fun hc896 => ?_) (fun hc896 => ?_)
                    · exact ok_rZ (Or.inl rfl) ⟨hT, (show ((0 : Int32) = 0 ∨ (0 : Int32) = 1) ∧ RD σ895.1 ∧ WI 28 σ895.1 from by first | exact ⟨Or.inl rfl, hD, hW⟩ | exact ⟨Or.inr rfl, hD, hW⟩ | exact ⟨Or.inl hqv894.1, hD, hW⟩ | exact ⟨hqv894.1, hD, hW⟩)⟩
                    · exact ok_rZ (Or.inr rfl) ⟨hT, (show ((1 : Int32) = 0 ∨ (1 : Int32) = 1) ∧ RD σ895.1 ∧ WI 28 σ895.1 from by first | exact ⟨Or.inl rfl, hD, hW⟩ | exact ⟨Or.inr rfl, hD, hW⟩ | exact ⟨Or.inl hqv894.1, hD, hW⟩ | exact ⟨hqv894.1, hD, hW⟩)⟩
                refine ok_gC rfl ?_
                refine ok_zbT (Q := fun V σ => (V = 0 ∨ V = 1) ∧ RD σ.1 ∧ (¬ V = 0 → 1 ≤ (σ.1 57 9).toInt ∧ (0 : Int32).toInt ≤ (lastv σ.1).toInt ∧ (lastv σ.1).toInt ≤ (9 : Int32).toInt)) hT (s_X5_passNumber hN (hR.tr hT) (by first | exact hX | exact hT.1.2 hX) (hD)) (by decide) (fun v897 σ898 hOσ898 hT hqv897 => ?_)
                have hqv897 : (v897 = 0 ∨ v897 = 1) ∧ RD σ898.1 ∧ (¬ v897 = 0 → 1 ≤ (σ898.1 57 9).toInt ∧ (0 : Int32).toInt ≤ (lastv σ898.1).toInt ∧ (lastv σ898.1).toInt ≤ (9 : Int32).toInt) := hqv897
                have hD : RD σ898.1 := by first | exact hqv897.2 | exact hqv897.2.1
                have hW : WI 28 σ898.1 := WI.tr hOσ898 (by decide) (by decide) (by decide) hW
                refine ok_if (fun hc899 => ?_) (fun hc899 => ?_)
                · rw [J_X5_readLine_211.eq_1]
                  refine ok_if (fun hc900 => ?_) (fun hc900 => ?_)
                  · exact ok_rZ (Or.inl rfl) ⟨hT, (show ((0 : Int32) = 0 ∨ (0 : Int32) = 1) ∧ RD σ898.1 ∧ WI 28 σ898.1 from by first | exact ⟨Or.inl rfl, hD, hW⟩ | exact ⟨Or.inr rfl, hD, hW⟩ | exact ⟨Or.inl hqv897.1, hD, hW⟩ | exact ⟨hqv897.1, hD, hW⟩)⟩
                  · refine ok_gC rfl ?_
                    refine ok_zbT (Q := fun V σ => (V = 0 ∨ V = 1) ∧ RD σ.1) hT (s_X5_pass hN (hR.tr hT) (by first | exact hX | exact hT.1.2 hX) (hD)) (by decide) (fun v901 σ902 hOσ902 hT hqv901 => ?_)
                    have hqv901 : (v901 = 0 ∨ v901 = 1) ∧ RD σ902.1 := hqv901
                    have hD : RD σ902.1 := by first | exact hqv901.2 | exact hqv901.2.1
                    have hW : WI 28 σ902.1 := WI.tr hOσ902 (by decide) (by decide) (by decide) hW
                    refine ok_if (fun hc903 => ?_) (fun hc903 => ?_)
                    · exact ok_rZ (Or.inl rfl) ⟨hT, (show ((0 : Int32) = 0 ∨ (0 : Int32) = 1) ∧ RD σ902.1 ∧ WI 28 σ902.1 from by first | exact ⟨Or.inl rfl, hD, hW⟩ | exact ⟨Or.inr rfl, hD, hW⟩ | exact ⟨Or.inl hqv901.1, hD, hW⟩ | exact ⟨hqv901.1, hD, hW⟩)⟩
                    · exact ok_rZ (Or.inr rfl) ⟨hT, (show ((1 : Int32) = 0 ∨ (1 : Int32) = 1) ∧ RD σ902.1 ∧ WI 28 σ902.1 from by first | exact ⟨Or.inl rfl, hD, hW⟩ | exact ⟨Or.inr rfl, hD, hW⟩ | exact ⟨Or.inl hqv901.1, hD, hW⟩ | exact ⟨hqv901.1, hD, hW⟩)⟩
                · refine ok_gC rfl ?_
                  refine ok_zbT (Q := fun V σ => (V = 0 ∨ V = 1) ∧ RD σ.1) hT (s_X5_pass hN (hR.tr hT) (by first | exact hX | exact hT.1.2 hX) (hD)) (by decide) (fun v904 σ905 hOσ905 hT hqv904 => ?_)
                  have hqv904 : (v904 = 0 ∨ v904 = 1) ∧ RD σ905.1 := hqv904
                  have hD : RD σ905.1 := by first | exact hqv904.2 | exact hqv904.2.1
                  have hW : WI 28 σ905.1 := WI.tr hOσ905 (by decide) (by decide) (by decide) hW
                  refine ok_if (fun hc906 => ?_) (fun hc906 => ?_)
                  · rw [J_X5_readLine_211.eq_1]
                    refine ok_if (fun hc907 => ?_) (fun hc907 => ?_)
                    · exact ok_rZ (Or.inl rfl) ⟨hT, (show ((0 : Int32) = 0 ∨ (0 : Int32) = 1) ∧ RD σ905.1 ∧ WI 28 σ905.1 from by first | exact ⟨Or.inl rfl, hD, hW⟩ | exact ⟨Or.inr rfl, hD, hW⟩ | exact ⟨Or.inl hqv904.1, hD, hW⟩ | exact ⟨hqv904.1, hD, hW⟩)⟩
                    · refine ok_gC rfl ?_
                      refine ok_zbT (Q := fun V σ => (V = 0 ∨ V = 1) ∧ RD σ.1) hT (s_X5_pass hN (hR.tr hT) (by first | exact hX | exact hT.1.2 hX) (hD)) (by decide) (fun v908 σ909 hOσ909 hT hqv908 => ?_)
                      have hqv908 : (v908 = 0 ∨ v908 = 1) ∧ RD σ909.1 := hqv908
                      have hD : RD σ909.1 := by first | exact hqv908.2 | exact hqv908.2.1
                      have hW : WI 28 σ909.1 := WI.tr hOσ909 (by decide) (by decide) (by decide) hW
                      refine ok_if (fun hc910 => ?_) (fun hc910 => ?_)
                      · exact ok_rZ (Or.inl rfl) ⟨hT, (show ((0 : Int32) = 0 ∨ (0 : Int32) = 1) ∧ RD σ909.1 ∧ WI 28 σ909.1 from by first | exact ⟨Or.inl rfl, hD, hW⟩ | exact ⟨Or.inr rfl, hD, hW⟩ | exact ⟨Or.inl hqv908.1, hD, hW⟩ | exact ⟨hqv908.1, hD, hW⟩)⟩
                      · exact ok_rZ (Or.inr rfl) ⟨hT, (show ((1 : Int32) = 0 ∨ (1 : Int32) = 1) ∧ RD σ909.1 ∧ WI 28 σ909.1 from by first | exact ⟨Or.inl rfl, hD, hW⟩ | exact ⟨Or.inr rfl, hD, hW⟩ | exact ⟨Or.inl hqv908.1, hD, hW⟩ | exact ⟨hqv908.1, hD, hW⟩)⟩
                  · refine ok_gC rfl ?_
                    refine ok_zbT (Q := fun V σ => (V = 0 ∨ V = 1) ∧ RD σ.1) hT (s_X5_sum hN (hR.tr hT) (by first | exact hX | exact hT.1.2 hX) (hD) (by have q1 := hD.1; have q2 := hD.2.1; have q3 := hD0.1; have q4 := hD0.2.1; first | omega | decide | (simp only [Int32.le_iff_toInt_le, Int32.lt_iff_toInt_lt, ti_add, ti_sub, ti_mul, Int32.reduceToInt] at *; omega) | (exfalso; simp_all; done)) (by have q1 := hD.1; have q2 := hD.2.1; have q3 := hD0.1; have q4 := hD0.2.1; first | omega | decide | (simp only [Int32.le_iff_toInt_le, Int32.lt_iff_toInt_lt, ti_add, ti_sub, ti_mul, Int32.reduceToInt] at *; omega) | (exfalso; simp_all; done))) (by decide) (fun v911 σ912 hOσ912 hT hqv911 => ?_)
                    have hqv911 : (v911 = 0 ∨ v911 = 1) ∧ RD σ912.1 := hqv911
                    have hD : RD σ912.1 := by first | exact hqv911.2 | exact hqv911.2.1
                    have hW : WI 28 σ912.1 := WI.tr hOσ912 (by decide) (by decide) (by decide) hW
                    refine ok_if (fun hc913 => ?_) (fun hc913 => ?_)
                    · rw [J_X5_readLine_211.eq_1]
                      refine ok_if (fun hc914 => ?_) (fun hc914 => ?_)
                      · exact ok_rZ (Or.inl rfl) ⟨hT, (show ((0 : Int32) = 0 ∨ (0 : Int32) = 1) ∧ RD σ912.1 ∧ WI 28 σ912.1 from by first | exact ⟨Or.inl rfl, hD, hW⟩ | exact ⟨Or.inr rfl, hD, hW⟩ | exact ⟨Or.inl hqv911.1, hD, hW⟩ | exact ⟨hqv911.1, hD, hW⟩)⟩
                      · refine ok_gC rfl ?_
                        refine ok_zbT (Q := fun V σ => (V = 0 ∨ V = 1) ∧ RD σ.1) hT (s_X5_pass hN (hR.tr hT) (by first | exact hX | exact hT.1.2 hX) (hD)) (by decide) (fun v915 σ916 hOσ916 hT hqv915 => ?_)
                        have hqv915 : (v915 = 0 ∨ v915 = 1) ∧ RD σ916.1 := hqv915
                        have hD : RD σ916.1 := by first | exact hqv915.2 | exact hqv915.2.1
                        have hW : WI 28 σ916.1 := WI.tr hOσ916 (by decide) (by decide) (by decide) hW
                        refine ok_if (fun hc917 => ?_) (fun hc917 => ?_)
                        · exact ok_rZ (Or.inl rfl) ⟨hT, (show ((0 : Int32) = 0 ∨ (0 : Int32) = 1) ∧ RD σ916.1 ∧ WI 28 σ916.1 from by first | exact ⟨Or.inl rfl, hD, hW⟩ | exact ⟨Or.inr rfl, hD, hW⟩ | exact ⟨Or.inl hqv915.1, hD, hW⟩ | exact ⟨hqv915.1, hD, hW⟩)⟩
                        · exact ok_rZ (Or.inr rfl) ⟨hT, (show ((1 : Int32) = 0 ∨ (1 : Int32) = 1) ∧ RD σ916.1 ∧ WI 28 σ916.1 from by first | exact ⟨Or.inl rfl, hD, hW⟩ | exact ⟨Or.inr rfl, hD, hW⟩ | exact ⟨Or.inl hqv915.1, hD, hW⟩ | exact ⟨hqv915.1, hD, hW⟩)⟩
                    · refine ok_gC rfl ?_
                      refine ok_zbT (Q := fun V σ => V = 1 ∧ RD σ.1) hT (s_X5_emit hN (hR.tr hT) (by first | exact hX | exact hT.1.2 hX) (hD)) (by decide) (fun v918 σ919 hOσ919 hT hqv918 => ?_)
                      have hqv918 : v918 = 1 ∧ RD σ919.1 := hqv918
                      have hD : RD σ919.1 := by first | exact hqv918.2 | exact hqv918.2.1
                      have hW : WI 28 σ919.1 := WI.tr hOσ919 (by decide) (by decide) (by decide) hW
                      refine ok_if (fun hc920 => ?_) (fun hc920 => ?_)
                      · rw [J_X5_readLine_211.eq_1]
                        refine ok_if (fun hc921 => ?_) (fun hc921 => ?_)
                        · exact ok_rZ (Or.inl rfl) ⟨hT, (show ((0 : Int32) = 0 ∨ (0 : Int32) = 1) ∧ RD σ919.1 ∧ WI 28 σ919.1 from by first | exact ⟨Or.inl rfl, hD, hW⟩ | exact ⟨Or.inr rfl, hD, hW⟩ | exact ⟨Or.inl hqv918.1, hD, hW⟩ | exact ⟨hqv918.1, hD, hW⟩)⟩
                        · refine ok_gC rfl ?_
                          refine ok_zbT (Q := fun V σ => (V = 0 ∨ V = 1) ∧ RD σ.1) hT (s_X5_pass hN (hR.tr hT) (by first | exact hX | exact hT.1.2 hX) (hD)) (by decide) (fun v922 σ923 hOσ923 hT hqv922 => ?_)
                          have hqv922 : (v922 = 0 ∨ v922 = 1) ∧ RD σ923.1 := hqv922
                          have hD : RD σ923.1 := by first | exact hqv922.2 | exact hqv922.2.1
                          have hW : WI 28 σ923.1 := WI.tr hOσ923 (by decide) (by decide) (by decide) hW
                          refine ok_if (fun hc924 => ?_) (fun hc924 => ?_)
                          · exact ok_rZ (Or.inl rfl) ⟨hT, (show ((0 : Int32) = 0 ∨ (0 : Int32) = 1) ∧ RD σ923.1 ∧ WI 28 σ923.1 from by first | exact ⟨Or.inl rfl, hD, hW⟩ | exact ⟨Or.inr rfl, hD, hW⟩ | exact ⟨Or.inl hqv922.1, hD, hW⟩ | exact ⟨hqv922.1, hD, hW⟩)⟩
                          · exact ok_rZ (Or.inr rfl) ⟨hT, (show ((1 : Int32) = 0 ∨ (1 : Int32) = 1) ∧ RD σ923.1 ∧ WI 28 σ923.1 from by first | exact ⟨Or.inl rfl, hD, hW⟩ | exact ⟨Or.inr rfl, hD, hW⟩ | exact ⟨Or.inl hqv922.1, hD, hW⟩ | exact ⟨hqv922.1, hD, hW⟩)⟩
                      · rw [J_X5_readLine_211.eq_1]
                        refine ok_if (fun hc925 => ?_) (fun hc925 => ?_)
                        · exact ok_rZ (Or.inl rfl) ⟨hT, (show ((0 : Int32) = 0 ∨ (0 : Int32) = 1) ∧ RD σ919.1 ∧ WI 28 σ919.1 from by first | exact ⟨Or.inl rfl, hD, hW⟩ | exact ⟨Or.inr rfl, hD, hW⟩ | exact ⟨Or.inl hqv918.1, hD, hW⟩ | exact ⟨hqv918.1, hD, hW⟩)⟩
                        · refine ok_gC rfl ?_
                          refine ok_zbT (Q := fun V σ => (V = 0 ∨ V = 1) ∧ RD σ.1) hT (s_X5_pass hN (hR.tr hT) (by first | exact hX | exact hT.1.2 hX) (hD)) (by decide) (fun v926 σ927 hOσ927 hT hqv926 => ?_)
                          have hqv926 : (v926 = 0 ∨ v926 = 1) ∧ RD σ927.1 := hqv926
                          have hD : RD σ927.1 := by first | exact hqv926.2 | exact hqv926.2.1
                          have hW : WI 28 σ927.1 := WI.tr hOσ927 (by decide) (by decide) (by decide) hW
                          refine ok_if (fun hc928 => ?_) (fun hc928 => ?_)
                          · exact ok_rZ (Or.inl rfl) ⟨hT, (show ((0 : Int32) = 0 ∨ (0 : Int32) = 1) ∧ RD σ927.1 ∧ WI 28 σ927.1 from by first | exact ⟨Or.inl rfl, hD, hW⟩ | exact ⟨Or.inr rfl, hD, hW⟩ | exact ⟨Or.inl hqv926.1, hD, hW⟩ | exact ⟨hqv926.1, hD, hW⟩)⟩
                          · exact ok_rZ (Or.inr rfl) ⟨hT, (show ((1 : Int32) = 0 ∨ (1 : Int32) = 1) ∧ RD σ927.1 ∧ WI 28 σ927.1 from by first | exact ⟨Or.inl rfl, hD, hW⟩ | exact ⟨Or.inr rfl, hD, hW⟩ | exact ⟨Or.inl hqv926.1, hD, hW⟩ | exact ⟨hqv926.1, hD, hW⟩)⟩
            · refine ok_gC rfl ?_
              refine ok_zbT (Q := fun V σ => V = 0 ∧ RD σ.1) hT (s_X5_fail hN (hR.tr hT) (by first | exact hX | exact hT.1.2 hX) (hD)) (by decide) (fun v929 σ930 hOσ930 hT hqv929 => ?_)
              have hqv929 : v929 = 0 ∧ RD σ930.1 := hqv929
              have hD : RD σ930.1 := by first | exact hqv929.2 | exact hqv929.2.1
              have hW : WI 28 σ930.1 := WI.tr hOσ930 (by decide) (by decide) (by decide) hW
              exact ok_rZ (by have q := hqv929.1; first | exact q | exact Or.inl q | exact Or.inr q) ⟨hT, (show (v929 = 0 ∨ v929 = 1) ∧ RD σ930.1 ∧ WI 28 σ930.1 from by first | exact ⟨Or.inl rfl, hD, hW⟩ | exact ⟨Or.inr rfl, hD, hW⟩ | exact ⟨Or.inl hqv929.1, hD, hW⟩ | exact ⟨hqv929.1, hD, hW⟩)⟩
        · refine ok_gC rfl ?_
          refine ok_zbT (Q := fun V σ => V = 0 ∧ RD σ.1) hT (s_X5_fail hN (hR.tr hT) (by first | exact hX | exact hT.1.2 hX) (hD)) (by decide) (fun v931 σ932 hOσ932 hT hqv931 => ?_)
          have hqv931 : v931 = 0 ∧ RD σ932.1 := hqv931
          have hD : RD σ932.1 := by first | exact hqv931.2 | exact hqv931.2.1
          have hW : WI 28 σ932.1 := WI.tr hOσ932 (by decide) (by decide) (by decide) hW
          exact ok_rZ (by have q := hqv931.1; first | exact q | exact Or.inl q | exact Or.inr q) ⟨hT, (show (v931 = 0 ∨ v931 = 1) ∧ RD σ932.1 ∧ WI 28 σ932.1 from by first | exact ⟨Or.inl rfl, hD, hW⟩ | exact ⟨Or.inr rfl, hD, hW⟩ | exact ⟨Or.inl hqv931.1, hD, hW⟩ | exact ⟨hqv931.1, hD, hW⟩)⟩
      · rw [J_X5_readLine_51.eq_1]
        refine ok_if (fun hc933 => ?_) (fun hc933 => ?_)
        · refine ok_if (fun hc934 => ?_) (fun hc934 => ?_)
          · refine ok_gC rfl ?_
            refine ok_zbT (Q := fun V σ => V = 0 ∧ RD σ.1) hT (s_X5_fail hN (hR.tr hT) (by first | exact hX | exact hT.1.2 hX) (hD)) (by decide) (fun v935 σ936 hOσ936 hT hqv935 => ?_)
            have hqv935 : v935 = 0 ∧ RD σ936.1 := hqv935
            have hD : RD σ936.1 := by first | exact hqv935.2 | exact hqv935.2.1
            have hW : WI 28 σ936.1 := WI.tr hOσ936 (by decide) (by decide) (by decide) hW
            exact ok_rZ (by have q := hqv935.1; first | exact q | exact Or.inl q | exact Or.inr q) ⟨hT, (show (v935 = 0 ∨ v935 = 1) ∧ RD σ936.1 ∧ WI 28 σ936.1 from by first | exact ⟨Or.inl rfl, hD, hW⟩ | exact ⟨Or.inr rfl, hD, hW⟩ | exact ⟨Or.inl hqv935.1, hD, hW⟩ | exact ⟨hqv935.1, hD, hW⟩)⟩
          · refine ok_if (fun hc937 => ?_) (fun hc937 => ?_)
            · refine ok_if (fun hc938 => ?_) (fun hc938 => ?_)
              · refine ok_gI rfl ?_
                refine ok_gI rfl ?_
                refine ok_if (fun hc941 => ?_) (fun hc941 => ?_)
                · rw [J_X5_readLine_92.eq_1]
                  refine ok_gC rfl ?_
                  refine ok_zbT (Q := fun V σ => (V = 0 ∨ V = 1) ∧ RD σ.1) hT (s_X5_pass hN (hR.tr hT) (by first | exact hX | exact hT.1.2 hX) (hD)) (by decide) (fun v942 σ943 hOσ943 hT hqv942 => ?_)
                  have hqv942 : (v942 = 0 ∨ v942 = 1) ∧ RD σ943.1 := hqv942
                  have hD : RD σ943.1 := by first | exact hqv942.2 | exact hqv942.2.1
                  have hW : WI 28 σ943.1 := WI.tr hOσ943 (by decide) (by decide) (by decide) hW
                  refine ok_gR (v := 62) hT rfl (hR 57 11 rfl) ?_
                  refine ok_gI rfl ?_
                  refine ok_aIn rfl (by have q1 := hD.1; have q2 := hD.2.1; have q3 := hD0.1; have q4 := hD0.2.1; first | omega | decide | (simp only [Int32.le_iff_toInt_le, Int32.lt_iff_toInt_lt, ti_add, ti_sub, ti_mul, Int32.reduceToInt] at *; omega) | (exfalso; simp_all; done)) (by have q1 := hD.1; have q2 := hD.2.1; have q3 := hD0.1; have q4 := hD0.2.1; first | omega | decide | (simp only [Int32.le_iff_toInt_le, Int32.lt_iff_toInt_lt, ti_add, ti_sub, ti_mul, Int32.reduceToInt] at *; omega) | (exfalso; simp_all; done)) (fun v946 ev946 => ?_)
                  refine ok_if (fun hc947 => ?_) (fun hc947 => ?_)
                  · refine ok_gC rfl ?_
                    refine ok_zbT (Q := fun V σ => (V = 0 ∨ V = 1) ∧ RD σ.1 ∧ WI 28 σ.1) hT (s_X5_readNames_28 hN (hR.tr hT) (by first | exact hX | exact hT.1.2 hX) (hD) (hW)) (by decide) (fun v948 σ949 hOσ949 hT hqv948 => ?_)
                    have hqv948 : (v948 = 0 ∨ v948 = 1) ∧ RD σ949.1 ∧ WI 28 σ949.1 := hqv948
                    have hD : RD σ949.1 := by first | exact hqv948.2 | exact hqv948.2.1
                    have hW : WI 28 σ949.1 := by first | exact hqv948.2.2 | exact hqv948
                    rw [J_X5_readLine_211.eq_1]
                    refine ok_if (fun hc950 => ?_) (fun hc950 => ?_)
                    · exact ok_rZ (Or.inl rfl) ⟨hT, (show ((0 : Int32) = 0 ∨ (0 : Int32) = 1) ∧ RD σ949.1 ∧ WI 28 σ949.1 from by first | exact ⟨Or.inl rfl, hD, hW⟩ | exact ⟨Or.inr rfl, hD, hW⟩ | exact ⟨Or.inl hqv948.1, hD, hW⟩ | exact ⟨hqv948.1, hD, hW⟩)⟩
                    · refine ok_gC rfl ?_
                      refine ok_zbT (Q := fun V σ => (V = 0 ∨ V = 1) ∧ RD σ.1) hT (s_X5_pass hN (hR.tr hT) (by first | exact hX | exact hT.1.2 hX) (hD)) (by decide) (fun v951 σ952 hOσ952 hT hqv951 => ?_)
                      have hqv951 : (v951 = 0 ∨ v951 = 1) ∧ RD σ952.1 := hqv951
                      have hD : RD σ952.1 := by first | exact hqv951.2 | exact hqv951.2.1
                      have hW : WI 28 σ952.1 := WI.tr hOσ952 (by decide) (by decide) (by decide) hW
                      refine ok_if (fun hc953 => ?_) (fun hc953 => ?_)
                      · exact ok_rZ (Or.inl rfl) ⟨hT, (show ((0 : Int32) = 0 ∨ (0 : Int32) = 1) ∧ RD σ952.1 ∧ WI 28 σ952.1 from by first | exact ⟨Or.inl rfl, hD, hW⟩ | exact ⟨Or.inr rfl, hD, hW⟩ | exact ⟨Or.inl hqv951.1, hD, hW⟩ | exact ⟨hqv951.1, hD, hW⟩)⟩
                      · exact ok_rZ (Or.inr rfl) ⟨hT, (show ((1 : Int32) = 0 ∨ (1 : Int32) = 1) ∧ RD σ952.1 ∧ WI 28 σ952.1 from by first | exact ⟨Or.inl rfl, hD, hW⟩ | exact ⟨Or.inr rfl, hD, hW⟩ | exact ⟨Or.inl hqv951.1, hD, hW⟩ | exact ⟨hqv951.1, hD, hW⟩)⟩
                  refine ok_if (fun hc954 => ?_) (fun hc954 => ?_)
                  · refine ok_gC rfl ?_
                    refine ok_zbT (Q := fun V σ => (V = 0 ∨ V = 1) ∧ RD σ.1 ∧ WI 28 σ.1) hT (s_X5_readWeight_28 hN (hR.tr hT) (by first | exact hX | exact hT.1.2 hX) (hD) (hW)) (by decide) (fun v955 σ956 hOσ956 hT hqv955 => ?_)
                    have hqv955 : (v955 = 0 ∨ v955 = 1) ∧ RD σ956.1 ∧ WI 28 σ956.1 := hqv955
                    have hD : RD σ956.1 := by first | exact hqv955.2 | exact hqv955.2.1
                    have hW : WI 28 σ956.1 := WI.tr hOσ956 (by decide) (by decide) (by decide) hW
                    rw [J_X5_readLine_211.eq_1]
                    refine ok_if (fun hc957 => ?_) (fun hc957 => ?_)
                    · exact ok_rZ (Or.inl rfl) ⟨hT, (show ((0 : Int32) = 0 ∨ (0 : Int32) = 1) ∧ RD σ956.1 ∧ WI 28 σ956.1 from by first | exact ⟨Or.inl rfl, hD, hW⟩ | exact ⟨Or.inr rfl, hD, hW⟩ | exact ⟨Or.inl hqv955.1, hD, hW⟩ | exact ⟨hqv955.1, hD, hW⟩)⟩
                    · refine ok_gC rfl ?_
                      refine ok_zbT (Q := fun V σ => (V = 0 ∨ V = 1) ∧ RD σ.1) hT (s_X5_pass hN (hR.tr hT) (by first | exact hX | exact hT.1.2 hX) (hD)) (by decide) (fun v958 σ959 hOσ959 hT hqv958 => ?_)
                      have hqv958 : (v958 = 0 ∨ v958 = 1) ∧ RD σ959.1 := hqv958
                      have hD : RD σ959.1 := by first | exact hqv958.2 | exact hqv958.2.1
                      have hW : WI 28 σ959.1 := WI.tr hOσ959 (by decide) (by decide) (by decide) hW
                      refine ok_if (fun hc960 => ?_) (fun hc960 => ?_)
                      · exact ok_rZ (Or.inl rfl) ⟨hT, (show ((0 : Int32) = 0 ∨ (0 : Int32) = 1) ∧ RD σ959.1 ∧ WI 28 σ959.1 from by first | exact ⟨Or.inl rfl, hD, hW⟩ | exact ⟨Or.inr rfl, hD, hW⟩ | exact ⟨Or.inl hqv958.1, hD, hW⟩ | exact ⟨hqv958.1, hD, hW⟩)⟩
                      · exact ok_rZ (Or.inr rfl) ⟨hT, (show ((1 : Int32) = 0 ∨ (1 : Int32) = 1) ∧ RD σ959.1 ∧ WI 28 σ959.1 from by first | exact ⟨Or.inl rfl, hD, hW⟩ | exact ⟨Or.inr rfl, hD, hW⟩ | exact ⟨Or.inl hqv958.1, hD, hW⟩ | exact ⟨hqv958.1, hD, hW⟩)⟩
                  refine ok_if (fun hc961 => ?_) (fun hc961 => ?_)
                  · refine ok_gC rfl ?_
                    refine ok_zbT (Q := fun V σ => (V = 0 ∨ V = 1) ∧ RD σ.1 ∧ WI 28 σ.1) hT (s_X5_readEdge_28 hN (hR.tr hT) (by first | exact hX | exact hT.1.2 hX) (hD) (hW)) (by decide) (fun v962 σ963 hOσ963 hT hqv962 => ?_)
                    have hqv962 : (v962 = 0 ∨ v962 = 1) ∧ RD σ963.1 ∧ WI 28 σ963.1 := hqv962
                    have hD : RD σ963.1 := by first | exact hqv962.2 | exact hqv962.2.1
                    have hW : WI 28 σ963.1 := by first | exact hqv962.2.2 | exact hqv962
                    rw [J_X5_readLine_211.eq_1]
                    refine ok_if (fun hc964 => ?_) (fun hc964 => ?_)
                    · exact ok_rZ (Or.inl rfl) ⟨hT, (show ((0 : Int32) = 0 ∨ (0 : Int32) = 1) ∧ RD σ963.1 ∧ WI 28 σ963.1 from by first | exact ⟨Or.inl rfl, hD, hW⟩ | exact ⟨Or.inr rfl, hD, hW⟩ | exact ⟨Or.inl hqv962.1, hD, hW⟩ | exact ⟨hqv962.1, hD, hW⟩)⟩
                    · refine ok_gC rfl ?_
                      refine ok_zbT (Q := fun V σ => (V = 0 ∨ V = 1) ∧ RD σ.1) hT (s_X5_pass hN (hR.tr hT) (by first | exact hX | exact hT.1.2 hX) (hD)) (by decide) (fun v965 σ966 hOσ966 hT hqv965 => ?_)
                      have hqv965 : (v965 = 0 ∨ v965 = 1) ∧ RD σ966.1 := hqv965
                      have hD : RD σ966.1 := by first | exact hqv965.2 | exact hqv965.2.1
                      have hW : WI 28 σ966.1 := WI.tr hOσ966 (by decide) (by decide) (by decide) hW
                      refine ok_if (fun hc967 => ?_) (fun hc967 => ?_)
                      · exact ok_rZ (Or.inl rfl) ⟨hT, (show ((0 : Int32) = 0 ∨ (0 : Int32) = 1) ∧ RD σ966.1 ∧ WI 28 σ966.1 from by first | exact ⟨Or.inl rfl, hD, hW⟩ | exact ⟨Or.inr rfl, hD, hW⟩ | exact ⟨Or.inl hqv965.1, hD, hW⟩ | exact ⟨hqv965.1, hD, hW⟩)⟩
                      · exact ok_rZ (Or.inr rfl) ⟨hT, (show ((1 : Int32) = 0 ∨ (1 : Int32) = 1) ∧ RD σ966.1 ∧ WI 28 σ966.1 from by first | exact ⟨Or.inl rfl, hD, hW⟩ | exact ⟨Or.inr rfl, hD, hW⟩ | exact ⟨Or.inl hqv965.1, hD, hW⟩ | exact ⟨hqv965.1, hD, hW⟩)⟩
                  refine ok_gC rfl ?_
                  refine ok_zbT (Q := fun V σ => (V = 0 ∨ V = 1) ∧ RD σ.1 ∧ (¬ V = 0 → 1 ≤ (σ.1 57 9).toInt ∧ (0 : Int32).toInt ≤ (lastv σ.1).toInt ∧ (lastv σ.1).toInt ≤ (9 : Int32).toInt)) hT (s_X5_passNumber hN (hR.tr hT) (by first | exact hX | exact hT.1.2 hX) (hD)) (by decide) (fun v968 σ969 hOσ969 hT hqv968 => ?_)
                  have hqv968 : (v968 = 0 ∨ v968 = 1) ∧ RD σ969.1 ∧ (¬ v968 = 0 → 1 ≤ (σ969.1 57 9).toInt ∧ (0 : Int32).toInt ≤ (lastv σ969.1).toInt ∧ (lastv σ969.1).toInt ≤ (9 : Int32).toInt) := hqv968
                  have hD : RD σ969.1 := by first | exact hqv968.2 | exact hqv968.2.1
                  have hW : WI 28 σ969.1 := WI.tr hOσ969 (by decide) (by decide) (by decide) hW
                  refine ok_if (fun hc970 => ?_) (fun hc970 => ?_)
                  · rw [J_X5_readLine_211.eq_1]
                    refine ok_if (fun hc971 => ?_) (fun hc971 => ?_)
                    · exact ok_rZ (Or.inl rfl) ⟨hT, (show ((0 : Int32) = 0 ∨ (0 : Int32) = 1) ∧ RD σ969.1 ∧ WI 28 σ969.1 from by first | exact ⟨Or.inl rfl, hD, hW⟩ | exact ⟨Or.inr rfl, hD, hW⟩ | exact ⟨Or.inl hqv968.1, hD, hW⟩ | exact ⟨hqv968.1, hD, hW⟩)⟩
                    · refine ok_gC rfl ?_
                      refine ok_zbT (Q := fun V σ => (V = 0 ∨ V = 1) ∧ RD σ.1) hT (s_X5_pass hN (hR.tr hT) (by first | exact hX | exact hT.1.2 hX) (hD)) (by decide) (fun v972 σ973 hOσ973 hT hqv972 => ?_)
                      have hqv972 : (v972 = 0 ∨ v972 = 1) ∧ RD σ973.1 := hqv972
                      have hD : RD σ973.1 := by first | exact hqv972.2 | exact hqv972.2.1
                      have hW : WI 28 σ973.1 := WI.tr hOσ973 (by decide) (by decide) (by decide) hW
                      refine ok_if (fun hc974 => ?_) (fun hc974 => ?_)
                      · exact ok_rZ (Or.inl rfl) ⟨hT, (show ((0 : Int32) = 0 ∨ (0 : Int32) = 1) ∧ RD σ973.1 ∧ WI 28 σ973.1 from by first | exact ⟨Or.inl rfl, hD, hW⟩ | exact ⟨Or.inr rfl, hD, hW⟩ | exact ⟨Or.inl hqv972.1, hD, hW⟩ | exact ⟨hqv972.1, hD, hW⟩)⟩
                      · exact ok_rZ (Or.inr rfl) ⟨hT, (show ((1 : Int32) = 0 ∨ (1 : Int32) = 1) ∧ RD σ973.1 ∧ WI 28 σ973.1 from by first | exact ⟨Or.inl rfl, hD, hW⟩ | exact ⟨Or.inr rfl, hD, hW⟩ | exact ⟨Or.inl hqv972.1, hD, hW⟩ | exact ⟨hqv972.1, hD, hW⟩)⟩
                  · refine ok_gC rfl ?_
                    refine ok_zbT (Q := fun V σ => (V = 0 ∨ V = 1) ∧ RD σ.1) hT (s_X5_pass hN (hR.tr hT) (by first | exact hX | exact hT.1.2 hX) (hD)) (by decide) (fun v975 σ976 hOσ976 hT hqv975 => ?_)
                    have hqv975 : (v975 = 0 ∨ v975 = 1) ∧ RD σ976.1 := hqv975
                    have hD : RD σ976.1 := by first | exact hqv975.2 | exact hqv975.2.1
                    have hW : WI 28 σ976.1 := WI.tr hOσ976 (by decide) (by decide) (by decide) hW
                    refine ok_if (fun hc977 => ?_) (fun hc977 => ?_)
                    · rw [J_X5_readLine_211.eq_1]
                      refine ok_if (fun hc978 => ?_) (fun hc978 => ?_)
                      · exact ok_rZ (Or.inl rfl) ⟨hT, (show ((0 : Int32) = 0 ∨ (0 : Int32) = 1) ∧ RD σ976.1 ∧ WI 28 σ976.1 from by first | exact ⟨Or.inl rfl, hD, hW⟩ | exact ⟨Or.inr rfl, hD, hW⟩ | exact ⟨Or.inl hqv975.1, hD, hW⟩ | exact ⟨hqv975.1, hD, hW⟩)⟩
                      · refine ok_gC rfl ?_
                        refine ok_zbT (Q := fun V σ => (V = 0 ∨ V = 1) ∧ RD σ.1) hT (s_X5_pass hN (hR.tr hT) (by first | exact hX | exact hT.1.2 hX) (hD)) (by decide) (fun v979 σ980 hOσ980 hT hqv979 => ?_)
                        have hqv979 : (v979 = 0 ∨ v979 = 1) ∧ RD σ980.1 := hqv979
                        have hD : RD σ980.1 := by first | exact hqv979.2 | exact hqv979.2.1
                        have hW : WI 28 σ980.1 := WI.tr hOσ980 (by decide) (by decide) (by decide) hW
                        refine ok_if (fun hc981 => ?_) (fun hc981 => ?_)
                        · exact ok_rZ (Or.inl rfl) ⟨hT, (show ((0 : Int32) = 0 ∨ (0 : Int32) = 1) ∧ RD σ980.1 ∧ WI 28 σ980.1 from by first | exact ⟨Or.inl rfl, hD, hW⟩ | exact ⟨Or.inr rfl, hD, hW⟩ | exact ⟨Or.inl hqv979.1, hD, hW⟩ | exact ⟨hqv979.1, hD, hW⟩)⟩
                        · exact ok_rZ (Or.inr rfl) ⟨hT, (show ((1 : Int32) = 0 ∨ (1 : Int32) = 1) ∧ RD σ980.1 ∧ WI 28 σ980.1 from by first | exact ⟨Or.inl rfl, hD, hW⟩ | exact ⟨Or.inr rfl, hD, hW⟩ | exact ⟨Or.inl hqv979.1, hD, hW⟩ | exact ⟨hqv979.1, hD, hW⟩)⟩
                    · refine ok_gC rfl ?_
                      refine ok_zbT (Q := fun V σ => (V = 0 ∨ V = 1) ∧ RD σ.1) hT (s_X5_sum hN (hR.tr hT) (by first | exact hX | exact hT.1.2 hX) (hD) (by have q1 := hD.1; have q2 := hD.2.1; have q3 := hD0.1; have q4 := hD0.2.1; first | omega | decide | (simp only [Int32.le_iff_toInt_le, Int32.lt_iff_toInt_lt, ti_add, ti_sub, ti_mul, Int32.reduceToInt] at *; omega) | (exfalso; simp_all; done)) (by have q1 := hD.1; have q2 := hD.2.1; have q3 := hD0.1; have q4 := hD0.2.1; first | omega | decide | (simp only [Int32.le_iff_toInt_le, Int32.lt_iff_toInt_lt, ti_add, ti_sub, ti_mul, Int32.reduceToInt] at *; omega) | (exfalso; simp_all; done))) (by decide) (fun v982 σ983 hOσ983 hT hqv982 => ?_)
                      have hqv982 : (v982 = 0 ∨ v982 = 1) ∧ RD σ983.1 := hqv982
                      have hD : RD σ983.1 := by first | exact hqv982.2 | exact hqv982.2.1
                      have hW : WI 28 σ983.1 := WI.tr hOσ983 (by decide) (by decide) (by decide) hW
                      refine ok_if (fun hc984 => ?_) (fun hc984 => ?_)
                      · rw [J_X5_readLine_211.eq_1]
                        refine ok_if (fun hc985 => ?_) (fun hc985 => ?_)
                        · exact ok_rZ (Or.inl rfl) ⟨hT, (show ((0 : Int32) = 0 ∨ (0 : Int32) = 1) ∧ RD σ983.1 ∧ WI 28 σ983.1 from by first | exact ⟨Or.inl rfl, hD, hW⟩ | exact ⟨Or.inr rfl, hD, hW⟩ | exact ⟨Or.inl hqv982.1, hD, hW⟩ | exact ⟨hqv982.1, hD, hW⟩)⟩
                        · refine ok_gC rfl ?_
                          refine ok_zbT (Q := fun V σ => (V = 0 ∨ V = 1) ∧ RD σ.1) hT (s_X5_pass hN (hR.tr hT) (by first | exact hX | exact hT.1.2 hX) (hD)) (by decide) (fun v986 σ987 hOσ987 hT hqv986 => ?_)
                          have hqv986 : (v986 = 0 ∨ v986 = 1) ∧ RD σ987.1 := hqv986
                          have hD : RD σ987.1 := by first | exact hqv986.2 | exact hqv986.2.1
                          have hW : WI 28 σ987.1 := WI.tr hOσ987 (by decide) (by decide) (by decide) hW
                          refine ok_if (fun hc988 => ?_) (fun hc988 => ?_)
                          · exact ok_rZ (Or.inl rfl) ⟨hT, (show ((0 : Int32) = 0 ∨ (0 : Int32) = 1) ∧ RD σ987.1 ∧ WI 28 σ987.1 from by first | exact ⟨Or.inl rfl, hD, hW⟩ | exact ⟨Or.inr rfl, hD, hW⟩ | exact ⟨Or.inl hqv986.1, hD, hW⟩ | exact ⟨hqv986.1, hD, hW⟩)⟩
                          · exact ok_rZ (Or.inr rfl) ⟨hT, (show ((1 : Int32) = 0 ∨ (1 : Int32) = 1) ∧ RD σ987.1 ∧ WI 28 σ987.1 from by first | exact ⟨Or.inl rfl, hD, hW⟩ | exact ⟨Or.inr rfl, hD, hW⟩ | exact ⟨Or.inl hqv986.1, hD, hW⟩ | exact ⟨hqv986.1, hD, hW⟩)⟩
                      · refine ok_gC rfl ?_
                        refine ok_zbT (Q := fun V σ => V = 1 ∧ RD σ.1) hT (s_X5_emit hN (hR.tr hT) (by first | exact hX | exact hT.1.2 hX) (hD)) (by decide) (fun v989 σ990 hOσ990 hT hqv989 => ?_)
                        have hqv989 : v989 = 1 ∧ RD σ990.1 := hqv989
                        have hD : RD σ990.1 := by first | exact hqv989.2 | exact hqv989.2.1
                        have hW : WI 28 σ990.1 := WI.tr hOσ990 (by decide) (by decide) (by decide) hW
                        refine ok_if (fun hc991 => ?_) (fun hc991 => ?_)
                        · rw [J_X5_readLine_211.eq_1]
                          refine ok_if (fun hc992 => ?_) (fun hc992 => ?_)
                          · exact ok_rZ (Or.inl rfl) ⟨hT, (show ((0 : Int32) = 0 ∨ (0 : Int32) = 1) ∧ RD σ990.1 ∧ WI 28 σ990.1 from by first | exact ⟨Or.inl rfl, hD, hW⟩ | exact ⟨Or.inr rfl, hD, hW⟩ | exact ⟨Or.inl hqv989.1, hD, hW⟩ | exact ⟨hqv989.1, hD, hW⟩)⟩
                          · refine ok_gC rfl ?_
                            refine ok_zbT (Q := fun V σ => (V = 0 ∨ V = 1) ∧ RD σ.1) hT (s_X5_pass hN (hR.tr hT) (by first | exact hX | exact hT.1.2 hX) (hD)) (by decide) (fun v993 σ994 hOσ994 hT hqv993 => ?_)
                            have hqv993 : (v993 = 0 ∨ v993 = 1) ∧ RD σ994.1 := hqv993
                            have hD : RD σ994.1 := by first | exact hqv993.2 | exact hqv993.2.1
                            have hW : WI 28 σ994.1 := WI.tr hOσ994 (by decide) (by decide) (by decide) hW
                            refine ok_if (fun hc995 => ?_) (fun hc995 => ?_)
                            · exact ok_rZ (Or.inl rfl) ⟨hT, (show ((0 : Int32) = 0 ∨ (0 : Int32) = 1) ∧ RD σ994.1 ∧ WI 28 σ994.1 from by first | exact ⟨Or.inl rfl, hD, hW⟩ | exact ⟨Or.inr rfl, hD, hW⟩ | exact ⟨Or.inl hqv993.1, hD, hW⟩ | exact ⟨hqv993.1, hD, hW⟩)⟩
                            · exact ok_rZ (Or.inr rfl) ⟨hT, (show ((1 : Int32) = 0 ∨ (1 : Int32) = 1) ∧ RD σ994.1 ∧ WI 28 σ994.1 from by first | exact ⟨Or.inl rfl, hD, hW⟩ | exact ⟨Or.inr rfl, hD, hW⟩ | exact ⟨Or.inl hqv993.1, hD, hW⟩ | exact ⟨hqv993.1, hD, hW⟩)⟩
                        · rw [J_X5_readLine_211.eq_1]
                          refine ok_if (fun hc996 => ?_) (fun hc996 => ?_)
                          · exact ok_rZ (Or.inl rfl) ⟨hT, (show ((0 : Int32) = 0 ∨ (0 : Int32) = 1) ∧ RD σ990.1 ∧ WI 28 σ990.1 from by first | exact ⟨Or.inl rfl, hD, hW⟩ | exact ⟨Or.inr rfl, hD, hW⟩ | exact ⟨Or.inl hqv989.1, hD, hW⟩ | exact ⟨hqv989.1, hD, hW⟩)⟩
                          · refine ok_gC rfl ?_
                            refine ok_zbT (Q := fun V σ => (V = 0 ∨ V = 1) ∧ RD σ.1) hT (s_X5_pass hN (hR.tr hT) (by first | exact hX | exact hT.1.2 hX) (hD)) (by decide) (fun v997 σ998 hOσ998 hT hqv997 => ?_)
                            have hqv997 : (v997 = 0 ∨ v997 = 1) ∧ RD σ998.1 := hqv997
                            have hD : RD σ998.1 := by first | exact hqv997.2 | exact hqv997.2.1
                            have hW : WI 28 σ998.1 := WI.tr hOσ998 (by decide) (by decide) (by decide) hW
                            refine ok_if (fun hc999 => ?_) (fun hc999 => ?_)
                            · exact ok_rZ (Or.inl rfl) ⟨hT, (show ((0 : Int32) = 0 ∨ (0 : Int32) = 1) ∧ RD σ998.1 ∧ WI 28 σ998.1 from by first | exact ⟨Or.inl rfl, hD, hW⟩ | exact ⟨Or.inr rfl, hD, hW⟩ | exact ⟨Or.inl hqv997.1, hD, hW⟩ | exact ⟨hqv997.1, hD, hW⟩)⟩
                            · exact ok_rZ (Or.inr rfl) ⟨hT, (show ((1 : Int32) = 0 ∨ (1 : Int32) = 1) ∧ RD σ998.1 ∧ WI 28 σ998.1 from by first | exact ⟨Or.inl rfl, hD, hW⟩ | exact ⟨Or.inr rfl, hD, hW⟩ | exact ⟨Or.inl hqv997.1, hD, hW⟩ | exact ⟨hqv997.1, hD, hW⟩)⟩
                · refine ok_gC rfl ?_
                  refine ok_zbT (Q := fun V σ => V = 0 ∧ RD σ.1) hT (s_X5_fail hN (hR.tr hT) (by first | exact hX | exact hT.1.2 hX) (hD)) (by decide) (fun v1000 σ1001 hOσ1001 hT hqv1000 => ?_)
                  have hqv1000 : v1000 = 0 ∧ RD σ1001.1 := hqv1000
                  have hD : RD σ1001.1 := by first | exact hqv1000.2 | exact hqv1000.2.1
                  have hW : WI 28 σ1001.1 := WI.tr hOσ1001 (by decide) (by decide) (by decide) hW
                  exact ok_rZ (by have q := hqv1000.1; first | exact q | exact Or.inl q | exact Or.inr q) ⟨hT, (show (v1000 = 0 ∨ v1000 = 1) ∧ RD σ1001.1 ∧ WI 28 σ1001.1 from by first | exact ⟨Or.inl rfl, hD, hW⟩ | exact ⟨Or.inr rfl, hD, hW⟩ | exact ⟨Or.inl hqv1000.1, hD, hW⟩ | exact ⟨hqv1000.1, hD, hW⟩)⟩
              · rw [J_X5_readLine_92.eq_1]
                refine ok_gC rfl ?_
                refine ok_zbT (Q := fun V σ => (V = 0 ∨ V = 1) ∧ RD σ.1) hT (s_X5_pass hN (hR.tr hT) (by first | exact hX | exact hT.1.2 hX) (hD)) (by decide) (fun v1002 σ1003 hOσ1003 hT hqv1002 => ?_)
                have hqv1002 : (v1002 = 0 ∨ v1002 = 1) ∧ RD σ1003.1 := hqv1002
                have hD : RD σ1003.1 := by first | exact hqv1002.2 | exact hqv1002.2.1
                have hW : WI 28 σ1003.1 := WI.tr hOσ1003 (by decide) (by decide) (by decide) hW
                refine ok_gR (v := 62) hT rfl (hR 57 11 rfl) ?_
                refine ok_gI rfl ?_
                refine ok_aIn rfl (by have q1 := hD.1; have q2 := hD.2.1; have q3 := hD0.1; have q4 := hD0.2.1; first | omega | decide | (simp only [Int32.le_iff_toInt_le, Int32.lt_iff_toInt_lt, ti_add, ti_sub, ti_mul, Int32.reduceToInt] at *; omega) | (exfalso; simp_all; done)) (by have q1 := hD.1; have q2 := hD.2.1; have q3 := hD0.1; have q4 := hD0.2.1; first | omega | decide | (simp only [Int32.le_iff_toInt_le, Int32.lt_iff_toInt_lt, ti_add, ti_sub, ti_mul, Int32.reduceToInt] at *; omega) | (exfalso; simp_all; done)) (fun v1006 ev1006 => ?_)
                refine ok_if (fun hc1007 => ?_) (fun hc1007 => ?_)
                · refine ok_gC rfl ?_
                  refine ok_zbT (Q := fun V σ => (V = 0 ∨ V = 1) ∧ RD σ.1 ∧ WI 28 σ.1) hT (s_X5_readNames_28 hN (hR.tr hT) (by first | exact hX | exact hT.1.2 hX) (hD) (hW)) (by decide) (fun v1008 σ1009 hOσ1009 hT hqv1008 => ?_)
                  have hqv1008 : (v1008 = 0 ∨ v1008 = 1) ∧ RD σ1009.1 ∧ WI 28 σ1009.1 := hqv1008
                  have hD : RD σ1009.1 := by first | exact hqv1008.2 | exact hqv1008.2.1
                  have hW : WI 28 σ1009.1 := by first | exact hqv1008.2.2 | exact hqv1008
                  rw [J_X5_readLine_211.eq_1]
                  refine ok_if (fun hc1010 => ?_) (fun hc1010 => ?_)
                  · exact ok_rZ (Or.inl rfl) ⟨hT, (show ((0 : Int32) = 0 ∨ (0 : Int32) = 1) ∧ RD σ1009.1 ∧ WI 28 σ1009.1 from by first | exact ⟨Or.inl rfl, hD, hW⟩ | exact ⟨Or.inr rfl, hD, hW⟩ | exact ⟨Or.inl hqv1008.1, hD, hW⟩ | exact ⟨hqv1008.1, hD, hW⟩)⟩
                  · refine ok_gC rfl ?_
                    refine ok_zbT (Q := fun V σ => (V = 0 ∨ V = 1) ∧ RD σ.1) hT (s_X5_pass hN (hR.tr hT) (by first | exact hX | exact hT.1.2 hX) (hD)) (by decide) (fun v1011 σ1012 hOσ1012 hT hqv1011 => ?_)
                    have hqv1011 : (v1011 = 0 ∨ v1011 = 1) ∧ RD σ1012.1 := hqv1011
                    have hD : RD σ1012.1 := by first | exact hqv1011.2 | exact hqv1011.2.1
                    have hW : WI 28 σ1012.1 := WI.tr hOσ1012 (by decide) (by decide) (by decide) hW
                    refine ok_if (fun hc1013 => ?_) (fun hc1013 => ?_)
                    · exact ok_rZ (Or.inl rfl) ⟨hT, (show ((0 : Int32) = 0 ∨ (0 : Int32) = 1) ∧ RD σ1012.1 ∧ WI 28 σ1012.1 from by first | exact ⟨Or.inl rfl, hD, hW⟩ | exact ⟨Or.inr rfl, hD, hW⟩ | exact ⟨Or.inl hqv1011.1, hD, hW⟩ | exact ⟨hqv1011.1, hD, hW⟩)⟩
                    · exact ok_rZ (Or.inr rfl) ⟨hT, (show ((1 : Int32) = 0 ∨ (1 : Int32) = 1) ∧ RD σ1012.1 ∧ WI 28 σ1012.1 from by first | exact ⟨Or.inl rfl, hD, hW⟩ | exact ⟨Or.inr rfl, hD, hW⟩ | exact ⟨Or.inl hqv1011.1, hD, hW⟩ | exact ⟨hqv1011.1, hD, hW⟩)⟩
                refine ok_if (fun hc1014 => ?_) (fun hc1014 => ?_)
                · refine ok_gC rfl ?_
                  refine ok_zbT (Q := fun V σ => (V = 0 ∨ V = 1) ∧ RD σ.1 ∧ WI 28 σ.1) hT (s_X5_readWeight_28 hN (hR.tr hT) (by first | exact hX | exact hT.1.2 hX) (hD) (hW)) (by decide) (fun v1015 σ1016 hOσ1016 hT hqv1015 => ?_)
                  have hqv1015 : (v1015 = 0 ∨ v1015 = 1) ∧ RD σ1016.1 ∧ WI 28 σ1016.1 := hqv1015
                  have hD : RD σ1016.1 := by first | exact hqv1015.2 | exact hqv1015.2.1
                  have hW : WI 28 σ1016.1 := WI.tr hOσ1016 (by decide) (by decide) (by decide) hW
                  rw [J_X5_readLine_211.eq_1]
                  refine ok_if (fun hc1017 => ?_) (fun hc1017 => ?_)
                  · exact ok_rZ (Or.inl rfl) ⟨hT, (show ((0 : Int32) = 0 ∨ (0 : Int32) = 1) ∧ RD σ1016.1 ∧ WI 28 σ1016.1 from by first | exact ⟨Or.inl rfl, hD, hW⟩ | exact ⟨Or.inr rfl, hD, hW⟩ | exact ⟨Or.inl hqv1015.1, hD, hW⟩ | exact ⟨hqv1015.1, hD, hW⟩)⟩
                  · refine ok_gC rfl ?_
                    refine ok_zbT (Q := fun V σ => (V = 0 ∨ V = 1) ∧ RD σ.1) hT (s_X5_pass hN (hR.tr hT) (by first | exact hX | exact hT.1.2 hX) (hD)) (by decide) (fun v1018 σ1019 hOσ1019 hT hqv1018 => ?_)
                    have hqv1018 : (v1018 = 0 ∨ v1018 = 1) ∧ RD σ1019.1 := hqv1018
                    have hD : RD σ1019.1 := by first | exact hqv1018.2 | exact hqv1018.2.1
                    have hW : WI 28 σ1019.1 := WI.tr hOσ1019 (by decide) (by decide) (by decide) hW
                    refine ok_if (fun hc1020 => ?_) (fun hc1020 => ?_)
                    · exact ok_rZ (Or.inl rfl) ⟨hT, (show ((0 : Int32) = 0 ∨ (0 : Int32) = 1) ∧ RD σ1019.1 ∧ WI 28 σ1019.1 from by first | exact ⟨Or.inl rfl, hD, hW⟩ | exact ⟨Or.inr rfl, hD, hW⟩ | exact ⟨Or.inl hqv1018.1, hD, hW⟩ | exact ⟨hqv1018.1, hD, hW⟩)⟩
                    · exact ok_rZ (Or.inr rfl) ⟨hT, (show ((1 : Int32) = 0 ∨ (1 : Int32) = 1) ∧ RD σ1019.1 ∧ WI 28 σ1019.1 from by first | exact ⟨Or.inl rfl, hD, hW⟩ | exact ⟨Or.inr rfl, hD, hW⟩ | exact ⟨Or.inl hqv1018.1, hD, hW⟩ | exact ⟨hqv1018.1, hD, hW⟩)⟩
                refine ok_if (fun hc1021 => ?_) (fun hc1021 => ?_)
                · refine ok_gC rfl ?_
                  refine ok_zbT (Q := fun V σ => (V = 0 ∨ V = 1) ∧ RD σ.1 ∧ WI 28 σ.1) hT (s_X5_readEdge_28 hN (hR.tr hT) (by first | exact hX | exact hT.1.2 hX) (hD) (hW)) (by decide) (fun v1022 σ1023 hOσ1023 hT hqv1022 => ?_)
                  have hqv1022 : (v1022 = 0 ∨ v1022 = 1) ∧ RD σ1023.1 ∧ WI 28 σ1023.1 := hqv1022
                  have hD : RD σ1023.1 := by first | exact hqv1022.2 | exact hqv1022.2.1
                  have hW : WI 28 σ1023.1 := by first | exact hqv1022.2.2 | exact hqv1022
                  rw [J_X5_readLine_211.eq_1]
                  refine ok_if (fun hc1024 => ?_) (fun hc1024 => ?_)
                  · exact ok_rZ (Or.inl rfl) ⟨hT, (show ((0 : Int32) = 0 ∨ (0 : Int32) = 1) ∧ RD σ1023.1 ∧ WI 28 σ1023.1 from by first | exact ⟨Or.inl rfl, hD, hW⟩ | exact ⟨Or.inr rfl, hD, hW⟩ | exact ⟨Or.inl hqv1022.1, hD, hW⟩ | exact ⟨hqv1022.1, hD, hW⟩)⟩
                  · refine ok_gC rfl ?_
                    refine ok_zbT (Q := fun V σ => (V = 0 ∨ V = 1) ∧ RD σ.1) hT (s_X5_pass hN (hR.tr hT) (by first | exact hX | exact hT.1.2 hX) (hD)) (by decide) (fun v1025 σ1026 hOσ1026 hT hqv1025 => ?_)
                    have hqv1025 : (v1025 = 0 ∨ v1025 = 1) ∧ RD σ1026.1 := hqv1025
                    have hD : RD σ1026.1 := by first | exact hqv1025.2 | exact hqv1025.2.1
                    have hW : WI 28 σ1026.1 := WI.tr hOσ1026 (by decide) (by decide) (by decide) hW
                    refine ok_if (fun hc1027 => ?_) (fun hc1027 => ?_)
                    · exact ok_rZ (Or.inl rfl) ⟨hT, (show ((0 : Int32) = 0 ∨ (0 : Int32) = 1) ∧ RD σ1026.1 ∧ WI 28 σ1026.1 from by first | exact ⟨Or.inl rfl, hD, hW⟩ | exact ⟨Or.inr rfl, hD, hW⟩ | exact ⟨Or.inl hqv1025.1, hD, hW⟩ | exact ⟨hqv1025.1, hD, hW⟩)⟩
                    · exact ok_rZ (Or.inr rfl) ⟨hT, (show ((1 : Int32) = 0 ∨ (1 : Int32) = 1) ∧ RD σ1026.1 ∧ WI 28 σ1026.1 from by first | exact ⟨Or.inl rfl, hD, hW⟩ | exact ⟨Or.inr rfl, hD, hW⟩ | exact ⟨Or.inl hqv1025.1, hD, hW⟩ | exact ⟨hqv1025.1, hD, hW⟩)⟩
                refine ok_gC rfl ?_
                refine ok_zbT (Q := fun V σ => (V = 0 ∨ V = 1) ∧ RD σ.1 ∧ (¬ V = 0 → 1 ≤ (σ.1 57 9).toInt ∧ (0 : Int32).toInt ≤ (lastv σ.1).toInt ∧ (lastv σ.1).toInt ≤ (9 : Int32).toInt)) hT (s_X5_passNumber hN (hR.tr hT) (by first | exact hX | exact hT.1.2 hX) (hD)) (by decide) (fun v1028 σ1029 hOσ1029 hT hqv1028 => ?_)
                have hqv1028 : (v1028 = 0 ∨ v1028 = 1) ∧ RD σ1029.1 ∧ (¬ v1028 = 0 → 1 ≤ (σ1029.1 57 9).toInt ∧ (0 : Int32).toInt ≤ (lastv σ1029.1).toInt ∧ (lastv σ1029.1).toInt ≤ (9 : Int32).toInt) := hqv1028
                have hD : RD σ1029.1 := by first | exact hqv1028.2 | exact hqv1028.2.1
                have hW : WI 28 σ1029.1 := WI.tr hOσ1029 (by decide) (by decide) (by decide) hW
                refine ok_if (fun hc1030 => ?_) (fun hc1030 => ?_)
                · rw [J_X5_readLine_211.eq_1]
                  refine ok_if (fun hc1031 => ?_) (fun hc1031 => ?_)
                  · exact ok_rZ (Or.inl rfl) ⟨hT, (show ((0 : Int32) = 0 ∨ (0 : Int32) = 1) ∧ RD σ1029.1 ∧ WI 28 σ1029.1 from by first | exact ⟨Or.inl rfl, hD, hW⟩ | exact ⟨Or.inr rfl, hD, hW⟩ | exact ⟨Or.inl hqv1028.1, hD, hW⟩ | exact ⟨hqv1028.1, hD, hW⟩)⟩
                  · refine ok_gC rfl ?_
                    refine ok_zbT (Q := fun V σ => (V = 0 ∨ V = 1) ∧ RD σ.1) hT (s_X5_pass hN (hR.tr hT) (by first | exact hX | exact hT.1.2 hX) (hD)) (by decide) (fun v1032 σ1033 hOσ1033 hT hqv1032 => ?_)
                    have hqv1032 : (v1032 = 0 ∨ v1032 = 1) ∧ RD σ1033.1 := hqv1032
                    have hD : RD σ1033.1 := by first | exact hqv1032.2 | exact hqv1032.2.1
                    have hW : WI 28 σ1033.1 := WI.tr hOσ1033 (by decide) (by decide) (by decide) hW
                    refine ok_if (fun hc1034 => ?_) (fun hc1034 => ?_)
                    · exact ok_rZ (Or.inl rfl) ⟨hT, (show ((0 : Int32) = 0 ∨ (0 : Int32) = 1) ∧ RD σ1033.1 ∧ WI 28 σ1033.1 from by first | exact ⟨Or.inl rfl, hD, hW⟩ | exact ⟨Or.inr rfl, hD, hW⟩ | exact ⟨Or.inl hqv1032.1, hD, hW⟩ | exact ⟨hqv1032.1, hD, hW⟩)⟩
                    · exact ok_rZ (Or.inr rfl) ⟨hT, (show ((1 : Int32) = 0 ∨ (1 : Int32) = 1) ∧ RD σ1033.1 ∧ WI 28 σ1033.1 from by first | exact ⟨Or.inl rfl, hD, hW⟩ | exact ⟨Or.inr rfl, hD, hW⟩ | exact ⟨Or.inl hqv1032.1, hD, hW⟩ | exact ⟨hqv1032.1, hD, hW⟩)⟩
                · refine ok_gC rfl ?_
                  refine ok_zbT (Q := fun V σ => (V = 0 ∨ V = 1) ∧ RD σ.1) hT (s_X5_pass hN (hR.tr hT) (by first | exact hX | exact hT.1.2 hX) (hD)) (by decide) (fun v1035 σ1036 hOσ1036 hT hqv1035 => ?_)
                  have hqv1035 : (v1035 = 0 ∨ v1035 = 1) ∧ RD σ1036.1 := hqv1035
                  have hD : RD σ1036.1 := by first | exact hqv1035.2 | exact hqv1035.2.1
                  have hW : WI 28 σ1036.1 := WI.tr hOσ1036 (by decide) (by decide) (by decide) hW
                  refine ok_if (fun hc1037 => ?_) (fun hc1037 => ?_)
                  · rw [J_X5_readLine_211.eq_1]
                    refine ok_if (fun hc1038 => ?_) (fun hc1038 => ?_)
                    · exact ok_rZ (Or.inl rfl) ⟨hT, (show ((0 : Int32) = 0 ∨ (0 : Int32) = 1) ∧ RD σ1036.1 ∧ WI 28 σ1036.1 from by first | exact ⟨Or.inl rfl, hD, hW⟩ | exact ⟨Or.inr rfl, hD, hW⟩ | exact ⟨Or.inl hqv1035.1, hD, hW⟩ | exact ⟨hqv1035.1, hD, hW⟩)⟩
                    · refine ok_gC rfl ?_
                      refine ok_zbT (Q := fun V σ => (V = 0 ∨ V = 1) ∧ RD σ.1) hT (s_X5_pass hN (hR.tr hT) (by first | exact hX | exact hT.1.2 hX) (hD)) (by decide) (fun v1039 σ1040 hOσ1040 hT hqv1039 => ?_)
                      have hqv1039 : (v1039 = 0 ∨ v1039 = 1) ∧ RD σ1040.1 := hqv1039
                      have hD : RD σ1040.1 := by first | exact hqv1039.2 | exact hqv1039.2.1
                      have hW : WI 28 σ1040.1 := WI.tr hOσ1040 (by decide) (by decide) (by decide) hW
                      refine ok_if (fun hc1041 => ?_) (fun hc1041 => ?_)
                      · exact ok_rZ (Or.inl rfl) ⟨hT, (show ((0 : Int32) = 0 ∨ (0 : Int32) = 1) ∧ RD σ1040.1 ∧ WI 28 σ1040.1 from by first | exact ⟨Or.inl rfl, hD, hW⟩ | exact ⟨Or.inr rfl, hD, hW⟩ | exact ⟨Or.inl hqv1039.1, hD, hW⟩ | exact ⟨hqv1039.1, hD, hW⟩)⟩
                      · exact ok_rZ (Or.inr rfl) ⟨hT, (show ((1 : Int32) = 0 ∨ (1 : Int32) = 1) ∧ RD σ1040.1 ∧ WI 28 σ1040.1 from by first | exact ⟨Or.inl rfl, hD, hW⟩ | exact ⟨Or.inr rfl, hD, hW⟩ | exact ⟨Or.inl hqv1039.1, hD, hW⟩ | exact ⟨hqv1039.1, hD, hW⟩)⟩
                  · refine ok_gC rfl ?_
                    refine ok_zbT (Q := fun V σ => (V = 0 ∨ V = 1) ∧ RD σ.1) hT (s_X5_sum hN (hR.tr hT) (by first | exact hX | exact hT.1.2 hX) (hD) (by have q1 := hD.1; have q2 := hD.2.1; have q3 := hD0.1; have q4 := hD0.2.1; first | omega | decide | (simp only [Int32.le_iff_toInt_le, Int32.lt_iff_toInt_lt, ti_add, ti_sub, ti_mul, Int32.reduceToInt] at *; omega) | (exfalso; simp_all; done)) (by have q1 := hD.1; have q2 := hD.2.1; have q3 := hD0.1; have q4 := hD0.2.1; first | omega | decide | (simp only [Int32.le_iff_toInt_le, Int32.lt_iff_toInt_lt, ti_add, ti_sub, ti_mul, Int32.reduceToInt] at *; omega) | (exfalso; simp_all; done))) (by decide) (fun v1042 σ1043 hOσ1043 hT hqv1042 => ?_)
                    have hqv1042 : (v1042 = 0 ∨ v1042 = 1) ∧ RD σ1043.1 := hqv1042
                    have hD : RD σ1043.1 := by first | exact hqv1042.2 | exact hqv1042.2.1
                    have hW : WI 28 σ1043.1 := WI.tr hOσ1043 (by decide) (by decide) (by decide) hW
                    refine ok_if (fun hc1044 => ?_) (fun hc1044 => ?_)
                    · rw [J_X5_readLine_211.eq_1]
                      refine ok_if (fun hc1045 => ?_) (fun hc1045 => ?_)
                      · exact ok_rZ (Or.inl rfl) ⟨hT, (show ((0 : Int32) = 0 ∨ (0 : Int32) = 1) ∧ RD σ1043.1 ∧ WI 28 σ1043.1 from by first | exact ⟨Or.inl rfl, hD, hW⟩ | exact ⟨Or.inr rfl, hD, hW⟩ | exact ⟨Or.inl hqv1042.1, hD, hW⟩ | exact ⟨hqv1042.1, hD, hW⟩)⟩
                      · refine ok_gC rfl ?_
                        refine ok_zbT (Q := fun V σ => (V = 0 ∨ V = 1) ∧ RD σ.1) hT (s_X5_pass hN (hR.tr hT) (by first | exact hX | exact hT.1.2 hX) (hD)) (by decide) (fun v1046 σ1047 hOσ1047 hT hqv1046 => ?_)
                        have hqv1046 : (v1046 = 0 ∨ v1046 = 1) ∧ RD σ1047.1 := hqv1046
                        have hD : RD σ1047.1 := by first | exact hqv1046.2 | exact hqv1046.2.1
                        have hW : WI 28 σ1047.1 := WI.tr hOσ1047 (by decide) (by decide) (by decide) hW
                        refine ok_if (fun hc1048 => ?_) (fun hc1048 => ?_)
                        · exact ok_rZ (Or.inl rfl) ⟨hT, (show ((0 : Int32) = 0 ∨ (0 : Int32) = 1) ∧ RD σ1047.1 ∧ WI 28 σ1047.1 from by first | exact ⟨Or.inl rfl, hD, hW⟩ | exact ⟨Or.inr rfl, hD, hW⟩ | exact ⟨Or.inl hqv1046.1, hD, hW⟩ | exact ⟨hqv1046.1, hD, hW⟩)⟩
                        · exact ok_rZ (Or.inr rfl) ⟨hT, (show ((1 : Int32) = 0 ∨ (1 : Int32) = 1) ∧ RD σ1047.1 ∧ WI 28 σ1047.1 from by first | exact ⟨Or.inl rfl, hD, hW⟩ | exact ⟨Or.inr rfl, hD, hW⟩ | exact ⟨Or.inl hqv1046.1, hD, hW⟩ | exact ⟨hqv1046.1, hD, hW⟩)⟩
                    · refine ok_gC rfl ?_
                      refine ok_zbT (Q := fun V σ => V = 1 ∧ RD σ.1) hT (s_X5_emit hN (hR.tr hT) (by first | exact hX | exact hT.1.2 hX) (hD)) (by decide) (fun v1049 σ1050 hOσ1050 hT hqv1049 => ?_)
                      have hqv1049 : v1049 = 1 ∧ RD σ1050.1 := hqv1049
                      have hD : RD σ1050.1 := by first | exact hqv1049.2 | exact hqv1049.2.1
                      have hW : WI 28 σ1050.1 := WI.tr hOσ1050 (by decide) (by decide) (by decide) hW
                      refine ok_if (fun hc1051 => ?_) (fun hc1051 => ?_)
                      · rw [J_X5_readLine_211.eq_1]
                        refine ok_if (fun hc1052 => ?_) (fun hc1052 => ?_)
                        · exact ok_rZ (Or.inl rfl) ⟨hT, (show ((0 : Int32) = 0 ∨ (0 : Int32) = 1) ∧ RD σ1050.1 ∧ WI 28 σ1050.1 from by first | exact ⟨Or.inl rfl, hD, hW⟩ | exact ⟨Or.inr rfl, hD, hW⟩ | exact ⟨Or.inl hqv1049.1, hD, hW⟩ | exact ⟨hqv1049.1, hD, hW⟩)⟩
                        · refine ok_gC rfl ?_
                          refine ok_zbT (Q := fun V σ => (V = 0 ∨ V = 1) ∧ RD σ.1) hT (s_X5_pass hN (hR.tr hT) (by first | exact hX | exact hT.1.2 hX) (hD)) (by decide) (fun v1053 σ1054 hOσ1054 hT hqv1053 => ?_)
                          have hqv1053 : (v1053 = 0 ∨ v1053 = 1) ∧ RD σ1054.1 := hqv1053
                          have hD : RD σ1054.1 := by first | exact hqv1053.2 | exact hqv1053.2.1
                          have hW : WI 28 σ1054.1 := WI.tr hOσ1054 (by decide) (by decide) (by decide) hW
                          refine ok_if (fun hc1055 => ?_) (fun hc1055 => ?_)
                          · exact ok_rZ (Or.inl rfl) ⟨hT, (show ((0 : Int32) = 0 ∨ (0 : Int32) = 1) ∧ RD σ1054.1 ∧ WI 28 σ1054.1 from by first | exact ⟨Or.inl rfl, hD, hW⟩ | exact ⟨Or.inr rfl, hD, hW⟩ | exact ⟨Or.inl hqv1053.1, hD, hW⟩ | exact ⟨hqv1053.1, hD, hW⟩)⟩
                          · exact ok_rZ (Or.inr rfl) ⟨hT, (show ((1 : Int32) = 0 ∨ (1 : Int32) = 1) ∧ RD σ1054.1 ∧ WI 28 σ1054.1 from by first | exact ⟨Or.inl rfl, hD, hW⟩ | exact ⟨Or.inr rfl, hD, hW⟩ | exact ⟨Or.inl hqv1053.1, hD, hW⟩ | exact ⟨hqv1053.1, hD, hW⟩)⟩
                      · rw [J_X5_readLine_211.eq_1]
                        refine ok_if (fun hc1056 => ?_) (fun hc1056 => ?_)
                        · exact ok_rZ (Or.inl rfl) ⟨hT, (show ((0 : Int32) = 0 ∨ (0 : Int32) = 1) ∧ RD σ1050.1 ∧ WI 28 σ1050.1 from by first | exact ⟨Or.inl rfl, hD, hW⟩ | exact ⟨Or.inr rfl, hD, hW⟩ | exact ⟨Or.inl hqv1049.1, hD, hW⟩ | exact ⟨hqv1049.1, hD, hW⟩)⟩
                        · refine ok_gC rfl ?_
                          refine ok_zbT (Q := fun V σ => (V = 0 ∨ V = 1) ∧ RD σ.1) hT (s_X5_pass hN (hR.tr hT) (by first | exact hX | exact hT.1.2 hX) (hD)) (by decide) (fun v1057 σ1058 hOσ1058 hT hqv1057 => ?_)
                          have hqv1057 : (v1057 = 0 ∨ v1057 = 1) ∧ RD σ1058.1 := hqv1057
                          have hD : RD σ1058.1 := by first | exact hqv1057.2 | exact hqv1057.2.1
                          have hW : WI 28 σ1058.1 := WI.tr hOσ1058 (by decide) (by decide) (by decide) hW
                          refine ok_if (fun hc1059 => ?_) (fun hc1059 => ?_)
                          · exact ok_rZ (Or.inl rfl) ⟨hT, (show ((0 : Int32) = 0 ∨ (0 : Int32) = 1) ∧ RD σ1058.1 ∧ WI 28 σ1058.1 from by first | exact ⟨Or.inl rfl, hD, hW⟩ | exact ⟨Or.inr rfl, hD, hW⟩ | exact ⟨Or.inl hqv1057.1, hD, hW⟩ | exact ⟨hqv1057.1, hD, hW⟩)⟩
                          · exact ok_rZ (Or.inr rfl) ⟨hT, (show ((1 : Int32) = 0 ∨ (1 : Int32) = 1) ∧ RD σ1058.1 ∧ WI 28 σ1058.1 from by first | exact ⟨Or.inl rfl, hD, hW⟩ | exact ⟨Or.inr rfl, hD, hW⟩ | exact ⟨Or.inl hqv1057.1, hD, hW⟩ | exact ⟨hqv1057.1, hD, hW⟩)⟩
            · refine ok_gC rfl ?_
              refine ok_zbT (Q := fun V σ => V = 0 ∧ RD σ.1) hT (s_X5_fail hN (hR.tr hT) (by first | exact hX | exact hT.1.2 hX) (hD)) (by decide) (fun v1060 σ1061 hOσ1061 hT hqv1060 => ?_)
              have hqv1060 : v1060 = 0 ∧ RD σ1061.1 := hqv1060
              have hD : RD σ1061.1 := by first | exact hqv1060.2 | exact hqv1060.2.1
              have hW : WI 28 σ1061.1 := WI.tr hOσ1061 (by decide) (by decide) (by decide) hW
              exact ok_rZ (by have q := hqv1060.1; first | exact q | exact Or.inl q | exact Or.inr q) ⟨hT, (show (v1060 = 0 ∨ v1060 = 1) ∧ RD σ1061.1 ∧ WI 28 σ1061.1 from by first | exact ⟨Or.inl rfl, hD, hW⟩ | exact ⟨Or.inr rfl, hD, hW⟩ | exact ⟨Or.inl hqv1060.1, hD, hW⟩ | exact ⟨hqv1060.1, hD, hW⟩)⟩
        · refine ok_gC rfl ?_
          refine ok_zbT (Q := fun V σ => V = 0 ∧ RD σ.1) hT (s_X5_fail hN (hR.tr hT) (by first | exact hX | exact hT.1.2 hX) (hD)) (by decide) (fun v1062 σ1063 hOσ1063 hT hqv1062 => ?_)
          have hqv1062 : v1062 = 0 ∧ RD σ1063.1 := hqv1062
          have hD : RD σ1063.1 := by first | exact hqv1062.2 | exact hqv1062.2.1
          have hW : WI 28 σ1063.1 := WI.tr hOσ1063 (by decide) (by decide) (by decide) hW
          exact ok_rZ (by have q := hqv1062.1; first | exact q | exact Or.inl q | exact Or.inr q) ⟨hT, (show (v1062 = 0 ∨ v1062 = 1) ∧ RD σ1063.1 ∧ WI 28 σ1063.1 from by first | exact ⟨Or.inl rfl, hD, hW⟩ | exact ⟨Or.inr rfl, hD, hW⟩ | exact ⟨Or.inl hqv1062.1, hD, hW⟩ | exact ⟨hqv1062.1, hD, hW⟩)⟩
end Zq2_0

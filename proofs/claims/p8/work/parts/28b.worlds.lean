set_option maxHeartbeats 4000000 in
set_option maxRecDepth 100000 in
theorem s_X10_clear_2 {N : Nat} (hN : 1048576 ≤ N)  {σ0 : zS}  (hR : RF σ0.2.2) (hW : WI 2 σ0.1) : Ok (f_X10_clear N 2 σ0) (fun r => Tr [2, 5, 6] σ0 r.2 ∧ (WI 2 r.2.1)) := by
  have hT : Tr [2, 5, 6] σ0 σ0 := Tr.rf
  rw [f_X10_clear.eq_1]
  refine ok_pI hT rfl (by decide) (fun σ1 eσ1 hOσ1 hT => ?_)
  have hW : WI 2 σ1.1 := WI_p0 eσ1 (by decide) hW
  refine ok_pI hT rfl (by decide) (fun σ2 eσ2 hOσ2 hT => ?_)
  have hW : WI 2 σ2.1 := WI_p1 eσ2 hW
  refine ok_pI hT rfl (by decide) (fun σ3 eσ3 hOσ3 hT => ?_)
  have hW : WI 2 σ3.1 := WI_p2 eσ3 (by decide) hW
  refine ok_lp (fun t : Int32 × zS => Tr [2, 5, 6] σ0 (t.2) ∧ (0 ≤ (t.1).toInt) ∧ (WI 2 (t.2).1)) (fun t : Int32 × zS => ((10 : Int32).toInt - (t.1).toInt).toNat) (fun again4 t hI ih17_4 => ?_) N _ (show Tr [2, 5, 6] σ0 σ3 ∧ (0 ≤ (0 : Int32).toInt) ∧ (WI 2 σ3.1) from ⟨hT, (by first | omega | decide | (simp only [Int32.le_iff_toInt_le, Int32.lt_iff_toInt_lt, ti_add, ti_sub, ti_mul, Int32.reduceToInt] at *; omega)), hW⟩) (show ((10 : Int32).toInt - (0 : Int32).toInt).toNat < N from (by first | omega | decide | (simp only [Int32.le_iff_toInt_le, Int32.lt_iff_toInt_lt, ti_add, ti_sub, ti_mul, Int32.reduceToInt] at *; omega)))
  obtain ⟨x1_4, σ4⟩ := t
  have hI : Tr [2, 5, 6] σ0 σ4 ∧ (0 ≤ x1_4.toInt) ∧ (WI 2 σ4.1) := hI
  obtain ⟨hT, hI4, hW⟩ := hI
  rw [F_X10_clear_17.eq_1]
  refine ok_if (fun hc5 => ?_) (fun hc5 => ?_)
  · refine ok_lp (fun t : Int32 × zS => Tr [2, 5, 6] σ0 (t.2) ∧ (0 ≤ (t.1).toInt) ∧ (WI 2 (t.2).1)) (fun t : Int32 × zS => ((10 : Int32).toInt - (t.1).toInt).toNat) (fun again6 t hI ih45_6 => ?_) N _ (show Tr [2, 5, 6] σ0 σ4 ∧ (0 ≤ (0 : Int32).toInt) ∧ (WI 2 σ4.1) from ⟨hT, (by first | omega | decide | (simp only [Int32.le_iff_toInt_le, Int32.lt_iff_toInt_lt, ti_add, ti_sub, ti_mul, Int32.reduceToInt] at *; omega)), hW⟩) (show ((10 : Int32).toInt - (0 : Int32).toInt).toNat < N from (by first | omega | decide | (simp only [Int32.le_iff_toInt_le, Int32.lt_iff_toInt_lt, ti_add, ti_sub, ti_mul, Int32.reduceToInt] at *; omega)))
    obtain ⟨x1_6, σ6⟩ := t
    have hI : Tr [2, 5, 6] σ0 σ6 ∧ (0 ≤ x1_6.toInt) ∧ (WI 2 σ6.1) := hI
    obtain ⟨hT, hI6, hW⟩ := hI
    rw [F_X10_clear_45.eq_1]
    refine ok_if (fun hc7 => ?_) (fun hc7 => ?_)
    · exact ok_some ⟨hT, (show WI 2 σ6.1 from by exact hW)⟩
    · refine ok_gR (v := 7) hT rfl (hR 2 7 rfl) ?_
      obtain ⟨q10, eq10, kq10⟩ := arrF hR (k := 7) (i := x1_6) rfl (by first | omega | decide | (simp only [Int32.le_iff_toInt_le, Int32.lt_iff_toInt_lt, ti_add, ti_sub, ti_mul, Int32.reduceToInt] at *; omega)) (by first | omega | decide | (simp only [Int32.le_iff_toInt_le, Int32.lt_iff_toInt_lt, ti_add, ti_sub, ti_mul, Int32.reduceToInt] at *; omega))
      refine ok_aR (v := q10) hT rfl (by first | omega | decide | (simp only [Int32.le_iff_toInt_le, Int32.lt_iff_toInt_lt, ti_add, ti_sub, ti_mul, Int32.reduceToInt] at *; omega)) (by first | omega | decide | (simp only [Int32.le_iff_toInt_le, Int32.lt_iff_toInt_lt, ti_add, ti_sub, ti_mul, Int32.reduceToInt] at *; omega)) eq10 ?_
      refine ok_gC kq10 ?_
      refine ok_zbT (Q := fun V σ => True) hT (s_X2_clear hN (hR.tr hT) kq10) (fun _ h9 => absurd h9 List.not_mem_nil) (fun v11 σ12 hOσ12 hT hqv11 => ?_)
      have hW : WI 2 σ12.1 := WI.tr hOσ12 (by decide) (by decide) (by decide) hW
      exact ih45_6 (x1_6 + 1, σ12) (show Tr [2, 5, 6] σ0 σ12 ∧ (0 ≤ (x1_6 + 1).toInt) ∧ (WI 2 σ12.1) from ⟨hT, (by first | omega | decide | (simp only [Int32.le_iff_toInt_le, Int32.lt_iff_toInt_lt, ti_add, ti_sub, ti_mul, Int32.reduceToInt] at *; omega)), hW⟩) (show ((10 : Int32).toInt - (x1_6 + 1).toInt).toNat < ((10 : Int32).toInt - x1_6.toInt).toNat from (by first | omega | decide | (simp only [Int32.le_iff_toInt_le, Int32.lt_iff_toInt_lt, ti_add, ti_sub, ti_mul, Int32.reduceToInt] at *; omega)))
  · refine ok_gR (v := 5) hT rfl (hR 2 5 rfl) ?_
    refine ok_s14 hT rfl (by decide) (by first | omega | decide | (simp only [Int32.le_iff_toInt_le, Int32.lt_iff_toInt_lt, ti_add, ti_sub, ti_mul, Int32.reduceToInt] at *; omega)) (by first | omega | decide | (simp only [Int32.le_iff_toInt_le, Int32.lt_iff_toInt_lt, ti_add, ti_sub, ti_mul, Int32.reduceToInt] at *; omega)) (fun σ14 eσ14 hOσ14 hT => ?_)
    have hW : WI 2 σ14.1 := WI.tr hOσ14 (by decide) (by decide) (by decide) hW
    refine ok_gR (v := 6) hT rfl (hR 2 6 rfl) ?_
    refine ok_s14 hT rfl (by decide) (by first | omega | decide | (simp only [Int32.le_iff_toInt_le, Int32.lt_iff_toInt_lt, ti_add, ti_sub, ti_mul, Int32.reduceToInt] at *; omega)) (by first | omega | decide | (simp only [Int32.le_iff_toInt_le, Int32.lt_iff_toInt_lt, ti_add, ti_sub, ti_mul, Int32.reduceToInt] at *; omega)) (fun σ16 eσ16 hOσ16 hT => ?_)
    have hW : WI 2 σ16.1 := WI.tr hOσ16 (by decide) (by decide) (by decide) hW
    exact ih17_4 (x1_4 + 1, σ16) (show Tr [2, 5, 6] σ0 σ16 ∧ (0 ≤ (x1_4 + 1).toInt) ∧ (WI 2 σ16.1) from ⟨hT, (by first | omega | decide | (simp only [Int32.le_iff_toInt_le, Int32.lt_iff_toInt_lt, ti_add, ti_sub, ti_mul, Int32.reduceToInt] at *; omega)), hW⟩) (show ((10 : Int32).toInt - (x1_4 + 1).toInt).toNat < ((10 : Int32).toInt - x1_4.toInt).toNat from (by first | omega | decide | (simp only [Int32.le_iff_toInt_le, Int32.lt_iff_toInt_lt, ti_add, ti_sub, ti_mul, Int32.reduceToInt] at *; omega)))

set_option maxHeartbeats 4000000 in
set_option maxRecDepth 100000 in
theorem s_X10_copyFrom_2_132 {N : Nat} (hN : 1048576 ≤ N)  {σ0 : zS}  (hR : RF σ0.2.2) (hW : WI 2 σ0.1) (hV : WI 132 σ0.1) : Ok (f_X10_copyFrom N 2 132 σ0) (fun r => Tr [2, 3, 4, 5, 6] σ0 r.2 ∧ (WI 2 r.2.1)) := by
  have hT : Tr [2, 3, 4, 5, 6] σ0 σ0 := Tr.rf
  rw [f_X10_copyFrom.eq_1]
  refine ok_gIv rfl rfl ?_
  refine ok_pI hT rfl (by decide) (fun σ2 eσ2 hOσ2 hT => ?_)
  have hW : WI 2 σ2.1 := WI_p0 eσ2 (hV).1 hW
  have hV : WI 132 σ2.1 := WI.tr hOσ2 (by decide) (by decide) (by decide) hV
  refine ok_gIv rfl rfl ?_
  refine ok_pI hT rfl (by decide) (fun σ4 eσ4 hOσ4 hT => ?_)
  have hW : WI 2 σ4.1 := WI_p1 eσ4 hW
  have hV : WI 132 σ4.1 := WI.tr hOσ4 (by decide) (by decide) (by decide) hV
  refine ok_gIv rfl rfl ?_
  refine ok_pI hT rfl (by decide) (fun σ6 eσ6 hOσ6 hT => ?_)
  have hW : WI 2 σ6.1 := WI_p2 eσ6 (hV).2.1 hW
  have hV : WI 132 σ6.1 := WI.tr hOσ6 (by decide) (by decide) (by decide) hV
  refine ok_gR (v := 133) hT rfl (hR 132 3 rfl) ?_
  refine ok_gR (v := 3) hT rfl (hR 2 3 rfl) ?_
  refine ok_cpI hT rfl rfl (by decide) (by first | omega | decide | (simp only [Int32.le_iff_toInt_le, Int32.lt_iff_toInt_lt, ti_add, ti_sub, ti_mul, Int32.reduceToInt] at *; omega)) (by first | omega | decide | (simp only [Int32.le_iff_toInt_le, Int32.lt_iff_toInt_lt, ti_add, ti_sub, ti_mul, Int32.reduceToInt] at *; omega)) (by first | omega | decide | (simp only [Int32.le_iff_toInt_le, Int32.lt_iff_toInt_lt, ti_add, ti_sub, ti_mul, Int32.reduceToInt] at *; omega)) (by first | omega | decide | (simp only [Int32.le_iff_toInt_le, Int32.lt_iff_toInt_lt, ti_add, ti_sub, ti_mul, Int32.reduceToInt] at *; omega)) (by first | omega | decide | (simp only [Int32.le_iff_toInt_le, Int32.lt_iff_toInt_lt, ti_add, ti_sub, ti_mul, Int32.reduceToInt] at *; omega)) (fun σ9 eσ9 hOσ9 hT => ?_)
  have hW : WI 2 σ9.1 := WI_c1 (B := 2) (C := 132) eσ9 hV hW
  have hV : WI 132 σ9.1 := WI.tr hOσ9 (by decide) (by decide) (by decide) hV
  refine ok_gR (v := 134) hT rfl (hR 132 4 rfl) ?_
  refine ok_gR (v := 4) hT rfl (hR 2 4 rfl) ?_
  refine ok_cpI hT rfl rfl (by decide) (by first | omega | decide | (simp only [Int32.le_iff_toInt_le, Int32.lt_iff_toInt_lt, ti_add, ti_sub, ti_mul, Int32.reduceToInt] at *; omega)) (by first | omega | decide | (simp only [Int32.le_iff_toInt_le, Int32.lt_iff_toInt_lt, ti_add, ti_sub, ti_mul, Int32.reduceToInt] at *; omega)) (by first | omega | decide | (simp only [Int32.le_iff_toInt_le, Int32.lt_iff_toInt_lt, ti_add, ti_sub, ti_mul, Int32.reduceToInt] at *; omega)) (by first | omega | decide | (simp only [Int32.le_iff_toInt_le, Int32.lt_iff_toInt_lt, ti_add, ti_sub, ti_mul, Int32.reduceToInt] at *; omega)) (by first | omega | decide | (simp only [Int32.le_iff_toInt_le, Int32.lt_iff_toInt_lt, ti_add, ti_sub, ti_mul, Int32.reduceToInt] at *; omega)) (fun σ12 eσ12 hOσ12 hT => ?_)
  have hW : WI 2 σ12.1 := WI_c2 (B := 2) (C := 132) eσ12 hV hW
  have hV : WI 132 σ12.1 := WI.tr hOσ12 (by decide) (by decide) (by decide) hV
  refine ok_gR (v := 135) hT rfl (hR 132 5 rfl) ?_
  refine ok_gR (v := 5) hT rfl (hR 2 5 rfl) ?_
  refine ok_cpI hT rfl rfl (by decide) (by first | omega | decide | (simp only [Int32.le_iff_toInt_le, Int32.lt_iff_toInt_lt, ti_add, ti_sub, ti_mul, Int32.reduceToInt] at *; omega)) (by first | omega | decide | (simp only [Int32.le_iff_toInt_le, Int32.lt_iff_toInt_lt, ti_add, ti_sub, ti_mul, Int32.reduceToInt] at *; omega)) (by first | omega | decide | (simp only [Int32.le_iff_toInt_le, Int32.lt_iff_toInt_lt, ti_add, ti_sub, ti_mul, Int32.reduceToInt] at *; omega)) (by first | omega | decide | (simp only [Int32.le_iff_toInt_le, Int32.lt_iff_toInt_lt, ti_add, ti_sub, ti_mul, Int32.reduceToInt] at *; omega)) (by first | omega | decide | (simp only [Int32.le_iff_toInt_le, Int32.lt_iff_toInt_lt, ti_add, ti_sub, ti_mul, Int32.reduceToInt] at *; omega)) (fun σ15 eσ15 hOσ15 hT => ?_)
  have hW : WI 2 σ15.1 := WI.tr hOσ15 (by decide) (by decide) (by decide) hW
  have hV : WI 132 σ15.1 := WI.tr hOσ15 (by decide) (by decide) (by decide) hV
  refine ok_gR (v := 136) hT rfl (hR 132 6 rfl) ?_
  refine ok_gR (v := 6) hT rfl (hR 2 6 rfl) ?_
  refine ok_cpI hT rfl rfl (by decide) (by first | omega | decide | (simp only [Int32.le_iff_toInt_le, Int32.lt_iff_toInt_lt, ti_add, ti_sub, ti_mul, Int32.reduceToInt] at *; omega)) (by first | omega | decide | (simp only [Int32.le_iff_toInt_le, Int32.lt_iff_toInt_lt, ti_add, ti_sub, ti_mul, Int32.reduceToInt] at *; omega)) (by first | omega | decide | (simp only [Int32.le_iff_toInt_le, Int32.lt_iff_toInt_lt, ti_add, ti_sub, ti_mul, Int32.reduceToInt] at *; omega)) (by first | omega | decide | (simp only [Int32.le_iff_toInt_le, Int32.lt_iff_toInt_lt, ti_add, ti_sub, ti_mul, Int32.reduceToInt] at *; omega)) (by first | omega | decide | (simp only [Int32.le_iff_toInt_le, Int32.lt_iff_toInt_lt, ti_add, ti_sub, ti_mul, Int32.reduceToInt] at *; omega)) (fun σ18 eσ18 hOσ18 hT => ?_)
  have hW : WI 2 σ18.1 := WI.tr hOσ18 (by decide) (by decide) (by decide) hW
  have hV : WI 132 σ18.1 := WI.tr hOσ18 (by decide) (by decide) (by decide) hV
  refine ok_lp (fun t : Int32 × zS => Tr [2, 3, 4, 5, 6] σ0 (t.2) ∧ (0 ≤ (t.1).toInt) ∧ (WI 2 (t.2).1) ∧ (WI 132 (t.2).1)) (fun t : Int32 × zS => ((10 : Int32).toInt - (t.1).toInt).toNat) (fun again19 t hI ih86_19 => ?_) N _ (show Tr [2, 3, 4, 5, 6] σ0 σ18 ∧ (0 ≤ (0 : Int32).toInt) ∧ (WI 2 σ18.1) ∧ (WI 132 σ18.1) from ⟨hT, (by first | omega | decide | (simp only [Int32.le_iff_toInt_le, Int32.lt_iff_toInt_lt, ti_add, ti_sub, ti_mul, Int32.reduceToInt] at *; omega)), hW, hV⟩) (show ((10 : Int32).toInt - (0 : Int32).toInt).toNat < N from (by first | omega | decide | (simp only [Int32.le_iff_toInt_le, Int32.lt_iff_toInt_lt, ti_add, ti_sub, ti_mul, Int32.reduceToInt] at *; omega)))
  obtain ⟨x2_19, σ19⟩ := t
  have hI : Tr [2, 3, 4, 5, 6] σ0 σ19 ∧ (0 ≤ x2_19.toInt) ∧ (WI 2 σ19.1) ∧ (WI 132 σ19.1) := hI
  obtain ⟨hT, hI19, hW, hV⟩ := hI
  rw [F_X10_copyFrom_86.eq_1]
  refine ok_if (fun hc20 => ?_) (fun hc20 => ?_)
  · exact ok_some ⟨hT, (show WI 2 σ19.1 from by exact hW)⟩
  · refine ok_gR (v := 7) hT rfl (hR 2 7 rfl) ?_
    obtain ⟨q23, eq23, kq23⟩ := arrF hR (k := 7) (i := x2_19) rfl (by first | omega | decide | (simp only [Int32.le_iff_toInt_le, Int32.lt_iff_toInt_lt, ti_add, ti_sub, ti_mul, Int32.reduceToInt] at *; omega)) (by first | omega | decide | (simp only [Int32.le_iff_toInt_le, Int32.lt_iff_toInt_lt, ti_add, ti_sub, ti_mul, Int32.reduceToInt] at *; omega))
    refine ok_aR (v := q23) hT rfl (by first | omega | decide | (simp only [Int32.le_iff_toInt_le, Int32.lt_iff_toInt_lt, ti_add, ti_sub, ti_mul, Int32.reduceToInt] at *; omega)) (by first | omega | decide | (simp only [Int32.le_iff_toInt_le, Int32.lt_iff_toInt_lt, ti_add, ti_sub, ti_mul, Int32.reduceToInt] at *; omega)) eq23 ?_
    refine ok_gR (v := 137) hT rfl (hR 132 7 rfl) ?_
    obtain ⟨q26, eq26, kq26⟩ := arrF hR (k := 137) (i := x2_19) rfl (by first | omega | decide | (simp only [Int32.le_iff_toInt_le, Int32.lt_iff_toInt_lt, ti_add, ti_sub, ti_mul, Int32.reduceToInt] at *; omega)) (by first | omega | decide | (simp only [Int32.le_iff_toInt_le, Int32.lt_iff_toInt_lt, ti_add, ti_sub, ti_mul, Int32.reduceToInt] at *; omega))
    refine ok_aR (v := q26) hT rfl (by first | omega | decide | (simp only [Int32.le_iff_toInt_le, Int32.lt_iff_toInt_lt, ti_add, ti_sub, ti_mul, Int32.reduceToInt] at *; omega)) (by first | omega | decide | (simp only [Int32.le_iff_toInt_le, Int32.lt_iff_toInt_lt, ti_add, ti_sub, ti_mul, Int32.reduceToInt] at *; omega)) eq26 ?_
    refine ok_gC kq23 ?_
    refine ok_zbT (Q := fun V σ => True) hT (s_X2_copyFrom hN (hR.tr hT) kq23 kq26) (fun _ h9 => absurd h9 List.not_mem_nil) (fun v27 σ28 hOσ28 hT hqv27 => ?_)
    have hW : WI 2 σ28.1 := WI.tr hOσ28 (by decide) (by decide) (by decide) hW
    have hV : WI 132 σ28.1 := WI.tr hOσ28 (by decide) (by decide) (by decide) hV
    exact ih86_19 (x2_19 + 1, σ28) (show Tr [2, 3, 4, 5, 6] σ0 σ28 ∧ (0 ≤ (x2_19 + 1).toInt) ∧ (WI 2 σ28.1) ∧ (WI 132 σ28.1) from ⟨hT, (by first | omega | decide | (simp only [Int32.le_iff_toInt_le, Int32.lt_iff_toInt_lt, ti_add, ti_sub, ti_mul, Int32.reduceToInt] at *; omega)), hW, hV⟩) (show ((10 : Int32).toInt - (x2_19 + 1).toInt).toNat < ((10 : Int32).toInt - x2_19.toInt).toNat from (by first | omega | decide | (simp only [Int32.le_iff_toInt_le, Int32.lt_iff_toInt_lt, ti_add, ti_sub, ti_mul, Int32.reduceToInt] at *; omega)))

set_option maxHeartbeats 4000000 in
set_option maxRecDepth 100000 in
theorem s_X10_copyFrom_132_2 {N : Nat} (hN : 1048576 ≤ N)  {σ0 : zS}  (hR : RF σ0.2.2) (hW : WI 132 σ0.1) (hV : WI 2 σ0.1) : Ok (f_X10_copyFrom N 132 2 σ0) (fun r => Tr [132, 133, 134, 135, 136] σ0 r.2 ∧ (WI 132 r.2.1)) := by
  have hT : Tr [132, 133, 134, 135, 136] σ0 σ0 := Tr.rf
  rw [f_X10_copyFrom.eq_1]
  refine ok_gIv rfl rfl ?_
  refine ok_pI hT rfl (by decide) (fun σ2 eσ2 hOσ2 hT => ?_)
  have hW : WI 132 σ2.1 := WI_p0 eσ2 (hV).1 hW
  have hV : WI 2 σ2.1 := WI.tr hOσ2 (by decide) (by decide) (by decide) hV
  refine ok_gIv rfl rfl ?_
  refine ok_pI hT rfl (by decide) (fun σ4 eσ4 hOσ4 hT => ?_)
  have hW : WI 132 σ4.1 := WI_p1 eσ4 hW
  have hV : WI 2 σ4.1 := WI.tr hOσ4 (by decide) (by decide) (by decide) hV
  refine ok_gIv rfl rfl ?_
  refine ok_pI hT rfl (by decide) (fun σ6 eσ6 hOσ6 hT => ?_)
  have hW : WI 132 σ6.1 := WI_p2 eσ6 (hV).2.1 hW
  have hV : WI 2 σ6.1 := WI.tr hOσ6 (by decide) (by decide) (by decide) hV
  refine ok_gR (v := 3) hT rfl (hR 2 3 rfl) ?_
  refine ok_gR (v := 133) hT rfl (hR 132 3 rfl) ?_
  refine ok_cpI hT rfl rfl (by decide) (by first | omega | decide | (simp only [Int32.le_iff_toInt_le, Int32.lt_iff_toInt_lt, ti_add, ti_sub, ti_mul, Int32.reduceToInt] at *; omega)) (by first | omega | decide | (simp only [Int32.le_iff_toInt_le, Int32.lt_iff_toInt_lt, ti_add, ti_sub, ti_mul, Int32.reduceToInt] at *; omega)) (by first | omega | decide | (simp only [Int32.le_iff_toInt_le, Int32.lt_iff_toInt_lt, ti_add, ti_sub, ti_mul, Int32.reduceToInt] at *; omega)) (by first | omega | decide | (simp only [Int32.le_iff_toInt_le, Int32.lt_iff_toInt_lt, ti_add, ti_sub, ti_mul, Int32.reduceToInt] at *; omega)) (by first | omega | decide | (simp only [Int32.le_iff_toInt_le, Int32.lt_iff_toInt_lt, ti_add, ti_sub, ti_mul, Int32.reduceToInt] at *; omega)) (fun σ9 eσ9 hOσ9 hT => ?_)
  have hW : WI 132 σ9.1 := WI_c1 (B := 132) (C := 2) eσ9 hV hW
  have hV : WI 2 σ9.1 := WI.tr hOσ9 (by decide) (by decide) (by decide) hV
  refine ok_gR (v := 4) hT rfl (hR 2 4 rfl) ?_
  refine ok_gR (v := 134) hT rfl (hR 132 4 rfl) ?_
  refine ok_cpI hT rfl rfl (by decide) (by first | omega | decide | (simp only [Int32.le_iff_toInt_le, Int32.lt_iff_toInt_lt, ti_add, ti_sub, ti_mul, Int32.reduceToInt] at *; omega)) (by first | omega | decide | (simp only [Int32.le_iff_toInt_le, Int32.lt_iff_toInt_lt, ti_add, ti_sub, ti_mul, Int32.reduceToInt] at *; omega)) (by first | omega | decide | (simp only [Int32.le_iff_toInt_le, Int32.lt_iff_toInt_lt, ti_add, ti_sub, ti_mul, Int32.reduceToInt] at *; omega)) (by first | omega | decide | (simp only [Int32.le_iff_toInt_le, Int32.lt_iff_toInt_lt, ti_add, ti_sub, ti_mul, Int32.reduceToInt] at *; omega)) (by first | omega | decide | (simp only [Int32.le_iff_toInt_le, Int32.lt_iff_toInt_lt, ti_add, ti_sub, ti_mul, Int32.reduceToInt] at *; omega)) (fun σ12 eσ12 hOσ12 hT => ?_)
  have hW : WI 132 σ12.1 := WI_c2 (B := 132) (C := 2) eσ12 hV hW
  have hV : WI 2 σ12.1 := WI.tr hOσ12 (by decide) (by decide) (by decide) hV
  refine ok_gR (v := 5) hT rfl (hR 2 5 rfl) ?_
  refine ok_gR (v := 135) hT rfl (hR 132 5 rfl) ?_
  refine ok_cpI hT rfl rfl (by decide) (by first | omega | decide | (simp only [Int32.le_iff_toInt_le, Int32.lt_iff_toInt_lt, ti_add, ti_sub, ti_mul, Int32.reduceToInt] at *; omega)) (by first | omega | decide | (simp only [Int32.le_iff_toInt_le, Int32.lt_iff_toInt_lt, ti_add, ti_sub, ti_mul, Int32.reduceToInt] at *; omega)) (by first | omega | decide | (simp only [Int32.le_iff_toInt_le, Int32.lt_iff_toInt_lt, ti_add, ti_sub, ti_mul, Int32.reduceToInt] at *; omega)) (by first | omega | decide | (simp only [Int32.le_iff_toInt_le, Int32.lt_iff_toInt_lt, ti_add, ti_sub, ti_mul, Int32.reduceToInt] at *; omega)) (by first | omega | decide | (simp only [Int32.le_iff_toInt_le, Int32.lt_iff_toInt_lt, ti_add, ti_sub, ti_mul, Int32.reduceToInt] at *; omega)) (fun σ15 eσ15 hOσ15 hT => ?_)
  have hW : WI 132 σ15.1 := WI.tr hOσ15 (by decide) (by decide) (by decide) hW
  have hV : WI 2 σ15.1 := WI.tr hOσ15 (by decide) (by decide) (by decide) hV
  refine ok_gR (v := 6) hT rfl (hR 2 6 rfl) ?_
  refine ok_gR (v := 136) hT rfl (hR 132 6 rfl) ?_
  refine ok_cpI hT rfl rfl (by decide) (by first | omega | decide | (simp only [Int32.le_iff_toInt_le, Int32.lt_iff_toInt_lt, ti_add, ti_sub, ti_mul, Int32.reduceToInt] at *; omega)) (by first | omega | decide | (simp only [Int32.le_iff_toInt_le, Int32.lt_iff_toInt_lt, ti_add, ti_sub, ti_mul, Int32.reduceToInt] at *; omega)) (by first | omega | decide | (simp only [Int32.le_iff_toInt_le, Int32.lt_iff_toInt_lt, ti_add, ti_sub, ti_mul, Int32.reduceToInt] at *; omega)) (by first | omega | decide | (simp only [Int32.le_iff_toInt_le, Int32.lt_iff_toInt_lt, ti_add, ti_sub, ti_mul, Int32.reduceToInt] at *; omega)) (by first | omega | decide | (simp only [Int32.le_iff_toInt_le, Int32.lt_iff_toInt_lt, ti_add, ti_sub, ti_mul, Int32.reduceToInt] at *; omega)) (fun σ18 eσ18 hOσ18 hT => ?_)
  have hW : WI 132 σ18.1 := WI.tr hOσ18 (by decide) (by decide) (by decide) hW
  have hV : WI 2 σ18.1 := WI.tr hOσ18 (by decide) (by decide) (by decide) hV
  refine ok_lp (fun t : Int32 × zS => Tr [132, 133, 134, 135, 136] σ0 (t.2) ∧ (0 ≤ (t.1).toInt) ∧ (WI 132 (t.2).1) ∧ (WI 2 (t.2).1)) (fun t : Int32 × zS => ((10 : Int32).toInt - (t.1).toInt).toNat) (fun again19 t hI ih86_19 => ?_) N _ (show Tr [132, 133, 134, 135, 136] σ0 σ18 ∧ (0 ≤ (0 : Int32).toInt) ∧ (WI 132 σ18.1) ∧ (WI 2 σ18.1) from ⟨hT, (by first | omega | decide | (simp only [Int32.le_iff_toInt_le, Int32.lt_iff_toInt_lt, ti_add, ti_sub, ti_mul, Int32.reduceToInt] at *; omega)), hW, hV⟩) (show ((10 : Int32).toInt - (0 : Int32).toInt).toNat < N from (by first | omega | decide | (simp only [Int32.le_iff_toInt_le, Int32.lt_iff_toInt_lt, ti_add, ti_sub, ti_mul, Int32.reduceToInt] at *; omega)))
  obtain ⟨x2_19, σ19⟩ := t
  have hI : Tr [132, 133, 134, 135, 136] σ0 σ19 ∧ (0 ≤ x2_19.toInt) ∧ (WI 132 σ19.1) ∧ (WI 2 σ19.1) := hI
  obtain ⟨hT, hI19, hW, hV⟩ := hI
  rw [F_X10_copyFrom_86.eq_1]
  refine ok_if (fun hc20 => ?_) (fun hc20 => ?_)
  · exact ok_some ⟨hT, (show WI 132 σ19.1 from by exact hW)⟩
  · refine ok_gR (v := 137) hT rfl (hR 132 7 rfl) ?_
    obtain ⟨q23, eq23, kq23⟩ := arrF hR (k := 137) (i := x2_19) rfl (by first | omega | decide | (simp only [Int32.le_iff_toInt_le, Int32.lt_iff_toInt_lt, ti_add, ti_sub, ti_mul, Int32.reduceToInt] at *; omega)) (by first | omega | decide | (simp only [Int32.le_iff_toInt_le, Int32.lt_iff_toInt_lt, ti_add, ti_sub, ti_mul, Int32.reduceToInt] at *; omega))
    refine ok_aR (v := q23) hT rfl (by first | omega | decide | (simp only [Int32.le_iff_toInt_le, Int32.lt_iff_toInt_lt, ti_add, ti_sub, ti_mul, Int32.reduceToInt] at *; omega)) (by first | omega | decide | (simp only [Int32.le_iff_toInt_le, Int32.lt_iff_toInt_lt, ti_add, ti_sub, ti_mul, Int32.reduceToInt] at *; omega)) eq23 ?_
    refine ok_gR (v := 7) hT rfl (hR 2 7 rfl) ?_
    obtain ⟨q26, eq26, kq26⟩ := arrF hR (k := 7) (i := x2_19) rfl (by first | omega | decide | (simp only [Int32.le_iff_toInt_le, Int32.lt_iff_toInt_lt, ti_add, ti_sub, ti_mul, Int32.reduceToInt] at *; omega)) (by first | omega | decide | (simp only [Int32.le_iff_toInt_le, Int32.lt_iff_toInt_lt, ti_add, ti_sub, ti_mul, Int32.reduceToInt] at *; omega))
    refine ok_aR (v := q26) hT rfl (by first | omega | decide | (simp only [Int32.le_iff_toInt_le, Int32.lt_iff_toInt_lt, ti_add, ti_sub, ti_mul, Int32.reduceToInt] at *; omega)) (by first | omega | decide | (simp only [Int32.le_iff_toInt_le, Int32.lt_iff_toInt_lt, ti_add, ti_sub, ti_mul, Int32.reduceToInt] at *; omega)) eq26 ?_
    refine ok_gC kq23 ?_
    refine ok_zbT (Q := fun V σ => True) hT (s_X2_copyFrom hN (hR.tr hT) kq23 kq26) (fun _ h9 => absurd h9 List.not_mem_nil) (fun v27 σ28 hOσ28 hT hqv27 => ?_)
    have hW : WI 132 σ28.1 := WI.tr hOσ28 (by decide) (by decide) (by decide) hW
    have hV : WI 2 σ28.1 := WI.tr hOσ28 (by decide) (by decide) (by decide) hV
    exact ih86_19 (x2_19 + 1, σ28) (show Tr [132, 133, 134, 135, 136] σ0 σ28 ∧ (0 ≤ (x2_19 + 1).toInt) ∧ (WI 132 σ28.1) ∧ (WI 2 σ28.1) from ⟨hT, (by first | omega | decide | (simp only [Int32.le_iff_toInt_le, Int32.lt_iff_toInt_lt, ti_add, ti_sub, ti_mul, Int32.reduceToInt] at *; omega)), hW, hV⟩) (show ((10 : Int32).toInt - (x2_19 + 1).toInt).toNat < ((10 : Int32).toInt - x2_19.toInt).toNat from (by first | omega | decide | (simp only [Int32.le_iff_toInt_le, Int32.lt_iff_toInt_lt, ti_add, ti_sub, ti_mul, Int32.reduceToInt] at *; omega)))

set_option maxHeartbeats 4000000 in
set_option maxRecDepth 100000 in
theorem s_X10_copyFrom_2_158 {N : Nat} (hN : 1048576 ≤ N)  {σ0 : zS}  (hR : RF σ0.2.2) (hW : WI 2 σ0.1) (hV : WI 158 σ0.1) : Ok (f_X10_copyFrom N 2 158 σ0) (fun r => Tr [2, 3, 4, 5, 6] σ0 r.2 ∧ (WI 2 r.2.1)) := by
  have hT : Tr [2, 3, 4, 5, 6] σ0 σ0 := Tr.rf
  rw [f_X10_copyFrom.eq_1]
  refine ok_gIv rfl rfl ?_
  refine ok_pI hT rfl (by decide) (fun σ2 eσ2 hOσ2 hT => ?_)
  have hW : WI 2 σ2.1 := WI_p0 eσ2 (hV).1 hW
  have hV : WI 158 σ2.1 := WI.tr hOσ2 (by decide) (by decide) (by decide) hV
  refine ok_gIv rfl rfl ?_
  refine ok_pI hT rfl (by decide) (fun σ4 eσ4 hOσ4 hT => ?_)
  have hW : WI 2 σ4.1 := WI_p1 eσ4 hW
  have hV : WI 158 σ4.1 := WI.tr hOσ4 (by decide) (by decide) (by decide) hV
  refine ok_gIv rfl rfl ?_
  refine ok_pI hT rfl (by decide) (fun σ6 eσ6 hOσ6 hT => ?_)
  have hW : WI 2 σ6.1 := WI_p2 eσ6 (hV).2.1 hW
  have hV : WI 158 σ6.1 := WI.tr hOσ6 (by decide) (by decide) (by decide) hV
  refine ok_gR (v := 159) hT rfl (hR 158 3 rfl) ?_
  refine ok_gR (v := 3) hT rfl (hR 2 3 rfl) ?_
  refine ok_cpI hT rfl rfl (by decide) (by first | omega | decide | (simp only [Int32.le_iff_toInt_le, Int32.lt_iff_toInt_lt, ti_add, ti_sub, ti_mul, Int32.reduceToInt] at *; omega)) (by first | omega | decide | (simp only [Int32.le_iff_toInt_le, Int32.lt_iff_toInt_lt, ti_add, ti_sub, ti_mul, Int32.reduceToInt] at *; omega)) (by first | omega | decide | (simp only [Int32.le_iff_toInt_le, Int32.lt_iff_toInt_lt, ti_add, ti_sub, ti_mul, Int32.reduceToInt] at *; omega)) (by first | omega | decide | (simp only [Int32.le_iff_toInt_le, Int32.lt_iff_toInt_lt, ti_add, ti_sub, ti_mul, Int32.reduceToInt] at *; omega)) (by first | omega | decide | (simp only [Int32.le_iff_toInt_le, Int32.lt_iff_toInt_lt, ti_add, ti_sub, ti_mul, Int32.reduceToInt] at *; omega)) (fun σ9 eσ9 hOσ9 hT => ?_)
  have hW : WI 2 σ9.1 := WI_c1 (B := 2) (C := 158) eσ9 hV hW
  have hV : WI 158 σ9.1 := WI.tr hOσ9 (by decide) (by decide) (by decide) hV
  refine ok_gR (v := 160) hT rfl (hR 158 4 rfl) ?_
  refine ok_gR (v := 4) hT rfl (hR 2 4 rfl) ?_
  refine ok_cpI hT rfl rfl (by decide) (by first | omega | decide | (simp only [Int32.le_iff_toInt_le, Int32.lt_iff_toInt_lt, ti_add, ti_sub, ti_mul, Int32.reduceToInt] at *; omega)) (by first | omega | decide | (simp only [Int32.le_iff_toInt_le, Int32.lt_iff_toInt_lt, ti_add, ti_sub, ti_mul, Int32.reduceToInt] at *; omega)) (by first | omega | decide | (simp only [Int32.le_iff_toInt_le, Int32.lt_iff_toInt_lt, ti_add, ti_sub, ti_mul, Int32.reduceToInt] at *; omega)) (by first | omega | decide | (simp only [Int32.le_iff_toInt_le, Int32.lt_iff_toInt_lt, ti_add, ti_sub, ti_mul, Int32.reduceToInt] at *; omega)) (by first | omega | decide | (simp only [Int32.le_iff_toInt_le, Int32.lt_iff_toInt_lt, ti_add, ti_sub, ti_mul, Int32.reduceToInt] at *; omega)) (fun σ12 eσ12 hOσ12 hT => ?_)
  have hW : WI 2 σ12.1 := WI_c2 (B := 2) (C := 158) eσ12 hV hW
  have hV : WI 158 σ12.1 := WI.tr hOσ12 (by decide) (by decide) (by decide) hV
  refine ok_gR (v := 161) hT rfl (hR 158 5 rfl) ?_
  refine ok_gR (v := 5) hT rfl (hR 2 5 rfl) ?_
  refine ok_cpI hT rfl rfl (by decide) (by first | omega | decide | (simp only [Int32.le_iff_toInt_le, Int32.lt_iff_toInt_lt, ti_add, ti_sub, ti_mul, Int32.reduceToInt] at *; omega)) (by first | omega | decide | (simp only [Int32.le_iff_toInt_le, Int32.lt_iff_toInt_lt, ti_add, ti_sub, ti_mul, Int32.reduceToInt] at *; omega)) (by first | omega | decide | (simp only [Int32.le_iff_toInt_le, Int32.lt_iff_toInt_lt, ti_add, ti_sub, ti_mul, Int32.reduceToInt] at *; omega)) (by first | omega | decide | (simp only [Int32.le_iff_toInt_le, Int32.lt_iff_toInt_lt, ti_add, ti_sub, ti_mul, Int32.reduceToInt] at *; omega)) (by first | omega | decide | (simp only [Int32.le_iff_toInt_le, Int32.lt_iff_toInt_lt, ti_add, ti_sub, ti_mul, Int32.reduceToInt] at *; omega)) (fun σ15 eσ15 hOσ15 hT => ?_)
  have hW : WI 2 σ15.1 := WI.tr hOσ15 (by decide) (by decide) (by decide) hW
  have hV : WI 158 σ15.1 := WI.tr hOσ15 (by decide) (by decide) (by decide) hV
  refine ok_gR (v := 162) hT rfl (hR 158 6 rfl) ?_
  refine ok_gR (v := 6) hT rfl (hR 2 6 rfl) ?_
  refine ok_cpI hT rfl rfl (by decide) (by first | omega | decide | (simp only [Int32.le_iff_toInt_le, Int32.lt_iff_toInt_lt, ti_add, ti_sub, ti_mul, Int32.reduceToInt] at *; omega)) (by first | omega | decide | (simp only [Int32.le_iff_toInt_le, Int32.lt_iff_toInt_lt, ti_add, ti_sub, ti_mul, Int32.reduceToInt] at *; omega)) (by first | omega | decide | (simp only [Int32.le_iff_toInt_le, Int32.lt_iff_toInt_lt, ti_add, ti_sub, ti_mul, Int32.reduceToInt] at *; omega)) (by first | omega | decide | (simp only [Int32.le_iff_toInt_le, Int32.lt_iff_toInt_lt, ti_add, ti_sub, ti_mul, Int32.reduceToInt] at *; omega)) (by first | omega | decide | (simp only [Int32.le_iff_toInt_le, Int32.lt_iff_toInt_lt, ti_add, ti_sub, ti_mul, Int32.reduceToInt] at *; omega)) (fun σ18 eσ18 hOσ18 hT => ?_)
  have hW : WI 2 σ18.1 := WI.tr hOσ18 (by decide) (by decide) (by decide) hW
  have hV : WI 158 σ18.1 := WI.tr hOσ18 (by decide) (by decide) (by decide) hV
  refine ok_lp (fun t : Int32 × zS => Tr [2, 3, 4, 5, 6] σ0 (t.2) ∧ (0 ≤ (t.1).toInt) ∧ (WI 2 (t.2).1) ∧ (WI 158 (t.2).1)) (fun t : Int32 × zS => ((10 : Int32).toInt - (t.1).toInt).toNat) (fun again19 t hI ih86_19 => ?_) N _ (show Tr [2, 3, 4, 5, 6] σ0 σ18 ∧ (0 ≤ (0 : Int32).toInt) ∧ (WI 2 σ18.1) ∧ (WI 158 σ18.1) from ⟨hT, (by first | omega | decide | (simp only [Int32.le_iff_toInt_le, Int32.lt_iff_toInt_lt, ti_add, ti_sub, ti_mul, Int32.reduceToInt] at *; omega)), hW, hV⟩) (show ((10 : Int32).toInt - (0 : Int32).toInt).toNat < N from (by first | omega | decide | (simp only [Int32.le_iff_toInt_le, Int32.lt_iff_toInt_lt, ti_add, ti_sub, ti_mul, Int32.reduceToInt] at *; omega)))
  obtain ⟨x2_19, σ19⟩ := t
  have hI : Tr [2, 3, 4, 5, 6] σ0 σ19 ∧ (0 ≤ x2_19.toInt) ∧ (WI 2 σ19.1) ∧ (WI 158 σ19.1) := hI
  obtain ⟨hT, hI19, hW, hV⟩ := hI
  rw [F_X10_copyFrom_86.eq_1]
  refine ok_if (fun hc20 => ?_) (fun hc20 => ?_)
  · exact ok_some ⟨hT, (show WI 2 σ19.1 from by exact hW)⟩
  · refine ok_gR (v := 7) hT rfl (hR 2 7 rfl) ?_
    obtain ⟨q23, eq23, kq23⟩ := arrF hR (k := 7) (i := x2_19) rfl (by first | omega | decide | (simp only [Int32.le_iff_toInt_le, Int32.lt_iff_toInt_lt, ti_add, ti_sub, ti_mul, Int32.reduceToInt] at *; omega)) (by first | omega | decide | (simp only [Int32.le_iff_toInt_le, Int32.lt_iff_toInt_lt, ti_add, ti_sub, ti_mul, Int32.reduceToInt] at *; omega))
    refine ok_aR (v := q23) hT rfl (by first | omega | decide | (simp only [Int32.le_iff_toInt_le, Int32.lt_iff_toInt_lt, ti_add, ti_sub, ti_mul, Int32.reduceToInt] at *; omega)) (by first | omega | decide | (simp only [Int32.le_iff_toInt_le, Int32.lt_iff_toInt_lt, ti_add, ti_sub, ti_mul, Int32.reduceToInt] at *; omega)) eq23 ?_
    refine ok_gR (v := 163) hT rfl (hR 158 7 rfl) ?_
    obtain ⟨q26, eq26, kq26⟩ := arrF hR (k := 163) (i := x2_19) rfl (by first | omega | decide | (simp only [Int32.le_iff_toInt_le, Int32.lt_iff_toInt_lt, ti_add, ti_sub, ti_mul, Int32.reduceToInt] at *; omega)) (by first | omega | decide | (simp only [Int32.le_iff_toInt_le, Int32.lt_iff_toInt_lt, ti_add, ti_sub, ti_mul, Int32.reduceToInt] at *; omega))
    refine ok_aR (v := q26) hT rfl (by first | omega | decide | (simp only [Int32.le_iff_toInt_le, Int32.lt_iff_toInt_lt, ti_add, ti_sub, ti_mul, Int32.reduceToInt] at *; omega)) (by first | omega | decide | (simp only [Int32.le_iff_toInt_le, Int32.lt_iff_toInt_lt, ti_add, ti_sub, ti_mul, Int32.reduceToInt] at *; omega)) eq26 ?_
    refine ok_gC kq23 ?_
    refine ok_zbT (Q := fun V σ => True) hT (s_X2_copyFrom hN (hR.tr hT) kq23 kq26) (fun _ h9 => absurd h9 List.not_mem_nil) (fun v27 σ28 hOσ28 hT hqv27 => ?_)
    have hW : WI 2 σ28.1 := WI.tr hOσ28 (by decide) (by decide) (by decide) hW
    have hV : WI 158 σ28.1 := WI.tr hOσ28 (by decide) (by decide) (by decide) hV
    exact ih86_19 (x2_19 + 1, σ28) (show Tr [2, 3, 4, 5, 6] σ0 σ28 ∧ (0 ≤ (x2_19 + 1).toInt) ∧ (WI 2 σ28.1) ∧ (WI 158 σ28.1) from ⟨hT, (by first | omega | decide | (simp only [Int32.le_iff_toInt_le, Int32.lt_iff_toInt_lt, ti_add, ti_sub, ti_mul, Int32.reduceToInt] at *; omega)), hW, hV⟩) (show ((10 : Int32).toInt - (x2_19 + 1).toInt).toNat < ((10 : Int32).toInt - x2_19.toInt).toNat from (by first | omega | decide | (simp only [Int32.le_iff_toInt_le, Int32.lt_iff_toInt_lt, ti_add, ti_sub, ti_mul, Int32.reduceToInt] at *; omega)))

set_option maxHeartbeats 4000000 in
set_option maxRecDepth 100000 in
theorem s_X10_copyFrom_158_2 {N : Nat} (hN : 1048576 ≤ N)  {σ0 : zS}  (hR : RF σ0.2.2) (hW : WI 158 σ0.1) (hV : WI 2 σ0.1) : Ok (f_X10_copyFrom N 158 2 σ0) (fun r => Tr [158, 159, 160, 161, 162] σ0 r.2 ∧ (WI 158 r.2.1)) := by
  have hT : Tr [158, 159, 160, 161, 162] σ0 σ0 := Tr.rf
  rw [f_X10_copyFrom.eq_1]
  refine ok_gIv rfl rfl ?_
  refine ok_pI hT rfl (by decide) (fun σ2 eσ2 hOσ2 hT => ?_)
  have hW : WI 158 σ2.1 := WI_p0 eσ2 (hV).1 hW
  have hV : WI 2 σ2.1 := WI.tr hOσ2 (by decide) (by decide) (by decide) hV
  refine ok_gIv rfl rfl ?_
  refine ok_pI hT rfl (by decide) (fun σ4 eσ4 hOσ4 hT => ?_)
  have hW : WI 158 σ4.1 := WI_p1 eσ4 hW
  have hV : WI 2 σ4.1 := WI.tr hOσ4 (by decide) (by decide) (by decide) hV
  refine ok_gIv rfl rfl ?_
  refine ok_pI hT rfl (by decide) (fun σ6 eσ6 hOσ6 hT => ?_)
  have hW : WI 158 σ6.1 := WI_p2 eσ6 (hV).2.1 hW
  have hV : WI 2 σ6.1 := WI.tr hOσ6 (by decide) (by decide) (by decide) hV
  refine ok_gR (v := 3) hT rfl (hR 2 3 rfl) ?_
  refine ok_gR (v := 159) hT rfl (hR 158 3 rfl) ?_
  refine ok_cpI hT rfl rfl (by decide) (by first | omega | decide | (simp only [Int32.le_iff_toInt_le, Int32.lt_iff_toInt_lt, ti_add, ti_sub, ti_mul, Int32.reduceToInt] at *; omega)) (by first | omega | decide | (simp only [Int32.le_iff_toInt_le, Int32.lt_iff_toInt_lt, ti_add, ti_sub, ti_mul, Int32.reduceToInt] at *; omega)) (by first | omega | decide | (simp only [Int32.le_iff_toInt_le, Int32.lt_iff_toInt_lt, ti_add, ti_sub, ti_mul, Int32.reduceToInt] at *; omega)) (by first | omega | decide | (simp only [Int32.le_iff_toInt_le, Int32.lt_iff_toInt_lt, ti_add, ti_sub, ti_mul, Int32.reduceToInt] at *; omega)) (by first | omega | decide | (simp only [Int32.le_iff_toInt_le, Int32.lt_iff_toInt_lt, ti_add, ti_sub, ti_mul, Int32.reduceToInt] at *; omega)) (fun σ9 eσ9 hOσ9 hT => ?_)
  have hW : WI 158 σ9.1 := WI_c1 (B := 158) (C := 2) eσ9 hV hW
  have hV : WI 2 σ9.1 := WI.tr hOσ9 (by decide) (by decide) (by decide) hV
  refine ok_gR (v := 4) hT rfl (hR 2 4 rfl) ?_
  refine ok_gR (v := 160) hT rfl (hR 158 4 rfl) ?_
  refine ok_cpI hT rfl rfl (by decide) (by first | omega | decide | (simp only [Int32.le_iff_toInt_le, Int32.lt_iff_toInt_lt, ti_add, ti_sub, ti_mul, Int32.reduceToInt] at *; omega)) (by first | omega | decide | (simp only [Int32.le_iff_toInt_le, Int32.lt_iff_toInt_lt, ti_add, ti_sub, ti_mul, Int32.reduceToInt] at *; omega)) (by first | omega | decide | (simp only [Int32.le_iff_toInt_le, Int32.lt_iff_toInt_lt, ti_add, ti_sub, ti_mul, Int32.reduceToInt] at *; omega)) (by first | omega | decide | (simp only [Int32.le_iff_toInt_le, Int32.lt_iff_toInt_lt, ti_add, ti_sub, ti_mul, Int32.reduceToInt] at *; omega)) (by first | omega | decide | (simp only [Int32.le_iff_toInt_le, Int32.lt_iff_toInt_lt, ti_add, ti_sub, ti_mul, Int32.reduceToInt] at *; omega)) (fun σ12 eσ12 hOσ12 hT => ?_)
  have hW : WI 158 σ12.1 := WI_c2 (B := 158) (C := 2) eσ12 hV hW
  have hV : WI 2 σ12.1 := WI.tr hOσ12 (by decide) (by decide) (by decide) hV
  refine ok_gR (v := 5) hT rfl (hR 2 5 rfl) ?_
  refine ok_gR (v := 161) hT rfl (hR 158 5 rfl) ?_
  refine ok_cpI hT rfl rfl (by decide) (by first | omega | decide | (simp only [Int32.le_iff_toInt_le, Int32.lt_iff_toInt_lt, ti_add, ti_sub, ti_mul, Int32.reduceToInt] at *; omega)) (by first | omega | decide | (simp only [Int32.le_iff_toInt_le, Int32.lt_iff_toInt_lt, ti_add, ti_sub, ti_mul, Int32.reduceToInt] at *; omega)) (by first | omega | decide | (simp only [Int32.le_iff_toInt_le, Int32.lt_iff_toInt_lt, ti_add, ti_sub, ti_mul, Int32.reduceToInt] at *; omega)) (by first | omega | decide | (simp only [Int32.le_iff_toInt_le, Int32.lt_iff_toInt_lt, ti_add, ti_sub, ti_mul, Int32.reduceToInt] at *; omega)) (by first | omega | decide | (simp only [Int32.le_iff_toInt_le, Int32.lt_iff_toInt_lt, ti_add, ti_sub, ti_mul, Int32.reduceToInt] at *; omega)) (fun σ15 eσ15 hOσ15 hT => ?_)
  have hW : WI 158 σ15.1 := WI.tr hOσ15 (by decide) (by decide) (by decide) hW
  have hV : WI 2 σ15.1 := WI.tr hOσ15 (by decide) (by decide) (by decide) hV
  refine ok_gR (v := 6) hT rfl (hR 2 6 rfl) ?_
  refine ok_gR (v := 162) hT rfl (hR 158 6 rfl) ?_
  refine ok_cpI hT rfl rfl (by decide) (by first | omega | decide | (simp only [Int32.le_iff_toInt_le, Int32.lt_iff_toInt_lt, ti_add, ti_sub, ti_mul, Int32.reduceToInt] at *; omega)) (by first | omega | decide | (simp only [Int32.le_iff_toInt_le, Int32.lt_iff_toInt_lt, ti_add, ti_sub, ti_mul, Int32.reduceToInt] at *; omega)) (by first | omega | decide | (simp only [Int32.le_iff_toInt_le, Int32.lt_iff_toInt_lt, ti_add, ti_sub, ti_mul, Int32.reduceToInt] at *; omega)) (by first | omega | decide | (simp only [Int32.le_iff_toInt_le, Int32.lt_iff_toInt_lt, ti_add, ti_sub, ti_mul, Int32.reduceToInt] at *; omega)) (by first | omega | decide | (simp only [Int32.le_iff_toInt_le, Int32.lt_iff_toInt_lt, ti_add, ti_sub, ti_mul, Int32.reduceToInt] at *; omega)) (fun σ18 eσ18 hOσ18 hT => ?_)
  have hW : WI 158 σ18.1 := WI.tr hOσ18 (by decide) (by decide) (by decide) hW
  have hV : WI 2 σ18.1 := WI.tr hOσ18 (by decide) (by decide) (by decide) hV
  refine ok_lp (fun t : Int32 × zS => Tr [158, 159, 160, 161, 162] σ0 (t.2) ∧ (0 ≤ (t.1).toInt) ∧ (WI 158 (t.2).1) ∧ (WI 2 (t.2).1)) (fun t : Int32 × zS => ((10 : Int32).toInt - (t.1).toInt).toNat) (fun again19 t hI ih86_19 => ?_) N _ (show Tr [158, 159, 160, 161, 162] σ0 σ18 ∧ (0 ≤ (0 : Int32).toInt) ∧ (WI 158 σ18.1) ∧ (WI 2 σ18.1) from ⟨hT, (by first | omega | decide | (simp only [Int32.le_iff_toInt_le, Int32.lt_iff_toInt_lt, ti_add, ti_sub, ti_mul, Int32.reduceToInt] at *; omega)), hW, hV⟩) (show ((10 : Int32).toInt - (0 : Int32).toInt).toNat < N from (by first | omega | decide | (simp only [Int32.le_iff_toInt_le, Int32.lt_iff_toInt_lt, ti_add, ti_sub, ti_mul, Int32.reduceToInt] at *; omega)))
  obtain ⟨x2_19, σ19⟩ := t
  have hI : Tr [158, 159, 160, 161, 162] σ0 σ19 ∧ (0 ≤ x2_19.toInt) ∧ (WI 158 σ19.1) ∧ (WI 2 σ19.1) := hI
  obtain ⟨hT, hI19, hW, hV⟩ := hI
  rw [F_X10_copyFrom_86.eq_1]
  refine ok_if (fun hc20 => ?_) (fun hc20 => ?_)
  · exact ok_some ⟨hT, (show WI 158 σ19.1 from by exact hW)⟩
  · refine ok_gR (v := 163) hT rfl (hR 158 7 rfl) ?_
    obtain ⟨q23, eq23, kq23⟩ := arrF hR (k := 163) (i := x2_19) rfl (by first | omega | decide | (simp only [Int32.le_iff_toInt_le, Int32.lt_iff_toInt_lt, ti_add, ti_sub, ti_mul, Int32.reduceToInt] at *; omega)) (by first | omega | decide | (simp only [Int32.le_iff_toInt_le, Int32.lt_iff_toInt_lt, ti_add, ti_sub, ti_mul, Int32.reduceToInt] at *; omega))
    refine ok_aR (v := q23) hT rfl (by first | omega | decide | (simp only [Int32.le_iff_toInt_le, Int32.lt_iff_toInt_lt, ti_add, ti_sub, ti_mul, Int32.reduceToInt] at *; omega)) (by first | omega | decide | (simp only [Int32.le_iff_toInt_le, Int32.lt_iff_toInt_lt, ti_add, ti_sub, ti_mul, Int32.reduceToInt] at *; omega)) eq23 ?_
    refine ok_gR (v := 7) hT rfl (hR 2 7 rfl) ?_
    obtain ⟨q26, eq26, kq26⟩ := arrF hR (k := 7) (i := x2_19) rfl (by first | omega | decide | (simp only [Int32.le_iff_toInt_le, Int32.lt_iff_toInt_lt, ti_add, ti_sub, ti_mul, Int32.reduceToInt] at *; omega)) (by first | omega | decide | (simp only [Int32.le_iff_toInt_le, Int32.lt_iff_toInt_lt, ti_add, ti_sub, ti_mul, Int32.reduceToInt] at *; omega))
    refine ok_aR (v := q26) hT rfl (by first | omega | decide | (simp only [Int32.le_iff_toInt_le, Int32.lt_iff_toInt_lt, ti_add, ti_sub, ti_mul, Int32.reduceToInt] at *; omega)) (by first | omega | decide | (simp only [Int32.le_iff_toInt_le, Int32.lt_iff_toInt_lt, ti_add, ti_sub, ti_mul, Int32.reduceToInt] at *; omega)) eq26 ?_
    refine ok_gC kq23 ?_
    refine ok_zbT (Q := fun V σ => True) hT (s_X2_copyFrom hN (hR.tr hT) kq23 kq26) (fun _ h9 => absurd h9 List.not_mem_nil) (fun v27 σ28 hOσ28 hT hqv27 => ?_)
    have hW : WI 158 σ28.1 := WI.tr hOσ28 (by decide) (by decide) (by decide) hW
    have hV : WI 2 σ28.1 := WI.tr hOσ28 (by decide) (by decide) (by decide) hV
    exact ih86_19 (x2_19 + 1, σ28) (show Tr [158, 159, 160, 161, 162] σ0 σ28 ∧ (0 ≤ (x2_19 + 1).toInt) ∧ (WI 158 σ28.1) ∧ (WI 2 σ28.1) from ⟨hT, (by first | omega | decide | (simp only [Int32.le_iff_toInt_le, Int32.lt_iff_toInt_lt, ti_add, ti_sub, ti_mul, Int32.reduceToInt] at *; omega)), hW, hV⟩) (show ((10 : Int32).toInt - (x2_19 + 1).toInt).toNat < ((10 : Int32).toInt - x2_19.toInt).toNat from (by first | omega | decide | (simp only [Int32.le_iff_toInt_le, Int32.lt_iff_toInt_lt, ti_add, ti_sub, ti_mul, Int32.reduceToInt] at *; omega)))

set_option maxHeartbeats 4000000 in
set_option maxRecDepth 100000 in
theorem s_X10_copyFrom_2_184 {N : Nat} (hN : 1048576 ≤ N)  {σ0 : zS}  (hR : RF σ0.2.2) (hW : WI 2 σ0.1) (hV : WI 184 σ0.1) : Ok (f_X10_copyFrom N 2 184 σ0) (fun r => Tr [2, 3, 4, 5, 6] σ0 r.2 ∧ (WI 2 r.2.1)) := by
  have hT : Tr [2, 3, 4, 5, 6] σ0 σ0 := Tr.rf
  rw [f_X10_copyFrom.eq_1]
  refine ok_gIv rfl rfl ?_
  refine ok_pI hT rfl (by decide) (fun σ2 eσ2 hOσ2 hT => ?_)
  have hW : WI 2 σ2.1 := WI_p0 eσ2 (hV).1 hW
  have hV : WI 184 σ2.1 := WI.tr hOσ2 (by decide) (by decide) (by decide) hV
  refine ok_gIv rfl rfl ?_
  refine ok_pI hT rfl (by decide) (fun σ4 eσ4 hOσ4 hT => ?_)
  have hW : WI 2 σ4.1 := WI_p1 eσ4 hW
  have hV : WI 184 σ4.1 := WI.tr hOσ4 (by decide) (by decide) (by decide) hV
  refine ok_gIv rfl rfl ?_
  refine ok_pI hT rfl (by decide) (fun σ6 eσ6 hOσ6 hT => ?_)
  have hW : WI 2 σ6.1 := WI_p2 eσ6 (hV).2.1 hW
  have hV : WI 184 σ6.1 := WI.tr hOσ6 (by decide) (by decide) (by decide) hV
  refine ok_gR (v := 185) hT rfl (hR 184 3 rfl) ?_
  refine ok_gR (v := 3) hT rfl (hR 2 3 rfl) ?_
  refine ok_cpI hT rfl rfl (by decide) (by first | omega | decide | (simp only [Int32.le_iff_toInt_le, Int32.lt_iff_toInt_lt, ti_add, ti_sub, ti_mul, Int32.reduceToInt] at *; omega)) (by first | omega | decide | (simp only [Int32.le_iff_toInt_le, Int32.lt_iff_toInt_lt, ti_add, ti_sub, ti_mul, Int32.reduceToInt] at *; omega)) (by first | omega | decide | (simp only [Int32.le_iff_toInt_le, Int32.lt_iff_toInt_lt, ti_add, ti_sub, ti_mul, Int32.reduceToInt] at *; omega)) (by first | omega | decide | (simp only [Int32.le_iff_toInt_le, Int32.lt_iff_toInt_lt, ti_add, ti_sub, ti_mul, Int32.reduceToInt] at *; omega)) (by first | omega | decide | (simp only [Int32.le_iff_toInt_le, Int32.lt_iff_toInt_lt, ti_add, ti_sub, ti_mul, Int32.reduceToInt] at *; omega)) (fun σ9 eσ9 hOσ9 hT => ?_)
  have hW : WI 2 σ9.1 := WI_c1 (B := 2) (C := 184) eσ9 hV hW
  have hV : WI 184 σ9.1 := WI.tr hOσ9 (by decide) (by decide) (by decide) hV
  refine ok_gR (v := 186) hT rfl (hR 184 4 rfl) ?_
  refine ok_gR (v := 4) hT rfl (hR 2 4 rfl) ?_
  refine ok_cpI hT rfl rfl (by decide) (by first | omega | decide | (simp only [Int32.le_iff_toInt_le, Int32.lt_iff_toInt_lt, ti_add, ti_sub, ti_mul, Int32.reduceToInt] at *; omega)) (by first | omega | decide | (simp only [Int32.le_iff_toInt_le, Int32.lt_iff_toInt_lt, ti_add, ti_sub, ti_mul, Int32.reduceToInt] at *; omega)) (by first | omega | decide | (simp only [Int32.le_iff_toInt_le, Int32.lt_iff_toInt_lt, ti_add, ti_sub, ti_mul, Int32.reduceToInt] at *; omega)) (by first | omega | decide | (simp only [Int32.le_iff_toInt_le, Int32.lt_iff_toInt_lt, ti_add, ti_sub, ti_mul, Int32.reduceToInt] at *; omega)) (by first | omega | decide | (simp only [Int32.le_iff_toInt_le, Int32.lt_iff_toInt_lt, ti_add, ti_sub, ti_mul, Int32.reduceToInt] at *; omega)) (fun σ12 eσ12 hOσ12 hT => ?_)
  have hW : WI 2 σ12.1 := WI_c2 (B := 2) (C := 184) eσ12 hV hW
  have hV : WI 184 σ12.1 := WI.tr hOσ12 (by decide) (by decide) (by decide) hV
  refine ok_gR (v := 187) hT rfl (hR 184 5 rfl) ?_
  refine ok_gR (v := 5) hT rfl (hR 2 5 rfl) ?_
  refine ok_cpI hT rfl rfl (by decide) (by first | omega | decide | (simp only [Int32.le_iff_toInt_le, Int32.lt_iff_toInt_lt, ti_add, ti_sub, ti_mul, Int32.reduceToInt] at *; omega)) (by first | omega | decide | (simp only [Int32.le_iff_toInt_le, Int32.lt_iff_toInt_lt, ti_add, ti_sub, ti_mul, Int32.reduceToInt] at *; omega)) (by first | omega | decide | (simp only [Int32.le_iff_toInt_le, Int32.lt_iff_toInt_lt, ti_add, ti_sub, ti_mul, Int32.reduceToInt] at *; omega)) (by first | omega | decide | (simp only [Int32.le_iff_toInt_le, Int32.lt_iff_toInt_lt, ti_add, ti_sub, ti_mul, Int32.reduceToInt] at *; omega)) (by first | omega | decide | (simp only [Int32.le_iff_toInt_le, Int32.lt_iff_toInt_lt, ti_add, ti_sub, ti_mul, Int32.reduceToInt] at *; omega)) (fun σ15 eσ15 hOσ15 hT => ?_)
  have hW : WI 2 σ15.1 := WI.tr hOσ15 (by decide) (by decide) (by decide) hW
  have hV : WI 184 σ15.1 := WI.tr hOσ15 (by decide) (by decide) (by decide) hV
  refine ok_gR (v := 188) hT rfl (hR 184 6 rfl) ?_
  refine ok_gR (v := 6) hT rfl (hR 2 6 rfl) ?_
  refine ok_cpI hT rfl rfl (by decide) (by first | omega | decide | (simp only [Int32.le_iff_toInt_le, Int32.lt_iff_toInt_lt, ti_add, ti_sub, ti_mul, Int32.reduceToInt] at *; omega)) (by first | omega | decide | (simp only [Int32.le_iff_toInt_le, Int32.lt_iff_toInt_lt, ti_add, ti_sub, ti_mul, Int32.reduceToInt] at *; omega)) (by first | omega | decide | (simp only [Int32.le_iff_toInt_le, Int32.lt_iff_toInt_lt, ti_add, ti_sub, ti_mul, Int32.reduceToInt] at *; omega)) (by first | omega | decide | (simp only [Int32.le_iff_toInt_le, Int32.lt_iff_toInt_lt, ti_add, ti_sub, ti_mul, Int32.reduceToInt] at *; omega)) (by first | omega | decide | (simp only [Int32.le_iff_toInt_le, Int32.lt_iff_toInt_lt, ti_add, ti_sub, ti_mul, Int32.reduceToInt] at *; omega)) (fun σ18 eσ18 hOσ18 hT => ?_)
  have hW : WI 2 σ18.1 := WI.tr hOσ18 (by decide) (by decide) (by decide) hW
  have hV : WI 184 σ18.1 := WI.tr hOσ18 (by decide) (by decide) (by decide) hV
  refine ok_lp (fun t : Int32 × zS => Tr [2, 3, 4, 5, 6] σ0 (t.2) ∧ (0 ≤ (t.1).toInt) ∧ (WI 2 (t.2).1) ∧ (WI 184 (t.2).1)) (fun t : Int32 × zS => ((10 : Int32).toInt - (t.1).toInt).toNat) (fun again19 t hI ih86_19 => ?_) N _ (show Tr [2, 3, 4, 5, 6] σ0 σ18 ∧ (0 ≤ (0 : Int32).toInt) ∧ (WI 2 σ18.1) ∧ (WI 184 σ18.1) from ⟨hT, (by first | omega | decide | (simp only [Int32.le_iff_toInt_le, Int32.lt_iff_toInt_lt, ti_add, ti_sub, ti_mul, Int32.reduceToInt] at *; omega)), hW, hV⟩) (show ((10 : Int32).toInt - (0 : Int32).toInt).toNat < N from (by first | omega | decide | (simp only [Int32.le_iff_toInt_le, Int32.lt_iff_toInt_lt, ti_add, ti_sub, ti_mul, Int32.reduceToInt] at *; omega)))
  obtain ⟨x2_19, σ19⟩ := t
  have hI : Tr [2, 3, 4, 5, 6] σ0 σ19 ∧ (0 ≤ x2_19.toInt) ∧ (WI 2 σ19.1) ∧ (WI 184 σ19.1) := hI
  obtain ⟨hT, hI19, hW, hV⟩ := hI
  rw [F_X10_copyFrom_86.eq_1]
  refine ok_if (fun hc20 => ?_) (fun hc20 => ?_)
  · exact ok_some ⟨hT, (show WI 2 σ19.1 from by exact hW)⟩
  · refine ok_gR (v := 7) hT rfl (hR 2 7 rfl) ?_
    obtain ⟨q23, eq23, kq23⟩ := arrF hR (k := 7) (i := x2_19) rfl (by first | omega | decide | (simp only [Int32.le_iff_toInt_le, Int32.lt_iff_toInt_lt, ti_add, ti_sub, ti_mul, Int32.reduceToInt] at *; omega)) (by first | omega | decide | (simp only [Int32.le_iff_toInt_le, Int32.lt_iff_toInt_lt, ti_add, ti_sub, ti_mul, Int32.reduceToInt] at *; omega))
    refine ok_aR (v := q23) hT rfl (by first | omega | decide | (simp only [Int32.le_iff_toInt_le, Int32.lt_iff_toInt_lt, ti_add, ti_sub, ti_mul, Int32.reduceToInt] at *; omega)) (by first | omega | decide | (simp only [Int32.le_iff_toInt_le, Int32.lt_iff_toInt_lt, ti_add, ti_sub, ti_mul, Int32.reduceToInt] at *; omega)) eq23 ?_
    refine ok_gR (v := 189) hT rfl (hR 184 7 rfl) ?_
    obtain ⟨q26, eq26, kq26⟩ := arrF hR (k := 189) (i := x2_19) rfl (by first | omega | decide | (simp only [Int32.le_iff_toInt_le, Int32.lt_iff_toInt_lt, ti_add, ti_sub, ti_mul, Int32.reduceToInt] at *; omega)) (by first | omega | decide | (simp only [Int32.le_iff_toInt_le, Int32.lt_iff_toInt_lt, ti_add, ti_sub, ti_mul, Int32.reduceToInt] at *; omega))
    refine ok_aR (v := q26) hT rfl (by first | omega | decide | (simp only [Int32.le_iff_toInt_le, Int32.lt_iff_toInt_lt, ti_add, ti_sub, ti_mul, Int32.reduceToInt] at *; omega)) (by first | omega | decide | (simp only [Int32.le_iff_toInt_le, Int32.lt_iff_toInt_lt, ti_add, ti_sub, ti_mul, Int32.reduceToInt] at *; omega)) eq26 ?_
    refine ok_gC kq23 ?_
    refine ok_zbT (Q := fun V σ => True) hT (s_X2_copyFrom hN (hR.tr hT) kq23 kq26) (fun _ h9 => absurd h9 List.not_mem_nil) (fun v27 σ28 hOσ28 hT hqv27 => ?_)
    have hW : WI 2 σ28.1 := WI.tr hOσ28 (by decide) (by decide) (by decide) hW
    have hV : WI 184 σ28.1 := WI.tr hOσ28 (by decide) (by decide) (by decide) hV
    exact ih86_19 (x2_19 + 1, σ28) (show Tr [2, 3, 4, 5, 6] σ0 σ28 ∧ (0 ≤ (x2_19 + 1).toInt) ∧ (WI 2 σ28.1) ∧ (WI 184 σ28.1) from ⟨hT, (by first | omega | decide | (simp only [Int32.le_iff_toInt_le, Int32.lt_iff_toInt_lt, ti_add, ti_sub, ti_mul, Int32.reduceToInt] at *; omega)), hW, hV⟩) (show ((10 : Int32).toInt - (x2_19 + 1).toInt).toNat < ((10 : Int32).toInt - x2_19.toInt).toNat from (by first | omega | decide | (simp only [Int32.le_iff_toInt_le, Int32.lt_iff_toInt_lt, ti_add, ti_sub, ti_mul, Int32.reduceToInt] at *; omega)))

set_option maxHeartbeats 4000000 in
set_option maxRecDepth 100000 in
theorem s_X10_copyFrom_184_2 {N : Nat} (hN : 1048576 ≤ N)  {σ0 : zS}  (hR : RF σ0.2.2) (hW : WI 184 σ0.1) (hV : WI 2 σ0.1) : Ok (f_X10_copyFrom N 184 2 σ0) (fun r => Tr [184, 185, 186, 187, 188] σ0 r.2 ∧ (WI 184 r.2.1)) := by
  have hT : Tr [184, 185, 186, 187, 188] σ0 σ0 := Tr.rf
  rw [f_X10_copyFrom.eq_1]
  refine ok_gIv rfl rfl ?_
  refine ok_pI hT rfl (by decide) (fun σ2 eσ2 hOσ2 hT => ?_)
  have hW : WI 184 σ2.1 := WI_p0 eσ2 (hV).1 hW
  have hV : WI 2 σ2.1 := WI.tr hOσ2 (by decide) (by decide) (by decide) hV
  refine ok_gIv rfl rfl ?_
  refine ok_pI hT rfl (by decide) (fun σ4 eσ4 hOσ4 hT => ?_)
  have hW : WI 184 σ4.1 := WI_p1 eσ4 hW
  have hV : WI 2 σ4.1 := WI.tr hOσ4 (by decide) (by decide) (by decide) hV
  refine ok_gIv rfl rfl ?_
  refine ok_pI hT rfl (by decide) (fun σ6 eσ6 hOσ6 hT => ?_)
  have hW : WI 184 σ6.1 := WI_p2 eσ6 (hV).2.1 hW
  have hV : WI 2 σ6.1 := WI.tr hOσ6 (by decide) (by decide) (by decide) hV
  refine ok_gR (v := 3) hT rfl (hR 2 3 rfl) ?_
  refine ok_gR (v := 185) hT rfl (hR 184 3 rfl) ?_
  refine ok_cpI hT rfl rfl (by decide) (by first | omega | decide | (simp only [Int32.le_iff_toInt_le, Int32.lt_iff_toInt_lt, ti_add, ti_sub, ti_mul, Int32.reduceToInt] at *; omega)) (by first | omega | decide | (simp only [Int32.le_iff_toInt_le, Int32.lt_iff_toInt_lt, ti_add, ti_sub, ti_mul, Int32.reduceToInt] at *; omega)) (by first | omega | decide | (simp only [Int32.le_iff_toInt_le, Int32.lt_iff_toInt_lt, ti_add, ti_sub, ti_mul, Int32.reduceToInt] at *; omega)) (by first | omega | decide | (simp only [Int32.le_iff_toInt_le, Int32.lt_iff_toInt_lt, ti_add, ti_sub, ti_mul, Int32.reduceToInt] at *; omega)) (by first | omega | decide | (simp only [Int32.le_iff_toInt_le, Int32.lt_iff_toInt_lt, ti_add, ti_sub, ti_mul, Int32.reduceToInt] at *; omega)) (fun σ9 eσ9 hOσ9 hT => ?_)
  have hW : WI 184 σ9.1 := WI_c1 (B := 184) (C := 2) eσ9 hV hW
  have hV : WI 2 σ9.1 := WI.tr hOσ9 (by decide) (by decide) (by decide) hV
  refine ok_gR (v := 4) hT rfl (hR 2 4 rfl) ?_
  refine ok_gR (v := 186) hT rfl (hR 184 4 rfl) ?_
  refine ok_cpI hT rfl rfl (by decide) (by first | omega | decide | (simp only [Int32.le_iff_toInt_le, Int32.lt_iff_toInt_lt, ti_add, ti_sub, ti_mul, Int32.reduceToInt] at *; omega)) (by first | omega | decide | (simp only [Int32.le_iff_toInt_le, Int32.lt_iff_toInt_lt, ti_add, ti_sub, ti_mul, Int32.reduceToInt] at *; omega)) (by first | omega | decide | (simp only [Int32.le_iff_toInt_le, Int32.lt_iff_toInt_lt, ti_add, ti_sub, ti_mul, Int32.reduceToInt] at *; omega)) (by first | omega | decide | (simp only [Int32.le_iff_toInt_le, Int32.lt_iff_toInt_lt, ti_add, ti_sub, ti_mul, Int32.reduceToInt] at *; omega)) (by first | omega | decide | (simp only [Int32.le_iff_toInt_le, Int32.lt_iff_toInt_lt, ti_add, ti_sub, ti_mul, Int32.reduceToInt] at *; omega)) (fun σ12 eσ12 hOσ12 hT => ?_)
  have hW : WI 184 σ12.1 := WI_c2 (B := 184) (C := 2) eσ12 hV hW
  have hV : WI 2 σ12.1 := WI.tr hOσ12 (by decide) (by decide) (by decide) hV
  refine ok_gR (v := 5) hT rfl (hR 2 5 rfl) ?_
  refine ok_gR (v := 187) hT rfl (hR 184 5 rfl) ?_
  refine ok_cpI hT rfl rfl (by decide) (by first | omega | decide | (simp only [Int32.le_iff_toInt_le, Int32.lt_iff_toInt_lt, ti_add, ti_sub, ti_mul, Int32.reduceToInt] at *; omega)) (by first | omega | decide | (simp only [Int32.le_iff_toInt_le, Int32.lt_iff_toInt_lt, ti_add, ti_sub, ti_mul, Int32.reduceToInt] at *; omega)) (by first | omega | decide | (simp only [Int32.le_iff_toInt_le, Int32.lt_iff_toInt_lt, ti_add, ti_sub, ti_mul, Int32.reduceToInt] at *; omega)) (by first | omega | decide | (simp only [Int32.le_iff_toInt_le, Int32.lt_iff_toInt_lt, ti_add, ti_sub, ti_mul, Int32.reduceToInt] at *; omega)) (by first | omega | decide | (simp only [Int32.le_iff_toInt_le, Int32.lt_iff_toInt_lt, ti_add, ti_sub, ti_mul, Int32.reduceToInt] at *; omega)) (fun σ15 eσ15 hOσ15 hT => ?_)
  have hW : WI 184 σ15.1 := WI.tr hOσ15 (by decide) (by decide) (by decide) hW
  have hV : WI 2 σ15.1 := WI.tr hOσ15 (by decide) (by decide) (by decide) hV
  refine ok_gR (v := 6) hT rfl (hR 2 6 rfl) ?_
  refine ok_gR (v := 188) hT rfl (hR 184 6 rfl) ?_
  refine ok_cpI hT rfl rfl (by decide) (by first | omega | decide | (simp only [Int32.le_iff_toInt_le, Int32.lt_iff_toInt_lt, ti_add, ti_sub, ti_mul, Int32.reduceToInt] at *; omega)) (by first | omega | decide | (simp only [Int32.le_iff_toInt_le, Int32.lt_iff_toInt_lt, ti_add, ti_sub, ti_mul, Int32.reduceToInt] at *; omega)) (by first | omega | decide | (simp only [Int32.le_iff_toInt_le, Int32.lt_iff_toInt_lt, ti_add, ti_sub, ti_mul, Int32.reduceToInt] at *; omega)) (by first | omega | decide | (simp only [Int32.le_iff_toInt_le, Int32.lt_iff_toInt_lt, ti_add, ti_sub, ti_mul, Int32.reduceToInt] at *; omega)) (by first | omega | decide | (simp only [Int32.le_iff_toInt_le, Int32.lt_iff_toInt_lt, ti_add, ti_sub, ti_mul, Int32.reduceToInt] at *; omega)) (fun σ18 eσ18 hOσ18 hT => ?_)
  have hW : WI 184 σ18.1 := WI.tr hOσ18 (by decide) (by decide) (by decide) hW
  have hV : WI 2 σ18.1 := WI.tr hOσ18 (by decide) (by decide) (by decide) hV
  refine ok_lp (fun t : Int32 × zS => Tr [184, 185, 186, 187, 188] σ0 (t.2) ∧ (0 ≤ (t.1).toInt) ∧ (WI 184 (t.2).1) ∧ (WI 2 (t.2).1)) (fun t : Int32 × zS => ((10 : Int32).toInt - (t.1).toInt).toNat) (fun again19 t hI ih86_19 => ?_) N _ (show Tr [184, 185, 186, 187, 188] σ0 σ18 ∧ (0 ≤ (0 : Int32).toInt) ∧ (WI 184 σ18.1) ∧ (WI 2 σ18.1) from ⟨hT, (by first | omega | decide | (simp only [Int32.le_iff_toInt_le, Int32.lt_iff_toInt_lt, ti_add, ti_sub, ti_mul, Int32.reduceToInt] at *; omega)), hW, hV⟩) (show ((10 : Int32).toInt - (0 : Int32).toInt).toNat < N from (by first | omega | decide | (simp only [Int32.le_iff_toInt_le, Int32.lt_iff_toInt_lt, ti_add, ti_sub, ti_mul, Int32.reduceToInt] at *; omega)))
  obtain ⟨x2_19, σ19⟩ := t
  have hI : Tr [184, 185, 186, 187, 188] σ0 σ19 ∧ (0 ≤ x2_19.toInt) ∧ (WI 184 σ19.1) ∧ (WI 2 σ19.1) := hI
  obtain ⟨hT, hI19, hW, hV⟩ := hI
  rw [F_X10_copyFrom_86.eq_1]
  refine ok_if (fun hc20 => ?_) (fun hc20 => ?_)
  · exact ok_some ⟨hT, (show WI 184 σ19.1 from by exact hW)⟩
  · refine ok_gR (v := 189) hT rfl (hR 184 7 rfl) ?_
    obtain ⟨q23, eq23, kq23⟩ := arrF hR (k := 189) (i := x2_19) rfl (by first | omega | decide | (simp only [Int32.le_iff_toInt_le, Int32.lt_iff_toInt_lt, ti_add, ti_sub, ti_mul, Int32.reduceToInt] at *; omega)) (by first | omega | decide | (simp only [Int32.le_iff_toInt_le, Int32.lt_iff_toInt_lt, ti_add, ti_sub, ti_mul, Int32.reduceToInt] at *; omega))
    refine ok_aR (v := q23) hT rfl (by first | omega | decide | (simp only [Int32.le_iff_toInt_le, Int32.lt_iff_toInt_lt, ti_add, ti_sub, ti_mul, Int32.reduceToInt] at *; omega)) (by first | omega | decide | (simp only [Int32.le_iff_toInt_le, Int32.lt_iff_toInt_lt, ti_add, ti_sub, ti_mul, Int32.reduceToInt] at *; omega)) eq23 ?_
    refine ok_gR (v := 7) hT rfl (hR 2 7 rfl) ?_
    obtain ⟨q26, eq26, kq26⟩ := arrF hR (k := 7) (i := x2_19) rfl (by first | omega | decide | (simp only [Int32.le_iff_toInt_le, Int32.lt_iff_toInt_lt, ti_add, ti_sub, ti_mul, Int32.reduceToInt] at *; omega)) (by first | omega | decide | (simp only [Int32.le_iff_toInt_le, Int32.lt_iff_toInt_lt, ti_add, ti_sub, ti_mul, Int32.reduceToInt] at *; omega))
    refine ok_aR (v := q26) hT rfl (by first | omega | decide | (simp only [Int32.le_iff_toInt_le, Int32.lt_iff_toInt_lt, ti_add, ti_sub, ti_mul, Int32.reduceToInt] at *; omega)) (by first | omega | decide | (simp only [Int32.le_iff_toInt_le, Int32.lt_iff_toInt_lt, ti_add, ti_sub, ti_mul, Int32.reduceToInt] at *; omega)) eq26 ?_
    refine ok_gC kq23 ?_
    refine ok_zbT (Q := fun V σ => True) hT (s_X2_copyFrom hN (hR.tr hT) kq23 kq26) (fun _ h9 => absurd h9 List.not_mem_nil) (fun v27 σ28 hOσ28 hT hqv27 => ?_)
    have hW : WI 184 σ28.1 := WI.tr hOσ28 (by decide) (by decide) (by decide) hW
    have hV : WI 2 σ28.1 := WI.tr hOσ28 (by decide) (by decide) (by decide) hV
    exact ih86_19 (x2_19 + 1, σ28) (show Tr [184, 185, 186, 187, 188] σ0 σ28 ∧ (0 ≤ (x2_19 + 1).toInt) ∧ (WI 184 σ28.1) ∧ (WI 2 σ28.1) from ⟨hT, (by first | omega | decide | (simp only [Int32.le_iff_toInt_le, Int32.lt_iff_toInt_lt, ti_add, ti_sub, ti_mul, Int32.reduceToInt] at *; omega)), hW, hV⟩) (show ((10 : Int32).toInt - (x2_19 + 1).toInt).toNat < ((10 : Int32).toInt - x2_19.toInt).toNat from (by first | omega | decide | (simp only [Int32.le_iff_toInt_le, Int32.lt_iff_toInt_lt, ti_add, ti_sub, ti_mul, Int32.reduceToInt] at *; omega)))

set_option maxHeartbeats 4000000 in
set_option maxRecDepth 100000 in
theorem s_X10_clear_28 {N : Nat} (hN : 1048576 ≤ N)  {σ0 : zS}  (hR : RF σ0.2.2) (hW : WI 28 σ0.1) : Ok (f_X10_clear N 28 σ0) (fun r => Tr [28, 31, 32] σ0 r.2 ∧ (WI 28 r.2.1)) := by
  have hT : Tr [28, 31, 32] σ0 σ0 := Tr.rf
  rw [f_X10_clear.eq_1]
  refine ok_pI hT rfl (by decide) (fun σ1 eσ1 hOσ1 hT => ?_)
  have hW : WI 28 σ1.1 := WI_p0 eσ1 (by decide) hW
  refine ok_pI hT rfl (by decide) (fun σ2 eσ2 hOσ2 hT => ?_)
  have hW : WI 28 σ2.1 := WI_p1 eσ2 hW
  refine ok_pI hT rfl (by decide) (fun σ3 eσ3 hOσ3 hT => ?_)
  have hW : WI 28 σ3.1 := WI_p2 eσ3 (by decide) hW
  refine ok_lp (fun t : Int32 × zS => Tr [28, 31, 32] σ0 (t.2) ∧ (0 ≤ (t.1).toInt) ∧ (WI 28 (t.2).1)) (fun t : Int32 × zS => ((10 : Int32).toInt - (t.1).toInt).toNat) (fun again4 t hI ih17_4 => ?_) N _ (show Tr [28, 31, 32] σ0 σ3 ∧ (0 ≤ (0 : Int32).toInt) ∧ (WI 28 σ3.1) from ⟨hT, (by first | omega | decide | (simp only [Int32.le_iff_toInt_le, Int32.lt_iff_toInt_lt, ti_add, ti_sub, ti_mul, Int32.reduceToInt] at *; omega)), hW⟩) (show ((10 : Int32).toInt - (0 : Int32).toInt).toNat < N from (by first | omega | decide | (simp only [Int32.le_iff_toInt_le, Int32.lt_iff_toInt_lt, ti_add, ti_sub, ti_mul, Int32.reduceToInt] at *; omega)))
  obtain ⟨x1_4, σ4⟩ := t
  have hI : Tr [28, 31, 32] σ0 σ4 ∧ (0 ≤ x1_4.toInt) ∧ (WI 28 σ4.1) := hI
  obtain ⟨hT, hI4, hW⟩ := hI
  rw [F_X10_clear_17.eq_1]
  refine ok_if (fun hc5 => ?_) (fun hc5 => ?_)
  · refine ok_lp (fun t : Int32 × zS => Tr [28, 31, 32] σ0 (t.2) ∧ (0 ≤ (t.1).toInt) ∧ (WI 28 (t.2).1)) (fun t : Int32 × zS => ((10 : Int32).toInt - (t.1).toInt).toNat) (fun again6 t hI ih45_6 => ?_) N _ (show Tr [28, 31, 32] σ0 σ4 ∧ (0 ≤ (0 : Int32).toInt) ∧ (WI 28 σ4.1) from ⟨hT, (by first | omega | decide | (simp only [Int32.le_iff_toInt_le, Int32.lt_iff_toInt_lt, ti_add, ti_sub, ti_mul, Int32.reduceToInt] at *; omega)), hW⟩) (show ((10 : Int32).toInt - (0 : Int32).toInt).toNat < N from (by first | omega | decide | (simp only [Int32.le_iff_toInt_le, Int32.lt_iff_toInt_lt, ti_add, ti_sub, ti_mul, Int32.reduceToInt] at *; omega)))
    obtain ⟨x1_6, σ6⟩ := t
    have hI : Tr [28, 31, 32] σ0 σ6 ∧ (0 ≤ x1_6.toInt) ∧ (WI 28 σ6.1) := hI
    obtain ⟨hT, hI6, hW⟩ := hI
    rw [F_X10_clear_45.eq_1]
    refine ok_if (fun hc7 => ?_) (fun hc7 => ?_)
    · exact ok_some ⟨hT, (show WI 28 σ6.1 from by exact hW)⟩
    · refine ok_gR (v := 33) hT rfl (hR 28 7 rfl) ?_
      obtain ⟨q10, eq10, kq10⟩ := arrF hR (k := 33) (i := x1_6) rfl (by first | omega | decide | (simp only [Int32.le_iff_toInt_le, Int32.lt_iff_toInt_lt, ti_add, ti_sub, ti_mul, Int32.reduceToInt] at *; omega)) (by first | omega | decide | (simp only [Int32.le_iff_toInt_le, Int32.lt_iff_toInt_lt, ti_add, ti_sub, ti_mul, Int32.reduceToInt] at *; omega))
      refine ok_aR (v := q10) hT rfl (by first | omega | decide | (simp only [Int32.le_iff_toInt_le, Int32.lt_iff_toInt_lt, ti_add, ti_sub, ti_mul, Int32.reduceToInt] at *; omega)) (by first | omega | decide | (simp only [Int32.le_iff_toInt_le, Int32.lt_iff_toInt_lt, ti_add, ti_sub, ti_mul, Int32.reduceToInt] at *; omega)) eq10 ?_
      refine ok_gC kq10 ?_
      refine ok_zbT (Q := fun V σ => True) hT (s_X2_clear hN (hR.tr hT) kq10) (fun _ h9 => absurd h9 List.not_mem_nil) (fun v11 σ12 hOσ12 hT hqv11 => ?_)
      have hW : WI 28 σ12.1 := WI.tr hOσ12 (by decide) (by decide) (by decide) hW
      exact ih45_6 (x1_6 + 1, σ12) (show Tr [28, 31, 32] σ0 σ12 ∧ (0 ≤ (x1_6 + 1).toInt) ∧ (WI 28 σ12.1) from ⟨hT, (by first | omega | decide | (simp only [Int32.le_iff_toInt_le, Int32.lt_iff_toInt_lt, ti_add, ti_sub, ti_mul, Int32.reduceToInt] at *; omega)), hW⟩) (show ((10 : Int32).toInt - (x1_6 + 1).toInt).toNat < ((10 : Int32).toInt - x1_6.toInt).toNat from (by first | omega | decide | (simp only [Int32.le_iff_toInt_le, Int32.lt_iff_toInt_lt, ti_add, ti_sub, ti_mul, Int32.reduceToInt] at *; omega)))
  · refine ok_gR (v := 31) hT rfl (hR 28 5 rfl) ?_
    refine ok_s14 hT rfl (by decide) (by first | omega | decide | (simp only [Int32.le_iff_toInt_le, Int32.lt_iff_toInt_lt, ti_add, ti_sub, ti_mul, Int32.reduceToInt] at *; omega)) (by first | omega | decide | (simp only [Int32.le_iff_toInt_le, Int32.lt_iff_toInt_lt, ti_add, ti_sub, ti_mul, Int32.reduceToInt] at *; omega)) (fun σ14 eσ14 hOσ14 hT => ?_)
    have hW : WI 28 σ14.1 := WI.tr hOσ14 (by decide) (by decide) (by decide) hW
    refine ok_gR (v := 32) hT rfl (hR 28 6 rfl) ?_
    refine ok_s14 hT rfl (by decide) (by first | omega | decide | (simp only [Int32.le_iff_toInt_le, Int32.lt_iff_toInt_lt, ti_add, ti_sub, ti_mul, Int32.reduceToInt] at *; omega)) (by first | omega | decide | (simp only [Int32.le_iff_toInt_le, Int32.lt_iff_toInt_lt, ti_add, ti_sub, ti_mul, Int32.reduceToInt] at *; omega)) (fun σ16 eσ16 hOσ16 hT => ?_)
    have hW : WI 28 σ16.1 := WI.tr hOσ16 (by decide) (by decide) (by decide) hW
    exact ih17_4 (x1_4 + 1, σ16) (show Tr [28, 31, 32] σ0 σ16 ∧ (0 ≤ (x1_4 + 1).toInt) ∧ (WI 28 σ16.1) from ⟨hT, (by first | omega | decide | (simp only [Int32.le_iff_toInt_le, Int32.lt_iff_toInt_lt, ti_add, ti_sub, ti_mul, Int32.reduceToInt] at *; omega)), hW⟩) (show ((10 : Int32).toInt - (x1_4 + 1).toInt).toNat < ((10 : Int32).toInt - x1_4.toInt).toNat from (by first | omega | decide | (simp only [Int32.le_iff_toInt_le, Int32.lt_iff_toInt_lt, ti_add, ti_sub, ti_mul, Int32.reduceToInt] at *; omega)))

set_option maxHeartbeats 4000000 in
set_option maxRecDepth 100000 in
theorem s_X10_copyFrom_28_132 {N : Nat} (hN : 1048576 ≤ N)  {σ0 : zS}  (hR : RF σ0.2.2) (hW : WI 28 σ0.1) (hV : WI 132 σ0.1) : Ok (f_X10_copyFrom N 28 132 σ0) (fun r => Tr [28, 29, 30, 31, 32] σ0 r.2 ∧ (WI 28 r.2.1)) := by
  have hT : Tr [28, 29, 30, 31, 32] σ0 σ0 := Tr.rf
  rw [f_X10_copyFrom.eq_1]
  refine ok_gIv rfl rfl ?_
  refine ok_pI hT rfl (by decide) (fun σ2 eσ2 hOσ2 hT => ?_)
  have hW : WI 28 σ2.1 := WI_p0 eσ2 (hV).1 hW
  have hV : WI 132 σ2.1 := WI.tr hOσ2 (by decide) (by decide) (by decide) hV
  refine ok_gIv rfl rfl ?_
  refine ok_pI hT rfl (by decide) (fun σ4 eσ4 hOσ4 hT => ?_)
  have hW : WI 28 σ4.1 := WI_p1 eσ4 hW
  have hV : WI 132 σ4.1 := WI.tr hOσ4 (by decide) (by decide) (by decide) hV
  refine ok_gIv rfl rfl ?_
  refine ok_pI hT rfl (by decide) (fun σ6 eσ6 hOσ6 hT => ?_)
  have hW : WI 28 σ6.1 := WI_p2 eσ6 (hV).2.1 hW
  have hV : WI 132 σ6.1 := WI.tr hOσ6 (by decide) (by decide) (by decide) hV
  refine ok_gR (v := 133) hT rfl (hR 132 3 rfl) ?_
  refine ok_gR (v := 29) hT rfl (hR 28 3 rfl) ?_
  refine ok_cpI hT rfl rfl (by decide) (by first | omega | decide | (simp only [Int32.le_iff_toInt_le, Int32.lt_iff_toInt_lt, ti_add, ti_sub, ti_mul, Int32.reduceToInt] at *; omega)) (by first | omega | decide | (simp only [Int32.le_iff_toInt_le, Int32.lt_iff_toInt_lt, ti_add, ti_sub, ti_mul, Int32.reduceToInt] at *; omega)) (by first | omega | decide | (simp only [Int32.le_iff_toInt_le, Int32.lt_iff_toInt_lt, ti_add, ti_sub, ti_mul, Int32.reduceToInt] at *; omega)) (by first | omega | decide | (simp only [Int32.le_iff_toInt_le, Int32.lt_iff_toInt_lt, ti_add, ti_sub, ti_mul, Int32.reduceToInt] at *; omega)) (by first | omega | decide | (simp only [Int32.le_iff_toInt_le, Int32.lt_iff_toInt_lt, ti_add, ti_sub, ti_mul, Int32.reduceToInt] at *; omega)) (fun σ9 eσ9 hOσ9 hT => ?_)
  have hW : WI 28 σ9.1 := WI_c1 (B := 28) (C := 132) eσ9 hV hW
  have hV : WI 132 σ9.1 := WI.tr hOσ9 (by decide) (by decide) (by decide) hV
  refine ok_gR (v := 134) hT rfl (hR 132 4 rfl) ?_
  refine ok_gR (v := 30) hT rfl (hR 28 4 rfl) ?_
  refine ok_cpI hT rfl rfl (by decide) (by first | omega | decide | (simp only [Int32.le_iff_toInt_le, Int32.lt_iff_toInt_lt, ti_add, ti_sub, ti_mul, Int32.reduceToInt] at *; omega)) (by first | omega | decide | (simp only [Int32.le_iff_toInt_le, Int32.lt_iff_toInt_lt, ti_add, ti_sub, ti_mul, Int32.reduceToInt] at *; omega)) (by first | omega | decide | (simp only [Int32.le_iff_toInt_le, Int32.lt_iff_toInt_lt, ti_add, ti_sub, ti_mul, Int32.reduceToInt] at *; omega)) (by first | omega | decide | (simp only [Int32.le_iff_toInt_le, Int32.lt_iff_toInt_lt, ti_add, ti_sub, ti_mul, Int32.reduceToInt] at *; omega)) (by first | omega | decide | (simp only [Int32.le_iff_toInt_le, Int32.lt_iff_toInt_lt, ti_add, ti_sub, ti_mul, Int32.reduceToInt] at *; omega)) (fun σ12 eσ12 hOσ12 hT => ?_)
  have hW : WI 28 σ12.1 := WI_c2 (B := 28) (C := 132) eσ12 hV hW
  have hV : WI 132 σ12.1 := WI.tr hOσ12 (by decide) (by decide) (by decide) hV
  refine ok_gR (v := 135) hT rfl (hR 132 5 rfl) ?_
  refine ok_gR (v := 31) hT rfl (hR 28 5 rfl) ?_
  refine ok_cpI hT rfl rfl (by decide) (by first | omega | decide | (simp only [Int32.le_iff_toInt_le, Int32.lt_iff_toInt_lt, ti_add, ti_sub, ti_mul, Int32.reduceToInt] at *; omega)) (by first | omega | decide | (simp only [Int32.le_iff_toInt_le, Int32.lt_iff_toInt_lt, ti_add, ti_sub, ti_mul, Int32.reduceToInt] at *; omega)) (by first | omega | decide | (simp only [Int32.le_iff_toInt_le, Int32.lt_iff_toInt_lt, ti_add, ti_sub, ti_mul, Int32.reduceToInt] at *; omega)) (by first | omega | decide | (simp only [Int32.le_iff_toInt_le, Int32.lt_iff_toInt_lt, ti_add, ti_sub, ti_mul, Int32.reduceToInt] at *; omega)) (by first | omega | decide | (simp only [Int32.le_iff_toInt_le, Int32.lt_iff_toInt_lt, ti_add, ti_sub, ti_mul, Int32.reduceToInt] at *; omega)) (fun σ15 eσ15 hOσ15 hT => ?_)
  have hW : WI 28 σ15.1 := WI.tr hOσ15 (by decide) (by decide) (by decide) hW
  have hV : WI 132 σ15.1 := WI.tr hOσ15 (by decide) (by decide) (by decide) hV
  refine ok_gR (v := 136) hT rfl (hR 132 6 rfl) ?_
  refine ok_gR (v := 32) hT rfl (hR 28 6 rfl) ?_
  refine ok_cpI hT rfl rfl (by decide) (by first | omega | decide | (simp only [Int32.le_iff_toInt_le, Int32.lt_iff_toInt_lt, ti_add, ti_sub, ti_mul, Int32.reduceToInt] at *; omega)) (by first | omega | decide | (simp only [Int32.le_iff_toInt_le, Int32.lt_iff_toInt_lt, ti_add, ti_sub, ti_mul, Int32.reduceToInt] at *; omega)) (by first | omega | decide | (simp only [Int32.le_iff_toInt_le, Int32.lt_iff_toInt_lt, ti_add, ti_sub, ti_mul, Int32.reduceToInt] at *; omega)) (by first | omega | decide | (simp only [Int32.le_iff_toInt_le, Int32.lt_iff_toInt_lt, ti_add, ti_sub, ti_mul, Int32.reduceToInt] at *; omega)) (by first | omega | decide | (simp only [Int32.le_iff_toInt_le, Int32.lt_iff_toInt_lt, ti_add, ti_sub, ti_mul, Int32.reduceToInt] at *; omega)) (fun σ18 eσ18 hOσ18 hT => ?_)
  have hW : WI 28 σ18.1 := WI.tr hOσ18 (by decide) (by decide) (by decide) hW
  have hV : WI 132 σ18.1 := WI.tr hOσ18 (by decide) (by decide) (by decide) hV
  refine ok_lp (fun t : Int32 × zS => Tr [28, 29, 30, 31, 32] σ0 (t.2) ∧ (0 ≤ (t.1).toInt) ∧ (WI 28 (t.2).1) ∧ (WI 132 (t.2).1)) (fun t : Int32 × zS => ((10 : Int32).toInt - (t.1).toInt).toNat) (fun again19 t hI ih86_19 => ?_) N _ (show Tr [28, 29, 30, 31, 32] σ0 σ18 ∧ (0 ≤ (0 : Int32).toInt) ∧ (WI 28 σ18.1) ∧ (WI 132 σ18.1) from ⟨hT, (by first | omega | decide | (simp only [Int32.le_iff_toInt_le, Int32.lt_iff_toInt_lt, ti_add, ti_sub, ti_mul, Int32.reduceToInt] at *; omega)), hW, hV⟩) (show ((10 : Int32).toInt - (0 : Int32).toInt).toNat < N from (by first | omega | decide | (simp only [Int32.le_iff_toInt_le, Int32.lt_iff_toInt_lt, ti_add, ti_sub, ti_mul, Int32.reduceToInt] at *; omega)))
  obtain ⟨x2_19, σ19⟩ := t
  have hI : Tr [28, 29, 30, 31, 32] σ0 σ19 ∧ (0 ≤ x2_19.toInt) ∧ (WI 28 σ19.1) ∧ (WI 132 σ19.1) := hI
  obtain ⟨hT, hI19, hW, hV⟩ := hI
  rw [F_X10_copyFrom_86.eq_1]
  refine ok_if (fun hc20 => ?_) (fun hc20 => ?_)
  · exact ok_some ⟨hT, (show WI 28 σ19.1 from by exact hW)⟩
  · refine ok_gR (v := 33) hT rfl (hR 28 7 rfl) ?_
    obtain ⟨q23, eq23, kq23⟩ := arrF hR (k := 33) (i := x2_19) rfl (by first | omega | decide | (simp only [Int32.le_iff_toInt_le, Int32.lt_iff_toInt_lt, ti_add, ti_sub, ti_mul, Int32.reduceToInt] at *; omega)) (by first | omega | decide | (simp only [Int32.le_iff_toInt_le, Int32.lt_iff_toInt_lt, ti_add, ti_sub, ti_mul, Int32.reduceToInt] at *; omega))
    refine ok_aR (v := q23) hT rfl (by first | omega | decide | (simp only [Int32.le_iff_toInt_le, Int32.lt_iff_toInt_lt, ti_add, ti_sub, ti_mul, Int32.reduceToInt] at *; omega)) (by first | omega | decide | (simp only [Int32.le_iff_toInt_le, Int32.lt_iff_toInt_lt, ti_add, ti_sub, ti_mul, Int32.reduceToInt] at *; omega)) eq23 ?_
    refine ok_gR (v := 137) hT rfl (hR 132 7 rfl) ?_
    obtain ⟨q26, eq26, kq26⟩ := arrF hR (k := 137) (i := x2_19) rfl (by first | omega | decide | (simp only [Int32.le_iff_toInt_le, Int32.lt_iff_toInt_lt, ti_add, ti_sub, ti_mul, Int32.reduceToInt] at *; omega)) (by first | omega | decide | (simp only [Int32.le_iff_toInt_le, Int32.lt_iff_toInt_lt, ti_add, ti_sub, ti_mul, Int32.reduceToInt] at *; omega))
    refine ok_aR (v := q26) hT rfl (by first | omega | decide | (simp only [Int32.le_iff_toInt_le, Int32.lt_iff_toInt_lt, ti_add, ti_sub, ti_mul, Int32.reduceToInt] at *; omega)) (by first | omega | decide | (simp only [Int32.le_iff_toInt_le, Int32.lt_iff_toInt_lt, ti_add, ti_sub, ti_mul, Int32.reduceToInt] at *; omega)) eq26 ?_
    refine ok_gC kq23 ?_
    refine ok_zbT (Q := fun V σ => True) hT (s_X2_copyFrom hN (hR.tr hT) kq23 kq26) (fun _ h9 => absurd h9 List.not_mem_nil) (fun v27 σ28 hOσ28 hT hqv27 => ?_)
    have hW : WI 28 σ28.1 := WI.tr hOσ28 (by decide) (by decide) (by decide) hW
    have hV : WI 132 σ28.1 := WI.tr hOσ28 (by decide) (by decide) (by decide) hV
    exact ih86_19 (x2_19 + 1, σ28) (show Tr [28, 29, 30, 31, 32] σ0 σ28 ∧ (0 ≤ (x2_19 + 1).toInt) ∧ (WI 28 σ28.1) ∧ (WI 132 σ28.1) from ⟨hT, (by first | omega | decide | (simp only [Int32.le_iff_toInt_le, Int32.lt_iff_toInt_lt, ti_add, ti_sub, ti_mul, Int32.reduceToInt] at *; omega)), hW, hV⟩) (show ((10 : Int32).toInt - (x2_19 + 1).toInt).toNat < ((10 : Int32).toInt - x2_19.toInt).toNat from (by first | omega | decide | (simp only [Int32.le_iff_toInt_le, Int32.lt_iff_toInt_lt, ti_add, ti_sub, ti_mul, Int32.reduceToInt] at *; omega)))

set_option maxHeartbeats 4000000 in
set_option maxRecDepth 100000 in
theorem s_X10_copyFrom_132_28 {N : Nat} (hN : 1048576 ≤ N)  {σ0 : zS}  (hR : RF σ0.2.2) (hW : WI 132 σ0.1) (hV : WI 28 σ0.1) : Ok (f_X10_copyFrom N 132 28 σ0) (fun r => Tr [132, 133, 134, 135, 136] σ0 r.2 ∧ (WI 132 r.2.1)) := by
  have hT : Tr [132, 133, 134, 135, 136] σ0 σ0 := Tr.rf
  rw [f_X10_copyFrom.eq_1]
  refine ok_gIv rfl rfl ?_
  refine ok_pI hT rfl (by decide) (fun σ2 eσ2 hOσ2 hT => ?_)
  have hW : WI 132 σ2.1 := WI_p0 eσ2 (hV).1 hW
  have hV : WI 28 σ2.1 := WI.tr hOσ2 (by decide) (by decide) (by decide) hV
  refine ok_gIv rfl rfl ?_
  refine ok_pI hT rfl (by decide) (fun σ4 eσ4 hOσ4 hT => ?_)
  have hW : WI 132 σ4.1 := WI_p1 eσ4 hW
  have hV : WI 28 σ4.1 := WI.tr hOσ4 (by decide) (by decide) (by decide) hV
  refine ok_gIv rfl rfl ?_
  refine ok_pI hT rfl (by decide) (fun σ6 eσ6 hOσ6 hT => ?_)
  have hW : WI 132 σ6.1 := WI_p2 eσ6 (hV).2.1 hW
  have hV : WI 28 σ6.1 := WI.tr hOσ6 (by decide) (by decide) (by decide) hV
  refine ok_gR (v := 29) hT rfl (hR 28 3 rfl) ?_
  refine ok_gR (v := 133) hT rfl (hR 132 3 rfl) ?_
  refine ok_cpI hT rfl rfl (by decide) (by first | omega | decide | (simp only [Int32.le_iff_toInt_le, Int32.lt_iff_toInt_lt, ti_add, ti_sub, ti_mul, Int32.reduceToInt] at *; omega)) (by first | omega | decide | (simp only [Int32.le_iff_toInt_le, Int32.lt_iff_toInt_lt, ti_add, ti_sub, ti_mul, Int32.reduceToInt] at *; omega)) (by first | omega | decide | (simp only [Int32.le_iff_toInt_le, Int32.lt_iff_toInt_lt, ti_add, ti_sub, ti_mul, Int32.reduceToInt] at *; omega)) (by first | omega | decide | (simp only [Int32.le_iff_toInt_le, Int32.lt_iff_toInt_lt, ti_add, ti_sub, ti_mul, Int32.reduceToInt] at *; omega)) (by first | omega | decide | (simp only [Int32.le_iff_toInt_le, Int32.lt_iff_toInt_lt, ti_add, ti_sub, ti_mul, Int32.reduceToInt] at *; omega)) (fun σ9 eσ9 hOσ9 hT => ?_)
  have hW : WI 132 σ9.1 := WI_c1 (B := 132) (C := 28) eσ9 hV hW
  have hV : WI 28 σ9.1 := WI.tr hOσ9 (by decide) (by decide) (by decide) hV
  refine ok_gR (v := 30) hT rfl (hR 28 4 rfl) ?_
  refine ok_gR (v := 134) hT rfl (hR 132 4 rfl) ?_
  refine ok_cpI hT rfl rfl (by decide) (by first | omega | decide | (simp only [Int32.le_iff_toInt_le, Int32.lt_iff_toInt_lt, ti_add, ti_sub, ti_mul, Int32.reduceToInt] at *; omega)) (by first | omega | decide | (simp only [Int32.le_iff_toInt_le, Int32.lt_iff_toInt_lt, ti_add, ti_sub, ti_mul, Int32.reduceToInt] at *; omega)) (by first | omega | decide | (simp only [Int32.le_iff_toInt_le, Int32.lt_iff_toInt_lt, ti_add, ti_sub, ti_mul, Int32.reduceToInt] at *; omega)) (by first | omega | decide | (simp only [Int32.le_iff_toInt_le, Int32.lt_iff_toInt_lt, ti_add, ti_sub, ti_mul, Int32.reduceToInt] at *; omega)) (by first | omega | decide | (simp only [Int32.le_iff_toInt_le, Int32.lt_iff_toInt_lt, ti_add, ti_sub, ti_mul, Int32.reduceToInt] at *; omega)) (fun σ12 eσ12 hOσ12 hT => ?_)
  have hW : WI 132 σ12.1 := WI_c2 (B := 132) (C := 28) eσ12 hV hW
  have hV : WI 28 σ12.1 := WI.tr hOσ12 (by decide) (by decide) (by decide) hV
  refine ok_gR (v := 31) hT rfl (hR 28 5 rfl) ?_
  refine ok_gR (v := 135) hT rfl (hR 132 5 rfl) ?_
  refine ok_cpI hT rfl rfl (by decide) (by first | omega | decide | (simp only [Int32.le_iff_toInt_le, Int32.lt_iff_toInt_lt, ti_add, ti_sub, ti_mul, Int32.reduceToInt] at *; omega)) (by first | omega | decide | (simp only [Int32.le_iff_toInt_le, Int32.lt_iff_toInt_lt, ti_add, ti_sub, ti_mul, Int32.reduceToInt] at *; omega)) (by first | omega | decide | (simp only [Int32.le_iff_toInt_le, Int32.lt_iff_toInt_lt, ti_add, ti_sub, ti_mul, Int32.reduceToInt] at *; omega)) (by first | omega | decide | (simp only [Int32.le_iff_toInt_le, Int32.lt_iff_toInt_lt, ti_add, ti_sub, ti_mul, Int32.reduceToInt] at *; omega)) (by first | omega | decide | (simp only [Int32.le_iff_toInt_le, Int32.lt_iff_toInt_lt, ti_add, ti_sub, ti_mul, Int32.reduceToInt] at *; omega)) (fun σ15 eσ15 hOσ15 hT => ?_)
  have hW : WI 132 σ15.1 := WI.tr hOσ15 (by decide) (by decide) (by decide) hW
  have hV : WI 28 σ15.1 := WI.tr hOσ15 (by decide) (by decide) (by decide) hV
  refine ok_gR (v := 32) hT rfl (hR 28 6 rfl) ?_
  refine ok_gR (v := 136) hT rfl (hR 132 6 rfl) ?_
  refine ok_cpI hT rfl rfl (by decide) (by first | omega | decide | (simp only [Int32.le_iff_toInt_le, Int32.lt_iff_toInt_lt, ti_add, ti_sub, ti_mul, Int32.reduceToInt] at *; omega)) (by first | omega | decide | (simp only [Int32.le_iff_toInt_le, Int32.lt_iff_toInt_lt, ti_add, ti_sub, ti_mul, Int32.reduceToInt] at *; omega)) (by first | omega | decide | (simp only [Int32.le_iff_toInt_le, Int32.lt_iff_toInt_lt, ti_add, ti_sub, ti_mul, Int32.reduceToInt] at *; omega)) (by first | omega | decide | (simp only [Int32.le_iff_toInt_le, Int32.lt_iff_toInt_lt, ti_add, ti_sub, ti_mul, Int32.reduceToInt] at *; omega)) (by first | omega | decide | (simp only [Int32.le_iff_toInt_le, Int32.lt_iff_toInt_lt, ti_add, ti_sub, ti_mul, Int32.reduceToInt] at *; omega)) (fun σ18 eσ18 hOσ18 hT => ?_)
  have hW : WI 132 σ18.1 := WI.tr hOσ18 (by decide) (by decide) (by decide) hW
  have hV : WI 28 σ18.1 := WI.tr hOσ18 (by decide) (by decide) (by decide) hV
  refine ok_lp (fun t : Int32 × zS => Tr [132, 133, 134, 135, 136] σ0 (t.2) ∧ (0 ≤ (t.1).toInt) ∧ (WI 132 (t.2).1) ∧ (WI 28 (t.2).1)) (fun t : Int32 × zS => ((10 : Int32).toInt - (t.1).toInt).toNat) (fun again19 t hI ih86_19 => ?_) N _ (show Tr [132, 133, 134, 135, 136] σ0 σ18 ∧ (0 ≤ (0 : Int32).toInt) ∧ (WI 132 σ18.1) ∧ (WI 28 σ18.1) from ⟨hT, (by first | omega | decide | (simp only [Int32.le_iff_toInt_le, Int32.lt_iff_toInt_lt, ti_add, ti_sub, ti_mul, Int32.reduceToInt] at *; omega)), hW, hV⟩) (show ((10 : Int32).toInt - (0 : Int32).toInt).toNat < N from (by first | omega | decide | (simp only [Int32.le_iff_toInt_le, Int32.lt_iff_toInt_lt, ti_add, ti_sub, ti_mul, Int32.reduceToInt] at *; omega)))
  obtain ⟨x2_19, σ19⟩ := t
  have hI : Tr [132, 133, 134, 135, 136] σ0 σ19 ∧ (0 ≤ x2_19.toInt) ∧ (WI 132 σ19.1) ∧ (WI 28 σ19.1) := hI
  obtain ⟨hT, hI19, hW, hV⟩ := hI
  rw [F_X10_copyFrom_86.eq_1]
  refine ok_if (fun hc20 => ?_) (fun hc20 => ?_)
  · exact ok_some ⟨hT, (show WI 132 σ19.1 from by exact hW)⟩
  · refine ok_gR (v := 137) hT rfl (hR 132 7 rfl) ?_
    obtain ⟨q23, eq23, kq23⟩ := arrF hR (k := 137) (i := x2_19) rfl (by first | omega | decide | (simp only [Int32.le_iff_toInt_le, Int32.lt_iff_toInt_lt, ti_add, ti_sub, ti_mul, Int32.reduceToInt] at *; omega)) (by first | omega | decide | (simp only [Int32.le_iff_toInt_le, Int32.lt_iff_toInt_lt, ti_add, ti_sub, ti_mul, Int32.reduceToInt] at *; omega))
    refine ok_aR (v := q23) hT rfl (by first | omega | decide | (simp only [Int32.le_iff_toInt_le, Int32.lt_iff_toInt_lt, ti_add, ti_sub, ti_mul, Int32.reduceToInt] at *; omega)) (by first | omega | decide | (simp only [Int32.le_iff_toInt_le, Int32.lt_iff_toInt_lt, ti_add, ti_sub, ti_mul, Int32.reduceToInt] at *; omega)) eq23 ?_
    refine ok_gR (v := 33) hT rfl (hR 28 7 rfl) ?_
    obtain ⟨q26, eq26, kq26⟩ := arrF hR (k := 33) (i := x2_19) rfl (by first | omega | decide | (simp only [Int32.le_iff_toInt_le, Int32.lt_iff_toInt_lt, ti_add, ti_sub, ti_mul, Int32.reduceToInt] at *; omega)) (by first | omega | decide | (simp only [Int32.le_iff_toInt_le, Int32.lt_iff_toInt_lt, ti_add, ti_sub, ti_mul, Int32.reduceToInt] at *; omega))
    refine ok_aR (v := q26) hT rfl (by first | omega | decide | (simp only [Int32.le_iff_toInt_le, Int32.lt_iff_toInt_lt, ti_add, ti_sub, ti_mul, Int32.reduceToInt] at *; omega)) (by first | omega | decide | (simp only [Int32.le_iff_toInt_le, Int32.lt_iff_toInt_lt, ti_add, ti_sub, ti_mul, Int32.reduceToInt] at *; omega)) eq26 ?_
    refine ok_gC kq23 ?_
    refine ok_zbT (Q := fun V σ => True) hT (s_X2_copyFrom hN (hR.tr hT) kq23 kq26) (fun _ h9 => absurd h9 List.not_mem_nil) (fun v27 σ28 hOσ28 hT hqv27 => ?_)
    have hW : WI 132 σ28.1 := WI.tr hOσ28 (by decide) (by decide) (by decide) hW
    have hV : WI 28 σ28.1 := WI.tr hOσ28 (by decide) (by decide) (by decide) hV
    exact ih86_19 (x2_19 + 1, σ28) (show Tr [132, 133, 134, 135, 136] σ0 σ28 ∧ (0 ≤ (x2_19 + 1).toInt) ∧ (WI 132 σ28.1) ∧ (WI 28 σ28.1) from ⟨hT, (by first | omega | decide | (simp only [Int32.le_iff_toInt_le, Int32.lt_iff_toInt_lt, ti_add, ti_sub, ti_mul, Int32.reduceToInt] at *; omega)), hW, hV⟩) (show ((10 : Int32).toInt - (x2_19 + 1).toInt).toNat < ((10 : Int32).toInt - x2_19.toInt).toNat from (by first | omega | decide | (simp only [Int32.le_iff_toInt_le, Int32.lt_iff_toInt_lt, ti_add, ti_sub, ti_mul, Int32.reduceToInt] at *; omega)))

set_option maxHeartbeats 4000000 in
set_option maxRecDepth 100000 in
theorem s_X10_copyFrom_28_158 {N : Nat} (hN : 1048576 ≤ N)  {σ0 : zS}  (hR : RF σ0.2.2) (hW : WI 28 σ0.1) (hV : WI 158 σ0.1) : Ok (f_X10_copyFrom N 28 158 σ0) (fun r => Tr [28, 29, 30, 31, 32] σ0 r.2 ∧ (WI 28 r.2.1)) := by
  have hT : Tr [28, 29, 30, 31, 32] σ0 σ0 := Tr.rf
  rw [f_X10_copyFrom.eq_1]
  refine ok_gIv rfl rfl ?_
  refine ok_pI hT rfl (by decide) (fun σ2 eσ2 hOσ2 hT => ?_)
  have hW : WI 28 σ2.1 := WI_p0 eσ2 (hV).1 hW
  have hV : WI 158 σ2.1 := WI.tr hOσ2 (by decide) (by decide) (by decide) hV
  refine ok_gIv rfl rfl ?_
  refine ok_pI hT rfl (by decide) (fun σ4 eσ4 hOσ4 hT => ?_)
  have hW : WI 28 σ4.1 := WI_p1 eσ4 hW
  have hV : WI 158 σ4.1 := WI.tr hOσ4 (by decide) (by decide) (by decide) hV
  refine ok_gIv rfl rfl ?_
  refine ok_pI hT rfl (by decide) (fun σ6 eσ6 hOσ6 hT => ?_)
  have hW : WI 28 σ6.1 := WI_p2 eσ6 (hV).2.1 hW
  have hV : WI 158 σ6.1 := WI.tr hOσ6 (by decide) (by decide) (by decide) hV
  refine ok_gR (v := 159) hT rfl (hR 158 3 rfl) ?_
  refine ok_gR (v := 29) hT rfl (hR 28 3 rfl) ?_
  refine ok_cpI hT rfl rfl (by decide) (by first | omega | decide | (simp only [Int32.le_iff_toInt_le, Int32.lt_iff_toInt_lt, ti_add, ti_sub, ti_mul, Int32.reduceToInt] at *; omega)) (by first | omega | decide | (simp only [Int32.le_iff_toInt_le, Int32.lt_iff_toInt_lt, ti_add, ti_sub, ti_mul, Int32.reduceToInt] at *; omega)) (by first | omega | decide | (simp only [Int32.le_iff_toInt_le, Int32.lt_iff_toInt_lt, ti_add, ti_sub, ti_mul, Int32.reduceToInt] at *; omega)) (by first | omega | decide | (simp only [Int32.le_iff_toInt_le, Int32.lt_iff_toInt_lt, ti_add, ti_sub, ti_mul, Int32.reduceToInt] at *; omega)) (by first | omega | decide | (simp only [Int32.le_iff_toInt_le, Int32.lt_iff_toInt_lt, ti_add, ti_sub, ti_mul, Int32.reduceToInt] at *; omega)) (fun σ9 eσ9 hOσ9 hT => ?_)
  have hW : WI 28 σ9.1 := WI_c1 (B := 28) (C := 158) eσ9 hV hW
  have hV : WI 158 σ9.1 := WI.tr hOσ9 (by decide) (by decide) (by decide) hV
  refine ok_gR (v := 160) hT rfl (hR 158 4 rfl) ?_
  refine ok_gR (v := 30) hT rfl (hR 28 4 rfl) ?_
  refine ok_cpI hT rfl rfl (by decide) (by first | omega | decide | (simp only [Int32.le_iff_toInt_le, Int32.lt_iff_toInt_lt, ti_add, ti_sub, ti_mul, Int32.reduceToInt] at *; omega)) (by first | omega | decide | (simp only [Int32.le_iff_toInt_le, Int32.lt_iff_toInt_lt, ti_add, ti_sub, ti_mul, Int32.reduceToInt] at *; omega)) (by first | omega | decide | (simp only [Int32.le_iff_toInt_le, Int32.lt_iff_toInt_lt, ti_add, ti_sub, ti_mul, Int32.reduceToInt] at *; omega)) (by first | omega | decide | (simp only [Int32.le_iff_toInt_le, Int32.lt_iff_toInt_lt, ti_add, ti_sub, ti_mul, Int32.reduceToInt] at *; omega)) (by first | omega | decide | (simp only [Int32.le_iff_toInt_le, Int32.lt_iff_toInt_lt, ti_add, ti_sub, ti_mul, Int32.reduceToInt] at *; omega)) (fun σ12 eσ12 hOσ12 hT => ?_)
  have hW : WI 28 σ12.1 := WI_c2 (B := 28) (C := 158) eσ12 hV hW
  have hV : WI 158 σ12.1 := WI.tr hOσ12 (by decide) (by decide) (by decide) hV
  refine ok_gR (v := 161) hT rfl (hR 158 5 rfl) ?_
  refine ok_gR (v := 31) hT rfl (hR 28 5 rfl) ?_
  refine ok_cpI hT rfl rfl (by decide) (by first | omega | decide | (simp only [Int32.le_iff_toInt_le, Int32.lt_iff_toInt_lt, ti_add, ti_sub, ti_mul, Int32.reduceToInt] at *; omega)) (by first | omega | decide | (simp only [Int32.le_iff_toInt_le, Int32.lt_iff_toInt_lt, ti_add, ti_sub, ti_mul, Int32.reduceToInt] at *; omega)) (by first | omega | decide | (simp only [Int32.le_iff_toInt_le, Int32.lt_iff_toInt_lt, ti_add, ti_sub, ti_mul, Int32.reduceToInt] at *; omega)) (by first | omega | decide | (simp only [Int32.le_iff_toInt_le, Int32.lt_iff_toInt_lt, ti_add, ti_sub, ti_mul, Int32.reduceToInt] at *; omega)) (by first | omega | decide | (simp only [Int32.le_iff_toInt_le, Int32.lt_iff_toInt_lt, ti_add, ti_sub, ti_mul, Int32.reduceToInt] at *; omega)) (fun σ15 eσ15 hOσ15 hT => ?_)
  have hW : WI 28 σ15.1 := WI.tr hOσ15 (by decide) (by decide) (by decide) hW
  have hV : WI 158 σ15.1 := WI.tr hOσ15 (by decide) (by decide) (by decide) hV
  refine ok_gR (v := 162) hT rfl (hR 158 6 rfl) ?_
  refine ok_gR (v := 32) hT rfl (hR 28 6 rfl) ?_
  refine ok_cpI hT rfl rfl (by decide) (by first | omega | decide | (simp only [Int32.le_iff_toInt_le, Int32.lt_iff_toInt_lt, ti_add, ti_sub, ti_mul, Int32.reduceToInt] at *; omega)) (by first | omega | decide | (simp only [Int32.le_iff_toInt_le, Int32.lt_iff_toInt_lt, ti_add, ti_sub, ti_mul, Int32.reduceToInt] at *; omega)) (by first | omega | decide | (simp only [Int32.le_iff_toInt_le, Int32.lt_iff_toInt_lt, ti_add, ti_sub, ti_mul, Int32.reduceToInt] at *; omega)) (by first | omega | decide | (simp only [Int32.le_iff_toInt_le, Int32.lt_iff_toInt_lt, ti_add, ti_sub, ti_mul, Int32.reduceToInt] at *; omega)) (by first | omega | decide | (simp only [Int32.le_iff_toInt_le, Int32.lt_iff_toInt_lt, ti_add, ti_sub, ti_mul, Int32.reduceToInt] at *; omega)) (fun σ18 eσ18 hOσ18 hT => ?_)
  have hW : WI 28 σ18.1 := WI.tr hOσ18 (by decide) (by decide) (by decide) hW
  have hV : WI 158 σ18.1 := WI.tr hOσ18 (by decide) (by decide) (by decide) hV
  refine ok_lp (fun t : Int32 × zS => Tr [28, 29, 30, 31, 32] σ0 (t.2) ∧ (0 ≤ (t.1).toInt) ∧ (WI 28 (t.2).1) ∧ (WI 158 (t.2).1)) (fun t : Int32 × zS => ((10 : Int32).toInt - (t.1).toInt).toNat) (fun again19 t hI ih86_19 => ?_) N _ (show Tr [28, 29, 30, 31, 32] σ0 σ18 ∧ (0 ≤ (0 : Int32).toInt) ∧ (WI 28 σ18.1) ∧ (WI 158 σ18.1) from ⟨hT, (by first | omega | decide | (simp only [Int32.le_iff_toInt_le, Int32.lt_iff_toInt_lt, ti_add, ti_sub, ti_mul, Int32.reduceToInt] at *; omega)), hW, hV⟩) (show ((10 : Int32).toInt - (0 : Int32).toInt).toNat < N from (by first | omega | decide | (simp only [Int32.le_iff_toInt_le, Int32.lt_iff_toInt_lt, ti_add, ti_sub, ti_mul, Int32.reduceToInt] at *; omega)))
  obtain ⟨x2_19, σ19⟩ := t
  have hI : Tr [28, 29, 30, 31, 32] σ0 σ19 ∧ (0 ≤ x2_19.toInt) ∧ (WI 28 σ19.1) ∧ (WI 158 σ19.1) := hI
  obtain ⟨hT, hI19, hW, hV⟩ := hI
  rw [F_X10_copyFrom_86.eq_1]
  refine ok_if (fun hc20 => ?_) (fun hc20 => ?_)
  · exact ok_some ⟨hT, (show WI 28 σ19.1 from by exact hW)⟩
  · refine ok_gR (v := 33) hT rfl (hR 28 7 rfl) ?_
    obtain ⟨q23, eq23, kq23⟩ := arrF hR (k := 33) (i := x2_19) rfl (by first | omega | decide | (simp only [Int32.le_iff_toInt_le, Int32.lt_iff_toInt_lt, ti_add, ti_sub, ti_mul, Int32.reduceToInt] at *; omega)) (by first | omega | decide | (simp only [Int32.le_iff_toInt_le, Int32.lt_iff_toInt_lt, ti_add, ti_sub, ti_mul, Int32.reduceToInt] at *; omega))
    refine ok_aR (v := q23) hT rfl (by first | omega | decide | (simp only [Int32.le_iff_toInt_le, Int32.lt_iff_toInt_lt, ti_add, ti_sub, ti_mul, Int32.reduceToInt] at *; omega)) (by first | omega | decide | (simp only [Int32.le_iff_toInt_le, Int32.lt_iff_toInt_lt, ti_add, ti_sub, ti_mul, Int32.reduceToInt] at *; omega)) eq23 ?_
    refine ok_gR (v := 163) hT rfl (hR 158 7 rfl) ?_
    obtain ⟨q26, eq26, kq26⟩ := arrF hR (k := 163) (i := x2_19) rfl (by first | omega | decide | (simp only [Int32.le_iff_toInt_le, Int32.lt_iff_toInt_lt, ti_add, ti_sub, ti_mul, Int32.reduceToInt] at *; omega)) (by first | omega | decide | (simp only [Int32.le_iff_toInt_le, Int32.lt_iff_toInt_lt, ti_add, ti_sub, ti_mul, Int32.reduceToInt] at *; omega))
    refine ok_aR (v := q26) hT rfl (by first | omega | decide | (simp only [Int32.le_iff_toInt_le, Int32.lt_iff_toInt_lt, ti_add, ti_sub, ti_mul, Int32.reduceToInt] at *; omega)) (by first | omega | decide | (simp only [Int32.le_iff_toInt_le, Int32.lt_iff_toInt_lt, ti_add, ti_sub, ti_mul, Int32.reduceToInt] at *; omega)) eq26 ?_
    refine ok_gC kq23 ?_
    refine ok_zbT (Q := fun V σ => True) hT (s_X2_copyFrom hN (hR.tr hT) kq23 kq26) (fun _ h9 => absurd h9 List.not_mem_nil) (fun v27 σ28 hOσ28 hT hqv27 => ?_)
    have hW : WI 28 σ28.1 := WI.tr hOσ28 (by decide) (by decide) (by decide) hW
    have hV : WI 158 σ28.1 := WI.tr hOσ28 (by decide) (by decide) (by decide) hV
    exact ih86_19 (x2_19 + 1, σ28) (show Tr [28, 29, 30, 31, 32] σ0 σ28 ∧ (0 ≤ (x2_19 + 1).toInt) ∧ (WI 28 σ28.1) ∧ (WI 158 σ28.1) from ⟨hT, (by first | omega | decide | (simp only [Int32.le_iff_toInt_le, Int32.lt_iff_toInt_lt, ti_add, ti_sub, ti_mul, Int32.reduceToInt] at *; omega)), hW, hV⟩) (show ((10 : Int32).toInt - (x2_19 + 1).toInt).toNat < ((10 : Int32).toInt - x2_19.toInt).toNat from (by first | omega | decide | (simp only [Int32.le_iff_toInt_le, Int32.lt_iff_toInt_lt, ti_add, ti_sub, ti_mul, Int32.reduceToInt] at *; omega)))

set_option maxHeartbeats 4000000 in
set_option maxRecDepth 100000 in
theorem s_X10_copyFrom_158_28 {N : Nat} (hN : 1048576 ≤ N)  {σ0 : zS}  (hR : RF σ0.2.2) (hW : WI 158 σ0.1) (hV : WI 28 σ0.1) : Ok (f_X10_copyFrom N 158 28 σ0) (fun r => Tr [158, 159, 160, 161, 162] σ0 r.2 ∧ (WI 158 r.2.1)) := by
  have hT : Tr [158, 159, 160, 161, 162] σ0 σ0 := Tr.rf
  rw [f_X10_copyFrom.eq_1]
  refine ok_gIv rfl rfl ?_
  refine ok_pI hT rfl (by decide) (fun σ2 eσ2 hOσ2 hT => ?_)
  have hW : WI 158 σ2.1 := WI_p0 eσ2 (hV).1 hW
  have hV : WI 28 σ2.1 := WI.tr hOσ2 (by decide) (by decide) (by decide) hV
  refine ok_gIv rfl rfl ?_
  refine ok_pI hT rfl (by decide) (fun σ4 eσ4 hOσ4 hT => ?_)
  have hW : WI 158 σ4.1 := WI_p1 eσ4 hW
  have hV : WI 28 σ4.1 := WI.tr hOσ4 (by decide) (by decide) (by decide) hV
  refine ok_gIv rfl rfl ?_
  refine ok_pI hT rfl (by decide) (fun σ6 eσ6 hOσ6 hT => ?_)
  have hW : WI 158 σ6.1 := WI_p2 eσ6 (hV).2.1 hW
  have hV : WI 28 σ6.1 := WI.tr hOσ6 (by decide) (by decide) (by decide) hV
  refine ok_gR (v := 29) hT rfl (hR 28 3 rfl) ?_
  refine ok_gR (v := 159) hT rfl (hR 158 3 rfl) ?_
  refine ok_cpI hT rfl rfl (by decide) (by first | omega | decide | (simp only [Int32.le_iff_toInt_le, Int32.lt_iff_toInt_lt, ti_add, ti_sub, ti_mul, Int32.reduceToInt] at *; omega)) (by first | omega | decide | (simp only [Int32.le_iff_toInt_le, Int32.lt_iff_toInt_lt, ti_add, ti_sub, ti_mul, Int32.reduceToInt] at *; omega)) (by first | omega | decide | (simp only [Int32.le_iff_toInt_le, Int32.lt_iff_toInt_lt, ti_add, ti_sub, ti_mul, Int32.reduceToInt] at *; omega)) (by first | omega | decide | (simp only [Int32.le_iff_toInt_le, Int32.lt_iff_toInt_lt, ti_add, ti_sub, ti_mul, Int32.reduceToInt] at *; omega)) (by first | omega | decide | (simp only [Int32.le_iff_toInt_le, Int32.lt_iff_toInt_lt, ti_add, ti_sub, ti_mul, Int32.reduceToInt] at *; omega)) (fun σ9 eσ9 hOσ9 hT => ?_)
  have hW : WI 158 σ9.1 := WI_c1 (B := 158) (C := 28) eσ9 hV hW
  have hV : WI 28 σ9.1 := WI.tr hOσ9 (by decide) (by decide) (by decide) hV
  refine ok_gR (v := 30) hT rfl (hR 28 4 rfl) ?_
  refine ok_gR (v := 160) hT rfl (hR 158 4 rfl) ?_
  refine ok_cpI hT rfl rfl (by decide) (by first | omega | decide | (simp only [Int32.le_iff_toInt_le, Int32.lt_iff_toInt_lt, ti_add, ti_sub, ti_mul, Int32.reduceToInt] at *; omega)) (by first | omega | decide | (simp only [Int32.le_iff_toInt_le, Int32.lt_iff_toInt_lt, ti_add, ti_sub, ti_mul, Int32.reduceToInt] at *; omega)) (by first | omega | decide | (simp only [Int32.le_iff_toInt_le, Int32.lt_iff_toInt_lt, ti_add, ti_sub, ti_mul, Int32.reduceToInt] at *; omega)) (by first | omega | decide | (simp only [Int32.le_iff_toInt_le, Int32.lt_iff_toInt_lt, ti_add, ti_sub, ti_mul, Int32.reduceToInt] at *; omega)) (by first | omega | decide | (simp only [Int32.le_iff_toInt_le, Int32.lt_iff_toInt_lt, ti_add, ti_sub, ti_mul, Int32.reduceToInt] at *; omega)) (fun σ12 eσ12 hOσ12 hT => ?_)
  have hW : WI 158 σ12.1 := WI_c2 (B := 158) (C := 28) eσ12 hV hW
  have hV : WI 28 σ12.1 := WI.tr hOσ12 (by decide) (by decide) (by decide) hV
  refine ok_gR (v := 31) hT rfl (hR 28 5 rfl) ?_
  refine ok_gR (v := 161) hT rfl (hR 158 5 rfl) ?_
  refine ok_cpI hT rfl rfl (by decide) (by first | omega | decide | (simp only [Int32.le_iff_toInt_le, Int32.lt_iff_toInt_lt, ti_add, ti_sub, ti_mul, Int32.reduceToInt] at *; omega)) (by first | omega | decide | (simp only [Int32.le_iff_toInt_le, Int32.lt_iff_toInt_lt, ti_add, ti_sub, ti_mul, Int32.reduceToInt] at *; omega)) (by first | omega | decide | (simp only [Int32.le_iff_toInt_le, Int32.lt_iff_toInt_lt, ti_add, ti_sub, ti_mul, Int32.reduceToInt] at *; omega)) (by first | omega | decide | (simp only [Int32.le_iff_toInt_le, Int32.lt_iff_toInt_lt, ti_add, ti_sub, ti_mul, Int32.reduceToInt] at *; omega)) (by first | omega | decide | (simp only [Int32.le_iff_toInt_le, Int32.lt_iff_toInt_lt, ti_add, ti_sub, ti_mul, Int32.reduceToInt] at *; omega)) (fun σ15 eσ15 hOσ15 hT => ?_)
  have hW : WI 158 σ15.1 := WI.tr hOσ15 (by decide) (by decide) (by decide) hW
  have hV : WI 28 σ15.1 := WI.tr hOσ15 (by decide) (by decide) (by decide) hV
  refine ok_gR (v := 32) hT rfl (hR 28 6 rfl) ?_
  refine ok_gR (v := 162) hT rfl (hR 158 6 rfl) ?_
  refine ok_cpI hT rfl rfl (by decide) (by first | omega | decide | (simp only [Int32.le_iff_toInt_le, Int32.lt_iff_toInt_lt, ti_add, ti_sub, ti_mul, Int32.reduceToInt] at *; omega)) (by first | omega | decide | (simp only [Int32.le_iff_toInt_le, Int32.lt_iff_toInt_lt, ti_add, ti_sub, ti_mul, Int32.reduceToInt] at *; omega)) (by first | omega | decide | (simp only [Int32.le_iff_toInt_le, Int32.lt_iff_toInt_lt, ti_add, ti_sub, ti_mul, Int32.reduceToInt] at *; omega)) (by first | omega | decide | (simp only [Int32.le_iff_toInt_le, Int32.lt_iff_toInt_lt, ti_add, ti_sub, ti_mul, Int32.reduceToInt] at *; omega)) (by first | omega | decide | (simp only [Int32.le_iff_toInt_le, Int32.lt_iff_toInt_lt, ti_add, ti_sub, ti_mul, Int32.reduceToInt] at *; omega)) (fun σ18 eσ18 hOσ18 hT => ?_)
  have hW : WI 158 σ18.1 := WI.tr hOσ18 (by decide) (by decide) (by decide) hW
  have hV : WI 28 σ18.1 := WI.tr hOσ18 (by decide) (by decide) (by decide) hV
  refine ok_lp (fun t : Int32 × zS => Tr [158, 159, 160, 161, 162] σ0 (t.2) ∧ (0 ≤ (t.1).toInt) ∧ (WI 158 (t.2).1) ∧ (WI 28 (t.2).1)) (fun t : Int32 × zS => ((10 : Int32).toInt - (t.1).toInt).toNat) (fun again19 t hI ih86_19 => ?_) N _ (show Tr [158, 159, 160, 161, 162] σ0 σ18 ∧ (0 ≤ (0 : Int32).toInt) ∧ (WI 158 σ18.1) ∧ (WI 28 σ18.1) from ⟨hT, (by first | omega | decide | (simp only [Int32.le_iff_toInt_le, Int32.lt_iff_toInt_lt, ti_add, ti_sub, ti_mul, Int32.reduceToInt] at *; omega)), hW, hV⟩) (show ((10 : Int32).toInt - (0 : Int32).toInt).toNat < N from (by first | omega | decide | (simp only [Int32.le_iff_toInt_le, Int32.lt_iff_toInt_lt, ti_add, ti_sub, ti_mul, Int32.reduceToInt] at *; omega)))
  obtain ⟨x2_19, σ19⟩ := t
  have hI : Tr [158, 159, 160, 161, 162] σ0 σ19 ∧ (0 ≤ x2_19.toInt) ∧ (WI 158 σ19.1) ∧ (WI 28 σ19.1) := hI
  obtain ⟨hT, hI19, hW, hV⟩ := hI
  rw [F_X10_copyFrom_86.eq_1]
  refine ok_if (fun hc20 => ?_) (fun hc20 => ?_)
  · exact ok_some ⟨hT, (show WI 158 σ19.1 from by exact hW)⟩
  · refine ok_gR (v := 163) hT rfl (hR 158 7 rfl) ?_
    obtain ⟨q23, eq23, kq23⟩ := arrF hR (k := 163) (i := x2_19) rfl (by first | omega | decide | (simp only [Int32.le_iff_toInt_le, Int32.lt_iff_toInt_lt, ti_add, ti_sub, ti_mul, Int32.reduceToInt] at *; omega)) (by first | omega | decide | (simp only [Int32.le_iff_toInt_le, Int32.lt_iff_toInt_lt, ti_add, ti_sub, ti_mul, Int32.reduceToInt] at *; omega))
    refine ok_aR (v := q23) hT rfl (by first | omega | decide | (simp only [Int32.le_iff_toInt_le, Int32.lt_iff_toInt_lt, ti_add, ti_sub, ti_mul, Int32.reduceToInt] at *; omega)) (by first | omega | decide | (simp only [Int32.le_iff_toInt_le, Int32.lt_iff_toInt_lt, ti_add, ti_sub, ti_mul, Int32.reduceToInt] at *; omega)) eq23 ?_
    refine ok_gR (v := 33) hT rfl (hR 28 7 rfl) ?_
    obtain ⟨q26, eq26, kq26⟩ := arrF hR (k := 33) (i := x2_19) rfl (by first | omega | decide | (simp only [Int32.le_iff_toInt_le, Int32.lt_iff_toInt_lt, ti_add, ti_sub, ti_mul, Int32.reduceToInt] at *; omega)) (by first | omega | decide | (simp only [Int32.le_iff_toInt_le, Int32.lt_iff_toInt_lt, ti_add, ti_sub, ti_mul, Int32.reduceToInt] at *; omega))
    refine ok_aR (v := q26) hT rfl (by first | omega | decide | (simp only [Int32.le_iff_toInt_le, Int32.lt_iff_toInt_lt, ti_add, ti_sub, ti_mul, Int32.reduceToInt] at *; omega)) (by first | omega | decide | (simp only [Int32.le_iff_toInt_le, Int32.lt_iff_toInt_lt, ti_add, ti_sub, ti_mul, Int32.reduceToInt] at *; omega)) eq26 ?_
    refine ok_gC kq23 ?_
    refine ok_zbT (Q := fun V σ => True) hT (s_X2_copyFrom hN (hR.tr hT) kq23 kq26) (fun _ h9 => absurd h9 List.not_mem_nil) (fun v27 σ28 hOσ28 hT hqv27 => ?_)
    have hW : WI 158 σ28.1 := WI.tr hOσ28 (by decide) (by decide) (by decide) hW
    have hV : WI 28 σ28.1 := WI.tr hOσ28 (by decide) (by decide) (by decide) hV
    exact ih86_19 (x2_19 + 1, σ28) (show Tr [158, 159, 160, 161, 162] σ0 σ28 ∧ (0 ≤ (x2_19 + 1).toInt) ∧ (WI 158 σ28.1) ∧ (WI 28 σ28.1) from ⟨hT, (by first | omega | decide | (simp only [Int32.le_iff_toInt_le, Int32.lt_iff_toInt_lt, ti_add, ti_sub, ti_mul, Int32.reduceToInt] at *; omega)), hW, hV⟩) (show ((10 : Int32).toInt - (x2_19 + 1).toInt).toNat < ((10 : Int32).toInt - x2_19.toInt).toNat from (by first | omega | decide | (simp only [Int32.le_iff_toInt_le, Int32.lt_iff_toInt_lt, ti_add, ti_sub, ti_mul, Int32.reduceToInt] at *; omega)))

set_option maxHeartbeats 4000000 in
set_option maxRecDepth 100000 in
theorem s_X10_copyFrom_28_184 {N : Nat} (hN : 1048576 ≤ N)  {σ0 : zS}  (hR : RF σ0.2.2) (hW : WI 28 σ0.1) (hV : WI 184 σ0.1) : Ok (f_X10_copyFrom N 28 184 σ0) (fun r => Tr [28, 29, 30, 31, 32] σ0 r.2 ∧ (WI 28 r.2.1)) := by
  have hT : Tr [28, 29, 30, 31, 32] σ0 σ0 := Tr.rf
  rw [f_X10_copyFrom.eq_1]
  refine ok_gIv rfl rfl ?_
  refine ok_pI hT rfl (by decide) (fun σ2 eσ2 hOσ2 hT => ?_)
  have hW : WI 28 σ2.1 := WI_p0 eσ2 (hV).1 hW
  have hV : WI 184 σ2.1 := WI.tr hOσ2 (by decide) (by decide) (by decide) hV
  refine ok_gIv rfl rfl ?_
  refine ok_pI hT rfl (by decide) (fun σ4 eσ4 hOσ4 hT => ?_)
  have hW : WI 28 σ4.1 := WI_p1 eσ4 hW
  have hV : WI 184 σ4.1 := WI.tr hOσ4 (by decide) (by decide) (by decide) hV
  refine ok_gIv rfl rfl ?_
  refine ok_pI hT rfl (by decide) (fun σ6 eσ6 hOσ6 hT => ?_)
  have hW : WI 28 σ6.1 := WI_p2 eσ6 (hV).2.1 hW
  have hV : WI 184 σ6.1 := WI.tr hOσ6 (by decide) (by decide) (by decide) hV
  refine ok_gR (v := 185) hT rfl (hR 184 3 rfl) ?_
  refine ok_gR (v := 29) hT rfl (hR 28 3 rfl) ?_
  refine ok_cpI hT rfl rfl (by decide) (by first | omega | decide | (simp only [Int32.le_iff_toInt_le, Int32.lt_iff_toInt_lt, ti_add, ti_sub, ti_mul, Int32.reduceToInt] at *; omega)) (by first | omega | decide | (simp only [Int32.le_iff_toInt_le, Int32.lt_iff_toInt_lt, ti_add, ti_sub, ti_mul, Int32.reduceToInt] at *; omega)) (by first | omega | decide | (simp only [Int32.le_iff_toInt_le, Int32.lt_iff_toInt_lt, ti_add, ti_sub, ti_mul, Int32.reduceToInt] at *; omega)) (by first | omega | decide | (simp only [Int32.le_iff_toInt_le, Int32.lt_iff_toInt_lt, ti_add, ti_sub, ti_mul, Int32.reduceToInt] at *; omega)) (by first | omega | decide | (simp only [Int32.le_iff_toInt_le, Int32.lt_iff_toInt_lt, ti_add, ti_sub, ti_mul, Int32.reduceToInt] at *; omega)) (fun σ9 eσ9 hOσ9 hT => ?_)
  have hW : WI 28 σ9.1 := WI_c1 (B := 28) (C := 184) eσ9 hV hW
  have hV : WI 184 σ9.1 := WI.tr hOσ9 (by decide) (by decide) (by decide) hV
  refine ok_gR (v := 186) hT rfl (hR 184 4 rfl) ?_
  refine ok_gR (v := 30) hT rfl (hR 28 4 rfl) ?_
  refine ok_cpI hT rfl rfl (by decide) (by first | omega | decide | (simp only [Int32.le_iff_toInt_le, Int32.lt_iff_toInt_lt, ti_add, ti_sub, ti_mul, Int32.reduceToInt] at *; omega)) (by first | omega | decide | (simp only [Int32.le_iff_toInt_le, Int32.lt_iff_toInt_lt, ti_add, ti_sub, ti_mul, Int32.reduceToInt] at *; omega)) (by first | omega | decide | (simp only [Int32.le_iff_toInt_le, Int32.lt_iff_toInt_lt, ti_add, ti_sub, ti_mul, Int32.reduceToInt] at *; omega)) (by first | omega | decide | (simp only [Int32.le_iff_toInt_le, Int32.lt_iff_toInt_lt, ti_add, ti_sub, ti_mul, Int32.reduceToInt] at *; omega)) (by first | omega | decide | (simp only [Int32.le_iff_toInt_le, Int32.lt_iff_toInt_lt, ti_add, ti_sub, ti_mul, Int32.reduceToInt] at *; omega)) (fun σ12 eσ12 hOσ12 hT => ?_)
  have hW : WI 28 σ12.1 := WI_c2 (B := 28) (C := 184) eσ12 hV hW
  have hV : WI 184 σ12.1 := WI.tr hOσ12 (by decide) (by decide) (by decide) hV
  refine ok_gR (v := 187) hT rfl (hR 184 5 rfl) ?_
  refine ok_gR (v := 31) hT rfl (hR 28 5 rfl) ?_
  refine ok_cpI hT rfl rfl (by decide) (by first | omega | decide | (simp only [Int32.le_iff_toInt_le, Int32.lt_iff_toInt_lt, ti_add, ti_sub, ti_mul, Int32.reduceToInt] at *; omega)) (by first | omega | decide | (simp only [Int32.le_iff_toInt_le, Int32.lt_iff_toInt_lt, ti_add, ti_sub, ti_mul, Int32.reduceToInt] at *; omega)) (by first | omega | decide | (simp only [Int32.le_iff_toInt_le, Int32.lt_iff_toInt_lt, ti_add, ti_sub, ti_mul, Int32.reduceToInt] at *; omega)) (by first | omega | decide | (simp only [Int32.le_iff_toInt_le, Int32.lt_iff_toInt_lt, ti_add, ti_sub, ti_mul, Int32.reduceToInt] at *; omega)) (by first | omega | decide | (simp only [Int32.le_iff_toInt_le, Int32.lt_iff_toInt_lt, ti_add, ti_sub, ti_mul, Int32.reduceToInt] at *; omega)) (fun σ15 eσ15 hOσ15 hT => ?_)
  have hW : WI 28 σ15.1 := WI.tr hOσ15 (by decide) (by decide) (by decide) hW
  have hV : WI 184 σ15.1 := WI.tr hOσ15 (by decide) (by decide) (by decide) hV
  refine ok_gR (v := 188) hT rfl (hR 184 6 rfl) ?_
  refine ok_gR (v := 32) hT rfl (hR 28 6 rfl) ?_
  refine ok_cpI hT rfl rfl (by decide) (by first | omega | decide | (simp only [Int32.le_iff_toInt_le, Int32.lt_iff_toInt_lt, ti_add, ti_sub, ti_mul, Int32.reduceToInt] at *; omega)) (by first | omega | decide | (simp only [Int32.le_iff_toInt_le, Int32.lt_iff_toInt_lt, ti_add, ti_sub, ti_mul, Int32.reduceToInt] at *; omega)) (by first | omega | decide | (simp only [Int32.le_iff_toInt_le, Int32.lt_iff_toInt_lt, ti_add, ti_sub, ti_mul, Int32.reduceToInt] at *; omega)) (by first | omega | decide | (simp only [Int32.le_iff_toInt_le, Int32.lt_iff_toInt_lt, ti_add, ti_sub, ti_mul, Int32.reduceToInt] at *; omega)) (by first | omega | decide | (simp only [Int32.le_iff_toInt_le, Int32.lt_iff_toInt_lt, ti_add, ti_sub, ti_mul, Int32.reduceToInt] at *; omega)) (fun σ18 eσ18 hOσ18 hT => ?_)
  have hW : WI 28 σ18.1 := WI.tr hOσ18 (by decide) (by decide) (by decide) hW
  have hV : WI 184 σ18.1 := WI.tr hOσ18 (by decide) (by decide) (by decide) hV
  refine ok_lp (fun t : Int32 × zS => Tr [28, 29, 30, 31, 32] σ0 (t.2) ∧ (0 ≤ (t.1).toInt) ∧ (WI 28 (t.2).1) ∧ (WI 184 (t.2).1)) (fun t : Int32 × zS => ((10 : Int32).toInt - (t.1).toInt).toNat) (fun again19 t hI ih86_19 => ?_) N _ (show Tr [28, 29, 30, 31, 32] σ0 σ18 ∧ (0 ≤ (0 : Int32).toInt) ∧ (WI 28 σ18.1) ∧ (WI 184 σ18.1) from ⟨hT, (by first | omega | decide | (simp only [Int32.le_iff_toInt_le, Int32.lt_iff_toInt_lt, ti_add, ti_sub, ti_mul, Int32.reduceToInt] at *; omega)), hW, hV⟩) (show ((10 : Int32).toInt - (0 : Int32).toInt).toNat < N from (by first | omega | decide | (simp only [Int32.le_iff_toInt_le, Int32.lt_iff_toInt_lt, ti_add, ti_sub, ti_mul, Int32.reduceToInt] at *; omega)))
  obtain ⟨x2_19, σ19⟩ := t
  have hI : Tr [28, 29, 30, 31, 32] σ0 σ19 ∧ (0 ≤ x2_19.toInt) ∧ (WI 28 σ19.1) ∧ (WI 184 σ19.1) := hI
  obtain ⟨hT, hI19, hW, hV⟩ := hI
  rw [F_X10_copyFrom_86.eq_1]
  refine ok_if (fun hc20 => ?_) (fun hc20 => ?_)
  · exact ok_some ⟨hT, (show WI 28 σ19.1 from by exact hW)⟩
  · refine ok_gR (v := 33) hT rfl (hR 28 7 rfl) ?_
    obtain ⟨q23, eq23, kq23⟩ := arrF hR (k := 33) (i := x2_19) rfl (by first | omega | decide | (simp only [Int32.le_iff_toInt_le, Int32.lt_iff_toInt_lt, ti_add, ti_sub, ti_mul, Int32.reduceToInt] at *; omega)) (by first | omega | decide | (simp only [Int32.le_iff_toInt_le, Int32.lt_iff_toInt_lt, ti_add, ti_sub, ti_mul, Int32.reduceToInt] at *; omega))
    refine ok_aR (v := q23) hT rfl (by first | omega | decide | (simp only [Int32.le_iff_toInt_le, Int32.lt_iff_toInt_lt, ti_add, ti_sub, ti_mul, Int32.reduceToInt] at *; omega)) (by first | omega | decide | (simp only [Int32.le_iff_toInt_le, Int32.lt_iff_toInt_lt, ti_add, ti_sub, ti_mul, Int32.reduceToInt] at *; omega)) eq23 ?_
    refine ok_gR (v := 189) hT rfl (hR 184 7 rfl) ?_
    obtain ⟨q26, eq26, kq26⟩ := arrF hR (k := 189) (i := x2_19) rfl (by first | omega | decide | (simp only [Int32.le_iff_toInt_le, Int32.lt_iff_toInt_lt, ti_add, ti_sub, ti_mul, Int32.reduceToInt] at *; omega)) (by first | omega | decide | (simp only [Int32.le_iff_toInt_le, Int32.lt_iff_toInt_lt, ti_add, ti_sub, ti_mul, Int32.reduceToInt] at *; omega))
    refine ok_aR (v := q26) hT rfl (by first | omega | decide | (simp only [Int32.le_iff_toInt_le, Int32.lt_iff_toInt_lt, ti_add, ti_sub, ti_mul, Int32.reduceToInt] at *; omega)) (by first | omega | decide | (simp only [Int32.le_iff_toInt_le, Int32.lt_iff_toInt_lt, ti_add, ti_sub, ti_mul, Int32.reduceToInt] at *; omega)) eq26 ?_
    refine ok_gC kq23 ?_
    refine ok_zbT (Q := fun V σ => True) hT (s_X2_copyFrom hN (hR.tr hT) kq23 kq26) (fun _ h9 => absurd h9 List.not_mem_nil) (fun v27 σ28 hOσ28 hT hqv27 => ?_)
    have hW : WI 28 σ28.1 := WI.tr hOσ28 (by decide) (by decide) (by decide) hW
    have hV : WI 184 σ28.1 := WI.tr hOσ28 (by decide) (by decide) (by decide) hV
    exact ih86_19 (x2_19 + 1, σ28) (show Tr [28, 29, 30, 31, 32] σ0 σ28 ∧ (0 ≤ (x2_19 + 1).toInt) ∧ (WI 28 σ28.1) ∧ (WI 184 σ28.1) from ⟨hT, (by first | omega | decide | (simp only [Int32.le_iff_toInt_le, Int32.lt_iff_toInt_lt, ti_add, ti_sub, ti_mul, Int32.reduceToInt] at *; omega)), hW, hV⟩) (show ((10 : Int32).toInt - (x2_19 + 1).toInt).toNat < ((10 : Int32).toInt - x2_19.toInt).toNat from (by first | omega | decide | (simp only [Int32.le_iff_toInt_le, Int32.lt_iff_toInt_lt, ti_add, ti_sub, ti_mul, Int32.reduceToInt] at *; omega)))

set_option maxHeartbeats 4000000 in
set_option maxRecDepth 100000 in
theorem s_X10_copyFrom_184_28 {N : Nat} (hN : 1048576 ≤ N)  {σ0 : zS}  (hR : RF σ0.2.2) (hW : WI 184 σ0.1) (hV : WI 28 σ0.1) : Ok (f_X10_copyFrom N 184 28 σ0) (fun r => Tr [184, 185, 186, 187, 188] σ0 r.2 ∧ (WI 184 r.2.1)) := by
  have hT : Tr [184, 185, 186, 187, 188] σ0 σ0 := Tr.rf
  rw [f_X10_copyFrom.eq_1]
  refine ok_gIv rfl rfl ?_
  refine ok_pI hT rfl (by decide) (fun σ2 eσ2 hOσ2 hT => ?_)
  have hW : WI 184 σ2.1 := WI_p0 eσ2 (hV).1 hW
  have hV : WI 28 σ2.1 := WI.tr hOσ2 (by decide) (by decide) (by decide) hV
  refine ok_gIv rfl rfl ?_
  refine ok_pI hT rfl (by decide) (fun σ4 eσ4 hOσ4 hT => ?_)
  have hW : WI 184 σ4.1 := WI_p1 eσ4 hW
  have hV : WI 28 σ4.1 := WI.tr hOσ4 (by decide) (by decide) (by decide) hV
  refine ok_gIv rfl rfl ?_
  refine ok_pI hT rfl (by decide) (fun σ6 eσ6 hOσ6 hT => ?_)
  have hW : WI 184 σ6.1 := WI_p2 eσ6 (hV).2.1 hW
  have hV : WI 28 σ6.1 := WI.tr hOσ6 (by decide) (by decide) (by decide) hV
  refine ok_gR (v := 29) hT rfl (hR 28 3 rfl) ?_
  refine ok_gR (v := 185) hT rfl (hR 184 3 rfl) ?_
  refine ok_cpI hT rfl rfl (by decide) (by first | omega | decide | (simp only [Int32.le_iff_toInt_le, Int32.lt_iff_toInt_lt, ti_add, ti_sub, ti_mul, Int32.reduceToInt] at *; omega)) (by first | omega | decide | (simp only [Int32.le_iff_toInt_le, Int32.lt_iff_toInt_lt, ti_add, ti_sub, ti_mul, Int32.reduceToInt] at *; omega)) (by first | omega | decide | (simp only [Int32.le_iff_toInt_le, Int32.lt_iff_toInt_lt, ti_add, ti_sub, ti_mul, Int32.reduceToInt] at *; omega)) (by first | omega | decide | (simp only [Int32.le_iff_toInt_le, Int32.lt_iff_toInt_lt, ti_add, ti_sub, ti_mul, Int32.reduceToInt] at *; omega)) (by first | omega | decide | (simp only [Int32.le_iff_toInt_le, Int32.lt_iff_toInt_lt, ti_add, ti_sub, ti_mul, Int32.reduceToInt] at *; omega)) (fun σ9 eσ9 hOσ9 hT => ?_)
  have hW : WI 184 σ9.1 := WI_c1 (B := 184) (C := 28) eσ9 hV hW
  have hV : WI 28 σ9.1 := WI.tr hOσ9 (by decide) (by decide) (by decide) hV
  refine ok_gR (v := 30) hT rfl (hR 28 4 rfl) ?_
  refine ok_gR (v := 186) hT rfl (hR 184 4 rfl) ?_
  refine ok_cpI hT rfl rfl (by decide) (by first | omega | decide | (simp only [Int32.le_iff_toInt_le, Int32.lt_iff_toInt_lt, ti_add, ti_sub, ti_mul, Int32.reduceToInt] at *; omega)) (by first | omega | decide | (simp only [Int32.le_iff_toInt_le, Int32.lt_iff_toInt_lt, ti_add, ti_sub, ti_mul, Int32.reduceToInt] at *; omega)) (by first | omega | decide | (simp only [Int32.le_iff_toInt_le, Int32.lt_iff_toInt_lt, ti_add, ti_sub, ti_mul, Int32.reduceToInt] at *; omega)) (by first | omega | decide | (simp only [Int32.le_iff_toInt_le, Int32.lt_iff_toInt_lt, ti_add, ti_sub, ti_mul, Int32.reduceToInt] at *; omega)) (by first | omega | decide | (simp only [Int32.le_iff_toInt_le, Int32.lt_iff_toInt_lt, ti_add, ti_sub, ti_mul, Int32.reduceToInt] at *; omega)) (fun σ12 eσ12 hOσ12 hT => ?_)
  have hW : WI 184 σ12.1 := WI_c2 (B := 184) (C := 28) eσ12 hV hW
  have hV : WI 28 σ12.1 := WI.tr hOσ12 (by decide) (by decide) (by decide) hV
  refine ok_gR (v := 31) hT rfl (hR 28 5 rfl) ?_
  refine ok_gR (v := 187) hT rfl (hR 184 5 rfl) ?_
  refine ok_cpI hT rfl rfl (by decide) (by first | omega | decide | (simp only [Int32.le_iff_toInt_le, Int32.lt_iff_toInt_lt, ti_add, ti_sub, ti_mul, Int32.reduceToInt] at *; omega)) (by first | omega | decide | (simp only [Int32.le_iff_toInt_le, Int32.lt_iff_toInt_lt, ti_add, ti_sub, ti_mul, Int32.reduceToInt] at *; omega)) (by first | omega | decide | (simp only [Int32.le_iff_toInt_le, Int32.lt_iff_toInt_lt, ti_add, ti_sub, ti_mul, Int32.reduceToInt] at *; omega)) (by first | omega | decide | (simp only [Int32.le_iff_toInt_le, Int32.lt_iff_toInt_lt, ti_add, ti_sub, ti_mul, Int32.reduceToInt] at *; omega)) (by first | omega | decide | (simp only [Int32.le_iff_toInt_le, Int32.lt_iff_toInt_lt, ti_add, ti_sub, ti_mul, Int32.reduceToInt] at *; omega)) (fun σ15 eσ15 hOσ15 hT => ?_)
  have hW : WI 184 σ15.1 := WI.tr hOσ15 (by decide) (by decide) (by decide) hW
  have hV : WI 28 σ15.1 := WI.tr hOσ15 (by decide) (by decide) (by decide) hV
  refine ok_gR (v := 32) hT rfl (hR 28 6 rfl) ?_
  refine ok_gR (v := 188) hT rfl (hR 184 6 rfl) ?_
  refine ok_cpI hT rfl rfl (by decide) (by first | omega | decide | (simp only [Int32.le_iff_toInt_le, Int32.lt_iff_toInt_lt, ti_add, ti_sub, ti_mul, Int32.reduceToInt] at *; omega)) (by first | omega | decide | (simp only [Int32.le_iff_toInt_le, Int32.lt_iff_toInt_lt, ti_add, ti_sub, ti_mul, Int32.reduceToInt] at *; omega)) (by first | omega | decide | (simp only [Int32.le_iff_toInt_le, Int32.lt_iff_toInt_lt, ti_add, ti_sub, ti_mul, Int32.reduceToInt] at *; omega)) (by first | omega | decide | (simp only [Int32.le_iff_toInt_le, Int32.lt_iff_toInt_lt, ti_add, ti_sub, ti_mul, Int32.reduceToInt] at *; omega)) (by first | omega | decide | (simp only [Int32.le_iff_toInt_le, Int32.lt_iff_toInt_lt, ti_add, ti_sub, ti_mul, Int32.reduceToInt] at *; omega)) (fun σ18 eσ18 hOσ18 hT => ?_)
  have hW : WI 184 σ18.1 := WI.tr hOσ18 (by decide) (by decide) (by decide) hW
  have hV : WI 28 σ18.1 := WI.tr hOσ18 (by decide) (by decide) (by decide) hV
  refine ok_lp (fun t : Int32 × zS => Tr [184, 185, 186, 187, 188] σ0 (t.2) ∧ (0 ≤ (t.1).toInt) ∧ (WI 184 (t.2).1) ∧ (WI 28 (t.2).1)) (fun t : Int32 × zS => ((10 : Int32).toInt - (t.1).toInt).toNat) (fun again19 t hI ih86_19 => ?_) N _ (show Tr [184, 185, 186, 187, 188] σ0 σ18 ∧ (0 ≤ (0 : Int32).toInt) ∧ (WI 184 σ18.1) ∧ (WI 28 σ18.1) from ⟨hT, (by first | omega | decide | (simp only [Int32.le_iff_toInt_le, Int32.lt_iff_toInt_lt, ti_add, ti_sub, ti_mul, Int32.reduceToInt] at *; omega)), hW, hV⟩) (show ((10 : Int32).toInt - (0 : Int32).toInt).toNat < N from (by first | omega | decide | (simp only [Int32.le_iff_toInt_le, Int32.lt_iff_toInt_lt, ti_add, ti_sub, ti_mul, Int32.reduceToInt] at *; omega)))
  obtain ⟨x2_19, σ19⟩ := t
  have hI : Tr [184, 185, 186, 187, 188] σ0 σ19 ∧ (0 ≤ x2_19.toInt) ∧ (WI 184 σ19.1) ∧ (WI 28 σ19.1) := hI
  obtain ⟨hT, hI19, hW, hV⟩ := hI
  rw [F_X10_copyFrom_86.eq_1]
  refine ok_if (fun hc20 => ?_) (fun hc20 => ?_)
  · exact ok_some ⟨hT, (show WI 184 σ19.1 from by exact hW)⟩
  · refine ok_gR (v := 189) hT rfl (hR 184 7 rfl) ?_
    obtain ⟨q23, eq23, kq23⟩ := arrF hR (k := 189) (i := x2_19) rfl (by first | omega | decide | (simp only [Int32.le_iff_toInt_le, Int32.lt_iff_toInt_lt, ti_add, ti_sub, ti_mul, Int32.reduceToInt] at *; omega)) (by first | omega | decide | (simp only [Int32.le_iff_toInt_le, Int32.lt_iff_toInt_lt, ti_add, ti_sub, ti_mul, Int32.reduceToInt] at *; omega))
    refine ok_aR (v := q23) hT rfl (by first | omega | decide | (simp only [Int32.le_iff_toInt_le, Int32.lt_iff_toInt_lt, ti_add, ti_sub, ti_mul, Int32.reduceToInt] at *; omega)) (by first | omega | decide | (simp only [Int32.le_iff_toInt_le, Int32.lt_iff_toInt_lt, ti_add, ti_sub, ti_mul, Int32.reduceToInt] at *; omega)) eq23 ?_
    refine ok_gR (v := 33) hT rfl (hR 28 7 rfl) ?_
    obtain ⟨q26, eq26, kq26⟩ := arrF hR (k := 33) (i := x2_19) rfl (by first | omega | decide | (simp only [Int32.le_iff_toInt_le, Int32.lt_iff_toInt_lt, ti_add, ti_sub, ti_mul, Int32.reduceToInt] at *; omega)) (by first | omega | decide | (simp only [Int32.le_iff_toInt_le, Int32.lt_iff_toInt_lt, ti_add, ti_sub, ti_mul, Int32.reduceToInt] at *; omega))
    refine ok_aR (v := q26) hT rfl (by first | omega | decide | (simp only [Int32.le_iff_toInt_le, Int32.lt_iff_toInt_lt, ti_add, ti_sub, ti_mul, Int32.reduceToInt] at *; omega)) (by first | omega | decide | (simp only [Int32.le_iff_toInt_le, Int32.lt_iff_toInt_lt, ti_add, ti_sub, ti_mul, Int32.reduceToInt] at *; omega)) eq26 ?_
    refine ok_gC kq23 ?_
    refine ok_zbT (Q := fun V σ => True) hT (s_X2_copyFrom hN (hR.tr hT) kq23 kq26) (fun _ h9 => absurd h9 List.not_mem_nil) (fun v27 σ28 hOσ28 hT hqv27 => ?_)
    have hW : WI 184 σ28.1 := WI.tr hOσ28 (by decide) (by decide) (by decide) hW
    have hV : WI 28 σ28.1 := WI.tr hOσ28 (by decide) (by decide) (by decide) hV
    exact ih86_19 (x2_19 + 1, σ28) (show Tr [184, 185, 186, 187, 188] σ0 σ28 ∧ (0 ≤ (x2_19 + 1).toInt) ∧ (WI 184 σ28.1) ∧ (WI 28 σ28.1) from ⟨hT, (by first | omega | decide | (simp only [Int32.le_iff_toInt_le, Int32.lt_iff_toInt_lt, ti_add, ti_sub, ti_mul, Int32.reduceToInt] at *; omega)), hW, hV⟩) (show ((10 : Int32).toInt - (x2_19 + 1).toInt).toNat < ((10 : Int32).toInt - x2_19.toInt).toNat from (by first | omega | decide | (simp only [Int32.le_iff_toInt_le, Int32.lt_iff_toInt_lt, ti_add, ti_sub, ti_mul, Int32.reduceToInt] at *; omega)))

set_option maxHeartbeats 4000000 in
set_option maxRecDepth 100000 in
theorem s_X12_wideOf {N : Nat} (hN : 1048576 ≤ N) {x1 : Int32} {x2 : Int32} {σ0 : zS}  (hR : RF σ0.2.2) (hM : MW (σ0.1 219) 0) (hB : ZB σ0.1) (hp : 0 ≤ x1.toInt ∧ x1.toInt ≤ 9) (hx : 0 ≤ x2.toInt ∧ x2.toInt < (σ0.1 219 0).toInt) : Ok (f_X12_wideOf N 218 x1 x2 σ0) (fun r => Tr [218, 234, 236] σ0 r.2 ∧ (ZB r.2.1 ∧ r.2.1 218 7 = σ0.1 218 7)) := by
  have hT : Tr [218, 234, 236] σ0 σ0 := Tr.rf
  have hn := hM.1
  have he : 0 ≤ (σ0.1 219 2).toInt ∧ (σ0.1 219 2).toInt ≤ 10 := hM.2.1
  have qm := mny_b hn.1 hn.2
  have ht : σ0.1 218 7 = σ0.1 218 7 := rfl
  rw [f_X12_wideOf.eq_1]
  refine ok_gC rfl ?_
  refine ok_zbT (Q := fun V σ => ZB σ.1) hT (s_X12_laysOut hN (hR.tr hT) (by first | exact hM | (rw [hT.2 219 (by decide)]; exact hM)) (hB) (by first | omega | decide | (simp only [Int32.le_iff_toInt_le, Int32.lt_iff_toInt_lt, ti_add, ti_sub, ti_mul, Int32.reduceToInt] at *; omega))) (by decide) (fun v1 σ2 hOσ2 hT hqv1 => ?_)
  have hqv1 : ZB σ2.1 := hqv1
  have hB : ZB σ2.1 := by first | exact hqv1 | exact hqv1.1 | exact hqv1.1.1 | exact ZB_s eσ2 hB
  have ht : σ2.1 218 7 = σ0.1 218 7 := by rw [hOσ2.2 218 (by decide)] <;> exact ht
  refine ok_pI hT rfl (by decide) (fun σ3 eσ3 hOσ3 hT => ?_)
  have hz : (σ3.1 218 32).toInt = 0 := by rw [zI_atI eσ3]; rfl
  have hB : ZB σ3.1 := ZB.tr hOσ3 (by decide) hB
  have ht : σ3.1 218 7 = σ0.1 218 7 := by first | (rw [zI_atN eσ3 (by decide)]; exact ht) | exact HQ.2.trans ht | exact HQ.1.2.trans ht
  refine ok_gC rfl ?_
  have hTc := hT
  refine ok_zbT (Q := fun V σ => (ZB σ.1 ∧ σ.1 218 7 = σ3.1 218 7) ∧ 0 ≤ (σ.1 218 32).toInt ∧ ((mny (σ3.1 219 0)) >>> (x2 &&& 31)).toInt * (σ.1 218 32).toInt ≤ ((mny (σ3.1 219 0)) >>> (x2 &&& 31)).toInt * (σ3.1 218 32).toInt + 1024) hT (s_X12_adds hN (hR.tr hT) (by first | exact hM | (rw [hT.2 219 (by decide)]; exact hM)) (hB) (by rw [hT.2 219 (by decide)]; exact hx) (⟨by omega, by rw [hz, Int.mul_zero]; decide⟩)) (by decide) (fun v4 σ5 hOσ5 hT hqv4 => ?_)
  have hqv4 : (ZB σ5.1 ∧ σ5.1 218 7 = σ3.1 218 7) ∧ 0 ≤ (σ5.1 218 32).toInt ∧ ((mny (σ3.1 219 0)) >>> (x2 &&& 31)).toInt * (σ5.1 218 32).toInt ≤ ((mny (σ3.1 219 0)) >>> (x2 &&& 31)).toInt * (σ3.1 218 32).toInt + 1024 := hqv4
  rw [hTc.2 219 (by decide)] at hqv4
  have hB : ZB σ5.1 := by first | exact hqv4 | exact hqv4.1 | exact hqv4.1.1 | exact ZB_s eσ5 hB
  have ht : σ5.1 218 7 = σ0.1 218 7 := by first | (rw [zI_atN eσ5 (by decide)]; exact ht) | exact hqv4.2.trans ht | exact hqv4.1.2.trans ht
  refine ok_gI rfl ?_
  exact ok_some ⟨hT, (show ZB σ5.1 ∧ σ5.1 218 7 = σ0.1 218 7 from by exact ⟨hB, ht⟩)⟩

set_option maxHeartbeats 4000000 in
set_option maxRecDepth 100000 in
theorem s_X12_nodesOf {N : Nat} (hN : 1048576 ≤ N) {x1 : Int32} {σ0 : zS}  (hR : RF σ0.2.2) (hM : MW (σ0.1 219) 0) (hB : ZB σ0.1) (hp : 0 ≤ x1.toInt ∧ x1.toInt ≤ 9) : Ok (f_X12_nodesOf N 218 x1 σ0) (fun r => Tr [218, 234, 236] σ0 r.2 ∧ (ZB r.2.1 ∧ r.2.1 218 7 = σ0.1 218 7)) := by
  have hT : Tr [218, 234, 236] σ0 σ0 := Tr.rf
  have hn := hM.1
  have he : 0 ≤ (σ0.1 219 2).toInt ∧ (σ0.1 219 2).toInt ≤ 10 := hM.2.1
  have qm := mny_b hn.1 hn.2
  have ht : σ0.1 218 7 = σ0.1 218 7 := rfl
  rw [f_X12_nodesOf.eq_1]
  refine ok_lp (fun t : Int32 × Int32 × zS => Tr [218, 234, 236] σ0 (t.2.2) ∧ (0 ≤ (t.2.1).toInt) ∧ (ZB (t.2.2).1) ∧ ((t.2.2).1 218 7 = σ0.1 218 7)) (fun t : Int32 × Int32 × zS => (10 - (t.2.1).toInt).toNat) (fun again1 t hI ih4_1 => ?_) N _ (show Tr [218, 234, 236] σ0 σ0 ∧ (0 ≤ (0 : Int32).toInt) ∧ (ZB σ0.1) ∧ (σ0.1 218 7 = σ0.1 218 7) from ⟨hT, (by first | omega | decide | (simp only [Int32.le_iff_toInt_le, Int32.lt_iff_toInt_lt, ti_add, ti_sub, ti_mul, Int32.reduceToInt] at *; omega)), hB, ht⟩) (show (10 - (0 : Int32).toInt).toNat < N from (by first | omega | decide | (simp only [Int32.le_iff_toInt_le, Int32.lt_iff_toInt_lt, ti_add, ti_sub, ti_mul, Int32.reduceToInt] at *; omega)))
  obtain ⟨x2_1, x3_1, σ1⟩ := t
  have hI : Tr [218, 234, 236] σ0 σ1 ∧ (0 ≤ x3_1.toInt) ∧ (ZB σ1.1) ∧ (σ1.1 218 7 = σ0.1 218 7) := hI
  obtain ⟨hT, hI1, hB, ht⟩ := hI
  rw [F_X12_nodesOf_4.eq_1]
  refine ok_gR (v := 219) hT rfl (hR 218 1 rfl) ?_
  refine ok_aIc (j := 0) hT rfl (by decide) rfl (by decide) (by decide) ?_
  refine ok_if (fun hc4 => ?_) (fun hc4 => ?_)
  · exact ok_some ⟨hT, (show ZB σ1.1 ∧ σ1.1 218 7 = σ0.1 218 7 from by exact ⟨hB, ht⟩)⟩
  · refine ok_gC rfl ?_
    refine ok_zbT (Q := fun V σ => ZB σ.1 ∧ σ.1 218 7 = σ1.1 218 7) hT (s_X12_wideOf hN (hR.tr hT) (by first | exact hM | (rw [hT.2 219 (by decide)]; exact hM)) (hB) (by first | omega | decide | (simp only [Int32.le_iff_toInt_le, Int32.lt_iff_toInt_lt, ti_add, ti_sub, ti_mul, Int32.reduceToInt] at *; omega)) (by first | (rw [hT.2 219 (by decide)]; first | omega | (simp only [Int32.le_iff_toInt_le, Int32.lt_iff_toInt_lt, ti_add, ti_sub, ti_mul, Int32.reduceToInt] at *; omega)) | (first | omega | (simp only [Int32.le_iff_toInt_le, Int32.lt_iff_toInt_lt, ti_add, ti_sub, ti_mul, Int32.reduceToInt] at *; omega)))) (by decide) (fun v5 σ6 hOσ6 hT hqv5 => ?_)
    have hqv5 : ZB σ6.1 ∧ σ6.1 218 7 = σ1.1 218 7 := hqv5
    have hB : ZB σ6.1 := by first | exact hqv5 | exact hqv5.1 | exact hqv5.1.1 | exact ZB_s eσ6 hB
    have ht : σ6.1 218 7 = σ0.1 218 7 := by first | (rw [zI_atN eσ6 (by decide)]; exact ht) | exact hqv5.2.trans ht | exact hqv5.1.2.trans ht
    exact ih4_1 (x2_1 + v5, x3_1 + 1, σ6) (show Tr [218, 234, 236] σ0 σ6 ∧ (0 ≤ (x3_1 + 1).toInt) ∧ (ZB σ6.1) ∧ (σ6.1 218 7 = σ0.1 218 7) from ⟨hT, (by first | omega | decide | (simp only [Int32.le_iff_toInt_le, Int32.lt_iff_toInt_lt, ti_add, ti_sub, ti_mul, Int32.reduceToInt] at *; omega)), hB, ht⟩) (show (10 - (x3_1 + 1).toInt).toNat < (10 - x3_1.toInt).toNat from (by first | omega | decide | (simp only [Int32.le_iff_toInt_le, Int32.lt_iff_toInt_lt, ti_add, ti_sub, ti_mul, Int32.reduceToInt] at *; omega)))

set_option maxHeartbeats 4000000 in
set_option maxRecDepth 100000 in
theorem s_X12_nodes {N : Nat} (hN : 1048576 ≤ N) {x1 : Int32} {σ0 : zS}  (hR : RF σ0.2.2) (hM : MW (σ0.1 219) 0) (hB : ZB σ0.1) : Ok (f_X12_nodes N 218 x1 σ0) (fun r => Tr [218, 234, 235, 236] σ0 r.2 ∧ (ZB r.2.1 ∧ r.2.1 218 7 = σ0.1 218 7)) := by
  have hT : Tr [218, 234, 235, 236] σ0 σ0 := Tr.rf
  have hn := hM.1
  have he : 0 ≤ (σ0.1 219 2).toInt ∧ (σ0.1 219 2).toInt ≤ 10 := hM.2.1
  have qm := mny_b hn.1 hn.2
  have ht : σ0.1 218 7 = σ0.1 218 7 := rfl
  rw [f_X12_nodes.eq_1]
  refine ok_gC rfl ?_
  refine ok_zbT (Q := fun V σ => (V = 0 ∨ V = 1) ∧ (¬ V = 0 → 0 ≤ x1.toInt ∧ x1.toInt ≤ 9)) hT (s_X12_isRegister hN (hR.tr hT) (by first | exact hM | (rw [hT.2 219 (by decide)]; exact hM))) (fun _ h9 => absurd h9 List.not_mem_nil) (fun v1 σ2 hOσ2 hT hqv1 => ?_)
  have hqv1 : (v1 = 0 ∨ v1 = 1) ∧ (¬ v1 = 0 → 0 ≤ x1.toInt ∧ x1.toInt ≤ 9) := hqv1
  have hB : ZB σ2.1 := ZB.tr hOσ2 (by decide) hB
  have ht : σ2.1 218 7 = σ0.1 218 7 := by rw [hOσ2.2 218 (by decide)] <;> exact ht
  refine ok_if (fun hc3 => ?_) (fun hc3 => ?_)
  · exact ok_some ⟨hT, (show ZB σ2.1 ∧ σ2.1 218 7 = σ0.1 218 7 from by exact ⟨hB, ht⟩)⟩
  · have qhc3 := hqv1.2 hc3
    refine ok_gC rfl ?_
    refine ok_zbT (Q := fun V σ => True) hT (s_X12_takesOrder hN (hR.tr hT) (by first | exact hM | (rw [hT.2 219 (by decide)]; exact hM))) (by decide) (fun v4 σ5 hOσ5 hT hqv4 => ?_)
    have hB : ZB σ5.1 := ZB.tr hOσ5 (by decide) hB
    have ht : σ5.1 218 7 = σ0.1 218 7 := by rw [hOσ5.2 218 (by decide)] <;> exact ht
    refine ok_gC rfl ?_
    refine ok_zbT (Q := fun V σ => ZB σ.1 ∧ σ.1 218 7 = σ5.1 218 7) hT (s_X12_nodesOf hN (hR.tr hT) (by first | exact hM | (rw [hT.2 219 (by decide)]; exact hM)) (hB) (by first | omega | decide | (simp only [Int32.le_iff_toInt_le, Int32.lt_iff_toInt_lt, ti_add, ti_sub, ti_mul, Int32.reduceToInt] at *; omega))) (by decide) (fun v6 σ7 hOσ7 hT hqv6 => ?_)
    have hqv6 : ZB σ7.1 ∧ σ7.1 218 7 = σ5.1 218 7 := hqv6
    have hB : ZB σ7.1 := by first | exact hqv6 | exact hqv6.1 | exact hqv6.1.1 | exact ZB_s eσ7 hB
    have ht : σ7.1 218 7 = σ0.1 218 7 := by first | (rw [zI_atN eσ7 (by decide)]; exact ht) | exact hqv6.2.trans ht | exact hqv6.1.2.trans ht
    exact ok_some ⟨hT, (show ZB σ7.1 ∧ σ7.1 218 7 = σ0.1 218 7 from by exact ⟨hB, ht⟩)⟩

set_option maxHeartbeats 4000000 in
set_option maxRecDepth 100000 in
theorem s_X12_netOf {N : Nat} (hN : 1048576 ≤ N)  {σ0 : zS}  (hR : RF σ0.2.2) (hM : MW (σ0.1 219) 0) (hB : ZB σ0.1) : Ok (f_X12_netOf N 218 σ0) (fun r => Tr [218, 234, 235, 236] σ0 r.2 ∧ (ZB r.2.1 ∧ r.2.1 218 7 = σ0.1 218 7)) := by
  have hT : Tr [218, 234, 235, 236] σ0 σ0 := Tr.rf
  have hn := hM.1
  have he : 0 ≤ (σ0.1 219 2).toInt ∧ (σ0.1 219 2).toInt ≤ 10 := hM.2.1
  have qm := mny_b hn.1 hn.2
  have ht : σ0.1 218 7 = σ0.1 218 7 := rfl
  rw [f_X12_netOf.eq_1]
  refine ok_gC rfl ?_
  refine ok_zbT (Q := fun V σ => True) hT (s_X12_takesOrder hN (hR.tr hT) (by first | exact hM | (rw [hT.2 219 (by decide)]; exact hM))) (by decide) (fun v1 σ2 hOσ2 hT hqv1 => ?_)
  have hB : ZB σ2.1 := ZB.tr hOσ2 (by decide) hB
  have ht : σ2.1 218 7 = σ0.1 218 7 := by rw [hOσ2.2 218 (by decide)] <;> exact ht
  refine ok_lp (fun t : Int32 × Int32 × zS => Tr [218, 234, 235, 236] σ0 (t.2.2) ∧ (0 ≤ (t.2.1).toInt) ∧ (ZB (t.2.2).1) ∧ ((t.2.2).1 218 7 = σ0.1 218 7)) (fun t : Int32 × Int32 × zS => (10 - (t.2.1).toInt).toNat) (fun again3 t hI ih8_3 => ?_) N _ (show Tr [218, 234, 235, 236] σ0 σ2 ∧ (0 ≤ (0 : Int32).toInt) ∧ (ZB σ2.1) ∧ (σ2.1 218 7 = σ0.1 218 7) from ⟨hT, (by first | omega | decide | (simp only [Int32.le_iff_toInt_le, Int32.lt_iff_toInt_lt, ti_add, ti_sub, ti_mul, Int32.reduceToInt] at *; omega)), hB, ht⟩) (show (10 - (0 : Int32).toInt).toNat < N from (by first | omega | decide | (simp only [Int32.le_iff_toInt_le, Int32.lt_iff_toInt_lt, ti_add, ti_sub, ti_mul, Int32.reduceToInt] at *; omega)))
  obtain ⟨x1_3, x2_3, σ3⟩ := t
  have hI : Tr [218, 234, 235, 236] σ0 σ3 ∧ (0 ≤ x2_3.toInt) ∧ (ZB σ3.1) ∧ (σ3.1 218 7 = σ0.1 218 7) := hI
  obtain ⟨hT, hI3, hB, ht⟩ := hI
  rw [F_X12_netOf_8.eq_1]
  refine ok_gR (v := 219) hT rfl (hR 218 1 rfl) ?_
  refine ok_aIc (j := 0) hT rfl (by decide) rfl (by decide) (by decide) ?_
  refine ok_if (fun hc6 => ?_) (fun hc6 => ?_)
  · exact ok_some ⟨hT, (show ZB σ3.1 ∧ σ3.1 218 7 = σ0.1 218 7 from by exact ⟨hB, ht⟩)⟩
  · refine ok_pI hT rfl (by decide) (fun σ7 eσ7 hOσ7 hT => ?_)
    have hz : (σ7.1 218 32).toInt = 0 := by rw [zI_atI eσ7]; rfl
    have hB : ZB σ7.1 := ZB.tr hOσ7 (by decide) hB
    have ht : σ7.1 218 7 = σ0.1 218 7 := by first | (rw [zI_atN eσ7 (by decide)]; exact ht) | exact HQ.2.trans ht | exact HQ.1.2.trans ht
    refine ok_lp (fun t : Int32 × zS => Tr [218, 234, 235, 236] σ0 (t.2) ∧ (0 ≤ (t.1).toInt ∧ 0 ≤ ((t.2).1 218 32).toInt ∧ ((mny (σ0.1 219 0)) >>> (x2_3 &&& 31)).toInt * ((t.2).1 218 32).toInt ≤ 1024 * (t.1).toInt) ∧ (ZB (t.2).1) ∧ ((t.2).1 218 7 = σ0.1 218 7)) (fun t : Int32 × zS => (10 - (t.1).toInt).toNat) (fun again8 t hI ih25_8 => ?_) N _ (show Tr [218, 234, 235, 236] σ0 σ7 ∧ (0 ≤ (0 : Int32).toInt ∧ 0 ≤ (σ7.1 218 32).toInt ∧ ((mny (σ0.1 219 0)) >>> (x2_3 &&& 31)).toInt * (σ7.1 218 32).toInt ≤ 1024 * (0 : Int32).toInt) ∧ (ZB σ7.1) ∧ (σ7.1 218 7 = σ0.1 218 7) from ⟨hT, (by exact ⟨by decide, by omega, by rw [hz, Int.mul_zero]; decide⟩), hB, ht⟩) (show (10 - (0 : Int32).toInt).toNat < N from (by first | omega | decide | (simp only [Int32.le_iff_toInt_le, Int32.lt_iff_toInt_lt, ti_add, ti_sub, ti_mul, Int32.reduceToInt] at *; omega)))
    obtain ⟨x3_8, σ8⟩ := t
    have hI : Tr [218, 234, 235, 236] σ0 σ8 ∧ (0 ≤ x3_8.toInt ∧ 0 ≤ (σ8.1 218 32).toInt ∧ ((mny (σ0.1 219 0)) >>> (x2_3 &&& 31)).toInt * (σ8.1 218 32).toInt ≤ 1024 * x3_8.toInt) ∧ (ZB σ8.1) ∧ (σ8.1 218 7 = σ0.1 218 7) := hI
    obtain ⟨hT, hI8, hB, ht⟩ := hI
    rw [F_X12_netOf_25.eq_1]
    have hU := hI8.2
    refine ok_if (fun hc9 => ?_) (fun hc9 => ?_)
    · refine ok_gI rfl ?_
      exact ih8_3 (x1_3 + (σ8.1 218 32), x2_3 + 1, σ8) (show Tr [218, 234, 235, 236] σ0 σ8 ∧ (0 ≤ (x2_3 + 1).toInt) ∧ (ZB σ8.1) ∧ (σ8.1 218 7 = σ0.1 218 7) from ⟨hT, (by first | omega | decide | (simp only [Int32.le_iff_toInt_le, Int32.lt_iff_toInt_lt, ti_add, ti_sub, ti_mul, Int32.reduceToInt] at *; omega)), hB, ht⟩) (show (10 - (x2_3 + 1).toInt).toNat < (10 - x2_3.toInt).toNat from (by first | omega | decide | (simp only [Int32.le_iff_toInt_le, Int32.lt_iff_toInt_lt, ti_add, ti_sub, ti_mul, Int32.reduceToInt] at *; omega)))
    · refine ok_gC rfl ?_
      refine ok_zbT (Q := fun V σ => ZB σ.1) hT (s_X12_laysOut hN (hR.tr hT) (by first | exact hM | (rw [hT.2 219 (by decide)]; exact hM)) (hB) (by first | omega | decide | (simp only [Int32.le_iff_toInt_le, Int32.lt_iff_toInt_lt, ti_add, ti_sub, ti_mul, Int32.reduceToInt] at *; omega))) (by decide) (fun v11 σ12 hOσ12 hT hqv11 => ?_)
      have hqv11 : ZB σ12.1 := hqv11
      have hB : ZB σ12.1 := by first | exact hqv11 | exact hqv11.1 | exact hqv11.1.1 | exact ZB_s eσ12 hB
      have ht : σ12.1 218 7 = σ0.1 218 7 := by rw [hOσ12.2 218 (by decide)] <;> exact ht
      have hU : 0 ≤ (σ12.1 218 32).toInt ∧ ((mny (σ0.1 219 0)) >>> (x2_3 &&& 31)).toInt * (σ12.1 218 32).toInt ≤ 1024 * x3_8.toInt := by rw [hOσ12.2 218 (by decide)]; exact hU
      refine ok_gC rfl ?_
      have hTc := hT
      refine ok_zbT (Q := fun V σ => (ZB σ.1 ∧ σ.1 218 7 = σ12.1 218 7) ∧ 0 ≤ (σ.1 218 32).toInt ∧ ((mny (σ12.1 219 0)) >>> (x2_3 &&& 31)).toInt * (σ.1 218 32).toInt ≤ ((mny (σ12.1 219 0)) >>> (x2_3 &&& 31)).toInt * (σ12.1 218 32).toInt + 1024) hT (s_X12_adds hN (hR.tr hT) (by first | exact hM | (rw [hT.2 219 (by decide)]; exact hM)) (hB) (by first | (rw [hT.2 219 (by decide)]; first | omega | (simp only [Int32.le_iff_toInt_le, Int32.lt_iff_toInt_lt, ti_add, ti_sub, ti_mul, Int32.reduceToInt] at *; omega)) | (first | omega | (simp only [Int32.le_iff_toInt_le, Int32.lt_iff_toInt_lt, ti_add, ti_sub, ti_mul, Int32.reduceToInt] at *; omega))) (by rw [hT.2 219 (by decide)]; exact ⟨hU.1, by first | omega | (simp only [Int32.le_iff_toInt_le, Int32.lt_iff_toInt_lt, ti_add, ti_sub, ti_mul, Int32.reduceToInt] at *; omega)⟩)) (by decide) (fun v13 σ14 hOσ14 hT hqv13 => ?_)
      have hqv13 : (ZB σ14.1 ∧ σ14.1 218 7 = σ12.1 218 7) ∧ 0 ≤ (σ14.1 218 32).toInt ∧ ((mny (σ12.1 219 0)) >>> (x2_3 &&& 31)).toInt * (σ14.1 218 32).toInt ≤ ((mny (σ12.1 219 0)) >>> (x2_3 &&& 31)).toInt * (σ12.1 218 32).toInt + 1024 := hqv13
      rw [hTc.2 219 (by decide)] at hqv13
      have hB : ZB σ14.1 := by first | exact hqv13 | exact hqv13.1 | exact hqv13.1.1 | exact ZB_s eσ14 hB
      have ht : σ14.1 218 7 = σ0.1 218 7 := by first | (rw [zI_atN eσ14 (by decide)]; exact ht) | exact hqv13.2.trans ht | exact hqv13.1.2.trans ht
      have hU : 0 ≤ (σ14.1 218 32).toInt ∧ ((mny (σ0.1 219 0)) >>> (x2_3 &&& 31)).toInt * (σ14.1 218 32).toInt ≤ 1024 * (x3_8.toInt + 1) := ⟨hqv13.2.1, by have q := hqv13.2.2; omega⟩
      have e9 : (x3_8 + 1).toInt = x3_8.toInt + 1 := by first | omega | (simp only [Int32.le_iff_toInt_le, Int32.lt_iff_toInt_lt, ti_add, ti_sub, ti_mul, Int32.reduceToInt] at *; omega)
      exact ih25_8 (x3_8 + 1, σ14) (show Tr [218, 234, 235, 236] σ0 σ14 ∧ (0 ≤ (x3_8 + 1).toInt ∧ 0 ≤ (σ14.1 218 32).toInt ∧ ((mny (σ0.1 219 0)) >>> (x2_3 &&& 31)).toInt * (σ14.1 218 32).toInt ≤ 1024 * (x3_8 + 1).toInt) ∧ (ZB σ14.1) ∧ (σ14.1 218 7 = σ0.1 218 7) from ⟨hT, (by exact ⟨by rw [e9]; omega, hU.1, by rw [e9]; exact hU.2⟩), hB, ht⟩) (show (10 - (x3_8 + 1).toInt).toNat < (10 - x3_8.toInt).toNat from (by first | omega | decide | (simp only [Int32.le_iff_toInt_le, Int32.lt_iff_toInt_lt, ti_add, ti_sub, ti_mul, Int32.reduceToInt] at *; omega)))

set_option maxHeartbeats 4000000 in
set_option maxRecDepth 100000 in
theorem s_X12_net {N : Nat} (hN : 1048576 ≤ N)  {σ0 : zS}  (hR : RF σ0.2.2) (hM : MW (σ0.1 219) 0) (hB : ZB σ0.1) : Ok (f_X12_net N 218 σ0) (fun r => Tr [218, 234, 235, 236] σ0 r.2 ∧ (ZB r.2.1 ∧ r.2.1 218 7 = σ0.1 218 7)) := by
  have hT : Tr [218, 234, 235, 236] σ0 σ0 := Tr.rf
  have hn := hM.1
  have he : 0 ≤ (σ0.1 219 2).toInt ∧ (σ0.1 219 2).toInt ≤ 10 := hM.2.1
  have qm := mny_b hn.1 hn.2
  have ht : σ0.1 218 7 = σ0.1 218 7 := rfl
  rw [f_X12_net.eq_1]
  refine ok_gC rfl ?_
  refine ok_zbT (Q := fun V σ => (V = 0 ∨ V = 1) ∧ (¬ V = 0 → 0 < (σ0.1 219 0).toInt) ∧ (V = 0 → (σ0.1 219 0).toInt ≤ 0)) hT (s_X12_isWorld hN (hR.tr hT) (by first | exact hM | (rw [hT.2 219 (by decide)]; exact hM))) (fun _ h9 => absurd h9 List.not_mem_nil) (fun v1 σ2 hOσ2 hT hqv1 => ?_)
  have hqv1 : (v1 = 0 ∨ v1 = 1) ∧ (¬ v1 = 0 → 0 < (σ0.1 219 0).toInt) ∧ (v1 = 0 → (σ0.1 219 0).toInt ≤ 0) := hqv1
  have hB : ZB σ2.1 := ZB.tr hOσ2 (by decide) hB
  have ht : σ2.1 218 7 = σ0.1 218 7 := by rw [hOσ2.2 218 (by decide)] <;> exact ht
  refine ok_if (fun hc3 => ?_) (fun hc3 => ?_)
  · have qhc3 := hqv1.2.2 hc3
    exact ok_some ⟨hT, (show ZB σ2.1 ∧ σ2.1 218 7 = σ0.1 218 7 from by exact ⟨hB, ht⟩)⟩
  · have qhc3 := hqv1.2.1 hc3
    refine ok_gC rfl ?_
    refine ok_zbT (Q := fun V σ => ZB σ.1 ∧ σ.1 218 7 = σ2.1 218 7) hT (s_X12_netOf hN (hR.tr hT) (by first | exact hM | (rw [hT.2 219 (by decide)]; exact hM)) (hB)) (by decide) (fun v4 σ5 hOσ5 hT hqv4 => ?_)
    have hqv4 : ZB σ5.1 ∧ σ5.1 218 7 = σ2.1 218 7 := hqv4
    have hB : ZB σ5.1 := by first | exact hqv4 | exact hqv4.1 | exact hqv4.1.1 | exact ZB_s eσ5 hB
    have ht : σ5.1 218 7 = σ0.1 218 7 := by first | (rw [zI_atN eσ5 (by decide)]; exact ht) | exact hqv4.2.trans ht | exact hqv4.1.2.trans ht
    exact ok_some ⟨hT, (show ZB σ5.1 ∧ σ5.1 218 7 = σ0.1 218 7 from by exact ⟨hB, ht⟩)⟩

set_option maxHeartbeats 4000000 in
set_option maxRecDepth 100000 in
theorem s_X12_wide {N : Nat} (hN : 1048576 ≤ N) {x1 : Int32} {x2 : Int32} {σ0 : zS}  (hR : RF σ0.2.2) (hM : MW (σ0.1 219) 0) (hB : ZB σ0.1) : Ok (f_X12_wide N 218 x1 x2 σ0) (fun r => Tr [218, 234, 235, 236] σ0 r.2 ∧ (ZB r.2.1 ∧ r.2.1 218 7 = σ0.1 218 7)) := by
  have hT : Tr [218, 234, 235, 236] σ0 σ0 := Tr.rf
  have hn := hM.1
  have he : 0 ≤ (σ0.1 219 2).toInt ∧ (σ0.1 219 2).toInt ≤ 10 := hM.2.1
  have qm := mny_b hn.1 hn.2
  have ht : σ0.1 218 7 = σ0.1 218 7 := rfl
  rw [f_X12_wide.eq_1]
  refine ok_gC rfl ?_
  refine ok_zbT (Q := fun V σ => (V = 0 ∨ V = 1) ∧ (¬ V = 0 → 0 ≤ x1.toInt ∧ x1.toInt ≤ 9)) hT (s_X12_isRegister hN (hR.tr hT) (by first | exact hM | (rw [hT.2 219 (by decide)]; exact hM))) (fun _ h9 => absurd h9 List.not_mem_nil) (fun v1 σ2 hOσ2 hT hqv1 => ?_)
  have hqv1 : (v1 = 0 ∨ v1 = 1) ∧ (¬ v1 = 0 → 0 ≤ x1.toInt ∧ x1.toInt ≤ 9) := hqv1
  have hB : ZB σ2.1 := ZB.tr hOσ2 (by decide) hB
  have ht : σ2.1 218 7 = σ0.1 218 7 := by rw [hOσ2.2 218 (by decide)] <;> exact ht
  refine ok_if (fun hc3 => ?_) (fun hc3 => ?_)
  · exact ok_some ⟨hT, (show ZB σ2.1 ∧ σ2.1 218 7 = σ0.1 218 7 from by exact ⟨hB, ht⟩)⟩
  · have qhc3 := hqv1.2 hc3
    refine ok_gC rfl ?_
    have hTc := hT
    refine ok_zbT (Q := fun V σ => (V = 0 ∨ V = 1) ∧ (¬ V = 0 → 0 ≤ x2.toInt ∧ x2.toInt < (σ2.1 219 0).toInt)) hT (s_X12_isName hN (hR.tr hT) (by first | exact hM | (rw [hT.2 219 (by decide)]; exact hM))) (fun _ h9 => absurd h9 List.not_mem_nil) (fun v4 σ5 hOσ5 hT hqv4 => ?_)
    have hqv4 : (v4 = 0 ∨ v4 = 1) ∧ (¬ v4 = 0 → 0 ≤ x2.toInt ∧ x2.toInt < (σ2.1 219 0).toInt) := hqv4
    rw [hTc.2 219 (by decide)] at hqv4
    have hB : ZB σ5.1 := ZB.tr hOσ5 (by decide) hB
    have ht : σ5.1 218 7 = σ0.1 218 7 := by rw [hOσ5.2 218 (by decide)] <;> exact ht
    refine ok_if (fun hc6 => ?_) (fun hc6 => ?_)
    · exact ok_some ⟨hT, (show ZB σ5.1 ∧ σ5.1 218 7 = σ0.1 218 7 from by exact ⟨hB, ht⟩)⟩
    · have qhc6 := hqv4.2 hc6
      refine ok_gC rfl ?_
      refine ok_zbT (Q := fun V σ => True) hT (s_X12_takesOrder hN (hR.tr hT) (by first | exact hM | (rw [hT.2 219 (by decide)]; exact hM))) (by decide) (fun v7 σ8 hOσ8 hT hqv7 => ?_)
      have hB : ZB σ8.1 := ZB.tr hOσ8 (by decide) hB
      have ht : σ8.1 218 7 = σ0.1 218 7 := by rw [hOσ8.2 218 (by decide)] <;> exact ht
      refine ok_gC rfl ?_
      refine ok_zbT (Q := fun V σ => ZB σ.1 ∧ σ.1 218 7 = σ8.1 218 7) hT (s_X12_wideOf hN (hR.tr hT) (by first | exact hM | (rw [hT.2 219 (by decide)]; exact hM)) (hB) (by first | omega | decide | (simp only [Int32.le_iff_toInt_le, Int32.lt_iff_toInt_lt, ti_add, ti_sub, ti_mul, Int32.reduceToInt] at *; omega)) (by first | (rw [hT.2 219 (by decide)]; first | omega | (simp only [Int32.le_iff_toInt_le, Int32.lt_iff_toInt_lt, ti_add, ti_sub, ti_mul, Int32.reduceToInt] at *; omega)) | (first | omega | (simp only [Int32.le_iff_toInt_le, Int32.lt_iff_toInt_lt, ti_add, ti_sub, ti_mul, Int32.reduceToInt] at *; omega)))) (by decide) (fun v9 σ10 hOσ10 hT hqv9 => ?_)
      have hqv9 : ZB σ10.1 ∧ σ10.1 218 7 = σ8.1 218 7 := hqv9
      have hB : ZB σ10.1 := by first | exact hqv9 | exact hqv9.1 | exact hqv9.1.1 | exact ZB_s eσ10 hB
      have ht : σ10.1 218 7 = σ0.1 218 7 := by first | (rw [zI_atN eσ10 (by decide)]; exact ht) | exact hqv9.2.trans ht | exact hqv9.1.2.trans ht
      exact ok_some ⟨hT, (show ZB σ10.1 ∧ σ10.1 218 7 = σ0.1 218 7 from by exact ⟨hB, ht⟩)⟩

set_option maxHeartbeats 4000000 in
set_option maxRecDepth 100000 in
theorem s_X12_order {N : Nat} (hN : 1048576 ≤ N) {x1 : Int32} {σ0 : zS}  (hR : RF σ0.2.2) (hM : MW (σ0.1 219) 0) : Ok (f_X12_order N 218 x1 σ0) (fun r => Tr [] σ0 r.2 ∧ (True)) := by
  have hT : Tr [] σ0 σ0 := Tr.rf
  have hn := hM.1
  have he : 0 ≤ (σ0.1 219 2).toInt ∧ (σ0.1 219 2).toInt ≤ 10 := hM.2.1
  have qm := mny_b hn.1 hn.2
  rw [f_X12_order.eq_1]
  refine ok_gC rfl ?_
  refine ok_zbT (Q := fun V σ => (V = 0 ∨ V = 1) ∧ (¬ V = 0 → 0 ≤ x1.toInt ∧ x1.toInt < (σ0.1 219 0).toInt)) hT (s_X12_isName hN (hR.tr hT) (by first | exact hM | (rw [hT.2 219 (by decide)]; exact hM))) (fun _ h9 => absurd h9 List.not_mem_nil) (fun v1 σ2 hOσ2 hT hqv1 => ?_)
  have hqv1 : (v1 = 0 ∨ v1 = 1) ∧ (¬ v1 = 0 → 0 ≤ x1.toInt ∧ x1.toInt < (σ0.1 219 0).toInt) := hqv1
  refine ok_if (fun hc3 => ?_) (fun hc3 => ?_)
  · exact ok_some ⟨hT, trivial⟩
  · have qhc3 := hqv1.2 hc3
    refine ok_gR (v := 219) hT rfl (hR 218 1 rfl) ?_
    refine ok_aIn rfl (by first | omega | decide | (simp only [Int32.le_iff_toInt_le, Int32.lt_iff_toInt_lt, ti_add, ti_sub, ti_mul, Int32.reduceToInt] at *; omega)) (by first | omega | decide | (simp only [Int32.le_iff_toInt_le, Int32.lt_iff_toInt_lt, ti_add, ti_sub, ti_mul, Int32.reduceToInt] at *; omega)) (fun v5 ev5 => ?_)
    exact ok_some ⟨hT, trivial⟩

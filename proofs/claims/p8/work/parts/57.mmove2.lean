theorem tm2 {x : Int32} {y n : Int} {m : Nat} (h0 : 0 ≤ y) (h1 : y < x.toInt) (h2 : x.toInt < n) (h3 : n ≤ 10) (hm : x.toInt.toNat = m + 1) : (y ≤ (x + (-1)).toInt ∧ (x + (-1)).toInt < n) ∧ (x + (-1)).toInt.toNat = m ∧ (x + (-1)).toInt.toNat < x.toInt.toNat := by
  have k := tm1 (x := x) (by omega) (by omega)
  rw [k]
  clear k
  omega

set_option maxHeartbeats 4000000 in
set_option maxRecDepth 100000 in
theorem s_X12_goesTo {N : Nat} (hN : 1048576 ≤ N) {x1 : Int32} {x2 : Int32} {σ0 : zS}  (hR : RF σ0.2.2) (hM : MW (σ0.1 219) 0) (hx : 0 ≤ x1.toInt ∧ x1.toInt < (σ0.1 219 0).toInt) (hy : 0 ≤ x2.toInt ∧ x2.toInt < (σ0.1 219 0).toInt) : Ok (f_X12_goesTo N 218 x1 x2 σ0) (fun r => Tr [219] σ0 r.2 ∧ (MW (r.2.1 219) 0 ∧ (r.2.1 219 0).toInt = (σ0.1 219 0).toInt)) := by
  have hT : Tr [219] σ0 σ0 := Tr.rf
  have hn := hM.1
  have he : 0 ≤ (σ0.1 219 2).toInt ∧ (σ0.1 219 2).toInt ≤ 10 := hM.2.1
  have qm := mny_b hn.1 hn.2
  rw [f_X12_goesTo.eq_1]
  refine ok_gC rfl ?_
  refine ok_zbT (Q := fun V σ => (0 ≤ V.toInt ∧ V.toInt < (σ0.1 219 0).toInt) ∧ σ0.1 219 (33 + V.toInt.toNat) = x1) hT (s_X12_placeOf hN (hR.tr hT) (hM) (hx)) (fun _ h9 => absurd h9 List.not_mem_nil) (fun v1 σ2 hOσ2 hT hqv1 => ?_)
  have hqv1 : (0 ≤ v1.toInt ∧ v1.toInt < (σ0.1 219 0).toInt) ∧ σ0.1 219 (33 + v1.toInt.toNat) = x1 := hqv1
  have hH : HL (σ2.1 219) x1 v1.toInt.toNat := by rw [hOσ2.2 219 List.not_mem_nil]; exact HL_0 hM hqv1.2
  have h0 : (σ2.1 219 0).toInt = (σ0.1 219 0).toInt := by rw [hOσ2.2 219 List.not_mem_nil]
  have hb3 := hqv1.1
  refine ok_lp (fun t : Int32 × zS => Tr [219] σ0 (t.2) ∧ (((0 ≤ (t.1).toInt ∧ (t.1).toInt < (σ0.1 219 0).toInt) ∧ ((t.2).1 219 0).toInt = (σ0.1 219 0).toInt) ∧ HL ((t.2).1 219) x1 (t.1).toInt.toNat)) (fun t : Int32 × zS => (10 - (t.1).toInt).toNat) (fun again3 t hI ih6_3 => ?_) N _ (show Tr [219] σ0 σ2 ∧ (((0 ≤ v1.toInt ∧ v1.toInt < (σ0.1 219 0).toInt) ∧ (σ2.1 219 0).toInt = (σ0.1 219 0).toInt) ∧ HL (σ2.1 219) x1 v1.toInt.toNat) from ⟨hT, (by exact ⟨⟨hb3, h0⟩, hH⟩)⟩) (show (10 - v1.toInt).toNat < N from (by first | omega | decide | (simp only [Int32.le_iff_toInt_le, Int32.lt_iff_toInt_lt, ti_add, ti_sub, ti_mul, Int32.reduceToInt] at *; omega)))
  obtain ⟨x3_3, σ3⟩ := t
  have hI : Tr [219] σ0 σ3 ∧ (((0 ≤ x3_3.toInt ∧ x3_3.toInt < (σ0.1 219 0).toInt) ∧ (σ3.1 219 0).toInt = (σ0.1 219 0).toInt) ∧ HL (σ3.1 219) x1 x3_3.toInt.toNat) := hI
  obtain ⟨hT, hI3⟩ := hI
  rw [F_X12_goesTo_6.eq_1]
  have hH := hI3.2
  have h0 := hI3.1.2
  have hb3 := hI3.1.1
  refine ok_if (fun hc4 => ?_) (fun hc4 => ?_)
  · have k9 : x2.toInt ≤ x3_3.toInt := by first | omega | (simp only [Int32.le_iff_toInt_le, Int32.lt_iff_toInt_lt, ti_add, ti_sub, ti_mul, Int32.reduceToInt] at *; omega)
    refine ok_lp (fun t : Int32 × zS => Tr [219] σ0 (t.2) ∧ (((x2.toInt ≤ (t.1).toInt ∧ (t.1).toInt < (σ0.1 219 0).toInt) ∧ ((t.2).1 219 0).toInt = (σ0.1 219 0).toInt) ∧ HL ((t.2).1 219) x1 (t.1).toInt.toNat)) (fun t : Int32 × zS => (t.1).toInt.toNat) (fun again5 t hI ih37_5 => ?_) N _ (show Tr [219] σ0 σ3 ∧ (((x2.toInt ≤ x3_3.toInt ∧ x3_3.toInt < (σ0.1 219 0).toInt) ∧ (σ3.1 219 0).toInt = (σ0.1 219 0).toInt) ∧ HL (σ3.1 219) x1 x3_3.toInt.toNat) from ⟨hT, (by exact ⟨⟨by omega, h0⟩, hH⟩)⟩) (show x3_3.toInt.toNat < N from (by first | omega | decide | (simp only [Int32.le_iff_toInt_le, Int32.lt_iff_toInt_lt, ti_add, ti_sub, ti_mul, Int32.reduceToInt] at *; omega)))
    obtain ⟨x3_5, σ5⟩ := t
    have hI : Tr [219] σ0 σ5 ∧ (((x2.toInt ≤ x3_5.toInt ∧ x3_5.toInt < (σ0.1 219 0).toInt) ∧ (σ5.1 219 0).toInt = (σ0.1 219 0).toInt) ∧ HL (σ5.1 219) x1 x3_5.toInt.toNat) := hI
    obtain ⟨hT, hI5⟩ := hI
    rw [F_X12_goesTo_37.eq_1]
    have hH := hI5.2
    have h0 := hI5.1.2
    have hb3 := hI5.1.1
    refine ok_if (fun hc6 => ?_) (fun hc6 => ?_)
    · have hq : x3_5.toInt.toNat = x2.toInt.toNat := by first | omega | (simp only [Int32.le_iff_toInt_le, Int32.lt_iff_toInt_lt, ti_add, ti_sub, ti_mul, Int32.reduceToInt] at *; omega)
      rw [hq] at hH
      have i9 := ti33 (x := x2) (by omega) (by omega)
      refine ok_gR (v := 219) hT rfl (hR 218 1 rfl) ?_
      refine ok_s14 hT rfl (by decide) (by first | omega | decide | (simp only [Int32.le_iff_toInt_le, Int32.lt_iff_toInt_lt, ti_add, ti_sub, ti_mul, Int32.reduceToInt] at *; omega)) (by first | omega | decide | (simp only [Int32.le_iff_toInt_le, Int32.lt_iff_toInt_lt, ti_add, ti_sub, ti_mul, Int32.reduceToInt] at *; omega)) (fun σ8 eσ8 hOσ8 hT => ?_)
      have e9 := eσ8
      rw [i9.2] at e9
      have hM9 := HL_e e9 (by omega) hH
      have h0 : (σ8.1 219 0).toInt = (σ0.1 219 0).toInt := by rw [zI_atN e9 (by omega)]; exact h0
      exact ok_some ⟨hT, (show MW (σ8.1 219) 0 ∧ (σ8.1 219 0).toInt = (σ0.1 219 0).toInt from by exact ⟨hM9, h0⟩)⟩
    · have k8 : x2.toInt < x3_5.toInt := by have q8 := hc6; rw [Int32.le_iff_toInt_le] at q8; omega
      obtain ⟨m9, hm9⟩ : ∃ m : Nat, x3_5.toInt.toNat = m + 1 := ⟨x3_5.toInt.toNat - 1, by omega⟩
      have i9 := ti33 (x := x3_5) (by omega) (by omega)
      have q9 := ti33c (x := x3_5) (by omega) (by omega)
      rw [hm9, Nat.add_sub_cancel] at q9
      have j9 := q9
      clear q9
      refine ok_gR (v := 219) hT rfl (hR 218 1 rfl) ?_
      refine ok_gR (v := 219) hT rfl (hR 218 1 rfl) ?_
      refine ok_aIn rfl (by rw [j9.1]; omega) (by rw [j9.1]; omega) (fun v11 ev11 => ?_)
      have ev9 := ev11
      rw [j9.2] at ev9
      clear j9
      refine ok_s14 hT rfl (by decide) (by first | omega | decide | (simp only [Int32.le_iff_toInt_le, Int32.lt_iff_toInt_lt, ti_add, ti_sub, ti_mul, Int32.reduceToInt] at *; omega)) (by first | omega | decide | (simp only [Int32.le_iff_toInt_le, Int32.lt_iff_toInt_lt, ti_add, ti_sub, ti_mul, Int32.reduceToInt] at *; omega)) (fun σ12 eσ12 hOσ12 hT => ?_)
      have e9 := eσ12
      rw [i9.2] at e9
      have hH := HL_s e9 ev9 (by omega) (by omega) hH
      have h0 : (σ12.1 219 0).toInt = (σ0.1 219 0).toInt := by rw [zI_atN e9 (by omega)]; exact h0
      have k9 := tm2 (x := x3_5) (y := x2.toInt) (n := (σ0.1 219 0).toInt) (by omega) k8 (by omega) (by omega) hm9
      exact ih37_5 (x3_5 + (-1), σ12) (show Tr [219] σ0 σ12 ∧ (((x2.toInt ≤ (x3_5 + (-1)).toInt ∧ (x3_5 + (-1)).toInt < (σ0.1 219 0).toInt) ∧ (σ12.1 219 0).toInt = (σ0.1 219 0).toInt) ∧ HL (σ12.1 219) x1 (x3_5 + (-1)).toInt.toNat) from ⟨hT, (by exact ⟨⟨k9.1, h0⟩, by rw [k9.2.1]; exact hH⟩)⟩) (show (x3_5 + (-1)).toInt.toNat < x3_5.toInt.toNat from (by exact k9.2.2))
  · have i9 := ti33 (x := x3_3) (by omega) (by omega)
    have j9 := ti33b (x := x3_3) (by omega) (by omega)
    have k9 : (x3_3 + 1).toInt = x3_3.toInt + 1 ∧ x3_3.toInt < x2.toInt := by first | omega | (simp only [Int32.le_iff_toInt_le, Int32.lt_iff_toInt_lt, ti_add, ti_sub, ti_mul, Int32.reduceToInt] at *; omega)
    have s8 : (x3_3 + 1).toInt.toNat = x3_3.toInt.toNat + 1 := by rw [k9.1]; omega
    refine ok_gR (v := 219) hT rfl (hR 218 1 rfl) ?_
    refine ok_gR (v := 219) hT rfl (hR 218 1 rfl) ?_
    refine ok_aIn rfl (by rw [j9.1]; omega) (by rw [j9.1]; omega) (fun v15 ev15 => ?_)
    have ev9 := ev15
    rw [j9.2] at ev9
    refine ok_s14 hT rfl (by decide) (by first | omega | decide | (simp only [Int32.le_iff_toInt_le, Int32.lt_iff_toInt_lt, ti_add, ti_sub, ti_mul, Int32.reduceToInt] at *; omega)) (by first | omega | decide | (simp only [Int32.le_iff_toInt_le, Int32.lt_iff_toInt_lt, ti_add, ti_sub, ti_mul, Int32.reduceToInt] at *; omega)) (fun σ16 eσ16 hOσ16 hT => ?_)
    have e9 := eσ16
    rw [i9.2] at e9
    have hH := HL_s e9 ev9 (by omega) (by omega) hH
    have h0 : (σ16.1 219 0).toInt = (σ0.1 219 0).toInt := by rw [zI_atN e9 (by omega)]; exact h0
    exact ih6_3 (x3_3 + 1, σ16) (show Tr [219] σ0 σ16 ∧ (((0 ≤ (x3_3 + 1).toInt ∧ (x3_3 + 1).toInt < (σ0.1 219 0).toInt) ∧ (σ16.1 219 0).toInt = (σ0.1 219 0).toInt) ∧ HL (σ16.1 219) x1 (x3_3 + 1).toInt.toNat) from ⟨hT, (by exact ⟨⟨by rw [k9.1]; omega, h0⟩, by rw [s8]; exact hH⟩)⟩) (show (10 - (x3_3 + 1).toInt).toNat < (10 - x3_3.toInt).toNat from (by rw [k9.1]; omega))

set_option maxHeartbeats 4000000 in
set_option maxRecDepth 100000 in
theorem s_X12_move {N : Nat} (hN : 1048576 ≤ N) {x1 : Int32} {x2 : Int32} {σ0 : zS}  (hR : RF σ0.2.2) (hM : MW (σ0.1 219) 0) : Ok (f_X12_move N 218 x1 x2 σ0) (fun r => Tr [219] σ0 r.2 ∧ (MW (r.2.1 219) 0)) := by
  have hT : Tr [219] σ0 σ0 := Tr.rf
  have hn := hM.1
  have he : 0 ≤ (σ0.1 219 2).toInt ∧ (σ0.1 219 2).toInt ≤ 10 := hM.2.1
  have qm := mny_b hn.1 hn.2
  rw [f_X12_move.eq_1]
  refine ok_gC rfl ?_
  refine ok_zbT (Q := fun V σ => (V = 0 ∨ V = 1) ∧ (¬ V = 0 → 0 ≤ x1.toInt ∧ x1.toInt < (σ0.1 219 0).toInt)) hT (s_X12_isName hN (hR.tr hT) (by first | exact hM | (rw [hw]; exact hM))) (fun _ h9 => absurd h9 List.not_mem_nil) (fun v1 σ2 hOσ2 hT hqv1 => ?_)
  have hqv1 : (v1 = 0 ∨ v1 = 1) ∧ (¬ v1 = 0 → 0 ≤ x1.toInt ∧ x1.toInt < (σ0.1 219 0).toInt) := hqv1
  have hw : σ2.1 219 = σ0.1 219 := hOσ2.2 219 List.not_mem_nil
  refine ok_if (fun hc3 => ?_) (fun hc3 => ?_)
  · exact ok_some ⟨hT, (show MW (σ2.1 219) 0 from by first | exact hM9 | (rw [hw]; exact hM))⟩
  · have qhc3 := hqv1.2 hc3
    refine ok_gC rfl ?_
    refine ok_zbT (Q := fun V σ => (V = 0 ∨ V = 1) ∧ (¬ V = 0 → 0 ≤ x2.toInt ∧ x2.toInt < (σ2.1 219 0).toInt)) hT (s_X12_isName hN (hR.tr hT) (by first | exact hM | (rw [hw]; exact hM))) (fun _ h9 => absurd h9 List.not_mem_nil) (fun v4 σ5 hOσ5 hT hqv4 => ?_)
    have hqv4 : (v4 = 0 ∨ v4 = 1) ∧ (¬ v4 = 0 → 0 ≤ x2.toInt ∧ x2.toInt < (σ2.1 219 0).toInt) := hqv4
    rw [hw] at hqv4
    have hw : σ5.1 219 = σ0.1 219 := (hOσ5.2 219 List.not_mem_nil).trans hw
    refine ok_if (fun hc6 => ?_) (fun hc6 => ?_)
    · exact ok_some ⟨hT, (show MW (σ5.1 219) 0 from by first | exact hM9 | (rw [hw]; exact hM))⟩
    · have qhc6 := hqv4.2 hc6
      refine ok_gC rfl ?_
      refine ok_zbT (Q := fun V σ => (0 ≤ V.toInt ∧ V.toInt < (σ5.1 219 0).toInt) ∧ σ5.1 219 (33 + V.toInt.toNat) = x1) hT (s_X12_placeOf hN (hR.tr hT) (by first | exact hM | (rw [hw]; exact hM)) (by first | (rw [hw]; first | omega | (simp only [Int32.le_iff_toInt_le, Int32.lt_iff_toInt_lt, ti_add, ti_sub, ti_mul, Int32.reduceToInt] at *; omega)) | (first | omega | (simp only [Int32.le_iff_toInt_le, Int32.lt_iff_toInt_lt, ti_add, ti_sub, ti_mul, Int32.reduceToInt] at *; omega)))) (fun _ h9 => absurd h9 List.not_mem_nil) (fun v7 σ8 hOσ8 hT hqv7 => ?_)
      have hqv7 : (0 ≤ v7.toInt ∧ v7.toInt < (σ5.1 219 0).toInt) ∧ σ5.1 219 (33 + v7.toInt.toNat) = x1 := hqv7
      have hw : σ8.1 219 = σ0.1 219 := (hOσ8.2 219 List.not_mem_nil).trans hw
      refine ok_gC rfl ?_
      refine ok_zbT (Q := fun V σ => MW (σ.1 219) 0 ∧ (σ.1 219 0).toInt = (σ8.1 219 0).toInt) hT (s_X12_goesTo hN (hR.tr hT) (by first | exact hM | (rw [hw]; exact hM)) (by first | (rw [hw]; first | omega | (simp only [Int32.le_iff_toInt_le, Int32.lt_iff_toInt_lt, ti_add, ti_sub, ti_mul, Int32.reduceToInt] at *; omega)) | (first | omega | (simp only [Int32.le_iff_toInt_le, Int32.lt_iff_toInt_lt, ti_add, ti_sub, ti_mul, Int32.reduceToInt] at *; omega))) (by first | (rw [hw]; first | omega | (simp only [Int32.le_iff_toInt_le, Int32.lt_iff_toInt_lt, ti_add, ti_sub, ti_mul, Int32.reduceToInt] at *; omega)) | (first | omega | (simp only [Int32.le_iff_toInt_le, Int32.lt_iff_toInt_lt, ti_add, ti_sub, ti_mul, Int32.reduceToInt] at *; omega)))) (by decide) (fun v9 σ10 hOσ10 hT hqv9 => ?_)
      have hqv9 : MW (σ10.1 219) 0 ∧ (σ10.1 219 0).toInt = (σ8.1 219 0).toInt := hqv9
      have hM9 := hqv9.1
      exact ok_some ⟨hT, (show MW (σ10.1 219) 0 from by first | exact hM9 | (rw [hw]; exact hM))⟩

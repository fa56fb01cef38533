set_option maxHeartbeats 4000000 in
set_option maxRecDepth 100000 in
theorem s_X12_findsBest {N : Nat} (hN : 1048576 ≤ N) {x1 : Int32} {σ0 : zS}  (hR : RF σ0.2.2) (hM : MW (σ0.1 219) 0) (hB : ZB σ0.1) (hp : 0 ≤ x1.toInt ∧ x1.toInt ≤ 9) (h6 : (σ0.1 219 0).toInt ≤ 6) : Ok (f_X12_findsBest N 218 x1 σ0) (fun r => Tr [218, 234, 235, 236, 237] σ0 r.2 ∧ (ZB r.2.1 ∧ r.2.1 218 7 = σ0.1 218 7)) := by
  have hT : Tr [218, 234, 235, 236, 237] σ0 σ0 := Tr.rf
  have hn := hM.1
  have he : 0 ≤ (σ0.1 219 2).toInt ∧ (σ0.1 219 2).toInt ≤ 10 := hM.2.1
  have qm := mny_b hn.1 hn.2
  have ht : σ0.1 218 7 = σ0.1 218 7 := rfl
  rw [f_X12_findsBest.eq_1]
  refine ok_lp (fun t : Int32 × zS => Tr [218, 234, 235, 236, 237] σ0 (t.2) ∧ ((0 ≤ (t.1).toInt ∧ (t.1).toInt ≤ 10) ∧ ∀ j : Nat, (j : Int) < (t.1).toInt → (t.2).1 235 j = nI j) ∧ (ZB (t.2).1) ∧ ((t.2).1 218 7 = σ0.1 218 7)) (fun t : Int32 × zS => (10 - (t.1).toInt).toNat) (fun again1 t hI ih4_1 => ?_) N _ (show Tr [218, 234, 235, 236, 237] σ0 σ0 ∧ ((0 ≤ (0 : Int32).toInt ∧ (0 : Int32).toInt ≤ 10) ∧ ∀ j : Nat, (j : Int) < (0 : Int32).toInt → σ0.1 235 j = nI j) ∧ (ZB σ0.1) ∧ (σ0.1 218 7 = σ0.1 218 7) from ⟨hT, (by exact ⟨by decide, fun j hj => absurd hj (by simp only [Int32.reduceToInt]; omega)⟩), hB, ht⟩) (show (10 - (0 : Int32).toInt).toNat < N from (by simp only [Int32.reduceToInt]; omega))
  obtain ⟨x3_1, σ1⟩ := t
  have hI : Tr [218, 234, 235, 236, 237] σ0 σ1 ∧ ((0 ≤ x3_1.toInt ∧ x3_1.toInt ≤ 10) ∧ ∀ j : Nat, (j : Int) < x3_1.toInt → σ1.1 235 j = nI j) ∧ (ZB σ1.1) ∧ (σ1.1 218 7 = σ0.1 218 7) := hI
  obtain ⟨hT, hI1, hB, ht⟩ := hI
  rw [F_X12_findsBest_4.eq_1]
  have h4 := hI1.1
  have z4 := hI1.2
  refine ok_if (fun hc2 => ?_) (fun hc2 => ?_)
  · have l7 := hc2
    rw [Int32.le_iff_toInt_le] at l7
    simp only [Int32.reduceToInt] at l7
    have d4 := DI_id (n := (σ0.1 219 0).toInt.toNat) (by omega) (fun j hj => z4 j (by omega))
    refine ok_lp (fun t : Int32 × Int32 × zS => Tr [218, 234, 235, 236, 237] σ0 (t.2.2) ∧ (DI ((t.2.2).1 235) (σ0.1 219 0).toInt.toNat) ∧ (ZB (t.2.2).1) ∧ ((t.2.2).1 218 7 = σ0.1 218 7)) (fun t : Int32 × Int32 × zS => (if (t.2.1) = 0 then 0 else 1 + (1000000 - dig ((t.2.2).1 235) (σ0.1 219 0).toInt.toNat))) (fun again3 t hI ih25_3 => ?_) N _ (show Tr [218, 234, 235, 236, 237] σ0 σ1 ∧ (DI (σ1.1 235) (σ0.1 219 0).toInt.toNat) ∧ (ZB σ1.1) ∧ (σ1.1 218 7 = σ0.1 218 7) from ⟨hT, (by exact d4), hB, ht⟩) (show (if (1 : Int32) = 0 then 0 else 1 + (1000000 - dig (σ1.1 235) (σ0.1 219 0).toInt.toNat)) < N from (by split <;> omega))
    obtain ⟨x2_3, x3_3, σ3⟩ := t
    have hI : Tr [218, 234, 235, 236, 237] σ0 σ3 ∧ (DI (σ3.1 235) (σ0.1 219 0).toInt.toNat) ∧ (ZB σ3.1) ∧ (σ3.1 218 7 = σ0.1 218 7) := hI
    obtain ⟨hT, hI3, hB, ht⟩ := hI
    rw [F_X12_findsBest_25.eq_1]
    have d25 := hI3
    refine ok_if (fun hc4 => ?_) (fun hc4 => ?_)
    · exact ok_some ⟨hT, (show ZB σ3.1 ∧ σ3.1 218 7 = σ0.1 218 7 from by exact ⟨hB, ht⟩)⟩
    · have n26 := hc4
      refine ok_gC rfl ?_
      refine ok_zbT (Q := fun V σ => ZB σ.1 ∧ σ.1 218 7 = σ3.1 218 7) hT (s_X12_nodesOf hN (hR.tr hT) (by first | exact hM | (rw [hT.2 219 (by decide)]; exact hM)) (hB) (hp)) (by decide) (fun v5 σ6 hOσ6 hT hqv5 => ?_)
      have hqv5 : ZB σ6.1 ∧ σ6.1 218 7 = σ3.1 218 7 := hqv5
      have r235_σ6 : σ6.1 235 = σ3.1 235 := hOσ6.2 235 (by decide)
      have hB : ZB σ6.1 := by first | exact hqv5 | exact hqv5.1 | exact hqv5.1.1 | exact ZB_s eσ6 hB
      have ht : σ6.1 218 7 = σ0.1 218 7 := by first | (rw [zI_atN eσ6 (by decide)]; exact ht) | exact hqv5.2.trans ht | exact hqv5.1.2.trans ht
      refine ok_if (fun hc7 => ?_) (fun hc7 => ?_)
      · rw [J_X12_findsBest_47.eq_1]
        refine ok_lp (fun t : Int32 × zS => Tr [218, 234, 235, 236, 237] σ0 (t.2) ∧ (0 ≤ (t.1).toInt) ∧ (ZB (t.2).1) ∧ ((t.2).1 218 7 = σ0.1 218 7) ∧ ((t.2).1 235 = σ3.1 235)) (fun t : Int32 × zS => (10 - (t.1).toInt).toNat) (fun again8 t hI ih53_8 => ?_) N _ (show Tr [218, 234, 235, 236, 237] σ0 σ6 ∧ (0 ≤ (0 : Int32).toInt) ∧ (ZB σ6.1) ∧ (σ6.1 218 7 = σ0.1 218 7) ∧ (σ6.1 235 = σ3.1 235) from ⟨hT, (by decide), hB, ht, r235_σ6⟩) (show (10 - (0 : Int32).toInt).toNat < N from (by simp only [Int32.reduceToInt]; omega))
        obtain ⟨x5_8, σ8⟩ := t
        have hI : Tr [218, 234, 235, 236, 237] σ0 σ8 ∧ (0 ≤ x5_8.toInt) ∧ (ZB σ8.1) ∧ (σ8.1 218 7 = σ0.1 218 7) ∧ (σ8.1 235 = σ3.1 235) := hI
        obtain ⟨hT, hI8, hB, ht, r235_σ8⟩ := hI
        rw [F_X12_findsBest_53.eq_1]
        refine ok_if (fun hc9 => ?_) (fun hc9 => ?_)
        · have RQ := r235_σ8
          refine ok_gR (v := 219) hT rfl (hR 218 1 rfl) ?_
          refine ok_aIc (j := 0) hT rfl (by decide) rfl (by decide) (by decide) ?_
          refine ok_gC rfl ?_
          refine ok_zbT (Q := fun V σ => (V = 0 ∨ V = 1) ∧ DI (σ.1 235) (σ0.1 219 0).toInt.toNat ∧ (¬ V = 0 → ∃ i : Nat, i < (σ0.1 219 0).toInt.toNat ∧ (∀ j, j < i → σ.1 235 j = σ8.1 235 j) ∧ (σ8.1 235 i).toInt < (σ.1 235 i).toInt)) hT (s_X12_nextOrder hN (hR.tr hT) (⟨hn.1, h6⟩) (by first | (rw [r235_σ8]; exact d25) | exact d25)) (by decide) (fun v12 σ13 hOσ13 hT hqv12 => ?_)
          have hqv12 : (v12 = 0 ∨ v12 = 1) ∧ DI (σ13.1 235) (σ0.1 219 0).toInt.toNat ∧ (¬ v12 = 0 → ∃ i : Nat, i < (σ0.1 219 0).toInt.toNat ∧ (∀ j, j < i → σ13.1 235 j = σ8.1 235 j) ∧ (σ8.1 235 i).toInt < (σ13.1 235 i).toInt) := hqv12
          have hB : ZB σ13.1 := ZB.tr hOσ13 (by decide) hB
          have ht : σ13.1 218 7 = σ0.1 218 7 := by rw [hOσ13.2 218 (by decide)] <;> exact ht
          have q87 := hqv12.2
          rw [RQ] at q87
          exact ih25_3 (v5, v12, σ13) (show Tr [218, 234, 235, 236, 237] σ0 σ13 ∧ (DI (σ13.1 235) (σ0.1 219 0).toInt.toNat) ∧ (ZB σ13.1) ∧ (σ13.1 218 7 = σ0.1 218 7) from ⟨hT, (by exact q87.1), hB, ht⟩) (show (if v12 = 0 then 0 else 1 + (1000000 - dig (σ13.1 235) (σ0.1 219 0).toInt.toNat)) < (if x3_3 = 0 then 0 else 1 + (1000000 - dig (σ3.1 235) (σ0.1 219 0).toInt.toNat)) from (by exact fb_mu n26 (by omega) d25 q87.1 q87.2))
        · have l68 := hc9
          rw [Int32.le_iff_toInt_le] at l68
          try simp only [Int32.reduceToInt] at l68
          have s68 : (x5_8 + 1).toInt = x5_8.toInt + 1 := by rw [ti_add]; simp only [Int32.reduceToInt]; omega
          refine ok_gR (v := 237) hT rfl (hR 218 33 rfl) ?_
          refine ok_gR (v := 235) hT rfl (hR 218 30 rfl) ?_
          refine ok_aIn rfl (by first | omega | decide | (simp only [Int32.le_iff_toInt_le, Int32.lt_iff_toInt_lt, ti_add, ti_sub, ti_mul, Int32.reduceToInt] at *; omega)) (by first | omega | decide | (simp only [Int32.le_iff_toInt_le, Int32.lt_iff_toInt_lt, ti_add, ti_sub, ti_mul, Int32.reduceToInt] at *; omega)) (fun v16 ev16 => ?_)
          refine ok_s14 hT rfl (by decide) (by first | omega | decide | (simp only [Int32.le_iff_toInt_le, Int32.lt_iff_toInt_lt, ti_add, ti_sub, ti_mul, Int32.reduceToInt] at *; omega)) (by first | omega | decide | (simp only [Int32.le_iff_toInt_le, Int32.lt_iff_toInt_lt, ti_add, ti_sub, ti_mul, Int32.reduceToInt] at *; omega)) (fun σ17 eσ17 hOσ17 hT => ?_)
          have r235_σ17 : σ17.1 235 = σ3.1 235 := (hOσ17.2 235 (by decide)).trans r235_σ8
          have hB : ZB σ17.1 := ZB.tr hOσ17 (by decide) hB
          have ht : σ17.1 218 7 = σ0.1 218 7 := by rw [hOσ17.2 218 (by decide)] <;> exact ht
          exact ih53_8 (x5_8 + 1, σ17) (show Tr [218, 234, 235, 236, 237] σ0 σ17 ∧ (0 ≤ (x5_8 + 1).toInt) ∧ (ZB σ17.1) ∧ (σ17.1 218 7 = σ0.1 218 7) ∧ (σ17.1 235 = σ3.1 235) from ⟨hT, (by rw [s68]; omega), hB, ht, r235_σ17⟩) (show (10 - (x5_8 + 1).toInt).toNat < (10 - x5_8.toInt).toNat from (by rw [s68]; omega))
      · refine ok_if (fun hc18 => ?_) (fun hc18 => ?_)
        · have RQ := r235_σ6
          refine ok_gR (v := 219) hT rfl (hR 218 1 rfl) ?_
          refine ok_aIc (j := 0) hT rfl (by decide) rfl (by decide) (by decide) ?_
          refine ok_gC rfl ?_
          refine ok_zbT (Q := fun V σ => (V = 0 ∨ V = 1) ∧ DI (σ.1 235) (σ0.1 219 0).toInt.toNat ∧ (¬ V = 0 → ∃ i : Nat, i < (σ0.1 219 0).toInt.toNat ∧ (∀ j, j < i → σ.1 235 j = σ6.1 235 j) ∧ (σ6.1 235 i).toInt < (σ.1 235 i).toInt)) hT (s_X12_nextOrder hN (hR.tr hT) (⟨hn.1, h6⟩) (by first | (rw [r235_σ6]; exact d25) | exact d25)) (by decide) (fun v21 σ22 hOσ22 hT hqv21 => ?_)
          have hqv21 : (v21 = 0 ∨ v21 = 1) ∧ DI (σ22.1 235) (σ0.1 219 0).toInt.toNat ∧ (¬ v21 = 0 → ∃ i : Nat, i < (σ0.1 219 0).toInt.toNat ∧ (∀ j, j < i → σ22.1 235 j = σ6.1 235 j) ∧ (σ6.1 235 i).toInt < (σ22.1 235 i).toInt) := hqv21
          have hB : ZB σ22.1 := ZB.tr hOσ22 (by decide) hB
          have ht : σ22.1 218 7 = σ0.1 218 7 := by rw [hOσ22.2 218 (by decide)] <;> exact ht
          have q87 := hqv21.2
          rw [RQ] at q87
          exact ih25_3 (x2_3, v21, σ22) (show Tr [218, 234, 235, 236, 237] σ0 σ22 ∧ (DI (σ22.1 235) (σ0.1 219 0).toInt.toNat) ∧ (ZB σ22.1) ∧ (σ22.1 218 7 = σ0.1 218 7) from ⟨hT, (by exact q87.1), hB, ht⟩) (show (if v21 = 0 then 0 else 1 + (1000000 - dig (σ22.1 235) (σ0.1 219 0).toInt.toNat)) < (if x3_3 = 0 then 0 else 1 + (1000000 - dig (σ3.1 235) (σ0.1 219 0).toInt.toNat)) from (by exact fb_mu n26 (by omega) d25 q87.1 q87.2))
        · rw [J_X12_findsBest_47.eq_1]
          refine ok_lp (fun t : Int32 × zS => Tr [218, 234, 235, 236, 237] σ0 (t.2) ∧ (0 ≤ (t.1).toInt) ∧ (ZB (t.2).1) ∧ ((t.2).1 218 7 = σ0.1 218 7) ∧ ((t.2).1 235 = σ3.1 235)) (fun t : Int32 × zS => (10 - (t.1).toInt).toNat) (fun again23 t hI ih53_23 => ?_) N _ (show Tr [218, 234, 235, 236, 237] σ0 σ6 ∧ (0 ≤ (0 : Int32).toInt) ∧ (ZB σ6.1) ∧ (σ6.1 218 7 = σ0.1 218 7) ∧ (σ6.1 235 = σ3.1 235) from ⟨hT, (by decide), hB, ht, r235_σ6⟩) (show (10 - (0 : Int32).toInt).toNat < N from (by simp only [Int32.reduceToInt]; omega))
          obtain ⟨x5_23, σ23⟩ := t
          have hI : Tr [218, 234, 235, 236, 237] σ0 σ23 ∧ (0 ≤ x5_23.toInt) ∧ (ZB σ23.1) ∧ (σ23.1 218 7 = σ0.1 218 7) ∧ (σ23.1 235 = σ3.1 235) := hI
          obtain ⟨hT, hI23, hB, ht, r235_σ23⟩ := hI
          rw [F_X12_findsBest_53.eq_1]
          refine ok_if (fun hc24 => ?_) (fun hc24 => ?_)
          · have RQ := r235_σ23
            refine ok_gR (v := 219) hT rfl (hR 218 1 rfl) ?_
            refine ok_aIc (j := 0) hT rfl (by decide) rfl (by decide) (by decide) ?_
            refine ok_gC rfl ?_
            refine ok_zbT (Q := fun V σ => (V = 0 ∨ V = 1) ∧ DI (σ.1 235) (σ0.1 219 0).toInt.toNat ∧ (¬ V = 0 → ∃ i : Nat, i < (σ0.1 219 0).toInt.toNat ∧ (∀ j, j < i → σ.1 235 j = σ23.1 235 j) ∧ (σ23.1 235 i).toInt < (σ.1 235 i).toInt)) hT (s_X12_nextOrder hN (hR.tr hT) (⟨hn.1, h6⟩) (by first | (rw [r235_σ23]; exact d25) | exact d25)) (by decide) (fun v27 σ28 hOσ28 hT hqv27 => ?_)
            have hqv27 : (v27 = 0 ∨ v27 = 1) ∧ DI (σ28.1 235) (σ0.1 219 0).toInt.toNat ∧ (¬ v27 = 0 → ∃ i : Nat, i < (σ0.1 219 0).toInt.toNat ∧ (∀ j, j < i → σ28.1 235 j = σ23.1 235 j) ∧ (σ23.1 235 i).toInt < (σ28.1 235 i).toInt) := hqv27
            have hB : ZB σ28.1 := ZB.tr hOσ28 (by decide) hB
            have ht : σ28.1 218 7 = σ0.1 218 7 := by rw [hOσ28.2 218 (by decide)] <;> exact ht
            have q87 := hqv27.2
            rw [RQ] at q87
            exact ih25_3 (v5, v27, σ28) (show Tr [218, 234, 235, 236, 237] σ0 σ28 ∧ (DI (σ28.1 235) (σ0.1 219 0).toInt.toNat) ∧ (ZB σ28.1) ∧ (σ28.1 218 7 = σ0.1 218 7) from ⟨hT, (by exact q87.1), hB, ht⟩) (show (if v27 = 0 then 0 else 1 + (1000000 - dig (σ28.1 235) (σ0.1 219 0).toInt.toNat)) < (if x3_3 = 0 then 0 else 1 + (1000000 - dig (σ3.1 235) (σ0.1 219 0).toInt.toNat)) from (by exact fb_mu n26 (by omega) d25 q87.1 q87.2))
          · have l68 := hc24
            rw [Int32.le_iff_toInt_le] at l68
            try simp only [Int32.reduceToInt] at l68
            have s68 : (x5_23 + 1).toInt = x5_23.toInt + 1 := by rw [ti_add]; simp only [Int32.reduceToInt]; omega
            refine ok_gR (v := 237) hT rfl (hR 218 33 rfl) ?_
            refine ok_gR (v := 235) hT rfl (hR 218 30 rfl) ?_
            refine ok_aIn rfl (by first | omega | decide | (simp only [Int32.le_iff_toInt_le, Int32.lt_iff_toInt_lt, ti_add, ti_sub, ti_mul, Int32.reduceToInt] at *; omega)) (by first | omega | decide | (simp only [Int32.le_iff_toInt_le, Int32.lt_iff_toInt_lt, ti_add, ti_sub, ti_mul, Int32.reduceToInt] at *; omega)) (fun v31 ev31 => ?_)
            refine ok_s14 hT rfl (by decide) (by first | omega | decide | (simp only [Int32.le_iff_toInt_le, Int32.lt_iff_toInt_lt, ti_add, ti_sub, ti_mul, Int32.reduceToInt] at *; omega)) (by first | omega | decide | (simp only [Int32.le_iff_toInt_le, Int32.lt_iff_toInt_lt, ti_add, ti_sub, ti_mul, Int32.reduceToInt] at *; omega)) (fun σ32 eσ32 hOσ32 hT => ?_)
            have r235_σ32 : σ32.1 235 = σ3.1 235 := (hOσ32.2 235 (by decide)).trans r235_σ23
            have hB : ZB σ32.1 := ZB.tr hOσ32 (by decide) hB
            have ht : σ32.1 218 7 = σ0.1 218 7 := by rw [hOσ32.2 218 (by decide)] <;> exact ht
            exact ih53_23 (x5_23 + 1, σ32) (show Tr [218, 234, 235, 236, 237] σ0 σ32 ∧ (0 ≤ (x5_23 + 1).toInt) ∧ (ZB σ32.1) ∧ (σ32.1 218 7 = σ0.1 218 7) ∧ (σ32.1 235 = σ3.1 235) from ⟨hT, (by rw [s68]; omega), hB, ht, r235_σ32⟩) (show (10 - (x5_23 + 1).toInt).toNat < (10 - x5_23.toInt).toNat from (by rw [s68]; omega))
  · have l68 := hc2
    rw [Int32.le_iff_toInt_le] at l68
    try simp only [Int32.reduceToInt] at l68
    have s68 : (x3_1 + 1).toInt = x3_1.toInt + 1 := by rw [ti_add]; simp only [Int32.reduceToInt]; omega
    refine ok_gR (v := 235) hT rfl (hR 218 30 rfl) ?_
    refine ok_s14 hT rfl (by decide) (by first | omega | decide | (simp only [Int32.le_iff_toInt_le, Int32.lt_iff_toInt_lt, ti_add, ti_sub, ti_mul, Int32.reduceToInt] at *; omega)) (by first | omega | decide | (simp only [Int32.le_iff_toInt_le, Int32.lt_iff_toInt_lt, ti_add, ti_sub, ti_mul, Int32.reduceToInt] at *; omega)) (fun σ34 eσ34 hOσ34 hT => ?_)
    have z16 : ∀ j : Nat, (j : Int) < x3_1.toInt + 1 → σ34.1 235 j = nI j := by intro j hj; by_cases q : (j : Int) = x3_1.toInt; rw [show j = x3_1.toNatClampNeg by show j = x3_1.toInt.toNat; omega, zI_atI eσ34]; exact (nI_ofm h4.1 h4.2).symm; rw [zI_atN eσ34 (by show j ≠ x3_1.toInt.toNat; omega)]; exact z4 j (by omega)
    have hB : ZB σ34.1 := ZB.tr hOσ34 (by decide) hB
    have ht : σ34.1 218 7 = σ0.1 218 7 := by rw [hOσ34.2 218 (by decide)] <;> exact ht
    exact ih4_1 (x3_1 + 1, σ34) (show Tr [218, 234, 235, 236, 237] σ0 σ34 ∧ ((0 ≤ (x3_1 + 1).toInt ∧ (x3_1 + 1).toInt ≤ 10) ∧ ∀ j : Nat, (j : Int) < (x3_1 + 1).toInt → σ34.1 235 j = nI j) ∧ (ZB σ34.1) ∧ (σ34.1 218 7 = σ0.1 218 7) from ⟨hT, (by rw [s68]; exact ⟨by omega, z16⟩), hB, ht⟩) (show (10 - (x3_1 + 1).toInt).toNat < (10 - x3_1.toInt).toNat from (by rw [s68]; omega))

set_option maxHeartbeats 4000000 in
set_option maxRecDepth 100000 in
theorem s_X12_best {N : Nat} (hN : 1048576 ≤ N) {x1 : Int32} {x2 : Int32} {σ0 : zS}  (hR : RF σ0.2.2) (hM : MW (σ0.1 219) 0) (hB : ZB σ0.1) : Ok (f_X12_best N 218 x1 x2 σ0) (fun r => Tr [218, 234, 235, 236, 237] σ0 r.2 ∧ (ZB r.2.1 ∧ r.2.1 218 7 = σ0.1 218 7)) := by
  have hT : Tr [218, 234, 235, 236, 237] σ0 σ0 := Tr.rf
  have hn := hM.1
  have he : 0 ≤ (σ0.1 219 2).toInt ∧ (σ0.1 219 2).toInt ≤ 10 := hM.2.1
  have qm := mny_b hn.1 hn.2
  have ht : σ0.1 218 7 = σ0.1 218 7 := rfl
  rw [f_X12_best.eq_1]
  refine ok_gC rfl ?_
  refine ok_zbT (Q := fun V σ => (V = 0 ∨ V = 1) ∧ (¬ V = 0 → 0 ≤ x1.toInt ∧ x1.toInt ≤ 9)) hT (s_X12_isRegister hN (hR.tr hT) (by first | exact hM | (rw [hT.2 219 (by decide)]; exact hM))) (fun _ h9 => absurd h9 List.not_mem_nil) (fun v1 σ2 hOσ2 hT hqv1 => ?_)
  have hqv1 : (v1 = 0 ∨ v1 = 1) ∧ (¬ v1 = 0 → 0 ≤ x1.toInt ∧ x1.toInt ≤ 9) := hqv1
  have hB : ZB σ2.1 := ZB.tr hOσ2 (by decide) hB
  have ht : σ2.1 218 7 = σ0.1 218 7 := by rw [hOσ2.2 218 (by decide)] <;> exact ht
  refine ok_if (fun hc3 => ?_) (fun hc3 => ?_)
  · exact ok_some ⟨hT, (show ZB σ2.1 ∧ σ2.1 218 7 = σ0.1 218 7 from by exact ⟨hB, ht⟩)⟩
  · have qhc3 := hqv1.2 hc3
    refine ok_zbT (Q := fun V σ => (V = 0 ∨ V = 1) ∧ (¬ V = 0 → (0 : Int64).toInt ≤ (Int32.toInt64 x2).toInt ∧ (Int32.toInt64 x2).toInt ≤ (10 : Int64).toInt)) hT (s_X12_in hN (hR.tr hT) ) (fun _ h9 => absurd h9 List.not_mem_nil) (fun v4 σ5 hOσ5 hT hqv4 => ?_)
    have hqv4 : (v4 = 0 ∨ v4 = 1) ∧ (¬ v4 = 0 → (0 : Int64).toInt ≤ (Int32.toInt64 x2).toInt ∧ (Int32.toInt64 x2).toInt ≤ (10 : Int64).toInt) := hqv4
    simp only [i64_of, Int64.reduceToInt] at hqv4
    have hB : ZB σ5.1 := ZB.tr hOσ5 (by decide) hB
    have ht : σ5.1 218 7 = σ0.1 218 7 := by rw [hOσ5.2 218 (by decide)] <;> exact ht
    refine ok_if (fun hc6 => ?_) (fun hc6 => ?_)
    · exact ok_some ⟨hT, (show ZB σ5.1 ∧ σ5.1 218 7 = σ0.1 218 7 from by exact ⟨hB, ht⟩)⟩
    · have qhc6 := hqv4.2 hc6
      refine ok_gR (v := 219) hT rfl (hR 218 1 rfl) ?_
      refine ok_aIc (j := 0) hT rfl (by decide) rfl (by decide) (by decide) ?_
      refine ok_if (fun hc9 => ?_) (fun hc9 => ?_)
      · have l31 := hc9
        rw [Int32.le_iff_toInt_le] at l31
        simp only [Int32.reduceToInt] at l31
        refine ok_gC rfl ?_
        refine ok_zbT (Q := fun V σ => ZB σ.1 ∧ σ.1 218 7 = σ5.1 218 7) hT (s_X12_findsBest hN (hR.tr hT) (by first | exact hM | (rw [hT.2 219 (by decide)]; exact hM)) (hB) (by first | omega | (simp only [Int32.le_iff_toInt_le, Int32.lt_iff_toInt_lt, ti_add, ti_sub, ti_mul, Int32.reduceToInt] at *; omega)) (by rw [hT.2 219 (by decide)]; exact l31)) (by decide) (fun v10 σ11 hOσ11 hT hqv10 => ?_)
        have hqv10 : ZB σ11.1 ∧ σ11.1 218 7 = σ5.1 218 7 := hqv10
        have hB : ZB σ11.1 := by first | exact hqv10 | exact hqv10.1 | exact hqv10.1.1 | exact ZB_s eσ11 hB
        have ht : σ11.1 218 7 = σ0.1 218 7 := by first | (rw [zI_atN eσ11 (by decide)]; exact ht) | exact hqv10.2.trans ht | exact hqv10.1.2.trans ht
        refine ok_if (fun hc12 => ?_) (fun hc12 => ?_)
        · exact ok_some ⟨hT, (show ZB σ11.1 ∧ σ11.1 218 7 = σ0.1 218 7 from by exact ⟨hB, ht⟩)⟩
        · have n44 : x2.toInt ≠ 0 := fun e => hc12 (Int32.toInt_inj.mp e)
          refine ok_gR (v := 219) hT rfl (hR 218 1 rfl) ?_
          refine ok_aIc (j := 0) hT rfl (by decide) rfl (by decide) (by decide) ?_
          refine ok_if (fun hc15 => ?_) (fun hc15 => ?_)
          · refine ok_gR (v := 237) hT rfl (hR 218 33 rfl) ?_
            refine ok_aIn rfl (by first | omega | (simp only [Int32.le_iff_toInt_le, Int32.lt_iff_toInt_lt, ti_add, ti_sub, ti_mul, Int32.reduceToInt] at *; omega)) (by first | omega | (simp only [Int32.le_iff_toInt_le, Int32.lt_iff_toInt_lt, ti_add, ti_sub, ti_mul, Int32.reduceToInt] at *; omega)) (fun v17 ev17 => ?_)
            exact ok_some ⟨hT, (show ZB σ11.1 ∧ σ11.1 218 7 = σ0.1 218 7 from by exact ⟨hB, ht⟩)⟩
          · exact ok_some ⟨hT, (show ZB σ11.1 ∧ σ11.1 218 7 = σ0.1 218 7 from by exact ⟨hB, ht⟩)⟩
      · exact ok_some ⟨hT, (show ZB σ5.1 ∧ σ5.1 218 7 = σ0.1 218 7 from by exact ⟨hB, ht⟩)⟩

set_option maxHeartbeats 4000000 in
set_option maxRecDepth 100000 in
theorem s_X12_sift {N : Nat} (hN : 1048576 ≤ N) {x1 : Int32} {σ0 : zS}  (hR : RF σ0.2.2) (hM : MW (σ0.1 219) 0) (hB : ZB σ0.1) : Ok (f_X12_sift N 218 x1 σ0) (fun r => Tr [218, 219, 234, 235, 236] σ0 r.2 ∧ (ZB r.2.1 ∧ r.2.1 218 7 = σ0.1 218 7 ∧ MW (r.2.1 219) 0)) := by
  have hT : Tr [218, 219, 234, 235, 236] σ0 σ0 := Tr.rf
  have hn := hM.1
  have he : 0 ≤ (σ0.1 219 2).toInt ∧ (σ0.1 219 2).toInt ≤ 10 := hM.2.1
  have qm := mny_b hn.1 hn.2
  have ht : σ0.1 218 7 = σ0.1 218 7 := rfl
  have hMk := hM
  have h0 : (σ0.1 219 0).toInt = (σ0.1 219 0).toInt := rfl
  rw [f_X12_sift.eq_1]
  refine ok_gC rfl ?_
  refine ok_zbT (Q := fun V σ => (V = 0 ∨ V = 1) ∧ (¬ V = 0 → 0 ≤ x1.toInt ∧ x1.toInt ≤ 9)) hT (s_X12_isRegister hN (hR.tr hT) (hMk)) (fun _ h9 => absurd h9 List.not_mem_nil) (fun v1 σ2 hOσ2 hT hqv1 => ?_)
  have hqv1 : (v1 = 0 ∨ v1 = 1) ∧ (¬ v1 = 0 → 0 ≤ x1.toInt ∧ x1.toInt ≤ 9) := hqv1
  have hB : ZB σ2.1 := ZB.tr hOσ2 (by decide) hB
  have ht : σ2.1 218 7 = σ0.1 218 7 := by rw [hOσ2.2 218 (by decide)] <;> exact ht
  have hMk : MW (σ2.1 219) 0 := by rw [hOσ2.2 219 (by decide)]; exact hMk
  have h0 : (σ2.1 219 0).toInt = (σ0.1 219 0).toInt := by rw [hOσ2.2 219 (by decide)] <;> exact h0
  refine ok_if (fun hc3 => ?_) (fun hc3 => ?_)
  · exact ok_some ⟨hT, (show ZB σ2.1 ∧ σ2.1 218 7 = σ0.1 218 7 ∧ MW (σ2.1 219) 0 from by exact ⟨hB, ht, hMk⟩)⟩
  · have qhc3 := hqv1.2 hc3
    refine ok_lp (fun t : Int32 × Int32 × zS => Tr [218, 219, 234, 235, 236] σ0 (t.2.2) ∧ (0 ≤ (t.2.1).toInt ∧ (t.2.1).toInt ≤ (σ0.1 219 0).toInt) ∧ (ZB (t.2.2).1) ∧ ((t.2.2).1 218 7 = σ0.1 218 7) ∧ (MW ((t.2.2).1 219) 0) ∧ (((t.2.2).1 219 0).toInt = (σ0.1 219 0).toInt)) (fun t : Int32 × Int32 × zS => ((σ0.1 219 0).toInt - (t.2.1).toInt).toNat) (fun again4 t hI ih15_4 => ?_) N _ (show Tr [218, 219, 234, 235, 236] σ0 σ2 ∧ (0 ≤ (0 : Int32).toInt ∧ (0 : Int32).toInt ≤ (σ0.1 219 0).toInt) ∧ (ZB σ2.1) ∧ (σ2.1 218 7 = σ0.1 218 7) ∧ (MW (σ2.1 219) 0) ∧ ((σ2.1 219 0).toInt = (σ0.1 219 0).toInt) from ⟨hT, (by simp only [Int32.reduceToInt]; omega), hB, ht, hMk, h0⟩) (show ((σ0.1 219 0).toInt - (0 : Int32).toInt).toNat < N from (by simp only [Int32.reduceToInt]; omega))
    obtain ⟨x2_4, x3_4, σ4⟩ := t
    have hI : Tr [218, 219, 234, 235, 236] σ0 σ4 ∧ (0 ≤ x3_4.toInt ∧ x3_4.toInt ≤ (σ0.1 219 0).toInt) ∧ (ZB σ4.1) ∧ (σ4.1 218 7 = σ0.1 218 7) ∧ (MW (σ4.1 219) 0) ∧ ((σ4.1 219 0).toInt = (σ0.1 219 0).toInt) := hI
    obtain ⟨hT, hI4, hB, ht, hMk, h0⟩ := hI
    rw [F_X12_sift_15.eq_1]
    have h15 := hI4
    refine ok_gR (v := 219) hT rfl (hR 218 1 rfl) ?_
    refine ok_aIn rfl (by first | omega | decide | (simp only [Int32.le_iff_toInt_le, Int32.lt_iff_toInt_lt, ti_add, ti_sub, ti_mul, Int32.reduceToInt] at *; omega)) (by first | omega | decide | (simp only [Int32.le_iff_toInt_le, Int32.lt_iff_toInt_lt, ti_add, ti_sub, ti_mul, Int32.reduceToInt] at *; omega)) (fun v6 ev6 => ?_)
    have w21 : v6.toInt = (σ0.1 219 0).toInt := by rw [ev6]; exact h0
    refine ok_if (fun hc7 => ?_) (fun hc7 => ?_)
    · exact ok_some ⟨hT, (show ZB σ4.1 ∧ σ4.1 218 7 = σ0.1 218 7 ∧ MW (σ4.1 219) 0 from by exact ⟨hB, ht, hMk⟩)⟩
    · have l22 := hc7
      rw [Int32.le_iff_toInt_le] at l22
      have s22 : (x3_4 + 1).toInt = x3_4.toInt + 1 := by rw [ti_add]; simp only [Int32.reduceToInt]; omega
      refine ok_lp (fun t : Int32 × Int32 × Int32 × zS => Tr [218, 219, 234, 235, 236] σ0 (t.2.2.2) ∧ ((0 ≤ (t.2.2.1).toInt ∧ (t.2.2.1).toInt ≤ (σ0.1 219 0).toInt) ∧ (((t.2.2.1).toInt = 0 ∧ (t.2.1) = -1) ∨ (0 ≤ (t.2.1).toInt ∧ (t.2.1).toInt < (σ0.1 219 0).toInt))) ∧ (ZB (t.2.2.2).1) ∧ ((t.2.2.2).1 218 7 = σ0.1 218 7) ∧ (MW ((t.2.2.2).1 219) 0) ∧ (((t.2.2.2).1 219 0).toInt = (σ0.1 219 0).toInt)) (fun t : Int32 × Int32 × Int32 × zS => ((σ0.1 219 0).toInt - (t.2.2.1).toInt).toNat) (fun again8 t hI ih31_8 => ?_) N _ (show Tr [218, 219, 234, 235, 236] σ0 σ4 ∧ ((0 ≤ (0 : Int32).toInt ∧ (0 : Int32).toInt ≤ (σ0.1 219 0).toInt) ∧ (((0 : Int32).toInt = 0 ∧ (-1 : Int32) = -1) ∨ (0 ≤ (-1 : Int32).toInt ∧ (-1 : Int32).toInt < (σ0.1 219 0).toInt))) ∧ (ZB σ4.1) ∧ (σ4.1 218 7 = σ0.1 218 7) ∧ (MW (σ4.1 219) 0) ∧ ((σ4.1 219 0).toInt = (σ0.1 219 0).toInt) from ⟨hT, (by exact ⟨by simp only [Int32.reduceToInt]; omega, Or.inl ⟨by decide, rfl⟩⟩), hB, ht, hMk, h0⟩) (show ((σ0.1 219 0).toInt - (0 : Int32).toInt).toNat < N from (by simp only [Int32.reduceToInt]; omega))
      obtain ⟨x2_8, x4_8, x5_8, σ8⟩ := t
      have hI : Tr [218, 219, 234, 235, 236] σ0 σ8 ∧ ((0 ≤ x5_8.toInt ∧ x5_8.toInt ≤ (σ0.1 219 0).toInt) ∧ ((x5_8.toInt = 0 ∧ x4_8 = -1) ∨ (0 ≤ x4_8.toInt ∧ x4_8.toInt < (σ0.1 219 0).toInt))) ∧ (ZB σ8.1) ∧ (σ8.1 218 7 = σ0.1 218 7) ∧ (MW (σ8.1 219) 0) ∧ ((σ8.1 219 0).toInt = (σ0.1 219 0).toInt) := hI
      obtain ⟨hT, hI8, hB, ht, hMk, h0⟩ := hI
      rw [F_X12_sift_31.eq_1]
      have h31 := hI8.1
      have k31 := hI8.2
      refine ok_gR (v := 219) hT rfl (hR 218 1 rfl) ?_
      refine ok_aIn rfl (by first | omega | decide | (simp only [Int32.le_iff_toInt_le, Int32.lt_iff_toInt_lt, ti_add, ti_sub, ti_mul, Int32.reduceToInt] at *; omega)) (by first | omega | decide | (simp only [Int32.le_iff_toInt_le, Int32.lt_iff_toInt_lt, ti_add, ti_sub, ti_mul, Int32.reduceToInt] at *; omega)) (fun v10 ev10 => ?_)
      have w38 : v10.toInt = (σ0.1 219 0).toInt := by rw [ev10]; exact h0
      refine ok_if (fun hc11 => ?_) (fun hc11 => ?_)
      · have l39 := hc11
        rw [Int32.le_iff_toInt_le] at l39
        have k39 : 0 ≤ x4_8.toInt ∧ x4_8.toInt < (σ0.1 219 0).toInt := by rcases k31 with q | q; omega; exact q
        refine ok_gC rfl ?_
        refine ok_zbT (Q := fun V σ => MW (σ.1 219) 0 ∧ (σ.1 219 0).toInt = (σ8.1 219 0).toInt) hT (s_X12_goesTo hN (hR.tr hT) (hMk) (by rw [h0]; omega) (by rw [h0]; omega)) (by decide) (fun v12 σ13 hOσ13 hT hqv12 => ?_)
        have hqv12 : MW (σ13.1 219) 0 ∧ (σ13.1 219 0).toInt = (σ8.1 219 0).toInt := hqv12
        have hB : ZB σ13.1 := ZB.tr hOσ13 (by decide) hB
        have ht : σ13.1 218 7 = σ0.1 218 7 := by rw [hOσ13.2 218 (by decide)] <;> exact ht
        have hMk : MW (σ13.1 219) 0 := hqv12.1
        have h0 : (σ13.1 219 0).toInt = (σ0.1 219 0).toInt := hqv12.2.trans h0
        exact ih15_4 (x2_8, x3_4 + 1, σ13) (show Tr [218, 219, 234, 235, 236] σ0 σ13 ∧ (0 ≤ (x3_4 + 1).toInt ∧ (x3_4 + 1).toInt ≤ (σ0.1 219 0).toInt) ∧ (ZB σ13.1) ∧ (σ13.1 218 7 = σ0.1 218 7) ∧ (MW (σ13.1 219) 0) ∧ ((σ13.1 219 0).toInt = (σ0.1 219 0).toInt) from ⟨hT, (by rw [s22]; omega), hB, ht, hMk, h0⟩) (show ((σ0.1 219 0).toInt - (x3_4 + 1).toInt).toNat < ((σ0.1 219 0).toInt - x3_4.toInt).toNat from (by rw [s22]; omega))
      · have l39 := hc11
        rw [Int32.le_iff_toInt_le] at l39
        have s39 : (x5_8 + 1).toInt = x5_8.toInt + 1 := by rw [ti_add]; simp only [Int32.reduceToInt]; omega
        refine ok_gC rfl ?_
        refine ok_zbT (Q := fun V σ => MW (σ.1 219) 0 ∧ (σ.1 219 0).toInt = (σ8.1 219 0).toInt) hT (s_X12_goesTo hN (hR.tr hT) (hMk) (by rw [h0]; omega) (by rw [h0]; omega)) (by decide) (fun v14 σ15 hOσ15 hT hqv14 => ?_)
        have hqv14 : MW (σ15.1 219) 0 ∧ (σ15.1 219 0).toInt = (σ8.1 219 0).toInt := hqv14
        have hB : ZB σ15.1 := ZB.tr hOσ15 (by decide) hB
        have ht : σ15.1 218 7 = σ0.1 218 7 := by rw [hOσ15.2 218 (by decide)] <;> exact ht
        have hMk : MW (σ15.1 219) 0 := hqv14.1
        have h0 : (σ15.1 219 0).toInt = (σ0.1 219 0).toInt := hqv14.2.trans h0
        refine ok_gC rfl ?_
        refine ok_zbT (Q := fun V σ => True) hT (s_X12_takesOrder hN (hR.tr hT) (hMk)) (by decide) (fun v16 σ17 hOσ17 hT hqv16 => ?_)
        have hB : ZB σ17.1 := ZB.tr hOσ17 (by decide) hB
        have ht : σ17.1 218 7 = σ0.1 218 7 := by rw [hOσ17.2 218 (by decide)] <;> exact ht
        have hMk : MW (σ17.1 219) 0 := by rw [hOσ17.2 219 (by decide)]; exact hMk
        have h0 : (σ17.1 219 0).toInt = (σ0.1 219 0).toInt := by rw [hOσ17.2 219 (by decide)] <;> exact h0
        refine ok_gC rfl ?_
        refine ok_zbT (Q := fun V σ => ZB σ.1 ∧ σ.1 218 7 = σ17.1 218 7) hT (s_X12_nodesOf hN (hR.tr hT) (hMk) (hB) (by first | omega | (simp only [Int32.le_iff_toInt_le, Int32.lt_iff_toInt_lt, ti_add, ti_sub, ti_mul, Int32.reduceToInt] at *; omega))) (by decide) (fun v18 σ19 hOσ19 hT hqv18 => ?_)
        have hqv18 : ZB σ19.1 ∧ σ19.1 218 7 = σ17.1 218 7 := hqv18
        have hB : ZB σ19.1 := by first | exact hqv18 | exact hqv18.1 | exact hqv18.1.1 | exact ZB_s eσ19 hB
        have ht : σ19.1 218 7 = σ0.1 218 7 := by first | (rw [zI_atN eσ19 (by decide)]; exact ht) | exact hqv18.2.trans ht | exact hqv18.1.2.trans ht
        have hMk : MW (σ19.1 219) 0 := by rw [hOσ19.2 219 (by decide)]; exact hMk
        have h0 : (σ19.1 219 0).toInt = (σ0.1 219 0).toInt := by rw [hOσ19.2 219 (by decide)] <;> exact h0
        refine ok_if (fun hc20 => ?_) (fun hc20 => ?_)
        · exact ih31_8 (v18, x5_8, x5_8 + 1, σ19) (show Tr [218, 219, 234, 235, 236] σ0 σ19 ∧ ((0 ≤ (x5_8 + 1).toInt ∧ (x5_8 + 1).toInt ≤ (σ0.1 219 0).toInt) ∧ (((x5_8 + 1).toInt = 0 ∧ x5_8 = -1) ∨ (0 ≤ x5_8.toInt ∧ x5_8.toInt < (σ0.1 219 0).toInt))) ∧ (ZB σ19.1) ∧ (σ19.1 218 7 = σ0.1 218 7) ∧ (MW (σ19.1 219) 0) ∧ ((σ19.1 219 0).toInt = (σ0.1 219 0).toInt) from ⟨hT, (by rw [s39]; first | exact ⟨by omega, Or.inr ⟨by omega, by omega⟩⟩ | exact ⟨by omega, Or.inr k63⟩), hB, ht, hMk, h0⟩) (show ((σ0.1 219 0).toInt - (x5_8 + 1).toInt).toNat < ((σ0.1 219 0).toInt - x5_8.toInt).toNat from (by rw [s39]; omega))
        · have k63 : 0 ≤ x4_8.toInt ∧ x4_8.toInt < (σ0.1 219 0).toInt := by rcases k31 with q | q; exact absurd q.2 hc20; exact q
          refine ok_if (fun hc21 => ?_) (fun hc21 => ?_)
          · exact ih31_8 (v18, x5_8, x5_8 + 1, σ19) (show Tr [218, 219, 234, 235, 236] σ0 σ19 ∧ ((0 ≤ (x5_8 + 1).toInt ∧ (x5_8 + 1).toInt ≤ (σ0.1 219 0).toInt) ∧ (((x5_8 + 1).toInt = 0 ∧ x5_8 = -1) ∨ (0 ≤ x5_8.toInt ∧ x5_8.toInt < (σ0.1 219 0).toInt))) ∧ (ZB σ19.1) ∧ (σ19.1 218 7 = σ0.1 218 7) ∧ (MW (σ19.1 219) 0) ∧ ((σ19.1 219 0).toInt = (σ0.1 219 0).toInt) from ⟨hT, (by rw [s39]; first | exact ⟨by omega, Or.inr ⟨by omega, by omega⟩⟩ | exact ⟨by omega, Or.inr k63⟩), hB, ht, hMk, h0⟩) (show ((σ0.1 219 0).toInt - (x5_8 + 1).toInt).toNat < ((σ0.1 219 0).toInt - x5_8.toInt).toNat from (by rw [s39]; omega))
          · exact ih31_8 (x2_8, x4_8, x5_8 + 1, σ19) (show Tr [218, 219, 234, 235, 236] σ0 σ19 ∧ ((0 ≤ (x5_8 + 1).toInt ∧ (x5_8 + 1).toInt ≤ (σ0.1 219 0).toInt) ∧ (((x5_8 + 1).toInt = 0 ∧ x4_8 = -1) ∨ (0 ≤ x4_8.toInt ∧ x4_8.toInt < (σ0.1 219 0).toInt))) ∧ (ZB σ19.1) ∧ (σ19.1 218 7 = σ0.1 218 7) ∧ (MW (σ19.1 219) 0) ∧ ((σ19.1 219 0).toInt = (σ0.1 219 0).toInt) from ⟨hT, (by rw [s39]; first | exact ⟨by omega, Or.inr ⟨by omega, by omega⟩⟩ | exact ⟨by omega, Or.inr k63⟩), hB, ht, hMk, h0⟩) (show ((σ0.1 219 0).toInt - (x5_8 + 1).toInt).toNat < ((σ0.1 219 0).toInt - x5_8.toInt).toNat from (by rw [s39]; omega))

section Zq1_0
set_option maxHeartbeats 4000000 in
set_option maxRecDepth 100000 in
theorem s_X5_isLetter {N : Nat} (hN : 1048576 ≤ N) {x0 : Int32} {σ0 : zS}  (hR : RF σ0.2.2)  : Ok (f_X5_isLetter N x0 σ0) (fun r => Tr [] σ0 r.2 ∧ (r.1 = 0 ∨ r.1 = 1)) := by
  have hT : Tr [] σ0 σ0 := Tr.rf
  rw [f_X5_isLetter.eq_1]
  refine ok_if (fun hc1 => ?_) (fun hc1 => ?_)
  · exact ok_rZ (Or.inl rfl) ⟨hT, (show (0 : Int32) = 0 ∨ (0 : Int32) = 1 from by first | exact Or.inl rfl | exact Or.inr rfl)⟩
  · refine ok_if (fun hc2 => ?_) (fun hc2 => ?_)
    · exact ok_rZ (Or.inl rfl) ⟨hT, (show (0 : Int32) = 0 ∨ (0 : Int32) = 1 from by first | exact Or.inl rfl | exact Or.inr rfl)⟩
    · exact ok_rZ (Or.inr rfl) ⟨hT, (show (1 : Int32) = 0 ∨ (1 : Int32) = 1 from by first | exact Or.inl rfl | exact Or.inr rfl)⟩

set_option maxHeartbeats 4000000 in
set_option maxRecDepth 100000 in
theorem s_X5_isDigit {N : Nat} (hN : 1048576 ≤ N) {x0 : Int32} {σ0 : zS}  (hR : RF σ0.2.2)  : Ok (f_X5_isDigit N x0 σ0) (fun r => Tr [] σ0 r.2 ∧ (r.1 = 0 ∨ r.1 = 1)) := by
  have hT : Tr [] σ0 σ0 := Tr.rf
  rw [f_X5_isDigit.eq_1]
  refine ok_if (fun hc1 => ?_) (fun hc1 => ?_)
  · exact ok_rZ (Or.inl rfl) ⟨hT, (show (0 : Int32) = 0 ∨ (0 : Int32) = 1 from by first | exact Or.inl rfl | exact Or.inr rfl)⟩
  · refine ok_if (fun hc2 => ?_) (fun hc2 => ?_)
    · exact ok_rZ (Or.inl rfl) ⟨hT, (show (0 : Int32) = 0 ∨ (0 : Int32) = 1 from by first | exact Or.inl rfl | exact Or.inr rfl)⟩
    · exact ok_rZ (Or.inr rfl) ⟨hT, (show (1 : Int32) = 0 ∨ (1 : Int32) = 1 from by first | exact Or.inl rfl | exact Or.inr rfl)⟩

set_option maxHeartbeats 4000000 in
set_option maxRecDepth 100000 in
theorem s_X5_combination {N : Nat} (hN : 1048576 ≤ N) {x0 : Int32} {σ0 : zS}  (hR : RF σ0.2.2)  : Ok (f_X5_combination N x0 σ0) (fun r => Tr [] σ0 r.2 ∧ (True)) := by
  have hT : Tr [] σ0 σ0 := Tr.rf
  rw [f_X5_combination.eq_1]
  refine ok_if (fun hc1 => ?_) (fun hc1 => ?_)
  · exact ok_some ⟨hT, trivial⟩
  refine ok_if (fun hc2 => ?_) (fun hc2 => ?_)
  · exact ok_some ⟨hT, trivial⟩
  refine ok_if (fun hc3 => ?_) (fun hc3 => ?_)
  · exact ok_some ⟨hT, trivial⟩
  refine ok_if (fun hc4 => ?_) (fun hc4 => ?_)
  · exact ok_some ⟨hT, trivial⟩
  refine ok_if (fun hc5 => ?_) (fun hc5 => ?_)
  · exact ok_some ⟨hT, trivial⟩
  refine ok_if (fun hc6 => ?_) (fun hc6 => ?_)
  · exact ok_some ⟨hT, trivial⟩
  refine ok_if (fun hc7 => ?_) (fun hc7 => ?_)
  · exact ok_some ⟨hT, trivial⟩
  refine ok_if (fun hc8 => ?_) (fun hc8 => ?_)
  · exact ok_some ⟨hT, trivial⟩
  refine ok_if (fun hc9 => ?_) (fun hc9 => ?_)
  · exact ok_some ⟨hT, trivial⟩
  refine ok_if (fun hc10 => ?_) (fun hc10 => ?_)
  · exact ok_some ⟨hT, trivial⟩
  refine ok_if (fun hc11 => ?_) (fun hc11 => ?_)
  · exact ok_some ⟨hT, trivial⟩
  refine ok_if (fun hc12 => ?_) (fun hc12 => ?_)
  · exact ok_some ⟨hT, trivial⟩
  refine ok_if (fun hc13 => ?_) (fun hc13 => ?_)
  · exact ok_some ⟨hT, trivial⟩
  exact ok_some ⟨hT, trivial⟩

set_option maxHeartbeats 4000000 in
set_option maxRecDepth 100000 in
theorem s_X5_isSign {N : Nat} (hN : 1048576 ≤ N) {x0 : Int32} {σ0 : zS}  (hR : RF σ0.2.2)  : Ok (f_X5_isSign N x0 σ0) (fun r => Tr [] σ0 r.2 ∧ (r.1 = 0 ∨ r.1 = 1)) := by
  have hT : Tr [] σ0 σ0 := Tr.rf
  rw [f_X5_isSign.eq_1]
  refine ok_if (fun hc1 => ?_) (fun hc1 => ?_)
  · exact ok_rZ (Or.inr rfl) ⟨hT, (show (1 : Int32) = 0 ∨ (1 : Int32) = 1 from by first | exact Or.inl rfl | exact Or.inr rfl)⟩
  · refine ok_if (fun hc2 => ?_) (fun hc2 => ?_)
    · exact ok_rZ (Or.inr rfl) ⟨hT, (show (1 : Int32) = 0 ∨ (1 : Int32) = 1 from by first | exact Or.inl rfl | exact Or.inr rfl)⟩
    · refine ok_if (fun hc3 => ?_) (fun hc3 => ?_)
      · exact ok_rZ (Or.inr rfl) ⟨hT, (show (1 : Int32) = 0 ∨ (1 : Int32) = 1 from by first | exact Or.inl rfl | exact Or.inr rfl)⟩
      · refine ok_if (fun hc4 => ?_) (fun hc4 => ?_)
        · exact ok_rZ (Or.inr rfl) ⟨hT, (show (1 : Int32) = 0 ∨ (1 : Int32) = 1 from by first | exact Or.inl rfl | exact Or.inr rfl)⟩
        · refine ok_if (fun hc5 => ?_) (fun hc5 => ?_)
          · exact ok_rZ (Or.inr rfl) ⟨hT, (show (1 : Int32) = 0 ∨ (1 : Int32) = 1 from by first | exact Or.inl rfl | exact Or.inr rfl)⟩
          · refine ok_if (fun hc6 => ?_) (fun hc6 => ?_)
            · exact ok_rZ (Or.inr rfl) ⟨hT, (show (1 : Int32) = 0 ∨ (1 : Int32) = 1 from by first | exact Or.inl rfl | exact Or.inr rfl)⟩
            · refine ok_if (fun hc7 => ?_) (fun hc7 => ?_)
              · exact ok_rZ (Or.inr rfl) ⟨hT, (show (1 : Int32) = 0 ∨ (1 : Int32) = 1 from by first | exact Or.inl rfl | exact Or.inr rfl)⟩
              · refine ok_zbT (Q := fun V σ => True) hT (s_X5_combination hN (hR.tr hT) ) (fun _ h9 => absurd h9 List.not_mem_nil) (fun v8 σ9 hOσ9 hT hqv8 => ?_)
                refine ok_if (fun hc10 => ?_) (fun hc10 => ?_)
                · exact ok_rZ (Or.inl rfl) ⟨hT, (show (0 : Int32) = 0 ∨ (0 : Int32) = 1 from by first | exact Or.inl rfl | exact Or.inr rfl)⟩
                · exact ok_rZ (Or.inr rfl) ⟨hT, (show (1 : Int32) = 0 ∨ (1 : Int32) = 1 from by first | exact Or.inl rfl | exact Or.inr rfl)⟩

set_option maxHeartbeats 4000000 in
set_option maxRecDepth 100000 in
theorem s_X5_spells {N : Nat} (hN : 1048576 ≤ N) {x1 : Nat} {x2 : Int32} {x3 : Int32} {σ0 : zS}  (hR : RF σ0.2.2) (hX : σ0.2.2 57 5 = 1) (hD : RD σ0.1) (hi : x1 < zSn) (hr : 0 ≤ x2.toInt ∧ x2.toInt ≤ 600 ∧ 0 ≤ x3.toInt ∧ x3.toInt ≤ 600) : Ok (f_X5_spells N 57 x1 x2 x3 σ0) (fun r => Tr [] σ0 r.2 ∧ (r.1 = 0 ∨ r.1 = 1)) := by
  have hT : Tr [] σ0 σ0 := Tr.rf
  have hD0 := hD
  rw [f_X5_spells.eq_1]
  refine ok_zbT (Q := fun V σ => V.toInt = ((zlen.getD x1 0 : Nat) : Int) ∧ V.toInt ≤ 6) hT (s_J0_length_8abf5 hN (hR.tr hT) (hi)) (fun _ h9 => absurd h9 List.not_mem_nil) (fun v1 σ2 hOσ2 hT hqv1 => ?_)
  have hqv1 : v1.toInt = ((zlen.getD x1 0 : Nat) : Int) ∧ v1.toInt ≤ 6 := hqv1
  refine ok_if (fun hc3 => ?_) (fun hc3 => ?_)
  · rw [ti_eq] at hc3
    refine ok_if (fun hc4 => ?_) (fun hc4 => ?_)
    · exact ok_rZ (Or.inl rfl) ⟨hT, (show (0 : Int32) = 0 ∨ (0 : Int32) = 1 from by first | exact Or.inl rfl | exact Or.inr rfl)⟩
    · refine ok_gI0 hT rfl (by decide) ?_
      refine ok_if (fun hc6 => ?_) (fun hc6 => ?_)
      · refine ok_lp (fun t : Int32 × zS => Tr [] σ0 (t.2) ∧ (0 ≤ (t.1).toInt)) (fun t : Int32 × zS => (10 - (t.1).toInt).toNat) (fun again7 t hI ih27_7 => ?_) N _ (show Tr [] σ0 σ2 ∧ (0 ≤ (0 : Int32).toInt) from ⟨hT, (by have q1 := hD.1; have q2 := hD.2.1; have q3 := hD0.1; have q4 := hD0.2.1; first | omega | decide | (simp only [Int32.le_iff_toInt_le, Int32.lt_iff_toInt_lt, ti_add, ti_sub, ti_mul, Int32.reduceToInt] at *; omega))⟩) (show (10 - (0 : Int32).toInt).toNat < N from (by have q1 := hD.1; have q2 := hD.2.1; have q3 := hD0.1; have q4 := hD0.2.1; first | omega | decide | (simp only [Int32.le_iff_toInt_le, Int32.lt_iff_toInt_lt, ti_add, ti_sub, ti_mul, Int32.reduceToInt] at *; omega)))
        obtain ⟨x4_7, σ7⟩ := t
        have hI : Tr [] σ0 σ7 ∧ (0 ≤ x4_7.toInt) := hI
        obtain ⟨hT, hI7⟩ := hI
        rw [F_X5_spells_27.eq_1]
        refine ok_zbT (Q := fun V σ => V.toInt = ((zlen.getD x1 0 : Nat) : Int) ∧ V.toInt ≤ 6) hT (s_J0_length_8abf5 hN (hR.tr hT) (hi)) (fun _ h9 => absurd h9 List.not_mem_nil) (fun v8 σ9 hOσ9 hT hqv8 => ?_)
        have hqv8 : v8.toInt = ((zlen.getD x1 0 : Nat) : Int) ∧ v8.toInt ≤ 6 := hqv8
        refine ok_if (fun hc10 => ?_) (fun hc10 => ?_)
        · exact ok_rZ (Or.inr rfl) ⟨hT, (show (1 : Int32) = 0 ∨ (1 : Int32) = 1 from by first | exact Or.inl rfl | exact Or.inr rfl)⟩
        · refine ok_gRX hT hX ?_
          refine ok_aIn rfl (by have q1 := hD.1; have q2 := hD.2.1; have q3 := hD0.1; have q4 := hD0.2.1; first | omega | decide | (simp only [Int32.le_iff_toInt_le, Int32.lt_iff_toInt_lt, ti_add, ti_sub, ti_mul, Int32.reduceToInt] at *; omega)) (by have q1 := hD.1; have q2 := hD.2.1; have q3 := hD0.1; have q4 := hD0.2.1; first | omega | decide | (simp only [Int32.le_iff_toInt_le, Int32.lt_iff_toInt_lt, ti_add, ti_sub, ti_mul, Int32.reduceToInt] at *; omega)) (fun v12 ev12 => ?_)
          refine ok_zbT (Q := fun V σ => True) hT (s_J0_charAt_5068e hN (hR.tr hT) (hi) (by have q1 := hD.1; have q2 := hD.2.1; have q3 := hD0.1; have q4 := hD0.2.1; first | omega | decide | (simp only [Int32.le_iff_toInt_le, Int32.lt_iff_toInt_lt, ti_add, ti_sub, ti_mul, Int32.reduceToInt] at *; omega)) (by have q1 := hD.1; have q2 := hD.2.1; have q3 := hD0.1; have q4 := hD0.2.1; first | omega | decide | (simp only [Int32.le_iff_toInt_le, Int32.lt_iff_toInt_lt, ti_add, ti_sub, ti_mul, Int32.reduceToInt] at *; omega))) (fun _ h9 => absurd h9 List.not_mem_nil) (fun v13 σ14 hOσ14 hT hqv13 => ?_)
          refine ok_if (fun hc15 => ?_) (fun hc15 => ?_)
          · exact ih27_7 (x4_7 + 1, σ14) (show Tr [] σ0 σ14 ∧ (0 ≤ (x4_7 + 1).toInt) from ⟨hT, (by have q1 := hD.1; have q2 := hD.2.1; have q3 := hD0.1; have q4 := hD0.2.1; first | omega | decide | (simp only [Int32.le_iff_toInt_le, Int32.lt_iff_toInt_lt, ti_add, ti_sub, ti_mul, Int32.reduceToInt] at *; omega))⟩) (show (10 - (x4_7 + 1).toInt).toNat < (10 - x4_7.toInt).toNat from (by have q1 := hD.1; have q2 := hD.2.1; have q3 := hD0.1; have q4 := hD0.2.1; first | omega | decide | (simp only [Int32.le_iff_toInt_le, Int32.lt_iff_toInt_lt, ti_add, ti_sub, ti_mul, Int32.reduceToInt] at *; omega)))
          · exact ok_rZ (Or.inl rfl) ⟨hT, (show (0 : Int32) = 0 ∨ (0 : Int32) = 1 from by first | exact Or.inl rfl | exact Or.inr rfl)⟩
      · exact ok_rZ (Or.inl rfl) ⟨hT, (show (0 : Int32) = 0 ∨ (0 : Int32) = 1 from by first | exact Or.inl rfl | exact Or.inr rfl)⟩
  · exact ok_rZ (Or.inl rfl) ⟨hT, (show (0 : Int32) = 0 ∨ (0 : Int32) = 1 from by first | exact Or.inl rfl | exact Or.inr rfl)⟩

set_option maxHeartbeats 4000000 in
set_option maxRecDepth 100000 in
theorem s_X5_wordValue {N : Nat} (hN : 1048576 ≤ N) {x1 : Int32} {x2 : Int32} {σ0 : zS}  (hR : RF σ0.2.2) (hX : σ0.2.2 57 5 = 1) (hD : RD σ0.1) (hr : 0 ≤ x1.toInt ∧ x1.toInt ≤ 600 ∧ 0 ≤ x2.toInt ∧ x2.toInt ≤ 600) : Ok (f_X5_wordValue N 57 x1 x2 σ0) (fun r => Tr [] σ0 r.2 ∧ (True)) := by
  have hT : Tr [] σ0 σ0 := Tr.rf
  rw [f_X5_wordValue.eq_1]
  refine ok_gC rfl ?_
  refine ok_zbT (Q := fun V σ => V = 0 ∨ V = 1) hT (s_X5_spells hN (hR.tr hT) (hT.1.2 hX) (RD.tr hT (by decide) (by decide) (by decide) (by decide) hD) (by decide) (hr)) (fun _ h9 => absurd h9 List.not_mem_nil) (fun v1 σ2 hOσ2 hT hqv1 => ?_)
  have hqv1 : v1 = 0 ∨ v1 = 1 := hqv1
  refine ok_if (fun hc3 => ?_) (fun hc3 => ?_)
  · refine ok_gC rfl ?_
    refine ok_zbT (Q := fun V σ => V = 0 ∨ V = 1) hT (s_X5_spells hN (hR.tr hT) (hT.1.2 hX) (RD.tr hT (by decide) (by decide) (by decide) (by decide) hD) (by decide) (hr)) (fun _ h9 => absurd h9 List.not_mem_nil) (fun v4 σ5 hOσ5 hT hqv4 => ?_)
    have hqv4 : v4 = 0 ∨ v4 = 1 := hqv4
    refine ok_if (fun hc6 => ?_) (fun hc6 => ?_)
    · refine ok_gC rfl ?_
      refine ok_zbT (Q := fun V σ => V = 0 ∨ V = 1) hT (s_X5_spells hN (hR.tr hT) (hT.1.2 hX) (RD.tr hT (by decide) (by decide) (by decide) (by decide) hD) (by decide) (hr)) (fun _ h9 => absurd h9 List.not_mem_nil) (fun v7 σ8 hOσ8 hT hqv7 => ?_)
      have hqv7 : v7 = 0 ∨ v7 = 1 := hqv7
      refine ok_if (fun hc9 => ?_) (fun hc9 => ?_)
      · refine ok_gC rfl ?_
        refine ok_zbT (Q := fun V σ => V = 0 ∨ V = 1) hT (s_X5_spells hN (hR.tr hT) (hT.1.2 hX) (RD.tr hT (by decide) (by decide) (by decide) (by decide) hD) (by decide) (hr)) (fun _ h9 => absurd h9 List.not_mem_nil) (fun v10 σ11 hOσ11 hT hqv10 => ?_)
        have hqv10 : v10 = 0 ∨ v10 = 1 := hqv10
        refine ok_if (fun hc12 => ?_) (fun hc12 => ?_)
        · refine ok_gC rfl ?_
          refine ok_zbT (Q := fun V σ => V = 0 ∨ V = 1) hT (s_X5_spells hN (hR.tr hT) (hT.1.2 hX) (RD.tr hT (by decide) (by decide) (by decide) (by decide) hD) (by decide) (hr)) (fun _ h9 => absurd h9 List.not_mem_nil) (fun v13 σ14 hOσ14 hT hqv13 => ?_)
          have hqv13 : v13 = 0 ∨ v13 = 1 := hqv13
          refine ok_if (fun hc15 => ?_) (fun hc15 => ?_)
          · refine ok_gC rfl ?_
            refine ok_zbT (Q := fun V σ => V = 0 ∨ V = 1) hT (s_X5_spells hN (hR.tr hT) (hT.1.2 hX) (RD.tr hT (by decide) (by decide) (by decide) (by decide) hD) (by decide) (hr)) (fun _ h9 => absurd h9 List.not_mem_nil) (fun v16 σ17 hOσ17 hT hqv16 => ?_)
            have hqv16 : v16 = 0 ∨ v16 = 1 := hqv16
            refine ok_if (fun hc18 => ?_) (fun hc18 => ?_)
            · refine ok_gC rfl ?_
              refine ok_zbT (Q := fun V σ => V = 0 ∨ V = 1) hT (s_X5_spells hN (hR.tr hT) (hT.1.2 hX) (RD.tr hT (by decide) (by decide) (by decide) (by decide) hD) (by decide) (hr)) (fun _ h9 => absurd h9 List.not_mem_nil) (fun v19 σ20 hOσ20 hT hqv19 => ?_)
              have hqv19 : v19 = 0 ∨ v19 = 1 := hqv19
              refine ok_if (fun hc21 => ?_) (fun hc21 => ?_)
              · refine ok_gC rfl ?_
                refine ok_zbT (Q := fun V σ => V = 0 ∨ V = 1) hT (s_X5_spells hN (hR.tr hT) (hT.1.2 hX) (RD.tr hT (by decide) (by decide) (by decide) (by decide) hD) (by decide) (hr)) (fun _ h9 => absurd h9 List.not_mem_nil) (fun v22 σ23 hOσ23 hT hqv22 => ?_)
                have hqv22 : v22 = 0 ∨ v22 = 1 := hqv22
                refine ok_if (fun hc24 => ?_) (fun hc24 => ?_)
                · refine ok_gC rfl ?_
                  refine ok_zbT (Q := fun V σ => V = 0 ∨ V = 1) hT (s_X5_spells hN (hR.tr hT) (hT.1.2 hX) (RD.tr hT (by decide) (by decide) (by decide) (by decide) hD) (by decide) (hr)) (fun _ h9 => absurd h9 List.not_mem_nil) (fun v25 σ26 hOσ26 hT hqv25 => ?_)
                  have hqv25 : v25 = 0 ∨ v25 = 1 := hqv25
                  refine ok_if (fun hc27 => ?_) (fun hc27 => ?_)
                  · refine ok_gC rfl ?_
                    refine ok_zbT (Q := fun V σ => V = 0 ∨ V = 1) hT (s_X5_spells hN (hR.tr hT) (hT.1.2 hX) (RD.tr hT (by decide) (by decide) (by decide) (by decide) hD) (by decide) (hr)) (fun _ h9 => absurd h9 List.not_mem_nil) (fun v28 σ29 hOσ29 hT hqv28 => ?_)
                    have hqv28 : v28 = 0 ∨ v28 = 1 := hqv28
                    refine ok_if (fun hc30 => ?_) (fun hc30 => ?_)
                    · refine ok_gC rfl ?_
                      refine ok_zbT (Q := fun V σ => V = 0 ∨ V = 1) hT (s_X5_spells hN (hR.tr hT) (hT.1.2 hX) (RD.tr hT (by decide) (by decide) (by decide) (by decide) hD) (by decide) (hr)) (fun _ h9 => absurd h9 List.not_mem_nil) (fun v31 σ32 hOσ32 hT hqv31 => ?_)
                      have hqv31 : v31 = 0 ∨ v31 = 1 := hqv31
                      refine ok_if (fun hc33 => ?_) (fun hc33 => ?_)
                      · exact ok_some ⟨hT, trivial⟩
                      · exact ok_some ⟨hT, trivial⟩
                    · exact ok_some ⟨hT, trivial⟩
                  · exact ok_some ⟨hT, trivial⟩
                · exact ok_some ⟨hT, trivial⟩
              · exact ok_some ⟨hT, trivial⟩
            · exact ok_some ⟨hT, trivial⟩
          · exact ok_some ⟨hT, trivial⟩
        · exact ok_some ⟨hT, trivial⟩
      · exact ok_some ⟨hT, trivial⟩
    · exact ok_some ⟨hT, trivial⟩
  · exact ok_some ⟨hT, trivial⟩

set_option maxHeartbeats 4000000 in
set_option maxRecDepth 100000 in
theorem s_X5_splitWord {N : Nat} (hN : 1048576 ≤ N) {x1 : Int32} {x2 : Int32} {σ0 : zS}  (hR : RF σ0.2.2) (hX : σ0.2.2 57 5 = 1) (hD : RD σ0.1) (h1 : 0 ≤ x1.toInt ∧ x1.toInt ≤ 599) (h2 : 0 ≤ x2.toInt ∧ x2.toInt ≤ 600) : Ok (f_X5_splitWord N 57 x1 x2 σ0) (fun r => Tr [61, 62] σ0 r.2 ∧ (x2.toInt ≤ r.1.toInt ∧ r.1.toInt ≤ 600 ∧ RD r.2.1)) := by
  have hT : Tr [61, 62] σ0 σ0 := Tr.rf
  have hD0 := hD
  rw [f_X5_splitWord.eq_1]
  refine ok_lp (fun t : Int32 × zS => Tr [61, 62] σ0 (t.2) ∧ (x2.toInt ≤ (t.1).toInt ∧ (t.1).toInt ≤ 600) ∧ (RD (t.2).1)) (fun t : Int32 × zS => (600 - (t.1).toInt).toNat) (fun again1 t hI ih2_1 => ?_) N _ (show Tr [61, 62] σ0 σ0 ∧ (x2.toInt ≤ x2.toInt ∧ x2.toInt ≤ 600) ∧ (RD σ0.1) from ⟨hT, (by have q1 := hD.1; have q2 := hD.2.1; have q3 := hD0.1; have q4 := hD0.2.1; first | omega | decide | (simp only [Int32.le_iff_toInt_le, Int32.lt_iff_toInt_lt, ti_add, ti_sub, ti_mul, Int32.reduceToInt] at *; omega)), hD⟩) (show (600 - x2.toInt).toNat < N from (by have q1 := hD.1; have q2 := hD.2.1; have q3 := hD0.1; have q4 := hD0.2.1; first | omega | decide | (simp only [Int32.le_iff_toInt_le, Int32.lt_iff_toInt_lt, ti_add, ti_sub, ti_mul, Int32.reduceToInt] at *; omega)))
  obtain ⟨x3_1, σ1⟩ := t
  have hI : Tr [61, 62] σ0 σ1 ∧ (x2.toInt ≤ x3_1.toInt ∧ x3_1.toInt ≤ 600) ∧ (RD σ1.1) := hI
  obtain ⟨hT, hI1, hD⟩ := hI
  rw [F_X5_splitWord_2.eq_1]
  refine ok_gI0 hT rfl (by decide) ?_
  refine ok_if (fun hc3 => ?_) (fun hc3 => ?_)
  · rw [J_X5_splitWord_28.eq_1]
    refine ok_gR (v := 61) hT rfl (hR 57 10 rfl) ?_
    refine ok_s14 hT rfl (by decide) (by have q1 := hD.1; have q2 := hD.2.1; have q3 := hD0.1; have q4 := hD0.2.1; first | omega | decide | (simp only [Int32.le_iff_toInt_le, Int32.lt_iff_toInt_lt, ti_add, ti_sub, ti_mul, Int32.reduceToInt] at *; omega)) (by have q1 := hD.1; have q2 := hD.2.1; have q3 := hD0.1; have q4 := hD0.2.1; first | omega | decide | (simp only [Int32.le_iff_toInt_le, Int32.lt_iff_toInt_lt, ti_add, ti_sub, ti_mul, Int32.reduceToInt] at *; omega)) (fun σ5 eσ5 hOσ5 hT => ?_)
    have hD : RD σ5.1 := RD_k eσ5 (Or.inl (by omega)) hD
    refine ok_gR (v := 62) hT rfl (hR 57 11 rfl) ?_
    refine ok_gC rfl ?_
    refine ok_zbT (Q := fun V σ => True) hT (s_X5_wordValue hN (hR.tr hT) (hT.1.2 hX) (hD) (by have q1 := hD.1; have q2 := hD.2.1; have q3 := hD0.1; have q4 := hD0.2.1; first | omega | decide | (simp only [Int32.le_iff_toInt_le, Int32.lt_iff_toInt_lt, ti_add, ti_sub, ti_mul, Int32.reduceToInt] at *; omega))) (fun _ h9 => absurd h9 List.not_mem_nil) (fun v7 σ8 hOσ8 hT hqv7 => ?_)
    have hD : RD σ8.1 := RD.tr hOσ8 (by decide) (by decide) (by decide) (by decide) hD
    refine ok_s14 hT rfl (by decide) (by have q1 := hD.1; have q2 := hD.2.1; have q3 := hD0.1; have q4 := hD0.2.1; first | omega | decide | (simp only [Int32.le_iff_toInt_le, Int32.lt_iff_toInt_lt, ti_add, ti_sub, ti_mul, Int32.reduceToInt] at *; omega)) (by have q1 := hD.1; have q2 := hD.2.1; have q3 := hD0.1; have q4 := hD0.2.1; first | omega | decide | (simp only [Int32.le_iff_toInt_le, Int32.lt_iff_toInt_lt, ti_add, ti_sub, ti_mul, Int32.reduceToInt] at *; omega)) (fun σ9 eσ9 hOσ9 hT => ?_)
    have hD : RD σ9.1 := RD.tr hOσ9 (by decide) (by decide) (by decide) (by decide) hD
    exact ok_some ⟨hT, (show x2.toInt ≤ x3_1.toInt ∧ x3_1.toInt ≤ 600 ∧ RD σ9.1 from by exact ⟨by omega, by omega, hD⟩)⟩
  · refine ok_gRX hT hX ?_
    refine ok_aIn rfl (by have q1 := hD.1; have q2 := hD.2.1; have q3 := hD0.1; have q4 := hD0.2.1; first | omega | decide | (simp only [Int32.le_iff_toInt_le, Int32.lt_iff_toInt_lt, ti_add, ti_sub, ti_mul, Int32.reduceToInt] at *; omega)) (by have q1 := hD.1; have q2 := hD.2.1; have q3 := hD0.1; have q4 := hD0.2.1; first | omega | decide | (simp only [Int32.le_iff_toInt_le, Int32.lt_iff_toInt_lt, ti_add, ti_sub, ti_mul, Int32.reduceToInt] at *; omega)) (fun v11 ev11 => ?_)
    refine ok_zbT (Q := fun V σ => V = 0 ∨ V = 1) hT (s_X5_isLetter hN (hR.tr hT) ) (fun _ h9 => absurd h9 List.not_mem_nil) (fun v12 σ13 hOσ13 hT hqv12 => ?_)
    have hqv12 : v12 = 0 ∨ v12 = 1 := hqv12
    have hD : RD σ13.1 := RD.tr hOσ13 (by decide) (by decide) (by decide) (by decide) hD
    refine ok_if (fun hc14 => ?_) (fun hc14 => ?_)
    · rw [J_X5_splitWord_28.eq_1]
      refine ok_gR (v := 61) hT rfl (hR 57 10 rfl) ?_
      refine ok_s14 hT rfl (by decide) (by have q1 := hD.1; have q2 := hD.2.1; have q3 := hD0.1; have q4 := hD0.2.1; first | omega | decide | (simp only [Int32.le_iff_toInt_le, Int32.lt_iff_toInt_lt, ti_add, ti_sub, ti_mul, Int32.reduceToInt] at *; omega)) (by have q1 := hD.1; have q2 := hD.2.1; have q3 := hD0.1; have q4 := hD0.2.1; first | omega | decide | (simp only [Int32.le_iff_toInt_le, Int32.lt_iff_toInt_lt, ti_add, ti_sub, ti_mul, Int32.reduceToInt] at *; omega)) (fun σ16 eσ16 hOσ16 hT => ?_)
      have hD : RD σ16.1 := RD_k eσ16 (Or.inl (by omega)) hD
      refine ok_gR (v := 62) hT rfl (hR 57 11 rfl) ?_
      refine ok_gC rfl ?_
      refine ok_zbT (Q := fun V σ => True) hT (s_X5_wordValue hN (hR.tr hT) (hT.1.2 hX) (hD) (by have q1 := hD.1; have q2 := hD.2.1; have q3 := hD0.1; have q4 := hD0.2.1; first | omega | decide | (simp only [Int32.le_iff_toInt_le, Int32.lt_iff_toInt_lt, ti_add, ti_sub, ti_mul, Int32.reduceToInt] at *; omega))) (fun _ h9 => absurd h9 List.not_mem_nil) (fun v18 σ19 hOσ19 hT hqv18 => ?_)
      have hD : RD σ19.1 := RD.tr hOσ19 (by decide) (by decide) (by decide) (by decide) hD
      refine ok_s14 hT rfl (by decide) (by have q1 := hD.1; have q2 := hD.2.1; have q3 := hD0.1; have q4 := hD0.2.1; first | omega | decide | (simp only [Int32.le_iff_toInt_le, Int32.lt_iff_toInt_lt, ti_add, ti_sub, ti_mul, Int32.reduceToInt] at *; omega)) (by have q1 := hD.1; have q2 := hD.2.1; have q3 := hD0.1; have q4 := hD0.2.1; first | omega | decide | (simp only [Int32.le_iff_toInt_le, Int32.lt_iff_toInt_lt, ti_add, ti_sub, ti_mul, Int32.reduceToInt] at *; omega)) (fun σ20 eσ20 hOσ20 hT => ?_)
      have hD : RD σ20.1 := RD.tr hOσ20 (by decide) (by decide) (by decide) (by decide) hD
      exact ok_some ⟨hT, (show x2.toInt ≤ x3_1.toInt ∧ x3_1.toInt ≤ 600 ∧ RD σ20.1 from by exact ⟨by omega, by omega, hD⟩)⟩
    · exact ih2_1 (x3_1 + 1, σ13) (show Tr [61, 62] σ0 σ13 ∧ (x2.toInt ≤ (x3_1 + 1).toInt ∧ (x3_1 + 1).toInt ≤ 600) ∧ (RD σ13.1) from ⟨hT, (by have q1 := hD.1; have q2 := hD.2.1; have q3 := hD0.1; have q4 := hD0.2.1; first | omega | decide | (simp only [Int32.le_iff_toInt_le, Int32.lt_iff_toInt_lt, ti_add, ti_sub, ti_mul, Int32.reduceToInt] at *; omega)), hD⟩) (show (600 - (x3_1 + 1).toInt).toNat < (600 - x3_1.toInt).toNat from (by have q1 := hD.1; have q2 := hD.2.1; have q3 := hD0.1; have q4 := hD0.2.1; first | omega | decide | (simp only [Int32.le_iff_toInt_le, Int32.lt_iff_toInt_lt, ti_add, ti_sub, ti_mul, Int32.reduceToInt] at *; omega)))

set_option maxHeartbeats 4000000 in
set_option maxRecDepth 100000 in
theorem s_X5_splitNumber {N : Nat} (hN : 1048576 ≤ N) {x1 : Int32} {x2 : Int32} {σ0 : zS}  (hR : RF σ0.2.2) (hX : σ0.2.2 57 5 = 1) (hD : RD σ0.1) (h1 : 0 ≤ x1.toInt ∧ x1.toInt ≤ 599) (h2 : 0 ≤ x2.toInt ∧ x2.toInt ≤ 600) : Ok (f_X5_splitNumber N 57 x1 x2 σ0) (fun r => Tr [61, 62] σ0 r.2 ∧ (x2.toInt ≤ r.1.toInt ∧ r.1.toInt ≤ 600 ∧ RD r.2.1)) := by
  have hT : Tr [61, 62] σ0 σ0 := Tr.rf
  have hD0 := hD
  rw [f_X5_splitNumber.eq_1]
  refine ok_lp (fun t : Int32 × Int32 × zS => Tr [61, 62] σ0 (t.2.2) ∧ (x2.toInt ≤ (t.1).toInt ∧ (t.1).toInt ≤ 600) ∧ (RD (t.2.2).1)) (fun t : Int32 × Int32 × zS => (600 - (t.1).toInt).toNat) (fun again1 t hI ih5_1 => ?_) N _ (show Tr [61, 62] σ0 σ0 ∧ (x2.toInt ≤ x2.toInt ∧ x2.toInt ≤ 600) ∧ (RD σ0.1) from ⟨hT, (by have q1 := hD.1; have q2 := hD.2.1; have q3 := hD0.1; have q4 := hD0.2.1; first | omega | decide | (simp only [Int32.le_iff_toInt_le, Int32.lt_iff_toInt_lt, ti_add, ti_sub, ti_mul, Int32.reduceToInt] at *; omega)), hD⟩) (show (600 - x2.toInt).toNat < N from (by have q1 := hD.1; have q2 := hD.2.1; have q3 := hD0.1; have q4 := hD0.2.1; first | omega | decide | (simp only [Int32.le_iff_toInt_le, Int32.lt_iff_toInt_lt, ti_add, ti_sub, ti_mul, Int32.reduceToInt] at *; omega)))
  obtain ⟨x3_1, x4_1, σ1⟩ := t
  have hI : Tr [61, 62] σ0 σ1 ∧ (x2.toInt ≤ x3_1.toInt ∧ x3_1.toInt ≤ 600) ∧ (RD σ1.1) := hI
  obtain ⟨hT, hI1, hD⟩ := hI
  rw [F_X5_splitNumber_5.eq_1]
  refine ok_gI0 hT rfl (by decide) ?_
  refine ok_if (fun hc3 => ?_) (fun hc3 => ?_)
  · refine ok_gR (v := 61) hT rfl (hR 57 10 rfl) ?_
    refine ok_s14 hT rfl (by decide) (by have q1 := hD.1; have q2 := hD.2.1; have q3 := hD0.1; have q4 := hD0.2.1; first | omega | decide | (simp only [Int32.le_iff_toInt_le, Int32.lt_iff_toInt_lt, ti_add, ti_sub, ti_mul, Int32.reduceToInt] at *; omega)) (by have q1 := hD.1; have q2 := hD.2.1; have q3 := hD0.1; have q4 := hD0.2.1; first | omega | decide | (simp only [Int32.le_iff_toInt_le, Int32.lt_iff_toInt_lt, ti_add, ti_sub, ti_mul, Int32.reduceToInt] at *; omega)) (fun σ5 eσ5 hOσ5 hT => ?_)
    have hD : RD σ5.1 := RD_k eσ5 (Or.inl (by omega)) hD
    refine ok_gR (v := 62) hT rfl (hR 57 11 rfl) ?_
    refine ok_s14 hT rfl (by decide) (by have q1 := hD.1; have q2 := hD.2.1; have q3 := hD0.1; have q4 := hD0.2.1; first | omega | decide | (simp only [Int32.le_iff_toInt_le, Int32.lt_iff_toInt_lt, ti_add, ti_sub, ti_mul, Int32.reduceToInt] at *; omega)) (by have q1 := hD.1; have q2 := hD.2.1; have q3 := hD0.1; have q4 := hD0.2.1; first | omega | decide | (simp only [Int32.le_iff_toInt_le, Int32.lt_iff_toInt_lt, ti_add, ti_sub, ti_mul, Int32.reduceToInt] at *; omega)) (fun σ7 eσ7 hOσ7 hT => ?_)
    have hD : RD σ7.1 := RD.tr hOσ7 (by decide) (by decide) (by decide) (by decide) hD
    exact ok_some ⟨hT, (show x2.toInt ≤ x3_1.toInt ∧ x3_1.toInt ≤ 600 ∧ RD σ7.1 from by exact ⟨by omega, by omega, hD⟩)⟩
  · refine ok_gRX hT hX ?_
    refine ok_aIn rfl (by have q1 := hD.1; have q2 := hD.2.1; have q3 := hD0.1; have q4 := hD0.2.1; first | omega | decide | (simp only [Int32.le_iff_toInt_le, Int32.lt_iff_toInt_lt, ti_add, ti_sub, ti_mul, Int32.reduceToInt] at *; omega)) (by have q1 := hD.1; have q2 := hD.2.1; have q3 := hD0.1; have q4 := hD0.2.1; first | omega | decide | (simp only [Int32.le_iff_toInt_le, Int32.lt_iff_toInt_lt, ti_add, ti_sub, ti_mul, Int32.reduceToInt] at *; omega)) (fun v9 ev9 => ?_)
    refine ok_zbT (Q := fun V σ => V = 0 ∨ V = 1) hT (s_X5_isDigit hN (hR.tr hT) ) (fun _ h9 => absurd h9 List.not_mem_nil) (fun v10 σ11 hOσ11 hT hqv10 => ?_)
    have hqv10 : v10 = 0 ∨ v10 = 1 := hqv10
    have hD : RD σ11.1 := RD.tr hOσ11 (by decide) (by decide) (by decide) (by decide) hD
    refine ok_if (fun hc12 => ?_) (fun hc12 => ?_)
    · refine ok_gR (v := 61) hT rfl (hR 57 10 rfl) ?_
      refine ok_s14 hT rfl (by decide) (by have q1 := hD.1; have q2 := hD.2.1; have q3 := hD0.1; have q4 := hD0.2.1; first | omega | decide | (simp only [Int32.le_iff_toInt_le, Int32.lt_iff_toInt_lt, ti_add, ti_sub, ti_mul, Int32.reduceToInt] at *; omega)) (by have q1 := hD.1; have q2 := hD.2.1; have q3 := hD0.1; have q4 := hD0.2.1; first | omega | decide | (simp only [Int32.le_iff_toInt_le, Int32.lt_iff_toInt_lt, ti_add, ti_sub, ti_mul, Int32.reduceToInt] at *; omega)) (fun σ14 eσ14 hOσ14 hT => ?_)
      have hD : RD σ14.1 := RD_k eσ14 (Or.inl (by omega)) hD
      refine ok_gR (v := 62) hT rfl (hR 57 11 rfl) ?_
      refine ok_s14 hT rfl (by decide) (by have q1 := hD.1; have q2 := hD.2.1; have q3 := hD0.1; have q4 := hD0.2.1; first | omega | decide | (simp only [Int32.le_iff_toInt_le, Int32.lt_iff_toInt_lt, ti_add, ti_sub, ti_mul, Int32.reduceToInt] at *; omega)) (by have q1 := hD.1; have q2 := hD.2.1; have q3 := hD0.1; have q4 := hD0.2.1; first | omega | decide | (simp only [Int32.le_iff_toInt_le, Int32.lt_iff_toInt_lt, ti_add, ti_sub, ti_mul, Int32.reduceToInt] at *; omega)) (fun σ16 eσ16 hOσ16 hT => ?_)
      have hD : RD σ16.1 := RD.tr hOσ16 (by decide) (by decide) (by decide) (by decide) hD
      exact ok_some ⟨hT, (show x2.toInt ≤ x3_1.toInt ∧ x3_1.toInt ≤ 600 ∧ RD σ16.1 from by exact ⟨by omega, by omega, hD⟩)⟩
    · refine ok_gRX hT hX ?_
      refine ok_aIn rfl (by have q1 := hD.1; have q2 := hD.2.1; have q3 := hD0.1; have q4 := hD0.2.1; first | omega | decide | (simp only [Int32.le_iff_toInt_le, Int32.lt_iff_toInt_lt, ti_add, ti_sub, ti_mul, Int32.reduceToInt] at *; omega)) (by have q1 := hD.1; have q2 := hD.2.1; have q3 := hD0.1; have q4 := hD0.2.1; first | omega | decide | (simp only [Int32.le_iff_toInt_le, Int32.lt_iff_toInt_lt, ti_add, ti_sub, ti_mul, Int32.reduceToInt] at *; omega)) (fun v18 ev18 => ?_)
      exact ih5_1 (x3_1 + 1, zmin 1000000 (((x4_1 * 10) + v18) - 48), σ11) (show Tr [61, 62] σ0 σ11 ∧ (x2.toInt ≤ (x3_1 + 1).toInt ∧ (x3_1 + 1).toInt ≤ 600) ∧ (RD σ11.1) from ⟨hT, (by have q1 := hD.1; have q2 := hD.2.1; have q3 := hD0.1; have q4 := hD0.2.1; first | omega | decide | (simp only [Int32.le_iff_toInt_le, Int32.lt_iff_toInt_lt, ti_add, ti_sub, ti_mul, Int32.reduceToInt] at *; omega)), hD⟩) (show (600 - (x3_1 + 1).toInt).toNat < (600 - x3_1.toInt).toNat from (by have q1 := hD.1; have q2 := hD.2.1; have q3 := hD0.1; have q4 := hD0.2.1; first | omega | decide | (simp only [Int32.le_iff_toInt_le, Int32.lt_iff_toInt_lt, ti_add, ti_sub, ti_mul, Int32.reduceToInt] at *; omega)))

set_option maxHeartbeats 4000000 in
set_option maxRecDepth 100000 in
theorem s_X5_split {N : Nat} (hN : 1048576 ≤ N)  {σ0 : zS}  (hR : RF σ0.2.2) (hX : σ0.2.2 57 5 = 1) (hD : RD σ0.1) : Ok (f_X5_split N 57 σ0) (fun r => Tr [61, 62, 63, 64] σ0 r.2 ∧ (RD r.2.1)) := by
  have hT : Tr [61, 62, 63, 64] σ0 σ0 := Tr.rf
  have hD0 := hD
  rw [f_X5_split.eq_1]
  refine ok_lp (fun t : Int32 × Int32 × zS => Tr [61, 62, 63, 64] σ0 (t.2.2) ∧ ((0 ≤ (t.1).toInt ∧ (t.1).toInt ≤ 600) ∧ 0 ≤ (t.2.1).toInt ∧ (t.2.1).toInt ≤ 600) ∧ (RD (t.2.2).1)) (fun t : Int32 × Int32 × zS => (601 - (t.1).toInt).toNat + (601 - (t.2.1).toInt).toNat) (fun again1 t hI ih4_1 => ?_) N _ (show Tr [61, 62, 63, 64] σ0 σ0 ∧ ((0 ≤ (0 : Int32).toInt ∧ (0 : Int32).toInt ≤ 600) ∧ 0 ≤ (0 : Int32).toInt ∧ (0 : Int32).toInt ≤ 600) ∧ (RD σ0.1) from ⟨hT, (by have q1 := hD.1; have q2 := hD.2.1; have q3 := hD0.1; have q4 := hD0.2.1; first | omega | decide | (simp only [Int32.le_iff_toInt_le, Int32.lt_iff_toInt_lt, ti_add, ti_sub, ti_mul, Int32.reduceToInt] at *; omega)), hD⟩) (show (601 - (0 : Int32).toInt).toNat + (601 - (0 : Int32).toInt).toNat < N from (by have q1 := hD.1; have q2 := hD.2.1; have q3 := hD0.1; have q4 := hD0.2.1; first | omega | decide | (simp only [Int32.le_iff_toInt_le, Int32.lt_iff_toInt_lt, ti_add, ti_sub, ti_mul, Int32.reduceToInt] at *; omega)))
  obtain ⟨x1_1, x2_1, σ1⟩ := t
  have hI : Tr [61, 62, 63, 64] σ0 σ1 ∧ ((0 ≤ x1_1.toInt ∧ x1_1.toInt ≤ 600) ∧ 0 ≤ x2_1.toInt ∧ x2_1.toInt ≤ 600) ∧ (RD σ1.1) := hI
  obtain ⟨hT, hI1, hD⟩ := hI
  rw [F_X5_split_4.eq_1]
  refine ok_gI0 hT rfl (by decide) ?_
  refine ok_if (fun hc3 => ?_) (fun hc3 => ?_)
  · rw [J_X5_split_142.eq_1]
    refine ok_gR (v := 61) hT rfl (hR 57 10 rfl) ?_
    refine ok_s14 hT rfl (by decide) (by have q1 := hD.1; have q2 := hD.2.1; have q3 := hD0.1; have q4 := hD0.2.1; first | omega | decide | (simp only [Int32.le_iff_toInt_le, Int32.lt_iff_toInt_lt, ti_add, ti_sub, ti_mul, Int32.reduceToInt] at *; omega)) (by have q1 := hD.1; have q2 := hD.2.1; have q3 := hD0.1; have q4 := hD0.2.1; first | omega | decide | (simp only [Int32.le_iff_toInt_le, Int32.lt_iff_toInt_lt, ti_add, ti_sub, ti_mul, Int32.reduceToInt] at *; omega)) (fun σ5 eσ5 hOσ5 hT => ?_)
    have hD : RD σ5.1 := RD_k eσ5 (Or.inr rfl) hD
    refine ok_gR (v := 63) hT rfl (hR 57 12 rfl) ?_
    refine ok_gI0 hT rfl (by decide) ?_
    refine ok_s14 hT rfl (by decide) (by have q1 := hD.1; have q2 := hD.2.1; have q3 := hD0.1; have q4 := hD0.2.1; first | omega | decide | (simp only [Int32.le_iff_toInt_le, Int32.lt_iff_toInt_lt, ti_add, ti_sub, ti_mul, Int32.reduceToInt] at *; omega)) (by have q1 := hD.1; have q2 := hD.2.1; have q3 := hD0.1; have q4 := hD0.2.1; first | omega | decide | (simp only [Int32.le_iff_toInt_le, Int32.lt_iff_toInt_lt, ti_add, ti_sub, ti_mul, Int32.reduceToInt] at *; omega)) (fun σ8 eσ8 hOσ8 hT => ?_)
    have hD : RD σ8.1 := RD_s eσ8 hD0.2.1 hD
    refine ok_gR (v := 64) hT rfl (hR 57 13 rfl) ?_
    refine ok_gI0 hT rfl (by decide) ?_
    refine ok_s14 hT rfl (by decide) (by have q1 := hD.1; have q2 := hD.2.1; have q3 := hD0.1; have q4 := hD0.2.1; first | omega | decide | (simp only [Int32.le_iff_toInt_le, Int32.lt_iff_toInt_lt, ti_add, ti_sub, ti_mul, Int32.reduceToInt] at *; omega)) (by have q1 := hD.1; have q2 := hD.2.1; have q3 := hD0.1; have q4 := hD0.2.1; first | omega | decide | (simp only [Int32.le_iff_toInt_le, Int32.lt_iff_toInt_lt, ti_add, ti_sub, ti_mul, Int32.reduceToInt] at *; omega)) (fun σ11 eσ11 hOσ11 hT => ?_)
    have hD : RD σ11.1 := RD_e eσ11 hD0.2.1 hD
    exact ok_some ⟨hT, (show RD σ11.1 from by exact hD)⟩
  · refine ok_if (fun hc12 => ?_) (fun hc12 => ?_)
    · rw [J_X5_split_142.eq_1]
      refine ok_gR (v := 61) hT rfl (hR 57 10 rfl) ?_
      refine ok_s14 hT rfl (by decide) (by have q1 := hD.1; have q2 := hD.2.1; have q3 := hD0.1; have q4 := hD0.2.1; first | omega | decide | (simp only [Int32.le_iff_toInt_le, Int32.lt_iff_toInt_lt, ti_add, ti_sub, ti_mul, Int32.reduceToInt] at *; omega)) (by have q1 := hD.1; have q2 := hD.2.1; have q3 := hD0.1; have q4 := hD0.2.1; first | omega | decide | (simp only [Int32.le_iff_toInt_le, Int32.lt_iff_toInt_lt, ti_add, ti_sub, ti_mul, Int32.reduceToInt] at *; omega)) (fun σ14 eσ14 hOσ14 hT => ?_)
      have hD : RD σ14.1 := RD_k eσ14 (Or.inr rfl) hD
      refine ok_gR (v := 63) hT rfl (hR 57 12 rfl) ?_
      refine ok_gI0 hT rfl (by decide) ?_
      refine ok_s14 hT rfl (by decide) (by have q1 := hD.1; have q2 := hD.2.1; have q3 := hD0.1; have q4 := hD0.2.1; first | omega | decide | (simp only [Int32.le_iff_toInt_le, Int32.lt_iff_toInt_lt, ti_add, ti_sub, ti_mul, Int32.reduceToInt] at *; omega)) (by have q1 := hD.1; have q2 := hD.2.1; have q3 := hD0.1; have q4 := hD0.2.1; first | omega | decide | (simp only [Int32.le_iff_toInt_le, Int32.lt_iff_toInt_lt, ti_add, ti_sub, ti_mul, Int32.reduceToInt] at *; omega)) (fun σ17 eσ17 hOσ17 hT => ?_)
      have hD : RD σ17.1 := RD_s eσ17 hD0.2.1 hD
      refine ok_gR (v := 64) hT rfl (hR 57 13 rfl) ?_
      refine ok_gI0 hT rfl (by decide) ?_
      refine ok_s14 hT rfl (by decide) (by have q1 := hD.1; have q2 := hD.2.1; have q3 := hD0.1; have q4 := hD0.2.1; first | omega | decide | (simp only [Int32.le_iff_toInt_le, Int32.lt_iff_toInt_lt, ti_add, ti_sub, ti_mul, Int32.reduceToInt] at *; omega)) (by have q1 := hD.1; have q2 := hD.2.1; have q3 := hD0.1; have q4 := hD0.2.1; first | omega | decide | (simp only [Int32.le_iff_toInt_le, Int32.lt_iff_toInt_lt, ti_add, ti_sub, ti_mul, Int32.reduceToInt] at *; omega)) (fun σ20 eσ20 hOσ20 hT => ?_)
      have hD : RD σ20.1 := RD_e eσ20 hD0.2.1 hD
      exact ok_some ⟨hT, (show RD σ20.1 from by exact hD)⟩
    · refine ok_gRX hT hX ?_
      refine ok_aIn rfl (by have q1 := hD.1; have q2 := hD.2.1; have q3 := hD0.1; have q4 := hD0.2.1; first | omega | decide | (simp only [Int32.le_iff_toInt_le, Int32.lt_iff_toInt_lt, ti_add, ti_sub, ti_mul, Int32.reduceToInt] at *; omega)) (by have q1 := hD.1; have q2 := hD.2.1; have q3 := hD0.1; have q4 := hD0.2.1; first | omega | decide | (simp only [Int32.le_iff_toInt_le, Int32.lt_iff_toInt_lt, ti_add, ti_sub, ti_mul, Int32.reduceToInt] at *; omega)) (fun v22 ev22 => ?_)
      refine ok_if (fun hc23 => ?_) (fun hc23 => ?_)
      · exact ih4_1 (x1_1, x2_1 + 1, σ1) (show Tr [61, 62, 63, 64] σ0 σ1 ∧ ((0 ≤ x1_1.toInt ∧ x1_1.toInt ≤ 600) ∧ 0 ≤ (x2_1 + 1).toInt ∧ (x2_1 + 1).toInt ≤ 600) ∧ (RD σ1.1) from ⟨hT, (by have q1 := hD.1; have q2 := hD.2.1; have q3 := hD0.1; have q4 := hD0.2.1; first | omega | decide | (simp only [Int32.le_iff_toInt_le, Int32.lt_iff_toInt_lt, ti_add, ti_sub, ti_mul, Int32.reduceToInt] at *; omega)), hD⟩) (show (601 - x1_1.toInt).toNat + (601 - (x2_1 + 1).toInt).toNat < (601 - x1_1.toInt).toNat + (601 - x2_1.toInt).toNat from (by have q1 := hD.1; have q2 := hD.2.1; have q3 := hD0.1; have q4 := hD0.2.1; first | omega | decide | (simp only [Int32.le_iff_toInt_le, Int32.lt_iff_toInt_lt, ti_add, ti_sub, ti_mul, Int32.reduceToInt] at *; omega)))
      · refine ok_gRX hT hX ?_
        refine ok_aIn rfl (by have q1 := hD.1; have q2 := hD.2.1; have q3 := hD0.1; have q4 := hD0.2.1; first | omega | decide | (simp only [Int32.le_iff_toInt_le, Int32.lt_iff_toInt_lt, ti_add, ti_sub, ti_mul, Int32.reduceToInt] at *; omega)) (by have q1 := hD.1; have q2 := hD.2.1; have q3 := hD0.1; have q4 := hD0.2.1; first | omega | decide | (simp only [Int32.le_iff_toInt_le, Int32.lt_iff_toInt_lt, ti_add, ti_sub, ti_mul, Int32.reduceToInt] at *; omega)) (fun v25 ev25 => ?_)
        refine ok_if (fun hc26 => ?_) (fun hc26 => ?_)
        · exact ih4_1 (x1_1, x2_1 + 1, σ1) (show Tr [61, 62, 63, 64] σ0 σ1 ∧ ((0 ≤ x1_1.toInt ∧ x1_1.toInt ≤ 600) ∧ 0 ≤ (x2_1 + 1).toInt ∧ (x2_1 + 1).toInt ≤ 600) ∧ (RD σ1.1) from ⟨hT, (by have q1 := hD.1; have q2 := hD.2.1; have q3 := hD0.1; have q4 := hD0.2.1; first | omega | decide | (simp only [Int32.le_iff_toInt_le, Int32.lt_iff_toInt_lt, ti_add, ti_sub, ti_mul, Int32.reduceToInt] at *; omega)), hD⟩) (show (601 - x1_1.toInt).toNat + (601 - (x2_1 + 1).toInt).toNat < (601 - x1_1.toInt).toNat + (601 - x2_1.toInt).toNat from (by have q1 := hD.1; have q2 := hD.2.1; have q3 := hD0.1; have q4 := hD0.2.1; first | omega | decide | (simp only [Int32.le_iff_toInt_le, Int32.lt_iff_toInt_lt, ti_add, ti_sub, ti_mul, Int32.reduceToInt] at *; omega)))
        · refine ok_gR (v := 63) hT rfl (hR 57 12 rfl) ?_
          refine ok_s14 hT rfl (by decide) (by have q1 := hD.1; have q2 := hD.2.1; have q3 := hD0.1; have q4 := hD0.2.1; first | omega | decide | (simp only [Int32.le_iff_toInt_le, Int32.lt_iff_toInt_lt, ti_add, ti_sub, ti_mul, Int32.reduceToInt] at *; omega)) (by have q1 := hD.1; have q2 := hD.2.1; have q3 := hD0.1; have q4 := hD0.2.1; first | omega | decide | (simp only [Int32.le_iff_toInt_le, Int32.lt_iff_toInt_lt, ti_add, ti_sub, ti_mul, Int32.reduceToInt] at *; omega)) (fun σ28 eσ28 hOσ28 hT => ?_)
          have hD : RD σ28.1 := RD_s eσ28 (by have q1 := hD.1; have q2 := hD.2.1; have q3 := hD0.1; have q4 := hD0.2.1; first | omega | decide | (simp only [Int32.le_iff_toInt_le, Int32.lt_iff_toInt_lt, ti_add, ti_sub, ti_mul, Int32.reduceToInt] at *; omega)) hD
          refine ok_gRX hT hX ?_
          refine ok_aIn rfl (by have q1 := hD.1; have q2 := hD.2.1; have q3 := hD0.1; have q4 := hD0.2.1; first | omega | decide | (simp only [Int32.le_iff_toInt_le, Int32.lt_iff_toInt_lt, ti_add, ti_sub, ti_mul, Int32.reduceToInt] at *; omega)) (by have q1 := hD.1; have q2 := hD.2.1; have q3 := hD0.1; have q4 := hD0.2.1; first | omega | decide | (simp only [Int32.le_iff_toInt_le, Int32.lt_iff_toInt_lt, ti_add, ti_sub, ti_mul, Int32.reduceToInt] at *; omega)) (fun v30 ev30 => ?_)
          refine ok_zbT (Q := fun V σ => V = 0 ∨ V = 1) hT (s_X5_isLetter hN (hR.tr hT) ) (fun _ h9 => absurd h9 List.not_mem_nil) (fun v31 σ32 hOσ32 hT hqv31 => ?_)
          have hqv31 : v31 = 0 ∨ v31 = 1 := hqv31
          have hD : RD σ32.1 := RD.tr hOσ32 (by decide) (by decide) (by decide) (by decide) hD
          refine ok_if (fun hc33 => ?_) (fun hc33 => ?_)
          · refine ok_gRX hT hX ?_
            refine ok_aIn rfl (by have q1 := hD.1; have q2 := hD.2.1; have q3 := hD0.1; have q4 := hD0.2.1; first | omega | decide | (simp only [Int32.le_iff_toInt_le, Int32.lt_iff_toInt_lt, ti_add, ti_sub, ti_mul, Int32.reduceToInt] at *; omega)) (by have q1 := hD.1; have q2 := hD.2.1; have q3 := hD0.1; have q4 := hD0.2.1; first | omega | decide | (simp only [Int32.le_iff_toInt_le, Int32.lt_iff_toInt_lt, ti_add, ti_sub, ti_mul, Int32.reduceToInt] at *; omega)) (fun v35 ev35 => ?_)
            refine ok_zbT (Q := fun V σ => V = 0 ∨ V = 1) hT (s_X5_isDigit hN (hR.tr hT) ) (fun _ h9 => absurd h9 List.not_mem_nil) (fun v36 σ37 hOσ37 hT hqv36 => ?_)
            have hqv36 : v36 = 0 ∨ v36 = 1 := hqv36
            have hD : RD σ37.1 := RD.tr hOσ37 (by decide) (by decide) (by decide) (by decide) hD
            refine ok_if (fun hc38 => ?_) (fun hc38 => ?_)
            · refine ok_gR (v := 61) hT rfl (hR 57 10 rfl) ?_
              refine ok_gRX hT hX ?_
              refine ok_aIn rfl (by have q1 := hD.1; have q2 := hD.2.1; have q3 := hD0.1; have q4 := hD0.2.1; first | omega | decide | (simp only [Int32.le_iff_toInt_le, Int32.lt_iff_toInt_lt, ti_add, ti_sub, ti_mul, Int32.reduceToInt] at *; omega)) (by have q1 := hD.1; have q2 := hD.2.1; have q3 := hD0.1; have q4 := hD0.2.1; first | omega | decide | (simp only [Int32.le_iff_toInt_le, Int32.lt_iff_toInt_lt, ti_add, ti_sub, ti_mul, Int32.reduceToInt] at *; omega)) (fun v41 ev41 => ?_)
              refine ok_zbT (Q := fun V σ => V = 0 ∨ V = 1) hT (s_X5_isSign hN (hR.tr hT) ) (fun _ h9 => absurd h9 List.not_mem_nil) (fun v42 σ43 hOσ43 hT hqv42 => ?_)
              have hqv42 : v42 = 0 ∨ v42 = 1 := hqv42
              have hD : RD σ43.1 := RD.tr hOσ43 (by decide) (by decide) (by decide) (by decide) hD
              refine ok_if (fun hc44 => ?_) (fun hc44 => ?_)
              · refine ok_s14 hT rfl (by decide) (by have q1 := hD.1; have q2 := hD.2.1; have q3 := hD0.1; have q4 := hD0.2.1; first | omega | decide | (simp only [Int32.le_iff_toInt_le, Int32.lt_iff_toInt_lt, ti_add, ti_sub, ti_mul, Int32.reduceToInt] at *; omega)) (by have q1 := hD.1; have q2 := hD.2.1; have q3 := hD0.1; have q4 := hD0.2.1; first | omega | decide | (simp only [Int32.le_iff_toInt_le, Int32.lt_iff_toInt_lt, ti_add, ti_sub, ti_mul, Int32.reduceToInt] at *; omega)) (fun σ45 eσ45 hOσ45 hT => ?_)
                have hD : RD σ45.1 := RD_k eσ45 (Or.inl (by have q1 := hD.1; have q2 := hD.2.1; have q3 := hD0.1; have q4 := hD0.2.1; first | omega | decide | (simp only [Int32.le_iff_toInt_le, Int32.lt_iff_toInt_lt, ti_add, ti_sub, ti_mul, Int32.reduceToInt] at *; omega))) hD
                refine ok_gR (v := 64) hT rfl (hR 57 13 rfl) ?_
                refine ok_s14 hT rfl (by decide) (by have q1 := hD.1; have q2 := hD.2.1; have q3 := hD0.1; have q4 := hD0.2.1; first | omega | decide | (simp only [Int32.le_iff_toInt_le, Int32.lt_iff_toInt_lt, ti_add, ti_sub, ti_mul, Int32.reduceToInt] at *; omega)) (by have q1 := hD.1; have q2 := hD.2.1; have q3 := hD0.1; have q4 := hD0.2.1; first | omega | decide | (simp only [Int32.le_iff_toInt_le, Int32.lt_iff_toInt_lt, ti_add, ti_sub, ti_mul, Int32.reduceToInt] at *; omega)) (fun σ47 eσ47 hOσ47 hT => ?_)
                have hD : RD σ47.1 := RD_e eσ47 (by have q1 := hD.1; have q2 := hD.2.1; have q3 := hD0.1; have q4 := hD0.2.1; first | omega | decide | (simp only [Int32.le_iff_toInt_le, Int32.lt_iff_toInt_lt, ti_add, ti_sub, ti_mul, Int32.reduceToInt] at *; omega)) hD
                exact ih4_1 (x1_1 + 1, x2_1 + 1, σ47) (show Tr [61, 62, 63, 64] σ0 σ47 ∧ ((0 ≤ (x1_1 + 1).toInt ∧ (x1_1 + 1).toInt ≤ 600) ∧ 0 ≤ (x2_1 + 1).toInt ∧ (x2_1 + 1).toInt ≤ 600) ∧ (RD σ47.1) from ⟨hT, (by have q1 := hD.1; have q2 := hD.2.1; have q3 := hD0.1; have q4 := hD0.2.1; first | omega | decide | (simp only [Int32.le_iff_toInt_le, Int32.lt_iff_toInt_lt, ti_add, ti_sub, ti_mul, Int32.reduceToInt] at *; omega)), hD⟩) (show (601 - (x1_1 + 1).toInt).toNat + (601 - (x2_1 + 1).toInt).toNat < (601 - x1_1.toInt).toNat + (601 - x2_1.toInt).toNat from (by have q1 := hD.1; have q2 := hD.2.1; have q3 := hD0.1; have q4 := hD0.2.1; first | omega | decide | (simp only [Int32.le_iff_toInt_le, Int32.lt_iff_toInt_lt, ti_add, ti_sub, ti_mul, Int32.reduceToInt] at *; omega)))
              · refine ok_gRX hT hX ?_
                refine ok_aIn rfl (by have q1 := hD.1; have q2 := hD.2.1; have q3 := hD0.1; have q4 := hD0.2.1; first | omega | decide | (simp only [Int32.le_iff_toInt_le, Int32.lt_iff_toInt_lt, ti_add, ti_sub, ti_mul, Int32.reduceToInt] at *; omega)) (by have q1 := hD.1; have q2 := hD.2.1; have q3 := hD0.1; have q4 := hD0.2.1; first | omega | decide | (simp only [Int32.le_iff_toInt_le, Int32.lt_iff_toInt_lt, ti_add, ti_sub, ti_mul, Int32.reduceToInt] at *; omega)) (fun v49 ev49 => ?_)
                refine ok_s14 hT rfl (by decide) (by have q1 := hD.1; have q2 := hD.2.1; have q3 := hD0.1; have q4 := hD0.2.1; first | omega | decide | (simp only [Int32.le_iff_toInt_le, Int32.lt_iff_toInt_lt, ti_add, ti_sub, ti_mul, Int32.reduceToInt] at *; omega)) (by have q1 := hD.1; have q2 := hD.2.1; have q3 := hD0.1; have q4 := hD0.2.1; first | omega | decide | (simp only [Int32.le_iff_toInt_le, Int32.lt_iff_toInt_lt, ti_add, ti_sub, ti_mul, Int32.reduceToInt] at *; omega)) (fun σ50 eσ50 hOσ50 hT => ?_)
                have hD : RD σ50.1 := RD_k eσ50 (Or.inl (by have q1 := hD.1; have q2 := hD.2.1; have q3 := hD0.1; have q4 := hD0.2.1; first | omega | decide | (simp only [Int32.le_iff_toInt_le, Int32.lt_iff_toInt_lt, ti_add, ti_sub, ti_mul, Int32.reduceToInt] at *; omega))) hD
                refine ok_gR (v := 64) hT rfl (hR 57 13 rfl) ?_
                refine ok_s14 hT rfl (by decide) (by have q1 := hD.1; have q2 := hD.2.1; have q3 := hD0.1; have q4 := hD0.2.1; first | omega | decide | (simp only [Int32.le_iff_toInt_le, Int32.lt_iff_toInt_lt, ti_add, ti_sub, ti_mul, Int32.reduceToInt] at *; omega)) (by have q1 := hD.1; have q2 := hD.2.1; have q3 := hD0.1; have q4 := hD0.2.1; first | omega | decide | (simp only [Int32.le_iff_toInt_le, Int32.lt_iff_toInt_lt, ti_add, ti_sub, ti_mul, Int32.reduceToInt] at *; omega)) (fun σ52 eσ52 hOσ52 hT => ?_)
                have hD : RD σ52.1 := RD_e eσ52 (by have q1 := hD.1; have q2 := hD.2.1; have q3 := hD0.1; have q4 := hD0.2.1; first | omega | decide | (simp only [Int32.le_iff_toInt_le, Int32.lt_iff_toInt_lt, ti_add, ti_sub, ti_mul, Int32.reduceToInt] at *; omega)) hD
                exact ih4_1 (x1_1 + 1, x2_1 + 1, σ52) (show Tr [61, 62, 63, 64] σ0 σ52 ∧ ((0 ≤ (x1_1 + 1).toInt ∧ (x1_1 + 1).toInt ≤ 600) ∧ 0 ≤ (x2_1 + 1).toInt ∧ (x2_1 + 1).toInt ≤ 600) ∧ (RD σ52.1) from ⟨hT, (by have q1 := hD.1; have q2 := hD.2.1; have q3 := hD0.1; have q4 := hD0.2.1; first | omega | decide | (simp only [Int32.le_iff_toInt_le, Int32.lt_iff_toInt_lt, ti_add, ti_sub, ti_mul, Int32.reduceToInt] at *; omega)), hD⟩) (show (601 - (x1_1 + 1).toInt).toNat + (601 - (x2_1 + 1).toInt).toNat < (601 - x1_1.toInt).toNat + (601 - x2_1.toInt).toNat from (by have q1 := hD.1; have q2 := hD.2.1; have q3 := hD0.1; have q4 := hD0.2.1; first | omega | decide | (simp only [Int32.le_iff_toInt_le, Int32.lt_iff_toInt_lt, ti_add, ti_sub, ti_mul, Int32.reduceToInt] at *; omega)))
            · refine ok_gC rfl ?_
              refine ok_zbT (Q := fun V σ => x2_1.toInt ≤ V.toInt ∧ V.toInt ≤ 600 ∧ RD σ.1) hT (s_X5_splitNumber hN (hR.tr hT) (hT.1.2 hX) (hD) (by have q1 := hD.1; have q2 := hD.2.1; have q3 := hD0.1; have q4 := hD0.2.1; first | omega | decide | (simp only [Int32.le_iff_toInt_le, Int32.lt_iff_toInt_lt, ti_add, ti_sub, ti_mul, Int32.reduceToInt] at *; omega)) (by have q1 := hD.1; have q2 := hD.2.1; have q3 := hD0.1; have q4 := hD0.2.1; first | omega | decide | (simp only [Int32.le_iff_toInt_le, Int32.lt_iff_toInt_lt, ti_add, ti_sub, ti_mul, Int32.reduceToInt] at *; omega))) (by decide) (fun v53 σ54 hOσ54 hT hqv53 => ?_)
              have hqv53 : x2_1.toInt ≤ v53.toInt ∧ v53.toInt ≤ 600 ∧ RD σ54.1 := hqv53
              have hD : RD σ54.1 := hqv53.2.2
              refine ok_gR (v := 64) hT rfl (hR 57 13 rfl) ?_
              refine ok_s14 hT rfl (by decide) (by have q1 := hD.1; have q2 := hD.2.1; have q3 := hD0.1; have q4 := hD0.2.1; first | omega | decide | (simp only [Int32.le_iff_toInt_le, Int32.lt_iff_toInt_lt, ti_add, ti_sub, ti_mul, Int32.reduceToInt] at *; omega)) (by have q1 := hD.1; have q2 := hD.2.1; have q3 := hD0.1; have q4 := hD0.2.1; first | omega | decide | (simp only [Int32.le_iff_toInt_le, Int32.lt_iff_toInt_lt, ti_add, ti_sub, ti_mul, Int32.reduceToInt] at *; omega)) (fun σ56 eσ56 hOσ56 hT => ?_)
              have hD : RD σ56.1 := RD_e eσ56 (by have q1 := hD.1; have q2 := hD.2.1; have q3 := hD0.1; have q4 := hD0.2.1; first | omega | decide | (simp only [Int32.le_iff_toInt_le, Int32.lt_iff_toInt_lt, ti_add, ti_sub, ti_mul, Int32.reduceToInt] at *; omega)) hD
              exact ih4_1 (x1_1 + 1, v53, σ56) (show Tr [61, 62, 63, 64] σ0 σ56 ∧ ((0 ≤ (x1_1 + 1).toInt ∧ (x1_1 + 1).toInt ≤ 600) ∧ 0 ≤ v53.toInt ∧ v53.toInt ≤ 600) ∧ (RD σ56.1) from ⟨hT, (by have q1 := hD.1; have q2 := hD.2.1; have q3 := hD0.1; have q4 := hD0.2.1; first | omega | decide | (simp only [Int32.le_iff_toInt_le, Int32.lt_iff_toInt_lt, ti_add, ti_sub, ti_mul, Int32.reduceToInt] at *; omega)), hD⟩) (show (601 - (x1_1 + 1).toInt).toNat + (601 - v53.toInt).toNat < (601 - x1_1.toInt).toNat + (601 - x2_1.toInt).toNat from (by have q1 := hD.1; have q2 := hD.2.1; have q3 := hD0.1; have q4 := hD0.2.1; first | omega | decide | (simp only [Int32.le_iff_toInt_le, Int32.lt_iff_toInt_lt, ti_add, ti_sub, ti_mul, Int32.reduceToInt] at *; omega)))
          · refine ok_gC rfl ?_
            refine ok_zbT (Q := fun V σ => x2_1.toInt ≤ V.toInt ∧ V.toInt ≤ 600 ∧ RD σ.1) hT (s_X5_splitWord hN (hR.tr hT) (hT.1.2 hX) (hD) (by have q1 := hD.1; have q2 := hD.2.1; have q3 := hD0.1; have q4 := hD0.2.1; first | omega | decide | (simp only [Int32.le_iff_toInt_le, Int32.lt_iff_toInt_lt, ti_add, ti_sub, ti_mul, Int32.reduceToInt] at *; omega)) (by have q1 := hD.1; have q2 := hD.2.1; have q3 := hD0.1; have q4 := hD0.2.1; first | omega | decide | (simp only [Int32.le_iff_toInt_le, Int32.lt_iff_toInt_lt, ti_add, ti_sub, ti_mul, Int32.reduceToInt] at *; omega))) (by decide) (fun v57 σ58 hOσ58 hT hqv57 => ?_)
            have hqv57 : x2_1.toInt ≤ v57.toInt ∧ v57.toInt ≤ 600 ∧ RD σ58.1 := hqv57
            have hD : RD σ58.1 := hqv57.2.2
            refine ok_gR (v := 64) hT rfl (hR 57 13 rfl) ?_
            refine ok_s14 hT rfl (by decide) (by have q1 := hD.1; have q2 := hD.2.1; have q3 := hD0.1; have q4 := hD0.2.1; first | omega | decide | (simp only [Int32.le_iff_toInt_le, Int32.lt_iff_toInt_lt, ti_add, ti_sub, ti_mul, Int32.reduceToInt] at *; omega)) (by have q1 := hD.1; have q2 := hD.2.1; have q3 := hD0.1; have q4 := hD0.2.1; first | omega | decide | (simp only [Int32.le_iff_toInt_le, Int32.lt_iff_toInt_lt, ti_add, ti_sub, ti_mul, Int32.reduceToInt] at *; omega)) (fun σ60 eσ60 hOσ60 hT => ?_)
            have hD : RD σ60.1 := RD_e eσ60 (by have q1 := hD.1; have q2 := hD.2.1; have q3 := hD0.1; have q4 := hD0.2.1; first | omega | decide | (simp only [Int32.le_iff_toInt_le, Int32.lt_iff_toInt_lt, ti_add, ti_sub, ti_mul, Int32.reduceToInt] at *; omega)) hD
            exact ih4_1 (x1_1 + 1, v57, σ60) (show Tr [61, 62, 63, 64] σ0 σ60 ∧ ((0 ≤ (x1_1 + 1).toInt ∧ (x1_1 + 1).toInt ≤ 600) ∧ 0 ≤ v57.toInt ∧ v57.toInt ≤ 600) ∧ (RD σ60.1) from ⟨hT, (by have q1 := hD.1; have q2 := hD.2.1; have q3 := hD0.1; have q4 := hD0.2.1; first | omega | decide | (simp only [Int32.le_iff_toInt_le, Int32.lt_iff_toInt_lt, ti_add, ti_sub, ti_mul, Int32.reduceToInt] at *; omega)), hD⟩) (show (601 - (x1_1 + 1).toInt).toNat + (601 - v57.toInt).toNat < (601 - x1_1.toInt).toNat + (601 - x2_1.toInt).toNat from (by have q1 := hD.1; have q2 := hD.2.1; have q3 := hD0.1; have q4 := hD0.2.1; first | omega | decide | (simp only [Int32.le_iff_toInt_le, Int32.lt_iff_toInt_lt, ti_add, ti_sub, ti_mul, Int32.reduceToInt] at *; omega)))
end Zq1_0
section Zq1_1
set_option maxHeartbeats 4000000 in
set_option maxRecDepth 100000 in
theorem s_X5_advance {N : Nat} (hN : 1048576 ≤ N) {x1 : Int32} {x2 : Int32} {σ0 : zS}  (hR : RF σ0.2.2) (hX : σ0.2.2 57 5 = 1) (hD : RD σ0.1) (hz : x1 = 0 ∨ x1 = 1) : Ok (f_X5_advance N 57 x1 x2 σ0) (fun r => Tr [57] σ0 r.2 ∧ (r.1 = x1 ∧ RD r.2.1 ∧ (¬ x1 = 0 → ¬ σ0.1 61 (Int32.toNatClampNeg (σ0.1 57 9)) = 0 → (r.2.1 57 9).toInt = (σ0.1 57 9).toInt + 1))) := by
  have hT : Tr [57] σ0 σ0 := Tr.rf
  have hD0 := hD
  rw [f_X5_advance.eq_1]
  refine ok_if (fun hc1 => ?_) (fun hc1 => ?_)
  · refine ok_pI hT rfl (by decide) (fun σ2 eσ2 hOσ2 hT => ?_)
    have hD : RD σ2.1 := RD_p eσ2 (fun q => absurd q (by decide)) (fun q => absurd q (by decide)) hD
    refine ok_gR (v := 63) hT rfl (hR 57 12 rfl) ?_
    refine ok_gI rfl ?_
    refine ok_aIn rfl (by have q1 := hD.1; have q2 := hD.2.1; have q3 := hD0.1; have q4 := hD0.2.1; first | omega | decide | (simp only [Int32.le_iff_toInt_le, Int32.lt_iff_toInt_lt, ti_add, ti_sub, ti_mul, Int32.reduceToInt] at *; omega) | (exfalso; simp_all; done)) (by have q1 := hD.1; have q2 := hD.2.1; have q3 := hD0.1; have q4 := hD0.2.1; first | omega | decide | (simp only [Int32.le_iff_toInt_le, Int32.lt_iff_toInt_lt, ti_add, ti_sub, ti_mul, Int32.reduceToInt] at *; omega) | (exfalso; simp_all; done)) (fun v5 ev5 => ?_)
    refine ok_pI hT rfl (by decide) (fun σ6 eσ6 hOσ6 hT => ?_)
    have hD : RD σ6.1 := RD_p eσ6 (fun q => absurd q (by decide)) (fun q => absurd q (by decide)) hD
    exact ok_rZ (hz) ⟨hT, (show x1 = x1 ∧ RD σ6.1 ∧ (¬ x1 = 0 → ¬ σ0.1 61 (Int32.toNatClampNeg (σ0.1 57 9)) = 0 → (σ6.1 57 9).toInt = (σ0.1 57 9).toInt + 1) from by refine ⟨rfl, hD, fun hf hk => ?_⟩; first | exact absurd (by assumption) hf | exact absurd (ev9.symm.trans hc10) hk | (have q1 := hD0.1; have q := RD_lt hD0 q1.1 q1.2 hk; simp only [Int32.le_iff_toInt_le, Int32.lt_iff_toInt_lt, Int32.reduceToInt] at *; omega) | (rw [zI_atI eσ14, ti_add]; have q1 := hD0.1; simp only [Int32.le_iff_toInt_le, Int32.lt_iff_toInt_lt, Int32.reduceToInt] at *; omega))⟩
  · refine ok_gR (v := 61) hT rfl (hR 57 10 rfl) ?_
    refine ok_gI rfl ?_
    refine ok_aIn rfl (by have q1 := hD.1; have q2 := hD.2.1; have q3 := hD0.1; have q4 := hD0.2.1; first | omega | decide | (simp only [Int32.le_iff_toInt_le, Int32.lt_iff_toInt_lt, ti_add, ti_sub, ti_mul, Int32.reduceToInt] at *; omega) | (exfalso; simp_all; done)) (by have q1 := hD.1; have q2 := hD.2.1; have q3 := hD0.1; have q4 := hD0.2.1; first | omega | decide | (simp only [Int32.le_iff_toInt_le, Int32.lt_iff_toInt_lt, ti_add, ti_sub, ti_mul, Int32.reduceToInt] at *; omega) | (exfalso; simp_all; done)) (fun v9 ev9 => ?_)
    refine ok_if (fun hc10 => ?_) (fun hc10 => ?_)
    · exact ok_rZ (hz) ⟨hT, (show x1 = x1 ∧ RD σ0.1 ∧ (¬ x1 = 0 → ¬ σ0.1 61 (Int32.toNatClampNeg (σ0.1 57 9)) = 0 → (σ0.1 57 9).toInt = (σ0.1 57 9).toInt + 1) from by refine ⟨rfl, hD, fun hf hk => ?_⟩; first | exact absurd (by assumption) hf | exact absurd (ev9.symm.trans hc10) hk | (have q1 := hD0.1; have q := RD_lt hD0 q1.1 q1.2 hk; simp only [Int32.le_iff_toInt_le, Int32.lt_iff_toInt_lt, Int32.reduceToInt] at *; omega) | (rw [zI_atI eσ14, ti_add]; have q1 := hD0.1; simp only [Int32.le_iff_toInt_le, Int32.lt_iff_toInt_lt, Int32.reduceToInt] at *; omega))⟩
    · refine ok_gI rfl ?_
      refine ok_if (fun hc12 => ?_) (fun hc12 => ?_)
      · exact ok_rZ (hz) ⟨hT, (show x1 = x1 ∧ RD σ0.1 ∧ (¬ x1 = 0 → ¬ σ0.1 61 (Int32.toNatClampNeg (σ0.1 57 9)) = 0 → (σ0.1 57 9).toInt = (σ0.1 57 9).toInt + 1) from by refine ⟨rfl, hD, fun hf hk => ?_⟩; first | exact absurd (by assumption) hf | exact absurd (ev9.symm.trans hc10) hk | (have q1 := hD0.1; have q := RD_lt hD0 q1.1 q1.2 hk; simp only [Int32.le_iff_toInt_le, Int32.lt_iff_toInt_lt, Int32.reduceToInt] at *; omega) | (rw [zI_atI eσ14, ti_add]; have q1 := hD0.1; simp only [Int32.le_iff_toInt_le, Int32.lt_iff_toInt_lt, Int32.reduceToInt] at *; omega))⟩
      · refine ok_gI rfl ?_
        refine ok_pI hT rfl (by decide) (fun σ14 eσ14 hOσ14 hT => ?_)
        have hD : RD σ14.1 := RD_p eσ14 (fun _ => by have q1 := hD.1; have q2 := hD.2.1; have q3 := hD0.1; have q4 := hD0.2.1; first | omega | decide | (simp only [Int32.le_iff_toInt_le, Int32.lt_iff_toInt_lt, ti_add, ti_sub, ti_mul, Int32.reduceToInt] at *; omega)) (fun q => absurd q (by decide)) hD
        exact ok_rZ (hz) ⟨hT, (show x1 = x1 ∧ RD σ14.1 ∧ (¬ x1 = 0 → ¬ σ0.1 61 (Int32.toNatClampNeg (σ0.1 57 9)) = 0 → (σ14.1 57 9).toInt = (σ0.1 57 9).toInt + 1) from by refine ⟨rfl, hD, fun hf hk => ?_⟩; first | exact absurd (by assumption) hf | exact absurd (ev9.symm.trans hc10) hk | (have q1 := hD0.1; have q := RD_lt hD0 q1.1 q1.2 hk; simp only [Int32.le_iff_toInt_le, Int32.lt_iff_toInt_lt, Int32.reduceToInt] at *; omega) | (rw [zI_atI eσ14, ti_add]; have q1 := hD0.1; simp only [Int32.le_iff_toInt_le, Int32.lt_iff_toInt_lt, Int32.reduceToInt] at *; omega))⟩

set_option maxHeartbeats 4000000 in
set_option maxRecDepth 100000 in
theorem s_X5_fail {N : Nat} (hN : 1048576 ≤ N) {x1 : Int32} {σ0 : zS}  (hR : RF σ0.2.2) (hX : σ0.2.2 57 5 = 1) (hD : RD σ0.1) : Ok (f_X5_fail N 57 x1 σ0) (fun r => Tr [57] σ0 r.2 ∧ (r.1 = 0 ∧ RD r.2.1)) := by
  have hT : Tr [57] σ0 σ0 := Tr.rf
  have hD0 := hD
  rw [f_X5_fail.eq_1]
  refine ok_gC rfl ?_
  refine ok_zbT (Q := fun V σ => V = (0 : Int32) ∧ RD σ.1 ∧ (¬ (0 : Int32) = 0 → ¬ σ0.1 61 (Int32.toNatClampNeg (σ0.1 57 9)) = 0 → (σ.1 57 9).toInt = (σ0.1 57 9).toInt + 1)) hT (s_X5_advance hN (hR.tr hT) (by first | exact hX | exact hT.1.2 hX) (hD) (by first | exact Or.inl rfl | exact Or.inr rfl | assumption)) (by decide) (fun v1 σ2 hOσ2 hT hqv1 => ?_)
  have hqv1 : v1 = (0 : Int32) ∧ RD σ2.1 ∧ (¬ (0 : Int32) = 0 → ¬ σ0.1 61 (Int32.toNatClampNeg (σ0.1 57 9)) = 0 → (σ2.1 57 9).toInt = (σ0.1 57 9).toInt + 1) := hqv1
  have hD : RD σ2.1 := hqv1.2.1
  exact ok_rZ (Or.inl hqv1.1) ⟨hT, (show v1 = 0 ∧ RD σ2.1 from by exact ⟨hqv1.1, hD⟩)⟩

set_option maxHeartbeats 4000000 in
set_option maxRecDepth 100000 in
theorem s_X5_pass {N : Nat} (hN : 1048576 ≤ N) {x1 : Int32} {σ0 : zS}  (hR : RF σ0.2.2) (hX : σ0.2.2 57 5 = 1) (hD : RD σ0.1) : Ok (f_X5_pass N 57 x1 σ0) (fun r => Tr [57] σ0 r.2 ∧ ((r.1 = 0 ∨ r.1 = 1) ∧ RD r.2.1)) := by
  have hT : Tr [57] σ0 σ0 := Tr.rf
  have hD0 := hD
  rw [f_X5_pass.eq_1]
  refine ok_gR (v := 61) hT rfl (hR 57 10 rfl) ?_
  refine ok_gI rfl ?_
  refine ok_aIn rfl (by have q1 := hD.1; have q2 := hD.2.1; have q3 := hD0.1; have q4 := hD0.2.1; first | omega | decide | (simp only [Int32.le_iff_toInt_le, Int32.lt_iff_toInt_lt, ti_add, ti_sub, ti_mul, Int32.reduceToInt] at *; omega) | (exfalso; simp_all; done)) (by have q1 := hD.1; have q2 := hD.2.1; have q3 := hD0.1; have q4 := hD0.2.1; first | omega | decide | (simp only [Int32.le_iff_toInt_le, Int32.lt_iff_toInt_lt, ti_add, ti_sub, ti_mul, Int32.reduceToInt] at *; omega) | (exfalso; simp_all; done)) (fun v3 ev3 => ?_)
  refine ok_if (fun hc4 => ?_) (fun hc4 => ?_)
  · refine ok_gC rfl ?_
    refine ok_zbT (Q := fun V σ => V = (1 : Int32) ∧ RD σ.1 ∧ (¬ (1 : Int32) = 0 → ¬ σ0.1 61 (Int32.toNatClampNeg (σ0.1 57 9)) = 0 → (σ.1 57 9).toInt = (σ0.1 57 9).toInt + 1)) hT (s_X5_advance hN (hR.tr hT) (by first | exact hX | exact hT.1.2 hX) (hD) (by first | exact Or.inl rfl | exact Or.inr rfl | assumption)) (by decide) (fun v5 σ6 hOσ6 hT hqv5 => ?_)
    have hqv5 : v5 = (1 : Int32) ∧ RD σ6.1 ∧ (¬ (1 : Int32) = 0 → ¬ σ0.1 61 (Int32.toNatClampNeg (σ0.1 57 9)) = 0 → (σ6.1 57 9).toInt = (σ0.1 57 9).toInt + 1) := hqv5
    have hD : RD σ6.1 := hqv5.2.1
    exact ok_rZ (by have q := hqv5.1; first | exact Or.inl q | exact Or.inr q) ⟨hT, (show (v5 = 0 ∨ v5 = 1) ∧ RD σ6.1 from by have q := hqv5.1; first | exact ⟨Or.inl q, hD⟩ | exact ⟨Or.inr q, hD⟩)⟩
  · refine ok_gC rfl ?_
    refine ok_zbT (Q := fun V σ => V = (0 : Int32) ∧ RD σ.1 ∧ (¬ (0 : Int32) = 0 → ¬ σ0.1 61 (Int32.toNatClampNeg (σ0.1 57 9)) = 0 → (σ.1 57 9).toInt = (σ0.1 57 9).toInt + 1)) hT (s_X5_advance hN (hR.tr hT) (by first | exact hX | exact hT.1.2 hX) (hD) (by first | exact Or.inl rfl | exact Or.inr rfl | assumption)) (by decide) (fun v7 σ8 hOσ8 hT hqv7 => ?_)
    have hqv7 : v7 = (0 : Int32) ∧ RD σ8.1 ∧ (¬ (0 : Int32) = 0 → ¬ σ0.1 61 (Int32.toNatClampNeg (σ0.1 57 9)) = 0 → (σ8.1 57 9).toInt = (σ0.1 57 9).toInt + 1) := hqv7
    have hD : RD σ8.1 := hqv7.2.1
    exact ok_rZ (by have q := hqv7.1; first | exact Or.inl q | exact Or.inr q) ⟨hT, (show (v7 = 0 ∨ v7 = 1) ∧ RD σ8.1 from by have q := hqv7.1; first | exact ⟨Or.inl q, hD⟩ | exact ⟨Or.inr q, hD⟩)⟩

set_option maxHeartbeats 4000000 in
set_option maxRecDepth 100000 in
theorem s_X5_passed {N : Nat} (hN : 1048576 ≤ N)  {σ0 : zS}  (hR : RF σ0.2.2) (hX : σ0.2.2 57 5 = 1) (hD : RD σ0.1) : Ok (f_X5_passed N 57 σ0) (fun r => Tr [] σ0 r.2 ∧ (1 ≤ (σ0.1 57 9).toInt → r.1 = lastv σ0.1)) := by
  have hT : Tr [] σ0 σ0 := Tr.rf
  have hD0 := hD
  rw [f_X5_passed.eq_1]
  refine ok_gI0 hT rfl (by decide) ?_
  refine ok_if (fun hc2 => ?_) (fun hc2 => ?_)
  · exact ok_some ⟨hT, (show 1 ≤ (σ0.1 57 9).toInt → (0 : Int32) = lastv σ0.1 from by intro h; first | (rw [ev5]; exact lastv_at h) | (exfalso; simp only [Int32.le_iff_toInt_le, Int32.lt_iff_toInt_lt, Int32.reduceToInt] at *; omega))⟩
  · refine ok_gR (v := 62) hT rfl (hR 57 11 rfl) ?_
    refine ok_gI0 hT rfl (by decide) ?_
    refine ok_aIn rfl (by have q1 := hD.1; have q2 := hD.2.1; have q3 := hD0.1; have q4 := hD0.2.1; first | omega | decide | (simp only [Int32.le_iff_toInt_le, Int32.lt_iff_toInt_lt, ti_add, ti_sub, ti_mul, Int32.reduceToInt] at *; omega) | (exfalso; simp_all; done)) (by have q1 := hD.1; have q2 := hD.2.1; have q3 := hD0.1; have q4 := hD0.2.1; first | omega | decide | (simp only [Int32.le_iff_toInt_le, Int32.lt_iff_toInt_lt, ti_add, ti_sub, ti_mul, Int32.reduceToInt] at *; omega) | (exfalso; simp_all; done)) (fun v5 ev5 => ?_)
    exact ok_some ⟨hT, (show 1 ≤ (σ0.1 57 9).toInt → v5 = lastv σ0.1 from by intro h; first | (rw [ev5]; exact lastv_at h) | (exfalso; simp only [Int32.le_iff_toInt_le, Int32.lt_iff_toInt_lt, Int32.reduceToInt] at *; omega))⟩

set_option maxHeartbeats 4000000 in
set_option maxRecDepth 100000 in
theorem s_X5_emit {N : Nat} (hN : 1048576 ≤ N) {x1 : Int32} {x2 : Int32} {σ0 : zS}  (hR : RF σ0.2.2) (hX : σ0.2.2 57 5 = 1) (hD : RD σ0.1) : Ok (f_X5_emit N 57 x1 x2 σ0) (fun r => Tr [57, 58, 59] σ0 r.2 ∧ (r.1 = 1 ∧ RD r.2.1)) := by
  have hT : Tr [57, 58, 59] σ0 σ0 := Tr.rf
  have hD0 := hD
  have hst : σ0.1 57 2 = σ0.1 57 2 := rfl
  rw [f_X5_emit.eq_1]
  refine ok_gIv rfl hst ?_
  refine ok_if (fun hc2 => ?_) (fun hc2 => ?_)
  · exact ok_rZ (Or.inr rfl) ⟨hT, (show (1 : Int32) = 1 ∧ RD σ0.1 from by exact ⟨rfl, hD⟩)⟩
  · refine ok_gIv rfl hst ?_
    refine ok_if (fun hc4 => ?_) (fun hc4 => ?_)
    · exact ok_rZ (Or.inr rfl) ⟨hT, (show (1 : Int32) = 1 ∧ RD σ0.1 from by exact ⟨rfl, hD⟩)⟩
    · refine ok_gR (v := 58) hT rfl (hR 57 3 rfl) ?_
      refine ok_gIv rfl hst ?_
      refine ok_s14 hT rfl (by decide) (by have q1 := hD.1; have q2 := hD.2.1; have q3 := hD0.1; have q4 := hD0.2.1; first | omega | decide | (simp only [Int32.le_iff_toInt_le, Int32.lt_iff_toInt_lt, ti_add, ti_sub, ti_mul, Int32.reduceToInt] at *; omega) | (exfalso; simp_all; done)) (by have q1 := hD.1; have q2 := hD.2.1; have q3 := hD0.1; have q4 := hD0.2.1; first | omega | decide | (simp only [Int32.le_iff_toInt_le, Int32.lt_iff_toInt_lt, ti_add, ti_sub, ti_mul, Int32.reduceToInt] at *; omega) | (exfalso; simp_all; done)) (fun σ7 eσ7 hOσ7 hT => ?_)
      have hD : RD σ7.1 := RD.tr hOσ7 (by decide) (by decide) (by decide) (by decide) hD
      have hst : σ7.1 57 2 = σ0.1 57 2 := by rw [hOσ7.2 57 (by decide)] <;> exact hst
      refine ok_gR (v := 59) hT rfl (hR 57 4 rfl) ?_
      refine ok_gIv rfl hst ?_
      refine ok_s14 hT rfl (by decide) (by have q1 := hD.1; have q2 := hD.2.1; have q3 := hD0.1; have q4 := hD0.2.1; first | omega | decide | (simp only [Int32.le_iff_toInt_le, Int32.lt_iff_toInt_lt, ti_add, ti_sub, ti_mul, Int32.reduceToInt] at *; omega) | (exfalso; simp_all; done)) (by have q1 := hD.1; have q2 := hD.2.1; have q3 := hD0.1; have q4 := hD0.2.1; first | omega | decide | (simp only [Int32.le_iff_toInt_le, Int32.lt_iff_toInt_lt, ti_add, ti_sub, ti_mul, Int32.reduceToInt] at *; omega) | (exfalso; simp_all; done)) (fun σ10 eσ10 hOσ10 hT => ?_)
      have hD : RD σ10.1 := RD.tr hOσ10 (by decide) (by decide) (by decide) (by decide) hD
      have hst : σ10.1 57 2 = σ0.1 57 2 := by rw [hOσ10.2 57 (by decide)] <;> exact hst
      refine ok_gIv rfl hst ?_
      refine ok_pI hT rfl (by decide) (fun σ12 eσ12 hOσ12 hT => ?_)
      have hD : RD σ12.1 := RD_p eσ12 (fun q => absurd q (by decide)) (fun q => absurd q (by decide)) hD
      exact ok_rZ (Or.inr rfl) ⟨hT, (show (1 : Int32) = 1 ∧ RD σ12.1 from by exact ⟨rfl, hD⟩)⟩

set_option maxHeartbeats 4000000 in
set_option maxRecDepth 100000 in
theorem s_X5_passNumber {N : Nat} (hN : 1048576 ≤ N) {x1 : Int32} {x2 : Int32} {σ0 : zS}  (hR : RF σ0.2.2) (hX : σ0.2.2 57 5 = 1) (hD : RD σ0.1) : Ok (f_X5_passNumber N 57 x1 x2 σ0) (fun r => Tr [57] σ0 r.2 ∧ ((r.1 = 0 ∨ r.1 = 1) ∧ RD r.2.1 ∧ (¬ r.1 = 0 → 1 ≤ (r.2.1 57 9).toInt ∧ x1.toInt ≤ (lastv r.2.1).toInt ∧ (lastv r.2.1).toInt ≤ x2.toInt))) := by
  have hT : Tr [57] σ0 σ0 := Tr.rf
  have hD0 := hD
  rw [f_X5_passNumber.eq_1]
  refine ok_gR (v := 61) hT rfl (hR 57 10 rfl) ?_
  refine ok_gI rfl ?_
  refine ok_aIn rfl (by have q1 := hD.1; have q2 := hD.2.1; have q3 := hD0.1; have q4 := hD0.2.1; first | omega | decide | (simp only [Int32.le_iff_toInt_le, Int32.lt_iff_toInt_lt, ti_add, ti_sub, ti_mul, Int32.reduceToInt] at *; omega) | (exfalso; simp_all; done)) (by have q1 := hD.1; have q2 := hD.2.1; have q3 := hD0.1; have q4 := hD0.2.1; first | omega | decide | (simp only [Int32.le_iff_toInt_le, Int32.lt_iff_toInt_lt, ti_add, ti_sub, ti_mul, Int32.reduceToInt] at *; omega) | (exfalso; simp_all; done)) (fun v3 ev3 => ?_)
  refine ok_if (fun hc4 => ?_) (fun hc4 => ?_)
  · refine ok_gR (v := 62) hT rfl (hR 57 11 rfl) ?_
    refine ok_gI rfl ?_
    refine ok_aIn rfl (by have q1 := hD.1; have q2 := hD.2.1; have q3 := hD0.1; have q4 := hD0.2.1; first | omega | decide | (simp only [Int32.le_iff_toInt_le, Int32.lt_iff_toInt_lt, ti_add, ti_sub, ti_mul, Int32.reduceToInt] at *; omega) | (exfalso; simp_all; done)) (by have q1 := hD.1; have q2 := hD.2.1; have q3 := hD0.1; have q4 := hD0.2.1; first | omega | decide | (simp only [Int32.le_iff_toInt_le, Int32.lt_iff_toInt_lt, ti_add, ti_sub, ti_mul, Int32.reduceToInt] at *; omega) | (exfalso; simp_all; done)) (fun v7 ev7 => ?_)
    refine ok_if (fun hc8 => ?_) (fun hc8 => ?_)
    · refine ok_gC rfl ?_
      refine ok_zbT (Q := fun V σ => V = (0 : Int32) ∧ RD σ.1 ∧ (¬ (0 : Int32) = 0 → ¬ σ0.1 61 (Int32.toNatClampNeg (σ0.1 57 9)) = 0 → (σ.1 57 9).toInt = (σ0.1 57 9).toInt + 1)) hT (s_X5_advance hN (hR.tr hT) (by first | exact hX | exact hT.1.2 hX) (hD) (by first | exact Or.inl rfl | exact Or.inr rfl | assumption)) (by decide) (fun v9 σ10 hOσ10 hT hqv9 => ?_)
      have hqv9 : v9 = (0 : Int32) ∧ RD σ10.1 ∧ (¬ (0 : Int32) = 0 → ¬ σ0.1 61 (Int32.toNatClampNeg (σ0.1 57 9)) = 0 → (σ10.1 57 9).toInt = (σ0.1 57 9).toInt + 1) := hqv9
      have hD : RD σ10.1 := hqv9.2.1
      exact ok_rZ (by have q := hqv9.1; first | exact Or.inl q | exact Or.inr q) ⟨hT, (show (v9 = 0 ∨ v9 = 1) ∧ RD σ10.1 ∧ (¬ v9 = 0 → 1 ≤ (σ10.1 57 9).toInt ∧ x1.toInt ≤ (lastv σ10.1).toInt ∧ (lastv σ10.1).toInt ≤ x2.toInt) from by have q := hqv9.1; first | exact ⟨Or.inl q, hD, fun h => absurd q h⟩ | exact ⟨Or.inr q, hD, fun _ => PN1 hD0 hOσ18 ev3 hc4 ev7 ev13 hc8 hc14 hqv17.2.2⟩)⟩
    · refine ok_gR (v := 62) hT rfl (hR 57 11 rfl) ?_
      refine ok_gI rfl ?_
      refine ok_aIn rfl (by have q1 := hD.1; have q2 := hD.2.1; have q3 := hD0.1; have q4 := hD0.2.1; first | omega | decide | (simp only [Int32.le_iff_toInt_le, Int32.lt_iff_toInt_lt, ti_add, ti_sub, ti_mul, Int32.reduceToInt] at *; omega) | (exfalso; simp_all; done)) (by have q1 := hD.1; have q2 := hD.2.1; have q3 := hD0.1; have q4 := hD0.2.1; first | omega | decide | (simp only [Int32.le_iff_toInt_le, Int32.lt_iff_toInt_lt, ti_add, ti_sub, ti_mul, Int32.reduceToInt] at *; omega) | (exfalso; simp_all; done)) (fun v13 ev13 => ?_)
      refine ok_if (fun hc14 => ?_) (fun hc14 => ?_)
      · refine ok_gC rfl ?_
        refine ok_zbT (Q := fun V σ => V = (0 : Int32) ∧ RD σ.1 ∧ (¬ (0 : Int32) = 0 → ¬ σ0.1 61 (Int32.toNatClampNeg (σ0.1 57 9)) = 0 → (σ.1 57 9).toInt = (σ0.1 57 9).toInt + 1)) hT (s_X5_advance hN (hR.tr hT) (by first | exact hX | exact hT.1.2 hX) (hD) (by first | exact Or.inl rfl | exact Or.inr rfl | assumption)) (by decide) (fun v15 σ16 hOσ16 hT hqv15 => ?_)
        have hqv15 : v15 = (0 : Int32) ∧ RD σ16.1 ∧ (¬ (0 : Int32) = 0 → ¬ σ0.1 61 (Int32.toNatClampNeg (σ0.1 57 9)) = 0 → (σ16.1 57 9).toInt = (σ0.1 57 9).toInt + 1) := hqv15
        have hD : RD σ16.1 := hqv15.2.1
        exact ok_rZ (by have q := hqv15.1; first | exact Or.inl q | exact Or.inr q) ⟨hT, (show (v15 = 0 ∨ v15 = 1) ∧ RD σ16.1 ∧ (¬ v15 = 0 → 1 ≤ (σ16.1 57 9).toInt ∧ x1.toInt ≤ (lastv σ16.1).toInt ∧ (lastv σ16.1).toInt ≤ x2.toInt) from by have q := hqv15.1; first | exact ⟨Or.inl q, hD, fun h => absurd q h⟩ | exact ⟨Or.inr q, hD, fun _ => PN1 hD0 hOσ18 ev3 hc4 ev7 ev13 hc8 hc14 hqv17.2.2⟩)⟩
      · refine ok_gC rfl ?_
        refine ok_zbT (Q := fun V σ => V = (1 : Int32) ∧ RD σ.1 ∧ (¬ (1 : Int32) = 0 → ¬ σ0.1 61 (Int32.toNatClampNeg (σ0.1 57 9)) = 0 → (σ.1 57 9).toInt = (σ0.1 57 9).toInt + 1)) hT (s_X5_advance hN (hR.tr hT) (by first | exact hX | exact hT.1.2 hX) (hD) (by first | exact Or.inl rfl | exact Or.inr rfl | assumption)) (by decide) (fun v17 σ18 hOσ18 hT hqv17 => ?_)
        have hqv17 : v17 = (1 : Int32) ∧ RD σ18.1 ∧ (¬ (1 : Int32) = 0 → ¬ σ0.1 61 (Int32.toNatClampNeg (σ0.1 57 9)) = 0 → (σ18.1 57 9).toInt = (σ0.1 57 9).toInt + 1) := hqv17
        have hD : RD σ18.1 := hqv17.2.1
        exact ok_rZ (by have q := hqv17.1; first | exact Or.inl q | exact Or.inr q) ⟨hT, (show (v17 = 0 ∨ v17 = 1) ∧ RD σ18.1 ∧ (¬ v17 = 0 → 1 ≤ (σ18.1 57 9).toInt ∧ x1.toInt ≤ (lastv σ18.1).toInt ∧ (lastv σ18.1).toInt ≤ x2.toInt) from by have q := hqv17.1; first | exact ⟨Or.inl q, hD, fun h => absurd q h⟩ | exact ⟨Or.inr q, hD, fun _ => PN1 hD0 hOσ18 ev3 hc4 ev7 ev13 hc8 hc14 hqv17.2.2⟩)⟩
  · refine ok_gC rfl ?_
    refine ok_zbT (Q := fun V σ => V = 0 ∧ RD σ.1) hT (s_X5_fail hN (hR.tr hT) (by first | exact hX | exact hT.1.2 hX) (hD)) (by decide) (fun v19 σ20 hOσ20 hT hqv19 => ?_)
    have hqv19 : v19 = 0 ∧ RD σ20.1 := hqv19
    have hD : RD σ20.1 := hqv19.2
    exact ok_rZ (by have q := hqv19.1; first | exact Or.inl q | exact Or.inr q) ⟨hT, (show (v19 = 0 ∨ v19 = 1) ∧ RD σ20.1 ∧ (¬ v19 = 0 → 1 ≤ (σ20.1 57 9).toInt ∧ x1.toInt ≤ (lastv σ20.1).toInt ∧ (lastv σ20.1).toInt ≤ x2.toInt) from by have q := hqv19.1; first | exact ⟨Or.inl q, hD, fun h => absurd q h⟩ | exact ⟨Or.inr q, hD, fun _ => PN1 hD0 hOσ18 ev3 hc4 ev7 ev13 hc8 hc14 hqv17.2.2⟩)⟩

set_option maxHeartbeats 4000000 in
set_option maxRecDepth 100000 in
theorem s_X5_member {N : Nat} (hN : 1048576 ≤ N)  {σ0 : zS}  (hR : RF σ0.2.2) (hX : σ0.2.2 57 5 = 1) (hD : RD σ0.1) : Ok (f_X5_member N 57 σ0) (fun r => Tr [57, 58, 59] σ0 r.2 ∧ ((r.1 = 0 ∨ r.1 = 1) ∧ RD r.2.1)) := by
  have hT : Tr [57, 58, 59] σ0 σ0 := Tr.rf
  have hD0 := hD
  rw [f_X5_member.eq_1]
  refine ok_gR (v := 61) hT rfl (hR 57 10 rfl) ?_
  refine ok_gI rfl ?_
  refine ok_aIn rfl (by have q1 := hD.1; have q2 := hD.2.1; have q3 := hD0.1; have q4 := hD0.2.1; first | omega | decide | (simp only [Int32.le_iff_toInt_le, Int32.lt_iff_toInt_lt, ti_add, ti_sub, ti_mul, Int32.reduceToInt] at *; omega) | (exfalso; simp_all; done)) (by have q1 := hD.1; have q2 := hD.2.1; have q3 := hD0.1; have q4 := hD0.2.1; first | omega | decide | (simp only [Int32.le_iff_toInt_le, Int32.lt_iff_toInt_lt, ti_add, ti_sub, ti_mul, Int32.reduceToInt] at *; omega) | (exfalso; simp_all; done)) (fun v3 ev3 => ?_)
  refine ok_if (fun hc4 => ?_) (fun hc4 => ?_)
  · refine ok_gR (v := 62) hT rfl (hR 57 11 rfl) ?_
    refine ok_gI rfl ?_
    refine ok_aIn rfl (by have q1 := hD.1; have q2 := hD.2.1; have q3 := hD0.1; have q4 := hD0.2.1; first | omega | decide | (simp only [Int32.le_iff_toInt_le, Int32.lt_iff_toInt_lt, ti_add, ti_sub, ti_mul, Int32.reduceToInt] at *; omega) | (exfalso; simp_all; done)) (by have q1 := hD.1; have q2 := hD.2.1; have q3 := hD0.1; have q4 := hD0.2.1; first | omega | decide | (simp only [Int32.le_iff_toInt_le, Int32.lt_iff_toInt_lt, ti_add, ti_sub, ti_mul, Int32.reduceToInt] at *; omega) | (exfalso; simp_all; done)) (fun v7 ev7 => ?_)
    refine ok_if (fun hc8 => ?_) (fun hc8 => ?_)
    · rw [J_X5_member_31.eq_1]
      refine ok_gC rfl ?_
      refine ok_zbT (Q := fun V σ => V = (1 : Int32) ∧ RD σ.1 ∧ (¬ (1 : Int32) = 0 → ¬ σ0.1 61 (Int32.toNatClampNeg (σ0.1 57 9)) = 0 → (σ.1 57 9).toInt = (σ0.1 57 9).toInt + 1)) hT (s_X5_advance hN (hR.tr hT) (by first | exact hX | exact hT.1.2 hX) (hD) (by first | exact Or.inl rfl | exact Or.inr rfl | assumption)) (by decide) (fun v9 σ10 hOσ10 hT hqv9 => ?_)
      have hqv9 : v9 = (1 : Int32) ∧ RD σ10.1 ∧ (¬ (1 : Int32) = 0 → ¬ σ0.1 61 (Int32.toNatClampNeg (σ0.1 57 9)) = 0 → (σ10.1 57 9).toInt = (σ0.1 57 9).toInt + 1) := hqv9
      have hD : RD σ10.1 := hqv9.2.1
      refine ok_if (fun hc11 => ?_) (fun hc11 => ?_)
      · exact ok_rZ (Or.inl rfl) ⟨hT, (show ((0 : Int32) = 0 ∨ (0 : Int32) = 1) ∧ RD σ10.1 from by first | exact ⟨Or.inl rfl, hD⟩ | exact ⟨Or.inr rfl, hD⟩ | (have q := hqv9.1; first | exact ⟨Or.inl q, hD⟩ | exact ⟨Or.inr q, hD⟩))⟩
      · refine ok_gC rfl ?_
        refine ok_zbT (Q := fun V σ => V = 1 ∧ RD σ.1) hT (s_X5_emit hN (hR.tr hT) (by first | exact hX | exact hT.1.2 hX) (hD)) (by decide) (fun v12 σ13 hOσ13 hT hqv12 => ?_)
        have hqv12 : v12 = 1 ∧ RD σ13.1 := hqv12
        have hD : RD σ13.1 := hqv12.2
        refine ok_if (fun hc14 => ?_) (fun hc14 => ?_)
        · exact ok_rZ (Or.inl rfl) ⟨hT, (show ((0 : Int32) = 0 ∨ (0 : Int32) = 1) ∧ RD σ13.1 from by first | exact ⟨Or.inl rfl, hD⟩ | exact ⟨Or.inr rfl, hD⟩ | (have q := hqv12.1; first | exact ⟨Or.inl q, hD⟩ | exact ⟨Or.inr q, hD⟩))⟩
        · exact ok_rZ (Or.inr rfl) ⟨hT, (show ((1 : Int32) = 0 ∨ (1 : Int32) = 1) ∧ RD σ13.1 from by first | exact ⟨Or.inl rfl, hD⟩ | exact ⟨Or.inr rfl, hD⟩ | (have q := hqv12.1; first | exact ⟨Or.inl q, hD⟩ | exact ⟨Or.inr q, hD⟩))⟩
    · rw [J_X5_member_31.eq_1]
      refine ok_gC rfl ?_
      refine ok_zbT (Q := fun V σ => V = (0 : Int32) ∧ RD σ.1 ∧ (¬ (0 : Int32) = 0 → ¬ σ0.1 61 (Int32.toNatClampNeg (σ0.1 57 9)) = 0 → (σ.1 57 9).toInt = (σ0.1 57 9).toInt + 1)) hT (s_X5_advance hN (hR.tr hT) (by first | exact hX | exact hT.1.2 hX) (hD) (by first | exact Or.inl rfl | exact Or.inr rfl | assumption)) (by decide) (fun v15 σ16 hOσ16 hT hqv15 => ?_)
      have hqv15 : v15 = (0 : Int32) ∧ RD σ16.1 ∧ (¬ (0 : Int32) = 0 → ¬ σ0.1 61 (Int32.toNatClampNeg (σ0.1 57 9)) = 0 → (σ16.1 57 9).toInt = (σ0.1 57 9).toInt + 1) := hqv15
      have hD : RD σ16.1 := hqv15.2.1
      refine ok_if (fun hc17 => ?_) (fun hc17 => ?_)
      · exact ok_rZ (Or.inl rfl) ⟨hT, (show ((0 : Int32) = 0 ∨ (0 : Int32) = 1) ∧ RD σ16.1 from by first | exact ⟨Or.inl rfl, hD⟩ | exact ⟨Or.inr rfl, hD⟩ | (have q := hqv15.1; first | exact ⟨Or.inl q, hD⟩ | exact ⟨Or.inr q, hD⟩))⟩
      · refine ok_gC rfl ?_
        refine ok_zbT (Q := fun V σ => V = 1 ∧ RD σ.1) hT (s_X5_emit hN (hR.tr hT) (by first | exact hX | exact hT.1.2 hX) (hD)) (by decide) (fun v18 σ19 hOσ19 hT hqv18 => ?_)
        have hqv18 : v18 = 1 ∧ RD σ19.1 := hqv18
        have hD : RD σ19.1 := hqv18.2
        refine ok_if (fun hc20 => ?_) (fun hc20 => ?_)
        · exact ok_rZ (Or.inl rfl) ⟨hT, (show ((0 : Int32) = 0 ∨ (0 : Int32) = 1) ∧ RD σ19.1 from by first | exact ⟨Or.inl rfl, hD⟩ | exact ⟨Or.inr rfl, hD⟩ | (have q := hqv18.1; first | exact ⟨Or.inl q, hD⟩ | exact ⟨Or.inr q, hD⟩))⟩
        · exact ok_rZ (Or.inr rfl) ⟨hT, (show ((1 : Int32) = 0 ∨ (1 : Int32) = 1) ∧ RD σ19.1 from by first | exact ⟨Or.inl rfl, hD⟩ | exact ⟨Or.inr rfl, hD⟩ | (have q := hqv18.1; first | exact ⟨Or.inl q, hD⟩ | exact ⟨Or.inr q, hD⟩))⟩
  · refine ok_gR (v := 61) hT rfl (hR 57 10 rfl) ?_
    refine ok_gI rfl ?_
    refine ok_aIn rfl (by have q1 := hD.1; have q2 := hD.2.1; have q3 := hD0.1; have q4 := hD0.2.1; first | omega | decide | (simp only [Int32.le_iff_toInt_le, Int32.lt_iff_toInt_lt, ti_add, ti_sub, ti_mul, Int32.reduceToInt] at *; omega) | (exfalso; simp_all; done)) (by have q1 := hD.1; have q2 := hD.2.1; have q3 := hD0.1; have q4 := hD0.2.1; first | omega | decide | (simp only [Int32.le_iff_toInt_le, Int32.lt_iff_toInt_lt, ti_add, ti_sub, ti_mul, Int32.reduceToInt] at *; omega) | (exfalso; simp_all; done)) (fun v23 ev23 => ?_)
    refine ok_if (fun hc24 => ?_) (fun hc24 => ?_)
    · refine ok_gR (v := 63) hT rfl (hR 57 12 rfl) ?_
      refine ok_gI rfl ?_
      refine ok_aIn rfl (by have q1 := hD.1; have q2 := hD.2.1; have q3 := hD0.1; have q4 := hD0.2.1; first | omega | decide | (simp only [Int32.le_iff_toInt_le, Int32.lt_iff_toInt_lt, ti_add, ti_sub, ti_mul, Int32.reduceToInt] at *; omega) | (exfalso; simp_all; done)) (by have q1 := hD.1; have q2 := hD.2.1; have q3 := hD0.1; have q4 := hD0.2.1; first | omega | decide | (simp only [Int32.le_iff_toInt_le, Int32.lt_iff_toInt_lt, ti_add, ti_sub, ti_mul, Int32.reduceToInt] at *; omega) | (exfalso; simp_all; done)) (fun v27 ev27 => ?_)
      have qst : 0 ≤ v27.toInt ∧ v27.toInt ≤ 600 := by rw [ev27]; exact RD_st hD (by have q1 := hD.1; have q2 := hD.2.1; have q3 := hD0.1; have q4 := hD0.2.1; first | omega | decide | (simp only [Int32.le_iff_toInt_le, Int32.lt_iff_toInt_lt, ti_add, ti_sub, ti_mul, Int32.reduceToInt] at *; omega)) (by have q1 := hD.1; have q2 := hD.2.1; have q3 := hD0.1; have q4 := hD0.2.1; first | omega | decide | (simp only [Int32.le_iff_toInt_le, Int32.lt_iff_toInt_lt, ti_add, ti_sub, ti_mul, Int32.reduceToInt] at *; omega))
      refine ok_lp (fun t : Int32 × Int32 × Int32 × zS => Tr [57, 58, 59] σ0 (t.2.2.2) ∧ ((0 ≤ (t.2.2.1).toInt ∧ (t.2.2.1).toInt ≤ 600) ∧ ((t.2.1) = 0 ∨ (t.2.1) = 1)) ∧ (RD (t.2.2.2).1)) (fun t : Int32 × Int32 × Int32 × zS => (600 - (t.2.2.1).toInt).toNat) (fun again28 t hI ih87_28 => ?_) N _ (show Tr [57, 58, 59] σ0 σ0 ∧ ((0 ≤ v27.toInt ∧ v27.toInt ≤ 600) ∧ ((1 : Int32) = 0 ∨ (1 : Int32) = 1)) ∧ (RD σ0.1) from ⟨hT, (by exact ⟨qst, Or.inr rfl⟩), hD⟩) (show (600 - v27.toInt).toNat < N from (by have q1 := hD.1; have q2 := hD.2.1; have q3 := hD0.1; have q4 := hD0.2.1; first | omega | decide | (simp only [Int32.le_iff_toInt_le, Int32.lt_iff_toInt_lt, ti_add, ti_sub, ti_mul, Int32.reduceToInt] at *; omega) | (exfalso; simp_all; done)))
      obtain ⟨x1_28, x2_28, x3_28, σ28⟩ := t
      have hI : Tr [57, 58, 59] σ0 σ28 ∧ ((0 ≤ x3_28.toInt ∧ x3_28.toInt ≤ 600) ∧ (x2_28 = 0 ∨ x2_28 = 1)) ∧ (RD σ28.1) := hI
      obtain ⟨hT, hI28, hD⟩ := hI
      rw [F_X5_member_87.eq_1]
      have hz2 := hI28.2
      refine ok_gR (v := 64) hT rfl (hR 57 13 rfl) ?_
      refine ok_gI rfl ?_
      refine ok_aIn rfl (by have q1 := hD.1; have q2 := hD.2.1; have q3 := hD0.1; have q4 := hD0.2.1; first | omega | decide | (simp only [Int32.le_iff_toInt_le, Int32.lt_iff_toInt_lt, ti_add, ti_sub, ti_mul, Int32.reduceToInt] at *; omega) | (exfalso; simp_all; done)) (by have q1 := hD.1; have q2 := hD.2.1; have q3 := hD0.1; have q4 := hD0.2.1; first | omega | decide | (simp only [Int32.le_iff_toInt_le, Int32.lt_iff_toInt_lt, ti_add, ti_sub, ti_mul, Int32.reduceToInt] at *; omega) | (exfalso; simp_all; done)) (fun v31 ev31 => ?_)
      refine ok_if (fun hc32 => ?_) (fun hc32 => ?_)
      · rw [J_X5_member_173.eq_1]
        refine ok_gC rfl ?_
        refine ok_zbT (Q := fun V σ => V = x2_28 ∧ RD σ.1 ∧ (¬ x2_28 = 0 → ¬ σ28.1 61 (Int32.toNatClampNeg (σ28.1 57 9)) = 0 → (σ.1 57 9).toInt = (σ28.1 57 9).toInt + 1)) hT (s_X5_advance hN (hR.tr hT) (by first | exact hX | exact hT.1.2 hX) (hD) (by first | exact Or.inl rfl | exact Or.inr rfl | assumption)) (by decide) (fun v33 σ34 hOσ34 hT hqv33 => ?_)
        have hqv33 : v33 = x2_28 ∧ RD σ34.1 ∧ (¬ x2_28 = 0 → ¬ σ28.1 61 (Int32.toNatClampNeg (σ28.1 57 9)) = 0 → (σ34.1 57 9).toInt = (σ28.1 57 9).toInt + 1) := hqv33
        have hD : RD σ34.1 := hqv33.2.1
        refine ok_if (fun hc35 => ?_) (fun hc35 => ?_)
        · exact ok_rZ (Or.inl rfl) ⟨hT, (show ((0 : Int32) = 0 ∨ (0 : Int32) = 1) ∧ RD σ34.1 from by first | exact ⟨Or.inl rfl, hD⟩ | exact ⟨Or.inr rfl, hD⟩ | (have q := hqv33.1; first | exact ⟨Or.inl q, hD⟩ | exact ⟨Or.inr q, hD⟩))⟩
        · refine ok_gC rfl ?_
          refine ok_zbT (Q := fun V σ => V = 1 ∧ RD σ.1) hT (s_X5_emit hN (hR.tr hT) (by first | exact hX | exact hT.1.2 hX) (hD)) (by decide) (fun v36 σ37 hOσ37 hT hqv36 => ?_)
          have hqv36 : v36 = 1 ∧ RD σ37.1 := hqv36
          have hD : RD σ37.1 := hqv36.2
          refine ok_if (fun hc38 => ?_) (fun hc38 => ?_)
          · exact ok_rZ (Or.inl rfl) ⟨hT, (show ((0 : Int32) = 0 ∨ (0 : Int32) = 1) ∧ RD σ37.1 from by first | exact ⟨Or.inl rfl, hD⟩ | exact ⟨Or.inr rfl, hD⟩ | (have q := hqv36.1; first | exact ⟨Or.inl q, hD⟩ | exact ⟨Or.inr q, hD⟩))⟩
          · exact ok_rZ (Or.inr rfl) ⟨hT, (show ((1 : Int32) = 0 ∨ (1 : Int32) = 1) ∧ RD σ37.1 from by first | exact ⟨Or.inl rfl, hD⟩ | exact ⟨Or.inr rfl, hD⟩ | (have q := hqv36.1; first | exact ⟨Or.inl q, hD⟩ | exact ⟨Or.inr q, hD⟩))⟩
      · refine ok_gI rfl ?_
        refine ok_if (fun hc40 => ?_) (fun hc40 => ?_)
        · rw [J_X5_member_173.eq_1]
          refine ok_gC rfl ?_
          refine ok_zbT (Q := fun V σ => V = x2_28 ∧ RD σ.1 ∧ (¬ x2_28 = 0 → ¬ σ28.1 61 (Int32.toNatClampNeg (σ28.1 57 9)) = 0 → (σ.1 57 9).toInt = (σ28.1 57 9).toInt + 1)) hT (s_X5_advance hN (hR.tr hT) (by first | exact hX | exact hT.1.2 hX) (hD) (by first | exact Or.inl rfl | exact Or.inr rfl | assumption)) (by decide) (fun v41 σ42 hOσ42 hT hqv41 => ?_)
          have hqv41 : v41 = x2_28 ∧ RD σ42.1 ∧ (¬ x2_28 = 0 → ¬ σ28.1 61 (Int32.toNatClampNeg (σ28.1 57 9)) = 0 → (σ42.1 57 9).toInt = (σ28.1 57 9).toInt + 1) := hqv41
          have hD : RD σ42.1 := hqv41.2.1
          refine ok_if (fun hc43 => ?_) (fun hc43 => ?_)
          · exact ok_rZ (Or.inl rfl) ⟨hT, (show ((0 : Int32) = 0 ∨ (0 : Int32) = 1) ∧ RD σ42.1 from by first | exact ⟨Or.inl rfl, hD⟩ | exact ⟨Or.inr rfl, hD⟩ | (have q := hqv41.1; first | exact ⟨Or.inl q, hD⟩ | exact ⟨Or.inr q, hD⟩))⟩
          · refine ok_gC rfl ?_
            refine ok_zbT (Q := fun V σ => V = 1 ∧ RD σ.1) hT (s_X5_emit hN (hR.tr hT) (by first | exact hX | exact hT.1.2 hX) (hD)) (by decide) (fun v44 σ45 hOσ45 hT hqv44 => ?_)
            have hqv44 : v44 = 1 ∧ RD σ45.1 := hqv44
            have hD : RD σ45.1 := hqv44.2
            refine ok_if (fun hc46 => ?_) (fun hc46 => ?_)
            · exact ok_rZ (Or.inl rfl) ⟨hT, (show ((0 : Int32) = 0 ∨ (0 : Int32) = 1) ∧ RD σ45.1 from by first | exact ⟨Or.inl rfl, hD⟩ | exact ⟨Or.inr rfl, hD⟩ | (have q := hqv44.1; first | exact ⟨Or.inl q, hD⟩ | exact ⟨Or.inr q, hD⟩))⟩
            · exact ok_rZ (Or.inr rfl) ⟨hT, (show ((1 : Int32) = 0 ∨ (1 : Int32) = 1) ∧ RD σ45.1 from by first | exact ⟨Or.inl rfl, hD⟩ | exact ⟨Or.inr rfl, hD⟩ | (have q := hqv44.1; first | exact ⟨Or.inl q, hD⟩ | exact ⟨Or.inr q, hD⟩))⟩
        · refine ok_gRX hT hX ?_
          refine ok_aIn rfl (by have q1 := hD.1; have q2 := hD.2.1; have q3 := hD0.1; have q4 := hD0.2.1; first | omega | decide | (simp only [Int32.le_iff_toInt_le, Int32.lt_iff_toInt_lt, ti_add, ti_sub, ti_mul, Int32.reduceToInt] at *; omega) | (exfalso; simp_all; done)) (by have q1 := hD.1; have q2 := hD.2.1; have q3 := hD0.1; have q4 := hD0.2.1; first | omega | decide | (simp only [Int32.le_iff_toInt_le, Int32.lt_iff_toInt_lt, ti_add, ti_sub, ti_mul, Int32.reduceToInt] at *; omega) | (exfalso; simp_all; done)) (fun v48 ev48 => ?_)
          refine ok_if (fun hc49 => ?_) (fun hc49 => ?_)
          · rw [J_X5_member_151.eq_1]
            refine ok_if (fun hc50 => ?_) (fun hc50 => ?_)
            · exact ih87_28 (x1_28 ||| 0, 0, x3_28 + 1, σ28) (show Tr [57, 58, 59] σ0 σ28 ∧ ((0 ≤ (x3_28 + 1).toInt ∧ (x3_28 + 1).toInt ≤ 600) ∧ ((0 : Int32) = 0 ∨ (0 : Int32) = 1)) ∧ (RD σ28.1) from ⟨hT, (by refine ⟨by have q1 := hD.1; have q2 := hD.2.1; have q3 := hD0.1; have q4 := hD0.2.1; first | omega | decide | (simp only [Int32.le_iff_toInt_le, Int32.lt_iff_toInt_lt, ti_add, ti_sub, ti_mul, Int32.reduceToInt] at *; omega), ?_⟩; first | exact Or.inl rfl | exact Or.inr rfl), hD⟩) (show (600 - (x3_28 + 1).toInt).toNat < (600 - x3_28.toInt).toNat from (by have q1 := hD.1; have q2 := hD.2.1; have q3 := hD0.1; have q4 := hD0.2.1; first | omega | decide | (simp only [Int32.le_iff_toInt_le, Int32.lt_iff_toInt_lt, ti_add, ti_sub, ti_mul, Int32.reduceToInt] at *; omega) | (exfalso; simp_all; done)))
            · exact ih87_28 (x1_28 ||| ((1 : Int32) <<< ((v48 - 97) &&& 31)), 0, x3_28 + 1, σ28) (show Tr [57, 58, 59] σ0 σ28 ∧ ((0 ≤ (x3_28 + 1).toInt ∧ (x3_28 + 1).toInt ≤ 600) ∧ ((0 : Int32) = 0 ∨ (0 : Int32) = 1)) ∧ (RD σ28.1) from ⟨hT, (by refine ⟨by have q1 := hD.1; have q2 := hD.2.1; have q3 := hD0.1; have q4 := hD0.2.1; first | omega | decide | (simp only [Int32.le_iff_toInt_le, Int32.lt_iff_toInt_lt, ti_add, ti_sub, ti_mul, Int32.reduceToInt] at *; omega), ?_⟩; first | exact Or.inl rfl | exact Or.inr rfl), hD⟩) (show (600 - (x3_28 + 1).toInt).toNat < (600 - x3_28.toInt).toNat from (by have q1 := hD.1; have q2 := hD.2.1; have q3 := hD0.1; have q4 := hD0.2.1; first | omega | decide | (simp only [Int32.le_iff_toInt_le, Int32.lt_iff_toInt_lt, ti_add, ti_sub, ti_mul, Int32.reduceToInt] at *; omega) | (exfalso; simp_all; done)))
          · refine ok_if (fun hc51 => ?_) (fun hc51 => ?_)
            · rw [J_X5_member_151.eq_1]
              refine ok_if (fun hc52 => ?_) (fun hc52 => ?_)
              · exact ih87_28 (x1_28 ||| 0, 0, x3_28 + 1, σ28) (show Tr [57, 58, 59] σ0 σ28 ∧ ((0 ≤ (x3_28 + 1).toInt ∧ (x3_28 + 1).toInt ≤ 600) ∧ ((0 : Int32) = 0 ∨ (0 : Int32) = 1)) ∧ (RD σ28.1) from ⟨hT, (by refine ⟨by have q1 := hD.1; have q2 := hD.2.1; have q3 := hD0.1; have q4 := hD0.2.1; first | omega | decide | (simp only [Int32.le_iff_toInt_le, Int32.lt_iff_toInt_lt, ti_add, ti_sub, ti_mul, Int32.reduceToInt] at *; omega), ?_⟩; first | exact Or.inl rfl | exact Or.inr rfl), hD⟩) (show (600 - (x3_28 + 1).toInt).toNat < (600 - x3_28.toInt).toNat from (by have q1 := hD.1; have q2 := hD.2.1; have q3 := hD0.1; have q4 := hD0.2.1; first | omega | decide | (simp only [Int32.le_iff_toInt_le, Int32.lt_iff_toInt_lt, ti_add, ti_sub, ti_mul, Int32.reduceToInt] at *; omega) | (exfalso; simp_all; done)))
              · exact ih87_28 (x1_28 ||| ((1 : Int32) <<< ((v48 - 97) &&& 31)), 0, x3_28 + 1, σ28) (show Tr [57, 58, 59] σ0 σ28 ∧ ((0 ≤ (x3_28 + 1).toInt ∧ (x3_28 + 1).toInt ≤ 600) ∧ ((0 : Int32) = 0 ∨ (0 : Int32) = 1)) ∧ (RD σ28.1) from ⟨hT, (by refine ⟨by have q1 := hD.1; have q2 := hD.2.1; have q3 := hD0.1; have q4 := hD0.2.1; first | omega | decide | (simp only [Int32.le_iff_toInt_le, Int32.lt_iff_toInt_lt, ti_add, ti_sub, ti_mul, Int32.reduceToInt] at *; omega), ?_⟩; first | exact Or.inl rfl | exact Or.inr rfl), hD⟩) (show (600 - (x3_28 + 1).toInt).toNat < (600 - x3_28.toInt).toNat from (by have q1 := hD.1; have q2 := hD.2.1; have q3 := hD0.1; have q4 := hD0.2.1; first | omega | decide | (simp only [Int32.le_iff_toInt_le, Int32.lt_iff_toInt_lt, ti_add, ti_sub, ti_mul, Int32.reduceToInt] at *; omega) | (exfalso; simp_all; done)))
            · refine ok_gI rfl ?_
              refine ok_if (fun hc54 => ?_) (fun hc54 => ?_)
              · rw [J_X5_member_151.eq_1]
                refine ok_if (fun hc55 => ?_) (fun hc55 => ?_)
                · exact ih87_28 (x1_28 ||| 0, 0, x3_28 + 1, σ28) (show Tr [57, 58, 59] σ0 σ28 ∧ ((0 ≤ (x3_28 + 1).toInt ∧ (x3_28 + 1).toInt ≤ 600) ∧ ((0 : Int32) = 0 ∨ (0 : Int32) = 1)) ∧ (RD σ28.1) from ⟨hT, (by refine ⟨by have q1 := hD.1; have q2 := hD.2.1; have q3 := hD0.1; have q4 := hD0.2.1; first | omega | decide | (simp only [Int32.le_iff_toInt_le, Int32.lt_iff_toInt_lt, ti_add, ti_sub, ti_mul, Int32.reduceToInt] at *; omega), ?_⟩; first | exact Or.inl rfl | exact Or.inr rfl), hD⟩) (show (600 - (x3_28 + 1).toInt).toNat < (600 - x3_28.toInt).toNat from (by have q1 := hD.1; have q2 := hD.2.1; have q3 := hD0.1; have q4 := hD0.2.1; first | omega | decide | (simp only [Int32.le_iff_toInt_le, Int32.lt_iff_toInt_lt, ti_add, ti_sub, ti_mul, Int32.reduceToInt] at *; omega) | (exfalso; simp_all; done)))
                · exact ih87_28 (x1_28 ||| ((1 : Int32) <<< ((v48 - 97) &&& 31)), 0, x3_28 + 1, σ28) (show Tr [57, 58, 59] σ0 σ28 ∧ ((0 ≤ (x3_28 + 1).toInt ∧ (x3_28 + 1).toInt ≤ 600) ∧ ((0 : Int32) = 0 ∨ (0 : Int32) = 1)) ∧ (RD σ28.1) from ⟨hT, (by refine ⟨by have q1 := hD.1; have q2 := hD.2.1; have q3 := hD0.1; have q4 := hD0.2.1; first | omega | decide | (simp only [Int32.le_iff_toInt_le, Int32.lt_iff_toInt_lt, ti_add, ti_sub, ti_mul, Int32.reduceToInt] at *; omega), ?_⟩; first | exact Or.inl rfl | exact Or.inr rfl), hD⟩) (show (600 - (x3_28 + 1).toInt).toNat < (600 - x3_28.toInt).toNat from (by have q1 := hD.1; have q2 := hD.2.1; have q3 := hD0.1; have q4 := hD0.2.1; first | omega | decide | (simp only [Int32.le_iff_toInt_le, Int32.lt_iff_toInt_lt, ti_add, ti_sub, ti_mul, Int32.reduceToInt] at *; omega) | (exfalso; simp_all; done)))
              · refine ok_if (fun hc56 => ?_) (fun hc56 => ?_)
                · rw [J_X5_member_151.eq_1]
                  refine ok_if (fun hc57 => ?_) (fun hc57 => ?_)
                  · exact ih87_28 (x1_28 ||| 0, 1, x3_28 + 1, σ28) (show Tr [57, 58, 59] σ0 σ28 ∧ ((0 ≤ (x3_28 + 1).toInt ∧ (x3_28 + 1).toInt ≤ 600) ∧ ((1 : Int32) = 0 ∨ (1 : Int32) = 1)) ∧ (RD σ28.1) from ⟨hT, (by refine ⟨by have q1 := hD.1; have q2 := hD.2.1; have q3 := hD0.1; have q4 := hD0.2.1; first | omega | decide | (simp only [Int32.le_iff_toInt_le, Int32.lt_iff_toInt_lt, ti_add, ti_sub, ti_mul, Int32.reduceToInt] at *; omega), ?_⟩; first | exact Or.inl rfl | exact Or.inr rfl), hD⟩) (show (600 - (x3_28 + 1).toInt).toNat < (600 - x3_28.toInt).toNat from (by have q1 := hD.1; have q2 := hD.2.1; have q3 := hD0.1; have q4 := hD0.2.1; first | omega | decide | (simp only [Int32.le_iff_toInt_le, Int32.lt_iff_toInt_lt, ti_add, ti_sub, ti_mul, Int32.reduceToInt] at *; omega) | (exfalso; simp_all; done)))
                  · exact ih87_28 (x1_28 ||| ((1 : Int32) <<< ((v48 - 97) &&& 31)), 1, x3_28 + 1, σ28) (show Tr [57, 58, 59] σ0 σ28 ∧ ((0 ≤ (x3_28 + 1).toInt ∧ (x3_28 + 1).toInt ≤ 600) ∧ ((1 : Int32) = 0 ∨ (1 : Int32) = 1)) ∧ (RD σ28.1) from ⟨hT, (by refine ⟨by have q1 := hD.1; have q2 := hD.2.1; have q3 := hD0.1; have q4 := hD0.2.1; first | omega | decide | (simp only [Int32.le_iff_toInt_le, Int32.lt_iff_toInt_lt, ti_add, ti_sub, ti_mul, Int32.reduceToInt] at *; omega), ?_⟩; first | exact Or.inl rfl | exact Or.inr rfl), hD⟩) (show (600 - (x3_28 + 1).toInt).toNat < (600 - x3_28.toInt).toNat from (by have q1 := hD.1; have q2 := hD.2.1; have q3 := hD0.1; have q4 := hD0.2.1; first | omega | decide | (simp only [Int32.le_iff_toInt_le, Int32.lt_iff_toInt_lt, ti_add, ti_sub, ti_mul, Int32.reduceToInt] at *; omega) | (exfalso; simp_all; done)))
                · rw [J_X5_member_151.eq_1]
                  refine ok_if (fun hc58 => ?_) (fun hc58 => ?_)
                  · exact ih87_28 (x1_28 ||| 0, 0, x3_28 + 1, σ28) (show Tr [57, 58, 59] σ0 σ28 ∧ ((0 ≤ (x3_28 + 1).toInt ∧ (x3_28 + 1).toInt ≤ 600) ∧ ((0 : Int32) = 0 ∨ (0 : Int32) = 1)) ∧ (RD σ28.1) from ⟨hT, (by refine ⟨by have q1 := hD.1; have q2 := hD.2.1; have q3 := hD0.1; have q4 := hD0.2.1; first | omega | decide | (simp only [Int32.le_iff_toInt_le, Int32.lt_iff_toInt_lt, ti_add, ti_sub, ti_mul, Int32.reduceToInt] at *; omega), ?_⟩; first | exact Or.inl rfl | exact Or.inr rfl), hD⟩) (show (600 - (x3_28 + 1).toInt).toNat < (600 - x3_28.toInt).toNat from (by have q1 := hD.1; have q2 := hD.2.1; have q3 := hD0.1; have q4 := hD0.2.1; first | omega | decide | (simp only [Int32.le_iff_toInt_le, Int32.lt_iff_toInt_lt, ti_add, ti_sub, ti_mul, Int32.reduceToInt] at *; omega) | (exfalso; simp_all; done)))
                  · exact ih87_28 (x1_28 ||| ((1 : Int32) <<< ((v48 - 97) &&& 31)), 0, x3_28 + 1, σ28) (show Tr [57, 58, 59] σ0 σ28 ∧ ((0 ≤ (x3_28 + 1).toInt ∧ (x3_28 + 1).toInt ≤ 600) ∧ ((0 : Int32) = 0 ∨ (0 : Int32) = 1)) ∧ (RD σ28.1) from ⟨hT, (by refine ⟨by have q1 := hD.1; have q2 := hD.2.1; have q3 := hD0.1; have q4 := hD0.2.1; first | omega | decide | (simp only [Int32.le_iff_toInt_le, Int32.lt_iff_toInt_lt, ti_add, ti_sub, ti_mul, Int32.reduceToInt] at *; omega), ?_⟩; first | exact Or.inl rfl | exact Or.inr rfl), hD⟩) (show (600 - (x3_28 + 1).toInt).toNat < (600 - x3_28.toInt).toNat from (by have q1 := hD.1; have q2 := hD.2.1; have q3 := hD0.1; have q4 := hD0.2.1; first | omega | decide | (simp only [Int32.le_iff_toInt_le, Int32.lt_iff_toInt_lt, ti_add, ti_sub, ti_mul, Int32.reduceToInt] at *; omega) | (exfalso; simp_all; done)))
    · refine ok_gC rfl ?_
      refine ok_zbT (Q := fun V σ => V = (0 : Int32) ∧ RD σ.1 ∧ (¬ (0 : Int32) = 0 → ¬ σ0.1 61 (Int32.toNatClampNeg (σ0.1 57 9)) = 0 → (σ.1 57 9).toInt = (σ0.1 57 9).toInt + 1)) hT (s_X5_advance hN (hR.tr hT) (by first | exact hX | exact hT.1.2 hX) (hD) (by first | exact Or.inl rfl | exact Or.inr rfl | assumption)) (by decide) (fun v59 σ60 hOσ60 hT hqv59 => ?_)
      have hqv59 : v59 = (0 : Int32) ∧ RD σ60.1 ∧ (¬ (0 : Int32) = 0 → ¬ σ0.1 61 (Int32.toNatClampNeg (σ0.1 57 9)) = 0 → (σ60.1 57 9).toInt = (σ0.1 57 9).toInt + 1) := hqv59
      have hD : RD σ60.1 := hqv59.2.1
      exact ok_rZ (by have q := hqv59.1; first | exact Or.inl q | exact Or.inr q) ⟨hT, (show (v59 = 0 ∨ v59 = 1) ∧ RD σ60.1 from by first | exact ⟨Or.inl rfl, hD⟩ | exact ⟨Or.inr rfl, hD⟩ | (have q := hqv59.1; first | exact ⟨Or.inl q, hD⟩ | exact ⟨Or.inr q, hD⟩))⟩

set_option maxHeartbeats 4000000 in
set_option maxRecDepth 100000 in
theorem s_X5_family {N : Nat} (hN : 1048576 ≤ N)  {σ0 : zS}  (hR : RF σ0.2.2) (hX : σ0.2.2 57 5 = 1) (hD : RD σ0.1) : Ok (f_X5_family N 57 σ0) (fun r => Tr [57, 58, 59] σ0 r.2 ∧ ((r.1 = 0 ∨ r.1 = 1) ∧ RD r.2.1)) := by
  have hT : Tr [57, 58, 59] σ0 σ0 := Tr.rf
  have hD0 := hD
  rw [f_X5_family.eq_1]
  refine ok_gC rfl ?_
  refine ok_zbT (Q := fun V σ => (V = 0 ∨ V = 1) ∧ RD σ.1) hT (s_X5_pass hN (hR.tr hT) (by first | exact hX | exact hT.1.2 hX) (hD)) (by decide) (fun v1 σ2 hOσ2 hT hqv1 => ?_)
  have hqv1 : (v1 = 0 ∨ v1 = 1) ∧ RD σ2.1 := hqv1
  have hD : RD σ2.1 := by first | exact hqv1.2 | exact hqv1.2.1
  refine ok_gC rfl ?_
  refine ok_zbT (Q := fun V σ => V = 1 ∧ RD σ.1) hT (s_X5_emit hN (hR.tr hT) (by first | exact hX | exact hT.1.2 hX) (hD)) (by decide) (fun v3 σ4 hOσ4 hT hqv3 => ?_)
  have hqv3 : v3 = 1 ∧ RD σ4.1 := hqv3
  have hD : RD σ4.1 := by first | exact hqv3.2 | exact hqv3.2.1
  refine ok_gR (v := 61) hT rfl (hR 57 10 rfl) ?_
  refine ok_gI rfl ?_
  refine ok_aIn rfl (by have q1 := hD.1; have q2 := hD.2.1; have q3 := hD0.1; have q4 := hD0.2.1; first | omega | decide | (simp only [Int32.le_iff_toInt_le, Int32.lt_iff_toInt_lt, ti_add, ti_sub, ti_mul, Int32.reduceToInt] at *; omega) | (exfalso; simp_all; done)) (by have q1 := hD.1; have q2 := hD.2.1; have q3 := hD0.1; have q4 := hD0.2.1; first | omega | decide | (simp only [Int32.le_iff_toInt_le, Int32.lt_iff_toInt_lt, ti_add, ti_sub, ti_mul, Int32.reduceToInt] at *; omega) | (exfalso; simp_all; done)) (fun v7 ev7 => ?_)
  refine ok_if (fun hc8 => ?_) (fun hc8 => ?_)
  · refine ok_gC rfl ?_
    refine ok_zbT (Q := fun V σ => (V = 0 ∨ V = 1) ∧ RD σ.1) hT (s_X5_pass hN (hR.tr hT) (by first | exact hX | exact hT.1.2 hX) (hD)) (by decide) (fun v9 σ10 hOσ10 hT hqv9 => ?_)
    have hqv9 : (v9 = 0 ∨ v9 = 1) ∧ RD σ10.1 := hqv9
    have hD : RD σ10.1 := by first | exact hqv9.2 | exact hqv9.2.1
    exact ok_rZ (by have q := hqv9.1; first | exact q | exact Or.inl q | exact Or.inr q) ⟨hT, (show (v9 = 0 ∨ v9 = 1) ∧ RD σ10.1 from by first | exact ⟨Or.inl rfl, hD⟩ | exact ⟨Or.inr rfl, hD⟩ | exact ⟨hqv9.1, hqv9.2⟩ | exact ⟨hqv9.1, hD⟩ | (have q := hqv9.1; first | exact ⟨Or.inl q, hD⟩ | exact ⟨Or.inr q, hD⟩))⟩
  · refine ok_lp (fun t : Int32 × zS => Tr [57, 58, 59] σ0 (t.2) ∧ (0 ≤ (t.1).toInt) ∧ (RD (t.2).1)) (fun t : Int32 × zS => ((601 : Int32).toInt - (t.1).toInt).toNat) (fun again11 t hI ih37_11 => ?_) N _ (show Tr [57, 58, 59] σ0 σ4 ∧ (0 ≤ (0 : Int32).toInt) ∧ (RD σ4.1) from ⟨hT, (by have q1 := hD.1; have q2 := hD.2.1; have q3 := hD0.1; have q4 := hD0.2.1; first | omega | decide | (simp only [Int32.le_iff_toInt_le, Int32.lt_iff_toInt_lt, ti_add, ti_sub, ti_mul, Int32.reduceToInt] at *; omega) | (exfalso; simp_all; done)), hD⟩) (show ((601 : Int32).toInt - (0 : Int32).toInt).toNat < N from (by have q1 := hD.1; have q2 := hD.2.1; have q3 := hD0.1; have q4 := hD0.2.1; first | omega | decide | (simp only [Int32.le_iff_toInt_le, Int32.lt_iff_toInt_lt, ti_add, ti_sub, ti_mul, Int32.reduceToInt] at *; omega) | (exfalso; simp_all; done)))
    obtain ⟨x1_11, σ11⟩ := t
    have hI : Tr [57, 58, 59] σ0 σ11 ∧ (0 ≤ x1_11.toInt) ∧ (RD σ11.1) := hI
    obtain ⟨hT, hI11, hD⟩ := hI
    rw [F_X5_family_37.eq_1]
    refine ok_if (fun hc12 => ?_) (fun hc12 => ?_)
    · refine ok_gC rfl ?_
      refine ok_zbT (Q := fun V σ => V = 0 ∧ RD σ.1) hT (s_X5_fail hN (hR.tr hT) (by first | exact hX | exact hT.1.2 hX) (hD)) (by decide) (fun v13 σ14 hOσ14 hT hqv13 => ?_)
      have hqv13 : v13 = 0 ∧ RD σ14.1 := hqv13
      have hD : RD σ14.1 := by first | exact hqv13.2 | exact hqv13.2.1
      exact ok_rZ (by have q := hqv13.1; first | exact q | exact Or.inl q | exact Or.inr q) ⟨hT, (show (v13 = 0 ∨ v13 = 1) ∧ RD σ14.1 from by first | exact ⟨Or.inl rfl, hD⟩ | exact ⟨Or.inr rfl, hD⟩ | exact ⟨hqv13.1, hqv13.2⟩ | exact ⟨hqv13.1, hD⟩ | (have q := hqv13.1; first | exact ⟨Or.inl q, hD⟩ | exact ⟨Or.inr q, hD⟩))⟩
    · refine ok_gC rfl ?_
      refine ok_zbT (Q := fun V σ => (V = 0 ∨ V = 1) ∧ RD σ.1) hT (s_X5_member hN (hR.tr hT) (by first | exact hX | exact hT.1.2 hX) (hD)) (by decide) (fun v15 σ16 hOσ16 hT hqv15 => ?_)
      have hqv15 : (v15 = 0 ∨ v15 = 1) ∧ RD σ16.1 := hqv15
      have hD : RD σ16.1 := by first | exact hqv15.2 | exact hqv15.2.1
      refine ok_if (fun hc17 => ?_) (fun hc17 => ?_)
      · exact ok_rZ (Or.inl rfl) ⟨hT, (show ((0 : Int32) = 0 ∨ (0 : Int32) = 1) ∧ RD σ16.1 from by first | exact ⟨Or.inl rfl, hD⟩ | exact ⟨Or.inr rfl, hD⟩ | exact ⟨hqv15.1, hqv15.2⟩ | exact ⟨hqv15.1, hD⟩ | (have q := hqv15.1; first | exact ⟨Or.inl q, hD⟩ | exact ⟨Or.inr q, hD⟩))⟩
      · refine ok_gR (v := 61) hT rfl (hR 57 10 rfl) ?_
        refine ok_gI rfl ?_
        refine ok_aIn rfl (by have q1 := hD.1; have q2 := hD.2.1; have q3 := hD0.1; have q4 := hD0.2.1; first | omega | decide | (simp only [Int32.le_iff_toInt_le, Int32.lt_iff_toInt_lt, ti_add, ti_sub, ti_mul, Int32.reduceToInt] at *; omega) | (exfalso; simp_all; done)) (by have q1 := hD.1; have q2 := hD.2.1; have q3 := hD0.1; have q4 := hD0.2.1; first | omega | decide | (simp only [Int32.le_iff_toInt_le, Int32.lt_iff_toInt_lt, ti_add, ti_sub, ti_mul, Int32.reduceToInt] at *; omega) | (exfalso; simp_all; done)) (fun v20 ev20 => ?_)
        refine ok_if (fun hc21 => ?_) (fun hc21 => ?_)
        · refine ok_gC rfl ?_
          refine ok_zbT (Q := fun V σ => (V = 0 ∨ V = 1) ∧ RD σ.1) hT (s_X5_pass hN (hR.tr hT) (by first | exact hX | exact hT.1.2 hX) (hD)) (by decide) (fun v22 σ23 hOσ23 hT hqv22 => ?_)
          have hqv22 : (v22 = 0 ∨ v22 = 1) ∧ RD σ23.1 := hqv22
          have hD : RD σ23.1 := by first | exact hqv22.2 | exact hqv22.2.1
          exact ih37_11 (x1_11 + 1, σ23) (show Tr [57, 58, 59] σ0 σ23 ∧ (0 ≤ (x1_11 + 1).toInt) ∧ (RD σ23.1) from ⟨hT, (by have q1 := hD.1; have q2 := hD.2.1; have q3 := hD0.1; have q4 := hD0.2.1; first | omega | decide | (simp only [Int32.le_iff_toInt_le, Int32.lt_iff_toInt_lt, ti_add, ti_sub, ti_mul, Int32.reduceToInt] at *; omega) | (exfalso; simp_all; done)), hD⟩) (show ((601 : Int32).toInt - (x1_11 + 1).toInt).toNat < ((601 : Int32).toInt - x1_11.toInt).toNat from (by have q1 := hD.1; have q2 := hD.2.1; have q3 := hD0.1; have q4 := hD0.2.1; first | omega | decide | (simp only [Int32.le_iff_toInt_le, Int32.lt_iff_toInt_lt, ti_add, ti_sub, ti_mul, Int32.reduceToInt] at *; omega) | (exfalso; simp_all; done)))
        · refine ok_gC rfl ?_
          refine ok_zbT (Q := fun V σ => (V = 0 ∨ V = 1) ∧ RD σ.1) hT (s_X5_pass hN (hR.tr hT) (by first | exact hX | exact hT.1.2 hX) (hD)) (by decide) (fun v24 σ25 hOσ25 hT hqv24 => ?_)
          have hqv24 : (v24 = 0 ∨ v24 = 1) ∧ RD σ25.1 := hqv24
          have hD : RD σ25.1 := by first | exact hqv24.2 | exact hqv24.2.1
          exact ok_rZ (by have q := hqv24.1; first | exact q | exact Or.inl q | exact Or.inr q) ⟨hT, (show (v24 = 0 ∨ v24 = 1) ∧ RD σ25.1 from by first | exact ⟨Or.inl rfl, hD⟩ | exact ⟨Or.inr rfl, hD⟩ | exact ⟨hqv24.1, hqv24.2⟩ | exact ⟨hqv24.1, hD⟩ | (have q := hqv24.1; first | exact ⟨Or.inl q, hD⟩ | exact ⟨Or.inr q, hD⟩))⟩

set_option maxHeartbeats 4000000 in
set_option maxRecDepth 100000 in
theorem sg_X5_sum {N : Nat} (hN : 1048576 ≤ N) : ∀ dd : Nat, (∀ (x1 : Int32) (σ0 : zS), RF σ0.2.2 → σ0.2.2 57 5 = 1 → RD σ0.1 → 0 ≤ x1.toInt ∧ x1.toInt ≤ 6 → (3 * (7 - x1.toInt) + 2).toNat < dd → Ok (f_X5_sum N dd 57 x1 σ0) (fun r => Tr [57, 58, 59] σ0 r.2 ∧ ((r.1 = 0 ∨ r.1 = 1) ∧ RD r.2.1))) ∧ (∀ (x1 : Int32) (σ0 : zS), RF σ0.2.2 → σ0.2.2 57 5 = 1 → RD σ0.1 → 0 ≤ x1.toInt ∧ x1.toInt ≤ 6 → (3 * (7 - x1.toInt) + 1).toNat < dd → Ok (f_X5_part N dd 57 x1 σ0) (fun r => Tr [57, 58, 59] σ0 r.2 ∧ ((r.1 = 0 ∨ r.1 = 1) ∧ RD r.2.1))) ∧ (∀ (x1 : Int32) (x2 : Int32) (σ0 : zS), RF σ0.2.2 → σ0.2.2 57 5 = 1 → RD σ0.1 → 0 ≤ x2.toInt ∧ x2.toInt ≤ 6 → (3 * (7 - x2.toInt)).toNat < dd → Ok (f_X5_wordPart N dd 57 x1 x2 σ0) (fun r => Tr [57, 58, 59] σ0 r.2 ∧ ((r.1 = 0 ∨ r.1 = 1) ∧ RD r.2.1))) := by
  intro dd
  induction dd with
  | zero => exact ⟨fun _ _ _ _ _ _ h => absurd h (Nat.not_lt_zero _), fun _ _ _ _ _ _ h => absurd h (Nat.not_lt_zero _), fun _ _ _ _ _ _ _ h => absurd h (Nat.not_lt_zero _)⟩
  | succ dd ih =>
    obtain ⟨ih0, ih1, ih2⟩ := ih
    refine ⟨?_, ?_, ?_⟩
    · intro x1 σ0 hR hX hD hd hm
      show Ok (B_X5_sum N (f_X5_sum N dd) (f_X5_part N dd) (f_X5_wordPart N dd) 57 x1 σ0) _
      have hT : Tr [57, 58, 59] σ0 σ0 := Tr.rf
      have hD0 := hD
      rw [B_X5_sum.eq_1]
      refine ok_gC rfl ?_
      refine ok_zbT (Q := fun V σ => (V = 0 ∨ V = 1) ∧ RD σ.1) hT (ih1 _ _ (hR.tr hT) (by first | exact hX | exact hT.1.2 hX) (hD) (by have q1 := hD.1; have q2 := hD.2.1; have q3 := hD0.1; have q4 := hD0.2.1; first | omega | decide | (simp only [Int32.le_iff_toInt_le, Int32.lt_iff_toInt_lt, ti_add, ti_sub, ti_mul, Int32.reduceToInt] at *; omega) | (exfalso; simp_all; done)) (by have q1 := hD.1; have q2 := hD.2.1; have q3 := hD0.1; have q4 := hD0.2.1; first | omega | decide | (simp only [Int32.le_iff_toInt_le, Int32.lt_iff_toInt_lt, ti_add, ti_sub, ti_mul, Int32.reduceToInt] at *; omega) | (exfalso; simp_all; done))) (by decide) (fun v1 σ2 hOσ2 hT hqv1 => ?_)
      have hqv1 : (v1 = 0 ∨ v1 = 1) ∧ RD σ2.1 := hqv1
      have hD : RD σ2.1 := by first | exact hqv1.2 | exact hqv1.2.1
      refine ok_if (fun hc3 => ?_) (fun hc3 => ?_)
      · exact ok_rZ (Or.inl rfl) ⟨hT, (show ((0 : Int32) = 0 ∨ (0 : Int32) = 1) ∧ RD σ2.1 from by first | exact ⟨Or.inl rfl, hD⟩ | exact ⟨Or.inr rfl, hD⟩ | exact ⟨hqv1.1, hqv1.2⟩ | exact ⟨hqv1.1, hD⟩ | (have q := hqv1.1; first | exact ⟨Or.inl q, hD⟩ | exact ⟨Or.inr q, hD⟩))⟩
      · refine ok_lp (fun t : Int32 × Int32 × zS => Tr [57, 58, 59] σ0 (t.2.2) ∧ (0 ≤ (t.2.1).toInt) ∧ (RD (t.2.2).1)) (fun t : Int32 × Int32 × zS => (601 - (t.2.1).toInt).toNat) (fun again4 t hI ih14_4 => ?_) N _ (show Tr [57, 58, 59] σ0 σ2 ∧ (0 ≤ (0 : Int32).toInt) ∧ (RD σ2.1) from ⟨hT, (by have q1 := hD.1; have q2 := hD.2.1; have q3 := hD0.1; have q4 := hD0.2.1; first | omega | decide | (simp only [Int32.le_iff_toInt_le, Int32.lt_iff_toInt_lt, ti_add, ti_sub, ti_mul, Int32.reduceToInt] at *; omega) | (exfalso; simp_all; done)), hD⟩) (show (601 - (0 : Int32).toInt).toNat < N from (by have q1 := hD.1; have q2 := hD.2.1; have q3 := hD0.1; have q4 := hD0.2.1; first | omega | decide | (simp only [Int32.le_iff_toInt_le, Int32.lt_iff_toInt_lt, ti_add, ti_sub, ti_mul, Int32.reduceToInt] at *; omega) | (exfalso; simp_all; done)))
        obtain ⟨x2_4, x3_4, σ4⟩ := t
        have hI : Tr [57, 58, 59] σ0 σ4 ∧ (0 ≤ x3_4.toInt) ∧ (RD σ4.1) := hI
        obtain ⟨hT, hI4, hD⟩ := hI
        rw [F_X5_sum_14.eq_1]
        refine ok_if (fun hc5 => ?_) (fun hc5 => ?_)
        · rw [J_X5_sum_151.eq_1]
          refine ok_if (fun hc6 => ?_) (fun hc6 => ?_)
          · exact ok_rZ (Or.inr rfl) ⟨hT, (show ((1 : Int32) = 0 ∨ (1 : Int32) = 1) ∧ RD σ4.1 from by first | exact ⟨Or.inl rfl, hD⟩ | exact ⟨Or.inr rfl, hD⟩ | exact ⟨hqv1.1, hqv1.2⟩ | exact ⟨hqv1.1, hD⟩ | (have q := hqv1.1; first | exact ⟨Or.inl q, hD⟩ | exact ⟨Or.inr q, hD⟩))⟩
          · refine ok_gC rfl ?_
            refine ok_zbT (Q := fun V σ => V = 1 ∧ RD σ.1) hT (s_X5_emit hN (hR.tr hT) (by first | exact hX | exact hT.1.2 hX) (hD)) (by decide) (fun v7 σ8 hOσ8 hT hqv7 => ?_)
            have hqv7 : v7 = 1 ∧ RD σ8.1 := hqv7
            have hD : RD σ8.1 := by first | exact hqv7.2 | exact hqv7.2.1
            refine ok_if (fun hc9 => ?_) (fun hc9 => ?_)
            · exact ok_rZ (Or.inl rfl) ⟨hT, (show ((0 : Int32) = 0 ∨ (0 : Int32) = 1) ∧ RD σ8.1 from by first | exact ⟨Or.inl rfl, hD⟩ | exact ⟨Or.inr rfl, hD⟩ | exact ⟨hqv7.1, hqv7.2⟩ | exact ⟨hqv7.1, hD⟩ | (have q := hqv7.1; first | exact ⟨Or.inl q, hD⟩ | exact ⟨Or.inr q, hD⟩))⟩
            · exact ok_rZ (Or.inr rfl) ⟨hT, (show ((1 : Int32) = 0 ∨ (1 : Int32) = 1) ∧ RD σ8.1 from by first | exact ⟨Or.inl rfl, hD⟩ | exact ⟨Or.inr rfl, hD⟩ | exact ⟨hqv7.1, hqv7.2⟩ | exact ⟨hqv7.1, hD⟩ | (have q := hqv7.1; first | exact ⟨Or.inl q, hD⟩ | exact ⟨Or.inr q, hD⟩))⟩
        · refine ok_gR (v := 61) hT rfl (hR 57 10 rfl) ?_
          refine ok_gI rfl ?_
          refine ok_aIn rfl (by have q1 := hD.1; have q2 := hD.2.1; have q3 := hD0.1; have q4 := hD0.2.1; first | omega | decide | (simp only [Int32.le_iff_toInt_le, Int32.lt_iff_toInt_lt, ti_add, ti_sub, ti_mul, Int32.reduceToInt] at *; omega) | (exfalso; simp_all; done)) (by have q1 := hD.1; have q2 := hD.2.1; have q3 := hD0.1; have q4 := hD0.2.1; first | omega | decide | (simp only [Int32.le_iff_toInt_le, Int32.lt_iff_toInt_lt, ti_add, ti_sub, ti_mul, Int32.reduceToInt] at *; omega) | (exfalso; simp_all; done)) (fun v12 ev12 => ?_)
          refine ok_zbT (Q := fun V σ => True) hT (s_X5_combination hN (hR.tr hT) ) (fun _ h9 => absurd h9 List.not_mem_nil) (fun v13 σ14 hOσ14 hT hqv13 => ?_)
          have hD : RD σ14.1 := RD.tr hOσ14 (by decide) (by decide) (by decide) (by decide) hD
          refine ok_if (fun hc15 => ?_) (fun hc15 => ?_)
          · rw [J_X5_sum_151.eq_1]
            refine ok_if (fun hc16 => ?_) (fun hc16 => ?_)
            · exact ok_rZ (Or.inr rfl) ⟨hT, (show ((1 : Int32) = 0 ∨ (1 : Int32) = 1) ∧ RD σ14.1 from by first | exact ⟨Or.inl rfl, hD⟩ | exact ⟨Or.inr rfl, hD⟩ | exact ⟨hqv13.1, hqv13.2⟩ | exact ⟨hqv13.1, hD⟩ | (have q := hqv13.1; first | exact ⟨Or.inl q, hD⟩ | exact ⟨Or.inr q, hD⟩))⟩
            · refine ok_gC rfl ?_
              refine ok_zbT (Q := fun V σ => V = 1 ∧ RD σ.1) hT (s_X5_emit hN (hR.tr hT) (by first | exact hX | exact hT.1.2 hX) (hD)) (by decide) (fun v17 σ18 hOσ18 hT hqv17 => ?_)
              have hqv17 : v17 = 1 ∧ RD σ18.1 := hqv17
              have hD : RD σ18.1 := by first | exact hqv17.2 | exact hqv17.2.1
              refine ok_if (fun hc19 => ?_) (fun hc19 => ?_)
              · exact ok_rZ (Or.inl rfl) ⟨hT, (show ((0 : Int32) = 0 ∨ (0 : Int32) = 1) ∧ RD σ18.1 from by first | exact ⟨Or.inl rfl, hD⟩ | exact ⟨Or.inr rfl, hD⟩ | exact ⟨hqv17.1, hqv17.2⟩ | exact ⟨hqv17.1, hD⟩ | (have q := hqv17.1; first | exact ⟨Or.inl q, hD⟩ | exact ⟨Or.inr q, hD⟩))⟩
              · exact ok_rZ (Or.inr rfl) ⟨hT, (show ((1 : Int32) = 0 ∨ (1 : Int32) = 1) ∧ RD σ18.1 from by first | exact ⟨Or.inl rfl, hD⟩ | exact ⟨Or.inr rfl, hD⟩ | exact ⟨hqv17.1, hqv17.2⟩ | exact ⟨hqv17.1, hD⟩ | (have q := hqv17.1; first | exact ⟨Or.inl q, hD⟩ | exact ⟨Or.inr q, hD⟩))⟩
          · refine ok_gR (v := 61) hT rfl (hR 57 10 rfl) ?_
            refine ok_gI rfl ?_
            refine ok_aIn rfl (by have q1 := hD.1; have q2 := hD.2.1; have q3 := hD0.1; have q4 := hD0.2.1; first | omega | decide | (simp only [Int32.le_iff_toInt_le, Int32.lt_iff_toInt_lt, ti_add, ti_sub, ti_mul, Int32.reduceToInt] at *; omega) | (exfalso; simp_all; done)) (by have q1 := hD.1; have q2 := hD.2.1; have q3 := hD0.1; have q4 := hD0.2.1; first | omega | decide | (simp only [Int32.le_iff_toInt_le, Int32.lt_iff_toInt_lt, ti_add, ti_sub, ti_mul, Int32.reduceToInt] at *; omega) | (exfalso; simp_all; done)) (fun v22 ev22 => ?_)
            refine ok_zbT (Q := fun V σ => True) hT (s_X5_combination hN (hR.tr hT) ) (fun _ h9 => absurd h9 List.not_mem_nil) (fun v23 σ24 hOσ24 hT hqv23 => ?_)
            have hD : RD σ24.1 := RD.tr hOσ24 (by decide) (by decide) (by decide) (by decide) hD
            refine ok_if (fun hc25 => ?_) (fun hc25 => ?_)
            · rw [J_X5_sum_66.eq_1]
              refine ok_if (fun hc26 => ?_) (fun hc26 => ?_)
              · rw [J_X5_sum_84.eq_1]
                refine ok_gI rfl ?_
                refine ok_pI hT rfl (by decide) (fun σ28 eσ28 hOσ28 hT => ?_)
                have hD : RD σ28.1 := RD_p eσ28 (fun q => absurd q (by decide)) (fun q => absurd q (by decide)) hD
                refine ok_gI rfl ?_
                refine ok_if (fun hc30 => ?_) (fun hc30 => ?_)
                · rw [J_X5_sum_109.eq_1]
                  refine ok_gC rfl ?_
                  refine ok_zbT (Q := fun V σ => V = (0 : Int32) ∧ RD σ.1 ∧ (¬ (0 : Int32) = 0 → ¬ σ28.1 61 (Int32.toNatClampNeg (σ28.1 57 9)) = 0 → (σ.1 57 9).toInt = (σ28.1 57 9).toInt + 1)) hT (s_X5_advance hN (hR.tr hT) (by first | exact hX | exact hT.1.2 hX) (hD) (by first | exact Or.inl rfl | exact Or.inr rfl | assumption)) (by decide) (fun v31 σ32 hOσ32 hT hqv31 => ?_)
                  have hqv31 : v31 = (0 : Int32) ∧ RD σ32.1 ∧ (¬ (0 : Int32) = 0 → ¬ σ28.1 61 (Int32.toNatClampNeg (σ28.1 57 9)) = 0 → (σ32.1 57 9).toInt = (σ28.1 57 9).toInt + 1) := hqv31
                  have hD : RD σ32.1 := by first | exact hqv31.2 | exact hqv31.2.1
                  refine ok_if (fun hc33 => ?_) (fun hc33 => ?_)
                  · exact ok_rZ (Or.inl rfl) ⟨hT, (show ((0 : Int32) = 0 ∨ (0 : Int32) = 1) ∧ RD σ32.1 from by first | exact ⟨Or.inl rfl, hD⟩ | exact ⟨Or.inr rfl, hD⟩ | exact ⟨hqv31.1, hqv31.2⟩ | exact ⟨hqv31.1, hD⟩ | (have q := hqv31.1; first | exact ⟨Or.inl q, hD⟩ | exact ⟨Or.inr q, hD⟩))⟩
                  · refine ok_gC rfl ?_
                    refine ok_zbT (Q := fun V σ => (V = 0 ∨ V = 1) ∧ RD σ.1) hT (ih1 _ _ (hR.tr hT) (by first | exact hX | exact hT.1.2 hX) (hD) (by have q1 := hD.1; have q2 := hD.2.1; have q3 := hD0.1; have q4 := hD0.2.1; first | omega | decide | (simp only [Int32.le_iff_toInt_le, Int32.lt_iff_toInt_lt, ti_add, ti_sub, ti_mul, Int32.reduceToInt] at *; omega) | (exfalso; simp_all; done)) (by have q1 := hD.1; have q2 := hD.2.1; have q3 := hD0.1; have q4 := hD0.2.1; first | omega | decide | (simp only [Int32.le_iff_toInt_le, Int32.lt_iff_toInt_lt, ti_add, ti_sub, ti_mul, Int32.reduceToInt] at *; omega) | (exfalso; simp_all; done))) (by decide) (fun v34 σ35 hOσ35 hT hqv34 => ?_)
                    have hqv34 : (v34 = 0 ∨ v34 = 1) ∧ RD σ35.1 := hqv34
                    have hD : RD σ35.1 := by first | exact hqv34.2 | exact hqv34.2.1
                    refine ok_if (fun hc36 => ?_) (fun hc36 => ?_)
                    · exact ok_rZ (Or.inl rfl) ⟨hT, (show ((0 : Int32) = 0 ∨ (0 : Int32) = 1) ∧ RD σ35.1 from by first | exact ⟨Or.inl rfl, hD⟩ | exact ⟨Or.inr rfl, hD⟩ | exact ⟨hqv34.1, hqv34.2⟩ | exact ⟨hqv34.1, hD⟩ | (have q := hqv34.1; first | exact ⟨Or.inl q, hD⟩ | exact ⟨Or.inr q, hD⟩))⟩
                    · refine ok_if (fun hc37 => ?_) (fun hc37 => ?_)
                      · refine ok_gC rfl ?_
                        refine ok_zbT (Q := fun V σ => V = 1 ∧ RD σ.1) hT (s_X5_emit hN (hR.tr hT) (by first | exact hX | exact hT.1.2 hX) (hD)) (by decide) (fun v38 σ39 hOσ39 hT hqv38 => ?_)
                        have hqv38 : v38 = 1 ∧ RD σ39.1 := hqv38
                        have hD : RD σ39.1 := by first | exact hqv38.2 | exact hqv38.2.1
                        exact ih14_4 (x2_4, x3_4 + 1, σ39) (show Tr [57, 58, 59] σ0 σ39 ∧ (0 ≤ (x3_4 + 1).toInt) ∧ (RD σ39.1) from ⟨hT, (by have q1 := hD.1; have q2 := hD.2.1; have q3 := hD0.1; have q4 := hD0.2.1; first | omega | decide | (simp only [Int32.le_iff_toInt_le, Int32.lt_iff_toInt_lt, ti_add, ti_sub, ti_mul, Int32.reduceToInt] at *; omega) | (exfalso; simp_all; done)), hD⟩) (show (601 - (x3_4 + 1).toInt).toNat < (601 - x3_4.toInt).toNat from (by have q1 := hD.1; have q2 := hD.2.1; have q3 := hD0.1; have q4 := hD0.2.1; first | omega | decide | (simp only [Int32.le_iff_toInt_le, Int32.lt_iff_toInt_lt, ti_add, ti_sub, ti_mul, Int32.reduceToInt] at *; omega) | (exfalso; simp_all; done)))
                      · exact ih14_4 (v23, x3_4 + 1, σ35) (show Tr [57, 58, 59] σ0 σ35 ∧ (0 ≤ (x3_4 + 1).toInt) ∧ (RD σ35.1) from ⟨hT, (by have q1 := hD.1; have q2 := hD.2.1; have q3 := hD0.1; have q4 := hD0.2.1; first | omega | decide | (simp only [Int32.le_iff_toInt_le, Int32.lt_iff_toInt_lt, ti_add, ti_sub, ti_mul, Int32.reduceToInt] at *; omega) | (exfalso; simp_all; done)), hD⟩) (show (601 - (x3_4 + 1).toInt).toNat < (601 - x3_4.toInt).toNat from (by have q1 := hD.1; have q2 := hD.2.1; have q3 := hD0.1; have q4 := hD0.2.1; first | omega | decide | (simp only [Int32.le_iff_toInt_le, Int32.lt_iff_toInt_lt, ti_add, ti_sub, ti_mul, Int32.reduceToInt] at *; omega) | (exfalso; simp_all; done)))
                · rw [J_X5_sum_109.eq_1]
                  refine ok_gC rfl ?_
                  refine ok_zbT (Q := fun V σ => V = (1 : Int32) ∧ RD σ.1 ∧ (¬ (1 : Int32) = 0 → ¬ σ28.1 61 (Int32.toNatClampNeg (σ28.1 57 9)) = 0 → (σ.1 57 9).toInt = (σ28.1 57 9).toInt + 1)) hT (s_X5_advance hN (hR.tr hT) (by first | exact hX | exact hT.1.2 hX) (hD) (by first | exact Or.inl rfl | exact Or.inr rfl | assumption)) (by decide) (fun v40 σ41 hOσ41 hT hqv40 => ?_)
                  have hqv40 : v40 = (1 : Int32) ∧ RD σ41.1 ∧ (¬ (1 : Int32) = 0 → ¬ σ28.1 61 (Int32.toNatClampNeg (σ28.1 57 9)) = 0 → (σ41.1 57 9).toInt = (σ28.1 57 9).toInt + 1) := hqv40
                  have hD : RD σ41.1 := by first | exact hqv40.2 | exact hqv40.2.1
                  refine ok_if (fun hc42 => ?_) (fun hc42 => ?_)
                  · exact ok_rZ (Or.inl rfl) ⟨hT, (show ((0 : Int32) = 0 ∨ (0 : Int32) = 1) ∧ RD σ41.1 from by first | exact ⟨Or.inl rfl, hD⟩ | exact ⟨Or.inr rfl, hD⟩ | exact ⟨hqv40.1, hqv40.2⟩ | exact ⟨hqv40.1, hD⟩ | (have q := hqv40.1; first | exact ⟨Or.inl q, hD⟩ | exact ⟨Or.inr q, hD⟩))⟩
                  · refine ok_gC rfl ?_
                    refine ok_zbT (Q := fun V σ => (V = 0 ∨ V = 1) ∧ RD σ.1) hT (ih1 _ _ (hR.tr hT) (by first | exact hX | exact hT.1.2 hX) (hD) (by have q1 := hD.1; have q2 := hD.2.1; have q3 := hD0.1; have q4 := hD0.2.1; first | omega | decide | (simp only [Int32.le_iff_toInt_le, Int32.lt_iff_toInt_lt, ti_add, ti_sub, ti_mul, Int32.reduceToInt] at *; omega) | (exfalso; simp_all; done)) (by have q1 := hD.1; have q2 := hD.2.1; have q3 := hD0.1; have q4 := hD0.2.1; first | omega | decide | (simp only [Int32.le_iff_toInt_le, Int32.lt_iff_toInt_lt, ti_add, ti_sub, ti_mul, Int32.reduceToInt] at *; omega) | (exfalso; simp_all; done))) (by decide) (fun v43 σ44 hOσ44 hT hqv43 => ?_)
                    have hqv43 : (v43 = 0 ∨ v43 = 1) ∧ RD σ44.1 := hqv43
                    have hD : RD σ44.1 := by first | exact hqv43.2 | exact hqv43.2.1
                    refine ok_if (fun hc45 => ?_) (fun hc45 => ?_)
                    · exact ok_rZ (Or.inl rfl) ⟨hT, (show ((0 : Int32) = 0 ∨ (0 : Int32) = 1) ∧ RD σ44.1 from by first | exact ⟨Or.inl rfl, hD⟩ | exact ⟨Or.inr rfl, hD⟩ | exact ⟨hqv43.1, hqv43.2⟩ | exact ⟨hqv43.1, hD⟩ | (have q := hqv43.1; first | exact ⟨Or.inl q, hD⟩ | exact ⟨Or.inr q, hD⟩))⟩
                    · refine ok_if (fun hc46 => ?_) (fun hc46 => ?_)
                      · refine ok_gC rfl ?_
                        refine ok_zbT (Q := fun V σ => V = 1 ∧ RD σ.1) hT (s_X5_emit hN (hR.tr hT) (by first | exact hX | exact hT.1.2 hX) (hD)) (by decide) (fun v47 σ48 hOσ48 hT hqv47 => ?_)
                        have hqv47 : v47 = 1 ∧ RD σ48.1 := hqv47
                        have hD : RD σ48.1 := by first | exact hqv47.2 | exact hqv47.2.1
                        exact ih14_4 (x2_4, x3_4 + 1, σ48) (show Tr [57, 58, 59] σ0 σ48 ∧ (0 ≤ (x3_4 + 1).toInt) ∧ (RD σ48.1) from ⟨hT, (by have q1 := hD.1; have q2 := hD.2.1; have q3 := hD0.1; have q4 := hD0.2.1; first | omega | decide | (simp only [Int32.le_iff_toInt_le, Int32.lt_iff_toInt_lt, ti_add, ti_sub, ti_mul, Int32.reduceToInt] at *; omega) | (exfalso; simp_all; done)), hD⟩) (show (601 - (x3_4 + 1).toInt).toNat < (601 - x3_4.toInt).toNat from (by have q1 := hD.1; have q2 := hD.2.1; have q3 := hD0.1; have q4 := hD0.2.1; first | omega | decide | (simp only [Int32.le_iff_toInt_le, Int32.lt_iff_toInt_lt, ti_add, ti_sub, ti_mul, Int32.reduceToInt] at *; omega) | (exfalso; simp_all; done)))
                      · exact ih14_4 (v23, x3_4 + 1, σ44) (show Tr [57, 58, 59] σ0 σ44 ∧ (0 ≤ (x3_4 + 1).toInt) ∧ (RD σ44.1) from ⟨hT, (by have q1 := hD.1; have q2 := hD.2.1; have q3 := hD0.1; have q4 := hD0.2.1; first | omega | decide | (simp only [Int32.le_iff_toInt_le, Int32.lt_iff_toInt_lt, ti_add, ti_sub, ti_mul, Int32.reduceToInt] at *; omega) | (exfalso; simp_all; done)), hD⟩) (show (601 - (x3_4 + 1).toInt).toNat < (601 - x3_4.toInt).toNat from (by have q1 := hD.1; have q2 := hD.2.1; have q3 := hD0.1; have q4 := hD0.2.1; first | omega | decide | (simp only [Int32.le_iff_toInt_le, Int32.lt_iff_toInt_lt, ti_add, ti_sub, ti_mul, Int32.reduceToInt] at *; omega) | (exfalso; simp_all; done)))
              · refine ok_if (fun hc49 => ?_) (fun hc49 => ?_)
                · rw [J_X5_sum_84.eq_1]
                  refine ok_gI rfl ?_
                  refine ok_pI hT rfl (by decide) (fun σ51 eσ51 hOσ51 hT => ?_)
                  have hD : RD σ51.1 := RD_p eσ51 (fun q => absurd q (by decide)) (fun q => absurd q (by decide)) hD
                  refine ok_gI rfl ?_
                  refine ok_if (fun hc53 => ?_) (fun hc53 => ?_)
                  · rw [J_X5_sum_109.eq_1]
                    refine ok_gC rfl ?_
                    refine ok_zbT (Q := fun V σ => V = (0 : Int32) ∧ RD σ.1 ∧ (¬ (0 : Int32) = 0 → ¬ σ51.1 61 (Int32.toNatClampNeg (σ51.1 57 9)) = 0 → (σ.1 57 9).toInt = (σ51.1 57 9).toInt + 1)) hT (s_X5_advance hN (hR.tr hT) (by first | exact hX | exact hT.1.2 hX) (hD) (by first | exact Or.inl rfl | exact Or.inr rfl | assumption)) (by decide) (fun v54 σ55 hOσ55 hT hqv54 => ?_)
                    have hqv54 : v54 = (0 : Int32) ∧ RD σ55.1 ∧ (¬ (0 : Int32) = 0 → ¬ σ51.1 61 (Int32.toNatClampNeg (σ51.1 57 9)) = 0 → (σ55.1 57 9).toInt = (σ51.1 57 9).toInt + 1) := hqv54
                    have hD : RD σ55.1 := by first | exact hqv54.2 | exact hqv54.2.1
                    refine ok_if (fun hc56 => ?_) (fun hc56 => ?_)
                    · exact ok_rZ (Or.inl rfl) ⟨hT, (show ((0 : Int32) = 0 ∨ (0 : Int32) = 1) ∧ RD σ55.1 from by first | exact ⟨Or.inl rfl, hD⟩ | exact ⟨Or.inr rfl, hD⟩ | exact ⟨hqv54.1, hqv54.2⟩ | exact ⟨hqv54.1, hD⟩ | (have q := hqv54.1; first | exact ⟨Or.inl q, hD⟩ | exact ⟨Or.inr q, hD⟩))⟩
                    · refine ok_gC rfl ?_
                      refine ok_zbT (Q := fun V σ => (V = 0 ∨ V = 1) ∧ RD σ.1) hT (ih1 _ _ (hR.tr hT) (by first | exact hX | exact hT.1.2 hX) (hD) (by have q1 := hD.1; have q2 := hD.2.1; have q3 := hD0.1; have q4 := hD0.2.1; first | omega | decide | (simp only [Int32.le_iff_toInt_le, Int32.lt_iff_toInt_lt, ti_add, ti_sub, ti_mul, Int32.reduceToInt] at *; omega) | (exfalso; simp_all; done)) (by have q1 := hD.1; have q2 := hD.2.1; have q3 := hD0.1; have q4 := hD0.2.1; first | omega | decide | (simp only [Int32.le_iff_toInt_le, Int32.lt_iff_toInt_lt, ti_add, ti_sub, ti_mul, Int32.reduceToInt] at *; omega) | (exfalso; simp_all; done))) (by decide) (fun v57 σ58 hOσ58 hT hqv57 => ?_)
                      have hqv57 : (v57 = 0 ∨ v57 = 1) ∧ RD σ58.1 := hqv57
                      have hD : RD σ58.1 := by first | exact hqv57.2 | exact hqv57.2.1
                      refine ok_if (fun hc59 => ?_) (fun hc59 => ?_)
                      · exact ok_rZ (Or.inl rfl) ⟨hT, (show ((0 : Int32) = 0 ∨ (0 : Int32) = 1) ∧ RD σ58.1 from by first | exact ⟨Or.inl rfl, hD⟩ | exact ⟨Or.inr rfl, hD⟩ | exact ⟨hqv57.1, hqv57.2⟩ | exact ⟨hqv57.1, hD⟩ | (have q := hqv57.1; first | exact ⟨Or.inl q, hD⟩ | exact ⟨Or.inr q, hD⟩))⟩
                      · refine ok_if (fun hc60 => ?_) (fun hc60 => ?_)
                        · refine ok_gC rfl ?_
                          refine ok_zbT (Q := fun V σ => V = 1 ∧ RD σ.1) hT (s_X5_emit hN (hR.tr hT) (by first | exact hX | exact hT.1.2 hX) (hD)) (by decide) (fun v61 σ62 hOσ62 hT hqv61 => ?_)
                          have hqv61 : v61 = 1 ∧ RD σ62.1 := hqv61
                          have hD : RD σ62.1 := by first | exact hqv61.2 | exact hqv61.2.1
                          exact ih14_4 (x2_4, x3_4 + 1, σ62) (show Tr [57, 58, 59] σ0 σ62 ∧ (0 ≤ (x3_4 + 1).toInt) ∧ (RD σ62.1) from ⟨hT, (by have q1 := hD.1; have q2 := hD.2.1; have q3 := hD0.1; have q4 := hD0.2.1; first | omega | decide | (simp only [Int32.le_iff_toInt_le, Int32.lt_iff_toInt_lt, ti_add, ti_sub, ti_mul, Int32.reduceToInt] at *; omega) | (exfalso; simp_all; done)), hD⟩) (show (601 - (x3_4 + 1).toInt).toNat < (601 - x3_4.toInt).toNat from (by have q1 := hD.1; have q2 := hD.2.1; have q3 := hD0.1; have q4 := hD0.2.1; first | omega | decide | (simp only [Int32.le_iff_toInt_le, Int32.lt_iff_toInt_lt, ti_add, ti_sub, ti_mul, Int32.reduceToInt] at *; omega) | (exfalso; simp_all; done)))
                        · exact ih14_4 (v23, x3_4 + 1, σ58) (show Tr [57, 58, 59] σ0 σ58 ∧ (0 ≤ (x3_4 + 1).toInt) ∧ (RD σ58.1) from ⟨hT, (by have q1 := hD.1; have q2 := hD.2.1; have q3 := hD0.1; have q4 := hD0.2.1; first | omega | decide | (simp only [Int32.le_iff_toInt_le, Int32.lt_iff_toInt_lt, ti_add, ti_sub, ti_mul, Int32.reduceToInt] at *; omega) | (exfalso; simp_all; done)), hD⟩) (show (601 - (x3_4 + 1).toInt).toNat < (601 - x3_4.toInt).toNat from (by have q1 := hD.1; have q2 := hD.2.1; have q3 := hD0.1; have q4 := hD0.2.1; first | omega | decide | (simp only [Int32.le_iff_toInt_le, Int32.lt_iff_toInt_lt, ti_add, ti_sub, ti_mul, Int32.reduceToInt] at *; omega) | (exfalso; simp_all; done)))
                  · rw [J_X5_sum_109.eq_1]
                    refine ok_gC rfl ?_
                    refine ok_zbT (Q := fun V σ => V = (1 : Int32) ∧ RD σ.1 ∧ (¬ (1 : Int32) = 0 → ¬ σ51.1 61 (Int32.toNatClampNeg (σ51.1 57 9)) = 0 → (σ.1 57 9).toInt = (σ51.1 57 9).toInt + 1)) hT (s_X5_advance hN (hR.tr hT) (by first | exact hX | exact hT.1.2 hX) (hD) (by first | exact Or.inl rfl | exact Or.inr rfl | assumption)) (by decide) (fun v63 σ64 hOσ64 hT hqv63 => ?_)
                    have hqv63 : v63 = (1 : Int32) ∧ RD σ64.1 ∧ (¬ (1 : Int32) = 0 → ¬ σ51.1 61 (Int32.toNatClampNeg (σ51.1 57 9)) = 0 → (σ64.1 57 9).toInt = (σ51.1 57 9).toInt + 1) := hqv63
                    have hD : RD σ64.1 := by first | exact hqv63.2 | exact hqv63.2.1
                    refine ok_if (fun hc65 => ?_) (fun hc65 => ?_)
                    · exact ok_rZ (Or.inl rfl) ⟨hT, (show ((0 : Int32) = 0 ∨ (0 : Int32) = 1) ∧ RD σ64.1 from by first | exact ⟨Or.inl rfl, hD⟩ | exact ⟨Or.inr rfl, hD⟩ | exact ⟨hqv63.1, hqv63.2⟩ | exact ⟨hqv63.1, hD⟩ | (have q := hqv63.1; first | exact ⟨Or.inl q, hD⟩ | exact ⟨Or.inr q, hD⟩))⟩
                    · refine ok_gC rfl ?_
                      refine ok_zbT (Q := fun V σ => (V = 0 ∨ V = 1) ∧ RD σ.1) hT (ih1 _ _ (hR.tr hT) (by first | exact hX | exact hT.1.2 hX) (hD) (by have q1 := hD.1; have q2 := hD.2.1; have q3 := hD0.1; have q4 := hD0.2.1; first | omega | decide | (simp only [Int32.le_iff_toInt_le, Int32.lt_iff_toInt_lt, ti_add, ti_sub, ti_mul, Int32.reduceToInt] at *; omega) | (exfalso; simp_all; done)) (by have q1 := hD.1; have q2 := hD.2.1; have q3 := hD0.1; have q4 := hD0.2.1; first | omega | decide | (simp only [Int32.le_iff_toInt_le, Int32.lt_iff_toInt_lt, ti_add, ti_sub, ti_mul, Int32.reduceToInt] at *; omega) | (exfalso; simp_all; done))) (by decide) (fun v66 σ67 hOσ67 hT hqv66 => ?_)
                      have hqv66 : (v66 = 0 ∨ v66 = 1) ∧ RD σ67.1 := hqv66
                      have hD : RD σ67.1 := by first | exact hqv66.2 | exact hqv66.2.1
                      refine ok_if (fun hc68 => ?_) (fun hc68 => ?_)
                      · exact ok_rZ (Or.inl rfl) ⟨hT, (show ((0 : Int32) = 0 ∨ (0 : Int32) = 1) ∧ RD σ67.1 from by first | exact ⟨Or.inl rfl, hD⟩ | exact ⟨Or.inr rfl, hD⟩ | exact ⟨hqv66.1, hqv66.2⟩ | exact ⟨hqv66.1, hD⟩ | (have q := hqv66.1; first | exact ⟨Or.inl q, hD⟩ | exact ⟨Or.inr q, hD⟩))⟩
                      · refine ok_if (fun hc69 => ?_) (fun hc69 => ?_)
                        · refine ok_gC rfl ?_
                          refine ok_zbT (Q := fun V σ => V = 1 ∧ RD σ.1) hT (s_X5_emit hN (hR.tr hT) (by first | exact hX | exact hT.1.2 hX) (hD)) (by decide) (fun v70 σ71 hOσ71 hT hqv70 => ?_)
                          have hqv70 : v70 = 1 ∧ RD σ71.1 := hqv70
                          have hD : RD σ71.1 := by first | exact hqv70.2 | exact hqv70.2.1
                          exact ih14_4 (x2_4, x3_4 + 1, σ71) (show Tr [57, 58, 59] σ0 σ71 ∧ (0 ≤ (x3_4 + 1).toInt) ∧ (RD σ71.1) from ⟨hT, (by have q1 := hD.1; have q2 := hD.2.1; have q3 := hD0.1; have q4 := hD0.2.1; first | omega | decide | (simp only [Int32.le_iff_toInt_le, Int32.lt_iff_toInt_lt, ti_add, ti_sub, ti_mul, Int32.reduceToInt] at *; omega) | (exfalso; simp_all; done)), hD⟩) (show (601 - (x3_4 + 1).toInt).toNat < (601 - x3_4.toInt).toNat from (by have q1 := hD.1; have q2 := hD.2.1; have q3 := hD0.1; have q4 := hD0.2.1; first | omega | decide | (simp only [Int32.le_iff_toInt_le, Int32.lt_iff_toInt_lt, ti_add, ti_sub, ti_mul, Int32.reduceToInt] at *; omega) | (exfalso; simp_all; done)))
                        · exact ih14_4 (v23, x3_4 + 1, σ67) (show Tr [57, 58, 59] σ0 σ67 ∧ (0 ≤ (x3_4 + 1).toInt) ∧ (RD σ67.1) from ⟨hT, (by have q1 := hD.1; have q2 := hD.2.1; have q3 := hD0.1; have q4 := hD0.2.1; first | omega | decide | (simp only [Int32.le_iff_toInt_le, Int32.lt_iff_toInt_lt, ti_add, ti_sub, ti_mul, Int32.reduceToInt] at *; omega) | (exfalso; simp_all; done)), hD⟩) (show (601 - (x3_4 + 1).toInt).toNat < (601 - x3_4.toInt).toNat from (by have q1 := hD.1; have q2 := hD.2.1; have q3 := hD0.1; have q4 := hD0.2.1; first | omega | decide | (simp only [Int32.le_iff_toInt_le, Int32.lt_iff_toInt_lt, ti_add, ti_sub, ti_mul, Int32.reduceToInt] at *; omega) | (exfalso; simp_all; done)))
                · refine ok_gC rfl ?_
                  refine ok_zbT (Q := fun V σ => V = 1 ∧ RD σ.1) hT (s_X5_emit hN (hR.tr hT) (by first | exact hX | exact hT.1.2 hX) (hD)) (by decide) (fun v72 σ73 hOσ73 hT hqv72 => ?_)
                  have hqv72 : v72 = 1 ∧ RD σ73.1 := hqv72
                  have hD : RD σ73.1 := by first | exact hqv72.2 | exact hqv72.2.1
                  rw [J_X5_sum_84.eq_1]
                  refine ok_gI rfl ?_
                  refine ok_pI hT rfl (by decide) (fun σ75 eσ75 hOσ75 hT => ?_)
                  have hD : RD σ75.1 := RD_p eσ75 (fun q => absurd q (by decide)) (fun q => absurd q (by decide)) hD
                  refine ok_gI rfl ?_
                  refine ok_if (fun hc77 => ?_) (fun hc77 => ?_)
                  · rw [J_X5_sum_109.eq_1]
                    refine ok_gC rfl ?_
                    refine ok_zbT (Q := fun V σ => V = (0 : Int32) ∧ RD σ.1 ∧ (¬ (0 : Int32) = 0 → ¬ σ75.1 61 (Int32.toNatClampNeg (σ75.1 57 9)) = 0 → (σ.1 57 9).toInt = (σ75.1 57 9).toInt + 1)) hT (s_X5_advance hN (hR.tr hT) (by first | exact hX | exact hT.1.2 hX) (hD) (by first | exact Or.inl rfl | exact Or.inr rfl | assumption)) (by decide) (fun v78 σ79 hOσ79 hT hqv78 => ?_)
                    have hqv78 : v78 = (0 : Int32) ∧ RD σ79.1 ∧ (¬ (0 : Int32) = 0 → ¬ σ75.1 61 (Int32.toNatClampNeg (σ75.1 57 9)) = 0 → (σ79.1 57 9).toInt = (σ75.1 57 9).toInt + 1) := hqv78
                    have hD : RD σ79.1 := by first | exact hqv78.2 | exact hqv78.2.1
                    refine ok_if (fun hc80 => ?_) (fun hc80 => ?_)
                    · exact ok_rZ (Or.inl rfl) ⟨hT, (show ((0 : Int32) = 0 ∨ (0 : Int32) = 1) ∧ RD σ79.1 from by first | exact ⟨Or.inl rfl, hD⟩ | exact ⟨Or.inr rfl, hD⟩ | exact ⟨hqv78.1, hqv78.2⟩ | exact ⟨hqv78.1, hD⟩ | (have q := hqv78.1; first | exact ⟨Or.inl q, hD⟩ | exact ⟨Or.inr q, hD⟩))⟩
                    · refine ok_gC rfl ?_
                      refine ok_zbT (Q := fun V σ => (V = 0 ∨ V = 1) ∧ RD σ.1) hT (ih1 _ _ (hR.tr hT) (by first | exact hX | exact hT.1.2 hX) (hD) (by have q1 := hD.1; have q2 := hD.2.1; have q3 := hD0.1; have q4 := hD0.2.1; first | omega | decide | (simp only [Int32.le_iff_toInt_le, Int32.lt_iff_toInt_lt, ti_add, ti_sub, ti_mul, Int32.reduceToInt] at *; omega) | (exfalso; simp_all; done)) (by have q1 := hD.1; have q2 := hD.2.1; have q3 := hD0.1; have q4 := hD0.2.1; first | omega | decide | (simp only [Int32.le_iff_toInt_le, Int32.lt_iff_toInt_lt, ti_add, ti_sub, ti_mul, Int32.reduceToInt] at *; omega) | (exfalso; simp_all; done))) (by decide) (fun v81 σ82 hOσ82 hT hqv81 => ?_)
                      have hqv81 : (v81 = 0 ∨ v81 = 1) ∧ RD σ82.1 := hqv81
                      have hD : RD σ82.1 := by first | exact hqv81.2 | exact hqv81.2.1
                      refine ok_if (fun hc83 => ?_) (fun hc83 => ?_)
                      · exact ok_rZ (Or.inl rfl) ⟨hT, (show ((0 : Int32) = 0 ∨ (0 : Int32) = 1) ∧ RD σ82.1 from by first | exact ⟨Or.inl rfl, hD⟩ | exact ⟨Or.inr rfl, hD⟩ | exact ⟨hqv81.1, hqv81.2⟩ | exact ⟨hqv81.1, hD⟩ | (have q := hqv81.1; first | exact ⟨Or.inl q, hD⟩ | exact ⟨Or.inr q, hD⟩))⟩
                      · refine ok_if (fun hc84 => ?_) (fun hc84 => ?_)
                        · refine ok_gC rfl ?_
                          refine ok_zbT (Q := fun V σ => V = 1 ∧ RD σ.1) hT (s_X5_emit hN (hR.tr hT) (by first | exact hX | exact hT.1.2 hX) (hD)) (by decide) (fun v85 σ86 hOσ86 hT hqv85 => ?_)
                          have hqv85 : v85 = 1 ∧ RD σ86.1 := hqv85
                          have hD : RD σ86.1 := by first | exact hqv85.2 | exact hqv85.2.1
                          exact ih14_4 (x2_4, x3_4 + 1, σ86) (show Tr [57, 58, 59] σ0 σ86 ∧ (0 ≤ (x3_4 + 1).toInt) ∧ (RD σ86.1) from ⟨hT, (by have q1 := hD.1; have q2 := hD.2.1; have q3 := hD0.1; have q4 := hD0.2.1; first | omega | decide | (simp only [Int32.le_iff_toInt_le, Int32.lt_iff_toInt_lt, ti_add, ti_sub, ti_mul, Int32.reduceToInt] at *; omega) | (exfalso; simp_all; done)), hD⟩) (show (601 - (x3_4 + 1).toInt).toNat < (601 - x3_4.toInt).toNat from (by have q1 := hD.1; have q2 := hD.2.1; have q3 := hD0.1; have q4 := hD0.2.1; first | omega | decide | (simp only [Int32.le_iff_toInt_le, Int32.lt_iff_toInt_lt, ti_add, ti_sub, ti_mul, Int32.reduceToInt] at *; omega) | (exfalso; simp_all; done)))
                        · exact ih14_4 (v23, x3_4 + 1, σ82) (show Tr [57, 58, 59] σ0 σ82 ∧ (0 ≤ (x3_4 + 1).toInt) ∧ (RD σ82.1) from ⟨hT, (by have q1 := hD.1; have q2 := hD.2.1; have q3 := hD0.1; have q4 := hD0.2.1; first | omega | decide | (simp only [Int32.le_iff_toInt_le, Int32.lt_iff_toInt_lt, ti_add, ti_sub, ti_mul, Int32.reduceToInt] at *; omega) | (exfalso; simp_all; done)), hD⟩) (show (601 - (x3_4 + 1).toInt).toNat < (601 - x3_4.toInt).toNat from (by have q1 := hD.1; have q2 := hD.2.1; have q3 := hD0.1; have q4 := hD0.2.1; first | omega | decide | (simp only [Int32.le_iff_toInt_le, Int32.lt_iff_toInt_lt, ti_add, ti_sub, ti_mul, Int32.reduceToInt] at *; omega) | (exfalso; simp_all; done)))
                  · rw [J_X5_sum_109.eq_1]
                    refine ok_gC rfl ?_
                    refine ok_zbT (Q := fun V σ => V = (1 : Int32) ∧ RD σ.1 ∧ (¬ (1 : Int32) = 0 → ¬ σ75.1 61 (Int32.toNatClampNeg (σ75.1 57 9)) = 0 → (σ.1 57 9).toInt = (σ75.1 57 9).toInt + 1)) hT (s_X5_advance hN (hR.tr hT) (by first | exact hX | exact hT.1.2 hX) (hD) (by first | exact Or.inl rfl | exact Or.inr rfl | assumption)) (by decide) (fun v87 σ88 hOσ88 hT hqv87 => ?_)
                    have hqv87 : v87 = (1 : Int32) ∧ RD σ88.1 ∧ (¬ (1 : Int32) = 0 → ¬ σ75.1 61 (Int32.toNatClampNeg (σ75.1 57 9)) = 0 → (σ88.1 57 9).toInt = (σ75.1 57 9).toInt + 1) := hqv87
                    have hD : RD σ88.1 := by first | exact hqv87.2 | exact hqv87.2.1
                    refine ok_if (fun hc89 => ?_) (fun hc89 => ?_)
                    · exact ok_rZ (Or.inl rfl) ⟨hT, (show ((0 : Int32) = 0 ∨ (0 : Int32) = 1) ∧ RD σ88.1 from by first | exact ⟨Or.inl rfl, hD⟩ | exact ⟨Or.inr rfl, hD⟩ | exact ⟨hqv87.1, hqv87.2⟩ | exact ⟨hqv87.1, hD⟩ | (have q := hqv87.1; first | exact ⟨Or.inl q, hD⟩ | exact ⟨Or.inr q, hD⟩))⟩
                    · refine ok_gC rfl ?_
                      refine ok_zbT (Q := fun V σ => (V = 0 ∨ V = 1) ∧ RD σ.1) hT (ih1 _ _ (hR.tr hT) (by first | exact hX | exact hT.1.2 hX) (hD) (by have q1 := hD.1; have q2 := hD.2.1; have q3 := hD0.1; have q4 := hD0.2.1; first | omega | decide | (simp only [Int32.le_iff_toInt_le, Int32.lt_iff_toInt_lt, ti_add, ti_sub, ti_mul, Int32.reduceToInt] at *; omega) | (exfalso; simp_all; done)) (by have q1 := hD.1; have q2 := hD.2.1; have q3 := hD0.1; have q4 := hD0.2.1; first | omega | decide | (simp only [Int32.le_iff_toInt_le, Int32.lt_iff_toInt_lt, ti_add, ti_sub, ti_mul, Int32.reduceToInt] at *; omega) | (exfalso; simp_all; done))) (by decide) (fun v90 σ91 hOσ91 hT hqv90 => ?_)
                      have hqv90 : (v90 = 0 ∨ v90 = 1) ∧ RD σ91.1 := hqv90
                      have hD : RD σ91.1 := by first | exact hqv90.2 | exact hqv90.2.1
                      refine ok_if (fun hc92 => ?_) (fun hc92 => ?_)
                      · exact ok_rZ (Or.inl rfl) ⟨hT, (show ((0 : Int32) = 0 ∨ (0 : Int32) = 1) ∧ RD σ91.1 from by first | exact ⟨Or.inl rfl, hD⟩ | exact ⟨Or.inr rfl, hD⟩ | exact ⟨hqv90.1, hqv90.2⟩ | exact ⟨hqv90.1, hD⟩ | (have q := hqv90.1; first | exact ⟨Or.inl q, hD⟩ | exact ⟨Or.inr q, hD⟩))⟩
                      · refine ok_if (fun hc93 => ?_) (fun hc93 => ?_)
                        · refine ok_gC rfl ?_
                          refine ok_zbT (Q := fun V σ => V = 1 ∧ RD σ.1) hT (s_X5_emit hN (hR.tr hT) (by first | exact hX | exact hT.1.2 hX) (hD)) (by decide) (fun v94 σ95 hOσ95 hT hqv94 => ?_)
                          have hqv94 : v94 = 1 ∧ RD σ95.1 := hqv94
                          have hD : RD σ95.1 := by first | exact hqv94.2 | exact hqv94.2.1
                          exact ih14_4 (x2_4, x3_4 + 1, σ95) (show Tr [57, 58, 59] σ0 σ95 ∧ (0 ≤ (x3_4 + 1).toInt) ∧ (RD σ95.1) from ⟨hT, (by have q1 := hD.1; have q2 := hD.2.1; have q3 := hD0.1; have q4 := hD0.2.1; first | omega | decide | (simp only [Int32.le_iff_toInt_le, Int32.lt_iff_toInt_lt, ti_add, ti_sub, ti_mul, Int32.reduceToInt] at *; omega) | (exfalso; simp_all; done)), hD⟩) (show (601 - (x3_4 + 1).toInt).toNat < (601 - x3_4.toInt).toNat from (by have q1 := hD.1; have q2 := hD.2.1; have q3 := hD0.1; have q4 := hD0.2.1; first | omega | decide | (simp only [Int32.le_iff_toInt_le, Int32.lt_iff_toInt_lt, ti_add, ti_sub, ti_mul, Int32.reduceToInt] at *; omega) | (exfalso; simp_all; done)))
                        · exact ih14_4 (v23, x3_4 + 1, σ91) (show Tr [57, 58, 59] σ0 σ91 ∧ (0 ≤ (x3_4 + 1).toInt) ∧ (RD σ91.1) from ⟨hT, (by have q1 := hD.1; have q2 := hD.2.1; have q3 := hD0.1; have q4 := hD0.2.1; first | omega | decide | (simp only [Int32.le_iff_toInt_le, Int32.lt_iff_toInt_lt, ti_add, ti_sub, ti_mul, Int32.reduceToInt] at *; omega) | (exfalso; simp_all; done)), hD⟩) (show (601 - (x3_4 + 1).toInt).toNat < (601 - x3_4.toInt).toNat from (by have q1 := hD.1; have q2 := hD.2.1; have q3 := hD0.1; have q4 := hD0.2.1; first | omega | decide | (simp only [Int32.le_iff_toInt_le, Int32.lt_iff_toInt_lt, ti_add, ti_sub, ti_mul, Int32.reduceToInt] at *; omega) | (exfalso; simp_all; done)))
            · refine ok_if (fun hc96 => ?_) (fun hc96 => ?_)
              · rw [J_X5_sum_66.eq_1]
                refine ok_if (fun hc97 => ?_) (fun hc97 => ?_)
                · rw [J_X5_sum_84.eq_1]
                  refine ok_gI rfl ?_
                  refine ok_pI hT rfl (by decide) (fun σ99 eσ99 hOσ99 hT => ?_)
                  have hD : RD σ99.1 := RD_p eσ99 (fun q => absurd q (by decide)) (fun q => absurd q (by decide)) hD
                  refine ok_gI rfl ?_
                  refine ok_if (fun hc101 => ?_) (fun hc101 => ?_)
                  · rw [J_X5_sum_109.eq_1]
                    refine ok_gC rfl ?_
                    refine ok_zbT (Q := fun V σ => V = (0 : Int32) ∧ RD σ.1 ∧ (¬ (0 : Int32) = 0 → ¬ σ99.1 61 (Int32.toNatClampNeg (σ99.1 57 9)) = 0 → (σ.1 57 9).toInt = (σ99.1 57 9).toInt + 1)) hT (s_X5_advance hN (hR.tr hT) (by first | exact hX | exact hT.1.2 hX) (hD) (by first | exact Or.inl rfl | exact Or.inr rfl | assumption)) (by decide) (fun v102 σ103 hOσ103 hT hqv102 => ?_)
                    have hqv102 : v102 = (0 : Int32) ∧ RD σ103.1 ∧ (¬ (0 : Int32) = 0 → ¬ σ99.1 61 (Int32.toNatClampNeg (σ99.1 57 9)) = 0 → (σ103.1 57 9).toInt = (σ99.1 57 9).toInt + 1) := hqv102
                    have hD : RD σ103.1 := by first | exact hqv102.2 | exact hqv102.2.1
                    refine ok_if (fun hc104 => ?_) (fun hc104 => ?_)
                    · exact ok_rZ (Or.inl rfl) ⟨hT, (show ((0 : Int32) = 0 ∨ (0 : Int32) = 1) ∧ RD σ103.1 from by first | exact ⟨Or.inl rfl, hD⟩ | exact ⟨Or.inr rfl, hD⟩ | exact ⟨hqv102.1, hqv102.2⟩ | exact ⟨hqv102.1, hD⟩ | (have q := hqv102.1; first | exact ⟨Or.inl q, hD⟩ | exact ⟨Or.inr q, hD⟩))⟩
                    · refine ok_gC rfl ?_
                      refine ok_zbT (Q := fun V σ => (V = 0 ∨ V = 1) ∧ RD σ.1) hT (ih1 _ _ (hR.tr hT) (by first | exact hX | exact hT.1.2 hX) (hD) (by have q1 := hD.1; have q2 := hD.2.1; have q3 := hD0.1; have q4 := hD0.2.1; first | omega | decide | (simp only [Int32.le_iff_toInt_le, Int32.lt_iff_toInt_lt, ti_add, ti_sub, ti_mul, Int32.reduceToInt] at *; omega) | (exfalso; simp_all; done)) (by have q1 := hD.1; have q2 := hD.2.1; have q3 := hD0.1; have q4 := hD0.2.1; first | omega | decide | (simp only [Int32.le_iff_toInt_le, Int32.lt_iff_toInt_lt, ti_add, ti_sub, ti_mul, Int32.reduceToInt] at *; omega) | (exfalso; simp_all; done))) (by decide) (fun v105 σ106 hOσ106 hT hqv105 => ?_)
                      have hqv105 : (v105 = 0 ∨ v105 = 1) ∧ RD σ106.1 := hqv105
                      have hD : RD σ106.1 := by first | exact hqv105.2 | exact hqv105.2.1
                      refine ok_if (fun hc107 => ?_) (fun hc107 => ?_)
                      · exact ok_rZ (Or.inl rfl) ⟨hT, (show ((0 : Int32) = 0 ∨ (0 : Int32) = 1) ∧ RD σ106.1 from by first | exact ⟨Or.inl rfl, hD⟩ | exact ⟨Or.inr rfl, hD⟩ | exact ⟨hqv105.1, hqv105.2⟩ | exact ⟨hqv105.1, hD⟩ | (have q := hqv105.1; first | exact ⟨Or.inl q, hD⟩ | exact ⟨Or.inr q, hD⟩))⟩
                      · refine ok_if (fun hc108 => ?_) (fun hc108 => ?_)
                        · refine ok_gC rfl ?_
                          refine ok_zbT (Q := fun V σ => V = 1 ∧ RD σ.1) hT (s_X5_emit hN (hR.tr hT) (by first | exact hX | exact hT.1.2 hX) (hD)) (by decide) (fun v109 σ110 hOσ110 hT hqv109 => ?_)
                          have hqv109 : v109 = 1 ∧ RD σ110.1 := hqv109
                          have hD : RD σ110.1 := by first | exact hqv109.2 | exact hqv109.2.1
                          exact ih14_4 (x2_4, x3_4 + 1, σ110) (show Tr [57, 58, 59] σ0 σ110 ∧ (0 ≤ (x3_4 + 1).toInt) ∧ (RD σ110.1) from ⟨hT, (by have q1 := hD.1; have q2 := hD.2.1; have q3 := hD0.1; have q4 := hD0.2.1; first | omega | decide | (simp only [Int32.le_iff_toInt_le, Int32.lt_iff_toInt_lt, ti_add, ti_sub, ti_mul, Int32.reduceToInt] at *; omega) | (exfalso; simp_all; done)), hD⟩) (show (601 - (x3_4 + 1).toInt).toNat < (601 - x3_4.toInt).toNat from (by have q1 := hD.1; have q2 := hD.2.1; have q3 := hD0.1; have q4 := hD0.2.1; first | omega | decide | (simp only [Int32.le_iff_toInt_le, Int32.lt_iff_toInt_lt, ti_add, ti_sub, ti_mul, Int32.reduceToInt] at *; omega) | (exfalso; simp_all; done)))
                        · exact ih14_4 (v23, x3_4 + 1, σ106) (show Tr [57, 58, 59] σ0 σ106 ∧ (0 ≤ (x3_4 + 1).toInt) ∧ (RD σ106.1) from ⟨hT, (by have q1 := hD.1; have q2 := hD.2.1; have q3 := hD0.1; have q4 := hD0.2.1; first | omega | decide | (simp only [Int32.le_iff_toInt_le, Int32.lt_iff_toInt_lt, ti_add, ti_sub, ti_mul, Int32.reduceToInt] at *; omega) | (exfalso; simp_all; done)), hD⟩) (show (601 - (x3_4 + 1).toInt).toNat < (601 - x3_4.toInt).toNat from (by have q1 := hD.1; have q2 := hD.2.1; have q3 := hD0.1; have q4 := hD0.2.1; first | omega | decide | (simp only [Int32.le_iff_toInt_le, Int32.lt_iff_toInt_lt, ti_add, ti_sub, ti_mul, Int32.reduceToInt] at *; omega) | (exfalso; simp_all; done)))
                  · rw [J_X5_sum_109.eq_1]
                    refine ok_gC rfl ?_
                    refine ok_zbT (Q := fun V σ => V = (1 : Int32) ∧ RD σ.1 ∧ (¬ (1 : Int32) = 0 → ¬ σ99.1 61 (Int32.toNatClampNeg (σ99.1 57 9)) = 0 → (σ.1 57 9).toInt = (σ99.1 57 9).toInt + 1)) hT (s_X5_advance hN (hR.tr hT) (by first | exact hX | exact hT.1.2 hX) (hD) (by first | exact Or.inl rfl | exact Or.inr rfl | assumption)) (by decide) (fun v111 σ112 hOσ112 hT hqv111 => ?_)
                    have hqv111 : v111 = (1 : Int32) ∧ RD σ112.1 ∧ (¬ (1 : Int32) = 0 → ¬ σ99.1 61 (Int32.toNatClampNeg (σ99.1 57 9)) = 0 → (σ112.1 57 9).toInt = (σ99.1 57 9).toInt + 1) := hqv111
                    have hD : RD σ112.1 := by first | exact hqv111.2 | exact hqv111.2.1
                    refine ok_if (fun hc113 => ?_) (fun hc113 => ?_)
                    · exact ok_rZ (Or.inl rfl) ⟨hT, (show ((0 : Int32) = 0 ∨ (0 : Int32) = 1) ∧ RD σ112.1 from by first | exact ⟨Or.inl rfl, hD⟩ | exact ⟨Or.inr rfl, hD⟩ | exact ⟨hqv111.1, hqv111.2⟩ | exact ⟨hqv111.1, hD⟩ | (have q := hqv111.1; first | exact ⟨Or.inl q, hD⟩ | exact ⟨Or.inr q, hD⟩))⟩
                    · refine ok_gC rfl ?_
                      refine ok_zbT (Q := fun V σ => (V = 0 ∨ V = 1) ∧ RD σ.1) hT (ih1 _ _ (hR.tr hT) (by first | exact hX | exact hT.1.2 hX) (hD) (by have q1 := hD.1; have q2 := hD.2.1; have q3 := hD0.1; have q4 := hD0.2.1; first | omega | decide | (simp only [Int32.le_iff_toInt_le, Int32.lt_iff_toInt_lt, ti_add, ti_sub, ti_mul, Int32.reduceToInt] at *; omega) | (exfalso; simp_all; done)) (by have q1 := hD.1; have q2 := hD.2.1; have q3 := hD0.1; have q4 := hD0.2.1; first | omega | decide | (simp only [Int32.le_iff_toInt_le, Int32.lt_iff_toInt_lt, ti_add, ti_sub, ti_mul, Int32.reduceToInt] at *; omega) | (exfalso; simp_all; done))) (by decide) (fun v114 σ115 hOσ115 hT hqv114 => ?_)
                      have hqv114 : (v114 = 0 ∨ v114 = 1) ∧ RD σ115.1 := hqv114
                      have hD : RD σ115.1 := by first | exact hqv114.2 | exact hqv114.2.1
                      refine ok_if (fun hc116 => ?_) (fun hc116 => ?_)
                      · exact ok_rZ (Or.inl rfl) ⟨hT, (show ((0 : Int32) = 0 ∨ (0 : Int32) = 1) ∧ RD σ115.1 from by first | exact ⟨Or.inl rfl, hD⟩ | exact ⟨Or.inr rfl, hD⟩ | exact ⟨hqv114.1, hqv114.2⟩ | exact ⟨hqv114.1, hD⟩ | (have q := hqv114.1; first | exact ⟨Or.inl q, hD⟩ | exact ⟨Or.inr q, hD⟩))⟩
                      · refine ok_if (fun hc117 => ?_) (fun hc117 => ?_)
                        · refine ok_gC rfl ?_
                          refine ok_zbT (Q := fun V σ => V = 1 ∧ RD σ.1) hT (s_X5_emit hN (hR.tr hT) (by first | exact hX | exact hT.1.2 hX) (hD)) (by decide) (fun v118 σ119 hOσ119 hT hqv118 => ?_)
                          have hqv118 : v118 = 1 ∧ RD σ119.1 := hqv118
                          have hD : RD σ119.1 := by first | exact hqv118.2 | exact hqv118.2.1
                          exact ih14_4 (x2_4, x3_4 + 1, σ119) (show Tr [57, 58, 59] σ0 σ119 ∧ (0 ≤ (x3_4 + 1).toInt) ∧ (RD σ119.1) from ⟨hT, (by have q1 := hD.1; have q2 := hD.2.1; have q3 := hD0.1; have q4 := hD0.2.1; first | omega | decide | (simp only [Int32.le_iff_toInt_le, Int32.lt_iff_toInt_lt, ti_add, ti_sub, ti_mul, Int32.reduceToInt] at *; omega) | (exfalso; simp_all; done)), hD⟩) (show (601 - (x3_4 + 1).toInt).toNat < (601 - x3_4.toInt).toNat from (by have q1 := hD.1; have q2 := hD.2.1; have q3 := hD0.1; have q4 := hD0.2.1; first | omega | decide | (simp only [Int32.le_iff_toInt_le, Int32.lt_iff_toInt_lt, ti_add, ti_sub, ti_mul, Int32.reduceToInt] at *; omega) | (exfalso; simp_all; done)))
                        · exact ih14_4 (v23, x3_4 + 1, σ115) (show Tr [57, 58, 59] σ0 σ115 ∧ (0 ≤ (x3_4 + 1).toInt) ∧ (RD σ115.1) from ⟨hT, (by have q1 := hD.1; have q2 := hD.2.1; have q3 := hD0.1; have q4 := hD0.2.1; first | omega | decide | (simp only [Int32.le_iff_toInt_le, Int32.lt_iff_toInt_lt, ti_add, ti_sub, ti_mul, Int32.reduceToInt] at *; omega) | (exfalso; simp_all; done)), hD⟩) (show (601 - (x3_4 + 1).toInt).toNat < (601 - x3_4.toInt).toNat from (by have q1 := hD.1; have q2 := hD.2.1; have q3 := hD0.1; have q4 := hD0.2.1; first | omega | decide | (simp only [Int32.le_iff_toInt_le, Int32.lt_iff_toInt_lt, ti_add, ti_sub, ti_mul, Int32.reduceToInt] at *; omega) | (exfalso; simp_all; done)))
                · refine ok_if (fun hc120 => ?_) (fun hc120 => ?_)
                  · rw [J_X5_sum_84.eq_1]
                    refine ok_gI rfl ?_
                    refine ok_pI hT rfl (by decide) (fun σ122 eσ122 hOσ122 hT => ?_)
                    have hD : RD σ122.1 := RD_p eσ122 (fun q => absurd q (by decide)) (fun q => absurd q (by decide)) hD
                    refine ok_gI rfl ?_
                    refine ok_if (fun hc124 => ?_) (fun hc124 => ?_)
                    · rw [J_X5_sum_109.eq_1]
                      refine ok_gC rfl ?_
                      refine ok_zbT (Q := fun V σ => V = (0 : Int32) ∧ RD σ.1 ∧ (¬ (0 : Int32) = 0 → ¬ σ122.1 61 (Int32.toNatClampNeg (σ122.1 57 9)) = 0 → (σ.1 57 9).toInt = (σ122.1 57 9).toInt + 1)) hT (s_X5_advance hN (hR.tr hT) (by first | exact hX | exact hT.1.2 hX) (hD) (by first | exact Or.inl rfl | exact Or.inr rfl | assumption)) (by decide) (fun v125 σ126 hOσ126 hT hqv125 => ?_)
                      have hqv125 : v125 = (0 : Int32) ∧ RD σ126.1 ∧ (¬ (0 : Int32) = 0 → ¬ σ122.1 61 (Int32.toNatClampNeg (σ122.1 57 9)) = 0 → (σ126.1 57 9).toInt = (σ122.1 57 9).toInt + 1) := hqv125
                      have hD : RD σ126.1 := by first | exact hqv125.2 | exact hqv125.2.1
                      refine ok_if (fun hc127 => ?_) (fun hc127 => ?_)
                      · exact ok_rZ (Or.inl rfl) ⟨hT, (show ((0 : Int32) = 0 ∨ (0 : Int32) = 1) ∧ RD σ126.1 from by first | exact ⟨Or.inl rfl, hD⟩ | exact ⟨Or.inr rfl, hD⟩ | exact ⟨hqv125.1, hqv125.2⟩ | exact ⟨hqv125.1, hD⟩ | (have q := hqv125.1; first | exact ⟨Or.inl q, hD⟩ | exact ⟨Or.inr q, hD⟩))⟩
                      · refine ok_gC rfl ?_
                        refine ok_zbT (Q := fun V σ => (V = 0 ∨ V = 1) ∧ RD σ.1) hT (ih1 _ _ (hR.tr hT) (by first | exact hX | exact hT.1.2 hX) (hD) (by have q1 := hD.1; have q2 := hD.2.1; have q3 := hD0.1; have q4 := hD0.2.1; first | omega | decide | (simp only [Int32.le_iff_toInt_le, Int32.lt_iff_toInt_lt, ti_add, ti_sub, ti_mul, Int32.reduceToInt] at *; omega) | (exfalso; simp_all; done)) (by have q1 := hD.1; have q2 := hD.2.1; have q3 := hD0.1; have q4 := hD0.2.1; first | omega | decide | (simp only [Int32.le_iff_toInt_le, Int32.lt_iff_toInt_lt, ti_add, ti_sub, ti_mul, Int32.reduceToInt] at *; omega) | (exfalso; simp_all; done))) (by decide) (fun v128 σ129 hOσ129 hT hqv128 => ?_)
                        have hqv128 : (v128 = 0 ∨ v128 = 1) ∧ RD σ129.1 := hqv128
                        have hD : RD σ129.1 := by first | exact hqv128.2 | exact hqv128.2.1
                        refine ok_if (fun hc130 => ?_) (fun hc130 => ?_)
                        · exact ok_rZ (Or.inl rfl) ⟨hT, (show ((0 : Int32) = 0 ∨ (0 : Int32) = 1) ∧ RD σ129.1 from by first | exact ⟨Or.inl rfl, hD⟩ | exact ⟨Or.inr rfl, hD⟩ | exact ⟨hqv128.1, hqv128.2⟩ | exact ⟨hqv128.1, hD⟩ | (have q := hqv128.1; first | exact ⟨Or.inl q, hD⟩ | exact ⟨Or.inr q, hD⟩))⟩
                        · refine ok_if (fun hc131 => ?_) (fun hc131 => ?_)
                          · refine ok_gC rfl ?_
                            refine ok_zbT (Q := fun V σ => V = 1 ∧ RD σ.1) hT (s_X5_emit hN (hR.tr hT) (by first | exact hX | exact hT.1.2 hX) (hD)) (by decide) (fun v132 σ133 hOσ133 hT hqv132 => ?_)
                            have hqv132 : v132 = 1 ∧ RD σ133.1 := hqv132
                            have hD : RD σ133.1 := by first | exact hqv132.2 | exact hqv132.2.1
                            exact ih14_4 (x2_4, x3_4 + 1, σ133) (show Tr [57, 58, 59] σ0 σ133 ∧ (0 ≤ (x3_4 + 1).toInt) ∧ (RD σ133.1) from ⟨hT, (by have q1 := hD.1; have q2 := hD.2.1; have q3 := hD0.1; have q4 := hD0.2.1; first | omega | decide | (simp only [Int32.le_iff_toInt_le, Int32.lt_iff_toInt_lt, ti_add, ti_sub, ti_mul, Int32.reduceToInt] at *; omega) | (exfalso; simp_all; done)), hD⟩) (show (601 - (x3_4 + 1).toInt).toNat < (601 - x3_4.toInt).toNat from (by have q1 := hD.1; have q2 := hD.2.1; have q3 := hD0.1; have q4 := hD0.2.1; first | omega | decide | (simp only [Int32.le_iff_toInt_le, Int32.lt_iff_toInt_lt, ti_add, ti_sub, ti_mul, Int32.reduceToInt] at *; omega) | (exfalso; simp_all; done)))
                          · exact ih14_4 (v23, x3_4 + 1, σ129) (show Tr [57, 58, 59] σ0 σ129 ∧ (0 ≤ (x3_4 + 1).toInt) ∧ (RD σ129.1) from ⟨hT, (by have q1 := hD.1; have q2 := hD.2.1; have q3 := hD0.1; have q4 := hD0.2.1; first | omega | decide | (simp only [Int32.le_iff_toInt_le, Int32.lt_iff_toInt_lt, ti_add, ti_sub, ti_mul, Int32.reduceToInt] at *; omega) | (exfalso; simp_all; done)), hD⟩) (show (601 - (x3_4 + 1).toInt).toNat < (601 - x3_4.toInt).toNat from (by have q1 := hD.1; have q2 := hD.2.1; have q3 := hD0.1; have q4 := hD0.2.1; first | omega | decide | (simp only [Int32.le_iff_toInt_le, Int32.lt_iff_toInt_lt, ti_add, ti_sub, ti_mul, Int32.reduceToInt] at *; omega) | (exfalso; simp_all; done)))
                    · rw [J_X5_sum_109.eq_1]
                      refine ok_gC rfl ?_
                      refine ok_zbT (Q := fun V σ => V = (1 : Int32) ∧ RD σ.1 ∧ (¬ (1 : Int32) = 0 → ¬ σ122.1 61 (Int32.toNatClampNeg (σ122.1 57 9)) = 0 → (σ.1 57 9).toInt = (σ122.1 57 9).toInt + 1)) hT (s_X5_advance hN (hR.tr hT) (by first | exact hX | exact hT.1.2 hX) (hD) (by first | exact Or.inl rfl | exact Or.inr rfl | assumption)) (by decide) (fun v134 σ135 hOσ135 hT hqv134 => ?_)
                      have hqv134 : v134 = (1 : Int32) ∧ RD σ135.1 ∧ (¬ (1 : Int32) = 0 → ¬ σ122.1 61 (Int32.toNatClampNeg (σ122.1 57 9)) = 0 → (σ135.1 57 9).toInt = (σ122.1 57 9).toInt + 1) := hqv134
                      have hD : RD σ135.1 := by first | exact hqv134.2 | exact hqv134.2.1
                      refine ok_if (fun hc136 => ?_) (fun hc136 => ?_)
                      · exact ok_rZ (Or.inl rfl) ⟨hT, (show ((0 : Int32) = 0 ∨ (0 : Int32) = 1) ∧ RD σ135.1 from by first | exact ⟨Or.inl rfl, hD⟩ | exact ⟨Or.inr rfl, hD⟩ | exact ⟨hqv134.1, hqv134.2⟩ | exact ⟨hqv134.1, hD⟩ | (have q := hqv134.1; first | exact ⟨Or.inl q, hD⟩ | exact ⟨Or.inr q, hD⟩))⟩
                      · refine ok_gC rfl ?_
                        refine ok_zbT (Q := fun V σ => (V = 0 ∨ V = 1) ∧ RD σ.1) hT (ih1 _ _ (hR.tr hT) (by first | exact hX | exact hT.1.2 hX) (hD) (by have q1 := hD.1; have q2 := hD.2.1; have q3 := hD0.1; have q4 := hD0.2.1; first | omega | decide | (simp only [Int32.le_iff_toInt_le, Int32.lt_iff_toInt_lt, ti_add, ti_sub, ti_mul, Int32.reduceToInt] at *; omega) | (exfalso; simp_all; done)) (by have q1 := hD.1; have q2 := hD.2.1; have q3 := hD0.1; have q4 := hD0.2.1; first | omega | decide | (simp only [Int32.le_iff_toInt_le, Int32.lt_iff_toInt_lt, ti_add, ti_sub, ti_mul, Int32.reduceToInt] at *; omega) | (exfalso; simp_all; done))) (by decide) (fun v137 σ138 hOσ138 hT hqv137 => ?_)
                        have hqv137 : (v137 = 0 ∨ v137 = 1) ∧ RD σ138.1 := hqv137
                        have hD : RD σ138.1 := by first | exact hqv137.2 | exact hqv137.2.1
                        refine ok_if (fun hc139 => ?_) (fun hc139 => ?_)
                        · exact ok_rZ (Or.inl rfl) ⟨hT, (show ((0 : Int32) = 0 ∨ (0 : Int32) = 1) ∧ RD σ138.1 from by first | exact ⟨Or.inl rfl, hD⟩ | exact ⟨Or.inr rfl, hD⟩ | exact ⟨hqv137.1, hqv137.2⟩ | exact ⟨hqv137.1, hD⟩ | (have q := hqv137.1; first | exact ⟨Or.inl q, hD⟩ | exact ⟨Or.inr q, hD⟩))⟩
                        · refine ok_if (fun hc140 => ?_) (fun hc140 => ?_)
                          · refine ok_gC rfl ?_
                            refine ok_zbT (Q := fun V σ => V = 1 ∧ RD σ.1) hT (s_X5_emit hN (hR.tr hT) (by first | exact hX | exact hT.1.2 hX) (hD)) (by decide) (fun v141 σ142 hOσ142 hT hqv141 => ?_)
                            have hqv141 : v141 = 1 ∧ RD σ142.1 := hqv141
                            have hD : RD σ142.1 := by first | exact hqv141.2 | exact hqv141.2.1
                            exact ih14_4 (x2_4, x3_4 + 1, σ142) (show Tr [57, 58, 59] σ0 σ142 ∧ (0 ≤ (x3_4 + 1).toInt) ∧ (RD σ142.1) from ⟨hT, (by have q1 := hD.1; have q2 := hD.2.1; have q3 := hD0.1; have q4 := hD0.2.1; first | omega | decide | (simp only [Int32.le_iff_toInt_le, Int32.lt_iff_toInt_lt, ti_add, ti_sub, ti_mul, Int32.reduceToInt] at *; omega) | (exfalso; simp_all; done)), hD⟩) (show (601 - (x3_4 + 1).toInt).toNat < (601 - x3_4.toInt).toNat from (by have q1 := hD.1; have q2 := hD.2.1; have q3 := hD0.1; have q4 := hD0.2.1; first | omega | decide | (simp only [Int32.le_iff_toInt_le, Int32.lt_iff_toInt_lt, ti_add, ti_sub, ti_mul, Int32.reduceToInt] at *; omega) | (exfalso; simp_all; done)))
                          · exact ih14_4 (v23, x3_4 + 1, σ138) (show Tr [57, 58, 59] σ0 σ138 ∧ (0 ≤ (x3_4 + 1).toInt) ∧ (RD σ138.1) from ⟨hT, (by have q1 := hD.1; have q2 := hD.2.1; have q3 := hD0.1; have q4 := hD0.2.1; first | omega | decide | (simp only [Int32.le_iff_toInt_le, Int32.lt_iff_toInt_lt, ti_add, ti_sub, ti_mul, Int32.reduceToInt] at *; omega) | (exfalso; simp_all; done)), hD⟩) (show (601 - (x3_4 + 1).toInt).toNat < (601 - x3_4.toInt).toNat from (by have q1 := hD.1; have q2 := hD.2.1; have q3 := hD0.1; have q4 := hD0.2.1; first | omega | decide | (simp only [Int32.le_iff_toInt_le, Int32.lt_iff_toInt_lt, ti_add, ti_sub, ti_mul, Int32.reduceToInt] at *; omega) | (exfalso; simp_all; done)))
                  · refine ok_gC rfl ?_
                    refine ok_zbT (Q := fun V σ => V = 1 ∧ RD σ.1) hT (s_X5_emit hN (hR.tr hT) (by first | exact hX | exact hT.1.2 hX) (hD)) (by decide) (fun v143 σ144 hOσ144 hT hqv143 => ?_)
                    have hqv143 : v143 = 1 ∧ RD σ144.1 := hqv143
                    have hD : RD σ144.1 := by first | exact hqv143.2 | exact hqv143.2.1
                    rw [J_X5_sum_84.eq_1]
                    refine ok_gI rfl ?_
                    refine ok_pI hT rfl (by decide) (fun σ146 eσ146 hOσ146 hT => ?_)
                    have hD : RD σ146.1 := RD_p eσ146 (fun q => absurd q (by decide)) (fun q => absurd q (by decide)) hD
                    refine ok_gI rfl ?_
                    refine ok_if (fun hc148 => ?_) (fun hc148 => ?_)
                    · rw [J_X5_sum_109.eq_1]
                      refine ok_gC rfl ?_
                      refine ok_zbT (Q := fun V σ => V = (0 : Int32) ∧ RD σ.1 ∧ (¬ (0 : Int32) = 0 → ¬ σ146.1 61 (Int32.toNatClampNeg (σ146.1 57 9)) = 0 → (σ.1 57 9).toInt = (σ146.1 57 9).toInt + 1)) hT (s_X5_advance hN (hR.tr hT) (by first | exact hX | exact hT.1.2 hX) (hD) (by first | exact Or.inl rfl | exact Or.inr rfl | assumption)) (by decide) (fun v149 σ150 hOσ150 hT hqv149 => ?_)
                      have hqv149 : v149 = (0 : Int32) ∧ RD σ150.1 ∧ (¬ (0 : Int32) = 0 → ¬ σ146.1 61 (Int32.toNatClampNeg (σ146.1 57 9)) = 0 → (σ150.1 57 9).toInt = (σ146.1 57 9).toInt + 1) := hqv149
                      have hD : RD σ150.1 := by first | exact hqv149.2 | exact hqv149.2.1
                      refine ok_if (fun hc151 => ?_) (fun hc151 => ?_)
                      · exact ok_rZ (Or.inl rfl) ⟨hT, (show ((0 : Int32) = 0 ∨ (0 : Int32) = 1) ∧ RD σ150.1 from by first | exact ⟨Or.inl rfl, hD⟩ | exact ⟨Or.inr rfl, hD⟩ | exact ⟨hqv149.1, hqv149.2⟩ | exact ⟨hqv149.1, hD⟩ | (have q := hqv149.1; first | exact ⟨Or.inl q, hD⟩ | exact ⟨Or.inr q, hD⟩))⟩
                      · refine ok_gC rfl ?_
                        refine ok_zbT (Q := fun V σ => (V = 0 ∨ V = 1) ∧ RD σ.1) hT (ih1 _ _ (hR.tr hT) (by first | exact hX | exact hT.1.2 hX) (hD) (by have q1 := hD.1; have q2 := hD.2.1; have q3 := hD0.1; have q4 := hD0.2.1; first | omega | decide | (simp only [Int32.le_iff_toInt_le, Int32.lt_iff_toInt_lt, ti_add, ti_sub, ti_mul, Int32.reduceToInt] at *; omega) | (exfalso; simp_all; done)) (by have q1 := hD.1; have q2 := hD.2.1; have q3 := hD0.1; have q4 := hD0.2.1; first | omega | decide | (simp only [Int32.le_iff_toInt_le, Int32.lt_iff_toInt_lt, ti_add, ti_sub, ti_mul, Int32.reduceToInt] at *; omega) | (exfalso; simp_all; done))) (by decide) (fun v152 σ153 hOσ153 hT hqv152 => ?_)
                        have hqv152 : (v152 = 0 ∨ v152 = 1) ∧ RD σ153.1 := hqv152
                        have hD : RD σ153.1 := by first | exact hqv152.2 | exact hqv152.2.1
                        refine ok_if (fun hc154 => ?_) (fun hc154 => ?_)
                        · exact ok_rZ (Or.inl rfl) ⟨hT, (show ((0 : Int32) = 0 ∨ (0 : Int32) = 1) ∧ RD σ153.1 from by first | exact ⟨Or.inl rfl, hD⟩ | exact ⟨Or.inr rfl, hD⟩ | exact ⟨hqv152.1, hqv152.2⟩ | exact ⟨hqv152.1, hD⟩ | (have q := hqv152.1; first | exact ⟨Or.inl q, hD⟩ | exact ⟨Or.inr q, hD⟩))⟩
                        · refine ok_if (fun hc155 => ?_) (fun hc155 => ?_)
                          · refine ok_gC rfl ?_
                            refine ok_zbT (Q := fun V σ => V = 1 ∧ RD σ.1) hT (s_X5_emit hN (hR.tr hT) (by first | exact hX | exact hT.1.2 hX) (hD)) (by decide) (fun v156 σ157 hOσ157 hT hqv156 => ?_)
                            have hqv156 : v156 = 1 ∧ RD σ157.1 := hqv156
                            have hD : RD σ157.1 := by first | exact hqv156.2 | exact hqv156.2.1
                            exact ih14_4 (x2_4, x3_4 + 1, σ157) (show Tr [57, 58, 59] σ0 σ157 ∧ (0 ≤ (x3_4 + 1).toInt) ∧ (RD σ157.1) from ⟨hT, (by have q1 := hD.1; have q2 := hD.2.1; have q3 := hD0.1; have q4 := hD0.2.1; first | omega | decide | (simp only [Int32.le_iff_toInt_le, Int32.lt_iff_toInt_lt, ti_add, ti_sub, ti_mul, Int32.reduceToInt] at *; omega) | (exfalso; simp_all; done)), hD⟩) (show (601 - (x3_4 + 1).toInt).toNat < (601 - x3_4.toInt).toNat from (by have q1 := hD.1; have q2 := hD.2.1; have q3 := hD0.1; have q4 := hD0.2.1; first | omega | decide | (simp only [Int32.le_iff_toInt_le, Int32.lt_iff_toInt_lt, ti_add, ti_sub, ti_mul, Int32.reduceToInt] at *; omega) | (exfalso; simp_all; done)))
                          · exact ih14_4 (v23, x3_4 + 1, σ153) (show Tr [57, 58, 59] σ0 σ153 ∧ (0 ≤ (x3_4 + 1).toInt) ∧ (RD σ153.1) from ⟨hT, (by have q1 := hD.1; have q2 := hD.2.1; have q3 := hD0.1; have q4 := hD0.2.1; first | omega | decide | (simp only [Int32.le_iff_toInt_le, Int32.lt_iff_toInt_lt, ti_add, ti_sub, ti_mul, Int32.reduceToInt] at *; omega) | (exfalso; simp_all; done)), hD⟩) (show (601 - (x3_4 + 1).toInt).toNat < (601 - x3_4.toInt).toNat from (by have q1 := hD.1; have q2 := hD.2.1; have q3 := hD0.1; have q4 := hD0.2.1; first | omega | decide | (simp only [Int32.le_iff_toInt_le, Int32.lt_iff_toInt_lt, ti_add, ti_sub, ti_mul, Int32.reduceToInt] at *; omega) | (exfalso; simp_all; done)))
                    · rw [J_X5_sum_109.eq_1]
                      refine ok_gC rfl ?_
                      refine ok_zbT (Q := fun V σ => V = (1 : Int32) ∧ RD σ.1 ∧ (¬ (1 : Int32) = 0 → ¬ σ146.1 61 (Int32.toNatClampNeg (σ146.1 57 9)) = 0 → (σ.1 57 9).toInt = (σ146.1 57 9).toInt + 1)) hT (s_X5_advance hN (hR.tr hT) (by first | exact hX | exact hT.1.2 hX) (hD) (by first | exact Or.inl rfl | exact Or.inr rfl | assumption)) (by decide) (fun v158 σ159 hOσ159 hT hqv158 => ?_)
                      have hqv158 : v158 = (1 : Int32) ∧ RD σ159.1 ∧ (¬ (1 : Int32) = 0 → ¬ σ146.1 61 (Int32.toNatClampNeg (σ146.1 57 9)) = 0 → (σ159.1 57 9).toInt = (σ146.1 57 9).toInt + 1) := hqv158
                      have hD : RD σ159.1 := by first | exact hqv158.2 | exact hqv158.2.1
                      refine ok_if (fun hc160 => ?_) (fun hc160 => ?_)
                      · exact ok_rZ (Or.inl rfl) ⟨hT, (show ((0 : Int32) = 0 ∨ (0 : Int32) = 1) ∧ RD σ159.1 from by first | exact ⟨Or.inl rfl, hD⟩ | exact ⟨Or.inr rfl, hD⟩ | exact ⟨hqv158.1, hqv158.2⟩ | exact ⟨hqv158.1, hD⟩ | (have q := hqv158.1; first | exact ⟨Or.inl q, hD⟩ | exact ⟨Or.inr q, hD⟩))⟩
                      · refine ok_gC rfl ?_
                        refine ok_zbT (Q := fun V σ => (V = 0 ∨ V = 1) ∧ RD σ.1) hT (ih1 _ _ (hR.tr hT) (by first | exact hX | exact hT.1.2 hX) (hD) (by have q1 := hD.1; have q2 := hD.2.1; have q3 := hD0.1; have q4 := hD0.2.1; first | omega | decide | (simp only [Int32.le_iff_toInt_le, Int32.lt_iff_toInt_lt, ti_add, ti_sub, ti_mul, Int32.reduceToInt] at *; omega) | (exfalso; simp_all; done)) (by have q1 := hD.1; have q2 := hD.2.1; have q3 := hD0.1; have q4 := hD0.2.1; first | omega | decide | (simp only [Int32.le_iff_toInt_le, Int32.lt_iff_toInt_lt, ti_add, ti_sub, ti_mul, Int32.reduceToInt] at *; omega) | (exfalso; simp_all; done))) (by decide) (fun v161 σ162 hOσ162 hT hqv161 => ?_)
                        have hqv161 : (v161 = 0 ∨ v161 = 1) ∧ RD σ162.1 := hqv161
                        have hD : RD σ162.1 := by first | exact hqv161.2 | exact hqv161.2.1
                        refine ok_if (fun hc163 => ?_) (fun hc163 => ?_)
                        · exact ok_rZ (Or.inl rfl) ⟨hT, (show ((0 : Int32) = 0 ∨ (0 : Int32) = 1) ∧ RD σ162.1 from by first | exact ⟨Or.inl rfl, hD⟩ | exact ⟨Or.inr rfl, hD⟩ | exact ⟨hqv161.1, hqv161.2⟩ | exact ⟨hqv161.1, hD⟩ | (have q := hqv161.1; first | exact ⟨Or.inl q, hD⟩ | exact ⟨Or.inr q, hD⟩))⟩
                        · refine ok_if (fun hc164 => ?_) (fun hc164 => ?_)
                          · refine ok_gC rfl ?_
                            refine ok_zbT (Q := fun V σ => V = 1 ∧ RD σ.1) hT (s_X5_emit hN (hR.tr hT) (by first | exact hX | exact hT.1.2 hX) (hD)) (by decide) (fun v165 σ166 hOσ166 hT hqv165 => ?_)
                            have hqv165 : v165 = 1 ∧ RD σ166.1 := hqv165
                            have hD : RD σ166.1 := by first | exact hqv165.2 | exact hqv165.2.1
                            exact ih14_4 (x2_4, x3_4 + 1, σ166) (show Tr [57, 58, 59] σ0 σ166 ∧ (0 ≤ (x3_4 + 1).toInt) ∧ (RD σ166.1) from ⟨hT, (by have q1 := hD.1; have q2 := hD.2.1; have q3 := hD0.1; have q4 := hD0.2.1; first | omega | decide | (simp only [Int32.le_iff_toInt_le, Int32.lt_iff_toInt_lt, ti_add, ti_sub, ti_mul, Int32.reduceToInt] at *; omega) | (exfalso; simp_all; done)), hD⟩) (show (601 - (x3_4 + 1).toInt).toNat < (601 - x3_4.toInt).toNat from (by have q1 := hD.1; have q2 := hD.2.1; have q3 := hD0.1; have q4 := hD0.2.1; first | omega | decide | (simp only [Int32.le_iff_toInt_le, Int32.lt_iff_toInt_lt, ti_add, ti_sub, ti_mul, Int32.reduceToInt] at *; omega) | (exfalso; simp_all; done)))
                          · exact ih14_4 (v23, x3_4 + 1, σ162) (show Tr [57, 58, 59] σ0 σ162 ∧ (0 ≤ (x3_4 + 1).toInt) ∧ (RD σ162.1) from ⟨hT, (by have q1 := hD.1; have q2 := hD.2.1; have q3 := hD0.1; have q4 := hD0.2.1; first | omega | decide | (simp only [Int32.le_iff_toInt_le, Int32.lt_iff_toInt_lt, ti_add, ti_sub, ti_mul, Int32.reduceToInt] at *; omega) | (exfalso; simp_all; done)), hD⟩) (show (601 - (x3_4 + 1).toInt).toNat < (601 - x3_4.toInt).toNat from (by have q1 := hD.1; have q2 := hD.2.1; have q3 := hD0.1; have q4 := hD0.2.1; first | omega | decide | (simp only [Int32.le_iff_toInt_le, Int32.lt_iff_toInt_lt, ti_add, ti_sub, ti_mul, Int32.reduceToInt] at *; omega) | (exfalso; simp_all; done)))
              · rw [J_X5_sum_66.eq_1]
                refine ok_if (fun hc167 => ?_) (fun hc167 => ?_)
                · rw [J_X5_sum_84.eq_1]
                  refine ok_gI rfl ?_
                  refine ok_pI hT rfl (by decide) (fun σ169 eσ169 hOσ169 hT => ?_)
                  have hD : RD σ169.1 := RD_p eσ169 (fun q => absurd q (by decide)) (fun q => absurd q (by decide)) hD
                  refine ok_gI rfl ?_
                  refine ok_if (fun hc171 => ?_) (fun hc171 => ?_)
                  · rw [J_X5_sum_109.eq_1]
                    refine ok_gC rfl ?_
                    refine ok_zbT (Q := fun V σ => V = (0 : Int32) ∧ RD σ.1 ∧ (¬ (0 : Int32) = 0 → ¬ σ169.1 61 (Int32.toNatClampNeg (σ169.1 57 9)) = 0 → (σ.1 57 9).toInt = (σ169.1 57 9).toInt + 1)) hT (s_X5_advance hN (hR.tr hT) (by first | exact hX | exact hT.1.2 hX) (hD) (by first | exact Or.inl rfl | exact Or.inr rfl | assumption)) (by decide) (fun v172 σ173 hOσ173 hT hqv172 => ?_)
                    have hqv172 : v172 = (0 : Int32) ∧ RD σ173.1 ∧ (¬ (0 : Int32) = 0 → ¬ σ169.1 61 (Int32.toNatClampNeg (σ169.1 57 9)) = 0 → (σ173.1 57 9).toInt = (σ169.1 57 9).toInt + 1) := hqv172
                    have hD : RD σ173.1 := by first | exact hqv172.2 | exact hqv172.2.1
                    refine ok_if (fun hc174 => ?_) (fun hc174 => ?_)
                    · exact ok_rZ (Or.inl rfl) ⟨hT, (show ((0 : Int32) = 0 ∨ (0 : Int32) = 1) ∧ RD σ173.1 from by first | exact ⟨Or.inl rfl, hD⟩ | exact ⟨Or.inr rfl, hD⟩ | exact ⟨hqv172.1, hqv172.2⟩ | exact ⟨hqv172.1, hD⟩ | (have q := hqv172.1; first | exact ⟨Or.inl q, hD⟩ | exact ⟨Or.inr q, hD⟩))⟩
                    · refine ok_gC rfl ?_
                      refine ok_zbT (Q := fun V σ => (V = 0 ∨ V = 1) ∧ RD σ.1) hT (ih1 _ _ (hR.tr hT) (by first | exact hX | exact hT.1.2 hX) (hD) (by have q1 := hD.1; have q2 := hD.2.1; have q3 := hD0.1; have q4 := hD0.2.1; first | omega | decide | (simp only [Int32.le_iff_toInt_le, Int32.lt_iff_toInt_lt, ti_add, ti_sub, ti_mul, Int32.reduceToInt] at *; omega) | (exfalso; simp_all; done)) (by have q1 := hD.1; have q2 := hD.2.1; have q3 := hD0.1; have q4 := hD0.2.1; first | omega | decide | (simp only [Int32.le_iff_toInt_le, Int32.lt_iff_toInt_lt, ti_add, ti_sub, ti_mul, Int32.reduceToInt] at *; omega) | (exfalso; simp_all; done))) (by decide) (fun v175 σ176 hOσ176 hT hqv175 => ?_)
                      have hqv175 : (v175 = 0 ∨ v175 = 1) ∧ RD σ176.1 := hqv175
                      have hD : RD σ176.1 := by first | exact hqv175.2 | exact hqv175.2.1
                      refine ok_if (fun hc177 => ?_) (fun hc177 => ?_)
                      · exact ok_rZ (Or.inl rfl) ⟨hT, (show ((0 : Int32) = 0 ∨ (0 : Int32) = 1) ∧ RD σ176.1 from by first | exact ⟨Or.inl rfl, hD⟩ | exact ⟨Or.inr rfl, hD⟩ | exact ⟨hqv175.1, hqv175.2⟩ | exact ⟨hqv175.1, hD⟩ | (have q := hqv175.1; first | exact ⟨Or.inl q, hD⟩ | exact ⟨Or.inr q, hD⟩))⟩
                      · refine ok_if (fun hc178 => ?_) (fun hc178 => ?_)
                        · refine ok_gC rfl ?_
                          refine ok_zbT (Q := fun V σ => V = 1 ∧ RD σ.1) hT (s_X5_emit hN (hR.tr hT) (by first | exact hX | exact hT.1.2 hX) (hD)) (by decide) (fun v179 σ180 hOσ180 hT hqv179 => ?_)
                          have hqv179 : v179 = 1 ∧ RD σ180.1 := hqv179
                          have hD : RD σ180.1 := by first | exact hqv179.2 | exact hqv179.2.1
                          exact ih14_4 (x2_4, x3_4 + 1, σ180) (show Tr [57, 58, 59] σ0 σ180 ∧ (0 ≤ (x3_4 + 1).toInt) ∧ (RD σ180.1) from ⟨hT, (by have q1 := hD.1; have q2 := hD.2.1; have q3 := hD0.1; have q4 := hD0.2.1; first | omega | decide | (simp only [Int32.le_iff_toInt_le, Int32.lt_iff_toInt_lt, ti_add, ti_sub, ti_mul, Int32.reduceToInt] at *; omega) | (exfalso; simp_all; done)), hD⟩) (show (601 - (x3_4 + 1).toInt).toNat < (601 - x3_4.toInt).toNat from (by have q1 := hD.1; have q2 := hD.2.1; have q3 := hD0.1; have q4 := hD0.2.1; first | omega | decide | (simp only [Int32.le_iff_toInt_le, Int32.lt_iff_toInt_lt, ti_add, ti_sub, ti_mul, Int32.reduceToInt] at *; omega) | (exfalso; simp_all; done)))
                        · exact ih14_4 (v23, x3_4 + 1, σ176) (show Tr [57, 58, 59] σ0 σ176 ∧ (0 ≤ (x3_4 + 1).toInt) ∧ (RD σ176.1) from ⟨hT, (by have q1 := hD.1; have q2 := hD.2.1; have q3 := hD0.1; have q4 := hD0.2.1; first | omega | decide | (simp only [Int32.le_iff_toInt_le, Int32.lt_iff_toInt_lt, ti_add, ti_sub, ti_mul, Int32.reduceToInt] at *; omega) | (exfalso; simp_all; done)), hD⟩) (show (601 - (x3_4 + 1).toInt).toNat < (601 - x3_4.toInt).toNat from (by have q1 := hD.1; have q2 := hD.2.1; have q3 := hD0.1; have q4 := hD0.2.1; first | omega | decide | (simp only [Int32.le_iff_toInt_le, Int32.lt_iff_toInt_lt, ti_add, ti_sub, ti_mul, Int32.reduceToInt] at *; omega) | (exfalso; simp_all; done)))
                  · rw [J_X5_sum_109.eq_1]
                    refine ok_gC rfl ?_
                    refine ok_zbT (Q := fun V σ => V = (1 : Int32) ∧ RD σ.1 ∧ (¬ (1 : Int32) = 0 → ¬ σ169.1 61 (Int32.toNatClampNeg (σ169.1 57 9)) = 0 → (σ.1 57 9).toInt = (σ169.1 57 9).toInt + 1)) hT (s_X5_advance hN (hR.tr hT) (by first | exact hX | exact hT.1.2 hX) (hD) (by first | exact Or.inl rfl | exact Or.inr rfl | assumption)) (by decide) (fun v181 σ182 hOσ182 hT hqv181 => ?_)
                    have hqv181 : v181 = (1 : Int32) ∧ RD σ182.1 ∧ (¬ (1 : Int32) = 0 → ¬ σ169.1 61 (Int32.toNatClampNeg (σ169.1 57 9)) = 0 → (σ182.1 57 9).toInt = (σ169.1 57 9).toInt + 1) := hqv181
                    have hD : RD σ182.1 := by first | exact hqv181.2 | exact hqv181.2.1
                    refine ok_if (fun hc183 => ?_) (fun hc183 => ?_)
                    · exact ok_rZ (Or.inl rfl) ⟨hT, (show ((0 : Int32) = 0 ∨ (0 : Int32) = 1) ∧ RD σ182.1 from by first | exact ⟨Or.inl rfl, hD⟩ | exact ⟨Or.inr rfl, hD⟩ | exact ⟨hqv181.1, hqv181.2⟩ | exact ⟨hqv181.1, hD⟩ | (have q := hqv181.1; first | exact ⟨Or.inl q, hD⟩ | exact ⟨Or.inr q, hD⟩))⟩
                    · refine ok_gC rfl ?_
                      refine ok_zbT (Q := fun V σ => (V = 0 ∨ V = 1) ∧ RD σ.1) hT (ih1 _ _ (hR.tr hT) (by first | exact hX | exact hT.1.2 hX) (hD) (by have q1 := hD.1; have q2 := hD.2.1; have q3 := hD0.1; have q4 := hD0.2.1; first | omega | decide | (simp only [Int32.le_iff_toInt_le, Int32.lt_iff_toInt_lt, ti_add, ti_sub, ti_mul, Int32.reduceToInt] at *; omega) | (exfalso; simp_all; done)) (by have q1 := hD.1; have q2 := hD.2.1; have q3 := hD0.1; have q4 := hD0.2.1; first | omega | decide | (simp only [Int32.le_iff_toInt_le, Int32.lt_iff_toInt_lt, ti_add, ti_sub, ti_mul, Int32.reduceToInt] at *; omega) | (exfalso; simp_all; done))) (by decide) (fun v184 σ185 hOσ185 hT hqv184 => ?_)
                      have hqv184 : (v184 = 0 ∨ v184 = 1) ∧ RD σ185.1 := hqv184
                      have hD : RD σ185.1 := by first | exact hqv184.2 | exact hqv184.2.1
                      refine ok_if (fun hc186 => ?_) (fun hc186 => ?_)
                      · exact ok_rZ (Or.inl rfl) ⟨hT, (show ((0 : Int32) = 0 ∨ (0 : Int32) = 1) ∧ RD σ185.1 from by first | exact ⟨Or.inl rfl, hD⟩ | exact ⟨Or.inr rfl, hD⟩ | exact ⟨hqv184.1, hqv184.2⟩ | exact ⟨hqv184.1, hD⟩ | (have q := hqv184.1; first | exact ⟨Or.inl q, hD⟩ | exact ⟨Or.inr q, hD⟩))⟩
                      · refine ok_if (fun hc187 => ?_) (fun hc187 => ?_)
                        · refine ok_gC rfl ?_
                          refine ok_zbT (Q := fun V σ => V = 1 ∧ RD σ.1) hT (s_X5_emit hN (hR.tr hT) (by first | exact hX | exact hT.1.2 hX) (hD)) (by decide) (fun v188 σ189 hOσ189 hT hqv188 => ?_)
                          have hqv188 : v188 = 1 ∧ RD σ189.1 := hqv188
                          have hD : RD σ189.1 := by first | exact hqv188.2 | exact hqv188.2.1
                          exact ih14_4 (x2_4, x3_4 + 1, σ189) (show Tr [57, 58, 59] σ0 σ189 ∧ (0 ≤ (x3_4 + 1).toInt) ∧ (RD σ189.1) from ⟨hT, (by have q1 := hD.1; have q2 := hD.2.1; have q3 := hD0.1; have q4 := hD0.2.1; first | omega | decide | (simp only [Int32.le_iff_toInt_le, Int32.lt_iff_toInt_lt, ti_add, ti_sub, ti_mul, Int32.reduceToInt] at *; omega) | (exfalso; simp_all; done)), hD⟩) (show (601 - (x3_4 + 1).toInt).toNat < (601 - x3_4.toInt).toNat from (by have q1 := hD.1; have q2 := hD.2.1; have q3 := hD0.1; have q4 := hD0.2.1; first | omega | decide | (simp only [Int32.le_iff_toInt_le, Int32.lt_iff_toInt_lt, ti_add, ti_sub, ti_mul, Int32.reduceToInt] at *; omega) | (exfalso; simp_all; done)))
                        · exact ih14_4 (v23, x3_4 + 1, σ185) (show Tr [57, 58, 59] σ0 σ185 ∧ (0 ≤ (x3_4 + 1).toInt) ∧ (RD σ185.1) from ⟨hT, (by have q1 := hD.1; have q2 := hD.2.1; have q3 := hD0.1; have q4 := hD0.2.1; first | omega | decide | (simp only [Int32.le_iff_toInt_le, Int32.lt_iff_toInt_lt, ti_add, ti_sub, ti_mul, Int32.reduceToInt] at *; omega) | (exfalso; simp_all; done)), hD⟩) (show (601 - (x3_4 + 1).toInt).toNat < (601 - x3_4.toInt).toNat from (by have q1 := hD.1; have q2 := hD.2.1; have q3 := hD0.1; have q4 := hD0.2.1; first | omega | decide | (simp only [Int32.le_iff_toInt_le, Int32.lt_iff_toInt_lt, ti_add, ti_sub, ti_mul, Int32.reduceToInt] at *; omega) | (exfalso; simp_all; done)))
                · refine ok_if (fun hc190 => ?_) (fun hc190 => ?_)
                  · rw [J_X5_sum_84.eq_1]
                    refine ok_gI rfl ?_
                    refine ok_pI hT rfl (by decide) (fun σ192 eσ192 hOσ192 hT => ?_)
                    have hD : RD σ192.1 := RD_p eσ192 (fun q => absurd q (by decide)) (fun q => absurd q (by decide)) hD
                    refine ok_gI rfl ?_
                    refine ok_if (fun hc194 => ?_) (fun hc194 => ?_)
                    · rw [J_X5_sum_109.eq_1]
                      refine ok_gC rfl ?_
                      refine ok_zbT (Q := fun V σ => V = (0 : Int32) ∧ RD σ.1 ∧ (¬ (0 : Int32) = 0 → ¬ σ192.1 61 (Int32.toNatClampNeg (σ192.1 57 9)) = 0 → (σ.1 57 9).toInt = (σ192.1 57 9).toInt + 1)) hT (s_X5_advance hN (hR.tr hT) (by first | exact hX | exact hT.1.2 hX) (hD) (by first | exact Or.inl rfl | exact Or.inr rfl | assumption)) (by decide) (fun v195 σ196 hOσ196 hT hqv195 => ?_)
                      have hqv195 : v195 = (0 : Int32) ∧ RD σ196.1 ∧ (¬ (0 : Int32) = 0 → ¬ σ192.1 61 (Int32.toNatClampNeg (σ192.1 57 9)) = 0 → (σ196.1 57 9).toInt = (σ192.1 57 9).toInt + 1) := hqv195
                      have hD : RD σ196.1 := by first | exact hqv195.2 | exact hqv195.2.1
                      refine ok_if (fun hc197 => ?_) (fun hc197 => ?_)
                      · exact ok_rZ (Or.inl rfl) ⟨hT, (show ((0 : Int32) = 0 ∨ (0 : Int32) = 1) ∧ RD σ196.1 from by first | exact ⟨Or.inl rfl, hD⟩ | exact ⟨Or.inr rfl, hD⟩ | exact ⟨hqv195.1, hqv195.2⟩ | exact ⟨hqv195.1, hD⟩ | (have q := hqv195.1; first | exact ⟨Or.inl q, hD⟩ | exact ⟨Or.inr q, hD⟩))⟩
                      · refine ok_gC rfl ?_
                        refine ok_zbT (Q := fun V σ => (V = 0 ∨ V = 1) ∧ RD σ.1) hT (ih1 _ _ (hR.tr hT) (by first | exact hX | exact hT.1.2 hX) (hD) (by have q1 := hD.1; have q2 := hD.2.1; have q3 := hD0.1; have q4 := hD0.2.1; first | omega | decide | (simp only [Int32.le_iff_toInt_le, Int32.lt_iff_toInt_lt, ti_add, ti_sub, ti_mul, Int32.reduceToInt] at *; omega) | (exfalso; simp_all; done)) (by have q1 := hD.1; have q2 := hD.2.1; have q3 := hD0.1; have q4 := hD0.2.1; first | omega | decide | (simp only [Int32.le_iff_toInt_le, Int32.lt_iff_toInt_lt, ti_add, ti_sub, ti_mul, Int32.reduceToInt] at *; omega) | (exfalso; simp_all; done))) (by decide) (fun v198 σ199 hOσ199 hT hqv198 => ?_)
                        have hqv198 : (v198 = 0 ∨ v198 = 1) ∧ RD σ199.1 := hqv198
                        have hD : RD σ199.1 := by first | exact hqv198.2 | exact hqv198.2.1
                        refine ok_if (fun hc200 => ?_) (fun hc200 => ?_)
                        · exact ok_rZ (Or.inl rfl) ⟨hT, (show ((0 : Int32) = 0 ∨ (0 : Int32) = 1) ∧ RD σ199.1 from by first | exact ⟨Or.inl rfl, hD⟩ | exact ⟨Or.inr rfl, hD⟩ | exact ⟨hqv198.1, hqv198.2⟩ | exact ⟨hqv198.1, hD⟩ | (have q := hqv198.1; first | exact ⟨Or.inl q, hD⟩ | exact ⟨Or.inr q, hD⟩))⟩
                        · refine ok_if (fun hc201 => ?_) (fun hc201 => ?_)
                          · refine ok_gC rfl ?_
                            refine ok_zbT (Q := fun V σ => V = 1 ∧ RD σ.1) hT (s_X5_emit hN (hR.tr hT) (by first | exact hX | exact hT.1.2 hX) (hD)) (by decide) (fun v202 σ203 hOσ203 hT hqv202 => ?_)
                            have hqv202 : v202 = 1 ∧ RD σ203.1 := hqv202
                            have hD : RD σ203.1 := by first | exact hqv202.2 | exact hqv202.2.1
                            exact ih14_4 (x2_4, x3_4 + 1, σ203) (show Tr [57, 58, 59] σ0 σ203 ∧ (0 ≤ (x3_4 + 1).toInt) ∧ (RD σ203.1) from ⟨hT, (by have q1 := hD.1; have q2 := hD.2.1; have q3 := hD0.1; have q4 := hD0.2.1; first | omega | decide | (simp only [Int32.le_iff_toInt_le, Int32.lt_iff_toInt_lt, ti_add, ti_sub, ti_mul, Int32.reduceToInt] at *; omega) | (exfalso; simp_all; done)), hD⟩) (show (601 - (x3_4 + 1).toInt).toNat < (601 - x3_4.toInt).toNat from (by have q1 := hD.1; have q2 := hD.2.1; have q3 := hD0.1; have q4 := hD0.2.1; first | omega | decide | (simp only [Int32.le_iff_toInt_le, Int32.lt_iff_toInt_lt, ti_add, ti_sub, ti_mul, Int32.reduceToInt] at *; omega) | (exfalso; simp_all; done)))
                          · exact ih14_4 (v23, x3_4 + 1, σ199) (show Tr [57, 58, 59] σ0 σ199 ∧ (0 ≤ (x3_4 + 1).toInt) ∧ (RD σ199.1) from ⟨hT, (by have q1 := hD.1; have q2 := hD.2.1; have q3 := hD0.1; have q4 := hD0.2.1; first | omega | decide | (simp only [Int32.le_iff_toInt_le, Int32.lt_iff_toInt_lt, ti_add, ti_sub, ti_mul, Int32.reduceToInt] at *; omega) | (exfalso; simp_all; done)), hD⟩) (show (601 - (x3_4 + 1).toInt).toNat < (601 - x3_4.toInt).toNat from (by have q1 := hD.1; have q2 := hD.2.1; have q3 := hD0.1; have q4 := hD0.2.1; first | omega | decide | (simp only [Int32.le_iff_toInt_le, Int32.lt_iff_toInt_lt, ti_add, ti_sub, ti_mul, Int32.reduceToInt] at *; omega) | (exfalso; simp_all; done)))
                    · rw [J_X5_sum_109.eq_1]
                      refine ok_gC rfl ?_
                      refine ok_zbT (Q := fun V σ => V = (1 : Int32) ∧ RD σ.1 ∧ (¬ (1 : Int32) = 0 → ¬ σ192.1 61 (Int32.toNatClampNeg (σ192.1 57 9)) = 0 → (σ.1 57 9).toInt = (σ192.1 57 9).toInt + 1)) hT (s_X5_advance hN (hR.tr hT) (by first | exact hX | exact hT.1.2 hX) (hD) (by first | exact Or.inl rfl | exact Or.inr rfl | assumption)) (by decide) (fun v204 σ205 hOσ205 hT hqv204 => ?_)
                      have hqv204 : v204 = (1 : Int32) ∧ RD σ205.1 ∧ (¬ (1 : Int32) = 0 → ¬ σ192.1 61 (Int32.toNatClampNeg (σ192.1 57 9)) = 0 → (σ205.1 57 9).toInt = (σ192.1 57 9).toInt + 1) := hqv204
                      have hD : RD σ205.1 := by first | exact hqv204.2 | exact hqv204.2.1
                      refine ok_if (fun hc206 => ?_) (fun hc206 => ?_)
                      · exact ok_rZ (Or.inl rfl) ⟨hT, (show ((0 : Int32) = 0 ∨ (0 : Int32) = 1) ∧ RD σ205.1 from by first | exact ⟨Or.inl rfl, hD⟩ | exact ⟨Or.inr rfl, hD⟩ | exact ⟨hqv204.1, hqv204.2⟩ | exact ⟨hqv204.1, hD⟩ | (have q := hqv204.1; first | exact ⟨Or.inl q, hD⟩ | exact ⟨Or.inr q, hD⟩))⟩
                      · refine ok_gC rfl ?_
                        refine ok_zbT (Q := fun V σ => (V = 0 ∨ V = 1) ∧ RD σ.1) hT (ih1 _ _ (hR.tr hT) (by first | exact hX | exact hT.1.2 hX) (hD) (by have q1 := hD.1; have q2 := hD.2.1; have q3 := hD0.1; have q4 := hD0.2.1; first | omega | decide | (simp only [Int32.le_iff_toInt_le, Int32.lt_iff_toInt_lt, ti_add, ti_sub, ti_mul, Int32.reduceToInt] at *; omega) | (exfalso; simp_all; done)) (by have q1 := hD.1; have q2 := hD.2.1; have q3 := hD0.1; have q4 := hD0.2.1; first | omega | decide | (simp only [Int32.le_iff_toInt_le, Int32.lt_iff_toInt_lt, ti_add, ti_sub, ti_mul, Int32.reduceToInt] at *; omega) | (exfalso; simp_all; done))) (by decide) (fun v207 σ208 hOσ208 hT hqv207 => ?_)
                        have hqv207 : (v207 = 0 ∨ v207 = 1) ∧ RD σ208.1 := hqv207
                        have hD : RD σ208.1 := by first | exact hqv207.2 | exact hqv207.2.1
                        refine ok_if (fun hc209 => ?_) (fun hc209 => ?_)
                        · exact ok_rZ (Or.inl rfl) ⟨hT, (show ((0 : Int32) = 0 ∨ (0 : Int32) = 1) ∧ RD σ208.1 from by first | exact ⟨Or.inl rfl, hD⟩ | exact ⟨Or.inr rfl, hD⟩ | exact ⟨hqv207.1, hqv207.2⟩ | exact ⟨hqv207.1, hD⟩ | (have q := hqv207.1; first | exact ⟨Or.inl q, hD⟩ | exact ⟨Or.inr q, hD⟩))⟩
                        · refine ok_if (fun hc210 => ?_) (fun hc210 => ?_)
                          · refine ok_gC rfl ?_
                            refine ok_zbT (Q := fun V σ => V = 1 ∧ RD σ.1) hT (s_X5_emit hN (hR.tr hT) (by first | exact hX | exact hT.1.2 hX) (hD)) (by decide) (fun v211 σ212 hOσ212 hT hqv211 => ?_)
                            have hqv211 : v211 = 1 ∧ RD σ212.1 := hqv211
                            have hD : RD σ212.1 := by first | exact hqv211.2 | exact hqv211.2.1
                            exact ih14_4 (x2_4, x3_4 + 1, σ212) (show Tr [57, 58, 59] σ0 σ212 ∧ (0 ≤ (x3_4 + 1).toInt) ∧ (RD σ212.1) from ⟨hT, (by have q1 := hD.1; have q2 := hD.2.1; have q3 := hD0.1; have q4 := hD0.2.1; first | omega | decide | (simp only [Int32.le_iff_toInt_le, Int32.lt_iff_toInt_lt, ti_add, ti_sub, ti_mul, Int32.reduceToInt] at *; omega) | (exfalso; simp_all; done)), hD⟩) (show (601 - (x3_4 + 1).toInt).toNat < (601 - x3_4.toInt).toNat from (by have q1 := hD.1; have q2 := hD.2.1; have q3 := hD0.1; have q4 := hD0.2.1; first | omega | decide | (simp only [Int32.le_iff_toInt_le, Int32.lt_iff_toInt_lt, ti_add, ti_sub, ti_mul, Int32.reduceToInt] at *; omega) | (exfalso; simp_all; done)))
                          · exact ih14_4 (v23, x3_4 + 1, σ208) (show Tr [57, 58, 59] σ0 σ208 ∧ (0 ≤ (x3_4 + 1).toInt) ∧ (RD σ208.1) from ⟨hT, (by have q1 := hD.1; have q2 := hD.2.1; have q3 := hD0.1; have q4 := hD0.2.1; first | omega | decide | (simp only [Int32.le_iff_toInt_le, Int32.lt_iff_toInt_lt, ti_add, ti_sub, ti_mul, Int32.reduceToInt] at *; omega) | (exfalso; simp_all; done)), hD⟩) (show (601 - (x3_4 + 1).toInt).toNat < (601 - x3_4.toInt).toNat from (by have q1 := hD.1; have q2 := hD.2.1; have q3 := hD0.1; have q4 := hD0.2.1; first | omega | decide | (simp only [Int32.le_iff_toInt_le, Int32.lt_iff_toInt_lt, ti_add, ti_sub, ti_mul, Int32.reduceToInt] at *; omega) | (exfalso; simp_all; done)))
                  · refine ok_gC rfl ?_
                    refine ok_zbT (Q := fun V σ => V = 1 ∧ RD σ.1) hT (s_X5_emit hN (hR.tr hT) (by first | exact hX | exact hT.1.2 hX) (hD)) (by decide) (fun v213 σ214 hOσ214 hT hqv213 => ?_)
                    have hqv213 : v213 = 1 ∧ RD σ214.1 := hqv213
                    have hD : RD σ214.1 := by first | exact hqv213.2 | exact hqv213.2.1
                    rw [J_X5_sum_84.eq_1]
                    refine ok_gI rfl ?_
                    refine ok_pI hT rfl (by decide) (fun σ216 eσ216 hOσ216 hT => ?_)
                    have hD : RD σ216.1 := RD_p eσ216 (fun q => absurd q (by decide)) (fun q => absurd q (by decide)) hD
                    refine ok_gI rfl ?_
                    refine ok_if (fun hc218 => ?_) (fun hc218 => ?_)
                    · rw [J_X5_sum_109.eq_1]
                      refine ok_gC rfl ?_
                      refine ok_zbT (Q := fun V σ => V = (0 : Int32) ∧ RD σ.1 ∧ (¬ (0 : Int32) = 0 → ¬ σ216.1 61 (Int32.toNatClampNeg (σ216.1 57 9)) = 0 → (σ.1 57 9).toInt = (σ216.1 57 9).toInt + 1)) hT (s_X5_advance hN (hR.tr hT) (by first | exact hX | exact hT.1.2 hX) (hD) (by first | exact Or.inl rfl | exact Or.inr rfl | assumption)) (by decide) (fun v219 σ220 hOσ220 hT hqv219 => ?_)
                      have hqv219 : v219 = (0 : Int32) ∧ RD σ220.1 ∧ (¬ (0 : Int32) = 0 → ¬ σ216.1 61 (Int32.toNatClampNeg (σ216.1 57 9)) = 0 → (σ220.1 57 9).toInt = (σ216.1 57 9).toInt + 1) := hqv219
                      have hD : RD σ220.1 := by first | exact hqv219.2 | exact hqv219.2.1
                      refine ok_if (fun hc221 => ?_) (fun hc221 => ?_)
                      · exact ok_rZ (Or.inl rfl) ⟨hT, (show ((0 : Int32) = 0 ∨ (0 : Int32) = 1) ∧ RD σ220.1 from by first | exact ⟨Or.inl rfl, hD⟩ | exact ⟨Or.inr rfl, hD⟩ | exact ⟨hqv219.1, hqv219.2⟩ | exact ⟨hqv219.1, hD⟩ | (have q := hqv219.1; first | exact ⟨Or.inl q, hD⟩ | exact ⟨Or.inr q, hD⟩))⟩
                      · refine ok_gC rfl ?_
                        refine ok_zbT (Q := fun V σ => (V = 0 ∨ V = 1) ∧ RD σ.1) hT (ih1 _ _ (hR.tr hT) (by first | exact hX | exact hT.1.2 hX) (hD) (by have q1 := hD.1; have q2 := hD.2.1; have q3 := hD0.1; have q4 := hD0.2.1; first | omega | decide | (simp only [Int32.le_iff_toInt_le, Int32.lt_iff_toInt_lt, ti_add, ti_sub, ti_mul, Int32.reduceToInt] at *; omega) | (exfalso; simp_all; done)) (by have q1 := hD.1; have q2 := hD.2.1; have q3 := hD0.1; have q4 := hD0.2.1; first | omega | decide | (simp only [Int32.le_iff_toInt_le, Int32.lt_iff_toInt_lt, ti_add, ti_sub, ti_mul, Int32.reduceToInt] at *; omega) | (exfalso; simp_all; done))) (by decide) (fun v222 σ223 hOσ223 hT hqv222 => ?_)
                        have hqv222 : (v222 = 0 ∨ v222 = 1) ∧ RD σ223.1 := hqv222
                        have hD : RD σ223.1 := by first | exact hqv222.2 | exact hqv222.2.1
                        refine ok_if (fun hc224 => ?_) (fun hc224 => ?_)
                        · exact ok_rZ (Or.inl rfl) ⟨hT, (show ((0 : Int32) = 0 ∨ (0 : Int32) = 1) ∧ RD σ223.1 from by first | exact ⟨Or.inl rfl, hD⟩ | exact ⟨Or.inr rfl, hD⟩ | exact ⟨hqv222.1, hqv222.2⟩ | exact ⟨hqv222.1, hD⟩ | (have q := hqv222.1; first | exact ⟨Or.inl q, hD⟩ | exact ⟨Or.inr q, hD⟩))⟩
                        · refine ok_if (fun hc225 => ?_) (fun hc225 => ?_)
                          · refine ok_gC rfl ?_
                            refine ok_zbT (Q := fun V σ => V = 1 ∧ RD σ.1) hT (s_X5_emit hN (hR.tr hT) (by first | exact hX | exact hT.1.2 hX) (hD)) (by decide) (fun v226 σ227 hOσ227 hT hqv226 => ?_)
                            have hqv226 : v226 = 1 ∧ RD σ227.1 := hqv226
                            have hD : RD σ227.1 := by first | exact hqv226.2 | exact hqv226.2.1
                            exact ih14_4 (x2_4, x3_4 + 1, σ227) (show Tr [57, 58, 59] σ0 σ227 ∧ (0 ≤ (x3_4 + 1).toInt) ∧ (RD σ227.1) from ⟨hT, (by have q1 := hD.1; have q2 := hD.2.1; have q3 := hD0.1; have q4 := hD0.2.1; first | omega | decide | (simp only [Int32.le_iff_toInt_le, Int32.lt_iff_toInt_lt, ti_add, ti_sub, ti_mul, Int32.reduceToInt] at *; omega) | (exfalso; simp_all; done)), hD⟩) (show (601 - (x3_4 + 1).toInt).toNat < (601 - x3_4.toInt).toNat from (by have q1 := hD.1; have q2 := hD.2.1; have q3 := hD0.1; have q4 := hD0.2.1; first | omega | decide | (simp only [Int32.le_iff_toInt_le, Int32.lt_iff_toInt_lt, ti_add, ti_sub, ti_mul, Int32.reduceToInt] at *; omega) | (exfalso; simp_all; done)))
                          · exact ih14_4 (v23, x3_4 + 1, σ223) (show Tr [57, 58, 59] σ0 σ223 ∧ (0 ≤ (x3_4 + 1).toInt) ∧ (RD σ223.1) from ⟨hT, (by have q1 := hD.1; have q2 := hD.2.1; have q3 := hD0.1; have q4 := hD0.2.1; first | omega | decide | (simp only [Int32.le_iff_toInt_le, Int32.lt_iff_toInt_lt, ti_add, ti_sub, ti_mul, Int32.reduceToInt] at *; omega) | (exfalso; simp_all; done)), hD⟩) (show (601 - (x3_4 + 1).toInt).toNat < (601 - x3_4.toInt).toNat from (by have q1 := hD.1; have q2 := hD.2.1; have q3 := hD0.1; have q4 := hD0.2.1; first | omega | decide | (simp only [Int32.le_iff_toInt_le, Int32.lt_iff_toInt_lt, ti_add, ti_sub, ti_mul, Int32.reduceToInt] at *; omega) | (exfalso; simp_all; done)))
                    · rw [J_X5_sum_109.eq_1]
                      refine ok_gC rfl ?_
                      refine ok_zbT (Q := fun V σ => V = (1 : Int32) ∧ RD σ.1 ∧ (¬ (1 : Int32) = 0 → ¬ σ216.1 61 (Int32.toNatClampNeg (σ216.1 57 9)) = 0 → (σ.1 57 9).toInt = (σ216.1 57 9).toInt + 1)) hT (s_X5_advance hN (hR.tr hT) (by first | exact hX | exact hT.1.2 hX) (hD) (by first | exact Or.inl rfl | exact Or.inr rfl | assumption)) (by decide) (fun v228 σ229 hOσ229 hT hqv228 => ?_)
                      have hqv228 : v228 = (1 : Int32) ∧ RD σ229.1 ∧ (¬ (1 : Int32) = 0 → ¬ σ216.1 61 (Int32.toNatClampNeg (σ216.1 57 9)) = 0 → (σ229.1 57 9).toInt = (σ216.1 57 9).toInt + 1) := hqv228
                      have hD : RD σ229.1 := by first | exact hqv228.2 | exact hqv228.2.1
                      refine ok_if (fun hc230 => ?_) (fun hc230 => ?_)
                      · exact ok_rZ (Or.inl rfl) ⟨hT, (show ((0 : Int32) = 0 ∨ (0 : Int32) = 1) ∧ RD σ229.1 from by first | exact ⟨Or.inl rfl, hD⟩ | exact ⟨Or.inr rfl, hD⟩ | exact ⟨hqv228.1, hqv228.2⟩ | exact ⟨hqv228.1, hD⟩ | (have q := hqv228.1; first | exact ⟨Or.inl q, hD⟩ | exact ⟨Or.inr q, hD⟩))⟩
                      · refine ok_gC rfl ?_
                        refine ok_zbT (Q := fun V σ => (V = 0 ∨ V = 1) ∧ RD σ.1) hT (ih1 _ _ (hR.tr hT) (by first | exact hX | exact hT.1.2 hX) (hD) (by have q1 := hD.1; have q2 := hD.2.1; have q3 := hD0.1; have q4 := hD0.2.1; first | omega | decide | (simp only [Int32.le_iff_toInt_le, Int32.lt_iff_toInt_lt, ti_add, ti_sub, ti_mul, Int32.reduceToInt] at *; omega) | (exfalso; simp_all; done)) (by have q1 := hD.1; have q2 := hD.2.1; have q3 := hD0.1; have q4 := hD0.2.1; first | omega | decide | (simp only [Int32.le_iff_toInt_le, Int32.lt_iff_toInt_lt, ti_add, ti_sub, ti_mul, Int32.reduceToInt] at *; omega) | (exfalso; simp_all; done))) (by decide) (fun v231 σ232 hOσ232 hT hqv231 => ?_)
                        have hqv231 : (v231 = 0 ∨ v231 = 1) ∧ RD σ232.1 := hqv231
                        have hD : RD σ232.1 := by first | exact hqv231.2 | exact hqv231.2.1
                        refine ok_if (fun hc233 => ?_) (fun hc233 => ?_)
                        · exact ok_rZ (Or.inl rfl) ⟨hT, (show ((0 : Int32) = 0 ∨ (0 : Int32) = 1) ∧ RD σ232.1 from by first | exact ⟨Or.inl rfl, hD⟩ | exact ⟨Or.inr rfl, hD⟩ | exact ⟨hqv231.1, hqv231.2⟩ | exact ⟨hqv231.1, hD⟩ | (have q := hqv231.1; first | exact ⟨Or.inl q, hD⟩ | exact ⟨Or.inr q, hD⟩))⟩
                        · refine ok_if (fun hc234 => ?_) (fun hc234 => ?_)
                          · refine ok_gC rfl ?_
                            refine ok_zbT (Q := fun V σ => V = 1 ∧ RD σ.1) hT (s_X5_emit hN (hR.tr hT) (by first | exact hX | exact hT.1.2 hX) (hD)) (by decide) (fun v235 σ236 hOσ236 hT hqv235 => ?_)
                            have hqv235 : v235 = 1 ∧ RD σ236.1 := hqv235
                            have hD : RD σ236.1 := by first | exact hqv235.2 | exact hqv235.2.1
                            exact ih14_4 (x2_4, x3_4 + 1, σ236) (show Tr [57, 58, 59] σ0 σ236 ∧ (0 ≤ (x3_4 + 1).toInt) ∧ (RD σ236.1) from ⟨hT, (by have q1 := hD.1; have q2 := hD.2.1; have q3 := hD0.1; have q4 := hD0.2.1; first | omega | decide | (simp only [Int32.le_iff_toInt_le, Int32.lt_iff_toInt_lt, ti_add, ti_sub, ti_mul, Int32.reduceToInt] at *; omega) | (exfalso; simp_all; done)), hD⟩) (show (601 - (x3_4 + 1).toInt).toNat < (601 - x3_4.toInt).toNat from (by have q1 := hD.1; have q2 := hD.2.1; have q3 := hD0.1; have q4 := hD0.2.1; first | omega | decide | (simp only [Int32.le_iff_toInt_le, Int32.lt_iff_toInt_lt, ti_add, ti_sub, ti_mul, Int32.reduceToInt] at *; omega) | (exfalso; simp_all; done)))
                          · exact ih14_4 (v23, x3_4 + 1, σ232) (show Tr [57, 58, 59] σ0 σ232 ∧ (0 ≤ (x3_4 + 1).toInt) ∧ (RD σ232.1) from ⟨hT, (by have q1 := hD.1; have q2 := hD.2.1; have q3 := hD0.1; have q4 := hD0.2.1; first | omega | decide | (simp only [Int32.le_iff_toInt_le, Int32.lt_iff_toInt_lt, ti_add, ti_sub, ti_mul, Int32.reduceToInt] at *; omega) | (exfalso; simp_all; done)), hD⟩) (show (601 - (x3_4 + 1).toInt).toNat < (601 - x3_4.toInt).toNat from (by have q1 := hD.1; have q2 := hD.2.1; have q3 := hD0.1; have q4 := hD0.2.1; first | omega | decide | (simp only [Int32.le_iff_toInt_le, Int32.lt_iff_toInt_lt, ti_add, ti_sub, ti_mul, Int32.reduceToInt] at *; omega) | (exfalso; simp_all; done)))
    · intro x1 σ0 hR hX hD hd hm
      show Ok (B_X5_part N (f_X5_sum N dd) (f_X5_part N dd) (f_X5_wordPart N dd) 57 x1 σ0) _
      have hT : Tr [57, 58, 59] σ0 σ0 := Tr.rf
      have hD0 := hD
      rw [B_X5_part.eq_1]
      refine ok_gR (v := 61) hT rfl (hR 57 10 rfl) ?_
      refine ok_gI rfl ?_
      refine ok_aIn rfl (by have q1 := hD.1; have q2 := hD.2.1; have q3 := hD0.1; have q4 := hD0.2.1; first | omega | decide | (simp only [Int32.le_iff_toInt_le, Int32.lt_iff_toInt_lt, ti_add, ti_sub, ti_mul, Int32.reduceToInt] at *; omega) | (exfalso; simp_all; done)) (by have q1 := hD.1; have q2 := hD.2.1; have q3 := hD0.1; have q4 := hD0.2.1; first | omega | decide | (simp only [Int32.le_iff_toInt_le, Int32.lt_iff_toInt_lt, ti_add, ti_sub, ti_mul, Int32.reduceToInt] at *; omega) | (exfalso; simp_all; done)) (fun v3 ev3 => ?_)
      refine ok_if (fun hc4 => ?_) (fun hc4 => ?_)
      · refine ok_gR (v := 62) hT rfl (hR 57 11 rfl) ?_
        refine ok_gI rfl ?_
        refine ok_aIn rfl (by have q1 := hD.1; have q2 := hD.2.1; have q3 := hD0.1; have q4 := hD0.2.1; first | omega | decide | (simp only [Int32.le_iff_toInt_le, Int32.lt_iff_toInt_lt, ti_add, ti_sub, ti_mul, Int32.reduceToInt] at *; omega) | (exfalso; simp_all; done)) (by have q1 := hD.1; have q2 := hD.2.1; have q3 := hD0.1; have q4 := hD0.2.1; first | omega | decide | (simp only [Int32.le_iff_toInt_le, Int32.lt_iff_toInt_lt, ti_add, ti_sub, ti_mul, Int32.reduceToInt] at *; omega) | (exfalso; simp_all; done)) (fun v7 ev7 => ?_)
        refine ok_gC rfl ?_
        refine ok_zbT (Q := fun V σ => (V = 0 ∨ V = 1) ∧ RD σ.1) hT (ih2 _ _ _ (hR.tr hT) (by first | exact hX | exact hT.1.2 hX) (hD) (by have q1 := hD.1; have q2 := hD.2.1; have q3 := hD0.1; have q4 := hD0.2.1; first | omega | decide | (simp only [Int32.le_iff_toInt_le, Int32.lt_iff_toInt_lt, ti_add, ti_sub, ti_mul, Int32.reduceToInt] at *; omega) | (exfalso; simp_all; done)) (by have q1 := hD.1; have q2 := hD.2.1; have q3 := hD0.1; have q4 := hD0.2.1; first | omega | decide | (simp only [Int32.le_iff_toInt_le, Int32.lt_iff_toInt_lt, ti_add, ti_sub, ti_mul, Int32.reduceToInt] at *; omega) | (exfalso; simp_all; done))) (by decide) (fun v8 σ9 hOσ9 hT hqv8 => ?_)
        have hqv8 : (v8 = 0 ∨ v8 = 1) ∧ RD σ9.1 := hqv8
        have hD : RD σ9.1 := by first | exact hqv8.2 | exact hqv8.2.1
        exact ok_rZ (by have q := hqv8.1; first | exact q | exact Or.inl q | exact Or.inr q) ⟨hT, (show (v8 = 0 ∨ v8 = 1) ∧ RD σ9.1 from by first | exact ⟨Or.inl rfl, hD⟩ | exact ⟨Or.inr rfl, hD⟩ | exact ⟨hqv8.1, hqv8.2⟩ | exact ⟨hqv8.1, hD⟩ | (have q := hqv8.1; first | exact ⟨Or.inl q, hD⟩ | exact ⟨Or.inr q, hD⟩))⟩
      refine ok_if (fun hc10 => ?_) (fun hc10 => ?_)
      · refine ok_gC rfl ?_
        refine ok_zbT (Q := fun V σ => (V = 0 ∨ V = 1) ∧ RD σ.1 ∧ (¬ V = 0 → 1 ≤ (σ.1 57 9).toInt ∧ (0 : Int32).toInt ≤ (lastv σ.1).toInt ∧ (lastv σ.1).toInt ≤ (9 : Int32).toInt)) hT (s_X5_passNumber hN (hR.tr hT) (by first | exact hX | exact hT.1.2 hX) (hD)) (by decide) (fun v11 σ12 hOσ12 hT hqv11 => ?_)
        have hqv11 : (v11 = 0 ∨ v11 = 1) ∧ RD σ12.1 ∧ (¬ v11 = 0 → 1 ≤ (σ12.1 57 9).toInt ∧ (0 : Int32).toInt ≤ (lastv σ12.1).toInt ∧ (lastv σ12.1).toInt ≤ (9 : Int32).toInt) := hqv11
        have hD : RD σ12.1 := by first | exact hqv11.2 | exact hqv11.2.1
        refine ok_if (fun hc13 => ?_) (fun hc13 => ?_)
        · exact ok_rZ (Or.inl rfl) ⟨hT, (show ((0 : Int32) = 0 ∨ (0 : Int32) = 1) ∧ RD σ12.1 from by first | exact ⟨Or.inl rfl, hD⟩ | exact ⟨Or.inr rfl, hD⟩ | exact ⟨hqv11.1, hqv11.2⟩ | exact ⟨hqv11.1, hD⟩ | (have q := hqv11.1; first | exact ⟨Or.inl q, hD⟩ | exact ⟨Or.inr q, hD⟩))⟩
        · refine ok_gC rfl ?_
          refine ok_zbT (Q := fun V σ => 1 ≤ (σ12.1 57 9).toInt → V = lastv σ12.1) hT (s_X5_passed hN (hR.tr hT) (by first | exact hX | exact hT.1.2 hX) (hD)) (fun _ h9 => absurd h9 List.not_mem_nil) (fun v14 σ15 hOσ15 hT hqv14 => ?_)
          have hqv14 : 1 ≤ (σ12.1 57 9).toInt → v14 = lastv σ12.1 := hqv14
          have hD : RD σ15.1 := RD.tr hOσ15 (by decide) (by decide) (by decide) (by decide) hD
          refine ok_gC rfl ?_
          refine ok_zbT (Q := fun V σ => V = 1 ∧ RD σ.1) hT (s_X5_emit hN (hR.tr hT) (by first | exact hX | exact hT.1.2 hX) (hD)) (by decide) (fun v16 σ17 hOσ17 hT hqv16 => ?_)
          have hqv16 : v16 = 1 ∧ RD σ17.1 := hqv16
          have hD : RD σ17.1 := by first | exact hqv16.2 | exact hqv16.2.1
          refine ok_if (fun hc18 => ?_) (fun hc18 => ?_)
          · exact ok_rZ (Or.inl rfl) ⟨hT, (show ((0 : Int32) = 0 ∨ (0 : Int32) = 1) ∧ RD σ17.1 from by first | exact ⟨Or.inl rfl, hD⟩ | exact ⟨Or.inr rfl, hD⟩ | exact ⟨hqv16.1, hqv16.2⟩ | exact ⟨hqv16.1, hD⟩ | (have q := hqv16.1; first | exact ⟨Or.inl q, hD⟩ | exact ⟨Or.inr q, hD⟩))⟩
          · exact ok_rZ (Or.inr rfl) ⟨hT, (show ((1 : Int32) = 0 ∨ (1 : Int32) = 1) ∧ RD σ17.1 from by first | exact ⟨Or.inl rfl, hD⟩ | exact ⟨Or.inr rfl, hD⟩ | exact ⟨hqv16.1, hqv16.2⟩ | exact ⟨hqv16.1, hD⟩ | (have q := hqv16.1; first | exact ⟨Or.inl q, hD⟩ | exact ⟨Or.inr q, hD⟩))⟩
      refine ok_if (fun hc19 => ?_) (fun hc19 => ?_)
      · refine ok_if (fun hc20 => ?_) (fun hc20 => ?_)
        · rw [J_X5_part_97.eq_1]
          refine ok_gC rfl ?_
          refine ok_zbT (Q := fun V σ => V = (0 : Int32) ∧ RD σ.1 ∧ (¬ (0 : Int32) = 0 → ¬ σ0.1 61 (Int32.toNatClampNeg (σ0.1 57 9)) = 0 → (σ.1 57 9).toInt = (σ0.1 57 9).toInt + 1)) hT (s_X5_advance hN (hR.tr hT) (by first | exact hX | exact hT.1.2 hX) (hD) (by first | exact Or.inl rfl | exact Or.inr rfl | assumption)) (by decide) (fun v21 σ22 hOσ22 hT hqv21 => ?_)
          have hqv21 : v21 = (0 : Int32) ∧ RD σ22.1 ∧ (¬ (0 : Int32) = 0 → ¬ σ0.1 61 (Int32.toNatClampNeg (σ0.1 57 9)) = 0 → (σ22.1 57 9).toInt = (σ0.1 57 9).toInt + 1) := hqv21
          have hD : RD σ22.1 := by first | exact hqv21.2 | exact hqv21.2.1
          refine ok_if (fun hc23 => ?_) (fun hc23 => ?_)
          · exact ok_rZ (Or.inl rfl) ⟨hT, (show ((0 : Int32) = 0 ∨ (0 : Int32) = 1) ∧ RD σ22.1 from by first | exact ⟨Or.inl rfl, hD⟩ | exact ⟨Or.inr rfl, hD⟩ | exact ⟨hqv21.1, hqv21.2⟩ | exact ⟨hqv21.1, hD⟩ | (have q := hqv21.1; first | exact ⟨Or.inl q, hD⟩ | exact ⟨Or.inr q, hD⟩))⟩
          · refine ok_gC rfl ?_
            refine ok_zbT (Q := fun V σ => (V = 0 ∨ V = 1) ∧ RD σ.1) hT (ih0 _ _ (hR.tr hT) (by first | exact hX | exact hT.1.2 hX) (hD) (by have q1 := hD.1; have q2 := hD.2.1; have q3 := hD0.1; have q4 := hD0.2.1; first | omega | decide | (simp only [Int32.le_iff_toInt_le, Int32.lt_iff_toInt_lt, ti_add, ti_sub, ti_mul, Int32.reduceToInt] at *; omega) | (exfalso; simp_all; done)) (by have q1 := hD.1; have q2 := hD.2.1; have q3 := hD0.1; have q4 := hD0.2.1; first | omega | decide | (simp only [Int32.le_iff_toInt_le, Int32.lt_iff_toInt_lt, ti_add, ti_sub, ti_mul, Int32.reduceToInt] at *; omega) | (exfalso; simp_all; done))) (by decide) (fun v24 σ25 hOσ25 hT hqv24 => ?_)
            have hqv24 : (v24 = 0 ∨ v24 = 1) ∧ RD σ25.1 := hqv24
            have hD : RD σ25.1 := by first | exact hqv24.2 | exact hqv24.2.1
            refine ok_if (fun hc26 => ?_) (fun hc26 => ?_)
            · exact ok_rZ (Or.inl rfl) ⟨hT, (show ((0 : Int32) = 0 ∨ (0 : Int32) = 1) ∧ RD σ25.1 from by first | exact ⟨Or.inl rfl, hD⟩ | exact ⟨Or.inr rfl, hD⟩ | exact ⟨hqv24.1, hqv24.2⟩ | exact ⟨hqv24.1, hD⟩ | (have q := hqv24.1; first | exact ⟨Or.inl q, hD⟩ | exact ⟨Or.inr q, hD⟩))⟩
            · refine ok_gC rfl ?_
              refine ok_zbT (Q := fun V σ => (V = 0 ∨ V = 1) ∧ RD σ.1) hT (s_X5_pass hN (hR.tr hT) (by first | exact hX | exact hT.1.2 hX) (hD)) (by decide) (fun v27 σ28 hOσ28 hT hqv27 => ?_)
              have hqv27 : (v27 = 0 ∨ v27 = 1) ∧ RD σ28.1 := hqv27
              have hD : RD σ28.1 := by first | exact hqv27.2 | exact hqv27.2.1
              refine ok_if (fun hc29 => ?_) (fun hc29 => ?_)
              · exact ok_rZ (Or.inl rfl) ⟨hT, (show ((0 : Int32) = 0 ∨ (0 : Int32) = 1) ∧ RD σ28.1 from by first | exact ⟨Or.inl rfl, hD⟩ | exact ⟨Or.inr rfl, hD⟩ | exact ⟨hqv27.1, hqv27.2⟩ | exact ⟨hqv27.1, hD⟩ | (have q := hqv27.1; first | exact ⟨Or.inl q, hD⟩ | exact ⟨Or.inr q, hD⟩))⟩
              · exact ok_rZ (Or.inr rfl) ⟨hT, (show ((1 : Int32) = 0 ∨ (1 : Int32) = 1) ∧ RD σ28.1 from by first | exact ⟨Or.inl rfl, hD⟩ | exact ⟨Or.inr rfl, hD⟩ | exact ⟨hqv27.1, hqv27.2⟩ | exact ⟨hqv27.1, hD⟩ | (have q := hqv27.1; first | exact ⟨Or.inl q, hD⟩ | exact ⟨Or.inr q, hD⟩))⟩
        · rw [J_X5_part_97.eq_1]
          refine ok_gC rfl ?_
          refine ok_zbT (Q := fun V σ => V = (1 : Int32) ∧ RD σ.1 ∧ (¬ (1 : Int32) = 0 → ¬ σ0.1 61 (Int32.toNatClampNeg (σ0.1 57 9)) = 0 → (σ.1 57 9).toInt = (σ0.1 57 9).toInt + 1)) hT (s_X5_advance hN (hR.tr hT) (by first | exact hX | exact hT.1.2 hX) (hD) (by first | exact Or.inl rfl | exact Or.inr rfl | assumption)) (by decide) (fun v30 σ31 hOσ31 hT hqv30 => ?_)
          have hqv30 : v30 = (1 : Int32) ∧ RD σ31.1 ∧ (¬ (1 : Int32) = 0 → ¬ σ0.1 61 (Int32.toNatClampNeg (σ0.1 57 9)) = 0 → (σ31.1 57 9).toInt = (σ0.1 57 9).toInt + 1) := hqv30
          have hD : RD σ31.1 := by first | exact hqv30.2 | exact hqv30.2.1
          refine ok_if (fun hc32 => ?_) (fun hc32 => ?_)
          · exact ok_rZ (Or.inl rfl) ⟨hT, (show ((0 : Int32) = 0 ∨ (0 : Int32) = 1) ∧ RD σ31.1 from by first | exact ⟨Or.inl rfl, hD⟩ | exact ⟨Or.inr rfl, hD⟩ | exact ⟨hqv30.1, hqv30.2⟩ | exact ⟨hqv30.1, hD⟩ | (have q := hqv30.1; first | exact ⟨Or.inl q, hD⟩ | exact ⟨Or.inr q, hD⟩))⟩
          · refine ok_gC rfl ?_
            refine ok_zbT (Q := fun V σ => (V = 0 ∨ V = 1) ∧ RD σ.1) hT (ih0 _ _ (hR.tr hT) (by first | exact hX | exact hT.1.2 hX) (hD) (by have q1 := hD.1; have q2 := hD.2.1; have q3 := hD0.1; have q4 := hD0.2.1; first | omega | decide | (simp only [Int32.le_iff_toInt_le, Int32.lt_iff_toInt_lt, ti_add, ti_sub, ti_mul, Int32.reduceToInt] at *; omega) | (exfalso; simp_all; done)) (by have q1 := hD.1; have q2 := hD.2.1; have q3 := hD0.1; have q4 := hD0.2.1; first | omega | decide | (simp only [Int32.le_iff_toInt_le, Int32.lt_iff_toInt_lt, ti_add, ti_sub, ti_mul, Int32.reduceToInt] at *; omega) | (exfalso; simp_all; done))) (by decide) (fun v33 σ34 hOσ34 hT hqv33 => ?_)
            have hqv33 : (v33 = 0 ∨ v33 = 1) ∧ RD σ34.1 := hqv33
            have hD : RD σ34.1 := by first | exact hqv33.2 | exact hqv33.2.1
            refine ok_if (fun hc35 => ?_) (fun hc35 => ?_)
            · exact ok_rZ (Or.inl rfl) ⟨hT, (show ((0 : Int32) = 0 ∨ (0 : Int32) = 1) ∧ RD σ34.1 from by first | exact ⟨Or.inl rfl, hD⟩ | exact ⟨Or.inr rfl, hD⟩ | exact ⟨hqv33.1, hqv33.2⟩ | exact ⟨hqv33.1, hD⟩ | (have q := hqv33.1; first | exact ⟨Or.inl q, hD⟩ | exact ⟨Or.inr q, hD⟩))⟩
            · refine ok_gC rfl ?_
              refine ok_zbT (Q := fun V σ => (V = 0 ∨ V = 1) ∧ RD σ.1) hT (s_X5_pass hN (hR.tr hT) (by first | exact hX | exact hT.1.2 hX) (hD)) (by decide) (fun v36 σ37 hOσ37 hT hqv36 => ?_)
              have hqv36 : (v36 = 0 ∨ v36 = 1) ∧ RD σ37.1 := hqv36
              have hD : RD σ37.1 := by first | exact hqv36.2 | exact hqv36.2.1
              refine ok_if (fun hc38 => ?_) (fun hc38 => ?_)
              · exact ok_rZ (Or.inl rfl) ⟨hT, (show ((0 : Int32) = 0 ∨ (0 : Int32) = 1) ∧ RD σ37.1 from by first | exact ⟨Or.inl rfl, hD⟩ | exact ⟨Or.inr rfl, hD⟩ | exact ⟨hqv36.1, hqv36.2⟩ | exact ⟨hqv36.1, hD⟩ | (have q := hqv36.1; first | exact ⟨Or.inl q, hD⟩ | exact ⟨Or.inr q, hD⟩))⟩
              · exact ok_rZ (Or.inr rfl) ⟨hT, (show ((1 : Int32) = 0 ∨ (1 : Int32) = 1) ∧ RD σ37.1 from by first | exact ⟨Or.inl rfl, hD⟩ | exact ⟨Or.inr rfl, hD⟩ | exact ⟨hqv36.1, hqv36.2⟩ | exact ⟨hqv36.1, hD⟩ | (have q := hqv36.1; first | exact ⟨Or.inl q, hD⟩ | exact ⟨Or.inr q, hD⟩))⟩
      refine ok_if (fun hc39 => ?_) (fun hc39 => ?_)
      · refine ok_gC rfl ?_
        refine ok_zbT (Q := fun V σ => (V = 0 ∨ V = 1) ∧ RD σ.1) hT (s_X5_family hN (hR.tr hT) (by first | exact hX | exact hT.1.2 hX) (hD)) (by decide) (fun v40 σ41 hOσ41 hT hqv40 => ?_)
        have hqv40 : (v40 = 0 ∨ v40 = 1) ∧ RD σ41.1 := hqv40
        have hD : RD σ41.1 := by first | exact hqv40.2 | exact hqv40.2.1
        exact ok_rZ (by have q := hqv40.1; first | exact q | exact Or.inl q | exact Or.inr q) ⟨hT, (show (v40 = 0 ∨ v40 = 1) ∧ RD σ41.1 from by first | exact ⟨Or.inl rfl, hD⟩ | exact ⟨Or.inr rfl, hD⟩ | exact ⟨hqv40.1, hqv40.2⟩ | exact ⟨hqv40.1, hD⟩ | (have q := hqv40.1; first | exact ⟨Or.inl q, hD⟩ | exact ⟨Or.inr q, hD⟩))⟩
      refine ok_gC rfl ?_
      refine ok_zbT (Q := fun V σ => V = 0 ∧ RD σ.1) hT (s_X5_fail hN (hR.tr hT) (by first | exact hX | exact hT.1.2 hX) (hD)) (by decide) (fun v42 σ43 hOσ43 hT hqv42 => ?_)
      have hqv42 : v42 = 0 ∧ RD σ43.1 := hqv42
      have hD : RD σ43.1 := by first | exact hqv42.2 | exact hqv42.2.1
      exact ok_rZ (by have q := hqv42.1; first | exact q | exact Or.inl q | exact Or.inr q) ⟨hT, (show (v42 = 0 ∨ v42 = 1) ∧ RD σ43.1 from by first | exact ⟨Or.inl rfl, hD⟩ | exact ⟨Or.inr rfl, hD⟩ | exact ⟨hqv42.1, hqv42.2⟩ | exact ⟨hqv42.1, hD⟩ | (have q := hqv42.1; first | exact ⟨Or.inl q, hD⟩ | exact ⟨Or.inr q, hD⟩))⟩
    · intro x1 x2 σ0 hR hX hD hd hm
      show Ok (B_X5_wordPart N (f_X5_sum N dd) (f_X5_part N dd) (f_X5_wordPart N dd) 57 x1 x2 σ0) _
      have hT : Tr [57, 58, 59] σ0 σ0 := Tr.rf
      have hD0 := hD
      rw [B_X5_wordPart.eq_1]
      refine ok_if (fun hc1 => ?_) (fun hc1 => ?_)
      · refine ok_gC rfl ?_
        refine ok_zbT (Q := fun V σ => (V = 0 ∨ V = 1) ∧ RD σ.1) hT (s_X5_pass hN (hR.tr hT) (by first | exact hX | exact hT.1.2 hX) (hD)) (by decide) (fun v2 σ3 hOσ3 hT hqv2 => ?_)
        have hqv2 : (v2 = 0 ∨ v2 = 1) ∧ RD σ3.1 := hqv2
        have hD : RD σ3.1 := by first | exact hqv2.2 | exact hqv2.2.1
        refine ok_if (fun hc4 => ?_) (fun hc4 => ?_)
        · exact ok_rZ (Or.inl rfl) ⟨hT, (show ((0 : Int32) = 0 ∨ (0 : Int32) = 1) ∧ RD σ3.1 from by first | exact ⟨Or.inl rfl, hD⟩ | exact ⟨Or.inr rfl, hD⟩ | exact ⟨hqv2.1, hqv2.2⟩ | exact ⟨hqv2.1, hD⟩ | (have q := hqv2.1; first | exact ⟨Or.inl q, hD⟩ | exact ⟨Or.inr q, hD⟩))⟩
        · refine ok_gC rfl ?_
          refine ok_zbT (Q := fun V σ => V = 1 ∧ RD σ.1) hT (s_X5_emit hN (hR.tr hT) (by first | exact hX | exact hT.1.2 hX) (hD)) (by decide) (fun v5 σ6 hOσ6 hT hqv5 => ?_)
          have hqv5 : v5 = 1 ∧ RD σ6.1 := hqv5
          have hD : RD σ6.1 := by first | exact hqv5.2 | exact hqv5.2.1
          refine ok_if (fun hc7 => ?_) (fun hc7 => ?_)
          · exact ok_rZ (Or.inl rfl) ⟨hT, (show ((0 : Int32) = 0 ∨ (0 : Int32) = 1) ∧ RD σ6.1 from by first | exact ⟨Or.inl rfl, hD⟩ | exact ⟨Or.inr rfl, hD⟩ | exact ⟨hqv5.1, hqv5.2⟩ | exact ⟨hqv5.1, hD⟩ | (have q := hqv5.1; first | exact ⟨Or.inl q, hD⟩ | exact ⟨Or.inr q, hD⟩))⟩
          · exact ok_rZ (Or.inr rfl) ⟨hT, (show ((1 : Int32) = 0 ∨ (1 : Int32) = 1) ∧ RD σ6.1 from by first | exact ⟨Or.inl rfl, hD⟩ | exact ⟨Or.inr rfl, hD⟩ | exact ⟨hqv5.1, hqv5.2⟩ | exact ⟨hqv5.1, hD⟩ | (have q := hqv5.1; first | exact ⟨Or.inl q, hD⟩ | exact ⟨Or.inr q, hD⟩))⟩
      · refine ok_if (fun hc8 => ?_) (fun hc8 => ?_)
        · refine ok_if (fun hc9 => ?_) (fun hc9 => ?_)
          · rw [J_X5_wordPart_52.eq_1]
            refine ok_gC rfl ?_
            refine ok_zbT (Q := fun V σ => V = (0 : Int32) ∧ RD σ.1 ∧ (¬ (0 : Int32) = 0 → ¬ σ0.1 61 (Int32.toNatClampNeg (σ0.1 57 9)) = 0 → (σ.1 57 9).toInt = (σ0.1 57 9).toInt + 1)) hT (s_X5_advance hN (hR.tr hT) (by first | exact hX | exact hT.1.2 hX) (hD) (by first | exact Or.inl rfl | exact Or.inr rfl | assumption)) (by decide) (fun v10 σ11 hOσ11 hT hqv10 => ?_)
            have hqv10 : v10 = (0 : Int32) ∧ RD σ11.1 ∧ (¬ (0 : Int32) = 0 → ¬ σ0.1 61 (Int32.toNatClampNeg (σ0.1 57 9)) = 0 → (σ11.1 57 9).toInt = (σ0.1 57 9).toInt + 1) := hqv10
            have hD : RD σ11.1 := by first | exact hqv10.2 | exact hqv10.2.1
            refine ok_if (fun hc12 => ?_) (fun hc12 => ?_)
            · exact ok_rZ (Or.inl rfl) ⟨hT, (show ((0 : Int32) = 0 ∨ (0 : Int32) = 1) ∧ RD σ11.1 from by first | exact ⟨Or.inl rfl, hD⟩ | exact ⟨Or.inr rfl, hD⟩ | exact ⟨hqv10.1, hqv10.2⟩ | exact ⟨hqv10.1, hD⟩ | (have q := hqv10.1; first | exact ⟨Or.inl q, hD⟩ | exact ⟨Or.inr q, hD⟩))⟩
            · refine ok_gC rfl ?_
              refine ok_zbT (Q := fun V σ => (V = 0 ∨ V = 1) ∧ RD σ.1) hT (ih1 _ _ (hR.tr hT) (by first | exact hX | exact hT.1.2 hX) (hD) (by have q1 := hD.1; have q2 := hD.2.1; have q3 := hD0.1; have q4 := hD0.2.1; first | omega | decide | (simp only [Int32.le_iff_toInt_le, Int32.lt_iff_toInt_lt, ti_add, ti_sub, ti_mul, Int32.reduceToInt] at *; omega) | (exfalso; simp_all; done)) (by have q1 := hD.1; have q2 := hD.2.1; have q3 := hD0.1; have q4 := hD0.2.1; first | omega | decide | (simp only [Int32.le_iff_toInt_le, Int32.lt_iff_toInt_lt, ti_add, ti_sub, ti_mul, Int32.reduceToInt] at *; omega) | (exfalso; simp_all; done))) (by decide) (fun v13 σ14 hOσ14 hT hqv13 => ?_)
              have hqv13 : (v13 = 0 ∨ v13 = 1) ∧ RD σ14.1 := hqv13
              have hD : RD σ14.1 := by first | exact hqv13.2 | exact hqv13.2.1
              refine ok_if (fun hc15 => ?_) (fun hc15 => ?_)
              · exact ok_rZ (Or.inl rfl) ⟨hT, (show ((0 : Int32) = 0 ∨ (0 : Int32) = 1) ∧ RD σ14.1 from by first | exact ⟨Or.inl rfl, hD⟩ | exact ⟨Or.inr rfl, hD⟩ | exact ⟨hqv13.1, hqv13.2⟩ | exact ⟨hqv13.1, hD⟩ | (have q := hqv13.1; first | exact ⟨Or.inl q, hD⟩ | exact ⟨Or.inr q, hD⟩))⟩
              · refine ok_gC rfl ?_
                refine ok_zbT (Q := fun V σ => V = 1 ∧ RD σ.1) hT (s_X5_emit hN (hR.tr hT) (by first | exact hX | exact hT.1.2 hX) (hD)) (by decide) (fun v16 σ17 hOσ17 hT hqv16 => ?_)
                have hqv16 : v16 = 1 ∧ RD σ17.1 := hqv16
                have hD : RD σ17.1 := by first | exact hqv16.2 | exact hqv16.2.1
                refine ok_if (fun hc18 => ?_) (fun hc18 => ?_)
                · exact ok_rZ (Or.inl rfl) ⟨hT, (show ((0 : Int32) = 0 ∨ (0 : Int32) = 1) ∧ RD σ17.1 from by first | exact ⟨Or.inl rfl, hD⟩ | exact ⟨Or.inr rfl, hD⟩ | exact ⟨hqv16.1, hqv16.2⟩ | exact ⟨hqv16.1, hD⟩ | (have q := hqv16.1; first | exact ⟨Or.inl q, hD⟩ | exact ⟨Or.inr q, hD⟩))⟩
                · exact ok_rZ (Or.inr rfl) ⟨hT, (show ((1 : Int32) = 0 ∨ (1 : Int32) = 1) ∧ RD σ17.1 from by first | exact ⟨Or.inl rfl, hD⟩ | exact ⟨Or.inr rfl, hD⟩ | exact ⟨hqv16.1, hqv16.2⟩ | exact ⟨hqv16.1, hD⟩ | (have q := hqv16.1; first | exact ⟨Or.inl q, hD⟩ | exact ⟨Or.inr q, hD⟩))⟩
          · rw [J_X5_wordPart_52.eq_1]
            refine ok_gC rfl ?_
            refine ok_zbT (Q := fun V σ => V = (1 : Int32) ∧ RD σ.1 ∧ (¬ (1 : Int32) = 0 → ¬ σ0.1 61 (Int32.toNatClampNeg (σ0.1 57 9)) = 0 → (σ.1 57 9).toInt = (σ0.1 57 9).toInt + 1)) hT (s_X5_advance hN (hR.tr hT) (by first | exact hX | exact hT.1.2 hX) (hD) (by first | exact Or.inl rfl | exact Or.inr rfl | assumption)) (by decide) (fun v19 σ20 hOσ20 hT hqv19 => ?_)
            have hqv19 : v19 = (1 : Int32) ∧ RD σ20.1 ∧ (¬ (1 : Int32) = 0 → ¬ σ0.1 61 (Int32.toNatClampNeg (σ0.1 57 9)) = 0 → (σ20.1 57 9).toInt = (σ0.1 57 9).toInt + 1) := hqv19
            have hD : RD σ20.1 := by first | exact hqv19.2 | exact hqv19.2.1
            refine ok_if (fun hc21 => ?_) (fun hc21 => ?_)
            · exact ok_rZ (Or.inl rfl) ⟨hT, (show ((0 : Int32) = 0 ∨ (0 : Int32) = 1) ∧ RD σ20.1 from by first | exact ⟨Or.inl rfl, hD⟩ | exact ⟨Or.inr rfl, hD⟩ | exact ⟨hqv19.1, hqv19.2⟩ | exact ⟨hqv19.1, hD⟩ | (have q := hqv19.1; first | exact ⟨Or.inl q, hD⟩ | exact ⟨Or.inr q, hD⟩))⟩
            · refine ok_gC rfl ?_
              refine ok_zbT (Q := fun V σ => (V = 0 ∨ V = 1) ∧ RD σ.1) hT (ih1 _ _ (hR.tr hT) (by first | exact hX | exact hT.1.2 hX) (hD) (by have q1 := hD.1; have q2 := hD.2.1; have q3 := hD0.1; have q4 := hD0.2.1; first | omega | decide | (simp only [Int32.le_iff_toInt_le, Int32.lt_iff_toInt_lt, ti_add, ti_sub, ti_mul, Int32.reduceToInt] at *; omega) | (exfalso; simp_all; done)) (by have q1 := hD.1; have q2 := hD.2.1; have q3 := hD0.1; have q4 := hD0.2.1; first | omega | decide | (simp only [Int32.le_iff_toInt_le, Int32.lt_iff_toInt_lt, ti_add, ti_sub, ti_mul, Int32.reduceToInt] at *; omega) | (exfalso; simp_all; done))) (by decide) (fun v22 σ23 hOσ23 hT hqv22 => ?_)
              have hqv22 : (v22 = 0 ∨ v22 = 1) ∧ RD σ23.1 := hqv22
              have hD : RD σ23.1 := by first | exact hqv22.2 | exact hqv22.2.1
              refine ok_if (fun hc24 => ?_) (fun hc24 => ?_)
              · exact ok_rZ (Or.inl rfl) ⟨hT, (show ((0 : Int32) = 0 ∨ (0 : Int32) = 1) ∧ RD σ23.1 from by first | exact ⟨Or.inl rfl, hD⟩ | exact ⟨Or.inr rfl, hD⟩ | exact ⟨hqv22.1, hqv22.2⟩ | exact ⟨hqv22.1, hD⟩ | (have q := hqv22.1; first | exact ⟨Or.inl q, hD⟩ | exact ⟨Or.inr q, hD⟩))⟩
              · refine ok_gC rfl ?_
                refine ok_zbT (Q := fun V σ => V = 1 ∧ RD σ.1) hT (s_X5_emit hN (hR.tr hT) (by first | exact hX | exact hT.1.2 hX) (hD)) (by decide) (fun v25 σ26 hOσ26 hT hqv25 => ?_)
                have hqv25 : v25 = 1 ∧ RD σ26.1 := hqv25
                have hD : RD σ26.1 := by first | exact hqv25.2 | exact hqv25.2.1
                refine ok_if (fun hc27 => ?_) (fun hc27 => ?_)
                · exact ok_rZ (Or.inl rfl) ⟨hT, (show ((0 : Int32) = 0 ∨ (0 : Int32) = 1) ∧ RD σ26.1 from by first | exact ⟨Or.inl rfl, hD⟩ | exact ⟨Or.inr rfl, hD⟩ | exact ⟨hqv25.1, hqv25.2⟩ | exact ⟨hqv25.1, hD⟩ | (have q := hqv25.1; first | exact ⟨Or.inl q, hD⟩ | exact ⟨Or.inr q, hD⟩))⟩
                · exact ok_rZ (Or.inr rfl) ⟨hT, (show ((1 : Int32) = 0 ∨ (1 : Int32) = 1) ∧ RD σ26.1 from by first | exact ⟨Or.inl rfl, hD⟩ | exact ⟨Or.inr rfl, hD⟩ | exact ⟨hqv25.1, hqv25.2⟩ | exact ⟨hqv25.1, hD⟩ | (have q := hqv25.1; first | exact ⟨Or.inl q, hD⟩ | exact ⟨Or.inr q, hD⟩))⟩
        · refine ok_gC rfl ?_
          refine ok_zbT (Q := fun V σ => V = 0 ∧ RD σ.1) hT (s_X5_fail hN (hR.tr hT) (by first | exact hX | exact hT.1.2 hX) (hD)) (by decide) (fun v28 σ29 hOσ29 hT hqv28 => ?_)
          have hqv28 : v28 = 0 ∧ RD σ29.1 := hqv28
          have hD : RD σ29.1 := by first | exact hqv28.2 | exact hqv28.2.1
          exact ok_rZ (by have q := hqv28.1; first | exact q | exact Or.inl q | exact Or.inr q) ⟨hT, (show (v28 = 0 ∨ v28 = 1) ∧ RD σ29.1 from by first | exact ⟨Or.inl rfl, hD⟩ | exact ⟨Or.inr rfl, hD⟩ | exact ⟨hqv28.1, hqv28.2⟩ | exact ⟨hqv28.1, hD⟩ | (have q := hqv28.1; first | exact ⟨Or.inl q, hD⟩ | exact ⟨Or.inr q, hD⟩))⟩
theorem s_X5_sum {N : Nat} (hN : 1048576 ≤ N) {x1 : Int32} {σ0 : zS} (hR : RF σ0.2.2) (hX : σ0.2.2 57 5 = 1) (hD : RD σ0.1) (hd : 0 ≤ x1.toInt ∧ x1.toInt ≤ 6) (hm : (3 * (7 - x1.toInt) + 2).toNat < 24) : Ok (f_X5_sum N 24 57 x1 σ0) (fun r => Tr [57, 58, 59] σ0 r.2 ∧ ((r.1 = 0 ∨ r.1 = 1) ∧ RD r.2.1)) := (sg_X5_sum hN 24).1 _ _ hR hX hD hd hm
theorem s_X5_part {N : Nat} (hN : 1048576 ≤ N) {x1 : Int32} {σ0 : zS} (hR : RF σ0.2.2) (hX : σ0.2.2 57 5 = 1) (hD : RD σ0.1) (hd : 0 ≤ x1.toInt ∧ x1.toInt ≤ 6) (hm : (3 * (7 - x1.toInt) + 1).toNat < 24) : Ok (f_X5_part N 24 57 x1 σ0) (fun r => Tr [57, 58, 59] σ0 r.2 ∧ ((r.1 = 0 ∨ r.1 = 1) ∧ RD r.2.1)) := (sg_X5_sum hN 24).2.1 _ _ hR hX hD hd hm
theorem s_X5_wordPart {N : Nat} (hN : 1048576 ≤ N) {x1 : Int32} {x2 : Int32} {σ0 : zS} (hR : RF σ0.2.2) (hX : σ0.2.2 57 5 = 1) (hD : RD σ0.1) (hd : 0 ≤ x2.toInt ∧ x2.toInt ≤ 6) (hm : (3 * (7 - x2.toInt)).toNat < 24) : Ok (f_X5_wordPart N 24 57 x1 x2 σ0) (fun r => Tr [57, 58, 59] σ0 r.2 ∧ ((r.1 = 0 ∨ r.1 = 1) ∧ RD r.2.1)) := (sg_X5_sum hN 24).2.2 _ _ _ hR hX hD hd hm
end Zq1_1

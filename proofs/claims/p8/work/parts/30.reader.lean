set_option maxHeartbeats 4000000 in
set_option maxRecDepth 100000 in
theorem s_X5_isLetter {N : Nat} (hN : 1048576 ≤ N) {x0 : Int32} {σ0 : zS}  (hR : RF σ0.2.2)  : Ok (f_X5_isLetter N x0 σ0) (fun r => Tr [] σ0 r.2 ∧ (r.1 = 0 ∨ r.1 = 1)) := by
  have hT : Tr [] σ0 σ0 := Tr.rf
  rw [f_X5_isLetter.eq_1]
  refine ok_if (fun hc1 => ?_) (fun hc1 => ?_)
  · exact ok_rZ (Or.inl rfl) ⟨hT, (show (0 : Int32) = 0 ∨ (0 : Int32) = 1 from by first | exact Or.inl rfl | exact Or.inr rfl)⟩
  · refine ok_if (fun hc2 => ?_) (fun hc2 => ?_)
    · exact ok_rZ (Or.inl rfl) ⟨hT, (show (0 : Int32) = 0 ∨ (0 : Int32) = 1 from by first | exact Or.inl rfl | exact Or.inr rfl)⟩
    · exact ok_rZ (Or.inr rfl) ⟨hT, (show (1 : Int32) = 0 ∨ (1 : Int32) = 1 from by first | exact Or.inl rfl | exact Or.inr rfl)⟩

set_option maxHeartbeats 4000000 in
set_option maxRecDepth 100000 in
theorem s_X5_isDigit {N : Nat} (hN : 1048576 ≤ N) {x0 : Int32} {σ0 : zS}  (hR : RF σ0.2.2)  : Ok (f_X5_isDigit N x0 σ0) (fun r => Tr [] σ0 r.2 ∧ (r.1 = 0 ∨ r.1 = 1)) := by
  have hT : Tr [] σ0 σ0 := Tr.rf
  rw [f_X5_isDigit.eq_1]
  refine ok_if (fun hc1 => ?_) (fun hc1 => ?_)
  · exact ok_rZ (Or.inl rfl) ⟨hT, (show (0 : Int32) = 0 ∨ (0 : Int32) = 1 from by first | exact Or.inl rfl | exact Or.inr rfl)⟩
  · refine ok_if (fun hc2 => ?_) (fun hc2 => ?_)
    · exact ok_rZ (Or.inl rfl) ⟨hT, (show (0 : Int32) = 0 ∨ (0 : Int32) = 1 from by first | exact Or.inl rfl | exact Or.inr rfl)⟩
    · exact ok_rZ (Or.inr rfl) ⟨hT, (show (1 : Int32) = 0 ∨ (1 : Int32) = 1 from by first | exact Or.inl rfl | exact Or.inr rfl)⟩

set_option maxHeartbeats 4000000 in
set_option maxRecDepth 100000 in
theorem s_X5_combination {N : Nat} (hN : 1048576 ≤ N) {x0 : Int32} {σ0 : zS}  (hR : RF σ0.2.2)  : Ok (f_X5_combination N x0 σ0) (fun r => Tr [] σ0 r.2 ∧ (True)) := by
  have hT : Tr [] σ0 σ0 := Tr.rf
  rw [f_X5_combination.eq_1]
  refine ok_if (fun hc1 => ?_) (fun hc1 => ?_)
  · exact ok_some ⟨hT, trivial⟩
  refine ok_if (fun hc2 => ?_) (fun hc2 => ?_)
  · exact ok_some ⟨hT, trivial⟩
  refine ok_if (fun hc3 => ?_) (fun hc3 => ?_)
  · exact ok_some ⟨hT, trivial⟩
  refine ok_if (fun hc4 => ?_) (fun hc4 => ?_)
  · exact ok_some ⟨hT, trivial⟩
  refine ok_if (fun hc5 => ?_) (fun hc5 => ?_)
  · exact ok_some ⟨hT, trivial⟩
  refine ok_if (fun hc6 => ?_) (fun hc6 => ?_)
  · exact ok_some ⟨hT, trivial⟩
  refine ok_if (fun hc7 => ?_) (fun hc7 => ?_)
  · exact ok_some ⟨hT, trivial⟩
  refine ok_if (fun hc8 => ?_) (fun hc8 => ?_)
  · exact ok_some ⟨hT, trivial⟩
  refine ok_if (fun hc9 => ?_) (fun hc9 => ?_)
  · exact ok_some ⟨hT, trivial⟩
  refine ok_if (fun hc10 => ?_) (fun hc10 => ?_)
  · exact ok_some ⟨hT, trivial⟩
  refine ok_if (fun hc11 => ?_) (fun hc11 => ?_)
  · exact ok_some ⟨hT, trivial⟩
  refine ok_if (fun hc12 => ?_) (fun hc12 => ?_)
  · exact ok_some ⟨hT, trivial⟩
  refine ok_if (fun hc13 => ?_) (fun hc13 => ?_)
  · exact ok_some ⟨hT, trivial⟩
  exact ok_some ⟨hT, trivial⟩

set_option maxHeartbeats 4000000 in
set_option maxRecDepth 100000 in
theorem s_X5_isSign {N : Nat} (hN : 1048576 ≤ N) {x0 : Int32} {σ0 : zS}  (hR : RF σ0.2.2)  : Ok (f_X5_isSign N x0 σ0) (fun r => Tr [] σ0 r.2 ∧ (r.1 = 0 ∨ r.1 = 1)) := by
  have hT : Tr [] σ0 σ0 := Tr.rf
  rw [f_X5_isSign.eq_1]
  refine ok_if (fun hc1 => ?_) (fun hc1 => ?_)
  · exact ok_rZ (Or.inr rfl) ⟨hT, (show (1 : Int32) = 0 ∨ (1 : Int32) = 1 from by first | exact Or.inl rfl | exact Or.inr rfl)⟩
  · refine ok_if (fun hc2 => ?_) (fun hc2 => ?_)
    · exact ok_rZ (Or.inr rfl) ⟨hT, (show (1 : Int32) = 0 ∨ (1 : Int32) = 1 from by first | exact Or.inl rfl | exact Or.inr rfl)⟩
    · refine ok_if (fun hc3 => ?_) (fun hc3 => ?_)
      · exact ok_rZ (Or.inr rfl) ⟨hT, (show (1 : Int32) = 0 ∨ (1 : Int32) = 1 from by first | exact Or.inl rfl | exact Or.inr rfl)⟩
      · refine ok_if (fun hc4 => ?_) (fun hc4 => ?_)
        · exact ok_rZ (Or.inr rfl) ⟨hT, (show (1 : Int32) = 0 ∨ (1 : Int32) = 1 from by first | exact Or.inl rfl | exact Or.inr rfl)⟩
        · refine ok_if (fun hc5 => ?_) (fun hc5 => ?_)
          · exact ok_rZ (Or.inr rfl) ⟨hT, (show (1 : Int32) = 0 ∨ (1 : Int32) = 1 from by first | exact Or.inl rfl | exact Or.inr rfl)⟩
          · refine ok_if (fun hc6 => ?_) (fun hc6 => ?_)
            · exact ok_rZ (Or.inr rfl) ⟨hT, (show (1 : Int32) = 0 ∨ (1 : Int32) = 1 from by first | exact Or.inl rfl | exact Or.inr rfl)⟩
            · refine ok_if (fun hc7 => ?_) (fun hc7 => ?_)
              · exact ok_rZ (Or.inr rfl) ⟨hT, (show (1 : Int32) = 0 ∨ (1 : Int32) = 1 from by first | exact Or.inl rfl | exact Or.inr rfl)⟩
              · refine ok_zbT (Q := fun V σ => True) hT (s_X5_combination hN (hR.tr hT) ) (fun _ h9 => absurd h9 List.not_mem_nil) (fun v8 σ9 hOσ9 hT hqv8 => ?_)
                refine ok_if (fun hc10 => ?_) (fun hc10 => ?_)
                · exact ok_rZ (Or.inl rfl) ⟨hT, (show (0 : Int32) = 0 ∨ (0 : Int32) = 1 from by first | exact Or.inl rfl | exact Or.inr rfl)⟩
                · exact ok_rZ (Or.inr rfl) ⟨hT, (show (1 : Int32) = 0 ∨ (1 : Int32) = 1 from by first | exact Or.inl rfl | exact Or.inr rfl)⟩

set_option maxHeartbeats 4000000 in
set_option maxRecDepth 100000 in
theorem s_X5_spells {N : Nat} (hN : 1048576 ≤ N) {x1 : Nat} {x2 : Int32} {x3 : Int32} {σ0 : zS}  (hR : RF σ0.2.2) (hX : σ0.2.2 57 5 = 1) (hD : RD σ0.1) (hi : x1 < zSn) (hr : 0 ≤ x2.toInt ∧ x2.toInt ≤ 600 ∧ 0 ≤ x3.toInt ∧ x3.toInt ≤ 600) : Ok (f_X5_spells N 57 x1 x2 x3 σ0) (fun r => Tr [] σ0 r.2 ∧ (r.1 = 0 ∨ r.1 = 1)) := by
  have hT : Tr [] σ0 σ0 := Tr.rf
  have hD0 := hD
  rw [f_X5_spells.eq_1]
  refine ok_zbT (Q := fun V σ => V.toInt = ((zlen.getD x1 0 : Nat) : Int) ∧ V.toInt ≤ 6) hT (s_J0_length_8abf5 hN (hR.tr hT) (hi)) (fun _ h9 => absurd h9 List.not_mem_nil) (fun v1 σ2 hOσ2 hT hqv1 => ?_)
  have hqv1 : v1.toInt = ((zlen.getD x1 0 : Nat) : Int) ∧ v1.toInt ≤ 6 := hqv1
  refine ok_if (fun hc3 => ?_) (fun hc3 => ?_)
  · rw [ti_eq] at hc3
    refine ok_if (fun hc4 => ?_) (fun hc4 => ?_)
    · exact ok_rZ (Or.inl rfl) ⟨hT, (show (0 : Int32) = 0 ∨ (0 : Int32) = 1 from by first | exact Or.inl rfl | exact Or.inr rfl)⟩
    · refine ok_gI0 hT rfl (by decide) ?_
      refine ok_if (fun hc6 => ?_) (fun hc6 => ?_)
      · refine ok_lp (fun t : Int32 × zS => Tr [] σ0 (t.2) ∧ (0 ≤ (t.1).toInt)) (fun t : Int32 × zS => (10 - (t.1).toInt).toNat) (fun again7 t hI ih27_7 => ?_) N _ (show Tr [] σ0 σ2 ∧ (0 ≤ (0 : Int32).toInt) from ⟨hT, (by have q1 := hD.1; have q2 := hD.2.1; have q3 := hD0.1; have q4 := hD0.2.1; first | omega | decide | (simp only [Int32.le_iff_toInt_le, Int32.lt_iff_toInt_lt, ti_add, ti_sub, ti_mul, Int32.reduceToInt] at *; omega))⟩) (show (10 - (0 : Int32).toInt).toNat < N from (by have q1 := hD.1; have q2 := hD.2.1; have q3 := hD0.1; have q4 := hD0.2.1; first | omega | decide | (simp only [Int32.le_iff_toInt_le, Int32.lt_iff_toInt_lt, ti_add, ti_sub, ti_mul, Int32.reduceToInt] at *; omega)))
        obtain ⟨x4_7, σ7⟩ := t
        have hI : Tr [] σ0 σ7 ∧ (0 ≤ x4_7.toInt) := hI
        obtain ⟨hT, hI7⟩ := hI
        rw [F_X5_spells_27.eq_1]
        refine ok_zbT (Q := fun V σ => V.toInt = ((zlen.getD x1 0 : Nat) : Int) ∧ V.toInt ≤ 6) hT (s_J0_length_8abf5 hN (hR.tr hT) (hi)) (fun _ h9 => absurd h9 List.not_mem_nil) (fun v8 σ9 hOσ9 hT hqv8 => ?_)
        have hqv8 : v8.toInt = ((zlen.getD x1 0 : Nat) : Int) ∧ v8.toInt ≤ 6 := hqv8
        refine ok_if (fun hc10 => ?_) (fun hc10 => ?_)
        · exact ok_rZ (Or.inr rfl) ⟨hT, (show (1 : Int32) = 0 ∨ (1 : Int32) = 1 from by first | exact Or.inl rfl | exact Or.inr rfl)⟩
        · refine ok_gRX hT hX ?_
          refine ok_aIn rfl (by have q1 := hD.1; have q2 := hD.2.1; have q3 := hD0.1; have q4 := hD0.2.1; first | omega | decide | (simp only [Int32.le_iff_toInt_le, Int32.lt_iff_toInt_lt, ti_add, ti_sub, ti_mul, Int32.reduceToInt] at *; omega)) (by have q1 := hD.1; have q2 := hD.2.1; have q3 := hD0.1; have q4 := hD0.2.1; first | omega | decide | (simp only [Int32.le_iff_toInt_le, Int32.lt_iff_toInt_lt, ti_add, ti_sub, ti_mul, Int32.reduceToInt] at *; omega)) (fun v12 ev12 => ?_)
          refine ok_zbT (Q := fun V σ => True) hT (s_J0_charAt_5068e hN (hR.tr hT) (hi) (by have q1 := hD.1; have q2 := hD.2.1; have q3 := hD0.1; have q4 := hD0.2.1; first | omega | decide | (simp only [Int32.le_iff_toInt_le, Int32.lt_iff_toInt_lt, ti_add, ti_sub, ti_mul, Int32.reduceToInt] at *; omega)) (by have q1 := hD.1; have q2 := hD.2.1; have q3 := hD0.1; have q4 := hD0.2.1; first | omega | decide | (simp only [Int32.le_iff_toInt_le, Int32.lt_iff_toInt_lt, ti_add, ti_sub, ti_mul, Int32.reduceToInt] at *; omega))) (fun _ h9 => absurd h9 List.not_mem_nil) (fun v13 σ14 hOσ14 hT hqv13 => ?_)
          refine ok_if (fun hc15 => ?_) (fun hc15 => ?_)
          · exact ih27_7 (x4_7 + 1, σ14) (show Tr [] σ0 σ14 ∧ (0 ≤ (x4_7 + 1).toInt) from ⟨hT, (by have q1 := hD.1; have q2 := hD.2.1; have q3 := hD0.1; have q4 := hD0.2.1; first | omega | decide | (simp only [Int32.le_iff_toInt_le, Int32.lt_iff_toInt_lt, ti_add, ti_sub, ti_mul, Int32.reduceToInt] at *; omega))⟩) (show (10 - (x4_7 + 1).toInt).toNat < (10 - x4_7.toInt).toNat from (by have q1 := hD.1; have q2 := hD.2.1; have q3 := hD0.1; have q4 := hD0.2.1; first | omega | decide | (simp only [Int32.le_iff_toInt_le, Int32.lt_iff_toInt_lt, ti_add, ti_sub, ti_mul, Int32.reduceToInt] at *; omega)))
          · exact ok_rZ (Or.inl rfl) ⟨hT, (show (0 : Int32) = 0 ∨ (0 : Int32) = 1 from by first | exact Or.inl rfl | exact Or.inr rfl)⟩
      · exact ok_rZ (Or.inl rfl) ⟨hT, (show (0 : Int32) = 0 ∨ (0 : Int32) = 1 from by first | exact Or.inl rfl | exact Or.inr rfl)⟩
  · exact ok_rZ (Or.inl rfl) ⟨hT, (show (0 : Int32) = 0 ∨ (0 : Int32) = 1 from by first | exact Or.inl rfl | exact Or.inr rfl)⟩

set_option maxHeartbeats 4000000 in
set_option maxRecDepth 100000 in
theorem s_X5_wordValue {N : Nat} (hN : 1048576 ≤ N) {x1 : Int32} {x2 : Int32} {σ0 : zS}  (hR : RF σ0.2.2) (hX : σ0.2.2 57 5 = 1) (hD : RD σ0.1) (hr : 0 ≤ x1.toInt ∧ x1.toInt ≤ 600 ∧ 0 ≤ x2.toInt ∧ x2.toInt ≤ 600) : Ok (f_X5_wordValue N 57 x1 x2 σ0) (fun r => Tr [] σ0 r.2 ∧ (True)) := by
  have hT : Tr [] σ0 σ0 := Tr.rf
  rw [f_X5_wordValue.eq_1]
  refine ok_gC rfl ?_
  refine ok_zbT (Q := fun V σ => V = 0 ∨ V = 1) hT (s_X5_spells hN (hR.tr hT) (hT.1.2 hX) (RD.tr hT (by decide) (by decide) (by decide) (by decide) hD) (by decide) (hr)) (fun _ h9 => absurd h9 List.not_mem_nil) (fun v1 σ2 hOσ2 hT hqv1 => ?_)
  have hqv1 : v1 = 0 ∨ v1 = 1 := hqv1
  refine ok_if (fun hc3 => ?_) (fun hc3 => ?_)
  · refine ok_gC rfl ?_
    refine ok_zbT (Q := fun V σ => V = 0 ∨ V = 1) hT (s_X5_spells hN (hR.tr hT) (hT.1.2 hX) (RD.tr hT (by decide) (by decide) (by decide) (by decide) hD) (by decide) (hr)) (fun _ h9 => absurd h9 List.not_mem_nil) (fun v4 σ5 hOσ5 hT hqv4 => ?_)
    have hqv4 : v4 = 0 ∨ v4 = 1 := hqv4
    refine ok_if (fun hc6 => ?_) (fun hc6 => ?_)
    · refine ok_gC rfl ?_
      refine ok_zbT (Q := fun V σ => V = 0 ∨ V = 1) hT (s_X5_spells hN (hR.tr hT) (hT.1.2 hX) (RD.tr hT (by decide) (by decide) (by decide) (by decide) hD) (by decide) (hr)) (fun _ h9 => absurd h9 List.not_mem_nil) (fun v7 σ8 hOσ8 hT hqv7 => ?_)
      have hqv7 : v7 = 0 ∨ v7 = 1 := hqv7
      refine ok_if (fun hc9 => ?_) (fun hc9 => ?_)
      · refine ok_gC rfl ?_
        refine ok_zbT (Q := fun V σ => V = 0 ∨ V = 1) hT (s_X5_spells hN (hR.tr hT) (hT.1.2 hX) (RD.tr hT (by decide) (by decide) (by decide) (by decide) hD) (by decide) (hr)) (fun _ h9 => absurd h9 List.not_mem_nil) (fun v10 σ11 hOσ11 hT hqv10 => ?_)
        have hqv10 : v10 = 0 ∨ v10 = 1 := hqv10
        refine ok_if (fun hc12 => ?_) (fun hc12 => ?_)
        · refine ok_gC rfl ?_
          refine ok_zbT (Q := fun V σ => V = 0 ∨ V = 1) hT (s_X5_spells hN (hR.tr hT) (hT.1.2 hX) (RD.tr hT (by decide) (by decide) (by decide) (by decide) hD) (by decide) (hr)) (fun _ h9 => absurd h9 List.not_mem_nil) (fun v13 σ14 hOσ14 hT hqv13 => ?_)
          have hqv13 : v13 = 0 ∨ v13 = 1 := hqv13
          refine ok_if (fun hc15 => ?_) (fun hc15 => ?_)
          · refine ok_gC rfl ?_
            refine ok_zbT (Q := fun V σ => V = 0 ∨ V = 1) hT (s_X5_spells hN (hR.tr hT) (hT.1.2 hX) (RD.tr hT (by decide) (by decide) (by decide) (by decide) hD) (by decide) (hr)) (fun _ h9 => absurd h9 List.not_mem_nil) (fun v16 σ17 hOσ17 hT hqv16 => ?_)
            have hqv16 : v16 = 0 ∨ v16 = 1 := hqv16
            refine ok_if (fun hc18 => ?_) (fun hc18 => ?_)
            · refine ok_gC rfl ?_
              refine ok_zbT (Q := fun V σ => V = 0 ∨ V = 1) hT (s_X5_spells hN (hR.tr hT) (hT.1.2 hX) (RD.tr hT (by decide) (by decide) (by decide) (by decide) hD) (by decide) (hr)) (fun _ h9 => absurd h9 List.not_mem_nil) (fun v19 σ20 hOσ20 hT hqv19 => ?_)
              have hqv19 : v19 = 0 ∨ v19 = 1 := hqv19
              refine ok_if (fun hc21 => ?_) (fun hc21 => ?_)
              · refine ok_gC rfl ?_
                refine ok_zbT (Q := fun V σ => V = 0 ∨ V = 1) hT (s_X5_spells hN (hR.tr hT) (hT.1.2 hX) (RD.tr hT (by decide) (by decide) (by decide) (by decide) hD) (by decide) (hr)) (fun _ h9 => absurd h9 List.not_mem_nil) (fun v22 σ23 hOσ23 hT hqv22 => ?_)
                have hqv22 : v22 = 0 ∨ v22 = 1 := hqv22
                refine ok_if (fun hc24 => ?_) (fun hc24 => ?_)
                · refine ok_gC rfl ?_
                  refine ok_zbT (Q := fun V σ => V = 0 ∨ V = 1) hT (s_X5_spells hN (hR.tr hT) (hT.1.2 hX) (RD.tr hT (by decide) (by decide) (by decide) (by decide) hD) (by decide) (hr)) (fun _ h9 => absurd h9 List.not_mem_nil) (fun v25 σ26 hOσ26 hT hqv25 => ?_)
                  have hqv25 : v25 = 0 ∨ v25 = 1 := hqv25
                  refine ok_if (fun hc27 => ?_) (fun hc27 => ?_)
                  · refine ok_gC rfl ?_
                    refine ok_zbT (Q := fun V σ => V = 0 ∨ V = 1) hT (s_X5_spells hN (hR.tr hT) (hT.1.2 hX) (RD.tr hT (by decide) (by decide) (by decide) (by decide) hD) (by decide) (hr)) (fun _ h9 => absurd h9 List.not_mem_nil) (fun v28 σ29 hOσ29 hT hqv28 => ?_)
                    have hqv28 : v28 = 0 ∨ v28 = 1 := hqv28
                    refine ok_if (fun hc30 => ?_) (fun hc30 => ?_)
                    · refine ok_gC rfl ?_
                      refine ok_zbT (Q := fun V σ => V = 0 ∨ V = 1) hT (s_X5_spells hN (hR.tr hT) (hT.1.2 hX) (RD.tr hT (by decide) (by decide) (by decide) (by decide) hD) (by decide) (hr)) (fun _ h9 => absurd h9 List.not_mem_nil) (fun v31 σ32 hOσ32 hT hqv31 => ?_)
                      have hqv31 : v31 = 0 ∨ v31 = 1 := hqv31
                      refine ok_if (fun hc33 => ?_) (fun hc33 => ?_)
                      · exact ok_some ⟨hT, trivial⟩
                      · exact ok_some ⟨hT, trivial⟩
                    · exact ok_some ⟨hT, trivial⟩
                  · exact ok_some ⟨hT, trivial⟩
                · exact ok_some ⟨hT, trivial⟩
              · exact ok_some ⟨hT, trivial⟩
            · exact ok_some ⟨hT, trivial⟩
          · exact ok_some ⟨hT, trivial⟩
        · exact ok_some ⟨hT, trivial⟩
      · exact ok_some ⟨hT, trivial⟩
    · exact ok_some ⟨hT, trivial⟩
  · exact ok_some ⟨hT, trivial⟩

set_option maxHeartbeats 4000000 in
set_option maxRecDepth 100000 in
theorem s_X5_splitWord {N : Nat} (hN : 1048576 ≤ N) {x1 : Int32} {x2 : Int32} {σ0 : zS}  (hR : RF σ0.2.2) (hX : σ0.2.2 57 5 = 1) (hD : RD σ0.1) (h1 : 0 ≤ x1.toInt ∧ x1.toInt ≤ 599) (h2 : 0 ≤ x2.toInt ∧ x2.toInt ≤ 600) : Ok (f_X5_splitWord N 57 x1 x2 σ0) (fun r => Tr [61, 62] σ0 r.2 ∧ (x2.toInt ≤ r.1.toInt ∧ r.1.toInt ≤ 600 ∧ RD r.2.1)) := by
  have hT : Tr [61, 62] σ0 σ0 := Tr.rf
  have hD0 := hD
  rw [f_X5_splitWord.eq_1]
  refine ok_lp (fun t : Int32 × zS => Tr [61, 62] σ0 (t.2) ∧ (x2.toInt ≤ (t.1).toInt ∧ (t.1).toInt ≤ 600) ∧ (RD (t.2).1)) (fun t : Int32 × zS => (600 - (t.1).toInt).toNat) (fun again1 t hI ih2_1 => ?_) N _ (show Tr [61, 62] σ0 σ0 ∧ (x2.toInt ≤ x2.toInt ∧ x2.toInt ≤ 600) ∧ (RD σ0.1) from ⟨hT, (by have q1 := hD.1; have q2 := hD.2.1; have q3 := hD0.1; have q4 := hD0.2.1; first | omega | decide | (simp only [Int32.le_iff_toInt_le, Int32.lt_iff_toInt_lt, ti_add, ti_sub, ti_mul, Int32.reduceToInt] at *; omega)), hD⟩) (show (600 - x2.toInt).toNat < N from (by have q1 := hD.1; have q2 := hD.2.1; have q3 := hD0.1; have q4 := hD0.2.1; first | omega | decide | (simp only [Int32.le_iff_toInt_le, Int32.lt_iff_toInt_lt, ti_add, ti_sub, ti_mul, Int32.reduceToInt] at *; omega)))
  obtain ⟨x3_1, σ1⟩ := t
  have hI : Tr [61, 62] σ0 σ1 ∧ (x2.toInt ≤ x3_1.toInt ∧ x3_1.toInt ≤ 600) ∧ (RD σ1.1) := hI
  obtain ⟨hT, hI1, hD⟩ := hI
  rw [F_X5_splitWord_2.eq_1]
  refine ok_gI0 hT rfl (by decide) ?_
  refine ok_if (fun hc3 => ?_) (fun hc3 => ?_)
  · rw [J_X5_splitWord_28.eq_1]
    refine ok_gR (v := 61) hT rfl (hR 57 10 rfl) ?_
    refine ok_s14 hT rfl (by decide) (by have q1 := hD.1; have q2 := hD.2.1; have q3 := hD0.1; have q4 := hD0.2.1; first | omega | decide | (simp only [Int32.le_iff_toInt_le, Int32.lt_iff_toInt_lt, ti_add, ti_sub, ti_mul, Int32.reduceToInt] at *; omega)) (by have q1 := hD.1; have q2 := hD.2.1; have q3 := hD0.1; have q4 := hD0.2.1; first | omega | decide | (simp only [Int32.le_iff_toInt_le, Int32.lt_iff_toInt_lt, ti_add, ti_sub, ti_mul, Int32.reduceToInt] at *; omega)) (fun σ5 eσ5 hOσ5 hT => ?_)
    have hD : RD σ5.1 := RD_k eσ5 (Or.inl (by omega)) hD
    refine ok_gR (v := 62) hT rfl (hR 57 11 rfl) ?_
    refine ok_gC rfl ?_
    refine ok_zbT (Q := fun V σ => True) hT (s_X5_wordValue hN (hR.tr hT) (hT.1.2 hX) (hD) (by have q1 := hD.1; have q2 := hD.2.1; have q3 := hD0.1; have q4 := hD0.2.1; first | omega | decide | (simp only [Int32.le_iff_toInt_le, Int32.lt_iff_toInt_lt, ti_add, ti_sub, ti_mul, Int32.reduceToInt] at *; omega))) (fun _ h9 => absurd h9 List.not_mem_nil) (fun v7 σ8 hOσ8 hT hqv7 => ?_)
    have hD : RD σ8.1 := RD.tr hOσ8 (by decide) (by decide) (by decide) (by decide) hD
    refine ok_s14 hT rfl (by decide) (by have q1 := hD.1; have q2 := hD.2.1; have q3 := hD0.1; have q4 := hD0.2.1; first | omega | decide | (simp only [Int32.le_iff_toInt_le, Int32.lt_iff_toInt_lt, ti_add, ti_sub, ti_mul, Int32.reduceToInt] at *; omega)) (by have q1 := hD.1; have q2 := hD.2.1; have q3 := hD0.1; have q4 := hD0.2.1; first | omega | decide | (simp only [Int32.le_iff_toInt_le, Int32.lt_iff_toInt_lt, ti_add, ti_sub, ti_mul, Int32.reduceToInt] at *; omega)) (fun σ9 eσ9 hOσ9 hT => ?_)
    have hD : RD σ9.1 := RD.tr hOσ9 (by decide) (by decide) (by decide) (by decide) hD
    exact ok_some ⟨hT, (show x2.toInt ≤ x3_1.toInt ∧ x3_1.toInt ≤ 600 ∧ RD σ9.1 from by exact ⟨by omega, by omega, hD⟩)⟩
  · refine ok_gRX hT hX ?_
    refine ok_aIn rfl (by have q1 := hD.1; have q2 := hD.2.1; have q3 := hD0.1; have q4 := hD0.2.1; first | omega | decide | (simp only [Int32.le_iff_toInt_le, Int32.lt_iff_toInt_lt, ti_add, ti_sub, ti_mul, Int32.reduceToInt] at *; omega)) (by have q1 := hD.1; have q2 := hD.2.1; have q3 := hD0.1; have q4 := hD0.2.1; first | omega | decide | (simp only [Int32.le_iff_toInt_le, Int32.lt_iff_toInt_lt, ti_add, ti_sub, ti_mul, Int32.reduceToInt] at *; omega)) (fun v11 ev11 => ?_)
    refine ok_zbT (Q := fun V σ => V = 0 ∨ V = 1) hT (s_X5_isLetter hN (hR.tr hT) ) (fun _ h9 => absurd h9 List.not_mem_nil) (fun v12 σ13 hOσ13 hT hqv12 => ?_)
    have hqv12 : v12 = 0 ∨ v12 = 1 := hqv12
    have hD : RD σ13.1 := RD.tr hOσ13 (by decide) (by decide) (by decide) (by decide) hD
    refine ok_if (fun hc14 => ?_) (fun hc14 => ?_)
    · rw [J_X5_splitWord_28.eq_1]
      refine ok_gR (v := 61) hT rfl (hR 57 10 rfl) ?_
      refine ok_s14 hT rfl (by decide) (by have q1 := hD.1; have q2 := hD.2.1; have q3 := hD0.1; have q4 := hD0.2.1; first | omega | decide | (simp only [Int32.le_iff_toInt_le, Int32.lt_iff_toInt_lt, ti_add, ti_sub, ti_mul, Int32.reduceToInt] at *; omega)) (by have q1 := hD.1; have q2 := hD.2.1; have q3 := hD0.1; have q4 := hD0.2.1; first | omega | decide | (simp only [Int32.le_iff_toInt_le, Int32.lt_iff_toInt_lt, ti_add, ti_sub, ti_mul, Int32.reduceToInt] at *; omega)) (fun σ16 eσ16 hOσ16 hT => ?_)
      have hD : RD σ16.1 := RD_k eσ16 (Or.inl (by omega)) hD
      refine ok_gR (v := 62) hT rfl (hR 57 11 rfl) ?_
      refine ok_gC rfl ?_
      refine ok_zbT (Q := fun V σ => True) hT (s_X5_wordValue hN (hR.tr hT) (hT.1.2 hX) (hD) (by have q1 := hD.1; have q2 := hD.2.1; have q3 := hD0.1; have q4 := hD0.2.1; first | omega | decide | (simp only [Int32.le_iff_toInt_le, Int32.lt_iff_toInt_lt, ti_add, ti_sub, ti_mul, Int32.reduceToInt] at *; omega))) (fun _ h9 => absurd h9 List.not_mem_nil) (fun v18 σ19 hOσ19 hT hqv18 => ?_)
      have hD : RD σ19.1 := RD.tr hOσ19 (by decide) (by decide) (by decide) (by decide) hD
      refine ok_s14 hT rfl (by decide) (by have q1 := hD.1; have q2 := hD.2.1; have q3 := hD0.1; have q4 := hD0.2.1; first | omega | decide | (simp only [Int32.le_iff_toInt_le, Int32.lt_iff_toInt_lt, ti_add, ti_sub, ti_mul, Int32.reduceToInt] at *; omega)) (by have q1 := hD.1; have q2 := hD.2.1; have q3 := hD0.1; have q4 := hD0.2.1; first | omega | decide | (simp only [Int32.le_iff_toInt_le, Int32.lt_iff_toInt_lt, ti_add, ti_sub, ti_mul, Int32.reduceToInt] at *; omega)) (fun σ20 eσ20 hOσ20 hT => ?_)
      have hD : RD σ20.1 := RD.tr hOσ20 (by decide) (by decide) (by decide) (by decide) hD
      exact ok_some ⟨hT, (show x2.toInt ≤ x3_1.toInt ∧ x3_1.toInt ≤ 600 ∧ RD σ20.1 from by exact ⟨by omega, by omega, hD⟩)⟩
    · exact ih2_1 (x3_1 + 1, σ13) (show Tr [61, 62] σ0 σ13 ∧ (x2.toInt ≤ (x3_1 + 1).toInt ∧ (x3_1 + 1).toInt ≤ 600) ∧ (RD σ13.1) from ⟨hT, (by have q1 := hD.1; have q2 := hD.2.1; have q3 := hD0.1; have q4 := hD0.2.1; first | omega | decide | (simp only [Int32.le_iff_toInt_le, Int32.lt_iff_toInt_lt, ti_add, ti_sub, ti_mul, Int32.reduceToInt] at *; omega)), hD⟩) (show (600 - (x3_1 + 1).toInt).toNat < (600 - x3_1.toInt).toNat from (by have q1 := hD.1; have q2 := hD.2.1; have q3 := hD0.1; have q4 := hD0.2.1; first | omega | decide | (simp only [Int32.le_iff_toInt_le, Int32.lt_iff_toInt_lt, ti_add, ti_sub, ti_mul, Int32.reduceToInt] at *; omega)))

set_option maxHeartbeats 4000000 in
set_option maxRecDepth 100000 in
theorem s_X5_splitNumber {N : Nat} (hN : 1048576 ≤ N) {x1 : Int32} {x2 : Int32} {σ0 : zS}  (hR : RF σ0.2.2) (hX : σ0.2.2 57 5 = 1) (hD : RD σ0.1) (h1 : 0 ≤ x1.toInt ∧ x1.toInt ≤ 599) (h2 : 0 ≤ x2.toInt ∧ x2.toInt ≤ 600) : Ok (f_X5_splitNumber N 57 x1 x2 σ0) (fun r => Tr [61, 62] σ0 r.2 ∧ (x2.toInt ≤ r.1.toInt ∧ r.1.toInt ≤ 600 ∧ RD r.2.1)) := by
  have hT : Tr [61, 62] σ0 σ0 := Tr.rf
  have hD0 := hD
  rw [f_X5_splitNumber.eq_1]
  refine ok_lp (fun t : Int32 × Int32 × zS => Tr [61, 62] σ0 (t.2.2) ∧ (x2.toInt ≤ (t.1).toInt ∧ (t.1).toInt ≤ 600) ∧ (RD (t.2.2).1)) (fun t : Int32 × Int32 × zS => (600 - (t.1).toInt).toNat) (fun again1 t hI ih5_1 => ?_) N _ (show Tr [61, 62] σ0 σ0 ∧ (x2.toInt ≤ x2.toInt ∧ x2.toInt ≤ 600) ∧ (RD σ0.1) from ⟨hT, (by have q1 := hD.1; have q2 := hD.2.1; have q3 := hD0.1; have q4 := hD0.2.1; first | omega | decide | (simp only [Int32.le_iff_toInt_le, Int32.lt_iff_toInt_lt, ti_add, ti_sub, ti_mul, Int32.reduceToInt] at *; omega)), hD⟩) (show (600 - x2.toInt).toNat < N from (by have q1 := hD.1; have q2 := hD.2.1; have q3 := hD0.1; have q4 := hD0.2.1; first | omega | decide | (simp only [Int32.le_iff_toInt_le, Int32.lt_iff_toInt_lt, ti_add, ti_sub, ti_mul, Int32.reduceToInt] at *; omega)))
  obtain ⟨x3_1, x4_1, σ1⟩ := t
  have hI : Tr [61, 62] σ0 σ1 ∧ (x2.toInt ≤ x3_1.toInt ∧ x3_1.toInt ≤ 600) ∧ (RD σ1.1) := hI
  obtain ⟨hT, hI1, hD⟩ := hI
  rw [F_X5_splitNumber_5.eq_1]
  refine ok_gI0 hT rfl (by decide) ?_
  refine ok_if (fun hc3 => ?_) (fun hc3 => ?_)
  · refine ok_gR (v := 61) hT rfl (hR 57 10 rfl) ?_
    refine ok_s14 hT rfl (by decide) (by have q1 := hD.1; have q2 := hD.2.1; have q3 := hD0.1; have q4 := hD0.2.1; first | omega | decide | (simp only [Int32.le_iff_toInt_le, Int32.lt_iff_toInt_lt, ti_add, ti_sub, ti_mul, Int32.reduceToInt] at *; omega)) (by have q1 := hD.1; have q2 := hD.2.1; have q3 := hD0.1; have q4 := hD0.2.1; first | omega | decide | (simp only [Int32.le_iff_toInt_le, Int32.lt_iff_toInt_lt, ti_add, ti_sub, ti_mul, Int32.reduceToInt] at *; omega)) (fun σ5 eσ5 hOσ5 hT => ?_)
    have hD : RD σ5.1 := RD_k eσ5 (Or.inl (by omega)) hD
    refine ok_gR (v := 62) hT rfl (hR 57 11 rfl) ?_
    refine ok_s14 hT rfl (by decide) (by have q1 := hD.1; have q2 := hD.2.1; have q3 := hD0.1; have q4 := hD0.2.1; first | omega | decide | (simp only [Int32.le_iff_toInt_le, Int32.lt_iff_toInt_lt, ti_add, ti_sub, ti_mul, Int32.reduceToInt] at *; omega)) (by have q1 := hD.1; have q2 := hD.2.1; have q3 := hD0.1; have q4 := hD0.2.1; first | omega | decide | (simp only [Int32.le_iff_toInt_le, Int32.lt_iff_toInt_lt, ti_add, ti_sub, ti_mul, Int32.reduceToInt] at *; omega)) (fun σ7 eσ7 hOσ7 hT => ?_)
    have hD : RD σ7.1 := RD.tr hOσ7 (by decide) (by decide) (by decide) (by decide) hD
    exact ok_some ⟨hT, (show x2.toInt ≤ x3_1.toInt ∧ x3_1.toInt ≤ 600 ∧ RD σ7.1 from by exact ⟨by omega, by omega, hD⟩)⟩
  · refine ok_gRX hT hX ?_
    refine ok_aIn rfl (by have q1 := hD.1; have q2 := hD.2.1; have q3 := hD0.1; have q4 := hD0.2.1; first | omega | decide | (simp only [Int32.le_iff_toInt_le, Int32.lt_iff_toInt_lt, ti_add, ti_sub, ti_mul, Int32.reduceToInt] at *; omega)) (by have q1 := hD.1; have q2 := hD.2.1; have q3 := hD0.1; have q4 := hD0.2.1; first | omega | decide | (simp only [Int32.le_iff_toInt_le, Int32.lt_iff_toInt_lt, ti_add, ti_sub, ti_mul, Int32.reduceToInt] at *; omega)) (fun v9 ev9 => ?_)
    refine ok_zbT (Q := fun V σ => V = 0 ∨ V = 1) hT (s_X5_isDigit hN (hR.tr hT) ) (fun _ h9 => absurd h9 List.not_mem_nil) (fun v10 σ11 hOσ11 hT hqv10 => ?_)
    have hqv10 : v10 = 0 ∨ v10 = 1 := hqv10
    have hD : RD σ11.1 := RD.tr hOσ11 (by decide) (by decide) (by decide) (by decide) hD
    refine ok_if (fun hc12 => ?_) (fun hc12 => ?_)
    · refine ok_gR (v := 61) hT rfl (hR 57 10 rfl) ?_
      refine ok_s14 hT rfl (by decide) (by have q1 := hD.1; have q2 := hD.2.1; have q3 := hD0.1; have q4 := hD0.2.1; first | omega | decide | (simp only [Int32.le_iff_toInt_le, Int32.lt_iff_toInt_lt, ti_add, ti_sub, ti_mul, Int32.reduceToInt] at *; omega)) (by have q1 := hD.1; have q2 := hD.2.1; have q3 := hD0.1; have q4 := hD0.2.1; first | omega | decide | (simp only [Int32.le_iff_toInt_le, Int32.lt_iff_toInt_lt, ti_add, ti_sub, ti_mul, Int32.reduceToInt] at *; omega)) (fun σ14 eσ14 hOσ14 hT => ?_)
      have hD : RD σ14.1 := RD_k eσ14 (Or.inl (by omega)) hD
      refine ok_gR (v := 62) hT rfl (hR 57 11 rfl) ?_
      refine ok_s14 hT rfl (by decide) (by have q1 := hD.1; have q2 := hD.2.1; have q3 := hD0.1; have q4 := hD0.2.1; first | omega | decide | (simp only [Int32.le_iff_toInt_le, Int32.lt_iff_toInt_lt, ti_add, ti_sub, ti_mul, Int32.reduceToInt] at *; omega)) (by have q1 := hD.1; have q2 := hD.2.1; have q3 := hD0.1; have q4 := hD0.2.1; first | omega | decide | (simp only [Int32.le_iff_toInt_le, Int32.lt_iff_toInt_lt, ti_add, ti_sub, ti_mul, Int32.reduceToInt] at *; omega)) (fun σ16 eσ16 hOσ16 hT => ?_)
      have hD : RD σ16.1 := RD.tr hOσ16 (by decide) (by decide) (by decide) (by decide) hD
      exact ok_some ⟨hT, (show x2.toInt ≤ x3_1.toInt ∧ x3_1.toInt ≤ 600 ∧ RD σ16.1 from by exact ⟨by omega, by omega, hD⟩)⟩
    · refine ok_gRX hT hX ?_
      refine ok_aIn rfl (by have q1 := hD.1; have q2 := hD.2.1; have q3 := hD0.1; have q4 := hD0.2.1; first | omega | decide | (simp only [Int32.le_iff_toInt_le, Int32.lt_iff_toInt_lt, ti_add, ti_sub, ti_mul, Int32.reduceToInt] at *; omega)) (by have q1 := hD.1; have q2 := hD.2.1; have q3 := hD0.1; have q4 := hD0.2.1; first | omega | decide | (simp only [Int32.le_iff_toInt_le, Int32.lt_iff_toInt_lt, ti_add, ti_sub, ti_mul, Int32.reduceToInt] at *; omega)) (fun v18 ev18 => ?_)
      exact ih5_1 (x3_1 + 1, zmin 1000000 (((x4_1 * 10) + v18) - 48), σ11) (show Tr [61, 62] σ0 σ11 ∧ (x2.toInt ≤ (x3_1 + 1).toInt ∧ (x3_1 + 1).toInt ≤ 600) ∧ (RD σ11.1) from ⟨hT, (by have q1 := hD.1; have q2 := hD.2.1; have q3 := hD0.1; have q4 := hD0.2.1; first | omega | decide | (simp only [Int32.le_iff_toInt_le, Int32.lt_iff_toInt_lt, ti_add, ti_sub, ti_mul, Int32.reduceToInt] at *; omega)), hD⟩) (show (600 - (x3_1 + 1).toInt).toNat < (600 - x3_1.toInt).toNat from (by have q1 := hD.1; have q2 := hD.2.1; have q3 := hD0.1; have q4 := hD0.2.1; first | omega | decide | (simp only [Int32.le_iff_toInt_le, Int32.lt_iff_toInt_lt, ti_add, ti_sub, ti_mul, Int32.reduceToInt] at *; omega)))

set_option maxHeartbeats 4000000 in
set_option maxRecDepth 100000 in
theorem s_X5_split {N : Nat} (hN : 1048576 ≤ N)  {σ0 : zS}  (hR : RF σ0.2.2) (hX : σ0.2.2 57 5 = 1) (hD : RD σ0.1) : Ok (f_X5_split N 57 σ0) (fun r => Tr [61, 62, 63, 64] σ0 r.2 ∧ (RD r.2.1)) := by
  have hT : Tr [61, 62, 63, 64] σ0 σ0 := Tr.rf
  have hD0 := hD
  rw [f_X5_split.eq_1]
  refine ok_lp (fun t : Int32 × Int32 × zS => Tr [61, 62, 63, 64] σ0 (t.2.2) ∧ ((0 ≤ (t.1).toInt ∧ (t.1).toInt ≤ 600) ∧ 0 ≤ (t.2.1).toInt ∧ (t.2.1).toInt ≤ 600) ∧ (RD (t.2.2).1)) (fun t : Int32 × Int32 × zS => (601 - (t.1).toInt).toNat + (601 - (t.2.1).toInt).toNat) (fun again1 t hI ih4_1 => ?_) N _ (show Tr [61, 62, 63, 64] σ0 σ0 ∧ ((0 ≤ (0 : Int32).toInt ∧ (0 : Int32).toInt ≤ 600) ∧ 0 ≤ (0 : Int32).toInt ∧ (0 : Int32).toInt ≤ 600) ∧ (RD σ0.1) from ⟨hT, (by have q1 := hD.1; have q2 := hD.2.1; have q3 := hD0.1; have q4 := hD0.2.1; first | omega | decide | (simp only [Int32.le_iff_toInt_le, Int32.lt_iff_toInt_lt, ti_add, ti_sub, ti_mul, Int32.reduceToInt] at *; omega)), hD⟩) (show (601 - (0 : Int32).toInt).toNat + (601 - (0 : Int32).toInt).toNat < N from (by have q1 := hD.1; have q2 := hD.2.1; have q3 := hD0.1; have q4 := hD0.2.1; first | omega | decide | (simp only [Int32.le_iff_toInt_le, Int32.lt_iff_toInt_lt, ti_add, ti_sub, ti_mul, Int32.reduceToInt] at *; omega)))
  obtain ⟨x1_1, x2_1, σ1⟩ := t
  have hI : Tr [61, 62, 63, 64] σ0 σ1 ∧ ((0 ≤ x1_1.toInt ∧ x1_1.toInt ≤ 600) ∧ 0 ≤ x2_1.toInt ∧ x2_1.toInt ≤ 600) ∧ (RD σ1.1) := hI
  obtain ⟨hT, hI1, hD⟩ := hI
  rw [F_X5_split_4.eq_1]
  refine ok_gI0 hT rfl (by decide) ?_
  refine ok_if (fun hc3 => ?_) (fun hc3 => ?_)
  · rw [J_X5_split_142.eq_1]
    refine ok_gR (v := 61) hT rfl (hR 57 10 rfl) ?_
    refine ok_s14 hT rfl (by decide) (by have q1 := hD.1; have q2 := hD.2.1; have q3 := hD0.1; have q4 := hD0.2.1; first | omega | decide | (simp only [Int32.le_iff_toInt_le, Int32.lt_iff_toInt_lt, ti_add, ti_sub, ti_mul, Int32.reduceToInt] at *; omega)) (by have q1 := hD.1; have q2 := hD.2.1; have q3 := hD0.1; have q4 := hD0.2.1; first | omega | decide | (simp only [Int32.le_iff_toInt_le, Int32.lt_iff_toInt_lt, ti_add, ti_sub, ti_mul, Int32.reduceToInt] at *; omega)) (fun σ5 eσ5 hOσ5 hT => ?_)
    have hD : RD σ5.1 := RD_k eσ5 (Or.inr rfl) hD
    refine ok_gR (v := 63) hT rfl (hR 57 12 rfl) ?_
    refine ok_gI0 hT rfl (by decide) ?_
    refine ok_s14 hT rfl (by decide) (by have q1 := hD.1; have q2 := hD.2.1; have q3 := hD0.1; have q4 := hD0.2.1; first | omega | decide | (simp only [Int32.le_iff_toInt_le, Int32.lt_iff_toInt_lt, ti_add, ti_sub, ti_mul, Int32.reduceToInt] at *; omega)) (by have q1 := hD.1; have q2 := hD.2.1; have q3 := hD0.1; have q4 := hD0.2.1; first | omega | decide | (simp only [Int32.le_iff_toInt_le, Int32.lt_iff_toInt_lt, ti_add, ti_sub, ti_mul, Int32.reduceToInt] at *; omega)) (fun σ8 eσ8 hOσ8 hT => ?_)
    have hD : RD σ8.1 := RD_s eσ8 hD0.2.1 hD
    refine ok_gR (v := 64) hT rfl (hR 57 13 rfl) ?_
    refine ok_gI0 hT rfl (by decide) ?_
    refine ok_s14 hT rfl (by decide) (by have q1 := hD.1; have q2 := hD.2.1; have q3 := hD0.1; have q4 := hD0.2.1; first | omega | decide | (simp only [Int32.le_iff_toInt_le, Int32.lt_iff_toInt_lt, ti_add, ti_sub, ti_mul, Int32.reduceToInt] at *; omega)) (by have q1 := hD.1; have q2 := hD.2.1; have q3 := hD0.1; have q4 := hD0.2.1; first | omega | decide | (simp only [Int32.le_iff_toInt_le, Int32.lt_iff_toInt_lt, ti_add, ti_sub, ti_mul, Int32.reduceToInt] at *; omega)) (fun σ11 eσ11 hOσ11 hT => ?_)
    have hD : RD σ11.1 := RD_e eσ11 hD0.2.1 hD
    exact ok_some ⟨hT, (show RD σ11.1 from by exact hD)⟩
  · refine ok_if (fun hc12 => ?_) (fun hc12 => ?_)
    · rw [J_X5_split_142.eq_1]
      refine ok_gR (v := 61) hT rfl (hR 57 10 rfl) ?_
      refine ok_s14 hT rfl (by decide) (by have q1 := hD.1; have q2 := hD.2.1; have q3 := hD0.1; have q4 := hD0.2.1; first | omega | decide | (simp only [Int32.le_iff_toInt_le, Int32.lt_iff_toInt_lt, ti_add, ti_sub, ti_mul, Int32.reduceToInt] at *; omega)) (by have q1 := hD.1; have q2 := hD.2.1; have q3 := hD0.1; have q4 := hD0.2.1; first | omega | decide | (simp only [Int32.le_iff_toInt_le, Int32.lt_iff_toInt_lt, ti_add, ti_sub, ti_mul, Int32.reduceToInt] at *; omega)) (fun σ14 eσ14 hOσ14 hT => ?_)
      have hD : RD σ14.1 := RD_k eσ14 (Or.inr rfl) hD
      refine ok_gR (v := 63) hT rfl (hR 57 12 rfl) ?_
      refine ok_gI0 hT rfl (by decide) ?_
      refine ok_s14 hT rfl (by decide) (by have q1 := hD.1; have q2 := hD.2.1; have q3 := hD0.1; have q4 := hD0.2.1; first | omega | decide | (simp only [Int32.le_iff_toInt_le, Int32.lt_iff_toInt_lt, ti_add, ti_sub, ti_mul, Int32.reduceToInt] at *; omega)) (by have q1 := hD.1; have q2 := hD.2.1; have q3 := hD0.1; have q4 := hD0.2.1; first | omega | decide | (simp only [Int32.le_iff_toInt_le, Int32.lt_iff_toInt_lt, ti_add, ti_sub, ti_mul, Int32.reduceToInt] at *; omega)) (fun σ17 eσ17 hOσ17 hT => ?_)
      have hD : RD σ17.1 := RD_s eσ17 hD0.2.1 hD
      refine ok_gR (v := 64) hT rfl (hR 57 13 rfl) ?_
      refine ok_gI0 hT rfl (by decide) ?_
      refine ok_s14 hT rfl (by decide) (by have q1 := hD.1; have q2 := hD.2.1; have q3 := hD0.1; have q4 := hD0.2.1; first | omega | decide | (simp only [Int32.le_iff_toInt_le, Int32.lt_iff_toInt_lt, ti_add, ti_sub, ti_mul, Int32.reduceToInt] at *; omega)) (by have q1 := hD.1; have q2 := hD.2.1; have q3 := hD0.1; have q4 := hD0.2.1; first | omega | decide | (simp only [Int32.le_iff_toInt_le, Int32.lt_iff_toInt_lt, ti_add, ti_sub, ti_mul, Int32.reduceToInt] at *; omega)) (fun σ20 eσ20 hOσ20 hT => ?_)
      have hD : RD σ20.1 := RD_e eσ20 hD0.2.1 hD
      exact ok_some ⟨hT, (show RD σ20.1 from by exact hD)⟩
    · refine ok_gRX hT hX ?_
      refine ok_aIn rfl (by have q1 := hD.1; have q2 := hD.2.1; have q3 := hD0.1; have q4 := hD0.2.1; first | omega | decide | (simp only [Int32.le_iff_toInt_le, Int32.lt_iff_toInt_lt, ti_add, ti_sub, ti_mul, Int32.reduceToInt] at *; omega)) (by have q1 := hD.1; have q2 := hD.2.1; have q3 := hD0.1; have q4 := hD0.2.1; first | omega | decide | (simp only [Int32.le_iff_toInt_le, Int32.lt_iff_toInt_lt, ti_add, ti_sub, ti_mul, Int32.reduceToInt] at *; omega)) (fun v22 ev22 => ?_)
      refine ok_if (fun hc23 => ?_) (fun hc23 => ?_)
      · exact ih4_1 (x1_1, x2_1 + 1, σ1) (show Tr [61, 62, 63, 64] σ0 σ1 ∧ ((0 ≤ x1_1.toInt ∧ x1_1.toInt ≤ 600) ∧ 0 ≤ (x2_1 + 1).toInt ∧ (x2_1 + 1).toInt ≤ 600) ∧ (RD σ1.1) from ⟨hT, (by have q1 := hD.1; have q2 := hD.2.1; have q3 := hD0.1; have q4 := hD0.2.1; first | omega | decide | (simp only [Int32.le_iff_toInt_le, Int32.lt_iff_toInt_lt, ti_add, ti_sub, ti_mul, Int32.reduceToInt] at *; omega)), hD⟩) (show (601 - x1_1.toInt).toNat + (601 - (x2_1 + 1).toInt).toNat < (601 - x1_1.toInt).toNat + (601 - x2_1.toInt).toNat from (by have q1 := hD.1; have q2 := hD.2.1; have q3 := hD0.1; have q4 := hD0.2.1; first | omega | decide | (simp only [Int32.le_iff_toInt_le, Int32.lt_iff_toInt_lt, ti_add, ti_sub, ti_mul, Int32.reduceToInt] at *; omega)))
      · refine ok_gRX hT hX ?_
        refine ok_aIn rfl (by have q1 := hD.1; have q2 := hD.2.1; have q3 := hD0.1; have q4 := hD0.2.1; first | omega | decide | (simp only [Int32.le_iff_toInt_le, Int32.lt_iff_toInt_lt, ti_add, ti_sub, ti_mul, Int32.reduceToInt] at *; omega)) (by have q1 := hD.1; have q2 := hD.2.1; have q3 := hD0.1; have q4 := hD0.2.1; first | omega | decide | (simp only [Int32.le_iff_toInt_le, Int32.lt_iff_toInt_lt, ti_add, ti_sub, ti_mul, Int32.reduceToInt] at *; omega)) (fun v25 ev25 => ?_)
        refine ok_if (fun hc26 => ?_) (fun hc26 => ?_)
        · exact ih4_1 (x1_1, x2_1 + 1, σ1) (show Tr [61, 62, 63, 64] σ0 σ1 ∧ ((0 ≤ x1_1.toInt ∧ x1_1.toInt ≤ 600) ∧ 0 ≤ (x2_1 + 1).toInt ∧ (x2_1 + 1).toInt ≤ 600) ∧ (RD σ1.1) from ⟨hT, (by have q1 := hD.1; have q2 := hD.2.1; have q3 := hD0.1; have q4 := hD0.2.1; first | omega | decide | (simp only [Int32.le_iff_toInt_le, Int32.lt_iff_toInt_lt, ti_add, ti_sub, ti_mul, Int32.reduceToInt] at *; omega)), hD⟩) (show (601 - x1_1.toInt).toNat + (601 - (x2_1 + 1).toInt).toNat < (601 - x1_1.toInt).toNat + (601 - x2_1.toInt).toNat from (by have q1 := hD.1; have q2 := hD.2.1; have q3 := hD0.1; have q4 := hD0.2.1; first | omega | decide | (simp only [Int32.le_iff_toInt_le, Int32.lt_iff_toInt_lt, ti_add, ti_sub, ti_mul, Int32.reduceToInt] at *; omega)))
        · refine ok_gR (v := 63) hT rfl (hR 57 12 rfl) ?_
          refine ok_s14 hT rfl (by decide) (by have q1 := hD.1; have q2 := hD.2.1; have q3 := hD0.1; have q4 := hD0.2.1; first | omega | decide | (simp only [Int32.le_iff_toInt_le, Int32.lt_iff_toInt_lt, ti_add, ti_sub, ti_mul, Int32.reduceToInt] at *; omega)) (by have q1 := hD.1; have q2 := hD.2.1; have q3 := hD0.1; have q4 := hD0.2.1; first | omega | decide | (simp only [Int32.le_iff_toInt_le, Int32.lt_iff_toInt_lt, ti_add, ti_sub, ti_mul, Int32.reduceToInt] at *; omega)) (fun σ28 eσ28 hOσ28 hT => ?_)
          have hD : RD σ28.1 := RD_s eσ28 (by have q1 := hD.1; have q2 := hD.2.1; have q3 := hD0.1; have q4 := hD0.2.1; first | omega | decide | (simp only [Int32.le_iff_toInt_le, Int32.lt_iff_toInt_lt, ti_add, ti_sub, ti_mul, Int32.reduceToInt] at *; omega)) hD
          refine ok_gRX hT hX ?_
          refine ok_aIn rfl (by have q1 := hD.1; have q2 := hD.2.1; have q3 := hD0.1; have q4 := hD0.2.1; first | omega | decide | (simp only [Int32.le_iff_toInt_le, Int32.lt_iff_toInt_lt, ti_add, ti_sub, ti_mul, Int32.reduceToInt] at *; omega)) (by have q1 := hD.1; have q2 := hD.2.1; have q3 := hD0.1; have q4 := hD0.2.1; first | omega | decide | (simp only [Int32.le_iff_toInt_le, Int32.lt_iff_toInt_lt, ti_add, ti_sub, ti_mul, Int32.reduceToInt] at *; omega)) (fun v30 ev30 => ?_)
          refine ok_zbT (Q := fun V σ => V = 0 ∨ V = 1) hT (s_X5_isLetter hN (hR.tr hT) ) (fun _ h9 => absurd h9 List.not_mem_nil) (fun v31 σ32 hOσ32 hT hqv31 => ?_)
          have hqv31 : v31 = 0 ∨ v31 = 1 := hqv31
          have hD : RD σ32.1 := RD.tr hOσ32 (by decide) (by decide) (by decide) (by decide) hD
          refine ok_if (fun hc33 => ?_) (fun hc33 => ?_)
          · refine ok_gRX hT hX ?_
            refine ok_aIn rfl (by have q1 := hD.1; have q2 := hD.2.1; have q3 := hD0.1; have q4 := hD0.2.1; first | omega | decide | (simp only [Int32.le_iff_toInt_le, Int32.lt_iff_toInt_lt, ti_add, ti_sub, ti_mul, Int32.reduceToInt] at *; omega)) (by have q1 := hD.1; have q2 := hD.2.1; have q3 := hD0.1; have q4 := hD0.2.1; first | omega | decide | (simp only [Int32.le_iff_toInt_le, Int32.lt_iff_toInt_lt, ti_add, ti_sub, ti_mul, Int32.reduceToInt] at *; omega)) (fun v35 ev35 => ?_)
            refine ok_zbT (Q := fun V σ => V = 0 ∨ V = 1) hT (s_X5_isDigit hN (hR.tr hT) ) (fun _ h9 => absurd h9 List.not_mem_nil) (fun v36 σ37 hOσ37 hT hqv36 => ?_)
            have hqv36 : v36 = 0 ∨ v36 = 1 := hqv36
            have hD : RD σ37.1 := RD.tr hOσ37 (by decide) (by decide) (by decide) (by decide) hD
            refine ok_if (fun hc38 => ?_) (fun hc38 => ?_)
            · refine ok_gR (v := 61) hT rfl (hR 57 10 rfl) ?_
              refine ok_gRX hT hX ?_
              refine ok_aIn rfl (by have q1 := hD.1; have q2 := hD.2.1; have q3 := hD0.1; have q4 := hD0.2.1; first | omega | decide | (simp only [Int32.le_iff_toInt_le, Int32.lt_iff_toInt_lt, ti_add, ti_sub, ti_mul, Int32.reduceToInt] at *; omega)) (by have q1 := hD.1; have q2 := hD.2.1; have q3 := hD0.1; have q4 := hD0.2.1; first | omega | decide | (simp only [Int32.le_iff_toInt_le, Int32.lt_iff_toInt_lt, ti_add, ti_sub, ti_mul, Int32.reduceToInt] at *; omega)) (fun v41 ev41 => ?_)
              refine ok_zbT (Q := fun V σ => V = 0 ∨ V = 1) hT (s_X5_isSign hN (hR.tr hT) ) (fun _ h9 => absurd h9 List.not_mem_nil) (fun v42 σ43 hOσ43 hT hqv42 => ?_)
              have hqv42 : v42 = 0 ∨ v42 = 1 := hqv42
              have hD : RD σ43.1 := RD.tr hOσ43 (by decide) (by decide) (by decide) (by decide) hD
              refine ok_if (fun hc44 => ?_) (fun hc44 => ?_)
              · refine ok_s14 hT rfl (by decide) (by have q1 := hD.1; have q2 := hD.2.1; have q3 := hD0.1; have q4 := hD0.2.1; first | omega | decide | (simp only [Int32.le_iff_toInt_le, Int32.lt_iff_toInt_lt, ti_add, ti_sub, ti_mul, Int32.reduceToInt] at *; omega)) (by have q1 := hD.1; have q2 := hD.2.1; have q3 := hD0.1; have q4 := hD0.2.1; first | omega | decide | (simp only [Int32.le_iff_toInt_le, Int32.lt_iff_toInt_lt, ti_add, ti_sub, ti_mul, Int32.reduceToInt] at *; omega)) (fun σ45 eσ45 hOσ45 hT => ?_)
                have hD : RD σ45.1 := RD_k eσ45 (Or.inl (by have q1 := hD.1; have q2 := hD.2.1; have q3 := hD0.1; have q4 := hD0.2.1; first | omega | decide | (simp only [Int32.le_iff_toInt_le, Int32.lt_iff_toInt_lt, ti_add, ti_sub, ti_mul, Int32.reduceToInt] at *; omega))) hD
                refine ok_gR (v := 64) hT rfl (hR 57 13 rfl) ?_
                refine ok_s14 hT rfl (by decide) (by have q1 := hD.1; have q2 := hD.2.1; have q3 := hD0.1; have q4 := hD0.2.1; first | omega | decide | (simp only [Int32.le_iff_toInt_le, Int32.lt_iff_toInt_lt, ti_add, ti_sub, ti_mul, Int32.reduceToInt] at *; omega)) (by have q1 := hD.1; have q2 := hD.2.1; have q3 := hD0.1; have q4 := hD0.2.1; first | omega | decide | (simp only [Int32.le_iff_toInt_le, Int32.lt_iff_toInt_lt, ti_add, ti_sub, ti_mul, Int32.reduceToInt] at *; omega)) (fun σ47 eσ47 hOσ47 hT => ?_)
                have hD : RD σ47.1 := RD_e eσ47 (by have q1 := hD.1; have q2 := hD.2.1; have q3 := hD0.1; have q4 := hD0.2.1; first | omega | decide | (simp only [Int32.le_iff_toInt_le, Int32.lt_iff_toInt_lt, ti_add, ti_sub, ti_mul, Int32.reduceToInt] at *; omega)) hD
                exact ih4_1 (x1_1 + 1, x2_1 + 1, σ47) (show Tr [61, 62, 63, 64] σ0 σ47 ∧ ((0 ≤ (x1_1 + 1).toInt ∧ (x1_1 + 1).toInt ≤ 600) ∧ 0 ≤ (x2_1 + 1).toInt ∧ (x2_1 + 1).toInt ≤ 600) ∧ (RD σ47.1) from ⟨hT, (by have q1 := hD.1; have q2 := hD.2.1; have q3 := hD0.1; have q4 := hD0.2.1; first | omega | decide | (simp only [Int32.le_iff_toInt_le, Int32.lt_iff_toInt_lt, ti_add, ti_sub, ti_mul, Int32.reduceToInt] at *; omega)), hD⟩) (show (601 - (x1_1 + 1).toInt).toNat + (601 - (x2_1 + 1).toInt).toNat < (601 - x1_1.toInt).toNat + (601 - x2_1.toInt).toNat from (by have q1 := hD.1; have q2 := hD.2.1; have q3 := hD0.1; have q4 := hD0.2.1; first | omega | decide | (simp only [Int32.le_iff_toInt_le, Int32.lt_iff_toInt_lt, ti_add, ti_sub, ti_mul, Int32.reduceToInt] at *; omega)))
              · refine ok_gRX hT hX ?_
                refine ok_aIn rfl (by have q1 := hD.1; have q2 := hD.2.1; have q3 := hD0.1; have q4 := hD0.2.1; first | omega | decide | (simp only [Int32.le_iff_toInt_le, Int32.lt_iff_toInt_lt, ti_add, ti_sub, ti_mul, Int32.reduceToInt] at *; omega)) (by have q1 := hD.1; have q2 := hD.2.1; have q3 := hD0.1; have q4 := hD0.2.1; first | omega | decide | (simp only [Int32.le_iff_toInt_le, Int32.lt_iff_toInt_lt, ti_add, ti_sub, ti_mul, Int32.reduceToInt] at *; omega)) (fun v49 ev49 => ?_)
                refine ok_s14 hT rfl (by decide) (by have q1 := hD.1; have q2 := hD.2.1; have q3 := hD0.1; have q4 := hD0.2.1; first | omega | decide | (simp only [Int32.le_iff_toInt_le, Int32.lt_iff_toInt_lt, ti_add, ti_sub, ti_mul, Int32.reduceToInt] at *; omega)) (by have q1 := hD.1; have q2 := hD.2.1; have q3 := hD0.1; have q4 := hD0.2.1; first | omega | decide | (simp only [Int32.le_iff_toInt_le, Int32.lt_iff_toInt_lt, ti_add, ti_sub, ti_mul, Int32.reduceToInt] at *; omega)) (fun σ50 eσ50 hOσ50 hT => ?_)
                have hD : RD σ50.1 := RD_k eσ50 (Or.inl (by have q1 := hD.1; have q2 := hD.2.1; have q3 := hD0.1; have q4 := hD0.2.1; first | omega | decide | (simp only [Int32.le_iff_toInt_le, Int32.lt_iff_toInt_lt, ti_add, ti_sub, ti_mul, Int32.reduceToInt] at *; omega))) hD
                refine ok_gR (v := 64) hT rfl (hR 57 13 rfl) ?_
                refine ok_s14 hT rfl (by decide) (by have q1 := hD.1; have q2 := hD.2.1; have q3 := hD0.1; have q4 := hD0.2.1; first | omega | decide | (simp only [Int32.le_iff_toInt_le, Int32.lt_iff_toInt_lt, ti_add, ti_sub, ti_mul, Int32.reduceToInt] at *; omega)) (by have q1 := hD.1; have q2 := hD.2.1; have q3 := hD0.1; have q4 := hD0.2.1; first | omega | decide | (simp only [Int32.le_iff_toInt_le, Int32.lt_iff_toInt_lt, ti_add, ti_sub, ti_mul, Int32.reduceToInt] at *; omega)) (fun σ52 eσ52 hOσ52 hT => ?_)
                have hD : RD σ52.1 := RD_e eσ52 (by have q1 := hD.1; have q2 := hD.2.1; have q3 := hD0.1; have q4 := hD0.2.1; first | omega | decide | (simp only [Int32.le_iff_toInt_le, Int32.lt_iff_toInt_lt, ti_add, ti_sub, ti_mul, Int32.reduceToInt] at *; omega)) hD
                exact ih4_1 (x1_1 + 1, x2_1 + 1, σ52) (show Tr [61, 62, 63, 64] σ0 σ52 ∧ ((0 ≤ (x1_1 + 1).toInt ∧ (x1_1 + 1).toInt ≤ 600) ∧ 0 ≤ (x2_1 + 1).toInt ∧ (x2_1 + 1).toInt ≤ 600) ∧ (RD σ52.1) from ⟨hT, (by have q1 := hD.1; have q2 := hD.2.1; have q3 := hD0.1; have q4 := hD0.2.1; first | omega | decide | (simp only [Int32.le_iff_toInt_le, Int32.lt_iff_toInt_lt, ti_add, ti_sub, ti_mul, Int32.reduceToInt] at *; omega)), hD⟩) (show (601 - (x1_1 + 1).toInt).toNat + (601 - (x2_1 + 1).toInt).toNat < (601 - x1_1.toInt).toNat + (601 - x2_1.toInt).toNat from (by have q1 := hD.1; have q2 := hD.2.1; have q3 := hD0.1; have q4 := hD0.2.1; first | omega | decide | (simp only [Int32.le_iff_toInt_le, Int32.lt_iff_toInt_lt, ti_add, ti_sub, ti_mul, Int32.reduceToInt] at *; omega)))
            · refine ok_gC rfl ?_
              refine ok_zbT (Q := fun V σ => x2_1.toInt ≤ V.toInt ∧ V.toInt ≤ 600 ∧ RD σ.1) hT (s_X5_splitNumber hN (hR.tr hT) (hT.1.2 hX) (hD) (by have q1 := hD.1; have q2 := hD.2.1; have q3 := hD0.1; have q4 := hD0.2.1; first | omega | decide | (simp only [Int32.le_iff_toInt_le, Int32.lt_iff_toInt_lt, ti_add, ti_sub, ti_mul, Int32.reduceToInt] at *; omega)) (by have q1 := hD.1; have q2 := hD.2.1; have q3 := hD0.1; have q4 := hD0.2.1; first | omega | decide | (simp only [Int32.le_iff_toInt_le, Int32.lt_iff_toInt_lt, ti_add, ti_sub, ti_mul, Int32.reduceToInt] at *; omega))) (by decide) (fun v53 σ54 hOσ54 hT hqv53 => ?_)
              have hqv53 : x2_1.toInt ≤ v53.toInt ∧ v53.toInt ≤ 600 ∧ RD σ54.1 := hqv53
              have hD : RD σ54.1 := hqv53.2.2
              refine ok_gR (v := 64) hT rfl (hR 57 13 rfl) ?_
              refine ok_s14 hT rfl (by decide) (by have q1 := hD.1; have q2 := hD.2.1; have q3 := hD0.1; have q4 := hD0.2.1; first | omega | decide | (simp only [Int32.le_iff_toInt_le, Int32.lt_iff_toInt_lt, ti_add, ti_sub, ti_mul, Int32.reduceToInt] at *; omega)) (by have q1 := hD.1; have q2 := hD.2.1; have q3 := hD0.1; have q4 := hD0.2.1; first | omega | decide | (simp only [Int32.le_iff_toInt_le, Int32.lt_iff_toInt_lt, ti_add, ti_sub, ti_mul, Int32.reduceToInt] at *; omega)) (fun σ56 eσ56 hOσ56 hT => ?_)
              have hD : RD σ56.1 := RD_e eσ56 (by have q1 := hD.1; have q2 := hD.2.1; have q3 := hD0.1; have q4 := hD0.2.1; first | omega | decide | (simp only [Int32.le_iff_toInt_le, Int32.lt_iff_toInt_lt, ti_add, ti_sub, ti_mul, Int32.reduceToInt] at *; omega)) hD
              exact ih4_1 (x1_1 + 1, v53, σ56) (show Tr [61, 62, 63, 64] σ0 σ56 ∧ ((0 ≤ (x1_1 + 1).toInt ∧ (x1_1 + 1).toInt ≤ 600) ∧ 0 ≤ v53.toInt ∧ v53.toInt ≤ 600) ∧ (RD σ56.1) from ⟨hT, (by have q1 := hD.1; have q2 := hD.2.1; have q3 := hD0.1; have q4 := hD0.2.1; first | omega | decide | (simp only [Int32.le_iff_toInt_le, Int32.lt_iff_toInt_lt, ti_add, ti_sub, ti_mul, Int32.reduceToInt] at *; omega)), hD⟩) (show (601 - (x1_1 + 1).toInt).toNat + (601 - v53.toInt).toNat < (601 - x1_1.toInt).toNat + (601 - x2_1.toInt).toNat from (by have q1 := hD.1; have q2 := hD.2.1; have q3 := hD0.1; have q4 := hD0.2.1; first | omega | decide | (simp only [Int32.le_iff_toInt_le, Int32.lt_iff_toInt_lt, ti_add, ti_sub, ti_mul, Int32.reduceToInt] at *; omega)))
          · refine ok_gC rfl ?_
            refine ok_zbT (Q := fun V σ => x2_1.toInt ≤ V.toInt ∧ V.toInt ≤ 600 ∧ RD σ.1) hT (s_X5_splitWord hN (hR.tr hT) (hT.1.2 hX) (hD) (by have q1 := hD.1; have q2 := hD.2.1; have q3 := hD0.1; have q4 := hD0.2.1; first | omega | decide | (simp only [Int32.le_iff_toInt_le, Int32.lt_iff_toInt_lt, ti_add, ti_sub, ti_mul, Int32.reduceToInt] at *; omega)) (by have q1 := hD.1; have q2 := hD.2.1; have q3 := hD0.1; have q4 := hD0.2.1; first | omega | decide | (simp only [Int32.le_iff_toInt_le, Int32.lt_iff_toInt_lt, ti_add, ti_sub, ti_mul, Int32.reduceToInt] at *; omega))) (by decide) (fun v57 σ58 hOσ58 hT hqv57 => ?_)
            have hqv57 : x2_1.toInt ≤ v57.toInt ∧ v57.toInt ≤ 600 ∧ RD σ58.1 := hqv57
            have hD : RD σ58.1 := hqv57.2.2
            refine ok_gR (v := 64) hT rfl (hR 57 13 rfl) ?_
            refine ok_s14 hT rfl (by decide) (by have q1 := hD.1; have q2 := hD.2.1; have q3 := hD0.1; have q4 := hD0.2.1; first | omega | decide | (simp only [Int32.le_iff_toInt_le, Int32.lt_iff_toInt_lt, ti_add, ti_sub, ti_mul, Int32.reduceToInt] at *; omega)) (by have q1 := hD.1; have q2 := hD.2.1; have q3 := hD0.1; have q4 := hD0.2.1; first | omega | decide | (simp only [Int32.le_iff_toInt_le, Int32.lt_iff_toInt_lt, ti_add, ti_sub, ti_mul, Int32.reduceToInt] at *; omega)) (fun σ60 eσ60 hOσ60 hT => ?_)
            have hD : RD σ60.1 := RD_e eσ60 (by have q1 := hD.1; have q2 := hD.2.1; have q3 := hD0.1; have q4 := hD0.2.1; first | omega | decide | (simp only [Int32.le_iff_toInt_le, Int32.lt_iff_toInt_lt, ti_add, ti_sub, ti_mul, Int32.reduceToInt] at *; omega)) hD
            exact ih4_1 (x1_1 + 1, v57, σ60) (show Tr [61, 62, 63, 64] σ0 σ60 ∧ ((0 ≤ (x1_1 + 1).toInt ∧ (x1_1 + 1).toInt ≤ 600) ∧ 0 ≤ v57.toInt ∧ v57.toInt ≤ 600) ∧ (RD σ60.1) from ⟨hT, (by have q1 := hD.1; have q2 := hD.2.1; have q3 := hD0.1; have q4 := hD0.2.1; first | omega | decide | (simp only [Int32.le_iff_toInt_le, Int32.lt_iff_toInt_lt, ti_add, ti_sub, ti_mul, Int32.reduceToInt] at *; omega)), hD⟩) (show (601 - (x1_1 + 1).toInt).toNat + (601 - v57.toInt).toNat < (601 - x1_1.toInt).toNat + (601 - x2_1.toInt).toNat from (by have q1 := hD.1; have q2 := hD.2.1; have q3 := hD0.1; have q4 := hD0.2.1; first | omega | decide | (simp only [Int32.le_iff_toInt_le, Int32.lt_iff_toInt_lt, ti_add, ti_sub, ti_mul, Int32.reduceToInt] at *; omega)))

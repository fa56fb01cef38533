set_option maxHeartbeats 4000000 in
set_option maxRecDepth 100000 in
theorem s_X6_acrossFrom_2 {N : Nat} (hN : 1048576 ≤ N) {x1 : Int32} {x2 : Int32} {σ0 : zS}  (hR : RF σ0.2.2) (hW : WI 2 σ0.1) : Ok (f_X6_acrossFrom N 2 x1 x2 σ0) (fun r => Tr [] σ0 r.2 ∧ (-1 ≤ r.1.toInt ∧ r.1.toInt ≤ 7)) := by
  have hT : Tr [] σ0 σ0 := Tr.rf
  rw [f_X6_acrossFrom.eq_1]
  refine ok_if (fun hc1 => ?_) (fun hc1 => ?_)
  · exact ok_some ⟨hT, (show -1 ≤ (-1 : Int32).toInt ∧ (-1 : Int32).toInt ≤ 7 from by first | omega | decide | (simp only [Int32.le_iff_toInt_le, Int32.lt_iff_toInt_lt, ti_add, ti_sub, ti_mul, Int32.reduceToInt] at *; omega))⟩
  · refine ok_if (fun hc2 => ?_) (fun hc2 => ?_)
    · refine ok_gR (v := 3) hT rfl (hR 2 3 rfl) ?_
      refine ok_aIn rfl (by first | omega | decide | (simp only [Int32.le_iff_toInt_le, Int32.lt_iff_toInt_lt, ti_add, ti_sub, ti_mul, Int32.reduceToInt] at *; omega)) (by first | omega | decide | (simp only [Int32.le_iff_toInt_le, Int32.lt_iff_toInt_lt, ti_add, ti_sub, ti_mul, Int32.reduceToInt] at *; omega)) (fun v4 ev4 => ?_)
      have qV17 : 0 ≤ v4.toInt ∧ v4.toInt ≤ 7 := by rw [ev4]; exact WI_from (B := 2) (i := (x1)) hT (by decide) hW (by simp only [Int32.le_iff_toInt_le, Int32.lt_iff_toInt_lt, ti_add, ti_sub, ti_mul, Int32.reduceToInt] at *; omega) (by simp only [Int32.le_iff_toInt_le, Int32.lt_iff_toInt_lt, ti_add, ti_sub, ti_mul, Int32.reduceToInt] at *; omega)
      refine ok_if (fun hc5 => ?_) (fun hc5 => ?_)
      · refine ok_gR (v := 4) hT rfl (hR 2 4 rfl) ?_
        refine ok_aIn rfl (by first | omega | decide | (simp only [Int32.le_iff_toInt_le, Int32.lt_iff_toInt_lt, ti_add, ti_sub, ti_mul, Int32.reduceToInt] at *; omega)) (by first | omega | decide | (simp only [Int32.le_iff_toInt_le, Int32.lt_iff_toInt_lt, ti_add, ti_sub, ti_mul, Int32.reduceToInt] at *; omega)) (fun v7 ev7 => ?_)
        have qV27 : 0 ≤ v7.toInt ∧ v7.toInt ≤ 7 := by rw [ev7]; exact WI_till (B := 2) (i := (x1)) hT (by decide) hW (by simp only [Int32.le_iff_toInt_le, Int32.lt_iff_toInt_lt, ti_add, ti_sub, ti_mul, Int32.reduceToInt] at *; omega) (by simp only [Int32.le_iff_toInt_le, Int32.lt_iff_toInt_lt, ti_add, ti_sub, ti_mul, Int32.reduceToInt] at *; omega)
        exact ok_some ⟨hT, (show -1 ≤ v7.toInt ∧ v7.toInt ≤ 7 from by first | omega | decide | (simp only [Int32.le_iff_toInt_le, Int32.lt_iff_toInt_lt, ti_add, ti_sub, ti_mul, Int32.reduceToInt] at *; omega))⟩
      · refine ok_gR (v := 4) hT rfl (hR 2 4 rfl) ?_
        refine ok_aIn rfl (by first | omega | decide | (simp only [Int32.le_iff_toInt_le, Int32.lt_iff_toInt_lt, ti_add, ti_sub, ti_mul, Int32.reduceToInt] at *; omega)) (by first | omega | decide | (simp only [Int32.le_iff_toInt_le, Int32.lt_iff_toInt_lt, ti_add, ti_sub, ti_mul, Int32.reduceToInt] at *; omega)) (fun v9 ev9 => ?_)
        have qV34 : 0 ≤ v9.toInt ∧ v9.toInt ≤ 7 := by rw [ev9]; exact WI_till (B := 2) (i := (x1)) hT (by decide) hW (by simp only [Int32.le_iff_toInt_le, Int32.lt_iff_toInt_lt, ti_add, ti_sub, ti_mul, Int32.reduceToInt] at *; omega) (by simp only [Int32.le_iff_toInt_le, Int32.lt_iff_toInt_lt, ti_add, ti_sub, ti_mul, Int32.reduceToInt] at *; omega)
        refine ok_if (fun hc10 => ?_) (fun hc10 => ?_)
        · refine ok_gR (v := 3) hT rfl (hR 2 3 rfl) ?_
          refine ok_aIn rfl (by first | omega | decide | (simp only [Int32.le_iff_toInt_le, Int32.lt_iff_toInt_lt, ti_add, ti_sub, ti_mul, Int32.reduceToInt] at *; omega)) (by first | omega | decide | (simp only [Int32.le_iff_toInt_le, Int32.lt_iff_toInt_lt, ti_add, ti_sub, ti_mul, Int32.reduceToInt] at *; omega)) (fun v12 ev12 => ?_)
          have qV44 : 0 ≤ v12.toInt ∧ v12.toInt ≤ 7 := by rw [ev12]; exact WI_from (B := 2) (i := (x1)) hT (by decide) hW (by simp only [Int32.le_iff_toInt_le, Int32.lt_iff_toInt_lt, ti_add, ti_sub, ti_mul, Int32.reduceToInt] at *; omega) (by simp only [Int32.le_iff_toInt_le, Int32.lt_iff_toInt_lt, ti_add, ti_sub, ti_mul, Int32.reduceToInt] at *; omega)
          exact ok_some ⟨hT, (show -1 ≤ v12.toInt ∧ v12.toInt ≤ 7 from by first | omega | decide | (simp only [Int32.le_iff_toInt_le, Int32.lt_iff_toInt_lt, ti_add, ti_sub, ti_mul, Int32.reduceToInt] at *; omega))⟩
        · exact ok_some ⟨hT, (show -1 ≤ (-1 : Int32).toInt ∧ (-1 : Int32).toInt ≤ 7 from by first | omega | decide | (simp only [Int32.le_iff_toInt_le, Int32.lt_iff_toInt_lt, ti_add, ti_sub, ti_mul, Int32.reduceToInt] at *; omega))⟩
    · exact ok_some ⟨hT, (show -1 ≤ (-1 : Int32).toInt ∧ (-1 : Int32).toInt ≤ 7 from by first | omega | decide | (simp only [Int32.le_iff_toInt_le, Int32.lt_iff_toInt_lt, ti_add, ti_sub, ti_mul, Int32.reduceToInt] at *; omega))⟩

set_option maxHeartbeats 4000000 in
set_option maxRecDepth 100000 in
theorem s_X6_touchedBy_2 {N : Nat} (hN : 1048576 ≤ N) {x1 : Int32} {σ0 : zS}  (hR : RF σ0.2.2)  : Ok (f_X6_touchedBy N 2 x1 σ0) (fun r => Tr [] σ0 r.2 ∧ (True)) := by
  have hT : Tr [] σ0 σ0 := Tr.rf
  rw [f_X6_touchedBy.eq_1]
  refine ok_lp (fun t : Int32 × Int32 × zS => Tr [] σ0 (t.2.2) ∧ (0 ≤ (t.2.1).toInt)) (fun t : Int32 × Int32 × zS => (10 - (t.2.1).toInt).toNat) (fun again1 t hI ih4_1 => ?_) N _ (show Tr [] σ0 σ0 ∧ (0 ≤ (0 : Int32).toInt) from ⟨hT, (by first | omega | decide | (simp only [Int32.le_iff_toInt_le, Int32.lt_iff_toInt_lt, ti_add, ti_sub, ti_mul, Int32.reduceToInt] at *; omega))⟩) (show (10 - (0 : Int32).toInt).toNat < N from (by first | omega | decide | (simp only [Int32.le_iff_toInt_le, Int32.lt_iff_toInt_lt, ti_add, ti_sub, ti_mul, Int32.reduceToInt] at *; omega)))
  obtain ⟨x2_1, x3_1, σ1⟩ := t
  have hI : Tr [] σ0 σ1 ∧ (0 ≤ x3_1.toInt) := hI
  obtain ⟨hT, hI1⟩ := hI
  rw [F_X6_touchedBy_4.eq_1]
  refine ok_gI0 hT rfl (by decide) ?_
  refine ok_if (fun hc3 => ?_) (fun hc3 => ?_)
  · exact ok_some ⟨hT, trivial⟩
  · refine ok_if (fun hc4 => ?_) (fun hc4 => ?_)
    · exact ok_some ⟨hT, trivial⟩
    · refine ok_if (fun hc5 => ?_) (fun hc5 => ?_)
      · exact ih4_1 (x2_1, x3_1 + 1, σ1) (show Tr [] σ0 σ1 ∧ (0 ≤ (x3_1 + 1).toInt) from ⟨hT, (by first | omega | decide | (simp only [Int32.le_iff_toInt_le, Int32.lt_iff_toInt_lt, ti_add, ti_sub, ti_mul, Int32.reduceToInt] at *; omega))⟩) (show (10 - (x3_1 + 1).toInt).toNat < (10 - x3_1.toInt).toNat from (by first | omega | decide | (simp only [Int32.le_iff_toInt_le, Int32.lt_iff_toInt_lt, ti_add, ti_sub, ti_mul, Int32.reduceToInt] at *; omega)))
      · refine ok_gR (v := 3) hT rfl (hR 2 3 rfl) ?_
        refine ok_aIn rfl (by first | omega | decide | (simp only [Int32.le_iff_toInt_le, Int32.lt_iff_toInt_lt, ti_add, ti_sub, ti_mul, Int32.reduceToInt] at *; omega)) (by first | omega | decide | (simp only [Int32.le_iff_toInt_le, Int32.lt_iff_toInt_lt, ti_add, ti_sub, ti_mul, Int32.reduceToInt] at *; omega)) (fun v7 ev7 => ?_)
        refine ok_gR (v := 4) hT rfl (hR 2 4 rfl) ?_
        refine ok_aIn rfl (by first | omega | decide | (simp only [Int32.le_iff_toInt_le, Int32.lt_iff_toInt_lt, ti_add, ti_sub, ti_mul, Int32.reduceToInt] at *; omega)) (by first | omega | decide | (simp only [Int32.le_iff_toInt_le, Int32.lt_iff_toInt_lt, ti_add, ti_sub, ti_mul, Int32.reduceToInt] at *; omega)) (fun v9 ev9 => ?_)
        exact ih4_1 (x2_1 ||| (((1 : Int32) <<< (v7 &&& 31)) ||| ((1 : Int32) <<< (v9 &&& 31))), x3_1 + 1, σ1) (show Tr [] σ0 σ1 ∧ (0 ≤ (x3_1 + 1).toInt) from ⟨hT, (by first | omega | decide | (simp only [Int32.le_iff_toInt_le, Int32.lt_iff_toInt_lt, ti_add, ti_sub, ti_mul, Int32.reduceToInt] at *; omega))⟩) (show (10 - (x3_1 + 1).toInt).toNat < (10 - x3_1.toInt).toNat from (by first | omega | decide | (simp only [Int32.le_iff_toInt_le, Int32.lt_iff_toInt_lt, ti_add, ti_sub, ti_mul, Int32.reduceToInt] at *; omega)))

set_option maxHeartbeats 4000000 in
set_option maxRecDepth 100000 in
theorem s_X6_joinClumps {N : Nat} (hN : 1048576 ≤ N) {x1 : Int32} {x2 : Int32} {σ0 : zS}  (hR : RF σ0.2.2)  : Ok (f_X6_joinClumps N 124 x1 x2 σ0) (fun r => Tr [125] σ0 r.2 ∧ (r.1 = 0 ∨ r.1 = 1)) := by
  have hT : Tr [125] σ0 σ0 := Tr.rf
  rw [f_X6_joinClumps.eq_1]
  refine ok_if (fun hc1 => ?_) (fun hc1 => ?_)
  · exact ok_rZ (Or.inl rfl) ⟨hT, (show (0 : Int32) = 0 ∨ (0 : Int32) = 1 from by first | exact Or.inl rfl | exact Or.inr rfl)⟩
  · refine ok_if (fun hc2 => ?_) (fun hc2 => ?_)
    · exact ok_rZ (Or.inl rfl) ⟨hT, (show (0 : Int32) = 0 ∨ (0 : Int32) = 1 from by first | exact Or.inl rfl | exact Or.inr rfl)⟩
    · refine ok_if (fun hc3 => ?_) (fun hc3 => ?_)
      · exact ok_rZ (Or.inl rfl) ⟨hT, (show (0 : Int32) = 0 ∨ (0 : Int32) = 1 from by first | exact Or.inl rfl | exact Or.inr rfl)⟩
      · refine ok_if (fun hc4 => ?_) (fun hc4 => ?_)
        · exact ok_rZ (Or.inl rfl) ⟨hT, (show (0 : Int32) = 0 ∨ (0 : Int32) = 1 from by first | exact Or.inl rfl | exact Or.inr rfl)⟩
        · refine ok_gR (v := 125) hT rfl (hR 124 0 rfl) ?_
          refine ok_aIn rfl (by first | omega | decide | (simp only [Int32.le_iff_toInt_le, Int32.lt_iff_toInt_lt, ti_add, ti_sub, ti_mul, Int32.reduceToInt] at *; omega)) (by first | omega | decide | (simp only [Int32.le_iff_toInt_le, Int32.lt_iff_toInt_lt, ti_add, ti_sub, ti_mul, Int32.reduceToInt] at *; omega)) (fun v6 ev6 => ?_)
          refine ok_gR (v := 125) hT rfl (hR 124 0 rfl) ?_
          refine ok_aIn rfl (by first | omega | decide | (simp only [Int32.le_iff_toInt_le, Int32.lt_iff_toInt_lt, ti_add, ti_sub, ti_mul, Int32.reduceToInt] at *; omega)) (by first | omega | decide | (simp only [Int32.le_iff_toInt_le, Int32.lt_iff_toInt_lt, ti_add, ti_sub, ti_mul, Int32.reduceToInt] at *; omega)) (fun v8 ev8 => ?_)
          refine ok_if (fun hc9 => ?_) (fun hc9 => ?_)
          · exact ok_rZ (Or.inl rfl) ⟨hT, (show (0 : Int32) = 0 ∨ (0 : Int32) = 1 from by first | exact Or.inl rfl | exact Or.inr rfl)⟩
          · refine ok_gR (v := 125) hT rfl (hR 124 0 rfl) ?_
            refine ok_aIn rfl (by first | omega | decide | (simp only [Int32.le_iff_toInt_le, Int32.lt_iff_toInt_lt, ti_add, ti_sub, ti_mul, Int32.reduceToInt] at *; omega)) (by first | omega | decide | (simp only [Int32.le_iff_toInt_le, Int32.lt_iff_toInt_lt, ti_add, ti_sub, ti_mul, Int32.reduceToInt] at *; omega)) (fun v11 ev11 => ?_)
            refine ok_lp (fun t : Int32 × zS => Tr [125] σ0 (t.2) ∧ (0 ≤ (t.1).toInt)) (fun t : Int32 × zS => ((8 : Int32).toInt - (t.1).toInt).toNat) (fun again12 t hI ih47_12 => ?_) N _ (show Tr [125] σ0 σ0 ∧ (0 ≤ (0 : Int32).toInt) from ⟨hT, (by first | omega | decide | (simp only [Int32.le_iff_toInt_le, Int32.lt_iff_toInt_lt, ti_add, ti_sub, ti_mul, Int32.reduceToInt] at *; omega))⟩) (show ((8 : Int32).toInt - (0 : Int32).toInt).toNat < N from (by first | omega | decide | (simp only [Int32.le_iff_toInt_le, Int32.lt_iff_toInt_lt, ti_add, ti_sub, ti_mul, Int32.reduceToInt] at *; omega)))
            obtain ⟨x4_12, σ12⟩ := t
            have hI : Tr [125] σ0 σ12 ∧ (0 ≤ x4_12.toInt) := hI
            obtain ⟨hT, hI12⟩ := hI
            rw [F_X6_joinClumps_47.eq_1]
            refine ok_if (fun hc13 => ?_) (fun hc13 => ?_)
            · exact ok_rZ (Or.inr rfl) ⟨hT, (show (1 : Int32) = 0 ∨ (1 : Int32) = 1 from by first | exact Or.inl rfl | exact Or.inr rfl)⟩
            · refine ok_gR (v := 125) hT rfl (hR 124 0 rfl) ?_
              refine ok_aIn rfl (by first | omega | decide | (simp only [Int32.le_iff_toInt_le, Int32.lt_iff_toInt_lt, ti_add, ti_sub, ti_mul, Int32.reduceToInt] at *; omega)) (by first | omega | decide | (simp only [Int32.le_iff_toInt_le, Int32.lt_iff_toInt_lt, ti_add, ti_sub, ti_mul, Int32.reduceToInt] at *; omega)) (fun v15 ev15 => ?_)
              refine ok_if (fun hc16 => ?_) (fun hc16 => ?_)
              · refine ok_gR (v := 125) hT rfl (hR 124 0 rfl) ?_
                refine ok_gR (v := 125) hT rfl (hR 124 0 rfl) ?_
                refine ok_aIn rfl (by first | omega | decide | (simp only [Int32.le_iff_toInt_le, Int32.lt_iff_toInt_lt, ti_add, ti_sub, ti_mul, Int32.reduceToInt] at *; omega)) (by first | omega | decide | (simp only [Int32.le_iff_toInt_le, Int32.lt_iff_toInt_lt, ti_add, ti_sub, ti_mul, Int32.reduceToInt] at *; omega)) (fun v19 ev19 => ?_)
                refine ok_s14 hT rfl (by decide) (by first | omega | decide | (simp only [Int32.le_iff_toInt_le, Int32.lt_iff_toInt_lt, ti_add, ti_sub, ti_mul, Int32.reduceToInt] at *; omega)) (by first | omega | decide | (simp only [Int32.le_iff_toInt_le, Int32.lt_iff_toInt_lt, ti_add, ti_sub, ti_mul, Int32.reduceToInt] at *; omega)) (fun σ20 eσ20 hOσ20 hT => ?_)
                exact ih47_12 (x4_12 + 1, σ20) (show Tr [125] σ0 σ20 ∧ (0 ≤ (x4_12 + 1).toInt) from ⟨hT, (by first | omega | decide | (simp only [Int32.le_iff_toInt_le, Int32.lt_iff_toInt_lt, ti_add, ti_sub, ti_mul, Int32.reduceToInt] at *; omega))⟩) (show ((8 : Int32).toInt - (x4_12 + 1).toInt).toNat < ((8 : Int32).toInt - x4_12.toInt).toNat from (by first | omega | decide | (simp only [Int32.le_iff_toInt_le, Int32.lt_iff_toInt_lt, ti_add, ti_sub, ti_mul, Int32.reduceToInt] at *; omega)))
              · exact ih47_12 (x4_12 + 1, σ12) (show Tr [125] σ0 σ12 ∧ (0 ≤ (x4_12 + 1).toInt) from ⟨hT, (by first | omega | decide | (simp only [Int32.le_iff_toInt_le, Int32.lt_iff_toInt_lt, ti_add, ti_sub, ti_mul, Int32.reduceToInt] at *; omega))⟩) (show ((8 : Int32).toInt - (x4_12 + 1).toInt).toNat < ((8 : Int32).toInt - x4_12.toInt).toNat from (by first | omega | decide | (simp only [Int32.le_iff_toInt_le, Int32.lt_iff_toInt_lt, ti_add, ti_sub, ti_mul, Int32.reduceToInt] at *; omega)))

set_option maxHeartbeats 4000000 in
set_option maxRecDepth 100000 in
theorem s_X6_isWithoutRing_2 {N : Nat} (hN : 1048576 ≤ N) {x2 : Int32} {σ0 : zS}  (hR : RF σ0.2.2)  : Ok (f_X6_isWithoutRing N 124 2 x2 σ0) (fun r => Tr [125] σ0 r.2 ∧ (r.1 = 0 ∨ r.1 = 1)) := by
  have hT : Tr [125] σ0 σ0 := Tr.rf
  rw [f_X6_isWithoutRing.eq_1]
  refine ok_lp (fun t : Int32 × zS => Tr [125] σ0 (t.2) ∧ (0 ≤ (t.1).toInt)) (fun t : Int32 × zS => ((8 : Int32).toInt - (t.1).toInt).toNat) (fun again1 t hI ih2_1 => ?_) N _ (show Tr [125] σ0 σ0 ∧ (0 ≤ (0 : Int32).toInt) from ⟨hT, (by first | omega | decide | (simp only [Int32.le_iff_toInt_le, Int32.lt_iff_toInt_lt, ti_add, ti_sub, ti_mul, Int32.reduceToInt] at *; omega))⟩) (show ((8 : Int32).toInt - (0 : Int32).toInt).toNat < N from (by first | omega | decide | (simp only [Int32.le_iff_toInt_le, Int32.lt_iff_toInt_lt, ti_add, ti_sub, ti_mul, Int32.reduceToInt] at *; omega)))
  obtain ⟨x3_1, σ1⟩ := t
  have hI : Tr [125] σ0 σ1 ∧ (0 ≤ x3_1.toInt) := hI
  obtain ⟨hT, hI1⟩ := hI
  rw [F_X6_isWithoutRing_2.eq_1]
  refine ok_if (fun hc2 => ?_) (fun hc2 => ?_)
  · refine ok_lp (fun t : Int32 × zS => Tr [125] σ0 (t.2) ∧ (0 ≤ (t.1).toInt)) (fun t : Int32 × zS => (10 - (t.1).toInt).toNat) (fun again3 t hI ih23_3 => ?_) N _ (show Tr [125] σ0 σ1 ∧ (0 ≤ (0 : Int32).toInt) from ⟨hT, (by first | omega | decide | (simp only [Int32.le_iff_toInt_le, Int32.lt_iff_toInt_lt, ti_add, ti_sub, ti_mul, Int32.reduceToInt] at *; omega))⟩) (show (10 - (0 : Int32).toInt).toNat < N from (by first | omega | decide | (simp only [Int32.le_iff_toInt_le, Int32.lt_iff_toInt_lt, ti_add, ti_sub, ti_mul, Int32.reduceToInt] at *; omega)))
    obtain ⟨x3_3, σ3⟩ := t
    have hI : Tr [125] σ0 σ3 ∧ (0 ≤ x3_3.toInt) := hI
    obtain ⟨hT, hI3⟩ := hI
    rw [F_X6_isWithoutRing_23.eq_1]
    refine ok_gI0 hT rfl (by decide) ?_
    refine ok_if (fun hc5 => ?_) (fun hc5 => ?_)
    · exact ok_rZ (Or.inr rfl) ⟨hT, (show (1 : Int32) = 0 ∨ (1 : Int32) = 1 from by first | exact Or.inl rfl | exact Or.inr rfl)⟩
    · refine ok_if (fun hc6 => ?_) (fun hc6 => ?_)
      · exact ok_rZ (Or.inr rfl) ⟨hT, (show (1 : Int32) = 0 ∨ (1 : Int32) = 1 from by first | exact Or.inl rfl | exact Or.inr rfl)⟩
      · refine ok_if (fun hc7 => ?_) (fun hc7 => ?_)
        · exact ih23_3 (x3_3 + 1, σ3) (show Tr [125] σ0 σ3 ∧ (0 ≤ (x3_3 + 1).toInt) from ⟨hT, (by first | omega | decide | (simp only [Int32.le_iff_toInt_le, Int32.lt_iff_toInt_lt, ti_add, ti_sub, ti_mul, Int32.reduceToInt] at *; omega))⟩) (show (10 - (x3_3 + 1).toInt).toNat < (10 - x3_3.toInt).toNat from (by first | omega | decide | (simp only [Int32.le_iff_toInt_le, Int32.lt_iff_toInt_lt, ti_add, ti_sub, ti_mul, Int32.reduceToInt] at *; omega)))
        · refine ok_gR (v := 3) hT rfl (hR 2 3 rfl) ?_
          refine ok_aIn rfl (by first | omega | decide | (simp only [Int32.le_iff_toInt_le, Int32.lt_iff_toInt_lt, ti_add, ti_sub, ti_mul, Int32.reduceToInt] at *; omega)) (by first | omega | decide | (simp only [Int32.le_iff_toInt_le, Int32.lt_iff_toInt_lt, ti_add, ti_sub, ti_mul, Int32.reduceToInt] at *; omega)) (fun v9 ev9 => ?_)
          refine ok_gR (v := 4) hT rfl (hR 2 4 rfl) ?_
          refine ok_aIn rfl (by first | omega | decide | (simp only [Int32.le_iff_toInt_le, Int32.lt_iff_toInt_lt, ti_add, ti_sub, ti_mul, Int32.reduceToInt] at *; omega)) (by first | omega | decide | (simp only [Int32.le_iff_toInt_le, Int32.lt_iff_toInt_lt, ti_add, ti_sub, ti_mul, Int32.reduceToInt] at *; omega)) (fun v11 ev11 => ?_)
          refine ok_gC rfl ?_
          refine ok_zbT (Q := fun V σ => V = 0 ∨ V = 1) hT (s_X6_joinClumps hN (hR.tr hT) ) (by decide) (fun v12 σ13 hOσ13 hT hqv12 => ?_)
          have hqv12 : v12 = 0 ∨ v12 = 1 := hqv12
          refine ok_if (fun hc14 => ?_) (fun hc14 => ?_)
          · exact ok_rZ (Or.inl rfl) ⟨hT, (show (0 : Int32) = 0 ∨ (0 : Int32) = 1 from by first | exact Or.inl rfl | exact Or.inr rfl)⟩
          · exact ih23_3 (x3_3 + 1, σ13) (show Tr [125] σ0 σ13 ∧ (0 ≤ (x3_3 + 1).toInt) from ⟨hT, (by first | omega | decide | (simp only [Int32.le_iff_toInt_le, Int32.lt_iff_toInt_lt, ti_add, ti_sub, ti_mul, Int32.reduceToInt] at *; omega))⟩) (show (10 - (x3_3 + 1).toInt).toNat < (10 - x3_3.toInt).toNat from (by first | omega | decide | (simp only [Int32.le_iff_toInt_le, Int32.lt_iff_toInt_lt, ti_add, ti_sub, ti_mul, Int32.reduceToInt] at *; omega)))
  · refine ok_gR (v := 125) hT rfl (hR 124 0 rfl) ?_
    refine ok_s14 hT rfl (by decide) (by first | omega | decide | (simp only [Int32.le_iff_toInt_le, Int32.lt_iff_toInt_lt, ti_add, ti_sub, ti_mul, Int32.reduceToInt] at *; omega)) (by first | omega | decide | (simp only [Int32.le_iff_toInt_le, Int32.lt_iff_toInt_lt, ti_add, ti_sub, ti_mul, Int32.reduceToInt] at *; omega)) (fun σ16 eσ16 hOσ16 hT => ?_)
    exact ih2_1 (x3_1 + 1, σ16) (show Tr [125] σ0 σ16 ∧ (0 ≤ (x3_1 + 1).toInt) from ⟨hT, (by first | omega | decide | (simp only [Int32.le_iff_toInt_le, Int32.lt_iff_toInt_lt, ti_add, ti_sub, ti_mul, Int32.reduceToInt] at *; omega))⟩) (show ((8 : Int32).toInt - (x3_1 + 1).toInt).toNat < ((8 : Int32).toInt - x3_1.toInt).toNat from (by first | omega | decide | (simp only [Int32.le_iff_toInt_le, Int32.lt_iff_toInt_lt, ti_add, ti_sub, ti_mul, Int32.reduceToInt] at *; omega)))

set_option maxHeartbeats 4000000 in
set_option maxRecDepth 100000 in
theorem s_X6_isOneOf_2 {N : Nat} (hN : 1048576 ≤ N) {x2 : Int32} {x3 : Int32} {x4 : Int32} {σ0 : zS}  (hR : RF σ0.2.2)  : Ok (f_X6_isOneOf N 124 2 x2 x3 x4 σ0) (fun r => Tr [125] σ0 r.2 ∧ (r.1 = 0 ∨ r.1 = 1)) := by
  have hT : Tr [125] σ0 σ0 := Tr.rf
  rw [f_X6_isOneOf.eq_1]
  refine ok_zbT (Q := fun V σ => True) hT (s_J6_bitCount_0f7a4 hN (hR.tr hT) ) (fun _ h9 => absurd h9 List.not_mem_nil) (fun v1 σ2 hOσ2 hT hqv1 => ?_)
  refine ok_zbT (Q := fun V σ => True) hT (s_J6_bitCount_0f7a4 hN (hR.tr hT) ) (fun _ h9 => absurd h9 List.not_mem_nil) (fun v3 σ4 hOσ4 hT hqv3 => ?_)
  refine ok_if (fun hc5 => ?_) (fun hc5 => ?_)
  · refine ok_if (fun hc6 => ?_) (fun hc6 => ?_)
    · refine ok_gC rfl ?_
      refine ok_zbT (Q := fun V σ => V = 0 ∨ V = 1) hT (s_X6_isWithoutRing_2 hN (hR.tr hT) ) (by decide) (fun v7 σ8 hOσ8 hT hqv7 => ?_)
      have hqv7 : v7 = 0 ∨ v7 = 1 := hqv7
      refine ok_if (fun hc9 => ?_) (fun hc9 => ?_)
      · exact ok_rZ (Or.inl rfl) ⟨hT, (show (0 : Int32) = 0 ∨ (0 : Int32) = 1 from by first | exact Or.inl rfl | exact Or.inr rfl)⟩
      · exact ok_rZ (Or.inr rfl) ⟨hT, (show (1 : Int32) = 0 ∨ (1 : Int32) = 1 from by first | exact Or.inl rfl | exact Or.inr rfl)⟩
    · exact ok_rZ (Or.inl rfl) ⟨hT, (show (0 : Int32) = 0 ∨ (0 : Int32) = 1 from by first | exact Or.inl rfl | exact Or.inr rfl)⟩
  refine ok_if (fun hc10 => ?_) (fun hc10 => ?_)
  · refine ok_zbT (Q := fun V σ => True) hT (s_X6_touchedBy_2 hN (hR.tr hT) ) (fun _ h9 => absurd h9 List.not_mem_nil) (fun v11 σ12 hOσ12 hT hqv11 => ?_)
    refine ok_zbT (Q := fun V σ => True) hT (s_J6_bitCount_0f7a4 hN (hR.tr hT) ) (fun _ h9 => absurd h9 List.not_mem_nil) (fun v13 σ14 hOσ14 hT hqv13 => ?_)
    refine ok_if (fun hc15 => ?_) (fun hc15 => ?_)
    · exact ok_rZ (Or.inr rfl) ⟨hT, (show (1 : Int32) = 0 ∨ (1 : Int32) = 1 from by first | exact Or.inl rfl | exact Or.inr rfl)⟩
    · exact ok_rZ (Or.inl rfl) ⟨hT, (show (0 : Int32) = 0 ∨ (0 : Int32) = 1 from by first | exact Or.inl rfl | exact Or.inr rfl)⟩
  refine ok_zbT (Q := fun V σ => True) hT (s_X6_touchedBy_2 hN (hR.tr hT) ) (fun _ h9 => absurd h9 List.not_mem_nil) (fun v16 σ17 hOσ17 hT hqv16 => ?_)
  refine ok_if (fun hc18 => ?_) (fun hc18 => ?_)
  · exact ok_rZ (Or.inr rfl) ⟨hT, (show (1 : Int32) = 0 ∨ (1 : Int32) = 1 from by first | exact Or.inl rfl | exact Or.inr rfl)⟩
  · exact ok_rZ (Or.inl rfl) ⟨hT, (show (0 : Int32) = 0 ∨ (0 : Int32) = 1 from by first | exact Or.inl rfl | exact Or.inr rfl)⟩

set_option maxHeartbeats 4000000 in
set_option maxRecDepth 100000 in
theorem s_X6_findSets_2 {N : Nat} (hN : 1048576 ≤ N) {x2 : Int32} {x3 : Nat} {σ0 : zS}  (hR : RF σ0.2.2) (h_x3 : (zKd x3).1 = 2) : Ok (f_X6_findSets N 124 2 x2 x3 σ0) (fun r => Tr [125] σ0 r.2 ∧ (True)) := by
  have hT : Tr [125] σ0 σ0 := Tr.rf
  rw [f_X6_findSets.eq_1]
  refine ok_gC h_x3 ?_
  refine ok_zbT (Q := fun V σ => True) hT (s_X2_clear hN (hR.tr hT) h_x3) (fun _ h9 => absurd h9 List.not_mem_nil) (fun v1 σ2 hOσ2 hT hqv1 => ?_)
  refine ok_gI0 hT rfl (by decide) ?_
  refine ok_zbT (Q := fun V σ => True) hT (s_X6_touchedBy_2 hN (hR.tr hT) ) (fun _ h9 => absurd h9 List.not_mem_nil) (fun v4 σ5 hOσ5 hT hqv4 => ?_)
  refine ok_lp (fun t : Int32 × zS => Tr [125] σ0 (t.2) ∧ (0 ≤ (t.1).toInt)) (fun t : Int32 × zS => (1024 - (t.1).toInt).toNat) (fun again6 t hI ih21_6 => ?_) N _ (show Tr [125] σ0 σ5 ∧ (0 ≤ (0 : Int32).toInt) from ⟨hT, (by first | omega | decide | (simp only [Int32.le_iff_toInt_le, Int32.lt_iff_toInt_lt, ti_add, ti_sub, ti_mul, Int32.reduceToInt] at *; omega))⟩) (show (1024 - (0 : Int32).toInt).toNat < N from (by first | omega | decide | (simp only [Int32.le_iff_toInt_le, Int32.lt_iff_toInt_lt, ti_add, ti_sub, ti_mul, Int32.reduceToInt] at *; omega)))
  obtain ⟨x5_6, σ6⟩ := t
  have hI : Tr [125] σ0 σ6 ∧ (0 ≤ x5_6.toInt) := hI
  obtain ⟨hT, hI6⟩ := hI
  rw [F_X6_findSets_21.eq_1]
  refine ok_gI0 hT rfl (by decide) ?_
  refine ok_if (fun hc8 => ?_) (fun hc8 => ?_)
  · exact ok_some ⟨hT, trivial⟩
  · refine ok_if (fun hc9 => ?_) (fun hc9 => ?_)
    · exact ok_some ⟨hT, trivial⟩
    · refine ok_gC rfl ?_
      refine ok_zbT (Q := fun V σ => V = 0 ∨ V = 1) hT (s_X6_isOneOf_2 hN (hR.tr hT) ) (by decide) (fun v10 σ11 hOσ11 hT hqv10 => ?_)
      have hqv10 : v10 = 0 ∨ v10 = 1 := hqv10
      refine ok_if (fun hc12 => ?_) (fun hc12 => ?_)
      · exact ih21_6 (x5_6 + 1, σ11) (show Tr [125] σ0 σ11 ∧ (0 ≤ (x5_6 + 1).toInt) from ⟨hT, (by first | omega | decide | (simp only [Int32.le_iff_toInt_le, Int32.lt_iff_toInt_lt, ti_add, ti_sub, ti_mul, Int32.reduceToInt] at *; omega))⟩) (show (1024 - (x5_6 + 1).toInt).toNat < (1024 - x5_6.toInt).toNat from (by first | omega | decide | (simp only [Int32.le_iff_toInt_le, Int32.lt_iff_toInt_lt, ti_add, ti_sub, ti_mul, Int32.reduceToInt] at *; omega)))
      · refine ok_gC h_x3 ?_
        refine ok_zbT (Q := fun V σ => True) hT (s_X2_include hN (hR.tr hT) h_x3) (fun _ h9 => absurd h9 List.not_mem_nil) (fun v13 σ14 hOσ14 hT hqv13 => ?_)
        exact ih21_6 (x5_6 + 1, σ14) (show Tr [125] σ0 σ14 ∧ (0 ≤ (x5_6 + 1).toInt) from ⟨hT, (by first | omega | decide | (simp only [Int32.le_iff_toInt_le, Int32.lt_iff_toInt_lt, ti_add, ti_sub, ti_mul, Int32.reduceToInt] at *; omega))⟩) (show (1024 - (x5_6 + 1).toInt).toNat < (1024 - x5_6.toInt).toNat from (by first | omega | decide | (simp only [Int32.le_iff_toInt_le, Int32.lt_iff_toInt_lt, ti_add, ti_sub, ti_mul, Int32.reduceToInt] at *; omega)))

set_option maxHeartbeats 4000000 in
set_option maxRecDepth 100000 in
theorem sg_X6_walk_2 {N : Nat} (hN : 1048576 ≤ N) : ∀ dd : Nat, (∀ (x1 : Int32) (x2 : Int32) (x3 : Int32) (x4 : Int32) (x5 : Nat) (σ0 : zS), RF σ0.2.2 → (zKd x5).1 = 2 → WI 2 σ0.1 → 0 ≤ x1.toInt ∧ x1.toInt ≤ 7 → 0 ≤ x3.toInt ∧ x3.toInt ≤ 255 → 8 - bc8 x3 < dd → Ok (f_X6_walk N dd 2 x1 x2 x3 x4 x5 σ0) (fun r => Tr [] σ0 r.2 ∧ (True))) := by
  intro dd
  induction dd with
  | zero => exact fun _ _ _ _ _ _ _ _ _ _ _ h => absurd h (Nat.not_lt_zero _)
  | succ dd ih =>
    have ih0 := ih
    intro x1 x2 x3 x4 x5 σ0 hR h_x5 hW h1 h3 hm
    show Ok (B_X6_walk N (f_X6_walk N dd) 2 x1 x2 x3 x4 x5 σ0) _
    have hT : Tr [] σ0 σ0 := Tr.rf
    rw [B_X6_walk.eq_1]
    refine ok_lp (fun t : Int32 × zS => Tr [] σ0 (t.2) ∧ (0 ≤ (t.1).toInt)) (fun t : Int32 × zS => (10 - (t.1).toInt).toNat) (fun again1 t hI ih3_1 => ?_) N _ (show Tr [] σ0 σ0 ∧ (0 ≤ (0 : Int32).toInt) from ⟨hT, (by first | omega | decide | (simp only [Int32.le_iff_toInt_le, Int32.lt_iff_toInt_lt, ti_add, ti_sub, ti_mul, Int32.reduceToInt] at *; omega))⟩) (show (10 - (0 : Int32).toInt).toNat < N from (by first | omega | decide | (simp only [Int32.le_iff_toInt_le, Int32.lt_iff_toInt_lt, ti_add, ti_sub, ti_mul, Int32.reduceToInt] at *; omega)))
    obtain ⟨x6_1, σ1⟩ := t
    have hI : Tr [] σ0 σ1 ∧ (0 ≤ x6_1.toInt) := hI
    obtain ⟨hT, hI1⟩ := hI
    rw [F_X6_walk_3.eq_1]
    refine ok_gI0 hT rfl (by decide) ?_
    refine ok_if (fun hc3 => ?_) (fun hc3 => ?_)
    · exact ok_some ⟨hT, trivial⟩
    · refine ok_if (fun hc4 => ?_) (fun hc4 => ?_)
      · exact ok_some ⟨hT, trivial⟩
      · refine ok_zbT (Q := fun V σ => -1 ≤ V.toInt ∧ V.toInt ≤ 7) hT (s_X6_acrossFrom_2 hN (hR.tr hT) (by first | exact hW | exact WI.tr hT (by decide) (by decide) (by decide) hW)) (fun _ h9 => absurd h9 List.not_mem_nil) (fun v5 σ6 hOσ6 hT hqv5 => ?_)
        have hqv5 : -1 ≤ v5.toInt ∧ v5.toInt ≤ 7 := hqv5
        refine ok_if (fun hc7 => ?_) (fun hc7 => ?_)
        · exact ih3_1 (x6_1 + 1, σ6) (show Tr [] σ0 σ6 ∧ (0 ≤ (x6_1 + 1).toInt) from ⟨hT, (by first | omega | decide | (simp only [Int32.le_iff_toInt_le, Int32.lt_iff_toInt_lt, ti_add, ti_sub, ti_mul, Int32.reduceToInt] at *; omega))⟩) (show (10 - (x6_1 + 1).toInt).toNat < (10 - x6_1.toInt).toNat from (by first | omega | decide | (simp only [Int32.le_iff_toInt_le, Int32.lt_iff_toInt_lt, ti_add, ti_sub, ti_mul, Int32.reduceToInt] at *; omega)))
        · refine ok_if (fun hc8 => ?_) (fun hc8 => ?_)
          · have qs := bc8_up (x := x3) (k := v5) (by omega) (by omega) (by simp only [Int32.le_iff_toInt_le, Int32.lt_iff_toInt_lt, ti_add, ti_sub, ti_mul, Int32.reduceToInt] at *; omega) (by simp only [Int32.le_iff_toInt_le, Int32.lt_iff_toInt_lt, ti_add, ti_sub, ti_mul, Int32.reduceToInt] at *; omega) hc8
            refine ok_if (fun hc9 => ?_) (fun hc9 => ?_)
            · refine ok_gC h_x5 ?_
              refine ok_zbT (Q := fun V σ => True) hT (s_X2_include hN (hR.tr hT) h_x5) (fun _ h9 => absurd h9 List.not_mem_nil) (fun v10 σ11 hOσ11 hT hqv10 => ?_)
              exact ih3_1 (x6_1 + 1, σ11) (show Tr [] σ0 σ11 ∧ (0 ≤ (x6_1 + 1).toInt) from ⟨hT, (by first | omega | decide | (simp only [Int32.le_iff_toInt_le, Int32.lt_iff_toInt_lt, ti_add, ti_sub, ti_mul, Int32.reduceToInt] at *; omega))⟩) (show (10 - (x6_1 + 1).toInt).toNat < (10 - x6_1.toInt).toNat from (by first | omega | decide | (simp only [Int32.le_iff_toInt_le, Int32.lt_iff_toInt_lt, ti_add, ti_sub, ti_mul, Int32.reduceToInt] at *; omega)))
            · refine ok_zbT (Q := fun V σ => True) hT (s_J6_bitCount_0f7a4 hN (hR.tr hT) ) (fun _ h9 => absurd h9 List.not_mem_nil) (fun v12 σ13 hOσ13 hT hqv12 => ?_)
              refine ok_if (fun hc14 => ?_) (fun hc14 => ?_)
              · exact ih3_1 (x6_1 + 1, σ13) (show Tr [] σ0 σ13 ∧ (0 ≤ (x6_1 + 1).toInt) from ⟨hT, (by first | omega | decide | (simp only [Int32.le_iff_toInt_le, Int32.lt_iff_toInt_lt, ti_add, ti_sub, ti_mul, Int32.reduceToInt] at *; omega))⟩) (show (10 - (x6_1 + 1).toInt).toNat < (10 - x6_1.toInt).toNat from (by first | omega | decide | (simp only [Int32.le_iff_toInt_le, Int32.lt_iff_toInt_lt, ti_add, ti_sub, ti_mul, Int32.reduceToInt] at *; omega)))
              · refine ok_zbT (Q := fun V σ => True) hT (ih0 _ _ _ _ _ _ (hR.tr hT) h_x5 (by first | exact hW | exact WI.tr hT (by decide) (by decide) (by decide) hW) (by simp only [Int32.le_iff_toInt_le, Int32.lt_iff_toInt_lt, ti_add, ti_sub, ti_mul, Int32.reduceToInt] at *; omega) (by omega) (by omega)) (fun _ h9 => absurd h9 List.not_mem_nil) (fun v15 σ16 hOσ16 hT hqv15 => ?_)
                exact ih3_1 (x6_1 + 1, σ16) (show Tr [] σ0 σ16 ∧ (0 ≤ (x6_1 + 1).toInt) from ⟨hT, (by first | omega | decide | (simp only [Int32.le_iff_toInt_le, Int32.lt_iff_toInt_lt, ti_add, ti_sub, ti_mul, Int32.reduceToInt] at *; omega))⟩) (show (10 - (x6_1 + 1).toInt).toNat < (10 - x6_1.toInt).toNat from (by first | omega | decide | (simp only [Int32.le_iff_toInt_le, Int32.lt_iff_toInt_lt, ti_add, ti_sub, ti_mul, Int32.reduceToInt] at *; omega)))
          · exact ih3_1 (x6_1 + 1, σ6) (show Tr [] σ0 σ6 ∧ (0 ≤ (x6_1 + 1).toInt) from ⟨hT, (by first | omega | decide | (simp only [Int32.le_iff_toInt_le, Int32.lt_iff_toInt_lt, ti_add, ti_sub, ti_mul, Int32.reduceToInt] at *; omega))⟩) (show (10 - (x6_1 + 1).toInt).toNat < (10 - x6_1.toInt).toNat from (by first | omega | decide | (simp only [Int32.le_iff_toInt_le, Int32.lt_iff_toInt_lt, ti_add, ti_sub, ti_mul, Int32.reduceToInt] at *; omega)))
theorem s_X6_walk_2 {N : Nat} (hN : 1048576 ≤ N) {x1 : Int32} {x2 : Int32} {x3 : Int32} {x4 : Int32} {x5 : Nat} {σ0 : zS} (hR : RF σ0.2.2) (h_x5 : (zKd x5).1 = 2) (hW : WI 2 σ0.1) (h1 : 0 ≤ x1.toInt ∧ x1.toInt ≤ 7) (h3 : 0 ≤ x3.toInt ∧ x3.toInt ≤ 255) (hm : 8 - bc8 x3 < 10) : Ok (f_X6_walk N 10 2 x1 x2 x3 x4 x5 σ0) (fun r => Tr [] σ0 r.2 ∧ (True)) := (sg_X6_walk_2 hN 10) _ _ _ _ _ _ hR h_x5 hW h1 h3 hm

set_option maxHeartbeats 4000000 in
set_option maxRecDepth 100000 in
theorem s_X6_findWays_2 {N : Nat} (hN : 1048576 ≤ N) {x2 : Int32} {x3 : Int32} {x4 : Nat} {σ0 : zS}  (hR : RF σ0.2.2) (h_x4 : (zKd x4).1 = 2) (hW : WI 2 σ0.1) (h2 : 0 ≤ x2.toInt ∧ x2.toInt ≤ 7) : Ok (f_X6_findWays N 124 2 x2 x3 x4 σ0) (fun r => Tr [] σ0 r.2 ∧ (True)) := by
  have hT : Tr [] σ0 σ0 := Tr.rf
  rw [f_X6_findWays.eq_1]
  refine ok_gC h_x4 ?_
  refine ok_zbT (Q := fun V σ => True) hT (s_X2_clear hN (hR.tr hT) h_x4) (fun _ h9 => absurd h9 List.not_mem_nil) (fun v1 σ2 hOσ2 hT hqv1 => ?_)
  refine ok_if (fun hc3 => ?_) (fun hc3 => ?_)
  · refine ok_gC h_x4 ?_
    refine ok_zbT (Q := fun V σ => True) hT (s_X2_include hN (hR.tr hT) h_x4) (fun _ h9 => absurd h9 List.not_mem_nil) (fun v4 σ5 hOσ5 hT hqv4 => ?_)
    exact ok_some ⟨hT, trivial⟩
  · have q7 := one7 (k := x2) h2.1 h2.2
    refine ok_zbT (Q := fun V σ => True) hT (s_X6_walk_2 hN (hR.tr hT) h_x4 (by first | exact hW | exact WI.tr hT (by decide) (by decide) (by decide) hW) (by exact h2) (by exact q7) (by omega)) (fun _ h9 => absurd h9 List.not_mem_nil) (fun v6 σ7 hOσ7 hT hqv6 => ?_)
    exact ok_some ⟨hT, trivial⟩

set_option maxHeartbeats 4000000 in
set_option maxRecDepth 100000 in
theorem s_X6_acrossFrom_28 {N : Nat} (hN : 1048576 ≤ N) {x1 : Int32} {x2 : Int32} {σ0 : zS}  (hR : RF σ0.2.2) (hW : WI 28 σ0.1) : Ok (f_X6_acrossFrom N 28 x1 x2 σ0) (fun r => Tr [] σ0 r.2 ∧ (-1 ≤ r.1.toInt ∧ r.1.toInt ≤ 7)) := by
  have hT : Tr [] σ0 σ0 := Tr.rf
  rw [f_X6_acrossFrom.eq_1]
  refine ok_if (fun hc1 => ?_) (fun hc1 => ?_)
  · exact ok_some ⟨hT, (show -1 ≤ (-1 : Int32).toInt ∧ (-1 : Int32).toInt ≤ 7 from by first | omega | decide | (simp only [Int32.le_iff_toInt_le, Int32.lt_iff_toInt_lt, ti_add, ti_sub, ti_mul, Int32.reduceToInt] at *; omega))⟩
  · refine ok_if (fun hc2 => ?_) (fun hc2 => ?_)
    · refine ok_gR (v := 29) hT rfl (hR 28 3 rfl) ?_
      refine ok_aIn rfl (by first | omega | decide | (simp only [Int32.le_iff_toInt_le, Int32.lt_iff_toInt_lt, ti_add, ti_sub, ti_mul, Int32.reduceToInt] at *; omega)) (by first | omega | decide | (simp only [Int32.le_iff_toInt_le, Int32.lt_iff_toInt_lt, ti_add, ti_sub, ti_mul, Int32.reduceToInt] at *; omega)) (fun v4 ev4 => ?_)
      have qV17 : 0 ≤ v4.toInt ∧ v4.toInt ≤ 7 := by rw [ev4]; exact WI_from (B := 28) (i := (x1)) hT (by decide) hW (by simp only [Int32.le_iff_toInt_le, Int32.lt_iff_toInt_lt, ti_add, ti_sub, ti_mul, Int32.reduceToInt] at *; omega) (by simp only [Int32.le_iff_toInt_le, Int32.lt_iff_toInt_lt, ti_add, ti_sub, ti_mul, Int32.reduceToInt] at *; omega)
      refine ok_if (fun hc5 => ?_) (fun hc5 => ?_)
      · refine ok_gR (v := 30) hT rfl (hR 28 4 rfl) ?_
        refine ok_aIn rfl (by first | omega | decide | (simp only [Int32.le_iff_toInt_le, Int32.lt_iff_toInt_lt, ti_add, ti_sub, ti_mul, Int32.reduceToInt] at *; omega)) (by first | omega | decide | (simp only [Int32.le_iff_toInt_le, Int32.lt_iff_toInt_lt, ti_add, ti_sub, ti_mul, Int32.reduceToInt] at *; omega)) (fun v7 ev7 => ?_)
        have qV27 : 0 ≤ v7.toInt ∧ v7.toInt ≤ 7 := by rw [ev7]; exact WI_till (B := 28) (i := (x1)) hT (by decide) hW (by simp only [Int32.le_iff_toInt_le, Int32.lt_iff_toInt_lt, ti_add, ti_sub, ti_mul, Int32.reduceToInt] at *; omega) (by simp only [Int32.le_iff_toInt_le, Int32.lt_iff_toInt_lt, ti_add, ti_sub, ti_mul, Int32.reduceToInt] at *; omega)
        exact ok_some ⟨hT, (show -1 ≤ v7.toInt ∧ v7.toInt ≤ 7 from by first | omega | decide | (simp only [Int32.le_iff_toInt_le, Int32.lt_iff_toInt_lt, ti_add, ti_sub, ti_mul, Int32.reduceToInt] at *; omega))⟩
      · refine ok_gR (v := 30) hT rfl (hR 28 4 rfl) ?_
        refine ok_aIn rfl (by first | omega | decide | (simp only [Int32.le_iff_toInt_le, Int32.lt_iff_toInt_lt, ti_add, ti_sub, ti_mul, Int32.reduceToInt] at *; omega)) (by first | omega | decide | (simp only [Int32.le_iff_toInt_le, Int32.lt_iff_toInt_lt, ti_add, ti_sub, ti_mul, Int32.reduceToInt] at *; omega)) (fun v9 ev9 => ?_)
        have qV34 : 0 ≤ v9.toInt ∧ v9.toInt ≤ 7 := by rw [ev9]; exact WI_till (B := 28) (i := (x1)) hT (by decide) hW (by simp only [Int32.le_iff_toInt_le, Int32.lt_iff_toInt_lt, ti_add, ti_sub, ti_mul, Int32.reduceToInt] at *; omega) (by simp only [Int32.le_iff_toInt_le, Int32.lt_iff_toInt_lt, ti_add, ti_sub, ti_mul, Int32.reduceToInt] at *; omega)
        refine ok_if (fun hc10 => ?_) (fun hc10 => ?_)
        · refine ok_gR (v := 29) hT rfl (hR 28 3 rfl) ?_
          refine ok_aIn rfl (by first | omega | decide | (simp only [Int32.le_iff_toInt_le, Int32.lt_iff_toInt_lt, ti_add, ti_sub, ti_mul, Int32.reduceToInt] at *; omega)) (by first | omega | decide | (simp only [Int32.le_iff_toInt_le, Int32.lt_iff_toInt_lt, ti_add, ti_sub, ti_mul, Int32.reduceToInt] at *; omega)) (fun v12 ev12 => ?_)
          have qV44 : 0 ≤ v12.toInt ∧ v12.toInt ≤ 7 := by rw [ev12]; exact WI_from (B := 28) (i := (x1)) hT (by decide) hW (by simp only [Int32.le_iff_toInt_le, Int32.lt_iff_toInt_lt, ti_add, ti_sub, ti_mul, Int32.reduceToInt] at *; omega) (by simp only [Int32.le_iff_toInt_le, Int32.lt_iff_toInt_lt, ti_add, ti_sub, ti_mul, Int32.reduceToInt] at *; omega)
          exact ok_some ⟨hT, (show -1 ≤ v12.toInt ∧ v12.toInt ≤ 7 from by first | omega | decide | (simp only [Int32.le_iff_toInt_le, Int32.lt_iff_toInt_lt, ti_add, ti_sub, ti_mul, Int32.reduceToInt] at *; omega))⟩
        · exact ok_some ⟨hT, (show -1 ≤ (-1 : Int32).toInt ∧ (-1 : Int32).toInt ≤ 7 from by first | omega | decide | (simp only [Int32.le_iff_toInt_le, Int32.lt_iff_toInt_lt, ti_add, ti_sub, ti_mul, Int32.reduceToInt] at *; omega))⟩
    · exact ok_some ⟨hT, (show -1 ≤ (-1 : Int32).toInt ∧ (-1 : Int32).toInt ≤ 7 from by first | omega | decide | (simp only [Int32.le_iff_toInt_le, Int32.lt_iff_toInt_lt, ti_add, ti_sub, ti_mul, Int32.reduceToInt] at *; omega))⟩

set_option maxHeartbeats 4000000 in
set_option maxRecDepth 100000 in
theorem s_X6_touchedBy_28 {N : Nat} (hN : 1048576 ≤ N) {x1 : Int32} {σ0 : zS}  (hR : RF σ0.2.2)  : Ok (f_X6_touchedBy N 28 x1 σ0) (fun r => Tr [] σ0 r.2 ∧ (True)) := by
  have hT : Tr [] σ0 σ0 := Tr.rf
  rw [f_X6_touchedBy.eq_1]
  refine ok_lp (fun t : Int32 × Int32 × zS => Tr [] σ0 (t.2.2) ∧ (0 ≤ (t.2.1).toInt)) (fun t : Int32 × Int32 × zS => (10 - (t.2.1).toInt).toNat) (fun again1 t hI ih4_1 => ?_) N _ (show Tr [] σ0 σ0 ∧ (0 ≤ (0 : Int32).toInt) from ⟨hT, (by first | omega | decide | (simp only [Int32.le_iff_toInt_le, Int32.lt_iff_toInt_lt, ti_add, ti_sub, ti_mul, Int32.reduceToInt] at *; omega))⟩) (show (10 - (0 : Int32).toInt).toNat < N from (by first | omega | decide | (simp only [Int32.le_iff_toInt_le, Int32.lt_iff_toInt_lt, ti_add, ti_sub, ti_mul, Int32.reduceToInt] at *; omega)))
  obtain ⟨x2_1, x3_1, σ1⟩ := t
  have hI : Tr [] σ0 σ1 ∧ (0 ≤ x3_1.toInt) := hI
  obtain ⟨hT, hI1⟩ := hI
  rw [F_X6_touchedBy_4.eq_1]
  refine ok_gI0 hT rfl (by decide) ?_
  refine ok_if (fun hc3 => ?_) (fun hc3 => ?_)
  · exact ok_some ⟨hT, trivial⟩
  · refine ok_if (fun hc4 => ?_) (fun hc4 => ?_)
    · exact ok_some ⟨hT, trivial⟩
    · refine ok_if (fun hc5 => ?_) (fun hc5 => ?_)
      · exact ih4_1 (x2_1, x3_1 + 1, σ1) (show Tr [] σ0 σ1 ∧ (0 ≤ (x3_1 + 1).toInt) from ⟨hT, (by first | omega | decide | (simp only [Int32.le_iff_toInt_le, Int32.lt_iff_toInt_lt, ti_add, ti_sub, ti_mul, Int32.reduceToInt] at *; omega))⟩) (show (10 - (x3_1 + 1).toInt).toNat < (10 - x3_1.toInt).toNat from (by first | omega | decide | (simp only [Int32.le_iff_toInt_le, Int32.lt_iff_toInt_lt, ti_add, ti_sub, ti_mul, Int32.reduceToInt] at *; omega)))
      · refine ok_gR (v := 29) hT rfl (hR 28 3 rfl) ?_
        refine ok_aIn rfl (by first | omega | decide | (simp only [Int32.le_iff_toInt_le, Int32.lt_iff_toInt_lt, ti_add, ti_sub, ti_mul, Int32.reduceToInt] at *; omega)) (by first | omega | decide | (simp only [Int32.le_iff_toInt_le, Int32.lt_iff_toInt_lt, ti_add, ti_sub, ti_mul, Int32.reduceToInt] at *; omega)) (fun v7 ev7 => ?_)
        refine ok_gR (v := 30) hT rfl (hR 28 4 rfl) ?_
        refine ok_aIn rfl (by first | omega | decide | (simp only [Int32.le_iff_toInt_le, Int32.lt_iff_toInt_lt, ti_add, ti_sub, ti_mul, Int32.reduceToInt] at *; omega)) (by first | omega | decide | (simp only [Int32.le_iff_toInt_le, Int32.lt_iff_toInt_lt, ti_add, ti_sub, ti_mul, Int32.reduceToInt] at *; omega)) (fun v9 ev9 => ?_)
        exact ih4_1 (x2_1 ||| (((1 : Int32) <<< (v7 &&& 31)) ||| ((1 : Int32) <<< (v9 &&& 31))), x3_1 + 1, σ1) (show Tr [] σ0 σ1 ∧ (0 ≤ (x3_1 + 1).toInt) from ⟨hT, (by first | omega | decide | (simp only [Int32.le_iff_toInt_le, Int32.lt_iff_toInt_lt, ti_add, ti_sub, ti_mul, Int32.reduceToInt] at *; omega))⟩) (show (10 - (x3_1 + 1).toInt).toNat < (10 - x3_1.toInt).toNat from (by first | omega | decide | (simp only [Int32.le_iff_toInt_le, Int32.lt_iff_toInt_lt, ti_add, ti_sub, ti_mul, Int32.reduceToInt] at *; omega)))

set_option maxHeartbeats 4000000 in
set_option maxRecDepth 100000 in
theorem s_X6_isWithoutRing_28 {N : Nat} (hN : 1048576 ≤ N) {x2 : Int32} {σ0 : zS}  (hR : RF σ0.2.2)  : Ok (f_X6_isWithoutRing N 124 28 x2 σ0) (fun r => Tr [125] σ0 r.2 ∧ (r.1 = 0 ∨ r.1 = 1)) := by
  have hT : Tr [125] σ0 σ0 := Tr.rf
  rw [f_X6_isWithoutRing.eq_1]
  refine ok_lp (fun t : Int32 × zS => Tr [125] σ0 (t.2) ∧ (0 ≤ (t.1).toInt)) (fun t : Int32 × zS => ((8 : Int32).toInt - (t.1).toInt).toNat) (fun again1 t hI ih2_1 => ?_) N _ (show Tr [125] σ0 σ0 ∧ (0 ≤ (0 : Int32).toInt) from ⟨hT, (by first | omega | decide | (simp only [Int32.le_iff_toInt_le, Int32.lt_iff_toInt_lt, ti_add, ti_sub, ti_mul, Int32.reduceToInt] at *; omega))⟩) (show ((8 : Int32).toInt - (0 : Int32).toInt).toNat < N from (by first | omega | decide | (simp only [Int32.le_iff_toInt_le, Int32.lt_iff_toInt_lt, ti_add, ti_sub, ti_mul, Int32.reduceToInt] at *; omega)))
  obtain ⟨x3_1, σ1⟩ := t
  have hI : Tr [125] σ0 σ1 ∧ (0 ≤ x3_1.toInt) := hI
  obtain ⟨hT, hI1⟩ := hI
  rw [F_X6_isWithoutRing_2.eq_1]
  refine ok_if (fun hc2 => ?_) (fun hc2 => ?_)
  · refine ok_lp (fun t : Int32 × zS => Tr [125] σ0 (t.2) ∧ (0 ≤ (t.1).toInt)) (fun t : Int32 × zS => (10 - (t.1).toInt).toNat) (fun again3 t hI ih23_3 => ?_) N _ (show Tr [125] σ0 σ1 ∧ (0 ≤ (0 : Int32).toInt) from ⟨hT, (by first | omega | decide | (simp only [Int32.le_iff_toInt_le, Int32.lt_iff_toInt_lt, ti_add, ti_sub, ti_mul, Int32.reduceToInt] at *; omega))⟩) (show (10 - (0 : Int32).toInt).toNat < N from (by first | omega | decide | (simp only [Int32.le_iff_toInt_le, Int32.lt_iff_toInt_lt, ti_add, ti_sub, ti_mul, Int32.reduceToInt] at *; omega)))
    obtain ⟨x3_3, σ3⟩ := t
    have hI : Tr [125] σ0 σ3 ∧ (0 ≤ x3_3.toInt) := hI
    obtain ⟨hT, hI3⟩ := hI
    rw [F_X6_isWithoutRing_23.eq_1]
    refine ok_gI0 hT rfl (by decide) ?_
    refine ok_if (fun hc5 => ?_) (fun hc5 => ?_)
    · exact ok_rZ (Or.inr rfl) ⟨hT, (show (1 : Int32) = 0 ∨ (1 : Int32) = 1 from by first | exact Or.inl rfl | exact Or.inr rfl)⟩
    · refine ok_if (fun hc6 => ?_) (fun hc6 => ?_)
      · exact ok_rZ (Or.inr rfl) ⟨hT, (show (1 : Int32) = 0 ∨ (1 : Int32) = 1 from by first | exact Or.inl rfl | exact Or.inr rfl)⟩
      · refine ok_if (fun hc7 => ?_) (fun hc7 => ?_)
        · exact ih23_3 (x3_3 + 1, σ3) (show Tr [125] σ0 σ3 ∧ (0 ≤ (x3_3 + 1).toInt) from ⟨hT, (by first | omega | decide | (simp only [Int32.le_iff_toInt_le, Int32.lt_iff_toInt_lt, ti_add, ti_sub, ti_mul, Int32.reduceToInt] at *; omega))⟩) (show (10 - (x3_3 + 1).toInt).toNat < (10 - x3_3.toInt).toNat from (by first | omega | decide | (simp only [Int32.le_iff_toInt_le, Int32.lt_iff_toInt_lt, ti_add, ti_sub, ti_mul, Int32.reduceToInt] at *; omega)))
        · refine ok_gR (v := 29) hT rfl (hR 28 3 rfl) ?_
          refine ok_aIn rfl (by first | omega | decide | (simp only [Int32.le_iff_toInt_le, Int32.lt_iff_toInt_lt, ti_add, ti_sub, ti_mul, Int32.reduceToInt] at *; omega)) (by first | omega | decide | (simp only [Int32.le_iff_toInt_le, Int32.lt_iff_toInt_lt, ti_add, ti_sub, ti_mul, Int32.reduceToInt] at *; omega)) (fun v9 ev9 => ?_)
          refine ok_gR (v := 30) hT rfl (hR 28 4 rfl) ?_
          refine ok_aIn rfl (by first | omega | decide | (simp only [Int32.le_iff_toInt_le, Int32.lt_iff_toInt_lt, ti_add, ti_sub, ti_mul, Int32.reduceToInt] at *; omega)) (by first | omega | decide | (simp only [Int32.le_iff_toInt_le, Int32.lt_iff_toInt_lt, ti_add, ti_sub, ti_mul, Int32.reduceToInt] at *; omega)) (fun v11 ev11 => ?_)
          refine ok_gC rfl ?_
          refine ok_zbT (Q := fun V σ => V = 0 ∨ V = 1) hT (s_X6_joinClumps hN (hR.tr hT) ) (by decide) (fun v12 σ13 hOσ13 hT hqv12 => ?_)
          have hqv12 : v12 = 0 ∨ v12 = 1 := hqv12
          refine ok_if (fun hc14 => ?_) (fun hc14 => ?_)
          · exact ok_rZ (Or.inl rfl) ⟨hT, (show (0 : Int32) = 0 ∨ (0 : Int32) = 1 from by first | exact Or.inl rfl | exact Or.inr rfl)⟩
          · exact ih23_3 (x3_3 + 1, σ13) (show Tr [125] σ0 σ13 ∧ (0 ≤ (x3_3 + 1).toInt) from ⟨hT, (by first | omega | decide | (simp only [Int32.le_iff_toInt_le, Int32.lt_iff_toInt_lt, ti_add, ti_sub, ti_mul, Int32.reduceToInt] at *; omega))⟩) (show (10 - (x3_3 + 1).toInt).toNat < (10 - x3_3.toInt).toNat from (by first | omega | decide | (simp only [Int32.le_iff_toInt_le, Int32.lt_iff_toInt_lt, ti_add, ti_sub, ti_mul, Int32.reduceToInt] at *; omega)))
  · refine ok_gR (v := 125) hT rfl (hR 124 0 rfl) ?_
    refine ok_s14 hT rfl (by decide) (by first | omega | decide | (simp only [Int32.le_iff_toInt_le, Int32.lt_iff_toInt_lt, ti_add, ti_sub, ti_mul, Int32.reduceToInt] at *; omega)) (by first | omega | decide | (simp only [Int32.le_iff_toInt_le, Int32.lt_iff_toInt_lt, ti_add, ti_sub, ti_mul, Int32.reduceToInt] at *; omega)) (fun σ16 eσ16 hOσ16 hT => ?_)
    exact ih2_1 (x3_1 + 1, σ16) (show Tr [125] σ0 σ16 ∧ (0 ≤ (x3_1 + 1).toInt) from ⟨hT, (by first | omega | decide | (simp only [Int32.le_iff_toInt_le, Int32.lt_iff_toInt_lt, ti_add, ti_sub, ti_mul, Int32.reduceToInt] at *; omega))⟩) (show ((8 : Int32).toInt - (x3_1 + 1).toInt).toNat < ((8 : Int32).toInt - x3_1.toInt).toNat from (by first | omega | decide | (simp only [Int32.le_iff_toInt_le, Int32.lt_iff_toInt_lt, ti_add, ti_sub, ti_mul, Int32.reduceToInt] at *; omega)))

set_option maxHeartbeats 4000000 in
set_option maxRecDepth 100000 in
theorem s_X6_isOneOf_28 {N : Nat} (hN : 1048576 ≤ N) {x2 : Int32} {x3 : Int32} {x4 : Int32} {σ0 : zS}  (hR : RF σ0.2.2)  : Ok (f_X6_isOneOf N 124 28 x2 x3 x4 σ0) (fun r => Tr [125] σ0 r.2 ∧ (r.1 = 0 ∨ r.1 = 1)) := by
  have hT : Tr [125] σ0 σ0 := Tr.rf
  rw [f_X6_isOneOf.eq_1]
  refine ok_zbT (Q := fun V σ => True) hT (s_J6_bitCount_0f7a4 hN (hR.tr hT) ) (fun _ h9 => absurd h9 List.not_mem_nil) (fun v1 σ2 hOσ2 hT hqv1 => ?_)
  refine ok_zbT (Q := fun V σ => True) hT (s_J6_bitCount_0f7a4 hN (hR.tr hT) ) (fun _ h9 => absurd h9 List.not_mem_nil) (fun v3 σ4 hOσ4 hT hqv3 => ?_)
  refine ok_if (fun hc5 => ?_) (fun hc5 => ?_)
  · refine ok_if (fun hc6 => ?_) (fun hc6 => ?_)
    · refine ok_gC rfl ?_
      refine ok_zbT (Q := fun V σ => V = 0 ∨ V = 1) hT (s_X6_isWithoutRing_28 hN (hR.tr hT) ) (by decide) (fun v7 σ8 hOσ8 hT hqv7 => ?_)
      have hqv7 : v7 = 0 ∨ v7 = 1 := hqv7
      refine ok_if (fun hc9 => ?_) (fun hc9 => ?_)
      · exact ok_rZ (Or.inl rfl) ⟨hT, (show (0 : Int32) = 0 ∨ (0 : Int32) = 1 from by first | exact Or.inl rfl | exact Or.inr rfl)⟩
      · exact ok_rZ (Or.inr rfl) ⟨hT, (show (1 : Int32) = 0 ∨ (1 : Int32) = 1 from by first | exact Or.inl rfl | exact Or.inr rfl)⟩
    · exact ok_rZ (Or.inl rfl) ⟨hT, (show (0 : Int32) = 0 ∨ (0 : Int32) = 1 from by first | exact Or.inl rfl | exact Or.inr rfl)⟩
  refine ok_if (fun hc10 => ?_) (fun hc10 => ?_)
  · refine ok_zbT (Q := fun V σ => True) hT (s_X6_touchedBy_28 hN (hR.tr hT) ) (fun _ h9 => absurd h9 List.not_mem_nil) (fun v11 σ12 hOσ12 hT hqv11 => ?_)
    refine ok_zbT (Q := fun V σ => True) hT (s_J6_bitCount_0f7a4 hN (hR.tr hT) ) (fun _ h9 => absurd h9 List.not_mem_nil) (fun v13 σ14 hOσ14 hT hqv13 => ?_)
    refine ok_if (fun hc15 => ?_) (fun hc15 => ?_)
    · exact ok_rZ (Or.inr rfl) ⟨hT, (show (1 : Int32) = 0 ∨ (1 : Int32) = 1 from by first | exact Or.inl rfl | exact Or.inr rfl)⟩
    · exact ok_rZ (Or.inl rfl) ⟨hT, (show (0 : Int32) = 0 ∨ (0 : Int32) = 1 from by first | exact Or.inl rfl | exact Or.inr rfl)⟩
  refine ok_zbT (Q := fun V σ => True) hT (s_X6_touchedBy_28 hN (hR.tr hT) ) (fun _ h9 => absurd h9 List.not_mem_nil) (fun v16 σ17 hOσ17 hT hqv16 => ?_)
  refine ok_if (fun hc18 => ?_) (fun hc18 => ?_)
  · exact ok_rZ (Or.inr rfl) ⟨hT, (show (1 : Int32) = 0 ∨ (1 : Int32) = 1 from by first | exact Or.inl rfl | exact Or.inr rfl)⟩
  · exact ok_rZ (Or.inl rfl) ⟨hT, (show (0 : Int32) = 0 ∨ (0 : Int32) = 1 from by first | exact Or.inl rfl | exact Or.inr rfl)⟩

set_option maxHeartbeats 4000000 in
set_option maxRecDepth 100000 in
theorem s_X6_findSets_28 {N : Nat} (hN : 1048576 ≤ N) {x2 : Int32} {x3 : Nat} {σ0 : zS}  (hR : RF σ0.2.2) (h_x3 : (zKd x3).1 = 2) : Ok (f_X6_findSets N 124 28 x2 x3 σ0) (fun r => Tr [125] σ0 r.2 ∧ (True)) := by
  have hT : Tr [125] σ0 σ0 := Tr.rf
  rw [f_X6_findSets.eq_1]
  refine ok_gC h_x3 ?_
  refine ok_zbT (Q := fun V σ => True) hT (s_X2_clear hN (hR.tr hT) h_x3) (fun _ h9 => absurd h9 List.not_mem_nil) (fun v1 σ2 hOσ2 hT hqv1 => ?_)
  refine ok_gI0 hT rfl (by decide) ?_
  refine ok_zbT (Q := fun V σ => True) hT (s_X6_touchedBy_28 hN (hR.tr hT) ) (fun _ h9 => absurd h9 List.not_mem_nil) (fun v4 σ5 hOσ5 hT hqv4 => ?_)
  refine ok_lp (fun t : Int32 × zS => Tr [125] σ0 (t.2) ∧ (0 ≤ (t.1).toInt)) (fun t : Int32 × zS => (1024 - (t.1).toInt).toNat) (fun again6 t hI ih21_6 => ?_) N _ (show Tr [125] σ0 σ5 ∧ (0 ≤ (0 : Int32).toInt) from ⟨hT, (by first | omega | decide | (simp only [Int32.le_iff_toInt_le, Int32.lt_iff_toInt_lt, ti_add, ti_sub, ti_mul, Int32.reduceToInt] at *; omega))⟩) (show (1024 - (0 : Int32).toInt).toNat < N from (by first | omega | decide | (simp only [Int32.le_iff_toInt_le, Int32.lt_iff_toInt_lt, ti_add, ti_sub, ti_mul, Int32.reduceToInt] at *; omega)))
  obtain ⟨x5_6, σ6⟩ := t
  have hI : Tr [125] σ0 σ6 ∧ (0 ≤ x5_6.toInt) := hI
  obtain ⟨hT, hI6⟩ := hI
  rw [F_X6_findSets_21.eq_1]
  refine ok_gI0 hT rfl (by decide) ?_
  refine ok_if (fun hc8 => ?_) (fun hc8 => ?_)
  · exact ok_some ⟨hT, trivial⟩
  · refine ok_if (fun hc9 => ?_) (fun hc9 => ?_)
    · exact ok_some ⟨hT, trivial⟩
    · refine ok_gC rfl ?_
      refine ok_zbT (Q := fun V σ => V = 0 ∨ V = 1) hT (s_X6_isOneOf_28 hN (hR.tr hT) ) (by decide) (fun v10 σ11 hOσ11 hT hqv10 => ?_)
      have hqv10 : v10 = 0 ∨ v10 = 1 := hqv10
      refine ok_if (fun hc12 => ?_) (fun hc12 => ?_)
      · exact ih21_6 (x5_6 + 1, σ11) (show Tr [125] σ0 σ11 ∧ (0 ≤ (x5_6 + 1).toInt) from ⟨hT, (by first | omega | decide | (simp only [Int32.le_iff_toInt_le, Int32.lt_iff_toInt_lt, ti_add, ti_sub, ti_mul, Int32.reduceToInt] at *; omega))⟩) (show (1024 - (x5_6 + 1).toInt).toNat < (1024 - x5_6.toInt).toNat from (by first | omega | decide | (simp only [Int32.le_iff_toInt_le, Int32.lt_iff_toInt_lt, ti_add, ti_sub, ti_mul, Int32.reduceToInt] at *; omega)))
      · refine ok_gC h_x3 ?_
        refine ok_zbT (Q := fun V σ => True) hT (s_X2_include hN (hR.tr hT) h_x3) (fun _ h9 => absurd h9 List.not_mem_nil) (fun v13 σ14 hOσ14 hT hqv13 => ?_)
        exact ih21_6 (x5_6 + 1, σ14) (show Tr [125] σ0 σ14 ∧ (0 ≤ (x5_6 + 1).toInt) from ⟨hT, (by first | omega | decide | (simp only [Int32.le_iff_toInt_le, Int32.lt_iff_toInt_lt, ti_add, ti_sub, ti_mul, Int32.reduceToInt] at *; omega))⟩) (show (1024 - (x5_6 + 1).toInt).toNat < (1024 - x5_6.toInt).toNat from (by first | omega | decide | (simp only [Int32.le_iff_toInt_le, Int32.lt_iff_toInt_lt, ti_add, ti_sub, ti_mul, Int32.reduceToInt] at *; omega)))

set_option maxHeartbeats 4000000 in
set_option maxRecDepth 100000 in
theorem sg_X6_walk_28 {N : Nat} (hN : 1048576 ≤ N) : ∀ dd : Nat, (∀ (x1 : Int32) (x2 : Int32) (x3 : Int32) (x4 : Int32) (x5 : Nat) (σ0 : zS), RF σ0.2.2 → (zKd x5).1 = 2 → WI 28 σ0.1 → 0 ≤ x1.toInt ∧ x1.toInt ≤ 7 → 0 ≤ x3.toInt ∧ x3.toInt ≤ 255 → 8 - bc8 x3 < dd → Ok (f_X6_walk N dd 28 x1 x2 x3 x4 x5 σ0) (fun r => Tr [] σ0 r.2 ∧ (True))) := by
  intro dd
  induction dd with
  | zero => exact fun _ _ _ _ _ _ _ _ _ _ _ h => absurd h (Nat.not_lt_zero _)
  | succ dd ih =>
    have ih0 := ih
    intro x1 x2 x3 x4 x5 σ0 hR h_x5 hW h1 h3 hm
    show Ok (B_X6_walk N (f_X6_walk N dd) 28 x1 x2 x3 x4 x5 σ0) _
    have hT : Tr [] σ0 σ0 := Tr.rf
    rw [B_X6_walk.eq_1]
    refine ok_lp (fun t : Int32 × zS => Tr [] σ0 (t.2) ∧ (0 ≤ (t.1).toInt)) (fun t : Int32 × zS => (10 - (t.1).toInt).toNat) (fun again1 t hI ih3_1 => ?_) N _ (show Tr [] σ0 σ0 ∧ (0 ≤ (0 : Int32).toInt) from ⟨hT, (by first | omega | decide | (simp only [Int32.le_iff_toInt_le, Int32.lt_iff_toInt_lt, ti_add, ti_sub, ti_mul, Int32.reduceToInt] at *; omega))⟩) (show (10 - (0 : Int32).toInt).toNat < N from (by first | omega | decide | (simp only [Int32.le_iff_toInt_le, Int32.lt_iff_toInt_lt, ti_add, ti_sub, ti_mul, Int32.reduceToInt] at *; omega)))
    obtain ⟨x6_1, σ1⟩ := t
    have hI : Tr [] σ0 σ1 ∧ (0 ≤ x6_1.toInt) := hI
    obtain ⟨hT, hI1⟩ := hI
    rw [F_X6_walk_3.eq_1]
    refine ok_gI0 hT rfl (by decide) ?_
    refine ok_if (fun hc3 => ?_) (fun hc3 => ?_)
    · exact ok_some ⟨hT, trivial⟩
    · refine ok_if (fun hc4 => ?_) (fun hc4 => ?_)
      · exact ok_some ⟨hT, trivial⟩
      · refine ok_zbT (Q := fun V σ => -1 ≤ V.toInt ∧ V.toInt ≤ 7) hT (s_X6_acrossFrom_28 hN (hR.tr hT) (by first | exact hW | exact WI.tr hT (by decide) (by decide) (by decide) hW)) (fun _ h9 => absurd h9 List.not_mem_nil) (fun v5 σ6 hOσ6 hT hqv5 => ?_)
        have hqv5 : -1 ≤ v5.toInt ∧ v5.toInt ≤ 7 := hqv5
        refine ok_if (fun hc7 => ?_) (fun hc7 => ?_)
        · exact ih3_1 (x6_1 + 1, σ6) (show Tr [] σ0 σ6 ∧ (0 ≤ (x6_1 + 1).toInt) from ⟨hT, (by first | omega | decide | (simp only [Int32.le_iff_toInt_le, Int32.lt_iff_toInt_lt, ti_add, ti_sub, ti_mul, Int32.reduceToInt] at *; omega))⟩) (show (10 - (x6_1 + 1).toInt).toNat < (10 - x6_1.toInt).toNat from (by first | omega | decide | (simp only [Int32.le_iff_toInt_le, Int32.lt_iff_toInt_lt, ti_add, ti_sub, ti_mul, Int32.reduceToInt] at *; omega)))
        · refine ok_if (fun hc8 => ?_) (fun hc8 => ?_)
          · have qs := bc8_up (x := x3) (k := v5) (by omega) (by omega) (by simp only [Int32.le_iff_toInt_le, Int32.lt_iff_toInt_lt, ti_add, ti_sub, ti_mul, Int32.reduceToInt] at *; omega) (by simp only [Int32.le_iff_toInt_le, Int32.lt_iff_toInt_lt, ti_add, ti_sub, ti_mul, Int32.reduceToInt] at *; omega) hc8
            refine ok_if (fun hc9 => ?_) (fun hc9 => ?_)
            · refine ok_gC h_x5 ?_
              refine ok_zbT (Q := fun V σ => True) hT (s_X2_include hN (hR.tr hT) h_x5) (fun _ h9 => absurd h9 List.not_mem_nil) (fun v10 σ11 hOσ11 hT hqv10 => ?_)
              exact ih3_1 (x6_1 + 1, σ11) (show Tr [] σ0 σ11 ∧ (0 ≤ (x6_1 + 1).toInt) from ⟨hT, (by first | omega | decide | (simp only [Int32.le_iff_toInt_le, Int32.lt_iff_toInt_lt, ti_add, ti_sub, ti_mul, Int32.reduceToInt] at *; omega))⟩) (show (10 - (x6_1 + 1).toInt).toNat < (10 - x6_1.toInt).toNat from (by first | omega | decide | (simp only [Int32.le_iff_toInt_le, Int32.lt_iff_toInt_lt, ti_add, ti_sub, ti_mul, Int32.reduceToInt] at *; omega)))
            · refine ok_zbT (Q := fun V σ => True) hT (s_J6_bitCount_0f7a4 hN (hR.tr hT) ) (fun _ h9 => absurd h9 List.not_mem_nil) (fun v12 σ13 hOσ13 hT hqv12 => ?_)
              refine ok_if (fun hc14 => ?_) (fun hc14 => ?_)
              · exact ih3_1 (x6_1 + 1, σ13) (show Tr [] σ0 σ13 ∧ (0 ≤ (x6_1 + 1).toInt) from ⟨hT, (by first | omega | decide | (simp only [Int32.le_iff_toInt_le, Int32.lt_iff_toInt_lt, ti_add, ti_sub, ti_mul, Int32.reduceToInt] at *; omega))⟩) (show (10 - (x6_1 + 1).toInt).toNat < (10 - x6_1.toInt).toNat from (by first | omega | decide | (simp only [Int32.le_iff_toInt_le, Int32.lt_iff_toInt_lt, ti_add, ti_sub, ti_mul, Int32.reduceToInt] at *; omega)))
              · refine ok_zbT (Q := fun V σ => True) hT (ih0 _ _ _ _ _ _ (hR.tr hT) h_x5 (by first | exact hW | exact WI.tr hT (by decide) (by decide) (by decide) hW) (by simp only [Int32.le_iff_toInt_le, Int32.lt_iff_toInt_lt, ti_add, ti_sub, ti_mul, Int32.reduceToInt] at *; omega) (by omega) (by omega)) (fun _ h9 => absurd h9 List.not_mem_nil) (fun v15 σ16 hOσ16 hT hqv15 => ?_)
                exact ih3_1 (x6_1 + 1, σ16) (show Tr [] σ0 σ16 ∧ (0 ≤ (x6_1 + 1).toInt) from ⟨hT, (by first | omega | decide | (simp only [Int32.le_iff_toInt_le, Int32.lt_iff_toInt_lt, ti_add, ti_sub, ti_mul, Int32.reduceToInt] at *; omega))⟩) (show (10 - (x6_1 + 1).toInt).toNat < (10 - x6_1.toInt).toNat from (by first | omega | decide | (simp only [Int32.le_iff_toInt_le, Int32.lt_iff_toInt_lt, ti_add, ti_sub, ti_mul, Int32.reduceToInt] at *; omega)))
          · exact ih3_1 (x6_1 + 1, σ6) (show Tr [] σ0 σ6 ∧ (0 ≤ (x6_1 + 1).toInt) from ⟨hT, (by first | omega | decide | (simp only [Int32.le_iff_toInt_le, Int32.lt_iff_toInt_lt, ti_add, ti_sub, ti_mul, Int32.reduceToInt] at *; omega))⟩) (show (10 - (x6_1 + 1).toInt).toNat < (10 - x6_1.toInt).toNat from (by first | omega | decide | (simp only [Int32.le_iff_toInt_le, Int32.lt_iff_toInt_lt, ti_add, ti_sub, ti_mul, Int32.reduceToInt] at *; omega)))
theorem s_X6_walk_28 {N : Nat} (hN : 1048576 ≤ N) {x1 : Int32} {x2 : Int32} {x3 : Int32} {x4 : Int32} {x5 : Nat} {σ0 : zS} (hR : RF σ0.2.2) (h_x5 : (zKd x5).1 = 2) (hW : WI 28 σ0.1) (h1 : 0 ≤ x1.toInt ∧ x1.toInt ≤ 7) (h3 : 0 ≤ x3.toInt ∧ x3.toInt ≤ 255) (hm : 8 - bc8 x3 < 10) : Ok (f_X6_walk N 10 28 x1 x2 x3 x4 x5 σ0) (fun r => Tr [] σ0 r.2 ∧ (True)) := (sg_X6_walk_28 hN 10) _ _ _ _ _ _ hR h_x5 hW h1 h3 hm

set_option maxHeartbeats 4000000 in
set_option maxRecDepth 100000 in
theorem s_X6_findWays_28 {N : Nat} (hN : 1048576 ≤ N) {x2 : Int32} {x3 : Int32} {x4 : Nat} {σ0 : zS}  (hR : RF σ0.2.2) (h_x4 : (zKd x4).1 = 2) (hW : WI 28 σ0.1) (h2 : 0 ≤ x2.toInt ∧ x2.toInt ≤ 7) : Ok (f_X6_findWays N 124 28 x2 x3 x4 σ0) (fun r => Tr [] σ0 r.2 ∧ (True)) := by
  have hT : Tr [] σ0 σ0 := Tr.rf
  rw [f_X6_findWays.eq_1]
  refine ok_gC h_x4 ?_
  refine ok_zbT (Q := fun V σ => True) hT (s_X2_clear hN (hR.tr hT) h_x4) (fun _ h9 => absurd h9 List.not_mem_nil) (fun v1 σ2 hOσ2 hT hqv1 => ?_)
  refine ok_if (fun hc3 => ?_) (fun hc3 => ?_)
  · refine ok_gC h_x4 ?_
    refine ok_zbT (Q := fun V σ => True) hT (s_X2_include hN (hR.tr hT) h_x4) (fun _ h9 => absurd h9 List.not_mem_nil) (fun v4 σ5 hOσ5 hT hqv4 => ?_)
    exact ok_some ⟨hT, trivial⟩
  · have q7 := one7 (k := x2) h2.1 h2.2
    refine ok_zbT (Q := fun V σ => True) hT (s_X6_walk_28 hN (hR.tr hT) h_x4 (by first | exact hW | exact WI.tr hT (by decide) (by decide) (by decide) hW) (by exact h2) (by exact q7) (by omega)) (fun _ h9 => absurd h9 List.not_mem_nil) (fun v6 σ7 hOσ7 hT hqv6 => ?_)
    exact ok_some ⟨hT, trivial⟩

set_option maxHeartbeats 4000000 in
set_option maxRecDepth 100000 in
theorem s_X10_placeOf_2 {N : Nat} (hN : 1048576 ≤ N) {x1 : Int32} {σ0 : zS}  (hR : RF σ0.2.2)  : Ok (f_X10_placeOf N 2 x1 σ0) (fun r => Tr [] σ0 r.2 ∧ (-1 ≤ r.1.toInt ∧ r.1.toInt ≤ 9)) := by
  have hT : Tr [] σ0 σ0 := Tr.rf
  rw [f_X10_placeOf.eq_1]
  refine ok_lp (fun t : Int32 × zS => Tr [] σ0 (t.2) ∧ (0 ≤ (t.1).toInt)) (fun t : Int32 × zS => (10 - (t.1).toInt).toNat) (fun again1 t hI ih2_1 => ?_) N _ (show Tr [] σ0 σ0 ∧ (0 ≤ (0 : Int32).toInt) from ⟨hT, (by first | omega | decide | (simp only [Int32.le_iff_toInt_le, Int32.lt_iff_toInt_lt, ti_add, ti_sub, ti_mul, Int32.reduceToInt] at *; omega))⟩) (show (10 - (0 : Int32).toInt).toNat < N from (by first | omega | decide | (simp only [Int32.le_iff_toInt_le, Int32.lt_iff_toInt_lt, ti_add, ti_sub, ti_mul, Int32.reduceToInt] at *; omega)))
  obtain ⟨x2_1, σ1⟩ := t
  have hI : Tr [] σ0 σ1 ∧ (0 ≤ x2_1.toInt) := hI
  obtain ⟨hT, hI1⟩ := hI
  rw [F_X10_placeOf_2.eq_1]
  refine ok_gI0 hT rfl (by decide) ?_
  refine ok_if (fun hc3 => ?_) (fun hc3 => ?_)
  · exact ok_some ⟨hT, (show -1 ≤ (-1 : Int32).toInt ∧ (-1 : Int32).toInt ≤ 9 from by first | omega | decide | (simp only [Int32.le_iff_toInt_le, Int32.lt_iff_toInt_lt, ti_add, ti_sub, ti_mul, Int32.reduceToInt] at *; omega))⟩
  · refine ok_if (fun hc4 => ?_) (fun hc4 => ?_)
    · exact ok_some ⟨hT, (show -1 ≤ (-1 : Int32).toInt ∧ (-1 : Int32).toInt ≤ 9 from by first | omega | decide | (simp only [Int32.le_iff_toInt_le, Int32.lt_iff_toInt_lt, ti_add, ti_sub, ti_mul, Int32.reduceToInt] at *; omega))⟩
    · refine ok_gR (v := 6) hT rfl (hR 2 6 rfl) ?_
      refine ok_aIn rfl (by first | omega | decide | (simp only [Int32.le_iff_toInt_le, Int32.lt_iff_toInt_lt, ti_add, ti_sub, ti_mul, Int32.reduceToInt] at *; omega)) (by first | omega | decide | (simp only [Int32.le_iff_toInt_le, Int32.lt_iff_toInt_lt, ti_add, ti_sub, ti_mul, Int32.reduceToInt] at *; omega)) (fun v6 ev6 => ?_)
      refine ok_if (fun hc7 => ?_) (fun hc7 => ?_)
      · exact ok_some ⟨hT, (show -1 ≤ x2_1.toInt ∧ x2_1.toInt ≤ 9 from by first | omega | decide | (simp only [Int32.le_iff_toInt_le, Int32.lt_iff_toInt_lt, ti_add, ti_sub, ti_mul, Int32.reduceToInt] at *; omega))⟩
      · exact ih2_1 (x2_1 + 1, σ1) (show Tr [] σ0 σ1 ∧ (0 ≤ (x2_1 + 1).toInt) from ⟨hT, (by first | omega | decide | (simp only [Int32.le_iff_toInt_le, Int32.lt_iff_toInt_lt, ti_add, ti_sub, ti_mul, Int32.reduceToInt] at *; omega))⟩) (show (10 - (x2_1 + 1).toInt).toNat < (10 - x2_1.toInt).toNat from (by simp only [Int32.le_iff_toInt_le, Int32.lt_iff_toInt_lt, ti_add, ti_sub, ti_mul, Int32.reduceToInt] at *; omega))

set_option maxHeartbeats 4000000 in
set_option maxRecDepth 100000 in
theorem s_X10_moveName_2 {N : Nat} (hN : 1048576 ≤ N) {x1 : Int32} {x2 : Int32} {σ0 : zS}  (hR : RF σ0.2.2)  : Ok (f_X10_moveName N 2 x1 x2 σ0) (fun r => Tr [6] σ0 r.2 ∧ (True)) := by
  have hT : Tr [6] σ0 σ0 := Tr.rf
  rw [f_X10_moveName.eq_1]
  refine ok_gC rfl ?_
  refine ok_zbT (Q := fun V σ => -1 ≤ V.toInt ∧ V.toInt ≤ 9) hT (s_X10_placeOf_2 hN (hR.tr hT) ) (fun _ h9 => absurd h9 List.not_mem_nil) (fun v1 σ2 hOσ2 hT hqv1 => ?_)
  have hqv1 : -1 ≤ v1.toInt ∧ v1.toInt ≤ 9 := hqv1
  refine ok_if (fun hc3 => ?_) (fun hc3 => ?_)
  · exact ok_some ⟨hT, trivial⟩
  · refine ok_if (fun hc4 => ?_) (fun hc4 => ?_)
    · exact ok_some ⟨hT, trivial⟩
    · refine ok_if (fun hc5 => ?_) (fun hc5 => ?_)
      · refine ok_if (fun hc6 => ?_) (fun hc6 => ?_)
        · rw [J_X10_moveName_32.eq_1]
          refine ok_lp (fun t : Int32 × zS => Tr [6] σ0 (t.2) ∧ (0 ≤ (-1 : Int32).toInt * (x2.toInt - (t.1).toInt) ∧ 0 ≤ (t.1).toInt ∧ (t.1).toInt ≤ 9)) (fun t : Int32 × zS => (x2.toInt - (t.1).toInt).toNat + ((t.1).toInt - x2.toInt).toNat) (fun again7 t hI ih37_7 => ?_) N _ (show Tr [6] σ0 σ2 ∧ (0 ≤ (-1 : Int32).toInt * (x2.toInt - v1.toInt) ∧ 0 ≤ v1.toInt ∧ v1.toInt ≤ 9) from ⟨hT, (by first | omega | decide | (simp only [Int32.le_iff_toInt_le, Int32.lt_iff_toInt_lt, ti_add, ti_sub, ti_mul, Int32.reduceToInt] at *; omega))⟩) (show (x2.toInt - v1.toInt).toNat + (v1.toInt - x2.toInt).toNat < N from (by first | omega | decide | (simp only [Int32.le_iff_toInt_le, Int32.lt_iff_toInt_lt, ti_add, ti_sub, ti_mul, Int32.reduceToInt] at *; omega)))
          obtain ⟨x5_7, σ7⟩ := t
          have hI : Tr [6] σ0 σ7 ∧ (0 ≤ (-1 : Int32).toInt * (x2.toInt - x5_7.toInt) ∧ 0 ≤ x5_7.toInt ∧ x5_7.toInt ≤ 9) := hI
          obtain ⟨hT, hI7⟩ := hI
          rw [F_X10_moveName_37.eq_1]
          refine ok_if (fun hc8 => ?_) (fun hc8 => ?_)
          · refine ok_gR (v := 6) hT rfl (hR 2 6 rfl) ?_
            refine ok_s14 hT rfl (by decide) (by first | omega | decide | (simp only [Int32.le_iff_toInt_le, Int32.lt_iff_toInt_lt, ti_add, ti_sub, ti_mul, Int32.reduceToInt] at *; omega)) (by first | omega | decide | (simp only [Int32.le_iff_toInt_le, Int32.lt_iff_toInt_lt, ti_add, ti_sub, ti_mul, Int32.reduceToInt] at *; omega)) (fun σ10 eσ10 hOσ10 hT => ?_)
            exact ok_some ⟨hT, trivial⟩
          · rw [ti_eq] at hc8
            refine ok_if (fun hc11 => ?_) (fun hc11 => ?_)
            · refine ok_gR (v := 6) hT rfl (hR 2 6 rfl) ?_
              refine ok_s14 hT rfl (by decide) (by first | omega | decide | (simp only [Int32.le_iff_toInt_le, Int32.lt_iff_toInt_lt, ti_add, ti_sub, ti_mul, Int32.reduceToInt] at *; omega)) (by first | omega | decide | (simp only [Int32.le_iff_toInt_le, Int32.lt_iff_toInt_lt, ti_add, ti_sub, ti_mul, Int32.reduceToInt] at *; omega)) (fun σ13 eσ13 hOσ13 hT => ?_)
              exact ok_some ⟨hT, trivial⟩
            · refine ok_if (fun hc14 => ?_) (fun hc14 => ?_)
              · refine ok_gR (v := 6) hT rfl (hR 2 6 rfl) ?_
                refine ok_s14 hT rfl (by decide) (by first | omega | decide | (simp only [Int32.le_iff_toInt_le, Int32.lt_iff_toInt_lt, ti_add, ti_sub, ti_mul, Int32.reduceToInt] at *; omega)) (by first | omega | decide | (simp only [Int32.le_iff_toInt_le, Int32.lt_iff_toInt_lt, ti_add, ti_sub, ti_mul, Int32.reduceToInt] at *; omega)) (fun σ16 eσ16 hOσ16 hT => ?_)
                exact ok_some ⟨hT, trivial⟩
              · refine ok_gR (v := 6) hT rfl (hR 2 6 rfl) ?_
                refine ok_gR (v := 6) hT rfl (hR 2 6 rfl) ?_
                refine ok_aIn rfl (by first | omega | decide | (simp only [Int32.le_iff_toInt_le, Int32.lt_iff_toInt_lt, ti_add, ti_sub, ti_mul, Int32.reduceToInt] at *; omega)) (by first | omega | decide | (simp only [Int32.le_iff_toInt_le, Int32.lt_iff_toInt_lt, ti_add, ti_sub, ti_mul, Int32.reduceToInt] at *; omega)) (fun v19 ev19 => ?_)
                refine ok_s14 hT rfl (by decide) (by first | omega | decide | (simp only [Int32.le_iff_toInt_le, Int32.lt_iff_toInt_lt, ti_add, ti_sub, ti_mul, Int32.reduceToInt] at *; omega)) (by first | omega | decide | (simp only [Int32.le_iff_toInt_le, Int32.lt_iff_toInt_lt, ti_add, ti_sub, ti_mul, Int32.reduceToInt] at *; omega)) (fun σ20 eσ20 hOσ20 hT => ?_)
                exact ih37_7 (x5_7 + (-1), σ20) (show Tr [6] σ0 σ20 ∧ (0 ≤ (-1 : Int32).toInt * (x2.toInt - (x5_7 + (-1)).toInt) ∧ 0 ≤ (x5_7 + (-1)).toInt ∧ (x5_7 + (-1)).toInt ≤ 9) from ⟨hT, (by first | omega | decide | (simp only [Int32.le_iff_toInt_le, Int32.lt_iff_toInt_lt, ti_add, ti_sub, ti_mul, Int32.reduceToInt] at *; omega))⟩) (show (x2.toInt - (x5_7 + (-1)).toInt).toNat + ((x5_7 + (-1)).toInt - x2.toInt).toNat < (x2.toInt - x5_7.toInt).toNat + (x5_7.toInt - x2.toInt).toNat from (by first | omega | decide | (simp only [Int32.le_iff_toInt_le, Int32.lt_iff_toInt_lt, ti_add, ti_sub, ti_mul, Int32.reduceToInt] at *; omega)))
        · rw [J_X10_moveName_32.eq_1]
          refine ok_lp (fun t : Int32 × zS => Tr [6] σ0 (t.2) ∧ (0 ≤ (1 : Int32).toInt * (x2.toInt - (t.1).toInt) ∧ 0 ≤ (t.1).toInt ∧ (t.1).toInt ≤ 9)) (fun t : Int32 × zS => (x2.toInt - (t.1).toInt).toNat + ((t.1).toInt - x2.toInt).toNat) (fun again21 t hI ih37_21 => ?_) N _ (show Tr [6] σ0 σ2 ∧ (0 ≤ (1 : Int32).toInt * (x2.toInt - v1.toInt) ∧ 0 ≤ v1.toInt ∧ v1.toInt ≤ 9) from ⟨hT, (by first | omega | decide | (simp only [Int32.le_iff_toInt_le, Int32.lt_iff_toInt_lt, ti_add, ti_sub, ti_mul, Int32.reduceToInt] at *; omega))⟩) (show (x2.toInt - v1.toInt).toNat + (v1.toInt - x2.toInt).toNat < N from (by first | omega | decide | (simp only [Int32.le_iff_toInt_le, Int32.lt_iff_toInt_lt, ti_add, ti_sub, ti_mul, Int32.reduceToInt] at *; omega)))
          obtain ⟨x5_21, σ21⟩ := t
          have hI : Tr [6] σ0 σ21 ∧ (0 ≤ (1 : Int32).toInt * (x2.toInt - x5_21.toInt) ∧ 0 ≤ x5_21.toInt ∧ x5_21.toInt ≤ 9) := hI
          obtain ⟨hT, hI21⟩ := hI
          rw [F_X10_moveName_37.eq_1]
          refine ok_if (fun hc22 => ?_) (fun hc22 => ?_)
          · refine ok_gR (v := 6) hT rfl (hR 2 6 rfl) ?_
            refine ok_s14 hT rfl (by decide) (by first | omega | decide | (simp only [Int32.le_iff_toInt_le, Int32.lt_iff_toInt_lt, ti_add, ti_sub, ti_mul, Int32.reduceToInt] at *; omega)) (by first | omega | decide | (simp only [Int32.le_iff_toInt_le, Int32.lt_iff_toInt_lt, ti_add, ti_sub, ti_mul, Int32.reduceToInt] at *; omega)) (fun σ24 eσ24 hOσ24 hT => ?_)
            exact ok_some ⟨hT, trivial⟩
          · rw [ti_eq] at hc22
            refine ok_if (fun hc25 => ?_) (fun hc25 => ?_)
            · refine ok_gR (v := 6) hT rfl (hR 2 6 rfl) ?_
              refine ok_s14 hT rfl (by decide) (by first | omega | decide | (simp only [Int32.le_iff_toInt_le, Int32.lt_iff_toInt_lt, ti_add, ti_sub, ti_mul, Int32.reduceToInt] at *; omega)) (by first | omega | decide | (simp only [Int32.le_iff_toInt_le, Int32.lt_iff_toInt_lt, ti_add, ti_sub, ti_mul, Int32.reduceToInt] at *; omega)) (fun σ27 eσ27 hOσ27 hT => ?_)
              exact ok_some ⟨hT, trivial⟩
            · refine ok_if (fun hc28 => ?_) (fun hc28 => ?_)
              · refine ok_gR (v := 6) hT rfl (hR 2 6 rfl) ?_
                refine ok_s14 hT rfl (by decide) (by first | omega | decide | (simp only [Int32.le_iff_toInt_le, Int32.lt_iff_toInt_lt, ti_add, ti_sub, ti_mul, Int32.reduceToInt] at *; omega)) (by first | omega | decide | (simp only [Int32.le_iff_toInt_le, Int32.lt_iff_toInt_lt, ti_add, ti_sub, ti_mul, Int32.reduceToInt] at *; omega)) (fun σ30 eσ30 hOσ30 hT => ?_)
                exact ok_some ⟨hT, trivial⟩
              · refine ok_gR (v := 6) hT rfl (hR 2 6 rfl) ?_
                refine ok_gR (v := 6) hT rfl (hR 2 6 rfl) ?_
                refine ok_aIn rfl (by first | omega | decide | (simp only [Int32.le_iff_toInt_le, Int32.lt_iff_toInt_lt, ti_add, ti_sub, ti_mul, Int32.reduceToInt] at *; omega)) (by first | omega | decide | (simp only [Int32.le_iff_toInt_le, Int32.lt_iff_toInt_lt, ti_add, ti_sub, ti_mul, Int32.reduceToInt] at *; omega)) (fun v33 ev33 => ?_)
                refine ok_s14 hT rfl (by decide) (by first | omega | decide | (simp only [Int32.le_iff_toInt_le, Int32.lt_iff_toInt_lt, ti_add, ti_sub, ti_mul, Int32.reduceToInt] at *; omega)) (by first | omega | decide | (simp only [Int32.le_iff_toInt_le, Int32.lt_iff_toInt_lt, ti_add, ti_sub, ti_mul, Int32.reduceToInt] at *; omega)) (fun σ34 eσ34 hOσ34 hT => ?_)
                exact ih37_21 (x5_21 + 1, σ34) (show Tr [6] σ0 σ34 ∧ (0 ≤ (1 : Int32).toInt * (x2.toInt - (x5_21 + 1).toInt) ∧ 0 ≤ (x5_21 + 1).toInt ∧ (x5_21 + 1).toInt ≤ 9) from ⟨hT, (by first | omega | decide | (simp only [Int32.le_iff_toInt_le, Int32.lt_iff_toInt_lt, ti_add, ti_sub, ti_mul, Int32.reduceToInt] at *; omega))⟩) (show (x2.toInt - (x5_21 + 1).toInt).toNat + ((x5_21 + 1).toInt - x2.toInt).toNat < (x2.toInt - x5_21.toInt).toNat + (x5_21.toInt - x2.toInt).toNat from (by first | omega | decide | (simp only [Int32.le_iff_toInt_le, Int32.lt_iff_toInt_lt, ti_add, ti_sub, ti_mul, Int32.reduceToInt] at *; omega)))
      · exact ok_some ⟨hT, trivial⟩

set_option maxHeartbeats 4000000 in
set_option maxRecDepth 100000 in
theorem s_X10_firstLike_2 {N : Nat} (hN : 1048576 ≤ N) {x1 : Int32} {σ0 : zS}  (hR : RF σ0.2.2) (hp : x1.toInt ≤ 10) : Ok (f_X10_firstLike N 2 x1 σ0) (fun r => Tr [] σ0 r.2 ∧ (True)) := by
  have hT : Tr [] σ0 σ0 := Tr.rf
  rw [f_X10_firstLike.eq_1]
  refine ok_lp (fun t : Int32 × zS => Tr [] σ0 (t.2) ∧ (0 ≤ (t.1).toInt)) (fun t : Int32 × zS => (x1.toInt - (t.1).toInt).toNat) (fun again1 t hI ih2_1 => ?_) N _ (show Tr [] σ0 σ0 ∧ (0 ≤ (0 : Int32).toInt) from ⟨hT, (by first | omega | decide | (simp only [Int32.le_iff_toInt_le, Int32.lt_iff_toInt_lt, ti_add, ti_sub, ti_mul, Int32.reduceToInt] at *; omega))⟩) (show (x1.toInt - (0 : Int32).toInt).toNat < N from (by first | omega | decide | (simp only [Int32.le_iff_toInt_le, Int32.lt_iff_toInt_lt, ti_add, ti_sub, ti_mul, Int32.reduceToInt] at *; omega)))
  obtain ⟨x2_1, σ1⟩ := t
  have hI : Tr [] σ0 σ1 ∧ (0 ≤ x2_1.toInt) := hI
  obtain ⟨hT, hI1⟩ := hI
  rw [F_X10_firstLike_2.eq_1]
  refine ok_if (fun hc2 => ?_) (fun hc2 => ?_)
  · exact ok_some ⟨hT, trivial⟩
  · refine ok_if (fun hc3 => ?_) (fun hc3 => ?_)
    · exact ok_some ⟨hT, trivial⟩
    · refine ok_if (fun hc4 => ?_) (fun hc4 => ?_)
      · exact ih2_1 (x2_1 + 1, σ1) (show Tr [] σ0 σ1 ∧ (0 ≤ (x2_1 + 1).toInt) from ⟨hT, (by first | omega | decide | (simp only [Int32.le_iff_toInt_le, Int32.lt_iff_toInt_lt, ti_add, ti_sub, ti_mul, Int32.reduceToInt] at *; omega))⟩) (show (x1.toInt - (x2_1 + 1).toInt).toNat < (x1.toInt - x2_1.toInt).toNat from (by first | omega | decide | (simp only [Int32.le_iff_toInt_le, Int32.lt_iff_toInt_lt, ti_add, ti_sub, ti_mul, Int32.reduceToInt] at *; omega)))
      · refine ok_gR (v := 7) hT rfl (hR 2 7 rfl) ?_
        obtain ⟨q7, eq7, kq7⟩ := arrF hR (k := 7) (i := x2_1) rfl (by first | omega | decide | (simp only [Int32.le_iff_toInt_le, Int32.lt_iff_toInt_lt, ti_add, ti_sub, ti_mul, Int32.reduceToInt] at *; omega)) (by first | omega | decide | (simp only [Int32.le_iff_toInt_le, Int32.lt_iff_toInt_lt, ti_add, ti_sub, ti_mul, Int32.reduceToInt] at *; omega))
        refine ok_aR (v := q7) hT rfl (by first | omega | decide | (simp only [Int32.le_iff_toInt_le, Int32.lt_iff_toInt_lt, ti_add, ti_sub, ti_mul, Int32.reduceToInt] at *; omega)) (by first | omega | decide | (simp only [Int32.le_iff_toInt_le, Int32.lt_iff_toInt_lt, ti_add, ti_sub, ti_mul, Int32.reduceToInt] at *; omega)) eq7 ?_
        refine ok_gR (v := 7) hT rfl (hR 2 7 rfl) ?_
        obtain ⟨q10, eq10, kq10⟩ := arrF hR (k := 7) (i := x1) rfl (by first | omega | decide | (simp only [Int32.le_iff_toInt_le, Int32.lt_iff_toInt_lt, ti_add, ti_sub, ti_mul, Int32.reduceToInt] at *; omega)) (by first | omega | decide | (simp only [Int32.le_iff_toInt_le, Int32.lt_iff_toInt_lt, ti_add, ti_sub, ti_mul, Int32.reduceToInt] at *; omega))
        refine ok_aR (v := q10) hT rfl (by first | omega | decide | (simp only [Int32.le_iff_toInt_le, Int32.lt_iff_toInt_lt, ti_add, ti_sub, ti_mul, Int32.reduceToInt] at *; omega)) (by first | omega | decide | (simp only [Int32.le_iff_toInt_le, Int32.lt_iff_toInt_lt, ti_add, ti_sub, ti_mul, Int32.reduceToInt] at *; omega)) eq10 ?_
        refine ok_gC kq7 ?_
        refine ok_zbT (Q := fun V σ => V = 0 ∨ V = 1) hT (s_X2_sameAs hN (hR.tr hT) kq7 kq10) (fun _ h9 => absurd h9 List.not_mem_nil) (fun v11 σ12 hOσ12 hT hqv11 => ?_)
        have hqv11 : v11 = 0 ∨ v11 = 1 := hqv11
        refine ok_if (fun hc13 => ?_) (fun hc13 => ?_)
        · exact ih2_1 (x2_1 + 1, σ12) (show Tr [] σ0 σ12 ∧ (0 ≤ (x2_1 + 1).toInt) from ⟨hT, (by first | omega | decide | (simp only [Int32.le_iff_toInt_le, Int32.lt_iff_toInt_lt, ti_add, ti_sub, ti_mul, Int32.reduceToInt] at *; omega))⟩) (show (x1.toInt - (x2_1 + 1).toInt).toNat < (x1.toInt - x2_1.toInt).toNat from (by first | omega | decide | (simp only [Int32.le_iff_toInt_le, Int32.lt_iff_toInt_lt, ti_add, ti_sub, ti_mul, Int32.reduceToInt] at *; omega)))
        · exact ok_some ⟨hT, trivial⟩

set_option maxHeartbeats 4000000 in
set_option maxRecDepth 100000 in
theorem s_X10_unlikeFamilies_2 {N : Nat} (hN : 1048576 ≤ N)  {σ0 : zS}  (hR : RF σ0.2.2)  : Ok (f_X10_unlikeFamilies N 2 σ0) (fun r => Tr [] σ0 r.2 ∧ (True)) := by
  have hT : Tr [] σ0 σ0 := Tr.rf
  rw [f_X10_unlikeFamilies.eq_1]
  refine ok_lp (fun t : Int32 × Int32 × zS => Tr [] σ0 (t.2.2) ∧ (0 ≤ (t.2.1).toInt)) (fun t : Int32 × Int32 × zS => ((10 : Int32).toInt - (t.2.1).toInt).toNat) (fun again1 t hI ih4_1 => ?_) N _ (show Tr [] σ0 σ0 ∧ (0 ≤ (0 : Int32).toInt) from ⟨hT, (by first | omega | decide | (simp only [Int32.le_iff_toInt_le, Int32.lt_iff_toInt_lt, ti_add, ti_sub, ti_mul, Int32.reduceToInt] at *; omega))⟩) (show ((10 : Int32).toInt - (0 : Int32).toInt).toNat < N from (by first | omega | decide | (simp only [Int32.le_iff_toInt_le, Int32.lt_iff_toInt_lt, ti_add, ti_sub, ti_mul, Int32.reduceToInt] at *; omega)))
  obtain ⟨x1_1, x2_1, σ1⟩ := t
  have hI : Tr [] σ0 σ1 ∧ (0 ≤ x2_1.toInt) := hI
  obtain ⟨hT, hI1⟩ := hI
  rw [F_X10_unlikeFamilies_4.eq_1]
  refine ok_if (fun hc2 => ?_) (fun hc2 => ?_)
  · exact ok_some ⟨hT, trivial⟩
  · refine ok_gC rfl ?_
    refine ok_zbT (Q := fun V σ => True) hT (s_X10_firstLike_2 hN (hR.tr hT) (by simp only [Int32.le_iff_toInt_le, Int32.lt_iff_toInt_lt, ti_add, ti_sub, ti_mul, Int32.reduceToInt] at *; omega)) (fun _ h9 => absurd h9 List.not_mem_nil) (fun v3 σ4 hOσ4 hT hqv3 => ?_)
    refine ok_if (fun hc5 => ?_) (fun hc5 => ?_)
    · exact ih4_1 (x1_1 + 1, x2_1 + 1, σ4) (show Tr [] σ0 σ4 ∧ (0 ≤ (x2_1 + 1).toInt) from ⟨hT, (by first | omega | decide | (simp only [Int32.le_iff_toInt_le, Int32.lt_iff_toInt_lt, ti_add, ti_sub, ti_mul, Int32.reduceToInt] at *; omega))⟩) (show ((10 : Int32).toInt - (x2_1 + 1).toInt).toNat < ((10 : Int32).toInt - x2_1.toInt).toNat from (by first | omega | decide | (simp only [Int32.le_iff_toInt_le, Int32.lt_iff_toInt_lt, ti_add, ti_sub, ti_mul, Int32.reduceToInt] at *; omega)))
    · exact ih4_1 (x1_1, x2_1 + 1, σ4) (show Tr [] σ0 σ4 ∧ (0 ≤ (x2_1 + 1).toInt) from ⟨hT, (by first | omega | decide | (simp only [Int32.le_iff_toInt_le, Int32.lt_iff_toInt_lt, ti_add, ti_sub, ti_mul, Int32.reduceToInt] at *; omega))⟩) (show ((10 : Int32).toInt - (x2_1 + 1).toInt).toNat < ((10 : Int32).toInt - x2_1.toInt).toNat from (by first | omega | decide | (simp only [Int32.le_iff_toInt_le, Int32.lt_iff_toInt_lt, ti_add, ti_sub, ti_mul, Int32.reduceToInt] at *; omega)))

set_option maxHeartbeats 4000000 in
set_option maxRecDepth 100000 in
theorem s_X10_filledRegisters_2 {N : Nat} (hN : 1048576 ≤ N)  {σ0 : zS}  (hR : RF σ0.2.2)  : Ok (f_X10_filledRegisters N 2 σ0) (fun r => Tr [] σ0 r.2 ∧ (True)) := by
  have hT : Tr [] σ0 σ0 := Tr.rf
  rw [f_X10_filledRegisters.eq_1]
  refine ok_lp (fun t : Int32 × Int32 × zS => Tr [] σ0 (t.2.2) ∧ (0 ≤ (t.2.1).toInt)) (fun t : Int32 × Int32 × zS => ((10 : Int32).toInt - (t.2.1).toInt).toNat) (fun again1 t hI ih4_1 => ?_) N _ (show Tr [] σ0 σ0 ∧ (0 ≤ (0 : Int32).toInt) from ⟨hT, (by first | omega | decide | (simp only [Int32.le_iff_toInt_le, Int32.lt_iff_toInt_lt, ti_add, ti_sub, ti_mul, Int32.reduceToInt] at *; omega))⟩) (show ((10 : Int32).toInt - (0 : Int32).toInt).toNat < N from (by first | omega | decide | (simp only [Int32.le_iff_toInt_le, Int32.lt_iff_toInt_lt, ti_add, ti_sub, ti_mul, Int32.reduceToInt] at *; omega)))
  obtain ⟨x1_1, x2_1, σ1⟩ := t
  have hI : Tr [] σ0 σ1 ∧ (0 ≤ x2_1.toInt) := hI
  obtain ⟨hT, hI1⟩ := hI
  rw [F_X10_filledRegisters_4.eq_1]
  refine ok_if (fun hc2 => ?_) (fun hc2 => ?_)
  · exact ok_some ⟨hT, trivial⟩
  · refine ok_gR (v := 7) hT rfl (hR 2 7 rfl) ?_
    obtain ⟨q5, eq5, kq5⟩ := arrF hR (k := 7) (i := x2_1) rfl (by first | omega | decide | (simp only [Int32.le_iff_toInt_le, Int32.lt_iff_toInt_lt, ti_add, ti_sub, ti_mul, Int32.reduceToInt] at *; omega)) (by first | omega | decide | (simp only [Int32.le_iff_toInt_le, Int32.lt_iff_toInt_lt, ti_add, ti_sub, ti_mul, Int32.reduceToInt] at *; omega))
    refine ok_aR (v := q5) hT rfl (by first | omega | decide | (simp only [Int32.le_iff_toInt_le, Int32.lt_iff_toInt_lt, ti_add, ti_sub, ti_mul, Int32.reduceToInt] at *; omega)) (by first | omega | decide | (simp only [Int32.le_iff_toInt_le, Int32.lt_iff_toInt_lt, ti_add, ti_sub, ti_mul, Int32.reduceToInt] at *; omega)) eq5 ?_
    refine ok_gC kq5 ?_
    refine ok_zbT (Q := fun V σ => V = 0 ∨ V = 1) hT (s_X2_isEmpty hN (hR.tr hT) kq5) (fun _ h9 => absurd h9 List.not_mem_nil) (fun v6 σ7 hOσ7 hT hqv6 => ?_)
    have hqv6 : v6 = 0 ∨ v6 = 1 := hqv6
    refine ok_if (fun hc8 => ?_) (fun hc8 => ?_)
    · exact ih4_1 (x1_1 ||| ((1 : Int32) <<< (x2_1 &&& 31)), x2_1 + 1, σ7) (show Tr [] σ0 σ7 ∧ (0 ≤ (x2_1 + 1).toInt) from ⟨hT, (by first | omega | decide | (simp only [Int32.le_iff_toInt_le, Int32.lt_iff_toInt_lt, ti_add, ti_sub, ti_mul, Int32.reduceToInt] at *; omega))⟩) (show ((10 : Int32).toInt - (x2_1 + 1).toInt).toNat < ((10 : Int32).toInt - x2_1.toInt).toNat from (by first | omega | decide | (simp only [Int32.le_iff_toInt_le, Int32.lt_iff_toInt_lt, ti_add, ti_sub, ti_mul, Int32.reduceToInt] at *; omega)))
    · exact ih4_1 (x1_1, x2_1 + 1, σ7) (show Tr [] σ0 σ7 ∧ (0 ≤ (x2_1 + 1).toInt) from ⟨hT, (by first | omega | decide | (simp only [Int32.le_iff_toInt_le, Int32.lt_iff_toInt_lt, ti_add, ti_sub, ti_mul, Int32.reduceToInt] at *; omega))⟩) (show ((10 : Int32).toInt - (x2_1 + 1).toInt).toNat < ((10 : Int32).toInt - x2_1.toInt).toNat from (by first | omega | decide | (simp only [Int32.le_iff_toInt_le, Int32.lt_iff_toInt_lt, ti_add, ti_sub, ti_mul, Int32.reduceToInt] at *; omega)))

set_option maxHeartbeats 4000000 in
set_option maxRecDepth 100000 in
theorem s_X10_load_2 {N : Nat} (hN : 1048576 ≤ N) {x1 : Int32} {σ0 : zS}  (hR : RF σ0.2.2)  : Ok (f_X10_load N 2 x1 σ0) (fun r => Tr [] σ0 r.2 ∧ (True)) := by
  have hT : Tr [] σ0 σ0 := Tr.rf
  rw [f_X10_load.eq_1]
  refine ok_lp (fun t : Int32 × Int32 × zS => Tr [] σ0 (t.2.2) ∧ (0 ≤ (t.2.1).toInt)) (fun t : Int32 × Int32 × zS => (10 - (t.2.1).toInt).toNat) (fun again1 t hI ih4_1 => ?_) N _ (show Tr [] σ0 σ0 ∧ (0 ≤ (0 : Int32).toInt) from ⟨hT, (by first | omega | decide | (simp only [Int32.le_iff_toInt_le, Int32.lt_iff_toInt_lt, ti_add, ti_sub, ti_mul, Int32.reduceToInt] at *; omega))⟩) (show (10 - (0 : Int32).toInt).toNat < N from (by first | omega | decide | (simp only [Int32.le_iff_toInt_le, Int32.lt_iff_toInt_lt, ti_add, ti_sub, ti_mul, Int32.reduceToInt] at *; omega)))
  obtain ⟨x2_1, x3_1, σ1⟩ := t
  have hI : Tr [] σ0 σ1 ∧ (0 ≤ x3_1.toInt) := hI
  obtain ⟨hT, hI1⟩ := hI
  rw [F_X10_load_4.eq_1]
  refine ok_gI0 hT rfl (by decide) ?_
  refine ok_if (fun hc3 => ?_) (fun hc3 => ?_)
  · exact ok_some ⟨hT, trivial⟩
  · refine ok_if (fun hc4 => ?_) (fun hc4 => ?_)
    · exact ok_some ⟨hT, trivial⟩
    · refine ok_if (fun hc5 => ?_) (fun hc5 => ?_)
      · exact ih4_1 (x2_1, x3_1 + 1, σ1) (show Tr [] σ0 σ1 ∧ (0 ≤ (x3_1 + 1).toInt) from ⟨hT, (by first | omega | decide | (simp only [Int32.le_iff_toInt_le, Int32.lt_iff_toInt_lt, ti_add, ti_sub, ti_mul, Int32.reduceToInt] at *; omega))⟩) (show (10 - (x3_1 + 1).toInt).toNat < (10 - x3_1.toInt).toNat from (by first | omega | decide | (simp only [Int32.le_iff_toInt_le, Int32.lt_iff_toInt_lt, ti_add, ti_sub, ti_mul, Int32.reduceToInt] at *; omega)))
      · refine ok_gR (v := 5) hT rfl (hR 2 5 rfl) ?_
        refine ok_aIn rfl (by first | omega | decide | (simp only [Int32.le_iff_toInt_le, Int32.lt_iff_toInt_lt, ti_add, ti_sub, ti_mul, Int32.reduceToInt] at *; omega)) (by first | omega | decide | (simp only [Int32.le_iff_toInt_le, Int32.lt_iff_toInt_lt, ti_add, ti_sub, ti_mul, Int32.reduceToInt] at *; omega)) (fun v7 ev7 => ?_)
        exact ih4_1 (x2_1 + v7, x3_1 + 1, σ1) (show Tr [] σ0 σ1 ∧ (0 ≤ (x3_1 + 1).toInt) from ⟨hT, (by first | omega | decide | (simp only [Int32.le_iff_toInt_le, Int32.lt_iff_toInt_lt, ti_add, ti_sub, ti_mul, Int32.reduceToInt] at *; omega))⟩) (show (10 - (x3_1 + 1).toInt).toNat < (10 - x3_1.toInt).toNat from (by first | omega | decide | (simp only [Int32.le_iff_toInt_le, Int32.lt_iff_toInt_lt, ti_add, ti_sub, ti_mul, Int32.reduceToInt] at *; omega)))

set_option maxHeartbeats 4000000 in
set_option maxRecDepth 100000 in
theorem s_X10_addEdge_2 {N : Nat} (hN : 1048576 ≤ N) {x1 : Int32} {x2 : Int32} {σ0 : zS}  (hR : RF σ0.2.2) (hW : WI 2 σ0.1) (h1 : 0 ≤ x1.toInt ∧ x1.toInt ≤ 7) (h2 : 0 ≤ x2.toInt ∧ x2.toInt ≤ 7) : Ok (f_X10_addEdge N 2 x1 x2 σ0) (fun r => Tr [2, 3, 4] σ0 r.2 ∧ (WI 2 r.2.1)) := by
  have hT : Tr [2, 3, 4] σ0 σ0 := Tr.rf
  have hE : σ0.1 2 2 = σ0.1 2 2 := rfl
  rw [f_X10_addEdge.eq_1]
  refine ok_gIv rfl hE ?_
  refine ok_if (fun hc2 => ?_) (fun hc2 => ?_)
  · exact ok_some ⟨hT, (show WI 2 σ0.1 from by first | exact hW | exact WI_add (B := 2) hW eσ7 eσ10 eσ12 h1 h2 (by simp only [Int32.le_iff_toInt_le, Int32.lt_iff_toInt_lt, ti_add, ti_sub, ti_mul, Int32.reduceToInt] at *; omega))⟩
  · refine ok_gIv rfl hE ?_
    refine ok_if (fun hc4 => ?_) (fun hc4 => ?_)
    · exact ok_some ⟨hT, (show WI 2 σ0.1 from by first | exact hW | exact WI_add (B := 2) hW eσ7 eσ10 eσ12 h1 h2 (by simp only [Int32.le_iff_toInt_le, Int32.lt_iff_toInt_lt, ti_add, ti_sub, ti_mul, Int32.reduceToInt] at *; omega))⟩
    · refine ok_gR (v := 3) hT rfl (hR 2 3 rfl) ?_
      refine ok_gIv rfl hE ?_
      refine ok_s14 hT rfl (by decide) (by first | omega | decide | (simp only [Int32.le_iff_toInt_le, Int32.lt_iff_toInt_lt, ti_add, ti_sub, ti_mul, Int32.reduceToInt] at *; omega)) (by first | omega | decide | (simp only [Int32.le_iff_toInt_le, Int32.lt_iff_toInt_lt, ti_add, ti_sub, ti_mul, Int32.reduceToInt] at *; omega)) (fun σ7 eσ7 hOσ7 hT => ?_)
      have hE : σ7.1 2 2 = σ0.1 2 2 := by rw [hOσ7.2 2 (by decide)] <;> exact hE
      refine ok_gR (v := 4) hT rfl (hR 2 4 rfl) ?_
      refine ok_gIv rfl hE ?_
      refine ok_s14 hT rfl (by decide) (by first | omega | decide | (simp only [Int32.le_iff_toInt_le, Int32.lt_iff_toInt_lt, ti_add, ti_sub, ti_mul, Int32.reduceToInt] at *; omega)) (by first | omega | decide | (simp only [Int32.le_iff_toInt_le, Int32.lt_iff_toInt_lt, ti_add, ti_sub, ti_mul, Int32.reduceToInt] at *; omega)) (fun σ10 eσ10 hOσ10 hT => ?_)
      have hE : σ10.1 2 2 = σ0.1 2 2 := by rw [hOσ10.2 2 (by decide)] <;> exact hE
      refine ok_gIv rfl hE ?_
      refine ok_pI hT rfl (by decide) (fun σ12 eσ12 hOσ12 hT => ?_)
      exact ok_some ⟨hT, (show WI 2 σ12.1 from by first | exact hW | exact WI_add (B := 2) hW eσ7 eσ10 eσ12 h1 h2 (by simp only [Int32.le_iff_toInt_le, Int32.lt_iff_toInt_lt, ti_add, ti_sub, ti_mul, Int32.reduceToInt] at *; omega))⟩

set_option maxHeartbeats 4000000 in
set_option maxRecDepth 100000 in
theorem s_X10_placeOf_28 {N : Nat} (hN : 1048576 ≤ N) {x1 : Int32} {σ0 : zS}  (hR : RF σ0.2.2)  : Ok (f_X10_placeOf N 28 x1 σ0) (fun r => Tr [] σ0 r.2 ∧ (-1 ≤ r.1.toInt ∧ r.1.toInt ≤ 9)) := by
  have hT : Tr [] σ0 σ0 := Tr.rf
  rw [f_X10_placeOf.eq_1]
  refine ok_lp (fun t : Int32 × zS => Tr [] σ0 (t.2) ∧ (0 ≤ (t.1).toInt)) (fun t : Int32 × zS => (10 - (t.1).toInt).toNat) (fun again1 t hI ih2_1 => ?_) N _ (show Tr [] σ0 σ0 ∧ (0 ≤ (0 : Int32).toInt) from ⟨hT, (by first | omega | decide | (simp only [Int32.le_iff_toInt_le, Int32.lt_iff_toInt_lt, ti_add, ti_sub, ti_mul, Int32.reduceToInt] at *; omega))⟩) (show (10 - (0 : Int32).toInt).toNat < N from (by first | omega | decide | (simp only [Int32.le_iff_toInt_le, Int32.lt_iff_toInt_lt, ti_add, ti_sub, ti_mul, Int32.reduceToInt] at *; omega)))
  obtain ⟨x2_1, σ1⟩ := t
  have hI : Tr [] σ0 σ1 ∧ (0 ≤ x2_1.toInt) := hI
  obtain ⟨hT, hI1⟩ := hI
  rw [F_X10_placeOf_2.eq_1]
  refine ok_gI0 hT rfl (by decide) ?_
  refine ok_if (fun hc3 => ?_) (fun hc3 => ?_)
  · exact ok_some ⟨hT, (show -1 ≤ (-1 : Int32).toInt ∧ (-1 : Int32).toInt ≤ 9 from by first | omega | decide | (simp only [Int32.le_iff_toInt_le, Int32.lt_iff_toInt_lt, ti_add, ti_sub, ti_mul, Int32.reduceToInt] at *; omega))⟩
  · refine ok_if (fun hc4 => ?_) (fun hc4 => ?_)
    · exact ok_some ⟨hT, (show -1 ≤ (-1 : Int32).toInt ∧ (-1 : Int32).toInt ≤ 9 from by first | omega | decide | (simp only [Int32.le_iff_toInt_le, Int32.lt_iff_toInt_lt, ti_add, ti_sub, ti_mul, Int32.reduceToInt] at *; omega))⟩
    · refine ok_gR (v := 32) hT rfl (hR 28 6 rfl) ?_
      refine ok_aIn rfl (by first | omega | decide | (simp only [Int32.le_iff_toInt_le, Int32.lt_iff_toInt_lt, ti_add, ti_sub, ti_mul, Int32.reduceToInt] at *; omega)) (by first | omega | decide | (simp only [Int32.le_iff_toInt_le, Int32.lt_iff_toInt_lt, ti_add, ti_sub, ti_mul, Int32.reduceToInt] at *; omega)) (fun v6 ev6 => ?_)
      refine ok_if (fun hc7 => ?_) (fun hc7 => ?_)
      · exact ok_some ⟨hT, (show -1 ≤ x2_1.toInt ∧ x2_1.toInt ≤ 9 from by first | omega | decide | (simp only [Int32.le_iff_toInt_le, Int32.lt_iff_toInt_lt, ti_add, ti_sub, ti_mul, Int32.reduceToInt] at *; omega))⟩
      · exact ih2_1 (x2_1 + 1, σ1) (show Tr [] σ0 σ1 ∧ (0 ≤ (x2_1 + 1).toInt) from ⟨hT, (by first | omega | decide | (simp only [Int32.le_iff_toInt_le, Int32.lt_iff_toInt_lt, ti_add, ti_sub, ti_mul, Int32.reduceToInt] at *; omega))⟩) (show (10 - (x2_1 + 1).toInt).toNat < (10 - x2_1.toInt).toNat from (by simp only [Int32.le_iff_toInt_le, Int32.lt_iff_toInt_lt, ti_add, ti_sub, ti_mul, Int32.reduceToInt] at *; omega))

set_option maxHeartbeats 4000000 in
set_option maxRecDepth 100000 in
theorem s_X10_moveName_28 {N : Nat} (hN : 1048576 ≤ N) {x1 : Int32} {x2 : Int32} {σ0 : zS}  (hR : RF σ0.2.2)  : Ok (f_X10_moveName N 28 x1 x2 σ0) (fun r => Tr [32] σ0 r.2 ∧ (True)) := by
  have hT : Tr [32] σ0 σ0 := Tr.rf
  rw [f_X10_moveName.eq_1]
  refine ok_gC rfl ?_
  refine ok_zbT (Q := fun V σ => -1 ≤ V.toInt ∧ V.toInt ≤ 9) hT (s_X10_placeOf_28 hN (hR.tr hT) ) (fun _ h9 => absurd h9 List.not_mem_nil) (fun v1 σ2 hOσ2 hT hqv1 => ?_)
  have hqv1 : -1 ≤ v1.toInt ∧ v1.toInt ≤ 9 := hqv1
  refine ok_if (fun hc3 => ?_) (fun hc3 => ?_)
  · exact ok_some ⟨hT, trivial⟩
  · refine ok_if (fun hc4 => ?_) (fun hc4 => ?_)
    · exact ok_some ⟨hT, trivial⟩
    · refine ok_if (fun hc5 => ?_) (fun hc5 => ?_)
      · refine ok_if (fun hc6 => ?_) (fun hc6 => ?_)
        · rw [J_X10_moveName_32.eq_1]
          refine ok_lp (fun t : Int32 × zS => Tr [32] σ0 (t.2) ∧ (0 ≤ (-1 : Int32).toInt * (x2.toInt - (t.1).toInt) ∧ 0 ≤ (t.1).toInt ∧ (t.1).toInt ≤ 9)) (fun t : Int32 × zS => (x2.toInt - (t.1).toInt).toNat + ((t.1).toInt - x2.toInt).toNat) (fun again7 t hI ih37_7 => ?_) N _ (show Tr [32] σ0 σ2 ∧ (0 ≤ (-1 : Int32).toInt * (x2.toInt - v1.toInt) ∧ 0 ≤ v1.toInt ∧ v1.toInt ≤ 9) from ⟨hT, (by first | omega | decide | (simp only [Int32.le_iff_toInt_le, Int32.lt_iff_toInt_lt, ti_add, ti_sub, ti_mul, Int32.reduceToInt] at *; omega))⟩) (show (x2.toInt - v1.toInt).toNat + (v1.toInt - x2.toInt).toNat < N from (by first | omega | decide | (simp only [Int32.le_iff_toInt_le, Int32.lt_iff_toInt_lt, ti_add, ti_sub, ti_mul, Int32.reduceToInt] at *; omega)))
          obtain ⟨x5_7, σ7⟩ := t
          have hI : Tr [32] σ0 σ7 ∧ (0 ≤ (-1 : Int32).toInt * (x2.toInt - x5_7.toInt) ∧ 0 ≤ x5_7.toInt ∧ x5_7.toInt ≤ 9) := hI
          obtain ⟨hT, hI7⟩ := hI
          rw [F_X10_moveName_37.eq_1]
          refine ok_if (fun hc8 => ?_) (fun hc8 => ?_)
          · refine ok_gR (v := 32) hT rfl (hR 28 6 rfl) ?_
            refine ok_s14 hT rfl (by decide) (by first | omega | decide | (simp only [Int32.le_iff_toInt_le, Int32.lt_iff_toInt_lt, ti_add, ti_sub, ti_mul, Int32.reduceToInt] at *; omega)) (by first | omega | decide | (simp only [Int32.le_iff_toInt_le, Int32.lt_iff_toInt_lt, ti_add, ti_sub, ti_mul, Int32.reduceToInt] at *; omega)) (fun σ10 eσ10 hOσ10 hT => ?_)
            exact ok_some ⟨hT, trivial⟩
          · rw [ti_eq] at hc8
            refine ok_if (fun hc11 => ?_) (fun hc11 => ?_)
            · refine ok_gR (v := 32) hT rfl (hR 28 6 rfl) ?_
              refine ok_s14 hT rfl (by decide) (by first | omega | decide | (simp only [Int32.le_iff_toInt_le, Int32.lt_iff_toInt_lt, ti_add, ti_sub, ti_mul, Int32.reduceToInt] at *; omega)) (by first | omega | decide | (simp only [Int32.le_iff_toInt_le, Int32.lt_iff_toInt_lt, ti_add, ti_sub, ti_mul, Int32.reduceToInt] at *; omega)) (fun σ13 eσ13 hOσ13 hT => ?_)
              exact ok_some ⟨hT, trivial⟩
            · refine ok_if (fun hc14 => ?_) (fun hc14 => ?_)
              · refine ok_gR (v := 32) hT rfl (hR 28 6 rfl) ?_
                refine ok_s14 hT rfl (by decide) (by first | omega | decide | (simp only [Int32.le_iff_toInt_le, Int32.lt_iff_toInt_lt, ti_add, ti_sub, ti_mul, Int32.reduceToInt] at *; omega)) (by first | omega | decide | (simp only [Int32.le_iff_toInt_le, Int32.lt_iff_toInt_lt, ti_add, ti_sub, ti_mul, Int32.reduceToInt] at *; omega)) (fun σ16 eσ16 hOσ16 hT => ?_)
                exact ok_some ⟨hT, trivial⟩
              · refine ok_gR (v := 32) hT rfl (hR 28 6 rfl) ?_
                refine ok_gR (v := 32) hT rfl (hR 28 6 rfl) ?_
                refine ok_aIn rfl (by first | omega | decide | (simp only [Int32.le_iff_toInt_le, Int32.lt_iff_toInt_lt, ti_add, ti_sub, ti_mul, Int32.reduceToInt] at *; omega)) (by first | omega | decide | (simp only [Int32.le_iff_toInt_le, Int32.lt_iff_toInt_lt, ti_add, ti_sub, ti_mul, Int32.reduceToInt] at *; omega)) (fun v19 ev19 => ?_)
                refine ok_s14 hT rfl (by decide) (by first | omega | decide | (simp only [Int32.le_iff_toInt_le, Int32.lt_iff_toInt_lt, ti_add, ti_sub, ti_mul, Int32.reduceToInt] at *; omega)) (by first | omega | decide | (simp only [Int32.le_iff_toInt_le, Int32.lt_iff_toInt_lt, ti_add, ti_sub, ti_mul, Int32.reduceToInt] at *; omega)) (fun σ20 eσ20 hOσ20 hT => ?_)
                exact ih37_7 (x5_7 + (-1), σ20) (show Tr [32] σ0 σ20 ∧ (0 ≤ (-1 : Int32).toInt * (x2.toInt - (x5_7 + (-1)).toInt) ∧ 0 ≤ (x5_7 + (-1)).toInt ∧ (x5_7 + (-1)).toInt ≤ 9) from ⟨hT, (by first | omega | decide | (simp only [Int32.le_iff_toInt_le, Int32.lt_iff_toInt_lt, ti_add, ti_sub, ti_mul, Int32.reduceToInt] at *; omega))⟩) (show (x2.toInt - (x5_7 + (-1)).toInt).toNat + ((x5_7 + (-1)).toInt - x2.toInt).toNat < (x2.toInt - x5_7.toInt).toNat + (x5_7.toInt - x2.toInt).toNat from (by first | omega | decide | (simp only [Int32.le_iff_toInt_le, Int32.lt_iff_toInt_lt, ti_add, ti_sub, ti_mul, Int32.reduceToInt] at *; omega)))
        · rw [J_X10_moveName_32.eq_1]
          refine ok_lp (fun t : Int32 × zS => Tr [32] σ0 (t.2) ∧ (0 ≤ (1 : Int32).toInt * (x2.toInt - (t.1).toInt) ∧ 0 ≤ (t.1).toInt ∧ (t.1).toInt ≤ 9)) (fun t : Int32 × zS => (x2.toInt - (t.1).toInt).toNat + ((t.1).toInt - x2.toInt).toNat) (fun again21 t hI ih37_21 => ?_) N _ (show Tr [32] σ0 σ2 ∧ (0 ≤ (1 : Int32).toInt * (x2.toInt - v1.toInt) ∧ 0 ≤ v1.toInt ∧ v1.toInt ≤ 9) from ⟨hT, (by first | omega | decide | (simp only [Int32.le_iff_toInt_le, Int32.lt_iff_toInt_lt, ti_add, ti_sub, ti_mul, Int32.reduceToInt] at *; omega))⟩) (show (x2.toInt - v1.toInt).toNat + (v1.toInt - x2.toInt).toNat < N from (by first | omega | decide | (simp only [Int32.le_iff_toInt_le, Int32.lt_iff_toInt_lt, ti_add, ti_sub, ti_mul, Int32.reduceToInt] at *; omega)))
          obtain ⟨x5_21, σ21⟩ := t
          have hI : Tr [32] σ0 σ21 ∧ (0 ≤ (1 : Int32).toInt * (x2.toInt - x5_21.toInt) ∧ 0 ≤ x5_21.toInt ∧ x5_21.toInt ≤ 9) := hI
          obtain ⟨hT, hI21⟩ := hI
          rw [F_X10_moveName_37.eq_1]
          refine ok_if (fun hc22 => ?_) (fun hc22 => ?_)
          · refine ok_gR (v := 32) hT rfl (hR 28 6 rfl) ?_
            refine ok_s14 hT rfl (by decide) (by first | omega | decide | (simp only [Int32.le_iff_toInt_le, Int32.lt_iff_toInt_lt, ti_add, ti_sub, ti_mul, Int32.reduceToInt] at *; omega)) (by first | omega | decide | (simp only [Int32.le_iff_toInt_le, Int32.lt_iff_toInt_lt, ti_add, ti_sub, ti_mul, Int32.reduceToInt] at *; omega)) (fun σ24 eσ24 hOσ24 hT => ?_)
            exact ok_some ⟨hT, trivial⟩
          · rw [ti_eq] at hc22
            refine ok_if (fun hc25 => ?_) (fun hc25 => ?_)
            · refine ok_gR (v := 32) hT rfl (hR 28 6 rfl) ?_
              refine ok_s14 hT rfl (by decide) (by first | omega | decide | (simp only [Int32.le_iff_toInt_le, Int32.lt_iff_toInt_lt, ti_add, ti_sub, ti_mul, Int32.reduceToInt] at *; omega)) (by first | omega | decide | (simp only [Int32.le_iff_toInt_le, Int32.lt_iff_toInt_lt, ti_add, ti_sub, ti_mul, Int32.reduceToInt] at *; omega)) (fun σ27 eσ27 hOσ27 hT => ?_)
              exact ok_some ⟨hT, trivial⟩
            · refine ok_if (fun hc28 => ?_) (fun hc28 => ?_)
              · refine ok_gR (v := 32) hT rfl (hR 28 6 rfl) ?_
                refine ok_s14 hT rfl (by decide) (by first | omega | decide | (simp only [Int32.le_iff_toInt_le, Int32.lt_iff_toInt_lt, ti_add, ti_sub, ti_mul, Int32.reduceToInt] at *; omega)) (by first | omega | decide | (simp only [Int32.le_iff_toInt_le, Int32.lt_iff_toInt_lt, ti_add, ti_sub, ti_mul, Int32.reduceToInt] at *; omega)) (fun σ30 eσ30 hOσ30 hT => ?_)
                exact ok_some ⟨hT, trivial⟩
              · refine ok_gR (v := 32) hT rfl (hR 28 6 rfl) ?_
                refine ok_gR (v := 32) hT rfl (hR 28 6 rfl) ?_
                refine ok_aIn rfl (by first | omega | decide | (simp only [Int32.le_iff_toInt_le, Int32.lt_iff_toInt_lt, ti_add, ti_sub, ti_mul, Int32.reduceToInt] at *; omega)) (by first | omega | decide | (simp only [Int32.le_iff_toInt_le, Int32.lt_iff_toInt_lt, ti_add, ti_sub, ti_mul, Int32.reduceToInt] at *; omega)) (fun v33 ev33 => ?_)
                refine ok_s14 hT rfl (by decide) (by first | omega | decide | (simp only [Int32.le_iff_toInt_le, Int32.lt_iff_toInt_lt, ti_add, ti_sub, ti_mul, Int32.reduceToInt] at *; omega)) (by first | omega | decide | (simp only [Int32.le_iff_toInt_le, Int32.lt_iff_toInt_lt, ti_add, ti_sub, ti_mul, Int32.reduceToInt] at *; omega)) (fun σ34 eσ34 hOσ34 hT => ?_)
                exact ih37_21 (x5_21 + 1, σ34) (show Tr [32] σ0 σ34 ∧ (0 ≤ (1 : Int32).toInt * (x2.toInt - (x5_21 + 1).toInt) ∧ 0 ≤ (x5_21 + 1).toInt ∧ (x5_21 + 1).toInt ≤ 9) from ⟨hT, (by first | omega | decide | (simp only [Int32.le_iff_toInt_le, Int32.lt_iff_toInt_lt, ti_add, ti_sub, ti_mul, Int32.reduceToInt] at *; omega))⟩) (show (x2.toInt - (x5_21 + 1).toInt).toNat + ((x5_21 + 1).toInt - x2.toInt).toNat < (x2.toInt - x5_21.toInt).toNat + (x5_21.toInt - x2.toInt).toNat from (by first | omega | decide | (simp only [Int32.le_iff_toInt_le, Int32.lt_iff_toInt_lt, ti_add, ti_sub, ti_mul, Int32.reduceToInt] at *; omega)))
      · exact ok_some ⟨hT, trivial⟩

set_option maxHeartbeats 4000000 in
set_option maxRecDepth 100000 in
theorem s_X10_firstLike_28 {N : Nat} (hN : 1048576 ≤ N) {x1 : Int32} {σ0 : zS}  (hR : RF σ0.2.2) (hp : x1.toInt ≤ 10) : Ok (f_X10_firstLike N 28 x1 σ0) (fun r => Tr [] σ0 r.2 ∧ (True)) := by
  have hT : Tr [] σ0 σ0 := Tr.rf
  rw [f_X10_firstLike.eq_1]
  refine ok_lp (fun t : Int32 × zS => Tr [] σ0 (t.2) ∧ (0 ≤ (t.1).toInt)) (fun t : Int32 × zS => (x1.toInt - (t.1).toInt).toNat) (fun again1 t hI ih2_1 => ?_) N _ (show Tr [] σ0 σ0 ∧ (0 ≤ (0 : Int32).toInt) from ⟨hT, (by first | omega | decide | (simp only [Int32.le_iff_toInt_le, Int32.lt_iff_toInt_lt, ti_add, ti_sub, ti_mul, Int32.reduceToInt] at *; omega))⟩) (show (x1.toInt - (0 : Int32).toInt).toNat < N from (by first | omega | decide | (simp only [Int32.le_iff_toInt_le, Int32.lt_iff_toInt_lt, ti_add, ti_sub, ti_mul, Int32.reduceToInt] at *; omega)))
  obtain ⟨x2_1, σ1⟩ := t
  have hI : Tr [] σ0 σ1 ∧ (0 ≤ x2_1.toInt) := hI
  obtain ⟨hT, hI1⟩ := hI
  rw [F_X10_firstLike_2.eq_1]
  refine ok_if (fun hc2 => ?_) (fun hc2 => ?_)
  · exact ok_some ⟨hT, trivial⟩
  · refine ok_if (fun hc3 => ?_) (fun hc3 => ?_)
    · exact ok_some ⟨hT, trivial⟩
    · refine ok_if (fun hc4 => ?_) (fun hc4 => ?_)
      · exact ih2_1 (x2_1 + 1, σ1) (show Tr [] σ0 σ1 ∧ (0 ≤ (x2_1 + 1).toInt) from ⟨hT, (by first | omega | decide | (simp only [Int32.le_iff_toInt_le, Int32.lt_iff_toInt_lt, ti_add, ti_sub, ti_mul, Int32.reduceToInt] at *; omega))⟩) (show (x1.toInt - (x2_1 + 1).toInt).toNat < (x1.toInt - x2_1.toInt).toNat from (by first | omega | decide | (simp only [Int32.le_iff_toInt_le, Int32.lt_iff_toInt_lt, ti_add, ti_sub, ti_mul, Int32.reduceToInt] at *; omega)))
      · refine ok_gR (v := 33) hT rfl (hR 28 7 rfl) ?_
        obtain ⟨q7, eq7, kq7⟩ := arrF hR (k := 33) (i := x2_1) rfl (by first | omega | decide | (simp only [Int32.le_iff_toInt_le, Int32.lt_iff_toInt_lt, ti_add, ti_sub, ti_mul, Int32.reduceToInt] at *; omega)) (by first | omega | decide | (simp only [Int32.le_iff_toInt_le, Int32.lt_iff_toInt_lt, ti_add, ti_sub, ti_mul, Int32.reduceToInt] at *; omega))
        refine ok_aR (v := q7) hT rfl (by first | omega | decide | (simp only [Int32.le_iff_toInt_le, Int32.lt_iff_toInt_lt, ti_add, ti_sub, ti_mul, Int32.reduceToInt] at *; omega)) (by first | omega | decide | (simp only [Int32.le_iff_toInt_le, Int32.lt_iff_toInt_lt, ti_add, ti_sub, ti_mul, Int32.reduceToInt] at *; omega)) eq7 ?_
        refine ok_gR (v := 33) hT rfl (hR 28 7 rfl) ?_
        obtain ⟨q10, eq10, kq10⟩ := arrF hR (k := 33) (i := x1) rfl (by first | omega | decide | (simp only [Int32.le_iff_toInt_le, Int32.lt_iff_toInt_lt, ti_add, ti_sub, ti_mul, Int32.reduceToInt] at *; omega)) (by first | omega | decide | (simp only [Int32.le_iff_toInt_le, Int32.lt_iff_toInt_lt, ti_add, ti_sub, ti_mul, Int32.reduceToInt] at *; omega))
        refine ok_aR (v := q10) hT rfl (by first | omega | decide | (simp only [Int32.le_iff_toInt_le, Int32.lt_iff_toInt_lt, ti_add, ti_sub, ti_mul, Int32.reduceToInt] at *; omega)) (by first | omega | decide | (simp only [Int32.le_iff_toInt_le, Int32.lt_iff_toInt_lt, ti_add, ti_sub, ti_mul, Int32.reduceToInt] at *; omega)) eq10 ?_
        refine ok_gC kq7 ?_
        refine ok_zbT (Q := fun V σ => V = 0 ∨ V = 1) hT (s_X2_sameAs hN (hR.tr hT) kq7 kq10) (fun _ h9 => absurd h9 List.not_mem_nil) (fun v11 σ12 hOσ12 hT hqv11 => ?_)
        have hqv11 : v11 = 0 ∨ v11 = 1 := hqv11
        refine ok_if (fun hc13 => ?_) (fun hc13 => ?_)
        · exact ih2_1 (x2_1 + 1, σ12) (show Tr [] σ0 σ12 ∧ (0 ≤ (x2_1 + 1).toInt) from ⟨hT, (by first | omega | decide | (simp only [Int32.le_iff_toInt_le, Int32.lt_iff_toInt_lt, ti_add, ti_sub, ti_mul, Int32.reduceToInt] at *; omega))⟩) (show (x1.toInt - (x2_1 + 1).toInt).toNat < (x1.toInt - x2_1.toInt).toNat from (by first | omega | decide | (simp only [Int32.le_iff_toInt_le, Int32.lt_iff_toInt_lt, ti_add, ti_sub, ti_mul, Int32.reduceToInt] at *; omega)))
        · exact ok_some ⟨hT, trivial⟩

set_option maxHeartbeats 4000000 in
set_option maxRecDepth 100000 in
theorem s_X10_unlikeFamilies_28 {N : Nat} (hN : 1048576 ≤ N)  {σ0 : zS}  (hR : RF σ0.2.2)  : Ok (f_X10_unlikeFamilies N 28 σ0) (fun r => Tr [] σ0 r.2 ∧ (True)) := by
  have hT : Tr [] σ0 σ0 := Tr.rf
  rw [f_X10_unlikeFamilies.eq_1]
  refine ok_lp (fun t : Int32 × Int32 × zS => Tr [] σ0 (t.2.2) ∧ (0 ≤ (t.2.1).toInt)) (fun t : Int32 × Int32 × zS => ((10 : Int32).toInt - (t.2.1).toInt).toNat) (fun again1 t hI ih4_1 => ?_) N _ (show Tr [] σ0 σ0 ∧ (0 ≤ (0 : Int32).toInt) from ⟨hT, (by first | omega | decide | (simp only [Int32.le_iff_toInt_le, Int32.lt_iff_toInt_lt, ti_add, ti_sub, ti_mul, Int32.reduceToInt] at *; omega))⟩) (show ((10 : Int32).toInt - (0 : Int32).toInt).toNat < N from (by first | omega | decide | (simp only [Int32.le_iff_toInt_le, Int32.lt_iff_toInt_lt, ti_add, ti_sub, ti_mul, Int32.reduceToInt] at *; omega)))
  obtain ⟨x1_1, x2_1, σ1⟩ := t
  have hI : Tr [] σ0 σ1 ∧ (0 ≤ x2_1.toInt) := hI
  obtain ⟨hT, hI1⟩ := hI
  rw [F_X10_unlikeFamilies_4.eq_1]
  refine ok_if (fun hc2 => ?_) (fun hc2 => ?_)
  · exact ok_some ⟨hT, trivial⟩
  · refine ok_gC rfl ?_
    refine ok_zbT (Q := fun V σ => True) hT (s_X10_firstLike_28 hN (hR.tr hT) (by simp only [Int32.le_iff_toInt_le, Int32.lt_iff_toInt_lt, ti_add, ti_sub, ti_mul, Int32.reduceToInt] at *; omega)) (fun _ h9 => absurd h9 List.not_mem_nil) (fun v3 σ4 hOσ4 hT hqv3 => ?_)
    refine ok_if (fun hc5 => ?_) (fun hc5 => ?_)
    · exact ih4_1 (x1_1 + 1, x2_1 + 1, σ4) (show Tr [] σ0 σ4 ∧ (0 ≤ (x2_1 + 1).toInt) from ⟨hT, (by first | omega | decide | (simp only [Int32.le_iff_toInt_le, Int32.lt_iff_toInt_lt, ti_add, ti_sub, ti_mul, Int32.reduceToInt] at *; omega))⟩) (show ((10 : Int32).toInt - (x2_1 + 1).toInt).toNat < ((10 : Int32).toInt - x2_1.toInt).toNat from (by first | omega | decide | (simp only [Int32.le_iff_toInt_le, Int32.lt_iff_toInt_lt, ti_add, ti_sub, ti_mul, Int32.reduceToInt] at *; omega)))
    · exact ih4_1 (x1_1, x2_1 + 1, σ4) (show Tr [] σ0 σ4 ∧ (0 ≤ (x2_1 + 1).toInt) from ⟨hT, (by first | omega | decide | (simp only [Int32.le_iff_toInt_le, Int32.lt_iff_toInt_lt, ti_add, ti_sub, ti_mul, Int32.reduceToInt] at *; omega))⟩) (show ((10 : Int32).toInt - (x2_1 + 1).toInt).toNat < ((10 : Int32).toInt - x2_1.toInt).toNat from (by first | omega | decide | (simp only [Int32.le_iff_toInt_le, Int32.lt_iff_toInt_lt, ti_add, ti_sub, ti_mul, Int32.reduceToInt] at *; omega)))

set_option maxHeartbeats 4000000 in
set_option maxRecDepth 100000 in
theorem s_X10_filledRegisters_28 {N : Nat} (hN : 1048576 ≤ N)  {σ0 : zS}  (hR : RF σ0.2.2)  : Ok (f_X10_filledRegisters N 28 σ0) (fun r => Tr [] σ0 r.2 ∧ (True)) := by
  have hT : Tr [] σ0 σ0 := Tr.rf
  rw [f_X10_filledRegisters.eq_1]
  refine ok_lp (fun t : Int32 × Int32 × zS => Tr [] σ0 (t.2.2) ∧ (0 ≤ (t.2.1).toInt)) (fun t : Int32 × Int32 × zS => ((10 : Int32).toInt - (t.2.1).toInt).toNat) (fun again1 t hI ih4_1 => ?_) N _ (show Tr [] σ0 σ0 ∧ (0 ≤ (0 : Int32).toInt) from ⟨hT, (by first | omega | decide | (simp only [Int32.le_iff_toInt_le, Int32.lt_iff_toInt_lt, ti_add, ti_sub, ti_mul, Int32.reduceToInt] at *; omega))⟩) (show ((10 : Int32).toInt - (0 : Int32).toInt).toNat < N from (by first | omega | decide | (simp only [Int32.le_iff_toInt_le, Int32.lt_iff_toInt_lt, ti_add, ti_sub, ti_mul, Int32.reduceToInt] at *; omega)))
  obtain ⟨x1_1, x2_1, σ1⟩ := t
  have hI : Tr [] σ0 σ1 ∧ (0 ≤ x2_1.toInt) := hI
  obtain ⟨hT, hI1⟩ := hI
  rw [F_X10_filledRegisters_4.eq_1]
  refine ok_if (fun hc2 => ?_) (fun hc2 => ?_)
  · exact ok_some ⟨hT, trivial⟩
  · refine ok_gR (v := 33) hT rfl (hR 28 7 rfl) ?_
    obtain ⟨q5, eq5, kq5⟩ := arrF hR (k := 33) (i := x2_1) rfl (by first | omega | decide | (simp only [Int32.le_iff_toInt_le, Int32.lt_iff_toInt_lt, ti_add, ti_sub, ti_mul, Int32.reduceToInt] at *; omega)) (by first | omega | decide | (simp only [Int32.le_iff_toInt_le, Int32.lt_iff_toInt_lt, ti_add, ti_sub, ti_mul, Int32.reduceToInt] at *; omega))
    refine ok_aR (v := q5) hT rfl (by first | omega | decide | (simp only [Int32.le_iff_toInt_le, Int32.lt_iff_toInt_lt, ti_add, ti_sub, ti_mul, Int32.reduceToInt] at *; omega)) (by first | omega | decide | (simp only [Int32.le_iff_toInt_le, Int32.lt_iff_toInt_lt, ti_add, ti_sub, ti_mul, Int32.reduceToInt] at *; omega)) eq5 ?_
    refine ok_gC kq5 ?_
    refine ok_zbT (Q := fun V σ => V = 0 ∨ V = 1) hT (s_X2_isEmpty hN (hR.tr hT) kq5) (fun _ h9 => absurd h9 List.not_mem_nil) (fun v6 σ7 hOσ7 hT hqv6 => ?_)
    have hqv6 : v6 = 0 ∨ v6 = 1 := hqv6
    refine ok_if (fun hc8 => ?_) (fun hc8 => ?_)
    · exact ih4_1 (x1_1 ||| ((1 : Int32) <<< (x2_1 &&& 31)), x2_1 + 1, σ7) (show Tr [] σ0 σ7 ∧ (0 ≤ (x2_1 + 1).toInt) from ⟨hT, (by first | omega | decide | (simp only [Int32.le_iff_toInt_le, Int32.lt_iff_toInt_lt, ti_add, ti_sub, ti_mul, Int32.reduceToInt] at *; omega))⟩) (show ((10 : Int32).toInt - (x2_1 + 1).toInt).toNat < ((10 : Int32).toInt - x2_1.toInt).toNat from (by first | omega | decide | (simp only [Int32.le_iff_toInt_le, Int32.lt_iff_toInt_lt, ti_add, ti_sub, ti_mul, Int32.reduceToInt] at *; omega)))
    · exact ih4_1 (x1_1, x2_1 + 1, σ7) (show Tr [] σ0 σ7 ∧ (0 ≤ (x2_1 + 1).toInt) from ⟨hT, (by first | omega | decide | (simp only [Int32.le_iff_toInt_le, Int32.lt_iff_toInt_lt, ti_add, ti_sub, ti_mul, Int32.reduceToInt] at *; omega))⟩) (show ((10 : Int32).toInt - (x2_1 + 1).toInt).toNat < ((10 : Int32).toInt - x2_1.toInt).toNat from (by first | omega | decide | (simp only [Int32.le_iff_toInt_le, Int32.lt_iff_toInt_lt, ti_add, ti_sub, ti_mul, Int32.reduceToInt] at *; omega)))

set_option maxHeartbeats 4000000 in
set_option maxRecDepth 100000 in
theorem s_X10_load_28 {N : Nat} (hN : 1048576 ≤ N) {x1 : Int32} {σ0 : zS}  (hR : RF σ0.2.2)  : Ok (f_X10_load N 28 x1 σ0) (fun r => Tr [] σ0 r.2 ∧ (True)) := by
  have hT : Tr [] σ0 σ0 := Tr.rf
  rw [f_X10_load.eq_1]
  refine ok_lp (fun t : Int32 × Int32 × zS => Tr [] σ0 (t.2.2) ∧ (0 ≤ (t.2.1).toInt)) (fun t : Int32 × Int32 × zS => (10 - (t.2.1).toInt).toNat) (fun again1 t hI ih4_1 => ?_) N _ (show Tr [] σ0 σ0 ∧ (0 ≤ (0 : Int32).toInt) from ⟨hT, (by first | omega | decide | (simp only [Int32.le_iff_toInt_le, Int32.lt_iff_toInt_lt, ti_add, ti_sub, ti_mul, Int32.reduceToInt] at *; omega))⟩) (show (10 - (0 : Int32).toInt).toNat < N from (by first | omega | decide | (simp only [Int32.le_iff_toInt_le, Int32.lt_iff_toInt_lt, ti_add, ti_sub, ti_mul, Int32.reduceToInt] at *; omega)))
  obtain ⟨x2_1, x3_1, σ1⟩ := t
  have hI : Tr [] σ0 σ1 ∧ (0 ≤ x3_1.toInt) := hI
  obtain ⟨hT, hI1⟩ := hI
  rw [F_X10_load_4.eq_1]
  refine ok_gI0 hT rfl (by decide) ?_
  refine ok_if (fun hc3 => ?_) (fun hc3 => ?_)
  · exact ok_some ⟨hT, trivial⟩
  · refine ok_if (fun hc4 => ?_) (fun hc4 => ?_)
    · exact ok_some ⟨hT, trivial⟩
    · refine ok_if (fun hc5 => ?_) (fun hc5 => ?_)
      · exact ih4_1 (x2_1, x3_1 + 1, σ1) (show Tr [] σ0 σ1 ∧ (0 ≤ (x3_1 + 1).toInt) from ⟨hT, (by first | omega | decide | (simp only [Int32.le_iff_toInt_le, Int32.lt_iff_toInt_lt, ti_add, ti_sub, ti_mul, Int32.reduceToInt] at *; omega))⟩) (show (10 - (x3_1 + 1).toInt).toNat < (10 - x3_1.toInt).toNat from (by first | omega | decide | (simp only [Int32.le_iff_toInt_le, Int32.lt_iff_toInt_lt, ti_add, ti_sub, ti_mul, Int32.reduceToInt] at *; omega)))
      · refine ok_gR (v := 31) hT rfl (hR 28 5 rfl) ?_
        refine ok_aIn rfl (by first | omega | decide | (simp only [Int32.le_iff_toInt_le, Int32.lt_iff_toInt_lt, ti_add, ti_sub, ti_mul, Int32.reduceToInt] at *; omega)) (by first | omega | decide | (simp only [Int32.le_iff_toInt_le, Int32.lt_iff_toInt_lt, ti_add, ti_sub, ti_mul, Int32.reduceToInt] at *; omega)) (fun v7 ev7 => ?_)
        exact ih4_1 (x2_1 + v7, x3_1 + 1, σ1) (show Tr [] σ0 σ1 ∧ (0 ≤ (x3_1 + 1).toInt) from ⟨hT, (by first | omega | decide | (simp only [Int32.le_iff_toInt_le, Int32.lt_iff_toInt_lt, ti_add, ti_sub, ti_mul, Int32.reduceToInt] at *; omega))⟩) (show (10 - (x3_1 + 1).toInt).toNat < (10 - x3_1.toInt).toNat from (by first | omega | decide | (simp only [Int32.le_iff_toInt_le, Int32.lt_iff_toInt_lt, ti_add, ti_sub, ti_mul, Int32.reduceToInt] at *; omega)))

set_option maxHeartbeats 4000000 in
set_option maxRecDepth 100000 in
theorem s_X10_addEdge_28 {N : Nat} (hN : 1048576 ≤ N) {x1 : Int32} {x2 : Int32} {σ0 : zS}  (hR : RF σ0.2.2) (hW : WI 28 σ0.1) (h1 : 0 ≤ x1.toInt ∧ x1.toInt ≤ 7) (h2 : 0 ≤ x2.toInt ∧ x2.toInt ≤ 7) : Ok (f_X10_addEdge N 28 x1 x2 σ0) (fun r => Tr [28, 29, 30] σ0 r.2 ∧ (WI 28 r.2.1)) := by
  have hT : Tr [28, 29, 30] σ0 σ0 := Tr.rf
  have hE : σ0.1 28 2 = σ0.1 28 2 := rfl
  rw [f_X10_addEdge.eq_1]
  refine ok_gIv rfl hE ?_
  refine ok_if (fun hc2 => ?_) (fun hc2 => ?_)
  · exact ok_some ⟨hT, (show WI 28 σ0.1 from by first | exact hW | exact WI_add (B := 28) hW eσ7 eσ10 eσ12 h1 h2 (by simp only [Int32.le_iff_toInt_le, Int32.lt_iff_toInt_lt, ti_add, ti_sub, ti_mul, Int32.reduceToInt] at *; omega))⟩
  · refine ok_gIv rfl hE ?_
    refine ok_if (fun hc4 => ?_) (fun hc4 => ?_)
    · exact ok_some ⟨hT, (show WI 28 σ0.1 from by first | exact hW | exact WI_add (B := 28) hW eσ7 eσ10 eσ12 h1 h2 (by simp only [Int32.le_iff_toInt_le, Int32.lt_iff_toInt_lt, ti_add, ti_sub, ti_mul, Int32.reduceToInt] at *; omega))⟩
    · refine ok_gR (v := 29) hT rfl (hR 28 3 rfl) ?_
      refine ok_gIv rfl hE ?_
      refine ok_s14 hT rfl (by decide) (by first | omega | decide | (simp only [Int32.le_iff_toInt_le, Int32.lt_iff_toInt_lt, ti_add, ti_sub, ti_mul, Int32.reduceToInt] at *; omega)) (by first | omega | decide | (simp only [Int32.le_iff_toInt_le, Int32.lt_iff_toInt_lt, ti_add, ti_sub, ti_mul, Int32.reduceToInt] at *; omega)) (fun σ7 eσ7 hOσ7 hT => ?_)
      have hE : σ7.1 28 2 = σ0.1 28 2 := by rw [hOσ7.2 28 (by decide)] <;> exact hE
      refine ok_gR (v := 30) hT rfl (hR 28 4 rfl) ?_
      refine ok_gIv rfl hE ?_
      refine ok_s14 hT rfl (by decide) (by first | omega | decide | (simp only [Int32.le_iff_toInt_le, Int32.lt_iff_toInt_lt, ti_add, ti_sub, ti_mul, Int32.reduceToInt] at *; omega)) (by first | omega | decide | (simp only [Int32.le_iff_toInt_le, Int32.lt_iff_toInt_lt, ti_add, ti_sub, ti_mul, Int32.reduceToInt] at *; omega)) (fun σ10 eσ10 hOσ10 hT => ?_)
      have hE : σ10.1 28 2 = σ0.1 28 2 := by rw [hOσ10.2 28 (by decide)] <;> exact hE
      refine ok_gIv rfl hE ?_
      refine ok_pI hT rfl (by decide) (fun σ12 eσ12 hOσ12 hT => ?_)
      exact ok_some ⟨hT, (show WI 28 σ12.1 from by first | exact hW | exact WI_add (B := 28) hW eσ7 eσ10 eσ12 h1 h2 (by simp only [Int32.le_iff_toInt_le, Int32.lt_iff_toInt_lt, ti_add, ti_sub, ti_mul, Int32.reduceToInt] at *; omega))⟩

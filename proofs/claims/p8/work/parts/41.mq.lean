set_option maxHeartbeats 4000000 in
set_option maxRecDepth 100000 in
theorem s_X12_in {N : Nat} (hN : 1048576 ≤ N) {x0 : Int64} {x2 : Int64} {x4 : Int64} {σ0 : zS}  (hR : RF σ0.2.2)  : Ok (f_X12_in N x0 x2 x4 σ0) (fun r => Tr [] σ0 r.2 ∧ ((r.1 = 0 ∨ r.1 = 1) ∧ (¬ r.1 = 0 → x2.toInt ≤ x0.toInt ∧ x0.toInt ≤ x4.toInt))) := by
  have hT : Tr [] σ0 σ0 := Tr.rf
  rw [f_X12_in.eq_1]
  refine ok_if (fun hc1 => ?_) (fun hc1 => ?_)
  · exact ok_rZ (Or.inl rfl) ⟨hT, (show ((0 : Int32) = 0 ∨ (0 : Int32) = 1) ∧ (¬ (0 : Int32) = 0 → x2.toInt ≤ x0.toInt ∧ x0.toInt ≤ x4.toInt) from by first | exact ⟨Or.inl rfl, fun h9 => absurd rfl h9⟩ | exact ⟨Or.inr rfl, fun _ => ⟨h1, h2⟩⟩)⟩
  · have h1 := in_ok hc1
    refine ok_if (fun hc2 => ?_) (fun hc2 => ?_)
    · exact ok_rZ (Or.inl rfl) ⟨hT, (show ((0 : Int32) = 0 ∨ (0 : Int32) = 1) ∧ (¬ (0 : Int32) = 0 → x2.toInt ≤ x0.toInt ∧ x0.toInt ≤ x4.toInt) from by first | exact ⟨Or.inl rfl, fun h9 => absurd rfl h9⟩ | exact ⟨Or.inr rfl, fun _ => ⟨h1, h2⟩⟩)⟩
    · have h2 := in_ok2 hc2
      exact ok_rZ (Or.inr rfl) ⟨hT, (show ((1 : Int32) = 0 ∨ (1 : Int32) = 1) ∧ (¬ (1 : Int32) = 0 → x2.toInt ≤ x0.toInt ∧ x0.toInt ≤ x4.toInt) from by first | exact ⟨Or.inl rfl, fun h9 => absurd rfl h9⟩ | exact ⟨Or.inr rfl, fun _ => ⟨h1, h2⟩⟩)⟩

set_option maxHeartbeats 4000000 in
set_option maxRecDepth 100000 in
theorem s_X12_isWorld {N : Nat} (hN : 1048576 ≤ N)  {σ0 : zS}  (hR : RF σ0.2.2) (hM : MW (σ0.1 219) 0) : Ok (f_X12_isWorld N 218 σ0) (fun r => Tr [] σ0 r.2 ∧ ((r.1 = 0 ∨ r.1 = 1) ∧ (¬ r.1 = 0 → 0 < (σ0.1 219 0).toInt) ∧ (r.1 = 0 → (σ0.1 219 0).toInt ≤ 0))) := by
  have hT : Tr [] σ0 σ0 := Tr.rf
  have hn := hM.1
  have he : 0 ≤ (σ0.1 219 2).toInt ∧ (σ0.1 219 2).toInt ≤ 10 := hM.2.1
  have qm := mny_b hn.1 hn.2
  rw [f_X12_isWorld.eq_1]
  refine ok_gR (v := 219) hT rfl (hR 218 1 rfl) ?_
  refine ok_aIc (j := 0) hT rfl (by decide) rfl (by decide) (by decide) ?_
  refine ok_if (fun hc3 => ?_) (fun hc3 => ?_)
  · exact ok_rZ (Or.inl rfl) ⟨hT, (show ((0 : Int32) = 0 ∨ (0 : Int32) = 1) ∧ (¬ (0 : Int32) = 0 → 0 < (σ0.1 219 0).toInt) ∧ ((0 : Int32) = 0 → (σ0.1 219 0).toInt ≤ 0) from by first | exact ⟨Or.inl rfl, fun h9 => absurd rfl h9, fun _ => by first | omega | (simp only [Int32.le_iff_toInt_le, Int32.lt_iff_toInt_lt, ti_add, ti_sub, ti_mul, Int32.reduceToInt] at *; omega)⟩ | exact ⟨Or.inr rfl, fun _ => by first | omega | (simp only [Int32.le_iff_toInt_le, Int32.lt_iff_toInt_lt, ti_add, ti_sub, ti_mul, Int32.reduceToInt] at *; omega), fun h9 => absurd h9 (by decide)⟩)⟩
  · exact ok_rZ (Or.inr rfl) ⟨hT, (show ((1 : Int32) = 0 ∨ (1 : Int32) = 1) ∧ (¬ (1 : Int32) = 0 → 0 < (σ0.1 219 0).toInt) ∧ ((1 : Int32) = 0 → (σ0.1 219 0).toInt ≤ 0) from by first | exact ⟨Or.inl rfl, fun h9 => absurd rfl h9, fun _ => by first | omega | (simp only [Int32.le_iff_toInt_le, Int32.lt_iff_toInt_lt, ti_add, ti_sub, ti_mul, Int32.reduceToInt] at *; omega)⟩ | exact ⟨Or.inr rfl, fun _ => by first | omega | (simp only [Int32.le_iff_toInt_le, Int32.lt_iff_toInt_lt, ti_add, ti_sub, ti_mul, Int32.reduceToInt] at *; omega), fun h9 => absurd h9 (by decide)⟩)⟩

set_option maxHeartbeats 4000000 in
set_option maxRecDepth 100000 in
theorem s_X12_isRegister {N : Nat} (hN : 1048576 ≤ N) {x1 : Int32} {σ0 : zS}  (hR : RF σ0.2.2) (hM : MW (σ0.1 219) 0) : Ok (f_X12_isRegister N 218 x1 σ0) (fun r => Tr [] σ0 r.2 ∧ ((r.1 = 0 ∨ r.1 = 1) ∧ (¬ r.1 = 0 → 0 ≤ x1.toInt ∧ x1.toInt ≤ 9))) := by
  have hT : Tr [] σ0 σ0 := Tr.rf
  have hn := hM.1
  have he : 0 ≤ (σ0.1 219 2).toInt ∧ (σ0.1 219 2).toInt ≤ 10 := hM.2.1
  have qm := mny_b hn.1 hn.2
  rw [f_X12_isRegister.eq_1]
  refine ok_gC rfl ?_
  refine ok_zbT (Q := fun V σ => (V = 0 ∨ V = 1) ∧ (¬ V = 0 → 0 < (σ0.1 219 0).toInt) ∧ (V = 0 → (σ0.1 219 0).toInt ≤ 0)) hT (s_X12_isWorld hN (hR.tr hT) (by first | exact hM | (rw [hT.2 219 (by decide)]; exact hM))) (fun _ h9 => absurd h9 List.not_mem_nil) (fun v1 σ2 hOσ2 hT hqv1 => ?_)
  have hqv1 : (v1 = 0 ∨ v1 = 1) ∧ (¬ v1 = 0 → 0 < (σ0.1 219 0).toInt) ∧ (v1 = 0 → (σ0.1 219 0).toInt ≤ 0) := hqv1
  refine ok_if (fun hc3 => ?_) (fun hc3 => ?_)
  · have qhc3 := hqv1.2.2 hc3
    exact ok_rZ (Or.inl rfl) ⟨hT, (show ((0 : Int32) = 0 ∨ (0 : Int32) = 1) ∧ (¬ (0 : Int32) = 0 → 0 ≤ x1.toInt ∧ x1.toInt ≤ 9) from by first | exact ⟨Or.inl rfl, fun h9 => absurd rfl h9⟩ | exact ⟨Or.inr rfl, fun _ => by first | omega | (simp only [Int32.le_iff_toInt_le, Int32.lt_iff_toInt_lt, ti_add, ti_sub, ti_mul, Int32.reduceToInt] at *; omega)⟩ | exact ⟨hqv1.1, fun h9 => by have q9 := hqv1.2 h9; first | omega | (simp only [Int32.le_iff_toInt_le, Int32.lt_iff_toInt_lt, ti_add, ti_sub, ti_mul, Int32.reduceToInt] at *; omega)⟩)⟩
  · have qhc3 := hqv1.2.1 hc3
    refine ok_zbT (Q := fun V σ => (V = 0 ∨ V = 1) ∧ (¬ V = 0 → (0 : Int64).toInt ≤ (Int32.toInt64 x1).toInt ∧ (Int32.toInt64 x1).toInt ≤ (9 : Int64).toInt)) hT (s_X12_in hN (hR.tr hT) ) (fun _ h9 => absurd h9 List.not_mem_nil) (fun v4 σ5 hOσ5 hT hqv4 => ?_)
    have hqv4 : (v4 = 0 ∨ v4 = 1) ∧ (¬ v4 = 0 → (0 : Int64).toInt ≤ (Int32.toInt64 x1).toInt ∧ (Int32.toInt64 x1).toInt ≤ (9 : Int64).toInt) := hqv4
    simp only [i64_of, Int64.reduceToInt] at hqv4
    refine ok_if (fun hc6 => ?_) (fun hc6 => ?_)
    · exact ok_rZ (Or.inl rfl) ⟨hT, (show ((0 : Int32) = 0 ∨ (0 : Int32) = 1) ∧ (¬ (0 : Int32) = 0 → 0 ≤ x1.toInt ∧ x1.toInt ≤ 9) from by first | exact ⟨Or.inl rfl, fun h9 => absurd rfl h9⟩ | exact ⟨Or.inr rfl, fun _ => by first | omega | (simp only [Int32.le_iff_toInt_le, Int32.lt_iff_toInt_lt, ti_add, ti_sub, ti_mul, Int32.reduceToInt] at *; omega)⟩ | exact ⟨hqv4.1, fun h9 => by have q9 := hqv4.2 h9; first | omega | (simp only [Int32.le_iff_toInt_le, Int32.lt_iff_toInt_lt, ti_add, ti_sub, ti_mul, Int32.reduceToInt] at *; omega)⟩)⟩
    · have qhc6 := hqv4.2 hc6
      exact ok_rZ (Or.inr rfl) ⟨hT, (show ((1 : Int32) = 0 ∨ (1 : Int32) = 1) ∧ (¬ (1 : Int32) = 0 → 0 ≤ x1.toInt ∧ x1.toInt ≤ 9) from by first | exact ⟨Or.inl rfl, fun h9 => absurd rfl h9⟩ | exact ⟨Or.inr rfl, fun _ => by first | omega | (simp only [Int32.le_iff_toInt_le, Int32.lt_iff_toInt_lt, ti_add, ti_sub, ti_mul, Int32.reduceToInt] at *; omega)⟩ | exact ⟨hqv4.1, fun h9 => by have q9 := hqv4.2 h9; first | omega | (simp only [Int32.le_iff_toInt_le, Int32.lt_iff_toInt_lt, ti_add, ti_sub, ti_mul, Int32.reduceToInt] at *; omega)⟩)⟩

set_option maxHeartbeats 4000000 in
set_option maxRecDepth 100000 in
theorem s_X12_many {N : Nat} (hN : 1048576 ≤ N)  {σ0 : zS}  (hR : RF σ0.2.2) (hM : MW (σ0.1 219) 0) : Ok (f_X12_many N 218 σ0) (fun r => Tr [] σ0 r.2 ∧ (r.1 = mny (σ0.1 219 0))) := by
  have hT : Tr [] σ0 σ0 := Tr.rf
  have hn := hM.1
  have he : 0 ≤ (σ0.1 219 2).toInt ∧ (σ0.1 219 2).toInt ≤ 10 := hM.2.1
  have qm := mny_b hn.1 hn.2
  rw [f_X12_many.eq_1]
  refine ok_gC rfl ?_
  refine ok_zbT (Q := fun V σ => (V = 0 ∨ V = 1) ∧ (¬ V = 0 → 0 < (σ0.1 219 0).toInt) ∧ (V = 0 → (σ0.1 219 0).toInt ≤ 0)) hT (s_X12_isWorld hN (hR.tr hT) (by first | exact hM | (rw [hT.2 219 (by decide)]; exact hM))) (fun _ h9 => absurd h9 List.not_mem_nil) (fun v1 σ2 hOσ2 hT hqv1 => ?_)
  have hqv1 : (v1 = 0 ∨ v1 = 1) ∧ (¬ v1 = 0 → 0 < (σ0.1 219 0).toInt) ∧ (v1 = 0 → (σ0.1 219 0).toInt ≤ 0) := hqv1
  refine ok_if (fun hc3 => ?_) (fun hc3 => ?_)
  · have qhc3 := hqv1.2.2 hc3
    exact ok_some ⟨hT, (show (0 : Int32) = mny (σ0.1 219 0) from by first | exact (if_pos (Int32.lt_iff_toInt_lt.mpr (by simp only [Int32.reduceToInt]; omega))).symm | exact (if_neg (fun h9 => by rw [Int32.lt_iff_toInt_lt] at h9; simp only [Int32.reduceToInt] at h9; omega)).symm)⟩
  · have qhc3 := hqv1.2.1 hc3
    refine ok_gR (v := 219) hT rfl (hR 218 1 rfl) ?_
    refine ok_aIc (j := 0) hT rfl (by decide) rfl (by decide) (by decide) ?_
    exact ok_some ⟨hT, (show ((1 : Int32) <<< ((σ0.1 219 0) &&& 31)) = mny (σ0.1 219 0) from by first | exact (if_pos (Int32.lt_iff_toInt_lt.mpr (by simp only [Int32.reduceToInt]; omega))).symm | exact (if_neg (fun h9 => by rw [Int32.lt_iff_toInt_lt] at h9; simp only [Int32.reduceToInt] at h9; omega)).symm)⟩

set_option maxHeartbeats 4000000 in
set_option maxRecDepth 100000 in
theorem s_X12_isSet {N : Nat} (hN : 1048576 ≤ N) {x1 : Int32} {σ0 : zS}  (hR : RF σ0.2.2) (hM : MW (σ0.1 219) 0) : Ok (f_X12_isSet N 218 x1 σ0) (fun r => Tr [] σ0 r.2 ∧ ((r.1 = 0 ∨ r.1 = 1) ∧ (¬ r.1 = 0 → 0 ≤ x1.toInt ∧ x1.toInt < (mny (σ0.1 219 0)).toInt))) := by
  have hT : Tr [] σ0 σ0 := Tr.rf
  have hn := hM.1
  have he : 0 ≤ (σ0.1 219 2).toInt ∧ (σ0.1 219 2).toInt ≤ 10 := hM.2.1
  have qm := mny_b hn.1 hn.2
  rw [f_X12_isSet.eq_1]
  refine ok_gC rfl ?_
  refine ok_zbT (Q := fun V σ => V = mny (σ0.1 219 0)) hT (s_X12_many hN (hR.tr hT) (by first | exact hM | (rw [hT.2 219 (by decide)]; exact hM))) (fun _ h9 => absurd h9 List.not_mem_nil) (fun v1 σ2 hOσ2 hT hqv1 => ?_)
  have hqv1 : v1 = mny (σ0.1 219 0) := hqv1
  obtain rfl : v1 = (mny (σ0.1 219 0)) := hqv1
  refine ok_zbT (Q := fun V σ => (V = 0 ∨ V = 1) ∧ (¬ V = 0 → (0 : Int64).toInt ≤ (Int32.toInt64 x1).toInt ∧ (Int32.toInt64 x1).toInt ≤ (Int32.toInt64 (((mny (σ0.1 219 0))) - 1)).toInt)) hT (s_X12_in hN (hR.tr hT) ) (fun _ h9 => absurd h9 List.not_mem_nil) (fun v3 σ4 hOσ4 hT hqv3 => ?_)
  have hqv3 : (v3 = 0 ∨ v3 = 1) ∧ (¬ v3 = 0 → (0 : Int64).toInt ≤ (Int32.toInt64 x1).toInt ∧ (Int32.toInt64 x1).toInt ≤ (Int32.toInt64 (((mny (σ0.1 219 0))) - 1)).toInt) := hqv3
  simp only [i64_of, Int64.reduceToInt] at hqv3
  exact ok_rZ (hqv3.1) ⟨hT, (show (v3 = 0 ∨ v3 = 1) ∧ (¬ v3 = 0 → 0 ≤ x1.toInt ∧ x1.toInt < (mny (σ0.1 219 0)).toInt) from by first | exact ⟨Or.inl rfl, fun h9 => absurd rfl h9⟩ | exact ⟨Or.inr rfl, fun _ => by first | omega | (simp only [Int32.le_iff_toInt_le, Int32.lt_iff_toInt_lt, ti_add, ti_sub, ti_mul, Int32.reduceToInt] at *; omega)⟩ | exact ⟨hqv3.1, fun h9 => by have q9 := hqv3.2 h9; first | omega | (simp only [Int32.le_iff_toInt_le, Int32.lt_iff_toInt_lt, ti_add, ti_sub, ti_mul, Int32.reduceToInt] at *; omega)⟩)⟩

set_option maxHeartbeats 4000000 in
set_option maxRecDepth 100000 in
theorem s_X12_isName {N : Nat} (hN : 1048576 ≤ N) {x1 : Int32} {σ0 : zS}  (hR : RF σ0.2.2) (hM : MW (σ0.1 219) 0) : Ok (f_X12_isName N 218 x1 σ0) (fun r => Tr [] σ0 r.2 ∧ ((r.1 = 0 ∨ r.1 = 1) ∧ (¬ r.1 = 0 → 0 ≤ x1.toInt ∧ x1.toInt < (σ0.1 219 0).toInt))) := by
  have hT : Tr [] σ0 σ0 := Tr.rf
  have hn := hM.1
  have he : 0 ≤ (σ0.1 219 2).toInt ∧ (σ0.1 219 2).toInt ≤ 10 := hM.2.1
  have qm := mny_b hn.1 hn.2
  rw [f_X12_isName.eq_1]
  refine ok_gR (v := 219) hT rfl (hR 218 1 rfl) ?_
  refine ok_aIc (j := 0) hT rfl (by decide) rfl (by decide) (by decide) ?_
  refine ok_zbT (Q := fun V σ => (V = 0 ∨ V = 1) ∧ (¬ V = 0 → (0 : Int64).toInt ≤ (Int32.toInt64 x1).toInt ∧ (Int32.toInt64 x1).toInt ≤ (Int32.toInt64 ((σ0.1 219 0) - 1)).toInt)) hT (s_X12_in hN (hR.tr hT) ) (fun _ h9 => absurd h9 List.not_mem_nil) (fun v3 σ4 hOσ4 hT hqv3 => ?_)
  have hqv3 : (v3 = 0 ∨ v3 = 1) ∧ (¬ v3 = 0 → (0 : Int64).toInt ≤ (Int32.toInt64 x1).toInt ∧ (Int32.toInt64 x1).toInt ≤ (Int32.toInt64 ((σ0.1 219 0) - 1)).toInt) := hqv3
  simp only [i64_of, Int64.reduceToInt] at hqv3
  exact ok_rZ (hqv3.1) ⟨hT, (show (v3 = 0 ∨ v3 = 1) ∧ (¬ v3 = 0 → 0 ≤ x1.toInt ∧ x1.toInt < (σ0.1 219 0).toInt) from by first | exact ⟨Or.inl rfl, fun h9 => absurd rfl h9⟩ | exact ⟨Or.inr rfl, fun _ => by first | omega | (simp only [Int32.le_iff_toInt_le, Int32.lt_iff_toInt_lt, ti_add, ti_sub, ti_mul, Int32.reduceToInt] at *; omega)⟩ | exact ⟨hqv3.1, fun h9 => by have q9 := hqv3.2 h9; first | omega | (simp only [Int32.le_iff_toInt_le, Int32.lt_iff_toInt_lt, ti_add, ti_sub, ti_mul, Int32.reduceToInt] at *; omega)⟩)⟩

set_option maxHeartbeats 4000000 in
set_option maxRecDepth 100000 in
theorem s_X12_of {N : Nat} (hN : 1048576 ≤ N) {x1 : Int32} {x2 : Int32} {σ0 : zS}  (hR : RF σ0.2.2) (hM : MW (σ0.1 219) 0) (hB : ZB σ0.1) (hp : 0 ≤ x1.toInt ∧ x1.toInt ≤ 9) (hs : 0 ≤ x2.toInt ∧ x2.toInt ≤ 1023) : Ok (f_X12_of N 218 x1 x2 σ0) (fun r => Tr [] σ0 r.2 ∧ (r.1 = 0 ∨ r.1 = 1)) := by
  have hT : Tr [] σ0 σ0 := Tr.rf
  have hn := hM.1
  have he : 0 ≤ (σ0.1 219 2).toInt ∧ (σ0.1 219 2).toInt ≤ 10 := hM.2.1
  have qm := mny_b hn.1 hn.2
  rw [f_X12_of.eq_1]
  refine ok_gR (v := 220) hT rfl (hR 218 2 rfl) ?_
  refine ok_aIn rfl (by first | omega | decide | (simp only [Int32.le_iff_toInt_le, Int32.lt_iff_toInt_lt, ti_add, ti_sub, ti_mul, Int32.reduceToInt] at *; omega)) (by first | omega | decide | (simp only [Int32.le_iff_toInt_le, Int32.lt_iff_toInt_lt, ti_add, ti_sub, ti_mul, Int32.reduceToInt] at *; omega)) (fun v2 ev2 => ?_)
  have zv2 : v2 = 0 ∨ v2 = 1 := by rw [ev2]; exact hB 220 rfl _
  exact ok_rZ (by assumption) ⟨hT, (show v2 = 0 ∨ v2 = 1 from by assumption)⟩

set_option maxHeartbeats 4000000 in
set_option maxRecDepth 100000 in
theorem s_X12_namesOf {N : Nat} (hN : 1048576 ≤ N) {x0 : Int32} {σ0 : zS}  (hR : RF σ0.2.2)  : Ok (f_X12_namesOf N x0 σ0) (fun r => Tr [] σ0 r.2 ∧ (True)) := by
  have hT : Tr [] σ0 σ0 := Tr.rf
  rw [f_X12_namesOf.eq_1]
  refine ok_lp (fun t : Int32 × Int32 × zS => Tr [] σ0 (t.2.2) ∧ (0 ≤ (t.2.1).toInt)) (fun t : Int32 × Int32 × zS => ((10 : Int32).toInt - (t.2.1).toInt).toNat) (fun again1 t hI ih4_1 => ?_) N _ (show Tr [] σ0 σ0 ∧ (0 ≤ (0 : Int32).toInt) from ⟨hT, (by first | omega | decide | (simp only [Int32.le_iff_toInt_le, Int32.lt_iff_toInt_lt, ti_add, ti_sub, ti_mul, Int32.reduceToInt] at *; omega))⟩) (show ((10 : Int32).toInt - (0 : Int32).toInt).toNat < N from (by first | omega | decide | (simp only [Int32.le_iff_toInt_le, Int32.lt_iff_toInt_lt, ti_add, ti_sub, ti_mul, Int32.reduceToInt] at *; omega)))
  obtain ⟨x1_1, x2_1, σ1⟩ := t
  have hI : Tr [] σ0 σ1 ∧ (0 ≤ x2_1.toInt) := hI
  obtain ⟨hT, hI1⟩ := hI
  rw [F_X12_namesOf_4.eq_1]
  refine ok_if (fun hc2 => ?_) (fun hc2 => ?_)
  · exact ok_some ⟨hT, trivial⟩
  · exact ih4_1 (x1_1 + (((x0 : Int32) >>> (x2_1 &&& 31)) &&& 1), x2_1 + 1, σ1) (show Tr [] σ0 σ1 ∧ (0 ≤ (x2_1 + 1).toInt) from ⟨hT, (by first | omega | decide | (simp only [Int32.le_iff_toInt_le, Int32.lt_iff_toInt_lt, ti_add, ti_sub, ti_mul, Int32.reduceToInt] at *; omega))⟩) (show ((10 : Int32).toInt - (x2_1 + 1).toInt).toNat < ((10 : Int32).toInt - x2_1.toInt).toNat from (by first | omega | decide | (simp only [Int32.le_iff_toInt_le, Int32.lt_iff_toInt_lt, ti_add, ti_sub, ti_mul, Int32.reduceToInt] at *; omega)))

set_option maxHeartbeats 4000000 in
set_option maxRecDepth 100000 in
theorem s_X12_sizeOf {N : Nat} (hN : 1048576 ≤ N) {x1 : Int32} {σ0 : zS}  (hR : RF σ0.2.2) (hM : MW (σ0.1 219) 0) (hB : ZB σ0.1) (hp : 0 ≤ x1.toInt ∧ x1.toInt ≤ 9) : Ok (f_X12_sizeOf N 218 x1 σ0) (fun r => Tr [] σ0 r.2 ∧ (0 ≤ r.1.toInt ∧ r.1.toInt ≤ 1024)) := by
  have hT : Tr [] σ0 σ0 := Tr.rf
  have hn := hM.1
  have he : 0 ≤ (σ0.1 219 2).toInt ∧ (σ0.1 219 2).toInt ≤ 10 := hM.2.1
  have qm := mny_b hn.1 hn.2
  rw [f_X12_sizeOf.eq_1]
  refine ok_lp (fun t : Int32 × Int32 × zS => Tr [] σ0 (t.2.2) ∧ ((0 ≤ (t.1).toInt ∧ (t.1).toInt ≤ (t.2.1).toInt) ∧ 0 ≤ (t.2.1).toInt ∧ (t.2.1).toInt ≤ 1024) ∧ (ZB (t.2.2).1)) (fun t : Int32 × Int32 × zS => (1024 - (t.2.1).toInt).toNat) (fun again1 t hI ih4_1 => ?_) N _ (show Tr [] σ0 σ0 ∧ ((0 ≤ (0 : Int32).toInt ∧ (0 : Int32).toInt ≤ (0 : Int32).toInt) ∧ 0 ≤ (0 : Int32).toInt ∧ (0 : Int32).toInt ≤ 1024) ∧ (ZB σ0.1) from ⟨hT, (by first | omega | decide | (simp only [Int32.le_iff_toInt_le, Int32.lt_iff_toInt_lt, ti_add, ti_sub, ti_mul, Int32.reduceToInt] at *; omega)), hB⟩) (show (1024 - (0 : Int32).toInt).toNat < N from (by first | omega | decide | (simp only [Int32.le_iff_toInt_le, Int32.lt_iff_toInt_lt, ti_add, ti_sub, ti_mul, Int32.reduceToInt] at *; omega)))
  obtain ⟨x2_1, x3_1, σ1⟩ := t
  have hI : Tr [] σ0 σ1 ∧ ((0 ≤ x2_1.toInt ∧ x2_1.toInt ≤ x3_1.toInt) ∧ 0 ≤ x3_1.toInt ∧ x3_1.toInt ≤ 1024) ∧ (ZB σ1.1) := hI
  obtain ⟨hT, hI1, hB⟩ := hI
  rw [F_X12_sizeOf_4.eq_1]
  refine ok_gC rfl ?_
  have hTc := hT
  refine ok_zbT (Q := fun V σ => V = mny (σ1.1 219 0)) hT (s_X12_many hN (hR.tr hT) (by first | exact hM | (rw [hT.2 219 (by decide)]; exact hM))) (fun _ h9 => absurd h9 List.not_mem_nil) (fun v2 σ3 hOσ3 hT hqv2 => ?_)
  have hqv2 : v2 = mny (σ1.1 219 0) := hqv2
  rw [hTc.2 219 (by decide)] at hqv2
  obtain rfl : v2 = (mny (σ0.1 219 0)) := hqv2
  have hB : ZB σ3.1 := ZB.tr hOσ3 (by decide) hB
  refine ok_if (fun hc4 => ?_) (fun hc4 => ?_)
  · exact ok_some ⟨hT, (show 0 ≤ x2_1.toInt ∧ x2_1.toInt ≤ 1024 from by first | omega | decide | (simp only [Int32.le_iff_toInt_le, Int32.lt_iff_toInt_lt, ti_add, ti_sub, ti_mul, Int32.reduceToInt] at *; omega))⟩
  · refine ok_gC rfl ?_
    refine ok_zbT (Q := fun V σ => V = 0 ∨ V = 1) hT (s_X12_of hN (hR.tr hT) (by first | exact hM | (rw [hT.2 219 (by decide)]; exact hM)) (hB) (by first | omega | decide | (simp only [Int32.le_iff_toInt_le, Int32.lt_iff_toInt_lt, ti_add, ti_sub, ti_mul, Int32.reduceToInt] at *; omega)) (by first | omega | decide | (simp only [Int32.le_iff_toInt_le, Int32.lt_iff_toInt_lt, ti_add, ti_sub, ti_mul, Int32.reduceToInt] at *; omega))) (fun _ h9 => absurd h9 List.not_mem_nil) (fun v5 σ6 hOσ6 hT hqv5 => ?_)
    have hqv5 : v5 = 0 ∨ v5 = 1 := hqv5
    have hB : ZB σ6.1 := ZB.tr hOσ6 (by decide) hB
    refine ok_if (fun hc7 => ?_) (fun hc7 => ?_)
    · exact ih4_1 (x2_1 + 0, x3_1 + 1, σ6) (show Tr [] σ0 σ6 ∧ ((0 ≤ (x2_1 + 0).toInt ∧ (x2_1 + 0).toInt ≤ (x3_1 + 1).toInt) ∧ 0 ≤ (x3_1 + 1).toInt ∧ (x3_1 + 1).toInt ≤ 1024) ∧ (ZB σ6.1) from ⟨hT, (by first | omega | decide | (simp only [Int32.le_iff_toInt_le, Int32.lt_iff_toInt_lt, ti_add, ti_sub, ti_mul, Int32.reduceToInt] at *; omega)), hB⟩) (show (1024 - (x3_1 + 1).toInt).toNat < (1024 - x3_1.toInt).toNat from (by first | omega | decide | (simp only [Int32.le_iff_toInt_le, Int32.lt_iff_toInt_lt, ti_add, ti_sub, ti_mul, Int32.reduceToInt] at *; omega)))
    · exact ih4_1 (x2_1 + 1, x3_1 + 1, σ6) (show Tr [] σ0 σ6 ∧ ((0 ≤ (x2_1 + 1).toInt ∧ (x2_1 + 1).toInt ≤ (x3_1 + 1).toInt) ∧ 0 ≤ (x3_1 + 1).toInt ∧ (x3_1 + 1).toInt ≤ 1024) ∧ (ZB σ6.1) from ⟨hT, (by first | omega | decide | (simp only [Int32.le_iff_toInt_le, Int32.lt_iff_toInt_lt, ti_add, ti_sub, ti_mul, Int32.reduceToInt] at *; omega)), hB⟩) (show (1024 - (x3_1 + 1).toInt).toNat < (1024 - x3_1.toInt).toNat from (by first | omega | decide | (simp only [Int32.le_iff_toInt_le, Int32.lt_iff_toInt_lt, ti_add, ti_sub, ti_mul, Int32.reduceToInt] at *; omega)))

set_option maxHeartbeats 4000000 in
set_option maxRecDepth 100000 in
theorem s_X12_nthOf {N : Nat} (hN : 1048576 ≤ N) {x1 : Int32} {x2 : Int32} {σ0 : zS}  (hR : RF σ0.2.2) (hM : MW (σ0.1 219) 0) (hB : ZB σ0.1) (hp : 0 ≤ x1.toInt ∧ x1.toInt ≤ 9) : Ok (f_X12_nthOf N 218 x1 x2 σ0) (fun r => Tr [] σ0 r.2 ∧ (-1 ≤ r.1.toInt ∧ r.1.toInt ≤ 1023)) := by
  have hT : Tr [] σ0 σ0 := Tr.rf
  have hn := hM.1
  have he : 0 ≤ (σ0.1 219 2).toInt ∧ (σ0.1 219 2).toInt ≤ 10 := hM.2.1
  have qm := mny_b hn.1 hn.2
  rw [f_X12_nthOf.eq_1]
  refine ok_lp (fun t : Int32 × Int32 × zS => Tr [] σ0 (t.2.2) ∧ (0 ≤ (t.2.1).toInt) ∧ (ZB (t.2.2).1)) (fun t : Int32 × Int32 × zS => (1024 - (t.2.1).toInt).toNat) (fun again1 t hI ih5_1 => ?_) N _ (show Tr [] σ0 σ0 ∧ (0 ≤ (0 : Int32).toInt) ∧ (ZB σ0.1) from ⟨hT, (by first | omega | decide | (simp only [Int32.le_iff_toInt_le, Int32.lt_iff_toInt_lt, ti_add, ti_sub, ti_mul, Int32.reduceToInt] at *; omega)), hB⟩) (show (1024 - (0 : Int32).toInt).toNat < N from (by first | omega | decide | (simp only [Int32.le_iff_toInt_le, Int32.lt_iff_toInt_lt, ti_add, ti_sub, ti_mul, Int32.reduceToInt] at *; omega)))
  obtain ⟨x3_1, x4_1, σ1⟩ := t
  have hI : Tr [] σ0 σ1 ∧ (0 ≤ x4_1.toInt) ∧ (ZB σ1.1) := hI
  obtain ⟨hT, hI1, hB⟩ := hI
  rw [F_X12_nthOf_5.eq_1]
  refine ok_gC rfl ?_
  have hTc := hT
  refine ok_zbT (Q := fun V σ => V = mny (σ1.1 219 0)) hT (s_X12_many hN (hR.tr hT) (by first | exact hM | (rw [hT.2 219 (by decide)]; exact hM))) (fun _ h9 => absurd h9 List.not_mem_nil) (fun v2 σ3 hOσ3 hT hqv2 => ?_)
  have hqv2 : v2 = mny (σ1.1 219 0) := hqv2
  rw [hTc.2 219 (by decide)] at hqv2
  obtain rfl : v2 = (mny (σ0.1 219 0)) := hqv2
  have hB : ZB σ3.1 := ZB.tr hOσ3 (by decide) hB
  refine ok_if (fun hc4 => ?_) (fun hc4 => ?_)
  · exact ok_some ⟨hT, (show -1 ≤ (-1 : Int32).toInt ∧ (-1 : Int32).toInt ≤ 1023 from by first | omega | decide | (simp only [Int32.le_iff_toInt_le, Int32.lt_iff_toInt_lt, ti_add, ti_sub, ti_mul, Int32.reduceToInt] at *; omega))⟩
  · refine ok_gC rfl ?_
    refine ok_zbT (Q := fun V σ => V = 0 ∨ V = 1) hT (s_X12_of hN (hR.tr hT) (by first | exact hM | (rw [hT.2 219 (by decide)]; exact hM)) (hB) (by first | omega | decide | (simp only [Int32.le_iff_toInt_le, Int32.lt_iff_toInt_lt, ti_add, ti_sub, ti_mul, Int32.reduceToInt] at *; omega)) (by first | omega | decide | (simp only [Int32.le_iff_toInt_le, Int32.lt_iff_toInt_lt, ti_add, ti_sub, ti_mul, Int32.reduceToInt] at *; omega))) (fun _ h9 => absurd h9 List.not_mem_nil) (fun v5 σ6 hOσ6 hT hqv5 => ?_)
    have hqv5 : v5 = 0 ∨ v5 = 1 := hqv5
    have hB : ZB σ6.1 := ZB.tr hOσ6 (by decide) hB
    refine ok_if (fun hc7 => ?_) (fun hc7 => ?_)
    · exact ih5_1 (x3_1, x4_1 + 1, σ6) (show Tr [] σ0 σ6 ∧ (0 ≤ (x4_1 + 1).toInt) ∧ (ZB σ6.1) from ⟨hT, (by first | omega | decide | (simp only [Int32.le_iff_toInt_le, Int32.lt_iff_toInt_lt, ti_add, ti_sub, ti_mul, Int32.reduceToInt] at *; omega)), hB⟩) (show (1024 - (x4_1 + 1).toInt).toNat < (1024 - x4_1.toInt).toNat from (by first | omega | decide | (simp only [Int32.le_iff_toInt_le, Int32.lt_iff_toInt_lt, ti_add, ti_sub, ti_mul, Int32.reduceToInt] at *; omega)))
    · refine ok_if (fun hc8 => ?_) (fun hc8 => ?_)
      · exact ok_some ⟨hT, (show -1 ≤ x4_1.toInt ∧ x4_1.toInt ≤ 1023 from by first | omega | decide | (simp only [Int32.le_iff_toInt_le, Int32.lt_iff_toInt_lt, ti_add, ti_sub, ti_mul, Int32.reduceToInt] at *; omega))⟩
      · exact ih5_1 (x3_1 + 1, x4_1 + 1, σ6) (show Tr [] σ0 σ6 ∧ (0 ≤ (x4_1 + 1).toInt) ∧ (ZB σ6.1) from ⟨hT, (by first | omega | decide | (simp only [Int32.le_iff_toInt_le, Int32.lt_iff_toInt_lt, ti_add, ti_sub, ti_mul, Int32.reduceToInt] at *; omega)), hB⟩) (show (1024 - (x4_1 + 1).toInt).toNat < (1024 - x4_1.toInt).toNat from (by first | omega | decide | (simp only [Int32.le_iff_toInt_le, Int32.lt_iff_toInt_lt, ti_add, ti_sub, ti_mul, Int32.reduceToInt] at *; omega)))

set_option maxHeartbeats 4000000 in
set_option maxRecDepth 100000 in
theorem s_X12_lays {N : Nat} (hN : 1048576 ≤ N) {x1 : Int32} {σ0 : zS}  (hR : RF σ0.2.2) (hM : MW (σ0.1 219) 0) (hB : ZB σ0.1) (hp : 0 ≤ x1.toInt ∧ x1.toInt ≤ 9) : Ok (f_X12_lays N 218 x1 σ0) (fun r => Tr [220] σ0 r.2 ∧ (ZB r.2.1)) := by
  have hT : Tr [220] σ0 σ0 := Tr.rf
  have hn := hM.1
  have he : 0 ≤ (σ0.1 219 2).toInt ∧ (σ0.1 219 2).toInt ≤ 10 := hM.2.1
  have qm := mny_b hn.1 hn.2
  rw [f_X12_lays.eq_1]
  refine ok_lp (fun t : Int32 × zS => Tr [220] σ0 (t.2) ∧ (0 ≤ (t.1).toInt) ∧ (ZB (t.2).1)) (fun t : Int32 × zS => ((1024 : Int32).toInt - (t.1).toInt).toNat) (fun again1 t hI ih2_1 => ?_) N _ (show Tr [220] σ0 σ0 ∧ (0 ≤ (0 : Int32).toInt) ∧ (ZB σ0.1) from ⟨hT, (by first | omega | decide | (simp only [Int32.le_iff_toInt_le, Int32.lt_iff_toInt_lt, ti_add, ti_sub, ti_mul, Int32.reduceToInt] at *; omega)), hB⟩) (show ((1024 : Int32).toInt - (0 : Int32).toInt).toNat < N from (by first | omega | decide | (simp only [Int32.le_iff_toInt_le, Int32.lt_iff_toInt_lt, ti_add, ti_sub, ti_mul, Int32.reduceToInt] at *; omega)))
  obtain ⟨x2_1, σ1⟩ := t
  have hI : Tr [220] σ0 σ1 ∧ (0 ≤ x2_1.toInt) ∧ (ZB σ1.1) := hI
  obtain ⟨hT, hI1, hB⟩ := hI
  rw [F_X12_lays_2.eq_1]
  refine ok_if (fun hc2 => ?_) (fun hc2 => ?_)
  · refine ok_gC rfl ?_
    refine ok_zbT (Q := fun V σ => 0 ≤ V.toInt ∧ V.toInt ≤ 1024) hT (s_X12_sizeOf hN (hR.tr hT) (by first | exact hM | (rw [hT.2 219 (by decide)]; exact hM)) (hB) (by first | omega | decide | (simp only [Int32.le_iff_toInt_le, Int32.lt_iff_toInt_lt, ti_add, ti_sub, ti_mul, Int32.reduceToInt] at *; omega))) (fun _ h9 => absurd h9 List.not_mem_nil) (fun v3 σ4 hOσ4 hT hqv3 => ?_)
    have hqv3 : 0 ≤ v3.toInt ∧ v3.toInt ≤ 1024 := hqv3
    have hB : ZB σ4.1 := ZB.tr hOσ4 (by decide) hB
    exact ok_some ⟨hT, (show ZB σ4.1 from by exact hB)⟩
  · refine ok_gR (v := 220) hT rfl (hR 218 2 rfl) ?_
    refine ok_gR (v := 227) hT rfl (hR 218 17 rfl) ?_
    refine ok_aIn rfl (by first | omega | decide | (simp only [Int32.le_iff_toInt_le, Int32.lt_iff_toInt_lt, ti_add, ti_sub, ti_mul, Int32.reduceToInt] at *; omega)) (by first | omega | decide | (simp only [Int32.le_iff_toInt_le, Int32.lt_iff_toInt_lt, ti_add, ti_sub, ti_mul, Int32.reduceToInt] at *; omega)) (fun v7 ev7 => ?_)
    have zv7 : v7 = 0 ∨ v7 = 1 := by rw [ev7]; exact hB 227 rfl _
    refine ok_s16 hT rfl (by decide) (by first | omega | decide | (simp only [Int32.le_iff_toInt_le, Int32.lt_iff_toInt_lt, ti_add, ti_sub, ti_mul, Int32.reduceToInt] at *; omega)) (by first | omega | decide | (simp only [Int32.le_iff_toInt_le, Int32.lt_iff_toInt_lt, ti_add, ti_sub, ti_mul, Int32.reduceToInt] at *; omega)) (fun σ8 eσ8 hOσ8 hT => ?_)
    have hB : ZB σ8.1 := ZB_s eσ8 hB
    exact ih2_1 (x2_1 + 1, σ8) (show Tr [220] σ0 σ8 ∧ (0 ≤ (x2_1 + 1).toInt) ∧ (ZB σ8.1) from ⟨hT, (by first | omega | decide | (simp only [Int32.le_iff_toInt_le, Int32.lt_iff_toInt_lt, ti_add, ti_sub, ti_mul, Int32.reduceToInt] at *; omega)), hB⟩) (show ((1024 : Int32).toInt - (x2_1 + 1).toInt).toNat < ((1024 : Int32).toInt - x2_1.toInt).toNat from (by first | omega | decide | (simp only [Int32.le_iff_toInt_le, Int32.lt_iff_toInt_lt, ti_add, ti_sub, ti_mul, Int32.reduceToInt] at *; omega)))

set_option maxHeartbeats 4000000 in
set_option maxRecDepth 100000 in
theorem s_X12_size {N : Nat} (hN : 1048576 ≤ N) {x1 : Int32} {σ0 : zS}  (hR : RF σ0.2.2) (hM : MW (σ0.1 219) 0) (hB : ZB σ0.1) : Ok (f_X12_size N 218 x1 σ0) (fun r => Tr [] σ0 r.2 ∧ (True)) := by
  have hT : Tr [] σ0 σ0 := Tr.rf
  have hn := hM.1
  have he : 0 ≤ (σ0.1 219 2).toInt ∧ (σ0.1 219 2).toInt ≤ 10 := hM.2.1
  have qm := mny_b hn.1 hn.2
  rw [f_X12_size.eq_1]
  refine ok_gC rfl ?_
  refine ok_zbT (Q := fun V σ => (V = 0 ∨ V = 1) ∧ (¬ V = 0 → 0 ≤ x1.toInt ∧ x1.toInt ≤ 9)) hT (s_X12_isRegister hN (hR.tr hT) (by first | exact hM | (rw [hT.2 219 (by decide)]; exact hM))) (fun _ h9 => absurd h9 List.not_mem_nil) (fun v1 σ2 hOσ2 hT hqv1 => ?_)
  have hqv1 : (v1 = 0 ∨ v1 = 1) ∧ (¬ v1 = 0 → 0 ≤ x1.toInt ∧ x1.toInt ≤ 9) := hqv1
  have hB : ZB σ2.1 := ZB.tr hOσ2 (by decide) hB
  refine ok_if (fun hc3 => ?_) (fun hc3 => ?_)
  · exact ok_some ⟨hT, trivial⟩
  · have qhc3 := hqv1.2 hc3
    refine ok_gC rfl ?_
    refine ok_zbT (Q := fun V σ => 0 ≤ V.toInt ∧ V.toInt ≤ 1024) hT (s_X12_sizeOf hN (hR.tr hT) (by first | exact hM | (rw [hT.2 219 (by decide)]; exact hM)) (hB) (by first | omega | decide | (simp only [Int32.le_iff_toInt_le, Int32.lt_iff_toInt_lt, ti_add, ti_sub, ti_mul, Int32.reduceToInt] at *; omega))) (fun _ h9 => absurd h9 List.not_mem_nil) (fun v4 σ5 hOσ5 hT hqv4 => ?_)
    have hqv4 : 0 ≤ v4.toInt ∧ v4.toInt ≤ 1024 := hqv4
    have hB : ZB σ5.1 := ZB.tr hOσ5 (by decide) hB
    exact ok_some ⟨hT, trivial⟩

set_option maxHeartbeats 4000000 in
set_option maxRecDepth 100000 in
theorem s_X12_has {N : Nat} (hN : 1048576 ≤ N) {x1 : Int32} {x2 : Int32} {σ0 : zS}  (hR : RF σ0.2.2) (hM : MW (σ0.1 219) 0) (hB : ZB σ0.1) : Ok (f_X12_has N 218 x1 x2 σ0) (fun r => Tr [] σ0 r.2 ∧ (True)) := by
  have hT : Tr [] σ0 σ0 := Tr.rf
  have hn := hM.1
  have he : 0 ≤ (σ0.1 219 2).toInt ∧ (σ0.1 219 2).toInt ≤ 10 := hM.2.1
  have qm := mny_b hn.1 hn.2
  rw [f_X12_has.eq_1]
  refine ok_gC rfl ?_
  refine ok_zbT (Q := fun V σ => (V = 0 ∨ V = 1) ∧ (¬ V = 0 → 0 ≤ x1.toInt ∧ x1.toInt ≤ 9)) hT (s_X12_isRegister hN (hR.tr hT) (by first | exact hM | (rw [hT.2 219 (by decide)]; exact hM))) (fun _ h9 => absurd h9 List.not_mem_nil) (fun v1 σ2 hOσ2 hT hqv1 => ?_)
  have hqv1 : (v1 = 0 ∨ v1 = 1) ∧ (¬ v1 = 0 → 0 ≤ x1.toInt ∧ x1.toInt ≤ 9) := hqv1
  have hB : ZB σ2.1 := ZB.tr hOσ2 (by decide) hB
  refine ok_if (fun hc3 => ?_) (fun hc3 => ?_)
  · exact ok_some ⟨hT, trivial⟩
  · have qhc3 := hqv1.2 hc3
    refine ok_gC rfl ?_
    have hTc := hT
    refine ok_zbT (Q := fun V σ => (V = 0 ∨ V = 1) ∧ (¬ V = 0 → 0 ≤ x2.toInt ∧ x2.toInt < (mny (σ2.1 219 0)).toInt)) hT (s_X12_isSet hN (hR.tr hT) (by first | exact hM | (rw [hT.2 219 (by decide)]; exact hM))) (fun _ h9 => absurd h9 List.not_mem_nil) (fun v4 σ5 hOσ5 hT hqv4 => ?_)
    have hqv4 : (v4 = 0 ∨ v4 = 1) ∧ (¬ v4 = 0 → 0 ≤ x2.toInt ∧ x2.toInt < (mny (σ2.1 219 0)).toInt) := hqv4
    rw [hTc.2 219 (by decide)] at hqv4
    have hB : ZB σ5.1 := ZB.tr hOσ5 (by decide) hB
    refine ok_if (fun hc6 => ?_) (fun hc6 => ?_)
    · exact ok_some ⟨hT, trivial⟩
    · have qhc6 := hqv4.2 hc6
      refine ok_gC rfl ?_
      refine ok_zbT (Q := fun V σ => V = 0 ∨ V = 1) hT (s_X12_of hN (hR.tr hT) (by first | exact hM | (rw [hT.2 219 (by decide)]; exact hM)) (hB) (by first | omega | decide | (simp only [Int32.le_iff_toInt_le, Int32.lt_iff_toInt_lt, ti_add, ti_sub, ti_mul, Int32.reduceToInt] at *; omega)) (by first | omega | decide | (simp only [Int32.le_iff_toInt_le, Int32.lt_iff_toInt_lt, ti_add, ti_sub, ti_mul, Int32.reduceToInt] at *; omega))) (fun _ h9 => absurd h9 List.not_mem_nil) (fun v7 σ8 hOσ8 hT hqv7 => ?_)
      have hqv7 : v7 = 0 ∨ v7 = 1 := hqv7
      have hB : ZB σ8.1 := ZB.tr hOσ8 (by decide) hB
      refine ok_if (fun hc9 => ?_) (fun hc9 => ?_)
      · exact ok_some ⟨hT, trivial⟩
      · exact ok_some ⟨hT, trivial⟩

set_option maxHeartbeats 4000000 in
set_option maxRecDepth 100000 in
theorem s_X12_nth {N : Nat} (hN : 1048576 ≤ N) {x1 : Int32} {x2 : Int32} {σ0 : zS}  (hR : RF σ0.2.2) (hM : MW (σ0.1 219) 0) (hB : ZB σ0.1) : Ok (f_X12_nth N 218 x1 x2 σ0) (fun r => Tr [] σ0 r.2 ∧ (True)) := by
  have hT : Tr [] σ0 σ0 := Tr.rf
  have hn := hM.1
  have he : 0 ≤ (σ0.1 219 2).toInt ∧ (σ0.1 219 2).toInt ≤ 10 := hM.2.1
  have qm := mny_b hn.1 hn.2
  rw [f_X12_nth.eq_1]
  refine ok_gC rfl ?_
  refine ok_zbT (Q := fun V σ => (V = 0 ∨ V = 1) ∧ (¬ V = 0 → 0 ≤ x1.toInt ∧ x1.toInt ≤ 9)) hT (s_X12_isRegister hN (hR.tr hT) (by first | exact hM | (rw [hT.2 219 (by decide)]; exact hM))) (fun _ h9 => absurd h9 List.not_mem_nil) (fun v1 σ2 hOσ2 hT hqv1 => ?_)
  have hqv1 : (v1 = 0 ∨ v1 = 1) ∧ (¬ v1 = 0 → 0 ≤ x1.toInt ∧ x1.toInt ≤ 9) := hqv1
  have hB : ZB σ2.1 := ZB.tr hOσ2 (by decide) hB
  refine ok_if (fun hc3 => ?_) (fun hc3 => ?_)
  · exact ok_some ⟨hT, trivial⟩
  · have qhc3 := hqv1.2 hc3
    refine ok_gC rfl ?_
    refine ok_zbT (Q := fun V σ => -1 ≤ V.toInt ∧ V.toInt ≤ 1023) hT (s_X12_nthOf hN (hR.tr hT) (by first | exact hM | (rw [hT.2 219 (by decide)]; exact hM)) (hB) (by first | omega | decide | (simp only [Int32.le_iff_toInt_le, Int32.lt_iff_toInt_lt, ti_add, ti_sub, ti_mul, Int32.reduceToInt] at *; omega))) (fun _ h9 => absurd h9 List.not_mem_nil) (fun v4 σ5 hOσ5 hT hqv4 => ?_)
    have hqv4 : -1 ≤ v4.toInt ∧ v4.toInt ≤ 1023 := hqv4
    have hB : ZB σ5.1 := ZB.tr hOσ5 (by decide) hB
    exact ok_some ⟨hT, trivial⟩

set_option maxHeartbeats 4000000 in
set_option maxRecDepth 100000 in
theorem s_X12_sets {N : Nat} (hN : 1048576 ≤ N) {x1 : Int32} {x2 : Int32} {x3 : Int32} {σ0 : zS}  (hR : RF σ0.2.2) (hM : MW (σ0.1 219) 0) (hB : ZB σ0.1) : Ok (f_X12_sets N 218 x1 x2 x3 σ0) (fun r => Tr [220] σ0 r.2 ∧ (ZB r.2.1)) := by
  have hT : Tr [220] σ0 σ0 := Tr.rf
  have hn := hM.1
  have he : 0 ≤ (σ0.1 219 2).toInt ∧ (σ0.1 219 2).toInt ≤ 10 := hM.2.1
  have qm := mny_b hn.1 hn.2
  rw [f_X12_sets.eq_1]
  refine ok_gC rfl ?_
  refine ok_zbT (Q := fun V σ => (V = 0 ∨ V = 1) ∧ (¬ V = 0 → 0 ≤ x1.toInt ∧ x1.toInt ≤ 9)) hT (s_X12_isRegister hN (hR.tr hT) (by first | exact hM | (rw [hT.2 219 (by decide)]; exact hM))) (fun _ h9 => absurd h9 List.not_mem_nil) (fun v1 σ2 hOσ2 hT hqv1 => ?_)
  have hqv1 : (v1 = 0 ∨ v1 = 1) ∧ (¬ v1 = 0 → 0 ≤ x1.toInt ∧ x1.toInt ≤ 9) := hqv1
  have hB : ZB σ2.1 := ZB.tr hOσ2 (by decide) hB
  refine ok_if (fun hc3 => ?_) (fun hc3 => ?_)
  · exact ok_some ⟨hT, (show ZB σ2.1 from by exact hB)⟩
  · have qhc3 := hqv1.2 hc3
    refine ok_gC rfl ?_
    have hTc := hT
    refine ok_zbT (Q := fun V σ => (V = 0 ∨ V = 1) ∧ (¬ V = 0 → 0 ≤ x2.toInt ∧ x2.toInt < (mny (σ2.1 219 0)).toInt)) hT (s_X12_isSet hN (hR.tr hT) (by first | exact hM | (rw [hT.2 219 (by decide)]; exact hM))) (fun _ h9 => absurd h9 List.not_mem_nil) (fun v4 σ5 hOσ5 hT hqv4 => ?_)
    have hqv4 : (v4 = 0 ∨ v4 = 1) ∧ (¬ v4 = 0 → 0 ≤ x2.toInt ∧ x2.toInt < (mny (σ2.1 219 0)).toInt) := hqv4
    rw [hTc.2 219 (by decide)] at hqv4
    have hB : ZB σ5.1 := ZB.tr hOσ5 (by decide) hB
    refine ok_if (fun hc6 => ?_) (fun hc6 => ?_)
    · exact ok_some ⟨hT, (show ZB σ5.1 from by exact hB)⟩
    · have qhc6 := hqv4.2 hc6
      refine ok_gC rfl ?_
      refine ok_zbT (Q := fun V σ => V = 0 ∨ V = 1) hT (s_X12_of hN (hR.tr hT) (by first | exact hM | (rw [hT.2 219 (by decide)]; exact hM)) (hB) (by first | omega | decide | (simp only [Int32.le_iff_toInt_le, Int32.lt_iff_toInt_lt, ti_add, ti_sub, ti_mul, Int32.reduceToInt] at *; omega)) (by first | omega | decide | (simp only [Int32.le_iff_toInt_le, Int32.lt_iff_toInt_lt, ti_add, ti_sub, ti_mul, Int32.reduceToInt] at *; omega))) (fun _ h9 => absurd h9 List.not_mem_nil) (fun v7 σ8 hOσ8 hT hqv7 => ?_)
      have hqv7 : v7 = 0 ∨ v7 = 1 := hqv7
      have hB : ZB σ8.1 := ZB.tr hOσ8 (by decide) hB
      refine ok_gR (v := 220) hT rfl (hR 218 2 rfl) ?_
      refine ok_s16 hT rfl (by decide) (by first | omega | decide | (simp only [Int32.le_iff_toInt_le, Int32.lt_iff_toInt_lt, ti_add, ti_sub, ti_mul, Int32.reduceToInt] at *; omega)) (by first | omega | decide | (simp only [Int32.le_iff_toInt_le, Int32.lt_iff_toInt_lt, ti_add, ti_sub, ti_mul, Int32.reduceToInt] at *; omega)) (fun σ10 eσ10 hOσ10 hT => ?_)
      have hB : ZB σ10.1 := ZB_s eσ10 hB
      refine ok_if (fun hc11 => ?_) (fun hc11 => ?_)
      · exact ok_some ⟨hT, (show ZB σ10.1 from by exact hB)⟩
      · exact ok_some ⟨hT, (show ZB σ10.1 from by exact hB)⟩

set_option maxHeartbeats 4000000 in
set_option maxRecDepth 100000 in
theorem s_X12_rank_ {N : Nat} (hN : 1048576 ≤ N) {x1 : Int32} {x2 : Int32} {σ0 : zS}  (hR : RF σ0.2.2) (hM : MW (σ0.1 219) 0) (hB : ZB σ0.1) : Ok (f_X12_rank_ N 218 x1 x2 σ0) (fun r => Tr [] σ0 r.2 ∧ (True)) := by
  have hT : Tr [] σ0 σ0 := Tr.rf
  have hn := hM.1
  have he : 0 ≤ (σ0.1 219 2).toInt ∧ (σ0.1 219 2).toInt ≤ 10 := hM.2.1
  have qm := mny_b hn.1 hn.2
  rw [f_X12_rank_.eq_1]
  refine ok_gC rfl ?_
  refine ok_zbT (Q := fun V σ => (V = 0 ∨ V = 1) ∧ (¬ V = 0 → 0 ≤ x1.toInt ∧ x1.toInt ≤ 9)) hT (s_X12_isRegister hN (hR.tr hT) (by first | exact hM | (rw [hT.2 219 (by decide)]; exact hM))) (fun _ h9 => absurd h9 List.not_mem_nil) (fun v1 σ2 hOσ2 hT hqv1 => ?_)
  have hqv1 : (v1 = 0 ∨ v1 = 1) ∧ (¬ v1 = 0 → 0 ≤ x1.toInt ∧ x1.toInt ≤ 9) := hqv1
  have hB : ZB σ2.1 := ZB.tr hOσ2 (by decide) hB
  refine ok_if (fun hc3 => ?_) (fun hc3 => ?_)
  · exact ok_some ⟨hT, trivial⟩
  · have qhc3 := hqv1.2 hc3
    refine ok_gC rfl ?_
    have hTc := hT
    refine ok_zbT (Q := fun V σ => (V = 0 ∨ V = 1) ∧ (¬ V = 0 → 0 ≤ x2.toInt ∧ x2.toInt < (mny (σ2.1 219 0)).toInt)) hT (s_X12_isSet hN (hR.tr hT) (by first | exact hM | (rw [hT.2 219 (by decide)]; exact hM))) (fun _ h9 => absurd h9 List.not_mem_nil) (fun v4 σ5 hOσ5 hT hqv4 => ?_)
    have hqv4 : (v4 = 0 ∨ v4 = 1) ∧ (¬ v4 = 0 → 0 ≤ x2.toInt ∧ x2.toInt < (mny (σ2.1 219 0)).toInt) := hqv4
    rw [hTc.2 219 (by decide)] at hqv4
    have hB : ZB σ5.1 := ZB.tr hOσ5 (by decide) hB
    refine ok_if (fun hc6 => ?_) (fun hc6 => ?_)
    · exact ok_some ⟨hT, trivial⟩
    · have qhc6 := hqv4.2 hc6
      refine ok_lp (fun t : Int32 × Int32 × zS => Tr [] σ0 (t.2.2) ∧ (0 ≤ (t.2.1).toInt) ∧ (ZB (t.2.2).1)) (fun t : Int32 × Int32 × zS => (1024 - (t.2.1).toInt).toNat) (fun again7 t hI ih24_7 => ?_) N _ (show Tr [] σ0 σ5 ∧ (0 ≤ (0 : Int32).toInt) ∧ (ZB σ5.1) from ⟨hT, (by first | omega | decide | (simp only [Int32.le_iff_toInt_le, Int32.lt_iff_toInt_lt, ti_add, ti_sub, ti_mul, Int32.reduceToInt] at *; omega)), hB⟩) (show (1024 - (0 : Int32).toInt).toNat < N from (by first | omega | decide | (simp only [Int32.le_iff_toInt_le, Int32.lt_iff_toInt_lt, ti_add, ti_sub, ti_mul, Int32.reduceToInt] at *; omega)))
      obtain ⟨x3_7, x4_7, σ7⟩ := t
      have hI : Tr [] σ0 σ7 ∧ (0 ≤ x4_7.toInt) ∧ (ZB σ7.1) := hI
      obtain ⟨hT, hI7, hB⟩ := hI
      rw [F_X12_rank__24.eq_1]
      refine ok_if (fun hc8 => ?_) (fun hc8 => ?_)
      · exact ok_some ⟨hT, trivial⟩
      · refine ok_gC rfl ?_
        refine ok_zbT (Q := fun V σ => V = 0 ∨ V = 1) hT (s_X12_of hN (hR.tr hT) (by first | exact hM | (rw [hT.2 219 (by decide)]; exact hM)) (hB) (by first | omega | decide | (simp only [Int32.le_iff_toInt_le, Int32.lt_iff_toInt_lt, ti_add, ti_sub, ti_mul, Int32.reduceToInt] at *; omega)) (by first | omega | decide | (simp only [Int32.le_iff_toInt_le, Int32.lt_iff_toInt_lt, ti_add, ti_sub, ti_mul, Int32.reduceToInt] at *; omega))) (fun _ h9 => absurd h9 List.not_mem_nil) (fun v9 σ10 hOσ10 hT hqv9 => ?_)
        have hqv9 : v9 = 0 ∨ v9 = 1 := hqv9
        have hB : ZB σ10.1 := ZB.tr hOσ10 (by decide) hB
        refine ok_if (fun hc11 => ?_) (fun hc11 => ?_)
        · exact ih24_7 (x3_7 + 0, x4_7 + 1, σ10) (show Tr [] σ0 σ10 ∧ (0 ≤ (x4_7 + 1).toInt) ∧ (ZB σ10.1) from ⟨hT, (by first | omega | decide | (simp only [Int32.le_iff_toInt_le, Int32.lt_iff_toInt_lt, ti_add, ti_sub, ti_mul, Int32.reduceToInt] at *; omega)), hB⟩) (show (1024 - (x4_7 + 1).toInt).toNat < (1024 - x4_7.toInt).toNat from (by first | omega | decide | (simp only [Int32.le_iff_toInt_le, Int32.lt_iff_toInt_lt, ti_add, ti_sub, ti_mul, Int32.reduceToInt] at *; omega)))
        · exact ih24_7 (x3_7 + 1, x4_7 + 1, σ10) (show Tr [] σ0 σ10 ∧ (0 ≤ (x4_7 + 1).toInt) ∧ (ZB σ10.1) from ⟨hT, (by first | omega | decide | (simp only [Int32.le_iff_toInt_le, Int32.lt_iff_toInt_lt, ti_add, ti_sub, ti_mul, Int32.reduceToInt] at *; omega)), hB⟩) (show (1024 - (x4_7 + 1).toInt).toNat < (1024 - x4_7.toInt).toNat from (by first | omega | decide | (simp only [Int32.le_iff_toInt_le, Int32.lt_iff_toInt_lt, ti_add, ti_sub, ti_mul, Int32.reduceToInt] at *; omega)))

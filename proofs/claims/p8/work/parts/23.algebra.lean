set_option maxHeartbeats 4000000 in
set_option maxRecDepth 100000 in
theorem s_X0_setsOf {N : Nat} (hN : 1048576 ≤ N) {x0 : Int32} {σ0 : zS}  (hR : RF σ0.2.2)  : Ok (f_X0_setsOf N x0 σ0) (fun r => Tr [] σ0 r.2 ∧ (1 ≤ r.1.toInt ∧ r.1.toInt ≤ 1024)) := by
  have hT : Tr [] σ0 σ0 := Tr.rf
  rw [f_X0_setsOf.eq_1]
  exact ok_some ⟨hT, (show 1 ≤ ((1 : Int32) <<< ((zmax 0 (zmin 10 x0)) &&& 31)).toInt ∧ ((1 : Int32) <<< ((zmax 0 (zmin 10 x0)) &&& 31)).toInt ≤ 1024 from by exact ti_one10 (ti_mm x0).1 (ti_mm x0).2)⟩

set_option maxHeartbeats 4000000 in
set_option maxRecDepth 100000 in
theorem s_X0_raiseAll {N : Nat} (hN : 1048576 ≤ N) {x1 : Nat} {x2 : Int32} {σ0 : zS}  (hR : RF σ0.2.2) (h_x1 : (zKd x1).1 = 2) (hn : x2.toInt ≤ 100) : Ok (f_X0_raiseAll N 99 x1 x2 σ0) (fun r => Tr [] σ0 r.2 ∧ (True)) := by
  have hT : Tr [] σ0 σ0 := Tr.rf
  rw [f_X0_raiseAll.eq_1]
  refine ok_lp (fun t : Int32 × zS => Tr [] σ0 (t.2) ∧ (0 ≤ (t.1).toInt)) (fun t : Int32 × zS => (x2.toInt - (t.1).toInt).toNat) (fun again1 t hI ih2_1 => ?_) N _ (show Tr [] σ0 σ0 ∧ (0 ≤ (0 : Int32).toInt) from ⟨hT, (by first | omega | decide | (simp only [Int32.le_iff_toInt_le, Int32.lt_iff_toInt_lt, ti_add, ti_sub, ti_mul, Int32.reduceToInt] at *; omega))⟩) (show (x2.toInt - (0 : Int32).toInt).toNat < N from (by first | omega | decide | (simp only [Int32.le_iff_toInt_le, Int32.lt_iff_toInt_lt, ti_add, ti_sub, ti_mul, Int32.reduceToInt] at *; omega)))
  obtain ⟨x3_1, σ1⟩ := t
  have hI : Tr [] σ0 σ1 ∧ (0 ≤ x3_1.toInt) := hI
  obtain ⟨hT, hI1⟩ := hI
  rw [F_X0_raiseAll_2.eq_1]
  refine ok_if (fun hc2 => ?_) (fun hc2 => ?_)
  · exact ok_some ⟨hT, trivial⟩
  · refine ok_gC h_x1 ?_
    refine ok_zbT (Q := fun V σ => True) hT (s_X2_raise hN (hR.tr hT) h_x1) (fun _ h9 => absurd h9 List.not_mem_nil) (fun v3 σ4 hOσ4 hT hqv3 => ?_)
    exact ih2_1 (x3_1 + 1, σ4) (show Tr [] σ0 σ4 ∧ (0 ≤ (x3_1 + 1).toInt) from ⟨hT, (by first | omega | decide | (simp only [Int32.le_iff_toInt_le, Int32.lt_iff_toInt_lt, ti_add, ti_sub, ti_mul, Int32.reduceToInt] at *; omega))⟩) (show (x2.toInt - (x3_1 + 1).toInt).toNat < (x2.toInt - x3_1.toInt).toNat from (by first | omega | decide | (simp only [Int32.le_iff_toInt_le, Int32.lt_iff_toInt_lt, ti_add, ti_sub, ti_mul, Int32.reduceToInt] at *; omega)))

set_option maxHeartbeats 4000000 in
set_option maxRecDepth 100000 in
theorem s_X0_lowerAll {N : Nat} (hN : 1048576 ≤ N) {x1 : Nat} {x2 : Int32} {σ0 : zS}  (hR : RF σ0.2.2) (h_x1 : (zKd x1).1 = 2) (hn : x2.toInt ≤ 100) : Ok (f_X0_lowerAll N 99 x1 x2 σ0) (fun r => Tr [] σ0 r.2 ∧ (True)) := by
  have hT : Tr [] σ0 σ0 := Tr.rf
  rw [f_X0_lowerAll.eq_1]
  refine ok_lp (fun t : Int32 × zS => Tr [] σ0 (t.2) ∧ (0 ≤ (t.1).toInt)) (fun t : Int32 × zS => (x2.toInt - (t.1).toInt).toNat) (fun again1 t hI ih2_1 => ?_) N _ (show Tr [] σ0 σ0 ∧ (0 ≤ (0 : Int32).toInt) from ⟨hT, (by first | omega | decide | (simp only [Int32.le_iff_toInt_le, Int32.lt_iff_toInt_lt, ti_add, ti_sub, ti_mul, Int32.reduceToInt] at *; omega))⟩) (show (x2.toInt - (0 : Int32).toInt).toNat < N from (by first | omega | decide | (simp only [Int32.le_iff_toInt_le, Int32.lt_iff_toInt_lt, ti_add, ti_sub, ti_mul, Int32.reduceToInt] at *; omega)))
  obtain ⟨x3_1, σ1⟩ := t
  have hI : Tr [] σ0 σ1 ∧ (0 ≤ x3_1.toInt) := hI
  obtain ⟨hT, hI1⟩ := hI
  rw [F_X0_lowerAll_2.eq_1]
  refine ok_if (fun hc2 => ?_) (fun hc2 => ?_)
  · exact ok_some ⟨hT, trivial⟩
  · refine ok_gC h_x1 ?_
    refine ok_zbT (Q := fun V σ => True) hT (s_X2_lower hN (hR.tr hT) h_x1) (fun _ h9 => absurd h9 List.not_mem_nil) (fun v3 σ4 hOσ4 hT hqv3 => ?_)
    exact ih2_1 (x3_1 + 1, σ4) (show Tr [] σ0 σ4 ∧ (0 ≤ (x3_1 + 1).toInt) from ⟨hT, (by first | omega | decide | (simp only [Int32.le_iff_toInt_le, Int32.lt_iff_toInt_lt, ti_add, ti_sub, ti_mul, Int32.reduceToInt] at *; omega))⟩) (show (x2.toInt - (x3_1 + 1).toInt).toNat < (x2.toInt - x3_1.toInt).toNat from (by first | omega | decide | (simp only [Int32.le_iff_toInt_le, Int32.lt_iff_toInt_lt, ti_add, ti_sub, ti_mul, Int32.reduceToInt] at *; omega)))

set_option maxHeartbeats 4000000 in
set_option maxRecDepth 100000 in
theorem s_X0_becomeMissing {N : Nat} (hN : 1048576 ≤ N) {x1 : Nat} {x2 : Int32} {σ0 : zS}  (hR : RF σ0.2.2) (h_x1 : (zKd x1).1 = 2) (hn : x2.toInt ≤ 100) : Ok (f_X0_becomeMissing N 99 x1 x2 σ0) (fun r => Tr [] σ0 r.2 ∧ (True)) := by
  have hT : Tr [] σ0 σ0 := Tr.rf
  rw [f_X0_becomeMissing.eq_1]
  refine ok_gC rfl ?_
  refine ok_zbT (Q := fun V σ => True) hT (s_X0_raiseAll hN (hR.tr hT) h_x1 (by first | omega | decide | (simp only [Int32.le_iff_toInt_le, Int32.lt_iff_toInt_lt, ti_add, ti_sub, ti_mul, Int32.reduceToInt] at *; omega))) (fun _ h9 => absurd h9 List.not_mem_nil) (fun v1 σ2 hOσ2 hT hqv1 => ?_)
  refine ok_lp (fun t : Int32 × zS => Tr [] σ0 (t.2) ∧ (0 ≤ (t.1).toInt)) (fun t : Int32 × zS => (x2.toInt - (t.1).toInt).toNat) (fun again3 t hI ih8_3 => ?_) N _ (show Tr [] σ0 σ2 ∧ (0 ≤ (0 : Int32).toInt) from ⟨hT, (by first | omega | decide | (simp only [Int32.le_iff_toInt_le, Int32.lt_iff_toInt_lt, ti_add, ti_sub, ti_mul, Int32.reduceToInt] at *; omega))⟩) (show (x2.toInt - (0 : Int32).toInt).toNat < N from (by first | omega | decide | (simp only [Int32.le_iff_toInt_le, Int32.lt_iff_toInt_lt, ti_add, ti_sub, ti_mul, Int32.reduceToInt] at *; omega)))
  obtain ⟨x3_3, σ3⟩ := t
  have hI : Tr [] σ0 σ3 ∧ (0 ≤ x3_3.toInt) := hI
  obtain ⟨hT, hI3⟩ := hI
  rw [F_X0_becomeMissing_8.eq_1]
  refine ok_if (fun hc4 => ?_) (fun hc4 => ?_)
  · exact ok_some ⟨hT, trivial⟩
  · refine ok_gC h_x1 ?_
    refine ok_zbT (Q := fun V σ => True) hT (s_X2_flip hN (hR.tr hT) h_x1) (fun _ h9 => absurd h9 List.not_mem_nil) (fun v5 σ6 hOσ6 hT hqv5 => ?_)
    exact ih8_3 (x3_3 + 1, σ6) (show Tr [] σ0 σ6 ∧ (0 ≤ (x3_3 + 1).toInt) from ⟨hT, (by first | omega | decide | (simp only [Int32.le_iff_toInt_le, Int32.lt_iff_toInt_lt, ti_add, ti_sub, ti_mul, Int32.reduceToInt] at *; omega))⟩) (show (x2.toInt - (x3_3 + 1).toInt).toNat < (x2.toInt - x3_3.toInt).toNat from (by first | omega | decide | (simp only [Int32.le_iff_toInt_le, Int32.lt_iff_toInt_lt, ti_add, ti_sub, ti_mul, Int32.reduceToInt] at *; omega)))

set_option maxHeartbeats 4000000 in
set_option maxRecDepth 100000 in
theorem s_X0_keepLeast {N : Nat} (hN : 1048576 ≤ N) {x1 : Nat} {x2 : Int32} {σ0 : zS}  (hR : RF σ0.2.2) (h_x1 : (zKd x1).1 = 2) (hn : x2.toInt ≤ 100) : Ok (f_X0_keepLeast N 99 x1 x2 σ0) (fun r => Tr [] σ0 r.2 ∧ (True)) := by
  have hT : Tr [] σ0 σ0 := Tr.rf
  rw [f_X0_keepLeast.eq_1]
  refine ok_gR (v := 100) hT rfl (hR 99 0 rfl) ?_
  refine ok_gC rfl ?_
  refine ok_zbT (Q := fun V σ => True) hT (s_X2_clear hN (hR.tr hT) rfl) (fun _ h9 => absurd h9 List.not_mem_nil) (fun v2 σ3 hOσ3 hT hqv2 => ?_)
  refine ok_lp (fun t : Int32 × zS => Tr [] σ0 (t.2) ∧ (0 ≤ (t.1).toInt)) (fun t : Int32 × zS => (x2.toInt - (t.1).toInt).toNat) (fun again4 t hI ih9_4 => ?_) N _ (show Tr [] σ0 σ3 ∧ (0 ≤ (0 : Int32).toInt) from ⟨hT, (by first | omega | decide | (simp only [Int32.le_iff_toInt_le, Int32.lt_iff_toInt_lt, ti_add, ti_sub, ti_mul, Int32.reduceToInt] at *; omega))⟩) (show (x2.toInt - (0 : Int32).toInt).toNat < N from (by first | omega | decide | (simp only [Int32.le_iff_toInt_le, Int32.lt_iff_toInt_lt, ti_add, ti_sub, ti_mul, Int32.reduceToInt] at *; omega)))
  obtain ⟨x3_4, σ4⟩ := t
  have hI : Tr [] σ0 σ4 ∧ (0 ≤ x3_4.toInt) := hI
  obtain ⟨hT, hI4⟩ := hI
  rw [F_X0_keepLeast_9.eq_1]
  refine ok_if (fun hc5 => ?_) (fun hc5 => ?_)
  · refine ok_gR (v := 100) hT rfl (hR 99 0 rfl) ?_
    refine ok_gC rfl ?_
    refine ok_zbT (Q := fun V σ => True) hT (s_X0_raiseAll hN (hR.tr hT) rfl (by first | omega | decide | (simp only [Int32.le_iff_toInt_le, Int32.lt_iff_toInt_lt, ti_add, ti_sub, ti_mul, Int32.reduceToInt] at *; omega))) (fun _ h9 => absurd h9 List.not_mem_nil) (fun v7 σ8 hOσ8 hT hqv7 => ?_)
    refine ok_gR (v := 100) hT rfl (hR 99 0 rfl) ?_
    refine ok_gC h_x1 ?_
    refine ok_zbT (Q := fun V σ => True) hT (s_X2_takeAway hN (hR.tr hT) h_x1 rfl) (fun _ h9 => absurd h9 List.not_mem_nil) (fun v10 σ11 hOσ11 hT hqv10 => ?_)
    exact ok_some ⟨hT, trivial⟩
  · refine ok_gR (v := 102) hT rfl (hR 99 1 rfl) ?_
    refine ok_gC rfl ?_
    refine ok_zbT (Q := fun V σ => True) hT (s_X2_copyFrom hN (hR.tr hT) rfl h_x1) (fun _ h9 => absurd h9 List.not_mem_nil) (fun v13 σ14 hOσ14 hT hqv13 => ?_)
    refine ok_gR (v := 102) hT rfl (hR 99 1 rfl) ?_
    refine ok_gC rfl ?_
    refine ok_zbT (Q := fun V σ => True) hT (s_X2_keepWithout hN (hR.tr hT) rfl) (fun _ h9 => absurd h9 List.not_mem_nil) (fun v16 σ17 hOσ17 hT hqv16 => ?_)
    refine ok_gR (v := 102) hT rfl (hR 99 1 rfl) ?_
    refine ok_gC rfl ?_
    refine ok_zbT (Q := fun V σ => True) hT (s_X2_flip hN (hR.tr hT) rfl) (fun _ h9 => absurd h9 List.not_mem_nil) (fun v19 σ20 hOσ20 hT hqv19 => ?_)
    refine ok_gR (v := 100) hT rfl (hR 99 0 rfl) ?_
    refine ok_gR (v := 102) hT rfl (hR 99 1 rfl) ?_
    refine ok_gC rfl ?_
    refine ok_zbT (Q := fun V σ => True) hT (s_X2_join hN (hR.tr hT) rfl rfl) (fun _ h9 => absurd h9 List.not_mem_nil) (fun v23 σ24 hOσ24 hT hqv23 => ?_)
    exact ih9_4 (x3_4 + 1, σ24) (show Tr [] σ0 σ24 ∧ (0 ≤ (x3_4 + 1).toInt) from ⟨hT, (by first | omega | decide | (simp only [Int32.le_iff_toInt_le, Int32.lt_iff_toInt_lt, ti_add, ti_sub, ti_mul, Int32.reduceToInt] at *; omega))⟩) (show (x2.toInt - (x3_4 + 1).toInt).toNat < (x2.toInt - x3_4.toInt).toNat from (by first | omega | decide | (simp only [Int32.le_iff_toInt_le, Int32.lt_iff_toInt_lt, ti_add, ti_sub, ti_mul, Int32.reduceToInt] at *; omega)))

set_option maxHeartbeats 4000000 in
set_option maxRecDepth 100000 in
theorem s_X0_keepGreatest {N : Nat} (hN : 1048576 ≤ N) {x1 : Nat} {x2 : Int32} {σ0 : zS}  (hR : RF σ0.2.2) (h_x1 : (zKd x1).1 = 2) (hn : x2.toInt ≤ 100) : Ok (f_X0_keepGreatest N 99 x1 x2 σ0) (fun r => Tr [] σ0 r.2 ∧ (True)) := by
  have hT : Tr [] σ0 σ0 := Tr.rf
  rw [f_X0_keepGreatest.eq_1]
  refine ok_gR (v := 100) hT rfl (hR 99 0 rfl) ?_
  refine ok_gC rfl ?_
  refine ok_zbT (Q := fun V σ => True) hT (s_X2_clear hN (hR.tr hT) rfl) (fun _ h9 => absurd h9 List.not_mem_nil) (fun v2 σ3 hOσ3 hT hqv2 => ?_)
  refine ok_lp (fun t : Int32 × zS => Tr [] σ0 (t.2) ∧ (0 ≤ (t.1).toInt)) (fun t : Int32 × zS => (x2.toInt - (t.1).toInt).toNat) (fun again4 t hI ih9_4 => ?_) N _ (show Tr [] σ0 σ3 ∧ (0 ≤ (0 : Int32).toInt) from ⟨hT, (by first | omega | decide | (simp only [Int32.le_iff_toInt_le, Int32.lt_iff_toInt_lt, ti_add, ti_sub, ti_mul, Int32.reduceToInt] at *; omega))⟩) (show (x2.toInt - (0 : Int32).toInt).toNat < N from (by first | omega | decide | (simp only [Int32.le_iff_toInt_le, Int32.lt_iff_toInt_lt, ti_add, ti_sub, ti_mul, Int32.reduceToInt] at *; omega)))
  obtain ⟨x3_4, σ4⟩ := t
  have hI : Tr [] σ0 σ4 ∧ (0 ≤ x3_4.toInt) := hI
  obtain ⟨hT, hI4⟩ := hI
  rw [F_X0_keepGreatest_9.eq_1]
  refine ok_if (fun hc5 => ?_) (fun hc5 => ?_)
  · refine ok_gR (v := 100) hT rfl (hR 99 0 rfl) ?_
    refine ok_gC rfl ?_
    refine ok_zbT (Q := fun V σ => True) hT (s_X0_lowerAll hN (hR.tr hT) rfl (by first | omega | decide | (simp only [Int32.le_iff_toInt_le, Int32.lt_iff_toInt_lt, ti_add, ti_sub, ti_mul, Int32.reduceToInt] at *; omega))) (fun _ h9 => absurd h9 List.not_mem_nil) (fun v7 σ8 hOσ8 hT hqv7 => ?_)
    refine ok_gR (v := 100) hT rfl (hR 99 0 rfl) ?_
    refine ok_gC h_x1 ?_
    refine ok_zbT (Q := fun V σ => True) hT (s_X2_takeAway hN (hR.tr hT) h_x1 rfl) (fun _ h9 => absurd h9 List.not_mem_nil) (fun v10 σ11 hOσ11 hT hqv10 => ?_)
    exact ok_some ⟨hT, trivial⟩
  · refine ok_gR (v := 102) hT rfl (hR 99 1 rfl) ?_
    refine ok_gC rfl ?_
    refine ok_zbT (Q := fun V σ => True) hT (s_X2_copyFrom hN (hR.tr hT) rfl h_x1) (fun _ h9 => absurd h9 List.not_mem_nil) (fun v13 σ14 hOσ14 hT hqv13 => ?_)
    refine ok_gR (v := 102) hT rfl (hR 99 1 rfl) ?_
    refine ok_gC rfl ?_
    refine ok_zbT (Q := fun V σ => True) hT (s_X2_flip hN (hR.tr hT) rfl) (fun _ h9 => absurd h9 List.not_mem_nil) (fun v16 σ17 hOσ17 hT hqv16 => ?_)
    refine ok_gR (v := 102) hT rfl (hR 99 1 rfl) ?_
    refine ok_gC rfl ?_
    refine ok_zbT (Q := fun V σ => True) hT (s_X2_keepWithout hN (hR.tr hT) rfl) (fun _ h9 => absurd h9 List.not_mem_nil) (fun v19 σ20 hOσ20 hT hqv19 => ?_)
    refine ok_gR (v := 100) hT rfl (hR 99 0 rfl) ?_
    refine ok_gR (v := 102) hT rfl (hR 99 1 rfl) ?_
    refine ok_gC rfl ?_
    refine ok_zbT (Q := fun V σ => True) hT (s_X2_join hN (hR.tr hT) rfl rfl) (fun _ h9 => absurd h9 List.not_mem_nil) (fun v23 σ24 hOσ24 hT hqv23 => ?_)
    exact ih9_4 (x3_4 + 1, σ24) (show Tr [] σ0 σ24 ∧ (0 ≤ (x3_4 + 1).toInt) from ⟨hT, (by first | omega | decide | (simp only [Int32.le_iff_toInt_le, Int32.lt_iff_toInt_lt, ti_add, ti_sub, ti_mul, Int32.reduceToInt] at *; omega))⟩) (show (x2.toInt - (x3_4 + 1).toInt).toNat < (x2.toInt - x3_4.toInt).toNat from (by first | omega | decide | (simp only [Int32.le_iff_toInt_le, Int32.lt_iff_toInt_lt, ti_add, ti_sub, ti_mul, Int32.reduceToInt] at *; omega)))

set_option maxHeartbeats 4000000 in
set_option maxRecDepth 100000 in
theorem s_X0_complement {N : Nat} (hN : 1048576 ≤ N) {x1 : Nat} {x2 : Int32} {σ0 : zS}  (hR : RF σ0.2.2) (h_x1 : (zKd x1).1 = 2) : Ok (f_X0_complement N 99 x1 x2 σ0) (fun r => Tr [] σ0 r.2 ∧ (True)) := by
  have hT : Tr [] σ0 σ0 := Tr.rf
  rw [f_X0_complement.eq_1]
  refine ok_gR (v := 100) hT rfl (hR 99 0 rfl) ?_
  refine ok_gC rfl ?_
  refine ok_zbT (Q := fun V σ => True) hT (s_X2_becomeAll hN (hR.tr hT) rfl) (fun _ h9 => absurd h9 List.not_mem_nil) (fun v2 σ3 hOσ3 hT hqv2 => ?_)
  refine ok_gR (v := 100) hT rfl (hR 99 0 rfl) ?_
  refine ok_gC rfl ?_
  refine ok_zbT (Q := fun V σ => True) hT (s_X2_takeAway hN (hR.tr hT) rfl h_x1) (fun _ h9 => absurd h9 List.not_mem_nil) (fun v5 σ6 hOσ6 hT hqv5 => ?_)
  refine ok_gR (v := 100) hT rfl (hR 99 0 rfl) ?_
  refine ok_gC h_x1 ?_
  refine ok_zbT (Q := fun V σ => True) hT (s_X2_copyFrom hN (hR.tr hT) h_x1 rfl) (fun _ h9 => absurd h9 List.not_mem_nil) (fun v8 σ9 hOσ9 hT hqv8 => ?_)
  exact ok_some ⟨hT, trivial⟩

set_option maxHeartbeats 4000000 in
set_option maxRecDepth 100000 in
theorem s_X0_countBelow_106 {N : Nat} (hN : 1048576 ≤ N) {x1 : Nat} {x3 : Int32} {σ0 : zS}  (hR : RF σ0.2.2) (h_x1 : (zKd x1).1 = 2) : Ok (f_X0_countBelow N 99 x1 106 x3 σ0) (fun r => Tr [106] σ0 r.2 ∧ (True)) := by
  have hT : Tr [106] σ0 σ0 := Tr.rf
  rw [f_X0_countBelow.eq_1]
  refine ok_zbT (Q := fun V σ => 1 ≤ V.toInt ∧ V.toInt ≤ 1024) hT (s_X0_setsOf hN (hR.tr hT) ) (fun _ h9 => absurd h9 List.not_mem_nil) (fun v1 σ2 hOσ2 hT hqv1 => ?_)
  have hqv1 : 1 ≤ v1.toInt ∧ v1.toInt ≤ 1024 := hqv1
  refine ok_lp (fun t : Int32 × zS => Tr [106] σ0 (t.2) ∧ (0 ≤ (t.1).toInt)) (fun t : Int32 × zS => (v1.toInt - (t.1).toInt).toNat) (fun again3 t hI ih9_3 => ?_) N _ (show Tr [106] σ0 σ2 ∧ (0 ≤ (0 : Int32).toInt) from ⟨hT, (by first | omega | decide | (simp only [Int32.le_iff_toInt_le, Int32.lt_iff_toInt_lt, ti_add, ti_sub, ti_mul, Int32.reduceToInt] at *; omega))⟩) (show (v1.toInt - (0 : Int32).toInt).toNat < N from (by first | omega | decide | (simp only [Int32.le_iff_toInt_le, Int32.lt_iff_toInt_lt, ti_add, ti_sub, ti_mul, Int32.reduceToInt] at *; omega)))
  obtain ⟨x5_3, σ3⟩ := t
  have hI : Tr [106] σ0 σ3 ∧ (0 ≤ x5_3.toInt) := hI
  obtain ⟨hT, hI3⟩ := hI
  rw [F_X0_countBelow_9.eq_1]
  refine ok_if (fun hc4 => ?_) (fun hc4 => ?_)
  · refine ok_lp (fun t : Int32 × zS => Tr [106] σ0 (t.2) ∧ (1 ≤ (t.1).toInt ∧ (t.1).toInt ≤ 2048)) (fun t : Int32 × zS => (4096 - (t.1).toInt).toNat) (fun again5 t hI ih43_5 => ?_) N _ (show Tr [106] σ0 σ3 ∧ (1 ≤ (1 : Int32).toInt ∧ (1 : Int32).toInt ≤ 2048) from ⟨hT, (by first | omega | decide | (simp only [Int32.le_iff_toInt_le, Int32.lt_iff_toInt_lt, ti_add, ti_sub, ti_mul, Int32.reduceToInt] at *; omega))⟩) (show (4096 - (1 : Int32).toInt).toNat < N from (by first | omega | decide | (simp only [Int32.le_iff_toInt_le, Int32.lt_iff_toInt_lt, ti_add, ti_sub, ti_mul, Int32.reduceToInt] at *; omega)))
    obtain ⟨x5_5, σ5⟩ := t
    have hI : Tr [106] σ0 σ5 ∧ (1 ≤ x5_5.toInt ∧ x5_5.toInt ≤ 2048) := hI
    obtain ⟨hT, hI5⟩ := hI
    rw [F_X0_countBelow_43.eq_1]
    refine ok_if (fun hc6 => ?_) (fun hc6 => ?_)
    · exact ok_some ⟨hT, trivial⟩
    · refine ok_lp (fun t : Int32 × zS => Tr [106] σ0 (t.2) ∧ (x5_5.toInt ≤ (t.1).toInt)) (fun t : Int32 × zS => (v1.toInt - (t.1).toInt).toNat) (fun again7 t hI ih54_7 => ?_) N _ (show Tr [106] σ0 σ5 ∧ (x5_5.toInt ≤ x5_5.toInt) from ⟨hT, (by first | omega | decide | (simp only [Int32.le_iff_toInt_le, Int32.lt_iff_toInt_lt, ti_add, ti_sub, ti_mul, Int32.reduceToInt] at *; omega))⟩) (show (v1.toInt - x5_5.toInt).toNat < N from (by first | omega | decide | (simp only [Int32.le_iff_toInt_le, Int32.lt_iff_toInt_lt, ti_add, ti_sub, ti_mul, Int32.reduceToInt] at *; omega)))
      obtain ⟨x6_7, σ7⟩ := t
      have hI : Tr [106] σ0 σ7 ∧ (x5_5.toInt ≤ x6_7.toInt) := hI
      obtain ⟨hT, hI7⟩ := hI
      rw [F_X0_countBelow_54.eq_1]
      refine ok_if (fun hc8 => ?_) (fun hc8 => ?_)
      · have q1 := ti_shl1 (x := x5_5) (by omega) (by omega)
        exact ih43_5 ((x5_5 : Int32) <<< (1 &&& 31), σ7) (show Tr [106] σ0 σ7 ∧ (1 ≤ ((x5_5 : Int32) <<< (1 &&& 31)).toInt ∧ ((x5_5 : Int32) <<< (1 &&& 31)).toInt ≤ 2048) from ⟨hT, (by first | omega | decide | (simp only [Int32.le_iff_toInt_le, Int32.lt_iff_toInt_lt, ti_add, ti_sub, ti_mul, Int32.reduceToInt] at *; omega))⟩) (show (4096 - ((x5_5 : Int32) <<< (1 &&& 31)).toInt).toNat < (4096 - x5_5.toInt).toNat from (by first | omega | decide | (simp only [Int32.le_iff_toInt_le, Int32.lt_iff_toInt_lt, ti_add, ti_sub, ti_mul, Int32.reduceToInt] at *; omega)))
      · refine ok_if (fun hc9 => ?_) (fun hc9 => ?_)
        · exact ih54_7 (x6_7 + 1, σ7) (show Tr [106] σ0 σ7 ∧ (x5_5.toInt ≤ (x6_7 + 1).toInt) from ⟨hT, (by first | omega | decide | (simp only [Int32.le_iff_toInt_le, Int32.lt_iff_toInt_lt, ti_add, ti_sub, ti_mul, Int32.reduceToInt] at *; omega))⟩) (show (v1.toInt - (x6_7 + 1).toInt).toNat < (v1.toInt - x6_7.toInt).toNat from (by first | omega | decide | (simp only [Int32.le_iff_toInt_le, Int32.lt_iff_toInt_lt, ti_add, ti_sub, ti_mul, Int32.reduceToInt] at *; omega)))
        · refine ok_aIn rfl (by first | omega | decide | (simp only [Int32.le_iff_toInt_le, Int32.lt_iff_toInt_lt, ti_add, ti_sub, ti_mul, Int32.reduceToInt] at *; omega)) (by first | omega | decide | (simp only [Int32.le_iff_toInt_le, Int32.lt_iff_toInt_lt, ti_add, ti_sub, ti_mul, Int32.reduceToInt] at *; omega)) (fun v10 ev10 => ?_)
          refine ok_aIn rfl (by first | omega | decide | (simp only [Int32.le_iff_toInt_le, Int32.lt_iff_toInt_lt, ti_add, ti_sub, ti_mul, Int32.reduceToInt] at *; omega)) (by first | omega | decide | (simp only [Int32.le_iff_toInt_le, Int32.lt_iff_toInt_lt, ti_add, ti_sub, ti_mul, Int32.reduceToInt] at *; omega)) (fun v11 ev11 => ?_)
          refine ok_s14 hT rfl (by decide) (by first | omega | decide | (simp only [Int32.le_iff_toInt_le, Int32.lt_iff_toInt_lt, ti_add, ti_sub, ti_mul, Int32.reduceToInt] at *; omega)) (by first | omega | decide | (simp only [Int32.le_iff_toInt_le, Int32.lt_iff_toInt_lt, ti_add, ti_sub, ti_mul, Int32.reduceToInt] at *; omega)) (fun σ12 eσ12 hOσ12 hT => ?_)
          exact ih54_7 (x6_7 + 1, σ12) (show Tr [106] σ0 σ12 ∧ (x5_5.toInt ≤ (x6_7 + 1).toInt) from ⟨hT, (by first | omega | decide | (simp only [Int32.le_iff_toInt_le, Int32.lt_iff_toInt_lt, ti_add, ti_sub, ti_mul, Int32.reduceToInt] at *; omega))⟩) (show (v1.toInt - (x6_7 + 1).toInt).toNat < (v1.toInt - x6_7.toInt).toNat from (by first | omega | decide | (simp only [Int32.le_iff_toInt_le, Int32.lt_iff_toInt_lt, ti_add, ti_sub, ti_mul, Int32.reduceToInt] at *; omega)))
  · refine ok_gC h_x1 ?_
    refine ok_zbT (Q := fun V σ => V = 0 ∨ V = 1) hT (s_X2_holds hN (hR.tr hT) h_x1) (fun _ h9 => absurd h9 List.not_mem_nil) (fun v13 σ14 hOσ14 hT hqv13 => ?_)
    have hqv13 : v13 = 0 ∨ v13 = 1 := hqv13
    refine ok_if (fun hc15 => ?_) (fun hc15 => ?_)
    · refine ok_s14 hT rfl (by decide) (by first | omega | decide | (simp only [Int32.le_iff_toInt_le, Int32.lt_iff_toInt_lt, ti_add, ti_sub, ti_mul, Int32.reduceToInt] at *; omega)) (by first | omega | decide | (simp only [Int32.le_iff_toInt_le, Int32.lt_iff_toInt_lt, ti_add, ti_sub, ti_mul, Int32.reduceToInt] at *; omega)) (fun σ16 eσ16 hOσ16 hT => ?_)
      exact ih9_3 (x5_3 + 1, σ16) (show Tr [106] σ0 σ16 ∧ (0 ≤ (x5_3 + 1).toInt) from ⟨hT, (by first | omega | decide | (simp only [Int32.le_iff_toInt_le, Int32.lt_iff_toInt_lt, ti_add, ti_sub, ti_mul, Int32.reduceToInt] at *; omega))⟩) (show (v1.toInt - (x5_3 + 1).toInt).toNat < (v1.toInt - x5_3.toInt).toNat from (by first | omega | decide | (simp only [Int32.le_iff_toInt_le, Int32.lt_iff_toInt_lt, ti_add, ti_sub, ti_mul, Int32.reduceToInt] at *; omega)))
    · refine ok_s14 hT rfl (by decide) (by first | omega | decide | (simp only [Int32.le_iff_toInt_le, Int32.lt_iff_toInt_lt, ti_add, ti_sub, ti_mul, Int32.reduceToInt] at *; omega)) (by first | omega | decide | (simp only [Int32.le_iff_toInt_le, Int32.lt_iff_toInt_lt, ti_add, ti_sub, ti_mul, Int32.reduceToInt] at *; omega)) (fun σ17 eσ17 hOσ17 hT => ?_)
      exact ih9_3 (x5_3 + 1, σ17) (show Tr [106] σ0 σ17 ∧ (0 ≤ (x5_3 + 1).toInt) from ⟨hT, (by first | omega | decide | (simp only [Int32.le_iff_toInt_le, Int32.lt_iff_toInt_lt, ti_add, ti_sub, ti_mul, Int32.reduceToInt] at *; omega))⟩) (show (v1.toInt - (x5_3 + 1).toInt).toNat < (v1.toInt - x5_3.toInt).toNat from (by first | omega | decide | (simp only [Int32.le_iff_toInt_le, Int32.lt_iff_toInt_lt, ti_add, ti_sub, ti_mul, Int32.reduceToInt] at *; omega)))

set_option maxHeartbeats 4000000 in
set_option maxRecDepth 100000 in
theorem s_X0_countBelow_107 {N : Nat} (hN : 1048576 ≤ N) {x1 : Nat} {x3 : Int32} {σ0 : zS}  (hR : RF σ0.2.2) (h_x1 : (zKd x1).1 = 2) : Ok (f_X0_countBelow N 99 x1 107 x3 σ0) (fun r => Tr [107] σ0 r.2 ∧ (True)) := by
  have hT : Tr [107] σ0 σ0 := Tr.rf
  rw [f_X0_countBelow.eq_1]
  refine ok_zbT (Q := fun V σ => 1 ≤ V.toInt ∧ V.toInt ≤ 1024) hT (s_X0_setsOf hN (hR.tr hT) ) (fun _ h9 => absurd h9 List.not_mem_nil) (fun v1 σ2 hOσ2 hT hqv1 => ?_)
  have hqv1 : 1 ≤ v1.toInt ∧ v1.toInt ≤ 1024 := hqv1
  refine ok_lp (fun t : Int32 × zS => Tr [107] σ0 (t.2) ∧ (0 ≤ (t.1).toInt)) (fun t : Int32 × zS => (v1.toInt - (t.1).toInt).toNat) (fun again3 t hI ih9_3 => ?_) N _ (show Tr [107] σ0 σ2 ∧ (0 ≤ (0 : Int32).toInt) from ⟨hT, (by first | omega | decide | (simp only [Int32.le_iff_toInt_le, Int32.lt_iff_toInt_lt, ti_add, ti_sub, ti_mul, Int32.reduceToInt] at *; omega))⟩) (show (v1.toInt - (0 : Int32).toInt).toNat < N from (by first | omega | decide | (simp only [Int32.le_iff_toInt_le, Int32.lt_iff_toInt_lt, ti_add, ti_sub, ti_mul, Int32.reduceToInt] at *; omega)))
  obtain ⟨x5_3, σ3⟩ := t
  have hI : Tr [107] σ0 σ3 ∧ (0 ≤ x5_3.toInt) := hI
  obtain ⟨hT, hI3⟩ := hI
  rw [F_X0_countBelow_9.eq_1]
  refine ok_if (fun hc4 => ?_) (fun hc4 => ?_)
  · refine ok_lp (fun t : Int32 × zS => Tr [107] σ0 (t.2) ∧ (1 ≤ (t.1).toInt ∧ (t.1).toInt ≤ 2048)) (fun t : Int32 × zS => (4096 - (t.1).toInt).toNat) (fun again5 t hI ih43_5 => ?_) N _ (show Tr [107] σ0 σ3 ∧ (1 ≤ (1 : Int32).toInt ∧ (1 : Int32).toInt ≤ 2048) from ⟨hT, (by first | omega | decide | (simp only [Int32.le_iff_toInt_le, Int32.lt_iff_toInt_lt, ti_add, ti_sub, ti_mul, Int32.reduceToInt] at *; omega))⟩) (show (4096 - (1 : Int32).toInt).toNat < N from (by first | omega | decide | (simp only [Int32.le_iff_toInt_le, Int32.lt_iff_toInt_lt, ti_add, ti_sub, ti_mul, Int32.reduceToInt] at *; omega)))
    obtain ⟨x5_5, σ5⟩ := t
    have hI : Tr [107] σ0 σ5 ∧ (1 ≤ x5_5.toInt ∧ x5_5.toInt ≤ 2048) := hI
    obtain ⟨hT, hI5⟩ := hI
    rw [F_X0_countBelow_43.eq_1]
    refine ok_if (fun hc6 => ?_) (fun hc6 => ?_)
    · exact ok_some ⟨hT, trivial⟩
    · refine ok_lp (fun t : Int32 × zS => Tr [107] σ0 (t.2) ∧ (x5_5.toInt ≤ (t.1).toInt)) (fun t : Int32 × zS => (v1.toInt - (t.1).toInt).toNat) (fun again7 t hI ih54_7 => ?_) N _ (show Tr [107] σ0 σ5 ∧ (x5_5.toInt ≤ x5_5.toInt) from ⟨hT, (by first | omega | decide | (simp only [Int32.le_iff_toInt_le, Int32.lt_iff_toInt_lt, ti_add, ti_sub, ti_mul, Int32.reduceToInt] at *; omega))⟩) (show (v1.toInt - x5_5.toInt).toNat < N from (by first | omega | decide | (simp only [Int32.le_iff_toInt_le, Int32.lt_iff_toInt_lt, ti_add, ti_sub, ti_mul, Int32.reduceToInt] at *; omega)))
      obtain ⟨x6_7, σ7⟩ := t
      have hI : Tr [107] σ0 σ7 ∧ (x5_5.toInt ≤ x6_7.toInt) := hI
      obtain ⟨hT, hI7⟩ := hI
      rw [F_X0_countBelow_54.eq_1]
      refine ok_if (fun hc8 => ?_) (fun hc8 => ?_)
      · have q1 := ti_shl1 (x := x5_5) (by omega) (by omega)
        exact ih43_5 ((x5_5 : Int32) <<< (1 &&& 31), σ7) (show Tr [107] σ0 σ7 ∧ (1 ≤ ((x5_5 : Int32) <<< (1 &&& 31)).toInt ∧ ((x5_5 : Int32) <<< (1 &&& 31)).toInt ≤ 2048) from ⟨hT, (by first | omega | decide | (simp only [Int32.le_iff_toInt_le, Int32.lt_iff_toInt_lt, ti_add, ti_sub, ti_mul, Int32.reduceToInt] at *; omega))⟩) (show (4096 - ((x5_5 : Int32) <<< (1 &&& 31)).toInt).toNat < (4096 - x5_5.toInt).toNat from (by first | omega | decide | (simp only [Int32.le_iff_toInt_le, Int32.lt_iff_toInt_lt, ti_add, ti_sub, ti_mul, Int32.reduceToInt] at *; omega)))
      · refine ok_if (fun hc9 => ?_) (fun hc9 => ?_)
        · exact ih54_7 (x6_7 + 1, σ7) (show Tr [107] σ0 σ7 ∧ (x5_5.toInt ≤ (x6_7 + 1).toInt) from ⟨hT, (by first | omega | decide | (simp only [Int32.le_iff_toInt_le, Int32.lt_iff_toInt_lt, ti_add, ti_sub, ti_mul, Int32.reduceToInt] at *; omega))⟩) (show (v1.toInt - (x6_7 + 1).toInt).toNat < (v1.toInt - x6_7.toInt).toNat from (by first | omega | decide | (simp only [Int32.le_iff_toInt_le, Int32.lt_iff_toInt_lt, ti_add, ti_sub, ti_mul, Int32.reduceToInt] at *; omega)))
        · refine ok_aIn rfl (by first | omega | decide | (simp only [Int32.le_iff_toInt_le, Int32.lt_iff_toInt_lt, ti_add, ti_sub, ti_mul, Int32.reduceToInt] at *; omega)) (by first | omega | decide | (simp only [Int32.le_iff_toInt_le, Int32.lt_iff_toInt_lt, ti_add, ti_sub, ti_mul, Int32.reduceToInt] at *; omega)) (fun v10 ev10 => ?_)
          refine ok_aIn rfl (by first | omega | decide | (simp only [Int32.le_iff_toInt_le, Int32.lt_iff_toInt_lt, ti_add, ti_sub, ti_mul, Int32.reduceToInt] at *; omega)) (by first | omega | decide | (simp only [Int32.le_iff_toInt_le, Int32.lt_iff_toInt_lt, ti_add, ti_sub, ti_mul, Int32.reduceToInt] at *; omega)) (fun v11 ev11 => ?_)
          refine ok_s14 hT rfl (by decide) (by first | omega | decide | (simp only [Int32.le_iff_toInt_le, Int32.lt_iff_toInt_lt, ti_add, ti_sub, ti_mul, Int32.reduceToInt] at *; omega)) (by first | omega | decide | (simp only [Int32.le_iff_toInt_le, Int32.lt_iff_toInt_lt, ti_add, ti_sub, ti_mul, Int32.reduceToInt] at *; omega)) (fun σ12 eσ12 hOσ12 hT => ?_)
          exact ih54_7 (x6_7 + 1, σ12) (show Tr [107] σ0 σ12 ∧ (x5_5.toInt ≤ (x6_7 + 1).toInt) from ⟨hT, (by first | omega | decide | (simp only [Int32.le_iff_toInt_le, Int32.lt_iff_toInt_lt, ti_add, ti_sub, ti_mul, Int32.reduceToInt] at *; omega))⟩) (show (v1.toInt - (x6_7 + 1).toInt).toNat < (v1.toInt - x6_7.toInt).toNat from (by first | omega | decide | (simp only [Int32.le_iff_toInt_le, Int32.lt_iff_toInt_lt, ti_add, ti_sub, ti_mul, Int32.reduceToInt] at *; omega)))
  · refine ok_gC h_x1 ?_
    refine ok_zbT (Q := fun V σ => V = 0 ∨ V = 1) hT (s_X2_holds hN (hR.tr hT) h_x1) (fun _ h9 => absurd h9 List.not_mem_nil) (fun v13 σ14 hOσ14 hT hqv13 => ?_)
    have hqv13 : v13 = 0 ∨ v13 = 1 := hqv13
    refine ok_if (fun hc15 => ?_) (fun hc15 => ?_)
    · refine ok_s14 hT rfl (by decide) (by first | omega | decide | (simp only [Int32.le_iff_toInt_le, Int32.lt_iff_toInt_lt, ti_add, ti_sub, ti_mul, Int32.reduceToInt] at *; omega)) (by first | omega | decide | (simp only [Int32.le_iff_toInt_le, Int32.lt_iff_toInt_lt, ti_add, ti_sub, ti_mul, Int32.reduceToInt] at *; omega)) (fun σ16 eσ16 hOσ16 hT => ?_)
      exact ih9_3 (x5_3 + 1, σ16) (show Tr [107] σ0 σ16 ∧ (0 ≤ (x5_3 + 1).toInt) from ⟨hT, (by first | omega | decide | (simp only [Int32.le_iff_toInt_le, Int32.lt_iff_toInt_lt, ti_add, ti_sub, ti_mul, Int32.reduceToInt] at *; omega))⟩) (show (v1.toInt - (x5_3 + 1).toInt).toNat < (v1.toInt - x5_3.toInt).toNat from (by first | omega | decide | (simp only [Int32.le_iff_toInt_le, Int32.lt_iff_toInt_lt, ti_add, ti_sub, ti_mul, Int32.reduceToInt] at *; omega)))
    · refine ok_s14 hT rfl (by decide) (by first | omega | decide | (simp only [Int32.le_iff_toInt_le, Int32.lt_iff_toInt_lt, ti_add, ti_sub, ti_mul, Int32.reduceToInt] at *; omega)) (by first | omega | decide | (simp only [Int32.le_iff_toInt_le, Int32.lt_iff_toInt_lt, ti_add, ti_sub, ti_mul, Int32.reduceToInt] at *; omega)) (fun σ17 eσ17 hOσ17 hT => ?_)
      exact ih9_3 (x5_3 + 1, σ17) (show Tr [107] σ0 σ17 ∧ (0 ≤ (x5_3 + 1).toInt) from ⟨hT, (by first | omega | decide | (simp only [Int32.le_iff_toInt_le, Int32.lt_iff_toInt_lt, ti_add, ti_sub, ti_mul, Int32.reduceToInt] at *; omega))⟩) (show (v1.toInt - (x5_3 + 1).toInt).toNat < (v1.toInt - x5_3.toInt).toNat from (by first | omega | decide | (simp only [Int32.le_iff_toInt_le, Int32.lt_iff_toInt_lt, ti_add, ti_sub, ti_mul, Int32.reduceToInt] at *; omega)))

set_option maxHeartbeats 4000000 in
set_option maxRecDepth 100000 in
theorem s_X0_multiply {N : Nat} (hN : 1048576 ≤ N) {x1 : Nat} {x2 : Nat} {x3 : Int32} {σ0 : zS}  (hR : RF σ0.2.2) (h_x1 : (zKd x1).1 = 2) (h_x2 : (zKd x2).1 = 2) : Ok (f_X0_multiply N 99 x1 x2 x3 σ0) (fun r => Tr [106, 107] σ0 r.2 ∧ (True)) := by
  have hT : Tr [106, 107] σ0 σ0 := Tr.rf
  rw [f_X0_multiply.eq_1]
  refine ok_gR (v := 106) hT rfl (hR 99 3 rfl) ?_
  refine ok_gC rfl ?_
  refine ok_zbT (Q := fun V σ => True) hT (s_X0_countBelow_106 hN (hR.tr hT) h_x1) (by decide) (fun v2 σ3 hOσ3 hT hqv2 => ?_)
  refine ok_gR (v := 107) hT rfl (hR 99 4 rfl) ?_
  refine ok_gC rfl ?_
  refine ok_zbT (Q := fun V σ => True) hT (s_X0_countBelow_107 hN (hR.tr hT) h_x2) (by decide) (fun v5 σ6 hOσ6 hT hqv5 => ?_)
  refine ok_zbT (Q := fun V σ => 1 ≤ V.toInt ∧ V.toInt ≤ 1024) hT (s_X0_setsOf hN (hR.tr hT) ) (fun _ h9 => absurd h9 List.not_mem_nil) (fun v7 σ8 hOσ8 hT hqv7 => ?_)
  have hqv7 : 1 ≤ v7.toInt ∧ v7.toInt ≤ 1024 := hqv7
  refine ok_lp (fun t : Int32 × zS => Tr [106, 107] σ0 (t.2) ∧ (0 ≤ (t.1).toInt)) (fun t : Int32 × zS => (v7.toInt - (t.1).toInt).toNat) (fun again9 t hI ih29_9 => ?_) N _ (show Tr [106, 107] σ0 σ8 ∧ (0 ≤ (0 : Int32).toInt) from ⟨hT, (by first | omega | decide | (simp only [Int32.le_iff_toInt_le, Int32.lt_iff_toInt_lt, ti_add, ti_sub, ti_mul, Int32.reduceToInt] at *; omega))⟩) (show (v7.toInt - (0 : Int32).toInt).toNat < N from (by first | omega | decide | (simp only [Int32.le_iff_toInt_le, Int32.lt_iff_toInt_lt, ti_add, ti_sub, ti_mul, Int32.reduceToInt] at *; omega)))
  obtain ⟨x5_9, σ9⟩ := t
  have hI : Tr [106, 107] σ0 σ9 ∧ (0 ≤ x5_9.toInt) := hI
  obtain ⟨hT, hI9⟩ := hI
  rw [F_X0_multiply_29.eq_1]
  refine ok_if (fun hc10 => ?_) (fun hc10 => ?_)
  · refine ok_lp (fun t : Int32 × zS => Tr [106, 107] σ0 (t.2) ∧ (1 ≤ (t.1).toInt ∧ (t.1).toInt ≤ 2048)) (fun t : Int32 × zS => (4096 - (t.1).toInt).toNat) (fun again11 t hI ih62_11 => ?_) N _ (show Tr [106, 107] σ0 σ9 ∧ (1 ≤ (1 : Int32).toInt ∧ (1 : Int32).toInt ≤ 2048) from ⟨hT, (by first | omega | decide | (simp only [Int32.le_iff_toInt_le, Int32.lt_iff_toInt_lt, ti_add, ti_sub, ti_mul, Int32.reduceToInt] at *; omega))⟩) (show (4096 - (1 : Int32).toInt).toNat < N from (by first | omega | decide | (simp only [Int32.le_iff_toInt_le, Int32.lt_iff_toInt_lt, ti_add, ti_sub, ti_mul, Int32.reduceToInt] at *; omega)))
    obtain ⟨x5_11, σ11⟩ := t
    have hI : Tr [106, 107] σ0 σ11 ∧ (1 ≤ x5_11.toInt ∧ x5_11.toInt ≤ 2048) := hI
    obtain ⟨hT, hI11⟩ := hI
    rw [F_X0_multiply_62.eq_1]
    refine ok_if (fun hc12 => ?_) (fun hc12 => ?_)
    · refine ok_gC h_x1 ?_
      refine ok_zbT (Q := fun V σ => True) hT (s_X2_clear hN (hR.tr hT) h_x1) (fun _ h9 => absurd h9 List.not_mem_nil) (fun v13 σ14 hOσ14 hT hqv13 => ?_)
      refine ok_lp (fun t : Int32 × zS => Tr [106, 107] σ0 (t.2) ∧ (0 ≤ (t.1).toInt)) (fun t : Int32 × zS => (v7.toInt - (t.1).toInt).toNat) (fun again15 t hI ih130_15 => ?_) N _ (show Tr [106, 107] σ0 σ14 ∧ (0 ≤ (0 : Int32).toInt) from ⟨hT, (by first | omega | decide | (simp only [Int32.le_iff_toInt_le, Int32.lt_iff_toInt_lt, ti_add, ti_sub, ti_mul, Int32.reduceToInt] at *; omega))⟩) (show (v7.toInt - (0 : Int32).toInt).toNat < N from (by first | omega | decide | (simp only [Int32.le_iff_toInt_le, Int32.lt_iff_toInt_lt, ti_add, ti_sub, ti_mul, Int32.reduceToInt] at *; omega)))
      obtain ⟨x5_15, σ15⟩ := t
      have hI : Tr [106, 107] σ0 σ15 ∧ (0 ≤ x5_15.toInt) := hI
      obtain ⟨hT, hI15⟩ := hI
      rw [F_X0_multiply_130.eq_1]
      refine ok_if (fun hc16 => ?_) (fun hc16 => ?_)
      · exact ok_some ⟨hT, trivial⟩
      · refine ok_gR (v := 106) hT rfl (hR 99 3 rfl) ?_
        refine ok_aIn rfl (by first | omega | decide | (simp only [Int32.le_iff_toInt_le, Int32.lt_iff_toInt_lt, ti_add, ti_sub, ti_mul, Int32.reduceToInt] at *; omega)) (by first | omega | decide | (simp only [Int32.le_iff_toInt_le, Int32.lt_iff_toInt_lt, ti_add, ti_sub, ti_mul, Int32.reduceToInt] at *; omega)) (fun v18 ev18 => ?_)
        refine ok_if (fun hc19 => ?_) (fun hc19 => ?_)
        · exact ih130_15 (x5_15 + 1, σ15) (show Tr [106, 107] σ0 σ15 ∧ (0 ≤ (x5_15 + 1).toInt) from ⟨hT, (by first | omega | decide | (simp only [Int32.le_iff_toInt_le, Int32.lt_iff_toInt_lt, ti_add, ti_sub, ti_mul, Int32.reduceToInt] at *; omega))⟩) (show (v7.toInt - (x5_15 + 1).toInt).toNat < (v7.toInt - x5_15.toInt).toNat from (by first | omega | decide | (simp only [Int32.le_iff_toInt_le, Int32.lt_iff_toInt_lt, ti_add, ti_sub, ti_mul, Int32.reduceToInt] at *; omega)))
        · refine ok_gC h_x1 ?_
          refine ok_zbT (Q := fun V σ => True) hT (s_X2_include hN (hR.tr hT) h_x1) (fun _ h9 => absurd h9 List.not_mem_nil) (fun v20 σ21 hOσ21 hT hqv20 => ?_)
          exact ih130_15 (x5_15 + 1, σ21) (show Tr [106, 107] σ0 σ21 ∧ (0 ≤ (x5_15 + 1).toInt) from ⟨hT, (by first | omega | decide | (simp only [Int32.le_iff_toInt_le, Int32.lt_iff_toInt_lt, ti_add, ti_sub, ti_mul, Int32.reduceToInt] at *; omega))⟩) (show (v7.toInt - (x5_15 + 1).toInt).toNat < (v7.toInt - x5_15.toInt).toNat from (by first | omega | decide | (simp only [Int32.le_iff_toInt_le, Int32.lt_iff_toInt_lt, ti_add, ti_sub, ti_mul, Int32.reduceToInt] at *; omega)))
    · refine ok_lp (fun t : Int32 × zS => Tr [106, 107] σ0 (t.2) ∧ (x5_11.toInt ≤ (t.1).toInt)) (fun t : Int32 × zS => (v7.toInt - (t.1).toInt).toNat) (fun again22 t hI ih73_22 => ?_) N _ (show Tr [106, 107] σ0 σ11 ∧ (x5_11.toInt ≤ x5_11.toInt) from ⟨hT, (by first | omega | decide | (simp only [Int32.le_iff_toInt_le, Int32.lt_iff_toInt_lt, ti_add, ti_sub, ti_mul, Int32.reduceToInt] at *; omega))⟩) (show (v7.toInt - x5_11.toInt).toNat < N from (by first | omega | decide | (simp only [Int32.le_iff_toInt_le, Int32.lt_iff_toInt_lt, ti_add, ti_sub, ti_mul, Int32.reduceToInt] at *; omega)))
      obtain ⟨x6_22, σ22⟩ := t
      have hI : Tr [106, 107] σ0 σ22 ∧ (x5_11.toInt ≤ x6_22.toInt) := hI
      obtain ⟨hT, hI22⟩ := hI
      rw [F_X0_multiply_73.eq_1]
      refine ok_if (fun hc23 => ?_) (fun hc23 => ?_)
      · have q1 := ti_shl1 (x := x5_11) (by omega) (by omega)
        exact ih62_11 ((x5_11 : Int32) <<< (1 &&& 31), σ22) (show Tr [106, 107] σ0 σ22 ∧ (1 ≤ ((x5_11 : Int32) <<< (1 &&& 31)).toInt ∧ ((x5_11 : Int32) <<< (1 &&& 31)).toInt ≤ 2048) from ⟨hT, (by first | omega | decide | (simp only [Int32.le_iff_toInt_le, Int32.lt_iff_toInt_lt, ti_add, ti_sub, ti_mul, Int32.reduceToInt] at *; omega))⟩) (show (4096 - ((x5_11 : Int32) <<< (1 &&& 31)).toInt).toNat < (4096 - x5_11.toInt).toNat from (by first | omega | decide | (simp only [Int32.le_iff_toInt_le, Int32.lt_iff_toInt_lt, ti_add, ti_sub, ti_mul, Int32.reduceToInt] at *; omega)))
      · refine ok_if (fun hc24 => ?_) (fun hc24 => ?_)
        · exact ih73_22 (x6_22 + 1, σ22) (show Tr [106, 107] σ0 σ22 ∧ (x5_11.toInt ≤ (x6_22 + 1).toInt) from ⟨hT, (by first | omega | decide | (simp only [Int32.le_iff_toInt_le, Int32.lt_iff_toInt_lt, ti_add, ti_sub, ti_mul, Int32.reduceToInt] at *; omega))⟩) (show (v7.toInt - (x6_22 + 1).toInt).toNat < (v7.toInt - x6_22.toInt).toNat from (by first | omega | decide | (simp only [Int32.le_iff_toInt_le, Int32.lt_iff_toInt_lt, ti_add, ti_sub, ti_mul, Int32.reduceToInt] at *; omega)))
        · refine ok_gR (v := 106) hT rfl (hR 99 3 rfl) ?_
          refine ok_aIn rfl (by first | omega | decide | (simp only [Int32.le_iff_toInt_le, Int32.lt_iff_toInt_lt, ti_add, ti_sub, ti_mul, Int32.reduceToInt] at *; omega)) (by first | omega | decide | (simp only [Int32.le_iff_toInt_le, Int32.lt_iff_toInt_lt, ti_add, ti_sub, ti_mul, Int32.reduceToInt] at *; omega)) (fun v26 ev26 => ?_)
          refine ok_gR (v := 106) hT rfl (hR 99 3 rfl) ?_
          refine ok_aIn rfl (by first | omega | decide | (simp only [Int32.le_iff_toInt_le, Int32.lt_iff_toInt_lt, ti_add, ti_sub, ti_mul, Int32.reduceToInt] at *; omega)) (by first | omega | decide | (simp only [Int32.le_iff_toInt_le, Int32.lt_iff_toInt_lt, ti_add, ti_sub, ti_mul, Int32.reduceToInt] at *; omega)) (fun v28 ev28 => ?_)
          refine ok_s14 hT rfl (by decide) (by first | omega | decide | (simp only [Int32.le_iff_toInt_le, Int32.lt_iff_toInt_lt, ti_add, ti_sub, ti_mul, Int32.reduceToInt] at *; omega)) (by first | omega | decide | (simp only [Int32.le_iff_toInt_le, Int32.lt_iff_toInt_lt, ti_add, ti_sub, ti_mul, Int32.reduceToInt] at *; omega)) (fun σ29 eσ29 hOσ29 hT => ?_)
          exact ih73_22 (x6_22 + 1, σ29) (show Tr [106, 107] σ0 σ29 ∧ (x5_11.toInt ≤ (x6_22 + 1).toInt) from ⟨hT, (by first | omega | decide | (simp only [Int32.le_iff_toInt_le, Int32.lt_iff_toInt_lt, ti_add, ti_sub, ti_mul, Int32.reduceToInt] at *; omega))⟩) (show (v7.toInt - (x6_22 + 1).toInt).toNat < (v7.toInt - x6_22.toInt).toNat from (by first | omega | decide | (simp only [Int32.le_iff_toInt_le, Int32.lt_iff_toInt_lt, ti_add, ti_sub, ti_mul, Int32.reduceToInt] at *; omega)))
  · refine ok_gR (v := 106) hT rfl (hR 99 3 rfl) ?_
    refine ok_aIn rfl (by first | omega | decide | (simp only [Int32.le_iff_toInt_le, Int32.lt_iff_toInt_lt, ti_add, ti_sub, ti_mul, Int32.reduceToInt] at *; omega)) (by first | omega | decide | (simp only [Int32.le_iff_toInt_le, Int32.lt_iff_toInt_lt, ti_add, ti_sub, ti_mul, Int32.reduceToInt] at *; omega)) (fun v31 ev31 => ?_)
    refine ok_gR (v := 107) hT rfl (hR 99 4 rfl) ?_
    refine ok_aIn rfl (by first | omega | decide | (simp only [Int32.le_iff_toInt_le, Int32.lt_iff_toInt_lt, ti_add, ti_sub, ti_mul, Int32.reduceToInt] at *; omega)) (by first | omega | decide | (simp only [Int32.le_iff_toInt_le, Int32.lt_iff_toInt_lt, ti_add, ti_sub, ti_mul, Int32.reduceToInt] at *; omega)) (fun v33 ev33 => ?_)
    refine ok_s14 hT rfl (by decide) (by first | omega | decide | (simp only [Int32.le_iff_toInt_le, Int32.lt_iff_toInt_lt, ti_add, ti_sub, ti_mul, Int32.reduceToInt] at *; omega)) (by first | omega | decide | (simp only [Int32.le_iff_toInt_le, Int32.lt_iff_toInt_lt, ti_add, ti_sub, ti_mul, Int32.reduceToInt] at *; omega)) (fun σ34 eσ34 hOσ34 hT => ?_)
    exact ih29_9 (x5_9 + 1, σ34) (show Tr [106, 107] σ0 σ34 ∧ (0 ≤ (x5_9 + 1).toInt) from ⟨hT, (by first | omega | decide | (simp only [Int32.le_iff_toInt_le, Int32.lt_iff_toInt_lt, ti_add, ti_sub, ti_mul, Int32.reduceToInt] at *; omega))⟩) (show (v7.toInt - (x5_9 + 1).toInt).toNat < (v7.toInt - x5_9.toInt).toNat from (by first | omega | decide | (simp only [Int32.le_iff_toInt_le, Int32.lt_iff_toInt_lt, ti_add, ti_sub, ti_mul, Int32.reduceToInt] at *; omega)))

set_option maxHeartbeats 4000000 in
set_option maxRecDepth 100000 in
theorem s_X0_allJoined {N : Nat} (hN : 1048576 ≤ N) {x1 : Nat} {x2 : Nat} {x3 : Int32} {σ0 : zS}  (hR : RF σ0.2.2) (h_x1 : (zKd x1).1 = 2) (h_x2 : (zKd x2).1 = 2) : Ok (f_X0_allJoined N 99 x1 x2 x3 σ0) (fun r => Tr [] σ0 r.2 ∧ (r.1 = 0 ∨ r.1 = 1)) := by
  have hT : Tr [] σ0 σ0 := Tr.rf
  rw [f_X0_allJoined.eq_1]
  refine ok_gC h_x2 ?_
  refine ok_zbT (Q := fun V σ => -1 ≤ V.toInt ∧ V.toInt ≤ 1023) hT (s_X2_firstFrom hN (hR.tr hT) h_x2) (fun _ h9 => absurd h9 List.not_mem_nil) (fun v1 σ2 hOσ2 hT hqv1 => ?_)
  have hqv1 : -1 ≤ v1.toInt ∧ v1.toInt ≤ 1023 := hqv1
  refine ok_lp (fun t : Int32 × Int32 × zS => Tr [] σ0 (t.2.2) ∧ (0 ≤ (t.2.1).toInt)) (fun t : Int32 × Int32 × zS => (1024 - (t.2.1).toInt).toNat) (fun again3 t hI ih10_3 => ?_) N _ (show Tr [] σ0 σ2 ∧ (0 ≤ (0 : Int32).toInt) from ⟨hT, (by first | omega | decide | (simp only [Int32.le_iff_toInt_le, Int32.lt_iff_toInt_lt, ti_add, ti_sub, ti_mul, Int32.reduceToInt] at *; omega))⟩) (show (1024 - (0 : Int32).toInt).toNat < N from (by first | omega | decide | (simp only [Int32.le_iff_toInt_le, Int32.lt_iff_toInt_lt, ti_add, ti_sub, ti_mul, Int32.reduceToInt] at *; omega)))
  obtain ⟨x4_3, x5_3, σ3⟩ := t
  have hI : Tr [] σ0 σ3 ∧ (0 ≤ x5_3.toInt) := hI
  obtain ⟨hT, hI3⟩ := hI
  rw [F_X0_allJoined_10.eq_1]
  refine ok_if (fun hc4 => ?_) (fun hc4 => ?_)
  · exact ok_rZ (Or.inr rfl) ⟨hT, (show (1 : Int32) = 0 ∨ (1 : Int32) = 1 from by first | exact Or.inl rfl | exact Or.inr rfl)⟩
  · refine ok_if (fun hc5 => ?_) (fun hc5 => ?_)
    · exact ok_rZ (Or.inr rfl) ⟨hT, (show (1 : Int32) = 0 ∨ (1 : Int32) = 1 from by first | exact Or.inl rfl | exact Or.inr rfl)⟩
    · refine ok_gC h_x1 ?_
      refine ok_zbT (Q := fun V σ => V = 0 ∨ V = 1) hT (s_X2_holds hN (hR.tr hT) h_x1) (fun _ h9 => absurd h9 List.not_mem_nil) (fun v6 σ7 hOσ7 hT hqv6 => ?_)
      have hqv6 : v6 = 0 ∨ v6 = 1 := hqv6
      refine ok_if (fun hc8 => ?_) (fun hc8 => ?_)
      · exact ok_rZ (Or.inl rfl) ⟨hT, (show (0 : Int32) = 0 ∨ (0 : Int32) = 1 from by first | exact Or.inl rfl | exact Or.inr rfl)⟩
      · refine ok_gC h_x2 ?_
        refine ok_zbT (Q := fun V σ => -1 ≤ V.toInt ∧ V.toInt ≤ 1023) hT (s_X2_firstFrom hN (hR.tr hT) h_x2) (fun _ h9 => absurd h9 List.not_mem_nil) (fun v9 σ10 hOσ10 hT hqv9 => ?_)
        have hqv9 : -1 ≤ v9.toInt ∧ v9.toInt ≤ 1023 := hqv9
        exact ih10_3 (v9, x5_3 + 1, σ10) (show Tr [] σ0 σ10 ∧ (0 ≤ (x5_3 + 1).toInt) from ⟨hT, (by first | omega | decide | (simp only [Int32.le_iff_toInt_le, Int32.lt_iff_toInt_lt, ti_add, ti_sub, ti_mul, Int32.reduceToInt] at *; omega))⟩) (show (1024 - (x5_3 + 1).toInt).toNat < (1024 - x5_3.toInt).toNat from (by first | omega | decide | (simp only [Int32.le_iff_toInt_le, Int32.lt_iff_toInt_lt, ti_add, ti_sub, ti_mul, Int32.reduceToInt] at *; omega)))

set_option maxHeartbeats 4000000 in
set_option maxRecDepth 100000 in
theorem s_X0_namesUsed {N : Nat} (hN : 1048576 ≤ N) {x1 : Nat} {x2 : Int32} {σ0 : zS}  (hR : RF σ0.2.2) (h_x1 : (zKd x1).1 = 2) (hn : x2.toInt ≤ 100) : Ok (f_X0_namesUsed N 99 x1 x2 σ0) (fun r => Tr [] σ0 r.2 ∧ (True)) := by
  have hT : Tr [] σ0 σ0 := Tr.rf
  rw [f_X0_namesUsed.eq_1]
  refine ok_lp (fun t : Int32 × Int32 × zS => Tr [] σ0 (t.2.2) ∧ (0 ≤ (t.2.1).toInt)) (fun t : Int32 × Int32 × zS => (x2.toInt - (t.2.1).toInt).toNat) (fun again1 t hI ih5_1 => ?_) N _ (show Tr [] σ0 σ0 ∧ (0 ≤ (0 : Int32).toInt) from ⟨hT, (by first | omega | decide | (simp only [Int32.le_iff_toInt_le, Int32.lt_iff_toInt_lt, ti_add, ti_sub, ti_mul, Int32.reduceToInt] at *; omega))⟩) (show (x2.toInt - (0 : Int32).toInt).toNat < N from (by first | omega | decide | (simp only [Int32.le_iff_toInt_le, Int32.lt_iff_toInt_lt, ti_add, ti_sub, ti_mul, Int32.reduceToInt] at *; omega)))
  obtain ⟨x3_1, x4_1, σ1⟩ := t
  have hI : Tr [] σ0 σ1 ∧ (0 ≤ x4_1.toInt) := hI
  obtain ⟨hT, hI1⟩ := hI
  rw [F_X0_namesUsed_5.eq_1]
  refine ok_if (fun hc2 => ?_) (fun hc2 => ?_)
  · exact ok_some ⟨hT, trivial⟩
  · refine ok_gR (v := 102) hT rfl (hR 99 1 rfl) ?_
    refine ok_gC rfl ?_
    refine ok_zbT (Q := fun V σ => True) hT (s_X2_copyFrom hN (hR.tr hT) rfl h_x1) (fun _ h9 => absurd h9 List.not_mem_nil) (fun v4 σ5 hOσ5 hT hqv4 => ?_)
    refine ok_gR (v := 102) hT rfl (hR 99 1 rfl) ?_
    refine ok_gC rfl ?_
    refine ok_zbT (Q := fun V σ => True) hT (s_X2_keepWithout hN (hR.tr hT) rfl) (fun _ h9 => absurd h9 List.not_mem_nil) (fun v7 σ8 hOσ8 hT hqv7 => ?_)
    refine ok_gR (v := 102) hT rfl (hR 99 1 rfl) ?_
    refine ok_gC rfl ?_
    refine ok_zbT (Q := fun V σ => V = 0 ∨ V = 1) hT (s_X2_sameAs hN (hR.tr hT) rfl h_x1) (fun _ h9 => absurd h9 List.not_mem_nil) (fun v10 σ11 hOσ11 hT hqv10 => ?_)
    have hqv10 : v10 = 0 ∨ v10 = 1 := hqv10
    refine ok_if (fun hc12 => ?_) (fun hc12 => ?_)
    · exact ih5_1 (x3_1 ||| ((1 : Int32) <<< (x4_1 &&& 31)), x4_1 + 1, σ11) (show Tr [] σ0 σ11 ∧ (0 ≤ (x4_1 + 1).toInt) from ⟨hT, (by first | omega | decide | (simp only [Int32.le_iff_toInt_le, Int32.lt_iff_toInt_lt, ti_add, ti_sub, ti_mul, Int32.reduceToInt] at *; omega))⟩) (show (x2.toInt - (x4_1 + 1).toInt).toNat < (x2.toInt - x4_1.toInt).toNat from (by first | omega | decide | (simp only [Int32.le_iff_toInt_le, Int32.lt_iff_toInt_lt, ti_add, ti_sub, ti_mul, Int32.reduceToInt] at *; omega)))
    · exact ih5_1 (x3_1, x4_1 + 1, σ11) (show Tr [] σ0 σ11 ∧ (0 ≤ (x4_1 + 1).toInt) from ⟨hT, (by first | omega | decide | (simp only [Int32.le_iff_toInt_le, Int32.lt_iff_toInt_lt, ti_add, ti_sub, ti_mul, Int32.reduceToInt] at *; omega))⟩) (show (x2.toInt - (x4_1 + 1).toInt).toNat < (x2.toInt - x4_1.toInt).toNat from (by first | omega | decide | (simp only [Int32.le_iff_toInt_le, Int32.lt_iff_toInt_lt, ti_add, ti_sub, ti_mul, Int32.reduceToInt] at *; omega)))

set_option maxHeartbeats 4000000 in
set_option maxRecDepth 100000 in
theorem s_X0_divide {N : Nat} (hN : 1048576 ≤ N) {x1 : Nat} {x2 : Nat} {x3 : Int32} {σ0 : zS}  (hR : RF σ0.2.2) (h_x1 : (zKd x1).1 = 2) (h_x2 : (zKd x2).1 = 2) (hn : x3.toInt ≤ 100) : Ok (f_X0_divide N 99 x1 x2 x3 σ0) (fun r => Tr [] σ0 r.2 ∧ (True)) := by
  have hT : Tr [] σ0 σ0 := Tr.rf
  rw [f_X0_divide.eq_1]
  refine ok_gR (v := 100) hT rfl (hR 99 0 rfl) ?_
  refine ok_gC rfl ?_
  refine ok_zbT (Q := fun V σ => True) hT (s_X2_clear hN (hR.tr hT) rfl) (fun _ h9 => absurd h9 List.not_mem_nil) (fun v2 σ3 hOσ3 hT hqv2 => ?_)
  refine ok_gC h_x2 ?_
  refine ok_zbT (Q := fun V σ => V = 0 ∨ V = 1) hT (s_X2_isEmpty hN (hR.tr hT) h_x2) (fun _ h9 => absurd h9 List.not_mem_nil) (fun v4 σ5 hOσ5 hT hqv4 => ?_)
  have hqv4 : v4 = 0 ∨ v4 = 1 := hqv4
  refine ok_if (fun hc6 => ?_) (fun hc6 => ?_)
  · refine ok_gC rfl ?_
    refine ok_zbT (Q := fun V σ => True) hT (s_X0_namesUsed hN (hR.tr hT) h_x2 (by first | omega | decide | (simp only [Int32.le_iff_toInt_le, Int32.lt_iff_toInt_lt, ti_add, ti_sub, ti_mul, Int32.reduceToInt] at *; omega))) (fun _ h9 => absurd h9 List.not_mem_nil) (fun v7 σ8 hOσ8 hT hqv7 => ?_)
    refine ok_zbT (Q := fun V σ => 1 ≤ V.toInt ∧ V.toInt ≤ 1024) hT (s_X0_setsOf hN (hR.tr hT) ) (fun _ h9 => absurd h9 List.not_mem_nil) (fun v9 σ10 hOσ10 hT hqv9 => ?_)
    have hqv9 : 1 ≤ v9.toInt ∧ v9.toInt ≤ 1024 := hqv9
    refine ok_lp (fun t : Int32 × zS => Tr [] σ0 (t.2) ∧ (0 ≤ (t.1).toInt)) (fun t : Int32 × zS => (v9.toInt - (t.1).toInt).toNat) (fun again11 t hI ih31_11 => ?_) N _ (show Tr [] σ0 σ10 ∧ (0 ≤ (0 : Int32).toInt) from ⟨hT, (by first | omega | decide | (simp only [Int32.le_iff_toInt_le, Int32.lt_iff_toInt_lt, ti_add, ti_sub, ti_mul, Int32.reduceToInt] at *; omega))⟩) (show (v9.toInt - (0 : Int32).toInt).toNat < N from (by first | omega | decide | (simp only [Int32.le_iff_toInt_le, Int32.lt_iff_toInt_lt, ti_add, ti_sub, ti_mul, Int32.reduceToInt] at *; omega)))
    obtain ⟨x6_11, σ11⟩ := t
    have hI : Tr [] σ0 σ11 ∧ (0 ≤ x6_11.toInt) := hI
    obtain ⟨hT, hI11⟩ := hI
    rw [F_X0_divide_31.eq_1]
    refine ok_if (fun hc12 => ?_) (fun hc12 => ?_)
    · refine ok_gR (v := 100) hT rfl (hR 99 0 rfl) ?_
      refine ok_gC h_x1 ?_
      refine ok_zbT (Q := fun V σ => True) hT (s_X2_copyFrom hN (hR.tr hT) h_x1 rfl) (fun _ h9 => absurd h9 List.not_mem_nil) (fun v14 σ15 hOσ15 hT hqv14 => ?_)
      exact ok_some ⟨hT, trivial⟩
    · refine ok_if (fun hc16 => ?_) (fun hc16 => ?_)
      · refine ok_gC rfl ?_
        refine ok_zbT (Q := fun V σ => V = 0 ∨ V = 1) hT (s_X0_allJoined hN (hR.tr hT) h_x1 h_x2) (fun _ h9 => absurd h9 List.not_mem_nil) (fun v17 σ18 hOσ18 hT hqv17 => ?_)
        have hqv17 : v17 = 0 ∨ v17 = 1 := hqv17
        refine ok_if (fun hc19 => ?_) (fun hc19 => ?_)
        · exact ih31_11 (x6_11 + 1, σ18) (show Tr [] σ0 σ18 ∧ (0 ≤ (x6_11 + 1).toInt) from ⟨hT, (by first | omega | decide | (simp only [Int32.le_iff_toInt_le, Int32.lt_iff_toInt_lt, ti_add, ti_sub, ti_mul, Int32.reduceToInt] at *; omega))⟩) (show (v9.toInt - (x6_11 + 1).toInt).toNat < (v9.toInt - x6_11.toInt).toNat from (by first | omega | decide | (simp only [Int32.le_iff_toInt_le, Int32.lt_iff_toInt_lt, ti_add, ti_sub, ti_mul, Int32.reduceToInt] at *; omega)))
        · refine ok_gR (v := 100) hT rfl (hR 99 0 rfl) ?_
          refine ok_gC rfl ?_
          refine ok_zbT (Q := fun V σ => True) hT (s_X2_include hN (hR.tr hT) rfl) (fun _ h9 => absurd h9 List.not_mem_nil) (fun v21 σ22 hOσ22 hT hqv21 => ?_)
          exact ih31_11 (x6_11 + 1, σ22) (show Tr [] σ0 σ22 ∧ (0 ≤ (x6_11 + 1).toInt) from ⟨hT, (by first | omega | decide | (simp only [Int32.le_iff_toInt_le, Int32.lt_iff_toInt_lt, ti_add, ti_sub, ti_mul, Int32.reduceToInt] at *; omega))⟩) (show (v9.toInt - (x6_11 + 1).toInt).toNat < (v9.toInt - x6_11.toInt).toNat from (by first | omega | decide | (simp only [Int32.le_iff_toInt_le, Int32.lt_iff_toInt_lt, ti_add, ti_sub, ti_mul, Int32.reduceToInt] at *; omega)))
      · exact ih31_11 (x6_11 + 1, σ11) (show Tr [] σ0 σ11 ∧ (0 ≤ (x6_11 + 1).toInt) from ⟨hT, (by first | omega | decide | (simp only [Int32.le_iff_toInt_le, Int32.lt_iff_toInt_lt, ti_add, ti_sub, ti_mul, Int32.reduceToInt] at *; omega))⟩) (show (v9.toInt - (x6_11 + 1).toInt).toNat < (v9.toInt - x6_11.toInt).toNat from (by first | omega | decide | (simp only [Int32.le_iff_toInt_le, Int32.lt_iff_toInt_lt, ti_add, ti_sub, ti_mul, Int32.reduceToInt] at *; omega)))
  · refine ok_gR (v := 100) hT rfl (hR 99 0 rfl) ?_
    refine ok_gC h_x1 ?_
    refine ok_zbT (Q := fun V σ => True) hT (s_X2_copyFrom hN (hR.tr hT) h_x1 rfl) (fun _ h9 => absurd h9 List.not_mem_nil) (fun v24 σ25 hOσ25 hT hqv24 => ?_)
    exact ok_some ⟨hT, trivial⟩

set_option maxHeartbeats 4000000 in
set_option maxRecDepth 100000 in
theorem s_X0_disjointPairs {N : Nat} (hN : 1048576 ≤ N) {x1 : Nat} {x2 : Nat} {x3 : Int32} {σ0 : zS}  (hR : RF σ0.2.2) (h_x1 : (zKd x1).1 = 2) (h_x2 : (zKd x2).1 = 2) : Ok (f_X0_disjointPairs N 99 x1 x2 x3 σ0) (fun r => Tr [107] σ0 r.2 ∧ (True)) := by
  have hT : Tr [107] σ0 σ0 := Tr.rf
  rw [f_X0_disjointPairs.eq_1]
  refine ok_gR (v := 107) hT rfl (hR 99 4 rfl) ?_
  refine ok_gC rfl ?_
  refine ok_zbT (Q := fun V σ => True) hT (s_X0_countBelow_107 hN (hR.tr hT) h_x2) (by decide) (fun v2 σ3 hOσ3 hT hqv2 => ?_)
  refine ok_zbT (Q := fun V σ => 1 ≤ V.toInt ∧ V.toInt ≤ 1024) hT (s_X0_setsOf hN (hR.tr hT) ) (fun _ h9 => absurd h9 List.not_mem_nil) (fun v4 σ5 hOσ5 hT hqv4 => ?_)
  have hqv4 : 1 ≤ v4.toInt ∧ v4.toInt ≤ 1024 := hqv4
  refine ok_lp (fun t : Int32 × Int32 × zS => Tr [107] σ0 (t.2.2) ∧ (0 ≤ (t.2.1).toInt)) (fun t : Int32 × Int32 × zS => (v4.toInt - (t.2.1).toInt).toNat) (fun again6 t hI ih22_6 => ?_) N _ (show Tr [107] σ0 σ5 ∧ (0 ≤ (0 : Int32).toInt) from ⟨hT, (by first | omega | decide | (simp only [Int32.le_iff_toInt_le, Int32.lt_iff_toInt_lt, ti_add, ti_sub, ti_mul, Int32.reduceToInt] at *; omega))⟩) (show (v4.toInt - (0 : Int32).toInt).toNat < N from (by first | omega | decide | (simp only [Int32.le_iff_toInt_le, Int32.lt_iff_toInt_lt, ti_add, ti_sub, ti_mul, Int32.reduceToInt] at *; omega)))
  obtain ⟨x5_6, x6_6, σ6⟩ := t
  have hI : Tr [107] σ0 σ6 ∧ (0 ≤ x6_6.toInt) := hI
  obtain ⟨hT, hI6⟩ := hI
  rw [F_X0_disjointPairs_22.eq_1]
  refine ok_if (fun hc7 => ?_) (fun hc7 => ?_)
  · exact ok_some ⟨hT, trivial⟩
  · refine ok_gC h_x1 ?_
    refine ok_zbT (Q := fun V σ => V = 0 ∨ V = 1) hT (s_X2_holds hN (hR.tr hT) h_x1) (fun _ h9 => absurd h9 List.not_mem_nil) (fun v8 σ9 hOσ9 hT hqv8 => ?_)
    have hqv8 : v8 = 0 ∨ v8 = 1 := hqv8
    refine ok_if (fun hc10 => ?_) (fun hc10 => ?_)
    · exact ih22_6 (x5_6, x6_6 + 1, σ9) (show Tr [107] σ0 σ9 ∧ (0 ≤ (x6_6 + 1).toInt) from ⟨hT, (by first | omega | decide | (simp only [Int32.le_iff_toInt_le, Int32.lt_iff_toInt_lt, ti_add, ti_sub, ti_mul, Int32.reduceToInt] at *; omega))⟩) (show (v4.toInt - (x6_6 + 1).toInt).toNat < (v4.toInt - x6_6.toInt).toNat from (by first | omega | decide | (simp only [Int32.le_iff_toInt_le, Int32.lt_iff_toInt_lt, ti_add, ti_sub, ti_mul, Int32.reduceToInt] at *; omega)))
    · refine ok_gR (v := 107) hT rfl (hR 99 4 rfl) ?_
      refine ok_aIn rfl (by first | omega | decide | (simp only [Int32.le_iff_toInt_le, Int32.lt_iff_toInt_lt, ti_add, ti_sub, ti_mul, Int32.reduceToInt] at *; omega)) (by first | omega | decide | (simp only [Int32.le_iff_toInt_le, Int32.lt_iff_toInt_lt, ti_add, ti_sub, ti_mul, Int32.reduceToInt] at *; omega)) (fun v12 ev12 => ?_)
      exact ih22_6 (x5_6 + v12, x6_6 + 1, σ9) (show Tr [107] σ0 σ9 ∧ (0 ≤ (x6_6 + 1).toInt) from ⟨hT, (by first | omega | decide | (simp only [Int32.le_iff_toInt_le, Int32.lt_iff_toInt_lt, ti_add, ti_sub, ti_mul, Int32.reduceToInt] at *; omega))⟩) (show (v4.toInt - (x6_6 + 1).toInt).toNat < (v4.toInt - x6_6.toInt).toNat from (by first | omega | decide | (simp only [Int32.le_iff_toInt_le, Int32.lt_iff_toInt_lt, ti_add, ti_sub, ti_mul, Int32.reduceToInt] at *; omega)))

set_option maxHeartbeats 4000000 in
set_option maxRecDepth 100000 in
theorem s_X0_combine {N : Nat} (hN : 1048576 ≤ N) {x1 : Int32} {x2 : Nat} {x3 : Nat} {x4 : Int32} {σ0 : zS}  (hR : RF σ0.2.2) (h_x2 : (zKd x2).1 = 2) (h_x3 : (zKd x3).1 = 2) (hn : x4.toInt ≤ 100) : Ok (f_X0_combine N 99 x1 x2 x3 x4 σ0) (fun r => Tr [106, 107] σ0 r.2 ∧ (True)) := by
  have hT : Tr [106, 107] σ0 σ0 := Tr.rf
  rw [f_X0_combine.eq_1]
  refine ok_if (fun hc1 => ?_) (fun hc1 => ?_)
  · refine ok_gC h_x2 ?_
    refine ok_zbT (Q := fun V σ => True) hT (s_X2_join hN (hR.tr hT) h_x2 h_x3) (fun _ h9 => absurd h9 List.not_mem_nil) (fun v2 σ3 hOσ3 hT hqv2 => ?_)
    exact ok_some ⟨hT, trivial⟩
  refine ok_if (fun hc4 => ?_) (fun hc4 => ?_)
  · refine ok_gC h_x2 ?_
    refine ok_zbT (Q := fun V σ => True) hT (s_X2_takeAway hN (hR.tr hT) h_x2 h_x3) (fun _ h9 => absurd h9 List.not_mem_nil) (fun v5 σ6 hOσ6 hT hqv5 => ?_)
    exact ok_some ⟨hT, trivial⟩
  refine ok_if (fun hc7 => ?_) (fun hc7 => ?_)
  · refine ok_gC h_x2 ?_
    refine ok_zbT (Q := fun V σ => True) hT (s_X2_cutBy hN (hR.tr hT) h_x2 h_x3) (fun _ h9 => absurd h9 List.not_mem_nil) (fun v8 σ9 hOσ9 hT hqv8 => ?_)
    exact ok_some ⟨hT, trivial⟩
  refine ok_if (fun hc10 => ?_) (fun hc10 => ?_)
  · refine ok_gC rfl ?_
    refine ok_zbT (Q := fun V σ => True) hT (s_X0_multiply hN (hR.tr hT) h_x2 h_x3) (by decide) (fun v11 σ12 hOσ12 hT hqv11 => ?_)
    exact ok_some ⟨hT, trivial⟩
  refine ok_if (fun hc13 => ?_) (fun hc13 => ?_)
  · refine ok_gC rfl ?_
    refine ok_zbT (Q := fun V σ => True) hT (s_X0_divide hN (hR.tr hT) h_x2 h_x3 (by first | omega | decide | (simp only [Int32.le_iff_toInt_le, Int32.lt_iff_toInt_lt, ti_add, ti_sub, ti_mul, Int32.reduceToInt] at *; omega))) (fun _ h9 => absurd h9 List.not_mem_nil) (fun v14 σ15 hOσ15 hT hqv14 => ?_)
    exact ok_some ⟨hT, trivial⟩
  refine ok_if (fun hc16 => ?_) (fun hc16 => ?_)
  · refine ok_gR (v := 104) hT rfl (hR 99 2 rfl) ?_
    refine ok_gC rfl ?_
    refine ok_zbT (Q := fun V σ => True) hT (s_X2_copyFrom hN (hR.tr hT) rfl h_x2) (fun _ h9 => absurd h9 List.not_mem_nil) (fun v18 σ19 hOσ19 hT hqv18 => ?_)
    refine ok_gC rfl ?_
    refine ok_zbT (Q := fun V σ => True) hT (s_X0_divide hN (hR.tr hT) h_x2 h_x3 (by first | omega | decide | (simp only [Int32.le_iff_toInt_le, Int32.lt_iff_toInt_lt, ti_add, ti_sub, ti_mul, Int32.reduceToInt] at *; omega))) (fun _ h9 => absurd h9 List.not_mem_nil) (fun v20 σ21 hOσ21 hT hqv20 => ?_)
    refine ok_gC rfl ?_
    refine ok_zbT (Q := fun V σ => True) hT (s_X0_multiply hN (hR.tr hT) h_x2 h_x3) (by decide) (fun v22 σ23 hOσ23 hT hqv22 => ?_)
    refine ok_gR (v := 104) hT rfl (hR 99 2 rfl) ?_
    refine ok_gC rfl ?_
    refine ok_zbT (Q := fun V σ => True) hT (s_X2_takeAway hN (hR.tr hT) rfl h_x2) (fun _ h9 => absurd h9 List.not_mem_nil) (fun v25 σ26 hOσ26 hT hqv25 => ?_)
    refine ok_gR (v := 104) hT rfl (hR 99 2 rfl) ?_
    refine ok_gC h_x2 ?_
    refine ok_zbT (Q := fun V σ => True) hT (s_X2_copyFrom hN (hR.tr hT) h_x2 rfl) (fun _ h9 => absurd h9 List.not_mem_nil) (fun v28 σ29 hOσ29 hT hqv28 => ?_)
    exact ok_some ⟨hT, trivial⟩
  refine ok_gR (v := 100) hT rfl (hR 99 0 rfl) ?_
  refine ok_gC rfl ?_
  refine ok_zbT (Q := fun V σ => True) hT (s_X2_copyFrom hN (hR.tr hT) rfl h_x3) (fun _ h9 => absurd h9 List.not_mem_nil) (fun v31 σ32 hOσ32 hT hqv31 => ?_)
  refine ok_gR (v := 100) hT rfl (hR 99 0 rfl) ?_
  refine ok_gC rfl ?_
  refine ok_zbT (Q := fun V σ => True) hT (s_X0_becomeMissing hN (hR.tr hT) rfl (by first | omega | decide | (simp only [Int32.le_iff_toInt_le, Int32.lt_iff_toInt_lt, ti_add, ti_sub, ti_mul, Int32.reduceToInt] at *; omega))) (fun _ h9 => absurd h9 List.not_mem_nil) (fun v34 σ35 hOσ35 hT hqv34 => ?_)
  refine ok_gR (v := 100) hT rfl (hR 99 0 rfl) ?_
  refine ok_gC h_x2 ?_
  refine ok_zbT (Q := fun V σ => True) hT (s_X2_takeAway hN (hR.tr hT) h_x2 rfl) (fun _ h9 => absurd h9 List.not_mem_nil) (fun v37 σ38 hOσ38 hT hqv37 => ?_)
  exact ok_some ⟨hT, trivial⟩

set_option maxHeartbeats 4000000 in
set_option maxRecDepth 100000 in
theorem s_X0_reshape {N : Nat} (hN : 1048576 ≤ N) {x1 : Int32} {x2 : Nat} {x3 : Int32} {σ0 : zS}  (hR : RF σ0.2.2) (h_x2 : (zKd x2).1 = 2) (hn : x3.toInt ≤ 100) : Ok (f_X0_reshape N 99 x1 x2 x3 σ0) (fun r => Tr [] σ0 r.2 ∧ (True)) := by
  have hT : Tr [] σ0 σ0 := Tr.rf
  rw [f_X0_reshape.eq_1]
  refine ok_if (fun hc1 => ?_) (fun hc1 => ?_)
  · refine ok_gC rfl ?_
    refine ok_zbT (Q := fun V σ => True) hT (s_X0_keepLeast hN (hR.tr hT) h_x2 (by first | omega | decide | (simp only [Int32.le_iff_toInt_le, Int32.lt_iff_toInt_lt, ti_add, ti_sub, ti_mul, Int32.reduceToInt] at *; omega))) (fun _ h9 => absurd h9 List.not_mem_nil) (fun v2 σ3 hOσ3 hT hqv2 => ?_)
    exact ok_some ⟨hT, trivial⟩
  refine ok_if (fun hc4 => ?_) (fun hc4 => ?_)
  · refine ok_gC rfl ?_
    refine ok_zbT (Q := fun V σ => True) hT (s_X0_keepGreatest hN (hR.tr hT) h_x2 (by first | omega | decide | (simp only [Int32.le_iff_toInt_le, Int32.lt_iff_toInt_lt, ti_add, ti_sub, ti_mul, Int32.reduceToInt] at *; omega))) (fun _ h9 => absurd h9 List.not_mem_nil) (fun v5 σ6 hOσ6 hT hqv5 => ?_)
    exact ok_some ⟨hT, trivial⟩
  refine ok_if (fun hc7 => ?_) (fun hc7 => ?_)
  · refine ok_gC rfl ?_
    refine ok_zbT (Q := fun V σ => True) hT (s_X0_becomeMissing hN (hR.tr hT) h_x2 (by first | omega | decide | (simp only [Int32.le_iff_toInt_le, Int32.lt_iff_toInt_lt, ti_add, ti_sub, ti_mul, Int32.reduceToInt] at *; omega))) (fun _ h9 => absurd h9 List.not_mem_nil) (fun v8 σ9 hOσ9 hT hqv8 => ?_)
    refine ok_gC rfl ?_
    refine ok_zbT (Q := fun V σ => True) hT (s_X0_complement hN (hR.tr hT) h_x2) (fun _ h9 => absurd h9 List.not_mem_nil) (fun v10 σ11 hOσ11 hT hqv10 => ?_)
    refine ok_gC rfl ?_
    refine ok_zbT (Q := fun V σ => True) hT (s_X0_keepLeast hN (hR.tr hT) h_x2 (by first | omega | decide | (simp only [Int32.le_iff_toInt_le, Int32.lt_iff_toInt_lt, ti_add, ti_sub, ti_mul, Int32.reduceToInt] at *; omega))) (fun _ h9 => absurd h9 List.not_mem_nil) (fun v12 σ13 hOσ13 hT hqv12 => ?_)
    exact ok_some ⟨hT, trivial⟩
  refine ok_if (fun hc14 => ?_) (fun hc14 => ?_)
  · refine ok_gC rfl ?_
    refine ok_zbT (Q := fun V σ => True) hT (s_X0_complement hN (hR.tr hT) h_x2) (fun _ h9 => absurd h9 List.not_mem_nil) (fun v15 σ16 hOσ16 hT hqv15 => ?_)
    exact ok_some ⟨hT, trivial⟩
  refine ok_if (fun hc17 => ?_) (fun hc17 => ?_)
  · refine ok_gC rfl ?_
    refine ok_zbT (Q := fun V σ => True) hT (s_X0_raiseAll hN (hR.tr hT) h_x2 (by first | omega | decide | (simp only [Int32.le_iff_toInt_le, Int32.lt_iff_toInt_lt, ti_add, ti_sub, ti_mul, Int32.reduceToInt] at *; omega))) (fun _ h9 => absurd h9 List.not_mem_nil) (fun v18 σ19 hOσ19 hT hqv18 => ?_)
    exact ok_some ⟨hT, trivial⟩
  refine ok_if (fun hc20 => ?_) (fun hc20 => ?_)
  · refine ok_gC rfl ?_
    refine ok_zbT (Q := fun V σ => True) hT (s_X0_lowerAll hN (hR.tr hT) h_x2 (by first | omega | decide | (simp only [Int32.le_iff_toInt_le, Int32.lt_iff_toInt_lt, ti_add, ti_sub, ti_mul, Int32.reduceToInt] at *; omega))) (fun _ h9 => absurd h9 List.not_mem_nil) (fun v21 σ22 hOσ22 hT hqv21 => ?_)
    exact ok_some ⟨hT, trivial⟩
  exact ok_some ⟨hT, trivial⟩

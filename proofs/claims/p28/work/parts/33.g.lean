section Zq3_0
set_option maxHeartbeats 4000000 in
set_option maxRecDepth 100000 in
theorem s_X7_isRegisterNumber {N : Nat} (hN : 1048576 ≤ N) {x0 : Int32} {σ0 : zS}  (hR : RF σ0.2.2)  : Ok (f_X7_isRegisterNumber N x0 σ0) (fun r => Tr [] σ0 r.2 ∧ ((r.1 = 0 ∨ r.1 = 1) ∧ (¬ r.1 = 0 → 0 ≤ x0.toInt ∧ x0.toInt ≤ 9))) := by
  have hT : Tr [] σ0 σ0 := Tr.rf
  rw [f_X7_isRegisterNumber.eq_1]
  refine ok_if (fun hc1 => ?_) (fun hc1 => ?_)
  · exact ok_rZ (Or.inl rfl) ⟨hT, (show ((0 : Int32) = 0 ∨ (0 : Int32) = 1) ∧ (¬ (0 : Int32) = 0 → 0 ≤ x0.toInt ∧ x0.toInt ≤ 9) from by first | exact ⟨Or.inl rfl, fun h9 => absurd rfl h9⟩ | exact ⟨Or.inr rfl, fun _ => by simp only [Int32.le_iff_toInt_le, Int32.lt_iff_toInt_lt, ti_add, ti_sub, ti_mul, Int32.reduceToInt] at *; omega⟩)⟩
  · refine ok_if (fun hc2 => ?_) (fun hc2 => ?_)
    · exact ok_rZ (Or.inl rfl) ⟨hT, (show ((0 : Int32) = 0 ∨ (0 : Int32) = 1) ∧ (¬ (0 : Int32) = 0 → 0 ≤ x0.toInt ∧ x0.toInt ≤ 9) from by first | exact ⟨Or.inl rfl, fun h9 => absurd rfl h9⟩ | exact ⟨Or.inr rfl, fun _ => by simp only [Int32.le_iff_toInt_le, Int32.lt_iff_toInt_lt, ti_add, ti_sub, ti_mul, Int32.reduceToInt] at *; omega⟩)⟩
    · exact ok_rZ (Or.inr rfl) ⟨hT, (show ((1 : Int32) = 0 ∨ (1 : Int32) = 1) ∧ (¬ (1 : Int32) = 0 → 0 ≤ x0.toInt ∧ x0.toInt ≤ 9) from by first | exact ⟨Or.inl rfl, fun h9 => absurd rfl h9⟩ | exact ⟨Or.inr rfl, fun _ => by simp only [Int32.le_iff_toInt_le, Int32.lt_iff_toInt_lt, ti_add, ti_sub, ti_mul, Int32.reduceToInt] at *; omega⟩)⟩

set_option maxHeartbeats 4000000 in
set_option maxRecDepth 100000 in
theorem s_X7_top {N : Nat} (hN : 1048576 ≤ N) {x1 : Int32} {σ0 : zS}  (hR : RF σ0.2.2)  : Ok (f_X7_top N 65 x1 σ0) (fun r => Tr [] σ0 r.2 ∧ ((zKd r.1).1 = 2)) := by
  have hT : Tr [] σ0 σ0 := Tr.rf
  rw [f_X7_top.eq_1]
  refine ok_gI0 hT rfl (by decide) ?_
  refine ok_gR (v := 66) hT rfl (hR 65 0 rfl) ?_
  obtain ⟨q4, eq4, kq4⟩ := arrF hR (k := 66) (i := zmax 0 (zmin 15 (((σ0.1 65 1) - 1) - x1))) rfl (by exact (ti_mm15 _).1) (by exact Int.lt_of_le_of_lt (ti_mm15 _).2 (by decide))
  refine ok_aR (v := q4) hT rfl (by exact (ti_mm15 _).1) (by exact Int.lt_of_le_of_lt (ti_mm15 _).2 (by decide)) eq4 ?_
  exact ok_some ⟨hT, (show (zKd q4).1 = 2 from by assumption)⟩

set_option maxHeartbeats 4000000 in
set_option maxRecDepth 100000 in
theorem s_X7_pushed {N : Nat} (hN : 1048576 ≤ N)  {σ0 : zS}  (hR : RF σ0.2.2)  : Ok (f_X7_pushed N 65 σ0) (fun r => Tr [65] σ0 r.2 ∧ ((zKd r.1).1 = 2)) := by
  have hT : Tr [65] σ0 σ0 := Tr.rf
  rw [f_X7_pushed.eq_1]
  refine ok_gI rfl ?_
  refine ok_pI hT rfl (by decide) (fun σ2 eσ2 hOσ2 hT => ?_)
  refine ok_gC rfl ?_
  refine ok_zbT (Q := fun V σ => (zKd V).1 = 2) hT (s_X7_top hN (hR.tr hT) ) (fun _ h9 => absurd h9 List.not_mem_nil) (fun v3 σ4 hOσ4 hT hqv3 => ?_)
  have hqv3 : (zKd v3).1 = 2 := hqv3
  exact ok_some ⟨hT, (show (zKd v3).1 = 2 from by assumption)⟩

set_option maxHeartbeats 4000000 in
set_option maxRecDepth 100000 in
theorem s_X7_doStep_2_99 {N : Nat} (hN : 1048576 ≤ N) {x1 : Int32} {x2 : Int32} {σ0 : zS}  (hR : RF σ0.2.2) (hn : 0 ≤ (σ0.1 2 0).toInt ∧ (σ0.1 2 0).toInt ≤ 10) : Ok (f_X7_doStep N 65 x1 x2 2 99 σ0) (fun r => Tr [65, 106, 107] σ0 r.2 ∧ (True)) := by
  have hT : Tr [65, 106, 107] σ0 σ0 := Tr.rf
  rw [f_X7_doStep.eq_1]
  refine ok_if (fun hc1 => ?_) (fun hc1 => ?_)
  · refine ok_zbT (Q := fun V σ => (V = 0 ∨ V = 1) ∧ (¬ V = 0 → 0 ≤ x2.toInt ∧ x2.toInt ≤ 9)) hT (s_X7_isRegisterNumber hN (hR.tr hT) ) (fun _ h9 => absurd h9 List.not_mem_nil) (fun v2 σ3 hOσ3 hT hqv2 => ?_)
    have hqv2 : (v2 = 0 ∨ v2 = 1) ∧ (¬ v2 = 0 → 0 ≤ x2.toInt ∧ x2.toInt ≤ 9) := hqv2
    refine ok_if (fun hc4 => ?_) (fun hc4 => ?_)
    · exact ok_some ⟨hT, trivial⟩
    · have qhc4 := hqv2.2 hc4
      have q1 := hqv2.2 hc4
      refine ok_gC rfl ?_
      refine ok_zbT (Q := fun V σ => (zKd V).1 = 2) hT (s_X7_pushed hN (hR.tr hT) ) (by decide) (fun v5 σ6 hOσ6 hT hqv5 => ?_)
      have hqv5 : (zKd v5).1 = 2 := hqv5
      refine ok_gR (v := 7) hT rfl (hR 2 7 rfl) ?_
      obtain ⟨q9, eq9, kq9⟩ := arrF hR (k := 7) (i := x2) rfl (by first | omega | decide | (simp only [Int32.le_iff_toInt_le, Int32.lt_iff_toInt_lt, ti_add, ti_sub, ti_mul, Int32.reduceToInt] at *; omega)) (by first | omega | decide | (simp only [Int32.le_iff_toInt_le, Int32.lt_iff_toInt_lt, ti_add, ti_sub, ti_mul, Int32.reduceToInt] at *; omega))
      refine ok_aR (v := q9) hT rfl (by first | omega | decide | (simp only [Int32.le_iff_toInt_le, Int32.lt_iff_toInt_lt, ti_add, ti_sub, ti_mul, Int32.reduceToInt] at *; omega)) (by first | omega | decide | (simp only [Int32.le_iff_toInt_le, Int32.lt_iff_toInt_lt, ti_add, ti_sub, ti_mul, Int32.reduceToInt] at *; omega)) eq9 ?_
      refine ok_gC hqv5 ?_
      refine ok_zbT (Q := fun V σ => True) hT (s_X2_copyFrom hN (hR.tr hT) hqv5 kq9) (fun _ h9 => absurd h9 List.not_mem_nil) (fun v10 σ11 hOσ11 hT hqv10 => ?_)
      exact ok_some ⟨hT, trivial⟩
  refine ok_if (fun hc12 => ?_) (fun hc12 => ?_)
  · refine ok_gC rfl ?_
    refine ok_zbT (Q := fun V σ => (zKd V).1 = 2) hT (s_X7_pushed hN (hR.tr hT) ) (by decide) (fun v13 σ14 hOσ14 hT hqv13 => ?_)
    have hqv13 : (zKd v13).1 = 2 := hqv13
    refine ok_gC hqv13 ?_
    refine ok_zbT (Q := fun V σ => True) hT (s_X2_clear hN (hR.tr hT) hqv13) (fun _ h9 => absurd h9 List.not_mem_nil) (fun v15 σ16 hOσ16 hT hqv15 => ?_)
    exact ok_some ⟨hT, trivial⟩
  refine ok_if (fun hc17 => ?_) (fun hc17 => ?_)
  · refine ok_gC rfl ?_
    refine ok_zbT (Q := fun V σ => (zKd V).1 = 2) hT (s_X7_pushed hN (hR.tr hT) ) (by decide) (fun v18 σ19 hOσ19 hT hqv18 => ?_)
    have hqv18 : (zKd v18).1 = 2 := hqv18
    refine ok_gI0 hT rfl (by decide) ?_
    refine ok_gC hqv18 ?_
    refine ok_zbT (Q := fun V σ => True) hT (s_X2_becomeAll hN (hR.tr hT) hqv18) (fun _ h9 => absurd h9 List.not_mem_nil) (fun v21 σ22 hOσ22 hT hqv21 => ?_)
    exact ok_some ⟨hT, trivial⟩
  refine ok_if (fun hc23 => ?_) (fun hc23 => ?_)
  · refine ok_gC rfl ?_
    refine ok_zbT (Q := fun V σ => (zKd V).1 = 2) hT (s_X7_top hN (hR.tr hT) ) (fun _ h9 => absurd h9 List.not_mem_nil) (fun v24 σ25 hOσ25 hT hqv24 => ?_)
    have hqv24 : (zKd v24).1 = 2 := hqv24
    refine ok_gC hqv24 ?_
    refine ok_zbT (Q := fun V σ => True) hT (s_X2_include hN (hR.tr hT) hqv24) (fun _ h9 => absurd h9 List.not_mem_nil) (fun v26 σ27 hOσ27 hT hqv26 => ?_)
    exact ok_some ⟨hT, trivial⟩
  refine ok_if (fun hc28 => ?_) (fun hc28 => ?_)
  · refine ok_gC rfl ?_
    refine ok_zbT (Q := fun V σ => (zKd V).1 = 2) hT (s_X7_top hN (hR.tr hT) ) (fun _ h9 => absurd h9 List.not_mem_nil) (fun v29 σ30 hOσ30 hT hqv29 => ?_)
    have hqv29 : (zKd v29).1 = 2 := hqv29
    refine ok_gC rfl ?_
    refine ok_zbT (Q := fun V σ => (zKd V).1 = 2) hT (s_X7_top hN (hR.tr hT) ) (fun _ h9 => absurd h9 List.not_mem_nil) (fun v31 σ32 hOσ32 hT hqv31 => ?_)
    have hqv31 : (zKd v31).1 = 2 := hqv31
    refine ok_gI0 hT rfl (by decide) ?_
    refine ok_gC rfl ?_
    refine ok_zbT (Q := fun V σ => True) hT (s_X0_combine hN (hR.tr hT) hqv29 hqv31 (by first | omega | decide | (simp only [Int32.le_iff_toInt_le, Int32.lt_iff_toInt_lt, ti_add, ti_sub, ti_mul, Int32.reduceToInt] at *; omega))) (by decide) (fun v34 σ35 hOσ35 hT hqv34 => ?_)
    refine ok_gI rfl ?_
    refine ok_pI hT rfl (by decide) (fun σ37 eσ37 hOσ37 hT => ?_)
    exact ok_some ⟨hT, trivial⟩
  refine ok_if (fun hc38 => ?_) (fun hc38 => ?_)
  · refine ok_gC rfl ?_
    refine ok_zbT (Q := fun V σ => (zKd V).1 = 2) hT (s_X7_top hN (hR.tr hT) ) (fun _ h9 => absurd h9 List.not_mem_nil) (fun v39 σ40 hOσ40 hT hqv39 => ?_)
    have hqv39 : (zKd v39).1 = 2 := hqv39
    refine ok_gI0 hT rfl (by decide) ?_
    refine ok_gC rfl ?_
    refine ok_zbT (Q := fun V σ => True) hT (s_X0_reshape hN (hR.tr hT) hqv39 (by first | omega | decide | (simp only [Int32.le_iff_toInt_le, Int32.lt_iff_toInt_lt, ti_add, ti_sub, ti_mul, Int32.reduceToInt] at *; omega))) (fun _ h9 => absurd h9 List.not_mem_nil) (fun v42 σ43 hOσ43 hT hqv42 => ?_)
    exact ok_some ⟨hT, trivial⟩
  refine ok_zbT (Q := fun V σ => (V = 0 ∨ V = 1) ∧ (¬ V = 0 → 0 ≤ x2.toInt ∧ x2.toInt ≤ 9)) hT (s_X7_isRegisterNumber hN (hR.tr hT) ) (fun _ h9 => absurd h9 List.not_mem_nil) (fun v44 σ45 hOσ45 hT hqv44 => ?_)
  have hqv44 : (v44 = 0 ∨ v44 = 1) ∧ (¬ v44 = 0 → 0 ≤ x2.toInt ∧ x2.toInt ≤ 9) := hqv44
  refine ok_if (fun hc46 => ?_) (fun hc46 => ?_)
  · refine ok_pI hT rfl (by decide) (fun σ47 eσ47 hOσ47 hT => ?_)
    exact ok_some ⟨hT, trivial⟩
  · have qhc46 := hqv44.2 hc46
    have q1 := hqv44.2 hc46
    refine ok_gR (v := 7) hT rfl (hR 2 7 rfl) ?_
    obtain ⟨q50, eq50, kq50⟩ := arrF hR (k := 7) (i := x2) rfl (by first | omega | decide | (simp only [Int32.le_iff_toInt_le, Int32.lt_iff_toInt_lt, ti_add, ti_sub, ti_mul, Int32.reduceToInt] at *; omega)) (by first | omega | decide | (simp only [Int32.le_iff_toInt_le, Int32.lt_iff_toInt_lt, ti_add, ti_sub, ti_mul, Int32.reduceToInt] at *; omega))
    refine ok_aR (v := q50) hT rfl (by first | omega | decide | (simp only [Int32.le_iff_toInt_le, Int32.lt_iff_toInt_lt, ti_add, ti_sub, ti_mul, Int32.reduceToInt] at *; omega)) (by first | omega | decide | (simp only [Int32.le_iff_toInt_le, Int32.lt_iff_toInt_lt, ti_add, ti_sub, ti_mul, Int32.reduceToInt] at *; omega)) eq50 ?_
    refine ok_gC rfl ?_
    refine ok_zbT (Q := fun V σ => (zKd V).1 = 2) hT (s_X7_top hN (hR.tr hT) ) (fun _ h9 => absurd h9 List.not_mem_nil) (fun v51 σ52 hOσ52 hT hqv51 => ?_)
    have hqv51 : (zKd v51).1 = 2 := hqv51
    refine ok_gC kq50 ?_
    refine ok_zbT (Q := fun V σ => True) hT (s_X2_copyFrom hN (hR.tr hT) kq50 hqv51) (fun _ h9 => absurd h9 List.not_mem_nil) (fun v53 σ54 hOσ54 hT hqv53 => ?_)
    refine ok_pI hT rfl (by decide) (fun σ55 eσ55 hOσ55 hT => ?_)
    exact ok_some ⟨hT, trivial⟩

set_option maxHeartbeats 4000000 in
set_option maxRecDepth 100000 in
theorem s_X7_run_57_2_99 {N : Nat} (hN : 1048576 ≤ N)  {σ0 : zS}  (hR : RF σ0.2.2) (hn : 0 ≤ (σ0.1 2 0).toInt ∧ (σ0.1 2 0).toInt ≤ 10) : Ok (f_X7_run N 65 57 2 99 σ0) (fun r => Tr [65, 106, 107] σ0 r.2 ∧ (True)) := by
  have hT : Tr [65, 106, 107] σ0 σ0 := Tr.rf
  rw [f_X7_run.eq_1]
  refine ok_pI hT rfl (by decide) (fun σ1 eσ1 hOσ1 hT => ?_)
  refine ok_lp (fun t : Int32 × zS => Tr [65, 106, 107] σ0 (t.2) ∧ (0 ≤ (t.1).toInt)) (fun t : Int32 × zS => (601 - (t.1).toInt).toNat) (fun again2 t hI ih8_2 => ?_) N _ (show Tr [65, 106, 107] σ0 σ1 ∧ (0 ≤ (0 : Int32).toInt) from ⟨hT, (by first | omega | decide | (simp only [Int32.le_iff_toInt_le, Int32.lt_iff_toInt_lt, ti_add, ti_sub, ti_mul, Int32.reduceToInt] at *; omega))⟩) (show (601 - (0 : Int32).toInt).toNat < N from (by first | omega | decide | (simp only [Int32.le_iff_toInt_le, Int32.lt_iff_toInt_lt, ti_add, ti_sub, ti_mul, Int32.reduceToInt] at *; omega)))
  obtain ⟨x4_2, σ2⟩ := t
  have hI : Tr [65, 106, 107] σ0 σ2 ∧ (0 ≤ x4_2.toInt) := hI
  obtain ⟨hT, hI2⟩ := hI
  rw [F_X7_run_8.eq_1]
  refine ok_gI0 hT rfl (by decide) ?_
  refine ok_if (fun hc4 => ?_) (fun hc4 => ?_)
  · exact ok_some ⟨hT, trivial⟩
  · refine ok_gR (v := 58) hT rfl (hR 57 3 rfl) ?_
    refine ok_aL (n := 601) rfl ?_
    rw [show Int32.ofNat 601 = 601 from rfl]
    refine ok_if (fun hc7 => ?_) (fun hc7 => ?_)
    · exact ok_some ⟨hT, trivial⟩
    · refine ok_gR (v := 58) hT rfl (hR 57 3 rfl) ?_
      refine ok_aIn rfl (by first | omega | decide | (simp only [Int32.le_iff_toInt_le, Int32.lt_iff_toInt_lt, ti_add, ti_sub, ti_mul, Int32.reduceToInt] at *; omega)) (by first | omega | decide | (simp only [Int32.le_iff_toInt_le, Int32.lt_iff_toInt_lt, ti_add, ti_sub, ti_mul, Int32.reduceToInt] at *; omega)) (fun v9 ev9 => ?_)
      refine ok_gR (v := 59) hT rfl (hR 57 4 rfl) ?_
      refine ok_aIn rfl (by first | omega | decide | (simp only [Int32.le_iff_toInt_le, Int32.lt_iff_toInt_lt, ti_add, ti_sub, ti_mul, Int32.reduceToInt] at *; omega)) (by first | omega | decide | (simp only [Int32.le_iff_toInt_le, Int32.lt_iff_toInt_lt, ti_add, ti_sub, ti_mul, Int32.reduceToInt] at *; omega)) (fun v11 ev11 => ?_)
      refine ok_gC rfl ?_
      refine ok_zbT (Q := fun V σ => True) hT (s_X7_doStep_2_99 hN (hR.tr hT) (by first | exact hn | (rw [hT.2 2 (by decide)]; exact hn))) (by decide) (fun v12 σ13 hOσ13 hT hqv12 => ?_)
      exact ih8_2 (x4_2 + 1, σ13) (show Tr [65, 106, 107] σ0 σ13 ∧ (0 ≤ (x4_2 + 1).toInt) from ⟨hT, (by first | omega | decide | (simp only [Int32.le_iff_toInt_le, Int32.lt_iff_toInt_lt, ti_add, ti_sub, ti_mul, Int32.reduceToInt] at *; omega))⟩) (show (601 - (x4_2 + 1).toInt).toNat < (601 - x4_2.toInt).toNat from (by first | omega | decide | (simp only [Int32.le_iff_toInt_le, Int32.lt_iff_toInt_lt, ti_add, ti_sub, ti_mul, Int32.reduceToInt] at *; omega)))

set_option maxHeartbeats 4000000 in
set_option maxRecDepth 100000 in
theorem s_X7_doStep_28_99 {N : Nat} (hN : 1048576 ≤ N) {x1 : Int32} {x2 : Int32} {σ0 : zS}  (hR : RF σ0.2.2) (hn : 0 ≤ (σ0.1 28 0).toInt ∧ (σ0.1 28 0).toInt ≤ 10) : Ok (f_X7_doStep N 65 x1 x2 28 99 σ0) (fun r => Tr [65, 106, 107] σ0 r.2 ∧ (True)) := by
  have hT : Tr [65, 106, 107] σ0 σ0 := Tr.rf
  rw [f_X7_doStep.eq_1]
  refine ok_if (fun hc1 => ?_) (fun hc1 => ?_)
  · refine ok_zbT (Q := fun V σ => (V = 0 ∨ V = 1) ∧ (¬ V = 0 → 0 ≤ x2.toInt ∧ x2.toInt ≤ 9)) hT (s_X7_isRegisterNumber hN (hR.tr hT) ) (fun _ h9 => absurd h9 List.not_mem_nil) (fun v2 σ3 hOσ3 hT hqv2 => ?_)
    have hqv2 : (v2 = 0 ∨ v2 = 1) ∧ (¬ v2 = 0 → 0 ≤ x2.toInt ∧ x2.toInt ≤ 9) := hqv2
    refine ok_if (fun hc4 => ?_) (fun hc4 => ?_)
    · exact ok_some ⟨hT, trivial⟩
    · have qhc4 := hqv2.2 hc4
      have q1 := hqv2.2 hc4
      refine ok_gC rfl ?_
      refine ok_zbT (Q := fun V σ => (zKd V).1 = 2) hT (s_X7_pushed hN (hR.tr hT) ) (by decide) (fun v5 σ6 hOσ6 hT hqv5 => ?_)
      have hqv5 : (zKd v5).1 = 2 := hqv5
      refine ok_gR (v := 33) hT rfl (hR 28 7 rfl) ?_
      obtain ⟨q9, eq9, kq9⟩ := arrF hR (k := 33) (i := x2) rfl (by first | omega | decide | (simp only [Int32.le_iff_toInt_le, Int32.lt_iff_toInt_lt, ti_add, ti_sub, ti_mul, Int32.reduceToInt] at *; omega)) (by first | omega | decide | (simp only [Int32.le_iff_toInt_le, Int32.lt_iff_toInt_lt, ti_add, ti_sub, ti_mul, Int32.reduceToInt] at *; omega))
      refine ok_aR (v := q9) hT rfl (by first | omega | decide | (simp only [Int32.le_iff_toInt_le, Int32.lt_iff_toInt_lt, ti_add, ti_sub, ti_mul, Int32.reduceToInt] at *; omega)) (by first | omega | decide | (simp only [Int32.le_iff_toInt_le, Int32.lt_iff_toInt_lt, ti_add, ti_sub, ti_mul, Int32.reduceToInt] at *; omega)) eq9 ?_
      refine ok_gC hqv5 ?_
      refine ok_zbT (Q := fun V σ => True) hT (s_X2_copyFrom hN (hR.tr hT) hqv5 kq9) (fun _ h9 => absurd h9 List.not_mem_nil) (fun v10 σ11 hOσ11 hT hqv10 => ?_)
      exact ok_some ⟨hT, trivial⟩
  refine ok_if (fun hc12 => ?_) (fun hc12 => ?_)
  · refine ok_gC rfl ?_
    refine ok_zbT (Q := fun V σ => (zKd V).1 = 2) hT (s_X7_pushed hN (hR.tr hT) ) (by decide) (fun v13 σ14 hOσ14 hT hqv13 => ?_)
    have hqv13 : (zKd v13).1 = 2 := hqv13
    refine ok_gC hqv13 ?_
    refine ok_zbT (Q := fun V σ => True) hT (s_X2_clear hN (hR.tr hT) hqv13) (fun _ h9 => absurd h9 List.not_mem_nil) (fun v15 σ16 hOσ16 hT hqv15 => ?_)
    exact ok_some ⟨hT, trivial⟩
  refine ok_if (fun hc17 => ?_) (fun hc17 => ?_)
  · refine ok_gC rfl ?_
    refine ok_zbT (Q := fun V σ => (zKd V).1 = 2) hT (s_X7_pushed hN (hR.tr hT) ) (by decide) (fun v18 σ19 hOσ19 hT hqv18 => ?_)
    have hqv18 : (zKd v18).1 = 2 := hqv18
    refine ok_gI0 hT rfl (by decide) ?_
    refine ok_gC hqv18 ?_
    refine ok_zbT (Q := fun V σ => True) hT (s_X2_becomeAll hN (hR.tr hT) hqv18) (fun _ h9 => absurd h9 List.not_mem_nil) (fun v21 σ22 hOσ22 hT hqv21 => ?_)
    exact ok_some ⟨hT, trivial⟩
  refine ok_if (fun hc23 => ?_) (fun hc23 => ?_)
  · refine ok_gC rfl ?_
    refine ok_zbT (Q := fun V σ => (zKd V).1 = 2) hT (s_X7_top hN (hR.tr hT) ) (fun _ h9 => absurd h9 List.not_mem_nil) (fun v24 σ25 hOσ25 hT hqv24 => ?_)
    have hqv24 : (zKd v24).1 = 2 := hqv24
    refine ok_gC hqv24 ?_
    refine ok_zbT (Q := fun V σ => True) hT (s_X2_include hN (hR.tr hT) hqv24) (fun _ h9 => absurd h9 List.not_mem_nil) (fun v26 σ27 hOσ27 hT hqv26 => ?_)
    exact ok_some ⟨hT, trivial⟩
  refine ok_if (fun hc28 => ?_) (fun hc28 => ?_)
  · refine ok_gC rfl ?_
    refine ok_zbT (Q := fun V σ => (zKd V).1 = 2) hT (s_X7_top hN (hR.tr hT) ) (fun _ h9 => absurd h9 List.not_mem_nil) (fun v29 σ30 hOσ30 hT hqv29 => ?_)
    have hqv29 : (zKd v29).1 = 2 := hqv29
    refine ok_gC rfl ?_
    refine ok_zbT (Q := fun V σ => (zKd V).1 = 2) hT (s_X7_top hN (hR.tr hT) ) (fun _ h9 => absurd h9 List.not_mem_nil) (fun v31 σ32 hOσ32 hT hqv31 => ?_)
    have hqv31 : (zKd v31).1 = 2 := hqv31
    refine ok_gI0 hT rfl (by decide) ?_
    refine ok_gC rfl ?_
    refine ok_zbT (Q := fun V σ => True) hT (s_X0_combine hN (hR.tr hT) hqv29 hqv31 (by first | omega | decide | (simp only [Int32.le_iff_toInt_le, Int32.lt_iff_toInt_lt, ti_add, ti_sub, ti_mul, Int32.reduceToInt] at *; omega))) (by decide) (fun v34 σ35 hOσ35 hT hqv34 => ?_)
    refine ok_gI rfl ?_
    refine ok_pI hT rfl (by decide) (fun σ37 eσ37 hOσ37 hT => ?_)
    exact ok_some ⟨hT, trivial⟩
  refine ok_if (fun hc38 => ?_) (fun hc38 => ?_)
  · refine ok_gC rfl ?_
    refine ok_zbT (Q := fun V σ => (zKd V).1 = 2) hT (s_X7_top hN (hR.tr hT) ) (fun _ h9 => absurd h9 List.not_mem_nil) (fun v39 σ40 hOσ40 hT hqv39 => ?_)
    have hqv39 : (zKd v39).1 = 2 := hqv39
    refine ok_gI0 hT rfl (by decide) ?_
    refine ok_gC rfl ?_
    refine ok_zbT (Q := fun V σ => True) hT (s_X0_reshape hN (hR.tr hT) hqv39 (by first | omega | decide | (simp only [Int32.le_iff_toInt_le, Int32.lt_iff_toInt_lt, ti_add, ti_sub, ti_mul, Int32.reduceToInt] at *; omega))) (fun _ h9 => absurd h9 List.not_mem_nil) (fun v42 σ43 hOσ43 hT hqv42 => ?_)
    exact ok_some ⟨hT, trivial⟩
  refine ok_zbT (Q := fun V σ => (V = 0 ∨ V = 1) ∧ (¬ V = 0 → 0 ≤ x2.toInt ∧ x2.toInt ≤ 9)) hT (s_X7_isRegisterNumber hN (hR.tr hT) ) (fun _ h9 => absurd h9 List.not_mem_nil) (fun v44 σ45 hOσ45 hT hqv44 => ?_)
  have hqv44 : (v44 = 0 ∨ v44 = 1) ∧ (¬ v44 = 0 → 0 ≤ x2.toInt ∧ x2.toInt ≤ 9) := hqv44
  refine ok_if (fun hc46 => ?_) (fun hc46 => ?_)
  · refine ok_pI hT rfl (by decide) (fun σ47 eσ47 hOσ47 hT => ?_)
    exact ok_some ⟨hT, trivial⟩
  · have qhc46 := hqv44.2 hc46
    have q1 := hqv44.2 hc46
    refine ok_gR (v := 33) hT rfl (hR 28 7 rfl) ?_
    obtain ⟨q50, eq50, kq50⟩ := arrF hR (k := 33) (i := x2) rfl (by first | omega | decide | (simp only [Int32.le_iff_toInt_le, Int32.lt_iff_toInt_lt, ti_add, ti_sub, ti_mul, Int32.reduceToInt] at *; omega)) (by first | omega | decide | (simp only [Int32.le_iff_toInt_le, Int32.lt_iff_toInt_lt, ti_add, ti_sub, ti_mul, Int32.reduceToInt] at *; omega))
    refine ok_aR (v := q50) hT rfl (by first | omega | decide | (simp only [Int32.le_iff_toInt_le, Int32.lt_iff_toInt_lt, ti_add, ti_sub, ti_mul, Int32.reduceToInt] at *; omega)) (by first | omega | decide | (simp only [Int32.le_iff_toInt_le, Int32.lt_iff_toInt_lt, ti_add, ti_sub, ti_mul, Int32.reduceToInt] at *; omega)) eq50 ?_
    refine ok_gC rfl ?_
    refine ok_zbT (Q := fun V σ => (zKd V).1 = 2) hT (s_X7_top hN (hR.tr hT) ) (fun _ h9 => absurd h9 List.not_mem_nil) (fun v51 σ52 hOσ52 hT hqv51 => ?_)
    have hqv51 : (zKd v51).1 = 2 := hqv51
    refine ok_gC kq50 ?_
    refine ok_zbT (Q := fun V σ => True) hT (s_X2_copyFrom hN (hR.tr hT) kq50 hqv51) (fun _ h9 => absurd h9 List.not_mem_nil) (fun v53 σ54 hOσ54 hT hqv53 => ?_)
    refine ok_pI hT rfl (by decide) (fun σ55 eσ55 hOσ55 hT => ?_)
    exact ok_some ⟨hT, trivial⟩

set_option maxHeartbeats 4000000 in
set_option maxRecDepth 100000 in
theorem s_X7_run_57_28_99 {N : Nat} (hN : 1048576 ≤ N)  {σ0 : zS}  (hR : RF σ0.2.2) (hn : 0 ≤ (σ0.1 28 0).toInt ∧ (σ0.1 28 0).toInt ≤ 10) : Ok (f_X7_run N 65 57 28 99 σ0) (fun r => Tr [65, 106, 107] σ0 r.2 ∧ (True)) := by
  have hT : Tr [65, 106, 107] σ0 σ0 := Tr.rf
  rw [f_X7_run.eq_1]
  refine ok_pI hT rfl (by decide) (fun σ1 eσ1 hOσ1 hT => ?_)
  refine ok_lp (fun t : Int32 × zS => Tr [65, 106, 107] σ0 (t.2) ∧ (0 ≤ (t.1).toInt)) (fun t : Int32 × zS => (601 - (t.1).toInt).toNat) (fun again2 t hI ih8_2 => ?_) N _ (show Tr [65, 106, 107] σ0 σ1 ∧ (0 ≤ (0 : Int32).toInt) from ⟨hT, (by first | omega | decide | (simp only [Int32.le_iff_toInt_le, Int32.lt_iff_toInt_lt, ti_add, ti_sub, ti_mul, Int32.reduceToInt] at *; omega))⟩) (show (601 - (0 : Int32).toInt).toNat < N from (by first | omega | decide | (simp only [Int32.le_iff_toInt_le, Int32.lt_iff_toInt_lt, ti_add, ti_sub, ti_mul, Int32.reduceToInt] at *; omega)))
  obtain ⟨x4_2, σ2⟩ := t
  have hI : Tr [65, 106, 107] σ0 σ2 ∧ (0 ≤ x4_2.toInt) := hI
  obtain ⟨hT, hI2⟩ := hI
  rw [F_X7_run_8.eq_1]
  refine ok_gI0 hT rfl (by decide) ?_
  refine ok_if (fun hc4 => ?_) (fun hc4 => ?_)
  · exact ok_some ⟨hT, trivial⟩
  · refine ok_gR (v := 58) hT rfl (hR 57 3 rfl) ?_
    refine ok_aL (n := 601) rfl ?_
    rw [show Int32.ofNat 601 = 601 from rfl]
    refine ok_if (fun hc7 => ?_) (fun hc7 => ?_)
    · exact ok_some ⟨hT, trivial⟩
    · refine ok_gR (v := 58) hT rfl (hR 57 3 rfl) ?_
      refine ok_aIn rfl (by first | omega | decide | (simp only [Int32.le_iff_toInt_le, Int32.lt_iff_toInt_lt, ti_add, ti_sub, ti_mul, Int32.reduceToInt] at *; omega)) (by first | omega | decide | (simp only [Int32.le_iff_toInt_le, Int32.lt_iff_toInt_lt, ti_add, ti_sub, ti_mul, Int32.reduceToInt] at *; omega)) (fun v9 ev9 => ?_)
      refine ok_gR (v := 59) hT rfl (hR 57 4 rfl) ?_
      refine ok_aIn rfl (by first | omega | decide | (simp only [Int32.le_iff_toInt_le, Int32.lt_iff_toInt_lt, ti_add, ti_sub, ti_mul, Int32.reduceToInt] at *; omega)) (by first | omega | decide | (simp only [Int32.le_iff_toInt_le, Int32.lt_iff_toInt_lt, ti_add, ti_sub, ti_mul, Int32.reduceToInt] at *; omega)) (fun v11 ev11 => ?_)
      refine ok_gC rfl ?_
      refine ok_zbT (Q := fun V σ => True) hT (s_X7_doStep_28_99 hN (hR.tr hT) (by first | exact hn | (rw [hT.2 28 (by decide)]; exact hn))) (by decide) (fun v12 σ13 hOσ13 hT hqv12 => ?_)
      exact ih8_2 (x4_2 + 1, σ13) (show Tr [65, 106, 107] σ0 σ13 ∧ (0 ≤ (x4_2 + 1).toInt) from ⟨hT, (by first | omega | decide | (simp only [Int32.le_iff_toInt_le, Int32.lt_iff_toInt_lt, ti_add, ti_sub, ti_mul, Int32.reduceToInt] at *; omega))⟩) (show (601 - (x4_2 + 1).toInt).toNat < (601 - x4_2.toInt).toNat from (by first | omega | decide | (simp only [Int32.le_iff_toInt_le, Int32.lt_iff_toInt_lt, ti_add, ti_sub, ti_mul, Int32.reduceToInt] at *; omega)))
end Zq3_0
section Zq3_1
set_option maxHeartbeats 4000000 in
set_option maxRecDepth 100000 in
theorem s_X5_open_1 {N : Nat} (hN : 1048576 ≤ N) {x2 : Int32} {σ0 : zS}  (hR : RF σ0.2.2) (hD : RD σ0.1) : Ok (f_X5_open N 57 1 x2 σ0) (fun r => Tr [57, 61, 62, 63, 64] σ0 r.2 ∧ (RD r.2.1 ∧ r.2.2.2 57 5 = 1)) := by
  have hT : Tr [57, 61, 62, 63, 64] σ0 σ0 := Tr.rf
  have hD0 := hD
  rw [f_X5_open.eq_1]
  refine ok_pRX hT (fun σ1 hX eσ1 hOσ1 hT => ?_)
  have hD : RD σ1.1 := RD.tr hOσ1 (by decide) (by decide) (by decide) (by decide) hD
  refine ok_aL (n := 600) rfl ?_
  rw [show Int32.ofNat 600 = 600 from rfl]
  refine ok_pI hT rfl (by decide) (fun σ3 eσ3 hOσ3 hT => ?_)
  have hX := hOσ3.1.2 hX
  have hD : RD σ3.1 := RD_p eσ3 (fun q => absurd q (by decide)) (fun _ => by rw [ti_zmax, ti_zmin, ti_zmin]; simp only [Int32.reduceToInt]; split <;> split <;> split <;> omega) hD
  refine ok_pI hT rfl (by decide) (fun σ4 eσ4 hOσ4 hT => ?_)
  have hX := hOσ4.1.2 hX
  have hD : RD σ4.1 := by first | exact RD_p eσ4 (fun q => absurd q (by decide)) (fun q => absurd q (by decide)) hD | exact HQ
  refine ok_pI hT rfl (by decide) (fun σ5 eσ5 hOσ5 hT => ?_)
  have hX := hOσ5.1.2 hX
  have hD : RD σ5.1 := by first | exact RD_p eσ5 (fun q => absurd q (by decide)) (fun q => absurd q (by decide)) hD | exact HQ
  refine ok_pI hT rfl (by decide) (fun σ6 eσ6 hOσ6 hT => ?_)
  have hX := hOσ6.1.2 hX
  have hD : RD σ6.1 := by first | exact RD_p eσ6 (fun q => absurd q (by decide)) (fun q => absurd q (by decide)) hD | exact HQ
  refine ok_pI hT rfl (by decide) (fun σ7 eσ7 hOσ7 hT => ?_)
  have hX := hOσ7.1.2 hX
  have hD : RD σ7.1 := by first | exact RD_p eσ7 (fun q => absurd q (by decide)) (fun q => absurd q (by decide)) hD | exact HQ
  refine ok_pI hT rfl (by decide) (fun σ8 eσ8 hOσ8 hT => ?_)
  have hX := hOσ8.1.2 hX
  have hD : RD σ8.1 := by first | exact RD_p eσ8 (fun q => absurd q (by decide)) (fun q => absurd q (by decide)) hD | exact HQ
  refine ok_pI hT rfl (by decide) (fun σ9 eσ9 hOσ9 hT => ?_)
  have hX := hOσ9.1.2 hX
  have hD : RD σ9.1 := RD_p eσ9 (fun _ => by decide) (fun q => absurd q (by decide)) hD
  refine ok_gC rfl ?_
  refine ok_zbT (Q := fun V σ => RD σ.1) hT (s_X5_split hN (hR.tr hT) (hX) (hD)) (by decide) (fun v10 σ11 hOσ11 hT hqv10 => ?_)
  have hqv10 : RD σ11.1 := hqv10
  have hD : RD σ11.1 := by first | exact RD_p eσ11 (fun q => absurd q (by decide)) (fun q => absurd q (by decide)) hD | exact hqv10
  have hX9 := hX
  have hOX := hOσ11
  exact ok_some ⟨hT, (show RD σ11.1 ∧ σ11.2.2 57 5 = 1 from by exact ⟨hD, hOX.1.2 hX9⟩)⟩

set_option maxHeartbeats 4000000 in
set_option maxRecDepth 100000 in
theorem s_X5_readSum_1 {N : Nat} (hN : 1048576 ≤ N) {x2 : Int32} {x3 : Int32} {x4 : Int32} {σ0 : zS}  (hR : RF σ0.2.2) (hD : RD σ0.1) : Ok (f_X5_readSum N 57 1 x2 x3 x4 σ0) (fun r => Tr [57, 58, 59, 61, 62, 63, 64] σ0 r.2 ∧ ((r.1 = 0 ∨ r.1 = 1) ∧ RD r.2.1)) := by
  have hT : Tr [57, 58, 59, 61, 62, 63, 64] σ0 σ0 := Tr.rf
  have hD0 := hD
  rw [f_X5_readSum.eq_1]
  refine ok_gC rfl ?_
  refine ok_zbT (Q := fun V σ => RD σ.1 ∧ σ.2.2 57 5 = 1) hT (s_X5_open_1 hN (hR.tr hT) (hD)) (by decide) (fun v1 σ2 hOσ2 hT hqv1 => ?_)
  have hqv1 : RD σ2.1 ∧ σ2.2.2 57 5 = 1 := hqv1
  have hD : RD σ2.1 := hqv1.1
  have hX := hqv1.2
  refine ok_pI hT rfl (by decide) (fun σ3 eσ3 hOσ3 hT => ?_)
  have hX := hOσ3.1.2 hX
  have hD : RD σ3.1 := RD_p eσ3 (fun q => absurd q (by decide)) (fun q => absurd q (by decide)) hD
  refine ok_gC rfl ?_
  refine ok_zbT (Q := fun V σ => (V = 0 ∨ V = 1) ∧ RD σ.1) hT (s_X5_sum hN (hR.tr hT) (hX) (hD) (by decide) (by decide)) (by decide) (fun v4 σ5 hOσ5 hT hqv4 => ?_)
  have hqv4 : (v4 = 0 ∨ v4 = 1) ∧ RD σ5.1 := hqv4
  have hD : RD σ5.1 := by first | exact hqv4.2 | exact hqv4.2.1
  have hX := hOσ5.1.2 hX
  refine ok_if (fun hc6 => ?_) (fun hc6 => ?_)
  · exact ok_rZ (Or.inl rfl) ⟨hT, (show ((0 : Int32) = 0 ∨ (0 : Int32) = 1) ∧ RD σ5.1 from by first | exact ⟨Or.inl rfl, hD⟩ | exact ⟨Or.inr rfl, hD⟩)⟩
  · refine ok_gC rfl ?_
    refine ok_zbT (Q := fun V σ => (V = 0 ∨ V = 1) ∧ RD σ.1) hT (s_X5_pass hN (hR.tr hT) (hX) (hD)) (by decide) (fun v7 σ8 hOσ8 hT hqv7 => ?_)
    have hqv7 : (v7 = 0 ∨ v7 = 1) ∧ RD σ8.1 := hqv7
    have hD : RD σ8.1 := by first | exact hqv7.2 | exact hqv7.2.1
    have hX := hOσ8.1.2 hX
    refine ok_if (fun hc9 => ?_) (fun hc9 => ?_)
    · exact ok_rZ (Or.inl rfl) ⟨hT, (show ((0 : Int32) = 0 ∨ (0 : Int32) = 1) ∧ RD σ8.1 from by first | exact ⟨Or.inl rfl, hD⟩ | exact ⟨Or.inr rfl, hD⟩)⟩
    · refine ok_gC rfl ?_
      refine ok_zbT (Q := fun V σ => V = 1 ∧ RD σ.1) hT (s_X5_emit hN (hR.tr hT) (hX) (hD)) (by decide) (fun v10 σ11 hOσ11 hT hqv10 => ?_)
      have hqv10 : v10 = 1 ∧ RD σ11.1 := hqv10
      have hD : RD σ11.1 := by first | exact hqv10.2 | exact hqv10.2.1
      refine ok_if (fun hc12 => ?_) (fun hc12 => ?_)
      · exact ok_rZ (Or.inl rfl) ⟨hT, (show ((0 : Int32) = 0 ∨ (0 : Int32) = 1) ∧ RD σ11.1 from by first | exact ⟨Or.inl rfl, hD⟩ | exact ⟨Or.inr rfl, hD⟩)⟩
      · exact ok_rZ (Or.inr rfl) ⟨hT, (show ((1 : Int32) = 0 ∨ (1 : Int32) = 1) ∧ RD σ11.1 from by first | exact ⟨Or.inl rfl, hD⟩ | exact ⟨Or.inr rfl, hD⟩)⟩

set_option maxHeartbeats 4000000 in
set_option maxRecDepth 100000 in
theorem s_X5_readWorld_1_2 {N : Nat} (hN : 1048576 ≤ N) {x2 : Int32} {σ0 : zS}  (hR : RF σ0.2.2) (hD : RD σ0.1) (hW : WI 2 σ0.1) : Ok (f_X5_readWorld N 57 1 x2 2 σ0) (fun r => Tr [2, 3, 4, 5, 57, 58, 59, 61, 62, 63, 64] σ0 r.2 ∧ ((r.1 = 0 ∨ r.1 = 1) ∧ RD r.2.1 ∧ WI 2 r.2.1)) := by
  have hT : Tr [2, 3, 4, 5, 57, 58, 59, 61, 62, 63, 64] σ0 σ0 := Tr.rf
  have hD0 := hD
  rw [f_X5_readWorld.eq_1]
  refine ok_gC rfl ?_
  refine ok_zbT (Q := fun V σ => RD σ.1 ∧ σ.2.2 57 5 = 1) hT (s_X5_open_1 hN (hR.tr hT) (hD)) (by decide) (fun v1 σ2 hOσ2 hT hqv1 => ?_)
  have hqv1 : RD σ2.1 ∧ σ2.2.2 57 5 = 1 := hqv1
  have hD : RD σ2.1 := hqv1.1
  have hW : WI 2 σ2.1 := WI.tr hOσ2 (by decide) (by decide) (by decide) hW
  have hX := hqv1.2
  refine ok_lp (fun t : Int32 × zS => Tr [2, 3, 4, 5, 57, 58, 59, 61, 62, 63, 64] σ0 (t.2) ∧ (0 ≤ (t.1).toInt ∧ (t.2).2.2 57 5 = 1) ∧ (RD (t.2).1) ∧ (WI 2 (t.2).1)) (fun t : Int32 × zS => (601 - (t.1).toInt).toNat) (fun again3 t hI ih9_3 => ?_) N _ (show Tr [2, 3, 4, 5, 57, 58, 59, 61, 62, 63, 64] σ0 σ2 ∧ (0 ≤ (0 : Int32).toInt ∧ σ2.2.2 57 5 = 1) ∧ (RD σ2.1) ∧ (WI 2 σ2.1) from ⟨hT, (by exact ⟨by decide, hX⟩), hD, hW⟩) (show (601 - (0 : Int32).toInt).toNat < N from (by have q1 := hD.1; have q2 := hD.2.1; have q3 := hD0.1; have q4 := hD0.2.1; first | omega | decide | (simp only [Int32.le_iff_toInt_le, Int32.lt_iff_toInt_lt, ti_add, ti_sub, ti_mul, Int32.reduceToInt] at *; omega)))
  obtain ⟨x4_3, σ3⟩ := t
  have hI : Tr [2, 3, 4, 5, 57, 58, 59, 61, 62, 63, 64] σ0 σ3 ∧ (0 ≤ x4_3.toInt ∧ σ3.2.2 57 5 = 1) ∧ (RD σ3.1) ∧ (WI 2 σ3.1) := hI
  obtain ⟨hT, hI3, hD, hW⟩ := hI
  rw [F_X5_readWorld_9.eq_1]
  have hX := hI3.2
  refine ok_if (fun hc4 => ?_) (fun hc4 => ?_)
  · exact ok_rZ (Or.inr rfl) ⟨hT, (show ((1 : Int32) = 0 ∨ (1 : Int32) = 1) ∧ RD σ3.1 ∧ WI 2 σ3.1 from by first | exact ⟨Or.inl rfl, hD, hW⟩ | exact ⟨Or.inr rfl, hD, hW⟩)⟩
  · refine ok_gR (v := 61) hT rfl (hR 57 10 rfl) ?_
    refine ok_gI rfl ?_
    refine ok_aIn rfl (by have q1 := hD.1; have q2 := hD.2.1; have q3 := hD0.1; have q4 := hD0.2.1; first | omega | decide | (simp only [Int32.le_iff_toInt_le, Int32.lt_iff_toInt_lt, ti_add, ti_sub, ti_mul, Int32.reduceToInt] at *; omega)) (by have q1 := hD.1; have q2 := hD.2.1; have q3 := hD0.1; have q4 := hD0.2.1; first | omega | decide | (simp only [Int32.le_iff_toInt_le, Int32.lt_iff_toInt_lt, ti_add, ti_sub, ti_mul, Int32.reduceToInt] at *; omega)) (fun v7 ev7 => ?_)
    refine ok_if (fun hc8 => ?_) (fun hc8 => ?_)
    · exact ok_rZ (Or.inr rfl) ⟨hT, (show ((1 : Int32) = 0 ∨ (1 : Int32) = 1) ∧ RD σ3.1 ∧ WI 2 σ3.1 from by first | exact ⟨Or.inl rfl, hD, hW⟩ | exact ⟨Or.inr rfl, hD, hW⟩)⟩
    · refine ok_gC rfl ?_
      refine ok_zbT (Q := fun V σ => (V = 0 ∨ V = 1) ∧ RD σ.1 ∧ WI 2 σ.1) hT (s_X5_readLine_2 hN (hR.tr hT) (hX) (hD) (hW)) (by decide) (fun v9 σ10 hOσ10 hT hqv9 => ?_)
      have hqv9 : (v9 = 0 ∨ v9 = 1) ∧ RD σ10.1 ∧ WI 2 σ10.1 := hqv9
      have hD : RD σ10.1 := hqv9.2.1
      have hW : WI 2 σ10.1 := hqv9.2.2
      have hX := hOσ10.1.2 hX
      refine ok_if (fun hc11 => ?_) (fun hc11 => ?_)
      · exact ok_rZ (Or.inl rfl) ⟨hT, (show ((0 : Int32) = 0 ∨ (0 : Int32) = 1) ∧ RD σ10.1 ∧ WI 2 σ10.1 from by first | exact ⟨Or.inl rfl, hD, hW⟩ | exact ⟨Or.inr rfl, hD, hW⟩)⟩
      · refine ok_gI rfl ?_
        refine ok_pI hT rfl (by decide) (fun σ13 eσ13 hOσ13 hT => ?_)
        have hX := hOσ13.1.2 hX
        have hD : RD σ13.1 := RD.tr hOσ13 (by decide) (by decide) (by decide) (by decide) hD
        have hW : WI 2 σ13.1 := WI_p1 eσ13 hW
        exact ih9_3 (x4_3 + 1, σ13) (show Tr [2, 3, 4, 5, 57, 58, 59, 61, 62, 63, 64] σ0 σ13 ∧ (0 ≤ (x4_3 + 1).toInt ∧ σ13.2.2 57 5 = 1) ∧ (RD σ13.1) ∧ (WI 2 σ13.1) from ⟨hT, (by exact ⟨by have q1 := hD.1; have q2 := hD.2.1; have q3 := hD0.1; have q4 := hD0.2.1; first | omega | decide | (simp only [Int32.le_iff_toInt_le, Int32.lt_iff_toInt_lt, ti_add, ti_sub, ti_mul, Int32.reduceToInt] at *; omega), hX⟩), hD, hW⟩) (show (601 - (x4_3 + 1).toInt).toNat < (601 - x4_3.toInt).toNat from (by have q1 := hD.1; have q2 := hD.2.1; have q3 := hD0.1; have q4 := hD0.2.1; first | omega | decide | (simp only [Int32.le_iff_toInt_le, Int32.lt_iff_toInt_lt, ti_add, ti_sub, ti_mul, Int32.reduceToInt] at *; omega)))

set_option maxHeartbeats 4000000 in
set_option maxRecDepth 100000 in
theorem s_X5_readWorld_1_28 {N : Nat} (hN : 1048576 ≤ N) {x2 : Int32} {σ0 : zS}  (hR : RF σ0.2.2) (hD : RD σ0.1) (hW : WI 28 σ0.1) : Ok (f_X5_readWorld N 57 1 x2 28 σ0) (fun r => Tr [28, 29, 30, 31, 57, 58, 59, 61, 62, 63, 64] σ0 r.2 ∧ ((r.1 = 0 ∨ r.1 = 1) ∧ RD r.2.1 ∧ WI 28 r.2.1)) := by
  have hT : Tr [28, 29, 30, 31, 57, 58, 59, 61, 62, 63, 64] σ0 σ0 := Tr.rf
  have hD0 := hD
  rw [f_X5_readWorld.eq_1]
  refine ok_gC rfl ?_
  refine ok_zbT (Q := fun V σ => RD σ.1 ∧ σ.2.2 57 5 = 1) hT (s_X5_open_1 hN (hR.tr hT) (hD)) (by decide) (fun v1 σ2 hOσ2 hT hqv1 => ?_)
  have hqv1 : RD σ2.1 ∧ σ2.2.2 57 5 = 1 := hqv1
  have hD : RD σ2.1 := hqv1.1
  have hW : WI 28 σ2.1 := WI.tr hOσ2 (by decide) (by decide) (by decide) hW
  have hX := hqv1.2
  refine ok_lp (fun t : Int32 × zS => Tr [28, 29, 30, 31, 57, 58, 59, 61, 62, 63, 64] σ0 (t.2) ∧ (0 ≤ (t.1).toInt ∧ (t.2).2.2 57 5 = 1) ∧ (RD (t.2).1) ∧ (WI 28 (t.2).1)) (fun t : Int32 × zS => (601 - (t.1).toInt).toNat) (fun again3 t hI ih9_3 => ?_) N _ (show Tr [28, 29, 30, 31, 57, 58, 59, 61, 62, 63, 64] σ0 σ2 ∧ (0 ≤ (0 : Int32).toInt ∧ σ2.2.2 57 5 = 1) ∧ (RD σ2.1) ∧ (WI 28 σ2.1) from ⟨hT, (by exact ⟨by decide, hX⟩), hD, hW⟩) (show (601 - (0 : Int32).toInt).toNat < N from (by have q1 := hD.1; have q2 := hD.2.1; have q3 := hD0.1; have q4 := hD0.2.1; first | omega | decide | (simp only [Int32.le_iff_toInt_le, Int32.lt_iff_toInt_lt, ti_add, ti_sub, ti_mul, Int32.reduceToInt] at *; omega)))
  obtain ⟨x4_3, σ3⟩ := t
  have hI : Tr [28, 29, 30, 31, 57, 58, 59, 61, 62, 63, 64] σ0 σ3 ∧ (0 ≤ x4_3.toInt ∧ σ3.2.2 57 5 = 1) ∧ (RD σ3.1) ∧ (WI 28 σ3.1) := hI
  obtain ⟨hT, hI3, hD, hW⟩ := hI
  rw [F_X5_readWorld_9.eq_1]
  have hX := hI3.2
  refine ok_if (fun hc4 => ?_) (fun hc4 => ?_)
  · exact ok_rZ (Or.inr rfl) ⟨hT, (show ((1 : Int32) = 0 ∨ (1 : Int32) = 1) ∧ RD σ3.1 ∧ WI 28 σ3.1 from by first | exact ⟨Or.inl rfl, hD, hW⟩ | exact ⟨Or.inr rfl, hD, hW⟩)⟩
  · refine ok_gR (v := 61) hT rfl (hR 57 10 rfl) ?_
    refine ok_gI rfl ?_
    refine ok_aIn rfl (by have q1 := hD.1; have q2 := hD.2.1; have q3 := hD0.1; have q4 := hD0.2.1; first | omega | decide | (simp only [Int32.le_iff_toInt_le, Int32.lt_iff_toInt_lt, ti_add, ti_sub, ti_mul, Int32.reduceToInt] at *; omega)) (by have q1 := hD.1; have q2 := hD.2.1; have q3 := hD0.1; have q4 := hD0.2.1; first | omega | decide | (simp only [Int32.le_iff_toInt_le, Int32.lt_iff_toInt_lt, ti_add, ti_sub, ti_mul, Int32.reduceToInt] at *; omega)) (fun v7 ev7 => ?_)
    refine ok_if (fun hc8 => ?_) (fun hc8 => ?_)
    · exact ok_rZ (Or.inr rfl) ⟨hT, (show ((1 : Int32) = 0 ∨ (1 : Int32) = 1) ∧ RD σ3.1 ∧ WI 28 σ3.1 from by first | exact ⟨Or.inl rfl, hD, hW⟩ | exact ⟨Or.inr rfl, hD, hW⟩)⟩
    · refine ok_gC rfl ?_
      refine ok_zbT (Q := fun V σ => (V = 0 ∨ V = 1) ∧ RD σ.1 ∧ WI 28 σ.1) hT (s_X5_readLine_28 hN (hR.tr hT) (hX) (hD) (hW)) (by decide) (fun v9 σ10 hOσ10 hT hqv9 => ?_)
      have hqv9 : (v9 = 0 ∨ v9 = 1) ∧ RD σ10.1 ∧ WI 28 σ10.1 := hqv9
      have hD : RD σ10.1 := hqv9.2.1
      have hW : WI 28 σ10.1 := hqv9.2.2
      have hX := hOσ10.1.2 hX
      refine ok_if (fun hc11 => ?_) (fun hc11 => ?_)
      · exact ok_rZ (Or.inl rfl) ⟨hT, (show ((0 : Int32) = 0 ∨ (0 : Int32) = 1) ∧ RD σ10.1 ∧ WI 28 σ10.1 from by first | exact ⟨Or.inl rfl, hD, hW⟩ | exact ⟨Or.inr rfl, hD, hW⟩)⟩
      · refine ok_gI rfl ?_
        refine ok_pI hT rfl (by decide) (fun σ13 eσ13 hOσ13 hT => ?_)
        have hX := hOσ13.1.2 hX
        have hD : RD σ13.1 := RD.tr hOσ13 (by decide) (by decide) (by decide) (by decide) hD
        have hW : WI 28 σ13.1 := WI_p1 eσ13 hW
        exact ih9_3 (x4_3 + 1, σ13) (show Tr [28, 29, 30, 31, 57, 58, 59, 61, 62, 63, 64] σ0 σ13 ∧ (0 ≤ (x4_3 + 1).toInt ∧ σ13.2.2 57 5 = 1) ∧ (RD σ13.1) ∧ (WI 28 σ13.1) from ⟨hT, (by exact ⟨by have q1 := hD.1; have q2 := hD.2.1; have q3 := hD0.1; have q4 := hD0.2.1; first | omega | decide | (simp only [Int32.le_iff_toInt_le, Int32.lt_iff_toInt_lt, ti_add, ti_sub, ti_mul, Int32.reduceToInt] at *; omega), hX⟩), hD, hW⟩) (show (601 - (x4_3 + 1).toInt).toNat < (601 - x4_3.toInt).toNat from (by have q1 := hD.1; have q2 := hD.2.1; have q3 := hD0.1; have q4 := hD0.2.1; first | omega | decide | (simp only [Int32.le_iff_toInt_le, Int32.lt_iff_toInt_lt, ti_add, ti_sub, ti_mul, Int32.reduceToInt] at *; omega)))
end Zq3_1

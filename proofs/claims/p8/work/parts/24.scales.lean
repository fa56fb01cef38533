set_option maxHeartbeats 4000000 in
set_option maxRecDepth 100000 in
theorem s_J7_fill_53178_110 {N : Nat} (hN : 1048576 ≤ N) {x1 : Int32} {σ0 : zS}  (hR : RF σ0.2.2)  : Ok (f_J7_fill_53178 N 110 x1 σ0) (fun r => Tr [110] σ0 r.2 ∧ (True)) := by
  have hT : Tr [110] σ0 σ0 := Tr.rf
  rw [f_J7_fill_53178.eq_1]
  refine ok_aL (n := 991) rfl ?_
  rw [show Int32.ofNat 991 = 991 from rfl]
  refine ok_lp (fun t : Int32 × zS => Tr [110] σ0 (t.2) ∧ (0 ≤ (t.1).toInt)) (fun t : Int32 × zS => ((991 : Int32).toInt - (t.1).toInt).toNat) (fun again2 t hI ih5_2 => ?_) N _ (show Tr [110] σ0 σ0 ∧ (0 ≤ (0 : Int32).toInt) from ⟨hT, (by first | omega | decide | (simp only [Int32.le_iff_toInt_le, Int32.lt_iff_toInt_lt, ti_add, ti_sub, ti_mul, Int32.reduceToInt] at *; omega))⟩) (show ((991 : Int32).toInt - (0 : Int32).toInt).toNat < N from (by first | omega | decide | (simp only [Int32.le_iff_toInt_le, Int32.lt_iff_toInt_lt, ti_add, ti_sub, ti_mul, Int32.reduceToInt] at *; omega)))
  obtain ⟨x2_2, σ2⟩ := t
  have hI : Tr [110] σ0 σ2 ∧ (0 ≤ x2_2.toInt) := hI
  obtain ⟨hT, hI2⟩ := hI
  rw [F_J7_fill_53178_5.eq_1]
  refine ok_if (fun hc3 => ?_) (fun hc3 => ?_)
  · exact ok_some ⟨hT, trivial⟩
  · refine ok_s14 hT rfl (by decide) (by first | omega | decide | (simp only [Int32.le_iff_toInt_le, Int32.lt_iff_toInt_lt, ti_add, ti_sub, ti_mul, Int32.reduceToInt] at *; omega)) (by first | omega | decide | (simp only [Int32.le_iff_toInt_le, Int32.lt_iff_toInt_lt, ti_add, ti_sub, ti_mul, Int32.reduceToInt] at *; omega)) (fun σ4 eσ4 hOσ4 hT => ?_)
    exact ih5_2 (x2_2 + 1, σ4) (show Tr [110] σ0 σ4 ∧ (0 ≤ (x2_2 + 1).toInt) from ⟨hT, (by first | omega | decide | (simp only [Int32.le_iff_toInt_le, Int32.lt_iff_toInt_lt, ti_add, ti_sub, ti_mul, Int32.reduceToInt] at *; omega))⟩) (show ((991 : Int32).toInt - (x2_2 + 1).toInt).toNat < ((991 : Int32).toInt - x2_2.toInt).toNat from (by first | omega | decide | (simp only [Int32.le_iff_toInt_le, Int32.lt_iff_toInt_lt, ti_add, ti_sub, ti_mul, Int32.reduceToInt] at *; omega)))

set_option maxHeartbeats 4000000 in
set_option maxRecDepth 100000 in
theorem s_J7_fill_53178_119 {N : Nat} (hN : 1048576 ≤ N) {x1 : Int32} {σ0 : zS}  (hR : RF σ0.2.2)  : Ok (f_J7_fill_53178 N 119 x1 σ0) (fun r => Tr [119] σ0 r.2 ∧ (True)) := by
  have hT : Tr [119] σ0 σ0 := Tr.rf
  rw [f_J7_fill_53178.eq_1]
  refine ok_aL (n := 10) rfl ?_
  rw [show Int32.ofNat 10 = 10 from rfl]
  refine ok_lp (fun t : Int32 × zS => Tr [119] σ0 (t.2) ∧ (0 ≤ (t.1).toInt)) (fun t : Int32 × zS => ((10 : Int32).toInt - (t.1).toInt).toNat) (fun again2 t hI ih5_2 => ?_) N _ (show Tr [119] σ0 σ0 ∧ (0 ≤ (0 : Int32).toInt) from ⟨hT, (by first | omega | decide | (simp only [Int32.le_iff_toInt_le, Int32.lt_iff_toInt_lt, ti_add, ti_sub, ti_mul, Int32.reduceToInt] at *; omega))⟩) (show ((10 : Int32).toInt - (0 : Int32).toInt).toNat < N from (by first | omega | decide | (simp only [Int32.le_iff_toInt_le, Int32.lt_iff_toInt_lt, ti_add, ti_sub, ti_mul, Int32.reduceToInt] at *; omega)))
  obtain ⟨x2_2, σ2⟩ := t
  have hI : Tr [119] σ0 σ2 ∧ (0 ≤ x2_2.toInt) := hI
  obtain ⟨hT, hI2⟩ := hI
  rw [F_J7_fill_53178_5.eq_1]
  refine ok_if (fun hc3 => ?_) (fun hc3 => ?_)
  · exact ok_some ⟨hT, trivial⟩
  · refine ok_s14 hT rfl (by decide) (by first | omega | decide | (simp only [Int32.le_iff_toInt_le, Int32.lt_iff_toInt_lt, ti_add, ti_sub, ti_mul, Int32.reduceToInt] at *; omega)) (by first | omega | decide | (simp only [Int32.le_iff_toInt_le, Int32.lt_iff_toInt_lt, ti_add, ti_sub, ti_mul, Int32.reduceToInt] at *; omega)) (fun σ4 eσ4 hOσ4 hT => ?_)
    exact ih5_2 (x2_2 + 1, σ4) (show Tr [119] σ0 σ4 ∧ (0 ≤ (x2_2 + 1).toInt) from ⟨hT, (by first | omega | decide | (simp only [Int32.le_iff_toInt_le, Int32.lt_iff_toInt_lt, ti_add, ti_sub, ti_mul, Int32.reduceToInt] at *; omega))⟩) (show ((10 : Int32).toInt - (x2_2 + 1).toInt).toNat < ((10 : Int32).toInt - x2_2.toInt).toNat from (by first | omega | decide | (simp only [Int32.le_iff_toInt_le, Int32.lt_iff_toInt_lt, ti_add, ti_sub, ti_mul, Int32.reduceToInt] at *; omega)))

set_option maxHeartbeats 4000000 in
set_option maxRecDepth 100000 in
theorem s_X8_weighSets_2 {N : Nat} (hN : 1048576 ≤ N)  {σ0 : zS}  (hR : RF σ0.2.2)  : Ok (f_X8_weighSets N 108 2 σ0) (fun r => Tr [109] σ0 r.2 ∧ (True)) := by
  have hT : Tr [109] σ0 σ0 := Tr.rf
  rw [f_X8_weighSets.eq_1]
  refine ok_gR (v := 109) hT rfl (hR 108 0 rfl) ?_
  refine ok_s14 hT rfl (by decide) (by first | omega | decide | (simp only [Int32.le_iff_toInt_le, Int32.lt_iff_toInt_lt, ti_add, ti_sub, ti_mul, Int32.reduceToInt] at *; omega)) (by first | omega | decide | (simp only [Int32.le_iff_toInt_le, Int32.lt_iff_toInt_lt, ti_add, ti_sub, ti_mul, Int32.reduceToInt] at *; omega)) (fun σ2 eσ2 hOσ2 hT => ?_)
  refine ok_lp (fun t : Int32 × zS => Tr [109] σ0 (t.2) ∧ (0 ≤ (t.1).toInt)) (fun t : Int32 × zS => (10 - (t.1).toInt).toNat) (fun again3 t hI ih9_3 => ?_) N _ (show Tr [109] σ0 σ2 ∧ (0 ≤ (0 : Int32).toInt) from ⟨hT, (by first | omega | decide | (simp only [Int32.le_iff_toInt_le, Int32.lt_iff_toInt_lt, ti_add, ti_sub, ti_mul, Int32.reduceToInt] at *; omega))⟩) (show (10 - (0 : Int32).toInt).toNat < N from (by first | omega | decide | (simp only [Int32.le_iff_toInt_le, Int32.lt_iff_toInt_lt, ti_add, ti_sub, ti_mul, Int32.reduceToInt] at *; omega)))
  obtain ⟨x2_3, σ3⟩ := t
  have hI : Tr [109] σ0 σ3 ∧ (0 ≤ x2_3.toInt) := hI
  obtain ⟨hT, hI3⟩ := hI
  rw [F_X8_weighSets_9.eq_1]
  refine ok_gI0 hT rfl (by decide) ?_
  refine ok_if (fun hc5 => ?_) (fun hc5 => ?_)
  · exact ok_some ⟨hT, trivial⟩
  · refine ok_if (fun hc6 => ?_) (fun hc6 => ?_)
    · exact ok_some ⟨hT, trivial⟩
    · have q9 := ti_one9 (x := x2_3) (by simp only [Int32.le_iff_toInt_le, Int32.reduceToInt] at *; omega) (by simp only [Int32.le_iff_toInt_le, Int32.reduceToInt] at *; omega)
      refine ok_lp (fun t : Int32 × zS => Tr [109] σ0 (t.2) ∧ (0 ≤ (t.1).toInt)) (fun t : Int32 × zS => (((1 : Int32) <<< (x2_3 &&& 31)).toInt - (t.1).toInt).toNat) (fun again7 t hI ih30_7 => ?_) N _ (show Tr [109] σ0 σ3 ∧ (0 ≤ (0 : Int32).toInt) from ⟨hT, (by first | omega | decide | (simp only [Int32.le_iff_toInt_le, Int32.lt_iff_toInt_lt, ti_add, ti_sub, ti_mul, Int32.reduceToInt] at *; omega))⟩) (show (((1 : Int32) <<< (x2_3 &&& 31)).toInt - (0 : Int32).toInt).toNat < N from (by first | omega | decide | (simp only [Int32.le_iff_toInt_le, Int32.lt_iff_toInt_lt, ti_add, ti_sub, ti_mul, Int32.reduceToInt] at *; omega)))
      obtain ⟨x4_7, σ7⟩ := t
      have hI : Tr [109] σ0 σ7 ∧ (0 ≤ x4_7.toInt) := hI
      obtain ⟨hT, hI7⟩ := hI
      rw [F_X8_weighSets_30.eq_1]
      refine ok_if (fun hc8 => ?_) (fun hc8 => ?_)
      · exact ih9_3 (x2_3 + 1, σ7) (show Tr [109] σ0 σ7 ∧ (0 ≤ (x2_3 + 1).toInt) from ⟨hT, (by first | omega | decide | (simp only [Int32.le_iff_toInt_le, Int32.lt_iff_toInt_lt, ti_add, ti_sub, ti_mul, Int32.reduceToInt] at *; omega))⟩) (show (10 - (x2_3 + 1).toInt).toNat < (10 - x2_3.toInt).toNat from (by first | omega | decide | (simp only [Int32.le_iff_toInt_le, Int32.lt_iff_toInt_lt, ti_add, ti_sub, ti_mul, Int32.reduceToInt] at *; omega)))
      · refine ok_gR (v := 109) hT rfl (hR 108 0 rfl) ?_
        refine ok_gR (v := 109) hT rfl (hR 108 0 rfl) ?_
        refine ok_aIn rfl (by first | omega | decide | (simp only [Int32.le_iff_toInt_le, Int32.lt_iff_toInt_lt, ti_add, ti_sub, ti_mul, Int32.reduceToInt] at *; omega)) (by first | omega | decide | (simp only [Int32.le_iff_toInt_le, Int32.lt_iff_toInt_lt, ti_add, ti_sub, ti_mul, Int32.reduceToInt] at *; omega)) (fun v11 ev11 => ?_)
        refine ok_gR (v := 5) hT rfl (hR 2 5 rfl) ?_
        refine ok_aIn rfl (by first | omega | decide | (simp only [Int32.le_iff_toInt_le, Int32.lt_iff_toInt_lt, ti_add, ti_sub, ti_mul, Int32.reduceToInt] at *; omega)) (by first | omega | decide | (simp only [Int32.le_iff_toInt_le, Int32.lt_iff_toInt_lt, ti_add, ti_sub, ti_mul, Int32.reduceToInt] at *; omega)) (fun v13 ev13 => ?_)
        refine ok_s14 hT rfl (by decide) (by first | omega | decide | (simp only [Int32.le_iff_toInt_le, Int32.lt_iff_toInt_lt, ti_add, ti_sub, ti_mul, Int32.reduceToInt] at *; omega)) (by first | omega | decide | (simp only [Int32.le_iff_toInt_le, Int32.lt_iff_toInt_lt, ti_add, ti_sub, ti_mul, Int32.reduceToInt] at *; omega)) (fun σ14 eσ14 hOσ14 hT => ?_)
        exact ih30_7 (x4_7 + 1, σ14) (show Tr [109] σ0 σ14 ∧ (0 ≤ (x4_7 + 1).toInt) from ⟨hT, (by first | omega | decide | (simp only [Int32.le_iff_toInt_le, Int32.lt_iff_toInt_lt, ti_add, ti_sub, ti_mul, Int32.reduceToInt] at *; omega))⟩) (show (((1 : Int32) <<< (x2_3 &&& 31)).toInt - (x4_7 + 1).toInt).toNat < (((1 : Int32) <<< (x2_3 &&& 31)).toInt - x4_7.toInt).toNat from (by first | omega | decide | (simp only [Int32.le_iff_toInt_le, Int32.lt_iff_toInt_lt, ti_add, ti_sub, ti_mul, Int32.reduceToInt] at *; omega)))

set_option maxHeartbeats 4000000 in
set_option maxRecDepth 100000 in
theorem s_X8_sum_2 {N : Nat} (hN : 1048576 ≤ N) {x2 : Nat} {x3 : Int32} {σ0 : zS}  (hR : RF σ0.2.2) (h_x2 : (zKd x2).1 = 2) : Ok (f_X8_sum N 108 2 x2 x3 σ0) (fun r => Tr [109] σ0 r.2 ∧ (True)) := by
  have hT : Tr [109] σ0 σ0 := Tr.rf
  rw [f_X8_sum.eq_1]
  refine ok_gC h_x2 ?_
  refine ok_zbT (Q := fun V σ => V = 0 ∨ V = 1) hT (s_X2_isEmpty hN (hR.tr hT) h_x2) (fun _ h9 => absurd h9 List.not_mem_nil) (fun v1 σ2 hOσ2 hT hqv1 => ?_)
  have hqv1 : v1 = 0 ∨ v1 = 1 := hqv1
  refine ok_if (fun hc3 => ?_) (fun hc3 => ?_)
  · refine ok_gC rfl ?_
    refine ok_zbT (Q := fun V σ => True) hT (s_X8_weighSets_2 hN (hR.tr hT) ) (by decide) (fun v4 σ5 hOσ5 hT hqv4 => ?_)
    refine ok_gC h_x2 ?_
    refine ok_zbT (Q := fun V σ => -1 ≤ V.toInt ∧ V.toInt ≤ 1023) hT (s_X2_firstFrom hN (hR.tr hT) h_x2) (fun _ h9 => absurd h9 List.not_mem_nil) (fun v6 σ7 hOσ7 hT hqv6 => ?_)
    have hqv6 : -1 ≤ v6.toInt ∧ v6.toInt ≤ 1023 := hqv6
    refine ok_lp (fun t : Int32 × Int32 × Int32 × Int32 × Int32 × zS => Tr [109] σ0 (t.2.2.2.2.2) ∧ (0 ≤ (t.2.2.2.2.1).toInt ∧ (t.2.2.2.1).toInt ≤ 1023)) (fun t : Int32 × Int32 × Int32 × Int32 × Int32 × zS => (1024 - (t.2.2.2.2.1).toInt).toNat) (fun again8 t hI ih44_8 => ?_) N _ (show Tr [109] σ0 σ7 ∧ (0 ≤ (0 : Int32).toInt ∧ v6.toInt ≤ 1023) from ⟨hT, (by first | omega | decide | (simp only [Int32.le_iff_toInt_le, Int32.lt_iff_toInt_lt, ti_add, ti_sub, ti_mul, Int32.reduceToInt] at *; omega))⟩) (show (1024 - (0 : Int32).toInt).toNat < N from (by first | omega | decide | (simp only [Int32.le_iff_toInt_le, Int32.lt_iff_toInt_lt, ti_add, ti_sub, ti_mul, Int32.reduceToInt] at *; omega)))
    obtain ⟨x4_8, x5_8, x6_8, x7_8, x8_8, σ8⟩ := t
    have hI : Tr [109] σ0 σ8 ∧ (0 ≤ x8_8.toInt ∧ x7_8.toInt ≤ 1023) := hI
    obtain ⟨hT, hI8⟩ := hI
    rw [F_X8_sum_44.eq_1]
    refine ok_if (fun hc9 => ?_) (fun hc9 => ?_)
    · rw [J_X8_sum_113.eq_1]
      refine ok_if (fun hc10 => ?_) (fun hc10 => ?_)
      · exact ok_some ⟨hT, trivial⟩
      · refine ok_if (fun hc11 => ?_) (fun hc11 => ?_)
        · exact ok_some ⟨hT, trivial⟩
        · exact ok_some ⟨hT, trivial⟩
    · refine ok_if (fun hc12 => ?_) (fun hc12 => ?_)
      · rw [J_X8_sum_113.eq_1]
        refine ok_if (fun hc13 => ?_) (fun hc13 => ?_)
        · exact ok_some ⟨hT, trivial⟩
        · refine ok_if (fun hc14 => ?_) (fun hc14 => ?_)
          · exact ok_some ⟨hT, trivial⟩
          · exact ok_some ⟨hT, trivial⟩
      · refine ok_gR (v := 109) hT rfl (hR 108 0 rfl) ?_
        refine ok_aIn rfl (by first | omega | decide | (simp only [Int32.le_iff_toInt_le, Int32.lt_iff_toInt_lt, ti_add, ti_sub, ti_mul, Int32.reduceToInt] at *; omega)) (by first | omega | decide | (simp only [Int32.le_iff_toInt_le, Int32.lt_iff_toInt_lt, ti_add, ti_sub, ti_mul, Int32.reduceToInt] at *; omega)) (fun v16 ev16 => ?_)
        refine ok_gR (v := 109) hT rfl (hR 108 0 rfl) ?_
        refine ok_aIn rfl (by first | omega | decide | (simp only [Int32.le_iff_toInt_le, Int32.lt_iff_toInt_lt, ti_add, ti_sub, ti_mul, Int32.reduceToInt] at *; omega)) (by first | omega | decide | (simp only [Int32.le_iff_toInt_le, Int32.lt_iff_toInt_lt, ti_add, ti_sub, ti_mul, Int32.reduceToInt] at *; omega)) (fun v18 ev18 => ?_)
        refine ok_gR (v := 109) hT rfl (hR 108 0 rfl) ?_
        refine ok_aIn rfl (by first | omega | decide | (simp only [Int32.le_iff_toInt_le, Int32.lt_iff_toInt_lt, ti_add, ti_sub, ti_mul, Int32.reduceToInt] at *; omega)) (by first | omega | decide | (simp only [Int32.le_iff_toInt_le, Int32.lt_iff_toInt_lt, ti_add, ti_sub, ti_mul, Int32.reduceToInt] at *; omega)) (fun v20 ev20 => ?_)
        refine ok_gC h_x2 ?_
        refine ok_zbT (Q := fun V σ => -1 ≤ V.toInt ∧ V.toInt ≤ 1023) hT (s_X2_firstFrom hN (hR.tr hT) h_x2) (fun _ h9 => absurd h9 List.not_mem_nil) (fun v21 σ22 hOσ22 hT hqv21 => ?_)
        have hqv21 : -1 ≤ v21.toInt ∧ v21.toInt ≤ 1023 := hqv21
        exact ih44_8 (zmin x4_8 v16, zmax x5_8 v18, x6_8 + v20, v21, x8_8 + 1, σ22) (show Tr [109] σ0 σ22 ∧ (0 ≤ (x8_8 + 1).toInt ∧ v21.toInt ≤ 1023) from ⟨hT, (by first | omega | decide | (simp only [Int32.le_iff_toInt_le, Int32.lt_iff_toInt_lt, ti_add, ti_sub, ti_mul, Int32.reduceToInt] at *; omega))⟩) (show (1024 - (x8_8 + 1).toInt).toNat < (1024 - x8_8.toInt).toNat from (by first | omega | decide | (simp only [Int32.le_iff_toInt_le, Int32.lt_iff_toInt_lt, ti_add, ti_sub, ti_mul, Int32.reduceToInt] at *; omega)))
  · refine ok_if (fun hc23 => ?_) (fun hc23 => ?_)
    · exact ok_some ⟨hT, trivial⟩
    · exact ok_some ⟨hT, trivial⟩

set_option maxHeartbeats 4000000 in
set_option maxRecDepth 100000 in
theorem s_X8_pickOfLoad {N : Nat} (hN : 1048576 ≤ N) {x1 : Nat} {x2 : Int32} {x3 : Int32} {σ0 : zS}  (hR : RF σ0.2.2) (h_x1 : (zKd x1).1 = 2) : Ok (f_X8_pickOfLoad N 108 x1 x2 x3 σ0) (fun r => Tr [] σ0 r.2 ∧ (True)) := by
  have hT : Tr [] σ0 σ0 := Tr.rf
  rw [f_X8_pickOfLoad.eq_1]
  refine ok_gC h_x1 ?_
  refine ok_zbT (Q := fun V σ => -1 ≤ V.toInt ∧ V.toInt ≤ 1023) hT (s_X2_firstFrom hN (hR.tr hT) h_x1) (fun _ h9 => absurd h9 List.not_mem_nil) (fun v1 σ2 hOσ2 hT hqv1 => ?_)
  have hqv1 : -1 ≤ v1.toInt ∧ v1.toInt ≤ 1023 := hqv1
  refine ok_lp (fun t : Int32 × Int32 × Int32 × zS => Tr [] σ0 (t.2.2.2) ∧ (0 ≤ (t.2.2.1).toInt ∧ (t.2.1).toInt ≤ 1023)) (fun t : Int32 × Int32 × Int32 × zS => (1024 - (t.2.2.1).toInt).toNat) (fun again3 t hI ih13_3 => ?_) N _ (show Tr [] σ0 σ2 ∧ (0 ≤ (0 : Int32).toInt ∧ v1.toInt ≤ 1023) from ⟨hT, (by first | omega | decide | (simp only [Int32.le_iff_toInt_le, Int32.lt_iff_toInt_lt, ti_add, ti_sub, ti_mul, Int32.reduceToInt] at *; omega))⟩) (show (1024 - (0 : Int32).toInt).toNat < N from (by first | omega | decide | (simp only [Int32.le_iff_toInt_le, Int32.lt_iff_toInt_lt, ti_add, ti_sub, ti_mul, Int32.reduceToInt] at *; omega)))
  obtain ⟨x4_3, x5_3, x6_3, σ3⟩ := t
  have hI : Tr [] σ0 σ3 ∧ (0 ≤ x6_3.toInt ∧ x5_3.toInt ≤ 1023) := hI
  obtain ⟨hT, hI3⟩ := hI
  rw [F_X8_pickOfLoad_13.eq_1]
  refine ok_if (fun hc4 => ?_) (fun hc4 => ?_)
  · exact ok_some ⟨hT, trivial⟩
  · refine ok_if (fun hc5 => ?_) (fun hc5 => ?_)
    · exact ok_some ⟨hT, trivial⟩
    · refine ok_gR (v := 109) hT rfl (hR 108 0 rfl) ?_
      refine ok_aIn rfl (by first | omega | decide | (simp only [Int32.le_iff_toInt_le, Int32.lt_iff_toInt_lt, ti_add, ti_sub, ti_mul, Int32.reduceToInt] at *; omega)) (by first | omega | decide | (simp only [Int32.le_iff_toInt_le, Int32.lt_iff_toInt_lt, ti_add, ti_sub, ti_mul, Int32.reduceToInt] at *; omega)) (fun v7 ev7 => ?_)
      refine ok_if (fun hc8 => ?_) (fun hc8 => ?_)
      · refine ok_if (fun hc9 => ?_) (fun hc9 => ?_)
        · exact ok_some ⟨hT, trivial⟩
        · refine ok_gC h_x1 ?_
          refine ok_zbT (Q := fun V σ => -1 ≤ V.toInt ∧ V.toInt ≤ 1023) hT (s_X2_firstFrom hN (hR.tr hT) h_x1) (fun _ h9 => absurd h9 List.not_mem_nil) (fun v10 σ11 hOσ11 hT hqv10 => ?_)
          have hqv10 : -1 ≤ v10.toInt ∧ v10.toInt ≤ 1023 := hqv10
          exact ih13_3 (x4_3 + (-1), v10, x6_3 + 1, σ11) (show Tr [] σ0 σ11 ∧ (0 ≤ (x6_3 + 1).toInt ∧ v10.toInt ≤ 1023) from ⟨hT, (by first | omega | decide | (simp only [Int32.le_iff_toInt_le, Int32.lt_iff_toInt_lt, ti_add, ti_sub, ti_mul, Int32.reduceToInt] at *; omega))⟩) (show (1024 - (x6_3 + 1).toInt).toNat < (1024 - x6_3.toInt).toNat from (by first | omega | decide | (simp only [Int32.le_iff_toInt_le, Int32.lt_iff_toInt_lt, ti_add, ti_sub, ti_mul, Int32.reduceToInt] at *; omega)))
      · refine ok_gC h_x1 ?_
        refine ok_zbT (Q := fun V σ => -1 ≤ V.toInt ∧ V.toInt ≤ 1023) hT (s_X2_firstFrom hN (hR.tr hT) h_x1) (fun _ h9 => absurd h9 List.not_mem_nil) (fun v12 σ13 hOσ13 hT hqv12 => ?_)
        have hqv12 : -1 ≤ v12.toInt ∧ v12.toInt ≤ 1023 := hqv12
        exact ih13_3 (x4_3, v12, x6_3 + 1, σ13) (show Tr [] σ0 σ13 ∧ (0 ≤ (x6_3 + 1).toInt ∧ v12.toInt ≤ 1023) from ⟨hT, (by first | omega | decide | (simp only [Int32.le_iff_toInt_le, Int32.lt_iff_toInt_lt, ti_add, ti_sub, ti_mul, Int32.reduceToInt] at *; omega))⟩) (show (1024 - (x6_3 + 1).toInt).toNat < (1024 - x6_3.toInt).toNat from (by first | omega | decide | (simp only [Int32.le_iff_toInt_le, Int32.lt_iff_toInt_lt, ti_add, ti_sub, ti_mul, Int32.reduceToInt] at *; omega)))

set_option maxHeartbeats 4000000 in
set_option maxRecDepth 100000 in
theorem s_X8_pick_2 {N : Nat} (hN : 1048576 ≤ N) {x2 : Nat} {x3 : Int32} {σ0 : zS}  (hR : RF σ0.2.2) (h_x2 : (zKd x2).1 = 2) : Ok (f_X8_pick N 108 2 x2 x3 σ0) (fun r => Tr [109, 110] σ0 r.2 ∧ (True)) := by
  have hT : Tr [109, 110] σ0 σ0 := Tr.rf
  rw [f_X8_pick.eq_1]
  refine ok_if (fun hc1 => ?_) (fun hc1 => ?_)
  · exact ok_some ⟨hT, trivial⟩
  · refine ok_gC h_x2 ?_
    refine ok_zbT (Q := fun V σ => True) hT (s_X2_tally hN (hR.tr hT) h_x2) (fun _ h9 => absurd h9 List.not_mem_nil) (fun v2 σ3 hOσ3 hT hqv2 => ?_)
    refine ok_if (fun hc4 => ?_) (fun hc4 => ?_)
    · refine ok_gC rfl ?_
      refine ok_zbT (Q := fun V σ => True) hT (s_X8_weighSets_2 hN (hR.tr hT) ) (by decide) (fun v5 σ6 hOσ6 hT hqv5 => ?_)
      refine ok_gR (v := 110) hT rfl (hR 108 1 rfl) ?_
      refine ok_zbT (Q := fun V σ => True) hT (s_J7_fill_53178_110 hN (hR.tr hT) ) (by decide) (fun v8 σ9 hOσ9 hT hqv8 => ?_)
      refine ok_gC h_x2 ?_
      refine ok_zbT (Q := fun V σ => -1 ≤ V.toInt ∧ V.toInt ≤ 1023) hT (s_X2_firstFrom hN (hR.tr hT) h_x2) (fun _ h9 => absurd h9 List.not_mem_nil) (fun v10 σ11 hOσ11 hT hqv10 => ?_)
      have hqv10 : -1 ≤ v10.toInt ∧ v10.toInt ≤ 1023 := hqv10
      refine ok_lp (fun t : Int32 × Int32 × zS => Tr [109, 110] σ0 (t.2.2) ∧ (0 ≤ (t.2.1).toInt ∧ (t.1).toInt ≤ 1023)) (fun t : Int32 × Int32 × zS => (1024 - (t.2.1).toInt).toNat) (fun again12 t hI ih37_12 => ?_) N _ (show Tr [109, 110] σ0 σ11 ∧ (0 ≤ (0 : Int32).toInt ∧ v10.toInt ≤ 1023) from ⟨hT, (by first | omega | decide | (simp only [Int32.le_iff_toInt_le, Int32.lt_iff_toInt_lt, ti_add, ti_sub, ti_mul, Int32.reduceToInt] at *; omega))⟩) (show (1024 - (0 : Int32).toInt).toNat < N from (by first | omega | decide | (simp only [Int32.le_iff_toInt_le, Int32.lt_iff_toInt_lt, ti_add, ti_sub, ti_mul, Int32.reduceToInt] at *; omega)))
      obtain ⟨x4_12, x5_12, σ12⟩ := t
      have hI : Tr [109, 110] σ0 σ12 ∧ (0 ≤ x5_12.toInt ∧ x4_12.toInt ≤ 1023) := hI
      obtain ⟨hT, hI12⟩ := hI
      rw [F_X8_pick_37.eq_1]
      refine ok_if (fun hc13 => ?_) (fun hc13 => ?_)
      · rw [J_X8_pick_107.eq_1]
        refine ok_lp (fun t : Int32 × Int32 × zS => Tr [109, 110] σ0 (t.2.2) ∧ (0 ≤ (t.2.1).toInt)) (fun t : Int32 × Int32 × zS => (991 - (t.2.1).toInt).toNat) (fun again14 t hI ih113_14 => ?_) N _ (show Tr [109, 110] σ0 σ12 ∧ (0 ≤ (0 : Int32).toInt) from ⟨hT, (by first | omega | decide | (simp only [Int32.le_iff_toInt_le, Int32.lt_iff_toInt_lt, ti_add, ti_sub, ti_mul, Int32.reduceToInt] at *; omega))⟩) (show (991 - (0 : Int32).toInt).toNat < N from (by first | omega | decide | (simp only [Int32.le_iff_toInt_le, Int32.lt_iff_toInt_lt, ti_add, ti_sub, ti_mul, Int32.reduceToInt] at *; omega)))
        obtain ⟨x5_14, x6_14, σ14⟩ := t
        have hI : Tr [109, 110] σ0 σ14 ∧ (0 ≤ x6_14.toInt) := hI
        obtain ⟨hT, hI14⟩ := hI
        rw [F_X8_pick_113.eq_1]
        refine ok_gR (v := 110) hT rfl (hR 108 1 rfl) ?_
        refine ok_aL (n := 991) rfl ?_
        rw [show Int32.ofNat 991 = 991 from rfl]
        refine ok_if (fun hc17 => ?_) (fun hc17 => ?_)
        · exact ok_some ⟨hT, trivial⟩
        · refine ok_gR (v := 110) hT rfl (hR 108 1 rfl) ?_
          refine ok_aIn rfl (by first | omega | decide | (simp only [Int32.le_iff_toInt_le, Int32.lt_iff_toInt_lt, ti_add, ti_sub, ti_mul, Int32.reduceToInt] at *; omega)) (by first | omega | decide | (simp only [Int32.le_iff_toInt_le, Int32.lt_iff_toInt_lt, ti_add, ti_sub, ti_mul, Int32.reduceToInt] at *; omega)) (fun v19 ev19 => ?_)
          refine ok_if (fun hc20 => ?_) (fun hc20 => ?_)
          · refine ok_gR (v := 110) hT rfl (hR 108 1 rfl) ?_
            refine ok_aIn rfl (by first | omega | decide | (simp only [Int32.le_iff_toInt_le, Int32.lt_iff_toInt_lt, ti_add, ti_sub, ti_mul, Int32.reduceToInt] at *; omega)) (by first | omega | decide | (simp only [Int32.le_iff_toInt_le, Int32.lt_iff_toInt_lt, ti_add, ti_sub, ti_mul, Int32.reduceToInt] at *; omega)) (fun v22 ev22 => ?_)
            exact ih113_14 (x5_14 - v22, x6_14 + 1, σ14) (show Tr [109, 110] σ0 σ14 ∧ (0 ≤ (x6_14 + 1).toInt) from ⟨hT, (by first | omega | decide | (simp only [Int32.le_iff_toInt_le, Int32.lt_iff_toInt_lt, ti_add, ti_sub, ti_mul, Int32.reduceToInt] at *; omega))⟩) (show (991 - (x6_14 + 1).toInt).toNat < (991 - x6_14.toInt).toNat from (by first | omega | decide | (simp only [Int32.le_iff_toInt_le, Int32.lt_iff_toInt_lt, ti_add, ti_sub, ti_mul, Int32.reduceToInt] at *; omega)))
          · refine ok_gC rfl ?_
            refine ok_zbT (Q := fun V σ => True) hT (s_X8_pickOfLoad hN (hR.tr hT) h_x2) (fun _ h9 => absurd h9 List.not_mem_nil) (fun v23 σ24 hOσ24 hT hqv23 => ?_)
            exact ok_some ⟨hT, trivial⟩
      · refine ok_if (fun hc25 => ?_) (fun hc25 => ?_)
        · rw [J_X8_pick_107.eq_1]
          refine ok_lp (fun t : Int32 × Int32 × zS => Tr [109, 110] σ0 (t.2.2) ∧ (0 ≤ (t.2.1).toInt)) (fun t : Int32 × Int32 × zS => (991 - (t.2.1).toInt).toNat) (fun again26 t hI ih113_26 => ?_) N _ (show Tr [109, 110] σ0 σ12 ∧ (0 ≤ (0 : Int32).toInt) from ⟨hT, (by first | omega | decide | (simp only [Int32.le_iff_toInt_le, Int32.lt_iff_toInt_lt, ti_add, ti_sub, ti_mul, Int32.reduceToInt] at *; omega))⟩) (show (991 - (0 : Int32).toInt).toNat < N from (by first | omega | decide | (simp only [Int32.le_iff_toInt_le, Int32.lt_iff_toInt_lt, ti_add, ti_sub, ti_mul, Int32.reduceToInt] at *; omega)))
          obtain ⟨x5_26, x6_26, σ26⟩ := t
          have hI : Tr [109, 110] σ0 σ26 ∧ (0 ≤ x6_26.toInt) := hI
          obtain ⟨hT, hI26⟩ := hI
          rw [F_X8_pick_113.eq_1]
          refine ok_gR (v := 110) hT rfl (hR 108 1 rfl) ?_
          refine ok_aL (n := 991) rfl ?_
          rw [show Int32.ofNat 991 = 991 from rfl]
          refine ok_if (fun hc29 => ?_) (fun hc29 => ?_)
          · exact ok_some ⟨hT, trivial⟩
          · refine ok_gR (v := 110) hT rfl (hR 108 1 rfl) ?_
            refine ok_aIn rfl (by first | omega | decide | (simp only [Int32.le_iff_toInt_le, Int32.lt_iff_toInt_lt, ti_add, ti_sub, ti_mul, Int32.reduceToInt] at *; omega)) (by first | omega | decide | (simp only [Int32.le_iff_toInt_le, Int32.lt_iff_toInt_lt, ti_add, ti_sub, ti_mul, Int32.reduceToInt] at *; omega)) (fun v31 ev31 => ?_)
            refine ok_if (fun hc32 => ?_) (fun hc32 => ?_)
            · refine ok_gR (v := 110) hT rfl (hR 108 1 rfl) ?_
              refine ok_aIn rfl (by first | omega | decide | (simp only [Int32.le_iff_toInt_le, Int32.lt_iff_toInt_lt, ti_add, ti_sub, ti_mul, Int32.reduceToInt] at *; omega)) (by first | omega | decide | (simp only [Int32.le_iff_toInt_le, Int32.lt_iff_toInt_lt, ti_add, ti_sub, ti_mul, Int32.reduceToInt] at *; omega)) (fun v34 ev34 => ?_)
              exact ih113_26 (x5_26 - v34, x6_26 + 1, σ26) (show Tr [109, 110] σ0 σ26 ∧ (0 ≤ (x6_26 + 1).toInt) from ⟨hT, (by first | omega | decide | (simp only [Int32.le_iff_toInt_le, Int32.lt_iff_toInt_lt, ti_add, ti_sub, ti_mul, Int32.reduceToInt] at *; omega))⟩) (show (991 - (x6_26 + 1).toInt).toNat < (991 - x6_26.toInt).toNat from (by first | omega | decide | (simp only [Int32.le_iff_toInt_le, Int32.lt_iff_toInt_lt, ti_add, ti_sub, ti_mul, Int32.reduceToInt] at *; omega)))
            · refine ok_gC rfl ?_
              refine ok_zbT (Q := fun V σ => True) hT (s_X8_pickOfLoad hN (hR.tr hT) h_x2) (fun _ h9 => absurd h9 List.not_mem_nil) (fun v35 σ36 hOσ36 hT hqv35 => ?_)
              exact ok_some ⟨hT, trivial⟩
        · refine ok_gR (v := 109) hT rfl (hR 108 0 rfl) ?_
          refine ok_aIn rfl (by first | omega | decide | (simp only [Int32.le_iff_toInt_le, Int32.lt_iff_toInt_lt, ti_add, ti_sub, ti_mul, Int32.reduceToInt] at *; omega)) (by first | omega | decide | (simp only [Int32.le_iff_toInt_le, Int32.lt_iff_toInt_lt, ti_add, ti_sub, ti_mul, Int32.reduceToInt] at *; omega)) (fun v38 ev38 => ?_)
          have q56 := ev38
          refine ok_if (fun hc39 => ?_) (fun hc39 => ?_)
          · refine ok_gC h_x2 ?_
            refine ok_zbT (Q := fun V σ => -1 ≤ V.toInt ∧ V.toInt ≤ 1023) hT (s_X2_firstFrom hN (hR.tr hT) h_x2) (fun _ h9 => absurd h9 List.not_mem_nil) (fun v40 σ41 hOσ41 hT hqv40 => ?_)
            have hqv40 : -1 ≤ v40.toInt ∧ v40.toInt ≤ 1023 := hqv40
            exact ih37_12 (v40, x5_12 + 1, σ41) (show Tr [109, 110] σ0 σ41 ∧ (0 ≤ (x5_12 + 1).toInt ∧ v40.toInt ≤ 1023) from ⟨hT, (by first | omega | decide | (simp only [Int32.le_iff_toInt_le, Int32.lt_iff_toInt_lt, ti_add, ti_sub, ti_mul, Int32.reduceToInt] at *; omega))⟩) (show (1024 - (x5_12 + 1).toInt).toNat < (1024 - x5_12.toInt).toNat from (by first | omega | decide | (simp only [Int32.le_iff_toInt_le, Int32.lt_iff_toInt_lt, ti_add, ti_sub, ti_mul, Int32.reduceToInt] at *; omega)))
          · refine ok_gR (v := 109) hT rfl (hR 108 0 rfl) ?_
            refine ok_aIn rfl (by first | omega | decide | (simp only [Int32.le_iff_toInt_le, Int32.lt_iff_toInt_lt, ti_add, ti_sub, ti_mul, Int32.reduceToInt] at *; omega)) (by first | omega | decide | (simp only [Int32.le_iff_toInt_le, Int32.lt_iff_toInt_lt, ti_add, ti_sub, ti_mul, Int32.reduceToInt] at *; omega)) (fun v43 ev43 => ?_)
            have q66 := congrArg Int32.toInt (ev43.trans q56.symm)
            have q67 := ev43
            refine ok_gR (v := 110) hT rfl (hR 108 1 rfl) ?_
            refine ok_aL (n := 991) rfl ?_
            rw [show Int32.ofNat 991 = 991 from rfl]
            refine ok_if (fun hc46 => ?_) (fun hc46 => ?_)
            · refine ok_gC h_x2 ?_
              refine ok_zbT (Q := fun V σ => -1 ≤ V.toInt ∧ V.toInt ≤ 1023) hT (s_X2_firstFrom hN (hR.tr hT) h_x2) (fun _ h9 => absurd h9 List.not_mem_nil) (fun v47 σ48 hOσ48 hT hqv47 => ?_)
              have hqv47 : -1 ≤ v47.toInt ∧ v47.toInt ≤ 1023 := hqv47
              exact ih37_12 (v47, x5_12 + 1, σ48) (show Tr [109, 110] σ0 σ48 ∧ (0 ≤ (x5_12 + 1).toInt ∧ v47.toInt ≤ 1023) from ⟨hT, (by first | omega | decide | (simp only [Int32.le_iff_toInt_le, Int32.lt_iff_toInt_lt, ti_add, ti_sub, ti_mul, Int32.reduceToInt] at *; omega))⟩) (show (1024 - (x5_12 + 1).toInt).toNat < (1024 - x5_12.toInt).toNat from (by first | omega | decide | (simp only [Int32.le_iff_toInt_le, Int32.lt_iff_toInt_lt, ti_add, ti_sub, ti_mul, Int32.reduceToInt] at *; omega)))
            · refine ok_gR (v := 110) hT rfl (hR 108 1 rfl) ?_
              refine ok_gR (v := 109) hT rfl (hR 108 0 rfl) ?_
              refine ok_aIn rfl (by first | omega | decide | (simp only [Int32.le_iff_toInt_le, Int32.lt_iff_toInt_lt, ti_add, ti_sub, ti_mul, Int32.reduceToInt] at *; omega)) (by first | omega | decide | (simp only [Int32.le_iff_toInt_le, Int32.lt_iff_toInt_lt, ti_add, ti_sub, ti_mul, Int32.reduceToInt] at *; omega)) (fun v51 ev51 => ?_)
              have q85 := congrArg Int32.toInt (ev51.trans q67.symm)
              refine ok_aIn rfl (by first | omega | decide | (simp only [Int32.le_iff_toInt_le, Int32.lt_iff_toInt_lt, ti_add, ti_sub, ti_mul, Int32.reduceToInt] at *; omega)) (by first | omega | decide | (simp only [Int32.le_iff_toInt_le, Int32.lt_iff_toInt_lt, ti_add, ti_sub, ti_mul, Int32.reduceToInt] at *; omega)) (fun v52 ev52 => ?_)
              refine ok_s14 hT rfl (by decide) (by first | omega | decide | (simp only [Int32.le_iff_toInt_le, Int32.lt_iff_toInt_lt, ti_add, ti_sub, ti_mul, Int32.reduceToInt] at *; omega)) (by first | omega | decide | (simp only [Int32.le_iff_toInt_le, Int32.lt_iff_toInt_lt, ti_add, ti_sub, ti_mul, Int32.reduceToInt] at *; omega)) (fun σ53 eσ53 hOσ53 hT => ?_)
              refine ok_gC h_x2 ?_
              refine ok_zbT (Q := fun V σ => -1 ≤ V.toInt ∧ V.toInt ≤ 1023) hT (s_X2_firstFrom hN (hR.tr hT) h_x2) (fun _ h9 => absurd h9 List.not_mem_nil) (fun v54 σ55 hOσ55 hT hqv54 => ?_)
              have hqv54 : -1 ≤ v54.toInt ∧ v54.toInt ≤ 1023 := hqv54
              exact ih37_12 (v54, x5_12 + 1, σ55) (show Tr [109, 110] σ0 σ55 ∧ (0 ≤ (x5_12 + 1).toInt ∧ v54.toInt ≤ 1023) from ⟨hT, (by first | omega | decide | (simp only [Int32.le_iff_toInt_le, Int32.lt_iff_toInt_lt, ti_add, ti_sub, ti_mul, Int32.reduceToInt] at *; omega))⟩) (show (1024 - (x5_12 + 1).toInt).toNat < (1024 - x5_12.toInt).toNat from (by first | omega | decide | (simp only [Int32.le_iff_toInt_le, Int32.lt_iff_toInt_lt, ti_add, ti_sub, ti_mul, Int32.reduceToInt] at *; omega)))
    · exact ok_some ⟨hT, trivial⟩

set_option maxHeartbeats 4000000 in
set_option maxRecDepth 100000 in
theorem s_X8_weighSets_28 {N : Nat} (hN : 1048576 ≤ N)  {σ0 : zS}  (hR : RF σ0.2.2)  : Ok (f_X8_weighSets N 108 28 σ0) (fun r => Tr [109] σ0 r.2 ∧ (True)) := by
  have hT : Tr [109] σ0 σ0 := Tr.rf
  rw [f_X8_weighSets.eq_1]
  refine ok_gR (v := 109) hT rfl (hR 108 0 rfl) ?_
  refine ok_s14 hT rfl (by decide) (by first | omega | decide | (simp only [Int32.le_iff_toInt_le, Int32.lt_iff_toInt_lt, ti_add, ti_sub, ti_mul, Int32.reduceToInt] at *; omega)) (by first | omega | decide | (simp only [Int32.le_iff_toInt_le, Int32.lt_iff_toInt_lt, ti_add, ti_sub, ti_mul, Int32.reduceToInt] at *; omega)) (fun σ2 eσ2 hOσ2 hT => ?_)
  refine ok_lp (fun t : Int32 × zS => Tr [109] σ0 (t.2) ∧ (0 ≤ (t.1).toInt)) (fun t : Int32 × zS => (10 - (t.1).toInt).toNat) (fun again3 t hI ih9_3 => ?_) N _ (show Tr [109] σ0 σ2 ∧ (0 ≤ (0 : Int32).toInt) from ⟨hT, (by first | omega | decide | (simp only [Int32.le_iff_toInt_le, Int32.lt_iff_toInt_lt, ti_add, ti_sub, ti_mul, Int32.reduceToInt] at *; omega))⟩) (show (10 - (0 : Int32).toInt).toNat < N from (by first | omega | decide | (simp only [Int32.le_iff_toInt_le, Int32.lt_iff_toInt_lt, ti_add, ti_sub, ti_mul, Int32.reduceToInt] at *; omega)))
  obtain ⟨x2_3, σ3⟩ := t
  have hI : Tr [109] σ0 σ3 ∧ (0 ≤ x2_3.toInt) := hI
  obtain ⟨hT, hI3⟩ := hI
  rw [F_X8_weighSets_9.eq_1]
  refine ok_gI0 hT rfl (by decide) ?_
  refine ok_if (fun hc5 => ?_) (fun hc5 => ?_)
  · exact ok_some ⟨hT, trivial⟩
  · refine ok_if (fun hc6 => ?_) (fun hc6 => ?_)
    · exact ok_some ⟨hT, trivial⟩
    · have q9 := ti_one9 (x := x2_3) (by simp only [Int32.le_iff_toInt_le, Int32.reduceToInt] at *; omega) (by simp only [Int32.le_iff_toInt_le, Int32.reduceToInt] at *; omega)
      refine ok_lp (fun t : Int32 × zS => Tr [109] σ0 (t.2) ∧ (0 ≤ (t.1).toInt)) (fun t : Int32 × zS => (((1 : Int32) <<< (x2_3 &&& 31)).toInt - (t.1).toInt).toNat) (fun again7 t hI ih30_7 => ?_) N _ (show Tr [109] σ0 σ3 ∧ (0 ≤ (0 : Int32).toInt) from ⟨hT, (by first | omega | decide | (simp only [Int32.le_iff_toInt_le, Int32.lt_iff_toInt_lt, ti_add, ti_sub, ti_mul, Int32.reduceToInt] at *; omega))⟩) (show (((1 : Int32) <<< (x2_3 &&& 31)).toInt - (0 : Int32).toInt).toNat < N from (by first | omega | decide | (simp only [Int32.le_iff_toInt_le, Int32.lt_iff_toInt_lt, ti_add, ti_sub, ti_mul, Int32.reduceToInt] at *; omega)))
      obtain ⟨x4_7, σ7⟩ := t
      have hI : Tr [109] σ0 σ7 ∧ (0 ≤ x4_7.toInt) := hI
      obtain ⟨hT, hI7⟩ := hI
      rw [F_X8_weighSets_30.eq_1]
      refine ok_if (fun hc8 => ?_) (fun hc8 => ?_)
      · exact ih9_3 (x2_3 + 1, σ7) (show Tr [109] σ0 σ7 ∧ (0 ≤ (x2_3 + 1).toInt) from ⟨hT, (by first | omega | decide | (simp only [Int32.le_iff_toInt_le, Int32.lt_iff_toInt_lt, ti_add, ti_sub, ti_mul, Int32.reduceToInt] at *; omega))⟩) (show (10 - (x2_3 + 1).toInt).toNat < (10 - x2_3.toInt).toNat from (by first | omega | decide | (simp only [Int32.le_iff_toInt_le, Int32.lt_iff_toInt_lt, ti_add, ti_sub, ti_mul, Int32.reduceToInt] at *; omega)))
      · refine ok_gR (v := 109) hT rfl (hR 108 0 rfl) ?_
        refine ok_gR (v := 109) hT rfl (hR 108 0 rfl) ?_
        refine ok_aIn rfl (by first | omega | decide | (simp only [Int32.le_iff_toInt_le, Int32.lt_iff_toInt_lt, ti_add, ti_sub, ti_mul, Int32.reduceToInt] at *; omega)) (by first | omega | decide | (simp only [Int32.le_iff_toInt_le, Int32.lt_iff_toInt_lt, ti_add, ti_sub, ti_mul, Int32.reduceToInt] at *; omega)) (fun v11 ev11 => ?_)
        refine ok_gR (v := 31) hT rfl (hR 28 5 rfl) ?_
        refine ok_aIn rfl (by first | omega | decide | (simp only [Int32.le_iff_toInt_le, Int32.lt_iff_toInt_lt, ti_add, ti_sub, ti_mul, Int32.reduceToInt] at *; omega)) (by first | omega | decide | (simp only [Int32.le_iff_toInt_le, Int32.lt_iff_toInt_lt, ti_add, ti_sub, ti_mul, Int32.reduceToInt] at *; omega)) (fun v13 ev13 => ?_)
        refine ok_s14 hT rfl (by decide) (by first | omega | decide | (simp only [Int32.le_iff_toInt_le, Int32.lt_iff_toInt_lt, ti_add, ti_sub, ti_mul, Int32.reduceToInt] at *; omega)) (by first | omega | decide | (simp only [Int32.le_iff_toInt_le, Int32.lt_iff_toInt_lt, ti_add, ti_sub, ti_mul, Int32.reduceToInt] at *; omega)) (fun σ14 eσ14 hOσ14 hT => ?_)
        exact ih30_7 (x4_7 + 1, σ14) (show Tr [109] σ0 σ14 ∧ (0 ≤ (x4_7 + 1).toInt) from ⟨hT, (by first | omega | decide | (simp only [Int32.le_iff_toInt_le, Int32.lt_iff_toInt_lt, ti_add, ti_sub, ti_mul, Int32.reduceToInt] at *; omega))⟩) (show (((1 : Int32) <<< (x2_3 &&& 31)).toInt - (x4_7 + 1).toInt).toNat < (((1 : Int32) <<< (x2_3 &&& 31)).toInt - x4_7.toInt).toNat from (by first | omega | decide | (simp only [Int32.le_iff_toInt_le, Int32.lt_iff_toInt_lt, ti_add, ti_sub, ti_mul, Int32.reduceToInt] at *; omega)))

set_option maxHeartbeats 4000000 in
set_option maxRecDepth 100000 in
theorem s_X8_sum_28 {N : Nat} (hN : 1048576 ≤ N) {x2 : Nat} {x3 : Int32} {σ0 : zS}  (hR : RF σ0.2.2) (h_x2 : (zKd x2).1 = 2) : Ok (f_X8_sum N 108 28 x2 x3 σ0) (fun r => Tr [109] σ0 r.2 ∧ (True)) := by
  have hT : Tr [109] σ0 σ0 := Tr.rf
  rw [f_X8_sum.eq_1]
  refine ok_gC h_x2 ?_
  refine ok_zbT (Q := fun V σ => V = 0 ∨ V = 1) hT (s_X2_isEmpty hN (hR.tr hT) h_x2) (fun _ h9 => absurd h9 List.not_mem_nil) (fun v1 σ2 hOσ2 hT hqv1 => ?_)
  have hqv1 : v1 = 0 ∨ v1 = 1 := hqv1
  refine ok_if (fun hc3 => ?_) (fun hc3 => ?_)
  · refine ok_gC rfl ?_
    refine ok_zbT (Q := fun V σ => True) hT (s_X8_weighSets_28 hN (hR.tr hT) ) (by decide) (fun v4 σ5 hOσ5 hT hqv4 => ?_)
    refine ok_gC h_x2 ?_
    refine ok_zbT (Q := fun V σ => -1 ≤ V.toInt ∧ V.toInt ≤ 1023) hT (s_X2_firstFrom hN (hR.tr hT) h_x2) (fun _ h9 => absurd h9 List.not_mem_nil) (fun v6 σ7 hOσ7 hT hqv6 => ?_)
    have hqv6 : -1 ≤ v6.toInt ∧ v6.toInt ≤ 1023 := hqv6
    refine ok_lp (fun t : Int32 × Int32 × Int32 × Int32 × Int32 × zS => Tr [109] σ0 (t.2.2.2.2.2) ∧ (0 ≤ (t.2.2.2.2.1).toInt ∧ (t.2.2.2.1).toInt ≤ 1023)) (fun t : Int32 × Int32 × Int32 × Int32 × Int32 × zS => (1024 - (t.2.2.2.2.1).toInt).toNat) (fun again8 t hI ih44_8 => ?_) N _ (show Tr [109] σ0 σ7 ∧ (0 ≤ (0 : Int32).toInt ∧ v6.toInt ≤ 1023) from ⟨hT, (by first | omega | decide | (simp only [Int32.le_iff_toInt_le, Int32.lt_iff_toInt_lt, ti_add, ti_sub, ti_mul, Int32.reduceToInt] at *; omega))⟩) (show (1024 - (0 : Int32).toInt).toNat < N from (by first | omega | decide | (simp only [Int32.le_iff_toInt_le, Int32.lt_iff_toInt_lt, ti_add, ti_sub, ti_mul, Int32.reduceToInt] at *; omega)))
    obtain ⟨x4_8, x5_8, x6_8, x7_8, x8_8, σ8⟩ := t
    have hI : Tr [109] σ0 σ8 ∧ (0 ≤ x8_8.toInt ∧ x7_8.toInt ≤ 1023) := hI
    obtain ⟨hT, hI8⟩ := hI
    rw [F_X8_sum_44.eq_1]
    refine ok_if (fun hc9 => ?_) (fun hc9 => ?_)
    · rw [J_X8_sum_113.eq_1]
      refine ok_if (fun hc10 => ?_) (fun hc10 => ?_)
      · exact ok_some ⟨hT, trivial⟩
      · refine ok_if (fun hc11 => ?_) (fun hc11 => ?_)
        · exact ok_some ⟨hT, trivial⟩
        · exact ok_some ⟨hT, trivial⟩
    · refine ok_if (fun hc12 => ?_) (fun hc12 => ?_)
      · rw [J_X8_sum_113.eq_1]
        refine ok_if (fun hc13 => ?_) (fun hc13 => ?_)
        · exact ok_some ⟨hT, trivial⟩
        · refine ok_if (fun hc14 => ?_) (fun hc14 => ?_)
          · exact ok_some ⟨hT, trivial⟩
          · exact ok_some ⟨hT, trivial⟩
      · refine ok_gR (v := 109) hT rfl (hR 108 0 rfl) ?_
        refine ok_aIn rfl (by first | omega | decide | (simp only [Int32.le_iff_toInt_le, Int32.lt_iff_toInt_lt, ti_add, ti_sub, ti_mul, Int32.reduceToInt] at *; omega)) (by first | omega | decide | (simp only [Int32.le_iff_toInt_le, Int32.lt_iff_toInt_lt, ti_add, ti_sub, ti_mul, Int32.reduceToInt] at *; omega)) (fun v16 ev16 => ?_)
        refine ok_gR (v := 109) hT rfl (hR 108 0 rfl) ?_
        refine ok_aIn rfl (by first | omega | decide | (simp only [Int32.le_iff_toInt_le, Int32.lt_iff_toInt_lt, ti_add, ti_sub, ti_mul, Int32.reduceToInt] at *; omega)) (by first | omega | decide | (simp only [Int32.le_iff_toInt_le, Int32.lt_iff_toInt_lt, ti_add, ti_sub, ti_mul, Int32.reduceToInt] at *; omega)) (fun v18 ev18 => ?_)
        refine ok_gR (v := 109) hT rfl (hR 108 0 rfl) ?_
        refine ok_aIn rfl (by first | omega | decide | (simp only [Int32.le_iff_toInt_le, Int32.lt_iff_toInt_lt, ti_add, ti_sub, ti_mul, Int32.reduceToInt] at *; omega)) (by first | omega | decide | (simp only [Int32.le_iff_toInt_le, Int32.lt_iff_toInt_lt, ti_add, ti_sub, ti_mul, Int32.reduceToInt] at *; omega)) (fun v20 ev20 => ?_)
        refine ok_gC h_x2 ?_
        refine ok_zbT (Q := fun V σ => -1 ≤ V.toInt ∧ V.toInt ≤ 1023) hT (s_X2_firstFrom hN (hR.tr hT) h_x2) (fun _ h9 => absurd h9 List.not_mem_nil) (fun v21 σ22 hOσ22 hT hqv21 => ?_)
        have hqv21 : -1 ≤ v21.toInt ∧ v21.toInt ≤ 1023 := hqv21
        exact ih44_8 (zmin x4_8 v16, zmax x5_8 v18, x6_8 + v20, v21, x8_8 + 1, σ22) (show Tr [109] σ0 σ22 ∧ (0 ≤ (x8_8 + 1).toInt ∧ v21.toInt ≤ 1023) from ⟨hT, (by first | omega | decide | (simp only [Int32.le_iff_toInt_le, Int32.lt_iff_toInt_lt, ti_add, ti_sub, ti_mul, Int32.reduceToInt] at *; omega))⟩) (show (1024 - (x8_8 + 1).toInt).toNat < (1024 - x8_8.toInt).toNat from (by first | omega | decide | (simp only [Int32.le_iff_toInt_le, Int32.lt_iff_toInt_lt, ti_add, ti_sub, ti_mul, Int32.reduceToInt] at *; omega)))
  · refine ok_if (fun hc23 => ?_) (fun hc23 => ?_)
    · exact ok_some ⟨hT, trivial⟩
    · exact ok_some ⟨hT, trivial⟩

set_option maxHeartbeats 4000000 in
set_option maxRecDepth 100000 in
theorem s_X8_pick_28 {N : Nat} (hN : 1048576 ≤ N) {x2 : Nat} {x3 : Int32} {σ0 : zS}  (hR : RF σ0.2.2) (h_x2 : (zKd x2).1 = 2) : Ok (f_X8_pick N 108 28 x2 x3 σ0) (fun r => Tr [109, 110] σ0 r.2 ∧ (True)) := by
  have hT : Tr [109, 110] σ0 σ0 := Tr.rf
  rw [f_X8_pick.eq_1]
  refine ok_if (fun hc1 => ?_) (fun hc1 => ?_)
  · exact ok_some ⟨hT, trivial⟩
  · refine ok_gC h_x2 ?_
    refine ok_zbT (Q := fun V σ => True) hT (s_X2_tally hN (hR.tr hT) h_x2) (fun _ h9 => absurd h9 List.not_mem_nil) (fun v2 σ3 hOσ3 hT hqv2 => ?_)
    refine ok_if (fun hc4 => ?_) (fun hc4 => ?_)
    · refine ok_gC rfl ?_
      refine ok_zbT (Q := fun V σ => True) hT (s_X8_weighSets_28 hN (hR.tr hT) ) (by decide) (fun v5 σ6 hOσ6 hT hqv5 => ?_)
      refine ok_gR (v := 110) hT rfl (hR 108 1 rfl) ?_
      refine ok_zbT (Q := fun V σ => True) hT (s_J7_fill_53178_110 hN (hR.tr hT) ) (by decide) (fun v8 σ9 hOσ9 hT hqv8 => ?_)
      refine ok_gC h_x2 ?_
      refine ok_zbT (Q := fun V σ => -1 ≤ V.toInt ∧ V.toInt ≤ 1023) hT (s_X2_firstFrom hN (hR.tr hT) h_x2) (fun _ h9 => absurd h9 List.not_mem_nil) (fun v10 σ11 hOσ11 hT hqv10 => ?_)
      have hqv10 : -1 ≤ v10.toInt ∧ v10.toInt ≤ 1023 := hqv10
      refine ok_lp (fun t : Int32 × Int32 × zS => Tr [109, 110] σ0 (t.2.2) ∧ (0 ≤ (t.2.1).toInt ∧ (t.1).toInt ≤ 1023)) (fun t : Int32 × Int32 × zS => (1024 - (t.2.1).toInt).toNat) (fun again12 t hI ih37_12 => ?_) N _ (show Tr [109, 110] σ0 σ11 ∧ (0 ≤ (0 : Int32).toInt ∧ v10.toInt ≤ 1023) from ⟨hT, (by first | omega | decide | (simp only [Int32.le_iff_toInt_le, Int32.lt_iff_toInt_lt, ti_add, ti_sub, ti_mul, Int32.reduceToInt] at *; omega))⟩) (show (1024 - (0 : Int32).toInt).toNat < N from (by first | omega | decide | (simp only [Int32.le_iff_toInt_le, Int32.lt_iff_toInt_lt, ti_add, ti_sub, ti_mul, Int32.reduceToInt] at *; omega)))
      obtain ⟨x4_12, x5_12, σ12⟩ := t
      have hI : Tr [109, 110] σ0 σ12 ∧ (0 ≤ x5_12.toInt ∧ x4_12.toInt ≤ 1023) := hI
      obtain ⟨hT, hI12⟩ := hI
      rw [F_X8_pick_37.eq_1]
      refine ok_if (fun hc13 => ?_) (fun hc13 => ?_)
      · rw [J_X8_pick_107.eq_1]
        refine ok_lp (fun t : Int32 × Int32 × zS => Tr [109, 110] σ0 (t.2.2) ∧ (0 ≤ (t.2.1).toInt)) (fun t : Int32 × Int32 × zS => (991 - (t.2.1).toInt).toNat) (fun again14 t hI ih113_14 => ?_) N _ (show Tr [109, 110] σ0 σ12 ∧ (0 ≤ (0 : Int32).toInt) from ⟨hT, (by first | omega | decide | (simp only [Int32.le_iff_toInt_le, Int32.lt_iff_toInt_lt, ti_add, ti_sub, ti_mul, Int32.reduceToInt] at *; omega))⟩) (show (991 - (0 : Int32).toInt).toNat < N from (by first | omega | decide | (simp only [Int32.le_iff_toInt_le, Int32.lt_iff_toInt_lt, ti_add, ti_sub, ti_mul, Int32.reduceToInt] at *; omega)))
        obtain ⟨x5_14, x6_14, σ14⟩ := t
        have hI : Tr [109, 110] σ0 σ14 ∧ (0 ≤ x6_14.toInt) := hI
        obtain ⟨hT, hI14⟩ := hI
        rw [F_X8_pick_113.eq_1]
        refine ok_gR (v := 110) hT rfl (hR 108 1 rfl) ?_
        refine ok_aL (n := 991) rfl ?_
        rw [show Int32.ofNat 991 = 991 from rfl]
        refine ok_if (fun hc17 => ?_) (fun hc17 => ?_)
        · exact ok_some ⟨hT, trivial⟩
        · refine ok_gR (v := 110) hT rfl (hR 108 1 rfl) ?_
          refine ok_aIn rfl (by first | omega | decide | (simp only [Int32.le_iff_toInt_le, Int32.lt_iff_toInt_lt, ti_add, ti_sub, ti_mul, Int32.reduceToInt] at *; omega)) (by first | omega | decide | (simp only [Int32.le_iff_toInt_le, Int32.lt_iff_toInt_lt, ti_add, ti_sub, ti_mul, Int32.reduceToInt] at *; omega)) (fun v19 ev19 => ?_)
          refine ok_if (fun hc20 => ?_) (fun hc20 => ?_)
          · refine ok_gR (v := 110) hT rfl (hR 108 1 rfl) ?_
            refine ok_aIn rfl (by first | omega | decide | (simp only [Int32.le_iff_toInt_le, Int32.lt_iff_toInt_lt, ti_add, ti_sub, ti_mul, Int32.reduceToInt] at *; omega)) (by first | omega | decide | (simp only [Int32.le_iff_toInt_le, Int32.lt_iff_toInt_lt, ti_add, ti_sub, ti_mul, Int32.reduceToInt] at *; omega)) (fun v22 ev22 => ?_)
            exact ih113_14 (x5_14 - v22, x6_14 + 1, σ14) (show Tr [109, 110] σ0 σ14 ∧ (0 ≤ (x6_14 + 1).toInt) from ⟨hT, (by first | omega | decide | (simp only [Int32.le_iff_toInt_le, Int32.lt_iff_toInt_lt, ti_add, ti_sub, ti_mul, Int32.reduceToInt] at *; omega))⟩) (show (991 - (x6_14 + 1).toInt).toNat < (991 - x6_14.toInt).toNat from (by first | omega | decide | (simp only [Int32.le_iff_toInt_le, Int32.lt_iff_toInt_lt, ti_add, ti_sub, ti_mul, Int32.reduceToInt] at *; omega)))
          · refine ok_gC rfl ?_
            refine ok_zbT (Q := fun V σ => True) hT (s_X8_pickOfLoad hN (hR.tr hT) h_x2) (fun _ h9 => absurd h9 List.not_mem_nil) (fun v23 σ24 hOσ24 hT hqv23 => ?_)
            exact ok_some ⟨hT, trivial⟩
      · refine ok_if (fun hc25 => ?_) (fun hc25 => ?_)
        · rw [J_X8_pick_107.eq_1]
          refine ok_lp (fun t : Int32 × Int32 × zS => Tr [109, 110] σ0 (t.2.2) ∧ (0 ≤ (t.2.1).toInt)) (fun t : Int32 × Int32 × zS => (991 - (t.2.1).toInt).toNat) (fun again26 t hI ih113_26 => ?_) N _ (show Tr [109, 110] σ0 σ12 ∧ (0 ≤ (0 : Int32).toInt) from ⟨hT, (by first | omega | decide | (simp only [Int32.le_iff_toInt_le, Int32.lt_iff_toInt_lt, ti_add, ti_sub, ti_mul, Int32.reduceToInt] at *; omega))⟩) (show (991 - (0 : Int32).toInt).toNat < N from (by first | omega | decide | (simp only [Int32.le_iff_toInt_le, Int32.lt_iff_toInt_lt, ti_add, ti_sub, ti_mul, Int32.reduceToInt] at *; omega)))
          obtain ⟨x5_26, x6_26, σ26⟩ := t
          have hI : Tr [109, 110] σ0 σ26 ∧ (0 ≤ x6_26.toInt) := hI
          obtain ⟨hT, hI26⟩ := hI
          rw [F_X8_pick_113.eq_1]
          refine ok_gR (v := 110) hT rfl (hR 108 1 rfl) ?_
          refine ok_aL (n := 991) rfl ?_
          rw [show Int32.ofNat 991 = 991 from rfl]
          refine ok_if (fun hc29 => ?_) (fun hc29 => ?_)
          · exact ok_some ⟨hT, trivial⟩
          · refine ok_gR (v := 110) hT rfl (hR 108 1 rfl) ?_
            refine ok_aIn rfl (by first | omega | decide | (simp only [Int32.le_iff_toInt_le, Int32.lt_iff_toInt_lt, ti_add, ti_sub, ti_mul, Int32.reduceToInt] at *; omega)) (by first | omega | decide | (simp only [Int32.le_iff_toInt_le, Int32.lt_iff_toInt_lt, ti_add, ti_sub, ti_mul, Int32.reduceToInt] at *; omega)) (fun v31 ev31 => ?_)
            refine ok_if (fun hc32 => ?_) (fun hc32 => ?_)
            · refine ok_gR (v := 110) hT rfl (hR 108 1 rfl) ?_
              refine ok_aIn rfl (by first | omega | decide | (simp only [Int32.le_iff_toInt_le, Int32.lt_iff_toInt_lt, ti_add, ti_sub, ti_mul, Int32.reduceToInt] at *; omega)) (by first | omega | decide | (simp only [Int32.le_iff_toInt_le, Int32.lt_iff_toInt_lt, ti_add, ti_sub, ti_mul, Int32.reduceToInt] at *; omega)) (fun v34 ev34 => ?_)
              exact ih113_26 (x5_26 - v34, x6_26 + 1, σ26) (show Tr [109, 110] σ0 σ26 ∧ (0 ≤ (x6_26 + 1).toInt) from ⟨hT, (by first | omega | decide | (simp only [Int32.le_iff_toInt_le, Int32.lt_iff_toInt_lt, ti_add, ti_sub, ti_mul, Int32.reduceToInt] at *; omega))⟩) (show (991 - (x6_26 + 1).toInt).toNat < (991 - x6_26.toInt).toNat from (by first | omega | decide | (simp only [Int32.le_iff_toInt_le, Int32.lt_iff_toInt_lt, ti_add, ti_sub, ti_mul, Int32.reduceToInt] at *; omega)))
            · refine ok_gC rfl ?_
              refine ok_zbT (Q := fun V σ => True) hT (s_X8_pickOfLoad hN (hR.tr hT) h_x2) (fun _ h9 => absurd h9 List.not_mem_nil) (fun v35 σ36 hOσ36 hT hqv35 => ?_)
              exact ok_some ⟨hT, trivial⟩
        · refine ok_gR (v := 109) hT rfl (hR 108 0 rfl) ?_
          refine ok_aIn rfl (by first | omega | decide | (simp only [Int32.le_iff_toInt_le, Int32.lt_iff_toInt_lt, ti_add, ti_sub, ti_mul, Int32.reduceToInt] at *; omega)) (by first | omega | decide | (simp only [Int32.le_iff_toInt_le, Int32.lt_iff_toInt_lt, ti_add, ti_sub, ti_mul, Int32.reduceToInt] at *; omega)) (fun v38 ev38 => ?_)
          have q56 := ev38
          refine ok_if (fun hc39 => ?_) (fun hc39 => ?_)
          · refine ok_gC h_x2 ?_
            refine ok_zbT (Q := fun V σ => -1 ≤ V.toInt ∧ V.toInt ≤ 1023) hT (s_X2_firstFrom hN (hR.tr hT) h_x2) (fun _ h9 => absurd h9 List.not_mem_nil) (fun v40 σ41 hOσ41 hT hqv40 => ?_)
            have hqv40 : -1 ≤ v40.toInt ∧ v40.toInt ≤ 1023 := hqv40
            exact ih37_12 (v40, x5_12 + 1, σ41) (show Tr [109, 110] σ0 σ41 ∧ (0 ≤ (x5_12 + 1).toInt ∧ v40.toInt ≤ 1023) from ⟨hT, (by first | omega | decide | (simp only [Int32.le_iff_toInt_le, Int32.lt_iff_toInt_lt, ti_add, ti_sub, ti_mul, Int32.reduceToInt] at *; omega))⟩) (show (1024 - (x5_12 + 1).toInt).toNat < (1024 - x5_12.toInt).toNat from (by first | omega | decide | (simp only [Int32.le_iff_toInt_le, Int32.lt_iff_toInt_lt, ti_add, ti_sub, ti_mul, Int32.reduceToInt] at *; omega)))
          · refine ok_gR (v := 109) hT rfl (hR 108 0 rfl) ?_
            refine ok_aIn rfl (by first | omega | decide | (simp only [Int32.le_iff_toInt_le, Int32.lt_iff_toInt_lt, ti_add, ti_sub, ti_mul, Int32.reduceToInt] at *; omega)) (by first | omega | decide | (simp only [Int32.le_iff_toInt_le, Int32.lt_iff_toInt_lt, ti_add, ti_sub, ti_mul, Int32.reduceToInt] at *; omega)) (fun v43 ev43 => ?_)
            have q66 := congrArg Int32.toInt (ev43.trans q56.symm)
            have q67 := ev43
            refine ok_gR (v := 110) hT rfl (hR 108 1 rfl) ?_
            refine ok_aL (n := 991) rfl ?_
            rw [show Int32.ofNat 991 = 991 from rfl]
            refine ok_if (fun hc46 => ?_) (fun hc46 => ?_)
            · refine ok_gC h_x2 ?_
              refine ok_zbT (Q := fun V σ => -1 ≤ V.toInt ∧ V.toInt ≤ 1023) hT (s_X2_firstFrom hN (hR.tr hT) h_x2) (fun _ h9 => absurd h9 List.not_mem_nil) (fun v47 σ48 hOσ48 hT hqv47 => ?_)
              have hqv47 : -1 ≤ v47.toInt ∧ v47.toInt ≤ 1023 := hqv47
              exact ih37_12 (v47, x5_12 + 1, σ48) (show Tr [109, 110] σ0 σ48 ∧ (0 ≤ (x5_12 + 1).toInt ∧ v47.toInt ≤ 1023) from ⟨hT, (by first | omega | decide | (simp only [Int32.le_iff_toInt_le, Int32.lt_iff_toInt_lt, ti_add, ti_sub, ti_mul, Int32.reduceToInt] at *; omega))⟩) (show (1024 - (x5_12 + 1).toInt).toNat < (1024 - x5_12.toInt).toNat from (by first | omega | decide | (simp only [Int32.le_iff_toInt_le, Int32.lt_iff_toInt_lt, ti_add, ti_sub, ti_mul, Int32.reduceToInt] at *; omega)))
            · refine ok_gR (v := 110) hT rfl (hR 108 1 rfl) ?_
              refine ok_gR (v := 109) hT rfl (hR 108 0 rfl) ?_
              refine ok_aIn rfl (by first | omega | decide | (simp only [Int32.le_iff_toInt_le, Int32.lt_iff_toInt_lt, ti_add, ti_sub, ti_mul, Int32.reduceToInt] at *; omega)) (by first | omega | decide | (simp only [Int32.le_iff_toInt_le, Int32.lt_iff_toInt_lt, ti_add, ti_sub, ti_mul, Int32.reduceToInt] at *; omega)) (fun v51 ev51 => ?_)
              have q85 := congrArg Int32.toInt (ev51.trans q67.symm)
              refine ok_aIn rfl (by first | omega | decide | (simp only [Int32.le_iff_toInt_le, Int32.lt_iff_toInt_lt, ti_add, ti_sub, ti_mul, Int32.reduceToInt] at *; omega)) (by first | omega | decide | (simp only [Int32.le_iff_toInt_le, Int32.lt_iff_toInt_lt, ti_add, ti_sub, ti_mul, Int32.reduceToInt] at *; omega)) (fun v52 ev52 => ?_)
              refine ok_s14 hT rfl (by decide) (by first | omega | decide | (simp only [Int32.le_iff_toInt_le, Int32.lt_iff_toInt_lt, ti_add, ti_sub, ti_mul, Int32.reduceToInt] at *; omega)) (by first | omega | decide | (simp only [Int32.le_iff_toInt_le, Int32.lt_iff_toInt_lt, ti_add, ti_sub, ti_mul, Int32.reduceToInt] at *; omega)) (fun σ53 eσ53 hOσ53 hT => ?_)
              refine ok_gC h_x2 ?_
              refine ok_zbT (Q := fun V σ => -1 ≤ V.toInt ∧ V.toInt ≤ 1023) hT (s_X2_firstFrom hN (hR.tr hT) h_x2) (fun _ h9 => absurd h9 List.not_mem_nil) (fun v54 σ55 hOσ55 hT hqv54 => ?_)
              have hqv54 : -1 ≤ v54.toInt ∧ v54.toInt ≤ 1023 := hqv54
              exact ih37_12 (v54, x5_12 + 1, σ55) (show Tr [109, 110] σ0 σ55 ∧ (0 ≤ (x5_12 + 1).toInt ∧ v54.toInt ≤ 1023) from ⟨hT, (by first | omega | decide | (simp only [Int32.le_iff_toInt_le, Int32.lt_iff_toInt_lt, ti_add, ti_sub, ti_mul, Int32.reduceToInt] at *; omega))⟩) (show (1024 - (x5_12 + 1).toInt).toNat < (1024 - x5_12.toInt).toNat from (by first | omega | decide | (simp only [Int32.le_iff_toInt_le, Int32.lt_iff_toInt_lt, ti_add, ti_sub, ti_mul, Int32.reduceToInt] at *; omega)))
    · exact ok_some ⟨hT, trivial⟩

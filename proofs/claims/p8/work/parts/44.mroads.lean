theorem MW_one {S : List Nat} {σ0 σ : zS} {i : Int32} (hT : Tr S σ0 σ) (hS : 219 ∉ S) (h : MW (σ0.1 219) 0) (h0 : 0 ≤ i.toInt) (h1 : i.toInt < 10) : 0 ≤ (σ.1 219 (13 + i).toNatClampNeg).toInt ∧ (σ.1 219 (13 + i).toNatClampNeg).toInt ≤ 7 := by
  have e1 : (13 + i).toNatClampNeg = 0 + 13 + i.toInt.toNat := by
    show (13 + i).toInt.toNat = _
    rw [ti_add]; simp only [Int32.reduceToInt]; omega
  rw [hT.2 _ hS, e1]
  exact (h.2.2.1 _ (by omega)).1
theorem MW_other {S : List Nat} {σ0 σ : zS} {i : Int32} (hT : Tr S σ0 σ) (hS : 219 ∉ S) (h : MW (σ0.1 219) 0) (h0 : 0 ≤ i.toInt) (h1 : i.toInt < 10) : 0 ≤ (σ.1 219 (23 + i).toNatClampNeg).toInt ∧ (σ.1 219 (23 + i).toNatClampNeg).toInt ≤ 7 := by
  have e1 : (23 + i).toNatClampNeg = 0 + 23 + i.toInt.toNat := by
    show (23 + i).toInt.toNat = _
    rw [ti_add]; simp only [Int32.reduceToInt]; omega
  rw [hT.2 _ hS, e1]
  exact (h.2.2.1 _ (by omega)).2
theorem or8 {a b : Int32} (ha : 0 ≤ a.toInt ∧ a.toInt ≤ 255) (hb : 0 ≤ b.toInt ∧ b.toInt ≤ 255) : 0 ≤ (a ||| b).toInt ∧ (a ||| b).toInt ≤ 255 := by
  have := ti_or (a := a) (b := b) (n := 8) (by decide) ha.1 (by have e : ((2 ^ 8 : Nat) : Int) = 256 := rfl; omega) hb.1 (by have e : ((2 ^ 8 : Nat) : Int) = 256 := rfl; omega)
  have e : ((2 ^ 8 : Nat) : Int) = 256 := rfl
  omega
theorem bit_lt : ∀ n, n < 256 → n ≠ 0 → ∃ k, k < 8 ∧ ((nI n >>> (nI k &&& 31)) &&& 1) ≠ 0 := by decide +kernel
theorem bit_ex {x : Int32} (h0 : 0 ≤ x.toInt) (h1 : x.toInt ≤ 255) (h : ¬ x = 0) : ∃ k : Nat, k < 8 ∧ ((x >>> (nI k &&& 31)) &&& 1) ≠ 0 := by
  obtain ⟨n, hn, rfl⟩ := znI (m := 256) h0 (by omega)
  exact bit_lt n hn (fun q => h (by rw [q]; rfl))

set_option maxHeartbeats 4000000 in
set_option maxRecDepth 100000 in
theorem s_X12_one {N : Nat} (hN : 1048576 ≤ N) {x1 : Int32} {σ0 : zS}  (hR : RF σ0.2.2) (hM : MW (σ0.1 219) 0) (he1 : 0 ≤ x1.toInt ∧ x1.toInt ≤ 9) : Ok (f_X12_one N 218 x1 σ0) (fun r => Tr [] σ0 r.2 ∧ (0 ≤ r.1.toInt ∧ r.1.toInt ≤ 7)) := by
  have hT : Tr [] σ0 σ0 := Tr.rf
  have hn := hM.1
  have he : 0 ≤ (σ0.1 219 2).toInt ∧ (σ0.1 219 2).toInt ≤ 10 := hM.2.1
  have qm := mny_b hn.1 hn.2
  rw [f_X12_one.eq_1]
  refine ok_gR (v := 219) hT rfl (hR 218 1 rfl) ?_
  refine ok_aIn rfl (by first | omega | decide | (simp only [Int32.le_iff_toInt_le, Int32.lt_iff_toInt_lt, ti_add, ti_sub, ti_mul, Int32.reduceToInt] at *; omega)) (by first | omega | decide | (simp only [Int32.le_iff_toInt_le, Int32.lt_iff_toInt_lt, ti_add, ti_sub, ti_mul, Int32.reduceToInt] at *; omega)) (fun v2 ev2 => ?_)
  have q7 : 0 ≤ v2.toInt ∧ v2.toInt ≤ 7 := by rw [ev2]; exact MW_one (i := x1) hT (by decide) hM (by omega) (by omega)
  exact ok_some ⟨hT, (show 0 ≤ v2.toInt ∧ v2.toInt ≤ 7 from by first | omega | decide | (simp only [Int32.le_iff_toInt_le, Int32.lt_iff_toInt_lt, ti_add, ti_sub, ti_mul, Int32.reduceToInt] at *; omega))⟩

set_option maxHeartbeats 4000000 in
set_option maxRecDepth 100000 in
theorem s_X12_other {N : Nat} (hN : 1048576 ≤ N) {x1 : Int32} {σ0 : zS}  (hR : RF σ0.2.2) (hM : MW (σ0.1 219) 0) (he1 : 0 ≤ x1.toInt ∧ x1.toInt ≤ 9) : Ok (f_X12_other N 218 x1 σ0) (fun r => Tr [] σ0 r.2 ∧ (0 ≤ r.1.toInt ∧ r.1.toInt ≤ 7)) := by
  have hT : Tr [] σ0 σ0 := Tr.rf
  have hn := hM.1
  have he : 0 ≤ (σ0.1 219 2).toInt ∧ (σ0.1 219 2).toInt ≤ 10 := hM.2.1
  have qm := mny_b hn.1 hn.2
  rw [f_X12_other.eq_1]
  refine ok_gR (v := 219) hT rfl (hR 218 1 rfl) ?_
  refine ok_aIn rfl (by first | omega | decide | (simp only [Int32.le_iff_toInt_le, Int32.lt_iff_toInt_lt, ti_add, ti_sub, ti_mul, Int32.reduceToInt] at *; omega)) (by first | omega | decide | (simp only [Int32.le_iff_toInt_le, Int32.lt_iff_toInt_lt, ti_add, ti_sub, ti_mul, Int32.reduceToInt] at *; omega)) (fun v2 ev2 => ?_)
  have q7 : 0 ≤ v2.toInt ∧ v2.toInt ≤ 7 := by rw [ev2]; exact MW_other (i := x1) hT (by decide) hM (by omega) (by omega)
  exact ok_some ⟨hT, (show 0 ≤ v2.toInt ∧ v2.toInt ≤ 7 from by first | omega | decide | (simp only [Int32.le_iff_toInt_le, Int32.lt_iff_toInt_lt, ti_add, ti_sub, ti_mul, Int32.reduceToInt] at *; omega))⟩

set_option maxHeartbeats 4000000 in
set_option maxRecDepth 100000 in
theorem s_X12_fillEnds {N : Nat} (hN : 1048576 ≤ N) {x1 : Int32} {σ0 : zS}  (hR : RF σ0.2.2) (hM : MW (σ0.1 219) 0) : Ok (f_X12_fillEnds N 218 x1 σ0) (fun r => Tr [238] σ0 r.2 ∧ (True)) := by
  have hT : Tr [238] σ0 σ0 := Tr.rf
  have hn := hM.1
  have he : 0 ≤ (σ0.1 219 2).toInt ∧ (σ0.1 219 2).toInt ≤ 10 := hM.2.1
  have qm := mny_b hn.1 hn.2
  rw [f_X12_fillEnds.eq_1]
  refine ok_lp (fun t : Int32 × zS => Tr [238] σ0 (t.2) ∧ (0 ≤ (t.1).toInt)) (fun t : Int32 × zS => ((8 : Int32).toInt - (t.1).toInt).toNat) (fun again1 t hI ih2_1 => ?_) N _ (show Tr [238] σ0 σ0 ∧ (0 ≤ (0 : Int32).toInt) from ⟨hT, (by first | omega | decide | (simp only [Int32.le_iff_toInt_le, Int32.lt_iff_toInt_lt, ti_add, ti_sub, ti_mul, Int32.reduceToInt] at *; omega))⟩) (show ((8 : Int32).toInt - (0 : Int32).toInt).toNat < N from (by first | omega | decide | (simp only [Int32.le_iff_toInt_le, Int32.lt_iff_toInt_lt, ti_add, ti_sub, ti_mul, Int32.reduceToInt] at *; omega)))
  obtain ⟨x2_1, σ1⟩ := t
  have hI : Tr [238] σ0 σ1 ∧ (0 ≤ x2_1.toInt) := hI
  obtain ⟨hT, hI1⟩ := hI
  rw [F_X12_fillEnds_2.eq_1]
  refine ok_if (fun hc2 => ?_) (fun hc2 => ?_)
  · refine ok_lp (fun t : Int32 × zS => Tr [238] σ0 (t.2) ∧ (0 ≤ (t.1).toInt)) (fun t : Int32 × zS => (10 - (t.1).toInt).toNat) (fun again3 t hI ih23_3 => ?_) N _ (show Tr [238] σ0 σ1 ∧ (0 ≤ (0 : Int32).toInt) from ⟨hT, (by first | omega | decide | (simp only [Int32.le_iff_toInt_le, Int32.lt_iff_toInt_lt, ti_add, ti_sub, ti_mul, Int32.reduceToInt] at *; omega))⟩) (show (10 - (0 : Int32).toInt).toNat < N from (by first | omega | decide | (simp only [Int32.le_iff_toInt_le, Int32.lt_iff_toInt_lt, ti_add, ti_sub, ti_mul, Int32.reduceToInt] at *; omega)))
    obtain ⟨x2_3, σ3⟩ := t
    have hI : Tr [238] σ0 σ3 ∧ (0 ≤ x2_3.toInt) := hI
    obtain ⟨hT, hI3⟩ := hI
    rw [F_X12_fillEnds_23.eq_1]
    refine ok_gR (v := 219) hT rfl (hR 218 1 rfl) ?_
    refine ok_aIc (j := 2) hT rfl (by decide) rfl (by decide) (by decide) ?_
    refine ok_if (fun hc6 => ?_) (fun hc6 => ?_)
    · exact ok_some ⟨hT, trivial⟩
    · refine ok_gR (v := 238) hT rfl (hR 218 34 rfl) ?_
      refine ok_gC rfl ?_
      refine ok_zbT (Q := fun V σ => 0 ≤ V.toInt ∧ V.toInt ≤ 7) hT (s_X12_one hN (hR.tr hT) (by first | exact hM | (rw [hT.2 219 (by decide)]; exact hM)) (by first | omega | decide | (simp only [Int32.le_iff_toInt_le, Int32.lt_iff_toInt_lt, ti_add, ti_sub, ti_mul, Int32.reduceToInt] at *; omega))) (fun _ h9 => absurd h9 List.not_mem_nil) (fun v8 σ9 hOσ9 hT hqv8 => ?_)
      have hqv8 : 0 ≤ v8.toInt ∧ v8.toInt ≤ 7 := hqv8
      refine ok_aIn rfl (by first | omega | decide | (simp only [Int32.le_iff_toInt_le, Int32.lt_iff_toInt_lt, ti_add, ti_sub, ti_mul, Int32.reduceToInt] at *; omega)) (by first | omega | decide | (simp only [Int32.le_iff_toInt_le, Int32.lt_iff_toInt_lt, ti_add, ti_sub, ti_mul, Int32.reduceToInt] at *; omega)) (fun v10 ev10 => ?_)
      refine ok_s14 hT rfl (by decide) (by first | omega | decide | (simp only [Int32.le_iff_toInt_le, Int32.lt_iff_toInt_lt, ti_add, ti_sub, ti_mul, Int32.reduceToInt] at *; omega)) (by first | omega | decide | (simp only [Int32.le_iff_toInt_le, Int32.lt_iff_toInt_lt, ti_add, ti_sub, ti_mul, Int32.reduceToInt] at *; omega)) (fun σ11 eσ11 hOσ11 hT => ?_)
      refine ok_gR (v := 238) hT rfl (hR 218 34 rfl) ?_
      refine ok_gC rfl ?_
      refine ok_zbT (Q := fun V σ => 0 ≤ V.toInt ∧ V.toInt ≤ 7) hT (s_X12_other hN (hR.tr hT) (by first | exact hM | (rw [hT.2 219 (by decide)]; exact hM)) (by first | omega | decide | (simp only [Int32.le_iff_toInt_le, Int32.lt_iff_toInt_lt, ti_add, ti_sub, ti_mul, Int32.reduceToInt] at *; omega))) (fun _ h9 => absurd h9 List.not_mem_nil) (fun v13 σ14 hOσ14 hT hqv13 => ?_)
      have hqv13 : 0 ≤ v13.toInt ∧ v13.toInt ≤ 7 := hqv13
      refine ok_aIn rfl (by first | omega | decide | (simp only [Int32.le_iff_toInt_le, Int32.lt_iff_toInt_lt, ti_add, ti_sub, ti_mul, Int32.reduceToInt] at *; omega)) (by first | omega | decide | (simp only [Int32.le_iff_toInt_le, Int32.lt_iff_toInt_lt, ti_add, ti_sub, ti_mul, Int32.reduceToInt] at *; omega)) (fun v15 ev15 => ?_)
      refine ok_s14 hT rfl (by decide) (by first | omega | decide | (simp only [Int32.le_iff_toInt_le, Int32.lt_iff_toInt_lt, ti_add, ti_sub, ti_mul, Int32.reduceToInt] at *; omega)) (by first | omega | decide | (simp only [Int32.le_iff_toInt_le, Int32.lt_iff_toInt_lt, ti_add, ti_sub, ti_mul, Int32.reduceToInt] at *; omega)) (fun σ16 eσ16 hOσ16 hT => ?_)
      exact ih23_3 (x2_3 + 1, σ16) (show Tr [238] σ0 σ16 ∧ (0 ≤ (x2_3 + 1).toInt) from ⟨hT, (by first | omega | decide | (simp only [Int32.le_iff_toInt_le, Int32.lt_iff_toInt_lt, ti_add, ti_sub, ti_mul, Int32.reduceToInt] at *; omega))⟩) (show (10 - (x2_3 + 1).toInt).toNat < (10 - x2_3.toInt).toNat from (by first | omega | decide | (simp only [Int32.le_iff_toInt_le, Int32.lt_iff_toInt_lt, ti_add, ti_sub, ti_mul, Int32.reduceToInt] at *; omega)))
  · refine ok_gR (v := 238) hT rfl (hR 218 34 rfl) ?_
    refine ok_s14 hT rfl (by decide) (by first | omega | decide | (simp only [Int32.le_iff_toInt_le, Int32.lt_iff_toInt_lt, ti_add, ti_sub, ti_mul, Int32.reduceToInt] at *; omega)) (by first | omega | decide | (simp only [Int32.le_iff_toInt_le, Int32.lt_iff_toInt_lt, ti_add, ti_sub, ti_mul, Int32.reduceToInt] at *; omega)) (fun σ18 eσ18 hOσ18 hT => ?_)
    exact ih2_1 (x2_1 + 1, σ18) (show Tr [238] σ0 σ18 ∧ (0 ≤ (x2_1 + 1).toInt) from ⟨hT, (by first | omega | decide | (simp only [Int32.le_iff_toInt_le, Int32.lt_iff_toInt_lt, ti_add, ti_sub, ti_mul, Int32.reduceToInt] at *; omega))⟩) (show ((8 : Int32).toInt - (x2_1 + 1).toInt).toNat < ((8 : Int32).toInt - x2_1.toInt).toNat from (by first | omega | decide | (simp only [Int32.le_iff_toInt_le, Int32.lt_iff_toInt_lt, ti_add, ti_sub, ti_mul, Int32.reduceToInt] at *; omega)))

set_option maxHeartbeats 4000000 in
set_option maxRecDepth 100000 in
theorem s_X12_hangs {N : Nat} (hN : 1048576 ≤ N) {x1 : Int32} {x2 : Int32} {σ0 : zS}  (hR : RF σ0.2.2) (hM : MW (σ0.1 219) 0) : Ok (f_X12_hangs N 218 x1 x2 σ0) (fun r => Tr [] σ0 r.2 ∧ (True)) := by
  have hT : Tr [] σ0 σ0 := Tr.rf
  have hn := hM.1
  have he : 0 ≤ (σ0.1 219 2).toInt ∧ (σ0.1 219 2).toInt ≤ 10 := hM.2.1
  have qm := mny_b hn.1 hn.2
  rw [f_X12_hangs.eq_1]
  refine ok_lp (fun t : Int32 × Int32 × zS => Tr [] σ0 (t.2.2) ∧ (0 ≤ (t.2.1).toInt)) (fun t : Int32 × Int32 × zS => (8 - (t.2.1).toInt).toNat) (fun again1 t hI ih7_1 => ?_) N _ (show Tr [] σ0 σ0 ∧ (0 ≤ (0 : Int32).toInt) from ⟨hT, (by first | omega | decide | (simp only [Int32.le_iff_toInt_le, Int32.lt_iff_toInt_lt, ti_add, ti_sub, ti_mul, Int32.reduceToInt] at *; omega))⟩) (show (8 - (0 : Int32).toInt).toNat < N from (by first | omega | decide | (simp only [Int32.le_iff_toInt_le, Int32.lt_iff_toInt_lt, ti_add, ti_sub, ti_mul, Int32.reduceToInt] at *; omega)))
  obtain ⟨x3_1, x4_1, σ1⟩ := t
  have hI : Tr [] σ0 σ1 ∧ (0 ≤ x4_1.toInt) := hI
  obtain ⟨hT, hI1⟩ := hI
  rw [F_X12_hangs_7.eq_1]
  refine ok_if (fun hc2 => ?_) (fun hc2 => ?_)
  · exact ok_some ⟨hT, trivial⟩
  · refine ok_lp (fun t : Int32 × Int32 × zS => Tr [] σ0 (t.2.2) ∧ (0 ≤ (t.2.1).toInt)) (fun t : Int32 × Int32 × zS => (10 - (t.2.1).toInt).toNat) (fun again3 t hI ih17_3 => ?_) N _ (show Tr [] σ0 σ1 ∧ (0 ≤ (0 : Int32).toInt) from ⟨hT, (by first | omega | decide | (simp only [Int32.le_iff_toInt_le, Int32.lt_iff_toInt_lt, ti_add, ti_sub, ti_mul, Int32.reduceToInt] at *; omega))⟩) (show (10 - (0 : Int32).toInt).toNat < N from (by first | omega | decide | (simp only [Int32.le_iff_toInt_le, Int32.lt_iff_toInt_lt, ti_add, ti_sub, ti_mul, Int32.reduceToInt] at *; omega)))
    obtain ⟨x3_3, x5_3, σ3⟩ := t
    have hI : Tr [] σ0 σ3 ∧ (0 ≤ x5_3.toInt) := hI
    obtain ⟨hT, hI3⟩ := hI
    rw [F_X12_hangs_17.eq_1]
    refine ok_gR (v := 219) hT rfl (hR 218 1 rfl) ?_
    refine ok_aIc (j := 2) hT rfl (by decide) rfl (by decide) (by decide) ?_
    refine ok_if (fun hc6 => ?_) (fun hc6 => ?_)
    · exact ih7_1 (x3_3, x4_1 + 1, σ3) (show Tr [] σ0 σ3 ∧ (0 ≤ (x4_1 + 1).toInt) from ⟨hT, (by first | omega | decide | (simp only [Int32.le_iff_toInt_le, Int32.lt_iff_toInt_lt, ti_add, ti_sub, ti_mul, Int32.reduceToInt] at *; omega))⟩) (show (8 - (x4_1 + 1).toInt).toNat < (8 - x4_1.toInt).toNat from (by first | omega | decide | (simp only [Int32.le_iff_toInt_le, Int32.lt_iff_toInt_lt, ti_add, ti_sub, ti_mul, Int32.reduceToInt] at *; omega)))
    · refine ok_if (fun hc7 => ?_) (fun hc7 => ?_)
      · refine ok_gC rfl ?_
        refine ok_zbT (Q := fun V σ => 0 ≤ V.toInt ∧ V.toInt ≤ 7) hT (s_X12_one hN (hR.tr hT) (by first | exact hM | (rw [hT.2 219 (by decide)]; exact hM)) (by first | omega | decide | (simp only [Int32.le_iff_toInt_le, Int32.lt_iff_toInt_lt, ti_add, ti_sub, ti_mul, Int32.reduceToInt] at *; omega))) (fun _ h9 => absurd h9 List.not_mem_nil) (fun v8 σ9 hOσ9 hT hqv8 => ?_)
        have hqv8 : 0 ≤ v8.toInt ∧ v8.toInt ≤ 7 := hqv8
        refine ok_gC rfl ?_
        refine ok_zbT (Q := fun V σ => 0 ≤ V.toInt ∧ V.toInt ≤ 7) hT (s_X12_other hN (hR.tr hT) (by first | exact hM | (rw [hT.2 219 (by decide)]; exact hM)) (by first | omega | decide | (simp only [Int32.le_iff_toInt_le, Int32.lt_iff_toInt_lt, ti_add, ti_sub, ti_mul, Int32.reduceToInt] at *; omega))) (fun _ h9 => absurd h9 List.not_mem_nil) (fun v10 σ11 hOσ11 hT hqv10 => ?_)
        have hqv10 : 0 ≤ v10.toInt ∧ v10.toInt ≤ 7 := hqv10
        refine ok_if (fun hc12 => ?_) (fun hc12 => ?_)
        · refine ok_gC rfl ?_
          refine ok_zbT (Q := fun V σ => 0 ≤ V.toInt ∧ V.toInt ≤ 7) hT (s_X12_one hN (hR.tr hT) (by first | exact hM | (rw [hT.2 219 (by decide)]; exact hM)) (by first | omega | decide | (simp only [Int32.le_iff_toInt_le, Int32.lt_iff_toInt_lt, ti_add, ti_sub, ti_mul, Int32.reduceToInt] at *; omega))) (fun _ h9 => absurd h9 List.not_mem_nil) (fun v13 σ14 hOσ14 hT hqv13 => ?_)
          have hqv13 : 0 ≤ v13.toInt ∧ v13.toInt ≤ 7 := hqv13
          refine ok_gC rfl ?_
          refine ok_zbT (Q := fun V σ => 0 ≤ V.toInt ∧ V.toInt ≤ 7) hT (s_X12_other hN (hR.tr hT) (by first | exact hM | (rw [hT.2 219 (by decide)]; exact hM)) (by first | omega | decide | (simp only [Int32.le_iff_toInt_le, Int32.lt_iff_toInt_lt, ti_add, ti_sub, ti_mul, Int32.reduceToInt] at *; omega))) (fun _ h9 => absurd h9 List.not_mem_nil) (fun v15 σ16 hOσ16 hT hqv15 => ?_)
          have hqv15 : 0 ≤ v15.toInt ∧ v15.toInt ≤ 7 := hqv15
          exact ih17_3 (x3_3 ||| (((1 : Int32) <<< (v13 &&& 31)) ||| ((1 : Int32) <<< (v15 &&& 31))), x5_3 + 1, σ16) (show Tr [] σ0 σ16 ∧ (0 ≤ (x5_3 + 1).toInt) from ⟨hT, (by first | omega | decide | (simp only [Int32.le_iff_toInt_le, Int32.lt_iff_toInt_lt, ti_add, ti_sub, ti_mul, Int32.reduceToInt] at *; omega))⟩) (show (10 - (x5_3 + 1).toInt).toNat < (10 - x5_3.toInt).toNat from (by first | omega | decide | (simp only [Int32.le_iff_toInt_le, Int32.lt_iff_toInt_lt, ti_add, ti_sub, ti_mul, Int32.reduceToInt] at *; omega)))
        · exact ih17_3 (x3_3, x5_3 + 1, σ11) (show Tr [] σ0 σ11 ∧ (0 ≤ (x5_3 + 1).toInt) from ⟨hT, (by first | omega | decide | (simp only [Int32.le_iff_toInt_le, Int32.lt_iff_toInt_lt, ti_add, ti_sub, ti_mul, Int32.reduceToInt] at *; omega))⟩) (show (10 - (x5_3 + 1).toInt).toNat < (10 - x5_3.toInt).toNat from (by first | omega | decide | (simp only [Int32.le_iff_toInt_le, Int32.lt_iff_toInt_lt, ti_add, ti_sub, ti_mul, Int32.reduceToInt] at *; omega)))
      · exact ih17_3 (x3_3, x5_3 + 1, σ3) (show Tr [] σ0 σ3 ∧ (0 ≤ (x5_3 + 1).toInt) from ⟨hT, (by first | omega | decide | (simp only [Int32.le_iff_toInt_le, Int32.lt_iff_toInt_lt, ti_add, ti_sub, ti_mul, Int32.reduceToInt] at *; omega))⟩) (show (10 - (x5_3 + 1).toInt).toNat < (10 - x5_3.toInt).toNat from (by first | omega | decide | (simp only [Int32.le_iff_toInt_le, Int32.lt_iff_toInt_lt, ti_add, ti_sub, ti_mul, Int32.reduceToInt] at *; omega)))

set_option maxHeartbeats 4000000 in
set_option maxRecDepth 100000 in
theorem s_X12_isCrossing {N : Nat} (hN : 1048576 ≤ N) {x1 : Int32} {σ0 : zS}  (hR : RF σ0.2.2) (hM : MW (σ0.1 219) 0) : Ok (f_X12_isCrossing N 218 x1 σ0) (fun r => Tr [] σ0 r.2 ∧ ((r.1 = 0 ∨ r.1 = 1) ∧ (¬ r.1 = 0 → 0 ≤ x1.toInt ∧ x1.toInt ≤ 7))) := by
  have hT : Tr [] σ0 σ0 := Tr.rf
  have hn := hM.1
  have he : 0 ≤ (σ0.1 219 2).toInt ∧ (σ0.1 219 2).toInt ≤ 10 := hM.2.1
  have qm := mny_b hn.1 hn.2
  rw [f_X12_isCrossing.eq_1]
  refine ok_gC rfl ?_
  refine ok_zbT (Q := fun V σ => (V = 0 ∨ V = 1) ∧ (¬ V = 0 → 0 < (σ0.1 219 0).toInt) ∧ (V = 0 → (σ0.1 219 0).toInt ≤ 0)) hT (s_X12_isWorld hN (hR.tr hT) (by first | exact hM | (rw [hT.2 219 (by decide)]; exact hM))) (fun _ h9 => absurd h9 List.not_mem_nil) (fun v1 σ2 hOσ2 hT hqv1 => ?_)
  have hqv1 : (v1 = 0 ∨ v1 = 1) ∧ (¬ v1 = 0 → 0 < (σ0.1 219 0).toInt) ∧ (v1 = 0 → (σ0.1 219 0).toInt ≤ 0) := hqv1
  refine ok_if (fun hc3 => ?_) (fun hc3 => ?_)
  · have qhc3 := hqv1.2.2 hc3
    exact ok_rZ (Or.inl rfl) ⟨hT, (show ((0 : Int32) = 0 ∨ (0 : Int32) = 1) ∧ (¬ (0 : Int32) = 0 → 0 ≤ x1.toInt ∧ x1.toInt ≤ 7) from by first | exact ⟨Or.inl rfl, fun h9 => absurd rfl h9⟩ | exact ⟨Or.inr rfl, fun _ => by first | omega | (simp only [Int32.le_iff_toInt_le, Int32.lt_iff_toInt_lt, ti_add, ti_sub, ti_mul, Int32.reduceToInt] at *; omega)⟩ | exact ⟨hqv1.1, fun h9 => by have q9 := hqv1.2 h9; first | omega | (simp only [Int32.le_iff_toInt_le, Int32.lt_iff_toInt_lt, ti_add, ti_sub, ti_mul, Int32.reduceToInt] at *; omega)⟩)⟩
  · have qhc3 := hqv1.2.1 hc3
    refine ok_zbT (Q := fun V σ => (V = 0 ∨ V = 1) ∧ (¬ V = 0 → (0 : Int64).toInt ≤ (Int32.toInt64 x1).toInt ∧ (Int32.toInt64 x1).toInt ≤ (7 : Int64).toInt)) hT (s_X12_in hN (hR.tr hT) ) (fun _ h9 => absurd h9 List.not_mem_nil) (fun v4 σ5 hOσ5 hT hqv4 => ?_)
    have hqv4 : (v4 = 0 ∨ v4 = 1) ∧ (¬ v4 = 0 → (0 : Int64).toInt ≤ (Int32.toInt64 x1).toInt ∧ (Int32.toInt64 x1).toInt ≤ (7 : Int64).toInt) := hqv4
    simp only [i64_of, Int64.reduceToInt] at hqv4
    refine ok_if (fun hc6 => ?_) (fun hc6 => ?_)
    · exact ok_rZ (Or.inl rfl) ⟨hT, (show ((0 : Int32) = 0 ∨ (0 : Int32) = 1) ∧ (¬ (0 : Int32) = 0 → 0 ≤ x1.toInt ∧ x1.toInt ≤ 7) from by first | exact ⟨Or.inl rfl, fun h9 => absurd rfl h9⟩ | exact ⟨Or.inr rfl, fun _ => by first | omega | (simp only [Int32.le_iff_toInt_le, Int32.lt_iff_toInt_lt, ti_add, ti_sub, ti_mul, Int32.reduceToInt] at *; omega)⟩ | exact ⟨hqv4.1, fun h9 => by have q9 := hqv4.2 h9; first | omega | (simp only [Int32.le_iff_toInt_le, Int32.lt_iff_toInt_lt, ti_add, ti_sub, ti_mul, Int32.reduceToInt] at *; omega)⟩)⟩
    · have qhc6 := hqv4.2 hc6
      exact ok_rZ (Or.inr rfl) ⟨hT, (show ((1 : Int32) = 0 ∨ (1 : Int32) = 1) ∧ (¬ (1 : Int32) = 0 → 0 ≤ x1.toInt ∧ x1.toInt ≤ 7) from by first | exact ⟨Or.inl rfl, fun h9 => absurd rfl h9⟩ | exact ⟨Or.inr rfl, fun _ => by first | omega | (simp only [Int32.le_iff_toInt_le, Int32.lt_iff_toInt_lt, ti_add, ti_sub, ti_mul, Int32.reduceToInt] at *; omega)⟩ | exact ⟨hqv4.1, fun h9 => by have q9 := hqv4.2 h9; first | omega | (simp only [Int32.le_iff_toInt_le, Int32.lt_iff_toInt_lt, ti_add, ti_sub, ti_mul, Int32.reduceToInt] at *; omega)⟩)⟩

set_option maxHeartbeats 4000000 in
set_option maxRecDepth 100000 in
theorem s_X12_isWay {N : Nat} (hN : 1048576 ≤ N) {x1 : Int32} {x2 : Int32} {x3 : Int32} {σ0 : zS}  (hR : RF σ0.2.2) (hM : MW (σ0.1 219) 0) (h2 : 0 ≤ x2.toInt ∧ x2.toInt ≤ 7) (h3 : 0 ≤ x3.toInt ∧ x3.toInt ≤ 7) : Ok (f_X12_isWay N 218 x1 x2 x3 σ0) (fun r => Tr [238] σ0 r.2 ∧ (r.1 = 0 ∨ r.1 = 1)) := by
  have hT : Tr [238] σ0 σ0 := Tr.rf
  have hn := hM.1
  have he : 0 ≤ (σ0.1 219 2).toInt ∧ (σ0.1 219 2).toInt ≤ 10 := hM.2.1
  have qm := mny_b hn.1 hn.2
  rw [f_X12_isWay.eq_1]
  refine ok_if (fun hc1 => ?_) (fun hc1 => ?_)
  · refine ok_if (fun hc2 => ?_) (fun hc2 => ?_)
    · exact ok_rZ (Or.inr rfl) ⟨hT, (show (1 : Int32) = 0 ∨ (1 : Int32) = 1 from by first | exact Or.inl rfl | exact Or.inr rfl)⟩
    · exact ok_rZ (Or.inl rfl) ⟨hT, (show (0 : Int32) = 0 ∨ (0 : Int32) = 1 from by first | exact Or.inl rfl | exact Or.inr rfl)⟩
  · refine ok_gC rfl ?_
    refine ok_zbT (Q := fun V σ => True) hT (s_X12_fillEnds hN (hR.tr hT) (by first | exact hM | (rw [hT.2 219 (by decide)]; exact hM))) (by decide) (fun v3 σ4 hOσ4 hT hqv3 => ?_)
    refine ok_gR (v := 238) hT rfl (hR 218 34 rfl) ?_
    refine ok_aIn rfl (by first | omega | decide | (simp only [Int32.le_iff_toInt_le, Int32.lt_iff_toInt_lt, ti_add, ti_sub, ti_mul, Int32.reduceToInt] at *; omega)) (by first | omega | decide | (simp only [Int32.le_iff_toInt_le, Int32.lt_iff_toInt_lt, ti_add, ti_sub, ti_mul, Int32.reduceToInt] at *; omega)) (fun v6 ev6 => ?_)
    refine ok_if (fun hc7 => ?_) (fun hc7 => ?_)
    · refine ok_gR (v := 238) hT rfl (hR 218 34 rfl) ?_
      refine ok_aIn rfl (by first | omega | decide | (simp only [Int32.le_iff_toInt_le, Int32.lt_iff_toInt_lt, ti_add, ti_sub, ti_mul, Int32.reduceToInt] at *; omega)) (by first | omega | decide | (simp only [Int32.le_iff_toInt_le, Int32.lt_iff_toInt_lt, ti_add, ti_sub, ti_mul, Int32.reduceToInt] at *; omega)) (fun v9 ev9 => ?_)
      refine ok_if (fun hc10 => ?_) (fun hc10 => ?_)
      · refine ok_gC rfl ?_
        refine ok_zbT (Q := fun V σ => True) hT (s_X12_hangs hN (hR.tr hT) (by first | exact hM | (rw [hT.2 219 (by decide)]; exact hM))) (fun _ h9 => absurd h9 List.not_mem_nil) (fun v11 σ12 hOσ12 hT hqv11 => ?_)
        refine ok_lp (fun t : Int32 × zS => Tr [238] σ0 (t.2) ∧ (0 ≤ (t.1).toInt)) (fun t : Int32 × zS => ((8 : Int32).toInt - (t.1).toInt).toNat) (fun again13 t hI ih53_13 => ?_) N _ (show Tr [238] σ0 σ12 ∧ (0 ≤ (0 : Int32).toInt) from ⟨hT, (by first | omega | decide | (simp only [Int32.le_iff_toInt_le, Int32.lt_iff_toInt_lt, ti_add, ti_sub, ti_mul, Int32.reduceToInt] at *; omega))⟩) (show ((8 : Int32).toInt - (0 : Int32).toInt).toNat < N from (by first | omega | decide | (simp only [Int32.le_iff_toInt_le, Int32.lt_iff_toInt_lt, ti_add, ti_sub, ti_mul, Int32.reduceToInt] at *; omega)))
        obtain ⟨x5_13, σ13⟩ := t
        have hI : Tr [238] σ0 σ13 ∧ (0 ≤ x5_13.toInt) := hI
        obtain ⟨hT, hI13⟩ := hI
        rw [F_X12_isWay_53.eq_1]
        refine ok_if (fun hc14 => ?_) (fun hc14 => ?_)
        · exact ok_rZ (Or.inr rfl) ⟨hT, (show (1 : Int32) = 0 ∨ (1 : Int32) = 1 from by first | exact Or.inl rfl | exact Or.inr rfl)⟩
        · refine ok_if (fun hc15 => ?_) (fun hc15 => ?_)
          · refine ok_gR (v := 238) hT rfl (hR 218 34 rfl) ?_
            refine ok_aIn rfl (by first | omega | decide | (simp only [Int32.le_iff_toInt_le, Int32.lt_iff_toInt_lt, ti_add, ti_sub, ti_mul, Int32.reduceToInt] at *; omega)) (by first | omega | decide | (simp only [Int32.le_iff_toInt_le, Int32.lt_iff_toInt_lt, ti_add, ti_sub, ti_mul, Int32.reduceToInt] at *; omega)) (fun v17 ev17 => ?_)
            refine ok_if (fun hc18 => ?_) (fun hc18 => ?_)
            · exact ok_rZ (Or.inl rfl) ⟨hT, (show (0 : Int32) = 0 ∨ (0 : Int32) = 1 from by first | exact Or.inl rfl | exact Or.inr rfl)⟩
            · rw [J_X12_isWay_80.eq_1]
              refine ok_if (fun hc19 => ?_) (fun hc19 => ?_)
              · exact ih53_13 (x5_13 + 1, σ13) (show Tr [238] σ0 σ13 ∧ (0 ≤ (x5_13 + 1).toInt) from ⟨hT, (by first | omega | decide | (simp only [Int32.le_iff_toInt_le, Int32.lt_iff_toInt_lt, ti_add, ti_sub, ti_mul, Int32.reduceToInt] at *; omega))⟩) (show ((8 : Int32).toInt - (x5_13 + 1).toInt).toNat < ((8 : Int32).toInt - x5_13.toInt).toNat from (by first | omega | decide | (simp only [Int32.le_iff_toInt_le, Int32.lt_iff_toInt_lt, ti_add, ti_sub, ti_mul, Int32.reduceToInt] at *; omega)))
              · refine ok_if (fun hc20 => ?_) (fun hc20 => ?_)
                · exact ih53_13 (x5_13 + 1, σ13) (show Tr [238] σ0 σ13 ∧ (0 ≤ (x5_13 + 1).toInt) from ⟨hT, (by first | omega | decide | (simp only [Int32.le_iff_toInt_le, Int32.lt_iff_toInt_lt, ti_add, ti_sub, ti_mul, Int32.reduceToInt] at *; omega))⟩) (show ((8 : Int32).toInt - (x5_13 + 1).toInt).toNat < ((8 : Int32).toInt - x5_13.toInt).toNat from (by first | omega | decide | (simp only [Int32.le_iff_toInt_le, Int32.lt_iff_toInt_lt, ti_add, ti_sub, ti_mul, Int32.reduceToInt] at *; omega)))
                · refine ok_gR (v := 238) hT rfl (hR 218 34 rfl) ?_
                  refine ok_aIn rfl (by first | omega | decide | (simp only [Int32.le_iff_toInt_le, Int32.lt_iff_toInt_lt, ti_add, ti_sub, ti_mul, Int32.reduceToInt] at *; omega)) (by first | omega | decide | (simp only [Int32.le_iff_toInt_le, Int32.lt_iff_toInt_lt, ti_add, ti_sub, ti_mul, Int32.reduceToInt] at *; omega)) (fun v22 ev22 => ?_)
                  refine ok_if (fun hc23 => ?_) (fun hc23 => ?_)
                  · exact ih53_13 (x5_13 + 1, σ13) (show Tr [238] σ0 σ13 ∧ (0 ≤ (x5_13 + 1).toInt) from ⟨hT, (by first | omega | decide | (simp only [Int32.le_iff_toInt_le, Int32.lt_iff_toInt_lt, ti_add, ti_sub, ti_mul, Int32.reduceToInt] at *; omega))⟩) (show ((8 : Int32).toInt - (x5_13 + 1).toInt).toNat < ((8 : Int32).toInt - x5_13.toInt).toNat from (by first | omega | decide | (simp only [Int32.le_iff_toInt_le, Int32.lt_iff_toInt_lt, ti_add, ti_sub, ti_mul, Int32.reduceToInt] at *; omega)))
                  · refine ok_gR (v := 238) hT rfl (hR 218 34 rfl) ?_
                    refine ok_aIn rfl (by first | omega | decide | (simp only [Int32.le_iff_toInt_le, Int32.lt_iff_toInt_lt, ti_add, ti_sub, ti_mul, Int32.reduceToInt] at *; omega)) (by first | omega | decide | (simp only [Int32.le_iff_toInt_le, Int32.lt_iff_toInt_lt, ti_add, ti_sub, ti_mul, Int32.reduceToInt] at *; omega)) (fun v25 ev25 => ?_)
                    refine ok_if (fun hc26 => ?_) (fun hc26 => ?_)
                    · exact ih53_13 (x5_13 + 1, σ13) (show Tr [238] σ0 σ13 ∧ (0 ≤ (x5_13 + 1).toInt) from ⟨hT, (by first | omega | decide | (simp only [Int32.le_iff_toInt_le, Int32.lt_iff_toInt_lt, ti_add, ti_sub, ti_mul, Int32.reduceToInt] at *; omega))⟩) (show ((8 : Int32).toInt - (x5_13 + 1).toInt).toNat < ((8 : Int32).toInt - x5_13.toInt).toNat from (by first | omega | decide | (simp only [Int32.le_iff_toInt_le, Int32.lt_iff_toInt_lt, ti_add, ti_sub, ti_mul, Int32.reduceToInt] at *; omega)))
                    · exact ok_rZ (Or.inl rfl) ⟨hT, (show (0 : Int32) = 0 ∨ (0 : Int32) = 1 from by first | exact Or.inl rfl | exact Or.inr rfl)⟩
          · rw [J_X12_isWay_80.eq_1]
            refine ok_if (fun hc27 => ?_) (fun hc27 => ?_)
            · exact ih53_13 (x5_13 + 1, σ13) (show Tr [238] σ0 σ13 ∧ (0 ≤ (x5_13 + 1).toInt) from ⟨hT, (by first | omega | decide | (simp only [Int32.le_iff_toInt_le, Int32.lt_iff_toInt_lt, ti_add, ti_sub, ti_mul, Int32.reduceToInt] at *; omega))⟩) (show ((8 : Int32).toInt - (x5_13 + 1).toInt).toNat < ((8 : Int32).toInt - x5_13.toInt).toNat from (by first | omega | decide | (simp only [Int32.le_iff_toInt_le, Int32.lt_iff_toInt_lt, ti_add, ti_sub, ti_mul, Int32.reduceToInt] at *; omega)))
            · refine ok_if (fun hc28 => ?_) (fun hc28 => ?_)
              · exact ih53_13 (x5_13 + 1, σ13) (show Tr [238] σ0 σ13 ∧ (0 ≤ (x5_13 + 1).toInt) from ⟨hT, (by first | omega | decide | (simp only [Int32.le_iff_toInt_le, Int32.lt_iff_toInt_lt, ti_add, ti_sub, ti_mul, Int32.reduceToInt] at *; omega))⟩) (show ((8 : Int32).toInt - (x5_13 + 1).toInt).toNat < ((8 : Int32).toInt - x5_13.toInt).toNat from (by first | omega | decide | (simp only [Int32.le_iff_toInt_le, Int32.lt_iff_toInt_lt, ti_add, ti_sub, ti_mul, Int32.reduceToInt] at *; omega)))
              · refine ok_gR (v := 238) hT rfl (hR 218 34 rfl) ?_
                refine ok_aIn rfl (by first | omega | decide | (simp only [Int32.le_iff_toInt_le, Int32.lt_iff_toInt_lt, ti_add, ti_sub, ti_mul, Int32.reduceToInt] at *; omega)) (by first | omega | decide | (simp only [Int32.le_iff_toInt_le, Int32.lt_iff_toInt_lt, ti_add, ti_sub, ti_mul, Int32.reduceToInt] at *; omega)) (fun v30 ev30 => ?_)
                refine ok_if (fun hc31 => ?_) (fun hc31 => ?_)
                · exact ih53_13 (x5_13 + 1, σ13) (show Tr [238] σ0 σ13 ∧ (0 ≤ (x5_13 + 1).toInt) from ⟨hT, (by first | omega | decide | (simp only [Int32.le_iff_toInt_le, Int32.lt_iff_toInt_lt, ti_add, ti_sub, ti_mul, Int32.reduceToInt] at *; omega))⟩) (show ((8 : Int32).toInt - (x5_13 + 1).toInt).toNat < ((8 : Int32).toInt - x5_13.toInt).toNat from (by first | omega | decide | (simp only [Int32.le_iff_toInt_le, Int32.lt_iff_toInt_lt, ti_add, ti_sub, ti_mul, Int32.reduceToInt] at *; omega)))
                · refine ok_gR (v := 238) hT rfl (hR 218 34 rfl) ?_
                  refine ok_aIn rfl (by first | omega | decide | (simp only [Int32.le_iff_toInt_le, Int32.lt_iff_toInt_lt, ti_add, ti_sub, ti_mul, Int32.reduceToInt] at *; omega)) (by first | omega | decide | (simp only [Int32.le_iff_toInt_le, Int32.lt_iff_toInt_lt, ti_add, ti_sub, ti_mul, Int32.reduceToInt] at *; omega)) (fun v33 ev33 => ?_)
                  refine ok_if (fun hc34 => ?_) (fun hc34 => ?_)
                  · exact ih53_13 (x5_13 + 1, σ13) (show Tr [238] σ0 σ13 ∧ (0 ≤ (x5_13 + 1).toInt) from ⟨hT, (by first | omega | decide | (simp only [Int32.le_iff_toInt_le, Int32.lt_iff_toInt_lt, ti_add, ti_sub, ti_mul, Int32.reduceToInt] at *; omega))⟩) (show ((8 : Int32).toInt - (x5_13 + 1).toInt).toNat < ((8 : Int32).toInt - x5_13.toInt).toNat from (by first | omega | decide | (simp only [Int32.le_iff_toInt_le, Int32.lt_iff_toInt_lt, ti_add, ti_sub, ti_mul, Int32.reduceToInt] at *; omega)))
                  · exact ok_rZ (Or.inl rfl) ⟨hT, (show (0 : Int32) = 0 ∨ (0 : Int32) = 1 from by first | exact Or.inl rfl | exact Or.inr rfl)⟩
      · exact ok_rZ (Or.inl rfl) ⟨hT, (show (0 : Int32) = 0 ∨ (0 : Int32) = 1 from by first | exact Or.inl rfl | exact Or.inr rfl)⟩
    · exact ok_rZ (Or.inl rfl) ⟨hT, (show (0 : Int32) = 0 ∨ (0 : Int32) = 1 from by first | exact Or.inl rfl | exact Or.inr rfl)⟩

set_option maxHeartbeats 4000000 in
set_option maxRecDepth 100000 in
theorem s_X12_fillWays {N : Nat} (hN : 1048576 ≤ N) {x1 : Int32} {x2 : Int32} {σ0 : zS}  (hR : RF σ0.2.2) (hM : MW (σ0.1 219) 0) (hB : ZB σ0.1) (h1 : 0 ≤ x1.toInt ∧ x1.toInt ≤ 7) (h2 : 0 ≤ x2.toInt ∧ x2.toInt ≤ 7) : Ok (f_X12_fillWays N 218 x1 x2 σ0) (fun r => Tr [227, 238] σ0 r.2 ∧ (ZB r.2.1)) := by
  have hT : Tr [227, 238] σ0 σ0 := Tr.rf
  have hn := hM.1
  have he : 0 ≤ (σ0.1 219 2).toInt ∧ (σ0.1 219 2).toInt ≤ 10 := hM.2.1
  have qm := mny_b hn.1 hn.2
  rw [f_X12_fillWays.eq_1]
  refine ok_lp (fun t : Int32 × zS => Tr [227, 238] σ0 (t.2) ∧ (0 ≤ (t.1).toInt) ∧ (ZB (t.2).1)) (fun t : Int32 × zS => ((1024 : Int32).toInt - (t.1).toInt).toNat) (fun again1 t hI ih2_1 => ?_) N _ (show Tr [227, 238] σ0 σ0 ∧ (0 ≤ (0 : Int32).toInt) ∧ (ZB σ0.1) from ⟨hT, (by first | omega | decide | (simp only [Int32.le_iff_toInt_le, Int32.lt_iff_toInt_lt, ti_add, ti_sub, ti_mul, Int32.reduceToInt] at *; omega)), hB⟩) (show ((1024 : Int32).toInt - (0 : Int32).toInt).toNat < N from (by first | omega | decide | (simp only [Int32.le_iff_toInt_le, Int32.lt_iff_toInt_lt, ti_add, ti_sub, ti_mul, Int32.reduceToInt] at *; omega)))
  obtain ⟨x3_1, σ1⟩ := t
  have hI : Tr [227, 238] σ0 σ1 ∧ (0 ≤ x3_1.toInt) ∧ (ZB σ1.1) := hI
  obtain ⟨hT, hI1, hB⟩ := hI
  rw [F_X12_fillWays_2.eq_1]
  refine ok_if (fun hc2 => ?_) (fun hc2 => ?_)
  · exact ok_some ⟨hT, (show ZB σ1.1 from by exact hB)⟩
  · refine ok_gR (v := 227) hT rfl (hR 218 17 rfl) ?_
    refine ok_gR (v := 219) hT rfl (hR 218 1 rfl) ?_
    refine ok_aIc (j := 2) hT rfl (by decide) rfl (by decide) (by decide) ?_
    refine ok_if (fun hc6 => ?_) (fun hc6 => ?_)
    · refine ok_s16 hT rfl (by decide) (by first | omega | decide | (simp only [Int32.le_iff_toInt_le, Int32.lt_iff_toInt_lt, ti_add, ti_sub, ti_mul, Int32.reduceToInt] at *; omega)) (by first | omega | decide | (simp only [Int32.le_iff_toInt_le, Int32.lt_iff_toInt_lt, ti_add, ti_sub, ti_mul, Int32.reduceToInt] at *; omega)) (fun σ7 eσ7 hOσ7 hT => ?_)
      have hB : ZB σ7.1 := by first | exact HQ | exact ZB_s eσ7 hB
      exact ih2_1 (x3_1 + 1, σ7) (show Tr [227, 238] σ0 σ7 ∧ (0 ≤ (x3_1 + 1).toInt) ∧ (ZB σ7.1) from ⟨hT, (by first | omega | decide | (simp only [Int32.le_iff_toInt_le, Int32.lt_iff_toInt_lt, ti_add, ti_sub, ti_mul, Int32.reduceToInt] at *; omega)), hB⟩) (show ((1024 : Int32).toInt - (x3_1 + 1).toInt).toNat < ((1024 : Int32).toInt - x3_1.toInt).toNat from (by first | omega | decide | (simp only [Int32.le_iff_toInt_le, Int32.lt_iff_toInt_lt, ti_add, ti_sub, ti_mul, Int32.reduceToInt] at *; omega)))
    · refine ok_gC rfl ?_
      refine ok_zbT (Q := fun V σ => V = 0 ∨ V = 1) hT (s_X12_isWay hN (hR.tr hT) (by first | exact hM | (rw [hT.2 219 (by decide)]; exact hM)) (by first | omega | decide | (simp only [Int32.le_iff_toInt_le, Int32.lt_iff_toInt_lt, ti_add, ti_sub, ti_mul, Int32.reduceToInt] at *; omega)) (by first | omega | decide | (simp only [Int32.le_iff_toInt_le, Int32.lt_iff_toInt_lt, ti_add, ti_sub, ti_mul, Int32.reduceToInt] at *; omega))) (by decide) (fun v8 σ9 hOσ9 hT hqv8 => ?_)
      have hqv8 : v8 = 0 ∨ v8 = 1 := hqv8
      have hB : ZB σ9.1 := ZB.tr hOσ9 (by decide) hB
      refine ok_if (fun hc10 => ?_) (fun hc10 => ?_)
      · refine ok_s16 hT rfl (by decide) (by first | omega | decide | (simp only [Int32.le_iff_toInt_le, Int32.lt_iff_toInt_lt, ti_add, ti_sub, ti_mul, Int32.reduceToInt] at *; omega)) (by first | omega | decide | (simp only [Int32.le_iff_toInt_le, Int32.lt_iff_toInt_lt, ti_add, ti_sub, ti_mul, Int32.reduceToInt] at *; omega)) (fun σ11 eσ11 hOσ11 hT => ?_)
        have hB : ZB σ11.1 := by first | exact HQ | exact ZB_s eσ11 hB
        exact ih2_1 (x3_1 + 1, σ11) (show Tr [227, 238] σ0 σ11 ∧ (0 ≤ (x3_1 + 1).toInt) ∧ (ZB σ11.1) from ⟨hT, (by first | omega | decide | (simp only [Int32.le_iff_toInt_le, Int32.lt_iff_toInt_lt, ti_add, ti_sub, ti_mul, Int32.reduceToInt] at *; omega)), hB⟩) (show ((1024 : Int32).toInt - (x3_1 + 1).toInt).toNat < ((1024 : Int32).toInt - x3_1.toInt).toNat from (by first | omega | decide | (simp only [Int32.le_iff_toInt_le, Int32.lt_iff_toInt_lt, ti_add, ti_sub, ti_mul, Int32.reduceToInt] at *; omega)))
      · refine ok_s16 hT rfl (by decide) (by first | omega | decide | (simp only [Int32.le_iff_toInt_le, Int32.lt_iff_toInt_lt, ti_add, ti_sub, ti_mul, Int32.reduceToInt] at *; omega)) (by first | omega | decide | (simp only [Int32.le_iff_toInt_le, Int32.lt_iff_toInt_lt, ti_add, ti_sub, ti_mul, Int32.reduceToInt] at *; omega)) (fun σ12 eσ12 hOσ12 hT => ?_)
        have hB : ZB σ12.1 := by first | exact HQ | exact ZB_s eσ12 hB
        exact ih2_1 (x3_1 + 1, σ12) (show Tr [227, 238] σ0 σ12 ∧ (0 ≤ (x3_1 + 1).toInt) ∧ (ZB σ12.1) from ⟨hT, (by first | omega | decide | (simp only [Int32.le_iff_toInt_le, Int32.lt_iff_toInt_lt, ti_add, ti_sub, ti_mul, Int32.reduceToInt] at *; omega)), hB⟩) (show ((1024 : Int32).toInt - (x3_1 + 1).toInt).toNat < ((1024 : Int32).toInt - x3_1.toInt).toNat from (by first | omega | decide | (simp only [Int32.le_iff_toInt_le, Int32.lt_iff_toInt_lt, ti_add, ti_sub, ti_mul, Int32.reduceToInt] at *; omega)))

set_option maxHeartbeats 4000000 in
set_option maxRecDepth 100000 in
theorem s_X12_ways {N : Nat} (hN : 1048576 ≤ N) {x1 : Int32} {x2 : Int32} {x3 : Int32} {σ0 : zS}  (hR : RF σ0.2.2) (hM : MW (σ0.1 219) 0) (hB : ZB σ0.1) : Ok (f_X12_ways N 218 x1 x2 x3 σ0) (fun r => Tr [220, 227, 238] σ0 r.2 ∧ (ZB r.2.1)) := by
  have hT : Tr [220, 227, 238] σ0 σ0 := Tr.rf
  have hn := hM.1
  have he : 0 ≤ (σ0.1 219 2).toInt ∧ (σ0.1 219 2).toInt ≤ 10 := hM.2.1
  have qm := mny_b hn.1 hn.2
  rw [f_X12_ways.eq_1]
  refine ok_gC rfl ?_
  refine ok_zbT (Q := fun V σ => (V = 0 ∨ V = 1) ∧ (¬ V = 0 → 0 ≤ x1.toInt ∧ x1.toInt ≤ 9)) hT (s_X12_isRegister hN (hR.tr hT) (by first | exact hM | (rw [hT.2 219 (by decide)]; exact hM))) (fun _ h9 => absurd h9 List.not_mem_nil) (fun v1 σ2 hOσ2 hT hqv1 => ?_)
  have hqv1 : (v1 = 0 ∨ v1 = 1) ∧ (¬ v1 = 0 → 0 ≤ x1.toInt ∧ x1.toInt ≤ 9) := hqv1
  have hB : ZB σ2.1 := ZB.tr hOσ2 (by decide) hB
  refine ok_if (fun hc3 => ?_) (fun hc3 => ?_)
  · exact ok_some ⟨hT, (show ZB σ2.1 from by exact hB)⟩
  · have qhc3 := hqv1.2 hc3
    refine ok_gC rfl ?_
    refine ok_zbT (Q := fun V σ => (V = 0 ∨ V = 1) ∧ (¬ V = 0 → 0 ≤ x2.toInt ∧ x2.toInt ≤ 7)) hT (s_X12_isCrossing hN (hR.tr hT) (by first | exact hM | (rw [hT.2 219 (by decide)]; exact hM))) (fun _ h9 => absurd h9 List.not_mem_nil) (fun v4 σ5 hOσ5 hT hqv4 => ?_)
    have hqv4 : (v4 = 0 ∨ v4 = 1) ∧ (¬ v4 = 0 → 0 ≤ x2.toInt ∧ x2.toInt ≤ 7) := hqv4
    have hB : ZB σ5.1 := ZB.tr hOσ5 (by decide) hB
    refine ok_if (fun hc6 => ?_) (fun hc6 => ?_)
    · exact ok_some ⟨hT, (show ZB σ5.1 from by exact hB)⟩
    · have qhc6 := hqv4.2 hc6
      refine ok_gC rfl ?_
      refine ok_zbT (Q := fun V σ => (V = 0 ∨ V = 1) ∧ (¬ V = 0 → 0 ≤ x3.toInt ∧ x3.toInt ≤ 7)) hT (s_X12_isCrossing hN (hR.tr hT) (by first | exact hM | (rw [hT.2 219 (by decide)]; exact hM))) (fun _ h9 => absurd h9 List.not_mem_nil) (fun v7 σ8 hOσ8 hT hqv7 => ?_)
      have hqv7 : (v7 = 0 ∨ v7 = 1) ∧ (¬ v7 = 0 → 0 ≤ x3.toInt ∧ x3.toInt ≤ 7) := hqv7
      have hB : ZB σ8.1 := ZB.tr hOσ8 (by decide) hB
      refine ok_if (fun hc9 => ?_) (fun hc9 => ?_)
      · exact ok_some ⟨hT, (show ZB σ8.1 from by exact hB)⟩
      · have qhc9 := hqv7.2 hc9
        refine ok_gC rfl ?_
        refine ok_zbT (Q := fun V σ => ZB σ.1) hT (s_X12_fillWays hN (hR.tr hT) (by first | exact hM | (rw [hT.2 219 (by decide)]; exact hM)) (hB) (by first | omega | decide | (simp only [Int32.le_iff_toInt_le, Int32.lt_iff_toInt_lt, ti_add, ti_sub, ti_mul, Int32.reduceToInt] at *; omega)) (by first | omega | decide | (simp only [Int32.le_iff_toInt_le, Int32.lt_iff_toInt_lt, ti_add, ti_sub, ti_mul, Int32.reduceToInt] at *; omega))) (by decide) (fun v10 σ11 hOσ11 hT hqv10 => ?_)
        have hqv10 : ZB σ11.1 := hqv10
        have hB : ZB σ11.1 := by first | exact hqv10 | exact ZB_s eσ11 hB
        refine ok_gC rfl ?_
        refine ok_zbT (Q := fun V σ => ZB σ.1) hT (s_X12_lays hN (hR.tr hT) (by first | exact hM | (rw [hT.2 219 (by decide)]; exact hM)) (hB) (by first | omega | decide | (simp only [Int32.le_iff_toInt_le, Int32.lt_iff_toInt_lt, ti_add, ti_sub, ti_mul, Int32.reduceToInt] at *; omega))) (by decide) (fun v12 σ13 hOσ13 hT hqv12 => ?_)
        have hqv12 : ZB σ13.1 := hqv12
        have hB : ZB σ13.1 := by first | exact hqv12 | exact ZB_s eσ13 hB
        exact ok_some ⟨hT, (show ZB σ13.1 from by exact hB)⟩

set_option maxHeartbeats 4000000 in
set_option maxRecDepth 100000 in
theorem s_X12_isPairs {N : Nat} (hN : 1048576 ≤ N) {x1 : Int32} {σ0 : zS}  (hR : RF σ0.2.2) (hM : MW (σ0.1 219) 0) : Ok (f_X12_isPairs N 218 x1 σ0) (fun r => Tr [238] σ0 r.2 ∧ (r.1 = 0 ∨ r.1 = 1)) := by
  have hT : Tr [238] σ0 σ0 := Tr.rf
  have hn := hM.1
  have he : 0 ≤ (σ0.1 219 2).toInt ∧ (σ0.1 219 2).toInt ≤ 10 := hM.2.1
  have qm := mny_b hn.1 hn.2
  rw [f_X12_isPairs.eq_1]
  refine ok_gC rfl ?_
  refine ok_zbT (Q := fun V σ => True) hT (s_X12_fillEnds hN (hR.tr hT) (by first | exact hM | (rw [hT.2 219 (by decide)]; exact hM))) (by decide) (fun v1 σ2 hOσ2 hT hqv1 => ?_)
  refine ok_lp (fun t : Int32 × Int32 × zS => Tr [238] σ0 (t.2.2) ∧ (0 ≤ (t.2.1).toInt ∧ ((t.1) = 0 ∨ (t.1) = 1))) (fun t : Int32 × Int32 × zS => (8 - (t.2.1).toInt).toNat) (fun again3 t hI ih9_3 => ?_) N _ (show Tr [238] σ0 σ2 ∧ (0 ≤ (0 : Int32).toInt ∧ ((1 : Int32) = 0 ∨ (1 : Int32) = 1)) from ⟨hT, (by exact ⟨by decide, Or.inr rfl⟩)⟩) (show (8 - (0 : Int32).toInt).toNat < N from (by first | omega | decide | (simp only [Int32.le_iff_toInt_le, Int32.lt_iff_toInt_lt, ti_add, ti_sub, ti_mul, Int32.reduceToInt] at *; omega)))
  obtain ⟨x2_3, x3_3, σ3⟩ := t
  have hI : Tr [238] σ0 σ3 ∧ (0 ≤ x3_3.toInt ∧ (x2_3 = 0 ∨ x2_3 = 1)) := hI
  obtain ⟨hT, hI3⟩ := hI
  rw [F_X12_isPairs_9.eq_1]
  have hz2 := hI3.2
  refine ok_if (fun hc4 => ?_) (fun hc4 => ?_)
  · exact ok_rZ (by assumption) ⟨hT, (show x2_3 = 0 ∨ x2_3 = 1 from by assumption)⟩
  · refine ok_if (fun hc5 => ?_) (fun hc5 => ?_)
    · exact ih9_3 (0, x3_3 + 1, σ3) (show Tr [238] σ0 σ3 ∧ (0 ≤ (x3_3 + 1).toInt ∧ ((0 : Int32) = 0 ∨ (0 : Int32) = 1)) from ⟨hT, (by refine ⟨by first | omega | (simp only [Int32.le_iff_toInt_le, Int32.lt_iff_toInt_lt, ti_add, ti_sub, ti_mul, Int32.reduceToInt] at *; omega), ?_⟩; first | exact Or.inl rfl | exact Or.inr rfl)⟩) (show (8 - (x3_3 + 1).toInt).toNat < (8 - x3_3.toInt).toNat from (by first | omega | decide | (simp only [Int32.le_iff_toInt_le, Int32.lt_iff_toInt_lt, ti_add, ti_sub, ti_mul, Int32.reduceToInt] at *; omega)))
    · refine ok_gR (v := 238) hT rfl (hR 218 34 rfl) ?_
      refine ok_aIn rfl (by first | omega | decide | (simp only [Int32.le_iff_toInt_le, Int32.lt_iff_toInt_lt, ti_add, ti_sub, ti_mul, Int32.reduceToInt] at *; omega)) (by first | omega | decide | (simp only [Int32.le_iff_toInt_le, Int32.lt_iff_toInt_lt, ti_add, ti_sub, ti_mul, Int32.reduceToInt] at *; omega)) (fun v7 ev7 => ?_)
      refine ok_if (fun hc8 => ?_) (fun hc8 => ?_)
      · exact ih9_3 (0, x3_3 + 1, σ3) (show Tr [238] σ0 σ3 ∧ (0 ≤ (x3_3 + 1).toInt ∧ ((0 : Int32) = 0 ∨ (0 : Int32) = 1)) from ⟨hT, (by refine ⟨by first | omega | (simp only [Int32.le_iff_toInt_le, Int32.lt_iff_toInt_lt, ti_add, ti_sub, ti_mul, Int32.reduceToInt] at *; omega), ?_⟩; first | exact Or.inl rfl | exact Or.inr rfl)⟩) (show (8 - (x3_3 + 1).toInt).toNat < (8 - x3_3.toInt).toNat from (by first | omega | decide | (simp only [Int32.le_iff_toInt_le, Int32.lt_iff_toInt_lt, ti_add, ti_sub, ti_mul, Int32.reduceToInt] at *; omega)))
      · exact ih9_3 (1, x3_3 + 1, σ3) (show Tr [238] σ0 σ3 ∧ (0 ≤ (x3_3 + 1).toInt ∧ ((1 : Int32) = 0 ∨ (1 : Int32) = 1)) from ⟨hT, (by refine ⟨by first | omega | (simp only [Int32.le_iff_toInt_le, Int32.lt_iff_toInt_lt, ti_add, ti_sub, ti_mul, Int32.reduceToInt] at *; omega), ?_⟩; first | exact Or.inl rfl | exact Or.inr rfl)⟩) (show (8 - (x3_3 + 1).toInt).toNat < (8 - x3_3.toInt).toNat from (by first | omega | decide | (simp only [Int32.le_iff_toInt_le, Int32.lt_iff_toInt_lt, ti_add, ti_sub, ti_mul, Int32.reduceToInt] at *; omega)))

set_option maxHeartbeats 4000000 in
set_option maxRecDepth 100000 in
theorem s_X12_isCover {N : Nat} (hN : 1048576 ≤ N) {x1 : Int32} {x2 : Int32} {σ0 : zS}  (hR : RF σ0.2.2) (hM : MW (σ0.1 219) 0) : Ok (f_X12_isCover N 218 x1 x2 σ0) (fun r => Tr [238] σ0 r.2 ∧ (r.1 = 0 ∨ r.1 = 1)) := by
  have hT : Tr [238] σ0 σ0 := Tr.rf
  have hn := hM.1
  have he : 0 ≤ (σ0.1 219 2).toInt ∧ (σ0.1 219 2).toInt ≤ 10 := hM.2.1
  have qm := mny_b hn.1 hn.2
  rw [f_X12_isCover.eq_1]
  refine ok_gC rfl ?_
  refine ok_zbT (Q := fun V σ => True) hT (s_X12_fillEnds hN (hR.tr hT) (by first | exact hM | (rw [hT.2 219 (by decide)]; exact hM))) (by decide) (fun v1 σ2 hOσ2 hT hqv1 => ?_)
  refine ok_lp (fun t : Int32 × Int32 × zS => Tr [238] σ0 (t.2.2) ∧ (0 ≤ (t.2.1).toInt ∧ ((t.1) = 0 ∨ (t.1) = 1))) (fun t : Int32 × Int32 × zS => (8 - (t.2.1).toInt).toNat) (fun again3 t hI ih10_3 => ?_) N _ (show Tr [238] σ0 σ2 ∧ (0 ≤ (0 : Int32).toInt ∧ ((1 : Int32) = 0 ∨ (1 : Int32) = 1)) from ⟨hT, (by exact ⟨by decide, Or.inr rfl⟩)⟩) (show (8 - (0 : Int32).toInt).toNat < N from (by first | omega | decide | (simp only [Int32.le_iff_toInt_le, Int32.lt_iff_toInt_lt, ti_add, ti_sub, ti_mul, Int32.reduceToInt] at *; omega)))
  obtain ⟨x3_3, x4_3, σ3⟩ := t
  have hI : Tr [238] σ0 σ3 ∧ (0 ≤ x4_3.toInt ∧ (x3_3 = 0 ∨ x3_3 = 1)) := hI
  obtain ⟨hT, hI3⟩ := hI
  rw [F_X12_isCover_10.eq_1]
  have hz2 := hI3.2
  refine ok_if (fun hc4 => ?_) (fun hc4 => ?_)
  · exact ok_rZ (by assumption) ⟨hT, (show x3_3 = 0 ∨ x3_3 = 1 from by assumption)⟩
  · refine ok_if (fun hc5 => ?_) (fun hc5 => ?_)
    · exact ih10_3 (0, x4_3 + 1, σ3) (show Tr [238] σ0 σ3 ∧ (0 ≤ (x4_3 + 1).toInt ∧ ((0 : Int32) = 0 ∨ (0 : Int32) = 1)) from ⟨hT, (by refine ⟨by first | omega | (simp only [Int32.le_iff_toInt_le, Int32.lt_iff_toInt_lt, ti_add, ti_sub, ti_mul, Int32.reduceToInt] at *; omega), ?_⟩; first | exact Or.inl rfl | exact Or.inr rfl)⟩) (show (8 - (x4_3 + 1).toInt).toNat < (8 - x4_3.toInt).toNat from (by first | omega | decide | (simp only [Int32.le_iff_toInt_le, Int32.lt_iff_toInt_lt, ti_add, ti_sub, ti_mul, Int32.reduceToInt] at *; omega)))
    · refine ok_if (fun hc6 => ?_) (fun hc6 => ?_)
      · exact ih10_3 (1, x4_3 + 1, σ3) (show Tr [238] σ0 σ3 ∧ (0 ≤ (x4_3 + 1).toInt ∧ ((1 : Int32) = 0 ∨ (1 : Int32) = 1)) from ⟨hT, (by refine ⟨by first | omega | (simp only [Int32.le_iff_toInt_le, Int32.lt_iff_toInt_lt, ti_add, ti_sub, ti_mul, Int32.reduceToInt] at *; omega), ?_⟩; first | exact Or.inl rfl | exact Or.inr rfl)⟩) (show (8 - (x4_3 + 1).toInt).toNat < (8 - x4_3.toInt).toNat from (by first | omega | decide | (simp only [Int32.le_iff_toInt_le, Int32.lt_iff_toInt_lt, ti_add, ti_sub, ti_mul, Int32.reduceToInt] at *; omega)))
      · refine ok_gR (v := 238) hT rfl (hR 218 34 rfl) ?_
        refine ok_aIn rfl (by first | omega | decide | (simp only [Int32.le_iff_toInt_le, Int32.lt_iff_toInt_lt, ti_add, ti_sub, ti_mul, Int32.reduceToInt] at *; omega)) (by first | omega | decide | (simp only [Int32.le_iff_toInt_le, Int32.lt_iff_toInt_lt, ti_add, ti_sub, ti_mul, Int32.reduceToInt] at *; omega)) (fun v8 ev8 => ?_)
        refine ok_if (fun hc9 => ?_) (fun hc9 => ?_)
        · exact ih10_3 (0, x4_3 + 1, σ3) (show Tr [238] σ0 σ3 ∧ (0 ≤ (x4_3 + 1).toInt ∧ ((0 : Int32) = 0 ∨ (0 : Int32) = 1)) from ⟨hT, (by refine ⟨by first | omega | (simp only [Int32.le_iff_toInt_le, Int32.lt_iff_toInt_lt, ti_add, ti_sub, ti_mul, Int32.reduceToInt] at *; omega), ?_⟩; first | exact Or.inl rfl | exact Or.inr rfl)⟩) (show (8 - (x4_3 + 1).toInt).toNat < (8 - x4_3.toInt).toNat from (by first | omega | decide | (simp only [Int32.le_iff_toInt_le, Int32.lt_iff_toInt_lt, ti_add, ti_sub, ti_mul, Int32.reduceToInt] at *; omega)))
        · exact ih10_3 (1, x4_3 + 1, σ3) (show Tr [238] σ0 σ3 ∧ (0 ≤ (x4_3 + 1).toInt ∧ ((1 : Int32) = 0 ∨ (1 : Int32) = 1)) from ⟨hT, (by refine ⟨by first | omega | (simp only [Int32.le_iff_toInt_le, Int32.lt_iff_toInt_lt, ti_add, ti_sub, ti_mul, Int32.reduceToInt] at *; omega), ?_⟩; first | exact Or.inl rfl | exact Or.inr rfl)⟩) (show (8 - (x4_3 + 1).toInt).toNat < (8 - x4_3.toInt).toNat from (by first | omega | decide | (simp only [Int32.le_iff_toInt_le, Int32.lt_iff_toInt_lt, ti_add, ti_sub, ti_mul, Int32.reduceToInt] at *; omega)))

set_option maxHeartbeats 4000000 in
set_option maxRecDepth 100000 in
theorem s_X12_crossings {N : Nat} (hN : 1048576 ≤ N)  {σ0 : zS}  (hR : RF σ0.2.2) (hM : MW (σ0.1 219) 0) : Ok (f_X12_crossings N 218 σ0) (fun r => Tr [] σ0 r.2 ∧ (0 ≤ r.1.toInt ∧ r.1.toInt ≤ 255)) := by
  have hT : Tr [] σ0 σ0 := Tr.rf
  have hn := hM.1
  have he : 0 ≤ (σ0.1 219 2).toInt ∧ (σ0.1 219 2).toInt ≤ 10 := hM.2.1
  have qm := mny_b hn.1 hn.2
  rw [f_X12_crossings.eq_1]
  refine ok_lp (fun t : Int32 × Int32 × zS => Tr [] σ0 (t.2.2) ∧ (0 ≤ (t.2.1).toInt ∧ 0 ≤ (t.1).toInt ∧ (t.1).toInt ≤ 255)) (fun t : Int32 × Int32 × zS => (10 - (t.2.1).toInt).toNat) (fun again1 t hI ih4_1 => ?_) N _ (show Tr [] σ0 σ0 ∧ (0 ≤ (0 : Int32).toInt ∧ 0 ≤ (0 : Int32).toInt ∧ (0 : Int32).toInt ≤ 255) from ⟨hT, (by first | omega | decide | (simp only [Int32.le_iff_toInt_le, Int32.lt_iff_toInt_lt, ti_add, ti_sub, ti_mul, Int32.reduceToInt] at *; omega))⟩) (show (10 - (0 : Int32).toInt).toNat < N from (by first | omega | decide | (simp only [Int32.le_iff_toInt_le, Int32.lt_iff_toInt_lt, ti_add, ti_sub, ti_mul, Int32.reduceToInt] at *; omega)))
  obtain ⟨x1_1, x2_1, σ1⟩ := t
  have hI : Tr [] σ0 σ1 ∧ (0 ≤ x2_1.toInt ∧ 0 ≤ x1_1.toInt ∧ x1_1.toInt ≤ 255) := hI
  obtain ⟨hT, hI1⟩ := hI
  rw [F_X12_crossings_4.eq_1]
  refine ok_gR (v := 219) hT rfl (hR 218 1 rfl) ?_
  refine ok_aIc (j := 2) hT rfl (by decide) rfl (by decide) (by decide) ?_
  refine ok_if (fun hc4 => ?_) (fun hc4 => ?_)
  · exact ok_some ⟨hT, (show 0 ≤ x1_1.toInt ∧ x1_1.toInt ≤ 255 from by first | omega | decide | (simp only [Int32.le_iff_toInt_le, Int32.lt_iff_toInt_lt, ti_add, ti_sub, ti_mul, Int32.reduceToInt] at *; omega))⟩
  · refine ok_gC rfl ?_
    refine ok_zbT (Q := fun V σ => 0 ≤ V.toInt ∧ V.toInt ≤ 7) hT (s_X12_one hN (hR.tr hT) (by first | exact hM | (rw [hT.2 219 (by decide)]; exact hM)) (by first | omega | decide | (simp only [Int32.le_iff_toInt_le, Int32.lt_iff_toInt_lt, ti_add, ti_sub, ti_mul, Int32.reduceToInt] at *; omega))) (fun _ h9 => absurd h9 List.not_mem_nil) (fun v5 σ6 hOσ6 hT hqv5 => ?_)
    have hqv5 : 0 ≤ v5.toInt ∧ v5.toInt ≤ 7 := hqv5
    have o1 := one7 (k := v5) (by omega) (by omega)
    refine ok_gC rfl ?_
    refine ok_zbT (Q := fun V σ => 0 ≤ V.toInt ∧ V.toInt ≤ 7) hT (s_X12_other hN (hR.tr hT) (by first | exact hM | (rw [hT.2 219 (by decide)]; exact hM)) (by first | omega | decide | (simp only [Int32.le_iff_toInt_le, Int32.lt_iff_toInt_lt, ti_add, ti_sub, ti_mul, Int32.reduceToInt] at *; omega))) (fun _ h9 => absurd h9 List.not_mem_nil) (fun v7 σ8 hOσ8 hT hqv7 => ?_)
    have hqv7 : 0 ≤ v7.toInt ∧ v7.toInt ≤ 7 := hqv7
    have o2 := one7 (k := v7) (by omega) (by omega)
    have o3 := or8 (a := x1_1) ⟨by omega, by omega⟩ (or8 o1 o2)
    exact ih4_1 (x1_1 ||| (((1 : Int32) <<< (v5 &&& 31)) ||| ((1 : Int32) <<< (v7 &&& 31))), x2_1 + 1, σ8) (show Tr [] σ0 σ8 ∧ (0 ≤ (x2_1 + 1).toInt ∧ 0 ≤ (x1_1 ||| (((1 : Int32) <<< (v5 &&& 31)) ||| ((1 : Int32) <<< (v7 &&& 31)))).toInt ∧ (x1_1 ||| (((1 : Int32) <<< (v5 &&& 31)) ||| ((1 : Int32) <<< (v7 &&& 31)))).toInt ≤ 255) from ⟨hT, (by first | omega | decide | (simp only [Int32.le_iff_toInt_le, Int32.lt_iff_toInt_lt, ti_add, ti_sub, ti_mul, Int32.reduceToInt] at *; omega))⟩) (show (10 - (x2_1 + 1).toInt).toNat < (10 - x2_1.toInt).toNat from (by first | omega | decide | (simp only [Int32.le_iff_toInt_le, Int32.lt_iff_toInt_lt, ti_add, ti_sub, ti_mul, Int32.reduceToInt] at *; omega)))

set_option maxHeartbeats 4000000 in
set_option maxRecDepth 100000 in
theorem s_X12_isTree {N : Nat} (hN : 1048576 ≤ N) {x1 : Int32} {x2 : Int32} {σ0 : zS}  (hR : RF σ0.2.2) (hM : MW (σ0.1 219) 0) (ha : 0 ≤ x2.toInt ∧ x2.toInt ≤ 255) : Ok (f_X12_isTree N 218 x1 x2 σ0) (fun r => Tr [] σ0 r.2 ∧ (r.1 = 0 ∨ r.1 = 1)) := by
  have hT : Tr [] σ0 σ0 := Tr.rf
  have hn := hM.1
  have he : 0 ≤ (σ0.1 219 2).toInt ∧ (σ0.1 219 2).toInt ≤ 10 := hM.2.1
  have qm := mny_b hn.1 hn.2
  rw [f_X12_isTree.eq_1]
  refine ok_if (fun hc1 => ?_) (fun hc1 => ?_)
  · refine ok_if (fun hc2 => ?_) (fun hc2 => ?_)
    · exact ok_rZ (Or.inr rfl) ⟨hT, (show (1 : Int32) = 0 ∨ (1 : Int32) = 1 from by first | exact Or.inl rfl | exact Or.inr rfl)⟩
    · exact ok_rZ (Or.inl rfl) ⟨hT, (show (0 : Int32) = 0 ∨ (0 : Int32) = 1 from by first | exact Or.inl rfl | exact Or.inr rfl)⟩
  · obtain ⟨k9, hk9, hb9⟩ := bit_ex ha.1 ha.2 (by assumption)
    refine ok_lp (fun t : Int32 × zS => Tr [] σ0 (t.2) ∧ (∃ k : Nat, k < 8 ∧ ((x2 >>> (nI k &&& 31)) &&& 1) ≠ 0 ∧ (t.1).toInt ≤ (k : Int) ∧ 0 ≤ (t.1).toInt)) (fun t : Int32 × zS => (8 - (t.1).toInt).toNat) (fun again3 t hI ih16_3 => ?_) N _ (show Tr [] σ0 σ0 ∧ (∃ k : Nat, k < 8 ∧ ((x2 >>> (nI k &&& 31)) &&& 1) ≠ 0 ∧ (0 : Int32).toInt ≤ (k : Int) ∧ 0 ≤ (0 : Int32).toInt) from ⟨hT, (by exact ⟨k9, hk9, hb9, by simp only [Int32.reduceToInt]; omega, by decide⟩)⟩) (show (8 - (0 : Int32).toInt).toNat < N from (by simp only [Int32.reduceToInt]; omega))
    obtain ⟨x3_3, σ3⟩ := t
    have hI : Tr [] σ0 σ3 ∧ (∃ k : Nat, k < 8 ∧ ((x2 >>> (nI k &&& 31)) &&& 1) ≠ 0 ∧ x3_3.toInt ≤ (k : Int) ∧ 0 ≤ x3_3.toInt) := hI
    obtain ⟨hT, hI3⟩ := hI
    rw [F_X12_isTree_16.eq_1]
    obtain ⟨k9, hk9, hb9, hle9, h09⟩ := hI3
    refine ok_if (fun hc4 => ?_) (fun hc4 => ?_)
    · have hlt : x3_3.toInt < (k9 : Int) := by
        rcases (show x3_3.toInt < (k9 : Int) ∨ x3_3.toInt = (k9 : Int) by omega) with q | q
        · exact q
        · exact absurd hc4 (by rw [show x3_3 = nI k9 from Int32.toInt_inj.mp (by rw [nI_toInt (by omega)]; exact q)]; exact hb9)
      exact ih16_3 (x3_3 + 1, σ3) (show Tr [] σ0 σ3 ∧ (∃ k : Nat, k < 8 ∧ ((x2 >>> (nI k &&& 31)) &&& 1) ≠ 0 ∧ (x3_3 + 1).toInt ≤ (k : Int) ∧ 0 ≤ (x3_3 + 1).toInt) from ⟨hT, (by exact ⟨k9, hk9, hb9, by simp only [ti_add, Int32.reduceToInt]; omega, by simp only [ti_add, Int32.reduceToInt]; omega⟩)⟩) (show (8 - (x3_3 + 1).toInt).toNat < (8 - x3_3.toInt).toNat from (by simp only [ti_add, Int32.reduceToInt]; omega))
    · refine ok_gC rfl ?_
      refine ok_zbT (Q := fun V σ => True) hT (s_X12_hangs hN (hR.tr hT) (by first | exact hM | (rw [hT.2 219 (by decide)]; exact hM))) (fun _ h9 => absurd h9 List.not_mem_nil) (fun v5 σ6 hOσ6 hT hqv5 => ?_)
      refine ok_if (fun hc7 => ?_) (fun hc7 => ?_)
      · refine ok_zbT (Q := fun V σ => True) hT (s_X12_namesOf hN (hR.tr hT) ) (fun _ h9 => absurd h9 List.not_mem_nil) (fun v8 σ9 hOσ9 hT hqv8 => ?_)
        refine ok_zbT (Q := fun V σ => True) hT (s_X12_namesOf hN (hR.tr hT) ) (fun _ h9 => absurd h9 List.not_mem_nil) (fun v10 σ11 hOσ11 hT hqv10 => ?_)
        refine ok_if (fun hc12 => ?_) (fun hc12 => ?_)
        · exact ok_rZ (Or.inr rfl) ⟨hT, (show (1 : Int32) = 0 ∨ (1 : Int32) = 1 from by first | exact Or.inl rfl | exact Or.inr rfl)⟩
        · exact ok_rZ (Or.inl rfl) ⟨hT, (show (0 : Int32) = 0 ∨ (0 : Int32) = 1 from by first | exact Or.inl rfl | exact Or.inr rfl)⟩
      · exact ok_rZ (Or.inl rfl) ⟨hT, (show (0 : Int32) = 0 ∨ (0 : Int32) = 1 from by first | exact Or.inl rfl | exact Or.inr rfl)⟩

set_option maxHeartbeats 4000000 in
set_option maxRecDepth 100000 in
theorem s_X12_map {N : Nat} (hN : 1048576 ≤ N) {x1 : Int32} {x2 : Int32} {σ0 : zS}  (hR : RF σ0.2.2) (hM : MW (σ0.1 219) 0) (hB : ZB σ0.1) : Ok (f_X12_map N 218 x1 x2 σ0) (fun r => Tr [220, 227, 238] σ0 r.2 ∧ (ZB r.2.1)) := by
  have hT : Tr [220, 227, 238] σ0 σ0 := Tr.rf
  have hn := hM.1
  have he : 0 ≤ (σ0.1 219 2).toInt ∧ (σ0.1 219 2).toInt ≤ 10 := hM.2.1
  have qm := mny_b hn.1 hn.2
  rw [f_X12_map.eq_1]
  refine ok_gC rfl ?_
  refine ok_zbT (Q := fun V σ => (V = 0 ∨ V = 1) ∧ (¬ V = 0 → 0 ≤ x1.toInt ∧ x1.toInt ≤ 9)) hT (s_X12_isRegister hN (hR.tr hT) (by first | exact hM | (rw [hT.2 219 (by decide)]; exact hM))) (fun _ h9 => absurd h9 List.not_mem_nil) (fun v1 σ2 hOσ2 hT hqv1 => ?_)
  have hqv1 : (v1 = 0 ∨ v1 = 1) ∧ (¬ v1 = 0 → 0 ≤ x1.toInt ∧ x1.toInt ≤ 9) := hqv1
  have hB : ZB σ2.1 := ZB.tr hOσ2 (by decide) hB
  refine ok_if (fun hc3 => ?_) (fun hc3 => ?_)
  · exact ok_some ⟨hT, (show ZB σ2.1 from by exact hB)⟩
  · have qhc3 := hqv1.2 hc3
    refine ok_zbT (Q := fun V σ => (V = 0 ∨ V = 1) ∧ (¬ V = 0 → (0 : Int64).toInt ≤ (Int32.toInt64 x2).toInt ∧ (Int32.toInt64 x2).toInt ≤ (2 : Int64).toInt)) hT (s_X12_in hN (hR.tr hT) ) (fun _ h9 => absurd h9 List.not_mem_nil) (fun v4 σ5 hOσ5 hT hqv4 => ?_)
    have hqv4 : (v4 = 0 ∨ v4 = 1) ∧ (¬ v4 = 0 → (0 : Int64).toInt ≤ (Int32.toInt64 x2).toInt ∧ (Int32.toInt64 x2).toInt ≤ (2 : Int64).toInt) := hqv4
    simp only [i64_of, Int64.reduceToInt] at hqv4
    have hB : ZB σ5.1 := ZB.tr hOσ5 (by decide) hB
    refine ok_if (fun hc6 => ?_) (fun hc6 => ?_)
    · exact ok_some ⟨hT, (show ZB σ5.1 from by exact hB)⟩
    · have qhc6 := hqv4.2 hc6
      refine ok_gC rfl ?_
      refine ok_zbT (Q := fun V σ => 0 ≤ V.toInt ∧ V.toInt ≤ 255) hT (s_X12_crossings hN (hR.tr hT) (by first | exact hM | (rw [hT.2 219 (by decide)]; exact hM))) (fun _ h9 => absurd h9 List.not_mem_nil) (fun v7 σ8 hOσ8 hT hqv7 => ?_)
      have hqv7 : 0 ≤ v7.toInt ∧ v7.toInt ≤ 255 := hqv7
      have hB : ZB σ8.1 := ZB.tr hOσ8 (by decide) hB
      refine ok_lp (fun t : Int32 × zS => Tr [220, 227, 238] σ0 (t.2) ∧ (0 ≤ (t.1).toInt) ∧ (ZB (t.2).1)) (fun t : Int32 × zS => ((1024 : Int32).toInt - (t.1).toInt).toNat) (fun again9 t hI ih31_9 => ?_) N _ (show Tr [220, 227, 238] σ0 σ8 ∧ (0 ≤ (0 : Int32).toInt) ∧ (ZB σ8.1) from ⟨hT, (by first | omega | decide | (simp only [Int32.le_iff_toInt_le, Int32.lt_iff_toInt_lt, ti_add, ti_sub, ti_mul, Int32.reduceToInt] at *; omega)), hB⟩) (show ((1024 : Int32).toInt - (0 : Int32).toInt).toNat < N from (by first | omega | decide | (simp only [Int32.le_iff_toInt_le, Int32.lt_iff_toInt_lt, ti_add, ti_sub, ti_mul, Int32.reduceToInt] at *; omega)))
      obtain ⟨x4_9, σ9⟩ := t
      have hI : Tr [220, 227, 238] σ0 σ9 ∧ (0 ≤ x4_9.toInt) ∧ (ZB σ9.1) := hI
      obtain ⟨hT, hI9, hB⟩ := hI
      rw [F_X12_map_31.eq_1]
      refine ok_if (fun hc10 => ?_) (fun hc10 => ?_)
      · refine ok_gC rfl ?_
        refine ok_zbT (Q := fun V σ => ZB σ.1) hT (s_X12_lays hN (hR.tr hT) (by first | exact hM | (rw [hT.2 219 (by decide)]; exact hM)) (hB) (by first | omega | decide | (simp only [Int32.le_iff_toInt_le, Int32.lt_iff_toInt_lt, ti_add, ti_sub, ti_mul, Int32.reduceToInt] at *; omega))) (by decide) (fun v11 σ12 hOσ12 hT hqv11 => ?_)
        have hqv11 : ZB σ12.1 := hqv11
        have hB : ZB σ12.1 := by first | exact hqv11 | exact ZB_s eσ12 hB
        exact ok_some ⟨hT, (show ZB σ12.1 from by exact hB)⟩
      · refine ok_gR (v := 227) hT rfl (hR 218 17 rfl) ?_
        refine ok_gR (v := 219) hT rfl (hR 218 1 rfl) ?_
        refine ok_aIc (j := 2) hT rfl (by decide) rfl (by decide) (by decide) ?_
        refine ok_if (fun hc16 => ?_) (fun hc16 => ?_)
        · refine ok_s16 hT rfl (by decide) (by first | omega | decide | (simp only [Int32.le_iff_toInt_le, Int32.lt_iff_toInt_lt, ti_add, ti_sub, ti_mul, Int32.reduceToInt] at *; omega)) (by first | omega | decide | (simp only [Int32.le_iff_toInt_le, Int32.lt_iff_toInt_lt, ti_add, ti_sub, ti_mul, Int32.reduceToInt] at *; omega)) (fun σ17 eσ17 hOσ17 hT => ?_)
          have hB : ZB σ17.1 := by first | exact HQ | exact ZB_s eσ17 hB
          exact ih31_9 (x4_9 + 1, σ17) (show Tr [220, 227, 238] σ0 σ17 ∧ (0 ≤ (x4_9 + 1).toInt) ∧ (ZB σ17.1) from ⟨hT, (by first | omega | decide | (simp only [Int32.le_iff_toInt_le, Int32.lt_iff_toInt_lt, ti_add, ti_sub, ti_mul, Int32.reduceToInt] at *; omega)), hB⟩) (show ((1024 : Int32).toInt - (x4_9 + 1).toInt).toNat < ((1024 : Int32).toInt - x4_9.toInt).toNat from (by first | omega | decide | (simp only [Int32.le_iff_toInt_le, Int32.lt_iff_toInt_lt, ti_add, ti_sub, ti_mul, Int32.reduceToInt] at *; omega)))
        · refine ok_if (fun hc18 => ?_) (fun hc18 => ?_)
          · refine ok_gC rfl ?_
            refine ok_zbT (Q := fun V σ => V = 0 ∨ V = 1) hT (s_X12_isTree hN (hR.tr hT) (by first | exact hM | (rw [hT.2 219 (by decide)]; exact hM)) (by first | omega | decide | (simp only [Int32.le_iff_toInt_le, Int32.lt_iff_toInt_lt, ti_add, ti_sub, ti_mul, Int32.reduceToInt] at *; omega))) (fun _ h9 => absurd h9 List.not_mem_nil) (fun v19 σ20 hOσ20 hT hqv19 => ?_)
            have hqv19 : v19 = 0 ∨ v19 = 1 := hqv19
            have hB : ZB σ20.1 := ZB.tr hOσ20 (by decide) hB
            refine ok_if (fun hc21 => ?_) (fun hc21 => ?_)
            · refine ok_s16 hT rfl (by decide) (by first | omega | decide | (simp only [Int32.le_iff_toInt_le, Int32.lt_iff_toInt_lt, ti_add, ti_sub, ti_mul, Int32.reduceToInt] at *; omega)) (by first | omega | decide | (simp only [Int32.le_iff_toInt_le, Int32.lt_iff_toInt_lt, ti_add, ti_sub, ti_mul, Int32.reduceToInt] at *; omega)) (fun σ22 eσ22 hOσ22 hT => ?_)
              have hB : ZB σ22.1 := by first | exact HQ | exact ZB_s eσ22 hB
              exact ih31_9 (x4_9 + 1, σ22) (show Tr [220, 227, 238] σ0 σ22 ∧ (0 ≤ (x4_9 + 1).toInt) ∧ (ZB σ22.1) from ⟨hT, (by first | omega | decide | (simp only [Int32.le_iff_toInt_le, Int32.lt_iff_toInt_lt, ti_add, ti_sub, ti_mul, Int32.reduceToInt] at *; omega)), hB⟩) (show ((1024 : Int32).toInt - (x4_9 + 1).toInt).toNat < ((1024 : Int32).toInt - x4_9.toInt).toNat from (by first | omega | decide | (simp only [Int32.le_iff_toInt_le, Int32.lt_iff_toInt_lt, ti_add, ti_sub, ti_mul, Int32.reduceToInt] at *; omega)))
            · refine ok_s16 hT rfl (by decide) (by first | omega | decide | (simp only [Int32.le_iff_toInt_le, Int32.lt_iff_toInt_lt, ti_add, ti_sub, ti_mul, Int32.reduceToInt] at *; omega)) (by first | omega | decide | (simp only [Int32.le_iff_toInt_le, Int32.lt_iff_toInt_lt, ti_add, ti_sub, ti_mul, Int32.reduceToInt] at *; omega)) (fun σ23 eσ23 hOσ23 hT => ?_)
              have hB : ZB σ23.1 := by first | exact HQ | exact ZB_s eσ23 hB
              exact ih31_9 (x4_9 + 1, σ23) (show Tr [220, 227, 238] σ0 σ23 ∧ (0 ≤ (x4_9 + 1).toInt) ∧ (ZB σ23.1) from ⟨hT, (by first | omega | decide | (simp only [Int32.le_iff_toInt_le, Int32.lt_iff_toInt_lt, ti_add, ti_sub, ti_mul, Int32.reduceToInt] at *; omega)), hB⟩) (show ((1024 : Int32).toInt - (x4_9 + 1).toInt).toNat < ((1024 : Int32).toInt - x4_9.toInt).toNat from (by first | omega | decide | (simp only [Int32.le_iff_toInt_le, Int32.lt_iff_toInt_lt, ti_add, ti_sub, ti_mul, Int32.reduceToInt] at *; omega)))
          · refine ok_if (fun hc24 => ?_) (fun hc24 => ?_)
            · refine ok_gC rfl ?_
              refine ok_zbT (Q := fun V σ => V = 0 ∨ V = 1) hT (s_X12_isPairs hN (hR.tr hT) (by first | exact hM | (rw [hT.2 219 (by decide)]; exact hM))) (by decide) (fun v25 σ26 hOσ26 hT hqv25 => ?_)
              have hqv25 : v25 = 0 ∨ v25 = 1 := hqv25
              have hB : ZB σ26.1 := ZB.tr hOσ26 (by decide) hB
              refine ok_if (fun hc27 => ?_) (fun hc27 => ?_)
              · refine ok_s16 hT rfl (by decide) (by first | omega | decide | (simp only [Int32.le_iff_toInt_le, Int32.lt_iff_toInt_lt, ti_add, ti_sub, ti_mul, Int32.reduceToInt] at *; omega)) (by first | omega | decide | (simp only [Int32.le_iff_toInt_le, Int32.lt_iff_toInt_lt, ti_add, ti_sub, ti_mul, Int32.reduceToInt] at *; omega)) (fun σ28 eσ28 hOσ28 hT => ?_)
                have hB : ZB σ28.1 := by first | exact HQ | exact ZB_s eσ28 hB
                exact ih31_9 (x4_9 + 1, σ28) (show Tr [220, 227, 238] σ0 σ28 ∧ (0 ≤ (x4_9 + 1).toInt) ∧ (ZB σ28.1) from ⟨hT, (by first | omega | decide | (simp only [Int32.le_iff_toInt_le, Int32.lt_iff_toInt_lt, ti_add, ti_sub, ti_mul, Int32.reduceToInt] at *; omega)), hB⟩) (show ((1024 : Int32).toInt - (x4_9 + 1).toInt).toNat < ((1024 : Int32).toInt - x4_9.toInt).toNat from (by first | omega | decide | (simp only [Int32.le_iff_toInt_le, Int32.lt_iff_toInt_lt, ti_add, ti_sub, ti_mul, Int32.reduceToInt] at *; omega)))
              · refine ok_s16 hT rfl (by decide) (by first | omega | decide | (simp only [Int32.le_iff_toInt_le, Int32.lt_iff_toInt_lt, ti_add, ti_sub, ti_mul, Int32.reduceToInt] at *; omega)) (by first | omega | decide | (simp only [Int32.le_iff_toInt_le, Int32.lt_iff_toInt_lt, ti_add, ti_sub, ti_mul, Int32.reduceToInt] at *; omega)) (fun σ29 eσ29 hOσ29 hT => ?_)
                have hB : ZB σ29.1 := by first | exact HQ | exact ZB_s eσ29 hB
                exact ih31_9 (x4_9 + 1, σ29) (show Tr [220, 227, 238] σ0 σ29 ∧ (0 ≤ (x4_9 + 1).toInt) ∧ (ZB σ29.1) from ⟨hT, (by first | omega | decide | (simp only [Int32.le_iff_toInt_le, Int32.lt_iff_toInt_lt, ti_add, ti_sub, ti_mul, Int32.reduceToInt] at *; omega)), hB⟩) (show ((1024 : Int32).toInt - (x4_9 + 1).toInt).toNat < ((1024 : Int32).toInt - x4_9.toInt).toNat from (by first | omega | decide | (simp only [Int32.le_iff_toInt_le, Int32.lt_iff_toInt_lt, ti_add, ti_sub, ti_mul, Int32.reduceToInt] at *; omega)))
            · refine ok_gC rfl ?_
              refine ok_zbT (Q := fun V σ => V = 0 ∨ V = 1) hT (s_X12_isCover hN (hR.tr hT) (by first | exact hM | (rw [hT.2 219 (by decide)]; exact hM))) (by decide) (fun v30 σ31 hOσ31 hT hqv30 => ?_)
              have hqv30 : v30 = 0 ∨ v30 = 1 := hqv30
              have hB : ZB σ31.1 := ZB.tr hOσ31 (by decide) hB
              refine ok_if (fun hc32 => ?_) (fun hc32 => ?_)
              · refine ok_s16 hT rfl (by decide) (by first | omega | decide | (simp only [Int32.le_iff_toInt_le, Int32.lt_iff_toInt_lt, ti_add, ti_sub, ti_mul, Int32.reduceToInt] at *; omega)) (by first | omega | decide | (simp only [Int32.le_iff_toInt_le, Int32.lt_iff_toInt_lt, ti_add, ti_sub, ti_mul, Int32.reduceToInt] at *; omega)) (fun σ33 eσ33 hOσ33 hT => ?_)
                have hB : ZB σ33.1 := by first | exact HQ | exact ZB_s eσ33 hB
                exact ih31_9 (x4_9 + 1, σ33) (show Tr [220, 227, 238] σ0 σ33 ∧ (0 ≤ (x4_9 + 1).toInt) ∧ (ZB σ33.1) from ⟨hT, (by first | omega | decide | (simp only [Int32.le_iff_toInt_le, Int32.lt_iff_toInt_lt, ti_add, ti_sub, ti_mul, Int32.reduceToInt] at *; omega)), hB⟩) (show ((1024 : Int32).toInt - (x4_9 + 1).toInt).toNat < ((1024 : Int32).toInt - x4_9.toInt).toNat from (by first | omega | decide | (simp only [Int32.le_iff_toInt_le, Int32.lt_iff_toInt_lt, ti_add, ti_sub, ti_mul, Int32.reduceToInt] at *; omega)))
              · refine ok_s16 hT rfl (by decide) (by first | omega | decide | (simp only [Int32.le_iff_toInt_le, Int32.lt_iff_toInt_lt, ti_add, ti_sub, ti_mul, Int32.reduceToInt] at *; omega)) (by first | omega | decide | (simp only [Int32.le_iff_toInt_le, Int32.lt_iff_toInt_lt, ti_add, ti_sub, ti_mul, Int32.reduceToInt] at *; omega)) (fun σ34 eσ34 hOσ34 hT => ?_)
                have hB : ZB σ34.1 := by first | exact HQ | exact ZB_s eσ34 hB
                exact ih31_9 (x4_9 + 1, σ34) (show Tr [220, 227, 238] σ0 σ34 ∧ (0 ≤ (x4_9 + 1).toInt) ∧ (ZB σ34.1) from ⟨hT, (by first | omega | decide | (simp only [Int32.le_iff_toInt_le, Int32.lt_iff_toInt_lt, ti_add, ti_sub, ti_mul, Int32.reduceToInt] at *; omega)), hB⟩) (show ((1024 : Int32).toInt - (x4_9 + 1).toInt).toNat < ((1024 : Int32).toInt - x4_9.toInt).toNat from (by first | omega | decide | (simp only [Int32.le_iff_toInt_le, Int32.lt_iff_toInt_lt, ti_add, ti_sub, ti_mul, Int32.reduceToInt] at *; omega)))

set_option maxHeartbeats 4000000 in
set_option maxRecDepth 100000 in
theorem s_X12_makes {N : Nat} (hN : 1048576 ≤ N) {x1 : Int32} {x2 : Int32} {x3 : Int32} {x4 : Int32} {σ0 : zS}  (hR : RF σ0.2.2) (hM : MW (σ0.1 219) 0) (hB : ZB σ0.1) : Ok (f_X12_makes N 218 x1 x2 x3 x4 σ0) (fun r => Tr [218, 220, 227, 228, 229] σ0 r.2 ∧ (ZB r.2.1 ∧ r.2.1 218 7 = σ0.1 218 7)) := by
  have hT : Tr [218, 220, 227, 228, 229] σ0 σ0 := Tr.rf
  have hn := hM.1
  have he : 0 ≤ (σ0.1 219 2).toInt ∧ (σ0.1 219 2).toInt ≤ 10 := hM.2.1
  have qm := mny_b hn.1 hn.2
  have ht : σ0.1 218 7 = σ0.1 218 7 := rfl
  rw [f_X12_makes.eq_1]
  refine ok_gC rfl ?_
  refine ok_zbT (Q := fun V σ => (V = 0 ∨ V = 1) ∧ (¬ V = 0 → 0 ≤ x1.toInt ∧ x1.toInt ≤ 9)) hT (s_X12_isRegister hN (hR.tr hT) (by first | exact hM | (rw [hT.2 219 (by decide)]; exact hM))) (fun _ h9 => absurd h9 List.not_mem_nil) (fun v1 σ2 hOσ2 hT hqv1 => ?_)
  have hqv1 : (v1 = 0 ∨ v1 = 1) ∧ (¬ v1 = 0 → 0 ≤ x1.toInt ∧ x1.toInt ≤ 9) := hqv1
  have hB : ZB σ2.1 := ZB.tr hOσ2 (by decide) hB
  have ht : σ2.1 218 7 = σ0.1 218 7 := by rw [hOσ2.2 218 (by decide)] <;> exact ht
  refine ok_if (fun hc3 => ?_) (fun hc3 => ?_)
  · exact ok_some ⟨hT, (show ZB σ2.1 ∧ σ2.1 218 7 = σ0.1 218 7 from by exact ⟨hB, ht⟩)⟩
  · have qhc3 := hqv1.2 hc3
    refine ok_zbT (Q := fun V σ => (V = 0 ∨ V = 1) ∧ (¬ V = 0 → (0 : Int64).toInt ≤ (Int32.toInt64 x2).toInt ∧ (Int32.toInt64 x2).toInt ≤ (6 : Int64).toInt)) hT (s_X12_in hN (hR.tr hT) ) (fun _ h9 => absurd h9 List.not_mem_nil) (fun v4 σ5 hOσ5 hT hqv4 => ?_)
    have hqv4 : (v4 = 0 ∨ v4 = 1) ∧ (¬ v4 = 0 → (0 : Int64).toInt ≤ (Int32.toInt64 x2).toInt ∧ (Int32.toInt64 x2).toInt ≤ (6 : Int64).toInt) := hqv4
    simp only [i64_of, Int64.reduceToInt] at hqv4
    have hB : ZB σ5.1 := ZB.tr hOσ5 (by decide) hB
    have ht : σ5.1 218 7 = σ0.1 218 7 := by rw [hOσ5.2 218 (by decide)] <;> exact ht
    refine ok_if (fun hc6 => ?_) (fun hc6 => ?_)
    · exact ok_some ⟨hT, (show ZB σ5.1 ∧ σ5.1 218 7 = σ0.1 218 7 from by exact ⟨hB, ht⟩)⟩
    · have qhc6 := hqv4.2 hc6
      refine ok_gC rfl ?_
      refine ok_zbT (Q := fun V σ => (V = 0 ∨ V = 1) ∧ (¬ V = 0 → 0 ≤ x3.toInt ∧ x3.toInt ≤ 9)) hT (s_X12_isRegister hN (hR.tr hT) (by first | exact hM | (rw [hT.2 219 (by decide)]; exact hM))) (fun _ h9 => absurd h9 List.not_mem_nil) (fun v7 σ8 hOσ8 hT hqv7 => ?_)
      have hqv7 : (v7 = 0 ∨ v7 = 1) ∧ (¬ v7 = 0 → 0 ≤ x3.toInt ∧ x3.toInt ≤ 9) := hqv7
      have hB : ZB σ8.1 := ZB.tr hOσ8 (by decide) hB
      have ht : σ8.1 218 7 = σ0.1 218 7 := by rw [hOσ8.2 218 (by decide)] <;> exact ht
      refine ok_if (fun hc9 => ?_) (fun hc9 => ?_)
      · exact ok_some ⟨hT, (show ZB σ8.1 ∧ σ8.1 218 7 = σ0.1 218 7 from by exact ⟨hB, ht⟩)⟩
      · have qhc9 := hqv7.2 hc9
        refine ok_gC rfl ?_
        refine ok_zbT (Q := fun V σ => (V = 0 ∨ V = 1) ∧ (¬ V = 0 → 0 ≤ x4.toInt ∧ x4.toInt ≤ 9)) hT (s_X12_isRegister hN (hR.tr hT) (by first | exact hM | (rw [hT.2 219 (by decide)]; exact hM))) (fun _ h9 => absurd h9 List.not_mem_nil) (fun v10 σ11 hOσ11 hT hqv10 => ?_)
        have hqv10 : (v10 = 0 ∨ v10 = 1) ∧ (¬ v10 = 0 → 0 ≤ x4.toInt ∧ x4.toInt ≤ 9) := hqv10
        have hB : ZB σ11.1 := ZB.tr hOσ11 (by decide) hB
        have ht : σ11.1 218 7 = σ0.1 218 7 := by rw [hOσ11.2 218 (by decide)] <;> exact ht
        refine ok_if (fun hc12 => ?_) (fun hc12 => ?_)
        · exact ok_some ⟨hT, (show ZB σ11.1 ∧ σ11.1 218 7 = σ0.1 218 7 from by exact ⟨hB, ht⟩)⟩
        · have qhc12 := hqv10.2 hc12
          refine ok_gC rfl ?_
          have hTc := hT
          refine ok_zbT (Q := fun V σ => V = mny (σ11.1 219 0)) hT (s_X12_many hN (hR.tr hT) (by first | exact hM | (rw [hT.2 219 (by decide)]; exact hM))) (fun _ h9 => absurd h9 List.not_mem_nil) (fun v13 σ14 hOσ14 hT hqv13 => ?_)
          have hqv13 : v13 = mny (σ11.1 219 0) := hqv13
          rw [hTc.2 219 (by decide)] at hqv13
          obtain rfl : v13 = (mny (σ0.1 219 0)) := hqv13
          have hB : ZB σ14.1 := ZB.tr hOσ14 (by decide) hB
          have ht : σ14.1 218 7 = σ0.1 218 7 := by rw [hOσ14.2 218 (by decide)] <;> exact ht
          refine ok_pI hT rfl (by decide) (fun σ15 eσ15 hOσ15 hT => ?_)
          have ha : 0 ≤ (σ15.1 218 20).toInt ∧ (σ15.1 218 20).toInt ≤ 1024 := by rw [zI_atI eσ15]; exact qm
          have hB : ZB σ15.1 := ZB.tr hOσ15 (by decide) hB
          have ht : σ15.1 218 7 = σ0.1 218 7 := by first | (rw [zI_atN eσ15 (by decide)]; exact ht) | exact HQ.2.trans ht
          refine ok_gR (v := 220) hT rfl (hR 218 2 rfl) ?_
          refine ok_gR (v := 220) hT rfl (hR 218 2 rfl) ?_
          refine ok_gC rfl ?_
          refine ok_zbT (Q := fun V σ => ZB σ.1) hT (s_X12_gives_220_220 hN (hR.tr hT) (hB) (ha) (by first | omega | decide | (simp only [Int32.le_iff_toInt_le, Int32.lt_iff_toInt_lt, ti_add, ti_sub, ti_mul, Int32.reduceToInt] at *; omega)) (by first | omega | decide | (simp only [Int32.le_iff_toInt_le, Int32.lt_iff_toInt_lt, ti_add, ti_sub, ti_mul, Int32.reduceToInt] at *; omega))) (by decide) (fun v18 σ19 hOσ19 hT hqv18 => ?_)
          have hqv18 : ZB σ19.1 := hqv18
          have hB : ZB σ19.1 := by first | exact hqv18 | exact hqv18.1 | exact ZB_s eσ19 hB
          have ht : σ19.1 218 7 = σ0.1 218 7 := by rw [hOσ19.2 218 (by decide)] <;> exact ht
          refine ok_gC rfl ?_
          refine ok_zbT (Q := fun V σ => ZB σ.1) hT (s_X12_lays hN (hR.tr hT) (by first | exact hM | (rw [hT.2 219 (by decide)]; exact hM)) (hB) (by first | omega | decide | (simp only [Int32.le_iff_toInt_le, Int32.lt_iff_toInt_lt, ti_add, ti_sub, ti_mul, Int32.reduceToInt] at *; omega))) (by decide) (fun v20 σ21 hOσ21 hT hqv20 => ?_)
          have hqv20 : ZB σ21.1 := hqv20
          have hB : ZB σ21.1 := by first | exact hqv20 | exact hqv20.1 | exact ZB_s eσ21 hB
          have ht : σ21.1 218 7 = σ0.1 218 7 := by rw [hOσ21.2 218 (by decide)] <;> exact ht
          exact ok_some ⟨hT, (show ZB σ21.1 ∧ σ21.1 218 7 = σ0.1 218 7 from by exact ⟨hB, ht⟩)⟩

set_option maxHeartbeats 4000000 in
set_option maxRecDepth 100000 in
theorem s_X12_turn {N : Nat} (hN : 1048576 ≤ N) {x1 : Int32} {x2 : Int32} {x3 : Int32} {σ0 : zS}  (hR : RF σ0.2.2) (hM : MW (σ0.1 219) 0) (hB : ZB σ0.1) : Ok (f_X12_turn N 218 x1 x2 x3 σ0) (fun r => Tr [218, 220, 227, 228] σ0 r.2 ∧ (ZB r.2.1 ∧ r.2.1 218 7 = σ0.1 218 7)) := by
  have hT : Tr [218, 220, 227, 228] σ0 σ0 := Tr.rf
  have hn := hM.1
  have he : 0 ≤ (σ0.1 219 2).toInt ∧ (σ0.1 219 2).toInt ≤ 10 := hM.2.1
  have qm := mny_b hn.1 hn.2
  have ht : σ0.1 218 7 = σ0.1 218 7 := rfl
  rw [f_X12_turn.eq_1]
  refine ok_gC rfl ?_
  refine ok_zbT (Q := fun V σ => (V = 0 ∨ V = 1) ∧ (¬ V = 0 → 0 ≤ x1.toInt ∧ x1.toInt ≤ 9)) hT (s_X12_isRegister hN (hR.tr hT) (by first | exact hM | (rw [hT.2 219 (by decide)]; exact hM))) (fun _ h9 => absurd h9 List.not_mem_nil) (fun v1 σ2 hOσ2 hT hqv1 => ?_)
  have hqv1 : (v1 = 0 ∨ v1 = 1) ∧ (¬ v1 = 0 → 0 ≤ x1.toInt ∧ x1.toInt ≤ 9) := hqv1
  have hB : ZB σ2.1 := ZB.tr hOσ2 (by decide) hB
  have ht : σ2.1 218 7 = σ0.1 218 7 := by rw [hOσ2.2 218 (by decide)] <;> exact ht
  refine ok_if (fun hc3 => ?_) (fun hc3 => ?_)
  · exact ok_some ⟨hT, (show ZB σ2.1 ∧ σ2.1 218 7 = σ0.1 218 7 from by exact ⟨hB, ht⟩)⟩
  · have qhc3 := hqv1.2 hc3
    refine ok_zbT (Q := fun V σ => (V = 0 ∨ V = 1) ∧ (¬ V = 0 → (0 : Int64).toInt ≤ (Int32.toInt64 x2).toInt ∧ (Int32.toInt64 x2).toInt ≤ (6 : Int64).toInt)) hT (s_X12_in hN (hR.tr hT) ) (fun _ h9 => absurd h9 List.not_mem_nil) (fun v4 σ5 hOσ5 hT hqv4 => ?_)
    have hqv4 : (v4 = 0 ∨ v4 = 1) ∧ (¬ v4 = 0 → (0 : Int64).toInt ≤ (Int32.toInt64 x2).toInt ∧ (Int32.toInt64 x2).toInt ≤ (6 : Int64).toInt) := hqv4
    simp only [i64_of, Int64.reduceToInt] at hqv4
    have hB : ZB σ5.1 := ZB.tr hOσ5 (by decide) hB
    have ht : σ5.1 218 7 = σ0.1 218 7 := by rw [hOσ5.2 218 (by decide)] <;> exact ht
    refine ok_if (fun hc6 => ?_) (fun hc6 => ?_)
    · exact ok_some ⟨hT, (show ZB σ5.1 ∧ σ5.1 218 7 = σ0.1 218 7 from by exact ⟨hB, ht⟩)⟩
    · have qhc6 := hqv4.2 hc6
      refine ok_gC rfl ?_
      refine ok_zbT (Q := fun V σ => (V = 0 ∨ V = 1) ∧ (¬ V = 0 → 0 ≤ x3.toInt ∧ x3.toInt ≤ 9)) hT (s_X12_isRegister hN (hR.tr hT) (by first | exact hM | (rw [hT.2 219 (by decide)]; exact hM))) (fun _ h9 => absurd h9 List.not_mem_nil) (fun v7 σ8 hOσ8 hT hqv7 => ?_)
      have hqv7 : (v7 = 0 ∨ v7 = 1) ∧ (¬ v7 = 0 → 0 ≤ x3.toInt ∧ x3.toInt ≤ 9) := hqv7
      have hB : ZB σ8.1 := ZB.tr hOσ8 (by decide) hB
      have ht : σ8.1 218 7 = σ0.1 218 7 := by rw [hOσ8.2 218 (by decide)] <;> exact ht
      refine ok_if (fun hc9 => ?_) (fun hc9 => ?_)
      · exact ok_some ⟨hT, (show ZB σ8.1 ∧ σ8.1 218 7 = σ0.1 218 7 from by exact ⟨hB, ht⟩)⟩
      · have qhc9 := hqv7.2 hc9
        refine ok_gC rfl ?_
        have hTc := hT
        refine ok_zbT (Q := fun V σ => V = mny (σ8.1 219 0)) hT (s_X12_many hN (hR.tr hT) (by first | exact hM | (rw [hT.2 219 (by decide)]; exact hM))) (fun _ h9 => absurd h9 List.not_mem_nil) (fun v10 σ11 hOσ11 hT hqv10 => ?_)
        have hqv10 : v10 = mny (σ8.1 219 0) := hqv10
        rw [hTc.2 219 (by decide)] at hqv10
        obtain rfl : v10 = (mny (σ0.1 219 0)) := hqv10
        have hB : ZB σ11.1 := ZB.tr hOσ11 (by decide) hB
        have ht : σ11.1 218 7 = σ0.1 218 7 := by rw [hOσ11.2 218 (by decide)] <;> exact ht
        refine ok_pI hT rfl (by decide) (fun σ12 eσ12 hOσ12 hT => ?_)
        have ha : 0 ≤ (σ12.1 218 20).toInt ∧ (σ12.1 218 20).toInt ≤ 1024 := by rw [zI_atI eσ12]; exact qm
        have hB : ZB σ12.1 := ZB.tr hOσ12 (by decide) hB
        have ht : σ12.1 218 7 = σ0.1 218 7 := by first | (rw [zI_atN eσ12 (by decide)]; exact ht) | exact HQ.2.trans ht
        refine ok_gR (v := 220) hT rfl (hR 218 2 rfl) ?_
        refine ok_gC rfl ?_
        refine ok_zbT (Q := fun V σ => ZB σ.1) hT (s_X12_turns_220 hN (hR.tr hT) (hB) (ha) (by first | omega | decide | (simp only [Int32.le_iff_toInt_le, Int32.lt_iff_toInt_lt, ti_add, ti_sub, ti_mul, Int32.reduceToInt] at *; omega))) (by decide) (fun v14 σ15 hOσ15 hT hqv14 => ?_)
        have hqv14 : ZB σ15.1 := hqv14
        have hB : ZB σ15.1 := by first | exact hqv14 | exact hqv14.1 | exact ZB_s eσ15 hB
        have ht : σ15.1 218 7 = σ0.1 218 7 := by rw [hOσ15.2 218 (by decide)] <;> exact ht
        refine ok_gC rfl ?_
        refine ok_zbT (Q := fun V σ => ZB σ.1) hT (s_X12_lays hN (hR.tr hT) (by first | exact hM | (rw [hT.2 219 (by decide)]; exact hM)) (hB) (by first | omega | decide | (simp only [Int32.le_iff_toInt_le, Int32.lt_iff_toInt_lt, ti_add, ti_sub, ti_mul, Int32.reduceToInt] at *; omega))) (by decide) (fun v16 σ17 hOσ17 hT hqv16 => ?_)
        have hqv16 : ZB σ17.1 := hqv16
        have hB : ZB σ17.1 := by first | exact hqv16 | exact hqv16.1 | exact ZB_s eσ17 hB
        have ht : σ17.1 218 7 = σ0.1 218 7 := by rw [hOσ17.2 218 (by decide)] <;> exact ht
        exact ok_some ⟨hT, (show ZB σ17.1 ∧ σ17.1 218 7 = σ0.1 218 7 from by exact ⟨hB, ht⟩)⟩

set_option maxHeartbeats 4000000 in
set_option maxRecDepth 100000 in
theorem s_X12_isHits {N : Nat} (hN : 1048576 ≤ N) {x1 : Int32} {x2 : Int32} {σ0 : zS}  (hR : RF σ0.2.2) (hM : MW (σ0.1 219) 0) (hB : ZB σ0.1) (hp : 0 ≤ x1.toInt ∧ x1.toInt ≤ 9) (hq : 0 ≤ x2.toInt ∧ x2.toInt ≤ 9) : Ok (f_X12_isHits N 218 x1 x2 σ0) (fun r => Tr [218, 227, 228] σ0 r.2 ∧ ((r.1 = 0 ∨ r.1 = 1) ∧ ZB r.2.1 ∧ r.2.1 218 7 = σ0.1 218 7)) := by
  have hT : Tr [218, 227, 228] σ0 σ0 := Tr.rf
  have hn := hM.1
  have he : 0 ≤ (σ0.1 219 2).toInt ∧ (σ0.1 219 2).toInt ≤ 10 := hM.2.1
  have qm := mny_b hn.1 hn.2
  have ht : σ0.1 218 7 = σ0.1 218 7 := rfl
  rw [f_X12_isHits.eq_1]
  refine ok_gC rfl ?_
  refine ok_zbT (Q := fun V σ => V = mny (σ0.1 219 0)) hT (s_X12_many hN (hR.tr hT) (by first | exact hM | (rw [hT.2 219 (by decide)]; exact hM))) (fun _ h9 => absurd h9 List.not_mem_nil) (fun v1 σ2 hOσ2 hT hqv1 => ?_)
  have hqv1 : v1 = mny (σ0.1 219 0) := hqv1
  obtain rfl : v1 = (mny (σ0.1 219 0)) := hqv1
  have hB : ZB σ2.1 := ZB.tr hOσ2 (by decide) hB
  have ht : σ2.1 218 7 = σ0.1 218 7 := by rw [hOσ2.2 218 (by decide)] <;> exact ht
  refine ok_pI hT rfl (by decide) (fun σ3 eσ3 hOσ3 hT => ?_)
  have ha : 0 ≤ (σ3.1 218 20).toInt ∧ (σ3.1 218 20).toInt ≤ 1024 := by rw [zI_atI eσ3]; exact qm
  have hB : ZB σ3.1 := ZB.tr hOσ3 (by decide) hB
  have ht : σ3.1 218 7 = σ0.1 218 7 := by rw [zI_atN eσ3 (by decide)]; exact ht
  refine ok_gR (v := 220) hT rfl (hR 218 2 rfl) ?_
  refine ok_gC rfl ?_
  refine ok_zbT (Q := fun V σ => ZB σ.1) hT (s_X12_turns_220 hN (hR.tr hT) (hB) (ha) (by first | omega | decide | (simp only [Int32.le_iff_toInt_le, Int32.lt_iff_toInt_lt, ti_add, ti_sub, ti_mul, Int32.reduceToInt] at *; omega))) (by decide) (fun v5 σ6 hOσ6 hT hqv5 => ?_)
  have hqv5 : ZB σ6.1 := hqv5
  have hB : ZB σ6.1 := by first | exact hqv5 | exact ZB_s eσ6 hB
  have ht : σ6.1 218 7 = σ0.1 218 7 := by rw [hOσ6.2 218 (by decide)] <;> exact ht
  have ha := (show 0 ≤ (σ6.1 218 20).toInt ∧ (σ6.1 218 20).toInt ≤ 1024 by rw [hOσ6.2 218 (by decide)]; exact ha)
  refine ok_lp (fun t : Int32 × zS => Tr [218, 227, 228] σ0 (t.2) ∧ (0 ≤ (t.1).toInt ∧ 0 ≤ ((t.2).1 218 20).toInt ∧ ((t.2).1 218 20).toInt ≤ 1024) ∧ (ZB (t.2).1) ∧ ((t.2).1 218 7 = σ0.1 218 7)) (fun t : Int32 × zS => (1024 - (t.1).toInt).toNat) (fun again7 t hI ih24_7 => ?_) N _ (show Tr [218, 227, 228] σ0 σ6 ∧ (0 ≤ (0 : Int32).toInt ∧ 0 ≤ (σ6.1 218 20).toInt ∧ (σ6.1 218 20).toInt ≤ 1024) ∧ (ZB σ6.1) ∧ (σ6.1 218 7 = σ0.1 218 7) from ⟨hT, (by first | omega | decide | (simp only [Int32.le_iff_toInt_le, Int32.lt_iff_toInt_lt, ti_add, ti_sub, ti_mul, Int32.reduceToInt] at *; omega)), hB, ht⟩) (show (1024 - (0 : Int32).toInt).toNat < N from (by first | omega | decide | (simp only [Int32.le_iff_toInt_le, Int32.lt_iff_toInt_lt, ti_add, ti_sub, ti_mul, Int32.reduceToInt] at *; omega)))
  obtain ⟨x3_7, σ7⟩ := t
  have hI : Tr [218, 227, 228] σ0 σ7 ∧ (0 ≤ x3_7.toInt ∧ 0 ≤ (σ7.1 218 20).toInt ∧ (σ7.1 218 20).toInt ≤ 1024) ∧ (ZB σ7.1) ∧ (σ7.1 218 7 = σ0.1 218 7) := hI
  obtain ⟨hT, hI7, hB, ht⟩ := hI
  rw [F_X12_isHits_24.eq_1]
  refine ok_gI rfl ?_
  refine ok_if (fun hc9 => ?_) (fun hc9 => ?_)
  · exact ok_rZ (Or.inr rfl) ⟨hT, (show ((1 : Int32) = 0 ∨ (1 : Int32) = 1) ∧ ZB σ7.1 ∧ σ7.1 218 7 = σ0.1 218 7 from by first | exact ⟨Or.inl rfl, hB, ht⟩ | exact ⟨Or.inr rfl, hB, ht⟩)⟩
  · refine ok_gC rfl ?_
    refine ok_zbT (Q := fun V σ => V = 0 ∨ V = 1) hT (s_X12_of hN (hR.tr hT) (by first | exact hM | (rw [hT.2 219 (by decide)]; exact hM)) (hB) (by first | omega | decide | (simp only [Int32.le_iff_toInt_le, Int32.lt_iff_toInt_lt, ti_add, ti_sub, ti_mul, Int32.reduceToInt] at *; omega)) (by first | omega | decide | (simp only [Int32.le_iff_toInt_le, Int32.lt_iff_toInt_lt, ti_add, ti_sub, ti_mul, Int32.reduceToInt] at *; omega))) (fun _ h9 => absurd h9 List.not_mem_nil) (fun v10 σ11 hOσ11 hT hqv10 => ?_)
    have hqv10 : v10 = 0 ∨ v10 = 1 := hqv10
    have hB : ZB σ11.1 := ZB.tr hOσ11 (by decide) hB
    have ht : σ11.1 218 7 = σ0.1 218 7 := by rw [hOσ11.2 218 (by decide)] <;> exact ht
    refine ok_gR (v := 227) hT rfl (hR 218 17 rfl) ?_
    refine ok_aIn rfl (by first | omega | decide | (simp only [Int32.le_iff_toInt_le, Int32.lt_iff_toInt_lt, ti_add, ti_sub, ti_mul, Int32.reduceToInt] at *; omega)) (by first | omega | decide | (simp only [Int32.le_iff_toInt_le, Int32.lt_iff_toInt_lt, ti_add, ti_sub, ti_mul, Int32.reduceToInt] at *; omega)) (fun v13 ev13 => ?_)
    have zv13 : v13 = 0 ∨ v13 = 1 := by rw [ev13]; exact hB 227 rfl _
    refine ok_if (fun hc14 => ?_) (fun hc14 => ?_)
    · exact ih24_7 (x3_7 + 1, σ11) (show Tr [218, 227, 228] σ0 σ11 ∧ (0 ≤ (x3_7 + 1).toInt ∧ 0 ≤ (σ11.1 218 20).toInt ∧ (σ11.1 218 20).toInt ≤ 1024) ∧ (ZB σ11.1) ∧ (σ11.1 218 7 = σ0.1 218 7) from ⟨hT, (by have h9 := congrArg Int32.toInt (congrFun (hOσ11.2 218 (by decide)) 20); first | omega | (simp only [Int32.le_iff_toInt_le, Int32.lt_iff_toInt_lt, ti_add, ti_sub, ti_mul, Int32.reduceToInt] at *; omega)), hB, ht⟩) (show (1024 - (x3_7 + 1).toInt).toNat < (1024 - x3_7.toInt).toNat from (by first | omega | decide | (simp only [Int32.le_iff_toInt_le, Int32.lt_iff_toInt_lt, ti_add, ti_sub, ti_mul, Int32.reduceToInt] at *; omega)))
    · exact ok_rZ (Or.inl rfl) ⟨hT, (show ((0 : Int32) = 0 ∨ (0 : Int32) = 1) ∧ ZB σ11.1 ∧ σ11.1 218 7 = σ0.1 218 7 from by first | exact ⟨Or.inl rfl, hB, ht⟩ | exact ⟨Or.inr rfl, hB, ht⟩)⟩

set_option maxHeartbeats 4000000 in
set_option maxRecDepth 100000 in
theorem s_X12_dual {N : Nat} (hN : 1048576 ≤ N) {x1 : Int32} {x2 : Int32} {σ0 : zS}  (hR : RF σ0.2.2) (hM : MW (σ0.1 219) 0) (hB : ZB σ0.1) : Ok (f_X12_dual N 218 x1 x2 σ0) (fun r => Tr [218, 227, 228] σ0 r.2 ∧ (ZB r.2.1 ∧ r.2.1 218 7 = σ0.1 218 7)) := by
  have hT : Tr [218, 227, 228] σ0 σ0 := Tr.rf
  have hn := hM.1
  have he : 0 ≤ (σ0.1 219 2).toInt ∧ (σ0.1 219 2).toInt ≤ 10 := hM.2.1
  have qm := mny_b hn.1 hn.2
  have ht : σ0.1 218 7 = σ0.1 218 7 := rfl
  rw [f_X12_dual.eq_1]
  refine ok_gC rfl ?_
  refine ok_zbT (Q := fun V σ => (V = 0 ∨ V = 1) ∧ (¬ V = 0 → (0 ≤ x1.toInt ∧ x1.toInt ≤ 9) ∧ 0 ≤ x2.toInt ∧ x2.toInt ≤ 9)) hT (s_X12_areRegisters hN (hR.tr hT) (by first | exact hM | (rw [hT.2 219 (by decide)]; exact hM)) (hB)) (fun _ h9 => absurd h9 List.not_mem_nil) (fun v1 σ2 hOσ2 hT hqv1 => ?_)
  have hqv1 : (v1 = 0 ∨ v1 = 1) ∧ (¬ v1 = 0 → (0 ≤ x1.toInt ∧ x1.toInt ≤ 9) ∧ 0 ≤ x2.toInt ∧ x2.toInt ≤ 9) := hqv1
  have hB : ZB σ2.1 := ZB.tr hOσ2 (by decide) hB
  have ht : σ2.1 218 7 = σ0.1 218 7 := by rw [hOσ2.2 218 (by decide)] <;> exact ht
  refine ok_if (fun hc3 => ?_) (fun hc3 => ?_)
  · exact ok_some ⟨hT, (show ZB σ2.1 ∧ σ2.1 218 7 = σ0.1 218 7 from by exact ⟨hB, ht⟩)⟩
  · have qhc3 := hqv1.2 hc3
    refine ok_gC rfl ?_
    refine ok_zbT (Q := fun V σ => (V = 0 ∨ V = 1) ∧ ZB σ.1 ∧ σ.1 218 7 = σ2.1 218 7) hT (s_X12_isHits hN (hR.tr hT) (by first | exact hM | (rw [hT.2 219 (by decide)]; exact hM)) (hB) (by first | omega | decide | (simp only [Int32.le_iff_toInt_le, Int32.lt_iff_toInt_lt, ti_add, ti_sub, ti_mul, Int32.reduceToInt] at *; omega)) (by first | omega | decide | (simp only [Int32.le_iff_toInt_le, Int32.lt_iff_toInt_lt, ti_add, ti_sub, ti_mul, Int32.reduceToInt] at *; omega))) (by decide) (fun v4 σ5 hOσ5 hT hqv4 => ?_)
    have hqv4 : (v4 = 0 ∨ v4 = 1) ∧ ZB σ5.1 ∧ σ5.1 218 7 = σ2.1 218 7 := hqv4
    have hB : ZB σ5.1 := hqv4.2.1
    have ht : σ5.1 218 7 = σ0.1 218 7 := hqv4.2.2.trans ht
    refine ok_if (fun hc6 => ?_) (fun hc6 => ?_)
    · exact ok_some ⟨hT, (show ZB σ5.1 ∧ σ5.1 218 7 = σ0.1 218 7 from by exact ⟨hB, ht⟩)⟩
    · refine ok_gC rfl ?_
      refine ok_zbT (Q := fun V σ => (V = 0 ∨ V = 1) ∧ ZB σ.1 ∧ σ.1 218 7 = σ5.1 218 7) hT (s_X12_isHits hN (hR.tr hT) (by first | exact hM | (rw [hT.2 219 (by decide)]; exact hM)) (hB) (by first | omega | decide | (simp only [Int32.le_iff_toInt_le, Int32.lt_iff_toInt_lt, ti_add, ti_sub, ti_mul, Int32.reduceToInt] at *; omega)) (by first | omega | decide | (simp only [Int32.le_iff_toInt_le, Int32.lt_iff_toInt_lt, ti_add, ti_sub, ti_mul, Int32.reduceToInt] at *; omega))) (by decide) (fun v7 σ8 hOσ8 hT hqv7 => ?_)
      have hqv7 : (v7 = 0 ∨ v7 = 1) ∧ ZB σ8.1 ∧ σ8.1 218 7 = σ5.1 218 7 := hqv7
      have hB : ZB σ8.1 := hqv7.2.1
      have ht : σ8.1 218 7 = σ0.1 218 7 := hqv7.2.2.trans ht
      refine ok_if (fun hc9 => ?_) (fun hc9 => ?_)
      · exact ok_some ⟨hT, (show ZB σ8.1 ∧ σ8.1 218 7 = σ0.1 218 7 from by exact ⟨hB, ht⟩)⟩
      · exact ok_some ⟨hT, (show ZB σ8.1 ∧ σ8.1 218 7 = σ0.1 218 7 from by exact ⟨hB, ht⟩)⟩

set_option maxHeartbeats 4000000 in
set_option maxRecDepth 100000 in
theorem s_X12_cuts {N : Nat} (hN : 1048576 ≤ N) {x1 : Int32} {x2 : Int32} {x3 : Int32} {σ0 : zS}  (hR : RF σ0.2.2) (hM : MW (σ0.1 219) 0) (hB : ZB σ0.1) : Ok (f_X12_cuts N 218 x1 x2 x3 σ0) (fun r => Tr [218, 220, 227, 228, 229, 238] σ0 r.2 ∧ (ZB r.2.1 ∧ r.2.1 218 7 = σ0.1 218 7)) := by
  have hT : Tr [218, 220, 227, 228, 229, 238] σ0 σ0 := Tr.rf
  have hn := hM.1
  have he : 0 ≤ (σ0.1 219 2).toInt ∧ (σ0.1 219 2).toInt ≤ 10 := hM.2.1
  have qm := mny_b hn.1 hn.2
  have ht : σ0.1 218 7 = σ0.1 218 7 := rfl
  rw [f_X12_cuts.eq_1]
  refine ok_gC rfl ?_
  refine ok_zbT (Q := fun V σ => (V = 0 ∨ V = 1) ∧ (¬ V = 0 → 0 ≤ x1.toInt ∧ x1.toInt ≤ 9)) hT (s_X12_isRegister hN (hR.tr hT) (by first | exact hM | (rw [hT.2 219 (by decide)]; exact hM))) (fun _ h9 => absurd h9 List.not_mem_nil) (fun v1 σ2 hOσ2 hT hqv1 => ?_)
  have hqv1 : (v1 = 0 ∨ v1 = 1) ∧ (¬ v1 = 0 → 0 ≤ x1.toInt ∧ x1.toInt ≤ 9) := hqv1
  have hB : ZB σ2.1 := ZB.tr hOσ2 (by decide) hB
  have ht : σ2.1 218 7 = σ0.1 218 7 := by rw [hOσ2.2 218 (by decide)] <;> exact ht
  refine ok_if (fun hc3 => ?_) (fun hc3 => ?_)
  · exact ok_some ⟨hT, (show ZB σ2.1 ∧ σ2.1 218 7 = σ0.1 218 7 from by exact ⟨hB, ht⟩)⟩
  · have qhc3 := hqv1.2 hc3
    refine ok_gC rfl ?_
    refine ok_zbT (Q := fun V σ => (V = 0 ∨ V = 1) ∧ (¬ V = 0 → 0 ≤ x2.toInt ∧ x2.toInt ≤ 7)) hT (s_X12_isCrossing hN (hR.tr hT) (by first | exact hM | (rw [hT.2 219 (by decide)]; exact hM))) (fun _ h9 => absurd h9 List.not_mem_nil) (fun v4 σ5 hOσ5 hT hqv4 => ?_)
    have hqv4 : (v4 = 0 ∨ v4 = 1) ∧ (¬ v4 = 0 → 0 ≤ x2.toInt ∧ x2.toInt ≤ 7) := hqv4
    have hB : ZB σ5.1 := ZB.tr hOσ5 (by decide) hB
    have ht : σ5.1 218 7 = σ0.1 218 7 := by rw [hOσ5.2 218 (by decide)] <;> exact ht
    refine ok_if (fun hc6 => ?_) (fun hc6 => ?_)
    · exact ok_some ⟨hT, (show ZB σ5.1 ∧ σ5.1 218 7 = σ0.1 218 7 from by exact ⟨hB, ht⟩)⟩
    · have qhc6 := hqv4.2 hc6
      refine ok_gC rfl ?_
      refine ok_zbT (Q := fun V σ => (V = 0 ∨ V = 1) ∧ (¬ V = 0 → 0 ≤ x3.toInt ∧ x3.toInt ≤ 7)) hT (s_X12_isCrossing hN (hR.tr hT) (by first | exact hM | (rw [hT.2 219 (by decide)]; exact hM))) (fun _ h9 => absurd h9 List.not_mem_nil) (fun v7 σ8 hOσ8 hT hqv7 => ?_)
      have hqv7 : (v7 = 0 ∨ v7 = 1) ∧ (¬ v7 = 0 → 0 ≤ x3.toInt ∧ x3.toInt ≤ 7) := hqv7
      have hB : ZB σ8.1 := ZB.tr hOσ8 (by decide) hB
      have ht : σ8.1 218 7 = σ0.1 218 7 := by rw [hOσ8.2 218 (by decide)] <;> exact ht
      refine ok_if (fun hc9 => ?_) (fun hc9 => ?_)
      · exact ok_some ⟨hT, (show ZB σ8.1 ∧ σ8.1 218 7 = σ0.1 218 7 from by exact ⟨hB, ht⟩)⟩
      · have qhc9 := hqv7.2 hc9
        refine ok_gC rfl ?_
        have hTc := hT
        refine ok_zbT (Q := fun V σ => V = mny (σ8.1 219 0)) hT (s_X12_many hN (hR.tr hT) (by first | exact hM | (rw [hT.2 219 (by decide)]; exact hM))) (fun _ h9 => absurd h9 List.not_mem_nil) (fun v10 σ11 hOσ11 hT hqv10 => ?_)
        have hqv10 : v10 = mny (σ8.1 219 0) := hqv10
        rw [hTc.2 219 (by decide)] at hqv10
        obtain rfl : v10 = (mny (σ0.1 219 0)) := hqv10
        have hB : ZB σ11.1 := ZB.tr hOσ11 (by decide) hB
        have ht : σ11.1 218 7 = σ0.1 218 7 := by rw [hOσ11.2 218 (by decide)] <;> exact ht
        refine ok_pI hT rfl (by decide) (fun σ12 eσ12 hOσ12 hT => ?_)
        have ha : 0 ≤ (σ12.1 218 20).toInt ∧ (σ12.1 218 20).toInt ≤ 1024 := by rw [zI_atI eσ12]; exact qm
        have hB : ZB σ12.1 := ZB.tr hOσ12 (by decide) hB
        have ht : σ12.1 218 7 = σ0.1 218 7 := by first | (rw [zI_atN eσ12 (by decide)]; exact ht) | exact HQ.2.trans ht
        refine ok_gC rfl ?_
        refine ok_zbT (Q := fun V σ => ZB σ.1) hT (s_X12_fillWays hN (hR.tr hT) (by first | exact hM | (rw [hT.2 219 (by decide)]; exact hM)) (hB) (by first | omega | decide | (simp only [Int32.le_iff_toInt_le, Int32.lt_iff_toInt_lt, ti_add, ti_sub, ti_mul, Int32.reduceToInt] at *; omega)) (by first | omega | decide | (simp only [Int32.le_iff_toInt_le, Int32.lt_iff_toInt_lt, ti_add, ti_sub, ti_mul, Int32.reduceToInt] at *; omega))) (by decide) (fun v13 σ14 hOσ14 hT hqv13 => ?_)
        have hqv13 : ZB σ14.1 := hqv13
        have hB : ZB σ14.1 := by first | exact hqv13 | exact hqv13.1 | exact ZB_s eσ14 hB
        have ht : σ14.1 218 7 = σ0.1 218 7 := by rw [hOσ14.2 218 (by decide)] <;> exact ht
        have ha := (show 0 ≤ (σ14.1 218 20).toInt ∧ (σ14.1 218 20).toInt ≤ 1024 by rw [hOσ14.2 218 (by decide)]; exact ha)
        refine ok_lp (fun t : Int32 × zS => Tr [218, 220, 227, 228, 229, 238] σ0 (t.2) ∧ (0 ≤ (t.1).toInt ∧ 0 ≤ ((t.2).1 218 20).toInt ∧ ((t.2).1 218 20).toInt ≤ 1024) ∧ (ZB (t.2).1) ∧ ((t.2).1 218 7 = σ0.1 218 7)) (fun t : Int32 × zS => (1024 - (t.1).toInt).toNat) (fun again15 t hI ih44_15 => ?_) N _ (show Tr [218, 220, 227, 228, 229, 238] σ0 σ14 ∧ (0 ≤ (0 : Int32).toInt ∧ 0 ≤ (σ14.1 218 20).toInt ∧ (σ14.1 218 20).toInt ≤ 1024) ∧ (ZB σ14.1) ∧ (σ14.1 218 7 = σ0.1 218 7) from ⟨hT, (by first | omega | decide | (simp only [Int32.le_iff_toInt_le, Int32.lt_iff_toInt_lt, ti_add, ti_sub, ti_mul, Int32.reduceToInt] at *; omega)), hB, ht⟩) (show (1024 - (0 : Int32).toInt).toNat < N from (by first | omega | decide | (simp only [Int32.le_iff_toInt_le, Int32.lt_iff_toInt_lt, ti_add, ti_sub, ti_mul, Int32.reduceToInt] at *; omega)))
        obtain ⟨x4_15, σ15⟩ := t
        have hI : Tr [218, 220, 227, 228, 229, 238] σ0 σ15 ∧ (0 ≤ x4_15.toInt ∧ 0 ≤ (σ15.1 218 20).toInt ∧ (σ15.1 218 20).toInt ≤ 1024) ∧ (ZB σ15.1) ∧ (σ15.1 218 7 = σ0.1 218 7) := hI
        obtain ⟨hT, hI15, hB, ht⟩ := hI
        rw [F_X12_cuts_44.eq_1]
        have ha := hI15.2
        refine ok_if (fun hc16 => ?_) (fun hc16 => ?_)
        · refine ok_gR (v := 229) hT rfl (hR 218 19 rfl) ?_
          refine ok_gC rfl ?_
          refine ok_zbT (Q := fun V σ => ZB σ.1) hT (s_X12_turns_229 hN (hR.tr hT) (hB) (ha) (by first | omega | decide | (simp only [Int32.le_iff_toInt_le, Int32.lt_iff_toInt_lt, ti_add, ti_sub, ti_mul, Int32.reduceToInt] at *; omega))) (by decide) (fun v18 σ19 hOσ19 hT hqv18 => ?_)
          have hqv18 : ZB σ19.1 := hqv18
          have hB : ZB σ19.1 := by first | exact hqv18 | exact hqv18.1 | exact ZB_s eσ19 hB
          have ht : σ19.1 218 7 = σ0.1 218 7 := by rw [hOσ19.2 218 (by decide)] <;> exact ht
          refine ok_gC rfl ?_
          refine ok_zbT (Q := fun V σ => ZB σ.1) hT (s_X12_lays hN (hR.tr hT) (by first | exact hM | (rw [hT.2 219 (by decide)]; exact hM)) (hB) (by first | omega | decide | (simp only [Int32.le_iff_toInt_le, Int32.lt_iff_toInt_lt, ti_add, ti_sub, ti_mul, Int32.reduceToInt] at *; omega))) (by decide) (fun v20 σ21 hOσ21 hT hqv20 => ?_)
          have hqv20 : ZB σ21.1 := hqv20
          have hB : ZB σ21.1 := by first | exact hqv20 | exact hqv20.1 | exact ZB_s eσ21 hB
          have ht : σ21.1 218 7 = σ0.1 218 7 := by rw [hOσ21.2 218 (by decide)] <;> exact ht
          exact ok_some ⟨hT, (show ZB σ21.1 ∧ σ21.1 218 7 = σ0.1 218 7 from by exact ⟨hB, ht⟩)⟩
        · refine ok_gR (v := 229) hT rfl (hR 218 19 rfl) ?_
          refine ok_gR (v := 227) hT rfl (hR 218 17 rfl) ?_
          refine ok_aIn rfl (by first | omega | decide | (simp only [Int32.le_iff_toInt_le, Int32.lt_iff_toInt_lt, ti_add, ti_sub, ti_mul, Int32.reduceToInt] at *; omega)) (by first | omega | decide | (simp only [Int32.le_iff_toInt_le, Int32.lt_iff_toInt_lt, ti_add, ti_sub, ti_mul, Int32.reduceToInt] at *; omega)) (fun v24 ev24 => ?_)
          have zv24 : v24 = 0 ∨ v24 = 1 := by rw [ev24]; exact hB 227 rfl _
          refine ok_s16 hT rfl (by decide) (by first | omega | decide | (simp only [Int32.le_iff_toInt_le, Int32.lt_iff_toInt_lt, ti_add, ti_sub, ti_mul, Int32.reduceToInt] at *; omega)) (by first | omega | decide | (simp only [Int32.le_iff_toInt_le, Int32.lt_iff_toInt_lt, ti_add, ti_sub, ti_mul, Int32.reduceToInt] at *; omega)) (fun σ25 eσ25 hOσ25 hT => ?_)
          have hB : ZB σ25.1 := by first | exact HQ | exact HQ.1 | exact ZB_s eσ25 hB
          have ht : σ25.1 218 7 = σ0.1 218 7 := by rw [hOσ25.2 218 (by decide)] <;> exact ht
          exact ih44_15 (x4_15 + 1, σ25) (show Tr [218, 220, 227, 228, 229, 238] σ0 σ25 ∧ (0 ≤ (x4_15 + 1).toInt ∧ 0 ≤ (σ25.1 218 20).toInt ∧ (σ25.1 218 20).toInt ≤ 1024) ∧ (ZB σ25.1) ∧ (σ25.1 218 7 = σ0.1 218 7) from ⟨hT, (by have h9 := congrArg Int32.toInt (congrFun (hOσ25.2 218 (by decide)) 20); first | omega | (simp only [Int32.le_iff_toInt_le, Int32.lt_iff_toInt_lt, ti_add, ti_sub, ti_mul, Int32.reduceToInt] at *; omega)), hB, ht⟩) (show (1024 - (x4_15 + 1).toInt).toNat < (1024 - x4_15.toInt).toNat from (by first | omega | decide | (simp only [Int32.le_iff_toInt_le, Int32.lt_iff_toInt_lt, ti_add, ti_sub, ti_mul, Int32.reduceToInt] at *; omega)))

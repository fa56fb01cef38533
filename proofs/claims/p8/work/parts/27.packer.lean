set_option maxHeartbeats 4000000 in
set_option maxRecDepth 100000 in
theorem s_X4_load {N : Nat} (hN : 1048576 ≤ N) {x1 : Nat} {σ0 : zS}  (hR : RF σ0.2.2) (h_x1 : (zKd x1).1 = 2) : Ok (f_X4_load N 126 x1 σ0) (fun r => Tr [126, 127] σ0 r.2 ∧ (True)) := by
  have hT : Tr [126, 127] σ0 σ0 := Tr.rf
  rw [f_X4_load.eq_1]
  refine ok_pI hT rfl (by decide) (fun σ1 eσ1 hOσ1 hT => ?_)
  refine ok_pI hT rfl (by decide) (fun σ2 eσ2 hOσ2 hT => ?_)
  refine ok_gC h_x1 ?_
  refine ok_zbT (Q := fun V σ => -1 ≤ V.toInt ∧ V.toInt ≤ 1023) hT (s_X2_firstFrom hN (hR.tr hT) h_x1) (fun _ h9 => absurd h9 List.not_mem_nil) (fun v3 σ4 hOσ4 hT hqv3 => ?_)
  have hqv3 : -1 ≤ v3.toInt ∧ v3.toInt ≤ 1023 := hqv3
  refine ok_lp (fun t : Int32 × Int32 × zS => Tr [126, 127] σ0 (t.2.2) ∧ (0 ≤ (t.2.1).toInt)) (fun t : Int32 × Int32 × zS => (12 - (t.2.1).toInt).toNat) (fun again5 t hI ih18_5 => ?_) N _ (show Tr [126, 127] σ0 σ4 ∧ (0 ≤ (0 : Int32).toInt) from ⟨hT, (by first | omega | decide | (simp only [Int32.le_iff_toInt_le, Int32.lt_iff_toInt_lt, ti_add, ti_sub, ti_mul, Int32.reduceToInt] at *; omega))⟩) (show (12 - (0 : Int32).toInt).toNat < N from (by first | omega | decide | (simp only [Int32.le_iff_toInt_le, Int32.lt_iff_toInt_lt, ti_add, ti_sub, ti_mul, Int32.reduceToInt] at *; omega)))
  obtain ⟨x2_5, x3_5, σ5⟩ := t
  have hI : Tr [126, 127] σ0 σ5 ∧ (0 ≤ x3_5.toInt) := hI
  obtain ⟨hT, hI5⟩ := hI
  rw [F_X4_load_18.eq_1]
  refine ok_if (fun hc6 => ?_) (fun hc6 => ?_)
  · exact ok_some ⟨hT, trivial⟩
  · refine ok_if (fun hc7 => ?_) (fun hc7 => ?_)
    · exact ok_some ⟨hT, trivial⟩
    · refine ok_gR (v := 127) hT rfl (hR 126 0 rfl) ?_
      refine ok_s14 hT rfl (by decide) (by first | omega | decide | (simp only [Int32.le_iff_toInt_le, Int32.lt_iff_toInt_lt, ti_add, ti_sub, ti_mul, Int32.reduceToInt] at *; omega)) (by first | omega | decide | (simp only [Int32.le_iff_toInt_le, Int32.lt_iff_toInt_lt, ti_add, ti_sub, ti_mul, Int32.reduceToInt] at *; omega)) (fun σ9 eσ9 hOσ9 hT => ?_)
      refine ok_gI rfl ?_
      refine ok_pI hT rfl (by decide) (fun σ11 eσ11 hOσ11 hT => ?_)
      refine ok_gI rfl ?_
      refine ok_pI hT rfl (by decide) (fun σ13 eσ13 hOσ13 hT => ?_)
      refine ok_gC h_x1 ?_
      refine ok_zbT (Q := fun V σ => -1 ≤ V.toInt ∧ V.toInt ≤ 1023) hT (s_X2_firstFrom hN (hR.tr hT) h_x1) (fun _ h9 => absurd h9 List.not_mem_nil) (fun v14 σ15 hOσ15 hT hqv14 => ?_)
      have hqv14 : -1 ≤ v14.toInt ∧ v14.toInt ≤ 1023 := hqv14
      exact ih18_5 (v14, x3_5 + 1, σ15) (show Tr [126, 127] σ0 σ15 ∧ (0 ≤ (x3_5 + 1).toInt) from ⟨hT, (by first | omega | decide | (simp only [Int32.le_iff_toInt_le, Int32.lt_iff_toInt_lt, ti_add, ti_sub, ti_mul, Int32.reduceToInt] at *; omega))⟩) (show (12 - (x3_5 + 1).toInt).toNat < (12 - x3_5.toInt).toNat from (by first | omega | decide | (simp only [Int32.le_iff_toInt_le, Int32.lt_iff_toInt_lt, ti_add, ti_sub, ti_mul, Int32.reduceToInt] at *; omega)))

set_option maxHeartbeats 4000000 in
set_option maxRecDepth 100000 in
theorem sg_X4_fewestFrom_127 {N : Nat} (hN : 1048576 ≤ N) : ∀ dd : Nat, (∀ (x1 : Int32) (x2 : Int32) (x3 : Int32) (x4 : Int32) (σ0 : zS), RF σ0.2.2 → 0 ≤ x3.toInt → (13 - x3.toInt).toNat < dd → Ok (f_X4_fewestFrom N dd 127 x1 x2 x3 x4 σ0) (fun r => Tr [] σ0 r.2 ∧ (True))) := by
  intro dd
  induction dd with
  | zero => exact fun _ _ _ _ _ _ _ h => absurd h (Nat.not_lt_zero _)
  | succ dd ih =>
    have ih0 := ih
    intro x1 x2 x3 x4 σ0 hR h3 hm
    show Ok (B_X4_fewestFrom N (f_X4_fewestFrom N dd) 127 x1 x2 x3 x4 σ0) _
    have hT : Tr [] σ0 σ0 := Tr.rf
    rw [B_X4_fewestFrom.eq_1]
    refine ok_if (fun hc1 => ?_) (fun hc1 => ?_)
    · exact ok_some ⟨hT, trivial⟩
    · refine ok_if (fun hc2 => ?_) (fun hc2 => ?_)
      · exact ok_some ⟨hT, trivial⟩
      · refine ok_if (fun hc3 => ?_) (fun hc3 => ?_)
        · exact ok_some ⟨hT, trivial⟩
        · refine ok_aL (n := 12) rfl ?_
          rw [show Int32.ofNat 12 = 12 from rfl]
          refine ok_if (fun hc5 => ?_) (fun hc5 => ?_)
          · refine ok_zbT (Q := fun V σ => True) hT (ih0 _ _ _ _ _ (hR.tr hT) (by first | omega | decide | (simp only [Int32.le_iff_toInt_le, Int32.lt_iff_toInt_lt, ti_add, ti_sub, ti_mul, Int32.reduceToInt] at *; omega)) (by first | omega | decide | (simp only [Int32.le_iff_toInt_le, Int32.lt_iff_toInt_lt, ti_add, ti_sub, ti_mul, Int32.reduceToInt] at *; omega))) (fun _ h9 => absurd h9 List.not_mem_nil) (fun v6 σ7 hOσ7 hT hqv6 => ?_)
            refine ok_aIn rfl (by first | omega | decide | (simp only [Int32.le_iff_toInt_le, Int32.lt_iff_toInt_lt, ti_add, ti_sub, ti_mul, Int32.reduceToInt] at *; omega)) (by first | omega | decide | (simp only [Int32.le_iff_toInt_le, Int32.lt_iff_toInt_lt, ti_add, ti_sub, ti_mul, Int32.reduceToInt] at *; omega)) (fun v8 ev8 => ?_)
            refine ok_zbT (Q := fun V σ => True) hT (ih0 _ _ _ _ _ (hR.tr hT) (by first | omega | decide | (simp only [Int32.le_iff_toInt_le, Int32.lt_iff_toInt_lt, ti_add, ti_sub, ti_mul, Int32.reduceToInt] at *; omega)) (by first | omega | decide | (simp only [Int32.le_iff_toInt_le, Int32.lt_iff_toInt_lt, ti_add, ti_sub, ti_mul, Int32.reduceToInt] at *; omega))) (fun _ h9 => absurd h9 List.not_mem_nil) (fun v9 σ10 hOσ10 hT hqv9 => ?_)
            exact ok_some ⟨hT, trivial⟩
          · exact ok_some ⟨hT, trivial⟩
theorem s_X4_fewestFrom_127 {N : Nat} (hN : 1048576 ≤ N) {x1 : Int32} {x2 : Int32} {x3 : Int32} {x4 : Int32} {σ0 : zS} (hR : RF σ0.2.2) (h3 : 0 ≤ x3.toInt) (hm : (13 - x3.toInt).toNat < 14) : Ok (f_X4_fewestFrom N 14 127 x1 x2 x3 x4 σ0) (fun r => Tr [] σ0 r.2 ∧ (True)) := (sg_X4_fewestFrom_127 hN 14) _ _ _ _ _ hR h3 hm

set_option maxHeartbeats 4000000 in
set_option maxRecDepth 100000 in
theorem sg_X4_mostFrom_127 {N : Nat} (hN : 1048576 ≤ N) : ∀ dd : Nat, (∀ (x1 : Int32) (x2 : Int32) (x3 : Int32) (σ0 : zS), RF σ0.2.2 → 0 ≤ x2.toInt → (13 - x2.toInt).toNat < dd → Ok (f_X4_mostFrom N dd 127 x1 x2 x3 σ0) (fun r => Tr [] σ0 r.2 ∧ (True))) := by
  intro dd
  induction dd with
  | zero => exact fun _ _ _ _ _ _ h => absurd h (Nat.not_lt_zero _)
  | succ dd ih =>
    have ih0 := ih
    intro x1 x2 x3 σ0 hR h3 hm
    show Ok (B_X4_mostFrom N (f_X4_mostFrom N dd) 127 x1 x2 x3 σ0) _
    have hT : Tr [] σ0 σ0 := Tr.rf
    rw [B_X4_mostFrom.eq_1]
    refine ok_if (fun hc1 => ?_) (fun hc1 => ?_)
    · exact ok_some ⟨hT, trivial⟩
    · refine ok_if (fun hc2 => ?_) (fun hc2 => ?_)
      · exact ok_some ⟨hT, trivial⟩
      · refine ok_aL (n := 12) rfl ?_
        rw [show Int32.ofNat 12 = 12 from rfl]
        refine ok_if (fun hc4 => ?_) (fun hc4 => ?_)
        · refine ok_zbT (Q := fun V σ => True) hT (ih0 _ _ _ _ (hR.tr hT) (by first | omega | decide | (simp only [Int32.le_iff_toInt_le, Int32.lt_iff_toInt_lt, ti_add, ti_sub, ti_mul, Int32.reduceToInt] at *; omega)) (by first | omega | decide | (simp only [Int32.le_iff_toInt_le, Int32.lt_iff_toInt_lt, ti_add, ti_sub, ti_mul, Int32.reduceToInt] at *; omega))) (fun _ h9 => absurd h9 List.not_mem_nil) (fun v5 σ6 hOσ6 hT hqv5 => ?_)
          refine ok_aIn rfl (by first | omega | decide | (simp only [Int32.le_iff_toInt_le, Int32.lt_iff_toInt_lt, ti_add, ti_sub, ti_mul, Int32.reduceToInt] at *; omega)) (by first | omega | decide | (simp only [Int32.le_iff_toInt_le, Int32.lt_iff_toInt_lt, ti_add, ti_sub, ti_mul, Int32.reduceToInt] at *; omega)) (fun v7 ev7 => ?_)
          refine ok_if (fun hc8 => ?_) (fun hc8 => ?_)
          · refine ok_aIn rfl (by first | omega | decide | (simp only [Int32.le_iff_toInt_le, Int32.lt_iff_toInt_lt, ti_add, ti_sub, ti_mul, Int32.reduceToInt] at *; omega)) (by first | omega | decide | (simp only [Int32.le_iff_toInt_le, Int32.lt_iff_toInt_lt, ti_add, ti_sub, ti_mul, Int32.reduceToInt] at *; omega)) (fun v9 ev9 => ?_)
            refine ok_zbT (Q := fun V σ => True) hT (ih0 _ _ _ _ (hR.tr hT) (by first | omega | decide | (simp only [Int32.le_iff_toInt_le, Int32.lt_iff_toInt_lt, ti_add, ti_sub, ti_mul, Int32.reduceToInt] at *; omega)) (by first | omega | decide | (simp only [Int32.le_iff_toInt_le, Int32.lt_iff_toInt_lt, ti_add, ti_sub, ti_mul, Int32.reduceToInt] at *; omega))) (fun _ h9 => absurd h9 List.not_mem_nil) (fun v10 σ11 hOσ11 hT hqv10 => ?_)
            exact ok_some ⟨hT, trivial⟩
          · exact ok_some ⟨hT, trivial⟩
        · exact ok_some ⟨hT, trivial⟩
theorem s_X4_mostFrom_127 {N : Nat} (hN : 1048576 ≤ N) {x1 : Int32} {x2 : Int32} {x3 : Int32} {σ0 : zS} (hR : RF σ0.2.2) (h3 : 0 ≤ x2.toInt) (hm : (13 - x2.toInt).toNat < 14) : Ok (f_X4_mostFrom N 14 127 x1 x2 x3 σ0) (fun r => Tr [] σ0 r.2 ∧ (True)) := (sg_X4_mostFrom_127 hN 14) _ _ _ _ hR h3 hm

set_option maxHeartbeats 4000000 in
set_option maxRecDepth 100000 in
theorem s_X4_fewestForAll {N : Nat} (hN : 1048576 ≤ N)  {σ0 : zS}  (hR : RF σ0.2.2)  : Ok (f_X4_fewestForAll N 126 σ0) (fun r => Tr [] σ0 r.2 ∧ (True)) := by
  have hT : Tr [] σ0 σ0 := Tr.rf
  rw [f_X4_fewestForAll.eq_1]
  refine ok_gR (v := 127) hT rfl (hR 126 0 rfl) ?_
  refine ok_gI0 hT rfl (by decide) ?_
  refine ok_gI0 hT rfl (by decide) ?_
  refine ok_zbT (Q := fun V σ => True) hT (s_X4_fewestFrom_127 hN (hR.tr hT) (by first | omega | decide | (simp only [Int32.le_iff_toInt_le, Int32.lt_iff_toInt_lt, ti_add, ti_sub, ti_mul, Int32.reduceToInt] at *; omega)) (by first | omega | decide | (simp only [Int32.le_iff_toInt_le, Int32.lt_iff_toInt_lt, ti_add, ti_sub, ti_mul, Int32.reduceToInt] at *; omega))) (fun _ h9 => absurd h9 List.not_mem_nil) (fun v4 σ5 hOσ5 hT hqv4 => ?_)
  exact ok_some ⟨hT, trivial⟩

set_option maxHeartbeats 4000000 in
set_option maxRecDepth 100000 in
theorem s_X4_mostDisjoint {N : Nat} (hN : 1048576 ≤ N)  {σ0 : zS}  (hR : RF σ0.2.2)  : Ok (f_X4_mostDisjoint N 126 σ0) (fun r => Tr [] σ0 r.2 ∧ (True)) := by
  have hT : Tr [] σ0 σ0 := Tr.rf
  rw [f_X4_mostDisjoint.eq_1]
  refine ok_gR (v := 127) hT rfl (hR 126 0 rfl) ?_
  refine ok_gI0 hT rfl (by decide) ?_
  refine ok_zbT (Q := fun V σ => True) hT (s_X4_mostFrom_127 hN (hR.tr hT) (by first | omega | decide | (simp only [Int32.le_iff_toInt_le, Int32.lt_iff_toInt_lt, ti_add, ti_sub, ti_mul, Int32.reduceToInt] at *; omega)) (by first | omega | decide | (simp only [Int32.le_iff_toInt_le, Int32.lt_iff_toInt_lt, ti_add, ti_sub, ti_mul, Int32.reduceToInt] at *; omega))) (fun _ h9 => absurd h9 List.not_mem_nil) (fun v3 σ4 hOσ4 hT hqv3 => ?_)
  exact ok_some ⟨hT, trivial⟩

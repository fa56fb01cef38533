set_option maxHeartbeats 4000000 in
set_option maxRecDepth 100000 in
theorem s_X11_keep_n2_0z {N : Nat} (hN : 1048576 ≤ N)  {σ0 : zS}  (hR : RF σ0.2.2) (hNw : σ0.2.2 0 4 = 2) (hPw : σ0.2.2 0 5 = 28) (hC : CF σ0.1) (hB : ZB σ0.1) : Ok (f_X11_keep N 0 0 σ0) (fun r => Tr [55, 132, 133, 134, 135, 136] σ0 r.2 ∧ (CF r.2.1 ∧ ZB r.2.1 ∧ r.1 = 0)) := by
  have hT : Tr [55, 132, 133, 134, 135, 136] σ0 σ0 := Tr.rf
  obtain ⟨hW2, hW28, hW132, hW158, hW184, hL, hD, hu, ht⟩ := hC
  have hn := hW2.1
  have he := hW2.2.1
  have hD0 := hD
  have hL0 := hL
  have q10 := ti_one10 (x := σ0.1 2 0) hn.1 hn.2
  rw [f_X11_keep.eq_1]
  refine ok_if (fun hc1 => ?_) (fun hc1 => ?_)
  · exact absurd hc1 (by decide)
  · refine ok_if (fun hc2 => ?_) (fun hc2 => ?_)
    · refine ok_gR (v := 54) hT rfl (hR 0 6 rfl) ?_
      refine ok_aR (v := 132) hT rfl (by first | omega | decide | (have q1 := hD.1; have q2 := hD.2.1; simp only [Int32.le_iff_toInt_le, Int32.lt_iff_toInt_lt, ti_add, ti_sub, ti_mul, Int32.reduceToInt] at *; omega)) (by first | omega | decide | (have q1 := hD.1; have q2 := hD.2.1; simp only [Int32.le_iff_toInt_le, Int32.lt_iff_toInt_lt, ti_add, ti_sub, ti_mul, Int32.reduceToInt] at *; omega)) (hR 54 0 rfl) ?_
      refine ok_gR (v := 2) hT rfl hNw ?_
      refine ok_gC rfl ?_
      refine ok_zbT (Q := fun V σ => WI 132 σ.1) hT (s_X10_copyFrom_132_2 hN (hR.tr hT) (hW132) (hW2)) (by decide) (fun v6 σ7 hOσ7 hT hqv6 => ?_)
      have hqv6 : WI 132 σ7.1 := hqv6
      have hW2 : WI 2 σ7.1 := WI.tr hOσ7 (by decide) (by decide) (by decide) hW2
      have hW28 : WI 28 σ7.1 := WI.tr hOσ7 (by decide) (by decide) (by decide) hW28
      have hW132 : WI 132 σ7.1 := hqv6
      have hW158 : WI 158 σ7.1 := WI.tr hOσ7 (by decide) (by decide) (by decide) hW158
      have hW184 : WI 184 σ7.1 := WI.tr hOσ7 (by decide) (by decide) (by decide) hW184
      have hL : SI σ7.1 := SI.tr hOσ7 (by decide) (by decide) (by decide) (by decide) hL
      have hD : RD σ7.1 := RD.tr hOσ7 (by decide) (by decide) (by decide) (by decide) hD
      have hu : 2 ≤ (σ7.1 111 8).toInt ∧ (σ7.1 111 8).toInt ≤ 1600 := by rw [hOσ7.2 111 (by decide)] <;> exact hu
      have ht : 0 ≤ (σ7.1 0 1).toInt ∧ (σ7.1 0 1).toInt ≤ 600 := by rw [hOσ7.2 0 (by decide)] <;> exact ht
      have hB : ZB σ7.1 := ZB.tr hOσ7 (by decide) hB
      refine ok_gR (v := 55) hT rfl (hR 0 7 rfl) ?_
      refine ok_s16 hT rfl (by decide) (by first | omega | decide | (have q1 := hD.1; have q2 := hD.2.1; simp only [Int32.le_iff_toInt_le, Int32.lt_iff_toInt_lt, ti_add, ti_sub, ti_mul, Int32.reduceToInt] at *; omega)) (by first | omega | decide | (have q1 := hD.1; have q2 := hD.2.1; simp only [Int32.le_iff_toInt_le, Int32.lt_iff_toInt_lt, ti_add, ti_sub, ti_mul, Int32.reduceToInt] at *; omega)) (fun σ9 eσ9 hOσ9 hT => ?_)
      have hW2 : WI 2 σ9.1 := WI.tr hOσ9 (by decide) (by decide) (by decide) hW2
      have hW28 : WI 28 σ9.1 := WI.tr hOσ9 (by decide) (by decide) (by decide) hW28
      have hW132 : WI 132 σ9.1 := WI.tr hOσ9 (by decide) (by decide) (by decide) hW132
      have hW158 : WI 158 σ9.1 := WI.tr hOσ9 (by decide) (by decide) (by decide) hW158
      have hW184 : WI 184 σ9.1 := WI.tr hOσ9 (by decide) (by decide) (by decide) hW184
      have hL : SI σ9.1 := SI.tr hOσ9 (by decide) (by decide) (by decide) (by decide) hL
      have hD : RD σ9.1 := RD.tr hOσ9 (by decide) (by decide) (by decide) (by decide) hD
      have hu : 2 ≤ (σ9.1 111 8).toInt ∧ (σ9.1 111 8).toInt ≤ 1600 := by rw [hOσ9.2 111 (by decide)] <;> exact hu
      have ht : 0 ≤ (σ9.1 0 1).toInt ∧ (σ9.1 0 1).toInt ≤ 600 := by rw [hOσ9.2 0 (by decide)] <;> exact ht
      have hB : ZB σ9.1 := ZB_s eσ9 hB
      exact ok_some ⟨hT, (show CF σ9.1 ∧ ZB σ9.1 ∧ (0 : Int32) = 0 from by exact ⟨⟨hW2, hW28, hW132, hW158, hW184, hL, hD, hu, ht⟩, hB, rfl⟩)⟩
    · exact absurd hc2 (by decide)

set_option maxHeartbeats 4000000 in
set_option maxRecDepth 100000 in
theorem s_X11_keep_n2_1z {N : Nat} (hN : 1048576 ≤ N)  {σ0 : zS}  (hR : RF σ0.2.2) (hNw : σ0.2.2 0 4 = 2) (hPw : σ0.2.2 0 5 = 28) (hC : CF σ0.1) (hB : ZB σ0.1) : Ok (f_X11_keep N 0 1 σ0) (fun r => Tr [55, 158, 159, 160, 161, 162] σ0 r.2 ∧ (CF r.2.1 ∧ ZB r.2.1 ∧ r.1 = 0)) := by
  have hT : Tr [55, 158, 159, 160, 161, 162] σ0 σ0 := Tr.rf
  obtain ⟨hW2, hW28, hW132, hW158, hW184, hL, hD, hu, ht⟩ := hC
  have hn := hW2.1
  have he := hW2.2.1
  have hD0 := hD
  have hL0 := hL
  have q10 := ti_one10 (x := σ0.1 2 0) hn.1 hn.2
  rw [f_X11_keep.eq_1]
  refine ok_if (fun hc1 => ?_) (fun hc1 => ?_)
  · exact absurd hc1 (by decide)
  · refine ok_if (fun hc2 => ?_) (fun hc2 => ?_)
    · refine ok_gR (v := 54) hT rfl (hR 0 6 rfl) ?_
      refine ok_aR (v := 158) hT rfl (by first | omega | decide | (have q1 := hD.1; have q2 := hD.2.1; simp only [Int32.le_iff_toInt_le, Int32.lt_iff_toInt_lt, ti_add, ti_sub, ti_mul, Int32.reduceToInt] at *; omega)) (by first | omega | decide | (have q1 := hD.1; have q2 := hD.2.1; simp only [Int32.le_iff_toInt_le, Int32.lt_iff_toInt_lt, ti_add, ti_sub, ti_mul, Int32.reduceToInt] at *; omega)) (hR 54 1 rfl) ?_
      refine ok_gR (v := 2) hT rfl hNw ?_
      refine ok_gC rfl ?_
      refine ok_zbT (Q := fun V σ => WI 158 σ.1) hT (s_X10_copyFrom_158_2 hN (hR.tr hT) (hW158) (hW2)) (by decide) (fun v6 σ7 hOσ7 hT hqv6 => ?_)
      have hqv6 : WI 158 σ7.1 := hqv6
      have hW2 : WI 2 σ7.1 := WI.tr hOσ7 (by decide) (by decide) (by decide) hW2
      have hW28 : WI 28 σ7.1 := WI.tr hOσ7 (by decide) (by decide) (by decide) hW28
      have hW132 : WI 132 σ7.1 := WI.tr hOσ7 (by decide) (by decide) (by decide) hW132
      have hW158 : WI 158 σ7.1 := hqv6
      have hW184 : WI 184 σ7.1 := WI.tr hOσ7 (by decide) (by decide) (by decide) hW184
      have hL : SI σ7.1 := SI.tr hOσ7 (by decide) (by decide) (by decide) (by decide) hL
      have hD : RD σ7.1 := RD.tr hOσ7 (by decide) (by decide) (by decide) (by decide) hD
      have hu : 2 ≤ (σ7.1 111 8).toInt ∧ (σ7.1 111 8).toInt ≤ 1600 := by rw [hOσ7.2 111 (by decide)] <;> exact hu
      have ht : 0 ≤ (σ7.1 0 1).toInt ∧ (σ7.1 0 1).toInt ≤ 600 := by rw [hOσ7.2 0 (by decide)] <;> exact ht
      have hB : ZB σ7.1 := ZB.tr hOσ7 (by decide) hB
      refine ok_gR (v := 55) hT rfl (hR 0 7 rfl) ?_
      refine ok_s16 hT rfl (by decide) (by first | omega | decide | (have q1 := hD.1; have q2 := hD.2.1; simp only [Int32.le_iff_toInt_le, Int32.lt_iff_toInt_lt, ti_add, ti_sub, ti_mul, Int32.reduceToInt] at *; omega)) (by first | omega | decide | (have q1 := hD.1; have q2 := hD.2.1; simp only [Int32.le_iff_toInt_le, Int32.lt_iff_toInt_lt, ti_add, ti_sub, ti_mul, Int32.reduceToInt] at *; omega)) (fun σ9 eσ9 hOσ9 hT => ?_)
      have hW2 : WI 2 σ9.1 := WI.tr hOσ9 (by decide) (by decide) (by decide) hW2
      have hW28 : WI 28 σ9.1 := WI.tr hOσ9 (by decide) (by decide) (by decide) hW28
      have hW132 : WI 132 σ9.1 := WI.tr hOσ9 (by decide) (by decide) (by decide) hW132
      have hW158 : WI 158 σ9.1 := WI.tr hOσ9 (by decide) (by decide) (by decide) hW158
      have hW184 : WI 184 σ9.1 := WI.tr hOσ9 (by decide) (by decide) (by decide) hW184
      have hL : SI σ9.1 := SI.tr hOσ9 (by decide) (by decide) (by decide) (by decide) hL
      have hD : RD σ9.1 := RD.tr hOσ9 (by decide) (by decide) (by decide) (by decide) hD
      have hu : 2 ≤ (σ9.1 111 8).toInt ∧ (σ9.1 111 8).toInt ≤ 1600 := by rw [hOσ9.2 111 (by decide)] <;> exact hu
      have ht : 0 ≤ (σ9.1 0 1).toInt ∧ (σ9.1 0 1).toInt ≤ 600 := by rw [hOσ9.2 0 (by decide)] <;> exact ht
      have hB : ZB σ9.1 := ZB_s eσ9 hB
      exact ok_some ⟨hT, (show CF σ9.1 ∧ ZB σ9.1 ∧ (0 : Int32) = 0 from by exact ⟨⟨hW2, hW28, hW132, hW158, hW184, hL, hD, hu, ht⟩, hB, rfl⟩)⟩
    · exact absurd hc2 (by decide)

set_option maxHeartbeats 4000000 in
set_option maxRecDepth 100000 in
theorem s_X11_keep_n2_2z {N : Nat} (hN : 1048576 ≤ N)  {σ0 : zS}  (hR : RF σ0.2.2) (hNw : σ0.2.2 0 4 = 2) (hPw : σ0.2.2 0 5 = 28) (hC : CF σ0.1) (hB : ZB σ0.1) : Ok (f_X11_keep N 0 2 σ0) (fun r => Tr [55, 184, 185, 186, 187, 188] σ0 r.2 ∧ (CF r.2.1 ∧ ZB r.2.1 ∧ r.1 = 0)) := by
  have hT : Tr [55, 184, 185, 186, 187, 188] σ0 σ0 := Tr.rf
  obtain ⟨hW2, hW28, hW132, hW158, hW184, hL, hD, hu, ht⟩ := hC
  have hn := hW2.1
  have he := hW2.2.1
  have hD0 := hD
  have hL0 := hL
  have q10 := ti_one10 (x := σ0.1 2 0) hn.1 hn.2
  rw [f_X11_keep.eq_1]
  refine ok_if (fun hc1 => ?_) (fun hc1 => ?_)
  · exact absurd hc1 (by decide)
  · refine ok_if (fun hc2 => ?_) (fun hc2 => ?_)
    · refine ok_gR (v := 54) hT rfl (hR 0 6 rfl) ?_
      refine ok_aR (v := 184) hT rfl (by first | omega | decide | (have q1 := hD.1; have q2 := hD.2.1; simp only [Int32.le_iff_toInt_le, Int32.lt_iff_toInt_lt, ti_add, ti_sub, ti_mul, Int32.reduceToInt] at *; omega)) (by first | omega | decide | (have q1 := hD.1; have q2 := hD.2.1; simp only [Int32.le_iff_toInt_le, Int32.lt_iff_toInt_lt, ti_add, ti_sub, ti_mul, Int32.reduceToInt] at *; omega)) (hR 54 2 rfl) ?_
      refine ok_gR (v := 2) hT rfl hNw ?_
      refine ok_gC rfl ?_
      refine ok_zbT (Q := fun V σ => WI 184 σ.1) hT (s_X10_copyFrom_184_2 hN (hR.tr hT) (hW184) (hW2)) (by decide) (fun v6 σ7 hOσ7 hT hqv6 => ?_)
      have hqv6 : WI 184 σ7.1 := hqv6
      have hW2 : WI 2 σ7.1 := WI.tr hOσ7 (by decide) (by decide) (by decide) hW2
      have hW28 : WI 28 σ7.1 := WI.tr hOσ7 (by decide) (by decide) (by decide) hW28
      have hW132 : WI 132 σ7.1 := WI.tr hOσ7 (by decide) (by decide) (by decide) hW132
      have hW158 : WI 158 σ7.1 := WI.tr hOσ7 (by decide) (by decide) (by decide) hW158
      have hW184 : WI 184 σ7.1 := hqv6
      have hL : SI σ7.1 := SI.tr hOσ7 (by decide) (by decide) (by decide) (by decide) hL
      have hD : RD σ7.1 := RD.tr hOσ7 (by decide) (by decide) (by decide) (by decide) hD
      have hu : 2 ≤ (σ7.1 111 8).toInt ∧ (σ7.1 111 8).toInt ≤ 1600 := by rw [hOσ7.2 111 (by decide)] <;> exact hu
      have ht : 0 ≤ (σ7.1 0 1).toInt ∧ (σ7.1 0 1).toInt ≤ 600 := by rw [hOσ7.2 0 (by decide)] <;> exact ht
      have hB : ZB σ7.1 := ZB.tr hOσ7 (by decide) hB
      refine ok_gR (v := 55) hT rfl (hR 0 7 rfl) ?_
      refine ok_s16 hT rfl (by decide) (by first | omega | decide | (have q1 := hD.1; have q2 := hD.2.1; simp only [Int32.le_iff_toInt_le, Int32.lt_iff_toInt_lt, ti_add, ti_sub, ti_mul, Int32.reduceToInt] at *; omega)) (by first | omega | decide | (have q1 := hD.1; have q2 := hD.2.1; simp only [Int32.le_iff_toInt_le, Int32.lt_iff_toInt_lt, ti_add, ti_sub, ti_mul, Int32.reduceToInt] at *; omega)) (fun σ9 eσ9 hOσ9 hT => ?_)
      have hW2 : WI 2 σ9.1 := WI.tr hOσ9 (by decide) (by decide) (by decide) hW2
      have hW28 : WI 28 σ9.1 := WI.tr hOσ9 (by decide) (by decide) (by decide) hW28
      have hW132 : WI 132 σ9.1 := WI.tr hOσ9 (by decide) (by decide) (by decide) hW132
      have hW158 : WI 158 σ9.1 := WI.tr hOσ9 (by decide) (by decide) (by decide) hW158
      have hW184 : WI 184 σ9.1 := WI.tr hOσ9 (by decide) (by decide) (by decide) hW184
      have hL : SI σ9.1 := SI.tr hOσ9 (by decide) (by decide) (by decide) (by decide) hL
      have hD : RD σ9.1 := RD.tr hOσ9 (by decide) (by decide) (by decide) (by decide) hD
      have hu : 2 ≤ (σ9.1 111 8).toInt ∧ (σ9.1 111 8).toInt ≤ 1600 := by rw [hOσ9.2 111 (by decide)] <;> exact hu
      have ht : 0 ≤ (σ9.1 0 1).toInt ∧ (σ9.1 0 1).toInt ≤ 600 := by rw [hOσ9.2 0 (by decide)] <;> exact ht
      have hB : ZB σ9.1 := ZB_s eσ9 hB
      exact ok_some ⟨hT, (show CF σ9.1 ∧ ZB σ9.1 ∧ (0 : Int32) = 0 from by exact ⟨⟨hW2, hW28, hW132, hW158, hW184, hL, hD, hu, ht⟩, hB, rfl⟩)⟩
    · exact absurd hc2 (by decide)

set_option maxHeartbeats 4000000 in
set_option maxRecDepth 100000 in
theorem s_X11_keep_n28_0z {N : Nat} (hN : 1048576 ≤ N)  {σ0 : zS}  (hR : RF σ0.2.2) (hNw : σ0.2.2 0 4 = 28) (hPw : σ0.2.2 0 5 = 2) (hC : CF σ0.1) (hB : ZB σ0.1) : Ok (f_X11_keep N 0 0 σ0) (fun r => Tr [55, 132, 133, 134, 135, 136] σ0 r.2 ∧ (CF r.2.1 ∧ ZB r.2.1 ∧ r.1 = 0)) := by
  have hT : Tr [55, 132, 133, 134, 135, 136] σ0 σ0 := Tr.rf
  obtain ⟨hW2, hW28, hW132, hW158, hW184, hL, hD, hu, ht⟩ := hC
  have hn := hW28.1
  have he := hW28.2.1
  have hD0 := hD
  have hL0 := hL
  have q10 := ti_one10 (x := σ0.1 28 0) hn.1 hn.2
  rw [f_X11_keep.eq_1]
  refine ok_if (fun hc1 => ?_) (fun hc1 => ?_)
  · exact absurd hc1 (by decide)
  · refine ok_if (fun hc2 => ?_) (fun hc2 => ?_)
    · refine ok_gR (v := 54) hT rfl (hR 0 6 rfl) ?_
      refine ok_aR (v := 132) hT rfl (by first | omega | decide | (have q1 := hD.1; have q2 := hD.2.1; simp only [Int32.le_iff_toInt_le, Int32.lt_iff_toInt_lt, ti_add, ti_sub, ti_mul, Int32.reduceToInt] at *; omega)) (by first | omega | decide | (have q1 := hD.1; have q2 := hD.2.1; simp only [Int32.le_iff_toInt_le, Int32.lt_iff_toInt_lt, ti_add, ti_sub, ti_mul, Int32.reduceToInt] at *; omega)) (hR 54 0 rfl) ?_
      refine ok_gR (v := 28) hT rfl hNw ?_
      refine ok_gC rfl ?_
      refine ok_zbT (Q := fun V σ => WI 132 σ.1) hT (s_X10_copyFrom_132_28 hN (hR.tr hT) (hW132) (hW28)) (by decide) (fun v6 σ7 hOσ7 hT hqv6 => ?_)
      have hqv6 : WI 132 σ7.1 := hqv6
      have hW2 : WI 2 σ7.1 := WI.tr hOσ7 (by decide) (by decide) (by decide) hW2
      have hW28 : WI 28 σ7.1 := WI.tr hOσ7 (by decide) (by decide) (by decide) hW28
      have hW132 : WI 132 σ7.1 := hqv6
      have hW158 : WI 158 σ7.1 := WI.tr hOσ7 (by decide) (by decide) (by decide) hW158
      have hW184 : WI 184 σ7.1 := WI.tr hOσ7 (by decide) (by decide) (by decide) hW184
      have hL : SI σ7.1 := SI.tr hOσ7 (by decide) (by decide) (by decide) (by decide) hL
      have hD : RD σ7.1 := RD.tr hOσ7 (by decide) (by decide) (by decide) (by decide) hD
      have hu : 2 ≤ (σ7.1 111 8).toInt ∧ (σ7.1 111 8).toInt ≤ 1600 := by rw [hOσ7.2 111 (by decide)] <;> exact hu
      have ht : 0 ≤ (σ7.1 0 1).toInt ∧ (σ7.1 0 1).toInt ≤ 600 := by rw [hOσ7.2 0 (by decide)] <;> exact ht
      have hB : ZB σ7.1 := ZB.tr hOσ7 (by decide) hB
      refine ok_gR (v := 55) hT rfl (hR 0 7 rfl) ?_
      refine ok_s16 hT rfl (by decide) (by first | omega | decide | (have q1 := hD.1; have q2 := hD.2.1; simp only [Int32.le_iff_toInt_le, Int32.lt_iff_toInt_lt, ti_add, ti_sub, ti_mul, Int32.reduceToInt] at *; omega)) (by first | omega | decide | (have q1 := hD.1; have q2 := hD.2.1; simp only [Int32.le_iff_toInt_le, Int32.lt_iff_toInt_lt, ti_add, ti_sub, ti_mul, Int32.reduceToInt] at *; omega)) (fun σ9 eσ9 hOσ9 hT => ?_)
      have hW2 : WI 2 σ9.1 := WI.tr hOσ9 (by decide) (by decide) (by decide) hW2
      have hW28 : WI 28 σ9.1 := WI.tr hOσ9 (by decide) (by decide) (by decide) hW28
      have hW132 : WI 132 σ9.1 := WI.tr hOσ9 (by decide) (by decide) (by decide) hW132
      have hW158 : WI 158 σ9.1 := WI.tr hOσ9 (by decide) (by decide) (by decide) hW158
      have hW184 : WI 184 σ9.1 := WI.tr hOσ9 (by decide) (by decide) (by decide) hW184
      have hL : SI σ9.1 := SI.tr hOσ9 (by decide) (by decide) (by decide) (by decide) hL
      have hD : RD σ9.1 := RD.tr hOσ9 (by decide) (by decide) (by decide) (by decide) hD
      have hu : 2 ≤ (σ9.1 111 8).toInt ∧ (σ9.1 111 8).toInt ≤ 1600 := by rw [hOσ9.2 111 (by decide)] <;> exact hu
      have ht : 0 ≤ (σ9.1 0 1).toInt ∧ (σ9.1 0 1).toInt ≤ 600 := by rw [hOσ9.2 0 (by decide)] <;> exact ht
      have hB : ZB σ9.1 := ZB_s eσ9 hB
      exact ok_some ⟨hT, (show CF σ9.1 ∧ ZB σ9.1 ∧ (0 : Int32) = 0 from by exact ⟨⟨hW2, hW28, hW132, hW158, hW184, hL, hD, hu, ht⟩, hB, rfl⟩)⟩
    · exact absurd hc2 (by decide)

set_option maxHeartbeats 4000000 in
set_option maxRecDepth 100000 in
theorem s_X11_keep_n28_1z {N : Nat} (hN : 1048576 ≤ N)  {σ0 : zS}  (hR : RF σ0.2.2) (hNw : σ0.2.2 0 4 = 28) (hPw : σ0.2.2 0 5 = 2) (hC : CF σ0.1) (hB : ZB σ0.1) : Ok (f_X11_keep N 0 1 σ0) (fun r => Tr [55, 158, 159, 160, 161, 162] σ0 r.2 ∧ (CF r.2.1 ∧ ZB r.2.1 ∧ r.1 = 0)) := by
  have hT : Tr [55, 158, 159, 160, 161, 162] σ0 σ0 := Tr.rf
  obtain ⟨hW2, hW28, hW132, hW158, hW184, hL, hD, hu, ht⟩ := hC
  have hn := hW28.1
  have he := hW28.2.1
  have hD0 := hD
  have hL0 := hL
  have q10 := ti_one10 (x := σ0.1 28 0) hn.1 hn.2
  rw [f_X11_keep.eq_1]
  refine ok_if (fun hc1 => ?_) (fun hc1 => ?_)
  · exact absurd hc1 (by decide)
  · refine ok_if (fun hc2 => ?_) (fun hc2 => ?_)
    · refine ok_gR (v := 54) hT rfl (hR 0 6 rfl) ?_
      refine ok_aR (v := 158) hT rfl (by first | omega | decide | (have q1 := hD.1; have q2 := hD.2.1; simp only [Int32.le_iff_toInt_le, Int32.lt_iff_toInt_lt, ti_add, ti_sub, ti_mul, Int32.reduceToInt] at *; omega)) (by first | omega | decide | (have q1 := hD.1; have q2 := hD.2.1; simp only [Int32.le_iff_toInt_le, Int32.lt_iff_toInt_lt, ti_add, ti_sub, ti_mul, Int32.reduceToInt] at *; omega)) (hR 54 1 rfl) ?_
      refine ok_gR (v := 28) hT rfl hNw ?_
      refine ok_gC rfl ?_
      refine ok_zbT (Q := fun V σ => WI 158 σ.1) hT (s_X10_copyFrom_158_28 hN (hR.tr hT) (hW158) (hW28)) (by decide) (fun v6 σ7 hOσ7 hT hqv6 => ?_)
      have hqv6 : WI 158 σ7.1 := hqv6
      have hW2 : WI 2 σ7.1 := WI.tr hOσ7 (by decide) (by decide) (by decide) hW2
      have hW28 : WI 28 σ7.1 := WI.tr hOσ7 (by decide) (by decide) (by decide) hW28
      have hW132 : WI 132 σ7.1 := WI.tr hOσ7 (by decide) (by decide) (by decide) hW132
      have hW158 : WI 158 σ7.1 := hqv6
      have hW184 : WI 184 σ7.1 := WI.tr hOσ7 (by decide) (by decide) (by decide) hW184
      have hL : SI σ7.1 := SI.tr hOσ7 (by decide) (by decide) (by decide) (by decide) hL
      have hD : RD σ7.1 := RD.tr hOσ7 (by decide) (by decide) (by decide) (by decide) hD
      have hu : 2 ≤ (σ7.1 111 8).toInt ∧ (σ7.1 111 8).toInt ≤ 1600 := by rw [hOσ7.2 111 (by decide)] <;> exact hu
      have ht : 0 ≤ (σ7.1 0 1).toInt ∧ (σ7.1 0 1).toInt ≤ 600 := by rw [hOσ7.2 0 (by decide)] <;> exact ht
      have hB : ZB σ7.1 := ZB.tr hOσ7 (by decide) hB
      refine ok_gR (v := 55) hT rfl (hR 0 7 rfl) ?_
      refine ok_s16 hT rfl (by decide) (by first | omega | decide | (have q1 := hD.1; have q2 := hD.2.1; simp only [Int32.le_iff_toInt_le, Int32.lt_iff_toInt_lt, ti_add, ti_sub, ti_mul, Int32.reduceToInt] at *; omega)) (by first | omega | decide | (have q1 := hD.1; have q2 := hD.2.1; simp only [Int32.le_iff_toInt_le, Int32.lt_iff_toInt_lt, ti_add, ti_sub, ti_mul, Int32.reduceToInt] at *; omega)) (fun σ9 eσ9 hOσ9 hT => ?_)
      have hW2 : WI 2 σ9.1 := WI.tr hOσ9 (by decide) (by decide) (by decide) hW2
      have hW28 : WI 28 σ9.1 := WI.tr hOσ9 (by decide) (by decide) (by decide) hW28
      have hW132 : WI 132 σ9.1 := WI.tr hOσ9 (by decide) (by decide) (by decide) hW132
      have hW158 : WI 158 σ9.1 := WI.tr hOσ9 (by decide) (by decide) (by decide) hW158
      have hW184 : WI 184 σ9.1 := WI.tr hOσ9 (by decide) (by decide) (by decide) hW184
      have hL : SI σ9.1 := SI.tr hOσ9 (by decide) (by decide) (by decide) (by decide) hL
      have hD : RD σ9.1 := RD.tr hOσ9 (by decide) (by decide) (by decide) (by decide) hD
      have hu : 2 ≤ (σ9.1 111 8).toInt ∧ (σ9.1 111 8).toInt ≤ 1600 := by rw [hOσ9.2 111 (by decide)] <;> exact hu
      have ht : 0 ≤ (σ9.1 0 1).toInt ∧ (σ9.1 0 1).toInt ≤ 600 := by rw [hOσ9.2 0 (by decide)] <;> exact ht
      have hB : ZB σ9.1 := ZB_s eσ9 hB
      exact ok_some ⟨hT, (show CF σ9.1 ∧ ZB σ9.1 ∧ (0 : Int32) = 0 from by exact ⟨⟨hW2, hW28, hW132, hW158, hW184, hL, hD, hu, ht⟩, hB, rfl⟩)⟩
    · exact absurd hc2 (by decide)

set_option maxHeartbeats 4000000 in
set_option maxRecDepth 100000 in
theorem s_X11_keep_n28_2z {N : Nat} (hN : 1048576 ≤ N)  {σ0 : zS}  (hR : RF σ0.2.2) (hNw : σ0.2.2 0 4 = 28) (hPw : σ0.2.2 0 5 = 2) (hC : CF σ0.1) (hB : ZB σ0.1) : Ok (f_X11_keep N 0 2 σ0) (fun r => Tr [55, 184, 185, 186, 187, 188] σ0 r.2 ∧ (CF r.2.1 ∧ ZB r.2.1 ∧ r.1 = 0)) := by
  have hT : Tr [55, 184, 185, 186, 187, 188] σ0 σ0 := Tr.rf
  obtain ⟨hW2, hW28, hW132, hW158, hW184, hL, hD, hu, ht⟩ := hC
  have hn := hW28.1
  have he := hW28.2.1
  have hD0 := hD
  have hL0 := hL
  have q10 := ti_one10 (x := σ0.1 28 0) hn.1 hn.2
  rw [f_X11_keep.eq_1]
  refine ok_if (fun hc1 => ?_) (fun hc1 => ?_)
  · exact absurd hc1 (by decide)
  · refine ok_if (fun hc2 => ?_) (fun hc2 => ?_)
    · refine ok_gR (v := 54) hT rfl (hR 0 6 rfl) ?_
      refine ok_aR (v := 184) hT rfl (by first | omega | decide | (have q1 := hD.1; have q2 := hD.2.1; simp only [Int32.le_iff_toInt_le, Int32.lt_iff_toInt_lt, ti_add, ti_sub, ti_mul, Int32.reduceToInt] at *; omega)) (by first | omega | decide | (have q1 := hD.1; have q2 := hD.2.1; simp only [Int32.le_iff_toInt_le, Int32.lt_iff_toInt_lt, ti_add, ti_sub, ti_mul, Int32.reduceToInt] at *; omega)) (hR 54 2 rfl) ?_
      refine ok_gR (v := 28) hT rfl hNw ?_
      refine ok_gC rfl ?_
      refine ok_zbT (Q := fun V σ => WI 184 σ.1) hT (s_X10_copyFrom_184_28 hN (hR.tr hT) (hW184) (hW28)) (by decide) (fun v6 σ7 hOσ7 hT hqv6 => ?_)
      have hqv6 : WI 184 σ7.1 := hqv6
      have hW2 : WI 2 σ7.1 := WI.tr hOσ7 (by decide) (by decide) (by decide) hW2
      have hW28 : WI 28 σ7.1 := WI.tr hOσ7 (by decide) (by decide) (by decide) hW28
      have hW132 : WI 132 σ7.1 := WI.tr hOσ7 (by decide) (by decide) (by decide) hW132
      have hW158 : WI 158 σ7.1 := WI.tr hOσ7 (by decide) (by decide) (by decide) hW158
      have hW184 : WI 184 σ7.1 := hqv6
      have hL : SI σ7.1 := SI.tr hOσ7 (by decide) (by decide) (by decide) (by decide) hL
      have hD : RD σ7.1 := RD.tr hOσ7 (by decide) (by decide) (by decide) (by decide) hD
      have hu : 2 ≤ (σ7.1 111 8).toInt ∧ (σ7.1 111 8).toInt ≤ 1600 := by rw [hOσ7.2 111 (by decide)] <;> exact hu
      have ht : 0 ≤ (σ7.1 0 1).toInt ∧ (σ7.1 0 1).toInt ≤ 600 := by rw [hOσ7.2 0 (by decide)] <;> exact ht
      have hB : ZB σ7.1 := ZB.tr hOσ7 (by decide) hB
      refine ok_gR (v := 55) hT rfl (hR 0 7 rfl) ?_
      refine ok_s16 hT rfl (by decide) (by first | omega | decide | (have q1 := hD.1; have q2 := hD.2.1; simp only [Int32.le_iff_toInt_le, Int32.lt_iff_toInt_lt, ti_add, ti_sub, ti_mul, Int32.reduceToInt] at *; omega)) (by first | omega | decide | (have q1 := hD.1; have q2 := hD.2.1; simp only [Int32.le_iff_toInt_le, Int32.lt_iff_toInt_lt, ti_add, ti_sub, ti_mul, Int32.reduceToInt] at *; omega)) (fun σ9 eσ9 hOσ9 hT => ?_)
      have hW2 : WI 2 σ9.1 := WI.tr hOσ9 (by decide) (by decide) (by decide) hW2
      have hW28 : WI 28 σ9.1 := WI.tr hOσ9 (by decide) (by decide) (by decide) hW28
      have hW132 : WI 132 σ9.1 := WI.tr hOσ9 (by decide) (by decide) (by decide) hW132
      have hW158 : WI 158 σ9.1 := WI.tr hOσ9 (by decide) (by decide) (by decide) hW158
      have hW184 : WI 184 σ9.1 := WI.tr hOσ9 (by decide) (by decide) (by decide) hW184
      have hL : SI σ9.1 := SI.tr hOσ9 (by decide) (by decide) (by decide) (by decide) hL
      have hD : RD σ9.1 := RD.tr hOσ9 (by decide) (by decide) (by decide) (by decide) hD
      have hu : 2 ≤ (σ9.1 111 8).toInt ∧ (σ9.1 111 8).toInt ≤ 1600 := by rw [hOσ9.2 111 (by decide)] <;> exact hu
      have ht : 0 ≤ (σ9.1 0 1).toInt ∧ (σ9.1 0 1).toInt ≤ 600 := by rw [hOσ9.2 0 (by decide)] <;> exact ht
      have hB : ZB σ9.1 := ZB_s eσ9 hB
      exact ok_some ⟨hT, (show CF σ9.1 ∧ ZB σ9.1 ∧ (0 : Int32) = 0 from by exact ⟨⟨hW2, hW28, hW132, hW158, hW184, hL, hD, hu, ht⟩, hB, rfl⟩)⟩
    · exact absurd hc2 (by decide)

/-- the class's own: its references, its numbers, which world is now -/
def CI (σ : zS) : Prop := RF σ.2.2 ∧ CF σ.1 ∧ ((σ.2.2 0 4 = 2 ∧ σ.2.2 0 5 = 28) ∨ (σ.2.2 0 4 = 28 ∧ σ.2.2 0 5 = 2))
/-- the reference's own -/
def RI (σ : zS) : Prop := (MW (σ.1 219) 0 ∧ MI (σ.1 221) ∧ MS (σ.1 239)) ∧ ZB σ.1 ∧ (0 ≤ (σ.1 218 7).toInt ∧ (σ.1 218 7).toInt ≤ 600) ∧ BYT (σ.1 224)
theorem CI_c {S : List Nat} {σ τ : zS} (h : CI σ) (hT : Tr S σ τ) (hC : CF τ.1) : CI τ := by
  refine ⟨h.1.tr hT, hC, ?_⟩
  rw [hT.1.1 0 4 (by decide), hT.1.1 0 5 (by decide)]
  exact h.2.2
theorem RI_e {σ τ : zS} (e : ∀ k, 218 ≤ k → τ.1 k = σ.1 k) (hB : ZB τ.1) (h : RI σ) : RI τ := by
  unfold RI at h ⊢
  rw [e 219 (by decide), e 221 (by decide), e 239 (by decide), e 218 (by decide), e 224 (by decide)]
  exact ⟨h.1, hB, h.2.2⟩
theorem hiS {S : List Nat} (hs : ∀ k ∈ S, k < 218) : ∀ k, 218 ≤ k → k ∉ S := fun k hk q => absurd (hs k q) (by omega)
theorem RI_c {S : List Nat} {σ τ : zS} (hT : Tr S σ τ) (hs : ∀ k ∈ S, k < 218) (h55 : 55 ∉ S) (h : RI σ) : RI τ := by
  refine RI_e (fun k hk => hT.2 k (hiS hs k hk)) (ZB.tr hT (fun k hk => ?_) h.2.1) h
  simp only [List.mem_cons, List.not_mem_nil, or_false] at hk
  rcases hk with rfl | rfl | rfl | rfl | rfl | rfl | rfl | rfl | rfl | rfl | rfl
  · exact h55
  all_goals exact hiS hs _ (by decide)
theorem CF_e {s s' : Nat → Nat → Int32} (e : ∀ k, k < 218 → s' k = s k) (h : CF s) : CF s' := by
  unfold CF at h ⊢
  unfold WI SI RD at h ⊢
  rw [e 2 (by decide), e (2 + 1) (by decide), e (2 + 2) (by decide), e 28 (by decide), e (28 + 1) (by decide), e (28 + 2) (by decide), e 132 (by decide), e (132 + 1) (by decide), e (132 + 2) (by decide), e 158 (by decide), e (158 + 1) (by decide), e (158 + 2) (by decide), e 184 (by decide), e (184 + 1) (by decide), e (184 + 2) (by decide), e 57 (by decide), e 61 (by decide), e 63 (by decide), e 64 (by decide), e 111 (by decide), e 0 (by decide)]
  refine ⟨h.1, h.2.1, h.2.2.1, h.2.2.2.1, h.2.2.2.2.1, fun k hk => ?_, h.2.2.2.2.2.2⟩
  have hl : k < 218 := by rcases zslm k (zKd_lt hk (by decide)) hk with rfl | rfl | rfl | rfl <;> decide
  rw [e k hl]; exact h.2.2.2.2.2.1 k hk
theorem CI_r {S : List Nat} {σ τ : zS} (hT : Tr S σ τ) (hs : ∀ k ∈ S, 218 ≤ k) (h : CI σ) : CI τ :=
  CI_c h hT (CF_e (fun k hk => hT.2 k (fun q => absurd (hs k q) (by omega))) h.2.1)
theorem RI_r {S : List Nat} {σ τ : zS} (h : RI σ) (hT : Tr S σ τ) (hM : MW (τ.1 219) 0 ∨ 219 ∉ S) (hI : MI (τ.1 221) ∨ 221 ∉ S) (hS : MS (τ.1 239) ∨ 239 ∉ S) (hB : ZB τ.1) (ht : (0 ≤ (τ.1 218 7).toInt ∧ (τ.1 218 7).toInt ≤ 600) ∨ τ.1 218 7 = σ.1 218 7) (hY : BYT (τ.1 224) ∨ 224 ∉ S) : RI τ := by
  refine ⟨⟨?_, ?_, ?_⟩, hB, ?_, ?_⟩
  · rcases hM with q | q
    · exact q
    · rw [hT.2 219 q]; exact h.1.1
  · rcases hI with q | q
    · exact q
    · rw [hT.2 221 q]; exact h.1.2.1
  · rcases hS with q | q
    · exact q
    · rw [hT.2 239 q]; exact h.1.2.2
  · rcases ht with q | q
    · exact q
    · rw [q]; exact h.2.2.1
  · rcases hY with q | q
    · exact q
    · rw [hT.2 224 q]; exact h.2.2.2
theorem zi_z {k : Nat} (h : k ∉ [0, 57, 111, 210, 212, 214, 216, 218, 239]) : zi0 k = fun _ => 0 := by
  simp only [List.mem_cons, List.not_mem_nil, or_false, not_or] at h
  unfold zi0
  simp only [h.1, h.2.1, h.2.2.1, h.2.2.2.1, h.2.2.2.2.1, h.2.2.2.2.2.1, h.2.2.2.2.2.2.1, h.2.2.2.2.2.2.2.1, h.2.2.2.2.2.2.2.2, if_false]
theorem zi_0 {k : Nat} (h : k ∉ [0, 57, 111, 210, 212, 214, 216, 218, 239]) (j : Nat) : zi0 k j = 0 := by rw [zi_z h]
theorem zs_0 {k : Nat} (h : k ∉ [0, 57, 111, 210, 212, 214, 216, 218, 239]) (j : Nat) : zs00.1 k j = 0 := zi_0 h j
theorem WI_0 {B : Nat} (h0 : B ∉ [0, 57, 111, 210, 212, 214, 216, 218, 239]) (h1 : B + 1 ∉ [0, 57, 111, 210, 212, 214, 216, 218, 239]) (h2 : B + 2 ∉ [0, 57, 111, 210, 212, 214, 216, 218, 239]) : WI B zi0 := by
  unfold WI
  rw [zi_z h0, zi_z h1, zi_z h2]
  exact ⟨by decide, by decide, fun _ _ => (by decide : (0 ≤ (0 : Int32).toInt ∧ (0 : Int32).toInt ≤ 7) ∧ 0 ≤ (0 : Int32).toInt ∧ (0 : Int32).toInt ≤ 7)⟩
theorem CI_0 : CI zs00 := by
  refine ⟨fun k j _ => rfl, ⟨WI_0 (by decide) (by decide) (by decide), WI_0 (by decide) (by decide) (by decide), WI_0 (by decide) (by decide) (by decide), WI_0 (by decide) (by decide) (by decide), WI_0 (by decide) (by decide) (by decide), ?_, ?_, ?_⟩, Or.inl ⟨by decide, by decide⟩⟩
  · intro k hk
    rcases zslm k (zKd_lt hk (by decide)) hk with rfl | rfl | rfl | rfl <;> decide
  · refine ⟨by decide, by decide, zs_0 (by decide) _, fun j _ => ?_, fun j _ => ?_⟩
    · show 0 ≤ (zi0 63 j).toInt ∧ (zi0 63 j).toInt ≤ 600
      rw [zi_0 (by decide)]; decide
    · show 0 ≤ (zi0 64 j).toInt ∧ (zi0 64 j).toInt ≤ 600
      rw [zi_0 (by decide)]; decide
  · exact ⟨by decide, by decide⟩
theorem MW_0 {g : Nat → Int32} {b : Nat} (h : ∀ j, g j = 0) : MW g b := by
  unfold MW
  refine ⟨by rw [h]; decide, by rw [h]; decide, fun j _ => by rw [h, h]; decide, fun v hv => ?_⟩
  rw [h] at hv
  exact absurd hv (by simp only [Int32.reduceToInt]; omega)
theorem MS_0 : MS (zi0 239) := by
  have e : zi0 239 = upd (upd (upd (upd (fun _ => 0) 0 (-1)) 1 (-1)) 2 (-1)) 3 (-1) := rfl
  have u : ∀ (g : Nat → Int32) (i : Nat), MS g → MS (upd g i (-1)) := by
    intro g i hg j
    unfold upd
    split
    · decide
    · exact hg j
  rw [e]
  exact u _ _ (u _ _ (u _ _ (u _ _ (fun _ => by decide))))
theorem RI_0 : RI zs00 := by
  refine ⟨⟨MW_0 (zs_0 (by decide)), fun k _ => MW_0 (zs_0 (by decide)), MS_0⟩, fun k hk j => ?_, by decide, fun k => ?_⟩
  · rcases zbc k (zKd_lt hk (by decide)) hk with rfl | rfl | rfl | rfl | rfl | rfl | rfl | rfl | rfl | rfl | rfl <;> exact Or.inl (zs_0 (by decide) j)
  · show -128 ≤ (zi0 224 k).toInt ∧ (zi0 224 k).toInt ≤ 127
    rw [zi_0 (by decide)]; decide
theorem ok_w {α : Type} {x : Option α} {P Q : α → Prop} (h : Ok x P) (f : ∀ a, P a → Q a) : Ok x Q := by
  obtain ⟨a, e, p⟩ := h
  exact ⟨a, e, f a p⟩

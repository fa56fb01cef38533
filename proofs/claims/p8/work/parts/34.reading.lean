set_option maxHeartbeats 4000000 in
set_option maxRecDepth 100000 in
theorem s_X5_open_1 {N : Nat} (hN : 1048576 ≤ N) {x2 : Int32} {σ0 : zS}  (hR : RF σ0.2.2) (hD : RD σ0.1) : Ok (f_X5_open N 57 1 x2 σ0) (fun r => Tr [57, 61, 62, 63, 64] σ0 r.2 ∧ (RD r.2.1 ∧ r.2.2.2 57 5 = 1)) := by
  have hT : Tr [57, 61, 62, 63, 64] σ0 σ0 := Tr.rf
  have hD0 := hD
  rw [f_X5_open.eq_1]
  refine ok_pRX hT (fun σ1 hX eσ1 hOσ1 hT => ?_)
  have hD : RD σ1.1 := RD.tr hOσ1 (by decide) (by decide) (by decide) (by decide) hD
  refine ok_aL (n := 600) rfl ?_
  rw [show Int32.ofNat 600 = 600 from rfl]
  refine ok_pI hT rfl (by decide) (fun σ3 eσ3 hOσ3 hT => ?_)
  have hX := hOσ3.1.2 hX
  have hD : RD σ3.1 := RD_p eσ3 (fun q => absurd q (by decide)) (fun _ => by rw [ti_zmax, ti_zmin, ti_zmin]; simp only [Int32.reduceToInt]; split <;> split <;> split <;> omega) hD
  refine ok_pI hT rfl (by decide) (fun σ4 eσ4 hOσ4 hT => ?_)
  have hX := hOσ4.1.2 hX
  have hD : RD σ4.1 := by first | exact RD_p eσ4 (fun q => absurd q (by decide)) (fun q => absurd q (by decide)) hD | exact HQ
  refine ok_pI hT rfl (by decide) (fun σ5 eσ5 hOσ5 hT => ?_)
  have hX := hOσ5.1.2 hX
  have hD : RD σ5.1 := by first | exact RD_p eσ5 (fun q => absurd q (by decide)) (fun q => absurd q (by decide)) hD | exact HQ
  refine ok_pI hT rfl (by decide) (fun σ6 eσ6 hOσ6 hT => ?_)
  have hX := hOσ6.1.2 hX
  have hD : RD σ6.1 := by first | exact RD_p eσ6 (fun q => absurd q (by decide)) (fun q => absurd q (by decide)) hD | exact HQ
  refine ok_pI hT rfl (by decide) (fun σ7 eσ7 hOσ7 hT => ?_)
  have hX := hOσ7.1.2 hX
  have hD : RD σ7.1 := by first | exact RD_p eσ7 (fun q => absurd q (by decide)) (fun q => absurd q (by decide)) hD | exact HQ
  refine ok_pI hT rfl (by decide) (fun σ8 eσ8 hOσ8 hT => ?_)
  have hX := hOσ8.1.2 hX
  have hD : RD σ8.1 := by first | exact RD_p eσ8 (fun q => absurd q (by decide)) (fun q => absurd q (by decide)) hD | exact HQ
  refine ok_pI hT rfl (by decide) (fun σ9 eσ9 hOσ9 hT => ?_)
  have hX := hOσ9.1.2 hX
  have hD : RD σ9.1 := RD_p eσ9 (fun _ => by decide) (fun q => absurd q (by decide)) hD
  refine ok_gC rfl ?_
  refine ok_zbT (Q := fun V σ => RD σ.1) hT (s_X5_split hN (hR.tr hT) (hX) (hD)) (by decide) (fun v10 σ11 hOσ11 hT hqv10 => ?_)
  have hqv10 : RD σ11.1 := hqv10
  have hD : RD σ11.1 := by first | exact RD_p eσ11 (fun q => absurd q (by decide)) (fun q => absurd q (by decide)) hD | exact hqv10
  have hX9 := hX
  have hOX := hOσ11
  exact ok_some ⟨hT, (show RD σ11.1 ∧ σ11.2.2 57 5 = 1 from by exact ⟨hD, hOX.1.2 hX9⟩)⟩

set_option maxHeartbeats 4000000 in
set_option maxRecDepth 100000 in
theorem s_X5_readSum_1 {N : Nat} (hN : 1048576 ≤ N) {x2 : Int32} {x3 : Int32} {x4 : Int32} {σ0 : zS}  (hR : RF σ0.2.2) (hD : RD σ0.1) : Ok (f_X5_readSum N 57 1 x2 x3 x4 σ0) (fun r => Tr [57, 58, 59, 61, 62, 63, 64] σ0 r.2 ∧ ((r.1 = 0 ∨ r.1 = 1) ∧ RD r.2.1)) := by
  have hT : Tr [57, 58, 59, 61, 62, 63, 64] σ0 σ0 := Tr.rf
  have hD0 := hD
  rw [f_X5_readSum.eq_1]
  refine ok_gC rfl ?_
  refine ok_zbT (Q := fun V σ => RD σ.1 ∧ σ.2.2 57 5 = 1) hT (s_X5_open_1 hN (hR.tr hT) (hD)) (by decide) (fun v1 σ2 hOσ2 hT hqv1 => ?_)
  have hqv1 : RD σ2.1 ∧ σ2.2.2 57 5 = 1 := hqv1
  have hD : RD σ2.1 := hqv1.1
  have hX := hqv1.2
  refine ok_pI hT rfl (by decide) (fun σ3 eσ3 hOσ3 hT => ?_)
  have hX := hOσ3.1.2 hX
  have hD : RD σ3.1 := RD_p eσ3 (fun q => absurd q (by decide)) (fun q => absurd q (by decide)) hD
  refine ok_gC rfl ?_
  refine ok_zbT (Q := fun V σ => (V = 0 ∨ V = 1) ∧ RD σ.1) hT (s_X5_sum hN (hR.tr hT) (hX) (hD) (by decide) (by decide)) (by decide) (fun v4 σ5 hOσ5 hT hqv4 => ?_)
  have hqv4 : (v4 = 0 ∨ v4 = 1) ∧ RD σ5.1 := hqv4
  have hD : RD σ5.1 := by first | exact hqv4.2 | exact hqv4.2.1
  have hX := hOσ5.1.2 hX
  refine ok_if (fun hc6 => ?_) (fun hc6 => ?_)
  · exact ok_rZ (Or.inl rfl) ⟨hT, (show ((0 : Int32) = 0 ∨ (0 : Int32) = 1) ∧ RD σ5.1 from by first | exact ⟨Or.inl rfl, hD⟩ | exact ⟨Or.inr rfl, hD⟩)⟩
  · refine ok_gC rfl ?_
    refine ok_zbT (Q := fun V σ => (V = 0 ∨ V = 1) ∧ RD σ.1) hT (s_X5_pass hN (hR.tr hT) (hX) (hD)) (by decide) (fun v7 σ8 hOσ8 hT hqv7 => ?_)
    have hqv7 : (v7 = 0 ∨ v7 = 1) ∧ RD σ8.1 := hqv7
    have hD : RD σ8.1 := by first | exact hqv7.2 | exact hqv7.2.1
    have hX := hOσ8.1.2 hX
    refine ok_if (fun hc9 => ?_) (fun hc9 => ?_)
    · exact ok_rZ (Or.inl rfl) ⟨hT, (show ((0 : Int32) = 0 ∨ (0 : Int32) = 1) ∧ RD σ8.1 from by first | exact ⟨Or.inl rfl, hD⟩ | exact ⟨Or.inr rfl, hD⟩)⟩
    · refine ok_gC rfl ?_
      refine ok_zbT (Q := fun V σ => V = 1 ∧ RD σ.1) hT (s_X5_emit hN (hR.tr hT) (hX) (hD)) (by decide) (fun v10 σ11 hOσ11 hT hqv10 => ?_)
      have hqv10 : v10 = 1 ∧ RD σ11.1 := hqv10
      have hD : RD σ11.1 := by first | exact hqv10.2 | exact hqv10.2.1
      refine ok_if (fun hc12 => ?_) (fun hc12 => ?_)
      · exact ok_rZ (Or.inl rfl) ⟨hT, (show ((0 : Int32) = 0 ∨ (0 : Int32) = 1) ∧ RD σ11.1 from by first | exact ⟨Or.inl rfl, hD⟩ | exact ⟨Or.inr rfl, hD⟩)⟩
      · exact ok_rZ (Or.inr rfl) ⟨hT, (show ((1 : Int32) = 0 ∨ (1 : Int32) = 1) ∧ RD σ11.1 from by first | exact ⟨Or.inl rfl, hD⟩ | exact ⟨Or.inr rfl, hD⟩)⟩

set_option maxHeartbeats 4000000 in
set_option maxRecDepth 100000 in
theorem s_X5_readWorld_1_2 {N : Nat} (hN : 1048576 ≤ N) {x2 : Int32} {σ0 : zS}  (hR : RF σ0.2.2) (hD : RD σ0.1) (hW : WI 2 σ0.1) : Ok (f_X5_readWorld N 57 1 x2 2 σ0) (fun r => Tr [2, 3, 4, 5, 57, 58, 59, 61, 62, 63, 64] σ0 r.2 ∧ ((r.1 = 0 ∨ r.1 = 1) ∧ RD r.2.1 ∧ WI 2 r.2.1)) := by
  have hT : Tr [2, 3, 4, 5, 57, 58, 59, 61, 62, 63, 64] σ0 σ0 := Tr.rf
  have hD0 := hD
  rw [f_X5_readWorld.eq_1]
  refine ok_gC rfl ?_
  refine ok_zbT (Q := fun V σ => RD σ.1 ∧ σ.2.2 57 5 = 1) hT (s_X5_open_1 hN (hR.tr hT) (hD)) (by decide) (fun v1 σ2 hOσ2 hT hqv1 => ?_)
  have hqv1 : RD σ2.1 ∧ σ2.2.2 57 5 = 1 := hqv1
  have hD : RD σ2.1 := hqv1.1
  have hW : WI 2 σ2.1 := WI.tr hOσ2 (by decide) (by decide) (by decide) hW
  have hX := hqv1.2
  refine ok_lp (fun t : Int32 × zS => Tr [2, 3, 4, 5, 57, 58, 59, 61, 62, 63, 64] σ0 (t.2) ∧ (0 ≤ (t.1).toInt ∧ (t.2).2.2 57 5 = 1) ∧ (RD (t.2).1) ∧ (WI 2 (t.2).1)) (fun t : Int32 × zS => (601 - (t.1).toInt).toNat) (fun again3 t hI ih9_3 => ?_) N _ (show Tr [2, 3, 4, 5, 57, 58, 59, 61, 62, 63, 64] σ0 σ2 ∧ (0 ≤ (0 : Int32).toInt ∧ σ2.2.2 57 5 = 1) ∧ (RD σ2.1) ∧ (WI 2 σ2.1) from ⟨hT, (by exact ⟨by decide, hX⟩), hD, hW⟩) (show (601 - (0 : Int32).toInt).toNat < N from (by have q1 := hD.1; have q2 := hD.2.1; have q3 := hD0.1; have q4 := hD0.2.1; first | omega | decide | (simp only [Int32.le_iff_toInt_le, Int32.lt_iff_toInt_lt, ti_add, ti_sub, ti_mul, Int32.reduceToInt] at *; omega)))
  obtain ⟨x4_3, σ3⟩ := t
  have hI : Tr [2, 3, 4, 5, 57, 58, 59, 61, 62, 63, 64] σ0 σ3 ∧ (0 ≤ x4_3.toInt ∧ σ3.2.2 57 5 = 1) ∧ (RD σ3.1) ∧ (WI 2 σ3.1) := hI
  obtain ⟨hT, hI3, hD, hW⟩ := hI
  rw [F_X5_readWorld_9.eq_1]
  have hX := hI3.2
  refine ok_if (fun hc4 => ?_) (fun hc4 => ?_)
  · exact ok_rZ (Or.inr rfl) ⟨hT, (show ((1 : Int32) = 0 ∨ (1 : Int32) = 1) ∧ RD σ3.1 ∧ WI 2 σ3.1 from by first | exact ⟨Or.inl rfl, hD, hW⟩ | exact ⟨Or.inr rfl, hD, hW⟩)⟩
  · refine ok_gR (v := 61) hT rfl (hR 57 10 rfl) ?_
    refine ok_gI rfl ?_
    refine ok_aIn rfl (by have q1 := hD.1; have q2 := hD.2.1; have q3 := hD0.1; have q4 := hD0.2.1; first | omega | decide | (simp only [Int32.le_iff_toInt_le, Int32.lt_iff_toInt_lt, ti_add, ti_sub, ti_mul, Int32.reduceToInt] at *; omega)) (by have q1 := hD.1; have q2 := hD.2.1; have q3 := hD0.1; have q4 := hD0.2.1; first | omega | decide | (simp only [Int32.le_iff_toInt_le, Int32.lt_iff_toInt_lt, ti_add, ti_sub, ti_mul, Int32.reduceToInt] at *; omega)) (fun v7 ev7 => ?_)
    refine ok_if (fun hc8 => ?_) (fun hc8 => ?_)
    · exact ok_rZ (Or.inr rfl) ⟨hT, (show ((1 : Int32) = 0 ∨ (1 : Int32) = 1) ∧ RD σ3.1 ∧ WI 2 σ3.1 from by first | exact ⟨Or.inl rfl, hD, hW⟩ | exact ⟨Or.inr rfl, hD, hW⟩)⟩
    · refine ok_gC rfl ?_
      refine ok_zbT (Q := fun V σ => (V = 0 ∨ V = 1) ∧ RD σ.1 ∧ WI 2 σ.1) hT (s_X5_readLine_2 hN (hR.tr hT) (hX) (hD) (hW)) (by decide) (fun v9 σ10 hOσ10 hT hqv9 => ?_)
      have hqv9 : (v9 = 0 ∨ v9 = 1) ∧ RD σ10.1 ∧ WI 2 σ10.1 := hqv9
      have hD : RD σ10.1 := hqv9.2.1
      have hW : WI 2 σ10.1 := hqv9.2.2
      have hX := hOσ10.1.2 hX
      refine ok_if (fun hc11 => ?_) (fun hc11 => ?_)
      · exact ok_rZ (Or.inl rfl) ⟨hT, (show ((0 : Int32) = 0 ∨ (0 : Int32) = 1) ∧ RD σ10.1 ∧ WI 2 σ10.1 from by first | exact ⟨Or.inl rfl, hD, hW⟩ | exact ⟨Or.inr rfl, hD, hW⟩)⟩
      · refine ok_gI rfl ?_
        refine ok_pI hT rfl (by decide) (fun σ13 eσ13 hOσ13 hT => ?_)
        have hX := hOσ13.1.2 hX
        have hD : RD σ13.1 := RD.tr hOσ13 (by decide) (by decide) (by decide) (by decide) hD
        have hW : WI 2 σ13.1 := WI_p1 eσ13 hW
        exact ih9_3 (x4_3 + 1, σ13) (show Tr [2, 3, 4, 5, 57, 58, 59, 61, 62, 63, 64] σ0 σ13 ∧ (0 ≤ (x4_3 + 1).toInt ∧ σ13.2.2 57 5 = 1) ∧ (RD σ13.1) ∧ (WI 2 σ13.1) from ⟨hT, (by exact ⟨by have q1 := hD.1; have q2 := hD.2.1; have q3 := hD0.1; have q4 := hD0.2.1; first | omega | decide | (simp only [Int32.le_iff_toInt_le, Int32.lt_iff_toInt_lt, ti_add, ti_sub, ti_mul, Int32.reduceToInt] at *; omega), hX⟩), hD, hW⟩) (show (601 - (x4_3 + 1).toInt).toNat < (601 - x4_3.toInt).toNat from (by have q1 := hD.1; have q2 := hD.2.1; have q3 := hD0.1; have q4 := hD0.2.1; first | omega | decide | (simp only [Int32.le_iff_toInt_le, Int32.lt_iff_toInt_lt, ti_add, ti_sub, ti_mul, Int32.reduceToInt] at *; omega)))

set_option maxHeartbeats 4000000 in
set_option maxRecDepth 100000 in
theorem s_X5_readWorld_1_28 {N : Nat} (hN : 1048576 ≤ N) {x2 : Int32} {σ0 : zS}  (hR : RF σ0.2.2) (hD : RD σ0.1) (hW : WI 28 σ0.1) : Ok (f_X5_readWorld N 57 1 x2 28 σ0) (fun r => Tr [28, 29, 30, 31, 57, 58, 59, 61, 62, 63, 64] σ0 r.2 ∧ ((r.1 = 0 ∨ r.1 = 1) ∧ RD r.2.1 ∧ WI 28 r.2.1)) := by
  have hT : Tr [28, 29, 30, 31, 57, 58, 59, 61, 62, 63, 64] σ0 σ0 := Tr.rf
  have hD0 := hD
  rw [f_X5_readWorld.eq_1]
  refine ok_gC rfl ?_
  refine ok_zbT (Q := fun V σ => RD σ.1 ∧ σ.2.2 57 5 = 1) hT (s_X5_open_1 hN (hR.tr hT) (hD)) (by decide) (fun v1 σ2 hOσ2 hT hqv1 => ?_)
  have hqv1 : RD σ2.1 ∧ σ2.2.2 57 5 = 1 := hqv1
  have hD : RD σ2.1 := hqv1.1
  have hW : WI 28 σ2.1 := WI.tr hOσ2 (by decide) (by decide) (by decide) hW
  have hX := hqv1.2
  refine ok_lp (fun t : Int32 × zS => Tr [28, 29, 30, 31, 57, 58, 59, 61, 62, 63, 64] σ0 (t.2) ∧ (0 ≤ (t.1).toInt ∧ (t.2).2.2 57 5 = 1) ∧ (RD (t.2).1) ∧ (WI 28 (t.2).1)) (fun t : Int32 × zS => (601 - (t.1).toInt).toNat) (fun again3 t hI ih9_3 => ?_) N _ (show Tr [28, 29, 30, 31, 57, 58, 59, 61, 62, 63, 64] σ0 σ2 ∧ (0 ≤ (0 : Int32).toInt ∧ σ2.2.2 57 5 = 1) ∧ (RD σ2.1) ∧ (WI 28 σ2.1) from ⟨hT, (by exact ⟨by decide, hX⟩), hD, hW⟩) (show (601 - (0 : Int32).toInt).toNat < N from (by have q1 := hD.1; have q2 := hD.2.1; have q3 := hD0.1; have q4 := hD0.2.1; first | omega | decide | (simp only [Int32.le_iff_toInt_le, Int32.lt_iff_toInt_lt, ti_add, ti_sub, ti_mul, Int32.reduceToInt] at *; omega)))
  obtain ⟨x4_3, σ3⟩ := t
  have hI : Tr [28, 29, 30, 31, 57, 58, 59, 61, 62, 63, 64] σ0 σ3 ∧ (0 ≤ x4_3.toInt ∧ σ3.2.2 57 5 = 1) ∧ (RD σ3.1) ∧ (WI 28 σ3.1) := hI
  obtain ⟨hT, hI3, hD, hW⟩ := hI
  rw [F_X5_readWorld_9.eq_1]
  have hX := hI3.2
  refine ok_if (fun hc4 => ?_) (fun hc4 => ?_)
  · exact ok_rZ (Or.inr rfl) ⟨hT, (show ((1 : Int32) = 0 ∨ (1 : Int32) = 1) ∧ RD σ3.1 ∧ WI 28 σ3.1 from by first | exact ⟨Or.inl rfl, hD, hW⟩ | exact ⟨Or.inr rfl, hD, hW⟩)⟩
  · refine ok_gR (v := 61) hT rfl (hR 57 10 rfl) ?_
    refine ok_gI rfl ?_
    refine ok_aIn rfl (by have q1 := hD.1; have q2 := hD.2.1; have q3 := hD0.1; have q4 := hD0.2.1; first | omega | decide | (simp only [Int32.le_iff_toInt_le, Int32.lt_iff_toInt_lt, ti_add, ti_sub, ti_mul, Int32.reduceToInt] at *; omega)) (by have q1 := hD.1; have q2 := hD.2.1; have q3 := hD0.1; have q4 := hD0.2.1; first | omega | decide | (simp only [Int32.le_iff_toInt_le, Int32.lt_iff_toInt_lt, ti_add, ti_sub, ti_mul, Int32.reduceToInt] at *; omega)) (fun v7 ev7 => ?_)
    refine ok_if (fun hc8 => ?_) (fun hc8 => ?_)
    · exact ok_rZ (Or.inr rfl) ⟨hT, (show ((1 : Int32) = 0 ∨ (1 : Int32) = 1) ∧ RD σ3.1 ∧ WI 28 σ3.1 from by first | exact ⟨Or.inl rfl, hD, hW⟩ | exact ⟨Or.inr rfl, hD, hW⟩)⟩
    · refine ok_gC rfl ?_
      refine ok_zbT (Q := fun V σ => (V = 0 ∨ V = 1) ∧ RD σ.1 ∧ WI 28 σ.1) hT (s_X5_readLine_28 hN (hR.tr hT) (hX) (hD) (hW)) (by decide) (fun v9 σ10 hOσ10 hT hqv9 => ?_)
      have hqv9 : (v9 = 0 ∨ v9 = 1) ∧ RD σ10.1 ∧ WI 28 σ10.1 := hqv9
      have hD : RD σ10.1 := hqv9.2.1
      have hW : WI 28 σ10.1 := hqv9.2.2
      have hX := hOσ10.1.2 hX
      refine ok_if (fun hc11 => ?_) (fun hc11 => ?_)
      · exact ok_rZ (Or.inl rfl) ⟨hT, (show ((0 : Int32) = 0 ∨ (0 : Int32) = 1) ∧ RD σ10.1 ∧ WI 28 σ10.1 from by first | exact ⟨Or.inl rfl, hD, hW⟩ | exact ⟨Or.inr rfl, hD, hW⟩)⟩
      · refine ok_gI rfl ?_
        refine ok_pI hT rfl (by decide) (fun σ13 eσ13 hOσ13 hT => ?_)
        have hX := hOσ13.1.2 hX
        have hD : RD σ13.1 := RD.tr hOσ13 (by decide) (by decide) (by decide) (by decide) hD
        have hW : WI 28 σ13.1 := WI_p1 eσ13 hW
        exact ih9_3 (x4_3 + 1, σ13) (show Tr [28, 29, 30, 31, 57, 58, 59, 61, 62, 63, 64] σ0 σ13 ∧ (0 ≤ (x4_3 + 1).toInt ∧ σ13.2.2 57 5 = 1) ∧ (RD σ13.1) ∧ (WI 28 σ13.1) from ⟨hT, (by exact ⟨by have q1 := hD.1; have q2 := hD.2.1; have q3 := hD0.1; have q4 := hD0.2.1; first | omega | decide | (simp only [Int32.le_iff_toInt_le, Int32.lt_iff_toInt_lt, ti_add, ti_sub, ti_mul, Int32.reduceToInt] at *; omega), hX⟩), hD, hW⟩) (show (601 - (x4_3 + 1).toInt).toNat < (601 - x4_3.toInt).toNat from (by have q1 := hD.1; have q2 := hD.2.1; have q3 := hD0.1; have q4 := hD0.2.1; first | omega | decide | (simp only [Int32.le_iff_toInt_le, Int32.lt_iff_toInt_lt, ti_add, ti_sub, ti_mul, Int32.reduceToInt] at *; omega)))

theorem TOK_A {s : Nat → Nat → Int32} (h : TOK s) : (0 ≤ (s 218 10).toInt ∧ (s 218 10).toInt ≤ (s 218 9).toInt) ∧ (s 218 9).toInt ≤ 600 := by
  have h := h.1
  omega

set_option maxHeartbeats 4000000 in
set_option maxRecDepth 100000 in
theorem s_X12_begins {N : Nat} (hN : 1048576 ≤ N)  {σ0 : zS}  (hR : RF σ0.2.2) (hp : 0 ≤ (σ0.1 218 7).toInt ∧ (σ0.1 218 7).toInt ≤ 600) (hY : BYT (σ0.1 224)) : Ok (f_X12_begins N 218 σ0) (fun r => Tr [218] σ0 r.2 ∧ ((TOK r.2.1 ∧ r.2.1 218 14 = 0 ∧ r.2.1 218 25 = 0 ∧ r.2.1 218 7 = 0) ∧ (r.2.1 218 20 = σ0.1 218 20 ∧ r.2.1 218 22 = σ0.1 218 22 ∧ r.2.1 218 23 = σ0.1 218 23 ∧ r.2.1 218 24 = σ0.1 218 24))) := by
  have hT : Tr [218] σ0 σ0 := Tr.rf
  rw [f_X12_begins.eq_1]
  refine ok_gI rfl ?_
  refine ok_pI hT rfl (by decide) (fun σ2 eσ2 hOσ2 hT => ?_)
  have g7_σ2 : σ2.1 218 7 = (σ0.1 218 7) := zI_atN eσ2 (by decide)
  have g9_σ2 : σ2.1 218 9 = (σ0.1 218 7) := zI_atI eσ2
  have g10_σ2 : σ2.1 218 10 = (σ0.1 218 10) := zI_atN eσ2 (by decide)
  have g11_σ2 : σ2.1 218 11 = (σ0.1 218 11) := zI_atN eσ2 (by decide)
  have g12_σ2 : σ2.1 218 12 = (σ0.1 218 12) := zI_atN eσ2 (by decide)
  have g13_σ2 : σ2.1 218 13 = (σ0.1 218 13) := zI_atN eσ2 (by decide)
  have g14_σ2 : σ2.1 218 14 = (σ0.1 218 14) := zI_atN eσ2 (by decide)
  have g15_σ2 : σ2.1 218 15 = (σ0.1 218 15) := zI_atN eσ2 (by decide)
  have g20_σ2 : σ2.1 218 20 = (σ0.1 218 20) := zI_atN eσ2 (by decide)
  have g22_σ2 : σ2.1 218 22 = (σ0.1 218 22) := zI_atN eσ2 (by decide)
  have g23_σ2 : σ2.1 218 23 = (σ0.1 218 23) := zI_atN eσ2 (by decide)
  have g24_σ2 : σ2.1 218 24 = (σ0.1 218 24) := zI_atN eσ2 (by decide)
  have g25_σ2 : σ2.1 218 25 = (σ0.1 218 25) := zI_atN eσ2 (by decide)
  refine ok_pI hT rfl (by decide) (fun σ3 eσ3 hOσ3 hT => ?_)
  have g7_σ3 : σ3.1 218 7 = (0 : Int32) := zI_atI eσ3
  have g9_σ3 : σ3.1 218 9 = (σ0.1 218 7) := (zI_atN eσ3 (by decide)).trans g9_σ2
  have g10_σ3 : σ3.1 218 10 = (σ0.1 218 10) := (zI_atN eσ3 (by decide)).trans g10_σ2
  have g11_σ3 : σ3.1 218 11 = (σ0.1 218 11) := (zI_atN eσ3 (by decide)).trans g11_σ2
  have g12_σ3 : σ3.1 218 12 = (σ0.1 218 12) := (zI_atN eσ3 (by decide)).trans g12_σ2
  have g13_σ3 : σ3.1 218 13 = (σ0.1 218 13) := (zI_atN eσ3 (by decide)).trans g13_σ2
  have g14_σ3 : σ3.1 218 14 = (σ0.1 218 14) := (zI_atN eσ3 (by decide)).trans g14_σ2
  have g15_σ3 : σ3.1 218 15 = (σ0.1 218 15) := (zI_atN eσ3 (by decide)).trans g15_σ2
  have g20_σ3 : σ3.1 218 20 = (σ0.1 218 20) := (zI_atN eσ3 (by decide)).trans g20_σ2
  have g22_σ3 : σ3.1 218 22 = (σ0.1 218 22) := (zI_atN eσ3 (by decide)).trans g22_σ2
  have g23_σ3 : σ3.1 218 23 = (σ0.1 218 23) := (zI_atN eσ3 (by decide)).trans g23_σ2
  have g24_σ3 : σ3.1 218 24 = (σ0.1 218 24) := (zI_atN eσ3 (by decide)).trans g24_σ2
  have g25_σ3 : σ3.1 218 25 = (σ0.1 218 25) := (zI_atN eσ3 (by decide)).trans g25_σ2
  refine ok_pI hT rfl (by decide) (fun σ4 eσ4 hOσ4 hT => ?_)
  have g7_σ4 : σ4.1 218 7 = (0 : Int32) := (zI_atN eσ4 (by decide)).trans g7_σ3
  have g9_σ4 : σ4.1 218 9 = (σ0.1 218 7) := (zI_atN eσ4 (by decide)).trans g9_σ3
  have g10_σ4 : σ4.1 218 10 = (0 : Int32) := zI_atI eσ4
  have g11_σ4 : σ4.1 218 11 = (σ0.1 218 11) := (zI_atN eσ4 (by decide)).trans g11_σ3
  have g12_σ4 : σ4.1 218 12 = (σ0.1 218 12) := (zI_atN eσ4 (by decide)).trans g12_σ3
  have g13_σ4 : σ4.1 218 13 = (σ0.1 218 13) := (zI_atN eσ4 (by decide)).trans g13_σ3
  have g14_σ4 : σ4.1 218 14 = (σ0.1 218 14) := (zI_atN eσ4 (by decide)).trans g14_σ3
  have g15_σ4 : σ4.1 218 15 = (σ0.1 218 15) := (zI_atN eσ4 (by decide)).trans g15_σ3
  have g20_σ4 : σ4.1 218 20 = (σ0.1 218 20) := (zI_atN eσ4 (by decide)).trans g20_σ3
  have g22_σ4 : σ4.1 218 22 = (σ0.1 218 22) := (zI_atN eσ4 (by decide)).trans g22_σ3
  have g23_σ4 : σ4.1 218 23 = (σ0.1 218 23) := (zI_atN eσ4 (by decide)).trans g23_σ3
  have g24_σ4 : σ4.1 218 24 = (σ0.1 218 24) := (zI_atN eσ4 (by decide)).trans g24_σ3
  have g25_σ4 : σ4.1 218 25 = (σ0.1 218 25) := (zI_atN eσ4 (by decide)).trans g25_σ3
  refine ok_pI hT rfl (by decide) (fun σ5 eσ5 hOσ5 hT => ?_)
  have g7_σ5 : σ5.1 218 7 = (0 : Int32) := (zI_atN eσ5 (by decide)).trans g7_σ4
  have g9_σ5 : σ5.1 218 9 = (σ0.1 218 7) := (zI_atN eσ5 (by decide)).trans g9_σ4
  have g10_σ5 : σ5.1 218 10 = (0 : Int32) := (zI_atN eσ5 (by decide)).trans g10_σ4
  have g11_σ5 : σ5.1 218 11 = (σ0.1 218 11) := (zI_atN eσ5 (by decide)).trans g11_σ4
  have g12_σ5 : σ5.1 218 12 = (σ0.1 218 12) := (zI_atN eσ5 (by decide)).trans g12_σ4
  have g13_σ5 : σ5.1 218 13 = (σ0.1 218 13) := (zI_atN eσ5 (by decide)).trans g13_σ4
  have g14_σ5 : σ5.1 218 14 = (0 : Int32) := zI_atI eσ5
  have g15_σ5 : σ5.1 218 15 = (σ0.1 218 15) := (zI_atN eσ5 (by decide)).trans g15_σ4
  have g20_σ5 : σ5.1 218 20 = (σ0.1 218 20) := (zI_atN eσ5 (by decide)).trans g20_σ4
  have g22_σ5 : σ5.1 218 22 = (σ0.1 218 22) := (zI_atN eσ5 (by decide)).trans g22_σ4
  have g23_σ5 : σ5.1 218 23 = (σ0.1 218 23) := (zI_atN eσ5 (by decide)).trans g23_σ4
  have g24_σ5 : σ5.1 218 24 = (σ0.1 218 24) := (zI_atN eσ5 (by decide)).trans g24_σ4
  have g25_σ5 : σ5.1 218 25 = (σ0.1 218 25) := (zI_atN eσ5 (by decide)).trans g25_σ4
  refine ok_pI hT rfl (by decide) (fun σ6 eσ6 hOσ6 hT => ?_)
  have g7_σ6 : σ6.1 218 7 = (0 : Int32) := (zI_atN eσ6 (by decide)).trans g7_σ5
  have g9_σ6 : σ6.1 218 9 = (σ0.1 218 7) := (zI_atN eσ6 (by decide)).trans g9_σ5
  have g10_σ6 : σ6.1 218 10 = (0 : Int32) := (zI_atN eσ6 (by decide)).trans g10_σ5
  have g11_σ6 : σ6.1 218 11 = (σ0.1 218 11) := (zI_atN eσ6 (by decide)).trans g11_σ5
  have g12_σ6 : σ6.1 218 12 = (σ0.1 218 12) := (zI_atN eσ6 (by decide)).trans g12_σ5
  have g13_σ6 : σ6.1 218 13 = (σ0.1 218 13) := (zI_atN eσ6 (by decide)).trans g13_σ5
  have g14_σ6 : σ6.1 218 14 = (0 : Int32) := (zI_atN eσ6 (by decide)).trans g14_σ5
  have g15_σ6 : σ6.1 218 15 = (-1 : Int32) := zI_atI eσ6
  have g20_σ6 : σ6.1 218 20 = (σ0.1 218 20) := (zI_atN eσ6 (by decide)).trans g20_σ5
  have g22_σ6 : σ6.1 218 22 = (σ0.1 218 22) := (zI_atN eσ6 (by decide)).trans g22_σ5
  have g23_σ6 : σ6.1 218 23 = (σ0.1 218 23) := (zI_atN eσ6 (by decide)).trans g23_σ5
  have g24_σ6 : σ6.1 218 24 = (σ0.1 218 24) := (zI_atN eσ6 (by decide)).trans g24_σ5
  have g25_σ6 : σ6.1 218 25 = (σ0.1 218 25) := (zI_atN eσ6 (by decide)).trans g25_σ5
  refine ok_pI hT rfl (by decide) (fun σ7 eσ7 hOσ7 hT => ?_)
  have g7_σ7 : σ7.1 218 7 = (0 : Int32) := (zI_atN eσ7 (by decide)).trans g7_σ6
  have g9_σ7 : σ7.1 218 9 = (σ0.1 218 7) := (zI_atN eσ7 (by decide)).trans g9_σ6
  have g10_σ7 : σ7.1 218 10 = (0 : Int32) := (zI_atN eσ7 (by decide)).trans g10_σ6
  have g11_σ7 : σ7.1 218 11 = (σ0.1 218 11) := (zI_atN eσ7 (by decide)).trans g11_σ6
  have g12_σ7 : σ7.1 218 12 = (σ0.1 218 12) := (zI_atN eσ7 (by decide)).trans g12_σ6
  have g13_σ7 : σ7.1 218 13 = (σ0.1 218 13) := (zI_atN eσ7 (by decide)).trans g13_σ6
  have g14_σ7 : σ7.1 218 14 = (0 : Int32) := (zI_atN eσ7 (by decide)).trans g14_σ6
  have g15_σ7 : σ7.1 218 15 = (-1 : Int32) := (zI_atN eσ7 (by decide)).trans g15_σ6
  have g20_σ7 : σ7.1 218 20 = (σ0.1 218 20) := (zI_atN eσ7 (by decide)).trans g20_σ6
  have g22_σ7 : σ7.1 218 22 = (σ0.1 218 22) := (zI_atN eσ7 (by decide)).trans g22_σ6
  have g23_σ7 : σ7.1 218 23 = (σ0.1 218 23) := (zI_atN eσ7 (by decide)).trans g23_σ6
  have g24_σ7 : σ7.1 218 24 = (σ0.1 218 24) := (zI_atN eσ7 (by decide)).trans g24_σ6
  have g25_σ7 : σ7.1 218 25 = (0 : Int32) := zI_atI eσ7
  refine ok_gC rfl ?_
  refine ok_zbT (Q := fun V σ => (TOK σ.1 ∧ (σ7.1 218 10).toInt ≤ (σ.1 218 11).toInt) ∧ (σ.1 218 7 = σ7.1 218 7 ∧ σ.1 218 9 = σ7.1 218 9 ∧ σ.1 218 14 = σ7.1 218 14 ∧ σ.1 218 15 = σ7.1 218 15 ∧ σ.1 218 20 = σ7.1 218 20 ∧ σ.1 218 22 = σ7.1 218 22 ∧ σ.1 218 23 = σ7.1 218 23 ∧ σ.1 218 24 = σ7.1 218 24 ∧ σ.1 218 25 = σ7.1 218 25)) hT (s_X12_advance hN (hR.tr hT) (by (try simp only [g7_σ7, g9_σ7, g10_σ7, g11_σ7, g12_σ7, g13_σ7, g14_σ7, g15_σ7, g20_σ7, g22_σ7, g23_σ7, g24_σ7, g25_σ7]); simp only [Int32.reduceToInt]; omega) (by rw [hT.2 224 (by decide)]; exact hY)) (by decide) (fun v8 σ9 hOσ9 hT hqv8 => ?_)
  have hqv8 : (TOK σ9.1 ∧ (σ7.1 218 10).toInt ≤ (σ9.1 218 11).toInt) ∧ (σ9.1 218 7 = σ7.1 218 7 ∧ σ9.1 218 9 = σ7.1 218 9 ∧ σ9.1 218 14 = σ7.1 218 14 ∧ σ9.1 218 15 = σ7.1 218 15 ∧ σ9.1 218 20 = σ7.1 218 20 ∧ σ9.1 218 22 = σ7.1 218 22 ∧ σ9.1 218 23 = σ7.1 218 23 ∧ σ9.1 218 24 = σ7.1 218 24 ∧ σ9.1 218 25 = σ7.1 218 25) := hqv8
  have hkv8 := hqv8
  have hqv8 := hqv8.1
  try simp only [g7_σ7, g9_σ7, g10_σ7, g11_σ7, g12_σ7, g13_σ7, g14_σ7, g15_σ7, g20_σ7, g22_σ7, g23_σ7, g24_σ7, g25_σ7] at hqv8
  have g7_σ9 : σ9.1 218 7 = (0 : Int32) := (hkv8.2.1).trans g7_σ7
  have g9_σ9 : σ9.1 218 9 = (σ0.1 218 7) := (hkv8.2.2.1).trans g9_σ7
  have g14_σ9 : σ9.1 218 14 = (0 : Int32) := (hkv8.2.2.2.1).trans g14_σ7
  have g15_σ9 : σ9.1 218 15 = (-1 : Int32) := (hkv8.2.2.2.2.1).trans g15_σ7
  have g20_σ9 : σ9.1 218 20 = (σ0.1 218 20) := (hkv8.2.2.2.2.2.1).trans g20_σ7
  have g22_σ9 : σ9.1 218 22 = (σ0.1 218 22) := (hkv8.2.2.2.2.2.2.1).trans g22_σ7
  have g23_σ9 : σ9.1 218 23 = (σ0.1 218 23) := (hkv8.2.2.2.2.2.2.2.1).trans g23_σ7
  have g24_σ9 : σ9.1 218 24 = (σ0.1 218 24) := (hkv8.2.2.2.2.2.2.2.2.1).trans g24_σ7
  have g25_σ9 : σ9.1 218 25 = (0 : Int32) := (hkv8.2.2.2.2.2.2.2.2.2).trans g25_σ7
  exact ok_some ⟨hT, (show (TOK σ9.1 ∧ σ9.1 218 14 = 0 ∧ σ9.1 218 25 = 0 ∧ σ9.1 218 7 = 0) ∧ (σ9.1 218 20 = σ0.1 218 20 ∧ σ9.1 218 22 = σ0.1 218 22 ∧ σ9.1 218 23 = σ0.1 218 23 ∧ σ9.1 218 24 = σ0.1 218 24) from ⟨by exact ⟨hqv8.1, g14_σ9, g25_σ9, g7_σ9⟩, g20_σ9, g22_σ9, g23_σ9, g24_σ9⟩)⟩

set_option maxHeartbeats 4000000 in
set_option maxRecDepth 100000 in
theorem s_X12_errs {N : Nat} (hN : 1048576 ≤ N) {x1 : Int32} {σ0 : zS}  (hR : RF σ0.2.2) (hK : TOK σ0.1) (hY : BYT (σ0.1 224)) (hk1 : ¬ x1 = 0) : Ok (f_X12_errs N 218 x1 σ0) (fun r => Tr [218] σ0 r.2 ∧ ((TOK r.2.1 ∧ ¬ r.2.1 218 14 = 0) ∧ (r.2.1 218 7 = σ0.1 218 7 ∧ r.2.1 218 9 = σ0.1 218 9 ∧ r.2.1 218 10 = σ0.1 218 10 ∧ r.2.1 218 11 = σ0.1 218 11 ∧ r.2.1 218 12 = σ0.1 218 12 ∧ r.2.1 218 13 = σ0.1 218 13 ∧ r.2.1 218 20 = σ0.1 218 20 ∧ r.2.1 218 22 = σ0.1 218 22 ∧ r.2.1 218 23 = σ0.1 218 23 ∧ r.2.1 218 24 = σ0.1 218 24 ∧ r.2.1 218 25 = σ0.1 218 25))) := by
  have hT : Tr [218] σ0 σ0 := Tr.rf
  have hK1 := hK.1
  rw [f_X12_errs.eq_1]
  refine ok_gC rfl ?_
  refine ok_zbX (Q := fun V => (V = 0 → ¬ σ0.1 218 14 = 0) ∧ (¬ V = 0 → σ0.1 218 14 = 0)) (x_X12_good) (fun v1 hqv1 => ?_)
  have hqv1 : (v1 = 0 → ¬ σ0.1 218 14 = 0) ∧ (¬ v1 = 0 → σ0.1 218 14 = 0) := hqv1
  refine ok_if (fun hc3 => ?_) (fun hc3 => ?_)
  · have qhc3 := hqv1.1 hc3
    have n14 := qhc3
    exact ok_some ⟨hT, (show (TOK σ0.1 ∧ ¬ σ0.1 218 14 = 0) ∧ (σ0.1 218 7 = σ0.1 218 7 ∧ σ0.1 218 9 = σ0.1 218 9 ∧ σ0.1 218 10 = σ0.1 218 10 ∧ σ0.1 218 11 = σ0.1 218 11 ∧ σ0.1 218 12 = σ0.1 218 12 ∧ σ0.1 218 13 = σ0.1 218 13 ∧ σ0.1 218 20 = σ0.1 218 20 ∧ σ0.1 218 22 = σ0.1 218 22 ∧ σ0.1 218 23 = σ0.1 218 23 ∧ σ0.1 218 24 = σ0.1 218 24 ∧ σ0.1 218 25 = σ0.1 218 25) from ⟨by first | exact ⟨hK, n14⟩ | exact ⟨hK, by rw [rfl]; exact hk1⟩, rfl, rfl, rfl, rfl, rfl, rfl, rfl, rfl, rfl, rfl, rfl⟩)⟩
  · have qhc3 := hqv1.2 hc3
    refine ok_pI hT rfl (by decide) (fun σ4 eσ4 hOσ4 hT => ?_)
    have hK : TOK σ4.1 := by first | exact HQ.1 | exact TOK_p eσ4 (by decide) hK
    have g7_σ4 : σ4.1 218 7 = (σ0.1 218 7) := zI_atN eσ4 (by decide)
    have g9_σ4 : σ4.1 218 9 = (σ0.1 218 9) := zI_atN eσ4 (by decide)
    have g10_σ4 : σ4.1 218 10 = (σ0.1 218 10) := zI_atN eσ4 (by decide)
    have g11_σ4 : σ4.1 218 11 = (σ0.1 218 11) := zI_atN eσ4 (by decide)
    have g12_σ4 : σ4.1 218 12 = (σ0.1 218 12) := zI_atN eσ4 (by decide)
    have g13_σ4 : σ4.1 218 13 = (σ0.1 218 13) := zI_atN eσ4 (by decide)
    have g14_σ4 : σ4.1 218 14 = (x1) := zI_atI eσ4
    have g15_σ4 : σ4.1 218 15 = (σ0.1 218 15) := zI_atN eσ4 (by decide)
    have g20_σ4 : σ4.1 218 20 = (σ0.1 218 20) := zI_atN eσ4 (by decide)
    have g22_σ4 : σ4.1 218 22 = (σ0.1 218 22) := zI_atN eσ4 (by decide)
    have g23_σ4 : σ4.1 218 23 = (σ0.1 218 23) := zI_atN eσ4 (by decide)
    have g24_σ4 : σ4.1 218 24 = (σ0.1 218 24) := zI_atN eσ4 (by decide)
    have g25_σ4 : σ4.1 218 25 = (σ0.1 218 25) := zI_atN eσ4 (by decide)
    refine ok_gIv rfl g11_σ4 ?_
    refine ok_pI hT rfl (by decide) (fun σ6 eσ6 hOσ6 hT => ?_)
    have hK : TOK σ6.1 := by first | exact HQ.1 | exact TOK_p eσ6 (by decide) hK
    have g7_σ6 : σ6.1 218 7 = (σ0.1 218 7) := (zI_atN eσ6 (by decide)).trans g7_σ4
    have g9_σ6 : σ6.1 218 9 = (σ0.1 218 9) := (zI_atN eσ6 (by decide)).trans g9_σ4
    have g10_σ6 : σ6.1 218 10 = (σ0.1 218 10) := (zI_atN eσ6 (by decide)).trans g10_σ4
    have g11_σ6 : σ6.1 218 11 = (σ0.1 218 11) := (zI_atN eσ6 (by decide)).trans g11_σ4
    have g12_σ6 : σ6.1 218 12 = (σ0.1 218 12) := (zI_atN eσ6 (by decide)).trans g12_σ4
    have g13_σ6 : σ6.1 218 13 = (σ0.1 218 13) := (zI_atN eσ6 (by decide)).trans g13_σ4
    have g14_σ6 : σ6.1 218 14 = (x1) := (zI_atN eσ6 (by decide)).trans g14_σ4
    have g15_σ6 : σ6.1 218 15 = (σ0.1 218 11) := zI_atI eσ6
    have g20_σ6 : σ6.1 218 20 = (σ0.1 218 20) := (zI_atN eσ6 (by decide)).trans g20_σ4
    have g22_σ6 : σ6.1 218 22 = (σ0.1 218 22) := (zI_atN eσ6 (by decide)).trans g22_σ4
    have g23_σ6 : σ6.1 218 23 = (σ0.1 218 23) := (zI_atN eσ6 (by decide)).trans g23_σ4
    have g24_σ6 : σ6.1 218 24 = (σ0.1 218 24) := (zI_atN eσ6 (by decide)).trans g24_σ4
    have g25_σ6 : σ6.1 218 25 = (σ0.1 218 25) := (zI_atN eσ6 (by decide)).trans g25_σ4
    exact ok_some ⟨hT, (show (TOK σ6.1 ∧ ¬ σ6.1 218 14 = 0) ∧ (σ6.1 218 7 = σ0.1 218 7 ∧ σ6.1 218 9 = σ0.1 218 9 ∧ σ6.1 218 10 = σ0.1 218 10 ∧ σ6.1 218 11 = σ0.1 218 11 ∧ σ6.1 218 12 = σ0.1 218 12 ∧ σ6.1 218 13 = σ0.1 218 13 ∧ σ6.1 218 20 = σ0.1 218 20 ∧ σ6.1 218 22 = σ0.1 218 22 ∧ σ6.1 218 23 = σ0.1 218 23 ∧ σ6.1 218 24 = σ0.1 218 24 ∧ σ6.1 218 25 = σ0.1 218 25) from ⟨by first | exact ⟨hK, n14⟩ | exact ⟨hK, by rw [g14_σ6]; exact hk1⟩, g7_σ6, g9_σ6, g10_σ6, g11_σ6, g12_σ6, g13_σ6, g20_σ6, g22_σ6, g23_σ6, g24_σ6, g25_σ6⟩)⟩

set_option maxHeartbeats 4000000 in
set_option maxRecDepth 100000 in
theorem s_X12_takes {N : Nat} (hN : 1048576 ≤ N) {x1 : Nat} {σ0 : zS}  (hR : RF σ0.2.2) (hK : TOK σ0.1) (hY : BYT (σ0.1 224)) (hw : x1 < zSn) : Ok (f_X12_takes N 218 x1 σ0) (fun r => Tr [218] σ0 r.2 ∧ ((TOK r.2.1 ∧ (σ0.1 218 11).toInt ≤ (r.2.1 218 11).toInt ∧ (r.1 = 0 → r.2 = σ0 ∧ f_X12_is N 218 x1 σ0 = some (0, σ0)) ∧ (¬ r.1 = 0 → ((σ0.1 218 14 = 0 ∧ σ0.1 218 12 = 1) ∧ f_X12_is N 218 x1 σ0 = some (1, σ0)) ∧ (σ0.1 218 11).toInt < (r.2.1 218 11).toInt)) ∧ (r.2.1 218 7 = σ0.1 218 7 ∧ r.2.1 218 9 = σ0.1 218 9 ∧ r.2.1 218 14 = σ0.1 218 14 ∧ r.2.1 218 15 = σ0.1 218 15 ∧ r.2.1 218 20 = σ0.1 218 20 ∧ r.2.1 218 22 = σ0.1 218 22 ∧ r.2.1 218 23 = σ0.1 218 23 ∧ r.2.1 218 24 = σ0.1 218 24 ∧ r.2.1 218 25 = σ0.1 218 25))) := by
  have hT : Tr [218] σ0 σ0 := Tr.rf
  have hK1 := hK.1
  rw [f_X12_takes.eq_1]
  refine ok_gC rfl ?_
  refine ok_zbX (Q := fun V => (V = 0 → f_X12_is N 218 x1 σ0 = some (0, σ0)) ∧ (¬ V = 0 → (σ0.1 218 14 = 0 ∧ σ0.1 218 12 = 1) ∧ V = 1 ∧ f_X12_is N 218 x1 σ0 = some (1, σ0))) (x_X12_is hN (hR.tr hT) hw hK) (fun v1 hqv1 => ?_)
  have hqv1 : (v1 = 0 → f_X12_is N 218 x1 σ0 = some (0, σ0)) ∧ (¬ v1 = 0 → (σ0.1 218 14 = 0 ∧ σ0.1 218 12 = 1) ∧ v1 = 1 ∧ f_X12_is N 218 x1 σ0 = some (1, σ0)) := hqv1
  have z2 : v1 = 0 ∨ v1 = 1 := by by_cases h9 : v1 = 0; exact Or.inl h9; exact Or.inr (hqv1.2 h9).2.1
  refine ok_if (fun hc3 => ?_) (fun hc3 => ?_)
  · have qhc3 := hqv1.1 hc3
    have w7 := hc3
    exact ok_rZ (z2) ⟨hT, (show (TOK σ0.1 ∧ (σ0.1 218 11).toInt ≤ (σ0.1 218 11).toInt ∧ (v1 = 0 → σ0 = σ0 ∧ f_X12_is N 218 x1 σ0 = some (0, σ0)) ∧ (¬ v1 = 0 → ((σ0.1 218 14 = 0 ∧ σ0.1 218 12 = 1) ∧ f_X12_is N 218 x1 σ0 = some (1, σ0)) ∧ (σ0.1 218 11).toInt < (σ0.1 218 11).toInt)) ∧ (σ0.1 218 7 = σ0.1 218 7 ∧ σ0.1 218 9 = σ0.1 218 9 ∧ σ0.1 218 14 = σ0.1 218 14 ∧ σ0.1 218 15 = σ0.1 218 15 ∧ σ0.1 218 20 = σ0.1 218 20 ∧ σ0.1 218 22 = σ0.1 218 22 ∧ σ0.1 218 23 = σ0.1 218 23 ∧ σ0.1 218 24 = σ0.1 218 24 ∧ σ0.1 218 25 = σ0.1 218 25) from ⟨by first | exact ⟨hK, by omega, fun _ => ⟨rfl, hqv1.1 w7⟩, fun q => absurd w7 q⟩ | exact ⟨hK, by omega, fun q => absurd q w7, fun _ => ⟨⟨y7.1, y7.2.2⟩, by omega⟩⟩, rfl, rfl, rfl, rfl, rfl, rfl, rfl, rfl, rfl⟩)⟩
  · have qhc3 := hqv1.2 hc3
    have w7 := hc3
    have l7 := hK.2.1 (by rw [qhc3.1.2]; decide)
    have y7 := qhc3
    refine ok_gC rfl ?_
    refine ok_zbT (Q := fun V σ => (TOK σ.1 ∧ (σ0.1 218 10).toInt ≤ (σ.1 218 11).toInt) ∧ (σ.1 218 7 = σ0.1 218 7 ∧ σ.1 218 9 = σ0.1 218 9 ∧ σ.1 218 14 = σ0.1 218 14 ∧ σ.1 218 15 = σ0.1 218 15 ∧ σ.1 218 20 = σ0.1 218 20 ∧ σ.1 218 22 = σ0.1 218 22 ∧ σ.1 218 23 = σ0.1 218 23 ∧ σ.1 218 24 = σ0.1 218 24 ∧ σ.1 218 25 = σ0.1 218 25)) hT (s_X12_advance hN (hR.tr hT) (TOK_A hK) (by rw [hT.2 224 (by decide)]; exact hY)) (by decide) (fun v4 σ5 hOσ5 hT hqv4 => ?_)
    have hqv4 : (TOK σ5.1 ∧ (σ0.1 218 10).toInt ≤ (σ5.1 218 11).toInt) ∧ (σ5.1 218 7 = σ0.1 218 7 ∧ σ5.1 218 9 = σ0.1 218 9 ∧ σ5.1 218 14 = σ0.1 218 14 ∧ σ5.1 218 15 = σ0.1 218 15 ∧ σ5.1 218 20 = σ0.1 218 20 ∧ σ5.1 218 22 = σ0.1 218 22 ∧ σ5.1 218 23 = σ0.1 218 23 ∧ σ5.1 218 24 = σ0.1 218 24 ∧ σ5.1 218 25 = σ0.1 218 25) := hqv4
    have hkv4 := hqv4
    have hqv4 := hqv4.1
    have hK : TOK σ5.1 := by first | exact hqv4.1 | exact TOK_p eσ5 (by decide) hK
    have g7_σ5 : σ5.1 218 7 = (σ0.1 218 7) := hkv4.2.1
    have g9_σ5 : σ5.1 218 9 = (σ0.1 218 9) := hkv4.2.2.1
    have g14_σ5 : σ5.1 218 14 = (σ0.1 218 14) := hkv4.2.2.2.1
    have g15_σ5 : σ5.1 218 15 = (σ0.1 218 15) := hkv4.2.2.2.2.1
    have g20_σ5 : σ5.1 218 20 = (σ0.1 218 20) := hkv4.2.2.2.2.2.1
    have g22_σ5 : σ5.1 218 22 = (σ0.1 218 22) := hkv4.2.2.2.2.2.2.1
    have g23_σ5 : σ5.1 218 23 = (σ0.1 218 23) := hkv4.2.2.2.2.2.2.2.1
    have g24_σ5 : σ5.1 218 24 = (σ0.1 218 24) := hkv4.2.2.2.2.2.2.2.2.1
    have g25_σ5 : σ5.1 218 25 = (σ0.1 218 25) := hkv4.2.2.2.2.2.2.2.2.2
    exact ok_rZ (z2) ⟨hT, (show (TOK σ5.1 ∧ (σ0.1 218 11).toInt ≤ (σ5.1 218 11).toInt ∧ (v1 = 0 → σ5 = σ0 ∧ f_X12_is N 218 x1 σ0 = some (0, σ0)) ∧ (¬ v1 = 0 → ((σ0.1 218 14 = 0 ∧ σ0.1 218 12 = 1) ∧ f_X12_is N 218 x1 σ0 = some (1, σ0)) ∧ (σ0.1 218 11).toInt < (σ5.1 218 11).toInt)) ∧ (σ5.1 218 7 = σ0.1 218 7 ∧ σ5.1 218 9 = σ0.1 218 9 ∧ σ5.1 218 14 = σ0.1 218 14 ∧ σ5.1 218 15 = σ0.1 218 15 ∧ σ5.1 218 20 = σ0.1 218 20 ∧ σ5.1 218 22 = σ0.1 218 22 ∧ σ5.1 218 23 = σ0.1 218 23 ∧ σ5.1 218 24 = σ0.1 218 24 ∧ σ5.1 218 25 = σ0.1 218 25) from ⟨by first | exact ⟨hK, by omega, fun _ => ⟨rfl, hqv4.1 w7⟩, fun q => absurd w7 q⟩ | exact ⟨hK, by omega, fun q => absurd q w7, fun _ => ⟨⟨y7.1, y7.2.2⟩, by omega⟩⟩, g7_σ5, g9_σ5, g14_σ5, g15_σ5, g20_σ5, g22_σ5, g23_σ5, g24_σ5, g25_σ5⟩)⟩

set_option maxHeartbeats 4000000 in
set_option maxRecDepth 100000 in
theorem s_X12_needs {N : Nat} (hN : 1048576 ≤ N) {x1 : Nat} {σ0 : zS}  (hR : RF σ0.2.2) (hK : TOK σ0.1) (hY : BYT (σ0.1 224)) (hw : x1 < zSn) : Ok (f_X12_needs N 218 x1 σ0) (fun r => Tr [218] σ0 r.2 ∧ ((TOK r.2.1 ∧ (σ0.1 218 11).toInt ≤ (r.2.1 218 11).toInt ∧ (r.2.1 218 14 = 0 → σ0.1 218 14 = 0)) ∧ (r.2.1 218 7 = σ0.1 218 7 ∧ r.2.1 218 9 = σ0.1 218 9 ∧ r.2.1 218 20 = σ0.1 218 20 ∧ r.2.1 218 22 = σ0.1 218 22 ∧ r.2.1 218 23 = σ0.1 218 23 ∧ r.2.1 218 24 = σ0.1 218 24 ∧ r.2.1 218 25 = σ0.1 218 25))) := by
  have hT : Tr [218] σ0 σ0 := Tr.rf
  have hK1 := hK.1
  rw [f_X12_needs.eq_1]
  refine ok_gC rfl ?_
  refine ok_zbT (Q := fun V σ => (TOK σ.1 ∧ (σ0.1 218 11).toInt ≤ (σ.1 218 11).toInt ∧ (V = 0 → σ = σ0 ∧ f_X12_is N 218 x1 σ0 = some (0, σ0)) ∧ (¬ V = 0 → ((σ0.1 218 14 = 0 ∧ σ0.1 218 12 = 1) ∧ f_X12_is N 218 x1 σ0 = some (1, σ0)) ∧ (σ0.1 218 11).toInt < (σ.1 218 11).toInt)) ∧ (σ.1 218 7 = σ0.1 218 7 ∧ σ.1 218 9 = σ0.1 218 9 ∧ σ.1 218 14 = σ0.1 218 14 ∧ σ.1 218 15 = σ0.1 218 15 ∧ σ.1 218 20 = σ0.1 218 20 ∧ σ.1 218 22 = σ0.1 218 22 ∧ σ.1 218 23 = σ0.1 218 23 ∧ σ.1 218 24 = σ0.1 218 24 ∧ σ.1 218 25 = σ0.1 218 25)) hT (s_X12_takes hN (hR.tr hT) (hK) (by rw [hT.2 224 (by decide)]; exact hY) (hw)) (by decide) (fun v1 σ2 hOσ2 hT hqv1 => ?_)
  have hqv1 : (TOK σ2.1 ∧ (σ0.1 218 11).toInt ≤ (σ2.1 218 11).toInt ∧ (v1 = 0 → σ2 = σ0 ∧ f_X12_is N 218 x1 σ0 = some (0, σ0)) ∧ (¬ v1 = 0 → ((σ0.1 218 14 = 0 ∧ σ0.1 218 12 = 1) ∧ f_X12_is N 218 x1 σ0 = some (1, σ0)) ∧ (σ0.1 218 11).toInt < (σ2.1 218 11).toInt)) ∧ (σ2.1 218 7 = σ0.1 218 7 ∧ σ2.1 218 9 = σ0.1 218 9 ∧ σ2.1 218 14 = σ0.1 218 14 ∧ σ2.1 218 15 = σ0.1 218 15 ∧ σ2.1 218 20 = σ0.1 218 20 ∧ σ2.1 218 22 = σ0.1 218 22 ∧ σ2.1 218 23 = σ0.1 218 23 ∧ σ2.1 218 24 = σ0.1 218 24 ∧ σ2.1 218 25 = σ0.1 218 25) := hqv1
  have hkv1 := hqv1
  have hqv1 := hqv1.1
  have hK : TOK σ2.1 := by first | exact hqv1.1 | exact TOK_p eσ2 (by decide) hK
  have g7_σ2 : σ2.1 218 7 = (σ0.1 218 7) := hkv1.2.1
  have g9_σ2 : σ2.1 218 9 = (σ0.1 218 9) := hkv1.2.2.1
  have g14_σ2 : σ2.1 218 14 = (σ0.1 218 14) := hkv1.2.2.2.1
  have g15_σ2 : σ2.1 218 15 = (σ0.1 218 15) := hkv1.2.2.2.2.1
  have g20_σ2 : σ2.1 218 20 = (σ0.1 218 20) := hkv1.2.2.2.2.2.1
  have g22_σ2 : σ2.1 218 22 = (σ0.1 218 22) := hkv1.2.2.2.2.2.2.1
  have g23_σ2 : σ2.1 218 23 = (σ0.1 218 23) := hkv1.2.2.2.2.2.2.2.1
  have g24_σ2 : σ2.1 218 24 = (σ0.1 218 24) := hkv1.2.2.2.2.2.2.2.2.1
  have g25_σ2 : σ2.1 218 25 = (σ0.1 218 25) := hkv1.2.2.2.2.2.2.2.2.2
  have m2 := hqv1.2.1
  refine ok_if (fun hc3 => ?_) (fun hc3 => ?_)
  · refine ok_gC rfl ?_
    refine ok_zbT (Q := fun V σ => (TOK σ.1 ∧ ¬ σ.1 218 14 = 0) ∧ (σ.1 218 7 = σ2.1 218 7 ∧ σ.1 218 9 = σ2.1 218 9 ∧ σ.1 218 10 = σ2.1 218 10 ∧ σ.1 218 11 = σ2.1 218 11 ∧ σ.1 218 12 = σ2.1 218 12 ∧ σ.1 218 13 = σ2.1 218 13 ∧ σ.1 218 20 = σ2.1 218 20 ∧ σ.1 218 22 = σ2.1 218 22 ∧ σ.1 218 23 = σ2.1 218 23 ∧ σ.1 218 24 = σ2.1 218 24 ∧ σ.1 218 25 = σ2.1 218 25)) hT (s_X12_errs hN (hR.tr hT) (hK) (by rw [hT.2 224 (by decide)]; exact hY) (by decide)) (by decide) (fun v4 σ5 hOσ5 hT hqv4 => ?_)
    have hqv4 : (TOK σ5.1 ∧ ¬ σ5.1 218 14 = 0) ∧ (σ5.1 218 7 = σ2.1 218 7 ∧ σ5.1 218 9 = σ2.1 218 9 ∧ σ5.1 218 10 = σ2.1 218 10 ∧ σ5.1 218 11 = σ2.1 218 11 ∧ σ5.1 218 12 = σ2.1 218 12 ∧ σ5.1 218 13 = σ2.1 218 13 ∧ σ5.1 218 20 = σ2.1 218 20 ∧ σ5.1 218 22 = σ2.1 218 22 ∧ σ5.1 218 23 = σ2.1 218 23 ∧ σ5.1 218 24 = σ2.1 218 24 ∧ σ5.1 218 25 = σ2.1 218 25) := hqv4
    have hkv4 := hqv4
    have hqv4 := hqv4.1
    have hK : TOK σ5.1 := by first | exact hqv4.1 | exact TOK_p eσ5 (by decide) hK
    try simp only [g7_σ2, g9_σ2, g14_σ2, g15_σ2, g20_σ2, g22_σ2, g23_σ2, g24_σ2, g25_σ2] at hqv4
    have g7_σ5 : σ5.1 218 7 = (σ0.1 218 7) := (hkv4.2.1).trans g7_σ2
    have g9_σ5 : σ5.1 218 9 = (σ0.1 218 9) := (hkv4.2.2.1).trans g9_σ2
    have g10_σ5 : σ5.1 218 10 = (σ2.1 218 10) := hkv4.2.2.2.1
    have g11_σ5 : σ5.1 218 11 = (σ2.1 218 11) := hkv4.2.2.2.2.1
    have g12_σ5 : σ5.1 218 12 = (σ2.1 218 12) := hkv4.2.2.2.2.2.1
    have g13_σ5 : σ5.1 218 13 = (σ2.1 218 13) := hkv4.2.2.2.2.2.2.1
    have g20_σ5 : σ5.1 218 20 = (σ0.1 218 20) := (hkv4.2.2.2.2.2.2.2.1).trans g20_σ2
    have g22_σ5 : σ5.1 218 22 = (σ0.1 218 22) := (hkv4.2.2.2.2.2.2.2.2.1).trans g22_σ2
    have g23_σ5 : σ5.1 218 23 = (σ0.1 218 23) := (hkv4.2.2.2.2.2.2.2.2.2.1).trans g23_σ2
    have g24_σ5 : σ5.1 218 24 = (σ0.1 218 24) := (hkv4.2.2.2.2.2.2.2.2.2.2.1).trans g24_σ2
    have g25_σ5 : σ5.1 218 25 = (σ0.1 218 25) := (hkv4.2.2.2.2.2.2.2.2.2.2.2).trans g25_σ2
    exact ok_some ⟨hT, (show (TOK σ5.1 ∧ (σ0.1 218 11).toInt ≤ (σ5.1 218 11).toInt ∧ (σ5.1 218 14 = 0 → σ0.1 218 14 = 0)) ∧ (σ5.1 218 7 = σ0.1 218 7 ∧ σ5.1 218 9 = σ0.1 218 9 ∧ σ5.1 218 20 = σ0.1 218 20 ∧ σ5.1 218 22 = σ0.1 218 22 ∧ σ5.1 218 23 = σ0.1 218 23 ∧ σ5.1 218 24 = σ0.1 218 24 ∧ σ5.1 218 25 = σ0.1 218 25) from ⟨by first | exact ⟨hK, by (try simp only [g7_σ5, g9_σ5, g10_σ5, g11_σ5, g12_σ5, g13_σ5, g20_σ5, g22_σ5, g23_σ5, g24_σ5, g25_σ5]); omega, fun q => absurd q (by (try simp only [g7_σ5, g9_σ5, g10_σ5, g11_σ5, g12_σ5, g13_σ5, g20_σ5, g22_σ5, g23_σ5, g24_σ5, g25_σ5]); exact hqv4.2)⟩ | exact ⟨hK, by (try simp only [g7_σ5, g9_σ5, g10_σ5, g11_σ5, g12_σ5, g13_σ5, g20_σ5, g22_σ5, g23_σ5, g24_σ5, g25_σ5]); omega, fun q => by rw [rfl] at q; exact q⟩, g7_σ5, g9_σ5, g20_σ5, g22_σ5, g23_σ5, g24_σ5, g25_σ5⟩)⟩
  · exact ok_some ⟨hT, (show (TOK σ2.1 ∧ (σ0.1 218 11).toInt ≤ (σ2.1 218 11).toInt ∧ (σ2.1 218 14 = 0 → σ0.1 218 14 = 0)) ∧ (σ2.1 218 7 = σ0.1 218 7 ∧ σ2.1 218 9 = σ0.1 218 9 ∧ σ2.1 218 20 = σ0.1 218 20 ∧ σ2.1 218 22 = σ0.1 218 22 ∧ σ2.1 218 23 = σ0.1 218 23 ∧ σ2.1 218 24 = σ0.1 218 24 ∧ σ2.1 218 25 = σ0.1 218 25) from ⟨by first | exact ⟨hK, by (try simp only [g7_σ2, g9_σ2, g14_σ2, g15_σ2, g20_σ2, g22_σ2, g23_σ2, g24_σ2, g25_σ2]); omega, fun q => absurd q (by (try simp only [g7_σ2, g9_σ2, g14_σ2, g15_σ2, g20_σ2, g22_σ2, g23_σ2, g24_σ2, g25_σ2]); exact hqv1.2)⟩ | exact ⟨hK, by (try simp only [g7_σ2, g9_σ2, g14_σ2, g15_σ2, g20_σ2, g22_σ2, g23_σ2, g24_σ2, g25_σ2]); omega, fun q => by rw [g14_σ2] at q; exact q⟩, g7_σ2, g9_σ2, g20_σ2, g22_σ2, g23_σ2, g24_σ2, g25_σ2⟩)⟩

set_option maxHeartbeats 4000000 in
set_option maxRecDepth 100000 in
theorem s_X12_needsSign {N : Nat} (hN : 1048576 ≤ N) {x1 : Int32} {σ0 : zS}  (hR : RF σ0.2.2) (hK : TOK σ0.1) (hY : BYT (σ0.1 224)) (hs1 : ¬ x1 = 0) : Ok (f_X12_needsSign N 218 x1 σ0) (fun r => Tr [218] σ0 r.2 ∧ ((TOK r.2.1 ∧ (σ0.1 218 11).toInt ≤ (r.2.1 218 11).toInt ∧ (r.2.1 218 14 = 0 → σ0.1 218 14 = 0 ∧ (σ0.1 218 11).toInt < (r.2.1 218 11).toInt)) ∧ (r.2.1 218 7 = σ0.1 218 7 ∧ r.2.1 218 9 = σ0.1 218 9 ∧ r.2.1 218 20 = σ0.1 218 20 ∧ r.2.1 218 22 = σ0.1 218 22 ∧ r.2.1 218 23 = σ0.1 218 23 ∧ r.2.1 218 24 = σ0.1 218 24 ∧ r.2.1 218 25 = σ0.1 218 25))) := by
  have hT : Tr [218] σ0 σ0 := Tr.rf
  have hK1 := hK.1
  rw [f_X12_needsSign.eq_1]
  refine ok_gC rfl ?_
  refine ok_zbX (Q := fun V => (V = 0 → ¬ σ0.1 218 14 = 0) ∧ (¬ V = 0 → σ0.1 218 14 = 0)) (x_X12_good) (fun v1 hqv1 => ?_)
  have hqv1 : (v1 = 0 → ¬ σ0.1 218 14 = 0) ∧ (¬ v1 = 0 → σ0.1 218 14 = 0) := hqv1
  refine ok_if (fun hc3 => ?_) (fun hc3 => ?_)
  · have qhc3 := hqv1.1 hc3
    have n4 := qhc3
    rw [J_X12_needsSign_20.eq_1]
    refine ok_gC rfl ?_
    refine ok_zbX (Q := fun V => (V = 0 → ¬ σ0.1 218 14 = 0) ∧ (¬ V = 0 → σ0.1 218 14 = 0)) (x_X12_good) (fun v4 hqv4 => ?_)
    have hqv4 : (v4 = 0 → ¬ σ0.1 218 14 = 0) ∧ (¬ v4 = 0 → σ0.1 218 14 = 0) := hqv4
    refine ok_if (fun hc6 => ?_) (fun hc6 => ?_)
    · have qhc6 := hqv4.1 hc6
      have n24 := qhc6
      exact ok_some ⟨hT, (show (TOK σ0.1 ∧ (σ0.1 218 11).toInt ≤ (σ0.1 218 11).toInt ∧ (σ0.1 218 14 = 0 → σ0.1 218 14 = 0 ∧ (σ0.1 218 11).toInt < (σ0.1 218 11).toInt)) ∧ (σ0.1 218 7 = σ0.1 218 7 ∧ σ0.1 218 9 = σ0.1 218 9 ∧ σ0.1 218 20 = σ0.1 218 20 ∧ σ0.1 218 22 = σ0.1 218 22 ∧ σ0.1 218 23 = σ0.1 218 23 ∧ σ0.1 218 24 = σ0.1 218 24 ∧ σ0.1 218 25 = σ0.1 218 25) from ⟨by first | exact ⟨hK, by skip; omega, fun q => absurd q (by skip; exact n24)⟩ | exact ⟨hK, by skip; omega, fun _ => ⟨y4, by skip; omega⟩⟩ | exact absurd y24 n4 | exact absurd y24 n17, rfl, rfl, rfl, rfl, rfl, rfl, rfl⟩)⟩
    · have qhc6 := hqv4.2 hc6
      have y24 := qhc6
      refine ok_gC rfl ?_
      refine ok_zbT (Q := fun V σ => (TOK σ.1 ∧ (σ0.1 218 10).toInt ≤ (σ.1 218 11).toInt) ∧ (σ.1 218 7 = σ0.1 218 7 ∧ σ.1 218 9 = σ0.1 218 9 ∧ σ.1 218 14 = σ0.1 218 14 ∧ σ.1 218 15 = σ0.1 218 15 ∧ σ.1 218 20 = σ0.1 218 20 ∧ σ.1 218 22 = σ0.1 218 22 ∧ σ.1 218 23 = σ0.1 218 23 ∧ σ.1 218 24 = σ0.1 218 24 ∧ σ.1 218 25 = σ0.1 218 25)) hT (s_X12_advance hN (hR.tr hT) (TOK_A hK) (by rw [hT.2 224 (by decide)]; exact hY)) (by decide) (fun v7 σ8 hOσ8 hT hqv7 => ?_)
      have hqv7 : (TOK σ8.1 ∧ (σ0.1 218 10).toInt ≤ (σ8.1 218 11).toInt) ∧ (σ8.1 218 7 = σ0.1 218 7 ∧ σ8.1 218 9 = σ0.1 218 9 ∧ σ8.1 218 14 = σ0.1 218 14 ∧ σ8.1 218 15 = σ0.1 218 15 ∧ σ8.1 218 20 = σ0.1 218 20 ∧ σ8.1 218 22 = σ0.1 218 22 ∧ σ8.1 218 23 = σ0.1 218 23 ∧ σ8.1 218 24 = σ0.1 218 24 ∧ σ8.1 218 25 = σ0.1 218 25) := hqv7
      have hkv7 := hqv7
      have hqv7 := hqv7.1
      have hK : TOK σ8.1 := by first | exact hqv7.1 | exact TOK_p eσ8 (by decide) hK
      have g7_σ8 : σ8.1 218 7 = (σ0.1 218 7) := hkv7.2.1
      have g9_σ8 : σ8.1 218 9 = (σ0.1 218 9) := hkv7.2.2.1
      have g14_σ8 : σ8.1 218 14 = (σ0.1 218 14) := hkv7.2.2.2.1
      have g15_σ8 : σ8.1 218 15 = (σ0.1 218 15) := hkv7.2.2.2.2.1
      have g20_σ8 : σ8.1 218 20 = (σ0.1 218 20) := hkv7.2.2.2.2.2.1
      have g22_σ8 : σ8.1 218 22 = (σ0.1 218 22) := hkv7.2.2.2.2.2.2.1
      have g23_σ8 : σ8.1 218 23 = (σ0.1 218 23) := hkv7.2.2.2.2.2.2.2.1
      have g24_σ8 : σ8.1 218 24 = (σ0.1 218 24) := hkv7.2.2.2.2.2.2.2.2.1
      have g25_σ8 : σ8.1 218 25 = (σ0.1 218 25) := hkv7.2.2.2.2.2.2.2.2.2
      exact ok_some ⟨hT, (show (TOK σ8.1 ∧ (σ0.1 218 11).toInt ≤ (σ8.1 218 11).toInt ∧ (σ8.1 218 14 = 0 → σ0.1 218 14 = 0 ∧ (σ0.1 218 11).toInt < (σ8.1 218 11).toInt)) ∧ (σ8.1 218 7 = σ0.1 218 7 ∧ σ8.1 218 9 = σ0.1 218 9 ∧ σ8.1 218 20 = σ0.1 218 20 ∧ σ8.1 218 22 = σ0.1 218 22 ∧ σ8.1 218 23 = σ0.1 218 23 ∧ σ8.1 218 24 = σ0.1 218 24 ∧ σ8.1 218 25 = σ0.1 218 25) from ⟨by first | exact ⟨hK, by (try simp only [g7_σ8, g9_σ8, g14_σ8, g15_σ8, g20_σ8, g22_σ8, g23_σ8, g24_σ8, g25_σ8]); omega, fun q => absurd q (by (try simp only [g7_σ8, g9_σ8, g14_σ8, g15_σ8, g20_σ8, g22_σ8, g23_σ8, g24_σ8, g25_σ8]); exact n24)⟩ | exact ⟨hK, by (try simp only [g7_σ8, g9_σ8, g14_σ8, g15_σ8, g20_σ8, g22_σ8, g23_σ8, g24_σ8, g25_σ8]); omega, fun _ => ⟨y4, by (try simp only [g7_σ8, g9_σ8, g14_σ8, g15_σ8, g20_σ8, g22_σ8, g23_σ8, g24_σ8, g25_σ8]); omega⟩⟩ | exact absurd y24 n4 | exact absurd y24 n17, g7_σ8, g9_σ8, g20_σ8, g22_σ8, g23_σ8, g24_σ8, g25_σ8⟩)⟩
  · have qhc3 := hqv1.2 hc3
    have y4 := qhc3
    refine ok_gI rfl ?_
    refine ok_if (fun hc10 => ?_) (fun hc10 => ?_)
    · have l12 := hK.2.1 (by rw [hc10]; exact hs1)
      rw [J_X12_needsSign_20.eq_1]
      refine ok_gC rfl ?_
      refine ok_zbX (Q := fun V => (V = 0 → ¬ σ0.1 218 14 = 0) ∧ (¬ V = 0 → σ0.1 218 14 = 0)) (x_X12_good) (fun v11 hqv11 => ?_)
      have hqv11 : (v11 = 0 → ¬ σ0.1 218 14 = 0) ∧ (¬ v11 = 0 → σ0.1 218 14 = 0) := hqv11
      refine ok_if (fun hc13 => ?_) (fun hc13 => ?_)
      · have qhc13 := hqv11.1 hc13
        have n24 := qhc13
        exact ok_some ⟨hT, (show (TOK σ0.1 ∧ (σ0.1 218 11).toInt ≤ (σ0.1 218 11).toInt ∧ (σ0.1 218 14 = 0 → σ0.1 218 14 = 0 ∧ (σ0.1 218 11).toInt < (σ0.1 218 11).toInt)) ∧ (σ0.1 218 7 = σ0.1 218 7 ∧ σ0.1 218 9 = σ0.1 218 9 ∧ σ0.1 218 20 = σ0.1 218 20 ∧ σ0.1 218 22 = σ0.1 218 22 ∧ σ0.1 218 23 = σ0.1 218 23 ∧ σ0.1 218 24 = σ0.1 218 24 ∧ σ0.1 218 25 = σ0.1 218 25) from ⟨by first | exact ⟨hK, by skip; omega, fun q => absurd q (by skip; exact n24)⟩ | exact ⟨hK, by skip; omega, fun _ => ⟨y4, by skip; omega⟩⟩ | exact absurd y24 n4 | exact absurd y24 n17, rfl, rfl, rfl, rfl, rfl, rfl, rfl⟩)⟩
      · have qhc13 := hqv11.2 hc13
        have y24 := qhc13
        refine ok_gC rfl ?_
        refine ok_zbT (Q := fun V σ => (TOK σ.1 ∧ (σ0.1 218 10).toInt ≤ (σ.1 218 11).toInt) ∧ (σ.1 218 7 = σ0.1 218 7 ∧ σ.1 218 9 = σ0.1 218 9 ∧ σ.1 218 14 = σ0.1 218 14 ∧ σ.1 218 15 = σ0.1 218 15 ∧ σ.1 218 20 = σ0.1 218 20 ∧ σ.1 218 22 = σ0.1 218 22 ∧ σ.1 218 23 = σ0.1 218 23 ∧ σ.1 218 24 = σ0.1 218 24 ∧ σ.1 218 25 = σ0.1 218 25)) hT (s_X12_advance hN (hR.tr hT) (TOK_A hK) (by rw [hT.2 224 (by decide)]; exact hY)) (by decide) (fun v14 σ15 hOσ15 hT hqv14 => ?_)
        have hqv14 : (TOK σ15.1 ∧ (σ0.1 218 10).toInt ≤ (σ15.1 218 11).toInt) ∧ (σ15.1 218 7 = σ0.1 218 7 ∧ σ15.1 218 9 = σ0.1 218 9 ∧ σ15.1 218 14 = σ0.1 218 14 ∧ σ15.1 218 15 = σ0.1 218 15 ∧ σ15.1 218 20 = σ0.1 218 20 ∧ σ15.1 218 22 = σ0.1 218 22 ∧ σ15.1 218 23 = σ0.1 218 23 ∧ σ15.1 218 24 = σ0.1 218 24 ∧ σ15.1 218 25 = σ0.1 218 25) := hqv14
        have hkv14 := hqv14
        have hqv14 := hqv14.1
        have hK : TOK σ15.1 := by first | exact hqv14.1 | exact TOK_p eσ15 (by decide) hK
        have g7_σ15 : σ15.1 218 7 = (σ0.1 218 7) := hkv14.2.1
        have g9_σ15 : σ15.1 218 9 = (σ0.1 218 9) := hkv14.2.2.1
        have g14_σ15 : σ15.1 218 14 = (σ0.1 218 14) := hkv14.2.2.2.1
        have g15_σ15 : σ15.1 218 15 = (σ0.1 218 15) := hkv14.2.2.2.2.1
        have g20_σ15 : σ15.1 218 20 = (σ0.1 218 20) := hkv14.2.2.2.2.2.1
        have g22_σ15 : σ15.1 218 22 = (σ0.1 218 22) := hkv14.2.2.2.2.2.2.1
        have g23_σ15 : σ15.1 218 23 = (σ0.1 218 23) := hkv14.2.2.2.2.2.2.2.1
        have g24_σ15 : σ15.1 218 24 = (σ0.1 218 24) := hkv14.2.2.2.2.2.2.2.2.1
        have g25_σ15 : σ15.1 218 25 = (σ0.1 218 25) := hkv14.2.2.2.2.2.2.2.2.2
        exact ok_some ⟨hT, (show (TOK σ15.1 ∧ (σ0.1 218 11).toInt ≤ (σ15.1 218 11).toInt ∧ (σ15.1 218 14 = 0 → σ0.1 218 14 = 0 ∧ (σ0.1 218 11).toInt < (σ15.1 218 11).toInt)) ∧ (σ15.1 218 7 = σ0.1 218 7 ∧ σ15.1 218 9 = σ0.1 218 9 ∧ σ15.1 218 20 = σ0.1 218 20 ∧ σ15.1 218 22 = σ0.1 218 22 ∧ σ15.1 218 23 = σ0.1 218 23 ∧ σ15.1 218 24 = σ0.1 218 24 ∧ σ15.1 218 25 = σ0.1 218 25) from ⟨by first | exact ⟨hK, by (try simp only [g7_σ15, g9_σ15, g14_σ15, g15_σ15, g20_σ15, g22_σ15, g23_σ15, g24_σ15, g25_σ15]); omega, fun q => absurd q (by (try simp only [g7_σ15, g9_σ15, g14_σ15, g15_σ15, g20_σ15, g22_σ15, g23_σ15, g24_σ15, g25_σ15]); exact n24)⟩ | exact ⟨hK, by (try simp only [g7_σ15, g9_σ15, g14_σ15, g15_σ15, g20_σ15, g22_σ15, g23_σ15, g24_σ15, g25_σ15]); omega, fun _ => ⟨y4, by (try simp only [g7_σ15, g9_σ15, g14_σ15, g15_σ15, g20_σ15, g22_σ15, g23_σ15, g24_σ15, g25_σ15]); omega⟩⟩ | exact absurd y24 n4 | exact absurd y24 n17, g7_σ15, g9_σ15, g20_σ15, g22_σ15, g23_σ15, g24_σ15, g25_σ15⟩)⟩
    · refine ok_gC rfl ?_
      refine ok_zbT (Q := fun V σ => (TOK σ.1 ∧ ¬ σ.1 218 14 = 0) ∧ (σ.1 218 7 = σ0.1 218 7 ∧ σ.1 218 9 = σ0.1 218 9 ∧ σ.1 218 10 = σ0.1 218 10 ∧ σ.1 218 11 = σ0.1 218 11 ∧ σ.1 218 12 = σ0.1 218 12 ∧ σ.1 218 13 = σ0.1 218 13 ∧ σ.1 218 20 = σ0.1 218 20 ∧ σ.1 218 22 = σ0.1 218 22 ∧ σ.1 218 23 = σ0.1 218 23 ∧ σ.1 218 24 = σ0.1 218 24 ∧ σ.1 218 25 = σ0.1 218 25)) hT (s_X12_errs hN (hR.tr hT) (hK) (by rw [hT.2 224 (by decide)]; exact hY) (by decide)) (by decide) (fun v16 σ17 hOσ17 hT hqv16 => ?_)
      have hqv16 : (TOK σ17.1 ∧ ¬ σ17.1 218 14 = 0) ∧ (σ17.1 218 7 = σ0.1 218 7 ∧ σ17.1 218 9 = σ0.1 218 9 ∧ σ17.1 218 10 = σ0.1 218 10 ∧ σ17.1 218 11 = σ0.1 218 11 ∧ σ17.1 218 12 = σ0.1 218 12 ∧ σ17.1 218 13 = σ0.1 218 13 ∧ σ17.1 218 20 = σ0.1 218 20 ∧ σ17.1 218 22 = σ0.1 218 22 ∧ σ17.1 218 23 = σ0.1 218 23 ∧ σ17.1 218 24 = σ0.1 218 24 ∧ σ17.1 218 25 = σ0.1 218 25) := hqv16
      have hkv16 := hqv16
      have hqv16 := hqv16.1
      have hK : TOK σ17.1 := by first | exact hqv16.1 | exact TOK_p eσ17 (by decide) hK
      have g7_σ17 : σ17.1 218 7 = (σ0.1 218 7) := hkv16.2.1
      have g9_σ17 : σ17.1 218 9 = (σ0.1 218 9) := hkv16.2.2.1
      have g10_σ17 : σ17.1 218 10 = (σ0.1 218 10) := hkv16.2.2.2.1
      have g11_σ17 : σ17.1 218 11 = (σ0.1 218 11) := hkv16.2.2.2.2.1
      have g12_σ17 : σ17.1 218 12 = (σ0.1 218 12) := hkv16.2.2.2.2.2.1
      have g13_σ17 : σ17.1 218 13 = (σ0.1 218 13) := hkv16.2.2.2.2.2.2.1
      have g20_σ17 : σ17.1 218 20 = (σ0.1 218 20) := hkv16.2.2.2.2.2.2.2.1
      have g22_σ17 : σ17.1 218 22 = (σ0.1 218 22) := hkv16.2.2.2.2.2.2.2.2.1
      have g23_σ17 : σ17.1 218 23 = (σ0.1 218 23) := hkv16.2.2.2.2.2.2.2.2.2.1
      have g24_σ17 : σ17.1 218 24 = (σ0.1 218 24) := hkv16.2.2.2.2.2.2.2.2.2.2.1
      have g25_σ17 : σ17.1 218 25 = (σ0.1 218 25) := hkv16.2.2.2.2.2.2.2.2.2.2.2
      have n17 := hqv16.2
      rw [J_X12_needsSign_20.eq_1]
      refine ok_gC rfl ?_
      refine ok_zbX (Q := fun V => (V = 0 → ¬ σ17.1 218 14 = 0) ∧ (¬ V = 0 → σ17.1 218 14 = 0)) (x_X12_good) (fun v18 hqv18 => ?_)
      have hqv18 : (v18 = 0 → ¬ σ17.1 218 14 = 0) ∧ (¬ v18 = 0 → σ17.1 218 14 = 0) := hqv18
      try simp only [g7_σ17, g9_σ17, g10_σ17, g11_σ17, g12_σ17, g13_σ17, g20_σ17, g22_σ17, g23_σ17, g24_σ17, g25_σ17, hT.2 224 (by decide)] at hqv18
      refine ok_if (fun hc20 => ?_) (fun hc20 => ?_)
      · have qhc20 := hqv18.1 hc20
        have n24 := qhc20
        exact ok_some ⟨hT, (show (TOK σ17.1 ∧ (σ0.1 218 11).toInt ≤ (σ17.1 218 11).toInt ∧ (σ17.1 218 14 = 0 → σ0.1 218 14 = 0 ∧ (σ0.1 218 11).toInt < (σ17.1 218 11).toInt)) ∧ (σ17.1 218 7 = σ0.1 218 7 ∧ σ17.1 218 9 = σ0.1 218 9 ∧ σ17.1 218 20 = σ0.1 218 20 ∧ σ17.1 218 22 = σ0.1 218 22 ∧ σ17.1 218 23 = σ0.1 218 23 ∧ σ17.1 218 24 = σ0.1 218 24 ∧ σ17.1 218 25 = σ0.1 218 25) from ⟨by first | exact ⟨hK, by (try simp only [g7_σ17, g9_σ17, g10_σ17, g11_σ17, g12_σ17, g13_σ17, g20_σ17, g22_σ17, g23_σ17, g24_σ17, g25_σ17]); omega, fun q => absurd q (by (try simp only [g7_σ17, g9_σ17, g10_σ17, g11_σ17, g12_σ17, g13_σ17, g20_σ17, g22_σ17, g23_σ17, g24_σ17, g25_σ17]); exact n24)⟩ | exact ⟨hK, by (try simp only [g7_σ17, g9_σ17, g10_σ17, g11_σ17, g12_σ17, g13_σ17, g20_σ17, g22_σ17, g23_σ17, g24_σ17, g25_σ17]); omega, fun _ => ⟨y4, by (try simp only [g7_σ17, g9_σ17, g10_σ17, g11_σ17, g12_σ17, g13_σ17, g20_σ17, g22_σ17, g23_σ17, g24_σ17, g25_σ17]); omega⟩⟩ | exact absurd y24 n4 | exact absurd y24 n17, g7_σ17, g9_σ17, g20_σ17, g22_σ17, g23_σ17, g24_σ17, g25_σ17⟩)⟩
      · have qhc20 := hqv18.2 hc20
        have y24 := qhc20
        refine ok_gC rfl ?_
        refine ok_zbT (Q := fun V σ => (TOK σ.1 ∧ (σ17.1 218 10).toInt ≤ (σ.1 218 11).toInt) ∧ (σ.1 218 7 = σ17.1 218 7 ∧ σ.1 218 9 = σ17.1 218 9 ∧ σ.1 218 14 = σ17.1 218 14 ∧ σ.1 218 15 = σ17.1 218 15 ∧ σ.1 218 20 = σ17.1 218 20 ∧ σ.1 218 22 = σ17.1 218 22 ∧ σ.1 218 23 = σ17.1 218 23 ∧ σ.1 218 24 = σ17.1 218 24 ∧ σ.1 218 25 = σ17.1 218 25)) hT (s_X12_advance hN (hR.tr hT) (TOK_A hK) (by rw [hT.2 224 (by decide)]; exact hY)) (by decide) (fun v21 σ22 hOσ22 hT hqv21 => ?_)
        have hqv21 : (TOK σ22.1 ∧ (σ17.1 218 10).toInt ≤ (σ22.1 218 11).toInt) ∧ (σ22.1 218 7 = σ17.1 218 7 ∧ σ22.1 218 9 = σ17.1 218 9 ∧ σ22.1 218 14 = σ17.1 218 14 ∧ σ22.1 218 15 = σ17.1 218 15 ∧ σ22.1 218 20 = σ17.1 218 20 ∧ σ22.1 218 22 = σ17.1 218 22 ∧ σ22.1 218 23 = σ17.1 218 23 ∧ σ22.1 218 24 = σ17.1 218 24 ∧ σ22.1 218 25 = σ17.1 218 25) := hqv21
        have hkv21 := hqv21
        have hqv21 := hqv21.1
        have hK : TOK σ22.1 := by first | exact hqv21.1 | exact TOK_p eσ22 (by decide) hK
        try simp only [g7_σ17, g9_σ17, g10_σ17, g11_σ17, g12_σ17, g13_σ17, g20_σ17, g22_σ17, g23_σ17, g24_σ17, g25_σ17] at hqv21
        have g7_σ22 : σ22.1 218 7 = (σ0.1 218 7) := (hkv21.2.1).trans g7_σ17
        have g9_σ22 : σ22.1 218 9 = (σ0.1 218 9) := (hkv21.2.2.1).trans g9_σ17
        have g14_σ22 : σ22.1 218 14 = (σ17.1 218 14) := hkv21.2.2.2.1
        have g15_σ22 : σ22.1 218 15 = (σ17.1 218 15) := hkv21.2.2.2.2.1
        have g20_σ22 : σ22.1 218 20 = (σ0.1 218 20) := (hkv21.2.2.2.2.2.1).trans g20_σ17
        have g22_σ22 : σ22.1 218 22 = (σ0.1 218 22) := (hkv21.2.2.2.2.2.2.1).trans g22_σ17
        have g23_σ22 : σ22.1 218 23 = (σ0.1 218 23) := (hkv21.2.2.2.2.2.2.2.1).trans g23_σ17
        have g24_σ22 : σ22.1 218 24 = (σ0.1 218 24) := (hkv21.2.2.2.2.2.2.2.2.1).trans g24_σ17
        have g25_σ22 : σ22.1 218 25 = (σ0.1 218 25) := (hkv21.2.2.2.2.2.2.2.2.2).trans g25_σ17
        exact ok_some ⟨hT, (show (TOK σ22.1 ∧ (σ0.1 218 11).toInt ≤ (σ22.1 218 11).toInt ∧ (σ22.1 218 14 = 0 → σ0.1 218 14 = 0 ∧ (σ0.1 218 11).toInt < (σ22.1 218 11).toInt)) ∧ (σ22.1 218 7 = σ0.1 218 7 ∧ σ22.1 218 9 = σ0.1 218 9 ∧ σ22.1 218 20 = σ0.1 218 20 ∧ σ22.1 218 22 = σ0.1 218 22 ∧ σ22.1 218 23 = σ0.1 218 23 ∧ σ22.1 218 24 = σ0.1 218 24 ∧ σ22.1 218 25 = σ0.1 218 25) from ⟨by first | exact ⟨hK, by (try simp only [g7_σ22, g9_σ22, g14_σ22, g15_σ22, g20_σ22, g22_σ22, g23_σ22, g24_σ22, g25_σ22]); omega, fun q => absurd q (by (try simp only [g7_σ22, g9_σ22, g14_σ22, g15_σ22, g20_σ22, g22_σ22, g23_σ22, g24_σ22, g25_σ22]); exact n24)⟩ | exact ⟨hK, by (try simp only [g7_σ22, g9_σ22, g14_σ22, g15_σ22, g20_σ22, g22_σ22, g23_σ22, g24_σ22, g25_σ22]); omega, fun _ => ⟨y4, by (try simp only [g7_σ22, g9_σ22, g14_σ22, g15_σ22, g20_σ22, g22_σ22, g23_σ22, g24_σ22, g25_σ22]); omega⟩⟩ | exact absurd y24 n4 | exact absurd y24 n17, g7_σ22, g9_σ22, g20_σ22, g22_σ22, g23_σ22, g24_σ22, g25_σ22⟩)⟩

set_option maxHeartbeats 4000000 in
set_option maxRecDepth 100000 in
theorem s_X12_number {N : Nat} (hN : 1048576 ≤ N) {x1 : Int32} {x2 : Int32} {σ0 : zS}  (hR : RF σ0.2.2) (hK : TOK σ0.1) (hY : BYT (σ0.1 224)) : Ok (f_X12_number N 218 x1 x2 σ0) (fun r => Tr [218] σ0 r.2 ∧ ((TOK r.2.1 ∧ (σ0.1 218 11).toInt ≤ (r.2.1 218 11).toInt ∧ (r.2.1 218 14 = 0 → (σ0.1 218 14 = 0 ∧ (σ0.1 218 11).toInt < (r.2.1 218 11).toInt) ∧ x1.toInt ≤ r.1.toInt ∧ r.1.toInt ≤ x2.toInt) ∧ (¬ r.2.1 218 14 = 0 → r.1 = 0)) ∧ (r.2.1 218 7 = σ0.1 218 7 ∧ r.2.1 218 9 = σ0.1 218 9 ∧ r.2.1 218 20 = σ0.1 218 20 ∧ r.2.1 218 22 = σ0.1 218 22 ∧ r.2.1 218 23 = σ0.1 218 23 ∧ r.2.1 218 24 = σ0.1 218 24 ∧ r.2.1 218 25 = σ0.1 218 25))) := by
  have hT : Tr [218] σ0 σ0 := Tr.rf
  have hK1 := hK.1
  rw [f_X12_number.eq_1]
  refine ok_gC rfl ?_
  refine ok_zbX (Q := fun V => (V = 0 → ¬ σ0.1 218 14 = 0) ∧ (¬ V = 0 → σ0.1 218 14 = 0)) (x_X12_good) (fun v1 hqv1 => ?_)
  have hqv1 : (v1 = 0 → ¬ σ0.1 218 14 = 0) ∧ (¬ v1 = 0 → σ0.1 218 14 = 0) := hqv1
  refine ok_if (fun hc3 => ?_) (fun hc3 => ?_)
  · have qhc3 := hqv1.1 hc3
    have n4 := qhc3
    rw [J_X12_number_20.eq_1]
    refine ok_gC rfl ?_
    refine ok_zbX (Q := fun V => (V = 0 → ¬ σ0.1 218 14 = 0) ∧ (¬ V = 0 → σ0.1 218 14 = 0)) (x_X12_good) (fun v4 hqv4 => ?_)
    have hqv4 : (v4 = 0 → ¬ σ0.1 218 14 = 0) ∧ (¬ v4 = 0 → σ0.1 218 14 = 0) := hqv4
    refine ok_if (fun hc6 => ?_) (fun hc6 => ?_)
    · have qhc6 := hqv4.1 hc6
      have n24 := qhc6
      rw [J_X12_number_47.eq_1]
      refine ok_gC rfl ?_
      refine ok_zbX (Q := fun V => (V = 0 → ¬ σ0.1 218 14 = 0) ∧ (¬ V = 0 → σ0.1 218 14 = 0)) (x_X12_good) (fun v7 hqv7 => ?_)
      have hqv7 : (v7 = 0 → ¬ σ0.1 218 14 = 0) ∧ (¬ v7 = 0 → σ0.1 218 14 = 0) := hqv7
      refine ok_if (fun hc9 => ?_) (fun hc9 => ?_)
      · have qhc9 := hqv7.1 hc9
        have n51 := qhc9
        exact ok_some ⟨hT, (show (TOK σ0.1 ∧ (σ0.1 218 11).toInt ≤ (σ0.1 218 11).toInt ∧ (σ0.1 218 14 = 0 → (σ0.1 218 14 = 0 ∧ (σ0.1 218 11).toInt < (σ0.1 218 11).toInt) ∧ x1.toInt ≤ (0 : Int32).toInt ∧ (0 : Int32).toInt ≤ x2.toInt) ∧ (¬ σ0.1 218 14 = 0 → (0 : Int32) = 0)) ∧ (σ0.1 218 7 = σ0.1 218 7 ∧ σ0.1 218 9 = σ0.1 218 9 ∧ σ0.1 218 20 = σ0.1 218 20 ∧ σ0.1 218 22 = σ0.1 218 22 ∧ σ0.1 218 23 = σ0.1 218 23 ∧ σ0.1 218 24 = σ0.1 218 24 ∧ σ0.1 218 25 = σ0.1 218 25) from ⟨by first | exact ⟨hK, by skip; omega, fun q => absurd q (by skip; exact n51), fun _ => rfl⟩ | exact ⟨hK, by skip; omega, fun _ => ⟨⟨y4, by skip; omega⟩, r39⟩, fun q => absurd (by skip; exact y51) q⟩ | exact absurd y51 n44 | exact absurd y51 n24 | exact absurd y51 n17 | exact absurd y51 n4, rfl, rfl, rfl, rfl, rfl, rfl, rfl⟩)⟩
      · have qhc9 := hqv7.2 hc9
        have y51 := qhc9
        refine ok_gI rfl ?_
        refine ok_gC rfl ?_
        refine ok_zbT (Q := fun V σ => (TOK σ.1 ∧ (σ0.1 218 10).toInt ≤ (σ.1 218 11).toInt) ∧ (σ.1 218 7 = σ0.1 218 7 ∧ σ.1 218 9 = σ0.1 218 9 ∧ σ.1 218 14 = σ0.1 218 14 ∧ σ.1 218 15 = σ0.1 218 15 ∧ σ.1 218 20 = σ0.1 218 20 ∧ σ.1 218 22 = σ0.1 218 22 ∧ σ.1 218 23 = σ0.1 218 23 ∧ σ.1 218 24 = σ0.1 218 24 ∧ σ.1 218 25 = σ0.1 218 25)) hT (s_X12_advance hN (hR.tr hT) (TOK_A hK) (by rw [hT.2 224 (by decide)]; exact hY)) (by decide) (fun v11 σ12 hOσ12 hT hqv11 => ?_)
        have hqv11 : (TOK σ12.1 ∧ (σ0.1 218 10).toInt ≤ (σ12.1 218 11).toInt) ∧ (σ12.1 218 7 = σ0.1 218 7 ∧ σ12.1 218 9 = σ0.1 218 9 ∧ σ12.1 218 14 = σ0.1 218 14 ∧ σ12.1 218 15 = σ0.1 218 15 ∧ σ12.1 218 20 = σ0.1 218 20 ∧ σ12.1 218 22 = σ0.1 218 22 ∧ σ12.1 218 23 = σ0.1 218 23 ∧ σ12.1 218 24 = σ0.1 218 24 ∧ σ12.1 218 25 = σ0.1 218 25) := hqv11
        have hkv11 := hqv11
        have hqv11 := hqv11.1
        have hK : TOK σ12.1 := by first | exact hqv11.1 | exact TOK_p eσ12 (by decide) hK
        have g7_σ12 : σ12.1 218 7 = (σ0.1 218 7) := hkv11.2.1
        have g9_σ12 : σ12.1 218 9 = (σ0.1 218 9) := hkv11.2.2.1
        have g14_σ12 : σ12.1 218 14 = (σ0.1 218 14) := hkv11.2.2.2.1
        have g15_σ12 : σ12.1 218 15 = (σ0.1 218 15) := hkv11.2.2.2.2.1
        have g20_σ12 : σ12.1 218 20 = (σ0.1 218 20) := hkv11.2.2.2.2.2.1
        have g22_σ12 : σ12.1 218 22 = (σ0.1 218 22) := hkv11.2.2.2.2.2.2.1
        have g23_σ12 : σ12.1 218 23 = (σ0.1 218 23) := hkv11.2.2.2.2.2.2.2.1
        have g24_σ12 : σ12.1 218 24 = (σ0.1 218 24) := hkv11.2.2.2.2.2.2.2.2.1
        have g25_σ12 : σ12.1 218 25 = (σ0.1 218 25) := hkv11.2.2.2.2.2.2.2.2.2
        exact ok_some ⟨hT, (show (TOK σ12.1 ∧ (σ0.1 218 11).toInt ≤ (σ12.1 218 11).toInt ∧ (σ12.1 218 14 = 0 → (σ0.1 218 14 = 0 ∧ (σ0.1 218 11).toInt < (σ12.1 218 11).toInt) ∧ x1.toInt ≤ ((σ0.1 218 13)).toInt ∧ ((σ0.1 218 13)).toInt ≤ x2.toInt) ∧ (¬ σ12.1 218 14 = 0 → ((σ0.1 218 13)) = 0)) ∧ (σ12.1 218 7 = σ0.1 218 7 ∧ σ12.1 218 9 = σ0.1 218 9 ∧ σ12.1 218 20 = σ0.1 218 20 ∧ σ12.1 218 22 = σ0.1 218 22 ∧ σ12.1 218 23 = σ0.1 218 23 ∧ σ12.1 218 24 = σ0.1 218 24 ∧ σ12.1 218 25 = σ0.1 218 25) from ⟨by first | exact ⟨hK, by (try simp only [g7_σ12, g9_σ12, g14_σ12, g15_σ12, g20_σ12, g22_σ12, g23_σ12, g24_σ12, g25_σ12]); omega, fun q => absurd q (by (try simp only [g7_σ12, g9_σ12, g14_σ12, g15_σ12, g20_σ12, g22_σ12, g23_σ12, g24_σ12, g25_σ12]); exact n51), fun _ => rfl⟩ | exact ⟨hK, by (try simp only [g7_σ12, g9_σ12, g14_σ12, g15_σ12, g20_σ12, g22_σ12, g23_σ12, g24_σ12, g25_σ12]); omega, fun _ => ⟨⟨y4, by (try simp only [g7_σ12, g9_σ12, g14_σ12, g15_σ12, g20_σ12, g22_σ12, g23_σ12, g24_σ12, g25_σ12]); omega⟩, r39⟩, fun q => absurd (by (try simp only [g7_σ12, g9_σ12, g14_σ12, g15_σ12, g20_σ12, g22_σ12, g23_σ12, g24_σ12, g25_σ12]); exact y51) q⟩ | exact absurd y51 n44 | exact absurd y51 n24 | exact absurd y51 n17 | exact absurd y51 n4, g7_σ12, g9_σ12, g20_σ12, g22_σ12, g23_σ12, g24_σ12, g25_σ12⟩)⟩
    · have qhc6 := hqv4.2 hc6
      have y24 := qhc6
      refine ok_gI rfl ?_
      refine ok_zbX (Q := fun V => (V = 0 → ¬ ((Int32.toInt64 x1).toInt ≤ (Int32.toInt64 (σ0.1 218 13)).toInt ∧ (Int32.toInt64 (σ0.1 218 13)).toInt ≤ (Int32.toInt64 x2).toInt)) ∧ (¬ V = 0 → (Int32.toInt64 x1).toInt ≤ (Int32.toInt64 (σ0.1 218 13)).toInt ∧ (Int32.toInt64 (σ0.1 218 13)).toInt ≤ (Int32.toInt64 x2).toInt)) (xi_X12_in) (fun v14 hqv14 => ?_)
      have hqv14 : (v14 = 0 → ¬ ((Int32.toInt64 x1).toInt ≤ (Int32.toInt64 (σ0.1 218 13)).toInt ∧ (Int32.toInt64 (σ0.1 218 13)).toInt ≤ (Int32.toInt64 x2).toInt)) ∧ (¬ v14 = 0 → (Int32.toInt64 x1).toInt ≤ (Int32.toInt64 (σ0.1 218 13)).toInt ∧ (Int32.toInt64 (σ0.1 218 13)).toInt ≤ (Int32.toInt64 x2).toInt) := hqv14
      simp only [i64_of, Int64.reduceToInt] at hqv14
      refine ok_if (fun hc16 => ?_) (fun hc16 => ?_)
      · have qhc16 := hqv14.1 hc16
        refine ok_gC rfl ?_
        refine ok_zbT (Q := fun V σ => (TOK σ.1 ∧ ¬ σ.1 218 14 = 0) ∧ (σ.1 218 7 = σ0.1 218 7 ∧ σ.1 218 9 = σ0.1 218 9 ∧ σ.1 218 10 = σ0.1 218 10 ∧ σ.1 218 11 = σ0.1 218 11 ∧ σ.1 218 12 = σ0.1 218 12 ∧ σ.1 218 13 = σ0.1 218 13 ∧ σ.1 218 20 = σ0.1 218 20 ∧ σ.1 218 22 = σ0.1 218 22 ∧ σ.1 218 23 = σ0.1 218 23 ∧ σ.1 218 24 = σ0.1 218 24 ∧ σ.1 218 25 = σ0.1 218 25)) hT (s_X12_errs hN (hR.tr hT) (hK) (by rw [hT.2 224 (by decide)]; exact hY) (by decide)) (by decide) (fun v17 σ18 hOσ18 hT hqv17 => ?_)
        have hqv17 : (TOK σ18.1 ∧ ¬ σ18.1 218 14 = 0) ∧ (σ18.1 218 7 = σ0.1 218 7 ∧ σ18.1 218 9 = σ0.1 218 9 ∧ σ18.1 218 10 = σ0.1 218 10 ∧ σ18.1 218 11 = σ0.1 218 11 ∧ σ18.1 218 12 = σ0.1 218 12 ∧ σ18.1 218 13 = σ0.1 218 13 ∧ σ18.1 218 20 = σ0.1 218 20 ∧ σ18.1 218 22 = σ0.1 218 22 ∧ σ18.1 218 23 = σ0.1 218 23 ∧ σ18.1 218 24 = σ0.1 218 24 ∧ σ18.1 218 25 = σ0.1 218 25) := hqv17
        have hkv17 := hqv17
        have hqv17 := hqv17.1
        have hK : TOK σ18.1 := by first | exact hqv17.1 | exact TOK_p eσ18 (by decide) hK
        have g7_σ18 : σ18.1 218 7 = (σ0.1 218 7) := hkv17.2.1
        have g9_σ18 : σ18.1 218 9 = (σ0.1 218 9) := hkv17.2.2.1
        have g10_σ18 : σ18.1 218 10 = (σ0.1 218 10) := hkv17.2.2.2.1
        have g11_σ18 : σ18.1 218 11 = (σ0.1 218 11) := hkv17.2.2.2.2.1
        have g12_σ18 : σ18.1 218 12 = (σ0.1 218 12) := hkv17.2.2.2.2.2.1
        have g13_σ18 : σ18.1 218 13 = (σ0.1 218 13) := hkv17.2.2.2.2.2.2.1
        have g20_σ18 : σ18.1 218 20 = (σ0.1 218 20) := hkv17.2.2.2.2.2.2.2.1
        have g22_σ18 : σ18.1 218 22 = (σ0.1 218 22) := hkv17.2.2.2.2.2.2.2.2.1
        have g23_σ18 : σ18.1 218 23 = (σ0.1 218 23) := hkv17.2.2.2.2.2.2.2.2.2.1
        have g24_σ18 : σ18.1 218 24 = (σ0.1 218 24) := hkv17.2.2.2.2.2.2.2.2.2.2.1
        have g25_σ18 : σ18.1 218 25 = (σ0.1 218 25) := hkv17.2.2.2.2.2.2.2.2.2.2.2
        have n44 := hqv17.2
        rw [J_X12_number_47.eq_1]
        refine ok_gC rfl ?_
        refine ok_zbX (Q := fun V => (V = 0 → ¬ σ18.1 218 14 = 0) ∧ (¬ V = 0 → σ18.1 218 14 = 0)) (x_X12_good) (fun v19 hqv19 => ?_)
        have hqv19 : (v19 = 0 → ¬ σ18.1 218 14 = 0) ∧ (¬ v19 = 0 → σ18.1 218 14 = 0) := hqv19
        try simp only [g7_σ18, g9_σ18, g10_σ18, g11_σ18, g12_σ18, g13_σ18, g20_σ18, g22_σ18, g23_σ18, g24_σ18, g25_σ18, hT.2 224 (by decide)] at hqv19
        refine ok_if (fun hc21 => ?_) (fun hc21 => ?_)
        · have qhc21 := hqv19.1 hc21
          have n51 := qhc21
          exact ok_some ⟨hT, (show (TOK σ18.1 ∧ (σ0.1 218 11).toInt ≤ (σ18.1 218 11).toInt ∧ (σ18.1 218 14 = 0 → (σ0.1 218 14 = 0 ∧ (σ0.1 218 11).toInt < (σ18.1 218 11).toInt) ∧ x1.toInt ≤ (0 : Int32).toInt ∧ (0 : Int32).toInt ≤ x2.toInt) ∧ (¬ σ18.1 218 14 = 0 → (0 : Int32) = 0)) ∧ (σ18.1 218 7 = σ0.1 218 7 ∧ σ18.1 218 9 = σ0.1 218 9 ∧ σ18.1 218 20 = σ0.1 218 20 ∧ σ18.1 218 22 = σ0.1 218 22 ∧ σ18.1 218 23 = σ0.1 218 23 ∧ σ18.1 218 24 = σ0.1 218 24 ∧ σ18.1 218 25 = σ0.1 218 25) from ⟨by first | exact ⟨hK, by (try simp only [g7_σ18, g9_σ18, g10_σ18, g11_σ18, g12_σ18, g13_σ18, g20_σ18, g22_σ18, g23_σ18, g24_σ18, g25_σ18]); omega, fun q => absurd q (by (try simp only [g7_σ18, g9_σ18, g10_σ18, g11_σ18, g12_σ18, g13_σ18, g20_σ18, g22_σ18, g23_σ18, g24_σ18, g25_σ18]); exact n51), fun _ => rfl⟩ | exact ⟨hK, by (try simp only [g7_σ18, g9_σ18, g10_σ18, g11_σ18, g12_σ18, g13_σ18, g20_σ18, g22_σ18, g23_σ18, g24_σ18, g25_σ18]); omega, fun _ => ⟨⟨y4, by (try simp only [g7_σ18, g9_σ18, g10_σ18, g11_σ18, g12_σ18, g13_σ18, g20_σ18, g22_σ18, g23_σ18, g24_σ18, g25_σ18]); omega⟩, r39⟩, fun q => absurd (by (try simp only [g7_σ18, g9_σ18, g10_σ18, g11_σ18, g12_σ18, g13_σ18, g20_σ18, g22_σ18, g23_σ18, g24_σ18, g25_σ18]); exact y51) q⟩ | exact absurd y51 n44 | exact absurd y51 n24 | exact absurd y51 n17 | exact absurd y51 n4, g7_σ18, g9_σ18, g20_σ18, g22_σ18, g23_σ18, g24_σ18, g25_σ18⟩)⟩
        · have qhc21 := hqv19.2 hc21
          have y51 := qhc21
          refine ok_gIv rfl g13_σ18 ?_
          refine ok_gC rfl ?_
          refine ok_zbT (Q := fun V σ => (TOK σ.1 ∧ (σ18.1 218 10).toInt ≤ (σ.1 218 11).toInt) ∧ (σ.1 218 7 = σ18.1 218 7 ∧ σ.1 218 9 = σ18.1 218 9 ∧ σ.1 218 14 = σ18.1 218 14 ∧ σ.1 218 15 = σ18.1 218 15 ∧ σ.1 218 20 = σ18.1 218 20 ∧ σ.1 218 22 = σ18.1 218 22 ∧ σ.1 218 23 = σ18.1 218 23 ∧ σ.1 218 24 = σ18.1 218 24 ∧ σ.1 218 25 = σ18.1 218 25)) hT (s_X12_advance hN (hR.tr hT) (TOK_A hK) (by rw [hT.2 224 (by decide)]; exact hY)) (by decide) (fun v23 σ24 hOσ24 hT hqv23 => ?_)
          have hqv23 : (TOK σ24.1 ∧ (σ18.1 218 10).toInt ≤ (σ24.1 218 11).toInt) ∧ (σ24.1 218 7 = σ18.1 218 7 ∧ σ24.1 218 9 = σ18.1 218 9 ∧ σ24.1 218 14 = σ18.1 218 14 ∧ σ24.1 218 15 = σ18.1 218 15 ∧ σ24.1 218 20 = σ18.1 218 20 ∧ σ24.1 218 22 = σ18.1 218 22 ∧ σ24.1 218 23 = σ18.1 218 23 ∧ σ24.1 218 24 = σ18.1 218 24 ∧ σ24.1 218 25 = σ18.1 218 25) := hqv23
          have hkv23 := hqv23
          have hqv23 := hqv23.1
          have hK : TOK σ24.1 := by first | exact hqv23.1 | exact TOK_p eσ24 (by decide) hK
          try simp only [g7_σ18, g9_σ18, g10_σ18, g11_σ18, g12_σ18, g13_σ18, g20_σ18, g22_σ18, g23_σ18, g24_σ18, g25_σ18] at hqv23
          have g7_σ24 : σ24.1 218 7 = (σ0.1 218 7) := (hkv23.2.1).trans g7_σ18
          have g9_σ24 : σ24.1 218 9 = (σ0.1 218 9) := (hkv23.2.2.1).trans g9_σ18
          have g14_σ24 : σ24.1 218 14 = (σ18.1 218 14) := hkv23.2.2.2.1
          have g15_σ24 : σ24.1 218 15 = (σ18.1 218 15) := hkv23.2.2.2.2.1
          have g20_σ24 : σ24.1 218 20 = (σ0.1 218 20) := (hkv23.2.2.2.2.2.1).trans g20_σ18
          have g22_σ24 : σ24.1 218 22 = (σ0.1 218 22) := (hkv23.2.2.2.2.2.2.1).trans g22_σ18
          have g23_σ24 : σ24.1 218 23 = (σ0.1 218 23) := (hkv23.2.2.2.2.2.2.2.1).trans g23_σ18
          have g24_σ24 : σ24.1 218 24 = (σ0.1 218 24) := (hkv23.2.2.2.2.2.2.2.2.1).trans g24_σ18
          have g25_σ24 : σ24.1 218 25 = (σ0.1 218 25) := (hkv23.2.2.2.2.2.2.2.2.2).trans g25_σ18
          exact ok_some ⟨hT, (show (TOK σ24.1 ∧ (σ0.1 218 11).toInt ≤ (σ24.1 218 11).toInt ∧ (σ24.1 218 14 = 0 → (σ0.1 218 14 = 0 ∧ (σ0.1 218 11).toInt < (σ24.1 218 11).toInt) ∧ x1.toInt ≤ ((σ0.1 218 13)).toInt ∧ ((σ0.1 218 13)).toInt ≤ x2.toInt) ∧ (¬ σ24.1 218 14 = 0 → ((σ0.1 218 13)) = 0)) ∧ (σ24.1 218 7 = σ0.1 218 7 ∧ σ24.1 218 9 = σ0.1 218 9 ∧ σ24.1 218 20 = σ0.1 218 20 ∧ σ24.1 218 22 = σ0.1 218 22 ∧ σ24.1 218 23 = σ0.1 218 23 ∧ σ24.1 218 24 = σ0.1 218 24 ∧ σ24.1 218 25 = σ0.1 218 25) from ⟨by first | exact ⟨hK, by (try simp only [g7_σ24, g9_σ24, g14_σ24, g15_σ24, g20_σ24, g22_σ24, g23_σ24, g24_σ24, g25_σ24]); omega, fun q => absurd q (by (try simp only [g7_σ24, g9_σ24, g14_σ24, g15_σ24, g20_σ24, g22_σ24, g23_σ24, g24_σ24, g25_σ24]); exact n51), fun _ => rfl⟩ | exact ⟨hK, by (try simp only [g7_σ24, g9_σ24, g14_σ24, g15_σ24, g20_σ24, g22_σ24, g23_σ24, g24_σ24, g25_σ24]); omega, fun _ => ⟨⟨y4, by (try simp only [g7_σ24, g9_σ24, g14_σ24, g15_σ24, g20_σ24, g22_σ24, g23_σ24, g24_σ24, g25_σ24]); omega⟩, r39⟩, fun q => absurd (by (try simp only [g7_σ24, g9_σ24, g14_σ24, g15_σ24, g20_σ24, g22_σ24, g23_σ24, g24_σ24, g25_σ24]); exact y51) q⟩ | exact absurd y51 n44 | exact absurd y51 n24 | exact absurd y51 n17 | exact absurd y51 n4, g7_σ24, g9_σ24, g20_σ24, g22_σ24, g23_σ24, g24_σ24, g25_σ24⟩)⟩
      · have qhc16 := hqv14.2 hc16
        have r39 := qhc16
        rw [J_X12_number_47.eq_1]
        refine ok_gC rfl ?_
        refine ok_zbX (Q := fun V => (V = 0 → ¬ σ0.1 218 14 = 0) ∧ (¬ V = 0 → σ0.1 218 14 = 0)) (x_X12_good) (fun v25 hqv25 => ?_)
        have hqv25 : (v25 = 0 → ¬ σ0.1 218 14 = 0) ∧ (¬ v25 = 0 → σ0.1 218 14 = 0) := hqv25
        refine ok_if (fun hc27 => ?_) (fun hc27 => ?_)
        · have qhc27 := hqv25.1 hc27
          have n51 := qhc27
          exact ok_some ⟨hT, (show (TOK σ0.1 ∧ (σ0.1 218 11).toInt ≤ (σ0.1 218 11).toInt ∧ (σ0.1 218 14 = 0 → (σ0.1 218 14 = 0 ∧ (σ0.1 218 11).toInt < (σ0.1 218 11).toInt) ∧ x1.toInt ≤ (0 : Int32).toInt ∧ (0 : Int32).toInt ≤ x2.toInt) ∧ (¬ σ0.1 218 14 = 0 → (0 : Int32) = 0)) ∧ (σ0.1 218 7 = σ0.1 218 7 ∧ σ0.1 218 9 = σ0.1 218 9 ∧ σ0.1 218 20 = σ0.1 218 20 ∧ σ0.1 218 22 = σ0.1 218 22 ∧ σ0.1 218 23 = σ0.1 218 23 ∧ σ0.1 218 24 = σ0.1 218 24 ∧ σ0.1 218 25 = σ0.1 218 25) from ⟨by first | exact ⟨hK, by skip; omega, fun q => absurd q (by skip; exact n51), fun _ => rfl⟩ | exact ⟨hK, by skip; omega, fun _ => ⟨⟨y4, by skip; omega⟩, r39⟩, fun q => absurd (by skip; exact y51) q⟩ | exact absurd y51 n44 | exact absurd y51 n24 | exact absurd y51 n17 | exact absurd y51 n4, rfl, rfl, rfl, rfl, rfl, rfl, rfl⟩)⟩
        · have qhc27 := hqv25.2 hc27
          have y51 := qhc27
          refine ok_gI rfl ?_
          refine ok_gC rfl ?_
          refine ok_zbT (Q := fun V σ => (TOK σ.1 ∧ (σ0.1 218 10).toInt ≤ (σ.1 218 11).toInt) ∧ (σ.1 218 7 = σ0.1 218 7 ∧ σ.1 218 9 = σ0.1 218 9 ∧ σ.1 218 14 = σ0.1 218 14 ∧ σ.1 218 15 = σ0.1 218 15 ∧ σ.1 218 20 = σ0.1 218 20 ∧ σ.1 218 22 = σ0.1 218 22 ∧ σ.1 218 23 = σ0.1 218 23 ∧ σ.1 218 24 = σ0.1 218 24 ∧ σ.1 218 25 = σ0.1 218 25)) hT (s_X12_advance hN (hR.tr hT) (TOK_A hK) (by rw [hT.2 224 (by decide)]; exact hY)) (by decide) (fun v29 σ30 hOσ30 hT hqv29 => ?_)
          have hqv29 : (TOK σ30.1 ∧ (σ0.1 218 10).toInt ≤ (σ30.1 218 11).toInt) ∧ (σ30.1 218 7 = σ0.1 218 7 ∧ σ30.1 218 9 = σ0.1 218 9 ∧ σ30.1 218 14 = σ0.1 218 14 ∧ σ30.1 218 15 = σ0.1 218 15 ∧ σ30.1 218 20 = σ0.1 218 20 ∧ σ30.1 218 22 = σ0.1 218 22 ∧ σ30.1 218 23 = σ0.1 218 23 ∧ σ30.1 218 24 = σ0.1 218 24 ∧ σ30.1 218 25 = σ0.1 218 25) := hqv29
          have hkv29 := hqv29
          have hqv29 := hqv29.1
          have hK : TOK σ30.1 := by first | exact hqv29.1 | exact TOK_p eσ30 (by decide) hK
          have g7_σ30 : σ30.1 218 7 = (σ0.1 218 7) := hkv29.2.1
          have g9_σ30 : σ30.1 218 9 = (σ0.1 218 9) := hkv29.2.2.1
          have g14_σ30 : σ30.1 218 14 = (σ0.1 218 14) := hkv29.2.2.2.1
          have g15_σ30 : σ30.1 218 15 = (σ0.1 218 15) := hkv29.2.2.2.2.1
          have g20_σ30 : σ30.1 218 20 = (σ0.1 218 20) := hkv29.2.2.2.2.2.1
          have g22_σ30 : σ30.1 218 22 = (σ0.1 218 22) := hkv29.2.2.2.2.2.2.1
          have g23_σ30 : σ30.1 218 23 = (σ0.1 218 23) := hkv29.2.2.2.2.2.2.2.1
          have g24_σ30 : σ30.1 218 24 = (σ0.1 218 24) := hkv29.2.2.2.2.2.2.2.2.1
          have g25_σ30 : σ30.1 218 25 = (σ0.1 218 25) := hkv29.2.2.2.2.2.2.2.2.2
          exact ok_some ⟨hT, (show (TOK σ30.1 ∧ (σ0.1 218 11).toInt ≤ (σ30.1 218 11).toInt ∧ (σ30.1 218 14 = 0 → (σ0.1 218 14 = 0 ∧ (σ0.1 218 11).toInt < (σ30.1 218 11).toInt) ∧ x1.toInt ≤ ((σ0.1 218 13)).toInt ∧ ((σ0.1 218 13)).toInt ≤ x2.toInt) ∧ (¬ σ30.1 218 14 = 0 → ((σ0.1 218 13)) = 0)) ∧ (σ30.1 218 7 = σ0.1 218 7 ∧ σ30.1 218 9 = σ0.1 218 9 ∧ σ30.1 218 20 = σ0.1 218 20 ∧ σ30.1 218 22 = σ0.1 218 22 ∧ σ30.1 218 23 = σ0.1 218 23 ∧ σ30.1 218 24 = σ0.1 218 24 ∧ σ30.1 218 25 = σ0.1 218 25) from ⟨by first | exact ⟨hK, by (try simp only [g7_σ30, g9_σ30, g14_σ30, g15_σ30, g20_σ30, g22_σ30, g23_σ30, g24_σ30, g25_σ30]); omega, fun q => absurd q (by (try simp only [g7_σ30, g9_σ30, g14_σ30, g15_σ30, g20_σ30, g22_σ30, g23_σ30, g24_σ30, g25_σ30]); exact n51), fun _ => rfl⟩ | exact ⟨hK, by (try simp only [g7_σ30, g9_σ30, g14_σ30, g15_σ30, g20_σ30, g22_σ30, g23_σ30, g24_σ30, g25_σ30]); omega, fun _ => ⟨⟨y4, by (try simp only [g7_σ30, g9_σ30, g14_σ30, g15_σ30, g20_σ30, g22_σ30, g23_σ30, g24_σ30, g25_σ30]); omega⟩, r39⟩, fun q => absurd (by (try simp only [g7_σ30, g9_σ30, g14_σ30, g15_σ30, g20_σ30, g22_σ30, g23_σ30, g24_σ30, g25_σ30]); exact y51) q⟩ | exact absurd y51 n44 | exact absurd y51 n24 | exact absurd y51 n17 | exact absurd y51 n4, g7_σ30, g9_σ30, g20_σ30, g22_σ30, g23_σ30, g24_σ30, g25_σ30⟩)⟩
  · have qhc3 := hqv1.2 hc3
    have y4 := qhc3
    refine ok_gI rfl ?_
    refine ok_if (fun hc32 => ?_) (fun hc32 => ?_)
    · have l12 := hK.2.1 (by rw [hc32]; decide)
      rw [J_X12_number_20.eq_1]
      refine ok_gC rfl ?_
      refine ok_zbX (Q := fun V => (V = 0 → ¬ σ0.1 218 14 = 0) ∧ (¬ V = 0 → σ0.1 218 14 = 0)) (x_X12_good) (fun v33 hqv33 => ?_)
      have hqv33 : (v33 = 0 → ¬ σ0.1 218 14 = 0) ∧ (¬ v33 = 0 → σ0.1 218 14 = 0) := hqv33
      refine ok_if (fun hc35 => ?_) (fun hc35 => ?_)
      · have qhc35 := hqv33.1 hc35
        have n24 := qhc35
        rw [J_X12_number_47.eq_1]
        refine ok_gC rfl ?_
        refine ok_zbX (Q := fun V => (V = 0 → ¬ σ0.1 218 14 = 0) ∧ (¬ V = 0 → σ0.1 218 14 = 0)) (x_X12_good) (fun v36 hqv36 => ?_)
        have hqv36 : (v36 = 0 → ¬ σ0.1 218 14 = 0) ∧ (¬ v36 = 0 → σ0.1 218 14 = 0) := hqv36
        refine ok_if (fun hc38 => ?_) (fun hc38 => ?_)
        · have qhc38 := hqv36.1 hc38
          have n51 := qhc38
          exact ok_some ⟨hT, (show (TOK σ0.1 ∧ (σ0.1 218 11).toInt ≤ (σ0.1 218 11).toInt ∧ (σ0.1 218 14 = 0 → (σ0.1 218 14 = 0 ∧ (σ0.1 218 11).toInt < (σ0.1 218 11).toInt) ∧ x1.toInt ≤ (0 : Int32).toInt ∧ (0 : Int32).toInt ≤ x2.toInt) ∧ (¬ σ0.1 218 14 = 0 → (0 : Int32) = 0)) ∧ (σ0.1 218 7 = σ0.1 218 7 ∧ σ0.1 218 9 = σ0.1 218 9 ∧ σ0.1 218 20 = σ0.1 218 20 ∧ σ0.1 218 22 = σ0.1 218 22 ∧ σ0.1 218 23 = σ0.1 218 23 ∧ σ0.1 218 24 = σ0.1 218 24 ∧ σ0.1 218 25 = σ0.1 218 25) from ⟨by first | exact ⟨hK, by skip; omega, fun q => absurd q (by skip; exact n51), fun _ => rfl⟩ | exact ⟨hK, by skip; omega, fun _ => ⟨⟨y4, by skip; omega⟩, r39⟩, fun q => absurd (by skip; exact y51) q⟩ | exact absurd y51 n44 | exact absurd y51 n24 | exact absurd y51 n17 | exact absurd y51 n4, rfl, rfl, rfl, rfl, rfl, rfl, rfl⟩)⟩
        · have qhc38 := hqv36.2 hc38
          have y51 := qhc38
          refine ok_gI rfl ?_
          refine ok_gC rfl ?_
          refine ok_zbT (Q := fun V σ => (TOK σ.1 ∧ (σ0.1 218 10).toInt ≤ (σ.1 218 11).toInt) ∧ (σ.1 218 7 = σ0.1 218 7 ∧ σ.1 218 9 = σ0.1 218 9 ∧ σ.1 218 14 = σ0.1 218 14 ∧ σ.1 218 15 = σ0.1 218 15 ∧ σ.1 218 20 = σ0.1 218 20 ∧ σ.1 218 22 = σ0.1 218 22 ∧ σ.1 218 23 = σ0.1 218 23 ∧ σ.1 218 24 = σ0.1 218 24 ∧ σ.1 218 25 = σ0.1 218 25)) hT (s_X12_advance hN (hR.tr hT) (TOK_A hK) (by rw [hT.2 224 (by decide)]; exact hY)) (by decide) (fun v40 σ41 hOσ41 hT hqv40 => ?_)
          have hqv40 : (TOK σ41.1 ∧ (σ0.1 218 10).toInt ≤ (σ41.1 218 11).toInt) ∧ (σ41.1 218 7 = σ0.1 218 7 ∧ σ41.1 218 9 = σ0.1 218 9 ∧ σ41.1 218 14 = σ0.1 218 14 ∧ σ41.1 218 15 = σ0.1 218 15 ∧ σ41.1 218 20 = σ0.1 218 20 ∧ σ41.1 218 22 = σ0.1 218 22 ∧ σ41.1 218 23 = σ0.1 218 23 ∧ σ41.1 218 24 = σ0.1 218 24 ∧ σ41.1 218 25 = σ0.1 218 25) := hqv40
          have hkv40 := hqv40
          have hqv40 := hqv40.1
          have hK : TOK σ41.1 := by first | exact hqv40.1 | exact TOK_p eσ41 (by decide) hK
          have g7_σ41 : σ41.1 218 7 = (σ0.1 218 7) := hkv40.2.1
          have g9_σ41 : σ41.1 218 9 = (σ0.1 218 9) := hkv40.2.2.1
          have g14_σ41 : σ41.1 218 14 = (σ0.1 218 14) := hkv40.2.2.2.1
          have g15_σ41 : σ41.1 218 15 = (σ0.1 218 15) := hkv40.2.2.2.2.1
          have g20_σ41 : σ41.1 218 20 = (σ0.1 218 20) := hkv40.2.2.2.2.2.1
          have g22_σ41 : σ41.1 218 22 = (σ0.1 218 22) := hkv40.2.2.2.2.2.2.1
          have g23_σ41 : σ41.1 218 23 = (σ0.1 218 23) := hkv40.2.2.2.2.2.2.2.1
          have g24_σ41 : σ41.1 218 24 = (σ0.1 218 24) := hkv40.2.2.2.2.2.2.2.2.1
          have g25_σ41 : σ41.1 218 25 = (σ0.1 218 25) := hkv40.2.2.2.2.2.2.2.2.2
          exact ok_some ⟨hT, (show (TOK σ41.1 ∧ (σ0.1 218 11).toInt ≤ (σ41.1 218 11).toInt ∧ (σ41.1 218 14 = 0 → (σ0.1 218 14 = 0 ∧ (σ0.1 218 11).toInt < (σ41.1 218 11).toInt) ∧ x1.toInt ≤ ((σ0.1 218 13)).toInt ∧ ((σ0.1 218 13)).toInt ≤ x2.toInt) ∧ (¬ σ41.1 218 14 = 0 → ((σ0.1 218 13)) = 0)) ∧ (σ41.1 218 7 = σ0.1 218 7 ∧ σ41.1 218 9 = σ0.1 218 9 ∧ σ41.1 218 20 = σ0.1 218 20 ∧ σ41.1 218 22 = σ0.1 218 22 ∧ σ41.1 218 23 = σ0.1 218 23 ∧ σ41.1 218 24 = σ0.1 218 24 ∧ σ41.1 218 25 = σ0.1 218 25) from ⟨by first | exact ⟨hK, by (try simp only [g7_σ41, g9_σ41, g14_σ41, g15_σ41, g20_σ41, g22_σ41, g23_σ41, g24_σ41, g25_σ41]); omega, fun q => absurd q (by (try simp only [g7_σ41, g9_σ41, g14_σ41, g15_σ41, g20_σ41, g22_σ41, g23_σ41, g24_σ41, g25_σ41]); exact n51), fun _ => rfl⟩ | exact ⟨hK, by (try simp only [g7_σ41, g9_σ41, g14_σ41, g15_σ41, g20_σ41, g22_σ41, g23_σ41, g24_σ41, g25_σ41]); omega, fun _ => ⟨⟨y4, by (try simp only [g7_σ41, g9_σ41, g14_σ41, g15_σ41, g20_σ41, g22_σ41, g23_σ41, g24_σ41, g25_σ41]); omega⟩, r39⟩, fun q => absurd (by (try simp only [g7_σ41, g9_σ41, g14_σ41, g15_σ41, g20_σ41, g22_σ41, g23_σ41, g24_σ41, g25_σ41]); exact y51) q⟩ | exact absurd y51 n44 | exact absurd y51 n24 | exact absurd y51 n17 | exact absurd y51 n4, g7_σ41, g9_σ41, g20_σ41, g22_σ41, g23_σ41, g24_σ41, g25_σ41⟩)⟩
      · have qhc35 := hqv33.2 hc35
        have y24 := qhc35
        refine ok_gI rfl ?_
        refine ok_zbX (Q := fun V => (V = 0 → ¬ ((Int32.toInt64 x1).toInt ≤ (Int32.toInt64 (σ0.1 218 13)).toInt ∧ (Int32.toInt64 (σ0.1 218 13)).toInt ≤ (Int32.toInt64 x2).toInt)) ∧ (¬ V = 0 → (Int32.toInt64 x1).toInt ≤ (Int32.toInt64 (σ0.1 218 13)).toInt ∧ (Int32.toInt64 (σ0.1 218 13)).toInt ≤ (Int32.toInt64 x2).toInt)) (xi_X12_in) (fun v43 hqv43 => ?_)
        have hqv43 : (v43 = 0 → ¬ ((Int32.toInt64 x1).toInt ≤ (Int32.toInt64 (σ0.1 218 13)).toInt ∧ (Int32.toInt64 (σ0.1 218 13)).toInt ≤ (Int32.toInt64 x2).toInt)) ∧ (¬ v43 = 0 → (Int32.toInt64 x1).toInt ≤ (Int32.toInt64 (σ0.1 218 13)).toInt ∧ (Int32.toInt64 (σ0.1 218 13)).toInt ≤ (Int32.toInt64 x2).toInt) := hqv43
        simp only [i64_of, Int64.reduceToInt] at hqv43
        refine ok_if (fun hc45 => ?_) (fun hc45 => ?_)
        · have qhc45 := hqv43.1 hc45
          refine ok_gC rfl ?_
          refine ok_zbT (Q := fun V σ => (TOK σ.1 ∧ ¬ σ.1 218 14 = 0) ∧ (σ.1 218 7 = σ0.1 218 7 ∧ σ.1 218 9 = σ0.1 218 9 ∧ σ.1 218 10 = σ0.1 218 10 ∧ σ.1 218 11 = σ0.1 218 11 ∧ σ.1 218 12 = σ0.1 218 12 ∧ σ.1 218 13 = σ0.1 218 13 ∧ σ.1 218 20 = σ0.1 218 20 ∧ σ.1 218 22 = σ0.1 218 22 ∧ σ.1 218 23 = σ0.1 218 23 ∧ σ.1 218 24 = σ0.1 218 24 ∧ σ.1 218 25 = σ0.1 218 25)) hT (s_X12_errs hN (hR.tr hT) (hK) (by rw [hT.2 224 (by decide)]; exact hY) (by decide)) (by decide) (fun v46 σ47 hOσ47 hT hqv46 => ?_)
          have hqv46 : (TOK σ47.1 ∧ ¬ σ47.1 218 14 = 0) ∧ (σ47.1 218 7 = σ0.1 218 7 ∧ σ47.1 218 9 = σ0.1 218 9 ∧ σ47.1 218 10 = σ0.1 218 10 ∧ σ47.1 218 11 = σ0.1 218 11 ∧ σ47.1 218 12 = σ0.1 218 12 ∧ σ47.1 218 13 = σ0.1 218 13 ∧ σ47.1 218 20 = σ0.1 218 20 ∧ σ47.1 218 22 = σ0.1 218 22 ∧ σ47.1 218 23 = σ0.1 218 23 ∧ σ47.1 218 24 = σ0.1 218 24 ∧ σ47.1 218 25 = σ0.1 218 25) := hqv46
          have hkv46 := hqv46
          have hqv46 := hqv46.1
          have hK : TOK σ47.1 := by first | exact hqv46.1 | exact TOK_p eσ47 (by decide) hK
          have g7_σ47 : σ47.1 218 7 = (σ0.1 218 7) := hkv46.2.1
          have g9_σ47 : σ47.1 218 9 = (σ0.1 218 9) := hkv46.2.2.1
          have g10_σ47 : σ47.1 218 10 = (σ0.1 218 10) := hkv46.2.2.2.1
          have g11_σ47 : σ47.1 218 11 = (σ0.1 218 11) := hkv46.2.2.2.2.1
          have g12_σ47 : σ47.1 218 12 = (σ0.1 218 12) := hkv46.2.2.2.2.2.1
          have g13_σ47 : σ47.1 218 13 = (σ0.1 218 13) := hkv46.2.2.2.2.2.2.1
          have g20_σ47 : σ47.1 218 20 = (σ0.1 218 20) := hkv46.2.2.2.2.2.2.2.1
          have g22_σ47 : σ47.1 218 22 = (σ0.1 218 22) := hkv46.2.2.2.2.2.2.2.2.1
          have g23_σ47 : σ47.1 218 23 = (σ0.1 218 23) := hkv46.2.2.2.2.2.2.2.2.2.1
          have g24_σ47 : σ47.1 218 24 = (σ0.1 218 24) := hkv46.2.2.2.2.2.2.2.2.2.2.1
          have g25_σ47 : σ47.1 218 25 = (σ0.1 218 25) := hkv46.2.2.2.2.2.2.2.2.2.2.2
          have n44 := hqv46.2
          rw [J_X12_number_47.eq_1]
          refine ok_gC rfl ?_
          refine ok_zbX (Q := fun V => (V = 0 → ¬ σ47.1 218 14 = 0) ∧ (¬ V = 0 → σ47.1 218 14 = 0)) (x_X12_good) (fun v48 hqv48 => ?_)
          have hqv48 : (v48 = 0 → ¬ σ47.1 218 14 = 0) ∧ (¬ v48 = 0 → σ47.1 218 14 = 0) := hqv48
          try simp only [g7_σ47, g9_σ47, g10_σ47, g11_σ47, g12_σ47, g13_σ47, g20_σ47, g22_σ47, g23_σ47, g24_σ47, g25_σ47, hT.2 224 (by decide)] at hqv48
          refine ok_if (fun hc50 => ?_) (fun hc50 => ?_)
          · have qhc50 := hqv48.1 hc50
            have n51 := qhc50
            exact ok_some ⟨hT, (show (TOK σ47.1 ∧ (σ0.1 218 11).toInt ≤ (σ47.1 218 11).toInt ∧ (σ47.1 218 14 = 0 → (σ0.1 218 14 = 0 ∧ (σ0.1 218 11).toInt < (σ47.1 218 11).toInt) ∧ x1.toInt ≤ (0 : Int32).toInt ∧ (0 : Int32).toInt ≤ x2.toInt) ∧ (¬ σ47.1 218 14 = 0 → (0 : Int32) = 0)) ∧ (σ47.1 218 7 = σ0.1 218 7 ∧ σ47.1 218 9 = σ0.1 218 9 ∧ σ47.1 218 20 = σ0.1 218 20 ∧ σ47.1 218 22 = σ0.1 218 22 ∧ σ47.1 218 23 = σ0.1 218 23 ∧ σ47.1 218 24 = σ0.1 218 24 ∧ σ47.1 218 25 = σ0.1 218 25) from ⟨by first | exact ⟨hK, by (try simp only [g7_σ47, g9_σ47, g10_σ47, g11_σ47, g12_σ47, g13_σ47, g20_σ47, g22_σ47, g23_σ47, g24_σ47, g25_σ47]); omega, fun q => absurd q (by (try simp only [g7_σ47, g9_σ47, g10_σ47, g11_σ47, g12_σ47, g13_σ47, g20_σ47, g22_σ47, g23_σ47, g24_σ47, g25_σ47]); exact n51), fun _ => rfl⟩ | exact ⟨hK, by (try simp only [g7_σ47, g9_σ47, g10_σ47, g11_σ47, g12_σ47, g13_σ47, g20_σ47, g22_σ47, g23_σ47, g24_σ47, g25_σ47]); omega, fun _ => ⟨⟨y4, by (try simp only [g7_σ47, g9_σ47, g10_σ47, g11_σ47, g12_σ47, g13_σ47, g20_σ47, g22_σ47, g23_σ47, g24_σ47, g25_σ47]); omega⟩, r39⟩, fun q => absurd (by (try simp only [g7_σ47, g9_σ47, g10_σ47, g11_σ47, g12_σ47, g13_σ47, g20_σ47, g22_σ47, g23_σ47, g24_σ47, g25_σ47]); exact y51) q⟩ | exact absurd y51 n44 | exact absurd y51 n24 | exact absurd y51 n17 | exact absurd y51 n4, g7_σ47, g9_σ47, g20_σ47, g22_σ47, g23_σ47, g24_σ47, g25_σ47⟩)⟩
          · have qhc50 := hqv48.2 hc50
            have y51 := qhc50
            refine ok_gIv rfl g13_σ47 ?_
            refine ok_gC rfl ?_
            refine ok_zbT (Q := fun V σ => (TOK σ.1 ∧ (σ47.1 218 10).toInt ≤ (σ.1 218 11).toInt) ∧ (σ.1 218 7 = σ47.1 218 7 ∧ σ.1 218 9 = σ47.1 218 9 ∧ σ.1 218 14 = σ47.1 218 14 ∧ σ.1 218 15 = σ47.1 218 15 ∧ σ.1 218 20 = σ47.1 218 20 ∧ σ.1 218 22 = σ47.1 218 22 ∧ σ.1 218 23 = σ47.1 218 23 ∧ σ.1 218 24 = σ47.1 218 24 ∧ σ.1 218 25 = σ47.1 218 25)) hT (s_X12_advance hN (hR.tr hT) (TOK_A hK) (by rw [hT.2 224 (by decide)]; exact hY)) (by decide) (fun v52 σ53 hOσ53 hT hqv52 => ?_)
            have hqv52 : (TOK σ53.1 ∧ (σ47.1 218 10).toInt ≤ (σ53.1 218 11).toInt) ∧ (σ53.1 218 7 = σ47.1 218 7 ∧ σ53.1 218 9 = σ47.1 218 9 ∧ σ53.1 218 14 = σ47.1 218 14 ∧ σ53.1 218 15 = σ47.1 218 15 ∧ σ53.1 218 20 = σ47.1 218 20 ∧ σ53.1 218 22 = σ47.1 218 22 ∧ σ53.1 218 23 = σ47.1 218 23 ∧ σ53.1 218 24 = σ47.1 218 24 ∧ σ53.1 218 25 = σ47.1 218 25) := hqv52
            have hkv52 := hqv52
            have hqv52 := hqv52.1
            have hK : TOK σ53.1 := by first | exact hqv52.1 | exact TOK_p eσ53 (by decide) hK
            try simp only [g7_σ47, g9_σ47, g10_σ47, g11_σ47, g12_σ47, g13_σ47, g20_σ47, g22_σ47, g23_σ47, g24_σ47, g25_σ47] at hqv52
            have g7_σ53 : σ53.1 218 7 = (σ0.1 218 7) := (hkv52.2.1).trans g7_σ47
            have g9_σ53 : σ53.1 218 9 = (σ0.1 218 9) := (hkv52.2.2.1).trans g9_σ47
            have g14_σ53 : σ53.1 218 14 = (σ47.1 218 14) := hkv52.2.2.2.1
            have g15_σ53 : σ53.1 218 15 = (σ47.1 218 15) := hkv52.2.2.2.2.1
            have g20_σ53 : σ53.1 218 20 = (σ0.1 218 20) := (hkv52.2.2.2.2.2.1).trans g20_σ47
            have g22_σ53 : σ53.1 218 22 = (σ0.1 218 22) := (hkv52.2.2.2.2.2.2.1).trans g22_σ47
            have g23_σ53 : σ53.1 218 23 = (σ0.1 218 23) := (hkv52.2.2.2.2.2.2.2.1).trans g23_σ47
            have g24_σ53 : σ53.1 218 24 = (σ0.1 218 24) := (hkv52.2.2.2.2.2.2.2.2.1).trans g24_σ47
            have g25_σ53 : σ53.1 218 25 = (σ0.1 218 25) := (hkv52.2.2.2.2.2.2.2.2.2).trans g25_σ47
            exact ok_some ⟨hT, (show (TOK σ53.1 ∧ (σ0.1 218 11).toInt ≤ (σ53.1 218 11).toInt ∧ (σ53.1 218 14 = 0 → (σ0.1 218 14 = 0 ∧ (σ0.1 218 11).toInt < (σ53.1 218 11).toInt) ∧ x1.toInt ≤ ((σ0.1 218 13)).toInt ∧ ((σ0.1 218 13)).toInt ≤ x2.toInt) ∧ (¬ σ53.1 218 14 = 0 → ((σ0.1 218 13)) = 0)) ∧ (σ53.1 218 7 = σ0.1 218 7 ∧ σ53.1 218 9 = σ0.1 218 9 ∧ σ53.1 218 20 = σ0.1 218 20 ∧ σ53.1 218 22 = σ0.1 218 22 ∧ σ53.1 218 23 = σ0.1 218 23 ∧ σ53.1 218 24 = σ0.1 218 24 ∧ σ53.1 218 25 = σ0.1 218 25) from ⟨by first | exact ⟨hK, by (try simp only [g7_σ53, g9_σ53, g14_σ53, g15_σ53, g20_σ53, g22_σ53, g23_σ53, g24_σ53, g25_σ53]); omega, fun q => absurd q (by (try simp only [g7_σ53, g9_σ53, g14_σ53, g15_σ53, g20_σ53, g22_σ53, g23_σ53, g24_σ53, g25_σ53]); exact n51), fun _ => rfl⟩ | exact ⟨hK, by (try simp only [g7_σ53, g9_σ53, g14_σ53, g15_σ53, g20_σ53, g22_σ53, g23_σ53, g24_σ53, g25_σ53]); omega, fun _ => ⟨⟨y4, by (try simp only [g7_σ53, g9_σ53, g14_σ53, g15_σ53, g20_σ53, g22_σ53, g23_σ53, g24_σ53, g25_σ53]); omega⟩, r39⟩, fun q => absurd (by (try simp only [g7_σ53, g9_σ53, g14_σ53, g15_σ53, g20_σ53, g22_σ53, g23_σ53, g24_σ53, g25_σ53]); exact y51) q⟩ | exact absurd y51 n44 | exact absurd y51 n24 | exact absurd y51 n17 | exact absurd y51 n4, g7_σ53, g9_σ53, g20_σ53, g22_σ53, g23_σ53, g24_σ53, g25_σ53⟩)⟩
        · have qhc45 := hqv43.2 hc45
          have r39 := qhc45
          rw [J_X12_number_47.eq_1]
          refine ok_gC rfl ?_
          refine ok_zbX (Q := fun V => (V = 0 → ¬ σ0.1 218 14 = 0) ∧ (¬ V = 0 → σ0.1 218 14 = 0)) (x_X12_good) (fun v54 hqv54 => ?_)
          have hqv54 : (v54 = 0 → ¬ σ0.1 218 14 = 0) ∧ (¬ v54 = 0 → σ0.1 218 14 = 0) := hqv54
          refine ok_if (fun hc56 => ?_) (fun hc56 => ?_)
          · have qhc56 := hqv54.1 hc56
            have n51 := qhc56
            exact ok_some ⟨hT, (show (TOK σ0.1 ∧ (σ0.1 218 11).toInt ≤ (σ0.1 218 11).toInt ∧ (σ0.1 218 14 = 0 → (σ0.1 218 14 = 0 ∧ (σ0.1 218 11).toInt < (σ0.1 218 11).toInt) ∧ x1.toInt ≤ (0 : Int32).toInt ∧ (0 : Int32).toInt ≤ x2.toInt) ∧ (¬ σ0.1 218 14 = 0 → (0 : Int32) = 0)) ∧ (σ0.1 218 7 = σ0.1 218 7 ∧ σ0.1 218 9 = σ0.1 218 9 ∧ σ0.1 218 20 = σ0.1 218 20 ∧ σ0.1 218 22 = σ0.1 218 22 ∧ σ0.1 218 23 = σ0.1 218 23 ∧ σ0.1 218 24 = σ0.1 218 24 ∧ σ0.1 218 25 = σ0.1 218 25) from ⟨by first | exact ⟨hK, by skip; omega, fun q => absurd q (by skip; exact n51), fun _ => rfl⟩ | exact ⟨hK, by skip; omega, fun _ => ⟨⟨y4, by skip; omega⟩, r39⟩, fun q => absurd (by skip; exact y51) q⟩ | exact absurd y51 n44 | exact absurd y51 n24 | exact absurd y51 n17 | exact absurd y51 n4, rfl, rfl, rfl, rfl, rfl, rfl, rfl⟩)⟩
          · have qhc56 := hqv54.2 hc56
            have y51 := qhc56
            refine ok_gI rfl ?_
            refine ok_gC rfl ?_
            refine ok_zbT (Q := fun V σ => (TOK σ.1 ∧ (σ0.1 218 10).toInt ≤ (σ.1 218 11).toInt) ∧ (σ.1 218 7 = σ0.1 218 7 ∧ σ.1 218 9 = σ0.1 218 9 ∧ σ.1 218 14 = σ0.1 218 14 ∧ σ.1 218 15 = σ0.1 218 15 ∧ σ.1 218 20 = σ0.1 218 20 ∧ σ.1 218 22 = σ0.1 218 22 ∧ σ.1 218 23 = σ0.1 218 23 ∧ σ.1 218 24 = σ0.1 218 24 ∧ σ.1 218 25 = σ0.1 218 25)) hT (s_X12_advance hN (hR.tr hT) (TOK_A hK) (by rw [hT.2 224 (by decide)]; exact hY)) (by decide) (fun v58 σ59 hOσ59 hT hqv58 => ?_)
            have hqv58 : (TOK σ59.1 ∧ (σ0.1 218 10).toInt ≤ (σ59.1 218 11).toInt) ∧ (σ59.1 218 7 = σ0.1 218 7 ∧ σ59.1 218 9 = σ0.1 218 9 ∧ σ59.1 218 14 = σ0.1 218 14 ∧ σ59.1 218 15 = σ0.1 218 15 ∧ σ59.1 218 20 = σ0.1 218 20 ∧ σ59.1 218 22 = σ0.1 218 22 ∧ σ59.1 218 23 = σ0.1 218 23 ∧ σ59.1 218 24 = σ0.1 218 24 ∧ σ59.1 218 25 = σ0.1 218 25) := hqv58
            have hkv58 := hqv58
            have hqv58 := hqv58.1
            have hK : TOK σ59.1 := by first | exact hqv58.1 | exact TOK_p eσ59 (by decide) hK
            have g7_σ59 : σ59.1 218 7 = (σ0.1 218 7) := hkv58.2.1
            have g9_σ59 : σ59.1 218 9 = (σ0.1 218 9) := hkv58.2.2.1
            have g14_σ59 : σ59.1 218 14 = (σ0.1 218 14) := hkv58.2.2.2.1
            have g15_σ59 : σ59.1 218 15 = (σ0.1 218 15) := hkv58.2.2.2.2.1
            have g20_σ59 : σ59.1 218 20 = (σ0.1 218 20) := hkv58.2.2.2.2.2.1
            have g22_σ59 : σ59.1 218 22 = (σ0.1 218 22) := hkv58.2.2.2.2.2.2.1
            have g23_σ59 : σ59.1 218 23 = (σ0.1 218 23) := hkv58.2.2.2.2.2.2.2.1
            have g24_σ59 : σ59.1 218 24 = (σ0.1 218 24) := hkv58.2.2.2.2.2.2.2.2.1
            have g25_σ59 : σ59.1 218 25 = (σ0.1 218 25) := hkv58.2.2.2.2.2.2.2.2.2
            exact ok_some ⟨hT, (show (TOK σ59.1 ∧ (σ0.1 218 11).toInt ≤ (σ59.1 218 11).toInt ∧ (σ59.1 218 14 = 0 → (σ0.1 218 14 = 0 ∧ (σ0.1 218 11).toInt < (σ59.1 218 11).toInt) ∧ x1.toInt ≤ ((σ0.1 218 13)).toInt ∧ ((σ0.1 218 13)).toInt ≤ x2.toInt) ∧ (¬ σ59.1 218 14 = 0 → ((σ0.1 218 13)) = 0)) ∧ (σ59.1 218 7 = σ0.1 218 7 ∧ σ59.1 218 9 = σ0.1 218 9 ∧ σ59.1 218 20 = σ0.1 218 20 ∧ σ59.1 218 22 = σ0.1 218 22 ∧ σ59.1 218 23 = σ0.1 218 23 ∧ σ59.1 218 24 = σ0.1 218 24 ∧ σ59.1 218 25 = σ0.1 218 25) from ⟨by first | exact ⟨hK, by (try simp only [g7_σ59, g9_σ59, g14_σ59, g15_σ59, g20_σ59, g22_σ59, g23_σ59, g24_σ59, g25_σ59]); omega, fun q => absurd q (by (try simp only [g7_σ59, g9_σ59, g14_σ59, g15_σ59, g20_σ59, g22_σ59, g23_σ59, g24_σ59, g25_σ59]); exact n51), fun _ => rfl⟩ | exact ⟨hK, by (try simp only [g7_σ59, g9_σ59, g14_σ59, g15_σ59, g20_σ59, g22_σ59, g23_σ59, g24_σ59, g25_σ59]); omega, fun _ => ⟨⟨y4, by (try simp only [g7_σ59, g9_σ59, g14_σ59, g15_σ59, g20_σ59, g22_σ59, g23_σ59, g24_σ59, g25_σ59]); omega⟩, r39⟩, fun q => absurd (by (try simp only [g7_σ59, g9_σ59, g14_σ59, g15_σ59, g20_σ59, g22_σ59, g23_σ59, g24_σ59, g25_σ59]); exact y51) q⟩ | exact absurd y51 n44 | exact absurd y51 n24 | exact absurd y51 n17 | exact absurd y51 n4, g7_σ59, g9_σ59, g20_σ59, g22_σ59, g23_σ59, g24_σ59, g25_σ59⟩)⟩
    · refine ok_gC rfl ?_
      refine ok_zbT (Q := fun V σ => (TOK σ.1 ∧ ¬ σ.1 218 14 = 0) ∧ (σ.1 218 7 = σ0.1 218 7 ∧ σ.1 218 9 = σ0.1 218 9 ∧ σ.1 218 10 = σ0.1 218 10 ∧ σ.1 218 11 = σ0.1 218 11 ∧ σ.1 218 12 = σ0.1 218 12 ∧ σ.1 218 13 = σ0.1 218 13 ∧ σ.1 218 20 = σ0.1 218 20 ∧ σ.1 218 22 = σ0.1 218 22 ∧ σ.1 218 23 = σ0.1 218 23 ∧ σ.1 218 24 = σ0.1 218 24 ∧ σ.1 218 25 = σ0.1 218 25)) hT (s_X12_errs hN (hR.tr hT) (hK) (by rw [hT.2 224 (by decide)]; exact hY) (by decide)) (by decide) (fun v60 σ61 hOσ61 hT hqv60 => ?_)
      have hqv60 : (TOK σ61.1 ∧ ¬ σ61.1 218 14 = 0) ∧ (σ61.1 218 7 = σ0.1 218 7 ∧ σ61.1 218 9 = σ0.1 218 9 ∧ σ61.1 218 10 = σ0.1 218 10 ∧ σ61.1 218 11 = σ0.1 218 11 ∧ σ61.1 218 12 = σ0.1 218 12 ∧ σ61.1 218 13 = σ0.1 218 13 ∧ σ61.1 218 20 = σ0.1 218 20 ∧ σ61.1 218 22 = σ0.1 218 22 ∧ σ61.1 218 23 = σ0.1 218 23 ∧ σ61.1 218 24 = σ0.1 218 24 ∧ σ61.1 218 25 = σ0.1 218 25) := hqv60
      have hkv60 := hqv60
      have hqv60 := hqv60.1
      have hK : TOK σ61.1 := by first | exact hqv60.1 | exact TOK_p eσ61 (by decide) hK
      have g7_σ61 : σ61.1 218 7 = (σ0.1 218 7) := hkv60.2.1
      have g9_σ61 : σ61.1 218 9 = (σ0.1 218 9) := hkv60.2.2.1
      have g10_σ61 : σ61.1 218 10 = (σ0.1 218 10) := hkv60.2.2.2.1
      have g11_σ61 : σ61.1 218 11 = (σ0.1 218 11) := hkv60.2.2.2.2.1
      have g12_σ61 : σ61.1 218 12 = (σ0.1 218 12) := hkv60.2.2.2.2.2.1
      have g13_σ61 : σ61.1 218 13 = (σ0.1 218 13) := hkv60.2.2.2.2.2.2.1
      have g20_σ61 : σ61.1 218 20 = (σ0.1 218 20) := hkv60.2.2.2.2.2.2.2.1
      have g22_σ61 : σ61.1 218 22 = (σ0.1 218 22) := hkv60.2.2.2.2.2.2.2.2.1
      have g23_σ61 : σ61.1 218 23 = (σ0.1 218 23) := hkv60.2.2.2.2.2.2.2.2.2.1
      have g24_σ61 : σ61.1 218 24 = (σ0.1 218 24) := hkv60.2.2.2.2.2.2.2.2.2.2.1
      have g25_σ61 : σ61.1 218 25 = (σ0.1 218 25) := hkv60.2.2.2.2.2.2.2.2.2.2.2
      have n17 := hqv60.2
      rw [J_X12_number_20.eq_1]
      refine ok_gC rfl ?_
      refine ok_zbX (Q := fun V => (V = 0 → ¬ σ61.1 218 14 = 0) ∧ (¬ V = 0 → σ61.1 218 14 = 0)) (x_X12_good) (fun v62 hqv62 => ?_)
      have hqv62 : (v62 = 0 → ¬ σ61.1 218 14 = 0) ∧ (¬ v62 = 0 → σ61.1 218 14 = 0) := hqv62
      try simp only [g7_σ61, g9_σ61, g10_σ61, g11_σ61, g12_σ61, g13_σ61, g20_σ61, g22_σ61, g23_σ61, g24_σ61, g25_σ61, hT.2 224 (by decide)] at hqv62
      refine ok_if (fun hc64 => ?_) (fun hc64 => ?_)
      · have qhc64 := hqv62.1 hc64
        have n24 := qhc64
        rw [J_X12_number_47.eq_1]
        refine ok_gC rfl ?_
        refine ok_zbX (Q := fun V => (V = 0 → ¬ σ61.1 218 14 = 0) ∧ (¬ V = 0 → σ61.1 218 14 = 0)) (x_X12_good) (fun v65 hqv65 => ?_)
        have hqv65 : (v65 = 0 → ¬ σ61.1 218 14 = 0) ∧ (¬ v65 = 0 → σ61.1 218 14 = 0) := hqv65
        try simp only [g7_σ61, g9_σ61, g10_σ61, g11_σ61, g12_σ61, g13_σ61, g20_σ61, g22_σ61, g23_σ61, g24_σ61, g25_σ61, hT.2 224 (by decide)] at hqv65
        refine ok_if (fun hc67 => ?_) (fun hc67 => ?_)
        · have qhc67 := hqv65.1 hc67
          have n51 := qhc67
          exact ok_some ⟨hT, (show (TOK σ61.1 ∧ (σ0.1 218 11).toInt ≤ (σ61.1 218 11).toInt ∧ (σ61.1 218 14 = 0 → (σ0.1 218 14 = 0 ∧ (σ0.1 218 11).toInt < (σ61.1 218 11).toInt) ∧ x1.toInt ≤ (0 : Int32).toInt ∧ (0 : Int32).toInt ≤ x2.toInt) ∧ (¬ σ61.1 218 14 = 0 → (0 : Int32) = 0)) ∧ (σ61.1 218 7 = σ0.1 218 7 ∧ σ61.1 218 9 = σ0.1 218 9 ∧ σ61.1 218 20 = σ0.1 218 20 ∧ σ61.1 218 22 = σ0.1 218 22 ∧ σ61.1 218 23 = σ0.1 218 23 ∧ σ61.1 218 24 = σ0.1 218 24 ∧ σ61.1 218 25 = σ0.1 218 25) from ⟨by first | exact ⟨hK, by (try simp only [g7_σ61, g9_σ61, g10_σ61, g11_σ61, g12_σ61, g13_σ61, g20_σ61, g22_σ61, g23_σ61, g24_σ61, g25_σ61]); omega, fun q => absurd q (by (try simp only [g7_σ61, g9_σ61, g10_σ61, g11_σ61, g12_σ61, g13_σ61, g20_σ61, g22_σ61, g23_σ61, g24_σ61, g25_σ61]); exact n51), fun _ => rfl⟩ | exact ⟨hK, by (try simp only [g7_σ61, g9_σ61, g10_σ61, g11_σ61, g12_σ61, g13_σ61, g20_σ61, g22_σ61, g23_σ61, g24_σ61, g25_σ61]); omega, fun _ => ⟨⟨y4, by (try simp only [g7_σ61, g9_σ61, g10_σ61, g11_σ61, g12_σ61, g13_σ61, g20_σ61, g22_σ61, g23_σ61, g24_σ61, g25_σ61]); omega⟩, r39⟩, fun q => absurd (by (try simp only [g7_σ61, g9_σ61, g10_σ61, g11_σ61, g12_σ61, g13_σ61, g20_σ61, g22_σ61, g23_σ61, g24_σ61, g25_σ61]); exact y51) q⟩ | exact absurd y51 n44 | exact absurd y51 n24 | exact absurd y51 n17 | exact absurd y51 n4, g7_σ61, g9_σ61, g20_σ61, g22_σ61, g23_σ61, g24_σ61, g25_σ61⟩)⟩
        · have qhc67 := hqv65.2 hc67
          have y51 := qhc67
          refine ok_gIv rfl g13_σ61 ?_
          refine ok_gC rfl ?_
          refine ok_zbT (Q := fun V σ => (TOK σ.1 ∧ (σ61.1 218 10).toInt ≤ (σ.1 218 11).toInt) ∧ (σ.1 218 7 = σ61.1 218 7 ∧ σ.1 218 9 = σ61.1 218 9 ∧ σ.1 218 14 = σ61.1 218 14 ∧ σ.1 218 15 = σ61.1 218 15 ∧ σ.1 218 20 = σ61.1 218 20 ∧ σ.1 218 22 = σ61.1 218 22 ∧ σ.1 218 23 = σ61.1 218 23 ∧ σ.1 218 24 = σ61.1 218 24 ∧ σ.1 218 25 = σ61.1 218 25)) hT (s_X12_advance hN (hR.tr hT) (TOK_A hK) (by rw [hT.2 224 (by decide)]; exact hY)) (by decide) (fun v69 σ70 hOσ70 hT hqv69 => ?_)
          have hqv69 : (TOK σ70.1 ∧ (σ61.1 218 10).toInt ≤ (σ70.1 218 11).toInt) ∧ (σ70.1 218 7 = σ61.1 218 7 ∧ σ70.1 218 9 = σ61.1 218 9 ∧ σ70.1 218 14 = σ61.1 218 14 ∧ σ70.1 218 15 = σ61.1 218 15 ∧ σ70.1 218 20 = σ61.1 218 20 ∧ σ70.1 218 22 = σ61.1 218 22 ∧ σ70.1 218 23 = σ61.1 218 23 ∧ σ70.1 218 24 = σ61.1 218 24 ∧ σ70.1 218 25 = σ61.1 218 25) := hqv69
          have hkv69 := hqv69
          have hqv69 := hqv69.1
          have hK : TOK σ70.1 := by first | exact hqv69.1 | exact TOK_p eσ70 (by decide) hK
          try simp only [g7_σ61, g9_σ61, g10_σ61, g11_σ61, g12_σ61, g13_σ61, g20_σ61, g22_σ61, g23_σ61, g24_σ61, g25_σ61] at hqv69
          have g7_σ70 : σ70.1 218 7 = (σ0.1 218 7) := (hkv69.2.1).trans g7_σ61
          have g9_σ70 : σ70.1 218 9 = (σ0.1 218 9) := (hkv69.2.2.1).trans g9_σ61
          have g14_σ70 : σ70.1 218 14 = (σ61.1 218 14) := hkv69.2.2.2.1
          have g15_σ70 : σ70.1 218 15 = (σ61.1 218 15) := hkv69.2.2.2.2.1
          have g20_σ70 : σ70.1 218 20 = (σ0.1 218 20) := (hkv69.2.2.2.2.2.1).trans g20_σ61
          have g22_σ70 : σ70.1 218 22 = (σ0.1 218 22) := (hkv69.2.2.2.2.2.2.1).trans g22_σ61
          have g23_σ70 : σ70.1 218 23 = (σ0.1 218 23) := (hkv69.2.2.2.2.2.2.2.1).trans g23_σ61
          have g24_σ70 : σ70.1 218 24 = (σ0.1 218 24) := (hkv69.2.2.2.2.2.2.2.2.1).trans g24_σ61
          have g25_σ70 : σ70.1 218 25 = (σ0.1 218 25) := (hkv69.2.2.2.2.2.2.2.2.2).trans g25_σ61
          exact ok_some ⟨hT, (show (TOK σ70.1 ∧ (σ0.1 218 11).toInt ≤ (σ70.1 218 11).toInt ∧ (σ70.1 218 14 = 0 → (σ0.1 218 14 = 0 ∧ (σ0.1 218 11).toInt < (σ70.1 218 11).toInt) ∧ x1.toInt ≤ ((σ0.1 218 13)).toInt ∧ ((σ0.1 218 13)).toInt ≤ x2.toInt) ∧ (¬ σ70.1 218 14 = 0 → ((σ0.1 218 13)) = 0)) ∧ (σ70.1 218 7 = σ0.1 218 7 ∧ σ70.1 218 9 = σ0.1 218 9 ∧ σ70.1 218 20 = σ0.1 218 20 ∧ σ70.1 218 22 = σ0.1 218 22 ∧ σ70.1 218 23 = σ0.1 218 23 ∧ σ70.1 218 24 = σ0.1 218 24 ∧ σ70.1 218 25 = σ0.1 218 25) from ⟨by first | exact ⟨hK, by (try simp only [g7_σ70, g9_σ70, g14_σ70, g15_σ70, g20_σ70, g22_σ70, g23_σ70, g24_σ70, g25_σ70]); omega, fun q => absurd q (by (try simp only [g7_σ70, g9_σ70, g14_σ70, g15_σ70, g20_σ70, g22_σ70, g23_σ70, g24_σ70, g25_σ70]); exact n51), fun _ => rfl⟩ | exact ⟨hK, by (try simp only [g7_σ70, g9_σ70, g14_σ70, g15_σ70, g20_σ70, g22_σ70, g23_σ70, g24_σ70, g25_σ70]); omega, fun _ => ⟨⟨y4, by (try simp only [g7_σ70, g9_σ70, g14_σ70, g15_σ70, g20_σ70, g22_σ70, g23_σ70, g24_σ70, g25_σ70]); omega⟩, r39⟩, fun q => absurd (by (try simp only [g7_σ70, g9_σ70, g14_σ70, g15_σ70, g20_σ70, g22_σ70, g23_σ70, g24_σ70, g25_σ70]); exact y51) q⟩ | exact absurd y51 n44 | exact absurd y51 n24 | exact absurd y51 n17 | exact absurd y51 n4, g7_σ70, g9_σ70, g20_σ70, g22_σ70, g23_σ70, g24_σ70, g25_σ70⟩)⟩
      · have qhc64 := hqv62.2 hc64
        have y24 := qhc64
        refine ok_gIv rfl g13_σ61 ?_
        refine ok_zbX (Q := fun V => (V = 0 → ¬ ((Int32.toInt64 x1).toInt ≤ (Int32.toInt64 (σ0.1 218 13)).toInt ∧ (Int32.toInt64 (σ0.1 218 13)).toInt ≤ (Int32.toInt64 x2).toInt)) ∧ (¬ V = 0 → (Int32.toInt64 x1).toInt ≤ (Int32.toInt64 (σ0.1 218 13)).toInt ∧ (Int32.toInt64 (σ0.1 218 13)).toInt ≤ (Int32.toInt64 x2).toInt)) (xi_X12_in) (fun v72 hqv72 => ?_)
        have hqv72 : (v72 = 0 → ¬ ((Int32.toInt64 x1).toInt ≤ (Int32.toInt64 (σ0.1 218 13)).toInt ∧ (Int32.toInt64 (σ0.1 218 13)).toInt ≤ (Int32.toInt64 x2).toInt)) ∧ (¬ v72 = 0 → (Int32.toInt64 x1).toInt ≤ (Int32.toInt64 (σ0.1 218 13)).toInt ∧ (Int32.toInt64 (σ0.1 218 13)).toInt ≤ (Int32.toInt64 x2).toInt) := hqv72
        try simp only [g7_σ61, g9_σ61, g10_σ61, g11_σ61, g12_σ61, g13_σ61, g20_σ61, g22_σ61, g23_σ61, g24_σ61, g25_σ61, hT.2 224 (by decide)] at hqv72
        simp only [i64_of, Int64.reduceToInt] at hqv72
        refine ok_if (fun hc74 => ?_) (fun hc74 => ?_)
        · have qhc74 := hqv72.1 hc74
          refine ok_gC rfl ?_
          refine ok_zbT (Q := fun V σ => (TOK σ.1 ∧ ¬ σ.1 218 14 = 0) ∧ (σ.1 218 7 = σ61.1 218 7 ∧ σ.1 218 9 = σ61.1 218 9 ∧ σ.1 218 10 = σ61.1 218 10 ∧ σ.1 218 11 = σ61.1 218 11 ∧ σ.1 218 12 = σ61.1 218 12 ∧ σ.1 218 13 = σ61.1 218 13 ∧ σ.1 218 20 = σ61.1 218 20 ∧ σ.1 218 22 = σ61.1 218 22 ∧ σ.1 218 23 = σ61.1 218 23 ∧ σ.1 218 24 = σ61.1 218 24 ∧ σ.1 218 25 = σ61.1 218 25)) hT (s_X12_errs hN (hR.tr hT) (hK) (by rw [hT.2 224 (by decide)]; exact hY) (by decide)) (by decide) (fun v75 σ76 hOσ76 hT hqv75 => ?_)
          have hqv75 : (TOK σ76.1 ∧ ¬ σ76.1 218 14 = 0) ∧ (σ76.1 218 7 = σ61.1 218 7 ∧ σ76.1 218 9 = σ61.1 218 9 ∧ σ76.1 218 10 = σ61.1 218 10 ∧ σ76.1 218 11 = σ61.1 218 11 ∧ σ76.1 218 12 = σ61.1 218 12 ∧ σ76.1 218 13 = σ61.1 218 13 ∧ σ76.1 218 20 = σ61.1 218 20 ∧ σ76.1 218 22 = σ61.1 218 22 ∧ σ76.1 218 23 = σ61.1 218 23 ∧ σ76.1 218 24 = σ61.1 218 24 ∧ σ76.1 218 25 = σ61.1 218 25) := hqv75
          have hkv75 := hqv75
          have hqv75 := hqv75.1
          have hK : TOK σ76.1 := by first | exact hqv75.1 | exact TOK_p eσ76 (by decide) hK
          try simp only [g7_σ61, g9_σ61, g10_σ61, g11_σ61, g12_σ61, g13_σ61, g20_σ61, g22_σ61, g23_σ61, g24_σ61, g25_σ61] at hqv75
          have g7_σ76 : σ76.1 218 7 = (σ0.1 218 7) := (hkv75.2.1).trans g7_σ61
          have g9_σ76 : σ76.1 218 9 = (σ0.1 218 9) := (hkv75.2.2.1).trans g9_σ61
          have g10_σ76 : σ76.1 218 10 = (σ0.1 218 10) := (hkv75.2.2.2.1).trans g10_σ61
          have g11_σ76 : σ76.1 218 11 = (σ0.1 218 11) := (hkv75.2.2.2.2.1).trans g11_σ61
          have g12_σ76 : σ76.1 218 12 = (σ0.1 218 12) := (hkv75.2.2.2.2.2.1).trans g12_σ61
          have g13_σ76 : σ76.1 218 13 = (σ0.1 218 13) := (hkv75.2.2.2.2.2.2.1).trans g13_σ61
          have g20_σ76 : σ76.1 218 20 = (σ0.1 218 20) := (hkv75.2.2.2.2.2.2.2.1).trans g20_σ61
          have g22_σ76 : σ76.1 218 22 = (σ0.1 218 22) := (hkv75.2.2.2.2.2.2.2.2.1).trans g22_σ61
          have g23_σ76 : σ76.1 218 23 = (σ0.1 218 23) := (hkv75.2.2.2.2.2.2.2.2.2.1).trans g23_σ61
          have g24_σ76 : σ76.1 218 24 = (σ0.1 218 24) := (hkv75.2.2.2.2.2.2.2.2.2.2.1).trans g24_σ61
          have g25_σ76 : σ76.1 218 25 = (σ0.1 218 25) := (hkv75.2.2.2.2.2.2.2.2.2.2.2).trans g25_σ61
          have n44 := hqv75.2
          rw [J_X12_number_47.eq_1]
          refine ok_gC rfl ?_
          refine ok_zbX (Q := fun V => (V = 0 → ¬ σ76.1 218 14 = 0) ∧ (¬ V = 0 → σ76.1 218 14 = 0)) (x_X12_good) (fun v77 hqv77 => ?_)
          have hqv77 : (v77 = 0 → ¬ σ76.1 218 14 = 0) ∧ (¬ v77 = 0 → σ76.1 218 14 = 0) := hqv77
          try simp only [g7_σ76, g9_σ76, g10_σ76, g11_σ76, g12_σ76, g13_σ76, g20_σ76, g22_σ76, g23_σ76, g24_σ76, g25_σ76, hT.2 224 (by decide)] at hqv77
          refine ok_if (fun hc79 => ?_) (fun hc79 => ?_)
          · have qhc79 := hqv77.1 hc79
            have n51 := qhc79
            exact ok_some ⟨hT, (show (TOK σ76.1 ∧ (σ0.1 218 11).toInt ≤ (σ76.1 218 11).toInt ∧ (σ76.1 218 14 = 0 → (σ0.1 218 14 = 0 ∧ (σ0.1 218 11).toInt < (σ76.1 218 11).toInt) ∧ x1.toInt ≤ (0 : Int32).toInt ∧ (0 : Int32).toInt ≤ x2.toInt) ∧ (¬ σ76.1 218 14 = 0 → (0 : Int32) = 0)) ∧ (σ76.1 218 7 = σ0.1 218 7 ∧ σ76.1 218 9 = σ0.1 218 9 ∧ σ76.1 218 20 = σ0.1 218 20 ∧ σ76.1 218 22 = σ0.1 218 22 ∧ σ76.1 218 23 = σ0.1 218 23 ∧ σ76.1 218 24 = σ0.1 218 24 ∧ σ76.1 218 25 = σ0.1 218 25) from ⟨by first | exact ⟨hK, by (try simp only [g7_σ76, g9_σ76, g10_σ76, g11_σ76, g12_σ76, g13_σ76, g20_σ76, g22_σ76, g23_σ76, g24_σ76, g25_σ76]); omega, fun q => absurd q (by (try simp only [g7_σ76, g9_σ76, g10_σ76, g11_σ76, g12_σ76, g13_σ76, g20_σ76, g22_σ76, g23_σ76, g24_σ76, g25_σ76]); exact n51), fun _ => rfl⟩ | exact ⟨hK, by (try simp only [g7_σ76, g9_σ76, g10_σ76, g11_σ76, g12_σ76, g13_σ76, g20_σ76, g22_σ76, g23_σ76, g24_σ76, g25_σ76]); omega, fun _ => ⟨⟨y4, by (try simp only [g7_σ76, g9_σ76, g10_σ76, g11_σ76, g12_σ76, g13_σ76, g20_σ76, g22_σ76, g23_σ76, g24_σ76, g25_σ76]); omega⟩, r39⟩, fun q => absurd (by (try simp only [g7_σ76, g9_σ76, g10_σ76, g11_σ76, g12_σ76, g13_σ76, g20_σ76, g22_σ76, g23_σ76, g24_σ76, g25_σ76]); exact y51) q⟩ | exact absurd y51 n44 | exact absurd y51 n24 | exact absurd y51 n17 | exact absurd y51 n4, g7_σ76, g9_σ76, g20_σ76, g22_σ76, g23_σ76, g24_σ76, g25_σ76⟩)⟩
          · have qhc79 := hqv77.2 hc79
            have y51 := qhc79
            refine ok_gIv rfl g13_σ76 ?_
            refine ok_gC rfl ?_
            refine ok_zbT (Q := fun V σ => (TOK σ.1 ∧ (σ76.1 218 10).toInt ≤ (σ.1 218 11).toInt) ∧ (σ.1 218 7 = σ76.1 218 7 ∧ σ.1 218 9 = σ76.1 218 9 ∧ σ.1 218 14 = σ76.1 218 14 ∧ σ.1 218 15 = σ76.1 218 15 ∧ σ.1 218 20 = σ76.1 218 20 ∧ σ.1 218 22 = σ76.1 218 22 ∧ σ.1 218 23 = σ76.1 218 23 ∧ σ.1 218 24 = σ76.1 218 24 ∧ σ.1 218 25 = σ76.1 218 25)) hT (s_X12_advance hN (hR.tr hT) (TOK_A hK) (by rw [hT.2 224 (by decide)]; exact hY)) (by decide) (fun v81 σ82 hOσ82 hT hqv81 => ?_)
            have hqv81 : (TOK σ82.1 ∧ (σ76.1 218 10).toInt ≤ (σ82.1 218 11).toInt) ∧ (σ82.1 218 7 = σ76.1 218 7 ∧ σ82.1 218 9 = σ76.1 218 9 ∧ σ82.1 218 14 = σ76.1 218 14 ∧ σ82.1 218 15 = σ76.1 218 15 ∧ σ82.1 218 20 = σ76.1 218 20 ∧ σ82.1 218 22 = σ76.1 218 22 ∧ σ82.1 218 23 = σ76.1 218 23 ∧ σ82.1 218 24 = σ76.1 218 24 ∧ σ82.1 218 25 = σ76.1 218 25) := hqv81
            have hkv81 := hqv81
            have hqv81 := hqv81.1
            have hK : TOK σ82.1 := by first | exact hqv81.1 | exact TOK_p eσ82 (by decide) hK
            try simp only [g7_σ76, g9_σ76, g10_σ76, g11_σ76, g12_σ76, g13_σ76, g20_σ76, g22_σ76, g23_σ76, g24_σ76, g25_σ76] at hqv81
            have g7_σ82 : σ82.1 218 7 = (σ0.1 218 7) := (hkv81.2.1).trans g7_σ76
            have g9_σ82 : σ82.1 218 9 = (σ0.1 218 9) := (hkv81.2.2.1).trans g9_σ76
            have g14_σ82 : σ82.1 218 14 = (σ76.1 218 14) := hkv81.2.2.2.1
            have g15_σ82 : σ82.1 218 15 = (σ76.1 218 15) := hkv81.2.2.2.2.1
            have g20_σ82 : σ82.1 218 20 = (σ0.1 218 20) := (hkv81.2.2.2.2.2.1).trans g20_σ76
            have g22_σ82 : σ82.1 218 22 = (σ0.1 218 22) := (hkv81.2.2.2.2.2.2.1).trans g22_σ76
            have g23_σ82 : σ82.1 218 23 = (σ0.1 218 23) := (hkv81.2.2.2.2.2.2.2.1).trans g23_σ76
            have g24_σ82 : σ82.1 218 24 = (σ0.1 218 24) := (hkv81.2.2.2.2.2.2.2.2.1).trans g24_σ76
            have g25_σ82 : σ82.1 218 25 = (σ0.1 218 25) := (hkv81.2.2.2.2.2.2.2.2.2).trans g25_σ76
            exact ok_some ⟨hT, (show (TOK σ82.1 ∧ (σ0.1 218 11).toInt ≤ (σ82.1 218 11).toInt ∧ (σ82.1 218 14 = 0 → (σ0.1 218 14 = 0 ∧ (σ0.1 218 11).toInt < (σ82.1 218 11).toInt) ∧ x1.toInt ≤ ((σ0.1 218 13)).toInt ∧ ((σ0.1 218 13)).toInt ≤ x2.toInt) ∧ (¬ σ82.1 218 14 = 0 → ((σ0.1 218 13)) = 0)) ∧ (σ82.1 218 7 = σ0.1 218 7 ∧ σ82.1 218 9 = σ0.1 218 9 ∧ σ82.1 218 20 = σ0.1 218 20 ∧ σ82.1 218 22 = σ0.1 218 22 ∧ σ82.1 218 23 = σ0.1 218 23 ∧ σ82.1 218 24 = σ0.1 218 24 ∧ σ82.1 218 25 = σ0.1 218 25) from ⟨by first | exact ⟨hK, by (try simp only [g7_σ82, g9_σ82, g14_σ82, g15_σ82, g20_σ82, g22_σ82, g23_σ82, g24_σ82, g25_σ82]); omega, fun q => absurd q (by (try simp only [g7_σ82, g9_σ82, g14_σ82, g15_σ82, g20_σ82, g22_σ82, g23_σ82, g24_σ82, g25_σ82]); exact n51), fun _ => rfl⟩ | exact ⟨hK, by (try simp only [g7_σ82, g9_σ82, g14_σ82, g15_σ82, g20_σ82, g22_σ82, g23_σ82, g24_σ82, g25_σ82]); omega, fun _ => ⟨⟨y4, by (try simp only [g7_σ82, g9_σ82, g14_σ82, g15_σ82, g20_σ82, g22_σ82, g23_σ82, g24_σ82, g25_σ82]); omega⟩, r39⟩, fun q => absurd (by (try simp only [g7_σ82, g9_σ82, g14_σ82, g15_σ82, g20_σ82, g22_σ82, g23_σ82, g24_σ82, g25_σ82]); exact y51) q⟩ | exact absurd y51 n44 | exact absurd y51 n24 | exact absurd y51 n17 | exact absurd y51 n4, g7_σ82, g9_σ82, g20_σ82, g22_σ82, g23_σ82, g24_σ82, g25_σ82⟩)⟩
        · have qhc74 := hqv72.2 hc74
          have r39 := qhc74
          rw [J_X12_number_47.eq_1]
          refine ok_gC rfl ?_
          refine ok_zbX (Q := fun V => (V = 0 → ¬ σ61.1 218 14 = 0) ∧ (¬ V = 0 → σ61.1 218 14 = 0)) (x_X12_good) (fun v83 hqv83 => ?_)
          have hqv83 : (v83 = 0 → ¬ σ61.1 218 14 = 0) ∧ (¬ v83 = 0 → σ61.1 218 14 = 0) := hqv83
          try simp only [g7_σ61, g9_σ61, g10_σ61, g11_σ61, g12_σ61, g13_σ61, g20_σ61, g22_σ61, g23_σ61, g24_σ61, g25_σ61, hT.2 224 (by decide)] at hqv83
          refine ok_if (fun hc85 => ?_) (fun hc85 => ?_)
          · have qhc85 := hqv83.1 hc85
            have n51 := qhc85
            exact ok_some ⟨hT, (show (TOK σ61.1 ∧ (σ0.1 218 11).toInt ≤ (σ61.1 218 11).toInt ∧ (σ61.1 218 14 = 0 → (σ0.1 218 14 = 0 ∧ (σ0.1 218 11).toInt < (σ61.1 218 11).toInt) ∧ x1.toInt ≤ (0 : Int32).toInt ∧ (0 : Int32).toInt ≤ x2.toInt) ∧ (¬ σ61.1 218 14 = 0 → (0 : Int32) = 0)) ∧ (σ61.1 218 7 = σ0.1 218 7 ∧ σ61.1 218 9 = σ0.1 218 9 ∧ σ61.1 218 20 = σ0.1 218 20 ∧ σ61.1 218 22 = σ0.1 218 22 ∧ σ61.1 218 23 = σ0.1 218 23 ∧ σ61.1 218 24 = σ0.1 218 24 ∧ σ61.1 218 25 = σ0.1 218 25) from ⟨by first | exact ⟨hK, by (try simp only [g7_σ61, g9_σ61, g10_σ61, g11_σ61, g12_σ61, g13_σ61, g20_σ61, g22_σ61, g23_σ61, g24_σ61, g25_σ61]); omega, fun q => absurd q (by (try simp only [g7_σ61, g9_σ61, g10_σ61, g11_σ61, g12_σ61, g13_σ61, g20_σ61, g22_σ61, g23_σ61, g24_σ61, g25_σ61]); exact n51), fun _ => rfl⟩ | exact ⟨hK, by (try simp only [g7_σ61, g9_σ61, g10_σ61, g11_σ61, g12_σ61, g13_σ61, g20_σ61, g22_σ61, g23_σ61, g24_σ61, g25_σ61]); omega, fun _ => ⟨⟨y4, by (try simp only [g7_σ61, g9_σ61, g10_σ61, g11_σ61, g12_σ61, g13_σ61, g20_σ61, g22_σ61, g23_σ61, g24_σ61, g25_σ61]); omega⟩, r39⟩, fun q => absurd (by (try simp only [g7_σ61, g9_σ61, g10_σ61, g11_σ61, g12_σ61, g13_σ61, g20_σ61, g22_σ61, g23_σ61, g24_σ61, g25_σ61]); exact y51) q⟩ | exact absurd y51 n44 | exact absurd y51 n24 | exact absurd y51 n17 | exact absurd y51 n4, g7_σ61, g9_σ61, g20_σ61, g22_σ61, g23_σ61, g24_σ61, g25_σ61⟩)⟩
          · have qhc85 := hqv83.2 hc85
            have y51 := qhc85
            refine ok_gIv rfl g13_σ61 ?_
            refine ok_gC rfl ?_
            refine ok_zbT (Q := fun V σ => (TOK σ.1 ∧ (σ61.1 218 10).toInt ≤ (σ.1 218 11).toInt) ∧ (σ.1 218 7 = σ61.1 218 7 ∧ σ.1 218 9 = σ61.1 218 9 ∧ σ.1 218 14 = σ61.1 218 14 ∧ σ.1 218 15 = σ61.1 218 15 ∧ σ.1 218 20 = σ61.1 218 20 ∧ σ.1 218 22 = σ61.1 218 22 ∧ σ.1 218 23 = σ61.1 218 23 ∧ σ.1 218 24 = σ61.1 218 24 ∧ σ.1 218 25 = σ61.1 218 25)) hT (s_X12_advance hN (hR.tr hT) (TOK_A hK) (by rw [hT.2 224 (by decide)]; exact hY)) (by decide) (fun v87 σ88 hOσ88 hT hqv87 => ?_)
            have hqv87 : (TOK σ88.1 ∧ (σ61.1 218 10).toInt ≤ (σ88.1 218 11).toInt) ∧ (σ88.1 218 7 = σ61.1 218 7 ∧ σ88.1 218 9 = σ61.1 218 9 ∧ σ88.1 218 14 = σ61.1 218 14 ∧ σ88.1 218 15 = σ61.1 218 15 ∧ σ88.1 218 20 = σ61.1 218 20 ∧ σ88.1 218 22 = σ61.1 218 22 ∧ σ88.1 218 23 = σ61.1 218 23 ∧ σ88.1 218 24 = σ61.1 218 24 ∧ σ88.1 218 25 = σ61.1 218 25) := hqv87
            have hkv87 := hqv87
            have hqv87 := hqv87.1
            have hK : TOK σ88.1 := by first | exact hqv87.1 | exact TOK_p eσ88 (by decide) hK
            try simp only [g7_σ61, g9_σ61, g10_σ61, g11_σ61, g12_σ61, g13_σ61, g20_σ61, g22_σ61, g23_σ61, g24_σ61, g25_σ61] at hqv87
            have g7_σ88 : σ88.1 218 7 = (σ0.1 218 7) := (hkv87.2.1).trans g7_σ61
            have g9_σ88 : σ88.1 218 9 = (σ0.1 218 9) := (hkv87.2.2.1).trans g9_σ61
            have g14_σ88 : σ88.1 218 14 = (σ61.1 218 14) := hkv87.2.2.2.1
            have g15_σ88 : σ88.1 218 15 = (σ61.1 218 15) := hkv87.2.2.2.2.1
            have g20_σ88 : σ88.1 218 20 = (σ0.1 218 20) := (hkv87.2.2.2.2.2.1).trans g20_σ61
            have g22_σ88 : σ88.1 218 22 = (σ0.1 218 22) := (hkv87.2.2.2.2.2.2.1).trans g22_σ61
            have g23_σ88 : σ88.1 218 23 = (σ0.1 218 23) := (hkv87.2.2.2.2.2.2.2.1).trans g23_σ61
            have g24_σ88 : σ88.1 218 24 = (σ0.1 218 24) := (hkv87.2.2.2.2.2.2.2.2.1).trans g24_σ61
            have g25_σ88 : σ88.1 218 25 = (σ0.1 218 25) := (hkv87.2.2.2.2.2.2.2.2.2).trans g25_σ61
            exact ok_some ⟨hT, (show (TOK σ88.1 ∧ (σ0.1 218 11).toInt ≤ (σ88.1 218 11).toInt ∧ (σ88.1 218 14 = 0 → (σ0.1 218 14 = 0 ∧ (σ0.1 218 11).toInt < (σ88.1 218 11).toInt) ∧ x1.toInt ≤ ((σ0.1 218 13)).toInt ∧ ((σ0.1 218 13)).toInt ≤ x2.toInt) ∧ (¬ σ88.1 218 14 = 0 → ((σ0.1 218 13)) = 0)) ∧ (σ88.1 218 7 = σ0.1 218 7 ∧ σ88.1 218 9 = σ0.1 218 9 ∧ σ88.1 218 20 = σ0.1 218 20 ∧ σ88.1 218 22 = σ0.1 218 22 ∧ σ88.1 218 23 = σ0.1 218 23 ∧ σ88.1 218 24 = σ0.1 218 24 ∧ σ88.1 218 25 = σ0.1 218 25) from ⟨by first | exact ⟨hK, by (try simp only [g7_σ88, g9_σ88, g14_σ88, g15_σ88, g20_σ88, g22_σ88, g23_σ88, g24_σ88, g25_σ88]); omega, fun q => absurd q (by (try simp only [g7_σ88, g9_σ88, g14_σ88, g15_σ88, g20_σ88, g22_σ88, g23_σ88, g24_σ88, g25_σ88]); exact n51), fun _ => rfl⟩ | exact ⟨hK, by (try simp only [g7_σ88, g9_σ88, g14_σ88, g15_σ88, g20_σ88, g22_σ88, g23_σ88, g24_σ88, g25_σ88]); omega, fun _ => ⟨⟨y4, by (try simp only [g7_σ88, g9_σ88, g14_σ88, g15_σ88, g20_σ88, g22_σ88, g23_σ88, g24_σ88, g25_σ88]); omega⟩, r39⟩, fun q => absurd (by (try simp only [g7_σ88, g9_σ88, g14_σ88, g15_σ88, g20_σ88, g22_σ88, g23_σ88, g24_σ88, g25_σ88]); exact y51) q⟩ | exact absurd y51 n44 | exact absurd y51 n24 | exact absurd y51 n17 | exact absurd y51 n4, g7_σ88, g9_σ88, g20_σ88, g22_σ88, g23_σ88, g24_σ88, g25_σ88⟩)⟩

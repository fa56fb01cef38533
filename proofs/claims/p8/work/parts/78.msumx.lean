set_option maxHeartbeats 4000000 in
set_option maxRecDepth 100000 in
theorem s_X12_opens_r {N : Nat} (hN : 1048576 ≤ N) {x1 : Int32} {σ0 : zS} {tx : Nat → Int32} {n i : Nat} (hR : RF σ0.2.2) (hK : TOK σ0.1) (hY : BYT (σ0.1 224)) (hG : RX σ0.1 tx n i) (hg : σ0.1 218 14 = 0) (hP : PIL σ0.1 0) (hx : 50 ≤ x1.toInt ∧ x1.toInt ≤ 100) (h12 : ¬ σ0.1 218 12 = 0) (hNP : NP (σ0.1 230) (σ0.1 218 22).toInt.toNat) : Ok (f_X12_opens N 218 x1 σ0) (fun r => Tr [218, 230] σ0 r.2 ∧ ((TOK r.2.1 ∧ (σ0.1 218 11).toInt ≤ (r.2.1 218 11).toInt ∧ (0 ≤ (r.2.1 218 22).toInt ∧ (r.2.1 218 22).toInt ≤ 40) ∧ (r.2.1 218 14 = 0 → ((σ0.1 218 11).toInt < (r.2.1 218 11).toInt ∧ PIL r.2.1 0) ∧ (¬ (lst (σ0.1 230) (σ0.1 218 22).toInt.toNat).length = 6 ∧ RX r.2.1 tx n (tkE tx n i)) ∧ lst (r.2.1 230) (r.2.1 218 22).toInt.toNat = decide (x1 = 100) :: (lst (σ0.1 230) (σ0.1 218 22).toInt.toNat) ∧ NP (r.2.1 230) (r.2.1 218 22).toInt.toNat) ∧ (¬ r.2.1 218 14 = 0 → (lst (σ0.1 230) (σ0.1 218 22).toInt.toNat).length = 6)) ∧ (r.2.1 218 7 = σ0.1 218 7 ∧ r.2.1 218 9 = σ0.1 218 9 ∧ r.2.1 218 20 = σ0.1 218 20 ∧ r.2.1 218 23 = σ0.1 218 23 ∧ r.2.1 218 25 = σ0.1 218 25))) := by
  have hT : Tr [218, 230] σ0 σ0 := Tr.rf
  have hK1 := hK.1
  have tE : σ0.1 224 = tx := hG.1.1
  have nE : (σ0.1 218 9).toInt.toNat = n := hG.1.2
  have pK : TKV (σ0.1 218 11) (σ0.1 218 10) (σ0.1 218 12) (σ0.1 218 13) tx n i := hG.2
  have hb0 := PIL_b hP (by decide)
  have l12 := hK.2.1 h12
  obtain ⟨b8, d8, r8, hS, h22, hd, hd6, hp⟩ := hP
  have j22 : (σ0.1 218 22).toNatClampNeg = (σ0.1 218 22).toInt.toNat := rfl
  have s22 : ((σ0.1 218 22) + 1).toInt = (σ0.1 218 22).toInt + 1 := by rw [ti_add]; simp only [Int32.reduceToInt]; omega
  have s24 : ((σ0.1 218 24) + 1).toInt = ((d8 + 1 : Nat) : Int) := by rw [ti_add]; simp only [Int32.reduceToInt]; omega
  have hlen := lst_len hS
  have j53 : ((σ0.1 218 22) + 1).toInt.toNat = (σ0.1 218 22).toInt.toNat + 1 := by rw [s22]; omega
  rw [f_X12_opens.eq_1]
  refine ok_gI rfl ?_
  refine ok_if (fun hc2 => ?_) (fun hc2 => ?_)
  · have d6t : d8 = 6 := by have q := congrArg Int32.toInt hc2; simp only [Int32.reduceToInt] at q; omega
    refine ok_gC rfl ?_
    refine ok_zbT (Q := fun V σ => (TOK σ.1 ∧ ¬ σ.1 218 14 = 0) ∧ (σ.1 218 7 = σ0.1 218 7 ∧ σ.1 218 9 = σ0.1 218 9 ∧ σ.1 218 10 = σ0.1 218 10 ∧ σ.1 218 11 = σ0.1 218 11 ∧ σ.1 218 12 = σ0.1 218 12 ∧ σ.1 218 13 = σ0.1 218 13 ∧ σ.1 218 20 = σ0.1 218 20 ∧ σ.1 218 22 = σ0.1 218 22 ∧ σ.1 218 23 = σ0.1 218 23 ∧ σ.1 218 24 = σ0.1 218 24 ∧ σ.1 218 25 = σ0.1 218 25)) hT (s_X12_errs hN (hR.tr hT) (hK) (by rw [hT.2 224 (by decide)]; exact hY) (by decide)) (by decide) (fun v3 σ4 hOσ4 hT hqv3 => ?_)
    have hqv3 : (TOK σ4.1 ∧ ¬ σ4.1 218 14 = 0) ∧ (σ4.1 218 7 = σ0.1 218 7 ∧ σ4.1 218 9 = σ0.1 218 9 ∧ σ4.1 218 10 = σ0.1 218 10 ∧ σ4.1 218 11 = σ0.1 218 11 ∧ σ4.1 218 12 = σ0.1 218 12 ∧ σ4.1 218 13 = σ0.1 218 13 ∧ σ4.1 218 20 = σ0.1 218 20 ∧ σ4.1 218 22 = σ0.1 218 22 ∧ σ4.1 218 23 = σ0.1 218 23 ∧ σ4.1 218 24 = σ0.1 218 24 ∧ σ4.1 218 25 = σ0.1 218 25) := hqv3
    have hkv3 := hqv3
    have hqv3 := hqv3.1
    have r230_σ4 : σ4.1 230 = σ0.1 230 := hOσ4.2 230 (by decide)
    have hK : TOK σ4.1 := by first | exact hqv3.1 | exact hqv3.1.1 | exact TOK_p eσ4 (by decide) hK
    have g7_σ4 : σ4.1 218 7 = (σ0.1 218 7) := hkv3.2.1
    have g9_σ4 : σ4.1 218 9 = (σ0.1 218 9) := hkv3.2.2.1
    have g10_σ4 : σ4.1 218 10 = (σ0.1 218 10) := hkv3.2.2.2.1
    have g11_σ4 : σ4.1 218 11 = (σ0.1 218 11) := hkv3.2.2.2.2.1
    have g12_σ4 : σ4.1 218 12 = (σ0.1 218 12) := hkv3.2.2.2.2.2.1
    have g13_σ4 : σ4.1 218 13 = (σ0.1 218 13) := hkv3.2.2.2.2.2.2.1
    have g20_σ4 : σ4.1 218 20 = (σ0.1 218 20) := hkv3.2.2.2.2.2.2.2.1
    have g22_σ4 : σ4.1 218 22 = (σ0.1 218 22) := hkv3.2.2.2.2.2.2.2.2.1
    have g23_σ4 : σ4.1 218 23 = (σ0.1 218 23) := hkv3.2.2.2.2.2.2.2.2.2.1
    have g24_σ4 : σ4.1 218 24 = (σ0.1 218 24) := hkv3.2.2.2.2.2.2.2.2.2.2.1
    have g25_σ4 : σ4.1 218 25 = (σ0.1 218 25) := hkv3.2.2.2.2.2.2.2.2.2.2.2
    have n11 := hqv3.2
    rw [J_X12_opens_14.eq_1]
    refine ok_gC rfl ?_
    refine ok_zbX (Q := fun V => (V = 0 → ¬ σ4.1 218 14 = 0) ∧ (¬ V = 0 → σ4.1 218 14 = 0)) (x_X12_good) (fun v5 hqv5 => ?_)
    have hqv5 : (v5 = 0 → ¬ σ4.1 218 14 = 0) ∧ (¬ v5 = 0 → σ4.1 218 14 = 0) := hqv5
    try simp only [g7_σ4, g9_σ4, g10_σ4, g11_σ4, g12_σ4, g13_σ4, g20_σ4, g22_σ4, g23_σ4, g24_σ4, g25_σ4, hT.2 224 (by decide)] at hqv5
    refine ok_if (fun hc7 => ?_) (fun hc7 => ?_)
    · have qhc7 := hqv5.1 hc7
      have n18 := qhc7
      exact ok_some ⟨hT, (show (TOK σ4.1 ∧ (σ0.1 218 11).toInt ≤ (σ4.1 218 11).toInt ∧ (0 ≤ (σ4.1 218 22).toInt ∧ (σ4.1 218 22).toInt ≤ 40) ∧ (σ4.1 218 14 = 0 → ((σ0.1 218 11).toInt < (σ4.1 218 11).toInt ∧ PIL σ4.1 0) ∧ (¬ (lst (σ0.1 230) (σ0.1 218 22).toInt.toNat).length = 6 ∧ RX σ4.1 tx n (tkE tx n i)) ∧ lst (σ4.1 230) (σ4.1 218 22).toInt.toNat = decide (x1 = 100) :: (lst (σ0.1 230) (σ0.1 218 22).toInt.toNat) ∧ NP (σ4.1 230) (σ4.1 218 22).toInt.toNat) ∧ (¬ σ4.1 218 14 = 0 → (lst (σ0.1 230) (σ0.1 218 22).toInt.toNat).length = 6)) ∧ (σ4.1 218 7 = σ0.1 218 7 ∧ σ4.1 218 9 = σ0.1 218 9 ∧ σ4.1 218 20 = σ0.1 218 20 ∧ σ4.1 218 23 = σ0.1 218 23 ∧ σ4.1 218 25 = σ0.1 218 25) from ⟨by first | exact ⟨hK, by (try simp only [g7_σ4, g9_σ4, g10_σ4, g11_σ4, g12_σ4, g13_σ4, g20_σ4, g22_σ4, g23_σ4, g24_σ4, g25_σ4]); omega, by (try simp only [g7_σ4, g9_σ4, g10_σ4, g11_σ4, g12_σ4, g13_σ4, g20_σ4, g22_σ4, g23_σ4, g24_σ4, g25_σ4]); omega, fun q => absurd q (by (try simp only [g7_σ4, g9_σ4, g10_σ4, g11_σ4, g12_σ4, g13_σ4, g20_σ4, g22_σ4, g23_σ4, g24_σ4, g25_σ4]); exact n18), fun _ => hlen.trans d6t⟩ | exact ⟨hK, by (try simp only [g7_σ4, g9_σ4, g10_σ4, g11_σ4, g12_σ4, g13_σ4, g20_σ4, g22_σ4, g23_σ4, g24_σ4, g25_σ4]); omega, by (try simp only [g7_σ4, g9_σ4, g10_σ4, g11_σ4, g12_σ4, g13_σ4, g20_σ4, g22_σ4, g23_σ4, g24_σ4, g25_σ4]); rw [s22]; omega, fun _ => ⟨⟨by (try simp only [g7_σ4, g9_σ4, g10_σ4, g11_σ4, g12_σ4, g13_σ4, g20_σ4, g22_σ4, g23_σ4, g24_σ4, g25_σ4]); omega, PIL_i g22_σ4 g23_σ4 g24_σ4 r230_σ4 (by rw [j53]; exact k45) (by rw [s22]; omega) s24 (by omega) hp⟩, ⟨by rw [hlen]; exact d6, RX_i g9_σ4 g10_σ4 g11_σ4 g12_σ4 g13_σ4 ((hT.2 224 (by decide)).trans tE) nE pK⟩, by (try simp only [g7_σ4, g9_σ4, g10_σ4, g11_σ4, g12_σ4, g13_σ4, g20_σ4, g22_σ4, g23_σ4, g24_σ4, g25_σ4]); rw [r230_σ4, j53]; exact l45, by (try simp only [g7_σ4, g9_σ4, g10_σ4, g11_σ4, g12_σ4, g13_σ4, g20_σ4, g22_σ4, g23_σ4, g24_σ4, g25_σ4]); rw [r230_σ4, j53]; exact n45⟩, fun q => absurd (by (try simp only [g7_σ4, g9_σ4, g10_σ4, g11_σ4, g12_σ4, g13_σ4, g20_σ4, g22_σ4, g23_σ4, g24_σ4, g25_σ4]); exact y18) q⟩ | exact absurd y18 n11 | exact absurd hg n18, g7_σ4, g9_σ4, g20_σ4, g23_σ4, g25_σ4⟩)⟩
    · have qhc7 := hqv5.2 hc7
      have y18 := qhc7
      refine ok_gC rfl ?_
      refine ok_zbT (Q := fun V σ => ((TOK σ.1 ∧ (σ4.1 218 10).toInt ≤ (σ.1 218 11).toInt) ∧ RX σ.1 tx n (tkE tx n i)) ∧ (σ.1 218 7 = σ4.1 218 7 ∧ σ.1 218 9 = σ4.1 218 9 ∧ σ.1 218 14 = σ4.1 218 14 ∧ σ.1 218 15 = σ4.1 218 15 ∧ σ.1 218 20 = σ4.1 218 20 ∧ σ.1 218 22 = σ4.1 218 22 ∧ σ.1 218 23 = σ4.1 218 23 ∧ σ.1 218 24 = σ4.1 218 24 ∧ σ.1 218 25 = σ4.1 218 25)) hT (s_X12_advance_r hN (hR.tr hT) (TOK_A hK) (by rw [hT.2 224 (by decide)]; exact hY) (RX_i g9_σ4 g10_σ4 g11_σ4 g12_σ4 g13_σ4 ((hT.2 224 (by decide)).trans tE) nE pK)) (by decide) (fun v8 σ9 hOσ9 hT hqv8 => ?_)
      have hqv8 : ((TOK σ9.1 ∧ (σ4.1 218 10).toInt ≤ (σ9.1 218 11).toInt) ∧ RX σ9.1 tx n (tkE tx n i)) ∧ (σ9.1 218 7 = σ4.1 218 7 ∧ σ9.1 218 9 = σ4.1 218 9 ∧ σ9.1 218 14 = σ4.1 218 14 ∧ σ9.1 218 15 = σ4.1 218 15 ∧ σ9.1 218 20 = σ4.1 218 20 ∧ σ9.1 218 22 = σ4.1 218 22 ∧ σ9.1 218 23 = σ4.1 218 23 ∧ σ9.1 218 24 = σ4.1 218 24 ∧ σ9.1 218 25 = σ4.1 218 25) := hqv8
      have hkv8 := hqv8
      have hqv8 := hqv8.1
      have r230_σ9 : σ9.1 230 = σ0.1 230 := (hOσ9.2 230 (by decide)).trans r230_σ4
      have hK : TOK σ9.1 := by first | exact hqv8.1 | exact hqv8.1.1 | exact TOK_p eσ9 (by decide) hK
      try simp only [g7_σ4, g9_σ4, g10_σ4, g11_σ4, g12_σ4, g13_σ4, g20_σ4, g22_σ4, g23_σ4, g24_σ4, g25_σ4] at hqv8
      have g7_σ9 : σ9.1 218 7 = (σ0.1 218 7) := (hkv8.2.1).trans g7_σ4
      have g9_σ9 : σ9.1 218 9 = (σ0.1 218 9) := (hkv8.2.2.1).trans g9_σ4
      have g14_σ9 : σ9.1 218 14 = (σ4.1 218 14) := hkv8.2.2.2.1
      have g15_σ9 : σ9.1 218 15 = (σ4.1 218 15) := hkv8.2.2.2.2.1
      have g20_σ9 : σ9.1 218 20 = (σ0.1 218 20) := (hkv8.2.2.2.2.2.1).trans g20_σ4
      have g22_σ9 : σ9.1 218 22 = (σ0.1 218 22) := (hkv8.2.2.2.2.2.2.1).trans g22_σ4
      have g23_σ9 : σ9.1 218 23 = (σ0.1 218 23) := (hkv8.2.2.2.2.2.2.2.1).trans g23_σ4
      have g24_σ9 : σ9.1 218 24 = (σ0.1 218 24) := (hkv8.2.2.2.2.2.2.2.2.1).trans g24_σ4
      have g25_σ9 : σ9.1 218 25 = (σ0.1 218 25) := (hkv8.2.2.2.2.2.2.2.2.2).trans g25_σ4
      have m23 := hqv8.1.2
      have g23 := hqv8.2
      have pK : TKV (σ9.1 218 11) (σ9.1 218 10) (σ9.1 218 12) (σ9.1 218 13) tx n (tkE tx n i) := hqv8.2.2
      refine ok_gIv rfl g24_σ9 ?_
      refine ok_pI hT rfl (by decide) (fun σ11 eσ11 hOσ11 hT => ?_)
      have r230_σ11 : σ11.1 230 = σ0.1 230 := (hOσ11.2 230 (by decide)).trans r230_σ9
      have hK : TOK σ11.1 := by first | exact HQ.1 | exact HQ.1.1 | exact TOK_p eσ11 (by decide) hK
      have g7_σ11 : σ11.1 218 7 = (σ0.1 218 7) := (zI_atN eσ11 (by decide)).trans g7_σ9
      have g9_σ11 : σ11.1 218 9 = (σ0.1 218 9) := (zI_atN eσ11 (by decide)).trans g9_σ9
      have g10_σ11 : σ11.1 218 10 = (σ9.1 218 10) := zI_atN eσ11 (by decide)
      have g11_σ11 : σ11.1 218 11 = (σ9.1 218 11) := zI_atN eσ11 (by decide)
      have g12_σ11 : σ11.1 218 12 = (σ9.1 218 12) := zI_atN eσ11 (by decide)
      have g13_σ11 : σ11.1 218 13 = (σ9.1 218 13) := zI_atN eσ11 (by decide)
      have g14_σ11 : σ11.1 218 14 = (σ4.1 218 14) := (zI_atN eσ11 (by decide)).trans g14_σ9
      have g15_σ11 : σ11.1 218 15 = (σ4.1 218 15) := (zI_atN eσ11 (by decide)).trans g15_σ9
      have g20_σ11 : σ11.1 218 20 = (σ0.1 218 20) := (zI_atN eσ11 (by decide)).trans g20_σ9
      have g22_σ11 : σ11.1 218 22 = (σ0.1 218 22) := (zI_atN eσ11 (by decide)).trans g22_σ9
      have g23_σ11 : σ11.1 218 23 = (σ0.1 218 23) := (zI_atN eσ11 (by decide)).trans g23_σ9
      have g24_σ11 : σ11.1 218 24 = ((σ0.1 218 24) + 1) := zI_atI eσ11
      have g25_σ11 : σ11.1 218 25 = (σ0.1 218 25) := (zI_atN eσ11 (by decide)).trans g25_σ9
      refine ok_gR (v := 230) hT rfl (hR 218 21 rfl) ?_
      refine ok_gIv rfl g22_σ11 ?_
      refine ok_s14 hT rfl (by decide) (by ((try simp only [g7_σ11, g9_σ11, g10_σ11, g11_σ11, g12_σ11, g13_σ11, g14_σ11, g15_σ11, g20_σ11, g22_σ11, g23_σ11, g24_σ11, g25_σ11])); first | omega | decide | (simp only [Int32.le_iff_toInt_le, Int32.lt_iff_toInt_lt, ti_add, ti_sub, ti_mul, Int32.reduceToInt] at *; omega)) (by ((try simp only [g7_σ11, g9_σ11, g10_σ11, g11_σ11, g12_σ11, g13_σ11, g14_σ11, g15_σ11, g20_σ11, g22_σ11, g23_σ11, g24_σ11, g25_σ11])); first | omega | decide | (simp only [Int32.le_iff_toInt_le, Int32.lt_iff_toInt_lt, ti_add, ti_sub, ti_mul, Int32.reduceToInt] at *; omega)) (fun σ14 eσ14 hOσ14 hT => ?_)
      have a45 := zI_atI eσ14
      have k45 : Stk (σ14.1 230) ((σ0.1 218 22).toInt.toNat + 1) b8 (d8 + 1) 0 := Stk_open hS (fun k hk => by rw [zI_atN eσ14 (by rw [j22]; omega)]; exact congrFun r230_σ11 k) (by rw [← j22, a45]; exact hx)
      have e45 : σ14.1 230 (σ0.1 218 22).toInt.toNat = x1 := a45
      have c45 : ∀ k, k < (σ0.1 218 22).toInt.toNat → σ14.1 230 k = σ0.1 230 k := fun k hk => by rw [zI_atN eσ14 (by rw [j22]; omega)]; exact congrFun r230_σ11 k
      have l45 := lst_o (g := σ14.1 230) (n := (σ0.1 218 22).toInt.toNat) (by rw [e45]; omega)
      rw [e45, lst_c c45] at l45
      have n45 : NP (σ14.1 230) ((σ0.1 218 22).toInt.toNat + 1) := ⟨NP_c c45 hNP, fun q => absurd q (by rw [e45]; omega)⟩
      have hK : TOK σ14.1 := TOK_tr hOσ14 (by decide) (by decide) hK
      have g7_σ14 : σ14.1 218 7 = (σ0.1 218 7) := (congrFun (hOσ14.2 218 (by decide)) 7).trans g7_σ11
      have g9_σ14 : σ14.1 218 9 = (σ0.1 218 9) := (congrFun (hOσ14.2 218 (by decide)) 9).trans g9_σ11
      have g10_σ14 : σ14.1 218 10 = (σ9.1 218 10) := (congrFun (hOσ14.2 218 (by decide)) 10).trans g10_σ11
      have g11_σ14 : σ14.1 218 11 = (σ9.1 218 11) := (congrFun (hOσ14.2 218 (by decide)) 11).trans g11_σ11
      have g12_σ14 : σ14.1 218 12 = (σ9.1 218 12) := (congrFun (hOσ14.2 218 (by decide)) 12).trans g12_σ11
      have g13_σ14 : σ14.1 218 13 = (σ9.1 218 13) := (congrFun (hOσ14.2 218 (by decide)) 13).trans g13_σ11
      have g14_σ14 : σ14.1 218 14 = (σ4.1 218 14) := (congrFun (hOσ14.2 218 (by decide)) 14).trans g14_σ11
      have g15_σ14 : σ14.1 218 15 = (σ4.1 218 15) := (congrFun (hOσ14.2 218 (by decide)) 15).trans g15_σ11
      have g20_σ14 : σ14.1 218 20 = (σ0.1 218 20) := (congrFun (hOσ14.2 218 (by decide)) 20).trans g20_σ11
      have g22_σ14 : σ14.1 218 22 = (σ0.1 218 22) := (congrFun (hOσ14.2 218 (by decide)) 22).trans g22_σ11
      have g23_σ14 : σ14.1 218 23 = (σ0.1 218 23) := (congrFun (hOσ14.2 218 (by decide)) 23).trans g23_σ11
      have g24_σ14 : σ14.1 218 24 = ((σ0.1 218 24) + 1) := (congrFun (hOσ14.2 218 (by decide)) 24).trans g24_σ11
      have g25_σ14 : σ14.1 218 25 = (σ0.1 218 25) := (congrFun (hOσ14.2 218 (by decide)) 25).trans g25_σ11
      refine ok_gIv rfl g22_σ14 ?_
      refine ok_pI hT rfl (by decide) (fun σ16 eσ16 hOσ16 hT => ?_)
      have r230_σ16 : σ16.1 230 = σ14.1 230 := hOσ16.2 230 (by decide)
      have hK : TOK σ16.1 := by first | exact HQ.1 | exact HQ.1.1 | exact TOK_p eσ16 (by decide) hK
      have g7_σ16 : σ16.1 218 7 = (σ0.1 218 7) := (zI_atN eσ16 (by decide)).trans g7_σ14
      have g9_σ16 : σ16.1 218 9 = (σ0.1 218 9) := (zI_atN eσ16 (by decide)).trans g9_σ14
      have g10_σ16 : σ16.1 218 10 = (σ9.1 218 10) := (zI_atN eσ16 (by decide)).trans g10_σ14
      have g11_σ16 : σ16.1 218 11 = (σ9.1 218 11) := (zI_atN eσ16 (by decide)).trans g11_σ14
      have g12_σ16 : σ16.1 218 12 = (σ9.1 218 12) := (zI_atN eσ16 (by decide)).trans g12_σ14
      have g13_σ16 : σ16.1 218 13 = (σ9.1 218 13) := (zI_atN eσ16 (by decide)).trans g13_σ14
      have g14_σ16 : σ16.1 218 14 = (σ4.1 218 14) := (zI_atN eσ16 (by decide)).trans g14_σ14
      have g15_σ16 : σ16.1 218 15 = (σ4.1 218 15) := (zI_atN eσ16 (by decide)).trans g15_σ14
      have g20_σ16 : σ16.1 218 20 = (σ0.1 218 20) := (zI_atN eσ16 (by decide)).trans g20_σ14
      have g22_σ16 : σ16.1 218 22 = ((σ0.1 218 22) + 1) := zI_atI eσ16
      have g23_σ16 : σ16.1 218 23 = (σ0.1 218 23) := (zI_atN eσ16 (by decide)).trans g23_σ14
      have g24_σ16 : σ16.1 218 24 = ((σ0.1 218 24) + 1) := (zI_atN eσ16 (by decide)).trans g24_σ14
      have g25_σ16 : σ16.1 218 25 = (σ0.1 218 25) := (zI_atN eσ16 (by decide)).trans g25_σ14
      exact ok_some ⟨hT, (show (TOK σ16.1 ∧ (σ0.1 218 11).toInt ≤ (σ16.1 218 11).toInt ∧ (0 ≤ (σ16.1 218 22).toInt ∧ (σ16.1 218 22).toInt ≤ 40) ∧ (σ16.1 218 14 = 0 → ((σ0.1 218 11).toInt < (σ16.1 218 11).toInt ∧ PIL σ16.1 0) ∧ (¬ (lst (σ0.1 230) (σ0.1 218 22).toInt.toNat).length = 6 ∧ RX σ16.1 tx n (tkE tx n i)) ∧ lst (σ16.1 230) (σ16.1 218 22).toInt.toNat = decide (x1 = 100) :: (lst (σ0.1 230) (σ0.1 218 22).toInt.toNat) ∧ NP (σ16.1 230) (σ16.1 218 22).toInt.toNat) ∧ (¬ σ16.1 218 14 = 0 → (lst (σ0.1 230) (σ0.1 218 22).toInt.toNat).length = 6)) ∧ (σ16.1 218 7 = σ0.1 218 7 ∧ σ16.1 218 9 = σ0.1 218 9 ∧ σ16.1 218 20 = σ0.1 218 20 ∧ σ16.1 218 23 = σ0.1 218 23 ∧ σ16.1 218 25 = σ0.1 218 25) from ⟨by first | exact ⟨hK, by (try simp only [g7_σ16, g9_σ16, g10_σ16, g11_σ16, g12_σ16, g13_σ16, g14_σ16, g15_σ16, g20_σ16, g22_σ16, g23_σ16, g24_σ16, g25_σ16]); omega, by (try simp only [g7_σ16, g9_σ16, g10_σ16, g11_σ16, g12_σ16, g13_σ16, g14_σ16, g15_σ16, g20_σ16, g22_σ16, g23_σ16, g24_σ16, g25_σ16]); omega, fun q => absurd q (by (try simp only [g7_σ16, g9_σ16, g10_σ16, g11_σ16, g12_σ16, g13_σ16, g14_σ16, g15_σ16, g20_σ16, g22_σ16, g23_σ16, g24_σ16, g25_σ16]); exact n18), fun _ => hlen.trans d6t⟩ | exact ⟨hK, by (try simp only [g7_σ16, g9_σ16, g10_σ16, g11_σ16, g12_σ16, g13_σ16, g14_σ16, g15_σ16, g20_σ16, g22_σ16, g23_σ16, g24_σ16, g25_σ16]); omega, by (try simp only [g7_σ16, g9_σ16, g10_σ16, g11_σ16, g12_σ16, g13_σ16, g14_σ16, g15_σ16, g20_σ16, g22_σ16, g23_σ16, g24_σ16, g25_σ16]); rw [s22]; omega, fun _ => ⟨⟨by (try simp only [g7_σ16, g9_σ16, g10_σ16, g11_σ16, g12_σ16, g13_σ16, g14_σ16, g15_σ16, g20_σ16, g22_σ16, g23_σ16, g24_σ16, g25_σ16]); omega, PIL_i g22_σ16 g23_σ16 g24_σ16 r230_σ16 (by rw [j53]; exact k45) (by rw [s22]; omega) s24 (by omega) hp⟩, ⟨by rw [hlen]; exact d6, RX_i g9_σ16 g10_σ16 g11_σ16 g12_σ16 g13_σ16 ((hT.2 224 (by decide)).trans tE) nE pK⟩, by (try simp only [g7_σ16, g9_σ16, g10_σ16, g11_σ16, g12_σ16, g13_σ16, g14_σ16, g15_σ16, g20_σ16, g22_σ16, g23_σ16, g24_σ16, g25_σ16]); rw [r230_σ16, j53]; exact l45, by (try simp only [g7_σ16, g9_σ16, g10_σ16, g11_σ16, g12_σ16, g13_σ16, g14_σ16, g15_σ16, g20_σ16, g22_σ16, g23_σ16, g24_σ16, g25_σ16]); rw [r230_σ16, j53]; exact n45⟩, fun q => absurd (by (try simp only [g7_σ16, g9_σ16, g10_σ16, g11_σ16, g12_σ16, g13_σ16, g14_σ16, g15_σ16, g20_σ16, g22_σ16, g23_σ16, g24_σ16, g25_σ16]); exact y18) q⟩ | exact absurd y18 n11 | exact absurd hg n18, g7_σ16, g9_σ16, g20_σ16, g23_σ16, g25_σ16⟩)⟩
  · have n6 := hc2
    have d6 : d8 ≠ 6 := fun e => n6 (Int32.toInt_inj.mp (by rw [hd, e]; rfl))
    rw [J_X12_opens_14.eq_1]
    refine ok_gC rfl ?_
    refine ok_zbX (Q := fun V => (V = 0 → ¬ σ0.1 218 14 = 0) ∧ (¬ V = 0 → σ0.1 218 14 = 0)) (x_X12_good) (fun v17 hqv17 => ?_)
    have hqv17 : (v17 = 0 → ¬ σ0.1 218 14 = 0) ∧ (¬ v17 = 0 → σ0.1 218 14 = 0) := hqv17
    refine ok_if (fun hc19 => ?_) (fun hc19 => ?_)
    · have qhc19 := hqv17.1 hc19
      have n18 := qhc19
      exact ok_some ⟨hT, (show (TOK σ0.1 ∧ (σ0.1 218 11).toInt ≤ (σ0.1 218 11).toInt ∧ (0 ≤ (σ0.1 218 22).toInt ∧ (σ0.1 218 22).toInt ≤ 40) ∧ (σ0.1 218 14 = 0 → ((σ0.1 218 11).toInt < (σ0.1 218 11).toInt ∧ PIL σ0.1 0) ∧ (¬ (lst (σ0.1 230) (σ0.1 218 22).toInt.toNat).length = 6 ∧ RX σ0.1 tx n (tkE tx n i)) ∧ lst (σ0.1 230) (σ0.1 218 22).toInt.toNat = decide (x1 = 100) :: (lst (σ0.1 230) (σ0.1 218 22).toInt.toNat) ∧ NP (σ0.1 230) (σ0.1 218 22).toInt.toNat) ∧ (¬ σ0.1 218 14 = 0 → (lst (σ0.1 230) (σ0.1 218 22).toInt.toNat).length = 6)) ∧ (σ0.1 218 7 = σ0.1 218 7 ∧ σ0.1 218 9 = σ0.1 218 9 ∧ σ0.1 218 20 = σ0.1 218 20 ∧ σ0.1 218 23 = σ0.1 218 23 ∧ σ0.1 218 25 = σ0.1 218 25) from ⟨by first | exact ⟨hK, by skip; omega, by skip; omega, fun q => absurd q (by skip; exact n18), fun _ => hlen.trans d6t⟩ | exact ⟨hK, by skip; omega, by skip; rw [s22]; omega, fun _ => ⟨⟨by skip; omega, PIL_i rfl rfl rfl rfl (by rw [j53]; exact k45) (by rw [s22]; omega) s24 (by omega) hp⟩, ⟨by rw [hlen]; exact d6, RX_i rfl rfl rfl rfl rfl ((hT.2 224 (by decide)).trans tE) nE pK⟩, by skip; rw [rfl, j53]; exact l45, by skip; rw [rfl, j53]; exact n45⟩, fun q => absurd (by skip; exact y18) q⟩ | exact absurd y18 n11 | exact absurd hg n18, rfl, rfl, rfl, rfl, rfl⟩)⟩
    · have qhc19 := hqv17.2 hc19
      have y18 := qhc19
      refine ok_gC rfl ?_
      refine ok_zbT (Q := fun V σ => ((TOK σ.1 ∧ (σ0.1 218 10).toInt ≤ (σ.1 218 11).toInt) ∧ RX σ.1 tx n (tkE tx n i)) ∧ (σ.1 218 7 = σ0.1 218 7 ∧ σ.1 218 9 = σ0.1 218 9 ∧ σ.1 218 14 = σ0.1 218 14 ∧ σ.1 218 15 = σ0.1 218 15 ∧ σ.1 218 20 = σ0.1 218 20 ∧ σ.1 218 22 = σ0.1 218 22 ∧ σ.1 218 23 = σ0.1 218 23 ∧ σ.1 218 24 = σ0.1 218 24 ∧ σ.1 218 25 = σ0.1 218 25)) hT (s_X12_advance_r hN (hR.tr hT) (TOK_A hK) (by rw [hT.2 224 (by decide)]; exact hY) (RX_i rfl rfl rfl rfl rfl ((hT.2 224 (by decide)).trans tE) nE pK)) (by decide) (fun v20 σ21 hOσ21 hT hqv20 => ?_)
      have hqv20 : ((TOK σ21.1 ∧ (σ0.1 218 10).toInt ≤ (σ21.1 218 11).toInt) ∧ RX σ21.1 tx n (tkE tx n i)) ∧ (σ21.1 218 7 = σ0.1 218 7 ∧ σ21.1 218 9 = σ0.1 218 9 ∧ σ21.1 218 14 = σ0.1 218 14 ∧ σ21.1 218 15 = σ0.1 218 15 ∧ σ21.1 218 20 = σ0.1 218 20 ∧ σ21.1 218 22 = σ0.1 218 22 ∧ σ21.1 218 23 = σ0.1 218 23 ∧ σ21.1 218 24 = σ0.1 218 24 ∧ σ21.1 218 25 = σ0.1 218 25) := hqv20
      have hkv20 := hqv20
      have hqv20 := hqv20.1
      have r230_σ21 : σ21.1 230 = σ0.1 230 := hOσ21.2 230 (by decide)
      have hK : TOK σ21.1 := by first | exact hqv20.1 | exact hqv20.1.1 | exact TOK_p eσ21 (by decide) hK
      have g7_σ21 : σ21.1 218 7 = (σ0.1 218 7) := hkv20.2.1
      have g9_σ21 : σ21.1 218 9 = (σ0.1 218 9) := hkv20.2.2.1
      have g14_σ21 : σ21.1 218 14 = (σ0.1 218 14) := hkv20.2.2.2.1
      have g15_σ21 : σ21.1 218 15 = (σ0.1 218 15) := hkv20.2.2.2.2.1
      have g20_σ21 : σ21.1 218 20 = (σ0.1 218 20) := hkv20.2.2.2.2.2.1
      have g22_σ21 : σ21.1 218 22 = (σ0.1 218 22) := hkv20.2.2.2.2.2.2.1
      have g23_σ21 : σ21.1 218 23 = (σ0.1 218 23) := hkv20.2.2.2.2.2.2.2.1
      have g24_σ21 : σ21.1 218 24 = (σ0.1 218 24) := hkv20.2.2.2.2.2.2.2.2.1
      have g25_σ21 : σ21.1 218 25 = (σ0.1 218 25) := hkv20.2.2.2.2.2.2.2.2.2
      have m23 := hqv20.1.2
      have g23 := hqv20.2
      have pK : TKV (σ21.1 218 11) (σ21.1 218 10) (σ21.1 218 12) (σ21.1 218 13) tx n (tkE tx n i) := hqv20.2.2
      refine ok_gIv rfl g24_σ21 ?_
      refine ok_pI hT rfl (by decide) (fun σ23 eσ23 hOσ23 hT => ?_)
      have r230_σ23 : σ23.1 230 = σ0.1 230 := (hOσ23.2 230 (by decide)).trans r230_σ21
      have hK : TOK σ23.1 := by first | exact HQ.1 | exact HQ.1.1 | exact TOK_p eσ23 (by decide) hK
      have g7_σ23 : σ23.1 218 7 = (σ0.1 218 7) := (zI_atN eσ23 (by decide)).trans g7_σ21
      have g9_σ23 : σ23.1 218 9 = (σ0.1 218 9) := (zI_atN eσ23 (by decide)).trans g9_σ21
      have g10_σ23 : σ23.1 218 10 = (σ21.1 218 10) := zI_atN eσ23 (by decide)
      have g11_σ23 : σ23.1 218 11 = (σ21.1 218 11) := zI_atN eσ23 (by decide)
      have g12_σ23 : σ23.1 218 12 = (σ21.1 218 12) := zI_atN eσ23 (by decide)
      have g13_σ23 : σ23.1 218 13 = (σ21.1 218 13) := zI_atN eσ23 (by decide)
      have g14_σ23 : σ23.1 218 14 = (σ0.1 218 14) := (zI_atN eσ23 (by decide)).trans g14_σ21
      have g15_σ23 : σ23.1 218 15 = (σ0.1 218 15) := (zI_atN eσ23 (by decide)).trans g15_σ21
      have g20_σ23 : σ23.1 218 20 = (σ0.1 218 20) := (zI_atN eσ23 (by decide)).trans g20_σ21
      have g22_σ23 : σ23.1 218 22 = (σ0.1 218 22) := (zI_atN eσ23 (by decide)).trans g22_σ21
      have g23_σ23 : σ23.1 218 23 = (σ0.1 218 23) := (zI_atN eσ23 (by decide)).trans g23_σ21
      have g24_σ23 : σ23.1 218 24 = ((σ0.1 218 24) + 1) := zI_atI eσ23
      have g25_σ23 : σ23.1 218 25 = (σ0.1 218 25) := (zI_atN eσ23 (by decide)).trans g25_σ21
      refine ok_gR (v := 230) hT rfl (hR 218 21 rfl) ?_
      refine ok_gIv rfl g22_σ23 ?_
      refine ok_s14 hT rfl (by decide) (by ((try simp only [g7_σ23, g9_σ23, g10_σ23, g11_σ23, g12_σ23, g13_σ23, g14_σ23, g15_σ23, g20_σ23, g22_σ23, g23_σ23, g24_σ23, g25_σ23])); first | omega | decide | (simp only [Int32.le_iff_toInt_le, Int32.lt_iff_toInt_lt, ti_add, ti_sub, ti_mul, Int32.reduceToInt] at *; omega)) (by ((try simp only [g7_σ23, g9_σ23, g10_σ23, g11_σ23, g12_σ23, g13_σ23, g14_σ23, g15_σ23, g20_σ23, g22_σ23, g23_σ23, g24_σ23, g25_σ23])); first | omega | decide | (simp only [Int32.le_iff_toInt_le, Int32.lt_iff_toInt_lt, ti_add, ti_sub, ti_mul, Int32.reduceToInt] at *; omega)) (fun σ26 eσ26 hOσ26 hT => ?_)
      have a45 := zI_atI eσ26
      have k45 : Stk (σ26.1 230) ((σ0.1 218 22).toInt.toNat + 1) b8 (d8 + 1) 0 := Stk_open hS (fun k hk => by rw [zI_atN eσ26 (by rw [j22]; omega)]; exact congrFun r230_σ23 k) (by rw [← j22, a45]; exact hx)
      have e45 : σ26.1 230 (σ0.1 218 22).toInt.toNat = x1 := a45
      have c45 : ∀ k, k < (σ0.1 218 22).toInt.toNat → σ26.1 230 k = σ0.1 230 k := fun k hk => by rw [zI_atN eσ26 (by rw [j22]; omega)]; exact congrFun r230_σ23 k
      have l45 := lst_o (g := σ26.1 230) (n := (σ0.1 218 22).toInt.toNat) (by rw [e45]; omega)
      rw [e45, lst_c c45] at l45
      have n45 : NP (σ26.1 230) ((σ0.1 218 22).toInt.toNat + 1) := ⟨NP_c c45 hNP, fun q => absurd q (by rw [e45]; omega)⟩
      have hK : TOK σ26.1 := TOK_tr hOσ26 (by decide) (by decide) hK
      have g7_σ26 : σ26.1 218 7 = (σ0.1 218 7) := (congrFun (hOσ26.2 218 (by decide)) 7).trans g7_σ23
      have g9_σ26 : σ26.1 218 9 = (σ0.1 218 9) := (congrFun (hOσ26.2 218 (by decide)) 9).trans g9_σ23
      have g10_σ26 : σ26.1 218 10 = (σ21.1 218 10) := (congrFun (hOσ26.2 218 (by decide)) 10).trans g10_σ23
      have g11_σ26 : σ26.1 218 11 = (σ21.1 218 11) := (congrFun (hOσ26.2 218 (by decide)) 11).trans g11_σ23
      have g12_σ26 : σ26.1 218 12 = (σ21.1 218 12) := (congrFun (hOσ26.2 218 (by decide)) 12).trans g12_σ23
      have g13_σ26 : σ26.1 218 13 = (σ21.1 218 13) := (congrFun (hOσ26.2 218 (by decide)) 13).trans g13_σ23
      have g14_σ26 : σ26.1 218 14 = (σ0.1 218 14) := (congrFun (hOσ26.2 218 (by decide)) 14).trans g14_σ23
      have g15_σ26 : σ26.1 218 15 = (σ0.1 218 15) := (congrFun (hOσ26.2 218 (by decide)) 15).trans g15_σ23
      have g20_σ26 : σ26.1 218 20 = (σ0.1 218 20) := (congrFun (hOσ26.2 218 (by decide)) 20).trans g20_σ23
      have g22_σ26 : σ26.1 218 22 = (σ0.1 218 22) := (congrFun (hOσ26.2 218 (by decide)) 22).trans g22_σ23
      have g23_σ26 : σ26.1 218 23 = (σ0.1 218 23) := (congrFun (hOσ26.2 218 (by decide)) 23).trans g23_σ23
      have g24_σ26 : σ26.1 218 24 = ((σ0.1 218 24) + 1) := (congrFun (hOσ26.2 218 (by decide)) 24).trans g24_σ23
      have g25_σ26 : σ26.1 218 25 = (σ0.1 218 25) := (congrFun (hOσ26.2 218 (by decide)) 25).trans g25_σ23
      refine ok_gIv rfl g22_σ26 ?_
      refine ok_pI hT rfl (by decide) (fun σ28 eσ28 hOσ28 hT => ?_)
      have r230_σ28 : σ28.1 230 = σ26.1 230 := hOσ28.2 230 (by decide)
      have hK : TOK σ28.1 := by first | exact HQ.1 | exact HQ.1.1 | exact TOK_p eσ28 (by decide) hK
      have g7_σ28 : σ28.1 218 7 = (σ0.1 218 7) := (zI_atN eσ28 (by decide)).trans g7_σ26
      have g9_σ28 : σ28.1 218 9 = (σ0.1 218 9) := (zI_atN eσ28 (by decide)).trans g9_σ26
      have g10_σ28 : σ28.1 218 10 = (σ21.1 218 10) := (zI_atN eσ28 (by decide)).trans g10_σ26
      have g11_σ28 : σ28.1 218 11 = (σ21.1 218 11) := (zI_atN eσ28 (by decide)).trans g11_σ26
      have g12_σ28 : σ28.1 218 12 = (σ21.1 218 12) := (zI_atN eσ28 (by decide)).trans g12_σ26
      have g13_σ28 : σ28.1 218 13 = (σ21.1 218 13) := (zI_atN eσ28 (by decide)).trans g13_σ26
      have g14_σ28 : σ28.1 218 14 = (σ0.1 218 14) := (zI_atN eσ28 (by decide)).trans g14_σ26
      have g15_σ28 : σ28.1 218 15 = (σ0.1 218 15) := (zI_atN eσ28 (by decide)).trans g15_σ26
      have g20_σ28 : σ28.1 218 20 = (σ0.1 218 20) := (zI_atN eσ28 (by decide)).trans g20_σ26
      have g22_σ28 : σ28.1 218 22 = ((σ0.1 218 22) + 1) := zI_atI eσ28
      have g23_σ28 : σ28.1 218 23 = (σ0.1 218 23) := (zI_atN eσ28 (by decide)).trans g23_σ26
      have g24_σ28 : σ28.1 218 24 = ((σ0.1 218 24) + 1) := (zI_atN eσ28 (by decide)).trans g24_σ26
      have g25_σ28 : σ28.1 218 25 = (σ0.1 218 25) := (zI_atN eσ28 (by decide)).trans g25_σ26
      exact ok_some ⟨hT, (show (TOK σ28.1 ∧ (σ0.1 218 11).toInt ≤ (σ28.1 218 11).toInt ∧ (0 ≤ (σ28.1 218 22).toInt ∧ (σ28.1 218 22).toInt ≤ 40) ∧ (σ28.1 218 14 = 0 → ((σ0.1 218 11).toInt < (σ28.1 218 11).toInt ∧ PIL σ28.1 0) ∧ (¬ (lst (σ0.1 230) (σ0.1 218 22).toInt.toNat).length = 6 ∧ RX σ28.1 tx n (tkE tx n i)) ∧ lst (σ28.1 230) (σ28.1 218 22).toInt.toNat = decide (x1 = 100) :: (lst (σ0.1 230) (σ0.1 218 22).toInt.toNat) ∧ NP (σ28.1 230) (σ28.1 218 22).toInt.toNat) ∧ (¬ σ28.1 218 14 = 0 → (lst (σ0.1 230) (σ0.1 218 22).toInt.toNat).length = 6)) ∧ (σ28.1 218 7 = σ0.1 218 7 ∧ σ28.1 218 9 = σ0.1 218 9 ∧ σ28.1 218 20 = σ0.1 218 20 ∧ σ28.1 218 23 = σ0.1 218 23 ∧ σ28.1 218 25 = σ0.1 218 25) from ⟨by first | exact ⟨hK, by (try simp only [g7_σ28, g9_σ28, g10_σ28, g11_σ28, g12_σ28, g13_σ28, g14_σ28, g15_σ28, g20_σ28, g22_σ28, g23_σ28, g24_σ28, g25_σ28]); omega, by (try simp only [g7_σ28, g9_σ28, g10_σ28, g11_σ28, g12_σ28, g13_σ28, g14_σ28, g15_σ28, g20_σ28, g22_σ28, g23_σ28, g24_σ28, g25_σ28]); omega, fun q => absurd q (by (try simp only [g7_σ28, g9_σ28, g10_σ28, g11_σ28, g12_σ28, g13_σ28, g14_σ28, g15_σ28, g20_σ28, g22_σ28, g23_σ28, g24_σ28, g25_σ28]); exact n18), fun _ => hlen.trans d6t⟩ | exact ⟨hK, by (try simp only [g7_σ28, g9_σ28, g10_σ28, g11_σ28, g12_σ28, g13_σ28, g14_σ28, g15_σ28, g20_σ28, g22_σ28, g23_σ28, g24_σ28, g25_σ28]); omega, by (try simp only [g7_σ28, g9_σ28, g10_σ28, g11_σ28, g12_σ28, g13_σ28, g14_σ28, g15_σ28, g20_σ28, g22_σ28, g23_σ28, g24_σ28, g25_σ28]); rw [s22]; omega, fun _ => ⟨⟨by (try simp only [g7_σ28, g9_σ28, g10_σ28, g11_σ28, g12_σ28, g13_σ28, g14_σ28, g15_σ28, g20_σ28, g22_σ28, g23_σ28, g24_σ28, g25_σ28]); omega, PIL_i g22_σ28 g23_σ28 g24_σ28 r230_σ28 (by rw [j53]; exact k45) (by rw [s22]; omega) s24 (by omega) hp⟩, ⟨by rw [hlen]; exact d6, RX_i g9_σ28 g10_σ28 g11_σ28 g12_σ28 g13_σ28 ((hT.2 224 (by decide)).trans tE) nE pK⟩, by (try simp only [g7_σ28, g9_σ28, g10_σ28, g11_σ28, g12_σ28, g13_σ28, g14_σ28, g15_σ28, g20_σ28, g22_σ28, g23_σ28, g24_σ28, g25_σ28]); rw [r230_σ28, j53]; exact l45, by (try simp only [g7_σ28, g9_σ28, g10_σ28, g11_σ28, g12_σ28, g13_σ28, g14_σ28, g15_σ28, g20_σ28, g22_σ28, g23_σ28, g24_σ28, g25_σ28]); rw [r230_σ28, j53]; exact n45⟩, fun q => absurd (by (try simp only [g7_σ28, g9_σ28, g10_σ28, g11_σ28, g12_σ28, g13_σ28, g14_σ28, g15_σ28, g20_σ28, g22_σ28, g23_σ28, g24_σ28, g25_σ28]); exact y18) q⟩ | exact absurd y18 n11 | exact absurd hg n18, g7_σ28, g9_σ28, g20_σ28, g23_σ28, g25_σ28⟩)⟩

theorem xf_X12_is {N w : Nat} {σ : zS} {t : Nat → Int32} {n i : Nat} (hN : 1048576 ≤ N) (hR : RF σ.2.2) (hw : w < zSn) (hK : TOK σ.1) (hg : σ.1 218 14 = 0) (hG : RX σ.1 t n i) : Ok (f_X12_is N 218 w σ) (fun r => r.2 = σ ∧ ((r.1 = 0 ∨ r.1 = 1) ∧ (r.1 = 0 → ¬ isW t n i w) ∧ (¬ r.1 = 0 → isW t n i w))) :=
  ok_wk (ok_and (x0_X12_is hN hR hw hK) (xe_X12_is hN hR hw hK hg hG)) (fun r h => ⟨h.1.1, h.1.2.1, h.2.2⟩)

set_option maxHeartbeats 4000000 in
set_option maxRecDepth 100000 in
theorem s_X12_takes_r {N : Nat} (hN : 1048576 ≤ N) {x1 : Nat} {σ0 : zS} {tx : Nat → Int32} {n i : Nat} (hR : RF σ0.2.2) (hK : TOK σ0.1) (hY : BYT (σ0.1 224)) (hG : RX σ0.1 tx n i) (hg : σ0.1 218 14 = 0) (hw : x1 < zSn) : Ok (f_X12_takes N 218 x1 σ0) (fun r => Tr [218] σ0 r.2 ∧ ((TOK r.2.1 ∧ (σ0.1 218 11).toInt ≤ (r.2.1 218 11).toInt ∧ (r.1 = 0 → r.2 = σ0 ∧ ¬ isW tx n i x1) ∧ (¬ r.1 = 0 → (isW tx n i x1 ∧ (σ0.1 218 11).toInt < (r.2.1 218 11).toInt) ∧ RX r.2.1 tx n (tkE tx n i))) ∧ (r.2.1 218 7 = σ0.1 218 7 ∧ r.2.1 218 9 = σ0.1 218 9 ∧ r.2.1 218 14 = σ0.1 218 14 ∧ r.2.1 218 15 = σ0.1 218 15 ∧ r.2.1 218 20 = σ0.1 218 20 ∧ r.2.1 218 22 = σ0.1 218 22 ∧ r.2.1 218 23 = σ0.1 218 23 ∧ r.2.1 218 24 = σ0.1 218 24 ∧ r.2.1 218 25 = σ0.1 218 25))) := by
  have hT : Tr [218] σ0 σ0 := Tr.rf
  have hK1 := hK.1
  have tE : σ0.1 224 = tx := hG.1.1
  have nE : (σ0.1 218 9).toInt.toNat = n := hG.1.2
  have pK : TKV (σ0.1 218 11) (σ0.1 218 10) (σ0.1 218 12) (σ0.1 218 13) tx n i := hG.2
  rw [f_X12_takes.eq_1]
  refine ok_gC rfl ?_
  refine ok_zbX (Q := fun V => (V = 0 ∨ V = 1) ∧ (V = 0 → ¬ isW tx n i x1) ∧ (¬ V = 0 → isW tx n i x1)) (xf_X12_is hN (hR.tr hT) hw hK hg hG) (fun v1 hqv1 => ?_)
  have hqv1 : (v1 = 0 ∨ v1 = 1) ∧ (v1 = 0 → ¬ isW tx n i x1) ∧ (¬ v1 = 0 → isW tx n i x1) := hqv1
  have z2 : v1 = 0 ∨ v1 = 1 := hqv1.1
  refine ok_if (fun hc3 => ?_) (fun hc3 => ?_)
  · have w7 := hc3
    have y7 := hqv1.2.1 hc3
    exact ok_rZ (z2) ⟨hT, (show (TOK σ0.1 ∧ (σ0.1 218 11).toInt ≤ (σ0.1 218 11).toInt ∧ (v1 = 0 → σ0 = σ0 ∧ ¬ isW tx n i x1) ∧ (¬ v1 = 0 → (isW tx n i x1 ∧ (σ0.1 218 11).toInt < (σ0.1 218 11).toInt) ∧ RX σ0.1 tx n (tkE tx n i))) ∧ (σ0.1 218 7 = σ0.1 218 7 ∧ σ0.1 218 9 = σ0.1 218 9 ∧ σ0.1 218 14 = σ0.1 218 14 ∧ σ0.1 218 15 = σ0.1 218 15 ∧ σ0.1 218 20 = σ0.1 218 20 ∧ σ0.1 218 22 = σ0.1 218 22 ∧ σ0.1 218 23 = σ0.1 218 23 ∧ σ0.1 218 24 = σ0.1 218 24 ∧ σ0.1 218 25 = σ0.1 218 25) from ⟨by first | exact ⟨hK, by omega, fun _ => ⟨rfl, y7⟩, fun q => absurd w7 q⟩ | exact ⟨hK, by skip; omega, fun q => absurd q w7, fun _ => ⟨⟨y7, by skip; omega⟩, g11q⟩⟩, rfl, rfl, rfl, rfl, rfl, rfl, rfl, rfl, rfl⟩)⟩
  · have w7 := hc3
    have y7 := hqv1.2.2 hc3
    have l7 := hK.2.1 (by rw [pK.2.1, y7.1]; decide)
    refine ok_gC rfl ?_
    refine ok_zbT (Q := fun V σ => ((TOK σ.1 ∧ (σ0.1 218 10).toInt ≤ (σ.1 218 11).toInt) ∧ RX σ.1 tx n (tkE tx n i)) ∧ (σ.1 218 7 = σ0.1 218 7 ∧ σ.1 218 9 = σ0.1 218 9 ∧ σ.1 218 14 = σ0.1 218 14 ∧ σ.1 218 15 = σ0.1 218 15 ∧ σ.1 218 20 = σ0.1 218 20 ∧ σ.1 218 22 = σ0.1 218 22 ∧ σ.1 218 23 = σ0.1 218 23 ∧ σ.1 218 24 = σ0.1 218 24 ∧ σ.1 218 25 = σ0.1 218 25)) hT (s_X12_advance_r hN (hR.tr hT) (TOK_A hK) (by rw [hT.2 224 (by decide)]; exact hY) (RX_i rfl rfl rfl rfl rfl ((hT.2 224 (by decide)).trans tE) nE pK)) (by decide) (fun v4 σ5 hOσ5 hT hqv4 => ?_)
    have hqv4 : ((TOK σ5.1 ∧ (σ0.1 218 10).toInt ≤ (σ5.1 218 11).toInt) ∧ RX σ5.1 tx n (tkE tx n i)) ∧ (σ5.1 218 7 = σ0.1 218 7 ∧ σ5.1 218 9 = σ0.1 218 9 ∧ σ5.1 218 14 = σ0.1 218 14 ∧ σ5.1 218 15 = σ0.1 218 15 ∧ σ5.1 218 20 = σ0.1 218 20 ∧ σ5.1 218 22 = σ0.1 218 22 ∧ σ5.1 218 23 = σ0.1 218 23 ∧ σ5.1 218 24 = σ0.1 218 24 ∧ σ5.1 218 25 = σ0.1 218 25) := hqv4
    have hkv4 := hqv4
    have hqv4 := hqv4.1
    have hK : TOK σ5.1 := by first | exact hqv4.1 | exact hqv4.1.1 | exact TOK_p eσ5 (by decide) hK
    have g7_σ5 : σ5.1 218 7 = (σ0.1 218 7) := hkv4.2.1
    have g9_σ5 : σ5.1 218 9 = (σ0.1 218 9) := hkv4.2.2.1
    have g14_σ5 : σ5.1 218 14 = (σ0.1 218 14) := hkv4.2.2.2.1
    have g15_σ5 : σ5.1 218 15 = (σ0.1 218 15) := hkv4.2.2.2.2.1
    have g20_σ5 : σ5.1 218 20 = (σ0.1 218 20) := hkv4.2.2.2.2.2.1
    have g22_σ5 : σ5.1 218 22 = (σ0.1 218 22) := hkv4.2.2.2.2.2.2.1
    have g23_σ5 : σ5.1 218 23 = (σ0.1 218 23) := hkv4.2.2.2.2.2.2.2.1
    have g24_σ5 : σ5.1 218 24 = (σ0.1 218 24) := hkv4.2.2.2.2.2.2.2.2.1
    have g25_σ5 : σ5.1 218 25 = (σ0.1 218 25) := hkv4.2.2.2.2.2.2.2.2.2
    have m11 := hqv4.1.2
    have g11q := hqv4.2
    exact ok_rZ (z2) ⟨hT, (show (TOK σ5.1 ∧ (σ0.1 218 11).toInt ≤ (σ5.1 218 11).toInt ∧ (v1 = 0 → σ5 = σ0 ∧ ¬ isW tx n i x1) ∧ (¬ v1 = 0 → (isW tx n i x1 ∧ (σ0.1 218 11).toInt < (σ5.1 218 11).toInt) ∧ RX σ5.1 tx n (tkE tx n i))) ∧ (σ5.1 218 7 = σ0.1 218 7 ∧ σ5.1 218 9 = σ0.1 218 9 ∧ σ5.1 218 14 = σ0.1 218 14 ∧ σ5.1 218 15 = σ0.1 218 15 ∧ σ5.1 218 20 = σ0.1 218 20 ∧ σ5.1 218 22 = σ0.1 218 22 ∧ σ5.1 218 23 = σ0.1 218 23 ∧ σ5.1 218 24 = σ0.1 218 24 ∧ σ5.1 218 25 = σ0.1 218 25) from ⟨by first | exact ⟨hK, by omega, fun _ => ⟨rfl, y7⟩, fun q => absurd w7 q⟩ | exact ⟨hK, by (try simp only [g7_σ5, g9_σ5, g14_σ5, g15_σ5, g20_σ5, g22_σ5, g23_σ5, g24_σ5, g25_σ5]); omega, fun q => absurd q w7, fun _ => ⟨⟨y7, by (try simp only [g7_σ5, g9_σ5, g14_σ5, g15_σ5, g20_σ5, g22_σ5, g23_σ5, g24_σ5, g25_σ5]); omega⟩, g11q⟩⟩, g7_σ5, g9_σ5, g14_σ5, g15_σ5, g20_σ5, g22_σ5, g23_σ5, g24_σ5, g25_σ5⟩)⟩

section STP
variable {t : Nat → Int32} {n i : Nat} {m : Int32} {L : List Bool} {sg : Nat}
theorem stp_o (h : isPx t n i ∨ tkK t n i = 40) : stp t n m (i, false, L, sg) = if L.length = 6 then none else some (some (tkE t n i, false, decide (tkK t n i = 40) :: L, sg)) := (if_pos rfl).trans (if_pos h)
theorem ite_any {α : Type} {c : Prop} (d1 d2 : Decidable c) {a b : α} : @ite α c d1 a b = @ite α c d2 a b := by
  rw [Subsingleton.elim d1 d2]
theorem stp_n (h0 : ¬ (isPx t n i ∨ tkK t n i = 40)) (h : tkK t n i = 2) : stp t n m (i, false, L, sg) = if nOK t n i 0 9 then some (some (tkE t n i, true, popP L, sg)) else none := (if_pos rfl).trans ((if_neg h0).trans ((if_pos h).trans (ite_any _ _)))
theorem stp_f (h0 : ¬ (isPx t n i ∨ tkK t n i = 40)) (h : tkK t n i = 123) : stp t n m (i, false, L, sg) = (fam t n m i).map (fun j => some (j, true, popP L, sg)) := (if_pos rfl).trans ((if_neg h0).trans ((if_neg (by rw [h]; decide)).trans (if_pos h)))
theorem stp_a (h0 : ¬ (isPx t n i ∨ tkK t n i = 40)) (h : isW t n i 15) : stp t n m (i, false, L, sg) = some (some (tkE t n i, true, popP L, sg)) := (if_pos rfl).trans ((if_neg h0).trans ((if_neg (by rw [h.1]; decide)).trans ((if_neg (by rw [h.1]; decide)).trans (if_pos h))))
theorem stp_z (h0 : ¬ (isPx t n i ∨ tkK t n i = 40)) (h1 : ¬ tkK t n i = 2) (h2 : ¬ tkK t n i = 123) (h : ¬ isW t n i 15) : stp t n m (i, false, L, sg) = none := (if_pos rfl).trans ((if_neg h0).trans ((if_neg h1).trans ((if_neg h2).trans (if_neg h))))
theorem stp_c (h : isCb (tkK t n i)) : stp t n m (i, true, L, sg) = if sg = 24 then none else some (some (tkE t n i, false, L, sg + 1)) := (if_neg (fun q => Bool.noConfusion (show true = false from q))).trans (if_pos h)
theorem stp_p (h0 : ¬ isCb (tkK t n i)) (h : tkK t n i = 41 ∧ true ∈ L) : stp t n m (i, true, L, sg) = some (some (tkE t n i, true, popP L.tail, sg))     := (if_neg (fun q => Bool.noConfusion (show true = false from q))).trans ((if_neg h0).trans (if_pos h))
theorem stp_e (h0 : ¬ isCb (tkK t n i)) (h : ¬ (tkK t n i = 41 ∧ true ∈ L)) : stp t n m (i, true, L, sg) = some none     := (if_neg (fun q => Bool.noConfusion (show true = false from q))).trans ((if_neg h0).trans (if_neg h))
theorem popP_i : ∀ L : List Bool, popP (popP L) = popP L
  | [] => rfl
  | true :: L => rfl
  | false :: L => popP_i L
def REL (s : Nat → Nat → Int32) (t : Nat → Int32) (n : Nat) (c : Cf) : Prop := (RX s t n c.1 ∧ c.1 ≤ n) ∧ (c.2.2.1 = lst (s 230) (s 218 22).toInt.toNat ∧ NP (s 230) (s 218 22).toInt.toNat) ∧ c.2.2.2 = (s 218 25).toInt.toNat ∧ (c.2.1 = true → PIL s 1 ∧ popP c.2.2.1 = c.2.2.1) ∧ (c.2.1 = false → PIL s 0)
end STP

section Zq8_0
set_option maxHeartbeats 4000000 in
set_option maxRecDepth 100000 in
theorem s_X12_readsPart_220 {N : Nat} (hN : 1048576 ≤ N) {x1 : Int32} {σ0 : zS}  (hR : RF σ0.2.2) (hK : TOK σ0.1) (hY : BYT (σ0.1 224)) (hB : ZB σ0.1) (hn : 0 ≤ x1.toInt ∧ x1.toInt ≤ 10) (ha : 0 ≤ (σ0.1 218 20).toInt ∧ (σ0.1 218 20).toInt ≤ 1024) (hP : PIL σ0.1 0) (hg : σ0.1 218 14 = 0) : Ok (f_X12_readsPart N 218 x1 220 σ0) (fun r => Tr [218, 226, 227, 228, 229, 230] σ0 r.2 ∧ ((TOK r.2.1 ∧ ((σ0.1 218 11).toInt ≤ (r.2.1 218 11).toInt ∧ 0 ≤ (r.2.1 218 22).toInt ∧ (r.2.1 218 22).toInt ≤ 40) ∧ (r.2.1 218 14 = 0 → (σ0.1 218 11).toInt < (r.2.1 218 11).toInt ∧ (¬ r.1 = 0 → PIL r.2.1 1) ∧ (r.1 = 0 → PIL r.2.1 0)) ∧ ZB r.2.1) ∧ (r.2.1 218 7 = σ0.1 218 7 ∧ r.2.1 218 9 = σ0.1 218 9 ∧ r.2.1 218 20 = σ0.1 218 20 ∧ r.2.1 218 25 = σ0.1 218 25))) := by
  have hT : Tr [218, 226, 227, 228, 229, 230] σ0 σ0 := Tr.rf
  have hK1 := hK.1
  have hb0 := PIL_b hP (by decide)
  have hP0 := hP
  obtain ⟨b8, d8, r8, hS, h22, hd, hd6, hp⟩ := hP0
  have hSb := Stk_b hS
  rw [f_X12_readsPart.eq_1]
  refine ok_gC rfl ?_
  refine ok_zbX (Q := fun V => V = -1 ∨ ((0 ≤ V.toInt ∧ V.toInt ≤ 5) ∧ σ0.1 218 14 = 0 ∧ σ0.1 218 12 = 1)) (x_X12_prefixOf hN (hR.tr hT) hK) (fun v1 hqv1 => ?_)
  have hqv1 : v1 = -1 ∨ ((0 ≤ v1.toInt ∧ v1.toInt ≤ 5) ∧ σ0.1 218 14 = 0 ∧ σ0.1 218 12 = 1) := hqv1
  refine ok_if (fun hc3 => ?_) (fun hc3 => ?_)
  · have e7 := hc3
    refine ok_gI rfl ?_
    refine ok_if (fun hc5 => ?_) (fun hc5 => ?_)
    · have e16 := hc5
      rw [J_X12_readsPart_19.eq_1]
      refine ok_if (fun hc6 => ?_) (fun hc6 => ?_)
      · refine ok_gC rfl ?_
        refine ok_zbT (Q := fun V σ => (TOK σ.1 ∧ (σ0.1 218 11).toInt ≤ (σ.1 218 11).toInt ∧ (0 ≤ (σ.1 218 22).toInt ∧ (σ.1 218 22).toInt ≤ 40) ∧ (σ.1 218 14 = 0 → σ0.1 218 14 = 0 ∧ (σ0.1 218 11).toInt < (σ.1 218 11).toInt ∧ PIL σ.1 0)) ∧ (σ.1 218 7 = σ0.1 218 7 ∧ σ.1 218 9 = σ0.1 218 9 ∧ σ.1 218 20 = σ0.1 218 20 ∧ σ.1 218 23 = σ0.1 218 23 ∧ σ.1 218 25 = σ0.1 218 25)) hT (s_X12_opens hN (hR.tr hT) (hK) (by rw [hT.2 224 (by decide)]; exact hY) (hP) (by first | decide | (rw [ti_add]; simp only [Int32.reduceToInt]; omega) | exact absurd e7 n22) (by first | (rw [w7.2.2]; decide) | (rw [e16]; decide))) (by decide) (fun v7 σ8 hOσ8 hT hqv7 => ?_)
        have hqv7 : (TOK σ8.1 ∧ (σ0.1 218 11).toInt ≤ (σ8.1 218 11).toInt ∧ (0 ≤ (σ8.1 218 22).toInt ∧ (σ8.1 218 22).toInt ≤ 40) ∧ (σ8.1 218 14 = 0 → σ0.1 218 14 = 0 ∧ (σ0.1 218 11).toInt < (σ8.1 218 11).toInt ∧ PIL σ8.1 0)) ∧ (σ8.1 218 7 = σ0.1 218 7 ∧ σ8.1 218 9 = σ0.1 218 9 ∧ σ8.1 218 20 = σ0.1 218 20 ∧ σ8.1 218 23 = σ0.1 218 23 ∧ σ8.1 218 25 = σ0.1 218 25) := hqv7
        have hkv7 := hqv7
        have hqv7 := hqv7.1
        have hK : TOK σ8.1 := by first | exact hqv7.1 | exact TOK_p eσ8 (by decide) hK
        have hB : ZB σ8.1 := ZB.tr hOσ8 (by decide) hB
        have g7_σ8 : σ8.1 218 7 = (σ0.1 218 7) := hkv7.2.1
        have g9_σ8 : σ8.1 218 9 = (σ0.1 218 9) := hkv7.2.2.1
        have g20_σ8 : σ8.1 218 20 = (σ0.1 218 20) := hkv7.2.2.2.1
        have g23_σ8 : σ8.1 218 23 = (σ0.1 218 23) := hkv7.2.2.2.2.1
        have g25_σ8 : σ8.1 218 25 = (σ0.1 218 25) := hkv7.2.2.2.2.2
        have m34 := hqv7.2
        exact ok_rZ (Or.inl rfl) ⟨hT, (show (TOK σ8.1 ∧ ((σ0.1 218 11).toInt ≤ (σ8.1 218 11).toInt ∧ 0 ≤ (σ8.1 218 22).toInt ∧ (σ8.1 218 22).toInt ≤ 40) ∧ (σ8.1 218 14 = 0 → (σ0.1 218 11).toInt < (σ8.1 218 11).toInt ∧ (¬ (0 : Int32) = 0 → PIL σ8.1 1) ∧ ((0 : Int32) = 0 → PIL σ8.1 0)) ∧ ZB σ8.1) ∧ (σ8.1 218 7 = σ0.1 218 7 ∧ σ8.1 218 9 = σ0.1 218 9 ∧ σ8.1 218 20 = σ0.1 218 20 ∧ σ8.1 218 25 = σ0.1 218 25) from ⟨by first | exact ⟨hK, ⟨m34.1, m34.2.1⟩, fun q => ⟨(m34.2.2 q).2.1, fun h => absurd rfl h, fun _ => (m34.2.2 q).2.2⟩, hB⟩ | exact ⟨hK, ⟨by (try simp only [g7_σ8, g9_σ8, g20_σ8, g23_σ8, g25_σ8]); omega, by (try simp only [g7_σ8, g9_σ8, g20_σ8, g23_σ8, g25_σ8]); omega⟩, fun q => absurd q (by (try simp only [g7_σ8, g9_σ8, g20_σ8, g23_σ8, g25_σ8]); exact n196), hB⟩ | exact ⟨hK, ⟨by (try simp only [g7_σ8, g9_σ8, g20_σ8, g23_σ8, g25_σ8]); omega, by omega⟩, fun _ => ⟨by (try simp only [g7_σ8, g9_σ8, g20_σ8, g23_σ8, g25_σ8]); exact (u51 y196).1.2, fun _ => h201, fun h => absurd h (by decide)⟩, hB⟩ | exact ⟨hK, ⟨by (try simp only [g7_σ8, g9_σ8, g20_σ8, g23_σ8, g25_σ8]); omega, by omega⟩, fun _ => ⟨by (try simp only [g7_σ8, g9_σ8, g20_σ8, g23_σ8, g25_σ8]); exact (u127 y196).2, fun _ => h201, fun h => absurd h (by decide)⟩, hB⟩ | exact ⟨hK, ⟨by (try simp only [g7_σ8, g9_σ8, g20_σ8, g23_σ8, g25_σ8]); omega, by omega⟩, fun _ => ⟨by (try simp only [g7_σ8, g9_σ8, g20_σ8, g23_σ8, g25_σ8]); exact k137, fun _ => h201, fun h => absurd h (by decide)⟩, hB⟩ | exact absurd y196 n189, g7_σ8, g9_σ8, g20_σ8, g25_σ8⟩)⟩
      · have n22 := hc6
        refine ok_gC rfl ?_
        refine ok_zbT (Q := fun V σ => (TOK σ.1 ∧ (σ0.1 218 11).toInt ≤ (σ.1 218 11).toInt ∧ (0 ≤ (σ.1 218 22).toInt ∧ (σ.1 218 22).toInt ≤ 40) ∧ (σ.1 218 14 = 0 → σ0.1 218 14 = 0 ∧ (σ0.1 218 11).toInt < (σ.1 218 11).toInt ∧ PIL σ.1 0)) ∧ (σ.1 218 7 = σ0.1 218 7 ∧ σ.1 218 9 = σ0.1 218 9 ∧ σ.1 218 20 = σ0.1 218 20 ∧ σ.1 218 23 = σ0.1 218 23 ∧ σ.1 218 25 = σ0.1 218 25)) hT (s_X12_opens hN (hR.tr hT) (hK) (by rw [hT.2 224 (by decide)]; exact hY) (hP) (by first | decide | (rw [ti_add]; simp only [Int32.reduceToInt]; omega) | exact absurd e7 n22) (by first | (rw [w7.2.2]; decide) | (rw [e16]; decide))) (by decide) (fun v9 σ10 hOσ10 hT hqv9 => ?_)
        have hqv9 : (TOK σ10.1 ∧ (σ0.1 218 11).toInt ≤ (σ10.1 218 11).toInt ∧ (0 ≤ (σ10.1 218 22).toInt ∧ (σ10.1 218 22).toInt ≤ 40) ∧ (σ10.1 218 14 = 0 → σ0.1 218 14 = 0 ∧ (σ0.1 218 11).toInt < (σ10.1 218 11).toInt ∧ PIL σ10.1 0)) ∧ (σ10.1 218 7 = σ0.1 218 7 ∧ σ10.1 218 9 = σ0.1 218 9 ∧ σ10.1 218 20 = σ0.1 218 20 ∧ σ10.1 218 23 = σ0.1 218 23 ∧ σ10.1 218 25 = σ0.1 218 25) := hqv9
        have hkv9 := hqv9
        have hqv9 := hqv9.1
        have hK : TOK σ10.1 := by first | exact hqv9.1 | exact TOK_p eσ10 (by decide) hK
        have hB : ZB σ10.1 := ZB.tr hOσ10 (by decide) hB
        have g7_σ10 : σ10.1 218 7 = (σ0.1 218 7) := hkv9.2.1
        have g9_σ10 : σ10.1 218 9 = (σ0.1 218 9) := hkv9.2.2.1
        have g20_σ10 : σ10.1 218 20 = (σ0.1 218 20) := hkv9.2.2.2.1
        have g23_σ10 : σ10.1 218 23 = (σ0.1 218 23) := hkv9.2.2.2.2.1
        have g25_σ10 : σ10.1 218 25 = (σ0.1 218 25) := hkv9.2.2.2.2.2
        have m34 := hqv9.2
        exact ok_rZ (Or.inl rfl) ⟨hT, (show (TOK σ10.1 ∧ ((σ0.1 218 11).toInt ≤ (σ10.1 218 11).toInt ∧ 0 ≤ (σ10.1 218 22).toInt ∧ (σ10.1 218 22).toInt ≤ 40) ∧ (σ10.1 218 14 = 0 → (σ0.1 218 11).toInt < (σ10.1 218 11).toInt ∧ (¬ (0 : Int32) = 0 → PIL σ10.1 1) ∧ ((0 : Int32) = 0 → PIL σ10.1 0)) ∧ ZB σ10.1) ∧ (σ10.1 218 7 = σ0.1 218 7 ∧ σ10.1 218 9 = σ0.1 218 9 ∧ σ10.1 218 20 = σ0.1 218 20 ∧ σ10.1 218 25 = σ0.1 218 25) from ⟨by first | exact ⟨hK, ⟨m34.1, m34.2.1⟩, fun q => ⟨(m34.2.2 q).2.1, fun h => absurd rfl h, fun _ => (m34.2.2 q).2.2⟩, hB⟩ | exact ⟨hK, ⟨by (try simp only [g7_σ10, g9_σ10, g20_σ10, g23_σ10, g25_σ10]); omega, by (try simp only [g7_σ10, g9_σ10, g20_σ10, g23_σ10, g25_σ10]); omega⟩, fun q => absurd q (by (try simp only [g7_σ10, g9_σ10, g20_σ10, g23_σ10, g25_σ10]); exact n196), hB⟩ | exact ⟨hK, ⟨by (try simp only [g7_σ10, g9_σ10, g20_σ10, g23_σ10, g25_σ10]); omega, by omega⟩, fun _ => ⟨by (try simp only [g7_σ10, g9_σ10, g20_σ10, g23_σ10, g25_σ10]); exact (u51 y196).1.2, fun _ => h201, fun h => absurd h (by decide)⟩, hB⟩ | exact ⟨hK, ⟨by (try simp only [g7_σ10, g9_σ10, g20_σ10, g23_σ10, g25_σ10]); omega, by omega⟩, fun _ => ⟨by (try simp only [g7_σ10, g9_σ10, g20_σ10, g23_σ10, g25_σ10]); exact (u127 y196).2, fun _ => h201, fun h => absurd h (by decide)⟩, hB⟩ | exact ⟨hK, ⟨by (try simp only [g7_σ10, g9_σ10, g20_σ10, g23_σ10, g25_σ10]); omega, by omega⟩, fun _ => ⟨by (try simp only [g7_σ10, g9_σ10, g20_σ10, g23_σ10, g25_σ10]); exact k137, fun _ => h201, fun h => absurd h (by decide)⟩, hB⟩ | exact absurd y196 n189, g7_σ10, g9_σ10, g20_σ10, g25_σ10⟩)⟩
    · refine ok_gI rfl ?_
      refine ok_if (fun hc12 => ?_) (fun hc12 => ?_)
      · refine ok_gC rfl ?_
        refine ok_zbT (Q := fun V σ => (TOK σ.1 ∧ (σ0.1 218 11).toInt ≤ (σ.1 218 11).toInt ∧ (σ.1 218 14 = 0 → (σ0.1 218 14 = 0 ∧ (σ0.1 218 11).toInt < (σ.1 218 11).toInt) ∧ (0 : Int32).toInt ≤ V.toInt ∧ V.toInt ≤ (9 : Int32).toInt) ∧ (¬ σ.1 218 14 = 0 → V = 0)) ∧ (σ.1 218 7 = σ0.1 218 7 ∧ σ.1 218 9 = σ0.1 218 9 ∧ σ.1 218 20 = σ0.1 218 20 ∧ σ.1 218 22 = σ0.1 218 22 ∧ σ.1 218 23 = σ0.1 218 23 ∧ σ.1 218 24 = σ0.1 218 24 ∧ σ.1 218 25 = σ0.1 218 25)) hT (s_X12_number hN (hR.tr hT) (hK) (by rw [hT.2 224 (by decide)]; exact hY)) (by decide) (fun v13 σ14 hOσ14 hT hqv13 => ?_)
        have hqv13 : (TOK σ14.1 ∧ (σ0.1 218 11).toInt ≤ (σ14.1 218 11).toInt ∧ (σ14.1 218 14 = 0 → (σ0.1 218 14 = 0 ∧ (σ0.1 218 11).toInt < (σ14.1 218 11).toInt) ∧ (0 : Int32).toInt ≤ v13.toInt ∧ v13.toInt ≤ (9 : Int32).toInt) ∧ (¬ σ14.1 218 14 = 0 → v13 = 0)) ∧ (σ14.1 218 7 = σ0.1 218 7 ∧ σ14.1 218 9 = σ0.1 218 9 ∧ σ14.1 218 20 = σ0.1 218 20 ∧ σ14.1 218 22 = σ0.1 218 22 ∧ σ14.1 218 23 = σ0.1 218 23 ∧ σ14.1 218 24 = σ0.1 218 24 ∧ σ14.1 218 25 = σ0.1 218 25) := hqv13
        have hkv13 := hqv13
        have hqv13 := hqv13.1
        have r230_σ14 : σ14.1 230 = σ0.1 230 := hOσ14.2 230 (by decide)
        have hK : TOK σ14.1 := by first | exact hqv13.1 | exact TOK_p eσ14 (by decide) hK
        have hB : ZB σ14.1 := ZB.tr hOσ14 (by decide) hB
        have g7_σ14 : σ14.1 218 7 = (σ0.1 218 7) := hkv13.2.1
        have g9_σ14 : σ14.1 218 9 = (σ0.1 218 9) := hkv13.2.2.1
        have g20_σ14 : σ14.1 218 20 = (σ0.1 218 20) := hkv13.2.2.2.1
        have g22_σ14 : σ14.1 218 22 = (σ0.1 218 22) := hkv13.2.2.2.2.1
        have g23_σ14 : σ14.1 218 23 = (σ0.1 218 23) := hkv13.2.2.2.2.2.1
        have g24_σ14 : σ14.1 218 24 = (σ0.1 218 24) := hkv13.2.2.2.2.2.2.1
        have g25_σ14 : σ14.1 218 25 = (σ0.1 218 25) := hkv13.2.2.2.2.2.2.2
        have m51 := hqv13.2.1
        have u51 := hqv13.2.2.1
        have b51 : 0 ≤ v13.toInt ∧ v13.toInt ≤ 9 := by by_cases h9 : σ14.1 218 14 = 0; have h8 := (hqv13.2.2.1 h9).2; simp only [Int32.reduceToInt] at h8; omega; rw [hqv13.2.2.2 h9]; decide
        have q51 := p1024 (p := v13) rfl b51.1 (by omega)
        refine ok_gC rfl ?_
        refine ok_zbT (Q := fun V σ => (TOK σ.1 ∧ ZB σ.1 ∧ σ.1 218 23 = σ14.1 218 23 + 1) ∧ (σ.1 218 7 = σ14.1 218 7 ∧ σ.1 218 9 = σ14.1 218 9 ∧ σ.1 218 10 = σ14.1 218 10 ∧ σ.1 218 11 = σ14.1 218 11 ∧ σ.1 218 12 = σ14.1 218 12 ∧ σ.1 218 13 = σ14.1 218 13 ∧ σ.1 218 14 = σ14.1 218 14 ∧ σ.1 218 15 = σ14.1 218 15 ∧ σ.1 218 20 = σ14.1 218 20 ∧ σ.1 218 22 = σ14.1 218 22 ∧ σ.1 218 24 = σ14.1 218 24 ∧ σ.1 218 25 = σ14.1 218 25)) hT (s_X12_pushesEmpty hN (hR.tr hT) (hK) (by rw [hT.2 224 (by decide)]; exact hY) (hB) (by (try simp only [g7_σ14, g9_σ14, g20_σ14, g22_σ14, g23_σ14, g24_σ14, g25_σ14]); omega)) (by decide) (fun v15 σ16 hOσ16 hT hqv15 => ?_)
        have hqv15 : (TOK σ16.1 ∧ ZB σ16.1 ∧ σ16.1 218 23 = σ14.1 218 23 + 1) ∧ (σ16.1 218 7 = σ14.1 218 7 ∧ σ16.1 218 9 = σ14.1 218 9 ∧ σ16.1 218 10 = σ14.1 218 10 ∧ σ16.1 218 11 = σ14.1 218 11 ∧ σ16.1 218 12 = σ14.1 218 12 ∧ σ16.1 218 13 = σ14.1 218 13 ∧ σ16.1 218 14 = σ14.1 218 14 ∧ σ16.1 218 15 = σ14.1 218 15 ∧ σ16.1 218 20 = σ14.1 218 20 ∧ σ16.1 218 22 = σ14.1 218 22 ∧ σ16.1 218 24 = σ14.1 218 24 ∧ σ16.1 218 25 = σ14.1 218 25) := hqv15
        have hkv15 := hqv15
        have hqv15 := hqv15.1
        have r230_σ16 : σ16.1 230 = σ0.1 230 := (hOσ16.2 230 (by decide)).trans r230_σ14
        have hK : TOK σ16.1 := by first | exact hqv15.1 | exact TOK_p eσ16 (by decide) hK
        have hB : ZB σ16.1 := by first | exact hqv15.2.1 | exact hqv15.2.2.2.1 | exact ZB_s eσ16 hB
        try simp only [g7_σ14, g9_σ14, g20_σ14, g22_σ14, g23_σ14, g24_σ14, g25_σ14] at hqv15
        have g7_σ16 : σ16.1 218 7 = (σ0.1 218 7) := (hkv15.2.1).trans g7_σ14
        have g9_σ16 : σ16.1 218 9 = (σ0.1 218 9) := (hkv15.2.2.1).trans g9_σ14
        have g10_σ16 : σ16.1 218 10 = (σ14.1 218 10) := hkv15.2.2.2.1
        have g11_σ16 : σ16.1 218 11 = (σ14.1 218 11) := hkv15.2.2.2.2.1
        have g12_σ16 : σ16.1 218 12 = (σ14.1 218 12) := hkv15.2.2.2.2.2.1
        have g13_σ16 : σ16.1 218 13 = (σ14.1 218 13) := hkv15.2.2.2.2.2.2.1
        have g14_σ16 : σ16.1 218 14 = (σ14.1 218 14) := hkv15.2.2.2.2.2.2.2.1
        have g15_σ16 : σ16.1 218 15 = (σ14.1 218 15) := hkv15.2.2.2.2.2.2.2.2.1
        have g20_σ16 : σ16.1 218 20 = (σ0.1 218 20) := (hkv15.2.2.2.2.2.2.2.2.2.1).trans g20_σ14
        have g22_σ16 : σ16.1 218 22 = (σ0.1 218 22) := (hkv15.2.2.2.2.2.2.2.2.2.2.1).trans g22_σ14
        have g24_σ16 : σ16.1 218 24 = (σ0.1 218 24) := (hkv15.2.2.2.2.2.2.2.2.2.2.2.1).trans g24_σ14
        have g25_σ16 : σ16.1 218 25 = (σ0.1 218 25) := (hkv15.2.2.2.2.2.2.2.2.2.2.2.2).trans g25_σ14
        have g57 := hqv15.2.2
        have s57 : (σ16.1 218 23).toInt = ((b8 + 1 : Nat) : Int) := by rw [g57, ti_add]; simp only [Int32.reduceToInt]; omega
        have p57 : ((σ16.1 218 23) - 1).toInt = (b8 : Int) := by rw [ti_sub, s57]; simp only [Int32.reduceToInt]; omega
        have m57 := p1024 p57 (by omega) (by omega)
        refine ok_lp (fun t : Int32 × zS => Tr [218, 226, 227, 228, 229, 230] σ0 (t.2) ∧ (0 ≤ (t.1).toInt) ∧ (TOK (t.2).1) ∧ (ZB (t.2).1) ∧ ((t.2).1 218 7 = (σ0.1 218 7)) ∧ ((t.2).1 218 9 = (σ0.1 218 9)) ∧ ((t.2).1 218 10 = (σ14.1 218 10)) ∧ ((t.2).1 218 11 = (σ14.1 218 11)) ∧ ((t.2).1 218 12 = (σ14.1 218 12)) ∧ ((t.2).1 218 13 = (σ14.1 218 13)) ∧ ((t.2).1 218 14 = (σ14.1 218 14)) ∧ ((t.2).1 218 15 = (σ14.1 218 15)) ∧ ((t.2).1 218 20 = (σ0.1 218 20)) ∧ ((t.2).1 218 22 = (σ0.1 218 22)) ∧ ((t.2).1 218 23 = (σ16.1 218 23)) ∧ ((t.2).1 218 24 = (σ0.1 218 24)) ∧ ((t.2).1 218 25 = (σ0.1 218 25)) ∧ ((t.2).1 230 = σ0.1 230)) (fun t : Int32 × zS => (1024 - (t.1).toInt).toNat) (fun again17 t hI ih63_17 => ?_) N _ (show Tr [218, 226, 227, 228, 229, 230] σ0 σ16 ∧ (0 ≤ (0 : Int32).toInt) ∧ (TOK σ16.1) ∧ (ZB σ16.1) ∧ (σ16.1 218 7 = (σ0.1 218 7)) ∧ (σ16.1 218 9 = (σ0.1 218 9)) ∧ (σ16.1 218 10 = (σ14.1 218 10)) ∧ (σ16.1 218 11 = (σ14.1 218 11)) ∧ (σ16.1 218 12 = (σ14.1 218 12)) ∧ (σ16.1 218 13 = (σ14.1 218 13)) ∧ (σ16.1 218 14 = (σ14.1 218 14)) ∧ (σ16.1 218 15 = (σ14.1 218 15)) ∧ (σ16.1 218 20 = (σ0.1 218 20)) ∧ (σ16.1 218 22 = (σ0.1 218 22)) ∧ (σ16.1 218 23 = (σ16.1 218 23)) ∧ (σ16.1 218 24 = (σ0.1 218 24)) ∧ (σ16.1 218 25 = (σ0.1 218 25)) ∧ (σ16.1 230 = σ0.1 230) from ⟨hT, (by decide), hK, hB, g7_σ16, g9_σ16, g10_σ16, g11_σ16, g12_σ16, g13_σ16, g14_σ16, g15_σ16, g20_σ16, g22_σ16, rfl, g24_σ16, g25_σ16, r230_σ16⟩) (show (1024 - (0 : Int32).toInt).toNat < N from (by simp only [Int32.reduceToInt]; omega))
        obtain ⟨x5_17, σ17⟩ := t
        have hI : Tr [218, 226, 227, 228, 229, 230] σ0 σ17 ∧ (0 ≤ x5_17.toInt) ∧ (TOK σ17.1) ∧ (ZB σ17.1) ∧ (σ17.1 218 7 = (σ0.1 218 7)) ∧ (σ17.1 218 9 = (σ0.1 218 9)) ∧ (σ17.1 218 10 = (σ14.1 218 10)) ∧ (σ17.1 218 11 = (σ14.1 218 11)) ∧ (σ17.1 218 12 = (σ14.1 218 12)) ∧ (σ17.1 218 13 = (σ14.1 218 13)) ∧ (σ17.1 218 14 = (σ14.1 218 14)) ∧ (σ17.1 218 15 = (σ14.1 218 15)) ∧ (σ17.1 218 20 = (σ0.1 218 20)) ∧ (σ17.1 218 22 = (σ0.1 218 22)) ∧ (σ17.1 218 23 = (σ16.1 218 23)) ∧ (σ17.1 218 24 = (σ0.1 218 24)) ∧ (σ17.1 218 25 = (σ0.1 218 25)) ∧ (σ17.1 230 = σ0.1 230) := hI
        obtain ⟨hT, hI17, hK, hB, g7_σ17, g9_σ17, g10_σ17, g11_σ17, g12_σ17, g13_σ17, g14_σ17, g15_σ17, g20_σ17, g22_σ17, g23_σ17, g24_σ17, g25_σ17, r230_σ17⟩ := hI
        rw [F_X12_readsPart_63.eq_1]
        refine ok_if (fun hc18 => ?_) (fun hc18 => ?_)
        · rw [J_X12_readsPart_192.eq_1]
          refine ok_gC rfl ?_
          refine ok_zbX (Q := fun V => (V = 0 → ¬ σ17.1 218 14 = 0) ∧ (¬ V = 0 → σ17.1 218 14 = 0)) (x_X12_good) (fun v19 hqv19 => ?_)
          have hqv19 : (v19 = 0 → ¬ σ17.1 218 14 = 0) ∧ (¬ v19 = 0 → σ17.1 218 14 = 0) := hqv19
          try simp only [g7_σ17, g9_σ17, g10_σ17, g11_σ17, g12_σ17, g13_σ17, g14_σ17, g15_σ17, g20_σ17, g22_σ17, g23_σ17, g24_σ17, g25_σ17, hT.2 224 (by decide)] at hqv19
          refine ok_if (fun hc21 => ?_) (fun hc21 => ?_)
          · have qhc21 := hqv19.1 hc21
            have n196 := qhc21
            exact ok_rZ (Or.inr rfl) ⟨hT, (show (TOK σ17.1 ∧ ((σ0.1 218 11).toInt ≤ (σ17.1 218 11).toInt ∧ 0 ≤ (σ17.1 218 22).toInt ∧ (σ17.1 218 22).toInt ≤ 40) ∧ (σ17.1 218 14 = 0 → (σ0.1 218 11).toInt < (σ17.1 218 11).toInt ∧ (¬ (1 : Int32) = 0 → PIL σ17.1 1) ∧ ((1 : Int32) = 0 → PIL σ17.1 0)) ∧ ZB σ17.1) ∧ (σ17.1 218 7 = σ0.1 218 7 ∧ σ17.1 218 9 = σ0.1 218 9 ∧ σ17.1 218 20 = σ0.1 218 20 ∧ σ17.1 218 25 = σ0.1 218 25) from ⟨by first | exact ⟨hK, ⟨m34.1, m34.2.1⟩, fun q => ⟨(m34.2.2 q).2.1, fun h => absurd rfl h, fun _ => (m34.2.2 q).2.2⟩, hB⟩ | exact ⟨hK, ⟨by (try simp only [g7_σ17, g9_σ17, g10_σ17, g11_σ17, g12_σ17, g13_σ17, g14_σ17, g15_σ17, g20_σ17, g22_σ17, g23_σ17, g24_σ17, g25_σ17]); omega, by (try simp only [g7_σ17, g9_σ17, g10_σ17, g11_σ17, g12_σ17, g13_σ17, g14_σ17, g15_σ17, g20_σ17, g22_σ17, g23_σ17, g24_σ17, g25_σ17]); omega⟩, fun q => absurd q (by (try simp only [g7_σ17, g9_σ17, g10_σ17, g11_σ17, g12_σ17, g13_σ17, g14_σ17, g15_σ17, g20_σ17, g22_σ17, g23_σ17, g24_σ17, g25_σ17]); exact n196), hB⟩ | exact ⟨hK, ⟨by (try simp only [g7_σ17, g9_σ17, g10_σ17, g11_σ17, g12_σ17, g13_σ17, g14_σ17, g15_σ17, g20_σ17, g22_σ17, g23_σ17, g24_σ17, g25_σ17]); omega, by omega⟩, fun _ => ⟨by (try simp only [g7_σ17, g9_σ17, g10_σ17, g11_σ17, g12_σ17, g13_σ17, g14_σ17, g15_σ17, g20_σ17, g22_σ17, g23_σ17, g24_σ17, g25_σ17]); exact (u51 y196).1.2, fun _ => h201, fun h => absurd h (by decide)⟩, hB⟩ | exact ⟨hK, ⟨by (try simp only [g7_σ17, g9_σ17, g10_σ17, g11_σ17, g12_σ17, g13_σ17, g14_σ17, g15_σ17, g20_σ17, g22_σ17, g23_σ17, g24_σ17, g25_σ17]); omega, by omega⟩, fun _ => ⟨by (try simp only [g7_σ17, g9_σ17, g10_σ17, g11_σ17, g12_σ17, g13_σ17, g14_σ17, g15_σ17, g20_σ17, g22_σ17, g23_σ17, g24_σ17, g25_σ17]); exact (u127 y196).2, fun _ => h201, fun h => absurd h (by decide)⟩, hB⟩ | exact ⟨hK, ⟨by (try simp only [g7_σ17, g9_σ17, g10_σ17, g11_σ17, g12_σ17, g13_σ17, g14_σ17, g15_σ17, g20_σ17, g22_σ17, g23_σ17, g24_σ17, g25_σ17]); omega, by omega⟩, fun _ => ⟨by (try simp only [g7_σ17, g9_σ17, g10_σ17, g11_σ17, g12_σ17, g13_σ17, g14_σ17, g15_σ17, g20_σ17, g22_σ17, g23_σ17, g24_σ17, g25_σ17]); exact k137, fun _ => h201, fun h => absurd h (by decide)⟩, hB⟩ | exact absurd y196 n189, g7_σ17, g9_σ17, g20_σ17, g25_σ17⟩)⟩
          · have qhc21 := hqv19.2 hc21
            have y196 := qhc21
            refine ok_gC rfl ?_
            refine ok_zbT (Q := fun V σ => (TOK σ.1 ∧ ZB σ.1 ∧ PIL σ.1 1 ∧ (∀ k : Nat, (k : Int) < (σ17.1 218 22).toInt → σ17.1 230 k = 100 → (k : Int) < (σ.1 218 22).toInt) ∧ ((σ.1 218 22).toInt ≤ 0 ∨ (rkI (σ17.1 230 ((σ.1 218 22) - 1).toNatClampNeg)).toInt < (3 : Int32).toInt)) ∧ (σ.1 218 7 = σ17.1 218 7 ∧ σ.1 218 9 = σ17.1 218 9 ∧ σ.1 218 10 = σ17.1 218 10 ∧ σ.1 218 11 = σ17.1 218 11 ∧ σ.1 218 12 = σ17.1 218 12 ∧ σ.1 218 13 = σ17.1 218 13 ∧ σ.1 218 14 = σ17.1 218 14 ∧ σ.1 218 15 = σ17.1 218 15 ∧ σ.1 218 20 = σ17.1 218 20 ∧ σ.1 218 25 = σ17.1 218 25)) hT (s_X12_settlesTo hN (hR.tr hT) (hK) (by rw [hT.2 224 (by decide)]; exact hY) (hB) (by (try simp only [g7_σ17, g9_σ17, g10_σ17, g11_σ17, g12_σ17, g13_σ17, g14_σ17, g15_σ17, g20_σ17, g22_σ17, g23_σ17, g24_σ17, g25_σ17]); exact ha) (by first | exact PIL_i g22_σ17 g23_σ17 g24_σ17 r230_σ17 hS h22 hd hd6 s57 | exact absurd y196 n189) (by decide)) (by decide) (fun v22 σ23 hOσ23 hT hqv22 => ?_)
            have hqv22 : (TOK σ23.1 ∧ ZB σ23.1 ∧ PIL σ23.1 1 ∧ (∀ k : Nat, (k : Int) < (σ17.1 218 22).toInt → σ17.1 230 k = 100 → (k : Int) < (σ23.1 218 22).toInt) ∧ ((σ23.1 218 22).toInt ≤ 0 ∨ (rkI (σ17.1 230 ((σ23.1 218 22) - 1).toNatClampNeg)).toInt < (3 : Int32).toInt)) ∧ (σ23.1 218 7 = σ17.1 218 7 ∧ σ23.1 218 9 = σ17.1 218 9 ∧ σ23.1 218 10 = σ17.1 218 10 ∧ σ23.1 218 11 = σ17.1 218 11 ∧ σ23.1 218 12 = σ17.1 218 12 ∧ σ23.1 218 13 = σ17.1 218 13 ∧ σ23.1 218 14 = σ17.1 218 14 ∧ σ23.1 218 15 = σ17.1 218 15 ∧ σ23.1 218 20 = σ17.1 218 20 ∧ σ23.1 218 25 = σ17.1 218 25) := hqv22
            have hkv22 := hqv22
            have hqv22 := hqv22.1
            have r230_σ23 : σ23.1 230 = σ0.1 230 := (hOσ23.2 230 (by decide)).trans r230_σ17
            have hK : TOK σ23.1 := by first | exact hqv22.1 | exact TOK_p eσ23 (by decide) hK
            have hB : ZB σ23.1 := by first | exact hqv22.2.1 | exact hqv22.2.2.2.1 | exact ZB_s eσ23 hB
            try simp only [g7_σ17, g9_σ17, g10_σ17, g11_σ17, g12_σ17, g13_σ17, g14_σ17, g15_σ17, g20_σ17, g22_σ17, g23_σ17, g24_σ17, g25_σ17] at hqv22
            have g7_σ23 : σ23.1 218 7 = (σ0.1 218 7) := (hkv22.2.1).trans g7_σ17
            have g9_σ23 : σ23.1 218 9 = (σ0.1 218 9) := (hkv22.2.2.1).trans g9_σ17
            have g10_σ23 : σ23.1 218 10 = (σ14.1 218 10) := (hkv22.2.2.2.1).trans g10_σ17
            have g11_σ23 : σ23.1 218 11 = (σ14.1 218 11) := (hkv22.2.2.2.2.1).trans g11_σ17
            have g12_σ23 : σ23.1 218 12 = (σ14.1 218 12) := (hkv22.2.2.2.2.2.1).trans g12_σ17
            have g13_σ23 : σ23.1 218 13 = (σ14.1 218 13) := (hkv22.2.2.2.2.2.2.1).trans g13_σ17
            have g14_σ23 : σ23.1 218 14 = (σ14.1 218 14) := (hkv22.2.2.2.2.2.2.2.1).trans g14_σ17
            have g15_σ23 : σ23.1 218 15 = (σ14.1 218 15) := (hkv22.2.2.2.2.2.2.2.2.1).trans g15_σ17
            have g20_σ23 : σ23.1 218 20 = (σ0.1 218 20) := (hkv22.2.2.2.2.2.2.2.2.2.1).trans g20_σ17
            have g25_σ23 : σ23.1 218 25 = (σ0.1 218 25) := (hkv22.2.2.2.2.2.2.2.2.2.2).trans g25_σ17
            have h201 := hqv22.2.2.1
            have b201 := PIL_b hqv22.2.2.1 (by decide)
            exact ok_rZ (Or.inr rfl) ⟨hT, (show (TOK σ23.1 ∧ ((σ0.1 218 11).toInt ≤ (σ23.1 218 11).toInt ∧ 0 ≤ (σ23.1 218 22).toInt ∧ (σ23.1 218 22).toInt ≤ 40) ∧ (σ23.1 218 14 = 0 → (σ0.1 218 11).toInt < (σ23.1 218 11).toInt ∧ (¬ (1 : Int32) = 0 → PIL σ23.1 1) ∧ ((1 : Int32) = 0 → PIL σ23.1 0)) ∧ ZB σ23.1) ∧ (σ23.1 218 7 = σ0.1 218 7 ∧ σ23.1 218 9 = σ0.1 218 9 ∧ σ23.1 218 20 = σ0.1 218 20 ∧ σ23.1 218 25 = σ0.1 218 25) from ⟨by first | exact ⟨hK, ⟨m34.1, m34.2.1⟩, fun q => ⟨(m34.2.2 q).2.1, fun h => absurd rfl h, fun _ => (m34.2.2 q).2.2⟩, hB⟩ | exact ⟨hK, ⟨by (try simp only [g7_σ23, g9_σ23, g10_σ23, g11_σ23, g12_σ23, g13_σ23, g14_σ23, g15_σ23, g20_σ23, g25_σ23]); omega, by (try simp only [g7_σ23, g9_σ23, g10_σ23, g11_σ23, g12_σ23, g13_σ23, g14_σ23, g15_σ23, g20_σ23, g25_σ23]); omega⟩, fun q => absurd q (by (try simp only [g7_σ23, g9_σ23, g10_σ23, g11_σ23, g12_σ23, g13_σ23, g14_σ23, g15_σ23, g20_σ23, g25_σ23]); exact n196), hB⟩ | exact ⟨hK, ⟨by (try simp only [g7_σ23, g9_σ23, g10_σ23, g11_σ23, g12_σ23, g13_σ23, g14_σ23, g15_σ23, g20_σ23, g25_σ23]); omega, by omega⟩, fun _ => ⟨by (try simp only [g7_σ23, g9_σ23, g10_σ23, g11_σ23, g12_σ23, g13_σ23, g14_σ23, g15_σ23, g20_σ23, g25_σ23]); exact (u51 y196).1.2, fun _ => h201, fun h => absurd h (by decide)⟩, hB⟩ | exact ⟨hK, ⟨by (try simp only [g7_σ23, g9_σ23, g10_σ23, g11_σ23, g12_σ23, g13_σ23, g14_σ23, g15_σ23, g20_σ23, g25_σ23]); omega, by omega⟩, fun _ => ⟨by (try simp only [g7_σ23, g9_σ23, g10_σ23, g11_σ23, g12_σ23, g13_σ23, g14_σ23, g15_σ23, g20_σ23, g25_σ23]); exact (u127 y196).2, fun _ => h201, fun h => absurd h (by decide)⟩, hB⟩ | exact ⟨hK, ⟨by (try simp only [g7_σ23, g9_σ23, g10_σ23, g11_σ23, g12_σ23, g13_σ23, g14_σ23, g15_σ23, g20_σ23, g25_σ23]); omega, by omega⟩, fun _ => ⟨by (try simp only [g7_σ23, g9_σ23, g10_σ23, g11_σ23, g12_σ23, g13_σ23, g14_σ23, g15_σ23, g20_σ23, g25_σ23]); exact k137, fun _ => h201, fun h => absurd h (by decide)⟩, hB⟩ | exact absurd y196 n189, g7_σ23, g9_σ23, g20_σ23, g25_σ23⟩)⟩
        · have l68 := hc18
          rw [Int32.le_iff_toInt_le] at l68
          try simp only [Int32.reduceToInt] at l68
          have s68 : (x5_17 + 1).toInt = x5_17.toInt + 1 := by rw [ti_add]; simp only [Int32.reduceToInt]; omega
          refine ok_gC rfl ?_
          refine ok_zbX (Q := fun V => (V = 0 → ¬ σ17.1 218 14 = 0) ∧ (¬ V = 0 → σ17.1 218 14 = 0)) (x_X12_good) (fun v24 hqv24 => ?_)
          have hqv24 : (v24 = 0 → ¬ σ17.1 218 14 = 0) ∧ (¬ v24 = 0 → σ17.1 218 14 = 0) := hqv24
          try simp only [g7_σ17, g9_σ17, g10_σ17, g11_σ17, g12_σ17, g13_σ17, g14_σ17, g15_σ17, g20_σ17, g22_σ17, g23_σ17, g24_σ17, g25_σ17, hT.2 224 (by decide)] at hqv24
          refine ok_if (fun hc26 => ?_) (fun hc26 => ?_)
          · have qhc26 := hqv24.1 hc26
            rw [J_X12_readsPart_192.eq_1]
            refine ok_gC rfl ?_
            refine ok_zbX (Q := fun V => (V = 0 → ¬ σ17.1 218 14 = 0) ∧ (¬ V = 0 → σ17.1 218 14 = 0)) (x_X12_good) (fun v27 hqv27 => ?_)
            have hqv27 : (v27 = 0 → ¬ σ17.1 218 14 = 0) ∧ (¬ v27 = 0 → σ17.1 218 14 = 0) := hqv27
            try simp only [g7_σ17, g9_σ17, g10_σ17, g11_σ17, g12_σ17, g13_σ17, g14_σ17, g15_σ17, g20_σ17, g22_σ17, g23_σ17, g24_σ17, g25_σ17, hT.2 224 (by decide)] at hqv27
            refine ok_if (fun hc29 => ?_) (fun hc29 => ?_)
            · have qhc29 := hqv27.1 hc29
              have n196 := qhc29
              exact ok_rZ (Or.inr rfl) ⟨hT, (show (TOK σ17.1 ∧ ((σ0.1 218 11).toInt ≤ (σ17.1 218 11).toInt ∧ 0 ≤ (σ17.1 218 22).toInt ∧ (σ17.1 218 22).toInt ≤ 40) ∧ (σ17.1 218 14 = 0 → (σ0.1 218 11).toInt < (σ17.1 218 11).toInt ∧ (¬ (1 : Int32) = 0 → PIL σ17.1 1) ∧ ((1 : Int32) = 0 → PIL σ17.1 0)) ∧ ZB σ17.1) ∧ (σ17.1 218 7 = σ0.1 218 7 ∧ σ17.1 218 9 = σ0.1 218 9 ∧ σ17.1 218 20 = σ0.1 218 20 ∧ σ17.1 218 25 = σ0.1 218 25) from ⟨by first | exact ⟨hK, ⟨m34.1, m34.2.1⟩, fun q => ⟨(m34.2.2 q).2.1, fun h => absurd rfl h, fun _ => (m34.2.2 q).2.2⟩, hB⟩ | exact ⟨hK, ⟨by (try simp only [g7_σ17, g9_σ17, g10_σ17, g11_σ17, g12_σ17, g13_σ17, g14_σ17, g15_σ17, g20_σ17, g22_σ17, g23_σ17, g24_σ17, g25_σ17]); omega, by (try simp only [g7_σ17, g9_σ17, g10_σ17, g11_σ17, g12_σ17, g13_σ17, g14_σ17, g15_σ17, g20_σ17, g22_σ17, g23_σ17, g24_σ17, g25_σ17]); omega⟩, fun q => absurd q (by (try simp only [g7_σ17, g9_σ17, g10_σ17, g11_σ17, g12_σ17, g13_σ17, g14_σ17, g15_σ17, g20_σ17, g22_σ17, g23_σ17, g24_σ17, g25_σ17]); exact n196), hB⟩ | exact ⟨hK, ⟨by (try simp only [g7_σ17, g9_σ17, g10_σ17, g11_σ17, g12_σ17, g13_σ17, g14_σ17, g15_σ17, g20_σ17, g22_σ17, g23_σ17, g24_σ17, g25_σ17]); omega, by omega⟩, fun _ => ⟨by (try simp only [g7_σ17, g9_σ17, g10_σ17, g11_σ17, g12_σ17, g13_σ17, g14_σ17, g15_σ17, g20_σ17, g22_σ17, g23_σ17, g24_σ17, g25_σ17]); exact (u51 y196).1.2, fun _ => h201, fun h => absurd h (by decide)⟩, hB⟩ | exact ⟨hK, ⟨by (try simp only [g7_σ17, g9_σ17, g10_σ17, g11_σ17, g12_σ17, g13_σ17, g14_σ17, g15_σ17, g20_σ17, g22_σ17, g23_σ17, g24_σ17, g25_σ17]); omega, by omega⟩, fun _ => ⟨by (try simp only [g7_σ17, g9_σ17, g10_σ17, g11_σ17, g12_σ17, g13_σ17, g14_σ17, g15_σ17, g20_σ17, g22_σ17, g23_σ17, g24_σ17, g25_σ17]); exact (u127 y196).2, fun _ => h201, fun h => absurd h (by decide)⟩, hB⟩ | exact ⟨hK, ⟨by (try simp only [g7_σ17, g9_σ17, g10_σ17, g11_σ17, g12_σ17, g13_σ17, g14_σ17, g15_σ17, g20_σ17, g22_σ17, g23_σ17, g24_σ17, g25_σ17]); omega, by omega⟩, fun _ => ⟨by (try simp only [g7_σ17, g9_σ17, g10_σ17, g11_σ17, g12_σ17, g13_σ17, g14_σ17, g15_σ17, g20_σ17, g22_σ17, g23_σ17, g24_σ17, g25_σ17]); exact k137, fun _ => h201, fun h => absurd h (by decide)⟩, hB⟩ | exact absurd y196 n189, g7_σ17, g9_σ17, g20_σ17, g25_σ17⟩)⟩
            · have qhc29 := hqv27.2 hc29
              have y196 := qhc29
              refine ok_gC rfl ?_
              refine ok_zbT (Q := fun V σ => (TOK σ.1 ∧ ZB σ.1 ∧ PIL σ.1 1 ∧ (∀ k : Nat, (k : Int) < (σ17.1 218 22).toInt → σ17.1 230 k = 100 → (k : Int) < (σ.1 218 22).toInt) ∧ ((σ.1 218 22).toInt ≤ 0 ∨ (rkI (σ17.1 230 ((σ.1 218 22) - 1).toNatClampNeg)).toInt < (3 : Int32).toInt)) ∧ (σ.1 218 7 = σ17.1 218 7 ∧ σ.1 218 9 = σ17.1 218 9 ∧ σ.1 218 10 = σ17.1 218 10 ∧ σ.1 218 11 = σ17.1 218 11 ∧ σ.1 218 12 = σ17.1 218 12 ∧ σ.1 218 13 = σ17.1 218 13 ∧ σ.1 218 14 = σ17.1 218 14 ∧ σ.1 218 15 = σ17.1 218 15 ∧ σ.1 218 20 = σ17.1 218 20 ∧ σ.1 218 25 = σ17.1 218 25)) hT (s_X12_settlesTo hN (hR.tr hT) (hK) (by rw [hT.2 224 (by decide)]; exact hY) (hB) (by (try simp only [g7_σ17, g9_σ17, g10_σ17, g11_σ17, g12_σ17, g13_σ17, g14_σ17, g15_σ17, g20_σ17, g22_σ17, g23_σ17, g24_σ17, g25_σ17]); exact ha) (by first | exact PIL_i g22_σ17 g23_σ17 g24_σ17 r230_σ17 hS h22 hd hd6 s57 | exact absurd y196 n189) (by decide)) (by decide) (fun v30 σ31 hOσ31 hT hqv30 => ?_)
              have hqv30 : (TOK σ31.1 ∧ ZB σ31.1 ∧ PIL σ31.1 1 ∧ (∀ k : Nat, (k : Int) < (σ17.1 218 22).toInt → σ17.1 230 k = 100 → (k : Int) < (σ31.1 218 22).toInt) ∧ ((σ31.1 218 22).toInt ≤ 0 ∨ (rkI (σ17.1 230 ((σ31.1 218 22) - 1).toNatClampNeg)).toInt < (3 : Int32).toInt)) ∧ (σ31.1 218 7 = σ17.1 218 7 ∧ σ31.1 218 9 = σ17.1 218 9 ∧ σ31.1 218 10 = σ17.1 218 10 ∧ σ31.1 218 11 = σ17.1 218 11 ∧ σ31.1 218 12 = σ17.1 218 12 ∧ σ31.1 218 13 = σ17.1 218 13 ∧ σ31.1 218 14 = σ17.1 218 14 ∧ σ31.1 218 15 = σ17.1 218 15 ∧ σ31.1 218 20 = σ17.1 218 20 ∧ σ31.1 218 25 = σ17.1 218 25) := hqv30
              have hkv30 := hqv30
              have hqv30 := hqv30.1
              have r230_σ31 : σ31.1 230 = σ0.1 230 := (hOσ31.2 230 (by decide)).trans r230_σ17
              have hK : TOK σ31.1 := by first | exact hqv30.1 | exact TOK_p eσ31 (by decide) hK
              have hB : ZB σ31.1 := by first | exact hqv30.2.1 | exact hqv30.2.2.2.1 | exact ZB_s eσ31 hB
              try simp only [g7_σ17, g9_σ17, g10_σ17, g11_σ17, g12_σ17, g13_σ17, g14_σ17, g15_σ17, g20_σ17, g22_σ17, g23_σ17, g24_σ17, g25_σ17] at hqv30
              have g7_σ31 : σ31.1 218 7 = (σ0.1 218 7) := (hkv30.2.1).trans g7_σ17
              have g9_σ31 : σ31.1 218 9 = (σ0.1 218 9) := (hkv30.2.2.1).trans g9_σ17
              have g10_σ31 : σ31.1 218 10 = (σ14.1 218 10) := (hkv30.2.2.2.1).trans g10_σ17
              have g11_σ31 : σ31.1 218 11 = (σ14.1 218 11) := (hkv30.2.2.2.2.1).trans g11_σ17
              have g12_σ31 : σ31.1 218 12 = (σ14.1 218 12) := (hkv30.2.2.2.2.2.1).trans g12_σ17
              have g13_σ31 : σ31.1 218 13 = (σ14.1 218 13) := (hkv30.2.2.2.2.2.2.1).trans g13_σ17
              have g14_σ31 : σ31.1 218 14 = (σ14.1 218 14) := (hkv30.2.2.2.2.2.2.2.1).trans g14_σ17
              have g15_σ31 : σ31.1 218 15 = (σ14.1 218 15) := (hkv30.2.2.2.2.2.2.2.2.1).trans g15_σ17
              have g20_σ31 : σ31.1 218 20 = (σ0.1 218 20) := (hkv30.2.2.2.2.2.2.2.2.2.1).trans g20_σ17
              have g25_σ31 : σ31.1 218 25 = (σ0.1 218 25) := (hkv30.2.2.2.2.2.2.2.2.2.2).trans g25_σ17
              have h201 := hqv30.2.2.1
              have b201 := PIL_b hqv30.2.2.1 (by decide)
              exact ok_rZ (Or.inr rfl) ⟨hT, (show (TOK σ31.1 ∧ ((σ0.1 218 11).toInt ≤ (σ31.1 218 11).toInt ∧ 0 ≤ (σ31.1 218 22).toInt ∧ (σ31.1 218 22).toInt ≤ 40) ∧ (σ31.1 218 14 = 0 → (σ0.1 218 11).toInt < (σ31.1 218 11).toInt ∧ (¬ (1 : Int32) = 0 → PIL σ31.1 1) ∧ ((1 : Int32) = 0 → PIL σ31.1 0)) ∧ ZB σ31.1) ∧ (σ31.1 218 7 = σ0.1 218 7 ∧ σ31.1 218 9 = σ0.1 218 9 ∧ σ31.1 218 20 = σ0.1 218 20 ∧ σ31.1 218 25 = σ0.1 218 25) from ⟨by first | exact ⟨hK, ⟨m34.1, m34.2.1⟩, fun q => ⟨(m34.2.2 q).2.1, fun h => absurd rfl h, fun _ => (m34.2.2 q).2.2⟩, hB⟩ | exact ⟨hK, ⟨by (try simp only [g7_σ31, g9_σ31, g10_σ31, g11_σ31, g12_σ31, g13_σ31, g14_σ31, g15_σ31, g20_σ31, g25_σ31]); omega, by (try simp only [g7_σ31, g9_σ31, g10_σ31, g11_σ31, g12_σ31, g13_σ31, g14_σ31, g15_σ31, g20_σ31, g25_σ31]); omega⟩, fun q => absurd q (by (try simp only [g7_σ31, g9_σ31, g10_σ31, g11_σ31, g12_σ31, g13_σ31, g14_σ31, g15_σ31, g20_σ31, g25_σ31]); exact n196), hB⟩ | exact ⟨hK, ⟨by (try simp only [g7_σ31, g9_σ31, g10_σ31, g11_σ31, g12_σ31, g13_σ31, g14_σ31, g15_σ31, g20_σ31, g25_σ31]); omega, by omega⟩, fun _ => ⟨by (try simp only [g7_σ31, g9_σ31, g10_σ31, g11_σ31, g12_σ31, g13_σ31, g14_σ31, g15_σ31, g20_σ31, g25_σ31]); exact (u51 y196).1.2, fun _ => h201, fun h => absurd h (by decide)⟩, hB⟩ | exact ⟨hK, ⟨by (try simp only [g7_σ31, g9_σ31, g10_σ31, g11_σ31, g12_σ31, g13_σ31, g14_σ31, g15_σ31, g20_σ31, g25_σ31]); omega, by omega⟩, fun _ => ⟨by (try simp only [g7_σ31, g9_σ31, g10_σ31, g11_σ31, g12_σ31, g13_σ31, g14_σ31, g15_σ31, g20_σ31, g25_σ31]); exact (u127 y196).2, fun _ => h201, fun h => absurd h (by decide)⟩, hB⟩ | exact ⟨hK, ⟨by (try simp only [g7_σ31, g9_σ31, g10_σ31, g11_σ31, g12_σ31, g13_σ31, g14_σ31, g15_σ31, g20_σ31, g25_σ31]); omega, by omega⟩, fun _ => ⟨by (try simp only [g7_σ31, g9_σ31, g10_σ31, g11_σ31, g12_σ31, g13_σ31, g14_σ31, g15_σ31, g20_σ31, g25_σ31]); exact k137, fun _ => h201, fun h => absurd h (by decide)⟩, hB⟩ | exact absurd y196 n189, g7_σ31, g9_σ31, g20_σ31, g25_σ31⟩)⟩
          · have qhc26 := hqv24.2 hc26
            refine ok_gR (v := 226) hT rfl (hR 218 16 rfl) ?_
            refine ok_gIv rfl g23_σ17 ?_
            refine ok_aIn rfl (by rw [ti_add, q51]; omega) (by rw [ti_add, q51]; omega) (fun v34 ev34 => ?_)
            have zv34 : v34 = 0 ∨ v34 = 1 := by rw [ev34]; exact hB 220 rfl _
            refine ok_s16 hT rfl (by decide) (by rw [ti_add, m57]; omega) (by rw [ti_add, m57]; omega) (fun σ35 eσ35 hOσ35 hT => ?_)
            have r230_σ35 : σ35.1 230 = σ0.1 230 := (hOσ35.2 230 (by decide)).trans r230_σ17
            have hK : TOK σ35.1 := TOK_tr hOσ35 (by decide) (by decide) hK
            have hB : ZB σ35.1 := by first | exact HQ.2.1 | exact HQ.2.2.2.1 | exact ZB_s eσ35 hB
            have g7_σ35 : σ35.1 218 7 = (σ0.1 218 7) := (congrFun (hOσ35.2 218 (by decide)) 7).trans g7_σ17
            have g9_σ35 : σ35.1 218 9 = (σ0.1 218 9) := (congrFun (hOσ35.2 218 (by decide)) 9).trans g9_σ17
            have g10_σ35 : σ35.1 218 10 = (σ14.1 218 10) := (congrFun (hOσ35.2 218 (by decide)) 10).trans g10_σ17
            have g11_σ35 : σ35.1 218 11 = (σ14.1 218 11) := (congrFun (hOσ35.2 218 (by decide)) 11).trans g11_σ17
            have g12_σ35 : σ35.1 218 12 = (σ14.1 218 12) := (congrFun (hOσ35.2 218 (by decide)) 12).trans g12_σ17
            have g13_σ35 : σ35.1 218 13 = (σ14.1 218 13) := (congrFun (hOσ35.2 218 (by decide)) 13).trans g13_σ17
            have g14_σ35 : σ35.1 218 14 = (σ14.1 218 14) := (congrFun (hOσ35.2 218 (by decide)) 14).trans g14_σ17
            have g15_σ35 : σ35.1 218 15 = (σ14.1 218 15) := (congrFun (hOσ35.2 218 (by decide)) 15).trans g15_σ17
            have g20_σ35 : σ35.1 218 20 = (σ0.1 218 20) := (congrFun (hOσ35.2 218 (by decide)) 20).trans g20_σ17
            have g22_σ35 : σ35.1 218 22 = (σ0.1 218 22) := (congrFun (hOσ35.2 218 (by decide)) 22).trans g22_σ17
            have g23_σ35 : σ35.1 218 23 = (σ16.1 218 23) := (congrFun (hOσ35.2 218 (by decide)) 23).trans g23_σ17
            have g24_σ35 : σ35.1 218 24 = (σ0.1 218 24) := (congrFun (hOσ35.2 218 (by decide)) 24).trans g24_σ17
            have g25_σ35 : σ35.1 218 25 = (σ0.1 218 25) := (congrFun (hOσ35.2 218 (by decide)) 25).trans g25_σ17
            exact ih63_17 (x5_17 + 1, σ35) (show Tr [218, 226, 227, 228, 229, 230] σ0 σ35 ∧ (0 ≤ (x5_17 + 1).toInt) ∧ (TOK σ35.1) ∧ (ZB σ35.1) ∧ (σ35.1 218 7 = (σ0.1 218 7)) ∧ (σ35.1 218 9 = (σ0.1 218 9)) ∧ (σ35.1 218 10 = (σ14.1 218 10)) ∧ (σ35.1 218 11 = (σ14.1 218 11)) ∧ (σ35.1 218 12 = (σ14.1 218 12)) ∧ (σ35.1 218 13 = (σ14.1 218 13)) ∧ (σ35.1 218 14 = (σ14.1 218 14)) ∧ (σ35.1 218 15 = (σ14.1 218 15)) ∧ (σ35.1 218 20 = (σ0.1 218 20)) ∧ (σ35.1 218 22 = (σ0.1 218 22)) ∧ (σ35.1 218 23 = (σ16.1 218 23)) ∧ (σ35.1 218 24 = (σ0.1 218 24)) ∧ (σ35.1 218 25 = (σ0.1 218 25)) ∧ (σ35.1 230 = σ0.1 230) from ⟨hT, (by rw [s68]; omega), hK, hB, g7_σ35, g9_σ35, g10_σ35, g11_σ35, g12_σ35, g13_σ35, g14_σ35, g15_σ35, g20_σ35, g22_σ35, g23_σ35, g24_σ35, g25_σ35, r230_σ35⟩) (show (1024 - (x5_17 + 1).toInt).toNat < (1024 - x5_17.toInt).toNat from (by rw [s68]; omega))
      · refine ok_gI rfl ?_
        refine ok_if (fun hc37 => ?_) (fun hc37 => ?_)
        · have e122 := hc37
          refine ok_gC rfl ?_
          refine ok_zbT (Q := fun V σ => (TOK σ.1 ∧ (σ0.1 218 11).toInt ≤ (σ.1 218 11).toInt ∧ (σ.1 218 14 = 0 → σ0.1 218 14 = 0 ∧ (σ0.1 218 11).toInt < (σ.1 218 11).toInt) ∧ ZB σ.1 ∧ σ.1 218 23 = σ0.1 218 23 + 1) ∧ (σ.1 218 7 = σ0.1 218 7 ∧ σ.1 218 9 = σ0.1 218 9 ∧ σ.1 218 20 = σ0.1 218 20 ∧ σ.1 218 22 = σ0.1 218 22 ∧ σ.1 218 24 = σ0.1 218 24 ∧ σ.1 218 25 = σ0.1 218 25)) hT (s_X12_readsSets hN (hR.tr hT) (hK) (by rw [hT.2 224 (by decide)]; exact hY) (hB) (hn) (by skip; omega) (by rw [e122]; decide)) (by decide) (fun v38 σ39 hOσ39 hT hqv38 => ?_)
          have hqv38 : (TOK σ39.1 ∧ (σ0.1 218 11).toInt ≤ (σ39.1 218 11).toInt ∧ (σ39.1 218 14 = 0 → σ0.1 218 14 = 0 ∧ (σ0.1 218 11).toInt < (σ39.1 218 11).toInt) ∧ ZB σ39.1 ∧ σ39.1 218 23 = σ0.1 218 23 + 1) ∧ (σ39.1 218 7 = σ0.1 218 7 ∧ σ39.1 218 9 = σ0.1 218 9 ∧ σ39.1 218 20 = σ0.1 218 20 ∧ σ39.1 218 22 = σ0.1 218 22 ∧ σ39.1 218 24 = σ0.1 218 24 ∧ σ39.1 218 25 = σ0.1 218 25) := hqv38
          have hkv38 := hqv38
          have hqv38 := hqv38.1
          have r230_σ39 : σ39.1 230 = σ0.1 230 := hOσ39.2 230 (by decide)
          have hK : TOK σ39.1 := by first | exact hqv38.1 | exact TOK_p eσ39 (by decide) hK
          have hB : ZB σ39.1 := by first | exact hqv38.2.1 | exact hqv38.2.2.2.1 | exact ZB_s eσ39 hB
          have g7_σ39 : σ39.1 218 7 = (σ0.1 218 7) := hkv38.2.1
          have g9_σ39 : σ39.1 218 9 = (σ0.1 218 9) := hkv38.2.2.1
          have g20_σ39 : σ39.1 218 20 = (σ0.1 218 20) := hkv38.2.2.2.1
          have g22_σ39 : σ39.1 218 22 = (σ0.1 218 22) := hkv38.2.2.2.2.1
          have g24_σ39 : σ39.1 218 24 = (σ0.1 218 24) := hkv38.2.2.2.2.2.1
          have g25_σ39 : σ39.1 218 25 = (σ0.1 218 25) := hkv38.2.2.2.2.2.2
          have m127 := hqv38.2.1
          have u127 := hqv38.2.2.1
          have g57 := hqv38.2.2.2.2
          have s57 : (σ39.1 218 23).toInt = ((b8 + 1 : Nat) : Int) := by rw [g57, ti_add]; simp only [Int32.reduceToInt]; omega
          have p57 : ((σ39.1 218 23) - 1).toInt = (b8 : Int) := by rw [ti_sub, s57]; simp only [Int32.reduceToInt]; omega
          have m57 := p1024 p57 (by omega) (by omega)
          rw [J_X12_readsPart_192.eq_1]
          refine ok_gC rfl ?_
          refine ok_zbX (Q := fun V => (V = 0 → ¬ σ39.1 218 14 = 0) ∧ (¬ V = 0 → σ39.1 218 14 = 0)) (x_X12_good) (fun v40 hqv40 => ?_)
          have hqv40 : (v40 = 0 → ¬ σ39.1 218 14 = 0) ∧ (¬ v40 = 0 → σ39.1 218 14 = 0) := hqv40
          try simp only [g7_σ39, g9_σ39, g20_σ39, g22_σ39, g24_σ39, g25_σ39, hT.2 224 (by decide)] at hqv40
          refine ok_if (fun hc42 => ?_) (fun hc42 => ?_)
          · have qhc42 := hqv40.1 hc42
            have n196 := qhc42
            exact ok_rZ (Or.inr rfl) ⟨hT, (show (TOK σ39.1 ∧ ((σ0.1 218 11).toInt ≤ (σ39.1 218 11).toInt ∧ 0 ≤ (σ39.1 218 22).toInt ∧ (σ39.1 218 22).toInt ≤ 40) ∧ (σ39.1 218 14 = 0 → (σ0.1 218 11).toInt < (σ39.1 218 11).toInt ∧ (¬ (1 : Int32) = 0 → PIL σ39.1 1) ∧ ((1 : Int32) = 0 → PIL σ39.1 0)) ∧ ZB σ39.1) ∧ (σ39.1 218 7 = σ0.1 218 7 ∧ σ39.1 218 9 = σ0.1 218 9 ∧ σ39.1 218 20 = σ0.1 218 20 ∧ σ39.1 218 25 = σ0.1 218 25) from ⟨by first | exact ⟨hK, ⟨m34.1, m34.2.1⟩, fun q => ⟨(m34.2.2 q).2.1, fun h => absurd rfl h, fun _ => (m34.2.2 q).2.2⟩, hB⟩ | exact ⟨hK, ⟨by (try simp only [g7_σ39, g9_σ39, g20_σ39, g22_σ39, g24_σ39, g25_σ39]); omega, by (try simp only [g7_σ39, g9_σ39, g20_σ39, g22_σ39, g24_σ39, g25_σ39]); omega⟩, fun q => absurd q (by (try simp only [g7_σ39, g9_σ39, g20_σ39, g22_σ39, g24_σ39, g25_σ39]); exact n196), hB⟩ | exact ⟨hK, ⟨by (try simp only [g7_σ39, g9_σ39, g20_σ39, g22_σ39, g24_σ39, g25_σ39]); omega, by omega⟩, fun _ => ⟨by (try simp only [g7_σ39, g9_σ39, g20_σ39, g22_σ39, g24_σ39, g25_σ39]); exact (u51 y196).1.2, fun _ => h201, fun h => absurd h (by decide)⟩, hB⟩ | exact ⟨hK, ⟨by (try simp only [g7_σ39, g9_σ39, g20_σ39, g22_σ39, g24_σ39, g25_σ39]); omega, by omega⟩, fun _ => ⟨by (try simp only [g7_σ39, g9_σ39, g20_σ39, g22_σ39, g24_σ39, g25_σ39]); exact (u127 y196).2, fun _ => h201, fun h => absurd h (by decide)⟩, hB⟩ | exact ⟨hK, ⟨by (try simp only [g7_σ39, g9_σ39, g20_σ39, g22_σ39, g24_σ39, g25_σ39]); omega, by omega⟩, fun _ => ⟨by (try simp only [g7_σ39, g9_σ39, g20_σ39, g22_σ39, g24_σ39, g25_σ39]); exact k137, fun _ => h201, fun h => absurd h (by decide)⟩, hB⟩ | exact absurd y196 n189, g7_σ39, g9_σ39, g20_σ39, g25_σ39⟩)⟩
          · have qhc42 := hqv40.2 hc42
            have y196 := qhc42
            refine ok_gC rfl ?_
            refine ok_zbT (Q := fun V σ => (TOK σ.1 ∧ ZB σ.1 ∧ PIL σ.1 1 ∧ (∀ k : Nat, (k : Int) < (σ39.1 218 22).toInt → σ39.1 230 k = 100 → (k : Int) < (σ.1 218 22).toInt) ∧ ((σ.1 218 22).toInt ≤ 0 ∨ (rkI (σ39.1 230 ((σ.1 218 22) - 1).toNatClampNeg)).toInt < (3 : Int32).toInt)) ∧ (σ.1 218 7 = σ39.1 218 7 ∧ σ.1 218 9 = σ39.1 218 9 ∧ σ.1 218 10 = σ39.1 218 10 ∧ σ.1 218 11 = σ39.1 218 11 ∧ σ.1 218 12 = σ39.1 218 12 ∧ σ.1 218 13 = σ39.1 218 13 ∧ σ.1 218 14 = σ39.1 218 14 ∧ σ.1 218 15 = σ39.1 218 15 ∧ σ.1 218 20 = σ39.1 218 20 ∧ σ.1 218 25 = σ39.1 218 25)) hT (s_X12_settlesTo hN (hR.tr hT) (hK) (by rw [hT.2 224 (by decide)]; exact hY) (hB) (by (try simp only [g7_σ39, g9_σ39, g20_σ39, g22_σ39, g24_σ39, g25_σ39]); exact ha) (by first | exact PIL_i g22_σ39 rfl g24_σ39 r230_σ39 hS h22 hd hd6 s57 | exact absurd y196 n189) (by decide)) (by decide) (fun v43 σ44 hOσ44 hT hqv43 => ?_)
            have hqv43 : (TOK σ44.1 ∧ ZB σ44.1 ∧ PIL σ44.1 1 ∧ (∀ k : Nat, (k : Int) < (σ39.1 218 22).toInt → σ39.1 230 k = 100 → (k : Int) < (σ44.1 218 22).toInt) ∧ ((σ44.1 218 22).toInt ≤ 0 ∨ (rkI (σ39.1 230 ((σ44.1 218 22) - 1).toNatClampNeg)).toInt < (3 : Int32).toInt)) ∧ (σ44.1 218 7 = σ39.1 218 7 ∧ σ44.1 218 9 = σ39.1 218 9 ∧ σ44.1 218 10 = σ39.1 218 10 ∧ σ44.1 218 11 = σ39.1 218 11 ∧ σ44.1 218 12 = σ39.1 218 12 ∧ σ44.1 218 13 = σ39.1 218 13 ∧ σ44.1 218 14 = σ39.1 218 14 ∧ σ44.1 218 15 = σ39.1 218 15 ∧ σ44.1 218 20 = σ39.1 218 20 ∧ σ44.1 218 25 = σ39.1 218 25) := hqv43
            have hkv43 := hqv43
            have hqv43 := hqv43.1
            have r230_σ44 : σ44.1 230 = σ0.1 230 := (hOσ44.2 230 (by decide)).trans r230_σ39
            have hK : TOK σ44.1 := by first | exact hqv43.1 | exact TOK_p eσ44 (by decide) hK
            have hB : ZB σ44.1 := by first | exact hqv43.2.1 | exact hqv43.2.2.2.1 | exact ZB_s eσ44 hB
            try simp only [g7_σ39, g9_σ39, g20_σ39, g22_σ39, g24_σ39, g25_σ39] at hqv43
            have g7_σ44 : σ44.1 218 7 = (σ0.1 218 7) := (hkv43.2.1).trans g7_σ39
            have g9_σ44 : σ44.1 218 9 = (σ0.1 218 9) := (hkv43.2.2.1).trans g9_σ39
            have g10_σ44 : σ44.1 218 10 = (σ39.1 218 10) := hkv43.2.2.2.1
            have g11_σ44 : σ44.1 218 11 = (σ39.1 218 11) := hkv43.2.2.2.2.1
            have g12_σ44 : σ44.1 218 12 = (σ39.1 218 12) := hkv43.2.2.2.2.2.1
            have g13_σ44 : σ44.1 218 13 = (σ39.1 218 13) := hkv43.2.2.2.2.2.2.1
            have g14_σ44 : σ44.1 218 14 = (σ39.1 218 14) := hkv43.2.2.2.2.2.2.2.1
            have g15_σ44 : σ44.1 218 15 = (σ39.1 218 15) := hkv43.2.2.2.2.2.2.2.2.1
            have g20_σ44 : σ44.1 218 20 = (σ0.1 218 20) := (hkv43.2.2.2.2.2.2.2.2.2.1).trans g20_σ39
            have g25_σ44 : σ44.1 218 25 = (σ0.1 218 25) := (hkv43.2.2.2.2.2.2.2.2.2.2).trans g25_σ39
            have h201 := hqv43.2.2.1
            have b201 := PIL_b hqv43.2.2.1 (by decide)
            exact ok_rZ (Or.inr rfl) ⟨hT, (show (TOK σ44.1 ∧ ((σ0.1 218 11).toInt ≤ (σ44.1 218 11).toInt ∧ 0 ≤ (σ44.1 218 22).toInt ∧ (σ44.1 218 22).toInt ≤ 40) ∧ (σ44.1 218 14 = 0 → (σ0.1 218 11).toInt < (σ44.1 218 11).toInt ∧ (¬ (1 : Int32) = 0 → PIL σ44.1 1) ∧ ((1 : Int32) = 0 → PIL σ44.1 0)) ∧ ZB σ44.1) ∧ (σ44.1 218 7 = σ0.1 218 7 ∧ σ44.1 218 9 = σ0.1 218 9 ∧ σ44.1 218 20 = σ0.1 218 20 ∧ σ44.1 218 25 = σ0.1 218 25) from ⟨by first | exact ⟨hK, ⟨m34.1, m34.2.1⟩, fun q => ⟨(m34.2.2 q).2.1, fun h => absurd rfl h, fun _ => (m34.2.2 q).2.2⟩, hB⟩ | exact ⟨hK, ⟨by (try simp only [g7_σ44, g9_σ44, g10_σ44, g11_σ44, g12_σ44, g13_σ44, g14_σ44, g15_σ44, g20_σ44, g25_σ44]); omega, by (try simp only [g7_σ44, g9_σ44, g10_σ44, g11_σ44, g12_σ44, g13_σ44, g14_σ44, g15_σ44, g20_σ44, g25_σ44]); omega⟩, fun q => absurd q (by (try simp only [g7_σ44, g9_σ44, g10_σ44, g11_σ44, g12_σ44, g13_σ44, g14_σ44, g15_σ44, g20_σ44, g25_σ44]); exact n196), hB⟩ | exact ⟨hK, ⟨by (try simp only [g7_σ44, g9_σ44, g10_σ44, g11_σ44, g12_σ44, g13_σ44, g14_σ44, g15_σ44, g20_σ44, g25_σ44]); omega, by omega⟩, fun _ => ⟨by (try simp only [g7_σ44, g9_σ44, g10_σ44, g11_σ44, g12_σ44, g13_σ44, g14_σ44, g15_σ44, g20_σ44, g25_σ44]); exact (u51 y196).1.2, fun _ => h201, fun h => absurd h (by decide)⟩, hB⟩ | exact ⟨hK, ⟨by (try simp only [g7_σ44, g9_σ44, g10_σ44, g11_σ44, g12_σ44, g13_σ44, g14_σ44, g15_σ44, g20_σ44, g25_σ44]); omega, by omega⟩, fun _ => ⟨by (try simp only [g7_σ44, g9_σ44, g10_σ44, g11_σ44, g12_σ44, g13_σ44, g14_σ44, g15_σ44, g20_σ44, g25_σ44]); exact (u127 y196).2, fun _ => h201, fun h => absurd h (by decide)⟩, hB⟩ | exact ⟨hK, ⟨by (try simp only [g7_σ44, g9_σ44, g10_σ44, g11_σ44, g12_σ44, g13_σ44, g14_σ44, g15_σ44, g20_σ44, g25_σ44]); omega, by omega⟩, fun _ => ⟨by (try simp only [g7_σ44, g9_σ44, g10_σ44, g11_σ44, g12_σ44, g13_σ44, g14_σ44, g15_σ44, g20_σ44, g25_σ44]); exact k137, fun _ => h201, fun h => absurd h (by decide)⟩, hB⟩ | exact absurd y196 n189, g7_σ44, g9_σ44, g20_σ44, g25_σ44⟩)⟩
        · refine ok_gC rfl ?_
          refine ok_zbT (Q := fun V σ => (TOK σ.1 ∧ (σ0.1 218 11).toInt ≤ (σ.1 218 11).toInt ∧ (V = 0 → σ = σ0 ∧ f_X12_is N 218 15 σ0 = some (0, σ0)) ∧ (¬ V = 0 → ((σ0.1 218 14 = 0 ∧ σ0.1 218 12 = 1) ∧ f_X12_is N 218 15 σ0 = some (1, σ0)) ∧ (σ0.1 218 11).toInt < (σ.1 218 11).toInt)) ∧ (σ.1 218 7 = σ0.1 218 7 ∧ σ.1 218 9 = σ0.1 218 9 ∧ σ.1 218 14 = σ0.1 218 14 ∧ σ.1 218 15 = σ0.1 218 15 ∧ σ.1 218 20 = σ0.1 218 20 ∧ σ.1 218 22 = σ0.1 218 22 ∧ σ.1 218 23 = σ0.1 218 23 ∧ σ.1 218 24 = σ0.1 218 24 ∧ σ.1 218 25 = σ0.1 218 25)) hT (s_X12_takes hN (hR.tr hT) (hK) (by rw [hT.2 224 (by decide)]; exact hY) (by decide)) (by decide) (fun v45 σ46 hOσ46 hT hqv45 => ?_)
          have hqv45 : (TOK σ46.1 ∧ (σ0.1 218 11).toInt ≤ (σ46.1 218 11).toInt ∧ (v45 = 0 → σ46 = σ0 ∧ f_X12_is N 218 15 σ0 = some (0, σ0)) ∧ (¬ v45 = 0 → ((σ0.1 218 14 = 0 ∧ σ0.1 218 12 = 1) ∧ f_X12_is N 218 15 σ0 = some (1, σ0)) ∧ (σ0.1 218 11).toInt < (σ46.1 218 11).toInt)) ∧ (σ46.1 218 7 = σ0.1 218 7 ∧ σ46.1 218 9 = σ0.1 218 9 ∧ σ46.1 218 14 = σ0.1 218 14 ∧ σ46.1 218 15 = σ0.1 218 15 ∧ σ46.1 218 20 = σ0.1 218 20 ∧ σ46.1 218 22 = σ0.1 218 22 ∧ σ46.1 218 23 = σ0.1 218 23 ∧ σ46.1 218 24 = σ0.1 218 24 ∧ σ46.1 218 25 = σ0.1 218 25) := hqv45
          have hkv45 := hqv45
          have hqv45 := hqv45.1
          have r230_σ46 : σ46.1 230 = σ0.1 230 := hOσ46.2 230 (by decide)
          have hK : TOK σ46.1 := by first | exact hqv45.1 | exact TOK_p eσ46 (by decide) hK
          have hB : ZB σ46.1 := ZB.tr hOσ46 (by decide) hB
          have g7_σ46 : σ46.1 218 7 = (σ0.1 218 7) := hkv45.2.1
          have g9_σ46 : σ46.1 218 9 = (σ0.1 218 9) := hkv45.2.2.1
          have g14_σ46 : σ46.1 218 14 = (σ0.1 218 14) := hkv45.2.2.2.1
          have g15_σ46 : σ46.1 218 15 = (σ0.1 218 15) := hkv45.2.2.2.2.1
          have g20_σ46 : σ46.1 218 20 = (σ0.1 218 20) := hkv45.2.2.2.2.2.1
          have g22_σ46 : σ46.1 218 22 = (σ0.1 218 22) := hkv45.2.2.2.2.2.2.1
          have g23_σ46 : σ46.1 218 23 = (σ0.1 218 23) := hkv45.2.2.2.2.2.2.2.1
          have g24_σ46 : σ46.1 218 24 = (σ0.1 218 24) := hkv45.2.2.2.2.2.2.2.2.1
          have g25_σ46 : σ46.1 218 25 = (σ0.1 218 25) := hkv45.2.2.2.2.2.2.2.2.2
          have m137 := hqv45.2.1
          have t137 := hqv45.2.2.2
          refine ok_if (fun hc47 => ?_) (fun hc47 => ?_)
          · refine ok_gC rfl ?_
            refine ok_zbT (Q := fun V σ => (TOK σ.1 ∧ ¬ σ.1 218 14 = 0) ∧ (σ.1 218 7 = σ46.1 218 7 ∧ σ.1 218 9 = σ46.1 218 9 ∧ σ.1 218 10 = σ46.1 218 10 ∧ σ.1 218 11 = σ46.1 218 11 ∧ σ.1 218 12 = σ46.1 218 12 ∧ σ.1 218 13 = σ46.1 218 13 ∧ σ.1 218 20 = σ46.1 218 20 ∧ σ.1 218 22 = σ46.1 218 22 ∧ σ.1 218 23 = σ46.1 218 23 ∧ σ.1 218 24 = σ46.1 218 24 ∧ σ.1 218 25 = σ46.1 218 25)) hT (s_X12_errs hN (hR.tr hT) (hK) (by rw [hT.2 224 (by decide)]; exact hY) (by decide)) (by decide) (fun v48 σ49 hOσ49 hT hqv48 => ?_)
            have hqv48 : (TOK σ49.1 ∧ ¬ σ49.1 218 14 = 0) ∧ (σ49.1 218 7 = σ46.1 218 7 ∧ σ49.1 218 9 = σ46.1 218 9 ∧ σ49.1 218 10 = σ46.1 218 10 ∧ σ49.1 218 11 = σ46.1 218 11 ∧ σ49.1 218 12 = σ46.1 218 12 ∧ σ49.1 218 13 = σ46.1 218 13 ∧ σ49.1 218 20 = σ46.1 218 20 ∧ σ49.1 218 22 = σ46.1 218 22 ∧ σ49.1 218 23 = σ46.1 218 23 ∧ σ49.1 218 24 = σ46.1 218 24 ∧ σ49.1 218 25 = σ46.1 218 25) := hqv48
            have hkv48 := hqv48
            have hqv48 := hqv48.1
            have r230_σ49 : σ49.1 230 = σ0.1 230 := (hOσ49.2 230 (by decide)).trans r230_σ46
            have hK : TOK σ49.1 := by first | exact hqv48.1 | exact TOK_p eσ49 (by decide) hK
            have hB : ZB σ49.1 := ZB.tr hOσ49 (by decide) hB
            try simp only [g7_σ46, g9_σ46, g14_σ46, g15_σ46, g20_σ46, g22_σ46, g23_σ46, g24_σ46, g25_σ46] at hqv48
            have g7_σ49 : σ49.1 218 7 = (σ0.1 218 7) := (hkv48.2.1).trans g7_σ46
            have g9_σ49 : σ49.1 218 9 = (σ0.1 218 9) := (hkv48.2.2.1).trans g9_σ46
            have g10_σ49 : σ49.1 218 10 = (σ46.1 218 10) := hkv48.2.2.2.1
            have g11_σ49 : σ49.1 218 11 = (σ46.1 218 11) := hkv48.2.2.2.2.1
            have g12_σ49 : σ49.1 218 12 = (σ46.1 218 12) := hkv48.2.2.2.2.2.1
            have g13_σ49 : σ49.1 218 13 = (σ46.1 218 13) := hkv48.2.2.2.2.2.2.1
            have g20_σ49 : σ49.1 218 20 = (σ0.1 218 20) := (hkv48.2.2.2.2.2.2.2.1).trans g20_σ46
            have g22_σ49 : σ49.1 218 22 = (σ0.1 218 22) := (hkv48.2.2.2.2.2.2.2.2.1).trans g22_σ46
            have g23_σ49 : σ49.1 218 23 = (σ0.1 218 23) := (hkv48.2.2.2.2.2.2.2.2.2.1).trans g23_σ46
            have g24_σ49 : σ49.1 218 24 = (σ0.1 218 24) := (hkv48.2.2.2.2.2.2.2.2.2.2.1).trans g24_σ46
            have g25_σ49 : σ49.1 218 25 = (σ0.1 218 25) := (hkv48.2.2.2.2.2.2.2.2.2.2.2).trans g25_σ46
            have n189 := hqv48.2
            rw [J_X12_readsPart_192.eq_1]
            refine ok_gC rfl ?_
            refine ok_zbX (Q := fun V => (V = 0 → ¬ σ49.1 218 14 = 0) ∧ (¬ V = 0 → σ49.1 218 14 = 0)) (x_X12_good) (fun v50 hqv50 => ?_)
            have hqv50 : (v50 = 0 → ¬ σ49.1 218 14 = 0) ∧ (¬ v50 = 0 → σ49.1 218 14 = 0) := hqv50
            try simp only [g7_σ49, g9_σ49, g10_σ49, g11_σ49, g12_σ49, g13_σ49, g20_σ49, g22_σ49, g23_σ49, g24_σ49, g25_σ49, hT.2 224 (by decide)] at hqv50
            refine ok_if (fun hc52 => ?_) (fun hc52 => ?_)
            · have qhc52 := hqv50.1 hc52
              have n196 := qhc52
              exact ok_rZ (Or.inr rfl) ⟨hT, (show (TOK σ49.1 ∧ ((σ0.1 218 11).toInt ≤ (σ49.1 218 11).toInt ∧ 0 ≤ (σ49.1 218 22).toInt ∧ (σ49.1 218 22).toInt ≤ 40) ∧ (σ49.1 218 14 = 0 → (σ0.1 218 11).toInt < (σ49.1 218 11).toInt ∧ (¬ (1 : Int32) = 0 → PIL σ49.1 1) ∧ ((1 : Int32) = 0 → PIL σ49.1 0)) ∧ ZB σ49.1) ∧ (σ49.1 218 7 = σ0.1 218 7 ∧ σ49.1 218 9 = σ0.1 218 9 ∧ σ49.1 218 20 = σ0.1 218 20 ∧ σ49.1 218 25 = σ0.1 218 25) from ⟨by first | exact ⟨hK, ⟨m34.1, m34.2.1⟩, fun q => ⟨(m34.2.2 q).2.1, fun h => absurd rfl h, fun _ => (m34.2.2 q).2.2⟩, hB⟩ | exact ⟨hK, ⟨by (try simp only [g7_σ49, g9_σ49, g10_σ49, g11_σ49, g12_σ49, g13_σ49, g20_σ49, g22_σ49, g23_σ49, g24_σ49, g25_σ49]); omega, by (try simp only [g7_σ49, g9_σ49, g10_σ49, g11_σ49, g12_σ49, g13_σ49, g20_σ49, g22_σ49, g23_σ49, g24_σ49, g25_σ49]); omega⟩, fun q => absurd q (by (try simp only [g7_σ49, g9_σ49, g10_σ49, g11_σ49, g12_σ49, g13_σ49, g20_σ49, g22_σ49, g23_σ49, g24_σ49, g25_σ49]); exact n196), hB⟩ | exact ⟨hK, ⟨by (try simp only [g7_σ49, g9_σ49, g10_σ49, g11_σ49, g12_σ49, g13_σ49, g20_σ49, g22_σ49, g23_σ49, g24_σ49, g25_σ49]); omega, by omega⟩, fun _ => ⟨by (try simp only [g7_σ49, g9_σ49, g10_σ49, g11_σ49, g12_σ49, g13_σ49, g20_σ49, g22_σ49, g23_σ49, g24_σ49, g25_σ49]); exact (u51 y196).1.2, fun _ => h201, fun h => absurd h (by decide)⟩, hB⟩ | exact ⟨hK, ⟨by (try simp only [g7_σ49, g9_σ49, g10_σ49, g11_σ49, g12_σ49, g13_σ49, g20_σ49, g22_σ49, g23_σ49, g24_σ49, g25_σ49]); omega, by omega⟩, fun _ => ⟨by (try simp only [g7_σ49, g9_σ49, g10_σ49, g11_σ49, g12_σ49, g13_σ49, g20_σ49, g22_σ49, g23_σ49, g24_σ49, g25_σ49]); exact (u127 y196).2, fun _ => h201, fun h => absurd h (by decide)⟩, hB⟩ | exact ⟨hK, ⟨by (try simp only [g7_σ49, g9_σ49, g10_σ49, g11_σ49, g12_σ49, g13_σ49, g20_σ49, g22_σ49, g23_σ49, g24_σ49, g25_σ49]); omega, by omega⟩, fun _ => ⟨by (try simp only [g7_σ49, g9_σ49, g10_σ49, g11_σ49, g12_σ49, g13_σ49, g20_σ49, g22_σ49, g23_σ49, g24_σ49, g25_σ49]); exact k137, fun _ => h201, fun h => absurd h (by decide)⟩, hB⟩ | exact absurd y196 n189, g7_σ49, g9_σ49, g20_σ49, g25_σ49⟩)⟩
            · have qhc52 := hqv50.2 hc52
              have y196 := qhc52
              refine ok_gC rfl ?_
              refine ok_zbT (Q := fun V σ => (TOK σ.1 ∧ ZB σ.1 ∧ PIL σ.1 1 ∧ (∀ k : Nat, (k : Int) < (σ49.1 218 22).toInt → σ49.1 230 k = 100 → (k : Int) < (σ.1 218 22).toInt) ∧ ((σ.1 218 22).toInt ≤ 0 ∨ (rkI (σ49.1 230 ((σ.1 218 22) - 1).toNatClampNeg)).toInt < (3 : Int32).toInt)) ∧ (σ.1 218 7 = σ49.1 218 7 ∧ σ.1 218 9 = σ49.1 218 9 ∧ σ.1 218 10 = σ49.1 218 10 ∧ σ.1 218 11 = σ49.1 218 11 ∧ σ.1 218 12 = σ49.1 218 12 ∧ σ.1 218 13 = σ49.1 218 13 ∧ σ.1 218 14 = σ49.1 218 14 ∧ σ.1 218 15 = σ49.1 218 15 ∧ σ.1 218 20 = σ49.1 218 20 ∧ σ.1 218 25 = σ49.1 218 25)) hT (s_X12_settlesTo hN (hR.tr hT) (hK) (by rw [hT.2 224 (by decide)]; exact hY) (hB) (by (try simp only [g7_σ49, g9_σ49, g10_σ49, g11_σ49, g12_σ49, g13_σ49, g20_σ49, g22_σ49, g23_σ49, g24_σ49, g25_σ49]); exact ha) (by first | exact PIL_i g22_σ49 g23_σ49 g24_σ49 r230_σ49 hS h22 hd hd6 s57 | exact absurd y196 n189) (by decide)) (by decide) (fun v53 σ54 hOσ54 hT hqv53 => ?_)
              have hqv53 : (TOK σ54.1 ∧ ZB σ54.1 ∧ PIL σ54.1 1 ∧ (∀ k : Nat, (k : Int) < (σ49.1 218 22).toInt → σ49.1 230 k = 100 → (k : Int) < (σ54.1 218 22).toInt) ∧ ((σ54.1 218 22).toInt ≤ 0 ∨ (rkI (σ49.1 230 ((σ54.1 218 22) - 1).toNatClampNeg)).toInt < (3 : Int32).toInt)) ∧ (σ54.1 218 7 = σ49.1 218 7 ∧ σ54.1 218 9 = σ49.1 218 9 ∧ σ54.1 218 10 = σ49.1 218 10 ∧ σ54.1 218 11 = σ49.1 218 11 ∧ σ54.1 218 12 = σ49.1 218 12 ∧ σ54.1 218 13 = σ49.1 218 13 ∧ σ54.1 218 14 = σ49.1 218 14 ∧ σ54.1 218 15 = σ49.1 218 15 ∧ σ54.1 218 20 = σ49.1 218 20 ∧ σ54.1 218 25 = σ49.1 218 25) := hqv53
              have hkv53 := hqv53
              have hqv53 := hqv53.1
              have r230_σ54 : σ54.1 230 = σ0.1 230 := (hOσ54.2 230 (by decide)).trans r230_σ49
              have hK : TOK σ54.1 := by first | exact hqv53.1 | exact TOK_p eσ54 (by decide) hK
              have hB : ZB σ54.1 := by first | exact hqv53.2.1 | exact hqv53.2.2.2.1 | exact ZB_s eσ54 hB
              try simp only [g7_σ49, g9_σ49, g10_σ49, g11_σ49, g12_σ49, g13_σ49, g20_σ49, g22_σ49, g23_σ49, g24_σ49, g25_σ49] at hqv53
              have g7_σ54 : σ54.1 218 7 = (σ0.1 218 7) := (hkv53.2.1).trans g7_σ49
              have g9_σ54 : σ54.1 218 9 = (σ0.1 218 9) := (hkv53.2.2.1).trans g9_σ49
              have g10_σ54 : σ54.1 218 10 = (σ46.1 218 10) := (hkv53.2.2.2.1).trans g10_σ49
              have g11_σ54 : σ54.1 218 11 = (σ46.1 218 11) := (hkv53.2.2.2.2.1).trans g11_σ49
              have g12_σ54 : σ54.1 218 12 = (σ46.1 218 12) := (hkv53.2.2.2.2.2.1).trans g12_σ49
              have g13_σ54 : σ54.1 218 13 = (σ46.1 218 13) := (hkv53.2.2.2.2.2.2.1).trans g13_σ49
              have g14_σ54 : σ54.1 218 14 = (σ49.1 218 14) := hkv53.2.2.2.2.2.2.2.1
              have g15_σ54 : σ54.1 218 15 = (σ49.1 218 15) := hkv53.2.2.2.2.2.2.2.2.1
              have g20_σ54 : σ54.1 218 20 = (σ0.1 218 20) := (hkv53.2.2.2.2.2.2.2.2.2.1).trans g20_σ49
              have g25_σ54 : σ54.1 218 25 = (σ0.1 218 25) := (hkv53.2.2.2.2.2.2.2.2.2.2).trans g25_σ49
              have h201 := hqv53.2.2.1
              have b201 := PIL_b hqv53.2.2.1 (by decide)
              exact ok_rZ (Or.inr rfl) ⟨hT, (show (TOK σ54.1 ∧ ((σ0.1 218 11).toInt ≤ (σ54.1 218 11).toInt ∧ 0 ≤ (σ54.1 218 22).toInt ∧ (σ54.1 218 22).toInt ≤ 40) ∧ (σ54.1 218 14 = 0 → (σ0.1 218 11).toInt < (σ54.1 218 11).toInt ∧ (¬ (1 : Int32) = 0 → PIL σ54.1 1) ∧ ((1 : Int32) = 0 → PIL σ54.1 0)) ∧ ZB σ54.1) ∧ (σ54.1 218 7 = σ0.1 218 7 ∧ σ54.1 218 9 = σ0.1 218 9 ∧ σ54.1 218 20 = σ0.1 218 20 ∧ σ54.1 218 25 = σ0.1 218 25) from ⟨by first | exact ⟨hK, ⟨m34.1, m34.2.1⟩, fun q => ⟨(m34.2.2 q).2.1, fun h => absurd rfl h, fun _ => (m34.2.2 q).2.2⟩, hB⟩ | exact ⟨hK, ⟨by (try simp only [g7_σ54, g9_σ54, g10_σ54, g11_σ54, g12_σ54, g13_σ54, g14_σ54, g15_σ54, g20_σ54, g25_σ54]); omega, by (try simp only [g7_σ54, g9_σ54, g10_σ54, g11_σ54, g12_σ54, g13_σ54, g14_σ54, g15_σ54, g20_σ54, g25_σ54]); omega⟩, fun q => absurd q (by (try simp only [g7_σ54, g9_σ54, g10_σ54, g11_σ54, g12_σ54, g13_σ54, g14_σ54, g15_σ54, g20_σ54, g25_σ54]); exact n196), hB⟩ | exact ⟨hK, ⟨by (try simp only [g7_σ54, g9_σ54, g10_σ54, g11_σ54, g12_σ54, g13_σ54, g14_σ54, g15_σ54, g20_σ54, g25_σ54]); omega, by omega⟩, fun _ => ⟨by (try simp only [g7_σ54, g9_σ54, g10_σ54, g11_σ54, g12_σ54, g13_σ54, g14_σ54, g15_σ54, g20_σ54, g25_σ54]); exact (u51 y196).1.2, fun _ => h201, fun h => absurd h (by decide)⟩, hB⟩ | exact ⟨hK, ⟨by (try simp only [g7_σ54, g9_σ54, g10_σ54, g11_σ54, g12_σ54, g13_σ54, g14_σ54, g15_σ54, g20_σ54, g25_σ54]); omega, by omega⟩, fun _ => ⟨by (try simp only [g7_σ54, g9_σ54, g10_σ54, g11_σ54, g12_σ54, g13_σ54, g14_σ54, g15_σ54, g20_σ54, g25_σ54]); exact (u127 y196).2, fun _ => h201, fun h => absurd h (by decide)⟩, hB⟩ | exact ⟨hK, ⟨by (try simp only [g7_σ54, g9_σ54, g10_σ54, g11_σ54, g12_σ54, g13_σ54, g14_σ54, g15_σ54, g20_σ54, g25_σ54]); omega, by omega⟩, fun _ => ⟨by (try simp only [g7_σ54, g9_σ54, g10_σ54, g11_σ54, g12_σ54, g13_σ54, g14_σ54, g15_σ54, g20_σ54, g25_σ54]); exact k137, fun _ => h201, fun h => absurd h (by decide)⟩, hB⟩ | exact absurd y196 n189, g7_σ54, g9_σ54, g20_σ54, g25_σ54⟩)⟩
          · have k137 := (t137 hc47).2
            refine ok_gC rfl ?_
            refine ok_zbT (Q := fun V σ => (TOK σ.1 ∧ ZB σ.1 ∧ σ.1 218 23 = σ46.1 218 23 + 1) ∧ (σ.1 218 7 = σ46.1 218 7 ∧ σ.1 218 9 = σ46.1 218 9 ∧ σ.1 218 10 = σ46.1 218 10 ∧ σ.1 218 11 = σ46.1 218 11 ∧ σ.1 218 12 = σ46.1 218 12 ∧ σ.1 218 13 = σ46.1 218 13 ∧ σ.1 218 14 = σ46.1 218 14 ∧ σ.1 218 15 = σ46.1 218 15 ∧ σ.1 218 20 = σ46.1 218 20 ∧ σ.1 218 22 = σ46.1 218 22 ∧ σ.1 218 24 = σ46.1 218 24 ∧ σ.1 218 25 = σ46.1 218 25)) hT (s_X12_pushesEmpty hN (hR.tr hT) (hK) (by rw [hT.2 224 (by decide)]; exact hY) (hB) (by (try simp only [g7_σ46, g9_σ46, g14_σ46, g15_σ46, g20_σ46, g22_σ46, g23_σ46, g24_σ46, g25_σ46]); omega)) (by decide) (fun v55 σ56 hOσ56 hT hqv55 => ?_)
            have hqv55 : (TOK σ56.1 ∧ ZB σ56.1 ∧ σ56.1 218 23 = σ46.1 218 23 + 1) ∧ (σ56.1 218 7 = σ46.1 218 7 ∧ σ56.1 218 9 = σ46.1 218 9 ∧ σ56.1 218 10 = σ46.1 218 10 ∧ σ56.1 218 11 = σ46.1 218 11 ∧ σ56.1 218 12 = σ46.1 218 12 ∧ σ56.1 218 13 = σ46.1 218 13 ∧ σ56.1 218 14 = σ46.1 218 14 ∧ σ56.1 218 15 = σ46.1 218 15 ∧ σ56.1 218 20 = σ46.1 218 20 ∧ σ56.1 218 22 = σ46.1 218 22 ∧ σ56.1 218 24 = σ46.1 218 24 ∧ σ56.1 218 25 = σ46.1 218 25) := hqv55
            have hkv55 := hqv55
            have hqv55 := hqv55.1
            have r230_σ56 : σ56.1 230 = σ0.1 230 := (hOσ56.2 230 (by decide)).trans r230_σ46
            have hK : TOK σ56.1 := by first | exact hqv55.1 | exact TOK_p eσ56 (by decide) hK
            have hB : ZB σ56.1 := by first | exact hqv55.2.1 | exact hqv55.2.2.2.1 | exact ZB_s eσ56 hB
            try simp only [g7_σ46, g9_σ46, g14_σ46, g15_σ46, g20_σ46, g22_σ46, g23_σ46, g24_σ46, g25_σ46] at hqv55
            have g7_σ56 : σ56.1 218 7 = (σ0.1 218 7) := (hkv55.2.1).trans g7_σ46
            have g9_σ56 : σ56.1 218 9 = (σ0.1 218 9) := (hkv55.2.2.1).trans g9_σ46
            have g10_σ56 : σ56.1 218 10 = (σ46.1 218 10) := hkv55.2.2.2.1
            have g11_σ56 : σ56.1 218 11 = (σ46.1 218 11) := hkv55.2.2.2.2.1
            have g12_σ56 : σ56.1 218 12 = (σ46.1 218 12) := hkv55.2.2.2.2.2.1
            have g13_σ56 : σ56.1 218 13 = (σ46.1 218 13) := hkv55.2.2.2.2.2.2.1
            have g14_σ56 : σ56.1 218 14 = (σ0.1 218 14) := (hkv55.2.2.2.2.2.2.2.1).trans g14_σ46
            have g15_σ56 : σ56.1 218 15 = (σ0.1 218 15) := (hkv55.2.2.2.2.2.2.2.2.1).trans g15_σ46
            have g20_σ56 : σ56.1 218 20 = (σ0.1 218 20) := (hkv55.2.2.2.2.2.2.2.2.2.1).trans g20_σ46
            have g22_σ56 : σ56.1 218 22 = (σ0.1 218 22) := (hkv55.2.2.2.2.2.2.2.2.2.2.1).trans g22_σ46
            have g24_σ56 : σ56.1 218 24 = (σ0.1 218 24) := (hkv55.2.2.2.2.2.2.2.2.2.2.2.1).trans g24_σ46
            have g25_σ56 : σ56.1 218 25 = (σ0.1 218 25) := (hkv55.2.2.2.2.2.2.2.2.2.2.2.2).trans g25_σ46
            have g57 := hqv55.2.2
            have s57 : (σ56.1 218 23).toInt = ((b8 + 1 : Nat) : Int) := by rw [g57, ti_add]; simp only [Int32.reduceToInt]; omega
            have p57 : ((σ56.1 218 23) - 1).toInt = (b8 : Int) := by rw [ti_sub, s57]; simp only [Int32.reduceToInt]; omega
            have m57 := p1024 p57 (by omega) (by omega)
            refine ok_lp (fun t : Int32 × zS => Tr [218, 226, 227, 228, 229, 230] σ0 (t.2) ∧ (0 ≤ (t.1).toInt) ∧ (TOK (t.2).1) ∧ (ZB (t.2).1) ∧ ((t.2).1 218 7 = (σ0.1 218 7)) ∧ ((t.2).1 218 9 = (σ0.1 218 9)) ∧ ((t.2).1 218 10 = (σ46.1 218 10)) ∧ ((t.2).1 218 11 = (σ46.1 218 11)) ∧ ((t.2).1 218 12 = (σ46.1 218 12)) ∧ ((t.2).1 218 13 = (σ46.1 218 13)) ∧ ((t.2).1 218 14 = (σ0.1 218 14)) ∧ ((t.2).1 218 15 = (σ0.1 218 15)) ∧ ((t.2).1 218 20 = (σ0.1 218 20)) ∧ ((t.2).1 218 22 = (σ0.1 218 22)) ∧ ((t.2).1 218 23 = (σ56.1 218 23)) ∧ ((t.2).1 218 24 = (σ0.1 218 24)) ∧ ((t.2).1 218 25 = (σ0.1 218 25)) ∧ ((t.2).1 230 = σ0.1 230)) (fun t : Int32 × zS => (1024 - (t.1).toInt).toNat) (fun again57 t hI ih150_57 => ?_) N _ (show Tr [218, 226, 227, 228, 229, 230] σ0 σ56 ∧ (0 ≤ (0 : Int32).toInt) ∧ (TOK σ56.1) ∧ (ZB σ56.1) ∧ (σ56.1 218 7 = (σ0.1 218 7)) ∧ (σ56.1 218 9 = (σ0.1 218 9)) ∧ (σ56.1 218 10 = (σ46.1 218 10)) ∧ (σ56.1 218 11 = (σ46.1 218 11)) ∧ (σ56.1 218 12 = (σ46.1 218 12)) ∧ (σ56.1 218 13 = (σ46.1 218 13)) ∧ (σ56.1 218 14 = (σ0.1 218 14)) ∧ (σ56.1 218 15 = (σ0.1 218 15)) ∧ (σ56.1 218 20 = (σ0.1 218 20)) ∧ (σ56.1 218 22 = (σ0.1 218 22)) ∧ (σ56.1 218 23 = (σ56.1 218 23)) ∧ (σ56.1 218 24 = (σ0.1 218 24)) ∧ (σ56.1 218 25 = (σ0.1 218 25)) ∧ (σ56.1 230 = σ0.1 230) from ⟨hT, (by decide), hK, hB, g7_σ56, g9_σ56, g10_σ56, g11_σ56, g12_σ56, g13_σ56, g14_σ56, g15_σ56, g20_σ56, g22_σ56, rfl, g24_σ56, g25_σ56, r230_σ56⟩) (show (1024 - (0 : Int32).toInt).toNat < N from (by simp only [Int32.reduceToInt]; omega))
            obtain ⟨x4_57, σ57⟩ := t
            have hI : Tr [218, 226, 227, 228, 229, 230] σ0 σ57 ∧ (0 ≤ x4_57.toInt) ∧ (TOK σ57.1) ∧ (ZB σ57.1) ∧ (σ57.1 218 7 = (σ0.1 218 7)) ∧ (σ57.1 218 9 = (σ0.1 218 9)) ∧ (σ57.1 218 10 = (σ46.1 218 10)) ∧ (σ57.1 218 11 = (σ46.1 218 11)) ∧ (σ57.1 218 12 = (σ46.1 218 12)) ∧ (σ57.1 218 13 = (σ46.1 218 13)) ∧ (σ57.1 218 14 = (σ0.1 218 14)) ∧ (σ57.1 218 15 = (σ0.1 218 15)) ∧ (σ57.1 218 20 = (σ0.1 218 20)) ∧ (σ57.1 218 22 = (σ0.1 218 22)) ∧ (σ57.1 218 23 = (σ56.1 218 23)) ∧ (σ57.1 218 24 = (σ0.1 218 24)) ∧ (σ57.1 218 25 = (σ0.1 218 25)) ∧ (σ57.1 230 = σ0.1 230) := hI
            obtain ⟨hT, hI57, hK, hB, g7_σ57, g9_σ57, g10_σ57, g11_σ57, g12_σ57, g13_σ57, g14_σ57, g15_σ57, g20_σ57, g22_σ57, g23_σ57, g24_σ57, g25_σ57, r230_σ57⟩ := hI
            rw [F_X12_readsPart_150.eq_1]
            refine ok_gIv rfl g20_σ57 ?_
            refine ok_if (fun hc59 => ?_) (fun hc59 => ?_)
            · rw [J_X12_readsPart_192.eq_1]
              refine ok_gC rfl ?_
              refine ok_zbX (Q := fun V => (V = 0 → ¬ σ57.1 218 14 = 0) ∧ (¬ V = 0 → σ57.1 218 14 = 0)) (x_X12_good) (fun v60 hqv60 => ?_)
              have hqv60 : (v60 = 0 → ¬ σ57.1 218 14 = 0) ∧ (¬ v60 = 0 → σ57.1 218 14 = 0) := hqv60
              try simp only [g7_σ57, g9_σ57, g10_σ57, g11_σ57, g12_σ57, g13_σ57, g14_σ57, g15_σ57, g20_σ57, g22_σ57, g23_σ57, g24_σ57, g25_σ57, hT.2 224 (by decide)] at hqv60
              refine ok_if (fun hc62 => ?_) (fun hc62 => ?_)
              · have qhc62 := hqv60.1 hc62
                have n196 := qhc62
                exact ok_rZ (Or.inr rfl) ⟨hT, (show (TOK σ57.1 ∧ ((σ0.1 218 11).toInt ≤ (σ57.1 218 11).toInt ∧ 0 ≤ (σ57.1 218 22).toInt ∧ (σ57.1 218 22).toInt ≤ 40) ∧ (σ57.1 218 14 = 0 → (σ0.1 218 11).toInt < (σ57.1 218 11).toInt ∧ (¬ (1 : Int32) = 0 → PIL σ57.1 1) ∧ ((1 : Int32) = 0 → PIL σ57.1 0)) ∧ ZB σ57.1) ∧ (σ57.1 218 7 = σ0.1 218 7 ∧ σ57.1 218 9 = σ0.1 218 9 ∧ σ57.1 218 20 = σ0.1 218 20 ∧ σ57.1 218 25 = σ0.1 218 25) from ⟨by first | exact ⟨hK, ⟨m34.1, m34.2.1⟩, fun q => ⟨(m34.2.2 q).2.1, fun h => absurd rfl h, fun _ => (m34.2.2 q).2.2⟩, hB⟩ | exact ⟨hK, ⟨by (try simp only [g7_σ57, g9_σ57, g10_σ57, g11_σ57, g12_σ57, g13_σ57, g14_σ57, g15_σ57, g20_σ57, g22_σ57, g23_σ57, g24_σ57, g25_σ57]); omega, by (try simp only [g7_σ57, g9_σ57, g10_σ57, g11_σ57, g12_σ57, g13_σ57, g14_σ57, g15_σ57, g20_σ57, g22_σ57, g23_σ57, g24_σ57, g25_σ57]); omega⟩, fun q => absurd q (by (try simp only [g7_σ57, g9_σ57, g10_σ57, g11_σ57, g12_σ57, g13_σ57, g14_σ57, g15_σ57, g20_σ57, g22_σ57, g23_σ57, g24_σ57, g25_σ57]); exact n196), hB⟩ | exact ⟨hK, ⟨by (try simp only [g7_σ57, g9_σ57, g10_σ57, g11_σ57, g12_σ57, g13_σ57, g14_σ57, g15_σ57, g20_σ57, g22_σ57, g23_σ57, g24_σ57, g25_σ57]); omega, by omega⟩, fun _ => ⟨by (try simp only [g7_σ57, g9_σ57, g10_σ57, g11_σ57, g12_σ57, g13_σ57, g14_σ57, g15_σ57, g20_σ57, g22_σ57, g23_σ57, g24_σ57, g25_σ57]); exact (u51 y196).1.2, fun _ => h201, fun h => absurd h (by decide)⟩, hB⟩ | exact ⟨hK, ⟨by (try simp only [g7_σ57, g9_σ57, g10_σ57, g11_σ57, g12_σ57, g13_σ57, g14_σ57, g15_σ57, g20_σ57, g22_σ57, g23_σ57, g24_σ57, g25_σ57]); omega, by omega⟩, fun _ => ⟨by (try simp only [g7_σ57, g9_σ57, g10_σ57, g11_σ57, g12_σ57, g13_σ57, g14_σ57, g15_σ57, g20_σ57, g22_σ57, g23_σ57, g24_σ57, g25_σ57]); exact (u127 y196).2, fun _ => h201, fun h => absurd h (by decide)⟩, hB⟩ | exact ⟨hK, ⟨by (try simp only [g7_σ57, g9_σ57, g10_σ57, g11_σ57, g12_σ57, g13_σ57, g14_σ57, g15_σ57, g20_σ57, g22_σ57, g23_σ57, g24_σ57, g25_σ57]); omega, by omega⟩, fun _ => ⟨by (try simp only [g7_σ57, g9_σ57, g10_σ57, g11_σ57, g12_σ57, g13_σ57, g14_σ57, g15_σ57, g20_σ57, g22_σ57, g23_σ57, g24_σ57, g25_σ57]); exact k137, fun _ => h201, fun h => absurd h (by decide)⟩, hB⟩ | exact absurd y196 n189, g7_σ57, g9_σ57, g20_σ57, g25_σ57⟩)⟩
              · have qhc62 := hqv60.2 hc62
                have y196 := qhc62
                refine ok_gC rfl ?_
                refine ok_zbT (Q := fun V σ => (TOK σ.1 ∧ ZB σ.1 ∧ PIL σ.1 1 ∧ (∀ k : Nat, (k : Int) < (σ57.1 218 22).toInt → σ57.1 230 k = 100 → (k : Int) < (σ.1 218 22).toInt) ∧ ((σ.1 218 22).toInt ≤ 0 ∨ (rkI (σ57.1 230 ((σ.1 218 22) - 1).toNatClampNeg)).toInt < (3 : Int32).toInt)) ∧ (σ.1 218 7 = σ57.1 218 7 ∧ σ.1 218 9 = σ57.1 218 9 ∧ σ.1 218 10 = σ57.1 218 10 ∧ σ.1 218 11 = σ57.1 218 11 ∧ σ.1 218 12 = σ57.1 218 12 ∧ σ.1 218 13 = σ57.1 218 13 ∧ σ.1 218 14 = σ57.1 218 14 ∧ σ.1 218 15 = σ57.1 218 15 ∧ σ.1 218 20 = σ57.1 218 20 ∧ σ.1 218 25 = σ57.1 218 25)) hT (s_X12_settlesTo hN (hR.tr hT) (hK) (by rw [hT.2 224 (by decide)]; exact hY) (hB) (by (try simp only [g7_σ57, g9_σ57, g10_σ57, g11_σ57, g12_σ57, g13_σ57, g14_σ57, g15_σ57, g20_σ57, g22_σ57, g23_σ57, g24_σ57, g25_σ57]); exact ha) (by first | exact PIL_i g22_σ57 g23_σ57 g24_σ57 r230_σ57 hS h22 hd hd6 s57 | exact absurd y196 n189) (by decide)) (by decide) (fun v63 σ64 hOσ64 hT hqv63 => ?_)
                have hqv63 : (TOK σ64.1 ∧ ZB σ64.1 ∧ PIL σ64.1 1 ∧ (∀ k : Nat, (k : Int) < (σ57.1 218 22).toInt → σ57.1 230 k = 100 → (k : Int) < (σ64.1 218 22).toInt) ∧ ((σ64.1 218 22).toInt ≤ 0 ∨ (rkI (σ57.1 230 ((σ64.1 218 22) - 1).toNatClampNeg)).toInt < (3 : Int32).toInt)) ∧ (σ64.1 218 7 = σ57.1 218 7 ∧ σ64.1 218 9 = σ57.1 218 9 ∧ σ64.1 218 10 = σ57.1 218 10 ∧ σ64.1 218 11 = σ57.1 218 11 ∧ σ64.1 218 12 = σ57.1 218 12 ∧ σ64.1 218 13 = σ57.1 218 13 ∧ σ64.1 218 14 = σ57.1 218 14 ∧ σ64.1 218 15 = σ57.1 218 15 ∧ σ64.1 218 20 = σ57.1 218 20 ∧ σ64.1 218 25 = σ57.1 218 25) := hqv63
                have hkv63 := hqv63
                have hqv63 := hqv63.1
                have r230_σ64 : σ64.1 230 = σ0.1 230 := (hOσ64.2 230 (by decide)).trans r230_σ57
                have hK : TOK σ64.1 := by first | exact hqv63.1 | exact TOK_p eσ64 (by decide) hK
                have hB : ZB σ64.1 := by first | exact hqv63.2.1 | exact hqv63.2.2.2.1 | exact ZB_s eσ64 hB
                try simp only [g7_σ57, g9_σ57, g10_σ57, g11_σ57, g12_σ57, g13_σ57, g14_σ57, g15_σ57, g20_σ57, g22_σ57, g23_σ57, g24_σ57, g25_σ57] at hqv63
                have g7_σ64 : σ64.1 218 7 = (σ0.1 218 7) := (hkv63.2.1).trans g7_σ57
                have g9_σ64 : σ64.1 218 9 = (σ0.1 218 9) := (hkv63.2.2.1).trans g9_σ57
                have g10_σ64 : σ64.1 218 10 = (σ46.1 218 10) := (hkv63.2.2.2.1).trans g10_σ57
                have g11_σ64 : σ64.1 218 11 = (σ46.1 218 11) := (hkv63.2.2.2.2.1).trans g11_σ57
                have g12_σ64 : σ64.1 218 12 = (σ46.1 218 12) := (hkv63.2.2.2.2.2.1).trans g12_σ57
                have g13_σ64 : σ64.1 218 13 = (σ46.1 218 13) := (hkv63.2.2.2.2.2.2.1).trans g13_σ57
                have g14_σ64 : σ64.1 218 14 = (σ0.1 218 14) := (hkv63.2.2.2.2.2.2.2.1).trans g14_σ57
                have g15_σ64 : σ64.1 218 15 = (σ0.1 218 15) := (hkv63.2.2.2.2.2.2.2.2.1).trans g15_σ57
                have g20_σ64 : σ64.1 218 20 = (σ0.1 218 20) := (hkv63.2.2.2.2.2.2.2.2.2.1).trans g20_σ57
                have g25_σ64 : σ64.1 218 25 = (σ0.1 218 25) := (hkv63.2.2.2.2.2.2.2.2.2.2).trans g25_σ57
                have h201 := hqv63.2.2.1
                have b201 := PIL_b hqv63.2.2.1 (by decide)
                exact ok_rZ (Or.inr rfl) ⟨hT, (show (TOK σ64.1 ∧ ((σ0.1 218 11).toInt ≤ (σ64.1 218 11).toInt ∧ 0 ≤ (σ64.1 218 22).toInt ∧ (σ64.1 218 22).toInt ≤ 40) ∧ (σ64.1 218 14 = 0 → (σ0.1 218 11).toInt < (σ64.1 218 11).toInt ∧ (¬ (1 : Int32) = 0 → PIL σ64.1 1) ∧ ((1 : Int32) = 0 → PIL σ64.1 0)) ∧ ZB σ64.1) ∧ (σ64.1 218 7 = σ0.1 218 7 ∧ σ64.1 218 9 = σ0.1 218 9 ∧ σ64.1 218 20 = σ0.1 218 20 ∧ σ64.1 218 25 = σ0.1 218 25) from ⟨by first | exact ⟨hK, ⟨m34.1, m34.2.1⟩, fun q => ⟨(m34.2.2 q).2.1, fun h => absurd rfl h, fun _ => (m34.2.2 q).2.2⟩, hB⟩ | exact ⟨hK, ⟨by (try simp only [g7_σ64, g9_σ64, g10_σ64, g11_σ64, g12_σ64, g13_σ64, g14_σ64, g15_σ64, g20_σ64, g25_σ64]); omega, by (try simp only [g7_σ64, g9_σ64, g10_σ64, g11_σ64, g12_σ64, g13_σ64, g14_σ64, g15_σ64, g20_σ64, g25_σ64]); omega⟩, fun q => absurd q (by (try simp only [g7_σ64, g9_σ64, g10_σ64, g11_σ64, g12_σ64, g13_σ64, g14_σ64, g15_σ64, g20_σ64, g25_σ64]); exact n196), hB⟩ | exact ⟨hK, ⟨by (try simp only [g7_σ64, g9_σ64, g10_σ64, g11_σ64, g12_σ64, g13_σ64, g14_σ64, g15_σ64, g20_σ64, g25_σ64]); omega, by omega⟩, fun _ => ⟨by (try simp only [g7_σ64, g9_σ64, g10_σ64, g11_σ64, g12_σ64, g13_σ64, g14_σ64, g15_σ64, g20_σ64, g25_σ64]); exact (u51 y196).1.2, fun _ => h201, fun h => absurd h (by decide)⟩, hB⟩ | exact ⟨hK, ⟨by (try simp only [g7_σ64, g9_σ64, g10_σ64, g11_σ64, g12_σ64, g13_σ64, g14_σ64, g15_σ64, g20_σ64, g25_σ64]); omega, by omega⟩, fun _ => ⟨by (try simp only [g7_σ64, g9_σ64, g10_σ64, g11_σ64, g12_σ64, g13_σ64, g14_σ64, g15_σ64, g20_σ64, g25_σ64]); exact (u127 y196).2, fun _ => h201, fun h => absurd h (by decide)⟩, hB⟩ | exact ⟨hK, ⟨by (try simp only [g7_σ64, g9_σ64, g10_σ64, g11_σ64, g12_σ64, g13_σ64, g14_σ64, g15_σ64, g20_σ64, g25_σ64]); omega, by omega⟩, fun _ => ⟨by (try simp only [g7_σ64, g9_σ64, g10_σ64, g11_σ64, g12_σ64, g13_σ64, g14_σ64, g15_σ64, g20_σ64, g25_σ64]); exact k137, fun _ => h201, fun h => absurd h (by decide)⟩, hB⟩ | exact absurd y196 n189, g7_σ64, g9_σ64, g20_σ64, g25_σ64⟩)⟩
            · have l68 := hc59
              rw [Int32.le_iff_toInt_le] at l68
              try simp only [Int32.reduceToInt] at l68
              have s68 : (x4_57 + 1).toInt = x4_57.toInt + 1 := by rw [ti_add]; simp only [Int32.reduceToInt]; omega
              refine ok_gR (v := 226) hT rfl (hR 218 16 rfl) ?_
              refine ok_gIv rfl g23_σ57 ?_
              refine ok_s16 hT rfl (by decide) (by rw [ti_add, m57]; omega) (by rw [ti_add, m57]; omega) (fun σ67 eσ67 hOσ67 hT => ?_)
              have r230_σ67 : σ67.1 230 = σ0.1 230 := (hOσ67.2 230 (by decide)).trans r230_σ57
              have hK : TOK σ67.1 := TOK_tr hOσ67 (by decide) (by decide) hK
              have hB : ZB σ67.1 := by first | exact HQ.2.1 | exact HQ.2.2.2.1 | exact ZB_s eσ67 hB
              have g7_σ67 : σ67.1 218 7 = (σ0.1 218 7) := (congrFun (hOσ67.2 218 (by decide)) 7).trans g7_σ57
              have g9_σ67 : σ67.1 218 9 = (σ0.1 218 9) := (congrFun (hOσ67.2 218 (by decide)) 9).trans g9_σ57
              have g10_σ67 : σ67.1 218 10 = (σ46.1 218 10) := (congrFun (hOσ67.2 218 (by decide)) 10).trans g10_σ57
              have g11_σ67 : σ67.1 218 11 = (σ46.1 218 11) := (congrFun (hOσ67.2 218 (by decide)) 11).trans g11_σ57
              have g12_σ67 : σ67.1 218 12 = (σ46.1 218 12) := (congrFun (hOσ67.2 218 (by decide)) 12).trans g12_σ57
              have g13_σ67 : σ67.1 218 13 = (σ46.1 218 13) := (congrFun (hOσ67.2 218 (by decide)) 13).trans g13_σ57
              have g14_σ67 : σ67.1 218 14 = (σ0.1 218 14) := (congrFun (hOσ67.2 218 (by decide)) 14).trans g14_σ57
              have g15_σ67 : σ67.1 218 15 = (σ0.1 218 15) := (congrFun (hOσ67.2 218 (by decide)) 15).trans g15_σ57
              have g20_σ67 : σ67.1 218 20 = (σ0.1 218 20) := (congrFun (hOσ67.2 218 (by decide)) 20).trans g20_σ57
              have g22_σ67 : σ67.1 218 22 = (σ0.1 218 22) := (congrFun (hOσ67.2 218 (by decide)) 22).trans g22_σ57
              have g23_σ67 : σ67.1 218 23 = (σ56.1 218 23) := (congrFun (hOσ67.2 218 (by decide)) 23).trans g23_σ57
              have g24_σ67 : σ67.1 218 24 = (σ0.1 218 24) := (congrFun (hOσ67.2 218 (by decide)) 24).trans g24_σ57
              have g25_σ67 : σ67.1 218 25 = (σ0.1 218 25) := (congrFun (hOσ67.2 218 (by decide)) 25).trans g25_σ57
              exact ih150_57 (x4_57 + 1, σ67) (show Tr [218, 226, 227, 228, 229, 230] σ0 σ67 ∧ (0 ≤ (x4_57 + 1).toInt) ∧ (TOK σ67.1) ∧ (ZB σ67.1) ∧ (σ67.1 218 7 = (σ0.1 218 7)) ∧ (σ67.1 218 9 = (σ0.1 218 9)) ∧ (σ67.1 218 10 = (σ46.1 218 10)) ∧ (σ67.1 218 11 = (σ46.1 218 11)) ∧ (σ67.1 218 12 = (σ46.1 218 12)) ∧ (σ67.1 218 13 = (σ46.1 218 13)) ∧ (σ67.1 218 14 = (σ0.1 218 14)) ∧ (σ67.1 218 15 = (σ0.1 218 15)) ∧ (σ67.1 218 20 = (σ0.1 218 20)) ∧ (σ67.1 218 22 = (σ0.1 218 22)) ∧ (σ67.1 218 23 = (σ56.1 218 23)) ∧ (σ67.1 218 24 = (σ0.1 218 24)) ∧ (σ67.1 218 25 = (σ0.1 218 25)) ∧ (σ67.1 230 = σ0.1 230) from ⟨hT, (by rw [s68]; omega), hK, hB, g7_σ67, g9_σ67, g10_σ67, g11_σ67, g12_σ67, g13_σ67, g14_σ67, g15_σ67, g20_σ67, g22_σ67, g23_σ67, g24_σ67, g25_σ67, r230_σ67⟩) (show (1024 - (x4_57 + 1).toInt).toNat < (1024 - x4_57.toInt).toNat from (by rw [s68]; omega))
  · have w7 := hqv1.resolve_left hc3
    rw [J_X12_readsPart_19.eq_1]
    refine ok_if (fun hc68 => ?_) (fun hc68 => ?_)
    · refine ok_gC rfl ?_
      refine ok_zbT (Q := fun V σ => (TOK σ.1 ∧ (σ0.1 218 11).toInt ≤ (σ.1 218 11).toInt ∧ (0 ≤ (σ.1 218 22).toInt ∧ (σ.1 218 22).toInt ≤ 40) ∧ (σ.1 218 14 = 0 → σ0.1 218 14 = 0 ∧ (σ0.1 218 11).toInt < (σ.1 218 11).toInt ∧ PIL σ.1 0)) ∧ (σ.1 218 7 = σ0.1 218 7 ∧ σ.1 218 9 = σ0.1 218 9 ∧ σ.1 218 20 = σ0.1 218 20 ∧ σ.1 218 23 = σ0.1 218 23 ∧ σ.1 218 25 = σ0.1 218 25)) hT (s_X12_opens hN (hR.tr hT) (hK) (by rw [hT.2 224 (by decide)]; exact hY) (hP) (by first | decide | (rw [ti_add]; simp only [Int32.reduceToInt]; omega) | exact absurd e7 n22) (by first | (rw [w7.2.2]; decide) | (rw [e16]; decide))) (by decide) (fun v69 σ70 hOσ70 hT hqv69 => ?_)
      have hqv69 : (TOK σ70.1 ∧ (σ0.1 218 11).toInt ≤ (σ70.1 218 11).toInt ∧ (0 ≤ (σ70.1 218 22).toInt ∧ (σ70.1 218 22).toInt ≤ 40) ∧ (σ70.1 218 14 = 0 → σ0.1 218 14 = 0 ∧ (σ0.1 218 11).toInt < (σ70.1 218 11).toInt ∧ PIL σ70.1 0)) ∧ (σ70.1 218 7 = σ0.1 218 7 ∧ σ70.1 218 9 = σ0.1 218 9 ∧ σ70.1 218 20 = σ0.1 218 20 ∧ σ70.1 218 23 = σ0.1 218 23 ∧ σ70.1 218 25 = σ0.1 218 25) := hqv69
      have hkv69 := hqv69
      have hqv69 := hqv69.1
      have hK : TOK σ70.1 := by first | exact hqv69.1 | exact TOK_p eσ70 (by decide) hK
      have hB : ZB σ70.1 := ZB.tr hOσ70 (by decide) hB
      have g7_σ70 : σ70.1 218 7 = (σ0.1 218 7) := hkv69.2.1
      have g9_σ70 : σ70.1 218 9 = (σ0.1 218 9) := hkv69.2.2.1
      have g20_σ70 : σ70.1 218 20 = (σ0.1 218 20) := hkv69.2.2.2.1
      have g23_σ70 : σ70.1 218 23 = (σ0.1 218 23) := hkv69.2.2.2.2.1
      have g25_σ70 : σ70.1 218 25 = (σ0.1 218 25) := hkv69.2.2.2.2.2
      have m34 := hqv69.2
      exact ok_rZ (Or.inl rfl) ⟨hT, (show (TOK σ70.1 ∧ ((σ0.1 218 11).toInt ≤ (σ70.1 218 11).toInt ∧ 0 ≤ (σ70.1 218 22).toInt ∧ (σ70.1 218 22).toInt ≤ 40) ∧ (σ70.1 218 14 = 0 → (σ0.1 218 11).toInt < (σ70.1 218 11).toInt ∧ (¬ (0 : Int32) = 0 → PIL σ70.1 1) ∧ ((0 : Int32) = 0 → PIL σ70.1 0)) ∧ ZB σ70.1) ∧ (σ70.1 218 7 = σ0.1 218 7 ∧ σ70.1 218 9 = σ0.1 218 9 ∧ σ70.1 218 20 = σ0.1 218 20 ∧ σ70.1 218 25 = σ0.1 218 25) from ⟨by first | exact ⟨hK, ⟨m34.1, m34.2.1⟩, fun q => ⟨(m34.2.2 q).2.1, fun h => absurd rfl h, fun _ => (m34.2.2 q).2.2⟩, hB⟩ | exact ⟨hK, ⟨by (try simp only [g7_σ70, g9_σ70, g20_σ70, g23_σ70, g25_σ70]); omega, by (try simp only [g7_σ70, g9_σ70, g20_σ70, g23_σ70, g25_σ70]); omega⟩, fun q => absurd q (by (try simp only [g7_σ70, g9_σ70, g20_σ70, g23_σ70, g25_σ70]); exact n196), hB⟩ | exact ⟨hK, ⟨by (try simp only [g7_σ70, g9_σ70, g20_σ70, g23_σ70, g25_σ70]); omega, by omega⟩, fun _ => ⟨by (try simp only [g7_σ70, g9_σ70, g20_σ70, g23_σ70, g25_σ70]); exact (u51 y196).1.2, fun _ => h201, fun h => absurd h (by decide)⟩, hB⟩ | exact ⟨hK, ⟨by (try simp only [g7_σ70, g9_σ70, g20_σ70, g23_σ70, g25_σ70]); omega, by omega⟩, fun _ => ⟨by (try simp only [g7_σ70, g9_σ70, g20_σ70, g23_σ70, g25_σ70]); exact (u127 y196).2, fun _ => h201, fun h => absurd h (by decide)⟩, hB⟩ | exact ⟨hK, ⟨by (try simp only [g7_σ70, g9_σ70, g20_σ70, g23_σ70, g25_σ70]); omega, by omega⟩, fun _ => ⟨by (try simp only [g7_σ70, g9_σ70, g20_σ70, g23_σ70, g25_σ70]); exact k137, fun _ => h201, fun h => absurd h (by decide)⟩, hB⟩ | exact absurd y196 n189, g7_σ70, g9_σ70, g20_σ70, g25_σ70⟩)⟩
    · have n22 := hc68
      refine ok_gC rfl ?_
      refine ok_zbT (Q := fun V σ => (TOK σ.1 ∧ (σ0.1 218 11).toInt ≤ (σ.1 218 11).toInt ∧ (0 ≤ (σ.1 218 22).toInt ∧ (σ.1 218 22).toInt ≤ 40) ∧ (σ.1 218 14 = 0 → σ0.1 218 14 = 0 ∧ (σ0.1 218 11).toInt < (σ.1 218 11).toInt ∧ PIL σ.1 0)) ∧ (σ.1 218 7 = σ0.1 218 7 ∧ σ.1 218 9 = σ0.1 218 9 ∧ σ.1 218 20 = σ0.1 218 20 ∧ σ.1 218 23 = σ0.1 218 23 ∧ σ.1 218 25 = σ0.1 218 25)) hT (s_X12_opens hN (hR.tr hT) (hK) (by rw [hT.2 224 (by decide)]; exact hY) (hP) (by first | decide | (rw [ti_add]; simp only [Int32.reduceToInt]; omega) | exact absurd e7 n22) (by first | (rw [w7.2.2]; decide) | (rw [e16]; decide))) (by decide) (fun v71 σ72 hOσ72 hT hqv71 => ?_)
      have hqv71 : (TOK σ72.1 ∧ (σ0.1 218 11).toInt ≤ (σ72.1 218 11).toInt ∧ (0 ≤ (σ72.1 218 22).toInt ∧ (σ72.1 218 22).toInt ≤ 40) ∧ (σ72.1 218 14 = 0 → σ0.1 218 14 = 0 ∧ (σ0.1 218 11).toInt < (σ72.1 218 11).toInt ∧ PIL σ72.1 0)) ∧ (σ72.1 218 7 = σ0.1 218 7 ∧ σ72.1 218 9 = σ0.1 218 9 ∧ σ72.1 218 20 = σ0.1 218 20 ∧ σ72.1 218 23 = σ0.1 218 23 ∧ σ72.1 218 25 = σ0.1 218 25) := hqv71
      have hkv71 := hqv71
      have hqv71 := hqv71.1
      have hK : TOK σ72.1 := by first | exact hqv71.1 | exact TOK_p eσ72 (by decide) hK
      have hB : ZB σ72.1 := ZB.tr hOσ72 (by decide) hB
      have g7_σ72 : σ72.1 218 7 = (σ0.1 218 7) := hkv71.2.1
      have g9_σ72 : σ72.1 218 9 = (σ0.1 218 9) := hkv71.2.2.1
      have g20_σ72 : σ72.1 218 20 = (σ0.1 218 20) := hkv71.2.2.2.1
      have g23_σ72 : σ72.1 218 23 = (σ0.1 218 23) := hkv71.2.2.2.2.1
      have g25_σ72 : σ72.1 218 25 = (σ0.1 218 25) := hkv71.2.2.2.2.2
      have m34 := hqv71.2
      exact ok_rZ (Or.inl rfl) ⟨hT, (show (TOK σ72.1 ∧ ((σ0.1 218 11).toInt ≤ (σ72.1 218 11).toInt ∧ 0 ≤ (σ72.1 218 22).toInt ∧ (σ72.1 218 22).toInt ≤ 40) ∧ (σ72.1 218 14 = 0 → (σ0.1 218 11).toInt < (σ72.1 218 11).toInt ∧ (¬ (0 : Int32) = 0 → PIL σ72.1 1) ∧ ((0 : Int32) = 0 → PIL σ72.1 0)) ∧ ZB σ72.1) ∧ (σ72.1 218 7 = σ0.1 218 7 ∧ σ72.1 218 9 = σ0.1 218 9 ∧ σ72.1 218 20 = σ0.1 218 20 ∧ σ72.1 218 25 = σ0.1 218 25) from ⟨by first | exact ⟨hK, ⟨m34.1, m34.2.1⟩, fun q => ⟨(m34.2.2 q).2.1, fun h => absurd rfl h, fun _ => (m34.2.2 q).2.2⟩, hB⟩ | exact ⟨hK, ⟨by (try simp only [g7_σ72, g9_σ72, g20_σ72, g23_σ72, g25_σ72]); omega, by (try simp only [g7_σ72, g9_σ72, g20_σ72, g23_σ72, g25_σ72]); omega⟩, fun q => absurd q (by (try simp only [g7_σ72, g9_σ72, g20_σ72, g23_σ72, g25_σ72]); exact n196), hB⟩ | exact ⟨hK, ⟨by (try simp only [g7_σ72, g9_σ72, g20_σ72, g23_σ72, g25_σ72]); omega, by omega⟩, fun _ => ⟨by (try simp only [g7_σ72, g9_σ72, g20_σ72, g23_σ72, g25_σ72]); exact (u51 y196).1.2, fun _ => h201, fun h => absurd h (by decide)⟩, hB⟩ | exact ⟨hK, ⟨by (try simp only [g7_σ72, g9_σ72, g20_σ72, g23_σ72, g25_σ72]); omega, by omega⟩, fun _ => ⟨by (try simp only [g7_σ72, g9_σ72, g20_σ72, g23_σ72, g25_σ72]); exact (u127 y196).2, fun _ => h201, fun h => absurd h (by decide)⟩, hB⟩ | exact ⟨hK, ⟨by (try simp only [g7_σ72, g9_σ72, g20_σ72, g23_σ72, g25_σ72]); omega, by omega⟩, fun _ => ⟨by (try simp only [g7_σ72, g9_σ72, g20_σ72, g23_σ72, g25_σ72]); exact k137, fun _ => h201, fun h => absurd h (by decide)⟩, hB⟩ | exact absurd y196 n189, g7_σ72, g9_σ72, g20_σ72, g25_σ72⟩)⟩

set_option maxHeartbeats 4000000 in
set_option maxRecDepth 100000 in
theorem s_X12_readsPart_232 {N : Nat} (hN : 1048576 ≤ N) {x1 : Int32} {σ0 : zS}  (hR : RF σ0.2.2) (hK : TOK σ0.1) (hY : BYT (σ0.1 224)) (hB : ZB σ0.1) (hn : 0 ≤ x1.toInt ∧ x1.toInt ≤ 10) (ha : 0 ≤ (σ0.1 218 20).toInt ∧ (σ0.1 218 20).toInt ≤ 1024) (hP : PIL σ0.1 0) (hg : σ0.1 218 14 = 0) : Ok (f_X12_readsPart N 218 x1 232 σ0) (fun r => Tr [218, 226, 227, 228, 229, 230] σ0 r.2 ∧ ((TOK r.2.1 ∧ ((σ0.1 218 11).toInt ≤ (r.2.1 218 11).toInt ∧ 0 ≤ (r.2.1 218 22).toInt ∧ (r.2.1 218 22).toInt ≤ 40) ∧ (r.2.1 218 14 = 0 → (σ0.1 218 11).toInt < (r.2.1 218 11).toInt ∧ (¬ r.1 = 0 → PIL r.2.1 1) ∧ (r.1 = 0 → PIL r.2.1 0)) ∧ ZB r.2.1) ∧ (r.2.1 218 7 = σ0.1 218 7 ∧ r.2.1 218 9 = σ0.1 218 9 ∧ r.2.1 218 20 = σ0.1 218 20 ∧ r.2.1 218 25 = σ0.1 218 25))) := by
  have hT : Tr [218, 226, 227, 228, 229, 230] σ0 σ0 := Tr.rf
  have hK1 := hK.1
  have hb0 := PIL_b hP (by decide)
  have hP0 := hP
  obtain ⟨b8, d8, r8, hS, h22, hd, hd6, hp⟩ := hP0
  have hSb := Stk_b hS
  rw [f_X12_readsPart.eq_1]
  refine ok_gC rfl ?_
  refine ok_zbX (Q := fun V => V = -1 ∨ ((0 ≤ V.toInt ∧ V.toInt ≤ 5) ∧ σ0.1 218 14 = 0 ∧ σ0.1 218 12 = 1)) (x_X12_prefixOf hN (hR.tr hT) hK) (fun v1 hqv1 => ?_)
  have hqv1 : v1 = -1 ∨ ((0 ≤ v1.toInt ∧ v1.toInt ≤ 5) ∧ σ0.1 218 14 = 0 ∧ σ0.1 218 12 = 1) := hqv1
  refine ok_if (fun hc3 => ?_) (fun hc3 => ?_)
  · have e7 := hc3
    refine ok_gI rfl ?_
    refine ok_if (fun hc5 => ?_) (fun hc5 => ?_)
    · have e16 := hc5
      rw [J_X12_readsPart_19.eq_1]
      refine ok_if (fun hc6 => ?_) (fun hc6 => ?_)
      · refine ok_gC rfl ?_
        refine ok_zbT (Q := fun V σ => (TOK σ.1 ∧ (σ0.1 218 11).toInt ≤ (σ.1 218 11).toInt ∧ (0 ≤ (σ.1 218 22).toInt ∧ (σ.1 218 22).toInt ≤ 40) ∧ (σ.1 218 14 = 0 → σ0.1 218 14 = 0 ∧ (σ0.1 218 11).toInt < (σ.1 218 11).toInt ∧ PIL σ.1 0)) ∧ (σ.1 218 7 = σ0.1 218 7 ∧ σ.1 218 9 = σ0.1 218 9 ∧ σ.1 218 20 = σ0.1 218 20 ∧ σ.1 218 23 = σ0.1 218 23 ∧ σ.1 218 25 = σ0.1 218 25)) hT (s_X12_opens hN (hR.tr hT) (hK) (by rw [hT.2 224 (by decide)]; exact hY) (hP) (by first | decide | (rw [ti_add]; simp only [Int32.reduceToInt]; omega) | exact absurd e7 n22) (by first | (rw [w7.2.2]; decide) | (rw [e16]; decide))) (by decide) (fun v7 σ8 hOσ8 hT hqv7 => ?_)
        have hqv7 : (TOK σ8.1 ∧ (σ0.1 218 11).toInt ≤ (σ8.1 218 11).toInt ∧ (0 ≤ (σ8.1 218 22).toInt ∧ (σ8.1 218 22).toInt ≤ 40) ∧ (σ8.1 218 14 = 0 → σ0.1 218 14 = 0 ∧ (σ0.1 218 11).toInt < (σ8.1 218 11).toInt ∧ PIL σ8.1 0)) ∧ (σ8.1 218 7 = σ0.1 218 7 ∧ σ8.1 218 9 = σ0.1 218 9 ∧ σ8.1 218 20 = σ0.1 218 20 ∧ σ8.1 218 23 = σ0.1 218 23 ∧ σ8.1 218 25 = σ0.1 218 25) := hqv7
        have hkv7 := hqv7
        have hqv7 := hqv7.1
        have hK : TOK σ8.1 := by first | exact hqv7.1 | exact TOK_p eσ8 (by decide) hK
        have hB : ZB σ8.1 := ZB.tr hOσ8 (by decide) hB
        have g7_σ8 : σ8.1 218 7 = (σ0.1 218 7) := hkv7.2.1
        have g9_σ8 : σ8.1 218 9 = (σ0.1 218 9) := hkv7.2.2.1
        have g20_σ8 : σ8.1 218 20 = (σ0.1 218 20) := hkv7.2.2.2.1
        have g23_σ8 : σ8.1 218 23 = (σ0.1 218 23) := hkv7.2.2.2.2.1
        have g25_σ8 : σ8.1 218 25 = (σ0.1 218 25) := hkv7.2.2.2.2.2
        have m34 := hqv7.2
        exact ok_rZ (Or.inl rfl) ⟨hT, (show (TOK σ8.1 ∧ ((σ0.1 218 11).toInt ≤ (σ8.1 218 11).toInt ∧ 0 ≤ (σ8.1 218 22).toInt ∧ (σ8.1 218 22).toInt ≤ 40) ∧ (σ8.1 218 14 = 0 → (σ0.1 218 11).toInt < (σ8.1 218 11).toInt ∧ (¬ (0 : Int32) = 0 → PIL σ8.1 1) ∧ ((0 : Int32) = 0 → PIL σ8.1 0)) ∧ ZB σ8.1) ∧ (σ8.1 218 7 = σ0.1 218 7 ∧ σ8.1 218 9 = σ0.1 218 9 ∧ σ8.1 218 20 = σ0.1 218 20 ∧ σ8.1 218 25 = σ0.1 218 25) from ⟨by first | exact ⟨hK, ⟨m34.1, m34.2.1⟩, fun q => ⟨(m34.2.2 q).2.1, fun h => absurd rfl h, fun _ => (m34.2.2 q).2.2⟩, hB⟩ | exact ⟨hK, ⟨by (try simp only [g7_σ8, g9_σ8, g20_σ8, g23_σ8, g25_σ8]); omega, by (try simp only [g7_σ8, g9_σ8, g20_σ8, g23_σ8, g25_σ8]); omega⟩, fun q => absurd q (by (try simp only [g7_σ8, g9_σ8, g20_σ8, g23_σ8, g25_σ8]); exact n196), hB⟩ | exact ⟨hK, ⟨by (try simp only [g7_σ8, g9_σ8, g20_σ8, g23_σ8, g25_σ8]); omega, by omega⟩, fun _ => ⟨by (try simp only [g7_σ8, g9_σ8, g20_σ8, g23_σ8, g25_σ8]); exact (u51 y196).1.2, fun _ => h201, fun h => absurd h (by decide)⟩, hB⟩ | exact ⟨hK, ⟨by (try simp only [g7_σ8, g9_σ8, g20_σ8, g23_σ8, g25_σ8]); omega, by omega⟩, fun _ => ⟨by (try simp only [g7_σ8, g9_σ8, g20_σ8, g23_σ8, g25_σ8]); exact (u127 y196).2, fun _ => h201, fun h => absurd h (by decide)⟩, hB⟩ | exact ⟨hK, ⟨by (try simp only [g7_σ8, g9_σ8, g20_σ8, g23_σ8, g25_σ8]); omega, by omega⟩, fun _ => ⟨by (try simp only [g7_σ8, g9_σ8, g20_σ8, g23_σ8, g25_σ8]); exact k137, fun _ => h201, fun h => absurd h (by decide)⟩, hB⟩ | exact absurd y196 n189, g7_σ8, g9_σ8, g20_σ8, g25_σ8⟩)⟩
      · have n22 := hc6
        refine ok_gC rfl ?_
        refine ok_zbT (Q := fun V σ => (TOK σ.1 ∧ (σ0.1 218 11).toInt ≤ (σ.1 218 11).toInt ∧ (0 ≤ (σ.1 218 22).toInt ∧ (σ.1 218 22).toInt ≤ 40) ∧ (σ.1 218 14 = 0 → σ0.1 218 14 = 0 ∧ (σ0.1 218 11).toInt < (σ.1 218 11).toInt ∧ PIL σ.1 0)) ∧ (σ.1 218 7 = σ0.1 218 7 ∧ σ.1 218 9 = σ0.1 218 9 ∧ σ.1 218 20 = σ0.1 218 20 ∧ σ.1 218 23 = σ0.1 218 23 ∧ σ.1 218 25 = σ0.1 218 25)) hT (s_X12_opens hN (hR.tr hT) (hK) (by rw [hT.2 224 (by decide)]; exact hY) (hP) (by first | decide | (rw [ti_add]; simp only [Int32.reduceToInt]; omega) | exact absurd e7 n22) (by first | (rw [w7.2.2]; decide) | (rw [e16]; decide))) (by decide) (fun v9 σ10 hOσ10 hT hqv9 => ?_)
        have hqv9 : (TOK σ10.1 ∧ (σ0.1 218 11).toInt ≤ (σ10.1 218 11).toInt ∧ (0 ≤ (σ10.1 218 22).toInt ∧ (σ10.1 218 22).toInt ≤ 40) ∧ (σ10.1 218 14 = 0 → σ0.1 218 14 = 0 ∧ (σ0.1 218 11).toInt < (σ10.1 218 11).toInt ∧ PIL σ10.1 0)) ∧ (σ10.1 218 7 = σ0.1 218 7 ∧ σ10.1 218 9 = σ0.1 218 9 ∧ σ10.1 218 20 = σ0.1 218 20 ∧ σ10.1 218 23 = σ0.1 218 23 ∧ σ10.1 218 25 = σ0.1 218 25) := hqv9
        have hkv9 := hqv9
        have hqv9 := hqv9.1
        have hK : TOK σ10.1 := by first | exact hqv9.1 | exact TOK_p eσ10 (by decide) hK
        have hB : ZB σ10.1 := ZB.tr hOσ10 (by decide) hB
        have g7_σ10 : σ10.1 218 7 = (σ0.1 218 7) := hkv9.2.1
        have g9_σ10 : σ10.1 218 9 = (σ0.1 218 9) := hkv9.2.2.1
        have g20_σ10 : σ10.1 218 20 = (σ0.1 218 20) := hkv9.2.2.2.1
        have g23_σ10 : σ10.1 218 23 = (σ0.1 218 23) := hkv9.2.2.2.2.1
        have g25_σ10 : σ10.1 218 25 = (σ0.1 218 25) := hkv9.2.2.2.2.2
        have m34 := hqv9.2
        exact ok_rZ (Or.inl rfl) ⟨hT, (show (TOK σ10.1 ∧ ((σ0.1 218 11).toInt ≤ (σ10.1 218 11).toInt ∧ 0 ≤ (σ10.1 218 22).toInt ∧ (σ10.1 218 22).toInt ≤ 40) ∧ (σ10.1 218 14 = 0 → (σ0.1 218 11).toInt < (σ10.1 218 11).toInt ∧ (¬ (0 : Int32) = 0 → PIL σ10.1 1) ∧ ((0 : Int32) = 0 → PIL σ10.1 0)) ∧ ZB σ10.1) ∧ (σ10.1 218 7 = σ0.1 218 7 ∧ σ10.1 218 9 = σ0.1 218 9 ∧ σ10.1 218 20 = σ0.1 218 20 ∧ σ10.1 218 25 = σ0.1 218 25) from ⟨by first | exact ⟨hK, ⟨m34.1, m34.2.1⟩, fun q => ⟨(m34.2.2 q).2.1, fun h => absurd rfl h, fun _ => (m34.2.2 q).2.2⟩, hB⟩ | exact ⟨hK, ⟨by (try simp only [g7_σ10, g9_σ10, g20_σ10, g23_σ10, g25_σ10]); omega, by (try simp only [g7_σ10, g9_σ10, g20_σ10, g23_σ10, g25_σ10]); omega⟩, fun q => absurd q (by (try simp only [g7_σ10, g9_σ10, g20_σ10, g23_σ10, g25_σ10]); exact n196), hB⟩ | exact ⟨hK, ⟨by (try simp only [g7_σ10, g9_σ10, g20_σ10, g23_σ10, g25_σ10]); omega, by omega⟩, fun _ => ⟨by (try simp only [g7_σ10, g9_σ10, g20_σ10, g23_σ10, g25_σ10]); exact (u51 y196).1.2, fun _ => h201, fun h => absurd h (by decide)⟩, hB⟩ | exact ⟨hK, ⟨by (try simp only [g7_σ10, g9_σ10, g20_σ10, g23_σ10, g25_σ10]); omega, by omega⟩, fun _ => ⟨by (try simp only [g7_σ10, g9_σ10, g20_σ10, g23_σ10, g25_σ10]); exact (u127 y196).2, fun _ => h201, fun h => absurd h (by decide)⟩, hB⟩ | exact ⟨hK, ⟨by (try simp only [g7_σ10, g9_σ10, g20_σ10, g23_σ10, g25_σ10]); omega, by omega⟩, fun _ => ⟨by (try simp only [g7_σ10, g9_σ10, g20_σ10, g23_σ10, g25_σ10]); exact k137, fun _ => h201, fun h => absurd h (by decide)⟩, hB⟩ | exact absurd y196 n189, g7_σ10, g9_σ10, g20_σ10, g25_σ10⟩)⟩
    · refine ok_gI rfl ?_
      refine ok_if (fun hc12 => ?_) (fun hc12 => ?_)
      · refine ok_gC rfl ?_
        refine ok_zbT (Q := fun V σ => (TOK σ.1 ∧ (σ0.1 218 11).toInt ≤ (σ.1 218 11).toInt ∧ (σ.1 218 14 = 0 → (σ0.1 218 14 = 0 ∧ (σ0.1 218 11).toInt < (σ.1 218 11).toInt) ∧ (0 : Int32).toInt ≤ V.toInt ∧ V.toInt ≤ (9 : Int32).toInt) ∧ (¬ σ.1 218 14 = 0 → V = 0)) ∧ (σ.1 218 7 = σ0.1 218 7 ∧ σ.1 218 9 = σ0.1 218 9 ∧ σ.1 218 20 = σ0.1 218 20 ∧ σ.1 218 22 = σ0.1 218 22 ∧ σ.1 218 23 = σ0.1 218 23 ∧ σ.1 218 24 = σ0.1 218 24 ∧ σ.1 218 25 = σ0.1 218 25)) hT (s_X12_number hN (hR.tr hT) (hK) (by rw [hT.2 224 (by decide)]; exact hY)) (by decide) (fun v13 σ14 hOσ14 hT hqv13 => ?_)
        have hqv13 : (TOK σ14.1 ∧ (σ0.1 218 11).toInt ≤ (σ14.1 218 11).toInt ∧ (σ14.1 218 14 = 0 → (σ0.1 218 14 = 0 ∧ (σ0.1 218 11).toInt < (σ14.1 218 11).toInt) ∧ (0 : Int32).toInt ≤ v13.toInt ∧ v13.toInt ≤ (9 : Int32).toInt) ∧ (¬ σ14.1 218 14 = 0 → v13 = 0)) ∧ (σ14.1 218 7 = σ0.1 218 7 ∧ σ14.1 218 9 = σ0.1 218 9 ∧ σ14.1 218 20 = σ0.1 218 20 ∧ σ14.1 218 22 = σ0.1 218 22 ∧ σ14.1 218 23 = σ0.1 218 23 ∧ σ14.1 218 24 = σ0.1 218 24 ∧ σ14.1 218 25 = σ0.1 218 25) := hqv13
        have hkv13 := hqv13
        have hqv13 := hqv13.1
        have r230_σ14 : σ14.1 230 = σ0.1 230 := hOσ14.2 230 (by decide)
        have hK : TOK σ14.1 := by first | exact hqv13.1 | exact TOK_p eσ14 (by decide) hK
        have hB : ZB σ14.1 := ZB.tr hOσ14 (by decide) hB
        have g7_σ14 : σ14.1 218 7 = (σ0.1 218 7) := hkv13.2.1
        have g9_σ14 : σ14.1 218 9 = (σ0.1 218 9) := hkv13.2.2.1
        have g20_σ14 : σ14.1 218 20 = (σ0.1 218 20) := hkv13.2.2.2.1
        have g22_σ14 : σ14.1 218 22 = (σ0.1 218 22) := hkv13.2.2.2.2.1
        have g23_σ14 : σ14.1 218 23 = (σ0.1 218 23) := hkv13.2.2.2.2.2.1
        have g24_σ14 : σ14.1 218 24 = (σ0.1 218 24) := hkv13.2.2.2.2.2.2.1
        have g25_σ14 : σ14.1 218 25 = (σ0.1 218 25) := hkv13.2.2.2.2.2.2.2
        have m51 := hqv13.2.1
        have u51 := hqv13.2.2.1
        have b51 : 0 ≤ v13.toInt ∧ v13.toInt ≤ 9 := by by_cases h9 : σ14.1 218 14 = 0; have h8 := (hqv13.2.2.1 h9).2; simp only [Int32.reduceToInt] at h8; omega; rw [hqv13.2.2.2 h9]; decide
        have q51 := p1024 (p := v13) rfl b51.1 (by omega)
        refine ok_gC rfl ?_
        refine ok_zbT (Q := fun V σ => (TOK σ.1 ∧ ZB σ.1 ∧ σ.1 218 23 = σ14.1 218 23 + 1) ∧ (σ.1 218 7 = σ14.1 218 7 ∧ σ.1 218 9 = σ14.1 218 9 ∧ σ.1 218 10 = σ14.1 218 10 ∧ σ.1 218 11 = σ14.1 218 11 ∧ σ.1 218 12 = σ14.1 218 12 ∧ σ.1 218 13 = σ14.1 218 13 ∧ σ.1 218 14 = σ14.1 218 14 ∧ σ.1 218 15 = σ14.1 218 15 ∧ σ.1 218 20 = σ14.1 218 20 ∧ σ.1 218 22 = σ14.1 218 22 ∧ σ.1 218 24 = σ14.1 218 24 ∧ σ.1 218 25 = σ14.1 218 25)) hT (s_X12_pushesEmpty hN (hR.tr hT) (hK) (by rw [hT.2 224 (by decide)]; exact hY) (hB) (by (try simp only [g7_σ14, g9_σ14, g20_σ14, g22_σ14, g23_σ14, g24_σ14, g25_σ14]); omega)) (by decide) (fun v15 σ16 hOσ16 hT hqv15 => ?_)
        have hqv15 : (TOK σ16.1 ∧ ZB σ16.1 ∧ σ16.1 218 23 = σ14.1 218 23 + 1) ∧ (σ16.1 218 7 = σ14.1 218 7 ∧ σ16.1 218 9 = σ14.1 218 9 ∧ σ16.1 218 10 = σ14.1 218 10 ∧ σ16.1 218 11 = σ14.1 218 11 ∧ σ16.1 218 12 = σ14.1 218 12 ∧ σ16.1 218 13 = σ14.1 218 13 ∧ σ16.1 218 14 = σ14.1 218 14 ∧ σ16.1 218 15 = σ14.1 218 15 ∧ σ16.1 218 20 = σ14.1 218 20 ∧ σ16.1 218 22 = σ14.1 218 22 ∧ σ16.1 218 24 = σ14.1 218 24 ∧ σ16.1 218 25 = σ14.1 218 25) := hqv15
        have hkv15 := hqv15
        have hqv15 := hqv15.1
        have r230_σ16 : σ16.1 230 = σ0.1 230 := (hOσ16.2 230 (by decide)).trans r230_σ14
        have hK : TOK σ16.1 := by first | exact hqv15.1 | exact TOK_p eσ16 (by decide) hK
        have hB : ZB σ16.1 := by first | exact hqv15.2.1 | exact hqv15.2.2.2.1 | exact ZB_s eσ16 hB
        try simp only [g7_σ14, g9_σ14, g20_σ14, g22_σ14, g23_σ14, g24_σ14, g25_σ14] at hqv15
        have g7_σ16 : σ16.1 218 7 = (σ0.1 218 7) := (hkv15.2.1).trans g7_σ14
        have g9_σ16 : σ16.1 218 9 = (σ0.1 218 9) := (hkv15.2.2.1).trans g9_σ14
        have g10_σ16 : σ16.1 218 10 = (σ14.1 218 10) := hkv15.2.2.2.1
        have g11_σ16 : σ16.1 218 11 = (σ14.1 218 11) := hkv15.2.2.2.2.1
        have g12_σ16 : σ16.1 218 12 = (σ14.1 218 12) := hkv15.2.2.2.2.2.1
        have g13_σ16 : σ16.1 218 13 = (σ14.1 218 13) := hkv15.2.2.2.2.2.2.1
        have g14_σ16 : σ16.1 218 14 = (σ14.1 218 14) := hkv15.2.2.2.2.2.2.2.1
        have g15_σ16 : σ16.1 218 15 = (σ14.1 218 15) := hkv15.2.2.2.2.2.2.2.2.1
        have g20_σ16 : σ16.1 218 20 = (σ0.1 218 20) := (hkv15.2.2.2.2.2.2.2.2.2.1).trans g20_σ14
        have g22_σ16 : σ16.1 218 22 = (σ0.1 218 22) := (hkv15.2.2.2.2.2.2.2.2.2.2.1).trans g22_σ14
        have g24_σ16 : σ16.1 218 24 = (σ0.1 218 24) := (hkv15.2.2.2.2.2.2.2.2.2.2.2.1).trans g24_σ14
        have g25_σ16 : σ16.1 218 25 = (σ0.1 218 25) := (hkv15.2.2.2.2.2.2.2.2.2.2.2.2).trans g25_σ14
        have g57 := hqv15.2.2
        have s57 : (σ16.1 218 23).toInt = ((b8 + 1 : Nat) : Int) := by rw [g57, ti_add]; simp only [Int32.reduceToInt]; omega
        have p57 : ((σ16.1 218 23) - 1).toInt = (b8 : Int) := by rw [ti_sub, s57]; simp only [Int32.reduceToInt]; omega
        have m57 := p1024 p57 (by omega) (by omega)
        refine ok_lp (fun t : Int32 × zS => Tr [218, 226, 227, 228, 229, 230] σ0 (t.2) ∧ (0 ≤ (t.1).toInt) ∧ (TOK (t.2).1) ∧ (ZB (t.2).1) ∧ ((t.2).1 218 7 = (σ0.1 218 7)) ∧ ((t.2).1 218 9 = (σ0.1 218 9)) ∧ ((t.2).1 218 10 = (σ14.1 218 10)) ∧ ((t.2).1 218 11 = (σ14.1 218 11)) ∧ ((t.2).1 218 12 = (σ14.1 218 12)) ∧ ((t.2).1 218 13 = (σ14.1 218 13)) ∧ ((t.2).1 218 14 = (σ14.1 218 14)) ∧ ((t.2).1 218 15 = (σ14.1 218 15)) ∧ ((t.2).1 218 20 = (σ0.1 218 20)) ∧ ((t.2).1 218 22 = (σ0.1 218 22)) ∧ ((t.2).1 218 23 = (σ16.1 218 23)) ∧ ((t.2).1 218 24 = (σ0.1 218 24)) ∧ ((t.2).1 218 25 = (σ0.1 218 25)) ∧ ((t.2).1 230 = σ0.1 230)) (fun t : Int32 × zS => (1024 - (t.1).toInt).toNat) (fun again17 t hI ih63_17 => ?_) N _ (show Tr [218, 226, 227, 228, 229, 230] σ0 σ16 ∧ (0 ≤ (0 : Int32).toInt) ∧ (TOK σ16.1) ∧ (ZB σ16.1) ∧ (σ16.1 218 7 = (σ0.1 218 7)) ∧ (σ16.1 218 9 = (σ0.1 218 9)) ∧ (σ16.1 218 10 = (σ14.1 218 10)) ∧ (σ16.1 218 11 = (σ14.1 218 11)) ∧ (σ16.1 218 12 = (σ14.1 218 12)) ∧ (σ16.1 218 13 = (σ14.1 218 13)) ∧ (σ16.1 218 14 = (σ14.1 218 14)) ∧ (σ16.1 218 15 = (σ14.1 218 15)) ∧ (σ16.1 218 20 = (σ0.1 218 20)) ∧ (σ16.1 218 22 = (σ0.1 218 22)) ∧ (σ16.1 218 23 = (σ16.1 218 23)) ∧ (σ16.1 218 24 = (σ0.1 218 24)) ∧ (σ16.1 218 25 = (σ0.1 218 25)) ∧ (σ16.1 230 = σ0.1 230) from ⟨hT, (by decide), hK, hB, g7_σ16, g9_σ16, g10_σ16, g11_σ16, g12_σ16, g13_σ16, g14_σ16, g15_σ16, g20_σ16, g22_σ16, rfl, g24_σ16, g25_σ16, r230_σ16⟩) (show (1024 - (0 : Int32).toInt).toNat < N from (by simp only [Int32.reduceToInt]; omega))
        obtain ⟨x5_17, σ17⟩ := t
        have hI : Tr [218, 226, 227, 228, 229, 230] σ0 σ17 ∧ (0 ≤ x5_17.toInt) ∧ (TOK σ17.1) ∧ (ZB σ17.1) ∧ (σ17.1 218 7 = (σ0.1 218 7)) ∧ (σ17.1 218 9 = (σ0.1 218 9)) ∧ (σ17.1 218 10 = (σ14.1 218 10)) ∧ (σ17.1 218 11 = (σ14.1 218 11)) ∧ (σ17.1 218 12 = (σ14.1 218 12)) ∧ (σ17.1 218 13 = (σ14.1 218 13)) ∧ (σ17.1 218 14 = (σ14.1 218 14)) ∧ (σ17.1 218 15 = (σ14.1 218 15)) ∧ (σ17.1 218 20 = (σ0.1 218 20)) ∧ (σ17.1 218 22 = (σ0.1 218 22)) ∧ (σ17.1 218 23 = (σ16.1 218 23)) ∧ (σ17.1 218 24 = (σ0.1 218 24)) ∧ (σ17.1 218 25 = (σ0.1 218 25)) ∧ (σ17.1 230 = σ0.1 230) := hI
        obtain ⟨hT, hI17, hK, hB, g7_σ17, g9_σ17, g10_σ17, g11_σ17, g12_σ17, g13_σ17, g14_σ17, g15_σ17, g20_σ17, g22_σ17, g23_σ17, g24_σ17, g25_σ17, r230_σ17⟩ := hI
        rw [F_X12_readsPart_63.eq_1]
        refine ok_if (fun hc18 => ?_) (fun hc18 => ?_)
        · rw [J_X12_readsPart_192.eq_1]
          refine ok_gC rfl ?_
          refine ok_zbX (Q := fun V => (V = 0 → ¬ σ17.1 218 14 = 0) ∧ (¬ V = 0 → σ17.1 218 14 = 0)) (x_X12_good) (fun v19 hqv19 => ?_)
          have hqv19 : (v19 = 0 → ¬ σ17.1 218 14 = 0) ∧ (¬ v19 = 0 → σ17.1 218 14 = 0) := hqv19
          try simp only [g7_σ17, g9_σ17, g10_σ17, g11_σ17, g12_σ17, g13_σ17, g14_σ17, g15_σ17, g20_σ17, g22_σ17, g23_σ17, g24_σ17, g25_σ17, hT.2 224 (by decide)] at hqv19
          refine ok_if (fun hc21 => ?_) (fun hc21 => ?_)
          · have qhc21 := hqv19.1 hc21
            have n196 := qhc21
            exact ok_rZ (Or.inr rfl) ⟨hT, (show (TOK σ17.1 ∧ ((σ0.1 218 11).toInt ≤ (σ17.1 218 11).toInt ∧ 0 ≤ (σ17.1 218 22).toInt ∧ (σ17.1 218 22).toInt ≤ 40) ∧ (σ17.1 218 14 = 0 → (σ0.1 218 11).toInt < (σ17.1 218 11).toInt ∧ (¬ (1 : Int32) = 0 → PIL σ17.1 1) ∧ ((1 : Int32) = 0 → PIL σ17.1 0)) ∧ ZB σ17.1) ∧ (σ17.1 218 7 = σ0.1 218 7 ∧ σ17.1 218 9 = σ0.1 218 9 ∧ σ17.1 218 20 = σ0.1 218 20 ∧ σ17.1 218 25 = σ0.1 218 25) from ⟨by first | exact ⟨hK, ⟨m34.1, m34.2.1⟩, fun q => ⟨(m34.2.2 q).2.1, fun h => absurd rfl h, fun _ => (m34.2.2 q).2.2⟩, hB⟩ | exact ⟨hK, ⟨by (try simp only [g7_σ17, g9_σ17, g10_σ17, g11_σ17, g12_σ17, g13_σ17, g14_σ17, g15_σ17, g20_σ17, g22_σ17, g23_σ17, g24_σ17, g25_σ17]); omega, by (try simp only [g7_σ17, g9_σ17, g10_σ17, g11_σ17, g12_σ17, g13_σ17, g14_σ17, g15_σ17, g20_σ17, g22_σ17, g23_σ17, g24_σ17, g25_σ17]); omega⟩, fun q => absurd q (by (try simp only [g7_σ17, g9_σ17, g10_σ17, g11_σ17, g12_σ17, g13_σ17, g14_σ17, g15_σ17, g20_σ17, g22_σ17, g23_σ17, g24_σ17, g25_σ17]); exact n196), hB⟩ | exact ⟨hK, ⟨by (try simp only [g7_σ17, g9_σ17, g10_σ17, g11_σ17, g12_σ17, g13_σ17, g14_σ17, g15_σ17, g20_σ17, g22_σ17, g23_σ17, g24_σ17, g25_σ17]); omega, by omega⟩, fun _ => ⟨by (try simp only [g7_σ17, g9_σ17, g10_σ17, g11_σ17, g12_σ17, g13_σ17, g14_σ17, g15_σ17, g20_σ17, g22_σ17, g23_σ17, g24_σ17, g25_σ17]); exact (u51 y196).1.2, fun _ => h201, fun h => absurd h (by decide)⟩, hB⟩ | exact ⟨hK, ⟨by (try simp only [g7_σ17, g9_σ17, g10_σ17, g11_σ17, g12_σ17, g13_σ17, g14_σ17, g15_σ17, g20_σ17, g22_σ17, g23_σ17, g24_σ17, g25_σ17]); omega, by omega⟩, fun _ => ⟨by (try simp only [g7_σ17, g9_σ17, g10_σ17, g11_σ17, g12_σ17, g13_σ17, g14_σ17, g15_σ17, g20_σ17, g22_σ17, g23_σ17, g24_σ17, g25_σ17]); exact (u127 y196).2, fun _ => h201, fun h => absurd h (by decide)⟩, hB⟩ | exact ⟨hK, ⟨by (try simp only [g7_σ17, g9_σ17, g10_σ17, g11_σ17, g12_σ17, g13_σ17, g14_σ17, g15_σ17, g20_σ17, g22_σ17, g23_σ17, g24_σ17, g25_σ17]); omega, by omega⟩, fun _ => ⟨by (try simp only [g7_σ17, g9_σ17, g10_σ17, g11_σ17, g12_σ17, g13_σ17, g14_σ17, g15_σ17, g20_σ17, g22_σ17, g23_σ17, g24_σ17, g25_σ17]); exact k137, fun _ => h201, fun h => absurd h (by decide)⟩, hB⟩ | exact absurd y196 n189, g7_σ17, g9_σ17, g20_σ17, g25_σ17⟩)⟩
          · have qhc21 := hqv19.2 hc21
            have y196 := qhc21
            refine ok_gC rfl ?_
            refine ok_zbT (Q := fun V σ => (TOK σ.1 ∧ ZB σ.1 ∧ PIL σ.1 1 ∧ (∀ k : Nat, (k : Int) < (σ17.1 218 22).toInt → σ17.1 230 k = 100 → (k : Int) < (σ.1 218 22).toInt) ∧ ((σ.1 218 22).toInt ≤ 0 ∨ (rkI (σ17.1 230 ((σ.1 218 22) - 1).toNatClampNeg)).toInt < (3 : Int32).toInt)) ∧ (σ.1 218 7 = σ17.1 218 7 ∧ σ.1 218 9 = σ17.1 218 9 ∧ σ.1 218 10 = σ17.1 218 10 ∧ σ.1 218 11 = σ17.1 218 11 ∧ σ.1 218 12 = σ17.1 218 12 ∧ σ.1 218 13 = σ17.1 218 13 ∧ σ.1 218 14 = σ17.1 218 14 ∧ σ.1 218 15 = σ17.1 218 15 ∧ σ.1 218 20 = σ17.1 218 20 ∧ σ.1 218 25 = σ17.1 218 25)) hT (s_X12_settlesTo hN (hR.tr hT) (hK) (by rw [hT.2 224 (by decide)]; exact hY) (hB) (by (try simp only [g7_σ17, g9_σ17, g10_σ17, g11_σ17, g12_σ17, g13_σ17, g14_σ17, g15_σ17, g20_σ17, g22_σ17, g23_σ17, g24_σ17, g25_σ17]); exact ha) (by first | exact PIL_i g22_σ17 g23_σ17 g24_σ17 r230_σ17 hS h22 hd hd6 s57 | exact absurd y196 n189) (by decide)) (by decide) (fun v22 σ23 hOσ23 hT hqv22 => ?_)
            have hqv22 : (TOK σ23.1 ∧ ZB σ23.1 ∧ PIL σ23.1 1 ∧ (∀ k : Nat, (k : Int) < (σ17.1 218 22).toInt → σ17.1 230 k = 100 → (k : Int) < (σ23.1 218 22).toInt) ∧ ((σ23.1 218 22).toInt ≤ 0 ∨ (rkI (σ17.1 230 ((σ23.1 218 22) - 1).toNatClampNeg)).toInt < (3 : Int32).toInt)) ∧ (σ23.1 218 7 = σ17.1 218 7 ∧ σ23.1 218 9 = σ17.1 218 9 ∧ σ23.1 218 10 = σ17.1 218 10 ∧ σ23.1 218 11 = σ17.1 218 11 ∧ σ23.1 218 12 = σ17.1 218 12 ∧ σ23.1 218 13 = σ17.1 218 13 ∧ σ23.1 218 14 = σ17.1 218 14 ∧ σ23.1 218 15 = σ17.1 218 15 ∧ σ23.1 218 20 = σ17.1 218 20 ∧ σ23.1 218 25 = σ17.1 218 25) := hqv22
            have hkv22 := hqv22
            have hqv22 := hqv22.1
            have r230_σ23 : σ23.1 230 = σ0.1 230 := (hOσ23.2 230 (by decide)).trans r230_σ17
            have hK : TOK σ23.1 := by first | exact hqv22.1 | exact TOK_p eσ23 (by decide) hK
            have hB : ZB σ23.1 := by first | exact hqv22.2.1 | exact hqv22.2.2.2.1 | exact ZB_s eσ23 hB
            try simp only [g7_σ17, g9_σ17, g10_σ17, g11_σ17, g12_σ17, g13_σ17, g14_σ17, g15_σ17, g20_σ17, g22_σ17, g23_σ17, g24_σ17, g25_σ17] at hqv22
            have g7_σ23 : σ23.1 218 7 = (σ0.1 218 7) := (hkv22.2.1).trans g7_σ17
            have g9_σ23 : σ23.1 218 9 = (σ0.1 218 9) := (hkv22.2.2.1).trans g9_σ17
            have g10_σ23 : σ23.1 218 10 = (σ14.1 218 10) := (hkv22.2.2.2.1).trans g10_σ17
            have g11_σ23 : σ23.1 218 11 = (σ14.1 218 11) := (hkv22.2.2.2.2.1).trans g11_σ17
            have g12_σ23 : σ23.1 218 12 = (σ14.1 218 12) := (hkv22.2.2.2.2.2.1).trans g12_σ17
            have g13_σ23 : σ23.1 218 13 = (σ14.1 218 13) := (hkv22.2.2.2.2.2.2.1).trans g13_σ17
            have g14_σ23 : σ23.1 218 14 = (σ14.1 218 14) := (hkv22.2.2.2.2.2.2.2.1).trans g14_σ17
            have g15_σ23 : σ23.1 218 15 = (σ14.1 218 15) := (hkv22.2.2.2.2.2.2.2.2.1).trans g15_σ17
            have g20_σ23 : σ23.1 218 20 = (σ0.1 218 20) := (hkv22.2.2.2.2.2.2.2.2.2.1).trans g20_σ17
            have g25_σ23 : σ23.1 218 25 = (σ0.1 218 25) := (hkv22.2.2.2.2.2.2.2.2.2.2).trans g25_σ17
            have h201 := hqv22.2.2.1
            have b201 := PIL_b hqv22.2.2.1 (by decide)
            exact ok_rZ (Or.inr rfl) ⟨hT, (show (TOK σ23.1 ∧ ((σ0.1 218 11).toInt ≤ (σ23.1 218 11).toInt ∧ 0 ≤ (σ23.1 218 22).toInt ∧ (σ23.1 218 22).toInt ≤ 40) ∧ (σ23.1 218 14 = 0 → (σ0.1 218 11).toInt < (σ23.1 218 11).toInt ∧ (¬ (1 : Int32) = 0 → PIL σ23.1 1) ∧ ((1 : Int32) = 0 → PIL σ23.1 0)) ∧ ZB σ23.1) ∧ (σ23.1 218 7 = σ0.1 218 7 ∧ σ23.1 218 9 = σ0.1 218 9 ∧ σ23.1 218 20 = σ0.1 218 20 ∧ σ23.1 218 25 = σ0.1 218 25) from ⟨by first | exact ⟨hK, ⟨m34.1, m34.2.1⟩, fun q => ⟨(m34.2.2 q).2.1, fun h => absurd rfl h, fun _ => (m34.2.2 q).2.2⟩, hB⟩ | exact ⟨hK, ⟨by (try simp only [g7_σ23, g9_σ23, g10_σ23, g11_σ23, g12_σ23, g13_σ23, g14_σ23, g15_σ23, g20_σ23, g25_σ23]); omega, by (try simp only [g7_σ23, g9_σ23, g10_σ23, g11_σ23, g12_σ23, g13_σ23, g14_σ23, g15_σ23, g20_σ23, g25_σ23]); omega⟩, fun q => absurd q (by (try simp only [g7_σ23, g9_σ23, g10_σ23, g11_σ23, g12_σ23, g13_σ23, g14_σ23, g15_σ23, g20_σ23, g25_σ23]); exact n196), hB⟩ | exact ⟨hK, ⟨by (try simp only [g7_σ23, g9_σ23, g10_σ23, g11_σ23, g12_σ23, g13_σ23, g14_σ23, g15_σ23, g20_σ23, g25_σ23]); omega, by omega⟩, fun _ => ⟨by (try simp only [g7_σ23, g9_σ23, g10_σ23, g11_σ23, g12_σ23, g13_σ23, g14_σ23, g15_σ23, g20_σ23, g25_σ23]); exact (u51 y196).1.2, fun _ => h201, fun h => absurd h (by decide)⟩, hB⟩ | exact ⟨hK, ⟨by (try simp only [g7_σ23, g9_σ23, g10_σ23, g11_σ23, g12_σ23, g13_σ23, g14_σ23, g15_σ23, g20_σ23, g25_σ23]); omega, by omega⟩, fun _ => ⟨by (try simp only [g7_σ23, g9_σ23, g10_σ23, g11_σ23, g12_σ23, g13_σ23, g14_σ23, g15_σ23, g20_σ23, g25_σ23]); exact (u127 y196).2, fun _ => h201, fun h => absurd h (by decide)⟩, hB⟩ | exact ⟨hK, ⟨by (try simp only [g7_σ23, g9_σ23, g10_σ23, g11_σ23, g12_σ23, g13_σ23, g14_σ23, g15_σ23, g20_σ23, g25_σ23]); omega, by omega⟩, fun _ => ⟨by (try simp only [g7_σ23, g9_σ23, g10_σ23, g11_σ23, g12_σ23, g13_σ23, g14_σ23, g15_σ23, g20_σ23, g25_σ23]); exact k137, fun _ => h201, fun h => absurd h (by decide)⟩, hB⟩ | exact absurd y196 n189, g7_σ23, g9_σ23, g20_σ23, g25_σ23⟩)⟩
        · have l68 := hc18
          rw [Int32.le_iff_toInt_le] at l68
          try simp only [Int32.reduceToInt] at l68
          have s68 : (x5_17 + 1).toInt = x5_17.toInt + 1 := by rw [ti_add]; simp only [Int32.reduceToInt]; omega
          refine ok_gC rfl ?_
          refine ok_zbX (Q := fun V => (V = 0 → ¬ σ17.1 218 14 = 0) ∧ (¬ V = 0 → σ17.1 218 14 = 0)) (x_X12_good) (fun v24 hqv24 => ?_)
          have hqv24 : (v24 = 0 → ¬ σ17.1 218 14 = 0) ∧ (¬ v24 = 0 → σ17.1 218 14 = 0) := hqv24
          try simp only [g7_σ17, g9_σ17, g10_σ17, g11_σ17, g12_σ17, g13_σ17, g14_σ17, g15_σ17, g20_σ17, g22_σ17, g23_σ17, g24_σ17, g25_σ17, hT.2 224 (by decide)] at hqv24
          refine ok_if (fun hc26 => ?_) (fun hc26 => ?_)
          · have qhc26 := hqv24.1 hc26
            rw [J_X12_readsPart_192.eq_1]
            refine ok_gC rfl ?_
            refine ok_zbX (Q := fun V => (V = 0 → ¬ σ17.1 218 14 = 0) ∧ (¬ V = 0 → σ17.1 218 14 = 0)) (x_X12_good) (fun v27 hqv27 => ?_)
            have hqv27 : (v27 = 0 → ¬ σ17.1 218 14 = 0) ∧ (¬ v27 = 0 → σ17.1 218 14 = 0) := hqv27
            try simp only [g7_σ17, g9_σ17, g10_σ17, g11_σ17, g12_σ17, g13_σ17, g14_σ17, g15_σ17, g20_σ17, g22_σ17, g23_σ17, g24_σ17, g25_σ17, hT.2 224 (by decide)] at hqv27
            refine ok_if (fun hc29 => ?_) (fun hc29 => ?_)
            · have qhc29 := hqv27.1 hc29
              have n196 := qhc29
              exact ok_rZ (Or.inr rfl) ⟨hT, (show (TOK σ17.1 ∧ ((σ0.1 218 11).toInt ≤ (σ17.1 218 11).toInt ∧ 0 ≤ (σ17.1 218 22).toInt ∧ (σ17.1 218 22).toInt ≤ 40) ∧ (σ17.1 218 14 = 0 → (σ0.1 218 11).toInt < (σ17.1 218 11).toInt ∧ (¬ (1 : Int32) = 0 → PIL σ17.1 1) ∧ ((1 : Int32) = 0 → PIL σ17.1 0)) ∧ ZB σ17.1) ∧ (σ17.1 218 7 = σ0.1 218 7 ∧ σ17.1 218 9 = σ0.1 218 9 ∧ σ17.1 218 20 = σ0.1 218 20 ∧ σ17.1 218 25 = σ0.1 218 25) from ⟨by first | exact ⟨hK, ⟨m34.1, m34.2.1⟩, fun q => ⟨(m34.2.2 q).2.1, fun h => absurd rfl h, fun _ => (m34.2.2 q).2.2⟩, hB⟩ | exact ⟨hK, ⟨by (try simp only [g7_σ17, g9_σ17, g10_σ17, g11_σ17, g12_σ17, g13_σ17, g14_σ17, g15_σ17, g20_σ17, g22_σ17, g23_σ17, g24_σ17, g25_σ17]); omega, by (try simp only [g7_σ17, g9_σ17, g10_σ17, g11_σ17, g12_σ17, g13_σ17, g14_σ17, g15_σ17, g20_σ17, g22_σ17, g23_σ17, g24_σ17, g25_σ17]); omega⟩, fun q => absurd q (by (try simp only [g7_σ17, g9_σ17, g10_σ17, g11_σ17, g12_σ17, g13_σ17, g14_σ17, g15_σ17, g20_σ17, g22_σ17, g23_σ17, g24_σ17, g25_σ17]); exact n196), hB⟩ | exact ⟨hK, ⟨by (try simp only [g7_σ17, g9_σ17, g10_σ17, g11_σ17, g12_σ17, g13_σ17, g14_σ17, g15_σ17, g20_σ17, g22_σ17, g23_σ17, g24_σ17, g25_σ17]); omega, by omega⟩, fun _ => ⟨by (try simp only [g7_σ17, g9_σ17, g10_σ17, g11_σ17, g12_σ17, g13_σ17, g14_σ17, g15_σ17, g20_σ17, g22_σ17, g23_σ17, g24_σ17, g25_σ17]); exact (u51 y196).1.2, fun _ => h201, fun h => absurd h (by decide)⟩, hB⟩ | exact ⟨hK, ⟨by (try simp only [g7_σ17, g9_σ17, g10_σ17, g11_σ17, g12_σ17, g13_σ17, g14_σ17, g15_σ17, g20_σ17, g22_σ17, g23_σ17, g24_σ17, g25_σ17]); omega, by omega⟩, fun _ => ⟨by (try simp only [g7_σ17, g9_σ17, g10_σ17, g11_σ17, g12_σ17, g13_σ17, g14_σ17, g15_σ17, g20_σ17, g22_σ17, g23_σ17, g24_σ17, g25_σ17]); exact (u127 y196).2, fun _ => h201, fun h => absurd h (by decide)⟩, hB⟩ | exact ⟨hK, ⟨by (try simp only [g7_σ17, g9_σ17, g10_σ17, g11_σ17, g12_σ17, g13_σ17, g14_σ17, g15_σ17, g20_σ17, g22_σ17, g23_σ17, g24_σ17, g25_σ17]); omega, by omega⟩, fun _ => ⟨by (try simp only [g7_σ17, g9_σ17, g10_σ17, g11_σ17, g12_σ17, g13_σ17, g14_σ17, g15_σ17, g20_σ17, g22_σ17, g23_σ17, g24_σ17, g25_σ17]); exact k137, fun _ => h201, fun h => absurd h (by decide)⟩, hB⟩ | exact absurd y196 n189, g7_σ17, g9_σ17, g20_σ17, g25_σ17⟩)⟩
            · have qhc29 := hqv27.2 hc29
              have y196 := qhc29
              refine ok_gC rfl ?_
              refine ok_zbT (Q := fun V σ => (TOK σ.1 ∧ ZB σ.1 ∧ PIL σ.1 1 ∧ (∀ k : Nat, (k : Int) < (σ17.1 218 22).toInt → σ17.1 230 k = 100 → (k : Int) < (σ.1 218 22).toInt) ∧ ((σ.1 218 22).toInt ≤ 0 ∨ (rkI (σ17.1 230 ((σ.1 218 22) - 1).toNatClampNeg)).toInt < (3 : Int32).toInt)) ∧ (σ.1 218 7 = σ17.1 218 7 ∧ σ.1 218 9 = σ17.1 218 9 ∧ σ.1 218 10 = σ17.1 218 10 ∧ σ.1 218 11 = σ17.1 218 11 ∧ σ.1 218 12 = σ17.1 218 12 ∧ σ.1 218 13 = σ17.1 218 13 ∧ σ.1 218 14 = σ17.1 218 14 ∧ σ.1 218 15 = σ17.1 218 15 ∧ σ.1 218 20 = σ17.1 218 20 ∧ σ.1 218 25 = σ17.1 218 25)) hT (s_X12_settlesTo hN (hR.tr hT) (hK) (by rw [hT.2 224 (by decide)]; exact hY) (hB) (by (try simp only [g7_σ17, g9_σ17, g10_σ17, g11_σ17, g12_σ17, g13_σ17, g14_σ17, g15_σ17, g20_σ17, g22_σ17, g23_σ17, g24_σ17, g25_σ17]); exact ha) (by first | exact PIL_i g22_σ17 g23_σ17 g24_σ17 r230_σ17 hS h22 hd hd6 s57 | exact absurd y196 n189) (by decide)) (by decide) (fun v30 σ31 hOσ31 hT hqv30 => ?_)
              have hqv30 : (TOK σ31.1 ∧ ZB σ31.1 ∧ PIL σ31.1 1 ∧ (∀ k : Nat, (k : Int) < (σ17.1 218 22).toInt → σ17.1 230 k = 100 → (k : Int) < (σ31.1 218 22).toInt) ∧ ((σ31.1 218 22).toInt ≤ 0 ∨ (rkI (σ17.1 230 ((σ31.1 218 22) - 1).toNatClampNeg)).toInt < (3 : Int32).toInt)) ∧ (σ31.1 218 7 = σ17.1 218 7 ∧ σ31.1 218 9 = σ17.1 218 9 ∧ σ31.1 218 10 = σ17.1 218 10 ∧ σ31.1 218 11 = σ17.1 218 11 ∧ σ31.1 218 12 = σ17.1 218 12 ∧ σ31.1 218 13 = σ17.1 218 13 ∧ σ31.1 218 14 = σ17.1 218 14 ∧ σ31.1 218 15 = σ17.1 218 15 ∧ σ31.1 218 20 = σ17.1 218 20 ∧ σ31.1 218 25 = σ17.1 218 25) := hqv30
              have hkv30 := hqv30
              have hqv30 := hqv30.1
              have r230_σ31 : σ31.1 230 = σ0.1 230 := (hOσ31.2 230 (by decide)).trans r230_σ17
              have hK : TOK σ31.1 := by first | exact hqv30.1 | exact TOK_p eσ31 (by decide) hK
              have hB : ZB σ31.1 := by first | exact hqv30.2.1 | exact hqv30.2.2.2.1 | exact ZB_s eσ31 hB
              try simp only [g7_σ17, g9_σ17, g10_σ17, g11_σ17, g12_σ17, g13_σ17, g14_σ17, g15_σ17, g20_σ17, g22_σ17, g23_σ17, g24_σ17, g25_σ17] at hqv30
              have g7_σ31 : σ31.1 218 7 = (σ0.1 218 7) := (hkv30.2.1).trans g7_σ17
              have g9_σ31 : σ31.1 218 9 = (σ0.1 218 9) := (hkv30.2.2.1).trans g9_σ17
              have g10_σ31 : σ31.1 218 10 = (σ14.1 218 10) := (hkv30.2.2.2.1).trans g10_σ17
              have g11_σ31 : σ31.1 218 11 = (σ14.1 218 11) := (hkv30.2.2.2.2.1).trans g11_σ17
              have g12_σ31 : σ31.1 218 12 = (σ14.1 218 12) := (hkv30.2.2.2.2.2.1).trans g12_σ17
              have g13_σ31 : σ31.1 218 13 = (σ14.1 218 13) := (hkv30.2.2.2.2.2.2.1).trans g13_σ17
              have g14_σ31 : σ31.1 218 14 = (σ14.1 218 14) := (hkv30.2.2.2.2.2.2.2.1).trans g14_σ17
              have g15_σ31 : σ31.1 218 15 = (σ14.1 218 15) := (hkv30.2.2.2.2.2.2.2.2.1).trans g15_σ17
              have g20_σ31 : σ31.1 218 20 = (σ0.1 218 20) := (hkv30.2.2.2.2.2.2.2.2.2.1).trans g20_σ17
              have g25_σ31 : σ31.1 218 25 = (σ0.1 218 25) := (hkv30.2.2.2.2.2.2.2.2.2.2).trans g25_σ17
              have h201 := hqv30.2.2.1
              have b201 := PIL_b hqv30.2.2.1 (by decide)
              exact ok_rZ (Or.inr rfl) ⟨hT, (show (TOK σ31.1 ∧ ((σ0.1 218 11).toInt ≤ (σ31.1 218 11).toInt ∧ 0 ≤ (σ31.1 218 22).toInt ∧ (σ31.1 218 22).toInt ≤ 40) ∧ (σ31.1 218 14 = 0 → (σ0.1 218 11).toInt < (σ31.1 218 11).toInt ∧ (¬ (1 : Int32) = 0 → PIL σ31.1 1) ∧ ((1 : Int32) = 0 → PIL σ31.1 0)) ∧ ZB σ31.1) ∧ (σ31.1 218 7 = σ0.1 218 7 ∧ σ31.1 218 9 = σ0.1 218 9 ∧ σ31.1 218 20 = σ0.1 218 20 ∧ σ31.1 218 25 = σ0.1 218 25) from ⟨by first | exact ⟨hK, ⟨m34.1, m34.2.1⟩, fun q => ⟨(m34.2.2 q).2.1, fun h => absurd rfl h, fun _ => (m34.2.2 q).2.2⟩, hB⟩ | exact ⟨hK, ⟨by (try simp only [g7_σ31, g9_σ31, g10_σ31, g11_σ31, g12_σ31, g13_σ31, g14_σ31, g15_σ31, g20_σ31, g25_σ31]); omega, by (try simp only [g7_σ31, g9_σ31, g10_σ31, g11_σ31, g12_σ31, g13_σ31, g14_σ31, g15_σ31, g20_σ31, g25_σ31]); omega⟩, fun q => absurd q (by (try simp only [g7_σ31, g9_σ31, g10_σ31, g11_σ31, g12_σ31, g13_σ31, g14_σ31, g15_σ31, g20_σ31, g25_σ31]); exact n196), hB⟩ | exact ⟨hK, ⟨by (try simp only [g7_σ31, g9_σ31, g10_σ31, g11_σ31, g12_σ31, g13_σ31, g14_σ31, g15_σ31, g20_σ31, g25_σ31]); omega, by omega⟩, fun _ => ⟨by (try simp only [g7_σ31, g9_σ31, g10_σ31, g11_σ31, g12_σ31, g13_σ31, g14_σ31, g15_σ31, g20_σ31, g25_σ31]); exact (u51 y196).1.2, fun _ => h201, fun h => absurd h (by decide)⟩, hB⟩ | exact ⟨hK, ⟨by (try simp only [g7_σ31, g9_σ31, g10_σ31, g11_σ31, g12_σ31, g13_σ31, g14_σ31, g15_σ31, g20_σ31, g25_σ31]); omega, by omega⟩, fun _ => ⟨by (try simp only [g7_σ31, g9_σ31, g10_σ31, g11_σ31, g12_σ31, g13_σ31, g14_σ31, g15_σ31, g20_σ31, g25_σ31]); exact (u127 y196).2, fun _ => h201, fun h => absurd h (by decide)⟩, hB⟩ | exact ⟨hK, ⟨by (try simp only [g7_σ31, g9_σ31, g10_σ31, g11_σ31, g12_σ31, g13_σ31, g14_σ31, g15_σ31, g20_σ31, g25_σ31]); omega, by omega⟩, fun _ => ⟨by (try simp only [g7_σ31, g9_σ31, g10_σ31, g11_σ31, g12_σ31, g13_σ31, g14_σ31, g15_σ31, g20_σ31, g25_σ31]); exact k137, fun _ => h201, fun h => absurd h (by decide)⟩, hB⟩ | exact absurd y196 n189, g7_σ31, g9_σ31, g20_σ31, g25_σ31⟩)⟩
          · have qhc26 := hqv24.2 hc26
            refine ok_gR (v := 226) hT rfl (hR 218 16 rfl) ?_
            refine ok_gIv rfl g23_σ17 ?_
            refine ok_aIn rfl (by rw [ti_add, q51]; omega) (by rw [ti_add, q51]; omega) (fun v34 ev34 => ?_)
            have zv34 : v34 = 0 ∨ v34 = 1 := by rw [ev34]; exact hB 232 rfl _
            refine ok_s16 hT rfl (by decide) (by rw [ti_add, m57]; omega) (by rw [ti_add, m57]; omega) (fun σ35 eσ35 hOσ35 hT => ?_)
            have r230_σ35 : σ35.1 230 = σ0.1 230 := (hOσ35.2 230 (by decide)).trans r230_σ17
            have hK : TOK σ35.1 := TOK_tr hOσ35 (by decide) (by decide) hK
            have hB : ZB σ35.1 := by first | exact HQ.2.1 | exact HQ.2.2.2.1 | exact ZB_s eσ35 hB
            have g7_σ35 : σ35.1 218 7 = (σ0.1 218 7) := (congrFun (hOσ35.2 218 (by decide)) 7).trans g7_σ17
            have g9_σ35 : σ35.1 218 9 = (σ0.1 218 9) := (congrFun (hOσ35.2 218 (by decide)) 9).trans g9_σ17
            have g10_σ35 : σ35.1 218 10 = (σ14.1 218 10) := (congrFun (hOσ35.2 218 (by decide)) 10).trans g10_σ17
            have g11_σ35 : σ35.1 218 11 = (σ14.1 218 11) := (congrFun (hOσ35.2 218 (by decide)) 11).trans g11_σ17
            have g12_σ35 : σ35.1 218 12 = (σ14.1 218 12) := (congrFun (hOσ35.2 218 (by decide)) 12).trans g12_σ17
            have g13_σ35 : σ35.1 218 13 = (σ14.1 218 13) := (congrFun (hOσ35.2 218 (by decide)) 13).trans g13_σ17
            have g14_σ35 : σ35.1 218 14 = (σ14.1 218 14) := (congrFun (hOσ35.2 218 (by decide)) 14).trans g14_σ17
            have g15_σ35 : σ35.1 218 15 = (σ14.1 218 15) := (congrFun (hOσ35.2 218 (by decide)) 15).trans g15_σ17
            have g20_σ35 : σ35.1 218 20 = (σ0.1 218 20) := (congrFun (hOσ35.2 218 (by decide)) 20).trans g20_σ17
            have g22_σ35 : σ35.1 218 22 = (σ0.1 218 22) := (congrFun (hOσ35.2 218 (by decide)) 22).trans g22_σ17
            have g23_σ35 : σ35.1 218 23 = (σ16.1 218 23) := (congrFun (hOσ35.2 218 (by decide)) 23).trans g23_σ17
            have g24_σ35 : σ35.1 218 24 = (σ0.1 218 24) := (congrFun (hOσ35.2 218 (by decide)) 24).trans g24_σ17
            have g25_σ35 : σ35.1 218 25 = (σ0.1 218 25) := (congrFun (hOσ35.2 218 (by decide)) 25).trans g25_σ17
            exact ih63_17 (x5_17 + 1, σ35) (show Tr [218, 226, 227, 228, 229, 230] σ0 σ35 ∧ (0 ≤ (x5_17 + 1).toInt) ∧ (TOK σ35.1) ∧ (ZB σ35.1) ∧ (σ35.1 218 7 = (σ0.1 218 7)) ∧ (σ35.1 218 9 = (σ0.1 218 9)) ∧ (σ35.1 218 10 = (σ14.1 218 10)) ∧ (σ35.1 218 11 = (σ14.1 218 11)) ∧ (σ35.1 218 12 = (σ14.1 218 12)) ∧ (σ35.1 218 13 = (σ14.1 218 13)) ∧ (σ35.1 218 14 = (σ14.1 218 14)) ∧ (σ35.1 218 15 = (σ14.1 218 15)) ∧ (σ35.1 218 20 = (σ0.1 218 20)) ∧ (σ35.1 218 22 = (σ0.1 218 22)) ∧ (σ35.1 218 23 = (σ16.1 218 23)) ∧ (σ35.1 218 24 = (σ0.1 218 24)) ∧ (σ35.1 218 25 = (σ0.1 218 25)) ∧ (σ35.1 230 = σ0.1 230) from ⟨hT, (by rw [s68]; omega), hK, hB, g7_σ35, g9_σ35, g10_σ35, g11_σ35, g12_σ35, g13_σ35, g14_σ35, g15_σ35, g20_σ35, g22_σ35, g23_σ35, g24_σ35, g25_σ35, r230_σ35⟩) (show (1024 - (x5_17 + 1).toInt).toNat < (1024 - x5_17.toInt).toNat from (by rw [s68]; omega))
      · refine ok_gI rfl ?_
        refine ok_if (fun hc37 => ?_) (fun hc37 => ?_)
        · have e122 := hc37
          refine ok_gC rfl ?_
          refine ok_zbT (Q := fun V σ => (TOK σ.1 ∧ (σ0.1 218 11).toInt ≤ (σ.1 218 11).toInt ∧ (σ.1 218 14 = 0 → σ0.1 218 14 = 0 ∧ (σ0.1 218 11).toInt < (σ.1 218 11).toInt) ∧ ZB σ.1 ∧ σ.1 218 23 = σ0.1 218 23 + 1) ∧ (σ.1 218 7 = σ0.1 218 7 ∧ σ.1 218 9 = σ0.1 218 9 ∧ σ.1 218 20 = σ0.1 218 20 ∧ σ.1 218 22 = σ0.1 218 22 ∧ σ.1 218 24 = σ0.1 218 24 ∧ σ.1 218 25 = σ0.1 218 25)) hT (s_X12_readsSets hN (hR.tr hT) (hK) (by rw [hT.2 224 (by decide)]; exact hY) (hB) (hn) (by skip; omega) (by rw [e122]; decide)) (by decide) (fun v38 σ39 hOσ39 hT hqv38 => ?_)
          have hqv38 : (TOK σ39.1 ∧ (σ0.1 218 11).toInt ≤ (σ39.1 218 11).toInt ∧ (σ39.1 218 14 = 0 → σ0.1 218 14 = 0 ∧ (σ0.1 218 11).toInt < (σ39.1 218 11).toInt) ∧ ZB σ39.1 ∧ σ39.1 218 23 = σ0.1 218 23 + 1) ∧ (σ39.1 218 7 = σ0.1 218 7 ∧ σ39.1 218 9 = σ0.1 218 9 ∧ σ39.1 218 20 = σ0.1 218 20 ∧ σ39.1 218 22 = σ0.1 218 22 ∧ σ39.1 218 24 = σ0.1 218 24 ∧ σ39.1 218 25 = σ0.1 218 25) := hqv38
          have hkv38 := hqv38
          have hqv38 := hqv38.1
          have r230_σ39 : σ39.1 230 = σ0.1 230 := hOσ39.2 230 (by decide)
          have hK : TOK σ39.1 := by first | exact hqv38.1 | exact TOK_p eσ39 (by decide) hK
          have hB : ZB σ39.1 := by first | exact hqv38.2.1 | exact hqv38.2.2.2.1 | exact ZB_s eσ39 hB
          have g7_σ39 : σ39.1 218 7 = (σ0.1 218 7) := hkv38.2.1
          have g9_σ39 : σ39.1 218 9 = (σ0.1 218 9) := hkv38.2.2.1
          have g20_σ39 : σ39.1 218 20 = (σ0.1 218 20) := hkv38.2.2.2.1
          have g22_σ39 : σ39.1 218 22 = (σ0.1 218 22) := hkv38.2.2.2.2.1
          have g24_σ39 : σ39.1 218 24 = (σ0.1 218 24) := hkv38.2.2.2.2.2.1
          have g25_σ39 : σ39.1 218 25 = (σ0.1 218 25) := hkv38.2.2.2.2.2.2
          have m127 := hqv38.2.1
          have u127 := hqv38.2.2.1
          have g57 := hqv38.2.2.2.2
          have s57 : (σ39.1 218 23).toInt = ((b8 + 1 : Nat) : Int) := by rw [g57, ti_add]; simp only [Int32.reduceToInt]; omega
          have p57 : ((σ39.1 218 23) - 1).toInt = (b8 : Int) := by rw [ti_sub, s57]; simp only [Int32.reduceToInt]; omega
          have m57 := p1024 p57 (by omega) (by omega)
          rw [J_X12_readsPart_192.eq_1]
          refine ok_gC rfl ?_
          refine ok_zbX (Q := fun V => (V = 0 → ¬ σ39.1 218 14 = 0) ∧ (¬ V = 0 → σ39.1 218 14 = 0)) (x_X12_good) (fun v40 hqv40 => ?_)
          have hqv40 : (v40 = 0 → ¬ σ39.1 218 14 = 0) ∧ (¬ v40 = 0 → σ39.1 218 14 = 0) := hqv40
          try simp only [g7_σ39, g9_σ39, g20_σ39, g22_σ39, g24_σ39, g25_σ39, hT.2 224 (by decide)] at hqv40
          refine ok_if (fun hc42 => ?_) (fun hc42 => ?_)
          · have qhc42 := hqv40.1 hc42
            have n196 := qhc42
            exact ok_rZ (Or.inr rfl) ⟨hT, (show (TOK σ39.1 ∧ ((σ0.1 218 11).toInt ≤ (σ39.1 218 11).toInt ∧ 0 ≤ (σ39.1 218 22).toInt ∧ (σ39.1 218 22).toInt ≤ 40) ∧ (σ39.1 218 14 = 0 → (σ0.1 218 11).toInt < (σ39.1 218 11).toInt ∧ (¬ (1 : Int32) = 0 → PIL σ39.1 1) ∧ ((1 : Int32) = 0 → PIL σ39.1 0)) ∧ ZB σ39.1) ∧ (σ39.1 218 7 = σ0.1 218 7 ∧ σ39.1 218 9 = σ0.1 218 9 ∧ σ39.1 218 20 = σ0.1 218 20 ∧ σ39.1 218 25 = σ0.1 218 25) from ⟨by first | exact ⟨hK, ⟨m34.1, m34.2.1⟩, fun q => ⟨(m34.2.2 q).2.1, fun h => absurd rfl h, fun _ => (m34.2.2 q).2.2⟩, hB⟩ | exact ⟨hK, ⟨by (try simp only [g7_σ39, g9_σ39, g20_σ39, g22_σ39, g24_σ39, g25_σ39]); omega, by (try simp only [g7_σ39, g9_σ39, g20_σ39, g22_σ39, g24_σ39, g25_σ39]); omega⟩, fun q => absurd q (by (try simp only [g7_σ39, g9_σ39, g20_σ39, g22_σ39, g24_σ39, g25_σ39]); exact n196), hB⟩ | exact ⟨hK, ⟨by (try simp only [g7_σ39, g9_σ39, g20_σ39, g22_σ39, g24_σ39, g25_σ39]); omega, by omega⟩, fun _ => ⟨by (try simp only [g7_σ39, g9_σ39, g20_σ39, g22_σ39, g24_σ39, g25_σ39]); exact (u51 y196).1.2, fun _ => h201, fun h => absurd h (by decide)⟩, hB⟩ | exact ⟨hK, ⟨by (try simp only [g7_σ39, g9_σ39, g20_σ39, g22_σ39, g24_σ39, g25_σ39]); omega, by omega⟩, fun _ => ⟨by (try simp only [g7_σ39, g9_σ39, g20_σ39, g22_σ39, g24_σ39, g25_σ39]); exact (u127 y196).2, fun _ => h201, fun h => absurd h (by decide)⟩, hB⟩ | exact ⟨hK, ⟨by (try simp only [g7_σ39, g9_σ39, g20_σ39, g22_σ39, g24_σ39, g25_σ39]); omega, by omega⟩, fun _ => ⟨by (try simp only [g7_σ39, g9_σ39, g20_σ39, g22_σ39, g24_σ39, g25_σ39]); exact k137, fun _ => h201, fun h => absurd h (by decide)⟩, hB⟩ | exact absurd y196 n189, g7_σ39, g9_σ39, g20_σ39, g25_σ39⟩)⟩
          · have qhc42 := hqv40.2 hc42
            have y196 := qhc42
            refine ok_gC rfl ?_
            refine ok_zbT (Q := fun V σ => (TOK σ.1 ∧ ZB σ.1 ∧ PIL σ.1 1 ∧ (∀ k : Nat, (k : Int) < (σ39.1 218 22).toInt → σ39.1 230 k = 100 → (k : Int) < (σ.1 218 22).toInt) ∧ ((σ.1 218 22).toInt ≤ 0 ∨ (rkI (σ39.1 230 ((σ.1 218 22) - 1).toNatClampNeg)).toInt < (3 : Int32).toInt)) ∧ (σ.1 218 7 = σ39.1 218 7 ∧ σ.1 218 9 = σ39.1 218 9 ∧ σ.1 218 10 = σ39.1 218 10 ∧ σ.1 218 11 = σ39.1 218 11 ∧ σ.1 218 12 = σ39.1 218 12 ∧ σ.1 218 13 = σ39.1 218 13 ∧ σ.1 218 14 = σ39.1 218 14 ∧ σ.1 218 15 = σ39.1 218 15 ∧ σ.1 218 20 = σ39.1 218 20 ∧ σ.1 218 25 = σ39.1 218 25)) hT (s_X12_settlesTo hN (hR.tr hT) (hK) (by rw [hT.2 224 (by decide)]; exact hY) (hB) (by (try simp only [g7_σ39, g9_σ39, g20_σ39, g22_σ39, g24_σ39, g25_σ39]); exact ha) (by first | exact PIL_i g22_σ39 rfl g24_σ39 r230_σ39 hS h22 hd hd6 s57 | exact absurd y196 n189) (by decide)) (by decide) (fun v43 σ44 hOσ44 hT hqv43 => ?_)
            have hqv43 : (TOK σ44.1 ∧ ZB σ44.1 ∧ PIL σ44.1 1 ∧ (∀ k : Nat, (k : Int) < (σ39.1 218 22).toInt → σ39.1 230 k = 100 → (k : Int) < (σ44.1 218 22).toInt) ∧ ((σ44.1 218 22).toInt ≤ 0 ∨ (rkI (σ39.1 230 ((σ44.1 218 22) - 1).toNatClampNeg)).toInt < (3 : Int32).toInt)) ∧ (σ44.1 218 7 = σ39.1 218 7 ∧ σ44.1 218 9 = σ39.1 218 9 ∧ σ44.1 218 10 = σ39.1 218 10 ∧ σ44.1 218 11 = σ39.1 218 11 ∧ σ44.1 218 12 = σ39.1 218 12 ∧ σ44.1 218 13 = σ39.1 218 13 ∧ σ44.1 218 14 = σ39.1 218 14 ∧ σ44.1 218 15 = σ39.1 218 15 ∧ σ44.1 218 20 = σ39.1 218 20 ∧ σ44.1 218 25 = σ39.1 218 25) := hqv43
            have hkv43 := hqv43
            have hqv43 := hqv43.1
            have r230_σ44 : σ44.1 230 = σ0.1 230 := (hOσ44.2 230 (by decide)).trans r230_σ39
            have hK : TOK σ44.1 := by first | exact hqv43.1 | exact TOK_p eσ44 (by decide) hK
            have hB : ZB σ44.1 := by first | exact hqv43.2.1 | exact hqv43.2.2.2.1 | exact ZB_s eσ44 hB
            try simp only [g7_σ39, g9_σ39, g20_σ39, g22_σ39, g24_σ39, g25_σ39] at hqv43
            have g7_σ44 : σ44.1 218 7 = (σ0.1 218 7) := (hkv43.2.1).trans g7_σ39
            have g9_σ44 : σ44.1 218 9 = (σ0.1 218 9) := (hkv43.2.2.1).trans g9_σ39
            have g10_σ44 : σ44.1 218 10 = (σ39.1 218 10) := hkv43.2.2.2.1
            have g11_σ44 : σ44.1 218 11 = (σ39.1 218 11) := hkv43.2.2.2.2.1
            have g12_σ44 : σ44.1 218 12 = (σ39.1 218 12) := hkv43.2.2.2.2.2.1
            have g13_σ44 : σ44.1 218 13 = (σ39.1 218 13) := hkv43.2.2.2.2.2.2.1
            have g14_σ44 : σ44.1 218 14 = (σ39.1 218 14) := hkv43.2.2.2.2.2.2.2.1
            have g15_σ44 : σ44.1 218 15 = (σ39.1 218 15) := hkv43.2.2.2.2.2.2.2.2.1
            have g20_σ44 : σ44.1 218 20 = (σ0.1 218 20) := (hkv43.2.2.2.2.2.2.2.2.2.1).trans g20_σ39
            have g25_σ44 : σ44.1 218 25 = (σ0.1 218 25) := (hkv43.2.2.2.2.2.2.2.2.2.2).trans g25_σ39
            have h201 := hqv43.2.2.1
            have b201 := PIL_b hqv43.2.2.1 (by decide)
            exact ok_rZ (Or.inr rfl) ⟨hT, (show (TOK σ44.1 ∧ ((σ0.1 218 11).toInt ≤ (σ44.1 218 11).toInt ∧ 0 ≤ (σ44.1 218 22).toInt ∧ (σ44.1 218 22).toInt ≤ 40) ∧ (σ44.1 218 14 = 0 → (σ0.1 218 11).toInt < (σ44.1 218 11).toInt ∧ (¬ (1 : Int32) = 0 → PIL σ44.1 1) ∧ ((1 : Int32) = 0 → PIL σ44.1 0)) ∧ ZB σ44.1) ∧ (σ44.1 218 7 = σ0.1 218 7 ∧ σ44.1 218 9 = σ0.1 218 9 ∧ σ44.1 218 20 = σ0.1 218 20 ∧ σ44.1 218 25 = σ0.1 218 25) from ⟨by first | exact ⟨hK, ⟨m34.1, m34.2.1⟩, fun q => ⟨(m34.2.2 q).2.1, fun h => absurd rfl h, fun _ => (m34.2.2 q).2.2⟩, hB⟩ | exact ⟨hK, ⟨by (try simp only [g7_σ44, g9_σ44, g10_σ44, g11_σ44, g12_σ44, g13_σ44, g14_σ44, g15_σ44, g20_σ44, g25_σ44]); omega, by (try simp only [g7_σ44, g9_σ44, g10_σ44, g11_σ44, g12_σ44, g13_σ44, g14_σ44, g15_σ44, g20_σ44, g25_σ44]); omega⟩, fun q => absurd q (by (try simp only [g7_σ44, g9_σ44, g10_σ44, g11_σ44, g12_σ44, g13_σ44, g14_σ44, g15_σ44, g20_σ44, g25_σ44]); exact n196), hB⟩ | exact ⟨hK, ⟨by (try simp only [g7_σ44, g9_σ44, g10_σ44, g11_σ44, g12_σ44, g13_σ44, g14_σ44, g15_σ44, g20_σ44, g25_σ44]); omega, by omega⟩, fun _ => ⟨by (try simp only [g7_σ44, g9_σ44, g10_σ44, g11_σ44, g12_σ44, g13_σ44, g14_σ44, g15_σ44, g20_σ44, g25_σ44]); exact (u51 y196).1.2, fun _ => h201, fun h => absurd h (by decide)⟩, hB⟩ | exact ⟨hK, ⟨by (try simp only [g7_σ44, g9_σ44, g10_σ44, g11_σ44, g12_σ44, g13_σ44, g14_σ44, g15_σ44, g20_σ44, g25_σ44]); omega, by omega⟩, fun _ => ⟨by (try simp only [g7_σ44, g9_σ44, g10_σ44, g11_σ44, g12_σ44, g13_σ44, g14_σ44, g15_σ44, g20_σ44, g25_σ44]); exact (u127 y196).2, fun _ => h201, fun h => absurd h (by decide)⟩, hB⟩ | exact ⟨hK, ⟨by (try simp only [g7_σ44, g9_σ44, g10_σ44, g11_σ44, g12_σ44, g13_σ44, g14_σ44, g15_σ44, g20_σ44, g25_σ44]); omega, by omega⟩, fun _ => ⟨by (try simp only [g7_σ44, g9_σ44, g10_σ44, g11_σ44, g12_σ44, g13_σ44, g14_σ44, g15_σ44, g20_σ44, g25_σ44]); exact k137, fun _ => h201, fun h => absurd h (by decide)⟩, hB⟩ | exact absurd y196 n189, g7_σ44, g9_σ44, g20_σ44, g25_σ44⟩)⟩
        · refine ok_gC rfl ?_
          refine ok_zbT (Q := fun V σ => (TOK σ.1 ∧ (σ0.1 218 11).toInt ≤ (σ.1 218 11).toInt ∧ (V = 0 → σ = σ0 ∧ f_X12_is N 218 15 σ0 = some (0, σ0)) ∧ (¬ V = 0 → ((σ0.1 218 14 = 0 ∧ σ0.1 218 12 = 1) ∧ f_X12_is N 218 15 σ0 = some (1, σ0)) ∧ (σ0.1 218 11).toInt < (σ.1 218 11).toInt)) ∧ (σ.1 218 7 = σ0.1 218 7 ∧ σ.1 218 9 = σ0.1 218 9 ∧ σ.1 218 14 = σ0.1 218 14 ∧ σ.1 218 15 = σ0.1 218 15 ∧ σ.1 218 20 = σ0.1 218 20 ∧ σ.1 218 22 = σ0.1 218 22 ∧ σ.1 218 23 = σ0.1 218 23 ∧ σ.1 218 24 = σ0.1 218 24 ∧ σ.1 218 25 = σ0.1 218 25)) hT (s_X12_takes hN (hR.tr hT) (hK) (by rw [hT.2 224 (by decide)]; exact hY) (by decide)) (by decide) (fun v45 σ46 hOσ46 hT hqv45 => ?_)
          have hqv45 : (TOK σ46.1 ∧ (σ0.1 218 11).toInt ≤ (σ46.1 218 11).toInt ∧ (v45 = 0 → σ46 = σ0 ∧ f_X12_is N 218 15 σ0 = some (0, σ0)) ∧ (¬ v45 = 0 → ((σ0.1 218 14 = 0 ∧ σ0.1 218 12 = 1) ∧ f_X12_is N 218 15 σ0 = some (1, σ0)) ∧ (σ0.1 218 11).toInt < (σ46.1 218 11).toInt)) ∧ (σ46.1 218 7 = σ0.1 218 7 ∧ σ46.1 218 9 = σ0.1 218 9 ∧ σ46.1 218 14 = σ0.1 218 14 ∧ σ46.1 218 15 = σ0.1 218 15 ∧ σ46.1 218 20 = σ0.1 218 20 ∧ σ46.1 218 22 = σ0.1 218 22 ∧ σ46.1 218 23 = σ0.1 218 23 ∧ σ46.1 218 24 = σ0.1 218 24 ∧ σ46.1 218 25 = σ0.1 218 25) := hqv45
          have hkv45 := hqv45
          have hqv45 := hqv45.1
          have r230_σ46 : σ46.1 230 = σ0.1 230 := hOσ46.2 230 (by decide)
          have hK : TOK σ46.1 := by first | exact hqv45.1 | exact TOK_p eσ46 (by decide) hK
          have hB : ZB σ46.1 := ZB.tr hOσ46 (by decide) hB
          have g7_σ46 : σ46.1 218 7 = (σ0.1 218 7) := hkv45.2.1
          have g9_σ46 : σ46.1 218 9 = (σ0.1 218 9) := hkv45.2.2.1
          have g14_σ46 : σ46.1 218 14 = (σ0.1 218 14) := hkv45.2.2.2.1
          have g15_σ46 : σ46.1 218 15 = (σ0.1 218 15) := hkv45.2.2.2.2.1
          have g20_σ46 : σ46.1 218 20 = (σ0.1 218 20) := hkv45.2.2.2.2.2.1
          have g22_σ46 : σ46.1 218 22 = (σ0.1 218 22) := hkv45.2.2.2.2.2.2.1
          have g23_σ46 : σ46.1 218 23 = (σ0.1 218 23) := hkv45.2.2.2.2.2.2.2.1
          have g24_σ46 : σ46.1 218 24 = (σ0.1 218 24) := hkv45.2.2.2.2.2.2.2.2.1
          have g25_σ46 : σ46.1 218 25 = (σ0.1 218 25) := hkv45.2.2.2.2.2.2.2.2.2
          have m137 := hqv45.2.1
          have t137 := hqv45.2.2.2
          refine ok_if (fun hc47 => ?_) (fun hc47 => ?_)
          · refine ok_gC rfl ?_
            refine ok_zbT (Q := fun V σ => (TOK σ.1 ∧ ¬ σ.1 218 14 = 0) ∧ (σ.1 218 7 = σ46.1 218 7 ∧ σ.1 218 9 = σ46.1 218 9 ∧ σ.1 218 10 = σ46.1 218 10 ∧ σ.1 218 11 = σ46.1 218 11 ∧ σ.1 218 12 = σ46.1 218 12 ∧ σ.1 218 13 = σ46.1 218 13 ∧ σ.1 218 20 = σ46.1 218 20 ∧ σ.1 218 22 = σ46.1 218 22 ∧ σ.1 218 23 = σ46.1 218 23 ∧ σ.1 218 24 = σ46.1 218 24 ∧ σ.1 218 25 = σ46.1 218 25)) hT (s_X12_errs hN (hR.tr hT) (hK) (by rw [hT.2 224 (by decide)]; exact hY) (by decide)) (by decide) (fun v48 σ49 hOσ49 hT hqv48 => ?_)
            have hqv48 : (TOK σ49.1 ∧ ¬ σ49.1 218 14 = 0) ∧ (σ49.1 218 7 = σ46.1 218 7 ∧ σ49.1 218 9 = σ46.1 218 9 ∧ σ49.1 218 10 = σ46.1 218 10 ∧ σ49.1 218 11 = σ46.1 218 11 ∧ σ49.1 218 12 = σ46.1 218 12 ∧ σ49.1 218 13 = σ46.1 218 13 ∧ σ49.1 218 20 = σ46.1 218 20 ∧ σ49.1 218 22 = σ46.1 218 22 ∧ σ49.1 218 23 = σ46.1 218 23 ∧ σ49.1 218 24 = σ46.1 218 24 ∧ σ49.1 218 25 = σ46.1 218 25) := hqv48
            have hkv48 := hqv48
            have hqv48 := hqv48.1
            have r230_σ49 : σ49.1 230 = σ0.1 230 := (hOσ49.2 230 (by decide)).trans r230_σ46
            have hK : TOK σ49.1 := by first | exact hqv48.1 | exact TOK_p eσ49 (by decide) hK
            have hB : ZB σ49.1 := ZB.tr hOσ49 (by decide) hB
            try simp only [g7_σ46, g9_σ46, g14_σ46, g15_σ46, g20_σ46, g22_σ46, g23_σ46, g24_σ46, g25_σ46] at hqv48
            have g7_σ49 : σ49.1 218 7 = (σ0.1 218 7) := (hkv48.2.1).trans g7_σ46
            have g9_σ49 : σ49.1 218 9 = (σ0.1 218 9) := (hkv48.2.2.1).trans g9_σ46
            have g10_σ49 : σ49.1 218 10 = (σ46.1 218 10) := hkv48.2.2.2.1
            have g11_σ49 : σ49.1 218 11 = (σ46.1 218 11) := hkv48.2.2.2.2.1
            have g12_σ49 : σ49.1 218 12 = (σ46.1 218 12) := hkv48.2.2.2.2.2.1
            have g13_σ49 : σ49.1 218 13 = (σ46.1 218 13) := hkv48.2.2.2.2.2.2.1
            have g20_σ49 : σ49.1 218 20 = (σ0.1 218 20) := (hkv48.2.2.2.2.2.2.2.1).trans g20_σ46
            have g22_σ49 : σ49.1 218 22 = (σ0.1 218 22) := (hkv48.2.2.2.2.2.2.2.2.1).trans g22_σ46
            have g23_σ49 : σ49.1 218 23 = (σ0.1 218 23) := (hkv48.2.2.2.2.2.2.2.2.2.1).trans g23_σ46
            have g24_σ49 : σ49.1 218 24 = (σ0.1 218 24) := (hkv48.2.2.2.2.2.2.2.2.2.2.1).trans g24_σ46
            have g25_σ49 : σ49.1 218 25 = (σ0.1 218 25) := (hkv48.2.2.2.2.2.2.2.2.2.2.2).trans g25_σ46
            have n189 := hqv48.2
            rw [J_X12_readsPart_192.eq_1]
            refine ok_gC rfl ?_
            refine ok_zbX (Q := fun V => (V = 0 → ¬ σ49.1 218 14 = 0) ∧ (¬ V = 0 → σ49.1 218 14 = 0)) (x_X12_good) (fun v50 hqv50 => ?_)
            have hqv50 : (v50 = 0 → ¬ σ49.1 218 14 = 0) ∧ (¬ v50 = 0 → σ49.1 218 14 = 0) := hqv50
            try simp only [g7_σ49, g9_σ49, g10_σ49, g11_σ49, g12_σ49, g13_σ49, g20_σ49, g22_σ49, g23_σ49, g24_σ49, g25_σ49, hT.2 224 (by decide)] at hqv50
            refine ok_if (fun hc52 => ?_) (fun hc52 => ?_)
            · have qhc52 := hqv50.1 hc52
              have n196 := qhc52
              exact ok_rZ (Or.inr rfl) ⟨hT, (show (TOK σ49.1 ∧ ((σ0.1 218 11).toInt ≤ (σ49.1 218 11).toInt ∧ 0 ≤ (σ49.1 218 22).toInt ∧ (σ49.1 218 22).toInt ≤ 40) ∧ (σ49.1 218 14 = 0 → (σ0.1 218 11).toInt < (σ49.1 218 11).toInt ∧ (¬ (1 : Int32) = 0 → PIL σ49.1 1) ∧ ((1 : Int32) = 0 → PIL σ49.1 0)) ∧ ZB σ49.1) ∧ (σ49.1 218 7 = σ0.1 218 7 ∧ σ49.1 218 9 = σ0.1 218 9 ∧ σ49.1 218 20 = σ0.1 218 20 ∧ σ49.1 218 25 = σ0.1 218 25) from ⟨by first | exact ⟨hK, ⟨m34.1, m34.2.1⟩, fun q => ⟨(m34.2.2 q).2.1, fun h => absurd rfl h, fun _ => (m34.2.2 q).2.2⟩, hB⟩ | exact ⟨hK, ⟨by (try simp only [g7_σ49, g9_σ49, g10_σ49, g11_σ49, g12_σ49, g13_σ49, g20_σ49, g22_σ49, g23_σ49, g24_σ49, g25_σ49]); omega, by (try simp only [g7_σ49, g9_σ49, g10_σ49, g11_σ49, g12_σ49, g13_σ49, g20_σ49, g22_σ49, g23_σ49, g24_σ49, g25_σ49]); omega⟩, fun q => absurd q (by (try simp only [g7_σ49, g9_σ49, g10_σ49, g11_σ49, g12_σ49, g13_σ49, g20_σ49, g22_σ49, g23_σ49, g24_σ49, g25_σ49]); exact n196), hB⟩ | exact ⟨hK, ⟨by (try simp only [g7_σ49, g9_σ49, g10_σ49, g11_σ49, g12_σ49, g13_σ49, g20_σ49, g22_σ49, g23_σ49, g24_σ49, g25_σ49]); omega, by omega⟩, fun _ => ⟨by (try simp only [g7_σ49, g9_σ49, g10_σ49, g11_σ49, g12_σ49, g13_σ49, g20_σ49, g22_σ49, g23_σ49, g24_σ49, g25_σ49]); exact (u51 y196).1.2, fun _ => h201, fun h => absurd h (by decide)⟩, hB⟩ | exact ⟨hK, ⟨by (try simp only [g7_σ49, g9_σ49, g10_σ49, g11_σ49, g12_σ49, g13_σ49, g20_σ49, g22_σ49, g23_σ49, g24_σ49, g25_σ49]); omega, by omega⟩, fun _ => ⟨by (try simp only [g7_σ49, g9_σ49, g10_σ49, g11_σ49, g12_σ49, g13_σ49, g20_σ49, g22_σ49, g23_σ49, g24_σ49, g25_σ49]); exact (u127 y196).2, fun _ => h201, fun h => absurd h (by decide)⟩, hB⟩ | exact ⟨hK, ⟨by (try simp only [g7_σ49, g9_σ49, g10_σ49, g11_σ49, g12_σ49, g13_σ49, g20_σ49, g22_σ49, g23_σ49, g24_σ49, g25_σ49]); omega, by omega⟩, fun _ => ⟨by (try simp only [g7_σ49, g9_σ49, g10_σ49, g11_σ49, g12_σ49, g13_σ49, g20_σ49, g22_σ49, g23_σ49, g24_σ49, g25_σ49]); exact k137, fun _ => h201, fun h => absurd h (by decide)⟩, hB⟩ | exact absurd y196 n189, g7_σ49, g9_σ49, g20_σ49, g25_σ49⟩)⟩
            · have qhc52 := hqv50.2 hc52
              have y196 := qhc52
              refine ok_gC rfl ?_
              refine ok_zbT (Q := fun V σ => (TOK σ.1 ∧ ZB σ.1 ∧ PIL σ.1 1 ∧ (∀ k : Nat, (k : Int) < (σ49.1 218 22).toInt → σ49.1 230 k = 100 → (k : Int) < (σ.1 218 22).toInt) ∧ ((σ.1 218 22).toInt ≤ 0 ∨ (rkI (σ49.1 230 ((σ.1 218 22) - 1).toNatClampNeg)).toInt < (3 : Int32).toInt)) ∧ (σ.1 218 7 = σ49.1 218 7 ∧ σ.1 218 9 = σ49.1 218 9 ∧ σ.1 218 10 = σ49.1 218 10 ∧ σ.1 218 11 = σ49.1 218 11 ∧ σ.1 218 12 = σ49.1 218 12 ∧ σ.1 218 13 = σ49.1 218 13 ∧ σ.1 218 14 = σ49.1 218 14 ∧ σ.1 218 15 = σ49.1 218 15 ∧ σ.1 218 20 = σ49.1 218 20 ∧ σ.1 218 25 = σ49.1 218 25)) hT (s_X12_settlesTo hN (hR.tr hT) (hK) (by rw [hT.2 224 (by decide)]; exact hY) (hB) (by (try simp only [g7_σ49, g9_σ49, g10_σ49, g11_σ49, g12_σ49, g13_σ49, g20_σ49, g22_σ49, g23_σ49, g24_σ49, g25_σ49]); exact ha) (by first | exact PIL_i g22_σ49 g23_σ49 g24_σ49 r230_σ49 hS h22 hd hd6 s57 | exact absurd y196 n189) (by decide)) (by decide) (fun v53 σ54 hOσ54 hT hqv53 => ?_)
              have hqv53 : (TOK σ54.1 ∧ ZB σ54.1 ∧ PIL σ54.1 1 ∧ (∀ k : Nat, (k : Int) < (σ49.1 218 22).toInt → σ49.1 230 k = 100 → (k : Int) < (σ54.1 218 22).toInt) ∧ ((σ54.1 218 22).toInt ≤ 0 ∨ (rkI (σ49.1 230 ((σ54.1 218 22) - 1).toNatClampNeg)).toInt < (3 : Int32).toInt)) ∧ (σ54.1 218 7 = σ49.1 218 7 ∧ σ54.1 218 9 = σ49.1 218 9 ∧ σ54.1 218 10 = σ49.1 218 10 ∧ σ54.1 218 11 = σ49.1 218 11 ∧ σ54.1 218 12 = σ49.1 218 12 ∧ σ54.1 218 13 = σ49.1 218 13 ∧ σ54.1 218 14 = σ49.1 218 14 ∧ σ54.1 218 15 = σ49.1 218 15 ∧ σ54.1 218 20 = σ49.1 218 20 ∧ σ54.1 218 25 = σ49.1 218 25) := hqv53
              have hkv53 := hqv53
              have hqv53 := hqv53.1
              have r230_σ54 : σ54.1 230 = σ0.1 230 := (hOσ54.2 230 (by decide)).trans r230_σ49
              have hK : TOK σ54.1 := by first | exact hqv53.1 | exact TOK_p eσ54 (by decide) hK
              have hB : ZB σ54.1 := by first | exact hqv53.2.1 | exact hqv53.2.2.2.1 | exact ZB_s eσ54 hB
              try simp only [g7_σ49, g9_σ49, g10_σ49, g11_σ49, g12_σ49, g13_σ49, g20_σ49, g22_σ49, g23_σ49, g24_σ49, g25_σ49] at hqv53
              have g7_σ54 : σ54.1 218 7 = (σ0.1 218 7) := (hkv53.2.1).trans g7_σ49
              have g9_σ54 : σ54.1 218 9 = (σ0.1 218 9) := (hkv53.2.2.1).trans g9_σ49
              have g10_σ54 : σ54.1 218 10 = (σ46.1 218 10) := (hkv53.2.2.2.1).trans g10_σ49
              have g11_σ54 : σ54.1 218 11 = (σ46.1 218 11) := (hkv53.2.2.2.2.1).trans g11_σ49
              have g12_σ54 : σ54.1 218 12 = (σ46.1 218 12) := (hkv53.2.2.2.2.2.1).trans g12_σ49
              have g13_σ54 : σ54.1 218 13 = (σ46.1 218 13) := (hkv53.2.2.2.2.2.2.1).trans g13_σ49
              have g14_σ54 : σ54.1 218 14 = (σ49.1 218 14) := hkv53.2.2.2.2.2.2.2.1
              have g15_σ54 : σ54.1 218 15 = (σ49.1 218 15) := hkv53.2.2.2.2.2.2.2.2.1
              have g20_σ54 : σ54.1 218 20 = (σ0.1 218 20) := (hkv53.2.2.2.2.2.2.2.2.2.1).trans g20_σ49
              have g25_σ54 : σ54.1 218 25 = (σ0.1 218 25) := (hkv53.2.2.2.2.2.2.2.2.2.2).trans g25_σ49
              have h201 := hqv53.2.2.1
              have b201 := PIL_b hqv53.2.2.1 (by decide)
              exact ok_rZ (Or.inr rfl) ⟨hT, (show (TOK σ54.1 ∧ ((σ0.1 218 11).toInt ≤ (σ54.1 218 11).toInt ∧ 0 ≤ (σ54.1 218 22).toInt ∧ (σ54.1 218 22).toInt ≤ 40) ∧ (σ54.1 218 14 = 0 → (σ0.1 218 11).toInt < (σ54.1 218 11).toInt ∧ (¬ (1 : Int32) = 0 → PIL σ54.1 1) ∧ ((1 : Int32) = 0 → PIL σ54.1 0)) ∧ ZB σ54.1) ∧ (σ54.1 218 7 = σ0.1 218 7 ∧ σ54.1 218 9 = σ0.1 218 9 ∧ σ54.1 218 20 = σ0.1 218 20 ∧ σ54.1 218 25 = σ0.1 218 25) from ⟨by first | exact ⟨hK, ⟨m34.1, m34.2.1⟩, fun q => ⟨(m34.2.2 q).2.1, fun h => absurd rfl h, fun _ => (m34.2.2 q).2.2⟩, hB⟩ | exact ⟨hK, ⟨by (try simp only [g7_σ54, g9_σ54, g10_σ54, g11_σ54, g12_σ54, g13_σ54, g14_σ54, g15_σ54, g20_σ54, g25_σ54]); omega, by (try simp only [g7_σ54, g9_σ54, g10_σ54, g11_σ54, g12_σ54, g13_σ54, g14_σ54, g15_σ54, g20_σ54, g25_σ54]); omega⟩, fun q => absurd q (by (try simp only [g7_σ54, g9_σ54, g10_σ54, g11_σ54, g12_σ54, g13_σ54, g14_σ54, g15_σ54, g20_σ54, g25_σ54]); exact n196), hB⟩ | exact ⟨hK, ⟨by (try simp only [g7_σ54, g9_σ54, g10_σ54, g11_σ54, g12_σ54, g13_σ54, g14_σ54, g15_σ54, g20_σ54, g25_σ54]); omega, by omega⟩, fun _ => ⟨by (try simp only [g7_σ54, g9_σ54, g10_σ54, g11_σ54, g12_σ54, g13_σ54, g14_σ54, g15_σ54, g20_σ54, g25_σ54]); exact (u51 y196).1.2, fun _ => h201, fun h => absurd h (by decide)⟩, hB⟩ | exact ⟨hK, ⟨by (try simp only [g7_σ54, g9_σ54, g10_σ54, g11_σ54, g12_σ54, g13_σ54, g14_σ54, g15_σ54, g20_σ54, g25_σ54]); omega, by omega⟩, fun _ => ⟨by (try simp only [g7_σ54, g9_σ54, g10_σ54, g11_σ54, g12_σ54, g13_σ54, g14_σ54, g15_σ54, g20_σ54, g25_σ54]); exact (u127 y196).2, fun _ => h201, fun h => absurd h (by decide)⟩, hB⟩ | exact ⟨hK, ⟨by (try simp only [g7_σ54, g9_σ54, g10_σ54, g11_σ54, g12_σ54, g13_σ54, g14_σ54, g15_σ54, g20_σ54, g25_σ54]); omega, by omega⟩, fun _ => ⟨by (try simp only [g7_σ54, g9_σ54, g10_σ54, g11_σ54, g12_σ54, g13_σ54, g14_σ54, g15_σ54, g20_σ54, g25_σ54]); exact k137, fun _ => h201, fun h => absurd h (by decide)⟩, hB⟩ | exact absurd y196 n189, g7_σ54, g9_σ54, g20_σ54, g25_σ54⟩)⟩
          · have k137 := (t137 hc47).2
            refine ok_gC rfl ?_
            refine ok_zbT (Q := fun V σ => (TOK σ.1 ∧ ZB σ.1 ∧ σ.1 218 23 = σ46.1 218 23 + 1) ∧ (σ.1 218 7 = σ46.1 218 7 ∧ σ.1 218 9 = σ46.1 218 9 ∧ σ.1 218 10 = σ46.1 218 10 ∧ σ.1 218 11 = σ46.1 218 11 ∧ σ.1 218 12 = σ46.1 218 12 ∧ σ.1 218 13 = σ46.1 218 13 ∧ σ.1 218 14 = σ46.1 218 14 ∧ σ.1 218 15 = σ46.1 218 15 ∧ σ.1 218 20 = σ46.1 218 20 ∧ σ.1 218 22 = σ46.1 218 22 ∧ σ.1 218 24 = σ46.1 218 24 ∧ σ.1 218 25 = σ46.1 218 25)) hT (s_X12_pushesEmpty hN (hR.tr hT) (hK) (by rw [hT.2 224 (by decide)]; exact hY) (hB) (by (try simp only [g7_σ46, g9_σ46, g14_σ46, g15_σ46, g20_σ46, g22_σ46, g23_σ46, g24_σ46, g25_σ46]); omega)) (by decide) (fun v55 σ56 hOσ56 hT hqv55 => ?_)
            have hqv55 : (TOK σ56.1 ∧ ZB σ56.1 ∧ σ56.1 218 23 = σ46.1 218 23 + 1) ∧ (σ56.1 218 7 = σ46.1 218 7 ∧ σ56.1 218 9 = σ46.1 218 9 ∧ σ56.1 218 10 = σ46.1 218 10 ∧ σ56.1 218 11 = σ46.1 218 11 ∧ σ56.1 218 12 = σ46.1 218 12 ∧ σ56.1 218 13 = σ46.1 218 13 ∧ σ56.1 218 14 = σ46.1 218 14 ∧ σ56.1 218 15 = σ46.1 218 15 ∧ σ56.1 218 20 = σ46.1 218 20 ∧ σ56.1 218 22 = σ46.1 218 22 ∧ σ56.1 218 24 = σ46.1 218 24 ∧ σ56.1 218 25 = σ46.1 218 25) := hqv55
            have hkv55 := hqv55
            have hqv55 := hqv55.1
            have r230_σ56 : σ56.1 230 = σ0.1 230 := (hOσ56.2 230 (by decide)).trans r230_σ46
            have hK : TOK σ56.1 := by first | exact hqv55.1 | exact TOK_p eσ56 (by decide) hK
            have hB : ZB σ56.1 := by first | exact hqv55.2.1 | exact hqv55.2.2.2.1 | exact ZB_s eσ56 hB
            try simp only [g7_σ46, g9_σ46, g14_σ46, g15_σ46, g20_σ46, g22_σ46, g23_σ46, g24_σ46, g25_σ46] at hqv55
            have g7_σ56 : σ56.1 218 7 = (σ0.1 218 7) := (hkv55.2.1).trans g7_σ46
            have g9_σ56 : σ56.1 218 9 = (σ0.1 218 9) := (hkv55.2.2.1).trans g9_σ46
            have g10_σ56 : σ56.1 218 10 = (σ46.1 218 10) := hkv55.2.2.2.1
            have g11_σ56 : σ56.1 218 11 = (σ46.1 218 11) := hkv55.2.2.2.2.1
            have g12_σ56 : σ56.1 218 12 = (σ46.1 218 12) := hkv55.2.2.2.2.2.1
            have g13_σ56 : σ56.1 218 13 = (σ46.1 218 13) := hkv55.2.2.2.2.2.2.1
            have g14_σ56 : σ56.1 218 14 = (σ0.1 218 14) := (hkv55.2.2.2.2.2.2.2.1).trans g14_σ46
            have g15_σ56 : σ56.1 218 15 = (σ0.1 218 15) := (hkv55.2.2.2.2.2.2.2.2.1).trans g15_σ46
            have g20_σ56 : σ56.1 218 20 = (σ0.1 218 20) := (hkv55.2.2.2.2.2.2.2.2.2.1).trans g20_σ46
            have g22_σ56 : σ56.1 218 22 = (σ0.1 218 22) := (hkv55.2.2.2.2.2.2.2.2.2.2.1).trans g22_σ46
            have g24_σ56 : σ56.1 218 24 = (σ0.1 218 24) := (hkv55.2.2.2.2.2.2.2.2.2.2.2.1).trans g24_σ46
            have g25_σ56 : σ56.1 218 25 = (σ0.1 218 25) := (hkv55.2.2.2.2.2.2.2.2.2.2.2.2).trans g25_σ46
            have g57 := hqv55.2.2
            have s57 : (σ56.1 218 23).toInt = ((b8 + 1 : Nat) : Int) := by rw [g57, ti_add]; simp only [Int32.reduceToInt]; omega
            have p57 : ((σ56.1 218 23) - 1).toInt = (b8 : Int) := by rw [ti_sub, s57]; simp only [Int32.reduceToInt]; omega
            have m57 := p1024 p57 (by omega) (by omega)
            refine ok_lp (fun t : Int32 × zS => Tr [218, 226, 227, 228, 229, 230] σ0 (t.2) ∧ (0 ≤ (t.1).toInt) ∧ (TOK (t.2).1) ∧ (ZB (t.2).1) ∧ ((t.2).1 218 7 = (σ0.1 218 7)) ∧ ((t.2).1 218 9 = (σ0.1 218 9)) ∧ ((t.2).1 218 10 = (σ46.1 218 10)) ∧ ((t.2).1 218 11 = (σ46.1 218 11)) ∧ ((t.2).1 218 12 = (σ46.1 218 12)) ∧ ((t.2).1 218 13 = (σ46.1 218 13)) ∧ ((t.2).1 218 14 = (σ0.1 218 14)) ∧ ((t.2).1 218 15 = (σ0.1 218 15)) ∧ ((t.2).1 218 20 = (σ0.1 218 20)) ∧ ((t.2).1 218 22 = (σ0.1 218 22)) ∧ ((t.2).1 218 23 = (σ56.1 218 23)) ∧ ((t.2).1 218 24 = (σ0.1 218 24)) ∧ ((t.2).1 218 25 = (σ0.1 218 25)) ∧ ((t.2).1 230 = σ0.1 230)) (fun t : Int32 × zS => (1024 - (t.1).toInt).toNat) (fun again57 t hI ih150_57 => ?_) N _ (show Tr [218, 226, 227, 228, 229, 230] σ0 σ56 ∧ (0 ≤ (0 : Int32).toInt) ∧ (TOK σ56.1) ∧ (ZB σ56.1) ∧ (σ56.1 218 7 = (σ0.1 218 7)) ∧ (σ56.1 218 9 = (σ0.1 218 9)) ∧ (σ56.1 218 10 = (σ46.1 218 10)) ∧ (σ56.1 218 11 = (σ46.1 218 11)) ∧ (σ56.1 218 12 = (σ46.1 218 12)) ∧ (σ56.1 218 13 = (σ46.1 218 13)) ∧ (σ56.1 218 14 = (σ0.1 218 14)) ∧ (σ56.1 218 15 = (σ0.1 218 15)) ∧ (σ56.1 218 20 = (σ0.1 218 20)) ∧ (σ56.1 218 22 = (σ0.1 218 22)) ∧ (σ56.1 218 23 = (σ56.1 218 23)) ∧ (σ56.1 218 24 = (σ0.1 218 24)) ∧ (σ56.1 218 25 = (σ0.1 218 25)) ∧ (σ56.1 230 = σ0.1 230) from ⟨hT, (by decide), hK, hB, g7_σ56, g9_σ56, g10_σ56, g11_σ56, g12_σ56, g13_σ56, g14_σ56, g15_σ56, g20_σ56, g22_σ56, rfl, g24_σ56, g25_σ56, r230_σ56⟩) (show (1024 - (0 : Int32).toInt).toNat < N from (by simp only [Int32.reduceToInt]; omega))
            obtain ⟨x4_57, σ57⟩ := t
            have hI : Tr [218, 226, 227, 228, 229, 230] σ0 σ57 ∧ (0 ≤ x4_57.toInt) ∧ (TOK σ57.1) ∧ (ZB σ57.1) ∧ (σ57.1 218 7 = (σ0.1 218 7)) ∧ (σ57.1 218 9 = (σ0.1 218 9)) ∧ (σ57.1 218 10 = (σ46.1 218 10)) ∧ (σ57.1 218 11 = (σ46.1 218 11)) ∧ (σ57.1 218 12 = (σ46.1 218 12)) ∧ (σ57.1 218 13 = (σ46.1 218 13)) ∧ (σ57.1 218 14 = (σ0.1 218 14)) ∧ (σ57.1 218 15 = (σ0.1 218 15)) ∧ (σ57.1 218 20 = (σ0.1 218 20)) ∧ (σ57.1 218 22 = (σ0.1 218 22)) ∧ (σ57.1 218 23 = (σ56.1 218 23)) ∧ (σ57.1 218 24 = (σ0.1 218 24)) ∧ (σ57.1 218 25 = (σ0.1 218 25)) ∧ (σ57.1 230 = σ0.1 230) := hI
            obtain ⟨hT, hI57, hK, hB, g7_σ57, g9_σ57, g10_σ57, g11_σ57, g12_σ57, g13_σ57, g14_σ57, g15_σ57, g20_σ57, g22_σ57, g23_σ57, g24_σ57, g25_σ57, r230_σ57⟩ := hI
            rw [F_X12_readsPart_150.eq_1]
            refine ok_gIv rfl g20_σ57 ?_
            refine ok_if (fun hc59 => ?_) (fun hc59 => ?_)
            · rw [J_X12_readsPart_192.eq_1]
              refine ok_gC rfl ?_
              refine ok_zbX (Q := fun V => (V = 0 → ¬ σ57.1 218 14 = 0) ∧ (¬ V = 0 → σ57.1 218 14 = 0)) (x_X12_good) (fun v60 hqv60 => ?_)
              have hqv60 : (v60 = 0 → ¬ σ57.1 218 14 = 0) ∧ (¬ v60 = 0 → σ57.1 218 14 = 0) := hqv60
              try simp only [g7_σ57, g9_σ57, g10_σ57, g11_σ57, g12_σ57, g13_σ57, g14_σ57, g15_σ57, g20_σ57, g22_σ57, g23_σ57, g24_σ57, g25_σ57, hT.2 224 (by decide)] at hqv60
              refine ok_if (fun hc62 => ?_) (fun hc62 => ?_)
              · have qhc62 := hqv60.1 hc62
                have n196 := qhc62
                exact ok_rZ (Or.inr rfl) ⟨hT, (show (TOK σ57.1 ∧ ((σ0.1 218 11).toInt ≤ (σ57.1 218 11).toInt ∧ 0 ≤ (σ57.1 218 22).toInt ∧ (σ57.1 218 22).toInt ≤ 40) ∧ (σ57.1 218 14 = 0 → (σ0.1 218 11).toInt < (σ57.1 218 11).toInt ∧ (¬ (1 : Int32) = 0 → PIL σ57.1 1) ∧ ((1 : Int32) = 0 → PIL σ57.1 0)) ∧ ZB σ57.1) ∧ (σ57.1 218 7 = σ0.1 218 7 ∧ σ57.1 218 9 = σ0.1 218 9 ∧ σ57.1 218 20 = σ0.1 218 20 ∧ σ57.1 218 25 = σ0.1 218 25) from ⟨by first | exact ⟨hK, ⟨m34.1, m34.2.1⟩, fun q => ⟨(m34.2.2 q).2.1, fun h => absurd rfl h, fun _ => (m34.2.2 q).2.2⟩, hB⟩ | exact ⟨hK, ⟨by (try simp only [g7_σ57, g9_σ57, g10_σ57, g11_σ57, g12_σ57, g13_σ57, g14_σ57, g15_σ57, g20_σ57, g22_σ57, g23_σ57, g24_σ57, g25_σ57]); omega, by (try simp only [g7_σ57, g9_σ57, g10_σ57, g11_σ57, g12_σ57, g13_σ57, g14_σ57, g15_σ57, g20_σ57, g22_σ57, g23_σ57, g24_σ57, g25_σ57]); omega⟩, fun q => absurd q (by (try simp only [g7_σ57, g9_σ57, g10_σ57, g11_σ57, g12_σ57, g13_σ57, g14_σ57, g15_σ57, g20_σ57, g22_σ57, g23_σ57, g24_σ57, g25_σ57]); exact n196), hB⟩ | exact ⟨hK, ⟨by (try simp only [g7_σ57, g9_σ57, g10_σ57, g11_σ57, g12_σ57, g13_σ57, g14_σ57, g15_σ57, g20_σ57, g22_σ57, g23_σ57, g24_σ57, g25_σ57]); omega, by omega⟩, fun _ => ⟨by (try simp only [g7_σ57, g9_σ57, g10_σ57, g11_σ57, g12_σ57, g13_σ57, g14_σ57, g15_σ57, g20_σ57, g22_σ57, g23_σ57, g24_σ57, g25_σ57]); exact (u51 y196).1.2, fun _ => h201, fun h => absurd h (by decide)⟩, hB⟩ | exact ⟨hK, ⟨by (try simp only [g7_σ57, g9_σ57, g10_σ57, g11_σ57, g12_σ57, g13_σ57, g14_σ57, g15_σ57, g20_σ57, g22_σ57, g23_σ57, g24_σ57, g25_σ57]); omega, by omega⟩, fun _ => ⟨by (try simp only [g7_σ57, g9_σ57, g10_σ57, g11_σ57, g12_σ57, g13_σ57, g14_σ57, g15_σ57, g20_σ57, g22_σ57, g23_σ57, g24_σ57, g25_σ57]); exact (u127 y196).2, fun _ => h201, fun h => absurd h (by decide)⟩, hB⟩ | exact ⟨hK, ⟨by (try simp only [g7_σ57, g9_σ57, g10_σ57, g11_σ57, g12_σ57, g13_σ57, g14_σ57, g15_σ57, g20_σ57, g22_σ57, g23_σ57, g24_σ57, g25_σ57]); omega, by omega⟩, fun _ => ⟨by (try simp only [g7_σ57, g9_σ57, g10_σ57, g11_σ57, g12_σ57, g13_σ57, g14_σ57, g15_σ57, g20_σ57, g22_σ57, g23_σ57, g24_σ57, g25_σ57]); exact k137, fun _ => h201, fun h => absurd h (by decide)⟩, hB⟩ | exact absurd y196 n189, g7_σ57, g9_σ57, g20_σ57, g25_σ57⟩)⟩
              · have qhc62 := hqv60.2 hc62
                have y196 := qhc62
                refine ok_gC rfl ?_
                refine ok_zbT (Q := fun V σ => (TOK σ.1 ∧ ZB σ.1 ∧ PIL σ.1 1 ∧ (∀ k : Nat, (k : Int) < (σ57.1 218 22).toInt → σ57.1 230 k = 100 → (k : Int) < (σ.1 218 22).toInt) ∧ ((σ.1 218 22).toInt ≤ 0 ∨ (rkI (σ57.1 230 ((σ.1 218 22) - 1).toNatClampNeg)).toInt < (3 : Int32).toInt)) ∧ (σ.1 218 7 = σ57.1 218 7 ∧ σ.1 218 9 = σ57.1 218 9 ∧ σ.1 218 10 = σ57.1 218 10 ∧ σ.1 218 11 = σ57.1 218 11 ∧ σ.1 218 12 = σ57.1 218 12 ∧ σ.1 218 13 = σ57.1 218 13 ∧ σ.1 218 14 = σ57.1 218 14 ∧ σ.1 218 15 = σ57.1 218 15 ∧ σ.1 218 20 = σ57.1 218 20 ∧ σ.1 218 25 = σ57.1 218 25)) hT (s_X12_settlesTo hN (hR.tr hT) (hK) (by rw [hT.2 224 (by decide)]; exact hY) (hB) (by (try simp only [g7_σ57, g9_σ57, g10_σ57, g11_σ57, g12_σ57, g13_σ57, g14_σ57, g15_σ57, g20_σ57, g22_σ57, g23_σ57, g24_σ57, g25_σ57]); exact ha) (by first | exact PIL_i g22_σ57 g23_σ57 g24_σ57 r230_σ57 hS h22 hd hd6 s57 | exact absurd y196 n189) (by decide)) (by decide) (fun v63 σ64 hOσ64 hT hqv63 => ?_)
                have hqv63 : (TOK σ64.1 ∧ ZB σ64.1 ∧ PIL σ64.1 1 ∧ (∀ k : Nat, (k : Int) < (σ57.1 218 22).toInt → σ57.1 230 k = 100 → (k : Int) < (σ64.1 218 22).toInt) ∧ ((σ64.1 218 22).toInt ≤ 0 ∨ (rkI (σ57.1 230 ((σ64.1 218 22) - 1).toNatClampNeg)).toInt < (3 : Int32).toInt)) ∧ (σ64.1 218 7 = σ57.1 218 7 ∧ σ64.1 218 9 = σ57.1 218 9 ∧ σ64.1 218 10 = σ57.1 218 10 ∧ σ64.1 218 11 = σ57.1 218 11 ∧ σ64.1 218 12 = σ57.1 218 12 ∧ σ64.1 218 13 = σ57.1 218 13 ∧ σ64.1 218 14 = σ57.1 218 14 ∧ σ64.1 218 15 = σ57.1 218 15 ∧ σ64.1 218 20 = σ57.1 218 20 ∧ σ64.1 218 25 = σ57.1 218 25) := hqv63
                have hkv63 := hqv63
                have hqv63 := hqv63.1
                have r230_σ64 : σ64.1 230 = σ0.1 230 := (hOσ64.2 230 (by decide)).trans r230_σ57
                have hK : TOK σ64.1 := by first | exact hqv63.1 | exact TOK_p eσ64 (by decide) hK
                have hB : ZB σ64.1 := by first | exact hqv63.2.1 | exact hqv63.2.2.2.1 | exact ZB_s eσ64 hB
                try simp only [g7_σ57, g9_σ57, g10_σ57, g11_σ57, g12_σ57, g13_σ57, g14_σ57, g15_σ57, g20_σ57, g22_σ57, g23_σ57, g24_σ57, g25_σ57] at hqv63
                have g7_σ64 : σ64.1 218 7 = (σ0.1 218 7) := (hkv63.2.1).trans g7_σ57
                have g9_σ64 : σ64.1 218 9 = (σ0.1 218 9) := (hkv63.2.2.1).trans g9_σ57
                have g10_σ64 : σ64.1 218 10 = (σ46.1 218 10) := (hkv63.2.2.2.1).trans g10_σ57
                have g11_σ64 : σ64.1 218 11 = (σ46.1 218 11) := (hkv63.2.2.2.2.1).trans g11_σ57
                have g12_σ64 : σ64.1 218 12 = (σ46.1 218 12) := (hkv63.2.2.2.2.2.1).trans g12_σ57
                have g13_σ64 : σ64.1 218 13 = (σ46.1 218 13) := (hkv63.2.2.2.2.2.2.1).trans g13_σ57
                have g14_σ64 : σ64.1 218 14 = (σ0.1 218 14) := (hkv63.2.2.2.2.2.2.2.1).trans g14_σ57
                have g15_σ64 : σ64.1 218 15 = (σ0.1 218 15) := (hkv63.2.2.2.2.2.2.2.2.1).trans g15_σ57
                have g20_σ64 : σ64.1 218 20 = (σ0.1 218 20) := (hkv63.2.2.2.2.2.2.2.2.2.1).trans g20_σ57
                have g25_σ64 : σ64.1 218 25 = (σ0.1 218 25) := (hkv63.2.2.2.2.2.2.2.2.2.2).trans g25_σ57
                have h201 := hqv63.2.2.1
                have b201 := PIL_b hqv63.2.2.1 (by decide)
                exact ok_rZ (Or.inr rfl) ⟨hT, (show (TOK σ64.1 ∧ ((σ0.1 218 11).toInt ≤ (σ64.1 218 11).toInt ∧ 0 ≤ (σ64.1 218 22).toInt ∧ (σ64.1 218 22).toInt ≤ 40) ∧ (σ64.1 218 14 = 0 → (σ0.1 218 11).toInt < (σ64.1 218 11).toInt ∧ (¬ (1 : Int32) = 0 → PIL σ64.1 1) ∧ ((1 : Int32) = 0 → PIL σ64.1 0)) ∧ ZB σ64.1) ∧ (σ64.1 218 7 = σ0.1 218 7 ∧ σ64.1 218 9 = σ0.1 218 9 ∧ σ64.1 218 20 = σ0.1 218 20 ∧ σ64.1 218 25 = σ0.1 218 25) from ⟨by first | exact ⟨hK, ⟨m34.1, m34.2.1⟩, fun q => ⟨(m34.2.2 q).2.1, fun h => absurd rfl h, fun _ => (m34.2.2 q).2.2⟩, hB⟩ | exact ⟨hK, ⟨by (try simp only [g7_σ64, g9_σ64, g10_σ64, g11_σ64, g12_σ64, g13_σ64, g14_σ64, g15_σ64, g20_σ64, g25_σ64]); omega, by (try simp only [g7_σ64, g9_σ64, g10_σ64, g11_σ64, g12_σ64, g13_σ64, g14_σ64, g15_σ64, g20_σ64, g25_σ64]); omega⟩, fun q => absurd q (by (try simp only [g7_σ64, g9_σ64, g10_σ64, g11_σ64, g12_σ64, g13_σ64, g14_σ64, g15_σ64, g20_σ64, g25_σ64]); exact n196), hB⟩ | exact ⟨hK, ⟨by (try simp only [g7_σ64, g9_σ64, g10_σ64, g11_σ64, g12_σ64, g13_σ64, g14_σ64, g15_σ64, g20_σ64, g25_σ64]); omega, by omega⟩, fun _ => ⟨by (try simp only [g7_σ64, g9_σ64, g10_σ64, g11_σ64, g12_σ64, g13_σ64, g14_σ64, g15_σ64, g20_σ64, g25_σ64]); exact (u51 y196).1.2, fun _ => h201, fun h => absurd h (by decide)⟩, hB⟩ | exact ⟨hK, ⟨by (try simp only [g7_σ64, g9_σ64, g10_σ64, g11_σ64, g12_σ64, g13_σ64, g14_σ64, g15_σ64, g20_σ64, g25_σ64]); omega, by omega⟩, fun _ => ⟨by (try simp only [g7_σ64, g9_σ64, g10_σ64, g11_σ64, g12_σ64, g13_σ64, g14_σ64, g15_σ64, g20_σ64, g25_σ64]); exact (u127 y196).2, fun _ => h201, fun h => absurd h (by decide)⟩, hB⟩ | exact ⟨hK, ⟨by (try simp only [g7_σ64, g9_σ64, g10_σ64, g11_σ64, g12_σ64, g13_σ64, g14_σ64, g15_σ64, g20_σ64, g25_σ64]); omega, by omega⟩, fun _ => ⟨by (try simp only [g7_σ64, g9_σ64, g10_σ64, g11_σ64, g12_σ64, g13_σ64, g14_σ64, g15_σ64, g20_σ64, g25_σ64]); exact k137, fun _ => h201, fun h => absurd h (by decide)⟩, hB⟩ | exact absurd y196 n189, g7_σ64, g9_σ64, g20_σ64, g25_σ64⟩)⟩
            · have l68 := hc59
              rw [Int32.le_iff_toInt_le] at l68
              try simp only [Int32.reduceToInt] at l68
              have s68 : (x4_57 + 1).toInt = x4_57.toInt + 1 := by rw [ti_add]; simp only [Int32.reduceToInt]; omega
              refine ok_gR (v := 226) hT rfl (hR 218 16 rfl) ?_
              refine ok_gIv rfl g23_σ57 ?_
              refine ok_s16 hT rfl (by decide) (by rw [ti_add, m57]; omega) (by rw [ti_add, m57]; omega) (fun σ67 eσ67 hOσ67 hT => ?_)
              have r230_σ67 : σ67.1 230 = σ0.1 230 := (hOσ67.2 230 (by decide)).trans r230_σ57
              have hK : TOK σ67.1 := TOK_tr hOσ67 (by decide) (by decide) hK
              have hB : ZB σ67.1 := by first | exact HQ.2.1 | exact HQ.2.2.2.1 | exact ZB_s eσ67 hB
              have g7_σ67 : σ67.1 218 7 = (σ0.1 218 7) := (congrFun (hOσ67.2 218 (by decide)) 7).trans g7_σ57
              have g9_σ67 : σ67.1 218 9 = (σ0.1 218 9) := (congrFun (hOσ67.2 218 (by decide)) 9).trans g9_σ57
              have g10_σ67 : σ67.1 218 10 = (σ46.1 218 10) := (congrFun (hOσ67.2 218 (by decide)) 10).trans g10_σ57
              have g11_σ67 : σ67.1 218 11 = (σ46.1 218 11) := (congrFun (hOσ67.2 218 (by decide)) 11).trans g11_σ57
              have g12_σ67 : σ67.1 218 12 = (σ46.1 218 12) := (congrFun (hOσ67.2 218 (by decide)) 12).trans g12_σ57
              have g13_σ67 : σ67.1 218 13 = (σ46.1 218 13) := (congrFun (hOσ67.2 218 (by decide)) 13).trans g13_σ57
              have g14_σ67 : σ67.1 218 14 = (σ0.1 218 14) := (congrFun (hOσ67.2 218 (by decide)) 14).trans g14_σ57
              have g15_σ67 : σ67.1 218 15 = (σ0.1 218 15) := (congrFun (hOσ67.2 218 (by decide)) 15).trans g15_σ57
              have g20_σ67 : σ67.1 218 20 = (σ0.1 218 20) := (congrFun (hOσ67.2 218 (by decide)) 20).trans g20_σ57
              have g22_σ67 : σ67.1 218 22 = (σ0.1 218 22) := (congrFun (hOσ67.2 218 (by decide)) 22).trans g22_σ57
              have g23_σ67 : σ67.1 218 23 = (σ56.1 218 23) := (congrFun (hOσ67.2 218 (by decide)) 23).trans g23_σ57
              have g24_σ67 : σ67.1 218 24 = (σ0.1 218 24) := (congrFun (hOσ67.2 218 (by decide)) 24).trans g24_σ57
              have g25_σ67 : σ67.1 218 25 = (σ0.1 218 25) := (congrFun (hOσ67.2 218 (by decide)) 25).trans g25_σ57
              exact ih150_57 (x4_57 + 1, σ67) (show Tr [218, 226, 227, 228, 229, 230] σ0 σ67 ∧ (0 ≤ (x4_57 + 1).toInt) ∧ (TOK σ67.1) ∧ (ZB σ67.1) ∧ (σ67.1 218 7 = (σ0.1 218 7)) ∧ (σ67.1 218 9 = (σ0.1 218 9)) ∧ (σ67.1 218 10 = (σ46.1 218 10)) ∧ (σ67.1 218 11 = (σ46.1 218 11)) ∧ (σ67.1 218 12 = (σ46.1 218 12)) ∧ (σ67.1 218 13 = (σ46.1 218 13)) ∧ (σ67.1 218 14 = (σ0.1 218 14)) ∧ (σ67.1 218 15 = (σ0.1 218 15)) ∧ (σ67.1 218 20 = (σ0.1 218 20)) ∧ (σ67.1 218 22 = (σ0.1 218 22)) ∧ (σ67.1 218 23 = (σ56.1 218 23)) ∧ (σ67.1 218 24 = (σ0.1 218 24)) ∧ (σ67.1 218 25 = (σ0.1 218 25)) ∧ (σ67.1 230 = σ0.1 230) from ⟨hT, (by rw [s68]; omega), hK, hB, g7_σ67, g9_σ67, g10_σ67, g11_σ67, g12_σ67, g13_σ67, g14_σ67, g15_σ67, g20_σ67, g22_σ67, g23_σ67, g24_σ67, g25_σ67, r230_σ67⟩) (show (1024 - (x4_57 + 1).toInt).toNat < (1024 - x4_57.toInt).toNat from (by rw [s68]; omega))
  · have w7 := hqv1.resolve_left hc3
    rw [J_X12_readsPart_19.eq_1]
    refine ok_if (fun hc68 => ?_) (fun hc68 => ?_)
    · refine ok_gC rfl ?_
      refine ok_zbT (Q := fun V σ => (TOK σ.1 ∧ (σ0.1 218 11).toInt ≤ (σ.1 218 11).toInt ∧ (0 ≤ (σ.1 218 22).toInt ∧ (σ.1 218 22).toInt ≤ 40) ∧ (σ.1 218 14 = 0 → σ0.1 218 14 = 0 ∧ (σ0.1 218 11).toInt < (σ.1 218 11).toInt ∧ PIL σ.1 0)) ∧ (σ.1 218 7 = σ0.1 218 7 ∧ σ.1 218 9 = σ0.1 218 9 ∧ σ.1 218 20 = σ0.1 218 20 ∧ σ.1 218 23 = σ0.1 218 23 ∧ σ.1 218 25 = σ0.1 218 25)) hT (s_X12_opens hN (hR.tr hT) (hK) (by rw [hT.2 224 (by decide)]; exact hY) (hP) (by first | decide | (rw [ti_add]; simp only [Int32.reduceToInt]; omega) | exact absurd e7 n22) (by first | (rw [w7.2.2]; decide) | (rw [e16]; decide))) (by decide) (fun v69 σ70 hOσ70 hT hqv69 => ?_)
      have hqv69 : (TOK σ70.1 ∧ (σ0.1 218 11).toInt ≤ (σ70.1 218 11).toInt ∧ (0 ≤ (σ70.1 218 22).toInt ∧ (σ70.1 218 22).toInt ≤ 40) ∧ (σ70.1 218 14 = 0 → σ0.1 218 14 = 0 ∧ (σ0.1 218 11).toInt < (σ70.1 218 11).toInt ∧ PIL σ70.1 0)) ∧ (σ70.1 218 7 = σ0.1 218 7 ∧ σ70.1 218 9 = σ0.1 218 9 ∧ σ70.1 218 20 = σ0.1 218 20 ∧ σ70.1 218 23 = σ0.1 218 23 ∧ σ70.1 218 25 = σ0.1 218 25) := hqv69
      have hkv69 := hqv69
      have hqv69 := hqv69.1
      have hK : TOK σ70.1 := by first | exact hqv69.1 | exact TOK_p eσ70 (by decide) hK
      have hB : ZB σ70.1 := ZB.tr hOσ70 (by decide) hB
      have g7_σ70 : σ70.1 218 7 = (σ0.1 218 7) := hkv69.2.1
      have g9_σ70 : σ70.1 218 9 = (σ0.1 218 9) := hkv69.2.2.1
      have g20_σ70 : σ70.1 218 20 = (σ0.1 218 20) := hkv69.2.2.2.1
      have g23_σ70 : σ70.1 218 23 = (σ0.1 218 23) := hkv69.2.2.2.2.1
      have g25_σ70 : σ70.1 218 25 = (σ0.1 218 25) := hkv69.2.2.2.2.2
      have m34 := hqv69.2
      exact ok_rZ (Or.inl rfl) ⟨hT, (show (TOK σ70.1 ∧ ((σ0.1 218 11).toInt ≤ (σ70.1 218 11).toInt ∧ 0 ≤ (σ70.1 218 22).toInt ∧ (σ70.1 218 22).toInt ≤ 40) ∧ (σ70.1 218 14 = 0 → (σ0.1 218 11).toInt < (σ70.1 218 11).toInt ∧ (¬ (0 : Int32) = 0 → PIL σ70.1 1) ∧ ((0 : Int32) = 0 → PIL σ70.1 0)) ∧ ZB σ70.1) ∧ (σ70.1 218 7 = σ0.1 218 7 ∧ σ70.1 218 9 = σ0.1 218 9 ∧ σ70.1 218 20 = σ0.1 218 20 ∧ σ70.1 218 25 = σ0.1 218 25) from ⟨by first | exact ⟨hK, ⟨m34.1, m34.2.1⟩, fun q => ⟨(m34.2.2 q).2.1, fun h => absurd rfl h, fun _ => (m34.2.2 q).2.2⟩, hB⟩ | exact ⟨hK, ⟨by (try simp only [g7_σ70, g9_σ70, g20_σ70, g23_σ70, g25_σ70]); omega, by (try simp only [g7_σ70, g9_σ70, g20_σ70, g23_σ70, g25_σ70]); omega⟩, fun q => absurd q (by (try simp only [g7_σ70, g9_σ70, g20_σ70, g23_σ70, g25_σ70]); exact n196), hB⟩ | exact ⟨hK, ⟨by (try simp only [g7_σ70, g9_σ70, g20_σ70, g23_σ70, g25_σ70]); omega, by omega⟩, fun _ => ⟨by (try simp only [g7_σ70, g9_σ70, g20_σ70, g23_σ70, g25_σ70]); exact (u51 y196).1.2, fun _ => h201, fun h => absurd h (by decide)⟩, hB⟩ | exact ⟨hK, ⟨by (try simp only [g7_σ70, g9_σ70, g20_σ70, g23_σ70, g25_σ70]); omega, by omega⟩, fun _ => ⟨by (try simp only [g7_σ70, g9_σ70, g20_σ70, g23_σ70, g25_σ70]); exact (u127 y196).2, fun _ => h201, fun h => absurd h (by decide)⟩, hB⟩ | exact ⟨hK, ⟨by (try simp only [g7_σ70, g9_σ70, g20_σ70, g23_σ70, g25_σ70]); omega, by omega⟩, fun _ => ⟨by (try simp only [g7_σ70, g9_σ70, g20_σ70, g23_σ70, g25_σ70]); exact k137, fun _ => h201, fun h => absurd h (by decide)⟩, hB⟩ | exact absurd y196 n189, g7_σ70, g9_σ70, g20_σ70, g25_σ70⟩)⟩
    · have n22 := hc68
      refine ok_gC rfl ?_
      refine ok_zbT (Q := fun V σ => (TOK σ.1 ∧ (σ0.1 218 11).toInt ≤ (σ.1 218 11).toInt ∧ (0 ≤ (σ.1 218 22).toInt ∧ (σ.1 218 22).toInt ≤ 40) ∧ (σ.1 218 14 = 0 → σ0.1 218 14 = 0 ∧ (σ0.1 218 11).toInt < (σ.1 218 11).toInt ∧ PIL σ.1 0)) ∧ (σ.1 218 7 = σ0.1 218 7 ∧ σ.1 218 9 = σ0.1 218 9 ∧ σ.1 218 20 = σ0.1 218 20 ∧ σ.1 218 23 = σ0.1 218 23 ∧ σ.1 218 25 = σ0.1 218 25)) hT (s_X12_opens hN (hR.tr hT) (hK) (by rw [hT.2 224 (by decide)]; exact hY) (hP) (by first | decide | (rw [ti_add]; simp only [Int32.reduceToInt]; omega) | exact absurd e7 n22) (by first | (rw [w7.2.2]; decide) | (rw [e16]; decide))) (by decide) (fun v71 σ72 hOσ72 hT hqv71 => ?_)
      have hqv71 : (TOK σ72.1 ∧ (σ0.1 218 11).toInt ≤ (σ72.1 218 11).toInt ∧ (0 ≤ (σ72.1 218 22).toInt ∧ (σ72.1 218 22).toInt ≤ 40) ∧ (σ72.1 218 14 = 0 → σ0.1 218 14 = 0 ∧ (σ0.1 218 11).toInt < (σ72.1 218 11).toInt ∧ PIL σ72.1 0)) ∧ (σ72.1 218 7 = σ0.1 218 7 ∧ σ72.1 218 9 = σ0.1 218 9 ∧ σ72.1 218 20 = σ0.1 218 20 ∧ σ72.1 218 23 = σ0.1 218 23 ∧ σ72.1 218 25 = σ0.1 218 25) := hqv71
      have hkv71 := hqv71
      have hqv71 := hqv71.1
      have hK : TOK σ72.1 := by first | exact hqv71.1 | exact TOK_p eσ72 (by decide) hK
      have hB : ZB σ72.1 := ZB.tr hOσ72 (by decide) hB
      have g7_σ72 : σ72.1 218 7 = (σ0.1 218 7) := hkv71.2.1
      have g9_σ72 : σ72.1 218 9 = (σ0.1 218 9) := hkv71.2.2.1
      have g20_σ72 : σ72.1 218 20 = (σ0.1 218 20) := hkv71.2.2.2.1
      have g23_σ72 : σ72.1 218 23 = (σ0.1 218 23) := hkv71.2.2.2.2.1
      have g25_σ72 : σ72.1 218 25 = (σ0.1 218 25) := hkv71.2.2.2.2.2
      have m34 := hqv71.2
      exact ok_rZ (Or.inl rfl) ⟨hT, (show (TOK σ72.1 ∧ ((σ0.1 218 11).toInt ≤ (σ72.1 218 11).toInt ∧ 0 ≤ (σ72.1 218 22).toInt ∧ (σ72.1 218 22).toInt ≤ 40) ∧ (σ72.1 218 14 = 0 → (σ0.1 218 11).toInt < (σ72.1 218 11).toInt ∧ (¬ (0 : Int32) = 0 → PIL σ72.1 1) ∧ ((0 : Int32) = 0 → PIL σ72.1 0)) ∧ ZB σ72.1) ∧ (σ72.1 218 7 = σ0.1 218 7 ∧ σ72.1 218 9 = σ0.1 218 9 ∧ σ72.1 218 20 = σ0.1 218 20 ∧ σ72.1 218 25 = σ0.1 218 25) from ⟨by first | exact ⟨hK, ⟨m34.1, m34.2.1⟩, fun q => ⟨(m34.2.2 q).2.1, fun h => absurd rfl h, fun _ => (m34.2.2 q).2.2⟩, hB⟩ | exact ⟨hK, ⟨by (try simp only [g7_σ72, g9_σ72, g20_σ72, g23_σ72, g25_σ72]); omega, by (try simp only [g7_σ72, g9_σ72, g20_σ72, g23_σ72, g25_σ72]); omega⟩, fun q => absurd q (by (try simp only [g7_σ72, g9_σ72, g20_σ72, g23_σ72, g25_σ72]); exact n196), hB⟩ | exact ⟨hK, ⟨by (try simp only [g7_σ72, g9_σ72, g20_σ72, g23_σ72, g25_σ72]); omega, by omega⟩, fun _ => ⟨by (try simp only [g7_σ72, g9_σ72, g20_σ72, g23_σ72, g25_σ72]); exact (u51 y196).1.2, fun _ => h201, fun h => absurd h (by decide)⟩, hB⟩ | exact ⟨hK, ⟨by (try simp only [g7_σ72, g9_σ72, g20_σ72, g23_σ72, g25_σ72]); omega, by omega⟩, fun _ => ⟨by (try simp only [g7_σ72, g9_σ72, g20_σ72, g23_σ72, g25_σ72]); exact (u127 y196).2, fun _ => h201, fun h => absurd h (by decide)⟩, hB⟩ | exact ⟨hK, ⟨by (try simp only [g7_σ72, g9_σ72, g20_σ72, g23_σ72, g25_σ72]); omega, by omega⟩, fun _ => ⟨by (try simp only [g7_σ72, g9_σ72, g20_σ72, g23_σ72, g25_σ72]); exact k137, fun _ => h201, fun h => absurd h (by decide)⟩, hB⟩ | exact absurd y196 n189, g7_σ72, g9_σ72, g20_σ72, g25_σ72⟩)⟩

set_option maxHeartbeats 4000000 in
set_option maxRecDepth 100000 in
theorem s_X12_goesBehind {N : Nat} (hN : 1048576 ≤ N)  {σ0 : zS}  (hR : RF σ0.2.2) (hK : TOK σ0.1) (hY : BYT (σ0.1 224)) (hB : ZB σ0.1) (ha : 0 ≤ (σ0.1 218 20).toInt ∧ (σ0.1 218 20).toInt ≤ 1024) (hP : PIL σ0.1 1) (hg : σ0.1 218 14 = 0) : Ok (f_X12_goesBehind N 218 σ0) (fun r => Tr [218, 226, 227, 228, 229, 230] σ0 r.2 ∧ ((TOK r.2.1 ∧ ((σ0.1 218 11).toInt ≤ (r.2.1 218 11).toInt ∧ 0 ≤ (r.2.1 218 22).toInt ∧ (r.2.1 218 22).toInt ≤ 40) ∧ (r.2.1 218 14 = 0 → (r.1 = -1 → PIL r.2.1 1) ∧ (r.1 = 1 → (σ0.1 218 11).toInt < (r.2.1 218 11).toInt ∧ PIL r.2.1 0) ∧ (r.1 = 0 → (σ0.1 218 11).toInt < (r.2.1 218 11).toInt ∧ PIL r.2.1 1)) ∧ (r.1 = -1 ∨ r.1 = 1 ∨ r.1 = 0) ∧ ZB r.2.1) ∧ (r.2.1 218 7 = σ0.1 218 7 ∧ r.2.1 218 9 = σ0.1 218 9 ∧ r.2.1 218 20 = σ0.1 218 20))) := by
  have hT : Tr [218, 226, 227, 228, 229, 230] σ0 σ0 := Tr.rf
  have hK1 := hK.1
  have hb0 := PIL_b hP (by decide)
  have hP0 := hP
  obtain ⟨b8, d8, r8, hS, h22, hd, hd6, hp⟩ := hP0
  rw [f_X12_goesBehind.eq_1]
  refine ok_gI rfl ?_
  refine ok_zbX (Q := fun V => V = -1 ∨ ((0 ≤ V.toInt ∧ V.toInt ≤ 6) ∧ ¬ (σ0.1 218 12) = 0)) (x_X12_signOf) (fun v2 hqv2 => ?_)
  have hqv2 : v2 = -1 ∨ ((0 ≤ v2.toInt ∧ v2.toInt ≤ 6) ∧ ¬ (σ0.1 218 12) = 0) := hqv2
  refine ok_if (fun hc4 => ?_) (fun hc4 => ?_)
  · refine ok_gI rfl ?_
    refine ok_if (fun hc6 => ?_) (fun hc6 => ?_)
    · have l86 := hK.2.1 (by rw [hc6]; decide)
      refine ok_gC rfl ?_
      refine ok_zbX (Q := fun V => (V = 0 → True) ∧ (¬ V = 0 → ∃ k : Nat, (k : Int) < (σ0.1 218 22).toInt ∧ σ0.1 230 k = 100)) (x_X12_isOpen hN (hR.tr hT) ⟨by omega, by omega⟩) (fun v7 hqv7 => ?_)
      have hqv7 : (v7 = 0 → True) ∧ (¬ v7 = 0 → ∃ k : Nat, (k : Int) < (σ0.1 218 22).toInt ∧ σ0.1 230 k = 100) := hqv7
      refine ok_if (fun hc9 => ?_) (fun hc9 => ?_)
      · have qhc9 := hqv7.1 hc9
        exact ok_some ⟨hT, (show (TOK σ0.1 ∧ ((σ0.1 218 11).toInt ≤ (σ0.1 218 11).toInt ∧ 0 ≤ (σ0.1 218 22).toInt ∧ (σ0.1 218 22).toInt ≤ 40) ∧ (σ0.1 218 14 = 0 → ((-1 : Int32) = -1 → PIL σ0.1 1) ∧ ((-1 : Int32) = 1 → (σ0.1 218 11).toInt < (σ0.1 218 11).toInt ∧ PIL σ0.1 0) ∧ ((-1 : Int32) = 0 → (σ0.1 218 11).toInt < (σ0.1 218 11).toInt ∧ PIL σ0.1 1)) ∧ ((-1 : Int32) = -1 ∨ (-1 : Int32) = 1 ∨ (-1 : Int32) = 0) ∧ ZB σ0.1) ∧ (σ0.1 218 7 = σ0.1 218 7 ∧ σ0.1 218 9 = σ0.1 218 9 ∧ σ0.1 218 20 = σ0.1 218 20) from ⟨by first | exact ⟨hK, ⟨by skip; omega, by skip; omega⟩, fun q => absurd q (by skip; exact n31), Or.inl rfl, hB⟩ | exact ⟨hK, ⟨by skip; omega, by skip; omega⟩, fun _ => ⟨fun _ => hP, fun h => absurd h (by decide), fun h => absurd h (by decide)⟩, Or.inl rfl, hB⟩ | exact ⟨hK, ⟨by skip; omega, by skip; rw [s22]; omega⟩, fun _ => ⟨fun h => absurd h (by decide), fun _ => ⟨by skip; omega, PIL_i rfl rfl rfl rfl (by rw [j63]; exact k63) (by rw [s22]; omega) hd9 hd69 (by omega)⟩, fun h => absurd h (by decide)⟩, Or.inr (Or.inl rfl), hB⟩ | exact ⟨hK, ⟨by skip; omega, by omega⟩, fun _ => ⟨fun h => absurd h (by decide), fun h => absurd h (by decide), fun _ => ⟨by skip; omega, h129⟩⟩, Or.inr (Or.inr rfl), hB⟩ | exact absurd y31 n24, rfl, rfl, rfl⟩)⟩
      · have qhc9 := hqv7.2 hc9
        obtain ⟨k9, hk9, o9⟩ := qhc9
        refine ok_gC rfl ?_
        refine ok_zbT (Q := fun V σ => (TOK σ.1 ∧ ZB σ.1 ∧ PIL σ.1 1 ∧ (∀ k : Nat, (k : Int) < (σ0.1 218 22).toInt → σ0.1 230 k = 100 → (k : Int) < (σ.1 218 22).toInt) ∧ ((σ.1 218 22).toInt ≤ 0 ∨ (rkI (σ0.1 230 ((σ.1 218 22) - 1).toNatClampNeg)).toInt < (1 : Int32).toInt)) ∧ (σ.1 218 7 = σ0.1 218 7 ∧ σ.1 218 9 = σ0.1 218 9 ∧ σ.1 218 10 = σ0.1 218 10 ∧ σ.1 218 11 = σ0.1 218 11 ∧ σ.1 218 12 = σ0.1 218 12 ∧ σ.1 218 13 = σ0.1 218 13 ∧ σ.1 218 14 = σ0.1 218 14 ∧ σ.1 218 15 = σ0.1 218 15 ∧ σ.1 218 20 = σ0.1 218 20 ∧ σ.1 218 25 = σ0.1 218 25)) hT (s_X12_settlesTo hN (hR.tr hT) (hK) (by rw [hT.2 224 (by decide)]; exact hY) (hB) (by skip; exact ha) (hP) (by decide)) (by decide) (fun v10 σ11 hOσ11 hT hqv10 => ?_)
        have hqv10 : (TOK σ11.1 ∧ ZB σ11.1 ∧ PIL σ11.1 1 ∧ (∀ k : Nat, (k : Int) < (σ0.1 218 22).toInt → σ0.1 230 k = 100 → (k : Int) < (σ11.1 218 22).toInt) ∧ ((σ11.1 218 22).toInt ≤ 0 ∨ (rkI (σ0.1 230 ((σ11.1 218 22) - 1).toNatClampNeg)).toInt < (1 : Int32).toInt)) ∧ (σ11.1 218 7 = σ0.1 218 7 ∧ σ11.1 218 9 = σ0.1 218 9 ∧ σ11.1 218 10 = σ0.1 218 10 ∧ σ11.1 218 11 = σ0.1 218 11 ∧ σ11.1 218 12 = σ0.1 218 12 ∧ σ11.1 218 13 = σ0.1 218 13 ∧ σ11.1 218 14 = σ0.1 218 14 ∧ σ11.1 218 15 = σ0.1 218 15 ∧ σ11.1 218 20 = σ0.1 218 20 ∧ σ11.1 218 25 = σ0.1 218 25) := hqv10
        have hkv10 := hqv10
        have hqv10 := hqv10.1
        have r230_σ11 : σ11.1 230 = σ0.1 230 := hOσ11.2 230 (by decide)
        have hK : TOK σ11.1 := by first | exact hqv10.1 | exact TOK_p eσ11 (by decide) hK
        have hB : ZB σ11.1 := hqv10.2.1
        have g7_σ11 : σ11.1 218 7 = (σ0.1 218 7) := hkv10.2.1
        have g9_σ11 : σ11.1 218 9 = (σ0.1 218 9) := hkv10.2.2.1
        have g10_σ11 : σ11.1 218 10 = (σ0.1 218 10) := hkv10.2.2.2.1
        have g11_σ11 : σ11.1 218 11 = (σ0.1 218 11) := hkv10.2.2.2.2.1
        have g12_σ11 : σ11.1 218 12 = (σ0.1 218 12) := hkv10.2.2.2.2.2.1
        have g13_σ11 : σ11.1 218 13 = (σ0.1 218 13) := hkv10.2.2.2.2.2.2.1
        have g14_σ11 : σ11.1 218 14 = (σ0.1 218 14) := hkv10.2.2.2.2.2.2.2.1
        have g15_σ11 : σ11.1 218 15 = (σ0.1 218 15) := hkv10.2.2.2.2.2.2.2.2.1
        have g20_σ11 : σ11.1 218 20 = (σ0.1 218 20) := hkv10.2.2.2.2.2.2.2.2.2.1
        have g25_σ11 : σ11.1 218 25 = (σ0.1 218 25) := hkv10.2.2.2.2.2.2.2.2.2.2
        have h51 := hqv10.2.2.1
        have b51 := PIL_b h51 (by decide)
        obtain ⟨b9, d9, r9, hS9, h9, hd9, hd69, hp9⟩ := h51
        rw [r230_σ11] at hS9
        have x51 := hqv10.2.2.2.2
        have o51 : σ0.1 230 = σ0.1 230 := (hOσ11.2 230 (by decide)).symm.trans r230_σ11
        rw [o51] at x51
        have w100 := hqv10.2.2.2.1 k9 hk9 o9
        obtain ⟨n9, hn9⟩ : ∃ n : Nat, (σ11.1 218 22).toInt.toNat = n + 1 := ⟨(σ11.1 218 22).toInt.toNat - 1, by omega⟩
        rw [hn9] at hS9
        have s22 : ((σ11.1 218 22) - 1).toInt = (n9 : Int) := by rw [ti_sub]; simp only [Int32.reduceToInt]; omega
        have j22 : ((σ11.1 218 22) - 1).toInt.toNat = n9 := by rw [s22]; omega
        have i22 : ((σ11.1 218 22) - 1).toNatClampNeg = n9 := j22
        rw [i22] at x51
        have t9 : σ0.1 230 n9 = 100 := rk0 (by rcases x51 with q | q; omega; exact q)
        obtain ⟨d7, r7, e7, hS7⟩ := Stk_po hS9 (by rw [t9]; decide)
        have d24 : ((σ11.1 218 24) - 1).toInt = (d7 : Int) := by rw [ti_sub]; simp only [Int32.reduceToInt]; omega
        refine ok_gI rfl ?_
        refine ok_pI hT rfl (by decide) (fun σ13 eσ13 hOσ13 hT => ?_)
        have r230_σ13 : σ13.1 230 = σ0.1 230 := (hOσ13.2 230 (by decide)).trans r230_σ11
        have hK : TOK σ13.1 := by first | exact HQ.1 | exact TOK_p eσ13 (by decide) hK
        have hB : ZB σ13.1 := ZB.tr hOσ13 (by decide) hB
        have g7_σ13 : σ13.1 218 7 = (σ0.1 218 7) := (zI_atN eσ13 (by decide)).trans g7_σ11
        have g9_σ13 : σ13.1 218 9 = (σ0.1 218 9) := (zI_atN eσ13 (by decide)).trans g9_σ11
        have g10_σ13 : σ13.1 218 10 = (σ0.1 218 10) := (zI_atN eσ13 (by decide)).trans g10_σ11
        have g11_σ13 : σ13.1 218 11 = (σ0.1 218 11) := (zI_atN eσ13 (by decide)).trans g11_σ11
        have g12_σ13 : σ13.1 218 12 = (σ0.1 218 12) := (zI_atN eσ13 (by decide)).trans g12_σ11
        have g13_σ13 : σ13.1 218 13 = (σ0.1 218 13) := (zI_atN eσ13 (by decide)).trans g13_σ11
        have g14_σ13 : σ13.1 218 14 = (σ0.1 218 14) := (zI_atN eσ13 (by decide)).trans g14_σ11
        have g15_σ13 : σ13.1 218 15 = (σ0.1 218 15) := (zI_atN eσ13 (by decide)).trans g15_σ11
        have g20_σ13 : σ13.1 218 20 = (σ0.1 218 20) := (zI_atN eσ13 (by decide)).trans g20_σ11
        have g22_σ13 : σ13.1 218 22 = ((σ11.1 218 22) - 1) := zI_atI eσ13
        have g23_σ13 : σ13.1 218 23 = (σ11.1 218 23) := zI_atN eσ13 (by decide)
        have g24_σ13 : σ13.1 218 24 = (σ11.1 218 24) := zI_atN eσ13 (by decide)
        have g25_σ13 : σ13.1 218 25 = (σ0.1 218 25) := (zI_atN eσ13 (by decide)).trans g25_σ11
        refine ok_gIv rfl g24_σ13 ?_
        refine ok_pI hT rfl (by decide) (fun σ15 eσ15 hOσ15 hT => ?_)
        have r230_σ15 : σ15.1 230 = σ0.1 230 := (hOσ15.2 230 (by decide)).trans r230_σ13
        have hK : TOK σ15.1 := by first | exact HQ.1 | exact TOK_p eσ15 (by decide) hK
        have hB : ZB σ15.1 := ZB.tr hOσ15 (by decide) hB
        have g7_σ15 : σ15.1 218 7 = (σ0.1 218 7) := (zI_atN eσ15 (by decide)).trans g7_σ13
        have g9_σ15 : σ15.1 218 9 = (σ0.1 218 9) := (zI_atN eσ15 (by decide)).trans g9_σ13
        have g10_σ15 : σ15.1 218 10 = (σ0.1 218 10) := (zI_atN eσ15 (by decide)).trans g10_σ13
        have g11_σ15 : σ15.1 218 11 = (σ0.1 218 11) := (zI_atN eσ15 (by decide)).trans g11_σ13
        have g12_σ15 : σ15.1 218 12 = (σ0.1 218 12) := (zI_atN eσ15 (by decide)).trans g12_σ13
        have g13_σ15 : σ15.1 218 13 = (σ0.1 218 13) := (zI_atN eσ15 (by decide)).trans g13_σ13
        have g14_σ15 : σ15.1 218 14 = (σ0.1 218 14) := (zI_atN eσ15 (by decide)).trans g14_σ13
        have g15_σ15 : σ15.1 218 15 = (σ0.1 218 15) := (zI_atN eσ15 (by decide)).trans g15_σ13
        have g20_σ15 : σ15.1 218 20 = (σ0.1 218 20) := (zI_atN eσ15 (by decide)).trans g20_σ13
        have g22_σ15 : σ15.1 218 22 = ((σ11.1 218 22) - 1) := (zI_atN eσ15 (by decide)).trans g22_σ13
        have g23_σ15 : σ15.1 218 23 = (σ11.1 218 23) := (zI_atN eσ15 (by decide)).trans g23_σ13
        have g24_σ15 : σ15.1 218 24 = ((σ11.1 218 24) - 1) := zI_atI eσ15
        have g25_σ15 : σ15.1 218 25 = (σ0.1 218 25) := (zI_atN eσ15 (by decide)).trans g25_σ13
        refine ok_gC rfl ?_
        refine ok_zbT (Q := fun V σ => (TOK σ.1 ∧ (σ15.1 218 10).toInt ≤ (σ.1 218 11).toInt) ∧ (σ.1 218 7 = σ15.1 218 7 ∧ σ.1 218 9 = σ15.1 218 9 ∧ σ.1 218 14 = σ15.1 218 14 ∧ σ.1 218 15 = σ15.1 218 15 ∧ σ.1 218 20 = σ15.1 218 20 ∧ σ.1 218 22 = σ15.1 218 22 ∧ σ.1 218 23 = σ15.1 218 23 ∧ σ.1 218 24 = σ15.1 218 24 ∧ σ.1 218 25 = σ15.1 218 25)) hT (s_X12_advance hN (hR.tr hT) (TOK_A hK) (by rw [hT.2 224 (by decide)]; exact hY)) (by decide) (fun v16 σ17 hOσ17 hT hqv16 => ?_)
        have hqv16 : (TOK σ17.1 ∧ (σ15.1 218 10).toInt ≤ (σ17.1 218 11).toInt) ∧ (σ17.1 218 7 = σ15.1 218 7 ∧ σ17.1 218 9 = σ15.1 218 9 ∧ σ17.1 218 14 = σ15.1 218 14 ∧ σ17.1 218 15 = σ15.1 218 15 ∧ σ17.1 218 20 = σ15.1 218 20 ∧ σ17.1 218 22 = σ15.1 218 22 ∧ σ17.1 218 23 = σ15.1 218 23 ∧ σ17.1 218 24 = σ15.1 218 24 ∧ σ17.1 218 25 = σ15.1 218 25) := hqv16
        have hkv16 := hqv16
        have hqv16 := hqv16.1
        have r230_σ17 : σ17.1 230 = σ0.1 230 := (hOσ17.2 230 (by decide)).trans r230_σ15
        have hK : TOK σ17.1 := by first | exact hqv16.1 | exact TOK_p eσ17 (by decide) hK
        have hB : ZB σ17.1 := ZB.tr hOσ17 (by decide) hB
        try simp only [g7_σ15, g9_σ15, g10_σ15, g11_σ15, g12_σ15, g13_σ15, g14_σ15, g15_σ15, g20_σ15, g22_σ15, g23_σ15, g24_σ15, g25_σ15] at hqv16
        have g7_σ17 : σ17.1 218 7 = (σ0.1 218 7) := (hkv16.2.1).trans g7_σ15
        have g9_σ17 : σ17.1 218 9 = (σ0.1 218 9) := (hkv16.2.2.1).trans g9_σ15
        have g14_σ17 : σ17.1 218 14 = (σ0.1 218 14) := (hkv16.2.2.2.1).trans g14_σ15
        have g15_σ17 : σ17.1 218 15 = (σ0.1 218 15) := (hkv16.2.2.2.2.1).trans g15_σ15
        have g20_σ17 : σ17.1 218 20 = (σ0.1 218 20) := (hkv16.2.2.2.2.2.1).trans g20_σ15
        have g22_σ17 : σ17.1 218 22 = ((σ11.1 218 22) - 1) := (hkv16.2.2.2.2.2.2.1).trans g22_σ15
        have g23_σ17 : σ17.1 218 23 = (σ11.1 218 23) := (hkv16.2.2.2.2.2.2.2.1).trans g23_σ15
        have g24_σ17 : σ17.1 218 24 = ((σ11.1 218 24) - 1) := (hkv16.2.2.2.2.2.2.2.2.1).trans g24_σ15
        have g25_σ17 : σ17.1 218 25 = (σ0.1 218 25) := (hkv16.2.2.2.2.2.2.2.2.2).trans g25_σ15
        have m75 := hqv16.2
        refine ok_gC rfl ?_
        refine ok_zbT (Q := fun V σ => (TOK σ.1 ∧ ZB σ.1 ∧ PIL σ.1 1 ∧ (∀ k : Nat, (k : Int) < (σ17.1 218 22).toInt → σ17.1 230 k = 100 → (k : Int) < (σ.1 218 22).toInt) ∧ ((σ.1 218 22).toInt ≤ 0 ∨ (rkI (σ17.1 230 ((σ.1 218 22) - 1).toNatClampNeg)).toInt < (3 : Int32).toInt)) ∧ (σ.1 218 7 = σ17.1 218 7 ∧ σ.1 218 9 = σ17.1 218 9 ∧ σ.1 218 10 = σ17.1 218 10 ∧ σ.1 218 11 = σ17.1 218 11 ∧ σ.1 218 12 = σ17.1 218 12 ∧ σ.1 218 13 = σ17.1 218 13 ∧ σ.1 218 14 = σ17.1 218 14 ∧ σ.1 218 15 = σ17.1 218 15 ∧ σ.1 218 20 = σ17.1 218 20 ∧ σ.1 218 25 = σ17.1 218 25)) hT (s_X12_settlesTo hN (hR.tr hT) (hK) (by rw [hT.2 224 (by decide)]; exact hY) (hB) (by (try simp only [g7_σ17, g9_σ17, g14_σ17, g15_σ17, g20_σ17, g22_σ17, g23_σ17, g24_σ17, g25_σ17]); exact ha) (PIL_i g22_σ17 g23_σ17 g24_σ17 r230_σ17 (by rw [j22]; exact hS7) (by omega) d24 (by omega) hp9) (by decide)) (by decide) (fun v18 σ19 hOσ19 hT hqv18 => ?_)
        have hqv18 : (TOK σ19.1 ∧ ZB σ19.1 ∧ PIL σ19.1 1 ∧ (∀ k : Nat, (k : Int) < (σ17.1 218 22).toInt → σ17.1 230 k = 100 → (k : Int) < (σ19.1 218 22).toInt) ∧ ((σ19.1 218 22).toInt ≤ 0 ∨ (rkI (σ17.1 230 ((σ19.1 218 22) - 1).toNatClampNeg)).toInt < (3 : Int32).toInt)) ∧ (σ19.1 218 7 = σ17.1 218 7 ∧ σ19.1 218 9 = σ17.1 218 9 ∧ σ19.1 218 10 = σ17.1 218 10 ∧ σ19.1 218 11 = σ17.1 218 11 ∧ σ19.1 218 12 = σ17.1 218 12 ∧ σ19.1 218 13 = σ17.1 218 13 ∧ σ19.1 218 14 = σ17.1 218 14 ∧ σ19.1 218 15 = σ17.1 218 15 ∧ σ19.1 218 20 = σ17.1 218 20 ∧ σ19.1 218 25 = σ17.1 218 25) := hqv18
        have hkv18 := hqv18
        have hqv18 := hqv18.1
        have r230_σ19 : σ19.1 230 = σ0.1 230 := (hOσ19.2 230 (by decide)).trans r230_σ17
        have hK : TOK σ19.1 := by first | exact hqv18.1 | exact TOK_p eσ19 (by decide) hK
        have hB : ZB σ19.1 := hqv18.2.1
        try simp only [g7_σ17, g9_σ17, g14_σ17, g15_σ17, g20_σ17, g22_σ17, g23_σ17, g24_σ17, g25_σ17] at hqv18
        have g7_σ19 : σ19.1 218 7 = (σ0.1 218 7) := (hkv18.2.1).trans g7_σ17
        have g9_σ19 : σ19.1 218 9 = (σ0.1 218 9) := (hkv18.2.2.1).trans g9_σ17
        have g10_σ19 : σ19.1 218 10 = (σ17.1 218 10) := hkv18.2.2.2.1
        have g11_σ19 : σ19.1 218 11 = (σ17.1 218 11) := hkv18.2.2.2.2.1
        have g12_σ19 : σ19.1 218 12 = (σ17.1 218 12) := hkv18.2.2.2.2.2.1
        have g13_σ19 : σ19.1 218 13 = (σ17.1 218 13) := hkv18.2.2.2.2.2.2.1
        have g14_σ19 : σ19.1 218 14 = (σ0.1 218 14) := (hkv18.2.2.2.2.2.2.2.1).trans g14_σ17
        have g15_σ19 : σ19.1 218 15 = (σ0.1 218 15) := (hkv18.2.2.2.2.2.2.2.2.1).trans g15_σ17
        have g20_σ19 : σ19.1 218 20 = (σ0.1 218 20) := (hkv18.2.2.2.2.2.2.2.2.2.1).trans g20_σ17
        have g25_σ19 : σ19.1 218 25 = (σ0.1 218 25) := (hkv18.2.2.2.2.2.2.2.2.2.2).trans g25_σ17
        have h129 := hqv18.2.2.1
        have b129 := PIL_b h129 (by decide)
        exact ok_some ⟨hT, (show (TOK σ19.1 ∧ ((σ0.1 218 11).toInt ≤ (σ19.1 218 11).toInt ∧ 0 ≤ (σ19.1 218 22).toInt ∧ (σ19.1 218 22).toInt ≤ 40) ∧ (σ19.1 218 14 = 0 → ((0 : Int32) = -1 → PIL σ19.1 1) ∧ ((0 : Int32) = 1 → (σ0.1 218 11).toInt < (σ19.1 218 11).toInt ∧ PIL σ19.1 0) ∧ ((0 : Int32) = 0 → (σ0.1 218 11).toInt < (σ19.1 218 11).toInt ∧ PIL σ19.1 1)) ∧ ((0 : Int32) = -1 ∨ (0 : Int32) = 1 ∨ (0 : Int32) = 0) ∧ ZB σ19.1) ∧ (σ19.1 218 7 = σ0.1 218 7 ∧ σ19.1 218 9 = σ0.1 218 9 ∧ σ19.1 218 20 = σ0.1 218 20) from ⟨by first | exact ⟨hK, ⟨by (try simp only [g7_σ19, g9_σ19, g10_σ19, g11_σ19, g12_σ19, g13_σ19, g14_σ19, g15_σ19, g20_σ19, g25_σ19]); omega, by (try simp only [g7_σ19, g9_σ19, g10_σ19, g11_σ19, g12_σ19, g13_σ19, g14_σ19, g15_σ19, g20_σ19, g25_σ19]); omega⟩, fun q => absurd q (by (try simp only [g7_σ19, g9_σ19, g10_σ19, g11_σ19, g12_σ19, g13_σ19, g14_σ19, g15_σ19, g20_σ19, g25_σ19]); exact n31), Or.inl rfl, hB⟩ | exact ⟨hK, ⟨by (try simp only [g7_σ19, g9_σ19, g10_σ19, g11_σ19, g12_σ19, g13_σ19, g14_σ19, g15_σ19, g20_σ19, g25_σ19]); omega, by (try simp only [g7_σ19, g9_σ19, g10_σ19, g11_σ19, g12_σ19, g13_σ19, g14_σ19, g15_σ19, g20_σ19, g25_σ19]); omega⟩, fun _ => ⟨fun _ => hP, fun h => absurd h (by decide), fun h => absurd h (by decide)⟩, Or.inl rfl, hB⟩ | exact ⟨hK, ⟨by (try simp only [g7_σ19, g9_σ19, g10_σ19, g11_σ19, g12_σ19, g13_σ19, g14_σ19, g15_σ19, g20_σ19, g25_σ19]); omega, by (try simp only [g7_σ19, g9_σ19, g10_σ19, g11_σ19, g12_σ19, g13_σ19, g14_σ19, g15_σ19, g20_σ19, g25_σ19]); rw [s22]; omega⟩, fun _ => ⟨fun h => absurd h (by decide), fun _ => ⟨by (try simp only [g7_σ19, g9_σ19, g10_σ19, g11_σ19, g12_σ19, g13_σ19, g14_σ19, g15_σ19, g20_σ19, g25_σ19]); omega, PIL_i rfl rfl rfl r230_σ19 (by rw [j63]; exact k63) (by rw [s22]; omega) hd9 hd69 (by omega)⟩, fun h => absurd h (by decide)⟩, Or.inr (Or.inl rfl), hB⟩ | exact ⟨hK, ⟨by (try simp only [g7_σ19, g9_σ19, g10_σ19, g11_σ19, g12_σ19, g13_σ19, g14_σ19, g15_σ19, g20_σ19, g25_σ19]); omega, by omega⟩, fun _ => ⟨fun h => absurd h (by decide), fun h => absurd h (by decide), fun _ => ⟨by (try simp only [g7_σ19, g9_σ19, g10_σ19, g11_σ19, g12_σ19, g13_σ19, g14_σ19, g15_σ19, g20_σ19, g25_σ19]); omega, h129⟩⟩, Or.inr (Or.inr rfl), hB⟩ | exact absurd y31 n24, g7_σ19, g9_σ19, g20_σ19⟩)⟩
    · exact ok_some ⟨hT, (show (TOK σ0.1 ∧ ((σ0.1 218 11).toInt ≤ (σ0.1 218 11).toInt ∧ 0 ≤ (σ0.1 218 22).toInt ∧ (σ0.1 218 22).toInt ≤ 40) ∧ (σ0.1 218 14 = 0 → ((-1 : Int32) = -1 → PIL σ0.1 1) ∧ ((-1 : Int32) = 1 → (σ0.1 218 11).toInt < (σ0.1 218 11).toInt ∧ PIL σ0.1 0) ∧ ((-1 : Int32) = 0 → (σ0.1 218 11).toInt < (σ0.1 218 11).toInt ∧ PIL σ0.1 1)) ∧ ((-1 : Int32) = -1 ∨ (-1 : Int32) = 1 ∨ (-1 : Int32) = 0) ∧ ZB σ0.1) ∧ (σ0.1 218 7 = σ0.1 218 7 ∧ σ0.1 218 9 = σ0.1 218 9 ∧ σ0.1 218 20 = σ0.1 218 20) from ⟨by first | exact ⟨hK, ⟨by skip; omega, by skip; omega⟩, fun q => absurd q (by skip; exact n31), Or.inl rfl, hB⟩ | exact ⟨hK, ⟨by skip; omega, by skip; omega⟩, fun _ => ⟨fun _ => hP, fun h => absurd h (by decide), fun h => absurd h (by decide)⟩, Or.inl rfl, hB⟩ | exact ⟨hK, ⟨by skip; omega, by skip; rw [s22]; omega⟩, fun _ => ⟨fun h => absurd h (by decide), fun _ => ⟨by skip; omega, PIL_i rfl rfl rfl rfl (by rw [j63]; exact k63) (by rw [s22]; omega) hd9 hd69 (by omega)⟩, fun h => absurd h (by decide)⟩, Or.inr (Or.inl rfl), hB⟩ | exact ⟨hK, ⟨by skip; omega, by omega⟩, fun _ => ⟨fun h => absurd h (by decide), fun h => absurd h (by decide), fun _ => ⟨by skip; omega, h129⟩⟩, Or.inr (Or.inr rfl), hB⟩ | exact absurd y31 n24, rfl, rfl, rfl⟩)⟩
  · have w10 := hqv2.resolve_left hc4
    have l12 := hK.2.1 w10.2
    have k48 := rk_s w10.1
    refine ok_gI rfl ?_
    refine ok_if (fun hc21 => ?_) (fun hc21 => ?_)
    · refine ok_gC rfl ?_
      refine ok_zbT (Q := fun V σ => (TOK σ.1 ∧ ¬ σ.1 218 14 = 0) ∧ (σ.1 218 7 = σ0.1 218 7 ∧ σ.1 218 9 = σ0.1 218 9 ∧ σ.1 218 10 = σ0.1 218 10 ∧ σ.1 218 11 = σ0.1 218 11 ∧ σ.1 218 12 = σ0.1 218 12 ∧ σ.1 218 13 = σ0.1 218 13 ∧ σ.1 218 20 = σ0.1 218 20 ∧ σ.1 218 22 = σ0.1 218 22 ∧ σ.1 218 23 = σ0.1 218 23 ∧ σ.1 218 24 = σ0.1 218 24 ∧ σ.1 218 25 = σ0.1 218 25)) hT (s_X12_errs hN (hR.tr hT) (hK) (by rw [hT.2 224 (by decide)]; exact hY) (by decide)) (by decide) (fun v22 σ23 hOσ23 hT hqv22 => ?_)
      have hqv22 : (TOK σ23.1 ∧ ¬ σ23.1 218 14 = 0) ∧ (σ23.1 218 7 = σ0.1 218 7 ∧ σ23.1 218 9 = σ0.1 218 9 ∧ σ23.1 218 10 = σ0.1 218 10 ∧ σ23.1 218 11 = σ0.1 218 11 ∧ σ23.1 218 12 = σ0.1 218 12 ∧ σ23.1 218 13 = σ0.1 218 13 ∧ σ23.1 218 20 = σ0.1 218 20 ∧ σ23.1 218 22 = σ0.1 218 22 ∧ σ23.1 218 23 = σ0.1 218 23 ∧ σ23.1 218 24 = σ0.1 218 24 ∧ σ23.1 218 25 = σ0.1 218 25) := hqv22
      have hkv22 := hqv22
      have hqv22 := hqv22.1
      have r230_σ23 : σ23.1 230 = σ0.1 230 := hOσ23.2 230 (by decide)
      have hK : TOK σ23.1 := by first | exact hqv22.1 | exact TOK_p eσ23 (by decide) hK
      have hB : ZB σ23.1 := ZB.tr hOσ23 (by decide) hB
      have g7_σ23 : σ23.1 218 7 = (σ0.1 218 7) := hkv22.2.1
      have g9_σ23 : σ23.1 218 9 = (σ0.1 218 9) := hkv22.2.2.1
      have g10_σ23 : σ23.1 218 10 = (σ0.1 218 10) := hkv22.2.2.2.1
      have g11_σ23 : σ23.1 218 11 = (σ0.1 218 11) := hkv22.2.2.2.2.1
      have g12_σ23 : σ23.1 218 12 = (σ0.1 218 12) := hkv22.2.2.2.2.2.1
      have g13_σ23 : σ23.1 218 13 = (σ0.1 218 13) := hkv22.2.2.2.2.2.2.1
      have g20_σ23 : σ23.1 218 20 = (σ0.1 218 20) := hkv22.2.2.2.2.2.2.2.1
      have g22_σ23 : σ23.1 218 22 = (σ0.1 218 22) := hkv22.2.2.2.2.2.2.2.2.1
      have g23_σ23 : σ23.1 218 23 = (σ0.1 218 23) := hkv22.2.2.2.2.2.2.2.2.2.1
      have g24_σ23 : σ23.1 218 24 = (σ0.1 218 24) := hkv22.2.2.2.2.2.2.2.2.2.2.1
      have g25_σ23 : σ23.1 218 25 = (σ0.1 218 25) := hkv22.2.2.2.2.2.2.2.2.2.2.2
      have n24 := hqv22.2
      rw [J_X12_goesBehind_27.eq_1]
      refine ok_gC rfl ?_
      refine ok_zbX (Q := fun V => (V = 0 → ¬ σ23.1 218 14 = 0) ∧ (¬ V = 0 → σ23.1 218 14 = 0)) (x_X12_good) (fun v24 hqv24 => ?_)
      have hqv24 : (v24 = 0 → ¬ σ23.1 218 14 = 0) ∧ (¬ v24 = 0 → σ23.1 218 14 = 0) := hqv24
      try simp only [g7_σ23, g9_σ23, g10_σ23, g11_σ23, g12_σ23, g13_σ23, g20_σ23, g22_σ23, g23_σ23, g24_σ23, g25_σ23, hT.2 224 (by decide)] at hqv24
      refine ok_if (fun hc26 => ?_) (fun hc26 => ?_)
      · have qhc26 := hqv24.1 hc26
        have n31 := qhc26
        exact ok_some ⟨hT, (show (TOK σ23.1 ∧ ((σ0.1 218 11).toInt ≤ (σ23.1 218 11).toInt ∧ 0 ≤ (σ23.1 218 22).toInt ∧ (σ23.1 218 22).toInt ≤ 40) ∧ (σ23.1 218 14 = 0 → ((-1 : Int32) = -1 → PIL σ23.1 1) ∧ ((-1 : Int32) = 1 → (σ0.1 218 11).toInt < (σ23.1 218 11).toInt ∧ PIL σ23.1 0) ∧ ((-1 : Int32) = 0 → (σ0.1 218 11).toInt < (σ23.1 218 11).toInt ∧ PIL σ23.1 1)) ∧ ((-1 : Int32) = -1 ∨ (-1 : Int32) = 1 ∨ (-1 : Int32) = 0) ∧ ZB σ23.1) ∧ (σ23.1 218 7 = σ0.1 218 7 ∧ σ23.1 218 9 = σ0.1 218 9 ∧ σ23.1 218 20 = σ0.1 218 20) from ⟨by first | exact ⟨hK, ⟨by (try simp only [g7_σ23, g9_σ23, g10_σ23, g11_σ23, g12_σ23, g13_σ23, g20_σ23, g22_σ23, g23_σ23, g24_σ23, g25_σ23]); omega, by (try simp only [g7_σ23, g9_σ23, g10_σ23, g11_σ23, g12_σ23, g13_σ23, g20_σ23, g22_σ23, g23_σ23, g24_σ23, g25_σ23]); omega⟩, fun q => absurd q (by (try simp only [g7_σ23, g9_σ23, g10_σ23, g11_σ23, g12_σ23, g13_σ23, g20_σ23, g22_σ23, g23_σ23, g24_σ23, g25_σ23]); exact n31), Or.inl rfl, hB⟩ | exact ⟨hK, ⟨by (try simp only [g7_σ23, g9_σ23, g10_σ23, g11_σ23, g12_σ23, g13_σ23, g20_σ23, g22_σ23, g23_σ23, g24_σ23, g25_σ23]); omega, by (try simp only [g7_σ23, g9_σ23, g10_σ23, g11_σ23, g12_σ23, g13_σ23, g20_σ23, g22_σ23, g23_σ23, g24_σ23, g25_σ23]); omega⟩, fun _ => ⟨fun _ => hP, fun h => absurd h (by decide), fun h => absurd h (by decide)⟩, Or.inl rfl, hB⟩ | exact ⟨hK, ⟨by (try simp only [g7_σ23, g9_σ23, g10_σ23, g11_σ23, g12_σ23, g13_σ23, g20_σ23, g22_σ23, g23_σ23, g24_σ23, g25_σ23]); omega, by (try simp only [g7_σ23, g9_σ23, g10_σ23, g11_σ23, g12_σ23, g13_σ23, g20_σ23, g22_σ23, g23_σ23, g24_σ23, g25_σ23]); rw [s22]; omega⟩, fun _ => ⟨fun h => absurd h (by decide), fun _ => ⟨by (try simp only [g7_σ23, g9_σ23, g10_σ23, g11_σ23, g12_σ23, g13_σ23, g20_σ23, g22_σ23, g23_σ23, g24_σ23, g25_σ23]); omega, PIL_i g22_σ23 g23_σ23 g24_σ23 r230_σ23 (by rw [j63]; exact k63) (by rw [s22]; omega) hd9 hd69 (by omega)⟩, fun h => absurd h (by decide)⟩, Or.inr (Or.inl rfl), hB⟩ | exact ⟨hK, ⟨by (try simp only [g7_σ23, g9_σ23, g10_σ23, g11_σ23, g12_σ23, g13_σ23, g20_σ23, g22_σ23, g23_σ23, g24_σ23, g25_σ23]); omega, by omega⟩, fun _ => ⟨fun h => absurd h (by decide), fun h => absurd h (by decide), fun _ => ⟨by (try simp only [g7_σ23, g9_σ23, g10_σ23, g11_σ23, g12_σ23, g13_σ23, g20_σ23, g22_σ23, g23_σ23, g24_σ23, g25_σ23]); omega, h129⟩⟩, Or.inr (Or.inr rfl), hB⟩ | exact absurd y31 n24, g7_σ23, g9_σ23, g20_σ23⟩)⟩
      · have qhc26 := hqv24.2 hc26
        have y31 := qhc26
        refine ok_gIv rfl g25_σ23 ?_
        refine ok_pI hT rfl (by decide) (fun σ28 eσ28 hOσ28 hT => ?_)
        have r230_σ28 : σ28.1 230 = σ0.1 230 := (hOσ28.2 230 (by decide)).trans r230_σ23
        have hK : TOK σ28.1 := by first | exact HQ.1 | exact TOK_p eσ28 (by decide) hK
        have hB : ZB σ28.1 := ZB.tr hOσ28 (by decide) hB
        have g7_σ28 : σ28.1 218 7 = (σ0.1 218 7) := (zI_atN eσ28 (by decide)).trans g7_σ23
        have g9_σ28 : σ28.1 218 9 = (σ0.1 218 9) := (zI_atN eσ28 (by decide)).trans g9_σ23
        have g10_σ28 : σ28.1 218 10 = (σ0.1 218 10) := (zI_atN eσ28 (by decide)).trans g10_σ23
        have g11_σ28 : σ28.1 218 11 = (σ0.1 218 11) := (zI_atN eσ28 (by decide)).trans g11_σ23
        have g12_σ28 : σ28.1 218 12 = (σ0.1 218 12) := (zI_atN eσ28 (by decide)).trans g12_σ23
        have g13_σ28 : σ28.1 218 13 = (σ0.1 218 13) := (zI_atN eσ28 (by decide)).trans g13_σ23
        have g14_σ28 : σ28.1 218 14 = (σ23.1 218 14) := zI_atN eσ28 (by decide)
        have g15_σ28 : σ28.1 218 15 = (σ23.1 218 15) := zI_atN eσ28 (by decide)
        have g20_σ28 : σ28.1 218 20 = (σ0.1 218 20) := (zI_atN eσ28 (by decide)).trans g20_σ23
        have g22_σ28 : σ28.1 218 22 = (σ0.1 218 22) := (zI_atN eσ28 (by decide)).trans g22_σ23
        have g23_σ28 : σ28.1 218 23 = (σ0.1 218 23) := (zI_atN eσ28 (by decide)).trans g23_σ23
        have g24_σ28 : σ28.1 218 24 = (σ0.1 218 24) := (zI_atN eσ28 (by decide)).trans g24_σ23
        have g25_σ28 : σ28.1 218 25 = ((σ0.1 218 25) + 1) := zI_atI eσ28
        refine ok_zbX (Q := fun V => V = rkI v2) (x_X12_rank) (fun v29 hqv29 => ?_)
        have hqv29 : v29 = rkI v2 := hqv29
        try simp only [g7_σ28, g9_σ28, g10_σ28, g11_σ28, g12_σ28, g13_σ28, g14_σ28, g15_σ28, g20_σ28, g22_σ28, g23_σ28, g24_σ28, g25_σ28, hT.2 224 (by decide)] at hqv29
        have e48 := hqv29
        refine ok_gC rfl ?_
        refine ok_zbT (Q := fun V σ => (TOK σ.1 ∧ ZB σ.1 ∧ PIL σ.1 1 ∧ (∀ k : Nat, (k : Int) < (σ28.1 218 22).toInt → σ28.1 230 k = 100 → (k : Int) < (σ.1 218 22).toInt) ∧ ((σ.1 218 22).toInt ≤ 0 ∨ (rkI (σ28.1 230 ((σ.1 218 22) - 1).toNatClampNeg)).toInt < v29.toInt)) ∧ (σ.1 218 7 = σ28.1 218 7 ∧ σ.1 218 9 = σ28.1 218 9 ∧ σ.1 218 10 = σ28.1 218 10 ∧ σ.1 218 11 = σ28.1 218 11 ∧ σ.1 218 12 = σ28.1 218 12 ∧ σ.1 218 13 = σ28.1 218 13 ∧ σ.1 218 14 = σ28.1 218 14 ∧ σ.1 218 15 = σ28.1 218 15 ∧ σ.1 218 20 = σ28.1 218 20 ∧ σ.1 218 25 = σ28.1 218 25)) hT (s_X12_settlesTo hN (hR.tr hT) (hK) (by rw [hT.2 224 (by decide)]; exact hY) (hB) (by (try simp only [g7_σ28, g9_σ28, g10_σ28, g11_σ28, g12_σ28, g13_σ28, g14_σ28, g15_σ28, g20_σ28, g22_σ28, g23_σ28, g24_σ28, g25_σ28]); exact ha) (PIL_i g22_σ28 g23_σ28 g24_σ28 r230_σ28 hS h22 hd hd6 hp) (by rw [e48]; exact k48.1)) (by decide) (fun v31 σ32 hOσ32 hT hqv31 => ?_)
        have hqv31 : (TOK σ32.1 ∧ ZB σ32.1 ∧ PIL σ32.1 1 ∧ (∀ k : Nat, (k : Int) < (σ28.1 218 22).toInt → σ28.1 230 k = 100 → (k : Int) < (σ32.1 218 22).toInt) ∧ ((σ32.1 218 22).toInt ≤ 0 ∨ (rkI (σ28.1 230 ((σ32.1 218 22) - 1).toNatClampNeg)).toInt < v29.toInt)) ∧ (σ32.1 218 7 = σ28.1 218 7 ∧ σ32.1 218 9 = σ28.1 218 9 ∧ σ32.1 218 10 = σ28.1 218 10 ∧ σ32.1 218 11 = σ28.1 218 11 ∧ σ32.1 218 12 = σ28.1 218 12 ∧ σ32.1 218 13 = σ28.1 218 13 ∧ σ32.1 218 14 = σ28.1 218 14 ∧ σ32.1 218 15 = σ28.1 218 15 ∧ σ32.1 218 20 = σ28.1 218 20 ∧ σ32.1 218 25 = σ28.1 218 25) := hqv31
        have hkv31 := hqv31
        have hqv31 := hqv31.1
        have r230_σ32 : σ32.1 230 = σ0.1 230 := (hOσ32.2 230 (by decide)).trans r230_σ28
        have hK : TOK σ32.1 := by first | exact hqv31.1 | exact TOK_p eσ32 (by decide) hK
        have hB : ZB σ32.1 := hqv31.2.1
        try simp only [g7_σ28, g9_σ28, g10_σ28, g11_σ28, g12_σ28, g13_σ28, g14_σ28, g15_σ28, g20_σ28, g22_σ28, g23_σ28, g24_σ28, g25_σ28] at hqv31
        have g7_σ32 : σ32.1 218 7 = (σ0.1 218 7) := (hkv31.2.1).trans g7_σ28
        have g9_σ32 : σ32.1 218 9 = (σ0.1 218 9) := (hkv31.2.2.1).trans g9_σ28
        have g10_σ32 : σ32.1 218 10 = (σ0.1 218 10) := (hkv31.2.2.2.1).trans g10_σ28
        have g11_σ32 : σ32.1 218 11 = (σ0.1 218 11) := (hkv31.2.2.2.2.1).trans g11_σ28
        have g12_σ32 : σ32.1 218 12 = (σ0.1 218 12) := (hkv31.2.2.2.2.2.1).trans g12_σ28
        have g13_σ32 : σ32.1 218 13 = (σ0.1 218 13) := (hkv31.2.2.2.2.2.2.1).trans g13_σ28
        have g14_σ32 : σ32.1 218 14 = (σ23.1 218 14) := (hkv31.2.2.2.2.2.2.2.1).trans g14_σ28
        have g15_σ32 : σ32.1 218 15 = (σ23.1 218 15) := (hkv31.2.2.2.2.2.2.2.2.1).trans g15_σ28
        have g20_σ32 : σ32.1 218 20 = (σ0.1 218 20) := (hkv31.2.2.2.2.2.2.2.2.2.1).trans g20_σ28
        have g25_σ32 : σ32.1 218 25 = ((σ0.1 218 25) + 1) := (hkv31.2.2.2.2.2.2.2.2.2.2).trans g25_σ28
        have h51 := hqv31.2.2.1
        have b51 := PIL_b h51 (by decide)
        obtain ⟨b9, d9, r9, hS9, h9, hd9, hd69, hp9⟩ := h51
        rw [r230_σ32] at hS9
        have x51 := hqv31.2.2.2.2
        have o51 : σ28.1 230 = σ0.1 230 := (hOσ32.2 230 (by decide)).symm.trans r230_σ32
        rw [o51, e48] at x51
        have t51 := Stk_top2 hS9 h9 k48.1 x51
        have s22 : ((σ32.1 218 22) + 1).toInt = (σ32.1 218 22).toInt + 1 := by rw [ti_add]; simp only [Int32.reduceToInt]; omega
        refine ok_gR (v := 230) hT rfl (hR 218 21 rfl) ?_
        refine ok_gI rfl ?_
        refine ok_s14 hT rfl (by decide) (by ((try simp only [g7_σ32, g9_σ32, g10_σ32, g11_σ32, g12_σ32, g13_σ32, g14_σ32, g15_σ32, g20_σ32, g25_σ32])); first | omega | decide | (simp only [Int32.le_iff_toInt_le, Int32.lt_iff_toInt_lt, ti_add, ti_sub, ti_mul, Int32.reduceToInt] at *; omega)) (by ((try simp only [g7_σ32, g9_σ32, g10_σ32, g11_σ32, g12_σ32, g13_σ32, g14_σ32, g15_σ32, g20_σ32, g25_σ32])); first | omega | decide | (simp only [Int32.le_iff_toInt_le, Int32.lt_iff_toInt_lt, ti_add, ti_sub, ti_mul, Int32.reduceToInt] at *; omega)) (fun σ35 eσ35 hOσ35 hT => ?_)
        have a63 := zI_atI eσ35
        have i63 : ((σ32.1 218 22)).toNatClampNeg = ((σ32.1 218 22)).toInt.toNat := rfl
        have k63 : Stk (σ35.1 230) (((σ32.1 218 22)).toInt.toNat + 1) (b9 + 1) d9 (rkI (v2)).toInt.toNat := Stk_sign hS9 (fun k hk => by rw [zI_atN eσ35 (by rw [i63]; omega)]; exact congrFun r230_σ32 k) (by rw [← i63, a63]; exact w10.1) (by rw [← i63, a63]; omega) (by omega)
        have j63 : ((σ32.1 218 22) + 1).toInt.toNat = ((σ32.1 218 22)).toInt.toNat + 1 := by rw [s22]; omega
        have hK : TOK σ35.1 := TOK_tr hOσ35 (by decide) (by decide) hK
        have hB : ZB σ35.1 := ZB.tr hOσ35 (by decide) hB
        have g7_σ35 : σ35.1 218 7 = (σ0.1 218 7) := (congrFun (hOσ35.2 218 (by decide)) 7).trans g7_σ32
        have g9_σ35 : σ35.1 218 9 = (σ0.1 218 9) := (congrFun (hOσ35.2 218 (by decide)) 9).trans g9_σ32
        have g10_σ35 : σ35.1 218 10 = (σ0.1 218 10) := (congrFun (hOσ35.2 218 (by decide)) 10).trans g10_σ32
        have g11_σ35 : σ35.1 218 11 = (σ0.1 218 11) := (congrFun (hOσ35.2 218 (by decide)) 11).trans g11_σ32
        have g12_σ35 : σ35.1 218 12 = (σ0.1 218 12) := (congrFun (hOσ35.2 218 (by decide)) 12).trans g12_σ32
        have g13_σ35 : σ35.1 218 13 = (σ0.1 218 13) := (congrFun (hOσ35.2 218 (by decide)) 13).trans g13_σ32
        have g14_σ35 : σ35.1 218 14 = (σ23.1 218 14) := (congrFun (hOσ35.2 218 (by decide)) 14).trans g14_σ32
        have g15_σ35 : σ35.1 218 15 = (σ23.1 218 15) := (congrFun (hOσ35.2 218 (by decide)) 15).trans g15_σ32
        have g20_σ35 : σ35.1 218 20 = (σ0.1 218 20) := (congrFun (hOσ35.2 218 (by decide)) 20).trans g20_σ32
        have g22_σ35 : σ35.1 218 22 = (σ32.1 218 22) := congrFun (hOσ35.2 218 (by decide)) 22
        have g23_σ35 : σ35.1 218 23 = (σ32.1 218 23) := congrFun (hOσ35.2 218 (by decide)) 23
        have g24_σ35 : σ35.1 218 24 = (σ32.1 218 24) := congrFun (hOσ35.2 218 (by decide)) 24
        have g25_σ35 : σ35.1 218 25 = ((σ0.1 218 25) + 1) := (congrFun (hOσ35.2 218 (by decide)) 25).trans g25_σ32
        refine ok_gIv rfl g22_σ35 ?_
        refine ok_pI hT rfl (by decide) (fun σ37 eσ37 hOσ37 hT => ?_)
        have r230_σ37 : σ37.1 230 = σ35.1 230 := hOσ37.2 230 (by decide)
        have hK : TOK σ37.1 := by first | exact HQ.1 | exact TOK_p eσ37 (by decide) hK
        have hB : ZB σ37.1 := ZB.tr hOσ37 (by decide) hB
        have g7_σ37 : σ37.1 218 7 = (σ0.1 218 7) := (zI_atN eσ37 (by decide)).trans g7_σ35
        have g9_σ37 : σ37.1 218 9 = (σ0.1 218 9) := (zI_atN eσ37 (by decide)).trans g9_σ35
        have g10_σ37 : σ37.1 218 10 = (σ0.1 218 10) := (zI_atN eσ37 (by decide)).trans g10_σ35
        have g11_σ37 : σ37.1 218 11 = (σ0.1 218 11) := (zI_atN eσ37 (by decide)).trans g11_σ35
        have g12_σ37 : σ37.1 218 12 = (σ0.1 218 12) := (zI_atN eσ37 (by decide)).trans g12_σ35
        have g13_σ37 : σ37.1 218 13 = (σ0.1 218 13) := (zI_atN eσ37 (by decide)).trans g13_σ35
        have g14_σ37 : σ37.1 218 14 = (σ23.1 218 14) := (zI_atN eσ37 (by decide)).trans g14_σ35
        have g15_σ37 : σ37.1 218 15 = (σ23.1 218 15) := (zI_atN eσ37 (by decide)).trans g15_σ35
        have g20_σ37 : σ37.1 218 20 = (σ0.1 218 20) := (zI_atN eσ37 (by decide)).trans g20_σ35
        have g22_σ37 : σ37.1 218 22 = ((σ32.1 218 22) + 1) := zI_atI eσ37
        have g23_σ37 : σ37.1 218 23 = (σ32.1 218 23) := (zI_atN eσ37 (by decide)).trans g23_σ35
        have g24_σ37 : σ37.1 218 24 = (σ32.1 218 24) := (zI_atN eσ37 (by decide)).trans g24_σ35
        have g25_σ37 : σ37.1 218 25 = ((σ0.1 218 25) + 1) := (zI_atN eσ37 (by decide)).trans g25_σ35
        refine ok_gC rfl ?_
        refine ok_zbT (Q := fun V σ => (TOK σ.1 ∧ (σ37.1 218 10).toInt ≤ (σ.1 218 11).toInt) ∧ (σ.1 218 7 = σ37.1 218 7 ∧ σ.1 218 9 = σ37.1 218 9 ∧ σ.1 218 14 = σ37.1 218 14 ∧ σ.1 218 15 = σ37.1 218 15 ∧ σ.1 218 20 = σ37.1 218 20 ∧ σ.1 218 22 = σ37.1 218 22 ∧ σ.1 218 23 = σ37.1 218 23 ∧ σ.1 218 24 = σ37.1 218 24 ∧ σ.1 218 25 = σ37.1 218 25)) hT (s_X12_advance hN (hR.tr hT) (TOK_A hK) (by rw [hT.2 224 (by decide)]; exact hY)) (by decide) (fun v38 σ39 hOσ39 hT hqv38 => ?_)
        have hqv38 : (TOK σ39.1 ∧ (σ37.1 218 10).toInt ≤ (σ39.1 218 11).toInt) ∧ (σ39.1 218 7 = σ37.1 218 7 ∧ σ39.1 218 9 = σ37.1 218 9 ∧ σ39.1 218 14 = σ37.1 218 14 ∧ σ39.1 218 15 = σ37.1 218 15 ∧ σ39.1 218 20 = σ37.1 218 20 ∧ σ39.1 218 22 = σ37.1 218 22 ∧ σ39.1 218 23 = σ37.1 218 23 ∧ σ39.1 218 24 = σ37.1 218 24 ∧ σ39.1 218 25 = σ37.1 218 25) := hqv38
        have hkv38 := hqv38
        have hqv38 := hqv38.1
        have r230_σ39 : σ39.1 230 = σ35.1 230 := (hOσ39.2 230 (by decide)).trans r230_σ37
        have hK : TOK σ39.1 := by first | exact hqv38.1 | exact TOK_p eσ39 (by decide) hK
        have hB : ZB σ39.1 := ZB.tr hOσ39 (by decide) hB
        try simp only [g7_σ37, g9_σ37, g10_σ37, g11_σ37, g12_σ37, g13_σ37, g14_σ37, g15_σ37, g20_σ37, g22_σ37, g23_σ37, g24_σ37, g25_σ37] at hqv38
        have g7_σ39 : σ39.1 218 7 = (σ0.1 218 7) := (hkv38.2.1).trans g7_σ37
        have g9_σ39 : σ39.1 218 9 = (σ0.1 218 9) := (hkv38.2.2.1).trans g9_σ37
        have g14_σ39 : σ39.1 218 14 = (σ23.1 218 14) := (hkv38.2.2.2.1).trans g14_σ37
        have g15_σ39 : σ39.1 218 15 = (σ23.1 218 15) := (hkv38.2.2.2.2.1).trans g15_σ37
        have g20_σ39 : σ39.1 218 20 = (σ0.1 218 20) := (hkv38.2.2.2.2.2.1).trans g20_σ37
        have g22_σ39 : σ39.1 218 22 = ((σ32.1 218 22) + 1) := (hkv38.2.2.2.2.2.2.1).trans g22_σ37
        have g23_σ39 : σ39.1 218 23 = (σ32.1 218 23) := (hkv38.2.2.2.2.2.2.2.1).trans g23_σ37
        have g24_σ39 : σ39.1 218 24 = (σ32.1 218 24) := (hkv38.2.2.2.2.2.2.2.2.1).trans g24_σ37
        have g25_σ39 : σ39.1 218 25 = ((σ0.1 218 25) + 1) := (hkv38.2.2.2.2.2.2.2.2.2).trans g25_σ37
        have m75 := hqv38.2
        exact ok_some ⟨hT, (show (TOK σ39.1 ∧ ((σ0.1 218 11).toInt ≤ (σ39.1 218 11).toInt ∧ 0 ≤ (σ39.1 218 22).toInt ∧ (σ39.1 218 22).toInt ≤ 40) ∧ (σ39.1 218 14 = 0 → ((1 : Int32) = -1 → PIL σ39.1 1) ∧ ((1 : Int32) = 1 → (σ0.1 218 11).toInt < (σ39.1 218 11).toInt ∧ PIL σ39.1 0) ∧ ((1 : Int32) = 0 → (σ0.1 218 11).toInt < (σ39.1 218 11).toInt ∧ PIL σ39.1 1)) ∧ ((1 : Int32) = -1 ∨ (1 : Int32) = 1 ∨ (1 : Int32) = 0) ∧ ZB σ39.1) ∧ (σ39.1 218 7 = σ0.1 218 7 ∧ σ39.1 218 9 = σ0.1 218 9 ∧ σ39.1 218 20 = σ0.1 218 20) from ⟨by first | exact ⟨hK, ⟨by (try simp only [g7_σ39, g9_σ39, g14_σ39, g15_σ39, g20_σ39, g22_σ39, g23_σ39, g24_σ39, g25_σ39]); omega, by (try simp only [g7_σ39, g9_σ39, g14_σ39, g15_σ39, g20_σ39, g22_σ39, g23_σ39, g24_σ39, g25_σ39]); omega⟩, fun q => absurd q (by (try simp only [g7_σ39, g9_σ39, g14_σ39, g15_σ39, g20_σ39, g22_σ39, g23_σ39, g24_σ39, g25_σ39]); exact n31), Or.inl rfl, hB⟩ | exact ⟨hK, ⟨by (try simp only [g7_σ39, g9_σ39, g14_σ39, g15_σ39, g20_σ39, g22_σ39, g23_σ39, g24_σ39, g25_σ39]); omega, by (try simp only [g7_σ39, g9_σ39, g14_σ39, g15_σ39, g20_σ39, g22_σ39, g23_σ39, g24_σ39, g25_σ39]); omega⟩, fun _ => ⟨fun _ => hP, fun h => absurd h (by decide), fun h => absurd h (by decide)⟩, Or.inl rfl, hB⟩ | exact ⟨hK, ⟨by (try simp only [g7_σ39, g9_σ39, g14_σ39, g15_σ39, g20_σ39, g22_σ39, g23_σ39, g24_σ39, g25_σ39]); omega, by (try simp only [g7_σ39, g9_σ39, g14_σ39, g15_σ39, g20_σ39, g22_σ39, g23_σ39, g24_σ39, g25_σ39]); rw [s22]; omega⟩, fun _ => ⟨fun h => absurd h (by decide), fun _ => ⟨by (try simp only [g7_σ39, g9_σ39, g14_σ39, g15_σ39, g20_σ39, g22_σ39, g23_σ39, g24_σ39, g25_σ39]); omega, PIL_i g22_σ39 g23_σ39 g24_σ39 r230_σ39 (by rw [j63]; exact k63) (by rw [s22]; omega) hd9 hd69 (by omega)⟩, fun h => absurd h (by decide)⟩, Or.inr (Or.inl rfl), hB⟩ | exact ⟨hK, ⟨by (try simp only [g7_σ39, g9_σ39, g14_σ39, g15_σ39, g20_σ39, g22_σ39, g23_σ39, g24_σ39, g25_σ39]); omega, by omega⟩, fun _ => ⟨fun h => absurd h (by decide), fun h => absurd h (by decide), fun _ => ⟨by (try simp only [g7_σ39, g9_σ39, g14_σ39, g15_σ39, g20_σ39, g22_σ39, g23_σ39, g24_σ39, g25_σ39]); omega, h129⟩⟩, Or.inr (Or.inr rfl), hB⟩ | exact absurd y31 n24, g7_σ39, g9_σ39, g20_σ39⟩)⟩
    · rw [J_X12_goesBehind_27.eq_1]
      refine ok_gC rfl ?_
      refine ok_zbX (Q := fun V => (V = 0 → ¬ σ0.1 218 14 = 0) ∧ (¬ V = 0 → σ0.1 218 14 = 0)) (x_X12_good) (fun v40 hqv40 => ?_)
      have hqv40 : (v40 = 0 → ¬ σ0.1 218 14 = 0) ∧ (¬ v40 = 0 → σ0.1 218 14 = 0) := hqv40
      refine ok_if (fun hc42 => ?_) (fun hc42 => ?_)
      · have qhc42 := hqv40.1 hc42
        have n31 := qhc42
        exact ok_some ⟨hT, (show (TOK σ0.1 ∧ ((σ0.1 218 11).toInt ≤ (σ0.1 218 11).toInt ∧ 0 ≤ (σ0.1 218 22).toInt ∧ (σ0.1 218 22).toInt ≤ 40) ∧ (σ0.1 218 14 = 0 → ((-1 : Int32) = -1 → PIL σ0.1 1) ∧ ((-1 : Int32) = 1 → (σ0.1 218 11).toInt < (σ0.1 218 11).toInt ∧ PIL σ0.1 0) ∧ ((-1 : Int32) = 0 → (σ0.1 218 11).toInt < (σ0.1 218 11).toInt ∧ PIL σ0.1 1)) ∧ ((-1 : Int32) = -1 ∨ (-1 : Int32) = 1 ∨ (-1 : Int32) = 0) ∧ ZB σ0.1) ∧ (σ0.1 218 7 = σ0.1 218 7 ∧ σ0.1 218 9 = σ0.1 218 9 ∧ σ0.1 218 20 = σ0.1 218 20) from ⟨by first | exact ⟨hK, ⟨by skip; omega, by skip; omega⟩, fun q => absurd q (by skip; exact n31), Or.inl rfl, hB⟩ | exact ⟨hK, ⟨by skip; omega, by skip; omega⟩, fun _ => ⟨fun _ => hP, fun h => absurd h (by decide), fun h => absurd h (by decide)⟩, Or.inl rfl, hB⟩ | exact ⟨hK, ⟨by skip; omega, by skip; rw [s22]; omega⟩, fun _ => ⟨fun h => absurd h (by decide), fun _ => ⟨by skip; omega, PIL_i rfl rfl rfl rfl (by rw [j63]; exact k63) (by rw [s22]; omega) hd9 hd69 (by omega)⟩, fun h => absurd h (by decide)⟩, Or.inr (Or.inl rfl), hB⟩ | exact ⟨hK, ⟨by skip; omega, by omega⟩, fun _ => ⟨fun h => absurd h (by decide), fun h => absurd h (by decide), fun _ => ⟨by skip; omega, h129⟩⟩, Or.inr (Or.inr rfl), hB⟩ | exact absurd y31 n24, rfl, rfl, rfl⟩)⟩
      · have qhc42 := hqv40.2 hc42
        have y31 := qhc42
        refine ok_gI rfl ?_
        refine ok_pI hT rfl (by decide) (fun σ44 eσ44 hOσ44 hT => ?_)
        have r230_σ44 : σ44.1 230 = σ0.1 230 := hOσ44.2 230 (by decide)
        have hK : TOK σ44.1 := by first | exact HQ.1 | exact TOK_p eσ44 (by decide) hK
        have hB : ZB σ44.1 := ZB.tr hOσ44 (by decide) hB
        have g7_σ44 : σ44.1 218 7 = (σ0.1 218 7) := zI_atN eσ44 (by decide)
        have g9_σ44 : σ44.1 218 9 = (σ0.1 218 9) := zI_atN eσ44 (by decide)
        have g10_σ44 : σ44.1 218 10 = (σ0.1 218 10) := zI_atN eσ44 (by decide)
        have g11_σ44 : σ44.1 218 11 = (σ0.1 218 11) := zI_atN eσ44 (by decide)
        have g12_σ44 : σ44.1 218 12 = (σ0.1 218 12) := zI_atN eσ44 (by decide)
        have g13_σ44 : σ44.1 218 13 = (σ0.1 218 13) := zI_atN eσ44 (by decide)
        have g14_σ44 : σ44.1 218 14 = (σ0.1 218 14) := zI_atN eσ44 (by decide)
        have g15_σ44 : σ44.1 218 15 = (σ0.1 218 15) := zI_atN eσ44 (by decide)
        have g20_σ44 : σ44.1 218 20 = (σ0.1 218 20) := zI_atN eσ44 (by decide)
        have g22_σ44 : σ44.1 218 22 = (σ0.1 218 22) := zI_atN eσ44 (by decide)
        have g23_σ44 : σ44.1 218 23 = (σ0.1 218 23) := zI_atN eσ44 (by decide)
        have g24_σ44 : σ44.1 218 24 = (σ0.1 218 24) := zI_atN eσ44 (by decide)
        have g25_σ44 : σ44.1 218 25 = ((σ0.1 218 25) + 1) := zI_atI eσ44
        refine ok_zbX (Q := fun V => V = rkI v2) (x_X12_rank) (fun v45 hqv45 => ?_)
        have hqv45 : v45 = rkI v2 := hqv45
        try simp only [g7_σ44, g9_σ44, g10_σ44, g11_σ44, g12_σ44, g13_σ44, g14_σ44, g15_σ44, g20_σ44, g22_σ44, g23_σ44, g24_σ44, g25_σ44, hT.2 224 (by decide)] at hqv45
        have e48 := hqv45
        refine ok_gC rfl ?_
        refine ok_zbT (Q := fun V σ => (TOK σ.1 ∧ ZB σ.1 ∧ PIL σ.1 1 ∧ (∀ k : Nat, (k : Int) < (σ44.1 218 22).toInt → σ44.1 230 k = 100 → (k : Int) < (σ.1 218 22).toInt) ∧ ((σ.1 218 22).toInt ≤ 0 ∨ (rkI (σ44.1 230 ((σ.1 218 22) - 1).toNatClampNeg)).toInt < v45.toInt)) ∧ (σ.1 218 7 = σ44.1 218 7 ∧ σ.1 218 9 = σ44.1 218 9 ∧ σ.1 218 10 = σ44.1 218 10 ∧ σ.1 218 11 = σ44.1 218 11 ∧ σ.1 218 12 = σ44.1 218 12 ∧ σ.1 218 13 = σ44.1 218 13 ∧ σ.1 218 14 = σ44.1 218 14 ∧ σ.1 218 15 = σ44.1 218 15 ∧ σ.1 218 20 = σ44.1 218 20 ∧ σ.1 218 25 = σ44.1 218 25)) hT (s_X12_settlesTo hN (hR.tr hT) (hK) (by rw [hT.2 224 (by decide)]; exact hY) (hB) (by (try simp only [g7_σ44, g9_σ44, g10_σ44, g11_σ44, g12_σ44, g13_σ44, g14_σ44, g15_σ44, g20_σ44, g22_σ44, g23_σ44, g24_σ44, g25_σ44]); exact ha) (PIL_i g22_σ44 g23_σ44 g24_σ44 r230_σ44 hS h22 hd hd6 hp) (by rw [e48]; exact k48.1)) (by decide) (fun v47 σ48 hOσ48 hT hqv47 => ?_)
        have hqv47 : (TOK σ48.1 ∧ ZB σ48.1 ∧ PIL σ48.1 1 ∧ (∀ k : Nat, (k : Int) < (σ44.1 218 22).toInt → σ44.1 230 k = 100 → (k : Int) < (σ48.1 218 22).toInt) ∧ ((σ48.1 218 22).toInt ≤ 0 ∨ (rkI (σ44.1 230 ((σ48.1 218 22) - 1).toNatClampNeg)).toInt < v45.toInt)) ∧ (σ48.1 218 7 = σ44.1 218 7 ∧ σ48.1 218 9 = σ44.1 218 9 ∧ σ48.1 218 10 = σ44.1 218 10 ∧ σ48.1 218 11 = σ44.1 218 11 ∧ σ48.1 218 12 = σ44.1 218 12 ∧ σ48.1 218 13 = σ44.1 218 13 ∧ σ48.1 218 14 = σ44.1 218 14 ∧ σ48.1 218 15 = σ44.1 218 15 ∧ σ48.1 218 20 = σ44.1 218 20 ∧ σ48.1 218 25 = σ44.1 218 25) := hqv47
        have hkv47 := hqv47
        have hqv47 := hqv47.1
        have r230_σ48 : σ48.1 230 = σ0.1 230 := (hOσ48.2 230 (by decide)).trans r230_σ44
        have hK : TOK σ48.1 := by first | exact hqv47.1 | exact TOK_p eσ48 (by decide) hK
        have hB : ZB σ48.1 := hqv47.2.1
        try simp only [g7_σ44, g9_σ44, g10_σ44, g11_σ44, g12_σ44, g13_σ44, g14_σ44, g15_σ44, g20_σ44, g22_σ44, g23_σ44, g24_σ44, g25_σ44] at hqv47
        have g7_σ48 : σ48.1 218 7 = (σ0.1 218 7) := (hkv47.2.1).trans g7_σ44
        have g9_σ48 : σ48.1 218 9 = (σ0.1 218 9) := (hkv47.2.2.1).trans g9_σ44
        have g10_σ48 : σ48.1 218 10 = (σ0.1 218 10) := (hkv47.2.2.2.1).trans g10_σ44
        have g11_σ48 : σ48.1 218 11 = (σ0.1 218 11) := (hkv47.2.2.2.2.1).trans g11_σ44
        have g12_σ48 : σ48.1 218 12 = (σ0.1 218 12) := (hkv47.2.2.2.2.2.1).trans g12_σ44
        have g13_σ48 : σ48.1 218 13 = (σ0.1 218 13) := (hkv47.2.2.2.2.2.2.1).trans g13_σ44
        have g14_σ48 : σ48.1 218 14 = (σ0.1 218 14) := (hkv47.2.2.2.2.2.2.2.1).trans g14_σ44
        have g15_σ48 : σ48.1 218 15 = (σ0.1 218 15) := (hkv47.2.2.2.2.2.2.2.2.1).trans g15_σ44
        have g20_σ48 : σ48.1 218 20 = (σ0.1 218 20) := (hkv47.2.2.2.2.2.2.2.2.2.1).trans g20_σ44
        have g25_σ48 : σ48.1 218 25 = ((σ0.1 218 25) + 1) := (hkv47.2.2.2.2.2.2.2.2.2.2).trans g25_σ44
        have h51 := hqv47.2.2.1
        have b51 := PIL_b h51 (by decide)
        obtain ⟨b9, d9, r9, hS9, h9, hd9, hd69, hp9⟩ := h51
        rw [r230_σ48] at hS9
        have x51 := hqv47.2.2.2.2
        have o51 : σ44.1 230 = σ0.1 230 := (hOσ48.2 230 (by decide)).symm.trans r230_σ48
        rw [o51, e48] at x51
        have t51 := Stk_top2 hS9 h9 k48.1 x51
        have s22 : ((σ48.1 218 22) + 1).toInt = (σ48.1 218 22).toInt + 1 := by rw [ti_add]; simp only [Int32.reduceToInt]; omega
        refine ok_gR (v := 230) hT rfl (hR 218 21 rfl) ?_
        refine ok_gI rfl ?_
        refine ok_s14 hT rfl (by decide) (by ((try simp only [g7_σ48, g9_σ48, g10_σ48, g11_σ48, g12_σ48, g13_σ48, g14_σ48, g15_σ48, g20_σ48, g25_σ48])); first | omega | decide | (simp only [Int32.le_iff_toInt_le, Int32.lt_iff_toInt_lt, ti_add, ti_sub, ti_mul, Int32.reduceToInt] at *; omega)) (by ((try simp only [g7_σ48, g9_σ48, g10_σ48, g11_σ48, g12_σ48, g13_σ48, g14_σ48, g15_σ48, g20_σ48, g25_σ48])); first | omega | decide | (simp only [Int32.le_iff_toInt_le, Int32.lt_iff_toInt_lt, ti_add, ti_sub, ti_mul, Int32.reduceToInt] at *; omega)) (fun σ51 eσ51 hOσ51 hT => ?_)
        have a63 := zI_atI eσ51
        have i63 : ((σ48.1 218 22)).toNatClampNeg = ((σ48.1 218 22)).toInt.toNat := rfl
        have k63 : Stk (σ51.1 230) (((σ48.1 218 22)).toInt.toNat + 1) (b9 + 1) d9 (rkI (v2)).toInt.toNat := Stk_sign hS9 (fun k hk => by rw [zI_atN eσ51 (by rw [i63]; omega)]; exact congrFun r230_σ48 k) (by rw [← i63, a63]; exact w10.1) (by rw [← i63, a63]; omega) (by omega)
        have j63 : ((σ48.1 218 22) + 1).toInt.toNat = ((σ48.1 218 22)).toInt.toNat + 1 := by rw [s22]; omega
        have hK : TOK σ51.1 := TOK_tr hOσ51 (by decide) (by decide) hK
        have hB : ZB σ51.1 := ZB.tr hOσ51 (by decide) hB
        have g7_σ51 : σ51.1 218 7 = (σ0.1 218 7) := (congrFun (hOσ51.2 218 (by decide)) 7).trans g7_σ48
        have g9_σ51 : σ51.1 218 9 = (σ0.1 218 9) := (congrFun (hOσ51.2 218 (by decide)) 9).trans g9_σ48
        have g10_σ51 : σ51.1 218 10 = (σ0.1 218 10) := (congrFun (hOσ51.2 218 (by decide)) 10).trans g10_σ48
        have g11_σ51 : σ51.1 218 11 = (σ0.1 218 11) := (congrFun (hOσ51.2 218 (by decide)) 11).trans g11_σ48
        have g12_σ51 : σ51.1 218 12 = (σ0.1 218 12) := (congrFun (hOσ51.2 218 (by decide)) 12).trans g12_σ48
        have g13_σ51 : σ51.1 218 13 = (σ0.1 218 13) := (congrFun (hOσ51.2 218 (by decide)) 13).trans g13_σ48
        have g14_σ51 : σ51.1 218 14 = (σ0.1 218 14) := (congrFun (hOσ51.2 218 (by decide)) 14).trans g14_σ48
        have g15_σ51 : σ51.1 218 15 = (σ0.1 218 15) := (congrFun (hOσ51.2 218 (by decide)) 15).trans g15_σ48
        have g20_σ51 : σ51.1 218 20 = (σ0.1 218 20) := (congrFun (hOσ51.2 218 (by decide)) 20).trans g20_σ48
        have g22_σ51 : σ51.1 218 22 = (σ48.1 218 22) := congrFun (hOσ51.2 218 (by decide)) 22
        have g23_σ51 : σ51.1 218 23 = (σ48.1 218 23) := congrFun (hOσ51.2 218 (by decide)) 23
        have g24_σ51 : σ51.1 218 24 = (σ48.1 218 24) := congrFun (hOσ51.2 218 (by decide)) 24
        have g25_σ51 : σ51.1 218 25 = ((σ0.1 218 25) + 1) := (congrFun (hOσ51.2 218 (by decide)) 25).trans g25_σ48
        refine ok_gIv rfl g22_σ51 ?_
        refine ok_pI hT rfl (by decide) (fun σ53 eσ53 hOσ53 hT => ?_)
        have r230_σ53 : σ53.1 230 = σ51.1 230 := hOσ53.2 230 (by decide)
        have hK : TOK σ53.1 := by first | exact HQ.1 | exact TOK_p eσ53 (by decide) hK
        have hB : ZB σ53.1 := ZB.tr hOσ53 (by decide) hB
        have g7_σ53 : σ53.1 218 7 = (σ0.1 218 7) := (zI_atN eσ53 (by decide)).trans g7_σ51
        have g9_σ53 : σ53.1 218 9 = (σ0.1 218 9) := (zI_atN eσ53 (by decide)).trans g9_σ51
        have g10_σ53 : σ53.1 218 10 = (σ0.1 218 10) := (zI_atN eσ53 (by decide)).trans g10_σ51
        have g11_σ53 : σ53.1 218 11 = (σ0.1 218 11) := (zI_atN eσ53 (by decide)).trans g11_σ51
        have g12_σ53 : σ53.1 218 12 = (σ0.1 218 12) := (zI_atN eσ53 (by decide)).trans g12_σ51
        have g13_σ53 : σ53.1 218 13 = (σ0.1 218 13) := (zI_atN eσ53 (by decide)).trans g13_σ51
        have g14_σ53 : σ53.1 218 14 = (σ0.1 218 14) := (zI_atN eσ53 (by decide)).trans g14_σ51
        have g15_σ53 : σ53.1 218 15 = (σ0.1 218 15) := (zI_atN eσ53 (by decide)).trans g15_σ51
        have g20_σ53 : σ53.1 218 20 = (σ0.1 218 20) := (zI_atN eσ53 (by decide)).trans g20_σ51
        have g22_σ53 : σ53.1 218 22 = ((σ48.1 218 22) + 1) := zI_atI eσ53
        have g23_σ53 : σ53.1 218 23 = (σ48.1 218 23) := (zI_atN eσ53 (by decide)).trans g23_σ51
        have g24_σ53 : σ53.1 218 24 = (σ48.1 218 24) := (zI_atN eσ53 (by decide)).trans g24_σ51
        have g25_σ53 : σ53.1 218 25 = ((σ0.1 218 25) + 1) := (zI_atN eσ53 (by decide)).trans g25_σ51
        refine ok_gC rfl ?_
        refine ok_zbT (Q := fun V σ => (TOK σ.1 ∧ (σ53.1 218 10).toInt ≤ (σ.1 218 11).toInt) ∧ (σ.1 218 7 = σ53.1 218 7 ∧ σ.1 218 9 = σ53.1 218 9 ∧ σ.1 218 14 = σ53.1 218 14 ∧ σ.1 218 15 = σ53.1 218 15 ∧ σ.1 218 20 = σ53.1 218 20 ∧ σ.1 218 22 = σ53.1 218 22 ∧ σ.1 218 23 = σ53.1 218 23 ∧ σ.1 218 24 = σ53.1 218 24 ∧ σ.1 218 25 = σ53.1 218 25)) hT (s_X12_advance hN (hR.tr hT) (TOK_A hK) (by rw [hT.2 224 (by decide)]; exact hY)) (by decide) (fun v54 σ55 hOσ55 hT hqv54 => ?_)
        have hqv54 : (TOK σ55.1 ∧ (σ53.1 218 10).toInt ≤ (σ55.1 218 11).toInt) ∧ (σ55.1 218 7 = σ53.1 218 7 ∧ σ55.1 218 9 = σ53.1 218 9 ∧ σ55.1 218 14 = σ53.1 218 14 ∧ σ55.1 218 15 = σ53.1 218 15 ∧ σ55.1 218 20 = σ53.1 218 20 ∧ σ55.1 218 22 = σ53.1 218 22 ∧ σ55.1 218 23 = σ53.1 218 23 ∧ σ55.1 218 24 = σ53.1 218 24 ∧ σ55.1 218 25 = σ53.1 218 25) := hqv54
        have hkv54 := hqv54
        have hqv54 := hqv54.1
        have r230_σ55 : σ55.1 230 = σ51.1 230 := (hOσ55.2 230 (by decide)).trans r230_σ53
        have hK : TOK σ55.1 := by first | exact hqv54.1 | exact TOK_p eσ55 (by decide) hK
        have hB : ZB σ55.1 := ZB.tr hOσ55 (by decide) hB
        try simp only [g7_σ53, g9_σ53, g10_σ53, g11_σ53, g12_σ53, g13_σ53, g14_σ53, g15_σ53, g20_σ53, g22_σ53, g23_σ53, g24_σ53, g25_σ53] at hqv54
        have g7_σ55 : σ55.1 218 7 = (σ0.1 218 7) := (hkv54.2.1).trans g7_σ53
        have g9_σ55 : σ55.1 218 9 = (σ0.1 218 9) := (hkv54.2.2.1).trans g9_σ53
        have g14_σ55 : σ55.1 218 14 = (σ0.1 218 14) := (hkv54.2.2.2.1).trans g14_σ53
        have g15_σ55 : σ55.1 218 15 = (σ0.1 218 15) := (hkv54.2.2.2.2.1).trans g15_σ53
        have g20_σ55 : σ55.1 218 20 = (σ0.1 218 20) := (hkv54.2.2.2.2.2.1).trans g20_σ53
        have g22_σ55 : σ55.1 218 22 = ((σ48.1 218 22) + 1) := (hkv54.2.2.2.2.2.2.1).trans g22_σ53
        have g23_σ55 : σ55.1 218 23 = (σ48.1 218 23) := (hkv54.2.2.2.2.2.2.2.1).trans g23_σ53
        have g24_σ55 : σ55.1 218 24 = (σ48.1 218 24) := (hkv54.2.2.2.2.2.2.2.2.1).trans g24_σ53
        have g25_σ55 : σ55.1 218 25 = ((σ0.1 218 25) + 1) := (hkv54.2.2.2.2.2.2.2.2.2).trans g25_σ53
        have m75 := hqv54.2
        exact ok_some ⟨hT, (show (TOK σ55.1 ∧ ((σ0.1 218 11).toInt ≤ (σ55.1 218 11).toInt ∧ 0 ≤ (σ55.1 218 22).toInt ∧ (σ55.1 218 22).toInt ≤ 40) ∧ (σ55.1 218 14 = 0 → ((1 : Int32) = -1 → PIL σ55.1 1) ∧ ((1 : Int32) = 1 → (σ0.1 218 11).toInt < (σ55.1 218 11).toInt ∧ PIL σ55.1 0) ∧ ((1 : Int32) = 0 → (σ0.1 218 11).toInt < (σ55.1 218 11).toInt ∧ PIL σ55.1 1)) ∧ ((1 : Int32) = -1 ∨ (1 : Int32) = 1 ∨ (1 : Int32) = 0) ∧ ZB σ55.1) ∧ (σ55.1 218 7 = σ0.1 218 7 ∧ σ55.1 218 9 = σ0.1 218 9 ∧ σ55.1 218 20 = σ0.1 218 20) from ⟨by first | exact ⟨hK, ⟨by (try simp only [g7_σ55, g9_σ55, g14_σ55, g15_σ55, g20_σ55, g22_σ55, g23_σ55, g24_σ55, g25_σ55]); omega, by (try simp only [g7_σ55, g9_σ55, g14_σ55, g15_σ55, g20_σ55, g22_σ55, g23_σ55, g24_σ55, g25_σ55]); omega⟩, fun q => absurd q (by (try simp only [g7_σ55, g9_σ55, g14_σ55, g15_σ55, g20_σ55, g22_σ55, g23_σ55, g24_σ55, g25_σ55]); exact n31), Or.inl rfl, hB⟩ | exact ⟨hK, ⟨by (try simp only [g7_σ55, g9_σ55, g14_σ55, g15_σ55, g20_σ55, g22_σ55, g23_σ55, g24_σ55, g25_σ55]); omega, by (try simp only [g7_σ55, g9_σ55, g14_σ55, g15_σ55, g20_σ55, g22_σ55, g23_σ55, g24_σ55, g25_σ55]); omega⟩, fun _ => ⟨fun _ => hP, fun h => absurd h (by decide), fun h => absurd h (by decide)⟩, Or.inl rfl, hB⟩ | exact ⟨hK, ⟨by (try simp only [g7_σ55, g9_σ55, g14_σ55, g15_σ55, g20_σ55, g22_σ55, g23_σ55, g24_σ55, g25_σ55]); omega, by (try simp only [g7_σ55, g9_σ55, g14_σ55, g15_σ55, g20_σ55, g22_σ55, g23_σ55, g24_σ55, g25_σ55]); rw [s22]; omega⟩, fun _ => ⟨fun h => absurd h (by decide), fun _ => ⟨by (try simp only [g7_σ55, g9_σ55, g14_σ55, g15_σ55, g20_σ55, g22_σ55, g23_σ55, g24_σ55, g25_σ55]); omega, PIL_i g22_σ55 g23_σ55 g24_σ55 r230_σ55 (by rw [j63]; exact k63) (by rw [s22]; omega) hd9 hd69 (by omega)⟩, fun h => absurd h (by decide)⟩, Or.inr (Or.inl rfl), hB⟩ | exact ⟨hK, ⟨by (try simp only [g7_σ55, g9_σ55, g14_σ55, g15_σ55, g20_σ55, g22_σ55, g23_σ55, g24_σ55, g25_σ55]); omega, by omega⟩, fun _ => ⟨fun h => absurd h (by decide), fun h => absurd h (by decide), fun _ => ⟨by (try simp only [g7_σ55, g9_σ55, g14_σ55, g15_σ55, g20_σ55, g22_σ55, g23_σ55, g24_σ55, g25_σ55]); omega, h129⟩⟩, Or.inr (Or.inr rfl), hB⟩ | exact absurd y31 n24, g7_σ55, g9_σ55, g20_σ55⟩)⟩

set_option maxHeartbeats 4000000 in
set_option maxRecDepth 100000 in
theorem s_X12_readsSum_220 {N : Nat} (hN : 1048576 ≤ N) {x1 : Int32} {σ0 : zS}  (hR : RF σ0.2.2) (hK : TOK σ0.1) (hY : BYT (σ0.1 224)) (hB : ZB σ0.1) (hn : 0 ≤ x1.toInt ∧ x1.toInt ≤ 10) : Ok (f_X12_readsSum N 218 x1 220 σ0) (fun r => Tr [218, 226, 227, 228, 229, 230] σ0 r.2 ∧ ((TOK r.2.1 ∧ (σ0.1 218 11).toInt ≤ (r.2.1 218 11).toInt ∧ (r.2.1 218 14 = 0 → σ0.1 218 14 = 0) ∧ ZB r.2.1) ∧ (r.2.1 218 7 = σ0.1 218 7 ∧ r.2.1 218 9 = σ0.1 218 9))) := by
  have hT : Tr [218, 226, 227, 228, 229, 230] σ0 σ0 := Tr.rf
  have hK1 := hK.1
  have a20 := ti_one10 hn.1 hn.2
  rw [f_X12_readsSum.eq_1]
  refine ok_pI hT rfl (by decide) (fun σ1 eσ1 hOσ1 hT => ?_)
  have hK : TOK σ1.1 := by first | exact HQ.1 | exact TOK_p eσ1 (by decide) hK
  have hB : ZB σ1.1 := ZB.tr hOσ1 (by decide) hB
  have g7_σ1 : σ1.1 218 7 = (σ0.1 218 7) := zI_atN eσ1 (by decide)
  have g9_σ1 : σ1.1 218 9 = (σ0.1 218 9) := zI_atN eσ1 (by decide)
  have g10_σ1 : σ1.1 218 10 = (σ0.1 218 10) := zI_atN eσ1 (by decide)
  have g11_σ1 : σ1.1 218 11 = (σ0.1 218 11) := zI_atN eσ1 (by decide)
  have g12_σ1 : σ1.1 218 12 = (σ0.1 218 12) := zI_atN eσ1 (by decide)
  have g13_σ1 : σ1.1 218 13 = (σ0.1 218 13) := zI_atN eσ1 (by decide)
  have g14_σ1 : σ1.1 218 14 = (σ0.1 218 14) := zI_atN eσ1 (by decide)
  have g15_σ1 : σ1.1 218 15 = (σ0.1 218 15) := zI_atN eσ1 (by decide)
  have g20_σ1 : σ1.1 218 20 = ((1 : Int32) <<< (x1 &&& 31)) := zI_atI eσ1
  have g22_σ1 : σ1.1 218 22 = (σ0.1 218 22) := zI_atN eσ1 (by decide)
  have g23_σ1 : σ1.1 218 23 = (σ0.1 218 23) := zI_atN eσ1 (by decide)
  have g24_σ1 : σ1.1 218 24 = (σ0.1 218 24) := zI_atN eσ1 (by decide)
  have g25_σ1 : σ1.1 218 25 = (σ0.1 218 25) := zI_atN eσ1 (by decide)
  refine ok_pI hT rfl (by decide) (fun σ2 eσ2 hOσ2 hT => ?_)
  have hK : TOK σ2.1 := by first | exact HQ.1 | exact TOK_p eσ2 (by decide) hK
  have hB : ZB σ2.1 := ZB.tr hOσ2 (by decide) hB
  have g7_σ2 : σ2.1 218 7 = (σ0.1 218 7) := (zI_atN eσ2 (by decide)).trans g7_σ1
  have g9_σ2 : σ2.1 218 9 = (σ0.1 218 9) := (zI_atN eσ2 (by decide)).trans g9_σ1
  have g10_σ2 : σ2.1 218 10 = (σ0.1 218 10) := (zI_atN eσ2 (by decide)).trans g10_σ1
  have g11_σ2 : σ2.1 218 11 = (σ0.1 218 11) := (zI_atN eσ2 (by decide)).trans g11_σ1
  have g12_σ2 : σ2.1 218 12 = (σ0.1 218 12) := (zI_atN eσ2 (by decide)).trans g12_σ1
  have g13_σ2 : σ2.1 218 13 = (σ0.1 218 13) := (zI_atN eσ2 (by decide)).trans g13_σ1
  have g14_σ2 : σ2.1 218 14 = (σ0.1 218 14) := (zI_atN eσ2 (by decide)).trans g14_σ1
  have g15_σ2 : σ2.1 218 15 = (σ0.1 218 15) := (zI_atN eσ2 (by decide)).trans g15_σ1
  have g20_σ2 : σ2.1 218 20 = ((1 : Int32) <<< (x1 &&& 31)) := (zI_atN eσ2 (by decide)).trans g20_σ1
  have g22_σ2 : σ2.1 218 22 = (0 : Int32) := zI_atI eσ2
  have g23_σ2 : σ2.1 218 23 = (σ0.1 218 23) := (zI_atN eσ2 (by decide)).trans g23_σ1
  have g24_σ2 : σ2.1 218 24 = (σ0.1 218 24) := (zI_atN eσ2 (by decide)).trans g24_σ1
  have g25_σ2 : σ2.1 218 25 = (σ0.1 218 25) := (zI_atN eσ2 (by decide)).trans g25_σ1
  refine ok_pI hT rfl (by decide) (fun σ3 eσ3 hOσ3 hT => ?_)
  have hK : TOK σ3.1 := by first | exact HQ.1 | exact TOK_p eσ3 (by decide) hK
  have hB : ZB σ3.1 := ZB.tr hOσ3 (by decide) hB
  have g7_σ3 : σ3.1 218 7 = (σ0.1 218 7) := (zI_atN eσ3 (by decide)).trans g7_σ2
  have g9_σ3 : σ3.1 218 9 = (σ0.1 218 9) := (zI_atN eσ3 (by decide)).trans g9_σ2
  have g10_σ3 : σ3.1 218 10 = (σ0.1 218 10) := (zI_atN eσ3 (by decide)).trans g10_σ2
  have g11_σ3 : σ3.1 218 11 = (σ0.1 218 11) := (zI_atN eσ3 (by decide)).trans g11_σ2
  have g12_σ3 : σ3.1 218 12 = (σ0.1 218 12) := (zI_atN eσ3 (by decide)).trans g12_σ2
  have g13_σ3 : σ3.1 218 13 = (σ0.1 218 13) := (zI_atN eσ3 (by decide)).trans g13_σ2
  have g14_σ3 : σ3.1 218 14 = (σ0.1 218 14) := (zI_atN eσ3 (by decide)).trans g14_σ2
  have g15_σ3 : σ3.1 218 15 = (σ0.1 218 15) := (zI_atN eσ3 (by decide)).trans g15_σ2
  have g20_σ3 : σ3.1 218 20 = ((1 : Int32) <<< (x1 &&& 31)) := (zI_atN eσ3 (by decide)).trans g20_σ2
  have g22_σ3 : σ3.1 218 22 = (0 : Int32) := (zI_atN eσ3 (by decide)).trans g22_σ2
  have g23_σ3 : σ3.1 218 23 = (0 : Int32) := zI_atI eσ3
  have g24_σ3 : σ3.1 218 24 = (σ0.1 218 24) := (zI_atN eσ3 (by decide)).trans g24_σ2
  have g25_σ3 : σ3.1 218 25 = (σ0.1 218 25) := (zI_atN eσ3 (by decide)).trans g25_σ2
  refine ok_pI hT rfl (by decide) (fun σ4 eσ4 hOσ4 hT => ?_)
  have hK : TOK σ4.1 := by first | exact HQ.1 | exact TOK_p eσ4 (by decide) hK
  have hB : ZB σ4.1 := ZB.tr hOσ4 (by decide) hB
  have g7_σ4 : σ4.1 218 7 = (σ0.1 218 7) := (zI_atN eσ4 (by decide)).trans g7_σ3
  have g9_σ4 : σ4.1 218 9 = (σ0.1 218 9) := (zI_atN eσ4 (by decide)).trans g9_σ3
  have g10_σ4 : σ4.1 218 10 = (σ0.1 218 10) := (zI_atN eσ4 (by decide)).trans g10_σ3
  have g11_σ4 : σ4.1 218 11 = (σ0.1 218 11) := (zI_atN eσ4 (by decide)).trans g11_σ3
  have g12_σ4 : σ4.1 218 12 = (σ0.1 218 12) := (zI_atN eσ4 (by decide)).trans g12_σ3
  have g13_σ4 : σ4.1 218 13 = (σ0.1 218 13) := (zI_atN eσ4 (by decide)).trans g13_σ3
  have g14_σ4 : σ4.1 218 14 = (σ0.1 218 14) := (zI_atN eσ4 (by decide)).trans g14_σ3
  have g15_σ4 : σ4.1 218 15 = (σ0.1 218 15) := (zI_atN eσ4 (by decide)).trans g15_σ3
  have g20_σ4 : σ4.1 218 20 = ((1 : Int32) <<< (x1 &&& 31)) := (zI_atN eσ4 (by decide)).trans g20_σ3
  have g22_σ4 : σ4.1 218 22 = (0 : Int32) := (zI_atN eσ4 (by decide)).trans g22_σ3
  have g23_σ4 : σ4.1 218 23 = (0 : Int32) := (zI_atN eσ4 (by decide)).trans g23_σ3
  have g24_σ4 : σ4.1 218 24 = (0 : Int32) := zI_atI eσ4
  have g25_σ4 : σ4.1 218 25 = (σ0.1 218 25) := (zI_atN eσ4 (by decide)).trans g25_σ3
  have hPP : PIL σ4.1 0 := PIL_i (b := 0) (d := 0) (r := 0) g22_σ4 g23_σ4 g24_σ4 rfl (by rw [show (0 : Int32).toInt.toNat = 0 by decide]; exact ⟨rfl, rfl, rfl⟩) (by decide) (by decide) (by decide) (by decide)
  refine ok_lp (fun t : Int32 × Int32 × zS => Tr [218, 226, 227, 228, 229, 230] σ0 (t.2.2) ∧ ((((t.2.2).1 218 14 = 0 → σ0.1 218 14 = 0) ∧ (σ0.1 218 11).toInt ≤ ((t.2.2).1 218 11).toInt ∧ 0 ≤ ((t.2.2).1 218 22).toInt ∧ ((t.2.2).1 218 22).toInt ≤ 40) ∧ ((t.2.2).1 218 14 = 0 → (¬ (t.2.1) = 0 → ((t.1) = 0 → PIL (t.2.2).1 0) ∧ (¬ (t.1) = 0 → PIL (t.2.2).1 1)) ∧ ((t.2.1) = 0 → PIL (t.2.2).1 1))) ∧ (TOK (t.2.2).1) ∧ (ZB (t.2.2).1) ∧ ((t.2.2).1 218 7 = (σ0.1 218 7)) ∧ ((t.2.2).1 218 9 = (σ0.1 218 9)) ∧ ((t.2.2).1 218 20 = ((1 : Int32) <<< (x1 &&& 31)))) (fun t : Int32 × Int32 × zS => (600 - ((t.2.2).1 218 11).toInt).toNat + (if (t.2.2).1 218 14 = 0 then 1 else 0) + (if (t.2.1) = 0 then 0 else 1)) (fun again5 t hI ih27_5 => ?_) N _ (show Tr [218, 226, 227, 228, 229, 230] σ0 σ4 ∧ (((σ4.1 218 14 = 0 → σ0.1 218 14 = 0) ∧ (σ0.1 218 11).toInt ≤ (σ4.1 218 11).toInt ∧ 0 ≤ (σ4.1 218 22).toInt ∧ (σ4.1 218 22).toInt ≤ 40) ∧ (σ4.1 218 14 = 0 → (¬ (1 : Int32) = 0 → ((0 : Int32) = 0 → PIL σ4.1 0) ∧ (¬ (0 : Int32) = 0 → PIL σ4.1 1)) ∧ ((1 : Int32) = 0 → PIL σ4.1 1))) ∧ (TOK σ4.1) ∧ (ZB σ4.1) ∧ (σ4.1 218 7 = (σ0.1 218 7)) ∧ (σ4.1 218 9 = (σ0.1 218 9)) ∧ (σ4.1 218 20 = ((1 : Int32) <<< (x1 &&& 31))) from ⟨hT, (by exact ⟨⟨fun q => by rw [g14_σ4] at q; exact q, by (try simp only [g7_σ4, g9_σ4, g10_σ4, g11_σ4, g12_σ4, g13_σ4, g14_σ4, g15_σ4, g20_σ4, g22_σ4, g23_σ4, g24_σ4, g25_σ4]); omega, by (try simp only [g7_σ4, g9_σ4, g10_σ4, g11_σ4, g12_σ4, g13_σ4, g14_σ4, g15_σ4, g20_σ4, g22_σ4, g23_σ4, g24_σ4, g25_σ4]); simp only [Int32.reduceToInt]; omega⟩, fun _ => ⟨fun _ => ⟨fun _ => hPP, fun h => absurd rfl h⟩, fun h => absurd h (by decide)⟩⟩), hK, hB, g7_σ4, g9_σ4, g20_σ4⟩) (show (600 - (σ4.1 218 11).toInt).toNat + (if σ4.1 218 14 = 0 then 1 else 0) + (if (1 : Int32) = 0 then 0 else 1) < N from (by (try simp only [g7_σ4, g9_σ4, g10_σ4, g11_σ4, g12_σ4, g13_σ4, g14_σ4, g15_σ4, g20_σ4, g22_σ4, g23_σ4, g24_σ4, g25_σ4]); split <;> split <;> omega))
  obtain ⟨x3_5, x4_5, σ5⟩ := t
  have hI : Tr [218, 226, 227, 228, 229, 230] σ0 σ5 ∧ (((σ5.1 218 14 = 0 → σ0.1 218 14 = 0) ∧ (σ0.1 218 11).toInt ≤ (σ5.1 218 11).toInt ∧ 0 ≤ (σ5.1 218 22).toInt ∧ (σ5.1 218 22).toInt ≤ 40) ∧ (σ5.1 218 14 = 0 → (¬ x4_5 = 0 → (x3_5 = 0 → PIL σ5.1 0) ∧ (¬ x3_5 = 0 → PIL σ5.1 1)) ∧ (x4_5 = 0 → PIL σ5.1 1))) ∧ (TOK σ5.1) ∧ (ZB σ5.1) ∧ (σ5.1 218 7 = (σ0.1 218 7)) ∧ (σ5.1 218 9 = (σ0.1 218 9)) ∧ (σ5.1 218 20 = ((1 : Int32) <<< (x1 &&& 31))) := hI
  obtain ⟨hT, hI5, hK, hB, g7_σ5, g9_σ5, g20_σ5⟩ := hI
  rw [F_X12_readsSum_27.eq_1]
  have i1 := hI5.1
  have i2 := hI5.2
  have hK9 := hK.1
  refine ok_gC rfl ?_
  refine ok_zbX (Q := fun V => (V = 0 → ¬ σ5.1 218 14 = 0) ∧ (¬ V = 0 → σ5.1 218 14 = 0)) (x_X12_good) (fun v6 hqv6 => ?_)
  have hqv6 : (v6 = 0 → ¬ σ5.1 218 14 = 0) ∧ (¬ v6 = 0 → σ5.1 218 14 = 0) := hqv6
  try simp only [g7_σ5, g9_σ5, g20_σ5, hT.2 224 (by decide)] at hqv6
  refine ok_if (fun hc8 => ?_) (fun hc8 => ?_)
  · have qhc8 := hqv6.1 hc8
    have n31 := qhc8
    rw [J_X12_readsSum_86.eq_1]
    refine ok_gC rfl ?_
    refine ok_zbX (Q := fun V => (V = 0 → True) ∧ (¬ V = 0 → ∃ k : Nat, (k : Int) < (σ5.1 218 22).toInt ∧ σ5.1 230 k = 100)) (x_X12_isOpen hN (hR.tr hT) ⟨by omega, by omega⟩) (fun v9 hqv9 => ?_)
    have hqv9 : (v9 = 0 → True) ∧ (¬ v9 = 0 → ∃ k : Nat, (k : Int) < (σ5.1 218 22).toInt ∧ σ5.1 230 k = 100) := hqv9
    try simp only [g7_σ5, g9_σ5, g20_σ5, hT.2 224 (by decide)] at hqv9
    refine ok_if (fun hc11 => ?_) (fun hc11 => ?_)
    · have qhc11 := hqv9.1 hc11
      rw [J_X12_readsSum_98.eq_1]
      refine ok_gC rfl ?_
      refine ok_zbX (Q := fun V => (V = 0 → ¬ σ5.1 218 14 = 0) ∧ (¬ V = 0 → σ5.1 218 14 = 0)) (x_X12_good) (fun v12 hqv12 => ?_)
      have hqv12 : (v12 = 0 → ¬ σ5.1 218 14 = 0) ∧ (¬ v12 = 0 → σ5.1 218 14 = 0) := hqv12
      try simp only [g7_σ5, g9_σ5, g20_σ5, hT.2 224 (by decide)] at hqv12
      refine ok_if (fun hc14 => ?_) (fun hc14 => ?_)
      · have qhc14 := hqv12.1 hc14
        have n102 := qhc14
        exact ok_some ⟨hT, (show (TOK σ5.1 ∧ (σ0.1 218 11).toInt ≤ (σ5.1 218 11).toInt ∧ (σ5.1 218 14 = 0 → σ0.1 218 14 = 0) ∧ ZB σ5.1) ∧ (σ5.1 218 7 = σ0.1 218 7 ∧ σ5.1 218 9 = σ0.1 218 9) from ⟨by first | exact ⟨hK, by (try simp only [g7_σ5, g9_σ5, g20_σ5]); omega, fun q => absurd q (by (try simp only [g7_σ5, g9_σ5, g20_σ5]); exact n102), hB⟩ | exact ⟨hK, by (try simp only [g7_σ5, g9_σ5, g20_σ5]); omega, fun _ => i1.1 y31, hB⟩ | exact absurd y102 n31 | exact absurd y102 n95, g7_σ5, g9_σ5⟩)⟩
      · have qhc14 := hqv12.2 hc14
        have y102 := qhc14
        refine ok_gC rfl ?_
        refine ok_zbT (Q := fun V σ => (TOK σ.1 ∧ ZB σ.1 ∧ PIL σ.1 1 ∧ (∀ k : Nat, (k : Int) < (σ5.1 218 22).toInt → σ5.1 230 k = 100 → (k : Int) < (σ.1 218 22).toInt) ∧ ((σ.1 218 22).toInt ≤ 0 ∨ (rkI (σ5.1 230 ((σ.1 218 22) - 1).toNatClampNeg)).toInt < (1 : Int32).toInt)) ∧ (σ.1 218 7 = σ5.1 218 7 ∧ σ.1 218 9 = σ5.1 218 9 ∧ σ.1 218 10 = σ5.1 218 10 ∧ σ.1 218 11 = σ5.1 218 11 ∧ σ.1 218 12 = σ5.1 218 12 ∧ σ.1 218 13 = σ5.1 218 13 ∧ σ.1 218 14 = σ5.1 218 14 ∧ σ.1 218 15 = σ5.1 218 15 ∧ σ.1 218 20 = σ5.1 218 20 ∧ σ.1 218 25 = σ5.1 218 25)) hT (s_X12_settlesTo hN (hR.tr hT) (hK) (by rw [hT.2 224 (by decide)]; exact hY) (hB) (by (try simp only [g7_σ5, g9_σ5, g20_σ5]); omega) (by first | exact (i2 y31).2 e36 | exact absurd y102 n31 | exact absurd y102 n95) (by decide)) (by decide) (fun v15 σ16 hOσ16 hT hqv15 => ?_)
        have hqv15 : (TOK σ16.1 ∧ ZB σ16.1 ∧ PIL σ16.1 1 ∧ (∀ k : Nat, (k : Int) < (σ5.1 218 22).toInt → σ5.1 230 k = 100 → (k : Int) < (σ16.1 218 22).toInt) ∧ ((σ16.1 218 22).toInt ≤ 0 ∨ (rkI (σ5.1 230 ((σ16.1 218 22) - 1).toNatClampNeg)).toInt < (1 : Int32).toInt)) ∧ (σ16.1 218 7 = σ5.1 218 7 ∧ σ16.1 218 9 = σ5.1 218 9 ∧ σ16.1 218 10 = σ5.1 218 10 ∧ σ16.1 218 11 = σ5.1 218 11 ∧ σ16.1 218 12 = σ5.1 218 12 ∧ σ16.1 218 13 = σ5.1 218 13 ∧ σ16.1 218 14 = σ5.1 218 14 ∧ σ16.1 218 15 = σ5.1 218 15 ∧ σ16.1 218 20 = σ5.1 218 20 ∧ σ16.1 218 25 = σ5.1 218 25) := hqv15
        have hkv15 := hqv15
        have hqv15 := hqv15.1
        have hK : TOK σ16.1 := by first | exact hqv15.1 | exact TOK_p eσ16 (by decide) hK
        have hB : ZB σ16.1 := by first | exact hqv15.2.1 | exact hqv15.2.2.2 | exact hqv15.2.2.2.2
        try simp only [g7_σ5, g9_σ5, g20_σ5] at hqv15
        have g7_σ16 : σ16.1 218 7 = (σ0.1 218 7) := (hkv15.2.1).trans g7_σ5
        have g9_σ16 : σ16.1 218 9 = (σ0.1 218 9) := (hkv15.2.2.1).trans g9_σ5
        have g10_σ16 : σ16.1 218 10 = (σ5.1 218 10) := hkv15.2.2.2.1
        have g11_σ16 : σ16.1 218 11 = (σ5.1 218 11) := hkv15.2.2.2.2.1
        have g12_σ16 : σ16.1 218 12 = (σ5.1 218 12) := hkv15.2.2.2.2.2.1
        have g13_σ16 : σ16.1 218 13 = (σ5.1 218 13) := hkv15.2.2.2.2.2.2.1
        have g14_σ16 : σ16.1 218 14 = (σ5.1 218 14) := hkv15.2.2.2.2.2.2.2.1
        have g15_σ16 : σ16.1 218 15 = (σ5.1 218 15) := hkv15.2.2.2.2.2.2.2.2.1
        have g20_σ16 : σ16.1 218 20 = ((1 : Int32) <<< (x1 &&& 31)) := (hkv15.2.2.2.2.2.2.2.2.2.1).trans g20_σ5
        have g25_σ16 : σ16.1 218 25 = (σ5.1 218 25) := hkv15.2.2.2.2.2.2.2.2.2.2
        exact ok_some ⟨hT, (show (TOK σ16.1 ∧ (σ0.1 218 11).toInt ≤ (σ16.1 218 11).toInt ∧ (σ16.1 218 14 = 0 → σ0.1 218 14 = 0) ∧ ZB σ16.1) ∧ (σ16.1 218 7 = σ0.1 218 7 ∧ σ16.1 218 9 = σ0.1 218 9) from ⟨by first | exact ⟨hK, by (try simp only [g7_σ16, g9_σ16, g10_σ16, g11_σ16, g12_σ16, g13_σ16, g14_σ16, g15_σ16, g20_σ16, g25_σ16]); omega, fun q => absurd q (by (try simp only [g7_σ16, g9_σ16, g10_σ16, g11_σ16, g12_σ16, g13_σ16, g14_σ16, g15_σ16, g20_σ16, g25_σ16]); exact n102), hB⟩ | exact ⟨hK, by (try simp only [g7_σ16, g9_σ16, g10_σ16, g11_σ16, g12_σ16, g13_σ16, g14_σ16, g15_σ16, g20_σ16, g25_σ16]); omega, fun _ => i1.1 y31, hB⟩ | exact absurd y102 n31 | exact absurd y102 n95, g7_σ16, g9_σ16⟩)⟩
    · have qhc11 := hqv9.2 hc11
      refine ok_gC rfl ?_
      refine ok_zbT (Q := fun V σ => (TOK σ.1 ∧ ¬ σ.1 218 14 = 0) ∧ (σ.1 218 7 = σ5.1 218 7 ∧ σ.1 218 9 = σ5.1 218 9 ∧ σ.1 218 10 = σ5.1 218 10 ∧ σ.1 218 11 = σ5.1 218 11 ∧ σ.1 218 12 = σ5.1 218 12 ∧ σ.1 218 13 = σ5.1 218 13 ∧ σ.1 218 20 = σ5.1 218 20 ∧ σ.1 218 22 = σ5.1 218 22 ∧ σ.1 218 23 = σ5.1 218 23 ∧ σ.1 218 24 = σ5.1 218 24 ∧ σ.1 218 25 = σ5.1 218 25)) hT (s_X12_errs hN (hR.tr hT) (hK) (by rw [hT.2 224 (by decide)]; exact hY) (by decide)) (by decide) (fun v17 σ18 hOσ18 hT hqv17 => ?_)
      have hqv17 : (TOK σ18.1 ∧ ¬ σ18.1 218 14 = 0) ∧ (σ18.1 218 7 = σ5.1 218 7 ∧ σ18.1 218 9 = σ5.1 218 9 ∧ σ18.1 218 10 = σ5.1 218 10 ∧ σ18.1 218 11 = σ5.1 218 11 ∧ σ18.1 218 12 = σ5.1 218 12 ∧ σ18.1 218 13 = σ5.1 218 13 ∧ σ18.1 218 20 = σ5.1 218 20 ∧ σ18.1 218 22 = σ5.1 218 22 ∧ σ18.1 218 23 = σ5.1 218 23 ∧ σ18.1 218 24 = σ5.1 218 24 ∧ σ18.1 218 25 = σ5.1 218 25) := hqv17
      have hkv17 := hqv17
      have hqv17 := hqv17.1
      have hK : TOK σ18.1 := by first | exact hqv17.1 | exact TOK_p eσ18 (by decide) hK
      have hB : ZB σ18.1 := ZB.tr hOσ18 (by decide) hB
      try simp only [g7_σ5, g9_σ5, g20_σ5] at hqv17
      have g7_σ18 : σ18.1 218 7 = (σ0.1 218 7) := (hkv17.2.1).trans g7_σ5
      have g9_σ18 : σ18.1 218 9 = (σ0.1 218 9) := (hkv17.2.2.1).trans g9_σ5
      have g10_σ18 : σ18.1 218 10 = (σ5.1 218 10) := hkv17.2.2.2.1
      have g11_σ18 : σ18.1 218 11 = (σ5.1 218 11) := hkv17.2.2.2.2.1
      have g12_σ18 : σ18.1 218 12 = (σ5.1 218 12) := hkv17.2.2.2.2.2.1
      have g13_σ18 : σ18.1 218 13 = (σ5.1 218 13) := hkv17.2.2.2.2.2.2.1
      have g20_σ18 : σ18.1 218 20 = ((1 : Int32) <<< (x1 &&& 31)) := (hkv17.2.2.2.2.2.2.2.1).trans g20_σ5
      have g22_σ18 : σ18.1 218 22 = (σ5.1 218 22) := hkv17.2.2.2.2.2.2.2.2.1
      have g23_σ18 : σ18.1 218 23 = (σ5.1 218 23) := hkv17.2.2.2.2.2.2.2.2.2.1
      have g24_σ18 : σ18.1 218 24 = (σ5.1 218 24) := hkv17.2.2.2.2.2.2.2.2.2.2.1
      have g25_σ18 : σ18.1 218 25 = (σ5.1 218 25) := hkv17.2.2.2.2.2.2.2.2.2.2.2
      have n95 := hqv17.2
      rw [J_X12_readsSum_98.eq_1]
      refine ok_gC rfl ?_
      refine ok_zbX (Q := fun V => (V = 0 → ¬ σ18.1 218 14 = 0) ∧ (¬ V = 0 → σ18.1 218 14 = 0)) (x_X12_good) (fun v19 hqv19 => ?_)
      have hqv19 : (v19 = 0 → ¬ σ18.1 218 14 = 0) ∧ (¬ v19 = 0 → σ18.1 218 14 = 0) := hqv19
      try simp only [g7_σ18, g9_σ18, g10_σ18, g11_σ18, g12_σ18, g13_σ18, g20_σ18, g22_σ18, g23_σ18, g24_σ18, g25_σ18, hT.2 224 (by decide)] at hqv19
      refine ok_if (fun hc21 => ?_) (fun hc21 => ?_)
      · have qhc21 := hqv19.1 hc21
        have n102 := qhc21
        exact ok_some ⟨hT, (show (TOK σ18.1 ∧ (σ0.1 218 11).toInt ≤ (σ18.1 218 11).toInt ∧ (σ18.1 218 14 = 0 → σ0.1 218 14 = 0) ∧ ZB σ18.1) ∧ (σ18.1 218 7 = σ0.1 218 7 ∧ σ18.1 218 9 = σ0.1 218 9) from ⟨by first | exact ⟨hK, by (try simp only [g7_σ18, g9_σ18, g10_σ18, g11_σ18, g12_σ18, g13_σ18, g20_σ18, g22_σ18, g23_σ18, g24_σ18, g25_σ18]); omega, fun q => absurd q (by (try simp only [g7_σ18, g9_σ18, g10_σ18, g11_σ18, g12_σ18, g13_σ18, g20_σ18, g22_σ18, g23_σ18, g24_σ18, g25_σ18]); exact n102), hB⟩ | exact ⟨hK, by (try simp only [g7_σ18, g9_σ18, g10_σ18, g11_σ18, g12_σ18, g13_σ18, g20_σ18, g22_σ18, g23_σ18, g24_σ18, g25_σ18]); omega, fun _ => i1.1 y31, hB⟩ | exact absurd y102 n31 | exact absurd y102 n95, g7_σ18, g9_σ18⟩)⟩
      · have qhc21 := hqv19.2 hc21
        have y102 := qhc21
        refine ok_gC rfl ?_
        refine ok_zbT (Q := fun V σ => (TOK σ.1 ∧ ZB σ.1 ∧ PIL σ.1 1 ∧ (∀ k : Nat, (k : Int) < (σ18.1 218 22).toInt → σ18.1 230 k = 100 → (k : Int) < (σ.1 218 22).toInt) ∧ ((σ.1 218 22).toInt ≤ 0 ∨ (rkI (σ18.1 230 ((σ.1 218 22) - 1).toNatClampNeg)).toInt < (1 : Int32).toInt)) ∧ (σ.1 218 7 = σ18.1 218 7 ∧ σ.1 218 9 = σ18.1 218 9 ∧ σ.1 218 10 = σ18.1 218 10 ∧ σ.1 218 11 = σ18.1 218 11 ∧ σ.1 218 12 = σ18.1 218 12 ∧ σ.1 218 13 = σ18.1 218 13 ∧ σ.1 218 14 = σ18.1 218 14 ∧ σ.1 218 15 = σ18.1 218 15 ∧ σ.1 218 20 = σ18.1 218 20 ∧ σ.1 218 25 = σ18.1 218 25)) hT (s_X12_settlesTo hN (hR.tr hT) (hK) (by rw [hT.2 224 (by decide)]; exact hY) (hB) (by (try simp only [g7_σ18, g9_σ18, g10_σ18, g11_σ18, g12_σ18, g13_σ18, g20_σ18, g22_σ18, g23_σ18, g24_σ18, g25_σ18]); omega) (by first | exact (i2 y31).2 e36 | exact absurd y102 n31 | exact absurd y102 n95) (by decide)) (by decide) (fun v22 σ23 hOσ23 hT hqv22 => ?_)
        have hqv22 : (TOK σ23.1 ∧ ZB σ23.1 ∧ PIL σ23.1 1 ∧ (∀ k : Nat, (k : Int) < (σ18.1 218 22).toInt → σ18.1 230 k = 100 → (k : Int) < (σ23.1 218 22).toInt) ∧ ((σ23.1 218 22).toInt ≤ 0 ∨ (rkI (σ18.1 230 ((σ23.1 218 22) - 1).toNatClampNeg)).toInt < (1 : Int32).toInt)) ∧ (σ23.1 218 7 = σ18.1 218 7 ∧ σ23.1 218 9 = σ18.1 218 9 ∧ σ23.1 218 10 = σ18.1 218 10 ∧ σ23.1 218 11 = σ18.1 218 11 ∧ σ23.1 218 12 = σ18.1 218 12 ∧ σ23.1 218 13 = σ18.1 218 13 ∧ σ23.1 218 14 = σ18.1 218 14 ∧ σ23.1 218 15 = σ18.1 218 15 ∧ σ23.1 218 20 = σ18.1 218 20 ∧ σ23.1 218 25 = σ18.1 218 25) := hqv22
        have hkv22 := hqv22
        have hqv22 := hqv22.1
        have hK : TOK σ23.1 := by first | exact hqv22.1 | exact TOK_p eσ23 (by decide) hK
        have hB : ZB σ23.1 := by first | exact hqv22.2.1 | exact hqv22.2.2.2 | exact hqv22.2.2.2.2
        try simp only [g7_σ18, g9_σ18, g10_σ18, g11_σ18, g12_σ18, g13_σ18, g20_σ18, g22_σ18, g23_σ18, g24_σ18, g25_σ18] at hqv22
        have g7_σ23 : σ23.1 218 7 = (σ0.1 218 7) := (hkv22.2.1).trans g7_σ18
        have g9_σ23 : σ23.1 218 9 = (σ0.1 218 9) := (hkv22.2.2.1).trans g9_σ18
        have g10_σ23 : σ23.1 218 10 = (σ5.1 218 10) := (hkv22.2.2.2.1).trans g10_σ18
        have g11_σ23 : σ23.1 218 11 = (σ5.1 218 11) := (hkv22.2.2.2.2.1).trans g11_σ18
        have g12_σ23 : σ23.1 218 12 = (σ5.1 218 12) := (hkv22.2.2.2.2.2.1).trans g12_σ18
        have g13_σ23 : σ23.1 218 13 = (σ5.1 218 13) := (hkv22.2.2.2.2.2.2.1).trans g13_σ18
        have g14_σ23 : σ23.1 218 14 = (σ18.1 218 14) := hkv22.2.2.2.2.2.2.2.1
        have g15_σ23 : σ23.1 218 15 = (σ18.1 218 15) := hkv22.2.2.2.2.2.2.2.2.1
        have g20_σ23 : σ23.1 218 20 = ((1 : Int32) <<< (x1 &&& 31)) := (hkv22.2.2.2.2.2.2.2.2.2.1).trans g20_σ18
        have g25_σ23 : σ23.1 218 25 = (σ5.1 218 25) := (hkv22.2.2.2.2.2.2.2.2.2.2).trans g25_σ18
        exact ok_some ⟨hT, (show (TOK σ23.1 ∧ (σ0.1 218 11).toInt ≤ (σ23.1 218 11).toInt ∧ (σ23.1 218 14 = 0 → σ0.1 218 14 = 0) ∧ ZB σ23.1) ∧ (σ23.1 218 7 = σ0.1 218 7 ∧ σ23.1 218 9 = σ0.1 218 9) from ⟨by first | exact ⟨hK, by (try simp only [g7_σ23, g9_σ23, g10_σ23, g11_σ23, g12_σ23, g13_σ23, g14_σ23, g15_σ23, g20_σ23, g25_σ23]); omega, fun q => absurd q (by (try simp only [g7_σ23, g9_σ23, g10_σ23, g11_σ23, g12_σ23, g13_σ23, g14_σ23, g15_σ23, g20_σ23, g25_σ23]); exact n102), hB⟩ | exact ⟨hK, by (try simp only [g7_σ23, g9_σ23, g10_σ23, g11_σ23, g12_σ23, g13_σ23, g14_σ23, g15_σ23, g20_σ23, g25_σ23]); omega, fun _ => i1.1 y31, hB⟩ | exact absurd y102 n31 | exact absurd y102 n95, g7_σ23, g9_σ23⟩)⟩
  · have qhc8 := hqv6.2 hc8
    have y31 := qhc8
    refine ok_if (fun hc24 => ?_) (fun hc24 => ?_)
    · have e36 := hc24
      rw [J_X12_readsSum_86.eq_1]
      refine ok_gC rfl ?_
      refine ok_zbX (Q := fun V => (V = 0 → True) ∧ (¬ V = 0 → ∃ k : Nat, (k : Int) < (σ5.1 218 22).toInt ∧ σ5.1 230 k = 100)) (x_X12_isOpen hN (hR.tr hT) ⟨by omega, by omega⟩) (fun v25 hqv25 => ?_)
      have hqv25 : (v25 = 0 → True) ∧ (¬ v25 = 0 → ∃ k : Nat, (k : Int) < (σ5.1 218 22).toInt ∧ σ5.1 230 k = 100) := hqv25
      try simp only [g7_σ5, g9_σ5, g20_σ5, hT.2 224 (by decide)] at hqv25
      refine ok_if (fun hc27 => ?_) (fun hc27 => ?_)
      · have qhc27 := hqv25.1 hc27
        rw [J_X12_readsSum_98.eq_1]
        refine ok_gC rfl ?_
        refine ok_zbX (Q := fun V => (V = 0 → ¬ σ5.1 218 14 = 0) ∧ (¬ V = 0 → σ5.1 218 14 = 0)) (x_X12_good) (fun v28 hqv28 => ?_)
        have hqv28 : (v28 = 0 → ¬ σ5.1 218 14 = 0) ∧ (¬ v28 = 0 → σ5.1 218 14 = 0) := hqv28
        try simp only [g7_σ5, g9_σ5, g20_σ5, hT.2 224 (by decide)] at hqv28
        refine ok_if (fun hc30 => ?_) (fun hc30 => ?_)
        · have qhc30 := hqv28.1 hc30
          have n102 := qhc30
          exact ok_some ⟨hT, (show (TOK σ5.1 ∧ (σ0.1 218 11).toInt ≤ (σ5.1 218 11).toInt ∧ (σ5.1 218 14 = 0 → σ0.1 218 14 = 0) ∧ ZB σ5.1) ∧ (σ5.1 218 7 = σ0.1 218 7 ∧ σ5.1 218 9 = σ0.1 218 9) from ⟨by first | exact ⟨hK, by (try simp only [g7_σ5, g9_σ5, g20_σ5]); omega, fun q => absurd q (by (try simp only [g7_σ5, g9_σ5, g20_σ5]); exact n102), hB⟩ | exact ⟨hK, by (try simp only [g7_σ5, g9_σ5, g20_σ5]); omega, fun _ => i1.1 y31, hB⟩ | exact absurd y102 n31 | exact absurd y102 n95, g7_σ5, g9_σ5⟩)⟩
        · have qhc30 := hqv28.2 hc30
          have y102 := qhc30
          refine ok_gC rfl ?_
          refine ok_zbT (Q := fun V σ => (TOK σ.1 ∧ ZB σ.1 ∧ PIL σ.1 1 ∧ (∀ k : Nat, (k : Int) < (σ5.1 218 22).toInt → σ5.1 230 k = 100 → (k : Int) < (σ.1 218 22).toInt) ∧ ((σ.1 218 22).toInt ≤ 0 ∨ (rkI (σ5.1 230 ((σ.1 218 22) - 1).toNatClampNeg)).toInt < (1 : Int32).toInt)) ∧ (σ.1 218 7 = σ5.1 218 7 ∧ σ.1 218 9 = σ5.1 218 9 ∧ σ.1 218 10 = σ5.1 218 10 ∧ σ.1 218 11 = σ5.1 218 11 ∧ σ.1 218 12 = σ5.1 218 12 ∧ σ.1 218 13 = σ5.1 218 13 ∧ σ.1 218 14 = σ5.1 218 14 ∧ σ.1 218 15 = σ5.1 218 15 ∧ σ.1 218 20 = σ5.1 218 20 ∧ σ.1 218 25 = σ5.1 218 25)) hT (s_X12_settlesTo hN (hR.tr hT) (hK) (by rw [hT.2 224 (by decide)]; exact hY) (hB) (by (try simp only [g7_σ5, g9_σ5, g20_σ5]); omega) (by first | exact (i2 y31).2 e36 | exact absurd y102 n31 | exact absurd y102 n95) (by decide)) (by decide) (fun v31 σ32 hOσ32 hT hqv31 => ?_)
          have hqv31 : (TOK σ32.1 ∧ ZB σ32.1 ∧ PIL σ32.1 1 ∧ (∀ k : Nat, (k : Int) < (σ5.1 218 22).toInt → σ5.1 230 k = 100 → (k : Int) < (σ32.1 218 22).toInt) ∧ ((σ32.1 218 22).toInt ≤ 0 ∨ (rkI (σ5.1 230 ((σ32.1 218 22) - 1).toNatClampNeg)).toInt < (1 : Int32).toInt)) ∧ (σ32.1 218 7 = σ5.1 218 7 ∧ σ32.1 218 9 = σ5.1 218 9 ∧ σ32.1 218 10 = σ5.1 218 10 ∧ σ32.1 218 11 = σ5.1 218 11 ∧ σ32.1 218 12 = σ5.1 218 12 ∧ σ32.1 218 13 = σ5.1 218 13 ∧ σ32.1 218 14 = σ5.1 218 14 ∧ σ32.1 218 15 = σ5.1 218 15 ∧ σ32.1 218 20 = σ5.1 218 20 ∧ σ32.1 218 25 = σ5.1 218 25) := hqv31
          have hkv31 := hqv31
          have hqv31 := hqv31.1
          have hK : TOK σ32.1 := by first | exact hqv31.1 | exact TOK_p eσ32 (by decide) hK
          have hB : ZB σ32.1 := by first | exact hqv31.2.1 | exact hqv31.2.2.2 | exact hqv31.2.2.2.2
          try simp only [g7_σ5, g9_σ5, g20_σ5] at hqv31
          have g7_σ32 : σ32.1 218 7 = (σ0.1 218 7) := (hkv31.2.1).trans g7_σ5
          have g9_σ32 : σ32.1 218 9 = (σ0.1 218 9) := (hkv31.2.2.1).trans g9_σ5
          have g10_σ32 : σ32.1 218 10 = (σ5.1 218 10) := hkv31.2.2.2.1
          have g11_σ32 : σ32.1 218 11 = (σ5.1 218 11) := hkv31.2.2.2.2.1
          have g12_σ32 : σ32.1 218 12 = (σ5.1 218 12) := hkv31.2.2.2.2.2.1
          have g13_σ32 : σ32.1 218 13 = (σ5.1 218 13) := hkv31.2.2.2.2.2.2.1
          have g14_σ32 : σ32.1 218 14 = (σ5.1 218 14) := hkv31.2.2.2.2.2.2.2.1
          have g15_σ32 : σ32.1 218 15 = (σ5.1 218 15) := hkv31.2.2.2.2.2.2.2.2.1
          have g20_σ32 : σ32.1 218 20 = ((1 : Int32) <<< (x1 &&& 31)) := (hkv31.2.2.2.2.2.2.2.2.2.1).trans g20_σ5
          have g25_σ32 : σ32.1 218 25 = (σ5.1 218 25) := hkv31.2.2.2.2.2.2.2.2.2.2
          exact ok_some ⟨hT, (show (TOK σ32.1 ∧ (σ0.1 218 11).toInt ≤ (σ32.1 218 11).toInt ∧ (σ32.1 218 14 = 0 → σ0.1 218 14 = 0) ∧ ZB σ32.1) ∧ (σ32.1 218 7 = σ0.1 218 7 ∧ σ32.1 218 9 = σ0.1 218 9) from ⟨by first | exact ⟨hK, by (try simp only [g7_σ32, g9_σ32, g10_σ32, g11_σ32, g12_σ32, g13_σ32, g14_σ32, g15_σ32, g20_σ32, g25_σ32]); omega, fun q => absurd q (by (try simp only [g7_σ32, g9_σ32, g10_σ32, g11_σ32, g12_σ32, g13_σ32, g14_σ32, g15_σ32, g20_σ32, g25_σ32]); exact n102), hB⟩ | exact ⟨hK, by (try simp only [g7_σ32, g9_σ32, g10_σ32, g11_σ32, g12_σ32, g13_σ32, g14_σ32, g15_σ32, g20_σ32, g25_σ32]); omega, fun _ => i1.1 y31, hB⟩ | exact absurd y102 n31 | exact absurd y102 n95, g7_σ32, g9_σ32⟩)⟩
      · have qhc27 := hqv25.2 hc27
        refine ok_gC rfl ?_
        refine ok_zbT (Q := fun V σ => (TOK σ.1 ∧ ¬ σ.1 218 14 = 0) ∧ (σ.1 218 7 = σ5.1 218 7 ∧ σ.1 218 9 = σ5.1 218 9 ∧ σ.1 218 10 = σ5.1 218 10 ∧ σ.1 218 11 = σ5.1 218 11 ∧ σ.1 218 12 = σ5.1 218 12 ∧ σ.1 218 13 = σ5.1 218 13 ∧ σ.1 218 20 = σ5.1 218 20 ∧ σ.1 218 22 = σ5.1 218 22 ∧ σ.1 218 23 = σ5.1 218 23 ∧ σ.1 218 24 = σ5.1 218 24 ∧ σ.1 218 25 = σ5.1 218 25)) hT (s_X12_errs hN (hR.tr hT) (hK) (by rw [hT.2 224 (by decide)]; exact hY) (by decide)) (by decide) (fun v33 σ34 hOσ34 hT hqv33 => ?_)
        have hqv33 : (TOK σ34.1 ∧ ¬ σ34.1 218 14 = 0) ∧ (σ34.1 218 7 = σ5.1 218 7 ∧ σ34.1 218 9 = σ5.1 218 9 ∧ σ34.1 218 10 = σ5.1 218 10 ∧ σ34.1 218 11 = σ5.1 218 11 ∧ σ34.1 218 12 = σ5.1 218 12 ∧ σ34.1 218 13 = σ5.1 218 13 ∧ σ34.1 218 20 = σ5.1 218 20 ∧ σ34.1 218 22 = σ5.1 218 22 ∧ σ34.1 218 23 = σ5.1 218 23 ∧ σ34.1 218 24 = σ5.1 218 24 ∧ σ34.1 218 25 = σ5.1 218 25) := hqv33
        have hkv33 := hqv33
        have hqv33 := hqv33.1
        have hK : TOK σ34.1 := by first | exact hqv33.1 | exact TOK_p eσ34 (by decide) hK
        have hB : ZB σ34.1 := ZB.tr hOσ34 (by decide) hB
        try simp only [g7_σ5, g9_σ5, g20_σ5] at hqv33
        have g7_σ34 : σ34.1 218 7 = (σ0.1 218 7) := (hkv33.2.1).trans g7_σ5
        have g9_σ34 : σ34.1 218 9 = (σ0.1 218 9) := (hkv33.2.2.1).trans g9_σ5
        have g10_σ34 : σ34.1 218 10 = (σ5.1 218 10) := hkv33.2.2.2.1
        have g11_σ34 : σ34.1 218 11 = (σ5.1 218 11) := hkv33.2.2.2.2.1
        have g12_σ34 : σ34.1 218 12 = (σ5.1 218 12) := hkv33.2.2.2.2.2.1
        have g13_σ34 : σ34.1 218 13 = (σ5.1 218 13) := hkv33.2.2.2.2.2.2.1
        have g20_σ34 : σ34.1 218 20 = ((1 : Int32) <<< (x1 &&& 31)) := (hkv33.2.2.2.2.2.2.2.1).trans g20_σ5
        have g22_σ34 : σ34.1 218 22 = (σ5.1 218 22) := hkv33.2.2.2.2.2.2.2.2.1
        have g23_σ34 : σ34.1 218 23 = (σ5.1 218 23) := hkv33.2.2.2.2.2.2.2.2.2.1
        have g24_σ34 : σ34.1 218 24 = (σ5.1 218 24) := hkv33.2.2.2.2.2.2.2.2.2.2.1
        have g25_σ34 : σ34.1 218 25 = (σ5.1 218 25) := hkv33.2.2.2.2.2.2.2.2.2.2.2
        have n95 := hqv33.2
        rw [J_X12_readsSum_98.eq_1]
        refine ok_gC rfl ?_
        refine ok_zbX (Q := fun V => (V = 0 → ¬ σ34.1 218 14 = 0) ∧ (¬ V = 0 → σ34.1 218 14 = 0)) (x_X12_good) (fun v35 hqv35 => ?_)
        have hqv35 : (v35 = 0 → ¬ σ34.1 218 14 = 0) ∧ (¬ v35 = 0 → σ34.1 218 14 = 0) := hqv35
        try simp only [g7_σ34, g9_σ34, g10_σ34, g11_σ34, g12_σ34, g13_σ34, g20_σ34, g22_σ34, g23_σ34, g24_σ34, g25_σ34, hT.2 224 (by decide)] at hqv35
        refine ok_if (fun hc37 => ?_) (fun hc37 => ?_)
        · have qhc37 := hqv35.1 hc37
          have n102 := qhc37
          exact ok_some ⟨hT, (show (TOK σ34.1 ∧ (σ0.1 218 11).toInt ≤ (σ34.1 218 11).toInt ∧ (σ34.1 218 14 = 0 → σ0.1 218 14 = 0) ∧ ZB σ34.1) ∧ (σ34.1 218 7 = σ0.1 218 7 ∧ σ34.1 218 9 = σ0.1 218 9) from ⟨by first | exact ⟨hK, by (try simp only [g7_σ34, g9_σ34, g10_σ34, g11_σ34, g12_σ34, g13_σ34, g20_σ34, g22_σ34, g23_σ34, g24_σ34, g25_σ34]); omega, fun q => absurd q (by (try simp only [g7_σ34, g9_σ34, g10_σ34, g11_σ34, g12_σ34, g13_σ34, g20_σ34, g22_σ34, g23_σ34, g24_σ34, g25_σ34]); exact n102), hB⟩ | exact ⟨hK, by (try simp only [g7_σ34, g9_σ34, g10_σ34, g11_σ34, g12_σ34, g13_σ34, g20_σ34, g22_σ34, g23_σ34, g24_σ34, g25_σ34]); omega, fun _ => i1.1 y31, hB⟩ | exact absurd y102 n31 | exact absurd y102 n95, g7_σ34, g9_σ34⟩)⟩
        · have qhc37 := hqv35.2 hc37
          have y102 := qhc37
          refine ok_gC rfl ?_
          refine ok_zbT (Q := fun V σ => (TOK σ.1 ∧ ZB σ.1 ∧ PIL σ.1 1 ∧ (∀ k : Nat, (k : Int) < (σ34.1 218 22).toInt → σ34.1 230 k = 100 → (k : Int) < (σ.1 218 22).toInt) ∧ ((σ.1 218 22).toInt ≤ 0 ∨ (rkI (σ34.1 230 ((σ.1 218 22) - 1).toNatClampNeg)).toInt < (1 : Int32).toInt)) ∧ (σ.1 218 7 = σ34.1 218 7 ∧ σ.1 218 9 = σ34.1 218 9 ∧ σ.1 218 10 = σ34.1 218 10 ∧ σ.1 218 11 = σ34.1 218 11 ∧ σ.1 218 12 = σ34.1 218 12 ∧ σ.1 218 13 = σ34.1 218 13 ∧ σ.1 218 14 = σ34.1 218 14 ∧ σ.1 218 15 = σ34.1 218 15 ∧ σ.1 218 20 = σ34.1 218 20 ∧ σ.1 218 25 = σ34.1 218 25)) hT (s_X12_settlesTo hN (hR.tr hT) (hK) (by rw [hT.2 224 (by decide)]; exact hY) (hB) (by (try simp only [g7_σ34, g9_σ34, g10_σ34, g11_σ34, g12_σ34, g13_σ34, g20_σ34, g22_σ34, g23_σ34, g24_σ34, g25_σ34]); omega) (by first | exact (i2 y31).2 e36 | exact absurd y102 n31 | exact absurd y102 n95) (by decide)) (by decide) (fun v38 σ39 hOσ39 hT hqv38 => ?_)
          have hqv38 : (TOK σ39.1 ∧ ZB σ39.1 ∧ PIL σ39.1 1 ∧ (∀ k : Nat, (k : Int) < (σ34.1 218 22).toInt → σ34.1 230 k = 100 → (k : Int) < (σ39.1 218 22).toInt) ∧ ((σ39.1 218 22).toInt ≤ 0 ∨ (rkI (σ34.1 230 ((σ39.1 218 22) - 1).toNatClampNeg)).toInt < (1 : Int32).toInt)) ∧ (σ39.1 218 7 = σ34.1 218 7 ∧ σ39.1 218 9 = σ34.1 218 9 ∧ σ39.1 218 10 = σ34.1 218 10 ∧ σ39.1 218 11 = σ34.1 218 11 ∧ σ39.1 218 12 = σ34.1 218 12 ∧ σ39.1 218 13 = σ34.1 218 13 ∧ σ39.1 218 14 = σ34.1 218 14 ∧ σ39.1 218 15 = σ34.1 218 15 ∧ σ39.1 218 20 = σ34.1 218 20 ∧ σ39.1 218 25 = σ34.1 218 25) := hqv38
          have hkv38 := hqv38
          have hqv38 := hqv38.1
          have hK : TOK σ39.1 := by first | exact hqv38.1 | exact TOK_p eσ39 (by decide) hK
          have hB : ZB σ39.1 := by first | exact hqv38.2.1 | exact hqv38.2.2.2 | exact hqv38.2.2.2.2
          try simp only [g7_σ34, g9_σ34, g10_σ34, g11_σ34, g12_σ34, g13_σ34, g20_σ34, g22_σ34, g23_σ34, g24_σ34, g25_σ34] at hqv38
          have g7_σ39 : σ39.1 218 7 = (σ0.1 218 7) := (hkv38.2.1).trans g7_σ34
          have g9_σ39 : σ39.1 218 9 = (σ0.1 218 9) := (hkv38.2.2.1).trans g9_σ34
          have g10_σ39 : σ39.1 218 10 = (σ5.1 218 10) := (hkv38.2.2.2.1).trans g10_σ34
          have g11_σ39 : σ39.1 218 11 = (σ5.1 218 11) := (hkv38.2.2.2.2.1).trans g11_σ34
          have g12_σ39 : σ39.1 218 12 = (σ5.1 218 12) := (hkv38.2.2.2.2.2.1).trans g12_σ34
          have g13_σ39 : σ39.1 218 13 = (σ5.1 218 13) := (hkv38.2.2.2.2.2.2.1).trans g13_σ34
          have g14_σ39 : σ39.1 218 14 = (σ34.1 218 14) := hkv38.2.2.2.2.2.2.2.1
          have g15_σ39 : σ39.1 218 15 = (σ34.1 218 15) := hkv38.2.2.2.2.2.2.2.2.1
          have g20_σ39 : σ39.1 218 20 = ((1 : Int32) <<< (x1 &&& 31)) := (hkv38.2.2.2.2.2.2.2.2.2.1).trans g20_σ34
          have g25_σ39 : σ39.1 218 25 = (σ5.1 218 25) := (hkv38.2.2.2.2.2.2.2.2.2.2).trans g25_σ34
          exact ok_some ⟨hT, (show (TOK σ39.1 ∧ (σ0.1 218 11).toInt ≤ (σ39.1 218 11).toInt ∧ (σ39.1 218 14 = 0 → σ0.1 218 14 = 0) ∧ ZB σ39.1) ∧ (σ39.1 218 7 = σ0.1 218 7 ∧ σ39.1 218 9 = σ0.1 218 9) from ⟨by first | exact ⟨hK, by (try simp only [g7_σ39, g9_σ39, g10_σ39, g11_σ39, g12_σ39, g13_σ39, g14_σ39, g15_σ39, g20_σ39, g25_σ39]); omega, fun q => absurd q (by (try simp only [g7_σ39, g9_σ39, g10_σ39, g11_σ39, g12_σ39, g13_σ39, g14_σ39, g15_σ39, g20_σ39, g25_σ39]); exact n102), hB⟩ | exact ⟨hK, by (try simp only [g7_σ39, g9_σ39, g10_σ39, g11_σ39, g12_σ39, g13_σ39, g14_σ39, g15_σ39, g20_σ39, g25_σ39]); omega, fun _ => i1.1 y31, hB⟩ | exact absurd y102 n31 | exact absurd y102 n95, g7_σ39, g9_σ39⟩)⟩
    · have n36 := hc24
      refine ok_if (fun hc40 => ?_) (fun hc40 => ?_)
      · have e40 := hc40
        refine ok_gC rfl ?_
        refine ok_zbT (Q := fun V σ => (TOK σ.1 ∧ ((σ5.1 218 11).toInt ≤ (σ.1 218 11).toInt ∧ 0 ≤ (σ.1 218 22).toInt ∧ (σ.1 218 22).toInt ≤ 40) ∧ (σ.1 218 14 = 0 → (σ5.1 218 11).toInt < (σ.1 218 11).toInt ∧ (¬ V = 0 → PIL σ.1 1) ∧ (V = 0 → PIL σ.1 0)) ∧ ZB σ.1) ∧ (σ.1 218 7 = σ5.1 218 7 ∧ σ.1 218 9 = σ5.1 218 9 ∧ σ.1 218 20 = σ5.1 218 20 ∧ σ.1 218 25 = σ5.1 218 25)) hT (s_X12_readsPart_220 hN (hR.tr hT) (hK) (by rw [hT.2 224 (by decide)]; exact hY) (hB) (hn) (by (try simp only [g7_σ5, g9_σ5, g20_σ5]); omega) (((i2 y31).1 n36).1 e40) (y31)) (by decide) (fun v41 σ42 hOσ42 hT hqv41 => ?_)
        have hqv41 : (TOK σ42.1 ∧ ((σ5.1 218 11).toInt ≤ (σ42.1 218 11).toInt ∧ 0 ≤ (σ42.1 218 22).toInt ∧ (σ42.1 218 22).toInt ≤ 40) ∧ (σ42.1 218 14 = 0 → (σ5.1 218 11).toInt < (σ42.1 218 11).toInt ∧ (¬ v41 = 0 → PIL σ42.1 1) ∧ (v41 = 0 → PIL σ42.1 0)) ∧ ZB σ42.1) ∧ (σ42.1 218 7 = σ5.1 218 7 ∧ σ42.1 218 9 = σ5.1 218 9 ∧ σ42.1 218 20 = σ5.1 218 20 ∧ σ42.1 218 25 = σ5.1 218 25) := hqv41
        have hkv41 := hqv41
        have hqv41 := hqv41.1
        have hK : TOK σ42.1 := by first | exact hqv41.1 | exact TOK_p eσ42 (by decide) hK
        have hB : ZB σ42.1 := by first | exact hqv41.2.1 | exact hqv41.2.2.2 | exact hqv41.2.2.2.2
        try simp only [g7_σ5, g9_σ5, g20_σ5] at hqv41
        have g7_σ42 : σ42.1 218 7 = (σ0.1 218 7) := (hkv41.2.1).trans g7_σ5
        have g9_σ42 : σ42.1 218 9 = (σ0.1 218 9) := (hkv41.2.2.1).trans g9_σ5
        have g20_σ42 : σ42.1 218 20 = ((1 : Int32) <<< (x1 &&& 31)) := (hkv41.2.2.2.1).trans g20_σ5
        have g25_σ42 : σ42.1 218 25 = (σ5.1 218 25) := hkv41.2.2.2.2
        have m46 := hqv41.2
        have hKN := hK.1
        exact ih27_5 (v41, x4_5, σ42) (show Tr [218, 226, 227, 228, 229, 230] σ0 σ42 ∧ (((σ42.1 218 14 = 0 → σ0.1 218 14 = 0) ∧ (σ0.1 218 11).toInt ≤ (σ42.1 218 11).toInt ∧ 0 ≤ (σ42.1 218 22).toInt ∧ (σ42.1 218 22).toInt ≤ 40) ∧ (σ42.1 218 14 = 0 → (¬ x4_5 = 0 → (v41 = 0 → PIL σ42.1 0) ∧ (¬ v41 = 0 → PIL σ42.1 1)) ∧ (x4_5 = 0 → PIL σ42.1 1))) ∧ (TOK σ42.1) ∧ (ZB σ42.1) ∧ (σ42.1 218 7 = (σ0.1 218 7)) ∧ (σ42.1 218 9 = (σ0.1 218 9)) ∧ (σ42.1 218 20 = ((1 : Int32) <<< (x1 &&& 31))) from ⟨hT, (by first | exact ⟨⟨fun _ => i1.1 y31, by (try simp only [g7_σ42, g9_σ42, g20_σ42, g25_σ42]); omega, by (try simp only [g7_σ42, g9_σ42, g20_σ42, g25_σ42]); omega⟩, fun q => ⟨fun _ => ⟨(m46.2.1 q).2.2, (m46.2.1 q).2.1⟩, fun h => absurd h n36⟩⟩ | exact ⟨⟨fun _ => i1.1 y31, by (try simp only [g7_σ42, g9_σ42, g20_σ42, g25_σ42]); omega, by (try simp only [g7_σ42, g9_σ42, g20_σ42, g25_σ42]); omega⟩, fun q => ⟨fun _ => ⟨fun h => absurd h (by decide), fun _ => ((m54.2.1 q).2.2 e61).2⟩, fun h => absurd h (by decide)⟩⟩ | exact ⟨⟨fun _ => i1.1 y31, by (try simp only [g7_σ42, g9_σ42, g20_σ42, g25_σ42]); omega, by (try simp only [g7_σ42, g9_σ42, g20_σ42, g25_σ42]); omega⟩, fun q => ⟨fun h => absurd rfl h, fun _ => (m54.2.1 q).1 e73⟩⟩ | exact ⟨⟨fun _ => i1.1 y31, by (try simp only [g7_σ42, g9_σ42, g20_σ42, g25_σ42]); omega, by (try simp only [g7_σ42, g9_σ42, g20_σ42, g25_σ42]); omega⟩, fun q => ⟨fun _ => ⟨fun _ => ((m54.2.1 q).2.1 ((m54.2.2.1.resolve_left n73).resolve_right n61)).2, fun h => absurd rfl h⟩, fun h => absurd h (by decide)⟩⟩ | exact absurd (e73.symm.trans e61) (by decide)), hK, hB, g7_σ42, g9_σ42, g20_σ42⟩) (show (600 - (σ42.1 218 11).toInt).toNat + (if σ42.1 218 14 = 0 then 1 else 0) + (if x4_5 = 0 then 0 else 1) < (600 - (σ5.1 218 11).toInt).toNat + (if σ5.1 218 14 = 0 then 1 else 0) + (if x4_5 = 0 then 0 else 1) from (by first | exact mu1 (by omega) (by omega) y31 n36 (fun q => Or.inl (m46.2.1 q).1) | exact mu1 (by omega) (by omega) y31 n36 (fun q => Or.inl ((m54.2.1 q).2.2 e61).1) | exact mu1 (by omega) (by omega) y31 n36 (fun q => Or.inr rfl) | exact mu1 (by omega) (by omega) y31 n36 (fun q => Or.inl ((m54.2.1 q).2.1 ((m54.2.2.1.resolve_left n73).resolve_right n61)).1) | exact absurd (e73.symm.trans e61) (by decide)))
      · have n40 := hc40
        refine ok_gC rfl ?_
        refine ok_zbT (Q := fun V σ => (TOK σ.1 ∧ ((σ5.1 218 11).toInt ≤ (σ.1 218 11).toInt ∧ 0 ≤ (σ.1 218 22).toInt ∧ (σ.1 218 22).toInt ≤ 40) ∧ (σ.1 218 14 = 0 → (V = -1 → PIL σ.1 1) ∧ (V = 1 → (σ5.1 218 11).toInt < (σ.1 218 11).toInt ∧ PIL σ.1 0) ∧ (V = 0 → (σ5.1 218 11).toInt < (σ.1 218 11).toInt ∧ PIL σ.1 1)) ∧ (V = -1 ∨ V = 1 ∨ V = 0) ∧ ZB σ.1) ∧ (σ.1 218 7 = σ5.1 218 7 ∧ σ.1 218 9 = σ5.1 218 9 ∧ σ.1 218 20 = σ5.1 218 20)) hT (s_X12_goesBehind hN (hR.tr hT) (hK) (by rw [hT.2 224 (by decide)]; exact hY) (hB) (by (try simp only [g7_σ5, g9_σ5, g20_σ5]); omega) (((i2 y31).1 n36).2 n40) (y31)) (by decide) (fun v43 σ44 hOσ44 hT hqv43 => ?_)
        have hqv43 : (TOK σ44.1 ∧ ((σ5.1 218 11).toInt ≤ (σ44.1 218 11).toInt ∧ 0 ≤ (σ44.1 218 22).toInt ∧ (σ44.1 218 22).toInt ≤ 40) ∧ (σ44.1 218 14 = 0 → (v43 = -1 → PIL σ44.1 1) ∧ (v43 = 1 → (σ5.1 218 11).toInt < (σ44.1 218 11).toInt ∧ PIL σ44.1 0) ∧ (v43 = 0 → (σ5.1 218 11).toInt < (σ44.1 218 11).toInt ∧ PIL σ44.1 1)) ∧ (v43 = -1 ∨ v43 = 1 ∨ v43 = 0) ∧ ZB σ44.1) ∧ (σ44.1 218 7 = σ5.1 218 7 ∧ σ44.1 218 9 = σ5.1 218 9 ∧ σ44.1 218 20 = σ5.1 218 20) := hqv43
        have hkv43 := hqv43
        have hqv43 := hqv43.1
        have hK : TOK σ44.1 := by first | exact hqv43.1 | exact TOK_p eσ44 (by decide) hK
        have hB : ZB σ44.1 := by first | exact hqv43.2.1 | exact hqv43.2.2.2 | exact hqv43.2.2.2.2
        try simp only [g7_σ5, g9_σ5, g20_σ5] at hqv43
        have g7_σ44 : σ44.1 218 7 = (σ0.1 218 7) := (hkv43.2.1).trans g7_σ5
        have g9_σ44 : σ44.1 218 9 = (σ0.1 218 9) := (hkv43.2.2.1).trans g9_σ5
        have g20_σ44 : σ44.1 218 20 = ((1 : Int32) <<< (x1 &&& 31)) := (hkv43.2.2.2).trans g20_σ5
        have m54 := hqv43.2
        have hKN := hK.1
        refine ok_if (fun hc45 => ?_) (fun hc45 => ?_)
        · have e61 := hc45
          rw [J_X12_readsSum_69.eq_1]
          refine ok_if (fun hc46 => ?_) (fun hc46 => ?_)
          · have e73 := hc46
            exact ih27_5 (1, 0, σ44) (show Tr [218, 226, 227, 228, 229, 230] σ0 σ44 ∧ (((σ44.1 218 14 = 0 → σ0.1 218 14 = 0) ∧ (σ0.1 218 11).toInt ≤ (σ44.1 218 11).toInt ∧ 0 ≤ (σ44.1 218 22).toInt ∧ (σ44.1 218 22).toInt ≤ 40) ∧ (σ44.1 218 14 = 0 → (¬ (0 : Int32) = 0 → ((1 : Int32) = 0 → PIL σ44.1 0) ∧ (¬ (1 : Int32) = 0 → PIL σ44.1 1)) ∧ ((0 : Int32) = 0 → PIL σ44.1 1))) ∧ (TOK σ44.1) ∧ (ZB σ44.1) ∧ (σ44.1 218 7 = (σ0.1 218 7)) ∧ (σ44.1 218 9 = (σ0.1 218 9)) ∧ (σ44.1 218 20 = ((1 : Int32) <<< (x1 &&& 31))) from ⟨hT, (by first | exact ⟨⟨fun _ => i1.1 y31, by (try simp only [g7_σ44, g9_σ44, g20_σ44]); omega, by (try simp only [g7_σ44, g9_σ44, g20_σ44]); omega⟩, fun q => ⟨fun _ => ⟨(m46.2.1 q).2.2, (m46.2.1 q).2.1⟩, fun h => absurd h n36⟩⟩ | exact ⟨⟨fun _ => i1.1 y31, by (try simp only [g7_σ44, g9_σ44, g20_σ44]); omega, by (try simp only [g7_σ44, g9_σ44, g20_σ44]); omega⟩, fun q => ⟨fun _ => ⟨fun h => absurd h (by decide), fun _ => ((m54.2.1 q).2.2 e61).2⟩, fun h => absurd h (by decide)⟩⟩ | exact ⟨⟨fun _ => i1.1 y31, by (try simp only [g7_σ44, g9_σ44, g20_σ44]); omega, by (try simp only [g7_σ44, g9_σ44, g20_σ44]); omega⟩, fun q => ⟨fun h => absurd rfl h, fun _ => (m54.2.1 q).1 e73⟩⟩ | exact ⟨⟨fun _ => i1.1 y31, by (try simp only [g7_σ44, g9_σ44, g20_σ44]); omega, by (try simp only [g7_σ44, g9_σ44, g20_σ44]); omega⟩, fun q => ⟨fun _ => ⟨fun _ => ((m54.2.1 q).2.1 ((m54.2.2.1.resolve_left n73).resolve_right n61)).2, fun h => absurd rfl h⟩, fun h => absurd h (by decide)⟩⟩ | exact absurd (e73.symm.trans e61) (by decide)), hK, hB, g7_σ44, g9_σ44, g20_σ44⟩) (show (600 - (σ44.1 218 11).toInt).toNat + (if σ44.1 218 14 = 0 then 1 else 0) + (if (0 : Int32) = 0 then 0 else 1) < (600 - (σ5.1 218 11).toInt).toNat + (if σ5.1 218 14 = 0 then 1 else 0) + (if x4_5 = 0 then 0 else 1) from (by first | exact mu1 (by omega) (by omega) y31 n36 (fun q => Or.inl (m46.2.1 q).1) | exact mu1 (by omega) (by omega) y31 n36 (fun q => Or.inl ((m54.2.1 q).2.2 e61).1) | exact mu1 (by omega) (by omega) y31 n36 (fun q => Or.inr rfl) | exact mu1 (by omega) (by omega) y31 n36 (fun q => Or.inl ((m54.2.1 q).2.1 ((m54.2.2.1.resolve_left n73).resolve_right n61)).1) | exact absurd (e73.symm.trans e61) (by decide)))
          · have n73 := hc46
            exact ih27_5 (1, 1, σ44) (show Tr [218, 226, 227, 228, 229, 230] σ0 σ44 ∧ (((σ44.1 218 14 = 0 → σ0.1 218 14 = 0) ∧ (σ0.1 218 11).toInt ≤ (σ44.1 218 11).toInt ∧ 0 ≤ (σ44.1 218 22).toInt ∧ (σ44.1 218 22).toInt ≤ 40) ∧ (σ44.1 218 14 = 0 → (¬ (1 : Int32) = 0 → ((1 : Int32) = 0 → PIL σ44.1 0) ∧ (¬ (1 : Int32) = 0 → PIL σ44.1 1)) ∧ ((1 : Int32) = 0 → PIL σ44.1 1))) ∧ (TOK σ44.1) ∧ (ZB σ44.1) ∧ (σ44.1 218 7 = (σ0.1 218 7)) ∧ (σ44.1 218 9 = (σ0.1 218 9)) ∧ (σ44.1 218 20 = ((1 : Int32) <<< (x1 &&& 31))) from ⟨hT, (by first | exact ⟨⟨fun _ => i1.1 y31, by (try simp only [g7_σ44, g9_σ44, g20_σ44]); omega, by (try simp only [g7_σ44, g9_σ44, g20_σ44]); omega⟩, fun q => ⟨fun _ => ⟨(m46.2.1 q).2.2, (m46.2.1 q).2.1⟩, fun h => absurd h n36⟩⟩ | exact ⟨⟨fun _ => i1.1 y31, by (try simp only [g7_σ44, g9_σ44, g20_σ44]); omega, by (try simp only [g7_σ44, g9_σ44, g20_σ44]); omega⟩, fun q => ⟨fun _ => ⟨fun h => absurd h (by decide), fun _ => ((m54.2.1 q).2.2 e61).2⟩, fun h => absurd h (by decide)⟩⟩ | exact ⟨⟨fun _ => i1.1 y31, by (try simp only [g7_σ44, g9_σ44, g20_σ44]); omega, by (try simp only [g7_σ44, g9_σ44, g20_σ44]); omega⟩, fun q => ⟨fun h => absurd rfl h, fun _ => (m54.2.1 q).1 e73⟩⟩ | exact ⟨⟨fun _ => i1.1 y31, by (try simp only [g7_σ44, g9_σ44, g20_σ44]); omega, by (try simp only [g7_σ44, g9_σ44, g20_σ44]); omega⟩, fun q => ⟨fun _ => ⟨fun _ => ((m54.2.1 q).2.1 ((m54.2.2.1.resolve_left n73).resolve_right n61)).2, fun h => absurd rfl h⟩, fun h => absurd h (by decide)⟩⟩ | exact absurd (e73.symm.trans e61) (by decide)), hK, hB, g7_σ44, g9_σ44, g20_σ44⟩) (show (600 - (σ44.1 218 11).toInt).toNat + (if σ44.1 218 14 = 0 then 1 else 0) + (if (1 : Int32) = 0 then 0 else 1) < (600 - (σ5.1 218 11).toInt).toNat + (if σ5.1 218 14 = 0 then 1 else 0) + (if x4_5 = 0 then 0 else 1) from (by first | exact mu1 (by omega) (by omega) y31 n36 (fun q => Or.inl (m46.2.1 q).1) | exact mu1 (by omega) (by omega) y31 n36 (fun q => Or.inl ((m54.2.1 q).2.2 e61).1) | exact mu1 (by omega) (by omega) y31 n36 (fun q => Or.inr rfl) | exact mu1 (by omega) (by omega) y31 n36 (fun q => Or.inl ((m54.2.1 q).2.1 ((m54.2.2.1.resolve_left n73).resolve_right n61)).1) | exact absurd (e73.symm.trans e61) (by decide)))
        · have n61 := hc45
          rw [J_X12_readsSum_69.eq_1]
          refine ok_if (fun hc47 => ?_) (fun hc47 => ?_)
          · have e73 := hc47
            exact ih27_5 (0, 0, σ44) (show Tr [218, 226, 227, 228, 229, 230] σ0 σ44 ∧ (((σ44.1 218 14 = 0 → σ0.1 218 14 = 0) ∧ (σ0.1 218 11).toInt ≤ (σ44.1 218 11).toInt ∧ 0 ≤ (σ44.1 218 22).toInt ∧ (σ44.1 218 22).toInt ≤ 40) ∧ (σ44.1 218 14 = 0 → (¬ (0 : Int32) = 0 → ((0 : Int32) = 0 → PIL σ44.1 0) ∧ (¬ (0 : Int32) = 0 → PIL σ44.1 1)) ∧ ((0 : Int32) = 0 → PIL σ44.1 1))) ∧ (TOK σ44.1) ∧ (ZB σ44.1) ∧ (σ44.1 218 7 = (σ0.1 218 7)) ∧ (σ44.1 218 9 = (σ0.1 218 9)) ∧ (σ44.1 218 20 = ((1 : Int32) <<< (x1 &&& 31))) from ⟨hT, (by first | exact ⟨⟨fun _ => i1.1 y31, by (try simp only [g7_σ44, g9_σ44, g20_σ44]); omega, by (try simp only [g7_σ44, g9_σ44, g20_σ44]); omega⟩, fun q => ⟨fun _ => ⟨(m46.2.1 q).2.2, (m46.2.1 q).2.1⟩, fun h => absurd h n36⟩⟩ | exact ⟨⟨fun _ => i1.1 y31, by (try simp only [g7_σ44, g9_σ44, g20_σ44]); omega, by (try simp only [g7_σ44, g9_σ44, g20_σ44]); omega⟩, fun q => ⟨fun _ => ⟨fun h => absurd h (by decide), fun _ => ((m54.2.1 q).2.2 e61).2⟩, fun h => absurd h (by decide)⟩⟩ | exact ⟨⟨fun _ => i1.1 y31, by (try simp only [g7_σ44, g9_σ44, g20_σ44]); omega, by (try simp only [g7_σ44, g9_σ44, g20_σ44]); omega⟩, fun q => ⟨fun h => absurd rfl h, fun _ => (m54.2.1 q).1 e73⟩⟩ | exact ⟨⟨fun _ => i1.1 y31, by (try simp only [g7_σ44, g9_σ44, g20_σ44]); omega, by (try simp only [g7_σ44, g9_σ44, g20_σ44]); omega⟩, fun q => ⟨fun _ => ⟨fun _ => ((m54.2.1 q).2.1 ((m54.2.2.1.resolve_left n73).resolve_right n61)).2, fun h => absurd rfl h⟩, fun h => absurd h (by decide)⟩⟩ | exact absurd (e73.symm.trans e61) (by decide)), hK, hB, g7_σ44, g9_σ44, g20_σ44⟩) (show (600 - (σ44.1 218 11).toInt).toNat + (if σ44.1 218 14 = 0 then 1 else 0) + (if (0 : Int32) = 0 then 0 else 1) < (600 - (σ5.1 218 11).toInt).toNat + (if σ5.1 218 14 = 0 then 1 else 0) + (if x4_5 = 0 then 0 else 1) from (by first | exact mu1 (by omega) (by omega) y31 n36 (fun q => Or.inl (m46.2.1 q).1) | exact mu1 (by omega) (by omega) y31 n36 (fun q => Or.inl ((m54.2.1 q).2.2 e61).1) | exact mu1 (by omega) (by omega) y31 n36 (fun q => Or.inr rfl) | exact mu1 (by omega) (by omega) y31 n36 (fun q => Or.inl ((m54.2.1 q).2.1 ((m54.2.2.1.resolve_left n73).resolve_right n61)).1) | exact absurd (e73.symm.trans e61) (by decide)))
          · have n73 := hc47
            exact ih27_5 (0, 1, σ44) (show Tr [218, 226, 227, 228, 229, 230] σ0 σ44 ∧ (((σ44.1 218 14 = 0 → σ0.1 218 14 = 0) ∧ (σ0.1 218 11).toInt ≤ (σ44.1 218 11).toInt ∧ 0 ≤ (σ44.1 218 22).toInt ∧ (σ44.1 218 22).toInt ≤ 40) ∧ (σ44.1 218 14 = 0 → (¬ (1 : Int32) = 0 → ((0 : Int32) = 0 → PIL σ44.1 0) ∧ (¬ (0 : Int32) = 0 → PIL σ44.1 1)) ∧ ((1 : Int32) = 0 → PIL σ44.1 1))) ∧ (TOK σ44.1) ∧ (ZB σ44.1) ∧ (σ44.1 218 7 = (σ0.1 218 7)) ∧ (σ44.1 218 9 = (σ0.1 218 9)) ∧ (σ44.1 218 20 = ((1 : Int32) <<< (x1 &&& 31))) from ⟨hT, (by first | exact ⟨⟨fun _ => i1.1 y31, by (try simp only [g7_σ44, g9_σ44, g20_σ44]); omega, by (try simp only [g7_σ44, g9_σ44, g20_σ44]); omega⟩, fun q => ⟨fun _ => ⟨(m46.2.1 q).2.2, (m46.2.1 q).2.1⟩, fun h => absurd h n36⟩⟩ | exact ⟨⟨fun _ => i1.1 y31, by (try simp only [g7_σ44, g9_σ44, g20_σ44]); omega, by (try simp only [g7_σ44, g9_σ44, g20_σ44]); omega⟩, fun q => ⟨fun _ => ⟨fun h => absurd h (by decide), fun _ => ((m54.2.1 q).2.2 e61).2⟩, fun h => absurd h (by decide)⟩⟩ | exact ⟨⟨fun _ => i1.1 y31, by (try simp only [g7_σ44, g9_σ44, g20_σ44]); omega, by (try simp only [g7_σ44, g9_σ44, g20_σ44]); omega⟩, fun q => ⟨fun h => absurd rfl h, fun _ => (m54.2.1 q).1 e73⟩⟩ | exact ⟨⟨fun _ => i1.1 y31, by (try simp only [g7_σ44, g9_σ44, g20_σ44]); omega, by (try simp only [g7_σ44, g9_σ44, g20_σ44]); omega⟩, fun q => ⟨fun _ => ⟨fun _ => ((m54.2.1 q).2.1 ((m54.2.2.1.resolve_left n73).resolve_right n61)).2, fun h => absurd rfl h⟩, fun h => absurd h (by decide)⟩⟩ | exact absurd (e73.symm.trans e61) (by decide)), hK, hB, g7_σ44, g9_σ44, g20_σ44⟩) (show (600 - (σ44.1 218 11).toInt).toNat + (if σ44.1 218 14 = 0 then 1 else 0) + (if (1 : Int32) = 0 then 0 else 1) < (600 - (σ5.1 218 11).toInt).toNat + (if σ5.1 218 14 = 0 then 1 else 0) + (if x4_5 = 0 then 0 else 1) from (by first | exact mu1 (by omega) (by omega) y31 n36 (fun q => Or.inl (m46.2.1 q).1) | exact mu1 (by omega) (by omega) y31 n36 (fun q => Or.inl ((m54.2.1 q).2.2 e61).1) | exact mu1 (by omega) (by omega) y31 n36 (fun q => Or.inr rfl) | exact mu1 (by omega) (by omega) y31 n36 (fun q => Or.inl ((m54.2.1 q).2.1 ((m54.2.2.1.resolve_left n73).resolve_right n61)).1) | exact absurd (e73.symm.trans e61) (by decide)))

set_option maxHeartbeats 4000000 in
set_option maxRecDepth 100000 in
theorem s_X12_readsSum_232 {N : Nat} (hN : 1048576 ≤ N) {x1 : Int32} {σ0 : zS}  (hR : RF σ0.2.2) (hK : TOK σ0.1) (hY : BYT (σ0.1 224)) (hB : ZB σ0.1) (hn : 0 ≤ x1.toInt ∧ x1.toInt ≤ 10) : Ok (f_X12_readsSum N 218 x1 232 σ0) (fun r => Tr [218, 226, 227, 228, 229, 230] σ0 r.2 ∧ ((TOK r.2.1 ∧ (σ0.1 218 11).toInt ≤ (r.2.1 218 11).toInt ∧ (r.2.1 218 14 = 0 → σ0.1 218 14 = 0) ∧ ZB r.2.1) ∧ (r.2.1 218 7 = σ0.1 218 7 ∧ r.2.1 218 9 = σ0.1 218 9))) := by
  have hT : Tr [218, 226, 227, 228, 229, 230] σ0 σ0 := Tr.rf
  have hK1 := hK.1
  have a20 := ti_one10 hn.1 hn.2
  rw [f_X12_readsSum.eq_1]
  refine ok_pI hT rfl (by decide) (fun σ1 eσ1 hOσ1 hT => ?_)
  have hK : TOK σ1.1 := by first | exact HQ.1 | exact TOK_p eσ1 (by decide) hK
  have hB : ZB σ1.1 := ZB.tr hOσ1 (by decide) hB
  have g7_σ1 : σ1.1 218 7 = (σ0.1 218 7) := zI_atN eσ1 (by decide)
  have g9_σ1 : σ1.1 218 9 = (σ0.1 218 9) := zI_atN eσ1 (by decide)
  have g10_σ1 : σ1.1 218 10 = (σ0.1 218 10) := zI_atN eσ1 (by decide)
  have g11_σ1 : σ1.1 218 11 = (σ0.1 218 11) := zI_atN eσ1 (by decide)
  have g12_σ1 : σ1.1 218 12 = (σ0.1 218 12) := zI_atN eσ1 (by decide)
  have g13_σ1 : σ1.1 218 13 = (σ0.1 218 13) := zI_atN eσ1 (by decide)
  have g14_σ1 : σ1.1 218 14 = (σ0.1 218 14) := zI_atN eσ1 (by decide)
  have g15_σ1 : σ1.1 218 15 = (σ0.1 218 15) := zI_atN eσ1 (by decide)
  have g20_σ1 : σ1.1 218 20 = ((1 : Int32) <<< (x1 &&& 31)) := zI_atI eσ1
  have g22_σ1 : σ1.1 218 22 = (σ0.1 218 22) := zI_atN eσ1 (by decide)
  have g23_σ1 : σ1.1 218 23 = (σ0.1 218 23) := zI_atN eσ1 (by decide)
  have g24_σ1 : σ1.1 218 24 = (σ0.1 218 24) := zI_atN eσ1 (by decide)
  have g25_σ1 : σ1.1 218 25 = (σ0.1 218 25) := zI_atN eσ1 (by decide)
  refine ok_pI hT rfl (by decide) (fun σ2 eσ2 hOσ2 hT => ?_)
  have hK : TOK σ2.1 := by first | exact HQ.1 | exact TOK_p eσ2 (by decide) hK
  have hB : ZB σ2.1 := ZB.tr hOσ2 (by decide) hB
  have g7_σ2 : σ2.1 218 7 = (σ0.1 218 7) := (zI_atN eσ2 (by decide)).trans g7_σ1
  have g9_σ2 : σ2.1 218 9 = (σ0.1 218 9) := (zI_atN eσ2 (by decide)).trans g9_σ1
  have g10_σ2 : σ2.1 218 10 = (σ0.1 218 10) := (zI_atN eσ2 (by decide)).trans g10_σ1
  have g11_σ2 : σ2.1 218 11 = (σ0.1 218 11) := (zI_atN eσ2 (by decide)).trans g11_σ1
  have g12_σ2 : σ2.1 218 12 = (σ0.1 218 12) := (zI_atN eσ2 (by decide)).trans g12_σ1
  have g13_σ2 : σ2.1 218 13 = (σ0.1 218 13) := (zI_atN eσ2 (by decide)).trans g13_σ1
  have g14_σ2 : σ2.1 218 14 = (σ0.1 218 14) := (zI_atN eσ2 (by decide)).trans g14_σ1
  have g15_σ2 : σ2.1 218 15 = (σ0.1 218 15) := (zI_atN eσ2 (by decide)).trans g15_σ1
  have g20_σ2 : σ2.1 218 20 = ((1 : Int32) <<< (x1 &&& 31)) := (zI_atN eσ2 (by decide)).trans g20_σ1
  have g22_σ2 : σ2.1 218 22 = (0 : Int32) := zI_atI eσ2
  have g23_σ2 : σ2.1 218 23 = (σ0.1 218 23) := (zI_atN eσ2 (by decide)).trans g23_σ1
  have g24_σ2 : σ2.1 218 24 = (σ0.1 218 24) := (zI_atN eσ2 (by decide)).trans g24_σ1
  have g25_σ2 : σ2.1 218 25 = (σ0.1 218 25) := (zI_atN eσ2 (by decide)).trans g25_σ1
  refine ok_pI hT rfl (by decide) (fun σ3 eσ3 hOσ3 hT => ?_)
  have hK : TOK σ3.1 := by first | exact HQ.1 | exact TOK_p eσ3 (by decide) hK
  have hB : ZB σ3.1 := ZB.tr hOσ3 (by decide) hB
  have g7_σ3 : σ3.1 218 7 = (σ0.1 218 7) := (zI_atN eσ3 (by decide)).trans g7_σ2
  have g9_σ3 : σ3.1 218 9 = (σ0.1 218 9) := (zI_atN eσ3 (by decide)).trans g9_σ2
  have g10_σ3 : σ3.1 218 10 = (σ0.1 218 10) := (zI_atN eσ3 (by decide)).trans g10_σ2
  have g11_σ3 : σ3.1 218 11 = (σ0.1 218 11) := (zI_atN eσ3 (by decide)).trans g11_σ2
  have g12_σ3 : σ3.1 218 12 = (σ0.1 218 12) := (zI_atN eσ3 (by decide)).trans g12_σ2
  have g13_σ3 : σ3.1 218 13 = (σ0.1 218 13) := (zI_atN eσ3 (by decide)).trans g13_σ2
  have g14_σ3 : σ3.1 218 14 = (σ0.1 218 14) := (zI_atN eσ3 (by decide)).trans g14_σ2
  have g15_σ3 : σ3.1 218 15 = (σ0.1 218 15) := (zI_atN eσ3 (by decide)).trans g15_σ2
  have g20_σ3 : σ3.1 218 20 = ((1 : Int32) <<< (x1 &&& 31)) := (zI_atN eσ3 (by decide)).trans g20_σ2
  have g22_σ3 : σ3.1 218 22 = (0 : Int32) := (zI_atN eσ3 (by decide)).trans g22_σ2
  have g23_σ3 : σ3.1 218 23 = (0 : Int32) := zI_atI eσ3
  have g24_σ3 : σ3.1 218 24 = (σ0.1 218 24) := (zI_atN eσ3 (by decide)).trans g24_σ2
  have g25_σ3 : σ3.1 218 25 = (σ0.1 218 25) := (zI_atN eσ3 (by decide)).trans g25_σ2
  refine ok_pI hT rfl (by decide) (fun σ4 eσ4 hOσ4 hT => ?_)
  have hK : TOK σ4.1 := by first | exact HQ.1 | exact TOK_p eσ4 (by decide) hK
  have hB : ZB σ4.1 := ZB.tr hOσ4 (by decide) hB
  have g7_σ4 : σ4.1 218 7 = (σ0.1 218 7) := (zI_atN eσ4 (by decide)).trans g7_σ3
  have g9_σ4 : σ4.1 218 9 = (σ0.1 218 9) := (zI_atN eσ4 (by decide)).trans g9_σ3
  have g10_σ4 : σ4.1 218 10 = (σ0.1 218 10) := (zI_atN eσ4 (by decide)).trans g10_σ3
  have g11_σ4 : σ4.1 218 11 = (σ0.1 218 11) := (zI_atN eσ4 (by decide)).trans g11_σ3
  have g12_σ4 : σ4.1 218 12 = (σ0.1 218 12) := (zI_atN eσ4 (by decide)).trans g12_σ3
  have g13_σ4 : σ4.1 218 13 = (σ0.1 218 13) := (zI_atN eσ4 (by decide)).trans g13_σ3
  have g14_σ4 : σ4.1 218 14 = (σ0.1 218 14) := (zI_atN eσ4 (by decide)).trans g14_σ3
  have g15_σ4 : σ4.1 218 15 = (σ0.1 218 15) := (zI_atN eσ4 (by decide)).trans g15_σ3
  have g20_σ4 : σ4.1 218 20 = ((1 : Int32) <<< (x1 &&& 31)) := (zI_atN eσ4 (by decide)).trans g20_σ3
  have g22_σ4 : σ4.1 218 22 = (0 : Int32) := (zI_atN eσ4 (by decide)).trans g22_σ3
  have g23_σ4 : σ4.1 218 23 = (0 : Int32) := (zI_atN eσ4 (by decide)).trans g23_σ3
  have g24_σ4 : σ4.1 218 24 = (0 : Int32) := zI_atI eσ4
  have g25_σ4 : σ4.1 218 25 = (σ0.1 218 25) := (zI_atN eσ4 (by decide)).trans g25_σ3
  have hPP : PIL σ4.1 0 := PIL_i (b := 0) (d := 0) (r := 0) g22_σ4 g23_σ4 g24_σ4 rfl (by rw [show (0 : Int32).toInt.toNat = 0 by decide]; exact ⟨rfl, rfl, rfl⟩) (by decide) (by decide) (by decide) (by decide)
  refine ok_lp (fun t : Int32 × Int32 × zS => Tr [218, 226, 227, 228, 229, 230] σ0 (t.2.2) ∧ ((((t.2.2).1 218 14 = 0 → σ0.1 218 14 = 0) ∧ (σ0.1 218 11).toInt ≤ ((t.2.2).1 218 11).toInt ∧ 0 ≤ ((t.2.2).1 218 22).toInt ∧ ((t.2.2).1 218 22).toInt ≤ 40) ∧ ((t.2.2).1 218 14 = 0 → (¬ (t.2.1) = 0 → ((t.1) = 0 → PIL (t.2.2).1 0) ∧ (¬ (t.1) = 0 → PIL (t.2.2).1 1)) ∧ ((t.2.1) = 0 → PIL (t.2.2).1 1))) ∧ (TOK (t.2.2).1) ∧ (ZB (t.2.2).1) ∧ ((t.2.2).1 218 7 = (σ0.1 218 7)) ∧ ((t.2.2).1 218 9 = (σ0.1 218 9)) ∧ ((t.2.2).1 218 20 = ((1 : Int32) <<< (x1 &&& 31)))) (fun t : Int32 × Int32 × zS => (600 - ((t.2.2).1 218 11).toInt).toNat + (if (t.2.2).1 218 14 = 0 then 1 else 0) + (if (t.2.1) = 0 then 0 else 1)) (fun again5 t hI ih27_5 => ?_) N _ (show Tr [218, 226, 227, 228, 229, 230] σ0 σ4 ∧ (((σ4.1 218 14 = 0 → σ0.1 218 14 = 0) ∧ (σ0.1 218 11).toInt ≤ (σ4.1 218 11).toInt ∧ 0 ≤ (σ4.1 218 22).toInt ∧ (σ4.1 218 22).toInt ≤ 40) ∧ (σ4.1 218 14 = 0 → (¬ (1 : Int32) = 0 → ((0 : Int32) = 0 → PIL σ4.1 0) ∧ (¬ (0 : Int32) = 0 → PIL σ4.1 1)) ∧ ((1 : Int32) = 0 → PIL σ4.1 1))) ∧ (TOK σ4.1) ∧ (ZB σ4.1) ∧ (σ4.1 218 7 = (σ0.1 218 7)) ∧ (σ4.1 218 9 = (σ0.1 218 9)) ∧ (σ4.1 218 20 = ((1 : Int32) <<< (x1 &&& 31))) from ⟨hT, (by exact ⟨⟨fun q => by rw [g14_σ4] at q; exact q, by (try simp only [g7_σ4, g9_σ4, g10_σ4, g11_σ4, g12_σ4, g13_σ4, g14_σ4, g15_σ4, g20_σ4, g22_σ4, g23_σ4, g24_σ4, g25_σ4]); omega, by (try simp only [g7_σ4, g9_σ4, g10_σ4, g11_σ4, g12_σ4, g13_σ4, g14_σ4, g15_σ4, g20_σ4, g22_σ4, g23_σ4, g24_σ4, g25_σ4]); simp only [Int32.reduceToInt]; omega⟩, fun _ => ⟨fun _ => ⟨fun _ => hPP, fun h => absurd rfl h⟩, fun h => absurd h (by decide)⟩⟩), hK, hB, g7_σ4, g9_σ4, g20_σ4⟩) (show (600 - (σ4.1 218 11).toInt).toNat + (if σ4.1 218 14 = 0 then 1 else 0) + (if (1 : Int32) = 0 then 0 else 1) < N from (by (try simp only [g7_σ4, g9_σ4, g10_σ4, g11_σ4, g12_σ4, g13_σ4, g14_σ4, g15_σ4, g20_σ4, g22_σ4, g23_σ4, g24_σ4, g25_σ4]); split <;> split <;> omega))
  obtain ⟨x3_5, x4_5, σ5⟩ := t
  have hI : Tr [218, 226, 227, 228, 229, 230] σ0 σ5 ∧ (((σ5.1 218 14 = 0 → σ0.1 218 14 = 0) ∧ (σ0.1 218 11).toInt ≤ (σ5.1 218 11).toInt ∧ 0 ≤ (σ5.1 218 22).toInt ∧ (σ5.1 218 22).toInt ≤ 40) ∧ (σ5.1 218 14 = 0 → (¬ x4_5 = 0 → (x3_5 = 0 → PIL σ5.1 0) ∧ (¬ x3_5 = 0 → PIL σ5.1 1)) ∧ (x4_5 = 0 → PIL σ5.1 1))) ∧ (TOK σ5.1) ∧ (ZB σ5.1) ∧ (σ5.1 218 7 = (σ0.1 218 7)) ∧ (σ5.1 218 9 = (σ0.1 218 9)) ∧ (σ5.1 218 20 = ((1 : Int32) <<< (x1 &&& 31))) := hI
  obtain ⟨hT, hI5, hK, hB, g7_σ5, g9_σ5, g20_σ5⟩ := hI
  rw [F_X12_readsSum_27.eq_1]
  have i1 := hI5.1
  have i2 := hI5.2
  have hK9 := hK.1
  refine ok_gC rfl ?_
  refine ok_zbX (Q := fun V => (V = 0 → ¬ σ5.1 218 14 = 0) ∧ (¬ V = 0 → σ5.1 218 14 = 0)) (x_X12_good) (fun v6 hqv6 => ?_)
  have hqv6 : (v6 = 0 → ¬ σ5.1 218 14 = 0) ∧ (¬ v6 = 0 → σ5.1 218 14 = 0) := hqv6
  try simp only [g7_σ5, g9_σ5, g20_σ5, hT.2 224 (by decide)] at hqv6
  refine ok_if (fun hc8 => ?_) (fun hc8 => ?_)
  · have qhc8 := hqv6.1 hc8
    have n31 := qhc8
    rw [J_X12_readsSum_86.eq_1]
    refine ok_gC rfl ?_
    refine ok_zbX (Q := fun V => (V = 0 → True) ∧ (¬ V = 0 → ∃ k : Nat, (k : Int) < (σ5.1 218 22).toInt ∧ σ5.1 230 k = 100)) (x_X12_isOpen hN (hR.tr hT) ⟨by omega, by omega⟩) (fun v9 hqv9 => ?_)
    have hqv9 : (v9 = 0 → True) ∧ (¬ v9 = 0 → ∃ k : Nat, (k : Int) < (σ5.1 218 22).toInt ∧ σ5.1 230 k = 100) := hqv9
    try simp only [g7_σ5, g9_σ5, g20_σ5, hT.2 224 (by decide)] at hqv9
    refine ok_if (fun hc11 => ?_) (fun hc11 => ?_)
    · have qhc11 := hqv9.1 hc11
      rw [J_X12_readsSum_98.eq_1]
      refine ok_gC rfl ?_
      refine ok_zbX (Q := fun V => (V = 0 → ¬ σ5.1 218 14 = 0) ∧ (¬ V = 0 → σ5.1 218 14 = 0)) (x_X12_good) (fun v12 hqv12 => ?_)
      have hqv12 : (v12 = 0 → ¬ σ5.1 218 14 = 0) ∧ (¬ v12 = 0 → σ5.1 218 14 = 0) := hqv12
      try simp only [g7_σ5, g9_σ5, g20_σ5, hT.2 224 (by decide)] at hqv12
      refine ok_if (fun hc14 => ?_) (fun hc14 => ?_)
      · have qhc14 := hqv12.1 hc14
        have n102 := qhc14
        exact ok_some ⟨hT, (show (TOK σ5.1 ∧ (σ0.1 218 11).toInt ≤ (σ5.1 218 11).toInt ∧ (σ5.1 218 14 = 0 → σ0.1 218 14 = 0) ∧ ZB σ5.1) ∧ (σ5.1 218 7 = σ0.1 218 7 ∧ σ5.1 218 9 = σ0.1 218 9) from ⟨by first | exact ⟨hK, by (try simp only [g7_σ5, g9_σ5, g20_σ5]); omega, fun q => absurd q (by (try simp only [g7_σ5, g9_σ5, g20_σ5]); exact n102), hB⟩ | exact ⟨hK, by (try simp only [g7_σ5, g9_σ5, g20_σ5]); omega, fun _ => i1.1 y31, hB⟩ | exact absurd y102 n31 | exact absurd y102 n95, g7_σ5, g9_σ5⟩)⟩
      · have qhc14 := hqv12.2 hc14
        have y102 := qhc14
        refine ok_gC rfl ?_
        refine ok_zbT (Q := fun V σ => (TOK σ.1 ∧ ZB σ.1 ∧ PIL σ.1 1 ∧ (∀ k : Nat, (k : Int) < (σ5.1 218 22).toInt → σ5.1 230 k = 100 → (k : Int) < (σ.1 218 22).toInt) ∧ ((σ.1 218 22).toInt ≤ 0 ∨ (rkI (σ5.1 230 ((σ.1 218 22) - 1).toNatClampNeg)).toInt < (1 : Int32).toInt)) ∧ (σ.1 218 7 = σ5.1 218 7 ∧ σ.1 218 9 = σ5.1 218 9 ∧ σ.1 218 10 = σ5.1 218 10 ∧ σ.1 218 11 = σ5.1 218 11 ∧ σ.1 218 12 = σ5.1 218 12 ∧ σ.1 218 13 = σ5.1 218 13 ∧ σ.1 218 14 = σ5.1 218 14 ∧ σ.1 218 15 = σ5.1 218 15 ∧ σ.1 218 20 = σ5.1 218 20 ∧ σ.1 218 25 = σ5.1 218 25)) hT (s_X12_settlesTo hN (hR.tr hT) (hK) (by rw [hT.2 224 (by decide)]; exact hY) (hB) (by (try simp only [g7_σ5, g9_σ5, g20_σ5]); omega) (by first | exact (i2 y31).2 e36 | exact absurd y102 n31 | exact absurd y102 n95) (by decide)) (by decide) (fun v15 σ16 hOσ16 hT hqv15 => ?_)
        have hqv15 : (TOK σ16.1 ∧ ZB σ16.1 ∧ PIL σ16.1 1 ∧ (∀ k : Nat, (k : Int) < (σ5.1 218 22).toInt → σ5.1 230 k = 100 → (k : Int) < (σ16.1 218 22).toInt) ∧ ((σ16.1 218 22).toInt ≤ 0 ∨ (rkI (σ5.1 230 ((σ16.1 218 22) - 1).toNatClampNeg)).toInt < (1 : Int32).toInt)) ∧ (σ16.1 218 7 = σ5.1 218 7 ∧ σ16.1 218 9 = σ5.1 218 9 ∧ σ16.1 218 10 = σ5.1 218 10 ∧ σ16.1 218 11 = σ5.1 218 11 ∧ σ16.1 218 12 = σ5.1 218 12 ∧ σ16.1 218 13 = σ5.1 218 13 ∧ σ16.1 218 14 = σ5.1 218 14 ∧ σ16.1 218 15 = σ5.1 218 15 ∧ σ16.1 218 20 = σ5.1 218 20 ∧ σ16.1 218 25 = σ5.1 218 25) := hqv15
        have hkv15 := hqv15
        have hqv15 := hqv15.1
        have hK : TOK σ16.1 := by first | exact hqv15.1 | exact TOK_p eσ16 (by decide) hK
        have hB : ZB σ16.1 := by first | exact hqv15.2.1 | exact hqv15.2.2.2 | exact hqv15.2.2.2.2
        try simp only [g7_σ5, g9_σ5, g20_σ5] at hqv15
        have g7_σ16 : σ16.1 218 7 = (σ0.1 218 7) := (hkv15.2.1).trans g7_σ5
        have g9_σ16 : σ16.1 218 9 = (σ0.1 218 9) := (hkv15.2.2.1).trans g9_σ5
        have g10_σ16 : σ16.1 218 10 = (σ5.1 218 10) := hkv15.2.2.2.1
        have g11_σ16 : σ16.1 218 11 = (σ5.1 218 11) := hkv15.2.2.2.2.1
        have g12_σ16 : σ16.1 218 12 = (σ5.1 218 12) := hkv15.2.2.2.2.2.1
        have g13_σ16 : σ16.1 218 13 = (σ5.1 218 13) := hkv15.2.2.2.2.2.2.1
        have g14_σ16 : σ16.1 218 14 = (σ5.1 218 14) := hkv15.2.2.2.2.2.2.2.1
        have g15_σ16 : σ16.1 218 15 = (σ5.1 218 15) := hkv15.2.2.2.2.2.2.2.2.1
        have g20_σ16 : σ16.1 218 20 = ((1 : Int32) <<< (x1 &&& 31)) := (hkv15.2.2.2.2.2.2.2.2.2.1).trans g20_σ5
        have g25_σ16 : σ16.1 218 25 = (σ5.1 218 25) := hkv15.2.2.2.2.2.2.2.2.2.2
        exact ok_some ⟨hT, (show (TOK σ16.1 ∧ (σ0.1 218 11).toInt ≤ (σ16.1 218 11).toInt ∧ (σ16.1 218 14 = 0 → σ0.1 218 14 = 0) ∧ ZB σ16.1) ∧ (σ16.1 218 7 = σ0.1 218 7 ∧ σ16.1 218 9 = σ0.1 218 9) from ⟨by first | exact ⟨hK, by (try simp only [g7_σ16, g9_σ16, g10_σ16, g11_σ16, g12_σ16, g13_σ16, g14_σ16, g15_σ16, g20_σ16, g25_σ16]); omega, fun q => absurd q (by (try simp only [g7_σ16, g9_σ16, g10_σ16, g11_σ16, g12_σ16, g13_σ16, g14_σ16, g15_σ16, g20_σ16, g25_σ16]); exact n102), hB⟩ | exact ⟨hK, by (try simp only [g7_σ16, g9_σ16, g10_σ16, g11_σ16, g12_σ16, g13_σ16, g14_σ16, g15_σ16, g20_σ16, g25_σ16]); omega, fun _ => i1.1 y31, hB⟩ | exact absurd y102 n31 | exact absurd y102 n95, g7_σ16, g9_σ16⟩)⟩
    · have qhc11 := hqv9.2 hc11
      refine ok_gC rfl ?_
      refine ok_zbT (Q := fun V σ => (TOK σ.1 ∧ ¬ σ.1 218 14 = 0) ∧ (σ.1 218 7 = σ5.1 218 7 ∧ σ.1 218 9 = σ5.1 218 9 ∧ σ.1 218 10 = σ5.1 218 10 ∧ σ.1 218 11 = σ5.1 218 11 ∧ σ.1 218 12 = σ5.1 218 12 ∧ σ.1 218 13 = σ5.1 218 13 ∧ σ.1 218 20 = σ5.1 218 20 ∧ σ.1 218 22 = σ5.1 218 22 ∧ σ.1 218 23 = σ5.1 218 23 ∧ σ.1 218 24 = σ5.1 218 24 ∧ σ.1 218 25 = σ5.1 218 25)) hT (s_X12_errs hN (hR.tr hT) (hK) (by rw [hT.2 224 (by decide)]; exact hY) (by decide)) (by decide) (fun v17 σ18 hOσ18 hT hqv17 => ?_)
      have hqv17 : (TOK σ18.1 ∧ ¬ σ18.1 218 14 = 0) ∧ (σ18.1 218 7 = σ5.1 218 7 ∧ σ18.1 218 9 = σ5.1 218 9 ∧ σ18.1 218 10 = σ5.1 218 10 ∧ σ18.1 218 11 = σ5.1 218 11 ∧ σ18.1 218 12 = σ5.1 218 12 ∧ σ18.1 218 13 = σ5.1 218 13 ∧ σ18.1 218 20 = σ5.1 218 20 ∧ σ18.1 218 22 = σ5.1 218 22 ∧ σ18.1 218 23 = σ5.1 218 23 ∧ σ18.1 218 24 = σ5.1 218 24 ∧ σ18.1 218 25 = σ5.1 218 25) := hqv17
      have hkv17 := hqv17
      have hqv17 := hqv17.1
      have hK : TOK σ18.1 := by first | exact hqv17.1 | exact TOK_p eσ18 (by decide) hK
      have hB : ZB σ18.1 := ZB.tr hOσ18 (by decide) hB
      try simp only [g7_σ5, g9_σ5, g20_σ5] at hqv17
      have g7_σ18 : σ18.1 218 7 = (σ0.1 218 7) := (hkv17.2.1).trans g7_σ5
      have g9_σ18 : σ18.1 218 9 = (σ0.1 218 9) := (hkv17.2.2.1).trans g9_σ5
      have g10_σ18 : σ18.1 218 10 = (σ5.1 218 10) := hkv17.2.2.2.1
      have g11_σ18 : σ18.1 218 11 = (σ5.1 218 11) := hkv17.2.2.2.2.1
      have g12_σ18 : σ18.1 218 12 = (σ5.1 218 12) := hkv17.2.2.2.2.2.1
      have g13_σ18 : σ18.1 218 13 = (σ5.1 218 13) := hkv17.2.2.2.2.2.2.1
      have g20_σ18 : σ18.1 218 20 = ((1 : Int32) <<< (x1 &&& 31)) := (hkv17.2.2.2.2.2.2.2.1).trans g20_σ5
      have g22_σ18 : σ18.1 218 22 = (σ5.1 218 22) := hkv17.2.2.2.2.2.2.2.2.1
      have g23_σ18 : σ18.1 218 23 = (σ5.1 218 23) := hkv17.2.2.2.2.2.2.2.2.2.1
      have g24_σ18 : σ18.1 218 24 = (σ5.1 218 24) := hkv17.2.2.2.2.2.2.2.2.2.2.1
      have g25_σ18 : σ18.1 218 25 = (σ5.1 218 25) := hkv17.2.2.2.2.2.2.2.2.2.2.2
      have n95 := hqv17.2
      rw [J_X12_readsSum_98.eq_1]
      refine ok_gC rfl ?_
      refine ok_zbX (Q := fun V => (V = 0 → ¬ σ18.1 218 14 = 0) ∧ (¬ V = 0 → σ18.1 218 14 = 0)) (x_X12_good) (fun v19 hqv19 => ?_)
      have hqv19 : (v19 = 0 → ¬ σ18.1 218 14 = 0) ∧ (¬ v19 = 0 → σ18.1 218 14 = 0) := hqv19
      try simp only [g7_σ18, g9_σ18, g10_σ18, g11_σ18, g12_σ18, g13_σ18, g20_σ18, g22_σ18, g23_σ18, g24_σ18, g25_σ18, hT.2 224 (by decide)] at hqv19
      refine ok_if (fun hc21 => ?_) (fun hc21 => ?_)
      · have qhc21 := hqv19.1 hc21
        have n102 := qhc21
        exact ok_some ⟨hT, (show (TOK σ18.1 ∧ (σ0.1 218 11).toInt ≤ (σ18.1 218 11).toInt ∧ (σ18.1 218 14 = 0 → σ0.1 218 14 = 0) ∧ ZB σ18.1) ∧ (σ18.1 218 7 = σ0.1 218 7 ∧ σ18.1 218 9 = σ0.1 218 9) from ⟨by first | exact ⟨hK, by (try simp only [g7_σ18, g9_σ18, g10_σ18, g11_σ18, g12_σ18, g13_σ18, g20_σ18, g22_σ18, g23_σ18, g24_σ18, g25_σ18]); omega, fun q => absurd q (by (try simp only [g7_σ18, g9_σ18, g10_σ18, g11_σ18, g12_σ18, g13_σ18, g20_σ18, g22_σ18, g23_σ18, g24_σ18, g25_σ18]); exact n102), hB⟩ | exact ⟨hK, by (try simp only [g7_σ18, g9_σ18, g10_σ18, g11_σ18, g12_σ18, g13_σ18, g20_σ18, g22_σ18, g23_σ18, g24_σ18, g25_σ18]); omega, fun _ => i1.1 y31, hB⟩ | exact absurd y102 n31 | exact absurd y102 n95, g7_σ18, g9_σ18⟩)⟩
      · have qhc21 := hqv19.2 hc21
        have y102 := qhc21
        refine ok_gC rfl ?_
        refine ok_zbT (Q := fun V σ => (TOK σ.1 ∧ ZB σ.1 ∧ PIL σ.1 1 ∧ (∀ k : Nat, (k : Int) < (σ18.1 218 22).toInt → σ18.1 230 k = 100 → (k : Int) < (σ.1 218 22).toInt) ∧ ((σ.1 218 22).toInt ≤ 0 ∨ (rkI (σ18.1 230 ((σ.1 218 22) - 1).toNatClampNeg)).toInt < (1 : Int32).toInt)) ∧ (σ.1 218 7 = σ18.1 218 7 ∧ σ.1 218 9 = σ18.1 218 9 ∧ σ.1 218 10 = σ18.1 218 10 ∧ σ.1 218 11 = σ18.1 218 11 ∧ σ.1 218 12 = σ18.1 218 12 ∧ σ.1 218 13 = σ18.1 218 13 ∧ σ.1 218 14 = σ18.1 218 14 ∧ σ.1 218 15 = σ18.1 218 15 ∧ σ.1 218 20 = σ18.1 218 20 ∧ σ.1 218 25 = σ18.1 218 25)) hT (s_X12_settlesTo hN (hR.tr hT) (hK) (by rw [hT.2 224 (by decide)]; exact hY) (hB) (by (try simp only [g7_σ18, g9_σ18, g10_σ18, g11_σ18, g12_σ18, g13_σ18, g20_σ18, g22_σ18, g23_σ18, g24_σ18, g25_σ18]); omega) (by first | exact (i2 y31).2 e36 | exact absurd y102 n31 | exact absurd y102 n95) (by decide)) (by decide) (fun v22 σ23 hOσ23 hT hqv22 => ?_)
        have hqv22 : (TOK σ23.1 ∧ ZB σ23.1 ∧ PIL σ23.1 1 ∧ (∀ k : Nat, (k : Int) < (σ18.1 218 22).toInt → σ18.1 230 k = 100 → (k : Int) < (σ23.1 218 22).toInt) ∧ ((σ23.1 218 22).toInt ≤ 0 ∨ (rkI (σ18.1 230 ((σ23.1 218 22) - 1).toNatClampNeg)).toInt < (1 : Int32).toInt)) ∧ (σ23.1 218 7 = σ18.1 218 7 ∧ σ23.1 218 9 = σ18.1 218 9 ∧ σ23.1 218 10 = σ18.1 218 10 ∧ σ23.1 218 11 = σ18.1 218 11 ∧ σ23.1 218 12 = σ18.1 218 12 ∧ σ23.1 218 13 = σ18.1 218 13 ∧ σ23.1 218 14 = σ18.1 218 14 ∧ σ23.1 218 15 = σ18.1 218 15 ∧ σ23.1 218 20 = σ18.1 218 20 ∧ σ23.1 218 25 = σ18.1 218 25) := hqv22
        have hkv22 := hqv22
        have hqv22 := hqv22.1
        have hK : TOK σ23.1 := by first | exact hqv22.1 | exact TOK_p eσ23 (by decide) hK
        have hB : ZB σ23.1 := by first | exact hqv22.2.1 | exact hqv22.2.2.2 | exact hqv22.2.2.2.2
        try simp only [g7_σ18, g9_σ18, g10_σ18, g11_σ18, g12_σ18, g13_σ18, g20_σ18, g22_σ18, g23_σ18, g24_σ18, g25_σ18] at hqv22
        have g7_σ23 : σ23.1 218 7 = (σ0.1 218 7) := (hkv22.2.1).trans g7_σ18
        have g9_σ23 : σ23.1 218 9 = (σ0.1 218 9) := (hkv22.2.2.1).trans g9_σ18
        have g10_σ23 : σ23.1 218 10 = (σ5.1 218 10) := (hkv22.2.2.2.1).trans g10_σ18
        have g11_σ23 : σ23.1 218 11 = (σ5.1 218 11) := (hkv22.2.2.2.2.1).trans g11_σ18
        have g12_σ23 : σ23.1 218 12 = (σ5.1 218 12) := (hkv22.2.2.2.2.2.1).trans g12_σ18
        have g13_σ23 : σ23.1 218 13 = (σ5.1 218 13) := (hkv22.2.2.2.2.2.2.1).trans g13_σ18
        have g14_σ23 : σ23.1 218 14 = (σ18.1 218 14) := hkv22.2.2.2.2.2.2.2.1
        have g15_σ23 : σ23.1 218 15 = (σ18.1 218 15) := hkv22.2.2.2.2.2.2.2.2.1
        have g20_σ23 : σ23.1 218 20 = ((1 : Int32) <<< (x1 &&& 31)) := (hkv22.2.2.2.2.2.2.2.2.2.1).trans g20_σ18
        have g25_σ23 : σ23.1 218 25 = (σ5.1 218 25) := (hkv22.2.2.2.2.2.2.2.2.2.2).trans g25_σ18
        exact ok_some ⟨hT, (show (TOK σ23.1 ∧ (σ0.1 218 11).toInt ≤ (σ23.1 218 11).toInt ∧ (σ23.1 218 14 = 0 → σ0.1 218 14 = 0) ∧ ZB σ23.1) ∧ (σ23.1 218 7 = σ0.1 218 7 ∧ σ23.1 218 9 = σ0.1 218 9) from ⟨by first | exact ⟨hK, by (try simp only [g7_σ23, g9_σ23, g10_σ23, g11_σ23, g12_σ23, g13_σ23, g14_σ23, g15_σ23, g20_σ23, g25_σ23]); omega, fun q => absurd q (by (try simp only [g7_σ23, g9_σ23, g10_σ23, g11_σ23, g12_σ23, g13_σ23, g14_σ23, g15_σ23, g20_σ23, g25_σ23]); exact n102), hB⟩ | exact ⟨hK, by (try simp only [g7_σ23, g9_σ23, g10_σ23, g11_σ23, g12_σ23, g13_σ23, g14_σ23, g15_σ23, g20_σ23, g25_σ23]); omega, fun _ => i1.1 y31, hB⟩ | exact absurd y102 n31 | exact absurd y102 n95, g7_σ23, g9_σ23⟩)⟩
  · have qhc8 := hqv6.2 hc8
    have y31 := qhc8
    refine ok_if (fun hc24 => ?_) (fun hc24 => ?_)
    · have e36 := hc24
      rw [J_X12_readsSum_86.eq_1]
      refine ok_gC rfl ?_
      refine ok_zbX (Q := fun V => (V = 0 → True) ∧ (¬ V = 0 → ∃ k : Nat, (k : Int) < (σ5.1 218 22).toInt ∧ σ5.1 230 k = 100)) (x_X12_isOpen hN (hR.tr hT) ⟨by omega, by omega⟩) (fun v25 hqv25 => ?_)
      have hqv25 : (v25 = 0 → True) ∧ (¬ v25 = 0 → ∃ k : Nat, (k : Int) < (σ5.1 218 22).toInt ∧ σ5.1 230 k = 100) := hqv25
      try simp only [g7_σ5, g9_σ5, g20_σ5, hT.2 224 (by decide)] at hqv25
      refine ok_if (fun hc27 => ?_) (fun hc27 => ?_)
      · have qhc27 := hqv25.1 hc27
        rw [J_X12_readsSum_98.eq_1]
        refine ok_gC rfl ?_
        refine ok_zbX (Q := fun V => (V = 0 → ¬ σ5.1 218 14 = 0) ∧ (¬ V = 0 → σ5.1 218 14 = 0)) (x_X12_good) (fun v28 hqv28 => ?_)
        have hqv28 : (v28 = 0 → ¬ σ5.1 218 14 = 0) ∧ (¬ v28 = 0 → σ5.1 218 14 = 0) := hqv28
        try simp only [g7_σ5, g9_σ5, g20_σ5, hT.2 224 (by decide)] at hqv28
        refine ok_if (fun hc30 => ?_) (fun hc30 => ?_)
        · have qhc30 := hqv28.1 hc30
          have n102 := qhc30
          exact ok_some ⟨hT, (show (TOK σ5.1 ∧ (σ0.1 218 11).toInt ≤ (σ5.1 218 11).toInt ∧ (σ5.1 218 14 = 0 → σ0.1 218 14 = 0) ∧ ZB σ5.1) ∧ (σ5.1 218 7 = σ0.1 218 7 ∧ σ5.1 218 9 = σ0.1 218 9) from ⟨by first | exact ⟨hK, by (try simp only [g7_σ5, g9_σ5, g20_σ5]); omega, fun q => absurd q (by (try simp only [g7_σ5, g9_σ5, g20_σ5]); exact n102), hB⟩ | exact ⟨hK, by (try simp only [g7_σ5, g9_σ5, g20_σ5]); omega, fun _ => i1.1 y31, hB⟩ | exact absurd y102 n31 | exact absurd y102 n95, g7_σ5, g9_σ5⟩)⟩
        · have qhc30 := hqv28.2 hc30
          have y102 := qhc30
          refine ok_gC rfl ?_
          refine ok_zbT (Q := fun V σ => (TOK σ.1 ∧ ZB σ.1 ∧ PIL σ.1 1 ∧ (∀ k : Nat, (k : Int) < (σ5.1 218 22).toInt → σ5.1 230 k = 100 → (k : Int) < (σ.1 218 22).toInt) ∧ ((σ.1 218 22).toInt ≤ 0 ∨ (rkI (σ5.1 230 ((σ.1 218 22) - 1).toNatClampNeg)).toInt < (1 : Int32).toInt)) ∧ (σ.1 218 7 = σ5.1 218 7 ∧ σ.1 218 9 = σ5.1 218 9 ∧ σ.1 218 10 = σ5.1 218 10 ∧ σ.1 218 11 = σ5.1 218 11 ∧ σ.1 218 12 = σ5.1 218 12 ∧ σ.1 218 13 = σ5.1 218 13 ∧ σ.1 218 14 = σ5.1 218 14 ∧ σ.1 218 15 = σ5.1 218 15 ∧ σ.1 218 20 = σ5.1 218 20 ∧ σ.1 218 25 = σ5.1 218 25)) hT (s_X12_settlesTo hN (hR.tr hT) (hK) (by rw [hT.2 224 (by decide)]; exact hY) (hB) (by (try simp only [g7_σ5, g9_σ5, g20_σ5]); omega) (by first | exact (i2 y31).2 e36 | exact absurd y102 n31 | exact absurd y102 n95) (by decide)) (by decide) (fun v31 σ32 hOσ32 hT hqv31 => ?_)
          have hqv31 : (TOK σ32.1 ∧ ZB σ32.1 ∧ PIL σ32.1 1 ∧ (∀ k : Nat, (k : Int) < (σ5.1 218 22).toInt → σ5.1 230 k = 100 → (k : Int) < (σ32.1 218 22).toInt) ∧ ((σ32.1 218 22).toInt ≤ 0 ∨ (rkI (σ5.1 230 ((σ32.1 218 22) - 1).toNatClampNeg)).toInt < (1 : Int32).toInt)) ∧ (σ32.1 218 7 = σ5.1 218 7 ∧ σ32.1 218 9 = σ5.1 218 9 ∧ σ32.1 218 10 = σ5.1 218 10 ∧ σ32.1 218 11 = σ5.1 218 11 ∧ σ32.1 218 12 = σ5.1 218 12 ∧ σ32.1 218 13 = σ5.1 218 13 ∧ σ32.1 218 14 = σ5.1 218 14 ∧ σ32.1 218 15 = σ5.1 218 15 ∧ σ32.1 218 20 = σ5.1 218 20 ∧ σ32.1 218 25 = σ5.1 218 25) := hqv31
          have hkv31 := hqv31
          have hqv31 := hqv31.1
          have hK : TOK σ32.1 := by first | exact hqv31.1 | exact TOK_p eσ32 (by decide) hK
          have hB : ZB σ32.1 := by first | exact hqv31.2.1 | exact hqv31.2.2.2 | exact hqv31.2.2.2.2
          try simp only [g7_σ5, g9_σ5, g20_σ5] at hqv31
          have g7_σ32 : σ32.1 218 7 = (σ0.1 218 7) := (hkv31.2.1).trans g7_σ5
          have g9_σ32 : σ32.1 218 9 = (σ0.1 218 9) := (hkv31.2.2.1).trans g9_σ5
          have g10_σ32 : σ32.1 218 10 = (σ5.1 218 10) := hkv31.2.2.2.1
          have g11_σ32 : σ32.1 218 11 = (σ5.1 218 11) := hkv31.2.2.2.2.1
          have g12_σ32 : σ32.1 218 12 = (σ5.1 218 12) := hkv31.2.2.2.2.2.1
          have g13_σ32 : σ32.1 218 13 = (σ5.1 218 13) := hkv31.2.2.2.2.2.2.1
          have g14_σ32 : σ32.1 218 14 = (σ5.1 218 14) := hkv31.2.2.2.2.2.2.2.1
          have g15_σ32 : σ32.1 218 15 = (σ5.1 218 15) := hkv31.2.2.2.2.2.2.2.2.1
          have g20_σ32 : σ32.1 218 20 = ((1 : Int32) <<< (x1 &&& 31)) := (hkv31.2.2.2.2.2.2.2.2.2.1).trans g20_σ5
          have g25_σ32 : σ32.1 218 25 = (σ5.1 218 25) := hkv31.2.2.2.2.2.2.2.2.2.2
          exact ok_some ⟨hT, (show (TOK σ32.1 ∧ (σ0.1 218 11).toInt ≤ (σ32.1 218 11).toInt ∧ (σ32.1 218 14 = 0 → σ0.1 218 14 = 0) ∧ ZB σ32.1) ∧ (σ32.1 218 7 = σ0.1 218 7 ∧ σ32.1 218 9 = σ0.1 218 9) from ⟨by first | exact ⟨hK, by (try simp only [g7_σ32, g9_σ32, g10_σ32, g11_σ32, g12_σ32, g13_σ32, g14_σ32, g15_σ32, g20_σ32, g25_σ32]); omega, fun q => absurd q (by (try simp only [g7_σ32, g9_σ32, g10_σ32, g11_σ32, g12_σ32, g13_σ32, g14_σ32, g15_σ32, g20_σ32, g25_σ32]); exact n102), hB⟩ | exact ⟨hK, by (try simp only [g7_σ32, g9_σ32, g10_σ32, g11_σ32, g12_σ32, g13_σ32, g14_σ32, g15_σ32, g20_σ32, g25_σ32]); omega, fun _ => i1.1 y31, hB⟩ | exact absurd y102 n31 | exact absurd y102 n95, g7_σ32, g9_σ32⟩)⟩
      · have qhc27 := hqv25.2 hc27
        refine ok_gC rfl ?_
        refine ok_zbT (Q := fun V σ => (TOK σ.1 ∧ ¬ σ.1 218 14 = 0) ∧ (σ.1 218 7 = σ5.1 218 7 ∧ σ.1 218 9 = σ5.1 218 9 ∧ σ.1 218 10 = σ5.1 218 10 ∧ σ.1 218 11 = σ5.1 218 11 ∧ σ.1 218 12 = σ5.1 218 12 ∧ σ.1 218 13 = σ5.1 218 13 ∧ σ.1 218 20 = σ5.1 218 20 ∧ σ.1 218 22 = σ5.1 218 22 ∧ σ.1 218 23 = σ5.1 218 23 ∧ σ.1 218 24 = σ5.1 218 24 ∧ σ.1 218 25 = σ5.1 218 25)) hT (s_X12_errs hN (hR.tr hT) (hK) (by rw [hT.2 224 (by decide)]; exact hY) (by decide)) (by decide) (fun v33 σ34 hOσ34 hT hqv33 => ?_)
        have hqv33 : (TOK σ34.1 ∧ ¬ σ34.1 218 14 = 0) ∧ (σ34.1 218 7 = σ5.1 218 7 ∧ σ34.1 218 9 = σ5.1 218 9 ∧ σ34.1 218 10 = σ5.1 218 10 ∧ σ34.1 218 11 = σ5.1 218 11 ∧ σ34.1 218 12 = σ5.1 218 12 ∧ σ34.1 218 13 = σ5.1 218 13 ∧ σ34.1 218 20 = σ5.1 218 20 ∧ σ34.1 218 22 = σ5.1 218 22 ∧ σ34.1 218 23 = σ5.1 218 23 ∧ σ34.1 218 24 = σ5.1 218 24 ∧ σ34.1 218 25 = σ5.1 218 25) := hqv33
        have hkv33 := hqv33
        have hqv33 := hqv33.1
        have hK : TOK σ34.1 := by first | exact hqv33.1 | exact TOK_p eσ34 (by decide) hK
        have hB : ZB σ34.1 := ZB.tr hOσ34 (by decide) hB
        try simp only [g7_σ5, g9_σ5, g20_σ5] at hqv33
        have g7_σ34 : σ34.1 218 7 = (σ0.1 218 7) := (hkv33.2.1).trans g7_σ5
        have g9_σ34 : σ34.1 218 9 = (σ0.1 218 9) := (hkv33.2.2.1).trans g9_σ5
        have g10_σ34 : σ34.1 218 10 = (σ5.1 218 10) := hkv33.2.2.2.1
        have g11_σ34 : σ34.1 218 11 = (σ5.1 218 11) := hkv33.2.2.2.2.1
        have g12_σ34 : σ34.1 218 12 = (σ5.1 218 12) := hkv33.2.2.2.2.2.1
        have g13_σ34 : σ34.1 218 13 = (σ5.1 218 13) := hkv33.2.2.2.2.2.2.1
        have g20_σ34 : σ34.1 218 20 = ((1 : Int32) <<< (x1 &&& 31)) := (hkv33.2.2.2.2.2.2.2.1).trans g20_σ5
        have g22_σ34 : σ34.1 218 22 = (σ5.1 218 22) := hkv33.2.2.2.2.2.2.2.2.1
        have g23_σ34 : σ34.1 218 23 = (σ5.1 218 23) := hkv33.2.2.2.2.2.2.2.2.2.1
        have g24_σ34 : σ34.1 218 24 = (σ5.1 218 24) := hkv33.2.2.2.2.2.2.2.2.2.2.1
        have g25_σ34 : σ34.1 218 25 = (σ5.1 218 25) := hkv33.2.2.2.2.2.2.2.2.2.2.2
        have n95 := hqv33.2
        rw [J_X12_readsSum_98.eq_1]
        refine ok_gC rfl ?_
        refine ok_zbX (Q := fun V => (V = 0 → ¬ σ34.1 218 14 = 0) ∧ (¬ V = 0 → σ34.1 218 14 = 0)) (x_X12_good) (fun v35 hqv35 => ?_)
        have hqv35 : (v35 = 0 → ¬ σ34.1 218 14 = 0) ∧ (¬ v35 = 0 → σ34.1 218 14 = 0) := hqv35
        try simp only [g7_σ34, g9_σ34, g10_σ34, g11_σ34, g12_σ34, g13_σ34, g20_σ34, g22_σ34, g23_σ34, g24_σ34, g25_σ34, hT.2 224 (by decide)] at hqv35
        refine ok_if (fun hc37 => ?_) (fun hc37 => ?_)
        · have qhc37 := hqv35.1 hc37
          have n102 := qhc37
          exact ok_some ⟨hT, (show (TOK σ34.1 ∧ (σ0.1 218 11).toInt ≤ (σ34.1 218 11).toInt ∧ (σ34.1 218 14 = 0 → σ0.1 218 14 = 0) ∧ ZB σ34.1) ∧ (σ34.1 218 7 = σ0.1 218 7 ∧ σ34.1 218 9 = σ0.1 218 9) from ⟨by first | exact ⟨hK, by (try simp only [g7_σ34, g9_σ34, g10_σ34, g11_σ34, g12_σ34, g13_σ34, g20_σ34, g22_σ34, g23_σ34, g24_σ34, g25_σ34]); omega, fun q => absurd q (by (try simp only [g7_σ34, g9_σ34, g10_σ34, g11_σ34, g12_σ34, g13_σ34, g20_σ34, g22_σ34, g23_σ34, g24_σ34, g25_σ34]); exact n102), hB⟩ | exact ⟨hK, by (try simp only [g7_σ34, g9_σ34, g10_σ34, g11_σ34, g12_σ34, g13_σ34, g20_σ34, g22_σ34, g23_σ34, g24_σ34, g25_σ34]); omega, fun _ => i1.1 y31, hB⟩ | exact absurd y102 n31 | exact absurd y102 n95, g7_σ34, g9_σ34⟩)⟩
        · have qhc37 := hqv35.2 hc37
          have y102 := qhc37
          refine ok_gC rfl ?_
          refine ok_zbT (Q := fun V σ => (TOK σ.1 ∧ ZB σ.1 ∧ PIL σ.1 1 ∧ (∀ k : Nat, (k : Int) < (σ34.1 218 22).toInt → σ34.1 230 k = 100 → (k : Int) < (σ.1 218 22).toInt) ∧ ((σ.1 218 22).toInt ≤ 0 ∨ (rkI (σ34.1 230 ((σ.1 218 22) - 1).toNatClampNeg)).toInt < (1 : Int32).toInt)) ∧ (σ.1 218 7 = σ34.1 218 7 ∧ σ.1 218 9 = σ34.1 218 9 ∧ σ.1 218 10 = σ34.1 218 10 ∧ σ.1 218 11 = σ34.1 218 11 ∧ σ.1 218 12 = σ34.1 218 12 ∧ σ.1 218 13 = σ34.1 218 13 ∧ σ.1 218 14 = σ34.1 218 14 ∧ σ.1 218 15 = σ34.1 218 15 ∧ σ.1 218 20 = σ34.1 218 20 ∧ σ.1 218 25 = σ34.1 218 25)) hT (s_X12_settlesTo hN (hR.tr hT) (hK) (by rw [hT.2 224 (by decide)]; exact hY) (hB) (by (try simp only [g7_σ34, g9_σ34, g10_σ34, g11_σ34, g12_σ34, g13_σ34, g20_σ34, g22_σ34, g23_σ34, g24_σ34, g25_σ34]); omega) (by first | exact (i2 y31).2 e36 | exact absurd y102 n31 | exact absurd y102 n95) (by decide)) (by decide) (fun v38 σ39 hOσ39 hT hqv38 => ?_)
          have hqv38 : (TOK σ39.1 ∧ ZB σ39.1 ∧ PIL σ39.1 1 ∧ (∀ k : Nat, (k : Int) < (σ34.1 218 22).toInt → σ34.1 230 k = 100 → (k : Int) < (σ39.1 218 22).toInt) ∧ ((σ39.1 218 22).toInt ≤ 0 ∨ (rkI (σ34.1 230 ((σ39.1 218 22) - 1).toNatClampNeg)).toInt < (1 : Int32).toInt)) ∧ (σ39.1 218 7 = σ34.1 218 7 ∧ σ39.1 218 9 = σ34.1 218 9 ∧ σ39.1 218 10 = σ34.1 218 10 ∧ σ39.1 218 11 = σ34.1 218 11 ∧ σ39.1 218 12 = σ34.1 218 12 ∧ σ39.1 218 13 = σ34.1 218 13 ∧ σ39.1 218 14 = σ34.1 218 14 ∧ σ39.1 218 15 = σ34.1 218 15 ∧ σ39.1 218 20 = σ34.1 218 20 ∧ σ39.1 218 25 = σ34.1 218 25) := hqv38
          have hkv38 := hqv38
          have hqv38 := hqv38.1
          have hK : TOK σ39.1 := by first | exact hqv38.1 | exact TOK_p eσ39 (by decide) hK
          have hB : ZB σ39.1 := by first | exact hqv38.2.1 | exact hqv38.2.2.2 | exact hqv38.2.2.2.2
          try simp only [g7_σ34, g9_σ34, g10_σ34, g11_σ34, g12_σ34, g13_σ34, g20_σ34, g22_σ34, g23_σ34, g24_σ34, g25_σ34] at hqv38
          have g7_σ39 : σ39.1 218 7 = (σ0.1 218 7) := (hkv38.2.1).trans g7_σ34
          have g9_σ39 : σ39.1 218 9 = (σ0.1 218 9) := (hkv38.2.2.1).trans g9_σ34
          have g10_σ39 : σ39.1 218 10 = (σ5.1 218 10) := (hkv38.2.2.2.1).trans g10_σ34
          have g11_σ39 : σ39.1 218 11 = (σ5.1 218 11) := (hkv38.2.2.2.2.1).trans g11_σ34
          have g12_σ39 : σ39.1 218 12 = (σ5.1 218 12) := (hkv38.2.2.2.2.2.1).trans g12_σ34
          have g13_σ39 : σ39.1 218 13 = (σ5.1 218 13) := (hkv38.2.2.2.2.2.2.1).trans g13_σ34
          have g14_σ39 : σ39.1 218 14 = (σ34.1 218 14) := hkv38.2.2.2.2.2.2.2.1
          have g15_σ39 : σ39.1 218 15 = (σ34.1 218 15) := hkv38.2.2.2.2.2.2.2.2.1
          have g20_σ39 : σ39.1 218 20 = ((1 : Int32) <<< (x1 &&& 31)) := (hkv38.2.2.2.2.2.2.2.2.2.1).trans g20_σ34
          have g25_σ39 : σ39.1 218 25 = (σ5.1 218 25) := (hkv38.2.2.2.2.2.2.2.2.2.2).trans g25_σ34
          exact ok_some ⟨hT, (show (TOK σ39.1 ∧ (σ0.1 218 11).toInt ≤ (σ39.1 218 11).toInt ∧ (σ39.1 218 14 = 0 → σ0.1 218 14 = 0) ∧ ZB σ39.1) ∧ (σ39.1 218 7 = σ0.1 218 7 ∧ σ39.1 218 9 = σ0.1 218 9) from ⟨by first | exact ⟨hK, by (try simp only [g7_σ39, g9_σ39, g10_σ39, g11_σ39, g12_σ39, g13_σ39, g14_σ39, g15_σ39, g20_σ39, g25_σ39]); omega, fun q => absurd q (by (try simp only [g7_σ39, g9_σ39, g10_σ39, g11_σ39, g12_σ39, g13_σ39, g14_σ39, g15_σ39, g20_σ39, g25_σ39]); exact n102), hB⟩ | exact ⟨hK, by (try simp only [g7_σ39, g9_σ39, g10_σ39, g11_σ39, g12_σ39, g13_σ39, g14_σ39, g15_σ39, g20_σ39, g25_σ39]); omega, fun _ => i1.1 y31, hB⟩ | exact absurd y102 n31 | exact absurd y102 n95, g7_σ39, g9_σ39⟩)⟩
    · have n36 := hc24
      refine ok_if (fun hc40 => ?_) (fun hc40 => ?_)
      · have e40 := hc40
        refine ok_gC rfl ?_
        refine ok_zbT (Q := fun V σ => (TOK σ.1 ∧ ((σ5.1 218 11).toInt ≤ (σ.1 218 11).toInt ∧ 0 ≤ (σ.1 218 22).toInt ∧ (σ.1 218 22).toInt ≤ 40) ∧ (σ.1 218 14 = 0 → (σ5.1 218 11).toInt < (σ.1 218 11).toInt ∧ (¬ V = 0 → PIL σ.1 1) ∧ (V = 0 → PIL σ.1 0)) ∧ ZB σ.1) ∧ (σ.1 218 7 = σ5.1 218 7 ∧ σ.1 218 9 = σ5.1 218 9 ∧ σ.1 218 20 = σ5.1 218 20 ∧ σ.1 218 25 = σ5.1 218 25)) hT (s_X12_readsPart_232 hN (hR.tr hT) (hK) (by rw [hT.2 224 (by decide)]; exact hY) (hB) (hn) (by (try simp only [g7_σ5, g9_σ5, g20_σ5]); omega) (((i2 y31).1 n36).1 e40) (y31)) (by decide) (fun v41 σ42 hOσ42 hT hqv41 => ?_)
        have hqv41 : (TOK σ42.1 ∧ ((σ5.1 218 11).toInt ≤ (σ42.1 218 11).toInt ∧ 0 ≤ (σ42.1 218 22).toInt ∧ (σ42.1 218 22).toInt ≤ 40) ∧ (σ42.1 218 14 = 0 → (σ5.1 218 11).toInt < (σ42.1 218 11).toInt ∧ (¬ v41 = 0 → PIL σ42.1 1) ∧ (v41 = 0 → PIL σ42.1 0)) ∧ ZB σ42.1) ∧ (σ42.1 218 7 = σ5.1 218 7 ∧ σ42.1 218 9 = σ5.1 218 9 ∧ σ42.1 218 20 = σ5.1 218 20 ∧ σ42.1 218 25 = σ5.1 218 25) := hqv41
        have hkv41 := hqv41
        have hqv41 := hqv41.1
        have hK : TOK σ42.1 := by first | exact hqv41.1 | exact TOK_p eσ42 (by decide) hK
        have hB : ZB σ42.1 := by first | exact hqv41.2.1 | exact hqv41.2.2.2 | exact hqv41.2.2.2.2
        try simp only [g7_σ5, g9_σ5, g20_σ5] at hqv41
        have g7_σ42 : σ42.1 218 7 = (σ0.1 218 7) := (hkv41.2.1).trans g7_σ5
        have g9_σ42 : σ42.1 218 9 = (σ0.1 218 9) := (hkv41.2.2.1).trans g9_σ5
        have g20_σ42 : σ42.1 218 20 = ((1 : Int32) <<< (x1 &&& 31)) := (hkv41.2.2.2.1).trans g20_σ5
        have g25_σ42 : σ42.1 218 25 = (σ5.1 218 25) := hkv41.2.2.2.2
        have m46 := hqv41.2
        have hKN := hK.1
        exact ih27_5 (v41, x4_5, σ42) (show Tr [218, 226, 227, 228, 229, 230] σ0 σ42 ∧ (((σ42.1 218 14 = 0 → σ0.1 218 14 = 0) ∧ (σ0.1 218 11).toInt ≤ (σ42.1 218 11).toInt ∧ 0 ≤ (σ42.1 218 22).toInt ∧ (σ42.1 218 22).toInt ≤ 40) ∧ (σ42.1 218 14 = 0 → (¬ x4_5 = 0 → (v41 = 0 → PIL σ42.1 0) ∧ (¬ v41 = 0 → PIL σ42.1 1)) ∧ (x4_5 = 0 → PIL σ42.1 1))) ∧ (TOK σ42.1) ∧ (ZB σ42.1) ∧ (σ42.1 218 7 = (σ0.1 218 7)) ∧ (σ42.1 218 9 = (σ0.1 218 9)) ∧ (σ42.1 218 20 = ((1 : Int32) <<< (x1 &&& 31))) from ⟨hT, (by first | exact ⟨⟨fun _ => i1.1 y31, by (try simp only [g7_σ42, g9_σ42, g20_σ42, g25_σ42]); omega, by (try simp only [g7_σ42, g9_σ42, g20_σ42, g25_σ42]); omega⟩, fun q => ⟨fun _ => ⟨(m46.2.1 q).2.2, (m46.2.1 q).2.1⟩, fun h => absurd h n36⟩⟩ | exact ⟨⟨fun _ => i1.1 y31, by (try simp only [g7_σ42, g9_σ42, g20_σ42, g25_σ42]); omega, by (try simp only [g7_σ42, g9_σ42, g20_σ42, g25_σ42]); omega⟩, fun q => ⟨fun _ => ⟨fun h => absurd h (by decide), fun _ => ((m54.2.1 q).2.2 e61).2⟩, fun h => absurd h (by decide)⟩⟩ | exact ⟨⟨fun _ => i1.1 y31, by (try simp only [g7_σ42, g9_σ42, g20_σ42, g25_σ42]); omega, by (try simp only [g7_σ42, g9_σ42, g20_σ42, g25_σ42]); omega⟩, fun q => ⟨fun h => absurd rfl h, fun _ => (m54.2.1 q).1 e73⟩⟩ | exact ⟨⟨fun _ => i1.1 y31, by (try simp only [g7_σ42, g9_σ42, g20_σ42, g25_σ42]); omega, by (try simp only [g7_σ42, g9_σ42, g20_σ42, g25_σ42]); omega⟩, fun q => ⟨fun _ => ⟨fun _ => ((m54.2.1 q).2.1 ((m54.2.2.1.resolve_left n73).resolve_right n61)).2, fun h => absurd rfl h⟩, fun h => absurd h (by decide)⟩⟩ | exact absurd (e73.symm.trans e61) (by decide)), hK, hB, g7_σ42, g9_σ42, g20_σ42⟩) (show (600 - (σ42.1 218 11).toInt).toNat + (if σ42.1 218 14 = 0 then 1 else 0) + (if x4_5 = 0 then 0 else 1) < (600 - (σ5.1 218 11).toInt).toNat + (if σ5.1 218 14 = 0 then 1 else 0) + (if x4_5 = 0 then 0 else 1) from (by first | exact mu1 (by omega) (by omega) y31 n36 (fun q => Or.inl (m46.2.1 q).1) | exact mu1 (by omega) (by omega) y31 n36 (fun q => Or.inl ((m54.2.1 q).2.2 e61).1) | exact mu1 (by omega) (by omega) y31 n36 (fun q => Or.inr rfl) | exact mu1 (by omega) (by omega) y31 n36 (fun q => Or.inl ((m54.2.1 q).2.1 ((m54.2.2.1.resolve_left n73).resolve_right n61)).1) | exact absurd (e73.symm.trans e61) (by decide)))
      · have n40 := hc40
        refine ok_gC rfl ?_
        refine ok_zbT (Q := fun V σ => (TOK σ.1 ∧ ((σ5.1 218 11).toInt ≤ (σ.1 218 11).toInt ∧ 0 ≤ (σ.1 218 22).toInt ∧ (σ.1 218 22).toInt ≤ 40) ∧ (σ.1 218 14 = 0 → (V = -1 → PIL σ.1 1) ∧ (V = 1 → (σ5.1 218 11).toInt < (σ.1 218 11).toInt ∧ PIL σ.1 0) ∧ (V = 0 → (σ5.1 218 11).toInt < (σ.1 218 11).toInt ∧ PIL σ.1 1)) ∧ (V = -1 ∨ V = 1 ∨ V = 0) ∧ ZB σ.1) ∧ (σ.1 218 7 = σ5.1 218 7 ∧ σ.1 218 9 = σ5.1 218 9 ∧ σ.1 218 20 = σ5.1 218 20)) hT (s_X12_goesBehind hN (hR.tr hT) (hK) (by rw [hT.2 224 (by decide)]; exact hY) (hB) (by (try simp only [g7_σ5, g9_σ5, g20_σ5]); omega) (((i2 y31).1 n36).2 n40) (y31)) (by decide) (fun v43 σ44 hOσ44 hT hqv43 => ?_)
        have hqv43 : (TOK σ44.1 ∧ ((σ5.1 218 11).toInt ≤ (σ44.1 218 11).toInt ∧ 0 ≤ (σ44.1 218 22).toInt ∧ (σ44.1 218 22).toInt ≤ 40) ∧ (σ44.1 218 14 = 0 → (v43 = -1 → PIL σ44.1 1) ∧ (v43 = 1 → (σ5.1 218 11).toInt < (σ44.1 218 11).toInt ∧ PIL σ44.1 0) ∧ (v43 = 0 → (σ5.1 218 11).toInt < (σ44.1 218 11).toInt ∧ PIL σ44.1 1)) ∧ (v43 = -1 ∨ v43 = 1 ∨ v43 = 0) ∧ ZB σ44.1) ∧ (σ44.1 218 7 = σ5.1 218 7 ∧ σ44.1 218 9 = σ5.1 218 9 ∧ σ44.1 218 20 = σ5.1 218 20) := hqv43
        have hkv43 := hqv43
        have hqv43 := hqv43.1
        have hK : TOK σ44.1 := by first | exact hqv43.1 | exact TOK_p eσ44 (by decide) hK
        have hB : ZB σ44.1 := by first | exact hqv43.2.1 | exact hqv43.2.2.2 | exact hqv43.2.2.2.2
        try simp only [g7_σ5, g9_σ5, g20_σ5] at hqv43
        have g7_σ44 : σ44.1 218 7 = (σ0.1 218 7) := (hkv43.2.1).trans g7_σ5
        have g9_σ44 : σ44.1 218 9 = (σ0.1 218 9) := (hkv43.2.2.1).trans g9_σ5
        have g20_σ44 : σ44.1 218 20 = ((1 : Int32) <<< (x1 &&& 31)) := (hkv43.2.2.2).trans g20_σ5
        have m54 := hqv43.2
        have hKN := hK.1
        refine ok_if (fun hc45 => ?_) (fun hc45 => ?_)
        · have e61 := hc45
          rw [J_X12_readsSum_69.eq_1]
          refine ok_if (fun hc46 => ?_) (fun hc46 => ?_)
          · have e73 := hc46
            exact ih27_5 (1, 0, σ44) (show Tr [218, 226, 227, 228, 229, 230] σ0 σ44 ∧ (((σ44.1 218 14 = 0 → σ0.1 218 14 = 0) ∧ (σ0.1 218 11).toInt ≤ (σ44.1 218 11).toInt ∧ 0 ≤ (σ44.1 218 22).toInt ∧ (σ44.1 218 22).toInt ≤ 40) ∧ (σ44.1 218 14 = 0 → (¬ (0 : Int32) = 0 → ((1 : Int32) = 0 → PIL σ44.1 0) ∧ (¬ (1 : Int32) = 0 → PIL σ44.1 1)) ∧ ((0 : Int32) = 0 → PIL σ44.1 1))) ∧ (TOK σ44.1) ∧ (ZB σ44.1) ∧ (σ44.1 218 7 = (σ0.1 218 7)) ∧ (σ44.1 218 9 = (σ0.1 218 9)) ∧ (σ44.1 218 20 = ((1 : Int32) <<< (x1 &&& 31))) from ⟨hT, (by first | exact ⟨⟨fun _ => i1.1 y31, by (try simp only [g7_σ44, g9_σ44, g20_σ44]); omega, by (try simp only [g7_σ44, g9_σ44, g20_σ44]); omega⟩, fun q => ⟨fun _ => ⟨(m46.2.1 q).2.2, (m46.2.1 q).2.1⟩, fun h => absurd h n36⟩⟩ | exact ⟨⟨fun _ => i1.1 y31, by (try simp only [g7_σ44, g9_σ44, g20_σ44]); omega, by (try simp only [g7_σ44, g9_σ44, g20_σ44]); omega⟩, fun q => ⟨fun _ => ⟨fun h => absurd h (by decide), fun _ => ((m54.2.1 q).2.2 e61).2⟩, fun h => absurd h (by decide)⟩⟩ | exact ⟨⟨fun _ => i1.1 y31, by (try simp only [g7_σ44, g9_σ44, g20_σ44]); omega, by (try simp only [g7_σ44, g9_σ44, g20_σ44]); omega⟩, fun q => ⟨fun h => absurd rfl h, fun _ => (m54.2.1 q).1 e73⟩⟩ | exact ⟨⟨fun _ => i1.1 y31, by (try simp only [g7_σ44, g9_σ44, g20_σ44]); omega, by (try simp only [g7_σ44, g9_σ44, g20_σ44]); omega⟩, fun q => ⟨fun _ => ⟨fun _ => ((m54.2.1 q).2.1 ((m54.2.2.1.resolve_left n73).resolve_right n61)).2, fun h => absurd rfl h⟩, fun h => absurd h (by decide)⟩⟩ | exact absurd (e73.symm.trans e61) (by decide)), hK, hB, g7_σ44, g9_σ44, g20_σ44⟩) (show (600 - (σ44.1 218 11).toInt).toNat + (if σ44.1 218 14 = 0 then 1 else 0) + (if (0 : Int32) = 0 then 0 else 1) < (600 - (σ5.1 218 11).toInt).toNat + (if σ5.1 218 14 = 0 then 1 else 0) + (if x4_5 = 0 then 0 else 1) from (by first | exact mu1 (by omega) (by omega) y31 n36 (fun q => Or.inl (m46.2.1 q).1) | exact mu1 (by omega) (by omega) y31 n36 (fun q => Or.inl ((m54.2.1 q).2.2 e61).1) | exact mu1 (by omega) (by omega) y31 n36 (fun q => Or.inr rfl) | exact mu1 (by omega) (by omega) y31 n36 (fun q => Or.inl ((m54.2.1 q).2.1 ((m54.2.2.1.resolve_left n73).resolve_right n61)).1) | exact absurd (e73.symm.trans e61) (by decide)))
          · have n73 := hc46
            exact ih27_5 (1, 1, σ44) (show Tr [218, 226, 227, 228, 229, 230] σ0 σ44 ∧ (((σ44.1 218 14 = 0 → σ0.1 218 14 = 0) ∧ (σ0.1 218 11).toInt ≤ (σ44.1 218 11).toInt ∧ 0 ≤ (σ44.1 218 22).toInt ∧ (σ44.1 218 22).toInt ≤ 40) ∧ (σ44.1 218 14 = 0 → (¬ (1 : Int32) = 0 → ((1 : Int32) = 0 → PIL σ44.1 0) ∧ (¬ (1 : Int32) = 0 → PIL σ44.1 1)) ∧ ((1 : Int32) = 0 → PIL σ44.1 1))) ∧ (TOK σ44.1) ∧ (ZB σ44.1) ∧ (σ44.1 218 7 = (σ0.1 218 7)) ∧ (σ44.1 218 9 = (σ0.1 218 9)) ∧ (σ44.1 218 20 = ((1 : Int32) <<< (x1 &&& 31))) from ⟨hT, (by first | exact ⟨⟨fun _ => i1.1 y31, by (try simp only [g7_σ44, g9_σ44, g20_σ44]); omega, by (try simp only [g7_σ44, g9_σ44, g20_σ44]); omega⟩, fun q => ⟨fun _ => ⟨(m46.2.1 q).2.2, (m46.2.1 q).2.1⟩, fun h => absurd h n36⟩⟩ | exact ⟨⟨fun _ => i1.1 y31, by (try simp only [g7_σ44, g9_σ44, g20_σ44]); omega, by (try simp only [g7_σ44, g9_σ44, g20_σ44]); omega⟩, fun q => ⟨fun _ => ⟨fun h => absurd h (by decide), fun _ => ((m54.2.1 q).2.2 e61).2⟩, fun h => absurd h (by decide)⟩⟩ | exact ⟨⟨fun _ => i1.1 y31, by (try simp only [g7_σ44, g9_σ44, g20_σ44]); omega, by (try simp only [g7_σ44, g9_σ44, g20_σ44]); omega⟩, fun q => ⟨fun h => absurd rfl h, fun _ => (m54.2.1 q).1 e73⟩⟩ | exact ⟨⟨fun _ => i1.1 y31, by (try simp only [g7_σ44, g9_σ44, g20_σ44]); omega, by (try simp only [g7_σ44, g9_σ44, g20_σ44]); omega⟩, fun q => ⟨fun _ => ⟨fun _ => ((m54.2.1 q).2.1 ((m54.2.2.1.resolve_left n73).resolve_right n61)).2, fun h => absurd rfl h⟩, fun h => absurd h (by decide)⟩⟩ | exact absurd (e73.symm.trans e61) (by decide)), hK, hB, g7_σ44, g9_σ44, g20_σ44⟩) (show (600 - (σ44.1 218 11).toInt).toNat + (if σ44.1 218 14 = 0 then 1 else 0) + (if (1 : Int32) = 0 then 0 else 1) < (600 - (σ5.1 218 11).toInt).toNat + (if σ5.1 218 14 = 0 then 1 else 0) + (if x4_5 = 0 then 0 else 1) from (by first | exact mu1 (by omega) (by omega) y31 n36 (fun q => Or.inl (m46.2.1 q).1) | exact mu1 (by omega) (by omega) y31 n36 (fun q => Or.inl ((m54.2.1 q).2.2 e61).1) | exact mu1 (by omega) (by omega) y31 n36 (fun q => Or.inr rfl) | exact mu1 (by omega) (by omega) y31 n36 (fun q => Or.inl ((m54.2.1 q).2.1 ((m54.2.2.1.resolve_left n73).resolve_right n61)).1) | exact absurd (e73.symm.trans e61) (by decide)))
        · have n61 := hc45
          rw [J_X12_readsSum_69.eq_1]
          refine ok_if (fun hc47 => ?_) (fun hc47 => ?_)
          · have e73 := hc47
            exact ih27_5 (0, 0, σ44) (show Tr [218, 226, 227, 228, 229, 230] σ0 σ44 ∧ (((σ44.1 218 14 = 0 → σ0.1 218 14 = 0) ∧ (σ0.1 218 11).toInt ≤ (σ44.1 218 11).toInt ∧ 0 ≤ (σ44.1 218 22).toInt ∧ (σ44.1 218 22).toInt ≤ 40) ∧ (σ44.1 218 14 = 0 → (¬ (0 : Int32) = 0 → ((0 : Int32) = 0 → PIL σ44.1 0) ∧ (¬ (0 : Int32) = 0 → PIL σ44.1 1)) ∧ ((0 : Int32) = 0 → PIL σ44.1 1))) ∧ (TOK σ44.1) ∧ (ZB σ44.1) ∧ (σ44.1 218 7 = (σ0.1 218 7)) ∧ (σ44.1 218 9 = (σ0.1 218 9)) ∧ (σ44.1 218 20 = ((1 : Int32) <<< (x1 &&& 31))) from ⟨hT, (by first | exact ⟨⟨fun _ => i1.1 y31, by (try simp only [g7_σ44, g9_σ44, g20_σ44]); omega, by (try simp only [g7_σ44, g9_σ44, g20_σ44]); omega⟩, fun q => ⟨fun _ => ⟨(m46.2.1 q).2.2, (m46.2.1 q).2.1⟩, fun h => absurd h n36⟩⟩ | exact ⟨⟨fun _ => i1.1 y31, by (try simp only [g7_σ44, g9_σ44, g20_σ44]); omega, by (try simp only [g7_σ44, g9_σ44, g20_σ44]); omega⟩, fun q => ⟨fun _ => ⟨fun h => absurd h (by decide), fun _ => ((m54.2.1 q).2.2 e61).2⟩, fun h => absurd h (by decide)⟩⟩ | exact ⟨⟨fun _ => i1.1 y31, by (try simp only [g7_σ44, g9_σ44, g20_σ44]); omega, by (try simp only [g7_σ44, g9_σ44, g20_σ44]); omega⟩, fun q => ⟨fun h => absurd rfl h, fun _ => (m54.2.1 q).1 e73⟩⟩ | exact ⟨⟨fun _ => i1.1 y31, by (try simp only [g7_σ44, g9_σ44, g20_σ44]); omega, by (try simp only [g7_σ44, g9_σ44, g20_σ44]); omega⟩, fun q => ⟨fun _ => ⟨fun _ => ((m54.2.1 q).2.1 ((m54.2.2.1.resolve_left n73).resolve_right n61)).2, fun h => absurd rfl h⟩, fun h => absurd h (by decide)⟩⟩ | exact absurd (e73.symm.trans e61) (by decide)), hK, hB, g7_σ44, g9_σ44, g20_σ44⟩) (show (600 - (σ44.1 218 11).toInt).toNat + (if σ44.1 218 14 = 0 then 1 else 0) + (if (0 : Int32) = 0 then 0 else 1) < (600 - (σ5.1 218 11).toInt).toNat + (if σ5.1 218 14 = 0 then 1 else 0) + (if x4_5 = 0 then 0 else 1) from (by first | exact mu1 (by omega) (by omega) y31 n36 (fun q => Or.inl (m46.2.1 q).1) | exact mu1 (by omega) (by omega) y31 n36 (fun q => Or.inl ((m54.2.1 q).2.2 e61).1) | exact mu1 (by omega) (by omega) y31 n36 (fun q => Or.inr rfl) | exact mu1 (by omega) (by omega) y31 n36 (fun q => Or.inl ((m54.2.1 q).2.1 ((m54.2.2.1.resolve_left n73).resolve_right n61)).1) | exact absurd (e73.symm.trans e61) (by decide)))
          · have n73 := hc47
            exact ih27_5 (0, 1, σ44) (show Tr [218, 226, 227, 228, 229, 230] σ0 σ44 ∧ (((σ44.1 218 14 = 0 → σ0.1 218 14 = 0) ∧ (σ0.1 218 11).toInt ≤ (σ44.1 218 11).toInt ∧ 0 ≤ (σ44.1 218 22).toInt ∧ (σ44.1 218 22).toInt ≤ 40) ∧ (σ44.1 218 14 = 0 → (¬ (1 : Int32) = 0 → ((0 : Int32) = 0 → PIL σ44.1 0) ∧ (¬ (0 : Int32) = 0 → PIL σ44.1 1)) ∧ ((1 : Int32) = 0 → PIL σ44.1 1))) ∧ (TOK σ44.1) ∧ (ZB σ44.1) ∧ (σ44.1 218 7 = (σ0.1 218 7)) ∧ (σ44.1 218 9 = (σ0.1 218 9)) ∧ (σ44.1 218 20 = ((1 : Int32) <<< (x1 &&& 31))) from ⟨hT, (by first | exact ⟨⟨fun _ => i1.1 y31, by (try simp only [g7_σ44, g9_σ44, g20_σ44]); omega, by (try simp only [g7_σ44, g9_σ44, g20_σ44]); omega⟩, fun q => ⟨fun _ => ⟨(m46.2.1 q).2.2, (m46.2.1 q).2.1⟩, fun h => absurd h n36⟩⟩ | exact ⟨⟨fun _ => i1.1 y31, by (try simp only [g7_σ44, g9_σ44, g20_σ44]); omega, by (try simp only [g7_σ44, g9_σ44, g20_σ44]); omega⟩, fun q => ⟨fun _ => ⟨fun h => absurd h (by decide), fun _ => ((m54.2.1 q).2.2 e61).2⟩, fun h => absurd h (by decide)⟩⟩ | exact ⟨⟨fun _ => i1.1 y31, by (try simp only [g7_σ44, g9_σ44, g20_σ44]); omega, by (try simp only [g7_σ44, g9_σ44, g20_σ44]); omega⟩, fun q => ⟨fun h => absurd rfl h, fun _ => (m54.2.1 q).1 e73⟩⟩ | exact ⟨⟨fun _ => i1.1 y31, by (try simp only [g7_σ44, g9_σ44, g20_σ44]); omega, by (try simp only [g7_σ44, g9_σ44, g20_σ44]); omega⟩, fun q => ⟨fun _ => ⟨fun _ => ((m54.2.1 q).2.1 ((m54.2.2.1.resolve_left n73).resolve_right n61)).2, fun h => absurd rfl h⟩, fun h => absurd h (by decide)⟩⟩ | exact absurd (e73.symm.trans e61) (by decide)), hK, hB, g7_σ44, g9_σ44, g20_σ44⟩) (show (600 - (σ44.1 218 11).toInt).toNat + (if σ44.1 218 14 = 0 then 1 else 0) + (if (1 : Int32) = 0 then 0 else 1) < (600 - (σ5.1 218 11).toInt).toNat + (if σ5.1 218 14 = 0 then 1 else 0) + (if x4_5 = 0 then 0 else 1) from (by first | exact mu1 (by omega) (by omega) y31 n36 (fun q => Or.inl (m46.2.1 q).1) | exact mu1 (by omega) (by omega) y31 n36 (fun q => Or.inl ((m54.2.1 q).2.2 e61).1) | exact mu1 (by omega) (by omega) y31 n36 (fun q => Or.inr rfl) | exact mu1 (by omega) (by omega) y31 n36 (fun q => Or.inl ((m54.2.1 q).2.1 ((m54.2.2.1.resolve_left n73).resolve_right n61)).1) | exact absurd (e73.symm.trans e61) (by decide)))
end Zq8_0

theorem rk0 {w : Int32} (h : (rkI w).toInt < 1) : w = 100 := by
  by_cases q : w = 100
  · exact q
  · exfalso
    unfold rkI at h
    rw [if_neg q] at h
    by_cases a : w < 50
    · rw [if_pos a] at h
      by_cases b : w = 0
      · rw [if_pos b] at h; exact absurd h (by decide)
      · rw [if_neg b] at h
        by_cases c : w = 1
        · rw [if_pos c] at h; exact absurd h (by decide)
        · rw [if_neg c] at h; exact absurd h (by decide)
    · rw [if_neg a] at h; exact absurd h (by decide)
theorem Stk_top2 {g : Nat → Int32} {a : Int32} {b d r : Nat} {p : Int} (h : Stk g a.toInt.toNat b d r) (h0 : 0 ≤ a.toInt) (h1 : 1 ≤ p) (hx : a.toInt ≤ 0 ∨ (rkI (g (a - 1).toNatClampNeg)).toInt < p) : (r : Int) < p := by
  have hb := Stk_b h
  have := a.toInt_lt
  refine Stk_top h h1 ?_
  rcases hx with hx | hx
  · exact Or.inl (by omega)
  · by_cases q : a.toInt = 0
    · exact Or.inl (by omega)
    · refine Or.inr ⟨a.toInt.toNat - 1, by omega, ?_⟩
      have e : (a - 1).toNatClampNeg = a.toInt.toNat - 1 := by
        show (a - 1).toInt.toNat = _
        rw [ti_sub]; simp only [Int32.reduceToInt]; omega
      rw [e] at hx; exact hx
theorem mu1 {f f' : Int} {a a' m m' : Int32} (hf : f ≤ f') (h6 : f' ≤ 600) (ha : a = 0) (hm : ¬ m = 0) (h : a' = 0 → f < f' ∨ m' = 0) : (600 - f').toNat + (if a' = 0 then 1 else 0) + (if m' = 0 then 0 else 1) < (600 - f).toNat + (if a = 0 then 1 else 0) + (if m = 0 then 0 else 1) := by
  rw [if_pos ha, if_neg hm]
  by_cases q : a' = 0
  · rw [if_pos q]
    by_cases r : m' = 0
    · rw [if_pos r]; omega
    · rw [if_neg r]
      have := (h q).resolve_right r
      omega
  · rw [if_neg q]
    split <;> omega

set_option maxHeartbeats 4000000 in
set_option maxRecDepth 100000 in
theorem s_X12_opens {N : Nat} (hN : 1048576 ≤ N) {x1 : Int32} {σ0 : zS}  (hR : RF σ0.2.2) (hK : TOK σ0.1) (hY : BYT (σ0.1 224)) (hP : PIL σ0.1 0) (hx : 50 ≤ x1.toInt ∧ x1.toInt ≤ 100) (h12 : ¬ σ0.1 218 12 = 0) : Ok (f_X12_opens N 218 x1 σ0) (fun r => Tr [218, 230] σ0 r.2 ∧ ((TOK r.2.1 ∧ (σ0.1 218 11).toInt ≤ (r.2.1 218 11).toInt ∧ (0 ≤ (r.2.1 218 22).toInt ∧ (r.2.1 218 22).toInt ≤ 40) ∧ (r.2.1 218 14 = 0 → σ0.1 218 14 = 0 ∧ (σ0.1 218 11).toInt < (r.2.1 218 11).toInt ∧ PIL r.2.1 0)) ∧ (r.2.1 218 7 = σ0.1 218 7 ∧ r.2.1 218 9 = σ0.1 218 9 ∧ r.2.1 218 20 = σ0.1 218 20 ∧ r.2.1 218 23 = σ0.1 218 23 ∧ r.2.1 218 25 = σ0.1 218 25))) := by
  have hT : Tr [218, 230] σ0 σ0 := Tr.rf
  have hK1 := hK.1
  have hb0 := PIL_b hP (by decide)
  have l12 := hK.2.1 h12
  obtain ⟨b8, d8, r8, hS, h22, hd, hd6, hp⟩ := hP
  have j22 : (σ0.1 218 22).toNatClampNeg = (σ0.1 218 22).toInt.toNat := rfl
  have s22 : ((σ0.1 218 22) + 1).toInt = (σ0.1 218 22).toInt + 1 := by rw [ti_add]; simp only [Int32.reduceToInt]; omega
  have s24 : ((σ0.1 218 24) + 1).toInt = ((d8 + 1 : Nat) : Int) := by rw [ti_add]; simp only [Int32.reduceToInt]; omega
  rw [f_X12_opens.eq_1]
  refine ok_gI rfl ?_
  refine ok_if (fun hc2 => ?_) (fun hc2 => ?_)
  · refine ok_gC rfl ?_
    refine ok_zbT (Q := fun V σ => (TOK σ.1 ∧ ¬ σ.1 218 14 = 0) ∧ (σ.1 218 7 = σ0.1 218 7 ∧ σ.1 218 9 = σ0.1 218 9 ∧ σ.1 218 10 = σ0.1 218 10 ∧ σ.1 218 11 = σ0.1 218 11 ∧ σ.1 218 12 = σ0.1 218 12 ∧ σ.1 218 13 = σ0.1 218 13 ∧ σ.1 218 20 = σ0.1 218 20 ∧ σ.1 218 22 = σ0.1 218 22 ∧ σ.1 218 23 = σ0.1 218 23 ∧ σ.1 218 24 = σ0.1 218 24 ∧ σ.1 218 25 = σ0.1 218 25)) hT (s_X12_errs hN (hR.tr hT) (hK) (by rw [hT.2 224 (by decide)]; exact hY) (by decide)) (by decide) (fun v3 σ4 hOσ4 hT hqv3 => ?_)
    have hqv3 : (TOK σ4.1 ∧ ¬ σ4.1 218 14 = 0) ∧ (σ4.1 218 7 = σ0.1 218 7 ∧ σ4.1 218 9 = σ0.1 218 9 ∧ σ4.1 218 10 = σ0.1 218 10 ∧ σ4.1 218 11 = σ0.1 218 11 ∧ σ4.1 218 12 = σ0.1 218 12 ∧ σ4.1 218 13 = σ0.1 218 13 ∧ σ4.1 218 20 = σ0.1 218 20 ∧ σ4.1 218 22 = σ0.1 218 22 ∧ σ4.1 218 23 = σ0.1 218 23 ∧ σ4.1 218 24 = σ0.1 218 24 ∧ σ4.1 218 25 = σ0.1 218 25) := hqv3
    have hkv3 := hqv3
    have hqv3 := hqv3.1
    have r230_σ4 : σ4.1 230 = σ0.1 230 := hOσ4.2 230 (by decide)
    have hK : TOK σ4.1 := by first | exact hqv3.1 | exact TOK_p eσ4 (by decide) hK
    have g7_σ4 : σ4.1 218 7 = (σ0.1 218 7) := hkv3.2.1
    have g9_σ4 : σ4.1 218 9 = (σ0.1 218 9) := hkv3.2.2.1
    have g10_σ4 : σ4.1 218 10 = (σ0.1 218 10) := hkv3.2.2.2.1
    have g11_σ4 : σ4.1 218 11 = (σ0.1 218 11) := hkv3.2.2.2.2.1
    have g12_σ4 : σ4.1 218 12 = (σ0.1 218 12) := hkv3.2.2.2.2.2.1
    have g13_σ4 : σ4.1 218 13 = (σ0.1 218 13) := hkv3.2.2.2.2.2.2.1
    have g20_σ4 : σ4.1 218 20 = (σ0.1 218 20) := hkv3.2.2.2.2.2.2.2.1
    have g22_σ4 : σ4.1 218 22 = (σ0.1 218 22) := hkv3.2.2.2.2.2.2.2.2.1
    have g23_σ4 : σ4.1 218 23 = (σ0.1 218 23) := hkv3.2.2.2.2.2.2.2.2.2.1
    have g24_σ4 : σ4.1 218 24 = (σ0.1 218 24) := hkv3.2.2.2.2.2.2.2.2.2.2.1
    have g25_σ4 : σ4.1 218 25 = (σ0.1 218 25) := hkv3.2.2.2.2.2.2.2.2.2.2.2
    have n11 := hqv3.2
    rw [J_X12_opens_14.eq_1]
    refine ok_gC rfl ?_
    refine ok_zbX (Q := fun V => (V = 0 → ¬ σ4.1 218 14 = 0) ∧ (¬ V = 0 → σ4.1 218 14 = 0)) (x_X12_good) (fun v5 hqv5 => ?_)
    have hqv5 : (v5 = 0 → ¬ σ4.1 218 14 = 0) ∧ (¬ v5 = 0 → σ4.1 218 14 = 0) := hqv5
    try simp only [g7_σ4, g9_σ4, g10_σ4, g11_σ4, g12_σ4, g13_σ4, g20_σ4, g22_σ4, g23_σ4, g24_σ4, g25_σ4, hT.2 224 (by decide)] at hqv5
    refine ok_if (fun hc7 => ?_) (fun hc7 => ?_)
    · have qhc7 := hqv5.1 hc7
      have n18 := qhc7
      exact ok_some ⟨hT, (show (TOK σ4.1 ∧ (σ0.1 218 11).toInt ≤ (σ4.1 218 11).toInt ∧ (0 ≤ (σ4.1 218 22).toInt ∧ (σ4.1 218 22).toInt ≤ 40) ∧ (σ4.1 218 14 = 0 → σ0.1 218 14 = 0 ∧ (σ0.1 218 11).toInt < (σ4.1 218 11).toInt ∧ PIL σ4.1 0)) ∧ (σ4.1 218 7 = σ0.1 218 7 ∧ σ4.1 218 9 = σ0.1 218 9 ∧ σ4.1 218 20 = σ0.1 218 20 ∧ σ4.1 218 23 = σ0.1 218 23 ∧ σ4.1 218 25 = σ0.1 218 25) from ⟨by first | exact ⟨hK, by (try simp only [g7_σ4, g9_σ4, g10_σ4, g11_σ4, g12_σ4, g13_σ4, g20_σ4, g22_σ4, g23_σ4, g24_σ4, g25_σ4]); omega, by (try simp only [g7_σ4, g9_σ4, g10_σ4, g11_σ4, g12_σ4, g13_σ4, g20_σ4, g22_σ4, g23_σ4, g24_σ4, g25_σ4]); omega, fun q => absurd q (by (try simp only [g7_σ4, g9_σ4, g10_σ4, g11_σ4, g12_σ4, g13_σ4, g20_σ4, g22_σ4, g23_σ4, g24_σ4, g25_σ4]); exact n18)⟩ | exact ⟨hK, by (try simp only [g7_σ4, g9_σ4, g10_σ4, g11_σ4, g12_σ4, g13_σ4, g20_σ4, g22_σ4, g23_σ4, g24_σ4, g25_σ4]); omega, by (try simp only [g7_σ4, g9_σ4, g10_σ4, g11_σ4, g12_σ4, g13_σ4, g20_σ4, g22_σ4, g23_σ4, g24_σ4, g25_σ4]); rw [s22]; omega, fun _ => ⟨y18, by (try simp only [g7_σ4, g9_σ4, g10_σ4, g11_σ4, g12_σ4, g13_σ4, g20_σ4, g22_σ4, g23_σ4, g24_σ4, g25_σ4]); omega, PIL_i g22_σ4 g23_σ4 g24_σ4 r230_σ4 (by rw [show ((σ0.1 218 22) + 1).toInt.toNat = (σ0.1 218 22).toInt.toNat + 1 by rw [s22]; omega]; exact k45) (by rw [s22]; omega) s24 (by omega) hp⟩⟩ | exact absurd y18 n11, g7_σ4, g9_σ4, g20_σ4, g23_σ4, g25_σ4⟩)⟩
    · have qhc7 := hqv5.2 hc7
      have y18 := qhc7
      refine ok_gC rfl ?_
      refine ok_zbT (Q := fun V σ => (TOK σ.1 ∧ (σ4.1 218 10).toInt ≤ (σ.1 218 11).toInt) ∧ (σ.1 218 7 = σ4.1 218 7 ∧ σ.1 218 9 = σ4.1 218 9 ∧ σ.1 218 14 = σ4.1 218 14 ∧ σ.1 218 15 = σ4.1 218 15 ∧ σ.1 218 20 = σ4.1 218 20 ∧ σ.1 218 22 = σ4.1 218 22 ∧ σ.1 218 23 = σ4.1 218 23 ∧ σ.1 218 24 = σ4.1 218 24 ∧ σ.1 218 25 = σ4.1 218 25)) hT (s_X12_advance hN (hR.tr hT) (TOK_A hK) (by rw [hT.2 224 (by decide)]; exact hY)) (by decide) (fun v8 σ9 hOσ9 hT hqv8 => ?_)
      have hqv8 : (TOK σ9.1 ∧ (σ4.1 218 10).toInt ≤ (σ9.1 218 11).toInt) ∧ (σ9.1 218 7 = σ4.1 218 7 ∧ σ9.1 218 9 = σ4.1 218 9 ∧ σ9.1 218 14 = σ4.1 218 14 ∧ σ9.1 218 15 = σ4.1 218 15 ∧ σ9.1 218 20 = σ4.1 218 20 ∧ σ9.1 218 22 = σ4.1 218 22 ∧ σ9.1 218 23 = σ4.1 218 23 ∧ σ9.1 218 24 = σ4.1 218 24 ∧ σ9.1 218 25 = σ4.1 218 25) := hqv8
      have hkv8 := hqv8
      have hqv8 := hqv8.1
      have r230_σ9 : σ9.1 230 = σ0.1 230 := (hOσ9.2 230 (by decide)).trans r230_σ4
      have hK : TOK σ9.1 := by first | exact hqv8.1 | exact TOK_p eσ9 (by decide) hK
      try simp only [g7_σ4, g9_σ4, g10_σ4, g11_σ4, g12_σ4, g13_σ4, g20_σ4, g22_σ4, g23_σ4, g24_σ4, g25_σ4] at hqv8
      have g7_σ9 : σ9.1 218 7 = (σ0.1 218 7) := (hkv8.2.1).trans g7_σ4
      have g9_σ9 : σ9.1 218 9 = (σ0.1 218 9) := (hkv8.2.2.1).trans g9_σ4
      have g14_σ9 : σ9.1 218 14 = (σ4.1 218 14) := hkv8.2.2.2.1
      have g15_σ9 : σ9.1 218 15 = (σ4.1 218 15) := hkv8.2.2.2.2.1
      have g20_σ9 : σ9.1 218 20 = (σ0.1 218 20) := (hkv8.2.2.2.2.2.1).trans g20_σ4
      have g22_σ9 : σ9.1 218 22 = (σ0.1 218 22) := (hkv8.2.2.2.2.2.2.1).trans g22_σ4
      have g23_σ9 : σ9.1 218 23 = (σ0.1 218 23) := (hkv8.2.2.2.2.2.2.2.1).trans g23_σ4
      have g24_σ9 : σ9.1 218 24 = (σ0.1 218 24) := (hkv8.2.2.2.2.2.2.2.2.1).trans g24_σ4
      have g25_σ9 : σ9.1 218 25 = (σ0.1 218 25) := (hkv8.2.2.2.2.2.2.2.2.2).trans g25_σ4
      have m23 := hqv8.2
      refine ok_gIv rfl g24_σ9 ?_
      refine ok_pI hT rfl (by decide) (fun σ11 eσ11 hOσ11 hT => ?_)
      have r230_σ11 : σ11.1 230 = σ0.1 230 := (hOσ11.2 230 (by decide)).trans r230_σ9
      have hK : TOK σ11.1 := by first | exact HQ.1 | exact TOK_p eσ11 (by decide) hK
      have g7_σ11 : σ11.1 218 7 = (σ0.1 218 7) := (zI_atN eσ11 (by decide)).trans g7_σ9
      have g9_σ11 : σ11.1 218 9 = (σ0.1 218 9) := (zI_atN eσ11 (by decide)).trans g9_σ9
      have g10_σ11 : σ11.1 218 10 = (σ9.1 218 10) := zI_atN eσ11 (by decide)
      have g11_σ11 : σ11.1 218 11 = (σ9.1 218 11) := zI_atN eσ11 (by decide)
      have g12_σ11 : σ11.1 218 12 = (σ9.1 218 12) := zI_atN eσ11 (by decide)
      have g13_σ11 : σ11.1 218 13 = (σ9.1 218 13) := zI_atN eσ11 (by decide)
      have g14_σ11 : σ11.1 218 14 = (σ4.1 218 14) := (zI_atN eσ11 (by decide)).trans g14_σ9
      have g15_σ11 : σ11.1 218 15 = (σ4.1 218 15) := (zI_atN eσ11 (by decide)).trans g15_σ9
      have g20_σ11 : σ11.1 218 20 = (σ0.1 218 20) := (zI_atN eσ11 (by decide)).trans g20_σ9
      have g22_σ11 : σ11.1 218 22 = (σ0.1 218 22) := (zI_atN eσ11 (by decide)).trans g22_σ9
      have g23_σ11 : σ11.1 218 23 = (σ0.1 218 23) := (zI_atN eσ11 (by decide)).trans g23_σ9
      have g24_σ11 : σ11.1 218 24 = ((σ0.1 218 24) + 1) := zI_atI eσ11
      have g25_σ11 : σ11.1 218 25 = (σ0.1 218 25) := (zI_atN eσ11 (by decide)).trans g25_σ9
      refine ok_gR (v := 230) hT rfl (hR 218 21 rfl) ?_
      refine ok_gIv rfl g22_σ11 ?_
      refine ok_s14 hT rfl (by decide) (by ((try simp only [g7_σ11, g9_σ11, g10_σ11, g11_σ11, g12_σ11, g13_σ11, g14_σ11, g15_σ11, g20_σ11, g22_σ11, g23_σ11, g24_σ11, g25_σ11])); first | omega | decide | (simp only [Int32.le_iff_toInt_le, Int32.lt_iff_toInt_lt, ti_add, ti_sub, ti_mul, Int32.reduceToInt] at *; omega)) (by ((try simp only [g7_σ11, g9_σ11, g10_σ11, g11_σ11, g12_σ11, g13_σ11, g14_σ11, g15_σ11, g20_σ11, g22_σ11, g23_σ11, g24_σ11, g25_σ11])); first | omega | decide | (simp only [Int32.le_iff_toInt_le, Int32.lt_iff_toInt_lt, ti_add, ti_sub, ti_mul, Int32.reduceToInt] at *; omega)) (fun σ14 eσ14 hOσ14 hT => ?_)
      have a45 := zI_atI eσ14
      have k45 : Stk (σ14.1 230) ((σ0.1 218 22).toInt.toNat + 1) b8 (d8 + 1) 0 := Stk_open hS (fun k hk => by rw [zI_atN eσ14 (by rw [j22]; omega)]; exact congrFun r230_σ11 k) (by rw [← j22, a45]; exact hx)
      have hK : TOK σ14.1 := TOK_tr hOσ14 (by decide) (by decide) hK
      have g7_σ14 : σ14.1 218 7 = (σ0.1 218 7) := (congrFun (hOσ14.2 218 (by decide)) 7).trans g7_σ11
      have g9_σ14 : σ14.1 218 9 = (σ0.1 218 9) := (congrFun (hOσ14.2 218 (by decide)) 9).trans g9_σ11
      have g10_σ14 : σ14.1 218 10 = (σ9.1 218 10) := (congrFun (hOσ14.2 218 (by decide)) 10).trans g10_σ11
      have g11_σ14 : σ14.1 218 11 = (σ9.1 218 11) := (congrFun (hOσ14.2 218 (by decide)) 11).trans g11_σ11
      have g12_σ14 : σ14.1 218 12 = (σ9.1 218 12) := (congrFun (hOσ14.2 218 (by decide)) 12).trans g12_σ11
      have g13_σ14 : σ14.1 218 13 = (σ9.1 218 13) := (congrFun (hOσ14.2 218 (by decide)) 13).trans g13_σ11
      have g14_σ14 : σ14.1 218 14 = (σ4.1 218 14) := (congrFun (hOσ14.2 218 (by decide)) 14).trans g14_σ11
      have g15_σ14 : σ14.1 218 15 = (σ4.1 218 15) := (congrFun (hOσ14.2 218 (by decide)) 15).trans g15_σ11
      have g20_σ14 : σ14.1 218 20 = (σ0.1 218 20) := (congrFun (hOσ14.2 218 (by decide)) 20).trans g20_σ11
      have g22_σ14 : σ14.1 218 22 = (σ0.1 218 22) := (congrFun (hOσ14.2 218 (by decide)) 22).trans g22_σ11
      have g23_σ14 : σ14.1 218 23 = (σ0.1 218 23) := (congrFun (hOσ14.2 218 (by decide)) 23).trans g23_σ11
      have g24_σ14 : σ14.1 218 24 = ((σ0.1 218 24) + 1) := (congrFun (hOσ14.2 218 (by decide)) 24).trans g24_σ11
      have g25_σ14 : σ14.1 218 25 = (σ0.1 218 25) := (congrFun (hOσ14.2 218 (by decide)) 25).trans g25_σ11
      refine ok_gIv rfl g22_σ14 ?_
      refine ok_pI hT rfl (by decide) (fun σ16 eσ16 hOσ16 hT => ?_)
      have r230_σ16 : σ16.1 230 = σ14.1 230 := hOσ16.2 230 (by decide)
      have hK : TOK σ16.1 := by first | exact HQ.1 | exact TOK_p eσ16 (by decide) hK
      have g7_σ16 : σ16.1 218 7 = (σ0.1 218 7) := (zI_atN eσ16 (by decide)).trans g7_σ14
      have g9_σ16 : σ16.1 218 9 = (σ0.1 218 9) := (zI_atN eσ16 (by decide)).trans g9_σ14
      have g10_σ16 : σ16.1 218 10 = (σ9.1 218 10) := (zI_atN eσ16 (by decide)).trans g10_σ14
      have g11_σ16 : σ16.1 218 11 = (σ9.1 218 11) := (zI_atN eσ16 (by decide)).trans g11_σ14
      have g12_σ16 : σ16.1 218 12 = (σ9.1 218 12) := (zI_atN eσ16 (by decide)).trans g12_σ14
      have g13_σ16 : σ16.1 218 13 = (σ9.1 218 13) := (zI_atN eσ16 (by decide)).trans g13_σ14
      have g14_σ16 : σ16.1 218 14 = (σ4.1 218 14) := (zI_atN eσ16 (by decide)).trans g14_σ14
      have g15_σ16 : σ16.1 218 15 = (σ4.1 218 15) := (zI_atN eσ16 (by decide)).trans g15_σ14
      have g20_σ16 : σ16.1 218 20 = (σ0.1 218 20) := (zI_atN eσ16 (by decide)).trans g20_σ14
      have g22_σ16 : σ16.1 218 22 = ((σ0.1 218 22) + 1) := zI_atI eσ16
      have g23_σ16 : σ16.1 218 23 = (σ0.1 218 23) := (zI_atN eσ16 (by decide)).trans g23_σ14
      have g24_σ16 : σ16.1 218 24 = ((σ0.1 218 24) + 1) := (zI_atN eσ16 (by decide)).trans g24_σ14
      have g25_σ16 : σ16.1 218 25 = (σ0.1 218 25) := (zI_atN eσ16 (by decide)).trans g25_σ14
      exact ok_some ⟨hT, (show (TOK σ16.1 ∧ (σ0.1 218 11).toInt ≤ (σ16.1 218 11).toInt ∧ (0 ≤ (σ16.1 218 22).toInt ∧ (σ16.1 218 22).toInt ≤ 40) ∧ (σ16.1 218 14 = 0 → σ0.1 218 14 = 0 ∧ (σ0.1 218 11).toInt < (σ16.1 218 11).toInt ∧ PIL σ16.1 0)) ∧ (σ16.1 218 7 = σ0.1 218 7 ∧ σ16.1 218 9 = σ0.1 218 9 ∧ σ16.1 218 20 = σ0.1 218 20 ∧ σ16.1 218 23 = σ0.1 218 23 ∧ σ16.1 218 25 = σ0.1 218 25) from ⟨by first | exact ⟨hK, by (try simp only [g7_σ16, g9_σ16, g10_σ16, g11_σ16, g12_σ16, g13_σ16, g14_σ16, g15_σ16, g20_σ16, g22_σ16, g23_σ16, g24_σ16, g25_σ16]); omega, by (try simp only [g7_σ16, g9_σ16, g10_σ16, g11_σ16, g12_σ16, g13_σ16, g14_σ16, g15_σ16, g20_σ16, g22_σ16, g23_σ16, g24_σ16, g25_σ16]); omega, fun q => absurd q (by (try simp only [g7_σ16, g9_σ16, g10_σ16, g11_σ16, g12_σ16, g13_σ16, g14_σ16, g15_σ16, g20_σ16, g22_σ16, g23_σ16, g24_σ16, g25_σ16]); exact n18)⟩ | exact ⟨hK, by (try simp only [g7_σ16, g9_σ16, g10_σ16, g11_σ16, g12_σ16, g13_σ16, g14_σ16, g15_σ16, g20_σ16, g22_σ16, g23_σ16, g24_σ16, g25_σ16]); omega, by (try simp only [g7_σ16, g9_σ16, g10_σ16, g11_σ16, g12_σ16, g13_σ16, g14_σ16, g15_σ16, g20_σ16, g22_σ16, g23_σ16, g24_σ16, g25_σ16]); rw [s22]; omega, fun _ => ⟨y18, by (try simp only [g7_σ16, g9_σ16, g10_σ16, g11_σ16, g12_σ16, g13_σ16, g14_σ16, g15_σ16, g20_σ16, g22_σ16, g23_σ16, g24_σ16, g25_σ16]); omega, PIL_i g22_σ16 g23_σ16 g24_σ16 r230_σ16 (by rw [show ((σ0.1 218 22) + 1).toInt.toNat = (σ0.1 218 22).toInt.toNat + 1 by rw [s22]; omega]; exact k45) (by rw [s22]; omega) s24 (by omega) hp⟩⟩ | exact absurd y18 n11, g7_σ16, g9_σ16, g20_σ16, g23_σ16, g25_σ16⟩)⟩
  · have n6 := hc2
    have d6 : d8 ≠ 6 := fun e => n6 (Int32.toInt_inj.mp (by rw [hd, e]; rfl))
    rw [J_X12_opens_14.eq_1]
    refine ok_gC rfl ?_
    refine ok_zbX (Q := fun V => (V = 0 → ¬ σ0.1 218 14 = 0) ∧ (¬ V = 0 → σ0.1 218 14 = 0)) (x_X12_good) (fun v17 hqv17 => ?_)
    have hqv17 : (v17 = 0 → ¬ σ0.1 218 14 = 0) ∧ (¬ v17 = 0 → σ0.1 218 14 = 0) := hqv17
    refine ok_if (fun hc19 => ?_) (fun hc19 => ?_)
    · have qhc19 := hqv17.1 hc19
      have n18 := qhc19
      exact ok_some ⟨hT, (show (TOK σ0.1 ∧ (σ0.1 218 11).toInt ≤ (σ0.1 218 11).toInt ∧ (0 ≤ (σ0.1 218 22).toInt ∧ (σ0.1 218 22).toInt ≤ 40) ∧ (σ0.1 218 14 = 0 → σ0.1 218 14 = 0 ∧ (σ0.1 218 11).toInt < (σ0.1 218 11).toInt ∧ PIL σ0.1 0)) ∧ (σ0.1 218 7 = σ0.1 218 7 ∧ σ0.1 218 9 = σ0.1 218 9 ∧ σ0.1 218 20 = σ0.1 218 20 ∧ σ0.1 218 23 = σ0.1 218 23 ∧ σ0.1 218 25 = σ0.1 218 25) from ⟨by first | exact ⟨hK, by skip; omega, by skip; omega, fun q => absurd q (by skip; exact n18)⟩ | exact ⟨hK, by skip; omega, by skip; rw [s22]; omega, fun _ => ⟨y18, by skip; omega, PIL_i rfl rfl rfl rfl (by rw [show ((σ0.1 218 22) + 1).toInt.toNat = (σ0.1 218 22).toInt.toNat + 1 by rw [s22]; omega]; exact k45) (by rw [s22]; omega) s24 (by omega) hp⟩⟩ | exact absurd y18 n11, rfl, rfl, rfl, rfl, rfl⟩)⟩
    · have qhc19 := hqv17.2 hc19
      have y18 := qhc19
      refine ok_gC rfl ?_
      refine ok_zbT (Q := fun V σ => (TOK σ.1 ∧ (σ0.1 218 10).toInt ≤ (σ.1 218 11).toInt) ∧ (σ.1 218 7 = σ0.1 218 7 ∧ σ.1 218 9 = σ0.1 218 9 ∧ σ.1 218 14 = σ0.1 218 14 ∧ σ.1 218 15 = σ0.1 218 15 ∧ σ.1 218 20 = σ0.1 218 20 ∧ σ.1 218 22 = σ0.1 218 22 ∧ σ.1 218 23 = σ0.1 218 23 ∧ σ.1 218 24 = σ0.1 218 24 ∧ σ.1 218 25 = σ0.1 218 25)) hT (s_X12_advance hN (hR.tr hT) (TOK_A hK) (by rw [hT.2 224 (by decide)]; exact hY)) (by decide) (fun v20 σ21 hOσ21 hT hqv20 => ?_)
      have hqv20 : (TOK σ21.1 ∧ (σ0.1 218 10).toInt ≤ (σ21.1 218 11).toInt) ∧ (σ21.1 218 7 = σ0.1 218 7 ∧ σ21.1 218 9 = σ0.1 218 9 ∧ σ21.1 218 14 = σ0.1 218 14 ∧ σ21.1 218 15 = σ0.1 218 15 ∧ σ21.1 218 20 = σ0.1 218 20 ∧ σ21.1 218 22 = σ0.1 218 22 ∧ σ21.1 218 23 = σ0.1 218 23 ∧ σ21.1 218 24 = σ0.1 218 24 ∧ σ21.1 218 25 = σ0.1 218 25) := hqv20
      have hkv20 := hqv20
      have hqv20 := hqv20.1
      have r230_σ21 : σ21.1 230 = σ0.1 230 := hOσ21.2 230 (by decide)
      have hK : TOK σ21.1 := by first | exact hqv20.1 | exact TOK_p eσ21 (by decide) hK
      have g7_σ21 : σ21.1 218 7 = (σ0.1 218 7) := hkv20.2.1
      have g9_σ21 : σ21.1 218 9 = (σ0.1 218 9) := hkv20.2.2.1
      have g14_σ21 : σ21.1 218 14 = (σ0.1 218 14) := hkv20.2.2.2.1
      have g15_σ21 : σ21.1 218 15 = (σ0.1 218 15) := hkv20.2.2.2.2.1
      have g20_σ21 : σ21.1 218 20 = (σ0.1 218 20) := hkv20.2.2.2.2.2.1
      have g22_σ21 : σ21.1 218 22 = (σ0.1 218 22) := hkv20.2.2.2.2.2.2.1
      have g23_σ21 : σ21.1 218 23 = (σ0.1 218 23) := hkv20.2.2.2.2.2.2.2.1
      have g24_σ21 : σ21.1 218 24 = (σ0.1 218 24) := hkv20.2.2.2.2.2.2.2.2.1
      have g25_σ21 : σ21.1 218 25 = (σ0.1 218 25) := hkv20.2.2.2.2.2.2.2.2.2
      have m23 := hqv20.2
      refine ok_gIv rfl g24_σ21 ?_
      refine ok_pI hT rfl (by decide) (fun σ23 eσ23 hOσ23 hT => ?_)
      have r230_σ23 : σ23.1 230 = σ0.1 230 := (hOσ23.2 230 (by decide)).trans r230_σ21
      have hK : TOK σ23.1 := by first | exact HQ.1 | exact TOK_p eσ23 (by decide) hK
      have g7_σ23 : σ23.1 218 7 = (σ0.1 218 7) := (zI_atN eσ23 (by decide)).trans g7_σ21
      have g9_σ23 : σ23.1 218 9 = (σ0.1 218 9) := (zI_atN eσ23 (by decide)).trans g9_σ21
      have g10_σ23 : σ23.1 218 10 = (σ21.1 218 10) := zI_atN eσ23 (by decide)
      have g11_σ23 : σ23.1 218 11 = (σ21.1 218 11) := zI_atN eσ23 (by decide)
      have g12_σ23 : σ23.1 218 12 = (σ21.1 218 12) := zI_atN eσ23 (by decide)
      have g13_σ23 : σ23.1 218 13 = (σ21.1 218 13) := zI_atN eσ23 (by decide)
      have g14_σ23 : σ23.1 218 14 = (σ0.1 218 14) := (zI_atN eσ23 (by decide)).trans g14_σ21
      have g15_σ23 : σ23.1 218 15 = (σ0.1 218 15) := (zI_atN eσ23 (by decide)).trans g15_σ21
      have g20_σ23 : σ23.1 218 20 = (σ0.1 218 20) := (zI_atN eσ23 (by decide)).trans g20_σ21
      have g22_σ23 : σ23.1 218 22 = (σ0.1 218 22) := (zI_atN eσ23 (by decide)).trans g22_σ21
      have g23_σ23 : σ23.1 218 23 = (σ0.1 218 23) := (zI_atN eσ23 (by decide)).trans g23_σ21
      have g24_σ23 : σ23.1 218 24 = ((σ0.1 218 24) + 1) := zI_atI eσ23
      have g25_σ23 : σ23.1 218 25 = (σ0.1 218 25) := (zI_atN eσ23 (by decide)).trans g25_σ21
      refine ok_gR (v := 230) hT rfl (hR 218 21 rfl) ?_
      refine ok_gIv rfl g22_σ23 ?_
      refine ok_s14 hT rfl (by decide) (by ((try simp only [g7_σ23, g9_σ23, g10_σ23, g11_σ23, g12_σ23, g13_σ23, g14_σ23, g15_σ23, g20_σ23, g22_σ23, g23_σ23, g24_σ23, g25_σ23])); first | omega | decide | (simp only [Int32.le_iff_toInt_le, Int32.lt_iff_toInt_lt, ti_add, ti_sub, ti_mul, Int32.reduceToInt] at *; omega)) (by ((try simp only [g7_σ23, g9_σ23, g10_σ23, g11_σ23, g12_σ23, g13_σ23, g14_σ23, g15_σ23, g20_σ23, g22_σ23, g23_σ23, g24_σ23, g25_σ23])); first | omega | decide | (simp only [Int32.le_iff_toInt_le, Int32.lt_iff_toInt_lt, ti_add, ti_sub, ti_mul, Int32.reduceToInt] at *; omega)) (fun σ26 eσ26 hOσ26 hT => ?_)
      have a45 := zI_atI eσ26
      have k45 : Stk (σ26.1 230) ((σ0.1 218 22).toInt.toNat + 1) b8 (d8 + 1) 0 := Stk_open hS (fun k hk => by rw [zI_atN eσ26 (by rw [j22]; omega)]; exact congrFun r230_σ23 k) (by rw [← j22, a45]; exact hx)
      have hK : TOK σ26.1 := TOK_tr hOσ26 (by decide) (by decide) hK
      have g7_σ26 : σ26.1 218 7 = (σ0.1 218 7) := (congrFun (hOσ26.2 218 (by decide)) 7).trans g7_σ23
      have g9_σ26 : σ26.1 218 9 = (σ0.1 218 9) := (congrFun (hOσ26.2 218 (by decide)) 9).trans g9_σ23
      have g10_σ26 : σ26.1 218 10 = (σ21.1 218 10) := (congrFun (hOσ26.2 218 (by decide)) 10).trans g10_σ23
      have g11_σ26 : σ26.1 218 11 = (σ21.1 218 11) := (congrFun (hOσ26.2 218 (by decide)) 11).trans g11_σ23
      have g12_σ26 : σ26.1 218 12 = (σ21.1 218 12) := (congrFun (hOσ26.2 218 (by decide)) 12).trans g12_σ23
      have g13_σ26 : σ26.1 218 13 = (σ21.1 218 13) := (congrFun (hOσ26.2 218 (by decide)) 13).trans g13_σ23
      have g14_σ26 : σ26.1 218 14 = (σ0.1 218 14) := (congrFun (hOσ26.2 218 (by decide)) 14).trans g14_σ23
      have g15_σ26 : σ26.1 218 15 = (σ0.1 218 15) := (congrFun (hOσ26.2 218 (by decide)) 15).trans g15_σ23
      have g20_σ26 : σ26.1 218 20 = (σ0.1 218 20) := (congrFun (hOσ26.2 218 (by decide)) 20).trans g20_σ23
      have g22_σ26 : σ26.1 218 22 = (σ0.1 218 22) := (congrFun (hOσ26.2 218 (by decide)) 22).trans g22_σ23
      have g23_σ26 : σ26.1 218 23 = (σ0.1 218 23) := (congrFun (hOσ26.2 218 (by decide)) 23).trans g23_σ23
      have g24_σ26 : σ26.1 218 24 = ((σ0.1 218 24) + 1) := (congrFun (hOσ26.2 218 (by decide)) 24).trans g24_σ23
      have g25_σ26 : σ26.1 218 25 = (σ0.1 218 25) := (congrFun (hOσ26.2 218 (by decide)) 25).trans g25_σ23
      refine ok_gIv rfl g22_σ26 ?_
      refine ok_pI hT rfl (by decide) (fun σ28 eσ28 hOσ28 hT => ?_)
      have r230_σ28 : σ28.1 230 = σ26.1 230 := hOσ28.2 230 (by decide)
      have hK : TOK σ28.1 := by first | exact HQ.1 | exact TOK_p eσ28 (by decide) hK
      have g7_σ28 : σ28.1 218 7 = (σ0.1 218 7) := (zI_atN eσ28 (by decide)).trans g7_σ26
      have g9_σ28 : σ28.1 218 9 = (σ0.1 218 9) := (zI_atN eσ28 (by decide)).trans g9_σ26
      have g10_σ28 : σ28.1 218 10 = (σ21.1 218 10) := (zI_atN eσ28 (by decide)).trans g10_σ26
      have g11_σ28 : σ28.1 218 11 = (σ21.1 218 11) := (zI_atN eσ28 (by decide)).trans g11_σ26
      have g12_σ28 : σ28.1 218 12 = (σ21.1 218 12) := (zI_atN eσ28 (by decide)).trans g12_σ26
      have g13_σ28 : σ28.1 218 13 = (σ21.1 218 13) := (zI_atN eσ28 (by decide)).trans g13_σ26
      have g14_σ28 : σ28.1 218 14 = (σ0.1 218 14) := (zI_atN eσ28 (by decide)).trans g14_σ26
      have g15_σ28 : σ28.1 218 15 = (σ0.1 218 15) := (zI_atN eσ28 (by decide)).trans g15_σ26
      have g20_σ28 : σ28.1 218 20 = (σ0.1 218 20) := (zI_atN eσ28 (by decide)).trans g20_σ26
      have g22_σ28 : σ28.1 218 22 = ((σ0.1 218 22) + 1) := zI_atI eσ28
      have g23_σ28 : σ28.1 218 23 = (σ0.1 218 23) := (zI_atN eσ28 (by decide)).trans g23_σ26
      have g24_σ28 : σ28.1 218 24 = ((σ0.1 218 24) + 1) := (zI_atN eσ28 (by decide)).trans g24_σ26
      have g25_σ28 : σ28.1 218 25 = (σ0.1 218 25) := (zI_atN eσ28 (by decide)).trans g25_σ26
      exact ok_some ⟨hT, (show (TOK σ28.1 ∧ (σ0.1 218 11).toInt ≤ (σ28.1 218 11).toInt ∧ (0 ≤ (σ28.1 218 22).toInt ∧ (σ28.1 218 22).toInt ≤ 40) ∧ (σ28.1 218 14 = 0 → σ0.1 218 14 = 0 ∧ (σ0.1 218 11).toInt < (σ28.1 218 11).toInt ∧ PIL σ28.1 0)) ∧ (σ28.1 218 7 = σ0.1 218 7 ∧ σ28.1 218 9 = σ0.1 218 9 ∧ σ28.1 218 20 = σ0.1 218 20 ∧ σ28.1 218 23 = σ0.1 218 23 ∧ σ28.1 218 25 = σ0.1 218 25) from ⟨by first | exact ⟨hK, by (try simp only [g7_σ28, g9_σ28, g10_σ28, g11_σ28, g12_σ28, g13_σ28, g14_σ28, g15_σ28, g20_σ28, g22_σ28, g23_σ28, g24_σ28, g25_σ28]); omega, by (try simp only [g7_σ28, g9_σ28, g10_σ28, g11_σ28, g12_σ28, g13_σ28, g14_σ28, g15_σ28, g20_σ28, g22_σ28, g23_σ28, g24_σ28, g25_σ28]); omega, fun q => absurd q (by (try simp only [g7_σ28, g9_σ28, g10_σ28, g11_σ28, g12_σ28, g13_σ28, g14_σ28, g15_σ28, g20_σ28, g22_σ28, g23_σ28, g24_σ28, g25_σ28]); exact n18)⟩ | exact ⟨hK, by (try simp only [g7_σ28, g9_σ28, g10_σ28, g11_σ28, g12_σ28, g13_σ28, g14_σ28, g15_σ28, g20_σ28, g22_σ28, g23_σ28, g24_σ28, g25_σ28]); omega, by (try simp only [g7_σ28, g9_σ28, g10_σ28, g11_σ28, g12_σ28, g13_σ28, g14_σ28, g15_σ28, g20_σ28, g22_σ28, g23_σ28, g24_σ28, g25_σ28]); rw [s22]; omega, fun _ => ⟨y18, by (try simp only [g7_σ28, g9_σ28, g10_σ28, g11_σ28, g12_σ28, g13_σ28, g14_σ28, g15_σ28, g20_σ28, g22_σ28, g23_σ28, g24_σ28, g25_σ28]); omega, PIL_i g22_σ28 g23_σ28 g24_σ28 r230_σ28 (by rw [show ((σ0.1 218 22) + 1).toInt.toNat = (σ0.1 218 22).toInt.toNat + 1 by rw [s22]; omega]; exact k45) (by rw [s22]; omega) s24 (by omega) hp⟩⟩ | exact absurd y18 n11, g7_σ28, g9_σ28, g20_σ28, g23_σ28, g25_σ28⟩)⟩

set_option maxHeartbeats 4000000 in
set_option maxRecDepth 100000 in
theorem s_X12_wordSet {N : Nat} (hN : 1048576 ≤ N) {x1 : Int32} {σ0 : zS}  (hR : RF σ0.2.2) (hK : TOK σ0.1) (hY : BYT (σ0.1 224)) (h12 : σ0.1 218 12 = 1) (hn : 0 ≤ x1.toInt ∧ x1.toInt ≤ 10) : Ok (f_X12_wordSet N 218 x1 σ0) (fun r => Tr [218] σ0 r.2 ∧ ((TOK r.2.1 ∧ (0 ≤ r.1.toInt ∧ r.1.toInt ≤ 1023) ∧ (r.2.1 218 14 = 0 → σ0.1 218 14 = 0)) ∧ (r.2.1 218 7 = σ0.1 218 7 ∧ r.2.1 218 9 = σ0.1 218 9 ∧ r.2.1 218 10 = σ0.1 218 10 ∧ r.2.1 218 11 = σ0.1 218 11 ∧ r.2.1 218 12 = σ0.1 218 12 ∧ r.2.1 218 13 = σ0.1 218 13 ∧ r.2.1 218 20 = σ0.1 218 20 ∧ r.2.1 218 22 = σ0.1 218 22 ∧ r.2.1 218 23 = σ0.1 218 23 ∧ r.2.1 218 24 = σ0.1 218 24 ∧ r.2.1 218 25 = σ0.1 218 25))) := by
  have hT : Tr [218] σ0 σ0 := Tr.rf
  have hK1 := hK.1
  have w12 := hK.2.2 h12
  rw [f_X12_wordSet.eq_1]
  refine ok_gI rfl ?_
  refine ok_lp (fun t : Int32 × Int32 × zS => Tr [218] σ0 (t.2.2) ∧ ((0 ≤ (t.1).toInt ∧ (t.1).toInt ≤ 1023) ∧ (σ0.1 218 11).toInt ≤ (t.2.1).toInt) ∧ (TOK (t.2.2).1) ∧ ((t.2.2).1 218 7 = (σ0.1 218 7)) ∧ ((t.2.2).1 218 9 = (σ0.1 218 9)) ∧ ((t.2.2).1 218 10 = (σ0.1 218 10)) ∧ ((t.2.2).1 218 11 = (σ0.1 218 11)) ∧ ((t.2.2).1 218 12 = (σ0.1 218 12)) ∧ ((t.2.2).1 218 13 = (σ0.1 218 13)) ∧ ((t.2.2).1 218 14 = (σ0.1 218 14)) ∧ ((t.2.2).1 218 15 = (σ0.1 218 15)) ∧ ((t.2.2).1 218 20 = (σ0.1 218 20)) ∧ ((t.2.2).1 218 22 = (σ0.1 218 22)) ∧ ((t.2.2).1 218 23 = (σ0.1 218 23)) ∧ ((t.2.2).1 218 24 = (σ0.1 218 24)) ∧ ((t.2.2).1 218 25 = (σ0.1 218 25))) (fun t : Int32 × Int32 × zS => ((σ0.1 218 10).toInt - (t.2.1).toInt).toNat) (fun again2 t hI ih7_2 => ?_) N _ (show Tr [218] σ0 σ0 ∧ ((0 ≤ (0 : Int32).toInt ∧ (0 : Int32).toInt ≤ 1023) ∧ (σ0.1 218 11).toInt ≤ (σ0.1 218 11).toInt) ∧ (TOK σ0.1) ∧ (σ0.1 218 7 = (σ0.1 218 7)) ∧ (σ0.1 218 9 = (σ0.1 218 9)) ∧ (σ0.1 218 10 = (σ0.1 218 10)) ∧ (σ0.1 218 11 = (σ0.1 218 11)) ∧ (σ0.1 218 12 = (σ0.1 218 12)) ∧ (σ0.1 218 13 = (σ0.1 218 13)) ∧ (σ0.1 218 14 = (σ0.1 218 14)) ∧ (σ0.1 218 15 = (σ0.1 218 15)) ∧ (σ0.1 218 20 = (σ0.1 218 20)) ∧ (σ0.1 218 22 = (σ0.1 218 22)) ∧ (σ0.1 218 23 = (σ0.1 218 23)) ∧ (σ0.1 218 24 = (σ0.1 218 24)) ∧ (σ0.1 218 25 = (σ0.1 218 25)) from ⟨hT, (by exact ⟨by decide, Int.le_refl _⟩), hK, rfl, rfl, rfl, rfl, rfl, rfl, rfl, rfl, rfl, rfl, rfl, rfl, rfl⟩) (show ((σ0.1 218 10).toInt - (σ0.1 218 11).toInt).toNat < N from (by omega))
  obtain ⟨x2_2, x3_2, σ2⟩ := t
  have hI : Tr [218] σ0 σ2 ∧ ((0 ≤ x2_2.toInt ∧ x2_2.toInt ≤ 1023) ∧ (σ0.1 218 11).toInt ≤ x3_2.toInt) ∧ (TOK σ2.1) ∧ (σ2.1 218 7 = (σ0.1 218 7)) ∧ (σ2.1 218 9 = (σ0.1 218 9)) ∧ (σ2.1 218 10 = (σ0.1 218 10)) ∧ (σ2.1 218 11 = (σ0.1 218 11)) ∧ (σ2.1 218 12 = (σ0.1 218 12)) ∧ (σ2.1 218 13 = (σ0.1 218 13)) ∧ (σ2.1 218 14 = (σ0.1 218 14)) ∧ (σ2.1 218 15 = (σ0.1 218 15)) ∧ (σ2.1 218 20 = (σ0.1 218 20)) ∧ (σ2.1 218 22 = (σ0.1 218 22)) ∧ (σ2.1 218 23 = (σ0.1 218 23)) ∧ (σ2.1 218 24 = (σ0.1 218 24)) ∧ (σ2.1 218 25 = (σ0.1 218 25)) := hI
  obtain ⟨hT, hI2, hK, g7_σ2, g9_σ2, g10_σ2, g11_σ2, g12_σ2, g13_σ2, g14_σ2, g15_σ2, g20_σ2, g22_σ2, g23_σ2, g24_σ2, g25_σ2⟩ := hI
  rw [F_X12_wordSet_7.eq_1]
  have h2 := hI2.1
  have h3 := hI2.2
  refine ok_gIv rfl g10_σ2 ?_
  refine ok_if (fun hc4 => ?_) (fun hc4 => ?_)
  · exact ok_some ⟨hT, (show (TOK σ2.1 ∧ (0 ≤ x2_2.toInt ∧ x2_2.toInt ≤ 1023) ∧ (σ2.1 218 14 = 0 → σ0.1 218 14 = 0)) ∧ (σ2.1 218 7 = σ0.1 218 7 ∧ σ2.1 218 9 = σ0.1 218 9 ∧ σ2.1 218 10 = σ0.1 218 10 ∧ σ2.1 218 11 = σ0.1 218 11 ∧ σ2.1 218 12 = σ0.1 218 12 ∧ σ2.1 218 13 = σ0.1 218 13 ∧ σ2.1 218 20 = σ0.1 218 20 ∧ σ2.1 218 22 = σ0.1 218 22 ∧ σ2.1 218 23 = σ0.1 218 23 ∧ σ2.1 218 24 = σ0.1 218 24 ∧ σ2.1 218 25 = σ0.1 218 25) from ⟨by first | exact ⟨hK, h2, fun q => by rw [g14_σ2] at q; exact q⟩ | exact ⟨hK, by decide, fun q => absurd q HQ.2⟩, g7_σ2, g9_σ2, g10_σ2, g11_σ2, g12_σ2, g13_σ2, g20_σ2, g22_σ2, g23_σ2, g24_σ2, g25_σ2⟩)⟩
  · have l12 := hc4
    rw [Int32.le_iff_toInt_le] at l12
    have s3 : (x3_2 + 1).toInt = x3_2.toInt + 1 := by rw [ti_add]; simp only [Int32.reduceToInt]; omega
    refine ok_gR (v := 224) hT rfl (hR 218 6 rfl) ?_
    refine ok_aIn rfl (by ((try simp only [g7_σ2, g9_σ2, g10_σ2, g11_σ2, g12_σ2, g13_σ2, g14_σ2, g15_σ2, g20_σ2, g22_σ2, g23_σ2, g24_σ2, g25_σ2])); first | omega | decide | (simp only [Int32.le_iff_toInt_le, Int32.lt_iff_toInt_lt, ti_add, ti_sub, ti_mul, Int32.reduceToInt] at *; omega)) (by ((try simp only [g7_σ2, g9_σ2, g10_σ2, g11_σ2, g12_σ2, g13_σ2, g14_σ2, g15_σ2, g20_σ2, g22_σ2, g23_σ2, g24_σ2, g25_σ2])); first | omega | decide | (simp only [Int32.le_iff_toInt_le, Int32.lt_iff_toInt_lt, ti_add, ti_sub, ti_mul, Int32.reduceToInt] at *; omega)) (fun v6 ev6 => ?_)
    have ev20 := ev6
    rw [hT.2 224 (by decide)] at ev20
    have t20 : 97 ≤ (v6).toInt ∧ (v6).toInt ≤ 122 := by rw [ev20]; exact w12 x3_2.toInt.toNat (by omega) (by omega)
    have s20 : (v6 - 97).toInt = v6.toInt - 97 := by rw [ti_sub]; simp only [Int32.reduceToInt]; omega
    have o20 : (v6 - 97).toInt ≤ 9 → 1 ≤ ((1 : Int32) <<< ((v6 - 97) &&& 31)).toInt ∧ ((1 : Int32) <<< ((v6 - 97) &&& 31)).toInt ≤ 512 := fun h => ti_one9 (by omega) h
    refine ok_if (fun hc7 => ?_) (fun hc7 => ?_)
    · refine ok_gC rfl ?_
      refine ok_zbT (Q := fun V σ => (TOK σ.1 ∧ ¬ σ.1 218 14 = 0) ∧ (σ.1 218 7 = σ2.1 218 7 ∧ σ.1 218 9 = σ2.1 218 9 ∧ σ.1 218 10 = σ2.1 218 10 ∧ σ.1 218 11 = σ2.1 218 11 ∧ σ.1 218 12 = σ2.1 218 12 ∧ σ.1 218 13 = σ2.1 218 13 ∧ σ.1 218 20 = σ2.1 218 20 ∧ σ.1 218 22 = σ2.1 218 22 ∧ σ.1 218 23 = σ2.1 218 23 ∧ σ.1 218 24 = σ2.1 218 24 ∧ σ.1 218 25 = σ2.1 218 25)) hT (s_X12_errs hN (hR.tr hT) (hK) (by rw [hT.2 224 (by decide)]; exact hY) (by decide)) (by decide) (fun v8 σ9 hOσ9 hT hqv8 => ?_)
      have hqv8 : (TOK σ9.1 ∧ ¬ σ9.1 218 14 = 0) ∧ (σ9.1 218 7 = σ2.1 218 7 ∧ σ9.1 218 9 = σ2.1 218 9 ∧ σ9.1 218 10 = σ2.1 218 10 ∧ σ9.1 218 11 = σ2.1 218 11 ∧ σ9.1 218 12 = σ2.1 218 12 ∧ σ9.1 218 13 = σ2.1 218 13 ∧ σ9.1 218 20 = σ2.1 218 20 ∧ σ9.1 218 22 = σ2.1 218 22 ∧ σ9.1 218 23 = σ2.1 218 23 ∧ σ9.1 218 24 = σ2.1 218 24 ∧ σ9.1 218 25 = σ2.1 218 25) := hqv8
      have hkv8 := hqv8
      have hqv8 := hqv8.1
      have hK : TOK σ9.1 := by first | exact hqv8.1 | exact TOK_p eσ9 (by decide) hK
      try simp only [g7_σ2, g9_σ2, g10_σ2, g11_σ2, g12_σ2, g13_σ2, g14_σ2, g15_σ2, g20_σ2, g22_σ2, g23_σ2, g24_σ2, g25_σ2] at hqv8
      have g7_σ9 : σ9.1 218 7 = (σ0.1 218 7) := (hkv8.2.1).trans g7_σ2
      have g9_σ9 : σ9.1 218 9 = (σ0.1 218 9) := (hkv8.2.2.1).trans g9_σ2
      have g10_σ9 : σ9.1 218 10 = (σ0.1 218 10) := (hkv8.2.2.2.1).trans g10_σ2
      have g11_σ9 : σ9.1 218 11 = (σ0.1 218 11) := (hkv8.2.2.2.2.1).trans g11_σ2
      have g12_σ9 : σ9.1 218 12 = (σ0.1 218 12) := (hkv8.2.2.2.2.2.1).trans g12_σ2
      have g13_σ9 : σ9.1 218 13 = (σ0.1 218 13) := (hkv8.2.2.2.2.2.2.1).trans g13_σ2
      have g20_σ9 : σ9.1 218 20 = (σ0.1 218 20) := (hkv8.2.2.2.2.2.2.2.1).trans g20_σ2
      have g22_σ9 : σ9.1 218 22 = (σ0.1 218 22) := (hkv8.2.2.2.2.2.2.2.2.1).trans g22_σ2
      have g23_σ9 : σ9.1 218 23 = (σ0.1 218 23) := (hkv8.2.2.2.2.2.2.2.2.2.1).trans g23_σ2
      have g24_σ9 : σ9.1 218 24 = (σ0.1 218 24) := (hkv8.2.2.2.2.2.2.2.2.2.2.1).trans g24_σ2
      have g25_σ9 : σ9.1 218 25 = (σ0.1 218 25) := (hkv8.2.2.2.2.2.2.2.2.2.2.2).trans g25_σ2
      exact ok_some ⟨hT, (show (TOK σ9.1 ∧ (0 ≤ (0 : Int32).toInt ∧ (0 : Int32).toInt ≤ 1023) ∧ (σ9.1 218 14 = 0 → σ0.1 218 14 = 0)) ∧ (σ9.1 218 7 = σ0.1 218 7 ∧ σ9.1 218 9 = σ0.1 218 9 ∧ σ9.1 218 10 = σ0.1 218 10 ∧ σ9.1 218 11 = σ0.1 218 11 ∧ σ9.1 218 12 = σ0.1 218 12 ∧ σ9.1 218 13 = σ0.1 218 13 ∧ σ9.1 218 20 = σ0.1 218 20 ∧ σ9.1 218 22 = σ0.1 218 22 ∧ σ9.1 218 23 = σ0.1 218 23 ∧ σ9.1 218 24 = σ0.1 218 24 ∧ σ9.1 218 25 = σ0.1 218 25) from ⟨by first | exact ⟨hK, h2, fun q => by rw [rfl] at q; exact q⟩ | exact ⟨hK, by decide, fun q => absurd q hqv8.2⟩, g7_σ9, g9_σ9, g10_σ9, g11_σ9, g12_σ9, g13_σ9, g20_σ9, g22_σ9, g23_σ9, g24_σ9, g25_σ9⟩)⟩
    · have n29 := hc7
      rw [Int32.le_iff_toInt_le, s20] at n29
      refine ok_if (fun hc10 => ?_) (fun hc10 => ?_)
      · refine ok_gC rfl ?_
        refine ok_zbT (Q := fun V σ => (TOK σ.1 ∧ ¬ σ.1 218 14 = 0) ∧ (σ.1 218 7 = σ2.1 218 7 ∧ σ.1 218 9 = σ2.1 218 9 ∧ σ.1 218 10 = σ2.1 218 10 ∧ σ.1 218 11 = σ2.1 218 11 ∧ σ.1 218 12 = σ2.1 218 12 ∧ σ.1 218 13 = σ2.1 218 13 ∧ σ.1 218 20 = σ2.1 218 20 ∧ σ.1 218 22 = σ2.1 218 22 ∧ σ.1 218 23 = σ2.1 218 23 ∧ σ.1 218 24 = σ2.1 218 24 ∧ σ.1 218 25 = σ2.1 218 25)) hT (s_X12_errs hN (hR.tr hT) (hK) (by rw [hT.2 224 (by decide)]; exact hY) (by decide)) (by decide) (fun v11 σ12 hOσ12 hT hqv11 => ?_)
        have hqv11 : (TOK σ12.1 ∧ ¬ σ12.1 218 14 = 0) ∧ (σ12.1 218 7 = σ2.1 218 7 ∧ σ12.1 218 9 = σ2.1 218 9 ∧ σ12.1 218 10 = σ2.1 218 10 ∧ σ12.1 218 11 = σ2.1 218 11 ∧ σ12.1 218 12 = σ2.1 218 12 ∧ σ12.1 218 13 = σ2.1 218 13 ∧ σ12.1 218 20 = σ2.1 218 20 ∧ σ12.1 218 22 = σ2.1 218 22 ∧ σ12.1 218 23 = σ2.1 218 23 ∧ σ12.1 218 24 = σ2.1 218 24 ∧ σ12.1 218 25 = σ2.1 218 25) := hqv11
        have hkv11 := hqv11
        have hqv11 := hqv11.1
        have hK : TOK σ12.1 := by first | exact hqv11.1 | exact TOK_p eσ12 (by decide) hK
        try simp only [g7_σ2, g9_σ2, g10_σ2, g11_σ2, g12_σ2, g13_σ2, g14_σ2, g15_σ2, g20_σ2, g22_σ2, g23_σ2, g24_σ2, g25_σ2] at hqv11
        have g7_σ12 : σ12.1 218 7 = (σ0.1 218 7) := (hkv11.2.1).trans g7_σ2
        have g9_σ12 : σ12.1 218 9 = (σ0.1 218 9) := (hkv11.2.2.1).trans g9_σ2
        have g10_σ12 : σ12.1 218 10 = (σ0.1 218 10) := (hkv11.2.2.2.1).trans g10_σ2
        have g11_σ12 : σ12.1 218 11 = (σ0.1 218 11) := (hkv11.2.2.2.2.1).trans g11_σ2
        have g12_σ12 : σ12.1 218 12 = (σ0.1 218 12) := (hkv11.2.2.2.2.2.1).trans g12_σ2
        have g13_σ12 : σ12.1 218 13 = (σ0.1 218 13) := (hkv11.2.2.2.2.2.2.1).trans g13_σ2
        have g20_σ12 : σ12.1 218 20 = (σ0.1 218 20) := (hkv11.2.2.2.2.2.2.2.1).trans g20_σ2
        have g22_σ12 : σ12.1 218 22 = (σ0.1 218 22) := (hkv11.2.2.2.2.2.2.2.2.1).trans g22_σ2
        have g23_σ12 : σ12.1 218 23 = (σ0.1 218 23) := (hkv11.2.2.2.2.2.2.2.2.2.1).trans g23_σ2
        have g24_σ12 : σ12.1 218 24 = (σ0.1 218 24) := (hkv11.2.2.2.2.2.2.2.2.2.2.1).trans g24_σ2
        have g25_σ12 : σ12.1 218 25 = (σ0.1 218 25) := (hkv11.2.2.2.2.2.2.2.2.2.2.2).trans g25_σ2
        exact ok_some ⟨hT, (show (TOK σ12.1 ∧ (0 ≤ (0 : Int32).toInt ∧ (0 : Int32).toInt ≤ 1023) ∧ (σ12.1 218 14 = 0 → σ0.1 218 14 = 0)) ∧ (σ12.1 218 7 = σ0.1 218 7 ∧ σ12.1 218 9 = σ0.1 218 9 ∧ σ12.1 218 10 = σ0.1 218 10 ∧ σ12.1 218 11 = σ0.1 218 11 ∧ σ12.1 218 12 = σ0.1 218 12 ∧ σ12.1 218 13 = σ0.1 218 13 ∧ σ12.1 218 20 = σ0.1 218 20 ∧ σ12.1 218 22 = σ0.1 218 22 ∧ σ12.1 218 23 = σ0.1 218 23 ∧ σ12.1 218 24 = σ0.1 218 24 ∧ σ12.1 218 25 = σ0.1 218 25) from ⟨by first | exact ⟨hK, h2, fun q => by rw [rfl] at q; exact q⟩ | exact ⟨hK, by decide, fun q => absurd q hqv11.2⟩, g7_σ12, g9_σ12, g10_σ12, g11_σ12, g12_σ12, g13_σ12, g20_σ12, g22_σ12, g23_σ12, g24_σ12, g25_σ12⟩)⟩
      · exact ih7_2 (x2_2 ||| ((1 : Int32) <<< ((v6 - 97) &&& 31)), x3_2 + 1, σ2) (show Tr [218] σ0 σ2 ∧ ((0 ≤ (x2_2 ||| ((1 : Int32) <<< ((v6 - 97) &&& 31))).toInt ∧ (x2_2 ||| ((1 : Int32) <<< ((v6 - 97) &&& 31))).toInt ≤ 1023) ∧ (σ0.1 218 11).toInt ≤ (x3_2 + 1).toInt) ∧ (TOK σ2.1) ∧ (σ2.1 218 7 = (σ0.1 218 7)) ∧ (σ2.1 218 9 = (σ0.1 218 9)) ∧ (σ2.1 218 10 = (σ0.1 218 10)) ∧ (σ2.1 218 11 = (σ0.1 218 11)) ∧ (σ2.1 218 12 = (σ0.1 218 12)) ∧ (σ2.1 218 13 = (σ0.1 218 13)) ∧ (σ2.1 218 14 = (σ0.1 218 14)) ∧ (σ2.1 218 15 = (σ0.1 218 15)) ∧ (σ2.1 218 20 = (σ0.1 218 20)) ∧ (σ2.1 218 22 = (σ0.1 218 22)) ∧ (σ2.1 218 23 = (σ0.1 218 23)) ∧ (σ2.1 218 24 = (σ0.1 218 24)) ∧ (σ2.1 218 25 = (σ0.1 218 25)) from ⟨hT, (by have o9 := o20 (by omega); exact ⟨or10 (by omega) (by omega) (by omega) (by omega), by rw [s3]; omega⟩), hK, g7_σ2, g9_σ2, g10_σ2, g11_σ2, g12_σ2, g13_σ2, g14_σ2, g15_σ2, g20_σ2, g22_σ2, g23_σ2, g24_σ2, g25_σ2⟩) (show ((σ0.1 218 10).toInt - (x3_2 + 1).toInt).toNat < ((σ0.1 218 10).toInt - x3_2.toInt).toNat from (by rw [s3]; omega))

set_option maxHeartbeats 4000000 in
set_option maxRecDepth 100000 in
theorem s_X12_readsSet {N : Nat} (hN : 1048576 ≤ N) {x1 : Int32} {σ0 : zS}  (hR : RF σ0.2.2) (hK : TOK σ0.1) (hY : BYT (σ0.1 224)) (hB : ZB σ0.1) (hn : 0 ≤ x1.toInt ∧ x1.toInt ≤ 10) (hp : 1 ≤ (σ0.1 218 23).toInt ∧ (σ0.1 218 23).toInt ≤ 18) : Ok (f_X12_readsSet N 218 x1 σ0) (fun r => Tr [218, 226] σ0 r.2 ∧ ((TOK r.2.1 ∧ (σ0.1 218 11).toInt ≤ (r.2.1 218 11).toInt ∧ (r.2.1 218 14 = 0 → σ0.1 218 14 = 0 ∧ (σ0.1 218 11).toInt < (r.2.1 218 11).toInt) ∧ ZB r.2.1) ∧ (r.2.1 218 7 = σ0.1 218 7 ∧ r.2.1 218 9 = σ0.1 218 9 ∧ r.2.1 218 20 = σ0.1 218 20 ∧ r.2.1 218 22 = σ0.1 218 22 ∧ r.2.1 218 23 = σ0.1 218 23 ∧ r.2.1 218 24 = σ0.1 218 24 ∧ r.2.1 218 25 = σ0.1 218 25))) := by
  have hT : Tr [218, 226] σ0 σ0 := Tr.rf
  have hK1 := hK.1
  have p1 : ((σ0.1 218 23) - 1).toInt = (σ0.1 218 23).toInt - 1 := by rw [ti_sub]; simp only [Int32.reduceToInt]; omega
  have m1 := p1024 p1 (by omega) (by omega)
  rw [f_X12_readsSet.eq_1]
  refine ok_gI rfl ?_
  refine ok_if (fun hc2 => ?_) (fun hc2 => ?_)
  · refine ok_gC rfl ?_
    refine ok_zbT (Q := fun V σ => (TOK σ.1 ∧ (σ0.1 218 11).toInt ≤ (σ.1 218 11).toInt ∧ (σ.1 218 14 = 0 → (σ0.1 218 14 = 0 ∧ (σ0.1 218 11).toInt < (σ.1 218 11).toInt) ∧ (0 : Int32).toInt ≤ V.toInt ∧ V.toInt ≤ (0 : Int32).toInt) ∧ (¬ σ.1 218 14 = 0 → V = 0)) ∧ (σ.1 218 7 = σ0.1 218 7 ∧ σ.1 218 9 = σ0.1 218 9 ∧ σ.1 218 20 = σ0.1 218 20 ∧ σ.1 218 22 = σ0.1 218 22 ∧ σ.1 218 23 = σ0.1 218 23 ∧ σ.1 218 24 = σ0.1 218 24 ∧ σ.1 218 25 = σ0.1 218 25)) hT (s_X12_number hN (hR.tr hT) (hK) (by rw [hT.2 224 (by decide)]; exact hY)) (by decide) (fun v3 σ4 hOσ4 hT hqv3 => ?_)
    have hqv3 : (TOK σ4.1 ∧ (σ0.1 218 11).toInt ≤ (σ4.1 218 11).toInt ∧ (σ4.1 218 14 = 0 → (σ0.1 218 14 = 0 ∧ (σ0.1 218 11).toInt < (σ4.1 218 11).toInt) ∧ (0 : Int32).toInt ≤ v3.toInt ∧ v3.toInt ≤ (0 : Int32).toInt) ∧ (¬ σ4.1 218 14 = 0 → v3 = 0)) ∧ (σ4.1 218 7 = σ0.1 218 7 ∧ σ4.1 218 9 = σ0.1 218 9 ∧ σ4.1 218 20 = σ0.1 218 20 ∧ σ4.1 218 22 = σ0.1 218 22 ∧ σ4.1 218 23 = σ0.1 218 23 ∧ σ4.1 218 24 = σ0.1 218 24 ∧ σ4.1 218 25 = σ0.1 218 25) := hqv3
    have hkv3 := hqv3
    have hqv3 := hqv3.1
    have hK : TOK σ4.1 := by first | exact hqv3.1 | exact TOK_p eσ4 (by decide) hK
    have hB : ZB σ4.1 := ZB.tr hOσ4 (by decide) hB
    have g7_σ4 : σ4.1 218 7 = (σ0.1 218 7) := hkv3.2.1
    have g9_σ4 : σ4.1 218 9 = (σ0.1 218 9) := hkv3.2.2.1
    have g20_σ4 : σ4.1 218 20 = (σ0.1 218 20) := hkv3.2.2.2.1
    have g22_σ4 : σ4.1 218 22 = (σ0.1 218 22) := hkv3.2.2.2.2.1
    have g23_σ4 : σ4.1 218 23 = (σ0.1 218 23) := hkv3.2.2.2.2.2.1
    have g24_σ4 : σ4.1 218 24 = (σ0.1 218 24) := hkv3.2.2.2.2.2.2.1
    have g25_σ4 : σ4.1 218 25 = (σ0.1 218 25) := hkv3.2.2.2.2.2.2.2
    have m13 := hqv3.2.1
    have u13 := hqv3.2.2.1
    have b13 : 0 ≤ v3.toInt ∧ v3.toInt ≤ 1023 := by by_cases h9 : σ4.1 218 14 = 0; have h8 := (hqv3.2.2.1 h9).2; simp only [Int32.reduceToInt] at h8; omega; rw [hqv3.2.2.2 h9]; decide
    rw [J_X12_readsSet_53.eq_1]
    refine ok_gC rfl ?_
    refine ok_zbX (Q := fun V => (V = 0 → ¬ σ4.1 218 14 = 0) ∧ (¬ V = 0 → σ4.1 218 14 = 0)) (x_X12_good) (fun v5 hqv5 => ?_)
    have hqv5 : (v5 = 0 → ¬ σ4.1 218 14 = 0) ∧ (¬ v5 = 0 → σ4.1 218 14 = 0) := hqv5
    try simp only [g7_σ4, g9_σ4, g20_σ4, g22_σ4, g23_σ4, g24_σ4, g25_σ4, hT.2 224 (by decide)] at hqv5
    refine ok_if (fun hc7 => ?_) (fun hc7 => ?_)
    · have qhc7 := hqv5.1 hc7
      have n57 := qhc7
      exact ok_some ⟨hT, (show (TOK σ4.1 ∧ (σ0.1 218 11).toInt ≤ (σ4.1 218 11).toInt ∧ (σ4.1 218 14 = 0 → σ0.1 218 14 = 0 ∧ (σ0.1 218 11).toInt < (σ4.1 218 11).toInt) ∧ ZB σ4.1) ∧ (σ4.1 218 7 = σ0.1 218 7 ∧ σ4.1 218 9 = σ0.1 218 9 ∧ σ4.1 218 20 = σ0.1 218 20 ∧ σ4.1 218 22 = σ0.1 218 22 ∧ σ4.1 218 23 = σ0.1 218 23 ∧ σ4.1 218 24 = σ0.1 218 24 ∧ σ4.1 218 25 = σ0.1 218 25) from ⟨by first | exact ⟨hK, by (try simp only [g7_σ4, g9_σ4, g20_σ4, g22_σ4, g23_σ4, g24_σ4, g25_σ4]); omega, fun q => absurd q (by (try simp only [g7_σ4, g9_σ4, g20_σ4, g22_σ4, g23_σ4, g24_σ4, g25_σ4]); exact n57), hB⟩ | exact ⟨hK, by (try simp only [g7_σ4, g9_σ4, g20_σ4, g22_σ4, g23_σ4, g24_σ4, g25_σ4]); omega, fun _ => ⟨(u13 y57).1.1, by (try simp only [g7_σ4, g9_σ4, g20_σ4, g22_σ4, g23_σ4, g24_σ4, g25_σ4]); exact (u13 y57).1.2⟩, hB⟩ | exact ⟨hK, by (try simp only [g7_σ4, g9_σ4, g20_σ4, g22_σ4, g23_σ4, g24_σ4, g25_σ4]); omega, fun _ => ⟨y30 y38, by (try simp only [g7_σ4, g9_σ4, g20_σ4, g22_σ4, g23_σ4, g24_σ4, g25_σ4]); omega⟩, hB⟩ | exact absurd y57 n50 | exact absurd y57 n38, g7_σ4, g9_σ4, g20_σ4, g22_σ4, g23_σ4, g24_σ4, g25_σ4⟩)⟩
    · have qhc7 := hqv5.2 hc7
      have y57 := qhc7
      refine ok_gR (v := 226) hT rfl (hR 218 16 rfl) ?_
      refine ok_gIv rfl g23_σ4 ?_
      refine ok_s16 hT rfl (by decide) (by rw [ti_add, m1]; first | omega | (simp only [Int32.reduceToInt]; omega)) (by rw [ti_add, m1]; first | omega | (simp only [Int32.reduceToInt]; omega)) (fun σ10 eσ10 hOσ10 hT => ?_)
      have hK : TOK σ10.1 := TOK_tr hOσ10 (by decide) (by decide) hK
      have hB : ZB σ10.1 := ZB_s eσ10 hB
      have g7_σ10 : σ10.1 218 7 = (σ0.1 218 7) := (congrFun (hOσ10.2 218 (by decide)) 7).trans g7_σ4
      have g9_σ10 : σ10.1 218 9 = (σ0.1 218 9) := (congrFun (hOσ10.2 218 (by decide)) 9).trans g9_σ4
      have g10_σ10 : σ10.1 218 10 = (σ4.1 218 10) := congrFun (hOσ10.2 218 (by decide)) 10
      have g11_σ10 : σ10.1 218 11 = (σ4.1 218 11) := congrFun (hOσ10.2 218 (by decide)) 11
      have g12_σ10 : σ10.1 218 12 = (σ4.1 218 12) := congrFun (hOσ10.2 218 (by decide)) 12
      have g13_σ10 : σ10.1 218 13 = (σ4.1 218 13) := congrFun (hOσ10.2 218 (by decide)) 13
      have g14_σ10 : σ10.1 218 14 = (σ4.1 218 14) := congrFun (hOσ10.2 218 (by decide)) 14
      have g15_σ10 : σ10.1 218 15 = (σ4.1 218 15) := congrFun (hOσ10.2 218 (by decide)) 15
      have g20_σ10 : σ10.1 218 20 = (σ0.1 218 20) := (congrFun (hOσ10.2 218 (by decide)) 20).trans g20_σ4
      have g22_σ10 : σ10.1 218 22 = (σ0.1 218 22) := (congrFun (hOσ10.2 218 (by decide)) 22).trans g22_σ4
      have g23_σ10 : σ10.1 218 23 = (σ0.1 218 23) := (congrFun (hOσ10.2 218 (by decide)) 23).trans g23_σ4
      have g24_σ10 : σ10.1 218 24 = (σ0.1 218 24) := (congrFun (hOσ10.2 218 (by decide)) 24).trans g24_σ4
      have g25_σ10 : σ10.1 218 25 = (σ0.1 218 25) := (congrFun (hOσ10.2 218 (by decide)) 25).trans g25_σ4
      exact ok_some ⟨hT, (show (TOK σ10.1 ∧ (σ0.1 218 11).toInt ≤ (σ10.1 218 11).toInt ∧ (σ10.1 218 14 = 0 → σ0.1 218 14 = 0 ∧ (σ0.1 218 11).toInt < (σ10.1 218 11).toInt) ∧ ZB σ10.1) ∧ (σ10.1 218 7 = σ0.1 218 7 ∧ σ10.1 218 9 = σ0.1 218 9 ∧ σ10.1 218 20 = σ0.1 218 20 ∧ σ10.1 218 22 = σ0.1 218 22 ∧ σ10.1 218 23 = σ0.1 218 23 ∧ σ10.1 218 24 = σ0.1 218 24 ∧ σ10.1 218 25 = σ0.1 218 25) from ⟨by first | exact ⟨hK, by (try simp only [g7_σ10, g9_σ10, g10_σ10, g11_σ10, g12_σ10, g13_σ10, g14_σ10, g15_σ10, g20_σ10, g22_σ10, g23_σ10, g24_σ10, g25_σ10]); omega, fun q => absurd q (by (try simp only [g7_σ10, g9_σ10, g10_σ10, g11_σ10, g12_σ10, g13_σ10, g14_σ10, g15_σ10, g20_σ10, g22_σ10, g23_σ10, g24_σ10, g25_σ10]); exact n57), hB⟩ | exact ⟨hK, by (try simp only [g7_σ10, g9_σ10, g10_σ10, g11_σ10, g12_σ10, g13_σ10, g14_σ10, g15_σ10, g20_σ10, g22_σ10, g23_σ10, g24_σ10, g25_σ10]); omega, fun _ => ⟨(u13 y57).1.1, by (try simp only [g7_σ10, g9_σ10, g10_σ10, g11_σ10, g12_σ10, g13_σ10, g14_σ10, g15_σ10, g20_σ10, g22_σ10, g23_σ10, g24_σ10, g25_σ10]); exact (u13 y57).1.2⟩, hB⟩ | exact ⟨hK, by (try simp only [g7_σ10, g9_σ10, g10_σ10, g11_σ10, g12_σ10, g13_σ10, g14_σ10, g15_σ10, g20_σ10, g22_σ10, g23_σ10, g24_σ10, g25_σ10]); omega, fun _ => ⟨y30 y38, by (try simp only [g7_σ10, g9_σ10, g10_σ10, g11_σ10, g12_σ10, g13_σ10, g14_σ10, g15_σ10, g20_σ10, g22_σ10, g23_σ10, g24_σ10, g25_σ10]); omega⟩, hB⟩ | exact absurd y57 n50 | exact absurd y57 n38, g7_σ10, g9_σ10, g20_σ10, g22_σ10, g23_σ10, g24_σ10, g25_σ10⟩)⟩
  · refine ok_gI rfl ?_
    refine ok_if (fun hc12 => ?_) (fun hc12 => ?_)
    · have e25 := hc12
      have l25 := hK.2.1 (by rw [hc12]; decide)
      refine ok_gC rfl ?_
      refine ok_zbT (Q := fun V σ => (TOK σ.1 ∧ (0 ≤ V.toInt ∧ V.toInt ≤ 1023) ∧ (σ.1 218 14 = 0 → σ0.1 218 14 = 0)) ∧ (σ.1 218 7 = σ0.1 218 7 ∧ σ.1 218 9 = σ0.1 218 9 ∧ σ.1 218 10 = σ0.1 218 10 ∧ σ.1 218 11 = σ0.1 218 11 ∧ σ.1 218 12 = σ0.1 218 12 ∧ σ.1 218 13 = σ0.1 218 13 ∧ σ.1 218 20 = σ0.1 218 20 ∧ σ.1 218 22 = σ0.1 218 22 ∧ σ.1 218 23 = σ0.1 218 23 ∧ σ.1 218 24 = σ0.1 218 24 ∧ σ.1 218 25 = σ0.1 218 25)) hT (s_X12_wordSet hN (hR.tr hT) (hK) (by rw [hT.2 224 (by decide)]; exact hY) (e25) (hn)) (by decide) (fun v13 σ14 hOσ14 hT hqv13 => ?_)
      have hqv13 : (TOK σ14.1 ∧ (0 ≤ v13.toInt ∧ v13.toInt ≤ 1023) ∧ (σ14.1 218 14 = 0 → σ0.1 218 14 = 0)) ∧ (σ14.1 218 7 = σ0.1 218 7 ∧ σ14.1 218 9 = σ0.1 218 9 ∧ σ14.1 218 10 = σ0.1 218 10 ∧ σ14.1 218 11 = σ0.1 218 11 ∧ σ14.1 218 12 = σ0.1 218 12 ∧ σ14.1 218 13 = σ0.1 218 13 ∧ σ14.1 218 20 = σ0.1 218 20 ∧ σ14.1 218 22 = σ0.1 218 22 ∧ σ14.1 218 23 = σ0.1 218 23 ∧ σ14.1 218 24 = σ0.1 218 24 ∧ σ14.1 218 25 = σ0.1 218 25) := hqv13
      have hkv13 := hqv13
      have hqv13 := hqv13.1
      have hK : TOK σ14.1 := by first | exact hqv13.1 | exact TOK_p eσ14 (by decide) hK
      have hB : ZB σ14.1 := ZB.tr hOσ14 (by decide) hB
      have g7_σ14 : σ14.1 218 7 = (σ0.1 218 7) := hkv13.2.1
      have g9_σ14 : σ14.1 218 9 = (σ0.1 218 9) := hkv13.2.2.1
      have g10_σ14 : σ14.1 218 10 = (σ0.1 218 10) := hkv13.2.2.2.1
      have g11_σ14 : σ14.1 218 11 = (σ0.1 218 11) := hkv13.2.2.2.2.1
      have g12_σ14 : σ14.1 218 12 = (σ0.1 218 12) := hkv13.2.2.2.2.2.1
      have g13_σ14 : σ14.1 218 13 = (σ0.1 218 13) := hkv13.2.2.2.2.2.2.1
      have g20_σ14 : σ14.1 218 20 = (σ0.1 218 20) := hkv13.2.2.2.2.2.2.2.1
      have g22_σ14 : σ14.1 218 22 = (σ0.1 218 22) := hkv13.2.2.2.2.2.2.2.2.1
      have g23_σ14 : σ14.1 218 23 = (σ0.1 218 23) := hkv13.2.2.2.2.2.2.2.2.2.1
      have g24_σ14 : σ14.1 218 24 = (σ0.1 218 24) := hkv13.2.2.2.2.2.2.2.2.2.2.1
      have g25_σ14 : σ14.1 218 25 = (σ0.1 218 25) := hkv13.2.2.2.2.2.2.2.2.2.2.2
      have b30 := hqv13.2.1
      have y30 := hqv13.2.2
      refine ok_gC rfl ?_
      refine ok_zbX (Q := fun V => (V = 0 → ¬ σ14.1 218 14 = 0) ∧ (¬ V = 0 → σ14.1 218 14 = 0)) (x_X12_good) (fun v15 hqv15 => ?_)
      have hqv15 : (v15 = 0 → ¬ σ14.1 218 14 = 0) ∧ (¬ v15 = 0 → σ14.1 218 14 = 0) := hqv15
      try simp only [g7_σ14, g9_σ14, g10_σ14, g11_σ14, g12_σ14, g13_σ14, g20_σ14, g22_σ14, g23_σ14, g24_σ14, g25_σ14, hT.2 224 (by decide)] at hqv15
      refine ok_if (fun hc17 => ?_) (fun hc17 => ?_)
      · have qhc17 := hqv15.1 hc17
        have n38 := qhc17
        rw [J_X12_readsSet_53.eq_1]
        refine ok_gC rfl ?_
        refine ok_zbX (Q := fun V => (V = 0 → ¬ σ14.1 218 14 = 0) ∧ (¬ V = 0 → σ14.1 218 14 = 0)) (x_X12_good) (fun v18 hqv18 => ?_)
        have hqv18 : (v18 = 0 → ¬ σ14.1 218 14 = 0) ∧ (¬ v18 = 0 → σ14.1 218 14 = 0) := hqv18
        try simp only [g7_σ14, g9_σ14, g10_σ14, g11_σ14, g12_σ14, g13_σ14, g20_σ14, g22_σ14, g23_σ14, g24_σ14, g25_σ14, hT.2 224 (by decide)] at hqv18
        refine ok_if (fun hc20 => ?_) (fun hc20 => ?_)
        · have qhc20 := hqv18.1 hc20
          have n57 := qhc20
          exact ok_some ⟨hT, (show (TOK σ14.1 ∧ (σ0.1 218 11).toInt ≤ (σ14.1 218 11).toInt ∧ (σ14.1 218 14 = 0 → σ0.1 218 14 = 0 ∧ (σ0.1 218 11).toInt < (σ14.1 218 11).toInt) ∧ ZB σ14.1) ∧ (σ14.1 218 7 = σ0.1 218 7 ∧ σ14.1 218 9 = σ0.1 218 9 ∧ σ14.1 218 20 = σ0.1 218 20 ∧ σ14.1 218 22 = σ0.1 218 22 ∧ σ14.1 218 23 = σ0.1 218 23 ∧ σ14.1 218 24 = σ0.1 218 24 ∧ σ14.1 218 25 = σ0.1 218 25) from ⟨by first | exact ⟨hK, by (try simp only [g7_σ14, g9_σ14, g10_σ14, g11_σ14, g12_σ14, g13_σ14, g20_σ14, g22_σ14, g23_σ14, g24_σ14, g25_σ14]); omega, fun q => absurd q (by (try simp only [g7_σ14, g9_σ14, g10_σ14, g11_σ14, g12_σ14, g13_σ14, g20_σ14, g22_σ14, g23_σ14, g24_σ14, g25_σ14]); exact n57), hB⟩ | exact ⟨hK, by (try simp only [g7_σ14, g9_σ14, g10_σ14, g11_σ14, g12_σ14, g13_σ14, g20_σ14, g22_σ14, g23_σ14, g24_σ14, g25_σ14]); omega, fun _ => ⟨(u13 y57).1.1, by (try simp only [g7_σ14, g9_σ14, g10_σ14, g11_σ14, g12_σ14, g13_σ14, g20_σ14, g22_σ14, g23_σ14, g24_σ14, g25_σ14]); exact (u13 y57).1.2⟩, hB⟩ | exact ⟨hK, by (try simp only [g7_σ14, g9_σ14, g10_σ14, g11_σ14, g12_σ14, g13_σ14, g20_σ14, g22_σ14, g23_σ14, g24_σ14, g25_σ14]); omega, fun _ => ⟨y30 y38, by (try simp only [g7_σ14, g9_σ14, g10_σ14, g11_σ14, g12_σ14, g13_σ14, g20_σ14, g22_σ14, g23_σ14, g24_σ14, g25_σ14]); omega⟩, hB⟩ | exact absurd y57 n50 | exact absurd y57 n38, g7_σ14, g9_σ14, g20_σ14, g22_σ14, g23_σ14, g24_σ14, g25_σ14⟩)⟩
        · have qhc20 := hqv18.2 hc20
          have y57 := qhc20
          refine ok_gR (v := 226) hT rfl (hR 218 16 rfl) ?_
          refine ok_gIv rfl g23_σ14 ?_
          refine ok_s16 hT rfl (by decide) (by rw [ti_add, m1]; first | omega | (simp only [Int32.reduceToInt]; omega)) (by rw [ti_add, m1]; first | omega | (simp only [Int32.reduceToInt]; omega)) (fun σ23 eσ23 hOσ23 hT => ?_)
          have hK : TOK σ23.1 := TOK_tr hOσ23 (by decide) (by decide) hK
          have hB : ZB σ23.1 := ZB_s eσ23 hB
          have g7_σ23 : σ23.1 218 7 = (σ0.1 218 7) := (congrFun (hOσ23.2 218 (by decide)) 7).trans g7_σ14
          have g9_σ23 : σ23.1 218 9 = (σ0.1 218 9) := (congrFun (hOσ23.2 218 (by decide)) 9).trans g9_σ14
          have g10_σ23 : σ23.1 218 10 = (σ0.1 218 10) := (congrFun (hOσ23.2 218 (by decide)) 10).trans g10_σ14
          have g11_σ23 : σ23.1 218 11 = (σ0.1 218 11) := (congrFun (hOσ23.2 218 (by decide)) 11).trans g11_σ14
          have g12_σ23 : σ23.1 218 12 = (σ0.1 218 12) := (congrFun (hOσ23.2 218 (by decide)) 12).trans g12_σ14
          have g13_σ23 : σ23.1 218 13 = (σ0.1 218 13) := (congrFun (hOσ23.2 218 (by decide)) 13).trans g13_σ14
          have g14_σ23 : σ23.1 218 14 = (σ14.1 218 14) := congrFun (hOσ23.2 218 (by decide)) 14
          have g15_σ23 : σ23.1 218 15 = (σ14.1 218 15) := congrFun (hOσ23.2 218 (by decide)) 15
          have g20_σ23 : σ23.1 218 20 = (σ0.1 218 20) := (congrFun (hOσ23.2 218 (by decide)) 20).trans g20_σ14
          have g22_σ23 : σ23.1 218 22 = (σ0.1 218 22) := (congrFun (hOσ23.2 218 (by decide)) 22).trans g22_σ14
          have g23_σ23 : σ23.1 218 23 = (σ0.1 218 23) := (congrFun (hOσ23.2 218 (by decide)) 23).trans g23_σ14
          have g24_σ23 : σ23.1 218 24 = (σ0.1 218 24) := (congrFun (hOσ23.2 218 (by decide)) 24).trans g24_σ14
          have g25_σ23 : σ23.1 218 25 = (σ0.1 218 25) := (congrFun (hOσ23.2 218 (by decide)) 25).trans g25_σ14
          exact ok_some ⟨hT, (show (TOK σ23.1 ∧ (σ0.1 218 11).toInt ≤ (σ23.1 218 11).toInt ∧ (σ23.1 218 14 = 0 → σ0.1 218 14 = 0 ∧ (σ0.1 218 11).toInt < (σ23.1 218 11).toInt) ∧ ZB σ23.1) ∧ (σ23.1 218 7 = σ0.1 218 7 ∧ σ23.1 218 9 = σ0.1 218 9 ∧ σ23.1 218 20 = σ0.1 218 20 ∧ σ23.1 218 22 = σ0.1 218 22 ∧ σ23.1 218 23 = σ0.1 218 23 ∧ σ23.1 218 24 = σ0.1 218 24 ∧ σ23.1 218 25 = σ0.1 218 25) from ⟨by first | exact ⟨hK, by (try simp only [g7_σ23, g9_σ23, g10_σ23, g11_σ23, g12_σ23, g13_σ23, g14_σ23, g15_σ23, g20_σ23, g22_σ23, g23_σ23, g24_σ23, g25_σ23]); omega, fun q => absurd q (by (try simp only [g7_σ23, g9_σ23, g10_σ23, g11_σ23, g12_σ23, g13_σ23, g14_σ23, g15_σ23, g20_σ23, g22_σ23, g23_σ23, g24_σ23, g25_σ23]); exact n57), hB⟩ | exact ⟨hK, by (try simp only [g7_σ23, g9_σ23, g10_σ23, g11_σ23, g12_σ23, g13_σ23, g14_σ23, g15_σ23, g20_σ23, g22_σ23, g23_σ23, g24_σ23, g25_σ23]); omega, fun _ => ⟨(u13 y57).1.1, by (try simp only [g7_σ23, g9_σ23, g10_σ23, g11_σ23, g12_σ23, g13_σ23, g14_σ23, g15_σ23, g20_σ23, g22_σ23, g23_σ23, g24_σ23, g25_σ23]); exact (u13 y57).1.2⟩, hB⟩ | exact ⟨hK, by (try simp only [g7_σ23, g9_σ23, g10_σ23, g11_σ23, g12_σ23, g13_σ23, g14_σ23, g15_σ23, g20_σ23, g22_σ23, g23_σ23, g24_σ23, g25_σ23]); omega, fun _ => ⟨y30 y38, by (try simp only [g7_σ23, g9_σ23, g10_σ23, g11_σ23, g12_σ23, g13_σ23, g14_σ23, g15_σ23, g20_σ23, g22_σ23, g23_σ23, g24_σ23, g25_σ23]); omega⟩, hB⟩ | exact absurd y57 n50 | exact absurd y57 n38, g7_σ23, g9_σ23, g20_σ23, g22_σ23, g23_σ23, g24_σ23, g25_σ23⟩)⟩
      · have qhc17 := hqv15.2 hc17
        have y38 := qhc17
        refine ok_gC rfl ?_
        refine ok_zbT (Q := fun V σ => (TOK σ.1 ∧ (σ14.1 218 10).toInt ≤ (σ.1 218 11).toInt) ∧ (σ.1 218 7 = σ14.1 218 7 ∧ σ.1 218 9 = σ14.1 218 9 ∧ σ.1 218 14 = σ14.1 218 14 ∧ σ.1 218 15 = σ14.1 218 15 ∧ σ.1 218 20 = σ14.1 218 20 ∧ σ.1 218 22 = σ14.1 218 22 ∧ σ.1 218 23 = σ14.1 218 23 ∧ σ.1 218 24 = σ14.1 218 24 ∧ σ.1 218 25 = σ14.1 218 25)) hT (s_X12_advance hN (hR.tr hT) (TOK_A hK) (by rw [hT.2 224 (by decide)]; exact hY)) (by decide) (fun v24 σ25 hOσ25 hT hqv24 => ?_)
        have hqv24 : (TOK σ25.1 ∧ (σ14.1 218 10).toInt ≤ (σ25.1 218 11).toInt) ∧ (σ25.1 218 7 = σ14.1 218 7 ∧ σ25.1 218 9 = σ14.1 218 9 ∧ σ25.1 218 14 = σ14.1 218 14 ∧ σ25.1 218 15 = σ14.1 218 15 ∧ σ25.1 218 20 = σ14.1 218 20 ∧ σ25.1 218 22 = σ14.1 218 22 ∧ σ25.1 218 23 = σ14.1 218 23 ∧ σ25.1 218 24 = σ14.1 218 24 ∧ σ25.1 218 25 = σ14.1 218 25) := hqv24
        have hkv24 := hqv24
        have hqv24 := hqv24.1
        have hK : TOK σ25.1 := by first | exact hqv24.1 | exact TOK_p eσ25 (by decide) hK
        have hB : ZB σ25.1 := ZB.tr hOσ25 (by decide) hB
        try simp only [g7_σ14, g9_σ14, g10_σ14, g11_σ14, g12_σ14, g13_σ14, g20_σ14, g22_σ14, g23_σ14, g24_σ14, g25_σ14] at hqv24
        have g7_σ25 : σ25.1 218 7 = (σ0.1 218 7) := (hkv24.2.1).trans g7_σ14
        have g9_σ25 : σ25.1 218 9 = (σ0.1 218 9) := (hkv24.2.2.1).trans g9_σ14
        have g14_σ25 : σ25.1 218 14 = (σ14.1 218 14) := hkv24.2.2.2.1
        have g15_σ25 : σ25.1 218 15 = (σ14.1 218 15) := hkv24.2.2.2.2.1
        have g20_σ25 : σ25.1 218 20 = (σ0.1 218 20) := (hkv24.2.2.2.2.2.1).trans g20_σ14
        have g22_σ25 : σ25.1 218 22 = (σ0.1 218 22) := (hkv24.2.2.2.2.2.2.1).trans g22_σ14
        have g23_σ25 : σ25.1 218 23 = (σ0.1 218 23) := (hkv24.2.2.2.2.2.2.2.1).trans g23_σ14
        have g24_σ25 : σ25.1 218 24 = (σ0.1 218 24) := (hkv24.2.2.2.2.2.2.2.2.1).trans g24_σ14
        have g25_σ25 : σ25.1 218 25 = (σ0.1 218 25) := (hkv24.2.2.2.2.2.2.2.2.2).trans g25_σ14
        have m42 := hqv24.2
        rw [J_X12_readsSet_53.eq_1]
        refine ok_gC rfl ?_
        refine ok_zbX (Q := fun V => (V = 0 → ¬ σ25.1 218 14 = 0) ∧ (¬ V = 0 → σ25.1 218 14 = 0)) (x_X12_good) (fun v26 hqv26 => ?_)
        have hqv26 : (v26 = 0 → ¬ σ25.1 218 14 = 0) ∧ (¬ v26 = 0 → σ25.1 218 14 = 0) := hqv26
        try simp only [g7_σ25, g9_σ25, g14_σ25, g15_σ25, g20_σ25, g22_σ25, g23_σ25, g24_σ25, g25_σ25, hT.2 224 (by decide)] at hqv26
        refine ok_if (fun hc28 => ?_) (fun hc28 => ?_)
        · have qhc28 := hqv26.1 hc28
          have n57 := qhc28
          exact ok_some ⟨hT, (show (TOK σ25.1 ∧ (σ0.1 218 11).toInt ≤ (σ25.1 218 11).toInt ∧ (σ25.1 218 14 = 0 → σ0.1 218 14 = 0 ∧ (σ0.1 218 11).toInt < (σ25.1 218 11).toInt) ∧ ZB σ25.1) ∧ (σ25.1 218 7 = σ0.1 218 7 ∧ σ25.1 218 9 = σ0.1 218 9 ∧ σ25.1 218 20 = σ0.1 218 20 ∧ σ25.1 218 22 = σ0.1 218 22 ∧ σ25.1 218 23 = σ0.1 218 23 ∧ σ25.1 218 24 = σ0.1 218 24 ∧ σ25.1 218 25 = σ0.1 218 25) from ⟨by first | exact ⟨hK, by (try simp only [g7_σ25, g9_σ25, g14_σ25, g15_σ25, g20_σ25, g22_σ25, g23_σ25, g24_σ25, g25_σ25]); omega, fun q => absurd q (by (try simp only [g7_σ25, g9_σ25, g14_σ25, g15_σ25, g20_σ25, g22_σ25, g23_σ25, g24_σ25, g25_σ25]); exact n57), hB⟩ | exact ⟨hK, by (try simp only [g7_σ25, g9_σ25, g14_σ25, g15_σ25, g20_σ25, g22_σ25, g23_σ25, g24_σ25, g25_σ25]); omega, fun _ => ⟨(u13 y57).1.1, by (try simp only [g7_σ25, g9_σ25, g14_σ25, g15_σ25, g20_σ25, g22_σ25, g23_σ25, g24_σ25, g25_σ25]); exact (u13 y57).1.2⟩, hB⟩ | exact ⟨hK, by (try simp only [g7_σ25, g9_σ25, g14_σ25, g15_σ25, g20_σ25, g22_σ25, g23_σ25, g24_σ25, g25_σ25]); omega, fun _ => ⟨y30 y38, by (try simp only [g7_σ25, g9_σ25, g14_σ25, g15_σ25, g20_σ25, g22_σ25, g23_σ25, g24_σ25, g25_σ25]); omega⟩, hB⟩ | exact absurd y57 n50 | exact absurd y57 n38, g7_σ25, g9_σ25, g20_σ25, g22_σ25, g23_σ25, g24_σ25, g25_σ25⟩)⟩
        · have qhc28 := hqv26.2 hc28
          have y57 := qhc28
          refine ok_gR (v := 226) hT rfl (hR 218 16 rfl) ?_
          refine ok_gIv rfl g23_σ25 ?_
          refine ok_s16 hT rfl (by decide) (by rw [ti_add, m1]; first | omega | (simp only [Int32.reduceToInt]; omega)) (by rw [ti_add, m1]; first | omega | (simp only [Int32.reduceToInt]; omega)) (fun σ31 eσ31 hOσ31 hT => ?_)
          have hK : TOK σ31.1 := TOK_tr hOσ31 (by decide) (by decide) hK
          have hB : ZB σ31.1 := ZB_s eσ31 hB
          have g7_σ31 : σ31.1 218 7 = (σ0.1 218 7) := (congrFun (hOσ31.2 218 (by decide)) 7).trans g7_σ25
          have g9_σ31 : σ31.1 218 9 = (σ0.1 218 9) := (congrFun (hOσ31.2 218 (by decide)) 9).trans g9_σ25
          have g10_σ31 : σ31.1 218 10 = (σ25.1 218 10) := congrFun (hOσ31.2 218 (by decide)) 10
          have g11_σ31 : σ31.1 218 11 = (σ25.1 218 11) := congrFun (hOσ31.2 218 (by decide)) 11
          have g12_σ31 : σ31.1 218 12 = (σ25.1 218 12) := congrFun (hOσ31.2 218 (by decide)) 12
          have g13_σ31 : σ31.1 218 13 = (σ25.1 218 13) := congrFun (hOσ31.2 218 (by decide)) 13
          have g14_σ31 : σ31.1 218 14 = (σ14.1 218 14) := (congrFun (hOσ31.2 218 (by decide)) 14).trans g14_σ25
          have g15_σ31 : σ31.1 218 15 = (σ14.1 218 15) := (congrFun (hOσ31.2 218 (by decide)) 15).trans g15_σ25
          have g20_σ31 : σ31.1 218 20 = (σ0.1 218 20) := (congrFun (hOσ31.2 218 (by decide)) 20).trans g20_σ25
          have g22_σ31 : σ31.1 218 22 = (σ0.1 218 22) := (congrFun (hOσ31.2 218 (by decide)) 22).trans g22_σ25
          have g23_σ31 : σ31.1 218 23 = (σ0.1 218 23) := (congrFun (hOσ31.2 218 (by decide)) 23).trans g23_σ25
          have g24_σ31 : σ31.1 218 24 = (σ0.1 218 24) := (congrFun (hOσ31.2 218 (by decide)) 24).trans g24_σ25
          have g25_σ31 : σ31.1 218 25 = (σ0.1 218 25) := (congrFun (hOσ31.2 218 (by decide)) 25).trans g25_σ25
          exact ok_some ⟨hT, (show (TOK σ31.1 ∧ (σ0.1 218 11).toInt ≤ (σ31.1 218 11).toInt ∧ (σ31.1 218 14 = 0 → σ0.1 218 14 = 0 ∧ (σ0.1 218 11).toInt < (σ31.1 218 11).toInt) ∧ ZB σ31.1) ∧ (σ31.1 218 7 = σ0.1 218 7 ∧ σ31.1 218 9 = σ0.1 218 9 ∧ σ31.1 218 20 = σ0.1 218 20 ∧ σ31.1 218 22 = σ0.1 218 22 ∧ σ31.1 218 23 = σ0.1 218 23 ∧ σ31.1 218 24 = σ0.1 218 24 ∧ σ31.1 218 25 = σ0.1 218 25) from ⟨by first | exact ⟨hK, by (try simp only [g7_σ31, g9_σ31, g10_σ31, g11_σ31, g12_σ31, g13_σ31, g14_σ31, g15_σ31, g20_σ31, g22_σ31, g23_σ31, g24_σ31, g25_σ31]); omega, fun q => absurd q (by (try simp only [g7_σ31, g9_σ31, g10_σ31, g11_σ31, g12_σ31, g13_σ31, g14_σ31, g15_σ31, g20_σ31, g22_σ31, g23_σ31, g24_σ31, g25_σ31]); exact n57), hB⟩ | exact ⟨hK, by (try simp only [g7_σ31, g9_σ31, g10_σ31, g11_σ31, g12_σ31, g13_σ31, g14_σ31, g15_σ31, g20_σ31, g22_σ31, g23_σ31, g24_σ31, g25_σ31]); omega, fun _ => ⟨(u13 y57).1.1, by (try simp only [g7_σ31, g9_σ31, g10_σ31, g11_σ31, g12_σ31, g13_σ31, g14_σ31, g15_σ31, g20_σ31, g22_σ31, g23_σ31, g24_σ31, g25_σ31]); exact (u13 y57).1.2⟩, hB⟩ | exact ⟨hK, by (try simp only [g7_σ31, g9_σ31, g10_σ31, g11_σ31, g12_σ31, g13_σ31, g14_σ31, g15_σ31, g20_σ31, g22_σ31, g23_σ31, g24_σ31, g25_σ31]); omega, fun _ => ⟨y30 y38, by (try simp only [g7_σ31, g9_σ31, g10_σ31, g11_σ31, g12_σ31, g13_σ31, g14_σ31, g15_σ31, g20_σ31, g22_σ31, g23_σ31, g24_σ31, g25_σ31]); omega⟩, hB⟩ | exact absurd y57 n50 | exact absurd y57 n38, g7_σ31, g9_σ31, g20_σ31, g22_σ31, g23_σ31, g24_σ31, g25_σ31⟩)⟩
    · refine ok_gC rfl ?_
      refine ok_zbT (Q := fun V σ => (TOK σ.1 ∧ ¬ σ.1 218 14 = 0) ∧ (σ.1 218 7 = σ0.1 218 7 ∧ σ.1 218 9 = σ0.1 218 9 ∧ σ.1 218 10 = σ0.1 218 10 ∧ σ.1 218 11 = σ0.1 218 11 ∧ σ.1 218 12 = σ0.1 218 12 ∧ σ.1 218 13 = σ0.1 218 13 ∧ σ.1 218 20 = σ0.1 218 20 ∧ σ.1 218 22 = σ0.1 218 22 ∧ σ.1 218 23 = σ0.1 218 23 ∧ σ.1 218 24 = σ0.1 218 24 ∧ σ.1 218 25 = σ0.1 218 25)) hT (s_X12_errs hN (hR.tr hT) (hK) (by rw [hT.2 224 (by decide)]; exact hY) (by decide)) (by decide) (fun v32 σ33 hOσ33 hT hqv32 => ?_)
      have hqv32 : (TOK σ33.1 ∧ ¬ σ33.1 218 14 = 0) ∧ (σ33.1 218 7 = σ0.1 218 7 ∧ σ33.1 218 9 = σ0.1 218 9 ∧ σ33.1 218 10 = σ0.1 218 10 ∧ σ33.1 218 11 = σ0.1 218 11 ∧ σ33.1 218 12 = σ0.1 218 12 ∧ σ33.1 218 13 = σ0.1 218 13 ∧ σ33.1 218 20 = σ0.1 218 20 ∧ σ33.1 218 22 = σ0.1 218 22 ∧ σ33.1 218 23 = σ0.1 218 23 ∧ σ33.1 218 24 = σ0.1 218 24 ∧ σ33.1 218 25 = σ0.1 218 25) := hqv32
      have hkv32 := hqv32
      have hqv32 := hqv32.1
      have hK : TOK σ33.1 := by first | exact hqv32.1 | exact TOK_p eσ33 (by decide) hK
      have hB : ZB σ33.1 := ZB.tr hOσ33 (by decide) hB
      have g7_σ33 : σ33.1 218 7 = (σ0.1 218 7) := hkv32.2.1
      have g9_σ33 : σ33.1 218 9 = (σ0.1 218 9) := hkv32.2.2.1
      have g10_σ33 : σ33.1 218 10 = (σ0.1 218 10) := hkv32.2.2.2.1
      have g11_σ33 : σ33.1 218 11 = (σ0.1 218 11) := hkv32.2.2.2.2.1
      have g12_σ33 : σ33.1 218 12 = (σ0.1 218 12) := hkv32.2.2.2.2.2.1
      have g13_σ33 : σ33.1 218 13 = (σ0.1 218 13) := hkv32.2.2.2.2.2.2.1
      have g20_σ33 : σ33.1 218 20 = (σ0.1 218 20) := hkv32.2.2.2.2.2.2.2.1
      have g22_σ33 : σ33.1 218 22 = (σ0.1 218 22) := hkv32.2.2.2.2.2.2.2.2.1
      have g23_σ33 : σ33.1 218 23 = (σ0.1 218 23) := hkv32.2.2.2.2.2.2.2.2.2.1
      have g24_σ33 : σ33.1 218 24 = (σ0.1 218 24) := hkv32.2.2.2.2.2.2.2.2.2.2.1
      have g25_σ33 : σ33.1 218 25 = (σ0.1 218 25) := hkv32.2.2.2.2.2.2.2.2.2.2.2
      have n50 := hqv32.2
      rw [J_X12_readsSet_53.eq_1]
      refine ok_gC rfl ?_
      refine ok_zbX (Q := fun V => (V = 0 → ¬ σ33.1 218 14 = 0) ∧ (¬ V = 0 → σ33.1 218 14 = 0)) (x_X12_good) (fun v34 hqv34 => ?_)
      have hqv34 : (v34 = 0 → ¬ σ33.1 218 14 = 0) ∧ (¬ v34 = 0 → σ33.1 218 14 = 0) := hqv34
      try simp only [g7_σ33, g9_σ33, g10_σ33, g11_σ33, g12_σ33, g13_σ33, g20_σ33, g22_σ33, g23_σ33, g24_σ33, g25_σ33, hT.2 224 (by decide)] at hqv34
      refine ok_if (fun hc36 => ?_) (fun hc36 => ?_)
      · have qhc36 := hqv34.1 hc36
        have n57 := qhc36
        exact ok_some ⟨hT, (show (TOK σ33.1 ∧ (σ0.1 218 11).toInt ≤ (σ33.1 218 11).toInt ∧ (σ33.1 218 14 = 0 → σ0.1 218 14 = 0 ∧ (σ0.1 218 11).toInt < (σ33.1 218 11).toInt) ∧ ZB σ33.1) ∧ (σ33.1 218 7 = σ0.1 218 7 ∧ σ33.1 218 9 = σ0.1 218 9 ∧ σ33.1 218 20 = σ0.1 218 20 ∧ σ33.1 218 22 = σ0.1 218 22 ∧ σ33.1 218 23 = σ0.1 218 23 ∧ σ33.1 218 24 = σ0.1 218 24 ∧ σ33.1 218 25 = σ0.1 218 25) from ⟨by first | exact ⟨hK, by (try simp only [g7_σ33, g9_σ33, g10_σ33, g11_σ33, g12_σ33, g13_σ33, g20_σ33, g22_σ33, g23_σ33, g24_σ33, g25_σ33]); omega, fun q => absurd q (by (try simp only [g7_σ33, g9_σ33, g10_σ33, g11_σ33, g12_σ33, g13_σ33, g20_σ33, g22_σ33, g23_σ33, g24_σ33, g25_σ33]); exact n57), hB⟩ | exact ⟨hK, by (try simp only [g7_σ33, g9_σ33, g10_σ33, g11_σ33, g12_σ33, g13_σ33, g20_σ33, g22_σ33, g23_σ33, g24_σ33, g25_σ33]); omega, fun _ => ⟨(u13 y57).1.1, by (try simp only [g7_σ33, g9_σ33, g10_σ33, g11_σ33, g12_σ33, g13_σ33, g20_σ33, g22_σ33, g23_σ33, g24_σ33, g25_σ33]); exact (u13 y57).1.2⟩, hB⟩ | exact ⟨hK, by (try simp only [g7_σ33, g9_σ33, g10_σ33, g11_σ33, g12_σ33, g13_σ33, g20_σ33, g22_σ33, g23_σ33, g24_σ33, g25_σ33]); omega, fun _ => ⟨y30 y38, by (try simp only [g7_σ33, g9_σ33, g10_σ33, g11_σ33, g12_σ33, g13_σ33, g20_σ33, g22_σ33, g23_σ33, g24_σ33, g25_σ33]); omega⟩, hB⟩ | exact absurd y57 n50 | exact absurd y57 n38, g7_σ33, g9_σ33, g20_σ33, g22_σ33, g23_σ33, g24_σ33, g25_σ33⟩)⟩
      · have qhc36 := hqv34.2 hc36
        have y57 := qhc36
        refine ok_gR (v := 226) hT rfl (hR 218 16 rfl) ?_
        refine ok_gIv rfl g23_σ33 ?_
        refine ok_s16 hT rfl (by decide) (by rw [ti_add, m1]; first | omega | (simp only [Int32.reduceToInt]; omega)) (by rw [ti_add, m1]; first | omega | (simp only [Int32.reduceToInt]; omega)) (fun σ39 eσ39 hOσ39 hT => ?_)
        have hK : TOK σ39.1 := TOK_tr hOσ39 (by decide) (by decide) hK
        have hB : ZB σ39.1 := ZB_s eσ39 hB
        have g7_σ39 : σ39.1 218 7 = (σ0.1 218 7) := (congrFun (hOσ39.2 218 (by decide)) 7).trans g7_σ33
        have g9_σ39 : σ39.1 218 9 = (σ0.1 218 9) := (congrFun (hOσ39.2 218 (by decide)) 9).trans g9_σ33
        have g10_σ39 : σ39.1 218 10 = (σ0.1 218 10) := (congrFun (hOσ39.2 218 (by decide)) 10).trans g10_σ33
        have g11_σ39 : σ39.1 218 11 = (σ0.1 218 11) := (congrFun (hOσ39.2 218 (by decide)) 11).trans g11_σ33
        have g12_σ39 : σ39.1 218 12 = (σ0.1 218 12) := (congrFun (hOσ39.2 218 (by decide)) 12).trans g12_σ33
        have g13_σ39 : σ39.1 218 13 = (σ0.1 218 13) := (congrFun (hOσ39.2 218 (by decide)) 13).trans g13_σ33
        have g14_σ39 : σ39.1 218 14 = (σ33.1 218 14) := congrFun (hOσ39.2 218 (by decide)) 14
        have g15_σ39 : σ39.1 218 15 = (σ33.1 218 15) := congrFun (hOσ39.2 218 (by decide)) 15
        have g20_σ39 : σ39.1 218 20 = (σ0.1 218 20) := (congrFun (hOσ39.2 218 (by decide)) 20).trans g20_σ33
        have g22_σ39 : σ39.1 218 22 = (σ0.1 218 22) := (congrFun (hOσ39.2 218 (by decide)) 22).trans g22_σ33
        have g23_σ39 : σ39.1 218 23 = (σ0.1 218 23) := (congrFun (hOσ39.2 218 (by decide)) 23).trans g23_σ33
        have g24_σ39 : σ39.1 218 24 = (σ0.1 218 24) := (congrFun (hOσ39.2 218 (by decide)) 24).trans g24_σ33
        have g25_σ39 : σ39.1 218 25 = (σ0.1 218 25) := (congrFun (hOσ39.2 218 (by decide)) 25).trans g25_σ33
        exact ok_some ⟨hT, (show (TOK σ39.1 ∧ (σ0.1 218 11).toInt ≤ (σ39.1 218 11).toInt ∧ (σ39.1 218 14 = 0 → σ0.1 218 14 = 0 ∧ (σ0.1 218 11).toInt < (σ39.1 218 11).toInt) ∧ ZB σ39.1) ∧ (σ39.1 218 7 = σ0.1 218 7 ∧ σ39.1 218 9 = σ0.1 218 9 ∧ σ39.1 218 20 = σ0.1 218 20 ∧ σ39.1 218 22 = σ0.1 218 22 ∧ σ39.1 218 23 = σ0.1 218 23 ∧ σ39.1 218 24 = σ0.1 218 24 ∧ σ39.1 218 25 = σ0.1 218 25) from ⟨by first | exact ⟨hK, by (try simp only [g7_σ39, g9_σ39, g10_σ39, g11_σ39, g12_σ39, g13_σ39, g14_σ39, g15_σ39, g20_σ39, g22_σ39, g23_σ39, g24_σ39, g25_σ39]); omega, fun q => absurd q (by (try simp only [g7_σ39, g9_σ39, g10_σ39, g11_σ39, g12_σ39, g13_σ39, g14_σ39, g15_σ39, g20_σ39, g22_σ39, g23_σ39, g24_σ39, g25_σ39]); exact n57), hB⟩ | exact ⟨hK, by (try simp only [g7_σ39, g9_σ39, g10_σ39, g11_σ39, g12_σ39, g13_σ39, g14_σ39, g15_σ39, g20_σ39, g22_σ39, g23_σ39, g24_σ39, g25_σ39]); omega, fun _ => ⟨(u13 y57).1.1, by (try simp only [g7_σ39, g9_σ39, g10_σ39, g11_σ39, g12_σ39, g13_σ39, g14_σ39, g15_σ39, g20_σ39, g22_σ39, g23_σ39, g24_σ39, g25_σ39]); exact (u13 y57).1.2⟩, hB⟩ | exact ⟨hK, by (try simp only [g7_σ39, g9_σ39, g10_σ39, g11_σ39, g12_σ39, g13_σ39, g14_σ39, g15_σ39, g20_σ39, g22_σ39, g23_σ39, g24_σ39, g25_σ39]); omega, fun _ => ⟨y30 y38, by (try simp only [g7_σ39, g9_σ39, g10_σ39, g11_σ39, g12_σ39, g13_σ39, g14_σ39, g15_σ39, g20_σ39, g22_σ39, g23_σ39, g24_σ39, g25_σ39]); omega⟩, hB⟩ | exact absurd y57 n50 | exact absurd y57 n38, g7_σ39, g9_σ39, g20_σ39, g22_σ39, g23_σ39, g24_σ39, g25_σ39⟩)⟩

set_option maxHeartbeats 4000000 in
set_option maxRecDepth 100000 in
theorem s_X12_pushesEmpty {N : Nat} (hN : 1048576 ≤ N)  {σ0 : zS}  (hR : RF σ0.2.2) (hK : TOK σ0.1) (hY : BYT (σ0.1 224)) (hB : ZB σ0.1) (hp : 0 ≤ (σ0.1 218 23).toInt ∧ (σ0.1 218 23).toInt ≤ 17) : Ok (f_X12_pushesEmpty N 218 σ0) (fun r => Tr [218, 226] σ0 r.2 ∧ ((TOK r.2.1 ∧ ZB r.2.1 ∧ r.2.1 218 23 = σ0.1 218 23 + 1) ∧ (r.2.1 218 7 = σ0.1 218 7 ∧ r.2.1 218 9 = σ0.1 218 9 ∧ r.2.1 218 10 = σ0.1 218 10 ∧ r.2.1 218 11 = σ0.1 218 11 ∧ r.2.1 218 12 = σ0.1 218 12 ∧ r.2.1 218 13 = σ0.1 218 13 ∧ r.2.1 218 14 = σ0.1 218 14 ∧ r.2.1 218 15 = σ0.1 218 15 ∧ r.2.1 218 20 = σ0.1 218 20 ∧ r.2.1 218 22 = σ0.1 218 22 ∧ r.2.1 218 24 = σ0.1 218 24 ∧ r.2.1 218 25 = σ0.1 218 25))) := by
  have hT : Tr [218, 226] σ0 σ0 := Tr.rf
  have hK1 := hK.1
  have m1 := p1024 (p := σ0.1 218 23) rfl hp.1 hp.2
  rw [f_X12_pushesEmpty.eq_1]
  refine ok_lp (fun t : Int32 × zS => Tr [218, 226] σ0 (t.2) ∧ (0 ≤ (t.1).toInt) ∧ (TOK (t.2).1) ∧ (ZB (t.2).1) ∧ ((t.2).1 218 7 = (σ0.1 218 7)) ∧ ((t.2).1 218 9 = (σ0.1 218 9)) ∧ ((t.2).1 218 10 = (σ0.1 218 10)) ∧ ((t.2).1 218 11 = (σ0.1 218 11)) ∧ ((t.2).1 218 12 = (σ0.1 218 12)) ∧ ((t.2).1 218 13 = (σ0.1 218 13)) ∧ ((t.2).1 218 14 = (σ0.1 218 14)) ∧ ((t.2).1 218 15 = (σ0.1 218 15)) ∧ ((t.2).1 218 20 = (σ0.1 218 20)) ∧ ((t.2).1 218 22 = (σ0.1 218 22)) ∧ ((t.2).1 218 23 = (σ0.1 218 23)) ∧ ((t.2).1 218 24 = (σ0.1 218 24)) ∧ ((t.2).1 218 25 = (σ0.1 218 25))) (fun t : Int32 × zS => (1024 - (t.1).toInt).toNat) (fun again1 t hI ih2_1 => ?_) N _ (show Tr [218, 226] σ0 σ0 ∧ (0 ≤ (0 : Int32).toInt) ∧ (TOK σ0.1) ∧ (ZB σ0.1) ∧ (σ0.1 218 7 = (σ0.1 218 7)) ∧ (σ0.1 218 9 = (σ0.1 218 9)) ∧ (σ0.1 218 10 = (σ0.1 218 10)) ∧ (σ0.1 218 11 = (σ0.1 218 11)) ∧ (σ0.1 218 12 = (σ0.1 218 12)) ∧ (σ0.1 218 13 = (σ0.1 218 13)) ∧ (σ0.1 218 14 = (σ0.1 218 14)) ∧ (σ0.1 218 15 = (σ0.1 218 15)) ∧ (σ0.1 218 20 = (σ0.1 218 20)) ∧ (σ0.1 218 22 = (σ0.1 218 22)) ∧ (σ0.1 218 23 = (σ0.1 218 23)) ∧ (σ0.1 218 24 = (σ0.1 218 24)) ∧ (σ0.1 218 25 = (σ0.1 218 25)) from ⟨hT, (by decide), hK, hB, rfl, rfl, rfl, rfl, rfl, rfl, rfl, rfl, rfl, rfl, rfl, rfl, rfl⟩) (show (1024 - (0 : Int32).toInt).toNat < N from (by simp only [Int32.reduceToInt]; omega))
  obtain ⟨x1_1, σ1⟩ := t
  have hI : Tr [218, 226] σ0 σ1 ∧ (0 ≤ x1_1.toInt) ∧ (TOK σ1.1) ∧ (ZB σ1.1) ∧ (σ1.1 218 7 = (σ0.1 218 7)) ∧ (σ1.1 218 9 = (σ0.1 218 9)) ∧ (σ1.1 218 10 = (σ0.1 218 10)) ∧ (σ1.1 218 11 = (σ0.1 218 11)) ∧ (σ1.1 218 12 = (σ0.1 218 12)) ∧ (σ1.1 218 13 = (σ0.1 218 13)) ∧ (σ1.1 218 14 = (σ0.1 218 14)) ∧ (σ1.1 218 15 = (σ0.1 218 15)) ∧ (σ1.1 218 20 = (σ0.1 218 20)) ∧ (σ1.1 218 22 = (σ0.1 218 22)) ∧ (σ1.1 218 23 = (σ0.1 218 23)) ∧ (σ1.1 218 24 = (σ0.1 218 24)) ∧ (σ1.1 218 25 = (σ0.1 218 25)) := hI
  obtain ⟨hT, hI1, hK, hB, g7_σ1, g9_σ1, g10_σ1, g11_σ1, g12_σ1, g13_σ1, g14_σ1, g15_σ1, g20_σ1, g22_σ1, g23_σ1, g24_σ1, g25_σ1⟩ := hI
  rw [F_X12_pushesEmpty_2.eq_1]
  refine ok_if (fun hc2 => ?_) (fun hc2 => ?_)
  · refine ok_gIv rfl g23_σ1 ?_
    refine ok_pI hT rfl (by decide) (fun σ4 eσ4 hOσ4 hT => ?_)
    have hK : TOK σ4.1 := by first | exact HQ.1 | exact TOK_p eσ4 (by decide) hK
    have hB : ZB σ4.1 := ZB.tr hOσ4 (by decide) hB
    have g7_σ4 : σ4.1 218 7 = (σ0.1 218 7) := (zI_atN eσ4 (by decide)).trans g7_σ1
    have g9_σ4 : σ4.1 218 9 = (σ0.1 218 9) := (zI_atN eσ4 (by decide)).trans g9_σ1
    have g10_σ4 : σ4.1 218 10 = (σ0.1 218 10) := (zI_atN eσ4 (by decide)).trans g10_σ1
    have g11_σ4 : σ4.1 218 11 = (σ0.1 218 11) := (zI_atN eσ4 (by decide)).trans g11_σ1
    have g12_σ4 : σ4.1 218 12 = (σ0.1 218 12) := (zI_atN eσ4 (by decide)).trans g12_σ1
    have g13_σ4 : σ4.1 218 13 = (σ0.1 218 13) := (zI_atN eσ4 (by decide)).trans g13_σ1
    have g14_σ4 : σ4.1 218 14 = (σ0.1 218 14) := (zI_atN eσ4 (by decide)).trans g14_σ1
    have g15_σ4 : σ4.1 218 15 = (σ0.1 218 15) := (zI_atN eσ4 (by decide)).trans g15_σ1
    have g20_σ4 : σ4.1 218 20 = (σ0.1 218 20) := (zI_atN eσ4 (by decide)).trans g20_σ1
    have g22_σ4 : σ4.1 218 22 = (σ0.1 218 22) := (zI_atN eσ4 (by decide)).trans g22_σ1
    have g23_σ4 : σ4.1 218 23 = ((σ0.1 218 23) + 1) := zI_atI eσ4
    have g24_σ4 : σ4.1 218 24 = (σ0.1 218 24) := (zI_atN eσ4 (by decide)).trans g24_σ1
    have g25_σ4 : σ4.1 218 25 = (σ0.1 218 25) := (zI_atN eσ4 (by decide)).trans g25_σ1
    exact ok_some ⟨hT, (show (TOK σ4.1 ∧ ZB σ4.1 ∧ σ4.1 218 23 = σ0.1 218 23 + 1) ∧ (σ4.1 218 7 = σ0.1 218 7 ∧ σ4.1 218 9 = σ0.1 218 9 ∧ σ4.1 218 10 = σ0.1 218 10 ∧ σ4.1 218 11 = σ0.1 218 11 ∧ σ4.1 218 12 = σ0.1 218 12 ∧ σ4.1 218 13 = σ0.1 218 13 ∧ σ4.1 218 14 = σ0.1 218 14 ∧ σ4.1 218 15 = σ0.1 218 15 ∧ σ4.1 218 20 = σ0.1 218 20 ∧ σ4.1 218 22 = σ0.1 218 22 ∧ σ4.1 218 24 = σ0.1 218 24 ∧ σ4.1 218 25 = σ0.1 218 25) from ⟨by exact ⟨hK, hB, g23_σ4⟩, g7_σ4, g9_σ4, g10_σ4, g11_σ4, g12_σ4, g13_σ4, g14_σ4, g15_σ4, g20_σ4, g22_σ4, g24_σ4, g25_σ4⟩)⟩
  · have l6 := hc2
    rw [Int32.le_iff_toInt_le] at l6
    simp only [Int32.reduceToInt] at l6
    have s6 : (x1_1 + 1).toInt = x1_1.toInt + 1 := by rw [ti_add]; simp only [Int32.reduceToInt]; omega
    refine ok_gR (v := 226) hT rfl (hR 218 16 rfl) ?_
    refine ok_gIv rfl g23_σ1 ?_
    refine ok_s16 hT rfl (by decide) (by rw [ti_add, m1]; omega) (by rw [ti_add, m1]; omega) (fun σ7 eσ7 hOσ7 hT => ?_)
    have hK : TOK σ7.1 := TOK_tr hOσ7 (by decide) (by decide) hK
    have hB : ZB σ7.1 := ZB_s eσ7 hB
    have g7_σ7 : σ7.1 218 7 = (σ0.1 218 7) := (congrFun (hOσ7.2 218 (by decide)) 7).trans g7_σ1
    have g9_σ7 : σ7.1 218 9 = (σ0.1 218 9) := (congrFun (hOσ7.2 218 (by decide)) 9).trans g9_σ1
    have g10_σ7 : σ7.1 218 10 = (σ0.1 218 10) := (congrFun (hOσ7.2 218 (by decide)) 10).trans g10_σ1
    have g11_σ7 : σ7.1 218 11 = (σ0.1 218 11) := (congrFun (hOσ7.2 218 (by decide)) 11).trans g11_σ1
    have g12_σ7 : σ7.1 218 12 = (σ0.1 218 12) := (congrFun (hOσ7.2 218 (by decide)) 12).trans g12_σ1
    have g13_σ7 : σ7.1 218 13 = (σ0.1 218 13) := (congrFun (hOσ7.2 218 (by decide)) 13).trans g13_σ1
    have g14_σ7 : σ7.1 218 14 = (σ0.1 218 14) := (congrFun (hOσ7.2 218 (by decide)) 14).trans g14_σ1
    have g15_σ7 : σ7.1 218 15 = (σ0.1 218 15) := (congrFun (hOσ7.2 218 (by decide)) 15).trans g15_σ1
    have g20_σ7 : σ7.1 218 20 = (σ0.1 218 20) := (congrFun (hOσ7.2 218 (by decide)) 20).trans g20_σ1
    have g22_σ7 : σ7.1 218 22 = (σ0.1 218 22) := (congrFun (hOσ7.2 218 (by decide)) 22).trans g22_σ1
    have g23_σ7 : σ7.1 218 23 = (σ0.1 218 23) := (congrFun (hOσ7.2 218 (by decide)) 23).trans g23_σ1
    have g24_σ7 : σ7.1 218 24 = (σ0.1 218 24) := (congrFun (hOσ7.2 218 (by decide)) 24).trans g24_σ1
    have g25_σ7 : σ7.1 218 25 = (σ0.1 218 25) := (congrFun (hOσ7.2 218 (by decide)) 25).trans g25_σ1
    exact ih2_1 (x1_1 + 1, σ7) (show Tr [218, 226] σ0 σ7 ∧ (0 ≤ (x1_1 + 1).toInt) ∧ (TOK σ7.1) ∧ (ZB σ7.1) ∧ (σ7.1 218 7 = (σ0.1 218 7)) ∧ (σ7.1 218 9 = (σ0.1 218 9)) ∧ (σ7.1 218 10 = (σ0.1 218 10)) ∧ (σ7.1 218 11 = (σ0.1 218 11)) ∧ (σ7.1 218 12 = (σ0.1 218 12)) ∧ (σ7.1 218 13 = (σ0.1 218 13)) ∧ (σ7.1 218 14 = (σ0.1 218 14)) ∧ (σ7.1 218 15 = (σ0.1 218 15)) ∧ (σ7.1 218 20 = (σ0.1 218 20)) ∧ (σ7.1 218 22 = (σ0.1 218 22)) ∧ (σ7.1 218 23 = (σ0.1 218 23)) ∧ (σ7.1 218 24 = (σ0.1 218 24)) ∧ (σ7.1 218 25 = (σ0.1 218 25)) from ⟨hT, (by rw [s6]; omega), hK, hB, g7_σ7, g9_σ7, g10_σ7, g11_σ7, g12_σ7, g13_σ7, g14_σ7, g15_σ7, g20_σ7, g22_σ7, g23_σ7, g24_σ7, g25_σ7⟩) (show (1024 - (x1_1 + 1).toInt).toNat < (1024 - x1_1.toInt).toNat from (by rw [s6]; omega))

set_option maxHeartbeats 4000000 in
set_option maxRecDepth 100000 in
theorem s_X12_readsSets {N : Nat} (hN : 1048576 ≤ N) {x1 : Int32} {σ0 : zS}  (hR : RF σ0.2.2) (hK : TOK σ0.1) (hY : BYT (σ0.1 224)) (hB : ZB σ0.1) (hn : 0 ≤ x1.toInt ∧ x1.toInt ≤ 10) (hp : 0 ≤ (σ0.1 218 23).toInt ∧ (σ0.1 218 23).toInt ≤ 17) (h12 : ¬ σ0.1 218 12 = 0) : Ok (f_X12_readsSets N 218 x1 σ0) (fun r => Tr [218, 226] σ0 r.2 ∧ ((TOK r.2.1 ∧ (σ0.1 218 11).toInt ≤ (r.2.1 218 11).toInt ∧ (r.2.1 218 14 = 0 → σ0.1 218 14 = 0 ∧ (σ0.1 218 11).toInt < (r.2.1 218 11).toInt) ∧ ZB r.2.1 ∧ r.2.1 218 23 = σ0.1 218 23 + 1) ∧ (r.2.1 218 7 = σ0.1 218 7 ∧ r.2.1 218 9 = σ0.1 218 9 ∧ r.2.1 218 20 = σ0.1 218 20 ∧ r.2.1 218 22 = σ0.1 218 22 ∧ r.2.1 218 24 = σ0.1 218 24 ∧ r.2.1 218 25 = σ0.1 218 25))) := by
  have hT : Tr [218, 226] σ0 σ0 := Tr.rf
  have hK1 := hK.1
  have l12 := hK.2.1 h12
  rw [f_X12_readsSets.eq_1]
  refine ok_gC rfl ?_
  refine ok_zbT (Q := fun V σ => (TOK σ.1 ∧ (σ0.1 218 10).toInt ≤ (σ.1 218 11).toInt) ∧ (σ.1 218 7 = σ0.1 218 7 ∧ σ.1 218 9 = σ0.1 218 9 ∧ σ.1 218 14 = σ0.1 218 14 ∧ σ.1 218 15 = σ0.1 218 15 ∧ σ.1 218 20 = σ0.1 218 20 ∧ σ.1 218 22 = σ0.1 218 22 ∧ σ.1 218 23 = σ0.1 218 23 ∧ σ.1 218 24 = σ0.1 218 24 ∧ σ.1 218 25 = σ0.1 218 25)) hT (s_X12_advance hN (hR.tr hT) (TOK_A hK) (by rw [hT.2 224 (by decide)]; exact hY)) (by decide) (fun v1 σ2 hOσ2 hT hqv1 => ?_)
  have hqv1 : (TOK σ2.1 ∧ (σ0.1 218 10).toInt ≤ (σ2.1 218 11).toInt) ∧ (σ2.1 218 7 = σ0.1 218 7 ∧ σ2.1 218 9 = σ0.1 218 9 ∧ σ2.1 218 14 = σ0.1 218 14 ∧ σ2.1 218 15 = σ0.1 218 15 ∧ σ2.1 218 20 = σ0.1 218 20 ∧ σ2.1 218 22 = σ0.1 218 22 ∧ σ2.1 218 23 = σ0.1 218 23 ∧ σ2.1 218 24 = σ0.1 218 24 ∧ σ2.1 218 25 = σ0.1 218 25) := hqv1
  have hkv1 := hqv1
  have hqv1 := hqv1.1
  have hK : TOK σ2.1 := by first | exact hqv1.1 | exact TOK_p eσ2 (by decide) hK
  have hB : ZB σ2.1 := ZB.tr hOσ2 (by decide) hB
  have g7_σ2 : σ2.1 218 7 = (σ0.1 218 7) := hkv1.2.1
  have g9_σ2 : σ2.1 218 9 = (σ0.1 218 9) := hkv1.2.2.1
  have g14_σ2 : σ2.1 218 14 = (σ0.1 218 14) := hkv1.2.2.2.1
  have g15_σ2 : σ2.1 218 15 = (σ0.1 218 15) := hkv1.2.2.2.2.1
  have g20_σ2 : σ2.1 218 20 = (σ0.1 218 20) := hkv1.2.2.2.2.2.1
  have g22_σ2 : σ2.1 218 22 = (σ0.1 218 22) := hkv1.2.2.2.2.2.2.1
  have g23_σ2 : σ2.1 218 23 = (σ0.1 218 23) := hkv1.2.2.2.2.2.2.2.1
  have g24_σ2 : σ2.1 218 24 = (σ0.1 218 24) := hkv1.2.2.2.2.2.2.2.2.1
  have g25_σ2 : σ2.1 218 25 = (σ0.1 218 25) := hkv1.2.2.2.2.2.2.2.2.2
  have m1 := hqv1.2
  refine ok_gC rfl ?_
  refine ok_zbT (Q := fun V σ => (TOK σ.1 ∧ ZB σ.1 ∧ σ.1 218 23 = σ2.1 218 23 + 1) ∧ (σ.1 218 7 = σ2.1 218 7 ∧ σ.1 218 9 = σ2.1 218 9 ∧ σ.1 218 10 = σ2.1 218 10 ∧ σ.1 218 11 = σ2.1 218 11 ∧ σ.1 218 12 = σ2.1 218 12 ∧ σ.1 218 13 = σ2.1 218 13 ∧ σ.1 218 14 = σ2.1 218 14 ∧ σ.1 218 15 = σ2.1 218 15 ∧ σ.1 218 20 = σ2.1 218 20 ∧ σ.1 218 22 = σ2.1 218 22 ∧ σ.1 218 24 = σ2.1 218 24 ∧ σ.1 218 25 = σ2.1 218 25)) hT (s_X12_pushesEmpty hN (hR.tr hT) (hK) (by rw [hT.2 224 (by decide)]; exact hY) (hB) (by (try simp only [g7_σ2, g9_σ2, g14_σ2, g15_σ2, g20_σ2, g22_σ2, g23_σ2, g24_σ2, g25_σ2]); exact hp)) (by decide) (fun v3 σ4 hOσ4 hT hqv3 => ?_)
  have hqv3 : (TOK σ4.1 ∧ ZB σ4.1 ∧ σ4.1 218 23 = σ2.1 218 23 + 1) ∧ (σ4.1 218 7 = σ2.1 218 7 ∧ σ4.1 218 9 = σ2.1 218 9 ∧ σ4.1 218 10 = σ2.1 218 10 ∧ σ4.1 218 11 = σ2.1 218 11 ∧ σ4.1 218 12 = σ2.1 218 12 ∧ σ4.1 218 13 = σ2.1 218 13 ∧ σ4.1 218 14 = σ2.1 218 14 ∧ σ4.1 218 15 = σ2.1 218 15 ∧ σ4.1 218 20 = σ2.1 218 20 ∧ σ4.1 218 22 = σ2.1 218 22 ∧ σ4.1 218 24 = σ2.1 218 24 ∧ σ4.1 218 25 = σ2.1 218 25) := hqv3
  have hkv3 := hqv3
  have hqv3 := hqv3.1
  have hK : TOK σ4.1 := by first | exact hqv3.1 | exact TOK_p eσ4 (by decide) hK
  have hB : ZB σ4.1 := by first | exact hqv3.2.1 | exact hqv3.2.2.2
  try simp only [g7_σ2, g9_σ2, g14_σ2, g15_σ2, g20_σ2, g22_σ2, g23_σ2, g24_σ2, g25_σ2] at hqv3
  have g7_σ4 : σ4.1 218 7 = (σ0.1 218 7) := (hkv3.2.1).trans g7_σ2
  have g9_σ4 : σ4.1 218 9 = (σ0.1 218 9) := (hkv3.2.2.1).trans g9_σ2
  have g10_σ4 : σ4.1 218 10 = (σ2.1 218 10) := hkv3.2.2.2.1
  have g11_σ4 : σ4.1 218 11 = (σ2.1 218 11) := hkv3.2.2.2.2.1
  have g12_σ4 : σ4.1 218 12 = (σ2.1 218 12) := hkv3.2.2.2.2.2.1
  have g13_σ4 : σ4.1 218 13 = (σ2.1 218 13) := hkv3.2.2.2.2.2.2.1
  have g14_σ4 : σ4.1 218 14 = (σ0.1 218 14) := (hkv3.2.2.2.2.2.2.2.1).trans g14_σ2
  have g15_σ4 : σ4.1 218 15 = (σ0.1 218 15) := (hkv3.2.2.2.2.2.2.2.2.1).trans g15_σ2
  have g20_σ4 : σ4.1 218 20 = (σ0.1 218 20) := (hkv3.2.2.2.2.2.2.2.2.2.1).trans g20_σ2
  have g22_σ4 : σ4.1 218 22 = (σ0.1 218 22) := (hkv3.2.2.2.2.2.2.2.2.2.2.1).trans g22_σ2
  have g24_σ4 : σ4.1 218 24 = (σ0.1 218 24) := (hkv3.2.2.2.2.2.2.2.2.2.2.2.1).trans g24_σ2
  have g25_σ4 : σ4.1 218 25 = (σ0.1 218 25) := (hkv3.2.2.2.2.2.2.2.2.2.2.2.2).trans g25_σ2
  have g5 := hqv3.2.2
  have s5 : (σ4.1 218 23).toInt = (σ0.1 218 23).toInt + 1 := by rw [g5, ti_add]; simp only [Int32.reduceToInt]; omega
  refine ok_gIv rfl g12_σ4 ?_
  refine ok_if (fun hc6 => ?_) (fun hc6 => ?_)
  · refine ok_gC rfl ?_
    refine ok_zbT (Q := fun V σ => (TOK σ.1 ∧ (σ4.1 218 11).toInt ≤ (σ.1 218 11).toInt ∧ (σ.1 218 14 = 0 → σ4.1 218 14 = 0 ∧ (σ4.1 218 11).toInt < (σ.1 218 11).toInt)) ∧ (σ.1 218 7 = σ4.1 218 7 ∧ σ.1 218 9 = σ4.1 218 9 ∧ σ.1 218 20 = σ4.1 218 20 ∧ σ.1 218 22 = σ4.1 218 22 ∧ σ.1 218 23 = σ4.1 218 23 ∧ σ.1 218 24 = σ4.1 218 24 ∧ σ.1 218 25 = σ4.1 218 25)) hT (s_X12_needsSign hN (hR.tr hT) (hK) (by rw [hT.2 224 (by decide)]; exact hY) (by decide)) (by decide) (fun v7 σ8 hOσ8 hT hqv7 => ?_)
    have hqv7 : (TOK σ8.1 ∧ (σ4.1 218 11).toInt ≤ (σ8.1 218 11).toInt ∧ (σ8.1 218 14 = 0 → σ4.1 218 14 = 0 ∧ (σ4.1 218 11).toInt < (σ8.1 218 11).toInt)) ∧ (σ8.1 218 7 = σ4.1 218 7 ∧ σ8.1 218 9 = σ4.1 218 9 ∧ σ8.1 218 20 = σ4.1 218 20 ∧ σ8.1 218 22 = σ4.1 218 22 ∧ σ8.1 218 23 = σ4.1 218 23 ∧ σ8.1 218 24 = σ4.1 218 24 ∧ σ8.1 218 25 = σ4.1 218 25) := hqv7
    have hkv7 := hqv7
    have hqv7 := hqv7.1
    have hK : TOK σ8.1 := by first | exact hqv7.1 | exact TOK_p eσ8 (by decide) hK
    have hB : ZB σ8.1 := ZB.tr hOσ8 (by decide) hB
    try simp only [g7_σ4, g9_σ4, g10_σ4, g11_σ4, g12_σ4, g13_σ4, g14_σ4, g15_σ4, g20_σ4, g22_σ4, g24_σ4, g25_σ4] at hqv7
    have g7_σ8 : σ8.1 218 7 = (σ0.1 218 7) := (hkv7.2.1).trans g7_σ4
    have g9_σ8 : σ8.1 218 9 = (σ0.1 218 9) := (hkv7.2.2.1).trans g9_σ4
    have g20_σ8 : σ8.1 218 20 = (σ0.1 218 20) := (hkv7.2.2.2.1).trans g20_σ4
    have g22_σ8 : σ8.1 218 22 = (σ0.1 218 22) := (hkv7.2.2.2.2.1).trans g22_σ4
    have g23_σ8 : σ8.1 218 23 = (σ4.1 218 23) := hkv7.2.2.2.2.2.1
    have g24_σ8 : σ8.1 218 24 = (σ0.1 218 24) := (hkv7.2.2.2.2.2.2.1).trans g24_σ4
    have g25_σ8 : σ8.1 218 25 = (σ0.1 218 25) := (hkv7.2.2.2.2.2.2.2).trans g25_σ4
    have m53 := hqv7.2.1
    have u53 := hqv7.2.2
    exact ok_some ⟨hT, (show (TOK σ8.1 ∧ (σ0.1 218 11).toInt ≤ (σ8.1 218 11).toInt ∧ (σ8.1 218 14 = 0 → σ0.1 218 14 = 0 ∧ (σ0.1 218 11).toInt < (σ8.1 218 11).toInt) ∧ ZB σ8.1 ∧ σ8.1 218 23 = σ0.1 218 23 + 1) ∧ (σ8.1 218 7 = σ0.1 218 7 ∧ σ8.1 218 9 = σ0.1 218 9 ∧ σ8.1 218 20 = σ0.1 218 20 ∧ σ8.1 218 22 = σ0.1 218 22 ∧ σ8.1 218 24 = σ0.1 218 24 ∧ σ8.1 218 25 = σ0.1 218 25) from ⟨by first | exact ⟨hK, by (try simp only [g7_σ8, g9_σ8, g20_σ8, g22_σ8, g23_σ8, g24_σ8, g25_σ8]); omega, fun q => ⟨(u53 q).1, by (try simp only [g7_σ8, g9_σ8, g20_σ8, g22_σ8, g23_σ8, g24_σ8, g25_σ8]); omega⟩, hB, (g23_σ8).trans g5⟩ | exact ⟨hK, by (try simp only [g7_σ8, g9_σ8, g20_σ8, g22_σ8, g23_σ8, g24_σ8, g25_σ8]); omega, fun q => ⟨i2 (u53 q).1, by (try simp only [g7_σ8, g9_σ8, g20_σ8, g22_σ8, g23_σ8, g24_σ8, g25_σ8]); omega⟩, hB, (g23_σ8).trans g5⟩, g7_σ8, g9_σ8, g20_σ8, g22_σ8, g24_σ8, g25_σ8⟩)⟩
  · refine ok_gC rfl ?_
    refine ok_zbT (Q := fun V σ => (TOK σ.1 ∧ (σ4.1 218 11).toInt ≤ (σ.1 218 11).toInt ∧ (σ.1 218 14 = 0 → σ4.1 218 14 = 0 ∧ (σ4.1 218 11).toInt < (σ.1 218 11).toInt) ∧ ZB σ.1) ∧ (σ.1 218 7 = σ4.1 218 7 ∧ σ.1 218 9 = σ4.1 218 9 ∧ σ.1 218 20 = σ4.1 218 20 ∧ σ.1 218 22 = σ4.1 218 22 ∧ σ.1 218 23 = σ4.1 218 23 ∧ σ.1 218 24 = σ4.1 218 24 ∧ σ.1 218 25 = σ4.1 218 25)) hT (s_X12_readsSet hN (hR.tr hT) (hK) (by rw [hT.2 224 (by decide)]; exact hY) (hB) (hn) (by (try simp only [g7_σ4, g9_σ4, g10_σ4, g11_σ4, g12_σ4, g13_σ4, g14_σ4, g15_σ4, g20_σ4, g22_σ4, g24_σ4, g25_σ4]); omega)) (by decide) (fun v9 σ10 hOσ10 hT hqv9 => ?_)
    have hqv9 : (TOK σ10.1 ∧ (σ4.1 218 11).toInt ≤ (σ10.1 218 11).toInt ∧ (σ10.1 218 14 = 0 → σ4.1 218 14 = 0 ∧ (σ4.1 218 11).toInt < (σ10.1 218 11).toInt) ∧ ZB σ10.1) ∧ (σ10.1 218 7 = σ4.1 218 7 ∧ σ10.1 218 9 = σ4.1 218 9 ∧ σ10.1 218 20 = σ4.1 218 20 ∧ σ10.1 218 22 = σ4.1 218 22 ∧ σ10.1 218 23 = σ4.1 218 23 ∧ σ10.1 218 24 = σ4.1 218 24 ∧ σ10.1 218 25 = σ4.1 218 25) := hqv9
    have hkv9 := hqv9
    have hqv9 := hqv9.1
    have hK : TOK σ10.1 := by first | exact hqv9.1 | exact TOK_p eσ10 (by decide) hK
    have hB : ZB σ10.1 := by first | exact hqv9.2.1 | exact hqv9.2.2.2
    try simp only [g7_σ4, g9_σ4, g10_σ4, g11_σ4, g12_σ4, g13_σ4, g14_σ4, g15_σ4, g20_σ4, g22_σ4, g24_σ4, g25_σ4] at hqv9
    have g7_σ10 : σ10.1 218 7 = (σ0.1 218 7) := (hkv9.2.1).trans g7_σ4
    have g9_σ10 : σ10.1 218 9 = (σ0.1 218 9) := (hkv9.2.2.1).trans g9_σ4
    have g20_σ10 : σ10.1 218 20 = (σ0.1 218 20) := (hkv9.2.2.2.1).trans g20_σ4
    have g22_σ10 : σ10.1 218 22 = (σ0.1 218 22) := (hkv9.2.2.2.2.1).trans g22_σ4
    have g23_σ10 : σ10.1 218 23 = (σ4.1 218 23) := hkv9.2.2.2.2.2.1
    have g24_σ10 : σ10.1 218 24 = (σ0.1 218 24) := (hkv9.2.2.2.2.2.2.1).trans g24_σ4
    have g25_σ10 : σ10.1 218 25 = (σ0.1 218 25) := (hkv9.2.2.2.2.2.2.2).trans g25_σ4
    have m19 := hqv9.2.1
    have u19 := hqv9.2.2.1
    refine ok_lp (fun t : zS => Tr [218, 226] σ0 (t) ∧ ((σ0.1 218 11).toInt < ((t).1 218 11).toInt ∧ ((t).1 218 14 = 0 → σ0.1 218 14 = 0)) ∧ (TOK (t).1) ∧ (ZB (t).1) ∧ ((t).1 218 7 = (σ0.1 218 7)) ∧ ((t).1 218 9 = (σ0.1 218 9)) ∧ ((t).1 218 20 = (σ0.1 218 20)) ∧ ((t).1 218 22 = (σ0.1 218 22)) ∧ ((t).1 218 23 = (σ4.1 218 23)) ∧ ((t).1 218 24 = (σ0.1 218 24)) ∧ ((t).1 218 25 = (σ0.1 218 25))) (fun t : zS => (600 - ((t).1 218 11).toInt).toNat) (fun again11 t hI ih22_11 => ?_) N _ (show Tr [218, 226] σ0 σ10 ∧ ((σ0.1 218 11).toInt < (σ10.1 218 11).toInt ∧ (σ10.1 218 14 = 0 → σ0.1 218 14 = 0)) ∧ (TOK σ10.1) ∧ (ZB σ10.1) ∧ (σ10.1 218 7 = (σ0.1 218 7)) ∧ (σ10.1 218 9 = (σ0.1 218 9)) ∧ (σ10.1 218 20 = (σ0.1 218 20)) ∧ (σ10.1 218 22 = (σ0.1 218 22)) ∧ (σ10.1 218 23 = (σ4.1 218 23)) ∧ (σ10.1 218 24 = (σ0.1 218 24)) ∧ (σ10.1 218 25 = (σ0.1 218 25)) from ⟨hT, (by exact ⟨by (try simp only [g7_σ10, g9_σ10, g20_σ10, g22_σ10, g23_σ10, g24_σ10, g25_σ10]); omega, fun q => (u19 q).1⟩), hK, hB, g7_σ10, g9_σ10, g20_σ10, g22_σ10, g23_σ10, g24_σ10, g25_σ10⟩) (show (600 - (σ10.1 218 11).toInt).toNat < N from (by omega))
    obtain ⟨σ11, rfl⟩ : ∃ x, x = t := ⟨t, rfl⟩
    have hI : Tr [218, 226] σ0 σ11 ∧ ((σ0.1 218 11).toInt < (σ11.1 218 11).toInt ∧ (σ11.1 218 14 = 0 → σ0.1 218 14 = 0)) ∧ (TOK σ11.1) ∧ (ZB σ11.1) ∧ (σ11.1 218 7 = (σ0.1 218 7)) ∧ (σ11.1 218 9 = (σ0.1 218 9)) ∧ (σ11.1 218 20 = (σ0.1 218 20)) ∧ (σ11.1 218 22 = (σ0.1 218 22)) ∧ (σ11.1 218 23 = (σ4.1 218 23)) ∧ (σ11.1 218 24 = (σ0.1 218 24)) ∧ (σ11.1 218 25 = (σ0.1 218 25)) := hI
    obtain ⟨hT, hI11, hK, hB, g7_σ11, g9_σ11, g20_σ11, g22_σ11, g23_σ11, g24_σ11, g25_σ11⟩ := hI
    rw [F_X12_readsSets_22.eq_1]
    have i1 := hI11.1
    have i2 := hI11.2
    have hK9 := hK.1
    refine ok_gC rfl ?_
    refine ok_zbX (Q := fun V => (V = 0 → ¬ σ11.1 218 14 = 0) ∧ (¬ V = 0 → σ11.1 218 14 = 0)) (x_X12_good) (fun v12 hqv12 => ?_)
    have hqv12 : (v12 = 0 → ¬ σ11.1 218 14 = 0) ∧ (¬ v12 = 0 → σ11.1 218 14 = 0) := hqv12
    try simp only [g7_σ11, g9_σ11, g20_σ11, g22_σ11, g23_σ11, g24_σ11, g25_σ11, hT.2 224 (by decide)] at hqv12
    refine ok_if (fun hc14 => ?_) (fun hc14 => ?_)
    · have qhc14 := hqv12.1 hc14
      refine ok_gC rfl ?_
      refine ok_zbT (Q := fun V σ => (TOK σ.1 ∧ (σ11.1 218 11).toInt ≤ (σ.1 218 11).toInt ∧ (σ.1 218 14 = 0 → σ11.1 218 14 = 0 ∧ (σ11.1 218 11).toInt < (σ.1 218 11).toInt)) ∧ (σ.1 218 7 = σ11.1 218 7 ∧ σ.1 218 9 = σ11.1 218 9 ∧ σ.1 218 20 = σ11.1 218 20 ∧ σ.1 218 22 = σ11.1 218 22 ∧ σ.1 218 23 = σ11.1 218 23 ∧ σ.1 218 24 = σ11.1 218 24 ∧ σ.1 218 25 = σ11.1 218 25)) hT (s_X12_needsSign hN (hR.tr hT) (hK) (by rw [hT.2 224 (by decide)]; exact hY) (by decide)) (by decide) (fun v15 σ16 hOσ16 hT hqv15 => ?_)
      have hqv15 : (TOK σ16.1 ∧ (σ11.1 218 11).toInt ≤ (σ16.1 218 11).toInt ∧ (σ16.1 218 14 = 0 → σ11.1 218 14 = 0 ∧ (σ11.1 218 11).toInt < (σ16.1 218 11).toInt)) ∧ (σ16.1 218 7 = σ11.1 218 7 ∧ σ16.1 218 9 = σ11.1 218 9 ∧ σ16.1 218 20 = σ11.1 218 20 ∧ σ16.1 218 22 = σ11.1 218 22 ∧ σ16.1 218 23 = σ11.1 218 23 ∧ σ16.1 218 24 = σ11.1 218 24 ∧ σ16.1 218 25 = σ11.1 218 25) := hqv15
      have hkv15 := hqv15
      have hqv15 := hqv15.1
      have hK : TOK σ16.1 := by first | exact hqv15.1 | exact TOK_p eσ16 (by decide) hK
      have hB : ZB σ16.1 := ZB.tr hOσ16 (by decide) hB
      try simp only [g7_σ11, g9_σ11, g20_σ11, g22_σ11, g23_σ11, g24_σ11, g25_σ11] at hqv15
      have g7_σ16 : σ16.1 218 7 = (σ0.1 218 7) := (hkv15.2.1).trans g7_σ11
      have g9_σ16 : σ16.1 218 9 = (σ0.1 218 9) := (hkv15.2.2.1).trans g9_σ11
      have g20_σ16 : σ16.1 218 20 = (σ0.1 218 20) := (hkv15.2.2.2.1).trans g20_σ11
      have g22_σ16 : σ16.1 218 22 = (σ0.1 218 22) := (hkv15.2.2.2.2.1).trans g22_σ11
      have g23_σ16 : σ16.1 218 23 = (σ4.1 218 23) := (hkv15.2.2.2.2.2.1).trans g23_σ11
      have g24_σ16 : σ16.1 218 24 = (σ0.1 218 24) := (hkv15.2.2.2.2.2.2.1).trans g24_σ11
      have g25_σ16 : σ16.1 218 25 = (σ0.1 218 25) := (hkv15.2.2.2.2.2.2.2).trans g25_σ11
      have m53 := hqv15.2.1
      have u53 := hqv15.2.2
      exact ok_some ⟨hT, (show (TOK σ16.1 ∧ (σ0.1 218 11).toInt ≤ (σ16.1 218 11).toInt ∧ (σ16.1 218 14 = 0 → σ0.1 218 14 = 0 ∧ (σ0.1 218 11).toInt < (σ16.1 218 11).toInt) ∧ ZB σ16.1 ∧ σ16.1 218 23 = σ0.1 218 23 + 1) ∧ (σ16.1 218 7 = σ0.1 218 7 ∧ σ16.1 218 9 = σ0.1 218 9 ∧ σ16.1 218 20 = σ0.1 218 20 ∧ σ16.1 218 22 = σ0.1 218 22 ∧ σ16.1 218 24 = σ0.1 218 24 ∧ σ16.1 218 25 = σ0.1 218 25) from ⟨by first | exact ⟨hK, by (try simp only [g7_σ16, g9_σ16, g20_σ16, g22_σ16, g23_σ16, g24_σ16, g25_σ16]); omega, fun q => ⟨(u53 q).1, by (try simp only [g7_σ16, g9_σ16, g20_σ16, g22_σ16, g23_σ16, g24_σ16, g25_σ16]); omega⟩, hB, (g23_σ16).trans g5⟩ | exact ⟨hK, by (try simp only [g7_σ16, g9_σ16, g20_σ16, g22_σ16, g23_σ16, g24_σ16, g25_σ16]); omega, fun q => ⟨i2 (u53 q).1, by (try simp only [g7_σ16, g9_σ16, g20_σ16, g22_σ16, g23_σ16, g24_σ16, g25_σ16]); omega⟩, hB, (g23_σ16).trans g5⟩, g7_σ16, g9_σ16, g20_σ16, g22_σ16, g24_σ16, g25_σ16⟩)⟩
    · have qhc14 := hqv12.2 hc14
      have y26 := qhc14
      refine ok_gI rfl ?_
      refine ok_if (fun hc18 => ?_) (fun hc18 => ?_)
      · have l35 := hK.2.1 (by rw [hc18]; decide)
        refine ok_gC rfl ?_
        refine ok_zbT (Q := fun V σ => (TOK σ.1 ∧ (σ11.1 218 10).toInt ≤ (σ.1 218 11).toInt) ∧ (σ.1 218 7 = σ11.1 218 7 ∧ σ.1 218 9 = σ11.1 218 9 ∧ σ.1 218 14 = σ11.1 218 14 ∧ σ.1 218 15 = σ11.1 218 15 ∧ σ.1 218 20 = σ11.1 218 20 ∧ σ.1 218 22 = σ11.1 218 22 ∧ σ.1 218 23 = σ11.1 218 23 ∧ σ.1 218 24 = σ11.1 218 24 ∧ σ.1 218 25 = σ11.1 218 25)) hT (s_X12_advance hN (hR.tr hT) (TOK_A hK) (by rw [hT.2 224 (by decide)]; exact hY)) (by decide) (fun v19 σ20 hOσ20 hT hqv19 => ?_)
        have hqv19 : (TOK σ20.1 ∧ (σ11.1 218 10).toInt ≤ (σ20.1 218 11).toInt) ∧ (σ20.1 218 7 = σ11.1 218 7 ∧ σ20.1 218 9 = σ11.1 218 9 ∧ σ20.1 218 14 = σ11.1 218 14 ∧ σ20.1 218 15 = σ11.1 218 15 ∧ σ20.1 218 20 = σ11.1 218 20 ∧ σ20.1 218 22 = σ11.1 218 22 ∧ σ20.1 218 23 = σ11.1 218 23 ∧ σ20.1 218 24 = σ11.1 218 24 ∧ σ20.1 218 25 = σ11.1 218 25) := hqv19
        have hkv19 := hqv19
        have hqv19 := hqv19.1
        have hK : TOK σ20.1 := by first | exact hqv19.1 | exact TOK_p eσ20 (by decide) hK
        have hB : ZB σ20.1 := ZB.tr hOσ20 (by decide) hB
        try simp only [g7_σ11, g9_σ11, g20_σ11, g22_σ11, g23_σ11, g24_σ11, g25_σ11] at hqv19
        have g7_σ20 : σ20.1 218 7 = (σ0.1 218 7) := (hkv19.2.1).trans g7_σ11
        have g9_σ20 : σ20.1 218 9 = (σ0.1 218 9) := (hkv19.2.2.1).trans g9_σ11
        have g14_σ20 : σ20.1 218 14 = (σ11.1 218 14) := hkv19.2.2.2.1
        have g15_σ20 : σ20.1 218 15 = (σ11.1 218 15) := hkv19.2.2.2.2.1
        have g20_σ20 : σ20.1 218 20 = (σ0.1 218 20) := (hkv19.2.2.2.2.2.1).trans g20_σ11
        have g22_σ20 : σ20.1 218 22 = (σ0.1 218 22) := (hkv19.2.2.2.2.2.2.1).trans g22_σ11
        have g23_σ20 : σ20.1 218 23 = (σ4.1 218 23) := (hkv19.2.2.2.2.2.2.2.1).trans g23_σ11
        have g24_σ20 : σ20.1 218 24 = (σ0.1 218 24) := (hkv19.2.2.2.2.2.2.2.2.1).trans g24_σ11
        have g25_σ20 : σ20.1 218 25 = (σ0.1 218 25) := (hkv19.2.2.2.2.2.2.2.2.2).trans g25_σ11
        have m39 := hqv19.2
        refine ok_gC rfl ?_
        refine ok_zbT (Q := fun V σ => (TOK σ.1 ∧ (σ20.1 218 11).toInt ≤ (σ.1 218 11).toInt ∧ (σ.1 218 14 = 0 → σ20.1 218 14 = 0 ∧ (σ20.1 218 11).toInt < (σ.1 218 11).toInt) ∧ ZB σ.1) ∧ (σ.1 218 7 = σ20.1 218 7 ∧ σ.1 218 9 = σ20.1 218 9 ∧ σ.1 218 20 = σ20.1 218 20 ∧ σ.1 218 22 = σ20.1 218 22 ∧ σ.1 218 23 = σ20.1 218 23 ∧ σ.1 218 24 = σ20.1 218 24 ∧ σ.1 218 25 = σ20.1 218 25)) hT (s_X12_readsSet hN (hR.tr hT) (hK) (by rw [hT.2 224 (by decide)]; exact hY) (hB) (hn) (by (try simp only [g7_σ20, g9_σ20, g14_σ20, g15_σ20, g20_σ20, g22_σ20, g23_σ20, g24_σ20, g25_σ20]); omega)) (by decide) (fun v21 σ22 hOσ22 hT hqv21 => ?_)
        have hqv21 : (TOK σ22.1 ∧ (σ20.1 218 11).toInt ≤ (σ22.1 218 11).toInt ∧ (σ22.1 218 14 = 0 → σ20.1 218 14 = 0 ∧ (σ20.1 218 11).toInt < (σ22.1 218 11).toInt) ∧ ZB σ22.1) ∧ (σ22.1 218 7 = σ20.1 218 7 ∧ σ22.1 218 9 = σ20.1 218 9 ∧ σ22.1 218 20 = σ20.1 218 20 ∧ σ22.1 218 22 = σ20.1 218 22 ∧ σ22.1 218 23 = σ20.1 218 23 ∧ σ22.1 218 24 = σ20.1 218 24 ∧ σ22.1 218 25 = σ20.1 218 25) := hqv21
        have hkv21 := hqv21
        have hqv21 := hqv21.1
        have hK : TOK σ22.1 := by first | exact hqv21.1 | exact TOK_p eσ22 (by decide) hK
        have hB : ZB σ22.1 := by first | exact hqv21.2.1 | exact hqv21.2.2.2
        try simp only [g7_σ20, g9_σ20, g14_σ20, g15_σ20, g20_σ20, g22_σ20, g23_σ20, g24_σ20, g25_σ20] at hqv21
        have g7_σ22 : σ22.1 218 7 = (σ0.1 218 7) := (hkv21.2.1).trans g7_σ20
        have g9_σ22 : σ22.1 218 9 = (σ0.1 218 9) := (hkv21.2.2.1).trans g9_σ20
        have g20_σ22 : σ22.1 218 20 = (σ0.1 218 20) := (hkv21.2.2.2.1).trans g20_σ20
        have g22_σ22 : σ22.1 218 22 = (σ0.1 218 22) := (hkv21.2.2.2.2.1).trans g22_σ20
        have g23_σ22 : σ22.1 218 23 = (σ4.1 218 23) := (hkv21.2.2.2.2.2.1).trans g23_σ20
        have g24_σ22 : σ22.1 218 24 = (σ0.1 218 24) := (hkv21.2.2.2.2.2.2.1).trans g24_σ20
        have g25_σ22 : σ22.1 218 25 = (σ0.1 218 25) := (hkv21.2.2.2.2.2.2.2).trans g25_σ20
        have m44 := hqv21.2.1
        exact ih22_11 σ22 (show Tr [218, 226] σ0 σ22 ∧ ((σ0.1 218 11).toInt < (σ22.1 218 11).toInt ∧ (σ22.1 218 14 = 0 → σ0.1 218 14 = 0)) ∧ (TOK σ22.1) ∧ (ZB σ22.1) ∧ (σ22.1 218 7 = (σ0.1 218 7)) ∧ (σ22.1 218 9 = (σ0.1 218 9)) ∧ (σ22.1 218 20 = (σ0.1 218 20)) ∧ (σ22.1 218 22 = (σ0.1 218 22)) ∧ (σ22.1 218 23 = (σ4.1 218 23)) ∧ (σ22.1 218 24 = (σ0.1 218 24)) ∧ (σ22.1 218 25 = (σ0.1 218 25)) from ⟨hT, (by exact ⟨by (try simp only [g7_σ22, g9_σ22, g20_σ22, g22_σ22, g23_σ22, g24_σ22, g25_σ22]); omega, fun _ => i2 y26⟩), hK, hB, g7_σ22, g9_σ22, g20_σ22, g22_σ22, g23_σ22, g24_σ22, g25_σ22⟩) (show (600 - (σ22.1 218 11).toInt).toNat < (600 - (σ11.1 218 11).toInt).toNat from (by (try simp only [g7_σ22, g9_σ22, g20_σ22, g22_σ22, g23_σ22, g24_σ22, g25_σ22]); omega))
      · refine ok_gC rfl ?_
        refine ok_zbT (Q := fun V σ => (TOK σ.1 ∧ (σ11.1 218 11).toInt ≤ (σ.1 218 11).toInt ∧ (σ.1 218 14 = 0 → σ11.1 218 14 = 0 ∧ (σ11.1 218 11).toInt < (σ.1 218 11).toInt)) ∧ (σ.1 218 7 = σ11.1 218 7 ∧ σ.1 218 9 = σ11.1 218 9 ∧ σ.1 218 20 = σ11.1 218 20 ∧ σ.1 218 22 = σ11.1 218 22 ∧ σ.1 218 23 = σ11.1 218 23 ∧ σ.1 218 24 = σ11.1 218 24 ∧ σ.1 218 25 = σ11.1 218 25)) hT (s_X12_needsSign hN (hR.tr hT) (hK) (by rw [hT.2 224 (by decide)]; exact hY) (by decide)) (by decide) (fun v23 σ24 hOσ24 hT hqv23 => ?_)
        have hqv23 : (TOK σ24.1 ∧ (σ11.1 218 11).toInt ≤ (σ24.1 218 11).toInt ∧ (σ24.1 218 14 = 0 → σ11.1 218 14 = 0 ∧ (σ11.1 218 11).toInt < (σ24.1 218 11).toInt)) ∧ (σ24.1 218 7 = σ11.1 218 7 ∧ σ24.1 218 9 = σ11.1 218 9 ∧ σ24.1 218 20 = σ11.1 218 20 ∧ σ24.1 218 22 = σ11.1 218 22 ∧ σ24.1 218 23 = σ11.1 218 23 ∧ σ24.1 218 24 = σ11.1 218 24 ∧ σ24.1 218 25 = σ11.1 218 25) := hqv23
        have hkv23 := hqv23
        have hqv23 := hqv23.1
        have hK : TOK σ24.1 := by first | exact hqv23.1 | exact TOK_p eσ24 (by decide) hK
        have hB : ZB σ24.1 := ZB.tr hOσ24 (by decide) hB
        try simp only [g7_σ11, g9_σ11, g20_σ11, g22_σ11, g23_σ11, g24_σ11, g25_σ11] at hqv23
        have g7_σ24 : σ24.1 218 7 = (σ0.1 218 7) := (hkv23.2.1).trans g7_σ11
        have g9_σ24 : σ24.1 218 9 = (σ0.1 218 9) := (hkv23.2.2.1).trans g9_σ11
        have g20_σ24 : σ24.1 218 20 = (σ0.1 218 20) := (hkv23.2.2.2.1).trans g20_σ11
        have g22_σ24 : σ24.1 218 22 = (σ0.1 218 22) := (hkv23.2.2.2.2.1).trans g22_σ11
        have g23_σ24 : σ24.1 218 23 = (σ4.1 218 23) := (hkv23.2.2.2.2.2.1).trans g23_σ11
        have g24_σ24 : σ24.1 218 24 = (σ0.1 218 24) := (hkv23.2.2.2.2.2.2.1).trans g24_σ11
        have g25_σ24 : σ24.1 218 25 = (σ0.1 218 25) := (hkv23.2.2.2.2.2.2.2).trans g25_σ11
        have m53 := hqv23.2.1
        have u53 := hqv23.2.2
        exact ok_some ⟨hT, (show (TOK σ24.1 ∧ (σ0.1 218 11).toInt ≤ (σ24.1 218 11).toInt ∧ (σ24.1 218 14 = 0 → σ0.1 218 14 = 0 ∧ (σ0.1 218 11).toInt < (σ24.1 218 11).toInt) ∧ ZB σ24.1 ∧ σ24.1 218 23 = σ0.1 218 23 + 1) ∧ (σ24.1 218 7 = σ0.1 218 7 ∧ σ24.1 218 9 = σ0.1 218 9 ∧ σ24.1 218 20 = σ0.1 218 20 ∧ σ24.1 218 22 = σ0.1 218 22 ∧ σ24.1 218 24 = σ0.1 218 24 ∧ σ24.1 218 25 = σ0.1 218 25) from ⟨by first | exact ⟨hK, by (try simp only [g7_σ24, g9_σ24, g20_σ24, g22_σ24, g23_σ24, g24_σ24, g25_σ24]); omega, fun q => ⟨(u53 q).1, by (try simp only [g7_σ24, g9_σ24, g20_σ24, g22_σ24, g23_σ24, g24_σ24, g25_σ24]); omega⟩, hB, (g23_σ24).trans g5⟩ | exact ⟨hK, by (try simp only [g7_σ24, g9_σ24, g20_σ24, g22_σ24, g23_σ24, g24_σ24, g25_σ24]); omega, fun q => ⟨i2 (u53 q).1, by (try simp only [g7_σ24, g9_σ24, g20_σ24, g22_σ24, g23_σ24, g24_σ24, g25_σ24]); omega⟩, hB, (g23_σ24).trans g5⟩, g7_σ24, g9_σ24, g20_σ24, g22_σ24, g24_σ24, g25_σ24⟩)⟩

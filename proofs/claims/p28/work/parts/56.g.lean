section Zq10_0
theorem i8b (v : Int8) : -128 ≤ v.toInt32.toInt ∧ v.toInt32.toInt ≤ 127 := by
  rw [Int8.toInt_toInt32]
  have h1 := v.le_toInt
  have h2 := v.toInt_lt
  omega
theorem BYT_s {σ τ : zS} {i : Nat} {v : Int32} (e : τ = zI σ 224 (upd (σ.1 224) i (vp_nar .byte v))) (h : BYT (σ.1 224)) : BYT (τ.1 224) := by
  intro k
  by_cases q : k = i
  · subst q; rw [zI_atI e, vp_nar_byte]; exact i8b _
  · rw [zI_atN e q]; exact h k
theorem x_X12_isRegister {N : Nat} {x1 : Int32} {σ : zS} (hR : RF σ.2.2) : Ok (f_X12_isRegister N 218 x1 σ) (fun r => r.2 = σ ∧ ((r.1 = 0 → True) ∧ (¬ r.1 = 0 → 0 ≤ x1.toInt ∧ x1.toInt ≤ 9))) := by
  rw [f_X12_isRegister.eq_1]
  refine ok_gC rfl ?_
  refine ok_zbX (Q := fun v => (v = 0 → (σ.1 219 0).toInt ≤ 0) ∧ (¬ v = 0 → 0 < (σ.1 219 0).toInt)) (x_X12_isWorld hR) (fun v hv => ?_)
  refine ok_if (fun h => ok_rZ (Or.inl rfl) ⟨rfl, fun _ => trivial, fun q => absurd rfl q⟩) (fun h => ?_)
  refine ok_zbX (Q := fun v => ¬ v = 0 → (0 : Int64).toInt ≤ (Int32.toInt64 x1).toInt ∧ (Int32.toInt64 x1).toInt ≤ (9 : Int64).toInt) x_X12_in (fun v hv => ?_)
  simp only [i64_of, Int64.reduceToInt] at hv
  exact ok_if (fun h => ok_rZ (Or.inl rfl) ⟨rfl, fun _ => trivial, fun q => absurd rfl q⟩) (fun h => ok_rZ (Or.inr rfl) ⟨rfl, fun _ => trivial, fun _ => hv h⟩)
theorem mu2 {f f' : Int} {a a' : Int32} (hf : f ≤ f') (h6 : f' ≤ 600) (ha : a = 0) (h : a' = 0 → f < f') : (600 - f').toNat + (if a' = 0 then 1 else 0) < (600 - f).toNat + (if a = 0 then 1 else 0) := by
  rw [if_pos ha]
  by_cases q : a' = 0
  · rw [if_pos q]
    have := h q
    omega
  · rw [if_neg q]; omega

set_option maxHeartbeats 4000000 in
set_option maxRecDepth 100000 in
theorem s_X12_feed_b {N : Nat} (hN : 1048576 ≤ N) {x1 : Int32} {x2 : Int32} {x3 : Int32} {x4 : Int32} {x5 : Int32} {σ0 : zS}  (hR : RF σ0.2.2) (hp : 0 ≤ (σ0.1 218 7).toInt ∧ (σ0.1 218 7).toInt ≤ 600) (hY : BYT (σ0.1 224)) : Ok (f_X12_feed N 218 x1 x2 x3 x4 x5 σ0) (fun r => Tr [218, 224, 225] σ0 r.2 ∧ ((0 ≤ (r.2.1 218 7).toInt ∧ (r.2.1 218 7).toInt ≤ 600) ∧ BYT (r.2.1 224))) := by
  have hT : Tr [218, 224, 225] σ0 σ0 := Tr.rf
  have ht : σ0.1 218 7 = σ0.1 218 7 := rfl
  rw [f_X12_feed.eq_1]
  refine ok_gI rfl ?_
  refine ok_if (fun hc2 => ?_) (fun hc2 => ?_)
  · refine ok_gR (v := 225) hT rfl (hR 218 8 rfl) ?_
    refine ok_s14 hT rfl (by decide) (by first | omega | decide | (simp only [Int32.le_iff_toInt_le, Int32.lt_iff_toInt_lt, ti_add, ti_sub, ti_mul, Int32.reduceToInt] at *; omega)) (by first | omega | decide | (simp only [Int32.le_iff_toInt_le, Int32.lt_iff_toInt_lt, ti_add, ti_sub, ti_mul, Int32.reduceToInt] at *; omega)) (fun σ4 eσ4 hOσ4 hT => ?_)
    have hp : 0 ≤ (σ4.1 218 7).toInt ∧ (σ4.1 218 7).toInt ≤ 600 := by rw [hOσ4.2 218 (by decide)] <;> exact hp
    have ht : σ4.1 218 7 = σ0.1 218 7 := by rw [hOσ4.2 218 (by decide)] <;> exact ht
    have hY : BYT (σ4.1 224) := by rw [hOσ4.2 224 (by decide)]; exact hY
    refine ok_gR (v := 225) hT rfl (hR 218 8 rfl) ?_
    refine ok_s14 hT rfl (by decide) (by first | omega | decide | (simp only [Int32.le_iff_toInt_le, Int32.lt_iff_toInt_lt, ti_add, ti_sub, ti_mul, Int32.reduceToInt] at *; omega)) (by first | omega | decide | (simp only [Int32.le_iff_toInt_le, Int32.lt_iff_toInt_lt, ti_add, ti_sub, ti_mul, Int32.reduceToInt] at *; omega)) (fun σ6 eσ6 hOσ6 hT => ?_)
    have hp : 0 ≤ (σ6.1 218 7).toInt ∧ (σ6.1 218 7).toInt ≤ 600 := by rw [hOσ6.2 218 (by decide)] <;> exact hp
    have ht : σ6.1 218 7 = σ0.1 218 7 := by rw [hOσ6.2 218 (by decide)] <;> exact ht
    have hY : BYT (σ6.1 224) := by rw [hOσ6.2 224 (by decide)]; exact hY
    refine ok_gR (v := 225) hT rfl (hR 218 8 rfl) ?_
    refine ok_s14 hT rfl (by decide) (by first | omega | decide | (simp only [Int32.le_iff_toInt_le, Int32.lt_iff_toInt_lt, ti_add, ti_sub, ti_mul, Int32.reduceToInt] at *; omega)) (by first | omega | decide | (simp only [Int32.le_iff_toInt_le, Int32.lt_iff_toInt_lt, ti_add, ti_sub, ti_mul, Int32.reduceToInt] at *; omega)) (fun σ8 eσ8 hOσ8 hT => ?_)
    have hp : 0 ≤ (σ8.1 218 7).toInt ∧ (σ8.1 218 7).toInt ≤ 600 := by rw [hOσ8.2 218 (by decide)] <;> exact hp
    have ht : σ8.1 218 7 = σ0.1 218 7 := by rw [hOσ8.2 218 (by decide)] <;> exact ht
    have hY : BYT (σ8.1 224) := by rw [hOσ8.2 224 (by decide)]; exact hY
    refine ok_gR (v := 225) hT rfl (hR 218 8 rfl) ?_
    refine ok_s14 hT rfl (by decide) (by first | omega | decide | (simp only [Int32.le_iff_toInt_le, Int32.lt_iff_toInt_lt, ti_add, ti_sub, ti_mul, Int32.reduceToInt] at *; omega)) (by first | omega | decide | (simp only [Int32.le_iff_toInt_le, Int32.lt_iff_toInt_lt, ti_add, ti_sub, ti_mul, Int32.reduceToInt] at *; omega)) (fun σ10 eσ10 hOσ10 hT => ?_)
    have hp : 0 ≤ (σ10.1 218 7).toInt ∧ (σ10.1 218 7).toInt ≤ 600 := by rw [hOσ10.2 218 (by decide)] <;> exact hp
    have ht : σ10.1 218 7 = σ0.1 218 7 := by rw [hOσ10.2 218 (by decide)] <;> exact ht
    have hY : BYT (σ10.1 224) := by rw [hOσ10.2 224 (by decide)]; exact hY
    refine ok_gR (v := 225) hT rfl (hR 218 8 rfl) ?_
    refine ok_s14 hT rfl (by decide) (by first | omega | decide | (simp only [Int32.le_iff_toInt_le, Int32.lt_iff_toInt_lt, ti_add, ti_sub, ti_mul, Int32.reduceToInt] at *; omega)) (by first | omega | decide | (simp only [Int32.le_iff_toInt_le, Int32.lt_iff_toInt_lt, ti_add, ti_sub, ti_mul, Int32.reduceToInt] at *; omega)) (fun σ12 eσ12 hOσ12 hT => ?_)
    have hp : 0 ≤ (σ12.1 218 7).toInt ∧ (σ12.1 218 7).toInt ≤ 600 := by rw [hOσ12.2 218 (by decide)] <;> exact hp
    have ht : σ12.1 218 7 = σ0.1 218 7 := by rw [hOσ12.2 218 (by decide)] <;> exact ht
    have hY : BYT (σ12.1 224) := by rw [hOσ12.2 224 (by decide)]; exact hY
    refine ok_lp (fun t : Int32 × zS => Tr [218, 224, 225] σ0 (t.2) ∧ (0 ≤ (t.1).toInt) ∧ (0 ≤ ((t.2).1 218 7).toInt ∧ ((t.2).1 218 7).toInt ≤ 600) ∧ ((t.2).1 218 7 = σ0.1 218 7) ∧ (BYT ((t.2).1 224))) (fun t : Int32 × zS => (20 - (t.1).toInt).toNat) (fun again13 t hI ih55_13 => ?_) N _ (show Tr [218, 224, 225] σ0 σ12 ∧ (0 ≤ (0 : Int32).toInt) ∧ (0 ≤ (σ12.1 218 7).toInt ∧ (σ12.1 218 7).toInt ≤ 600) ∧ (σ12.1 218 7 = σ0.1 218 7) ∧ (BYT (σ12.1 224)) from ⟨hT, (by first | omega | decide | (simp only [Int32.le_iff_toInt_le, Int32.lt_iff_toInt_lt, ti_add, ti_sub, ti_mul, Int32.reduceToInt] at *; omega)), hp, ht, hY⟩) (show (20 - (0 : Int32).toInt).toNat < N from (by first | omega | decide | (simp only [Int32.le_iff_toInt_le, Int32.lt_iff_toInt_lt, ti_add, ti_sub, ti_mul, Int32.reduceToInt] at *; omega)))
    obtain ⟨x6_13, σ13⟩ := t
    have hI : Tr [218, 224, 225] σ0 σ13 ∧ (0 ≤ x6_13.toInt) ∧ (0 ≤ (σ13.1 218 7).toInt ∧ (σ13.1 218 7).toInt ≤ 600) ∧ (σ13.1 218 7 = σ0.1 218 7) ∧ (BYT (σ13.1 224)) := hI
    obtain ⟨hT, hI13, hp, ht, hY⟩ := hI
    rw [F_X12_feed_55.eq_1]
    refine ok_if (fun hc14 => ?_) (fun hc14 => ?_)
    · refine ok_gI rfl ?_
      refine ok_pI hT rfl (by decide) (fun σ16 eσ16 hOσ16 hT => ?_)
      have hp : 0 ≤ (σ16.1 218 7).toInt ∧ (σ16.1 218 7).toInt ≤ 600 := by rw [zI_atI eσ16]; have e9 := congrArg Int32.toInt ht; first | omega | (simp only [Int32.le_iff_toInt_le, Int32.lt_iff_toInt_lt, ti_add, ti_sub, ti_mul, Int32.reduceToInt] at *; omega)
      have hY : BYT (σ16.1 224) := by rw [hOσ16.2 224 (by decide)]; exact hY
      refine ok_gI rfl ?_
      exact ok_some ⟨hT, (show (0 ≤ (σ16.1 218 7).toInt ∧ (σ16.1 218 7).toInt ≤ 600) ∧ BYT (σ16.1 224) from by exact ⟨hp, hY⟩)⟩
    · have d4 := ti_div4 (x := x6_13) (by first | omega | (simp only [Int32.le_iff_toInt_le, Int32.lt_iff_toInt_lt, ti_add, ti_sub, ti_mul, Int32.reduceToInt] at *; omega)) (by first | omega | (simp only [Int32.le_iff_toInt_le, Int32.lt_iff_toInt_lt, ti_add, ti_sub, ti_mul, Int32.reduceToInt] at *; omega))
      have k9 : 0 = 0 := rfl
      have e9 := congrArg Int32.toInt ht
      refine ok_gR (v := 224) hT rfl (hR 218 6 rfl) ?_
      refine ok_gI rfl ?_
      refine ok_gR (v := 225) hT rfl (hR 218 8 rfl) ?_
      refine ok_nzI (by decide) ?_
      refine ok_aIn rfl (by first | omega | decide | (simp only [Int32.le_iff_toInt_le, Int32.lt_iff_toInt_lt, ti_add, ti_sub, ti_mul, Int32.reduceToInt] at *; omega)) (by first | omega | decide | (simp only [Int32.le_iff_toInt_le, Int32.lt_iff_toInt_lt, ti_add, ti_sub, ti_mul, Int32.reduceToInt] at *; omega)) (fun v21 ev21 => ?_)
      refine ok_nzI (by decide) ?_
      refine ok_s13 hT rfl (by decide) (by first | omega | decide | (simp only [Int32.le_iff_toInt_le, Int32.lt_iff_toInt_lt, ti_add, ti_sub, ti_mul, Int32.reduceToInt] at *; omega)) (by first | omega | decide | (simp only [Int32.le_iff_toInt_le, Int32.lt_iff_toInt_lt, ti_add, ti_sub, ti_mul, Int32.reduceToInt] at *; omega)) (fun σ22 eσ22 hOσ22 hT => ?_)
      have hp : 0 ≤ (σ22.1 218 7).toInt ∧ (σ22.1 218 7).toInt ≤ 600 := by rw [hOσ22.2 218 (by decide)] <;> exact hp
      have ht : σ22.1 218 7 = σ0.1 218 7 := by rw [hOσ22.2 218 (by decide)] <;> exact ht
      have hY : BYT (σ22.1 224) := BYT_s eσ22 hY
      exact ih55_13 (x6_13 + 1, σ22) (show Tr [218, 224, 225] σ0 σ22 ∧ (0 ≤ (x6_13 + 1).toInt) ∧ (0 ≤ (σ22.1 218 7).toInt ∧ (σ22.1 218 7).toInt ≤ 600) ∧ (σ22.1 218 7 = σ0.1 218 7) ∧ (BYT (σ22.1 224)) from ⟨hT, (by first | omega | decide | (simp only [Int32.le_iff_toInt_le, Int32.lt_iff_toInt_lt, ti_add, ti_sub, ti_mul, Int32.reduceToInt] at *; omega)), hp, ht, hY⟩) (show (20 - (x6_13 + 1).toInt).toNat < (20 - x6_13.toInt).toNat from (by first | omega | decide | (simp only [Int32.le_iff_toInt_le, Int32.lt_iff_toInt_lt, ti_add, ti_sub, ti_mul, Int32.reduceToInt] at *; omega)))
  · exact ok_some ⟨hT, (show (0 ≤ (σ0.1 218 7).toInt ∧ (σ0.1 218 7).toInt ≤ 600) ∧ BYT (σ0.1 224) from by exact ⟨hp, hY⟩)⟩

set_option maxHeartbeats 4000000 in
set_option maxRecDepth 100000 in
theorem s_X12_put {N : Nat} (hN : 1048576 ≤ N) {x1 : Int32} {σ0 : zS}  (hR : RF σ0.2.2) (hM : MW (σ0.1 219) 0) (hB : ZB σ0.1) (htp : 0 ≤ (σ0.1 218 7).toInt ∧ (σ0.1 218 7).toInt ≤ 600) (hY : BYT (σ0.1 224)) : Ok (f_X12_put N 218 x1 σ0) (fun r => Tr [218, 220, 226, 227, 228, 229, 230] σ0 r.2 ∧ (ZB r.2.1 ∧ r.2.1 218 7 = 0)) := by
  have hT : Tr [218, 220, 226, 227, 228, 229, 230] σ0 σ0 := Tr.rf
  have hn := hM.1
  have he : 0 ≤ (σ0.1 219 2).toInt ∧ (σ0.1 219 2).toInt ≤ 10 := hM.2.1
  have qm := mny_b hn.1 hn.2
  rw [f_X12_put.eq_1]
  refine ok_gC rfl ?_
  refine ok_zbX (Q := fun V => (V = 0 → True) ∧ (¬ V = 0 → 0 ≤ x1.toInt ∧ x1.toInt ≤ 9)) (x_X12_isRegister (hR.tr hT)) (fun v1 hqv1 => ?_)
  have hqv1 : (v1 = 0 → True) ∧ (¬ v1 = 0 → 0 ≤ x1.toInt ∧ x1.toInt ≤ 9) := hqv1
  refine ok_if (fun hc3 => ?_) (fun hc3 => ?_)
  · have qhc3 := hqv1.1 hc3
    refine ok_pI hT rfl (by decide) (fun σ4 eσ4 hOσ4 hT => ?_)
    have r219_σ4 : σ4.1 219 = σ0.1 219 := hOσ4.2 219 (by decide)
    have hB : ZB σ4.1 := ZB.tr hOσ4 (by decide) hB
    have g7_σ4 : σ4.1 218 7 = (0 : Int32) := zI_atI eσ4
    have g9_σ4 : σ4.1 218 9 = (σ0.1 218 9) := zI_atN eσ4 (by decide)
    have g10_σ4 : σ4.1 218 10 = (σ0.1 218 10) := zI_atN eσ4 (by decide)
    have g11_σ4 : σ4.1 218 11 = (σ0.1 218 11) := zI_atN eσ4 (by decide)
    have g12_σ4 : σ4.1 218 12 = (σ0.1 218 12) := zI_atN eσ4 (by decide)
    have g13_σ4 : σ4.1 218 13 = (σ0.1 218 13) := zI_atN eσ4 (by decide)
    have g14_σ4 : σ4.1 218 14 = (σ0.1 218 14) := zI_atN eσ4 (by decide)
    have g15_σ4 : σ4.1 218 15 = (σ0.1 218 15) := zI_atN eσ4 (by decide)
    have g20_σ4 : σ4.1 218 20 = (σ0.1 218 20) := zI_atN eσ4 (by decide)
    have g22_σ4 : σ4.1 218 22 = (σ0.1 218 22) := zI_atN eσ4 (by decide)
    have g23_σ4 : σ4.1 218 23 = (σ0.1 218 23) := zI_atN eσ4 (by decide)
    have g24_σ4 : σ4.1 218 24 = (σ0.1 218 24) := zI_atN eσ4 (by decide)
    have g25_σ4 : σ4.1 218 25 = (σ0.1 218 25) := zI_atN eσ4 (by decide)
    exact ok_some ⟨hT, (show ZB σ4.1 ∧ σ4.1 218 7 = 0 from by first | exact ⟨hB, (g7_σ4).trans t7⟩ | exact ⟨hB, g7_σ4⟩)⟩
  · have qhc3 := hqv1.2 hc3
    have h5 := qhc3
    refine ok_gC rfl ?_
    refine ok_zbT (Q := fun V σ => (TOK σ.1 ∧ σ.1 218 14 = 0 ∧ σ.1 218 25 = 0 ∧ σ.1 218 7 = 0) ∧ (σ.1 218 20 = σ0.1 218 20 ∧ σ.1 218 22 = σ0.1 218 22 ∧ σ.1 218 23 = σ0.1 218 23 ∧ σ.1 218 24 = σ0.1 218 24)) hT (s_X12_begins hN (hR.tr hT) (htp) (by rw [hT.2 224 (by decide)]; exact hY)) (by decide) (fun v5 σ6 hOσ6 hT hqv5 => ?_)
    have hqv5 : (TOK σ6.1 ∧ σ6.1 218 14 = 0 ∧ σ6.1 218 25 = 0 ∧ σ6.1 218 7 = 0) ∧ (σ6.1 218 20 = σ0.1 218 20 ∧ σ6.1 218 22 = σ0.1 218 22 ∧ σ6.1 218 23 = σ0.1 218 23 ∧ σ6.1 218 24 = σ0.1 218 24) := hqv5
    have hkv5 := hqv5
    have hqv5 := hqv5.1
    have r219_σ6 : σ6.1 219 = σ0.1 219 := hOσ6.2 219 (by decide)
    have hK : TOK σ6.1 := by first | exact hqv5.1 | exact TOK_p eσ6 (by decide) hK
    have hB : ZB σ6.1 := ZB.tr hOσ6 (by decide) hB
    have g20_σ6 : σ6.1 218 20 = (σ0.1 218 20) := hkv5.2.1
    have g22_σ6 : σ6.1 218 22 = (σ0.1 218 22) := hkv5.2.2.1
    have g23_σ6 : σ6.1 218 23 = (σ0.1 218 23) := hkv5.2.2.2.1
    have g24_σ6 : σ6.1 218 24 = (σ0.1 218 24) := hkv5.2.2.2.2
    have t7 := hqv5.2.2.2
    refine ok_gR (v := 219) hT rfl (hR 218 1 rfl) ?_
    refine ok_aIc (j := 0) hT rfl (by decide) rfl (by decide) (by decide) ?_
    refine ok_gR (v := 220) hT rfl (hR 218 2 rfl) ?_
    refine ok_gC rfl ?_
    refine ok_zbT (Q := fun V σ => (TOK σ.1 ∧ (σ6.1 218 11).toInt ≤ (σ.1 218 11).toInt ∧ (σ.1 218 14 = 0 → σ6.1 218 14 = 0) ∧ ZB σ.1) ∧ (σ.1 218 7 = σ6.1 218 7 ∧ σ.1 218 9 = σ6.1 218 9)) hT (s_X12_readsSum_220 hN (hR.tr hT) (hK) (by rw [hT.2 224 (by decide)]; exact hY) (hB) (hM.1)) (by decide) (fun v10 σ11 hOσ11 hT hqv10 => ?_)
    have hqv10 : (TOK σ11.1 ∧ (σ6.1 218 11).toInt ≤ (σ11.1 218 11).toInt ∧ (σ11.1 218 14 = 0 → σ6.1 218 14 = 0) ∧ ZB σ11.1) ∧ (σ11.1 218 7 = σ6.1 218 7 ∧ σ11.1 218 9 = σ6.1 218 9) := hqv10
    have hkv10 := hqv10
    have hqv10 := hqv10.1
    have r219_σ11 : σ11.1 219 = σ0.1 219 := (hOσ11.2 219 (by decide)).trans r219_σ6
    have hK : TOK σ11.1 := by first | exact hqv10.1 | exact TOK_p eσ11 (by decide) hK
    have hB : ZB σ11.1 := by first | exact hqv10.2.2.2 | exact hqv10 | exact ZB_s eσ11 hB
    try simp only [g20_σ6, g22_σ6, g23_σ6, g24_σ6] at hqv10
    have g7_σ11 : σ11.1 218 7 = (σ6.1 218 7) := hkv10.2.1
    have g9_σ11 : σ11.1 218 9 = (σ6.1 218 9) := hkv10.2.2
    refine ok_gC rfl ?_
    refine ok_zbX (Q := fun V => (V = 0 → ¬ σ11.1 218 14 = 0) ∧ (¬ V = 0 → σ11.1 218 14 = 0)) (x_X12_good) (fun v12 hqv12 => ?_)
    have hqv12 : (v12 = 0 → ¬ σ11.1 218 14 = 0) ∧ (¬ v12 = 0 → σ11.1 218 14 = 0) := hqv12
    try simp only [g7_σ11, g9_σ11, hT.2 224 (by decide)] at hqv12
    refine ok_if (fun hc14 => ?_) (fun hc14 => ?_)
    · have qhc14 := hqv12.1 hc14
      rw [J_X12_put_53.eq_1]
      refine ok_gC rfl ?_
      refine ok_zbX (Q := fun V => (V = 0 → ¬ σ11.1 218 14 = 0) ∧ (¬ V = 0 → σ11.1 218 14 = 0)) (x_X12_good) (fun v15 hqv15 => ?_)
      have hqv15 : (v15 = 0 → ¬ σ11.1 218 14 = 0) ∧ (¬ v15 = 0 → σ11.1 218 14 = 0) := hqv15
      try simp only [g7_σ11, g9_σ11, hT.2 224 (by decide)] at hqv15
      refine ok_if (fun hc17 => ?_) (fun hc17 => ?_)
      · have qhc17 := hqv15.1 hc17
        exact ok_some ⟨hT, (show ZB σ11.1 ∧ σ11.1 218 7 = 0 from by first | exact ⟨hB, (g7_σ11).trans t7⟩ | exact ⟨hB, g7_σ11⟩)⟩
      · have qhc17 := hqv15.2 hc17
        refine ok_lp (fun t : Int32 × zS => Tr [218, 220, 226, 227, 228, 229, 230] σ0 (t.2) ∧ (0 ≤ (t.1).toInt) ∧ (TOK (t.2).1) ∧ (ZB (t.2).1) ∧ ((t.2).1 218 7 = (σ6.1 218 7)) ∧ ((t.2).1 218 9 = (σ6.1 218 9)) ∧ ((t.2).1 218 10 = (σ11.1 218 10)) ∧ ((t.2).1 218 11 = (σ11.1 218 11)) ∧ ((t.2).1 218 12 = (σ11.1 218 12)) ∧ ((t.2).1 218 13 = (σ11.1 218 13)) ∧ ((t.2).1 218 14 = (σ11.1 218 14)) ∧ ((t.2).1 218 15 = (σ11.1 218 15)) ∧ ((t.2).1 218 20 = (σ11.1 218 20)) ∧ ((t.2).1 218 22 = (σ11.1 218 22)) ∧ ((t.2).1 218 23 = (σ11.1 218 23)) ∧ ((t.2).1 218 24 = (σ11.1 218 24)) ∧ ((t.2).1 218 25 = (σ11.1 218 25)) ∧ ((t.2).1 219 = σ0.1 219)) (fun t : Int32 × zS => (1024 - (t.1).toInt).toNat) (fun again18 t hI ih65_18 => ?_) N _ (show Tr [218, 220, 226, 227, 228, 229, 230] σ0 σ11 ∧ (0 ≤ (0 : Int32).toInt) ∧ (TOK σ11.1) ∧ (ZB σ11.1) ∧ (σ11.1 218 7 = (σ6.1 218 7)) ∧ (σ11.1 218 9 = (σ6.1 218 9)) ∧ (σ11.1 218 10 = (σ11.1 218 10)) ∧ (σ11.1 218 11 = (σ11.1 218 11)) ∧ (σ11.1 218 12 = (σ11.1 218 12)) ∧ (σ11.1 218 13 = (σ11.1 218 13)) ∧ (σ11.1 218 14 = (σ11.1 218 14)) ∧ (σ11.1 218 15 = (σ11.1 218 15)) ∧ (σ11.1 218 20 = (σ11.1 218 20)) ∧ (σ11.1 218 22 = (σ11.1 218 22)) ∧ (σ11.1 218 23 = (σ11.1 218 23)) ∧ (σ11.1 218 24 = (σ11.1 218 24)) ∧ (σ11.1 218 25 = (σ11.1 218 25)) ∧ (σ11.1 219 = σ0.1 219) from ⟨hT, (by decide), hK, hB, g7_σ11, g9_σ11, rfl, rfl, rfl, rfl, rfl, rfl, rfl, rfl, rfl, rfl, rfl, r219_σ11⟩) (show (1024 - (0 : Int32).toInt).toNat < N from (by simp only [Int32.reduceToInt]; omega))
        obtain ⟨x2_18, σ18⟩ := t
        have hI : Tr [218, 220, 226, 227, 228, 229, 230] σ0 σ18 ∧ (0 ≤ x2_18.toInt) ∧ (TOK σ18.1) ∧ (ZB σ18.1) ∧ (σ18.1 218 7 = (σ6.1 218 7)) ∧ (σ18.1 218 9 = (σ6.1 218 9)) ∧ (σ18.1 218 10 = (σ11.1 218 10)) ∧ (σ18.1 218 11 = (σ11.1 218 11)) ∧ (σ18.1 218 12 = (σ11.1 218 12)) ∧ (σ18.1 218 13 = (σ11.1 218 13)) ∧ (σ18.1 218 14 = (σ11.1 218 14)) ∧ (σ18.1 218 15 = (σ11.1 218 15)) ∧ (σ18.1 218 20 = (σ11.1 218 20)) ∧ (σ18.1 218 22 = (σ11.1 218 22)) ∧ (σ18.1 218 23 = (σ11.1 218 23)) ∧ (σ18.1 218 24 = (σ11.1 218 24)) ∧ (σ18.1 218 25 = (σ11.1 218 25)) ∧ (σ18.1 219 = σ0.1 219) := hI
        obtain ⟨hT, hI18, hK, hB, g7_σ18, g9_σ18, g10_σ18, g11_σ18, g12_σ18, g13_σ18, g14_σ18, g15_σ18, g20_σ18, g22_σ18, g23_σ18, g24_σ18, g25_σ18, r219_σ18⟩ := hI
        rw [F_X12_put_65.eq_1]
        refine ok_if (fun hc19 => ?_) (fun hc19 => ?_)
        · refine ok_gC rfl ?_
          refine ok_zbT (Q := fun V σ => ZB σ.1) hT (s_X12_lays hN (hR.tr hT) (by rw [r219_σ18]; exact hM) (hB) (h5)) (by decide) (fun v20 σ21 hOσ21 hT hqv20 => ?_)
          have hqv20 : ZB σ21.1 := hqv20
          have r219_σ21 : σ21.1 219 = σ0.1 219 := (hOσ21.2 219 (by decide)).trans r219_σ18
          have hK : TOK σ21.1 := TOK_tr hOσ21 (by decide) (by decide) hK
          have hB : ZB σ21.1 := by first | exact hqv20.2.2.2 | exact hqv20 | exact ZB_s eσ21 hB
          try simp only [g7_σ18, g9_σ18, g10_σ18, g11_σ18, g12_σ18, g13_σ18, g14_σ18, g15_σ18, g20_σ18, g22_σ18, g23_σ18, g24_σ18, g25_σ18] at hqv20
          have g7_σ21 : σ21.1 218 7 = (σ6.1 218 7) := (congrFun (hOσ21.2 218 (by decide)) 7).trans g7_σ18
          have g9_σ21 : σ21.1 218 9 = (σ6.1 218 9) := (congrFun (hOσ21.2 218 (by decide)) 9).trans g9_σ18
          have g10_σ21 : σ21.1 218 10 = (σ11.1 218 10) := (congrFun (hOσ21.2 218 (by decide)) 10).trans g10_σ18
          have g11_σ21 : σ21.1 218 11 = (σ11.1 218 11) := (congrFun (hOσ21.2 218 (by decide)) 11).trans g11_σ18
          have g12_σ21 : σ21.1 218 12 = (σ11.1 218 12) := (congrFun (hOσ21.2 218 (by decide)) 12).trans g12_σ18
          have g13_σ21 : σ21.1 218 13 = (σ11.1 218 13) := (congrFun (hOσ21.2 218 (by decide)) 13).trans g13_σ18
          have g14_σ21 : σ21.1 218 14 = (σ11.1 218 14) := (congrFun (hOσ21.2 218 (by decide)) 14).trans g14_σ18
          have g15_σ21 : σ21.1 218 15 = (σ11.1 218 15) := (congrFun (hOσ21.2 218 (by decide)) 15).trans g15_σ18
          have g20_σ21 : σ21.1 218 20 = (σ11.1 218 20) := (congrFun (hOσ21.2 218 (by decide)) 20).trans g20_σ18
          have g22_σ21 : σ21.1 218 22 = (σ11.1 218 22) := (congrFun (hOσ21.2 218 (by decide)) 22).trans g22_σ18
          have g23_σ21 : σ21.1 218 23 = (σ11.1 218 23) := (congrFun (hOσ21.2 218 (by decide)) 23).trans g23_σ18
          have g24_σ21 : σ21.1 218 24 = (σ11.1 218 24) := (congrFun (hOσ21.2 218 (by decide)) 24).trans g24_σ18
          have g25_σ21 : σ21.1 218 25 = (σ11.1 218 25) := (congrFun (hOσ21.2 218 (by decide)) 25).trans g25_σ18
          exact ok_some ⟨hT, (show ZB σ21.1 ∧ σ21.1 218 7 = 0 from by first | exact ⟨hB, (g7_σ21).trans t7⟩ | exact ⟨hB, g7_σ21⟩)⟩
        · have l68 := hc19
          rw [Int32.le_iff_toInt_le] at l68
          try simp only [Int32.reduceToInt] at l68
          have s68 : (x2_18 + 1).toInt = x2_18.toInt + 1 := by rw [ti_add]; simp only [Int32.reduceToInt]; omega
          refine ok_gR (v := 227) hT rfl (hR 218 17 rfl) ?_
          refine ok_gR (v := 226) hT rfl (hR 218 16 rfl) ?_
          refine ok_aIn rfl (by ((try simp only [g7_σ18, g9_σ18, g10_σ18, g11_σ18, g12_σ18, g13_σ18, g14_σ18, g15_σ18, g20_σ18, g22_σ18, g23_σ18, g24_σ18, g25_σ18])); first | omega | decide | (simp only [Int32.le_iff_toInt_le, Int32.lt_iff_toInt_lt, ti_add, ti_sub, ti_mul, Int32.reduceToInt] at *; omega)) (by ((try simp only [g7_σ18, g9_σ18, g10_σ18, g11_σ18, g12_σ18, g13_σ18, g14_σ18, g15_σ18, g20_σ18, g22_σ18, g23_σ18, g24_σ18, g25_σ18])); first | omega | decide | (simp only [Int32.le_iff_toInt_le, Int32.lt_iff_toInt_lt, ti_add, ti_sub, ti_mul, Int32.reduceToInt] at *; omega)) (fun v24 ev24 => ?_)
          have zv24 : v24 = 0 ∨ v24 = 1 := by rw [ev24]; exact hB 226 rfl _
          refine ok_s16 hT rfl (by decide) (by ((try simp only [g7_σ18, g9_σ18, g10_σ18, g11_σ18, g12_σ18, g13_σ18, g14_σ18, g15_σ18, g20_σ18, g22_σ18, g23_σ18, g24_σ18, g25_σ18])); first | omega | decide | (simp only [Int32.le_iff_toInt_le, Int32.lt_iff_toInt_lt, ti_add, ti_sub, ti_mul, Int32.reduceToInt] at *; omega)) (by ((try simp only [g7_σ18, g9_σ18, g10_σ18, g11_σ18, g12_σ18, g13_σ18, g14_σ18, g15_σ18, g20_σ18, g22_σ18, g23_σ18, g24_σ18, g25_σ18])); first | omega | decide | (simp only [Int32.le_iff_toInt_le, Int32.lt_iff_toInt_lt, ti_add, ti_sub, ti_mul, Int32.reduceToInt] at *; omega)) (fun σ25 eσ25 hOσ25 hT => ?_)
          have r219_σ25 : σ25.1 219 = σ0.1 219 := (hOσ25.2 219 (by decide)).trans r219_σ18
          have hK : TOK σ25.1 := TOK_tr hOσ25 (by decide) (by decide) hK
          have hB : ZB σ25.1 := by first | exact HQ.2.2.2 | exact HQ | exact ZB_s eσ25 hB
          have g7_σ25 : σ25.1 218 7 = (σ6.1 218 7) := (congrFun (hOσ25.2 218 (by decide)) 7).trans g7_σ18
          have g9_σ25 : σ25.1 218 9 = (σ6.1 218 9) := (congrFun (hOσ25.2 218 (by decide)) 9).trans g9_σ18
          have g10_σ25 : σ25.1 218 10 = (σ11.1 218 10) := (congrFun (hOσ25.2 218 (by decide)) 10).trans g10_σ18
          have g11_σ25 : σ25.1 218 11 = (σ11.1 218 11) := (congrFun (hOσ25.2 218 (by decide)) 11).trans g11_σ18
          have g12_σ25 : σ25.1 218 12 = (σ11.1 218 12) := (congrFun (hOσ25.2 218 (by decide)) 12).trans g12_σ18
          have g13_σ25 : σ25.1 218 13 = (σ11.1 218 13) := (congrFun (hOσ25.2 218 (by decide)) 13).trans g13_σ18
          have g14_σ25 : σ25.1 218 14 = (σ11.1 218 14) := (congrFun (hOσ25.2 218 (by decide)) 14).trans g14_σ18
          have g15_σ25 : σ25.1 218 15 = (σ11.1 218 15) := (congrFun (hOσ25.2 218 (by decide)) 15).trans g15_σ18
          have g20_σ25 : σ25.1 218 20 = (σ11.1 218 20) := (congrFun (hOσ25.2 218 (by decide)) 20).trans g20_σ18
          have g22_σ25 : σ25.1 218 22 = (σ11.1 218 22) := (congrFun (hOσ25.2 218 (by decide)) 22).trans g22_σ18
          have g23_σ25 : σ25.1 218 23 = (σ11.1 218 23) := (congrFun (hOσ25.2 218 (by decide)) 23).trans g23_σ18
          have g24_σ25 : σ25.1 218 24 = (σ11.1 218 24) := (congrFun (hOσ25.2 218 (by decide)) 24).trans g24_σ18
          have g25_σ25 : σ25.1 218 25 = (σ11.1 218 25) := (congrFun (hOσ25.2 218 (by decide)) 25).trans g25_σ18
          exact ih65_18 (x2_18 + 1, σ25) (show Tr [218, 220, 226, 227, 228, 229, 230] σ0 σ25 ∧ (0 ≤ (x2_18 + 1).toInt) ∧ (TOK σ25.1) ∧ (ZB σ25.1) ∧ (σ25.1 218 7 = (σ6.1 218 7)) ∧ (σ25.1 218 9 = (σ6.1 218 9)) ∧ (σ25.1 218 10 = (σ11.1 218 10)) ∧ (σ25.1 218 11 = (σ11.1 218 11)) ∧ (σ25.1 218 12 = (σ11.1 218 12)) ∧ (σ25.1 218 13 = (σ11.1 218 13)) ∧ (σ25.1 218 14 = (σ11.1 218 14)) ∧ (σ25.1 218 15 = (σ11.1 218 15)) ∧ (σ25.1 218 20 = (σ11.1 218 20)) ∧ (σ25.1 218 22 = (σ11.1 218 22)) ∧ (σ25.1 218 23 = (σ11.1 218 23)) ∧ (σ25.1 218 24 = (σ11.1 218 24)) ∧ (σ25.1 218 25 = (σ11.1 218 25)) ∧ (σ25.1 219 = σ0.1 219) from ⟨hT, (by rw [s68]; omega), hK, hB, g7_σ25, g9_σ25, g10_σ25, g11_σ25, g12_σ25, g13_σ25, g14_σ25, g15_σ25, g20_σ25, g22_σ25, g23_σ25, g24_σ25, g25_σ25, r219_σ25⟩) (show (1024 - (x2_18 + 1).toInt).toNat < (1024 - x2_18.toInt).toNat from (by rw [s68]; omega))
    · have qhc14 := hqv12.2 hc14
      refine ok_gI rfl ?_
      refine ok_if (fun hc27 => ?_) (fun hc27 => ?_)
      · rw [J_X12_put_53.eq_1]
        refine ok_gC rfl ?_
        refine ok_zbX (Q := fun V => (V = 0 → ¬ σ11.1 218 14 = 0) ∧ (¬ V = 0 → σ11.1 218 14 = 0)) (x_X12_good) (fun v28 hqv28 => ?_)
        have hqv28 : (v28 = 0 → ¬ σ11.1 218 14 = 0) ∧ (¬ v28 = 0 → σ11.1 218 14 = 0) := hqv28
        try simp only [g7_σ11, g9_σ11, hT.2 224 (by decide)] at hqv28
        refine ok_if (fun hc30 => ?_) (fun hc30 => ?_)
        · have qhc30 := hqv28.1 hc30
          exact ok_some ⟨hT, (show ZB σ11.1 ∧ σ11.1 218 7 = 0 from by first | exact ⟨hB, (g7_σ11).trans t7⟩ | exact ⟨hB, g7_σ11⟩)⟩
        · have qhc30 := hqv28.2 hc30
          refine ok_lp (fun t : Int32 × zS => Tr [218, 220, 226, 227, 228, 229, 230] σ0 (t.2) ∧ (0 ≤ (t.1).toInt) ∧ (TOK (t.2).1) ∧ (ZB (t.2).1) ∧ ((t.2).1 218 7 = (σ6.1 218 7)) ∧ ((t.2).1 218 9 = (σ6.1 218 9)) ∧ ((t.2).1 218 10 = (σ11.1 218 10)) ∧ ((t.2).1 218 11 = (σ11.1 218 11)) ∧ ((t.2).1 218 12 = (σ11.1 218 12)) ∧ ((t.2).1 218 13 = (σ11.1 218 13)) ∧ ((t.2).1 218 14 = (σ11.1 218 14)) ∧ ((t.2).1 218 15 = (σ11.1 218 15)) ∧ ((t.2).1 218 20 = (σ11.1 218 20)) ∧ ((t.2).1 218 22 = (σ11.1 218 22)) ∧ ((t.2).1 218 23 = (σ11.1 218 23)) ∧ ((t.2).1 218 24 = (σ11.1 218 24)) ∧ ((t.2).1 218 25 = (σ11.1 218 25)) ∧ ((t.2).1 219 = σ0.1 219)) (fun t : Int32 × zS => (1024 - (t.1).toInt).toNat) (fun again31 t hI ih65_31 => ?_) N _ (show Tr [218, 220, 226, 227, 228, 229, 230] σ0 σ11 ∧ (0 ≤ (0 : Int32).toInt) ∧ (TOK σ11.1) ∧ (ZB σ11.1) ∧ (σ11.1 218 7 = (σ6.1 218 7)) ∧ (σ11.1 218 9 = (σ6.1 218 9)) ∧ (σ11.1 218 10 = (σ11.1 218 10)) ∧ (σ11.1 218 11 = (σ11.1 218 11)) ∧ (σ11.1 218 12 = (σ11.1 218 12)) ∧ (σ11.1 218 13 = (σ11.1 218 13)) ∧ (σ11.1 218 14 = (σ11.1 218 14)) ∧ (σ11.1 218 15 = (σ11.1 218 15)) ∧ (σ11.1 218 20 = (σ11.1 218 20)) ∧ (σ11.1 218 22 = (σ11.1 218 22)) ∧ (σ11.1 218 23 = (σ11.1 218 23)) ∧ (σ11.1 218 24 = (σ11.1 218 24)) ∧ (σ11.1 218 25 = (σ11.1 218 25)) ∧ (σ11.1 219 = σ0.1 219) from ⟨hT, (by decide), hK, hB, g7_σ11, g9_σ11, rfl, rfl, rfl, rfl, rfl, rfl, rfl, rfl, rfl, rfl, rfl, r219_σ11⟩) (show (1024 - (0 : Int32).toInt).toNat < N from (by simp only [Int32.reduceToInt]; omega))
          obtain ⟨x2_31, σ31⟩ := t
          have hI : Tr [218, 220, 226, 227, 228, 229, 230] σ0 σ31 ∧ (0 ≤ x2_31.toInt) ∧ (TOK σ31.1) ∧ (ZB σ31.1) ∧ (σ31.1 218 7 = (σ6.1 218 7)) ∧ (σ31.1 218 9 = (σ6.1 218 9)) ∧ (σ31.1 218 10 = (σ11.1 218 10)) ∧ (σ31.1 218 11 = (σ11.1 218 11)) ∧ (σ31.1 218 12 = (σ11.1 218 12)) ∧ (σ31.1 218 13 = (σ11.1 218 13)) ∧ (σ31.1 218 14 = (σ11.1 218 14)) ∧ (σ31.1 218 15 = (σ11.1 218 15)) ∧ (σ31.1 218 20 = (σ11.1 218 20)) ∧ (σ31.1 218 22 = (σ11.1 218 22)) ∧ (σ31.1 218 23 = (σ11.1 218 23)) ∧ (σ31.1 218 24 = (σ11.1 218 24)) ∧ (σ31.1 218 25 = (σ11.1 218 25)) ∧ (σ31.1 219 = σ0.1 219) := hI
          obtain ⟨hT, hI31, hK, hB, g7_σ31, g9_σ31, g10_σ31, g11_σ31, g12_σ31, g13_σ31, g14_σ31, g15_σ31, g20_σ31, g22_σ31, g23_σ31, g24_σ31, g25_σ31, r219_σ31⟩ := hI
          rw [F_X12_put_65.eq_1]
          refine ok_if (fun hc32 => ?_) (fun hc32 => ?_)
          · refine ok_gC rfl ?_
            refine ok_zbT (Q := fun V σ => ZB σ.1) hT (s_X12_lays hN (hR.tr hT) (by rw [r219_σ31]; exact hM) (hB) (h5)) (by decide) (fun v33 σ34 hOσ34 hT hqv33 => ?_)
            have hqv33 : ZB σ34.1 := hqv33
            have r219_σ34 : σ34.1 219 = σ0.1 219 := (hOσ34.2 219 (by decide)).trans r219_σ31
            have hK : TOK σ34.1 := TOK_tr hOσ34 (by decide) (by decide) hK
            have hB : ZB σ34.1 := by first | exact hqv33.2.2.2 | exact hqv33 | exact ZB_s eσ34 hB
            try simp only [g7_σ31, g9_σ31, g10_σ31, g11_σ31, g12_σ31, g13_σ31, g14_σ31, g15_σ31, g20_σ31, g22_σ31, g23_σ31, g24_σ31, g25_σ31] at hqv33
            have g7_σ34 : σ34.1 218 7 = (σ6.1 218 7) := (congrFun (hOσ34.2 218 (by decide)) 7).trans g7_σ31
            have g9_σ34 : σ34.1 218 9 = (σ6.1 218 9) := (congrFun (hOσ34.2 218 (by decide)) 9).trans g9_σ31
            have g10_σ34 : σ34.1 218 10 = (σ11.1 218 10) := (congrFun (hOσ34.2 218 (by decide)) 10).trans g10_σ31
            have g11_σ34 : σ34.1 218 11 = (σ11.1 218 11) := (congrFun (hOσ34.2 218 (by decide)) 11).trans g11_σ31
            have g12_σ34 : σ34.1 218 12 = (σ11.1 218 12) := (congrFun (hOσ34.2 218 (by decide)) 12).trans g12_σ31
            have g13_σ34 : σ34.1 218 13 = (σ11.1 218 13) := (congrFun (hOσ34.2 218 (by decide)) 13).trans g13_σ31
            have g14_σ34 : σ34.1 218 14 = (σ11.1 218 14) := (congrFun (hOσ34.2 218 (by decide)) 14).trans g14_σ31
            have g15_σ34 : σ34.1 218 15 = (σ11.1 218 15) := (congrFun (hOσ34.2 218 (by decide)) 15).trans g15_σ31
            have g20_σ34 : σ34.1 218 20 = (σ11.1 218 20) := (congrFun (hOσ34.2 218 (by decide)) 20).trans g20_σ31
            have g22_σ34 : σ34.1 218 22 = (σ11.1 218 22) := (congrFun (hOσ34.2 218 (by decide)) 22).trans g22_σ31
            have g23_σ34 : σ34.1 218 23 = (σ11.1 218 23) := (congrFun (hOσ34.2 218 (by decide)) 23).trans g23_σ31
            have g24_σ34 : σ34.1 218 24 = (σ11.1 218 24) := (congrFun (hOσ34.2 218 (by decide)) 24).trans g24_σ31
            have g25_σ34 : σ34.1 218 25 = (σ11.1 218 25) := (congrFun (hOσ34.2 218 (by decide)) 25).trans g25_σ31
            exact ok_some ⟨hT, (show ZB σ34.1 ∧ σ34.1 218 7 = 0 from by first | exact ⟨hB, (g7_σ34).trans t7⟩ | exact ⟨hB, g7_σ34⟩)⟩
          · have l68 := hc32
            rw [Int32.le_iff_toInt_le] at l68
            try simp only [Int32.reduceToInt] at l68
            have s68 : (x2_31 + 1).toInt = x2_31.toInt + 1 := by rw [ti_add]; simp only [Int32.reduceToInt]; omega
            refine ok_gR (v := 227) hT rfl (hR 218 17 rfl) ?_
            refine ok_gR (v := 226) hT rfl (hR 218 16 rfl) ?_
            refine ok_aIn rfl (by ((try simp only [g7_σ31, g9_σ31, g10_σ31, g11_σ31, g12_σ31, g13_σ31, g14_σ31, g15_σ31, g20_σ31, g22_σ31, g23_σ31, g24_σ31, g25_σ31])); first | omega | decide | (simp only [Int32.le_iff_toInt_le, Int32.lt_iff_toInt_lt, ti_add, ti_sub, ti_mul, Int32.reduceToInt] at *; omega)) (by ((try simp only [g7_σ31, g9_σ31, g10_σ31, g11_σ31, g12_σ31, g13_σ31, g14_σ31, g15_σ31, g20_σ31, g22_σ31, g23_σ31, g24_σ31, g25_σ31])); first | omega | decide | (simp only [Int32.le_iff_toInt_le, Int32.lt_iff_toInt_lt, ti_add, ti_sub, ti_mul, Int32.reduceToInt] at *; omega)) (fun v37 ev37 => ?_)
            have zv37 : v37 = 0 ∨ v37 = 1 := by rw [ev37]; exact hB 226 rfl _
            refine ok_s16 hT rfl (by decide) (by ((try simp only [g7_σ31, g9_σ31, g10_σ31, g11_σ31, g12_σ31, g13_σ31, g14_σ31, g15_σ31, g20_σ31, g22_σ31, g23_σ31, g24_σ31, g25_σ31])); first | omega | decide | (simp only [Int32.le_iff_toInt_le, Int32.lt_iff_toInt_lt, ti_add, ti_sub, ti_mul, Int32.reduceToInt] at *; omega)) (by ((try simp only [g7_σ31, g9_σ31, g10_σ31, g11_σ31, g12_σ31, g13_σ31, g14_σ31, g15_σ31, g20_σ31, g22_σ31, g23_σ31, g24_σ31, g25_σ31])); first | omega | decide | (simp only [Int32.le_iff_toInt_le, Int32.lt_iff_toInt_lt, ti_add, ti_sub, ti_mul, Int32.reduceToInt] at *; omega)) (fun σ38 eσ38 hOσ38 hT => ?_)
            have r219_σ38 : σ38.1 219 = σ0.1 219 := (hOσ38.2 219 (by decide)).trans r219_σ31
            have hK : TOK σ38.1 := TOK_tr hOσ38 (by decide) (by decide) hK
            have hB : ZB σ38.1 := by first | exact HQ.2.2.2 | exact HQ | exact ZB_s eσ38 hB
            have g7_σ38 : σ38.1 218 7 = (σ6.1 218 7) := (congrFun (hOσ38.2 218 (by decide)) 7).trans g7_σ31
            have g9_σ38 : σ38.1 218 9 = (σ6.1 218 9) := (congrFun (hOσ38.2 218 (by decide)) 9).trans g9_σ31
            have g10_σ38 : σ38.1 218 10 = (σ11.1 218 10) := (congrFun (hOσ38.2 218 (by decide)) 10).trans g10_σ31
            have g11_σ38 : σ38.1 218 11 = (σ11.1 218 11) := (congrFun (hOσ38.2 218 (by decide)) 11).trans g11_σ31
            have g12_σ38 : σ38.1 218 12 = (σ11.1 218 12) := (congrFun (hOσ38.2 218 (by decide)) 12).trans g12_σ31
            have g13_σ38 : σ38.1 218 13 = (σ11.1 218 13) := (congrFun (hOσ38.2 218 (by decide)) 13).trans g13_σ31
            have g14_σ38 : σ38.1 218 14 = (σ11.1 218 14) := (congrFun (hOσ38.2 218 (by decide)) 14).trans g14_σ31
            have g15_σ38 : σ38.1 218 15 = (σ11.1 218 15) := (congrFun (hOσ38.2 218 (by decide)) 15).trans g15_σ31
            have g20_σ38 : σ38.1 218 20 = (σ11.1 218 20) := (congrFun (hOσ38.2 218 (by decide)) 20).trans g20_σ31
            have g22_σ38 : σ38.1 218 22 = (σ11.1 218 22) := (congrFun (hOσ38.2 218 (by decide)) 22).trans g22_σ31
            have g23_σ38 : σ38.1 218 23 = (σ11.1 218 23) := (congrFun (hOσ38.2 218 (by decide)) 23).trans g23_σ31
            have g24_σ38 : σ38.1 218 24 = (σ11.1 218 24) := (congrFun (hOσ38.2 218 (by decide)) 24).trans g24_σ31
            have g25_σ38 : σ38.1 218 25 = (σ11.1 218 25) := (congrFun (hOσ38.2 218 (by decide)) 25).trans g25_σ31
            exact ih65_31 (x2_31 + 1, σ38) (show Tr [218, 220, 226, 227, 228, 229, 230] σ0 σ38 ∧ (0 ≤ (x2_31 + 1).toInt) ∧ (TOK σ38.1) ∧ (ZB σ38.1) ∧ (σ38.1 218 7 = (σ6.1 218 7)) ∧ (σ38.1 218 9 = (σ6.1 218 9)) ∧ (σ38.1 218 10 = (σ11.1 218 10)) ∧ (σ38.1 218 11 = (σ11.1 218 11)) ∧ (σ38.1 218 12 = (σ11.1 218 12)) ∧ (σ38.1 218 13 = (σ11.1 218 13)) ∧ (σ38.1 218 14 = (σ11.1 218 14)) ∧ (σ38.1 218 15 = (σ11.1 218 15)) ∧ (σ38.1 218 20 = (σ11.1 218 20)) ∧ (σ38.1 218 22 = (σ11.1 218 22)) ∧ (σ38.1 218 23 = (σ11.1 218 23)) ∧ (σ38.1 218 24 = (σ11.1 218 24)) ∧ (σ38.1 218 25 = (σ11.1 218 25)) ∧ (σ38.1 219 = σ0.1 219) from ⟨hT, (by rw [s68]; omega), hK, hB, g7_σ38, g9_σ38, g10_σ38, g11_σ38, g12_σ38, g13_σ38, g14_σ38, g15_σ38, g20_σ38, g22_σ38, g23_σ38, g24_σ38, g25_σ38, r219_σ38⟩) (show (1024 - (x2_31 + 1).toInt).toNat < (1024 - x2_31.toInt).toNat from (by rw [s68]; omega))
      · refine ok_gC rfl ?_
        refine ok_zbT (Q := fun V σ => (TOK σ.1 ∧ ¬ σ.1 218 14 = 0) ∧ (σ.1 218 7 = σ11.1 218 7 ∧ σ.1 218 9 = σ11.1 218 9 ∧ σ.1 218 10 = σ11.1 218 10 ∧ σ.1 218 11 = σ11.1 218 11 ∧ σ.1 218 12 = σ11.1 218 12 ∧ σ.1 218 13 = σ11.1 218 13 ∧ σ.1 218 20 = σ11.1 218 20 ∧ σ.1 218 22 = σ11.1 218 22 ∧ σ.1 218 23 = σ11.1 218 23 ∧ σ.1 218 24 = σ11.1 218 24 ∧ σ.1 218 25 = σ11.1 218 25)) hT (s_X12_errs hN (hR.tr hT) (hK) (by rw [hT.2 224 (by decide)]; exact hY) (by decide)) (by decide) (fun v39 σ40 hOσ40 hT hqv39 => ?_)
        have hqv39 : (TOK σ40.1 ∧ ¬ σ40.1 218 14 = 0) ∧ (σ40.1 218 7 = σ11.1 218 7 ∧ σ40.1 218 9 = σ11.1 218 9 ∧ σ40.1 218 10 = σ11.1 218 10 ∧ σ40.1 218 11 = σ11.1 218 11 ∧ σ40.1 218 12 = σ11.1 218 12 ∧ σ40.1 218 13 = σ11.1 218 13 ∧ σ40.1 218 20 = σ11.1 218 20 ∧ σ40.1 218 22 = σ11.1 218 22 ∧ σ40.1 218 23 = σ11.1 218 23 ∧ σ40.1 218 24 = σ11.1 218 24 ∧ σ40.1 218 25 = σ11.1 218 25) := hqv39
        have hkv39 := hqv39
        have hqv39 := hqv39.1
        have r219_σ40 : σ40.1 219 = σ0.1 219 := (hOσ40.2 219 (by decide)).trans r219_σ11
        have hK : TOK σ40.1 := by first | exact hqv39.1 | exact TOK_p eσ40 (by decide) hK
        have hB : ZB σ40.1 := ZB.tr hOσ40 (by decide) hB
        try simp only [g7_σ11, g9_σ11] at hqv39
        have g7_σ40 : σ40.1 218 7 = (σ6.1 218 7) := (hkv39.2.1).trans g7_σ11
        have g9_σ40 : σ40.1 218 9 = (σ6.1 218 9) := (hkv39.2.2.1).trans g9_σ11
        have g10_σ40 : σ40.1 218 10 = (σ11.1 218 10) := hkv39.2.2.2.1
        have g11_σ40 : σ40.1 218 11 = (σ11.1 218 11) := hkv39.2.2.2.2.1
        have g12_σ40 : σ40.1 218 12 = (σ11.1 218 12) := hkv39.2.2.2.2.2.1
        have g13_σ40 : σ40.1 218 13 = (σ11.1 218 13) := hkv39.2.2.2.2.2.2.1
        have g20_σ40 : σ40.1 218 20 = (σ11.1 218 20) := hkv39.2.2.2.2.2.2.2.1
        have g22_σ40 : σ40.1 218 22 = (σ11.1 218 22) := hkv39.2.2.2.2.2.2.2.2.1
        have g23_σ40 : σ40.1 218 23 = (σ11.1 218 23) := hkv39.2.2.2.2.2.2.2.2.2.1
        have g24_σ40 : σ40.1 218 24 = (σ11.1 218 24) := hkv39.2.2.2.2.2.2.2.2.2.2.1
        have g25_σ40 : σ40.1 218 25 = (σ11.1 218 25) := hkv39.2.2.2.2.2.2.2.2.2.2.2
        rw [J_X12_put_53.eq_1]
        refine ok_gC rfl ?_
        refine ok_zbX (Q := fun V => (V = 0 → ¬ σ40.1 218 14 = 0) ∧ (¬ V = 0 → σ40.1 218 14 = 0)) (x_X12_good) (fun v41 hqv41 => ?_)
        have hqv41 : (v41 = 0 → ¬ σ40.1 218 14 = 0) ∧ (¬ v41 = 0 → σ40.1 218 14 = 0) := hqv41
        try simp only [g7_σ40, g9_σ40, g10_σ40, g11_σ40, g12_σ40, g13_σ40, g20_σ40, g22_σ40, g23_σ40, g24_σ40, g25_σ40, hT.2 224 (by decide)] at hqv41
        refine ok_if (fun hc43 => ?_) (fun hc43 => ?_)
        · have qhc43 := hqv41.1 hc43
          exact ok_some ⟨hT, (show ZB σ40.1 ∧ σ40.1 218 7 = 0 from by first | exact ⟨hB, (g7_σ40).trans t7⟩ | exact ⟨hB, g7_σ40⟩)⟩
        · have qhc43 := hqv41.2 hc43
          refine ok_lp (fun t : Int32 × zS => Tr [218, 220, 226, 227, 228, 229, 230] σ0 (t.2) ∧ (0 ≤ (t.1).toInt) ∧ (TOK (t.2).1) ∧ (ZB (t.2).1) ∧ ((t.2).1 218 7 = (σ6.1 218 7)) ∧ ((t.2).1 218 9 = (σ6.1 218 9)) ∧ ((t.2).1 218 10 = (σ11.1 218 10)) ∧ ((t.2).1 218 11 = (σ11.1 218 11)) ∧ ((t.2).1 218 12 = (σ11.1 218 12)) ∧ ((t.2).1 218 13 = (σ11.1 218 13)) ∧ ((t.2).1 218 14 = (σ40.1 218 14)) ∧ ((t.2).1 218 15 = (σ40.1 218 15)) ∧ ((t.2).1 218 20 = (σ11.1 218 20)) ∧ ((t.2).1 218 22 = (σ11.1 218 22)) ∧ ((t.2).1 218 23 = (σ11.1 218 23)) ∧ ((t.2).1 218 24 = (σ11.1 218 24)) ∧ ((t.2).1 218 25 = (σ11.1 218 25)) ∧ ((t.2).1 219 = σ0.1 219)) (fun t : Int32 × zS => (1024 - (t.1).toInt).toNat) (fun again44 t hI ih65_44 => ?_) N _ (show Tr [218, 220, 226, 227, 228, 229, 230] σ0 σ40 ∧ (0 ≤ (0 : Int32).toInt) ∧ (TOK σ40.1) ∧ (ZB σ40.1) ∧ (σ40.1 218 7 = (σ6.1 218 7)) ∧ (σ40.1 218 9 = (σ6.1 218 9)) ∧ (σ40.1 218 10 = (σ11.1 218 10)) ∧ (σ40.1 218 11 = (σ11.1 218 11)) ∧ (σ40.1 218 12 = (σ11.1 218 12)) ∧ (σ40.1 218 13 = (σ11.1 218 13)) ∧ (σ40.1 218 14 = (σ40.1 218 14)) ∧ (σ40.1 218 15 = (σ40.1 218 15)) ∧ (σ40.1 218 20 = (σ11.1 218 20)) ∧ (σ40.1 218 22 = (σ11.1 218 22)) ∧ (σ40.1 218 23 = (σ11.1 218 23)) ∧ (σ40.1 218 24 = (σ11.1 218 24)) ∧ (σ40.1 218 25 = (σ11.1 218 25)) ∧ (σ40.1 219 = σ0.1 219) from ⟨hT, (by decide), hK, hB, g7_σ40, g9_σ40, g10_σ40, g11_σ40, g12_σ40, g13_σ40, rfl, rfl, g20_σ40, g22_σ40, g23_σ40, g24_σ40, g25_σ40, r219_σ40⟩) (show (1024 - (0 : Int32).toInt).toNat < N from (by simp only [Int32.reduceToInt]; omega))
          obtain ⟨x2_44, σ44⟩ := t
          have hI : Tr [218, 220, 226, 227, 228, 229, 230] σ0 σ44 ∧ (0 ≤ x2_44.toInt) ∧ (TOK σ44.1) ∧ (ZB σ44.1) ∧ (σ44.1 218 7 = (σ6.1 218 7)) ∧ (σ44.1 218 9 = (σ6.1 218 9)) ∧ (σ44.1 218 10 = (σ11.1 218 10)) ∧ (σ44.1 218 11 = (σ11.1 218 11)) ∧ (σ44.1 218 12 = (σ11.1 218 12)) ∧ (σ44.1 218 13 = (σ11.1 218 13)) ∧ (σ44.1 218 14 = (σ40.1 218 14)) ∧ (σ44.1 218 15 = (σ40.1 218 15)) ∧ (σ44.1 218 20 = (σ11.1 218 20)) ∧ (σ44.1 218 22 = (σ11.1 218 22)) ∧ (σ44.1 218 23 = (σ11.1 218 23)) ∧ (σ44.1 218 24 = (σ11.1 218 24)) ∧ (σ44.1 218 25 = (σ11.1 218 25)) ∧ (σ44.1 219 = σ0.1 219) := hI
          obtain ⟨hT, hI44, hK, hB, g7_σ44, g9_σ44, g10_σ44, g11_σ44, g12_σ44, g13_σ44, g14_σ44, g15_σ44, g20_σ44, g22_σ44, g23_σ44, g24_σ44, g25_σ44, r219_σ44⟩ := hI
          rw [F_X12_put_65.eq_1]
          refine ok_if (fun hc45 => ?_) (fun hc45 => ?_)
          · refine ok_gC rfl ?_
            refine ok_zbT (Q := fun V σ => ZB σ.1) hT (s_X12_lays hN (hR.tr hT) (by rw [r219_σ44]; exact hM) (hB) (h5)) (by decide) (fun v46 σ47 hOσ47 hT hqv46 => ?_)
            have hqv46 : ZB σ47.1 := hqv46
            have r219_σ47 : σ47.1 219 = σ0.1 219 := (hOσ47.2 219 (by decide)).trans r219_σ44
            have hK : TOK σ47.1 := TOK_tr hOσ47 (by decide) (by decide) hK
            have hB : ZB σ47.1 := by first | exact hqv46.2.2.2 | exact hqv46 | exact ZB_s eσ47 hB
            try simp only [g7_σ44, g9_σ44, g10_σ44, g11_σ44, g12_σ44, g13_σ44, g14_σ44, g15_σ44, g20_σ44, g22_σ44, g23_σ44, g24_σ44, g25_σ44] at hqv46
            have g7_σ47 : σ47.1 218 7 = (σ6.1 218 7) := (congrFun (hOσ47.2 218 (by decide)) 7).trans g7_σ44
            have g9_σ47 : σ47.1 218 9 = (σ6.1 218 9) := (congrFun (hOσ47.2 218 (by decide)) 9).trans g9_σ44
            have g10_σ47 : σ47.1 218 10 = (σ11.1 218 10) := (congrFun (hOσ47.2 218 (by decide)) 10).trans g10_σ44
            have g11_σ47 : σ47.1 218 11 = (σ11.1 218 11) := (congrFun (hOσ47.2 218 (by decide)) 11).trans g11_σ44
            have g12_σ47 : σ47.1 218 12 = (σ11.1 218 12) := (congrFun (hOσ47.2 218 (by decide)) 12).trans g12_σ44
            have g13_σ47 : σ47.1 218 13 = (σ11.1 218 13) := (congrFun (hOσ47.2 218 (by decide)) 13).trans g13_σ44
            have g14_σ47 : σ47.1 218 14 = (σ40.1 218 14) := (congrFun (hOσ47.2 218 (by decide)) 14).trans g14_σ44
            have g15_σ47 : σ47.1 218 15 = (σ40.1 218 15) := (congrFun (hOσ47.2 218 (by decide)) 15).trans g15_σ44
            have g20_σ47 : σ47.1 218 20 = (σ11.1 218 20) := (congrFun (hOσ47.2 218 (by decide)) 20).trans g20_σ44
            have g22_σ47 : σ47.1 218 22 = (σ11.1 218 22) := (congrFun (hOσ47.2 218 (by decide)) 22).trans g22_σ44
            have g23_σ47 : σ47.1 218 23 = (σ11.1 218 23) := (congrFun (hOσ47.2 218 (by decide)) 23).trans g23_σ44
            have g24_σ47 : σ47.1 218 24 = (σ11.1 218 24) := (congrFun (hOσ47.2 218 (by decide)) 24).trans g24_σ44
            have g25_σ47 : σ47.1 218 25 = (σ11.1 218 25) := (congrFun (hOσ47.2 218 (by decide)) 25).trans g25_σ44
            exact ok_some ⟨hT, (show ZB σ47.1 ∧ σ47.1 218 7 = 0 from by first | exact ⟨hB, (g7_σ47).trans t7⟩ | exact ⟨hB, g7_σ47⟩)⟩
          · have l68 := hc45
            rw [Int32.le_iff_toInt_le] at l68
            try simp only [Int32.reduceToInt] at l68
            have s68 : (x2_44 + 1).toInt = x2_44.toInt + 1 := by rw [ti_add]; simp only [Int32.reduceToInt]; omega
            refine ok_gR (v := 227) hT rfl (hR 218 17 rfl) ?_
            refine ok_gR (v := 226) hT rfl (hR 218 16 rfl) ?_
            refine ok_aIn rfl (by ((try simp only [g7_σ44, g9_σ44, g10_σ44, g11_σ44, g12_σ44, g13_σ44, g14_σ44, g15_σ44, g20_σ44, g22_σ44, g23_σ44, g24_σ44, g25_σ44])); first | omega | decide | (simp only [Int32.le_iff_toInt_le, Int32.lt_iff_toInt_lt, ti_add, ti_sub, ti_mul, Int32.reduceToInt] at *; omega)) (by ((try simp only [g7_σ44, g9_σ44, g10_σ44, g11_σ44, g12_σ44, g13_σ44, g14_σ44, g15_σ44, g20_σ44, g22_σ44, g23_σ44, g24_σ44, g25_σ44])); first | omega | decide | (simp only [Int32.le_iff_toInt_le, Int32.lt_iff_toInt_lt, ti_add, ti_sub, ti_mul, Int32.reduceToInt] at *; omega)) (fun v50 ev50 => ?_)
            have zv50 : v50 = 0 ∨ v50 = 1 := by rw [ev50]; exact hB 226 rfl _
            refine ok_s16 hT rfl (by decide) (by ((try simp only [g7_σ44, g9_σ44, g10_σ44, g11_σ44, g12_σ44, g13_σ44, g14_σ44, g15_σ44, g20_σ44, g22_σ44, g23_σ44, g24_σ44, g25_σ44])); first | omega | decide | (simp only [Int32.le_iff_toInt_le, Int32.lt_iff_toInt_lt, ti_add, ti_sub, ti_mul, Int32.reduceToInt] at *; omega)) (by ((try simp only [g7_σ44, g9_σ44, g10_σ44, g11_σ44, g12_σ44, g13_σ44, g14_σ44, g15_σ44, g20_σ44, g22_σ44, g23_σ44, g24_σ44, g25_σ44])); first | omega | decide | (simp only [Int32.le_iff_toInt_le, Int32.lt_iff_toInt_lt, ti_add, ti_sub, ti_mul, Int32.reduceToInt] at *; omega)) (fun σ51 eσ51 hOσ51 hT => ?_)
            have r219_σ51 : σ51.1 219 = σ0.1 219 := (hOσ51.2 219 (by decide)).trans r219_σ44
            have hK : TOK σ51.1 := TOK_tr hOσ51 (by decide) (by decide) hK
            have hB : ZB σ51.1 := by first | exact HQ.2.2.2 | exact HQ | exact ZB_s eσ51 hB
            have g7_σ51 : σ51.1 218 7 = (σ6.1 218 7) := (congrFun (hOσ51.2 218 (by decide)) 7).trans g7_σ44
            have g9_σ51 : σ51.1 218 9 = (σ6.1 218 9) := (congrFun (hOσ51.2 218 (by decide)) 9).trans g9_σ44
            have g10_σ51 : σ51.1 218 10 = (σ11.1 218 10) := (congrFun (hOσ51.2 218 (by decide)) 10).trans g10_σ44
            have g11_σ51 : σ51.1 218 11 = (σ11.1 218 11) := (congrFun (hOσ51.2 218 (by decide)) 11).trans g11_σ44
            have g12_σ51 : σ51.1 218 12 = (σ11.1 218 12) := (congrFun (hOσ51.2 218 (by decide)) 12).trans g12_σ44
            have g13_σ51 : σ51.1 218 13 = (σ11.1 218 13) := (congrFun (hOσ51.2 218 (by decide)) 13).trans g13_σ44
            have g14_σ51 : σ51.1 218 14 = (σ40.1 218 14) := (congrFun (hOσ51.2 218 (by decide)) 14).trans g14_σ44
            have g15_σ51 : σ51.1 218 15 = (σ40.1 218 15) := (congrFun (hOσ51.2 218 (by decide)) 15).trans g15_σ44
            have g20_σ51 : σ51.1 218 20 = (σ11.1 218 20) := (congrFun (hOσ51.2 218 (by decide)) 20).trans g20_σ44
            have g22_σ51 : σ51.1 218 22 = (σ11.1 218 22) := (congrFun (hOσ51.2 218 (by decide)) 22).trans g22_σ44
            have g23_σ51 : σ51.1 218 23 = (σ11.1 218 23) := (congrFun (hOσ51.2 218 (by decide)) 23).trans g23_σ44
            have g24_σ51 : σ51.1 218 24 = (σ11.1 218 24) := (congrFun (hOσ51.2 218 (by decide)) 24).trans g24_σ44
            have g25_σ51 : σ51.1 218 25 = (σ11.1 218 25) := (congrFun (hOσ51.2 218 (by decide)) 25).trans g25_σ44
            exact ih65_44 (x2_44 + 1, σ51) (show Tr [218, 220, 226, 227, 228, 229, 230] σ0 σ51 ∧ (0 ≤ (x2_44 + 1).toInt) ∧ (TOK σ51.1) ∧ (ZB σ51.1) ∧ (σ51.1 218 7 = (σ6.1 218 7)) ∧ (σ51.1 218 9 = (σ6.1 218 9)) ∧ (σ51.1 218 10 = (σ11.1 218 10)) ∧ (σ51.1 218 11 = (σ11.1 218 11)) ∧ (σ51.1 218 12 = (σ11.1 218 12)) ∧ (σ51.1 218 13 = (σ11.1 218 13)) ∧ (σ51.1 218 14 = (σ40.1 218 14)) ∧ (σ51.1 218 15 = (σ40.1 218 15)) ∧ (σ51.1 218 20 = (σ11.1 218 20)) ∧ (σ51.1 218 22 = (σ11.1 218 22)) ∧ (σ51.1 218 23 = (σ11.1 218 23)) ∧ (σ51.1 218 24 = (σ11.1 218 24)) ∧ (σ51.1 218 25 = (σ11.1 218 25)) ∧ (σ51.1 219 = σ0.1 219) from ⟨hT, (by rw [s68]; omega), hK, hB, g7_σ51, g9_σ51, g10_σ51, g11_σ51, g12_σ51, g13_σ51, g14_σ51, g15_σ51, g20_σ51, g22_σ51, g23_σ51, g24_σ51, g25_σ51, r219_σ51⟩) (show (1024 - (x2_44 + 1).toInt).toNat < (1024 - x2_44.toInt).toNat from (by rw [s68]; omega))

set_option maxHeartbeats 4000000 in
set_option maxRecDepth 100000 in
theorem s_X12_world {N : Nat} (hN : 1048576 ≤ N)  {σ0 : zS}  (hR : RF σ0.2.2) (hM : MW (σ0.1 219) 0) (hB : ZB σ0.1) (htp : 0 ≤ (σ0.1 218 7).toInt ∧ (σ0.1 218 7).toInt ≤ 600) (hY : BYT (σ0.1 224)) : Ok (f_X12_world N 218 σ0) (fun r => Tr [218, 219, 220, 226, 227, 228, 229, 230, 231, 232] σ0 r.2 ∧ (MW (r.2.1 219) 0 ∧ ZB r.2.1 ∧ r.2.1 218 7 = 0)) := by
  have hT : Tr [218, 219, 220, 226, 227, 228, 229, 230, 231, 232] σ0 σ0 := Tr.rf
  rw [f_X12_world.eq_1]
  refine ok_gC rfl ?_
  refine ok_zbT (Q := fun V σ => (TOK σ.1 ∧ σ.1 218 14 = 0 ∧ σ.1 218 25 = 0 ∧ σ.1 218 7 = 0) ∧ (σ.1 218 20 = σ0.1 218 20 ∧ σ.1 218 22 = σ0.1 218 22 ∧ σ.1 218 23 = σ0.1 218 23 ∧ σ.1 218 24 = σ0.1 218 24)) hT (s_X12_begins hN (hR.tr hT) (htp) (by rw [hT.2 224 (by decide)]; exact hY)) (by decide) (fun v1 σ2 hOσ2 hT hqv1 => ?_)
  have hqv1 : (TOK σ2.1 ∧ σ2.1 218 14 = 0 ∧ σ2.1 218 25 = 0 ∧ σ2.1 218 7 = 0) ∧ (σ2.1 218 20 = σ0.1 218 20 ∧ σ2.1 218 22 = σ0.1 218 22 ∧ σ2.1 218 23 = σ0.1 218 23 ∧ σ2.1 218 24 = σ0.1 218 24) := hqv1
  have hkv1 := hqv1
  have hqv1 := hqv1.1
  have r219_σ2 : σ2.1 219 = σ0.1 219 := hOσ2.2 219 (by decide)
  have r231_σ2 : σ2.1 231 = σ0.1 231 := hOσ2.2 231 (by decide)
  have hK : TOK σ2.1 := by first | exact hqv1.1 | exact TOK_p eσ2 (by decide) hK
  have hB : ZB σ2.1 := ZB.tr hOσ2 (by decide) hB
  have g20_σ2 : σ2.1 218 20 = (σ0.1 218 20) := hkv1.2.1
  have g22_σ2 : σ2.1 218 22 = (σ0.1 218 22) := hkv1.2.2.1
  have g23_σ2 : σ2.1 218 23 = (σ0.1 218 23) := hkv1.2.2.2.1
  have g24_σ2 : σ2.1 218 24 = (σ0.1 218 24) := hkv1.2.2.2.2
  have t7 := hqv1.2.2.2
  refine ok_lp (fun t : Int32 × zS => Tr [218, 219, 220, 226, 227, 228, 229, 230, 231, 232] σ0 (t.2) ∧ (0 ≤ (t.1).toInt ∧ ∀ j : Nat, (j : Int) < (t.1).toInt → (t.2).1 231 j = 0) ∧ (TOK (t.2).1) ∧ (ZB (t.2).1) ∧ ((t.2).1 218 7 = (σ2.1 218 7)) ∧ ((t.2).1 218 9 = (σ2.1 218 9)) ∧ ((t.2).1 218 10 = (σ2.1 218 10)) ∧ ((t.2).1 218 11 = (σ2.1 218 11)) ∧ ((t.2).1 218 12 = (σ2.1 218 12)) ∧ ((t.2).1 218 13 = (σ2.1 218 13)) ∧ ((t.2).1 218 14 = (σ2.1 218 14)) ∧ ((t.2).1 218 15 = (σ2.1 218 15)) ∧ ((t.2).1 218 20 = (σ0.1 218 20)) ∧ ((t.2).1 218 22 = (σ0.1 218 22)) ∧ ((t.2).1 218 23 = (σ0.1 218 23)) ∧ ((t.2).1 218 24 = (σ0.1 218 24)) ∧ ((t.2).1 218 25 = (σ2.1 218 25)) ∧ ((t.2).1 219 = σ0.1 219)) (fun t : Int32 × zS => (43 - (t.1).toInt).toNat) (fun again3 t hI ih6_3 => ?_) N _ (show Tr [218, 219, 220, 226, 227, 228, 229, 230, 231, 232] σ0 σ2 ∧ (0 ≤ (0 : Int32).toInt ∧ ∀ j : Nat, (j : Int) < (0 : Int32).toInt → σ2.1 231 j = 0) ∧ (TOK σ2.1) ∧ (ZB σ2.1) ∧ (σ2.1 218 7 = (σ2.1 218 7)) ∧ (σ2.1 218 9 = (σ2.1 218 9)) ∧ (σ2.1 218 10 = (σ2.1 218 10)) ∧ (σ2.1 218 11 = (σ2.1 218 11)) ∧ (σ2.1 218 12 = (σ2.1 218 12)) ∧ (σ2.1 218 13 = (σ2.1 218 13)) ∧ (σ2.1 218 14 = (σ2.1 218 14)) ∧ (σ2.1 218 15 = (σ2.1 218 15)) ∧ (σ2.1 218 20 = (σ0.1 218 20)) ∧ (σ2.1 218 22 = (σ0.1 218 22)) ∧ (σ2.1 218 23 = (σ0.1 218 23)) ∧ (σ2.1 218 24 = (σ0.1 218 24)) ∧ (σ2.1 218 25 = (σ2.1 218 25)) ∧ (σ2.1 219 = σ0.1 219) from ⟨hT, (by exact ⟨by decide, fun j hj => absurd hj (by simp only [Int32.reduceToInt]; omega)⟩), hK, hB, rfl, rfl, rfl, rfl, rfl, rfl, rfl, rfl, g20_σ2, g22_σ2, g23_σ2, g24_σ2, rfl, r219_σ2⟩) (show (43 - (0 : Int32).toInt).toNat < N from (by simp only [Int32.reduceToInt]; omega))
  obtain ⟨x1_3, σ3⟩ := t
  have hI : Tr [218, 219, 220, 226, 227, 228, 229, 230, 231, 232] σ0 σ3 ∧ (0 ≤ x1_3.toInt ∧ ∀ j : Nat, (j : Int) < x1_3.toInt → σ3.1 231 j = 0) ∧ (TOK σ3.1) ∧ (ZB σ3.1) ∧ (σ3.1 218 7 = (σ2.1 218 7)) ∧ (σ3.1 218 9 = (σ2.1 218 9)) ∧ (σ3.1 218 10 = (σ2.1 218 10)) ∧ (σ3.1 218 11 = (σ2.1 218 11)) ∧ (σ3.1 218 12 = (σ2.1 218 12)) ∧ (σ3.1 218 13 = (σ2.1 218 13)) ∧ (σ3.1 218 14 = (σ2.1 218 14)) ∧ (σ3.1 218 15 = (σ2.1 218 15)) ∧ (σ3.1 218 20 = (σ0.1 218 20)) ∧ (σ3.1 218 22 = (σ0.1 218 22)) ∧ (σ3.1 218 23 = (σ0.1 218 23)) ∧ (σ3.1 218 24 = (σ0.1 218 24)) ∧ (σ3.1 218 25 = (σ2.1 218 25)) ∧ (σ3.1 219 = σ0.1 219) := hI
  obtain ⟨hT, hI3, hK, hB, g7_σ3, g9_σ3, g10_σ3, g11_σ3, g12_σ3, g13_σ3, g14_σ3, g15_σ3, g20_σ3, g22_σ3, g23_σ3, g24_σ3, g25_σ3, r219_σ3⟩ := hI
  rw [F_X12_world_6.eq_1]
  have h1 := hI3.1
  have z6 := hI3.2
  refine ok_if (fun hc4 => ?_) (fun hc4 => ?_)
  · have l67 := hc4
    rw [Int32.le_iff_toInt_le] at l67
    try simp only [Int32.reduceToInt] at l67
    have hF0 := FW_0 (fun j hj => z6 j (by omega))
    have z1 := z6 1 (by omega)
    have z2 := z6 2 (by omega)
    refine ok_lp (fun t : Int32 × zS => Tr [218, 219, 220, 226, 227, 228, 229, 230, 231, 232] σ0 (t.2) ∧ (0 ≤ (t.1).toInt) ∧ (TOK (t.2).1) ∧ (ZB (t.2).1) ∧ ((t.2).1 218 7 = (σ2.1 218 7)) ∧ ((t.2).1 218 9 = (σ2.1 218 9)) ∧ ((t.2).1 218 10 = (σ2.1 218 10)) ∧ ((t.2).1 218 11 = (σ2.1 218 11)) ∧ ((t.2).1 218 12 = (σ2.1 218 12)) ∧ ((t.2).1 218 13 = (σ2.1 218 13)) ∧ ((t.2).1 218 14 = (σ2.1 218 14)) ∧ ((t.2).1 218 15 = (σ2.1 218 15)) ∧ ((t.2).1 218 20 = (σ0.1 218 20)) ∧ ((t.2).1 218 22 = (σ0.1 218 22)) ∧ ((t.2).1 218 23 = (σ0.1 218 23)) ∧ ((t.2).1 218 24 = (σ0.1 218 24)) ∧ ((t.2).1 218 25 = (σ2.1 218 25)) ∧ ((t.2).1 219 = σ0.1 219) ∧ ((t.2).1 231 = σ3.1 231)) (fun t : Int32 × zS => (10240 - (t.1).toInt).toNat) (fun again5 t hI ih27_5 => ?_) N _ (show Tr [218, 219, 220, 226, 227, 228, 229, 230, 231, 232] σ0 σ3 ∧ (0 ≤ (0 : Int32).toInt) ∧ (TOK σ3.1) ∧ (ZB σ3.1) ∧ (σ3.1 218 7 = (σ2.1 218 7)) ∧ (σ3.1 218 9 = (σ2.1 218 9)) ∧ (σ3.1 218 10 = (σ2.1 218 10)) ∧ (σ3.1 218 11 = (σ2.1 218 11)) ∧ (σ3.1 218 12 = (σ2.1 218 12)) ∧ (σ3.1 218 13 = (σ2.1 218 13)) ∧ (σ3.1 218 14 = (σ2.1 218 14)) ∧ (σ3.1 218 15 = (σ2.1 218 15)) ∧ (σ3.1 218 20 = (σ0.1 218 20)) ∧ (σ3.1 218 22 = (σ0.1 218 22)) ∧ (σ3.1 218 23 = (σ0.1 218 23)) ∧ (σ3.1 218 24 = (σ0.1 218 24)) ∧ (σ3.1 218 25 = (σ2.1 218 25)) ∧ (σ3.1 219 = σ0.1 219) ∧ (σ3.1 231 = σ3.1 231) from ⟨hT, (by decide), hK, hB, g7_σ3, g9_σ3, g10_σ3, g11_σ3, g12_σ3, g13_σ3, g14_σ3, g15_σ3, g20_σ3, g22_σ3, g23_σ3, g24_σ3, g25_σ3, r219_σ3, rfl⟩) (show (10240 - (0 : Int32).toInt).toNat < N from (by simp only [Int32.reduceToInt]; omega))
    obtain ⟨x1_5, σ5⟩ := t
    have hI : Tr [218, 219, 220, 226, 227, 228, 229, 230, 231, 232] σ0 σ5 ∧ (0 ≤ x1_5.toInt) ∧ (TOK σ5.1) ∧ (ZB σ5.1) ∧ (σ5.1 218 7 = (σ2.1 218 7)) ∧ (σ5.1 218 9 = (σ2.1 218 9)) ∧ (σ5.1 218 10 = (σ2.1 218 10)) ∧ (σ5.1 218 11 = (σ2.1 218 11)) ∧ (σ5.1 218 12 = (σ2.1 218 12)) ∧ (σ5.1 218 13 = (σ2.1 218 13)) ∧ (σ5.1 218 14 = (σ2.1 218 14)) ∧ (σ5.1 218 15 = (σ2.1 218 15)) ∧ (σ5.1 218 20 = (σ0.1 218 20)) ∧ (σ5.1 218 22 = (σ0.1 218 22)) ∧ (σ5.1 218 23 = (σ0.1 218 23)) ∧ (σ5.1 218 24 = (σ0.1 218 24)) ∧ (σ5.1 218 25 = (σ2.1 218 25)) ∧ (σ5.1 219 = σ0.1 219) ∧ (σ5.1 231 = σ3.1 231) := hI
    obtain ⟨hT, hI5, hK, hB, g7_σ5, g9_σ5, g10_σ5, g11_σ5, g12_σ5, g13_σ5, g14_σ5, g15_σ5, g20_σ5, g22_σ5, g23_σ5, g24_σ5, g25_σ5, r219_σ5, r231_σ5⟩ := hI
    rw [F_X12_world_27.eq_1]
    refine ok_if (fun hc6 => ?_) (fun hc6 => ?_)
    · refine ok_lp (fun t : zS => Tr [218, 219, 220, 226, 227, 228, 229, 230, 231, 232] σ0 (t) ∧ (((t).1 218 14 = 0 → (FW ((t).1 231) ∧ 0 ≤ ((t).1 231 1).toInt ∧ ((t).1 231 1).toInt ≤ ((t).1 218 11).toInt) ∧ (((t).1 231 1).toInt = 0 → ((t).1 231 2).toInt = 0))) ∧ (TOK (t).1) ∧ (ZB (t).1) ∧ ((t).1 218 7 = (σ2.1 218 7)) ∧ ((t).1 218 9 = (σ2.1 218 9)) ∧ ((t).1 219 = σ0.1 219)) (fun t : zS => (600 - ((t).1 218 11).toInt).toNat + (if (t).1 218 14 = 0 then 1 else 0)) (fun again7 t hI ih47_7 => ?_) N _ (show Tr [218, 219, 220, 226, 227, 228, 229, 230, 231, 232] σ0 σ5 ∧ ((σ5.1 218 14 = 0 → (FW (σ5.1 231) ∧ 0 ≤ (σ5.1 231 1).toInt ∧ (σ5.1 231 1).toInt ≤ (σ5.1 218 11).toInt) ∧ ((σ5.1 231 1).toInt = 0 → (σ5.1 231 2).toInt = 0))) ∧ (TOK σ5.1) ∧ (ZB σ5.1) ∧ (σ5.1 218 7 = (σ2.1 218 7)) ∧ (σ5.1 218 9 = (σ2.1 218 9)) ∧ (σ5.1 219 = σ0.1 219) from ⟨hT, (by rw [r231_σ5, z1, z2]; exact fun _ => ⟨⟨hF0, by decide, by have k9 := hK.1; simp only [Int32.reduceToInt]; omega⟩, fun _ => by rfl⟩), hK, hB, g7_σ5, g9_σ5, r219_σ5⟩) (show (600 - (σ5.1 218 11).toInt).toNat + (if σ5.1 218 14 = 0 then 1 else 0) < N from (by have k9 := hK.1; split <;> omega))
      obtain ⟨σ7, rfl⟩ : ∃ x, x = t := ⟨t, rfl⟩
      have hI : Tr [218, 219, 220, 226, 227, 228, 229, 230, 231, 232] σ0 σ7 ∧ ((σ7.1 218 14 = 0 → (FW (σ7.1 231) ∧ 0 ≤ (σ7.1 231 1).toInt ∧ (σ7.1 231 1).toInt ≤ (σ7.1 218 11).toInt) ∧ ((σ7.1 231 1).toInt = 0 → (σ7.1 231 2).toInt = 0))) ∧ (TOK σ7.1) ∧ (ZB σ7.1) ∧ (σ7.1 218 7 = (σ2.1 218 7)) ∧ (σ7.1 218 9 = (σ2.1 218 9)) ∧ (σ7.1 219 = σ0.1 219) := hI
      obtain ⟨hT, hI7, hK, hB, g7_σ7, g9_σ7, r219_σ7⟩ := hI
      rw [F_X12_world_47.eq_1]
      have i1 := hI7
      have hK9 := hK.1
      refine ok_gC rfl ?_
      refine ok_zbX (Q := fun V => (V = 0 → ¬ σ7.1 218 14 = 0) ∧ (¬ V = 0 → σ7.1 218 14 = 0)) (x_X12_good) (fun v8 hqv8 => ?_)
      have hqv8 : (v8 = 0 → ¬ σ7.1 218 14 = 0) ∧ (¬ v8 = 0 → σ7.1 218 14 = 0) := hqv8
      try simp only [g7_σ7, g9_σ7, hT.2 224 (by decide)] at hqv8
      refine ok_if (fun hc10 => ?_) (fun hc10 => ?_)
      · have qhc10 := hqv8.1 hc10
        have n51 := qhc10
        rw [J_X12_world_100.eq_1]
        refine ok_gC rfl ?_
        refine ok_zbX (Q := fun V => (V = 0 → ¬ σ7.1 218 14 = 0) ∧ (¬ V = 0 → σ7.1 218 14 = 0)) (x_X12_good) (fun v11 hqv11 => ?_)
        have hqv11 : (v11 = 0 → ¬ σ7.1 218 14 = 0) ∧ (¬ v11 = 0 → σ7.1 218 14 = 0) := hqv11
        try simp only [g7_σ7, g9_σ7, hT.2 224 (by decide)] at hqv11
        refine ok_if (fun hc13 => ?_) (fun hc13 => ?_)
        · have qhc13 := hqv11.1 hc13
          have n104 := qhc13
          exact ok_some ⟨hT, (show MW (σ7.1 219) 0 ∧ ZB σ7.1 ∧ σ7.1 218 7 = 0 from by first | exact ⟨by rw [r219_σ7]; exact hM, hB, (g7_σ7).trans t7⟩ | exact ⟨by rw [r219_σ7]; exact hM9, hB, (g7_σ7).trans t7⟩)⟩
        · have qhc13 := hqv11.2 hc13
          have y104 := qhc13
          refine ok_lp (fun t : Int32 × zS => Tr [218, 219, 220, 226, 227, 228, 229, 230, 231, 232] σ0 (t.2) ∧ (0 ≤ (t.1).toInt ∧ ∀ j : Nat, (j : Int) < (t.1).toInt → (t.2).1 219 j = (t.2).1 231 j) ∧ (TOK (t.2).1) ∧ (ZB (t.2).1) ∧ ((t.2).1 218 7 = (σ2.1 218 7)) ∧ ((t.2).1 218 9 = (σ2.1 218 9)) ∧ ((t.2).1 218 10 = (σ7.1 218 10)) ∧ ((t.2).1 218 11 = (σ7.1 218 11)) ∧ ((t.2).1 218 12 = (σ7.1 218 12)) ∧ ((t.2).1 218 13 = (σ7.1 218 13)) ∧ ((t.2).1 218 14 = (σ7.1 218 14)) ∧ ((t.2).1 218 15 = (σ7.1 218 15)) ∧ ((t.2).1 218 20 = (σ7.1 218 20)) ∧ ((t.2).1 218 22 = (σ7.1 218 22)) ∧ ((t.2).1 218 23 = (σ7.1 218 23)) ∧ ((t.2).1 218 24 = (σ7.1 218 24)) ∧ ((t.2).1 218 25 = (σ7.1 218 25)) ∧ ((t.2).1 231 = σ7.1 231)) (fun t : Int32 × zS => (43 - (t.1).toInt).toNat) (fun again14 t hI ih112_14 => ?_) N _ (show Tr [218, 219, 220, 226, 227, 228, 229, 230, 231, 232] σ0 σ7 ∧ (0 ≤ (0 : Int32).toInt ∧ ∀ j : Nat, (j : Int) < (0 : Int32).toInt → σ7.1 219 j = σ7.1 231 j) ∧ (TOK σ7.1) ∧ (ZB σ7.1) ∧ (σ7.1 218 7 = (σ2.1 218 7)) ∧ (σ7.1 218 9 = (σ2.1 218 9)) ∧ (σ7.1 218 10 = (σ7.1 218 10)) ∧ (σ7.1 218 11 = (σ7.1 218 11)) ∧ (σ7.1 218 12 = (σ7.1 218 12)) ∧ (σ7.1 218 13 = (σ7.1 218 13)) ∧ (σ7.1 218 14 = (σ7.1 218 14)) ∧ (σ7.1 218 15 = (σ7.1 218 15)) ∧ (σ7.1 218 20 = (σ7.1 218 20)) ∧ (σ7.1 218 22 = (σ7.1 218 22)) ∧ (σ7.1 218 23 = (σ7.1 218 23)) ∧ (σ7.1 218 24 = (σ7.1 218 24)) ∧ (σ7.1 218 25 = (σ7.1 218 25)) ∧ (σ7.1 231 = σ7.1 231) from ⟨hT, (by exact ⟨by decide, fun j hj => absurd hj (by simp only [Int32.reduceToInt]; omega)⟩), hK, hB, g7_σ7, g9_σ7, rfl, rfl, rfl, rfl, rfl, rfl, rfl, rfl, rfl, rfl, rfl, rfl⟩) (show (43 - (0 : Int32).toInt).toNat < N from (by simp only [Int32.reduceToInt]; omega))
          obtain ⟨x1_14, σ14⟩ := t
          have hI : Tr [218, 219, 220, 226, 227, 228, 229, 230, 231, 232] σ0 σ14 ∧ (0 ≤ x1_14.toInt ∧ ∀ j : Nat, (j : Int) < x1_14.toInt → σ14.1 219 j = σ14.1 231 j) ∧ (TOK σ14.1) ∧ (ZB σ14.1) ∧ (σ14.1 218 7 = (σ2.1 218 7)) ∧ (σ14.1 218 9 = (σ2.1 218 9)) ∧ (σ14.1 218 10 = (σ7.1 218 10)) ∧ (σ14.1 218 11 = (σ7.1 218 11)) ∧ (σ14.1 218 12 = (σ7.1 218 12)) ∧ (σ14.1 218 13 = (σ7.1 218 13)) ∧ (σ14.1 218 14 = (σ7.1 218 14)) ∧ (σ14.1 218 15 = (σ7.1 218 15)) ∧ (σ14.1 218 20 = (σ7.1 218 20)) ∧ (σ14.1 218 22 = (σ7.1 218 22)) ∧ (σ14.1 218 23 = (σ7.1 218 23)) ∧ (σ14.1 218 24 = (σ7.1 218 24)) ∧ (σ14.1 218 25 = (σ7.1 218 25)) ∧ (σ14.1 231 = σ7.1 231) := hI
          obtain ⟨hT, hI14, hK, hB, g7_σ14, g9_σ14, g10_σ14, g11_σ14, g12_σ14, g13_σ14, g14_σ14, g15_σ14, g20_σ14, g22_σ14, g23_σ14, g24_σ14, g25_σ14, r231_σ14⟩ := hI
          rw [F_X12_world_112.eq_1]
          have h1 := hI14.1
          have c6 := hI14.2
          refine ok_if (fun hc15 => ?_) (fun hc15 => ?_)
          · have l67 := hc15
            rw [Int32.le_iff_toInt_le] at l67
            try simp only [Int32.reduceToInt] at l67
            have hM9 : MW ((σ14.1 219)) 0 := MW_cp (fun j hj => by rw [Nat.zero_add, c6 j (by omega), r231_σ14]) (FW_MW (i1 y104).1.1)
            refine ok_lp (fun t : Int32 × zS => Tr [218, 219, 220, 226, 227, 228, 229, 230, 231, 232] σ0 (t.2) ∧ (0 ≤ (t.1).toInt) ∧ (TOK (t.2).1) ∧ (ZB (t.2).1) ∧ ((t.2).1 218 7 = (σ2.1 218 7)) ∧ ((t.2).1 218 9 = (σ2.1 218 9)) ∧ ((t.2).1 218 10 = (σ7.1 218 10)) ∧ ((t.2).1 218 11 = (σ7.1 218 11)) ∧ ((t.2).1 218 12 = (σ7.1 218 12)) ∧ ((t.2).1 218 13 = (σ7.1 218 13)) ∧ ((t.2).1 218 14 = (σ7.1 218 14)) ∧ ((t.2).1 218 15 = (σ7.1 218 15)) ∧ ((t.2).1 218 20 = (σ7.1 218 20)) ∧ ((t.2).1 218 22 = (σ7.1 218 22)) ∧ ((t.2).1 218 23 = (σ7.1 218 23)) ∧ ((t.2).1 218 24 = (σ7.1 218 24)) ∧ ((t.2).1 218 25 = (σ7.1 218 25)) ∧ ((t.2).1 219 = σ14.1 219) ∧ ((t.2).1 231 = σ7.1 231)) (fun t : Int32 × zS => (10240 - (t.1).toInt).toNat) (fun again16 t hI ih138_16 => ?_) N _ (show Tr [218, 219, 220, 226, 227, 228, 229, 230, 231, 232] σ0 σ14 ∧ (0 ≤ (0 : Int32).toInt) ∧ (TOK σ14.1) ∧ (ZB σ14.1) ∧ (σ14.1 218 7 = (σ2.1 218 7)) ∧ (σ14.1 218 9 = (σ2.1 218 9)) ∧ (σ14.1 218 10 = (σ7.1 218 10)) ∧ (σ14.1 218 11 = (σ7.1 218 11)) ∧ (σ14.1 218 12 = (σ7.1 218 12)) ∧ (σ14.1 218 13 = (σ7.1 218 13)) ∧ (σ14.1 218 14 = (σ7.1 218 14)) ∧ (σ14.1 218 15 = (σ7.1 218 15)) ∧ (σ14.1 218 20 = (σ7.1 218 20)) ∧ (σ14.1 218 22 = (σ7.1 218 22)) ∧ (σ14.1 218 23 = (σ7.1 218 23)) ∧ (σ14.1 218 24 = (σ7.1 218 24)) ∧ (σ14.1 218 25 = (σ7.1 218 25)) ∧ (σ14.1 219 = σ14.1 219) ∧ (σ14.1 231 = σ7.1 231) from ⟨hT, (by decide), hK, hB, g7_σ14, g9_σ14, g10_σ14, g11_σ14, g12_σ14, g13_σ14, g14_σ14, g15_σ14, g20_σ14, g22_σ14, g23_σ14, g24_σ14, g25_σ14, rfl, r231_σ14⟩) (show (10240 - (0 : Int32).toInt).toNat < N from (by simp only [Int32.reduceToInt]; omega))
            obtain ⟨x1_16, σ16⟩ := t
            have hI : Tr [218, 219, 220, 226, 227, 228, 229, 230, 231, 232] σ0 σ16 ∧ (0 ≤ x1_16.toInt) ∧ (TOK σ16.1) ∧ (ZB σ16.1) ∧ (σ16.1 218 7 = (σ2.1 218 7)) ∧ (σ16.1 218 9 = (σ2.1 218 9)) ∧ (σ16.1 218 10 = (σ7.1 218 10)) ∧ (σ16.1 218 11 = (σ7.1 218 11)) ∧ (σ16.1 218 12 = (σ7.1 218 12)) ∧ (σ16.1 218 13 = (σ7.1 218 13)) ∧ (σ16.1 218 14 = (σ7.1 218 14)) ∧ (σ16.1 218 15 = (σ7.1 218 15)) ∧ (σ16.1 218 20 = (σ7.1 218 20)) ∧ (σ16.1 218 22 = (σ7.1 218 22)) ∧ (σ16.1 218 23 = (σ7.1 218 23)) ∧ (σ16.1 218 24 = (σ7.1 218 24)) ∧ (σ16.1 218 25 = (σ7.1 218 25)) ∧ (σ16.1 219 = σ14.1 219) ∧ (σ16.1 231 = σ7.1 231) := hI
            obtain ⟨hT, hI16, hK, hB, g7_σ16, g9_σ16, g10_σ16, g11_σ16, g12_σ16, g13_σ16, g14_σ16, g15_σ16, g20_σ16, g22_σ16, g23_σ16, g24_σ16, g25_σ16, r219_σ16, r231_σ16⟩ := hI
            rw [F_X12_world_138.eq_1]
            refine ok_if (fun hc17 => ?_) (fun hc17 => ?_)
            · refine ok_gR (v := 219) hT rfl (hR 218 1 rfl) ?_
              refine ok_aIn rfl (by ((try simp only [g7_σ16, g9_σ16, g10_σ16, g11_σ16, g12_σ16, g13_σ16, g14_σ16, g15_σ16, g20_σ16, g22_σ16, g23_σ16, g24_σ16, g25_σ16])); first | omega | decide | (simp only [Int32.le_iff_toInt_le, Int32.lt_iff_toInt_lt, ti_add, ti_sub, ti_mul, Int32.reduceToInt] at *; omega)) (by ((try simp only [g7_σ16, g9_σ16, g10_σ16, g11_σ16, g12_σ16, g13_σ16, g14_σ16, g15_σ16, g20_σ16, g22_σ16, g23_σ16, g24_σ16, g25_σ16])); first | omega | decide | (simp only [Int32.le_iff_toInt_le, Int32.lt_iff_toInt_lt, ti_add, ti_sub, ti_mul, Int32.reduceToInt] at *; omega)) (fun v19 ev19 => ?_)
              exact ok_some ⟨hT, (show MW (σ16.1 219) 0 ∧ ZB σ16.1 ∧ σ16.1 218 7 = 0 from by first | exact ⟨by rw [r219_σ16]; exact hM, hB, (g7_σ16).trans t7⟩ | exact ⟨by rw [r219_σ16]; exact hM9, hB, (g7_σ16).trans t7⟩)⟩
            · have l68 := hc17
              rw [Int32.le_iff_toInt_le] at l68
              try simp only [Int32.reduceToInt] at l68
              have s68 : (x1_16 + 1).toInt = x1_16.toInt + 1 := by rw [ti_add]; simp only [Int32.reduceToInt]; omega
              refine ok_gR (v := 220) hT rfl (hR 218 2 rfl) ?_
              refine ok_gR (v := 232) hT rfl (hR 218 27 rfl) ?_
              refine ok_aIn rfl (by ((try simp only [g7_σ16, g9_σ16, g10_σ16, g11_σ16, g12_σ16, g13_σ16, g14_σ16, g15_σ16, g20_σ16, g22_σ16, g23_σ16, g24_σ16, g25_σ16])); first | omega | decide | (simp only [Int32.le_iff_toInt_le, Int32.lt_iff_toInt_lt, ti_add, ti_sub, ti_mul, Int32.reduceToInt] at *; omega)) (by ((try simp only [g7_σ16, g9_σ16, g10_σ16, g11_σ16, g12_σ16, g13_σ16, g14_σ16, g15_σ16, g20_σ16, g22_σ16, g23_σ16, g24_σ16, g25_σ16])); first | omega | decide | (simp only [Int32.le_iff_toInt_le, Int32.lt_iff_toInt_lt, ti_add, ti_sub, ti_mul, Int32.reduceToInt] at *; omega)) (fun v22 ev22 => ?_)
              have zv22 : v22 = 0 ∨ v22 = 1 := by rw [ev22]; exact hB 232 rfl _
              refine ok_s16 hT rfl (by decide) (by ((try simp only [g7_σ16, g9_σ16, g10_σ16, g11_σ16, g12_σ16, g13_σ16, g14_σ16, g15_σ16, g20_σ16, g22_σ16, g23_σ16, g24_σ16, g25_σ16])); first | omega | decide | (simp only [Int32.le_iff_toInt_le, Int32.lt_iff_toInt_lt, ti_add, ti_sub, ti_mul, Int32.reduceToInt] at *; omega)) (by ((try simp only [g7_σ16, g9_σ16, g10_σ16, g11_σ16, g12_σ16, g13_σ16, g14_σ16, g15_σ16, g20_σ16, g22_σ16, g23_σ16, g24_σ16, g25_σ16])); first | omega | decide | (simp only [Int32.le_iff_toInt_le, Int32.lt_iff_toInt_lt, ti_add, ti_sub, ti_mul, Int32.reduceToInt] at *; omega)) (fun σ23 eσ23 hOσ23 hT => ?_)
              have r219_σ23 : σ23.1 219 = σ14.1 219 := (hOσ23.2 219 (by decide)).trans r219_σ16
              have r231_σ23 : σ23.1 231 = σ7.1 231 := (hOσ23.2 231 (by decide)).trans r231_σ16
              have hK : TOK σ23.1 := TOK_tr hOσ23 (by decide) (by decide) hK
              have hB : ZB σ23.1 := by first | exact HQ.2.2.2.2 | exact ZB_s eσ23 hB
              have g7_σ23 : σ23.1 218 7 = (σ2.1 218 7) := (congrFun (hOσ23.2 218 (by decide)) 7).trans g7_σ16
              have g9_σ23 : σ23.1 218 9 = (σ2.1 218 9) := (congrFun (hOσ23.2 218 (by decide)) 9).trans g9_σ16
              have g10_σ23 : σ23.1 218 10 = (σ7.1 218 10) := (congrFun (hOσ23.2 218 (by decide)) 10).trans g10_σ16
              have g11_σ23 : σ23.1 218 11 = (σ7.1 218 11) := (congrFun (hOσ23.2 218 (by decide)) 11).trans g11_σ16
              have g12_σ23 : σ23.1 218 12 = (σ7.1 218 12) := (congrFun (hOσ23.2 218 (by decide)) 12).trans g12_σ16
              have g13_σ23 : σ23.1 218 13 = (σ7.1 218 13) := (congrFun (hOσ23.2 218 (by decide)) 13).trans g13_σ16
              have g14_σ23 : σ23.1 218 14 = (σ7.1 218 14) := (congrFun (hOσ23.2 218 (by decide)) 14).trans g14_σ16
              have g15_σ23 : σ23.1 218 15 = (σ7.1 218 15) := (congrFun (hOσ23.2 218 (by decide)) 15).trans g15_σ16
              have g20_σ23 : σ23.1 218 20 = (σ7.1 218 20) := (congrFun (hOσ23.2 218 (by decide)) 20).trans g20_σ16
              have g22_σ23 : σ23.1 218 22 = (σ7.1 218 22) := (congrFun (hOσ23.2 218 (by decide)) 22).trans g22_σ16
              have g23_σ23 : σ23.1 218 23 = (σ7.1 218 23) := (congrFun (hOσ23.2 218 (by decide)) 23).trans g23_σ16
              have g24_σ23 : σ23.1 218 24 = (σ7.1 218 24) := (congrFun (hOσ23.2 218 (by decide)) 24).trans g24_σ16
              have g25_σ23 : σ23.1 218 25 = (σ7.1 218 25) := (congrFun (hOσ23.2 218 (by decide)) 25).trans g25_σ16
              exact ih138_16 (x1_16 + 1, σ23) (show Tr [218, 219, 220, 226, 227, 228, 229, 230, 231, 232] σ0 σ23 ∧ (0 ≤ (x1_16 + 1).toInt) ∧ (TOK σ23.1) ∧ (ZB σ23.1) ∧ (σ23.1 218 7 = (σ2.1 218 7)) ∧ (σ23.1 218 9 = (σ2.1 218 9)) ∧ (σ23.1 218 10 = (σ7.1 218 10)) ∧ (σ23.1 218 11 = (σ7.1 218 11)) ∧ (σ23.1 218 12 = (σ7.1 218 12)) ∧ (σ23.1 218 13 = (σ7.1 218 13)) ∧ (σ23.1 218 14 = (σ7.1 218 14)) ∧ (σ23.1 218 15 = (σ7.1 218 15)) ∧ (σ23.1 218 20 = (σ7.1 218 20)) ∧ (σ23.1 218 22 = (σ7.1 218 22)) ∧ (σ23.1 218 23 = (σ7.1 218 23)) ∧ (σ23.1 218 24 = (σ7.1 218 24)) ∧ (σ23.1 218 25 = (σ7.1 218 25)) ∧ (σ23.1 219 = σ14.1 219) ∧ (σ23.1 231 = σ7.1 231) from ⟨hT, (by rw [s68]; omega), hK, hB, g7_σ23, g9_σ23, g10_σ23, g11_σ23, g12_σ23, g13_σ23, g14_σ23, g15_σ23, g20_σ23, g22_σ23, g23_σ23, g24_σ23, g25_σ23, r219_σ23, r231_σ23⟩) (show (10240 - (x1_16 + 1).toInt).toNat < (10240 - x1_16.toInt).toNat from (by rw [s68]; omega))
          · have l68 := hc15
            rw [Int32.le_iff_toInt_le] at l68
            try simp only [Int32.reduceToInt] at l68
            have s68 : (x1_14 + 1).toInt = x1_14.toInt + 1 := by rw [ti_add]; simp only [Int32.reduceToInt]; omega
            refine ok_gR (v := 219) hT rfl (hR 218 1 rfl) ?_
            refine ok_gR (v := 231) hT rfl (hR 218 26 rfl) ?_
            refine ok_aIn rfl (by ((try simp only [g7_σ14, g9_σ14, g10_σ14, g11_σ14, g12_σ14, g13_σ14, g14_σ14, g15_σ14, g20_σ14, g22_σ14, g23_σ14, g24_σ14, g25_σ14])); first | omega | decide | (simp only [Int32.le_iff_toInt_le, Int32.lt_iff_toInt_lt, ti_add, ti_sub, ti_mul, Int32.reduceToInt] at *; omega)) (by ((try simp only [g7_σ14, g9_σ14, g10_σ14, g11_σ14, g12_σ14, g13_σ14, g14_σ14, g15_σ14, g20_σ14, g22_σ14, g23_σ14, g24_σ14, g25_σ14])); first | omega | decide | (simp only [Int32.le_iff_toInt_le, Int32.lt_iff_toInt_lt, ti_add, ti_sub, ti_mul, Int32.reduceToInt] at *; omega)) (fun v26 ev26 => ?_)
            have ev128 := ev26
            refine ok_s14 hT rfl (by decide) (by ((try simp only [g7_σ14, g9_σ14, g10_σ14, g11_σ14, g12_σ14, g13_σ14, g14_σ14, g15_σ14, g20_σ14, g22_σ14, g23_σ14, g24_σ14, g25_σ14])); first | omega | decide | (simp only [Int32.le_iff_toInt_le, Int32.lt_iff_toInt_lt, ti_add, ti_sub, ti_mul, Int32.reduceToInt] at *; omega)) (by ((try simp only [g7_σ14, g9_σ14, g10_σ14, g11_σ14, g12_σ14, g13_σ14, g14_σ14, g15_σ14, g20_σ14, g22_σ14, g23_σ14, g24_σ14, g25_σ14])); first | omega | decide | (simp only [Int32.le_iff_toInt_le, Int32.lt_iff_toInt_lt, ti_add, ti_sub, ti_mul, Int32.reduceToInt] at *; omega)) (fun σ27 eσ27 hOσ27 hT => ?_)
            have c129 : ∀ j : Nat, (j : Int) < (x1_14).toInt + 1 → σ27.1 219 j = σ27.1 231 j := by intro j hj; rw [hOσ27.2 231 (by decide)]; by_cases q : (j : Int) = (x1_14).toInt; rw [show j = (x1_14).toNatClampNeg by show j = (x1_14).toInt.toNat; omega, zI_atI eσ27]; exact ev128; rw [zI_atN eσ27 (by show j ≠ (x1_14).toInt.toNat; omega)]; exact c6 j (by omega)
            have r231_σ27 : σ27.1 231 = σ7.1 231 := (hOσ27.2 231 (by decide)).trans r231_σ14
            have hK : TOK σ27.1 := TOK_tr hOσ27 (by decide) (by decide) hK
            have hB : ZB σ27.1 := ZB.tr hOσ27 (by decide) hB
            have g7_σ27 : σ27.1 218 7 = (σ2.1 218 7) := (congrFun (hOσ27.2 218 (by decide)) 7).trans g7_σ14
            have g9_σ27 : σ27.1 218 9 = (σ2.1 218 9) := (congrFun (hOσ27.2 218 (by decide)) 9).trans g9_σ14
            have g10_σ27 : σ27.1 218 10 = (σ7.1 218 10) := (congrFun (hOσ27.2 218 (by decide)) 10).trans g10_σ14
            have g11_σ27 : σ27.1 218 11 = (σ7.1 218 11) := (congrFun (hOσ27.2 218 (by decide)) 11).trans g11_σ14
            have g12_σ27 : σ27.1 218 12 = (σ7.1 218 12) := (congrFun (hOσ27.2 218 (by decide)) 12).trans g12_σ14
            have g13_σ27 : σ27.1 218 13 = (σ7.1 218 13) := (congrFun (hOσ27.2 218 (by decide)) 13).trans g13_σ14
            have g14_σ27 : σ27.1 218 14 = (σ7.1 218 14) := (congrFun (hOσ27.2 218 (by decide)) 14).trans g14_σ14
            have g15_σ27 : σ27.1 218 15 = (σ7.1 218 15) := (congrFun (hOσ27.2 218 (by decide)) 15).trans g15_σ14
            have g20_σ27 : σ27.1 218 20 = (σ7.1 218 20) := (congrFun (hOσ27.2 218 (by decide)) 20).trans g20_σ14
            have g22_σ27 : σ27.1 218 22 = (σ7.1 218 22) := (congrFun (hOσ27.2 218 (by decide)) 22).trans g22_σ14
            have g23_σ27 : σ27.1 218 23 = (σ7.1 218 23) := (congrFun (hOσ27.2 218 (by decide)) 23).trans g23_σ14
            have g24_σ27 : σ27.1 218 24 = (σ7.1 218 24) := (congrFun (hOσ27.2 218 (by decide)) 24).trans g24_σ14
            have g25_σ27 : σ27.1 218 25 = (σ7.1 218 25) := (congrFun (hOσ27.2 218 (by decide)) 25).trans g25_σ14
            exact ih112_14 (x1_14 + 1, σ27) (show Tr [218, 219, 220, 226, 227, 228, 229, 230, 231, 232] σ0 σ27 ∧ (0 ≤ (x1_14 + 1).toInt ∧ ∀ j : Nat, (j : Int) < (x1_14 + 1).toInt → σ27.1 219 j = σ27.1 231 j) ∧ (TOK σ27.1) ∧ (ZB σ27.1) ∧ (σ27.1 218 7 = (σ2.1 218 7)) ∧ (σ27.1 218 9 = (σ2.1 218 9)) ∧ (σ27.1 218 10 = (σ7.1 218 10)) ∧ (σ27.1 218 11 = (σ7.1 218 11)) ∧ (σ27.1 218 12 = (σ7.1 218 12)) ∧ (σ27.1 218 13 = (σ7.1 218 13)) ∧ (σ27.1 218 14 = (σ7.1 218 14)) ∧ (σ27.1 218 15 = (σ7.1 218 15)) ∧ (σ27.1 218 20 = (σ7.1 218 20)) ∧ (σ27.1 218 22 = (σ7.1 218 22)) ∧ (σ27.1 218 23 = (σ7.1 218 23)) ∧ (σ27.1 218 24 = (σ7.1 218 24)) ∧ (σ27.1 218 25 = (σ7.1 218 25)) ∧ (σ27.1 231 = σ7.1 231) from ⟨hT, (by rw [s68]; exact ⟨by omega, c129⟩), hK, hB, g7_σ27, g9_σ27, g10_σ27, g11_σ27, g12_σ27, g13_σ27, g14_σ27, g15_σ27, g20_σ27, g22_σ27, g23_σ27, g24_σ27, g25_σ27, r231_σ27⟩) (show (43 - (x1_14 + 1).toInt).toNat < (43 - x1_14.toInt).toNat from (by rw [s68]; omega))
      · have qhc10 := hqv8.2 hc10
        have y51 := qhc10
        refine ok_gI rfl ?_
        refine ok_if (fun hc29 => ?_) (fun hc29 => ?_)
        · rw [J_X12_world_100.eq_1]
          refine ok_gC rfl ?_
          refine ok_zbX (Q := fun V => (V = 0 → ¬ σ7.1 218 14 = 0) ∧ (¬ V = 0 → σ7.1 218 14 = 0)) (x_X12_good) (fun v30 hqv30 => ?_)
          have hqv30 : (v30 = 0 → ¬ σ7.1 218 14 = 0) ∧ (¬ v30 = 0 → σ7.1 218 14 = 0) := hqv30
          try simp only [g7_σ7, g9_σ7, hT.2 224 (by decide)] at hqv30
          refine ok_if (fun hc32 => ?_) (fun hc32 => ?_)
          · have qhc32 := hqv30.1 hc32
            have n104 := qhc32
            exact ok_some ⟨hT, (show MW (σ7.1 219) 0 ∧ ZB σ7.1 ∧ σ7.1 218 7 = 0 from by first | exact ⟨by rw [r219_σ7]; exact hM, hB, (g7_σ7).trans t7⟩ | exact ⟨by rw [r219_σ7]; exact hM9, hB, (g7_σ7).trans t7⟩)⟩
          · have qhc32 := hqv30.2 hc32
            have y104 := qhc32
            refine ok_lp (fun t : Int32 × zS => Tr [218, 219, 220, 226, 227, 228, 229, 230, 231, 232] σ0 (t.2) ∧ (0 ≤ (t.1).toInt ∧ ∀ j : Nat, (j : Int) < (t.1).toInt → (t.2).1 219 j = (t.2).1 231 j) ∧ (TOK (t.2).1) ∧ (ZB (t.2).1) ∧ ((t.2).1 218 7 = (σ2.1 218 7)) ∧ ((t.2).1 218 9 = (σ2.1 218 9)) ∧ ((t.2).1 218 10 = (σ7.1 218 10)) ∧ ((t.2).1 218 11 = (σ7.1 218 11)) ∧ ((t.2).1 218 12 = (σ7.1 218 12)) ∧ ((t.2).1 218 13 = (σ7.1 218 13)) ∧ ((t.2).1 218 14 = (σ7.1 218 14)) ∧ ((t.2).1 218 15 = (σ7.1 218 15)) ∧ ((t.2).1 218 20 = (σ7.1 218 20)) ∧ ((t.2).1 218 22 = (σ7.1 218 22)) ∧ ((t.2).1 218 23 = (σ7.1 218 23)) ∧ ((t.2).1 218 24 = (σ7.1 218 24)) ∧ ((t.2).1 218 25 = (σ7.1 218 25)) ∧ ((t.2).1 231 = σ7.1 231)) (fun t : Int32 × zS => (43 - (t.1).toInt).toNat) (fun again33 t hI ih112_33 => ?_) N _ (show Tr [218, 219, 220, 226, 227, 228, 229, 230, 231, 232] σ0 σ7 ∧ (0 ≤ (0 : Int32).toInt ∧ ∀ j : Nat, (j : Int) < (0 : Int32).toInt → σ7.1 219 j = σ7.1 231 j) ∧ (TOK σ7.1) ∧ (ZB σ7.1) ∧ (σ7.1 218 7 = (σ2.1 218 7)) ∧ (σ7.1 218 9 = (σ2.1 218 9)) ∧ (σ7.1 218 10 = (σ7.1 218 10)) ∧ (σ7.1 218 11 = (σ7.1 218 11)) ∧ (σ7.1 218 12 = (σ7.1 218 12)) ∧ (σ7.1 218 13 = (σ7.1 218 13)) ∧ (σ7.1 218 14 = (σ7.1 218 14)) ∧ (σ7.1 218 15 = (σ7.1 218 15)) ∧ (σ7.1 218 20 = (σ7.1 218 20)) ∧ (σ7.1 218 22 = (σ7.1 218 22)) ∧ (σ7.1 218 23 = (σ7.1 218 23)) ∧ (σ7.1 218 24 = (σ7.1 218 24)) ∧ (σ7.1 218 25 = (σ7.1 218 25)) ∧ (σ7.1 231 = σ7.1 231) from ⟨hT, (by exact ⟨by decide, fun j hj => absurd hj (by simp only [Int32.reduceToInt]; omega)⟩), hK, hB, g7_σ7, g9_σ7, rfl, rfl, rfl, rfl, rfl, rfl, rfl, rfl, rfl, rfl, rfl, rfl⟩) (show (43 - (0 : Int32).toInt).toNat < N from (by simp only [Int32.reduceToInt]; omega))
            obtain ⟨x1_33, σ33⟩ := t
            have hI : Tr [218, 219, 220, 226, 227, 228, 229, 230, 231, 232] σ0 σ33 ∧ (0 ≤ x1_33.toInt ∧ ∀ j : Nat, (j : Int) < x1_33.toInt → σ33.1 219 j = σ33.1 231 j) ∧ (TOK σ33.1) ∧ (ZB σ33.1) ∧ (σ33.1 218 7 = (σ2.1 218 7)) ∧ (σ33.1 218 9 = (σ2.1 218 9)) ∧ (σ33.1 218 10 = (σ7.1 218 10)) ∧ (σ33.1 218 11 = (σ7.1 218 11)) ∧ (σ33.1 218 12 = (σ7.1 218 12)) ∧ (σ33.1 218 13 = (σ7.1 218 13)) ∧ (σ33.1 218 14 = (σ7.1 218 14)) ∧ (σ33.1 218 15 = (σ7.1 218 15)) ∧ (σ33.1 218 20 = (σ7.1 218 20)) ∧ (σ33.1 218 22 = (σ7.1 218 22)) ∧ (σ33.1 218 23 = (σ7.1 218 23)) ∧ (σ33.1 218 24 = (σ7.1 218 24)) ∧ (σ33.1 218 25 = (σ7.1 218 25)) ∧ (σ33.1 231 = σ7.1 231) := hI
            obtain ⟨hT, hI33, hK, hB, g7_σ33, g9_σ33, g10_σ33, g11_σ33, g12_σ33, g13_σ33, g14_σ33, g15_σ33, g20_σ33, g22_σ33, g23_σ33, g24_σ33, g25_σ33, r231_σ33⟩ := hI
            rw [F_X12_world_112.eq_1]
            have h1 := hI33.1
            have c6 := hI33.2
            refine ok_if (fun hc34 => ?_) (fun hc34 => ?_)
            · have l67 := hc34
              rw [Int32.le_iff_toInt_le] at l67
              try simp only [Int32.reduceToInt] at l67
              have hM9 : MW ((σ33.1 219)) 0 := MW_cp (fun j hj => by rw [Nat.zero_add, c6 j (by omega), r231_σ33]) (FW_MW (i1 y104).1.1)
              refine ok_lp (fun t : Int32 × zS => Tr [218, 219, 220, 226, 227, 228, 229, 230, 231, 232] σ0 (t.2) ∧ (0 ≤ (t.1).toInt) ∧ (TOK (t.2).1) ∧ (ZB (t.2).1) ∧ ((t.2).1 218 7 = (σ2.1 218 7)) ∧ ((t.2).1 218 9 = (σ2.1 218 9)) ∧ ((t.2).1 218 10 = (σ7.1 218 10)) ∧ ((t.2).1 218 11 = (σ7.1 218 11)) ∧ ((t.2).1 218 12 = (σ7.1 218 12)) ∧ ((t.2).1 218 13 = (σ7.1 218 13)) ∧ ((t.2).1 218 14 = (σ7.1 218 14)) ∧ ((t.2).1 218 15 = (σ7.1 218 15)) ∧ ((t.2).1 218 20 = (σ7.1 218 20)) ∧ ((t.2).1 218 22 = (σ7.1 218 22)) ∧ ((t.2).1 218 23 = (σ7.1 218 23)) ∧ ((t.2).1 218 24 = (σ7.1 218 24)) ∧ ((t.2).1 218 25 = (σ7.1 218 25)) ∧ ((t.2).1 219 = σ33.1 219) ∧ ((t.2).1 231 = σ7.1 231)) (fun t : Int32 × zS => (10240 - (t.1).toInt).toNat) (fun again35 t hI ih138_35 => ?_) N _ (show Tr [218, 219, 220, 226, 227, 228, 229, 230, 231, 232] σ0 σ33 ∧ (0 ≤ (0 : Int32).toInt) ∧ (TOK σ33.1) ∧ (ZB σ33.1) ∧ (σ33.1 218 7 = (σ2.1 218 7)) ∧ (σ33.1 218 9 = (σ2.1 218 9)) ∧ (σ33.1 218 10 = (σ7.1 218 10)) ∧ (σ33.1 218 11 = (σ7.1 218 11)) ∧ (σ33.1 218 12 = (σ7.1 218 12)) ∧ (σ33.1 218 13 = (σ7.1 218 13)) ∧ (σ33.1 218 14 = (σ7.1 218 14)) ∧ (σ33.1 218 15 = (σ7.1 218 15)) ∧ (σ33.1 218 20 = (σ7.1 218 20)) ∧ (σ33.1 218 22 = (σ7.1 218 22)) ∧ (σ33.1 218 23 = (σ7.1 218 23)) ∧ (σ33.1 218 24 = (σ7.1 218 24)) ∧ (σ33.1 218 25 = (σ7.1 218 25)) ∧ (σ33.1 219 = σ33.1 219) ∧ (σ33.1 231 = σ7.1 231) from ⟨hT, (by decide), hK, hB, g7_σ33, g9_σ33, g10_σ33, g11_σ33, g12_σ33, g13_σ33, g14_σ33, g15_σ33, g20_σ33, g22_σ33, g23_σ33, g24_σ33, g25_σ33, rfl, r231_σ33⟩) (show (10240 - (0 : Int32).toInt).toNat < N from (by simp only [Int32.reduceToInt]; omega))
              obtain ⟨x1_35, σ35⟩ := t
              have hI : Tr [218, 219, 220, 226, 227, 228, 229, 230, 231, 232] σ0 σ35 ∧ (0 ≤ x1_35.toInt) ∧ (TOK σ35.1) ∧ (ZB σ35.1) ∧ (σ35.1 218 7 = (σ2.1 218 7)) ∧ (σ35.1 218 9 = (σ2.1 218 9)) ∧ (σ35.1 218 10 = (σ7.1 218 10)) ∧ (σ35.1 218 11 = (σ7.1 218 11)) ∧ (σ35.1 218 12 = (σ7.1 218 12)) ∧ (σ35.1 218 13 = (σ7.1 218 13)) ∧ (σ35.1 218 14 = (σ7.1 218 14)) ∧ (σ35.1 218 15 = (σ7.1 218 15)) ∧ (σ35.1 218 20 = (σ7.1 218 20)) ∧ (σ35.1 218 22 = (σ7.1 218 22)) ∧ (σ35.1 218 23 = (σ7.1 218 23)) ∧ (σ35.1 218 24 = (σ7.1 218 24)) ∧ (σ35.1 218 25 = (σ7.1 218 25)) ∧ (σ35.1 219 = σ33.1 219) ∧ (σ35.1 231 = σ7.1 231) := hI
              obtain ⟨hT, hI35, hK, hB, g7_σ35, g9_σ35, g10_σ35, g11_σ35, g12_σ35, g13_σ35, g14_σ35, g15_σ35, g20_σ35, g22_σ35, g23_σ35, g24_σ35, g25_σ35, r219_σ35, r231_σ35⟩ := hI
              rw [F_X12_world_138.eq_1]
              refine ok_if (fun hc36 => ?_) (fun hc36 => ?_)
              · refine ok_gR (v := 219) hT rfl (hR 218 1 rfl) ?_
                refine ok_aIn rfl (by ((try simp only [g7_σ35, g9_σ35, g10_σ35, g11_σ35, g12_σ35, g13_σ35, g14_σ35, g15_σ35, g20_σ35, g22_σ35, g23_σ35, g24_σ35, g25_σ35])); first | omega | decide | (simp only [Int32.le_iff_toInt_le, Int32.lt_iff_toInt_lt, ti_add, ti_sub, ti_mul, Int32.reduceToInt] at *; omega)) (by ((try simp only [g7_σ35, g9_σ35, g10_σ35, g11_σ35, g12_σ35, g13_σ35, g14_σ35, g15_σ35, g20_σ35, g22_σ35, g23_σ35, g24_σ35, g25_σ35])); first | omega | decide | (simp only [Int32.le_iff_toInt_le, Int32.lt_iff_toInt_lt, ti_add, ti_sub, ti_mul, Int32.reduceToInt] at *; omega)) (fun v38 ev38 => ?_)
                exact ok_some ⟨hT, (show MW (σ35.1 219) 0 ∧ ZB σ35.1 ∧ σ35.1 218 7 = 0 from by first | exact ⟨by rw [r219_σ35]; exact hM, hB, (g7_σ35).trans t7⟩ | exact ⟨by rw [r219_σ35]; exact hM9, hB, (g7_σ35).trans t7⟩)⟩
              · have l68 := hc36
                rw [Int32.le_iff_toInt_le] at l68
                try simp only [Int32.reduceToInt] at l68
                have s68 : (x1_35 + 1).toInt = x1_35.toInt + 1 := by rw [ti_add]; simp only [Int32.reduceToInt]; omega
                refine ok_gR (v := 220) hT rfl (hR 218 2 rfl) ?_
                refine ok_gR (v := 232) hT rfl (hR 218 27 rfl) ?_
                refine ok_aIn rfl (by ((try simp only [g7_σ35, g9_σ35, g10_σ35, g11_σ35, g12_σ35, g13_σ35, g14_σ35, g15_σ35, g20_σ35, g22_σ35, g23_σ35, g24_σ35, g25_σ35])); first | omega | decide | (simp only [Int32.le_iff_toInt_le, Int32.lt_iff_toInt_lt, ti_add, ti_sub, ti_mul, Int32.reduceToInt] at *; omega)) (by ((try simp only [g7_σ35, g9_σ35, g10_σ35, g11_σ35, g12_σ35, g13_σ35, g14_σ35, g15_σ35, g20_σ35, g22_σ35, g23_σ35, g24_σ35, g25_σ35])); first | omega | decide | (simp only [Int32.le_iff_toInt_le, Int32.lt_iff_toInt_lt, ti_add, ti_sub, ti_mul, Int32.reduceToInt] at *; omega)) (fun v41 ev41 => ?_)
                have zv41 : v41 = 0 ∨ v41 = 1 := by rw [ev41]; exact hB 232 rfl _
                refine ok_s16 hT rfl (by decide) (by ((try simp only [g7_σ35, g9_σ35, g10_σ35, g11_σ35, g12_σ35, g13_σ35, g14_σ35, g15_σ35, g20_σ35, g22_σ35, g23_σ35, g24_σ35, g25_σ35])); first | omega | decide | (simp only [Int32.le_iff_toInt_le, Int32.lt_iff_toInt_lt, ti_add, ti_sub, ti_mul, Int32.reduceToInt] at *; omega)) (by ((try simp only [g7_σ35, g9_σ35, g10_σ35, g11_σ35, g12_σ35, g13_σ35, g14_σ35, g15_σ35, g20_σ35, g22_σ35, g23_σ35, g24_σ35, g25_σ35])); first | omega | decide | (simp only [Int32.le_iff_toInt_le, Int32.lt_iff_toInt_lt, ti_add, ti_sub, ti_mul, Int32.reduceToInt] at *; omega)) (fun σ42 eσ42 hOσ42 hT => ?_)
                have r219_σ42 : σ42.1 219 = σ33.1 219 := (hOσ42.2 219 (by decide)).trans r219_σ35
                have r231_σ42 : σ42.1 231 = σ7.1 231 := (hOσ42.2 231 (by decide)).trans r231_σ35
                have hK : TOK σ42.1 := TOK_tr hOσ42 (by decide) (by decide) hK
                have hB : ZB σ42.1 := by first | exact HQ.2.2.2.2 | exact ZB_s eσ42 hB
                have g7_σ42 : σ42.1 218 7 = (σ2.1 218 7) := (congrFun (hOσ42.2 218 (by decide)) 7).trans g7_σ35
                have g9_σ42 : σ42.1 218 9 = (σ2.1 218 9) := (congrFun (hOσ42.2 218 (by decide)) 9).trans g9_σ35
                have g10_σ42 : σ42.1 218 10 = (σ7.1 218 10) := (congrFun (hOσ42.2 218 (by decide)) 10).trans g10_σ35
                have g11_σ42 : σ42.1 218 11 = (σ7.1 218 11) := (congrFun (hOσ42.2 218 (by decide)) 11).trans g11_σ35
                have g12_σ42 : σ42.1 218 12 = (σ7.1 218 12) := (congrFun (hOσ42.2 218 (by decide)) 12).trans g12_σ35
                have g13_σ42 : σ42.1 218 13 = (σ7.1 218 13) := (congrFun (hOσ42.2 218 (by decide)) 13).trans g13_σ35
                have g14_σ42 : σ42.1 218 14 = (σ7.1 218 14) := (congrFun (hOσ42.2 218 (by decide)) 14).trans g14_σ35
                have g15_σ42 : σ42.1 218 15 = (σ7.1 218 15) := (congrFun (hOσ42.2 218 (by decide)) 15).trans g15_σ35
                have g20_σ42 : σ42.1 218 20 = (σ7.1 218 20) := (congrFun (hOσ42.2 218 (by decide)) 20).trans g20_σ35
                have g22_σ42 : σ42.1 218 22 = (σ7.1 218 22) := (congrFun (hOσ42.2 218 (by decide)) 22).trans g22_σ35
                have g23_σ42 : σ42.1 218 23 = (σ7.1 218 23) := (congrFun (hOσ42.2 218 (by decide)) 23).trans g23_σ35
                have g24_σ42 : σ42.1 218 24 = (σ7.1 218 24) := (congrFun (hOσ42.2 218 (by decide)) 24).trans g24_σ35
                have g25_σ42 : σ42.1 218 25 = (σ7.1 218 25) := (congrFun (hOσ42.2 218 (by decide)) 25).trans g25_σ35
                exact ih138_35 (x1_35 + 1, σ42) (show Tr [218, 219, 220, 226, 227, 228, 229, 230, 231, 232] σ0 σ42 ∧ (0 ≤ (x1_35 + 1).toInt) ∧ (TOK σ42.1) ∧ (ZB σ42.1) ∧ (σ42.1 218 7 = (σ2.1 218 7)) ∧ (σ42.1 218 9 = (σ2.1 218 9)) ∧ (σ42.1 218 10 = (σ7.1 218 10)) ∧ (σ42.1 218 11 = (σ7.1 218 11)) ∧ (σ42.1 218 12 = (σ7.1 218 12)) ∧ (σ42.1 218 13 = (σ7.1 218 13)) ∧ (σ42.1 218 14 = (σ7.1 218 14)) ∧ (σ42.1 218 15 = (σ7.1 218 15)) ∧ (σ42.1 218 20 = (σ7.1 218 20)) ∧ (σ42.1 218 22 = (σ7.1 218 22)) ∧ (σ42.1 218 23 = (σ7.1 218 23)) ∧ (σ42.1 218 24 = (σ7.1 218 24)) ∧ (σ42.1 218 25 = (σ7.1 218 25)) ∧ (σ42.1 219 = σ33.1 219) ∧ (σ42.1 231 = σ7.1 231) from ⟨hT, (by rw [s68]; omega), hK, hB, g7_σ42, g9_σ42, g10_σ42, g11_σ42, g12_σ42, g13_σ42, g14_σ42, g15_σ42, g20_σ42, g22_σ42, g23_σ42, g24_σ42, g25_σ42, r219_σ42, r231_σ42⟩) (show (10240 - (x1_35 + 1).toInt).toNat < (10240 - x1_35.toInt).toNat from (by rw [s68]; omega))
            · have l68 := hc34
              rw [Int32.le_iff_toInt_le] at l68
              try simp only [Int32.reduceToInt] at l68
              have s68 : (x1_33 + 1).toInt = x1_33.toInt + 1 := by rw [ti_add]; simp only [Int32.reduceToInt]; omega
              refine ok_gR (v := 219) hT rfl (hR 218 1 rfl) ?_
              refine ok_gR (v := 231) hT rfl (hR 218 26 rfl) ?_
              refine ok_aIn rfl (by ((try simp only [g7_σ33, g9_σ33, g10_σ33, g11_σ33, g12_σ33, g13_σ33, g14_σ33, g15_σ33, g20_σ33, g22_σ33, g23_σ33, g24_σ33, g25_σ33])); first | omega | decide | (simp only [Int32.le_iff_toInt_le, Int32.lt_iff_toInt_lt, ti_add, ti_sub, ti_mul, Int32.reduceToInt] at *; omega)) (by ((try simp only [g7_σ33, g9_σ33, g10_σ33, g11_σ33, g12_σ33, g13_σ33, g14_σ33, g15_σ33, g20_σ33, g22_σ33, g23_σ33, g24_σ33, g25_σ33])); first | omega | decide | (simp only [Int32.le_iff_toInt_le, Int32.lt_iff_toInt_lt, ti_add, ti_sub, ti_mul, Int32.reduceToInt] at *; omega)) (fun v45 ev45 => ?_)
              have ev128 := ev45
              refine ok_s14 hT rfl (by decide) (by ((try simp only [g7_σ33, g9_σ33, g10_σ33, g11_σ33, g12_σ33, g13_σ33, g14_σ33, g15_σ33, g20_σ33, g22_σ33, g23_σ33, g24_σ33, g25_σ33])); first | omega | decide | (simp only [Int32.le_iff_toInt_le, Int32.lt_iff_toInt_lt, ti_add, ti_sub, ti_mul, Int32.reduceToInt] at *; omega)) (by ((try simp only [g7_σ33, g9_σ33, g10_σ33, g11_σ33, g12_σ33, g13_σ33, g14_σ33, g15_σ33, g20_σ33, g22_σ33, g23_σ33, g24_σ33, g25_σ33])); first | omega | decide | (simp only [Int32.le_iff_toInt_le, Int32.lt_iff_toInt_lt, ti_add, ti_sub, ti_mul, Int32.reduceToInt] at *; omega)) (fun σ46 eσ46 hOσ46 hT => ?_)
              have c129 : ∀ j : Nat, (j : Int) < (x1_33).toInt + 1 → σ46.1 219 j = σ46.1 231 j := by intro j hj; rw [hOσ46.2 231 (by decide)]; by_cases q : (j : Int) = (x1_33).toInt; rw [show j = (x1_33).toNatClampNeg by show j = (x1_33).toInt.toNat; omega, zI_atI eσ46]; exact ev128; rw [zI_atN eσ46 (by show j ≠ (x1_33).toInt.toNat; omega)]; exact c6 j (by omega)
              have r231_σ46 : σ46.1 231 = σ7.1 231 := (hOσ46.2 231 (by decide)).trans r231_σ33
              have hK : TOK σ46.1 := TOK_tr hOσ46 (by decide) (by decide) hK
              have hB : ZB σ46.1 := ZB.tr hOσ46 (by decide) hB
              have g7_σ46 : σ46.1 218 7 = (σ2.1 218 7) := (congrFun (hOσ46.2 218 (by decide)) 7).trans g7_σ33
              have g9_σ46 : σ46.1 218 9 = (σ2.1 218 9) := (congrFun (hOσ46.2 218 (by decide)) 9).trans g9_σ33
              have g10_σ46 : σ46.1 218 10 = (σ7.1 218 10) := (congrFun (hOσ46.2 218 (by decide)) 10).trans g10_σ33
              have g11_σ46 : σ46.1 218 11 = (σ7.1 218 11) := (congrFun (hOσ46.2 218 (by decide)) 11).trans g11_σ33
              have g12_σ46 : σ46.1 218 12 = (σ7.1 218 12) := (congrFun (hOσ46.2 218 (by decide)) 12).trans g12_σ33
              have g13_σ46 : σ46.1 218 13 = (σ7.1 218 13) := (congrFun (hOσ46.2 218 (by decide)) 13).trans g13_σ33
              have g14_σ46 : σ46.1 218 14 = (σ7.1 218 14) := (congrFun (hOσ46.2 218 (by decide)) 14).trans g14_σ33
              have g15_σ46 : σ46.1 218 15 = (σ7.1 218 15) := (congrFun (hOσ46.2 218 (by decide)) 15).trans g15_σ33
              have g20_σ46 : σ46.1 218 20 = (σ7.1 218 20) := (congrFun (hOσ46.2 218 (by decide)) 20).trans g20_σ33
              have g22_σ46 : σ46.1 218 22 = (σ7.1 218 22) := (congrFun (hOσ46.2 218 (by decide)) 22).trans g22_σ33
              have g23_σ46 : σ46.1 218 23 = (σ7.1 218 23) := (congrFun (hOσ46.2 218 (by decide)) 23).trans g23_σ33
              have g24_σ46 : σ46.1 218 24 = (σ7.1 218 24) := (congrFun (hOσ46.2 218 (by decide)) 24).trans g24_σ33
              have g25_σ46 : σ46.1 218 25 = (σ7.1 218 25) := (congrFun (hOσ46.2 218 (by decide)) 25).trans g25_σ33
              exact ih112_33 (x1_33 + 1, σ46) (show Tr [218, 219, 220, 226, 227, 228, 229, 230, 231, 232] σ0 σ46 ∧ (0 ≤ (x1_33 + 1).toInt ∧ ∀ j : Nat, (j : Int) < (x1_33 + 1).toInt → σ46.1 219 j = σ46.1 231 j) ∧ (TOK σ46.1) ∧ (ZB σ46.1) ∧ (σ46.1 218 7 = (σ2.1 218 7)) ∧ (σ46.1 218 9 = (σ2.1 218 9)) ∧ (σ46.1 218 10 = (σ7.1 218 10)) ∧ (σ46.1 218 11 = (σ7.1 218 11)) ∧ (σ46.1 218 12 = (σ7.1 218 12)) ∧ (σ46.1 218 13 = (σ7.1 218 13)) ∧ (σ46.1 218 14 = (σ7.1 218 14)) ∧ (σ46.1 218 15 = (σ7.1 218 15)) ∧ (σ46.1 218 20 = (σ7.1 218 20)) ∧ (σ46.1 218 22 = (σ7.1 218 22)) ∧ (σ46.1 218 23 = (σ7.1 218 23)) ∧ (σ46.1 218 24 = (σ7.1 218 24)) ∧ (σ46.1 218 25 = (σ7.1 218 25)) ∧ (σ46.1 231 = σ7.1 231) from ⟨hT, (by rw [s68]; exact ⟨by omega, c129⟩), hK, hB, g7_σ46, g9_σ46, g10_σ46, g11_σ46, g12_σ46, g13_σ46, g14_σ46, g15_σ46, g20_σ46, g22_σ46, g23_σ46, g24_σ46, g25_σ46, r231_σ46⟩) (show (43 - (x1_33 + 1).toInt).toNat < (43 - x1_33.toInt).toNat from (by rw [s68]; omega))
        · have l58 := hK.2.1 hc29
          refine ok_gR (v := 231) hT rfl (hR 218 26 rfl) ?_
          refine ok_aIn rfl (by ((try simp only [g7_σ7, g9_σ7])); first | omega | decide | (simp only [Int32.le_iff_toInt_le, Int32.lt_iff_toInt_lt, ti_add, ti_sub, ti_mul, Int32.reduceToInt] at *; omega)) (by ((try simp only [g7_σ7, g9_σ7])); first | omega | decide | (simp only [Int32.le_iff_toInt_le, Int32.lt_iff_toInt_lt, ti_add, ti_sub, ti_mul, Int32.reduceToInt] at *; omega)) (fun v48 ev48 => ?_)
          have ev66 : v48 = σ7.1 231 1 := ev48
          refine ok_if (fun hc49 => ?_) (fun hc49 => ?_)
          · have e67 := hc49
            refine ok_gC rfl ?_
            refine ok_zbT (Q := fun V σ => (TOK σ.1 ∧ (σ7.1 218 11).toInt ≤ (σ.1 218 11).toInt ∧ (σ.1 218 14 = 0 → σ7.1 218 14 = 0) ∧ FW (σ.1 231) ∧ σ.1 231 1 = σ7.1 231 1) ∧ (σ.1 218 7 = σ7.1 218 7 ∧ σ.1 218 9 = σ7.1 218 9 ∧ σ.1 218 20 = σ7.1 218 20 ∧ σ.1 218 22 = σ7.1 218 22 ∧ σ.1 218 23 = σ7.1 218 23 ∧ σ.1 218 24 = σ7.1 218 24 ∧ σ.1 218 25 = σ7.1 218 25)) hT (s_X12_readsNames hN (hR.tr hT) (hK) (by rw [hT.2 224 (by decide)]; exact hY) ((i1 y51).1.1) ((i1 y51).2 (by rw [← ev66, e67]; rfl))) (by decide) (fun v50 σ51 hOσ51 hT hqv50 => ?_)
            have hqv50 : (TOK σ51.1 ∧ (σ7.1 218 11).toInt ≤ (σ51.1 218 11).toInt ∧ (σ51.1 218 14 = 0 → σ7.1 218 14 = 0) ∧ FW (σ51.1 231) ∧ σ51.1 231 1 = σ7.1 231 1) ∧ (σ51.1 218 7 = σ7.1 218 7 ∧ σ51.1 218 9 = σ7.1 218 9 ∧ σ51.1 218 20 = σ7.1 218 20 ∧ σ51.1 218 22 = σ7.1 218 22 ∧ σ51.1 218 23 = σ7.1 218 23 ∧ σ51.1 218 24 = σ7.1 218 24 ∧ σ51.1 218 25 = σ7.1 218 25) := hqv50
            have hkv50 := hqv50
            have hqv50 := hqv50.1
            have r219_σ51 : σ51.1 219 = σ0.1 219 := (hOσ51.2 219 (by decide)).trans r219_σ7
            have hK : TOK σ51.1 := by first | exact hqv50.1 | exact TOK_p eσ51 (by decide) hK
            have hB : ZB σ51.1 := ZB.tr hOσ51 (by decide) hB
            try simp only [g7_σ7, g9_σ7] at hqv50
            have g7_σ51 : σ51.1 218 7 = (σ2.1 218 7) := (hkv50.2.1).trans g7_σ7
            have g9_σ51 : σ51.1 218 9 = (σ2.1 218 9) := (hkv50.2.2.1).trans g9_σ7
            have g20_σ51 : σ51.1 218 20 = (σ7.1 218 20) := hkv50.2.2.2.1
            have g22_σ51 : σ51.1 218 22 = (σ7.1 218 22) := hkv50.2.2.2.2.1
            have g23_σ51 : σ51.1 218 23 = (σ7.1 218 23) := hkv50.2.2.2.2.2.1
            have g24_σ51 : σ51.1 218 24 = (σ7.1 218 24) := hkv50.2.2.2.2.2.2.1
            have g25_σ51 : σ51.1 218 25 = (σ7.1 218 25) := hkv50.2.2.2.2.2.2.2
            have m71 := hqv50.2.1
            have f71 := hqv50.2.2.2.1
            have q71 := hqv50.2.2.2.2
            have k71 := hK.1
            refine ok_gC rfl ?_
            refine ok_zbT (Q := fun V σ => (TOK σ.1 ∧ (σ51.1 218 11).toInt ≤ (σ.1 218 11).toInt ∧ (σ.1 218 14 = 0 → σ51.1 218 14 = 0 ∧ (σ51.1 218 11).toInt < (σ.1 218 11).toInt)) ∧ (σ.1 218 7 = σ51.1 218 7 ∧ σ.1 218 9 = σ51.1 218 9 ∧ σ.1 218 20 = σ51.1 218 20 ∧ σ.1 218 22 = σ51.1 218 22 ∧ σ.1 218 23 = σ51.1 218 23 ∧ σ.1 218 24 = σ51.1 218 24 ∧ σ.1 218 25 = σ51.1 218 25)) hT (s_X12_needsSign hN (hR.tr hT) (hK) (by rw [hT.2 224 (by decide)]; exact hY) (by decide)) (by decide) (fun v52 σ53 hOσ53 hT hqv52 => ?_)
            have hqv52 : (TOK σ53.1 ∧ (σ51.1 218 11).toInt ≤ (σ53.1 218 11).toInt ∧ (σ53.1 218 14 = 0 → σ51.1 218 14 = 0 ∧ (σ51.1 218 11).toInt < (σ53.1 218 11).toInt)) ∧ (σ53.1 218 7 = σ51.1 218 7 ∧ σ53.1 218 9 = σ51.1 218 9 ∧ σ53.1 218 20 = σ51.1 218 20 ∧ σ53.1 218 22 = σ51.1 218 22 ∧ σ53.1 218 23 = σ51.1 218 23 ∧ σ53.1 218 24 = σ51.1 218 24 ∧ σ53.1 218 25 = σ51.1 218 25) := hqv52
            have hkv52 := hqv52
            have hqv52 := hqv52.1
            have r219_σ53 : σ53.1 219 = σ0.1 219 := (hOσ53.2 219 (by decide)).trans r219_σ51
            have r231_σ53 : σ53.1 231 = σ51.1 231 := hOσ53.2 231 (by decide)
            have hK : TOK σ53.1 := by first | exact hqv52.1 | exact TOK_p eσ53 (by decide) hK
            have hB : ZB σ53.1 := ZB.tr hOσ53 (by decide) hB
            try simp only [g7_σ51, g9_σ51, g20_σ51, g22_σ51, g23_σ51, g24_σ51, g25_σ51] at hqv52
            have g7_σ53 : σ53.1 218 7 = (σ2.1 218 7) := (hkv52.2.1).trans g7_σ51
            have g9_σ53 : σ53.1 218 9 = (σ2.1 218 9) := (hkv52.2.2.1).trans g9_σ51
            have g20_σ53 : σ53.1 218 20 = (σ7.1 218 20) := (hkv52.2.2.2.1).trans g20_σ51
            have g22_σ53 : σ53.1 218 22 = (σ7.1 218 22) := (hkv52.2.2.2.2.1).trans g22_σ51
            have g23_σ53 : σ53.1 218 23 = (σ7.1 218 23) := (hkv52.2.2.2.2.2.1).trans g23_σ51
            have g24_σ53 : σ53.1 218 24 = (σ7.1 218 24) := (hkv52.2.2.2.2.2.2.1).trans g24_σ51
            have g25_σ53 : σ53.1 218 25 = (σ7.1 218 25) := (hkv52.2.2.2.2.2.2.2).trans g25_σ51
            have m84 := hqv52.2.1
            have u84 := hqv52.2.2
            have k84 := hK.1
            refine ok_gR (v := 231) hT rfl (hR 218 26 rfl) ?_
            refine ok_aIn rfl (by ((try simp only [g7_σ53, g9_σ53, g20_σ53, g22_σ53, g23_σ53, g24_σ53, g25_σ53])); first | omega | decide | (simp only [Int32.le_iff_toInt_le, Int32.lt_iff_toInt_lt, ti_add, ti_sub, ti_mul, Int32.reduceToInt] at *; omega)) (by ((try simp only [g7_σ53, g9_σ53, g20_σ53, g22_σ53, g23_σ53, g24_σ53, g25_σ53])); first | omega | decide | (simp only [Int32.le_iff_toInt_le, Int32.lt_iff_toInt_lt, ti_add, ti_sub, ti_mul, Int32.reduceToInt] at *; omega)) (fun v55 ev55 => ?_)
            have ev93 := ev55
            rw [r231_σ53] at ev93
            have w93 := (show v55 = _ from ev93).trans q71
            have n93 := (i1 y51).1.2
            have s93 : (v55 + 1).toInt = v55.toInt + 1 := by rw [w93, ti_add]; simp only [Int32.reduceToInt]; omega
            refine ok_s14 hT rfl (by decide) (by ((try simp only [g7_σ53, g9_σ53, g20_σ53, g22_σ53, g23_σ53, g24_σ53, g25_σ53])); first | omega | decide | (simp only [Int32.le_iff_toInt_le, Int32.lt_iff_toInt_lt, ti_add, ti_sub, ti_mul, Int32.reduceToInt] at *; omega)) (by ((try simp only [g7_σ53, g9_σ53, g20_σ53, g22_σ53, g23_σ53, g24_σ53, g25_σ53])); first | omega | decide | (simp only [Int32.le_iff_toInt_le, Int32.lt_iff_toInt_lt, ti_add, ti_sub, ti_mul, Int32.reduceToInt] at *; omega)) (fun σ56 eσ56 hOσ56 hT => ?_)
            have k96 := FW_1 eσ56 rfl (by rw [r231_σ53]; exact f71)
            have a96 := k96.2
            have r219_σ56 : σ56.1 219 = σ0.1 219 := (hOσ56.2 219 (by decide)).trans r219_σ53
            have hK : TOK σ56.1 := TOK_tr hOσ56 (by decide) (by decide) hK
            have hB : ZB σ56.1 := ZB.tr hOσ56 (by decide) hB
            have g7_σ56 : σ56.1 218 7 = (σ2.1 218 7) := (congrFun (hOσ56.2 218 (by decide)) 7).trans g7_σ53
            have g9_σ56 : σ56.1 218 9 = (σ2.1 218 9) := (congrFun (hOσ56.2 218 (by decide)) 9).trans g9_σ53
            have g10_σ56 : σ56.1 218 10 = (σ53.1 218 10) := congrFun (hOσ56.2 218 (by decide)) 10
            have g11_σ56 : σ56.1 218 11 = (σ53.1 218 11) := congrFun (hOσ56.2 218 (by decide)) 11
            have g12_σ56 : σ56.1 218 12 = (σ53.1 218 12) := congrFun (hOσ56.2 218 (by decide)) 12
            have g13_σ56 : σ56.1 218 13 = (σ53.1 218 13) := congrFun (hOσ56.2 218 (by decide)) 13
            have g14_σ56 : σ56.1 218 14 = (σ53.1 218 14) := congrFun (hOσ56.2 218 (by decide)) 14
            have g15_σ56 : σ56.1 218 15 = (σ53.1 218 15) := congrFun (hOσ56.2 218 (by decide)) 15
            have g20_σ56 : σ56.1 218 20 = (σ7.1 218 20) := (congrFun (hOσ56.2 218 (by decide)) 20).trans g20_σ53
            have g22_σ56 : σ56.1 218 22 = (σ7.1 218 22) := (congrFun (hOσ56.2 218 (by decide)) 22).trans g22_σ53
            have g23_σ56 : σ56.1 218 23 = (σ7.1 218 23) := (congrFun (hOσ56.2 218 (by decide)) 23).trans g23_σ53
            have g24_σ56 : σ56.1 218 24 = (σ7.1 218 24) := (congrFun (hOσ56.2 218 (by decide)) 24).trans g24_σ53
            have g25_σ56 : σ56.1 218 25 = (σ7.1 218 25) := (congrFun (hOσ56.2 218 (by decide)) 25).trans g25_σ53
            exact ih47_7 σ56 (show Tr [218, 219, 220, 226, 227, 228, 229, 230, 231, 232] σ0 σ56 ∧ ((σ56.1 218 14 = 0 → (FW (σ56.1 231) ∧ 0 ≤ (σ56.1 231 1).toInt ∧ (σ56.1 231 1).toInt ≤ (σ56.1 218 11).toInt) ∧ ((σ56.1 231 1).toInt = 0 → (σ56.1 231 2).toInt = 0))) ∧ (TOK σ56.1) ∧ (ZB σ56.1) ∧ (σ56.1 218 7 = (σ2.1 218 7)) ∧ (σ56.1 218 9 = (σ2.1 218 9)) ∧ (σ56.1 219 = σ0.1 219) from ⟨hT, (by intro q; have u9 := u84 ((g14_σ56).symm.trans q); (try simp only [g7_σ56, g9_σ56, g10_σ56, g11_σ56, g12_σ56, g13_σ56, g14_σ56, g15_σ56, g20_σ56, g22_σ56, g23_σ56, g24_σ56, g25_σ56]); rw [a96, s93, w93]; exact ⟨⟨k96.1, by omega, by omega⟩, fun h9 => by omega⟩), hK, hB, g7_σ56, g9_σ56, r219_σ56⟩) (show (600 - (σ56.1 218 11).toInt).toNat + (if σ56.1 218 14 = 0 then 1 else 0) < (600 - (σ7.1 218 11).toInt).toNat + (if σ7.1 218 14 = 0 then 1 else 0) from (by exact mu2 (by (try simp only [g7_σ56, g9_σ56, g10_σ56, g11_σ56, g12_σ56, g13_σ56, g14_σ56, g15_σ56, g20_σ56, g22_σ56, g23_σ56, g24_σ56, g25_σ56]); omega) (by (try simp only [g7_σ56, g9_σ56, g10_σ56, g11_σ56, g12_σ56, g13_σ56, g14_σ56, g15_σ56, g20_σ56, g22_σ56, g23_σ56, g24_σ56, g25_σ56]); omega) y51 (fun q => by have u9 := u84 ((g14_σ56).symm.trans q); (try simp only [g7_σ56, g9_σ56, g10_σ56, g11_σ56, g12_σ56, g13_σ56, g14_σ56, g15_σ56, g20_σ56, g22_σ56, g23_σ56, g24_σ56, g25_σ56]); omega)))
          · refine ok_gC rfl ?_
            refine ok_zbT (Q := fun V σ => (TOK σ.1 ∧ (σ7.1 218 11).toInt ≤ (σ.1 218 11).toInt ∧ FW (σ.1 231) ∧ σ.1 231 1 = σ7.1 231 1 ∧ ZB σ.1) ∧ (σ.1 218 7 = σ7.1 218 7 ∧ σ.1 218 9 = σ7.1 218 9)) hT (s_X12_readsLine hN (hR.tr hT) (hK) (by rw [hT.2 224 (by decide)]; exact hY) (hB) ((i1 y51).1.1) (y51)) (by decide) (fun v57 σ58 hOσ58 hT hqv57 => ?_)
            have hqv57 : (TOK σ58.1 ∧ (σ7.1 218 11).toInt ≤ (σ58.1 218 11).toInt ∧ FW (σ58.1 231) ∧ σ58.1 231 1 = σ7.1 231 1 ∧ ZB σ58.1) ∧ (σ58.1 218 7 = σ7.1 218 7 ∧ σ58.1 218 9 = σ7.1 218 9) := hqv57
            have hkv57 := hqv57
            have hqv57 := hqv57.1
            have r219_σ58 : σ58.1 219 = σ0.1 219 := (hOσ58.2 219 (by decide)).trans r219_σ7
            have hK : TOK σ58.1 := by first | exact hqv57.1 | exact TOK_p eσ58 (by decide) hK
            have hB : ZB σ58.1 := by first | exact hqv57.2.2.2.2 | exact ZB_s eσ58 hB
            try simp only [g7_σ7, g9_σ7] at hqv57
            have g7_σ58 : σ58.1 218 7 = (σ2.1 218 7) := (hkv57.2.1).trans g7_σ7
            have g9_σ58 : σ58.1 218 9 = (σ2.1 218 9) := (hkv57.2.2).trans g9_σ7
            have m71 := hqv57.2.1
            have f71 := hqv57.2.2.1
            have q71 := hqv57.2.2.2.1
            have k71 := hK.1
            refine ok_gC rfl ?_
            refine ok_zbT (Q := fun V σ => (TOK σ.1 ∧ (σ58.1 218 11).toInt ≤ (σ.1 218 11).toInt ∧ (σ.1 218 14 = 0 → σ58.1 218 14 = 0 ∧ (σ58.1 218 11).toInt < (σ.1 218 11).toInt)) ∧ (σ.1 218 7 = σ58.1 218 7 ∧ σ.1 218 9 = σ58.1 218 9 ∧ σ.1 218 20 = σ58.1 218 20 ∧ σ.1 218 22 = σ58.1 218 22 ∧ σ.1 218 23 = σ58.1 218 23 ∧ σ.1 218 24 = σ58.1 218 24 ∧ σ.1 218 25 = σ58.1 218 25)) hT (s_X12_needsSign hN (hR.tr hT) (hK) (by rw [hT.2 224 (by decide)]; exact hY) (by decide)) (by decide) (fun v59 σ60 hOσ60 hT hqv59 => ?_)
            have hqv59 : (TOK σ60.1 ∧ (σ58.1 218 11).toInt ≤ (σ60.1 218 11).toInt ∧ (σ60.1 218 14 = 0 → σ58.1 218 14 = 0 ∧ (σ58.1 218 11).toInt < (σ60.1 218 11).toInt)) ∧ (σ60.1 218 7 = σ58.1 218 7 ∧ σ60.1 218 9 = σ58.1 218 9 ∧ σ60.1 218 20 = σ58.1 218 20 ∧ σ60.1 218 22 = σ58.1 218 22 ∧ σ60.1 218 23 = σ58.1 218 23 ∧ σ60.1 218 24 = σ58.1 218 24 ∧ σ60.1 218 25 = σ58.1 218 25) := hqv59
            have hkv59 := hqv59
            have hqv59 := hqv59.1
            have r219_σ60 : σ60.1 219 = σ0.1 219 := (hOσ60.2 219 (by decide)).trans r219_σ58
            have r231_σ60 : σ60.1 231 = σ58.1 231 := hOσ60.2 231 (by decide)
            have hK : TOK σ60.1 := by first | exact hqv59.1 | exact TOK_p eσ60 (by decide) hK
            have hB : ZB σ60.1 := ZB.tr hOσ60 (by decide) hB
            try simp only [g7_σ58, g9_σ58] at hqv59
            have g7_σ60 : σ60.1 218 7 = (σ2.1 218 7) := (hkv59.2.1).trans g7_σ58
            have g9_σ60 : σ60.1 218 9 = (σ2.1 218 9) := (hkv59.2.2.1).trans g9_σ58
            have g20_σ60 : σ60.1 218 20 = (σ58.1 218 20) := hkv59.2.2.2.1
            have g22_σ60 : σ60.1 218 22 = (σ58.1 218 22) := hkv59.2.2.2.2.1
            have g23_σ60 : σ60.1 218 23 = (σ58.1 218 23) := hkv59.2.2.2.2.2.1
            have g24_σ60 : σ60.1 218 24 = (σ58.1 218 24) := hkv59.2.2.2.2.2.2.1
            have g25_σ60 : σ60.1 218 25 = (σ58.1 218 25) := hkv59.2.2.2.2.2.2.2
            have m84 := hqv59.2.1
            have u84 := hqv59.2.2
            have k84 := hK.1
            refine ok_gR (v := 231) hT rfl (hR 218 26 rfl) ?_
            refine ok_aIn rfl (by ((try simp only [g7_σ60, g9_σ60, g20_σ60, g22_σ60, g23_σ60, g24_σ60, g25_σ60])); first | omega | decide | (simp only [Int32.le_iff_toInt_le, Int32.lt_iff_toInt_lt, ti_add, ti_sub, ti_mul, Int32.reduceToInt] at *; omega)) (by ((try simp only [g7_σ60, g9_σ60, g20_σ60, g22_σ60, g23_σ60, g24_σ60, g25_σ60])); first | omega | decide | (simp only [Int32.le_iff_toInt_le, Int32.lt_iff_toInt_lt, ti_add, ti_sub, ti_mul, Int32.reduceToInt] at *; omega)) (fun v62 ev62 => ?_)
            have ev93 := ev62
            rw [r231_σ60] at ev93
            have w93 := (show v62 = _ from ev93).trans q71
            have n93 := (i1 y51).1.2
            have s93 : (v62 + 1).toInt = v62.toInt + 1 := by rw [w93, ti_add]; simp only [Int32.reduceToInt]; omega
            refine ok_s14 hT rfl (by decide) (by ((try simp only [g7_σ60, g9_σ60, g20_σ60, g22_σ60, g23_σ60, g24_σ60, g25_σ60])); first | omega | decide | (simp only [Int32.le_iff_toInt_le, Int32.lt_iff_toInt_lt, ti_add, ti_sub, ti_mul, Int32.reduceToInt] at *; omega)) (by ((try simp only [g7_σ60, g9_σ60, g20_σ60, g22_σ60, g23_σ60, g24_σ60, g25_σ60])); first | omega | decide | (simp only [Int32.le_iff_toInt_le, Int32.lt_iff_toInt_lt, ti_add, ti_sub, ti_mul, Int32.reduceToInt] at *; omega)) (fun σ63 eσ63 hOσ63 hT => ?_)
            have k96 := FW_1 eσ63 rfl (by rw [r231_σ60]; exact f71)
            have a96 := k96.2
            have r219_σ63 : σ63.1 219 = σ0.1 219 := (hOσ63.2 219 (by decide)).trans r219_σ60
            have hK : TOK σ63.1 := TOK_tr hOσ63 (by decide) (by decide) hK
            have hB : ZB σ63.1 := ZB.tr hOσ63 (by decide) hB
            have g7_σ63 : σ63.1 218 7 = (σ2.1 218 7) := (congrFun (hOσ63.2 218 (by decide)) 7).trans g7_σ60
            have g9_σ63 : σ63.1 218 9 = (σ2.1 218 9) := (congrFun (hOσ63.2 218 (by decide)) 9).trans g9_σ60
            have g10_σ63 : σ63.1 218 10 = (σ60.1 218 10) := congrFun (hOσ63.2 218 (by decide)) 10
            have g11_σ63 : σ63.1 218 11 = (σ60.1 218 11) := congrFun (hOσ63.2 218 (by decide)) 11
            have g12_σ63 : σ63.1 218 12 = (σ60.1 218 12) := congrFun (hOσ63.2 218 (by decide)) 12
            have g13_σ63 : σ63.1 218 13 = (σ60.1 218 13) := congrFun (hOσ63.2 218 (by decide)) 13
            have g14_σ63 : σ63.1 218 14 = (σ60.1 218 14) := congrFun (hOσ63.2 218 (by decide)) 14
            have g15_σ63 : σ63.1 218 15 = (σ60.1 218 15) := congrFun (hOσ63.2 218 (by decide)) 15
            have g20_σ63 : σ63.1 218 20 = (σ58.1 218 20) := (congrFun (hOσ63.2 218 (by decide)) 20).trans g20_σ60
            have g22_σ63 : σ63.1 218 22 = (σ58.1 218 22) := (congrFun (hOσ63.2 218 (by decide)) 22).trans g22_σ60
            have g23_σ63 : σ63.1 218 23 = (σ58.1 218 23) := (congrFun (hOσ63.2 218 (by decide)) 23).trans g23_σ60
            have g24_σ63 : σ63.1 218 24 = (σ58.1 218 24) := (congrFun (hOσ63.2 218 (by decide)) 24).trans g24_σ60
            have g25_σ63 : σ63.1 218 25 = (σ58.1 218 25) := (congrFun (hOσ63.2 218 (by decide)) 25).trans g25_σ60
            exact ih47_7 σ63 (show Tr [218, 219, 220, 226, 227, 228, 229, 230, 231, 232] σ0 σ63 ∧ ((σ63.1 218 14 = 0 → (FW (σ63.1 231) ∧ 0 ≤ (σ63.1 231 1).toInt ∧ (σ63.1 231 1).toInt ≤ (σ63.1 218 11).toInt) ∧ ((σ63.1 231 1).toInt = 0 → (σ63.1 231 2).toInt = 0))) ∧ (TOK σ63.1) ∧ (ZB σ63.1) ∧ (σ63.1 218 7 = (σ2.1 218 7)) ∧ (σ63.1 218 9 = (σ2.1 218 9)) ∧ (σ63.1 219 = σ0.1 219) from ⟨hT, (by intro q; have u9 := u84 ((g14_σ63).symm.trans q); (try simp only [g7_σ63, g9_σ63, g10_σ63, g11_σ63, g12_σ63, g13_σ63, g14_σ63, g15_σ63, g20_σ63, g22_σ63, g23_σ63, g24_σ63, g25_σ63]); rw [a96, s93, w93]; exact ⟨⟨k96.1, by omega, by omega⟩, fun h9 => by omega⟩), hK, hB, g7_σ63, g9_σ63, r219_σ63⟩) (show (600 - (σ63.1 218 11).toInt).toNat + (if σ63.1 218 14 = 0 then 1 else 0) < (600 - (σ7.1 218 11).toInt).toNat + (if σ7.1 218 14 = 0 then 1 else 0) from (by exact mu2 (by (try simp only [g7_σ63, g9_σ63, g10_σ63, g11_σ63, g12_σ63, g13_σ63, g14_σ63, g15_σ63, g20_σ63, g22_σ63, g23_σ63, g24_σ63, g25_σ63]); omega) (by (try simp only [g7_σ63, g9_σ63, g10_σ63, g11_σ63, g12_σ63, g13_σ63, g14_σ63, g15_σ63, g20_σ63, g22_σ63, g23_σ63, g24_σ63, g25_σ63]); omega) y51 (fun q => by have u9 := u84 ((g14_σ63).symm.trans q); (try simp only [g7_σ63, g9_σ63, g10_σ63, g11_σ63, g12_σ63, g13_σ63, g14_σ63, g15_σ63, g20_σ63, g22_σ63, g23_σ63, g24_σ63, g25_σ63]); omega)))
    · have l68 := hc6
      rw [Int32.le_iff_toInt_le] at l68
      try simp only [Int32.reduceToInt] at l68
      have s68 : (x1_5 + 1).toInt = x1_5.toInt + 1 := by rw [ti_add]; simp only [Int32.reduceToInt]; omega
      refine ok_gR (v := 232) hT rfl (hR 218 27 rfl) ?_
      refine ok_s16 hT rfl (by decide) (by ((try simp only [g7_σ5, g9_σ5, g10_σ5, g11_σ5, g12_σ5, g13_σ5, g14_σ5, g15_σ5, g20_σ5, g22_σ5, g23_σ5, g24_σ5, g25_σ5])); first | omega | decide | (simp only [Int32.le_iff_toInt_le, Int32.lt_iff_toInt_lt, ti_add, ti_sub, ti_mul, Int32.reduceToInt] at *; omega)) (by ((try simp only [g7_σ5, g9_σ5, g10_σ5, g11_σ5, g12_σ5, g13_σ5, g14_σ5, g15_σ5, g20_σ5, g22_σ5, g23_σ5, g24_σ5, g25_σ5])); first | omega | decide | (simp only [Int32.le_iff_toInt_le, Int32.lt_iff_toInt_lt, ti_add, ti_sub, ti_mul, Int32.reduceToInt] at *; omega)) (fun σ65 eσ65 hOσ65 hT => ?_)
      have r219_σ65 : σ65.1 219 = σ0.1 219 := (hOσ65.2 219 (by decide)).trans r219_σ5
      have r231_σ65 : σ65.1 231 = σ3.1 231 := (hOσ65.2 231 (by decide)).trans r231_σ5
      have hK : TOK σ65.1 := TOK_tr hOσ65 (by decide) (by decide) hK
      have hB : ZB σ65.1 := by first | exact HQ.2.2.2.2 | exact ZB_s eσ65 hB
      have g7_σ65 : σ65.1 218 7 = (σ2.1 218 7) := (congrFun (hOσ65.2 218 (by decide)) 7).trans g7_σ5
      have g9_σ65 : σ65.1 218 9 = (σ2.1 218 9) := (congrFun (hOσ65.2 218 (by decide)) 9).trans g9_σ5
      have g10_σ65 : σ65.1 218 10 = (σ2.1 218 10) := (congrFun (hOσ65.2 218 (by decide)) 10).trans g10_σ5
      have g11_σ65 : σ65.1 218 11 = (σ2.1 218 11) := (congrFun (hOσ65.2 218 (by decide)) 11).trans g11_σ5
      have g12_σ65 : σ65.1 218 12 = (σ2.1 218 12) := (congrFun (hOσ65.2 218 (by decide)) 12).trans g12_σ5
      have g13_σ65 : σ65.1 218 13 = (σ2.1 218 13) := (congrFun (hOσ65.2 218 (by decide)) 13).trans g13_σ5
      have g14_σ65 : σ65.1 218 14 = (σ2.1 218 14) := (congrFun (hOσ65.2 218 (by decide)) 14).trans g14_σ5
      have g15_σ65 : σ65.1 218 15 = (σ2.1 218 15) := (congrFun (hOσ65.2 218 (by decide)) 15).trans g15_σ5
      have g20_σ65 : σ65.1 218 20 = (σ0.1 218 20) := (congrFun (hOσ65.2 218 (by decide)) 20).trans g20_σ5
      have g22_σ65 : σ65.1 218 22 = (σ0.1 218 22) := (congrFun (hOσ65.2 218 (by decide)) 22).trans g22_σ5
      have g23_σ65 : σ65.1 218 23 = (σ0.1 218 23) := (congrFun (hOσ65.2 218 (by decide)) 23).trans g23_σ5
      have g24_σ65 : σ65.1 218 24 = (σ0.1 218 24) := (congrFun (hOσ65.2 218 (by decide)) 24).trans g24_σ5
      have g25_σ65 : σ65.1 218 25 = (σ2.1 218 25) := (congrFun (hOσ65.2 218 (by decide)) 25).trans g25_σ5
      exact ih27_5 (x1_5 + 1, σ65) (show Tr [218, 219, 220, 226, 227, 228, 229, 230, 231, 232] σ0 σ65 ∧ (0 ≤ (x1_5 + 1).toInt) ∧ (TOK σ65.1) ∧ (ZB σ65.1) ∧ (σ65.1 218 7 = (σ2.1 218 7)) ∧ (σ65.1 218 9 = (σ2.1 218 9)) ∧ (σ65.1 218 10 = (σ2.1 218 10)) ∧ (σ65.1 218 11 = (σ2.1 218 11)) ∧ (σ65.1 218 12 = (σ2.1 218 12)) ∧ (σ65.1 218 13 = (σ2.1 218 13)) ∧ (σ65.1 218 14 = (σ2.1 218 14)) ∧ (σ65.1 218 15 = (σ2.1 218 15)) ∧ (σ65.1 218 20 = (σ0.1 218 20)) ∧ (σ65.1 218 22 = (σ0.1 218 22)) ∧ (σ65.1 218 23 = (σ0.1 218 23)) ∧ (σ65.1 218 24 = (σ0.1 218 24)) ∧ (σ65.1 218 25 = (σ2.1 218 25)) ∧ (σ65.1 219 = σ0.1 219) ∧ (σ65.1 231 = σ3.1 231) from ⟨hT, (by rw [s68]; omega), hK, hB, g7_σ65, g9_σ65, g10_σ65, g11_σ65, g12_σ65, g13_σ65, g14_σ65, g15_σ65, g20_σ65, g22_σ65, g23_σ65, g24_σ65, g25_σ65, r219_σ65, r231_σ65⟩) (show (10240 - (x1_5 + 1).toInt).toNat < (10240 - x1_5.toInt).toNat from (by rw [s68]; omega))
  · have l68 := hc4
    rw [Int32.le_iff_toInt_le] at l68
    try simp only [Int32.reduceToInt] at l68
    have s68 : (x1_3 + 1).toInt = x1_3.toInt + 1 := by rw [ti_add]; simp only [Int32.reduceToInt]; omega
    refine ok_gR (v := 231) hT rfl (hR 218 26 rfl) ?_
    refine ok_s14 hT rfl (by decide) (by ((try simp only [g7_σ3, g9_σ3, g10_σ3, g11_σ3, g12_σ3, g13_σ3, g14_σ3, g15_σ3, g20_σ3, g22_σ3, g23_σ3, g24_σ3, g25_σ3])); first | omega | decide | (simp only [Int32.le_iff_toInt_le, Int32.lt_iff_toInt_lt, ti_add, ti_sub, ti_mul, Int32.reduceToInt] at *; omega)) (by ((try simp only [g7_σ3, g9_σ3, g10_σ3, g11_σ3, g12_σ3, g13_σ3, g14_σ3, g15_σ3, g20_σ3, g22_σ3, g23_σ3, g24_σ3, g25_σ3])); first | omega | decide | (simp only [Int32.le_iff_toInt_le, Int32.lt_iff_toInt_lt, ti_add, ti_sub, ti_mul, Int32.reduceToInt] at *; omega)) (fun σ67 eσ67 hOσ67 hT => ?_)
    have z18 : ∀ j : Nat, (j : Int) < (x1_3).toInt + 1 → σ67.1 231 j = 0 := by intro j hj; by_cases q : (j : Int) = (x1_3).toInt; rw [show j = (x1_3).toNatClampNeg by show j = (x1_3).toInt.toNat; omega, zI_atI eσ67]; rw [zI_atN eσ67 (by show j ≠ (x1_3).toInt.toNat; omega)]; exact z6 j (by omega)
    have r219_σ67 : σ67.1 219 = σ0.1 219 := (hOσ67.2 219 (by decide)).trans r219_σ3
    have hK : TOK σ67.1 := TOK_tr hOσ67 (by decide) (by decide) hK
    have hB : ZB σ67.1 := ZB.tr hOσ67 (by decide) hB
    have g7_σ67 : σ67.1 218 7 = (σ2.1 218 7) := (congrFun (hOσ67.2 218 (by decide)) 7).trans g7_σ3
    have g9_σ67 : σ67.1 218 9 = (σ2.1 218 9) := (congrFun (hOσ67.2 218 (by decide)) 9).trans g9_σ3
    have g10_σ67 : σ67.1 218 10 = (σ2.1 218 10) := (congrFun (hOσ67.2 218 (by decide)) 10).trans g10_σ3
    have g11_σ67 : σ67.1 218 11 = (σ2.1 218 11) := (congrFun (hOσ67.2 218 (by decide)) 11).trans g11_σ3
    have g12_σ67 : σ67.1 218 12 = (σ2.1 218 12) := (congrFun (hOσ67.2 218 (by decide)) 12).trans g12_σ3
    have g13_σ67 : σ67.1 218 13 = (σ2.1 218 13) := (congrFun (hOσ67.2 218 (by decide)) 13).trans g13_σ3
    have g14_σ67 : σ67.1 218 14 = (σ2.1 218 14) := (congrFun (hOσ67.2 218 (by decide)) 14).trans g14_σ3
    have g15_σ67 : σ67.1 218 15 = (σ2.1 218 15) := (congrFun (hOσ67.2 218 (by decide)) 15).trans g15_σ3
    have g20_σ67 : σ67.1 218 20 = (σ0.1 218 20) := (congrFun (hOσ67.2 218 (by decide)) 20).trans g20_σ3
    have g22_σ67 : σ67.1 218 22 = (σ0.1 218 22) := (congrFun (hOσ67.2 218 (by decide)) 22).trans g22_σ3
    have g23_σ67 : σ67.1 218 23 = (σ0.1 218 23) := (congrFun (hOσ67.2 218 (by decide)) 23).trans g23_σ3
    have g24_σ67 : σ67.1 218 24 = (σ0.1 218 24) := (congrFun (hOσ67.2 218 (by decide)) 24).trans g24_σ3
    have g25_σ67 : σ67.1 218 25 = (σ2.1 218 25) := (congrFun (hOσ67.2 218 (by decide)) 25).trans g25_σ3
    exact ih6_3 (x1_3 + 1, σ67) (show Tr [218, 219, 220, 226, 227, 228, 229, 230, 231, 232] σ0 σ67 ∧ (0 ≤ (x1_3 + 1).toInt ∧ ∀ j : Nat, (j : Int) < (x1_3 + 1).toInt → σ67.1 231 j = 0) ∧ (TOK σ67.1) ∧ (ZB σ67.1) ∧ (σ67.1 218 7 = (σ2.1 218 7)) ∧ (σ67.1 218 9 = (σ2.1 218 9)) ∧ (σ67.1 218 10 = (σ2.1 218 10)) ∧ (σ67.1 218 11 = (σ2.1 218 11)) ∧ (σ67.1 218 12 = (σ2.1 218 12)) ∧ (σ67.1 218 13 = (σ2.1 218 13)) ∧ (σ67.1 218 14 = (σ2.1 218 14)) ∧ (σ67.1 218 15 = (σ2.1 218 15)) ∧ (σ67.1 218 20 = (σ0.1 218 20)) ∧ (σ67.1 218 22 = (σ0.1 218 22)) ∧ (σ67.1 218 23 = (σ0.1 218 23)) ∧ (σ67.1 218 24 = (σ0.1 218 24)) ∧ (σ67.1 218 25 = (σ2.1 218 25)) ∧ (σ67.1 219 = σ0.1 219) from ⟨hT, (by rw [s68]; exact ⟨by omega, z18⟩), hK, hB, g7_σ67, g9_σ67, g10_σ67, g11_σ67, g12_σ67, g13_σ67, g14_σ67, g15_σ67, g20_σ67, g22_σ67, g23_σ67, g24_σ67, g25_σ67, r219_σ67⟩) (show (43 - (x1_3 + 1).toInt).toNat < (43 - x1_3.toInt).toNat from (by rw [s68]; omega))
end Zq10_0
section Zq10_1
theorem tm2 {x : Int32} {y n : Int} {m : Nat} (h0 : 0 ≤ y) (h1 : y < x.toInt) (h2 : x.toInt < n) (h3 : n ≤ 10) (hm : x.toInt.toNat = m + 1) : (y ≤ (x + (-1)).toInt ∧ (x + (-1)).toInt < n) ∧ (x + (-1)).toInt.toNat = m ∧ (x + (-1)).toInt.toNat < x.toInt.toNat := by
  have k := tm1 (x := x) (by omega) (by omega)
  rw [k]
  clear k
  omega

set_option maxHeartbeats 4000000 in
set_option maxRecDepth 100000 in
theorem s_X12_goesTo {N : Nat} (hN : 1048576 ≤ N) {x1 : Int32} {x2 : Int32} {σ0 : zS}  (hR : RF σ0.2.2) (hM : MW (σ0.1 219) 0) (hx : 0 ≤ x1.toInt ∧ x1.toInt < (σ0.1 219 0).toInt) (hy : 0 ≤ x2.toInt ∧ x2.toInt < (σ0.1 219 0).toInt) : Ok (f_X12_goesTo N 218 x1 x2 σ0) (fun r => Tr [219] σ0 r.2 ∧ (MW (r.2.1 219) 0 ∧ (r.2.1 219 0).toInt = (σ0.1 219 0).toInt)) := by
  have hT : Tr [219] σ0 σ0 := Tr.rf
  have hn := hM.1
  have he : 0 ≤ (σ0.1 219 2).toInt ∧ (σ0.1 219 2).toInt ≤ 10 := hM.2.1
  have qm := mny_b hn.1 hn.2
  rw [f_X12_goesTo.eq_1]
  refine ok_gC rfl ?_
  refine ok_zbT (Q := fun V σ => (0 ≤ V.toInt ∧ V.toInt < (σ0.1 219 0).toInt) ∧ σ0.1 219 (33 + V.toInt.toNat) = x1) hT (s_X12_placeOf hN (hR.tr hT) (hM) (hx)) (fun _ h9 => absurd h9 List.not_mem_nil) (fun v1 σ2 hOσ2 hT hqv1 => ?_)
  have hqv1 : (0 ≤ v1.toInt ∧ v1.toInt < (σ0.1 219 0).toInt) ∧ σ0.1 219 (33 + v1.toInt.toNat) = x1 := hqv1
  have hH : HL (σ2.1 219) x1 v1.toInt.toNat := by rw [hOσ2.2 219 List.not_mem_nil]; exact HL_0 hM hqv1.2
  have h0 : (σ2.1 219 0).toInt = (σ0.1 219 0).toInt := by rw [hOσ2.2 219 List.not_mem_nil]
  have hb3 := hqv1.1
  refine ok_lp (fun t : Int32 × zS => Tr [219] σ0 (t.2) ∧ (((0 ≤ (t.1).toInt ∧ (t.1).toInt < (σ0.1 219 0).toInt) ∧ ((t.2).1 219 0).toInt = (σ0.1 219 0).toInt) ∧ HL ((t.2).1 219) x1 (t.1).toInt.toNat)) (fun t : Int32 × zS => (10 - (t.1).toInt).toNat) (fun again3 t hI ih6_3 => ?_) N _ (show Tr [219] σ0 σ2 ∧ (((0 ≤ v1.toInt ∧ v1.toInt < (σ0.1 219 0).toInt) ∧ (σ2.1 219 0).toInt = (σ0.1 219 0).toInt) ∧ HL (σ2.1 219) x1 v1.toInt.toNat) from ⟨hT, (by exact ⟨⟨hb3, h0⟩, hH⟩)⟩) (show (10 - v1.toInt).toNat < N from (by first | omega | decide | (simp only [Int32.le_iff_toInt_le, Int32.lt_iff_toInt_lt, ti_add, ti_sub, ti_mul, Int32.reduceToInt] at *; omega)))
  obtain ⟨x3_3, σ3⟩ := t
  have hI : Tr [219] σ0 σ3 ∧ (((0 ≤ x3_3.toInt ∧ x3_3.toInt < (σ0.1 219 0).toInt) ∧ (σ3.1 219 0).toInt = (σ0.1 219 0).toInt) ∧ HL (σ3.1 219) x1 x3_3.toInt.toNat) := hI
  obtain ⟨hT, hI3⟩ := hI
  rw [F_X12_goesTo_6.eq_1]
  have hH := hI3.2
  have h0 := hI3.1.2
  have hb3 := hI3.1.1
  refine ok_if (fun hc4 => ?_) (fun hc4 => ?_)
  · have k9 : x2.toInt ≤ x3_3.toInt := by first | omega | (simp only [Int32.le_iff_toInt_le, Int32.lt_iff_toInt_lt, ti_add, ti_sub, ti_mul, Int32.reduceToInt] at *; omega)
    refine ok_lp (fun t : Int32 × zS => Tr [219] σ0 (t.2) ∧ (((x2.toInt ≤ (t.1).toInt ∧ (t.1).toInt < (σ0.1 219 0).toInt) ∧ ((t.2).1 219 0).toInt = (σ0.1 219 0).toInt) ∧ HL ((t.2).1 219) x1 (t.1).toInt.toNat)) (fun t : Int32 × zS => (t.1).toInt.toNat) (fun again5 t hI ih37_5 => ?_) N _ (show Tr [219] σ0 σ3 ∧ (((x2.toInt ≤ x3_3.toInt ∧ x3_3.toInt < (σ0.1 219 0).toInt) ∧ (σ3.1 219 0).toInt = (σ0.1 219 0).toInt) ∧ HL (σ3.1 219) x1 x3_3.toInt.toNat) from ⟨hT, (by exact ⟨⟨by omega, h0⟩, hH⟩)⟩) (show x3_3.toInt.toNat < N from (by first | omega | decide | (simp only [Int32.le_iff_toInt_le, Int32.lt_iff_toInt_lt, ti_add, ti_sub, ti_mul, Int32.reduceToInt] at *; omega)))
    obtain ⟨x3_5, σ5⟩ := t
    have hI : Tr [219] σ0 σ5 ∧ (((x2.toInt ≤ x3_5.toInt ∧ x3_5.toInt < (σ0.1 219 0).toInt) ∧ (σ5.1 219 0).toInt = (σ0.1 219 0).toInt) ∧ HL (σ5.1 219) x1 x3_5.toInt.toNat) := hI
    obtain ⟨hT, hI5⟩ := hI
    rw [F_X12_goesTo_37.eq_1]
    have hH := hI5.2
    have h0 := hI5.1.2
    have hb3 := hI5.1.1
    refine ok_if (fun hc6 => ?_) (fun hc6 => ?_)
    · have hq : x3_5.toInt.toNat = x2.toInt.toNat := by first | omega | (simp only [Int32.le_iff_toInt_le, Int32.lt_iff_toInt_lt, ti_add, ti_sub, ti_mul, Int32.reduceToInt] at *; omega)
      rw [hq] at hH
      have i9 := ti33 (x := x2) (by omega) (by omega)
      refine ok_gR (v := 219) hT rfl (hR 218 1 rfl) ?_
      refine ok_s14 hT rfl (by decide) (by first | omega | decide | (simp only [Int32.le_iff_toInt_le, Int32.lt_iff_toInt_lt, ti_add, ti_sub, ti_mul, Int32.reduceToInt] at *; omega)) (by first | omega | decide | (simp only [Int32.le_iff_toInt_le, Int32.lt_iff_toInt_lt, ti_add, ti_sub, ti_mul, Int32.reduceToInt] at *; omega)) (fun σ8 eσ8 hOσ8 hT => ?_)
      have e9 := eσ8
      rw [i9.2] at e9
      have hM9 := HL_e e9 (by omega) hH
      have h0 : (σ8.1 219 0).toInt = (σ0.1 219 0).toInt := by rw [zI_atN e9 (by omega)]; exact h0
      exact ok_some ⟨hT, (show MW (σ8.1 219) 0 ∧ (σ8.1 219 0).toInt = (σ0.1 219 0).toInt from by exact ⟨hM9, h0⟩)⟩
    · have k8 : x2.toInt < x3_5.toInt := by have q8 := hc6; rw [Int32.le_iff_toInt_le] at q8; omega
      obtain ⟨m9, hm9⟩ : ∃ m : Nat, x3_5.toInt.toNat = m + 1 := ⟨x3_5.toInt.toNat - 1, by omega⟩
      have i9 := ti33 (x := x3_5) (by omega) (by omega)
      have q9 := ti33c (x := x3_5) (by omega) (by omega)
      rw [hm9, Nat.add_sub_cancel] at q9
      have j9 := q9
      clear q9
      refine ok_gR (v := 219) hT rfl (hR 218 1 rfl) ?_
      refine ok_gR (v := 219) hT rfl (hR 218 1 rfl) ?_
      refine ok_aIn rfl (by rw [j9.1]; omega) (by rw [j9.1]; omega) (fun v11 ev11 => ?_)
      have ev9 := ev11
      rw [j9.2] at ev9
      clear j9
      refine ok_s14 hT rfl (by decide) (by first | omega | decide | (simp only [Int32.le_iff_toInt_le, Int32.lt_iff_toInt_lt, ti_add, ti_sub, ti_mul, Int32.reduceToInt] at *; omega)) (by first | omega | decide | (simp only [Int32.le_iff_toInt_le, Int32.lt_iff_toInt_lt, ti_add, ti_sub, ti_mul, Int32.reduceToInt] at *; omega)) (fun σ12 eσ12 hOσ12 hT => ?_)
      have e9 := eσ12
      rw [i9.2] at e9
      have hH := HL_s e9 ev9 (by omega) (by omega) hH
      have h0 : (σ12.1 219 0).toInt = (σ0.1 219 0).toInt := by rw [zI_atN e9 (by omega)]; exact h0
      have k9 := tm2 (x := x3_5) (y := x2.toInt) (n := (σ0.1 219 0).toInt) (by omega) k8 (by omega) (by omega) hm9
      exact ih37_5 (x3_5 + (-1), σ12) (show Tr [219] σ0 σ12 ∧ (((x2.toInt ≤ (x3_5 + (-1)).toInt ∧ (x3_5 + (-1)).toInt < (σ0.1 219 0).toInt) ∧ (σ12.1 219 0).toInt = (σ0.1 219 0).toInt) ∧ HL (σ12.1 219) x1 (x3_5 + (-1)).toInt.toNat) from ⟨hT, (by exact ⟨⟨k9.1, h0⟩, by rw [k9.2.1]; exact hH⟩)⟩) (show (x3_5 + (-1)).toInt.toNat < x3_5.toInt.toNat from (by exact k9.2.2))
  · have i9 := ti33 (x := x3_3) (by omega) (by omega)
    have j9 := ti33b (x := x3_3) (by omega) (by omega)
    have k9 : (x3_3 + 1).toInt = x3_3.toInt + 1 ∧ x3_3.toInt < x2.toInt := by first | omega | (simp only [Int32.le_iff_toInt_le, Int32.lt_iff_toInt_lt, ti_add, ti_sub, ti_mul, Int32.reduceToInt] at *; omega)
    have s8 : (x3_3 + 1).toInt.toNat = x3_3.toInt.toNat + 1 := by rw [k9.1]; omega
    refine ok_gR (v := 219) hT rfl (hR 218 1 rfl) ?_
    refine ok_gR (v := 219) hT rfl (hR 218 1 rfl) ?_
    refine ok_aIn rfl (by rw [j9.1]; omega) (by rw [j9.1]; omega) (fun v15 ev15 => ?_)
    have ev9 := ev15
    rw [j9.2] at ev9
    refine ok_s14 hT rfl (by decide) (by first | omega | decide | (simp only [Int32.le_iff_toInt_le, Int32.lt_iff_toInt_lt, ti_add, ti_sub, ti_mul, Int32.reduceToInt] at *; omega)) (by first | omega | decide | (simp only [Int32.le_iff_toInt_le, Int32.lt_iff_toInt_lt, ti_add, ti_sub, ti_mul, Int32.reduceToInt] at *; omega)) (fun σ16 eσ16 hOσ16 hT => ?_)
    have e9 := eσ16
    rw [i9.2] at e9
    have hH := HL_s e9 ev9 (by omega) (by omega) hH
    have h0 : (σ16.1 219 0).toInt = (σ0.1 219 0).toInt := by rw [zI_atN e9 (by omega)]; exact h0
    exact ih6_3 (x3_3 + 1, σ16) (show Tr [219] σ0 σ16 ∧ (((0 ≤ (x3_3 + 1).toInt ∧ (x3_3 + 1).toInt < (σ0.1 219 0).toInt) ∧ (σ16.1 219 0).toInt = (σ0.1 219 0).toInt) ∧ HL (σ16.1 219) x1 (x3_3 + 1).toInt.toNat) from ⟨hT, (by exact ⟨⟨by rw [k9.1]; omega, h0⟩, by rw [s8]; exact hH⟩)⟩) (show (10 - (x3_3 + 1).toInt).toNat < (10 - x3_3.toInt).toNat from (by rw [k9.1]; omega))

set_option maxHeartbeats 4000000 in
set_option maxRecDepth 100000 in
theorem s_X12_move {N : Nat} (hN : 1048576 ≤ N) {x1 : Int32} {x2 : Int32} {σ0 : zS}  (hR : RF σ0.2.2) (hM : MW (σ0.1 219) 0) : Ok (f_X12_move N 218 x1 x2 σ0) (fun r => Tr [219] σ0 r.2 ∧ (MW (r.2.1 219) 0)) := by
  have hT : Tr [219] σ0 σ0 := Tr.rf
  have hn := hM.1
  have he : 0 ≤ (σ0.1 219 2).toInt ∧ (σ0.1 219 2).toInt ≤ 10 := hM.2.1
  have qm := mny_b hn.1 hn.2
  rw [f_X12_move.eq_1]
  refine ok_gC rfl ?_
  refine ok_zbT (Q := fun V σ => (V = 0 ∨ V = 1) ∧ (¬ V = 0 → 0 ≤ x1.toInt ∧ x1.toInt < (σ0.1 219 0).toInt)) hT (s_X12_isName hN (hR.tr hT) (by first | exact hM | (rw [hw]; exact hM))) (fun _ h9 => absurd h9 List.not_mem_nil) (fun v1 σ2 hOσ2 hT hqv1 => ?_)
  have hqv1 : (v1 = 0 ∨ v1 = 1) ∧ (¬ v1 = 0 → 0 ≤ x1.toInt ∧ x1.toInt < (σ0.1 219 0).toInt) := hqv1
  have hw : σ2.1 219 = σ0.1 219 := hOσ2.2 219 List.not_mem_nil
  refine ok_if (fun hc3 => ?_) (fun hc3 => ?_)
  · exact ok_some ⟨hT, (show MW (σ2.1 219) 0 from by first | exact hM9 | (rw [hw]; exact hM))⟩
  · have qhc3 := hqv1.2 hc3
    refine ok_gC rfl ?_
    refine ok_zbT (Q := fun V σ => (V = 0 ∨ V = 1) ∧ (¬ V = 0 → 0 ≤ x2.toInt ∧ x2.toInt < (σ2.1 219 0).toInt)) hT (s_X12_isName hN (hR.tr hT) (by first | exact hM | (rw [hw]; exact hM))) (fun _ h9 => absurd h9 List.not_mem_nil) (fun v4 σ5 hOσ5 hT hqv4 => ?_)
    have hqv4 : (v4 = 0 ∨ v4 = 1) ∧ (¬ v4 = 0 → 0 ≤ x2.toInt ∧ x2.toInt < (σ2.1 219 0).toInt) := hqv4
    rw [hw] at hqv4
    have hw : σ5.1 219 = σ0.1 219 := (hOσ5.2 219 List.not_mem_nil).trans hw
    refine ok_if (fun hc6 => ?_) (fun hc6 => ?_)
    · exact ok_some ⟨hT, (show MW (σ5.1 219) 0 from by first | exact hM9 | (rw [hw]; exact hM))⟩
    · have qhc6 := hqv4.2 hc6
      refine ok_gC rfl ?_
      refine ok_zbT (Q := fun V σ => (0 ≤ V.toInt ∧ V.toInt < (σ5.1 219 0).toInt) ∧ σ5.1 219 (33 + V.toInt.toNat) = x1) hT (s_X12_placeOf hN (hR.tr hT) (by first | exact hM | (rw [hw]; exact hM)) (by first | (rw [hw]; first | omega | (simp only [Int32.le_iff_toInt_le, Int32.lt_iff_toInt_lt, ti_add, ti_sub, ti_mul, Int32.reduceToInt] at *; omega)) | (first | omega | (simp only [Int32.le_iff_toInt_le, Int32.lt_iff_toInt_lt, ti_add, ti_sub, ti_mul, Int32.reduceToInt] at *; omega)))) (fun _ h9 => absurd h9 List.not_mem_nil) (fun v7 σ8 hOσ8 hT hqv7 => ?_)
      have hqv7 : (0 ≤ v7.toInt ∧ v7.toInt < (σ5.1 219 0).toInt) ∧ σ5.1 219 (33 + v7.toInt.toNat) = x1 := hqv7
      have hw : σ8.1 219 = σ0.1 219 := (hOσ8.2 219 List.not_mem_nil).trans hw
      refine ok_gC rfl ?_
      refine ok_zbT (Q := fun V σ => MW (σ.1 219) 0 ∧ (σ.1 219 0).toInt = (σ8.1 219 0).toInt) hT (s_X12_goesTo hN (hR.tr hT) (by first | exact hM | (rw [hw]; exact hM)) (by first | (rw [hw]; first | omega | (simp only [Int32.le_iff_toInt_le, Int32.lt_iff_toInt_lt, ti_add, ti_sub, ti_mul, Int32.reduceToInt] at *; omega)) | (first | omega | (simp only [Int32.le_iff_toInt_le, Int32.lt_iff_toInt_lt, ti_add, ti_sub, ti_mul, Int32.reduceToInt] at *; omega))) (by first | (rw [hw]; first | omega | (simp only [Int32.le_iff_toInt_le, Int32.lt_iff_toInt_lt, ti_add, ti_sub, ti_mul, Int32.reduceToInt] at *; omega)) | (first | omega | (simp only [Int32.le_iff_toInt_le, Int32.lt_iff_toInt_lt, ti_add, ti_sub, ti_mul, Int32.reduceToInt] at *; omega)))) (by decide) (fun v9 σ10 hOσ10 hT hqv9 => ?_)
      have hqv9 : MW (σ10.1 219) 0 ∧ (σ10.1 219 0).toInt = (σ8.1 219 0).toInt := hqv9
      have hM9 := hqv9.1
      exact ok_some ⟨hT, (show MW (σ10.1 219) 0 from by first | exact hM9 | (rw [hw]; exact hM))⟩
end Zq10_1
section Zq10_2
theorem swp {σ τ ρ : zS} {i k : Nat} {a b : Int32} (e1 : τ = zI σ 235 (upd (σ.1 235) i b)) (e2 : ρ = zI τ 235 (upd (τ.1 235) k a)) (ha : a = σ.1 235 i) (hb : b = σ.1 235 k) : (ρ.1 235 i = σ.1 235 k ∧ ρ.1 235 k = σ.1 235 i) ∧ ∀ j, j ≠ i → j ≠ k → ρ.1 235 j = σ.1 235 j := by
  refine ⟨⟨?_, by rw [zI_atI e2, ha]⟩, fun j h1 h2 => by rw [zI_atN e2 h2, zI_atN e1 h1]⟩
  by_cases q : i = k
  · subst q; rw [zI_atI e2, ha]
  · rw [zI_atN e2 q, zI_atI e1, hb]
/-- the first n are digits, no two alike -/
def DI (g : Nat → Int32) (n : Nat) : Prop := (∀ a, a < n → 0 ≤ (g a).toInt ∧ (g a).toInt ≤ 9) ∧ ∀ a b, a < n → b < n → g a = g b → a = b
theorem DI_sw {g g' : Nat → Int32} {n i k : Nat} (h : (g' i = g k ∧ g' k = g i) ∧ ∀ j, j ≠ i → j ≠ k → g' j = g j) (hi : i < n) (hk : k < n) (hD : DI g n) : DI g' n := by
  have m : ∀ a, a < n → ∃ b, b < n ∧ g' a = g b ∧ (b = if a = i then k else if a = k then i else a) := by
    intro a ha
    by_cases q : a = i
    · exact ⟨k, hk, by rw [q]; exact h.1.1, by rw [if_pos q]⟩
    · by_cases r : a = k
      · exact ⟨i, hi, by rw [r]; exact h.1.2, by rw [if_neg q, if_pos r]⟩
      · exact ⟨a, ha, h.2 a q r, by rw [if_neg q, if_neg r]⟩
  refine ⟨fun a ha => ?_, fun a b ha hb e => ?_⟩
  · obtain ⟨c, hc, e, _⟩ := m a ha
    rw [e]; exact hD.1 c hc
  · obtain ⟨c, hc, e1, f1⟩ := m a ha
    obtain ⟨d, hd, e2, f2⟩ := m b hb
    have := hD.2 c d hc hd (by rw [← e1, ← e2]; exact e)
    subst this
    rw [f1] at f2
    split at f2 <;> split at f2 <;> (try split at f2) <;> (try split at f2) <;> omega
theorem DI_id {g : Nat → Int32} {n : Nat} (hn : n ≤ 10) (h : ∀ j : Nat, (j : Int) < 10 → g j = nI j) : DI g n := by
  refine ⟨fun a ha => ?_, fun a b ha hb e => ?_⟩
  · rw [h a (by omega), nI_toInt (by omega)]; omega
  · rw [h a (by omega), h b (by omega)] at e
    have := congrArg Int32.toInt e
    rw [nI_toInt (by omega), nI_toInt (by omega)] at this
    omega
def dig (g : Nat → Int32) : Nat → Nat
  | 0 => 0
  | n + 1 => dig g n * 10 + (g n).toInt.toNat
theorem dig_lt {g : Nat → Int32} : ∀ {n : Nat}, (∀ a, a < n → 0 ≤ (g a).toInt ∧ (g a).toInt ≤ 9) → dig g n < 10 ^ n
  | 0, _ => Nat.one_pos
  | n + 1, h => by
    have := dig_lt (n := n) (fun a ha => h a (by omega))
    have := h n (by omega)
    rw [Nat.pow_succ]
    show dig g n * 10 + (g n).toInt.toNat < _
    omega
theorem dig_eq {g g' : Nat → Int32} : ∀ {n : Nat}, (∀ a, a < n → g' a = g a) → dig g' n = dig g n
  | 0, _ => rfl
  | n + 1, h => by
    show dig g' n * 10 + (g' n).toInt.toNat = dig g n * 10 + (g n).toInt.toNat
    rw [dig_eq (fun a ha => h a (by omega)), h n (by omega)]
theorem dig_inc {g g' : Nat → Int32} {i : Nat} (he : ∀ j, j < i → g' j = g j) (h0 : 0 ≤ (g i).toInt) (hi : (g i).toInt < (g' i).toInt) : ∀ {n : Nat}, i < n → (∀ a, a < n → (g a).toInt ≤ 9) → dig g n < dig g' n
  | 0, h, _ => absurd h (by omega)
  | n + 1, h, hd => by
    show dig g n * 10 + (g n).toInt.toNat < dig g' n * 10 + (g' n).toInt.toNat
    by_cases q : i = n
    · subst q
      rw [dig_eq he]
      omega
    · have := dig_inc he h0 hi (n := n) (by omega) (fun a ha => hd a (by omega))
      have := hd n (by omega)
      omega
theorem tm0 {x : Int32} (h0 : -8 ≤ x.toInt) (h1 : x.toInt ≤ 10) : (x + (-1)).toInt = x.toInt - 1 := by
  rw [ti_add, show (-1 : Int32).toInt = -1 by decide]; omega
theorem tmd {x : Int32} {y : Int} (h0 : 0 ≤ x.toInt) (h1 : x.toInt ≤ y) (h2 : y ≤ 10) : (-2 ≤ (x + (-1)).toInt ∧ (x + (-1)).toInt ≤ y) ∧ ((x + (-1)).toInt + 2).toNat < (x.toInt + 2).toNat := by
  have k := tm0 (x := x) (by omega) (by omega)
  rw [k]; clear k; omega
theorem tmk {x : Int32} {y z : Int} (h0 : 0 ≤ z) (h3 : z < x.toInt) (h4 : x.toInt ≠ z + 1) (h1 : x.toInt ≤ y) (h2 : y ≤ 10) : (z < (x + (-1)).toInt ∧ (x + (-1)).toInt ≤ y) ∧ (x + (-1)).toInt.toNat < x.toInt.toNat := by
  have k := tm0 (x := x) (by omega) (by omega)
  rw [k]; clear k; omega
theorem tm3 {a b : Int32} {y z : Int} (h0 : 0 ≤ z) (h1 : z < a.toInt) (h2 : a.toInt < b.toInt) (h3 : b.toInt ≤ y) (h4 : y ≤ 10) : ((z < (a + 1).toInt ∧ (a + 1).toInt ≤ 12) ∧ -1 ≤ (b + (-1)).toInt ∧ (b + (-1)).toInt ≤ y) ∧ ((b + (-1)).toInt - (a + 1).toInt).toNat < (b.toInt - a.toInt).toNat := by
  have k := tm0 (x := b) (by omega) (by omega)
  have l : (a + 1).toInt = a.toInt + 1 := by rw [ti_add]; simp only [Int32.reduceToInt]; omega
  rw [k, l]; clear k l; omega
theorem fb_mu {g g' : Nat → Int32} {n : Nat} {m m' : Int32} (hm : ¬ m = 0) (hn : n ≤ 6) (hD : DI g n) (hD' : DI g' n) (h : ¬ m' = 0 → ∃ i : Nat, i < n ∧ (∀ j, j < i → g' j = g j) ∧ (g i).toInt < (g' i).toInt) : (if m' = 0 then 0 else 1 + (1000000 - dig g' n)) < (if m = 0 then 0 else 1 + (1000000 - dig g n)) := by
  rw [if_neg hm]
  by_cases q : m' = 0
  · rw [if_pos q]; omega
  · rw [if_neg q]
    obtain ⟨i, hi, he, hl⟩ := h q
    have a := dig_inc he (hD.1 i hi).1 hl hi (fun a ha => (hD.1 a ha).2)
    have b := dig_lt hD'.1
    have c : 10 ^ n ≤ 10 ^ 6 := Nat.pow_le_pow_right (by decide) hn
    omega

set_option maxHeartbeats 4000000 in
set_option maxRecDepth 100000 in
theorem s_X12_trades {N : Nat} (hN : 1048576 ≤ N) {x1 : Int32} {x2 : Int32} {σ0 : zS}  (hR : RF σ0.2.2) (hx : 0 ≤ x1.toInt ∧ x1.toInt ≤ 9) (hy : 0 ≤ x2.toInt ∧ x2.toInt ≤ 9) : Ok (f_X12_trades N 218 x1 x2 σ0) (fun r => Tr [235] σ0 r.2 ∧ ((r.2.1 235 x1.toNatClampNeg = σ0.1 235 x2.toNatClampNeg ∧ r.2.1 235 x2.toNatClampNeg = σ0.1 235 x1.toNatClampNeg) ∧ ∀ j, j ≠ x1.toNatClampNeg → j ≠ x2.toNatClampNeg → r.2.1 235 j = σ0.1 235 j)) := by
  have hT : Tr [235] σ0 σ0 := Tr.rf
  rw [f_X12_trades.eq_1]
  refine ok_gR (v := 235) hT rfl (hR 218 30 rfl) ?_
  refine ok_aIn rfl (by first | omega | decide | (simp only [Int32.le_iff_toInt_le, Int32.lt_iff_toInt_lt, ti_add, ti_sub, ti_mul, Int32.reduceToInt] at *; omega)) (by first | omega | decide | (simp only [Int32.le_iff_toInt_le, Int32.lt_iff_toInt_lt, ti_add, ti_sub, ti_mul, Int32.reduceToInt] at *; omega)) (fun v2 ev2 => ?_)
  have w5q := ev2
  refine ok_gR (v := 235) hT rfl (hR 218 30 rfl) ?_
  refine ok_gR (v := 235) hT rfl (hR 218 30 rfl) ?_
  refine ok_aIn rfl (by first | omega | decide | (simp only [Int32.le_iff_toInt_le, Int32.lt_iff_toInt_lt, ti_add, ti_sub, ti_mul, Int32.reduceToInt] at *; omega)) (by first | omega | decide | (simp only [Int32.le_iff_toInt_le, Int32.lt_iff_toInt_lt, ti_add, ti_sub, ti_mul, Int32.reduceToInt] at *; omega)) (fun v5 ev5 => ?_)
  have w17q := ev5
  refine ok_s14 hT rfl (by decide) (by first | omega | decide | (simp only [Int32.le_iff_toInt_le, Int32.lt_iff_toInt_lt, ti_add, ti_sub, ti_mul, Int32.reduceToInt] at *; omega)) (by first | omega | decide | (simp only [Int32.le_iff_toInt_le, Int32.lt_iff_toInt_lt, ti_add, ti_sub, ti_mul, Int32.reduceToInt] at *; omega)) (fun σ6 eσ6 hOσ6 hT => ?_)
  have e18 := eσ6
  refine ok_gR (v := 235) hT rfl (hR 218 30 rfl) ?_
  refine ok_s14 hT rfl (by decide) (by first | omega | decide | (simp only [Int32.le_iff_toInt_le, Int32.lt_iff_toInt_lt, ti_add, ti_sub, ti_mul, Int32.reduceToInt] at *; omega)) (by first | omega | decide | (simp only [Int32.le_iff_toInt_le, Int32.lt_iff_toInt_lt, ti_add, ti_sub, ti_mul, Int32.reduceToInt] at *; omega)) (fun σ8 eσ8 hOσ8 hT => ?_)
  have k25 := swp e18 eσ8 w5q w17q
  exact ok_some ⟨hT, (show (σ8.1 235 x1.toNatClampNeg = σ0.1 235 x2.toNatClampNeg ∧ σ8.1 235 x2.toNatClampNeg = σ0.1 235 x1.toNatClampNeg) ∧ ∀ j, j ≠ x1.toNatClampNeg → j ≠ x2.toNatClampNeg → σ8.1 235 j = σ0.1 235 j from by exact k25)⟩

set_option maxHeartbeats 4000000 in
set_option maxRecDepth 100000 in
theorem s_X12_nextOrder {N : Nat} (hN : 1048576 ≤ N) {x1 : Int32} {σ0 : zS}  (hR : RF σ0.2.2) (hn1 : 0 ≤ x1.toInt ∧ x1.toInt ≤ 6) (hD : DI (σ0.1 235) x1.toInt.toNat) : Ok (f_X12_nextOrder N 218 x1 σ0) (fun r => Tr [235] σ0 r.2 ∧ ((r.1 = 0 ∨ r.1 = 1) ∧ DI (r.2.1 235) x1.toInt.toNat ∧ (¬ r.1 = 0 → ∃ i : Nat, i < x1.toInt.toNat ∧ (∀ j, j < i → r.2.1 235 j = σ0.1 235 j) ∧ (σ0.1 235 i).toInt < (r.2.1 235 i).toInt))) := by
  have hT : Tr [235] σ0 σ0 := Tr.rf
  have s2 : (x1 - 2).toInt = x1.toInt - 2 := by rw [ti_sub]; simp only [Int32.reduceToInt]; omega
  have s1 : (x1 - 1).toInt = x1.toInt - 1 := by rw [ti_sub]; simp only [Int32.reduceToInt]; omega
  rw [f_X12_nextOrder.eq_1]
  refine ok_lp (fun t : Int32 × zS => Tr [235] σ0 (t.2) ∧ (-2 ≤ (t.1).toInt ∧ (t.1).toInt ≤ x1.toInt - 2) ∧ ((t.2).1 235 = σ0.1 235)) (fun t : Int32 × zS => ((t.1).toInt + 2).toNat) (fun again1 t hI ih4_1 => ?_) N _ (show Tr [235] σ0 σ0 ∧ (-2 ≤ (x1 - 2).toInt ∧ (x1 - 2).toInt ≤ x1.toInt - 2) ∧ (σ0.1 235 = σ0.1 235) from ⟨hT, (by rw [s2]; omega), rfl⟩) (show ((x1 - 2).toInt + 2).toNat < N from (by rw [s2]; omega))
  obtain ⟨x2_1, σ1⟩ := t
  have hI : Tr [235] σ0 σ1 ∧ (-2 ≤ x2_1.toInt ∧ x2_1.toInt ≤ x1.toInt - 2) ∧ (σ1.1 235 = σ0.1 235) := hI
  obtain ⟨hT, hI1, r235_σ1⟩ := hI
  rw [F_X12_nextOrder_4.eq_1]
  have h4 := hI1
  refine ok_if (fun hc2 => ?_) (fun hc2 => ?_)
  · have n5 := hc2
    rw [Int32.lt_iff_toInt_lt] at n5
    simp only [Int32.reduceToInt] at n5
    rw [J_X12_nextOrder_31.eq_1]
    refine ok_if (fun hc3 => ?_) (fun hc3 => ?_)
    · have n32 := hc3
      rw [Int32.le_iff_toInt_le] at n32
      simp only [Int32.reduceToInt] at n32
      have k32 : (σ0.1 235 x2_1.toInt.toNat).toInt ≤ (σ0.1 235 (x2_1.toInt.toNat + 1)).toInt := by first | exact k22 | (exfalso; omega)
      have l32 : (σ0.1 235 x2_1.toInt.toNat).toInt < (σ0.1 235 (x2_1.toInt.toNat + 1)).toInt := by rcases Int.lt_or_eq_of_le k32 with q | q; exact q; exact absurd (hD.2 _ _ (by omega) (by omega) (Int32.toInt_inj.mp q)) (by omega)
      refine ok_lp (fun t : Int32 × zS => Tr [235] σ0 (t.2) ∧ (x2_1.toInt < (t.1).toInt ∧ (t.1).toInt ≤ x1.toInt - 1) ∧ ((t.2).1 235 = σ0.1 235)) (fun t : Int32 × zS => (t.1).toInt.toNat) (fun again4 t hI ih41_4 => ?_) N _ (show Tr [235] σ0 σ1 ∧ (x2_1.toInt < (x1 - 1).toInt ∧ (x1 - 1).toInt ≤ x1.toInt - 1) ∧ (σ1.1 235 = σ0.1 235) from ⟨hT, (by rw [s1]; omega), r235_σ1⟩) (show (x1 - 1).toInt.toNat < N from (by rw [s1]; omega))
      obtain ⟨x3_4, σ4⟩ := t
      have hI : Tr [235] σ0 σ4 ∧ (x2_1.toInt < x3_4.toInt ∧ x3_4.toInt ≤ x1.toInt - 1) ∧ (σ4.1 235 = σ0.1 235) := hI
      obtain ⟨hT, hI4, r235_σ4⟩ := hI
      rw [F_X12_nextOrder_41.eq_1]
      have h41 := hI4
      refine ok_gR (v := 235) hT rfl (hR 218 30 rfl) ?_
      refine ok_aIn rfl (by first | omega | decide | (simp only [Int32.le_iff_toInt_le, Int32.lt_iff_toInt_lt, ti_add, ti_sub, ti_mul, Int32.reduceToInt] at *; omega)) (by first | omega | decide | (simp only [Int32.le_iff_toInt_le, Int32.lt_iff_toInt_lt, ti_add, ti_sub, ti_mul, Int32.reduceToInt] at *; omega)) (fun v6 ev6 => ?_)
      have w46q : v6 = σ0.1 235 x3_4.toInt.toNat := by rw [ev6, r235_σ4]; rfl
      refine ok_gR (v := 235) hT rfl (hR 218 30 rfl) ?_
      refine ok_aIn rfl (by first | omega | decide | (simp only [Int32.le_iff_toInt_le, Int32.lt_iff_toInt_lt, ti_add, ti_sub, ti_mul, Int32.reduceToInt] at *; omega)) (by first | omega | decide | (simp only [Int32.le_iff_toInt_le, Int32.lt_iff_toInt_lt, ti_add, ti_sub, ti_mul, Int32.reduceToInt] at *; omega)) (fun v8 ev8 => ?_)
      have w52q : v8 = σ0.1 235 x2_1.toInt.toNat := by rw [ev8, r235_σ4]; rfl
      refine ok_if (fun hc9 => ?_) (fun hc9 => ?_)
      · have k53 := hc9
        rw [w52q, w46q, Int32.le_iff_toInt_le] at k53
        have l53 : (σ0.1 235 x2_1.toInt.toNat).toInt < (σ0.1 235 x3_4.toInt.toNat).toInt := by rcases Int.lt_or_eq_of_le k53 with q | q; exact q; exact absurd (hD.2 _ _ (by omega) (by omega) (Int32.toInt_inj.mp q)) (by omega)
        have s21 : (x2_1 + 1).toInt = x2_1.toInt + 1 := by rw [ti_add]; simp only [Int32.reduceToInt]; omega
        have R65 := r235_σ4
        refine ok_gC rfl ?_
        refine ok_zbT (Q := fun V σ => (σ.1 235 x2_1.toNatClampNeg = σ4.1 235 x3_4.toNatClampNeg ∧ σ.1 235 x3_4.toNatClampNeg = σ4.1 235 x2_1.toNatClampNeg) ∧ ∀ j, j ≠ x2_1.toNatClampNeg → j ≠ x3_4.toNatClampNeg → σ.1 235 j = σ4.1 235 j) hT (s_X12_trades hN (hR.tr hT) (by omega) (by omega)) (by decide) (fun v10 σ11 hOσ11 hT hqv10 => ?_)
        have hqv10 : (σ11.1 235 x2_1.toNatClampNeg = σ4.1 235 x3_4.toNatClampNeg ∧ σ11.1 235 x3_4.toNatClampNeg = σ4.1 235 x2_1.toNatClampNeg) ∧ ∀ j, j ≠ x2_1.toNatClampNeg → j ≠ x3_4.toNatClampNeg → σ11.1 235 j = σ4.1 235 j := hqv10
        have q65 := hqv10
        rw [R65] at q65
        have d65 := DI_sw (i := x2_1.toNatClampNeg) (k := x3_4.toNatClampNeg) q65 (by show x2_1.toInt.toNat < _; omega) (by show x3_4.toInt.toNat < _; omega) hD
        have b65 : ∀ j, j < x2_1.toInt.toNat → σ11.1 235 j = σ0.1 235 j := fun j hj => q65.2 j (by show j ≠ x2_1.toInt.toNat; omega) (by show j ≠ x3_4.toInt.toNat; omega)
        have u65 : (σ0.1 235 x2_1.toInt.toNat).toInt < (σ11.1 235 x2_1.toInt.toNat).toInt := by rw [show σ11.1 235 x2_1.toInt.toNat = σ0.1 235 x3_4.toInt.toNat from q65.1.1]; exact l53
        refine ok_lp (fun t : Int32 × Int32 × zS => Tr [235] σ0 (t.2.2) ∧ (((x2_1.toInt < (t.1).toInt ∧ (t.1).toInt ≤ 12) ∧ -1 ≤ (t.2.1).toInt ∧ (t.2.1).toInt ≤ x1.toInt - 1) ∧ DI ((t.2.2).1 235) x1.toInt.toNat ∧ (∀ j, j < x2_1.toInt.toNat → (t.2.2).1 235 j = σ0.1 235 j) ∧ (σ0.1 235 x2_1.toInt.toNat).toInt < ((t.2.2).1 235 x2_1.toInt.toNat).toInt)) (fun t : Int32 × Int32 × zS => ((t.2.1).toInt - (t.1).toInt).toNat) (fun again12 t hI ih78_12 => ?_) N _ (show Tr [235] σ0 σ11 ∧ (((x2_1.toInt < (x2_1 + 1).toInt ∧ (x2_1 + 1).toInt ≤ 12) ∧ -1 ≤ (x1 - 1).toInt ∧ (x1 - 1).toInt ≤ x1.toInt - 1) ∧ DI (σ11.1 235) x1.toInt.toNat ∧ (∀ j, j < x2_1.toInt.toNat → σ11.1 235 j = σ0.1 235 j) ∧ (σ0.1 235 x2_1.toInt.toNat).toInt < (σ11.1 235 x2_1.toInt.toNat).toInt) from ⟨hT, (by exact ⟨⟨by rw [s21]; omega, by rw [s1]; omega⟩, d65, b65, u65⟩)⟩) (show ((x1 - 1).toInt - (x2_1 + 1).toInt).toNat < N from (by rw [s1, s21]; omega))
        obtain ⟨x4_12, x5_12, σ12⟩ := t
        have hI : Tr [235] σ0 σ12 ∧ (((x2_1.toInt < x4_12.toInt ∧ x4_12.toInt ≤ 12) ∧ -1 ≤ x5_12.toInt ∧ x5_12.toInt ≤ x1.toInt - 1) ∧ DI (σ12.1 235) x1.toInt.toNat ∧ (∀ j, j < x2_1.toInt.toNat → σ12.1 235 j = σ0.1 235 j) ∧ (σ0.1 235 x2_1.toInt.toNat).toInt < (σ12.1 235 x2_1.toInt.toNat).toInt) := hI
        obtain ⟨hT, hI12⟩ := hI
        rw [F_X12_nextOrder_78.eq_1]
        have h78 := hI12.1
        have d78 := hI12.2.1
        have b78 := hI12.2.2.1
        have u78 := hI12.2.2.2
        refine ok_if (fun hc13 => ?_) (fun hc13 => ?_)
        · exact ok_rZ (Or.inr rfl) ⟨hT, (show ((1 : Int32) = 0 ∨ (1 : Int32) = 1) ∧ DI (σ12.1 235) x1.toInt.toNat ∧ (¬ (1 : Int32) = 0 → ∃ i : Nat, i < x1.toInt.toNat ∧ (∀ j, j < i → σ12.1 235 j = σ0.1 235 j) ∧ (σ0.1 235 i).toInt < (σ12.1 235 i).toInt) from by first | exact ⟨Or.inl rfl, by rw [rfl]; exact hD, fun h => absurd rfl h⟩ | exact ⟨Or.inr rfl, d78, fun _ => ⟨_, by omega, b78, u78⟩⟩)⟩
        · have n82 := hc13
          rw [Int32.le_iff_toInt_le] at n82
          refine ok_gC rfl ?_
          refine ok_zbT (Q := fun V σ => (σ.1 235 x4_12.toNatClampNeg = σ12.1 235 x5_12.toNatClampNeg ∧ σ.1 235 x5_12.toNatClampNeg = σ12.1 235 x4_12.toNatClampNeg) ∧ ∀ j, j ≠ x4_12.toNatClampNeg → j ≠ x5_12.toNatClampNeg → σ.1 235 j = σ12.1 235 j) hT (s_X12_trades hN (hR.tr hT) (by omega) (by omega)) (by decide) (fun v14 σ15 hOσ15 hT hqv14 => ?_)
          have hqv14 : (σ15.1 235 x4_12.toNatClampNeg = σ12.1 235 x5_12.toNatClampNeg ∧ σ15.1 235 x5_12.toNatClampNeg = σ12.1 235 x4_12.toNatClampNeg) ∧ ∀ j, j ≠ x4_12.toNatClampNeg → j ≠ x5_12.toNatClampNeg → σ15.1 235 j = σ12.1 235 j := hqv14
          have q90 := hqv14
          have d90 := DI_sw (i := x4_12.toNatClampNeg) (k := x5_12.toNatClampNeg) q90 (by show x4_12.toInt.toNat < _; omega) (by show x5_12.toInt.toNat < _; omega) d78
          have b90 : ∀ j, j < x2_1.toInt.toNat → σ15.1 235 j = σ0.1 235 j := fun j hj => (q90.2 j (by show j ≠ x4_12.toInt.toNat; omega) (by show j ≠ x5_12.toInt.toNat; omega)).trans (b78 j hj)
          have u90 : (σ0.1 235 x2_1.toInt.toNat).toInt < (σ15.1 235 x2_1.toInt.toNat).toInt := by rw [q90.2 x2_1.toInt.toNat (by show _ ≠ x4_12.toInt.toNat; omega) (by show _ ≠ x5_12.toInt.toNat; omega)]; exact u78
          have t90 := tm3 (a := x4_12) (b := x5_12) (y := x1.toInt - 1) (z := x2_1.toInt) (by omega) (by omega) (by omega) (by omega) (by omega)
          exact ih78_12 (x4_12 + 1, x5_12 + (-1), σ15) (show Tr [235] σ0 σ15 ∧ (((x2_1.toInt < (x4_12 + 1).toInt ∧ (x4_12 + 1).toInt ≤ 12) ∧ -1 ≤ (x5_12 + (-1)).toInt ∧ (x5_12 + (-1)).toInt ≤ x1.toInt - 1) ∧ DI (σ15.1 235) x1.toInt.toNat ∧ (∀ j, j < x2_1.toInt.toNat → σ15.1 235 j = σ0.1 235 j) ∧ (σ0.1 235 x2_1.toInt.toNat).toInt < (σ15.1 235 x2_1.toInt.toNat).toInt) from ⟨hT, (by exact ⟨t90.1, d90, b90, u90⟩)⟩) (show ((x5_12 + (-1)).toInt - (x4_12 + 1).toInt).toNat < (x5_12.toInt - x4_12.toInt).toNat from (by exact t90.2))
      · have k53 := hc9
        rw [w52q, w46q, Int32.le_iff_toInt_le] at k53
        have n53 : x3_4.toInt ≠ x2_1.toInt + 1 := by intro q; rw [show x3_4.toInt.toNat = x2_1.toInt.toNat + 1 by omega] at k53; omega
        exact ih41_4 (x3_4 + (-1), σ4) (show Tr [235] σ0 σ4 ∧ (x2_1.toInt < (x3_4 + (-1)).toInt ∧ (x3_4 + (-1)).toInt ≤ x1.toInt - 1) ∧ (σ4.1 235 = σ0.1 235) from ⟨hT, (by exact (tmk (by omega) h41.1 n53 h41.2 (by omega)).1), r235_σ4⟩) (show (x3_4 + (-1)).toInt.toNat < x3_4.toInt.toNat from (by exact (tmk (by omega) h41.1 n53 h41.2 (by omega)).2))
    · exact ok_rZ (Or.inl rfl) ⟨hT, (show ((0 : Int32) = 0 ∨ (0 : Int32) = 1) ∧ DI (σ1.1 235) x1.toInt.toNat ∧ (¬ (0 : Int32) = 0 → ∃ i : Nat, i < x1.toInt.toNat ∧ (∀ j, j < i → σ1.1 235 j = σ0.1 235 j) ∧ (σ0.1 235 i).toInt < (σ1.1 235 i).toInt) from by first | exact ⟨Or.inl rfl, by rw [r235_σ1]; exact hD, fun h => absurd rfl h⟩ | exact ⟨Or.inr rfl, d78, fun _ => ⟨_, by omega, b78, u78⟩⟩)⟩
  · have n5 := hc2
    rw [Int32.lt_iff_toInt_lt] at n5
    simp only [Int32.reduceToInt] at n5
    have s5 : (x2_1 + 1).toInt = x2_1.toInt + 1 := by rw [ti_add]; simp only [Int32.reduceToInt]; omega
    have i5 : (x2_1 + 1).toNatClampNeg = x2_1.toInt.toNat + 1 := by show (x2_1 + 1).toInt.toNat = _; rw [s5]; omega
    refine ok_gR (v := 235) hT rfl (hR 218 30 rfl) ?_
    refine ok_aIn rfl (by first | omega | decide | (simp only [Int32.le_iff_toInt_le, Int32.lt_iff_toInt_lt, ti_add, ti_sub, ti_mul, Int32.reduceToInt] at *; omega)) (by first | omega | decide | (simp only [Int32.le_iff_toInt_le, Int32.lt_iff_toInt_lt, ti_add, ti_sub, ti_mul, Int32.reduceToInt] at *; omega)) (fun v17 ev17 => ?_)
    have w13q : v17 = σ0.1 235 x2_1.toInt.toNat := by rw [ev17, r235_σ1]; rfl
    refine ok_gR (v := 235) hT rfl (hR 218 30 rfl) ?_
    refine ok_aIn rfl (by rw [s5]; omega) (by rw [s5]; omega) (fun v19 ev19 => ?_)
    have w21q : v19 = σ0.1 235 (x2_1.toInt.toNat + 1) := by rw [ev19, r235_σ1, i5]
    refine ok_if (fun hc20 => ?_) (fun hc20 => ?_)
    · have k22 := hc20
      rw [w13q, w21q, Int32.le_iff_toInt_le] at k22
      rw [J_X12_nextOrder_31.eq_1]
      refine ok_if (fun hc21 => ?_) (fun hc21 => ?_)
      · have n32 := hc21
        rw [Int32.le_iff_toInt_le] at n32
        simp only [Int32.reduceToInt] at n32
        have k32 : (σ0.1 235 x2_1.toInt.toNat).toInt ≤ (σ0.1 235 (x2_1.toInt.toNat + 1)).toInt := by first | exact k22 | (exfalso; omega)
        have l32 : (σ0.1 235 x2_1.toInt.toNat).toInt < (σ0.1 235 (x2_1.toInt.toNat + 1)).toInt := by rcases Int.lt_or_eq_of_le k32 with q | q; exact q; exact absurd (hD.2 _ _ (by omega) (by omega) (Int32.toInt_inj.mp q)) (by omega)
        refine ok_lp (fun t : Int32 × zS => Tr [235] σ0 (t.2) ∧ (x2_1.toInt < (t.1).toInt ∧ (t.1).toInt ≤ x1.toInt - 1) ∧ ((t.2).1 235 = σ0.1 235)) (fun t : Int32 × zS => (t.1).toInt.toNat) (fun again22 t hI ih41_22 => ?_) N _ (show Tr [235] σ0 σ1 ∧ (x2_1.toInt < (x1 - 1).toInt ∧ (x1 - 1).toInt ≤ x1.toInt - 1) ∧ (σ1.1 235 = σ0.1 235) from ⟨hT, (by rw [s1]; omega), r235_σ1⟩) (show (x1 - 1).toInt.toNat < N from (by rw [s1]; omega))
        obtain ⟨x3_22, σ22⟩ := t
        have hI : Tr [235] σ0 σ22 ∧ (x2_1.toInt < x3_22.toInt ∧ x3_22.toInt ≤ x1.toInt - 1) ∧ (σ22.1 235 = σ0.1 235) := hI
        obtain ⟨hT, hI22, r235_σ22⟩ := hI
        rw [F_X12_nextOrder_41.eq_1]
        have h41 := hI22
        refine ok_gR (v := 235) hT rfl (hR 218 30 rfl) ?_
        refine ok_aIn rfl (by first | omega | decide | (simp only [Int32.le_iff_toInt_le, Int32.lt_iff_toInt_lt, ti_add, ti_sub, ti_mul, Int32.reduceToInt] at *; omega)) (by first | omega | decide | (simp only [Int32.le_iff_toInt_le, Int32.lt_iff_toInt_lt, ti_add, ti_sub, ti_mul, Int32.reduceToInt] at *; omega)) (fun v24 ev24 => ?_)
        have w46q : v24 = σ0.1 235 x3_22.toInt.toNat := by rw [ev24, r235_σ22]; rfl
        refine ok_gR (v := 235) hT rfl (hR 218 30 rfl) ?_
        refine ok_aIn rfl (by first | omega | decide | (simp only [Int32.le_iff_toInt_le, Int32.lt_iff_toInt_lt, ti_add, ti_sub, ti_mul, Int32.reduceToInt] at *; omega)) (by first | omega | decide | (simp only [Int32.le_iff_toInt_le, Int32.lt_iff_toInt_lt, ti_add, ti_sub, ti_mul, Int32.reduceToInt] at *; omega)) (fun v26 ev26 => ?_)
        have w52q : v26 = σ0.1 235 x2_1.toInt.toNat := by rw [ev26, r235_σ22]; rfl
        refine ok_if (fun hc27 => ?_) (fun hc27 => ?_)
        · have k53 := hc27
          rw [w52q, w46q, Int32.le_iff_toInt_le] at k53
          have l53 : (σ0.1 235 x2_1.toInt.toNat).toInt < (σ0.1 235 x3_22.toInt.toNat).toInt := by rcases Int.lt_or_eq_of_le k53 with q | q; exact q; exact absurd (hD.2 _ _ (by omega) (by omega) (Int32.toInt_inj.mp q)) (by omega)
          have s21 : (x2_1 + 1).toInt = x2_1.toInt + 1 := by rw [ti_add]; simp only [Int32.reduceToInt]; omega
          have R65 := r235_σ22
          refine ok_gC rfl ?_
          refine ok_zbT (Q := fun V σ => (σ.1 235 x2_1.toNatClampNeg = σ22.1 235 x3_22.toNatClampNeg ∧ σ.1 235 x3_22.toNatClampNeg = σ22.1 235 x2_1.toNatClampNeg) ∧ ∀ j, j ≠ x2_1.toNatClampNeg → j ≠ x3_22.toNatClampNeg → σ.1 235 j = σ22.1 235 j) hT (s_X12_trades hN (hR.tr hT) (by omega) (by omega)) (by decide) (fun v28 σ29 hOσ29 hT hqv28 => ?_)
          have hqv28 : (σ29.1 235 x2_1.toNatClampNeg = σ22.1 235 x3_22.toNatClampNeg ∧ σ29.1 235 x3_22.toNatClampNeg = σ22.1 235 x2_1.toNatClampNeg) ∧ ∀ j, j ≠ x2_1.toNatClampNeg → j ≠ x3_22.toNatClampNeg → σ29.1 235 j = σ22.1 235 j := hqv28
          have q65 := hqv28
          rw [R65] at q65
          have d65 := DI_sw (i := x2_1.toNatClampNeg) (k := x3_22.toNatClampNeg) q65 (by show x2_1.toInt.toNat < _; omega) (by show x3_22.toInt.toNat < _; omega) hD
          have b65 : ∀ j, j < x2_1.toInt.toNat → σ29.1 235 j = σ0.1 235 j := fun j hj => q65.2 j (by show j ≠ x2_1.toInt.toNat; omega) (by show j ≠ x3_22.toInt.toNat; omega)
          have u65 : (σ0.1 235 x2_1.toInt.toNat).toInt < (σ29.1 235 x2_1.toInt.toNat).toInt := by rw [show σ29.1 235 x2_1.toInt.toNat = σ0.1 235 x3_22.toInt.toNat from q65.1.1]; exact l53
          refine ok_lp (fun t : Int32 × Int32 × zS => Tr [235] σ0 (t.2.2) ∧ (((x2_1.toInt < (t.1).toInt ∧ (t.1).toInt ≤ 12) ∧ -1 ≤ (t.2.1).toInt ∧ (t.2.1).toInt ≤ x1.toInt - 1) ∧ DI ((t.2.2).1 235) x1.toInt.toNat ∧ (∀ j, j < x2_1.toInt.toNat → (t.2.2).1 235 j = σ0.1 235 j) ∧ (σ0.1 235 x2_1.toInt.toNat).toInt < ((t.2.2).1 235 x2_1.toInt.toNat).toInt)) (fun t : Int32 × Int32 × zS => ((t.2.1).toInt - (t.1).toInt).toNat) (fun again30 t hI ih78_30 => ?_) N _ (show Tr [235] σ0 σ29 ∧ (((x2_1.toInt < (x2_1 + 1).toInt ∧ (x2_1 + 1).toInt ≤ 12) ∧ -1 ≤ (x1 - 1).toInt ∧ (x1 - 1).toInt ≤ x1.toInt - 1) ∧ DI (σ29.1 235) x1.toInt.toNat ∧ (∀ j, j < x2_1.toInt.toNat → σ29.1 235 j = σ0.1 235 j) ∧ (σ0.1 235 x2_1.toInt.toNat).toInt < (σ29.1 235 x2_1.toInt.toNat).toInt) from ⟨hT, (by exact ⟨⟨by rw [s21]; omega, by rw [s1]; omega⟩, d65, b65, u65⟩)⟩) (show ((x1 - 1).toInt - (x2_1 + 1).toInt).toNat < N from (by rw [s1, s21]; omega))
          obtain ⟨x4_30, x5_30, σ30⟩ := t
          have hI : Tr [235] σ0 σ30 ∧ (((x2_1.toInt < x4_30.toInt ∧ x4_30.toInt ≤ 12) ∧ -1 ≤ x5_30.toInt ∧ x5_30.toInt ≤ x1.toInt - 1) ∧ DI (σ30.1 235) x1.toInt.toNat ∧ (∀ j, j < x2_1.toInt.toNat → σ30.1 235 j = σ0.1 235 j) ∧ (σ0.1 235 x2_1.toInt.toNat).toInt < (σ30.1 235 x2_1.toInt.toNat).toInt) := hI
          obtain ⟨hT, hI30⟩ := hI
          rw [F_X12_nextOrder_78.eq_1]
          have h78 := hI30.1
          have d78 := hI30.2.1
          have b78 := hI30.2.2.1
          have u78 := hI30.2.2.2
          refine ok_if (fun hc31 => ?_) (fun hc31 => ?_)
          · exact ok_rZ (Or.inr rfl) ⟨hT, (show ((1 : Int32) = 0 ∨ (1 : Int32) = 1) ∧ DI (σ30.1 235) x1.toInt.toNat ∧ (¬ (1 : Int32) = 0 → ∃ i : Nat, i < x1.toInt.toNat ∧ (∀ j, j < i → σ30.1 235 j = σ0.1 235 j) ∧ (σ0.1 235 i).toInt < (σ30.1 235 i).toInt) from by first | exact ⟨Or.inl rfl, by rw [rfl]; exact hD, fun h => absurd rfl h⟩ | exact ⟨Or.inr rfl, d78, fun _ => ⟨_, by omega, b78, u78⟩⟩)⟩
          · have n82 := hc31
            rw [Int32.le_iff_toInt_le] at n82
            refine ok_gC rfl ?_
            refine ok_zbT (Q := fun V σ => (σ.1 235 x4_30.toNatClampNeg = σ30.1 235 x5_30.toNatClampNeg ∧ σ.1 235 x5_30.toNatClampNeg = σ30.1 235 x4_30.toNatClampNeg) ∧ ∀ j, j ≠ x4_30.toNatClampNeg → j ≠ x5_30.toNatClampNeg → σ.1 235 j = σ30.1 235 j) hT (s_X12_trades hN (hR.tr hT) (by omega) (by omega)) (by decide) (fun v32 σ33 hOσ33 hT hqv32 => ?_)
            have hqv32 : (σ33.1 235 x4_30.toNatClampNeg = σ30.1 235 x5_30.toNatClampNeg ∧ σ33.1 235 x5_30.toNatClampNeg = σ30.1 235 x4_30.toNatClampNeg) ∧ ∀ j, j ≠ x4_30.toNatClampNeg → j ≠ x5_30.toNatClampNeg → σ33.1 235 j = σ30.1 235 j := hqv32
            have q90 := hqv32
            have d90 := DI_sw (i := x4_30.toNatClampNeg) (k := x5_30.toNatClampNeg) q90 (by show x4_30.toInt.toNat < _; omega) (by show x5_30.toInt.toNat < _; omega) d78
            have b90 : ∀ j, j < x2_1.toInt.toNat → σ33.1 235 j = σ0.1 235 j := fun j hj => (q90.2 j (by show j ≠ x4_30.toInt.toNat; omega) (by show j ≠ x5_30.toInt.toNat; omega)).trans (b78 j hj)
            have u90 : (σ0.1 235 x2_1.toInt.toNat).toInt < (σ33.1 235 x2_1.toInt.toNat).toInt := by rw [q90.2 x2_1.toInt.toNat (by show _ ≠ x4_30.toInt.toNat; omega) (by show _ ≠ x5_30.toInt.toNat; omega)]; exact u78
            have t90 := tm3 (a := x4_30) (b := x5_30) (y := x1.toInt - 1) (z := x2_1.toInt) (by omega) (by omega) (by omega) (by omega) (by omega)
            exact ih78_30 (x4_30 + 1, x5_30 + (-1), σ33) (show Tr [235] σ0 σ33 ∧ (((x2_1.toInt < (x4_30 + 1).toInt ∧ (x4_30 + 1).toInt ≤ 12) ∧ -1 ≤ (x5_30 + (-1)).toInt ∧ (x5_30 + (-1)).toInt ≤ x1.toInt - 1) ∧ DI (σ33.1 235) x1.toInt.toNat ∧ (∀ j, j < x2_1.toInt.toNat → σ33.1 235 j = σ0.1 235 j) ∧ (σ0.1 235 x2_1.toInt.toNat).toInt < (σ33.1 235 x2_1.toInt.toNat).toInt) from ⟨hT, (by exact ⟨t90.1, d90, b90, u90⟩)⟩) (show ((x5_30 + (-1)).toInt - (x4_30 + 1).toInt).toNat < (x5_30.toInt - x4_30.toInt).toNat from (by exact t90.2))
        · have k53 := hc27
          rw [w52q, w46q, Int32.le_iff_toInt_le] at k53
          have n53 : x3_22.toInt ≠ x2_1.toInt + 1 := by intro q; rw [show x3_22.toInt.toNat = x2_1.toInt.toNat + 1 by omega] at k53; omega
          exact ih41_22 (x3_22 + (-1), σ22) (show Tr [235] σ0 σ22 ∧ (x2_1.toInt < (x3_22 + (-1)).toInt ∧ (x3_22 + (-1)).toInt ≤ x1.toInt - 1) ∧ (σ22.1 235 = σ0.1 235) from ⟨hT, (by exact (tmk (by omega) h41.1 n53 h41.2 (by omega)).1), r235_σ22⟩) (show (x3_22 + (-1)).toInt.toNat < x3_22.toInt.toNat from (by exact (tmk (by omega) h41.1 n53 h41.2 (by omega)).2))
      · exact ok_rZ (Or.inl rfl) ⟨hT, (show ((0 : Int32) = 0 ∨ (0 : Int32) = 1) ∧ DI (σ1.1 235) x1.toInt.toNat ∧ (¬ (0 : Int32) = 0 → ∃ i : Nat, i < x1.toInt.toNat ∧ (∀ j, j < i → σ1.1 235 j = σ0.1 235 j) ∧ (σ0.1 235 i).toInt < (σ1.1 235 i).toInt) from by first | exact ⟨Or.inl rfl, by rw [r235_σ1]; exact hD, fun h => absurd rfl h⟩ | exact ⟨Or.inr rfl, d78, fun _ => ⟨_, by omega, b78, u78⟩⟩)⟩
    · exact ih4_1 (x2_1 + (-1), σ1) (show Tr [235] σ0 σ1 ∧ (-2 ≤ (x2_1 + (-1)).toInt ∧ (x2_1 + (-1)).toInt ≤ x1.toInt - 2) ∧ (σ1.1 235 = σ0.1 235) from ⟨hT, (by exact (tmd (y := x1.toInt - 2) (by omega) (by omega) (by omega)).1), r235_σ1⟩) (show ((x2_1 + (-1)).toInt + 2).toNat < (x2_1.toInt + 2).toNat from (by exact (tmd (y := x1.toInt - 2) (by omega) (by omega) (by omega)).2))
end Zq10_2
section Zq10_3
set_option maxHeartbeats 4000000 in
set_option maxRecDepth 100000 in
theorem s_X12_findsBest {N : Nat} (hN : 1048576 ≤ N) {x1 : Int32} {σ0 : zS}  (hR : RF σ0.2.2) (hM : MW (σ0.1 219) 0) (hB : ZB σ0.1) (hp : 0 ≤ x1.toInt ∧ x1.toInt ≤ 9) (h6 : (σ0.1 219 0).toInt ≤ 6) : Ok (f_X12_findsBest N 218 x1 σ0) (fun r => Tr [218, 234, 235, 236, 237] σ0 r.2 ∧ (ZB r.2.1 ∧ r.2.1 218 7 = σ0.1 218 7)) := by
  have hT : Tr [218, 234, 235, 236, 237] σ0 σ0 := Tr.rf
  have hn := hM.1
  have he : 0 ≤ (σ0.1 219 2).toInt ∧ (σ0.1 219 2).toInt ≤ 10 := hM.2.1
  have qm := mny_b hn.1 hn.2
  have ht : σ0.1 218 7 = σ0.1 218 7 := rfl
  rw [f_X12_findsBest.eq_1]
  refine ok_lp (fun t : Int32 × zS => Tr [218, 234, 235, 236, 237] σ0 (t.2) ∧ ((0 ≤ (t.1).toInt ∧ (t.1).toInt ≤ 10) ∧ ∀ j : Nat, (j : Int) < (t.1).toInt → (t.2).1 235 j = nI j) ∧ (ZB (t.2).1) ∧ ((t.2).1 218 7 = σ0.1 218 7)) (fun t : Int32 × zS => (10 - (t.1).toInt).toNat) (fun again1 t hI ih4_1 => ?_) N _ (show Tr [218, 234, 235, 236, 237] σ0 σ0 ∧ ((0 ≤ (0 : Int32).toInt ∧ (0 : Int32).toInt ≤ 10) ∧ ∀ j : Nat, (j : Int) < (0 : Int32).toInt → σ0.1 235 j = nI j) ∧ (ZB σ0.1) ∧ (σ0.1 218 7 = σ0.1 218 7) from ⟨hT, (by exact ⟨by decide, fun j hj => absurd hj (by simp only [Int32.reduceToInt]; omega)⟩), hB, ht⟩) (show (10 - (0 : Int32).toInt).toNat < N from (by simp only [Int32.reduceToInt]; omega))
  obtain ⟨x3_1, σ1⟩ := t
  have hI : Tr [218, 234, 235, 236, 237] σ0 σ1 ∧ ((0 ≤ x3_1.toInt ∧ x3_1.toInt ≤ 10) ∧ ∀ j : Nat, (j : Int) < x3_1.toInt → σ1.1 235 j = nI j) ∧ (ZB σ1.1) ∧ (σ1.1 218 7 = σ0.1 218 7) := hI
  obtain ⟨hT, hI1, hB, ht⟩ := hI
  rw [F_X12_findsBest_4.eq_1]
  have h4 := hI1.1
  have z4 := hI1.2
  refine ok_if (fun hc2 => ?_) (fun hc2 => ?_)
  · have l7 := hc2
    rw [Int32.le_iff_toInt_le] at l7
    simp only [Int32.reduceToInt] at l7
    have d4 := DI_id (n := (σ0.1 219 0).toInt.toNat) (by omega) (fun j hj => z4 j (by omega))
    refine ok_lp (fun t : Int32 × Int32 × zS => Tr [218, 234, 235, 236, 237] σ0 (t.2.2) ∧ (DI ((t.2.2).1 235) (σ0.1 219 0).toInt.toNat) ∧ (ZB (t.2.2).1) ∧ ((t.2.2).1 218 7 = σ0.1 218 7)) (fun t : Int32 × Int32 × zS => (if (t.2.1) = 0 then 0 else 1 + (1000000 - dig ((t.2.2).1 235) (σ0.1 219 0).toInt.toNat))) (fun again3 t hI ih25_3 => ?_) N _ (show Tr [218, 234, 235, 236, 237] σ0 σ1 ∧ (DI (σ1.1 235) (σ0.1 219 0).toInt.toNat) ∧ (ZB σ1.1) ∧ (σ1.1 218 7 = σ0.1 218 7) from ⟨hT, (by exact d4), hB, ht⟩) (show (if (1 : Int32) = 0 then 0 else 1 + (1000000 - dig (σ1.1 235) (σ0.1 219 0).toInt.toNat)) < N from (by split <;> omega))
    obtain ⟨x2_3, x3_3, σ3⟩ := t
    have hI : Tr [218, 234, 235, 236, 237] σ0 σ3 ∧ (DI (σ3.1 235) (σ0.1 219 0).toInt.toNat) ∧ (ZB σ3.1) ∧ (σ3.1 218 7 = σ0.1 218 7) := hI
    obtain ⟨hT, hI3, hB, ht⟩ := hI
    rw [F_X12_findsBest_25.eq_1]
    have d25 := hI3
    refine ok_if (fun hc4 => ?_) (fun hc4 => ?_)
    · exact ok_some ⟨hT, (show ZB σ3.1 ∧ σ3.1 218 7 = σ0.1 218 7 from by exact ⟨hB, ht⟩)⟩
    · have n26 := hc4
      refine ok_gC rfl ?_
      refine ok_zbT (Q := fun V σ => ZB σ.1 ∧ σ.1 218 7 = σ3.1 218 7) hT (s_X12_nodesOf hN (hR.tr hT) (by first | exact hM | (rw [hT.2 219 (by decide)]; exact hM)) (hB) (hp)) (by decide) (fun v5 σ6 hOσ6 hT hqv5 => ?_)
      have hqv5 : ZB σ6.1 ∧ σ6.1 218 7 = σ3.1 218 7 := hqv5
      have r235_σ6 : σ6.1 235 = σ3.1 235 := hOσ6.2 235 (by decide)
      have hB : ZB σ6.1 := by first | exact hqv5 | exact hqv5.1 | exact hqv5.1.1 | exact ZB_s eσ6 hB
      have ht : σ6.1 218 7 = σ0.1 218 7 := by first | (rw [zI_atN eσ6 (by decide)]; exact ht) | exact hqv5.2.trans ht | exact hqv5.1.2.trans ht
      refine ok_if (fun hc7 => ?_) (fun hc7 => ?_)
      · rw [J_X12_findsBest_47.eq_1]
        refine ok_lp (fun t : Int32 × zS => Tr [218, 234, 235, 236, 237] σ0 (t.2) ∧ (0 ≤ (t.1).toInt) ∧ (ZB (t.2).1) ∧ ((t.2).1 218 7 = σ0.1 218 7) ∧ ((t.2).1 235 = σ3.1 235)) (fun t : Int32 × zS => (10 - (t.1).toInt).toNat) (fun again8 t hI ih53_8 => ?_) N _ (show Tr [218, 234, 235, 236, 237] σ0 σ6 ∧ (0 ≤ (0 : Int32).toInt) ∧ (ZB σ6.1) ∧ (σ6.1 218 7 = σ0.1 218 7) ∧ (σ6.1 235 = σ3.1 235) from ⟨hT, (by decide), hB, ht, r235_σ6⟩) (show (10 - (0 : Int32).toInt).toNat < N from (by simp only [Int32.reduceToInt]; omega))
        obtain ⟨x5_8, σ8⟩ := t
        have hI : Tr [218, 234, 235, 236, 237] σ0 σ8 ∧ (0 ≤ x5_8.toInt) ∧ (ZB σ8.1) ∧ (σ8.1 218 7 = σ0.1 218 7) ∧ (σ8.1 235 = σ3.1 235) := hI
        obtain ⟨hT, hI8, hB, ht, r235_σ8⟩ := hI
        rw [F_X12_findsBest_53.eq_1]
        refine ok_if (fun hc9 => ?_) (fun hc9 => ?_)
        · have RQ := r235_σ8
          refine ok_gR (v := 219) hT rfl (hR 218 1 rfl) ?_
          refine ok_aIc (j := 0) hT rfl (by decide) rfl (by decide) (by decide) ?_
          refine ok_gC rfl ?_
          refine ok_zbT (Q := fun V σ => (V = 0 ∨ V = 1) ∧ DI (σ.1 235) (σ0.1 219 0).toInt.toNat ∧ (¬ V = 0 → ∃ i : Nat, i < (σ0.1 219 0).toInt.toNat ∧ (∀ j, j < i → σ.1 235 j = σ8.1 235 j) ∧ (σ8.1 235 i).toInt < (σ.1 235 i).toInt)) hT (s_X12_nextOrder hN (hR.tr hT) (⟨hn.1, h6⟩) (by first | (rw [r235_σ8]; exact d25) | exact d25)) (by decide) (fun v12 σ13 hOσ13 hT hqv12 => ?_)
          have hqv12 : (v12 = 0 ∨ v12 = 1) ∧ DI (σ13.1 235) (σ0.1 219 0).toInt.toNat ∧ (¬ v12 = 0 → ∃ i : Nat, i < (σ0.1 219 0).toInt.toNat ∧ (∀ j, j < i → σ13.1 235 j = σ8.1 235 j) ∧ (σ8.1 235 i).toInt < (σ13.1 235 i).toInt) := hqv12
          have hB : ZB σ13.1 := ZB.tr hOσ13 (by decide) hB
          have ht : σ13.1 218 7 = σ0.1 218 7 := by rw [hOσ13.2 218 (by decide)] <;> exact ht
          have q87 := hqv12.2
          rw [RQ] at q87
          exact ih25_3 (v5, v12, σ13) (show Tr [218, 234, 235, 236, 237] σ0 σ13 ∧ (DI (σ13.1 235) (σ0.1 219 0).toInt.toNat) ∧ (ZB σ13.1) ∧ (σ13.1 218 7 = σ0.1 218 7) from ⟨hT, (by exact q87.1), hB, ht⟩) (show (if v12 = 0 then 0 else 1 + (1000000 - dig (σ13.1 235) (σ0.1 219 0).toInt.toNat)) < (if x3_3 = 0 then 0 else 1 + (1000000 - dig (σ3.1 235) (σ0.1 219 0).toInt.toNat)) from (by exact fb_mu n26 (by omega) d25 q87.1 q87.2))
        · have l68 := hc9
          rw [Int32.le_iff_toInt_le] at l68
          try simp only [Int32.reduceToInt] at l68
          have s68 : (x5_8 + 1).toInt = x5_8.toInt + 1 := by rw [ti_add]; simp only [Int32.reduceToInt]; omega
          refine ok_gR (v := 237) hT rfl (hR 218 33 rfl) ?_
          refine ok_gR (v := 235) hT rfl (hR 218 30 rfl) ?_
          refine ok_aIn rfl (by first | omega | decide | (simp only [Int32.le_iff_toInt_le, Int32.lt_iff_toInt_lt, ti_add, ti_sub, ti_mul, Int32.reduceToInt] at *; omega)) (by first | omega | decide | (simp only [Int32.le_iff_toInt_le, Int32.lt_iff_toInt_lt, ti_add, ti_sub, ti_mul, Int32.reduceToInt] at *; omega)) (fun v16 ev16 => ?_)
          refine ok_s14 hT rfl (by decide) (by first | omega | decide | (simp only [Int32.le_iff_toInt_le, Int32.lt_iff_toInt_lt, ti_add, ti_sub, ti_mul, Int32.reduceToInt] at *; omega)) (by first | omega | decide | (simp only [Int32.le_iff_toInt_le, Int32.lt_iff_toInt_lt, ti_add, ti_sub, ti_mul, Int32.reduceToInt] at *; omega)) (fun σ17 eσ17 hOσ17 hT => ?_)
          have r235_σ17 : σ17.1 235 = σ3.1 235 := (hOσ17.2 235 (by decide)).trans r235_σ8
          have hB : ZB σ17.1 := ZB.tr hOσ17 (by decide) hB
          have ht : σ17.1 218 7 = σ0.1 218 7 := by rw [hOσ17.2 218 (by decide)] <;> exact ht
          exact ih53_8 (x5_8 + 1, σ17) (show Tr [218, 234, 235, 236, 237] σ0 σ17 ∧ (0 ≤ (x5_8 + 1).toInt) ∧ (ZB σ17.1) ∧ (σ17.1 218 7 = σ0.1 218 7) ∧ (σ17.1 235 = σ3.1 235) from ⟨hT, (by rw [s68]; omega), hB, ht, r235_σ17⟩) (show (10 - (x5_8 + 1).toInt).toNat < (10 - x5_8.toInt).toNat from (by rw [s68]; omega))
      · refine ok_if (fun hc18 => ?_) (fun hc18 => ?_)
        · have RQ := r235_σ6
          refine ok_gR (v := 219) hT rfl (hR 218 1 rfl) ?_
          refine ok_aIc (j := 0) hT rfl (by decide) rfl (by decide) (by decide) ?_
          refine ok_gC rfl ?_
          refine ok_zbT (Q := fun V σ => (V = 0 ∨ V = 1) ∧ DI (σ.1 235) (σ0.1 219 0).toInt.toNat ∧ (¬ V = 0 → ∃ i : Nat, i < (σ0.1 219 0).toInt.toNat ∧ (∀ j, j < i → σ.1 235 j = σ6.1 235 j) ∧ (σ6.1 235 i).toInt < (σ.1 235 i).toInt)) hT (s_X12_nextOrder hN (hR.tr hT) (⟨hn.1, h6⟩) (by first | (rw [r235_σ6]; exact d25) | exact d25)) (by decide) (fun v21 σ22 hOσ22 hT hqv21 => ?_)
          have hqv21 : (v21 = 0 ∨ v21 = 1) ∧ DI (σ22.1 235) (σ0.1 219 0).toInt.toNat ∧ (¬ v21 = 0 → ∃ i : Nat, i < (σ0.1 219 0).toInt.toNat ∧ (∀ j, j < i → σ22.1 235 j = σ6.1 235 j) ∧ (σ6.1 235 i).toInt < (σ22.1 235 i).toInt) := hqv21
          have hB : ZB σ22.1 := ZB.tr hOσ22 (by decide) hB
          have ht : σ22.1 218 7 = σ0.1 218 7 := by rw [hOσ22.2 218 (by decide)] <;> exact ht
          have q87 := hqv21.2
          rw [RQ] at q87
          exact ih25_3 (x2_3, v21, σ22) (show Tr [218, 234, 235, 236, 237] σ0 σ22 ∧ (DI (σ22.1 235) (σ0.1 219 0).toInt.toNat) ∧ (ZB σ22.1) ∧ (σ22.1 218 7 = σ0.1 218 7) from ⟨hT, (by exact q87.1), hB, ht⟩) (show (if v21 = 0 then 0 else 1 + (1000000 - dig (σ22.1 235) (σ0.1 219 0).toInt.toNat)) < (if x3_3 = 0 then 0 else 1 + (1000000 - dig (σ3.1 235) (σ0.1 219 0).toInt.toNat)) from (by exact fb_mu n26 (by omega) d25 q87.1 q87.2))
        · rw [J_X12_findsBest_47.eq_1]
          refine ok_lp (fun t : Int32 × zS => Tr [218, 234, 235, 236, 237] σ0 (t.2) ∧ (0 ≤ (t.1).toInt) ∧ (ZB (t.2).1) ∧ ((t.2).1 218 7 = σ0.1 218 7) ∧ ((t.2).1 235 = σ3.1 235)) (fun t : Int32 × zS => (10 - (t.1).toInt).toNat) (fun again23 t hI ih53_23 => ?_) N _ (show Tr [218, 234, 235, 236, 237] σ0 σ6 ∧ (0 ≤ (0 : Int32).toInt) ∧ (ZB σ6.1) ∧ (σ6.1 218 7 = σ0.1 218 7) ∧ (σ6.1 235 = σ3.1 235) from ⟨hT, (by decide), hB, ht, r235_σ6⟩) (show (10 - (0 : Int32).toInt).toNat < N from (by simp only [Int32.reduceToInt]; omega))
          obtain ⟨x5_23, σ23⟩ := t
          have hI : Tr [218, 234, 235, 236, 237] σ0 σ23 ∧ (0 ≤ x5_23.toInt) ∧ (ZB σ23.1) ∧ (σ23.1 218 7 = σ0.1 218 7) ∧ (σ23.1 235 = σ3.1 235) := hI
          obtain ⟨hT, hI23, hB, ht, r235_σ23⟩ := hI
          rw [F_X12_findsBest_53.eq_1]
          refine ok_if (fun hc24 => ?_) (fun hc24 => ?_)
          · have RQ := r235_σ23
            refine ok_gR (v := 219) hT rfl (hR 218 1 rfl) ?_
            refine ok_aIc (j := 0) hT rfl (by decide) rfl (by decide) (by decide) ?_
            refine ok_gC rfl ?_
            refine ok_zbT (Q := fun V σ => (V = 0 ∨ V = 1) ∧ DI (σ.1 235) (σ0.1 219 0).toInt.toNat ∧ (¬ V = 0 → ∃ i : Nat, i < (σ0.1 219 0).toInt.toNat ∧ (∀ j, j < i → σ.1 235 j = σ23.1 235 j) ∧ (σ23.1 235 i).toInt < (σ.1 235 i).toInt)) hT (s_X12_nextOrder hN (hR.tr hT) (⟨hn.1, h6⟩) (by first | (rw [r235_σ23]; exact d25) | exact d25)) (by decide) (fun v27 σ28 hOσ28 hT hqv27 => ?_)
            have hqv27 : (v27 = 0 ∨ v27 = 1) ∧ DI (σ28.1 235) (σ0.1 219 0).toInt.toNat ∧ (¬ v27 = 0 → ∃ i : Nat, i < (σ0.1 219 0).toInt.toNat ∧ (∀ j, j < i → σ28.1 235 j = σ23.1 235 j) ∧ (σ23.1 235 i).toInt < (σ28.1 235 i).toInt) := hqv27
            have hB : ZB σ28.1 := ZB.tr hOσ28 (by decide) hB
            have ht : σ28.1 218 7 = σ0.1 218 7 := by rw [hOσ28.2 218 (by decide)] <;> exact ht
            have q87 := hqv27.2
            rw [RQ] at q87
            exact ih25_3 (v5, v27, σ28) (show Tr [218, 234, 235, 236, 237] σ0 σ28 ∧ (DI (σ28.1 235) (σ0.1 219 0).toInt.toNat) ∧ (ZB σ28.1) ∧ (σ28.1 218 7 = σ0.1 218 7) from ⟨hT, (by exact q87.1), hB, ht⟩) (show (if v27 = 0 then 0 else 1 + (1000000 - dig (σ28.1 235) (σ0.1 219 0).toInt.toNat)) < (if x3_3 = 0 then 0 else 1 + (1000000 - dig (σ3.1 235) (σ0.1 219 0).toInt.toNat)) from (by exact fb_mu n26 (by omega) d25 q87.1 q87.2))
          · have l68 := hc24
            rw [Int32.le_iff_toInt_le] at l68
            try simp only [Int32.reduceToInt] at l68
            have s68 : (x5_23 + 1).toInt = x5_23.toInt + 1 := by rw [ti_add]; simp only [Int32.reduceToInt]; omega
            refine ok_gR (v := 237) hT rfl (hR 218 33 rfl) ?_
            refine ok_gR (v := 235) hT rfl (hR 218 30 rfl) ?_
            refine ok_aIn rfl (by first | omega | decide | (simp only [Int32.le_iff_toInt_le, Int32.lt_iff_toInt_lt, ti_add, ti_sub, ti_mul, Int32.reduceToInt] at *; omega)) (by first | omega | decide | (simp only [Int32.le_iff_toInt_le, Int32.lt_iff_toInt_lt, ti_add, ti_sub, ti_mul, Int32.reduceToInt] at *; omega)) (fun v31 ev31 => ?_)
            refine ok_s14 hT rfl (by decide) (by first | omega | decide | (simp only [Int32.le_iff_toInt_le, Int32.lt_iff_toInt_lt, ti_add, ti_sub, ti_mul, Int32.reduceToInt] at *; omega)) (by first | omega | decide | (simp only [Int32.le_iff_toInt_le, Int32.lt_iff_toInt_lt, ti_add, ti_sub, ti_mul, Int32.reduceToInt] at *; omega)) (fun σ32 eσ32 hOσ32 hT => ?_)
            have r235_σ32 : σ32.1 235 = σ3.1 235 := (hOσ32.2 235 (by decide)).trans r235_σ23
            have hB : ZB σ32.1 := ZB.tr hOσ32 (by decide) hB
            have ht : σ32.1 218 7 = σ0.1 218 7 := by rw [hOσ32.2 218 (by decide)] <;> exact ht
            exact ih53_23 (x5_23 + 1, σ32) (show Tr [218, 234, 235, 236, 237] σ0 σ32 ∧ (0 ≤ (x5_23 + 1).toInt) ∧ (ZB σ32.1) ∧ (σ32.1 218 7 = σ0.1 218 7) ∧ (σ32.1 235 = σ3.1 235) from ⟨hT, (by rw [s68]; omega), hB, ht, r235_σ32⟩) (show (10 - (x5_23 + 1).toInt).toNat < (10 - x5_23.toInt).toNat from (by rw [s68]; omega))
  · have l68 := hc2
    rw [Int32.le_iff_toInt_le] at l68
    try simp only [Int32.reduceToInt] at l68
    have s68 : (x3_1 + 1).toInt = x3_1.toInt + 1 := by rw [ti_add]; simp only [Int32.reduceToInt]; omega
    refine ok_gR (v := 235) hT rfl (hR 218 30 rfl) ?_
    refine ok_s14 hT rfl (by decide) (by first | omega | decide | (simp only [Int32.le_iff_toInt_le, Int32.lt_iff_toInt_lt, ti_add, ti_sub, ti_mul, Int32.reduceToInt] at *; omega)) (by first | omega | decide | (simp only [Int32.le_iff_toInt_le, Int32.lt_iff_toInt_lt, ti_add, ti_sub, ti_mul, Int32.reduceToInt] at *; omega)) (fun σ34 eσ34 hOσ34 hT => ?_)
    have z16 : ∀ j : Nat, (j : Int) < x3_1.toInt + 1 → σ34.1 235 j = nI j := by intro j hj; by_cases q : (j : Int) = x3_1.toInt; rw [show j = x3_1.toNatClampNeg by show j = x3_1.toInt.toNat; omega, zI_atI eσ34]; exact (nI_ofm h4.1 h4.2).symm; rw [zI_atN eσ34 (by show j ≠ x3_1.toInt.toNat; omega)]; exact z4 j (by omega)
    have hB : ZB σ34.1 := ZB.tr hOσ34 (by decide) hB
    have ht : σ34.1 218 7 = σ0.1 218 7 := by rw [hOσ34.2 218 (by decide)] <;> exact ht
    exact ih4_1 (x3_1 + 1, σ34) (show Tr [218, 234, 235, 236, 237] σ0 σ34 ∧ ((0 ≤ (x3_1 + 1).toInt ∧ (x3_1 + 1).toInt ≤ 10) ∧ ∀ j : Nat, (j : Int) < (x3_1 + 1).toInt → σ34.1 235 j = nI j) ∧ (ZB σ34.1) ∧ (σ34.1 218 7 = σ0.1 218 7) from ⟨hT, (by rw [s68]; exact ⟨by omega, z16⟩), hB, ht⟩) (show (10 - (x3_1 + 1).toInt).toNat < (10 - x3_1.toInt).toNat from (by rw [s68]; omega))

set_option maxHeartbeats 4000000 in
set_option maxRecDepth 100000 in
theorem s_X12_best {N : Nat} (hN : 1048576 ≤ N) {x1 : Int32} {x2 : Int32} {σ0 : zS}  (hR : RF σ0.2.2) (hM : MW (σ0.1 219) 0) (hB : ZB σ0.1) : Ok (f_X12_best N 218 x1 x2 σ0) (fun r => Tr [218, 234, 235, 236, 237] σ0 r.2 ∧ (ZB r.2.1 ∧ r.2.1 218 7 = σ0.1 218 7)) := by
  have hT : Tr [218, 234, 235, 236, 237] σ0 σ0 := Tr.rf
  have hn := hM.1
  have he : 0 ≤ (σ0.1 219 2).toInt ∧ (σ0.1 219 2).toInt ≤ 10 := hM.2.1
  have qm := mny_b hn.1 hn.2
  have ht : σ0.1 218 7 = σ0.1 218 7 := rfl
  rw [f_X12_best.eq_1]
  refine ok_gC rfl ?_
  refine ok_zbT (Q := fun V σ => (V = 0 ∨ V = 1) ∧ (¬ V = 0 → 0 ≤ x1.toInt ∧ x1.toInt ≤ 9)) hT (s_X12_isRegister hN (hR.tr hT) (by first | exact hM | (rw [hT.2 219 (by decide)]; exact hM))) (fun _ h9 => absurd h9 List.not_mem_nil) (fun v1 σ2 hOσ2 hT hqv1 => ?_)
  have hqv1 : (v1 = 0 ∨ v1 = 1) ∧ (¬ v1 = 0 → 0 ≤ x1.toInt ∧ x1.toInt ≤ 9) := hqv1
  have hB : ZB σ2.1 := ZB.tr hOσ2 (by decide) hB
  have ht : σ2.1 218 7 = σ0.1 218 7 := by rw [hOσ2.2 218 (by decide)] <;> exact ht
  refine ok_if (fun hc3 => ?_) (fun hc3 => ?_)
  · exact ok_some ⟨hT, (show ZB σ2.1 ∧ σ2.1 218 7 = σ0.1 218 7 from by exact ⟨hB, ht⟩)⟩
  · have qhc3 := hqv1.2 hc3
    refine ok_zbT (Q := fun V σ => (V = 0 ∨ V = 1) ∧ (¬ V = 0 → (0 : Int64).toInt ≤ (Int32.toInt64 x2).toInt ∧ (Int32.toInt64 x2).toInt ≤ (10 : Int64).toInt)) hT (s_X12_in hN (hR.tr hT) ) (fun _ h9 => absurd h9 List.not_mem_nil) (fun v4 σ5 hOσ5 hT hqv4 => ?_)
    have hqv4 : (v4 = 0 ∨ v4 = 1) ∧ (¬ v4 = 0 → (0 : Int64).toInt ≤ (Int32.toInt64 x2).toInt ∧ (Int32.toInt64 x2).toInt ≤ (10 : Int64).toInt) := hqv4
    simp only [i64_of, Int64.reduceToInt] at hqv4
    have hB : ZB σ5.1 := ZB.tr hOσ5 (by decide) hB
    have ht : σ5.1 218 7 = σ0.1 218 7 := by rw [hOσ5.2 218 (by decide)] <;> exact ht
    refine ok_if (fun hc6 => ?_) (fun hc6 => ?_)
    · exact ok_some ⟨hT, (show ZB σ5.1 ∧ σ5.1 218 7 = σ0.1 218 7 from by exact ⟨hB, ht⟩)⟩
    · have qhc6 := hqv4.2 hc6
      refine ok_gR (v := 219) hT rfl (hR 218 1 rfl) ?_
      refine ok_aIc (j := 0) hT rfl (by decide) rfl (by decide) (by decide) ?_
      refine ok_if (fun hc9 => ?_) (fun hc9 => ?_)
      · have l31 := hc9
        rw [Int32.le_iff_toInt_le] at l31
        simp only [Int32.reduceToInt] at l31
        refine ok_gC rfl ?_
        refine ok_zbT (Q := fun V σ => ZB σ.1 ∧ σ.1 218 7 = σ5.1 218 7) hT (s_X12_findsBest hN (hR.tr hT) (by first | exact hM | (rw [hT.2 219 (by decide)]; exact hM)) (hB) (by first | omega | (simp only [Int32.le_iff_toInt_le, Int32.lt_iff_toInt_lt, ti_add, ti_sub, ti_mul, Int32.reduceToInt] at *; omega)) (by rw [hT.2 219 (by decide)]; exact l31)) (by decide) (fun v10 σ11 hOσ11 hT hqv10 => ?_)
        have hqv10 : ZB σ11.1 ∧ σ11.1 218 7 = σ5.1 218 7 := hqv10
        have hB : ZB σ11.1 := by first | exact hqv10 | exact hqv10.1 | exact hqv10.1.1 | exact ZB_s eσ11 hB
        have ht : σ11.1 218 7 = σ0.1 218 7 := by first | (rw [zI_atN eσ11 (by decide)]; exact ht) | exact hqv10.2.trans ht | exact hqv10.1.2.trans ht
        refine ok_if (fun hc12 => ?_) (fun hc12 => ?_)
        · exact ok_some ⟨hT, (show ZB σ11.1 ∧ σ11.1 218 7 = σ0.1 218 7 from by exact ⟨hB, ht⟩)⟩
        · have n44 : x2.toInt ≠ 0 := fun e => hc12 (Int32.toInt_inj.mp e)
          refine ok_gR (v := 219) hT rfl (hR 218 1 rfl) ?_
          refine ok_aIc (j := 0) hT rfl (by decide) rfl (by decide) (by decide) ?_
          refine ok_if (fun hc15 => ?_) (fun hc15 => ?_)
          · refine ok_gR (v := 237) hT rfl (hR 218 33 rfl) ?_
            refine ok_aIn rfl (by first | omega | (simp only [Int32.le_iff_toInt_le, Int32.lt_iff_toInt_lt, ti_add, ti_sub, ti_mul, Int32.reduceToInt] at *; omega)) (by first | omega | (simp only [Int32.le_iff_toInt_le, Int32.lt_iff_toInt_lt, ti_add, ti_sub, ti_mul, Int32.reduceToInt] at *; omega)) (fun v17 ev17 => ?_)
            exact ok_some ⟨hT, (show ZB σ11.1 ∧ σ11.1 218 7 = σ0.1 218 7 from by exact ⟨hB, ht⟩)⟩
          · exact ok_some ⟨hT, (show ZB σ11.1 ∧ σ11.1 218 7 = σ0.1 218 7 from by exact ⟨hB, ht⟩)⟩
      · exact ok_some ⟨hT, (show ZB σ5.1 ∧ σ5.1 218 7 = σ0.1 218 7 from by exact ⟨hB, ht⟩)⟩

set_option maxHeartbeats 4000000 in
set_option maxRecDepth 100000 in
theorem s_X12_sift {N : Nat} (hN : 1048576 ≤ N) {x1 : Int32} {σ0 : zS}  (hR : RF σ0.2.2) (hM : MW (σ0.1 219) 0) (hB : ZB σ0.1) : Ok (f_X12_sift N 218 x1 σ0) (fun r => Tr [218, 219, 234, 235, 236] σ0 r.2 ∧ (ZB r.2.1 ∧ r.2.1 218 7 = σ0.1 218 7 ∧ MW (r.2.1 219) 0)) := by
  have hT : Tr [218, 219, 234, 235, 236] σ0 σ0 := Tr.rf
  have hn := hM.1
  have he : 0 ≤ (σ0.1 219 2).toInt ∧ (σ0.1 219 2).toInt ≤ 10 := hM.2.1
  have qm := mny_b hn.1 hn.2
  have ht : σ0.1 218 7 = σ0.1 218 7 := rfl
  have hMk := hM
  have h0 : (σ0.1 219 0).toInt = (σ0.1 219 0).toInt := rfl
  rw [f_X12_sift.eq_1]
  refine ok_gC rfl ?_
  refine ok_zbT (Q := fun V σ => (V = 0 ∨ V = 1) ∧ (¬ V = 0 → 0 ≤ x1.toInt ∧ x1.toInt ≤ 9)) hT (s_X12_isRegister hN (hR.tr hT) (hMk)) (fun _ h9 => absurd h9 List.not_mem_nil) (fun v1 σ2 hOσ2 hT hqv1 => ?_)
  have hqv1 : (v1 = 0 ∨ v1 = 1) ∧ (¬ v1 = 0 → 0 ≤ x1.toInt ∧ x1.toInt ≤ 9) := hqv1
  have hB : ZB σ2.1 := ZB.tr hOσ2 (by decide) hB
  have ht : σ2.1 218 7 = σ0.1 218 7 := by rw [hOσ2.2 218 (by decide)] <;> exact ht
  have hMk : MW (σ2.1 219) 0 := by rw [hOσ2.2 219 (by decide)]; exact hMk
  have h0 : (σ2.1 219 0).toInt = (σ0.1 219 0).toInt := by rw [hOσ2.2 219 (by decide)] <;> exact h0
  refine ok_if (fun hc3 => ?_) (fun hc3 => ?_)
  · exact ok_some ⟨hT, (show ZB σ2.1 ∧ σ2.1 218 7 = σ0.1 218 7 ∧ MW (σ2.1 219) 0 from by exact ⟨hB, ht, hMk⟩)⟩
  · have qhc3 := hqv1.2 hc3
    refine ok_lp (fun t : Int32 × Int32 × zS => Tr [218, 219, 234, 235, 236] σ0 (t.2.2) ∧ (0 ≤ (t.2.1).toInt ∧ (t.2.1).toInt ≤ (σ0.1 219 0).toInt) ∧ (ZB (t.2.2).1) ∧ ((t.2.2).1 218 7 = σ0.1 218 7) ∧ (MW ((t.2.2).1 219) 0) ∧ (((t.2.2).1 219 0).toInt = (σ0.1 219 0).toInt)) (fun t : Int32 × Int32 × zS => ((σ0.1 219 0).toInt - (t.2.1).toInt).toNat) (fun again4 t hI ih15_4 => ?_) N _ (show Tr [218, 219, 234, 235, 236] σ0 σ2 ∧ (0 ≤ (0 : Int32).toInt ∧ (0 : Int32).toInt ≤ (σ0.1 219 0).toInt) ∧ (ZB σ2.1) ∧ (σ2.1 218 7 = σ0.1 218 7) ∧ (MW (σ2.1 219) 0) ∧ ((σ2.1 219 0).toInt = (σ0.1 219 0).toInt) from ⟨hT, (by simp only [Int32.reduceToInt]; omega), hB, ht, hMk, h0⟩) (show ((σ0.1 219 0).toInt - (0 : Int32).toInt).toNat < N from (by simp only [Int32.reduceToInt]; omega))
    obtain ⟨x2_4, x3_4, σ4⟩ := t
    have hI : Tr [218, 219, 234, 235, 236] σ0 σ4 ∧ (0 ≤ x3_4.toInt ∧ x3_4.toInt ≤ (σ0.1 219 0).toInt) ∧ (ZB σ4.1) ∧ (σ4.1 218 7 = σ0.1 218 7) ∧ (MW (σ4.1 219) 0) ∧ ((σ4.1 219 0).toInt = (σ0.1 219 0).toInt) := hI
    obtain ⟨hT, hI4, hB, ht, hMk, h0⟩ := hI
    rw [F_X12_sift_15.eq_1]
    have h15 := hI4
    refine ok_gR (v := 219) hT rfl (hR 218 1 rfl) ?_
    refine ok_aIn rfl (by first | omega | decide | (simp only [Int32.le_iff_toInt_le, Int32.lt_iff_toInt_lt, ti_add, ti_sub, ti_mul, Int32.reduceToInt] at *; omega)) (by first | omega | decide | (simp only [Int32.le_iff_toInt_le, Int32.lt_iff_toInt_lt, ti_add, ti_sub, ti_mul, Int32.reduceToInt] at *; omega)) (fun v6 ev6 => ?_)
    have w21 : v6.toInt = (σ0.1 219 0).toInt := by rw [ev6]; exact h0
    refine ok_if (fun hc7 => ?_) (fun hc7 => ?_)
    · exact ok_some ⟨hT, (show ZB σ4.1 ∧ σ4.1 218 7 = σ0.1 218 7 ∧ MW (σ4.1 219) 0 from by exact ⟨hB, ht, hMk⟩)⟩
    · have l22 := hc7
      rw [Int32.le_iff_toInt_le] at l22
      have s22 : (x3_4 + 1).toInt = x3_4.toInt + 1 := by rw [ti_add]; simp only [Int32.reduceToInt]; omega
      refine ok_lp (fun t : Int32 × Int32 × Int32 × zS => Tr [218, 219, 234, 235, 236] σ0 (t.2.2.2) ∧ ((0 ≤ (t.2.2.1).toInt ∧ (t.2.2.1).toInt ≤ (σ0.1 219 0).toInt) ∧ (((t.2.2.1).toInt = 0 ∧ (t.2.1) = -1) ∨ (0 ≤ (t.2.1).toInt ∧ (t.2.1).toInt < (σ0.1 219 0).toInt))) ∧ (ZB (t.2.2.2).1) ∧ ((t.2.2.2).1 218 7 = σ0.1 218 7) ∧ (MW ((t.2.2.2).1 219) 0) ∧ (((t.2.2.2).1 219 0).toInt = (σ0.1 219 0).toInt)) (fun t : Int32 × Int32 × Int32 × zS => ((σ0.1 219 0).toInt - (t.2.2.1).toInt).toNat) (fun again8 t hI ih31_8 => ?_) N _ (show Tr [218, 219, 234, 235, 236] σ0 σ4 ∧ ((0 ≤ (0 : Int32).toInt ∧ (0 : Int32).toInt ≤ (σ0.1 219 0).toInt) ∧ (((0 : Int32).toInt = 0 ∧ (-1 : Int32) = -1) ∨ (0 ≤ (-1 : Int32).toInt ∧ (-1 : Int32).toInt < (σ0.1 219 0).toInt))) ∧ (ZB σ4.1) ∧ (σ4.1 218 7 = σ0.1 218 7) ∧ (MW (σ4.1 219) 0) ∧ ((σ4.1 219 0).toInt = (σ0.1 219 0).toInt) from ⟨hT, (by exact ⟨by simp only [Int32.reduceToInt]; omega, Or.inl ⟨by decide, rfl⟩⟩), hB, ht, hMk, h0⟩) (show ((σ0.1 219 0).toInt - (0 : Int32).toInt).toNat < N from (by simp only [Int32.reduceToInt]; omega))
      obtain ⟨x2_8, x4_8, x5_8, σ8⟩ := t
      have hI : Tr [218, 219, 234, 235, 236] σ0 σ8 ∧ ((0 ≤ x5_8.toInt ∧ x5_8.toInt ≤ (σ0.1 219 0).toInt) ∧ ((x5_8.toInt = 0 ∧ x4_8 = -1) ∨ (0 ≤ x4_8.toInt ∧ x4_8.toInt < (σ0.1 219 0).toInt))) ∧ (ZB σ8.1) ∧ (σ8.1 218 7 = σ0.1 218 7) ∧ (MW (σ8.1 219) 0) ∧ ((σ8.1 219 0).toInt = (σ0.1 219 0).toInt) := hI
      obtain ⟨hT, hI8, hB, ht, hMk, h0⟩ := hI
      rw [F_X12_sift_31.eq_1]
      have h31 := hI8.1
      have k31 := hI8.2
      refine ok_gR (v := 219) hT rfl (hR 218 1 rfl) ?_
      refine ok_aIn rfl (by first | omega | decide | (simp only [Int32.le_iff_toInt_le, Int32.lt_iff_toInt_lt, ti_add, ti_sub, ti_mul, Int32.reduceToInt] at *; omega)) (by first | omega | decide | (simp only [Int32.le_iff_toInt_le, Int32.lt_iff_toInt_lt, ti_add, ti_sub, ti_mul, Int32.reduceToInt] at *; omega)) (fun v10 ev10 => ?_)
      have w38 : v10.toInt = (σ0.1 219 0).toInt := by rw [ev10]; exact h0
      refine ok_if (fun hc11 => ?_) (fun hc11 => ?_)
      · have l39 := hc11
        rw [Int32.le_iff_toInt_le] at l39
        have k39 : 0 ≤ x4_8.toInt ∧ x4_8.toInt < (σ0.1 219 0).toInt := by rcases k31 with q | q; omega; exact q
        refine ok_gC rfl ?_
        refine ok_zbT (Q := fun V σ => MW (σ.1 219) 0 ∧ (σ.1 219 0).toInt = (σ8.1 219 0).toInt) hT (s_X12_goesTo hN (hR.tr hT) (hMk) (by rw [h0]; omega) (by rw [h0]; omega)) (by decide) (fun v12 σ13 hOσ13 hT hqv12 => ?_)
        have hqv12 : MW (σ13.1 219) 0 ∧ (σ13.1 219 0).toInt = (σ8.1 219 0).toInt := hqv12
        have hB : ZB σ13.1 := ZB.tr hOσ13 (by decide) hB
        have ht : σ13.1 218 7 = σ0.1 218 7 := by rw [hOσ13.2 218 (by decide)] <;> exact ht
        have hMk : MW (σ13.1 219) 0 := hqv12.1
        have h0 : (σ13.1 219 0).toInt = (σ0.1 219 0).toInt := hqv12.2.trans h0
        exact ih15_4 (x2_8, x3_4 + 1, σ13) (show Tr [218, 219, 234, 235, 236] σ0 σ13 ∧ (0 ≤ (x3_4 + 1).toInt ∧ (x3_4 + 1).toInt ≤ (σ0.1 219 0).toInt) ∧ (ZB σ13.1) ∧ (σ13.1 218 7 = σ0.1 218 7) ∧ (MW (σ13.1 219) 0) ∧ ((σ13.1 219 0).toInt = (σ0.1 219 0).toInt) from ⟨hT, (by rw [s22]; omega), hB, ht, hMk, h0⟩) (show ((σ0.1 219 0).toInt - (x3_4 + 1).toInt).toNat < ((σ0.1 219 0).toInt - x3_4.toInt).toNat from (by rw [s22]; omega))
      · have l39 := hc11
        rw [Int32.le_iff_toInt_le] at l39
        have s39 : (x5_8 + 1).toInt = x5_8.toInt + 1 := by rw [ti_add]; simp only [Int32.reduceToInt]; omega
        refine ok_gC rfl ?_
        refine ok_zbT (Q := fun V σ => MW (σ.1 219) 0 ∧ (σ.1 219 0).toInt = (σ8.1 219 0).toInt) hT (s_X12_goesTo hN (hR.tr hT) (hMk) (by rw [h0]; omega) (by rw [h0]; omega)) (by decide) (fun v14 σ15 hOσ15 hT hqv14 => ?_)
        have hqv14 : MW (σ15.1 219) 0 ∧ (σ15.1 219 0).toInt = (σ8.1 219 0).toInt := hqv14
        have hB : ZB σ15.1 := ZB.tr hOσ15 (by decide) hB
        have ht : σ15.1 218 7 = σ0.1 218 7 := by rw [hOσ15.2 218 (by decide)] <;> exact ht
        have hMk : MW (σ15.1 219) 0 := hqv14.1
        have h0 : (σ15.1 219 0).toInt = (σ0.1 219 0).toInt := hqv14.2.trans h0
        refine ok_gC rfl ?_
        refine ok_zbT (Q := fun V σ => True) hT (s_X12_takesOrder hN (hR.tr hT) (hMk)) (by decide) (fun v16 σ17 hOσ17 hT hqv16 => ?_)
        have hB : ZB σ17.1 := ZB.tr hOσ17 (by decide) hB
        have ht : σ17.1 218 7 = σ0.1 218 7 := by rw [hOσ17.2 218 (by decide)] <;> exact ht
        have hMk : MW (σ17.1 219) 0 := by rw [hOσ17.2 219 (by decide)]; exact hMk
        have h0 : (σ17.1 219 0).toInt = (σ0.1 219 0).toInt := by rw [hOσ17.2 219 (by decide)] <;> exact h0
        refine ok_gC rfl ?_
        refine ok_zbT (Q := fun V σ => ZB σ.1 ∧ σ.1 218 7 = σ17.1 218 7) hT (s_X12_nodesOf hN (hR.tr hT) (hMk) (hB) (by first | omega | (simp only [Int32.le_iff_toInt_le, Int32.lt_iff_toInt_lt, ti_add, ti_sub, ti_mul, Int32.reduceToInt] at *; omega))) (by decide) (fun v18 σ19 hOσ19 hT hqv18 => ?_)
        have hqv18 : ZB σ19.1 ∧ σ19.1 218 7 = σ17.1 218 7 := hqv18
        have hB : ZB σ19.1 := by first | exact hqv18 | exact hqv18.1 | exact hqv18.1.1 | exact ZB_s eσ19 hB
        have ht : σ19.1 218 7 = σ0.1 218 7 := by first | (rw [zI_atN eσ19 (by decide)]; exact ht) | exact hqv18.2.trans ht | exact hqv18.1.2.trans ht
        have hMk : MW (σ19.1 219) 0 := by rw [hOσ19.2 219 (by decide)]; exact hMk
        have h0 : (σ19.1 219 0).toInt = (σ0.1 219 0).toInt := by rw [hOσ19.2 219 (by decide)] <;> exact h0
        refine ok_if (fun hc20 => ?_) (fun hc20 => ?_)
        · exact ih31_8 (v18, x5_8, x5_8 + 1, σ19) (show Tr [218, 219, 234, 235, 236] σ0 σ19 ∧ ((0 ≤ (x5_8 + 1).toInt ∧ (x5_8 + 1).toInt ≤ (σ0.1 219 0).toInt) ∧ (((x5_8 + 1).toInt = 0 ∧ x5_8 = -1) ∨ (0 ≤ x5_8.toInt ∧ x5_8.toInt < (σ0.1 219 0).toInt))) ∧ (ZB σ19.1) ∧ (σ19.1 218 7 = σ0.1 218 7) ∧ (MW (σ19.1 219) 0) ∧ ((σ19.1 219 0).toInt = (σ0.1 219 0).toInt) from ⟨hT, (by rw [s39]; first | exact ⟨by omega, Or.inr ⟨by omega, by omega⟩⟩ | exact ⟨by omega, Or.inr k63⟩), hB, ht, hMk, h0⟩) (show ((σ0.1 219 0).toInt - (x5_8 + 1).toInt).toNat < ((σ0.1 219 0).toInt - x5_8.toInt).toNat from (by rw [s39]; omega))
        · have k63 : 0 ≤ x4_8.toInt ∧ x4_8.toInt < (σ0.1 219 0).toInt := by rcases k31 with q | q; exact absurd q.2 hc20; exact q
          refine ok_if (fun hc21 => ?_) (fun hc21 => ?_)
          · exact ih31_8 (v18, x5_8, x5_8 + 1, σ19) (show Tr [218, 219, 234, 235, 236] σ0 σ19 ∧ ((0 ≤ (x5_8 + 1).toInt ∧ (x5_8 + 1).toInt ≤ (σ0.1 219 0).toInt) ∧ (((x5_8 + 1).toInt = 0 ∧ x5_8 = -1) ∨ (0 ≤ x5_8.toInt ∧ x5_8.toInt < (σ0.1 219 0).toInt))) ∧ (ZB σ19.1) ∧ (σ19.1 218 7 = σ0.1 218 7) ∧ (MW (σ19.1 219) 0) ∧ ((σ19.1 219 0).toInt = (σ0.1 219 0).toInt) from ⟨hT, (by rw [s39]; first | exact ⟨by omega, Or.inr ⟨by omega, by omega⟩⟩ | exact ⟨by omega, Or.inr k63⟩), hB, ht, hMk, h0⟩) (show ((σ0.1 219 0).toInt - (x5_8 + 1).toInt).toNat < ((σ0.1 219 0).toInt - x5_8.toInt).toNat from (by rw [s39]; omega))
          · exact ih31_8 (x2_8, x4_8, x5_8 + 1, σ19) (show Tr [218, 219, 234, 235, 236] σ0 σ19 ∧ ((0 ≤ (x5_8 + 1).toInt ∧ (x5_8 + 1).toInt ≤ (σ0.1 219 0).toInt) ∧ (((x5_8 + 1).toInt = 0 ∧ x4_8 = -1) ∨ (0 ≤ x4_8.toInt ∧ x4_8.toInt < (σ0.1 219 0).toInt))) ∧ (ZB σ19.1) ∧ (σ19.1 218 7 = σ0.1 218 7) ∧ (MW (σ19.1 219) 0) ∧ ((σ19.1 219 0).toInt = (σ0.1 219 0).toInt) from ⟨hT, (by rw [s39]; first | exact ⟨by omega, Or.inr ⟨by omega, by omega⟩⟩ | exact ⟨by omega, Or.inr k63⟩), hB, ht, hMk, h0⟩) (show ((σ0.1 219 0).toInt - (x5_8 + 1).toInt).toNat < ((σ0.1 219 0).toInt - x5_8.toInt).toNat from (by rw [s39]; omega))
end Zq10_3
section Zq10_4
def rowV (a w n : Int32) : Int32 := if (0 ≤ a.toInt ∧ a.toInt ≤ 3) ∧ (0 ≤ w.toInt ∧ w.toInt ≤ 3) ∧ n.toInt ≤ 60 then (if n.toInt < 0 then -3 else 0) else -2
def wrV (a i l : Int32) : Int32 := if 0 ≤ a.toInt ∧ a.toInt ≤ 3 then (if l.toInt < 0 then -6 else if 0 ≤ i.toInt ∧ i.toInt < l.toInt then 0 else -7) else -2
def paV (a i b k n la lb wa wb : Int32) : Int32 := if (0 ≤ a.toInt ∧ a.toInt ≤ 3) ∧ (0 ≤ b.toInt ∧ b.toInt ≤ 3) then (if la.toInt < 0 ∨ lb.toInt < 0 then -6 else if wa = wb then (if (0 ≤ i.toInt ∧ 0 ≤ k.toInt ∧ 0 ≤ n.toInt) ∧ i.toInt + n.toInt ≤ la.toInt ∧ k.toInt + n.toInt ≤ lb.toInt then 0 else -7) else -8) else -2
def fdV (t : Int32) : Int32 := if t.toInt ≤ 580 then t + 20 else -1
def fdT (t : Int32) : Int32 := if t.toInt ≤ 580 then t + 20 else t
def enV (x t : Int32) : Int32 := if 0 ≤ x.toInt ∧ x.toInt ≤ t.toInt then x else -1
def enT (x t : Int32) : Int32 := if 0 ≤ x.toInt ∧ x.toInt ≤ t.toInt then x else t
/-- the slots' lengths and widths behind row -/
def RWC (f g : Nat → Nat → Int32) (a w n v : Int32) : Prop := ∀ s, s < 4 → g (210 + 2 * s) 2 = (if v = 0 ∧ s = a.toInt.toNat then n else f (210 + 2 * s) 2) ∧ g (210 + 2 * s) 1 = (if v = 0 ∧ s = a.toInt.toNat then w else f (210 + 2 * s) 1)
def RWR (f g : Nat → Nat → Int32) (a w n v : Int32) : Prop := ∀ s, s < 4 → g 239 s = (if v = 0 ∧ s = a.toInt.toNat then n else f 239 s) ∧ g 240 s = (if v = 0 ∧ s = a.toInt.toNat then w else f 240 s)
theorem RWC_n {f g : Nat → Nat → Int32} {a w n v : Int32} (e : ∀ k, g k = f k) (hv : ¬ v = 0) : RWC f g a w n v := fun s _ => by
  rw [if_neg (fun q => hv q.1), if_neg (fun q => hv q.1), e]
  exact ⟨rfl, rfl⟩
theorem RWR_n {f g : Nat → Nat → Int32} {a w n v : Int32} (e : ∀ k, g k = f k) (hv : ¬ v = 0) : RWR f g a w n v := fun s _ => by
  rw [if_neg (fun q => hv q.1), if_neg (fun q => hv q.1), e, e]
  exact ⟨rfl, rfl⟩
theorem RWC_s {f g : Nat → Nat → Int32} {a w n : Int32} {q : Nat} (hq : q = 210 + 2 * a.toInt.toNat) (h : (g q 2 = zmin 60 n ∧ g q 1 = w) ∧ ∀ k, k ≠ q → g k = f k) (hn : n.toInt ≤ 60) : RWC f g a w n 0 := fun s _ => by
  have z : zmin 60 n = n := Int32.toInt_inj.mp (by rw [ti_zmin]; simp only [Int32.reduceToInt]; split <;> omega)
  by_cases e : s = a.toInt.toNat
  · rw [if_pos ⟨rfl, e⟩, if_pos ⟨rfl, e⟩, e, ← hq, h.1.1, z]
    exact ⟨rfl, h.1.2⟩
  · rw [if_neg (fun q => e q.2), if_neg (fun q => e q.2), h.2 _ (by omega)]
    exact ⟨rfl, rfl⟩
theorem upd_at {σ τ : zS} {k i : Nat} {v : Int32} {g : Nat → Int32} (e : τ = zI σ k (upd (σ.1 k) i v)) (hr : σ.1 k = g) : ∀ s, τ.1 k s = if s = i then v else g s := fun s => by
  by_cases q : s = i
  · rw [if_pos q, q]; exact zI_atI e
  · rw [if_neg q, zI_atN e q, hr]
theorem RWR_s {f g : Nat → Nat → Int32} {a w n : Int32} {i : Nat} (hi : i = a.toInt.toNat) (h1 : ∀ s, g 239 s = if s = i then n else f 239 s) (h2 : ∀ s, g 240 s = if s = i then w else f 240 s) : RWR f g a w n 0 := fun s _ => by
  subst hi
  rw [h1, h2]
  by_cases e : s = a.toInt.toNat
  · rw [if_pos e, if_pos e, if_pos ⟨rfl, e⟩, if_pos ⟨rfl, e⟩]; exact ⟨rfl, rfl⟩
  · rw [if_neg e, if_neg e, if_neg (fun q => e q.2), if_neg (fun q => e q.2)]; exact ⟨rfl, rfl⟩
theorem zI_o {σ τ : zS} {k a : Nat} {r : Nat → Int32} (e : τ = zI σ a r) (h : k ≠ a) : τ.1 k = σ.1 k := by
  subst e
  exact va_up_ne σ.1 r h
theorem zT56 : ∀ s, s < 4 → zT 56 s = 210 + 2 * s := by decide
theorem slotC {R : Nat → Nat → Nat} (hR : RF R) {x : Int32} {q : Nat} (h0 : 0 ≤ x.toInt) (h3 : x.toInt ≤ 3) (e : R 56 x.toNatClampNeg = q) : q = 210 + 2 * x.toInt.toNat := by
  rw [← e, hR 56 _ rfl]
  exact zT56 x.toInt.toNat (by omega)
theorem x_X11_isSlot {N : Nat} {x1 : Int32} {σ : zS} : Ok (f_X11_isSlot N 0 x1 σ) (fun r => r.2 = σ ∧ ((r.1 = 0 → ¬ (0 ≤ x1.toInt ∧ x1.toInt ≤ 3)) ∧ (¬ r.1 = 0 → 0 ≤ x1.toInt ∧ x1.toInt ≤ 3))) := by
  rw [f_X11_isSlot.eq_1]
  refine ok_if (fun h => ok_rZ (Or.inl rfl) ⟨rfl, fun _ => ?_, fun q => absurd rfl q⟩) (fun h => ok_if (fun h2 => ok_rZ (Or.inl rfl) ⟨rfl, fun _ => ?_, fun q => absurd rfl q⟩) (fun h2 => ok_rZ (Or.inr rfl) ⟨rfl, fun q => absurd (show (1 : Int32) = 0 from q) (by decide), fun _ => ?_⟩))
  · rw [Int32.lt_iff_toInt_lt] at h; simp only [Int32.reduceToInt] at h; omega
  · rw [Int32.le_iff_toInt_le] at h2; simp only [Int32.reduceToInt] at h2; omega
  · rw [Int32.lt_iff_toInt_lt] at h; rw [Int32.le_iff_toInt_le] at h2; simp only [Int32.reduceToInt] at h h2; omega
theorem x_X12_isSlot {N : Nat} {x0 : Int32} {σ : zS} : Ok (f_X12_isSlot N x0 σ) (fun r => r.2 = σ ∧ ((r.1 = 0 → ¬ (0 ≤ x0.toInt ∧ x0.toInt ≤ 3)) ∧ (¬ r.1 = 0 → 0 ≤ x0.toInt ∧ x0.toInt ≤ 3))) := by
  rw [f_X12_isSlot.eq_1, f_X12_in.eq_1]
  show Ok (zb (if _ then _ else _) _) _
  by_cases h : lg_cmp (Int32.toInt64 x0) 0 < 0
  · rw [if_pos h]
    refine ok_rZ (Or.inl rfl) ⟨rfl, fun _ => ?_, fun q => absurd rfl q⟩
    rw [zcmp_lt, i64_of] at h; simp only [Int64.reduceToInt] at h; omega
  · rw [if_neg h]
    by_cases h2 : 0 < lg_cmp (Int32.toInt64 x0) 3
    · rw [if_pos h2]
      refine ok_rZ (Or.inl rfl) ⟨rfl, fun _ => ?_, fun q => absurd rfl q⟩
      rw [zcmp_gt, i64_of] at h2; simp only [Int64.reduceToInt] at h2; omega
    · rw [if_neg h2]
      refine ok_rZ (Or.inr rfl) ⟨rfl, fun q => absurd (show (1 : Int32) = 0 from q) (by decide), fun _ => ?_⟩
      rw [zcmp_lt, i64_of] at h; rw [zcmp_gt, i64_of] at h2; simp only [Int64.reduceToInt] at h h2; omega

set_option maxHeartbeats 4000000 in
set_option maxRecDepth 100000 in
theorem s_X9_startv {N : Nat} (hN : 1048576 ≤ N) {x0 : Nat} {x1 : Int32} {x2 : Int32} {σ0 : zS}  (hR : RF σ0.2.2) (h_x0 : (zKd x0).1 = 9) (hL : SI σ0.1) : Ok (f_X9_start N x0 x1 x2 σ0) (fun r => Tr [210, 212, 214, 216] σ0 r.2 ∧ (SI r.2.1 ∧ (r.2.1 x0 2 = zmin 60 x2 ∧ r.2.1 x0 1 = x1) ∧ ∀ k, k ≠ x0 → r.2.1 k = σ0.1 k)) := by
  have hT : Tr [210, 212, 214, 216] σ0 σ0 := Tr.rf
  rw [f_X9_start.eq_1]
  refine ok_gR hT h_x0 (slot_R hR h_x0).1 ?_
  refine ok_zbT (Q := fun V σ => True) hT (s_J7_fill_d0a16 hN (hR.tr hT) (slot_R hR h_x0).2 (by decide)) (fun _ h9 => absurd h9 List.not_mem_nil) (fun v2 σ3 hOσ3 hT hqv2 => ?_)
  have hL : SI σ3.1 := SI.tr hOσ3 (by decide) (by decide) (by decide) (by decide) hL
  have f0 : ∀ k, σ3.1 k = σ0.1 k := fun k => hOσ3.2 k List.not_mem_nil
  refine ok_pI hT h_x0 (slotMem h_x0) (fun σ4 eσ4 hOσ4 hT => ?_)
  have a10 := zI_atI eσ4
  have o10 : ∀ k, k ≠ x0 → σ4.1 k = σ0.1 k := fun k hk => (zI_o eσ4 hk).trans (f0 k)
  have hL : SI σ4.1 := SI_p eσ4 (fun q => absurd q (by decide)) hL
  refine ok_pI hT h_x0 (slotMem h_x0) (fun σ5 eσ5 hOσ5 hT => ?_)
  have a20 := zI_atI eσ5
  have b20 := (zI_atN eσ5 (show 1 ≠ 2 by decide)).trans a10
  have o20 : ∀ k, k ≠ x0 → σ5.1 k = σ0.1 k := fun k hk => (zI_o eσ5 hk).trans (o10 k hk)
  have hL : SI σ5.1 := SI_p eσ5 (fun _ => by rw [ti_zmin]; simp only [Int32.reduceToInt]; split <;> omega) hL
  exact ok_some ⟨hT, (show SI σ5.1 ∧ (σ5.1 x0 2 = zmin 60 x2 ∧ σ5.1 x0 1 = x1) ∧ ∀ k, k ≠ x0 → σ5.1 k = σ0.1 k from by exact ⟨hL, ⟨a20, b20⟩, o20⟩)⟩

set_option maxHeartbeats 4000000 in
set_option maxRecDepth 100000 in
theorem s_X11_row_n2v {N : Nat} (hN : 1048576 ≤ N) {x1 : Int32} {x2 : Int32} {x3 : Int32} {σ0 : zS}  (hR : RF σ0.2.2) (hNw : σ0.2.2 0 4 = 2) (hPw : σ0.2.2 0 5 = 28) (hC : CF σ0.1) : Ok (f_X11_row N 0 x1 x2 x3 σ0) (fun r => Tr [210, 212, 214, 216] σ0 r.2 ∧ (CF r.2.1 ∧ r.1 = rowV x1 x2 x3 ∧ RWC σ0.1 r.2.1 x1 x2 x3 r.1)) := by
  have hT : Tr [210, 212, 214, 216] σ0 σ0 := Tr.rf
  obtain ⟨hW2, hW28, hW132, hW158, hW184, hL, hD, hu, ht⟩ := hC
  have hn := hW2.1
  have he := hW2.2.1
  have hD0 := hD
  have hL0 := hL
  have q10 := ti_one10 (x := σ0.1 2 0) hn.1 hn.2
  rw [f_X11_row.eq_1]
  refine ok_gC rfl ?_
  refine ok_zbX (Q := fun V => (V = 0 → ¬ (0 ≤ x1.toInt ∧ x1.toInt ≤ 3)) ∧ (¬ V = 0 → 0 ≤ x1.toInt ∧ x1.toInt ≤ 3)) (x_X11_isSlot) (fun v1 hqv1 => ?_)
  refine ok_if (fun hc3 => ?_) (fun hc3 => ?_)
  · have qhc3 := hqv1.1 hc3
    exact ok_some ⟨hT, (show CF σ0.1 ∧ (-2 : Int32) = rowV x1 x2 x3 ∧ RWC σ0.1 σ0.1 x1 x2 x3 (-2 : Int32) from by first | exact ⟨⟨hW2, hW28, hW132, hW158, hW184, hL, hD, hu, ht⟩, by (first | exact (if_neg (by first | omega | (simp only [Int32.le_iff_toInt_le, Int32.lt_iff_toInt_lt, ti_add, ti_sub, ti_mul, Int32.reduceToInt] at *; omega))).symm | exact ((if_pos (by first | omega | (simp only [Int32.le_iff_toInt_le, Int32.lt_iff_toInt_lt, ti_add, ti_sub, ti_mul, Int32.reduceToInt] at *; omega))).trans (if_neg (by first | omega | (simp only [Int32.le_iff_toInt_le, Int32.lt_iff_toInt_lt, ti_add, ti_sub, ti_mul, Int32.reduceToInt] at *; omega)))).symm | exact ((if_pos (by first | omega | (simp only [Int32.le_iff_toInt_le, Int32.lt_iff_toInt_lt, ti_add, ti_sub, ti_mul, Int32.reduceToInt] at *; omega))).trans (if_pos (by first | omega | (simp only [Int32.le_iff_toInt_le, Int32.lt_iff_toInt_lt, ti_add, ti_sub, ti_mul, Int32.reduceToInt] at *; omega)))).symm), RWC_n (fun _ => rfl) (by decide)⟩ | exact ⟨⟨hW2, hW28, hW132, hW158, hW184, hL, hD, hu, ht⟩, by (first | exact (if_neg (by first | omega | (simp only [Int32.le_iff_toInt_le, Int32.lt_iff_toInt_lt, ti_add, ti_sub, ti_mul, Int32.reduceToInt] at *; omega))).symm | exact ((if_pos (by first | omega | (simp only [Int32.le_iff_toInt_le, Int32.lt_iff_toInt_lt, ti_add, ti_sub, ti_mul, Int32.reduceToInt] at *; omega))).trans (if_neg (by first | omega | (simp only [Int32.le_iff_toInt_le, Int32.lt_iff_toInt_lt, ti_add, ti_sub, ti_mul, Int32.reduceToInt] at *; omega)))).symm | exact ((if_pos (by first | omega | (simp only [Int32.le_iff_toInt_le, Int32.lt_iff_toInt_lt, ti_add, ti_sub, ti_mul, Int32.reduceToInt] at *; omega))).trans (if_pos (by first | omega | (simp only [Int32.le_iff_toInt_le, Int32.lt_iff_toInt_lt, ti_add, ti_sub, ti_mul, Int32.reduceToInt] at *; omega)))).symm), RWC_s hqq h41 (by first | omega | (simp only [Int32.le_iff_toInt_le, Int32.lt_iff_toInt_lt, ti_add, ti_sub, ti_mul, Int32.reduceToInt] at *; omega))⟩)⟩
  · have qhc3 := hqv1.2 hc3
    refine ok_if (fun hc4 => ?_) (fun hc4 => ?_)
    · exact ok_some ⟨hT, (show CF σ0.1 ∧ (-2 : Int32) = rowV x1 x2 x3 ∧ RWC σ0.1 σ0.1 x1 x2 x3 (-2 : Int32) from by first | exact ⟨⟨hW2, hW28, hW132, hW158, hW184, hL, hD, hu, ht⟩, by (first | exact (if_neg (by first | omega | (simp only [Int32.le_iff_toInt_le, Int32.lt_iff_toInt_lt, ti_add, ti_sub, ti_mul, Int32.reduceToInt] at *; omega))).symm | exact ((if_pos (by first | omega | (simp only [Int32.le_iff_toInt_le, Int32.lt_iff_toInt_lt, ti_add, ti_sub, ti_mul, Int32.reduceToInt] at *; omega))).trans (if_neg (by first | omega | (simp only [Int32.le_iff_toInt_le, Int32.lt_iff_toInt_lt, ti_add, ti_sub, ti_mul, Int32.reduceToInt] at *; omega)))).symm | exact ((if_pos (by first | omega | (simp only [Int32.le_iff_toInt_le, Int32.lt_iff_toInt_lt, ti_add, ti_sub, ti_mul, Int32.reduceToInt] at *; omega))).trans (if_pos (by first | omega | (simp only [Int32.le_iff_toInt_le, Int32.lt_iff_toInt_lt, ti_add, ti_sub, ti_mul, Int32.reduceToInt] at *; omega)))).symm), RWC_n (fun _ => rfl) (by decide)⟩ | exact ⟨⟨hW2, hW28, hW132, hW158, hW184, hL, hD, hu, ht⟩, by (first | exact (if_neg (by first | omega | (simp only [Int32.le_iff_toInt_le, Int32.lt_iff_toInt_lt, ti_add, ti_sub, ti_mul, Int32.reduceToInt] at *; omega))).symm | exact ((if_pos (by first | omega | (simp only [Int32.le_iff_toInt_le, Int32.lt_iff_toInt_lt, ti_add, ti_sub, ti_mul, Int32.reduceToInt] at *; omega))).trans (if_neg (by first | omega | (simp only [Int32.le_iff_toInt_le, Int32.lt_iff_toInt_lt, ti_add, ti_sub, ti_mul, Int32.reduceToInt] at *; omega)))).symm | exact ((if_pos (by first | omega | (simp only [Int32.le_iff_toInt_le, Int32.lt_iff_toInt_lt, ti_add, ti_sub, ti_mul, Int32.reduceToInt] at *; omega))).trans (if_pos (by first | omega | (simp only [Int32.le_iff_toInt_le, Int32.lt_iff_toInt_lt, ti_add, ti_sub, ti_mul, Int32.reduceToInt] at *; omega)))).symm), RWC_s hqq h41 (by first | omega | (simp only [Int32.le_iff_toInt_le, Int32.lt_iff_toInt_lt, ti_add, ti_sub, ti_mul, Int32.reduceToInt] at *; omega))⟩)⟩
    · refine ok_if (fun hc5 => ?_) (fun hc5 => ?_)
      · exact ok_some ⟨hT, (show CF σ0.1 ∧ (-2 : Int32) = rowV x1 x2 x3 ∧ RWC σ0.1 σ0.1 x1 x2 x3 (-2 : Int32) from by first | exact ⟨⟨hW2, hW28, hW132, hW158, hW184, hL, hD, hu, ht⟩, by (first | exact (if_neg (by first | omega | (simp only [Int32.le_iff_toInt_le, Int32.lt_iff_toInt_lt, ti_add, ti_sub, ti_mul, Int32.reduceToInt] at *; omega))).symm | exact ((if_pos (by first | omega | (simp only [Int32.le_iff_toInt_le, Int32.lt_iff_toInt_lt, ti_add, ti_sub, ti_mul, Int32.reduceToInt] at *; omega))).trans (if_neg (by first | omega | (simp only [Int32.le_iff_toInt_le, Int32.lt_iff_toInt_lt, ti_add, ti_sub, ti_mul, Int32.reduceToInt] at *; omega)))).symm | exact ((if_pos (by first | omega | (simp only [Int32.le_iff_toInt_le, Int32.lt_iff_toInt_lt, ti_add, ti_sub, ti_mul, Int32.reduceToInt] at *; omega))).trans (if_pos (by first | omega | (simp only [Int32.le_iff_toInt_le, Int32.lt_iff_toInt_lt, ti_add, ti_sub, ti_mul, Int32.reduceToInt] at *; omega)))).symm), RWC_n (fun _ => rfl) (by decide)⟩ | exact ⟨⟨hW2, hW28, hW132, hW158, hW184, hL, hD, hu, ht⟩, by (first | exact (if_neg (by first | omega | (simp only [Int32.le_iff_toInt_le, Int32.lt_iff_toInt_lt, ti_add, ti_sub, ti_mul, Int32.reduceToInt] at *; omega))).symm | exact ((if_pos (by first | omega | (simp only [Int32.le_iff_toInt_le, Int32.lt_iff_toInt_lt, ti_add, ti_sub, ti_mul, Int32.reduceToInt] at *; omega))).trans (if_neg (by first | omega | (simp only [Int32.le_iff_toInt_le, Int32.lt_iff_toInt_lt, ti_add, ti_sub, ti_mul, Int32.reduceToInt] at *; omega)))).symm | exact ((if_pos (by first | omega | (simp only [Int32.le_iff_toInt_le, Int32.lt_iff_toInt_lt, ti_add, ti_sub, ti_mul, Int32.reduceToInt] at *; omega))).trans (if_pos (by first | omega | (simp only [Int32.le_iff_toInt_le, Int32.lt_iff_toInt_lt, ti_add, ti_sub, ti_mul, Int32.reduceToInt] at *; omega)))).symm), RWC_s hqq h41 (by first | omega | (simp only [Int32.le_iff_toInt_le, Int32.lt_iff_toInt_lt, ti_add, ti_sub, ti_mul, Int32.reduceToInt] at *; omega))⟩)⟩
      · refine ok_if (fun hc6 => ?_) (fun hc6 => ?_)
        · refine ok_if (fun hc7 => ?_) (fun hc7 => ?_)
          · refine ok_gR (v := 56) hT rfl (hR 0 8 rfl) ?_
            obtain ⟨q10, eq10, kq10⟩ := arrS hR (k := 56) (i := x1) rfl (by first | omega | decide | (have q1 := hD.1; have q2 := hD.2.1; simp only [Int32.le_iff_toInt_le, Int32.lt_iff_toInt_lt, ti_add, ti_sub, ti_mul, Int32.reduceToInt] at *; omega)) (by first | omega | decide | (have q1 := hD.1; have q2 := hD.2.1; simp only [Int32.le_iff_toInt_le, Int32.lt_iff_toInt_lt, ti_add, ti_sub, ti_mul, Int32.reduceToInt] at *; omega))
            refine ok_aR (v := q10) hT rfl (by first | omega | decide | (have q1 := hD.1; have q2 := hD.2.1; simp only [Int32.le_iff_toInt_le, Int32.lt_iff_toInt_lt, ti_add, ti_sub, ti_mul, Int32.reduceToInt] at *; omega)) (by first | omega | decide | (have q1 := hD.1; have q2 := hD.2.1; simp only [Int32.le_iff_toInt_le, Int32.lt_iff_toInt_lt, ti_add, ti_sub, ti_mul, Int32.reduceToInt] at *; omega)) eq10 ?_
            have hqq := slotC hR (x := x1) (by omega) (by omega) eq10
            refine ok_gC kq10 ?_
            refine ok_zbT (Q := fun V σ => SI σ.1 ∧ (σ.1 q10 2 = zmin 60 x3 ∧ σ.1 q10 1 = x2) ∧ ∀ k, k ≠ q10 → σ.1 k = σ0.1 k) hT (s_X9_startv hN (hR.tr hT) kq10 (hL)) (by decide) (fun v11 σ12 hOσ12 hT hqv11 => ?_)
            have hqv11 : SI σ12.1 ∧ (σ12.1 q10 2 = zmin 60 x3 ∧ σ12.1 q10 1 = x2) ∧ ∀ k, k ≠ q10 → σ12.1 k = σ0.1 k := hqv11
            have hW2 : WI 2 σ12.1 := WI.tr hOσ12 (by decide) (by decide) (by decide) hW2
            have hW28 : WI 28 σ12.1 := WI.tr hOσ12 (by decide) (by decide) (by decide) hW28
            have hW132 : WI 132 σ12.1 := WI.tr hOσ12 (by decide) (by decide) (by decide) hW132
            have hW158 : WI 158 σ12.1 := WI.tr hOσ12 (by decide) (by decide) (by decide) hW158
            have hW184 : WI 184 σ12.1 := WI.tr hOσ12 (by decide) (by decide) (by decide) hW184
            have hL : SI σ12.1 := hqv11.1
            have hD : RD σ12.1 := RD.tr hOσ12 (by decide) (by decide) (by decide) (by decide) hD
            have hu : 2 ≤ (σ12.1 111 8).toInt ∧ (σ12.1 111 8).toInt ≤ 1600 := by rw [hOσ12.2 111 (by decide)] <;> exact hu
            have ht : 0 ≤ (σ12.1 0 1).toInt ∧ (σ12.1 0 1).toInt ≤ 600 := by rw [hOσ12.2 0 (by decide)] <;> exact ht
            have h41 := hqv11.2
            exact ok_some ⟨hT, (show CF σ12.1 ∧ (0 : Int32) = rowV x1 x2 x3 ∧ RWC σ0.1 σ12.1 x1 x2 x3 (0 : Int32) from by first | exact ⟨⟨hW2, hW28, hW132, hW158, hW184, hL, hD, hu, ht⟩, by (first | exact (if_neg (by first | omega | (simp only [Int32.le_iff_toInt_le, Int32.lt_iff_toInt_lt, ti_add, ti_sub, ti_mul, Int32.reduceToInt] at *; omega))).symm | exact ((if_pos (by first | omega | (simp only [Int32.le_iff_toInt_le, Int32.lt_iff_toInt_lt, ti_add, ti_sub, ti_mul, Int32.reduceToInt] at *; omega))).trans (if_neg (by first | omega | (simp only [Int32.le_iff_toInt_le, Int32.lt_iff_toInt_lt, ti_add, ti_sub, ti_mul, Int32.reduceToInt] at *; omega)))).symm | exact ((if_pos (by first | omega | (simp only [Int32.le_iff_toInt_le, Int32.lt_iff_toInt_lt, ti_add, ti_sub, ti_mul, Int32.reduceToInt] at *; omega))).trans (if_pos (by first | omega | (simp only [Int32.le_iff_toInt_le, Int32.lt_iff_toInt_lt, ti_add, ti_sub, ti_mul, Int32.reduceToInt] at *; omega)))).symm), RWC_n (fun _ => rfl) (by decide)⟩ | exact ⟨⟨hW2, hW28, hW132, hW158, hW184, hL, hD, hu, ht⟩, by (first | exact (if_neg (by first | omega | (simp only [Int32.le_iff_toInt_le, Int32.lt_iff_toInt_lt, ti_add, ti_sub, ti_mul, Int32.reduceToInt] at *; omega))).symm | exact ((if_pos (by first | omega | (simp only [Int32.le_iff_toInt_le, Int32.lt_iff_toInt_lt, ti_add, ti_sub, ti_mul, Int32.reduceToInt] at *; omega))).trans (if_neg (by first | omega | (simp only [Int32.le_iff_toInt_le, Int32.lt_iff_toInt_lt, ti_add, ti_sub, ti_mul, Int32.reduceToInt] at *; omega)))).symm | exact ((if_pos (by first | omega | (simp only [Int32.le_iff_toInt_le, Int32.lt_iff_toInt_lt, ti_add, ti_sub, ti_mul, Int32.reduceToInt] at *; omega))).trans (if_pos (by first | omega | (simp only [Int32.le_iff_toInt_le, Int32.lt_iff_toInt_lt, ti_add, ti_sub, ti_mul, Int32.reduceToInt] at *; omega)))).symm), RWC_s hqq h41 (by first | omega | (simp only [Int32.le_iff_toInt_le, Int32.lt_iff_toInt_lt, ti_add, ti_sub, ti_mul, Int32.reduceToInt] at *; omega))⟩)⟩
          · exact ok_some ⟨hT, (show CF σ0.1 ∧ (-3 : Int32) = rowV x1 x2 x3 ∧ RWC σ0.1 σ0.1 x1 x2 x3 (-3 : Int32) from by first | exact ⟨⟨hW2, hW28, hW132, hW158, hW184, hL, hD, hu, ht⟩, by (first | exact (if_neg (by first | omega | (simp only [Int32.le_iff_toInt_le, Int32.lt_iff_toInt_lt, ti_add, ti_sub, ti_mul, Int32.reduceToInt] at *; omega))).symm | exact ((if_pos (by first | omega | (simp only [Int32.le_iff_toInt_le, Int32.lt_iff_toInt_lt, ti_add, ti_sub, ti_mul, Int32.reduceToInt] at *; omega))).trans (if_neg (by first | omega | (simp only [Int32.le_iff_toInt_le, Int32.lt_iff_toInt_lt, ti_add, ti_sub, ti_mul, Int32.reduceToInt] at *; omega)))).symm | exact ((if_pos (by first | omega | (simp only [Int32.le_iff_toInt_le, Int32.lt_iff_toInt_lt, ti_add, ti_sub, ti_mul, Int32.reduceToInt] at *; omega))).trans (if_pos (by first | omega | (simp only [Int32.le_iff_toInt_le, Int32.lt_iff_toInt_lt, ti_add, ti_sub, ti_mul, Int32.reduceToInt] at *; omega)))).symm), RWC_n (fun _ => rfl) (by decide)⟩ | exact ⟨⟨hW2, hW28, hW132, hW158, hW184, hL, hD, hu, ht⟩, by (first | exact (if_neg (by first | omega | (simp only [Int32.le_iff_toInt_le, Int32.lt_iff_toInt_lt, ti_add, ti_sub, ti_mul, Int32.reduceToInt] at *; omega))).symm | exact ((if_pos (by first | omega | (simp only [Int32.le_iff_toInt_le, Int32.lt_iff_toInt_lt, ti_add, ti_sub, ti_mul, Int32.reduceToInt] at *; omega))).trans (if_neg (by first | omega | (simp only [Int32.le_iff_toInt_le, Int32.lt_iff_toInt_lt, ti_add, ti_sub, ti_mul, Int32.reduceToInt] at *; omega)))).symm | exact ((if_pos (by first | omega | (simp only [Int32.le_iff_toInt_le, Int32.lt_iff_toInt_lt, ti_add, ti_sub, ti_mul, Int32.reduceToInt] at *; omega))).trans (if_pos (by first | omega | (simp only [Int32.le_iff_toInt_le, Int32.lt_iff_toInt_lt, ti_add, ti_sub, ti_mul, Int32.reduceToInt] at *; omega)))).symm), RWC_s hqq h41 (by first | omega | (simp only [Int32.le_iff_toInt_le, Int32.lt_iff_toInt_lt, ti_add, ti_sub, ti_mul, Int32.reduceToInt] at *; omega))⟩)⟩
        · exact ok_some ⟨hT, (show CF σ0.1 ∧ (-2 : Int32) = rowV x1 x2 x3 ∧ RWC σ0.1 σ0.1 x1 x2 x3 (-2 : Int32) from by first | exact ⟨⟨hW2, hW28, hW132, hW158, hW184, hL, hD, hu, ht⟩, by (first | exact (if_neg (by first | omega | (simp only [Int32.le_iff_toInt_le, Int32.lt_iff_toInt_lt, ti_add, ti_sub, ti_mul, Int32.reduceToInt] at *; omega))).symm | exact ((if_pos (by first | omega | (simp only [Int32.le_iff_toInt_le, Int32.lt_iff_toInt_lt, ti_add, ti_sub, ti_mul, Int32.reduceToInt] at *; omega))).trans (if_neg (by first | omega | (simp only [Int32.le_iff_toInt_le, Int32.lt_iff_toInt_lt, ti_add, ti_sub, ti_mul, Int32.reduceToInt] at *; omega)))).symm | exact ((if_pos (by first | omega | (simp only [Int32.le_iff_toInt_le, Int32.lt_iff_toInt_lt, ti_add, ti_sub, ti_mul, Int32.reduceToInt] at *; omega))).trans (if_pos (by first | omega | (simp only [Int32.le_iff_toInt_le, Int32.lt_iff_toInt_lt, ti_add, ti_sub, ti_mul, Int32.reduceToInt] at *; omega)))).symm), RWC_n (fun _ => rfl) (by decide)⟩ | exact ⟨⟨hW2, hW28, hW132, hW158, hW184, hL, hD, hu, ht⟩, by (first | exact (if_neg (by first | omega | (simp only [Int32.le_iff_toInt_le, Int32.lt_iff_toInt_lt, ti_add, ti_sub, ti_mul, Int32.reduceToInt] at *; omega))).symm | exact ((if_pos (by first | omega | (simp only [Int32.le_iff_toInt_le, Int32.lt_iff_toInt_lt, ti_add, ti_sub, ti_mul, Int32.reduceToInt] at *; omega))).trans (if_neg (by first | omega | (simp only [Int32.le_iff_toInt_le, Int32.lt_iff_toInt_lt, ti_add, ti_sub, ti_mul, Int32.reduceToInt] at *; omega)))).symm | exact ((if_pos (by first | omega | (simp only [Int32.le_iff_toInt_le, Int32.lt_iff_toInt_lt, ti_add, ti_sub, ti_mul, Int32.reduceToInt] at *; omega))).trans (if_pos (by first | omega | (simp only [Int32.le_iff_toInt_le, Int32.lt_iff_toInt_lt, ti_add, ti_sub, ti_mul, Int32.reduceToInt] at *; omega)))).symm), RWC_s hqq h41 (by first | omega | (simp only [Int32.le_iff_toInt_le, Int32.lt_iff_toInt_lt, ti_add, ti_sub, ti_mul, Int32.reduceToInt] at *; omega))⟩)⟩

set_option maxHeartbeats 4000000 in
set_option maxRecDepth 100000 in
theorem s_X11_row_n28v {N : Nat} (hN : 1048576 ≤ N) {x1 : Int32} {x2 : Int32} {x3 : Int32} {σ0 : zS}  (hR : RF σ0.2.2) (hNw : σ0.2.2 0 4 = 28) (hPw : σ0.2.2 0 5 = 2) (hC : CF σ0.1) : Ok (f_X11_row N 0 x1 x2 x3 σ0) (fun r => Tr [210, 212, 214, 216] σ0 r.2 ∧ (CF r.2.1 ∧ r.1 = rowV x1 x2 x3 ∧ RWC σ0.1 r.2.1 x1 x2 x3 r.1)) := by
  have hT : Tr [210, 212, 214, 216] σ0 σ0 := Tr.rf
  obtain ⟨hW2, hW28, hW132, hW158, hW184, hL, hD, hu, ht⟩ := hC
  have hn := hW28.1
  have he := hW28.2.1
  have hD0 := hD
  have hL0 := hL
  have q10 := ti_one10 (x := σ0.1 28 0) hn.1 hn.2
  rw [f_X11_row.eq_1]
  refine ok_gC rfl ?_
  refine ok_zbX (Q := fun V => (V = 0 → ¬ (0 ≤ x1.toInt ∧ x1.toInt ≤ 3)) ∧ (¬ V = 0 → 0 ≤ x1.toInt ∧ x1.toInt ≤ 3)) (x_X11_isSlot) (fun v1 hqv1 => ?_)
  refine ok_if (fun hc3 => ?_) (fun hc3 => ?_)
  · have qhc3 := hqv1.1 hc3
    exact ok_some ⟨hT, (show CF σ0.1 ∧ (-2 : Int32) = rowV x1 x2 x3 ∧ RWC σ0.1 σ0.1 x1 x2 x3 (-2 : Int32) from by first | exact ⟨⟨hW2, hW28, hW132, hW158, hW184, hL, hD, hu, ht⟩, by (first | exact (if_neg (by first | omega | (simp only [Int32.le_iff_toInt_le, Int32.lt_iff_toInt_lt, ti_add, ti_sub, ti_mul, Int32.reduceToInt] at *; omega))).symm | exact ((if_pos (by first | omega | (simp only [Int32.le_iff_toInt_le, Int32.lt_iff_toInt_lt, ti_add, ti_sub, ti_mul, Int32.reduceToInt] at *; omega))).trans (if_neg (by first | omega | (simp only [Int32.le_iff_toInt_le, Int32.lt_iff_toInt_lt, ti_add, ti_sub, ti_mul, Int32.reduceToInt] at *; omega)))).symm | exact ((if_pos (by first | omega | (simp only [Int32.le_iff_toInt_le, Int32.lt_iff_toInt_lt, ti_add, ti_sub, ti_mul, Int32.reduceToInt] at *; omega))).trans (if_pos (by first | omega | (simp only [Int32.le_iff_toInt_le, Int32.lt_iff_toInt_lt, ti_add, ti_sub, ti_mul, Int32.reduceToInt] at *; omega)))).symm), RWC_n (fun _ => rfl) (by decide)⟩ | exact ⟨⟨hW2, hW28, hW132, hW158, hW184, hL, hD, hu, ht⟩, by (first | exact (if_neg (by first | omega | (simp only [Int32.le_iff_toInt_le, Int32.lt_iff_toInt_lt, ti_add, ti_sub, ti_mul, Int32.reduceToInt] at *; omega))).symm | exact ((if_pos (by first | omega | (simp only [Int32.le_iff_toInt_le, Int32.lt_iff_toInt_lt, ti_add, ti_sub, ti_mul, Int32.reduceToInt] at *; omega))).trans (if_neg (by first | omega | (simp only [Int32.le_iff_toInt_le, Int32.lt_iff_toInt_lt, ti_add, ti_sub, ti_mul, Int32.reduceToInt] at *; omega)))).symm | exact ((if_pos (by first | omega | (simp only [Int32.le_iff_toInt_le, Int32.lt_iff_toInt_lt, ti_add, ti_sub, ti_mul, Int32.reduceToInt] at *; omega))).trans (if_pos (by first | omega | (simp only [Int32.le_iff_toInt_le, Int32.lt_iff_toInt_lt, ti_add, ti_sub, ti_mul, Int32.reduceToInt] at *; omega)))).symm), RWC_s hqq h41 (by first | omega | (simp only [Int32.le_iff_toInt_le, Int32.lt_iff_toInt_lt, ti_add, ti_sub, ti_mul, Int32.reduceToInt] at *; omega))⟩)⟩
  · have qhc3 := hqv1.2 hc3
    refine ok_if (fun hc4 => ?_) (fun hc4 => ?_)
    · exact ok_some ⟨hT, (show CF σ0.1 ∧ (-2 : Int32) = rowV x1 x2 x3 ∧ RWC σ0.1 σ0.1 x1 x2 x3 (-2 : Int32) from by first | exact ⟨⟨hW2, hW28, hW132, hW158, hW184, hL, hD, hu, ht⟩, by (first | exact (if_neg (by first | omega | (simp only [Int32.le_iff_toInt_le, Int32.lt_iff_toInt_lt, ti_add, ti_sub, ti_mul, Int32.reduceToInt] at *; omega))).symm | exact ((if_pos (by first | omega | (simp only [Int32.le_iff_toInt_le, Int32.lt_iff_toInt_lt, ti_add, ti_sub, ti_mul, Int32.reduceToInt] at *; omega))).trans (if_neg (by first | omega | (simp only [Int32.le_iff_toInt_le, Int32.lt_iff_toInt_lt, ti_add, ti_sub, ti_mul, Int32.reduceToInt] at *; omega)))).symm | exact ((if_pos (by first | omega | (simp only [Int32.le_iff_toInt_le, Int32.lt_iff_toInt_lt, ti_add, ti_sub, ti_mul, Int32.reduceToInt] at *; omega))).trans (if_pos (by first | omega | (simp only [Int32.le_iff_toInt_le, Int32.lt_iff_toInt_lt, ti_add, ti_sub, ti_mul, Int32.reduceToInt] at *; omega)))).symm), RWC_n (fun _ => rfl) (by decide)⟩ | exact ⟨⟨hW2, hW28, hW132, hW158, hW184, hL, hD, hu, ht⟩, by (first | exact (if_neg (by first | omega | (simp only [Int32.le_iff_toInt_le, Int32.lt_iff_toInt_lt, ti_add, ti_sub, ti_mul, Int32.reduceToInt] at *; omega))).symm | exact ((if_pos (by first | omega | (simp only [Int32.le_iff_toInt_le, Int32.lt_iff_toInt_lt, ti_add, ti_sub, ti_mul, Int32.reduceToInt] at *; omega))).trans (if_neg (by first | omega | (simp only [Int32.le_iff_toInt_le, Int32.lt_iff_toInt_lt, ti_add, ti_sub, ti_mul, Int32.reduceToInt] at *; omega)))).symm | exact ((if_pos (by first | omega | (simp only [Int32.le_iff_toInt_le, Int32.lt_iff_toInt_lt, ti_add, ti_sub, ti_mul, Int32.reduceToInt] at *; omega))).trans (if_pos (by first | omega | (simp only [Int32.le_iff_toInt_le, Int32.lt_iff_toInt_lt, ti_add, ti_sub, ti_mul, Int32.reduceToInt] at *; omega)))).symm), RWC_s hqq h41 (by first | omega | (simp only [Int32.le_iff_toInt_le, Int32.lt_iff_toInt_lt, ti_add, ti_sub, ti_mul, Int32.reduceToInt] at *; omega))⟩)⟩
    · refine ok_if (fun hc5 => ?_) (fun hc5 => ?_)
      · exact ok_some ⟨hT, (show CF σ0.1 ∧ (-2 : Int32) = rowV x1 x2 x3 ∧ RWC σ0.1 σ0.1 x1 x2 x3 (-2 : Int32) from by first | exact ⟨⟨hW2, hW28, hW132, hW158, hW184, hL, hD, hu, ht⟩, by (first | exact (if_neg (by first | omega | (simp only [Int32.le_iff_toInt_le, Int32.lt_iff_toInt_lt, ti_add, ti_sub, ti_mul, Int32.reduceToInt] at *; omega))).symm | exact ((if_pos (by first | omega | (simp only [Int32.le_iff_toInt_le, Int32.lt_iff_toInt_lt, ti_add, ti_sub, ti_mul, Int32.reduceToInt] at *; omega))).trans (if_neg (by first | omega | (simp only [Int32.le_iff_toInt_le, Int32.lt_iff_toInt_lt, ti_add, ti_sub, ti_mul, Int32.reduceToInt] at *; omega)))).symm | exact ((if_pos (by first | omega | (simp only [Int32.le_iff_toInt_le, Int32.lt_iff_toInt_lt, ti_add, ti_sub, ti_mul, Int32.reduceToInt] at *; omega))).trans (if_pos (by first | omega | (simp only [Int32.le_iff_toInt_le, Int32.lt_iff_toInt_lt, ti_add, ti_sub, ti_mul, Int32.reduceToInt] at *; omega)))).symm), RWC_n (fun _ => rfl) (by decide)⟩ | exact ⟨⟨hW2, hW28, hW132, hW158, hW184, hL, hD, hu, ht⟩, by (first | exact (if_neg (by first | omega | (simp only [Int32.le_iff_toInt_le, Int32.lt_iff_toInt_lt, ti_add, ti_sub, ti_mul, Int32.reduceToInt] at *; omega))).symm | exact ((if_pos (by first | omega | (simp only [Int32.le_iff_toInt_le, Int32.lt_iff_toInt_lt, ti_add, ti_sub, ti_mul, Int32.reduceToInt] at *; omega))).trans (if_neg (by first | omega | (simp only [Int32.le_iff_toInt_le, Int32.lt_iff_toInt_lt, ti_add, ti_sub, ti_mul, Int32.reduceToInt] at *; omega)))).symm | exact ((if_pos (by first | omega | (simp only [Int32.le_iff_toInt_le, Int32.lt_iff_toInt_lt, ti_add, ti_sub, ti_mul, Int32.reduceToInt] at *; omega))).trans (if_pos (by first | omega | (simp only [Int32.le_iff_toInt_le, Int32.lt_iff_toInt_lt, ti_add, ti_sub, ti_mul, Int32.reduceToInt] at *; omega)))).symm), RWC_s hqq h41 (by first | omega | (simp only [Int32.le_iff_toInt_le, Int32.lt_iff_toInt_lt, ti_add, ti_sub, ti_mul, Int32.reduceToInt] at *; omega))⟩)⟩
      · refine ok_if (fun hc6 => ?_) (fun hc6 => ?_)
        · refine ok_if (fun hc7 => ?_) (fun hc7 => ?_)
          · refine ok_gR (v := 56) hT rfl (hR 0 8 rfl) ?_
            obtain ⟨q10, eq10, kq10⟩ := arrS hR (k := 56) (i := x1) rfl (by first | omega | decide | (have q1 := hD.1; have q2 := hD.2.1; simp only [Int32.le_iff_toInt_le, Int32.lt_iff_toInt_lt, ti_add, ti_sub, ti_mul, Int32.reduceToInt] at *; omega)) (by first | omega | decide | (have q1 := hD.1; have q2 := hD.2.1; simp only [Int32.le_iff_toInt_le, Int32.lt_iff_toInt_lt, ti_add, ti_sub, ti_mul, Int32.reduceToInt] at *; omega))
            refine ok_aR (v := q10) hT rfl (by first | omega | decide | (have q1 := hD.1; have q2 := hD.2.1; simp only [Int32.le_iff_toInt_le, Int32.lt_iff_toInt_lt, ti_add, ti_sub, ti_mul, Int32.reduceToInt] at *; omega)) (by first | omega | decide | (have q1 := hD.1; have q2 := hD.2.1; simp only [Int32.le_iff_toInt_le, Int32.lt_iff_toInt_lt, ti_add, ti_sub, ti_mul, Int32.reduceToInt] at *; omega)) eq10 ?_
            have hqq := slotC hR (x := x1) (by omega) (by omega) eq10
            refine ok_gC kq10 ?_
            refine ok_zbT (Q := fun V σ => SI σ.1 ∧ (σ.1 q10 2 = zmin 60 x3 ∧ σ.1 q10 1 = x2) ∧ ∀ k, k ≠ q10 → σ.1 k = σ0.1 k) hT (s_X9_startv hN (hR.tr hT) kq10 (hL)) (by decide) (fun v11 σ12 hOσ12 hT hqv11 => ?_)
            have hqv11 : SI σ12.1 ∧ (σ12.1 q10 2 = zmin 60 x3 ∧ σ12.1 q10 1 = x2) ∧ ∀ k, k ≠ q10 → σ12.1 k = σ0.1 k := hqv11
            have hW2 : WI 2 σ12.1 := WI.tr hOσ12 (by decide) (by decide) (by decide) hW2
            have hW28 : WI 28 σ12.1 := WI.tr hOσ12 (by decide) (by decide) (by decide) hW28
            have hW132 : WI 132 σ12.1 := WI.tr hOσ12 (by decide) (by decide) (by decide) hW132
            have hW158 : WI 158 σ12.1 := WI.tr hOσ12 (by decide) (by decide) (by decide) hW158
            have hW184 : WI 184 σ12.1 := WI.tr hOσ12 (by decide) (by decide) (by decide) hW184
            have hL : SI σ12.1 := hqv11.1
            have hD : RD σ12.1 := RD.tr hOσ12 (by decide) (by decide) (by decide) (by decide) hD
            have hu : 2 ≤ (σ12.1 111 8).toInt ∧ (σ12.1 111 8).toInt ≤ 1600 := by rw [hOσ12.2 111 (by decide)] <;> exact hu
            have ht : 0 ≤ (σ12.1 0 1).toInt ∧ (σ12.1 0 1).toInt ≤ 600 := by rw [hOσ12.2 0 (by decide)] <;> exact ht
            have h41 := hqv11.2
            exact ok_some ⟨hT, (show CF σ12.1 ∧ (0 : Int32) = rowV x1 x2 x3 ∧ RWC σ0.1 σ12.1 x1 x2 x3 (0 : Int32) from by first | exact ⟨⟨hW2, hW28, hW132, hW158, hW184, hL, hD, hu, ht⟩, by (first | exact (if_neg (by first | omega | (simp only [Int32.le_iff_toInt_le, Int32.lt_iff_toInt_lt, ti_add, ti_sub, ti_mul, Int32.reduceToInt] at *; omega))).symm | exact ((if_pos (by first | omega | (simp only [Int32.le_iff_toInt_le, Int32.lt_iff_toInt_lt, ti_add, ti_sub, ti_mul, Int32.reduceToInt] at *; omega))).trans (if_neg (by first | omega | (simp only [Int32.le_iff_toInt_le, Int32.lt_iff_toInt_lt, ti_add, ti_sub, ti_mul, Int32.reduceToInt] at *; omega)))).symm | exact ((if_pos (by first | omega | (simp only [Int32.le_iff_toInt_le, Int32.lt_iff_toInt_lt, ti_add, ti_sub, ti_mul, Int32.reduceToInt] at *; omega))).trans (if_pos (by first | omega | (simp only [Int32.le_iff_toInt_le, Int32.lt_iff_toInt_lt, ti_add, ti_sub, ti_mul, Int32.reduceToInt] at *; omega)))).symm), RWC_n (fun _ => rfl) (by decide)⟩ | exact ⟨⟨hW2, hW28, hW132, hW158, hW184, hL, hD, hu, ht⟩, by (first | exact (if_neg (by first | omega | (simp only [Int32.le_iff_toInt_le, Int32.lt_iff_toInt_lt, ti_add, ti_sub, ti_mul, Int32.reduceToInt] at *; omega))).symm | exact ((if_pos (by first | omega | (simp only [Int32.le_iff_toInt_le, Int32.lt_iff_toInt_lt, ti_add, ti_sub, ti_mul, Int32.reduceToInt] at *; omega))).trans (if_neg (by first | omega | (simp only [Int32.le_iff_toInt_le, Int32.lt_iff_toInt_lt, ti_add, ti_sub, ti_mul, Int32.reduceToInt] at *; omega)))).symm | exact ((if_pos (by first | omega | (simp only [Int32.le_iff_toInt_le, Int32.lt_iff_toInt_lt, ti_add, ti_sub, ti_mul, Int32.reduceToInt] at *; omega))).trans (if_pos (by first | omega | (simp only [Int32.le_iff_toInt_le, Int32.lt_iff_toInt_lt, ti_add, ti_sub, ti_mul, Int32.reduceToInt] at *; omega)))).symm), RWC_s hqq h41 (by first | omega | (simp only [Int32.le_iff_toInt_le, Int32.lt_iff_toInt_lt, ti_add, ti_sub, ti_mul, Int32.reduceToInt] at *; omega))⟩)⟩
          · exact ok_some ⟨hT, (show CF σ0.1 ∧ (-3 : Int32) = rowV x1 x2 x3 ∧ RWC σ0.1 σ0.1 x1 x2 x3 (-3 : Int32) from by first | exact ⟨⟨hW2, hW28, hW132, hW158, hW184, hL, hD, hu, ht⟩, by (first | exact (if_neg (by first | omega | (simp only [Int32.le_iff_toInt_le, Int32.lt_iff_toInt_lt, ti_add, ti_sub, ti_mul, Int32.reduceToInt] at *; omega))).symm | exact ((if_pos (by first | omega | (simp only [Int32.le_iff_toInt_le, Int32.lt_iff_toInt_lt, ti_add, ti_sub, ti_mul, Int32.reduceToInt] at *; omega))).trans (if_neg (by first | omega | (simp only [Int32.le_iff_toInt_le, Int32.lt_iff_toInt_lt, ti_add, ti_sub, ti_mul, Int32.reduceToInt] at *; omega)))).symm | exact ((if_pos (by first | omega | (simp only [Int32.le_iff_toInt_le, Int32.lt_iff_toInt_lt, ti_add, ti_sub, ti_mul, Int32.reduceToInt] at *; omega))).trans (if_pos (by first | omega | (simp only [Int32.le_iff_toInt_le, Int32.lt_iff_toInt_lt, ti_add, ti_sub, ti_mul, Int32.reduceToInt] at *; omega)))).symm), RWC_n (fun _ => rfl) (by decide)⟩ | exact ⟨⟨hW2, hW28, hW132, hW158, hW184, hL, hD, hu, ht⟩, by (first | exact (if_neg (by first | omega | (simp only [Int32.le_iff_toInt_le, Int32.lt_iff_toInt_lt, ti_add, ti_sub, ti_mul, Int32.reduceToInt] at *; omega))).symm | exact ((if_pos (by first | omega | (simp only [Int32.le_iff_toInt_le, Int32.lt_iff_toInt_lt, ti_add, ti_sub, ti_mul, Int32.reduceToInt] at *; omega))).trans (if_neg (by first | omega | (simp only [Int32.le_iff_toInt_le, Int32.lt_iff_toInt_lt, ti_add, ti_sub, ti_mul, Int32.reduceToInt] at *; omega)))).symm | exact ((if_pos (by first | omega | (simp only [Int32.le_iff_toInt_le, Int32.lt_iff_toInt_lt, ti_add, ti_sub, ti_mul, Int32.reduceToInt] at *; omega))).trans (if_pos (by first | omega | (simp only [Int32.le_iff_toInt_le, Int32.lt_iff_toInt_lt, ti_add, ti_sub, ti_mul, Int32.reduceToInt] at *; omega)))).symm), RWC_s hqq h41 (by first | omega | (simp only [Int32.le_iff_toInt_le, Int32.lt_iff_toInt_lt, ti_add, ti_sub, ti_mul, Int32.reduceToInt] at *; omega))⟩)⟩
        · exact ok_some ⟨hT, (show CF σ0.1 ∧ (-2 : Int32) = rowV x1 x2 x3 ∧ RWC σ0.1 σ0.1 x1 x2 x3 (-2 : Int32) from by first | exact ⟨⟨hW2, hW28, hW132, hW158, hW184, hL, hD, hu, ht⟩, by (first | exact (if_neg (by first | omega | (simp only [Int32.le_iff_toInt_le, Int32.lt_iff_toInt_lt, ti_add, ti_sub, ti_mul, Int32.reduceToInt] at *; omega))).symm | exact ((if_pos (by first | omega | (simp only [Int32.le_iff_toInt_le, Int32.lt_iff_toInt_lt, ti_add, ti_sub, ti_mul, Int32.reduceToInt] at *; omega))).trans (if_neg (by first | omega | (simp only [Int32.le_iff_toInt_le, Int32.lt_iff_toInt_lt, ti_add, ti_sub, ti_mul, Int32.reduceToInt] at *; omega)))).symm | exact ((if_pos (by first | omega | (simp only [Int32.le_iff_toInt_le, Int32.lt_iff_toInt_lt, ti_add, ti_sub, ti_mul, Int32.reduceToInt] at *; omega))).trans (if_pos (by first | omega | (simp only [Int32.le_iff_toInt_le, Int32.lt_iff_toInt_lt, ti_add, ti_sub, ti_mul, Int32.reduceToInt] at *; omega)))).symm), RWC_n (fun _ => rfl) (by decide)⟩ | exact ⟨⟨hW2, hW28, hW132, hW158, hW184, hL, hD, hu, ht⟩, by (first | exact (if_neg (by first | omega | (simp only [Int32.le_iff_toInt_le, Int32.lt_iff_toInt_lt, ti_add, ti_sub, ti_mul, Int32.reduceToInt] at *; omega))).symm | exact ((if_pos (by first | omega | (simp only [Int32.le_iff_toInt_le, Int32.lt_iff_toInt_lt, ti_add, ti_sub, ti_mul, Int32.reduceToInt] at *; omega))).trans (if_neg (by first | omega | (simp only [Int32.le_iff_toInt_le, Int32.lt_iff_toInt_lt, ti_add, ti_sub, ti_mul, Int32.reduceToInt] at *; omega)))).symm | exact ((if_pos (by first | omega | (simp only [Int32.le_iff_toInt_le, Int32.lt_iff_toInt_lt, ti_add, ti_sub, ti_mul, Int32.reduceToInt] at *; omega))).trans (if_pos (by first | omega | (simp only [Int32.le_iff_toInt_le, Int32.lt_iff_toInt_lt, ti_add, ti_sub, ti_mul, Int32.reduceToInt] at *; omega)))).symm), RWC_s hqq h41 (by first | omega | (simp only [Int32.le_iff_toInt_le, Int32.lt_iff_toInt_lt, ti_add, ti_sub, ti_mul, Int32.reduceToInt] at *; omega))⟩)⟩

set_option maxHeartbeats 4000000 in
set_option maxRecDepth 100000 in
theorem s_X12_row_v {N : Nat} (hN : 1048576 ≤ N) {x1 : Int32} {x2 : Int32} {x3 : Int32} {σ0 : zS}  (hR : RF σ0.2.2) (hS : MS (σ0.1 239)) : Ok (f_X12_row N 218 x1 x2 x3 σ0) (fun r => Tr [239, 240] σ0 r.2 ∧ (MS (r.2.1 239) ∧ r.1 = rowV x1 x2 x3 ∧ RWR σ0.1 r.2.1 x1 x2 x3 r.1)) := by
  have hT : Tr [239, 240] σ0 σ0 := Tr.rf
  rw [f_X12_row.eq_1]
  refine ok_zbX (Q := fun V => (V = 0 → ¬ (0 ≤ x1.toInt ∧ x1.toInt ≤ 3)) ∧ (¬ V = 0 → 0 ≤ x1.toInt ∧ x1.toInt ≤ 3)) (x_X12_isSlot) (fun v1 hqv1 => ?_)
  refine ok_if (fun hc3 => ?_) (fun hc3 => ?_)
  · have qhc3 := hqv1.1 hc3
    exact ok_some ⟨hT, (show MS (σ0.1 239) ∧ (-2 : Int32) = rowV x1 x2 x3 ∧ RWR σ0.1 σ0.1 x1 x2 x3 (-2 : Int32) from by first | exact ⟨hS, by (first | exact (if_neg (by first | omega | (simp only [Int32.le_iff_toInt_le, Int32.lt_iff_toInt_lt, ti_add, ti_sub, ti_mul, Int32.reduceToInt] at *; omega))).symm | exact ((if_pos (by first | omega | (simp only [Int32.le_iff_toInt_le, Int32.lt_iff_toInt_lt, ti_add, ti_sub, ti_mul, Int32.reduceToInt] at *; omega))).trans (if_neg (by first | omega | (simp only [Int32.le_iff_toInt_le, Int32.lt_iff_toInt_lt, ti_add, ti_sub, ti_mul, Int32.reduceToInt] at *; omega)))).symm | exact ((if_pos (by first | omega | (simp only [Int32.le_iff_toInt_le, Int32.lt_iff_toInt_lt, ti_add, ti_sub, ti_mul, Int32.reduceToInt] at *; omega))).trans (if_pos (by first | omega | (simp only [Int32.le_iff_toInt_le, Int32.lt_iff_toInt_lt, ti_add, ti_sub, ti_mul, Int32.reduceToInt] at *; omega)))).symm), RWR_n (fun _ => rfl) (by decide)⟩ | exact ⟨hS, by (first | exact (if_neg (by first | omega | (simp only [Int32.le_iff_toInt_le, Int32.lt_iff_toInt_lt, ti_add, ti_sub, ti_mul, Int32.reduceToInt] at *; omega))).symm | exact ((if_pos (by first | omega | (simp only [Int32.le_iff_toInt_le, Int32.lt_iff_toInt_lt, ti_add, ti_sub, ti_mul, Int32.reduceToInt] at *; omega))).trans (if_neg (by first | omega | (simp only [Int32.le_iff_toInt_le, Int32.lt_iff_toInt_lt, ti_add, ti_sub, ti_mul, Int32.reduceToInt] at *; omega)))).symm | exact ((if_pos (by first | omega | (simp only [Int32.le_iff_toInt_le, Int32.lt_iff_toInt_lt, ti_add, ti_sub, ti_mul, Int32.reduceToInt] at *; omega))).trans (if_pos (by first | omega | (simp only [Int32.le_iff_toInt_le, Int32.lt_iff_toInt_lt, ti_add, ti_sub, ti_mul, Int32.reduceToInt] at *; omega)))).symm), RWR_s (i := x1.toNatClampNeg) rfl (fun s => (congrFun rfl s).trans (u41 s)) (fun s => (congrFun rfl s).trans (u48 s))⟩)⟩
  · have qhc3 := hqv1.2 hc3
    refine ok_zbX (Q := fun V => (V = 0 → ¬ ((0 : Int64).toInt ≤ (Int32.toInt64 x2).toInt ∧ (Int32.toInt64 x2).toInt ≤ (3 : Int64).toInt)) ∧ (¬ V = 0 → (0 : Int64).toInt ≤ (Int32.toInt64 x2).toInt ∧ (Int32.toInt64 x2).toInt ≤ (3 : Int64).toInt)) (xi_X12_in) (fun v4 hqv4 => ?_)
    simp only [i64_of, Int64.reduceToInt] at hqv4
    refine ok_if (fun hc6 => ?_) (fun hc6 => ?_)
    · have qhc6 := hqv4.1 hc6
      exact ok_some ⟨hT, (show MS (σ0.1 239) ∧ (-2 : Int32) = rowV x1 x2 x3 ∧ RWR σ0.1 σ0.1 x1 x2 x3 (-2 : Int32) from by first | exact ⟨hS, by (first | exact (if_neg (by first | omega | (simp only [Int32.le_iff_toInt_le, Int32.lt_iff_toInt_lt, ti_add, ti_sub, ti_mul, Int32.reduceToInt] at *; omega))).symm | exact ((if_pos (by first | omega | (simp only [Int32.le_iff_toInt_le, Int32.lt_iff_toInt_lt, ti_add, ti_sub, ti_mul, Int32.reduceToInt] at *; omega))).trans (if_neg (by first | omega | (simp only [Int32.le_iff_toInt_le, Int32.lt_iff_toInt_lt, ti_add, ti_sub, ti_mul, Int32.reduceToInt] at *; omega)))).symm | exact ((if_pos (by first | omega | (simp only [Int32.le_iff_toInt_le, Int32.lt_iff_toInt_lt, ti_add, ti_sub, ti_mul, Int32.reduceToInt] at *; omega))).trans (if_pos (by first | omega | (simp only [Int32.le_iff_toInt_le, Int32.lt_iff_toInt_lt, ti_add, ti_sub, ti_mul, Int32.reduceToInt] at *; omega)))).symm), RWR_n (fun _ => rfl) (by decide)⟩ | exact ⟨hS, by (first | exact (if_neg (by first | omega | (simp only [Int32.le_iff_toInt_le, Int32.lt_iff_toInt_lt, ti_add, ti_sub, ti_mul, Int32.reduceToInt] at *; omega))).symm | exact ((if_pos (by first | omega | (simp only [Int32.le_iff_toInt_le, Int32.lt_iff_toInt_lt, ti_add, ti_sub, ti_mul, Int32.reduceToInt] at *; omega))).trans (if_neg (by first | omega | (simp only [Int32.le_iff_toInt_le, Int32.lt_iff_toInt_lt, ti_add, ti_sub, ti_mul, Int32.reduceToInt] at *; omega)))).symm | exact ((if_pos (by first | omega | (simp only [Int32.le_iff_toInt_le, Int32.lt_iff_toInt_lt, ti_add, ti_sub, ti_mul, Int32.reduceToInt] at *; omega))).trans (if_pos (by first | omega | (simp only [Int32.le_iff_toInt_le, Int32.lt_iff_toInt_lt, ti_add, ti_sub, ti_mul, Int32.reduceToInt] at *; omega)))).symm), RWR_s (i := x1.toNatClampNeg) rfl (fun s => (congrFun rfl s).trans (u41 s)) (fun s => (congrFun rfl s).trans (u48 s))⟩)⟩
    · have qhc6 := hqv4.2 hc6
      refine ok_if (fun hc7 => ?_) (fun hc7 => ?_)
      · refine ok_if (fun hc8 => ?_) (fun hc8 => ?_)
        · refine ok_gR (v := 239) hT rfl (hR 218 35 rfl) ?_
          refine ok_s14 hT rfl (by decide) (by first | omega | decide | (simp only [Int32.le_iff_toInt_le, Int32.lt_iff_toInt_lt, ti_add, ti_sub, ti_mul, Int32.reduceToInt] at *; omega)) (by first | omega | decide | (simp only [Int32.le_iff_toInt_le, Int32.lt_iff_toInt_lt, ti_add, ti_sub, ti_mul, Int32.reduceToInt] at *; omega)) (fun σ10 eσ10 hOσ10 hT => ?_)
          have u41 := upd_at eσ10 rfl
          have r240_σ10 : σ10.1 240 = σ0.1 240 := hOσ10.2 240 (by decide)
          have hS : MS (σ10.1 239) := MS_w eσ10 (by first | omega | (simp only [Int32.le_iff_toInt_le, Int32.lt_iff_toInt_lt, ti_add, ti_sub, ti_mul, Int32.reduceToInt] at *; omega)) (by first | omega | (simp only [Int32.le_iff_toInt_le, Int32.lt_iff_toInt_lt, ti_add, ti_sub, ti_mul, Int32.reduceToInt] at *; omega)) hS
          refine ok_gR (v := 240) hT rfl (hR 218 36 rfl) ?_
          refine ok_s14 hT rfl (by decide) (by first | omega | decide | (simp only [Int32.le_iff_toInt_le, Int32.lt_iff_toInt_lt, ti_add, ti_sub, ti_mul, Int32.reduceToInt] at *; omega)) (by first | omega | decide | (simp only [Int32.le_iff_toInt_le, Int32.lt_iff_toInt_lt, ti_add, ti_sub, ti_mul, Int32.reduceToInt] at *; omega)) (fun σ12 eσ12 hOσ12 hT => ?_)
          have u48 := upd_at eσ12 r240_σ10
          have r239_σ12 : σ12.1 239 = σ10.1 239 := hOσ12.2 239 (by decide)
          have hS : MS (σ12.1 239) := by rw [hOσ12.2 239 (by decide)]; exact hS
          refine ok_lp (fun t : Int32 × zS => Tr [239, 240] σ0 (t.2) ∧ (0 ≤ (t.1).toInt) ∧ (MS ((t.2).1 239)) ∧ ((t.2).1 239 = σ10.1 239) ∧ ((t.2).1 240 = σ12.1 240)) (fun t : Int32 × zS => (60 - (t.1).toInt).toNat) (fun again13 t hI ih52_13 => ?_) N _ (show Tr [239, 240] σ0 σ12 ∧ (0 ≤ (0 : Int32).toInt) ∧ (MS (σ12.1 239)) ∧ (σ12.1 239 = σ10.1 239) ∧ (σ12.1 240 = σ12.1 240) from ⟨hT, (by first | omega | decide | (simp only [Int32.le_iff_toInt_le, Int32.lt_iff_toInt_lt, ti_add, ti_sub, ti_mul, Int32.reduceToInt] at *; omega)), hS, r239_σ12, rfl⟩) (show (60 - (0 : Int32).toInt).toNat < N from (by first | omega | decide | (simp only [Int32.le_iff_toInt_le, Int32.lt_iff_toInt_lt, ti_add, ti_sub, ti_mul, Int32.reduceToInt] at *; omega)))
          obtain ⟨x4_13, σ13⟩ := t
          have hI : Tr [239, 240] σ0 σ13 ∧ (0 ≤ x4_13.toInt) ∧ (MS (σ13.1 239)) ∧ (σ13.1 239 = σ10.1 239) ∧ (σ13.1 240 = σ12.1 240) := hI
          obtain ⟨hT, hI13, hS, r239_σ13, r240_σ13⟩ := hI
          rw [F_X12_row_52.eq_1]
          refine ok_if (fun hc14 => ?_) (fun hc14 => ?_)
          · exact ok_some ⟨hT, (show MS (σ13.1 239) ∧ (0 : Int32) = rowV x1 x2 x3 ∧ RWR σ0.1 σ13.1 x1 x2 x3 (0 : Int32) from by first | exact ⟨hS, by (first | exact (if_neg (by first | omega | (simp only [Int32.le_iff_toInt_le, Int32.lt_iff_toInt_lt, ti_add, ti_sub, ti_mul, Int32.reduceToInt] at *; omega))).symm | exact ((if_pos (by first | omega | (simp only [Int32.le_iff_toInt_le, Int32.lt_iff_toInt_lt, ti_add, ti_sub, ti_mul, Int32.reduceToInt] at *; omega))).trans (if_neg (by first | omega | (simp only [Int32.le_iff_toInt_le, Int32.lt_iff_toInt_lt, ti_add, ti_sub, ti_mul, Int32.reduceToInt] at *; omega)))).symm | exact ((if_pos (by first | omega | (simp only [Int32.le_iff_toInt_le, Int32.lt_iff_toInt_lt, ti_add, ti_sub, ti_mul, Int32.reduceToInt] at *; omega))).trans (if_pos (by first | omega | (simp only [Int32.le_iff_toInt_le, Int32.lt_iff_toInt_lt, ti_add, ti_sub, ti_mul, Int32.reduceToInt] at *; omega)))).symm), RWR_n (fun _ => rfl) (by decide)⟩ | exact ⟨hS, by (first | exact (if_neg (by first | omega | (simp only [Int32.le_iff_toInt_le, Int32.lt_iff_toInt_lt, ti_add, ti_sub, ti_mul, Int32.reduceToInt] at *; omega))).symm | exact ((if_pos (by first | omega | (simp only [Int32.le_iff_toInt_le, Int32.lt_iff_toInt_lt, ti_add, ti_sub, ti_mul, Int32.reduceToInt] at *; omega))).trans (if_neg (by first | omega | (simp only [Int32.le_iff_toInt_le, Int32.lt_iff_toInt_lt, ti_add, ti_sub, ti_mul, Int32.reduceToInt] at *; omega)))).symm | exact ((if_pos (by first | omega | (simp only [Int32.le_iff_toInt_le, Int32.lt_iff_toInt_lt, ti_add, ti_sub, ti_mul, Int32.reduceToInt] at *; omega))).trans (if_pos (by first | omega | (simp only [Int32.le_iff_toInt_le, Int32.lt_iff_toInt_lt, ti_add, ti_sub, ti_mul, Int32.reduceToInt] at *; omega)))).symm), RWR_s (i := x1.toNatClampNeg) rfl (fun s => (congrFun r239_σ13 s).trans (u41 s)) (fun s => (congrFun r240_σ13 s).trans (u48 s))⟩)⟩
          · have m9 := ix60 (x := x1) (y := x4_13) (by first | omega | (simp only [Int32.le_iff_toInt_le, Int32.lt_iff_toInt_lt, ti_add, ti_sub, ti_mul, Int32.reduceToInt] at *; omega)) (by first | omega | (simp only [Int32.le_iff_toInt_le, Int32.lt_iff_toInt_lt, ti_add, ti_sub, ti_mul, Int32.reduceToInt] at *; omega)) (by first | omega | (simp only [Int32.le_iff_toInt_le, Int32.lt_iff_toInt_lt, ti_add, ti_sub, ti_mul, Int32.reduceToInt] at *; omega)) (by first | omega | (simp only [Int32.le_iff_toInt_le, Int32.lt_iff_toInt_lt, ti_add, ti_sub, ti_mul, Int32.reduceToInt] at *; omega))
            refine ok_gR (v := 241) hT rfl (hR 218 37 rfl) ?_
            refine ok_sJ hT rfl (by first | omega | decide | (simp only [Int32.le_iff_toInt_le, Int32.lt_iff_toInt_lt, ti_add, ti_sub, ti_mul, Int32.reduceToInt] at *; omega)) (by first | omega | decide | (simp only [Int32.le_iff_toInt_le, Int32.lt_iff_toInt_lt, ti_add, ti_sub, ti_mul, Int32.reduceToInt] at *; omega)) (fun σ16 eσ16 hOσ16 hT => ?_)
            have r239_σ16 : σ16.1 239 = σ10.1 239 := (hOσ16.2 239 (by decide)).trans r239_σ13
            have r240_σ16 : σ16.1 240 = σ12.1 240 := (hOσ16.2 240 (by decide)).trans r240_σ13
            have hS : MS (σ16.1 239) := by rw [hOσ16.2 239 (by decide)]; exact hS
            exact ih52_13 (x4_13 + 1, σ16) (show Tr [239, 240] σ0 σ16 ∧ (0 ≤ (x4_13 + 1).toInt) ∧ (MS (σ16.1 239)) ∧ (σ16.1 239 = σ10.1 239) ∧ (σ16.1 240 = σ12.1 240) from ⟨hT, (by first | omega | decide | (simp only [Int32.le_iff_toInt_le, Int32.lt_iff_toInt_lt, ti_add, ti_sub, ti_mul, Int32.reduceToInt] at *; omega)), hS, r239_σ16, r240_σ16⟩) (show (60 - (x4_13 + 1).toInt).toNat < (60 - x4_13.toInt).toNat from (by first | omega | decide | (simp only [Int32.le_iff_toInt_le, Int32.lt_iff_toInt_lt, ti_add, ti_sub, ti_mul, Int32.reduceToInt] at *; omega)))
        · exact ok_some ⟨hT, (show MS (σ0.1 239) ∧ (-3 : Int32) = rowV x1 x2 x3 ∧ RWR σ0.1 σ0.1 x1 x2 x3 (-3 : Int32) from by first | exact ⟨hS, by (first | exact (if_neg (by first | omega | (simp only [Int32.le_iff_toInt_le, Int32.lt_iff_toInt_lt, ti_add, ti_sub, ti_mul, Int32.reduceToInt] at *; omega))).symm | exact ((if_pos (by first | omega | (simp only [Int32.le_iff_toInt_le, Int32.lt_iff_toInt_lt, ti_add, ti_sub, ti_mul, Int32.reduceToInt] at *; omega))).trans (if_neg (by first | omega | (simp only [Int32.le_iff_toInt_le, Int32.lt_iff_toInt_lt, ti_add, ti_sub, ti_mul, Int32.reduceToInt] at *; omega)))).symm | exact ((if_pos (by first | omega | (simp only [Int32.le_iff_toInt_le, Int32.lt_iff_toInt_lt, ti_add, ti_sub, ti_mul, Int32.reduceToInt] at *; omega))).trans (if_pos (by first | omega | (simp only [Int32.le_iff_toInt_le, Int32.lt_iff_toInt_lt, ti_add, ti_sub, ti_mul, Int32.reduceToInt] at *; omega)))).symm), RWR_n (fun _ => rfl) (by decide)⟩ | exact ⟨hS, by (first | exact (if_neg (by first | omega | (simp only [Int32.le_iff_toInt_le, Int32.lt_iff_toInt_lt, ti_add, ti_sub, ti_mul, Int32.reduceToInt] at *; omega))).symm | exact ((if_pos (by first | omega | (simp only [Int32.le_iff_toInt_le, Int32.lt_iff_toInt_lt, ti_add, ti_sub, ti_mul, Int32.reduceToInt] at *; omega))).trans (if_neg (by first | omega | (simp only [Int32.le_iff_toInt_le, Int32.lt_iff_toInt_lt, ti_add, ti_sub, ti_mul, Int32.reduceToInt] at *; omega)))).symm | exact ((if_pos (by first | omega | (simp only [Int32.le_iff_toInt_le, Int32.lt_iff_toInt_lt, ti_add, ti_sub, ti_mul, Int32.reduceToInt] at *; omega))).trans (if_pos (by first | omega | (simp only [Int32.le_iff_toInt_le, Int32.lt_iff_toInt_lt, ti_add, ti_sub, ti_mul, Int32.reduceToInt] at *; omega)))).symm), RWR_s (i := x1.toNatClampNeg) rfl (fun s => (congrFun rfl s).trans (u41 s)) (fun s => (congrFun rfl s).trans (u48 s))⟩)⟩
      · exact ok_some ⟨hT, (show MS (σ0.1 239) ∧ (-2 : Int32) = rowV x1 x2 x3 ∧ RWR σ0.1 σ0.1 x1 x2 x3 (-2 : Int32) from by first | exact ⟨hS, by (first | exact (if_neg (by first | omega | (simp only [Int32.le_iff_toInt_le, Int32.lt_iff_toInt_lt, ti_add, ti_sub, ti_mul, Int32.reduceToInt] at *; omega))).symm | exact ((if_pos (by first | omega | (simp only [Int32.le_iff_toInt_le, Int32.lt_iff_toInt_lt, ti_add, ti_sub, ti_mul, Int32.reduceToInt] at *; omega))).trans (if_neg (by first | omega | (simp only [Int32.le_iff_toInt_le, Int32.lt_iff_toInt_lt, ti_add, ti_sub, ti_mul, Int32.reduceToInt] at *; omega)))).symm | exact ((if_pos (by first | omega | (simp only [Int32.le_iff_toInt_le, Int32.lt_iff_toInt_lt, ti_add, ti_sub, ti_mul, Int32.reduceToInt] at *; omega))).trans (if_pos (by first | omega | (simp only [Int32.le_iff_toInt_le, Int32.lt_iff_toInt_lt, ti_add, ti_sub, ti_mul, Int32.reduceToInt] at *; omega)))).symm), RWR_n (fun _ => rfl) (by decide)⟩ | exact ⟨hS, by (first | exact (if_neg (by first | omega | (simp only [Int32.le_iff_toInt_le, Int32.lt_iff_toInt_lt, ti_add, ti_sub, ti_mul, Int32.reduceToInt] at *; omega))).symm | exact ((if_pos (by first | omega | (simp only [Int32.le_iff_toInt_le, Int32.lt_iff_toInt_lt, ti_add, ti_sub, ti_mul, Int32.reduceToInt] at *; omega))).trans (if_neg (by first | omega | (simp only [Int32.le_iff_toInt_le, Int32.lt_iff_toInt_lt, ti_add, ti_sub, ti_mul, Int32.reduceToInt] at *; omega)))).symm | exact ((if_pos (by first | omega | (simp only [Int32.le_iff_toInt_le, Int32.lt_iff_toInt_lt, ti_add, ti_sub, ti_mul, Int32.reduceToInt] at *; omega))).trans (if_pos (by first | omega | (simp only [Int32.le_iff_toInt_le, Int32.lt_iff_toInt_lt, ti_add, ti_sub, ti_mul, Int32.reduceToInt] at *; omega)))).symm), RWR_s (i := x1.toNatClampNeg) rfl (fun s => (congrFun rfl s).trans (u41 s)) (fun s => (congrFun rfl s).trans (u48 s))⟩)⟩

theorem x_X9_isBare {N q : Nat} {σ : zS} (hq : (zKd q).1 = 9) : Ok (f_X9_isBare N q σ) (fun r => r.2 = σ ∧ ((r.1 = 0 → 0 ≤ (σ.1 q 2).toInt) ∧ (¬ r.1 = 0 → (σ.1 q 2).toInt < 0))) := by
  rw [f_X9_isBare.eq_1]
  refine ok_gI hq ?_
  refine ok_if (fun h => ok_rZ (Or.inl rfl) ⟨rfl, fun _ => ?_, fun q => absurd rfl q⟩) (fun h => ok_rZ (Or.inr rfl) ⟨rfl, fun q => absurd (show (1 : Int32) = 0 from q) (by decide), fun _ => ?_⟩)
  · rw [Int32.le_iff_toInt_le] at h; simpa using h
  · rw [Int32.le_iff_toInt_le] at h; simp only [Int32.reduceToInt] at h; omega
theorem spans_no {a b c : Int32} (h0 : 0 ≤ a.toInt) (h1 : 0 ≤ b.toInt) (h : 0 < lg_cmp (Int32.toInt64 a + Int32.toInt64 b) (Int32.toInt64 c)) : c.toInt < a.toInt + b.toInt := by
  rw [zcmp_gt, Int64.toInt_add, i64_of, i64_of, i64_of] at h
  have ha := ti_hi a
  have hb := ti_hi b
  have e : (a.toInt + b.toInt).bmod (2 ^ 64) = a.toInt + b.toInt := Int.bmod_eq_of_le (by omega) (by omega)
  rw [e] at h
  exact h
theorem x_X9_spans {N q : Nat} {x1 x2 : Int32} {σ : zS} (hq : (zKd q).1 = 9) : Ok (f_X9_spans N q x1 x2 σ) (fun r => r.2 = σ ∧ ((r.1 = 0 → ¬ (0 ≤ x1.toInt ∧ 0 ≤ x2.toInt ∧ x1.toInt + x2.toInt ≤ (σ.1 q 2).toInt)) ∧ (¬ r.1 = 0 → 0 ≤ x1.toInt ∧ 0 ≤ x2.toInt ∧ x1.toInt + x2.toInt ≤ (σ.1 q 2).toInt))) := by
  rw [f_X9_spans.eq_1]
  refine ok_if (fun h => ok_rZ (Or.inl rfl) ⟨rfl, fun _ => ?_, fun q => absurd rfl q⟩) (fun h => ok_if (fun h2 => ok_rZ (Or.inl rfl) ⟨rfl, fun _ => ?_, fun q => absurd rfl q⟩) (fun h2 => ?_))
  · rw [Int32.lt_iff_toInt_lt] at h; simp only [Int32.reduceToInt] at h; omega
  · rw [Int32.lt_iff_toInt_lt] at h2; simp only [Int32.reduceToInt] at h2; omega
  · rw [Int32.lt_iff_toInt_lt] at h h2
    simp only [Int32.reduceToInt] at h h2
    refine ok_gI hq ?_
    refine ok_if (fun h3 => ok_rZ (Or.inl rfl) ⟨rfl, fun _ => ?_, fun q => absurd rfl q⟩) (fun h3 => ok_rZ (Or.inr rfl) ⟨rfl, fun q => absurd (show (1 : Int32) = 0 from q) (by decide), fun _ => ?_⟩)
    · have := spans_no (by omega) (by omega) h3; omega
    · have := spans_ok (by omega) (by omega) h3; omega

set_option maxHeartbeats 4000000 in
set_option maxRecDepth 100000 in
theorem s_X11_feed_n2v {N : Nat} (hN : 1048576 ≤ N) {x1 : Int32} {x2 : Int32} {x3 : Int32} {x4 : Int32} {x5 : Int32} {σ0 : zS}  (hR : RF σ0.2.2) (hNw : σ0.2.2 0 4 = 2) (hPw : σ0.2.2 0 5 = 28) (hC : CF σ0.1) : Ok (f_X11_feed N 0 x1 x2 x3 x4 x5 σ0) (fun r => Tr [0, 1] σ0 r.2 ∧ (CF r.2.1 ∧ r.1 = fdV (σ0.1 0 1) ∧ r.2.1 0 1 = fdT (σ0.1 0 1))) := by
  have hT : Tr [0, 1] σ0 σ0 := Tr.rf
  obtain ⟨hW2, hW28, hW132, hW158, hW184, hL, hD, hu, ht⟩ := hC
  have hn := hW2.1
  have he := hW2.2.1
  have hD0 := hD
  have hL0 := hL
  have q10 := ti_one10 (x := σ0.1 2 0) hn.1 hn.2
  have h01 : σ0.1 0 1 = σ0.1 0 1 := rfl
  have t0 := ht
  rw [f_X11_feed.eq_1]
  refine ok_gIv rfl h01 ?_
  refine ok_if (fun hc2 => ?_) (fun hc2 => ?_)
  · exact ok_some ⟨hT, (show CF σ0.1 ∧ (-1 : Int32) = fdV (σ0.1 0 1) ∧ σ0.1 0 1 = fdT (σ0.1 0 1) from by first | exact ⟨⟨hW2, hW28, hW132, hW158, hW184, hL, hD, hu, ht⟩, (if_neg (by first | omega | (simp only [Int32.le_iff_toInt_le, Int32.lt_iff_toInt_lt, ti_add, ti_sub, ti_mul, Int32.reduceToInt] at *; omega))).symm, h01.trans (if_neg (by first | omega | (simp only [Int32.le_iff_toInt_le, Int32.lt_iff_toInt_lt, ti_add, ti_sub, ti_mul, Int32.reduceToInt] at *; omega))).symm⟩ | exact ⟨⟨hW2, hW28, hW132, hW158, hW184, hL, hD, hu, ht⟩, a88.trans (if_pos (by first | omega | (simp only [Int32.le_iff_toInt_le, Int32.lt_iff_toInt_lt, ti_add, ti_sub, ti_mul, Int32.reduceToInt] at *; omega))).symm, a88.trans (if_pos (by first | omega | (simp only [Int32.le_iff_toInt_le, Int32.lt_iff_toInt_lt, ti_add, ti_sub, ti_mul, Int32.reduceToInt] at *; omega))).symm⟩)⟩
  · refine ok_gIv rfl h01 ?_
    refine ok_if (fun hc4 => ?_) (fun hc4 => ?_)
    · refine ok_gIv rfl h01 ?_
      refine ok_gC rfl ?_
      refine ok_zbT (Q := fun V σ => True) hT (s_X11_tapeNumber hN (hR.tr hT) (by first | omega | decide | (have q1 := hD.1; have q2 := hD.2.1; simp only [Int32.le_iff_toInt_le, Int32.lt_iff_toInt_lt, ti_add, ti_sub, ti_mul, Int32.reduceToInt] at *; omega))) (by decide) (fun v6 σ7 hOσ7 hT hqv6 => ?_)
      have hW2 : WI 2 σ7.1 := WI.tr hOσ7 (by decide) (by decide) (by decide) hW2
      have hW28 : WI 28 σ7.1 := WI.tr hOσ7 (by decide) (by decide) (by decide) hW28
      have hW132 : WI 132 σ7.1 := WI.tr hOσ7 (by decide) (by decide) (by decide) hW132
      have hW158 : WI 158 σ7.1 := WI.tr hOσ7 (by decide) (by decide) (by decide) hW158
      have hW184 : WI 184 σ7.1 := WI.tr hOσ7 (by decide) (by decide) (by decide) hW184
      have hL : SI σ7.1 := SI.tr hOσ7 (by decide) (by decide) (by decide) (by decide) hL
      have hD : RD σ7.1 := RD.tr hOσ7 (by decide) (by decide) (by decide) (by decide) hD
      have hu : 2 ≤ (σ7.1 111 8).toInt ∧ (σ7.1 111 8).toInt ≤ 1600 := by rw [hOσ7.2 111 (by decide)] <;> exact hu
      have ht : 0 ≤ (σ7.1 0 1).toInt ∧ (σ7.1 0 1).toInt ≤ 600 := by rw [hOσ7.2 0 (by decide)] <;> exact ht
      have h01 : σ7.1 0 1 = σ0.1 0 1 := by rw [hOσ7.2 0 (by decide)] <;> exact h01
      refine ok_gIv rfl h01 ?_
      refine ok_gC rfl ?_
      refine ok_zbT (Q := fun V σ => True) hT (s_X11_tapeNumber hN (hR.tr hT) (by first | omega | decide | (have q1 := hD.1; have q2 := hD.2.1; simp only [Int32.le_iff_toInt_le, Int32.lt_iff_toInt_lt, ti_add, ti_sub, ti_mul, Int32.reduceToInt] at *; omega))) (by decide) (fun v9 σ10 hOσ10 hT hqv9 => ?_)
      have hW2 : WI 2 σ10.1 := WI.tr hOσ10 (by decide) (by decide) (by decide) hW2
      have hW28 : WI 28 σ10.1 := WI.tr hOσ10 (by decide) (by decide) (by decide) hW28
      have hW132 : WI 132 σ10.1 := WI.tr hOσ10 (by decide) (by decide) (by decide) hW132
      have hW158 : WI 158 σ10.1 := WI.tr hOσ10 (by decide) (by decide) (by decide) hW158
      have hW184 : WI 184 σ10.1 := WI.tr hOσ10 (by decide) (by decide) (by decide) hW184
      have hL : SI σ10.1 := SI.tr hOσ10 (by decide) (by decide) (by decide) (by decide) hL
      have hD : RD σ10.1 := RD.tr hOσ10 (by decide) (by decide) (by decide) (by decide) hD
      have hu : 2 ≤ (σ10.1 111 8).toInt ∧ (σ10.1 111 8).toInt ≤ 1600 := by rw [hOσ10.2 111 (by decide)] <;> exact hu
      have ht : 0 ≤ (σ10.1 0 1).toInt ∧ (σ10.1 0 1).toInt ≤ 600 := by rw [hOσ10.2 0 (by decide)] <;> exact ht
      have h01 : σ10.1 0 1 = σ0.1 0 1 := by rw [hOσ10.2 0 (by decide)] <;> exact h01
      refine ok_gIv rfl h01 ?_
      refine ok_gC rfl ?_
      refine ok_zbT (Q := fun V σ => True) hT (s_X11_tapeNumber hN (hR.tr hT) (by first | omega | decide | (have q1 := hD.1; have q2 := hD.2.1; simp only [Int32.le_iff_toInt_le, Int32.lt_iff_toInt_lt, ti_add, ti_sub, ti_mul, Int32.reduceToInt] at *; omega))) (by decide) (fun v12 σ13 hOσ13 hT hqv12 => ?_)
      have hW2 : WI 2 σ13.1 := WI.tr hOσ13 (by decide) (by decide) (by decide) hW2
      have hW28 : WI 28 σ13.1 := WI.tr hOσ13 (by decide) (by decide) (by decide) hW28
      have hW132 : WI 132 σ13.1 := WI.tr hOσ13 (by decide) (by decide) (by decide) hW132
      have hW158 : WI 158 σ13.1 := WI.tr hOσ13 (by decide) (by decide) (by decide) hW158
      have hW184 : WI 184 σ13.1 := WI.tr hOσ13 (by decide) (by decide) (by decide) hW184
      have hL : SI σ13.1 := SI.tr hOσ13 (by decide) (by decide) (by decide) (by decide) hL
      have hD : RD σ13.1 := RD.tr hOσ13 (by decide) (by decide) (by decide) (by decide) hD
      have hu : 2 ≤ (σ13.1 111 8).toInt ∧ (σ13.1 111 8).toInt ≤ 1600 := by rw [hOσ13.2 111 (by decide)] <;> exact hu
      have ht : 0 ≤ (σ13.1 0 1).toInt ∧ (σ13.1 0 1).toInt ≤ 600 := by rw [hOσ13.2 0 (by decide)] <;> exact ht
      have h01 : σ13.1 0 1 = σ0.1 0 1 := by rw [hOσ13.2 0 (by decide)] <;> exact h01
      refine ok_gIv rfl h01 ?_
      refine ok_gC rfl ?_
      refine ok_zbT (Q := fun V σ => True) hT (s_X11_tapeNumber hN (hR.tr hT) (by first | omega | decide | (have q1 := hD.1; have q2 := hD.2.1; simp only [Int32.le_iff_toInt_le, Int32.lt_iff_toInt_lt, ti_add, ti_sub, ti_mul, Int32.reduceToInt] at *; omega))) (by decide) (fun v15 σ16 hOσ16 hT hqv15 => ?_)
      have hW2 : WI 2 σ16.1 := WI.tr hOσ16 (by decide) (by decide) (by decide) hW2
      have hW28 : WI 28 σ16.1 := WI.tr hOσ16 (by decide) (by decide) (by decide) hW28
      have hW132 : WI 132 σ16.1 := WI.tr hOσ16 (by decide) (by decide) (by decide) hW132
      have hW158 : WI 158 σ16.1 := WI.tr hOσ16 (by decide) (by decide) (by decide) hW158
      have hW184 : WI 184 σ16.1 := WI.tr hOσ16 (by decide) (by decide) (by decide) hW184
      have hL : SI σ16.1 := SI.tr hOσ16 (by decide) (by decide) (by decide) (by decide) hL
      have hD : RD σ16.1 := RD.tr hOσ16 (by decide) (by decide) (by decide) (by decide) hD
      have hu : 2 ≤ (σ16.1 111 8).toInt ∧ (σ16.1 111 8).toInt ≤ 1600 := by rw [hOσ16.2 111 (by decide)] <;> exact hu
      have ht : 0 ≤ (σ16.1 0 1).toInt ∧ (σ16.1 0 1).toInt ≤ 600 := by rw [hOσ16.2 0 (by decide)] <;> exact ht
      have h01 : σ16.1 0 1 = σ0.1 0 1 := by rw [hOσ16.2 0 (by decide)] <;> exact h01
      refine ok_gIv rfl h01 ?_
      refine ok_gC rfl ?_
      refine ok_zbT (Q := fun V σ => True) hT (s_X11_tapeNumber hN (hR.tr hT) (by first | omega | decide | (have q1 := hD.1; have q2 := hD.2.1; simp only [Int32.le_iff_toInt_le, Int32.lt_iff_toInt_lt, ti_add, ti_sub, ti_mul, Int32.reduceToInt] at *; omega))) (by decide) (fun v18 σ19 hOσ19 hT hqv18 => ?_)
      have hW2 : WI 2 σ19.1 := WI.tr hOσ19 (by decide) (by decide) (by decide) hW2
      have hW28 : WI 28 σ19.1 := WI.tr hOσ19 (by decide) (by decide) (by decide) hW28
      have hW132 : WI 132 σ19.1 := WI.tr hOσ19 (by decide) (by decide) (by decide) hW132
      have hW158 : WI 158 σ19.1 := WI.tr hOσ19 (by decide) (by decide) (by decide) hW158
      have hW184 : WI 184 σ19.1 := WI.tr hOσ19 (by decide) (by decide) (by decide) hW184
      have hL : SI σ19.1 := SI.tr hOσ19 (by decide) (by decide) (by decide) (by decide) hL
      have hD : RD σ19.1 := RD.tr hOσ19 (by decide) (by decide) (by decide) (by decide) hD
      have hu : 2 ≤ (σ19.1 111 8).toInt ∧ (σ19.1 111 8).toInt ≤ 1600 := by rw [hOσ19.2 111 (by decide)] <;> exact hu
      have ht : 0 ≤ (σ19.1 0 1).toInt ∧ (σ19.1 0 1).toInt ≤ 600 := by rw [hOσ19.2 0 (by decide)] <;> exact ht
      have h01 : σ19.1 0 1 = σ0.1 0 1 := by rw [hOσ19.2 0 (by decide)] <;> exact h01
      refine ok_gIv rfl h01 ?_
      refine ok_pI hT rfl (by decide) (fun σ21 eσ21 hOσ21 hT => ?_)
      have a88 := zI_atI eσ21
      have hW2 : WI 2 σ21.1 := WI.tr hOσ21 (by decide) (by decide) (by decide) hW2
      have hW28 : WI 28 σ21.1 := WI.tr hOσ21 (by decide) (by decide) (by decide) hW28
      have hW132 : WI 132 σ21.1 := WI.tr hOσ21 (by decide) (by decide) (by decide) hW132
      have hW158 : WI 158 σ21.1 := WI.tr hOσ21 (by decide) (by decide) (by decide) hW158
      have hW184 : WI 184 σ21.1 := WI.tr hOσ21 (by decide) (by decide) (by decide) hW184
      have hL : SI σ21.1 := SI.tr hOσ21 (by decide) (by decide) (by decide) (by decide) hL
      have hD : RD σ21.1 := RD.tr hOσ21 (by decide) (by decide) (by decide) (by decide) hD
      have hu : 2 ≤ (σ21.1 111 8).toInt ∧ (σ21.1 111 8).toInt ≤ 1600 := by rw [hOσ21.2 111 (by decide)] <;> exact hu
      have ht : 0 ≤ (σ21.1 0 1).toInt ∧ (σ21.1 0 1).toInt ≤ 600 := by rw [zI_atI eσ21]; simp only [Int32.le_iff_toInt_le, Int32.lt_iff_toInt_lt, ti_add, ti_sub, ti_mul, Int32.reduceToInt] at *; omega
      refine ok_gI rfl ?_
      exact ok_some ⟨hT, (show CF σ21.1 ∧ ((σ21.1 0 1)) = fdV (σ0.1 0 1) ∧ σ21.1 0 1 = fdT (σ0.1 0 1) from by first | exact ⟨⟨hW2, hW28, hW132, hW158, hW184, hL, hD, hu, ht⟩, (if_neg (by first | omega | (simp only [Int32.le_iff_toInt_le, Int32.lt_iff_toInt_lt, ti_add, ti_sub, ti_mul, Int32.reduceToInt] at *; omega))).symm, h01.trans (if_neg (by first | omega | (simp only [Int32.le_iff_toInt_le, Int32.lt_iff_toInt_lt, ti_add, ti_sub, ti_mul, Int32.reduceToInt] at *; omega))).symm⟩ | exact ⟨⟨hW2, hW28, hW132, hW158, hW184, hL, hD, hu, ht⟩, a88.trans (if_pos (by first | omega | (simp only [Int32.le_iff_toInt_le, Int32.lt_iff_toInt_lt, ti_add, ti_sub, ti_mul, Int32.reduceToInt] at *; omega))).symm, a88.trans (if_pos (by first | omega | (simp only [Int32.le_iff_toInt_le, Int32.lt_iff_toInt_lt, ti_add, ti_sub, ti_mul, Int32.reduceToInt] at *; omega))).symm⟩)⟩
    · exact ok_some ⟨hT, (show CF σ0.1 ∧ (-1 : Int32) = fdV (σ0.1 0 1) ∧ σ0.1 0 1 = fdT (σ0.1 0 1) from by first | exact ⟨⟨hW2, hW28, hW132, hW158, hW184, hL, hD, hu, ht⟩, (if_neg (by first | omega | (simp only [Int32.le_iff_toInt_le, Int32.lt_iff_toInt_lt, ti_add, ti_sub, ti_mul, Int32.reduceToInt] at *; omega))).symm, h01.trans (if_neg (by first | omega | (simp only [Int32.le_iff_toInt_le, Int32.lt_iff_toInt_lt, ti_add, ti_sub, ti_mul, Int32.reduceToInt] at *; omega))).symm⟩ | exact ⟨⟨hW2, hW28, hW132, hW158, hW184, hL, hD, hu, ht⟩, a88.trans (if_pos (by first | omega | (simp only [Int32.le_iff_toInt_le, Int32.lt_iff_toInt_lt, ti_add, ti_sub, ti_mul, Int32.reduceToInt] at *; omega))).symm, a88.trans (if_pos (by first | omega | (simp only [Int32.le_iff_toInt_le, Int32.lt_iff_toInt_lt, ti_add, ti_sub, ti_mul, Int32.reduceToInt] at *; omega))).symm⟩)⟩

set_option maxHeartbeats 4000000 in
set_option maxRecDepth 100000 in
theorem s_X11_end_n2v {N : Nat} (hN : 1048576 ≤ N) {x1 : Int32} {σ0 : zS}  (hR : RF σ0.2.2) (hNw : σ0.2.2 0 4 = 2) (hPw : σ0.2.2 0 5 = 28) (hC : CF σ0.1) : Ok (f_X11_end N 0 x1 σ0) (fun r => Tr [0] σ0 r.2 ∧ (CF r.2.1 ∧ r.1 = enV x1 (σ0.1 0 1) ∧ r.2.1 0 1 = enT x1 (σ0.1 0 1))) := by
  have hT : Tr [0] σ0 σ0 := Tr.rf
  obtain ⟨hW2, hW28, hW132, hW158, hW184, hL, hD, hu, ht⟩ := hC
  have hn := hW2.1
  have he := hW2.2.1
  have hD0 := hD
  have hL0 := hL
  have q10 := ti_one10 (x := σ0.1 2 0) hn.1 hn.2
  have t0 := ht
  rw [f_X11_end.eq_1]
  refine ok_if (fun hc1 => ?_) (fun hc1 => ?_)
  · exact ok_some ⟨hT, (show CF σ0.1 ∧ (-1 : Int32) = enV x1 (σ0.1 0 1) ∧ σ0.1 0 1 = enT x1 (σ0.1 0 1) from by first | exact ⟨⟨hW2, hW28, hW132, hW158, hW184, hL, hD, hu, ht⟩, (if_neg (by first | omega | (simp only [Int32.le_iff_toInt_le, Int32.lt_iff_toInt_lt, ti_add, ti_sub, ti_mul, Int32.reduceToInt] at *; omega))).symm, (if_neg (by first | omega | (simp only [Int32.le_iff_toInt_le, Int32.lt_iff_toInt_lt, ti_add, ti_sub, ti_mul, Int32.reduceToInt] at *; omega))).symm⟩ | exact ⟨⟨hW2, hW28, hW132, hW158, hW184, hL, hD, hu, ht⟩, (if_pos (by first | omega | (simp only [Int32.le_iff_toInt_le, Int32.lt_iff_toInt_lt, ti_add, ti_sub, ti_mul, Int32.reduceToInt] at *; omega))).symm, a16.trans (if_pos (by first | omega | (simp only [Int32.le_iff_toInt_le, Int32.lt_iff_toInt_lt, ti_add, ti_sub, ti_mul, Int32.reduceToInt] at *; omega))).symm⟩)⟩
  · refine ok_gI rfl ?_
    refine ok_if (fun hc3 => ?_) (fun hc3 => ?_)
    · refine ok_pI hT rfl (by decide) (fun σ4 eσ4 hOσ4 hT => ?_)
      have a16 := zI_atI eσ4
      have hW2 : WI 2 σ4.1 := WI.tr hOσ4 (by decide) (by decide) (by decide) hW2
      have hW28 : WI 28 σ4.1 := WI.tr hOσ4 (by decide) (by decide) (by decide) hW28
      have hW132 : WI 132 σ4.1 := WI.tr hOσ4 (by decide) (by decide) (by decide) hW132
      have hW158 : WI 158 σ4.1 := WI.tr hOσ4 (by decide) (by decide) (by decide) hW158
      have hW184 : WI 184 σ4.1 := WI.tr hOσ4 (by decide) (by decide) (by decide) hW184
      have hL : SI σ4.1 := SI.tr hOσ4 (by decide) (by decide) (by decide) (by decide) hL
      have hD : RD σ4.1 := RD.tr hOσ4 (by decide) (by decide) (by decide) (by decide) hD
      have hu : 2 ≤ (σ4.1 111 8).toInt ∧ (σ4.1 111 8).toInt ≤ 1600 := by rw [hOσ4.2 111 (by decide)] <;> exact hu
      have ht : 0 ≤ (σ4.1 0 1).toInt ∧ (σ4.1 0 1).toInt ≤ 600 := by rw [zI_atI eσ4]; simp only [Int32.le_iff_toInt_le, Int32.lt_iff_toInt_lt, ti_add, ti_sub, ti_mul, Int32.reduceToInt] at *; omega
      exact ok_some ⟨hT, (show CF σ4.1 ∧ x1 = enV x1 (σ0.1 0 1) ∧ σ4.1 0 1 = enT x1 (σ0.1 0 1) from by first | exact ⟨⟨hW2, hW28, hW132, hW158, hW184, hL, hD, hu, ht⟩, (if_neg (by first | omega | (simp only [Int32.le_iff_toInt_le, Int32.lt_iff_toInt_lt, ti_add, ti_sub, ti_mul, Int32.reduceToInt] at *; omega))).symm, (if_neg (by first | omega | (simp only [Int32.le_iff_toInt_le, Int32.lt_iff_toInt_lt, ti_add, ti_sub, ti_mul, Int32.reduceToInt] at *; omega))).symm⟩ | exact ⟨⟨hW2, hW28, hW132, hW158, hW184, hL, hD, hu, ht⟩, (if_pos (by first | omega | (simp only [Int32.le_iff_toInt_le, Int32.lt_iff_toInt_lt, ti_add, ti_sub, ti_mul, Int32.reduceToInt] at *; omega))).symm, a16.trans (if_pos (by first | omega | (simp only [Int32.le_iff_toInt_le, Int32.lt_iff_toInt_lt, ti_add, ti_sub, ti_mul, Int32.reduceToInt] at *; omega))).symm⟩)⟩
    · exact ok_some ⟨hT, (show CF σ0.1 ∧ (-1 : Int32) = enV x1 (σ0.1 0 1) ∧ σ0.1 0 1 = enT x1 (σ0.1 0 1) from by first | exact ⟨⟨hW2, hW28, hW132, hW158, hW184, hL, hD, hu, ht⟩, (if_neg (by first | omega | (simp only [Int32.le_iff_toInt_le, Int32.lt_iff_toInt_lt, ti_add, ti_sub, ti_mul, Int32.reduceToInt] at *; omega))).symm, (if_neg (by first | omega | (simp only [Int32.le_iff_toInt_le, Int32.lt_iff_toInt_lt, ti_add, ti_sub, ti_mul, Int32.reduceToInt] at *; omega))).symm⟩ | exact ⟨⟨hW2, hW28, hW132, hW158, hW184, hL, hD, hu, ht⟩, (if_pos (by first | omega | (simp only [Int32.le_iff_toInt_le, Int32.lt_iff_toInt_lt, ti_add, ti_sub, ti_mul, Int32.reduceToInt] at *; omega))).symm, a16.trans (if_pos (by first | omega | (simp only [Int32.le_iff_toInt_le, Int32.lt_iff_toInt_lt, ti_add, ti_sub, ti_mul, Int32.reduceToInt] at *; omega))).symm⟩)⟩

set_option maxHeartbeats 4000000 in
set_option maxRecDepth 100000 in
theorem s_X11_put_n2v {N : Nat} (hN : 1048576 ≤ N) {x1 : Int32} {σ0 : zS}  (hR : RF σ0.2.2) (hNw : σ0.2.2 0 4 = 2) (hPw : σ0.2.2 0 5 = 28) (hC : CF σ0.1) : Ok (f_X11_put N 0 x1 σ0) (fun r => Tr [0, 57, 58, 59, 61, 62, 63, 64, 65, 106, 107] σ0 r.2 ∧ (CF r.2.1 ∧ r.2.1 0 1 = 0)) := by
  have hT : Tr [0, 57, 58, 59, 61, 62, 63, 64, 65, 106, 107] σ0 σ0 := Tr.rf
  obtain ⟨hW2, hW28, hW132, hW158, hW184, hL, hD, hu, ht⟩ := hC
  have hn := hW2.1
  have he := hW2.2.1
  have hD0 := hD
  have hL0 := hL
  have q10 := ti_one10 (x := σ0.1 2 0) hn.1 hn.2
  rw [f_X11_put.eq_1]
  refine ok_gC rfl ?_
  refine ok_zbT (Q := fun V σ => (V = 0 ∨ V = 1) ∧ (¬ V = 0 → 0 ≤ x1.toInt ∧ x1.toInt ≤ 9)) hT (s_X11_isRegister_n2 hN (hR.tr hT) ((hT.1.1 0 4 (by decide)).trans hNw) (by first | exact hn | omega | (rw [hT.2 2 (by decide)]; exact hn))) (fun _ h9 => absurd h9 List.not_mem_nil) (fun v1 σ2 hOσ2 hT hqv1 => ?_)
  have hqv1 : (v1 = 0 ∨ v1 = 1) ∧ (¬ v1 = 0 → 0 ≤ x1.toInt ∧ x1.toInt ≤ 9) := hqv1
  have hW2 : WI 2 σ2.1 := WI.tr hOσ2 (by decide) (by decide) (by decide) hW2
  have hW28 : WI 28 σ2.1 := WI.tr hOσ2 (by decide) (by decide) (by decide) hW28
  have hW132 : WI 132 σ2.1 := WI.tr hOσ2 (by decide) (by decide) (by decide) hW132
  have hW158 : WI 158 σ2.1 := WI.tr hOσ2 (by decide) (by decide) (by decide) hW158
  have hW184 : WI 184 σ2.1 := WI.tr hOσ2 (by decide) (by decide) (by decide) hW184
  have hL : SI σ2.1 := SI.tr hOσ2 (by decide) (by decide) (by decide) (by decide) hL
  have hD : RD σ2.1 := RD.tr hOσ2 (by decide) (by decide) (by decide) (by decide) hD
  have hu : 2 ≤ (σ2.1 111 8).toInt ∧ (σ2.1 111 8).toInt ≤ 1600 := by rw [hOσ2.2 111 (by decide)] <;> exact hu
  have ht : 0 ≤ (σ2.1 0 1).toInt ∧ (σ2.1 0 1).toInt ≤ 600 := by rw [hOσ2.2 0 (by decide)] <;> exact ht
  refine ok_if (fun hc3 => ?_) (fun hc3 => ?_)
  · refine ok_pI hT rfl (by decide) (fun σ4 eσ4 hOσ4 hT => ?_)
    have z0 := zI_atI eσ4
    have hW2 : WI 2 σ4.1 := WI.tr hOσ4 (by decide) (by decide) (by decide) hW2
    have hW28 : WI 28 σ4.1 := WI.tr hOσ4 (by decide) (by decide) (by decide) hW28
    have hW132 : WI 132 σ4.1 := WI.tr hOσ4 (by decide) (by decide) (by decide) hW132
    have hW158 : WI 158 σ4.1 := WI.tr hOσ4 (by decide) (by decide) (by decide) hW158
    have hW184 : WI 184 σ4.1 := WI.tr hOσ4 (by decide) (by decide) (by decide) hW184
    have hL : SI σ4.1 := SI.tr hOσ4 (by decide) (by decide) (by decide) (by decide) hL
    have hD : RD σ4.1 := RD.tr hOσ4 (by decide) (by decide) (by decide) (by decide) hD
    have hu : 2 ≤ (σ4.1 111 8).toInt ∧ (σ4.1 111 8).toInt ≤ 1600 := by rw [hOσ4.2 111 (by decide)] <;> exact hu
    have ht : 0 ≤ (σ4.1 0 1).toInt ∧ (σ4.1 0 1).toInt ≤ 600 := by first | (rw [zI_atI eσ4]; decide) | (rw [HQ]; decide)
    exact ok_some ⟨hT, (show CF σ4.1 ∧ σ4.1 0 1 = 0 from by exact ⟨⟨hW2, hW28, hW132, hW158, hW184, hL, hD, hu, ht⟩, z0⟩)⟩
  · have qhc3 := hqv1.2 hc3
    refine ok_gR (v := 57) hT rfl (hR 0 9 rfl) ?_
    refine ok_gR (v := 1) hT rfl (hR 0 0 rfl) ?_
    refine ok_gI rfl ?_
    refine ok_gR (v := 2) hT rfl hNw ?_
    refine ok_gI0 hT rfl (by decide) ?_
    refine ok_gC rfl ?_
    refine ok_zbT (Q := fun V σ => (V = 0 ∨ V = 1) ∧ RD σ.1) hT (s_X5_readSum_1 hN (hR.tr hT) (hD)) (by decide) (fun v10 σ11 hOσ11 hT hqv10 => ?_)
    have hqv10 : (v10 = 0 ∨ v10 = 1) ∧ RD σ11.1 := hqv10
    have hW2 : WI 2 σ11.1 := WI.tr hOσ11 (by decide) (by decide) (by decide) hW2
    have hW28 : WI 28 σ11.1 := WI.tr hOσ11 (by decide) (by decide) (by decide) hW28
    have hW132 : WI 132 σ11.1 := WI.tr hOσ11 (by decide) (by decide) (by decide) hW132
    have hW158 : WI 158 σ11.1 := WI.tr hOσ11 (by decide) (by decide) (by decide) hW158
    have hW184 : WI 184 σ11.1 := WI.tr hOσ11 (by decide) (by decide) (by decide) hW184
    have hL : SI σ11.1 := SI.tr hOσ11 (by decide) (by decide) (by decide) (by decide) hL
    have hD : RD σ11.1 := hqv10.2
    have hu : 2 ≤ (σ11.1 111 8).toInt ∧ (σ11.1 111 8).toInt ≤ 1600 := by rw [hOσ11.2 111 (by decide)] <;> exact hu
    have ht : 0 ≤ (σ11.1 0 1).toInt ∧ (σ11.1 0 1).toInt ≤ 600 := by rw [hOσ11.2 0 (by decide)] <;> exact ht
    refine ok_gC rfl ?_
    refine ok_zbT (Q := fun V σ => σ.1 0 1 = 0) hT (s_X11_takeFault hN (hR.tr hT) ) (by decide) (fun v12 σ13 hOσ13 hT hqv12 => ?_)
    have hqv12 : σ13.1 0 1 = 0 := hqv12
    have hW2 : WI 2 σ13.1 := WI.tr hOσ13 (by decide) (by decide) (by decide) hW2
    have hW28 : WI 28 σ13.1 := WI.tr hOσ13 (by decide) (by decide) (by decide) hW28
    have hW132 : WI 132 σ13.1 := WI.tr hOσ13 (by decide) (by decide) (by decide) hW132
    have hW158 : WI 158 σ13.1 := WI.tr hOσ13 (by decide) (by decide) (by decide) hW158
    have hW184 : WI 184 σ13.1 := WI.tr hOσ13 (by decide) (by decide) (by decide) hW184
    have hL : SI σ13.1 := SI.tr hOσ13 (by decide) (by decide) (by decide) (by decide) hL
    have hD : RD σ13.1 := RD.tr hOσ13 (by decide) (by decide) (by decide) (by decide) hD
    have hu : 2 ≤ (σ13.1 111 8).toInt ∧ (σ13.1 111 8).toInt ≤ 1600 := by rw [hOσ13.2 111 (by decide)] <;> exact hu
    have ht : 0 ≤ (σ13.1 0 1).toInt ∧ (σ13.1 0 1).toInt ≤ 600 := by first | (rw [zI_atI eσ13]; decide) | (rw [hqv12]; decide)
    have z0 := hqv12
    refine ok_if (fun hc14 => ?_) (fun hc14 => ?_)
    · exact ok_some ⟨hT, (show CF σ13.1 ∧ σ13.1 0 1 = 0 from by exact ⟨⟨hW2, hW28, hW132, hW158, hW184, hL, hD, hu, ht⟩, z0⟩)⟩
    · refine ok_gR (v := 65) hT rfl (hR 0 10 rfl) ?_
      refine ok_gR (v := 57) hT rfl (hR 0 9 rfl) ?_
      refine ok_gR (v := 2) hT rfl hNw ?_
      refine ok_gR (v := 99) hT rfl (hR 0 11 rfl) ?_
      refine ok_gC rfl ?_
      refine ok_zbT (Q := fun V σ => True) hT (s_X7_run_57_2_99 hN (hR.tr hT) (by first | exact hn | omega | (rw [hT.2 2 (by decide)]; exact hn))) (by decide) (fun v19 σ20 hOσ20 hT hqv19 => ?_)
      have hW2 : WI 2 σ20.1 := WI.tr hOσ20 (by decide) (by decide) (by decide) hW2
      have hW28 : WI 28 σ20.1 := WI.tr hOσ20 (by decide) (by decide) (by decide) hW28
      have hW132 : WI 132 σ20.1 := WI.tr hOσ20 (by decide) (by decide) (by decide) hW132
      have hW158 : WI 158 σ20.1 := WI.tr hOσ20 (by decide) (by decide) (by decide) hW158
      have hW184 : WI 184 σ20.1 := WI.tr hOσ20 (by decide) (by decide) (by decide) hW184
      have hL : SI σ20.1 := SI.tr hOσ20 (by decide) (by decide) (by decide) (by decide) hL
      have hD : RD σ20.1 := RD.tr hOσ20 (by decide) (by decide) (by decide) (by decide) hD
      have hu : 2 ≤ (σ20.1 111 8).toInt ∧ (σ20.1 111 8).toInt ≤ 1600 := by rw [hOσ20.2 111 (by decide)] <;> exact hu
      have ht : 0 ≤ (σ20.1 0 1).toInt ∧ (σ20.1 0 1).toInt ≤ 600 := by rw [hOσ20.2 0 (by decide)] <;> exact ht
      have z0 := (congrFun (hOσ20.2 0 (by decide)) 1).trans z0
      refine ok_gR (v := 2) hT rfl hNw ?_
      refine ok_gR (v := 7) hT rfl (hR 2 7 rfl) ?_
      obtain ⟨q24, eq24, kq24⟩ := arrF hR (k := 7) (i := x1) rfl (by first | omega | decide | (have q1 := hD.1; have q2 := hD.2.1; simp only [Int32.le_iff_toInt_le, Int32.lt_iff_toInt_lt, ti_add, ti_sub, ti_mul, Int32.reduceToInt] at *; omega)) (by first | omega | decide | (have q1 := hD.1; have q2 := hD.2.1; simp only [Int32.le_iff_toInt_le, Int32.lt_iff_toInt_lt, ti_add, ti_sub, ti_mul, Int32.reduceToInt] at *; omega))
      refine ok_aR (v := q24) hT rfl (by first | omega | decide | (have q1 := hD.1; have q2 := hD.2.1; simp only [Int32.le_iff_toInt_le, Int32.lt_iff_toInt_lt, ti_add, ti_sub, ti_mul, Int32.reduceToInt] at *; omega)) (by first | omega | decide | (have q1 := hD.1; have q2 := hD.2.1; simp only [Int32.le_iff_toInt_le, Int32.lt_iff_toInt_lt, ti_add, ti_sub, ti_mul, Int32.reduceToInt] at *; omega)) eq24 ?_
      refine ok_gC kq24 ?_
      refine ok_zbT (Q := fun V σ => True) hT (s_X2_tally hN (hR.tr hT) kq24) (fun _ h9 => absurd h9 List.not_mem_nil) (fun v25 σ26 hOσ26 hT hqv25 => ?_)
      have hW2 : WI 2 σ26.1 := WI.tr hOσ26 (by decide) (by decide) (by decide) hW2
      have hW28 : WI 28 σ26.1 := WI.tr hOσ26 (by decide) (by decide) (by decide) hW28
      have hW132 : WI 132 σ26.1 := WI.tr hOσ26 (by decide) (by decide) (by decide) hW132
      have hW158 : WI 158 σ26.1 := WI.tr hOσ26 (by decide) (by decide) (by decide) hW158
      have hW184 : WI 184 σ26.1 := WI.tr hOσ26 (by decide) (by decide) (by decide) hW184
      have hL : SI σ26.1 := SI.tr hOσ26 (by decide) (by decide) (by decide) (by decide) hL
      have hD : RD σ26.1 := RD.tr hOσ26 (by decide) (by decide) (by decide) (by decide) hD
      have hu : 2 ≤ (σ26.1 111 8).toInt ∧ (σ26.1 111 8).toInt ≤ 1600 := by rw [hOσ26.2 111 (by decide)] <;> exact hu
      have ht : 0 ≤ (σ26.1 0 1).toInt ∧ (σ26.1 0 1).toInt ≤ 600 := by rw [hOσ26.2 0 (by decide)] <;> exact ht
      have z0 := (congrFun (hOσ26.2 0 (by decide)) 1).trans z0
      exact ok_some ⟨hT, (show CF σ26.1 ∧ σ26.1 0 1 = 0 from by exact ⟨⟨hW2, hW28, hW132, hW158, hW184, hL, hD, hu, ht⟩, z0⟩)⟩

set_option maxHeartbeats 4000000 in
set_option maxRecDepth 100000 in
theorem s_X11_keep_n2_0v {N : Nat} (hN : 1048576 ≤ N)  {σ0 : zS}  (hR : RF σ0.2.2) (hNw : σ0.2.2 0 4 = 2) (hPw : σ0.2.2 0 5 = 28) (hC : CF σ0.1) (hB : ZB σ0.1) : Ok (f_X11_keep N 0 0 σ0) (fun r => Tr [55, 132, 133, 134, 135, 136] σ0 r.2 ∧ (CF r.2.1 ∧ ZB r.2.1 ∧ r.1 = 0 ∧ ∀ j, r.2.1 55 j = if j = 0 then vp_nar .boolean 1 else σ0.1 55 j)) := by
  have hT : Tr [55, 132, 133, 134, 135, 136] σ0 σ0 := Tr.rf
  obtain ⟨hW2, hW28, hW132, hW158, hW184, hL, hD, hu, ht⟩ := hC
  have hn := hW2.1
  have he := hW2.2.1
  have hD0 := hD
  have hL0 := hL
  have q10 := ti_one10 (x := σ0.1 2 0) hn.1 hn.2
  rw [f_X11_keep.eq_1]
  refine ok_if (fun hc1 => ?_) (fun hc1 => ?_)
  · exact absurd hc1 (by decide)
  · refine ok_if (fun hc2 => ?_) (fun hc2 => ?_)
    · refine ok_gR (v := 54) hT rfl (hR 0 6 rfl) ?_
      refine ok_aR (v := 132) hT rfl (by first | omega | decide | (have q1 := hD.1; have q2 := hD.2.1; simp only [Int32.le_iff_toInt_le, Int32.lt_iff_toInt_lt, ti_add, ti_sub, ti_mul, Int32.reduceToInt] at *; omega)) (by first | omega | decide | (have q1 := hD.1; have q2 := hD.2.1; simp only [Int32.le_iff_toInt_le, Int32.lt_iff_toInt_lt, ti_add, ti_sub, ti_mul, Int32.reduceToInt] at *; omega)) (hR 54 0 rfl) ?_
      refine ok_gR (v := 2) hT rfl hNw ?_
      refine ok_gC rfl ?_
      refine ok_zbT (Q := fun V σ => WI 132 σ.1) hT (s_X10_copyFrom_132_2 hN (hR.tr hT) (hW132) (hW2)) (by decide) (fun v6 σ7 hOσ7 hT hqv6 => ?_)
      have hqv6 : WI 132 σ7.1 := hqv6
      have r55_σ7 : σ7.1 55 = σ0.1 55 := hOσ7.2 55 (by decide)
      have hW2 : WI 2 σ7.1 := WI.tr hOσ7 (by decide) (by decide) (by decide) hW2
      have hW28 : WI 28 σ7.1 := WI.tr hOσ7 (by decide) (by decide) (by decide) hW28
      have hW132 : WI 132 σ7.1 := hqv6
      have hW158 : WI 158 σ7.1 := WI.tr hOσ7 (by decide) (by decide) (by decide) hW158
      have hW184 : WI 184 σ7.1 := WI.tr hOσ7 (by decide) (by decide) (by decide) hW184
      have hL : SI σ7.1 := SI.tr hOσ7 (by decide) (by decide) (by decide) (by decide) hL
      have hD : RD σ7.1 := RD.tr hOσ7 (by decide) (by decide) (by decide) (by decide) hD
      have hu : 2 ≤ (σ7.1 111 8).toInt ∧ (σ7.1 111 8).toInt ≤ 1600 := by rw [hOσ7.2 111 (by decide)] <;> exact hu
      have ht : 0 ≤ (σ7.1 0 1).toInt ∧ (σ7.1 0 1).toInt ≤ 600 := by rw [hOσ7.2 0 (by decide)] <;> exact ht
      have hB : ZB σ7.1 := ZB.tr hOσ7 (by decide) hB
      refine ok_gR (v := 55) hT rfl (hR 0 7 rfl) ?_
      refine ok_s16 hT rfl (by decide) (by first | omega | decide | (have q1 := hD.1; have q2 := hD.2.1; simp only [Int32.le_iff_toInt_le, Int32.lt_iff_toInt_lt, ti_add, ti_sub, ti_mul, Int32.reduceToInt] at *; omega)) (by first | omega | decide | (have q1 := hD.1; have q2 := hD.2.1; simp only [Int32.le_iff_toInt_le, Int32.lt_iff_toInt_lt, ti_add, ti_sub, ti_mul, Int32.reduceToInt] at *; omega)) (fun σ9 eσ9 hOσ9 hT => ?_)
      have u31 := upd_at eσ9 r55_σ7
      have hW2 : WI 2 σ9.1 := WI.tr hOσ9 (by decide) (by decide) (by decide) hW2
      have hW28 : WI 28 σ9.1 := WI.tr hOσ9 (by decide) (by decide) (by decide) hW28
      have hW132 : WI 132 σ9.1 := WI.tr hOσ9 (by decide) (by decide) (by decide) hW132
      have hW158 : WI 158 σ9.1 := WI.tr hOσ9 (by decide) (by decide) (by decide) hW158
      have hW184 : WI 184 σ9.1 := WI.tr hOσ9 (by decide) (by decide) (by decide) hW184
      have hL : SI σ9.1 := SI.tr hOσ9 (by decide) (by decide) (by decide) (by decide) hL
      have hD : RD σ9.1 := RD.tr hOσ9 (by decide) (by decide) (by decide) (by decide) hD
      have hu : 2 ≤ (σ9.1 111 8).toInt ∧ (σ9.1 111 8).toInt ≤ 1600 := by rw [hOσ9.2 111 (by decide)] <;> exact hu
      have ht : 0 ≤ (σ9.1 0 1).toInt ∧ (σ9.1 0 1).toInt ≤ 600 := by rw [hOσ9.2 0 (by decide)] <;> exact ht
      have hB : ZB σ9.1 := ZB_s eσ9 hB
      exact ok_some ⟨hT, (show CF σ9.1 ∧ ZB σ9.1 ∧ (0 : Int32) = 0 ∧ ∀ j, σ9.1 55 j = if j = 0 then vp_nar .boolean 1 else σ0.1 55 j from by exact ⟨⟨hW2, hW28, hW132, hW158, hW184, hL, hD, hu, ht⟩, hB, rfl, u31⟩)⟩
    · exact absurd hc2 (by decide)

set_option maxHeartbeats 4000000 in
set_option maxRecDepth 100000 in
theorem s_X11_back_n2_0v {N : Nat} (hN : 1048576 ≤ N)  {σ0 : zS}  (hR : RF σ0.2.2) (hNw : σ0.2.2 0 4 = 2) (hPw : σ0.2.2 0 5 = 28) (hC : CF σ0.1) : Ok (f_X11_back N 0 0 σ0) (fun r => Tr [2, 3, 4, 5, 6] σ0 r.2 ∧ (CF r.2.1 ∧ r.1 = if σ0.1 55 0 = 0 then -6 else 0)) := by
  have hT : Tr [2, 3, 4, 5, 6] σ0 σ0 := Tr.rf
  obtain ⟨hW2, hW28, hW132, hW158, hW184, hL, hD, hu, ht⟩ := hC
  have hn := hW2.1
  have he := hW2.2.1
  have hD0 := hD
  have hL0 := hL
  have q10 := ti_one10 (x := σ0.1 2 0) hn.1 hn.2
  rw [f_X11_back.eq_1]
  refine ok_if (fun hc1 => ?_) (fun hc1 => ?_)
  · exact absurd hc1 (by decide)
  · refine ok_if (fun hc2 => ?_) (fun hc2 => ?_)
    · refine ok_gR (v := 55) hT rfl (hR 0 7 rfl) ?_
      refine ok_aIn rfl (by first | omega | decide | (have q1 := hD.1; have q2 := hD.2.1; simp only [Int32.le_iff_toInt_le, Int32.lt_iff_toInt_lt, ti_add, ti_sub, ti_mul, Int32.reduceToInt] at *; omega)) (by first | omega | decide | (have q1 := hD.1; have q2 := hD.2.1; simp only [Int32.le_iff_toInt_le, Int32.lt_iff_toInt_lt, ti_add, ti_sub, ti_mul, Int32.reduceToInt] at *; omega)) (fun v4 ev4 => ?_)
      have w17 : v4 = σ0.1 55 0 := ev4
      refine ok_if (fun hc5 => ?_) (fun hc5 => ?_)
      · have e18 := hc5
        exact ok_some ⟨hT, (show CF σ0.1 ∧ (-6 : Int32) = if σ0.1 55 0 = 0 then -6 else 0 from by first | exact ⟨⟨hW2, hW28, hW132, hW158, hW184, hL, hD, hu, ht⟩, (if_pos (w17 ▸ e18)).symm⟩ | exact ⟨⟨hW2, hW28, hW132, hW158, hW184, hL, hD, hu, ht⟩, (if_neg (w17 ▸ e18)).symm⟩)⟩
      · have e18 := hc5
        refine ok_gR (v := 2) hT rfl hNw ?_
        refine ok_gR (v := 54) hT rfl (hR 0 6 rfl) ?_
        refine ok_aR (v := 132) hT rfl (by first | omega | decide | (have q1 := hD.1; have q2 := hD.2.1; simp only [Int32.le_iff_toInt_le, Int32.lt_iff_toInt_lt, ti_add, ti_sub, ti_mul, Int32.reduceToInt] at *; omega)) (by first | omega | decide | (have q1 := hD.1; have q2 := hD.2.1; simp only [Int32.le_iff_toInt_le, Int32.lt_iff_toInt_lt, ti_add, ti_sub, ti_mul, Int32.reduceToInt] at *; omega)) (hR 54 0 rfl) ?_
        refine ok_gC rfl ?_
        refine ok_zbT (Q := fun V σ => WI 2 σ.1) hT (s_X10_copyFrom_2_132 hN (hR.tr hT) (hW2) (hW132)) (by decide) (fun v9 σ10 hOσ10 hT hqv9 => ?_)
        have hqv9 : WI 2 σ10.1 := hqv9
        have hW2 : WI 2 σ10.1 := hqv9
        have hW28 : WI 28 σ10.1 := WI.tr hOσ10 (by decide) (by decide) (by decide) hW28
        have hW132 : WI 132 σ10.1 := WI.tr hOσ10 (by decide) (by decide) (by decide) hW132
        have hW158 : WI 158 σ10.1 := WI.tr hOσ10 (by decide) (by decide) (by decide) hW158
        have hW184 : WI 184 σ10.1 := WI.tr hOσ10 (by decide) (by decide) (by decide) hW184
        have hL : SI σ10.1 := SI.tr hOσ10 (by decide) (by decide) (by decide) (by decide) hL
        have hD : RD σ10.1 := RD.tr hOσ10 (by decide) (by decide) (by decide) (by decide) hD
        have hu : 2 ≤ (σ10.1 111 8).toInt ∧ (σ10.1 111 8).toInt ≤ 1600 := by rw [hOσ10.2 111 (by decide)] <;> exact hu
        have ht : 0 ≤ (σ10.1 0 1).toInt ∧ (σ10.1 0 1).toInt ≤ 600 := by rw [hOσ10.2 0 (by decide)] <;> exact ht
        exact ok_some ⟨hT, (show CF σ10.1 ∧ (0 : Int32) = if σ0.1 55 0 = 0 then -6 else 0 from by first | exact ⟨⟨hW2, hW28, hW132, hW158, hW184, hL, hD, hu, ht⟩, (if_pos (w17 ▸ e18)).symm⟩ | exact ⟨⟨hW2, hW28, hW132, hW158, hW184, hL, hD, hu, ht⟩, (if_neg (w17 ▸ e18)).symm⟩)⟩
    · exact absurd hc2 (by decide)

set_option maxHeartbeats 4000000 in
set_option maxRecDepth 100000 in
theorem s_X11_keep_n2_1v {N : Nat} (hN : 1048576 ≤ N)  {σ0 : zS}  (hR : RF σ0.2.2) (hNw : σ0.2.2 0 4 = 2) (hPw : σ0.2.2 0 5 = 28) (hC : CF σ0.1) (hB : ZB σ0.1) : Ok (f_X11_keep N 0 1 σ0) (fun r => Tr [55, 158, 159, 160, 161, 162] σ0 r.2 ∧ (CF r.2.1 ∧ ZB r.2.1 ∧ r.1 = 0 ∧ ∀ j, r.2.1 55 j = if j = 1 then vp_nar .boolean 1 else σ0.1 55 j)) := by
  have hT : Tr [55, 158, 159, 160, 161, 162] σ0 σ0 := Tr.rf
  obtain ⟨hW2, hW28, hW132, hW158, hW184, hL, hD, hu, ht⟩ := hC
  have hn := hW2.1
  have he := hW2.2.1
  have hD0 := hD
  have hL0 := hL
  have q10 := ti_one10 (x := σ0.1 2 0) hn.1 hn.2
  rw [f_X11_keep.eq_1]
  refine ok_if (fun hc1 => ?_) (fun hc1 => ?_)
  · exact absurd hc1 (by decide)
  · refine ok_if (fun hc2 => ?_) (fun hc2 => ?_)
    · refine ok_gR (v := 54) hT rfl (hR 0 6 rfl) ?_
      refine ok_aR (v := 158) hT rfl (by first | omega | decide | (have q1 := hD.1; have q2 := hD.2.1; simp only [Int32.le_iff_toInt_le, Int32.lt_iff_toInt_lt, ti_add, ti_sub, ti_mul, Int32.reduceToInt] at *; omega)) (by first | omega | decide | (have q1 := hD.1; have q2 := hD.2.1; simp only [Int32.le_iff_toInt_le, Int32.lt_iff_toInt_lt, ti_add, ti_sub, ti_mul, Int32.reduceToInt] at *; omega)) (hR 54 1 rfl) ?_
      refine ok_gR (v := 2) hT rfl hNw ?_
      refine ok_gC rfl ?_
      refine ok_zbT (Q := fun V σ => WI 158 σ.1) hT (s_X10_copyFrom_158_2 hN (hR.tr hT) (hW158) (hW2)) (by decide) (fun v6 σ7 hOσ7 hT hqv6 => ?_)
      have hqv6 : WI 158 σ7.1 := hqv6
      have r55_σ7 : σ7.1 55 = σ0.1 55 := hOσ7.2 55 (by decide)
      have hW2 : WI 2 σ7.1 := WI.tr hOσ7 (by decide) (by decide) (by decide) hW2
      have hW28 : WI 28 σ7.1 := WI.tr hOσ7 (by decide) (by decide) (by decide) hW28
      have hW132 : WI 132 σ7.1 := WI.tr hOσ7 (by decide) (by decide) (by decide) hW132
      have hW158 : WI 158 σ7.1 := hqv6
      have hW184 : WI 184 σ7.1 := WI.tr hOσ7 (by decide) (by decide) (by decide) hW184
      have hL : SI σ7.1 := SI.tr hOσ7 (by decide) (by decide) (by decide) (by decide) hL
      have hD : RD σ7.1 := RD.tr hOσ7 (by decide) (by decide) (by decide) (by decide) hD
      have hu : 2 ≤ (σ7.1 111 8).toInt ∧ (σ7.1 111 8).toInt ≤ 1600 := by rw [hOσ7.2 111 (by decide)] <;> exact hu
      have ht : 0 ≤ (σ7.1 0 1).toInt ∧ (σ7.1 0 1).toInt ≤ 600 := by rw [hOσ7.2 0 (by decide)] <;> exact ht
      have hB : ZB σ7.1 := ZB.tr hOσ7 (by decide) hB
      refine ok_gR (v := 55) hT rfl (hR 0 7 rfl) ?_
      refine ok_s16 hT rfl (by decide) (by first | omega | decide | (have q1 := hD.1; have q2 := hD.2.1; simp only [Int32.le_iff_toInt_le, Int32.lt_iff_toInt_lt, ti_add, ti_sub, ti_mul, Int32.reduceToInt] at *; omega)) (by first | omega | decide | (have q1 := hD.1; have q2 := hD.2.1; simp only [Int32.le_iff_toInt_le, Int32.lt_iff_toInt_lt, ti_add, ti_sub, ti_mul, Int32.reduceToInt] at *; omega)) (fun σ9 eσ9 hOσ9 hT => ?_)
      have u31 := upd_at eσ9 r55_σ7
      have hW2 : WI 2 σ9.1 := WI.tr hOσ9 (by decide) (by decide) (by decide) hW2
      have hW28 : WI 28 σ9.1 := WI.tr hOσ9 (by decide) (by decide) (by decide) hW28
      have hW132 : WI 132 σ9.1 := WI.tr hOσ9 (by decide) (by decide) (by decide) hW132
      have hW158 : WI 158 σ9.1 := WI.tr hOσ9 (by decide) (by decide) (by decide) hW158
      have hW184 : WI 184 σ9.1 := WI.tr hOσ9 (by decide) (by decide) (by decide) hW184
      have hL : SI σ9.1 := SI.tr hOσ9 (by decide) (by decide) (by decide) (by decide) hL
      have hD : RD σ9.1 := RD.tr hOσ9 (by decide) (by decide) (by decide) (by decide) hD
      have hu : 2 ≤ (σ9.1 111 8).toInt ∧ (σ9.1 111 8).toInt ≤ 1600 := by rw [hOσ9.2 111 (by decide)] <;> exact hu
      have ht : 0 ≤ (σ9.1 0 1).toInt ∧ (σ9.1 0 1).toInt ≤ 600 := by rw [hOσ9.2 0 (by decide)] <;> exact ht
      have hB : ZB σ9.1 := ZB_s eσ9 hB
      exact ok_some ⟨hT, (show CF σ9.1 ∧ ZB σ9.1 ∧ (0 : Int32) = 0 ∧ ∀ j, σ9.1 55 j = if j = 1 then vp_nar .boolean 1 else σ0.1 55 j from by exact ⟨⟨hW2, hW28, hW132, hW158, hW184, hL, hD, hu, ht⟩, hB, rfl, u31⟩)⟩
    · exact absurd hc2 (by decide)

set_option maxHeartbeats 4000000 in
set_option maxRecDepth 100000 in
theorem s_X11_back_n2_1v {N : Nat} (hN : 1048576 ≤ N)  {σ0 : zS}  (hR : RF σ0.2.2) (hNw : σ0.2.2 0 4 = 2) (hPw : σ0.2.2 0 5 = 28) (hC : CF σ0.1) : Ok (f_X11_back N 0 1 σ0) (fun r => Tr [2, 3, 4, 5, 6] σ0 r.2 ∧ (CF r.2.1 ∧ r.1 = if σ0.1 55 1 = 0 then -6 else 0)) := by
  have hT : Tr [2, 3, 4, 5, 6] σ0 σ0 := Tr.rf
  obtain ⟨hW2, hW28, hW132, hW158, hW184, hL, hD, hu, ht⟩ := hC
  have hn := hW2.1
  have he := hW2.2.1
  have hD0 := hD
  have hL0 := hL
  have q10 := ti_one10 (x := σ0.1 2 0) hn.1 hn.2
  rw [f_X11_back.eq_1]
  refine ok_if (fun hc1 => ?_) (fun hc1 => ?_)
  · exact absurd hc1 (by decide)
  · refine ok_if (fun hc2 => ?_) (fun hc2 => ?_)
    · refine ok_gR (v := 55) hT rfl (hR 0 7 rfl) ?_
      refine ok_aIn rfl (by first | omega | decide | (have q1 := hD.1; have q2 := hD.2.1; simp only [Int32.le_iff_toInt_le, Int32.lt_iff_toInt_lt, ti_add, ti_sub, ti_mul, Int32.reduceToInt] at *; omega)) (by first | omega | decide | (have q1 := hD.1; have q2 := hD.2.1; simp only [Int32.le_iff_toInt_le, Int32.lt_iff_toInt_lt, ti_add, ti_sub, ti_mul, Int32.reduceToInt] at *; omega)) (fun v4 ev4 => ?_)
      have w17 : v4 = σ0.1 55 1 := ev4
      refine ok_if (fun hc5 => ?_) (fun hc5 => ?_)
      · have e18 := hc5
        exact ok_some ⟨hT, (show CF σ0.1 ∧ (-6 : Int32) = if σ0.1 55 1 = 0 then -6 else 0 from by first | exact ⟨⟨hW2, hW28, hW132, hW158, hW184, hL, hD, hu, ht⟩, (if_pos (w17 ▸ e18)).symm⟩ | exact ⟨⟨hW2, hW28, hW132, hW158, hW184, hL, hD, hu, ht⟩, (if_neg (w17 ▸ e18)).symm⟩)⟩
      · have e18 := hc5
        refine ok_gR (v := 2) hT rfl hNw ?_
        refine ok_gR (v := 54) hT rfl (hR 0 6 rfl) ?_
        refine ok_aR (v := 158) hT rfl (by first | omega | decide | (have q1 := hD.1; have q2 := hD.2.1; simp only [Int32.le_iff_toInt_le, Int32.lt_iff_toInt_lt, ti_add, ti_sub, ti_mul, Int32.reduceToInt] at *; omega)) (by first | omega | decide | (have q1 := hD.1; have q2 := hD.2.1; simp only [Int32.le_iff_toInt_le, Int32.lt_iff_toInt_lt, ti_add, ti_sub, ti_mul, Int32.reduceToInt] at *; omega)) (hR 54 1 rfl) ?_
        refine ok_gC rfl ?_
        refine ok_zbT (Q := fun V σ => WI 2 σ.1) hT (s_X10_copyFrom_2_158 hN (hR.tr hT) (hW2) (hW158)) (by decide) (fun v9 σ10 hOσ10 hT hqv9 => ?_)
        have hqv9 : WI 2 σ10.1 := hqv9
        have hW2 : WI 2 σ10.1 := hqv9
        have hW28 : WI 28 σ10.1 := WI.tr hOσ10 (by decide) (by decide) (by decide) hW28
        have hW132 : WI 132 σ10.1 := WI.tr hOσ10 (by decide) (by decide) (by decide) hW132
        have hW158 : WI 158 σ10.1 := WI.tr hOσ10 (by decide) (by decide) (by decide) hW158
        have hW184 : WI 184 σ10.1 := WI.tr hOσ10 (by decide) (by decide) (by decide) hW184
        have hL : SI σ10.1 := SI.tr hOσ10 (by decide) (by decide) (by decide) (by decide) hL
        have hD : RD σ10.1 := RD.tr hOσ10 (by decide) (by decide) (by decide) (by decide) hD
        have hu : 2 ≤ (σ10.1 111 8).toInt ∧ (σ10.1 111 8).toInt ≤ 1600 := by rw [hOσ10.2 111 (by decide)] <;> exact hu
        have ht : 0 ≤ (σ10.1 0 1).toInt ∧ (σ10.1 0 1).toInt ≤ 600 := by rw [hOσ10.2 0 (by decide)] <;> exact ht
        exact ok_some ⟨hT, (show CF σ10.1 ∧ (0 : Int32) = if σ0.1 55 1 = 0 then -6 else 0 from by first | exact ⟨⟨hW2, hW28, hW132, hW158, hW184, hL, hD, hu, ht⟩, (if_pos (w17 ▸ e18)).symm⟩ | exact ⟨⟨hW2, hW28, hW132, hW158, hW184, hL, hD, hu, ht⟩, (if_neg (w17 ▸ e18)).symm⟩)⟩
    · exact absurd hc2 (by decide)

set_option maxHeartbeats 4000000 in
set_option maxRecDepth 100000 in
theorem s_X11_keep_n2_2v {N : Nat} (hN : 1048576 ≤ N)  {σ0 : zS}  (hR : RF σ0.2.2) (hNw : σ0.2.2 0 4 = 2) (hPw : σ0.2.2 0 5 = 28) (hC : CF σ0.1) (hB : ZB σ0.1) : Ok (f_X11_keep N 0 2 σ0) (fun r => Tr [55, 184, 185, 186, 187, 188] σ0 r.2 ∧ (CF r.2.1 ∧ ZB r.2.1 ∧ r.1 = 0 ∧ ∀ j, r.2.1 55 j = if j = 2 then vp_nar .boolean 1 else σ0.1 55 j)) := by
  have hT : Tr [55, 184, 185, 186, 187, 188] σ0 σ0 := Tr.rf
  obtain ⟨hW2, hW28, hW132, hW158, hW184, hL, hD, hu, ht⟩ := hC
  have hn := hW2.1
  have he := hW2.2.1
  have hD0 := hD
  have hL0 := hL
  have q10 := ti_one10 (x := σ0.1 2 0) hn.1 hn.2
  rw [f_X11_keep.eq_1]
  refine ok_if (fun hc1 => ?_) (fun hc1 => ?_)
  · exact absurd hc1 (by decide)
  · refine ok_if (fun hc2 => ?_) (fun hc2 => ?_)
    · refine ok_gR (v := 54) hT rfl (hR 0 6 rfl) ?_
      refine ok_aR (v := 184) hT rfl (by first | omega | decide | (have q1 := hD.1; have q2 := hD.2.1; simp only [Int32.le_iff_toInt_le, Int32.lt_iff_toInt_lt, ti_add, ti_sub, ti_mul, Int32.reduceToInt] at *; omega)) (by first | omega | decide | (have q1 := hD.1; have q2 := hD.2.1; simp only [Int32.le_iff_toInt_le, Int32.lt_iff_toInt_lt, ti_add, ti_sub, ti_mul, Int32.reduceToInt] at *; omega)) (hR 54 2 rfl) ?_
      refine ok_gR (v := 2) hT rfl hNw ?_
      refine ok_gC rfl ?_
      refine ok_zbT (Q := fun V σ => WI 184 σ.1) hT (s_X10_copyFrom_184_2 hN (hR.tr hT) (hW184) (hW2)) (by decide) (fun v6 σ7 hOσ7 hT hqv6 => ?_)
      have hqv6 : WI 184 σ7.1 := hqv6
      have r55_σ7 : σ7.1 55 = σ0.1 55 := hOσ7.2 55 (by decide)
      have hW2 : WI 2 σ7.1 := WI.tr hOσ7 (by decide) (by decide) (by decide) hW2
      have hW28 : WI 28 σ7.1 := WI.tr hOσ7 (by decide) (by decide) (by decide) hW28
      have hW132 : WI 132 σ7.1 := WI.tr hOσ7 (by decide) (by decide) (by decide) hW132
      have hW158 : WI 158 σ7.1 := WI.tr hOσ7 (by decide) (by decide) (by decide) hW158
      have hW184 : WI 184 σ7.1 := hqv6
      have hL : SI σ7.1 := SI.tr hOσ7 (by decide) (by decide) (by decide) (by decide) hL
      have hD : RD σ7.1 := RD.tr hOσ7 (by decide) (by decide) (by decide) (by decide) hD
      have hu : 2 ≤ (σ7.1 111 8).toInt ∧ (σ7.1 111 8).toInt ≤ 1600 := by rw [hOσ7.2 111 (by decide)] <;> exact hu
      have ht : 0 ≤ (σ7.1 0 1).toInt ∧ (σ7.1 0 1).toInt ≤ 600 := by rw [hOσ7.2 0 (by decide)] <;> exact ht
      have hB : ZB σ7.1 := ZB.tr hOσ7 (by decide) hB
      refine ok_gR (v := 55) hT rfl (hR 0 7 rfl) ?_
      refine ok_s16 hT rfl (by decide) (by first | omega | decide | (have q1 := hD.1; have q2 := hD.2.1; simp only [Int32.le_iff_toInt_le, Int32.lt_iff_toInt_lt, ti_add, ti_sub, ti_mul, Int32.reduceToInt] at *; omega)) (by first | omega | decide | (have q1 := hD.1; have q2 := hD.2.1; simp only [Int32.le_iff_toInt_le, Int32.lt_iff_toInt_lt, ti_add, ti_sub, ti_mul, Int32.reduceToInt] at *; omega)) (fun σ9 eσ9 hOσ9 hT => ?_)
      have u31 := upd_at eσ9 r55_σ7
      have hW2 : WI 2 σ9.1 := WI.tr hOσ9 (by decide) (by decide) (by decide) hW2
      have hW28 : WI 28 σ9.1 := WI.tr hOσ9 (by decide) (by decide) (by decide) hW28
      have hW132 : WI 132 σ9.1 := WI.tr hOσ9 (by decide) (by decide) (by decide) hW132
      have hW158 : WI 158 σ9.1 := WI.tr hOσ9 (by decide) (by decide) (by decide) hW158
      have hW184 : WI 184 σ9.1 := WI.tr hOσ9 (by decide) (by decide) (by decide) hW184
      have hL : SI σ9.1 := SI.tr hOσ9 (by decide) (by decide) (by decide) (by decide) hL
      have hD : RD σ9.1 := RD.tr hOσ9 (by decide) (by decide) (by decide) (by decide) hD
      have hu : 2 ≤ (σ9.1 111 8).toInt ∧ (σ9.1 111 8).toInt ≤ 1600 := by rw [hOσ9.2 111 (by decide)] <;> exact hu
      have ht : 0 ≤ (σ9.1 0 1).toInt ∧ (σ9.1 0 1).toInt ≤ 600 := by rw [hOσ9.2 0 (by decide)] <;> exact ht
      have hB : ZB σ9.1 := ZB_s eσ9 hB
      exact ok_some ⟨hT, (show CF σ9.1 ∧ ZB σ9.1 ∧ (0 : Int32) = 0 ∧ ∀ j, σ9.1 55 j = if j = 2 then vp_nar .boolean 1 else σ0.1 55 j from by exact ⟨⟨hW2, hW28, hW132, hW158, hW184, hL, hD, hu, ht⟩, hB, rfl, u31⟩)⟩
    · exact absurd hc2 (by decide)

set_option maxHeartbeats 4000000 in
set_option maxRecDepth 100000 in
theorem s_X11_back_n2_2v {N : Nat} (hN : 1048576 ≤ N)  {σ0 : zS}  (hR : RF σ0.2.2) (hNw : σ0.2.2 0 4 = 2) (hPw : σ0.2.2 0 5 = 28) (hC : CF σ0.1) : Ok (f_X11_back N 0 2 σ0) (fun r => Tr [2, 3, 4, 5, 6] σ0 r.2 ∧ (CF r.2.1 ∧ r.1 = if σ0.1 55 2 = 0 then -6 else 0)) := by
  have hT : Tr [2, 3, 4, 5, 6] σ0 σ0 := Tr.rf
  obtain ⟨hW2, hW28, hW132, hW158, hW184, hL, hD, hu, ht⟩ := hC
  have hn := hW2.1
  have he := hW2.2.1
  have hD0 := hD
  have hL0 := hL
  have q10 := ti_one10 (x := σ0.1 2 0) hn.1 hn.2
  rw [f_X11_back.eq_1]
  refine ok_if (fun hc1 => ?_) (fun hc1 => ?_)
  · exact absurd hc1 (by decide)
  · refine ok_if (fun hc2 => ?_) (fun hc2 => ?_)
    · refine ok_gR (v := 55) hT rfl (hR 0 7 rfl) ?_
      refine ok_aIn rfl (by first | omega | decide | (have q1 := hD.1; have q2 := hD.2.1; simp only [Int32.le_iff_toInt_le, Int32.lt_iff_toInt_lt, ti_add, ti_sub, ti_mul, Int32.reduceToInt] at *; omega)) (by first | omega | decide | (have q1 := hD.1; have q2 := hD.2.1; simp only [Int32.le_iff_toInt_le, Int32.lt_iff_toInt_lt, ti_add, ti_sub, ti_mul, Int32.reduceToInt] at *; omega)) (fun v4 ev4 => ?_)
      have w17 : v4 = σ0.1 55 2 := ev4
      refine ok_if (fun hc5 => ?_) (fun hc5 => ?_)
      · have e18 := hc5
        exact ok_some ⟨hT, (show CF σ0.1 ∧ (-6 : Int32) = if σ0.1 55 2 = 0 then -6 else 0 from by first | exact ⟨⟨hW2, hW28, hW132, hW158, hW184, hL, hD, hu, ht⟩, (if_pos (w17 ▸ e18)).symm⟩ | exact ⟨⟨hW2, hW28, hW132, hW158, hW184, hL, hD, hu, ht⟩, (if_neg (w17 ▸ e18)).symm⟩)⟩
      · have e18 := hc5
        refine ok_gR (v := 2) hT rfl hNw ?_
        refine ok_gR (v := 54) hT rfl (hR 0 6 rfl) ?_
        refine ok_aR (v := 184) hT rfl (by first | omega | decide | (have q1 := hD.1; have q2 := hD.2.1; simp only [Int32.le_iff_toInt_le, Int32.lt_iff_toInt_lt, ti_add, ti_sub, ti_mul, Int32.reduceToInt] at *; omega)) (by first | omega | decide | (have q1 := hD.1; have q2 := hD.2.1; simp only [Int32.le_iff_toInt_le, Int32.lt_iff_toInt_lt, ti_add, ti_sub, ti_mul, Int32.reduceToInt] at *; omega)) (hR 54 2 rfl) ?_
        refine ok_gC rfl ?_
        refine ok_zbT (Q := fun V σ => WI 2 σ.1) hT (s_X10_copyFrom_2_184 hN (hR.tr hT) (hW2) (hW184)) (by decide) (fun v9 σ10 hOσ10 hT hqv9 => ?_)
        have hqv9 : WI 2 σ10.1 := hqv9
        have hW2 : WI 2 σ10.1 := hqv9
        have hW28 : WI 28 σ10.1 := WI.tr hOσ10 (by decide) (by decide) (by decide) hW28
        have hW132 : WI 132 σ10.1 := WI.tr hOσ10 (by decide) (by decide) (by decide) hW132
        have hW158 : WI 158 σ10.1 := WI.tr hOσ10 (by decide) (by decide) (by decide) hW158
        have hW184 : WI 184 σ10.1 := WI.tr hOσ10 (by decide) (by decide) (by decide) hW184
        have hL : SI σ10.1 := SI.tr hOσ10 (by decide) (by decide) (by decide) (by decide) hL
        have hD : RD σ10.1 := RD.tr hOσ10 (by decide) (by decide) (by decide) (by decide) hD
        have hu : 2 ≤ (σ10.1 111 8).toInt ∧ (σ10.1 111 8).toInt ≤ 1600 := by rw [hOσ10.2 111 (by decide)] <;> exact hu
        have ht : 0 ≤ (σ10.1 0 1).toInt ∧ (σ10.1 0 1).toInt ≤ 600 := by rw [hOσ10.2 0 (by decide)] <;> exact ht
        exact ok_some ⟨hT, (show CF σ10.1 ∧ (0 : Int32) = if σ0.1 55 2 = 0 then -6 else 0 from by first | exact ⟨⟨hW2, hW28, hW132, hW158, hW184, hL, hD, hu, ht⟩, (if_pos (w17 ▸ e18)).symm⟩ | exact ⟨⟨hW2, hW28, hW132, hW158, hW184, hL, hD, hu, ht⟩, (if_neg (w17 ▸ e18)).symm⟩)⟩
    · exact absurd hc2 (by decide)

set_option maxHeartbeats 4000000 in
set_option maxRecDepth 100000 in
theorem s_X11_write_n2v {N : Nat} (hN : 1048576 ≤ N) {x1 : Int32} {x2 : Int32} {x3 : Int64} {σ0 : zS}  (hR : RF σ0.2.2) (hNw : σ0.2.2 0 4 = 2) (hPw : σ0.2.2 0 5 = 28) (hC : CF σ0.1) : Ok (f_X11_write N 0 x1 x2 x3 σ0) (fun r => Tr [] σ0 r.2 ∧ (CF r.2.1 ∧ r.1 = wrV x1 x2 (σ0.1 (210 + 2 * x1.toInt.toNat) 2))) := by
  have hT : Tr [] σ0 σ0 := Tr.rf
  obtain ⟨hW2, hW28, hW132, hW158, hW184, hL, hD, hu, ht⟩ := hC
  have hn := hW2.1
  have he := hW2.2.1
  have hD0 := hD
  have hL0 := hL
  have q10 := ti_one10 (x := σ0.1 2 0) hn.1 hn.2
  rw [f_X11_write.eq_1]
  refine ok_gC rfl ?_
  refine ok_zbX (Q := fun V => (V = 0 → ¬ (0 ≤ x1.toInt ∧ x1.toInt ≤ 3)) ∧ (¬ V = 0 → 0 ≤ x1.toInt ∧ x1.toInt ≤ 3)) (x_X11_isSlot) (fun v1 hqv1 => ?_)
  refine ok_if (fun hc3 => ?_) (fun hc3 => ?_)
  · have qhc3 := hqv1.1 hc3
    exact ok_some ⟨hT, (show CF σ0.1 ∧ (-2 : Int32) = wrV x1 x2 (σ0.1 (210 + 2 * x1.toInt.toNat) 2) from by first | exact ⟨⟨hW2, hW28, hW132, hW158, hW184, hL, hD, hu, ht⟩, (if_neg (by first | omega | (simp only [Int32.le_iff_toInt_le, Int32.lt_iff_toInt_lt, ti_add, ti_sub, ti_mul, Int32.reduceToInt] at *; omega))).symm⟩ | exact ⟨⟨hW2, hW28, hW132, hW158, hW184, hL, hD, hu, ht⟩, by rw [← hqq16]; (first | exact (if_neg (by first | omega | (simp only [Int32.le_iff_toInt_le, Int32.lt_iff_toInt_lt, ti_add, ti_sub, ti_mul, Int32.reduceToInt] at *; omega))).symm | exact ((if_pos (by first | omega | (simp only [Int32.le_iff_toInt_le, Int32.lt_iff_toInt_lt, ti_add, ti_sub, ti_mul, Int32.reduceToInt] at *; omega))).trans (if_pos (by first | omega | (simp only [Int32.le_iff_toInt_le, Int32.lt_iff_toInt_lt, ti_add, ti_sub, ti_mul, Int32.reduceToInt] at *; omega)))).symm | exact ((if_pos (by first | omega | (simp only [Int32.le_iff_toInt_le, Int32.lt_iff_toInt_lt, ti_add, ti_sub, ti_mul, Int32.reduceToInt] at *; omega))).trans ((if_neg (by first | omega | (simp only [Int32.le_iff_toInt_le, Int32.lt_iff_toInt_lt, ti_add, ti_sub, ti_mul, Int32.reduceToInt] at *; omega))).trans (if_pos (by first | omega | (simp only [Int32.le_iff_toInt_le, Int32.lt_iff_toInt_lt, ti_add, ti_sub, ti_mul, Int32.reduceToInt] at *; omega))))).symm | exact ((if_pos (by first | omega | (simp only [Int32.le_iff_toInt_le, Int32.lt_iff_toInt_lt, ti_add, ti_sub, ti_mul, Int32.reduceToInt] at *; omega))).trans ((if_neg (by first | omega | (simp only [Int32.le_iff_toInt_le, Int32.lt_iff_toInt_lt, ti_add, ti_sub, ti_mul, Int32.reduceToInt] at *; omega))).trans (if_neg (by first | omega | (simp only [Int32.le_iff_toInt_le, Int32.lt_iff_toInt_lt, ti_add, ti_sub, ti_mul, Int32.reduceToInt] at *; omega))))).symm)⟩)⟩
  · have qhc3 := hqv1.2 hc3
    refine ok_gR (v := 56) hT rfl (hR 0 8 rfl) ?_
    obtain ⟨q6, eq6, kq6⟩ := arrS hR (k := 56) (i := x1) rfl (by first | omega | decide | (have q1 := hD.1; have q2 := hD.2.1; simp only [Int32.le_iff_toInt_le, Int32.lt_iff_toInt_lt, ti_add, ti_sub, ti_mul, Int32.reduceToInt] at *; omega)) (by first | omega | decide | (have q1 := hD.1; have q2 := hD.2.1; simp only [Int32.le_iff_toInt_le, Int32.lt_iff_toInt_lt, ti_add, ti_sub, ti_mul, Int32.reduceToInt] at *; omega))
    refine ok_aR (v := q6) hT rfl (by first | omega | decide | (have q1 := hD.1; have q2 := hD.2.1; simp only [Int32.le_iff_toInt_le, Int32.lt_iff_toInt_lt, ti_add, ti_sub, ti_mul, Int32.reduceToInt] at *; omega)) (by first | omega | decide | (have q1 := hD.1; have q2 := hD.2.1; simp only [Int32.le_iff_toInt_le, Int32.lt_iff_toInt_lt, ti_add, ti_sub, ti_mul, Int32.reduceToInt] at *; omega)) eq6 ?_
    have hq16 := hL0 q6 kq6
    have hqq16 := slotC hR (x := x1) (by omega) (by omega) eq6
    have KQ9 := kq6
    refine ok_gC kq6 ?_
    refine ok_zbX (Q := fun V => (V = 0 → 0 ≤ (σ0.1 q6 2).toInt) ∧ (¬ V = 0 → (σ0.1 q6 2).toInt < 0)) (x_X9_isBare (by first | exact kq4 | exact KQ9)) (fun v7 hqv7 => ?_)
    refine ok_if (fun hc9 => ?_) (fun hc9 => ?_)
    · have qhc9 := hqv7.1 hc9
      refine ok_if (fun hc10 => ?_) (fun hc10 => ?_)
      · exact ok_some ⟨hT, (show CF σ0.1 ∧ (-7 : Int32) = wrV x1 x2 (σ0.1 (210 + 2 * x1.toInt.toNat) 2) from by first | exact ⟨⟨hW2, hW28, hW132, hW158, hW184, hL, hD, hu, ht⟩, (if_neg (by first | omega | (simp only [Int32.le_iff_toInt_le, Int32.lt_iff_toInt_lt, ti_add, ti_sub, ti_mul, Int32.reduceToInt] at *; omega))).symm⟩ | exact ⟨⟨hW2, hW28, hW132, hW158, hW184, hL, hD, hu, ht⟩, by rw [← hqq16]; (first | exact (if_neg (by first | omega | (simp only [Int32.le_iff_toInt_le, Int32.lt_iff_toInt_lt, ti_add, ti_sub, ti_mul, Int32.reduceToInt] at *; omega))).symm | exact ((if_pos (by first | omega | (simp only [Int32.le_iff_toInt_le, Int32.lt_iff_toInt_lt, ti_add, ti_sub, ti_mul, Int32.reduceToInt] at *; omega))).trans (if_pos (by first | omega | (simp only [Int32.le_iff_toInt_le, Int32.lt_iff_toInt_lt, ti_add, ti_sub, ti_mul, Int32.reduceToInt] at *; omega)))).symm | exact ((if_pos (by first | omega | (simp only [Int32.le_iff_toInt_le, Int32.lt_iff_toInt_lt, ti_add, ti_sub, ti_mul, Int32.reduceToInt] at *; omega))).trans ((if_neg (by first | omega | (simp only [Int32.le_iff_toInt_le, Int32.lt_iff_toInt_lt, ti_add, ti_sub, ti_mul, Int32.reduceToInt] at *; omega))).trans (if_pos (by first | omega | (simp only [Int32.le_iff_toInt_le, Int32.lt_iff_toInt_lt, ti_add, ti_sub, ti_mul, Int32.reduceToInt] at *; omega))))).symm | exact ((if_pos (by first | omega | (simp only [Int32.le_iff_toInt_le, Int32.lt_iff_toInt_lt, ti_add, ti_sub, ti_mul, Int32.reduceToInt] at *; omega))).trans ((if_neg (by first | omega | (simp only [Int32.le_iff_toInt_le, Int32.lt_iff_toInt_lt, ti_add, ti_sub, ti_mul, Int32.reduceToInt] at *; omega))).trans (if_neg (by first | omega | (simp only [Int32.le_iff_toInt_le, Int32.lt_iff_toInt_lt, ti_add, ti_sub, ti_mul, Int32.reduceToInt] at *; omega))))).symm)⟩)⟩
      · refine ok_gI0 hT kq6 List.not_mem_nil ?_
        refine ok_if (fun hc12 => ?_) (fun hc12 => ?_)
        · refine ok_gR hT kq6 (slot_R hR kq6).1 ?_
          refine ok_gC kq6 ?_
          refine ok_zbT (Q := fun V σ => True) hT (s_X9_cut hN (hR.tr hT) kq6) (fun _ h9 => absurd h9 List.not_mem_nil) (fun v14 σ15 hOσ15 hT hqv14 => ?_)
          have hW2 : WI 2 σ15.1 := WI.tr hOσ15 (by decide) (by decide) (by decide) hW2
          have hW28 : WI 28 σ15.1 := WI.tr hOσ15 (by decide) (by decide) (by decide) hW28
          have hW132 : WI 132 σ15.1 := WI.tr hOσ15 (by decide) (by decide) (by decide) hW132
          have hW158 : WI 158 σ15.1 := WI.tr hOσ15 (by decide) (by decide) (by decide) hW158
          have hW184 : WI 184 σ15.1 := WI.tr hOσ15 (by decide) (by decide) (by decide) hW184
          have hL : SI σ15.1 := SI.tr hOσ15 (by decide) (by decide) (by decide) (by decide) hL
          have hD : RD σ15.1 := RD.tr hOσ15 (by decide) (by decide) (by decide) (by decide) hD
          have hu : 2 ≤ (σ15.1 111 8).toInt ∧ (σ15.1 111 8).toInt ≤ 1600 := by rw [hOσ15.2 111 (by decide)] <;> exact hu
          have ht : 0 ≤ (σ15.1 0 1).toInt ∧ (σ15.1 0 1).toInt ≤ 600 := by rw [hOσ15.2 0 (by decide)] <;> exact ht
          refine ok_sJ hT (slot_R hR kq6).2 (by first | omega | decide | (have q1 := hD.1; have q2 := hD.2.1; simp only [Int32.le_iff_toInt_le, Int32.lt_iff_toInt_lt, ti_add, ti_sub, ti_mul, Int32.reduceToInt] at *; omega)) (by first | omega | decide | (have q1 := hD.1; have q2 := hD.2.1; simp only [Int32.le_iff_toInt_le, Int32.lt_iff_toInt_lt, ti_add, ti_sub, ti_mul, Int32.reduceToInt] at *; omega)) (fun σ16 eσ16 hOσ16 hT => ?_)
          have hW2 : WI 2 σ16.1 := WI.tr hOσ16 (by decide) (by decide) (by decide) hW2
          have hW28 : WI 28 σ16.1 := WI.tr hOσ16 (by decide) (by decide) (by decide) hW28
          have hW132 : WI 132 σ16.1 := WI.tr hOσ16 (by decide) (by decide) (by decide) hW132
          have hW158 : WI 158 σ16.1 := WI.tr hOσ16 (by decide) (by decide) (by decide) hW158
          have hW184 : WI 184 σ16.1 := WI.tr hOσ16 (by decide) (by decide) (by decide) hW184
          have hL : SI σ16.1 := SI.tr hOσ16 (by decide) (by decide) (by decide) (by decide) hL
          have hD : RD σ16.1 := RD.tr hOσ16 (by decide) (by decide) (by decide) (by decide) hD
          have hu : 2 ≤ (σ16.1 111 8).toInt ∧ (σ16.1 111 8).toInt ≤ 1600 := by rw [hOσ16.2 111 (by decide)] <;> exact hu
          have ht : 0 ≤ (σ16.1 0 1).toInt ∧ (σ16.1 0 1).toInt ≤ 600 := by rw [hOσ16.2 0 (by decide)] <;> exact ht
          exact ok_some ⟨hT, (show CF σ16.1 ∧ (0 : Int32) = wrV x1 x2 (σ0.1 (210 + 2 * x1.toInt.toNat) 2) from by first | exact ⟨⟨hW2, hW28, hW132, hW158, hW184, hL, hD, hu, ht⟩, (if_neg (by first | omega | (simp only [Int32.le_iff_toInt_le, Int32.lt_iff_toInt_lt, ti_add, ti_sub, ti_mul, Int32.reduceToInt] at *; omega))).symm⟩ | exact ⟨⟨hW2, hW28, hW132, hW158, hW184, hL, hD, hu, ht⟩, by rw [← hqq16]; (first | exact (if_neg (by first | omega | (simp only [Int32.le_iff_toInt_le, Int32.lt_iff_toInt_lt, ti_add, ti_sub, ti_mul, Int32.reduceToInt] at *; omega))).symm | exact ((if_pos (by first | omega | (simp only [Int32.le_iff_toInt_le, Int32.lt_iff_toInt_lt, ti_add, ti_sub, ti_mul, Int32.reduceToInt] at *; omega))).trans (if_pos (by first | omega | (simp only [Int32.le_iff_toInt_le, Int32.lt_iff_toInt_lt, ti_add, ti_sub, ti_mul, Int32.reduceToInt] at *; omega)))).symm | exact ((if_pos (by first | omega | (simp only [Int32.le_iff_toInt_le, Int32.lt_iff_toInt_lt, ti_add, ti_sub, ti_mul, Int32.reduceToInt] at *; omega))).trans ((if_neg (by first | omega | (simp only [Int32.le_iff_toInt_le, Int32.lt_iff_toInt_lt, ti_add, ti_sub, ti_mul, Int32.reduceToInt] at *; omega))).trans (if_pos (by first | omega | (simp only [Int32.le_iff_toInt_le, Int32.lt_iff_toInt_lt, ti_add, ti_sub, ti_mul, Int32.reduceToInt] at *; omega))))).symm | exact ((if_pos (by first | omega | (simp only [Int32.le_iff_toInt_le, Int32.lt_iff_toInt_lt, ti_add, ti_sub, ti_mul, Int32.reduceToInt] at *; omega))).trans ((if_neg (by first | omega | (simp only [Int32.le_iff_toInt_le, Int32.lt_iff_toInt_lt, ti_add, ti_sub, ti_mul, Int32.reduceToInt] at *; omega))).trans (if_neg (by first | omega | (simp only [Int32.le_iff_toInt_le, Int32.lt_iff_toInt_lt, ti_add, ti_sub, ti_mul, Int32.reduceToInt] at *; omega))))).symm)⟩)⟩
        · exact ok_some ⟨hT, (show CF σ0.1 ∧ (-7 : Int32) = wrV x1 x2 (σ0.1 (210 + 2 * x1.toInt.toNat) 2) from by first | exact ⟨⟨hW2, hW28, hW132, hW158, hW184, hL, hD, hu, ht⟩, (if_neg (by first | omega | (simp only [Int32.le_iff_toInt_le, Int32.lt_iff_toInt_lt, ti_add, ti_sub, ti_mul, Int32.reduceToInt] at *; omega))).symm⟩ | exact ⟨⟨hW2, hW28, hW132, hW158, hW184, hL, hD, hu, ht⟩, by rw [← hqq16]; (first | exact (if_neg (by first | omega | (simp only [Int32.le_iff_toInt_le, Int32.lt_iff_toInt_lt, ti_add, ti_sub, ti_mul, Int32.reduceToInt] at *; omega))).symm | exact ((if_pos (by first | omega | (simp only [Int32.le_iff_toInt_le, Int32.lt_iff_toInt_lt, ti_add, ti_sub, ti_mul, Int32.reduceToInt] at *; omega))).trans (if_pos (by first | omega | (simp only [Int32.le_iff_toInt_le, Int32.lt_iff_toInt_lt, ti_add, ti_sub, ti_mul, Int32.reduceToInt] at *; omega)))).symm | exact ((if_pos (by first | omega | (simp only [Int32.le_iff_toInt_le, Int32.lt_iff_toInt_lt, ti_add, ti_sub, ti_mul, Int32.reduceToInt] at *; omega))).trans ((if_neg (by first | omega | (simp only [Int32.le_iff_toInt_le, Int32.lt_iff_toInt_lt, ti_add, ti_sub, ti_mul, Int32.reduceToInt] at *; omega))).trans (if_pos (by first | omega | (simp only [Int32.le_iff_toInt_le, Int32.lt_iff_toInt_lt, ti_add, ti_sub, ti_mul, Int32.reduceToInt] at *; omega))))).symm | exact ((if_pos (by first | omega | (simp only [Int32.le_iff_toInt_le, Int32.lt_iff_toInt_lt, ti_add, ti_sub, ti_mul, Int32.reduceToInt] at *; omega))).trans ((if_neg (by first | omega | (simp only [Int32.le_iff_toInt_le, Int32.lt_iff_toInt_lt, ti_add, ti_sub, ti_mul, Int32.reduceToInt] at *; omega))).trans (if_neg (by first | omega | (simp only [Int32.le_iff_toInt_le, Int32.lt_iff_toInt_lt, ti_add, ti_sub, ti_mul, Int32.reduceToInt] at *; omega))))).symm)⟩)⟩
    · have qhc9 := hqv7.2 hc9
      exact ok_some ⟨hT, (show CF σ0.1 ∧ (-6 : Int32) = wrV x1 x2 (σ0.1 (210 + 2 * x1.toInt.toNat) 2) from by first | exact ⟨⟨hW2, hW28, hW132, hW158, hW184, hL, hD, hu, ht⟩, (if_neg (by first | omega | (simp only [Int32.le_iff_toInt_le, Int32.lt_iff_toInt_lt, ti_add, ti_sub, ti_mul, Int32.reduceToInt] at *; omega))).symm⟩ | exact ⟨⟨hW2, hW28, hW132, hW158, hW184, hL, hD, hu, ht⟩, by rw [← hqq16]; (first | exact (if_neg (by first | omega | (simp only [Int32.le_iff_toInt_le, Int32.lt_iff_toInt_lt, ti_add, ti_sub, ti_mul, Int32.reduceToInt] at *; omega))).symm | exact ((if_pos (by first | omega | (simp only [Int32.le_iff_toInt_le, Int32.lt_iff_toInt_lt, ti_add, ti_sub, ti_mul, Int32.reduceToInt] at *; omega))).trans (if_pos (by first | omega | (simp only [Int32.le_iff_toInt_le, Int32.lt_iff_toInt_lt, ti_add, ti_sub, ti_mul, Int32.reduceToInt] at *; omega)))).symm | exact ((if_pos (by first | omega | (simp only [Int32.le_iff_toInt_le, Int32.lt_iff_toInt_lt, ti_add, ti_sub, ti_mul, Int32.reduceToInt] at *; omega))).trans ((if_neg (by first | omega | (simp only [Int32.le_iff_toInt_le, Int32.lt_iff_toInt_lt, ti_add, ti_sub, ti_mul, Int32.reduceToInt] at *; omega))).trans (if_pos (by first | omega | (simp only [Int32.le_iff_toInt_le, Int32.lt_iff_toInt_lt, ti_add, ti_sub, ti_mul, Int32.reduceToInt] at *; omega))))).symm | exact ((if_pos (by first | omega | (simp only [Int32.le_iff_toInt_le, Int32.lt_iff_toInt_lt, ti_add, ti_sub, ti_mul, Int32.reduceToInt] at *; omega))).trans ((if_neg (by first | omega | (simp only [Int32.le_iff_toInt_le, Int32.lt_iff_toInt_lt, ti_add, ti_sub, ti_mul, Int32.reduceToInt] at *; omega))).trans (if_neg (by first | omega | (simp only [Int32.le_iff_toInt_le, Int32.lt_iff_toInt_lt, ti_add, ti_sub, ti_mul, Int32.reduceToInt] at *; omega))))).symm)⟩)⟩

set_option maxHeartbeats 4000000 in
set_option maxRecDepth 100000 in
theorem s_X11_paste_n2v {N : Nat} (hN : 1048576 ≤ N) {x1 : Int32} {x2 : Int32} {x3 : Int32} {x4 : Int32} {x5 : Int32} {σ0 : zS}  (hR : RF σ0.2.2) (hNw : σ0.2.2 0 4 = 2) (hPw : σ0.2.2 0 5 = 28) (hC : CF σ0.1) : Ok (f_X11_paste N 0 x1 x2 x3 x4 x5 σ0) (fun r => Tr [] σ0 r.2 ∧ (CF r.2.1 ∧ r.1 = paV x1 x2 x3 x4 x5 (σ0.1 (210 + 2 * x1.toInt.toNat) 2) (σ0.1 (210 + 2 * x3.toInt.toNat) 2) (σ0.1 (210 + 2 * x1.toInt.toNat) 1) (σ0.1 (210 + 2 * x3.toInt.toNat) 1))) := by
  have hT : Tr [] σ0 σ0 := Tr.rf
  obtain ⟨hW2, hW28, hW132, hW158, hW184, hL, hD, hu, ht⟩ := hC
  have hn := hW2.1
  have he := hW2.2.1
  have hD0 := hD
  have hL0 := hL
  have q10 := ti_one10 (x := σ0.1 2 0) hn.1 hn.2
  rw [f_X11_paste.eq_1]
  refine ok_gC rfl ?_
  refine ok_zbX (Q := fun V => (V = 0 → ¬ (0 ≤ x1.toInt ∧ x1.toInt ≤ 3)) ∧ (¬ V = 0 → 0 ≤ x1.toInt ∧ x1.toInt ≤ 3)) (x_X11_isSlot) (fun v1 hqv1 => ?_)
  refine ok_if (fun hc3 => ?_) (fun hc3 => ?_)
  · have qhc3 := hqv1.1 hc3
    exact ok_some ⟨hT, (show CF σ0.1 ∧ (-2 : Int32) = paV x1 x2 x3 x4 x5 (σ0.1 (210 + 2 * x1.toInt.toNat) 2) (σ0.1 (210 + 2 * x3.toInt.toNat) 2) (σ0.1 (210 + 2 * x1.toInt.toNat) 1) (σ0.1 (210 + 2 * x3.toInt.toNat) 1) from by first | exact ⟨⟨hW2, hW28, hW132, hW158, hW184, hL, hD, hu, ht⟩, (if_neg (by first | omega | (simp only [Int32.le_iff_toInt_le, Int32.lt_iff_toInt_lt, ti_add, ti_sub, ti_mul, Int32.reduceToInt] at *; omega))).symm⟩ | exact ⟨⟨hW2, hW28, hW132, hW158, hW184, hL, hD, hu, ht⟩, by rw [← hqq24, ← hqq32]; (first | exact ((if_pos (by first | omega | (simp only [Int32.le_iff_toInt_le, Int32.lt_iff_toInt_lt, ti_add, ti_sub, ti_mul, Int32.reduceToInt] at *; omega))).trans (if_pos (by first | omega | (simp only [Int32.le_iff_toInt_le, Int32.lt_iff_toInt_lt, ti_add, ti_sub, ti_mul, Int32.reduceToInt] at *; omega)))).symm | exact ((if_pos (by first | omega | (simp only [Int32.le_iff_toInt_le, Int32.lt_iff_toInt_lt, ti_add, ti_sub, ti_mul, Int32.reduceToInt] at *; omega))).trans ((if_neg (by first | omega | (simp only [Int32.le_iff_toInt_le, Int32.lt_iff_toInt_lt, ti_add, ti_sub, ti_mul, Int32.reduceToInt] at *; omega))).trans (if_neg n64))).symm | exact ((if_pos (by first | omega | (simp only [Int32.le_iff_toInt_le, Int32.lt_iff_toInt_lt, ti_add, ti_sub, ti_mul, Int32.reduceToInt] at *; omega))).trans ((if_neg (by first | omega | (simp only [Int32.le_iff_toInt_le, Int32.lt_iff_toInt_lt, ti_add, ti_sub, ti_mul, Int32.reduceToInt] at *; omega))).trans ((if_pos n64).trans (if_neg (by first | omega | (simp only [Int32.le_iff_toInt_le, Int32.lt_iff_toInt_lt, ti_add, ti_sub, ti_mul, Int32.reduceToInt] at *; omega)))))).symm | exact ((if_pos (by first | omega | (simp only [Int32.le_iff_toInt_le, Int32.lt_iff_toInt_lt, ti_add, ti_sub, ti_mul, Int32.reduceToInt] at *; omega))).trans ((if_neg (by first | omega | (simp only [Int32.le_iff_toInt_le, Int32.lt_iff_toInt_lt, ti_add, ti_sub, ti_mul, Int32.reduceToInt] at *; omega))).trans ((if_pos n64).trans (if_pos (by first | omega | (simp only [Int32.le_iff_toInt_le, Int32.lt_iff_toInt_lt, ti_add, ti_sub, ti_mul, Int32.reduceToInt] at *; omega)))))).symm)⟩)⟩
  · have qhc3 := hqv1.2 hc3
    refine ok_gC rfl ?_
    refine ok_zbX (Q := fun V => (V = 0 → ¬ (0 ≤ x3.toInt ∧ x3.toInt ≤ 3)) ∧ (¬ V = 0 → 0 ≤ x3.toInt ∧ x3.toInt ≤ 3)) (x_X11_isSlot) (fun v4 hqv4 => ?_)
    refine ok_if (fun hc6 => ?_) (fun hc6 => ?_)
    · have qhc6 := hqv4.1 hc6
      exact ok_some ⟨hT, (show CF σ0.1 ∧ (-2 : Int32) = paV x1 x2 x3 x4 x5 (σ0.1 (210 + 2 * x1.toInt.toNat) 2) (σ0.1 (210 + 2 * x3.toInt.toNat) 2) (σ0.1 (210 + 2 * x1.toInt.toNat) 1) (σ0.1 (210 + 2 * x3.toInt.toNat) 1) from by first | exact ⟨⟨hW2, hW28, hW132, hW158, hW184, hL, hD, hu, ht⟩, (if_neg (by first | omega | (simp only [Int32.le_iff_toInt_le, Int32.lt_iff_toInt_lt, ti_add, ti_sub, ti_mul, Int32.reduceToInt] at *; omega))).symm⟩ | exact ⟨⟨hW2, hW28, hW132, hW158, hW184, hL, hD, hu, ht⟩, by rw [← hqq24, ← hqq32]; (first | exact ((if_pos (by first | omega | (simp only [Int32.le_iff_toInt_le, Int32.lt_iff_toInt_lt, ti_add, ti_sub, ti_mul, Int32.reduceToInt] at *; omega))).trans (if_pos (by first | omega | (simp only [Int32.le_iff_toInt_le, Int32.lt_iff_toInt_lt, ti_add, ti_sub, ti_mul, Int32.reduceToInt] at *; omega)))).symm | exact ((if_pos (by first | omega | (simp only [Int32.le_iff_toInt_le, Int32.lt_iff_toInt_lt, ti_add, ti_sub, ti_mul, Int32.reduceToInt] at *; omega))).trans ((if_neg (by first | omega | (simp only [Int32.le_iff_toInt_le, Int32.lt_iff_toInt_lt, ti_add, ti_sub, ti_mul, Int32.reduceToInt] at *; omega))).trans (if_neg n64))).symm | exact ((if_pos (by first | omega | (simp only [Int32.le_iff_toInt_le, Int32.lt_iff_toInt_lt, ti_add, ti_sub, ti_mul, Int32.reduceToInt] at *; omega))).trans ((if_neg (by first | omega | (simp only [Int32.le_iff_toInt_le, Int32.lt_iff_toInt_lt, ti_add, ti_sub, ti_mul, Int32.reduceToInt] at *; omega))).trans ((if_pos n64).trans (if_neg (by first | omega | (simp only [Int32.le_iff_toInt_le, Int32.lt_iff_toInt_lt, ti_add, ti_sub, ti_mul, Int32.reduceToInt] at *; omega)))))).symm | exact ((if_pos (by first | omega | (simp only [Int32.le_iff_toInt_le, Int32.lt_iff_toInt_lt, ti_add, ti_sub, ti_mul, Int32.reduceToInt] at *; omega))).trans ((if_neg (by first | omega | (simp only [Int32.le_iff_toInt_le, Int32.lt_iff_toInt_lt, ti_add, ti_sub, ti_mul, Int32.reduceToInt] at *; omega))).trans ((if_pos n64).trans (if_pos (by first | omega | (simp only [Int32.le_iff_toInt_le, Int32.lt_iff_toInt_lt, ti_add, ti_sub, ti_mul, Int32.reduceToInt] at *; omega)))))).symm)⟩)⟩
    · have qhc6 := hqv4.2 hc6
      refine ok_gR (v := 56) hT rfl (hR 0 8 rfl) ?_
      obtain ⟨q9, eq9, kq9⟩ := arrS hR (k := 56) (i := x1) rfl (by first | omega | decide | (have q1 := hD.1; have q2 := hD.2.1; simp only [Int32.le_iff_toInt_le, Int32.lt_iff_toInt_lt, ti_add, ti_sub, ti_mul, Int32.reduceToInt] at *; omega)) (by first | omega | decide | (have q1 := hD.1; have q2 := hD.2.1; simp only [Int32.le_iff_toInt_le, Int32.lt_iff_toInt_lt, ti_add, ti_sub, ti_mul, Int32.reduceToInt] at *; omega))
      refine ok_aR (v := q9) hT rfl (by first | omega | decide | (have q1 := hD.1; have q2 := hD.2.1; simp only [Int32.le_iff_toInt_le, Int32.lt_iff_toInt_lt, ti_add, ti_sub, ti_mul, Int32.reduceToInt] at *; omega)) (by first | omega | decide | (have q1 := hD.1; have q2 := hD.2.1; simp only [Int32.le_iff_toInt_le, Int32.lt_iff_toInt_lt, ti_add, ti_sub, ti_mul, Int32.reduceToInt] at *; omega)) eq9 ?_
      have hq24 := hL0 q9 kq9
      have hqq24 := slotC hR (x := x1) (by omega) (by omega) eq9
      have KQ24 := kq9
      refine ok_gR (v := 56) hT rfl (hR 0 8 rfl) ?_
      obtain ⟨q12, eq12, kq12⟩ := arrS hR (k := 56) (i := x3) rfl (by first | omega | decide | (have q1 := hD.1; have q2 := hD.2.1; simp only [Int32.le_iff_toInt_le, Int32.lt_iff_toInt_lt, ti_add, ti_sub, ti_mul, Int32.reduceToInt] at *; omega)) (by first | omega | decide | (have q1 := hD.1; have q2 := hD.2.1; simp only [Int32.le_iff_toInt_le, Int32.lt_iff_toInt_lt, ti_add, ti_sub, ti_mul, Int32.reduceToInt] at *; omega))
      refine ok_aR (v := q12) hT rfl (by first | omega | decide | (have q1 := hD.1; have q2 := hD.2.1; simp only [Int32.le_iff_toInt_le, Int32.lt_iff_toInt_lt, ti_add, ti_sub, ti_mul, Int32.reduceToInt] at *; omega)) (by first | omega | decide | (have q1 := hD.1; have q2 := hD.2.1; simp only [Int32.le_iff_toInt_le, Int32.lt_iff_toInt_lt, ti_add, ti_sub, ti_mul, Int32.reduceToInt] at *; omega)) eq12 ?_
      have hq32 := hL0 q12 kq12
      have hqq32 := slotC hR (x := x3) (by omega) (by omega) eq12
      have KQ32 := kq12
      refine ok_gC kq9 ?_
      refine ok_zbX (Q := fun V => (V = 0 → 0 ≤ (σ0.1 q9 2).toInt) ∧ (¬ V = 0 → (σ0.1 q9 2).toInt < 0)) (x_X9_isBare KQ24) (fun v13 hqv13 => ?_)
      refine ok_if (fun hc15 => ?_) (fun hc15 => ?_)
      · have qhc15 := hqv13.1 hc15
        refine ok_gC kq12 ?_
        refine ok_zbX (Q := fun V => (V = 0 → 0 ≤ (σ0.1 q12 2).toInt) ∧ (¬ V = 0 → (σ0.1 q12 2).toInt < 0)) (x_X9_isBare KQ32) (fun v16 hqv16 => ?_)
        refine ok_if (fun hc18 => ?_) (fun hc18 => ?_)
        · have qhc18 := hqv16.1 hc18
          refine ok_gI0 hT kq9 List.not_mem_nil ?_
          refine ok_gI0 hT kq12 List.not_mem_nil ?_
          refine ok_if (fun hc21 => ?_) (fun hc21 => ?_)
          · have n64 := hc21
            refine ok_gC kq9 ?_
            refine ok_zbX (Q := fun V => (V = 0 → ¬ (0 ≤ x2.toInt ∧ 0 ≤ x5.toInt ∧ x2.toInt + x5.toInt ≤ (σ0.1 q9 2).toInt)) ∧ (¬ V = 0 → 0 ≤ x2.toInt ∧ 0 ≤ x5.toInt ∧ x2.toInt + x5.toInt ≤ (σ0.1 q9 2).toInt)) (x_X9_spans KQ24) (fun v22 hqv22 => ?_)
            refine ok_if (fun hc24 => ?_) (fun hc24 => ?_)
            · have qhc24 := hqv22.1 hc24
              exact ok_some ⟨hT, (show CF σ0.1 ∧ (-7 : Int32) = paV x1 x2 x3 x4 x5 (σ0.1 (210 + 2 * x1.toInt.toNat) 2) (σ0.1 (210 + 2 * x3.toInt.toNat) 2) (σ0.1 (210 + 2 * x1.toInt.toNat) 1) (σ0.1 (210 + 2 * x3.toInt.toNat) 1) from by first | exact ⟨⟨hW2, hW28, hW132, hW158, hW184, hL, hD, hu, ht⟩, (if_neg (by first | omega | (simp only [Int32.le_iff_toInt_le, Int32.lt_iff_toInt_lt, ti_add, ti_sub, ti_mul, Int32.reduceToInt] at *; omega))).symm⟩ | exact ⟨⟨hW2, hW28, hW132, hW158, hW184, hL, hD, hu, ht⟩, by rw [← hqq24, ← hqq32]; (first | exact ((if_pos (by first | omega | (simp only [Int32.le_iff_toInt_le, Int32.lt_iff_toInt_lt, ti_add, ti_sub, ti_mul, Int32.reduceToInt] at *; omega))).trans (if_pos (by first | omega | (simp only [Int32.le_iff_toInt_le, Int32.lt_iff_toInt_lt, ti_add, ti_sub, ti_mul, Int32.reduceToInt] at *; omega)))).symm | exact ((if_pos (by first | omega | (simp only [Int32.le_iff_toInt_le, Int32.lt_iff_toInt_lt, ti_add, ti_sub, ti_mul, Int32.reduceToInt] at *; omega))).trans ((if_neg (by first | omega | (simp only [Int32.le_iff_toInt_le, Int32.lt_iff_toInt_lt, ti_add, ti_sub, ti_mul, Int32.reduceToInt] at *; omega))).trans (if_neg n64))).symm | exact ((if_pos (by first | omega | (simp only [Int32.le_iff_toInt_le, Int32.lt_iff_toInt_lt, ti_add, ti_sub, ti_mul, Int32.reduceToInt] at *; omega))).trans ((if_neg (by first | omega | (simp only [Int32.le_iff_toInt_le, Int32.lt_iff_toInt_lt, ti_add, ti_sub, ti_mul, Int32.reduceToInt] at *; omega))).trans ((if_pos n64).trans (if_neg (by first | omega | (simp only [Int32.le_iff_toInt_le, Int32.lt_iff_toInt_lt, ti_add, ti_sub, ti_mul, Int32.reduceToInt] at *; omega)))))).symm | exact ((if_pos (by first | omega | (simp only [Int32.le_iff_toInt_le, Int32.lt_iff_toInt_lt, ti_add, ti_sub, ti_mul, Int32.reduceToInt] at *; omega))).trans ((if_neg (by first | omega | (simp only [Int32.le_iff_toInt_le, Int32.lt_iff_toInt_lt, ti_add, ti_sub, ti_mul, Int32.reduceToInt] at *; omega))).trans ((if_pos n64).trans (if_pos (by first | omega | (simp only [Int32.le_iff_toInt_le, Int32.lt_iff_toInt_lt, ti_add, ti_sub, ti_mul, Int32.reduceToInt] at *; omega)))))).symm)⟩)⟩
            · have qhc24 := hqv22.2 hc24
              refine ok_gC kq12 ?_
              refine ok_zbX (Q := fun V => (V = 0 → ¬ (0 ≤ x4.toInt ∧ 0 ≤ x5.toInt ∧ x4.toInt + x5.toInt ≤ (σ0.1 q12 2).toInt)) ∧ (¬ V = 0 → 0 ≤ x4.toInt ∧ 0 ≤ x5.toInt ∧ x4.toInt + x5.toInt ≤ (σ0.1 q12 2).toInt)) (x_X9_spans KQ32) (fun v25 hqv25 => ?_)
              refine ok_if (fun hc27 => ?_) (fun hc27 => ?_)
              · have qhc27 := hqv25.1 hc27
                exact ok_some ⟨hT, (show CF σ0.1 ∧ (-7 : Int32) = paV x1 x2 x3 x4 x5 (σ0.1 (210 + 2 * x1.toInt.toNat) 2) (σ0.1 (210 + 2 * x3.toInt.toNat) 2) (σ0.1 (210 + 2 * x1.toInt.toNat) 1) (σ0.1 (210 + 2 * x3.toInt.toNat) 1) from by first | exact ⟨⟨hW2, hW28, hW132, hW158, hW184, hL, hD, hu, ht⟩, (if_neg (by first | omega | (simp only [Int32.le_iff_toInt_le, Int32.lt_iff_toInt_lt, ti_add, ti_sub, ti_mul, Int32.reduceToInt] at *; omega))).symm⟩ | exact ⟨⟨hW2, hW28, hW132, hW158, hW184, hL, hD, hu, ht⟩, by rw [← hqq24, ← hqq32]; (first | exact ((if_pos (by first | omega | (simp only [Int32.le_iff_toInt_le, Int32.lt_iff_toInt_lt, ti_add, ti_sub, ti_mul, Int32.reduceToInt] at *; omega))).trans (if_pos (by first | omega | (simp only [Int32.le_iff_toInt_le, Int32.lt_iff_toInt_lt, ti_add, ti_sub, ti_mul, Int32.reduceToInt] at *; omega)))).symm | exact ((if_pos (by first | omega | (simp only [Int32.le_iff_toInt_le, Int32.lt_iff_toInt_lt, ti_add, ti_sub, ti_mul, Int32.reduceToInt] at *; omega))).trans ((if_neg (by first | omega | (simp only [Int32.le_iff_toInt_le, Int32.lt_iff_toInt_lt, ti_add, ti_sub, ti_mul, Int32.reduceToInt] at *; omega))).trans (if_neg n64))).symm | exact ((if_pos (by first | omega | (simp only [Int32.le_iff_toInt_le, Int32.lt_iff_toInt_lt, ti_add, ti_sub, ti_mul, Int32.reduceToInt] at *; omega))).trans ((if_neg (by first | omega | (simp only [Int32.le_iff_toInt_le, Int32.lt_iff_toInt_lt, ti_add, ti_sub, ti_mul, Int32.reduceToInt] at *; omega))).trans ((if_pos n64).trans (if_neg (by first | omega | (simp only [Int32.le_iff_toInt_le, Int32.lt_iff_toInt_lt, ti_add, ti_sub, ti_mul, Int32.reduceToInt] at *; omega)))))).symm | exact ((if_pos (by first | omega | (simp only [Int32.le_iff_toInt_le, Int32.lt_iff_toInt_lt, ti_add, ti_sub, ti_mul, Int32.reduceToInt] at *; omega))).trans ((if_neg (by first | omega | (simp only [Int32.le_iff_toInt_le, Int32.lt_iff_toInt_lt, ti_add, ti_sub, ti_mul, Int32.reduceToInt] at *; omega))).trans ((if_pos n64).trans (if_pos (by first | omega | (simp only [Int32.le_iff_toInt_le, Int32.lt_iff_toInt_lt, ti_add, ti_sub, ti_mul, Int32.reduceToInt] at *; omega)))))).symm)⟩)⟩
              · have qhc27 := hqv25.2 hc27
                refine ok_gR hT kq9 (slot_R hR kq9).1 ?_
                refine ok_gR hT kq12 (slot_R hR kq12).1 ?_
                refine ok_cpJ hT (slot_R hR kq9).2 (slot_R hR kq12).2 (by first | omega | decide | (have q1 := hD.1; have q2 := hD.2.1; simp only [Int32.le_iff_toInt_le, Int32.lt_iff_toInt_lt, ti_add, ti_sub, ti_mul, Int32.reduceToInt] at *; omega)) (by first | omega | decide | (have q1 := hD.1; have q2 := hD.2.1; simp only [Int32.le_iff_toInt_le, Int32.lt_iff_toInt_lt, ti_add, ti_sub, ti_mul, Int32.reduceToInt] at *; omega)) (by first | omega | decide | (have q1 := hD.1; have q2 := hD.2.1; simp only [Int32.le_iff_toInt_le, Int32.lt_iff_toInt_lt, ti_add, ti_sub, ti_mul, Int32.reduceToInt] at *; omega)) (by first | omega | decide | (have q1 := hD.1; have q2 := hD.2.1; simp only [Int32.le_iff_toInt_le, Int32.lt_iff_toInt_lt, ti_add, ti_sub, ti_mul, Int32.reduceToInt] at *; omega)) (by first | omega | decide | (have q1 := hD.1; have q2 := hD.2.1; simp only [Int32.le_iff_toInt_le, Int32.lt_iff_toInt_lt, ti_add, ti_sub, ti_mul, Int32.reduceToInt] at *; omega)) (fun σ30 eσ30 hOσ30 hT => ?_)
                have hW2 : WI 2 σ30.1 := WI.tr hOσ30 (by decide) (by decide) (by decide) hW2
                have hW28 : WI 28 σ30.1 := WI.tr hOσ30 (by decide) (by decide) (by decide) hW28
                have hW132 : WI 132 σ30.1 := WI.tr hOσ30 (by decide) (by decide) (by decide) hW132
                have hW158 : WI 158 σ30.1 := WI.tr hOσ30 (by decide) (by decide) (by decide) hW158
                have hW184 : WI 184 σ30.1 := WI.tr hOσ30 (by decide) (by decide) (by decide) hW184
                have hL : SI σ30.1 := SI.tr hOσ30 (by decide) (by decide) (by decide) (by decide) hL
                have hD : RD σ30.1 := RD.tr hOσ30 (by decide) (by decide) (by decide) (by decide) hD
                have hu : 2 ≤ (σ30.1 111 8).toInt ∧ (σ30.1 111 8).toInt ≤ 1600 := by rw [hOσ30.2 111 (by decide)] <;> exact hu
                have ht : 0 ≤ (σ30.1 0 1).toInt ∧ (σ30.1 0 1).toInt ≤ 600 := by rw [hOσ30.2 0 (by decide)] <;> exact ht
                exact ok_some ⟨hT, (show CF σ30.1 ∧ (0 : Int32) = paV x1 x2 x3 x4 x5 (σ0.1 (210 + 2 * x1.toInt.toNat) 2) (σ0.1 (210 + 2 * x3.toInt.toNat) 2) (σ0.1 (210 + 2 * x1.toInt.toNat) 1) (σ0.1 (210 + 2 * x3.toInt.toNat) 1) from by first | exact ⟨⟨hW2, hW28, hW132, hW158, hW184, hL, hD, hu, ht⟩, (if_neg (by first | omega | (simp only [Int32.le_iff_toInt_le, Int32.lt_iff_toInt_lt, ti_add, ti_sub, ti_mul, Int32.reduceToInt] at *; omega))).symm⟩ | exact ⟨⟨hW2, hW28, hW132, hW158, hW184, hL, hD, hu, ht⟩, by rw [← hqq24, ← hqq32]; (first | exact ((if_pos (by first | omega | (simp only [Int32.le_iff_toInt_le, Int32.lt_iff_toInt_lt, ti_add, ti_sub, ti_mul, Int32.reduceToInt] at *; omega))).trans (if_pos (by first | omega | (simp only [Int32.le_iff_toInt_le, Int32.lt_iff_toInt_lt, ti_add, ti_sub, ti_mul, Int32.reduceToInt] at *; omega)))).symm | exact ((if_pos (by first | omega | (simp only [Int32.le_iff_toInt_le, Int32.lt_iff_toInt_lt, ti_add, ti_sub, ti_mul, Int32.reduceToInt] at *; omega))).trans ((if_neg (by first | omega | (simp only [Int32.le_iff_toInt_le, Int32.lt_iff_toInt_lt, ti_add, ti_sub, ti_mul, Int32.reduceToInt] at *; omega))).trans (if_neg n64))).symm | exact ((if_pos (by first | omega | (simp only [Int32.le_iff_toInt_le, Int32.lt_iff_toInt_lt, ti_add, ti_sub, ti_mul, Int32.reduceToInt] at *; omega))).trans ((if_neg (by first | omega | (simp only [Int32.le_iff_toInt_le, Int32.lt_iff_toInt_lt, ti_add, ti_sub, ti_mul, Int32.reduceToInt] at *; omega))).trans ((if_pos n64).trans (if_neg (by first | omega | (simp only [Int32.le_iff_toInt_le, Int32.lt_iff_toInt_lt, ti_add, ti_sub, ti_mul, Int32.reduceToInt] at *; omega)))))).symm | exact ((if_pos (by first | omega | (simp only [Int32.le_iff_toInt_le, Int32.lt_iff_toInt_lt, ti_add, ti_sub, ti_mul, Int32.reduceToInt] at *; omega))).trans ((if_neg (by first | omega | (simp only [Int32.le_iff_toInt_le, Int32.lt_iff_toInt_lt, ti_add, ti_sub, ti_mul, Int32.reduceToInt] at *; omega))).trans ((if_pos n64).trans (if_pos (by first | omega | (simp only [Int32.le_iff_toInt_le, Int32.lt_iff_toInt_lt, ti_add, ti_sub, ti_mul, Int32.reduceToInt] at *; omega)))))).symm)⟩)⟩
          · have n64 := hc21
            exact ok_some ⟨hT, (show CF σ0.1 ∧ (-8 : Int32) = paV x1 x2 x3 x4 x5 (σ0.1 (210 + 2 * x1.toInt.toNat) 2) (σ0.1 (210 + 2 * x3.toInt.toNat) 2) (σ0.1 (210 + 2 * x1.toInt.toNat) 1) (σ0.1 (210 + 2 * x3.toInt.toNat) 1) from by first | exact ⟨⟨hW2, hW28, hW132, hW158, hW184, hL, hD, hu, ht⟩, (if_neg (by first | omega | (simp only [Int32.le_iff_toInt_le, Int32.lt_iff_toInt_lt, ti_add, ti_sub, ti_mul, Int32.reduceToInt] at *; omega))).symm⟩ | exact ⟨⟨hW2, hW28, hW132, hW158, hW184, hL, hD, hu, ht⟩, by rw [← hqq24, ← hqq32]; (first | exact ((if_pos (by first | omega | (simp only [Int32.le_iff_toInt_le, Int32.lt_iff_toInt_lt, ti_add, ti_sub, ti_mul, Int32.reduceToInt] at *; omega))).trans (if_pos (by first | omega | (simp only [Int32.le_iff_toInt_le, Int32.lt_iff_toInt_lt, ti_add, ti_sub, ti_mul, Int32.reduceToInt] at *; omega)))).symm | exact ((if_pos (by first | omega | (simp only [Int32.le_iff_toInt_le, Int32.lt_iff_toInt_lt, ti_add, ti_sub, ti_mul, Int32.reduceToInt] at *; omega))).trans ((if_neg (by first | omega | (simp only [Int32.le_iff_toInt_le, Int32.lt_iff_toInt_lt, ti_add, ti_sub, ti_mul, Int32.reduceToInt] at *; omega))).trans (if_neg n64))).symm | exact ((if_pos (by first | omega | (simp only [Int32.le_iff_toInt_le, Int32.lt_iff_toInt_lt, ti_add, ti_sub, ti_mul, Int32.reduceToInt] at *; omega))).trans ((if_neg (by first | omega | (simp only [Int32.le_iff_toInt_le, Int32.lt_iff_toInt_lt, ti_add, ti_sub, ti_mul, Int32.reduceToInt] at *; omega))).trans ((if_pos n64).trans (if_neg (by first | omega | (simp only [Int32.le_iff_toInt_le, Int32.lt_iff_toInt_lt, ti_add, ti_sub, ti_mul, Int32.reduceToInt] at *; omega)))))).symm | exact ((if_pos (by first | omega | (simp only [Int32.le_iff_toInt_le, Int32.lt_iff_toInt_lt, ti_add, ti_sub, ti_mul, Int32.reduceToInt] at *; omega))).trans ((if_neg (by first | omega | (simp only [Int32.le_iff_toInt_le, Int32.lt_iff_toInt_lt, ti_add, ti_sub, ti_mul, Int32.reduceToInt] at *; omega))).trans ((if_pos n64).trans (if_pos (by first | omega | (simp only [Int32.le_iff_toInt_le, Int32.lt_iff_toInt_lt, ti_add, ti_sub, ti_mul, Int32.reduceToInt] at *; omega)))))).symm)⟩)⟩
        · have qhc18 := hqv16.2 hc18
          exact ok_some ⟨hT, (show CF σ0.1 ∧ (-6 : Int32) = paV x1 x2 x3 x4 x5 (σ0.1 (210 + 2 * x1.toInt.toNat) 2) (σ0.1 (210 + 2 * x3.toInt.toNat) 2) (σ0.1 (210 + 2 * x1.toInt.toNat) 1) (σ0.1 (210 + 2 * x3.toInt.toNat) 1) from by first | exact ⟨⟨hW2, hW28, hW132, hW158, hW184, hL, hD, hu, ht⟩, (if_neg (by first | omega | (simp only [Int32.le_iff_toInt_le, Int32.lt_iff_toInt_lt, ti_add, ti_sub, ti_mul, Int32.reduceToInt] at *; omega))).symm⟩ | exact ⟨⟨hW2, hW28, hW132, hW158, hW184, hL, hD, hu, ht⟩, by rw [← hqq24, ← hqq32]; (first | exact ((if_pos (by first | omega | (simp only [Int32.le_iff_toInt_le, Int32.lt_iff_toInt_lt, ti_add, ti_sub, ti_mul, Int32.reduceToInt] at *; omega))).trans (if_pos (by first | omega | (simp only [Int32.le_iff_toInt_le, Int32.lt_iff_toInt_lt, ti_add, ti_sub, ti_mul, Int32.reduceToInt] at *; omega)))).symm | exact ((if_pos (by first | omega | (simp only [Int32.le_iff_toInt_le, Int32.lt_iff_toInt_lt, ti_add, ti_sub, ti_mul, Int32.reduceToInt] at *; omega))).trans ((if_neg (by first | omega | (simp only [Int32.le_iff_toInt_le, Int32.lt_iff_toInt_lt, ti_add, ti_sub, ti_mul, Int32.reduceToInt] at *; omega))).trans (if_neg n64))).symm | exact ((if_pos (by first | omega | (simp only [Int32.le_iff_toInt_le, Int32.lt_iff_toInt_lt, ti_add, ti_sub, ti_mul, Int32.reduceToInt] at *; omega))).trans ((if_neg (by first | omega | (simp only [Int32.le_iff_toInt_le, Int32.lt_iff_toInt_lt, ti_add, ti_sub, ti_mul, Int32.reduceToInt] at *; omega))).trans ((if_pos n64).trans (if_neg (by first | omega | (simp only [Int32.le_iff_toInt_le, Int32.lt_iff_toInt_lt, ti_add, ti_sub, ti_mul, Int32.reduceToInt] at *; omega)))))).symm | exact ((if_pos (by first | omega | (simp only [Int32.le_iff_toInt_le, Int32.lt_iff_toInt_lt, ti_add, ti_sub, ti_mul, Int32.reduceToInt] at *; omega))).trans ((if_neg (by first | omega | (simp only [Int32.le_iff_toInt_le, Int32.lt_iff_toInt_lt, ti_add, ti_sub, ti_mul, Int32.reduceToInt] at *; omega))).trans ((if_pos n64).trans (if_pos (by first | omega | (simp only [Int32.le_iff_toInt_le, Int32.lt_iff_toInt_lt, ti_add, ti_sub, ti_mul, Int32.reduceToInt] at *; omega)))))).symm)⟩)⟩
      · have qhc15 := hqv13.2 hc15
        exact ok_some ⟨hT, (show CF σ0.1 ∧ (-6 : Int32) = paV x1 x2 x3 x4 x5 (σ0.1 (210 + 2 * x1.toInt.toNat) 2) (σ0.1 (210 + 2 * x3.toInt.toNat) 2) (σ0.1 (210 + 2 * x1.toInt.toNat) 1) (σ0.1 (210 + 2 * x3.toInt.toNat) 1) from by first | exact ⟨⟨hW2, hW28, hW132, hW158, hW184, hL, hD, hu, ht⟩, (if_neg (by first | omega | (simp only [Int32.le_iff_toInt_le, Int32.lt_iff_toInt_lt, ti_add, ti_sub, ti_mul, Int32.reduceToInt] at *; omega))).symm⟩ | exact ⟨⟨hW2, hW28, hW132, hW158, hW184, hL, hD, hu, ht⟩, by rw [← hqq24, ← hqq32]; (first | exact ((if_pos (by first | omega | (simp only [Int32.le_iff_toInt_le, Int32.lt_iff_toInt_lt, ti_add, ti_sub, ti_mul, Int32.reduceToInt] at *; omega))).trans (if_pos (by first | omega | (simp only [Int32.le_iff_toInt_le, Int32.lt_iff_toInt_lt, ti_add, ti_sub, ti_mul, Int32.reduceToInt] at *; omega)))).symm | exact ((if_pos (by first | omega | (simp only [Int32.le_iff_toInt_le, Int32.lt_iff_toInt_lt, ti_add, ti_sub, ti_mul, Int32.reduceToInt] at *; omega))).trans ((if_neg (by first | omega | (simp only [Int32.le_iff_toInt_le, Int32.lt_iff_toInt_lt, ti_add, ti_sub, ti_mul, Int32.reduceToInt] at *; omega))).trans (if_neg n64))).symm | exact ((if_pos (by first | omega | (simp only [Int32.le_iff_toInt_le, Int32.lt_iff_toInt_lt, ti_add, ti_sub, ti_mul, Int32.reduceToInt] at *; omega))).trans ((if_neg (by first | omega | (simp only [Int32.le_iff_toInt_le, Int32.lt_iff_toInt_lt, ti_add, ti_sub, ti_mul, Int32.reduceToInt] at *; omega))).trans ((if_pos n64).trans (if_neg (by first | omega | (simp only [Int32.le_iff_toInt_le, Int32.lt_iff_toInt_lt, ti_add, ti_sub, ti_mul, Int32.reduceToInt] at *; omega)))))).symm | exact ((if_pos (by first | omega | (simp only [Int32.le_iff_toInt_le, Int32.lt_iff_toInt_lt, ti_add, ti_sub, ti_mul, Int32.reduceToInt] at *; omega))).trans ((if_neg (by first | omega | (simp only [Int32.le_iff_toInt_le, Int32.lt_iff_toInt_lt, ti_add, ti_sub, ti_mul, Int32.reduceToInt] at *; omega))).trans ((if_pos n64).trans (if_pos (by first | omega | (simp only [Int32.le_iff_toInt_le, Int32.lt_iff_toInt_lt, ti_add, ti_sub, ti_mul, Int32.reduceToInt] at *; omega)))))).symm)⟩)⟩

set_option maxHeartbeats 4000000 in
set_option maxRecDepth 100000 in
theorem s_X11_feed_n28v {N : Nat} (hN : 1048576 ≤ N) {x1 : Int32} {x2 : Int32} {x3 : Int32} {x4 : Int32} {x5 : Int32} {σ0 : zS}  (hR : RF σ0.2.2) (hNw : σ0.2.2 0 4 = 28) (hPw : σ0.2.2 0 5 = 2) (hC : CF σ0.1) : Ok (f_X11_feed N 0 x1 x2 x3 x4 x5 σ0) (fun r => Tr [0, 1] σ0 r.2 ∧ (CF r.2.1 ∧ r.1 = fdV (σ0.1 0 1) ∧ r.2.1 0 1 = fdT (σ0.1 0 1))) := by
  have hT : Tr [0, 1] σ0 σ0 := Tr.rf
  obtain ⟨hW2, hW28, hW132, hW158, hW184, hL, hD, hu, ht⟩ := hC
  have hn := hW28.1
  have he := hW28.2.1
  have hD0 := hD
  have hL0 := hL
  have q10 := ti_one10 (x := σ0.1 28 0) hn.1 hn.2
  have h01 : σ0.1 0 1 = σ0.1 0 1 := rfl
  have t0 := ht
  rw [f_X11_feed.eq_1]
  refine ok_gIv rfl h01 ?_
  refine ok_if (fun hc2 => ?_) (fun hc2 => ?_)
  · exact ok_some ⟨hT, (show CF σ0.1 ∧ (-1 : Int32) = fdV (σ0.1 0 1) ∧ σ0.1 0 1 = fdT (σ0.1 0 1) from by first | exact ⟨⟨hW2, hW28, hW132, hW158, hW184, hL, hD, hu, ht⟩, (if_neg (by first | omega | (simp only [Int32.le_iff_toInt_le, Int32.lt_iff_toInt_lt, ti_add, ti_sub, ti_mul, Int32.reduceToInt] at *; omega))).symm, h01.trans (if_neg (by first | omega | (simp only [Int32.le_iff_toInt_le, Int32.lt_iff_toInt_lt, ti_add, ti_sub, ti_mul, Int32.reduceToInt] at *; omega))).symm⟩ | exact ⟨⟨hW2, hW28, hW132, hW158, hW184, hL, hD, hu, ht⟩, a88.trans (if_pos (by first | omega | (simp only [Int32.le_iff_toInt_le, Int32.lt_iff_toInt_lt, ti_add, ti_sub, ti_mul, Int32.reduceToInt] at *; omega))).symm, a88.trans (if_pos (by first | omega | (simp only [Int32.le_iff_toInt_le, Int32.lt_iff_toInt_lt, ti_add, ti_sub, ti_mul, Int32.reduceToInt] at *; omega))).symm⟩)⟩
  · refine ok_gIv rfl h01 ?_
    refine ok_if (fun hc4 => ?_) (fun hc4 => ?_)
    · refine ok_gIv rfl h01 ?_
      refine ok_gC rfl ?_
      refine ok_zbT (Q := fun V σ => True) hT (s_X11_tapeNumber hN (hR.tr hT) (by first | omega | decide | (have q1 := hD.1; have q2 := hD.2.1; simp only [Int32.le_iff_toInt_le, Int32.lt_iff_toInt_lt, ti_add, ti_sub, ti_mul, Int32.reduceToInt] at *; omega))) (by decide) (fun v6 σ7 hOσ7 hT hqv6 => ?_)
      have hW2 : WI 2 σ7.1 := WI.tr hOσ7 (by decide) (by decide) (by decide) hW2
      have hW28 : WI 28 σ7.1 := WI.tr hOσ7 (by decide) (by decide) (by decide) hW28
      have hW132 : WI 132 σ7.1 := WI.tr hOσ7 (by decide) (by decide) (by decide) hW132
      have hW158 : WI 158 σ7.1 := WI.tr hOσ7 (by decide) (by decide) (by decide) hW158
      have hW184 : WI 184 σ7.1 := WI.tr hOσ7 (by decide) (by decide) (by decide) hW184
      have hL : SI σ7.1 := SI.tr hOσ7 (by decide) (by decide) (by decide) (by decide) hL
      have hD : RD σ7.1 := RD.tr hOσ7 (by decide) (by decide) (by decide) (by decide) hD
      have hu : 2 ≤ (σ7.1 111 8).toInt ∧ (σ7.1 111 8).toInt ≤ 1600 := by rw [hOσ7.2 111 (by decide)] <;> exact hu
      have ht : 0 ≤ (σ7.1 0 1).toInt ∧ (σ7.1 0 1).toInt ≤ 600 := by rw [hOσ7.2 0 (by decide)] <;> exact ht
      have h01 : σ7.1 0 1 = σ0.1 0 1 := by rw [hOσ7.2 0 (by decide)] <;> exact h01
      refine ok_gIv rfl h01 ?_
      refine ok_gC rfl ?_
      refine ok_zbT (Q := fun V σ => True) hT (s_X11_tapeNumber hN (hR.tr hT) (by first | omega | decide | (have q1 := hD.1; have q2 := hD.2.1; simp only [Int32.le_iff_toInt_le, Int32.lt_iff_toInt_lt, ti_add, ti_sub, ti_mul, Int32.reduceToInt] at *; omega))) (by decide) (fun v9 σ10 hOσ10 hT hqv9 => ?_)
      have hW2 : WI 2 σ10.1 := WI.tr hOσ10 (by decide) (by decide) (by decide) hW2
      have hW28 : WI 28 σ10.1 := WI.tr hOσ10 (by decide) (by decide) (by decide) hW28
      have hW132 : WI 132 σ10.1 := WI.tr hOσ10 (by decide) (by decide) (by decide) hW132
      have hW158 : WI 158 σ10.1 := WI.tr hOσ10 (by decide) (by decide) (by decide) hW158
      have hW184 : WI 184 σ10.1 := WI.tr hOσ10 (by decide) (by decide) (by decide) hW184
      have hL : SI σ10.1 := SI.tr hOσ10 (by decide) (by decide) (by decide) (by decide) hL
      have hD : RD σ10.1 := RD.tr hOσ10 (by decide) (by decide) (by decide) (by decide) hD
      have hu : 2 ≤ (σ10.1 111 8).toInt ∧ (σ10.1 111 8).toInt ≤ 1600 := by rw [hOσ10.2 111 (by decide)] <;> exact hu
      have ht : 0 ≤ (σ10.1 0 1).toInt ∧ (σ10.1 0 1).toInt ≤ 600 := by rw [hOσ10.2 0 (by decide)] <;> exact ht
      have h01 : σ10.1 0 1 = σ0.1 0 1 := by rw [hOσ10.2 0 (by decide)] <;> exact h01
      refine ok_gIv rfl h01 ?_
      refine ok_gC rfl ?_
      refine ok_zbT (Q := fun V σ => True) hT (s_X11_tapeNumber hN (hR.tr hT) (by first | omega | decide | (have q1 := hD.1; have q2 := hD.2.1; simp only [Int32.le_iff_toInt_le, Int32.lt_iff_toInt_lt, ti_add, ti_sub, ti_mul, Int32.reduceToInt] at *; omega))) (by decide) (fun v12 σ13 hOσ13 hT hqv12 => ?_)
      have hW2 : WI 2 σ13.1 := WI.tr hOσ13 (by decide) (by decide) (by decide) hW2
      have hW28 : WI 28 σ13.1 := WI.tr hOσ13 (by decide) (by decide) (by decide) hW28
      have hW132 : WI 132 σ13.1 := WI.tr hOσ13 (by decide) (by decide) (by decide) hW132
      have hW158 : WI 158 σ13.1 := WI.tr hOσ13 (by decide) (by decide) (by decide) hW158
      have hW184 : WI 184 σ13.1 := WI.tr hOσ13 (by decide) (by decide) (by decide) hW184
      have hL : SI σ13.1 := SI.tr hOσ13 (by decide) (by decide) (by decide) (by decide) hL
      have hD : RD σ13.1 := RD.tr hOσ13 (by decide) (by decide) (by decide) (by decide) hD
      have hu : 2 ≤ (σ13.1 111 8).toInt ∧ (σ13.1 111 8).toInt ≤ 1600 := by rw [hOσ13.2 111 (by decide)] <;> exact hu
      have ht : 0 ≤ (σ13.1 0 1).toInt ∧ (σ13.1 0 1).toInt ≤ 600 := by rw [hOσ13.2 0 (by decide)] <;> exact ht
      have h01 : σ13.1 0 1 = σ0.1 0 1 := by rw [hOσ13.2 0 (by decide)] <;> exact h01
      refine ok_gIv rfl h01 ?_
      refine ok_gC rfl ?_
      refine ok_zbT (Q := fun V σ => True) hT (s_X11_tapeNumber hN (hR.tr hT) (by first | omega | decide | (have q1 := hD.1; have q2 := hD.2.1; simp only [Int32.le_iff_toInt_le, Int32.lt_iff_toInt_lt, ti_add, ti_sub, ti_mul, Int32.reduceToInt] at *; omega))) (by decide) (fun v15 σ16 hOσ16 hT hqv15 => ?_)
      have hW2 : WI 2 σ16.1 := WI.tr hOσ16 (by decide) (by decide) (by decide) hW2
      have hW28 : WI 28 σ16.1 := WI.tr hOσ16 (by decide) (by decide) (by decide) hW28
      have hW132 : WI 132 σ16.1 := WI.tr hOσ16 (by decide) (by decide) (by decide) hW132
      have hW158 : WI 158 σ16.1 := WI.tr hOσ16 (by decide) (by decide) (by decide) hW158
      have hW184 : WI 184 σ16.1 := WI.tr hOσ16 (by decide) (by decide) (by decide) hW184
      have hL : SI σ16.1 := SI.tr hOσ16 (by decide) (by decide) (by decide) (by decide) hL
      have hD : RD σ16.1 := RD.tr hOσ16 (by decide) (by decide) (by decide) (by decide) hD
      have hu : 2 ≤ (σ16.1 111 8).toInt ∧ (σ16.1 111 8).toInt ≤ 1600 := by rw [hOσ16.2 111 (by decide)] <;> exact hu
      have ht : 0 ≤ (σ16.1 0 1).toInt ∧ (σ16.1 0 1).toInt ≤ 600 := by rw [hOσ16.2 0 (by decide)] <;> exact ht
      have h01 : σ16.1 0 1 = σ0.1 0 1 := by rw [hOσ16.2 0 (by decide)] <;> exact h01
      refine ok_gIv rfl h01 ?_
      refine ok_gC rfl ?_
      refine ok_zbT (Q := fun V σ => True) hT (s_X11_tapeNumber hN (hR.tr hT) (by first | omega | decide | (have q1 := hD.1; have q2 := hD.2.1; simp only [Int32.le_iff_toInt_le, Int32.lt_iff_toInt_lt, ti_add, ti_sub, ti_mul, Int32.reduceToInt] at *; omega))) (by decide) (fun v18 σ19 hOσ19 hT hqv18 => ?_)
      have hW2 : WI 2 σ19.1 := WI.tr hOσ19 (by decide) (by decide) (by decide) hW2
      have hW28 : WI 28 σ19.1 := WI.tr hOσ19 (by decide) (by decide) (by decide) hW28
      have hW132 : WI 132 σ19.1 := WI.tr hOσ19 (by decide) (by decide) (by decide) hW132
      have hW158 : WI 158 σ19.1 := WI.tr hOσ19 (by decide) (by decide) (by decide) hW158
      have hW184 : WI 184 σ19.1 := WI.tr hOσ19 (by decide) (by decide) (by decide) hW184
      have hL : SI σ19.1 := SI.tr hOσ19 (by decide) (by decide) (by decide) (by decide) hL
      have hD : RD σ19.1 := RD.tr hOσ19 (by decide) (by decide) (by decide) (by decide) hD
      have hu : 2 ≤ (σ19.1 111 8).toInt ∧ (σ19.1 111 8).toInt ≤ 1600 := by rw [hOσ19.2 111 (by decide)] <;> exact hu
      have ht : 0 ≤ (σ19.1 0 1).toInt ∧ (σ19.1 0 1).toInt ≤ 600 := by rw [hOσ19.2 0 (by decide)] <;> exact ht
      have h01 : σ19.1 0 1 = σ0.1 0 1 := by rw [hOσ19.2 0 (by decide)] <;> exact h01
      refine ok_gIv rfl h01 ?_
      refine ok_pI hT rfl (by decide) (fun σ21 eσ21 hOσ21 hT => ?_)
      have a88 := zI_atI eσ21
      have hW2 : WI 2 σ21.1 := WI.tr hOσ21 (by decide) (by decide) (by decide) hW2
      have hW28 : WI 28 σ21.1 := WI.tr hOσ21 (by decide) (by decide) (by decide) hW28
      have hW132 : WI 132 σ21.1 := WI.tr hOσ21 (by decide) (by decide) (by decide) hW132
      have hW158 : WI 158 σ21.1 := WI.tr hOσ21 (by decide) (by decide) (by decide) hW158
      have hW184 : WI 184 σ21.1 := WI.tr hOσ21 (by decide) (by decide) (by decide) hW184
      have hL : SI σ21.1 := SI.tr hOσ21 (by decide) (by decide) (by decide) (by decide) hL
      have hD : RD σ21.1 := RD.tr hOσ21 (by decide) (by decide) (by decide) (by decide) hD
      have hu : 2 ≤ (σ21.1 111 8).toInt ∧ (σ21.1 111 8).toInt ≤ 1600 := by rw [hOσ21.2 111 (by decide)] <;> exact hu
      have ht : 0 ≤ (σ21.1 0 1).toInt ∧ (σ21.1 0 1).toInt ≤ 600 := by rw [zI_atI eσ21]; simp only [Int32.le_iff_toInt_le, Int32.lt_iff_toInt_lt, ti_add, ti_sub, ti_mul, Int32.reduceToInt] at *; omega
      refine ok_gI rfl ?_
      exact ok_some ⟨hT, (show CF σ21.1 ∧ ((σ21.1 0 1)) = fdV (σ0.1 0 1) ∧ σ21.1 0 1 = fdT (σ0.1 0 1) from by first | exact ⟨⟨hW2, hW28, hW132, hW158, hW184, hL, hD, hu, ht⟩, (if_neg (by first | omega | (simp only [Int32.le_iff_toInt_le, Int32.lt_iff_toInt_lt, ti_add, ti_sub, ti_mul, Int32.reduceToInt] at *; omega))).symm, h01.trans (if_neg (by first | omega | (simp only [Int32.le_iff_toInt_le, Int32.lt_iff_toInt_lt, ti_add, ti_sub, ti_mul, Int32.reduceToInt] at *; omega))).symm⟩ | exact ⟨⟨hW2, hW28, hW132, hW158, hW184, hL, hD, hu, ht⟩, a88.trans (if_pos (by first | omega | (simp only [Int32.le_iff_toInt_le, Int32.lt_iff_toInt_lt, ti_add, ti_sub, ti_mul, Int32.reduceToInt] at *; omega))).symm, a88.trans (if_pos (by first | omega | (simp only [Int32.le_iff_toInt_le, Int32.lt_iff_toInt_lt, ti_add, ti_sub, ti_mul, Int32.reduceToInt] at *; omega))).symm⟩)⟩
    · exact ok_some ⟨hT, (show CF σ0.1 ∧ (-1 : Int32) = fdV (σ0.1 0 1) ∧ σ0.1 0 1 = fdT (σ0.1 0 1) from by first | exact ⟨⟨hW2, hW28, hW132, hW158, hW184, hL, hD, hu, ht⟩, (if_neg (by first | omega | (simp only [Int32.le_iff_toInt_le, Int32.lt_iff_toInt_lt, ti_add, ti_sub, ti_mul, Int32.reduceToInt] at *; omega))).symm, h01.trans (if_neg (by first | omega | (simp only [Int32.le_iff_toInt_le, Int32.lt_iff_toInt_lt, ti_add, ti_sub, ti_mul, Int32.reduceToInt] at *; omega))).symm⟩ | exact ⟨⟨hW2, hW28, hW132, hW158, hW184, hL, hD, hu, ht⟩, a88.trans (if_pos (by first | omega | (simp only [Int32.le_iff_toInt_le, Int32.lt_iff_toInt_lt, ti_add, ti_sub, ti_mul, Int32.reduceToInt] at *; omega))).symm, a88.trans (if_pos (by first | omega | (simp only [Int32.le_iff_toInt_le, Int32.lt_iff_toInt_lt, ti_add, ti_sub, ti_mul, Int32.reduceToInt] at *; omega))).symm⟩)⟩

set_option maxHeartbeats 4000000 in
set_option maxRecDepth 100000 in
theorem s_X11_end_n28v {N : Nat} (hN : 1048576 ≤ N) {x1 : Int32} {σ0 : zS}  (hR : RF σ0.2.2) (hNw : σ0.2.2 0 4 = 28) (hPw : σ0.2.2 0 5 = 2) (hC : CF σ0.1) : Ok (f_X11_end N 0 x1 σ0) (fun r => Tr [0] σ0 r.2 ∧ (CF r.2.1 ∧ r.1 = enV x1 (σ0.1 0 1) ∧ r.2.1 0 1 = enT x1 (σ0.1 0 1))) := by
  have hT : Tr [0] σ0 σ0 := Tr.rf
  obtain ⟨hW2, hW28, hW132, hW158, hW184, hL, hD, hu, ht⟩ := hC
  have hn := hW28.1
  have he := hW28.2.1
  have hD0 := hD
  have hL0 := hL
  have q10 := ti_one10 (x := σ0.1 28 0) hn.1 hn.2
  have t0 := ht
  rw [f_X11_end.eq_1]
  refine ok_if (fun hc1 => ?_) (fun hc1 => ?_)
  · exact ok_some ⟨hT, (show CF σ0.1 ∧ (-1 : Int32) = enV x1 (σ0.1 0 1) ∧ σ0.1 0 1 = enT x1 (σ0.1 0 1) from by first | exact ⟨⟨hW2, hW28, hW132, hW158, hW184, hL, hD, hu, ht⟩, (if_neg (by first | omega | (simp only [Int32.le_iff_toInt_le, Int32.lt_iff_toInt_lt, ti_add, ti_sub, ti_mul, Int32.reduceToInt] at *; omega))).symm, (if_neg (by first | omega | (simp only [Int32.le_iff_toInt_le, Int32.lt_iff_toInt_lt, ti_add, ti_sub, ti_mul, Int32.reduceToInt] at *; omega))).symm⟩ | exact ⟨⟨hW2, hW28, hW132, hW158, hW184, hL, hD, hu, ht⟩, (if_pos (by first | omega | (simp only [Int32.le_iff_toInt_le, Int32.lt_iff_toInt_lt, ti_add, ti_sub, ti_mul, Int32.reduceToInt] at *; omega))).symm, a16.trans (if_pos (by first | omega | (simp only [Int32.le_iff_toInt_le, Int32.lt_iff_toInt_lt, ti_add, ti_sub, ti_mul, Int32.reduceToInt] at *; omega))).symm⟩)⟩
  · refine ok_gI rfl ?_
    refine ok_if (fun hc3 => ?_) (fun hc3 => ?_)
    · refine ok_pI hT rfl (by decide) (fun σ4 eσ4 hOσ4 hT => ?_)
      have a16 := zI_atI eσ4
      have hW2 : WI 2 σ4.1 := WI.tr hOσ4 (by decide) (by decide) (by decide) hW2
      have hW28 : WI 28 σ4.1 := WI.tr hOσ4 (by decide) (by decide) (by decide) hW28
      have hW132 : WI 132 σ4.1 := WI.tr hOσ4 (by decide) (by decide) (by decide) hW132
      have hW158 : WI 158 σ4.1 := WI.tr hOσ4 (by decide) (by decide) (by decide) hW158
      have hW184 : WI 184 σ4.1 := WI.tr hOσ4 (by decide) (by decide) (by decide) hW184
      have hL : SI σ4.1 := SI.tr hOσ4 (by decide) (by decide) (by decide) (by decide) hL
      have hD : RD σ4.1 := RD.tr hOσ4 (by decide) (by decide) (by decide) (by decide) hD
      have hu : 2 ≤ (σ4.1 111 8).toInt ∧ (σ4.1 111 8).toInt ≤ 1600 := by rw [hOσ4.2 111 (by decide)] <;> exact hu
      have ht : 0 ≤ (σ4.1 0 1).toInt ∧ (σ4.1 0 1).toInt ≤ 600 := by rw [zI_atI eσ4]; simp only [Int32.le_iff_toInt_le, Int32.lt_iff_toInt_lt, ti_add, ti_sub, ti_mul, Int32.reduceToInt] at *; omega
      exact ok_some ⟨hT, (show CF σ4.1 ∧ x1 = enV x1 (σ0.1 0 1) ∧ σ4.1 0 1 = enT x1 (σ0.1 0 1) from by first | exact ⟨⟨hW2, hW28, hW132, hW158, hW184, hL, hD, hu, ht⟩, (if_neg (by first | omega | (simp only [Int32.le_iff_toInt_le, Int32.lt_iff_toInt_lt, ti_add, ti_sub, ti_mul, Int32.reduceToInt] at *; omega))).symm, (if_neg (by first | omega | (simp only [Int32.le_iff_toInt_le, Int32.lt_iff_toInt_lt, ti_add, ti_sub, ti_mul, Int32.reduceToInt] at *; omega))).symm⟩ | exact ⟨⟨hW2, hW28, hW132, hW158, hW184, hL, hD, hu, ht⟩, (if_pos (by first | omega | (simp only [Int32.le_iff_toInt_le, Int32.lt_iff_toInt_lt, ti_add, ti_sub, ti_mul, Int32.reduceToInt] at *; omega))).symm, a16.trans (if_pos (by first | omega | (simp only [Int32.le_iff_toInt_le, Int32.lt_iff_toInt_lt, ti_add, ti_sub, ti_mul, Int32.reduceToInt] at *; omega))).symm⟩)⟩
    · exact ok_some ⟨hT, (show CF σ0.1 ∧ (-1 : Int32) = enV x1 (σ0.1 0 1) ∧ σ0.1 0 1 = enT x1 (σ0.1 0 1) from by first | exact ⟨⟨hW2, hW28, hW132, hW158, hW184, hL, hD, hu, ht⟩, (if_neg (by first | omega | (simp only [Int32.le_iff_toInt_le, Int32.lt_iff_toInt_lt, ti_add, ti_sub, ti_mul, Int32.reduceToInt] at *; omega))).symm, (if_neg (by first | omega | (simp only [Int32.le_iff_toInt_le, Int32.lt_iff_toInt_lt, ti_add, ti_sub, ti_mul, Int32.reduceToInt] at *; omega))).symm⟩ | exact ⟨⟨hW2, hW28, hW132, hW158, hW184, hL, hD, hu, ht⟩, (if_pos (by first | omega | (simp only [Int32.le_iff_toInt_le, Int32.lt_iff_toInt_lt, ti_add, ti_sub, ti_mul, Int32.reduceToInt] at *; omega))).symm, a16.trans (if_pos (by first | omega | (simp only [Int32.le_iff_toInt_le, Int32.lt_iff_toInt_lt, ti_add, ti_sub, ti_mul, Int32.reduceToInt] at *; omega))).symm⟩)⟩

set_option maxHeartbeats 4000000 in
set_option maxRecDepth 100000 in
theorem s_X11_put_n28v {N : Nat} (hN : 1048576 ≤ N) {x1 : Int32} {σ0 : zS}  (hR : RF σ0.2.2) (hNw : σ0.2.2 0 4 = 28) (hPw : σ0.2.2 0 5 = 2) (hC : CF σ0.1) : Ok (f_X11_put N 0 x1 σ0) (fun r => Tr [0, 57, 58, 59, 61, 62, 63, 64, 65, 106, 107] σ0 r.2 ∧ (CF r.2.1 ∧ r.2.1 0 1 = 0)) := by
  have hT : Tr [0, 57, 58, 59, 61, 62, 63, 64, 65, 106, 107] σ0 σ0 := Tr.rf
  obtain ⟨hW2, hW28, hW132, hW158, hW184, hL, hD, hu, ht⟩ := hC
  have hn := hW28.1
  have he := hW28.2.1
  have hD0 := hD
  have hL0 := hL
  have q10 := ti_one10 (x := σ0.1 28 0) hn.1 hn.2
  rw [f_X11_put.eq_1]
  refine ok_gC rfl ?_
  refine ok_zbT (Q := fun V σ => (V = 0 ∨ V = 1) ∧ (¬ V = 0 → 0 ≤ x1.toInt ∧ x1.toInt ≤ 9)) hT (s_X11_isRegister_n28 hN (hR.tr hT) ((hT.1.1 0 4 (by decide)).trans hNw) (by first | exact hn | omega | (rw [hT.2 28 (by decide)]; exact hn))) (fun _ h9 => absurd h9 List.not_mem_nil) (fun v1 σ2 hOσ2 hT hqv1 => ?_)
  have hqv1 : (v1 = 0 ∨ v1 = 1) ∧ (¬ v1 = 0 → 0 ≤ x1.toInt ∧ x1.toInt ≤ 9) := hqv1
  have hW2 : WI 2 σ2.1 := WI.tr hOσ2 (by decide) (by decide) (by decide) hW2
  have hW28 : WI 28 σ2.1 := WI.tr hOσ2 (by decide) (by decide) (by decide) hW28
  have hW132 : WI 132 σ2.1 := WI.tr hOσ2 (by decide) (by decide) (by decide) hW132
  have hW158 : WI 158 σ2.1 := WI.tr hOσ2 (by decide) (by decide) (by decide) hW158
  have hW184 : WI 184 σ2.1 := WI.tr hOσ2 (by decide) (by decide) (by decide) hW184
  have hL : SI σ2.1 := SI.tr hOσ2 (by decide) (by decide) (by decide) (by decide) hL
  have hD : RD σ2.1 := RD.tr hOσ2 (by decide) (by decide) (by decide) (by decide) hD
  have hu : 2 ≤ (σ2.1 111 8).toInt ∧ (σ2.1 111 8).toInt ≤ 1600 := by rw [hOσ2.2 111 (by decide)] <;> exact hu
  have ht : 0 ≤ (σ2.1 0 1).toInt ∧ (σ2.1 0 1).toInt ≤ 600 := by rw [hOσ2.2 0 (by decide)] <;> exact ht
  refine ok_if (fun hc3 => ?_) (fun hc3 => ?_)
  · refine ok_pI hT rfl (by decide) (fun σ4 eσ4 hOσ4 hT => ?_)
    have z0 := zI_atI eσ4
    have hW2 : WI 2 σ4.1 := WI.tr hOσ4 (by decide) (by decide) (by decide) hW2
    have hW28 : WI 28 σ4.1 := WI.tr hOσ4 (by decide) (by decide) (by decide) hW28
    have hW132 : WI 132 σ4.1 := WI.tr hOσ4 (by decide) (by decide) (by decide) hW132
    have hW158 : WI 158 σ4.1 := WI.tr hOσ4 (by decide) (by decide) (by decide) hW158
    have hW184 : WI 184 σ4.1 := WI.tr hOσ4 (by decide) (by decide) (by decide) hW184
    have hL : SI σ4.1 := SI.tr hOσ4 (by decide) (by decide) (by decide) (by decide) hL
    have hD : RD σ4.1 := RD.tr hOσ4 (by decide) (by decide) (by decide) (by decide) hD
    have hu : 2 ≤ (σ4.1 111 8).toInt ∧ (σ4.1 111 8).toInt ≤ 1600 := by rw [hOσ4.2 111 (by decide)] <;> exact hu
    have ht : 0 ≤ (σ4.1 0 1).toInt ∧ (σ4.1 0 1).toInt ≤ 600 := by first | (rw [zI_atI eσ4]; decide) | (rw [HQ]; decide)
    exact ok_some ⟨hT, (show CF σ4.1 ∧ σ4.1 0 1 = 0 from by exact ⟨⟨hW2, hW28, hW132, hW158, hW184, hL, hD, hu, ht⟩, z0⟩)⟩
  · have qhc3 := hqv1.2 hc3
    refine ok_gR (v := 57) hT rfl (hR 0 9 rfl) ?_
    refine ok_gR (v := 1) hT rfl (hR 0 0 rfl) ?_
    refine ok_gI rfl ?_
    refine ok_gR (v := 28) hT rfl hNw ?_
    refine ok_gI0 hT rfl (by decide) ?_
    refine ok_gC rfl ?_
    refine ok_zbT (Q := fun V σ => (V = 0 ∨ V = 1) ∧ RD σ.1) hT (s_X5_readSum_1 hN (hR.tr hT) (hD)) (by decide) (fun v10 σ11 hOσ11 hT hqv10 => ?_)
    have hqv10 : (v10 = 0 ∨ v10 = 1) ∧ RD σ11.1 := hqv10
    have hW2 : WI 2 σ11.1 := WI.tr hOσ11 (by decide) (by decide) (by decide) hW2
    have hW28 : WI 28 σ11.1 := WI.tr hOσ11 (by decide) (by decide) (by decide) hW28
    have hW132 : WI 132 σ11.1 := WI.tr hOσ11 (by decide) (by decide) (by decide) hW132
    have hW158 : WI 158 σ11.1 := WI.tr hOσ11 (by decide) (by decide) (by decide) hW158
    have hW184 : WI 184 σ11.1 := WI.tr hOσ11 (by decide) (by decide) (by decide) hW184
    have hL : SI σ11.1 := SI.tr hOσ11 (by decide) (by decide) (by decide) (by decide) hL
    have hD : RD σ11.1 := hqv10.2
    have hu : 2 ≤ (σ11.1 111 8).toInt ∧ (σ11.1 111 8).toInt ≤ 1600 := by rw [hOσ11.2 111 (by decide)] <;> exact hu
    have ht : 0 ≤ (σ11.1 0 1).toInt ∧ (σ11.1 0 1).toInt ≤ 600 := by rw [hOσ11.2 0 (by decide)] <;> exact ht
    refine ok_gC rfl ?_
    refine ok_zbT (Q := fun V σ => σ.1 0 1 = 0) hT (s_X11_takeFault hN (hR.tr hT) ) (by decide) (fun v12 σ13 hOσ13 hT hqv12 => ?_)
    have hqv12 : σ13.1 0 1 = 0 := hqv12
    have hW2 : WI 2 σ13.1 := WI.tr hOσ13 (by decide) (by decide) (by decide) hW2
    have hW28 : WI 28 σ13.1 := WI.tr hOσ13 (by decide) (by decide) (by decide) hW28
    have hW132 : WI 132 σ13.1 := WI.tr hOσ13 (by decide) (by decide) (by decide) hW132
    have hW158 : WI 158 σ13.1 := WI.tr hOσ13 (by decide) (by decide) (by decide) hW158
    have hW184 : WI 184 σ13.1 := WI.tr hOσ13 (by decide) (by decide) (by decide) hW184
    have hL : SI σ13.1 := SI.tr hOσ13 (by decide) (by decide) (by decide) (by decide) hL
    have hD : RD σ13.1 := RD.tr hOσ13 (by decide) (by decide) (by decide) (by decide) hD
    have hu : 2 ≤ (σ13.1 111 8).toInt ∧ (σ13.1 111 8).toInt ≤ 1600 := by rw [hOσ13.2 111 (by decide)] <;> exact hu
    have ht : 0 ≤ (σ13.1 0 1).toInt ∧ (σ13.1 0 1).toInt ≤ 600 := by first | (rw [zI_atI eσ13]; decide) | (rw [hqv12]; decide)
    have z0 := hqv12
    refine ok_if (fun hc14 => ?_) (fun hc14 => ?_)
    · exact ok_some ⟨hT, (show CF σ13.1 ∧ σ13.1 0 1 = 0 from by exact ⟨⟨hW2, hW28, hW132, hW158, hW184, hL, hD, hu, ht⟩, z0⟩)⟩
    · refine ok_gR (v := 65) hT rfl (hR 0 10 rfl) ?_
      refine ok_gR (v := 57) hT rfl (hR 0 9 rfl) ?_
      refine ok_gR (v := 28) hT rfl hNw ?_
      refine ok_gR (v := 99) hT rfl (hR 0 11 rfl) ?_
      refine ok_gC rfl ?_
      refine ok_zbT (Q := fun V σ => True) hT (s_X7_run_57_28_99 hN (hR.tr hT) (by first | exact hn | omega | (rw [hT.2 28 (by decide)]; exact hn))) (by decide) (fun v19 σ20 hOσ20 hT hqv19 => ?_)
      have hW2 : WI 2 σ20.1 := WI.tr hOσ20 (by decide) (by decide) (by decide) hW2
      have hW28 : WI 28 σ20.1 := WI.tr hOσ20 (by decide) (by decide) (by decide) hW28
      have hW132 : WI 132 σ20.1 := WI.tr hOσ20 (by decide) (by decide) (by decide) hW132
      have hW158 : WI 158 σ20.1 := WI.tr hOσ20 (by decide) (by decide) (by decide) hW158
      have hW184 : WI 184 σ20.1 := WI.tr hOσ20 (by decide) (by decide) (by decide) hW184
      have hL : SI σ20.1 := SI.tr hOσ20 (by decide) (by decide) (by decide) (by decide) hL
      have hD : RD σ20.1 := RD.tr hOσ20 (by decide) (by decide) (by decide) (by decide) hD
      have hu : 2 ≤ (σ20.1 111 8).toInt ∧ (σ20.1 111 8).toInt ≤ 1600 := by rw [hOσ20.2 111 (by decide)] <;> exact hu
      have ht : 0 ≤ (σ20.1 0 1).toInt ∧ (σ20.1 0 1).toInt ≤ 600 := by rw [hOσ20.2 0 (by decide)] <;> exact ht
      have z0 := (congrFun (hOσ20.2 0 (by decide)) 1).trans z0
      refine ok_gR (v := 28) hT rfl hNw ?_
      refine ok_gR (v := 33) hT rfl (hR 28 7 rfl) ?_
      obtain ⟨q24, eq24, kq24⟩ := arrF hR (k := 33) (i := x1) rfl (by first | omega | decide | (have q1 := hD.1; have q2 := hD.2.1; simp only [Int32.le_iff_toInt_le, Int32.lt_iff_toInt_lt, ti_add, ti_sub, ti_mul, Int32.reduceToInt] at *; omega)) (by first | omega | decide | (have q1 := hD.1; have q2 := hD.2.1; simp only [Int32.le_iff_toInt_le, Int32.lt_iff_toInt_lt, ti_add, ti_sub, ti_mul, Int32.reduceToInt] at *; omega))
      refine ok_aR (v := q24) hT rfl (by first | omega | decide | (have q1 := hD.1; have q2 := hD.2.1; simp only [Int32.le_iff_toInt_le, Int32.lt_iff_toInt_lt, ti_add, ti_sub, ti_mul, Int32.reduceToInt] at *; omega)) (by first | omega | decide | (have q1 := hD.1; have q2 := hD.2.1; simp only [Int32.le_iff_toInt_le, Int32.lt_iff_toInt_lt, ti_add, ti_sub, ti_mul, Int32.reduceToInt] at *; omega)) eq24 ?_
      refine ok_gC kq24 ?_
      refine ok_zbT (Q := fun V σ => True) hT (s_X2_tally hN (hR.tr hT) kq24) (fun _ h9 => absurd h9 List.not_mem_nil) (fun v25 σ26 hOσ26 hT hqv25 => ?_)
      have hW2 : WI 2 σ26.1 := WI.tr hOσ26 (by decide) (by decide) (by decide) hW2
      have hW28 : WI 28 σ26.1 := WI.tr hOσ26 (by decide) (by decide) (by decide) hW28
      have hW132 : WI 132 σ26.1 := WI.tr hOσ26 (by decide) (by decide) (by decide) hW132
      have hW158 : WI 158 σ26.1 := WI.tr hOσ26 (by decide) (by decide) (by decide) hW158
      have hW184 : WI 184 σ26.1 := WI.tr hOσ26 (by decide) (by decide) (by decide) hW184
      have hL : SI σ26.1 := SI.tr hOσ26 (by decide) (by decide) (by decide) (by decide) hL
      have hD : RD σ26.1 := RD.tr hOσ26 (by decide) (by decide) (by decide) (by decide) hD
      have hu : 2 ≤ (σ26.1 111 8).toInt ∧ (σ26.1 111 8).toInt ≤ 1600 := by rw [hOσ26.2 111 (by decide)] <;> exact hu
      have ht : 0 ≤ (σ26.1 0 1).toInt ∧ (σ26.1 0 1).toInt ≤ 600 := by rw [hOσ26.2 0 (by decide)] <;> exact ht
      have z0 := (congrFun (hOσ26.2 0 (by decide)) 1).trans z0
      exact ok_some ⟨hT, (show CF σ26.1 ∧ σ26.1 0 1 = 0 from by exact ⟨⟨hW2, hW28, hW132, hW158, hW184, hL, hD, hu, ht⟩, z0⟩)⟩

set_option maxHeartbeats 4000000 in
set_option maxRecDepth 100000 in
theorem s_X11_keep_n28_0v {N : Nat} (hN : 1048576 ≤ N)  {σ0 : zS}  (hR : RF σ0.2.2) (hNw : σ0.2.2 0 4 = 28) (hPw : σ0.2.2 0 5 = 2) (hC : CF σ0.1) (hB : ZB σ0.1) : Ok (f_X11_keep N 0 0 σ0) (fun r => Tr [55, 132, 133, 134, 135, 136] σ0 r.2 ∧ (CF r.2.1 ∧ ZB r.2.1 ∧ r.1 = 0 ∧ ∀ j, r.2.1 55 j = if j = 0 then vp_nar .boolean 1 else σ0.1 55 j)) := by
  have hT : Tr [55, 132, 133, 134, 135, 136] σ0 σ0 := Tr.rf
  obtain ⟨hW2, hW28, hW132, hW158, hW184, hL, hD, hu, ht⟩ := hC
  have hn := hW28.1
  have he := hW28.2.1
  have hD0 := hD
  have hL0 := hL
  have q10 := ti_one10 (x := σ0.1 28 0) hn.1 hn.2
  rw [f_X11_keep.eq_1]
  refine ok_if (fun hc1 => ?_) (fun hc1 => ?_)
  · exact absurd hc1 (by decide)
  · refine ok_if (fun hc2 => ?_) (fun hc2 => ?_)
    · refine ok_gR (v := 54) hT rfl (hR 0 6 rfl) ?_
      refine ok_aR (v := 132) hT rfl (by first | omega | decide | (have q1 := hD.1; have q2 := hD.2.1; simp only [Int32.le_iff_toInt_le, Int32.lt_iff_toInt_lt, ti_add, ti_sub, ti_mul, Int32.reduceToInt] at *; omega)) (by first | omega | decide | (have q1 := hD.1; have q2 := hD.2.1; simp only [Int32.le_iff_toInt_le, Int32.lt_iff_toInt_lt, ti_add, ti_sub, ti_mul, Int32.reduceToInt] at *; omega)) (hR 54 0 rfl) ?_
      refine ok_gR (v := 28) hT rfl hNw ?_
      refine ok_gC rfl ?_
      refine ok_zbT (Q := fun V σ => WI 132 σ.1) hT (s_X10_copyFrom_132_28 hN (hR.tr hT) (hW132) (hW28)) (by decide) (fun v6 σ7 hOσ7 hT hqv6 => ?_)
      have hqv6 : WI 132 σ7.1 := hqv6
      have r55_σ7 : σ7.1 55 = σ0.1 55 := hOσ7.2 55 (by decide)
      have hW2 : WI 2 σ7.1 := WI.tr hOσ7 (by decide) (by decide) (by decide) hW2
      have hW28 : WI 28 σ7.1 := WI.tr hOσ7 (by decide) (by decide) (by decide) hW28
      have hW132 : WI 132 σ7.1 := hqv6
      have hW158 : WI 158 σ7.1 := WI.tr hOσ7 (by decide) (by decide) (by decide) hW158
      have hW184 : WI 184 σ7.1 := WI.tr hOσ7 (by decide) (by decide) (by decide) hW184
      have hL : SI σ7.1 := SI.tr hOσ7 (by decide) (by decide) (by decide) (by decide) hL
      have hD : RD σ7.1 := RD.tr hOσ7 (by decide) (by decide) (by decide) (by decide) hD
      have hu : 2 ≤ (σ7.1 111 8).toInt ∧ (σ7.1 111 8).toInt ≤ 1600 := by rw [hOσ7.2 111 (by decide)] <;> exact hu
      have ht : 0 ≤ (σ7.1 0 1).toInt ∧ (σ7.1 0 1).toInt ≤ 600 := by rw [hOσ7.2 0 (by decide)] <;> exact ht
      have hB : ZB σ7.1 := ZB.tr hOσ7 (by decide) hB
      refine ok_gR (v := 55) hT rfl (hR 0 7 rfl) ?_
      refine ok_s16 hT rfl (by decide) (by first | omega | decide | (have q1 := hD.1; have q2 := hD.2.1; simp only [Int32.le_iff_toInt_le, Int32.lt_iff_toInt_lt, ti_add, ti_sub, ti_mul, Int32.reduceToInt] at *; omega)) (by first | omega | decide | (have q1 := hD.1; have q2 := hD.2.1; simp only [Int32.le_iff_toInt_le, Int32.lt_iff_toInt_lt, ti_add, ti_sub, ti_mul, Int32.reduceToInt] at *; omega)) (fun σ9 eσ9 hOσ9 hT => ?_)
      have u31 := upd_at eσ9 r55_σ7
      have hW2 : WI 2 σ9.1 := WI.tr hOσ9 (by decide) (by decide) (by decide) hW2
      have hW28 : WI 28 σ9.1 := WI.tr hOσ9 (by decide) (by decide) (by decide) hW28
      have hW132 : WI 132 σ9.1 := WI.tr hOσ9 (by decide) (by decide) (by decide) hW132
      have hW158 : WI 158 σ9.1 := WI.tr hOσ9 (by decide) (by decide) (by decide) hW158
      have hW184 : WI 184 σ9.1 := WI.tr hOσ9 (by decide) (by decide) (by decide) hW184
      have hL : SI σ9.1 := SI.tr hOσ9 (by decide) (by decide) (by decide) (by decide) hL
      have hD : RD σ9.1 := RD.tr hOσ9 (by decide) (by decide) (by decide) (by decide) hD
      have hu : 2 ≤ (σ9.1 111 8).toInt ∧ (σ9.1 111 8).toInt ≤ 1600 := by rw [hOσ9.2 111 (by decide)] <;> exact hu
      have ht : 0 ≤ (σ9.1 0 1).toInt ∧ (σ9.1 0 1).toInt ≤ 600 := by rw [hOσ9.2 0 (by decide)] <;> exact ht
      have hB : ZB σ9.1 := ZB_s eσ9 hB
      exact ok_some ⟨hT, (show CF σ9.1 ∧ ZB σ9.1 ∧ (0 : Int32) = 0 ∧ ∀ j, σ9.1 55 j = if j = 0 then vp_nar .boolean 1 else σ0.1 55 j from by exact ⟨⟨hW2, hW28, hW132, hW158, hW184, hL, hD, hu, ht⟩, hB, rfl, u31⟩)⟩
    · exact absurd hc2 (by decide)

set_option maxHeartbeats 4000000 in
set_option maxRecDepth 100000 in
theorem s_X11_back_n28_0v {N : Nat} (hN : 1048576 ≤ N)  {σ0 : zS}  (hR : RF σ0.2.2) (hNw : σ0.2.2 0 4 = 28) (hPw : σ0.2.2 0 5 = 2) (hC : CF σ0.1) : Ok (f_X11_back N 0 0 σ0) (fun r => Tr [28, 29, 30, 31, 32] σ0 r.2 ∧ (CF r.2.1 ∧ r.1 = if σ0.1 55 0 = 0 then -6 else 0)) := by
  have hT : Tr [28, 29, 30, 31, 32] σ0 σ0 := Tr.rf
  obtain ⟨hW2, hW28, hW132, hW158, hW184, hL, hD, hu, ht⟩ := hC
  have hn := hW28.1
  have he := hW28.2.1
  have hD0 := hD
  have hL0 := hL
  have q10 := ti_one10 (x := σ0.1 28 0) hn.1 hn.2
  rw [f_X11_back.eq_1]
  refine ok_if (fun hc1 => ?_) (fun hc1 => ?_)
  · exact absurd hc1 (by decide)
  · refine ok_if (fun hc2 => ?_) (fun hc2 => ?_)
    · refine ok_gR (v := 55) hT rfl (hR 0 7 rfl) ?_
      refine ok_aIn rfl (by first | omega | decide | (have q1 := hD.1; have q2 := hD.2.1; simp only [Int32.le_iff_toInt_le, Int32.lt_iff_toInt_lt, ti_add, ti_sub, ti_mul, Int32.reduceToInt] at *; omega)) (by first | omega | decide | (have q1 := hD.1; have q2 := hD.2.1; simp only [Int32.le_iff_toInt_le, Int32.lt_iff_toInt_lt, ti_add, ti_sub, ti_mul, Int32.reduceToInt] at *; omega)) (fun v4 ev4 => ?_)
      have w17 : v4 = σ0.1 55 0 := ev4
      refine ok_if (fun hc5 => ?_) (fun hc5 => ?_)
      · have e18 := hc5
        exact ok_some ⟨hT, (show CF σ0.1 ∧ (-6 : Int32) = if σ0.1 55 0 = 0 then -6 else 0 from by first | exact ⟨⟨hW2, hW28, hW132, hW158, hW184, hL, hD, hu, ht⟩, (if_pos (w17 ▸ e18)).symm⟩ | exact ⟨⟨hW2, hW28, hW132, hW158, hW184, hL, hD, hu, ht⟩, (if_neg (w17 ▸ e18)).symm⟩)⟩
      · have e18 := hc5
        refine ok_gR (v := 28) hT rfl hNw ?_
        refine ok_gR (v := 54) hT rfl (hR 0 6 rfl) ?_
        refine ok_aR (v := 132) hT rfl (by first | omega | decide | (have q1 := hD.1; have q2 := hD.2.1; simp only [Int32.le_iff_toInt_le, Int32.lt_iff_toInt_lt, ti_add, ti_sub, ti_mul, Int32.reduceToInt] at *; omega)) (by first | omega | decide | (have q1 := hD.1; have q2 := hD.2.1; simp only [Int32.le_iff_toInt_le, Int32.lt_iff_toInt_lt, ti_add, ti_sub, ti_mul, Int32.reduceToInt] at *; omega)) (hR 54 0 rfl) ?_
        refine ok_gC rfl ?_
        refine ok_zbT (Q := fun V σ => WI 28 σ.1) hT (s_X10_copyFrom_28_132 hN (hR.tr hT) (hW28) (hW132)) (by decide) (fun v9 σ10 hOσ10 hT hqv9 => ?_)
        have hqv9 : WI 28 σ10.1 := hqv9
        have hW2 : WI 2 σ10.1 := WI.tr hOσ10 (by decide) (by decide) (by decide) hW2
        have hW28 : WI 28 σ10.1 := hqv9
        have hW132 : WI 132 σ10.1 := WI.tr hOσ10 (by decide) (by decide) (by decide) hW132
        have hW158 : WI 158 σ10.1 := WI.tr hOσ10 (by decide) (by decide) (by decide) hW158
        have hW184 : WI 184 σ10.1 := WI.tr hOσ10 (by decide) (by decide) (by decide) hW184
        have hL : SI σ10.1 := SI.tr hOσ10 (by decide) (by decide) (by decide) (by decide) hL
        have hD : RD σ10.1 := RD.tr hOσ10 (by decide) (by decide) (by decide) (by decide) hD
        have hu : 2 ≤ (σ10.1 111 8).toInt ∧ (σ10.1 111 8).toInt ≤ 1600 := by rw [hOσ10.2 111 (by decide)] <;> exact hu
        have ht : 0 ≤ (σ10.1 0 1).toInt ∧ (σ10.1 0 1).toInt ≤ 600 := by rw [hOσ10.2 0 (by decide)] <;> exact ht
        exact ok_some ⟨hT, (show CF σ10.1 ∧ (0 : Int32) = if σ0.1 55 0 = 0 then -6 else 0 from by first | exact ⟨⟨hW2, hW28, hW132, hW158, hW184, hL, hD, hu, ht⟩, (if_pos (w17 ▸ e18)).symm⟩ | exact ⟨⟨hW2, hW28, hW132, hW158, hW184, hL, hD, hu, ht⟩, (if_neg (w17 ▸ e18)).symm⟩)⟩
    · exact absurd hc2 (by decide)

set_option maxHeartbeats 4000000 in
set_option maxRecDepth 100000 in
theorem s_X11_keep_n28_1v {N : Nat} (hN : 1048576 ≤ N)  {σ0 : zS}  (hR : RF σ0.2.2) (hNw : σ0.2.2 0 4 = 28) (hPw : σ0.2.2 0 5 = 2) (hC : CF σ0.1) (hB : ZB σ0.1) : Ok (f_X11_keep N 0 1 σ0) (fun r => Tr [55, 158, 159, 160, 161, 162] σ0 r.2 ∧ (CF r.2.1 ∧ ZB r.2.1 ∧ r.1 = 0 ∧ ∀ j, r.2.1 55 j = if j = 1 then vp_nar .boolean 1 else σ0.1 55 j)) := by
  have hT : Tr [55, 158, 159, 160, 161, 162] σ0 σ0 := Tr.rf
  obtain ⟨hW2, hW28, hW132, hW158, hW184, hL, hD, hu, ht⟩ := hC
  have hn := hW28.1
  have he := hW28.2.1
  have hD0 := hD
  have hL0 := hL
  have q10 := ti_one10 (x := σ0.1 28 0) hn.1 hn.2
  rw [f_X11_keep.eq_1]
  refine ok_if (fun hc1 => ?_) (fun hc1 => ?_)
  · exact absurd hc1 (by decide)
  · refine ok_if (fun hc2 => ?_) (fun hc2 => ?_)
    · refine ok_gR (v := 54) hT rfl (hR 0 6 rfl) ?_
      refine ok_aR (v := 158) hT rfl (by first | omega | decide | (have q1 := hD.1; have q2 := hD.2.1; simp only [Int32.le_iff_toInt_le, Int32.lt_iff_toInt_lt, ti_add, ti_sub, ti_mul, Int32.reduceToInt] at *; omega)) (by first | omega | decide | (have q1 := hD.1; have q2 := hD.2.1; simp only [Int32.le_iff_toInt_le, Int32.lt_iff_toInt_lt, ti_add, ti_sub, ti_mul, Int32.reduceToInt] at *; omega)) (hR 54 1 rfl) ?_
      refine ok_gR (v := 28) hT rfl hNw ?_
      refine ok_gC rfl ?_
      refine ok_zbT (Q := fun V σ => WI 158 σ.1) hT (s_X10_copyFrom_158_28 hN (hR.tr hT) (hW158) (hW28)) (by decide) (fun v6 σ7 hOσ7 hT hqv6 => ?_)
      have hqv6 : WI 158 σ7.1 := hqv6
      have r55_σ7 : σ7.1 55 = σ0.1 55 := hOσ7.2 55 (by decide)
      have hW2 : WI 2 σ7.1 := WI.tr hOσ7 (by decide) (by decide) (by decide) hW2
      have hW28 : WI 28 σ7.1 := WI.tr hOσ7 (by decide) (by decide) (by decide) hW28
      have hW132 : WI 132 σ7.1 := WI.tr hOσ7 (by decide) (by decide) (by decide) hW132
      have hW158 : WI 158 σ7.1 := hqv6
      have hW184 : WI 184 σ7.1 := WI.tr hOσ7 (by decide) (by decide) (by decide) hW184
      have hL : SI σ7.1 := SI.tr hOσ7 (by decide) (by decide) (by decide) (by decide) hL
      have hD : RD σ7.1 := RD.tr hOσ7 (by decide) (by decide) (by decide) (by decide) hD
      have hu : 2 ≤ (σ7.1 111 8).toInt ∧ (σ7.1 111 8).toInt ≤ 1600 := by rw [hOσ7.2 111 (by decide)] <;> exact hu
      have ht : 0 ≤ (σ7.1 0 1).toInt ∧ (σ7.1 0 1).toInt ≤ 600 := by rw [hOσ7.2 0 (by decide)] <;> exact ht
      have hB : ZB σ7.1 := ZB.tr hOσ7 (by decide) hB
      refine ok_gR (v := 55) hT rfl (hR 0 7 rfl) ?_
      refine ok_s16 hT rfl (by decide) (by first | omega | decide | (have q1 := hD.1; have q2 := hD.2.1; simp only [Int32.le_iff_toInt_le, Int32.lt_iff_toInt_lt, ti_add, ti_sub, ti_mul, Int32.reduceToInt] at *; omega)) (by first | omega | decide | (have q1 := hD.1; have q2 := hD.2.1; simp only [Int32.le_iff_toInt_le, Int32.lt_iff_toInt_lt, ti_add, ti_sub, ti_mul, Int32.reduceToInt] at *; omega)) (fun σ9 eσ9 hOσ9 hT => ?_)
      have u31 := upd_at eσ9 r55_σ7
      have hW2 : WI 2 σ9.1 := WI.tr hOσ9 (by decide) (by decide) (by decide) hW2
      have hW28 : WI 28 σ9.1 := WI.tr hOσ9 (by decide) (by decide) (by decide) hW28
      have hW132 : WI 132 σ9.1 := WI.tr hOσ9 (by decide) (by decide) (by decide) hW132
      have hW158 : WI 158 σ9.1 := WI.tr hOσ9 (by decide) (by decide) (by decide) hW158
      have hW184 : WI 184 σ9.1 := WI.tr hOσ9 (by decide) (by decide) (by decide) hW184
      have hL : SI σ9.1 := SI.tr hOσ9 (by decide) (by decide) (by decide) (by decide) hL
      have hD : RD σ9.1 := RD.tr hOσ9 (by decide) (by decide) (by decide) (by decide) hD
      have hu : 2 ≤ (σ9.1 111 8).toInt ∧ (σ9.1 111 8).toInt ≤ 1600 := by rw [hOσ9.2 111 (by decide)] <;> exact hu
      have ht : 0 ≤ (σ9.1 0 1).toInt ∧ (σ9.1 0 1).toInt ≤ 600 := by rw [hOσ9.2 0 (by decide)] <;> exact ht
      have hB : ZB σ9.1 := ZB_s eσ9 hB
      exact ok_some ⟨hT, (show CF σ9.1 ∧ ZB σ9.1 ∧ (0 : Int32) = 0 ∧ ∀ j, σ9.1 55 j = if j = 1 then vp_nar .boolean 1 else σ0.1 55 j from by exact ⟨⟨hW2, hW28, hW132, hW158, hW184, hL, hD, hu, ht⟩, hB, rfl, u31⟩)⟩
    · exact absurd hc2 (by decide)

set_option maxHeartbeats 4000000 in
set_option maxRecDepth 100000 in
theorem s_X11_back_n28_1v {N : Nat} (hN : 1048576 ≤ N)  {σ0 : zS}  (hR : RF σ0.2.2) (hNw : σ0.2.2 0 4 = 28) (hPw : σ0.2.2 0 5 = 2) (hC : CF σ0.1) : Ok (f_X11_back N 0 1 σ0) (fun r => Tr [28, 29, 30, 31, 32] σ0 r.2 ∧ (CF r.2.1 ∧ r.1 = if σ0.1 55 1 = 0 then -6 else 0)) := by
  have hT : Tr [28, 29, 30, 31, 32] σ0 σ0 := Tr.rf
  obtain ⟨hW2, hW28, hW132, hW158, hW184, hL, hD, hu, ht⟩ := hC
  have hn := hW28.1
  have he := hW28.2.1
  have hD0 := hD
  have hL0 := hL
  have q10 := ti_one10 (x := σ0.1 28 0) hn.1 hn.2
  rw [f_X11_back.eq_1]
  refine ok_if (fun hc1 => ?_) (fun hc1 => ?_)
  · exact absurd hc1 (by decide)
  · refine ok_if (fun hc2 => ?_) (fun hc2 => ?_)
    · refine ok_gR (v := 55) hT rfl (hR 0 7 rfl) ?_
      refine ok_aIn rfl (by first | omega | decide | (have q1 := hD.1; have q2 := hD.2.1; simp only [Int32.le_iff_toInt_le, Int32.lt_iff_toInt_lt, ti_add, ti_sub, ti_mul, Int32.reduceToInt] at *; omega)) (by first | omega | decide | (have q1 := hD.1; have q2 := hD.2.1; simp only [Int32.le_iff_toInt_le, Int32.lt_iff_toInt_lt, ti_add, ti_sub, ti_mul, Int32.reduceToInt] at *; omega)) (fun v4 ev4 => ?_)
      have w17 : v4 = σ0.1 55 1 := ev4
      refine ok_if (fun hc5 => ?_) (fun hc5 => ?_)
      · have e18 := hc5
        exact ok_some ⟨hT, (show CF σ0.1 ∧ (-6 : Int32) = if σ0.1 55 1 = 0 then -6 else 0 from by first | exact ⟨⟨hW2, hW28, hW132, hW158, hW184, hL, hD, hu, ht⟩, (if_pos (w17 ▸ e18)).symm⟩ | exact ⟨⟨hW2, hW28, hW132, hW158, hW184, hL, hD, hu, ht⟩, (if_neg (w17 ▸ e18)).symm⟩)⟩
      · have e18 := hc5
        refine ok_gR (v := 28) hT rfl hNw ?_
        refine ok_gR (v := 54) hT rfl (hR 0 6 rfl) ?_
        refine ok_aR (v := 158) hT rfl (by first | omega | decide | (have q1 := hD.1; have q2 := hD.2.1; simp only [Int32.le_iff_toInt_le, Int32.lt_iff_toInt_lt, ti_add, ti_sub, ti_mul, Int32.reduceToInt] at *; omega)) (by first | omega | decide | (have q1 := hD.1; have q2 := hD.2.1; simp only [Int32.le_iff_toInt_le, Int32.lt_iff_toInt_lt, ti_add, ti_sub, ti_mul, Int32.reduceToInt] at *; omega)) (hR 54 1 rfl) ?_
        refine ok_gC rfl ?_
        refine ok_zbT (Q := fun V σ => WI 28 σ.1) hT (s_X10_copyFrom_28_158 hN (hR.tr hT) (hW28) (hW158)) (by decide) (fun v9 σ10 hOσ10 hT hqv9 => ?_)
        have hqv9 : WI 28 σ10.1 := hqv9
        have hW2 : WI 2 σ10.1 := WI.tr hOσ10 (by decide) (by decide) (by decide) hW2
        have hW28 : WI 28 σ10.1 := hqv9
        have hW132 : WI 132 σ10.1 := WI.tr hOσ10 (by decide) (by decide) (by decide) hW132
        have hW158 : WI 158 σ10.1 := WI.tr hOσ10 (by decide) (by decide) (by decide) hW158
        have hW184 : WI 184 σ10.1 := WI.tr hOσ10 (by decide) (by decide) (by decide) hW184
        have hL : SI σ10.1 := SI.tr hOσ10 (by decide) (by decide) (by decide) (by decide) hL
        have hD : RD σ10.1 := RD.tr hOσ10 (by decide) (by decide) (by decide) (by decide) hD
        have hu : 2 ≤ (σ10.1 111 8).toInt ∧ (σ10.1 111 8).toInt ≤ 1600 := by rw [hOσ10.2 111 (by decide)] <;> exact hu
        have ht : 0 ≤ (σ10.1 0 1).toInt ∧ (σ10.1 0 1).toInt ≤ 600 := by rw [hOσ10.2 0 (by decide)] <;> exact ht
        exact ok_some ⟨hT, (show CF σ10.1 ∧ (0 : Int32) = if σ0.1 55 1 = 0 then -6 else 0 from by first | exact ⟨⟨hW2, hW28, hW132, hW158, hW184, hL, hD, hu, ht⟩, (if_pos (w17 ▸ e18)).symm⟩ | exact ⟨⟨hW2, hW28, hW132, hW158, hW184, hL, hD, hu, ht⟩, (if_neg (w17 ▸ e18)).symm⟩)⟩
    · exact absurd hc2 (by decide)

set_option maxHeartbeats 4000000 in
set_option maxRecDepth 100000 in
theorem s_X11_keep_n28_2v {N : Nat} (hN : 1048576 ≤ N)  {σ0 : zS}  (hR : RF σ0.2.2) (hNw : σ0.2.2 0 4 = 28) (hPw : σ0.2.2 0 5 = 2) (hC : CF σ0.1) (hB : ZB σ0.1) : Ok (f_X11_keep N 0 2 σ0) (fun r => Tr [55, 184, 185, 186, 187, 188] σ0 r.2 ∧ (CF r.2.1 ∧ ZB r.2.1 ∧ r.1 = 0 ∧ ∀ j, r.2.1 55 j = if j = 2 then vp_nar .boolean 1 else σ0.1 55 j)) := by
  have hT : Tr [55, 184, 185, 186, 187, 188] σ0 σ0 := Tr.rf
  obtain ⟨hW2, hW28, hW132, hW158, hW184, hL, hD, hu, ht⟩ := hC
  have hn := hW28.1
  have he := hW28.2.1
  have hD0 := hD
  have hL0 := hL
  have q10 := ti_one10 (x := σ0.1 28 0) hn.1 hn.2
  rw [f_X11_keep.eq_1]
  refine ok_if (fun hc1 => ?_) (fun hc1 => ?_)
  · exact absurd hc1 (by decide)
  · refine ok_if (fun hc2 => ?_) (fun hc2 => ?_)
    · refine ok_gR (v := 54) hT rfl (hR 0 6 rfl) ?_
      refine ok_aR (v := 184) hT rfl (by first | omega | decide | (have q1 := hD.1; have q2 := hD.2.1; simp only [Int32.le_iff_toInt_le, Int32.lt_iff_toInt_lt, ti_add, ti_sub, ti_mul, Int32.reduceToInt] at *; omega)) (by first | omega | decide | (have q1 := hD.1; have q2 := hD.2.1; simp only [Int32.le_iff_toInt_le, Int32.lt_iff_toInt_lt, ti_add, ti_sub, ti_mul, Int32.reduceToInt] at *; omega)) (hR 54 2 rfl) ?_
      refine ok_gR (v := 28) hT rfl hNw ?_
      refine ok_gC rfl ?_
      refine ok_zbT (Q := fun V σ => WI 184 σ.1) hT (s_X10_copyFrom_184_28 hN (hR.tr hT) (hW184) (hW28)) (by decide) (fun v6 σ7 hOσ7 hT hqv6 => ?_)
      have hqv6 : WI 184 σ7.1 := hqv6
      have r55_σ7 : σ7.1 55 = σ0.1 55 := hOσ7.2 55 (by decide)
      have hW2 : WI 2 σ7.1 := WI.tr hOσ7 (by decide) (by decide) (by decide) hW2
      have hW28 : WI 28 σ7.1 := WI.tr hOσ7 (by decide) (by decide) (by decide) hW28
      have hW132 : WI 132 σ7.1 := WI.tr hOσ7 (by decide) (by decide) (by decide) hW132
      have hW158 : WI 158 σ7.1 := WI.tr hOσ7 (by decide) (by decide) (by decide) hW158
      have hW184 : WI 184 σ7.1 := hqv6
      have hL : SI σ7.1 := SI.tr hOσ7 (by decide) (by decide) (by decide) (by decide) hL
      have hD : RD σ7.1 := RD.tr hOσ7 (by decide) (by decide) (by decide) (by decide) hD
      have hu : 2 ≤ (σ7.1 111 8).toInt ∧ (σ7.1 111 8).toInt ≤ 1600 := by rw [hOσ7.2 111 (by decide)] <;> exact hu
      have ht : 0 ≤ (σ7.1 0 1).toInt ∧ (σ7.1 0 1).toInt ≤ 600 := by rw [hOσ7.2 0 (by decide)] <;> exact ht
      have hB : ZB σ7.1 := ZB.tr hOσ7 (by decide) hB
      refine ok_gR (v := 55) hT rfl (hR 0 7 rfl) ?_
      refine ok_s16 hT rfl (by decide) (by first | omega | decide | (have q1 := hD.1; have q2 := hD.2.1; simp only [Int32.le_iff_toInt_le, Int32.lt_iff_toInt_lt, ti_add, ti_sub, ti_mul, Int32.reduceToInt] at *; omega)) (by first | omega | decide | (have q1 := hD.1; have q2 := hD.2.1; simp only [Int32.le_iff_toInt_le, Int32.lt_iff_toInt_lt, ti_add, ti_sub, ti_mul, Int32.reduceToInt] at *; omega)) (fun σ9 eσ9 hOσ9 hT => ?_)
      have u31 := upd_at eσ9 r55_σ7
      have hW2 : WI 2 σ9.1 := WI.tr hOσ9 (by decide) (by decide) (by decide) hW2
      have hW28 : WI 28 σ9.1 := WI.tr hOσ9 (by decide) (by decide) (by decide) hW28
      have hW132 : WI 132 σ9.1 := WI.tr hOσ9 (by decide) (by decide) (by decide) hW132
      have hW158 : WI 158 σ9.1 := WI.tr hOσ9 (by decide) (by decide) (by decide) hW158
      have hW184 : WI 184 σ9.1 := WI.tr hOσ9 (by decide) (by decide) (by decide) hW184
      have hL : SI σ9.1 := SI.tr hOσ9 (by decide) (by decide) (by decide) (by decide) hL
      have hD : RD σ9.1 := RD.tr hOσ9 (by decide) (by decide) (by decide) (by decide) hD
      have hu : 2 ≤ (σ9.1 111 8).toInt ∧ (σ9.1 111 8).toInt ≤ 1600 := by rw [hOσ9.2 111 (by decide)] <;> exact hu
      have ht : 0 ≤ (σ9.1 0 1).toInt ∧ (σ9.1 0 1).toInt ≤ 600 := by rw [hOσ9.2 0 (by decide)] <;> exact ht
      have hB : ZB σ9.1 := ZB_s eσ9 hB
      exact ok_some ⟨hT, (show CF σ9.1 ∧ ZB σ9.1 ∧ (0 : Int32) = 0 ∧ ∀ j, σ9.1 55 j = if j = 2 then vp_nar .boolean 1 else σ0.1 55 j from by exact ⟨⟨hW2, hW28, hW132, hW158, hW184, hL, hD, hu, ht⟩, hB, rfl, u31⟩)⟩
    · exact absurd hc2 (by decide)

set_option maxHeartbeats 4000000 in
set_option maxRecDepth 100000 in
theorem s_X11_back_n28_2v {N : Nat} (hN : 1048576 ≤ N)  {σ0 : zS}  (hR : RF σ0.2.2) (hNw : σ0.2.2 0 4 = 28) (hPw : σ0.2.2 0 5 = 2) (hC : CF σ0.1) : Ok (f_X11_back N 0 2 σ0) (fun r => Tr [28, 29, 30, 31, 32] σ0 r.2 ∧ (CF r.2.1 ∧ r.1 = if σ0.1 55 2 = 0 then -6 else 0)) := by
  have hT : Tr [28, 29, 30, 31, 32] σ0 σ0 := Tr.rf
  obtain ⟨hW2, hW28, hW132, hW158, hW184, hL, hD, hu, ht⟩ := hC
  have hn := hW28.1
  have he := hW28.2.1
  have hD0 := hD
  have hL0 := hL
  have q10 := ti_one10 (x := σ0.1 28 0) hn.1 hn.2
  rw [f_X11_back.eq_1]
  refine ok_if (fun hc1 => ?_) (fun hc1 => ?_)
  · exact absurd hc1 (by decide)
  · refine ok_if (fun hc2 => ?_) (fun hc2 => ?_)
    · refine ok_gR (v := 55) hT rfl (hR 0 7 rfl) ?_
      refine ok_aIn rfl (by first | omega | decide | (have q1 := hD.1; have q2 := hD.2.1; simp only [Int32.le_iff_toInt_le, Int32.lt_iff_toInt_lt, ti_add, ti_sub, ti_mul, Int32.reduceToInt] at *; omega)) (by first | omega | decide | (have q1 := hD.1; have q2 := hD.2.1; simp only [Int32.le_iff_toInt_le, Int32.lt_iff_toInt_lt, ti_add, ti_sub, ti_mul, Int32.reduceToInt] at *; omega)) (fun v4 ev4 => ?_)
      have w17 : v4 = σ0.1 55 2 := ev4
      refine ok_if (fun hc5 => ?_) (fun hc5 => ?_)
      · have e18 := hc5
        exact ok_some ⟨hT, (show CF σ0.1 ∧ (-6 : Int32) = if σ0.1 55 2 = 0 then -6 else 0 from by first | exact ⟨⟨hW2, hW28, hW132, hW158, hW184, hL, hD, hu, ht⟩, (if_pos (w17 ▸ e18)).symm⟩ | exact ⟨⟨hW2, hW28, hW132, hW158, hW184, hL, hD, hu, ht⟩, (if_neg (w17 ▸ e18)).symm⟩)⟩
      · have e18 := hc5
        refine ok_gR (v := 28) hT rfl hNw ?_
        refine ok_gR (v := 54) hT rfl (hR 0 6 rfl) ?_
        refine ok_aR (v := 184) hT rfl (by first | omega | decide | (have q1 := hD.1; have q2 := hD.2.1; simp only [Int32.le_iff_toInt_le, Int32.lt_iff_toInt_lt, ti_add, ti_sub, ti_mul, Int32.reduceToInt] at *; omega)) (by first | omega | decide | (have q1 := hD.1; have q2 := hD.2.1; simp only [Int32.le_iff_toInt_le, Int32.lt_iff_toInt_lt, ti_add, ti_sub, ti_mul, Int32.reduceToInt] at *; omega)) (hR 54 2 rfl) ?_
        refine ok_gC rfl ?_
        refine ok_zbT (Q := fun V σ => WI 28 σ.1) hT (s_X10_copyFrom_28_184 hN (hR.tr hT) (hW28) (hW184)) (by decide) (fun v9 σ10 hOσ10 hT hqv9 => ?_)
        have hqv9 : WI 28 σ10.1 := hqv9
        have hW2 : WI 2 σ10.1 := WI.tr hOσ10 (by decide) (by decide) (by decide) hW2
        have hW28 : WI 28 σ10.1 := hqv9
        have hW132 : WI 132 σ10.1 := WI.tr hOσ10 (by decide) (by decide) (by decide) hW132
        have hW158 : WI 158 σ10.1 := WI.tr hOσ10 (by decide) (by decide) (by decide) hW158
        have hW184 : WI 184 σ10.1 := WI.tr hOσ10 (by decide) (by decide) (by decide) hW184
        have hL : SI σ10.1 := SI.tr hOσ10 (by decide) (by decide) (by decide) (by decide) hL
        have hD : RD σ10.1 := RD.tr hOσ10 (by decide) (by decide) (by decide) (by decide) hD
        have hu : 2 ≤ (σ10.1 111 8).toInt ∧ (σ10.1 111 8).toInt ≤ 1600 := by rw [hOσ10.2 111 (by decide)] <;> exact hu
        have ht : 0 ≤ (σ10.1 0 1).toInt ∧ (σ10.1 0 1).toInt ≤ 600 := by rw [hOσ10.2 0 (by decide)] <;> exact ht
        exact ok_some ⟨hT, (show CF σ10.1 ∧ (0 : Int32) = if σ0.1 55 2 = 0 then -6 else 0 from by first | exact ⟨⟨hW2, hW28, hW132, hW158, hW184, hL, hD, hu, ht⟩, (if_pos (w17 ▸ e18)).symm⟩ | exact ⟨⟨hW2, hW28, hW132, hW158, hW184, hL, hD, hu, ht⟩, (if_neg (w17 ▸ e18)).symm⟩)⟩
    · exact absurd hc2 (by decide)

set_option maxHeartbeats 4000000 in
set_option maxRecDepth 100000 in
theorem s_X11_write_n28v {N : Nat} (hN : 1048576 ≤ N) {x1 : Int32} {x2 : Int32} {x3 : Int64} {σ0 : zS}  (hR : RF σ0.2.2) (hNw : σ0.2.2 0 4 = 28) (hPw : σ0.2.2 0 5 = 2) (hC : CF σ0.1) : Ok (f_X11_write N 0 x1 x2 x3 σ0) (fun r => Tr [] σ0 r.2 ∧ (CF r.2.1 ∧ r.1 = wrV x1 x2 (σ0.1 (210 + 2 * x1.toInt.toNat) 2))) := by
  have hT : Tr [] σ0 σ0 := Tr.rf
  obtain ⟨hW2, hW28, hW132, hW158, hW184, hL, hD, hu, ht⟩ := hC
  have hn := hW28.1
  have he := hW28.2.1
  have hD0 := hD
  have hL0 := hL
  have q10 := ti_one10 (x := σ0.1 28 0) hn.1 hn.2
  rw [f_X11_write.eq_1]
  refine ok_gC rfl ?_
  refine ok_zbX (Q := fun V => (V = 0 → ¬ (0 ≤ x1.toInt ∧ x1.toInt ≤ 3)) ∧ (¬ V = 0 → 0 ≤ x1.toInt ∧ x1.toInt ≤ 3)) (x_X11_isSlot) (fun v1 hqv1 => ?_)
  refine ok_if (fun hc3 => ?_) (fun hc3 => ?_)
  · have qhc3 := hqv1.1 hc3
    exact ok_some ⟨hT, (show CF σ0.1 ∧ (-2 : Int32) = wrV x1 x2 (σ0.1 (210 + 2 * x1.toInt.toNat) 2) from by first | exact ⟨⟨hW2, hW28, hW132, hW158, hW184, hL, hD, hu, ht⟩, (if_neg (by first | omega | (simp only [Int32.le_iff_toInt_le, Int32.lt_iff_toInt_lt, ti_add, ti_sub, ti_mul, Int32.reduceToInt] at *; omega))).symm⟩ | exact ⟨⟨hW2, hW28, hW132, hW158, hW184, hL, hD, hu, ht⟩, by rw [← hqq16]; (first | exact (if_neg (by first | omega | (simp only [Int32.le_iff_toInt_le, Int32.lt_iff_toInt_lt, ti_add, ti_sub, ti_mul, Int32.reduceToInt] at *; omega))).symm | exact ((if_pos (by first | omega | (simp only [Int32.le_iff_toInt_le, Int32.lt_iff_toInt_lt, ti_add, ti_sub, ti_mul, Int32.reduceToInt] at *; omega))).trans (if_pos (by first | omega | (simp only [Int32.le_iff_toInt_le, Int32.lt_iff_toInt_lt, ti_add, ti_sub, ti_mul, Int32.reduceToInt] at *; omega)))).symm | exact ((if_pos (by first | omega | (simp only [Int32.le_iff_toInt_le, Int32.lt_iff_toInt_lt, ti_add, ti_sub, ti_mul, Int32.reduceToInt] at *; omega))).trans ((if_neg (by first | omega | (simp only [Int32.le_iff_toInt_le, Int32.lt_iff_toInt_lt, ti_add, ti_sub, ti_mul, Int32.reduceToInt] at *; omega))).trans (if_pos (by first | omega | (simp only [Int32.le_iff_toInt_le, Int32.lt_iff_toInt_lt, ti_add, ti_sub, ti_mul, Int32.reduceToInt] at *; omega))))).symm | exact ((if_pos (by first | omega | (simp only [Int32.le_iff_toInt_le, Int32.lt_iff_toInt_lt, ti_add, ti_sub, ti_mul, Int32.reduceToInt] at *; omega))).trans ((if_neg (by first | omega | (simp only [Int32.le_iff_toInt_le, Int32.lt_iff_toInt_lt, ti_add, ti_sub, ti_mul, Int32.reduceToInt] at *; omega))).trans (if_neg (by first | omega | (simp only [Int32.le_iff_toInt_le, Int32.lt_iff_toInt_lt, ti_add, ti_sub, ti_mul, Int32.reduceToInt] at *; omega))))).symm)⟩)⟩
  · have qhc3 := hqv1.2 hc3
    refine ok_gR (v := 56) hT rfl (hR 0 8 rfl) ?_
    obtain ⟨q6, eq6, kq6⟩ := arrS hR (k := 56) (i := x1) rfl (by first | omega | decide | (have q1 := hD.1; have q2 := hD.2.1; simp only [Int32.le_iff_toInt_le, Int32.lt_iff_toInt_lt, ti_add, ti_sub, ti_mul, Int32.reduceToInt] at *; omega)) (by first | omega | decide | (have q1 := hD.1; have q2 := hD.2.1; simp only [Int32.le_iff_toInt_le, Int32.lt_iff_toInt_lt, ti_add, ti_sub, ti_mul, Int32.reduceToInt] at *; omega))
    refine ok_aR (v := q6) hT rfl (by first | omega | decide | (have q1 := hD.1; have q2 := hD.2.1; simp only [Int32.le_iff_toInt_le, Int32.lt_iff_toInt_lt, ti_add, ti_sub, ti_mul, Int32.reduceToInt] at *; omega)) (by first | omega | decide | (have q1 := hD.1; have q2 := hD.2.1; simp only [Int32.le_iff_toInt_le, Int32.lt_iff_toInt_lt, ti_add, ti_sub, ti_mul, Int32.reduceToInt] at *; omega)) eq6 ?_
    have hq16 := hL0 q6 kq6
    have hqq16 := slotC hR (x := x1) (by omega) (by omega) eq6
    have KQ9 := kq6
    refine ok_gC kq6 ?_
    refine ok_zbX (Q := fun V => (V = 0 → 0 ≤ (σ0.1 q6 2).toInt) ∧ (¬ V = 0 → (σ0.1 q6 2).toInt < 0)) (x_X9_isBare (by first | exact kq4 | exact KQ9)) (fun v7 hqv7 => ?_)
    refine ok_if (fun hc9 => ?_) (fun hc9 => ?_)
    · have qhc9 := hqv7.1 hc9
      refine ok_if (fun hc10 => ?_) (fun hc10 => ?_)
      · exact ok_some ⟨hT, (show CF σ0.1 ∧ (-7 : Int32) = wrV x1 x2 (σ0.1 (210 + 2 * x1.toInt.toNat) 2) from by first | exact ⟨⟨hW2, hW28, hW132, hW158, hW184, hL, hD, hu, ht⟩, (if_neg (by first | omega | (simp only [Int32.le_iff_toInt_le, Int32.lt_iff_toInt_lt, ti_add, ti_sub, ti_mul, Int32.reduceToInt] at *; omega))).symm⟩ | exact ⟨⟨hW2, hW28, hW132, hW158, hW184, hL, hD, hu, ht⟩, by rw [← hqq16]; (first | exact (if_neg (by first | omega | (simp only [Int32.le_iff_toInt_le, Int32.lt_iff_toInt_lt, ti_add, ti_sub, ti_mul, Int32.reduceToInt] at *; omega))).symm | exact ((if_pos (by first | omega | (simp only [Int32.le_iff_toInt_le, Int32.lt_iff_toInt_lt, ti_add, ti_sub, ti_mul, Int32.reduceToInt] at *; omega))).trans (if_pos (by first | omega | (simp only [Int32.le_iff_toInt_le, Int32.lt_iff_toInt_lt, ti_add, ti_sub, ti_mul, Int32.reduceToInt] at *; omega)))).symm | exact ((if_pos (by first | omega | (simp only [Int32.le_iff_toInt_le, Int32.lt_iff_toInt_lt, ti_add, ti_sub, ti_mul, Int32.reduceToInt] at *; omega))).trans ((if_neg (by first | omega | (simp only [Int32.le_iff_toInt_le, Int32.lt_iff_toInt_lt, ti_add, ti_sub, ti_mul, Int32.reduceToInt] at *; omega))).trans (if_pos (by first | omega | (simp only [Int32.le_iff_toInt_le, Int32.lt_iff_toInt_lt, ti_add, ti_sub, ti_mul, Int32.reduceToInt] at *; omega))))).symm | exact ((if_pos (by first | omega | (simp only [Int32.le_iff_toInt_le, Int32.lt_iff_toInt_lt, ti_add, ti_sub, ti_mul, Int32.reduceToInt] at *; omega))).trans ((if_neg (by first | omega | (simp only [Int32.le_iff_toInt_le, Int32.lt_iff_toInt_lt, ti_add, ti_sub, ti_mul, Int32.reduceToInt] at *; omega))).trans (if_neg (by first | omega | (simp only [Int32.le_iff_toInt_le, Int32.lt_iff_toInt_lt, ti_add, ti_sub, ti_mul, Int32.reduceToInt] at *; omega))))).symm)⟩)⟩
      · refine ok_gI0 hT kq6 List.not_mem_nil ?_
        refine ok_if (fun hc12 => ?_) (fun hc12 => ?_)
        · refine ok_gR hT kq6 (slot_R hR kq6).1 ?_
          refine ok_gC kq6 ?_
          refine ok_zbT (Q := fun V σ => True) hT (s_X9_cut hN (hR.tr hT) kq6) (fun _ h9 => absurd h9 List.not_mem_nil) (fun v14 σ15 hOσ15 hT hqv14 => ?_)
          have hW2 : WI 2 σ15.1 := WI.tr hOσ15 (by decide) (by decide) (by decide) hW2
          have hW28 : WI 28 σ15.1 := WI.tr hOσ15 (by decide) (by decide) (by decide) hW28
          have hW132 : WI 132 σ15.1 := WI.tr hOσ15 (by decide) (by decide) (by decide) hW132
          have hW158 : WI 158 σ15.1 := WI.tr hOσ15 (by decide) (by decide) (by decide) hW158
          have hW184 : WI 184 σ15.1 := WI.tr hOσ15 (by decide) (by decide) (by decide) hW184
          have hL : SI σ15.1 := SI.tr hOσ15 (by decide) (by decide) (by decide) (by decide) hL
          have hD : RD σ15.1 := RD.tr hOσ15 (by decide) (by decide) (by decide) (by decide) hD
          have hu : 2 ≤ (σ15.1 111 8).toInt ∧ (σ15.1 111 8).toInt ≤ 1600 := by rw [hOσ15.2 111 (by decide)] <;> exact hu
          have ht : 0 ≤ (σ15.1 0 1).toInt ∧ (σ15.1 0 1).toInt ≤ 600 := by rw [hOσ15.2 0 (by decide)] <;> exact ht
          refine ok_sJ hT (slot_R hR kq6).2 (by first | omega | decide | (have q1 := hD.1; have q2 := hD.2.1; simp only [Int32.le_iff_toInt_le, Int32.lt_iff_toInt_lt, ti_add, ti_sub, ti_mul, Int32.reduceToInt] at *; omega)) (by first | omega | decide | (have q1 := hD.1; have q2 := hD.2.1; simp only [Int32.le_iff_toInt_le, Int32.lt_iff_toInt_lt, ti_add, ti_sub, ti_mul, Int32.reduceToInt] at *; omega)) (fun σ16 eσ16 hOσ16 hT => ?_)
          have hW2 : WI 2 σ16.1 := WI.tr hOσ16 (by decide) (by decide) (by decide) hW2
          have hW28 : WI 28 σ16.1 := WI.tr hOσ16 (by decide) (by decide) (by decide) hW28
          have hW132 : WI 132 σ16.1 := WI.tr hOσ16 (by decide) (by decide) (by decide) hW132
          have hW158 : WI 158 σ16.1 := WI.tr hOσ16 (by decide) (by decide) (by decide) hW158
          have hW184 : WI 184 σ16.1 := WI.tr hOσ16 (by decide) (by decide) (by decide) hW184
          have hL : SI σ16.1 := SI.tr hOσ16 (by decide) (by decide) (by decide) (by decide) hL
          have hD : RD σ16.1 := RD.tr hOσ16 (by decide) (by decide) (by decide) (by decide) hD
          have hu : 2 ≤ (σ16.1 111 8).toInt ∧ (σ16.1 111 8).toInt ≤ 1600 := by rw [hOσ16.2 111 (by decide)] <;> exact hu
          have ht : 0 ≤ (σ16.1 0 1).toInt ∧ (σ16.1 0 1).toInt ≤ 600 := by rw [hOσ16.2 0 (by decide)] <;> exact ht
          exact ok_some ⟨hT, (show CF σ16.1 ∧ (0 : Int32) = wrV x1 x2 (σ0.1 (210 + 2 * x1.toInt.toNat) 2) from by first | exact ⟨⟨hW2, hW28, hW132, hW158, hW184, hL, hD, hu, ht⟩, (if_neg (by first | omega | (simp only [Int32.le_iff_toInt_le, Int32.lt_iff_toInt_lt, ti_add, ti_sub, ti_mul, Int32.reduceToInt] at *; omega))).symm⟩ | exact ⟨⟨hW2, hW28, hW132, hW158, hW184, hL, hD, hu, ht⟩, by rw [← hqq16]; (first | exact (if_neg (by first | omega | (simp only [Int32.le_iff_toInt_le, Int32.lt_iff_toInt_lt, ti_add, ti_sub, ti_mul, Int32.reduceToInt] at *; omega))).symm | exact ((if_pos (by first | omega | (simp only [Int32.le_iff_toInt_le, Int32.lt_iff_toInt_lt, ti_add, ti_sub, ti_mul, Int32.reduceToInt] at *; omega))).trans (if_pos (by first | omega | (simp only [Int32.le_iff_toInt_le, Int32.lt_iff_toInt_lt, ti_add, ti_sub, ti_mul, Int32.reduceToInt] at *; omega)))).symm | exact ((if_pos (by first | omega | (simp only [Int32.le_iff_toInt_le, Int32.lt_iff_toInt_lt, ti_add, ti_sub, ti_mul, Int32.reduceToInt] at *; omega))).trans ((if_neg (by first | omega | (simp only [Int32.le_iff_toInt_le, Int32.lt_iff_toInt_lt, ti_add, ti_sub, ti_mul, Int32.reduceToInt] at *; omega))).trans (if_pos (by first | omega | (simp only [Int32.le_iff_toInt_le, Int32.lt_iff_toInt_lt, ti_add, ti_sub, ti_mul, Int32.reduceToInt] at *; omega))))).symm | exact ((if_pos (by first | omega | (simp only [Int32.le_iff_toInt_le, Int32.lt_iff_toInt_lt, ti_add, ti_sub, ti_mul, Int32.reduceToInt] at *; omega))).trans ((if_neg (by first | omega | (simp only [Int32.le_iff_toInt_le, Int32.lt_iff_toInt_lt, ti_add, ti_sub, ti_mul, Int32.reduceToInt] at *; omega))).trans (if_neg (by first | omega | (simp only [Int32.le_iff_toInt_le, Int32.lt_iff_toInt_lt, ti_add, ti_sub, ti_mul, Int32.reduceToInt] at *; omega))))).symm)⟩)⟩
        · exact ok_some ⟨hT, (show CF σ0.1 ∧ (-7 : Int32) = wrV x1 x2 (σ0.1 (210 + 2 * x1.toInt.toNat) 2) from by first | exact ⟨⟨hW2, hW28, hW132, hW158, hW184, hL, hD, hu, ht⟩, (if_neg (by first | omega | (simp only [Int32.le_iff_toInt_le, Int32.lt_iff_toInt_lt, ti_add, ti_sub, ti_mul, Int32.reduceToInt] at *; omega))).symm⟩ | exact ⟨⟨hW2, hW28, hW132, hW158, hW184, hL, hD, hu, ht⟩, by rw [← hqq16]; (first | exact (if_neg (by first | omega | (simp only [Int32.le_iff_toInt_le, Int32.lt_iff_toInt_lt, ti_add, ti_sub, ti_mul, Int32.reduceToInt] at *; omega))).symm | exact ((if_pos (by first | omega | (simp only [Int32.le_iff_toInt_le, Int32.lt_iff_toInt_lt, ti_add, ti_sub, ti_mul, Int32.reduceToInt] at *; omega))).trans (if_pos (by first | omega | (simp only [Int32.le_iff_toInt_le, Int32.lt_iff_toInt_lt, ti_add, ti_sub, ti_mul, Int32.reduceToInt] at *; omega)))).symm | exact ((if_pos (by first | omega | (simp only [Int32.le_iff_toInt_le, Int32.lt_iff_toInt_lt, ti_add, ti_sub, ti_mul, Int32.reduceToInt] at *; omega))).trans ((if_neg (by first | omega | (simp only [Int32.le_iff_toInt_le, Int32.lt_iff_toInt_lt, ti_add, ti_sub, ti_mul, Int32.reduceToInt] at *; omega))).trans (if_pos (by first | omega | (simp only [Int32.le_iff_toInt_le, Int32.lt_iff_toInt_lt, ti_add, ti_sub, ti_mul, Int32.reduceToInt] at *; omega))))).symm | exact ((if_pos (by first | omega | (simp only [Int32.le_iff_toInt_le, Int32.lt_iff_toInt_lt, ti_add, ti_sub, ti_mul, Int32.reduceToInt] at *; omega))).trans ((if_neg (by first | omega | (simp only [Int32.le_iff_toInt_le, Int32.lt_iff_toInt_lt, ti_add, ti_sub, ti_mul, Int32.reduceToInt] at *; omega))).trans (if_neg (by first | omega | (simp only [Int32.le_iff_toInt_le, Int32.lt_iff_toInt_lt, ti_add, ti_sub, ti_mul, Int32.reduceToInt] at *; omega))))).symm)⟩)⟩
    · have qhc9 := hqv7.2 hc9
      exact ok_some ⟨hT, (show CF σ0.1 ∧ (-6 : Int32) = wrV x1 x2 (σ0.1 (210 + 2 * x1.toInt.toNat) 2) from by first | exact ⟨⟨hW2, hW28, hW132, hW158, hW184, hL, hD, hu, ht⟩, (if_neg (by first | omega | (simp only [Int32.le_iff_toInt_le, Int32.lt_iff_toInt_lt, ti_add, ti_sub, ti_mul, Int32.reduceToInt] at *; omega))).symm⟩ | exact ⟨⟨hW2, hW28, hW132, hW158, hW184, hL, hD, hu, ht⟩, by rw [← hqq16]; (first | exact (if_neg (by first | omega | (simp only [Int32.le_iff_toInt_le, Int32.lt_iff_toInt_lt, ti_add, ti_sub, ti_mul, Int32.reduceToInt] at *; omega))).symm | exact ((if_pos (by first | omega | (simp only [Int32.le_iff_toInt_le, Int32.lt_iff_toInt_lt, ti_add, ti_sub, ti_mul, Int32.reduceToInt] at *; omega))).trans (if_pos (by first | omega | (simp only [Int32.le_iff_toInt_le, Int32.lt_iff_toInt_lt, ti_add, ti_sub, ti_mul, Int32.reduceToInt] at *; omega)))).symm | exact ((if_pos (by first | omega | (simp only [Int32.le_iff_toInt_le, Int32.lt_iff_toInt_lt, ti_add, ti_sub, ti_mul, Int32.reduceToInt] at *; omega))).trans ((if_neg (by first | omega | (simp only [Int32.le_iff_toInt_le, Int32.lt_iff_toInt_lt, ti_add, ti_sub, ti_mul, Int32.reduceToInt] at *; omega))).trans (if_pos (by first | omega | (simp only [Int32.le_iff_toInt_le, Int32.lt_iff_toInt_lt, ti_add, ti_sub, ti_mul, Int32.reduceToInt] at *; omega))))).symm | exact ((if_pos (by first | omega | (simp only [Int32.le_iff_toInt_le, Int32.lt_iff_toInt_lt, ti_add, ti_sub, ti_mul, Int32.reduceToInt] at *; omega))).trans ((if_neg (by first | omega | (simp only [Int32.le_iff_toInt_le, Int32.lt_iff_toInt_lt, ti_add, ti_sub, ti_mul, Int32.reduceToInt] at *; omega))).trans (if_neg (by first | omega | (simp only [Int32.le_iff_toInt_le, Int32.lt_iff_toInt_lt, ti_add, ti_sub, ti_mul, Int32.reduceToInt] at *; omega))))).symm)⟩)⟩

set_option maxHeartbeats 4000000 in
set_option maxRecDepth 100000 in
theorem s_X11_paste_n28v {N : Nat} (hN : 1048576 ≤ N) {x1 : Int32} {x2 : Int32} {x3 : Int32} {x4 : Int32} {x5 : Int32} {σ0 : zS}  (hR : RF σ0.2.2) (hNw : σ0.2.2 0 4 = 28) (hPw : σ0.2.2 0 5 = 2) (hC : CF σ0.1) : Ok (f_X11_paste N 0 x1 x2 x3 x4 x5 σ0) (fun r => Tr [] σ0 r.2 ∧ (CF r.2.1 ∧ r.1 = paV x1 x2 x3 x4 x5 (σ0.1 (210 + 2 * x1.toInt.toNat) 2) (σ0.1 (210 + 2 * x3.toInt.toNat) 2) (σ0.1 (210 + 2 * x1.toInt.toNat) 1) (σ0.1 (210 + 2 * x3.toInt.toNat) 1))) := by
  have hT : Tr [] σ0 σ0 := Tr.rf
  obtain ⟨hW2, hW28, hW132, hW158, hW184, hL, hD, hu, ht⟩ := hC
  have hn := hW28.1
  have he := hW28.2.1
  have hD0 := hD
  have hL0 := hL
  have q10 := ti_one10 (x := σ0.1 28 0) hn.1 hn.2
  rw [f_X11_paste.eq_1]
  refine ok_gC rfl ?_
  refine ok_zbX (Q := fun V => (V = 0 → ¬ (0 ≤ x1.toInt ∧ x1.toInt ≤ 3)) ∧ (¬ V = 0 → 0 ≤ x1.toInt ∧ x1.toInt ≤ 3)) (x_X11_isSlot) (fun v1 hqv1 => ?_)
  refine ok_if (fun hc3 => ?_) (fun hc3 => ?_)
  · have qhc3 := hqv1.1 hc3
    exact ok_some ⟨hT, (show CF σ0.1 ∧ (-2 : Int32) = paV x1 x2 x3 x4 x5 (σ0.1 (210 + 2 * x1.toInt.toNat) 2) (σ0.1 (210 + 2 * x3.toInt.toNat) 2) (σ0.1 (210 + 2 * x1.toInt.toNat) 1) (σ0.1 (210 + 2 * x3.toInt.toNat) 1) from by first | exact ⟨⟨hW2, hW28, hW132, hW158, hW184, hL, hD, hu, ht⟩, (if_neg (by first | omega | (simp only [Int32.le_iff_toInt_le, Int32.lt_iff_toInt_lt, ti_add, ti_sub, ti_mul, Int32.reduceToInt] at *; omega))).symm⟩ | exact ⟨⟨hW2, hW28, hW132, hW158, hW184, hL, hD, hu, ht⟩, by rw [← hqq24, ← hqq32]; (first | exact ((if_pos (by first | omega | (simp only [Int32.le_iff_toInt_le, Int32.lt_iff_toInt_lt, ti_add, ti_sub, ti_mul, Int32.reduceToInt] at *; omega))).trans (if_pos (by first | omega | (simp only [Int32.le_iff_toInt_le, Int32.lt_iff_toInt_lt, ti_add, ti_sub, ti_mul, Int32.reduceToInt] at *; omega)))).symm | exact ((if_pos (by first | omega | (simp only [Int32.le_iff_toInt_le, Int32.lt_iff_toInt_lt, ti_add, ti_sub, ti_mul, Int32.reduceToInt] at *; omega))).trans ((if_neg (by first | omega | (simp only [Int32.le_iff_toInt_le, Int32.lt_iff_toInt_lt, ti_add, ti_sub, ti_mul, Int32.reduceToInt] at *; omega))).trans (if_neg n64))).symm | exact ((if_pos (by first | omega | (simp only [Int32.le_iff_toInt_le, Int32.lt_iff_toInt_lt, ti_add, ti_sub, ti_mul, Int32.reduceToInt] at *; omega))).trans ((if_neg (by first | omega | (simp only [Int32.le_iff_toInt_le, Int32.lt_iff_toInt_lt, ti_add, ti_sub, ti_mul, Int32.reduceToInt] at *; omega))).trans ((if_pos n64).trans (if_neg (by first | omega | (simp only [Int32.le_iff_toInt_le, Int32.lt_iff_toInt_lt, ti_add, ti_sub, ti_mul, Int32.reduceToInt] at *; omega)))))).symm | exact ((if_pos (by first | omega | (simp only [Int32.le_iff_toInt_le, Int32.lt_iff_toInt_lt, ti_add, ti_sub, ti_mul, Int32.reduceToInt] at *; omega))).trans ((if_neg (by first | omega | (simp only [Int32.le_iff_toInt_le, Int32.lt_iff_toInt_lt, ti_add, ti_sub, ti_mul, Int32.reduceToInt] at *; omega))).trans ((if_pos n64).trans (if_pos (by first | omega | (simp only [Int32.le_iff_toInt_le, Int32.lt_iff_toInt_lt, ti_add, ti_sub, ti_mul, Int32.reduceToInt] at *; omega)))))).symm)⟩)⟩
  · have qhc3 := hqv1.2 hc3
    refine ok_gC rfl ?_
    refine ok_zbX (Q := fun V => (V = 0 → ¬ (0 ≤ x3.toInt ∧ x3.toInt ≤ 3)) ∧ (¬ V = 0 → 0 ≤ x3.toInt ∧ x3.toInt ≤ 3)) (x_X11_isSlot) (fun v4 hqv4 => ?_)
    refine ok_if (fun hc6 => ?_) (fun hc6 => ?_)
    · have qhc6 := hqv4.1 hc6
      exact ok_some ⟨hT, (show CF σ0.1 ∧ (-2 : Int32) = paV x1 x2 x3 x4 x5 (σ0.1 (210 + 2 * x1.toInt.toNat) 2) (σ0.1 (210 + 2 * x3.toInt.toNat) 2) (σ0.1 (210 + 2 * x1.toInt.toNat) 1) (σ0.1 (210 + 2 * x3.toInt.toNat) 1) from by first | exact ⟨⟨hW2, hW28, hW132, hW158, hW184, hL, hD, hu, ht⟩, (if_neg (by first | omega | (simp only [Int32.le_iff_toInt_le, Int32.lt_iff_toInt_lt, ti_add, ti_sub, ti_mul, Int32.reduceToInt] at *; omega))).symm⟩ | exact ⟨⟨hW2, hW28, hW132, hW158, hW184, hL, hD, hu, ht⟩, by rw [← hqq24, ← hqq32]; (first | exact ((if_pos (by first | omega | (simp only [Int32.le_iff_toInt_le, Int32.lt_iff_toInt_lt, ti_add, ti_sub, ti_mul, Int32.reduceToInt] at *; omega))).trans (if_pos (by first | omega | (simp only [Int32.le_iff_toInt_le, Int32.lt_iff_toInt_lt, ti_add, ti_sub, ti_mul, Int32.reduceToInt] at *; omega)))).symm | exact ((if_pos (by first | omega | (simp only [Int32.le_iff_toInt_le, Int32.lt_iff_toInt_lt, ti_add, ti_sub, ti_mul, Int32.reduceToInt] at *; omega))).trans ((if_neg (by first | omega | (simp only [Int32.le_iff_toInt_le, Int32.lt_iff_toInt_lt, ti_add, ti_sub, ti_mul, Int32.reduceToInt] at *; omega))).trans (if_neg n64))).symm | exact ((if_pos (by first | omega | (simp only [Int32.le_iff_toInt_le, Int32.lt_iff_toInt_lt, ti_add, ti_sub, ti_mul, Int32.reduceToInt] at *; omega))).trans ((if_neg (by first | omega | (simp only [Int32.le_iff_toInt_le, Int32.lt_iff_toInt_lt, ti_add, ti_sub, ti_mul, Int32.reduceToInt] at *; omega))).trans ((if_pos n64).trans (if_neg (by first | omega | (simp only [Int32.le_iff_toInt_le, Int32.lt_iff_toInt_lt, ti_add, ti_sub, ti_mul, Int32.reduceToInt] at *; omega)))))).symm | exact ((if_pos (by first | omega | (simp only [Int32.le_iff_toInt_le, Int32.lt_iff_toInt_lt, ti_add, ti_sub, ti_mul, Int32.reduceToInt] at *; omega))).trans ((if_neg (by first | omega | (simp only [Int32.le_iff_toInt_le, Int32.lt_iff_toInt_lt, ti_add, ti_sub, ti_mul, Int32.reduceToInt] at *; omega))).trans ((if_pos n64).trans (if_pos (by first | omega | (simp only [Int32.le_iff_toInt_le, Int32.lt_iff_toInt_lt, ti_add, ti_sub, ti_mul, Int32.reduceToInt] at *; omega)))))).symm)⟩)⟩
    · have qhc6 := hqv4.2 hc6
      refine ok_gR (v := 56) hT rfl (hR 0 8 rfl) ?_
      obtain ⟨q9, eq9, kq9⟩ := arrS hR (k := 56) (i := x1) rfl (by first | omega | decide | (have q1 := hD.1; have q2 := hD.2.1; simp only [Int32.le_iff_toInt_le, Int32.lt_iff_toInt_lt, ti_add, ti_sub, ti_mul, Int32.reduceToInt] at *; omega)) (by first | omega | decide | (have q1 := hD.1; have q2 := hD.2.1; simp only [Int32.le_iff_toInt_le, Int32.lt_iff_toInt_lt, ti_add, ti_sub, ti_mul, Int32.reduceToInt] at *; omega))
      refine ok_aR (v := q9) hT rfl (by first | omega | decide | (have q1 := hD.1; have q2 := hD.2.1; simp only [Int32.le_iff_toInt_le, Int32.lt_iff_toInt_lt, ti_add, ti_sub, ti_mul, Int32.reduceToInt] at *; omega)) (by first | omega | decide | (have q1 := hD.1; have q2 := hD.2.1; simp only [Int32.le_iff_toInt_le, Int32.lt_iff_toInt_lt, ti_add, ti_sub, ti_mul, Int32.reduceToInt] at *; omega)) eq9 ?_
      have hq24 := hL0 q9 kq9
      have hqq24 := slotC hR (x := x1) (by omega) (by omega) eq9
      have KQ24 := kq9
      refine ok_gR (v := 56) hT rfl (hR 0 8 rfl) ?_
      obtain ⟨q12, eq12, kq12⟩ := arrS hR (k := 56) (i := x3) rfl (by first | omega | decide | (have q1 := hD.1; have q2 := hD.2.1; simp only [Int32.le_iff_toInt_le, Int32.lt_iff_toInt_lt, ti_add, ti_sub, ti_mul, Int32.reduceToInt] at *; omega)) (by first | omega | decide | (have q1 := hD.1; have q2 := hD.2.1; simp only [Int32.le_iff_toInt_le, Int32.lt_iff_toInt_lt, ti_add, ti_sub, ti_mul, Int32.reduceToInt] at *; omega))
      refine ok_aR (v := q12) hT rfl (by first | omega | decide | (have q1 := hD.1; have q2 := hD.2.1; simp only [Int32.le_iff_toInt_le, Int32.lt_iff_toInt_lt, ti_add, ti_sub, ti_mul, Int32.reduceToInt] at *; omega)) (by first | omega | decide | (have q1 := hD.1; have q2 := hD.2.1; simp only [Int32.le_iff_toInt_le, Int32.lt_iff_toInt_lt, ti_add, ti_sub, ti_mul, Int32.reduceToInt] at *; omega)) eq12 ?_
      have hq32 := hL0 q12 kq12
      have hqq32 := slotC hR (x := x3) (by omega) (by omega) eq12
      have KQ32 := kq12
      refine ok_gC kq9 ?_
      refine ok_zbX (Q := fun V => (V = 0 → 0 ≤ (σ0.1 q9 2).toInt) ∧ (¬ V = 0 → (σ0.1 q9 2).toInt < 0)) (x_X9_isBare KQ24) (fun v13 hqv13 => ?_)
      refine ok_if (fun hc15 => ?_) (fun hc15 => ?_)
      · have qhc15 := hqv13.1 hc15
        refine ok_gC kq12 ?_
        refine ok_zbX (Q := fun V => (V = 0 → 0 ≤ (σ0.1 q12 2).toInt) ∧ (¬ V = 0 → (σ0.1 q12 2).toInt < 0)) (x_X9_isBare KQ32) (fun v16 hqv16 => ?_)
        refine ok_if (fun hc18 => ?_) (fun hc18 => ?_)
        · have qhc18 := hqv16.1 hc18
          refine ok_gI0 hT kq9 List.not_mem_nil ?_
          refine ok_gI0 hT kq12 List.not_mem_nil ?_
          refine ok_if (fun hc21 => ?_) (fun hc21 => ?_)
          · have n64 := hc21
            refine ok_gC kq9 ?_
            refine ok_zbX (Q := fun V => (V = 0 → ¬ (0 ≤ x2.toInt ∧ 0 ≤ x5.toInt ∧ x2.toInt + x5.toInt ≤ (σ0.1 q9 2).toInt)) ∧ (¬ V = 0 → 0 ≤ x2.toInt ∧ 0 ≤ x5.toInt ∧ x2.toInt + x5.toInt ≤ (σ0.1 q9 2).toInt)) (x_X9_spans KQ24) (fun v22 hqv22 => ?_)
            refine ok_if (fun hc24 => ?_) (fun hc24 => ?_)
            · have qhc24 := hqv22.1 hc24
              exact ok_some ⟨hT, (show CF σ0.1 ∧ (-7 : Int32) = paV x1 x2 x3 x4 x5 (σ0.1 (210 + 2 * x1.toInt.toNat) 2) (σ0.1 (210 + 2 * x3.toInt.toNat) 2) (σ0.1 (210 + 2 * x1.toInt.toNat) 1) (σ0.1 (210 + 2 * x3.toInt.toNat) 1) from by first | exact ⟨⟨hW2, hW28, hW132, hW158, hW184, hL, hD, hu, ht⟩, (if_neg (by first | omega | (simp only [Int32.le_iff_toInt_le, Int32.lt_iff_toInt_lt, ti_add, ti_sub, ti_mul, Int32.reduceToInt] at *; omega))).symm⟩ | exact ⟨⟨hW2, hW28, hW132, hW158, hW184, hL, hD, hu, ht⟩, by rw [← hqq24, ← hqq32]; (first | exact ((if_pos (by first | omega | (simp only [Int32.le_iff_toInt_le, Int32.lt_iff_toInt_lt, ti_add, ti_sub, ti_mul, Int32.reduceToInt] at *; omega))).trans (if_pos (by first | omega | (simp only [Int32.le_iff_toInt_le, Int32.lt_iff_toInt_lt, ti_add, ti_sub, ti_mul, Int32.reduceToInt] at *; omega)))).symm | exact ((if_pos (by first | omega | (simp only [Int32.le_iff_toInt_le, Int32.lt_iff_toInt_lt, ti_add, ti_sub, ti_mul, Int32.reduceToInt] at *; omega))).trans ((if_neg (by first | omega | (simp only [Int32.le_iff_toInt_le, Int32.lt_iff_toInt_lt, ti_add, ti_sub, ti_mul, Int32.reduceToInt] at *; omega))).trans (if_neg n64))).symm | exact ((if_pos (by first | omega | (simp only [Int32.le_iff_toInt_le, Int32.lt_iff_toInt_lt, ti_add, ti_sub, ti_mul, Int32.reduceToInt] at *; omega))).trans ((if_neg (by first | omega | (simp only [Int32.le_iff_toInt_le, Int32.lt_iff_toInt_lt, ti_add, ti_sub, ti_mul, Int32.reduceToInt] at *; omega))).trans ((if_pos n64).trans (if_neg (by first | omega | (simp only [Int32.le_iff_toInt_le, Int32.lt_iff_toInt_lt, ti_add, ti_sub, ti_mul, Int32.reduceToInt] at *; omega)))))).symm | exact ((if_pos (by first | omega | (simp only [Int32.le_iff_toInt_le, Int32.lt_iff_toInt_lt, ti_add, ti_sub, ti_mul, Int32.reduceToInt] at *; omega))).trans ((if_neg (by first | omega | (simp only [Int32.le_iff_toInt_le, Int32.lt_iff_toInt_lt, ti_add, ti_sub, ti_mul, Int32.reduceToInt] at *; omega))).trans ((if_pos n64).trans (if_pos (by first | omega | (simp only [Int32.le_iff_toInt_le, Int32.lt_iff_toInt_lt, ti_add, ti_sub, ti_mul, Int32.reduceToInt] at *; omega)))))).symm)⟩)⟩
            · have qhc24 := hqv22.2 hc24
              refine ok_gC kq12 ?_
              refine ok_zbX (Q := fun V => (V = 0 → ¬ (0 ≤ x4.toInt ∧ 0 ≤ x5.toInt ∧ x4.toInt + x5.toInt ≤ (σ0.1 q12 2).toInt)) ∧ (¬ V = 0 → 0 ≤ x4.toInt ∧ 0 ≤ x5.toInt ∧ x4.toInt + x5.toInt ≤ (σ0.1 q12 2).toInt)) (x_X9_spans KQ32) (fun v25 hqv25 => ?_)
              refine ok_if (fun hc27 => ?_) (fun hc27 => ?_)
              · have qhc27 := hqv25.1 hc27
                exact ok_some ⟨hT, (show CF σ0.1 ∧ (-7 : Int32) = paV x1 x2 x3 x4 x5 (σ0.1 (210 + 2 * x1.toInt.toNat) 2) (σ0.1 (210 + 2 * x3.toInt.toNat) 2) (σ0.1 (210 + 2 * x1.toInt.toNat) 1) (σ0.1 (210 + 2 * x3.toInt.toNat) 1) from by first | exact ⟨⟨hW2, hW28, hW132, hW158, hW184, hL, hD, hu, ht⟩, (if_neg (by first | omega | (simp only [Int32.le_iff_toInt_le, Int32.lt_iff_toInt_lt, ti_add, ti_sub, ti_mul, Int32.reduceToInt] at *; omega))).symm⟩ | exact ⟨⟨hW2, hW28, hW132, hW158, hW184, hL, hD, hu, ht⟩, by rw [← hqq24, ← hqq32]; (first | exact ((if_pos (by first | omega | (simp only [Int32.le_iff_toInt_le, Int32.lt_iff_toInt_lt, ti_add, ti_sub, ti_mul, Int32.reduceToInt] at *; omega))).trans (if_pos (by first | omega | (simp only [Int32.le_iff_toInt_le, Int32.lt_iff_toInt_lt, ti_add, ti_sub, ti_mul, Int32.reduceToInt] at *; omega)))).symm | exact ((if_pos (by first | omega | (simp only [Int32.le_iff_toInt_le, Int32.lt_iff_toInt_lt, ti_add, ti_sub, ti_mul, Int32.reduceToInt] at *; omega))).trans ((if_neg (by first | omega | (simp only [Int32.le_iff_toInt_le, Int32.lt_iff_toInt_lt, ti_add, ti_sub, ti_mul, Int32.reduceToInt] at *; omega))).trans (if_neg n64))).symm | exact ((if_pos (by first | omega | (simp only [Int32.le_iff_toInt_le, Int32.lt_iff_toInt_lt, ti_add, ti_sub, ti_mul, Int32.reduceToInt] at *; omega))).trans ((if_neg (by first | omega | (simp only [Int32.le_iff_toInt_le, Int32.lt_iff_toInt_lt, ti_add, ti_sub, ti_mul, Int32.reduceToInt] at *; omega))).trans ((if_pos n64).trans (if_neg (by first | omega | (simp only [Int32.le_iff_toInt_le, Int32.lt_iff_toInt_lt, ti_add, ti_sub, ti_mul, Int32.reduceToInt] at *; omega)))))).symm | exact ((if_pos (by first | omega | (simp only [Int32.le_iff_toInt_le, Int32.lt_iff_toInt_lt, ti_add, ti_sub, ti_mul, Int32.reduceToInt] at *; omega))).trans ((if_neg (by first | omega | (simp only [Int32.le_iff_toInt_le, Int32.lt_iff_toInt_lt, ti_add, ti_sub, ti_mul, Int32.reduceToInt] at *; omega))).trans ((if_pos n64).trans (if_pos (by first | omega | (simp only [Int32.le_iff_toInt_le, Int32.lt_iff_toInt_lt, ti_add, ti_sub, ti_mul, Int32.reduceToInt] at *; omega)))))).symm)⟩)⟩
              · have qhc27 := hqv25.2 hc27
                refine ok_gR hT kq9 (slot_R hR kq9).1 ?_
                refine ok_gR hT kq12 (slot_R hR kq12).1 ?_
                refine ok_cpJ hT (slot_R hR kq9).2 (slot_R hR kq12).2 (by first | omega | decide | (have q1 := hD.1; have q2 := hD.2.1; simp only [Int32.le_iff_toInt_le, Int32.lt_iff_toInt_lt, ti_add, ti_sub, ti_mul, Int32.reduceToInt] at *; omega)) (by first | omega | decide | (have q1 := hD.1; have q2 := hD.2.1; simp only [Int32.le_iff_toInt_le, Int32.lt_iff_toInt_lt, ti_add, ti_sub, ti_mul, Int32.reduceToInt] at *; omega)) (by first | omega | decide | (have q1 := hD.1; have q2 := hD.2.1; simp only [Int32.le_iff_toInt_le, Int32.lt_iff_toInt_lt, ti_add, ti_sub, ti_mul, Int32.reduceToInt] at *; omega)) (by first | omega | decide | (have q1 := hD.1; have q2 := hD.2.1; simp only [Int32.le_iff_toInt_le, Int32.lt_iff_toInt_lt, ti_add, ti_sub, ti_mul, Int32.reduceToInt] at *; omega)) (by first | omega | decide | (have q1 := hD.1; have q2 := hD.2.1; simp only [Int32.le_iff_toInt_le, Int32.lt_iff_toInt_lt, ti_add, ti_sub, ti_mul, Int32.reduceToInt] at *; omega)) (fun σ30 eσ30 hOσ30 hT => ?_)
                have hW2 : WI 2 σ30.1 := WI.tr hOσ30 (by decide) (by decide) (by decide) hW2
                have hW28 : WI 28 σ30.1 := WI.tr hOσ30 (by decide) (by decide) (by decide) hW28
                have hW132 : WI 132 σ30.1 := WI.tr hOσ30 (by decide) (by decide) (by decide) hW132
                have hW158 : WI 158 σ30.1 := WI.tr hOσ30 (by decide) (by decide) (by decide) hW158
                have hW184 : WI 184 σ30.1 := WI.tr hOσ30 (by decide) (by decide) (by decide) hW184
                have hL : SI σ30.1 := SI.tr hOσ30 (by decide) (by decide) (by decide) (by decide) hL
                have hD : RD σ30.1 := RD.tr hOσ30 (by decide) (by decide) (by decide) (by decide) hD
                have hu : 2 ≤ (σ30.1 111 8).toInt ∧ (σ30.1 111 8).toInt ≤ 1600 := by rw [hOσ30.2 111 (by decide)] <;> exact hu
                have ht : 0 ≤ (σ30.1 0 1).toInt ∧ (σ30.1 0 1).toInt ≤ 600 := by rw [hOσ30.2 0 (by decide)] <;> exact ht
                exact ok_some ⟨hT, (show CF σ30.1 ∧ (0 : Int32) = paV x1 x2 x3 x4 x5 (σ0.1 (210 + 2 * x1.toInt.toNat) 2) (σ0.1 (210 + 2 * x3.toInt.toNat) 2) (σ0.1 (210 + 2 * x1.toInt.toNat) 1) (σ0.1 (210 + 2 * x3.toInt.toNat) 1) from by first | exact ⟨⟨hW2, hW28, hW132, hW158, hW184, hL, hD, hu, ht⟩, (if_neg (by first | omega | (simp only [Int32.le_iff_toInt_le, Int32.lt_iff_toInt_lt, ti_add, ti_sub, ti_mul, Int32.reduceToInt] at *; omega))).symm⟩ | exact ⟨⟨hW2, hW28, hW132, hW158, hW184, hL, hD, hu, ht⟩, by rw [← hqq24, ← hqq32]; (first | exact ((if_pos (by first | omega | (simp only [Int32.le_iff_toInt_le, Int32.lt_iff_toInt_lt, ti_add, ti_sub, ti_mul, Int32.reduceToInt] at *; omega))).trans (if_pos (by first | omega | (simp only [Int32.le_iff_toInt_le, Int32.lt_iff_toInt_lt, ti_add, ti_sub, ti_mul, Int32.reduceToInt] at *; omega)))).symm | exact ((if_pos (by first | omega | (simp only [Int32.le_iff_toInt_le, Int32.lt_iff_toInt_lt, ti_add, ti_sub, ti_mul, Int32.reduceToInt] at *; omega))).trans ((if_neg (by first | omega | (simp only [Int32.le_iff_toInt_le, Int32.lt_iff_toInt_lt, ti_add, ti_sub, ti_mul, Int32.reduceToInt] at *; omega))).trans (if_neg n64))).symm | exact ((if_pos (by first | omega | (simp only [Int32.le_iff_toInt_le, Int32.lt_iff_toInt_lt, ti_add, ti_sub, ti_mul, Int32.reduceToInt] at *; omega))).trans ((if_neg (by first | omega | (simp only [Int32.le_iff_toInt_le, Int32.lt_iff_toInt_lt, ti_add, ti_sub, ti_mul, Int32.reduceToInt] at *; omega))).trans ((if_pos n64).trans (if_neg (by first | omega | (simp only [Int32.le_iff_toInt_le, Int32.lt_iff_toInt_lt, ti_add, ti_sub, ti_mul, Int32.reduceToInt] at *; omega)))))).symm | exact ((if_pos (by first | omega | (simp only [Int32.le_iff_toInt_le, Int32.lt_iff_toInt_lt, ti_add, ti_sub, ti_mul, Int32.reduceToInt] at *; omega))).trans ((if_neg (by first | omega | (simp only [Int32.le_iff_toInt_le, Int32.lt_iff_toInt_lt, ti_add, ti_sub, ti_mul, Int32.reduceToInt] at *; omega))).trans ((if_pos n64).trans (if_pos (by first | omega | (simp only [Int32.le_iff_toInt_le, Int32.lt_iff_toInt_lt, ti_add, ti_sub, ti_mul, Int32.reduceToInt] at *; omega)))))).symm)⟩)⟩
          · have n64 := hc21
            exact ok_some ⟨hT, (show CF σ0.1 ∧ (-8 : Int32) = paV x1 x2 x3 x4 x5 (σ0.1 (210 + 2 * x1.toInt.toNat) 2) (σ0.1 (210 + 2 * x3.toInt.toNat) 2) (σ0.1 (210 + 2 * x1.toInt.toNat) 1) (σ0.1 (210 + 2 * x3.toInt.toNat) 1) from by first | exact ⟨⟨hW2, hW28, hW132, hW158, hW184, hL, hD, hu, ht⟩, (if_neg (by first | omega | (simp only [Int32.le_iff_toInt_le, Int32.lt_iff_toInt_lt, ti_add, ti_sub, ti_mul, Int32.reduceToInt] at *; omega))).symm⟩ | exact ⟨⟨hW2, hW28, hW132, hW158, hW184, hL, hD, hu, ht⟩, by rw [← hqq24, ← hqq32]; (first | exact ((if_pos (by first | omega | (simp only [Int32.le_iff_toInt_le, Int32.lt_iff_toInt_lt, ti_add, ti_sub, ti_mul, Int32.reduceToInt] at *; omega))).trans (if_pos (by first | omega | (simp only [Int32.le_iff_toInt_le, Int32.lt_iff_toInt_lt, ti_add, ti_sub, ti_mul, Int32.reduceToInt] at *; omega)))).symm | exact ((if_pos (by first | omega | (simp only [Int32.le_iff_toInt_le, Int32.lt_iff_toInt_lt, ti_add, ti_sub, ti_mul, Int32.reduceToInt] at *; omega))).trans ((if_neg (by first | omega | (simp only [Int32.le_iff_toInt_le, Int32.lt_iff_toInt_lt, ti_add, ti_sub, ti_mul, Int32.reduceToInt] at *; omega))).trans (if_neg n64))).symm | exact ((if_pos (by first | omega | (simp only [Int32.le_iff_toInt_le, Int32.lt_iff_toInt_lt, ti_add, ti_sub, ti_mul, Int32.reduceToInt] at *; omega))).trans ((if_neg (by first | omega | (simp only [Int32.le_iff_toInt_le, Int32.lt_iff_toInt_lt, ti_add, ti_sub, ti_mul, Int32.reduceToInt] at *; omega))).trans ((if_pos n64).trans (if_neg (by first | omega | (simp only [Int32.le_iff_toInt_le, Int32.lt_iff_toInt_lt, ti_add, ti_sub, ti_mul, Int32.reduceToInt] at *; omega)))))).symm | exact ((if_pos (by first | omega | (simp only [Int32.le_iff_toInt_le, Int32.lt_iff_toInt_lt, ti_add, ti_sub, ti_mul, Int32.reduceToInt] at *; omega))).trans ((if_neg (by first | omega | (simp only [Int32.le_iff_toInt_le, Int32.lt_iff_toInt_lt, ti_add, ti_sub, ti_mul, Int32.reduceToInt] at *; omega))).trans ((if_pos n64).trans (if_pos (by first | omega | (simp only [Int32.le_iff_toInt_le, Int32.lt_iff_toInt_lt, ti_add, ti_sub, ti_mul, Int32.reduceToInt] at *; omega)))))).symm)⟩)⟩
        · have qhc18 := hqv16.2 hc18
          exact ok_some ⟨hT, (show CF σ0.1 ∧ (-6 : Int32) = paV x1 x2 x3 x4 x5 (σ0.1 (210 + 2 * x1.toInt.toNat) 2) (σ0.1 (210 + 2 * x3.toInt.toNat) 2) (σ0.1 (210 + 2 * x1.toInt.toNat) 1) (σ0.1 (210 + 2 * x3.toInt.toNat) 1) from by first | exact ⟨⟨hW2, hW28, hW132, hW158, hW184, hL, hD, hu, ht⟩, (if_neg (by first | omega | (simp only [Int32.le_iff_toInt_le, Int32.lt_iff_toInt_lt, ti_add, ti_sub, ti_mul, Int32.reduceToInt] at *; omega))).symm⟩ | exact ⟨⟨hW2, hW28, hW132, hW158, hW184, hL, hD, hu, ht⟩, by rw [← hqq24, ← hqq32]; (first | exact ((if_pos (by first | omega | (simp only [Int32.le_iff_toInt_le, Int32.lt_iff_toInt_lt, ti_add, ti_sub, ti_mul, Int32.reduceToInt] at *; omega))).trans (if_pos (by first | omega | (simp only [Int32.le_iff_toInt_le, Int32.lt_iff_toInt_lt, ti_add, ti_sub, ti_mul, Int32.reduceToInt] at *; omega)))).symm | exact ((if_pos (by first | omega | (simp only [Int32.le_iff_toInt_le, Int32.lt_iff_toInt_lt, ti_add, ti_sub, ti_mul, Int32.reduceToInt] at *; omega))).trans ((if_neg (by first | omega | (simp only [Int32.le_iff_toInt_le, Int32.lt_iff_toInt_lt, ti_add, ti_sub, ti_mul, Int32.reduceToInt] at *; omega))).trans (if_neg n64))).symm | exact ((if_pos (by first | omega | (simp only [Int32.le_iff_toInt_le, Int32.lt_iff_toInt_lt, ti_add, ti_sub, ti_mul, Int32.reduceToInt] at *; omega))).trans ((if_neg (by first | omega | (simp only [Int32.le_iff_toInt_le, Int32.lt_iff_toInt_lt, ti_add, ti_sub, ti_mul, Int32.reduceToInt] at *; omega))).trans ((if_pos n64).trans (if_neg (by first | omega | (simp only [Int32.le_iff_toInt_le, Int32.lt_iff_toInt_lt, ti_add, ti_sub, ti_mul, Int32.reduceToInt] at *; omega)))))).symm | exact ((if_pos (by first | omega | (simp only [Int32.le_iff_toInt_le, Int32.lt_iff_toInt_lt, ti_add, ti_sub, ti_mul, Int32.reduceToInt] at *; omega))).trans ((if_neg (by first | omega | (simp only [Int32.le_iff_toInt_le, Int32.lt_iff_toInt_lt, ti_add, ti_sub, ti_mul, Int32.reduceToInt] at *; omega))).trans ((if_pos n64).trans (if_pos (by first | omega | (simp only [Int32.le_iff_toInt_le, Int32.lt_iff_toInt_lt, ti_add, ti_sub, ti_mul, Int32.reduceToInt] at *; omega)))))).symm)⟩)⟩
      · have qhc15 := hqv13.2 hc15
        exact ok_some ⟨hT, (show CF σ0.1 ∧ (-6 : Int32) = paV x1 x2 x3 x4 x5 (σ0.1 (210 + 2 * x1.toInt.toNat) 2) (σ0.1 (210 + 2 * x3.toInt.toNat) 2) (σ0.1 (210 + 2 * x1.toInt.toNat) 1) (σ0.1 (210 + 2 * x3.toInt.toNat) 1) from by first | exact ⟨⟨hW2, hW28, hW132, hW158, hW184, hL, hD, hu, ht⟩, (if_neg (by first | omega | (simp only [Int32.le_iff_toInt_le, Int32.lt_iff_toInt_lt, ti_add, ti_sub, ti_mul, Int32.reduceToInt] at *; omega))).symm⟩ | exact ⟨⟨hW2, hW28, hW132, hW158, hW184, hL, hD, hu, ht⟩, by rw [← hqq24, ← hqq32]; (first | exact ((if_pos (by first | omega | (simp only [Int32.le_iff_toInt_le, Int32.lt_iff_toInt_lt, ti_add, ti_sub, ti_mul, Int32.reduceToInt] at *; omega))).trans (if_pos (by first | omega | (simp only [Int32.le_iff_toInt_le, Int32.lt_iff_toInt_lt, ti_add, ti_sub, ti_mul, Int32.reduceToInt] at *; omega)))).symm | exact ((if_pos (by first | omega | (simp only [Int32.le_iff_toInt_le, Int32.lt_iff_toInt_lt, ti_add, ti_sub, ti_mul, Int32.reduceToInt] at *; omega))).trans ((if_neg (by first | omega | (simp only [Int32.le_iff_toInt_le, Int32.lt_iff_toInt_lt, ti_add, ti_sub, ti_mul, Int32.reduceToInt] at *; omega))).trans (if_neg n64))).symm | exact ((if_pos (by first | omega | (simp only [Int32.le_iff_toInt_le, Int32.lt_iff_toInt_lt, ti_add, ti_sub, ti_mul, Int32.reduceToInt] at *; omega))).trans ((if_neg (by first | omega | (simp only [Int32.le_iff_toInt_le, Int32.lt_iff_toInt_lt, ti_add, ti_sub, ti_mul, Int32.reduceToInt] at *; omega))).trans ((if_pos n64).trans (if_neg (by first | omega | (simp only [Int32.le_iff_toInt_le, Int32.lt_iff_toInt_lt, ti_add, ti_sub, ti_mul, Int32.reduceToInt] at *; omega)))))).symm | exact ((if_pos (by first | omega | (simp only [Int32.le_iff_toInt_le, Int32.lt_iff_toInt_lt, ti_add, ti_sub, ti_mul, Int32.reduceToInt] at *; omega))).trans ((if_neg (by first | omega | (simp only [Int32.le_iff_toInt_le, Int32.lt_iff_toInt_lt, ti_add, ti_sub, ti_mul, Int32.reduceToInt] at *; omega))).trans ((if_pos n64).trans (if_pos (by first | omega | (simp only [Int32.le_iff_toInt_le, Int32.lt_iff_toInt_lt, ti_add, ti_sub, ti_mul, Int32.reduceToInt] at *; omega)))))).symm)⟩)⟩

set_option maxHeartbeats 4000000 in
set_option maxRecDepth 100000 in
theorem s_X12_feed_v {N : Nat} (hN : 1048576 ≤ N) {x1 : Int32} {x2 : Int32} {x3 : Int32} {x4 : Int32} {x5 : Int32} {σ0 : zS}  (hR : RF σ0.2.2) (hp : 0 ≤ (σ0.1 218 7).toInt ∧ (σ0.1 218 7).toInt ≤ 600) (hY : BYT (σ0.1 224)) : Ok (f_X12_feed N 218 x1 x2 x3 x4 x5 σ0) (fun r => Tr [218, 224, 225] σ0 r.2 ∧ (((0 ≤ (r.2.1 218 7).toInt ∧ (r.2.1 218 7).toInt ≤ 600) ∧ BYT (r.2.1 224)) ∧ r.1 = fdV (σ0.1 218 7) ∧ r.2.1 218 7 = fdT (σ0.1 218 7))) := by
  have hT : Tr [218, 224, 225] σ0 σ0 := Tr.rf
  have ht : σ0.1 218 7 = σ0.1 218 7 := rfl
  have p0 := hp
  rw [f_X12_feed.eq_1]
  refine ok_gI rfl ?_
  refine ok_if (fun hc2 => ?_) (fun hc2 => ?_)
  · have c10 := hc2
    refine ok_gR (v := 225) hT rfl (hR 218 8 rfl) ?_
    refine ok_s14 hT rfl (by decide) (by first | omega | decide | (simp only [Int32.le_iff_toInt_le, Int32.lt_iff_toInt_lt, ti_add, ti_sub, ti_mul, Int32.reduceToInt] at *; omega)) (by first | omega | decide | (simp only [Int32.le_iff_toInt_le, Int32.lt_iff_toInt_lt, ti_add, ti_sub, ti_mul, Int32.reduceToInt] at *; omega)) (fun σ4 eσ4 hOσ4 hT => ?_)
    have hp : 0 ≤ (σ4.1 218 7).toInt ∧ (σ4.1 218 7).toInt ≤ 600 := by rw [hOσ4.2 218 (by decide)] <;> exact hp
    have ht : σ4.1 218 7 = σ0.1 218 7 := by rw [hOσ4.2 218 (by decide)] <;> exact ht
    have hY : BYT (σ4.1 224) := by rw [hOσ4.2 224 (by decide)]; exact hY
    refine ok_gR (v := 225) hT rfl (hR 218 8 rfl) ?_
    refine ok_s14 hT rfl (by decide) (by first | omega | decide | (simp only [Int32.le_iff_toInt_le, Int32.lt_iff_toInt_lt, ti_add, ti_sub, ti_mul, Int32.reduceToInt] at *; omega)) (by first | omega | decide | (simp only [Int32.le_iff_toInt_le, Int32.lt_iff_toInt_lt, ti_add, ti_sub, ti_mul, Int32.reduceToInt] at *; omega)) (fun σ6 eσ6 hOσ6 hT => ?_)
    have hp : 0 ≤ (σ6.1 218 7).toInt ∧ (σ6.1 218 7).toInt ≤ 600 := by rw [hOσ6.2 218 (by decide)] <;> exact hp
    have ht : σ6.1 218 7 = σ0.1 218 7 := by rw [hOσ6.2 218 (by decide)] <;> exact ht
    have hY : BYT (σ6.1 224) := by rw [hOσ6.2 224 (by decide)]; exact hY
    refine ok_gR (v := 225) hT rfl (hR 218 8 rfl) ?_
    refine ok_s14 hT rfl (by decide) (by first | omega | decide | (simp only [Int32.le_iff_toInt_le, Int32.lt_iff_toInt_lt, ti_add, ti_sub, ti_mul, Int32.reduceToInt] at *; omega)) (by first | omega | decide | (simp only [Int32.le_iff_toInt_le, Int32.lt_iff_toInt_lt, ti_add, ti_sub, ti_mul, Int32.reduceToInt] at *; omega)) (fun σ8 eσ8 hOσ8 hT => ?_)
    have hp : 0 ≤ (σ8.1 218 7).toInt ∧ (σ8.1 218 7).toInt ≤ 600 := by rw [hOσ8.2 218 (by decide)] <;> exact hp
    have ht : σ8.1 218 7 = σ0.1 218 7 := by rw [hOσ8.2 218 (by decide)] <;> exact ht
    have hY : BYT (σ8.1 224) := by rw [hOσ8.2 224 (by decide)]; exact hY
    refine ok_gR (v := 225) hT rfl (hR 218 8 rfl) ?_
    refine ok_s14 hT rfl (by decide) (by first | omega | decide | (simp only [Int32.le_iff_toInt_le, Int32.lt_iff_toInt_lt, ti_add, ti_sub, ti_mul, Int32.reduceToInt] at *; omega)) (by first | omega | decide | (simp only [Int32.le_iff_toInt_le, Int32.lt_iff_toInt_lt, ti_add, ti_sub, ti_mul, Int32.reduceToInt] at *; omega)) (fun σ10 eσ10 hOσ10 hT => ?_)
    have hp : 0 ≤ (σ10.1 218 7).toInt ∧ (σ10.1 218 7).toInt ≤ 600 := by rw [hOσ10.2 218 (by decide)] <;> exact hp
    have ht : σ10.1 218 7 = σ0.1 218 7 := by rw [hOσ10.2 218 (by decide)] <;> exact ht
    have hY : BYT (σ10.1 224) := by rw [hOσ10.2 224 (by decide)]; exact hY
    refine ok_gR (v := 225) hT rfl (hR 218 8 rfl) ?_
    refine ok_s14 hT rfl (by decide) (by first | omega | decide | (simp only [Int32.le_iff_toInt_le, Int32.lt_iff_toInt_lt, ti_add, ti_sub, ti_mul, Int32.reduceToInt] at *; omega)) (by first | omega | decide | (simp only [Int32.le_iff_toInt_le, Int32.lt_iff_toInt_lt, ti_add, ti_sub, ti_mul, Int32.reduceToInt] at *; omega)) (fun σ12 eσ12 hOσ12 hT => ?_)
    have hp : 0 ≤ (σ12.1 218 7).toInt ∧ (σ12.1 218 7).toInt ≤ 600 := by rw [hOσ12.2 218 (by decide)] <;> exact hp
    have ht : σ12.1 218 7 = σ0.1 218 7 := by rw [hOσ12.2 218 (by decide)] <;> exact ht
    have hY : BYT (σ12.1 224) := by rw [hOσ12.2 224 (by decide)]; exact hY
    refine ok_lp (fun t : Int32 × zS => Tr [218, 224, 225] σ0 (t.2) ∧ (0 ≤ (t.1).toInt) ∧ (0 ≤ ((t.2).1 218 7).toInt ∧ ((t.2).1 218 7).toInt ≤ 600) ∧ ((t.2).1 218 7 = σ0.1 218 7) ∧ (BYT ((t.2).1 224))) (fun t : Int32 × zS => (20 - (t.1).toInt).toNat) (fun again13 t hI ih55_13 => ?_) N _ (show Tr [218, 224, 225] σ0 σ12 ∧ (0 ≤ (0 : Int32).toInt) ∧ (0 ≤ (σ12.1 218 7).toInt ∧ (σ12.1 218 7).toInt ≤ 600) ∧ (σ12.1 218 7 = σ0.1 218 7) ∧ (BYT (σ12.1 224)) from ⟨hT, (by first | omega | decide | (simp only [Int32.le_iff_toInt_le, Int32.lt_iff_toInt_lt, ti_add, ti_sub, ti_mul, Int32.reduceToInt] at *; omega)), hp, ht, hY⟩) (show (20 - (0 : Int32).toInt).toNat < N from (by first | omega | decide | (simp only [Int32.le_iff_toInt_le, Int32.lt_iff_toInt_lt, ti_add, ti_sub, ti_mul, Int32.reduceToInt] at *; omega)))
    obtain ⟨x6_13, σ13⟩ := t
    have hI : Tr [218, 224, 225] σ0 σ13 ∧ (0 ≤ x6_13.toInt) ∧ (0 ≤ (σ13.1 218 7).toInt ∧ (σ13.1 218 7).toInt ≤ 600) ∧ (σ13.1 218 7 = σ0.1 218 7) ∧ (BYT (σ13.1 224)) := hI
    obtain ⟨hT, hI13, hp, ht, hY⟩ := hI
    rw [F_X12_feed_55.eq_1]
    refine ok_if (fun hc14 => ?_) (fun hc14 => ?_)
    · refine ok_gI rfl ?_
      refine ok_pI hT rfl (by decide) (fun σ16 eσ16 hOσ16 hT => ?_)
      have a109 := zI_atI eσ16
      rw [ht] at a109
      have hp : 0 ≤ (σ16.1 218 7).toInt ∧ (σ16.1 218 7).toInt ≤ 600 := by rw [zI_atI eσ16]; have e9 := congrArg Int32.toInt ht; first | omega | (simp only [Int32.le_iff_toInt_le, Int32.lt_iff_toInt_lt, ti_add, ti_sub, ti_mul, Int32.reduceToInt] at *; omega)
      have hY : BYT (σ16.1 224) := by rw [hOσ16.2 224 (by decide)]; exact hY
      refine ok_gI rfl ?_
      exact ok_some ⟨hT, (show ((0 ≤ (σ16.1 218 7).toInt ∧ (σ16.1 218 7).toInt ≤ 600) ∧ BYT (σ16.1 224)) ∧ ((σ16.1 218 7)) = fdV (σ0.1 218 7) ∧ σ16.1 218 7 = fdT (σ0.1 218 7) from by first | exact ⟨⟨hp, hY⟩, (if_neg (by first | omega | (simp only [Int32.le_iff_toInt_le, Int32.lt_iff_toInt_lt, ti_add, ti_sub, ti_mul, Int32.reduceToInt] at *; omega))).symm, ht.trans (if_neg (by first | omega | (simp only [Int32.le_iff_toInt_le, Int32.lt_iff_toInt_lt, ti_add, ti_sub, ti_mul, Int32.reduceToInt] at *; omega))).symm⟩ | exact ⟨⟨hp, hY⟩, a109.trans (if_pos (by first | omega | (simp only [Int32.le_iff_toInt_le, Int32.lt_iff_toInt_lt, ti_add, ti_sub, ti_mul, Int32.reduceToInt] at *; omega))).symm, a109.trans (if_pos (by first | omega | (simp only [Int32.le_iff_toInt_le, Int32.lt_iff_toInt_lt, ti_add, ti_sub, ti_mul, Int32.reduceToInt] at *; omega))).symm⟩)⟩
    · have d4 := ti_div4 (x := x6_13) (by first | omega | (simp only [Int32.le_iff_toInt_le, Int32.lt_iff_toInt_lt, ti_add, ti_sub, ti_mul, Int32.reduceToInt] at *; omega)) (by first | omega | (simp only [Int32.le_iff_toInt_le, Int32.lt_iff_toInt_lt, ti_add, ti_sub, ti_mul, Int32.reduceToInt] at *; omega))
      have k9 : 0 = 0 := rfl
      have e9 := congrArg Int32.toInt ht
      refine ok_gR (v := 224) hT rfl (hR 218 6 rfl) ?_
      refine ok_gI rfl ?_
      refine ok_gR (v := 225) hT rfl (hR 218 8 rfl) ?_
      refine ok_nzI (by decide) ?_
      refine ok_aIn rfl (by first | omega | decide | (simp only [Int32.le_iff_toInt_le, Int32.lt_iff_toInt_lt, ti_add, ti_sub, ti_mul, Int32.reduceToInt] at *; omega)) (by first | omega | decide | (simp only [Int32.le_iff_toInt_le, Int32.lt_iff_toInt_lt, ti_add, ti_sub, ti_mul, Int32.reduceToInt] at *; omega)) (fun v21 ev21 => ?_)
      refine ok_nzI (by decide) ?_
      refine ok_s13 hT rfl (by decide) (by first | omega | decide | (simp only [Int32.le_iff_toInt_le, Int32.lt_iff_toInt_lt, ti_add, ti_sub, ti_mul, Int32.reduceToInt] at *; omega)) (by first | omega | decide | (simp only [Int32.le_iff_toInt_le, Int32.lt_iff_toInt_lt, ti_add, ti_sub, ti_mul, Int32.reduceToInt] at *; omega)) (fun σ22 eσ22 hOσ22 hT => ?_)
      have hp : 0 ≤ (σ22.1 218 7).toInt ∧ (σ22.1 218 7).toInt ≤ 600 := by rw [hOσ22.2 218 (by decide)] <;> exact hp
      have ht : σ22.1 218 7 = σ0.1 218 7 := by rw [hOσ22.2 218 (by decide)] <;> exact ht
      have hY : BYT (σ22.1 224) := BYT_s eσ22 hY
      exact ih55_13 (x6_13 + 1, σ22) (show Tr [218, 224, 225] σ0 σ22 ∧ (0 ≤ (x6_13 + 1).toInt) ∧ (0 ≤ (σ22.1 218 7).toInt ∧ (σ22.1 218 7).toInt ≤ 600) ∧ (σ22.1 218 7 = σ0.1 218 7) ∧ (BYT (σ22.1 224)) from ⟨hT, (by first | omega | decide | (simp only [Int32.le_iff_toInt_le, Int32.lt_iff_toInt_lt, ti_add, ti_sub, ti_mul, Int32.reduceToInt] at *; omega)), hp, ht, hY⟩) (show (20 - (x6_13 + 1).toInt).toNat < (20 - x6_13.toInt).toNat from (by first | omega | decide | (simp only [Int32.le_iff_toInt_le, Int32.lt_iff_toInt_lt, ti_add, ti_sub, ti_mul, Int32.reduceToInt] at *; omega)))
  · have c10 := hc2
    exact ok_some ⟨hT, (show ((0 ≤ (σ0.1 218 7).toInt ∧ (σ0.1 218 7).toInt ≤ 600) ∧ BYT (σ0.1 224)) ∧ (-1 : Int32) = fdV (σ0.1 218 7) ∧ σ0.1 218 7 = fdT (σ0.1 218 7) from by first | exact ⟨⟨hp, hY⟩, (if_neg (by first | omega | (simp only [Int32.le_iff_toInt_le, Int32.lt_iff_toInt_lt, ti_add, ti_sub, ti_mul, Int32.reduceToInt] at *; omega))).symm, ht.trans (if_neg (by first | omega | (simp only [Int32.le_iff_toInt_le, Int32.lt_iff_toInt_lt, ti_add, ti_sub, ti_mul, Int32.reduceToInt] at *; omega))).symm⟩ | exact ⟨⟨hp, hY⟩, a109.trans (if_pos (by first | omega | (simp only [Int32.le_iff_toInt_le, Int32.lt_iff_toInt_lt, ti_add, ti_sub, ti_mul, Int32.reduceToInt] at *; omega))).symm, a109.trans (if_pos (by first | omega | (simp only [Int32.le_iff_toInt_le, Int32.lt_iff_toInt_lt, ti_add, ti_sub, ti_mul, Int32.reduceToInt] at *; omega))).symm⟩)⟩

set_option maxHeartbeats 4000000 in
set_option maxRecDepth 100000 in
theorem s_X12_end_v {N : Nat} (hN : 1048576 ≤ N) {x1 : Int32} {σ0 : zS}  (hR : RF σ0.2.2) (hp : 0 ≤ (σ0.1 218 7).toInt ∧ (σ0.1 218 7).toInt ≤ 600) : Ok (f_X12_end N 218 x1 σ0) (fun r => Tr [218] σ0 r.2 ∧ ((0 ≤ (r.2.1 218 7).toInt ∧ (r.2.1 218 7).toInt ≤ 600) ∧ r.1 = enV x1 (σ0.1 218 7) ∧ r.2.1 218 7 = enT x1 (σ0.1 218 7))) := by
  have hT : Tr [218] σ0 σ0 := Tr.rf
  have p0 := hp
  rw [f_X12_end.eq_1]
  refine ok_gI rfl ?_
  refine ok_zbX (Q := fun V => (V = 0 → ¬ ((0 : Int64).toInt ≤ (Int32.toInt64 x1).toInt ∧ (Int32.toInt64 x1).toInt ≤ (Int32.toInt64 (σ0.1 218 7)).toInt)) ∧ (¬ V = 0 → (0 : Int64).toInt ≤ (Int32.toInt64 x1).toInt ∧ (Int32.toInt64 x1).toInt ≤ (Int32.toInt64 (σ0.1 218 7)).toInt)) (xi_X12_in) (fun v2 hqv2 => ?_)
  simp only [i64_of, Int64.reduceToInt] at hqv2
  refine ok_if (fun hc4 => ?_) (fun hc4 => ?_)
  · have qhc4 := hqv2.1 hc4
    exact ok_some ⟨hT, (show (0 ≤ (σ0.1 218 7).toInt ∧ (σ0.1 218 7).toInt ≤ 600) ∧ (-1 : Int32) = enV x1 (σ0.1 218 7) ∧ σ0.1 218 7 = enT x1 (σ0.1 218 7) from by first | exact ⟨hp, (if_neg (by first | omega | (simp only [Int32.le_iff_toInt_le, Int32.lt_iff_toInt_lt, ti_add, ti_sub, ti_mul, Int32.reduceToInt] at *; omega))).symm, (if_neg (by first | omega | (simp only [Int32.le_iff_toInt_le, Int32.lt_iff_toInt_lt, ti_add, ti_sub, ti_mul, Int32.reduceToInt] at *; omega))).symm⟩ | exact ⟨hp, (if_pos (by first | omega | (simp only [Int32.le_iff_toInt_le, Int32.lt_iff_toInt_lt, ti_add, ti_sub, ti_mul, Int32.reduceToInt] at *; omega))).symm, a18.trans (if_pos (by first | omega | (simp only [Int32.le_iff_toInt_le, Int32.lt_iff_toInt_lt, ti_add, ti_sub, ti_mul, Int32.reduceToInt] at *; omega))).symm⟩)⟩
  · have qhc4 := hqv2.2 hc4
    refine ok_pI hT rfl (by decide) (fun σ5 eσ5 hOσ5 hT => ?_)
    have a18 := zI_atI eσ5
    have hp : 0 ≤ (σ5.1 218 7).toInt ∧ (σ5.1 218 7).toInt ≤ 600 := by rw [zI_atI eσ5]; first | omega | (simp only [Int32.le_iff_toInt_le, Int32.lt_iff_toInt_lt, ti_add, ti_sub, ti_mul, Int32.reduceToInt] at *; omega)
    exact ok_some ⟨hT, (show (0 ≤ (σ5.1 218 7).toInt ∧ (σ5.1 218 7).toInt ≤ 600) ∧ x1 = enV x1 (σ0.1 218 7) ∧ σ5.1 218 7 = enT x1 (σ0.1 218 7) from by first | exact ⟨hp, (if_neg (by first | omega | (simp only [Int32.le_iff_toInt_le, Int32.lt_iff_toInt_lt, ti_add, ti_sub, ti_mul, Int32.reduceToInt] at *; omega))).symm, (if_neg (by first | omega | (simp only [Int32.le_iff_toInt_le, Int32.lt_iff_toInt_lt, ti_add, ti_sub, ti_mul, Int32.reduceToInt] at *; omega))).symm⟩ | exact ⟨hp, (if_pos (by first | omega | (simp only [Int32.le_iff_toInt_le, Int32.lt_iff_toInt_lt, ti_add, ti_sub, ti_mul, Int32.reduceToInt] at *; omega))).symm, a18.trans (if_pos (by first | omega | (simp only [Int32.le_iff_toInt_le, Int32.lt_iff_toInt_lt, ti_add, ti_sub, ti_mul, Int32.reduceToInt] at *; omega))).symm⟩)⟩

set_option maxHeartbeats 4000000 in
set_option maxRecDepth 100000 in
theorem s_X12_keep_v {N : Nat} (hN : 1048576 ≤ N) {x1 : Int32} {σ0 : zS}  (hR : RF σ0.2.2) (hM : MW (σ0.1 219) 0) (hB : ZB σ0.1) (hI3 : MI (σ0.1 221)) : Ok (f_X12_keep N 218 x1 σ0) (fun r => Tr [221, 222, 223] σ0 r.2 ∧ ((ZB r.2.1 ∧ MI (r.2.1 221)) ∧ r.1 = (if 0 ≤ x1.toInt ∧ x1.toInt ≤ 2 then 0 else -2) ∧ ∀ j, r.2.1 223 j = if (0 ≤ x1.toInt ∧ x1.toInt ≤ 2) ∧ j = x1.toInt.toNat then vp_nar .boolean 1 else σ0.1 223 j)) := by
  have hT : Tr [221, 222, 223] σ0 σ0 := Tr.rf
  have hn := hM.1
  have he : 0 ≤ (σ0.1 219 2).toInt ∧ (σ0.1 219 2).toInt ≤ 10 := hM.2.1
  have qm := mny_b hn.1 hn.2
  rw [f_X12_keep.eq_1]
  refine ok_zbX (Q := fun V => ¬ V = 0 ↔ (0 : Int64).toInt ≤ (Int32.toInt64 x1).toInt ∧ (Int32.toInt64 x1).toInt ≤ (2 : Int64).toInt) (x2_X12_in) (fun v1 hqv1 => ?_)
  simp only [i64_of, Int64.reduceToInt] at hqv1
  refine ok_if (fun hc3 => ?_) (fun hc3 => ?_)
  · have qk : ¬ (0 ≤ x1.toInt ∧ x1.toInt ≤ 2) := fun h9 => hqv1.mpr h9 hc3
    exact ok_some ⟨hT, (show (ZB σ0.1 ∧ MI (σ0.1 221)) ∧ (-2 : Int32) = (if 0 ≤ x1.toInt ∧ x1.toInt ≤ 2 then 0 else -2) ∧ ∀ j, σ0.1 223 j = if (0 ≤ x1.toInt ∧ x1.toInt ≤ 2) ∧ j = x1.toInt.toNat then vp_nar .boolean 1 else σ0.1 223 j from by exact ⟨⟨hB, hI3⟩, (if_neg qk).symm, fun j => (if_neg (fun q => qk q.1)).symm⟩)⟩
  · have qk := hqv1.mp hc3
    refine ok_lp (fun t : Int32 × zS => Tr [221, 222, 223] σ0 (t.2) ∧ ((0 ≤ (t.1).toInt ∧ (t.1).toInt ≤ 43) ∧ KP ((t.2).1 221) (σ0.1 221) (σ0.1 219) (43 * x1.toInt.toNat) 0 (t.1).toInt.toNat) ∧ (ZB (t.2).1) ∧ ((t.2).1 223 = σ0.1 223)) (fun t : Int32 × zS => (43 - (t.1).toInt).toNat) (fun again4 t hI ih17_4 => ?_) N _ (show Tr [221, 222, 223] σ0 σ0 ∧ ((0 ≤ (0 : Int32).toInt ∧ (0 : Int32).toInt ≤ 43) ∧ KP (σ0.1 221) (σ0.1 221) (σ0.1 219) (43 * x1.toInt.toNat) 0 (0 : Int32).toInt.toNat) ∧ (ZB σ0.1) ∧ (σ0.1 223 = σ0.1 223) from ⟨hT, (by exact ⟨⟨by decide, by decide⟩, ⟨fun j hj => absurd hj (Nat.not_lt_zero _), fun _ _ => rfl⟩⟩), hB, rfl⟩) (show (43 - (0 : Int32).toInt).toNat < N from (by first | omega | decide | (simp only [Int32.le_iff_toInt_le, Int32.lt_iff_toInt_lt, ti_add, ti_sub, ti_mul, Int32.reduceToInt] at *; omega)))
    obtain ⟨x2_4, σ4⟩ := t
    have hI : Tr [221, 222, 223] σ0 σ4 ∧ ((0 ≤ x2_4.toInt ∧ x2_4.toInt ≤ 43) ∧ KP (σ4.1 221) (σ0.1 221) (σ0.1 219) (43 * x1.toInt.toNat) 0 x2_4.toInt.toNat) ∧ (ZB σ4.1) ∧ (σ4.1 223 = σ0.1 223) := hI
    obtain ⟨hT, hI4, hB, r223_σ4⟩ := hI
    rw [F_X12_keep_17.eq_1]
    have hK := hI4.2
    refine ok_if (fun hc5 => ?_) (fun hc5 => ?_)
    · have e9 : x2_4.toInt.toNat = 43 := by first | omega | (simp only [Int32.le_iff_toInt_le, Int32.lt_iff_toInt_lt, ti_add, ti_sub, ti_mul, Int32.reduceToInt] at *; omega)
      rw [e9] at hK
      refine ok_lp (fun t : Int32 × zS => Tr [221, 222, 223] σ0 (t.2) ∧ (0 ≤ (t.1).toInt ∧ KP ((t.2).1 221) (σ0.1 221) (σ0.1 219) (43 * x1.toInt.toNat) 0 43) ∧ (ZB (t.2).1) ∧ ((t.2).1 223 = σ0.1 223)) (fun t : Int32 × zS => (10240 - (t.1).toInt).toNat) (fun again6 t hI ih48_6 => ?_) N _ (show Tr [221, 222, 223] σ0 σ4 ∧ (0 ≤ (0 : Int32).toInt ∧ KP (σ4.1 221) (σ0.1 221) (σ0.1 219) (43 * x1.toInt.toNat) 0 43) ∧ (ZB σ4.1) ∧ (σ4.1 223 = σ0.1 223) from ⟨hT, (by exact ⟨by decide, hK⟩), hB, r223_σ4⟩) (show (10240 - (0 : Int32).toInt).toNat < N from (by first | omega | decide | (simp only [Int32.le_iff_toInt_le, Int32.lt_iff_toInt_lt, ti_add, ti_sub, ti_mul, Int32.reduceToInt] at *; omega)))
      obtain ⟨x2_6, σ6⟩ := t
      have hI : Tr [221, 222, 223] σ0 σ6 ∧ (0 ≤ x2_6.toInt ∧ KP (σ6.1 221) (σ0.1 221) (σ0.1 219) (43 * x1.toInt.toNat) 0 43) ∧ (ZB σ6.1) ∧ (σ6.1 223 = σ0.1 223) := hI
      obtain ⟨hT, hI6, hB, r223_σ6⟩ := hI
      rw [F_X12_keep_48.eq_1]
      have hK := hI6.2
      refine ok_if (fun hc7 => ?_) (fun hc7 => ?_)
      · refine ok_gR (v := 223) hT rfl (hR 218 5 rfl) ?_
        refine ok_s16 hT rfl (by decide) (by first | omega | decide | (simp only [Int32.le_iff_toInt_le, Int32.lt_iff_toInt_lt, ti_add, ti_sub, ti_mul, Int32.reduceToInt] at *; omega)) (by first | omega | decide | (simp only [Int32.le_iff_toInt_le, Int32.lt_iff_toInt_lt, ti_add, ti_sub, ti_mul, Int32.reduceToInt] at *; omega)) (fun σ9 eσ9 hOσ9 hT => ?_)
        have hK : KP (σ9.1 221) (σ0.1 221) (σ0.1 219) (43 * x1.toInt.toNat) 0 43 := by rw [hOσ9.2 221 (by decide)]; exact hK
        have u85 := upd_at eσ9 r223_σ6
        have hB : ZB σ9.1 := ZB_s eσ9 hB
        exact ok_some ⟨hT, (show (ZB σ9.1 ∧ MI (σ9.1 221)) ∧ (0 : Int32) = (if 0 ≤ x1.toInt ∧ x1.toInt ≤ 2 then 0 else -2) ∧ ∀ j, σ9.1 223 j = if (0 ≤ x1.toInt ∧ x1.toInt ≤ 2) ∧ j = x1.toInt.toNat then vp_nar .boolean 1 else σ0.1 223 j from by exact ⟨⟨hB, MI_cp hK hM hI3⟩, (if_pos qk).symm, fun j => by rw [u85 j]; by_cases e : j = x1.toInt.toNat; rw [if_pos (show j = x1.toNatClampNeg from e), if_pos ⟨qk, e⟩]; rw [if_neg (show ¬ j = x1.toNatClampNeg from e), if_neg (fun q => e q.2)]⟩)⟩
      · have m9 := ixF (x := x1) (y := x2_6) (by first | omega | (simp only [Int32.le_iff_toInt_le, Int32.lt_iff_toInt_lt, ti_add, ti_sub, ti_mul, Int32.reduceToInt] at *; omega)) (by first | omega | (simp only [Int32.le_iff_toInt_le, Int32.lt_iff_toInt_lt, ti_add, ti_sub, ti_mul, Int32.reduceToInt] at *; omega)) (by first | omega | (simp only [Int32.le_iff_toInt_le, Int32.lt_iff_toInt_lt, ti_add, ti_sub, ti_mul, Int32.reduceToInt] at *; omega)) (by first | omega | (simp only [Int32.le_iff_toInt_le, Int32.lt_iff_toInt_lt, ti_add, ti_sub, ti_mul, Int32.reduceToInt] at *; omega))
        refine ok_gR (v := 222) hT rfl (hR 218 4 rfl) ?_
        refine ok_gR (v := 220) hT rfl (hR 218 2 rfl) ?_
        refine ok_aIn rfl (by first | omega | decide | (simp only [Int32.le_iff_toInt_le, Int32.lt_iff_toInt_lt, ti_add, ti_sub, ti_mul, Int32.reduceToInt] at *; omega)) (by first | omega | decide | (simp only [Int32.le_iff_toInt_le, Int32.lt_iff_toInt_lt, ti_add, ti_sub, ti_mul, Int32.reduceToInt] at *; omega)) (fun v12 ev12 => ?_)
        have zv12 : v12 = 0 ∨ v12 = 1 := by rw [ev12]; exact hB 220 rfl _
        refine ok_s16 hT rfl (by decide) (by first | omega | decide | (simp only [Int32.le_iff_toInt_le, Int32.lt_iff_toInt_lt, ti_add, ti_sub, ti_mul, Int32.reduceToInt] at *; omega)) (by first | omega | decide | (simp only [Int32.le_iff_toInt_le, Int32.lt_iff_toInt_lt, ti_add, ti_sub, ti_mul, Int32.reduceToInt] at *; omega)) (fun σ13 eσ13 hOσ13 hT => ?_)
        have hK : KP (σ13.1 221) (σ0.1 221) (σ0.1 219) (43 * x1.toInt.toNat) 0 43 := by rw [hOσ13.2 221 (by decide)]; exact hK
        have r223_σ13 : σ13.1 223 = σ0.1 223 := (hOσ13.2 223 (by decide)).trans r223_σ6
        have hB : ZB σ13.1 := ZB_s eσ13 hB
        exact ih48_6 (x2_6 + 1, σ13) (show Tr [221, 222, 223] σ0 σ13 ∧ (0 ≤ (x2_6 + 1).toInt ∧ KP (σ13.1 221) (σ0.1 221) (σ0.1 219) (43 * x1.toInt.toNat) 0 43) ∧ (ZB σ13.1) ∧ (σ13.1 223 = σ0.1 223) from ⟨hT, (by exact ⟨by first | omega | (simp only [Int32.le_iff_toInt_le, Int32.lt_iff_toInt_lt, ti_add, ti_sub, ti_mul, Int32.reduceToInt] at *; omega), hK⟩), hB, r223_σ13⟩) (show (10240 - (x2_6 + 1).toInt).toNat < (10240 - x2_6.toInt).toNat from (by first | omega | decide | (simp only [Int32.le_iff_toInt_le, Int32.lt_iff_toInt_lt, ti_add, ti_sub, ti_mul, Int32.reduceToInt] at *; omega)))
    · have m9 := ix43 (x := x1) (y := x2_4) (by first | omega | (simp only [Int32.le_iff_toInt_le, Int32.lt_iff_toInt_lt, ti_add, ti_sub, ti_mul, Int32.reduceToInt] at *; omega)) (by first | omega | (simp only [Int32.le_iff_toInt_le, Int32.lt_iff_toInt_lt, ti_add, ti_sub, ti_mul, Int32.reduceToInt] at *; omega)) (by first | omega | (simp only [Int32.le_iff_toInt_le, Int32.lt_iff_toInt_lt, ti_add, ti_sub, ti_mul, Int32.reduceToInt] at *; omega)) (by first | omega | (simp only [Int32.le_iff_toInt_le, Int32.lt_iff_toInt_lt, ti_add, ti_sub, ti_mul, Int32.reduceToInt] at *; omega))
      have hx : (x2_4 + 1).toInt.toNat = x2_4.toInt.toNat + 1 := by first | omega | (simp only [Int32.le_iff_toInt_le, Int32.lt_iff_toInt_lt, ti_add, ti_sub, ti_mul, Int32.reduceToInt] at *; omega)
      have h43 : x2_4.toInt.toNat < 43 := by first | omega | (simp only [Int32.le_iff_toInt_le, Int32.lt_iff_toInt_lt, ti_add, ti_sub, ti_mul, Int32.reduceToInt] at *; omega)
      refine ok_gR (v := 221) hT rfl (hR 218 3 rfl) ?_
      refine ok_gR (v := 219) hT rfl (hR 218 1 rfl) ?_
      refine ok_aIn rfl (by first | omega | decide | (simp only [Int32.le_iff_toInt_le, Int32.lt_iff_toInt_lt, ti_add, ti_sub, ti_mul, Int32.reduceToInt] at *; omega)) (by first | omega | decide | (simp only [Int32.le_iff_toInt_le, Int32.lt_iff_toInt_lt, ti_add, ti_sub, ti_mul, Int32.reduceToInt] at *; omega)) (fun v16 ev16 => ?_)
      have ev38 : v16 = σ0.1 219 (Int32.toNatClampNeg (x2_4)) := by rw [ev16, hT.2 219 (by decide)]
      refine ok_s14 hT rfl (by decide) (by first | omega | decide | (simp only [Int32.le_iff_toInt_le, Int32.lt_iff_toInt_lt, ti_add, ti_sub, ti_mul, Int32.reduceToInt] at *; omega)) (by first | omega | decide | (simp only [Int32.le_iff_toInt_le, Int32.lt_iff_toInt_lt, ti_add, ti_sub, ti_mul, Int32.reduceToInt] at *; omega)) (fun σ17 eσ17 hOσ17 hT => ?_)
      have hK := KP_s eσ17 m9.2.2 (by rw [ev38, Nat.zero_add]; rfl) h43 hK
      have r223_σ17 : σ17.1 223 = σ0.1 223 := (hOσ17.2 223 (by decide)).trans r223_σ4
      have hB : ZB σ17.1 := ZB.tr hOσ17 (by decide) hB
      exact ih17_4 (x2_4 + 1, σ17) (show Tr [221, 222, 223] σ0 σ17 ∧ ((0 ≤ (x2_4 + 1).toInt ∧ (x2_4 + 1).toInt ≤ 43) ∧ KP (σ17.1 221) (σ0.1 221) (σ0.1 219) (43 * x1.toInt.toNat) 0 (x2_4 + 1).toInt.toNat) ∧ (ZB σ17.1) ∧ (σ17.1 223 = σ0.1 223) from ⟨hT, (by exact ⟨⟨by first | omega | (simp only [Int32.le_iff_toInt_le, Int32.lt_iff_toInt_lt, ti_add, ti_sub, ti_mul, Int32.reduceToInt] at *; omega), by first | omega | (simp only [Int32.le_iff_toInt_le, Int32.lt_iff_toInt_lt, ti_add, ti_sub, ti_mul, Int32.reduceToInt] at *; omega)⟩, by rw [hx]; exact hK⟩), hB, r223_σ17⟩) (show (43 - (x2_4 + 1).toInt).toNat < (43 - x2_4.toInt).toNat from (by first | omega | decide | (simp only [Int32.le_iff_toInt_le, Int32.lt_iff_toInt_lt, ti_add, ti_sub, ti_mul, Int32.reduceToInt] at *; omega)))

set_option maxHeartbeats 4000000 in
set_option maxRecDepth 100000 in
theorem s_X12_back_v {N : Nat} (hN : 1048576 ≤ N) {x1 : Int32} {σ0 : zS}  (hR : RF σ0.2.2) (hM : MW (σ0.1 219) 0) (hB : ZB σ0.1) (hI3 : MI (σ0.1 221)) : Ok (f_X12_back N 218 x1 σ0) (fun r => Tr [219, 220] σ0 r.2 ∧ ((ZB r.2.1 ∧ MW (r.2.1 219) 0) ∧ r.1 = if 0 ≤ x1.toInt ∧ x1.toInt ≤ 2 then (if σ0.1 223 x1.toInt.toNat = 0 then -6 else 0) else -2)) := by
  have hT : Tr [219, 220] σ0 σ0 := Tr.rf
  have hn := hM.1
  have he : 0 ≤ (σ0.1 219 2).toInt ∧ (σ0.1 219 2).toInt ≤ 10 := hM.2.1
  have qm := mny_b hn.1 hn.2
  rw [f_X12_back.eq_1]
  refine ok_zbX (Q := fun V => ¬ V = 0 ↔ (0 : Int64).toInt ≤ (Int32.toInt64 x1).toInt ∧ (Int32.toInt64 x1).toInt ≤ (2 : Int64).toInt) (x2_X12_in) (fun v1 hqv1 => ?_)
  simp only [i64_of, Int64.reduceToInt] at hqv1
  refine ok_if (fun hc3 => ?_) (fun hc3 => ?_)
  · have qk : ¬ (0 ≤ x1.toInt ∧ x1.toInt ≤ 2) := fun h9 => hqv1.mpr h9 hc3
    exact ok_some ⟨hT, (show (ZB σ0.1 ∧ MW (σ0.1 219) 0) ∧ (-2 : Int32) = if 0 ≤ x1.toInt ∧ x1.toInt ≤ 2 then (if σ0.1 223 x1.toInt.toNat = 0 then -6 else 0) else -2 from by exact ⟨⟨hB, hM⟩, (if_neg qk).symm⟩)⟩
  · have qk := hqv1.mp hc3
    refine ok_gR (v := 223) hT rfl (hR 218 5 rfl) ?_
    refine ok_aIn rfl (by first | omega | decide | (simp only [Int32.le_iff_toInt_le, Int32.lt_iff_toInt_lt, ti_add, ti_sub, ti_mul, Int32.reduceToInt] at *; omega)) (by first | omega | decide | (simp only [Int32.le_iff_toInt_le, Int32.lt_iff_toInt_lt, ti_add, ti_sub, ti_mul, Int32.reduceToInt] at *; omega)) (fun v5 ev5 => ?_)
    have w20 : v5 = σ0.1 223 x1.toInt.toNat := by rw [ev5, hT.2 223 (by decide)]; rfl
    have zv5 : v5 = 0 ∨ v5 = 1 := by rw [ev5]; exact hB 223 rfl _
    refine ok_if (fun hc6 => ?_) (fun hc6 => ?_)
    · have e21 := hc6
      exact ok_some ⟨hT, (show (ZB σ0.1 ∧ MW (σ0.1 219) 0) ∧ (-6 : Int32) = if 0 ≤ x1.toInt ∧ x1.toInt ≤ 2 then (if σ0.1 223 x1.toInt.toNat = 0 then -6 else 0) else -2 from by exact ⟨⟨hB, hM⟩, ((if_pos qk).trans (if_pos (w20 ▸ e21))).symm⟩)⟩
    · have e21 := hc6
      refine ok_lp (fun t : Int32 × zS => Tr [219, 220] σ0 (t.2) ∧ ((0 ≤ (t.1).toInt ∧ (t.1).toInt ≤ 43) ∧ KP ((t.2).1 219) (σ0.1 219) (σ0.1 221) 0 (43 * x1.toInt.toNat) (t.1).toInt.toNat) ∧ (ZB (t.2).1)) (fun t : Int32 × zS => (43 - (t.1).toInt).toNat) (fun again7 t hI ih29_7 => ?_) N _ (show Tr [219, 220] σ0 σ0 ∧ ((0 ≤ (0 : Int32).toInt ∧ (0 : Int32).toInt ≤ 43) ∧ KP (σ0.1 219) (σ0.1 219) (σ0.1 221) 0 (43 * x1.toInt.toNat) (0 : Int32).toInt.toNat) ∧ (ZB σ0.1) from ⟨hT, (by exact ⟨⟨by decide, by decide⟩, ⟨fun j hj => absurd hj (Nat.not_lt_zero _), fun _ _ => rfl⟩⟩), hB⟩) (show (43 - (0 : Int32).toInt).toNat < N from (by first | omega | decide | (simp only [Int32.le_iff_toInt_le, Int32.lt_iff_toInt_lt, ti_add, ti_sub, ti_mul, Int32.reduceToInt] at *; omega)))
      obtain ⟨x2_7, σ7⟩ := t
      have hI : Tr [219, 220] σ0 σ7 ∧ ((0 ≤ x2_7.toInt ∧ x2_7.toInt ≤ 43) ∧ KP (σ7.1 219) (σ0.1 219) (σ0.1 221) 0 (43 * x1.toInt.toNat) x2_7.toInt.toNat) ∧ (ZB σ7.1) := hI
      obtain ⟨hT, hI7, hB⟩ := hI
      rw [F_X12_back_29.eq_1]
      have hK := hI7.2
      refine ok_if (fun hc8 => ?_) (fun hc8 => ?_)
      · have e9 : x2_7.toInt.toNat = 43 := by first | omega | (simp only [Int32.le_iff_toInt_le, Int32.lt_iff_toInt_lt, ti_add, ti_sub, ti_mul, Int32.reduceToInt] at *; omega)
        rw [e9] at hK
        refine ok_lp (fun t : Int32 × zS => Tr [219, 220] σ0 (t.2) ∧ (0 ≤ (t.1).toInt ∧ KP ((t.2).1 219) (σ0.1 219) (σ0.1 221) 0 (43 * x1.toInt.toNat) 43) ∧ (ZB (t.2).1)) (fun t : Int32 × zS => (10240 - (t.1).toInt).toNat) (fun again9 t hI ih60_9 => ?_) N _ (show Tr [219, 220] σ0 σ7 ∧ (0 ≤ (0 : Int32).toInt ∧ KP (σ7.1 219) (σ0.1 219) (σ0.1 221) 0 (43 * x1.toInt.toNat) 43) ∧ (ZB σ7.1) from ⟨hT, (by exact ⟨by decide, hK⟩), hB⟩) (show (10240 - (0 : Int32).toInt).toNat < N from (by first | omega | decide | (simp only [Int32.le_iff_toInt_le, Int32.lt_iff_toInt_lt, ti_add, ti_sub, ti_mul, Int32.reduceToInt] at *; omega)))
        obtain ⟨x2_9, σ9⟩ := t
        have hI : Tr [219, 220] σ0 σ9 ∧ (0 ≤ x2_9.toInt ∧ KP (σ9.1 219) (σ0.1 219) (σ0.1 221) 0 (43 * x1.toInt.toNat) 43) ∧ (ZB σ9.1) := hI
        obtain ⟨hT, hI9, hB⟩ := hI
        rw [F_X12_back_60.eq_1]
        have hK := hI9.2
        refine ok_if (fun hc10 => ?_) (fun hc10 => ?_)
        · exact ok_some ⟨hT, (show (ZB σ9.1 ∧ MW (σ9.1 219) 0) ∧ (0 : Int32) = if 0 ≤ x1.toInt ∧ x1.toInt ≤ 2 then (if σ0.1 223 x1.toInt.toNat = 0 then -6 else 0) else -2 from by exact ⟨⟨hB, MW_cp hK.1 (hI3 _ (by omega))⟩, ((if_pos qk).trans (if_neg (w20 ▸ e21))).symm⟩)⟩
        · have m9 := ixF (x := x1) (y := x2_9) (by first | omega | (simp only [Int32.le_iff_toInt_le, Int32.lt_iff_toInt_lt, ti_add, ti_sub, ti_mul, Int32.reduceToInt] at *; omega)) (by first | omega | (simp only [Int32.le_iff_toInt_le, Int32.lt_iff_toInt_lt, ti_add, ti_sub, ti_mul, Int32.reduceToInt] at *; omega)) (by first | omega | (simp only [Int32.le_iff_toInt_le, Int32.lt_iff_toInt_lt, ti_add, ti_sub, ti_mul, Int32.reduceToInt] at *; omega)) (by first | omega | (simp only [Int32.le_iff_toInt_le, Int32.lt_iff_toInt_lt, ti_add, ti_sub, ti_mul, Int32.reduceToInt] at *; omega))
          refine ok_gR (v := 220) hT rfl (hR 218 2 rfl) ?_
          refine ok_gR (v := 222) hT rfl (hR 218 4 rfl) ?_
          refine ok_aIn rfl (by first | omega | decide | (simp only [Int32.le_iff_toInt_le, Int32.lt_iff_toInt_lt, ti_add, ti_sub, ti_mul, Int32.reduceToInt] at *; omega)) (by first | omega | decide | (simp only [Int32.le_iff_toInt_le, Int32.lt_iff_toInt_lt, ti_add, ti_sub, ti_mul, Int32.reduceToInt] at *; omega)) (fun v13 ev13 => ?_)
          have zv13 : v13 = 0 ∨ v13 = 1 := by rw [ev13]; exact hB 222 rfl _
          refine ok_s16 hT rfl (by decide) (by first | omega | decide | (simp only [Int32.le_iff_toInt_le, Int32.lt_iff_toInt_lt, ti_add, ti_sub, ti_mul, Int32.reduceToInt] at *; omega)) (by first | omega | decide | (simp only [Int32.le_iff_toInt_le, Int32.lt_iff_toInt_lt, ti_add, ti_sub, ti_mul, Int32.reduceToInt] at *; omega)) (fun σ14 eσ14 hOσ14 hT => ?_)
          have hK : KP (σ14.1 219) (σ0.1 219) (σ0.1 221) 0 (43 * x1.toInt.toNat) 43 := by rw [hOσ14.2 219 (by decide)]; exact hK
          have hB : ZB σ14.1 := ZB_s eσ14 hB
          exact ih60_9 (x2_9 + 1, σ14) (show Tr [219, 220] σ0 σ14 ∧ (0 ≤ (x2_9 + 1).toInt ∧ KP (σ14.1 219) (σ0.1 219) (σ0.1 221) 0 (43 * x1.toInt.toNat) 43) ∧ (ZB σ14.1) from ⟨hT, (by exact ⟨by first | omega | (simp only [Int32.le_iff_toInt_le, Int32.lt_iff_toInt_lt, ti_add, ti_sub, ti_mul, Int32.reduceToInt] at *; omega), hK⟩), hB⟩) (show (10240 - (x2_9 + 1).toInt).toNat < (10240 - x2_9.toInt).toNat from (by first | omega | decide | (simp only [Int32.le_iff_toInt_le, Int32.lt_iff_toInt_lt, ti_add, ti_sub, ti_mul, Int32.reduceToInt] at *; omega)))
      · have m9 := ix43 (x := x1) (y := x2_7) (by first | omega | (simp only [Int32.le_iff_toInt_le, Int32.lt_iff_toInt_lt, ti_add, ti_sub, ti_mul, Int32.reduceToInt] at *; omega)) (by first | omega | (simp only [Int32.le_iff_toInt_le, Int32.lt_iff_toInt_lt, ti_add, ti_sub, ti_mul, Int32.reduceToInt] at *; omega)) (by first | omega | (simp only [Int32.le_iff_toInt_le, Int32.lt_iff_toInt_lt, ti_add, ti_sub, ti_mul, Int32.reduceToInt] at *; omega)) (by first | omega | (simp only [Int32.le_iff_toInt_le, Int32.lt_iff_toInt_lt, ti_add, ti_sub, ti_mul, Int32.reduceToInt] at *; omega))
        have hx : (x2_7 + 1).toInt.toNat = x2_7.toInt.toNat + 1 := by first | omega | (simp only [Int32.le_iff_toInt_le, Int32.lt_iff_toInt_lt, ti_add, ti_sub, ti_mul, Int32.reduceToInt] at *; omega)
        have h43 : x2_7.toInt.toNat < 43 := by first | omega | (simp only [Int32.le_iff_toInt_le, Int32.lt_iff_toInt_lt, ti_add, ti_sub, ti_mul, Int32.reduceToInt] at *; omega)
        refine ok_gR (v := 219) hT rfl (hR 218 1 rfl) ?_
        refine ok_gR (v := 221) hT rfl (hR 218 3 rfl) ?_
        refine ok_aIn rfl (by first | omega | decide | (simp only [Int32.le_iff_toInt_le, Int32.lt_iff_toInt_lt, ti_add, ti_sub, ti_mul, Int32.reduceToInt] at *; omega)) (by first | omega | decide | (simp only [Int32.le_iff_toInt_le, Int32.lt_iff_toInt_lt, ti_add, ti_sub, ti_mul, Int32.reduceToInt] at *; omega)) (fun v17 ev17 => ?_)
        have ev38 : v17 = σ0.1 221 (Int32.toNatClampNeg ((43 * x1) + x2_7)) := by rw [ev17, hT.2 221 (by decide)]
        refine ok_s14 hT rfl (by decide) (by first | omega | decide | (simp only [Int32.le_iff_toInt_le, Int32.lt_iff_toInt_lt, ti_add, ti_sub, ti_mul, Int32.reduceToInt] at *; omega)) (by first | omega | decide | (simp only [Int32.le_iff_toInt_le, Int32.lt_iff_toInt_lt, ti_add, ti_sub, ti_mul, Int32.reduceToInt] at *; omega)) (fun σ18 eσ18 hOσ18 hT => ?_)
        have hK := KP_s eσ18 (Nat.zero_add _).symm (by rw [ev38, m9.2.2]; rfl) h43 hK
        have hB : ZB σ18.1 := ZB.tr hOσ18 (by decide) hB
        exact ih29_7 (x2_7 + 1, σ18) (show Tr [219, 220] σ0 σ18 ∧ ((0 ≤ (x2_7 + 1).toInt ∧ (x2_7 + 1).toInt ≤ 43) ∧ KP (σ18.1 219) (σ0.1 219) (σ0.1 221) 0 (43 * x1.toInt.toNat) (x2_7 + 1).toInt.toNat) ∧ (ZB σ18.1) from ⟨hT, (by exact ⟨⟨by first | omega | (simp only [Int32.le_iff_toInt_le, Int32.lt_iff_toInt_lt, ti_add, ti_sub, ti_mul, Int32.reduceToInt] at *; omega), by first | omega | (simp only [Int32.le_iff_toInt_le, Int32.lt_iff_toInt_lt, ti_add, ti_sub, ti_mul, Int32.reduceToInt] at *; omega)⟩, by rw [hx]; exact hK⟩), hB⟩) (show (43 - (x2_7 + 1).toInt).toNat < (43 - x2_7.toInt).toNat from (by first | omega | decide | (simp only [Int32.le_iff_toInt_le, Int32.lt_iff_toInt_lt, ti_add, ti_sub, ti_mul, Int32.reduceToInt] at *; omega)))

set_option maxHeartbeats 4000000 in
set_option maxRecDepth 100000 in
theorem s_X12_write_v {N : Nat} (hN : 1048576 ≤ N) {x1 : Int32} {x2 : Int32} {x3 : Int64} {σ0 : zS}  (hR : RF σ0.2.2) (hS : MS (σ0.1 239)) : Ok (f_X12_write N 218 x1 x2 x3 σ0) (fun r => Tr [] σ0 r.2 ∧ (r.1 = wrV x1 x2 (σ0.1 239 x1.toNatClampNeg))) := by
  have hT : Tr [] σ0 σ0 := Tr.rf
  have m39 := hS x1.toNatClampNeg
  rw [f_X12_write.eq_1]
  refine ok_zbX (Q := fun V => (V = 0 → ¬ (0 ≤ x1.toInt ∧ x1.toInt ≤ 3)) ∧ (¬ V = 0 → 0 ≤ x1.toInt ∧ x1.toInt ≤ 3)) (x_X12_isSlot) (fun v1 hqv1 => ?_)
  refine ok_if (fun hc3 => ?_) (fun hc3 => ?_)
  · have qhc3 := hqv1.1 hc3
    exact ok_some ⟨hT, (show (-2 : Int32) = wrV x1 x2 (σ0.1 239 x1.toNatClampNeg) from by (first | exact (if_neg (by first | omega | (simp only [Int32.le_iff_toInt_le, Int32.lt_iff_toInt_lt, ti_add, ti_sub, ti_mul, Int32.reduceToInt] at *; omega))).symm | exact ((if_pos (by first | omega | (simp only [Int32.le_iff_toInt_le, Int32.lt_iff_toInt_lt, ti_add, ti_sub, ti_mul, Int32.reduceToInt] at *; omega))).trans (if_pos (by first | omega | (simp only [Int32.le_iff_toInt_le, Int32.lt_iff_toInt_lt, ti_add, ti_sub, ti_mul, Int32.reduceToInt] at *; omega)))).symm | exact ((if_pos (by first | omega | (simp only [Int32.le_iff_toInt_le, Int32.lt_iff_toInt_lt, ti_add, ti_sub, ti_mul, Int32.reduceToInt] at *; omega))).trans ((if_neg (by first | omega | (simp only [Int32.le_iff_toInt_le, Int32.lt_iff_toInt_lt, ti_add, ti_sub, ti_mul, Int32.reduceToInt] at *; omega))).trans (if_pos (by first | omega | (simp only [Int32.le_iff_toInt_le, Int32.lt_iff_toInt_lt, ti_add, ti_sub, ti_mul, Int32.reduceToInt] at *; omega))))).symm | exact ((if_pos (by first | omega | (simp only [Int32.le_iff_toInt_le, Int32.lt_iff_toInt_lt, ti_add, ti_sub, ti_mul, Int32.reduceToInt] at *; omega))).trans ((if_neg (by first | omega | (simp only [Int32.le_iff_toInt_le, Int32.lt_iff_toInt_lt, ti_add, ti_sub, ti_mul, Int32.reduceToInt] at *; omega))).trans (if_neg (by first | omega | (simp only [Int32.le_iff_toInt_le, Int32.lt_iff_toInt_lt, ti_add, ti_sub, ti_mul, Int32.reduceToInt] at *; omega))))).symm))⟩
  · have qhc3 := hqv1.2 hc3
    refine ok_gR (v := 239) hT rfl (hR 218 35 rfl) ?_
    refine ok_aIn rfl (by first | omega | decide | (simp only [Int32.le_iff_toInt_le, Int32.lt_iff_toInt_lt, ti_add, ti_sub, ti_mul, Int32.reduceToInt] at *; omega)) (by first | omega | decide | (simp only [Int32.le_iff_toInt_le, Int32.lt_iff_toInt_lt, ti_add, ti_sub, ti_mul, Int32.reduceToInt] at *; omega)) (fun v5 ev5 => ?_)
    have qs15 : -1 ≤ v5.toInt ∧ v5.toInt ≤ 60 := by rw [ev5, hT.2 239 (by decide)]; exact hS _
    have w15 : v5 = σ0.1 239 x1.toNatClampNeg := by rw [ev5, hT.2 239 (by decide)]
    refine ok_if (fun hc6 => ?_) (fun hc6 => ?_)
    · have c17 := hc6
      rw [w15] at c17
      have d17 := congrArg Int32.toInt c17
      simp only [Int32.reduceToInt] at d17
      exact ok_some ⟨hT, (show (-6 : Int32) = wrV x1 x2 (σ0.1 239 x1.toNatClampNeg) from by (first | exact (if_neg (by first | omega | (simp only [Int32.le_iff_toInt_le, Int32.lt_iff_toInt_lt, ti_add, ti_sub, ti_mul, Int32.reduceToInt] at *; omega))).symm | exact ((if_pos (by first | omega | (simp only [Int32.le_iff_toInt_le, Int32.lt_iff_toInt_lt, ti_add, ti_sub, ti_mul, Int32.reduceToInt] at *; omega))).trans (if_pos (by first | omega | (simp only [Int32.le_iff_toInt_le, Int32.lt_iff_toInt_lt, ti_add, ti_sub, ti_mul, Int32.reduceToInt] at *; omega)))).symm | exact ((if_pos (by first | omega | (simp only [Int32.le_iff_toInt_le, Int32.lt_iff_toInt_lt, ti_add, ti_sub, ti_mul, Int32.reduceToInt] at *; omega))).trans ((if_neg (by first | omega | (simp only [Int32.le_iff_toInt_le, Int32.lt_iff_toInt_lt, ti_add, ti_sub, ti_mul, Int32.reduceToInt] at *; omega))).trans (if_pos (by first | omega | (simp only [Int32.le_iff_toInt_le, Int32.lt_iff_toInt_lt, ti_add, ti_sub, ti_mul, Int32.reduceToInt] at *; omega))))).symm | exact ((if_pos (by first | omega | (simp only [Int32.le_iff_toInt_le, Int32.lt_iff_toInt_lt, ti_add, ti_sub, ti_mul, Int32.reduceToInt] at *; omega))).trans ((if_neg (by first | omega | (simp only [Int32.le_iff_toInt_le, Int32.lt_iff_toInt_lt, ti_add, ti_sub, ti_mul, Int32.reduceToInt] at *; omega))).trans (if_neg (by first | omega | (simp only [Int32.le_iff_toInt_le, Int32.lt_iff_toInt_lt, ti_add, ti_sub, ti_mul, Int32.reduceToInt] at *; omega))))).symm))⟩
    · have c17 := hc6
      rw [w15] at c17
      have d17 : (σ0.1 239 x1.toNatClampNeg).toInt ≠ -1 := fun e => c17 (Int32.toInt_inj.mp e)
      refine ok_gR (v := 239) hT rfl (hR 218 35 rfl) ?_
      refine ok_aIn rfl (by first | omega | decide | (simp only [Int32.le_iff_toInt_le, Int32.lt_iff_toInt_lt, ti_add, ti_sub, ti_mul, Int32.reduceToInt] at *; omega)) (by first | omega | decide | (simp only [Int32.le_iff_toInt_le, Int32.lt_iff_toInt_lt, ti_add, ti_sub, ti_mul, Int32.reduceToInt] at *; omega)) (fun v8 ev8 => ?_)
      have qs31 : -1 ≤ v8.toInt ∧ v8.toInt ≤ 60 := by rw [ev8, hT.2 239 (by decide)]; exact hS _
      have w31 : v8 = σ0.1 239 x1.toNatClampNeg := by rw [ev8, hT.2 239 (by decide)]
      refine ok_zbX (Q := fun V => (V = 0 → ¬ ((0 : Int64).toInt ≤ (Int32.toInt64 x2).toInt ∧ (Int32.toInt64 x2).toInt ≤ (Int32.toInt64 (v8 - 1)).toInt)) ∧ (¬ V = 0 → (0 : Int64).toInt ≤ (Int32.toInt64 x2).toInt ∧ (Int32.toInt64 x2).toInt ≤ (Int32.toInt64 (v8 - 1)).toInt)) (xi_X12_in) (fun v9 hqv9 => ?_)
      simp only [i64_of, Int64.reduceToInt] at hqv9
      refine ok_if (fun hc11 => ?_) (fun hc11 => ?_)
      · have qhc11 := hqv9.1 hc11
        have r38 := qhc11
        rw [w31, ti_sub] at r38
        simp only [Int32.reduceToInt] at r38
        exact ok_some ⟨hT, (show (-7 : Int32) = wrV x1 x2 (σ0.1 239 x1.toNatClampNeg) from by (first | exact (if_neg (by first | omega | (simp only [Int32.le_iff_toInt_le, Int32.lt_iff_toInt_lt, ti_add, ti_sub, ti_mul, Int32.reduceToInt] at *; omega))).symm | exact ((if_pos (by first | omega | (simp only [Int32.le_iff_toInt_le, Int32.lt_iff_toInt_lt, ti_add, ti_sub, ti_mul, Int32.reduceToInt] at *; omega))).trans (if_pos (by first | omega | (simp only [Int32.le_iff_toInt_le, Int32.lt_iff_toInt_lt, ti_add, ti_sub, ti_mul, Int32.reduceToInt] at *; omega)))).symm | exact ((if_pos (by first | omega | (simp only [Int32.le_iff_toInt_le, Int32.lt_iff_toInt_lt, ti_add, ti_sub, ti_mul, Int32.reduceToInt] at *; omega))).trans ((if_neg (by first | omega | (simp only [Int32.le_iff_toInt_le, Int32.lt_iff_toInt_lt, ti_add, ti_sub, ti_mul, Int32.reduceToInt] at *; omega))).trans (if_pos (by first | omega | (simp only [Int32.le_iff_toInt_le, Int32.lt_iff_toInt_lt, ti_add, ti_sub, ti_mul, Int32.reduceToInt] at *; omega))))).symm | exact ((if_pos (by first | omega | (simp only [Int32.le_iff_toInt_le, Int32.lt_iff_toInt_lt, ti_add, ti_sub, ti_mul, Int32.reduceToInt] at *; omega))).trans ((if_neg (by first | omega | (simp only [Int32.le_iff_toInt_le, Int32.lt_iff_toInt_lt, ti_add, ti_sub, ti_mul, Int32.reduceToInt] at *; omega))).trans (if_neg (by first | omega | (simp only [Int32.le_iff_toInt_le, Int32.lt_iff_toInt_lt, ti_add, ti_sub, ti_mul, Int32.reduceToInt] at *; omega))))).symm))⟩
      · have qhc11 := hqv9.2 hc11
        have r38 := qhc11
        rw [w31, ti_sub] at r38
        simp only [Int32.reduceToInt] at r38
        have m9 := ix60 (x := x1) (y := x2) (by first | omega | (simp only [Int32.le_iff_toInt_le, Int32.lt_iff_toInt_lt, ti_add, ti_sub, ti_mul, Int32.reduceToInt] at *; omega)) (by first | omega | (simp only [Int32.le_iff_toInt_le, Int32.lt_iff_toInt_lt, ti_add, ti_sub, ti_mul, Int32.reduceToInt] at *; omega)) (by first | omega | (simp only [Int32.le_iff_toInt_le, Int32.lt_iff_toInt_lt, ti_add, ti_sub, ti_mul, Int32.reduceToInt] at *; omega)) (by first | omega | (simp only [Int32.le_iff_toInt_le, Int32.lt_iff_toInt_lt, ti_add, ti_sub, ti_mul, Int32.reduceToInt] at *; omega))
        refine ok_gR (v := 241) hT rfl (hR 218 37 rfl) ?_
        refine ok_gR (v := 240) hT rfl (hR 218 36 rfl) ?_
        refine ok_aIn rfl (by first | omega | decide | (simp only [Int32.le_iff_toInt_le, Int32.lt_iff_toInt_lt, ti_add, ti_sub, ti_mul, Int32.reduceToInt] at *; omega)) (by first | omega | decide | (simp only [Int32.le_iff_toInt_le, Int32.lt_iff_toInt_lt, ti_add, ti_sub, ti_mul, Int32.reduceToInt] at *; omega)) (fun v14 ev14 => ?_)
        refine ok_zbT (Q := fun V σ => True) hT (s_X12_cut hN (hR.tr hT) ) (fun _ h9 => absurd h9 List.not_mem_nil) (fun v15 σ16 hOσ16 hT hqv15 => ?_)
        refine ok_sJ hT rfl (by first | omega | decide | (simp only [Int32.le_iff_toInt_le, Int32.lt_iff_toInt_lt, ti_add, ti_sub, ti_mul, Int32.reduceToInt] at *; omega)) (by first | omega | decide | (simp only [Int32.le_iff_toInt_le, Int32.lt_iff_toInt_lt, ti_add, ti_sub, ti_mul, Int32.reduceToInt] at *; omega)) (fun σ17 eσ17 hOσ17 hT => ?_)
        exact ok_some ⟨hT, (show (0 : Int32) = wrV x1 x2 (σ0.1 239 x1.toNatClampNeg) from by (first | exact (if_neg (by first | omega | (simp only [Int32.le_iff_toInt_le, Int32.lt_iff_toInt_lt, ti_add, ti_sub, ti_mul, Int32.reduceToInt] at *; omega))).symm | exact ((if_pos (by first | omega | (simp only [Int32.le_iff_toInt_le, Int32.lt_iff_toInt_lt, ti_add, ti_sub, ti_mul, Int32.reduceToInt] at *; omega))).trans (if_pos (by first | omega | (simp only [Int32.le_iff_toInt_le, Int32.lt_iff_toInt_lt, ti_add, ti_sub, ti_mul, Int32.reduceToInt] at *; omega)))).symm | exact ((if_pos (by first | omega | (simp only [Int32.le_iff_toInt_le, Int32.lt_iff_toInt_lt, ti_add, ti_sub, ti_mul, Int32.reduceToInt] at *; omega))).trans ((if_neg (by first | omega | (simp only [Int32.le_iff_toInt_le, Int32.lt_iff_toInt_lt, ti_add, ti_sub, ti_mul, Int32.reduceToInt] at *; omega))).trans (if_pos (by first | omega | (simp only [Int32.le_iff_toInt_le, Int32.lt_iff_toInt_lt, ti_add, ti_sub, ti_mul, Int32.reduceToInt] at *; omega))))).symm | exact ((if_pos (by first | omega | (simp only [Int32.le_iff_toInt_le, Int32.lt_iff_toInt_lt, ti_add, ti_sub, ti_mul, Int32.reduceToInt] at *; omega))).trans ((if_neg (by first | omega | (simp only [Int32.le_iff_toInt_le, Int32.lt_iff_toInt_lt, ti_add, ti_sub, ti_mul, Int32.reduceToInt] at *; omega))).trans (if_neg (by first | omega | (simp only [Int32.le_iff_toInt_le, Int32.lt_iff_toInt_lt, ti_add, ti_sub, ti_mul, Int32.reduceToInt] at *; omega))))).symm))⟩

set_option maxHeartbeats 4000000 in
set_option maxRecDepth 100000 in
theorem s_X12_paste_v {N : Nat} (hN : 1048576 ≤ N) {x1 : Int32} {x2 : Int32} {x3 : Int32} {x4 : Int32} {x5 : Int32} {σ0 : zS}  (hR : RF σ0.2.2) (hS : MS (σ0.1 239)) : Ok (f_X12_paste N 218 x1 x2 x3 x4 x5 σ0) (fun r => Tr [] σ0 r.2 ∧ (r.1 = paV x1 x2 x3 x4 x5 (σ0.1 239 x1.toNatClampNeg) (σ0.1 239 x3.toNatClampNeg) (σ0.1 240 x1.toNatClampNeg) (σ0.1 240 x3.toNatClampNeg))) := by
  have hT : Tr [] σ0 σ0 := Tr.rf
  have m39 := hS x1.toNatClampNeg
  have m39b := hS x3.toNatClampNeg
  rw [f_X12_paste.eq_1]
  refine ok_zbX (Q := fun V => (V = 0 → ¬ (0 ≤ x1.toInt ∧ x1.toInt ≤ 3)) ∧ (¬ V = 0 → 0 ≤ x1.toInt ∧ x1.toInt ≤ 3)) (x_X12_isSlot) (fun v1 hqv1 => ?_)
  refine ok_if (fun hc3 => ?_) (fun hc3 => ?_)
  · have qhc3 := hqv1.1 hc3
    exact ok_some ⟨hT, (show (-2 : Int32) = paV x1 x2 x3 x4 x5 (σ0.1 239 x1.toNatClampNeg) (σ0.1 239 x3.toNatClampNeg) (σ0.1 240 x1.toNatClampNeg) (σ0.1 240 x3.toNatClampNeg) from by first | exact (if_neg (by first | omega | (simp only [Int32.le_iff_toInt_le, Int32.lt_iff_toInt_lt, ti_add, ti_sub, ti_mul, Int32.reduceToInt] at *; omega))).symm | (first | exact ((if_pos (by first | omega | (simp only [Int32.le_iff_toInt_le, Int32.lt_iff_toInt_lt, ti_add, ti_sub, ti_mul, Int32.reduceToInt] at *; omega))).trans (if_pos (by first | omega | (simp only [Int32.le_iff_toInt_le, Int32.lt_iff_toInt_lt, ti_add, ti_sub, ti_mul, Int32.reduceToInt] at *; omega)))).symm | exact ((if_pos (by first | omega | (simp only [Int32.le_iff_toInt_le, Int32.lt_iff_toInt_lt, ti_add, ti_sub, ti_mul, Int32.reduceToInt] at *; omega))).trans ((if_neg (by first | omega | (simp only [Int32.le_iff_toInt_le, Int32.lt_iff_toInt_lt, ti_add, ti_sub, ti_mul, Int32.reduceToInt] at *; omega))).trans (if_neg n64))).symm | exact ((if_pos (by first | omega | (simp only [Int32.le_iff_toInt_le, Int32.lt_iff_toInt_lt, ti_add, ti_sub, ti_mul, Int32.reduceToInt] at *; omega))).trans ((if_neg (by first | omega | (simp only [Int32.le_iff_toInt_le, Int32.lt_iff_toInt_lt, ti_add, ti_sub, ti_mul, Int32.reduceToInt] at *; omega))).trans ((if_pos n64).trans (if_neg (by first | omega | (simp only [Int32.le_iff_toInt_le, Int32.lt_iff_toInt_lt, ti_add, ti_sub, ti_mul, Int32.reduceToInt] at *; omega)))))).symm | exact ((if_pos (by first | omega | (simp only [Int32.le_iff_toInt_le, Int32.lt_iff_toInt_lt, ti_add, ti_sub, ti_mul, Int32.reduceToInt] at *; omega))).trans ((if_neg (by first | omega | (simp only [Int32.le_iff_toInt_le, Int32.lt_iff_toInt_lt, ti_add, ti_sub, ti_mul, Int32.reduceToInt] at *; omega))).trans ((if_pos n64).trans (if_pos (by first | omega | (simp only [Int32.le_iff_toInt_le, Int32.lt_iff_toInt_lt, ti_add, ti_sub, ti_mul, Int32.reduceToInt] at *; omega)))))).symm))⟩
  · have qhc3 := hqv1.2 hc3
    refine ok_zbX (Q := fun V => (V = 0 → ¬ (0 ≤ x3.toInt ∧ x3.toInt ≤ 3)) ∧ (¬ V = 0 → 0 ≤ x3.toInt ∧ x3.toInt ≤ 3)) (x_X12_isSlot) (fun v4 hqv4 => ?_)
    refine ok_if (fun hc6 => ?_) (fun hc6 => ?_)
    · have qhc6 := hqv4.1 hc6
      exact ok_some ⟨hT, (show (-2 : Int32) = paV x1 x2 x3 x4 x5 (σ0.1 239 x1.toNatClampNeg) (σ0.1 239 x3.toNatClampNeg) (σ0.1 240 x1.toNatClampNeg) (σ0.1 240 x3.toNatClampNeg) from by first | exact (if_neg (by first | omega | (simp only [Int32.le_iff_toInt_le, Int32.lt_iff_toInt_lt, ti_add, ti_sub, ti_mul, Int32.reduceToInt] at *; omega))).symm | (first | exact ((if_pos (by first | omega | (simp only [Int32.le_iff_toInt_le, Int32.lt_iff_toInt_lt, ti_add, ti_sub, ti_mul, Int32.reduceToInt] at *; omega))).trans (if_pos (by first | omega | (simp only [Int32.le_iff_toInt_le, Int32.lt_iff_toInt_lt, ti_add, ti_sub, ti_mul, Int32.reduceToInt] at *; omega)))).symm | exact ((if_pos (by first | omega | (simp only [Int32.le_iff_toInt_le, Int32.lt_iff_toInt_lt, ti_add, ti_sub, ti_mul, Int32.reduceToInt] at *; omega))).trans ((if_neg (by first | omega | (simp only [Int32.le_iff_toInt_le, Int32.lt_iff_toInt_lt, ti_add, ti_sub, ti_mul, Int32.reduceToInt] at *; omega))).trans (if_neg n64))).symm | exact ((if_pos (by first | omega | (simp only [Int32.le_iff_toInt_le, Int32.lt_iff_toInt_lt, ti_add, ti_sub, ti_mul, Int32.reduceToInt] at *; omega))).trans ((if_neg (by first | omega | (simp only [Int32.le_iff_toInt_le, Int32.lt_iff_toInt_lt, ti_add, ti_sub, ti_mul, Int32.reduceToInt] at *; omega))).trans ((if_pos n64).trans (if_neg (by first | omega | (simp only [Int32.le_iff_toInt_le, Int32.lt_iff_toInt_lt, ti_add, ti_sub, ti_mul, Int32.reduceToInt] at *; omega)))))).symm | exact ((if_pos (by first | omega | (simp only [Int32.le_iff_toInt_le, Int32.lt_iff_toInt_lt, ti_add, ti_sub, ti_mul, Int32.reduceToInt] at *; omega))).trans ((if_neg (by first | omega | (simp only [Int32.le_iff_toInt_le, Int32.lt_iff_toInt_lt, ti_add, ti_sub, ti_mul, Int32.reduceToInt] at *; omega))).trans ((if_pos n64).trans (if_pos (by first | omega | (simp only [Int32.le_iff_toInt_le, Int32.lt_iff_toInt_lt, ti_add, ti_sub, ti_mul, Int32.reduceToInt] at *; omega)))))).symm))⟩
    · have qhc6 := hqv4.2 hc6
      refine ok_gR (v := 239) hT rfl (hR 218 35 rfl) ?_
      refine ok_aIn rfl (by first | omega | decide | (simp only [Int32.le_iff_toInt_le, Int32.lt_iff_toInt_lt, ti_add, ti_sub, ti_mul, Int32.reduceToInt] at *; omega)) (by first | omega | decide | (simp only [Int32.le_iff_toInt_le, Int32.lt_iff_toInt_lt, ti_add, ti_sub, ti_mul, Int32.reduceToInt] at *; omega)) (fun v8 ev8 => ?_)
      have qs22 : -1 ≤ v8.toInt ∧ v8.toInt ≤ 60 := by rw [ev8, hT.2 239 (by decide)]; exact hS _
      have w22q : v8 = σ0.1 239 x1.toNatClampNeg := by rw [ev8, hT.2 239 (by decide)]
      refine ok_if (fun hc9 => ?_) (fun hc9 => ?_)
      · have c24 := hc9
        rw [w22q] at c24
        have d24 := congrArg Int32.toInt c24
        simp only [Int32.reduceToInt] at d24
        exact ok_some ⟨hT, (show (-6 : Int32) = paV x1 x2 x3 x4 x5 (σ0.1 239 x1.toNatClampNeg) (σ0.1 239 x3.toNatClampNeg) (σ0.1 240 x1.toNatClampNeg) (σ0.1 240 x3.toNatClampNeg) from by first | exact (if_neg (by first | omega | (simp only [Int32.le_iff_toInt_le, Int32.lt_iff_toInt_lt, ti_add, ti_sub, ti_mul, Int32.reduceToInt] at *; omega))).symm | (first | exact ((if_pos (by first | omega | (simp only [Int32.le_iff_toInt_le, Int32.lt_iff_toInt_lt, ti_add, ti_sub, ti_mul, Int32.reduceToInt] at *; omega))).trans (if_pos (by first | omega | (simp only [Int32.le_iff_toInt_le, Int32.lt_iff_toInt_lt, ti_add, ti_sub, ti_mul, Int32.reduceToInt] at *; omega)))).symm | exact ((if_pos (by first | omega | (simp only [Int32.le_iff_toInt_le, Int32.lt_iff_toInt_lt, ti_add, ti_sub, ti_mul, Int32.reduceToInt] at *; omega))).trans ((if_neg (by first | omega | (simp only [Int32.le_iff_toInt_le, Int32.lt_iff_toInt_lt, ti_add, ti_sub, ti_mul, Int32.reduceToInt] at *; omega))).trans (if_neg n64))).symm | exact ((if_pos (by first | omega | (simp only [Int32.le_iff_toInt_le, Int32.lt_iff_toInt_lt, ti_add, ti_sub, ti_mul, Int32.reduceToInt] at *; omega))).trans ((if_neg (by first | omega | (simp only [Int32.le_iff_toInt_le, Int32.lt_iff_toInt_lt, ti_add, ti_sub, ti_mul, Int32.reduceToInt] at *; omega))).trans ((if_pos n64).trans (if_neg (by first | omega | (simp only [Int32.le_iff_toInt_le, Int32.lt_iff_toInt_lt, ti_add, ti_sub, ti_mul, Int32.reduceToInt] at *; omega)))))).symm | exact ((if_pos (by first | omega | (simp only [Int32.le_iff_toInt_le, Int32.lt_iff_toInt_lt, ti_add, ti_sub, ti_mul, Int32.reduceToInt] at *; omega))).trans ((if_neg (by first | omega | (simp only [Int32.le_iff_toInt_le, Int32.lt_iff_toInt_lt, ti_add, ti_sub, ti_mul, Int32.reduceToInt] at *; omega))).trans ((if_pos n64).trans (if_pos (by first | omega | (simp only [Int32.le_iff_toInt_le, Int32.lt_iff_toInt_lt, ti_add, ti_sub, ti_mul, Int32.reduceToInt] at *; omega)))))).symm))⟩
      · have c24 := hc9
        rw [w22q] at c24
        have d24 : (σ0.1 239 x1.toNatClampNeg).toInt ≠ -1 := fun e => c24 (Int32.toInt_inj.mp e)
        refine ok_gR (v := 239) hT rfl (hR 218 35 rfl) ?_
        refine ok_aIn rfl (by first | omega | decide | (simp only [Int32.le_iff_toInt_le, Int32.lt_iff_toInt_lt, ti_add, ti_sub, ti_mul, Int32.reduceToInt] at *; omega)) (by first | omega | decide | (simp only [Int32.le_iff_toInt_le, Int32.lt_iff_toInt_lt, ti_add, ti_sub, ti_mul, Int32.reduceToInt] at *; omega)) (fun v11 ev11 => ?_)
        have qs32 : -1 ≤ v11.toInt ∧ v11.toInt ≤ 60 := by rw [ev11, hT.2 239 (by decide)]; exact hS _
        have w32q : v11 = σ0.1 239 x3.toNatClampNeg := by rw [ev11, hT.2 239 (by decide)]
        refine ok_if (fun hc12 => ?_) (fun hc12 => ?_)
        · have c34 := hc12
          rw [w32q] at c34
          have d34 := congrArg Int32.toInt c34
          simp only [Int32.reduceToInt] at d34
          exact ok_some ⟨hT, (show (-6 : Int32) = paV x1 x2 x3 x4 x5 (σ0.1 239 x1.toNatClampNeg) (σ0.1 239 x3.toNatClampNeg) (σ0.1 240 x1.toNatClampNeg) (σ0.1 240 x3.toNatClampNeg) from by first | exact (if_neg (by first | omega | (simp only [Int32.le_iff_toInt_le, Int32.lt_iff_toInt_lt, ti_add, ti_sub, ti_mul, Int32.reduceToInt] at *; omega))).symm | (first | exact ((if_pos (by first | omega | (simp only [Int32.le_iff_toInt_le, Int32.lt_iff_toInt_lt, ti_add, ti_sub, ti_mul, Int32.reduceToInt] at *; omega))).trans (if_pos (by first | omega | (simp only [Int32.le_iff_toInt_le, Int32.lt_iff_toInt_lt, ti_add, ti_sub, ti_mul, Int32.reduceToInt] at *; omega)))).symm | exact ((if_pos (by first | omega | (simp only [Int32.le_iff_toInt_le, Int32.lt_iff_toInt_lt, ti_add, ti_sub, ti_mul, Int32.reduceToInt] at *; omega))).trans ((if_neg (by first | omega | (simp only [Int32.le_iff_toInt_le, Int32.lt_iff_toInt_lt, ti_add, ti_sub, ti_mul, Int32.reduceToInt] at *; omega))).trans (if_neg n64))).symm | exact ((if_pos (by first | omega | (simp only [Int32.le_iff_toInt_le, Int32.lt_iff_toInt_lt, ti_add, ti_sub, ti_mul, Int32.reduceToInt] at *; omega))).trans ((if_neg (by first | omega | (simp only [Int32.le_iff_toInt_le, Int32.lt_iff_toInt_lt, ti_add, ti_sub, ti_mul, Int32.reduceToInt] at *; omega))).trans ((if_pos n64).trans (if_neg (by first | omega | (simp only [Int32.le_iff_toInt_le, Int32.lt_iff_toInt_lt, ti_add, ti_sub, ti_mul, Int32.reduceToInt] at *; omega)))))).symm | exact ((if_pos (by first | omega | (simp only [Int32.le_iff_toInt_le, Int32.lt_iff_toInt_lt, ti_add, ti_sub, ti_mul, Int32.reduceToInt] at *; omega))).trans ((if_neg (by first | omega | (simp only [Int32.le_iff_toInt_le, Int32.lt_iff_toInt_lt, ti_add, ti_sub, ti_mul, Int32.reduceToInt] at *; omega))).trans ((if_pos n64).trans (if_pos (by first | omega | (simp only [Int32.le_iff_toInt_le, Int32.lt_iff_toInt_lt, ti_add, ti_sub, ti_mul, Int32.reduceToInt] at *; omega)))))).symm))⟩
        · have c34 := hc12
          rw [w32q] at c34
          have d34 : (σ0.1 239 x3.toNatClampNeg).toInt ≠ -1 := fun e => c34 (Int32.toInt_inj.mp e)
          refine ok_gR (v := 240) hT rfl (hR 218 36 rfl) ?_
          refine ok_aIn rfl (by first | omega | decide | (simp only [Int32.le_iff_toInt_le, Int32.lt_iff_toInt_lt, ti_add, ti_sub, ti_mul, Int32.reduceToInt] at *; omega)) (by first | omega | decide | (simp only [Int32.le_iff_toInt_le, Int32.lt_iff_toInt_lt, ti_add, ti_sub, ti_mul, Int32.reduceToInt] at *; omega)) (fun v14 ev14 => ?_)
          have w45q : v14 = σ0.1 240 x1.toNatClampNeg := by rw [ev14, hT.2 240 (by decide)]
          refine ok_gR (v := 240) hT rfl (hR 218 36 rfl) ?_
          refine ok_aIn rfl (by first | omega | decide | (simp only [Int32.le_iff_toInt_le, Int32.lt_iff_toInt_lt, ti_add, ti_sub, ti_mul, Int32.reduceToInt] at *; omega)) (by first | omega | decide | (simp only [Int32.le_iff_toInt_le, Int32.lt_iff_toInt_lt, ti_add, ti_sub, ti_mul, Int32.reduceToInt] at *; omega)) (fun v16 ev16 => ?_)
          have w51q : v16 = σ0.1 240 x3.toNatClampNeg := by rw [ev16, hT.2 240 (by decide)]
          refine ok_if (fun hc17 => ?_) (fun hc17 => ?_)
          · have n64 := hc17
            rw [w45q, w51q] at n64
            refine ok_if (fun hc18 => ?_) (fun hc18 => ?_)
            · exact ok_some ⟨hT, (show (-7 : Int32) = paV x1 x2 x3 x4 x5 (σ0.1 239 x1.toNatClampNeg) (σ0.1 239 x3.toNatClampNeg) (σ0.1 240 x1.toNatClampNeg) (σ0.1 240 x3.toNatClampNeg) from by first | exact (if_neg (by first | omega | (simp only [Int32.le_iff_toInt_le, Int32.lt_iff_toInt_lt, ti_add, ti_sub, ti_mul, Int32.reduceToInt] at *; omega))).symm | (first | exact ((if_pos (by first | omega | (simp only [Int32.le_iff_toInt_le, Int32.lt_iff_toInt_lt, ti_add, ti_sub, ti_mul, Int32.reduceToInt] at *; omega))).trans (if_pos (by first | omega | (simp only [Int32.le_iff_toInt_le, Int32.lt_iff_toInt_lt, ti_add, ti_sub, ti_mul, Int32.reduceToInt] at *; omega)))).symm | exact ((if_pos (by first | omega | (simp only [Int32.le_iff_toInt_le, Int32.lt_iff_toInt_lt, ti_add, ti_sub, ti_mul, Int32.reduceToInt] at *; omega))).trans ((if_neg (by first | omega | (simp only [Int32.le_iff_toInt_le, Int32.lt_iff_toInt_lt, ti_add, ti_sub, ti_mul, Int32.reduceToInt] at *; omega))).trans (if_neg n64))).symm | exact ((if_pos (by first | omega | (simp only [Int32.le_iff_toInt_le, Int32.lt_iff_toInt_lt, ti_add, ti_sub, ti_mul, Int32.reduceToInt] at *; omega))).trans ((if_neg (by first | omega | (simp only [Int32.le_iff_toInt_le, Int32.lt_iff_toInt_lt, ti_add, ti_sub, ti_mul, Int32.reduceToInt] at *; omega))).trans ((if_pos n64).trans (if_neg (by first | omega | (simp only [Int32.le_iff_toInt_le, Int32.lt_iff_toInt_lt, ti_add, ti_sub, ti_mul, Int32.reduceToInt] at *; omega)))))).symm | exact ((if_pos (by first | omega | (simp only [Int32.le_iff_toInt_le, Int32.lt_iff_toInt_lt, ti_add, ti_sub, ti_mul, Int32.reduceToInt] at *; omega))).trans ((if_neg (by first | omega | (simp only [Int32.le_iff_toInt_le, Int32.lt_iff_toInt_lt, ti_add, ti_sub, ti_mul, Int32.reduceToInt] at *; omega))).trans ((if_pos n64).trans (if_pos (by first | omega | (simp only [Int32.le_iff_toInt_le, Int32.lt_iff_toInt_lt, ti_add, ti_sub, ti_mul, Int32.reduceToInt] at *; omega)))))).symm))⟩
            · refine ok_if (fun hc19 => ?_) (fun hc19 => ?_)
              · exact ok_some ⟨hT, (show (-7 : Int32) = paV x1 x2 x3 x4 x5 (σ0.1 239 x1.toNatClampNeg) (σ0.1 239 x3.toNatClampNeg) (σ0.1 240 x1.toNatClampNeg) (σ0.1 240 x3.toNatClampNeg) from by first | exact (if_neg (by first | omega | (simp only [Int32.le_iff_toInt_le, Int32.lt_iff_toInt_lt, ti_add, ti_sub, ti_mul, Int32.reduceToInt] at *; omega))).symm | (first | exact ((if_pos (by first | omega | (simp only [Int32.le_iff_toInt_le, Int32.lt_iff_toInt_lt, ti_add, ti_sub, ti_mul, Int32.reduceToInt] at *; omega))).trans (if_pos (by first | omega | (simp only [Int32.le_iff_toInt_le, Int32.lt_iff_toInt_lt, ti_add, ti_sub, ti_mul, Int32.reduceToInt] at *; omega)))).symm | exact ((if_pos (by first | omega | (simp only [Int32.le_iff_toInt_le, Int32.lt_iff_toInt_lt, ti_add, ti_sub, ti_mul, Int32.reduceToInt] at *; omega))).trans ((if_neg (by first | omega | (simp only [Int32.le_iff_toInt_le, Int32.lt_iff_toInt_lt, ti_add, ti_sub, ti_mul, Int32.reduceToInt] at *; omega))).trans (if_neg n64))).symm | exact ((if_pos (by first | omega | (simp only [Int32.le_iff_toInt_le, Int32.lt_iff_toInt_lt, ti_add, ti_sub, ti_mul, Int32.reduceToInt] at *; omega))).trans ((if_neg (by first | omega | (simp only [Int32.le_iff_toInt_le, Int32.lt_iff_toInt_lt, ti_add, ti_sub, ti_mul, Int32.reduceToInt] at *; omega))).trans ((if_pos n64).trans (if_neg (by first | omega | (simp only [Int32.le_iff_toInt_le, Int32.lt_iff_toInt_lt, ti_add, ti_sub, ti_mul, Int32.reduceToInt] at *; omega)))))).symm | exact ((if_pos (by first | omega | (simp only [Int32.le_iff_toInt_le, Int32.lt_iff_toInt_lt, ti_add, ti_sub, ti_mul, Int32.reduceToInt] at *; omega))).trans ((if_neg (by first | omega | (simp only [Int32.le_iff_toInt_le, Int32.lt_iff_toInt_lt, ti_add, ti_sub, ti_mul, Int32.reduceToInt] at *; omega))).trans ((if_pos n64).trans (if_pos (by first | omega | (simp only [Int32.le_iff_toInt_le, Int32.lt_iff_toInt_lt, ti_add, ti_sub, ti_mul, Int32.reduceToInt] at *; omega)))))).symm))⟩
              · refine ok_if (fun hc20 => ?_) (fun hc20 => ?_)
                · exact ok_some ⟨hT, (show (-7 : Int32) = paV x1 x2 x3 x4 x5 (σ0.1 239 x1.toNatClampNeg) (σ0.1 239 x3.toNatClampNeg) (σ0.1 240 x1.toNatClampNeg) (σ0.1 240 x3.toNatClampNeg) from by first | exact (if_neg (by first | omega | (simp only [Int32.le_iff_toInt_le, Int32.lt_iff_toInt_lt, ti_add, ti_sub, ti_mul, Int32.reduceToInt] at *; omega))).symm | (first | exact ((if_pos (by first | omega | (simp only [Int32.le_iff_toInt_le, Int32.lt_iff_toInt_lt, ti_add, ti_sub, ti_mul, Int32.reduceToInt] at *; omega))).trans (if_pos (by first | omega | (simp only [Int32.le_iff_toInt_le, Int32.lt_iff_toInt_lt, ti_add, ti_sub, ti_mul, Int32.reduceToInt] at *; omega)))).symm | exact ((if_pos (by first | omega | (simp only [Int32.le_iff_toInt_le, Int32.lt_iff_toInt_lt, ti_add, ti_sub, ti_mul, Int32.reduceToInt] at *; omega))).trans ((if_neg (by first | omega | (simp only [Int32.le_iff_toInt_le, Int32.lt_iff_toInt_lt, ti_add, ti_sub, ti_mul, Int32.reduceToInt] at *; omega))).trans (if_neg n64))).symm | exact ((if_pos (by first | omega | (simp only [Int32.le_iff_toInt_le, Int32.lt_iff_toInt_lt, ti_add, ti_sub, ti_mul, Int32.reduceToInt] at *; omega))).trans ((if_neg (by first | omega | (simp only [Int32.le_iff_toInt_le, Int32.lt_iff_toInt_lt, ti_add, ti_sub, ti_mul, Int32.reduceToInt] at *; omega))).trans ((if_pos n64).trans (if_neg (by first | omega | (simp only [Int32.le_iff_toInt_le, Int32.lt_iff_toInt_lt, ti_add, ti_sub, ti_mul, Int32.reduceToInt] at *; omega)))))).symm | exact ((if_pos (by first | omega | (simp only [Int32.le_iff_toInt_le, Int32.lt_iff_toInt_lt, ti_add, ti_sub, ti_mul, Int32.reduceToInt] at *; omega))).trans ((if_neg (by first | omega | (simp only [Int32.le_iff_toInt_le, Int32.lt_iff_toInt_lt, ti_add, ti_sub, ti_mul, Int32.reduceToInt] at *; omega))).trans ((if_pos n64).trans (if_pos (by first | omega | (simp only [Int32.le_iff_toInt_le, Int32.lt_iff_toInt_lt, ti_add, ti_sub, ti_mul, Int32.reduceToInt] at *; omega)))))).symm))⟩
                · refine ok_gR (v := 239) hT rfl (hR 218 35 rfl) ?_
                  refine ok_aIn rfl (by first | omega | decide | (simp only [Int32.le_iff_toInt_le, Int32.lt_iff_toInt_lt, ti_add, ti_sub, ti_mul, Int32.reduceToInt] at *; omega)) (by first | omega | decide | (simp only [Int32.le_iff_toInt_le, Int32.lt_iff_toInt_lt, ti_add, ti_sub, ti_mul, Int32.reduceToInt] at *; omega)) (fun v22 ev22 => ?_)
                  have qs83 : -1 ≤ v22.toInt ∧ v22.toInt ≤ 60 := by rw [ev22, hT.2 239 (by decide)]; exact hS _
                  have w83q : v22 = σ0.1 239 x1.toNatClampNeg := by rw [ev22, hT.2 239 (by decide)]
                  refine ok_if (fun hc23 => ?_) (fun hc23 => ?_)
                  · have s1 := spans_no (by first | omega | (simp only [Int32.le_iff_toInt_le, Int32.lt_iff_toInt_lt, ti_add, ti_sub, ti_mul, Int32.reduceToInt] at *; omega)) (by first | omega | (simp only [Int32.le_iff_toInt_le, Int32.lt_iff_toInt_lt, ti_add, ti_sub, ti_mul, Int32.reduceToInt] at *; omega)) hc23
                    rw [w83q] at s1
                    exact ok_some ⟨hT, (show (-7 : Int32) = paV x1 x2 x3 x4 x5 (σ0.1 239 x1.toNatClampNeg) (σ0.1 239 x3.toNatClampNeg) (σ0.1 240 x1.toNatClampNeg) (σ0.1 240 x3.toNatClampNeg) from by first | exact (if_neg (by first | omega | (simp only [Int32.le_iff_toInt_le, Int32.lt_iff_toInt_lt, ti_add, ti_sub, ti_mul, Int32.reduceToInt] at *; omega))).symm | (first | exact ((if_pos (by first | omega | (simp only [Int32.le_iff_toInt_le, Int32.lt_iff_toInt_lt, ti_add, ti_sub, ti_mul, Int32.reduceToInt] at *; omega))).trans (if_pos (by first | omega | (simp only [Int32.le_iff_toInt_le, Int32.lt_iff_toInt_lt, ti_add, ti_sub, ti_mul, Int32.reduceToInt] at *; omega)))).symm | exact ((if_pos (by first | omega | (simp only [Int32.le_iff_toInt_le, Int32.lt_iff_toInt_lt, ti_add, ti_sub, ti_mul, Int32.reduceToInt] at *; omega))).trans ((if_neg (by first | omega | (simp only [Int32.le_iff_toInt_le, Int32.lt_iff_toInt_lt, ti_add, ti_sub, ti_mul, Int32.reduceToInt] at *; omega))).trans (if_neg n64))).symm | exact ((if_pos (by first | omega | (simp only [Int32.le_iff_toInt_le, Int32.lt_iff_toInt_lt, ti_add, ti_sub, ti_mul, Int32.reduceToInt] at *; omega))).trans ((if_neg (by first | omega | (simp only [Int32.le_iff_toInt_le, Int32.lt_iff_toInt_lt, ti_add, ti_sub, ti_mul, Int32.reduceToInt] at *; omega))).trans ((if_pos n64).trans (if_neg (by first | omega | (simp only [Int32.le_iff_toInt_le, Int32.lt_iff_toInt_lt, ti_add, ti_sub, ti_mul, Int32.reduceToInt] at *; omega)))))).symm | exact ((if_pos (by first | omega | (simp only [Int32.le_iff_toInt_le, Int32.lt_iff_toInt_lt, ti_add, ti_sub, ti_mul, Int32.reduceToInt] at *; omega))).trans ((if_neg (by first | omega | (simp only [Int32.le_iff_toInt_le, Int32.lt_iff_toInt_lt, ti_add, ti_sub, ti_mul, Int32.reduceToInt] at *; omega))).trans ((if_pos n64).trans (if_pos (by first | omega | (simp only [Int32.le_iff_toInt_le, Int32.lt_iff_toInt_lt, ti_add, ti_sub, ti_mul, Int32.reduceToInt] at *; omega)))))).symm))⟩
                  · have s1 := spans_ok (by first | omega | (simp only [Int32.le_iff_toInt_le, Int32.lt_iff_toInt_lt, ti_add, ti_sub, ti_mul, Int32.reduceToInt] at *; omega)) (by first | omega | (simp only [Int32.le_iff_toInt_le, Int32.lt_iff_toInt_lt, ti_add, ti_sub, ti_mul, Int32.reduceToInt] at *; omega)) hc23
                    have s1 := s1
                    rw [w83q] at s1
                    refine ok_gR (v := 239) hT rfl (hR 218 35 rfl) ?_
                    refine ok_aIn rfl (by first | omega | decide | (simp only [Int32.le_iff_toInt_le, Int32.lt_iff_toInt_lt, ti_add, ti_sub, ti_mul, Int32.reduceToInt] at *; omega)) (by first | omega | decide | (simp only [Int32.le_iff_toInt_le, Int32.lt_iff_toInt_lt, ti_add, ti_sub, ti_mul, Int32.reduceToInt] at *; omega)) (fun v25 ev25 => ?_)
                    have qs101 : -1 ≤ v25.toInt ∧ v25.toInt ≤ 60 := by rw [ev25, hT.2 239 (by decide)]; exact hS _
                    have w101q : v25 = σ0.1 239 x3.toNatClampNeg := by rw [ev25, hT.2 239 (by decide)]
                    refine ok_if (fun hc26 => ?_) (fun hc26 => ?_)
                    · have s2 := spans_ok (by first | omega | (simp only [Int32.le_iff_toInt_le, Int32.lt_iff_toInt_lt, ti_add, ti_sub, ti_mul, Int32.reduceToInt] at *; omega)) (by first | omega | (simp only [Int32.le_iff_toInt_le, Int32.lt_iff_toInt_lt, ti_add, ti_sub, ti_mul, Int32.reduceToInt] at *; omega)) (cmp_le hc26)
                      have s2 := s2
                      rw [w101q] at s2
                      refine ok_lp (fun t : Int32 × zS => Tr [] σ0 (t.2) ∧ (0 ≤ (t.1).toInt)) (fun t : Int32 × zS => (60 - (t.1).toInt).toNat) (fun again27 t hI ih113_27 => ?_) N _ (show Tr [] σ0 σ0 ∧ (0 ≤ (0 : Int32).toInt) from ⟨hT, (by first | omega | decide | (simp only [Int32.le_iff_toInt_le, Int32.lt_iff_toInt_lt, ti_add, ti_sub, ti_mul, Int32.reduceToInt] at *; omega))⟩) (show (60 - (0 : Int32).toInt).toNat < N from (by first | omega | decide | (simp only [Int32.le_iff_toInt_le, Int32.lt_iff_toInt_lt, ti_add, ti_sub, ti_mul, Int32.reduceToInt] at *; omega)))
                      obtain ⟨x6_27, σ27⟩ := t
                      have hI : Tr [] σ0 σ27 ∧ (0 ≤ x6_27.toInt) := hI
                      obtain ⟨hT, hI27⟩ := hI
                      rw [F_X12_paste_113.eq_1]
                      refine ok_if (fun hc28 => ?_) (fun hc28 => ?_)
                      · refine ok_lp (fun t : Int32 × zS => Tr [] σ0 (t.2) ∧ (0 ≤ (t.1).toInt)) (fun t : Int32 × zS => (60 - (t.1).toInt).toNat) (fun again29 t hI ih150_29 => ?_) N _ (show Tr [] σ0 σ27 ∧ (0 ≤ (0 : Int32).toInt) from ⟨hT, (by first | omega | decide | (simp only [Int32.le_iff_toInt_le, Int32.lt_iff_toInt_lt, ti_add, ti_sub, ti_mul, Int32.reduceToInt] at *; omega))⟩) (show (60 - (0 : Int32).toInt).toNat < N from (by first | omega | decide | (simp only [Int32.le_iff_toInt_le, Int32.lt_iff_toInt_lt, ti_add, ti_sub, ti_mul, Int32.reduceToInt] at *; omega)))
                        obtain ⟨x6_29, σ29⟩ := t
                        have hI : Tr [] σ0 σ29 ∧ (0 ≤ x6_29.toInt) := hI
                        obtain ⟨hT, hI29⟩ := hI
                        rw [F_X12_paste_150.eq_1]
                        refine ok_if (fun hc30 => ?_) (fun hc30 => ?_)
                        · exact ok_some ⟨hT, (show (0 : Int32) = paV x1 x2 x3 x4 x5 (σ0.1 239 x1.toNatClampNeg) (σ0.1 239 x3.toNatClampNeg) (σ0.1 240 x1.toNatClampNeg) (σ0.1 240 x3.toNatClampNeg) from by first | exact (if_neg (by first | omega | (simp only [Int32.le_iff_toInt_le, Int32.lt_iff_toInt_lt, ti_add, ti_sub, ti_mul, Int32.reduceToInt] at *; omega))).symm | (first | exact ((if_pos (by first | omega | (simp only [Int32.le_iff_toInt_le, Int32.lt_iff_toInt_lt, ti_add, ti_sub, ti_mul, Int32.reduceToInt] at *; omega))).trans (if_pos (by first | omega | (simp only [Int32.le_iff_toInt_le, Int32.lt_iff_toInt_lt, ti_add, ti_sub, ti_mul, Int32.reduceToInt] at *; omega)))).symm | exact ((if_pos (by first | omega | (simp only [Int32.le_iff_toInt_le, Int32.lt_iff_toInt_lt, ti_add, ti_sub, ti_mul, Int32.reduceToInt] at *; omega))).trans ((if_neg (by first | omega | (simp only [Int32.le_iff_toInt_le, Int32.lt_iff_toInt_lt, ti_add, ti_sub, ti_mul, Int32.reduceToInt] at *; omega))).trans (if_neg n64))).symm | exact ((if_pos (by first | omega | (simp only [Int32.le_iff_toInt_le, Int32.lt_iff_toInt_lt, ti_add, ti_sub, ti_mul, Int32.reduceToInt] at *; omega))).trans ((if_neg (by first | omega | (simp only [Int32.le_iff_toInt_le, Int32.lt_iff_toInt_lt, ti_add, ti_sub, ti_mul, Int32.reduceToInt] at *; omega))).trans ((if_pos n64).trans (if_neg (by first | omega | (simp only [Int32.le_iff_toInt_le, Int32.lt_iff_toInt_lt, ti_add, ti_sub, ti_mul, Int32.reduceToInt] at *; omega)))))).symm | exact ((if_pos (by first | omega | (simp only [Int32.le_iff_toInt_le, Int32.lt_iff_toInt_lt, ti_add, ti_sub, ti_mul, Int32.reduceToInt] at *; omega))).trans ((if_neg (by first | omega | (simp only [Int32.le_iff_toInt_le, Int32.lt_iff_toInt_lt, ti_add, ti_sub, ti_mul, Int32.reduceToInt] at *; omega))).trans ((if_pos n64).trans (if_pos (by first | omega | (simp only [Int32.le_iff_toInt_le, Int32.lt_iff_toInt_lt, ti_add, ti_sub, ti_mul, Int32.reduceToInt] at *; omega)))))).symm))⟩
                        · have m9 := ix60b (x := x3) (y := x4) (z := x6_29) (by first | omega | (simp only [Int32.le_iff_toInt_le, Int32.lt_iff_toInt_lt, ti_add, ti_sub, ti_mul, Int32.reduceToInt] at *; omega)) (by first | omega | (simp only [Int32.le_iff_toInt_le, Int32.lt_iff_toInt_lt, ti_add, ti_sub, ti_mul, Int32.reduceToInt] at *; omega)) (by first | omega | (simp only [Int32.le_iff_toInt_le, Int32.lt_iff_toInt_lt, ti_add, ti_sub, ti_mul, Int32.reduceToInt] at *; omega)) (by first | omega | (simp only [Int32.le_iff_toInt_le, Int32.lt_iff_toInt_lt, ti_add, ti_sub, ti_mul, Int32.reduceToInt] at *; omega)) (by first | omega | (simp only [Int32.le_iff_toInt_le, Int32.lt_iff_toInt_lt, ti_add, ti_sub, ti_mul, Int32.reduceToInt] at *; omega))
                          refine ok_gR (v := 241) hT rfl (hR 218 37 rfl) ?_
                          refine ok_gR (v := 242) hT rfl (hR 218 38 rfl) ?_
                          refine ok_aJ rfl (by first | omega | decide | (simp only [Int32.le_iff_toInt_le, Int32.lt_iff_toInt_lt, ti_add, ti_sub, ti_mul, Int32.reduceToInt] at *; omega)) (by first | omega | decide | (simp only [Int32.le_iff_toInt_le, Int32.lt_iff_toInt_lt, ti_add, ti_sub, ti_mul, Int32.reduceToInt] at *; omega)) ?_
                          generalize σ29.2.1 (242) (Int32.toNatClampNeg (x6_29)) = v33
                          refine ok_sJ hT rfl (by first | omega | decide | (simp only [Int32.le_iff_toInt_le, Int32.lt_iff_toInt_lt, ti_add, ti_sub, ti_mul, Int32.reduceToInt] at *; omega)) (by first | omega | decide | (simp only [Int32.le_iff_toInt_le, Int32.lt_iff_toInt_lt, ti_add, ti_sub, ti_mul, Int32.reduceToInt] at *; omega)) (fun σ34 eσ34 hOσ34 hT => ?_)
                          exact ih150_29 (x6_29 + 1, σ34) (show Tr [] σ0 σ34 ∧ (0 ≤ (x6_29 + 1).toInt) from ⟨hT, (by first | omega | decide | (simp only [Int32.le_iff_toInt_le, Int32.lt_iff_toInt_lt, ti_add, ti_sub, ti_mul, Int32.reduceToInt] at *; omega))⟩) (show (60 - (x6_29 + 1).toInt).toNat < (60 - x6_29.toInt).toNat from (by first | omega | decide | (simp only [Int32.le_iff_toInt_le, Int32.lt_iff_toInt_lt, ti_add, ti_sub, ti_mul, Int32.reduceToInt] at *; omega)))
                      · have m9 := ix60b (x := x1) (y := x2) (z := x6_27) (by first | omega | (simp only [Int32.le_iff_toInt_le, Int32.lt_iff_toInt_lt, ti_add, ti_sub, ti_mul, Int32.reduceToInt] at *; omega)) (by first | omega | (simp only [Int32.le_iff_toInt_le, Int32.lt_iff_toInt_lt, ti_add, ti_sub, ti_mul, Int32.reduceToInt] at *; omega)) (by first | omega | (simp only [Int32.le_iff_toInt_le, Int32.lt_iff_toInt_lt, ti_add, ti_sub, ti_mul, Int32.reduceToInt] at *; omega)) (by first | omega | (simp only [Int32.le_iff_toInt_le, Int32.lt_iff_toInt_lt, ti_add, ti_sub, ti_mul, Int32.reduceToInt] at *; omega)) (by first | omega | (simp only [Int32.le_iff_toInt_le, Int32.lt_iff_toInt_lt, ti_add, ti_sub, ti_mul, Int32.reduceToInt] at *; omega))
                        refine ok_gR (v := 242) hT rfl (hR 218 38 rfl) ?_
                        refine ok_gR (v := 241) hT rfl (hR 218 37 rfl) ?_
                        refine ok_aJ rfl (by first | omega | decide | (simp only [Int32.le_iff_toInt_le, Int32.lt_iff_toInt_lt, ti_add, ti_sub, ti_mul, Int32.reduceToInt] at *; omega)) (by first | omega | decide | (simp only [Int32.le_iff_toInt_le, Int32.lt_iff_toInt_lt, ti_add, ti_sub, ti_mul, Int32.reduceToInt] at *; omega)) ?_
                        generalize σ27.2.1 (241) (Int32.toNatClampNeg (((60 * x1) + x2) + x6_27)) = v37
                        refine ok_sJ hT rfl (by first | omega | decide | (simp only [Int32.le_iff_toInt_le, Int32.lt_iff_toInt_lt, ti_add, ti_sub, ti_mul, Int32.reduceToInt] at *; omega)) (by first | omega | decide | (simp only [Int32.le_iff_toInt_le, Int32.lt_iff_toInt_lt, ti_add, ti_sub, ti_mul, Int32.reduceToInt] at *; omega)) (fun σ38 eσ38 hOσ38 hT => ?_)
                        exact ih113_27 (x6_27 + 1, σ38) (show Tr [] σ0 σ38 ∧ (0 ≤ (x6_27 + 1).toInt) from ⟨hT, (by first | omega | decide | (simp only [Int32.le_iff_toInt_le, Int32.lt_iff_toInt_lt, ti_add, ti_sub, ti_mul, Int32.reduceToInt] at *; omega))⟩) (show (60 - (x6_27 + 1).toInt).toNat < (60 - x6_27.toInt).toNat from (by first | omega | decide | (simp only [Int32.le_iff_toInt_le, Int32.lt_iff_toInt_lt, ti_add, ti_sub, ti_mul, Int32.reduceToInt] at *; omega)))
                    · have s2 := spans_no (by first | omega | (simp only [Int32.le_iff_toInt_le, Int32.lt_iff_toInt_lt, ti_add, ti_sub, ti_mul, Int32.reduceToInt] at *; omega)) (by first | omega | (simp only [Int32.le_iff_toInt_le, Int32.lt_iff_toInt_lt, ti_add, ti_sub, ti_mul, Int32.reduceToInt] at *; omega)) (Int32.not_le.mp hc26)
                      rw [w101q] at s2
                      exact ok_some ⟨hT, (show (-7 : Int32) = paV x1 x2 x3 x4 x5 (σ0.1 239 x1.toNatClampNeg) (σ0.1 239 x3.toNatClampNeg) (σ0.1 240 x1.toNatClampNeg) (σ0.1 240 x3.toNatClampNeg) from by first | exact (if_neg (by first | omega | (simp only [Int32.le_iff_toInt_le, Int32.lt_iff_toInt_lt, ti_add, ti_sub, ti_mul, Int32.reduceToInt] at *; omega))).symm | (first | exact ((if_pos (by first | omega | (simp only [Int32.le_iff_toInt_le, Int32.lt_iff_toInt_lt, ti_add, ti_sub, ti_mul, Int32.reduceToInt] at *; omega))).trans (if_pos (by first | omega | (simp only [Int32.le_iff_toInt_le, Int32.lt_iff_toInt_lt, ti_add, ti_sub, ti_mul, Int32.reduceToInt] at *; omega)))).symm | exact ((if_pos (by first | omega | (simp only [Int32.le_iff_toInt_le, Int32.lt_iff_toInt_lt, ti_add, ti_sub, ti_mul, Int32.reduceToInt] at *; omega))).trans ((if_neg (by first | omega | (simp only [Int32.le_iff_toInt_le, Int32.lt_iff_toInt_lt, ti_add, ti_sub, ti_mul, Int32.reduceToInt] at *; omega))).trans (if_neg n64))).symm | exact ((if_pos (by first | omega | (simp only [Int32.le_iff_toInt_le, Int32.lt_iff_toInt_lt, ti_add, ti_sub, ti_mul, Int32.reduceToInt] at *; omega))).trans ((if_neg (by first | omega | (simp only [Int32.le_iff_toInt_le, Int32.lt_iff_toInt_lt, ti_add, ti_sub, ti_mul, Int32.reduceToInt] at *; omega))).trans ((if_pos n64).trans (if_neg (by first | omega | (simp only [Int32.le_iff_toInt_le, Int32.lt_iff_toInt_lt, ti_add, ti_sub, ti_mul, Int32.reduceToInt] at *; omega)))))).symm | exact ((if_pos (by first | omega | (simp only [Int32.le_iff_toInt_le, Int32.lt_iff_toInt_lt, ti_add, ti_sub, ti_mul, Int32.reduceToInt] at *; omega))).trans ((if_neg (by first | omega | (simp only [Int32.le_iff_toInt_le, Int32.lt_iff_toInt_lt, ti_add, ti_sub, ti_mul, Int32.reduceToInt] at *; omega))).trans ((if_pos n64).trans (if_pos (by first | omega | (simp only [Int32.le_iff_toInt_le, Int32.lt_iff_toInt_lt, ti_add, ti_sub, ti_mul, Int32.reduceToInt] at *; omega)))))).symm))⟩
          · have n64 := hc17
            rw [w45q, w51q] at n64
            exact ok_some ⟨hT, (show (-8 : Int32) = paV x1 x2 x3 x4 x5 (σ0.1 239 x1.toNatClampNeg) (σ0.1 239 x3.toNatClampNeg) (σ0.1 240 x1.toNatClampNeg) (σ0.1 240 x3.toNatClampNeg) from by first | exact (if_neg (by first | omega | (simp only [Int32.le_iff_toInt_le, Int32.lt_iff_toInt_lt, ti_add, ti_sub, ti_mul, Int32.reduceToInt] at *; omega))).symm | (first | exact ((if_pos (by first | omega | (simp only [Int32.le_iff_toInt_le, Int32.lt_iff_toInt_lt, ti_add, ti_sub, ti_mul, Int32.reduceToInt] at *; omega))).trans (if_pos (by first | omega | (simp only [Int32.le_iff_toInt_le, Int32.lt_iff_toInt_lt, ti_add, ti_sub, ti_mul, Int32.reduceToInt] at *; omega)))).symm | exact ((if_pos (by first | omega | (simp only [Int32.le_iff_toInt_le, Int32.lt_iff_toInt_lt, ti_add, ti_sub, ti_mul, Int32.reduceToInt] at *; omega))).trans ((if_neg (by first | omega | (simp only [Int32.le_iff_toInt_le, Int32.lt_iff_toInt_lt, ti_add, ti_sub, ti_mul, Int32.reduceToInt] at *; omega))).trans (if_neg n64))).symm | exact ((if_pos (by first | omega | (simp only [Int32.le_iff_toInt_le, Int32.lt_iff_toInt_lt, ti_add, ti_sub, ti_mul, Int32.reduceToInt] at *; omega))).trans ((if_neg (by first | omega | (simp only [Int32.le_iff_toInt_le, Int32.lt_iff_toInt_lt, ti_add, ti_sub, ti_mul, Int32.reduceToInt] at *; omega))).trans ((if_pos n64).trans (if_neg (by first | omega | (simp only [Int32.le_iff_toInt_le, Int32.lt_iff_toInt_lt, ti_add, ti_sub, ti_mul, Int32.reduceToInt] at *; omega)))))).symm | exact ((if_pos (by first | omega | (simp only [Int32.le_iff_toInt_le, Int32.lt_iff_toInt_lt, ti_add, ti_sub, ti_mul, Int32.reduceToInt] at *; omega))).trans ((if_neg (by first | omega | (simp only [Int32.le_iff_toInt_le, Int32.lt_iff_toInt_lt, ti_add, ti_sub, ti_mul, Int32.reduceToInt] at *; omega))).trans ((if_pos n64).trans (if_pos (by first | omega | (simp only [Int32.le_iff_toInt_le, Int32.lt_iff_toInt_lt, ti_add, ti_sub, ti_mul, Int32.reduceToInt] at *; omega)))))).symm))⟩
end Zq10_4
section Zq10_5
/-! ===== tokens of a text t of n bytes ===== -/
abbrev isSp (c : Int32) : Prop := c.toInt = 32 ∨ c.toInt = 10
abbrev isLt (c : Int32) : Prop := 97 ≤ c.toInt ∧ c.toInt ≤ 122
abbrev isDg (c : Int32) : Prop := 48 ≤ c.toInt ∧ c.toInt ≤ 57
/-- the first place from i on that is not p -/
def rnF (p : Int32 → Prop) [DecidablePred p] (t : Nat → Int32) (n : Nat) : Nat → Nat → Nat
  | 0, i => i
  | f + 1, i => if i < n ∧ p (t i) then rnF p t n f (i + 1) else i
def Rn (p : Int32 → Prop) [DecidablePred p] (t : Nat → Int32) (n i : Nat) : Nat := rnF p t n (n - i) i
theorem Rn_s {p : Int32 → Prop} [DecidablePred p] {t : Nat → Int32} {n i : Nat} (h : i < n) (hp : p (t i)) : Rn p t n i = Rn p t n (i + 1) := by
  unfold Rn
  rw [show n - i = (n - (i + 1)) + 1 by omega]
  exact if_pos ⟨h, hp⟩
theorem Rn_e {p : Int32 → Prop} [DecidablePred p] {t : Nat → Int32} {n i : Nat} (h : i < n → ¬ p (t i)) : Rn p t n i = i := by
  unfold Rn
  cases n - i with
  | zero => rfl
  | succ f => exact if_neg (fun q => h q.1 q.2)
theorem rnF_b {p : Int32 → Prop} [DecidablePred p] {t : Nat → Int32} {n : Nat} : ∀ f i, i ≤ rnF p t n f i ∧ (i ≤ n → rnF p t n f i ≤ n)
  | 0, i => ⟨Nat.le_refl _, id⟩
  | f + 1, i => by
    show i ≤ (if i < n ∧ p (t i) then rnF p t n f (i + 1) else i) ∧ (i ≤ n → (if i < n ∧ p (t i) then rnF p t n f (i + 1) else i) ≤ n)
    split
    · have := rnF_b (p := p) (t := t) (n := n) f (i + 1)
      omega
    · omega
theorem Rn_b {p : Int32 → Prop} [DecidablePred p] {t : Nat → Int32} {n i : Nat} (h : i ≤ n) : i ≤ Rn p t n i ∧ Rn p t n i ≤ n := ⟨(rnF_b _ _).1, (rnF_b _ _).2 h⟩
/-- the number from i on, behind a -/
def nvF (t : Nat → Int32) (n : Nat) : Nat → Nat → Nat → Nat
  | 0, _, a => a
  | f + 1, i, a => if i < n ∧ isDg (t i) then nvF t n f (i + 1) (10 * a + ((t i).toInt - 48).toNat) else a
def Nv (t : Nat → Int32) (n i a : Nat) : Nat := nvF t n (n - i) i a
theorem Nv_s {t : Nat → Int32} {n i a : Nat} (h : i < n) (hp : isDg (t i)) : Nv t n i a = Nv t n (i + 1) (10 * a + ((t i).toInt - 48).toNat) := by
  unfold Nv
  rw [show n - i = (n - (i + 1)) + 1 by omega]
  exact if_pos ⟨h, hp⟩
theorem Nv_e {t : Nat → Int32} {n i a : Nat} (h : i < n → ¬ isDg (t i)) : Nv t n i a = a := by
  unfold Nv
  cases n - i with
  | zero => rfl
  | succ f => exact if_neg (fun q => h q.1 q.2)
abbrev sgn (c : Int32) : Prop := c = 59 ∨ c = 61 ∨ c = 43 ∨ c = 45 ∨ c = 38 ∨ c = 42 ∨ c = 47 ∨ c = 37 ∨ c = 35 ∨ c = 40 ∨ c = 41 ∨ c = 123 ∨ c = 125 ∨ c = 44
/-- the token that is found from i on: where it stands, its kind (0 end, 1 word, 2 number, 3 bad, else the sign), its end -/
def tkF (t : Nat → Int32) (n i : Nat) : Nat := Rn isSp t n i
def tkK (t : Nat → Int32) (n i : Nat) : Int32 := let f := tkF t n i; if f < n then (if isLt (t f) then 1 else if isDg (t f) then 2 else if sgn (t f) then t f else 3) else 0
def tkE (t : Nat → Int32) (n i : Nat) : Nat := let f := tkF t n i; if f < n then (if isLt (t f) then Rn isLt t n f else if isDg (t f) then Rn isDg t n f else f + 1) else f
end Zq10_5
section Zq10_6
theorem see_c {n x c : Int32} {t : Nat → Int32} (hb : BYT t) (h : seeV n t x = c) (h0 : 0 ≤ c.toInt) (h1 : c.toInt ≤ 127) : x.toInt < n.toInt ∧ (t x.toNatClampNeg).toInt = c.toInt := by
  have q : ¬ n ≤ x := by
    intro q
    unfold seeV at h
    rw [if_pos q] at h
    rw [← h] at h0
    exact absurd h0 (by decide)
  have e : seeV n t x = t x.toNatClampNeg &&& 255 := if_neg q
  rw [e] at h
  rw [Int32.le_iff_toInt_le] at q
  refine ⟨by omega, ?_⟩
  have hb := hb x.toNatClampNeg
  rw [← h] at h0 h1 ⊢
  generalize t x.toNatClampNeg = v at *
  obtain ⟨k, hk, rfl⟩ : ∃ k : Nat, k < 256 ∧ v = nI k - 128 := by
    refine ⟨(v.toInt + 128).toNat, by omega, Int32.toInt_inj.mp ?_⟩
    rw [(by255 _ (by omega)).2]; omega
  have := by255 k hk
  rw [this.1] at h0 h1 ⊢
  rw [this.2] at hb ⊢
  split at h1 <;> split <;> omega
theorem see_t {n x : Int32} {t : Nat → Int32} (hb : BYT t) (h : x.toInt < n.toInt) (h0 : 0 ≤ (t x.toNatClampNeg).toInt) : seeV n t x = t x.toNatClampNeg := by
  have q : ¬ n ≤ x := by rw [Int32.le_iff_toInt_le]; omega
  have e : seeV n t x = t x.toNatClampNeg &&& 255 := if_neg q
  rw [e]
  have hb := hb x.toNatClampNeg
  generalize t x.toNatClampNeg = v at *
  obtain ⟨k, hk, rfl⟩ : ∃ k : Nat, k < 256 ∧ v = nI k - 128 := by
    refine ⟨(v.toInt + 128).toNat, by omega, Int32.toInt_inj.mp ?_⟩
    rw [(by255 _ (by omega)).2]; omega
  have := by255 k hk
  apply Int32.toInt_inj.mp
  rw [this.2] at h0 ⊢
  rw [this.1]
  split <;> omega
theorem see_p {n x : Int32} {t : Nat → Int32} (hb : BYT t) (h : x.toInt < n.toInt) : ((t x.toNatClampNeg).toInt < 0 → 128 ≤ (seeV n t x).toInt ∧ (seeV n t x).toInt ≤ 255) ∧ (0 ≤ (t x.toNatClampNeg).toInt → (seeV n t x).toInt = (t x.toNatClampNeg).toInt) := by
  have q : ¬ n ≤ x := by rw [Int32.le_iff_toInt_le]; omega
  have e : seeV n t x = t x.toNatClampNeg &&& 255 := if_neg q
  rw [e]
  have hb := hb x.toNatClampNeg
  generalize t x.toNatClampNeg = v at *
  obtain ⟨k, hk, rfl⟩ : ∃ k : Nat, k < 256 ∧ v = nI k - 128 := by
    refine ⟨(v.toInt + 128).toNat, by omega, Int32.toInt_inj.mp ?_⟩
    rw [(by255 _ (by omega)).2]; omega
  have := by255 k hk
  rw [this.2, this.1]
  split <;> omega
/-- the object's token is the text's, found from i on -/
def TKS (s : Nat → Nat → Int32) (t : Nat → Int32) (n i : Nat) : Prop := ((s 218 11).toInt = (tkF t n i : Int) ∧ (s 218 10).toInt = (tkE t n i : Int)) ∧ s 218 12 = tkK t n i ∧ (s 218 12 = 2 → (s 218 13).toInt = min 99999 (Nv t n (tkF t n i) 0 : Int))
theorem tk_0 {t : Nat → Int32} {n i f : Nat} (hf : tkF t n i = f) (h : ¬ f < n) : tkK t n i = 0 ∧ tkE t n i = f := by
  unfold tkK tkE
  simp only [hf, if_neg h, and_self]
theorem tk_1 {t : Nat → Int32} {n i f : Nat} (hf : tkF t n i = f) (h : f < n) (hl : isLt (t f)) : tkK t n i = 1 ∧ tkE t n i = Rn isLt t n f := by
  unfold tkK tkE
  simp only [hf, if_pos h, if_pos hl, and_self]
theorem tk_2 {t : Nat → Int32} {n i f : Nat} (hf : tkF t n i = f) (h : f < n) (hl : isDg (t f)) : tkK t n i = 2 ∧ tkE t n i = Rn isDg t n f := by
  have hn : ¬ isLt (t f) := fun q => by have := q.1; have := hl.2; omega
  unfold tkK tkE
  simp only [hf, if_pos h, if_neg hn, if_pos hl, and_self]
theorem tk_3 {t : Nat → Int32} {n i f : Nat} (hf : tkF t n i = f) (h : f < n) (h1 : ¬ isLt (t f)) (h2 : ¬ isDg (t f)) : tkK t n i = (if sgn (t f) then t f else 3) ∧ tkE t n i = f + 1 := by
  unfold tkK tkE
  simp only [hf, if_pos h, if_neg h1, if_neg h2, and_self]
theorem x2_X12_isSign {N : Nat} {x0 : Int32} {σ : zS} : Ok (f_X12_isSign N x0 σ) (fun r => r.2 = σ ∧ ((r.1 = 0 → ¬ sgn x0) ∧ (¬ r.1 = 0 → sgn x0))) := by
  rw [f_X12_isSign.eq_1]
  repeat' first
    | exact ok_rZ (Or.inl rfl) ⟨rfl, fun _ => by unfold sgn; simp only [*, or_self, not_false_eq_true], fun q => absurd rfl q⟩
    | refine ok_if (fun h => ok_rZ (Or.inr rfl) ⟨rfl, fun q => absurd (show (1 : Int32) = 0 from q) (by decide), fun _ => by unfold sgn; simp only [h, true_or, or_true]⟩) (fun h => ?_)
    | refine ok_if (fun h => ?_) (fun h => ok_rZ (Or.inl rfl) ⟨rfl, fun _ => by unfold sgn; simp only [*, or_self, not_false_eq_true], fun q => absurd rfl q⟩)
theorem sg_b {c : Int32} (h : sgn c) : 35 ≤ c.toInt ∧ c.toInt ≤ 125 := by
  unfold sgn at h
  rcases h with rfl | rfl | rfl | rfl | rfl | rfl | rfl | rfl | rfl | rfl | rfl | rfl | rfl | rfl <;> decide
theorem TKS_i {s : Nat → Nat → Int32} {t : Nat → Int32} {n i : Nat} {f a k v : Int32} (e11 : s 218 11 = f) (e10 : s 218 10 = a) (e12 : s 218 12 = k) (e13 : s 218 13 = v) (h1 : f.toInt = (tkF t n i : Int)) (h2 : a.toInt = (tkE t n i : Int)) (h3 : k = tkK t n i) (h4 : k = 2 → v.toInt = min 99999 (Nv t n (tkF t n i) 0 : Int)) : TKS s t n i := by
  unfold TKS
  rw [e11, e10, e12, e13]
  exact ⟨⟨h1, h2⟩, h3, h4⟩
theorem zmin5 {v c : Int32} {r : Nat} (h : v.toInt = min 99999 (r : Int)) (hc : 48 ≤ c.toInt ∧ c.toInt ≤ 57) : (zmin 99999 (10 * v + c - 48)).toInt = min 99999 ((10 * r + (c.toInt - 48).toNat : Nat) : Int) := by
  have hv : 0 ≤ v.toInt ∧ v.toInt ≤ 99999 := by omega
  have m : (10 * v).toInt = 10 * v.toInt := by
    rw [ti_mul]; simp only [Int32.reduceToInt]
    obtain ⟨w, hw⟩ : ∃ w, w = 10 * v.toInt := ⟨_, rfl⟩
    rw [← hw]; omega
  have a : (10 * v + c).toInt = 10 * v.toInt + c.toInt := by
    rw [ti_add, m]
    obtain ⟨w, hw⟩ : ∃ w, w = 10 * v.toInt := ⟨_, rfl⟩
    rw [← hw]; omega
  have b : (10 * v + c - 48).toInt = 10 * v.toInt + c.toInt - 48 := by
    rw [ti_sub, a]; simp only [Int32.reduceToInt]
    obtain ⟨w, hw⟩ : ∃ w, w = 10 * v.toInt := ⟨_, rfl⟩
    rw [← hw]; omega
  rw [ti_zmin, b]
  simp only [Int32.reduceToInt]
  split <;> omega

set_option maxHeartbeats 4000000 in
set_option maxRecDepth 100000 in
theorem s_X12_advance_x {N : Nat} (hN : 1048576 ≤ N)  {σ0 : zS}  (hR : RF σ0.2.2) (hA : (0 ≤ (σ0.1 218 10).toInt ∧ (σ0.1 218 10).toInt ≤ (σ0.1 218 9).toInt) ∧ (σ0.1 218 9).toInt ≤ 600) (hY : BYT (σ0.1 224)) : Ok (f_X12_advance N 218 σ0) (fun r => Tr [218] σ0 r.2 ∧ ((TKS r.2.1 (σ0.1 224) (σ0.1 218 9).toInt.toNat (σ0.1 218 10).toInt.toNat) ∧ (r.2.1 218 7 = σ0.1 218 7 ∧ r.2.1 218 9 = σ0.1 218 9 ∧ r.2.1 218 14 = σ0.1 218 14 ∧ r.2.1 218 15 = σ0.1 218 15 ∧ r.2.1 218 20 = σ0.1 218 20 ∧ r.2.1 218 22 = σ0.1 218 22 ∧ r.2.1 218 23 = σ0.1 218 23 ∧ r.2.1 218 24 = σ0.1 218 24 ∧ r.2.1 218 25 = σ0.1 218 25))) := by
  have hT : Tr [218] σ0 σ0 := Tr.rf
  have hA1 := hA.1
  have hA2 := hA.2
  rw [f_X12_advance.eq_1]
  refine ok_lp (fun t : zS => Tr [218] σ0 (t) ∧ (((σ0.1 218 10).toInt ≤ ((t).1 218 10).toInt ∧ ((t).1 218 10).toInt ≤ (σ0.1 218 9).toInt) ∧ Rn isSp (σ0.1 224) (σ0.1 218 9).toInt.toNat (σ0.1 218 10).toInt.toNat = Rn isSp (σ0.1 224) (σ0.1 218 9).toInt.toNat ((t).1 218 10).toInt.toNat) ∧ ((t).1 218 7 = (σ0.1 218 7)) ∧ ((t).1 218 9 = (σ0.1 218 9)) ∧ ((t).1 218 11 = (σ0.1 218 11)) ∧ ((t).1 218 12 = (σ0.1 218 12)) ∧ ((t).1 218 13 = (σ0.1 218 13)) ∧ ((t).1 218 14 = (σ0.1 218 14)) ∧ ((t).1 218 15 = (σ0.1 218 15)) ∧ ((t).1 218 20 = (σ0.1 218 20)) ∧ ((t).1 218 22 = (σ0.1 218 22)) ∧ ((t).1 218 23 = (σ0.1 218 23)) ∧ ((t).1 218 24 = (σ0.1 218 24)) ∧ ((t).1 218 25 = (σ0.1 218 25))) (fun t : zS => (600 - ((t).1 218 10).toInt).toNat) (fun again1 t hI ih0_1 => ?_) N _ (show Tr [218] σ0 σ0 ∧ (((σ0.1 218 10).toInt ≤ (σ0.1 218 10).toInt ∧ (σ0.1 218 10).toInt ≤ (σ0.1 218 9).toInt) ∧ Rn isSp (σ0.1 224) (σ0.1 218 9).toInt.toNat (σ0.1 218 10).toInt.toNat = Rn isSp (σ0.1 224) (σ0.1 218 9).toInt.toNat (σ0.1 218 10).toInt.toNat) ∧ (σ0.1 218 7 = (σ0.1 218 7)) ∧ (σ0.1 218 9 = (σ0.1 218 9)) ∧ (σ0.1 218 11 = (σ0.1 218 11)) ∧ (σ0.1 218 12 = (σ0.1 218 12)) ∧ (σ0.1 218 13 = (σ0.1 218 13)) ∧ (σ0.1 218 14 = (σ0.1 218 14)) ∧ (σ0.1 218 15 = (σ0.1 218 15)) ∧ (σ0.1 218 20 = (σ0.1 218 20)) ∧ (σ0.1 218 22 = (σ0.1 218 22)) ∧ (σ0.1 218 23 = (σ0.1 218 23)) ∧ (σ0.1 218 24 = (σ0.1 218 24)) ∧ (σ0.1 218 25 = (σ0.1 218 25)) from ⟨hT, (by exact ⟨⟨Int.le_refl _, by omega⟩, rfl⟩), rfl, rfl, rfl, rfl, rfl, rfl, rfl, rfl, rfl, rfl, rfl, rfl⟩) (show (600 - (σ0.1 218 10).toInt).toNat < N from (by (skip); first | omega | decide | (simp only [Int32.le_iff_toInt_le, Int32.lt_iff_toInt_lt, ti_add, ti_sub, ti_mul, Int32.reduceToInt] at *; omega)))
  obtain ⟨σ1, rfl⟩ : ∃ x, x = t := ⟨t, rfl⟩
  have hI : Tr [218] σ0 σ1 ∧ (((σ0.1 218 10).toInt ≤ (σ1.1 218 10).toInt ∧ (σ1.1 218 10).toInt ≤ (σ0.1 218 9).toInt) ∧ Rn isSp (σ0.1 224) (σ0.1 218 9).toInt.toNat (σ0.1 218 10).toInt.toNat = Rn isSp (σ0.1 224) (σ0.1 218 9).toInt.toNat (σ1.1 218 10).toInt.toNat) ∧ (σ1.1 218 7 = (σ0.1 218 7)) ∧ (σ1.1 218 9 = (σ0.1 218 9)) ∧ (σ1.1 218 11 = (σ0.1 218 11)) ∧ (σ1.1 218 12 = (σ0.1 218 12)) ∧ (σ1.1 218 13 = (σ0.1 218 13)) ∧ (σ1.1 218 14 = (σ0.1 218 14)) ∧ (σ1.1 218 15 = (σ0.1 218 15)) ∧ (σ1.1 218 20 = (σ0.1 218 20)) ∧ (σ1.1 218 22 = (σ0.1 218 22)) ∧ (σ1.1 218 23 = (σ0.1 218 23)) ∧ (σ1.1 218 24 = (σ0.1 218 24)) ∧ (σ1.1 218 25 = (σ0.1 218 25)) := hI
  obtain ⟨hT, hI1, g7_σ1, g9_σ1, g11_σ1, g12_σ1, g13_σ1, g14_σ1, g15_σ1, g20_σ1, g22_σ1, g23_σ1, g24_σ1, g25_σ1⟩ := hI
  rw [F_X12_advance_0.eq_1]
  have hb0 := hI1.1
  have r0 := hI1.2
  refine ok_gI rfl ?_
  refine ok_gC rfl ?_
  refine ok_zbX (Q := fun V => V = seeV (σ1.1 218 9) (σ1.1 224) (σ1.1 218 10)) (x_X12_see (hR.tr hT) (by (try simp only [g7_σ1, g9_σ1, g11_σ1, g12_σ1, g13_σ1, g14_σ1, g15_σ1, g20_σ1, g22_σ1, g23_σ1, g24_σ1, g25_σ1]); omega) (by (try simp only [g7_σ1, g9_σ1, g11_σ1, g12_σ1, g13_σ1, g14_σ1, g15_σ1, g20_σ1, g22_σ1, g23_σ1, g24_σ1, g25_σ1]); omega)) (fun v3 hqv3 => ?_)
  have hqv3 : v3 = seeV (σ1.1 218 9) (σ1.1 224) (σ1.1 218 10) := hqv3
  try simp only [g7_σ1, g9_σ1, g11_σ1, g12_σ1, g13_σ1, g14_σ1, g15_σ1, g20_σ1, g22_σ1, g23_σ1, g24_σ1, g25_σ1, hT.2 224 (by decide)] at hqv3
  have see5 := hqv3
  refine ok_if (fun hc5 => ?_) (fun hc5 => ?_)
  · have c10 := see_c hY (see5.symm.trans hc5) (by decide) (by decide)
    have s9 : ((σ1.1 218 10) + 1).toInt = (σ1.1 218 10).toInt + 1 := by rw [ti_add]; simp only [Int32.reduceToInt]; omega
    have j9 : ((σ1.1 218 10) + 1).toInt.toNat = (σ1.1 218 10).toInt.toNat + 1 := by rw [s9]; omega
    have r1 := r0.trans (Rn_s (p := isSp) (t := (σ0.1 224)) (n := (σ0.1 218 9).toInt.toNat) (i := (σ1.1 218 10).toInt.toNat) (by omega) (Or.inl c10.2))
    refine ok_gI rfl ?_
    refine ok_pI hT rfl (by decide) (fun σ7 eσ7 hOσ7 hT => ?_)
    have g7_σ7 : σ7.1 218 7 = (σ0.1 218 7) := (zI_atN eσ7 (by decide)).trans g7_σ1
    have g9_σ7 : σ7.1 218 9 = (σ0.1 218 9) := (zI_atN eσ7 (by decide)).trans g9_σ1
    have g10_σ7 : σ7.1 218 10 = ((σ1.1 218 10) + 1) := zI_atI eσ7
    have g11_σ7 : σ7.1 218 11 = (σ0.1 218 11) := (zI_atN eσ7 (by decide)).trans g11_σ1
    have g12_σ7 : σ7.1 218 12 = (σ0.1 218 12) := (zI_atN eσ7 (by decide)).trans g12_σ1
    have g13_σ7 : σ7.1 218 13 = (σ0.1 218 13) := (zI_atN eσ7 (by decide)).trans g13_σ1
    have g14_σ7 : σ7.1 218 14 = (σ0.1 218 14) := (zI_atN eσ7 (by decide)).trans g14_σ1
    have g15_σ7 : σ7.1 218 15 = (σ0.1 218 15) := (zI_atN eσ7 (by decide)).trans g15_σ1
    have g20_σ7 : σ7.1 218 20 = (σ0.1 218 20) := (zI_atN eσ7 (by decide)).trans g20_σ1
    have g22_σ7 : σ7.1 218 22 = (σ0.1 218 22) := (zI_atN eσ7 (by decide)).trans g22_σ1
    have g23_σ7 : σ7.1 218 23 = (σ0.1 218 23) := (zI_atN eσ7 (by decide)).trans g23_σ1
    have g24_σ7 : σ7.1 218 24 = (σ0.1 218 24) := (zI_atN eσ7 (by decide)).trans g24_σ1
    have g25_σ7 : σ7.1 218 25 = (σ0.1 218 25) := (zI_atN eσ7 (by decide)).trans g25_σ1
    exact ih0_1 σ7 (show Tr [218] σ0 σ7 ∧ (((σ0.1 218 10).toInt ≤ (σ7.1 218 10).toInt ∧ (σ7.1 218 10).toInt ≤ (σ0.1 218 9).toInt) ∧ Rn isSp (σ0.1 224) (σ0.1 218 9).toInt.toNat (σ0.1 218 10).toInt.toNat = Rn isSp (σ0.1 224) (σ0.1 218 9).toInt.toNat (σ7.1 218 10).toInt.toNat) ∧ (σ7.1 218 7 = (σ0.1 218 7)) ∧ (σ7.1 218 9 = (σ0.1 218 9)) ∧ (σ7.1 218 11 = (σ0.1 218 11)) ∧ (σ7.1 218 12 = (σ0.1 218 12)) ∧ (σ7.1 218 13 = (σ0.1 218 13)) ∧ (σ7.1 218 14 = (σ0.1 218 14)) ∧ (σ7.1 218 15 = (σ0.1 218 15)) ∧ (σ7.1 218 20 = (σ0.1 218 20)) ∧ (σ7.1 218 22 = (σ0.1 218 22)) ∧ (σ7.1 218 23 = (σ0.1 218 23)) ∧ (σ7.1 218 24 = (σ0.1 218 24)) ∧ (σ7.1 218 25 = (σ0.1 218 25)) from ⟨hT, (by (try simp only [g7_σ7, g9_σ7, g10_σ7, g11_σ7, g12_σ7, g13_σ7, g14_σ7, g15_σ7, g20_σ7, g22_σ7, g23_σ7, g24_σ7, g25_σ7]); exact ⟨by rw [s9]; omega, by rw [j9]; exact r1⟩), g7_σ7, g9_σ7, g11_σ7, g12_σ7, g13_σ7, g14_σ7, g15_σ7, g20_σ7, g22_σ7, g23_σ7, g24_σ7, g25_σ7⟩) (show (600 - (σ7.1 218 10).toInt).toNat < (600 - (σ1.1 218 10).toInt).toNat from (by (try simp only [g7_σ7, g9_σ7, g10_σ7, g11_σ7, g12_σ7, g13_σ7, g14_σ7, g15_σ7, g20_σ7, g22_σ7, g23_σ7, g24_σ7, g25_σ7]); rw [s9]; omega))
  · have m10 := hc5
    refine ok_gI rfl ?_
    refine ok_gC rfl ?_
    refine ok_zbX (Q := fun V => V = seeV (σ1.1 218 9) (σ1.1 224) (σ1.1 218 10)) (x_X12_see (hR.tr hT) (by (try simp only [g7_σ1, g9_σ1, g11_σ1, g12_σ1, g13_σ1, g14_σ1, g15_σ1, g20_σ1, g22_σ1, g23_σ1, g24_σ1, g25_σ1]); omega) (by (try simp only [g7_σ1, g9_σ1, g11_σ1, g12_σ1, g13_σ1, g14_σ1, g15_σ1, g20_σ1, g22_σ1, g23_σ1, g24_σ1, g25_σ1]); omega)) (fun v9 hqv9 => ?_)
    have hqv9 : v9 = seeV (σ1.1 218 9) (σ1.1 224) (σ1.1 218 10) := hqv9
    try simp only [g7_σ1, g9_σ1, g11_σ1, g12_σ1, g13_σ1, g14_σ1, g15_σ1, g20_σ1, g22_σ1, g23_σ1, g24_σ1, g25_σ1, hT.2 224 (by decide)] at hqv9
    have see18 := hqv9
    refine ok_if (fun hc11 => ?_) (fun hc11 => ?_)
    · have c10 := see_c hY (see18.symm.trans hc11) (by decide) (by decide)
      have s9 : ((σ1.1 218 10) + 1).toInt = (σ1.1 218 10).toInt + 1 := by rw [ti_add]; simp only [Int32.reduceToInt]; omega
      have j9 : ((σ1.1 218 10) + 1).toInt.toNat = (σ1.1 218 10).toInt.toNat + 1 := by rw [s9]; omega
      have r1 := r0.trans (Rn_s (p := isSp) (t := (σ0.1 224)) (n := (σ0.1 218 9).toInt.toNat) (i := (σ1.1 218 10).toInt.toNat) (by omega) (Or.inr c10.2))
      refine ok_gI rfl ?_
      refine ok_pI hT rfl (by decide) (fun σ13 eσ13 hOσ13 hT => ?_)
      have g7_σ13 : σ13.1 218 7 = (σ0.1 218 7) := (zI_atN eσ13 (by decide)).trans g7_σ1
      have g9_σ13 : σ13.1 218 9 = (σ0.1 218 9) := (zI_atN eσ13 (by decide)).trans g9_σ1
      have g10_σ13 : σ13.1 218 10 = ((σ1.1 218 10) + 1) := zI_atI eσ13
      have g11_σ13 : σ13.1 218 11 = (σ0.1 218 11) := (zI_atN eσ13 (by decide)).trans g11_σ1
      have g12_σ13 : σ13.1 218 12 = (σ0.1 218 12) := (zI_atN eσ13 (by decide)).trans g12_σ1
      have g13_σ13 : σ13.1 218 13 = (σ0.1 218 13) := (zI_atN eσ13 (by decide)).trans g13_σ1
      have g14_σ13 : σ13.1 218 14 = (σ0.1 218 14) := (zI_atN eσ13 (by decide)).trans g14_σ1
      have g15_σ13 : σ13.1 218 15 = (σ0.1 218 15) := (zI_atN eσ13 (by decide)).trans g15_σ1
      have g20_σ13 : σ13.1 218 20 = (σ0.1 218 20) := (zI_atN eσ13 (by decide)).trans g20_σ1
      have g22_σ13 : σ13.1 218 22 = (σ0.1 218 22) := (zI_atN eσ13 (by decide)).trans g22_σ1
      have g23_σ13 : σ13.1 218 23 = (σ0.1 218 23) := (zI_atN eσ13 (by decide)).trans g23_σ1
      have g24_σ13 : σ13.1 218 24 = (σ0.1 218 24) := (zI_atN eσ13 (by decide)).trans g24_σ1
      have g25_σ13 : σ13.1 218 25 = (σ0.1 218 25) := (zI_atN eσ13 (by decide)).trans g25_σ1
      exact ih0_1 σ13 (show Tr [218] σ0 σ13 ∧ (((σ0.1 218 10).toInt ≤ (σ13.1 218 10).toInt ∧ (σ13.1 218 10).toInt ≤ (σ0.1 218 9).toInt) ∧ Rn isSp (σ0.1 224) (σ0.1 218 9).toInt.toNat (σ0.1 218 10).toInt.toNat = Rn isSp (σ0.1 224) (σ0.1 218 9).toInt.toNat (σ13.1 218 10).toInt.toNat) ∧ (σ13.1 218 7 = (σ0.1 218 7)) ∧ (σ13.1 218 9 = (σ0.1 218 9)) ∧ (σ13.1 218 11 = (σ0.1 218 11)) ∧ (σ13.1 218 12 = (σ0.1 218 12)) ∧ (σ13.1 218 13 = (σ0.1 218 13)) ∧ (σ13.1 218 14 = (σ0.1 218 14)) ∧ (σ13.1 218 15 = (σ0.1 218 15)) ∧ (σ13.1 218 20 = (σ0.1 218 20)) ∧ (σ13.1 218 22 = (σ0.1 218 22)) ∧ (σ13.1 218 23 = (σ0.1 218 23)) ∧ (σ13.1 218 24 = (σ0.1 218 24)) ∧ (σ13.1 218 25 = (σ0.1 218 25)) from ⟨hT, (by (try simp only [g7_σ13, g9_σ13, g10_σ13, g11_σ13, g12_σ13, g13_σ13, g14_σ13, g15_σ13, g20_σ13, g22_σ13, g23_σ13, g24_σ13, g25_σ13]); exact ⟨by rw [s9]; omega, by rw [j9]; exact r1⟩), g7_σ13, g9_σ13, g11_σ13, g12_σ13, g13_σ13, g14_σ13, g15_σ13, g20_σ13, g22_σ13, g23_σ13, g24_σ13, g25_σ13⟩) (show (600 - (σ13.1 218 10).toInt).toNat < (600 - (σ1.1 218 10).toInt).toNat from (by (try simp only [g7_σ13, g9_σ13, g10_σ13, g11_σ13, g12_σ13, g13_σ13, g14_σ13, g15_σ13, g20_σ13, g22_σ13, g23_σ13, g24_σ13, g25_σ13]); rw [s9]; omega))
    · have m23 := hc11
      have f0 : tkF (σ0.1 224) (σ0.1 218 9).toInt.toNat (σ0.1 218 10).toInt.toNat = (σ1.1 218 10).toInt.toNat := r0.trans (Rn_e (fun hl hs => by have l9 : (σ1.1 218 10).toInt < (σ0.1 218 9).toInt := (by omega); have p9 := (see_p hY l9).2; rcases hs with q | q; exact m10 (see5.trans (Int32.toInt_inj.mp ((p9 (by show 0 ≤ ((σ0.1 224) (σ1.1 218 10).toInt.toNat).toInt; omega)).trans q))); exact m23 (see18.trans (Int32.toInt_inj.mp ((p9 (by show 0 ≤ ((σ0.1 224) (σ1.1 218 10).toInt.toNat).toInt; omega)).trans q)))))
      refine ok_gI rfl ?_
      refine ok_pI hT rfl (by decide) (fun σ15 eσ15 hOσ15 hT => ?_)
      have g7_σ15 : σ15.1 218 7 = (σ0.1 218 7) := (zI_atN eσ15 (by decide)).trans g7_σ1
      have g9_σ15 : σ15.1 218 9 = (σ0.1 218 9) := (zI_atN eσ15 (by decide)).trans g9_σ1
      have g10_σ15 : σ15.1 218 10 = (σ1.1 218 10) := zI_atN eσ15 (by decide)
      have g11_σ15 : σ15.1 218 11 = (σ1.1 218 10) := zI_atI eσ15
      have g12_σ15 : σ15.1 218 12 = (σ0.1 218 12) := (zI_atN eσ15 (by decide)).trans g12_σ1
      have g13_σ15 : σ15.1 218 13 = (σ0.1 218 13) := (zI_atN eσ15 (by decide)).trans g13_σ1
      have g14_σ15 : σ15.1 218 14 = (σ0.1 218 14) := (zI_atN eσ15 (by decide)).trans g14_σ1
      have g15_σ15 : σ15.1 218 15 = (σ0.1 218 15) := (zI_atN eσ15 (by decide)).trans g15_σ1
      have g20_σ15 : σ15.1 218 20 = (σ0.1 218 20) := (zI_atN eσ15 (by decide)).trans g20_σ1
      have g22_σ15 : σ15.1 218 22 = (σ0.1 218 22) := (zI_atN eσ15 (by decide)).trans g22_σ1
      have g23_σ15 : σ15.1 218 23 = (σ0.1 218 23) := (zI_atN eσ15 (by decide)).trans g23_σ1
      have g24_σ15 : σ15.1 218 24 = (σ0.1 218 24) := (zI_atN eσ15 (by decide)).trans g24_σ1
      have g25_σ15 : σ15.1 218 25 = (σ0.1 218 25) := (zI_atN eσ15 (by decide)).trans g25_σ1
      refine ok_gIv rfl g10_σ15 ?_
      refine ok_gC rfl ?_
      refine ok_zbX (Q := fun V => V = seeV (σ15.1 218 9) (σ15.1 224) (σ1.1 218 10)) (x_X12_see (hR.tr hT) (by (try simp only [g7_σ15, g9_σ15, g10_σ15, g11_σ15, g12_σ15, g13_σ15, g14_σ15, g15_σ15, g20_σ15, g22_σ15, g23_σ15, g24_σ15, g25_σ15]); omega) (by (try simp only [g7_σ15, g9_σ15, g10_σ15, g11_σ15, g12_σ15, g13_σ15, g14_σ15, g15_σ15, g20_σ15, g22_σ15, g23_σ15, g24_σ15, g25_σ15]); omega)) (fun v17 hqv17 => ?_)
      have hqv17 : v17 = seeV (σ15.1 218 9) (σ15.1 224) (σ1.1 218 10) := hqv17
      try simp only [g7_σ15, g9_σ15, g10_σ15, g11_σ15, g12_σ15, g13_σ15, g14_σ15, g15_σ15, g20_σ15, g22_σ15, g23_σ15, g24_σ15, g25_σ15, hT.2 224 (by decide)] at hqv17
      have see52 := hqv17
      refine ok_if (fun hc19 => ?_) (fun hc19 => ?_)
      · have e58 : ¬ (σ1.1 218 10).toInt.toNat < (σ0.1 218 9).toInt.toNat := fun hl => by have l9 : (σ1.1 218 10).toInt < (σ0.1 218 9).toInt := (by omega); have p9 := see_p hY l9; rw [← see52, hc19] at p9; have d9 : (-1 : Int32).toInt = -1 := (by decide); rw [d9] at p9; omega
        refine ok_pI hT rfl (by decide) (fun σ20 eσ20 hOσ20 hT => ?_)
        have g7_σ20 : σ20.1 218 7 = (σ0.1 218 7) := (zI_atN eσ20 (by decide)).trans g7_σ15
        have g9_σ20 : σ20.1 218 9 = (σ0.1 218 9) := (zI_atN eσ20 (by decide)).trans g9_σ15
        have g10_σ20 : σ20.1 218 10 = (σ1.1 218 10) := (zI_atN eσ20 (by decide)).trans g10_σ15
        have g11_σ20 : σ20.1 218 11 = (σ1.1 218 10) := (zI_atN eσ20 (by decide)).trans g11_σ15
        have g12_σ20 : σ20.1 218 12 = (0 : Int32) := zI_atI eσ20
        have g13_σ20 : σ20.1 218 13 = (σ0.1 218 13) := (zI_atN eσ20 (by decide)).trans g13_σ15
        have g14_σ20 : σ20.1 218 14 = (σ0.1 218 14) := (zI_atN eσ20 (by decide)).trans g14_σ15
        have g15_σ20 : σ20.1 218 15 = (σ0.1 218 15) := (zI_atN eσ20 (by decide)).trans g15_σ15
        have g20_σ20 : σ20.1 218 20 = (σ0.1 218 20) := (zI_atN eσ20 (by decide)).trans g20_σ15
        have g22_σ20 : σ20.1 218 22 = (σ0.1 218 22) := (zI_atN eσ20 (by decide)).trans g22_σ15
        have g23_σ20 : σ20.1 218 23 = (σ0.1 218 23) := (zI_atN eσ20 (by decide)).trans g23_σ15
        have g24_σ20 : σ20.1 218 24 = (σ0.1 218 24) := (zI_atN eσ20 (by decide)).trans g24_σ15
        have g25_σ20 : σ20.1 218 25 = (σ0.1 218 25) := (zI_atN eσ20 (by decide)).trans g25_σ15
        exact ok_some ⟨hT, (show (TKS σ20.1 (σ0.1 224) (σ0.1 218 9).toInt.toNat (σ0.1 218 10).toInt.toNat) ∧ (σ20.1 218 7 = σ0.1 218 7 ∧ σ20.1 218 9 = σ0.1 218 9 ∧ σ20.1 218 14 = σ0.1 218 14 ∧ σ20.1 218 15 = σ0.1 218 15 ∧ σ20.1 218 20 = σ0.1 218 20 ∧ σ20.1 218 22 = σ0.1 218 22 ∧ σ20.1 218 23 = σ0.1 218 23 ∧ σ20.1 218 24 = σ0.1 218 24 ∧ σ20.1 218 25 = σ0.1 218 25) from ⟨by first | exact TKS_i g11_σ20 g10_σ20 g12_σ20 g13_σ20 (by rw [f0]; omega) (by rw [(tk_0 f0 e58).2]; omega) (tk_0 f0 e58).1.symm (fun q => absurd q (by decide)) | exact TKS_i g11_σ20 g10_σ20 g12_σ20 g13_σ20 (by rw [f0]; omega) (by rw [(tk_1 f0 (by omega) l80).2, r84]; omega) (tk_1 f0 (by omega) l80).1.symm (fun q => absurd q (by decide)) | exact TKS_i g11_σ20 g10_σ20 g12_σ20 g13_σ20 (by rw [f0]; omega) (by rw [(tk_2 f0 (by omega) l136).2, r84]; omega) (tk_2 f0 (by omega) l136).1.symm (fun _ => by rw [f0, ← n84]; exact v9r) | exact TKS_i g11_σ20 g10_σ20 g12_σ20 g13_σ20 (by rw [f0]; omega) (by rw [(tk_3 f0 (by omega) n80 n136).2, s9]; omega) (by rw [(tk_3 f0 (by omega) n80 n136).1, q219, if_pos (q219 ▸ s219)]) (fun q => absurd (congrArg Int32.toInt q) (by rw [show (2 : Int32).toInt = 2 by decide]; omega)) | exact TKS_i g11_σ20 g10_σ20 g12_σ20 g13_σ20 (by rw [f0]; omega) (by rw [(tk_3 f0 (by omega) n80 n136).2, s9]; omega) (by rw [(tk_3 f0 (by omega) n80 n136).1, if_neg s219]) (fun q => absurd q (by decide)), g7_σ20, g9_σ20, g14_σ20, g15_σ20, g20_σ20, g22_σ20, g23_σ20, g24_σ20, g25_σ20⟩)⟩
      · have lt52 := see_lt see52.symm hc19
        have p52 := see_p hY lt52
        rw [← see52] at p52
        have s9 : ((σ1.1 218 10) + 1).toInt = (σ1.1 218 10).toInt + 1 := by rw [ti_add]; simp only [Int32.reduceToInt]; omega
        have j9 : ((σ1.1 218 10) + 1).toInt.toNat = (σ1.1 218 10).toInt.toNat + 1 := by rw [s9]; omega
        have q52 : (σ0.1 224 (σ1.1 218 10).toNatClampNeg) = σ0.1 224 (σ1.1 218 10).toInt.toNat := rfl
        rw [q52] at p52
        refine ok_zbX (Q := fun V => (V = 0 → ¬ ((97 : Int64).toInt ≤ (Int32.toInt64 v17).toInt ∧ (Int32.toInt64 v17).toInt ≤ (122 : Int64).toInt)) ∧ (¬ V = 0 → (97 : Int64).toInt ≤ (Int32.toInt64 v17).toInt ∧ (Int32.toInt64 v17).toInt ≤ (122 : Int64).toInt)) (xi_X12_in) (fun v21 hqv21 => ?_)
        have hqv21 : (v21 = 0 → ¬ ((97 : Int64).toInt ≤ (Int32.toInt64 v17).toInt ∧ (Int32.toInt64 v17).toInt ≤ (122 : Int64).toInt)) ∧ (¬ v21 = 0 → (97 : Int64).toInt ≤ (Int32.toInt64 v17).toInt ∧ (Int32.toInt64 v17).toInt ≤ (122 : Int64).toInt) := hqv21
        try simp only [g7_σ15, g9_σ15, g10_σ15, g11_σ15, g12_σ15, g13_σ15, g14_σ15, g15_σ15, g20_σ15, g22_σ15, g23_σ15, g24_σ15, g25_σ15, hT.2 224 (by decide)] at hqv21
        simp only [i64_of, Int64.reduceToInt] at hqv21
        refine ok_if (fun hc23 => ?_) (fun hc23 => ?_)
        · have qhc23 := hqv21.1 hc23
          have w80 := qhc23
          have n80 : ¬ isLt ((σ0.1 224) (σ1.1 218 10).toInt.toNat) := by unfold isLt; omega
          refine ok_zbX (Q := fun V => (V = 0 → ¬ ((48 : Int64).toInt ≤ (Int32.toInt64 v17).toInt ∧ (Int32.toInt64 v17).toInt ≤ (57 : Int64).toInt)) ∧ (¬ V = 0 → (48 : Int64).toInt ≤ (Int32.toInt64 v17).toInt ∧ (Int32.toInt64 v17).toInt ≤ (57 : Int64).toInt)) (xi_X12_in) (fun v24 hqv24 => ?_)
          have hqv24 : (v24 = 0 → ¬ ((48 : Int64).toInt ≤ (Int32.toInt64 v17).toInt ∧ (Int32.toInt64 v17).toInt ≤ (57 : Int64).toInt)) ∧ (¬ v24 = 0 → (48 : Int64).toInt ≤ (Int32.toInt64 v17).toInt ∧ (Int32.toInt64 v17).toInt ≤ (57 : Int64).toInt) := hqv24
          try simp only [g7_σ15, g9_σ15, g10_σ15, g11_σ15, g12_σ15, g13_σ15, g14_σ15, g15_σ15, g20_σ15, g22_σ15, g23_σ15, g24_σ15, g25_σ15, hT.2 224 (by decide)] at hqv24
          simp only [i64_of, Int64.reduceToInt] at hqv24
          refine ok_if (fun hc26 => ?_) (fun hc26 => ?_)
          · have qhc26 := hqv24.1 hc26
            have w136 := qhc26
            have n136 : ¬ isDg ((σ0.1 224) (σ1.1 218 10).toInt.toNat) := by unfold isDg; omega
            refine ok_zbX (Q := fun V => (V = 0 → ¬ sgn v17) ∧ (¬ V = 0 → sgn v17)) (x2_X12_isSign) (fun v27 hqv27 => ?_)
            have hqv27 : (v27 = 0 → ¬ sgn v17) ∧ (¬ v27 = 0 → sgn v17) := hqv27
            try simp only [g7_σ15, g9_σ15, g10_σ15, g11_σ15, g12_σ15, g13_σ15, g14_σ15, g15_σ15, g20_σ15, g22_σ15, g23_σ15, g24_σ15, g25_σ15, hT.2 224 (by decide)] at hqv27
            refine ok_if (fun hc29 => ?_) (fun hc29 => ?_)
            · have qhc29 := hqv27.1 hc29
              have s219 : ¬ sgn (σ0.1 224 (σ1.1 218 10).toInt.toNat) := fun q => qhc29 ((show v17 = σ0.1 224 (σ1.1 218 10).toInt.toNat from Int32.toInt_inj.mp (p52.2 (by have b9 := sg_b q; omega))) ▸ q)
              refine ok_pI hT rfl (by decide) (fun σ30 eσ30 hOσ30 hT => ?_)
              have g7_σ30 : σ30.1 218 7 = (σ0.1 218 7) := (zI_atN eσ30 (by decide)).trans g7_σ15
              have g9_σ30 : σ30.1 218 9 = (σ0.1 218 9) := (zI_atN eσ30 (by decide)).trans g9_σ15
              have g10_σ30 : σ30.1 218 10 = (σ1.1 218 10) := (zI_atN eσ30 (by decide)).trans g10_σ15
              have g11_σ30 : σ30.1 218 11 = (σ1.1 218 10) := (zI_atN eσ30 (by decide)).trans g11_σ15
              have g12_σ30 : σ30.1 218 12 = (3 : Int32) := zI_atI eσ30
              have g13_σ30 : σ30.1 218 13 = (σ0.1 218 13) := (zI_atN eσ30 (by decide)).trans g13_σ15
              have g14_σ30 : σ30.1 218 14 = (σ0.1 218 14) := (zI_atN eσ30 (by decide)).trans g14_σ15
              have g15_σ30 : σ30.1 218 15 = (σ0.1 218 15) := (zI_atN eσ30 (by decide)).trans g15_σ15
              have g20_σ30 : σ30.1 218 20 = (σ0.1 218 20) := (zI_atN eσ30 (by decide)).trans g20_σ15
              have g22_σ30 : σ30.1 218 22 = (σ0.1 218 22) := (zI_atN eσ30 (by decide)).trans g22_σ15
              have g23_σ30 : σ30.1 218 23 = (σ0.1 218 23) := (zI_atN eσ30 (by decide)).trans g23_σ15
              have g24_σ30 : σ30.1 218 24 = (σ0.1 218 24) := (zI_atN eσ30 (by decide)).trans g24_σ15
              have g25_σ30 : σ30.1 218 25 = (σ0.1 218 25) := (zI_atN eσ30 (by decide)).trans g25_σ15
              refine ok_gIv rfl g10_σ30 ?_
              refine ok_pI hT rfl (by decide) (fun σ32 eσ32 hOσ32 hT => ?_)
              have g7_σ32 : σ32.1 218 7 = (σ0.1 218 7) := (zI_atN eσ32 (by decide)).trans g7_σ30
              have g9_σ32 : σ32.1 218 9 = (σ0.1 218 9) := (zI_atN eσ32 (by decide)).trans g9_σ30
              have g10_σ32 : σ32.1 218 10 = ((σ1.1 218 10) + 1) := zI_atI eσ32
              have g11_σ32 : σ32.1 218 11 = (σ1.1 218 10) := (zI_atN eσ32 (by decide)).trans g11_σ30
              have g12_σ32 : σ32.1 218 12 = (3 : Int32) := (zI_atN eσ32 (by decide)).trans g12_σ30
              have g13_σ32 : σ32.1 218 13 = (σ0.1 218 13) := (zI_atN eσ32 (by decide)).trans g13_σ30
              have g14_σ32 : σ32.1 218 14 = (σ0.1 218 14) := (zI_atN eσ32 (by decide)).trans g14_σ30
              have g15_σ32 : σ32.1 218 15 = (σ0.1 218 15) := (zI_atN eσ32 (by decide)).trans g15_σ30
              have g20_σ32 : σ32.1 218 20 = (σ0.1 218 20) := (zI_atN eσ32 (by decide)).trans g20_σ30
              have g22_σ32 : σ32.1 218 22 = (σ0.1 218 22) := (zI_atN eσ32 (by decide)).trans g22_σ30
              have g23_σ32 : σ32.1 218 23 = (σ0.1 218 23) := (zI_atN eσ32 (by decide)).trans g23_σ30
              have g24_σ32 : σ32.1 218 24 = (σ0.1 218 24) := (zI_atN eσ32 (by decide)).trans g24_σ30
              have g25_σ32 : σ32.1 218 25 = (σ0.1 218 25) := (zI_atN eσ32 (by decide)).trans g25_σ30
              exact ok_some ⟨hT, (show (TKS σ32.1 (σ0.1 224) (σ0.1 218 9).toInt.toNat (σ0.1 218 10).toInt.toNat) ∧ (σ32.1 218 7 = σ0.1 218 7 ∧ σ32.1 218 9 = σ0.1 218 9 ∧ σ32.1 218 14 = σ0.1 218 14 ∧ σ32.1 218 15 = σ0.1 218 15 ∧ σ32.1 218 20 = σ0.1 218 20 ∧ σ32.1 218 22 = σ0.1 218 22 ∧ σ32.1 218 23 = σ0.1 218 23 ∧ σ32.1 218 24 = σ0.1 218 24 ∧ σ32.1 218 25 = σ0.1 218 25) from ⟨by first | exact TKS_i g11_σ32 g10_σ32 g12_σ32 g13_σ32 (by rw [f0]; omega) (by rw [(tk_0 f0 e58).2]; omega) (tk_0 f0 e58).1.symm (fun q => absurd q (by decide)) | exact TKS_i g11_σ32 g10_σ32 g12_σ32 g13_σ32 (by rw [f0]; omega) (by rw [(tk_1 f0 (by omega) l80).2, r84]; omega) (tk_1 f0 (by omega) l80).1.symm (fun q => absurd q (by decide)) | exact TKS_i g11_σ32 g10_σ32 g12_σ32 g13_σ32 (by rw [f0]; omega) (by rw [(tk_2 f0 (by omega) l136).2, r84]; omega) (tk_2 f0 (by omega) l136).1.symm (fun _ => by rw [f0, ← n84]; exact v9r) | exact TKS_i g11_σ32 g10_σ32 g12_σ32 g13_σ32 (by rw [f0]; omega) (by rw [(tk_3 f0 (by omega) n80 n136).2, s9]; omega) (by rw [(tk_3 f0 (by omega) n80 n136).1, q219, if_pos (q219 ▸ s219)]) (fun q => absurd (congrArg Int32.toInt q) (by rw [show (2 : Int32).toInt = 2 by decide]; omega)) | exact TKS_i g11_σ32 g10_σ32 g12_σ32 g13_σ32 (by rw [f0]; omega) (by rw [(tk_3 f0 (by omega) n80 n136).2, s9]; omega) (by rw [(tk_3 f0 (by omega) n80 n136).1, if_neg s219]) (fun q => absurd q (by decide)), g7_σ32, g9_σ32, g14_σ32, g15_σ32, g20_σ32, g22_σ32, g23_σ32, g24_σ32, g25_σ32⟩)⟩
            · have qhc29 := hqv27.2 hc29
              have k219 := sg_b qhc29
              have s219 := qhc29
              have q219 : v17 = σ0.1 224 (σ1.1 218 10).toInt.toNat := Int32.toInt_inj.mp (p52.2 (by omega))
              refine ok_pI hT rfl (by decide) (fun σ33 eσ33 hOσ33 hT => ?_)
              have g7_σ33 : σ33.1 218 7 = (σ0.1 218 7) := (zI_atN eσ33 (by decide)).trans g7_σ15
              have g9_σ33 : σ33.1 218 9 = (σ0.1 218 9) := (zI_atN eσ33 (by decide)).trans g9_σ15
              have g10_σ33 : σ33.1 218 10 = (σ1.1 218 10) := (zI_atN eσ33 (by decide)).trans g10_σ15
              have g11_σ33 : σ33.1 218 11 = (σ1.1 218 10) := (zI_atN eσ33 (by decide)).trans g11_σ15
              have g12_σ33 : σ33.1 218 12 = (v17) := zI_atI eσ33
              have g13_σ33 : σ33.1 218 13 = (σ0.1 218 13) := (zI_atN eσ33 (by decide)).trans g13_σ15
              have g14_σ33 : σ33.1 218 14 = (σ0.1 218 14) := (zI_atN eσ33 (by decide)).trans g14_σ15
              have g15_σ33 : σ33.1 218 15 = (σ0.1 218 15) := (zI_atN eσ33 (by decide)).trans g15_σ15
              have g20_σ33 : σ33.1 218 20 = (σ0.1 218 20) := (zI_atN eσ33 (by decide)).trans g20_σ15
              have g22_σ33 : σ33.1 218 22 = (σ0.1 218 22) := (zI_atN eσ33 (by decide)).trans g22_σ15
              have g23_σ33 : σ33.1 218 23 = (σ0.1 218 23) := (zI_atN eσ33 (by decide)).trans g23_σ15
              have g24_σ33 : σ33.1 218 24 = (σ0.1 218 24) := (zI_atN eσ33 (by decide)).trans g24_σ15
              have g25_σ33 : σ33.1 218 25 = (σ0.1 218 25) := (zI_atN eσ33 (by decide)).trans g25_σ15
              refine ok_gIv rfl g10_σ33 ?_
              refine ok_pI hT rfl (by decide) (fun σ35 eσ35 hOσ35 hT => ?_)
              have g7_σ35 : σ35.1 218 7 = (σ0.1 218 7) := (zI_atN eσ35 (by decide)).trans g7_σ33
              have g9_σ35 : σ35.1 218 9 = (σ0.1 218 9) := (zI_atN eσ35 (by decide)).trans g9_σ33
              have g10_σ35 : σ35.1 218 10 = ((σ1.1 218 10) + 1) := zI_atI eσ35
              have g11_σ35 : σ35.1 218 11 = (σ1.1 218 10) := (zI_atN eσ35 (by decide)).trans g11_σ33
              have g12_σ35 : σ35.1 218 12 = (v17) := (zI_atN eσ35 (by decide)).trans g12_σ33
              have g13_σ35 : σ35.1 218 13 = (σ0.1 218 13) := (zI_atN eσ35 (by decide)).trans g13_σ33
              have g14_σ35 : σ35.1 218 14 = (σ0.1 218 14) := (zI_atN eσ35 (by decide)).trans g14_σ33
              have g15_σ35 : σ35.1 218 15 = (σ0.1 218 15) := (zI_atN eσ35 (by decide)).trans g15_σ33
              have g20_σ35 : σ35.1 218 20 = (σ0.1 218 20) := (zI_atN eσ35 (by decide)).trans g20_σ33
              have g22_σ35 : σ35.1 218 22 = (σ0.1 218 22) := (zI_atN eσ35 (by decide)).trans g22_σ33
              have g23_σ35 : σ35.1 218 23 = (σ0.1 218 23) := (zI_atN eσ35 (by decide)).trans g23_σ33
              have g24_σ35 : σ35.1 218 24 = (σ0.1 218 24) := (zI_atN eσ35 (by decide)).trans g24_σ33
              have g25_σ35 : σ35.1 218 25 = (σ0.1 218 25) := (zI_atN eσ35 (by decide)).trans g25_σ33
              exact ok_some ⟨hT, (show (TKS σ35.1 (σ0.1 224) (σ0.1 218 9).toInt.toNat (σ0.1 218 10).toInt.toNat) ∧ (σ35.1 218 7 = σ0.1 218 7 ∧ σ35.1 218 9 = σ0.1 218 9 ∧ σ35.1 218 14 = σ0.1 218 14 ∧ σ35.1 218 15 = σ0.1 218 15 ∧ σ35.1 218 20 = σ0.1 218 20 ∧ σ35.1 218 22 = σ0.1 218 22 ∧ σ35.1 218 23 = σ0.1 218 23 ∧ σ35.1 218 24 = σ0.1 218 24 ∧ σ35.1 218 25 = σ0.1 218 25) from ⟨by first | exact TKS_i g11_σ35 g10_σ35 g12_σ35 g13_σ35 (by rw [f0]; omega) (by rw [(tk_0 f0 e58).2]; omega) (tk_0 f0 e58).1.symm (fun q => absurd q (by decide)) | exact TKS_i g11_σ35 g10_σ35 g12_σ35 g13_σ35 (by rw [f0]; omega) (by rw [(tk_1 f0 (by omega) l80).2, r84]; omega) (tk_1 f0 (by omega) l80).1.symm (fun q => absurd q (by decide)) | exact TKS_i g11_σ35 g10_σ35 g12_σ35 g13_σ35 (by rw [f0]; omega) (by rw [(tk_2 f0 (by omega) l136).2, r84]; omega) (tk_2 f0 (by omega) l136).1.symm (fun _ => by rw [f0, ← n84]; exact v9r) | exact TKS_i g11_σ35 g10_σ35 g12_σ35 g13_σ35 (by rw [f0]; omega) (by rw [(tk_3 f0 (by omega) n80 n136).2, s9]; omega) (by rw [(tk_3 f0 (by omega) n80 n136).1, q219, if_pos (q219 ▸ s219)]) (fun q => absurd (congrArg Int32.toInt q) (by rw [show (2 : Int32).toInt = 2 by decide]; omega)) | exact TKS_i g11_σ35 g10_σ35 g12_σ35 g13_σ35 (by rw [f0]; omega) (by rw [(tk_3 f0 (by omega) n80 n136).2, s9]; omega) (by rw [(tk_3 f0 (by omega) n80 n136).1, if_neg s219]) (fun q => absurd q (by decide)), g7_σ35, g9_σ35, g14_σ35, g15_σ35, g20_σ35, g22_σ35, g23_σ35, g24_σ35, g25_σ35⟩)⟩
          · have qhc26 := hqv24.2 hc26
            have w136 := qhc26
            have l136 : isDg ((σ0.1 224) (σ1.1 218 10).toInt.toNat) := by unfold isDg; omega
            refine ok_pI hT rfl (by decide) (fun σ36 eσ36 hOσ36 hT => ?_)
            have g7_σ36 : σ36.1 218 7 = (σ0.1 218 7) := (zI_atN eσ36 (by decide)).trans g7_σ15
            have g9_σ36 : σ36.1 218 9 = (σ0.1 218 9) := (zI_atN eσ36 (by decide)).trans g9_σ15
            have g10_σ36 : σ36.1 218 10 = (σ1.1 218 10) := (zI_atN eσ36 (by decide)).trans g10_σ15
            have g11_σ36 : σ36.1 218 11 = (σ1.1 218 10) := (zI_atN eσ36 (by decide)).trans g11_σ15
            have g12_σ36 : σ36.1 218 12 = (σ0.1 218 12) := (zI_atN eσ36 (by decide)).trans g12_σ15
            have g13_σ36 : σ36.1 218 13 = (0 : Int32) := zI_atI eσ36
            have g14_σ36 : σ36.1 218 14 = (σ0.1 218 14) := (zI_atN eσ36 (by decide)).trans g14_σ15
            have g15_σ36 : σ36.1 218 15 = (σ0.1 218 15) := (zI_atN eσ36 (by decide)).trans g15_σ15
            have g20_σ36 : σ36.1 218 20 = (σ0.1 218 20) := (zI_atN eσ36 (by decide)).trans g20_σ15
            have g22_σ36 : σ36.1 218 22 = (σ0.1 218 22) := (zI_atN eσ36 (by decide)).trans g22_σ15
            have g23_σ36 : σ36.1 218 23 = (σ0.1 218 23) := (zI_atN eσ36 (by decide)).trans g23_σ15
            have g24_σ36 : σ36.1 218 24 = (σ0.1 218 24) := (zI_atN eσ36 (by decide)).trans g24_σ15
            have g25_σ36 : σ36.1 218 25 = (σ0.1 218 25) := (zI_atN eσ36 (by decide)).trans g25_σ15
            refine ok_lp (fun t : zS => Tr [218] σ0 (t) ∧ (((((t).1 218 11).toInt ≤ ((t).1 218 10).toInt ∧ ((t).1 218 10).toInt ≤ (σ0.1 218 9).toInt) ∧ Rn isDg (σ0.1 224) (σ0.1 218 9).toInt.toNat ((t).1 218 11).toInt.toNat = Rn isDg (σ0.1 224) (σ0.1 218 9).toInt.toNat ((t).1 218 10).toInt.toNat) ∧ ∃ r : Nat, ((t).1 218 13).toInt = min 99999 (r : Int) ∧ Nv (σ0.1 224) (σ0.1 218 9).toInt.toNat ((t).1 218 10).toInt.toNat r = Nv (σ0.1 224) (σ0.1 218 9).toInt.toNat ((t).1 218 11).toInt.toNat 0) ∧ ((t).1 218 7 = (σ0.1 218 7)) ∧ ((t).1 218 9 = (σ0.1 218 9)) ∧ ((t).1 218 11 = (σ1.1 218 10)) ∧ ((t).1 218 12 = (σ0.1 218 12)) ∧ ((t).1 218 14 = (σ0.1 218 14)) ∧ ((t).1 218 15 = (σ0.1 218 15)) ∧ ((t).1 218 20 = (σ0.1 218 20)) ∧ ((t).1 218 22 = (σ0.1 218 22)) ∧ ((t).1 218 23 = (σ0.1 218 23)) ∧ ((t).1 218 24 = (σ0.1 218 24)) ∧ ((t).1 218 25 = (σ0.1 218 25))) (fun t : zS => (600 - ((t).1 218 10).toInt).toNat) (fun again37 t hI ih144_37 => ?_) N _ (show Tr [218] σ0 σ36 ∧ ((((σ36.1 218 11).toInt ≤ (σ36.1 218 10).toInt ∧ (σ36.1 218 10).toInt ≤ (σ0.1 218 9).toInt) ∧ Rn isDg (σ0.1 224) (σ0.1 218 9).toInt.toNat (σ36.1 218 11).toInt.toNat = Rn isDg (σ0.1 224) (σ0.1 218 9).toInt.toNat (σ36.1 218 10).toInt.toNat) ∧ ∃ r : Nat, (σ36.1 218 13).toInt = min 99999 (r : Int) ∧ Nv (σ0.1 224) (σ0.1 218 9).toInt.toNat (σ36.1 218 10).toInt.toNat r = Nv (σ0.1 224) (σ0.1 218 9).toInt.toNat (σ36.1 218 11).toInt.toNat 0) ∧ (σ36.1 218 7 = (σ0.1 218 7)) ∧ (σ36.1 218 9 = (σ0.1 218 9)) ∧ (σ36.1 218 11 = (σ1.1 218 10)) ∧ (σ36.1 218 12 = (σ0.1 218 12)) ∧ (σ36.1 218 14 = (σ0.1 218 14)) ∧ (σ36.1 218 15 = (σ0.1 218 15)) ∧ (σ36.1 218 20 = (σ0.1 218 20)) ∧ (σ36.1 218 22 = (σ0.1 218 22)) ∧ (σ36.1 218 23 = (σ0.1 218 23)) ∧ (σ36.1 218 24 = (σ0.1 218 24)) ∧ (σ36.1 218 25 = (σ0.1 218 25)) from ⟨hT, (by (try simp only [g7_σ36, g9_σ36, g10_σ36, g11_σ36, g12_σ36, g13_σ36, g14_σ36, g15_σ36, g20_σ36, g22_σ36, g23_σ36, g24_σ36, g25_σ36]); first | exact ⟨⟨⟨by omega, by omega⟩, trivial⟩, 0, by decide, rfl⟩ | exact ⟨⟨⟨by omega, by omega⟩, rfl⟩, 0, by decide, rfl⟩), g7_σ36, g9_σ36, g11_σ36, g12_σ36, g14_σ36, g15_σ36, g20_σ36, g22_σ36, g23_σ36, g24_σ36, g25_σ36⟩) (show (600 - (σ36.1 218 10).toInt).toNat < N from (by ((try simp only [g7_σ36, g9_σ36, g10_σ36, g11_σ36, g12_σ36, g13_σ36, g14_σ36, g15_σ36, g20_σ36, g22_σ36, g23_σ36, g24_σ36, g25_σ36])); first | omega | decide | (simp only [Int32.le_iff_toInt_le, Int32.lt_iff_toInt_lt, ti_add, ti_sub, ti_mul, Int32.reduceToInt] at *; omega)))
            obtain ⟨σ37, rfl⟩ : ∃ x, x = t := ⟨t, rfl⟩
            have hI : Tr [218] σ0 σ37 ∧ ((((σ37.1 218 11).toInt ≤ (σ37.1 218 10).toInt ∧ (σ37.1 218 10).toInt ≤ (σ0.1 218 9).toInt) ∧ Rn isDg (σ0.1 224) (σ0.1 218 9).toInt.toNat (σ37.1 218 11).toInt.toNat = Rn isDg (σ0.1 224) (σ0.1 218 9).toInt.toNat (σ37.1 218 10).toInt.toNat) ∧ ∃ r : Nat, (σ37.1 218 13).toInt = min 99999 (r : Int) ∧ Nv (σ0.1 224) (σ0.1 218 9).toInt.toNat (σ37.1 218 10).toInt.toNat r = Nv (σ0.1 224) (σ0.1 218 9).toInt.toNat (σ37.1 218 11).toInt.toNat 0) ∧ (σ37.1 218 7 = (σ0.1 218 7)) ∧ (σ37.1 218 9 = (σ0.1 218 9)) ∧ (σ37.1 218 11 = (σ1.1 218 10)) ∧ (σ37.1 218 12 = (σ0.1 218 12)) ∧ (σ37.1 218 14 = (σ0.1 218 14)) ∧ (σ37.1 218 15 = (σ0.1 218 15)) ∧ (σ37.1 218 20 = (σ0.1 218 20)) ∧ (σ37.1 218 22 = (σ0.1 218 22)) ∧ (σ37.1 218 23 = (σ0.1 218 23)) ∧ (σ37.1 218 24 = (σ0.1 218 24)) ∧ (σ37.1 218 25 = (σ0.1 218 25)) := hI
            obtain ⟨hT, hI37, g7_σ37, g9_σ37, g11_σ37, g12_σ37, g14_σ37, g15_σ37, g20_σ37, g22_σ37, g23_σ37, g24_σ37, g25_σ37⟩ := hI
            rw [F_X12_advance_144.eq_1]
            rw [g11_σ37] at hI37
            have hb83 := hI37.1.1
            have r83 := hI37.1.2
            obtain ⟨r9, v9r, n9r⟩ := hI37.2
            refine ok_gI rfl ?_
            refine ok_gC rfl ?_
            refine ok_zbX (Q := fun V => V = seeV (σ37.1 218 9) (σ37.1 224) (σ37.1 218 10)) (x_X12_see (hR.tr hT) (by (try simp only [g7_σ37, g9_σ37, g11_σ37, g12_σ37, g14_σ37, g15_σ37, g20_σ37, g22_σ37, g23_σ37, g24_σ37, g25_σ37]); omega) (by (try simp only [g7_σ37, g9_σ37, g11_σ37, g12_σ37, g14_σ37, g15_σ37, g20_σ37, g22_σ37, g23_σ37, g24_σ37, g25_σ37]); omega)) (fun v39 hqv39 => ?_)
            have hqv39 : v39 = seeV (σ37.1 218 9) (σ37.1 224) (σ37.1 218 10) := hqv39
            try simp only [g7_σ37, g9_σ37, g11_σ37, g12_σ37, g14_σ37, g15_σ37, g20_σ37, g22_σ37, g23_σ37, g24_σ37, g25_σ37, hT.2 224 (by decide)] at hqv39
            have see88 := hqv39
            refine ok_zbX (Q := fun V => (V = 0 → ¬ ((48 : Int64).toInt ≤ (Int32.toInt64 v39).toInt ∧ (Int32.toInt64 v39).toInt ≤ (57 : Int64).toInt)) ∧ (¬ V = 0 → (48 : Int64).toInt ≤ (Int32.toInt64 v39).toInt ∧ (Int32.toInt64 v39).toInt ≤ (57 : Int64).toInt)) (xi_X12_in) (fun v41 hqv41 => ?_)
            have hqv41 : (v41 = 0 → ¬ ((48 : Int64).toInt ≤ (Int32.toInt64 v39).toInt ∧ (Int32.toInt64 v39).toInt ≤ (57 : Int64).toInt)) ∧ (¬ v41 = 0 → (48 : Int64).toInt ≤ (Int32.toInt64 v39).toInt ∧ (Int32.toInt64 v39).toInt ≤ (57 : Int64).toInt) := hqv41
            try simp only [g7_σ37, g9_σ37, g11_σ37, g12_σ37, g14_σ37, g15_σ37, g20_σ37, g22_σ37, g23_σ37, g24_σ37, g25_σ37, hT.2 224 (by decide)] at hqv41
            simp only [i64_of, Int64.reduceToInt] at hqv41
            refine ok_if (fun hc43 => ?_) (fun hc43 => ?_)
            · have qhc43 := hqv41.1 hc43
              have w101 := qhc43
              rw [see88] at w101
              have hn9 : (σ37.1 218 10).toInt.toNat < (σ0.1 218 9).toInt.toNat → ¬ isDg ((σ0.1 224) (σ37.1 218 10).toInt.toNat) := fun hl hs => by have l9 : (σ37.1 218 10).toInt < (σ0.1 218 9).toInt := (by omega); have p9 := (see_p hY l9).2; have e8 : (σ0.1 224 (σ37.1 218 10).toNatClampNeg) = σ0.1 224 (σ37.1 218 10).toInt.toNat := rfl; rw [e8] at p9; unfold isDg at hs; omega
              have r84 := r83.trans (Rn_e (p := isDg) hn9)
              have n84 := (Nv_e (a := r9) hn9).symm.trans n9r
              refine ok_pI hT rfl (by decide) (fun σ44 eσ44 hOσ44 hT => ?_)
              have g7_σ44 : σ44.1 218 7 = (σ0.1 218 7) := (zI_atN eσ44 (by decide)).trans g7_σ37
              have g9_σ44 : σ44.1 218 9 = (σ0.1 218 9) := (zI_atN eσ44 (by decide)).trans g9_σ37
              have g10_σ44 : σ44.1 218 10 = (σ37.1 218 10) := zI_atN eσ44 (by decide)
              have g11_σ44 : σ44.1 218 11 = (σ1.1 218 10) := (zI_atN eσ44 (by decide)).trans g11_σ37
              have g12_σ44 : σ44.1 218 12 = (2 : Int32) := zI_atI eσ44
              have g13_σ44 : σ44.1 218 13 = (σ37.1 218 13) := zI_atN eσ44 (by decide)
              have g14_σ44 : σ44.1 218 14 = (σ0.1 218 14) := (zI_atN eσ44 (by decide)).trans g14_σ37
              have g15_σ44 : σ44.1 218 15 = (σ0.1 218 15) := (zI_atN eσ44 (by decide)).trans g15_σ37
              have g20_σ44 : σ44.1 218 20 = (σ0.1 218 20) := (zI_atN eσ44 (by decide)).trans g20_σ37
              have g22_σ44 : σ44.1 218 22 = (σ0.1 218 22) := (zI_atN eσ44 (by decide)).trans g22_σ37
              have g23_σ44 : σ44.1 218 23 = (σ0.1 218 23) := (zI_atN eσ44 (by decide)).trans g23_σ37
              have g24_σ44 : σ44.1 218 24 = (σ0.1 218 24) := (zI_atN eσ44 (by decide)).trans g24_σ37
              have g25_σ44 : σ44.1 218 25 = (σ0.1 218 25) := (zI_atN eσ44 (by decide)).trans g25_σ37
              exact ok_some ⟨hT, (show (TKS σ44.1 (σ0.1 224) (σ0.1 218 9).toInt.toNat (σ0.1 218 10).toInt.toNat) ∧ (σ44.1 218 7 = σ0.1 218 7 ∧ σ44.1 218 9 = σ0.1 218 9 ∧ σ44.1 218 14 = σ0.1 218 14 ∧ σ44.1 218 15 = σ0.1 218 15 ∧ σ44.1 218 20 = σ0.1 218 20 ∧ σ44.1 218 22 = σ0.1 218 22 ∧ σ44.1 218 23 = σ0.1 218 23 ∧ σ44.1 218 24 = σ0.1 218 24 ∧ σ44.1 218 25 = σ0.1 218 25) from ⟨by first | exact TKS_i g11_σ44 g10_σ44 g12_σ44 g13_σ44 (by rw [f0]; omega) (by rw [(tk_0 f0 e58).2]; omega) (tk_0 f0 e58).1.symm (fun q => absurd q (by decide)) | exact TKS_i g11_σ44 g10_σ44 g12_σ44 g13_σ44 (by rw [f0]; omega) (by rw [(tk_1 f0 (by omega) l80).2, r84]; omega) (tk_1 f0 (by omega) l80).1.symm (fun q => absurd q (by decide)) | exact TKS_i g11_σ44 g10_σ44 g12_σ44 g13_σ44 (by rw [f0]; omega) (by rw [(tk_2 f0 (by omega) l136).2, r84]; omega) (tk_2 f0 (by omega) l136).1.symm (fun _ => by rw [f0, ← n84]; exact v9r) | exact TKS_i g11_σ44 g10_σ44 g12_σ44 g13_σ44 (by rw [f0]; omega) (by rw [(tk_3 f0 (by omega) n80 n136).2, s9]; omega) (by rw [(tk_3 f0 (by omega) n80 n136).1, q219, if_pos (q219 ▸ s219)]) (fun q => absurd (congrArg Int32.toInt q) (by rw [show (2 : Int32).toInt = 2 by decide]; omega)) | exact TKS_i g11_σ44 g10_σ44 g12_σ44 g13_σ44 (by rw [f0]; omega) (by rw [(tk_3 f0 (by omega) n80 n136).2, s9]; omega) (by rw [(tk_3 f0 (by omega) n80 n136).1, if_neg s219]) (fun q => absurd q (by decide)), g7_σ44, g9_σ44, g14_σ44, g15_σ44, g20_σ44, g22_σ44, g23_σ44, g24_σ44, g25_σ44⟩)⟩
            · have qhc43 := hqv41.2 hc43
              have w101 := qhc43
              rw [see88] at w101
              have c101 := see_c (n := σ0.1 218 9) (t := σ0.1 224) (x := (σ37.1 218 10)) hY rfl (by omega) (by omega)
              have s9 : ((σ37.1 218 10) + 1).toInt = (σ37.1 218 10).toInt + 1 := by rw [ti_add]; simp only [Int32.reduceToInt]; omega
              have j9 : ((σ37.1 218 10) + 1).toInt.toNat = (σ37.1 218 10).toInt.toNat + 1 := by rw [s9]; omega
              have e8 : (σ0.1 224 (σ37.1 218 10).toNatClampNeg) = σ0.1 224 (σ37.1 218 10).toInt.toNat := rfl
              rw [e8] at c101
              have d101 : isDg ((σ0.1 224) (σ37.1 218 10).toInt.toNat) := by unfold isDg; omega
              have r84 := r83.trans (Rn_s (p := isDg) (t := (σ0.1 224)) (n := (σ0.1 218 9).toInt.toNat) (i := (σ37.1 218 10).toInt.toNat) (by omega) d101)
              have n84 := (Nv_s (t := (σ0.1 224)) (n := (σ0.1 218 9).toInt.toNat) (i := (σ37.1 218 10).toInt.toNat) (a := r9) (by omega) d101).symm.trans n9r
              refine ok_gI rfl ?_
              refine ok_gI rfl ?_
              refine ok_gC rfl ?_
              refine ok_zbX (Q := fun V => V = seeV (σ37.1 218 9) (σ37.1 224) (σ37.1 218 10)) (x_X12_see (hR.tr hT) (by (try simp only [g7_σ37, g9_σ37, g11_σ37, g12_σ37, g14_σ37, g15_σ37, g20_σ37, g22_σ37, g23_σ37, g24_σ37, g25_σ37]); omega) (by (try simp only [g7_σ37, g9_σ37, g11_σ37, g12_σ37, g14_σ37, g15_σ37, g20_σ37, g22_σ37, g23_σ37, g24_σ37, g25_σ37]); omega)) (fun v47 hqv47 => ?_)
              have hqv47 : v47 = seeV (σ37.1 218 9) (σ37.1 224) (σ37.1 218 10) := hqv47
              try simp only [g7_σ37, g9_σ37, g11_σ37, g12_σ37, g14_σ37, g15_σ37, g20_σ37, g22_σ37, g23_σ37, g24_σ37, g25_σ37, hT.2 224 (by decide)] at hqv47
              have see180 := hqv47
              have h180 : 48 ≤ v47.toInt ∧ v47.toInt ≤ 57 := by rw [hqv47]; omega
              have z180 := zmin5 v9r h180
              have e180 : v47.toInt = (σ0.1 224 (σ37.1 218 10).toInt.toNat).toInt := by rw [hqv47]; exact c101.2.symm
              have y180 := And.intro z180 (show Nv (σ0.1 224) (σ0.1 218 9).toInt.toNat ((σ37.1 218 10).toInt.toNat + 1) (10 * r9 + (v47.toInt - 48).toNat) = Nv (σ0.1 224) (σ0.1 218 9).toInt.toNat (σ1.1 218 10).toInt.toNat 0 from by rw [e180]; exact n84)
              refine ok_pI hT rfl (by decide) (fun σ49 eσ49 hOσ49 hT => ?_)
              have g7_σ49 : σ49.1 218 7 = (σ0.1 218 7) := (zI_atN eσ49 (by decide)).trans g7_σ37
              have g9_σ49 : σ49.1 218 9 = (σ0.1 218 9) := (zI_atN eσ49 (by decide)).trans g9_σ37
              have g10_σ49 : σ49.1 218 10 = (σ37.1 218 10) := zI_atN eσ49 (by decide)
              have g11_σ49 : σ49.1 218 11 = (σ1.1 218 10) := (zI_atN eσ49 (by decide)).trans g11_σ37
              have g12_σ49 : σ49.1 218 12 = (σ0.1 218 12) := (zI_atN eσ49 (by decide)).trans g12_σ37
              have g13_σ49 : σ49.1 218 13 = (zmin 99999 (((10 * (σ37.1 218 13)) + v47) - 48)) := zI_atI eσ49
              have g14_σ49 : σ49.1 218 14 = (σ0.1 218 14) := (zI_atN eσ49 (by decide)).trans g14_σ37
              have g15_σ49 : σ49.1 218 15 = (σ0.1 218 15) := (zI_atN eσ49 (by decide)).trans g15_σ37
              have g20_σ49 : σ49.1 218 20 = (σ0.1 218 20) := (zI_atN eσ49 (by decide)).trans g20_σ37
              have g22_σ49 : σ49.1 218 22 = (σ0.1 218 22) := (zI_atN eσ49 (by decide)).trans g22_σ37
              have g23_σ49 : σ49.1 218 23 = (σ0.1 218 23) := (zI_atN eσ49 (by decide)).trans g23_σ37
              have g24_σ49 : σ49.1 218 24 = (σ0.1 218 24) := (zI_atN eσ49 (by decide)).trans g24_σ37
              have g25_σ49 : σ49.1 218 25 = (σ0.1 218 25) := (zI_atN eσ49 (by decide)).trans g25_σ37
              refine ok_gIv rfl g10_σ49 ?_
              refine ok_pI hT rfl (by decide) (fun σ51 eσ51 hOσ51 hT => ?_)
              have g7_σ51 : σ51.1 218 7 = (σ0.1 218 7) := (zI_atN eσ51 (by decide)).trans g7_σ49
              have g9_σ51 : σ51.1 218 9 = (σ0.1 218 9) := (zI_atN eσ51 (by decide)).trans g9_σ49
              have g10_σ51 : σ51.1 218 10 = ((σ37.1 218 10) + 1) := zI_atI eσ51
              have g11_σ51 : σ51.1 218 11 = (σ1.1 218 10) := (zI_atN eσ51 (by decide)).trans g11_σ49
              have g12_σ51 : σ51.1 218 12 = (σ0.1 218 12) := (zI_atN eσ51 (by decide)).trans g12_σ49
              have g13_σ51 : σ51.1 218 13 = (zmin 99999 (((10 * (σ37.1 218 13)) + v47) - 48)) := (zI_atN eσ51 (by decide)).trans g13_σ49
              have g14_σ51 : σ51.1 218 14 = (σ0.1 218 14) := (zI_atN eσ51 (by decide)).trans g14_σ49
              have g15_σ51 : σ51.1 218 15 = (σ0.1 218 15) := (zI_atN eσ51 (by decide)).trans g15_σ49
              have g20_σ51 : σ51.1 218 20 = (σ0.1 218 20) := (zI_atN eσ51 (by decide)).trans g20_σ49
              have g22_σ51 : σ51.1 218 22 = (σ0.1 218 22) := (zI_atN eσ51 (by decide)).trans g22_σ49
              have g23_σ51 : σ51.1 218 23 = (σ0.1 218 23) := (zI_atN eσ51 (by decide)).trans g23_σ49
              have g24_σ51 : σ51.1 218 24 = (σ0.1 218 24) := (zI_atN eσ51 (by decide)).trans g24_σ49
              have g25_σ51 : σ51.1 218 25 = (σ0.1 218 25) := (zI_atN eσ51 (by decide)).trans g25_σ49
              exact ih144_37 σ51 (show Tr [218] σ0 σ51 ∧ ((((σ51.1 218 11).toInt ≤ (σ51.1 218 10).toInt ∧ (σ51.1 218 10).toInt ≤ (σ0.1 218 9).toInt) ∧ Rn isDg (σ0.1 224) (σ0.1 218 9).toInt.toNat (σ51.1 218 11).toInt.toNat = Rn isDg (σ0.1 224) (σ0.1 218 9).toInt.toNat (σ51.1 218 10).toInt.toNat) ∧ ∃ r : Nat, (σ51.1 218 13).toInt = min 99999 (r : Int) ∧ Nv (σ0.1 224) (σ0.1 218 9).toInt.toNat (σ51.1 218 10).toInt.toNat r = Nv (σ0.1 224) (σ0.1 218 9).toInt.toNat (σ51.1 218 11).toInt.toNat 0) ∧ (σ51.1 218 7 = (σ0.1 218 7)) ∧ (σ51.1 218 9 = (σ0.1 218 9)) ∧ (σ51.1 218 11 = (σ1.1 218 10)) ∧ (σ51.1 218 12 = (σ0.1 218 12)) ∧ (σ51.1 218 14 = (σ0.1 218 14)) ∧ (σ51.1 218 15 = (σ0.1 218 15)) ∧ (σ51.1 218 20 = (σ0.1 218 20)) ∧ (σ51.1 218 22 = (σ0.1 218 22)) ∧ (σ51.1 218 23 = (σ0.1 218 23)) ∧ (σ51.1 218 24 = (σ0.1 218 24)) ∧ (σ51.1 218 25 = (σ0.1 218 25)) from ⟨hT, (by (try simp only [g7_σ51, g9_σ51, g10_σ51, g11_σ51, g12_σ51, g13_σ51, g14_σ51, g15_σ51, g20_σ51, g22_σ51, g23_σ51, g24_σ51, g25_σ51]); exact ⟨⟨by rw [s9]; omega, by rw [j9]; exact r84⟩, _, y180.1, by rw [j9]; exact y180.2⟩), g7_σ51, g9_σ51, g11_σ51, g12_σ51, g14_σ51, g15_σ51, g20_σ51, g22_σ51, g23_σ51, g24_σ51, g25_σ51⟩) (show (600 - (σ51.1 218 10).toInt).toNat < (600 - (σ37.1 218 10).toInt).toNat from (by (try simp only [g7_σ51, g9_σ51, g10_σ51, g11_σ51, g12_σ51, g13_σ51, g14_σ51, g15_σ51, g20_σ51, g22_σ51, g23_σ51, g24_σ51, g25_σ51]); rw [s9]; omega))
        · have qhc23 := hqv21.2 hc23
          have w80 := qhc23
          have l80 : isLt ((σ0.1 224) (σ1.1 218 10).toInt.toNat) := by unfold isLt; omega
          refine ok_lp (fun t : zS => Tr [218] σ0 (t) ∧ (((((t).1 218 11).toInt ≤ ((t).1 218 10).toInt ∧ ((t).1 218 10).toInt ≤ (σ0.1 218 9).toInt) ∧ Rn isLt (σ0.1 224) (σ0.1 218 9).toInt.toNat ((t).1 218 11).toInt.toNat = Rn isLt (σ0.1 224) (σ0.1 218 9).toInt.toNat ((t).1 218 10).toInt.toNat)) ∧ ((t).1 218 7 = (σ0.1 218 7)) ∧ ((t).1 218 9 = (σ0.1 218 9)) ∧ ((t).1 218 11 = (σ1.1 218 10)) ∧ ((t).1 218 12 = (σ0.1 218 12)) ∧ ((t).1 218 13 = (σ0.1 218 13)) ∧ ((t).1 218 14 = (σ0.1 218 14)) ∧ ((t).1 218 15 = (σ0.1 218 15)) ∧ ((t).1 218 20 = (σ0.1 218 20)) ∧ ((t).1 218 22 = (σ0.1 218 22)) ∧ ((t).1 218 23 = (σ0.1 218 23)) ∧ ((t).1 218 24 = (σ0.1 218 24)) ∧ ((t).1 218 25 = (σ0.1 218 25))) (fun t : zS => (600 - ((t).1 218 10).toInt).toNat) (fun again52 t hI ih83_52 => ?_) N _ (show Tr [218] σ0 σ15 ∧ ((((σ15.1 218 11).toInt ≤ (σ15.1 218 10).toInt ∧ (σ15.1 218 10).toInt ≤ (σ0.1 218 9).toInt) ∧ Rn isLt (σ0.1 224) (σ0.1 218 9).toInt.toNat (σ15.1 218 11).toInt.toNat = Rn isLt (σ0.1 224) (σ0.1 218 9).toInt.toNat (σ15.1 218 10).toInt.toNat)) ∧ (σ15.1 218 7 = (σ0.1 218 7)) ∧ (σ15.1 218 9 = (σ0.1 218 9)) ∧ (σ15.1 218 11 = (σ1.1 218 10)) ∧ (σ15.1 218 12 = (σ0.1 218 12)) ∧ (σ15.1 218 13 = (σ0.1 218 13)) ∧ (σ15.1 218 14 = (σ0.1 218 14)) ∧ (σ15.1 218 15 = (σ0.1 218 15)) ∧ (σ15.1 218 20 = (σ0.1 218 20)) ∧ (σ15.1 218 22 = (σ0.1 218 22)) ∧ (σ15.1 218 23 = (σ0.1 218 23)) ∧ (σ15.1 218 24 = (σ0.1 218 24)) ∧ (σ15.1 218 25 = (σ0.1 218 25)) from ⟨hT, (by (try simp only [g7_σ15, g9_σ15, g10_σ15, g11_σ15, g12_σ15, g13_σ15, g14_σ15, g15_σ15, g20_σ15, g22_σ15, g23_σ15, g24_σ15, g25_σ15]); first | exact ⟨⟨by omega, by omega⟩, trivial⟩ | exact ⟨⟨by omega, by omega⟩, rfl⟩), g7_σ15, g9_σ15, g11_σ15, g12_σ15, g13_σ15, g14_σ15, g15_σ15, g20_σ15, g22_σ15, g23_σ15, g24_σ15, g25_σ15⟩) (show (600 - (σ15.1 218 10).toInt).toNat < N from (by ((try simp only [g7_σ15, g9_σ15, g10_σ15, g11_σ15, g12_σ15, g13_σ15, g14_σ15, g15_σ15, g20_σ15, g22_σ15, g23_σ15, g24_σ15, g25_σ15])); first | omega | decide | (simp only [Int32.le_iff_toInt_le, Int32.lt_iff_toInt_lt, ti_add, ti_sub, ti_mul, Int32.reduceToInt] at *; omega)))
          obtain ⟨σ52, rfl⟩ : ∃ x, x = t := ⟨t, rfl⟩
          have hI : Tr [218] σ0 σ52 ∧ ((((σ52.1 218 11).toInt ≤ (σ52.1 218 10).toInt ∧ (σ52.1 218 10).toInt ≤ (σ0.1 218 9).toInt) ∧ Rn isLt (σ0.1 224) (σ0.1 218 9).toInt.toNat (σ52.1 218 11).toInt.toNat = Rn isLt (σ0.1 224) (σ0.1 218 9).toInt.toNat (σ52.1 218 10).toInt.toNat)) ∧ (σ52.1 218 7 = (σ0.1 218 7)) ∧ (σ52.1 218 9 = (σ0.1 218 9)) ∧ (σ52.1 218 11 = (σ1.1 218 10)) ∧ (σ52.1 218 12 = (σ0.1 218 12)) ∧ (σ52.1 218 13 = (σ0.1 218 13)) ∧ (σ52.1 218 14 = (σ0.1 218 14)) ∧ (σ52.1 218 15 = (σ0.1 218 15)) ∧ (σ52.1 218 20 = (σ0.1 218 20)) ∧ (σ52.1 218 22 = (σ0.1 218 22)) ∧ (σ52.1 218 23 = (σ0.1 218 23)) ∧ (σ52.1 218 24 = (σ0.1 218 24)) ∧ (σ52.1 218 25 = (σ0.1 218 25)) := hI
          obtain ⟨hT, hI52, g7_σ52, g9_σ52, g11_σ52, g12_σ52, g13_σ52, g14_σ52, g15_σ52, g20_σ52, g22_σ52, g23_σ52, g24_σ52, g25_σ52⟩ := hI
          rw [F_X12_advance_83.eq_1]
          rw [g11_σ52] at hI52
          have hb83 := hI52.1
          have r83 := hI52.2
          refine ok_gI rfl ?_
          refine ok_gC rfl ?_
          refine ok_zbX (Q := fun V => V = seeV (σ52.1 218 9) (σ52.1 224) (σ52.1 218 10)) (x_X12_see (hR.tr hT) (by (try simp only [g7_σ52, g9_σ52, g11_σ52, g12_σ52, g13_σ52, g14_σ52, g15_σ52, g20_σ52, g22_σ52, g23_σ52, g24_σ52, g25_σ52]); omega) (by (try simp only [g7_σ52, g9_σ52, g11_σ52, g12_σ52, g13_σ52, g14_σ52, g15_σ52, g20_σ52, g22_σ52, g23_σ52, g24_σ52, g25_σ52]); omega)) (fun v54 hqv54 => ?_)
          have hqv54 : v54 = seeV (σ52.1 218 9) (σ52.1 224) (σ52.1 218 10) := hqv54
          try simp only [g7_σ52, g9_σ52, g11_σ52, g12_σ52, g13_σ52, g14_σ52, g15_σ52, g20_σ52, g22_σ52, g23_σ52, g24_σ52, g25_σ52, hT.2 224 (by decide)] at hqv54
          have see88 := hqv54
          refine ok_zbX (Q := fun V => (V = 0 → ¬ ((97 : Int64).toInt ≤ (Int32.toInt64 v54).toInt ∧ (Int32.toInt64 v54).toInt ≤ (122 : Int64).toInt)) ∧ (¬ V = 0 → (97 : Int64).toInt ≤ (Int32.toInt64 v54).toInt ∧ (Int32.toInt64 v54).toInt ≤ (122 : Int64).toInt)) (xi_X12_in) (fun v56 hqv56 => ?_)
          have hqv56 : (v56 = 0 → ¬ ((97 : Int64).toInt ≤ (Int32.toInt64 v54).toInt ∧ (Int32.toInt64 v54).toInt ≤ (122 : Int64).toInt)) ∧ (¬ v56 = 0 → (97 : Int64).toInt ≤ (Int32.toInt64 v54).toInt ∧ (Int32.toInt64 v54).toInt ≤ (122 : Int64).toInt) := hqv56
          try simp only [g7_σ52, g9_σ52, g11_σ52, g12_σ52, g13_σ52, g14_σ52, g15_σ52, g20_σ52, g22_σ52, g23_σ52, g24_σ52, g25_σ52, hT.2 224 (by decide)] at hqv56
          simp only [i64_of, Int64.reduceToInt] at hqv56
          refine ok_if (fun hc58 => ?_) (fun hc58 => ?_)
          · have qhc58 := hqv56.1 hc58
            have w101 := qhc58
            rw [see88] at w101
            have r84 := r83.trans (Rn_e (p := isLt) (fun hl hs => by have l9 : (σ52.1 218 10).toInt < (σ0.1 218 9).toInt := (by omega); have p9 := (see_p hY l9).2; have e8 : (σ0.1 224 (σ52.1 218 10).toNatClampNeg) = σ0.1 224 (σ52.1 218 10).toInt.toNat := rfl; rw [e8] at p9; unfold isLt at hs; omega))
            refine ok_pI hT rfl (by decide) (fun σ59 eσ59 hOσ59 hT => ?_)
            have g7_σ59 : σ59.1 218 7 = (σ0.1 218 7) := (zI_atN eσ59 (by decide)).trans g7_σ52
            have g9_σ59 : σ59.1 218 9 = (σ0.1 218 9) := (zI_atN eσ59 (by decide)).trans g9_σ52
            have g10_σ59 : σ59.1 218 10 = (σ52.1 218 10) := zI_atN eσ59 (by decide)
            have g11_σ59 : σ59.1 218 11 = (σ1.1 218 10) := (zI_atN eσ59 (by decide)).trans g11_σ52
            have g12_σ59 : σ59.1 218 12 = (1 : Int32) := zI_atI eσ59
            have g13_σ59 : σ59.1 218 13 = (σ0.1 218 13) := (zI_atN eσ59 (by decide)).trans g13_σ52
            have g14_σ59 : σ59.1 218 14 = (σ0.1 218 14) := (zI_atN eσ59 (by decide)).trans g14_σ52
            have g15_σ59 : σ59.1 218 15 = (σ0.1 218 15) := (zI_atN eσ59 (by decide)).trans g15_σ52
            have g20_σ59 : σ59.1 218 20 = (σ0.1 218 20) := (zI_atN eσ59 (by decide)).trans g20_σ52
            have g22_σ59 : σ59.1 218 22 = (σ0.1 218 22) := (zI_atN eσ59 (by decide)).trans g22_σ52
            have g23_σ59 : σ59.1 218 23 = (σ0.1 218 23) := (zI_atN eσ59 (by decide)).trans g23_σ52
            have g24_σ59 : σ59.1 218 24 = (σ0.1 218 24) := (zI_atN eσ59 (by decide)).trans g24_σ52
            have g25_σ59 : σ59.1 218 25 = (σ0.1 218 25) := (zI_atN eσ59 (by decide)).trans g25_σ52
            exact ok_some ⟨hT, (show (TKS σ59.1 (σ0.1 224) (σ0.1 218 9).toInt.toNat (σ0.1 218 10).toInt.toNat) ∧ (σ59.1 218 7 = σ0.1 218 7 ∧ σ59.1 218 9 = σ0.1 218 9 ∧ σ59.1 218 14 = σ0.1 218 14 ∧ σ59.1 218 15 = σ0.1 218 15 ∧ σ59.1 218 20 = σ0.1 218 20 ∧ σ59.1 218 22 = σ0.1 218 22 ∧ σ59.1 218 23 = σ0.1 218 23 ∧ σ59.1 218 24 = σ0.1 218 24 ∧ σ59.1 218 25 = σ0.1 218 25) from ⟨by first | exact TKS_i g11_σ59 g10_σ59 g12_σ59 g13_σ59 (by rw [f0]; omega) (by rw [(tk_0 f0 e58).2]; omega) (tk_0 f0 e58).1.symm (fun q => absurd q (by decide)) | exact TKS_i g11_σ59 g10_σ59 g12_σ59 g13_σ59 (by rw [f0]; omega) (by rw [(tk_1 f0 (by omega) l80).2, r84]; omega) (tk_1 f0 (by omega) l80).1.symm (fun q => absurd q (by decide)) | exact TKS_i g11_σ59 g10_σ59 g12_σ59 g13_σ59 (by rw [f0]; omega) (by rw [(tk_2 f0 (by omega) l136).2, r84]; omega) (tk_2 f0 (by omega) l136).1.symm (fun _ => by rw [f0, ← n84]; exact v9r) | exact TKS_i g11_σ59 g10_σ59 g12_σ59 g13_σ59 (by rw [f0]; omega) (by rw [(tk_3 f0 (by omega) n80 n136).2, s9]; omega) (by rw [(tk_3 f0 (by omega) n80 n136).1, q219, if_pos (q219 ▸ s219)]) (fun q => absurd (congrArg Int32.toInt q) (by rw [show (2 : Int32).toInt = 2 by decide]; omega)) | exact TKS_i g11_σ59 g10_σ59 g12_σ59 g13_σ59 (by rw [f0]; omega) (by rw [(tk_3 f0 (by omega) n80 n136).2, s9]; omega) (by rw [(tk_3 f0 (by omega) n80 n136).1, if_neg s219]) (fun q => absurd q (by decide)), g7_σ59, g9_σ59, g14_σ59, g15_σ59, g20_σ59, g22_σ59, g23_σ59, g24_σ59, g25_σ59⟩)⟩
          · have qhc58 := hqv56.2 hc58
            have w101 := qhc58
            rw [see88] at w101
            have c101 := see_c (n := σ0.1 218 9) (t := σ0.1 224) (x := (σ52.1 218 10)) hY rfl (by omega) (by omega)
            have s9 : ((σ52.1 218 10) + 1).toInt = (σ52.1 218 10).toInt + 1 := by rw [ti_add]; simp only [Int32.reduceToInt]; omega
            have j9 : ((σ52.1 218 10) + 1).toInt.toNat = (σ52.1 218 10).toInt.toNat + 1 := by rw [s9]; omega
            have r84 := r83.trans (Rn_s (p := isLt) (t := (σ0.1 224)) (n := (σ0.1 218 9).toInt.toNat) (i := (σ52.1 218 10).toInt.toNat) (by omega) (show isLt _ from by unfold isLt; have e9 := c101.2; have e8 : (σ0.1 224 (σ52.1 218 10).toNatClampNeg) = σ0.1 224 (σ52.1 218 10).toInt.toNat := rfl; rw [e8] at e9; omega))
            refine ok_gI rfl ?_
            refine ok_pI hT rfl (by decide) (fun σ61 eσ61 hOσ61 hT => ?_)
            have g7_σ61 : σ61.1 218 7 = (σ0.1 218 7) := (zI_atN eσ61 (by decide)).trans g7_σ52
            have g9_σ61 : σ61.1 218 9 = (σ0.1 218 9) := (zI_atN eσ61 (by decide)).trans g9_σ52
            have g10_σ61 : σ61.1 218 10 = ((σ52.1 218 10) + 1) := zI_atI eσ61
            have g11_σ61 : σ61.1 218 11 = (σ1.1 218 10) := (zI_atN eσ61 (by decide)).trans g11_σ52
            have g12_σ61 : σ61.1 218 12 = (σ0.1 218 12) := (zI_atN eσ61 (by decide)).trans g12_σ52
            have g13_σ61 : σ61.1 218 13 = (σ0.1 218 13) := (zI_atN eσ61 (by decide)).trans g13_σ52
            have g14_σ61 : σ61.1 218 14 = (σ0.1 218 14) := (zI_atN eσ61 (by decide)).trans g14_σ52
            have g15_σ61 : σ61.1 218 15 = (σ0.1 218 15) := (zI_atN eσ61 (by decide)).trans g15_σ52
            have g20_σ61 : σ61.1 218 20 = (σ0.1 218 20) := (zI_atN eσ61 (by decide)).trans g20_σ52
            have g22_σ61 : σ61.1 218 22 = (σ0.1 218 22) := (zI_atN eσ61 (by decide)).trans g22_σ52
            have g23_σ61 : σ61.1 218 23 = (σ0.1 218 23) := (zI_atN eσ61 (by decide)).trans g23_σ52
            have g24_σ61 : σ61.1 218 24 = (σ0.1 218 24) := (zI_atN eσ61 (by decide)).trans g24_σ52
            have g25_σ61 : σ61.1 218 25 = (σ0.1 218 25) := (zI_atN eσ61 (by decide)).trans g25_σ52
            exact ih83_52 σ61 (show Tr [218] σ0 σ61 ∧ ((((σ61.1 218 11).toInt ≤ (σ61.1 218 10).toInt ∧ (σ61.1 218 10).toInt ≤ (σ0.1 218 9).toInt) ∧ Rn isLt (σ0.1 224) (σ0.1 218 9).toInt.toNat (σ61.1 218 11).toInt.toNat = Rn isLt (σ0.1 224) (σ0.1 218 9).toInt.toNat (σ61.1 218 10).toInt.toNat)) ∧ (σ61.1 218 7 = (σ0.1 218 7)) ∧ (σ61.1 218 9 = (σ0.1 218 9)) ∧ (σ61.1 218 11 = (σ1.1 218 10)) ∧ (σ61.1 218 12 = (σ0.1 218 12)) ∧ (σ61.1 218 13 = (σ0.1 218 13)) ∧ (σ61.1 218 14 = (σ0.1 218 14)) ∧ (σ61.1 218 15 = (σ0.1 218 15)) ∧ (σ61.1 218 20 = (σ0.1 218 20)) ∧ (σ61.1 218 22 = (σ0.1 218 22)) ∧ (σ61.1 218 23 = (σ0.1 218 23)) ∧ (σ61.1 218 24 = (σ0.1 218 24)) ∧ (σ61.1 218 25 = (σ0.1 218 25)) from ⟨hT, (by (try simp only [g7_σ61, g9_σ61, g10_σ61, g11_σ61, g12_σ61, g13_σ61, g14_σ61, g15_σ61, g20_σ61, g22_σ61, g23_σ61, g24_σ61, g25_σ61]); exact ⟨by rw [s9]; omega, by rw [j9]; exact r84⟩), g7_σ61, g9_σ61, g11_σ61, g12_σ61, g13_σ61, g14_σ61, g15_σ61, g20_σ61, g22_σ61, g23_σ61, g24_σ61, g25_σ61⟩) (show (600 - (σ61.1 218 10).toInt).toNat < (600 - (σ52.1 218 10).toInt).toNat from (by (try simp only [g7_σ61, g9_σ61, g10_σ61, g11_σ61, g12_σ61, g13_σ61, g14_σ61, g15_σ61, g20_σ61, g22_σ61, g23_σ61, g24_σ61, g25_σ61]); rw [s9]; omega))
end Zq10_6

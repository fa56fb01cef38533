theorem i8b (v : Int8) : -128 ≤ v.toInt32.toInt ∧ v.toInt32.toInt ≤ 127 := by
  rw [Int8.toInt_toInt32]
  have h1 := v.le_toInt
  have h2 := v.toInt_lt
  omega
theorem BYT_s {σ τ : zS} {i : Nat} {v : Int32} (e : τ = zI σ 224 (upd (σ.1 224) i (vp_nar .byte v))) (h : BYT (σ.1 224)) : BYT (τ.1 224) := by
  intro k
  by_cases q : k = i
  · subst q; rw [zI_atI e, vp_nar_byte]; exact i8b _
  · rw [zI_atN e q]; exact h k
theorem x_X12_isRegister {N : Nat} {x1 : Int32} {σ : zS} (hR : RF σ.2.2) : Ok (f_X12_isRegister N 218 x1 σ) (fun r => r.2 = σ ∧ ((r.1 = 0 → True) ∧ (¬ r.1 = 0 → 0 ≤ x1.toInt ∧ x1.toInt ≤ 9))) := by
  rw [f_X12_isRegister.eq_1]
  refine ok_gC rfl ?_
  refine ok_zbX (Q := fun v => (v = 0 → (σ.1 219 0).toInt ≤ 0) ∧ (¬ v = 0 → 0 < (σ.1 219 0).toInt)) (x_X12_isWorld hR) (fun v hv => ?_)
  refine ok_if (fun h => ok_rZ (Or.inl rfl) ⟨rfl, fun _ => trivial, fun q => absurd rfl q⟩) (fun h => ?_)
  refine ok_zbX (Q := fun v => ¬ v = 0 → (0 : Int64).toInt ≤ (Int32.toInt64 x1).toInt ∧ (Int32.toInt64 x1).toInt ≤ (9 : Int64).toInt) x_X12_in (fun v hv => ?_)
  simp only [i64_of, Int64.reduceToInt] at hv
  exact ok_if (fun h => ok_rZ (Or.inl rfl) ⟨rfl, fun _ => trivial, fun q => absurd rfl q⟩) (fun h => ok_rZ (Or.inr rfl) ⟨rfl, fun _ => trivial, fun _ => hv h⟩)
theorem mu2 {f f' : Int} {a a' : Int32} (hf : f ≤ f') (h6 : f' ≤ 600) (ha : a = 0) (h : a' = 0 → f < f') : (600 - f').toNat + (if a' = 0 then 1 else 0) < (600 - f).toNat + (if a = 0 then 1 else 0) := by
  rw [if_pos ha]
  by_cases q : a' = 0
  · rw [if_pos q]
    have := h q
    omega
  · rw [if_neg q]; omega

set_option maxHeartbeats 4000000 in
set_option maxRecDepth 100000 in
theorem s_X12_feed_b {N : Nat} (hN : 1048576 ≤ N) {x1 : Int32} {x2 : Int32} {x3 : Int32} {x4 : Int32} {x5 : Int32} {σ0 : zS}  (hR : RF σ0.2.2) (hp : 0 ≤ (σ0.1 218 7).toInt ∧ (σ0.1 218 7).toInt ≤ 600) (hY : BYT (σ0.1 224)) : Ok (f_X12_feed N 218 x1 x2 x3 x4 x5 σ0) (fun r => Tr [218, 224, 225] σ0 r.2 ∧ ((0 ≤ (r.2.1 218 7).toInt ∧ (r.2.1 218 7).toInt ≤ 600) ∧ BYT (r.2.1 224))) := by
  have hT : Tr [218, 224, 225] σ0 σ0 := Tr.rf
  have ht : σ0.1 218 7 = σ0.1 218 7 := rfl
  rw [f_X12_feed.eq_1]
  refine ok_gI rfl ?_
  refine ok_if (fun hc2 => ?_) (fun hc2 => ?_)
  · refine ok_gR (v := 225) hT rfl (hR 218 8 rfl) ?_
    refine ok_s14 hT rfl (by decide) (by first | omega | decide | (simp only [Int32.le_iff_toInt_le, Int32.lt_iff_toInt_lt, ti_add, ti_sub, ti_mul, Int32.reduceToInt] at *; omega)) (by first | omega | decide | (simp only [Int32.le_iff_toInt_le, Int32.lt_iff_toInt_lt, ti_add, ti_sub, ti_mul, Int32.reduceToInt] at *; omega)) (fun σ4 eσ4 hOσ4 hT => ?_)
    have hp : 0 ≤ (σ4.1 218 7).toInt ∧ (σ4.1 218 7).toInt ≤ 600 := by rw [hOσ4.2 218 (by decide)] <;> exact hp
    have ht : σ4.1 218 7 = σ0.1 218 7 := by rw [hOσ4.2 218 (by decide)] <;> exact ht
    have hY : BYT (σ4.1 224) := by rw [hOσ4.2 224 (by decide)]; exact hY
    refine ok_gR (v := 225) hT rfl (hR 218 8 rfl) ?_
    refine ok_s14 hT rfl (by decide) (by first | omega | decide | (simp only [Int32.le_iff_toInt_le, Int32.lt_iff_toInt_lt, ti_add, ti_sub, ti_mul, Int32.reduceToInt] at *; omega)) (by first | omega | decide | (simp only [Int32.le_iff_toInt_le, Int32.lt_iff_toInt_lt, ti_add, ti_sub, ti_mul, Int32.reduceToInt] at *; omega)) (fun σ6 eσ6 hOσ6 hT => ?_)
    have hp : 0 ≤ (σ6.1 218 7).toInt ∧ (σ6.1 218 7).toInt ≤ 600 := by rw [hOσ6.2 218 (by decide)] <;> exact hp
    have ht : σ6.1 218 7 = σ0.1 218 7 := by rw [hOσ6.2 218 (by decide)] <;> exact ht
    have hY : BYT (σ6.1 224) := by rw [hOσ6.2 224 (by decide)]; exact hY
    refine ok_gR (v := 225) hT rfl (hR 218 8 rfl) ?_
    refine ok_s14 hT rfl (by decide) (by first | omega | decide | (simp only [Int32.le_iff_toInt_le, Int32.lt_iff_toInt_lt, ti_add, ti_sub, ti_mul, Int32.reduceToInt] at *; omega)) (by first | omega | decide | (simp only [Int32.le_iff_toInt_le, Int32.lt_iff_toInt_lt, ti_add, ti_sub, ti_mul, Int32.reduceToInt] at *; omega)) (fun σ8 eσ8 hOσ8 hT => ?_)
    have hp : 0 ≤ (σ8.1 218 7).toInt ∧ (σ8.1 218 7).toInt ≤ 600 := by rw [hOσ8.2 218 (by decide)] <;> exact hp
    have ht : σ8.1 218 7 = σ0.1 218 7 := by rw [hOσ8.2 218 (by decide)] <;> exact ht
    have hY : BYT (σ8.1 224) := by rw [hOσ8.2 224 (by decide)]; exact hY
    refine ok_gR (v := 225) hT rfl (hR 218 8 rfl) ?_
    refine ok_s14 hT rfl (by decide) (by first | omega | decide | (simp only [Int32.le_iff_toInt_le, Int32.lt_iff_toInt_lt, ti_add, ti_sub, ti_mul, Int32.reduceToInt] at *; omega)) (by first | omega | decide | (simp only [Int32.le_iff_toInt_le, Int32.lt_iff_toInt_lt, ti_add, ti_sub, ti_mul, Int32.reduceToInt] at *; omega)) (fun σ10 eσ10 hOσ10 hT => ?_)
    have hp : 0 ≤ (σ10.1 218 7).toInt ∧ (σ10.1 218 7).toInt ≤ 600 := by rw [hOσ10.2 218 (by decide)] <;> exact hp
    have ht : σ10.1 218 7 = σ0.1 218 7 := by rw [hOσ10.2 218 (by decide)] <;> exact ht
    have hY : BYT (σ10.1 224) := by rw [hOσ10.2 224 (by decide)]; exact hY
    refine ok_gR (v := 225) hT rfl (hR 218 8 rfl) ?_
    refine ok_s14 hT rfl (by decide) (by first | omega | decide | (simp only [Int32.le_iff_toInt_le, Int32.lt_iff_toInt_lt, ti_add, ti_sub, ti_mul, Int32.reduceToInt] at *; omega)) (by first | omega | decide | (simp only [Int32.le_iff_toInt_le, Int32.lt_iff_toInt_lt, ti_add, ti_sub, ti_mul, Int32.reduceToInt] at *; omega)) (fun σ12 eσ12 hOσ12 hT => ?_)
    have hp : 0 ≤ (σ12.1 218 7).toInt ∧ (σ12.1 218 7).toInt ≤ 600 := by rw [hOσ12.2 218 (by decide)] <;> exact hp
    have ht : σ12.1 218 7 = σ0.1 218 7 := by rw [hOσ12.2 218 (by decide)] <;> exact ht
    have hY : BYT (σ12.1 224) := by rw [hOσ12.2 224 (by decide)]; exact hY
    refine ok_lp (fun t : Int32 × zS => Tr [218, 224, 225] σ0 (t.2) ∧ (0 ≤ (t.1).toInt) ∧ (0 ≤ ((t.2).1 218 7).toInt ∧ ((t.2).1 218 7).toInt ≤ 600) ∧ ((t.2).1 218 7 = σ0.1 218 7) ∧ (BYT ((t.2).1 224))) (fun t : Int32 × zS => (20 - (t.1).toInt).toNat) (fun again13 t hI ih55_13 => ?_) N _ (show Tr [218, 224, 225] σ0 σ12 ∧ (0 ≤ (0 : Int32).toInt) ∧ (0 ≤ (σ12.1 218 7).toInt ∧ (σ12.1 218 7).toInt ≤ 600) ∧ (σ12.1 218 7 = σ0.1 218 7) ∧ (BYT (σ12.1 224)) from ⟨hT, (by first | omega | decide | (simp only [Int32.le_iff_toInt_le, Int32.lt_iff_toInt_lt, ti_add, ti_sub, ti_mul, Int32.reduceToInt] at *; omega)), hp, ht, hY⟩) (show (20 - (0 : Int32).toInt).toNat < N from (by first | omega | decide | (simp only [Int32.le_iff_toInt_le, Int32.lt_iff_toInt_lt, ti_add, ti_sub, ti_mul, Int32.reduceToInt] at *; omega)))
    obtain ⟨x6_13, σ13⟩ := t
    have hI : Tr [218, 224, 225] σ0 σ13 ∧ (0 ≤ x6_13.toInt) ∧ (0 ≤ (σ13.1 218 7).toInt ∧ (σ13.1 218 7).toInt ≤ 600) ∧ (σ13.1 218 7 = σ0.1 218 7) ∧ (BYT (σ13.1 224)) := hI
    obtain ⟨hT, hI13, hp, ht, hY⟩ := hI
    rw [F_X12_feed_55.eq_1]
    refine ok_if (fun hc14 => ?_) (fun hc14 => ?_)
    · refine ok_gI rfl ?_
      refine ok_pI hT rfl (by decide) (fun σ16 eσ16 hOσ16 hT => ?_)
      have hp : 0 ≤ (σ16.1 218 7).toInt ∧ (σ16.1 218 7).toInt ≤ 600 := by rw [zI_atI eσ16]; have e9 := congrArg Int32.toInt ht; first | omega | (simp only [Int32.le_iff_toInt_le, Int32.lt_iff_toInt_lt, ti_add, ti_sub, ti_mul, Int32.reduceToInt] at *; omega)
      have hY : BYT (σ16.1 224) := by rw [hOσ16.2 224 (by decide)]; exact hY
      refine ok_gI rfl ?_
      exact ok_some ⟨hT, (show (0 ≤ (σ16.1 218 7).toInt ∧ (σ16.1 218 7).toInt ≤ 600) ∧ BYT (σ16.1 224) from by exact ⟨hp, hY⟩)⟩
    · have d4 := ti_div4 (x := x6_13) (by first | omega | (simp only [Int32.le_iff_toInt_le, Int32.lt_iff_toInt_lt, ti_add, ti_sub, ti_mul, Int32.reduceToInt] at *; omega)) (by first | omega | (simp only [Int32.le_iff_toInt_le, Int32.lt_iff_toInt_lt, ti_add, ti_sub, ti_mul, Int32.reduceToInt] at *; omega))
      have k9 : 0 = 0 := rfl
      have e9 := congrArg Int32.toInt ht
      refine ok_gR (v := 224) hT rfl (hR 218 6 rfl) ?_
      refine ok_gI rfl ?_
      refine ok_gR (v := 225) hT rfl (hR 218 8 rfl) ?_
      refine ok_nzI (by decide) ?_
      refine ok_aIn rfl (by first | omega | decide | (simp only [Int32.le_iff_toInt_le, Int32.lt_iff_toInt_lt, ti_add, ti_sub, ti_mul, Int32.reduceToInt] at *; omega)) (by first | omega | decide | (simp only [Int32.le_iff_toInt_le, Int32.lt_iff_toInt_lt, ti_add, ti_sub, ti_mul, Int32.reduceToInt] at *; omega)) (fun v21 ev21 => ?_)
      refine ok_nzI (by decide) ?_
      refine ok_s13 hT rfl (by decide) (by first | omega | decide | (simp only [Int32.le_iff_toInt_le, Int32.lt_iff_toInt_lt, ti_add, ti_sub, ti_mul, Int32.reduceToInt] at *; omega)) (by first | omega | decide | (simp only [Int32.le_iff_toInt_le, Int32.lt_iff_toInt_lt, ti_add, ti_sub, ti_mul, Int32.reduceToInt] at *; omega)) (fun σ22 eσ22 hOσ22 hT => ?_)
      have hp : 0 ≤ (σ22.1 218 7).toInt ∧ (σ22.1 218 7).toInt ≤ 600 := by rw [hOσ22.2 218 (by decide)] <;> exact hp
      have ht : σ22.1 218 7 = σ0.1 218 7 := by rw [hOσ22.2 218 (by decide)] <;> exact ht
      have hY : BYT (σ22.1 224) := BYT_s eσ22 hY
      exact ih55_13 (x6_13 + 1, σ22) (show Tr [218, 224, 225] σ0 σ22 ∧ (0 ≤ (x6_13 + 1).toInt) ∧ (0 ≤ (σ22.1 218 7).toInt ∧ (σ22.1 218 7).toInt ≤ 600) ∧ (σ22.1 218 7 = σ0.1 218 7) ∧ (BYT (σ22.1 224)) from ⟨hT, (by first | omega | decide | (simp only [Int32.le_iff_toInt_le, Int32.lt_iff_toInt_lt, ti_add, ti_sub, ti_mul, Int32.reduceToInt] at *; omega)), hp, ht, hY⟩) (show (20 - (x6_13 + 1).toInt).toNat < (20 - x6_13.toInt).toNat from (by first | omega | decide | (simp only [Int32.le_iff_toInt_le, Int32.lt_iff_toInt_lt, ti_add, ti_sub, ti_mul, Int32.reduceToInt] at *; omega)))
  · exact ok_some ⟨hT, (show (0 ≤ (σ0.1 218 7).toInt ∧ (σ0.1 218 7).toInt ≤ 600) ∧ BYT (σ0.1 224) from by exact ⟨hp, hY⟩)⟩

set_option maxHeartbeats 4000000 in
set_option maxRecDepth 100000 in
theorem s_X12_put {N : Nat} (hN : 1048576 ≤ N) {x1 : Int32} {σ0 : zS}  (hR : RF σ0.2.2) (hM : MW (σ0.1 219) 0) (hB : ZB σ0.1) (htp : 0 ≤ (σ0.1 218 7).toInt ∧ (σ0.1 218 7).toInt ≤ 600) (hY : BYT (σ0.1 224)) : Ok (f_X12_put N 218 x1 σ0) (fun r => Tr [218, 220, 226, 227, 228, 229, 230] σ0 r.2 ∧ (ZB r.2.1 ∧ r.2.1 218 7 = 0)) := by
  have hT : Tr [218, 220, 226, 227, 228, 229, 230] σ0 σ0 := Tr.rf
  have hn := hM.1
  have he : 0 ≤ (σ0.1 219 2).toInt ∧ (σ0.1 219 2).toInt ≤ 10 := hM.2.1
  have qm := mny_b hn.1 hn.2
  rw [f_X12_put.eq_1]
  refine ok_gC rfl ?_
  refine ok_zbX (Q := fun V => (V = 0 → True) ∧ (¬ V = 0 → 0 ≤ x1.toInt ∧ x1.toInt ≤ 9)) (x_X12_isRegister (hR.tr hT)) (fun v1 hqv1 => ?_)
  have hqv1 : (v1 = 0 → True) ∧ (¬ v1 = 0 → 0 ≤ x1.toInt ∧ x1.toInt ≤ 9) := hqv1
  refine ok_if (fun hc3 => ?_) (fun hc3 => ?_)
  · have qhc3 := hqv1.1 hc3
    refine ok_pI hT rfl (by decide) (fun σ4 eσ4 hOσ4 hT => ?_)
    have r219_σ4 : σ4.1 219 = σ0.1 219 := hOσ4.2 219 (by decide)
    have hB : ZB σ4.1 := ZB.tr hOσ4 (by decide) hB
    have g7_σ4 : σ4.1 218 7 = (0 : Int32) := zI_atI eσ4
    have g9_σ4 : σ4.1 218 9 = (σ0.1 218 9) := zI_atN eσ4 (by decide)
    have g10_σ4 : σ4.1 218 10 = (σ0.1 218 10) := zI_atN eσ4 (by decide)
    have g11_σ4 : σ4.1 218 11 = (σ0.1 218 11) := zI_atN eσ4 (by decide)
    have g12_σ4 : σ4.1 218 12 = (σ0.1 218 12) := zI_atN eσ4 (by decide)
    have g13_σ4 : σ4.1 218 13 = (σ0.1 218 13) := zI_atN eσ4 (by decide)
    have g14_σ4 : σ4.1 218 14 = (σ0.1 218 14) := zI_atN eσ4 (by decide)
    have g15_σ4 : σ4.1 218 15 = (σ0.1 218 15) := zI_atN eσ4 (by decide)
    have g20_σ4 : σ4.1 218 20 = (σ0.1 218 20) := zI_atN eσ4 (by decide)
    have g22_σ4 : σ4.1 218 22 = (σ0.1 218 22) := zI_atN eσ4 (by decide)
    have g23_σ4 : σ4.1 218 23 = (σ0.1 218 23) := zI_atN eσ4 (by decide)
    have g24_σ4 : σ4.1 218 24 = (σ0.1 218 24) := zI_atN eσ4 (by decide)
    have g25_σ4 : σ4.1 218 25 = (σ0.1 218 25) := zI_atN eσ4 (by decide)
    exact ok_some ⟨hT, (show ZB σ4.1 ∧ σ4.1 218 7 = 0 from by first | exact ⟨hB, (g7_σ4).trans t7⟩ | exact ⟨hB, g7_σ4⟩)⟩
  · have qhc3 := hqv1.2 hc3
    have h5 := qhc3
    refine ok_gC rfl ?_
    refine ok_zbT (Q := fun V σ => (TOK σ.1 ∧ σ.1 218 14 = 0 ∧ σ.1 218 25 = 0 ∧ σ.1 218 7 = 0) ∧ (σ.1 218 20 = σ0.1 218 20 ∧ σ.1 218 22 = σ0.1 218 22 ∧ σ.1 218 23 = σ0.1 218 23 ∧ σ.1 218 24 = σ0.1 218 24)) hT (s_X12_begins hN (hR.tr hT) (htp) (by rw [hT.2 224 (by decide)]; exact hY)) (by decide) (fun v5 σ6 hOσ6 hT hqv5 => ?_)
    have hqv5 : (TOK σ6.1 ∧ σ6.1 218 14 = 0 ∧ σ6.1 218 25 = 0 ∧ σ6.1 218 7 = 0) ∧ (σ6.1 218 20 = σ0.1 218 20 ∧ σ6.1 218 22 = σ0.1 218 22 ∧ σ6.1 218 23 = σ0.1 218 23 ∧ σ6.1 218 24 = σ0.1 218 24) := hqv5
    have hkv5 := hqv5
    have hqv5 := hqv5.1
    have r219_σ6 : σ6.1 219 = σ0.1 219 := hOσ6.2 219 (by decide)
    have hK : TOK σ6.1 := by first | exact hqv5.1 | exact TOK_p eσ6 (by decide) hK
    have hB : ZB σ6.1 := ZB.tr hOσ6 (by decide) hB
    have g20_σ6 : σ6.1 218 20 = (σ0.1 218 20) := hkv5.2.1
    have g22_σ6 : σ6.1 218 22 = (σ0.1 218 22) := hkv5.2.2.1
    have g23_σ6 : σ6.1 218 23 = (σ0.1 218 23) := hkv5.2.2.2.1
    have g24_σ6 : σ6.1 218 24 = (σ0.1 218 24) := hkv5.2.2.2.2
    have t7 := hqv5.2.2.2
    refine ok_gR (v := 219) hT rfl (hR 218 1 rfl) ?_
    refine ok_aIc (j := 0) hT rfl (by decide) rfl (by decide) (by decide) ?_
    refine ok_gR (v := 220) hT rfl (hR 218 2 rfl) ?_
    refine ok_gC rfl ?_
    refine ok_zbT (Q := fun V σ => (TOK σ.1 ∧ (σ6.1 218 11).toInt ≤ (σ.1 218 11).toInt ∧ (σ.1 218 14 = 0 → σ6.1 218 14 = 0) ∧ ZB σ.1) ∧ (σ.1 218 7 = σ6.1 218 7 ∧ σ.1 218 9 = σ6.1 218 9)) hT (s_X12_readsSum_220 hN (hR.tr hT) (hK) (by rw [hT.2 224 (by decide)]; exact hY) (hB) (hM.1)) (by decide) (fun v10 σ11 hOσ11 hT hqv10 => ?_)
    have hqv10 : (TOK σ11.1 ∧ (σ6.1 218 11).toInt ≤ (σ11.1 218 11).toInt ∧ (σ11.1 218 14 = 0 → σ6.1 218 14 = 0) ∧ ZB σ11.1) ∧ (σ11.1 218 7 = σ6.1 218 7 ∧ σ11.1 218 9 = σ6.1 218 9) := hqv10
    have hkv10 := hqv10
    have hqv10 := hqv10.1
    have r219_σ11 : σ11.1 219 = σ0.1 219 := (hOσ11.2 219 (by decide)).trans r219_σ6
    have hK : TOK σ11.1 := by first | exact hqv10.1 | exact TOK_p eσ11 (by decide) hK
    have hB : ZB σ11.1 := by first | exact hqv10.2.2.2 | exact hqv10 | exact ZB_s eσ11 hB
    try simp only [g20_σ6, g22_σ6, g23_σ6, g24_σ6] at hqv10
    have g7_σ11 : σ11.1 218 7 = (σ6.1 218 7) := hkv10.2.1
    have g9_σ11 : σ11.1 218 9 = (σ6.1 218 9) := hkv10.2.2
    refine ok_gC rfl ?_
    refine ok_zbX (Q := fun V => (V = 0 → ¬ σ11.1 218 14 = 0) ∧ (¬ V = 0 → σ11.1 218 14 = 0)) (x_X12_good) (fun v12 hqv12 => ?_)
    have hqv12 : (v12 = 0 → ¬ σ11.1 218 14 = 0) ∧ (¬ v12 = 0 → σ11.1 218 14 = 0) := hqv12
    try simp only [g7_σ11, g9_σ11, hT.2 224 (by decide)] at hqv12
    refine ok_if (fun hc14 => ?_) (fun hc14 => ?_)
    · have qhc14 := hqv12.1 hc14
      rw [J_X12_put_53.eq_1]
      refine ok_gC rfl ?_
      refine ok_zbX (Q := fun V => (V = 0 → ¬ σ11.1 218 14 = 0) ∧ (¬ V = 0 → σ11.1 218 14 = 0)) (x_X12_good) (fun v15 hqv15 => ?_)
      have hqv15 : (v15 = 0 → ¬ σ11.1 218 14 = 0) ∧ (¬ v15 = 0 → σ11.1 218 14 = 0) := hqv15
      try simp only [g7_σ11, g9_σ11, hT.2 224 (by decide)] at hqv15
      refine ok_if (fun hc17 => ?_) (fun hc17 => ?_)
      · have qhc17 := hqv15.1 hc17
        exact ok_some ⟨hT, (show ZB σ11.1 ∧ σ11.1 218 7 = 0 from by first | exact ⟨hB, (g7_σ11).trans t7⟩ | exact ⟨hB, g7_σ11⟩)⟩
      · have qhc17 := hqv15.2 hc17
        refine ok_lp (fun t : Int32 × zS => Tr [218, 220, 226, 227, 228, 229, 230] σ0 (t.2) ∧ (0 ≤ (t.1).toInt) ∧ (TOK (t.2).1) ∧ (ZB (t.2).1) ∧ ((t.2).1 218 7 = (σ6.1 218 7)) ∧ ((t.2).1 218 9 = (σ6.1 218 9)) ∧ ((t.2).1 218 10 = (σ11.1 218 10)) ∧ ((t.2).1 218 11 = (σ11.1 218 11)) ∧ ((t.2).1 218 12 = (σ11.1 218 12)) ∧ ((t.2).1 218 13 = (σ11.1 218 13)) ∧ ((t.2).1 218 14 = (σ11.1 218 14)) ∧ ((t.2).1 218 15 = (σ11.1 218 15)) ∧ ((t.2).1 218 20 = (σ11.1 218 20)) ∧ ((t.2).1 218 22 = (σ11.1 218 22)) ∧ ((t.2).1 218 23 = (σ11.1 218 23)) ∧ ((t.2).1 218 24 = (σ11.1 218 24)) ∧ ((t.2).1 218 25 = (σ11.1 218 25)) ∧ ((t.2).1 219 = σ0.1 219)) (fun t : Int32 × zS => (1024 - (t.1).toInt).toNat) (fun again18 t hI ih65_18 => ?_) N _ (show Tr [218, 220, 226, 227, 228, 229, 230] σ0 σ11 ∧ (0 ≤ (0 : Int32).toInt) ∧ (TOK σ11.1) ∧ (ZB σ11.1) ∧ (σ11.1 218 7 = (σ6.1 218 7)) ∧ (σ11.1 218 9 = (σ6.1 218 9)) ∧ (σ11.1 218 10 = (σ11.1 218 10)) ∧ (σ11.1 218 11 = (σ11.1 218 11)) ∧ (σ11.1 218 12 = (σ11.1 218 12)) ∧ (σ11.1 218 13 = (σ11.1 218 13)) ∧ (σ11.1 218 14 = (σ11.1 218 14)) ∧ (σ11.1 218 15 = (σ11.1 218 15)) ∧ (σ11.1 218 20 = (σ11.1 218 20)) ∧ (σ11.1 218 22 = (σ11.1 218 22)) ∧ (σ11.1 218 23 = (σ11.1 218 23)) ∧ (σ11.1 218 24 = (σ11.1 218 24)) ∧ (σ11.1 218 25 = (σ11.1 218 25)) ∧ (σ11.1 219 = σ0.1 219) from ⟨hT, (by decide), hK, hB, g7_σ11, g9_σ11, rfl, rfl, rfl, rfl, rfl, rfl, rfl, rfl, rfl, rfl, rfl, r219_σ11⟩) (show (1024 - (0 : Int32).toInt).toNat < N from (by simp only [Int32.reduceToInt]; omega))
        obtain ⟨x2_18, σ18⟩ := t
        have hI : Tr [218, 220, 226, 227, 228, 229, 230] σ0 σ18 ∧ (0 ≤ x2_18.toInt) ∧ (TOK σ18.1) ∧ (ZB σ18.1) ∧ (σ18.1 218 7 = (σ6.1 218 7)) ∧ (σ18.1 218 9 = (σ6.1 218 9)) ∧ (σ18.1 218 10 = (σ11.1 218 10)) ∧ (σ18.1 218 11 = (σ11.1 218 11)) ∧ (σ18.1 218 12 = (σ11.1 218 12)) ∧ (σ18.1 218 13 = (σ11.1 218 13)) ∧ (σ18.1 218 14 = (σ11.1 218 14)) ∧ (σ18.1 218 15 = (σ11.1 218 15)) ∧ (σ18.1 218 20 = (σ11.1 218 20)) ∧ (σ18.1 218 22 = (σ11.1 218 22)) ∧ (σ18.1 218 23 = (σ11.1 218 23)) ∧ (σ18.1 218 24 = (σ11.1 218 24)) ∧ (σ18.1 218 25 = (σ11.1 218 25)) ∧ (σ18.1 219 = σ0.1 219) := hI
        obtain ⟨hT, hI18, hK, hB, g7_σ18, g9_σ18, g10_σ18, g11_σ18, g12_σ18, g13_σ18, g14_σ18, g15_σ18, g20_σ18, g22_σ18, g23_σ18, g24_σ18, g25_σ18, r219_σ18⟩ := hI
        rw [F_X12_put_65.eq_1]
        refine ok_if (fun hc19 => ?_) (fun hc19 => ?_)
        · refine ok_gC rfl ?_
          refine ok_zbT (Q := fun V σ => ZB σ.1) hT (s_X12_lays hN (hR.tr hT) (by rw [r219_σ18]; exact hM) (hB) (h5)) (by decide) (fun v20 σ21 hOσ21 hT hqv20 => ?_)
          have hqv20 : ZB σ21.1 := hqv20
          have r219_σ21 : σ21.1 219 = σ0.1 219 := (hOσ21.2 219 (by decide)).trans r219_σ18
          have hK : TOK σ21.1 := TOK_tr hOσ21 (by decide) (by decide) hK
          have hB : ZB σ21.1 := by first | exact hqv20.2.2.2 | exact hqv20 | exact ZB_s eσ21 hB
          try simp only [g7_σ18, g9_σ18, g10_σ18, g11_σ18, g12_σ18, g13_σ18, g14_σ18, g15_σ18, g20_σ18, g22_σ18, g23_σ18, g24_σ18, g25_σ18] at hqv20
          have g7_σ21 : σ21.1 218 7 = (σ6.1 218 7) := (congrFun (hOσ21.2 218 (by decide)) 7).trans g7_σ18
          have g9_σ21 : σ21.1 218 9 = (σ6.1 218 9) := (congrFun (hOσ21.2 218 (by decide)) 9).trans g9_σ18
          have g10_σ21 : σ21.1 218 10 = (σ11.1 218 10) := (congrFun (hOσ21.2 218 (by decide)) 10).trans g10_σ18
          have g11_σ21 : σ21.1 218 11 = (σ11.1 218 11) := (congrFun (hOσ21.2 218 (by decide)) 11).trans g11_σ18
          have g12_σ21 : σ21.1 218 12 = (σ11.1 218 12) := (congrFun (hOσ21.2 218 (by decide)) 12).trans g12_σ18
          have g13_σ21 : σ21.1 218 13 = (σ11.1 218 13) := (congrFun (hOσ21.2 218 (by decide)) 13).trans g13_σ18
          have g14_σ21 : σ21.1 218 14 = (σ11.1 218 14) := (congrFun (hOσ21.2 218 (by decide)) 14).trans g14_σ18
          have g15_σ21 : σ21.1 218 15 = (σ11.1 218 15) := (congrFun (hOσ21.2 218 (by decide)) 15).trans g15_σ18
          have g20_σ21 : σ21.1 218 20 = (σ11.1 218 20) := (congrFun (hOσ21.2 218 (by decide)) 20).trans g20_σ18
          have g22_σ21 : σ21.1 218 22 = (σ11.1 218 22) := (congrFun (hOσ21.2 218 (by decide)) 22).trans g22_σ18
          have g23_σ21 : σ21.1 218 23 = (σ11.1 218 23) := (congrFun (hOσ21.2 218 (by decide)) 23).trans g23_σ18
          have g24_σ21 : σ21.1 218 24 = (σ11.1 218 24) := (congrFun (hOσ21.2 218 (by decide)) 24).trans g24_σ18
          have g25_σ21 : σ21.1 218 25 = (σ11.1 218 25) := (congrFun (hOσ21.2 218 (by decide)) 25).trans g25_σ18
          exact ok_some ⟨hT, (show ZB σ21.1 ∧ σ21.1 218 7 = 0 from by first | exact ⟨hB, (g7_σ21).trans t7⟩ | exact ⟨hB, g7_σ21⟩)⟩
        · have l68 := hc19
          rw [Int32.le_iff_toInt_le] at l68
          try simp only [Int32.reduceToInt] at l68
          have s68 : (x2_18 + 1).toInt = x2_18.toInt + 1 := by rw [ti_add]; simp only [Int32.reduceToInt]; omega
          refine ok_gR (v := 227) hT rfl (hR 218 17 rfl) ?_
          refine ok_gR (v := 226) hT rfl (hR 218 16 rfl) ?_
          refine ok_aIn rfl (by ((try simp only [g7_σ18, g9_σ18, g10_σ18, g11_σ18, g12_σ18, g13_σ18, g14_σ18, g15_σ18, g20_σ18, g22_σ18, g23_σ18, g24_σ18, g25_σ18])); first | omega | decide | (simp only [Int32.le_iff_toInt_le, Int32.lt_iff_toInt_lt, ti_add, ti_sub, ti_mul, Int32.reduceToInt] at *; omega)) (by ((try simp only [g7_σ18, g9_σ18, g10_σ18, g11_σ18, g12_σ18, g13_σ18, g14_σ18, g15_σ18, g20_σ18, g22_σ18, g23_σ18, g24_σ18, g25_σ18])); first | omega | decide | (simp only [Int32.le_iff_toInt_le, Int32.lt_iff_toInt_lt, ti_add, ti_sub, ti_mul, Int32.reduceToInt] at *; omega)) (fun v24 ev24 => ?_)
          have zv24 : v24 = 0 ∨ v24 = 1 := by rw [ev24]; exact hB 226 rfl _
          refine ok_s16 hT rfl (by decide) (by ((try simp only [g7_σ18, g9_σ18, g10_σ18, g11_σ18, g12_σ18, g13_σ18, g14_σ18, g15_σ18, g20_σ18, g22_σ18, g23_σ18, g24_σ18, g25_σ18])); first | omega | decide | (simp only [Int32.le_iff_toInt_le, Int32.lt_iff_toInt_lt, ti_add, ti_sub, ti_mul, Int32.reduceToInt] at *; omega)) (by ((try simp only [g7_σ18, g9_σ18, g10_σ18, g11_σ18, g12_σ18, g13_σ18, g14_σ18, g15_σ18, g20_σ18, g22_σ18, g23_σ18, g24_σ18, g25_σ18])); first | omega | decide | (simp only [Int32.le_iff_toInt_le, Int32.lt_iff_toInt_lt, ti_add, ti_sub, ti_mul, Int32.reduceToInt] at *; omega)) (fun σ25 eσ25 hOσ25 hT => ?_)
          have r219_σ25 : σ25.1 219 = σ0.1 219 := (hOσ25.2 219 (by decide)).trans r219_σ18
          have hK : TOK σ25.1 := TOK_tr hOσ25 (by decide) (by decide) hK
          have hB : ZB σ25.1 := by first | exact HQ.2.2.2 | exact HQ | exact ZB_s eσ25 hB
          have g7_σ25 : σ25.1 218 7 = (σ6.1 218 7) := (congrFun (hOσ25.2 218 (by decide)) 7).trans g7_σ18
          have g9_σ25 : σ25.1 218 9 = (σ6.1 218 9) := (congrFun (hOσ25.2 218 (by decide)) 9).trans g9_σ18
          have g10_σ25 : σ25.1 218 10 = (σ11.1 218 10) := (congrFun (hOσ25.2 218 (by decide)) 10).trans g10_σ18
          have g11_σ25 : σ25.1 218 11 = (σ11.1 218 11) := (congrFun (hOσ25.2 218 (by decide)) 11).trans g11_σ18
          have g12_σ25 : σ25.1 218 12 = (σ11.1 218 12) := (congrFun (hOσ25.2 218 (by decide)) 12).trans g12_σ18
          have g13_σ25 : σ25.1 218 13 = (σ11.1 218 13) := (congrFun (hOσ25.2 218 (by decide)) 13).trans g13_σ18
          have g14_σ25 : σ25.1 218 14 = (σ11.1 218 14) := (congrFun (hOσ25.2 218 (by decide)) 14).trans g14_σ18
          have g15_σ25 : σ25.1 218 15 = (σ11.1 218 15) := (congrFun (hOσ25.2 218 (by decide)) 15).trans g15_σ18
          have g20_σ25 : σ25.1 218 20 = (σ11.1 218 20) := (congrFun (hOσ25.2 218 (by decide)) 20).trans g20_σ18
          have g22_σ25 : σ25.1 218 22 = (σ11.1 218 22) := (congrFun (hOσ25.2 218 (by decide)) 22).trans g22_σ18
          have g23_σ25 : σ25.1 218 23 = (σ11.1 218 23) := (congrFun (hOσ25.2 218 (by decide)) 23).trans g23_σ18
          have g24_σ25 : σ25.1 218 24 = (σ11.1 218 24) := (congrFun (hOσ25.2 218 (by decide)) 24).trans g24_σ18
          have g25_σ25 : σ25.1 218 25 = (σ11.1 218 25) := (congrFun (hOσ25.2 218 (by decide)) 25).trans g25_σ18
          exact ih65_18 (x2_18 + 1, σ25) (show Tr [218, 220, 226, 227, 228, 229, 230] σ0 σ25 ∧ (0 ≤ (x2_18 + 1).toInt) ∧ (TOK σ25.1) ∧ (ZB σ25.1) ∧ (σ25.1 218 7 = (σ6.1 218 7)) ∧ (σ25.1 218 9 = (σ6.1 218 9)) ∧ (σ25.1 218 10 = (σ11.1 218 10)) ∧ (σ25.1 218 11 = (σ11.1 218 11)) ∧ (σ25.1 218 12 = (σ11.1 218 12)) ∧ (σ25.1 218 13 = (σ11.1 218 13)) ∧ (σ25.1 218 14 = (σ11.1 218 14)) ∧ (σ25.1 218 15 = (σ11.1 218 15)) ∧ (σ25.1 218 20 = (σ11.1 218 20)) ∧ (σ25.1 218 22 = (σ11.1 218 22)) ∧ (σ25.1 218 23 = (σ11.1 218 23)) ∧ (σ25.1 218 24 = (σ11.1 218 24)) ∧ (σ25.1 218 25 = (σ11.1 218 25)) ∧ (σ25.1 219 = σ0.1 219) from ⟨hT, (by rw [s68]; omega), hK, hB, g7_σ25, g9_σ25, g10_σ25, g11_σ25, g12_σ25, g13_σ25, g14_σ25, g15_σ25, g20_σ25, g22_σ25, g23_σ25, g24_σ25, g25_σ25, r219_σ25⟩) (show (1024 - (x2_18 + 1).toInt).toNat < (1024 - x2_18.toInt).toNat from (by rw [s68]; omega))
    · have qhc14 := hqv12.2 hc14
      refine ok_gI rfl ?_
      refine ok_if (fun hc27 => ?_) (fun hc27 => ?_)
      · rw [J_X12_put_53.eq_1]
        refine ok_gC rfl ?_
        refine ok_zbX (Q := fun V => (V = 0 → ¬ σ11.1 218 14 = 0) ∧ (¬ V = 0 → σ11.1 218 14 = 0)) (x_X12_good) (fun v28 hqv28 => ?_)
        have hqv28 : (v28 = 0 → ¬ σ11.1 218 14 = 0) ∧ (¬ v28 = 0 → σ11.1 218 14 = 0) := hqv28
        try simp only [g7_σ11, g9_σ11, hT.2 224 (by decide)] at hqv28
        refine ok_if (fun hc30 => ?_) (fun hc30 => ?_)
        · have qhc30 := hqv28.1 hc30
          exact ok_some ⟨hT, (show ZB σ11.1 ∧ σ11.1 218 7 = 0 from by first | exact ⟨hB, (g7_σ11).trans t7⟩ | exact ⟨hB, g7_σ11⟩)⟩
        · have qhc30 := hqv28.2 hc30
          refine ok_lp (fun t : Int32 × zS => Tr [218, 220, 226, 227, 228, 229, 230] σ0 (t.2) ∧ (0 ≤ (t.1).toInt) ∧ (TOK (t.2).1) ∧ (ZB (t.2).1) ∧ ((t.2).1 218 7 = (σ6.1 218 7)) ∧ ((t.2).1 218 9 = (σ6.1 218 9)) ∧ ((t.2).1 218 10 = (σ11.1 218 10)) ∧ ((t.2).1 218 11 = (σ11.1 218 11)) ∧ ((t.2).1 218 12 = (σ11.1 218 12)) ∧ ((t.2).1 218 13 = (σ11.1 218 13)) ∧ ((t.2).1 218 14 = (σ11.1 218 14)) ∧ ((t.2).1 218 15 = (σ11.1 218 15)) ∧ ((t.2).1 218 20 = (σ11.1 218 20)) ∧ ((t.2).1 218 22 = (σ11.1 218 22)) ∧ ((t.2).1 218 23 = (σ11.1 218 23)) ∧ ((t.2).1 218 24 = (σ11.1 218 24)) ∧ ((t.2).1 218 25 = (σ11.1 218 25)) ∧ ((t.2).1 219 = σ0.1 219)) (fun t : Int32 × zS => (1024 - (t.1).toInt).toNat) (fun again31 t hI ih65_31 => ?_) N _ (show Tr [218, 220, 226, 227, 228, 229, 230] σ0 σ11 ∧ (0 ≤ (0 : Int32).toInt) ∧ (TOK σ11.1) ∧ (ZB σ11.1) ∧ (σ11.1 218 7 = (σ6.1 218 7)) ∧ (σ11.1 218 9 = (σ6.1 218 9)) ∧ (σ11.1 218 10 = (σ11.1 218 10)) ∧ (σ11.1 218 11 = (σ11.1 218 11)) ∧ (σ11.1 218 12 = (σ11.1 218 12)) ∧ (σ11.1 218 13 = (σ11.1 218 13)) ∧ (σ11.1 218 14 = (σ11.1 218 14)) ∧ (σ11.1 218 15 = (σ11.1 218 15)) ∧ (σ11.1 218 20 = (σ11.1 218 20)) ∧ (σ11.1 218 22 = (σ11.1 218 22)) ∧ (σ11.1 218 23 = (σ11.1 218 23)) ∧ (σ11.1 218 24 = (σ11.1 218 24)) ∧ (σ11.1 218 25 = (σ11.1 218 25)) ∧ (σ11.1 219 = σ0.1 219) from ⟨hT, (by decide), hK, hB, g7_σ11, g9_σ11, rfl, rfl, rfl, rfl, rfl, rfl, rfl, rfl, rfl, rfl, rfl, r219_σ11⟩) (show (1024 - (0 : Int32).toInt).toNat < N from (by simp only [Int32.reduceToInt]; omega))
          obtain ⟨x2_31, σ31⟩ := t
          have hI : Tr [218, 220, 226, 227, 228, 229, 230] σ0 σ31 ∧ (0 ≤ x2_31.toInt) ∧ (TOK σ31.1) ∧ (ZB σ31.1) ∧ (σ31.1 218 7 = (σ6.1 218 7)) ∧ (σ31.1 218 9 = (σ6.1 218 9)) ∧ (σ31.1 218 10 = (σ11.1 218 10)) ∧ (σ31.1 218 11 = (σ11.1 218 11)) ∧ (σ31.1 218 12 = (σ11.1 218 12)) ∧ (σ31.1 218 13 = (σ11.1 218 13)) ∧ (σ31.1 218 14 = (σ11.1 218 14)) ∧ (σ31.1 218 15 = (σ11.1 218 15)) ∧ (σ31.1 218 20 = (σ11.1 218 20)) ∧ (σ31.1 218 22 = (σ11.1 218 22)) ∧ (σ31.1 218 23 = (σ11.1 218 23)) ∧ (σ31.1 218 24 = (σ11.1 218 24)) ∧ (σ31.1 218 25 = (σ11.1 218 25)) ∧ (σ31.1 219 = σ0.1 219) := hI
          obtain ⟨hT, hI31, hK, hB, g7_σ31, g9_σ31, g10_σ31, g11_σ31, g12_σ31, g13_σ31, g14_σ31, g15_σ31, g20_σ31, g22_σ31, g23_σ31, g24_σ31, g25_σ31, r219_σ31⟩ := hI
          rw [F_X12_put_65.eq_1]
          refine ok_if (fun hc32 => ?_) (fun hc32 => ?_)
          · refine ok_gC rfl ?_
            refine ok_zbT (Q := fun V σ => ZB σ.1) hT (s_X12_lays hN (hR.tr hT) (by rw [r219_σ31]; exact hM) (hB) (h5)) (by decide) (fun v33 σ34 hOσ34 hT hqv33 => ?_)
            have hqv33 : ZB σ34.1 := hqv33
            have r219_σ34 : σ34.1 219 = σ0.1 219 := (hOσ34.2 219 (by decide)).trans r219_σ31
            have hK : TOK σ34.1 := TOK_tr hOσ34 (by decide) (by decide) hK
            have hB : ZB σ34.1 := by first | exact hqv33.2.2.2 | exact hqv33 | exact ZB_s eσ34 hB
            try simp only [g7_σ31, g9_σ31, g10_σ31, g11_σ31, g12_σ31, g13_σ31, g14_σ31, g15_σ31, g20_σ31, g22_σ31, g23_σ31, g24_σ31, g25_σ31] at hqv33
            have g7_σ34 : σ34.1 218 7 = (σ6.1 218 7) := (congrFun (hOσ34.2 218 (by decide)) 7).trans g7_σ31
            have g9_σ34 : σ34.1 218 9 = (σ6.1 218 9) := (congrFun (hOσ34.2 218 (by decide)) 9).trans g9_σ31
            have g10_σ34 : σ34.1 218 10 = (σ11.1 218 10) := (congrFun (hOσ34.2 218 (by decide)) 10).trans g10_σ31
            have g11_σ34 : σ34.1 218 11 = (σ11.1 218 11) := (congrFun (hOσ34.2 218 (by decide)) 11).trans g11_σ31
            have g12_σ34 : σ34.1 218 12 = (σ11.1 218 12) := (congrFun (hOσ34.2 218 (by decide)) 12).trans g12_σ31
            have g13_σ34 : σ34.1 218 13 = (σ11.1 218 13) := (congrFun (hOσ34.2 218 (by decide)) 13).trans g13_σ31
            have g14_σ34 : σ34.1 218 14 = (σ11.1 218 14) := (congrFun (hOσ34.2 218 (by decide)) 14).trans g14_σ31
            have g15_σ34 : σ34.1 218 15 = (σ11.1 218 15) := (congrFun (hOσ34.2 218 (by decide)) 15).trans g15_σ31
            have g20_σ34 : σ34.1 218 20 = (σ11.1 218 20) := (congrFun (hOσ34.2 218 (by decide)) 20).trans g20_σ31
            have g22_σ34 : σ34.1 218 22 = (σ11.1 218 22) := (congrFun (hOσ34.2 218 (by decide)) 22).trans g22_σ31
            have g23_σ34 : σ34.1 218 23 = (σ11.1 218 23) := (congrFun (hOσ34.2 218 (by decide)) 23).trans g23_σ31
            have g24_σ34 : σ34.1 218 24 = (σ11.1 218 24) := (congrFun (hOσ34.2 218 (by decide)) 24).trans g24_σ31
            have g25_σ34 : σ34.1 218 25 = (σ11.1 218 25) := (congrFun (hOσ34.2 218 (by decide)) 25).trans g25_σ31
            exact ok_some ⟨hT, (show ZB σ34.1 ∧ σ34.1 218 7 = 0 from by first | exact ⟨hB, (g7_σ34).trans t7⟩ | exact ⟨hB, g7_σ34⟩)⟩
          · have l68 := hc32
            rw [Int32.le_iff_toInt_le] at l68
            try simp only [Int32.reduceToInt] at l68
            have s68 : (x2_31 + 1).toInt = x2_31.toInt + 1 := by rw [ti_add]; simp only [Int32.reduceToInt]; omega
            refine ok_gR (v := 227) hT rfl (hR 218 17 rfl) ?_
            refine ok_gR (v := 226) hT rfl (hR 218 16 rfl) ?_
            refine ok_aIn rfl (by ((try simp only [g7_σ31, g9_σ31, g10_σ31, g11_σ31, g12_σ31, g13_σ31, g14_σ31, g15_σ31, g20_σ31, g22_σ31, g23_σ31, g24_σ31, g25_σ31])); first | omega | decide | (simp only [Int32.le_iff_toInt_le, Int32.lt_iff_toInt_lt, ti_add, ti_sub, ti_mul, Int32.reduceToInt] at *; omega)) (by ((try simp only [g7_σ31, g9_σ31, g10_σ31, g11_σ31, g12_σ31, g13_σ31, g14_σ31, g15_σ31, g20_σ31, g22_σ31, g23_σ31, g24_σ31, g25_σ31])); first | omega | decide | (simp only [Int32.le_iff_toInt_le, Int32.lt_iff_toInt_lt, ti_add, ti_sub, ti_mul, Int32.reduceToInt] at *; omega)) (fun v37 ev37 => ?_)
            have zv37 : v37 = 0 ∨ v37 = 1 := by rw [ev37]; exact hB 226 rfl _
            refine ok_s16 hT rfl (by decide) (by ((try simp only [g7_σ31, g9_σ31, g10_σ31, g11_σ31, g12_σ31, g13_σ31, g14_σ31, g15_σ31, g20_σ31, g22_σ31, g23_σ31, g24_σ31, g25_σ31])); first | omega | decide | (simp only [Int32.le_iff_toInt_le, Int32.lt_iff_toInt_lt, ti_add, ti_sub, ti_mul, Int32.reduceToInt] at *; omega)) (by ((try simp only [g7_σ31, g9_σ31, g10_σ31, g11_σ31, g12_σ31, g13_σ31, g14_σ31, g15_σ31, g20_σ31, g22_σ31, g23_σ31, g24_σ31, g25_σ31])); first | omega | decide | (simp only [Int32.le_iff_toInt_le, Int32.lt_iff_toInt_lt, ti_add, ti_sub, ti_mul, Int32.reduceToInt] at *; omega)) (fun σ38 eσ38 hOσ38 hT => ?_)
            have r219_σ38 : σ38.1 219 = σ0.1 219 := (hOσ38.2 219 (by decide)).trans r219_σ31
            have hK : TOK σ38.1 := TOK_tr hOσ38 (by decide) (by decide) hK
            have hB : ZB σ38.1 := by first | exact HQ.2.2.2 | exact HQ | exact ZB_s eσ38 hB
            have g7_σ38 : σ38.1 218 7 = (σ6.1 218 7) := (congrFun (hOσ38.2 218 (by decide)) 7).trans g7_σ31
            have g9_σ38 : σ38.1 218 9 = (σ6.1 218 9) := (congrFun (hOσ38.2 218 (by decide)) 9).trans g9_σ31
            have g10_σ38 : σ38.1 218 10 = (σ11.1 218 10) := (congrFun (hOσ38.2 218 (by decide)) 10).trans g10_σ31
            have g11_σ38 : σ38.1 218 11 = (σ11.1 218 11) := (congrFun (hOσ38.2 218 (by decide)) 11).trans g11_σ31
            have g12_σ38 : σ38.1 218 12 = (σ11.1 218 12) := (congrFun (hOσ38.2 218 (by decide)) 12).trans g12_σ31
            have g13_σ38 : σ38.1 218 13 = (σ11.1 218 13) := (congrFun (hOσ38.2 218 (by decide)) 13).trans g13_σ31
            have g14_σ38 : σ38.1 218 14 = (σ11.1 218 14) := (congrFun (hOσ38.2 218 (by decide)) 14).trans g14_σ31
            have g15_σ38 : σ38.1 218 15 = (σ11.1 218 15) := (congrFun (hOσ38.2 218 (by decide)) 15).trans g15_σ31
            have g20_σ38 : σ38.1 218 20 = (σ11.1 218 20) := (congrFun (hOσ38.2 218 (by decide)) 20).trans g20_σ31
            have g22_σ38 : σ38.1 218 22 = (σ11.1 218 22) := (congrFun (hOσ38.2 218 (by decide)) 22).trans g22_σ31
            have g23_σ38 : σ38.1 218 23 = (σ11.1 218 23) := (congrFun (hOσ38.2 218 (by decide)) 23).trans g23_σ31
            have g24_σ38 : σ38.1 218 24 = (σ11.1 218 24) := (congrFun (hOσ38.2 218 (by decide)) 24).trans g24_σ31
            have g25_σ38 : σ38.1 218 25 = (σ11.1 218 25) := (congrFun (hOσ38.2 218 (by decide)) 25).trans g25_σ31
            exact ih65_31 (x2_31 + 1, σ38) (show Tr [218, 220, 226, 227, 228, 229, 230] σ0 σ38 ∧ (0 ≤ (x2_31 + 1).toInt) ∧ (TOK σ38.1) ∧ (ZB σ38.1) ∧ (σ38.1 218 7 = (σ6.1 218 7)) ∧ (σ38.1 218 9 = (σ6.1 218 9)) ∧ (σ38.1 218 10 = (σ11.1 218 10)) ∧ (σ38.1 218 11 = (σ11.1 218 11)) ∧ (σ38.1 218 12 = (σ11.1 218 12)) ∧ (σ38.1 218 13 = (σ11.1 218 13)) ∧ (σ38.1 218 14 = (σ11.1 218 14)) ∧ (σ38.1 218 15 = (σ11.1 218 15)) ∧ (σ38.1 218 20 = (σ11.1 218 20)) ∧ (σ38.1 218 22 = (σ11.1 218 22)) ∧ (σ38.1 218 23 = (σ11.1 218 23)) ∧ (σ38.1 218 24 = (σ11.1 218 24)) ∧ (σ38.1 218 25 = (σ11.1 218 25)) ∧ (σ38.1 219 = σ0.1 219) from ⟨hT, (by rw [s68]; omega), hK, hB, g7_σ38, g9_σ38, g10_σ38, g11_σ38, g12_σ38, g13_σ38, g14_σ38, g15_σ38, g20_σ38, g22_σ38, g23_σ38, g24_σ38, g25_σ38, r219_σ38⟩) (show (1024 - (x2_31 + 1).toInt).toNat < (1024 - x2_31.toInt).toNat from (by rw [s68]; omega))
      · refine ok_gC rfl ?_
        refine ok_zbT (Q := fun V σ => (TOK σ.1 ∧ ¬ σ.1 218 14 = 0) ∧ (σ.1 218 7 = σ11.1 218 7 ∧ σ.1 218 9 = σ11.1 218 9 ∧ σ.1 218 10 = σ11.1 218 10 ∧ σ.1 218 11 = σ11.1 218 11 ∧ σ.1 218 12 = σ11.1 218 12 ∧ σ.1 218 13 = σ11.1 218 13 ∧ σ.1 218 20 = σ11.1 218 20 ∧ σ.1 218 22 = σ11.1 218 22 ∧ σ.1 218 23 = σ11.1 218 23 ∧ σ.1 218 24 = σ11.1 218 24 ∧ σ.1 218 25 = σ11.1 218 25)) hT (s_X12_errs hN (hR.tr hT) (hK) (by rw [hT.2 224 (by decide)]; exact hY) (by decide)) (by decide) (fun v39 σ40 hOσ40 hT hqv39 => ?_)
        have hqv39 : (TOK σ40.1 ∧ ¬ σ40.1 218 14 = 0) ∧ (σ40.1 218 7 = σ11.1 218 7 ∧ σ40.1 218 9 = σ11.1 218 9 ∧ σ40.1 218 10 = σ11.1 218 10 ∧ σ40.1 218 11 = σ11.1 218 11 ∧ σ40.1 218 12 = σ11.1 218 12 ∧ σ40.1 218 13 = σ11.1 218 13 ∧ σ40.1 218 20 = σ11.1 218 20 ∧ σ40.1 218 22 = σ11.1 218 22 ∧ σ40.1 218 23 = σ11.1 218 23 ∧ σ40.1 218 24 = σ11.1 218 24 ∧ σ40.1 218 25 = σ11.1 218 25) := hqv39
        have hkv39 := hqv39
        have hqv39 := hqv39.1
        have r219_σ40 : σ40.1 219 = σ0.1 219 := (hOσ40.2 219 (by decide)).trans r219_σ11
        have hK : TOK σ40.1 := by first | exact hqv39.1 | exact TOK_p eσ40 (by decide) hK
        have hB : ZB σ40.1 := ZB.tr hOσ40 (by decide) hB
        try simp only [g7_σ11, g9_σ11] at hqv39
        have g7_σ40 : σ40.1 218 7 = (σ6.1 218 7) := (hkv39.2.1).trans g7_σ11
        have g9_σ40 : σ40.1 218 9 = (σ6.1 218 9) := (hkv39.2.2.1).trans g9_σ11
        have g10_σ40 : σ40.1 218 10 = (σ11.1 218 10) := hkv39.2.2.2.1
        have g11_σ40 : σ40.1 218 11 = (σ11.1 218 11) := hkv39.2.2.2.2.1
        have g12_σ40 : σ40.1 218 12 = (σ11.1 218 12) := hkv39.2.2.2.2.2.1
        have g13_σ40 : σ40.1 218 13 = (σ11.1 218 13) := hkv39.2.2.2.2.2.2.1
        have g20_σ40 : σ40.1 218 20 = (σ11.1 218 20) := hkv39.2.2.2.2.2.2.2.1
        have g22_σ40 : σ40.1 218 22 = (σ11.1 218 22) := hkv39.2.2.2.2.2.2.2.2.1
        have g23_σ40 : σ40.1 218 23 = (σ11.1 218 23) := hkv39.2.2.2.2.2.2.2.2.2.1
        have g24_σ40 : σ40.1 218 24 = (σ11.1 218 24) := hkv39.2.2.2.2.2.2.2.2.2.2.1
        have g25_σ40 : σ40.1 218 25 = (σ11.1 218 25) := hkv39.2.2.2.2.2.2.2.2.2.2.2
        rw [J_X12_put_53.eq_1]
        refine ok_gC rfl ?_
        refine ok_zbX (Q := fun V => (V = 0 → ¬ σ40.1 218 14 = 0) ∧ (¬ V = 0 → σ40.1 218 14 = 0)) (x_X12_good) (fun v41 hqv41 => ?_)
        have hqv41 : (v41 = 0 → ¬ σ40.1 218 14 = 0) ∧ (¬ v41 = 0 → σ40.1 218 14 = 0) := hqv41
        try simp only [g7_σ40, g9_σ40, g10_σ40, g11_σ40, g12_σ40, g13_σ40, g20_σ40, g22_σ40, g23_σ40, g24_σ40, g25_σ40, hT.2 224 (by decide)] at hqv41
        refine ok_if (fun hc43 => ?_) (fun hc43 => ?_)
        · have qhc43 := hqv41.1 hc43
          exact ok_some ⟨hT, (show ZB σ40.1 ∧ σ40.1 218 7 = 0 from by first | exact ⟨hB, (g7_σ40).trans t7⟩ | exact ⟨hB, g7_σ40⟩)⟩
        · have qhc43 := hqv41.2 hc43
          refine ok_lp (fun t : Int32 × zS => Tr [218, 220, 226, 227, 228, 229, 230] σ0 (t.2) ∧ (0 ≤ (t.1).toInt) ∧ (TOK (t.2).1) ∧ (ZB (t.2).1) ∧ ((t.2).1 218 7 = (σ6.1 218 7)) ∧ ((t.2).1 218 9 = (σ6.1 218 9)) ∧ ((t.2).1 218 10 = (σ11.1 218 10)) ∧ ((t.2).1 218 11 = (σ11.1 218 11)) ∧ ((t.2).1 218 12 = (σ11.1 218 12)) ∧ ((t.2).1 218 13 = (σ11.1 218 13)) ∧ ((t.2).1 218 14 = (σ40.1 218 14)) ∧ ((t.2).1 218 15 = (σ40.1 218 15)) ∧ ((t.2).1 218 20 = (σ11.1 218 20)) ∧ ((t.2).1 218 22 = (σ11.1 218 22)) ∧ ((t.2).1 218 23 = (σ11.1 218 23)) ∧ ((t.2).1 218 24 = (σ11.1 218 24)) ∧ ((t.2).1 218 25 = (σ11.1 218 25)) ∧ ((t.2).1 219 = σ0.1 219)) (fun t : Int32 × zS => (1024 - (t.1).toInt).toNat) (fun again44 t hI ih65_44 => ?_) N _ (show Tr [218, 220, 226, 227, 228, 229, 230] σ0 σ40 ∧ (0 ≤ (0 : Int32).toInt) ∧ (TOK σ40.1) ∧ (ZB σ40.1) ∧ (σ40.1 218 7 = (σ6.1 218 7)) ∧ (σ40.1 218 9 = (σ6.1 218 9)) ∧ (σ40.1 218 10 = (σ11.1 218 10)) ∧ (σ40.1 218 11 = (σ11.1 218 11)) ∧ (σ40.1 218 12 = (σ11.1 218 12)) ∧ (σ40.1 218 13 = (σ11.1 218 13)) ∧ (σ40.1 218 14 = (σ40.1 218 14)) ∧ (σ40.1 218 15 = (σ40.1 218 15)) ∧ (σ40.1 218 20 = (σ11.1 218 20)) ∧ (σ40.1 218 22 = (σ11.1 218 22)) ∧ (σ40.1 218 23 = (σ11.1 218 23)) ∧ (σ40.1 218 24 = (σ11.1 218 24)) ∧ (σ40.1 218 25 = (σ11.1 218 25)) ∧ (σ40.1 219 = σ0.1 219) from ⟨hT, (by decide), hK, hB, g7_σ40, g9_σ40, g10_σ40, g11_σ40, g12_σ40, g13_σ40, rfl, rfl, g20_σ40, g22_σ40, g23_σ40, g24_σ40, g25_σ40, r219_σ40⟩) (show (1024 - (0 : Int32).toInt).toNat < N from (by simp only [Int32.reduceToInt]; omega))
          obtain ⟨x2_44, σ44⟩ := t
          have hI : Tr [218, 220, 226, 227, 228, 229, 230] σ0 σ44 ∧ (0 ≤ x2_44.toInt) ∧ (TOK σ44.1) ∧ (ZB σ44.1) ∧ (σ44.1 218 7 = (σ6.1 218 7)) ∧ (σ44.1 218 9 = (σ6.1 218 9)) ∧ (σ44.1 218 10 = (σ11.1 218 10)) ∧ (σ44.1 218 11 = (σ11.1 218 11)) ∧ (σ44.1 218 12 = (σ11.1 218 12)) ∧ (σ44.1 218 13 = (σ11.1 218 13)) ∧ (σ44.1 218 14 = (σ40.1 218 14)) ∧ (σ44.1 218 15 = (σ40.1 218 15)) ∧ (σ44.1 218 20 = (σ11.1 218 20)) ∧ (σ44.1 218 22 = (σ11.1 218 22)) ∧ (σ44.1 218 23 = (σ11.1 218 23)) ∧ (σ44.1 218 24 = (σ11.1 218 24)) ∧ (σ44.1 218 25 = (σ11.1 218 25)) ∧ (σ44.1 219 = σ0.1 219) := hI
          obtain ⟨hT, hI44, hK, hB, g7_σ44, g9_σ44, g10_σ44, g11_σ44, g12_σ44, g13_σ44, g14_σ44, g15_σ44, g20_σ44, g22_σ44, g23_σ44, g24_σ44, g25_σ44, r219_σ44⟩ := hI
          rw [F_X12_put_65.eq_1]
          refine ok_if (fun hc45 => ?_) (fun hc45 => ?_)
          · refine ok_gC rfl ?_
            refine ok_zbT (Q := fun V σ => ZB σ.1) hT (s_X12_lays hN (hR.tr hT) (by rw [r219_σ44]; exact hM) (hB) (h5)) (by decide) (fun v46 σ47 hOσ47 hT hqv46 => ?_)
            have hqv46 : ZB σ47.1 := hqv46
            have r219_σ47 : σ47.1 219 = σ0.1 219 := (hOσ47.2 219 (by decide)).trans r219_σ44
            have hK : TOK σ47.1 := TOK_tr hOσ47 (by decide) (by decide) hK
            have hB : ZB σ47.1 := by first | exact hqv46.2.2.2 | exact hqv46 | exact ZB_s eσ47 hB
            try simp only [g7_σ44, g9_σ44, g10_σ44, g11_σ44, g12_σ44, g13_σ44, g14_σ44, g15_σ44, g20_σ44, g22_σ44, g23_σ44, g24_σ44, g25_σ44] at hqv46
            have g7_σ47 : σ47.1 218 7 = (σ6.1 218 7) := (congrFun (hOσ47.2 218 (by decide)) 7).trans g7_σ44
            have g9_σ47 : σ47.1 218 9 = (σ6.1 218 9) := (congrFun (hOσ47.2 218 (by decide)) 9).trans g9_σ44
            have g10_σ47 : σ47.1 218 10 = (σ11.1 218 10) := (congrFun (hOσ47.2 218 (by decide)) 10).trans g10_σ44
            have g11_σ47 : σ47.1 218 11 = (σ11.1 218 11) := (congrFun (hOσ47.2 218 (by decide)) 11).trans g11_σ44
            have g12_σ47 : σ47.1 218 12 = (σ11.1 218 12) := (congrFun (hOσ47.2 218 (by decide)) 12).trans g12_σ44
            have g13_σ47 : σ47.1 218 13 = (σ11.1 218 13) := (congrFun (hOσ47.2 218 (by decide)) 13).trans g13_σ44
            have g14_σ47 : σ47.1 218 14 = (σ40.1 218 14) := (congrFun (hOσ47.2 218 (by decide)) 14).trans g14_σ44
            have g15_σ47 : σ47.1 218 15 = (σ40.1 218 15) := (congrFun (hOσ47.2 218 (by decide)) 15).trans g15_σ44
            have g20_σ47 : σ47.1 218 20 = (σ11.1 218 20) := (congrFun (hOσ47.2 218 (by decide)) 20).trans g20_σ44
            have g22_σ47 : σ47.1 218 22 = (σ11.1 218 22) := (congrFun (hOσ47.2 218 (by decide)) 22).trans g22_σ44
            have g23_σ47 : σ47.1 218 23 = (σ11.1 218 23) := (congrFun (hOσ47.2 218 (by decide)) 23).trans g23_σ44
            have g24_σ47 : σ47.1 218 24 = (σ11.1 218 24) := (congrFun (hOσ47.2 218 (by decide)) 24).trans g24_σ44
            have g25_σ47 : σ47.1 218 25 = (σ11.1 218 25) := (congrFun (hOσ47.2 218 (by decide)) 25).trans g25_σ44
            exact ok_some ⟨hT, (show ZB σ47.1 ∧ σ47.1 218 7 = 0 from by first | exact ⟨hB, (g7_σ47).trans t7⟩ | exact ⟨hB, g7_σ47⟩)⟩
          · have l68 := hc45
            rw [Int32.le_iff_toInt_le] at l68
            try simp only [Int32.reduceToInt] at l68
            have s68 : (x2_44 + 1).toInt = x2_44.toInt + 1 := by rw [ti_add]; simp only [Int32.reduceToInt]; omega
            refine ok_gR (v := 227) hT rfl (hR 218 17 rfl) ?_
            refine ok_gR (v := 226) hT rfl (hR 218 16 rfl) ?_
            refine ok_aIn rfl (by ((try simp only [g7_σ44, g9_σ44, g10_σ44, g11_σ44, g12_σ44, g13_σ44, g14_σ44, g15_σ44, g20_σ44, g22_σ44, g23_σ44, g24_σ44, g25_σ44])); first | omega | decide | (simp only [Int32.le_iff_toInt_le, Int32.lt_iff_toInt_lt, ti_add, ti_sub, ti_mul, Int32.reduceToInt] at *; omega)) (by ((try simp only [g7_σ44, g9_σ44, g10_σ44, g11_σ44, g12_σ44, g13_σ44, g14_σ44, g15_σ44, g20_σ44, g22_σ44, g23_σ44, g24_σ44, g25_σ44])); first | omega | decide | (simp only [Int32.le_iff_toInt_le, Int32.lt_iff_toInt_lt, ti_add, ti_sub, ti_mul, Int32.reduceToInt] at *; omega)) (fun v50 ev50 => ?_)
            have zv50 : v50 = 0 ∨ v50 = 1 := by rw [ev50]; exact hB 226 rfl _
            refine ok_s16 hT rfl (by decide) (by ((try simp only [g7_σ44, g9_σ44, g10_σ44, g11_σ44, g12_σ44, g13_σ44, g14_σ44, g15_σ44, g20_σ44, g22_σ44, g23_σ44, g24_σ44, g25_σ44])); first | omega | decide | (simp only [Int32.le_iff_toInt_le, Int32.lt_iff_toInt_lt, ti_add, ti_sub, ti_mul, Int32.reduceToInt] at *; omega)) (by ((try simp only [g7_σ44, g9_σ44, g10_σ44, g11_σ44, g12_σ44, g13_σ44, g14_σ44, g15_σ44, g20_σ44, g22_σ44, g23_σ44, g24_σ44, g25_σ44])); first | omega | decide | (simp only [Int32.le_iff_toInt_le, Int32.lt_iff_toInt_lt, ti_add, ti_sub, ti_mul, Int32.reduceToInt] at *; omega)) (fun σ51 eσ51 hOσ51 hT => ?_)
            have r219_σ51 : σ51.1 219 = σ0.1 219 := (hOσ51.2 219 (by decide)).trans r219_σ44
            have hK : TOK σ51.1 := TOK_tr hOσ51 (by decide) (by decide) hK
            have hB : ZB σ51.1 := by first | exact HQ.2.2.2 | exact HQ | exact ZB_s eσ51 hB
            have g7_σ51 : σ51.1 218 7 = (σ6.1 218 7) := (congrFun (hOσ51.2 218 (by decide)) 7).trans g7_σ44
            have g9_σ51 : σ51.1 218 9 = (σ6.1 218 9) := (congrFun (hOσ51.2 218 (by decide)) 9).trans g9_σ44
            have g10_σ51 : σ51.1 218 10 = (σ11.1 218 10) := (congrFun (hOσ51.2 218 (by decide)) 10).trans g10_σ44
            have g11_σ51 : σ51.1 218 11 = (σ11.1 218 11) := (congrFun (hOσ51.2 218 (by decide)) 11).trans g11_σ44
            have g12_σ51 : σ51.1 218 12 = (σ11.1 218 12) := (congrFun (hOσ51.2 218 (by decide)) 12).trans g12_σ44
            have g13_σ51 : σ51.1 218 13 = (σ11.1 218 13) := (congrFun (hOσ51.2 218 (by decide)) 13).trans g13_σ44
            have g14_σ51 : σ51.1 218 14 = (σ40.1 218 14) := (congrFun (hOσ51.2 218 (by decide)) 14).trans g14_σ44
            have g15_σ51 : σ51.1 218 15 = (σ40.1 218 15) := (congrFun (hOσ51.2 218 (by decide)) 15).trans g15_σ44
            have g20_σ51 : σ51.1 218 20 = (σ11.1 218 20) := (congrFun (hOσ51.2 218 (by decide)) 20).trans g20_σ44
            have g22_σ51 : σ51.1 218 22 = (σ11.1 218 22) := (congrFun (hOσ51.2 218 (by decide)) 22).trans g22_σ44
            have g23_σ51 : σ51.1 218 23 = (σ11.1 218 23) := (congrFun (hOσ51.2 218 (by decide)) 23).trans g23_σ44
            have g24_σ51 : σ51.1 218 24 = (σ11.1 218 24) := (congrFun (hOσ51.2 218 (by decide)) 24).trans g24_σ44
            have g25_σ51 : σ51.1 218 25 = (σ11.1 218 25) := (congrFun (hOσ51.2 218 (by decide)) 25).trans g25_σ44
            exact ih65_44 (x2_44 + 1, σ51) (show Tr [218, 220, 226, 227, 228, 229, 230] σ0 σ51 ∧ (0 ≤ (x2_44 + 1).toInt) ∧ (TOK σ51.1) ∧ (ZB σ51.1) ∧ (σ51.1 218 7 = (σ6.1 218 7)) ∧ (σ51.1 218 9 = (σ6.1 218 9)) ∧ (σ51.1 218 10 = (σ11.1 218 10)) ∧ (σ51.1 218 11 = (σ11.1 218 11)) ∧ (σ51.1 218 12 = (σ11.1 218 12)) ∧ (σ51.1 218 13 = (σ11.1 218 13)) ∧ (σ51.1 218 14 = (σ40.1 218 14)) ∧ (σ51.1 218 15 = (σ40.1 218 15)) ∧ (σ51.1 218 20 = (σ11.1 218 20)) ∧ (σ51.1 218 22 = (σ11.1 218 22)) ∧ (σ51.1 218 23 = (σ11.1 218 23)) ∧ (σ51.1 218 24 = (σ11.1 218 24)) ∧ (σ51.1 218 25 = (σ11.1 218 25)) ∧ (σ51.1 219 = σ0.1 219) from ⟨hT, (by rw [s68]; omega), hK, hB, g7_σ51, g9_σ51, g10_σ51, g11_σ51, g12_σ51, g13_σ51, g14_σ51, g15_σ51, g20_σ51, g22_σ51, g23_σ51, g24_σ51, g25_σ51, r219_σ51⟩) (show (1024 - (x2_44 + 1).toInt).toNat < (1024 - x2_44.toInt).toNat from (by rw [s68]; omega))

set_option maxHeartbeats 4000000 in
set_option maxRecDepth 100000 in
theorem s_X12_world {N : Nat} (hN : 1048576 ≤ N)  {σ0 : zS}  (hR : RF σ0.2.2) (hM : MW (σ0.1 219) 0) (hB : ZB σ0.1) (htp : 0 ≤ (σ0.1 218 7).toInt ∧ (σ0.1 218 7).toInt ≤ 600) (hY : BYT (σ0.1 224)) : Ok (f_X12_world N 218 σ0) (fun r => Tr [218, 219, 220, 226, 227, 228, 229, 230, 231, 232] σ0 r.2 ∧ (MW (r.2.1 219) 0 ∧ ZB r.2.1 ∧ r.2.1 218 7 = 0)) := by
  have hT : Tr [218, 219, 220, 226, 227, 228, 229, 230, 231, 232] σ0 σ0 := Tr.rf
  rw [f_X12_world.eq_1]
  refine ok_gC rfl ?_
  refine ok_zbT (Q := fun V σ => (TOK σ.1 ∧ σ.1 218 14 = 0 ∧ σ.1 218 25 = 0 ∧ σ.1 218 7 = 0) ∧ (σ.1 218 20 = σ0.1 218 20 ∧ σ.1 218 22 = σ0.1 218 22 ∧ σ.1 218 23 = σ0.1 218 23 ∧ σ.1 218 24 = σ0.1 218 24)) hT (s_X12_begins hN (hR.tr hT) (htp) (by rw [hT.2 224 (by decide)]; exact hY)) (by decide) (fun v1 σ2 hOσ2 hT hqv1 => ?_)
  have hqv1 : (TOK σ2.1 ∧ σ2.1 218 14 = 0 ∧ σ2.1 218 25 = 0 ∧ σ2.1 218 7 = 0) ∧ (σ2.1 218 20 = σ0.1 218 20 ∧ σ2.1 218 22 = σ0.1 218 22 ∧ σ2.1 218 23 = σ0.1 218 23 ∧ σ2.1 218 24 = σ0.1 218 24) := hqv1
  have hkv1 := hqv1
  have hqv1 := hqv1.1
  have r219_σ2 : σ2.1 219 = σ0.1 219 := hOσ2.2 219 (by decide)
  have r231_σ2 : σ2.1 231 = σ0.1 231 := hOσ2.2 231 (by decide)
  have hK : TOK σ2.1 := by first | exact hqv1.1 | exact TOK_p eσ2 (by decide) hK
  have hB : ZB σ2.1 := ZB.tr hOσ2 (by decide) hB
  have g20_σ2 : σ2.1 218 20 = (σ0.1 218 20) := hkv1.2.1
  have g22_σ2 : σ2.1 218 22 = (σ0.1 218 22) := hkv1.2.2.1
  have g23_σ2 : σ2.1 218 23 = (σ0.1 218 23) := hkv1.2.2.2.1
  have g24_σ2 : σ2.1 218 24 = (σ0.1 218 24) := hkv1.2.2.2.2
  have t7 := hqv1.2.2.2
  refine ok_lp (fun t : Int32 × zS => Tr [218, 219, 220, 226, 227, 228, 229, 230, 231, 232] σ0 (t.2) ∧ (0 ≤ (t.1).toInt ∧ ∀ j : Nat, (j : Int) < (t.1).toInt → (t.2).1 231 j = 0) ∧ (TOK (t.2).1) ∧ (ZB (t.2).1) ∧ ((t.2).1 218 7 = (σ2.1 218 7)) ∧ ((t.2).1 218 9 = (σ2.1 218 9)) ∧ ((t.2).1 218 10 = (σ2.1 218 10)) ∧ ((t.2).1 218 11 = (σ2.1 218 11)) ∧ ((t.2).1 218 12 = (σ2.1 218 12)) ∧ ((t.2).1 218 13 = (σ2.1 218 13)) ∧ ((t.2).1 218 14 = (σ2.1 218 14)) ∧ ((t.2).1 218 15 = (σ2.1 218 15)) ∧ ((t.2).1 218 20 = (σ0.1 218 20)) ∧ ((t.2).1 218 22 = (σ0.1 218 22)) ∧ ((t.2).1 218 23 = (σ0.1 218 23)) ∧ ((t.2).1 218 24 = (σ0.1 218 24)) ∧ ((t.2).1 218 25 = (σ2.1 218 25)) ∧ ((t.2).1 219 = σ0.1 219)) (fun t : Int32 × zS => (43 - (t.1).toInt).toNat) (fun again3 t hI ih6_3 => ?_) N _ (show Tr [218, 219, 220, 226, 227, 228, 229, 230, 231, 232] σ0 σ2 ∧ (0 ≤ (0 : Int32).toInt ∧ ∀ j : Nat, (j : Int) < (0 : Int32).toInt → σ2.1 231 j = 0) ∧ (TOK σ2.1) ∧ (ZB σ2.1) ∧ (σ2.1 218 7 = (σ2.1 218 7)) ∧ (σ2.1 218 9 = (σ2.1 218 9)) ∧ (σ2.1 218 10 = (σ2.1 218 10)) ∧ (σ2.1 218 11 = (σ2.1 218 11)) ∧ (σ2.1 218 12 = (σ2.1 218 12)) ∧ (σ2.1 218 13 = (σ2.1 218 13)) ∧ (σ2.1 218 14 = (σ2.1 218 14)) ∧ (σ2.1 218 15 = (σ2.1 218 15)) ∧ (σ2.1 218 20 = (σ0.1 218 20)) ∧ (σ2.1 218 22 = (σ0.1 218 22)) ∧ (σ2.1 218 23 = (σ0.1 218 23)) ∧ (σ2.1 218 24 = (σ0.1 218 24)) ∧ (σ2.1 218 25 = (σ2.1 218 25)) ∧ (σ2.1 219 = σ0.1 219) from ⟨hT, (by exact ⟨by decide, fun j hj => absurd hj (by simp only [Int32.reduceToInt]; omega)⟩), hK, hB, rfl, rfl, rfl, rfl, rfl, rfl, rfl, rfl, g20_σ2, g22_σ2, g23_σ2, g24_σ2, rfl, r219_σ2⟩) (show (43 - (0 : Int32).toInt).toNat < N from (by simp only [Int32.reduceToInt]; omega))
  obtain ⟨x1_3, σ3⟩ := t
  have hI : Tr [218, 219, 220, 226, 227, 228, 229, 230, 231, 232] σ0 σ3 ∧ (0 ≤ x1_3.toInt ∧ ∀ j : Nat, (j : Int) < x1_3.toInt → σ3.1 231 j = 0) ∧ (TOK σ3.1) ∧ (ZB σ3.1) ∧ (σ3.1 218 7 = (σ2.1 218 7)) ∧ (σ3.1 218 9 = (σ2.1 218 9)) ∧ (σ3.1 218 10 = (σ2.1 218 10)) ∧ (σ3.1 218 11 = (σ2.1 218 11)) ∧ (σ3.1 218 12 = (σ2.1 218 12)) ∧ (σ3.1 218 13 = (σ2.1 218 13)) ∧ (σ3.1 218 14 = (σ2.1 218 14)) ∧ (σ3.1 218 15 = (σ2.1 218 15)) ∧ (σ3.1 218 20 = (σ0.1 218 20)) ∧ (σ3.1 218 22 = (σ0.1 218 22)) ∧ (σ3.1 218 23 = (σ0.1 218 23)) ∧ (σ3.1 218 24 = (σ0.1 218 24)) ∧ (σ3.1 218 25 = (σ2.1 218 25)) ∧ (σ3.1 219 = σ0.1 219) := hI
  obtain ⟨hT, hI3, hK, hB, g7_σ3, g9_σ3, g10_σ3, g11_σ3, g12_σ3, g13_σ3, g14_σ3, g15_σ3, g20_σ3, g22_σ3, g23_σ3, g24_σ3, g25_σ3, r219_σ3⟩ := hI
  rw [F_X12_world_6.eq_1]
  have h1 := hI3.1
  have z6 := hI3.2
  refine ok_if (fun hc4 => ?_) (fun hc4 => ?_)
  · have l67 := hc4
    rw [Int32.le_iff_toInt_le] at l67
    try simp only [Int32.reduceToInt] at l67
    have hF0 := FW_0 (fun j hj => z6 j (by omega))
    have z1 := z6 1 (by omega)
    have z2 := z6 2 (by omega)
    refine ok_lp (fun t : Int32 × zS => Tr [218, 219, 220, 226, 227, 228, 229, 230, 231, 232] σ0 (t.2) ∧ (0 ≤ (t.1).toInt) ∧ (TOK (t.2).1) ∧ (ZB (t.2).1) ∧ ((t.2).1 218 7 = (σ2.1 218 7)) ∧ ((t.2).1 218 9 = (σ2.1 218 9)) ∧ ((t.2).1 218 10 = (σ2.1 218 10)) ∧ ((t.2).1 218 11 = (σ2.1 218 11)) ∧ ((t.2).1 218 12 = (σ2.1 218 12)) ∧ ((t.2).1 218 13 = (σ2.1 218 13)) ∧ ((t.2).1 218 14 = (σ2.1 218 14)) ∧ ((t.2).1 218 15 = (σ2.1 218 15)) ∧ ((t.2).1 218 20 = (σ0.1 218 20)) ∧ ((t.2).1 218 22 = (σ0.1 218 22)) ∧ ((t.2).1 218 23 = (σ0.1 218 23)) ∧ ((t.2).1 218 24 = (σ0.1 218 24)) ∧ ((t.2).1 218 25 = (σ2.1 218 25)) ∧ ((t.2).1 219 = σ0.1 219) ∧ ((t.2).1 231 = σ3.1 231)) (fun t : Int32 × zS => (10240 - (t.1).toInt).toNat) (fun again5 t hI ih27_5 => ?_) N _ (show Tr [218, 219, 220, 226, 227, 228, 229, 230, 231, 232] σ0 σ3 ∧ (0 ≤ (0 : Int32).toInt) ∧ (TOK σ3.1) ∧ (ZB σ3.1) ∧ (σ3.1 218 7 = (σ2.1 218 7)) ∧ (σ3.1 218 9 = (σ2.1 218 9)) ∧ (σ3.1 218 10 = (σ2.1 218 10)) ∧ (σ3.1 218 11 = (σ2.1 218 11)) ∧ (σ3.1 218 12 = (σ2.1 218 12)) ∧ (σ3.1 218 13 = (σ2.1 218 13)) ∧ (σ3.1 218 14 = (σ2.1 218 14)) ∧ (σ3.1 218 15 = (σ2.1 218 15)) ∧ (σ3.1 218 20 = (σ0.1 218 20)) ∧ (σ3.1 218 22 = (σ0.1 218 22)) ∧ (σ3.1 218 23 = (σ0.1 218 23)) ∧ (σ3.1 218 24 = (σ0.1 218 24)) ∧ (σ3.1 218 25 = (σ2.1 218 25)) ∧ (σ3.1 219 = σ0.1 219) ∧ (σ3.1 231 = σ3.1 231) from ⟨hT, (by decide), hK, hB, g7_σ3, g9_σ3, g10_σ3, g11_σ3, g12_σ3, g13_σ3, g14_σ3, g15_σ3, g20_σ3, g22_σ3, g23_σ3, g24_σ3, g25_σ3, r219_σ3, rfl⟩) (show (10240 - (0 : Int32).toInt).toNat < N from (by simp only [Int32.reduceToInt]; omega))
    obtain ⟨x1_5, σ5⟩ := t
    have hI : Tr [218, 219, 220, 226, 227, 228, 229, 230, 231, 232] σ0 σ5 ∧ (0 ≤ x1_5.toInt) ∧ (TOK σ5.1) ∧ (ZB σ5.1) ∧ (σ5.1 218 7 = (σ2.1 218 7)) ∧ (σ5.1 218 9 = (σ2.1 218 9)) ∧ (σ5.1 218 10 = (σ2.1 218 10)) ∧ (σ5.1 218 11 = (σ2.1 218 11)) ∧ (σ5.1 218 12 = (σ2.1 218 12)) ∧ (σ5.1 218 13 = (σ2.1 218 13)) ∧ (σ5.1 218 14 = (σ2.1 218 14)) ∧ (σ5.1 218 15 = (σ2.1 218 15)) ∧ (σ5.1 218 20 = (σ0.1 218 20)) ∧ (σ5.1 218 22 = (σ0.1 218 22)) ∧ (σ5.1 218 23 = (σ0.1 218 23)) ∧ (σ5.1 218 24 = (σ0.1 218 24)) ∧ (σ5.1 218 25 = (σ2.1 218 25)) ∧ (σ5.1 219 = σ0.1 219) ∧ (σ5.1 231 = σ3.1 231) := hI
    obtain ⟨hT, hI5, hK, hB, g7_σ5, g9_σ5, g10_σ5, g11_σ5, g12_σ5, g13_σ5, g14_σ5, g15_σ5, g20_σ5, g22_σ5, g23_σ5, g24_σ5, g25_σ5, r219_σ5, r231_σ5⟩ := hI
    rw [F_X12_world_27.eq_1]
    refine ok_if (fun hc6 => ?_) (fun hc6 => ?_)
    · refine ok_lp (fun t : zS => Tr [218, 219, 220, 226, 227, 228, 229, 230, 231, 232] σ0 (t) ∧ (((t).1 218 14 = 0 → (FW ((t).1 231) ∧ 0 ≤ ((t).1 231 1).toInt ∧ ((t).1 231 1).toInt ≤ ((t).1 218 11).toInt) ∧ (((t).1 231 1).toInt = 0 → ((t).1 231 2).toInt = 0))) ∧ (TOK (t).1) ∧ (ZB (t).1) ∧ ((t).1 218 7 = (σ2.1 218 7)) ∧ ((t).1 218 9 = (σ2.1 218 9)) ∧ ((t).1 219 = σ0.1 219)) (fun t : zS => (600 - ((t).1 218 11).toInt).toNat + (if (t).1 218 14 = 0 then 1 else 0)) (fun again7 t hI ih47_7 => ?_) N _ (show Tr [218, 219, 220, 226, 227, 228, 229, 230, 231, 232] σ0 σ5 ∧ ((σ5.1 218 14 = 0 → (FW (σ5.1 231) ∧ 0 ≤ (σ5.1 231 1).toInt ∧ (σ5.1 231 1).toInt ≤ (σ5.1 218 11).toInt) ∧ ((σ5.1 231 1).toInt = 0 → (σ5.1 231 2).toInt = 0))) ∧ (TOK σ5.1) ∧ (ZB σ5.1) ∧ (σ5.1 218 7 = (σ2.1 218 7)) ∧ (σ5.1 218 9 = (σ2.1 218 9)) ∧ (σ5.1 219 = σ0.1 219) from ⟨hT, (by rw [r231_σ5, z1, z2]; exact fun _ => ⟨⟨hF0, by decide, by have k9 := hK.1; simp only [Int32.reduceToInt]; omega⟩, fun _ => by rfl⟩), hK, hB, g7_σ5, g9_σ5, r219_σ5⟩) (show (600 - (σ5.1 218 11).toInt).toNat + (if σ5.1 218 14 = 0 then 1 else 0) < N from (by have k9 := hK.1; split <;> omega))
      obtain ⟨σ7, rfl⟩ : ∃ x, x = t := ⟨t, rfl⟩
      have hI : Tr [218, 219, 220, 226, 227, 228, 229, 230, 231, 232] σ0 σ7 ∧ ((σ7.1 218 14 = 0 → (FW (σ7.1 231) ∧ 0 ≤ (σ7.1 231 1).toInt ∧ (σ7.1 231 1).toInt ≤ (σ7.1 218 11).toInt) ∧ ((σ7.1 231 1).toInt = 0 → (σ7.1 231 2).toInt = 0))) ∧ (TOK σ7.1) ∧ (ZB σ7.1) ∧ (σ7.1 218 7 = (σ2.1 218 7)) ∧ (σ7.1 218 9 = (σ2.1 218 9)) ∧ (σ7.1 219 = σ0.1 219) := hI
      obtain ⟨hT, hI7, hK, hB, g7_σ7, g9_σ7, r219_σ7⟩ := hI
      rw [F_X12_world_47.eq_1]
      have i1 := hI7
      have hK9 := hK.1
      refine ok_gC rfl ?_
      refine ok_zbX (Q := fun V => (V = 0 → ¬ σ7.1 218 14 = 0) ∧ (¬ V = 0 → σ7.1 218 14 = 0)) (x_X12_good) (fun v8 hqv8 => ?_)
      have hqv8 : (v8 = 0 → ¬ σ7.1 218 14 = 0) ∧ (¬ v8 = 0 → σ7.1 218 14 = 0) := hqv8
      try simp only [g7_σ7, g9_σ7, hT.2 224 (by decide)] at hqv8
      refine ok_if (fun hc10 => ?_) (fun hc10 => ?_)
      · have qhc10 := hqv8.1 hc10
        have n51 := qhc10
        rw [J_X12_world_100.eq_1]
        refine ok_gC rfl ?_
        refine ok_zbX (Q := fun V => (V = 0 → ¬ σ7.1 218 14 = 0) ∧ (¬ V = 0 → σ7.1 218 14 = 0)) (x_X12_good) (fun v11 hqv11 => ?_)
        have hqv11 : (v11 = 0 → ¬ σ7.1 218 14 = 0) ∧ (¬ v11 = 0 → σ7.1 218 14 = 0) := hqv11
        try simp only [g7_σ7, g9_σ7, hT.2 224 (by decide)] at hqv11
        refine ok_if (fun hc13 => ?_) (fun hc13 => ?_)
        · have qhc13 := hqv11.1 hc13
          have n104 := qhc13
          exact ok_some ⟨hT, (show MW (σ7.1 219) 0 ∧ ZB σ7.1 ∧ σ7.1 218 7 = 0 from by first | exact ⟨by rw [r219_σ7]; exact hM, hB, (g7_σ7).trans t7⟩ | exact ⟨by rw [r219_σ7]; exact hM9, hB, (g7_σ7).trans t7⟩)⟩
        · have qhc13 := hqv11.2 hc13
          have y104 := qhc13
          refine ok_lp (fun t : Int32 × zS => Tr [218, 219, 220, 226, 227, 228, 229, 230, 231, 232] σ0 (t.2) ∧ (0 ≤ (t.1).toInt ∧ ∀ j : Nat, (j : Int) < (t.1).toInt → (t.2).1 219 j = (t.2).1 231 j) ∧ (TOK (t.2).1) ∧ (ZB (t.2).1) ∧ ((t.2).1 218 7 = (σ2.1 218 7)) ∧ ((t.2).1 218 9 = (σ2.1 218 9)) ∧ ((t.2).1 218 10 = (σ7.1 218 10)) ∧ ((t.2).1 218 11 = (σ7.1 218 11)) ∧ ((t.2).1 218 12 = (σ7.1 218 12)) ∧ ((t.2).1 218 13 = (σ7.1 218 13)) ∧ ((t.2).1 218 14 = (σ7.1 218 14)) ∧ ((t.2).1 218 15 = (σ7.1 218 15)) ∧ ((t.2).1 218 20 = (σ7.1 218 20)) ∧ ((t.2).1 218 22 = (σ7.1 218 22)) ∧ ((t.2).1 218 23 = (σ7.1 218 23)) ∧ ((t.2).1 218 24 = (σ7.1 218 24)) ∧ ((t.2).1 218 25 = (σ7.1 218 25)) ∧ ((t.2).1 231 = σ7.1 231)) (fun t : Int32 × zS => (43 - (t.1).toInt).toNat) (fun again14 t hI ih112_14 => ?_) N _ (show Tr [218, 219, 220, 226, 227, 228, 229, 230, 231, 232] σ0 σ7 ∧ (0 ≤ (0 : Int32).toInt ∧ ∀ j : Nat, (j : Int) < (0 : Int32).toInt → σ7.1 219 j = σ7.1 231 j) ∧ (TOK σ7.1) ∧ (ZB σ7.1) ∧ (σ7.1 218 7 = (σ2.1 218 7)) ∧ (σ7.1 218 9 = (σ2.1 218 9)) ∧ (σ7.1 218 10 = (σ7.1 218 10)) ∧ (σ7.1 218 11 = (σ7.1 218 11)) ∧ (σ7.1 218 12 = (σ7.1 218 12)) ∧ (σ7.1 218 13 = (σ7.1 218 13)) ∧ (σ7.1 218 14 = (σ7.1 218 14)) ∧ (σ7.1 218 15 = (σ7.1 218 15)) ∧ (σ7.1 218 20 = (σ7.1 218 20)) ∧ (σ7.1 218 22 = (σ7.1 218 22)) ∧ (σ7.1 218 23 = (σ7.1 218 23)) ∧ (σ7.1 218 24 = (σ7.1 218 24)) ∧ (σ7.1 218 25 = (σ7.1 218 25)) ∧ (σ7.1 231 = σ7.1 231) from ⟨hT, (by exact ⟨by decide, fun j hj => absurd hj (by simp only [Int32.reduceToInt]; omega)⟩), hK, hB, g7_σ7, g9_σ7, rfl, rfl, rfl, rfl, rfl, rfl, rfl, rfl, rfl, rfl, rfl, rfl⟩) (show (43 - (0 : Int32).toInt).toNat < N from (by simp only [Int32.reduceToInt]; omega))
          obtain ⟨x1_14, σ14⟩ := t
          have hI : Tr [218, 219, 220, 226, 227, 228, 229, 230, 231, 232] σ0 σ14 ∧ (0 ≤ x1_14.toInt ∧ ∀ j : Nat, (j : Int) < x1_14.toInt → σ14.1 219 j = σ14.1 231 j) ∧ (TOK σ14.1) ∧ (ZB σ14.1) ∧ (σ14.1 218 7 = (σ2.1 218 7)) ∧ (σ14.1 218 9 = (σ2.1 218 9)) ∧ (σ14.1 218 10 = (σ7.1 218 10)) ∧ (σ14.1 218 11 = (σ7.1 218 11)) ∧ (σ14.1 218 12 = (σ7.1 218 12)) ∧ (σ14.1 218 13 = (σ7.1 218 13)) ∧ (σ14.1 218 14 = (σ7.1 218 14)) ∧ (σ14.1 218 15 = (σ7.1 218 15)) ∧ (σ14.1 218 20 = (σ7.1 218 20)) ∧ (σ14.1 218 22 = (σ7.1 218 22)) ∧ (σ14.1 218 23 = (σ7.1 218 23)) ∧ (σ14.1 218 24 = (σ7.1 218 24)) ∧ (σ14.1 218 25 = (σ7.1 218 25)) ∧ (σ14.1 231 = σ7.1 231) := hI
          obtain ⟨hT, hI14, hK, hB, g7_σ14, g9_σ14, g10_σ14, g11_σ14, g12_σ14, g13_σ14, g14_σ14, g15_σ14, g20_σ14, g22_σ14, g23_σ14, g24_σ14, g25_σ14, r231_σ14⟩ := hI
          rw [F_X12_world_112.eq_1]
          have h1 := hI14.1
          have c6 := hI14.2
          refine ok_if (fun hc15 => ?_) (fun hc15 => ?_)
          · have l67 := hc15
            rw [Int32.le_iff_toInt_le] at l67
            try simp only [Int32.reduceToInt] at l67
            have hM9 : MW ((σ14.1 219)) 0 := MW_cp (fun j hj => by rw [Nat.zero_add, c6 j (by omega), r231_σ14]) (FW_MW (i1 y104).1.1)
            refine ok_lp (fun t : Int32 × zS => Tr [218, 219, 220, 226, 227, 228, 229, 230, 231, 232] σ0 (t.2) ∧ (0 ≤ (t.1).toInt) ∧ (TOK (t.2).1) ∧ (ZB (t.2).1) ∧ ((t.2).1 218 7 = (σ2.1 218 7)) ∧ ((t.2).1 218 9 = (σ2.1 218 9)) ∧ ((t.2).1 218 10 = (σ7.1 218 10)) ∧ ((t.2).1 218 11 = (σ7.1 218 11)) ∧ ((t.2).1 218 12 = (σ7.1 218 12)) ∧ ((t.2).1 218 13 = (σ7.1 218 13)) ∧ ((t.2).1 218 14 = (σ7.1 218 14)) ∧ ((t.2).1 218 15 = (σ7.1 218 15)) ∧ ((t.2).1 218 20 = (σ7.1 218 20)) ∧ ((t.2).1 218 22 = (σ7.1 218 22)) ∧ ((t.2).1 218 23 = (σ7.1 218 23)) ∧ ((t.2).1 218 24 = (σ7.1 218 24)) ∧ ((t.2).1 218 25 = (σ7.1 218 25)) ∧ ((t.2).1 219 = σ14.1 219) ∧ ((t.2).1 231 = σ7.1 231)) (fun t : Int32 × zS => (10240 - (t.1).toInt).toNat) (fun again16 t hI ih138_16 => ?_) N _ (show Tr [218, 219, 220, 226, 227, 228, 229, 230, 231, 232] σ0 σ14 ∧ (0 ≤ (0 : Int32).toInt) ∧ (TOK σ14.1) ∧ (ZB σ14.1) ∧ (σ14.1 218 7 = (σ2.1 218 7)) ∧ (σ14.1 218 9 = (σ2.1 218 9)) ∧ (σ14.1 218 10 = (σ7.1 218 10)) ∧ (σ14.1 218 11 = (σ7.1 218 11)) ∧ (σ14.1 218 12 = (σ7.1 218 12)) ∧ (σ14.1 218 13 = (σ7.1 218 13)) ∧ (σ14.1 218 14 = (σ7.1 218 14)) ∧ (σ14.1 218 15 = (σ7.1 218 15)) ∧ (σ14.1 218 20 = (σ7.1 218 20)) ∧ (σ14.1 218 22 = (σ7.1 218 22)) ∧ (σ14.1 218 23 = (σ7.1 218 23)) ∧ (σ14.1 218 24 = (σ7.1 218 24)) ∧ (σ14.1 218 25 = (σ7.1 218 25)) ∧ (σ14.1 219 = σ14.1 219) ∧ (σ14.1 231 = σ7.1 231) from ⟨hT, (by decide), hK, hB, g7_σ14, g9_σ14, g10_σ14, g11_σ14, g12_σ14, g13_σ14, g14_σ14, g15_σ14, g20_σ14, g22_σ14, g23_σ14, g24_σ14, g25_σ14, rfl, r231_σ14⟩) (show (10240 - (0 : Int32).toInt).toNat < N from (by simp only [Int32.reduceToInt]; omega))
            obtain ⟨x1_16, σ16⟩ := t
            have hI : Tr [218, 219, 220, 226, 227, 228, 229, 230, 231, 232] σ0 σ16 ∧ (0 ≤ x1_16.toInt) ∧ (TOK σ16.1) ∧ (ZB σ16.1) ∧ (σ16.1 218 7 = (σ2.1 218 7)) ∧ (σ16.1 218 9 = (σ2.1 218 9)) ∧ (σ16.1 218 10 = (σ7.1 218 10)) ∧ (σ16.1 218 11 = (σ7.1 218 11)) ∧ (σ16.1 218 12 = (σ7.1 218 12)) ∧ (σ16.1 218 13 = (σ7.1 218 13)) ∧ (σ16.1 218 14 = (σ7.1 218 14)) ∧ (σ16.1 218 15 = (σ7.1 218 15)) ∧ (σ16.1 218 20 = (σ7.1 218 20)) ∧ (σ16.1 218 22 = (σ7.1 218 22)) ∧ (σ16.1 218 23 = (σ7.1 218 23)) ∧ (σ16.1 218 24 = (σ7.1 218 24)) ∧ (σ16.1 218 25 = (σ7.1 218 25)) ∧ (σ16.1 219 = σ14.1 219) ∧ (σ16.1 231 = σ7.1 231) := hI
            obtain ⟨hT, hI16, hK, hB, g7_σ16, g9_σ16, g10_σ16, g11_σ16, g12_σ16, g13_σ16, g14_σ16, g15_σ16, g20_σ16, g22_σ16, g23_σ16, g24_σ16, g25_σ16, r219_σ16, r231_σ16⟩ := hI
            rw [F_X12_world_138.eq_1]
            refine ok_if (fun hc17 => ?_) (fun hc17 => ?_)
            · refine ok_gR (v := 219) hT rfl (hR 218 1 rfl) ?_
              refine ok_aIn rfl (by ((try simp only [g7_σ16, g9_σ16, g10_σ16, g11_σ16, g12_σ16, g13_σ16, g14_σ16, g15_σ16, g20_σ16, g22_σ16, g23_σ16, g24_σ16, g25_σ16])); first | omega | decide | (simp only [Int32.le_iff_toInt_le, Int32.lt_iff_toInt_lt, ti_add, ti_sub, ti_mul, Int32.reduceToInt] at *; omega)) (by ((try simp only [g7_σ16, g9_σ16, g10_σ16, g11_σ16, g12_σ16, g13_σ16, g14_σ16, g15_σ16, g20_σ16, g22_σ16, g23_σ16, g24_σ16, g25_σ16])); first | omega | decide | (simp only [Int32.le_iff_toInt_le, Int32.lt_iff_toInt_lt, ti_add, ti_sub, ti_mul, Int32.reduceToInt] at *; omega)) (fun v19 ev19 => ?_)
              exact ok_some ⟨hT, (show MW (σ16.1 219) 0 ∧ ZB σ16.1 ∧ σ16.1 218 7 = 0 from by first | exact ⟨by rw [r219_σ16]; exact hM, hB, (g7_σ16).trans t7⟩ | exact ⟨by rw [r219_σ16]; exact hM9, hB, (g7_σ16).trans t7⟩)⟩
            · have l68 := hc17
              rw [Int32.le_iff_toInt_le] at l68
              try simp only [Int32.reduceToInt] at l68
              have s68 : (x1_16 + 1).toInt = x1_16.toInt + 1 := by rw [ti_add]; simp only [Int32.reduceToInt]; omega
              refine ok_gR (v := 220) hT rfl (hR 218 2 rfl) ?_
              refine ok_gR (v := 232) hT rfl (hR 218 27 rfl) ?_
              refine ok_aIn rfl (by ((try simp only [g7_σ16, g9_σ16, g10_σ16, g11_σ16, g12_σ16, g13_σ16, g14_σ16, g15_σ16, g20_σ16, g22_σ16, g23_σ16, g24_σ16, g25_σ16])); first | omega | decide | (simp only [Int32.le_iff_toInt_le, Int32.lt_iff_toInt_lt, ti_add, ti_sub, ti_mul, Int32.reduceToInt] at *; omega)) (by ((try simp only [g7_σ16, g9_σ16, g10_σ16, g11_σ16, g12_σ16, g13_σ16, g14_σ16, g15_σ16, g20_σ16, g22_σ16, g23_σ16, g24_σ16, g25_σ16])); first | omega | decide | (simp only [Int32.le_iff_toInt_le, Int32.lt_iff_toInt_lt, ti_add, ti_sub, ti_mul, Int32.reduceToInt] at *; omega)) (fun v22 ev22 => ?_)
              have zv22 : v22 = 0 ∨ v22 = 1 := by rw [ev22]; exact hB 232 rfl _
              refine ok_s16 hT rfl (by decide) (by ((try simp only [g7_σ16, g9_σ16, g10_σ16, g11_σ16, g12_σ16, g13_σ16, g14_σ16, g15_σ16, g20_σ16, g22_σ16, g23_σ16, g24_σ16, g25_σ16])); first | omega | decide | (simp only [Int32.le_iff_toInt_le, Int32.lt_iff_toInt_lt, ti_add, ti_sub, ti_mul, Int32.reduceToInt] at *; omega)) (by ((try simp only [g7_σ16, g9_σ16, g10_σ16, g11_σ16, g12_σ16, g13_σ16, g14_σ16, g15_σ16, g20_σ16, g22_σ16, g23_σ16, g24_σ16, g25_σ16])); first | omega | decide | (simp only [Int32.le_iff_toInt_le, Int32.lt_iff_toInt_lt, ti_add, ti_sub, ti_mul, Int32.reduceToInt] at *; omega)) (fun σ23 eσ23 hOσ23 hT => ?_)
              have r219_σ23 : σ23.1 219 = σ14.1 219 := (hOσ23.2 219 (by decide)).trans r219_σ16
              have r231_σ23 : σ23.1 231 = σ7.1 231 := (hOσ23.2 231 (by decide)).trans r231_σ16
              have hK : TOK σ23.1 := TOK_tr hOσ23 (by decide) (by decide) hK
              have hB : ZB σ23.1 := by first | exact HQ.2.2.2.2 | exact ZB_s eσ23 hB
              have g7_σ23 : σ23.1 218 7 = (σ2.1 218 7) := (congrFun (hOσ23.2 218 (by decide)) 7).trans g7_σ16
              have g9_σ23 : σ23.1 218 9 = (σ2.1 218 9) := (congrFun (hOσ23.2 218 (by decide)) 9).trans g9_σ16
              have g10_σ23 : σ23.1 218 10 = (σ7.1 218 10) := (congrFun (hOσ23.2 218 (by decide)) 10).trans g10_σ16
              have g11_σ23 : σ23.1 218 11 = (σ7.1 218 11) := (congrFun (hOσ23.2 218 (by decide)) 11).trans g11_σ16
              have g12_σ23 : σ23.1 218 12 = (σ7.1 218 12) := (congrFun (hOσ23.2 218 (by decide)) 12).trans g12_σ16
              have g13_σ23 : σ23.1 218 13 = (σ7.1 218 13) := (congrFun (hOσ23.2 218 (by decide)) 13).trans g13_σ16
              have g14_σ23 : σ23.1 218 14 = (σ7.1 218 14) := (congrFun (hOσ23.2 218 (by decide)) 14).trans g14_σ16
              have g15_σ23 : σ23.1 218 15 = (σ7.1 218 15) := (congrFun (hOσ23.2 218 (by decide)) 15).trans g15_σ16
              have g20_σ23 : σ23.1 218 20 = (σ7.1 218 20) := (congrFun (hOσ23.2 218 (by decide)) 20).trans g20_σ16
              have g22_σ23 : σ23.1 218 22 = (σ7.1 218 22) := (congrFun (hOσ23.2 218 (by decide)) 22).trans g22_σ16
              have g23_σ23 : σ23.1 218 23 = (σ7.1 218 23) := (congrFun (hOσ23.2 218 (by decide)) 23).trans g23_σ16
              have g24_σ23 : σ23.1 218 24 = (σ7.1 218 24) := (congrFun (hOσ23.2 218 (by decide)) 24).trans g24_σ16
              have g25_σ23 : σ23.1 218 25 = (σ7.1 218 25) := (congrFun (hOσ23.2 218 (by decide)) 25).trans g25_σ16
              exact ih138_16 (x1_16 + 1, σ23) (show Tr [218, 219, 220, 226, 227, 228, 229, 230, 231, 232] σ0 σ23 ∧ (0 ≤ (x1_16 + 1).toInt) ∧ (TOK σ23.1) ∧ (ZB σ23.1) ∧ (σ23.1 218 7 = (σ2.1 218 7)) ∧ (σ23.1 218 9 = (σ2.1 218 9)) ∧ (σ23.1 218 10 = (σ7.1 218 10)) ∧ (σ23.1 218 11 = (σ7.1 218 11)) ∧ (σ23.1 218 12 = (σ7.1 218 12)) ∧ (σ23.1 218 13 = (σ7.1 218 13)) ∧ (σ23.1 218 14 = (σ7.1 218 14)) ∧ (σ23.1 218 15 = (σ7.1 218 15)) ∧ (σ23.1 218 20 = (σ7.1 218 20)) ∧ (σ23.1 218 22 = (σ7.1 218 22)) ∧ (σ23.1 218 23 = (σ7.1 218 23)) ∧ (σ23.1 218 24 = (σ7.1 218 24)) ∧ (σ23.1 218 25 = (σ7.1 218 25)) ∧ (σ23.1 219 = σ14.1 219) ∧ (σ23.1 231 = σ7.1 231) from ⟨hT, (by rw [s68]; omega), hK, hB, g7_σ23, g9_σ23, g10_σ23, g11_σ23, g12_σ23, g13_σ23, g14_σ23, g15_σ23, g20_σ23, g22_σ23, g23_σ23, g24_σ23, g25_σ23, r219_σ23, r231_σ23⟩) (show (10240 - (x1_16 + 1).toInt).toNat < (10240 - x1_16.toInt).toNat from (by rw [s68]; omega))
          · have l68 := hc15
            rw [Int32.le_iff_toInt_le] at l68
            try simp only [Int32.reduceToInt] at l68
            have s68 : (x1_14 + 1).toInt = x1_14.toInt + 1 := by rw [ti_add]; simp only [Int32.reduceToInt]; omega
            refine ok_gR (v := 219) hT rfl (hR 218 1 rfl) ?_
            refine ok_gR (v := 231) hT rfl (hR 218 26 rfl) ?_
            refine ok_aIn rfl (by ((try simp only [g7_σ14, g9_σ14, g10_σ14, g11_σ14, g12_σ14, g13_σ14, g14_σ14, g15_σ14, g20_σ14, g22_σ14, g23_σ14, g24_σ14, g25_σ14])); first | omega | decide | (simp only [Int32.le_iff_toInt_le, Int32.lt_iff_toInt_lt, ti_add, ti_sub, ti_mul, Int32.reduceToInt] at *; omega)) (by ((try simp only [g7_σ14, g9_σ14, g10_σ14, g11_σ14, g12_σ14, g13_σ14, g14_σ14, g15_σ14, g20_σ14, g22_σ14, g23_σ14, g24_σ14, g25_σ14])); first | omega | decide | (simp only [Int32.le_iff_toInt_le, Int32.lt_iff_toInt_lt, ti_add, ti_sub, ti_mul, Int32.reduceToInt] at *; omega)) (fun v26 ev26 => ?_)
            have ev128 := ev26
            refine ok_s14 hT rfl (by decide) (by ((try simp only [g7_σ14, g9_σ14, g10_σ14, g11_σ14, g12_σ14, g13_σ14, g14_σ14, g15_σ14, g20_σ14, g22_σ14, g23_σ14, g24_σ14, g25_σ14])); first | omega | decide | (simp only [Int32.le_iff_toInt_le, Int32.lt_iff_toInt_lt, ti_add, ti_sub, ti_mul, Int32.reduceToInt] at *; omega)) (by ((try simp only [g7_σ14, g9_σ14, g10_σ14, g11_σ14, g12_σ14, g13_σ14, g14_σ14, g15_σ14, g20_σ14, g22_σ14, g23_σ14, g24_σ14, g25_σ14])); first | omega | decide | (simp only [Int32.le_iff_toInt_le, Int32.lt_iff_toInt_lt, ti_add, ti_sub, ti_mul, Int32.reduceToInt] at *; omega)) (fun σ27 eσ27 hOσ27 hT => ?_)
            have c129 : ∀ j : Nat, (j : Int) < (x1_14).toInt + 1 → σ27.1 219 j = σ27.1 231 j := by intro j hj; rw [hOσ27.2 231 (by decide)]; by_cases q : (j : Int) = (x1_14).toInt; rw [show j = (x1_14).toNatClampNeg by show j = (x1_14).toInt.toNat; omega, zI_atI eσ27]; exact ev128; rw [zI_atN eσ27 (by show j ≠ (x1_14).toInt.toNat; omega)]; exact c6 j (by omega)
            have r231_σ27 : σ27.1 231 = σ7.1 231 := (hOσ27.2 231 (by decide)).trans r231_σ14
            have hK : TOK σ27.1 := TOK_tr hOσ27 (by decide) (by decide) hK
            have hB : ZB σ27.1 := ZB.tr hOσ27 (by decide) hB
            have g7_σ27 : σ27.1 218 7 = (σ2.1 218 7) := (congrFun (hOσ27.2 218 (by decide)) 7).trans g7_σ14
            have g9_σ27 : σ27.1 218 9 = (σ2.1 218 9) := (congrFun (hOσ27.2 218 (by decide)) 9).trans g9_σ14
            have g10_σ27 : σ27.1 218 10 = (σ7.1 218 10) := (congrFun (hOσ27.2 218 (by decide)) 10).trans g10_σ14
            have g11_σ27 : σ27.1 218 11 = (σ7.1 218 11) := (congrFun (hOσ27.2 218 (by decide)) 11).trans g11_σ14
            have g12_σ27 : σ27.1 218 12 = (σ7.1 218 12) := (congrFun (hOσ27.2 218 (by decide)) 12).trans g12_σ14
            have g13_σ27 : σ27.1 218 13 = (σ7.1 218 13) := (congrFun (hOσ27.2 218 (by decide)) 13).trans g13_σ14
            have g14_σ27 : σ27.1 218 14 = (σ7.1 218 14) := (congrFun (hOσ27.2 218 (by decide)) 14).trans g14_σ14
            have g15_σ27 : σ27.1 218 15 = (σ7.1 218 15) := (congrFun (hOσ27.2 218 (by decide)) 15).trans g15_σ14
            have g20_σ27 : σ27.1 218 20 = (σ7.1 218 20) := (congrFun (hOσ27.2 218 (by decide)) 20).trans g20_σ14
            have g22_σ27 : σ27.1 218 22 = (σ7.1 218 22) := (congrFun (hOσ27.2 218 (by decide)) 22).trans g22_σ14
            have g23_σ27 : σ27.1 218 23 = (σ7.1 218 23) := (congrFun (hOσ27.2 218 (by decide)) 23).trans g23_σ14
            have g24_σ27 : σ27.1 218 24 = (σ7.1 218 24) := (congrFun (hOσ27.2 218 (by decide)) 24).trans g24_σ14
            have g25_σ27 : σ27.1 218 25 = (σ7.1 218 25) := (congrFun (hOσ27.2 218 (by decide)) 25).trans g25_σ14
            exact ih112_14 (x1_14 + 1, σ27) (show Tr [218, 219, 220, 226, 227, 228, 229, 230, 231, 232] σ0 σ27 ∧ (0 ≤ (x1_14 + 1).toInt ∧ ∀ j : Nat, (j : Int) < (x1_14 + 1).toInt → σ27.1 219 j = σ27.1 231 j) ∧ (TOK σ27.1) ∧ (ZB σ27.1) ∧ (σ27.1 218 7 = (σ2.1 218 7)) ∧ (σ27.1 218 9 = (σ2.1 218 9)) ∧ (σ27.1 218 10 = (σ7.1 218 10)) ∧ (σ27.1 218 11 = (σ7.1 218 11)) ∧ (σ27.1 218 12 = (σ7.1 218 12)) ∧ (σ27.1 218 13 = (σ7.1 218 13)) ∧ (σ27.1 218 14 = (σ7.1 218 14)) ∧ (σ27.1 218 15 = (σ7.1 218 15)) ∧ (σ27.1 218 20 = (σ7.1 218 20)) ∧ (σ27.1 218 22 = (σ7.1 218 22)) ∧ (σ27.1 218 23 = (σ7.1 218 23)) ∧ (σ27.1 218 24 = (σ7.1 218 24)) ∧ (σ27.1 218 25 = (σ7.1 218 25)) ∧ (σ27.1 231 = σ7.1 231) from ⟨hT, (by rw [s68]; exact ⟨by omega, c129⟩), hK, hB, g7_σ27, g9_σ27, g10_σ27, g11_σ27, g12_σ27, g13_σ27, g14_σ27, g15_σ27, g20_σ27, g22_σ27, g23_σ27, g24_σ27, g25_σ27, r231_σ27⟩) (show (43 - (x1_14 + 1).toInt).toNat < (43 - x1_14.toInt).toNat from (by rw [s68]; omega))
      · have qhc10 := hqv8.2 hc10
        have y51 := qhc10
        refine ok_gI rfl ?_
        refine ok_if (fun hc29 => ?_) (fun hc29 => ?_)
        · rw [J_X12_world_100.eq_1]
          refine ok_gC rfl ?_
          refine ok_zbX (Q := fun V => (V = 0 → ¬ σ7.1 218 14 = 0) ∧ (¬ V = 0 → σ7.1 218 14 = 0)) (x_X12_good) (fun v30 hqv30 => ?_)
          have hqv30 : (v30 = 0 → ¬ σ7.1 218 14 = 0) ∧ (¬ v30 = 0 → σ7.1 218 14 = 0) := hqv30
          try simp only [g7_σ7, g9_σ7, hT.2 224 (by decide)] at hqv30
          refine ok_if (fun hc32 => ?_) (fun hc32 => ?_)
          · have qhc32 := hqv30.1 hc32
            have n104 := qhc32
            exact ok_some ⟨hT, (show MW (σ7.1 219) 0 ∧ ZB σ7.1 ∧ σ7.1 218 7 = 0 from by first | exact ⟨by rw [r219_σ7]; exact hM, hB, (g7_σ7).trans t7⟩ | exact ⟨by rw [r219_σ7]; exact hM9, hB, (g7_σ7).trans t7⟩)⟩
          · have qhc32 := hqv30.2 hc32
            have y104 := qhc32
            refine ok_lp (fun t : Int32 × zS => Tr [218, 219, 220, 226, 227, 228, 229, 230, 231, 232] σ0 (t.2) ∧ (0 ≤ (t.1).toInt ∧ ∀ j : Nat, (j : Int) < (t.1).toInt → (t.2).1 219 j = (t.2).1 231 j) ∧ (TOK (t.2).1) ∧ (ZB (t.2).1) ∧ ((t.2).1 218 7 = (σ2.1 218 7)) ∧ ((t.2).1 218 9 = (σ2.1 218 9)) ∧ ((t.2).1 218 10 = (σ7.1 218 10)) ∧ ((t.2).1 218 11 = (σ7.1 218 11)) ∧ ((t.2).1 218 12 = (σ7.1 218 12)) ∧ ((t.2).1 218 13 = (σ7.1 218 13)) ∧ ((t.2).1 218 14 = (σ7.1 218 14)) ∧ ((t.2).1 218 15 = (σ7.1 218 15)) ∧ ((t.2).1 218 20 = (σ7.1 218 20)) ∧ ((t.2).1 218 22 = (σ7.1 218 22)) ∧ ((t.2).1 218 23 = (σ7.1 218 23)) ∧ ((t.2).1 218 24 = (σ7.1 218 24)) ∧ ((t.2).1 218 25 = (σ7.1 218 25)) ∧ ((t.2).1 231 = σ7.1 231)) (fun t : Int32 × zS => (43 - (t.1).toInt).toNat) (fun again33 t hI ih112_33 => ?_) N _ (show Tr [218, 219, 220, 226, 227, 228, 229, 230, 231, 232] σ0 σ7 ∧ (0 ≤ (0 : Int32).toInt ∧ ∀ j : Nat, (j : Int) < (0 : Int32).toInt → σ7.1 219 j = σ7.1 231 j) ∧ (TOK σ7.1) ∧ (ZB σ7.1) ∧ (σ7.1 218 7 = (σ2.1 218 7)) ∧ (σ7.1 218 9 = (σ2.1 218 9)) ∧ (σ7.1 218 10 = (σ7.1 218 10)) ∧ (σ7.1 218 11 = (σ7.1 218 11)) ∧ (σ7.1 218 12 = (σ7.1 218 12)) ∧ (σ7.1 218 13 = (σ7.1 218 13)) ∧ (σ7.1 218 14 = (σ7.1 218 14)) ∧ (σ7.1 218 15 = (σ7.1 218 15)) ∧ (σ7.1 218 20 = (σ7.1 218 20)) ∧ (σ7.1 218 22 = (σ7.1 218 22)) ∧ (σ7.1 218 23 = (σ7.1 218 23)) ∧ (σ7.1 218 24 = (σ7.1 218 24)) ∧ (σ7.1 218 25 = (σ7.1 218 25)) ∧ (σ7.1 231 = σ7.1 231) from ⟨hT, (by exact ⟨by decide, fun j hj => absurd hj (by simp only [Int32.reduceToInt]; omega)⟩), hK, hB, g7_σ7, g9_σ7, rfl, rfl, rfl, rfl, rfl, rfl, rfl, rfl, rfl, rfl, rfl, rfl⟩) (show (43 - (0 : Int32).toInt).toNat < N from (by simp only [Int32.reduceToInt]; omega))
            obtain ⟨x1_33, σ33⟩ := t
            have hI : Tr [218, 219, 220, 226, 227, 228, 229, 230, 231, 232] σ0 σ33 ∧ (0 ≤ x1_33.toInt ∧ ∀ j : Nat, (j : Int) < x1_33.toInt → σ33.1 219 j = σ33.1 231 j) ∧ (TOK σ33.1) ∧ (ZB σ33.1) ∧ (σ33.1 218 7 = (σ2.1 218 7)) ∧ (σ33.1 218 9 = (σ2.1 218 9)) ∧ (σ33.1 218 10 = (σ7.1 218 10)) ∧ (σ33.1 218 11 = (σ7.1 218 11)) ∧ (σ33.1 218 12 = (σ7.1 218 12)) ∧ (σ33.1 218 13 = (σ7.1 218 13)) ∧ (σ33.1 218 14 = (σ7.1 218 14)) ∧ (σ33.1 218 15 = (σ7.1 218 15)) ∧ (σ33.1 218 20 = (σ7.1 218 20)) ∧ (σ33.1 218 22 = (σ7.1 218 22)) ∧ (σ33.1 218 23 = (σ7.1 218 23)) ∧ (σ33.1 218 24 = (σ7.1 218 24)) ∧ (σ33.1 218 25 = (σ7.1 218 25)) ∧ (σ33.1 231 = σ7.1 231) := hI
            obtain ⟨hT, hI33, hK, hB, g7_σ33, g9_σ33, g10_σ33, g11_σ33, g12_σ33, g13_σ33, g14_σ33, g15_σ33, g20_σ33, g22_σ33, g23_σ33, g24_σ33, g25_σ33, r231_σ33⟩ := hI
            rw [F_X12_world_112.eq_1]
            have h1 := hI33.1
            have c6 := hI33.2
            refine ok_if (fun hc34 => ?_) (fun hc34 => ?_)
            · have l67 := hc34
              rw [Int32.le_iff_toInt_le] at l67
              try simp only [Int32.reduceToInt] at l67
              have hM9 : MW ((σ33.1 219)) 0 := MW_cp (fun j hj => by rw [Nat.zero_add, c6 j (by omega), r231_σ33]) (FW_MW (i1 y104).1.1)
              refine ok_lp (fun t : Int32 × zS => Tr [218, 219, 220, 226, 227, 228, 229, 230, 231, 232] σ0 (t.2) ∧ (0 ≤ (t.1).toInt) ∧ (TOK (t.2).1) ∧ (ZB (t.2).1) ∧ ((t.2).1 218 7 = (σ2.1 218 7)) ∧ ((t.2).1 218 9 = (σ2.1 218 9)) ∧ ((t.2).1 218 10 = (σ7.1 218 10)) ∧ ((t.2).1 218 11 = (σ7.1 218 11)) ∧ ((t.2).1 218 12 = (σ7.1 218 12)) ∧ ((t.2).1 218 13 = (σ7.1 218 13)) ∧ ((t.2).1 218 14 = (σ7.1 218 14)) ∧ ((t.2).1 218 15 = (σ7.1 218 15)) ∧ ((t.2).1 218 20 = (σ7.1 218 20)) ∧ ((t.2).1 218 22 = (σ7.1 218 22)) ∧ ((t.2).1 218 23 = (σ7.1 218 23)) ∧ ((t.2).1 218 24 = (σ7.1 218 24)) ∧ ((t.2).1 218 25 = (σ7.1 218 25)) ∧ ((t.2).1 219 = σ33.1 219) ∧ ((t.2).1 231 = σ7.1 231)) (fun t : Int32 × zS => (10240 - (t.1).toInt).toNat) (fun again35 t hI ih138_35 => ?_) N _ (show Tr [218, 219, 220, 226, 227, 228, 229, 230, 231, 232] σ0 σ33 ∧ (0 ≤ (0 : Int32).toInt) ∧ (TOK σ33.1) ∧ (ZB σ33.1) ∧ (σ33.1 218 7 = (σ2.1 218 7)) ∧ (σ33.1 218 9 = (σ2.1 218 9)) ∧ (σ33.1 218 10 = (σ7.1 218 10)) ∧ (σ33.1 218 11 = (σ7.1 218 11)) ∧ (σ33.1 218 12 = (σ7.1 218 12)) ∧ (σ33.1 218 13 = (σ7.1 218 13)) ∧ (σ33.1 218 14 = (σ7.1 218 14)) ∧ (σ33.1 218 15 = (σ7.1 218 15)) ∧ (σ33.1 218 20 = (σ7.1 218 20)) ∧ (σ33.1 218 22 = (σ7.1 218 22)) ∧ (σ33.1 218 23 = (σ7.1 218 23)) ∧ (σ33.1 218 24 = (σ7.1 218 24)) ∧ (σ33.1 218 25 = (σ7.1 218 25)) ∧ (σ33.1 219 = σ33.1 219) ∧ (σ33.1 231 = σ7.1 231) from ⟨hT, (by decide), hK, hB, g7_σ33, g9_σ33, g10_σ33, g11_σ33, g12_σ33, g13_σ33, g14_σ33, g15_σ33, g20_σ33, g22_σ33, g23_σ33, g24_σ33, g25_σ33, rfl, r231_σ33⟩) (show (10240 - (0 : Int32).toInt).toNat < N from (by simp only [Int32.reduceToInt]; omega))
              obtain ⟨x1_35, σ35⟩ := t
              have hI : Tr [218, 219, 220, 226, 227, 228, 229, 230, 231, 232] σ0 σ35 ∧ (0 ≤ x1_35.toInt) ∧ (TOK σ35.1) ∧ (ZB σ35.1) ∧ (σ35.1 218 7 = (σ2.1 218 7)) ∧ (σ35.1 218 9 = (σ2.1 218 9)) ∧ (σ35.1 218 10 = (σ7.1 218 10)) ∧ (σ35.1 218 11 = (σ7.1 218 11)) ∧ (σ35.1 218 12 = (σ7.1 218 12)) ∧ (σ35.1 218 13 = (σ7.1 218 13)) ∧ (σ35.1 218 14 = (σ7.1 218 14)) ∧ (σ35.1 218 15 = (σ7.1 218 15)) ∧ (σ35.1 218 20 = (σ7.1 218 20)) ∧ (σ35.1 218 22 = (σ7.1 218 22)) ∧ (σ35.1 218 23 = (σ7.1 218 23)) ∧ (σ35.1 218 24 = (σ7.1 218 24)) ∧ (σ35.1 218 25 = (σ7.1 218 25)) ∧ (σ35.1 219 = σ33.1 219) ∧ (σ35.1 231 = σ7.1 231) := hI
              obtain ⟨hT, hI35, hK, hB, g7_σ35, g9_σ35, g10_σ35, g11_σ35, g12_σ35, g13_σ35, g14_σ35, g15_σ35, g20_σ35, g22_σ35, g23_σ35, g24_σ35, g25_σ35, r219_σ35, r231_σ35⟩ := hI
              rw [F_X12_world_138.eq_1]
              refine ok_if (fun hc36 => ?_) (fun hc36 => ?_)
              · refine ok_gR (v := 219) hT rfl (hR 218 1 rfl) ?_
                refine ok_aIn rfl (by ((try simp only [g7_σ35, g9_σ35, g10_σ35, g11_σ35, g12_σ35, g13_σ35, g14_σ35, g15_σ35, g20_σ35, g22_σ35, g23_σ35, g24_σ35, g25_σ35])); first | omega | decide | (simp only [Int32.le_iff_toInt_le, Int32.lt_iff_toInt_lt, ti_add, ti_sub, ti_mul, Int32.reduceToInt] at *; omega)) (by ((try simp only [g7_σ35, g9_σ35, g10_σ35, g11_σ35, g12_σ35, g13_σ35, g14_σ35, g15_σ35, g20_σ35, g22_σ35, g23_σ35, g24_σ35, g25_σ35])); first | omega | decide | (simp only [Int32.le_iff_toInt_le, Int32.lt_iff_toInt_lt, ti_add, ti_sub, ti_mul, Int32.reduceToInt] at *; omega)) (fun v38 ev38 => ?_)
                exact ok_some ⟨hT, (show MW (σ35.1 219) 0 ∧ ZB σ35.1 ∧ σ35.1 218 7 = 0 from by first | exact ⟨by rw [r219_σ35]; exact hM, hB, (g7_σ35).trans t7⟩ | exact ⟨by rw [r219_σ35]; exact hM9, hB, (g7_σ35).trans t7⟩)⟩
              · have l68 := hc36
                rw [Int32.le_iff_toInt_le] at l68
                try simp only [Int32.reduceToInt] at l68
                have s68 : (x1_35 + 1).toInt = x1_35.toInt + 1 := by rw [ti_add]; simp only [Int32.reduceToInt]; omega
                refine ok_gR (v := 220) hT rfl (hR 218 2 rfl) ?_
                refine ok_gR (v := 232) hT rfl (hR 218 27 rfl) ?_
                refine ok_aIn rfl (by ((try simp only [g7_σ35, g9_σ35, g10_σ35, g11_σ35, g12_σ35, g13_σ35, g14_σ35, g15_σ35, g20_σ35, g22_σ35, g23_σ35, g24_σ35, g25_σ35])); first | omega | decide | (simp only [Int32.le_iff_toInt_le, Int32.lt_iff_toInt_lt, ti_add, ti_sub, ti_mul, Int32.reduceToInt] at *; omega)) (by ((try simp only [g7_σ35, g9_σ35, g10_σ35, g11_σ35, g12_σ35, g13_σ35, g14_σ35, g15_σ35, g20_σ35, g22_σ35, g23_σ35, g24_σ35, g25_σ35])); first | omega | decide | (simp only [Int32.le_iff_toInt_le, Int32.lt_iff_toInt_lt, ti_add, ti_sub, ti_mul, Int32.reduceToInt] at *; omega)) (fun v41 ev41 => ?_)
                have zv41 : v41 = 0 ∨ v41 = 1 := by rw [ev41]; exact hB 232 rfl _
                refine ok_s16 hT rfl (by decide) (by ((try simp only [g7_σ35, g9_σ35, g10_σ35, g11_σ35, g12_σ35, g13_σ35, g14_σ35, g15_σ35, g20_σ35, g22_σ35, g23_σ35, g24_σ35, g25_σ35])); first | omega | decide | (simp only [Int32.le_iff_toInt_le, Int32.lt_iff_toInt_lt, ti_add, ti_sub, ti_mul, Int32.reduceToInt] at *; omega)) (by ((try simp only [g7_σ35, g9_σ35, g10_σ35, g11_σ35, g12_σ35, g13_σ35, g14_σ35, g15_σ35, g20_σ35, g22_σ35, g23_σ35, g24_σ35, g25_σ35])); first | omega | decide | (simp only [Int32.le_iff_toInt_le, Int32.lt_iff_toInt_lt, ti_add, ti_sub, ti_mul, Int32.reduceToInt] at *; omega)) (fun σ42 eσ42 hOσ42 hT => ?_)
                have r219_σ42 : σ42.1 219 = σ33.1 219 := (hOσ42.2 219 (by decide)).trans r219_σ35
                have r231_σ42 : σ42.1 231 = σ7.1 231 := (hOσ42.2 231 (by decide)).trans r231_σ35
                have hK : TOK σ42.1 := TOK_tr hOσ42 (by decide) (by decide) hK
                have hB : ZB σ42.1 := by first | exact HQ.2.2.2.2 | exact ZB_s eσ42 hB
                have g7_σ42 : σ42.1 218 7 = (σ2.1 218 7) := (congrFun (hOσ42.2 218 (by decide)) 7).trans g7_σ35
                have g9_σ42 : σ42.1 218 9 = (σ2.1 218 9) := (congrFun (hOσ42.2 218 (by decide)) 9).trans g9_σ35
                have g10_σ42 : σ42.1 218 10 = (σ7.1 218 10) := (congrFun (hOσ42.2 218 (by decide)) 10).trans g10_σ35
                have g11_σ42 : σ42.1 218 11 = (σ7.1 218 11) := (congrFun (hOσ42.2 218 (by decide)) 11).trans g11_σ35
                have g12_σ42 : σ42.1 218 12 = (σ7.1 218 12) := (congrFun (hOσ42.2 218 (by decide)) 12).trans g12_σ35
                have g13_σ42 : σ42.1 218 13 = (σ7.1 218 13) := (congrFun (hOσ42.2 218 (by decide)) 13).trans g13_σ35
                have g14_σ42 : σ42.1 218 14 = (σ7.1 218 14) := (congrFun (hOσ42.2 218 (by decide)) 14).trans g14_σ35
                have g15_σ42 : σ42.1 218 15 = (σ7.1 218 15) := (congrFun (hOσ42.2 218 (by decide)) 15).trans g15_σ35
                have g20_σ42 : σ42.1 218 20 = (σ7.1 218 20) := (congrFun (hOσ42.2 218 (by decide)) 20).trans g20_σ35
                have g22_σ42 : σ42.1 218 22 = (σ7.1 218 22) := (congrFun (hOσ42.2 218 (by decide)) 22).trans g22_σ35
                have g23_σ42 : σ42.1 218 23 = (σ7.1 218 23) := (congrFun (hOσ42.2 218 (by decide)) 23).trans g23_σ35
                have g24_σ42 : σ42.1 218 24 = (σ7.1 218 24) := (congrFun (hOσ42.2 218 (by decide)) 24).trans g24_σ35
                have g25_σ42 : σ42.1 218 25 = (σ7.1 218 25) := (congrFun (hOσ42.2 218 (by decide)) 25).trans g25_σ35
                exact ih138_35 (x1_35 + 1, σ42) (show Tr [218, 219, 220, 226, 227, 228, 229, 230, 231, 232] σ0 σ42 ∧ (0 ≤ (x1_35 + 1).toInt) ∧ (TOK σ42.1) ∧ (ZB σ42.1) ∧ (σ42.1 218 7 = (σ2.1 218 7)) ∧ (σ42.1 218 9 = (σ2.1 218 9)) ∧ (σ42.1 218 10 = (σ7.1 218 10)) ∧ (σ42.1 218 11 = (σ7.1 218 11)) ∧ (σ42.1 218 12 = (σ7.1 218 12)) ∧ (σ42.1 218 13 = (σ7.1 218 13)) ∧ (σ42.1 218 14 = (σ7.1 218 14)) ∧ (σ42.1 218 15 = (σ7.1 218 15)) ∧ (σ42.1 218 20 = (σ7.1 218 20)) ∧ (σ42.1 218 22 = (σ7.1 218 22)) ∧ (σ42.1 218 23 = (σ7.1 218 23)) ∧ (σ42.1 218 24 = (σ7.1 218 24)) ∧ (σ42.1 218 25 = (σ7.1 218 25)) ∧ (σ42.1 219 = σ33.1 219) ∧ (σ42.1 231 = σ7.1 231) from ⟨hT, (by rw [s68]; omega), hK, hB, g7_σ42, g9_σ42, g10_σ42, g11_σ42, g12_σ42, g13_σ42, g14_σ42, g15_σ42, g20_σ42, g22_σ42, g23_σ42, g24_σ42, g25_σ42, r219_σ42, r231_σ42⟩) (show (10240 - (x1_35 + 1).toInt).toNat < (10240 - x1_35.toInt).toNat from (by rw [s68]; omega))
            · have l68 := hc34
              rw [Int32.le_iff_toInt_le] at l68
              try simp only [Int32.reduceToInt] at l68
              have s68 : (x1_33 + 1).toInt = x1_33.toInt + 1 := by rw [ti_add]; simp only [Int32.reduceToInt]; omega
              refine ok_gR (v := 219) hT rfl (hR 218 1 rfl) ?_
              refine ok_gR (v := 231) hT rfl (hR 218 26 rfl) ?_
              refine ok_aIn rfl (by ((try simp only [g7_σ33, g9_σ33, g10_σ33, g11_σ33, g12_σ33, g13_σ33, g14_σ33, g15_σ33, g20_σ33, g22_σ33, g23_σ33, g24_σ33, g25_σ33])); first | omega | decide | (simp only [Int32.le_iff_toInt_le, Int32.lt_iff_toInt_lt, ti_add, ti_sub, ti_mul, Int32.reduceToInt] at *; omega)) (by ((try simp only [g7_σ33, g9_σ33, g10_σ33, g11_σ33, g12_σ33, g13_σ33, g14_σ33, g15_σ33, g20_σ33, g22_σ33, g23_σ33, g24_σ33, g25_σ33])); first | omega | decide | (simp only [Int32.le_iff_toInt_le, Int32.lt_iff_toInt_lt, ti_add, ti_sub, ti_mul, Int32.reduceToInt] at *; omega)) (fun v45 ev45 => ?_)
              have ev128 := ev45
              refine ok_s14 hT rfl (by decide) (by ((try simp only [g7_σ33, g9_σ33, g10_σ33, g11_σ33, g12_σ33, g13_σ33, g14_σ33, g15_σ33, g20_σ33, g22_σ33, g23_σ33, g24_σ33, g25_σ33])); first | omega | decide | (simp only [Int32.le_iff_toInt_le, Int32.lt_iff_toInt_lt, ti_add, ti_sub, ti_mul, Int32.reduceToInt] at *; omega)) (by ((try simp only [g7_σ33, g9_σ33, g10_σ33, g11_σ33, g12_σ33, g13_σ33, g14_σ33, g15_σ33, g20_σ33, g22_σ33, g23_σ33, g24_σ33, g25_σ33])); first | omega | decide | (simp only [Int32.le_iff_toInt_le, Int32.lt_iff_toInt_lt, ti_add, ti_sub, ti_mul, Int32.reduceToInt] at *; omega)) (fun σ46 eσ46 hOσ46 hT => ?_)
              have c129 : ∀ j : Nat, (j : Int) < (x1_33).toInt + 1 → σ46.1 219 j = σ46.1 231 j := by intro j hj; rw [hOσ46.2 231 (by decide)]; by_cases q : (j : Int) = (x1_33).toInt; rw [show j = (x1_33).toNatClampNeg by show j = (x1_33).toInt.toNat; omega, zI_atI eσ46]; exact ev128; rw [zI_atN eσ46 (by show j ≠ (x1_33).toInt.toNat; omega)]; exact c6 j (by omega)
              have r231_σ46 : σ46.1 231 = σ7.1 231 := (hOσ46.2 231 (by decide)).trans r231_σ33
              have hK : TOK σ46.1 := TOK_tr hOσ46 (by decide) (by decide) hK
              have hB : ZB σ46.1 := ZB.tr hOσ46 (by decide) hB
              have g7_σ46 : σ46.1 218 7 = (σ2.1 218 7) := (congrFun (hOσ46.2 218 (by decide)) 7).trans g7_σ33
              have g9_σ46 : σ46.1 218 9 = (σ2.1 218 9) := (congrFun (hOσ46.2 218 (by decide)) 9).trans g9_σ33
              have g10_σ46 : σ46.1 218 10 = (σ7.1 218 10) := (congrFun (hOσ46.2 218 (by decide)) 10).trans g10_σ33
              have g11_σ46 : σ46.1 218 11 = (σ7.1 218 11) := (congrFun (hOσ46.2 218 (by decide)) 11).trans g11_σ33
              have g12_σ46 : σ46.1 218 12 = (σ7.1 218 12) := (congrFun (hOσ46.2 218 (by decide)) 12).trans g12_σ33
              have g13_σ46 : σ46.1 218 13 = (σ7.1 218 13) := (congrFun (hOσ46.2 218 (by decide)) 13).trans g13_σ33
              have g14_σ46 : σ46.1 218 14 = (σ7.1 218 14) := (congrFun (hOσ46.2 218 (by decide)) 14).trans g14_σ33
              have g15_σ46 : σ46.1 218 15 = (σ7.1 218 15) := (congrFun (hOσ46.2 218 (by decide)) 15).trans g15_σ33
              have g20_σ46 : σ46.1 218 20 = (σ7.1 218 20) := (congrFun (hOσ46.2 218 (by decide)) 20).trans g20_σ33
              have g22_σ46 : σ46.1 218 22 = (σ7.1 218 22) := (congrFun (hOσ46.2 218 (by decide)) 22).trans g22_σ33
              have g23_σ46 : σ46.1 218 23 = (σ7.1 218 23) := (congrFun (hOσ46.2 218 (by decide)) 23).trans g23_σ33
              have g24_σ46 : σ46.1 218 24 = (σ7.1 218 24) := (congrFun (hOσ46.2 218 (by decide)) 24).trans g24_σ33
              have g25_σ46 : σ46.1 218 25 = (σ7.1 218 25) := (congrFun (hOσ46.2 218 (by decide)) 25).trans g25_σ33
              exact ih112_33 (x1_33 + 1, σ46) (show Tr [218, 219, 220, 226, 227, 228, 229, 230, 231, 232] σ0 σ46 ∧ (0 ≤ (x1_33 + 1).toInt ∧ ∀ j : Nat, (j : Int) < (x1_33 + 1).toInt → σ46.1 219 j = σ46.1 231 j) ∧ (TOK σ46.1) ∧ (ZB σ46.1) ∧ (σ46.1 218 7 = (σ2.1 218 7)) ∧ (σ46.1 218 9 = (σ2.1 218 9)) ∧ (σ46.1 218 10 = (σ7.1 218 10)) ∧ (σ46.1 218 11 = (σ7.1 218 11)) ∧ (σ46.1 218 12 = (σ7.1 218 12)) ∧ (σ46.1 218 13 = (σ7.1 218 13)) ∧ (σ46.1 218 14 = (σ7.1 218 14)) ∧ (σ46.1 218 15 = (σ7.1 218 15)) ∧ (σ46.1 218 20 = (σ7.1 218 20)) ∧ (σ46.1 218 22 = (σ7.1 218 22)) ∧ (σ46.1 218 23 = (σ7.1 218 23)) ∧ (σ46.1 218 24 = (σ7.1 218 24)) ∧ (σ46.1 218 25 = (σ7.1 218 25)) ∧ (σ46.1 231 = σ7.1 231) from ⟨hT, (by rw [s68]; exact ⟨by omega, c129⟩), hK, hB, g7_σ46, g9_σ46, g10_σ46, g11_σ46, g12_σ46, g13_σ46, g14_σ46, g15_σ46, g20_σ46, g22_σ46, g23_σ46, g24_σ46, g25_σ46, r231_σ46⟩) (show (43 - (x1_33 + 1).toInt).toNat < (43 - x1_33.toInt).toNat from (by rw [s68]; omega))
        · have l58 := hK.2.1 hc29
          refine ok_gR (v := 231) hT rfl (hR 218 26 rfl) ?_
          refine ok_aIn rfl (by ((try simp only [g7_σ7, g9_σ7])); first | omega | decide | (simp only [Int32.le_iff_toInt_le, Int32.lt_iff_toInt_lt, ti_add, ti_sub, ti_mul, Int32.reduceToInt] at *; omega)) (by ((try simp only [g7_σ7, g9_σ7])); first | omega | decide | (simp only [Int32.le_iff_toInt_le, Int32.lt_iff_toInt_lt, ti_add, ti_sub, ti_mul, Int32.reduceToInt] at *; omega)) (fun v48 ev48 => ?_)
          have ev66 : v48 = σ7.1 231 1 := ev48
          refine ok_if (fun hc49 => ?_) (fun hc49 => ?_)
          · have e67 := hc49
            refine ok_gC rfl ?_
            refine ok_zbT (Q := fun V σ => (TOK σ.1 ∧ (σ7.1 218 11).toInt ≤ (σ.1 218 11).toInt ∧ (σ.1 218 14 = 0 → σ7.1 218 14 = 0) ∧ FW (σ.1 231) ∧ σ.1 231 1 = σ7.1 231 1) ∧ (σ.1 218 7 = σ7.1 218 7 ∧ σ.1 218 9 = σ7.1 218 9 ∧ σ.1 218 20 = σ7.1 218 20 ∧ σ.1 218 22 = σ7.1 218 22 ∧ σ.1 218 23 = σ7.1 218 23 ∧ σ.1 218 24 = σ7.1 218 24 ∧ σ.1 218 25 = σ7.1 218 25)) hT (s_X12_readsNames hN (hR.tr hT) (hK) (by rw [hT.2 224 (by decide)]; exact hY) ((i1 y51).1.1) ((i1 y51).2 (by rw [← ev66, e67]; rfl))) (by decide) (fun v50 σ51 hOσ51 hT hqv50 => ?_)
            have hqv50 : (TOK σ51.1 ∧ (σ7.1 218 11).toInt ≤ (σ51.1 218 11).toInt ∧ (σ51.1 218 14 = 0 → σ7.1 218 14 = 0) ∧ FW (σ51.1 231) ∧ σ51.1 231 1 = σ7.1 231 1) ∧ (σ51.1 218 7 = σ7.1 218 7 ∧ σ51.1 218 9 = σ7.1 218 9 ∧ σ51.1 218 20 = σ7.1 218 20 ∧ σ51.1 218 22 = σ7.1 218 22 ∧ σ51.1 218 23 = σ7.1 218 23 ∧ σ51.1 218 24 = σ7.1 218 24 ∧ σ51.1 218 25 = σ7.1 218 25) := hqv50
            have hkv50 := hqv50
            have hqv50 := hqv50.1
            have r219_σ51 : σ51.1 219 = σ0.1 219 := (hOσ51.2 219 (by decide)).trans r219_σ7
            have hK : TOK σ51.1 := by first | exact hqv50.1 | exact TOK_p eσ51 (by decide) hK
            have hB : ZB σ51.1 := ZB.tr hOσ51 (by decide) hB
            try simp only [g7_σ7, g9_σ7] at hqv50
            have g7_σ51 : σ51.1 218 7 = (σ2.1 218 7) := (hkv50.2.1).trans g7_σ7
            have g9_σ51 : σ51.1 218 9 = (σ2.1 218 9) := (hkv50.2.2.1).trans g9_σ7
            have g20_σ51 : σ51.1 218 20 = (σ7.1 218 20) := hkv50.2.2.2.1
            have g22_σ51 : σ51.1 218 22 = (σ7.1 218 22) := hkv50.2.2.2.2.1
            have g23_σ51 : σ51.1 218 23 = (σ7.1 218 23) := hkv50.2.2.2.2.2.1
            have g24_σ51 : σ51.1 218 24 = (σ7.1 218 24) := hkv50.2.2.2.2.2.2.1
            have g25_σ51 : σ51.1 218 25 = (σ7.1 218 25) := hkv50.2.2.2.2.2.2.2
            have m71 := hqv50.2.1
            have f71 := hqv50.2.2.2.1
            have q71 := hqv50.2.2.2.2
            have k71 := hK.1
            refine ok_gC rfl ?_
            refine ok_zbT (Q := fun V σ => (TOK σ.1 ∧ (σ51.1 218 11).toInt ≤ (σ.1 218 11).toInt ∧ (σ.1 218 14 = 0 → σ51.1 218 14 = 0 ∧ (σ51.1 218 11).toInt < (σ.1 218 11).toInt)) ∧ (σ.1 218 7 = σ51.1 218 7 ∧ σ.1 218 9 = σ51.1 218 9 ∧ σ.1 218 20 = σ51.1 218 20 ∧ σ.1 218 22 = σ51.1 218 22 ∧ σ.1 218 23 = σ51.1 218 23 ∧ σ.1 218 24 = σ51.1 218 24 ∧ σ.1 218 25 = σ51.1 218 25)) hT (s_X12_needsSign hN (hR.tr hT) (hK) (by rw [hT.2 224 (by decide)]; exact hY) (by decide)) (by decide) (fun v52 σ53 hOσ53 hT hqv52 => ?_)
            have hqv52 : (TOK σ53.1 ∧ (σ51.1 218 11).toInt ≤ (σ53.1 218 11).toInt ∧ (σ53.1 218 14 = 0 → σ51.1 218 14 = 0 ∧ (σ51.1 218 11).toInt < (σ53.1 218 11).toInt)) ∧ (σ53.1 218 7 = σ51.1 218 7 ∧ σ53.1 218 9 = σ51.1 218 9 ∧ σ53.1 218 20 = σ51.1 218 20 ∧ σ53.1 218 22 = σ51.1 218 22 ∧ σ53.1 218 23 = σ51.1 218 23 ∧ σ53.1 218 24 = σ51.1 218 24 ∧ σ53.1 218 25 = σ51.1 218 25) := hqv52
            have hkv52 := hqv52
            have hqv52 := hqv52.1
            have r219_σ53 : σ53.1 219 = σ0.1 219 := (hOσ53.2 219 (by decide)).trans r219_σ51
            have r231_σ53 : σ53.1 231 = σ51.1 231 := hOσ53.2 231 (by decide)
            have hK : TOK σ53.1 := by first | exact hqv52.1 | exact TOK_p eσ53 (by decide) hK
            have hB : ZB σ53.1 := ZB.tr hOσ53 (by decide) hB
            try simp only [g7_σ51, g9_σ51, g20_σ51, g22_σ51, g23_σ51, g24_σ51, g25_σ51] at hqv52
            have g7_σ53 : σ53.1 218 7 = (σ2.1 218 7) := (hkv52.2.1).trans g7_σ51
            have g9_σ53 : σ53.1 218 9 = (σ2.1 218 9) := (hkv52.2.2.1).trans g9_σ51
            have g20_σ53 : σ53.1 218 20 = (σ7.1 218 20) := (hkv52.2.2.2.1).trans g20_σ51
            have g22_σ53 : σ53.1 218 22 = (σ7.1 218 22) := (hkv52.2.2.2.2.1).trans g22_σ51
            have g23_σ53 : σ53.1 218 23 = (σ7.1 218 23) := (hkv52.2.2.2.2.2.1).trans g23_σ51
            have g24_σ53 : σ53.1 218 24 = (σ7.1 218 24) := (hkv52.2.2.2.2.2.2.1).trans g24_σ51
            have g25_σ53 : σ53.1 218 25 = (σ7.1 218 25) := (hkv52.2.2.2.2.2.2.2).trans g25_σ51
            have m84 := hqv52.2.1
            have u84 := hqv52.2.2
            have k84 := hK.1
            refine ok_gR (v := 231) hT rfl (hR 218 26 rfl) ?_
            refine ok_aIn rfl (by ((try simp only [g7_σ53, g9_σ53, g20_σ53, g22_σ53, g23_σ53, g24_σ53, g25_σ53])); first | omega | decide | (simp only [Int32.le_iff_toInt_le, Int32.lt_iff_toInt_lt, ti_add, ti_sub, ti_mul, Int32.reduceToInt] at *; omega)) (by ((try simp only [g7_σ53, g9_σ53, g20_σ53, g22_σ53, g23_σ53, g24_σ53, g25_σ53])); first | omega | decide | (simp only [Int32.le_iff_toInt_le, Int32.lt_iff_toInt_lt, ti_add, ti_sub, ti_mul, Int32.reduceToInt] at *; omega)) (fun v55 ev55 => ?_)
            have ev93 := ev55
            rw [r231_σ53] at ev93
            have w93 := (show v55 = _ from ev93).trans q71
            have n93 := (i1 y51).1.2
            have s93 : (v55 + 1).toInt = v55.toInt + 1 := by rw [w93, ti_add]; simp only [Int32.reduceToInt]; omega
            refine ok_s14 hT rfl (by decide) (by ((try simp only [g7_σ53, g9_σ53, g20_σ53, g22_σ53, g23_σ53, g24_σ53, g25_σ53])); first | omega | decide | (simp only [Int32.le_iff_toInt_le, Int32.lt_iff_toInt_lt, ti_add, ti_sub, ti_mul, Int32.reduceToInt] at *; omega)) (by ((try simp only [g7_σ53, g9_σ53, g20_σ53, g22_σ53, g23_σ53, g24_σ53, g25_σ53])); first | omega | decide | (simp only [Int32.le_iff_toInt_le, Int32.lt_iff_toInt_lt, ti_add, ti_sub, ti_mul, Int32.reduceToInt] at *; omega)) (fun σ56 eσ56 hOσ56 hT => ?_)
            have k96 := FW_1 eσ56 rfl (by rw [r231_σ53]; exact f71)
            have a96 := k96.2
            have r219_σ56 : σ56.1 219 = σ0.1 219 := (hOσ56.2 219 (by decide)).trans r219_σ53
            have hK : TOK σ56.1 := TOK_tr hOσ56 (by decide) (by decide) hK
            have hB : ZB σ56.1 := ZB.tr hOσ56 (by decide) hB
            have g7_σ56 : σ56.1 218 7 = (σ2.1 218 7) := (congrFun (hOσ56.2 218 (by decide)) 7).trans g7_σ53
            have g9_σ56 : σ56.1 218 9 = (σ2.1 218 9) := (congrFun (hOσ56.2 218 (by decide)) 9).trans g9_σ53
            have g10_σ56 : σ56.1 218 10 = (σ53.1 218 10) := congrFun (hOσ56.2 218 (by decide)) 10
            have g11_σ56 : σ56.1 218 11 = (σ53.1 218 11) := congrFun (hOσ56.2 218 (by decide)) 11
            have g12_σ56 : σ56.1 218 12 = (σ53.1 218 12) := congrFun (hOσ56.2 218 (by decide)) 12
            have g13_σ56 : σ56.1 218 13 = (σ53.1 218 13) := congrFun (hOσ56.2 218 (by decide)) 13
            have g14_σ56 : σ56.1 218 14 = (σ53.1 218 14) := congrFun (hOσ56.2 218 (by decide)) 14
            have g15_σ56 : σ56.1 218 15 = (σ53.1 218 15) := congrFun (hOσ56.2 218 (by decide)) 15
            have g20_σ56 : σ56.1 218 20 = (σ7.1 218 20) := (congrFun (hOσ56.2 218 (by decide)) 20).trans g20_σ53
            have g22_σ56 : σ56.1 218 22 = (σ7.1 218 22) := (congrFun (hOσ56.2 218 (by decide)) 22).trans g22_σ53
            have g23_σ56 : σ56.1 218 23 = (σ7.1 218 23) := (congrFun (hOσ56.2 218 (by decide)) 23).trans g23_σ53
            have g24_σ56 : σ56.1 218 24 = (σ7.1 218 24) := (congrFun (hOσ56.2 218 (by decide)) 24).trans g24_σ53
            have g25_σ56 : σ56.1 218 25 = (σ7.1 218 25) := (congrFun (hOσ56.2 218 (by decide)) 25).trans g25_σ53
            exact ih47_7 σ56 (show Tr [218, 219, 220, 226, 227, 228, 229, 230, 231, 232] σ0 σ56 ∧ ((σ56.1 218 14 = 0 → (FW (σ56.1 231) ∧ 0 ≤ (σ56.1 231 1).toInt ∧ (σ56.1 231 1).toInt ≤ (σ56.1 218 11).toInt) ∧ ((σ56.1 231 1).toInt = 0 → (σ56.1 231 2).toInt = 0))) ∧ (TOK σ56.1) ∧ (ZB σ56.1) ∧ (σ56.1 218 7 = (σ2.1 218 7)) ∧ (σ56.1 218 9 = (σ2.1 218 9)) ∧ (σ56.1 219 = σ0.1 219) from ⟨hT, (by intro q; have u9 := u84 ((g14_σ56).symm.trans q); (try simp only [g7_σ56, g9_σ56, g10_σ56, g11_σ56, g12_σ56, g13_σ56, g14_σ56, g15_σ56, g20_σ56, g22_σ56, g23_σ56, g24_σ56, g25_σ56]); rw [a96, s93, w93]; exact ⟨⟨k96.1, by omega, by omega⟩, fun h9 => by omega⟩), hK, hB, g7_σ56, g9_σ56, r219_σ56⟩) (show (600 - (σ56.1 218 11).toInt).toNat + (if σ56.1 218 14 = 0 then 1 else 0) < (600 - (σ7.1 218 11).toInt).toNat + (if σ7.1 218 14 = 0 then 1 else 0) from (by exact mu2 (by (try simp only [g7_σ56, g9_σ56, g10_σ56, g11_σ56, g12_σ56, g13_σ56, g14_σ56, g15_σ56, g20_σ56, g22_σ56, g23_σ56, g24_σ56, g25_σ56]); omega) (by (try simp only [g7_σ56, g9_σ56, g10_σ56, g11_σ56, g12_σ56, g13_σ56, g14_σ56, g15_σ56, g20_σ56, g22_σ56, g23_σ56, g24_σ56, g25_σ56]); omega) y51 (fun q => by have u9 := u84 ((g14_σ56).symm.trans q); (try simp only [g7_σ56, g9_σ56, g10_σ56, g11_σ56, g12_σ56, g13_σ56, g14_σ56, g15_σ56, g20_σ56, g22_σ56, g23_σ56, g24_σ56, g25_σ56]); omega)))
          · refine ok_gC rfl ?_
            refine ok_zbT (Q := fun V σ => (TOK σ.1 ∧ (σ7.1 218 11).toInt ≤ (σ.1 218 11).toInt ∧ FW (σ.1 231) ∧ σ.1 231 1 = σ7.1 231 1 ∧ ZB σ.1) ∧ (σ.1 218 7 = σ7.1 218 7 ∧ σ.1 218 9 = σ7.1 218 9)) hT (s_X12_readsLine hN (hR.tr hT) (hK) (by rw [hT.2 224 (by decide)]; exact hY) (hB) ((i1 y51).1.1) (y51)) (by decide) (fun v57 σ58 hOσ58 hT hqv57 => ?_)
            have hqv57 : (TOK σ58.1 ∧ (σ7.1 218 11).toInt ≤ (σ58.1 218 11).toInt ∧ FW (σ58.1 231) ∧ σ58.1 231 1 = σ7.1 231 1 ∧ ZB σ58.1) ∧ (σ58.1 218 7 = σ7.1 218 7 ∧ σ58.1 218 9 = σ7.1 218 9) := hqv57
            have hkv57 := hqv57
            have hqv57 := hqv57.1
            have r219_σ58 : σ58.1 219 = σ0.1 219 := (hOσ58.2 219 (by decide)).trans r219_σ7
            have hK : TOK σ58.1 := by first | exact hqv57.1 | exact TOK_p eσ58 (by decide) hK
            have hB : ZB σ58.1 := by first | exact hqv57.2.2.2.2 | exact ZB_s eσ58 hB
            try simp only [g7_σ7, g9_σ7] at hqv57
            have g7_σ58 : σ58.1 218 7 = (σ2.1 218 7) := (hkv57.2.1).trans g7_σ7
            have g9_σ58 : σ58.1 218 9 = (σ2.1 218 9) := (hkv57.2.2).trans g9_σ7
            have m71 := hqv57.2.1
            have f71 := hqv57.2.2.1
            have q71 := hqv57.2.2.2.1
            have k71 := hK.1
            refine ok_gC rfl ?_
            refine ok_zbT (Q := fun V σ => (TOK σ.1 ∧ (σ58.1 218 11).toInt ≤ (σ.1 218 11).toInt ∧ (σ.1 218 14 = 0 → σ58.1 218 14 = 0 ∧ (σ58.1 218 11).toInt < (σ.1 218 11).toInt)) ∧ (σ.1 218 7 = σ58.1 218 7 ∧ σ.1 218 9 = σ58.1 218 9 ∧ σ.1 218 20 = σ58.1 218 20 ∧ σ.1 218 22 = σ58.1 218 22 ∧ σ.1 218 23 = σ58.1 218 23 ∧ σ.1 218 24 = σ58.1 218 24 ∧ σ.1 218 25 = σ58.1 218 25)) hT (s_X12_needsSign hN (hR.tr hT) (hK) (by rw [hT.2 224 (by decide)]; exact hY) (by decide)) (by decide) (fun v59 σ60 hOσ60 hT hqv59 => ?_)
            have hqv59 : (TOK σ60.1 ∧ (σ58.1 218 11).toInt ≤ (σ60.1 218 11).toInt ∧ (σ60.1 218 14 = 0 → σ58.1 218 14 = 0 ∧ (σ58.1 218 11).toInt < (σ60.1 218 11).toInt)) ∧ (σ60.1 218 7 = σ58.1 218 7 ∧ σ60.1 218 9 = σ58.1 218 9 ∧ σ60.1 218 20 = σ58.1 218 20 ∧ σ60.1 218 22 = σ58.1 218 22 ∧ σ60.1 218 23 = σ58.1 218 23 ∧ σ60.1 218 24 = σ58.1 218 24 ∧ σ60.1 218 25 = σ58.1 218 25) := hqv59
            have hkv59 := hqv59
            have hqv59 := hqv59.1
            have r219_σ60 : σ60.1 219 = σ0.1 219 := (hOσ60.2 219 (by decide)).trans r219_σ58
            have r231_σ60 : σ60.1 231 = σ58.1 231 := hOσ60.2 231 (by decide)
            have hK : TOK σ60.1 := by first | exact hqv59.1 | exact TOK_p eσ60 (by decide) hK
            have hB : ZB σ60.1 := ZB.tr hOσ60 (by decide) hB
            try simp only [g7_σ58, g9_σ58] at hqv59
            have g7_σ60 : σ60.1 218 7 = (σ2.1 218 7) := (hkv59.2.1).trans g7_σ58
            have g9_σ60 : σ60.1 218 9 = (σ2.1 218 9) := (hkv59.2.2.1).trans g9_σ58
            have g20_σ60 : σ60.1 218 20 = (σ58.1 218 20) := hkv59.2.2.2.1
            have g22_σ60 : σ60.1 218 22 = (σ58.1 218 22) := hkv59.2.2.2.2.1
            have g23_σ60 : σ60.1 218 23 = (σ58.1 218 23) := hkv59.2.2.2.2.2.1
            have g24_σ60 : σ60.1 218 24 = (σ58.1 218 24) := hkv59.2.2.2.2.2.2.1
            have g25_σ60 : σ60.1 218 25 = (σ58.1 218 25) := hkv59.2.2.2.2.2.2.2
            have m84 := hqv59.2.1
            have u84 := hqv59.2.2
            have k84 := hK.1
            refine ok_gR (v := 231) hT rfl (hR 218 26 rfl) ?_
            refine ok_aIn rfl (by ((try simp only [g7_σ60, g9_σ60, g20_σ60, g22_σ60, g23_σ60, g24_σ60, g25_σ60])); first | omega | decide | (simp only [Int32.le_iff_toInt_le, Int32.lt_iff_toInt_lt, ti_add, ti_sub, ti_mul, Int32.reduceToInt] at *; omega)) (by ((try simp only [g7_σ60, g9_σ60, g20_σ60, g22_σ60, g23_σ60, g24_σ60, g25_σ60])); first | omega | decide | (simp only [Int32.le_iff_toInt_le, Int32.lt_iff_toInt_lt, ti_add, ti_sub, ti_mul, Int32.reduceToInt] at *; omega)) (fun v62 ev62 => ?_)
            have ev93 := ev62
            rw [r231_σ60] at ev93
            have w93 := (show v62 = _ from ev93).trans q71
            have n93 := (i1 y51).1.2
            have s93 : (v62 + 1).toInt = v62.toInt + 1 := by rw [w93, ti_add]; simp only [Int32.reduceToInt]; omega
            refine ok_s14 hT rfl (by decide) (by ((try simp only [g7_σ60, g9_σ60, g20_σ60, g22_σ60, g23_σ60, g24_σ60, g25_σ60])); first | omega | decide | (simp only [Int32.le_iff_toInt_le, Int32.lt_iff_toInt_lt, ti_add, ti_sub, ti_mul, Int32.reduceToInt] at *; omega)) (by ((try simp only [g7_σ60, g9_σ60, g20_σ60, g22_σ60, g23_σ60, g24_σ60, g25_σ60])); first | omega | decide | (simp only [Int32.le_iff_toInt_le, Int32.lt_iff_toInt_lt, ti_add, ti_sub, ti_mul, Int32.reduceToInt] at *; omega)) (fun σ63 eσ63 hOσ63 hT => ?_)
            have k96 := FW_1 eσ63 rfl (by rw [r231_σ60]; exact f71)
            have a96 := k96.2
            have r219_σ63 : σ63.1 219 = σ0.1 219 := (hOσ63.2 219 (by decide)).trans r219_σ60
            have hK : TOK σ63.1 := TOK_tr hOσ63 (by decide) (by decide) hK
            have hB : ZB σ63.1 := ZB.tr hOσ63 (by decide) hB
            have g7_σ63 : σ63.1 218 7 = (σ2.1 218 7) := (congrFun (hOσ63.2 218 (by decide)) 7).trans g7_σ60
            have g9_σ63 : σ63.1 218 9 = (σ2.1 218 9) := (congrFun (hOσ63.2 218 (by decide)) 9).trans g9_σ60
            have g10_σ63 : σ63.1 218 10 = (σ60.1 218 10) := congrFun (hOσ63.2 218 (by decide)) 10
            have g11_σ63 : σ63.1 218 11 = (σ60.1 218 11) := congrFun (hOσ63.2 218 (by decide)) 11
            have g12_σ63 : σ63.1 218 12 = (σ60.1 218 12) := congrFun (hOσ63.2 218 (by decide)) 12
            have g13_σ63 : σ63.1 218 13 = (σ60.1 218 13) := congrFun (hOσ63.2 218 (by decide)) 13
            have g14_σ63 : σ63.1 218 14 = (σ60.1 218 14) := congrFun (hOσ63.2 218 (by decide)) 14
            have g15_σ63 : σ63.1 218 15 = (σ60.1 218 15) := congrFun (hOσ63.2 218 (by decide)) 15
            have g20_σ63 : σ63.1 218 20 = (σ58.1 218 20) := (congrFun (hOσ63.2 218 (by decide)) 20).trans g20_σ60
            have g22_σ63 : σ63.1 218 22 = (σ58.1 218 22) := (congrFun (hOσ63.2 218 (by decide)) 22).trans g22_σ60
            have g23_σ63 : σ63.1 218 23 = (σ58.1 218 23) := (congrFun (hOσ63.2 218 (by decide)) 23).trans g23_σ60
            have g24_σ63 : σ63.1 218 24 = (σ58.1 218 24) := (congrFun (hOσ63.2 218 (by decide)) 24).trans g24_σ60
            have g25_σ63 : σ63.1 218 25 = (σ58.1 218 25) := (congrFun (hOσ63.2 218 (by decide)) 25).trans g25_σ60
            exact ih47_7 σ63 (show Tr [218, 219, 220, 226, 227, 228, 229, 230, 231, 232] σ0 σ63 ∧ ((σ63.1 218 14 = 0 → (FW (σ63.1 231) ∧ 0 ≤ (σ63.1 231 1).toInt ∧ (σ63.1 231 1).toInt ≤ (σ63.1 218 11).toInt) ∧ ((σ63.1 231 1).toInt = 0 → (σ63.1 231 2).toInt = 0))) ∧ (TOK σ63.1) ∧ (ZB σ63.1) ∧ (σ63.1 218 7 = (σ2.1 218 7)) ∧ (σ63.1 218 9 = (σ2.1 218 9)) ∧ (σ63.1 219 = σ0.1 219) from ⟨hT, (by intro q; have u9 := u84 ((g14_σ63).symm.trans q); (try simp only [g7_σ63, g9_σ63, g10_σ63, g11_σ63, g12_σ63, g13_σ63, g14_σ63, g15_σ63, g20_σ63, g22_σ63, g23_σ63, g24_σ63, g25_σ63]); rw [a96, s93, w93]; exact ⟨⟨k96.1, by omega, by omega⟩, fun h9 => by omega⟩), hK, hB, g7_σ63, g9_σ63, r219_σ63⟩) (show (600 - (σ63.1 218 11).toInt).toNat + (if σ63.1 218 14 = 0 then 1 else 0) < (600 - (σ7.1 218 11).toInt).toNat + (if σ7.1 218 14 = 0 then 1 else 0) from (by exact mu2 (by (try simp only [g7_σ63, g9_σ63, g10_σ63, g11_σ63, g12_σ63, g13_σ63, g14_σ63, g15_σ63, g20_σ63, g22_σ63, g23_σ63, g24_σ63, g25_σ63]); omega) (by (try simp only [g7_σ63, g9_σ63, g10_σ63, g11_σ63, g12_σ63, g13_σ63, g14_σ63, g15_σ63, g20_σ63, g22_σ63, g23_σ63, g24_σ63, g25_σ63]); omega) y51 (fun q => by have u9 := u84 ((g14_σ63).symm.trans q); (try simp only [g7_σ63, g9_σ63, g10_σ63, g11_σ63, g12_σ63, g13_σ63, g14_σ63, g15_σ63, g20_σ63, g22_σ63, g23_σ63, g24_σ63, g25_σ63]); omega)))
    · have l68 := hc6
      rw [Int32.le_iff_toInt_le] at l68
      try simp only [Int32.reduceToInt] at l68
      have s68 : (x1_5 + 1).toInt = x1_5.toInt + 1 := by rw [ti_add]; simp only [Int32.reduceToInt]; omega
      refine ok_gR (v := 232) hT rfl (hR 218 27 rfl) ?_
      refine ok_s16 hT rfl (by decide) (by ((try simp only [g7_σ5, g9_σ5, g10_σ5, g11_σ5, g12_σ5, g13_σ5, g14_σ5, g15_σ5, g20_σ5, g22_σ5, g23_σ5, g24_σ5, g25_σ5])); first | omega | decide | (simp only [Int32.le_iff_toInt_le, Int32.lt_iff_toInt_lt, ti_add, ti_sub, ti_mul, Int32.reduceToInt] at *; omega)) (by ((try simp only [g7_σ5, g9_σ5, g10_σ5, g11_σ5, g12_σ5, g13_σ5, g14_σ5, g15_σ5, g20_σ5, g22_σ5, g23_σ5, g24_σ5, g25_σ5])); first | omega | decide | (simp only [Int32.le_iff_toInt_le, Int32.lt_iff_toInt_lt, ti_add, ti_sub, ti_mul, Int32.reduceToInt] at *; omega)) (fun σ65 eσ65 hOσ65 hT => ?_)
      have r219_σ65 : σ65.1 219 = σ0.1 219 := (hOσ65.2 219 (by decide)).trans r219_σ5
      have r231_σ65 : σ65.1 231 = σ3.1 231 := (hOσ65.2 231 (by decide)).trans r231_σ5
      have hK : TOK σ65.1 := TOK_tr hOσ65 (by decide) (by decide) hK
      have hB : ZB σ65.1 := by first | exact HQ.2.2.2.2 | exact ZB_s eσ65 hB
      have g7_σ65 : σ65.1 218 7 = (σ2.1 218 7) := (congrFun (hOσ65.2 218 (by decide)) 7).trans g7_σ5
      have g9_σ65 : σ65.1 218 9 = (σ2.1 218 9) := (congrFun (hOσ65.2 218 (by decide)) 9).trans g9_σ5
      have g10_σ65 : σ65.1 218 10 = (σ2.1 218 10) := (congrFun (hOσ65.2 218 (by decide)) 10).trans g10_σ5
      have g11_σ65 : σ65.1 218 11 = (σ2.1 218 11) := (congrFun (hOσ65.2 218 (by decide)) 11).trans g11_σ5
      have g12_σ65 : σ65.1 218 12 = (σ2.1 218 12) := (congrFun (hOσ65.2 218 (by decide)) 12).trans g12_σ5
      have g13_σ65 : σ65.1 218 13 = (σ2.1 218 13) := (congrFun (hOσ65.2 218 (by decide)) 13).trans g13_σ5
      have g14_σ65 : σ65.1 218 14 = (σ2.1 218 14) := (congrFun (hOσ65.2 218 (by decide)) 14).trans g14_σ5
      have g15_σ65 : σ65.1 218 15 = (σ2.1 218 15) := (congrFun (hOσ65.2 218 (by decide)) 15).trans g15_σ5
      have g20_σ65 : σ65.1 218 20 = (σ0.1 218 20) := (congrFun (hOσ65.2 218 (by decide)) 20).trans g20_σ5
      have g22_σ65 : σ65.1 218 22 = (σ0.1 218 22) := (congrFun (hOσ65.2 218 (by decide)) 22).trans g22_σ5
      have g23_σ65 : σ65.1 218 23 = (σ0.1 218 23) := (congrFun (hOσ65.2 218 (by decide)) 23).trans g23_σ5
      have g24_σ65 : σ65.1 218 24 = (σ0.1 218 24) := (congrFun (hOσ65.2 218 (by decide)) 24).trans g24_σ5
      have g25_σ65 : σ65.1 218 25 = (σ2.1 218 25) := (congrFun (hOσ65.2 218 (by decide)) 25).trans g25_σ5
      exact ih27_5 (x1_5 + 1, σ65) (show Tr [218, 219, 220, 226, 227, 228, 229, 230, 231, 232] σ0 σ65 ∧ (0 ≤ (x1_5 + 1).toInt) ∧ (TOK σ65.1) ∧ (ZB σ65.1) ∧ (σ65.1 218 7 = (σ2.1 218 7)) ∧ (σ65.1 218 9 = (σ2.1 218 9)) ∧ (σ65.1 218 10 = (σ2.1 218 10)) ∧ (σ65.1 218 11 = (σ2.1 218 11)) ∧ (σ65.1 218 12 = (σ2.1 218 12)) ∧ (σ65.1 218 13 = (σ2.1 218 13)) ∧ (σ65.1 218 14 = (σ2.1 218 14)) ∧ (σ65.1 218 15 = (σ2.1 218 15)) ∧ (σ65.1 218 20 = (σ0.1 218 20)) ∧ (σ65.1 218 22 = (σ0.1 218 22)) ∧ (σ65.1 218 23 = (σ0.1 218 23)) ∧ (σ65.1 218 24 = (σ0.1 218 24)) ∧ (σ65.1 218 25 = (σ2.1 218 25)) ∧ (σ65.1 219 = σ0.1 219) ∧ (σ65.1 231 = σ3.1 231) from ⟨hT, (by rw [s68]; omega), hK, hB, g7_σ65, g9_σ65, g10_σ65, g11_σ65, g12_σ65, g13_σ65, g14_σ65, g15_σ65, g20_σ65, g22_σ65, g23_σ65, g24_σ65, g25_σ65, r219_σ65, r231_σ65⟩) (show (10240 - (x1_5 + 1).toInt).toNat < (10240 - x1_5.toInt).toNat from (by rw [s68]; omega))
  · have l68 := hc4
    rw [Int32.le_iff_toInt_le] at l68
    try simp only [Int32.reduceToInt] at l68
    have s68 : (x1_3 + 1).toInt = x1_3.toInt + 1 := by rw [ti_add]; simp only [Int32.reduceToInt]; omega
    refine ok_gR (v := 231) hT rfl (hR 218 26 rfl) ?_
    refine ok_s14 hT rfl (by decide) (by ((try simp only [g7_σ3, g9_σ3, g10_σ3, g11_σ3, g12_σ3, g13_σ3, g14_σ3, g15_σ3, g20_σ3, g22_σ3, g23_σ3, g24_σ3, g25_σ3])); first | omega | decide | (simp only [Int32.le_iff_toInt_le, Int32.lt_iff_toInt_lt, ti_add, ti_sub, ti_mul, Int32.reduceToInt] at *; omega)) (by ((try simp only [g7_σ3, g9_σ3, g10_σ3, g11_σ3, g12_σ3, g13_σ3, g14_σ3, g15_σ3, g20_σ3, g22_σ3, g23_σ3, g24_σ3, g25_σ3])); first | omega | decide | (simp only [Int32.le_iff_toInt_le, Int32.lt_iff_toInt_lt, ti_add, ti_sub, ti_mul, Int32.reduceToInt] at *; omega)) (fun σ67 eσ67 hOσ67 hT => ?_)
    have z18 : ∀ j : Nat, (j : Int) < (x1_3).toInt + 1 → σ67.1 231 j = 0 := by intro j hj; by_cases q : (j : Int) = (x1_3).toInt; rw [show j = (x1_3).toNatClampNeg by show j = (x1_3).toInt.toNat; omega, zI_atI eσ67]; rw [zI_atN eσ67 (by show j ≠ (x1_3).toInt.toNat; omega)]; exact z6 j (by omega)
    have r219_σ67 : σ67.1 219 = σ0.1 219 := (hOσ67.2 219 (by decide)).trans r219_σ3
    have hK : TOK σ67.1 := TOK_tr hOσ67 (by decide) (by decide) hK
    have hB : ZB σ67.1 := ZB.tr hOσ67 (by decide) hB
    have g7_σ67 : σ67.1 218 7 = (σ2.1 218 7) := (congrFun (hOσ67.2 218 (by decide)) 7).trans g7_σ3
    have g9_σ67 : σ67.1 218 9 = (σ2.1 218 9) := (congrFun (hOσ67.2 218 (by decide)) 9).trans g9_σ3
    have g10_σ67 : σ67.1 218 10 = (σ2.1 218 10) := (congrFun (hOσ67.2 218 (by decide)) 10).trans g10_σ3
    have g11_σ67 : σ67.1 218 11 = (σ2.1 218 11) := (congrFun (hOσ67.2 218 (by decide)) 11).trans g11_σ3
    have g12_σ67 : σ67.1 218 12 = (σ2.1 218 12) := (congrFun (hOσ67.2 218 (by decide)) 12).trans g12_σ3
    have g13_σ67 : σ67.1 218 13 = (σ2.1 218 13) := (congrFun (hOσ67.2 218 (by decide)) 13).trans g13_σ3
    have g14_σ67 : σ67.1 218 14 = (σ2.1 218 14) := (congrFun (hOσ67.2 218 (by decide)) 14).trans g14_σ3
    have g15_σ67 : σ67.1 218 15 = (σ2.1 218 15) := (congrFun (hOσ67.2 218 (by decide)) 15).trans g15_σ3
    have g20_σ67 : σ67.1 218 20 = (σ0.1 218 20) := (congrFun (hOσ67.2 218 (by decide)) 20).trans g20_σ3
    have g22_σ67 : σ67.1 218 22 = (σ0.1 218 22) := (congrFun (hOσ67.2 218 (by decide)) 22).trans g22_σ3
    have g23_σ67 : σ67.1 218 23 = (σ0.1 218 23) := (congrFun (hOσ67.2 218 (by decide)) 23).trans g23_σ3
    have g24_σ67 : σ67.1 218 24 = (σ0.1 218 24) := (congrFun (hOσ67.2 218 (by decide)) 24).trans g24_σ3
    have g25_σ67 : σ67.1 218 25 = (σ2.1 218 25) := (congrFun (hOσ67.2 218 (by decide)) 25).trans g25_σ3
    exact ih6_3 (x1_3 + 1, σ67) (show Tr [218, 219, 220, 226, 227, 228, 229, 230, 231, 232] σ0 σ67 ∧ (0 ≤ (x1_3 + 1).toInt ∧ ∀ j : Nat, (j : Int) < (x1_3 + 1).toInt → σ67.1 231 j = 0) ∧ (TOK σ67.1) ∧ (ZB σ67.1) ∧ (σ67.1 218 7 = (σ2.1 218 7)) ∧ (σ67.1 218 9 = (σ2.1 218 9)) ∧ (σ67.1 218 10 = (σ2.1 218 10)) ∧ (σ67.1 218 11 = (σ2.1 218 11)) ∧ (σ67.1 218 12 = (σ2.1 218 12)) ∧ (σ67.1 218 13 = (σ2.1 218 13)) ∧ (σ67.1 218 14 = (σ2.1 218 14)) ∧ (σ67.1 218 15 = (σ2.1 218 15)) ∧ (σ67.1 218 20 = (σ0.1 218 20)) ∧ (σ67.1 218 22 = (σ0.1 218 22)) ∧ (σ67.1 218 23 = (σ0.1 218 23)) ∧ (σ67.1 218 24 = (σ0.1 218 24)) ∧ (σ67.1 218 25 = (σ2.1 218 25)) ∧ (σ67.1 219 = σ0.1 219) from ⟨hT, (by rw [s68]; exact ⟨by omega, z18⟩), hK, hB, g7_σ67, g9_σ67, g10_σ67, g11_σ67, g12_σ67, g13_σ67, g14_σ67, g15_σ67, g20_σ67, g22_σ67, g23_σ67, g24_σ67, g25_σ67, r219_σ67⟩) (show (43 - (x1_3 + 1).toInt).toNat < (43 - x1_3.toInt).toNat from (by rw [s68]; omega))

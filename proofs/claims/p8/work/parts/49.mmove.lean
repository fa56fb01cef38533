theorem ti33 {x : Int32} (h0 : 0 ≤ x.toInt) (h1 : x.toInt ≤ 10) : (33 + x).toInt = 33 + x.toInt ∧ (33 + x).toNatClampNeg = 33 + x.toInt.toNat := by
  have e9 : (33 + x).toNatClampNeg = (33 + x).toInt.toNat := rfl
  rw [e9, ti_add]; simp only [Int32.reduceToInt]; omega
theorem nI_ofm {x : Int32} (h0 : 0 ≤ x.toInt) (h1 : x.toInt ≤ 10) : nI x.toInt.toNat = x := Int32.toInt_inj.mp (by rw [nI_toInt (by omega)]; omega)
theorem MW_sw {σ τ ρ : zS} {i j : Nat} {a b : Int32} (e1 : τ = zI σ 219 (upd (σ.1 219) i b)) (e2 : ρ = zI τ 219 (upd (τ.1 219) j a)) (ha : a = σ.1 219 i) (hb : b = σ.1 219 j) (hij : i ≠ j) (hi : 33 ≤ i) (hj : 33 ≤ j) (hi2 : (i : Int) < 33 + (σ.1 219 0).toInt) (hj2 : (j : Int) < 33 + (σ.1 219 0).toInt) (h : MW (σ.1 219) 0) : MW (ρ.1 219) 0 := by
  have o : ∀ k, k ≠ i → k ≠ j → ρ.1 219 k = σ.1 219 k := fun k h1 h2 => by rw [zI_atN e2 h2, zI_atN e1 h1]
  have oj : ρ.1 219 j = σ.1 219 i := by rw [zI_atI e2, ha]
  have oi : ρ.1 219 i = σ.1 219 j := by rw [zI_atN e2 hij, zI_atI e1, hb]
  unfold MW at h ⊢
  rw [o 0 (by omega) (by omega), o (0 + 2) (by omega) (by omega)]
  refine ⟨h.1, h.2.1, fun k hk => ?_, fun v hv => ?_⟩
  · rw [o _ (by omega) (by omega), o _ (by omega) (by omega)]; exact h.2.2.1 k hk
  · obtain ⟨k, hk, hq⟩ := h.2.2.2 v hv
    by_cases q1 : 0 + 33 + k = i
    · refine ⟨j - 33, by omega, ?_⟩
      rw [show 0 + 33 + (j - 33) = j by omega, oj, ← q1]; exact hq
    · by_cases q2 : 0 + 33 + k = j
      · refine ⟨i - 33, by omega, ?_⟩
        rw [show 0 + 33 + (i - 33) = i by omega, oi, ← q2]; exact hq
      · exact ⟨k, hk, by rw [o _ q1 q2]; exact hq⟩
/-- each name but x has a place other than h -/
def HL (g : Nat → Int32) (x : Int32) (h : Nat) : Prop := ((0 ≤ (g 0).toInt ∧ (g 0).toInt ≤ 10) ∧ (0 ≤ (g 2).toInt ∧ (g 2).toInt ≤ 10) ∧ (∀ j, j < 10 → (0 ≤ (g (0 + 13 + j)).toInt ∧ (g (0 + 13 + j)).toInt ≤ 7) ∧ (0 ≤ (g (0 + 23 + j)).toInt ∧ (g (0 + 23 + j)).toInt ≤ 7))) ∧ ∀ v : Nat, (v : Int) < (g 0).toInt → nI v ≠ x → ∃ k : Nat, (k : Int) < (g 0).toInt ∧ k ≠ h ∧ g (0 + 33 + k) = nI v
theorem HL_0 {g : Nat → Int32} {x : Int32} {h : Nat} (m : MW g 0) (hx : g (33 + h) = x) : HL g x h := by
  refine ⟨⟨m.1, m.2.1, m.2.2.1⟩, fun v hv hq => ?_⟩
  obtain ⟨k, hk, e⟩ := m.2.2.2 v hv
  refine ⟨k, hk, fun q => hq ?_, e⟩
  rw [← e, ← hx, q, Nat.zero_add]
theorem HL_s {σ τ : zS} {x b : Int32} {h h' : Nat} (e : τ = zI σ 219 (upd (σ.1 219) (33 + h) b)) (hb : b = σ.1 219 (33 + h')) (hh : h ≠ h') (hk : (h : Int) < (σ.1 219 0).toInt) (m : HL (σ.1 219) x h) : HL (τ.1 219) x h' := by
  have o : ∀ k, k ≠ 33 + h → τ.1 219 k = σ.1 219 k := fun k h1 => zI_atN e h1
  unfold HL at m ⊢
  rw [o 0 (by omega), o 2 (by omega)]
  refine ⟨⟨m.1.1, m.1.2.1, fun k hk => ?_⟩, fun v hv hq => ?_⟩
  · rw [o _ (by omega), o _ (by omega)]; exact m.1.2.2 k hk
  · obtain ⟨k, hk2, hne, hq2⟩ := m.2 v hv hq
    by_cases q : k = h'
    · refine ⟨h, hk, hh, ?_⟩
      rw [show 0 + 33 + h = 33 + h by omega, zI_atI e, hb, ← q, ← hq2, Nat.zero_add]
    · exact ⟨k, hk2, q, by rw [o _ (by omega)]; exact hq2⟩
theorem HL_e {σ τ : zS} {x : Int32} {h : Nat} (e : τ = zI σ 219 (upd (σ.1 219) (33 + h) x)) (hk : (h : Int) < (σ.1 219 0).toInt) (m : HL (σ.1 219) x h) : MW (τ.1 219) 0 := by
  have o : ∀ k, k ≠ 33 + h → τ.1 219 k = σ.1 219 k := fun k h1 => zI_atN e h1
  unfold HL at m
  unfold MW
  rw [o 0 (by omega), o (0 + 2) (by omega)]
  refine ⟨m.1.1, m.1.2.1, fun k hk => ?_, fun v hv => ?_⟩
  · rw [o _ (by omega), o _ (by omega)]; exact m.1.2.2 k hk
  · by_cases q : nI v = x
    · exact ⟨h, hk, by rw [Nat.zero_add, zI_atI e, q]⟩
    · obtain ⟨k, hk2, hne, hq2⟩ := m.2 v hv q
      exact ⟨k, hk2, by rw [o _ (by omega)]; exact hq2⟩

set_option maxHeartbeats 4000000 in
set_option maxRecDepth 100000 in
theorem s_X12_placeOf {N : Nat} (hN : 1048576 ≤ N) {x1 : Int32} {σ0 : zS}  (hR : RF σ0.2.2) (hM : MW (σ0.1 219) 0) (hx : 0 ≤ x1.toInt ∧ x1.toInt < (σ0.1 219 0).toInt) : Ok (f_X12_placeOf N 218 x1 σ0) (fun r => Tr [] σ0 r.2 ∧ ((0 ≤ r.1.toInt ∧ r.1.toInt < (σ0.1 219 0).toInt) ∧ σ0.1 219 (33 + r.1.toInt.toNat) = x1)) := by
  have hT : Tr [] σ0 σ0 := Tr.rf
  have hn := hM.1
  have he : 0 ≤ (σ0.1 219 2).toInt ∧ (σ0.1 219 2).toInt ≤ 10 := hM.2.1
  have qm := mny_b hn.1 hn.2
  rw [f_X12_placeOf.eq_1]
  obtain ⟨k9, hk9, hq9⟩ := hM.2.2.2 x1.toInt.toNat (by have := hx.1; have := hx.2; omega)
  rw [nI_ofm hx.1 (by omega), Nat.zero_add] at hq9
  refine ok_lp (fun t : Int32 × zS => Tr [] σ0 (t.2) ∧ (∃ k : Nat, (k : Int) < (σ0.1 219 0).toInt ∧ σ0.1 219 (33 + k) = x1 ∧ (t.1).toInt ≤ (k : Int) ∧ 0 ≤ (t.1).toInt)) (fun t : Int32 × zS => (10 - (t.1).toInt).toNat) (fun again1 t hI ih2_1 => ?_) N _ (show Tr [] σ0 σ0 ∧ (∃ k : Nat, (k : Int) < (σ0.1 219 0).toInt ∧ σ0.1 219 (33 + k) = x1 ∧ (0 : Int32).toInt ≤ (k : Int) ∧ 0 ≤ (0 : Int32).toInt) from ⟨hT, (by exact ⟨k9, hk9, hq9, by simp only [Int32.reduceToInt]; omega, by decide⟩)⟩) (show (10 - (0 : Int32).toInt).toNat < N from (by simp only [Int32.reduceToInt]; omega))
  obtain ⟨x2_1, σ1⟩ := t
  have hI : Tr [] σ0 σ1 ∧ (∃ k : Nat, (k : Int) < (σ0.1 219 0).toInt ∧ σ0.1 219 (33 + k) = x1 ∧ x2_1.toInt ≤ (k : Int) ∧ 0 ≤ x2_1.toInt) := hI
  obtain ⟨hT, hI1⟩ := hI
  rw [F_X12_placeOf_2.eq_1]
  obtain ⟨k9, hk9, hq9, hle9, h09⟩ := hI1
  have i9 := ti33 (x := x2_1) h09 (by omega)
  refine ok_gR (v := 219) hT rfl (hR 218 1 rfl) ?_
  refine ok_aIn rfl (by first | omega | decide | (simp only [Int32.le_iff_toInt_le, Int32.lt_iff_toInt_lt, ti_add, ti_sub, ti_mul, Int32.reduceToInt] at *; omega)) (by first | omega | decide | (simp only [Int32.le_iff_toInt_le, Int32.lt_iff_toInt_lt, ti_add, ti_sub, ti_mul, Int32.reduceToInt] at *; omega)) (fun v3 ev3 => ?_)
  have ev9 := ev3
  rw [hT.2 219 List.not_mem_nil, i9.2] at ev9
  refine ok_if (fun hc4 => ?_) (fun hc4 => ?_)
  · exact ok_some ⟨hT, (show (0 ≤ x2_1.toInt ∧ x2_1.toInt < (σ0.1 219 0).toInt) ∧ σ0.1 219 (33 + x2_1.toInt.toNat) = x1 from by refine ⟨⟨by omega, by omega⟩, ?_⟩; rw [← ev9]; assumption)⟩
  · have hlt : x2_1.toInt < (k9 : Int) := by
        rcases (show x2_1.toInt < (k9 : Int) ∨ x2_1.toInt = (k9 : Int) by omega) with q | q
        · exact q
        · exact absurd (by rw [ev9, show x2_1.toInt.toNat = k9 by omega]; exact hq9) hc4
    exact ih2_1 (x2_1 + 1, σ1) (show Tr [] σ0 σ1 ∧ (∃ k : Nat, (k : Int) < (σ0.1 219 0).toInt ∧ σ0.1 219 (33 + k) = x1 ∧ (x2_1 + 1).toInt ≤ (k : Int) ∧ 0 ≤ (x2_1 + 1).toInt) from ⟨hT, (by exact ⟨k9, hk9, hq9, by simp only [ti_add, Int32.reduceToInt]; omega, by simp only [ti_add, Int32.reduceToInt]; omega⟩)⟩) (show (10 - (x2_1 + 1).toInt).toNat < (10 - x2_1.toInt).toNat from (by simp only [ti_add, Int32.reduceToInt]; omega))

theorem ti33b {x : Int32} (h0 : 0 ≤ x.toInt) (h1 : x.toInt ≤ 10) : (33 + x + 1).toInt = 34 + x.toInt ∧ (33 + x + 1).toNatClampNeg = 33 + (x.toInt.toNat + 1) := by
  have e9 : (33 + x + 1).toNatClampNeg = (33 + x + 1).toInt.toNat := rfl
  rw [e9, ti_add, (ti33 h0 h1).1]; simp only [Int32.reduceToInt]; omega
theorem ti33c {x : Int32} (h0 : 1 ≤ x.toInt) (h1 : x.toInt ≤ 10) : (33 + x - 1).toInt = 32 + x.toInt ∧ (33 + x - 1).toNatClampNeg = 33 + (x.toInt.toNat - 1) := by
  have e9 : (33 + x - 1).toNatClampNeg = (33 + x - 1).toInt.toNat := rfl
  rw [e9, ti_sub, (ti33 (x := x) (by omega) h1).1]; simp only [Int32.reduceToInt]; omega

set_option maxHeartbeats 4000000 in
set_option maxRecDepth 100000 in
theorem s_X12_swap {N : Nat} (hN : 1048576 ≤ N) {x1 : Int32} {σ0 : zS}  (hR : RF σ0.2.2) (hM : MW (σ0.1 219) 0) (hB : ZB σ0.1) : Ok (f_X12_swap N 218 x1 σ0) (fun r => Tr [218, 219, 234, 235, 236] σ0 r.2 ∧ (ZB r.2.1 ∧ r.2.1 218 7 = σ0.1 218 7 ∧ MW (r.2.1 219) 0)) := by
  have hT : Tr [218, 219, 234, 235, 236] σ0 σ0 := Tr.rf
  have hn := hM.1
  have he : 0 ≤ (σ0.1 219 2).toInt ∧ (σ0.1 219 2).toInt ≤ 10 := hM.2.1
  have qm := mny_b hn.1 hn.2
  have ht : σ0.1 218 7 = σ0.1 218 7 := rfl
  rw [f_X12_swap.eq_1]
  refine ok_gC rfl ?_
  refine ok_zbT (Q := fun V σ => (V = 0 ∨ V = 1) ∧ (¬ V = 0 → 0 ≤ x1.toInt ∧ x1.toInt < (σ0.1 219 0).toInt)) hT (s_X12_isName hN (hR.tr hT) (by first | exact hM | (rw [hw]; exact hM))) (fun _ h9 => absurd h9 List.not_mem_nil) (fun v1 σ2 hOσ2 hT hqv1 => ?_)
  have hqv1 : (v1 = 0 ∨ v1 = 1) ∧ (¬ v1 = 0 → 0 ≤ x1.toInt ∧ x1.toInt < (σ0.1 219 0).toInt) := hqv1
  have hB : ZB σ2.1 := ZB.tr hOσ2 (by decide) hB
  have ht : σ2.1 218 7 = σ0.1 218 7 := by rw [hOσ2.2 218 (by decide)] <;> exact ht
  have hw : σ2.1 219 = σ0.1 219 := hOσ2.2 219 List.not_mem_nil
  refine ok_if (fun hc3 => ?_) (fun hc3 => ?_)
  · exact ok_some ⟨hT, (show ZB σ2.1 ∧ σ2.1 218 7 = σ0.1 218 7 ∧ MW (σ2.1 219) 0 from by refine ⟨hB, ht, ?_⟩; first | exact hM | (rw [hw]; exact hM))⟩
  · have qhc3 := hqv1.2 hc3
    refine ok_gC rfl ?_
    refine ok_zbT (Q := fun V σ => (V = 0 ∨ V = 1) ∧ (¬ V = 0 → 0 ≤ (x1 + 1).toInt ∧ (x1 + 1).toInt < (σ2.1 219 0).toInt)) hT (s_X12_isName hN (hR.tr hT) (by first | exact hM | (rw [hw]; exact hM))) (fun _ h9 => absurd h9 List.not_mem_nil) (fun v4 σ5 hOσ5 hT hqv4 => ?_)
    have hqv4 : (v4 = 0 ∨ v4 = 1) ∧ (¬ v4 = 0 → 0 ≤ (x1 + 1).toInt ∧ (x1 + 1).toInt < (σ2.1 219 0).toInt) := hqv4
    have hB : ZB σ5.1 := ZB.tr hOσ5 (by decide) hB
    have ht : σ5.1 218 7 = σ0.1 218 7 := by rw [hOσ5.2 218 (by decide)] <;> exact ht
    rw [hw] at hqv4
    have hw : σ5.1 219 = σ0.1 219 := (hOσ5.2 219 List.not_mem_nil).trans hw
    refine ok_if (fun hc6 => ?_) (fun hc6 => ?_)
    · exact ok_some ⟨hT, (show ZB σ5.1 ∧ σ5.1 218 7 = σ0.1 218 7 ∧ MW (σ5.1 219) 0 from by refine ⟨hB, ht, ?_⟩; first | exact hM | (rw [hw]; exact hM))⟩
    · have qhc6 := hqv4.2 hc6
      have k9 : (x1 + 1).toInt = x1.toInt + 1 := by first | omega | (simp only [Int32.le_iff_toInt_le, Int32.lt_iff_toInt_lt, ti_add, ti_sub, ti_mul, Int32.reduceToInt] at *; omega)
      have i9 := ti33 (x := x1) (by omega) (by omega)
      have j9 := ti33b (x := x1) (by omega) (by omega)
      refine ok_gR (v := 219) hT rfl (hR 218 1 rfl) ?_
      refine ok_aIn rfl (by first | omega | decide | (simp only [Int32.le_iff_toInt_le, Int32.lt_iff_toInt_lt, ti_add, ti_sub, ti_mul, Int32.reduceToInt] at *; omega)) (by first | omega | decide | (simp only [Int32.le_iff_toInt_le, Int32.lt_iff_toInt_lt, ti_add, ti_sub, ti_mul, Int32.reduceToInt] at *; omega)) (fun v8 ev8 => ?_)
      have ev29 := ev8
      refine ok_gR (v := 219) hT rfl (hR 218 1 rfl) ?_
      refine ok_gR (v := 219) hT rfl (hR 218 1 rfl) ?_
      refine ok_aIn rfl (by rw [j9.1]; omega) (by rw [j9.1]; omega) (fun v11 ev11 => ?_)
      have ev49 := ev11
      refine ok_s14 hT rfl (by decide) (by first | omega | decide | (simp only [Int32.le_iff_toInt_le, Int32.lt_iff_toInt_lt, ti_add, ti_sub, ti_mul, Int32.reduceToInt] at *; omega)) (by first | omega | decide | (simp only [Int32.le_iff_toInt_le, Int32.lt_iff_toInt_lt, ti_add, ti_sub, ti_mul, Int32.reduceToInt] at *; omega)) (fun σ12 eσ12 hOσ12 hT => ?_)
      have e50 := eσ12
      have hB : ZB σ12.1 := ZB.tr hOσ12 (by decide) hB
      have ht : σ12.1 218 7 = σ0.1 218 7 := by rw [hOσ12.2 218 (by decide)] <;> exact ht
      refine ok_gR (v := 219) hT rfl (hR 218 1 rfl) ?_
      refine ok_s14 hT rfl (by decide) (by rw [j9.1]; omega) (by rw [j9.1]; omega) (fun σ14 eσ14 hOσ14 hT => ?_)
      have hM : MW (σ14.1 219) 0 := MW_sw e50 eσ14 ev29 ev49 (by rw [i9.2, j9.2]; omega) (by rw [i9.2]; omega) (by rw [j9.2]; omega) (by rw [i9.2, hw]; omega) (by rw [j9.2, hw]; omega) (by rw [hw]; exact hM)
      have hB : ZB σ14.1 := ZB.tr hOσ14 (by decide) hB
      have ht : σ14.1 218 7 = σ0.1 218 7 := by rw [hOσ14.2 218 (by decide)] <;> exact ht
      refine ok_gC rfl ?_
      refine ok_zbT (Q := fun V σ => ZB σ.1 ∧ σ.1 218 7 = σ14.1 218 7) hT (s_X12_netOf hN (hR.tr hT) (by first | exact hM | (rw [hw]; exact hM)) (hB)) (by decide) (fun v15 σ16 hOσ16 hT hqv15 => ?_)
      have hqv15 : ZB σ16.1 ∧ σ16.1 218 7 = σ14.1 218 7 := hqv15
      have hB : ZB σ16.1 := by first | exact hqv15 | exact hqv15.1 | exact hqv15.1.1 | exact ZB_s eσ16 hB
      have ht : σ16.1 218 7 = σ0.1 218 7 := by first | (rw [zI_atN eσ16 (by decide)]; exact ht) | exact hqv15.2.trans ht | exact hqv15.1.2.trans ht
      have hM : MW (σ16.1 219) 0 := by rw [hOσ16.2 219 (by decide)]; exact hM
      exact ok_some ⟨hT, (show ZB σ16.1 ∧ σ16.1 218 7 = σ0.1 218 7 ∧ MW (σ16.1 219) 0 from by refine ⟨hB, ht, ?_⟩; first | exact hM | (rw [hw]; exact hM))⟩

theorem tm1 {x : Int32} (h0 : 1 ≤ x.toInt) (h1 : x.toInt ≤ 10) : (x + (-1)).toInt = x.toInt - 1 := by
  rw [ti_add, show (-1 : Int32).toInt = -1 by decide]; omega

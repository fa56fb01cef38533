theorem sp_s {x b : Int32} {n : Nat} (h0 : 0 ≤ x.toInt) (h1 : x.toInt < ((2 ^ n : Nat) : Int)) (hn : n ≤ 9) (hb : 0 ≤ b.toInt ∧ b.toInt ≤ 1) : 0 ≤ (2 * x + b).toInt ∧ (2 * x + b).toInt < ((2 ^ (n + 1) : Nat) : Int) := by
  have hp : 2 ^ n ≤ 512 := Nat.pow_le_pow_right (show 0 < 2 by decide) hn
  have hs : 2 ^ (n + 1) = 2 * 2 ^ n := by rw [Nat.pow_succ]; omega
  have m : (2 * x).toInt = 2 * x.toInt := by rw [ti_mul]; simp only [Int32.reduceToInt]; omega
  rw [ti_add, m, hs]
  omega
theorem and1 (v : Int32) : 0 ≤ (v &&& 1).toInt ∧ (v &&& 1).toInt ≤ 1 := by
  have h := ti_and0 v (m := 1) (by decide)
  rw [show Int32.ofNat 1 = 1 from rfl] at h
  omega

set_option maxHeartbeats 4000000 in
set_option maxRecDepth 100000 in
theorem s_X12_takesOrder {N : Nat} (hN : 1048576 ≤ N)  {σ0 : zS}  (hR : RF σ0.2.2) (hM : MW (σ0.1 219) 0) : Ok (f_X12_takesOrder N 218 σ0) (fun r => Tr [235] σ0 r.2 ∧ (True)) := by
  have hT : Tr [235] σ0 σ0 := Tr.rf
  have hn := hM.1
  have he : 0 ≤ (σ0.1 219 2).toInt ∧ (σ0.1 219 2).toInt ≤ 10 := hM.2.1
  have qm := mny_b hn.1 hn.2
  rw [f_X12_takesOrder.eq_1]
  refine ok_lp (fun t : Int32 × zS => Tr [235] σ0 (t.2) ∧ (0 ≤ (t.1).toInt)) (fun t : Int32 × zS => (10 - (t.1).toInt).toNat) (fun again1 t hI ih2_1 => ?_) N _ (show Tr [235] σ0 σ0 ∧ (0 ≤ (0 : Int32).toInt) from ⟨hT, (by first | omega | decide | (simp only [Int32.le_iff_toInt_le, Int32.lt_iff_toInt_lt, ti_add, ti_sub, ti_mul, Int32.reduceToInt] at *; omega))⟩) (show (10 - (0 : Int32).toInt).toNat < N from (by first | omega | decide | (simp only [Int32.le_iff_toInt_le, Int32.lt_iff_toInt_lt, ti_add, ti_sub, ti_mul, Int32.reduceToInt] at *; omega)))
  obtain ⟨x1_1, σ1⟩ := t
  have hI : Tr [235] σ0 σ1 ∧ (0 ≤ x1_1.toInt) := hI
  obtain ⟨hT, hI1⟩ := hI
  rw [F_X12_takesOrder_2.eq_1]
  refine ok_if (fun hc2 => ?_) (fun hc2 => ?_)
  · exact ok_some ⟨hT, trivial⟩
  · refine ok_gR (v := 235) hT rfl (hR 218 30 rfl) ?_
    refine ok_gR (v := 219) hT rfl (hR 218 1 rfl) ?_
    refine ok_aIn rfl (by first | omega | decide | (simp only [Int32.le_iff_toInt_le, Int32.lt_iff_toInt_lt, ti_add, ti_sub, ti_mul, Int32.reduceToInt] at *; omega)) (by first | omega | decide | (simp only [Int32.le_iff_toInt_le, Int32.lt_iff_toInt_lt, ti_add, ti_sub, ti_mul, Int32.reduceToInt] at *; omega)) (fun v5 ev5 => ?_)
    refine ok_s14 hT rfl (by decide) (by first | omega | decide | (simp only [Int32.le_iff_toInt_le, Int32.lt_iff_toInt_lt, ti_add, ti_sub, ti_mul, Int32.reduceToInt] at *; omega)) (by first | omega | decide | (simp only [Int32.le_iff_toInt_le, Int32.lt_iff_toInt_lt, ti_add, ti_sub, ti_mul, Int32.reduceToInt] at *; omega)) (fun σ6 eσ6 hOσ6 hT => ?_)
    exact ih2_1 (x1_1 + 1, σ6) (show Tr [235] σ0 σ6 ∧ (0 ≤ (x1_1 + 1).toInt) from ⟨hT, (by first | omega | decide | (simp only [Int32.le_iff_toInt_le, Int32.lt_iff_toInt_lt, ti_add, ti_sub, ti_mul, Int32.reduceToInt] at *; omega))⟩) (show (10 - (x1_1 + 1).toInt).toNat < (10 - x1_1.toInt).toNat from (by first | omega | decide | (simp only [Int32.le_iff_toInt_le, Int32.lt_iff_toInt_lt, ti_add, ti_sub, ti_mul, Int32.reduceToInt] at *; omega)))

set_option maxHeartbeats 4000000 in
set_option maxRecDepth 100000 in
theorem s_X12_spotOf {N : Nat} (hN : 1048576 ≤ N) {x1 : Int32} {σ0 : zS}  (hR : RF σ0.2.2) (hM : MW (σ0.1 219) 0) : Ok (f_X12_spotOf N 218 x1 σ0) (fun r => Tr [] σ0 r.2 ∧ (0 ≤ r.1.toInt ∧ r.1.toInt ≤ 1023)) := by
  have hT : Tr [] σ0 σ0 := Tr.rf
  have hn := hM.1
  have he : 0 ≤ (σ0.1 219 2).toInt ∧ (σ0.1 219 2).toInt ≤ 10 := hM.2.1
  have qm := mny_b hn.1 hn.2
  rw [f_X12_spotOf.eq_1]
  refine ok_lp (fun t : Int32 × Int32 × zS => Tr [] σ0 (t.2.2) ∧ ((0 ≤ (t.2.1).toInt ∧ (t.2.1).toInt ≤ (σ0.1 219 0).toInt) ∧ 0 ≤ (t.1).toInt ∧ (t.1).toInt < ((2 ^ (t.2.1).toInt.toNat : Nat) : Int))) (fun t : Int32 × Int32 × zS => (10 - (t.2.1).toInt).toNat) (fun again1 t hI ih4_1 => ?_) N _ (show Tr [] σ0 σ0 ∧ ((0 ≤ (0 : Int32).toInt ∧ (0 : Int32).toInt ≤ (σ0.1 219 0).toInt) ∧ 0 ≤ (0 : Int32).toInt ∧ (0 : Int32).toInt < ((2 ^ (0 : Int32).toInt.toNat : Nat) : Int)) from ⟨hT, (by exact ⟨⟨by decide, by simp only [Int32.reduceToInt]; omega⟩, by decide, by decide⟩)⟩) (show (10 - (0 : Int32).toInt).toNat < N from (by first | omega | decide | (simp only [Int32.le_iff_toInt_le, Int32.lt_iff_toInt_lt, ti_add, ti_sub, ti_mul, Int32.reduceToInt] at *; omega)))
  obtain ⟨x2_1, x3_1, σ1⟩ := t
  have hI : Tr [] σ0 σ1 ∧ ((0 ≤ x3_1.toInt ∧ x3_1.toInt ≤ (σ0.1 219 0).toInt) ∧ 0 ≤ x2_1.toInt ∧ x2_1.toInt < ((2 ^ x3_1.toInt.toNat : Nat) : Int)) := hI
  obtain ⟨hT, hI1⟩ := hI
  rw [F_X12_spotOf_4.eq_1]
  have hI3 := hI1
  have hp9 := Nat.pow_le_pow_right (n := 2) (show 0 < 2 by decide) (show x3_1.toInt.toNat ≤ 10 by omega)
  refine ok_gR (v := 219) hT rfl (hR 218 1 rfl) ?_
  refine ok_aIc (j := 0) hT rfl (by decide) rfl (by decide) (by decide) ?_
  refine ok_if (fun hc4 => ?_) (fun hc4 => ?_)
  · exact ok_some ⟨hT, (show 0 ≤ x2_1.toInt ∧ x2_1.toInt ≤ 1023 from by first | omega | decide | (simp only [Int32.le_iff_toInt_le, Int32.lt_iff_toInt_lt, ti_add, ti_sub, ti_mul, Int32.reduceToInt] at *; omega))⟩
  · refine ok_gR (v := 235) hT rfl (hR 218 30 rfl) ?_
    refine ok_aIn rfl (by first | omega | decide | (simp only [Int32.le_iff_toInt_le, Int32.lt_iff_toInt_lt, ti_add, ti_sub, ti_mul, Int32.reduceToInt] at *; omega)) (by first | omega | decide | (simp only [Int32.le_iff_toInt_le, Int32.lt_iff_toInt_lt, ti_add, ti_sub, ti_mul, Int32.reduceToInt] at *; omega)) (fun v6 ev6 => ?_)
    have s9 : 0 ≤ ((2 * x2_1) + (((x1 : Int32) >>> (v6 &&& 31)) &&& 1)).toInt ∧ ((2 * x2_1) + (((x1 : Int32) >>> (v6 &&& 31)) &&& 1)).toInt < ((2 ^ (x3_1.toInt.toNat + 1) : Nat) : Int) := sp_s (by omega) (by omega) (by first | omega | (simp only [Int32.le_iff_toInt_le, Int32.lt_iff_toInt_lt, ti_add, ti_sub, ti_mul, Int32.reduceToInt] at *; omega)) (and1 _)
    have s8 : (x3_1 + 1).toInt.toNat = x3_1.toInt.toNat + 1 := by first | omega | (simp only [Int32.le_iff_toInt_le, Int32.lt_iff_toInt_lt, ti_add, ti_sub, ti_mul, Int32.reduceToInt] at *; omega)
    exact ih4_1 ((2 * x2_1) + (((x1 : Int32) >>> (v6 &&& 31)) &&& 1), x3_1 + 1, σ1) (show Tr [] σ0 σ1 ∧ ((0 ≤ (x3_1 + 1).toInt ∧ (x3_1 + 1).toInt ≤ (σ0.1 219 0).toInt) ∧ 0 ≤ ((2 * x2_1) + (((x1 : Int32) >>> (v6 &&& 31)) &&& 1)).toInt ∧ ((2 * x2_1) + (((x1 : Int32) >>> (v6 &&& 31)) &&& 1)).toInt < ((2 ^ (x3_1 + 1).toInt.toNat : Nat) : Int)) from ⟨hT, (by exact ⟨⟨by first | omega | (simp only [Int32.le_iff_toInt_le, Int32.lt_iff_toInt_lt, ti_add, ti_sub, ti_mul, Int32.reduceToInt] at *; omega), by first | omega | (simp only [Int32.le_iff_toInt_le, Int32.lt_iff_toInt_lt, ti_add, ti_sub, ti_mul, Int32.reduceToInt] at *; omega)⟩, by rw [s8]; exact s9⟩)⟩) (show (10 - (x3_1 + 1).toInt).toNat < (10 - x3_1.toInt).toNat from (by first | omega | decide | (simp only [Int32.le_iff_toInt_le, Int32.lt_iff_toInt_lt, ti_add, ti_sub, ti_mul, Int32.reduceToInt] at *; omega)))

set_option maxHeartbeats 4000000 in
set_option maxRecDepth 100000 in
theorem s_X12_laysOut {N : Nat} (hN : 1048576 ≤ N) {x1 : Int32} {σ0 : zS}  (hR : RF σ0.2.2) (hM : MW (σ0.1 219) 0) (hB : ZB σ0.1) (hp : 0 ≤ x1.toInt ∧ x1.toInt ≤ 9) : Ok (f_X12_laysOut N 218 x1 σ0) (fun r => Tr [234] σ0 r.2 ∧ (ZB r.2.1)) := by
  have hT : Tr [234] σ0 σ0 := Tr.rf
  have hn := hM.1
  have he : 0 ≤ (σ0.1 219 2).toInt ∧ (σ0.1 219 2).toInt ≤ 10 := hM.2.1
  have qm := mny_b hn.1 hn.2
  rw [f_X12_laysOut.eq_1]
  refine ok_lp (fun t : Int32 × zS => Tr [234] σ0 (t.2) ∧ (0 ≤ (t.1).toInt) ∧ (ZB (t.2).1)) (fun t : Int32 × zS => (1024 - (t.1).toInt).toNat) (fun again1 t hI ih2_1 => ?_) N _ (show Tr [234] σ0 σ0 ∧ (0 ≤ (0 : Int32).toInt) ∧ (ZB σ0.1) from ⟨hT, (by first | omega | decide | (simp only [Int32.le_iff_toInt_le, Int32.lt_iff_toInt_lt, ti_add, ti_sub, ti_mul, Int32.reduceToInt] at *; omega)), hB⟩) (show (1024 - (0 : Int32).toInt).toNat < N from (by first | omega | decide | (simp only [Int32.le_iff_toInt_le, Int32.lt_iff_toInt_lt, ti_add, ti_sub, ti_mul, Int32.reduceToInt] at *; omega)))
  obtain ⟨x2_1, σ1⟩ := t
  have hI : Tr [234] σ0 σ1 ∧ (0 ≤ x2_1.toInt) ∧ (ZB σ1.1) := hI
  obtain ⟨hT, hI1, hB⟩ := hI
  rw [F_X12_laysOut_2.eq_1]
  refine ok_gC rfl ?_
  have hTc := hT
  refine ok_zbT (Q := fun V σ => V = mny (σ1.1 219 0)) hT (s_X12_many hN (hR.tr hT) (by first | exact hM | (rw [hT.2 219 (by decide)]; exact hM))) (fun _ h9 => absurd h9 List.not_mem_nil) (fun v2 σ3 hOσ3 hT hqv2 => ?_)
  have hqv2 : v2 = mny (σ1.1 219 0) := hqv2
  rw [hTc.2 219 (by decide)] at hqv2
  obtain rfl : v2 = (mny (σ0.1 219 0)) := hqv2
  have hB : ZB σ3.1 := ZB.tr hOσ3 (by decide) hB
  refine ok_if (fun hc4 => ?_) (fun hc4 => ?_)
  · exact ok_some ⟨hT, (show ZB σ3.1 from by exact hB)⟩
  · refine ok_gR (v := 234) hT rfl (hR 218 29 rfl) ?_
    refine ok_gC rfl ?_
    refine ok_zbT (Q := fun V σ => 0 ≤ V.toInt ∧ V.toInt ≤ 1023) hT (s_X12_spotOf hN (hR.tr hT) (by first | exact hM | (rw [hT.2 219 (by decide)]; exact hM))) (fun _ h9 => absurd h9 List.not_mem_nil) (fun v6 σ7 hOσ7 hT hqv6 => ?_)
    have hqv6 : 0 ≤ v6.toInt ∧ v6.toInt ≤ 1023 := hqv6
    have hB : ZB σ7.1 := ZB.tr hOσ7 (by decide) hB
    refine ok_gC rfl ?_
    refine ok_zbT (Q := fun V σ => V = 0 ∨ V = 1) hT (s_X12_of hN (hR.tr hT) (by first | exact hM | (rw [hT.2 219 (by decide)]; exact hM)) (hB) (by first | omega | decide | (simp only [Int32.le_iff_toInt_le, Int32.lt_iff_toInt_lt, ti_add, ti_sub, ti_mul, Int32.reduceToInt] at *; omega)) (by first | omega | decide | (simp only [Int32.le_iff_toInt_le, Int32.lt_iff_toInt_lt, ti_add, ti_sub, ti_mul, Int32.reduceToInt] at *; omega))) (fun _ h9 => absurd h9 List.not_mem_nil) (fun v8 σ9 hOσ9 hT hqv8 => ?_)
    have hqv8 : v8 = 0 ∨ v8 = 1 := hqv8
    have hB : ZB σ9.1 := ZB.tr hOσ9 (by decide) hB
    refine ok_s16 hT rfl (by decide) (by first | omega | decide | (simp only [Int32.le_iff_toInt_le, Int32.lt_iff_toInt_lt, ti_add, ti_sub, ti_mul, Int32.reduceToInt] at *; omega)) (by first | omega | decide | (simp only [Int32.le_iff_toInt_le, Int32.lt_iff_toInt_lt, ti_add, ti_sub, ti_mul, Int32.reduceToInt] at *; omega)) (fun σ10 eσ10 hOσ10 hT => ?_)
    have hB : ZB σ10.1 := by first | exact HQ | exact ZB_s eσ10 hB
    exact ih2_1 (x2_1 + 1, σ10) (show Tr [234] σ0 σ10 ∧ (0 ≤ (x2_1 + 1).toInt) ∧ (ZB σ10.1) from ⟨hT, (by first | omega | decide | (simp only [Int32.le_iff_toInt_le, Int32.lt_iff_toInt_lt, ti_add, ti_sub, ti_mul, Int32.reduceToInt] at *; omega)), hB⟩) (show (1024 - (x2_1 + 1).toInt).toNat < (1024 - x2_1.toInt).toNat from (by first | omega | decide | (simp only [Int32.le_iff_toInt_le, Int32.lt_iff_toInt_lt, ti_add, ti_sub, ti_mul, Int32.reduceToInt] at *; omega)))

theorem len_lt : ∀ n, n < 11 → ∀ k, k < n → 2 ≤ (mny (nI n) >>> (nI k &&& 31)).toInt ∧ (mny (nI n) >>> (nI k &&& 31)).toInt ≤ 1024 ∧ 0 ≤ ((mny (nI n) >>> (nI k &&& 31)) / 2).toInt ∧ (mny (nI n)).toInt % (mny (nI n) >>> (nI k &&& 31)).toInt = 0 := by decide +kernel
theorem len_ok {n k : Int32} (h0 : 0 ≤ n.toInt) (h1 : n.toInt ≤ 10) (h2 : 0 ≤ k.toInt) (h3 : k.toInt < n.toInt) : (2 ≤ (mny n >>> (k &&& 31)).toInt ∧ (mny n >>> (k &&& 31)).toInt ≤ 1024 ∧ 0 ≤ ((mny n >>> (k &&& 31)) / 2).toInt) ∧ (mny n >>> (k &&& 31)).toInt ∣ (mny n).toInt := by
  obtain ⟨a, ha, rfl⟩ := znI (m := 11) h0 (by omega)
  obtain ⟨b, hb, rfl⟩ := znI (m := 11) h2 (by omega)
  rw [nI_toInt (by omega), nI_toInt (by omega)] at h3
  have q := len_lt a ha b (by omega)
  exact ⟨⟨q.1, q.2.1, q.2.2.1⟩, Int.dvd_of_emod_eq_zero q.2.2.2⟩
theorem dv_le {a b l : Int} (h1 : l ∣ a) (h2 : l ∣ b) (h : a < b) : a + l ≤ b := by
  have := Int.le_of_dvd (show 0 < b - a by omega) (Int.dvd_sub h2 h1)
  omega
theorem kn_ix {l x y : Int32} {u : Int} (hl : 0 ≤ l.toInt) (hx : 0 ≤ x.toInt) (hu : x.toInt < u) (hb : l.toInt * u ≤ 10240) (hy : 0 ≤ y.toInt) (hy2 : y.toInt < l.toInt) : 0 ≤ (l * x + y).toInt ∧ (l * x + y).toInt < 10240 := by
  have p : l.toInt * (x.toInt + 1) ≤ l.toInt * u := Int.mul_le_mul_of_nonneg_left (by omega) hl
  have p0 : 0 ≤ l.toInt * x.toInt := Int.mul_nonneg hl hx
  rw [Int.mul_add, Int.mul_one] at p
  rw [ti_add, ti_mul]
  omega
theorem u_le {l u : Int} (hl : 1 ≤ l) (hu : 0 ≤ u) : u ≤ l * u := by
  have := Int.mul_le_mul_of_nonneg_right hl hu
  omega
theorem ad_s {l u : Int32} {b x : Int} (hl : 1 ≤ l.toInt) (hu : 0 ≤ u.toInt) (h : l.toInt * u.toInt ≤ b + x) (hb : b + x ≤ 10240) : 0 ≤ (u + 1).toInt ∧ l.toInt * (u + 1).toInt ≤ b + (x + l.toInt) := by
  have q := u_le hl hu
  have e : (u + 1).toInt = u.toInt + 1 := by rw [ti_add]; simp only [Int32.reduceToInt]; omega
  rw [e, Int.mul_add, Int.mul_one]; omega

set_option maxHeartbeats 4000000 in
set_option maxRecDepth 100000 in
theorem s_X12_isKnown {N : Nat} (hN : 1048576 ≤ N) {x1 : Int32} {x2 : Int32} {σ0 : zS}  (hR : RF σ0.2.2) (hB : ZB σ0.1) (h1 : (0 ≤ x1.toInt ∧ x1.toInt + x2.toInt ≤ 1024) ∧ 1 ≤ x2.toInt) (hU : 0 ≤ (σ0.1 218 32).toInt ∧ x2.toInt * (σ0.1 218 32).toInt ≤ 10240) : Ok (f_X12_isKnown N 218 x1 x2 σ0) (fun r => Tr [] σ0 r.2 ∧ (r.1 = 0 ∨ r.1 = 1)) := by
  have hT : Tr [] σ0 σ0 := Tr.rf
  have hul := u_le h1.2 hU.1
  rw [f_X12_isKnown.eq_1]
  refine ok_lp (fun t : Int32 × zS => Tr [] σ0 (t.2) ∧ (0 ≤ (t.1).toInt) ∧ (ZB (t.2).1)) (fun t : Int32 × zS => ((σ0.1 218 32).toInt - (t.1).toInt).toNat) (fun again1 t hI ih2_1 => ?_) N _ (show Tr [] σ0 σ0 ∧ (0 ≤ (0 : Int32).toInt) ∧ (ZB σ0.1) from ⟨hT, (by first | omega | decide | (simp only [Int32.le_iff_toInt_le, Int32.lt_iff_toInt_lt, ti_add, ti_sub, ti_mul, Int32.reduceToInt] at *; omega)), hB⟩) (show ((σ0.1 218 32).toInt - (0 : Int32).toInt).toNat < N from (by first | omega | decide | (simp only [Int32.le_iff_toInt_le, Int32.lt_iff_toInt_lt, ti_add, ti_sub, ti_mul, Int32.reduceToInt] at *; omega)))
  obtain ⟨x3_1, σ1⟩ := t
  have hI : Tr [] σ0 σ1 ∧ (0 ≤ x3_1.toInt) ∧ (ZB σ1.1) := hI
  obtain ⟨hT, hI1, hB⟩ := hI
  rw [F_X12_isKnown_2.eq_1]
  refine ok_gI0 hT rfl (by decide) ?_
  refine ok_if (fun hc3 => ?_) (fun hc3 => ?_)
  · exact ok_rZ (Or.inl rfl) ⟨hT, (show (0 : Int32) = 0 ∨ (0 : Int32) = 1 from by first | exact Or.inl rfl | exact Or.inr rfl)⟩
  · refine ok_lp (fun t : Int32 × Int32 × zS => Tr [] σ0 (t.2.2) ∧ (0 ≤ (t.2.1).toInt) ∧ (ZB (t.2.2).1)) (fun t : Int32 × Int32 × zS => (x2.toInt - (t.2.1).toInt).toNat) (fun again4 t hI ih16_4 => ?_) N _ (show Tr [] σ0 σ1 ∧ (0 ≤ (0 : Int32).toInt) ∧ (ZB σ1.1) from ⟨hT, (by first | omega | decide | (simp only [Int32.le_iff_toInt_le, Int32.lt_iff_toInt_lt, ti_add, ti_sub, ti_mul, Int32.reduceToInt] at *; omega)), hB⟩) (show (x2.toInt - (0 : Int32).toInt).toNat < N from (by first | omega | decide | (simp only [Int32.le_iff_toInt_le, Int32.lt_iff_toInt_lt, ti_add, ti_sub, ti_mul, Int32.reduceToInt] at *; omega)))
    obtain ⟨x4_4, x5_4, σ4⟩ := t
    have hI : Tr [] σ0 σ4 ∧ (0 ≤ x5_4.toInt) ∧ (ZB σ4.1) := hI
    obtain ⟨hT, hI4, hB⟩ := hI
    rw [F_X12_isKnown_16.eq_1]
    refine ok_if (fun hc5 => ?_) (fun hc5 => ?_)
    · rw [J_X12_isKnown_63.eq_1]
      refine ok_if (fun hc6 => ?_) (fun hc6 => ?_)
      · exact ih2_1 (x3_1 + 1, σ4) (show Tr [] σ0 σ4 ∧ (0 ≤ (x3_1 + 1).toInt) ∧ (ZB σ4.1) from ⟨hT, (by first | omega | decide | (simp only [Int32.le_iff_toInt_le, Int32.lt_iff_toInt_lt, ti_add, ti_sub, ti_mul, Int32.reduceToInt] at *; omega)), hB⟩) (show ((σ0.1 218 32).toInt - (x3_1 + 1).toInt).toNat < ((σ0.1 218 32).toInt - x3_1.toInt).toNat from (by first | omega | decide | (simp only [Int32.le_iff_toInt_le, Int32.lt_iff_toInt_lt, ti_add, ti_sub, ti_mul, Int32.reduceToInt] at *; omega)))
      · exact ok_rZ (Or.inr rfl) ⟨hT, (show (1 : Int32) = 0 ∨ (1 : Int32) = 1 from by first | exact Or.inl rfl | exact Or.inr rfl)⟩
    · refine ok_if (fun hc7 => ?_) (fun hc7 => ?_)
      · rw [J_X12_isKnown_63.eq_1]
        refine ok_if (fun hc8 => ?_) (fun hc8 => ?_)
        · exact ih2_1 (x3_1 + 1, σ4) (show Tr [] σ0 σ4 ∧ (0 ≤ (x3_1 + 1).toInt) ∧ (ZB σ4.1) from ⟨hT, (by first | omega | decide | (simp only [Int32.le_iff_toInt_le, Int32.lt_iff_toInt_lt, ti_add, ti_sub, ti_mul, Int32.reduceToInt] at *; omega)), hB⟩) (show ((σ0.1 218 32).toInt - (x3_1 + 1).toInt).toNat < ((σ0.1 218 32).toInt - x3_1.toInt).toNat from (by first | omega | decide | (simp only [Int32.le_iff_toInt_le, Int32.lt_iff_toInt_lt, ti_add, ti_sub, ti_mul, Int32.reduceToInt] at *; omega)))
        · exact ok_rZ (Or.inr rfl) ⟨hT, (show (1 : Int32) = 0 ∨ (1 : Int32) = 1 from by first | exact Or.inl rfl | exact Or.inr rfl)⟩
      · have m9 := kn_ix (l := x2) (x := x3_1) (y := x5_4) (u := (σ0.1 218 32).toInt) (by omega) (by omega) (by first | omega | (simp only [Int32.le_iff_toInt_le, Int32.lt_iff_toInt_lt, ti_add, ti_sub, ti_mul, Int32.reduceToInt] at *; omega)) hU.2 (by omega) (by first | omega | (simp only [Int32.le_iff_toInt_le, Int32.lt_iff_toInt_lt, ti_add, ti_sub, ti_mul, Int32.reduceToInt] at *; omega))
        refine ok_gR (v := 236) hT rfl (hR 218 31 rfl) ?_
        refine ok_aIn rfl (by first | omega | decide | (simp only [Int32.le_iff_toInt_le, Int32.lt_iff_toInt_lt, ti_add, ti_sub, ti_mul, Int32.reduceToInt] at *; omega)) (by first | omega | decide | (simp only [Int32.le_iff_toInt_le, Int32.lt_iff_toInt_lt, ti_add, ti_sub, ti_mul, Int32.reduceToInt] at *; omega)) (fun v10 ev10 => ?_)
        have zv10 : v10 = 0 ∨ v10 = 1 := by rw [ev10]; exact hB 236 rfl _
        refine ok_gR (v := 234) hT rfl (hR 218 29 rfl) ?_
        refine ok_aIn rfl (by first | omega | decide | (simp only [Int32.le_iff_toInt_le, Int32.lt_iff_toInt_lt, ti_add, ti_sub, ti_mul, Int32.reduceToInt] at *; omega)) (by first | omega | decide | (simp only [Int32.le_iff_toInt_le, Int32.lt_iff_toInt_lt, ti_add, ti_sub, ti_mul, Int32.reduceToInt] at *; omega)) (fun v12 ev12 => ?_)
        have zv12 : v12 = 0 ∨ v12 = 1 := by rw [ev12]; exact hB 234 rfl _
        refine ok_if (fun hc13 => ?_) (fun hc13 => ?_)
        · exact ih16_4 (1, x5_4 + 1, σ4) (show Tr [] σ0 σ4 ∧ (0 ≤ (x5_4 + 1).toInt) ∧ (ZB σ4.1) from ⟨hT, (by first | omega | decide | (simp only [Int32.le_iff_toInt_le, Int32.lt_iff_toInt_lt, ti_add, ti_sub, ti_mul, Int32.reduceToInt] at *; omega)), hB⟩) (show (x2.toInt - (x5_4 + 1).toInt).toNat < (x2.toInt - x5_4.toInt).toNat from (by first | omega | decide | (simp only [Int32.le_iff_toInt_le, Int32.lt_iff_toInt_lt, ti_add, ti_sub, ti_mul, Int32.reduceToInt] at *; omega)))
        · exact ih16_4 (0, x5_4 + 1, σ4) (show Tr [] σ0 σ4 ∧ (0 ≤ (x5_4 + 1).toInt) ∧ (ZB σ4.1) from ⟨hT, (by first | omega | decide | (simp only [Int32.le_iff_toInt_le, Int32.lt_iff_toInt_lt, ti_add, ti_sub, ti_mul, Int32.reduceToInt] at *; omega)), hB⟩) (show (x2.toInt - (x5_4 + 1).toInt).toNat < (x2.toInt - x5_4.toInt).toNat from (by first | omega | decide | (simp only [Int32.le_iff_toInt_le, Int32.lt_iff_toInt_lt, ti_add, ti_sub, ti_mul, Int32.reduceToInt] at *; omega)))

set_option maxHeartbeats 4000000 in
set_option maxRecDepth 100000 in
theorem s_X12_adds {N : Nat} (hN : 1048576 ≤ N) {x1 : Int32} {σ0 : zS}  (hR : RF σ0.2.2) (hM : MW (σ0.1 219) 0) (hB : ZB σ0.1) (hx : 0 ≤ x1.toInt ∧ x1.toInt < (σ0.1 219 0).toInt) (hU0 : 0 ≤ (σ0.1 218 32).toInt ∧ ((mny (σ0.1 219 0)) >>> (x1 &&& 31)).toInt * (σ0.1 218 32).toInt ≤ 9216) : Ok (f_X12_adds N 218 x1 σ0) (fun r => Tr [218, 236] σ0 r.2 ∧ ((ZB r.2.1 ∧ r.2.1 218 7 = σ0.1 218 7) ∧ 0 ≤ (r.2.1 218 32).toInt ∧ ((mny (σ0.1 219 0)) >>> (x1 &&& 31)).toInt * (r.2.1 218 32).toInt ≤ ((mny (σ0.1 219 0)) >>> (x1 &&& 31)).toInt * (σ0.1 218 32).toInt + 1024)) := by
  have hT : Tr [218, 236] σ0 σ0 := Tr.rf
  have hn := hM.1
  have he : 0 ≤ (σ0.1 219 2).toInt ∧ (σ0.1 219 2).toInt ≤ 10 := hM.2.1
  have qm := mny_b hn.1 hn.2
  have ht : σ0.1 218 7 = σ0.1 218 7 := rfl
  have hl := len_ok hn.1 hn.2 hx.1 hx.2
  have hd0 := hl.2
  have hl := hl.1
  rw [f_X12_adds.eq_1]
  refine ok_gC rfl ?_
  refine ok_zbT (Q := fun V σ => V = mny (σ0.1 219 0)) hT (s_X12_many hN (hR.tr hT) (by first | exact hM | (rw [hT.2 219 (by decide)]; exact hM))) (fun _ h9 => absurd h9 List.not_mem_nil) (fun v1 σ2 hOσ2 hT hqv1 => ?_)
  have hqv1 : v1 = mny (σ0.1 219 0) := hqv1
  obtain rfl : v1 = (mny (σ0.1 219 0)) := hqv1
  have hB : ZB σ2.1 := ZB.tr hOσ2 (by decide) hB
  have ht : σ2.1 218 7 = σ0.1 218 7 := by rw [hOσ2.2 218 (by decide)] <;> exact ht
  refine ok_lp (fun t : Int32 × zS => Tr [218, 236] σ0 (t.2) ∧ (((0 ≤ (t.1).toInt ∧ (t.1).toInt ≤ 1024) ∧ (((mny (σ0.1 219 0)) : Int32) >>> (x1 &&& 31)).toInt ∣ (t.1).toInt) ∧ 0 ≤ ((t.2).1 218 32).toInt ∧ ((mny (σ0.1 219 0)) >>> (x1 &&& 31)).toInt * ((t.2).1 218 32).toInt ≤ ((mny (σ0.1 219 0)) >>> (x1 &&& 31)).toInt * (σ0.1 218 32).toInt + (t.1).toInt) ∧ (ZB (t.2).1) ∧ ((t.2).1 218 7 = σ0.1 218 7)) (fun t : Int32 × zS => (1024 - (t.1).toInt).toNat) (fun again3 t hI ih9_3 => ?_) N _ (show Tr [218, 236] σ0 σ2 ∧ (((0 ≤ (0 : Int32).toInt ∧ (0 : Int32).toInt ≤ 1024) ∧ (((mny (σ0.1 219 0)) : Int32) >>> (x1 &&& 31)).toInt ∣ (0 : Int32).toInt) ∧ 0 ≤ (σ2.1 218 32).toInt ∧ ((mny (σ0.1 219 0)) >>> (x1 &&& 31)).toInt * (σ2.1 218 32).toInt ≤ ((mny (σ0.1 219 0)) >>> (x1 &&& 31)).toInt * (σ0.1 218 32).toInt + (0 : Int32).toInt) ∧ (ZB σ2.1) ∧ (σ2.1 218 7 = σ0.1 218 7) from ⟨hT, (by exact ⟨⟨⟨by decide, by decide⟩, Int.dvd_zero _⟩, by rw [hOσ2.2 218 List.not_mem_nil]; exact ⟨hU0.1, by simp only [Int32.reduceToInt]; omega⟩⟩), hB, ht⟩) (show (1024 - (0 : Int32).toInt).toNat < N from (by first | omega | decide | (simp only [Int32.le_iff_toInt_le, Int32.lt_iff_toInt_lt, ti_add, ti_sub, ti_mul, Int32.reduceToInt] at *; omega)))
  obtain ⟨x3_3, σ3⟩ := t
  have hI : Tr [218, 236] σ0 σ3 ∧ (((0 ≤ x3_3.toInt ∧ x3_3.toInt ≤ 1024) ∧ (((mny (σ0.1 219 0)) : Int32) >>> (x1 &&& 31)).toInt ∣ x3_3.toInt) ∧ 0 ≤ (σ3.1 218 32).toInt ∧ ((mny (σ0.1 219 0)) >>> (x1 &&& 31)).toInt * (σ3.1 218 32).toInt ≤ ((mny (σ0.1 219 0)) >>> (x1 &&& 31)).toInt * (σ0.1 218 32).toInt + x3_3.toInt) ∧ (ZB σ3.1) ∧ (σ3.1 218 7 = σ0.1 218 7) := hI
  obtain ⟨hT, hI3, hB, ht⟩ := hI
  rw [F_X12_adds_9.eq_1]
  have hd := hI3.1.2
  have h03 := hI3.1.1
  have hU := hI3.2
  refine ok_gC rfl ?_
  have hTc := hT
  refine ok_zbT (Q := fun V σ => V = mny (σ3.1 219 0)) hT (s_X12_many hN (hR.tr hT) (by first | exact hM | (rw [hT.2 219 (by decide)]; exact hM))) (fun _ h9 => absurd h9 List.not_mem_nil) (fun v4 σ5 hOσ5 hT hqv4 => ?_)
  have hqv4 : v4 = mny (σ3.1 219 0) := hqv4
  rw [hTc.2 219 (by decide)] at hqv4
  obtain rfl : v4 = (mny (σ0.1 219 0)) := hqv4
  have hB : ZB σ5.1 := ZB.tr hOσ5 (by decide) hB
  have ht : σ5.1 218 7 = σ0.1 218 7 := by rw [hOσ5.2 218 (by decide)] <;> exact ht
  have hU : 0 ≤ (σ5.1 218 32).toInt ∧ ((mny (σ0.1 219 0)) >>> (x1 &&& 31)).toInt * (σ5.1 218 32).toInt ≤ ((mny (σ0.1 219 0)) >>> (x1 &&& 31)).toInt * (σ0.1 218 32).toInt + x3_3.toInt := by rw [hOσ5.2 218 List.not_mem_nil]; exact hU
  refine ok_if (fun hc6 => ?_) (fun hc6 => ?_)
  · exact ok_some ⟨hT, (show (ZB σ5.1 ∧ σ5.1 218 7 = σ0.1 218 7) ∧ 0 ≤ (σ5.1 218 32).toInt ∧ ((mny (σ0.1 219 0)) >>> (x1 &&& 31)).toInt * (σ5.1 218 32).toInt ≤ ((mny (σ0.1 219 0)) >>> (x1 &&& 31)).toInt * (σ0.1 218 32).toInt + 1024 from by exact ⟨⟨hB, ht⟩, hU.1, by omega⟩)⟩
  · have hw := dv_le hd hd0 (by first | omega | (simp only [Int32.le_iff_toInt_le, Int32.lt_iff_toInt_lt, ti_add, ti_sub, ti_mul, Int32.reduceToInt] at *; omega))
    have hs : (x3_3 + (((mny (σ0.1 219 0)) : Int32) >>> (x1 &&& 31))).toInt = x3_3.toInt + (((mny (σ0.1 219 0)) : Int32) >>> (x1 &&& 31)).toInt := by rw [ti_add]; omega
    have hd2 : (((mny (σ0.1 219 0)) : Int32) >>> (x1 &&& 31)).toInt ∣ (x3_3 + (((mny (σ0.1 219 0)) : Int32) >>> (x1 &&& 31))).toInt := by rw [hs]; exact Int.dvd_add hd (Int.dvd_refl _)
    refine ok_nzI (by decide) ?_
    refine ok_lp (fun t : Int32 × Int32 × zS => Tr [218, 236] σ0 (t.2.2) ∧ (0 ≤ (t.2.1).toInt ∧ 0 ≤ ((t.2.2).1 218 32).toInt ∧ ((mny (σ0.1 219 0)) >>> (x1 &&& 31)).toInt * ((t.2.2).1 218 32).toInt ≤ ((mny (σ0.1 219 0)) >>> (x1 &&& 31)).toInt * (σ0.1 218 32).toInt + x3_3.toInt) ∧ (ZB (t.2.2).1) ∧ ((t.2.2).1 218 7 = σ0.1 218 7)) (fun t : Int32 × Int32 × zS => ((((mny (σ0.1 219 0)) : Int32) >>> (x1 &&& 31)).toInt - (t.2.1).toInt).toNat) (fun again7 t hI ih25_7 => ?_) N _ (show Tr [218, 236] σ0 σ5 ∧ (0 ≤ ((((mny (σ0.1 219 0)) : Int32) >>> (x1 &&& 31)) / 2).toInt ∧ 0 ≤ (σ5.1 218 32).toInt ∧ ((mny (σ0.1 219 0)) >>> (x1 &&& 31)).toInt * (σ5.1 218 32).toInt ≤ ((mny (σ0.1 219 0)) >>> (x1 &&& 31)).toInt * (σ0.1 218 32).toInt + x3_3.toInt) ∧ (ZB σ5.1) ∧ (σ5.1 218 7 = σ0.1 218 7) from ⟨hT, (by exact ⟨hl.2.2, hU⟩), hB, ht⟩) (show ((((mny (σ0.1 219 0)) : Int32) >>> (x1 &&& 31)).toInt - ((((mny (σ0.1 219 0)) : Int32) >>> (x1 &&& 31)) / 2).toInt).toNat < N from (by first | omega | decide | (simp only [Int32.le_iff_toInt_le, Int32.lt_iff_toInt_lt, ti_add, ti_sub, ti_mul, Int32.reduceToInt] at *; omega)))
    obtain ⟨x4_7, x5_7, σ7⟩ := t
    have hI : Tr [218, 236] σ0 σ7 ∧ (0 ≤ x5_7.toInt ∧ 0 ≤ (σ7.1 218 32).toInt ∧ ((mny (σ0.1 219 0)) >>> (x1 &&& 31)).toInt * (σ7.1 218 32).toInt ≤ ((mny (σ0.1 219 0)) >>> (x1 &&& 31)).toInt * (σ0.1 218 32).toInt + x3_3.toInt) ∧ (ZB σ7.1) ∧ (σ7.1 218 7 = σ0.1 218 7) := hI
    obtain ⟨hT, hI7, hB, ht⟩ := hI
    rw [F_X12_adds_25.eq_1]
    have hU := hI7.2
    refine ok_if (fun hc8 => ?_) (fun hc8 => ?_)
    · rw [J_X12_adds_53.eq_1]
      refine ok_if (fun hc9 => ?_) (fun hc9 => ?_)
      · exact ih9_3 (x3_3 + (((mny (σ0.1 219 0)) : Int32) >>> (x1 &&& 31)), σ7) (show Tr [218, 236] σ0 σ7 ∧ (((0 ≤ (x3_3 + (((mny (σ0.1 219 0)) : Int32) >>> (x1 &&& 31))).toInt ∧ (x3_3 + (((mny (σ0.1 219 0)) : Int32) >>> (x1 &&& 31))).toInt ≤ 1024) ∧ (((mny (σ0.1 219 0)) : Int32) >>> (x1 &&& 31)).toInt ∣ (x3_3 + (((mny (σ0.1 219 0)) : Int32) >>> (x1 &&& 31))).toInt) ∧ 0 ≤ (σ7.1 218 32).toInt ∧ ((mny (σ0.1 219 0)) >>> (x1 &&& 31)).toInt * (σ7.1 218 32).toInt ≤ ((mny (σ0.1 219 0)) >>> (x1 &&& 31)).toInt * (σ0.1 218 32).toInt + (x3_3 + (((mny (σ0.1 219 0)) : Int32) >>> (x1 &&& 31))).toInt) ∧ (ZB σ7.1) ∧ (σ7.1 218 7 = σ0.1 218 7) from ⟨hT, (by exact ⟨⟨⟨by rw [hs]; omega, by rw [hs]; omega⟩, hd2⟩, hU.1, by rw [hs]; omega⟩), hB, ht⟩) (show (1024 - (x3_3 + (((mny (σ0.1 219 0)) : Int32) >>> (x1 &&& 31))).toInt).toNat < (1024 - x3_3.toInt).toNat from (by rw [hs]; omega))
      · refine ok_gC rfl ?_
        refine ok_zbT (Q := fun V σ => V = 0 ∨ V = 1) hT (s_X12_isKnown hN (hR.tr hT) (hB) (by first | omega | decide | (simp only [Int32.le_iff_toInt_le, Int32.lt_iff_toInt_lt, ti_add, ti_sub, ti_mul, Int32.reduceToInt] at *; omega)) (⟨hU.1, by omega⟩)) (fun _ h9 => absurd h9 List.not_mem_nil) (fun v10 σ11 hOσ11 hT hqv10 => ?_)
        have hqv10 : v10 = 0 ∨ v10 = 1 := hqv10
        have hB : ZB σ11.1 := ZB.tr hOσ11 (by decide) hB
        have ht : σ11.1 218 7 = σ0.1 218 7 := by rw [hOσ11.2 218 (by decide)] <;> exact ht
        have hU : 0 ≤ (σ11.1 218 32).toInt ∧ ((mny (σ0.1 219 0)) >>> (x1 &&& 31)).toInt * (σ11.1 218 32).toInt ≤ ((mny (σ0.1 219 0)) >>> (x1 &&& 31)).toInt * (σ0.1 218 32).toInt + x3_3.toInt := by rw [hOσ11.2 218 List.not_mem_nil]; exact hU
        refine ok_if (fun hc12 => ?_) (fun hc12 => ?_)
        · refine ok_lp (fun t : Int32 × zS => Tr [218, 236] σ0 (t.2) ∧ (0 ≤ (t.1).toInt ∧ 0 ≤ ((t.2).1 218 32).toInt ∧ ((mny (σ0.1 219 0)) >>> (x1 &&& 31)).toInt * ((t.2).1 218 32).toInt ≤ ((mny (σ0.1 219 0)) >>> (x1 &&& 31)).toInt * (σ0.1 218 32).toInt + x3_3.toInt) ∧ (ZB (t.2).1) ∧ ((t.2).1 218 7 = σ0.1 218 7)) (fun t : Int32 × zS => ((((mny (σ0.1 219 0)) : Int32) >>> (x1 &&& 31)).toInt - (t.1).toInt).toNat) (fun again13 t hI ih73_13 => ?_) N _ (show Tr [218, 236] σ0 σ11 ∧ (0 ≤ (0 : Int32).toInt ∧ 0 ≤ (σ11.1 218 32).toInt ∧ ((mny (σ0.1 219 0)) >>> (x1 &&& 31)).toInt * (σ11.1 218 32).toInt ≤ ((mny (σ0.1 219 0)) >>> (x1 &&& 31)).toInt * (σ0.1 218 32).toInt + x3_3.toInt) ∧ (ZB σ11.1) ∧ (σ11.1 218 7 = σ0.1 218 7) from ⟨hT, (by exact ⟨by decide, hU⟩), hB, ht⟩) (show ((((mny (σ0.1 219 0)) : Int32) >>> (x1 &&& 31)).toInt - (0 : Int32).toInt).toNat < N from (by first | omega | decide | (simp only [Int32.le_iff_toInt_le, Int32.lt_iff_toInt_lt, ti_add, ti_sub, ti_mul, Int32.reduceToInt] at *; omega)))
          obtain ⟨x5_13, σ13⟩ := t
          have hI : Tr [218, 236] σ0 σ13 ∧ (0 ≤ x5_13.toInt ∧ 0 ≤ (σ13.1 218 32).toInt ∧ ((mny (σ0.1 219 0)) >>> (x1 &&& 31)).toInt * (σ13.1 218 32).toInt ≤ ((mny (σ0.1 219 0)) >>> (x1 &&& 31)).toInt * (σ0.1 218 32).toInt + x3_3.toInt) ∧ (ZB σ13.1) ∧ (σ13.1 218 7 = σ0.1 218 7) := hI
          obtain ⟨hT, hI13, hB, ht⟩ := hI
          rw [F_X12_adds_73.eq_1]
          have hU := hI13.2
          refine ok_if (fun hc14 => ?_) (fun hc14 => ?_)
          · refine ok_gI rfl ?_
            refine ok_pI hT rfl (by decide) (fun σ16 eσ16 hOσ16 hT => ?_)
            have hU : 0 ≤ (σ16.1 218 32).toInt ∧ ((mny (σ0.1 219 0)) >>> (x1 &&& 31)).toInt * (σ16.1 218 32).toInt ≤ ((mny (σ0.1 219 0)) >>> (x1 &&& 31)).toInt * (σ0.1 218 32).toInt + (x3_3.toInt + ((mny (σ0.1 219 0)) >>> (x1 &&& 31)).toInt) := by rw [zI_atI eσ16]; exact ad_s (by omega) hU.1 hU.2 (by omega)
            have hB : ZB σ16.1 := ZB.tr hOσ16 (by decide) hB
            have ht : σ16.1 218 7 = σ0.1 218 7 := by rw [zI_atN eσ16 (by decide)]; exact ht
            exact ih9_3 (x3_3 + (((mny (σ0.1 219 0)) : Int32) >>> (x1 &&& 31)), σ16) (show Tr [218, 236] σ0 σ16 ∧ (((0 ≤ (x3_3 + (((mny (σ0.1 219 0)) : Int32) >>> (x1 &&& 31))).toInt ∧ (x3_3 + (((mny (σ0.1 219 0)) : Int32) >>> (x1 &&& 31))).toInt ≤ 1024) ∧ (((mny (σ0.1 219 0)) : Int32) >>> (x1 &&& 31)).toInt ∣ (x3_3 + (((mny (σ0.1 219 0)) : Int32) >>> (x1 &&& 31))).toInt) ∧ 0 ≤ (σ16.1 218 32).toInt ∧ ((mny (σ0.1 219 0)) >>> (x1 &&& 31)).toInt * (σ16.1 218 32).toInt ≤ ((mny (σ0.1 219 0)) >>> (x1 &&& 31)).toInt * (σ0.1 218 32).toInt + (x3_3 + (((mny (σ0.1 219 0)) : Int32) >>> (x1 &&& 31))).toInt) ∧ (ZB σ16.1) ∧ (σ16.1 218 7 = σ0.1 218 7) from ⟨hT, (by exact ⟨⟨⟨by rw [hs]; omega, by rw [hs]; omega⟩, hd2⟩, hU.1, by rw [hs]; omega⟩), hB, ht⟩) (show (1024 - (x3_3 + (((mny (σ0.1 219 0)) : Int32) >>> (x1 &&& 31))).toInt).toNat < (1024 - x3_3.toInt).toNat from (by rw [hs]; omega))
          · have m9 := kn_ix (l := (((mny (σ0.1 219 0)) : Int32) >>> (x1 &&& 31))) (x := σ13.1 218 32) (y := x5_13) (u := (σ13.1 218 32).toInt + 1) (by omega) hU.1 (by omega) (by rw [Int.mul_add, Int.mul_one]; omega) (by omega) (by first | omega | (simp only [Int32.le_iff_toInt_le, Int32.lt_iff_toInt_lt, ti_add, ti_sub, ti_mul, Int32.reduceToInt] at *; omega))
            refine ok_gR (v := 236) hT rfl (hR 218 31 rfl) ?_
            refine ok_gI rfl ?_
            refine ok_gR (v := 234) hT rfl (hR 218 29 rfl) ?_
            refine ok_aIn rfl (by first | omega | decide | (simp only [Int32.le_iff_toInt_le, Int32.lt_iff_toInt_lt, ti_add, ti_sub, ti_mul, Int32.reduceToInt] at *; omega)) (by first | omega | decide | (simp only [Int32.le_iff_toInt_le, Int32.lt_iff_toInt_lt, ti_add, ti_sub, ti_mul, Int32.reduceToInt] at *; omega)) (fun v20 ev20 => ?_)
            have zv20 : v20 = 0 ∨ v20 = 1 := by rw [ev20]; exact hB 234 rfl _
            refine ok_s16 hT rfl (by decide) (by first | omega | decide | (simp only [Int32.le_iff_toInt_le, Int32.lt_iff_toInt_lt, ti_add, ti_sub, ti_mul, Int32.reduceToInt] at *; omega)) (by first | omega | decide | (simp only [Int32.le_iff_toInt_le, Int32.lt_iff_toInt_lt, ti_add, ti_sub, ti_mul, Int32.reduceToInt] at *; omega)) (fun σ21 eσ21 hOσ21 hT => ?_)
            have hU : 0 ≤ (σ21.1 218 32).toInt ∧ ((mny (σ0.1 219 0)) >>> (x1 &&& 31)).toInt * (σ21.1 218 32).toInt ≤ ((mny (σ0.1 219 0)) >>> (x1 &&& 31)).toInt * (σ0.1 218 32).toInt + x3_3.toInt := by rw [hOσ21.2 218 (by decide)]; exact hU
            have hB : ZB σ21.1 := ZB_s eσ21 hB
            have ht : σ21.1 218 7 = σ0.1 218 7 := by rw [hOσ21.2 218 (by decide)] <;> exact ht
            exact ih73_13 (x5_13 + 1, σ21) (show Tr [218, 236] σ0 σ21 ∧ (0 ≤ (x5_13 + 1).toInt ∧ 0 ≤ (σ21.1 218 32).toInt ∧ ((mny (σ0.1 219 0)) >>> (x1 &&& 31)).toInt * (σ21.1 218 32).toInt ≤ ((mny (σ0.1 219 0)) >>> (x1 &&& 31)).toInt * (σ0.1 218 32).toInt + x3_3.toInt) ∧ (ZB σ21.1) ∧ (σ21.1 218 7 = σ0.1 218 7) from ⟨hT, (by exact ⟨by first | omega | (simp only [Int32.le_iff_toInt_le, Int32.lt_iff_toInt_lt, ti_add, ti_sub, ti_mul, Int32.reduceToInt] at *; omega), hU⟩), hB, ht⟩) (show ((((mny (σ0.1 219 0)) : Int32) >>> (x1 &&& 31)).toInt - (x5_13 + 1).toInt).toNat < ((((mny (σ0.1 219 0)) : Int32) >>> (x1 &&& 31)).toInt - x5_13.toInt).toNat from (by first | omega | decide | (simp only [Int32.le_iff_toInt_le, Int32.lt_iff_toInt_lt, ti_add, ti_sub, ti_mul, Int32.reduceToInt] at *; omega)))
        · exact ih9_3 (x3_3 + (((mny (σ0.1 219 0)) : Int32) >>> (x1 &&& 31)), σ11) (show Tr [218, 236] σ0 σ11 ∧ (((0 ≤ (x3_3 + (((mny (σ0.1 219 0)) : Int32) >>> (x1 &&& 31))).toInt ∧ (x3_3 + (((mny (σ0.1 219 0)) : Int32) >>> (x1 &&& 31))).toInt ≤ 1024) ∧ (((mny (σ0.1 219 0)) : Int32) >>> (x1 &&& 31)).toInt ∣ (x3_3 + (((mny (σ0.1 219 0)) : Int32) >>> (x1 &&& 31))).toInt) ∧ 0 ≤ (σ11.1 218 32).toInt ∧ ((mny (σ0.1 219 0)) >>> (x1 &&& 31)).toInt * (σ11.1 218 32).toInt ≤ ((mny (σ0.1 219 0)) >>> (x1 &&& 31)).toInt * (σ0.1 218 32).toInt + (x3_3 + (((mny (σ0.1 219 0)) : Int32) >>> (x1 &&& 31))).toInt) ∧ (ZB σ11.1) ∧ (σ11.1 218 7 = σ0.1 218 7) from ⟨hT, (by exact ⟨⟨⟨by rw [hs]; omega, by rw [hs]; omega⟩, hd2⟩, hU.1, by rw [hs]; omega⟩), hB, ht⟩) (show (1024 - (x3_3 + (((mny (σ0.1 219 0)) : Int32) >>> (x1 &&& 31))).toInt).toNat < (1024 - x3_3.toInt).toNat from (by rw [hs]; omega))
    · refine ok_if (fun hc22 => ?_) (fun hc22 => ?_)
      · refine ok_gR (v := 234) hT rfl (hR 218 29 rfl) ?_
        refine ok_aIn rfl (by first | omega | decide | (simp only [Int32.le_iff_toInt_le, Int32.lt_iff_toInt_lt, ti_add, ti_sub, ti_mul, Int32.reduceToInt] at *; omega)) (by first | omega | decide | (simp only [Int32.le_iff_toInt_le, Int32.lt_iff_toInt_lt, ti_add, ti_sub, ti_mul, Int32.reduceToInt] at *; omega)) (fun v24 ev24 => ?_)
        have zv24 : v24 = 0 ∨ v24 = 1 := by rw [ev24]; exact hB 234 rfl _
        exact ih25_7 (v24, x5_7 + 1, σ7) (show Tr [218, 236] σ0 σ7 ∧ (0 ≤ (x5_7 + 1).toInt ∧ 0 ≤ (σ7.1 218 32).toInt ∧ ((mny (σ0.1 219 0)) >>> (x1 &&& 31)).toInt * (σ7.1 218 32).toInt ≤ ((mny (σ0.1 219 0)) >>> (x1 &&& 31)).toInt * (σ0.1 218 32).toInt + x3_3.toInt) ∧ (ZB σ7.1) ∧ (σ7.1 218 7 = σ0.1 218 7) from ⟨hT, (by exact ⟨by first | omega | (simp only [Int32.le_iff_toInt_le, Int32.lt_iff_toInt_lt, ti_add, ti_sub, ti_mul, Int32.reduceToInt] at *; omega), hU⟩), hB, ht⟩) (show ((((mny (σ0.1 219 0)) : Int32) >>> (x1 &&& 31)).toInt - (x5_7 + 1).toInt).toNat < ((((mny (σ0.1 219 0)) : Int32) >>> (x1 &&& 31)).toInt - x5_7.toInt).toNat from (by first | omega | decide | (simp only [Int32.le_iff_toInt_le, Int32.lt_iff_toInt_lt, ti_add, ti_sub, ti_mul, Int32.reduceToInt] at *; omega)))
      · rw [J_X12_adds_53.eq_1]
        refine ok_if (fun hc25 => ?_) (fun hc25 => ?_)
        · exact ih9_3 (x3_3 + (((mny (σ0.1 219 0)) : Int32) >>> (x1 &&& 31)), σ7) (show Tr [218, 236] σ0 σ7 ∧ (((0 ≤ (x3_3 + (((mny (σ0.1 219 0)) : Int32) >>> (x1 &&& 31))).toInt ∧ (x3_3 + (((mny (σ0.1 219 0)) : Int32) >>> (x1 &&& 31))).toInt ≤ 1024) ∧ (((mny (σ0.1 219 0)) : Int32) >>> (x1 &&& 31)).toInt ∣ (x3_3 + (((mny (σ0.1 219 0)) : Int32) >>> (x1 &&& 31))).toInt) ∧ 0 ≤ (σ7.1 218 32).toInt ∧ ((mny (σ0.1 219 0)) >>> (x1 &&& 31)).toInt * (σ7.1 218 32).toInt ≤ ((mny (σ0.1 219 0)) >>> (x1 &&& 31)).toInt * (σ0.1 218 32).toInt + (x3_3 + (((mny (σ0.1 219 0)) : Int32) >>> (x1 &&& 31))).toInt) ∧ (ZB σ7.1) ∧ (σ7.1 218 7 = σ0.1 218 7) from ⟨hT, (by exact ⟨⟨⟨by rw [hs]; omega, by rw [hs]; omega⟩, hd2⟩, hU.1, by rw [hs]; omega⟩), hB, ht⟩) (show (1024 - (x3_3 + (((mny (σ0.1 219 0)) : Int32) >>> (x1 &&& 31))).toInt).toNat < (1024 - x3_3.toInt).toNat from (by rw [hs]; omega))
        · refine ok_gC rfl ?_
          refine ok_zbT (Q := fun V σ => V = 0 ∨ V = 1) hT (s_X12_isKnown hN (hR.tr hT) (hB) (by first | omega | decide | (simp only [Int32.le_iff_toInt_le, Int32.lt_iff_toInt_lt, ti_add, ti_sub, ti_mul, Int32.reduceToInt] at *; omega)) (⟨hU.1, by omega⟩)) (fun _ h9 => absurd h9 List.not_mem_nil) (fun v26 σ27 hOσ27 hT hqv26 => ?_)
          have hqv26 : v26 = 0 ∨ v26 = 1 := hqv26
          have hB : ZB σ27.1 := ZB.tr hOσ27 (by decide) hB
          have ht : σ27.1 218 7 = σ0.1 218 7 := by rw [hOσ27.2 218 (by decide)] <;> exact ht
          have hU : 0 ≤ (σ27.1 218 32).toInt ∧ ((mny (σ0.1 219 0)) >>> (x1 &&& 31)).toInt * (σ27.1 218 32).toInt ≤ ((mny (σ0.1 219 0)) >>> (x1 &&& 31)).toInt * (σ0.1 218 32).toInt + x3_3.toInt := by rw [hOσ27.2 218 List.not_mem_nil]; exact hU
          refine ok_if (fun hc28 => ?_) (fun hc28 => ?_)
          · refine ok_lp (fun t : Int32 × zS => Tr [218, 236] σ0 (t.2) ∧ (0 ≤ (t.1).toInt ∧ 0 ≤ ((t.2).1 218 32).toInt ∧ ((mny (σ0.1 219 0)) >>> (x1 &&& 31)).toInt * ((t.2).1 218 32).toInt ≤ ((mny (σ0.1 219 0)) >>> (x1 &&& 31)).toInt * (σ0.1 218 32).toInt + x3_3.toInt) ∧ (ZB (t.2).1) ∧ ((t.2).1 218 7 = σ0.1 218 7)) (fun t : Int32 × zS => ((((mny (σ0.1 219 0)) : Int32) >>> (x1 &&& 31)).toInt - (t.1).toInt).toNat) (fun again29 t hI ih73_29 => ?_) N _ (show Tr [218, 236] σ0 σ27 ∧ (0 ≤ (0 : Int32).toInt ∧ 0 ≤ (σ27.1 218 32).toInt ∧ ((mny (σ0.1 219 0)) >>> (x1 &&& 31)).toInt * (σ27.1 218 32).toInt ≤ ((mny (σ0.1 219 0)) >>> (x1 &&& 31)).toInt * (σ0.1 218 32).toInt + x3_3.toInt) ∧ (ZB σ27.1) ∧ (σ27.1 218 7 = σ0.1 218 7) from ⟨hT, (by exact ⟨by decide, hU⟩), hB, ht⟩) (show ((((mny (σ0.1 219 0)) : Int32) >>> (x1 &&& 31)).toInt - (0 : Int32).toInt).toNat < N from (by first | omega | decide | (simp only [Int32.le_iff_toInt_le, Int32.lt_iff_toInt_lt, ti_add, ti_sub, ti_mul, Int32.reduceToInt] at *; omega)))
            obtain ⟨x5_29, σ29⟩ := t
            have hI : Tr [218, 236] σ0 σ29 ∧ (0 ≤ x5_29.toInt ∧ 0 ≤ (σ29.1 218 32).toInt ∧ ((mny (σ0.1 219 0)) >>> (x1 &&& 31)).toInt * (σ29.1 218 32).toInt ≤ ((mny (σ0.1 219 0)) >>> (x1 &&& 31)).toInt * (σ0.1 218 32).toInt + x3_3.toInt) ∧ (ZB σ29.1) ∧ (σ29.1 218 7 = σ0.1 218 7) := hI
            obtain ⟨hT, hI29, hB, ht⟩ := hI
            rw [F_X12_adds_73.eq_1]
            have hU := hI29.2
            refine ok_if (fun hc30 => ?_) (fun hc30 => ?_)
            · refine ok_gI rfl ?_
              refine ok_pI hT rfl (by decide) (fun σ32 eσ32 hOσ32 hT => ?_)
              have hU : 0 ≤ (σ32.1 218 32).toInt ∧ ((mny (σ0.1 219 0)) >>> (x1 &&& 31)).toInt * (σ32.1 218 32).toInt ≤ ((mny (σ0.1 219 0)) >>> (x1 &&& 31)).toInt * (σ0.1 218 32).toInt + (x3_3.toInt + ((mny (σ0.1 219 0)) >>> (x1 &&& 31)).toInt) := by rw [zI_atI eσ32]; exact ad_s (by omega) hU.1 hU.2 (by omega)
              have hB : ZB σ32.1 := ZB.tr hOσ32 (by decide) hB
              have ht : σ32.1 218 7 = σ0.1 218 7 := by rw [zI_atN eσ32 (by decide)]; exact ht
              exact ih9_3 (x3_3 + (((mny (σ0.1 219 0)) : Int32) >>> (x1 &&& 31)), σ32) (show Tr [218, 236] σ0 σ32 ∧ (((0 ≤ (x3_3 + (((mny (σ0.1 219 0)) : Int32) >>> (x1 &&& 31))).toInt ∧ (x3_3 + (((mny (σ0.1 219 0)) : Int32) >>> (x1 &&& 31))).toInt ≤ 1024) ∧ (((mny (σ0.1 219 0)) : Int32) >>> (x1 &&& 31)).toInt ∣ (x3_3 + (((mny (σ0.1 219 0)) : Int32) >>> (x1 &&& 31))).toInt) ∧ 0 ≤ (σ32.1 218 32).toInt ∧ ((mny (σ0.1 219 0)) >>> (x1 &&& 31)).toInt * (σ32.1 218 32).toInt ≤ ((mny (σ0.1 219 0)) >>> (x1 &&& 31)).toInt * (σ0.1 218 32).toInt + (x3_3 + (((mny (σ0.1 219 0)) : Int32) >>> (x1 &&& 31))).toInt) ∧ (ZB σ32.1) ∧ (σ32.1 218 7 = σ0.1 218 7) from ⟨hT, (by exact ⟨⟨⟨by rw [hs]; omega, by rw [hs]; omega⟩, hd2⟩, hU.1, by rw [hs]; omega⟩), hB, ht⟩) (show (1024 - (x3_3 + (((mny (σ0.1 219 0)) : Int32) >>> (x1 &&& 31))).toInt).toNat < (1024 - x3_3.toInt).toNat from (by rw [hs]; omega))
            · have m9 := kn_ix (l := (((mny (σ0.1 219 0)) : Int32) >>> (x1 &&& 31))) (x := σ29.1 218 32) (y := x5_29) (u := (σ29.1 218 32).toInt + 1) (by omega) hU.1 (by omega) (by rw [Int.mul_add, Int.mul_one]; omega) (by omega) (by first | omega | (simp only [Int32.le_iff_toInt_le, Int32.lt_iff_toInt_lt, ti_add, ti_sub, ti_mul, Int32.reduceToInt] at *; omega))
              refine ok_gR (v := 236) hT rfl (hR 218 31 rfl) ?_
              refine ok_gI rfl ?_
              refine ok_gR (v := 234) hT rfl (hR 218 29 rfl) ?_
              refine ok_aIn rfl (by first | omega | decide | (simp only [Int32.le_iff_toInt_le, Int32.lt_iff_toInt_lt, ti_add, ti_sub, ti_mul, Int32.reduceToInt] at *; omega)) (by first | omega | decide | (simp only [Int32.le_iff_toInt_le, Int32.lt_iff_toInt_lt, ti_add, ti_sub, ti_mul, Int32.reduceToInt] at *; omega)) (fun v36 ev36 => ?_)
              have zv36 : v36 = 0 ∨ v36 = 1 := by rw [ev36]; exact hB 234 rfl _
              refine ok_s16 hT rfl (by decide) (by first | omega | decide | (simp only [Int32.le_iff_toInt_le, Int32.lt_iff_toInt_lt, ti_add, ti_sub, ti_mul, Int32.reduceToInt] at *; omega)) (by first | omega | decide | (simp only [Int32.le_iff_toInt_le, Int32.lt_iff_toInt_lt, ti_add, ti_sub, ti_mul, Int32.reduceToInt] at *; omega)) (fun σ37 eσ37 hOσ37 hT => ?_)
              have hU : 0 ≤ (σ37.1 218 32).toInt ∧ ((mny (σ0.1 219 0)) >>> (x1 &&& 31)).toInt * (σ37.1 218 32).toInt ≤ ((mny (σ0.1 219 0)) >>> (x1 &&& 31)).toInt * (σ0.1 218 32).toInt + x3_3.toInt := by rw [hOσ37.2 218 (by decide)]; exact hU
              have hB : ZB σ37.1 := ZB_s eσ37 hB
              have ht : σ37.1 218 7 = σ0.1 218 7 := by rw [hOσ37.2 218 (by decide)] <;> exact ht
              exact ih73_29 (x5_29 + 1, σ37) (show Tr [218, 236] σ0 σ37 ∧ (0 ≤ (x5_29 + 1).toInt ∧ 0 ≤ (σ37.1 218 32).toInt ∧ ((mny (σ0.1 219 0)) >>> (x1 &&& 31)).toInt * (σ37.1 218 32).toInt ≤ ((mny (σ0.1 219 0)) >>> (x1 &&& 31)).toInt * (σ0.1 218 32).toInt + x3_3.toInt) ∧ (ZB σ37.1) ∧ (σ37.1 218 7 = σ0.1 218 7) from ⟨hT, (by exact ⟨by first | omega | (simp only [Int32.le_iff_toInt_le, Int32.lt_iff_toInt_lt, ti_add, ti_sub, ti_mul, Int32.reduceToInt] at *; omega), hU⟩), hB, ht⟩) (show ((((mny (σ0.1 219 0)) : Int32) >>> (x1 &&& 31)).toInt - (x5_29 + 1).toInt).toNat < ((((mny (σ0.1 219 0)) : Int32) >>> (x1 &&& 31)).toInt - x5_29.toInt).toNat from (by first | omega | decide | (simp only [Int32.le_iff_toInt_le, Int32.lt_iff_toInt_lt, ti_add, ti_sub, ti_mul, Int32.reduceToInt] at *; omega)))
          · exact ih9_3 (x3_3 + (((mny (σ0.1 219 0)) : Int32) >>> (x1 &&& 31)), σ27) (show Tr [218, 236] σ0 σ27 ∧ (((0 ≤ (x3_3 + (((mny (σ0.1 219 0)) : Int32) >>> (x1 &&& 31))).toInt ∧ (x3_3 + (((mny (σ0.1 219 0)) : Int32) >>> (x1 &&& 31))).toInt ≤ 1024) ∧ (((mny (σ0.1 219 0)) : Int32) >>> (x1 &&& 31)).toInt ∣ (x3_3 + (((mny (σ0.1 219 0)) : Int32) >>> (x1 &&& 31))).toInt) ∧ 0 ≤ (σ27.1 218 32).toInt ∧ ((mny (σ0.1 219 0)) >>> (x1 &&& 31)).toInt * (σ27.1 218 32).toInt ≤ ((mny (σ0.1 219 0)) >>> (x1 &&& 31)).toInt * (σ0.1 218 32).toInt + (x3_3 + (((mny (σ0.1 219 0)) : Int32) >>> (x1 &&& 31))).toInt) ∧ (ZB σ27.1) ∧ (σ27.1 218 7 = σ0.1 218 7) from ⟨hT, (by exact ⟨⟨⟨by rw [hs]; omega, by rw [hs]; omega⟩, hd2⟩, hU.1, by rw [hs]; omega⟩), hB, ht⟩) (show (1024 - (x3_3 + (((mny (σ0.1 219 0)) : Int32) >>> (x1 &&& 31))).toInt).toNat < (1024 - x3_3.toInt).toNat from (by rw [hs]; omega))

/-- the set that a word of letters below m spells, each once -/
def wsF (t : Nat → Int32) (m : Int32) : Nat → Nat → Int32 → Option Int32
  | 0, _, s => some s
  | f + 1, p, s => if m ≤ t p - 97 ∨ ((s >>> ((t p - 97) &&& 31)) &&& 1) = 1 then none else wsF t m f (p + 1) (s ||| ((1 : Int32) <<< ((t p - 97) &&& 31)))
theorem wsF_s {t : Nat → Int32} {m s : Int32} {e p : Nat} (h : p < e) : wsF t m (e - p) p s = if m ≤ t p - 97 ∨ ((s >>> ((t p - 97) &&& 31)) &&& 1) = 1 then none else wsF t m (e - (p + 1)) (p + 1) (s ||| ((1 : Int32) <<< ((t p - 97) &&& 31))) := by
  rw [show e - p = (e - (p + 1)) + 1 by omega]
  rfl
theorem wsF_e {t : Nat → Int32} {m s : Int32} {e p : Nat} (h : e ≤ p) : wsF t m (e - p) p s = some s := by
  rw [show e - p = 0 by omega]
  rfl
def wS (t : Nat → Int32) (n i : Nat) (m : Int32) : Option Int32 := wsF t m (tkE t n i - tkF t n i) (tkF t n i) 0
/-- a set stands at i -/
abbrev mOK (t : Nat → Int32) (n i : Nat) (m : Int32) : Prop := nOK t n i 0 0 ∨ (tkK t n i = 1 ∧ (wS t n i m).isSome = true)

set_option maxHeartbeats 4000000 in
set_option maxRecDepth 100000 in
theorem s_X12_wordSet_r {N : Nat} (hN : 1048576 ≤ N) {x1 : Int32} {σ0 : zS} {tx : Nat → Int32} {n i : Nat} (hR : RF σ0.2.2) (hK : TOK σ0.1) (hY : BYT (σ0.1 224)) (hG : RX σ0.1 tx n i) (hg : σ0.1 218 14 = 0) (h12 : σ0.1 218 12 = 1) (hn : 0 ≤ x1.toInt ∧ x1.toInt ≤ 10) : Ok (f_X12_wordSet N 218 x1 σ0) (fun r => Tr [218] σ0 r.2 ∧ ((TOK r.2.1 ∧ (0 ≤ r.1.toInt ∧ r.1.toInt ≤ 1023) ∧ (r.2.1 218 14 = 0 → wS tx n i x1 = some r.1) ∧ (¬ r.2.1 218 14 = 0 → wS tx n i x1 = none)) ∧ (r.2.1 218 7 = σ0.1 218 7 ∧ r.2.1 218 9 = σ0.1 218 9 ∧ r.2.1 218 10 = σ0.1 218 10 ∧ r.2.1 218 11 = σ0.1 218 11 ∧ r.2.1 218 12 = σ0.1 218 12 ∧ r.2.1 218 13 = σ0.1 218 13 ∧ r.2.1 218 20 = σ0.1 218 20 ∧ r.2.1 218 22 = σ0.1 218 22 ∧ r.2.1 218 23 = σ0.1 218 23 ∧ r.2.1 218 24 = σ0.1 218 24 ∧ r.2.1 218 25 = σ0.1 218 25))) := by
  have hT : Tr [218] σ0 σ0 := Tr.rf
  have hK1 := hK.1
  have tE : σ0.1 224 = tx := hG.1.1
  have nE : (σ0.1 218 9).toInt.toNat = n := hG.1.2
  have pK : TKV (σ0.1 218 11) (σ0.1 218 10) (σ0.1 218 12) (σ0.1 218 13) tx n i := hG.2
  have w12 := hK.2.2 h12
  have h11 := pK.1.1
  have h10 := pK.1.2
  rw [tE] at w12
  rw [f_X12_wordSet.eq_1]
  refine ok_gI rfl ?_
  refine ok_lp (fun t : Int32 × Int32 × zS => Tr [218] σ0 (t.2.2) ∧ (((0 ≤ (t.1).toInt ∧ (t.1).toInt ≤ 1023) ∧ (σ0.1 218 11).toInt ≤ (t.2.1).toInt ∧ (t.2.1).toInt ≤ (σ0.1 218 10).toInt) ∧ wsF tx x1 (tkE tx n i - (t.2.1).toInt.toNat) (t.2.1).toInt.toNat (t.1) = wS tx n i x1) ∧ (TOK (t.2.2).1) ∧ ((t.2.2).1 218 7 = (σ0.1 218 7)) ∧ ((t.2.2).1 218 9 = (σ0.1 218 9)) ∧ ((t.2.2).1 218 10 = (σ0.1 218 10)) ∧ ((t.2.2).1 218 11 = (σ0.1 218 11)) ∧ ((t.2.2).1 218 12 = (σ0.1 218 12)) ∧ ((t.2.2).1 218 13 = (σ0.1 218 13)) ∧ ((t.2.2).1 218 14 = (σ0.1 218 14)) ∧ ((t.2.2).1 218 15 = (σ0.1 218 15)) ∧ ((t.2.2).1 218 20 = (σ0.1 218 20)) ∧ ((t.2.2).1 218 22 = (σ0.1 218 22)) ∧ ((t.2.2).1 218 23 = (σ0.1 218 23)) ∧ ((t.2.2).1 218 24 = (σ0.1 218 24)) ∧ ((t.2.2).1 218 25 = (σ0.1 218 25))) (fun t : Int32 × Int32 × zS => ((σ0.1 218 10).toInt - (t.2.1).toInt).toNat) (fun again2 t hI ih7_2 => ?_) N _ (show Tr [218] σ0 σ0 ∧ (((0 ≤ (0 : Int32).toInt ∧ (0 : Int32).toInt ≤ 1023) ∧ (σ0.1 218 11).toInt ≤ (σ0.1 218 11).toInt ∧ (σ0.1 218 11).toInt ≤ (σ0.1 218 10).toInt) ∧ wsF tx x1 (tkE tx n i - (σ0.1 218 11).toInt.toNat) (σ0.1 218 11).toInt.toNat (0 : Int32) = wS tx n i x1) ∧ (TOK σ0.1) ∧ (σ0.1 218 7 = (σ0.1 218 7)) ∧ (σ0.1 218 9 = (σ0.1 218 9)) ∧ (σ0.1 218 10 = (σ0.1 218 10)) ∧ (σ0.1 218 11 = (σ0.1 218 11)) ∧ (σ0.1 218 12 = (σ0.1 218 12)) ∧ (σ0.1 218 13 = (σ0.1 218 13)) ∧ (σ0.1 218 14 = (σ0.1 218 14)) ∧ (σ0.1 218 15 = (σ0.1 218 15)) ∧ (σ0.1 218 20 = (σ0.1 218 20)) ∧ (σ0.1 218 22 = (σ0.1 218 22)) ∧ (σ0.1 218 23 = (σ0.1 218 23)) ∧ (σ0.1 218 24 = (σ0.1 218 24)) ∧ (σ0.1 218 25 = (σ0.1 218 25)) from ⟨hT, (by exact ⟨⟨by decide, by omega, by omega⟩, by rw [show (σ0.1 218 11).toInt.toNat = tkF tx n i by omega]; rfl⟩), hK, rfl, rfl, rfl, rfl, rfl, rfl, rfl, rfl, rfl, rfl, rfl, rfl, rfl⟩) (show ((σ0.1 218 10).toInt - (σ0.1 218 11).toInt).toNat < N from (by omega))
  obtain ⟨x2_2, x3_2, σ2⟩ := t
  have hI : Tr [218] σ0 σ2 ∧ (((0 ≤ x2_2.toInt ∧ x2_2.toInt ≤ 1023) ∧ (σ0.1 218 11).toInt ≤ x3_2.toInt ∧ x3_2.toInt ≤ (σ0.1 218 10).toInt) ∧ wsF tx x1 (tkE tx n i - x3_2.toInt.toNat) x3_2.toInt.toNat x2_2 = wS tx n i x1) ∧ (TOK σ2.1) ∧ (σ2.1 218 7 = (σ0.1 218 7)) ∧ (σ2.1 218 9 = (σ0.1 218 9)) ∧ (σ2.1 218 10 = (σ0.1 218 10)) ∧ (σ2.1 218 11 = (σ0.1 218 11)) ∧ (σ2.1 218 12 = (σ0.1 218 12)) ∧ (σ2.1 218 13 = (σ0.1 218 13)) ∧ (σ2.1 218 14 = (σ0.1 218 14)) ∧ (σ2.1 218 15 = (σ0.1 218 15)) ∧ (σ2.1 218 20 = (σ0.1 218 20)) ∧ (σ2.1 218 22 = (σ0.1 218 22)) ∧ (σ2.1 218 23 = (σ0.1 218 23)) ∧ (σ2.1 218 24 = (σ0.1 218 24)) ∧ (σ2.1 218 25 = (σ0.1 218 25)) := hI
  obtain ⟨hT, hI2, hK, g7_σ2, g9_σ2, g10_σ2, g11_σ2, g12_σ2, g13_σ2, g14_σ2, g15_σ2, g20_σ2, g22_σ2, g23_σ2, g24_σ2, g25_σ2⟩ := hI
  rw [F_X12_wordSet_7.eq_1]
  have h2 := hI2.1.1
  have h3 := hI2.1.2
  have q7 := hI2.2
  refine ok_gIv rfl g10_σ2 ?_
  refine ok_if (fun hc4 => ?_) (fun hc4 => ?_)
  · have l12 := hc4
    rw [Int32.le_iff_toInt_le] at l12
    have z12 := q7.symm.trans (wsF_e (by omega))
    exact ok_some ⟨hT, (show (TOK σ2.1 ∧ (0 ≤ x2_2.toInt ∧ x2_2.toInt ≤ 1023) ∧ (σ2.1 218 14 = 0 → wS tx n i x1 = some x2_2) ∧ (¬ σ2.1 218 14 = 0 → wS tx n i x1 = none)) ∧ (σ2.1 218 7 = σ0.1 218 7 ∧ σ2.1 218 9 = σ0.1 218 9 ∧ σ2.1 218 10 = σ0.1 218 10 ∧ σ2.1 218 11 = σ0.1 218 11 ∧ σ2.1 218 12 = σ0.1 218 12 ∧ σ2.1 218 13 = σ0.1 218 13 ∧ σ2.1 218 20 = σ0.1 218 20 ∧ σ2.1 218 22 = σ0.1 218 22 ∧ σ2.1 218 23 = σ0.1 218 23 ∧ σ2.1 218 24 = σ0.1 218 24 ∧ σ2.1 218 25 = σ0.1 218 25) from ⟨by first | exact ⟨hK, h2, fun _ => z12, fun q => absurd (g14_σ2.trans hg) q⟩ | exact ⟨hK, by decide, fun q => absurd q HQ.2, fun _ => z29.symm⟩, g7_σ2, g9_σ2, g10_σ2, g11_σ2, g12_σ2, g13_σ2, g20_σ2, g22_σ2, g23_σ2, g24_σ2, g25_σ2⟩)⟩
  · have l12 := hc4
    rw [Int32.le_iff_toInt_le] at l12
    have s3 : (x3_2 + 1).toInt = x3_2.toInt + 1 := by rw [ti_add]; simp only [Int32.reduceToInt]; omega
    have j3 : (x3_2 + 1).toInt.toNat = x3_2.toInt.toNat + 1 := by rw [s3]; omega
    refine ok_gR (v := 224) hT rfl (hR 218 6 rfl) ?_
    refine ok_aIn rfl (by ((try simp only [g7_σ2, g9_σ2, g10_σ2, g11_σ2, g12_σ2, g13_σ2, g14_σ2, g15_σ2, g20_σ2, g22_σ2, g23_σ2, g24_σ2, g25_σ2])); first | omega | decide | (simp only [Int32.le_iff_toInt_le, Int32.lt_iff_toInt_lt, ti_add, ti_sub, ti_mul, Int32.reduceToInt] at *; omega)) (by ((try simp only [g7_σ2, g9_σ2, g10_σ2, g11_σ2, g12_σ2, g13_σ2, g14_σ2, g15_σ2, g20_σ2, g22_σ2, g23_σ2, g24_σ2, g25_σ2])); first | omega | decide | (simp only [Int32.le_iff_toInt_le, Int32.lt_iff_toInt_lt, ti_add, ti_sub, ti_mul, Int32.reduceToInt] at *; omega)) (fun v6 ev6 => ?_)
    have ev20 : v6 = tx x3_2.toInt.toNat := by rw [ev6, hT.2 224 (by decide), tE]; rfl
    have t20 : 97 ≤ (v6).toInt ∧ (v6).toInt ≤ 122 := by rw [ev20]; exact w12 x3_2.toInt.toNat (by omega) (by omega)
    have s20 : (v6 - 97).toInt = v6.toInt - 97 := by rw [ti_sub]; simp only [Int32.reduceToInt]; omega
    have o20 : (v6 - 97).toInt ≤ 9 → 1 ≤ ((1 : Int32) <<< ((v6 - 97) &&& 31)).toInt ∧ ((1 : Int32) <<< ((v6 - 97) &&& 31)).toInt ≤ 512 := fun h => ti_one9 (by omega) h
    refine ok_if (fun hc7 => ?_) (fun hc7 => ?_)
    · have z29 := (wsF_s (t := tx) (m := x1) (s := x2_2) (e := tkE tx n i) (p := x3_2.toInt.toNat) (by omega)).symm.trans q7
      rw [if_pos (Or.inl (ev20 ▸ hc7))] at z29
      refine ok_gC rfl ?_
      refine ok_zbT (Q := fun V σ => (TOK σ.1 ∧ ¬ σ.1 218 14 = 0) ∧ (σ.1 218 7 = σ2.1 218 7 ∧ σ.1 218 9 = σ2.1 218 9 ∧ σ.1 218 10 = σ2.1 218 10 ∧ σ.1 218 11 = σ2.1 218 11 ∧ σ.1 218 12 = σ2.1 218 12 ∧ σ.1 218 13 = σ2.1 218 13 ∧ σ.1 218 20 = σ2.1 218 20 ∧ σ.1 218 22 = σ2.1 218 22 ∧ σ.1 218 23 = σ2.1 218 23 ∧ σ.1 218 24 = σ2.1 218 24 ∧ σ.1 218 25 = σ2.1 218 25)) hT (s_X12_errs hN (hR.tr hT) (hK) (by rw [hT.2 224 (by decide)]; exact hY) (by decide)) (by decide) (fun v8 σ9 hOσ9 hT hqv8 => ?_)
      have hqv8 : (TOK σ9.1 ∧ ¬ σ9.1 218 14 = 0) ∧ (σ9.1 218 7 = σ2.1 218 7 ∧ σ9.1 218 9 = σ2.1 218 9 ∧ σ9.1 218 10 = σ2.1 218 10 ∧ σ9.1 218 11 = σ2.1 218 11 ∧ σ9.1 218 12 = σ2.1 218 12 ∧ σ9.1 218 13 = σ2.1 218 13 ∧ σ9.1 218 20 = σ2.1 218 20 ∧ σ9.1 218 22 = σ2.1 218 22 ∧ σ9.1 218 23 = σ2.1 218 23 ∧ σ9.1 218 24 = σ2.1 218 24 ∧ σ9.1 218 25 = σ2.1 218 25) := hqv8
      have hkv8 := hqv8
      have hqv8 := hqv8.1
      have hK : TOK σ9.1 := by first | exact hqv8.1 | exact hqv8.1.1 | exact TOK_p eσ9 (by decide) hK
      try simp only [g7_σ2, g9_σ2, g10_σ2, g11_σ2, g12_σ2, g13_σ2, g14_σ2, g15_σ2, g20_σ2, g22_σ2, g23_σ2, g24_σ2, g25_σ2] at hqv8
      have g7_σ9 : σ9.1 218 7 = (σ0.1 218 7) := (hkv8.2.1).trans g7_σ2
      have g9_σ9 : σ9.1 218 9 = (σ0.1 218 9) := (hkv8.2.2.1).trans g9_σ2
      have g10_σ9 : σ9.1 218 10 = (σ0.1 218 10) := (hkv8.2.2.2.1).trans g10_σ2
      have g11_σ9 : σ9.1 218 11 = (σ0.1 218 11) := (hkv8.2.2.2.2.1).trans g11_σ2
      have g12_σ9 : σ9.1 218 12 = (σ0.1 218 12) := (hkv8.2.2.2.2.2.1).trans g12_σ2
      have g13_σ9 : σ9.1 218 13 = (σ0.1 218 13) := (hkv8.2.2.2.2.2.2.1).trans g13_σ2
      have g20_σ9 : σ9.1 218 20 = (σ0.1 218 20) := (hkv8.2.2.2.2.2.2.2.1).trans g20_σ2
      have g22_σ9 : σ9.1 218 22 = (σ0.1 218 22) := (hkv8.2.2.2.2.2.2.2.2.1).trans g22_σ2
      have g23_σ9 : σ9.1 218 23 = (σ0.1 218 23) := (hkv8.2.2.2.2.2.2.2.2.2.1).trans g23_σ2
      have g24_σ9 : σ9.1 218 24 = (σ0.1 218 24) := (hkv8.2.2.2.2.2.2.2.2.2.2.1).trans g24_σ2
      have g25_σ9 : σ9.1 218 25 = (σ0.1 218 25) := (hkv8.2.2.2.2.2.2.2.2.2.2.2).trans g25_σ2
      exact ok_some ⟨hT, (show (TOK σ9.1 ∧ (0 ≤ (0 : Int32).toInt ∧ (0 : Int32).toInt ≤ 1023) ∧ (σ9.1 218 14 = 0 → wS tx n i x1 = some (0 : Int32)) ∧ (¬ σ9.1 218 14 = 0 → wS tx n i x1 = none)) ∧ (σ9.1 218 7 = σ0.1 218 7 ∧ σ9.1 218 9 = σ0.1 218 9 ∧ σ9.1 218 10 = σ0.1 218 10 ∧ σ9.1 218 11 = σ0.1 218 11 ∧ σ9.1 218 12 = σ0.1 218 12 ∧ σ9.1 218 13 = σ0.1 218 13 ∧ σ9.1 218 20 = σ0.1 218 20 ∧ σ9.1 218 22 = σ0.1 218 22 ∧ σ9.1 218 23 = σ0.1 218 23 ∧ σ9.1 218 24 = σ0.1 218 24 ∧ σ9.1 218 25 = σ0.1 218 25) from ⟨by first | exact ⟨hK, h2, fun _ => z12, fun q => absurd (rfl.trans hg) q⟩ | exact ⟨hK, by decide, fun q => absurd q hqv8.2, fun _ => z29.symm⟩, g7_σ9, g9_σ9, g10_σ9, g11_σ9, g12_σ9, g13_σ9, g20_σ9, g22_σ9, g23_σ9, g24_σ9, g25_σ9⟩)⟩
    · have n29 := hc7
      have c29 := hc7
      rw [Int32.le_iff_toInt_le, s20] at n29
      refine ok_if (fun hc10 => ?_) (fun hc10 => ?_)
      · have z29 := (wsF_s (t := tx) (m := x1) (s := x2_2) (e := tkE tx n i) (p := x3_2.toInt.toNat) (by omega)).symm.trans q7
        rw [if_pos (Or.inr (ev20 ▸ hc10))] at z29
        refine ok_gC rfl ?_
        refine ok_zbT (Q := fun V σ => (TOK σ.1 ∧ ¬ σ.1 218 14 = 0) ∧ (σ.1 218 7 = σ2.1 218 7 ∧ σ.1 218 9 = σ2.1 218 9 ∧ σ.1 218 10 = σ2.1 218 10 ∧ σ.1 218 11 = σ2.1 218 11 ∧ σ.1 218 12 = σ2.1 218 12 ∧ σ.1 218 13 = σ2.1 218 13 ∧ σ.1 218 20 = σ2.1 218 20 ∧ σ.1 218 22 = σ2.1 218 22 ∧ σ.1 218 23 = σ2.1 218 23 ∧ σ.1 218 24 = σ2.1 218 24 ∧ σ.1 218 25 = σ2.1 218 25)) hT (s_X12_errs hN (hR.tr hT) (hK) (by rw [hT.2 224 (by decide)]; exact hY) (by decide)) (by decide) (fun v11 σ12 hOσ12 hT hqv11 => ?_)
        have hqv11 : (TOK σ12.1 ∧ ¬ σ12.1 218 14 = 0) ∧ (σ12.1 218 7 = σ2.1 218 7 ∧ σ12.1 218 9 = σ2.1 218 9 ∧ σ12.1 218 10 = σ2.1 218 10 ∧ σ12.1 218 11 = σ2.1 218 11 ∧ σ12.1 218 12 = σ2.1 218 12 ∧ σ12.1 218 13 = σ2.1 218 13 ∧ σ12.1 218 20 = σ2.1 218 20 ∧ σ12.1 218 22 = σ2.1 218 22 ∧ σ12.1 218 23 = σ2.1 218 23 ∧ σ12.1 218 24 = σ2.1 218 24 ∧ σ12.1 218 25 = σ2.1 218 25) := hqv11
        have hkv11 := hqv11
        have hqv11 := hqv11.1
        have hK : TOK σ12.1 := by first | exact hqv11.1 | exact hqv11.1.1 | exact TOK_p eσ12 (by decide) hK
        try simp only [g7_σ2, g9_σ2, g10_σ2, g11_σ2, g12_σ2, g13_σ2, g14_σ2, g15_σ2, g20_σ2, g22_σ2, g23_σ2, g24_σ2, g25_σ2] at hqv11
        have g7_σ12 : σ12.1 218 7 = (σ0.1 218 7) := (hkv11.2.1).trans g7_σ2
        have g9_σ12 : σ12.1 218 9 = (σ0.1 218 9) := (hkv11.2.2.1).trans g9_σ2
        have g10_σ12 : σ12.1 218 10 = (σ0.1 218 10) := (hkv11.2.2.2.1).trans g10_σ2
        have g11_σ12 : σ12.1 218 11 = (σ0.1 218 11) := (hkv11.2.2.2.2.1).trans g11_σ2
        have g12_σ12 : σ12.1 218 12 = (σ0.1 218 12) := (hkv11.2.2.2.2.2.1).trans g12_σ2
        have g13_σ12 : σ12.1 218 13 = (σ0.1 218 13) := (hkv11.2.2.2.2.2.2.1).trans g13_σ2
        have g20_σ12 : σ12.1 218 20 = (σ0.1 218 20) := (hkv11.2.2.2.2.2.2.2.1).trans g20_σ2
        have g22_σ12 : σ12.1 218 22 = (σ0.1 218 22) := (hkv11.2.2.2.2.2.2.2.2.1).trans g22_σ2
        have g23_σ12 : σ12.1 218 23 = (σ0.1 218 23) := (hkv11.2.2.2.2.2.2.2.2.2.1).trans g23_σ2
        have g24_σ12 : σ12.1 218 24 = (σ0.1 218 24) := (hkv11.2.2.2.2.2.2.2.2.2.2.1).trans g24_σ2
        have g25_σ12 : σ12.1 218 25 = (σ0.1 218 25) := (hkv11.2.2.2.2.2.2.2.2.2.2.2).trans g25_σ2
        exact ok_some ⟨hT, (show (TOK σ12.1 ∧ (0 ≤ (0 : Int32).toInt ∧ (0 : Int32).toInt ≤ 1023) ∧ (σ12.1 218 14 = 0 → wS tx n i x1 = some (0 : Int32)) ∧ (¬ σ12.1 218 14 = 0 → wS tx n i x1 = none)) ∧ (σ12.1 218 7 = σ0.1 218 7 ∧ σ12.1 218 9 = σ0.1 218 9 ∧ σ12.1 218 10 = σ0.1 218 10 ∧ σ12.1 218 11 = σ0.1 218 11 ∧ σ12.1 218 12 = σ0.1 218 12 ∧ σ12.1 218 13 = σ0.1 218 13 ∧ σ12.1 218 20 = σ0.1 218 20 ∧ σ12.1 218 22 = σ0.1 218 22 ∧ σ12.1 218 23 = σ0.1 218 23 ∧ σ12.1 218 24 = σ0.1 218 24 ∧ σ12.1 218 25 = σ0.1 218 25) from ⟨by first | exact ⟨hK, h2, fun _ => z12, fun q => absurd (rfl.trans hg) q⟩ | exact ⟨hK, by decide, fun q => absurd q hqv11.2, fun _ => z29.symm⟩, g7_σ12, g9_σ12, g10_σ12, g11_σ12, g12_σ12, g13_σ12, g20_σ12, g22_σ12, g23_σ12, g24_σ12, g25_σ12⟩)⟩
      · have z39 := (wsF_s (t := tx) (m := x1) (s := x2_2) (e := tkE tx n i) (p := x3_2.toInt.toNat) (by omega)).symm.trans q7
        rw [if_neg (fun q => q.elim (fun q => c29 (ev20.symm ▸ q)) (fun q => hc10 (ev20.symm ▸ q)))] at z39
        exact ih7_2 (x2_2 ||| ((1 : Int32) <<< ((v6 - 97) &&& 31)), x3_2 + 1, σ2) (show Tr [218] σ0 σ2 ∧ (((0 ≤ (x2_2 ||| ((1 : Int32) <<< ((v6 - 97) &&& 31))).toInt ∧ (x2_2 ||| ((1 : Int32) <<< ((v6 - 97) &&& 31))).toInt ≤ 1023) ∧ (σ0.1 218 11).toInt ≤ (x3_2 + 1).toInt ∧ (x3_2 + 1).toInt ≤ (σ0.1 218 10).toInt) ∧ wsF tx x1 (tkE tx n i - (x3_2 + 1).toInt.toNat) (x3_2 + 1).toInt.toNat (x2_2 ||| ((1 : Int32) <<< ((v6 - 97) &&& 31))) = wS tx n i x1) ∧ (TOK σ2.1) ∧ (σ2.1 218 7 = (σ0.1 218 7)) ∧ (σ2.1 218 9 = (σ0.1 218 9)) ∧ (σ2.1 218 10 = (σ0.1 218 10)) ∧ (σ2.1 218 11 = (σ0.1 218 11)) ∧ (σ2.1 218 12 = (σ0.1 218 12)) ∧ (σ2.1 218 13 = (σ0.1 218 13)) ∧ (σ2.1 218 14 = (σ0.1 218 14)) ∧ (σ2.1 218 15 = (σ0.1 218 15)) ∧ (σ2.1 218 20 = (σ0.1 218 20)) ∧ (σ2.1 218 22 = (σ0.1 218 22)) ∧ (σ2.1 218 23 = (σ0.1 218 23)) ∧ (σ2.1 218 24 = (σ0.1 218 24)) ∧ (σ2.1 218 25 = (σ0.1 218 25)) from ⟨hT, (by have o9 := o20 (by omega); exact ⟨⟨or10 (by omega) (by omega) (by omega) (by omega), by rw [s3]; omega⟩, by rw [j3, ev20]; exact z39⟩), hK, g7_σ2, g9_σ2, g10_σ2, g11_σ2, g12_σ2, g13_σ2, g14_σ2, g15_σ2, g20_σ2, g22_σ2, g23_σ2, g24_σ2, g25_σ2⟩) (show ((σ0.1 218 10).toInt - (x3_2 + 1).toInt).toNat < ((σ0.1 218 10).toInt - x3_2.toInt).toNat from (by rw [s3]; omega))

set_option maxHeartbeats 4000000 in
set_option maxRecDepth 100000 in
theorem s_X12_readsSet_r {N : Nat} (hN : 1048576 ≤ N) {x1 : Int32} {σ0 : zS} {tx : Nat → Int32} {n i : Nat} (hR : RF σ0.2.2) (hK : TOK σ0.1) (hY : BYT (σ0.1 224)) (hG : RX σ0.1 tx n i) (hg : σ0.1 218 14 = 0) (hB : ZB σ0.1) (hn : 0 ≤ x1.toInt ∧ x1.toInt ≤ 10) (hp : 1 ≤ (σ0.1 218 23).toInt ∧ (σ0.1 218 23).toInt ≤ 18) : Ok (f_X12_readsSet N 218 x1 σ0) (fun r => Tr [218, 226] σ0 r.2 ∧ ((TOK r.2.1 ∧ (σ0.1 218 11).toInt ≤ (r.2.1 218 11).toInt ∧ (r.2.1 218 14 = 0 → ((σ0.1 218 11).toInt < (r.2.1 218 11).toInt ∧ mOK tx n i x1) ∧ RX r.2.1 tx n (tkE tx n i)) ∧ (¬ r.2.1 218 14 = 0 → ¬ mOK tx n i x1) ∧ ZB r.2.1) ∧ (r.2.1 218 7 = σ0.1 218 7 ∧ r.2.1 218 9 = σ0.1 218 9 ∧ r.2.1 218 20 = σ0.1 218 20 ∧ r.2.1 218 22 = σ0.1 218 22 ∧ r.2.1 218 23 = σ0.1 218 23 ∧ r.2.1 218 24 = σ0.1 218 24 ∧ r.2.1 218 25 = σ0.1 218 25))) := by
  have hT : Tr [218, 226] σ0 σ0 := Tr.rf
  have hK1 := hK.1
  have tE : σ0.1 224 = tx := hG.1.1
  have nE : (σ0.1 218 9).toInt.toNat = n := hG.1.2
  have pK : TKV (σ0.1 218 11) (σ0.1 218 10) (σ0.1 218 12) (σ0.1 218 13) tx n i := hG.2
  have p1 : ((σ0.1 218 23) - 1).toInt = (σ0.1 218 23).toInt - 1 := by rw [ti_sub]; simp only [Int32.reduceToInt]; omega
  have m1 := p1024 p1 (by omega) (by omega)
  rw [f_X12_readsSet.eq_1]
  refine ok_gI rfl ?_
  refine ok_if (fun hc2 => ?_) (fun hc2 => ?_)
  · have k7 : tkK tx n i = 2 := pK.2.1.symm.trans hc2
    refine ok_gC rfl ?_
    refine ok_zbT (Q := fun V σ => (TOK σ.1 ∧ (σ0.1 218 11).toInt ≤ (σ.1 218 11).toInt ∧ (σ.1 218 14 = 0 → ((σ0.1 218 11).toInt < (σ.1 218 11).toInt ∧ nOK tx n i (0 : Int32) (0 : Int32)) ∧ V.toInt = min 99999 (Nv tx n (tkF tx n i) 0 : Int) ∧ RX σ.1 tx n (tkE tx n i)) ∧ (¬ σ.1 218 14 = 0 → V = 0 ∧ ¬ nOK tx n i (0 : Int32) (0 : Int32))) ∧ (σ.1 218 7 = σ0.1 218 7 ∧ σ.1 218 9 = σ0.1 218 9 ∧ σ.1 218 20 = σ0.1 218 20 ∧ σ.1 218 22 = σ0.1 218 22 ∧ σ.1 218 23 = σ0.1 218 23 ∧ σ.1 218 24 = σ0.1 218 24 ∧ σ.1 218 25 = σ0.1 218 25)) hT (s_X12_number_r hN (hR.tr hT) (hK) (by rw [hT.2 224 (by decide)]; exact hY) (RX_i rfl rfl rfl rfl rfl ((hT.2 224 (by decide)).trans tE) nE pK) (hg)) (by decide) (fun v3 σ4 hOσ4 hT hqv3 => ?_)
    have hqv3 : (TOK σ4.1 ∧ (σ0.1 218 11).toInt ≤ (σ4.1 218 11).toInt ∧ (σ4.1 218 14 = 0 → ((σ0.1 218 11).toInt < (σ4.1 218 11).toInt ∧ nOK tx n i (0 : Int32) (0 : Int32)) ∧ v3.toInt = min 99999 (Nv tx n (tkF tx n i) 0 : Int) ∧ RX σ4.1 tx n (tkE tx n i)) ∧ (¬ σ4.1 218 14 = 0 → v3 = 0 ∧ ¬ nOK tx n i (0 : Int32) (0 : Int32))) ∧ (σ4.1 218 7 = σ0.1 218 7 ∧ σ4.1 218 9 = σ0.1 218 9 ∧ σ4.1 218 20 = σ0.1 218 20 ∧ σ4.1 218 22 = σ0.1 218 22 ∧ σ4.1 218 23 = σ0.1 218 23 ∧ σ4.1 218 24 = σ0.1 218 24 ∧ σ4.1 218 25 = σ0.1 218 25) := hqv3
    have hkv3 := hqv3
    have hqv3 := hqv3.1
    have hK : TOK σ4.1 := by first | exact hqv3.1 | exact hqv3.1.1 | exact TOK_p eσ4 (by decide) hK
    have hB : ZB σ4.1 := ZB.tr hOσ4 (by decide) hB
    have g7_σ4 : σ4.1 218 7 = (σ0.1 218 7) := hkv3.2.1
    have g9_σ4 : σ4.1 218 9 = (σ0.1 218 9) := hkv3.2.2.1
    have g20_σ4 : σ4.1 218 20 = (σ0.1 218 20) := hkv3.2.2.2.1
    have g22_σ4 : σ4.1 218 22 = (σ0.1 218 22) := hkv3.2.2.2.2.1
    have g23_σ4 : σ4.1 218 23 = (σ0.1 218 23) := hkv3.2.2.2.2.2.1
    have g24_σ4 : σ4.1 218 24 = (σ0.1 218 24) := hkv3.2.2.2.2.2.2.1
    have g25_σ4 : σ4.1 218 25 = (σ0.1 218 25) := hkv3.2.2.2.2.2.2.2
    have m13 := hqv3.2.1
    have u13 := hqv3.2.2.1
    have f13 := hqv3.2.2.2
    have b13 : 0 ≤ v3.toInt ∧ v3.toInt ≤ 1023 := by by_cases h9 : σ4.1 218 14 = 0; have h8 := (u13 h9).1.2.2.2; have h7 := (u13 h9).2.1; simp only [Int32.reduceToInt] at h8; omega; rw [(f13 h9).1]; decide
    rw [J_X12_readsSet_53.eq_1]
    refine ok_gC rfl ?_
    refine ok_zbX (Q := fun V => (V = 0 → ¬ σ4.1 218 14 = 0) ∧ (¬ V = 0 → σ4.1 218 14 = 0)) (x_X12_good) (fun v5 hqv5 => ?_)
    have hqv5 : (v5 = 0 → ¬ σ4.1 218 14 = 0) ∧ (¬ v5 = 0 → σ4.1 218 14 = 0) := hqv5
    try simp only [g7_σ4, g9_σ4, g20_σ4, g22_σ4, g23_σ4, g24_σ4, g25_σ4, hT.2 224 (by decide)] at hqv5
    refine ok_if (fun hc7 => ?_) (fun hc7 => ?_)
    · have qhc7 := hqv5.1 hc7
      have n57 := qhc7
      have nm : ¬ mOK tx n i x1 := by first | exact fun q => q.elim (f13 n57).2 (fun q => absurd (k7.symm.trans q.1) (by decide)) | exact fun q => q.elim (fun q => absurd (k25.symm.trans q.1) (by decide)) (fun q => by rw [f30 n38] at q; exact absurd q.2 (by decide)) | exact fun q => q.elim (fun q => m7 q.1) (fun q => m25 q.1) | exact absurd y38 n57
      exact ok_some ⟨hT, (show (TOK σ4.1 ∧ (σ0.1 218 11).toInt ≤ (σ4.1 218 11).toInt ∧ (σ4.1 218 14 = 0 → ((σ0.1 218 11).toInt < (σ4.1 218 11).toInt ∧ mOK tx n i x1) ∧ RX σ4.1 tx n (tkE tx n i)) ∧ (¬ σ4.1 218 14 = 0 → ¬ mOK tx n i x1) ∧ ZB σ4.1) ∧ (σ4.1 218 7 = σ0.1 218 7 ∧ σ4.1 218 9 = σ0.1 218 9 ∧ σ4.1 218 20 = σ0.1 218 20 ∧ σ4.1 218 22 = σ0.1 218 22 ∧ σ4.1 218 23 = σ0.1 218 23 ∧ σ4.1 218 24 = σ0.1 218 24 ∧ σ4.1 218 25 = σ0.1 218 25) from ⟨by first | exact ⟨hK, by (try simp only [g7_σ4, g9_σ4, g20_σ4, g22_σ4, g23_σ4, g24_σ4, g25_σ4]); omega, fun q => absurd q (by (try simp only [g7_σ4, g9_σ4, g20_σ4, g22_σ4, g23_σ4, g24_σ4, g25_σ4]); exact n57), fun _ => nm, hB⟩ | exact ⟨hK, by (try simp only [g7_σ4, g9_σ4, g20_σ4, g22_σ4, g23_σ4, g24_σ4, g25_σ4]); omega, fun _ => ⟨⟨by (try simp only [g7_σ4, g9_σ4, g20_σ4, g22_σ4, g23_σ4, g24_σ4, g25_σ4]); exact ga, ym⟩, RX_i g9_σ4 rfl rfl rfl rfl ((hT.2 224 (by decide)).trans tE) nE pK9⟩, fun q => absurd (by (try simp only [g7_σ4, g9_σ4, g20_σ4, g22_σ4, g23_σ4, g24_σ4, g25_σ4]); exact y57) q, hB⟩, g7_σ4, g9_σ4, g20_σ4, g22_σ4, g23_σ4, g24_σ4, g25_σ4⟩)⟩
    · have qhc7 := hqv5.2 hc7
      have y57 := qhc7
      have ym : mOK tx n i x1 := by first | exact Or.inl (u13 y57).1.2 | exact Or.inr ⟨k25, by rw [u30 y38]; rfl⟩ | exact absurd y57 n50 | exact absurd y57 n38
      have pK9 : TKV (σ4.1 218 11) (σ4.1 218 10) (σ4.1 218 12) (σ4.1 218 13) tx n (tkE tx n i) := by first | exact (u13 y57).2.2.2 | exact g42.2 | exact absurd y57 n50 | exact absurd y57 n38
      have ga : (σ0.1 218 11).toInt < (σ4.1 218 11).toInt := by first | exact (u13 y57).1.1 | omega | exact absurd y57 n50 | exact absurd y57 n38
      refine ok_gR (v := 226) hT rfl (hR 218 16 rfl) ?_
      refine ok_gIv rfl g23_σ4 ?_
      refine ok_s16 hT rfl (by decide) (by rw [ti_add, m1]; first | omega | (simp only [Int32.reduceToInt]; omega)) (by rw [ti_add, m1]; first | omega | (simp only [Int32.reduceToInt]; omega)) (fun σ10 eσ10 hOσ10 hT => ?_)
      have hK : TOK σ10.1 := TOK_tr hOσ10 (by decide) (by decide) hK
      have hB : ZB σ10.1 := ZB_s eσ10 hB
      have g7_σ10 : σ10.1 218 7 = (σ0.1 218 7) := (congrFun (hOσ10.2 218 (by decide)) 7).trans g7_σ4
      have g9_σ10 : σ10.1 218 9 = (σ0.1 218 9) := (congrFun (hOσ10.2 218 (by decide)) 9).trans g9_σ4
      have g10_σ10 : σ10.1 218 10 = (σ4.1 218 10) := congrFun (hOσ10.2 218 (by decide)) 10
      have g11_σ10 : σ10.1 218 11 = (σ4.1 218 11) := congrFun (hOσ10.2 218 (by decide)) 11
      have g12_σ10 : σ10.1 218 12 = (σ4.1 218 12) := congrFun (hOσ10.2 218 (by decide)) 12
      have g13_σ10 : σ10.1 218 13 = (σ4.1 218 13) := congrFun (hOσ10.2 218 (by decide)) 13
      have g14_σ10 : σ10.1 218 14 = (σ4.1 218 14) := congrFun (hOσ10.2 218 (by decide)) 14
      have g15_σ10 : σ10.1 218 15 = (σ4.1 218 15) := congrFun (hOσ10.2 218 (by decide)) 15
      have g20_σ10 : σ10.1 218 20 = (σ0.1 218 20) := (congrFun (hOσ10.2 218 (by decide)) 20).trans g20_σ4
      have g22_σ10 : σ10.1 218 22 = (σ0.1 218 22) := (congrFun (hOσ10.2 218 (by decide)) 22).trans g22_σ4
      have g23_σ10 : σ10.1 218 23 = (σ0.1 218 23) := (congrFun (hOσ10.2 218 (by decide)) 23).trans g23_σ4
      have g24_σ10 : σ10.1 218 24 = (σ0.1 218 24) := (congrFun (hOσ10.2 218 (by decide)) 24).trans g24_σ4
      have g25_σ10 : σ10.1 218 25 = (σ0.1 218 25) := (congrFun (hOσ10.2 218 (by decide)) 25).trans g25_σ4
      exact ok_some ⟨hT, (show (TOK σ10.1 ∧ (σ0.1 218 11).toInt ≤ (σ10.1 218 11).toInt ∧ (σ10.1 218 14 = 0 → ((σ0.1 218 11).toInt < (σ10.1 218 11).toInt ∧ mOK tx n i x1) ∧ RX σ10.1 tx n (tkE tx n i)) ∧ (¬ σ10.1 218 14 = 0 → ¬ mOK tx n i x1) ∧ ZB σ10.1) ∧ (σ10.1 218 7 = σ0.1 218 7 ∧ σ10.1 218 9 = σ0.1 218 9 ∧ σ10.1 218 20 = σ0.1 218 20 ∧ σ10.1 218 22 = σ0.1 218 22 ∧ σ10.1 218 23 = σ0.1 218 23 ∧ σ10.1 218 24 = σ0.1 218 24 ∧ σ10.1 218 25 = σ0.1 218 25) from ⟨by first | exact ⟨hK, by (try simp only [g7_σ10, g9_σ10, g10_σ10, g11_σ10, g12_σ10, g13_σ10, g14_σ10, g15_σ10, g20_σ10, g22_σ10, g23_σ10, g24_σ10, g25_σ10]); omega, fun q => absurd q (by (try simp only [g7_σ10, g9_σ10, g10_σ10, g11_σ10, g12_σ10, g13_σ10, g14_σ10, g15_σ10, g20_σ10, g22_σ10, g23_σ10, g24_σ10, g25_σ10]); exact n57), fun _ => nm, hB⟩ | exact ⟨hK, by (try simp only [g7_σ10, g9_σ10, g10_σ10, g11_σ10, g12_σ10, g13_σ10, g14_σ10, g15_σ10, g20_σ10, g22_σ10, g23_σ10, g24_σ10, g25_σ10]); omega, fun _ => ⟨⟨by (try simp only [g7_σ10, g9_σ10, g10_σ10, g11_σ10, g12_σ10, g13_σ10, g14_σ10, g15_σ10, g20_σ10, g22_σ10, g23_σ10, g24_σ10, g25_σ10]); exact ga, ym⟩, RX_i g9_σ10 g10_σ10 g11_σ10 g12_σ10 g13_σ10 ((hT.2 224 (by decide)).trans tE) nE pK9⟩, fun q => absurd (by (try simp only [g7_σ10, g9_σ10, g10_σ10, g11_σ10, g12_σ10, g13_σ10, g14_σ10, g15_σ10, g20_σ10, g22_σ10, g23_σ10, g24_σ10, g25_σ10]); exact y57) q, hB⟩, g7_σ10, g9_σ10, g20_σ10, g22_σ10, g23_σ10, g24_σ10, g25_σ10⟩)⟩
  · have m7 : ¬ tkK tx n i = 2 := fun q => hc2 (pK.2.1.trans q)
    refine ok_gI rfl ?_
    refine ok_if (fun hc12 => ?_) (fun hc12 => ?_)
    · have e25 := hc12
      have l25 := hK.2.1 (by rw [hc12]; decide)
      have k25 : tkK tx n i = 1 := pK.2.1.symm.trans hc12
      refine ok_gC rfl ?_
      refine ok_zbT (Q := fun V σ => (TOK σ.1 ∧ (0 ≤ V.toInt ∧ V.toInt ≤ 1023) ∧ (σ.1 218 14 = 0 → wS tx n i x1 = some V) ∧ (¬ σ.1 218 14 = 0 → wS tx n i x1 = none)) ∧ (σ.1 218 7 = σ0.1 218 7 ∧ σ.1 218 9 = σ0.1 218 9 ∧ σ.1 218 10 = σ0.1 218 10 ∧ σ.1 218 11 = σ0.1 218 11 ∧ σ.1 218 12 = σ0.1 218 12 ∧ σ.1 218 13 = σ0.1 218 13 ∧ σ.1 218 20 = σ0.1 218 20 ∧ σ.1 218 22 = σ0.1 218 22 ∧ σ.1 218 23 = σ0.1 218 23 ∧ σ.1 218 24 = σ0.1 218 24 ∧ σ.1 218 25 = σ0.1 218 25)) hT (s_X12_wordSet_r hN (hR.tr hT) (hK) (by rw [hT.2 224 (by decide)]; exact hY) (RX_i rfl rfl rfl rfl rfl ((hT.2 224 (by decide)).trans tE) nE pK) (hg) (e25) (hn)) (by decide) (fun v13 σ14 hOσ14 hT hqv13 => ?_)
      have hqv13 : (TOK σ14.1 ∧ (0 ≤ v13.toInt ∧ v13.toInt ≤ 1023) ∧ (σ14.1 218 14 = 0 → wS tx n i x1 = some v13) ∧ (¬ σ14.1 218 14 = 0 → wS tx n i x1 = none)) ∧ (σ14.1 218 7 = σ0.1 218 7 ∧ σ14.1 218 9 = σ0.1 218 9 ∧ σ14.1 218 10 = σ0.1 218 10 ∧ σ14.1 218 11 = σ0.1 218 11 ∧ σ14.1 218 12 = σ0.1 218 12 ∧ σ14.1 218 13 = σ0.1 218 13 ∧ σ14.1 218 20 = σ0.1 218 20 ∧ σ14.1 218 22 = σ0.1 218 22 ∧ σ14.1 218 23 = σ0.1 218 23 ∧ σ14.1 218 24 = σ0.1 218 24 ∧ σ14.1 218 25 = σ0.1 218 25) := hqv13
      have hkv13 := hqv13
      have hqv13 := hqv13.1
      have hK : TOK σ14.1 := by first | exact hqv13.1 | exact hqv13.1.1 | exact TOK_p eσ14 (by decide) hK
      have hB : ZB σ14.1 := ZB.tr hOσ14 (by decide) hB
      have g7_σ14 : σ14.1 218 7 = (σ0.1 218 7) := hkv13.2.1
      have g9_σ14 : σ14.1 218 9 = (σ0.1 218 9) := hkv13.2.2.1
      have g10_σ14 : σ14.1 218 10 = (σ0.1 218 10) := hkv13.2.2.2.1
      have g11_σ14 : σ14.1 218 11 = (σ0.1 218 11) := hkv13.2.2.2.2.1
      have g12_σ14 : σ14.1 218 12 = (σ0.1 218 12) := hkv13.2.2.2.2.2.1
      have g13_σ14 : σ14.1 218 13 = (σ0.1 218 13) := hkv13.2.2.2.2.2.2.1
      have g20_σ14 : σ14.1 218 20 = (σ0.1 218 20) := hkv13.2.2.2.2.2.2.2.1
      have g22_σ14 : σ14.1 218 22 = (σ0.1 218 22) := hkv13.2.2.2.2.2.2.2.2.1
      have g23_σ14 : σ14.1 218 23 = (σ0.1 218 23) := hkv13.2.2.2.2.2.2.2.2.2.1
      have g24_σ14 : σ14.1 218 24 = (σ0.1 218 24) := hkv13.2.2.2.2.2.2.2.2.2.2.1
      have g25_σ14 : σ14.1 218 25 = (σ0.1 218 25) := hkv13.2.2.2.2.2.2.2.2.2.2.2
      have b30 := hqv13.2.1
      have u30 := hqv13.2.2.1
      have f30 := hqv13.2.2.2
      refine ok_gC rfl ?_
      refine ok_zbX (Q := fun V => (V = 0 → ¬ σ14.1 218 14 = 0) ∧ (¬ V = 0 → σ14.1 218 14 = 0)) (x_X12_good) (fun v15 hqv15 => ?_)
      have hqv15 : (v15 = 0 → ¬ σ14.1 218 14 = 0) ∧ (¬ v15 = 0 → σ14.1 218 14 = 0) := hqv15
      try simp only [g7_σ14, g9_σ14, g10_σ14, g11_σ14, g12_σ14, g13_σ14, g20_σ14, g22_σ14, g23_σ14, g24_σ14, g25_σ14, hT.2 224 (by decide)] at hqv15
      refine ok_if (fun hc17 => ?_) (fun hc17 => ?_)
      · have qhc17 := hqv15.1 hc17
        have n38 := qhc17
        rw [J_X12_readsSet_53.eq_1]
        refine ok_gC rfl ?_
        refine ok_zbX (Q := fun V => (V = 0 → ¬ σ14.1 218 14 = 0) ∧ (¬ V = 0 → σ14.1 218 14 = 0)) (x_X12_good) (fun v18 hqv18 => ?_)
        have hqv18 : (v18 = 0 → ¬ σ14.1 218 14 = 0) ∧ (¬ v18 = 0 → σ14.1 218 14 = 0) := hqv18
        try simp only [g7_σ14, g9_σ14, g10_σ14, g11_σ14, g12_σ14, g13_σ14, g20_σ14, g22_σ14, g23_σ14, g24_σ14, g25_σ14, hT.2 224 (by decide)] at hqv18
        refine ok_if (fun hc20 => ?_) (fun hc20 => ?_)
        · have qhc20 := hqv18.1 hc20
          have n57 := qhc20
          have nm : ¬ mOK tx n i x1 := by first | exact fun q => q.elim (f13 n57).2 (fun q => absurd (k7.symm.trans q.1) (by decide)) | exact fun q => q.elim (fun q => absurd (k25.symm.trans q.1) (by decide)) (fun q => by rw [f30 n38] at q; exact absurd q.2 (by decide)) | exact fun q => q.elim (fun q => m7 q.1) (fun q => m25 q.1) | exact absurd y38 n57
          exact ok_some ⟨hT, (show (TOK σ14.1 ∧ (σ0.1 218 11).toInt ≤ (σ14.1 218 11).toInt ∧ (σ14.1 218 14 = 0 → ((σ0.1 218 11).toInt < (σ14.1 218 11).toInt ∧ mOK tx n i x1) ∧ RX σ14.1 tx n (tkE tx n i)) ∧ (¬ σ14.1 218 14 = 0 → ¬ mOK tx n i x1) ∧ ZB σ14.1) ∧ (σ14.1 218 7 = σ0.1 218 7 ∧ σ14.1 218 9 = σ0.1 218 9 ∧ σ14.1 218 20 = σ0.1 218 20 ∧ σ14.1 218 22 = σ0.1 218 22 ∧ σ14.1 218 23 = σ0.1 218 23 ∧ σ14.1 218 24 = σ0.1 218 24 ∧ σ14.1 218 25 = σ0.1 218 25) from ⟨by first | exact ⟨hK, by (try simp only [g7_σ14, g9_σ14, g10_σ14, g11_σ14, g12_σ14, g13_σ14, g20_σ14, g22_σ14, g23_σ14, g24_σ14, g25_σ14]); omega, fun q => absurd q (by (try simp only [g7_σ14, g9_σ14, g10_σ14, g11_σ14, g12_σ14, g13_σ14, g20_σ14, g22_σ14, g23_σ14, g24_σ14, g25_σ14]); exact n57), fun _ => nm, hB⟩ | exact ⟨hK, by (try simp only [g7_σ14, g9_σ14, g10_σ14, g11_σ14, g12_σ14, g13_σ14, g20_σ14, g22_σ14, g23_σ14, g24_σ14, g25_σ14]); omega, fun _ => ⟨⟨by (try simp only [g7_σ14, g9_σ14, g10_σ14, g11_σ14, g12_σ14, g13_σ14, g20_σ14, g22_σ14, g23_σ14, g24_σ14, g25_σ14]); exact ga, ym⟩, RX_i g9_σ14 g10_σ14 g11_σ14 g12_σ14 g13_σ14 ((hT.2 224 (by decide)).trans tE) nE pK9⟩, fun q => absurd (by (try simp only [g7_σ14, g9_σ14, g10_σ14, g11_σ14, g12_σ14, g13_σ14, g20_σ14, g22_σ14, g23_σ14, g24_σ14, g25_σ14]); exact y57) q, hB⟩, g7_σ14, g9_σ14, g20_σ14, g22_σ14, g23_σ14, g24_σ14, g25_σ14⟩)⟩
        · have qhc20 := hqv18.2 hc20
          have y57 := qhc20
          have ym : mOK tx n i x1 := by first | exact Or.inl (u13 y57).1.2 | exact Or.inr ⟨k25, by rw [u30 y38]; rfl⟩ | exact absurd y57 n50 | exact absurd y57 n38
          have pK9 : TKV (σ0.1 218 11) (σ0.1 218 10) (σ0.1 218 12) (σ0.1 218 13) tx n (tkE tx n i) := by first | exact (u13 y57).2.2.2 | exact g42.2 | exact absurd y57 n50 | exact absurd y57 n38
          have ga : (σ0.1 218 11).toInt < (σ0.1 218 11).toInt := by first | exact (u13 y57).1.1 | omega | exact absurd y57 n50 | exact absurd y57 n38
          refine ok_gR (v := 226) hT rfl (hR 218 16 rfl) ?_
          refine ok_gIv rfl g23_σ14 ?_
          refine ok_s16 hT rfl (by decide) (by rw [ti_add, m1]; first | omega | (simp only [Int32.reduceToInt]; omega)) (by rw [ti_add, m1]; first | omega | (simp only [Int32.reduceToInt]; omega)) (fun σ23 eσ23 hOσ23 hT => ?_)
          have hK : TOK σ23.1 := TOK_tr hOσ23 (by decide) (by decide) hK
          have hB : ZB σ23.1 := ZB_s eσ23 hB
          have g7_σ23 : σ23.1 218 7 = (σ0.1 218 7) := (congrFun (hOσ23.2 218 (by decide)) 7).trans g7_σ14
          have g9_σ23 : σ23.1 218 9 = (σ0.1 218 9) := (congrFun (hOσ23.2 218 (by decide)) 9).trans g9_σ14
          have g10_σ23 : σ23.1 218 10 = (σ0.1 218 10) := (congrFun (hOσ23.2 218 (by decide)) 10).trans g10_σ14
          have g11_σ23 : σ23.1 218 11 = (σ0.1 218 11) := (congrFun (hOσ23.2 218 (by decide)) 11).trans g11_σ14
          have g12_σ23 : σ23.1 218 12 = (σ0.1 218 12) := (congrFun (hOσ23.2 218 (by decide)) 12).trans g12_σ14
          have g13_σ23 : σ23.1 218 13 = (σ0.1 218 13) := (congrFun (hOσ23.2 218 (by decide)) 13).trans g13_σ14
          have g14_σ23 : σ23.1 218 14 = (σ14.1 218 14) := congrFun (hOσ23.2 218 (by decide)) 14
          have g15_σ23 : σ23.1 218 15 = (σ14.1 218 15) := congrFun (hOσ23.2 218 (by decide)) 15
          have g20_σ23 : σ23.1 218 20 = (σ0.1 218 20) := (congrFun (hOσ23.2 218 (by decide)) 20).trans g20_σ14
          have g22_σ23 : σ23.1 218 22 = (σ0.1 218 22) := (congrFun (hOσ23.2 218 (by decide)) 22).trans g22_σ14
          have g23_σ23 : σ23.1 218 23 = (σ0.1 218 23) := (congrFun (hOσ23.2 218 (by decide)) 23).trans g23_σ14
          have g24_σ23 : σ23.1 218 24 = (σ0.1 218 24) := (congrFun (hOσ23.2 218 (by decide)) 24).trans g24_σ14
          have g25_σ23 : σ23.1 218 25 = (σ0.1 218 25) := (congrFun (hOσ23.2 218 (by decide)) 25).trans g25_σ14
          exact ok_some ⟨hT, (show (TOK σ23.1 ∧ (σ0.1 218 11).toInt ≤ (σ23.1 218 11).toInt ∧ (σ23.1 218 14 = 0 → ((σ0.1 218 11).toInt < (σ23.1 218 11).toInt ∧ mOK tx n i x1) ∧ RX σ23.1 tx n (tkE tx n i)) ∧ (¬ σ23.1 218 14 = 0 → ¬ mOK tx n i x1) ∧ ZB σ23.1) ∧ (σ23.1 218 7 = σ0.1 218 7 ∧ σ23.1 218 9 = σ0.1 218 9 ∧ σ23.1 218 20 = σ0.1 218 20 ∧ σ23.1 218 22 = σ0.1 218 22 ∧ σ23.1 218 23 = σ0.1 218 23 ∧ σ23.1 218 24 = σ0.1 218 24 ∧ σ23.1 218 25 = σ0.1 218 25) from ⟨by first | exact ⟨hK, by (try simp only [g7_σ23, g9_σ23, g10_σ23, g11_σ23, g12_σ23, g13_σ23, g14_σ23, g15_σ23, g20_σ23, g22_σ23, g23_σ23, g24_σ23, g25_σ23]); omega, fun q => absurd q (by (try simp only [g7_σ23, g9_σ23, g10_σ23, g11_σ23, g12_σ23, g13_σ23, g14_σ23, g15_σ23, g20_σ23, g22_σ23, g23_σ23, g24_σ23, g25_σ23]); exact n57), fun _ => nm, hB⟩ | exact ⟨hK, by (try simp only [g7_σ23, g9_σ23, g10_σ23, g11_σ23, g12_σ23, g13_σ23, g14_σ23, g15_σ23, g20_σ23, g22_σ23, g23_σ23, g24_σ23, g25_σ23]); omega, fun _ => ⟨⟨by (try simp only [g7_σ23, g9_σ23, g10_σ23, g11_σ23, g12_σ23, g13_σ23, g14_σ23, g15_σ23, g20_σ23, g22_σ23, g23_σ23, g24_σ23, g25_σ23]); exact ga, ym⟩, RX_i g9_σ23 g10_σ23 g11_σ23 g12_σ23 g13_σ23 ((hT.2 224 (by decide)).trans tE) nE pK9⟩, fun q => absurd (by (try simp only [g7_σ23, g9_σ23, g10_σ23, g11_σ23, g12_σ23, g13_σ23, g14_σ23, g15_σ23, g20_σ23, g22_σ23, g23_σ23, g24_σ23, g25_σ23]); exact y57) q, hB⟩, g7_σ23, g9_σ23, g20_σ23, g22_σ23, g23_σ23, g24_σ23, g25_σ23⟩)⟩
      · have qhc17 := hqv15.2 hc17
        have y38 := qhc17
        refine ok_gC rfl ?_
        refine ok_zbT (Q := fun V σ => ((TOK σ.1 ∧ (σ14.1 218 10).toInt ≤ (σ.1 218 11).toInt) ∧ RX σ.1 tx n (tkE tx n i)) ∧ (σ.1 218 7 = σ14.1 218 7 ∧ σ.1 218 9 = σ14.1 218 9 ∧ σ.1 218 14 = σ14.1 218 14 ∧ σ.1 218 15 = σ14.1 218 15 ∧ σ.1 218 20 = σ14.1 218 20 ∧ σ.1 218 22 = σ14.1 218 22 ∧ σ.1 218 23 = σ14.1 218 23 ∧ σ.1 218 24 = σ14.1 218 24 ∧ σ.1 218 25 = σ14.1 218 25)) hT (s_X12_advance_r hN (hR.tr hT) (TOK_A hK) (by rw [hT.2 224 (by decide)]; exact hY) (RX_i g9_σ14 g10_σ14 g11_σ14 g12_σ14 g13_σ14 ((hT.2 224 (by decide)).trans tE) nE pK)) (by decide) (fun v24 σ25 hOσ25 hT hqv24 => ?_)
        have hqv24 : ((TOK σ25.1 ∧ (σ14.1 218 10).toInt ≤ (σ25.1 218 11).toInt) ∧ RX σ25.1 tx n (tkE tx n i)) ∧ (σ25.1 218 7 = σ14.1 218 7 ∧ σ25.1 218 9 = σ14.1 218 9 ∧ σ25.1 218 14 = σ14.1 218 14 ∧ σ25.1 218 15 = σ14.1 218 15 ∧ σ25.1 218 20 = σ14.1 218 20 ∧ σ25.1 218 22 = σ14.1 218 22 ∧ σ25.1 218 23 = σ14.1 218 23 ∧ σ25.1 218 24 = σ14.1 218 24 ∧ σ25.1 218 25 = σ14.1 218 25) := hqv24
        have hkv24 := hqv24
        have hqv24 := hqv24.1
        have hK : TOK σ25.1 := by first | exact hqv24.1 | exact hqv24.1.1 | exact TOK_p eσ25 (by decide) hK
        have hB : ZB σ25.1 := ZB.tr hOσ25 (by decide) hB
        try simp only [g7_σ14, g9_σ14, g10_σ14, g11_σ14, g12_σ14, g13_σ14, g20_σ14, g22_σ14, g23_σ14, g24_σ14, g25_σ14] at hqv24
        have g7_σ25 : σ25.1 218 7 = (σ0.1 218 7) := (hkv24.2.1).trans g7_σ14
        have g9_σ25 : σ25.1 218 9 = (σ0.1 218 9) := (hkv24.2.2.1).trans g9_σ14
        have g14_σ25 : σ25.1 218 14 = (σ14.1 218 14) := hkv24.2.2.2.1
        have g15_σ25 : σ25.1 218 15 = (σ14.1 218 15) := hkv24.2.2.2.2.1
        have g20_σ25 : σ25.1 218 20 = (σ0.1 218 20) := (hkv24.2.2.2.2.2.1).trans g20_σ14
        have g22_σ25 : σ25.1 218 22 = (σ0.1 218 22) := (hkv24.2.2.2.2.2.2.1).trans g22_σ14
        have g23_σ25 : σ25.1 218 23 = (σ0.1 218 23) := (hkv24.2.2.2.2.2.2.2.1).trans g23_σ14
        have g24_σ25 : σ25.1 218 24 = (σ0.1 218 24) := (hkv24.2.2.2.2.2.2.2.2.1).trans g24_σ14
        have g25_σ25 : σ25.1 218 25 = (σ0.1 218 25) := (hkv24.2.2.2.2.2.2.2.2.2).trans g25_σ14
        have m42 := hqv24.1.2
        have g42 := hqv24.2
        rw [J_X12_readsSet_53.eq_1]
        refine ok_gC rfl ?_
        refine ok_zbX (Q := fun V => (V = 0 → ¬ σ25.1 218 14 = 0) ∧ (¬ V = 0 → σ25.1 218 14 = 0)) (x_X12_good) (fun v26 hqv26 => ?_)
        have hqv26 : (v26 = 0 → ¬ σ25.1 218 14 = 0) ∧ (¬ v26 = 0 → σ25.1 218 14 = 0) := hqv26
        try simp only [g7_σ25, g9_σ25, g14_σ25, g15_σ25, g20_σ25, g22_σ25, g23_σ25, g24_σ25, g25_σ25, hT.2 224 (by decide)] at hqv26
        refine ok_if (fun hc28 => ?_) (fun hc28 => ?_)
        · have qhc28 := hqv26.1 hc28
          have n57 := qhc28
          have nm : ¬ mOK tx n i x1 := by first | exact fun q => q.elim (f13 n57).2 (fun q => absurd (k7.symm.trans q.1) (by decide)) | exact fun q => q.elim (fun q => absurd (k25.symm.trans q.1) (by decide)) (fun q => by rw [f30 n38] at q; exact absurd q.2 (by decide)) | exact fun q => q.elim (fun q => m7 q.1) (fun q => m25 q.1) | exact absurd y38 n57
          exact ok_some ⟨hT, (show (TOK σ25.1 ∧ (σ0.1 218 11).toInt ≤ (σ25.1 218 11).toInt ∧ (σ25.1 218 14 = 0 → ((σ0.1 218 11).toInt < (σ25.1 218 11).toInt ∧ mOK tx n i x1) ∧ RX σ25.1 tx n (tkE tx n i)) ∧ (¬ σ25.1 218 14 = 0 → ¬ mOK tx n i x1) ∧ ZB σ25.1) ∧ (σ25.1 218 7 = σ0.1 218 7 ∧ σ25.1 218 9 = σ0.1 218 9 ∧ σ25.1 218 20 = σ0.1 218 20 ∧ σ25.1 218 22 = σ0.1 218 22 ∧ σ25.1 218 23 = σ0.1 218 23 ∧ σ25.1 218 24 = σ0.1 218 24 ∧ σ25.1 218 25 = σ0.1 218 25) from ⟨by first | exact ⟨hK, by (try simp only [g7_σ25, g9_σ25, g14_σ25, g15_σ25, g20_σ25, g22_σ25, g23_σ25, g24_σ25, g25_σ25]); omega, fun q => absurd q (by (try simp only [g7_σ25, g9_σ25, g14_σ25, g15_σ25, g20_σ25, g22_σ25, g23_σ25, g24_σ25, g25_σ25]); exact n57), fun _ => nm, hB⟩ | exact ⟨hK, by (try simp only [g7_σ25, g9_σ25, g14_σ25, g15_σ25, g20_σ25, g22_σ25, g23_σ25, g24_σ25, g25_σ25]); omega, fun _ => ⟨⟨by (try simp only [g7_σ25, g9_σ25, g14_σ25, g15_σ25, g20_σ25, g22_σ25, g23_σ25, g24_σ25, g25_σ25]); exact ga, ym⟩, RX_i g9_σ25 rfl rfl rfl rfl ((hT.2 224 (by decide)).trans tE) nE pK9⟩, fun q => absurd (by (try simp only [g7_σ25, g9_σ25, g14_σ25, g15_σ25, g20_σ25, g22_σ25, g23_σ25, g24_σ25, g25_σ25]); exact y57) q, hB⟩, g7_σ25, g9_σ25, g20_σ25, g22_σ25, g23_σ25, g24_σ25, g25_σ25⟩)⟩
        · have qhc28 := hqv26.2 hc28
          have y57 := qhc28
          have ym : mOK tx n i x1 := by first | exact Or.inl (u13 y57).1.2 | exact Or.inr ⟨k25, by rw [u30 y38]; rfl⟩ | exact absurd y57 n50 | exact absurd y57 n38
          have pK9 : TKV (σ25.1 218 11) (σ25.1 218 10) (σ25.1 218 12) (σ25.1 218 13) tx n (tkE tx n i) := by first | exact (u13 y57).2.2.2 | exact g42.2 | exact absurd y57 n50 | exact absurd y57 n38
          have ga : (σ0.1 218 11).toInt < (σ25.1 218 11).toInt := by first | exact (u13 y57).1.1 | omega | exact absurd y57 n50 | exact absurd y57 n38
          refine ok_gR (v := 226) hT rfl (hR 218 16 rfl) ?_
          refine ok_gIv rfl g23_σ25 ?_
          refine ok_s16 hT rfl (by decide) (by rw [ti_add, m1]; first | omega | (simp only [Int32.reduceToInt]; omega)) (by rw [ti_add, m1]; first | omega | (simp only [Int32.reduceToInt]; omega)) (fun σ31 eσ31 hOσ31 hT => ?_)
          have hK : TOK σ31.1 := TOK_tr hOσ31 (by decide) (by decide) hK
          have hB : ZB σ31.1 := ZB_s eσ31 hB
          have g7_σ31 : σ31.1 218 7 = (σ0.1 218 7) := (congrFun (hOσ31.2 218 (by decide)) 7).trans g7_σ25
          have g9_σ31 : σ31.1 218 9 = (σ0.1 218 9) := (congrFun (hOσ31.2 218 (by decide)) 9).trans g9_σ25
          have g10_σ31 : σ31.1 218 10 = (σ25.1 218 10) := congrFun (hOσ31.2 218 (by decide)) 10
          have g11_σ31 : σ31.1 218 11 = (σ25.1 218 11) := congrFun (hOσ31.2 218 (by decide)) 11
          have g12_σ31 : σ31.1 218 12 = (σ25.1 218 12) := congrFun (hOσ31.2 218 (by decide)) 12
          have g13_σ31 : σ31.1 218 13 = (σ25.1 218 13) := congrFun (hOσ31.2 218 (by decide)) 13
          have g14_σ31 : σ31.1 218 14 = (σ14.1 218 14) := (congrFun (hOσ31.2 218 (by decide)) 14).trans g14_σ25
          have g15_σ31 : σ31.1 218 15 = (σ14.1 218 15) := (congrFun (hOσ31.2 218 (by decide)) 15).trans g15_σ25
          have g20_σ31 : σ31.1 218 20 = (σ0.1 218 20) := (congrFun (hOσ31.2 218 (by decide)) 20).trans g20_σ25
          have g22_σ31 : σ31.1 218 22 = (σ0.1 218 22) := (congrFun (hOσ31.2 218 (by decide)) 22).trans g22_σ25
          have g23_σ31 : σ31.1 218 23 = (σ0.1 218 23) := (congrFun (hOσ31.2 218 (by decide)) 23).trans g23_σ25
          have g24_σ31 : σ31.1 218 24 = (σ0.1 218 24) := (congrFun (hOσ31.2 218 (by decide)) 24).trans g24_σ25
          have g25_σ31 : σ31.1 218 25 = (σ0.1 218 25) := (congrFun (hOσ31.2 218 (by decide)) 25).trans g25_σ25
          exact ok_some ⟨hT, (show (TOK σ31.1 ∧ (σ0.1 218 11).toInt ≤ (σ31.1 218 11).toInt ∧ (σ31.1 218 14 = 0 → ((σ0.1 218 11).toInt < (σ31.1 218 11).toInt ∧ mOK tx n i x1) ∧ RX σ31.1 tx n (tkE tx n i)) ∧ (¬ σ31.1 218 14 = 0 → ¬ mOK tx n i x1) ∧ ZB σ31.1) ∧ (σ31.1 218 7 = σ0.1 218 7 ∧ σ31.1 218 9 = σ0.1 218 9 ∧ σ31.1 218 20 = σ0.1 218 20 ∧ σ31.1 218 22 = σ0.1 218 22 ∧ σ31.1 218 23 = σ0.1 218 23 ∧ σ31.1 218 24 = σ0.1 218 24 ∧ σ31.1 218 25 = σ0.1 218 25) from ⟨by first | exact ⟨hK, by (try simp only [g7_σ31, g9_σ31, g10_σ31, g11_σ31, g12_σ31, g13_σ31, g14_σ31, g15_σ31, g20_σ31, g22_σ31, g23_σ31, g24_σ31, g25_σ31]); omega, fun q => absurd q (by (try simp only [g7_σ31, g9_σ31, g10_σ31, g11_σ31, g12_σ31, g13_σ31, g14_σ31, g15_σ31, g20_σ31, g22_σ31, g23_σ31, g24_σ31, g25_σ31]); exact n57), fun _ => nm, hB⟩ | exact ⟨hK, by (try simp only [g7_σ31, g9_σ31, g10_σ31, g11_σ31, g12_σ31, g13_σ31, g14_σ31, g15_σ31, g20_σ31, g22_σ31, g23_σ31, g24_σ31, g25_σ31]); omega, fun _ => ⟨⟨by (try simp only [g7_σ31, g9_σ31, g10_σ31, g11_σ31, g12_σ31, g13_σ31, g14_σ31, g15_σ31, g20_σ31, g22_σ31, g23_σ31, g24_σ31, g25_σ31]); exact ga, ym⟩, RX_i g9_σ31 g10_σ31 g11_σ31 g12_σ31 g13_σ31 ((hT.2 224 (by decide)).trans tE) nE pK9⟩, fun q => absurd (by (try simp only [g7_σ31, g9_σ31, g10_σ31, g11_σ31, g12_σ31, g13_σ31, g14_σ31, g15_σ31, g20_σ31, g22_σ31, g23_σ31, g24_σ31, g25_σ31]); exact y57) q, hB⟩, g7_σ31, g9_σ31, g20_σ31, g22_σ31, g23_σ31, g24_σ31, g25_σ31⟩)⟩
    · have m25 : ¬ tkK tx n i = 1 := fun q => hc12 (pK.2.1.trans q)
      refine ok_gC rfl ?_
      refine ok_zbT (Q := fun V σ => (TOK σ.1 ∧ ¬ σ.1 218 14 = 0) ∧ (σ.1 218 7 = σ0.1 218 7 ∧ σ.1 218 9 = σ0.1 218 9 ∧ σ.1 218 10 = σ0.1 218 10 ∧ σ.1 218 11 = σ0.1 218 11 ∧ σ.1 218 12 = σ0.1 218 12 ∧ σ.1 218 13 = σ0.1 218 13 ∧ σ.1 218 20 = σ0.1 218 20 ∧ σ.1 218 22 = σ0.1 218 22 ∧ σ.1 218 23 = σ0.1 218 23 ∧ σ.1 218 24 = σ0.1 218 24 ∧ σ.1 218 25 = σ0.1 218 25)) hT (s_X12_errs hN (hR.tr hT) (hK) (by rw [hT.2 224 (by decide)]; exact hY) (by decide)) (by decide) (fun v32 σ33 hOσ33 hT hqv32 => ?_)
      have hqv32 : (TOK σ33.1 ∧ ¬ σ33.1 218 14 = 0) ∧ (σ33.1 218 7 = σ0.1 218 7 ∧ σ33.1 218 9 = σ0.1 218 9 ∧ σ33.1 218 10 = σ0.1 218 10 ∧ σ33.1 218 11 = σ0.1 218 11 ∧ σ33.1 218 12 = σ0.1 218 12 ∧ σ33.1 218 13 = σ0.1 218 13 ∧ σ33.1 218 20 = σ0.1 218 20 ∧ σ33.1 218 22 = σ0.1 218 22 ∧ σ33.1 218 23 = σ0.1 218 23 ∧ σ33.1 218 24 = σ0.1 218 24 ∧ σ33.1 218 25 = σ0.1 218 25) := hqv32
      have hkv32 := hqv32
      have hqv32 := hqv32.1
      have hK : TOK σ33.1 := by first | exact hqv32.1 | exact hqv32.1.1 | exact TOK_p eσ33 (by decide) hK
      have hB : ZB σ33.1 := ZB.tr hOσ33 (by decide) hB
      have g7_σ33 : σ33.1 218 7 = (σ0.1 218 7) := hkv32.2.1
      have g9_σ33 : σ33.1 218 9 = (σ0.1 218 9) := hkv32.2.2.1
      have g10_σ33 : σ33.1 218 10 = (σ0.1 218 10) := hkv32.2.2.2.1
      have g11_σ33 : σ33.1 218 11 = (σ0.1 218 11) := hkv32.2.2.2.2.1
      have g12_σ33 : σ33.1 218 12 = (σ0.1 218 12) := hkv32.2.2.2.2.2.1
      have g13_σ33 : σ33.1 218 13 = (σ0.1 218 13) := hkv32.2.2.2.2.2.2.1
      have g20_σ33 : σ33.1 218 20 = (σ0.1 218 20) := hkv32.2.2.2.2.2.2.2.1
      have g22_σ33 : σ33.1 218 22 = (σ0.1 218 22) := hkv32.2.2.2.2.2.2.2.2.1
      have g23_σ33 : σ33.1 218 23 = (σ0.1 218 23) := hkv32.2.2.2.2.2.2.2.2.2.1
      have g24_σ33 : σ33.1 218 24 = (σ0.1 218 24) := hkv32.2.2.2.2.2.2.2.2.2.2.1
      have g25_σ33 : σ33.1 218 25 = (σ0.1 218 25) := hkv32.2.2.2.2.2.2.2.2.2.2.2
      have n50 := hqv32.2
      rw [J_X12_readsSet_53.eq_1]
      refine ok_gC rfl ?_
      refine ok_zbX (Q := fun V => (V = 0 → ¬ σ33.1 218 14 = 0) ∧ (¬ V = 0 → σ33.1 218 14 = 0)) (x_X12_good) (fun v34 hqv34 => ?_)
      have hqv34 : (v34 = 0 → ¬ σ33.1 218 14 = 0) ∧ (¬ v34 = 0 → σ33.1 218 14 = 0) := hqv34
      try simp only [g7_σ33, g9_σ33, g10_σ33, g11_σ33, g12_σ33, g13_σ33, g20_σ33, g22_σ33, g23_σ33, g24_σ33, g25_σ33, hT.2 224 (by decide)] at hqv34
      refine ok_if (fun hc36 => ?_) (fun hc36 => ?_)
      · have qhc36 := hqv34.1 hc36
        have n57 := qhc36
        have nm : ¬ mOK tx n i x1 := by first | exact fun q => q.elim (f13 n57).2 (fun q => absurd (k7.symm.trans q.1) (by decide)) | exact fun q => q.elim (fun q => absurd (k25.symm.trans q.1) (by decide)) (fun q => by rw [f30 n38] at q; exact absurd q.2 (by decide)) | exact fun q => q.elim (fun q => m7 q.1) (fun q => m25 q.1) | exact absurd y38 n57
        exact ok_some ⟨hT, (show (TOK σ33.1 ∧ (σ0.1 218 11).toInt ≤ (σ33.1 218 11).toInt ∧ (σ33.1 218 14 = 0 → ((σ0.1 218 11).toInt < (σ33.1 218 11).toInt ∧ mOK tx n i x1) ∧ RX σ33.1 tx n (tkE tx n i)) ∧ (¬ σ33.1 218 14 = 0 → ¬ mOK tx n i x1) ∧ ZB σ33.1) ∧ (σ33.1 218 7 = σ0.1 218 7 ∧ σ33.1 218 9 = σ0.1 218 9 ∧ σ33.1 218 20 = σ0.1 218 20 ∧ σ33.1 218 22 = σ0.1 218 22 ∧ σ33.1 218 23 = σ0.1 218 23 ∧ σ33.1 218 24 = σ0.1 218 24 ∧ σ33.1 218 25 = σ0.1 218 25) from ⟨by first | exact ⟨hK, by (try simp only [g7_σ33, g9_σ33, g10_σ33, g11_σ33, g12_σ33, g13_σ33, g20_σ33, g22_σ33, g23_σ33, g24_σ33, g25_σ33]); omega, fun q => absurd q (by (try simp only [g7_σ33, g9_σ33, g10_σ33, g11_σ33, g12_σ33, g13_σ33, g20_σ33, g22_σ33, g23_σ33, g24_σ33, g25_σ33]); exact n57), fun _ => nm, hB⟩ | exact ⟨hK, by (try simp only [g7_σ33, g9_σ33, g10_σ33, g11_σ33, g12_σ33, g13_σ33, g20_σ33, g22_σ33, g23_σ33, g24_σ33, g25_σ33]); omega, fun _ => ⟨⟨by (try simp only [g7_σ33, g9_σ33, g10_σ33, g11_σ33, g12_σ33, g13_σ33, g20_σ33, g22_σ33, g23_σ33, g24_σ33, g25_σ33]); exact ga, ym⟩, RX_i g9_σ33 g10_σ33 g11_σ33 g12_σ33 g13_σ33 ((hT.2 224 (by decide)).trans tE) nE pK9⟩, fun q => absurd (by (try simp only [g7_σ33, g9_σ33, g10_σ33, g11_σ33, g12_σ33, g13_σ33, g20_σ33, g22_σ33, g23_σ33, g24_σ33, g25_σ33]); exact y57) q, hB⟩, g7_σ33, g9_σ33, g20_σ33, g22_σ33, g23_σ33, g24_σ33, g25_σ33⟩)⟩
      · have qhc36 := hqv34.2 hc36
        have y57 := qhc36
        have ym : mOK tx n i x1 := by first | exact Or.inl (u13 y57).1.2 | exact Or.inr ⟨k25, by rw [u30 y38]; rfl⟩ | exact absurd y57 n50 | exact absurd y57 n38
        have pK9 : TKV (σ0.1 218 11) (σ0.1 218 10) (σ0.1 218 12) (σ0.1 218 13) tx n (tkE tx n i) := by first | exact (u13 y57).2.2.2 | exact g42.2 | exact absurd y57 n50 | exact absurd y57 n38
        have ga : (σ0.1 218 11).toInt < (σ0.1 218 11).toInt := by first | exact (u13 y57).1.1 | omega | exact absurd y57 n50 | exact absurd y57 n38
        refine ok_gR (v := 226) hT rfl (hR 218 16 rfl) ?_
        refine ok_gIv rfl g23_σ33 ?_
        refine ok_s16 hT rfl (by decide) (by rw [ti_add, m1]; first | omega | (simp only [Int32.reduceToInt]; omega)) (by rw [ti_add, m1]; first | omega | (simp only [Int32.reduceToInt]; omega)) (fun σ39 eσ39 hOσ39 hT => ?_)
        have hK : TOK σ39.1 := TOK_tr hOσ39 (by decide) (by decide) hK
        have hB : ZB σ39.1 := ZB_s eσ39 hB
        have g7_σ39 : σ39.1 218 7 = (σ0.1 218 7) := (congrFun (hOσ39.2 218 (by decide)) 7).trans g7_σ33
        have g9_σ39 : σ39.1 218 9 = (σ0.1 218 9) := (congrFun (hOσ39.2 218 (by decide)) 9).trans g9_σ33
        have g10_σ39 : σ39.1 218 10 = (σ0.1 218 10) := (congrFun (hOσ39.2 218 (by decide)) 10).trans g10_σ33
        have g11_σ39 : σ39.1 218 11 = (σ0.1 218 11) := (congrFun (hOσ39.2 218 (by decide)) 11).trans g11_σ33
        have g12_σ39 : σ39.1 218 12 = (σ0.1 218 12) := (congrFun (hOσ39.2 218 (by decide)) 12).trans g12_σ33
        have g13_σ39 : σ39.1 218 13 = (σ0.1 218 13) := (congrFun (hOσ39.2 218 (by decide)) 13).trans g13_σ33
        have g14_σ39 : σ39.1 218 14 = (σ33.1 218 14) := congrFun (hOσ39.2 218 (by decide)) 14
        have g15_σ39 : σ39.1 218 15 = (σ33.1 218 15) := congrFun (hOσ39.2 218 (by decide)) 15
        have g20_σ39 : σ39.1 218 20 = (σ0.1 218 20) := (congrFun (hOσ39.2 218 (by decide)) 20).trans g20_σ33
        have g22_σ39 : σ39.1 218 22 = (σ0.1 218 22) := (congrFun (hOσ39.2 218 (by decide)) 22).trans g22_σ33
        have g23_σ39 : σ39.1 218 23 = (σ0.1 218 23) := (congrFun (hOσ39.2 218 (by decide)) 23).trans g23_σ33
        have g24_σ39 : σ39.1 218 24 = (σ0.1 218 24) := (congrFun (hOσ39.2 218 (by decide)) 24).trans g24_σ33
        have g25_σ39 : σ39.1 218 25 = (σ0.1 218 25) := (congrFun (hOσ39.2 218 (by decide)) 25).trans g25_σ33
        exact ok_some ⟨hT, (show (TOK σ39.1 ∧ (σ0.1 218 11).toInt ≤ (σ39.1 218 11).toInt ∧ (σ39.1 218 14 = 0 → ((σ0.1 218 11).toInt < (σ39.1 218 11).toInt ∧ mOK tx n i x1) ∧ RX σ39.1 tx n (tkE tx n i)) ∧ (¬ σ39.1 218 14 = 0 → ¬ mOK tx n i x1) ∧ ZB σ39.1) ∧ (σ39.1 218 7 = σ0.1 218 7 ∧ σ39.1 218 9 = σ0.1 218 9 ∧ σ39.1 218 20 = σ0.1 218 20 ∧ σ39.1 218 22 = σ0.1 218 22 ∧ σ39.1 218 23 = σ0.1 218 23 ∧ σ39.1 218 24 = σ0.1 218 24 ∧ σ39.1 218 25 = σ0.1 218 25) from ⟨by first | exact ⟨hK, by (try simp only [g7_σ39, g9_σ39, g10_σ39, g11_σ39, g12_σ39, g13_σ39, g14_σ39, g15_σ39, g20_σ39, g22_σ39, g23_σ39, g24_σ39, g25_σ39]); omega, fun q => absurd q (by (try simp only [g7_σ39, g9_σ39, g10_σ39, g11_σ39, g12_σ39, g13_σ39, g14_σ39, g15_σ39, g20_σ39, g22_σ39, g23_σ39, g24_σ39, g25_σ39]); exact n57), fun _ => nm, hB⟩ | exact ⟨hK, by (try simp only [g7_σ39, g9_σ39, g10_σ39, g11_σ39, g12_σ39, g13_σ39, g14_σ39, g15_σ39, g20_σ39, g22_σ39, g23_σ39, g24_σ39, g25_σ39]); omega, fun _ => ⟨⟨by (try simp only [g7_σ39, g9_σ39, g10_σ39, g11_σ39, g12_σ39, g13_σ39, g14_σ39, g15_σ39, g20_σ39, g22_σ39, g23_σ39, g24_σ39, g25_σ39]); exact ga, ym⟩, RX_i g9_σ39 g10_σ39 g11_σ39 g12_σ39 g13_σ39 ((hT.2 224 (by decide)).trans tE) nE pK9⟩, fun q => absurd (by (try simp only [g7_σ39, g9_σ39, g10_σ39, g11_σ39, g12_σ39, g13_σ39, g14_σ39, g15_σ39, g20_σ39, g22_σ39, g23_σ39, g24_σ39, g25_σ39]); exact y57) q, hB⟩, g7_σ39, g9_σ39, g20_σ39, g22_σ39, g23_σ39, g24_σ39, g25_σ39⟩)⟩

set_option maxHeartbeats 4000000 in
set_option maxRecDepth 100000 in
theorem s_X12_needsSign_r {N : Nat} (hN : 1048576 ≤ N) {x1 : Int32} {σ0 : zS} {tx : Nat → Int32} {n i : Nat} (hR : RF σ0.2.2) (hK : TOK σ0.1) (hY : BYT (σ0.1 224)) (hGc : σ0.1 218 14 = 0 → RX σ0.1 tx n i) (hs1 : ¬ x1 = 0) : Ok (f_X12_needsSign N 218 x1 σ0) (fun r => Tr [218] σ0 r.2 ∧ ((TOK r.2.1 ∧ (σ0.1 218 11).toInt ≤ (r.2.1 218 11).toInt ∧ (r.2.1 218 14 = 0 → (σ0.1 218 14 = 0 ∧ (σ0.1 218 11).toInt < (r.2.1 218 11).toInt) ∧ tkK tx n i = x1 ∧ RX r.2.1 tx n (tkE tx n i)) ∧ (¬ r.2.1 218 14 = 0 → σ0.1 218 14 = 0 → ¬ tkK tx n i = x1)) ∧ (r.2.1 218 7 = σ0.1 218 7 ∧ r.2.1 218 9 = σ0.1 218 9 ∧ r.2.1 218 20 = σ0.1 218 20 ∧ r.2.1 218 22 = σ0.1 218 22 ∧ r.2.1 218 23 = σ0.1 218 23 ∧ r.2.1 218 24 = σ0.1 218 24 ∧ r.2.1 218 25 = σ0.1 218 25))) := by
  have hT : Tr [218] σ0 σ0 := Tr.rf
  have hK1 := hK.1
  rw [f_X12_needsSign.eq_1]
  refine ok_gC rfl ?_
  refine ok_zbX (Q := fun V => (V = 0 → ¬ σ0.1 218 14 = 0) ∧ (¬ V = 0 → σ0.1 218 14 = 0)) (x_X12_good) (fun v1 hqv1 => ?_)
  have hqv1 : (v1 = 0 → ¬ σ0.1 218 14 = 0) ∧ (¬ v1 = 0 → σ0.1 218 14 = 0) := hqv1
  refine ok_if (fun hc3 => ?_) (fun hc3 => ?_)
  · have qhc3 := hqv1.1 hc3
    have n4 := qhc3
    rw [J_X12_needsSign_20.eq_1]
    refine ok_gC rfl ?_
    refine ok_zbX (Q := fun V => (V = 0 → ¬ σ0.1 218 14 = 0) ∧ (¬ V = 0 → σ0.1 218 14 = 0)) (x_X12_good) (fun v4 hqv4 => ?_)
    have hqv4 : (v4 = 0 → ¬ σ0.1 218 14 = 0) ∧ (¬ v4 = 0 → σ0.1 218 14 = 0) := hqv4
    refine ok_if (fun hc6 => ?_) (fun hc6 => ?_)
    · have qhc6 := hqv4.1 hc6
      have n24 := qhc6
      exact ok_some ⟨hT, (show (TOK σ0.1 ∧ (σ0.1 218 11).toInt ≤ (σ0.1 218 11).toInt ∧ (σ0.1 218 14 = 0 → (σ0.1 218 14 = 0 ∧ (σ0.1 218 11).toInt < (σ0.1 218 11).toInt) ∧ tkK tx n i = x1 ∧ RX σ0.1 tx n (tkE tx n i)) ∧ (¬ σ0.1 218 14 = 0 → σ0.1 218 14 = 0 → ¬ tkK tx n i = x1)) ∧ (σ0.1 218 7 = σ0.1 218 7 ∧ σ0.1 218 9 = σ0.1 218 9 ∧ σ0.1 218 20 = σ0.1 218 20 ∧ σ0.1 218 22 = σ0.1 218 22 ∧ σ0.1 218 23 = σ0.1 218 23 ∧ σ0.1 218 24 = σ0.1 218 24 ∧ σ0.1 218 25 = σ0.1 218 25) from ⟨by first | exact ⟨hK, by skip; omega, fun q => absurd q (by skip; exact n24), fun _ q => absurd q n4⟩ | exact ⟨hK, by skip; omega, fun q => absurd q (by skip; exact n24), fun _ _ => m12⟩ | exact ⟨hK, by skip; omega, fun _ => ⟨⟨y4, by skip; omega⟩, k12, g28⟩, fun q => absurd (by skip; exact y24) q⟩ | exact absurd y4 n24 | exact absurd y24 n4 | exact absurd y24 n17, rfl, rfl, rfl, rfl, rfl, rfl, rfl⟩)⟩
    · have qhc6 := hqv4.2 hc6
      have y24 := qhc6
      refine ok_gC rfl ?_
      refine ok_zbT (Q := fun V σ => ((TOK σ.1 ∧ (σ0.1 218 10).toInt ≤ (σ.1 218 11).toInt) ∧ RX σ.1 tx n (tkE tx n i)) ∧ (σ.1 218 7 = σ0.1 218 7 ∧ σ.1 218 9 = σ0.1 218 9 ∧ σ.1 218 14 = σ0.1 218 14 ∧ σ.1 218 15 = σ0.1 218 15 ∧ σ.1 218 20 = σ0.1 218 20 ∧ σ.1 218 22 = σ0.1 218 22 ∧ σ.1 218 23 = σ0.1 218 23 ∧ σ.1 218 24 = σ0.1 218 24 ∧ σ.1 218 25 = σ0.1 218 25)) hT (s_X12_advance_r hN (hR.tr hT) (TOK_A hK) (by rw [hT.2 224 (by decide)]; exact hY) (by first | exact RX_i rfl rfl rfl rfl rfl ((hT.2 224 (by decide)).trans tE) nE pK | exact absurd y24 n4 | exact absurd y24 n17)) (by decide) (fun v7 σ8 hOσ8 hT hqv7 => ?_)
      have hqv7 : ((TOK σ8.1 ∧ (σ0.1 218 10).toInt ≤ (σ8.1 218 11).toInt) ∧ RX σ8.1 tx n (tkE tx n i)) ∧ (σ8.1 218 7 = σ0.1 218 7 ∧ σ8.1 218 9 = σ0.1 218 9 ∧ σ8.1 218 14 = σ0.1 218 14 ∧ σ8.1 218 15 = σ0.1 218 15 ∧ σ8.1 218 20 = σ0.1 218 20 ∧ σ8.1 218 22 = σ0.1 218 22 ∧ σ8.1 218 23 = σ0.1 218 23 ∧ σ8.1 218 24 = σ0.1 218 24 ∧ σ8.1 218 25 = σ0.1 218 25) := hqv7
      have hkv7 := hqv7
      have hqv7 := hqv7.1
      have hK : TOK σ8.1 := by first | exact hqv7.1 | exact hqv7.1.1 | exact TOK_p eσ8 (by decide) hK
      have g7_σ8 : σ8.1 218 7 = (σ0.1 218 7) := hkv7.2.1
      have g9_σ8 : σ8.1 218 9 = (σ0.1 218 9) := hkv7.2.2.1
      have g14_σ8 : σ8.1 218 14 = (σ0.1 218 14) := hkv7.2.2.2.1
      have g15_σ8 : σ8.1 218 15 = (σ0.1 218 15) := hkv7.2.2.2.2.1
      have g20_σ8 : σ8.1 218 20 = (σ0.1 218 20) := hkv7.2.2.2.2.2.1
      have g22_σ8 : σ8.1 218 22 = (σ0.1 218 22) := hkv7.2.2.2.2.2.2.1
      have g23_σ8 : σ8.1 218 23 = (σ0.1 218 23) := hkv7.2.2.2.2.2.2.2.1
      have g24_σ8 : σ8.1 218 24 = (σ0.1 218 24) := hkv7.2.2.2.2.2.2.2.2.1
      have g25_σ8 : σ8.1 218 25 = (σ0.1 218 25) := hkv7.2.2.2.2.2.2.2.2.2
      have m28 := hqv7.1.2
      have g28 := hqv7.2
      exact ok_some ⟨hT, (show (TOK σ8.1 ∧ (σ0.1 218 11).toInt ≤ (σ8.1 218 11).toInt ∧ (σ8.1 218 14 = 0 → (σ0.1 218 14 = 0 ∧ (σ0.1 218 11).toInt < (σ8.1 218 11).toInt) ∧ tkK tx n i = x1 ∧ RX σ8.1 tx n (tkE tx n i)) ∧ (¬ σ8.1 218 14 = 0 → σ0.1 218 14 = 0 → ¬ tkK tx n i = x1)) ∧ (σ8.1 218 7 = σ0.1 218 7 ∧ σ8.1 218 9 = σ0.1 218 9 ∧ σ8.1 218 20 = σ0.1 218 20 ∧ σ8.1 218 22 = σ0.1 218 22 ∧ σ8.1 218 23 = σ0.1 218 23 ∧ σ8.1 218 24 = σ0.1 218 24 ∧ σ8.1 218 25 = σ0.1 218 25) from ⟨by first | exact ⟨hK, by (try simp only [g7_σ8, g9_σ8, g14_σ8, g15_σ8, g20_σ8, g22_σ8, g23_σ8, g24_σ8, g25_σ8]); omega, fun q => absurd q (by (try simp only [g7_σ8, g9_σ8, g14_σ8, g15_σ8, g20_σ8, g22_σ8, g23_σ8, g24_σ8, g25_σ8]); exact n24), fun _ q => absurd q n4⟩ | exact ⟨hK, by (try simp only [g7_σ8, g9_σ8, g14_σ8, g15_σ8, g20_σ8, g22_σ8, g23_σ8, g24_σ8, g25_σ8]); omega, fun q => absurd q (by (try simp only [g7_σ8, g9_σ8, g14_σ8, g15_σ8, g20_σ8, g22_σ8, g23_σ8, g24_σ8, g25_σ8]); exact n24), fun _ _ => m12⟩ | exact ⟨hK, by (try simp only [g7_σ8, g9_σ8, g14_σ8, g15_σ8, g20_σ8, g22_σ8, g23_σ8, g24_σ8, g25_σ8]); omega, fun _ => ⟨⟨y4, by (try simp only [g7_σ8, g9_σ8, g14_σ8, g15_σ8, g20_σ8, g22_σ8, g23_σ8, g24_σ8, g25_σ8]); omega⟩, k12, g28⟩, fun q => absurd (by (try simp only [g7_σ8, g9_σ8, g14_σ8, g15_σ8, g20_σ8, g22_σ8, g23_σ8, g24_σ8, g25_σ8]); exact y24) q⟩ | exact absurd y4 n24 | exact absurd y24 n4 | exact absurd y24 n17, g7_σ8, g9_σ8, g20_σ8, g22_σ8, g23_σ8, g24_σ8, g25_σ8⟩)⟩
  · have qhc3 := hqv1.2 hc3
    have y4 := qhc3
    have hG := hGc qhc3
    have tE : σ0.1 224 = tx := hG.1.1
    have nE : (σ0.1 218 9).toInt.toNat = n := hG.1.2
    have pK : TKV (σ0.1 218 11) (σ0.1 218 10) (σ0.1 218 12) (σ0.1 218 13) tx n i := hG.2
    refine ok_gI rfl ?_
    refine ok_if (fun hc10 => ?_) (fun hc10 => ?_)
    · have l12 := hK.2.1 (by rw [hc10]; exact hs1)
      have k12 : tkK tx n i = x1 := pK.2.1.symm.trans hc10
      rw [J_X12_needsSign_20.eq_1]
      refine ok_gC rfl ?_
      refine ok_zbX (Q := fun V => (V = 0 → ¬ σ0.1 218 14 = 0) ∧ (¬ V = 0 → σ0.1 218 14 = 0)) (x_X12_good) (fun v11 hqv11 => ?_)
      have hqv11 : (v11 = 0 → ¬ σ0.1 218 14 = 0) ∧ (¬ v11 = 0 → σ0.1 218 14 = 0) := hqv11
      refine ok_if (fun hc13 => ?_) (fun hc13 => ?_)
      · have qhc13 := hqv11.1 hc13
        have n24 := qhc13
        exact ok_some ⟨hT, (show (TOK σ0.1 ∧ (σ0.1 218 11).toInt ≤ (σ0.1 218 11).toInt ∧ (σ0.1 218 14 = 0 → (σ0.1 218 14 = 0 ∧ (σ0.1 218 11).toInt < (σ0.1 218 11).toInt) ∧ tkK tx n i = x1 ∧ RX σ0.1 tx n (tkE tx n i)) ∧ (¬ σ0.1 218 14 = 0 → σ0.1 218 14 = 0 → ¬ tkK tx n i = x1)) ∧ (σ0.1 218 7 = σ0.1 218 7 ∧ σ0.1 218 9 = σ0.1 218 9 ∧ σ0.1 218 20 = σ0.1 218 20 ∧ σ0.1 218 22 = σ0.1 218 22 ∧ σ0.1 218 23 = σ0.1 218 23 ∧ σ0.1 218 24 = σ0.1 218 24 ∧ σ0.1 218 25 = σ0.1 218 25) from ⟨by first | exact ⟨hK, by skip; omega, fun q => absurd q (by skip; exact n24), fun _ q => absurd q n4⟩ | exact ⟨hK, by skip; omega, fun q => absurd q (by skip; exact n24), fun _ _ => m12⟩ | exact ⟨hK, by skip; omega, fun _ => ⟨⟨y4, by skip; omega⟩, k12, g28⟩, fun q => absurd (by skip; exact y24) q⟩ | exact absurd y4 n24 | exact absurd y24 n4 | exact absurd y24 n17, rfl, rfl, rfl, rfl, rfl, rfl, rfl⟩)⟩
      · have qhc13 := hqv11.2 hc13
        have y24 := qhc13
        refine ok_gC rfl ?_
        refine ok_zbT (Q := fun V σ => ((TOK σ.1 ∧ (σ0.1 218 10).toInt ≤ (σ.1 218 11).toInt) ∧ RX σ.1 tx n (tkE tx n i)) ∧ (σ.1 218 7 = σ0.1 218 7 ∧ σ.1 218 9 = σ0.1 218 9 ∧ σ.1 218 14 = σ0.1 218 14 ∧ σ.1 218 15 = σ0.1 218 15 ∧ σ.1 218 20 = σ0.1 218 20 ∧ σ.1 218 22 = σ0.1 218 22 ∧ σ.1 218 23 = σ0.1 218 23 ∧ σ.1 218 24 = σ0.1 218 24 ∧ σ.1 218 25 = σ0.1 218 25)) hT (s_X12_advance_r hN (hR.tr hT) (TOK_A hK) (by rw [hT.2 224 (by decide)]; exact hY) (by first | exact RX_i rfl rfl rfl rfl rfl ((hT.2 224 (by decide)).trans tE) nE pK | exact absurd y24 n4 | exact absurd y24 n17)) (by decide) (fun v14 σ15 hOσ15 hT hqv14 => ?_)
        have hqv14 : ((TOK σ15.1 ∧ (σ0.1 218 10).toInt ≤ (σ15.1 218 11).toInt) ∧ RX σ15.1 tx n (tkE tx n i)) ∧ (σ15.1 218 7 = σ0.1 218 7 ∧ σ15.1 218 9 = σ0.1 218 9 ∧ σ15.1 218 14 = σ0.1 218 14 ∧ σ15.1 218 15 = σ0.1 218 15 ∧ σ15.1 218 20 = σ0.1 218 20 ∧ σ15.1 218 22 = σ0.1 218 22 ∧ σ15.1 218 23 = σ0.1 218 23 ∧ σ15.1 218 24 = σ0.1 218 24 ∧ σ15.1 218 25 = σ0.1 218 25) := hqv14
        have hkv14 := hqv14
        have hqv14 := hqv14.1
        have hK : TOK σ15.1 := by first | exact hqv14.1 | exact hqv14.1.1 | exact TOK_p eσ15 (by decide) hK
        have g7_σ15 : σ15.1 218 7 = (σ0.1 218 7) := hkv14.2.1
        have g9_σ15 : σ15.1 218 9 = (σ0.1 218 9) := hkv14.2.2.1
        have g14_σ15 : σ15.1 218 14 = (σ0.1 218 14) := hkv14.2.2.2.1
        have g15_σ15 : σ15.1 218 15 = (σ0.1 218 15) := hkv14.2.2.2.2.1
        have g20_σ15 : σ15.1 218 20 = (σ0.1 218 20) := hkv14.2.2.2.2.2.1
        have g22_σ15 : σ15.1 218 22 = (σ0.1 218 22) := hkv14.2.2.2.2.2.2.1
        have g23_σ15 : σ15.1 218 23 = (σ0.1 218 23) := hkv14.2.2.2.2.2.2.2.1
        have g24_σ15 : σ15.1 218 24 = (σ0.1 218 24) := hkv14.2.2.2.2.2.2.2.2.1
        have g25_σ15 : σ15.1 218 25 = (σ0.1 218 25) := hkv14.2.2.2.2.2.2.2.2.2
        have m28 := hqv14.1.2
        have g28 := hqv14.2
        exact ok_some ⟨hT, (show (TOK σ15.1 ∧ (σ0.1 218 11).toInt ≤ (σ15.1 218 11).toInt ∧ (σ15.1 218 14 = 0 → (σ0.1 218 14 = 0 ∧ (σ0.1 218 11).toInt < (σ15.1 218 11).toInt) ∧ tkK tx n i = x1 ∧ RX σ15.1 tx n (tkE tx n i)) ∧ (¬ σ15.1 218 14 = 0 → σ0.1 218 14 = 0 → ¬ tkK tx n i = x1)) ∧ (σ15.1 218 7 = σ0.1 218 7 ∧ σ15.1 218 9 = σ0.1 218 9 ∧ σ15.1 218 20 = σ0.1 218 20 ∧ σ15.1 218 22 = σ0.1 218 22 ∧ σ15.1 218 23 = σ0.1 218 23 ∧ σ15.1 218 24 = σ0.1 218 24 ∧ σ15.1 218 25 = σ0.1 218 25) from ⟨by first | exact ⟨hK, by (try simp only [g7_σ15, g9_σ15, g14_σ15, g15_σ15, g20_σ15, g22_σ15, g23_σ15, g24_σ15, g25_σ15]); omega, fun q => absurd q (by (try simp only [g7_σ15, g9_σ15, g14_σ15, g15_σ15, g20_σ15, g22_σ15, g23_σ15, g24_σ15, g25_σ15]); exact n24), fun _ q => absurd q n4⟩ | exact ⟨hK, by (try simp only [g7_σ15, g9_σ15, g14_σ15, g15_σ15, g20_σ15, g22_σ15, g23_σ15, g24_σ15, g25_σ15]); omega, fun q => absurd q (by (try simp only [g7_σ15, g9_σ15, g14_σ15, g15_σ15, g20_σ15, g22_σ15, g23_σ15, g24_σ15, g25_σ15]); exact n24), fun _ _ => m12⟩ | exact ⟨hK, by (try simp only [g7_σ15, g9_σ15, g14_σ15, g15_σ15, g20_σ15, g22_σ15, g23_σ15, g24_σ15, g25_σ15]); omega, fun _ => ⟨⟨y4, by (try simp only [g7_σ15, g9_σ15, g14_σ15, g15_σ15, g20_σ15, g22_σ15, g23_σ15, g24_σ15, g25_σ15]); omega⟩, k12, g28⟩, fun q => absurd (by (try simp only [g7_σ15, g9_σ15, g14_σ15, g15_σ15, g20_σ15, g22_σ15, g23_σ15, g24_σ15, g25_σ15]); exact y24) q⟩ | exact absurd y4 n24 | exact absurd y24 n4 | exact absurd y24 n17, g7_σ15, g9_σ15, g20_σ15, g22_σ15, g23_σ15, g24_σ15, g25_σ15⟩)⟩
    · have m12 : ¬ tkK tx n i = x1 := fun q => hc10 (pK.2.1.trans q)
      refine ok_gC rfl ?_
      refine ok_zbT (Q := fun V σ => (TOK σ.1 ∧ ¬ σ.1 218 14 = 0) ∧ (σ.1 218 7 = σ0.1 218 7 ∧ σ.1 218 9 = σ0.1 218 9 ∧ σ.1 218 10 = σ0.1 218 10 ∧ σ.1 218 11 = σ0.1 218 11 ∧ σ.1 218 12 = σ0.1 218 12 ∧ σ.1 218 13 = σ0.1 218 13 ∧ σ.1 218 20 = σ0.1 218 20 ∧ σ.1 218 22 = σ0.1 218 22 ∧ σ.1 218 23 = σ0.1 218 23 ∧ σ.1 218 24 = σ0.1 218 24 ∧ σ.1 218 25 = σ0.1 218 25)) hT (s_X12_errs hN (hR.tr hT) (hK) (by rw [hT.2 224 (by decide)]; exact hY) (by decide)) (by decide) (fun v16 σ17 hOσ17 hT hqv16 => ?_)
      have hqv16 : (TOK σ17.1 ∧ ¬ σ17.1 218 14 = 0) ∧ (σ17.1 218 7 = σ0.1 218 7 ∧ σ17.1 218 9 = σ0.1 218 9 ∧ σ17.1 218 10 = σ0.1 218 10 ∧ σ17.1 218 11 = σ0.1 218 11 ∧ σ17.1 218 12 = σ0.1 218 12 ∧ σ17.1 218 13 = σ0.1 218 13 ∧ σ17.1 218 20 = σ0.1 218 20 ∧ σ17.1 218 22 = σ0.1 218 22 ∧ σ17.1 218 23 = σ0.1 218 23 ∧ σ17.1 218 24 = σ0.1 218 24 ∧ σ17.1 218 25 = σ0.1 218 25) := hqv16
      have hkv16 := hqv16
      have hqv16 := hqv16.1
      have hK : TOK σ17.1 := by first | exact hqv16.1 | exact hqv16.1.1 | exact TOK_p eσ17 (by decide) hK
      have g7_σ17 : σ17.1 218 7 = (σ0.1 218 7) := hkv16.2.1
      have g9_σ17 : σ17.1 218 9 = (σ0.1 218 9) := hkv16.2.2.1
      have g10_σ17 : σ17.1 218 10 = (σ0.1 218 10) := hkv16.2.2.2.1
      have g11_σ17 : σ17.1 218 11 = (σ0.1 218 11) := hkv16.2.2.2.2.1
      have g12_σ17 : σ17.1 218 12 = (σ0.1 218 12) := hkv16.2.2.2.2.2.1
      have g13_σ17 : σ17.1 218 13 = (σ0.1 218 13) := hkv16.2.2.2.2.2.2.1
      have g20_σ17 : σ17.1 218 20 = (σ0.1 218 20) := hkv16.2.2.2.2.2.2.2.1
      have g22_σ17 : σ17.1 218 22 = (σ0.1 218 22) := hkv16.2.2.2.2.2.2.2.2.1
      have g23_σ17 : σ17.1 218 23 = (σ0.1 218 23) := hkv16.2.2.2.2.2.2.2.2.2.1
      have g24_σ17 : σ17.1 218 24 = (σ0.1 218 24) := hkv16.2.2.2.2.2.2.2.2.2.2.1
      have g25_σ17 : σ17.1 218 25 = (σ0.1 218 25) := hkv16.2.2.2.2.2.2.2.2.2.2.2
      have n17 := hqv16.2
      rw [J_X12_needsSign_20.eq_1]
      refine ok_gC rfl ?_
      refine ok_zbX (Q := fun V => (V = 0 → ¬ σ17.1 218 14 = 0) ∧ (¬ V = 0 → σ17.1 218 14 = 0)) (x_X12_good) (fun v18 hqv18 => ?_)
      have hqv18 : (v18 = 0 → ¬ σ17.1 218 14 = 0) ∧ (¬ v18 = 0 → σ17.1 218 14 = 0) := hqv18
      try simp only [g7_σ17, g9_σ17, g10_σ17, g11_σ17, g12_σ17, g13_σ17, g20_σ17, g22_σ17, g23_σ17, g24_σ17, g25_σ17, hT.2 224 (by decide)] at hqv18
      refine ok_if (fun hc20 => ?_) (fun hc20 => ?_)
      · have qhc20 := hqv18.1 hc20
        have n24 := qhc20
        exact ok_some ⟨hT, (show (TOK σ17.1 ∧ (σ0.1 218 11).toInt ≤ (σ17.1 218 11).toInt ∧ (σ17.1 218 14 = 0 → (σ0.1 218 14 = 0 ∧ (σ0.1 218 11).toInt < (σ17.1 218 11).toInt) ∧ tkK tx n i = x1 ∧ RX σ17.1 tx n (tkE tx n i)) ∧ (¬ σ17.1 218 14 = 0 → σ0.1 218 14 = 0 → ¬ tkK tx n i = x1)) ∧ (σ17.1 218 7 = σ0.1 218 7 ∧ σ17.1 218 9 = σ0.1 218 9 ∧ σ17.1 218 20 = σ0.1 218 20 ∧ σ17.1 218 22 = σ0.1 218 22 ∧ σ17.1 218 23 = σ0.1 218 23 ∧ σ17.1 218 24 = σ0.1 218 24 ∧ σ17.1 218 25 = σ0.1 218 25) from ⟨by first | exact ⟨hK, by (try simp only [g7_σ17, g9_σ17, g10_σ17, g11_σ17, g12_σ17, g13_σ17, g20_σ17, g22_σ17, g23_σ17, g24_σ17, g25_σ17]); omega, fun q => absurd q (by (try simp only [g7_σ17, g9_σ17, g10_σ17, g11_σ17, g12_σ17, g13_σ17, g20_σ17, g22_σ17, g23_σ17, g24_σ17, g25_σ17]); exact n24), fun _ q => absurd q n4⟩ | exact ⟨hK, by (try simp only [g7_σ17, g9_σ17, g10_σ17, g11_σ17, g12_σ17, g13_σ17, g20_σ17, g22_σ17, g23_σ17, g24_σ17, g25_σ17]); omega, fun q => absurd q (by (try simp only [g7_σ17, g9_σ17, g10_σ17, g11_σ17, g12_σ17, g13_σ17, g20_σ17, g22_σ17, g23_σ17, g24_σ17, g25_σ17]); exact n24), fun _ _ => m12⟩ | exact ⟨hK, by (try simp only [g7_σ17, g9_σ17, g10_σ17, g11_σ17, g12_σ17, g13_σ17, g20_σ17, g22_σ17, g23_σ17, g24_σ17, g25_σ17]); omega, fun _ => ⟨⟨y4, by (try simp only [g7_σ17, g9_σ17, g10_σ17, g11_σ17, g12_σ17, g13_σ17, g20_σ17, g22_σ17, g23_σ17, g24_σ17, g25_σ17]); omega⟩, k12, g28⟩, fun q => absurd (by (try simp only [g7_σ17, g9_σ17, g10_σ17, g11_σ17, g12_σ17, g13_σ17, g20_σ17, g22_σ17, g23_σ17, g24_σ17, g25_σ17]); exact y24) q⟩ | exact absurd y4 n24 | exact absurd y24 n4 | exact absurd y24 n17, g7_σ17, g9_σ17, g20_σ17, g22_σ17, g23_σ17, g24_σ17, g25_σ17⟩)⟩
      · have qhc20 := hqv18.2 hc20
        have y24 := qhc20
        refine ok_gC rfl ?_
        refine ok_zbT (Q := fun V σ => ((TOK σ.1 ∧ (σ17.1 218 10).toInt ≤ (σ.1 218 11).toInt) ∧ RX σ.1 tx n (tkE tx n i)) ∧ (σ.1 218 7 = σ17.1 218 7 ∧ σ.1 218 9 = σ17.1 218 9 ∧ σ.1 218 14 = σ17.1 218 14 ∧ σ.1 218 15 = σ17.1 218 15 ∧ σ.1 218 20 = σ17.1 218 20 ∧ σ.1 218 22 = σ17.1 218 22 ∧ σ.1 218 23 = σ17.1 218 23 ∧ σ.1 218 24 = σ17.1 218 24 ∧ σ.1 218 25 = σ17.1 218 25)) hT (s_X12_advance_r hN (hR.tr hT) (TOK_A hK) (by rw [hT.2 224 (by decide)]; exact hY) (by first | exact RX_i g9_σ17 g10_σ17 g11_σ17 g12_σ17 g13_σ17 ((hT.2 224 (by decide)).trans tE) nE pK | exact absurd y24 n4 | exact absurd y24 n17)) (by decide) (fun v21 σ22 hOσ22 hT hqv21 => ?_)
        have hqv21 : ((TOK σ22.1 ∧ (σ17.1 218 10).toInt ≤ (σ22.1 218 11).toInt) ∧ RX σ22.1 tx n (tkE tx n i)) ∧ (σ22.1 218 7 = σ17.1 218 7 ∧ σ22.1 218 9 = σ17.1 218 9 ∧ σ22.1 218 14 = σ17.1 218 14 ∧ σ22.1 218 15 = σ17.1 218 15 ∧ σ22.1 218 20 = σ17.1 218 20 ∧ σ22.1 218 22 = σ17.1 218 22 ∧ σ22.1 218 23 = σ17.1 218 23 ∧ σ22.1 218 24 = σ17.1 218 24 ∧ σ22.1 218 25 = σ17.1 218 25) := hqv21
        have hkv21 := hqv21
        have hqv21 := hqv21.1
        have hK : TOK σ22.1 := by first | exact hqv21.1 | exact hqv21.1.1 | exact TOK_p eσ22 (by decide) hK
        try simp only [g7_σ17, g9_σ17, g10_σ17, g11_σ17, g12_σ17, g13_σ17, g20_σ17, g22_σ17, g23_σ17, g24_σ17, g25_σ17] at hqv21
        have g7_σ22 : σ22.1 218 7 = (σ0.1 218 7) := (hkv21.2.1).trans g7_σ17
        have g9_σ22 : σ22.1 218 9 = (σ0.1 218 9) := (hkv21.2.2.1).trans g9_σ17
        have g14_σ22 : σ22.1 218 14 = (σ17.1 218 14) := hkv21.2.2.2.1
        have g15_σ22 : σ22.1 218 15 = (σ17.1 218 15) := hkv21.2.2.2.2.1
        have g20_σ22 : σ22.1 218 20 = (σ0.1 218 20) := (hkv21.2.2.2.2.2.1).trans g20_σ17
        have g22_σ22 : σ22.1 218 22 = (σ0.1 218 22) := (hkv21.2.2.2.2.2.2.1).trans g22_σ17
        have g23_σ22 : σ22.1 218 23 = (σ0.1 218 23) := (hkv21.2.2.2.2.2.2.2.1).trans g23_σ17
        have g24_σ22 : σ22.1 218 24 = (σ0.1 218 24) := (hkv21.2.2.2.2.2.2.2.2.1).trans g24_σ17
        have g25_σ22 : σ22.1 218 25 = (σ0.1 218 25) := (hkv21.2.2.2.2.2.2.2.2.2).trans g25_σ17
        have m28 := hqv21.1.2
        have g28 := hqv21.2
        exact ok_some ⟨hT, (show (TOK σ22.1 ∧ (σ0.1 218 11).toInt ≤ (σ22.1 218 11).toInt ∧ (σ22.1 218 14 = 0 → (σ0.1 218 14 = 0 ∧ (σ0.1 218 11).toInt < (σ22.1 218 11).toInt) ∧ tkK tx n i = x1 ∧ RX σ22.1 tx n (tkE tx n i)) ∧ (¬ σ22.1 218 14 = 0 → σ0.1 218 14 = 0 → ¬ tkK tx n i = x1)) ∧ (σ22.1 218 7 = σ0.1 218 7 ∧ σ22.1 218 9 = σ0.1 218 9 ∧ σ22.1 218 20 = σ0.1 218 20 ∧ σ22.1 218 22 = σ0.1 218 22 ∧ σ22.1 218 23 = σ0.1 218 23 ∧ σ22.1 218 24 = σ0.1 218 24 ∧ σ22.1 218 25 = σ0.1 218 25) from ⟨by first | exact ⟨hK, by (try simp only [g7_σ22, g9_σ22, g14_σ22, g15_σ22, g20_σ22, g22_σ22, g23_σ22, g24_σ22, g25_σ22]); omega, fun q => absurd q (by (try simp only [g7_σ22, g9_σ22, g14_σ22, g15_σ22, g20_σ22, g22_σ22, g23_σ22, g24_σ22, g25_σ22]); exact n24), fun _ q => absurd q n4⟩ | exact ⟨hK, by (try simp only [g7_σ22, g9_σ22, g14_σ22, g15_σ22, g20_σ22, g22_σ22, g23_σ22, g24_σ22, g25_σ22]); omega, fun q => absurd q (by (try simp only [g7_σ22, g9_σ22, g14_σ22, g15_σ22, g20_σ22, g22_σ22, g23_σ22, g24_σ22, g25_σ22]); exact n24), fun _ _ => m12⟩ | exact ⟨hK, by (try simp only [g7_σ22, g9_σ22, g14_σ22, g15_σ22, g20_σ22, g22_σ22, g23_σ22, g24_σ22, g25_σ22]); omega, fun _ => ⟨⟨y4, by (try simp only [g7_σ22, g9_σ22, g14_σ22, g15_σ22, g20_σ22, g22_σ22, g23_σ22, g24_σ22, g25_σ22]); omega⟩, k12, g28⟩, fun q => absurd (by (try simp only [g7_σ22, g9_σ22, g14_σ22, g15_σ22, g20_σ22, g22_σ22, g23_σ22, g24_σ22, g25_σ22]); exact y24) q⟩ | exact absurd y4 n24 | exact absurd y24 n4 | exact absurd y24 n17, g7_σ22, g9_σ22, g20_σ22, g22_σ22, g23_σ22, g24_σ22, g25_σ22⟩)⟩

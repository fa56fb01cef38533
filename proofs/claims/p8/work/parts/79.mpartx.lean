theorem z50 {v : Int32} (h : 0 ≤ v.toInt ∧ v.toInt ≤ 5) : ¬ 50 + v = 100 := fun q => by
  have := congrArg Int32.toInt q
  rw [ti_add] at this
  simp only [Int32.reduceToInt] at this
  omega
theorem famF_le {t : Nat → Int32} {n : Nat} {m : Int32} : ∀ {f i j : Nat}, i ≤ n → famF t n m f i = some j → j ≤ n
  | 0, i, j, _, h => by cases h
  | f + 1, i, j, hi, h => by
    have h : (if mOK t n i m then (if tkK t n (tkE t n i) = 44 then famF t n m f (tkE t n (tkE t n i)) else if tkK t n (tkE t n i) = 125 then some (tkE t n (tkE t n i)) else none) else none) = some j := h
    have b := (tk_le (t := t) hi).2.2
    have d := (tk_le (t := t) b).2.2
    split at h
    · split at h
      · exact famF_le d h
      · split at h
        · rw [← Option.some.inj h]; exact d
        · cases h
    · cases h
theorem fam_le {t : Nat → Int32} {n : Nat} {m : Int32} {i j : Nat} (hi : i ≤ n) (h : fam t n m i = some j) : j ≤ n := by
  have b := (tk_le (t := t) hi).2.2
  have d := (tk_le (t := t) b).2.2
  unfold fam at h
  split at h
  · rw [← Option.some.inj h]; exact d
  · exact famF_le b h

set_option maxHeartbeats 4000000 in
set_option maxRecDepth 100000 in
theorem s_X12_readsPart_220_r {N : Nat} (hN : 1048576 ≤ N) {x1 : Int32} {σ0 : zS} {tx : Nat → Int32} {n i : Nat} (hR : RF σ0.2.2) (hK : TOK σ0.1) (hY : BYT (σ0.1 224)) (hG : RX σ0.1 tx n i) (hg : σ0.1 218 14 = 0) (hB : ZB σ0.1) (hn : 0 ≤ x1.toInt ∧ x1.toInt ≤ 10) (ha : 0 ≤ (σ0.1 218 20).toInt ∧ (σ0.1 218 20).toInt ≤ 1024) (hP : PIL σ0.1 0) (hNP : NP (σ0.1 230) (σ0.1 218 22).toInt.toNat) (hi : i ≤ n) : Ok (f_X12_readsPart N 218 x1 220 σ0) (fun r => Tr [218, 226, 227, 228, 229, 230] σ0 r.2 ∧ ((TOK r.2.1 ∧ ((σ0.1 218 11).toInt ≤ (r.2.1 218 11).toInt ∧ 0 ≤ (r.2.1 218 22).toInt ∧ (r.2.1 218 22).toInt ≤ 40) ∧ (r.2.1 218 14 = 0 → (σ0.1 218 11).toInt < (r.2.1 218 11).toInt ∧ ∃ c, stp tx n x1 (i, false, (lst (σ0.1 230) (σ0.1 218 22).toInt.toNat), (σ0.1 218 25).toInt.toNat) = some (some c) ∧ REL r.2.1 tx n c ∧ (r.1 = 0 ↔ c.2.1 = false)) ∧ (¬ r.2.1 218 14 = 0 → stp tx n x1 (i, false, (lst (σ0.1 230) (σ0.1 218 22).toInt.toNat), (σ0.1 218 25).toInt.toNat) = none) ∧ ZB r.2.1) ∧ (r.2.1 218 7 = σ0.1 218 7 ∧ r.2.1 218 9 = σ0.1 218 9 ∧ r.2.1 218 20 = σ0.1 218 20 ∧ r.2.1 218 25 = σ0.1 218 25))) := by
  have hT : Tr [218, 226, 227, 228, 229, 230] σ0 σ0 := Tr.rf
  have hK1 := hK.1
  have tE : σ0.1 224 = tx := hG.1.1
  have nE : (σ0.1 218 9).toInt.toNat = n := hG.1.2
  have pK : TKV (σ0.1 218 11) (σ0.1 218 10) (σ0.1 218 12) (σ0.1 218 13) tx n i := hG.2
  have hb0 := PIL_b hP (by decide)
  have hP0 := hP
  obtain ⟨b8, d8, r8, hS, h22, hd, hd6, hp⟩ := hP0
  have hSb := Stk_b hS
  have le1 := (tk_le (t := tx) hi).2.2
  rw [f_X12_readsPart.eq_1]
  refine ok_gC rfl ?_
  refine ok_zbX (Q := fun V => (V = -1 ∧ ¬ isPx tx n i) ∨ ((0 ≤ V.toInt ∧ V.toInt ≤ 5) ∧ isPx tx n i)) (xe_X12_prefixOf hN (hR.tr hT) hK hg hG) (fun v1 hqv1 => ?_)
  have hqv1 : (v1 = -1 ∧ ¬ isPx tx n i) ∨ ((0 ≤ v1.toInt ∧ v1.toInt ≤ 5) ∧ isPx tx n i) := hqv1
  refine ok_if (fun hc3 => ?_) (fun hc3 => ?_)
  · have e7 := hc3
    have px : ¬ isPx tx n i := by rcases hqv1 with q | q; exact q.2; exact absurd (congrArg Int32.toInt hc3) (by rw [show (-1 : Int32).toInt = -1 by decide]; omega)
    refine ok_gI rfl ?_
    refine ok_if (fun hc5 => ?_) (fun hc5 => ?_)
    · have e16 := hc5
      have k16 : tkK tx n i = 40 := pK.2.1.symm.trans hc5
      rw [J_X12_readsPart_19.eq_1]
      refine ok_if (fun hc6 => ?_) (fun hc6 => ?_)
      · have e22 := hc6
        refine ok_gC rfl ?_
        refine ok_zbT (Q := fun V σ => (TOK σ.1 ∧ (σ0.1 218 11).toInt ≤ (σ.1 218 11).toInt ∧ (0 ≤ (σ.1 218 22).toInt ∧ (σ.1 218 22).toInt ≤ 40) ∧ (σ.1 218 14 = 0 → ((σ0.1 218 11).toInt < (σ.1 218 11).toInt ∧ PIL σ.1 0) ∧ (¬ (lst (σ0.1 230) (σ0.1 218 22).toInt.toNat).length = 6 ∧ RX σ.1 tx n (tkE tx n i)) ∧ lst (σ.1 230) (σ.1 218 22).toInt.toNat = decide ((100 : Int32) = 100) :: (lst (σ0.1 230) (σ0.1 218 22).toInt.toNat) ∧ NP (σ.1 230) (σ.1 218 22).toInt.toNat) ∧ (¬ σ.1 218 14 = 0 → (lst (σ0.1 230) (σ0.1 218 22).toInt.toNat).length = 6)) ∧ (σ.1 218 7 = σ0.1 218 7 ∧ σ.1 218 9 = σ0.1 218 9 ∧ σ.1 218 20 = σ0.1 218 20 ∧ σ.1 218 23 = σ0.1 218 23 ∧ σ.1 218 25 = σ0.1 218 25)) hT (s_X12_opens_r hN (hR.tr hT) (hK) (by rw [hT.2 224 (by decide)]; exact hY) (RX_i rfl rfl rfl rfl rfl ((hT.2 224 (by decide)).trans tE) nE pK) (hg) (hP) (by first | decide | (have w8 := w7.1; rw [ti_add]; simp only [Int32.reduceToInt]; omega) | exact absurd e7 n22) (by first | (rw [pK.2.1, k7]; decide) | (rw [e16]; decide)) (hNP)) (by decide) (fun v7 σ8 hOσ8 hT hqv7 => ?_)
        have hqv7 : (TOK σ8.1 ∧ (σ0.1 218 11).toInt ≤ (σ8.1 218 11).toInt ∧ (0 ≤ (σ8.1 218 22).toInt ∧ (σ8.1 218 22).toInt ≤ 40) ∧ (σ8.1 218 14 = 0 → ((σ0.1 218 11).toInt < (σ8.1 218 11).toInt ∧ PIL σ8.1 0) ∧ (¬ (lst (σ0.1 230) (σ0.1 218 22).toInt.toNat).length = 6 ∧ RX σ8.1 tx n (tkE tx n i)) ∧ lst (σ8.1 230) (σ8.1 218 22).toInt.toNat = decide ((100 : Int32) = 100) :: (lst (σ0.1 230) (σ0.1 218 22).toInt.toNat) ∧ NP (σ8.1 230) (σ8.1 218 22).toInt.toNat) ∧ (¬ σ8.1 218 14 = 0 → (lst (σ0.1 230) (σ0.1 218 22).toInt.toNat).length = 6)) ∧ (σ8.1 218 7 = σ0.1 218 7 ∧ σ8.1 218 9 = σ0.1 218 9 ∧ σ8.1 218 20 = σ0.1 218 20 ∧ σ8.1 218 23 = σ0.1 218 23 ∧ σ8.1 218 25 = σ0.1 218 25) := hqv7
        have hkv7 := hqv7
        have hqv7 := hqv7.1
        have hK : TOK σ8.1 := by first | exact hqv7.1 | exact hqv7.1.1 | exact TOK_p eσ8 (by decide) hK
        have hB : ZB σ8.1 := ZB.tr hOσ8 (by decide) hB
        have g7_σ8 : σ8.1 218 7 = (σ0.1 218 7) := hkv7.2.1
        have g9_σ8 : σ8.1 218 9 = (σ0.1 218 9) := hkv7.2.2.1
        have g20_σ8 : σ8.1 218 20 = (σ0.1 218 20) := hkv7.2.2.2.1
        have g23_σ8 : σ8.1 218 23 = (σ0.1 218 23) := hkv7.2.2.2.2.1
        have g25_σ8 : σ8.1 218 25 = (σ0.1 218 25) := hkv7.2.2.2.2.2
        have m34 := hqv7.2
        have hpx : isPx tx n i ∨ tkK tx n i = 40 := by first | exact Or.inl w7.2 | exact Or.inr k16
        exact ok_rZ (Or.inl rfl) ⟨hT, (show (TOK σ8.1 ∧ ((σ0.1 218 11).toInt ≤ (σ8.1 218 11).toInt ∧ 0 ≤ (σ8.1 218 22).toInt ∧ (σ8.1 218 22).toInt ≤ 40) ∧ (σ8.1 218 14 = 0 → (σ0.1 218 11).toInt < (σ8.1 218 11).toInt ∧ ∃ c, stp tx n x1 (i, false, (lst (σ0.1 230) (σ0.1 218 22).toInt.toNat), (σ0.1 218 25).toInt.toNat) = some (some c) ∧ REL σ8.1 tx n c ∧ ((0 : Int32) = 0 ↔ c.2.1 = false)) ∧ (¬ σ8.1 218 14 = 0 → stp tx n x1 (i, false, (lst (σ0.1 230) (σ0.1 218 22).toInt.toNat), (σ0.1 218 25).toInt.toNat) = none) ∧ ZB σ8.1) ∧ (σ8.1 218 7 = σ0.1 218 7 ∧ σ8.1 218 9 = σ0.1 218 9 ∧ σ8.1 218 20 = σ0.1 218 20 ∧ σ8.1 218 25 = σ0.1 218 25) from ⟨by first | exact ⟨hK, ⟨m34.1, m34.2.1⟩, fun q => ⟨(m34.2.2.1 q).1.1, (tkE tx n i, false, decide (tkK tx n i = 40) :: (lst (σ0.1 230) (σ0.1 218 22).toInt.toNat), (σ0.1 218 25).toInt.toNat), (stp_o hpx).trans (if_neg (m34.2.2.1 q).2.1.1), ⟨⟨(m34.2.2.1 q).2.1.2, le1⟩, ⟨by first | exact ((m34.2.2.1 q).2.2.1.trans (by rw [k16]; rfl)).symm | exact ((m34.2.2.1 q).2.2.1.trans (by rw [k7, decide_eq_false (z50 w7.1)]; rfl)).symm, (m34.2.2.1 q).2.2.2⟩, by rw [g25_σ8], fun h => Bool.noConfusion (show false = true from h), fun _ => (m34.2.2.1 q).1.2⟩, ⟨fun _ => rfl, fun _ => rfl⟩⟩, fun q => (stp_o hpx).trans (if_pos (m34.2.2.2 q)), hB⟩ | exact absurd e7 n22 | exact absurd e22 n7 | exact absurd y196 n189 | exact ⟨hK, ⟨by (try simp only [g7_σ8, g9_σ8, g20_σ8, g23_σ8, g25_σ8]); omega, by (try simp only [g7_σ8, g9_σ8, g20_σ8, g23_σ8, g25_σ8]); omega⟩, fun q => absurd q (by (try simp only [g7_σ8, g9_σ8, g20_σ8, g23_σ8, g25_σ8]); exact n196), fun _ => st9, hB⟩ | exact ⟨hK, ⟨by (try simp only [g7_σ8, g9_σ8, g20_σ8, g23_σ8, g25_σ8]); omega, by omega⟩, fun _ => ⟨by (try simp only [g7_σ8, g9_σ8, g20_σ8, g23_σ8, g25_σ8]); exact ga9, _, st9, ⟨⟨RX_i g9_σ8 rfl rfl rfl rfl ((hT.2 224 (by decide)).trans tE) nE pK9, le9⟩, ⟨by rw [rfl]; exact l201.2.symm, by rw [rfl]; exact NP_le hNP l201.1⟩, by rw [g25_σ8], fun _ => ⟨h201, popP_i _⟩, fun h => Bool.noConfusion (show true = false from h)⟩, ⟨fun h => absurd h (by decide), fun h => Bool.noConfusion (show true = false from h)⟩⟩, fun q => absurd (by (try simp only [g7_σ8, g9_σ8, g20_σ8, g23_σ8, g25_σ8]); exact y196) q, hB⟩, g7_σ8, g9_σ8, g20_σ8, g25_σ8⟩)⟩
      · have n22 := hc6
        refine ok_gC rfl ?_
        refine ok_zbT (Q := fun V σ => (TOK σ.1 ∧ (σ0.1 218 11).toInt ≤ (σ.1 218 11).toInt ∧ (0 ≤ (σ.1 218 22).toInt ∧ (σ.1 218 22).toInt ≤ 40) ∧ (σ.1 218 14 = 0 → ((σ0.1 218 11).toInt < (σ.1 218 11).toInt ∧ PIL σ.1 0) ∧ (¬ (lst (σ0.1 230) (σ0.1 218 22).toInt.toNat).length = 6 ∧ RX σ.1 tx n (tkE tx n i)) ∧ lst (σ.1 230) (σ.1 218 22).toInt.toNat = decide ((50 + v1) = 100) :: (lst (σ0.1 230) (σ0.1 218 22).toInt.toNat) ∧ NP (σ.1 230) (σ.1 218 22).toInt.toNat) ∧ (¬ σ.1 218 14 = 0 → (lst (σ0.1 230) (σ0.1 218 22).toInt.toNat).length = 6)) ∧ (σ.1 218 7 = σ0.1 218 7 ∧ σ.1 218 9 = σ0.1 218 9 ∧ σ.1 218 20 = σ0.1 218 20 ∧ σ.1 218 23 = σ0.1 218 23 ∧ σ.1 218 25 = σ0.1 218 25)) hT (s_X12_opens_r hN (hR.tr hT) (hK) (by rw [hT.2 224 (by decide)]; exact hY) (RX_i rfl rfl rfl rfl rfl ((hT.2 224 (by decide)).trans tE) nE pK) (hg) (hP) (by first | decide | (have w8 := w7.1; rw [ti_add]; simp only [Int32.reduceToInt]; omega) | exact absurd e7 n22) (by first | (rw [pK.2.1, k7]; decide) | (rw [e16]; decide)) (hNP)) (by decide) (fun v9 σ10 hOσ10 hT hqv9 => ?_)
        have hqv9 : (TOK σ10.1 ∧ (σ0.1 218 11).toInt ≤ (σ10.1 218 11).toInt ∧ (0 ≤ (σ10.1 218 22).toInt ∧ (σ10.1 218 22).toInt ≤ 40) ∧ (σ10.1 218 14 = 0 → ((σ0.1 218 11).toInt < (σ10.1 218 11).toInt ∧ PIL σ10.1 0) ∧ (¬ (lst (σ0.1 230) (σ0.1 218 22).toInt.toNat).length = 6 ∧ RX σ10.1 tx n (tkE tx n i)) ∧ lst (σ10.1 230) (σ10.1 218 22).toInt.toNat = decide ((50 + v1) = 100) :: (lst (σ0.1 230) (σ0.1 218 22).toInt.toNat) ∧ NP (σ10.1 230) (σ10.1 218 22).toInt.toNat) ∧ (¬ σ10.1 218 14 = 0 → (lst (σ0.1 230) (σ0.1 218 22).toInt.toNat).length = 6)) ∧ (σ10.1 218 7 = σ0.1 218 7 ∧ σ10.1 218 9 = σ0.1 218 9 ∧ σ10.1 218 20 = σ0.1 218 20 ∧ σ10.1 218 23 = σ0.1 218 23 ∧ σ10.1 218 25 = σ0.1 218 25) := hqv9
        have hkv9 := hqv9
        have hqv9 := hqv9.1
        have hK : TOK σ10.1 := by first | exact hqv9.1 | exact hqv9.1.1 | exact TOK_p eσ10 (by decide) hK
        have hB : ZB σ10.1 := ZB.tr hOσ10 (by decide) hB
        have g7_σ10 : σ10.1 218 7 = (σ0.1 218 7) := hkv9.2.1
        have g9_σ10 : σ10.1 218 9 = (σ0.1 218 9) := hkv9.2.2.1
        have g20_σ10 : σ10.1 218 20 = (σ0.1 218 20) := hkv9.2.2.2.1
        have g23_σ10 : σ10.1 218 23 = (σ0.1 218 23) := hkv9.2.2.2.2.1
        have g25_σ10 : σ10.1 218 25 = (σ0.1 218 25) := hkv9.2.2.2.2.2
        have m34 := hqv9.2
        have hpx : isPx tx n i ∨ tkK tx n i = 40 := by first | exact Or.inl w7.2 | exact Or.inr k16
        exact ok_rZ (Or.inl rfl) ⟨hT, (show (TOK σ10.1 ∧ ((σ0.1 218 11).toInt ≤ (σ10.1 218 11).toInt ∧ 0 ≤ (σ10.1 218 22).toInt ∧ (σ10.1 218 22).toInt ≤ 40) ∧ (σ10.1 218 14 = 0 → (σ0.1 218 11).toInt < (σ10.1 218 11).toInt ∧ ∃ c, stp tx n x1 (i, false, (lst (σ0.1 230) (σ0.1 218 22).toInt.toNat), (σ0.1 218 25).toInt.toNat) = some (some c) ∧ REL σ10.1 tx n c ∧ ((0 : Int32) = 0 ↔ c.2.1 = false)) ∧ (¬ σ10.1 218 14 = 0 → stp tx n x1 (i, false, (lst (σ0.1 230) (σ0.1 218 22).toInt.toNat), (σ0.1 218 25).toInt.toNat) = none) ∧ ZB σ10.1) ∧ (σ10.1 218 7 = σ0.1 218 7 ∧ σ10.1 218 9 = σ0.1 218 9 ∧ σ10.1 218 20 = σ0.1 218 20 ∧ σ10.1 218 25 = σ0.1 218 25) from ⟨by first | exact ⟨hK, ⟨m34.1, m34.2.1⟩, fun q => ⟨(m34.2.2.1 q).1.1, (tkE tx n i, false, decide (tkK tx n i = 40) :: (lst (σ0.1 230) (σ0.1 218 22).toInt.toNat), (σ0.1 218 25).toInt.toNat), (stp_o hpx).trans (if_neg (m34.2.2.1 q).2.1.1), ⟨⟨(m34.2.2.1 q).2.1.2, le1⟩, ⟨by first | exact ((m34.2.2.1 q).2.2.1.trans (by rw [k16]; rfl)).symm | exact ((m34.2.2.1 q).2.2.1.trans (by rw [k7, decide_eq_false (z50 w7.1)]; rfl)).symm, (m34.2.2.1 q).2.2.2⟩, by rw [g25_σ10], fun h => Bool.noConfusion (show false = true from h), fun _ => (m34.2.2.1 q).1.2⟩, ⟨fun _ => rfl, fun _ => rfl⟩⟩, fun q => (stp_o hpx).trans (if_pos (m34.2.2.2 q)), hB⟩ | exact absurd e7 n22 | exact absurd e22 n7 | exact absurd y196 n189 | exact ⟨hK, ⟨by (try simp only [g7_σ10, g9_σ10, g20_σ10, g23_σ10, g25_σ10]); omega, by (try simp only [g7_σ10, g9_σ10, g20_σ10, g23_σ10, g25_σ10]); omega⟩, fun q => absurd q (by (try simp only [g7_σ10, g9_σ10, g20_σ10, g23_σ10, g25_σ10]); exact n196), fun _ => st9, hB⟩ | exact ⟨hK, ⟨by (try simp only [g7_σ10, g9_σ10, g20_σ10, g23_σ10, g25_σ10]); omega, by omega⟩, fun _ => ⟨by (try simp only [g7_σ10, g9_σ10, g20_σ10, g23_σ10, g25_σ10]); exact ga9, _, st9, ⟨⟨RX_i g9_σ10 rfl rfl rfl rfl ((hT.2 224 (by decide)).trans tE) nE pK9, le9⟩, ⟨by rw [rfl]; exact l201.2.symm, by rw [rfl]; exact NP_le hNP l201.1⟩, by rw [g25_σ10], fun _ => ⟨h201, popP_i _⟩, fun h => Bool.noConfusion (show true = false from h)⟩, ⟨fun h => absurd h (by decide), fun h => Bool.noConfusion (show true = false from h)⟩⟩, fun q => absurd (by (try simp only [g7_σ10, g9_σ10, g20_σ10, g23_σ10, g25_σ10]); exact y196) q, hB⟩, g7_σ10, g9_σ10, g20_σ10, g25_σ10⟩)⟩
    · have h0q : ¬ (isPx tx n i ∨ tkK tx n i = 40) := fun q => q.elim px (fun q => hc5 (pK.2.1.trans q))
      refine ok_gI rfl ?_
      refine ok_if (fun hc12 => ?_) (fun hc12 => ?_)
      · have k44 : tkK tx n i = 2 := pK.2.1.symm.trans hc12
        refine ok_gC rfl ?_
        refine ok_zbT (Q := fun V σ => (TOK σ.1 ∧ (σ0.1 218 11).toInt ≤ (σ.1 218 11).toInt ∧ (σ.1 218 14 = 0 → ((σ0.1 218 11).toInt < (σ.1 218 11).toInt ∧ nOK tx n i (0 : Int32) (9 : Int32)) ∧ V.toInt = min 99999 (Nv tx n (tkF tx n i) 0 : Int) ∧ RX σ.1 tx n (tkE tx n i)) ∧ (¬ σ.1 218 14 = 0 → V = 0 ∧ ¬ nOK tx n i (0 : Int32) (9 : Int32))) ∧ (σ.1 218 7 = σ0.1 218 7 ∧ σ.1 218 9 = σ0.1 218 9 ∧ σ.1 218 20 = σ0.1 218 20 ∧ σ.1 218 22 = σ0.1 218 22 ∧ σ.1 218 23 = σ0.1 218 23 ∧ σ.1 218 24 = σ0.1 218 24 ∧ σ.1 218 25 = σ0.1 218 25)) hT (s_X12_number_r hN (hR.tr hT) (hK) (by rw [hT.2 224 (by decide)]; exact hY) (RX_i rfl rfl rfl rfl rfl ((hT.2 224 (by decide)).trans tE) nE pK) (hg)) (by decide) (fun v13 σ14 hOσ14 hT hqv13 => ?_)
        have hqv13 : (TOK σ14.1 ∧ (σ0.1 218 11).toInt ≤ (σ14.1 218 11).toInt ∧ (σ14.1 218 14 = 0 → ((σ0.1 218 11).toInt < (σ14.1 218 11).toInt ∧ nOK tx n i (0 : Int32) (9 : Int32)) ∧ v13.toInt = min 99999 (Nv tx n (tkF tx n i) 0 : Int) ∧ RX σ14.1 tx n (tkE tx n i)) ∧ (¬ σ14.1 218 14 = 0 → v13 = 0 ∧ ¬ nOK tx n i (0 : Int32) (9 : Int32))) ∧ (σ14.1 218 7 = σ0.1 218 7 ∧ σ14.1 218 9 = σ0.1 218 9 ∧ σ14.1 218 20 = σ0.1 218 20 ∧ σ14.1 218 22 = σ0.1 218 22 ∧ σ14.1 218 23 = σ0.1 218 23 ∧ σ14.1 218 24 = σ0.1 218 24 ∧ σ14.1 218 25 = σ0.1 218 25) := hqv13
        have hkv13 := hqv13
        have hqv13 := hqv13.1
        have r230_σ14 : σ14.1 230 = σ0.1 230 := hOσ14.2 230 (by decide)
        have hK : TOK σ14.1 := by first | exact hqv13.1 | exact hqv13.1.1 | exact TOK_p eσ14 (by decide) hK
        have hB : ZB σ14.1 := ZB.tr hOσ14 (by decide) hB
        have g7_σ14 : σ14.1 218 7 = (σ0.1 218 7) := hkv13.2.1
        have g9_σ14 : σ14.1 218 9 = (σ0.1 218 9) := hkv13.2.2.1
        have g20_σ14 : σ14.1 218 20 = (σ0.1 218 20) := hkv13.2.2.2.1
        have g22_σ14 : σ14.1 218 22 = (σ0.1 218 22) := hkv13.2.2.2.2.1
        have g23_σ14 : σ14.1 218 23 = (σ0.1 218 23) := hkv13.2.2.2.2.2.1
        have g24_σ14 : σ14.1 218 24 = (σ0.1 218 24) := hkv13.2.2.2.2.2.2.1
        have g25_σ14 : σ14.1 218 25 = (σ0.1 218 25) := hkv13.2.2.2.2.2.2.2
        have m51 := hqv13.2.1
        have u51 := hqv13.2.2.1
        have f51 := hqv13.2.2.2
        have b51 : 0 ≤ v13.toInt ∧ v13.toInt ≤ 9 := by by_cases h9 : σ14.1 218 14 = 0; have h8 := (u51 h9).1.2.2.2; have h7 := (u51 h9).2.1; simp only [Int32.reduceToInt] at h8; omega; rw [(f51 h9).1]; decide
        have q51 := p1024 (p := v13) rfl b51.1 (by omega)
        refine ok_gC rfl ?_
        refine ok_zbT (Q := fun V σ => (TOK σ.1 ∧ ZB σ.1 ∧ σ.1 218 23 = σ14.1 218 23 + 1) ∧ (σ.1 218 7 = σ14.1 218 7 ∧ σ.1 218 9 = σ14.1 218 9 ∧ σ.1 218 10 = σ14.1 218 10 ∧ σ.1 218 11 = σ14.1 218 11 ∧ σ.1 218 12 = σ14.1 218 12 ∧ σ.1 218 13 = σ14.1 218 13 ∧ σ.1 218 14 = σ14.1 218 14 ∧ σ.1 218 15 = σ14.1 218 15 ∧ σ.1 218 20 = σ14.1 218 20 ∧ σ.1 218 22 = σ14.1 218 22 ∧ σ.1 218 24 = σ14.1 218 24 ∧ σ.1 218 25 = σ14.1 218 25)) hT (s_X12_pushesEmpty hN (hR.tr hT) (hK) (by rw [hT.2 224 (by decide)]; exact hY) (hB) (by (try simp only [g7_σ14, g9_σ14, g20_σ14, g22_σ14, g23_σ14, g24_σ14, g25_σ14]); omega)) (by decide) (fun v15 σ16 hOσ16 hT hqv15 => ?_)
        have hqv15 : (TOK σ16.1 ∧ ZB σ16.1 ∧ σ16.1 218 23 = σ14.1 218 23 + 1) ∧ (σ16.1 218 7 = σ14.1 218 7 ∧ σ16.1 218 9 = σ14.1 218 9 ∧ σ16.1 218 10 = σ14.1 218 10 ∧ σ16.1 218 11 = σ14.1 218 11 ∧ σ16.1 218 12 = σ14.1 218 12 ∧ σ16.1 218 13 = σ14.1 218 13 ∧ σ16.1 218 14 = σ14.1 218 14 ∧ σ16.1 218 15 = σ14.1 218 15 ∧ σ16.1 218 20 = σ14.1 218 20 ∧ σ16.1 218 22 = σ14.1 218 22 ∧ σ16.1 218 24 = σ14.1 218 24 ∧ σ16.1 218 25 = σ14.1 218 25) := hqv15
        have hkv15 := hqv15
        have hqv15 := hqv15.1
        have r230_σ16 : σ16.1 230 = σ0.1 230 := (hOσ16.2 230 (by decide)).trans r230_σ14
        have hK : TOK σ16.1 := by first | exact hqv15.1 | exact hqv15.1.1 | exact TOK_p eσ16 (by decide) hK
        have hB : ZB σ16.1 := by first | exact hqv15.2.1 | exact hqv15.2.2.2.2.1 | exact ZB_s eσ16 hB
        try simp only [g7_σ14, g9_σ14, g20_σ14, g22_σ14, g23_σ14, g24_σ14, g25_σ14] at hqv15
        have g7_σ16 : σ16.1 218 7 = (σ0.1 218 7) := (hkv15.2.1).trans g7_σ14
        have g9_σ16 : σ16.1 218 9 = (σ0.1 218 9) := (hkv15.2.2.1).trans g9_σ14
        have g10_σ16 : σ16.1 218 10 = (σ14.1 218 10) := hkv15.2.2.2.1
        have g11_σ16 : σ16.1 218 11 = (σ14.1 218 11) := hkv15.2.2.2.2.1
        have g12_σ16 : σ16.1 218 12 = (σ14.1 218 12) := hkv15.2.2.2.2.2.1
        have g13_σ16 : σ16.1 218 13 = (σ14.1 218 13) := hkv15.2.2.2.2.2.2.1
        have g14_σ16 : σ16.1 218 14 = (σ14.1 218 14) := hkv15.2.2.2.2.2.2.2.1
        have g15_σ16 : σ16.1 218 15 = (σ14.1 218 15) := hkv15.2.2.2.2.2.2.2.2.1
        have g20_σ16 : σ16.1 218 20 = (σ0.1 218 20) := (hkv15.2.2.2.2.2.2.2.2.2.1).trans g20_σ14
        have g22_σ16 : σ16.1 218 22 = (σ0.1 218 22) := (hkv15.2.2.2.2.2.2.2.2.2.2.1).trans g22_σ14
        have g24_σ16 : σ16.1 218 24 = (σ0.1 218 24) := (hkv15.2.2.2.2.2.2.2.2.2.2.2.1).trans g24_σ14
        have g25_σ16 : σ16.1 218 25 = (σ0.1 218 25) := (hkv15.2.2.2.2.2.2.2.2.2.2.2.2).trans g25_σ14
        have g57 := hqv15.2.2
        have s57 : (σ16.1 218 23).toInt = ((b8 + 1 : Nat) : Int) := by rw [g57, ti_add]; simp only [Int32.reduceToInt]; omega
        have p57 : ((σ16.1 218 23) - 1).toInt = (b8 : Int) := by rw [ti_sub, s57]; simp only [Int32.reduceToInt]; omega
        have m57 := p1024 p57 (by omega) (by omega)
        refine ok_lp (fun t : Int32 × zS => Tr [218, 226, 227, 228, 229, 230] σ0 (t.2) ∧ (0 ≤ (t.1).toInt) ∧ (TOK (t.2).1) ∧ (ZB (t.2).1) ∧ ((t.2).1 218 7 = (σ0.1 218 7)) ∧ ((t.2).1 218 9 = (σ0.1 218 9)) ∧ ((t.2).1 218 10 = (σ14.1 218 10)) ∧ ((t.2).1 218 11 = (σ14.1 218 11)) ∧ ((t.2).1 218 12 = (σ14.1 218 12)) ∧ ((t.2).1 218 13 = (σ14.1 218 13)) ∧ ((t.2).1 218 14 = (σ14.1 218 14)) ∧ ((t.2).1 218 15 = (σ14.1 218 15)) ∧ ((t.2).1 218 20 = (σ0.1 218 20)) ∧ ((t.2).1 218 22 = (σ0.1 218 22)) ∧ ((t.2).1 218 23 = (σ16.1 218 23)) ∧ ((t.2).1 218 24 = (σ0.1 218 24)) ∧ ((t.2).1 218 25 = (σ0.1 218 25)) ∧ ((t.2).1 230 = σ0.1 230)) (fun t : Int32 × zS => (1024 - (t.1).toInt).toNat) (fun again17 t hI ih63_17 => ?_) N _ (show Tr [218, 226, 227, 228, 229, 230] σ0 σ16 ∧ (0 ≤ (0 : Int32).toInt) ∧ (TOK σ16.1) ∧ (ZB σ16.1) ∧ (σ16.1 218 7 = (σ0.1 218 7)) ∧ (σ16.1 218 9 = (σ0.1 218 9)) ∧ (σ16.1 218 10 = (σ14.1 218 10)) ∧ (σ16.1 218 11 = (σ14.1 218 11)) ∧ (σ16.1 218 12 = (σ14.1 218 12)) ∧ (σ16.1 218 13 = (σ14.1 218 13)) ∧ (σ16.1 218 14 = (σ14.1 218 14)) ∧ (σ16.1 218 15 = (σ14.1 218 15)) ∧ (σ16.1 218 20 = (σ0.1 218 20)) ∧ (σ16.1 218 22 = (σ0.1 218 22)) ∧ (σ16.1 218 23 = (σ16.1 218 23)) ∧ (σ16.1 218 24 = (σ0.1 218 24)) ∧ (σ16.1 218 25 = (σ0.1 218 25)) ∧ (σ16.1 230 = σ0.1 230) from ⟨hT, (by decide), hK, hB, g7_σ16, g9_σ16, g10_σ16, g11_σ16, g12_σ16, g13_σ16, g14_σ16, g15_σ16, g20_σ16, g22_σ16, rfl, g24_σ16, g25_σ16, r230_σ16⟩) (show (1024 - (0 : Int32).toInt).toNat < N from (by simp only [Int32.reduceToInt]; omega))
        obtain ⟨x5_17, σ17⟩ := t
        have hI : Tr [218, 226, 227, 228, 229, 230] σ0 σ17 ∧ (0 ≤ x5_17.toInt) ∧ (TOK σ17.1) ∧ (ZB σ17.1) ∧ (σ17.1 218 7 = (σ0.1 218 7)) ∧ (σ17.1 218 9 = (σ0.1 218 9)) ∧ (σ17.1 218 10 = (σ14.1 218 10)) ∧ (σ17.1 218 11 = (σ14.1 218 11)) ∧ (σ17.1 218 12 = (σ14.1 218 12)) ∧ (σ17.1 218 13 = (σ14.1 218 13)) ∧ (σ17.1 218 14 = (σ14.1 218 14)) ∧ (σ17.1 218 15 = (σ14.1 218 15)) ∧ (σ17.1 218 20 = (σ0.1 218 20)) ∧ (σ17.1 218 22 = (σ0.1 218 22)) ∧ (σ17.1 218 23 = (σ16.1 218 23)) ∧ (σ17.1 218 24 = (σ0.1 218 24)) ∧ (σ17.1 218 25 = (σ0.1 218 25)) ∧ (σ17.1 230 = σ0.1 230) := hI
        obtain ⟨hT, hI17, hK, hB, g7_σ17, g9_σ17, g10_σ17, g11_σ17, g12_σ17, g13_σ17, g14_σ17, g15_σ17, g20_σ17, g22_σ17, g23_σ17, g24_σ17, g25_σ17, r230_σ17⟩ := hI
        rw [F_X12_readsPart_63.eq_1]
        refine ok_if (fun hc18 => ?_) (fun hc18 => ?_)
        · rw [J_X12_readsPart_192.eq_1]
          refine ok_gC rfl ?_
          refine ok_zbX (Q := fun V => (V = 0 → ¬ σ17.1 218 14 = 0) ∧ (¬ V = 0 → σ17.1 218 14 = 0)) (x_X12_good) (fun v19 hqv19 => ?_)
          have hqv19 : (v19 = 0 → ¬ σ17.1 218 14 = 0) ∧ (¬ v19 = 0 → σ17.1 218 14 = 0) := hqv19
          try simp only [g7_σ17, g9_σ17, g10_σ17, g11_σ17, g12_σ17, g13_σ17, g14_σ17, g15_σ17, g20_σ17, g22_σ17, g23_σ17, g24_σ17, g25_σ17, hT.2 224 (by decide)] at hqv19
          refine ok_if (fun hc21 => ?_) (fun hc21 => ?_)
          · have qhc21 := hqv19.1 hc21
            have n196 := qhc21
            have st9 : stp tx n x1 (i, false, (lst (σ0.1 230) (σ0.1 218 22).toInt.toNat), (σ0.1 218 25).toInt.toNat) = none := by first | exact (stp_n h0q k44).trans (if_neg (f51 n196).2) | exact (stp_f h0q k122).trans (by rw [f127 n196]; rfl) | exact stp_z h0q m44 m122 i140.2 | exact absurd hg n196
            exact ok_rZ (Or.inr rfl) ⟨hT, (show (TOK σ17.1 ∧ ((σ0.1 218 11).toInt ≤ (σ17.1 218 11).toInt ∧ 0 ≤ (σ17.1 218 22).toInt ∧ (σ17.1 218 22).toInt ≤ 40) ∧ (σ17.1 218 14 = 0 → (σ0.1 218 11).toInt < (σ17.1 218 11).toInt ∧ ∃ c, stp tx n x1 (i, false, (lst (σ0.1 230) (σ0.1 218 22).toInt.toNat), (σ0.1 218 25).toInt.toNat) = some (some c) ∧ REL σ17.1 tx n c ∧ ((1 : Int32) = 0 ↔ c.2.1 = false)) ∧ (¬ σ17.1 218 14 = 0 → stp tx n x1 (i, false, (lst (σ0.1 230) (σ0.1 218 22).toInt.toNat), (σ0.1 218 25).toInt.toNat) = none) ∧ ZB σ17.1) ∧ (σ17.1 218 7 = σ0.1 218 7 ∧ σ17.1 218 9 = σ0.1 218 9 ∧ σ17.1 218 20 = σ0.1 218 20 ∧ σ17.1 218 25 = σ0.1 218 25) from ⟨by first | exact ⟨hK, ⟨m34.1, m34.2.1⟩, fun q => ⟨(m34.2.2.1 q).1.1, (tkE tx n i, false, decide (tkK tx n i = 40) :: (lst (σ0.1 230) (σ0.1 218 22).toInt.toNat), (σ0.1 218 25).toInt.toNat), (stp_o hpx).trans (if_neg (m34.2.2.1 q).2.1.1), ⟨⟨(m34.2.2.1 q).2.1.2, le1⟩, ⟨by first | exact ((m34.2.2.1 q).2.2.1.trans (by rw [k16]; rfl)).symm | exact ((m34.2.2.1 q).2.2.1.trans (by rw [k7, decide_eq_false (z50 w7.1)]; rfl)).symm, (m34.2.2.1 q).2.2.2⟩, by rw [g25_σ17], fun h => Bool.noConfusion (show false = true from h), fun _ => (m34.2.2.1 q).1.2⟩, ⟨fun _ => rfl, fun _ => rfl⟩⟩, fun q => (stp_o hpx).trans (if_pos (m34.2.2.2 q)), hB⟩ | exact absurd e7 n22 | exact absurd e22 n7 | exact absurd y196 n189 | exact ⟨hK, ⟨by (try simp only [g7_σ17, g9_σ17, g10_σ17, g11_σ17, g12_σ17, g13_σ17, g14_σ17, g15_σ17, g20_σ17, g22_σ17, g23_σ17, g24_σ17, g25_σ17]); omega, by (try simp only [g7_σ17, g9_σ17, g10_σ17, g11_σ17, g12_σ17, g13_σ17, g14_σ17, g15_σ17, g20_σ17, g22_σ17, g23_σ17, g24_σ17, g25_σ17]); omega⟩, fun q => absurd q (by (try simp only [g7_σ17, g9_σ17, g10_σ17, g11_σ17, g12_σ17, g13_σ17, g14_σ17, g15_σ17, g20_σ17, g22_σ17, g23_σ17, g24_σ17, g25_σ17]); exact n196), fun _ => st9, hB⟩ | exact ⟨hK, ⟨by (try simp only [g7_σ17, g9_σ17, g10_σ17, g11_σ17, g12_σ17, g13_σ17, g14_σ17, g15_σ17, g20_σ17, g22_σ17, g23_σ17, g24_σ17, g25_σ17]); omega, by omega⟩, fun _ => ⟨by (try simp only [g7_σ17, g9_σ17, g10_σ17, g11_σ17, g12_σ17, g13_σ17, g14_σ17, g15_σ17, g20_σ17, g22_σ17, g23_σ17, g24_σ17, g25_σ17]); exact ga9, _, st9, ⟨⟨RX_i g9_σ17 g10_σ17 g11_σ17 g12_σ17 g13_σ17 ((hT.2 224 (by decide)).trans tE) nE pK9, le9⟩, ⟨by rw [r230_σ17]; exact l201.2.symm, by rw [r230_σ17]; exact NP_le hNP l201.1⟩, by rw [g25_σ17], fun _ => ⟨h201, popP_i _⟩, fun h => Bool.noConfusion (show true = false from h)⟩, ⟨fun h => absurd h (by decide), fun h => Bool.noConfusion (show true = false from h)⟩⟩, fun q => absurd (by (try simp only [g7_σ17, g9_σ17, g10_σ17, g11_σ17, g12_σ17, g13_σ17, g14_σ17, g15_σ17, g20_σ17, g22_σ17, g23_σ17, g24_σ17, g25_σ17]); exact y196) q, hB⟩, g7_σ17, g9_σ17, g20_σ17, g25_σ17⟩)⟩
          · have qhc21 := hqv19.2 hc21
            have y196 := qhc21
            obtain ⟨P9, st9, pK9, ga9, le9⟩ : ∃ p, stp tx n x1 (i, false, (lst (σ0.1 230) (σ0.1 218 22).toInt.toNat), (σ0.1 218 25).toInt.toNat) = some (some (p, true, popP (lst (σ0.1 230) (σ0.1 218 22).toInt.toNat), (σ0.1 218 25).toInt.toNat)) ∧ TKV (σ14.1 218 11) (σ14.1 218 10) (σ14.1 218 12) (σ14.1 218 13) tx n p ∧ (σ0.1 218 11).toInt < (σ14.1 218 11).toInt ∧ p ≤ n := by first | exact ⟨_, (stp_n h0q k44).trans (if_pos (u51 y196).1.2), (u51 y196).2.2.2, (u51 y196).1.1, le1⟩ | (obtain ⟨j, fj, rj⟩ := (u127 y196).2; exact ⟨j, (stp_f h0q k122).trans (by rw [fj]; rfl), rj.2, (u127 y196).1, fam_le hi fj⟩) | exact ⟨_, stp_a h0q k137.1.1, k137.2.2, k137.1.2, le1⟩ | exact absurd y196 n189
            refine ok_gC rfl ?_
            refine ok_zbT (Q := fun V σ => (TOK σ.1 ∧ ZB σ.1 ∧ PIL σ.1 1 ∧ ((σ.1 218 22).toInt.toNat ≤ (σ17.1 218 22).toInt.toNat ∧ lst (σ17.1 230) (σ.1 218 22).toInt.toNat = popP (lst (σ17.1 230) (σ17.1 218 22).toInt.toNat)) ∧ ((σ.1 218 22).toInt ≤ 0 ∨ (rkI (σ17.1 230 ((σ.1 218 22) - 1).toNatClampNeg)).toInt < (3 : Int32).toInt)) ∧ (σ.1 218 7 = σ17.1 218 7 ∧ σ.1 218 9 = σ17.1 218 9 ∧ σ.1 218 10 = σ17.1 218 10 ∧ σ.1 218 11 = σ17.1 218 11 ∧ σ.1 218 12 = σ17.1 218 12 ∧ σ.1 218 13 = σ17.1 218 13 ∧ σ.1 218 14 = σ17.1 218 14 ∧ σ.1 218 15 = σ17.1 218 15 ∧ σ.1 218 20 = σ17.1 218 20 ∧ σ.1 218 25 = σ17.1 218 25)) hT (s_X12_settlesTo_r hN (hR.tr hT) (hK) (by rw [hT.2 224 (by decide)]; exact hY) (hB) (by (try simp only [g7_σ17, g9_σ17, g10_σ17, g11_σ17, g12_σ17, g13_σ17, g14_σ17, g15_σ17, g20_σ17, g22_σ17, g23_σ17, g24_σ17, g25_σ17]); exact ha) (by first | exact PIL_i g22_σ17 g23_σ17 g24_σ17 r230_σ17 hS h22 hd hd6 s57 | exact absurd y196 n189) (by decide) (by (try simp only [g7_σ17, g9_σ17, g10_σ17, g11_σ17, g12_σ17, g13_σ17, g14_σ17, g15_σ17, g20_σ17, g22_σ17, g23_σ17, g24_σ17, g25_σ17]); rw [r230_σ17]; exact hNP) (Or.inl (by decide))) (by decide) (fun v22 σ23 hOσ23 hT hqv22 => ?_)
            have hqv22 : (TOK σ23.1 ∧ ZB σ23.1 ∧ PIL σ23.1 1 ∧ ((σ23.1 218 22).toInt.toNat ≤ (σ17.1 218 22).toInt.toNat ∧ lst (σ17.1 230) (σ23.1 218 22).toInt.toNat = popP (lst (σ17.1 230) (σ17.1 218 22).toInt.toNat)) ∧ ((σ23.1 218 22).toInt ≤ 0 ∨ (rkI (σ17.1 230 ((σ23.1 218 22) - 1).toNatClampNeg)).toInt < (3 : Int32).toInt)) ∧ (σ23.1 218 7 = σ17.1 218 7 ∧ σ23.1 218 9 = σ17.1 218 9 ∧ σ23.1 218 10 = σ17.1 218 10 ∧ σ23.1 218 11 = σ17.1 218 11 ∧ σ23.1 218 12 = σ17.1 218 12 ∧ σ23.1 218 13 = σ17.1 218 13 ∧ σ23.1 218 14 = σ17.1 218 14 ∧ σ23.1 218 15 = σ17.1 218 15 ∧ σ23.1 218 20 = σ17.1 218 20 ∧ σ23.1 218 25 = σ17.1 218 25) := hqv22
            have hkv22 := hqv22
            have hqv22 := hqv22.1
            have r230_σ23 : σ23.1 230 = σ0.1 230 := (hOσ23.2 230 (by decide)).trans r230_σ17
            have hK : TOK σ23.1 := by first | exact hqv22.1 | exact hqv22.1.1 | exact TOK_p eσ23 (by decide) hK
            have hB : ZB σ23.1 := by first | exact hqv22.2.1 | exact hqv22.2.2.2.2.1 | exact ZB_s eσ23 hB
            try simp only [g7_σ17, g9_σ17, g10_σ17, g11_σ17, g12_σ17, g13_σ17, g14_σ17, g15_σ17, g20_σ17, g22_σ17, g23_σ17, g24_σ17, g25_σ17] at hqv22
            have g7_σ23 : σ23.1 218 7 = (σ0.1 218 7) := (hkv22.2.1).trans g7_σ17
            have g9_σ23 : σ23.1 218 9 = (σ0.1 218 9) := (hkv22.2.2.1).trans g9_σ17
            have g10_σ23 : σ23.1 218 10 = (σ14.1 218 10) := (hkv22.2.2.2.1).trans g10_σ17
            have g11_σ23 : σ23.1 218 11 = (σ14.1 218 11) := (hkv22.2.2.2.2.1).trans g11_σ17
            have g12_σ23 : σ23.1 218 12 = (σ14.1 218 12) := (hkv22.2.2.2.2.2.1).trans g12_σ17
            have g13_σ23 : σ23.1 218 13 = (σ14.1 218 13) := (hkv22.2.2.2.2.2.2.1).trans g13_σ17
            have g14_σ23 : σ23.1 218 14 = (σ14.1 218 14) := (hkv22.2.2.2.2.2.2.2.1).trans g14_σ17
            have g15_σ23 : σ23.1 218 15 = (σ14.1 218 15) := (hkv22.2.2.2.2.2.2.2.2.1).trans g15_σ17
            have g20_σ23 : σ23.1 218 20 = (σ0.1 218 20) := (hkv22.2.2.2.2.2.2.2.2.2.1).trans g20_σ17
            have g25_σ23 : σ23.1 218 25 = (σ0.1 218 25) := (hkv22.2.2.2.2.2.2.2.2.2.2).trans g25_σ17
            have h201 := hqv22.2.2.1
            have b201 := PIL_b hqv22.2.2.1 (by decide)
            have l201 := hqv22.2.2.2.1
            have o201 : σ17.1 230 = σ0.1 230 := (hOσ23.2 230 (by decide)).symm.trans r230_σ23
            rw [o201] at l201
            exact ok_rZ (Or.inr rfl) ⟨hT, (show (TOK σ23.1 ∧ ((σ0.1 218 11).toInt ≤ (σ23.1 218 11).toInt ∧ 0 ≤ (σ23.1 218 22).toInt ∧ (σ23.1 218 22).toInt ≤ 40) ∧ (σ23.1 218 14 = 0 → (σ0.1 218 11).toInt < (σ23.1 218 11).toInt ∧ ∃ c, stp tx n x1 (i, false, (lst (σ0.1 230) (σ0.1 218 22).toInt.toNat), (σ0.1 218 25).toInt.toNat) = some (some c) ∧ REL σ23.1 tx n c ∧ ((1 : Int32) = 0 ↔ c.2.1 = false)) ∧ (¬ σ23.1 218 14 = 0 → stp tx n x1 (i, false, (lst (σ0.1 230) (σ0.1 218 22).toInt.toNat), (σ0.1 218 25).toInt.toNat) = none) ∧ ZB σ23.1) ∧ (σ23.1 218 7 = σ0.1 218 7 ∧ σ23.1 218 9 = σ0.1 218 9 ∧ σ23.1 218 20 = σ0.1 218 20 ∧ σ23.1 218 25 = σ0.1 218 25) from ⟨by first | exact ⟨hK, ⟨m34.1, m34.2.1⟩, fun q => ⟨(m34.2.2.1 q).1.1, (tkE tx n i, false, decide (tkK tx n i = 40) :: (lst (σ0.1 230) (σ0.1 218 22).toInt.toNat), (σ0.1 218 25).toInt.toNat), (stp_o hpx).trans (if_neg (m34.2.2.1 q).2.1.1), ⟨⟨(m34.2.2.1 q).2.1.2, le1⟩, ⟨by first | exact ((m34.2.2.1 q).2.2.1.trans (by rw [k16]; rfl)).symm | exact ((m34.2.2.1 q).2.2.1.trans (by rw [k7, decide_eq_false (z50 w7.1)]; rfl)).symm, (m34.2.2.1 q).2.2.2⟩, by rw [g25_σ23], fun h => Bool.noConfusion (show false = true from h), fun _ => (m34.2.2.1 q).1.2⟩, ⟨fun _ => rfl, fun _ => rfl⟩⟩, fun q => (stp_o hpx).trans (if_pos (m34.2.2.2 q)), hB⟩ | exact absurd e7 n22 | exact absurd e22 n7 | exact absurd y196 n189 | exact ⟨hK, ⟨by (try simp only [g7_σ23, g9_σ23, g10_σ23, g11_σ23, g12_σ23, g13_σ23, g14_σ23, g15_σ23, g20_σ23, g25_σ23]); omega, by (try simp only [g7_σ23, g9_σ23, g10_σ23, g11_σ23, g12_σ23, g13_σ23, g14_σ23, g15_σ23, g20_σ23, g25_σ23]); omega⟩, fun q => absurd q (by (try simp only [g7_σ23, g9_σ23, g10_σ23, g11_σ23, g12_σ23, g13_σ23, g14_σ23, g15_σ23, g20_σ23, g25_σ23]); exact n196), fun _ => st9, hB⟩ | exact ⟨hK, ⟨by (try simp only [g7_σ23, g9_σ23, g10_σ23, g11_σ23, g12_σ23, g13_σ23, g14_σ23, g15_σ23, g20_σ23, g25_σ23]); omega, by omega⟩, fun _ => ⟨by (try simp only [g7_σ23, g9_σ23, g10_σ23, g11_σ23, g12_σ23, g13_σ23, g14_σ23, g15_σ23, g20_σ23, g25_σ23]); exact ga9, _, st9, ⟨⟨RX_i g9_σ23 g10_σ23 g11_σ23 g12_σ23 g13_σ23 ((hT.2 224 (by decide)).trans tE) nE pK9, le9⟩, ⟨by rw [r230_σ23]; exact l201.2.symm, by rw [r230_σ23]; exact NP_le hNP l201.1⟩, by rw [g25_σ23], fun _ => ⟨h201, popP_i _⟩, fun h => Bool.noConfusion (show true = false from h)⟩, ⟨fun h => absurd h (by decide), fun h => Bool.noConfusion (show true = false from h)⟩⟩, fun q => absurd (by (try simp only [g7_σ23, g9_σ23, g10_σ23, g11_σ23, g12_σ23, g13_σ23, g14_σ23, g15_σ23, g20_σ23, g25_σ23]); exact y196) q, hB⟩, g7_σ23, g9_σ23, g20_σ23, g25_σ23⟩)⟩
        · have l68 := hc18
          rw [Int32.le_iff_toInt_le] at l68
          try simp only [Int32.reduceToInt] at l68
          have s68 : (x5_17 + 1).toInt = x5_17.toInt + 1 := by rw [ti_add]; simp only [Int32.reduceToInt]; omega
          refine ok_gC rfl ?_
          refine ok_zbX (Q := fun V => (V = 0 → ¬ σ17.1 218 14 = 0) ∧ (¬ V = 0 → σ17.1 218 14 = 0)) (x_X12_good) (fun v24 hqv24 => ?_)
          have hqv24 : (v24 = 0 → ¬ σ17.1 218 14 = 0) ∧ (¬ v24 = 0 → σ17.1 218 14 = 0) := hqv24
          try simp only [g7_σ17, g9_σ17, g10_σ17, g11_σ17, g12_σ17, g13_σ17, g14_σ17, g15_σ17, g20_σ17, g22_σ17, g23_σ17, g24_σ17, g25_σ17, hT.2 224 (by decide)] at hqv24
          refine ok_if (fun hc26 => ?_) (fun hc26 => ?_)
          · have qhc26 := hqv24.1 hc26
            rw [J_X12_readsPart_192.eq_1]
            refine ok_gC rfl ?_
            refine ok_zbX (Q := fun V => (V = 0 → ¬ σ17.1 218 14 = 0) ∧ (¬ V = 0 → σ17.1 218 14 = 0)) (x_X12_good) (fun v27 hqv27 => ?_)
            have hqv27 : (v27 = 0 → ¬ σ17.1 218 14 = 0) ∧ (¬ v27 = 0 → σ17.1 218 14 = 0) := hqv27
            try simp only [g7_σ17, g9_σ17, g10_σ17, g11_σ17, g12_σ17, g13_σ17, g14_σ17, g15_σ17, g20_σ17, g22_σ17, g23_σ17, g24_σ17, g25_σ17, hT.2 224 (by decide)] at hqv27
            refine ok_if (fun hc29 => ?_) (fun hc29 => ?_)
            · have qhc29 := hqv27.1 hc29
              have n196 := qhc29
              have st9 : stp tx n x1 (i, false, (lst (σ0.1 230) (σ0.1 218 22).toInt.toNat), (σ0.1 218 25).toInt.toNat) = none := by first | exact (stp_n h0q k44).trans (if_neg (f51 n196).2) | exact (stp_f h0q k122).trans (by rw [f127 n196]; rfl) | exact stp_z h0q m44 m122 i140.2 | exact absurd hg n196
              exact ok_rZ (Or.inr rfl) ⟨hT, (show (TOK σ17.1 ∧ ((σ0.1 218 11).toInt ≤ (σ17.1 218 11).toInt ∧ 0 ≤ (σ17.1 218 22).toInt ∧ (σ17.1 218 22).toInt ≤ 40) ∧ (σ17.1 218 14 = 0 → (σ0.1 218 11).toInt < (σ17.1 218 11).toInt ∧ ∃ c, stp tx n x1 (i, false, (lst (σ0.1 230) (σ0.1 218 22).toInt.toNat), (σ0.1 218 25).toInt.toNat) = some (some c) ∧ REL σ17.1 tx n c ∧ ((1 : Int32) = 0 ↔ c.2.1 = false)) ∧ (¬ σ17.1 218 14 = 0 → stp tx n x1 (i, false, (lst (σ0.1 230) (σ0.1 218 22).toInt.toNat), (σ0.1 218 25).toInt.toNat) = none) ∧ ZB σ17.1) ∧ (σ17.1 218 7 = σ0.1 218 7 ∧ σ17.1 218 9 = σ0.1 218 9 ∧ σ17.1 218 20 = σ0.1 218 20 ∧ σ17.1 218 25 = σ0.1 218 25) from ⟨by first | exact ⟨hK, ⟨m34.1, m34.2.1⟩, fun q => ⟨(m34.2.2.1 q).1.1, (tkE tx n i, false, decide (tkK tx n i = 40) :: (lst (σ0.1 230) (σ0.1 218 22).toInt.toNat), (σ0.1 218 25).toInt.toNat), (stp_o hpx).trans (if_neg (m34.2.2.1 q).2.1.1), ⟨⟨(m34.2.2.1 q).2.1.2, le1⟩, ⟨by first | exact ((m34.2.2.1 q).2.2.1.trans (by rw [k16]; rfl)).symm | exact ((m34.2.2.1 q).2.2.1.trans (by rw [k7, decide_eq_false (z50 w7.1)]; rfl)).symm, (m34.2.2.1 q).2.2.2⟩, by rw [g25_σ17], fun h => Bool.noConfusion (show false = true from h), fun _ => (m34.2.2.1 q).1.2⟩, ⟨fun _ => rfl, fun _ => rfl⟩⟩, fun q => (stp_o hpx).trans (if_pos (m34.2.2.2 q)), hB⟩ | exact absurd e7 n22 | exact absurd e22 n7 | exact absurd y196 n189 | exact ⟨hK, ⟨by (try simp only [g7_σ17, g9_σ17, g10_σ17, g11_σ17, g12_σ17, g13_σ17, g14_σ17, g15_σ17, g20_σ17, g22_σ17, g23_σ17, g24_σ17, g25_σ17]); omega, by (try simp only [g7_σ17, g9_σ17, g10_σ17, g11_σ17, g12_σ17, g13_σ17, g14_σ17, g15_σ17, g20_σ17, g22_σ17, g23_σ17, g24_σ17, g25_σ17]); omega⟩, fun q => absurd q (by (try simp only [g7_σ17, g9_σ17, g10_σ17, g11_σ17, g12_σ17, g13_σ17, g14_σ17, g15_σ17, g20_σ17, g22_σ17, g23_σ17, g24_σ17, g25_σ17]); exact n196), fun _ => st9, hB⟩ | exact ⟨hK, ⟨by (try simp only [g7_σ17, g9_σ17, g10_σ17, g11_σ17, g12_σ17, g13_σ17, g14_σ17, g15_σ17, g20_σ17, g22_σ17, g23_σ17, g24_σ17, g25_σ17]); omega, by omega⟩, fun _ => ⟨by (try simp only [g7_σ17, g9_σ17, g10_σ17, g11_σ17, g12_σ17, g13_σ17, g14_σ17, g15_σ17, g20_σ17, g22_σ17, g23_σ17, g24_σ17, g25_σ17]); exact ga9, _, st9, ⟨⟨RX_i g9_σ17 g10_σ17 g11_σ17 g12_σ17 g13_σ17 ((hT.2 224 (by decide)).trans tE) nE pK9, le9⟩, ⟨by rw [r230_σ17]; exact l201.2.symm, by rw [r230_σ17]; exact NP_le hNP l201.1⟩, by rw [g25_σ17], fun _ => ⟨h201, popP_i _⟩, fun h => Bool.noConfusion (show true = false from h)⟩, ⟨fun h => absurd h (by decide), fun h => Bool.noConfusion (show true = false from h)⟩⟩, fun q => absurd (by (try simp only [g7_σ17, g9_σ17, g10_σ17, g11_σ17, g12_σ17, g13_σ17, g14_σ17, g15_σ17, g20_σ17, g22_σ17, g23_σ17, g24_σ17, g25_σ17]); exact y196) q, hB⟩, g7_σ17, g9_σ17, g20_σ17, g25_σ17⟩)⟩
            · have qhc29 := hqv27.2 hc29
              have y196 := qhc29
              obtain ⟨P9, st9, pK9, ga9, le9⟩ : ∃ p, stp tx n x1 (i, false, (lst (σ0.1 230) (σ0.1 218 22).toInt.toNat), (σ0.1 218 25).toInt.toNat) = some (some (p, true, popP (lst (σ0.1 230) (σ0.1 218 22).toInt.toNat), (σ0.1 218 25).toInt.toNat)) ∧ TKV (σ14.1 218 11) (σ14.1 218 10) (σ14.1 218 12) (σ14.1 218 13) tx n p ∧ (σ0.1 218 11).toInt < (σ14.1 218 11).toInt ∧ p ≤ n := by first | exact ⟨_, (stp_n h0q k44).trans (if_pos (u51 y196).1.2), (u51 y196).2.2.2, (u51 y196).1.1, le1⟩ | (obtain ⟨j, fj, rj⟩ := (u127 y196).2; exact ⟨j, (stp_f h0q k122).trans (by rw [fj]; rfl), rj.2, (u127 y196).1, fam_le hi fj⟩) | exact ⟨_, stp_a h0q k137.1.1, k137.2.2, k137.1.2, le1⟩ | exact absurd y196 n189
              refine ok_gC rfl ?_
              refine ok_zbT (Q := fun V σ => (TOK σ.1 ∧ ZB σ.1 ∧ PIL σ.1 1 ∧ ((σ.1 218 22).toInt.toNat ≤ (σ17.1 218 22).toInt.toNat ∧ lst (σ17.1 230) (σ.1 218 22).toInt.toNat = popP (lst (σ17.1 230) (σ17.1 218 22).toInt.toNat)) ∧ ((σ.1 218 22).toInt ≤ 0 ∨ (rkI (σ17.1 230 ((σ.1 218 22) - 1).toNatClampNeg)).toInt < (3 : Int32).toInt)) ∧ (σ.1 218 7 = σ17.1 218 7 ∧ σ.1 218 9 = σ17.1 218 9 ∧ σ.1 218 10 = σ17.1 218 10 ∧ σ.1 218 11 = σ17.1 218 11 ∧ σ.1 218 12 = σ17.1 218 12 ∧ σ.1 218 13 = σ17.1 218 13 ∧ σ.1 218 14 = σ17.1 218 14 ∧ σ.1 218 15 = σ17.1 218 15 ∧ σ.1 218 20 = σ17.1 218 20 ∧ σ.1 218 25 = σ17.1 218 25)) hT (s_X12_settlesTo_r hN (hR.tr hT) (hK) (by rw [hT.2 224 (by decide)]; exact hY) (hB) (by (try simp only [g7_σ17, g9_σ17, g10_σ17, g11_σ17, g12_σ17, g13_σ17, g14_σ17, g15_σ17, g20_σ17, g22_σ17, g23_σ17, g24_σ17, g25_σ17]); exact ha) (by first | exact PIL_i g22_σ17 g23_σ17 g24_σ17 r230_σ17 hS h22 hd hd6 s57 | exact absurd y196 n189) (by decide) (by (try simp only [g7_σ17, g9_σ17, g10_σ17, g11_σ17, g12_σ17, g13_σ17, g14_σ17, g15_σ17, g20_σ17, g22_σ17, g23_σ17, g24_σ17, g25_σ17]); rw [r230_σ17]; exact hNP) (Or.inl (by decide))) (by decide) (fun v30 σ31 hOσ31 hT hqv30 => ?_)
              have hqv30 : (TOK σ31.1 ∧ ZB σ31.1 ∧ PIL σ31.1 1 ∧ ((σ31.1 218 22).toInt.toNat ≤ (σ17.1 218 22).toInt.toNat ∧ lst (σ17.1 230) (σ31.1 218 22).toInt.toNat = popP (lst (σ17.1 230) (σ17.1 218 22).toInt.toNat)) ∧ ((σ31.1 218 22).toInt ≤ 0 ∨ (rkI (σ17.1 230 ((σ31.1 218 22) - 1).toNatClampNeg)).toInt < (3 : Int32).toInt)) ∧ (σ31.1 218 7 = σ17.1 218 7 ∧ σ31.1 218 9 = σ17.1 218 9 ∧ σ31.1 218 10 = σ17.1 218 10 ∧ σ31.1 218 11 = σ17.1 218 11 ∧ σ31.1 218 12 = σ17.1 218 12 ∧ σ31.1 218 13 = σ17.1 218 13 ∧ σ31.1 218 14 = σ17.1 218 14 ∧ σ31.1 218 15 = σ17.1 218 15 ∧ σ31.1 218 20 = σ17.1 218 20 ∧ σ31.1 218 25 = σ17.1 218 25) := hqv30
              have hkv30 := hqv30
              have hqv30 := hqv30.1
              have r230_σ31 : σ31.1 230 = σ0.1 230 := (hOσ31.2 230 (by decide)).trans r230_σ17
              have hK : TOK σ31.1 := by first | exact hqv30.1 | exact hqv30.1.1 | exact TOK_p eσ31 (by decide) hK
              have hB : ZB σ31.1 := by first | exact hqv30.2.1 | exact hqv30.2.2.2.2.1 | exact ZB_s eσ31 hB
              try simp only [g7_σ17, g9_σ17, g10_σ17, g11_σ17, g12_σ17, g13_σ17, g14_σ17, g15_σ17, g20_σ17, g22_σ17, g23_σ17, g24_σ17, g25_σ17] at hqv30
              have g7_σ31 : σ31.1 218 7 = (σ0.1 218 7) := (hkv30.2.1).trans g7_σ17
              have g9_σ31 : σ31.1 218 9 = (σ0.1 218 9) := (hkv30.2.2.1).trans g9_σ17
              have g10_σ31 : σ31.1 218 10 = (σ14.1 218 10) := (hkv30.2.2.2.1).trans g10_σ17
              have g11_σ31 : σ31.1 218 11 = (σ14.1 218 11) := (hkv30.2.2.2.2.1).trans g11_σ17
              have g12_σ31 : σ31.1 218 12 = (σ14.1 218 12) := (hkv30.2.2.2.2.2.1).trans g12_σ17
              have g13_σ31 : σ31.1 218 13 = (σ14.1 218 13) := (hkv30.2.2.2.2.2.2.1).trans g13_σ17
              have g14_σ31 : σ31.1 218 14 = (σ14.1 218 14) := (hkv30.2.2.2.2.2.2.2.1).trans g14_σ17
              have g15_σ31 : σ31.1 218 15 = (σ14.1 218 15) := (hkv30.2.2.2.2.2.2.2.2.1).trans g15_σ17
              have g20_σ31 : σ31.1 218 20 = (σ0.1 218 20) := (hkv30.2.2.2.2.2.2.2.2.2.1).trans g20_σ17
              have g25_σ31 : σ31.1 218 25 = (σ0.1 218 25) := (hkv30.2.2.2.2.2.2.2.2.2.2).trans g25_σ17
              have h201 := hqv30.2.2.1
              have b201 := PIL_b hqv30.2.2.1 (by decide)
              have l201 := hqv30.2.2.2.1
              have o201 : σ17.1 230 = σ0.1 230 := (hOσ31.2 230 (by decide)).symm.trans r230_σ31
              rw [o201] at l201
              exact ok_rZ (Or.inr rfl) ⟨hT, (show (TOK σ31.1 ∧ ((σ0.1 218 11).toInt ≤ (σ31.1 218 11).toInt ∧ 0 ≤ (σ31.1 218 22).toInt ∧ (σ31.1 218 22).toInt ≤ 40) ∧ (σ31.1 218 14 = 0 → (σ0.1 218 11).toInt < (σ31.1 218 11).toInt ∧ ∃ c, stp tx n x1 (i, false, (lst (σ0.1 230) (σ0.1 218 22).toInt.toNat), (σ0.1 218 25).toInt.toNat) = some (some c) ∧ REL σ31.1 tx n c ∧ ((1 : Int32) = 0 ↔ c.2.1 = false)) ∧ (¬ σ31.1 218 14 = 0 → stp tx n x1 (i, false, (lst (σ0.1 230) (σ0.1 218 22).toInt.toNat), (σ0.1 218 25).toInt.toNat) = none) ∧ ZB σ31.1) ∧ (σ31.1 218 7 = σ0.1 218 7 ∧ σ31.1 218 9 = σ0.1 218 9 ∧ σ31.1 218 20 = σ0.1 218 20 ∧ σ31.1 218 25 = σ0.1 218 25) from ⟨by first | exact ⟨hK, ⟨m34.1, m34.2.1⟩, fun q => ⟨(m34.2.2.1 q).1.1, (tkE tx n i, false, decide (tkK tx n i = 40) :: (lst (σ0.1 230) (σ0.1 218 22).toInt.toNat), (σ0.1 218 25).toInt.toNat), (stp_o hpx).trans (if_neg (m34.2.2.1 q).2.1.1), ⟨⟨(m34.2.2.1 q).2.1.2, le1⟩, ⟨by first | exact ((m34.2.2.1 q).2.2.1.trans (by rw [k16]; rfl)).symm | exact ((m34.2.2.1 q).2.2.1.trans (by rw [k7, decide_eq_false (z50 w7.1)]; rfl)).symm, (m34.2.2.1 q).2.2.2⟩, by rw [g25_σ31], fun h => Bool.noConfusion (show false = true from h), fun _ => (m34.2.2.1 q).1.2⟩, ⟨fun _ => rfl, fun _ => rfl⟩⟩, fun q => (stp_o hpx).trans (if_pos (m34.2.2.2 q)), hB⟩ | exact absurd e7 n22 | exact absurd e22 n7 | exact absurd y196 n189 | exact ⟨hK, ⟨by (try simp only [g7_σ31, g9_σ31, g10_σ31, g11_σ31, g12_σ31, g13_σ31, g14_σ31, g15_σ31, g20_σ31, g25_σ31]); omega, by (try simp only [g7_σ31, g9_σ31, g10_σ31, g11_σ31, g12_σ31, g13_σ31, g14_σ31, g15_σ31, g20_σ31, g25_σ31]); omega⟩, fun q => absurd q (by (try simp only [g7_σ31, g9_σ31, g10_σ31, g11_σ31, g12_σ31, g13_σ31, g14_σ31, g15_σ31, g20_σ31, g25_σ31]); exact n196), fun _ => st9, hB⟩ | exact ⟨hK, ⟨by (try simp only [g7_σ31, g9_σ31, g10_σ31, g11_σ31, g12_σ31, g13_σ31, g14_σ31, g15_σ31, g20_σ31, g25_σ31]); omega, by omega⟩, fun _ => ⟨by (try simp only [g7_σ31, g9_σ31, g10_σ31, g11_σ31, g12_σ31, g13_σ31, g14_σ31, g15_σ31, g20_σ31, g25_σ31]); exact ga9, _, st9, ⟨⟨RX_i g9_σ31 g10_σ31 g11_σ31 g12_σ31 g13_σ31 ((hT.2 224 (by decide)).trans tE) nE pK9, le9⟩, ⟨by rw [r230_σ31]; exact l201.2.symm, by rw [r230_σ31]; exact NP_le hNP l201.1⟩, by rw [g25_σ31], fun _ => ⟨h201, popP_i _⟩, fun h => Bool.noConfusion (show true = false from h)⟩, ⟨fun h => absurd h (by decide), fun h => Bool.noConfusion (show true = false from h)⟩⟩, fun q => absurd (by (try simp only [g7_σ31, g9_σ31, g10_σ31, g11_σ31, g12_σ31, g13_σ31, g14_σ31, g15_σ31, g20_σ31, g25_σ31]); exact y196) q, hB⟩, g7_σ31, g9_σ31, g20_σ31, g25_σ31⟩)⟩
          · have qhc26 := hqv24.2 hc26
            refine ok_gR (v := 226) hT rfl (hR 218 16 rfl) ?_
            refine ok_gIv rfl g23_σ17 ?_
            refine ok_aIn rfl (by rw [ti_add, q51]; omega) (by rw [ti_add, q51]; omega) (fun v34 ev34 => ?_)
            have zv34 : v34 = 0 ∨ v34 = 1 := by rw [ev34]; exact hB 220 rfl _
            refine ok_s16 hT rfl (by decide) (by rw [ti_add, m57]; omega) (by rw [ti_add, m57]; omega) (fun σ35 eσ35 hOσ35 hT => ?_)
            have r230_σ35 : σ35.1 230 = σ0.1 230 := (hOσ35.2 230 (by decide)).trans r230_σ17
            have hK : TOK σ35.1 := TOK_tr hOσ35 (by decide) (by decide) hK
            have hB : ZB σ35.1 := by first | exact HQ.2.1 | exact HQ.2.2.2.2.1 | exact ZB_s eσ35 hB
            have g7_σ35 : σ35.1 218 7 = (σ0.1 218 7) := (congrFun (hOσ35.2 218 (by decide)) 7).trans g7_σ17
            have g9_σ35 : σ35.1 218 9 = (σ0.1 218 9) := (congrFun (hOσ35.2 218 (by decide)) 9).trans g9_σ17
            have g10_σ35 : σ35.1 218 10 = (σ14.1 218 10) := (congrFun (hOσ35.2 218 (by decide)) 10).trans g10_σ17
            have g11_σ35 : σ35.1 218 11 = (σ14.1 218 11) := (congrFun (hOσ35.2 218 (by decide)) 11).trans g11_σ17
            have g12_σ35 : σ35.1 218 12 = (σ14.1 218 12) := (congrFun (hOσ35.2 218 (by decide)) 12).trans g12_σ17
            have g13_σ35 : σ35.1 218 13 = (σ14.1 218 13) := (congrFun (hOσ35.2 218 (by decide)) 13).trans g13_σ17
            have g14_σ35 : σ35.1 218 14 = (σ14.1 218 14) := (congrFun (hOσ35.2 218 (by decide)) 14).trans g14_σ17
            have g15_σ35 : σ35.1 218 15 = (σ14.1 218 15) := (congrFun (hOσ35.2 218 (by decide)) 15).trans g15_σ17
            have g20_σ35 : σ35.1 218 20 = (σ0.1 218 20) := (congrFun (hOσ35.2 218 (by decide)) 20).trans g20_σ17
            have g22_σ35 : σ35.1 218 22 = (σ0.1 218 22) := (congrFun (hOσ35.2 218 (by decide)) 22).trans g22_σ17
            have g23_σ35 : σ35.1 218 23 = (σ16.1 218 23) := (congrFun (hOσ35.2 218 (by decide)) 23).trans g23_σ17
            have g24_σ35 : σ35.1 218 24 = (σ0.1 218 24) := (congrFun (hOσ35.2 218 (by decide)) 24).trans g24_σ17
            have g25_σ35 : σ35.1 218 25 = (σ0.1 218 25) := (congrFun (hOσ35.2 218 (by decide)) 25).trans g25_σ17
            exact ih63_17 (x5_17 + 1, σ35) (show Tr [218, 226, 227, 228, 229, 230] σ0 σ35 ∧ (0 ≤ (x5_17 + 1).toInt) ∧ (TOK σ35.1) ∧ (ZB σ35.1) ∧ (σ35.1 218 7 = (σ0.1 218 7)) ∧ (σ35.1 218 9 = (σ0.1 218 9)) ∧ (σ35.1 218 10 = (σ14.1 218 10)) ∧ (σ35.1 218 11 = (σ14.1 218 11)) ∧ (σ35.1 218 12 = (σ14.1 218 12)) ∧ (σ35.1 218 13 = (σ14.1 218 13)) ∧ (σ35.1 218 14 = (σ14.1 218 14)) ∧ (σ35.1 218 15 = (σ14.1 218 15)) ∧ (σ35.1 218 20 = (σ0.1 218 20)) ∧ (σ35.1 218 22 = (σ0.1 218 22)) ∧ (σ35.1 218 23 = (σ16.1 218 23)) ∧ (σ35.1 218 24 = (σ0.1 218 24)) ∧ (σ35.1 218 25 = (σ0.1 218 25)) ∧ (σ35.1 230 = σ0.1 230) from ⟨hT, (by rw [s68]; omega), hK, hB, g7_σ35, g9_σ35, g10_σ35, g11_σ35, g12_σ35, g13_σ35, g14_σ35, g15_σ35, g20_σ35, g22_σ35, g23_σ35, g24_σ35, g25_σ35, r230_σ35⟩) (show (1024 - (x5_17 + 1).toInt).toNat < (1024 - x5_17.toInt).toNat from (by rw [s68]; omega))
      · have m44 : ¬ tkK tx n i = 2 := fun q => hc12 (pK.2.1.trans q)
        refine ok_gI rfl ?_
        refine ok_if (fun hc37 => ?_) (fun hc37 => ?_)
        · have e122 := hc37
          have k122 : tkK tx n i = 123 := pK.2.1.symm.trans hc37
          refine ok_gC rfl ?_
          refine ok_zbT (Q := fun V σ => (TOK σ.1 ∧ (σ0.1 218 11).toInt ≤ (σ.1 218 11).toInt ∧ (σ.1 218 14 = 0 → (σ0.1 218 11).toInt < (σ.1 218 11).toInt ∧ ∃ j, fam tx n x1 i = some j ∧ RX σ.1 tx n j) ∧ (¬ σ.1 218 14 = 0 → fam tx n x1 i = none) ∧ ZB σ.1 ∧ σ.1 218 23 = σ0.1 218 23 + 1) ∧ (σ.1 218 7 = σ0.1 218 7 ∧ σ.1 218 9 = σ0.1 218 9 ∧ σ.1 218 20 = σ0.1 218 20 ∧ σ.1 218 22 = σ0.1 218 22 ∧ σ.1 218 24 = σ0.1 218 24 ∧ σ.1 218 25 = σ0.1 218 25)) hT (s_X12_readsSets_r hN (hR.tr hT) (hK) (by rw [hT.2 224 (by decide)]; exact hY) (RX_i rfl rfl rfl rfl rfl ((hT.2 224 (by decide)).trans tE) nE pK) (hg) (hB) (hn) (by skip; omega) (by rw [e122]; decide) (hi)) (by decide) (fun v38 σ39 hOσ39 hT hqv38 => ?_)
          have hqv38 : (TOK σ39.1 ∧ (σ0.1 218 11).toInt ≤ (σ39.1 218 11).toInt ∧ (σ39.1 218 14 = 0 → (σ0.1 218 11).toInt < (σ39.1 218 11).toInt ∧ ∃ j, fam tx n x1 i = some j ∧ RX σ39.1 tx n j) ∧ (¬ σ39.1 218 14 = 0 → fam tx n x1 i = none) ∧ ZB σ39.1 ∧ σ39.1 218 23 = σ0.1 218 23 + 1) ∧ (σ39.1 218 7 = σ0.1 218 7 ∧ σ39.1 218 9 = σ0.1 218 9 ∧ σ39.1 218 20 = σ0.1 218 20 ∧ σ39.1 218 22 = σ0.1 218 22 ∧ σ39.1 218 24 = σ0.1 218 24 ∧ σ39.1 218 25 = σ0.1 218 25) := hqv38
          have hkv38 := hqv38
          have hqv38 := hqv38.1
          have r230_σ39 : σ39.1 230 = σ0.1 230 := hOσ39.2 230 (by decide)
          have hK : TOK σ39.1 := by first | exact hqv38.1 | exact hqv38.1.1 | exact TOK_p eσ39 (by decide) hK
          have hB : ZB σ39.1 := by first | exact hqv38.2.1 | exact hqv38.2.2.2.2.1 | exact ZB_s eσ39 hB
          have g7_σ39 : σ39.1 218 7 = (σ0.1 218 7) := hkv38.2.1
          have g9_σ39 : σ39.1 218 9 = (σ0.1 218 9) := hkv38.2.2.1
          have g20_σ39 : σ39.1 218 20 = (σ0.1 218 20) := hkv38.2.2.2.1
          have g22_σ39 : σ39.1 218 22 = (σ0.1 218 22) := hkv38.2.2.2.2.1
          have g24_σ39 : σ39.1 218 24 = (σ0.1 218 24) := hkv38.2.2.2.2.2.1
          have g25_σ39 : σ39.1 218 25 = (σ0.1 218 25) := hkv38.2.2.2.2.2.2
          have m127 := hqv38.2.1
          have u127 := hqv38.2.2.1
          have f127 := hqv38.2.2.2.1
          have g57 := hqv38.2.2.2.2.2
          have s57 : (σ39.1 218 23).toInt = ((b8 + 1 : Nat) : Int) := by rw [g57, ti_add]; simp only [Int32.reduceToInt]; omega
          have p57 : ((σ39.1 218 23) - 1).toInt = (b8 : Int) := by rw [ti_sub, s57]; simp only [Int32.reduceToInt]; omega
          have m57 := p1024 p57 (by omega) (by omega)
          rw [J_X12_readsPart_192.eq_1]
          refine ok_gC rfl ?_
          refine ok_zbX (Q := fun V => (V = 0 → ¬ σ39.1 218 14 = 0) ∧ (¬ V = 0 → σ39.1 218 14 = 0)) (x_X12_good) (fun v40 hqv40 => ?_)
          have hqv40 : (v40 = 0 → ¬ σ39.1 218 14 = 0) ∧ (¬ v40 = 0 → σ39.1 218 14 = 0) := hqv40
          try simp only [g7_σ39, g9_σ39, g20_σ39, g22_σ39, g24_σ39, g25_σ39, hT.2 224 (by decide)] at hqv40
          refine ok_if (fun hc42 => ?_) (fun hc42 => ?_)
          · have qhc42 := hqv40.1 hc42
            have n196 := qhc42
            have st9 : stp tx n x1 (i, false, (lst (σ0.1 230) (σ0.1 218 22).toInt.toNat), (σ0.1 218 25).toInt.toNat) = none := by first | exact (stp_n h0q k44).trans (if_neg (f51 n196).2) | exact (stp_f h0q k122).trans (by rw [f127 n196]; rfl) | exact stp_z h0q m44 m122 i140.2 | exact absurd hg n196
            exact ok_rZ (Or.inr rfl) ⟨hT, (show (TOK σ39.1 ∧ ((σ0.1 218 11).toInt ≤ (σ39.1 218 11).toInt ∧ 0 ≤ (σ39.1 218 22).toInt ∧ (σ39.1 218 22).toInt ≤ 40) ∧ (σ39.1 218 14 = 0 → (σ0.1 218 11).toInt < (σ39.1 218 11).toInt ∧ ∃ c, stp tx n x1 (i, false, (lst (σ0.1 230) (σ0.1 218 22).toInt.toNat), (σ0.1 218 25).toInt.toNat) = some (some c) ∧ REL σ39.1 tx n c ∧ ((1 : Int32) = 0 ↔ c.2.1 = false)) ∧ (¬ σ39.1 218 14 = 0 → stp tx n x1 (i, false, (lst (σ0.1 230) (σ0.1 218 22).toInt.toNat), (σ0.1 218 25).toInt.toNat) = none) ∧ ZB σ39.1) ∧ (σ39.1 218 7 = σ0.1 218 7 ∧ σ39.1 218 9 = σ0.1 218 9 ∧ σ39.1 218 20 = σ0.1 218 20 ∧ σ39.1 218 25 = σ0.1 218 25) from ⟨by first | exact ⟨hK, ⟨m34.1, m34.2.1⟩, fun q => ⟨(m34.2.2.1 q).1.1, (tkE tx n i, false, decide (tkK tx n i = 40) :: (lst (σ0.1 230) (σ0.1 218 22).toInt.toNat), (σ0.1 218 25).toInt.toNat), (stp_o hpx).trans (if_neg (m34.2.2.1 q).2.1.1), ⟨⟨(m34.2.2.1 q).2.1.2, le1⟩, ⟨by first | exact ((m34.2.2.1 q).2.2.1.trans (by rw [k16]; rfl)).symm | exact ((m34.2.2.1 q).2.2.1.trans (by rw [k7, decide_eq_false (z50 w7.1)]; rfl)).symm, (m34.2.2.1 q).2.2.2⟩, by rw [g25_σ39], fun h => Bool.noConfusion (show false = true from h), fun _ => (m34.2.2.1 q).1.2⟩, ⟨fun _ => rfl, fun _ => rfl⟩⟩, fun q => (stp_o hpx).trans (if_pos (m34.2.2.2 q)), hB⟩ | exact absurd e7 n22 | exact absurd e22 n7 | exact absurd y196 n189 | exact ⟨hK, ⟨by (try simp only [g7_σ39, g9_σ39, g20_σ39, g22_σ39, g24_σ39, g25_σ39]); omega, by (try simp only [g7_σ39, g9_σ39, g20_σ39, g22_σ39, g24_σ39, g25_σ39]); omega⟩, fun q => absurd q (by (try simp only [g7_σ39, g9_σ39, g20_σ39, g22_σ39, g24_σ39, g25_σ39]); exact n196), fun _ => st9, hB⟩ | exact ⟨hK, ⟨by (try simp only [g7_σ39, g9_σ39, g20_σ39, g22_σ39, g24_σ39, g25_σ39]); omega, by omega⟩, fun _ => ⟨by (try simp only [g7_σ39, g9_σ39, g20_σ39, g22_σ39, g24_σ39, g25_σ39]); exact ga9, _, st9, ⟨⟨RX_i g9_σ39 rfl rfl rfl rfl ((hT.2 224 (by decide)).trans tE) nE pK9, le9⟩, ⟨by rw [r230_σ39]; exact l201.2.symm, by rw [r230_σ39]; exact NP_le hNP l201.1⟩, by rw [g25_σ39], fun _ => ⟨h201, popP_i _⟩, fun h => Bool.noConfusion (show true = false from h)⟩, ⟨fun h => absurd h (by decide), fun h => Bool.noConfusion (show true = false from h)⟩⟩, fun q => absurd (by (try simp only [g7_σ39, g9_σ39, g20_σ39, g22_σ39, g24_σ39, g25_σ39]); exact y196) q, hB⟩, g7_σ39, g9_σ39, g20_σ39, g25_σ39⟩)⟩
          · have qhc42 := hqv40.2 hc42
            have y196 := qhc42
            obtain ⟨P9, st9, pK9, ga9, le9⟩ : ∃ p, stp tx n x1 (i, false, (lst (σ0.1 230) (σ0.1 218 22).toInt.toNat), (σ0.1 218 25).toInt.toNat) = some (some (p, true, popP (lst (σ0.1 230) (σ0.1 218 22).toInt.toNat), (σ0.1 218 25).toInt.toNat)) ∧ TKV (σ39.1 218 11) (σ39.1 218 10) (σ39.1 218 12) (σ39.1 218 13) tx n p ∧ (σ0.1 218 11).toInt < (σ39.1 218 11).toInt ∧ p ≤ n := by first | exact ⟨_, (stp_n h0q k44).trans (if_pos (u51 y196).1.2), (u51 y196).2.2.2, (u51 y196).1.1, le1⟩ | (obtain ⟨j, fj, rj⟩ := (u127 y196).2; exact ⟨j, (stp_f h0q k122).trans (by rw [fj]; rfl), rj.2, (u127 y196).1, fam_le hi fj⟩) | exact ⟨_, stp_a h0q k137.1.1, k137.2.2, k137.1.2, le1⟩ | exact absurd y196 n189
            refine ok_gC rfl ?_
            refine ok_zbT (Q := fun V σ => (TOK σ.1 ∧ ZB σ.1 ∧ PIL σ.1 1 ∧ ((σ.1 218 22).toInt.toNat ≤ (σ39.1 218 22).toInt.toNat ∧ lst (σ39.1 230) (σ.1 218 22).toInt.toNat = popP (lst (σ39.1 230) (σ39.1 218 22).toInt.toNat)) ∧ ((σ.1 218 22).toInt ≤ 0 ∨ (rkI (σ39.1 230 ((σ.1 218 22) - 1).toNatClampNeg)).toInt < (3 : Int32).toInt)) ∧ (σ.1 218 7 = σ39.1 218 7 ∧ σ.1 218 9 = σ39.1 218 9 ∧ σ.1 218 10 = σ39.1 218 10 ∧ σ.1 218 11 = σ39.1 218 11 ∧ σ.1 218 12 = σ39.1 218 12 ∧ σ.1 218 13 = σ39.1 218 13 ∧ σ.1 218 14 = σ39.1 218 14 ∧ σ.1 218 15 = σ39.1 218 15 ∧ σ.1 218 20 = σ39.1 218 20 ∧ σ.1 218 25 = σ39.1 218 25)) hT (s_X12_settlesTo_r hN (hR.tr hT) (hK) (by rw [hT.2 224 (by decide)]; exact hY) (hB) (by (try simp only [g7_σ39, g9_σ39, g20_σ39, g22_σ39, g24_σ39, g25_σ39]); exact ha) (by first | exact PIL_i g22_σ39 rfl g24_σ39 r230_σ39 hS h22 hd hd6 s57 | exact absurd y196 n189) (by decide) (by (try simp only [g7_σ39, g9_σ39, g20_σ39, g22_σ39, g24_σ39, g25_σ39]); rw [r230_σ39]; exact hNP) (Or.inl (by decide))) (by decide) (fun v43 σ44 hOσ44 hT hqv43 => ?_)
            have hqv43 : (TOK σ44.1 ∧ ZB σ44.1 ∧ PIL σ44.1 1 ∧ ((σ44.1 218 22).toInt.toNat ≤ (σ39.1 218 22).toInt.toNat ∧ lst (σ39.1 230) (σ44.1 218 22).toInt.toNat = popP (lst (σ39.1 230) (σ39.1 218 22).toInt.toNat)) ∧ ((σ44.1 218 22).toInt ≤ 0 ∨ (rkI (σ39.1 230 ((σ44.1 218 22) - 1).toNatClampNeg)).toInt < (3 : Int32).toInt)) ∧ (σ44.1 218 7 = σ39.1 218 7 ∧ σ44.1 218 9 = σ39.1 218 9 ∧ σ44.1 218 10 = σ39.1 218 10 ∧ σ44.1 218 11 = σ39.1 218 11 ∧ σ44.1 218 12 = σ39.1 218 12 ∧ σ44.1 218 13 = σ39.1 218 13 ∧ σ44.1 218 14 = σ39.1 218 14 ∧ σ44.1 218 15 = σ39.1 218 15 ∧ σ44.1 218 20 = σ39.1 218 20 ∧ σ44.1 218 25 = σ39.1 218 25) := hqv43
            have hkv43 := hqv43
            have hqv43 := hqv43.1
            have r230_σ44 : σ44.1 230 = σ0.1 230 := (hOσ44.2 230 (by decide)).trans r230_σ39
            have hK : TOK σ44.1 := by first | exact hqv43.1 | exact hqv43.1.1 | exact TOK_p eσ44 (by decide) hK
            have hB : ZB σ44.1 := by first | exact hqv43.2.1 | exact hqv43.2.2.2.2.1 | exact ZB_s eσ44 hB
            try simp only [g7_σ39, g9_σ39, g20_σ39, g22_σ39, g24_σ39, g25_σ39] at hqv43
            have g7_σ44 : σ44.1 218 7 = (σ0.1 218 7) := (hkv43.2.1).trans g7_σ39
            have g9_σ44 : σ44.1 218 9 = (σ0.1 218 9) := (hkv43.2.2.1).trans g9_σ39
            have g10_σ44 : σ44.1 218 10 = (σ39.1 218 10) := hkv43.2.2.2.1
            have g11_σ44 : σ44.1 218 11 = (σ39.1 218 11) := hkv43.2.2.2.2.1
            have g12_σ44 : σ44.1 218 12 = (σ39.1 218 12) := hkv43.2.2.2.2.2.1
            have g13_σ44 : σ44.1 218 13 = (σ39.1 218 13) := hkv43.2.2.2.2.2.2.1
            have g14_σ44 : σ44.1 218 14 = (σ39.1 218 14) := hkv43.2.2.2.2.2.2.2.1
            have g15_σ44 : σ44.1 218 15 = (σ39.1 218 15) := hkv43.2.2.2.2.2.2.2.2.1
            have g20_σ44 : σ44.1 218 20 = (σ0.1 218 20) := (hkv43.2.2.2.2.2.2.2.2.2.1).trans g20_σ39
            have g25_σ44 : σ44.1 218 25 = (σ0.1 218 25) := (hkv43.2.2.2.2.2.2.2.2.2.2).trans g25_σ39
            have h201 := hqv43.2.2.1
            have b201 := PIL_b hqv43.2.2.1 (by decide)
            have l201 := hqv43.2.2.2.1
            have o201 : σ39.1 230 = σ0.1 230 := (hOσ44.2 230 (by decide)).symm.trans r230_σ44
            rw [o201] at l201
            exact ok_rZ (Or.inr rfl) ⟨hT, (show (TOK σ44.1 ∧ ((σ0.1 218 11).toInt ≤ (σ44.1 218 11).toInt ∧ 0 ≤ (σ44.1 218 22).toInt ∧ (σ44.1 218 22).toInt ≤ 40) ∧ (σ44.1 218 14 = 0 → (σ0.1 218 11).toInt < (σ44.1 218 11).toInt ∧ ∃ c, stp tx n x1 (i, false, (lst (σ0.1 230) (σ0.1 218 22).toInt.toNat), (σ0.1 218 25).toInt.toNat) = some (some c) ∧ REL σ44.1 tx n c ∧ ((1 : Int32) = 0 ↔ c.2.1 = false)) ∧ (¬ σ44.1 218 14 = 0 → stp tx n x1 (i, false, (lst (σ0.1 230) (σ0.1 218 22).toInt.toNat), (σ0.1 218 25).toInt.toNat) = none) ∧ ZB σ44.1) ∧ (σ44.1 218 7 = σ0.1 218 7 ∧ σ44.1 218 9 = σ0.1 218 9 ∧ σ44.1 218 20 = σ0.1 218 20 ∧ σ44.1 218 25 = σ0.1 218 25) from ⟨by first | exact ⟨hK, ⟨m34.1, m34.2.1⟩, fun q => ⟨(m34.2.2.1 q).1.1, (tkE tx n i, false, decide (tkK tx n i = 40) :: (lst (σ0.1 230) (σ0.1 218 22).toInt.toNat), (σ0.1 218 25).toInt.toNat), (stp_o hpx).trans (if_neg (m34.2.2.1 q).2.1.1), ⟨⟨(m34.2.2.1 q).2.1.2, le1⟩, ⟨by first | exact ((m34.2.2.1 q).2.2.1.trans (by rw [k16]; rfl)).symm | exact ((m34.2.2.1 q).2.2.1.trans (by rw [k7, decide_eq_false (z50 w7.1)]; rfl)).symm, (m34.2.2.1 q).2.2.2⟩, by rw [g25_σ44], fun h => Bool.noConfusion (show false = true from h), fun _ => (m34.2.2.1 q).1.2⟩, ⟨fun _ => rfl, fun _ => rfl⟩⟩, fun q => (stp_o hpx).trans (if_pos (m34.2.2.2 q)), hB⟩ | exact absurd e7 n22 | exact absurd e22 n7 | exact absurd y196 n189 | exact ⟨hK, ⟨by (try simp only [g7_σ44, g9_σ44, g10_σ44, g11_σ44, g12_σ44, g13_σ44, g14_σ44, g15_σ44, g20_σ44, g25_σ44]); omega, by (try simp only [g7_σ44, g9_σ44, g10_σ44, g11_σ44, g12_σ44, g13_σ44, g14_σ44, g15_σ44, g20_σ44, g25_σ44]); omega⟩, fun q => absurd q (by (try simp only [g7_σ44, g9_σ44, g10_σ44, g11_σ44, g12_σ44, g13_σ44, g14_σ44, g15_σ44, g20_σ44, g25_σ44]); exact n196), fun _ => st9, hB⟩ | exact ⟨hK, ⟨by (try simp only [g7_σ44, g9_σ44, g10_σ44, g11_σ44, g12_σ44, g13_σ44, g14_σ44, g15_σ44, g20_σ44, g25_σ44]); omega, by omega⟩, fun _ => ⟨by (try simp only [g7_σ44, g9_σ44, g10_σ44, g11_σ44, g12_σ44, g13_σ44, g14_σ44, g15_σ44, g20_σ44, g25_σ44]); exact ga9, _, st9, ⟨⟨RX_i g9_σ44 g10_σ44 g11_σ44 g12_σ44 g13_σ44 ((hT.2 224 (by decide)).trans tE) nE pK9, le9⟩, ⟨by rw [r230_σ44]; exact l201.2.symm, by rw [r230_σ44]; exact NP_le hNP l201.1⟩, by rw [g25_σ44], fun _ => ⟨h201, popP_i _⟩, fun h => Bool.noConfusion (show true = false from h)⟩, ⟨fun h => absurd h (by decide), fun h => Bool.noConfusion (show true = false from h)⟩⟩, fun q => absurd (by (try simp only [g7_σ44, g9_σ44, g10_σ44, g11_σ44, g12_σ44, g13_σ44, g14_σ44, g15_σ44, g20_σ44, g25_σ44]); exact y196) q, hB⟩, g7_σ44, g9_σ44, g20_σ44, g25_σ44⟩)⟩
        · have m122 : ¬ tkK tx n i = 123 := fun q => hc37 (pK.2.1.trans q)
          refine ok_gC rfl ?_
          refine ok_zbT (Q := fun V σ => (TOK σ.1 ∧ (σ0.1 218 11).toInt ≤ (σ.1 218 11).toInt ∧ (V = 0 → σ = σ0 ∧ ¬ isW tx n i 15) ∧ (¬ V = 0 → (isW tx n i 15 ∧ (σ0.1 218 11).toInt < (σ.1 218 11).toInt) ∧ RX σ.1 tx n (tkE tx n i))) ∧ (σ.1 218 7 = σ0.1 218 7 ∧ σ.1 218 9 = σ0.1 218 9 ∧ σ.1 218 14 = σ0.1 218 14 ∧ σ.1 218 15 = σ0.1 218 15 ∧ σ.1 218 20 = σ0.1 218 20 ∧ σ.1 218 22 = σ0.1 218 22 ∧ σ.1 218 23 = σ0.1 218 23 ∧ σ.1 218 24 = σ0.1 218 24 ∧ σ.1 218 25 = σ0.1 218 25)) hT (s_X12_takes_r hN (hR.tr hT) (hK) (by rw [hT.2 224 (by decide)]; exact hY) (RX_i rfl rfl rfl rfl rfl ((hT.2 224 (by decide)).trans tE) nE pK) (hg) (by decide)) (by decide) (fun v45 σ46 hOσ46 hT hqv45 => ?_)
          have hqv45 : (TOK σ46.1 ∧ (σ0.1 218 11).toInt ≤ (σ46.1 218 11).toInt ∧ (v45 = 0 → σ46 = σ0 ∧ ¬ isW tx n i 15) ∧ (¬ v45 = 0 → (isW tx n i 15 ∧ (σ0.1 218 11).toInt < (σ46.1 218 11).toInt) ∧ RX σ46.1 tx n (tkE tx n i))) ∧ (σ46.1 218 7 = σ0.1 218 7 ∧ σ46.1 218 9 = σ0.1 218 9 ∧ σ46.1 218 14 = σ0.1 218 14 ∧ σ46.1 218 15 = σ0.1 218 15 ∧ σ46.1 218 20 = σ0.1 218 20 ∧ σ46.1 218 22 = σ0.1 218 22 ∧ σ46.1 218 23 = σ0.1 218 23 ∧ σ46.1 218 24 = σ0.1 218 24 ∧ σ46.1 218 25 = σ0.1 218 25) := hqv45
          have hkv45 := hqv45
          have hqv45 := hqv45.1
          have r230_σ46 : σ46.1 230 = σ0.1 230 := hOσ46.2 230 (by decide)
          have hK : TOK σ46.1 := by first | exact hqv45.1 | exact hqv45.1.1 | exact TOK_p eσ46 (by decide) hK
          have hB : ZB σ46.1 := ZB.tr hOσ46 (by decide) hB
          have g7_σ46 : σ46.1 218 7 = (σ0.1 218 7) := hkv45.2.1
          have g9_σ46 : σ46.1 218 9 = (σ0.1 218 9) := hkv45.2.2.1
          have g14_σ46 : σ46.1 218 14 = (σ0.1 218 14) := hkv45.2.2.2.1
          have g15_σ46 : σ46.1 218 15 = (σ0.1 218 15) := hkv45.2.2.2.2.1
          have g20_σ46 : σ46.1 218 20 = (σ0.1 218 20) := hkv45.2.2.2.2.2.1
          have g22_σ46 : σ46.1 218 22 = (σ0.1 218 22) := hkv45.2.2.2.2.2.2.1
          have g23_σ46 : σ46.1 218 23 = (σ0.1 218 23) := hkv45.2.2.2.2.2.2.2.1
          have g24_σ46 : σ46.1 218 24 = (σ0.1 218 24) := hkv45.2.2.2.2.2.2.2.2.1
          have g25_σ46 : σ46.1 218 25 = (σ0.1 218 25) := hkv45.2.2.2.2.2.2.2.2.2
          have m137 := hqv45.2.1
          have t137 := hqv45.2.2.2
          refine ok_if (fun hc47 => ?_) (fun hc47 => ?_)
          · have i140 := hqv45.2.2.1 hc47
            refine ok_gC rfl ?_
            refine ok_zbT (Q := fun V σ => (TOK σ.1 ∧ ¬ σ.1 218 14 = 0) ∧ (σ.1 218 7 = σ46.1 218 7 ∧ σ.1 218 9 = σ46.1 218 9 ∧ σ.1 218 10 = σ46.1 218 10 ∧ σ.1 218 11 = σ46.1 218 11 ∧ σ.1 218 12 = σ46.1 218 12 ∧ σ.1 218 13 = σ46.1 218 13 ∧ σ.1 218 20 = σ46.1 218 20 ∧ σ.1 218 22 = σ46.1 218 22 ∧ σ.1 218 23 = σ46.1 218 23 ∧ σ.1 218 24 = σ46.1 218 24 ∧ σ.1 218 25 = σ46.1 218 25)) hT (s_X12_errs hN (hR.tr hT) (hK) (by rw [hT.2 224 (by decide)]; exact hY) (by decide)) (by decide) (fun v48 σ49 hOσ49 hT hqv48 => ?_)
            have hqv48 : (TOK σ49.1 ∧ ¬ σ49.1 218 14 = 0) ∧ (σ49.1 218 7 = σ46.1 218 7 ∧ σ49.1 218 9 = σ46.1 218 9 ∧ σ49.1 218 10 = σ46.1 218 10 ∧ σ49.1 218 11 = σ46.1 218 11 ∧ σ49.1 218 12 = σ46.1 218 12 ∧ σ49.1 218 13 = σ46.1 218 13 ∧ σ49.1 218 20 = σ46.1 218 20 ∧ σ49.1 218 22 = σ46.1 218 22 ∧ σ49.1 218 23 = σ46.1 218 23 ∧ σ49.1 218 24 = σ46.1 218 24 ∧ σ49.1 218 25 = σ46.1 218 25) := hqv48
            have hkv48 := hqv48
            have hqv48 := hqv48.1
            have r230_σ49 : σ49.1 230 = σ0.1 230 := (hOσ49.2 230 (by decide)).trans r230_σ46
            have hK : TOK σ49.1 := by first | exact hqv48.1 | exact hqv48.1.1 | exact TOK_p eσ49 (by decide) hK
            have hB : ZB σ49.1 := ZB.tr hOσ49 (by decide) hB
            try simp only [g7_σ46, g9_σ46, g14_σ46, g15_σ46, g20_σ46, g22_σ46, g23_σ46, g24_σ46, g25_σ46] at hqv48
            have g7_σ49 : σ49.1 218 7 = (σ0.1 218 7) := (hkv48.2.1).trans g7_σ46
            have g9_σ49 : σ49.1 218 9 = (σ0.1 218 9) := (hkv48.2.2.1).trans g9_σ46
            have g10_σ49 : σ49.1 218 10 = (σ46.1 218 10) := hkv48.2.2.2.1
            have g11_σ49 : σ49.1 218 11 = (σ46.1 218 11) := hkv48.2.2.2.2.1
            have g12_σ49 : σ49.1 218 12 = (σ46.1 218 12) := hkv48.2.2.2.2.2.1
            have g13_σ49 : σ49.1 218 13 = (σ46.1 218 13) := hkv48.2.2.2.2.2.2.1
            have g20_σ49 : σ49.1 218 20 = (σ0.1 218 20) := (hkv48.2.2.2.2.2.2.2.1).trans g20_σ46
            have g22_σ49 : σ49.1 218 22 = (σ0.1 218 22) := (hkv48.2.2.2.2.2.2.2.2.1).trans g22_σ46
            have g23_σ49 : σ49.1 218 23 = (σ0.1 218 23) := (hkv48.2.2.2.2.2.2.2.2.2.1).trans g23_σ46
            have g24_σ49 : σ49.1 218 24 = (σ0.1 218 24) := (hkv48.2.2.2.2.2.2.2.2.2.2.1).trans g24_σ46
            have g25_σ49 : σ49.1 218 25 = (σ0.1 218 25) := (hkv48.2.2.2.2.2.2.2.2.2.2.2).trans g25_σ46
            have n189 := hqv48.2
            rw [J_X12_readsPart_192.eq_1]
            refine ok_gC rfl ?_
            refine ok_zbX (Q := fun V => (V = 0 → ¬ σ49.1 218 14 = 0) ∧ (¬ V = 0 → σ49.1 218 14 = 0)) (x_X12_good) (fun v50 hqv50 => ?_)
            have hqv50 : (v50 = 0 → ¬ σ49.1 218 14 = 0) ∧ (¬ v50 = 0 → σ49.1 218 14 = 0) := hqv50
            try simp only [g7_σ49, g9_σ49, g10_σ49, g11_σ49, g12_σ49, g13_σ49, g20_σ49, g22_σ49, g23_σ49, g24_σ49, g25_σ49, hT.2 224 (by decide)] at hqv50
            refine ok_if (fun hc52 => ?_) (fun hc52 => ?_)
            · have qhc52 := hqv50.1 hc52
              have n196 := qhc52
              have st9 : stp tx n x1 (i, false, (lst (σ0.1 230) (σ0.1 218 22).toInt.toNat), (σ0.1 218 25).toInt.toNat) = none := by first | exact (stp_n h0q k44).trans (if_neg (f51 n196).2) | exact (stp_f h0q k122).trans (by rw [f127 n196]; rfl) | exact stp_z h0q m44 m122 i140.2 | exact absurd hg n196
              exact ok_rZ (Or.inr rfl) ⟨hT, (show (TOK σ49.1 ∧ ((σ0.1 218 11).toInt ≤ (σ49.1 218 11).toInt ∧ 0 ≤ (σ49.1 218 22).toInt ∧ (σ49.1 218 22).toInt ≤ 40) ∧ (σ49.1 218 14 = 0 → (σ0.1 218 11).toInt < (σ49.1 218 11).toInt ∧ ∃ c, stp tx n x1 (i, false, (lst (σ0.1 230) (σ0.1 218 22).toInt.toNat), (σ0.1 218 25).toInt.toNat) = some (some c) ∧ REL σ49.1 tx n c ∧ ((1 : Int32) = 0 ↔ c.2.1 = false)) ∧ (¬ σ49.1 218 14 = 0 → stp tx n x1 (i, false, (lst (σ0.1 230) (σ0.1 218 22).toInt.toNat), (σ0.1 218 25).toInt.toNat) = none) ∧ ZB σ49.1) ∧ (σ49.1 218 7 = σ0.1 218 7 ∧ σ49.1 218 9 = σ0.1 218 9 ∧ σ49.1 218 20 = σ0.1 218 20 ∧ σ49.1 218 25 = σ0.1 218 25) from ⟨by first | exact ⟨hK, ⟨m34.1, m34.2.1⟩, fun q => ⟨(m34.2.2.1 q).1.1, (tkE tx n i, false, decide (tkK tx n i = 40) :: (lst (σ0.1 230) (σ0.1 218 22).toInt.toNat), (σ0.1 218 25).toInt.toNat), (stp_o hpx).trans (if_neg (m34.2.2.1 q).2.1.1), ⟨⟨(m34.2.2.1 q).2.1.2, le1⟩, ⟨by first | exact ((m34.2.2.1 q).2.2.1.trans (by rw [k16]; rfl)).symm | exact ((m34.2.2.1 q).2.2.1.trans (by rw [k7, decide_eq_false (z50 w7.1)]; rfl)).symm, (m34.2.2.1 q).2.2.2⟩, by rw [g25_σ49], fun h => Bool.noConfusion (show false = true from h), fun _ => (m34.2.2.1 q).1.2⟩, ⟨fun _ => rfl, fun _ => rfl⟩⟩, fun q => (stp_o hpx).trans (if_pos (m34.2.2.2 q)), hB⟩ | exact absurd e7 n22 | exact absurd e22 n7 | exact absurd y196 n189 | exact ⟨hK, ⟨by (try simp only [g7_σ49, g9_σ49, g10_σ49, g11_σ49, g12_σ49, g13_σ49, g20_σ49, g22_σ49, g23_σ49, g24_σ49, g25_σ49]); omega, by (try simp only [g7_σ49, g9_σ49, g10_σ49, g11_σ49, g12_σ49, g13_σ49, g20_σ49, g22_σ49, g23_σ49, g24_σ49, g25_σ49]); omega⟩, fun q => absurd q (by (try simp only [g7_σ49, g9_σ49, g10_σ49, g11_σ49, g12_σ49, g13_σ49, g20_σ49, g22_σ49, g23_σ49, g24_σ49, g25_σ49]); exact n196), fun _ => st9, hB⟩ | exact ⟨hK, ⟨by (try simp only [g7_σ49, g9_σ49, g10_σ49, g11_σ49, g12_σ49, g13_σ49, g20_σ49, g22_σ49, g23_σ49, g24_σ49, g25_σ49]); omega, by omega⟩, fun _ => ⟨by (try simp only [g7_σ49, g9_σ49, g10_σ49, g11_σ49, g12_σ49, g13_σ49, g20_σ49, g22_σ49, g23_σ49, g24_σ49, g25_σ49]); exact ga9, _, st9, ⟨⟨RX_i g9_σ49 g10_σ49 g11_σ49 g12_σ49 g13_σ49 ((hT.2 224 (by decide)).trans tE) nE pK9, le9⟩, ⟨by rw [r230_σ49]; exact l201.2.symm, by rw [r230_σ49]; exact NP_le hNP l201.1⟩, by rw [g25_σ49], fun _ => ⟨h201, popP_i _⟩, fun h => Bool.noConfusion (show true = false from h)⟩, ⟨fun h => absurd h (by decide), fun h => Bool.noConfusion (show true = false from h)⟩⟩, fun q => absurd (by (try simp only [g7_σ49, g9_σ49, g10_σ49, g11_σ49, g12_σ49, g13_σ49, g20_σ49, g22_σ49, g23_σ49, g24_σ49, g25_σ49]); exact y196) q, hB⟩, g7_σ49, g9_σ49, g20_σ49, g25_σ49⟩)⟩
            · have qhc52 := hqv50.2 hc52
              have y196 := qhc52
              obtain ⟨P9, st9, pK9, ga9, le9⟩ : ∃ p, stp tx n x1 (i, false, (lst (σ0.1 230) (σ0.1 218 22).toInt.toNat), (σ0.1 218 25).toInt.toNat) = some (some (p, true, popP (lst (σ0.1 230) (σ0.1 218 22).toInt.toNat), (σ0.1 218 25).toInt.toNat)) ∧ TKV (σ46.1 218 11) (σ46.1 218 10) (σ46.1 218 12) (σ46.1 218 13) tx n p ∧ (σ0.1 218 11).toInt < (σ46.1 218 11).toInt ∧ p ≤ n := by first | exact ⟨_, (stp_n h0q k44).trans (if_pos (u51 y196).1.2), (u51 y196).2.2.2, (u51 y196).1.1, le1⟩ | (obtain ⟨j, fj, rj⟩ := (u127 y196).2; exact ⟨j, (stp_f h0q k122).trans (by rw [fj]; rfl), rj.2, (u127 y196).1, fam_le hi fj⟩) | exact ⟨_, stp_a h0q k137.1.1, k137.2.2, k137.1.2, le1⟩ | exact absurd y196 n189
              refine ok_gC rfl ?_
              refine ok_zbT (Q := fun V σ => (TOK σ.1 ∧ ZB σ.1 ∧ PIL σ.1 1 ∧ ((σ.1 218 22).toInt.toNat ≤ (σ49.1 218 22).toInt.toNat ∧ lst (σ49.1 230) (σ.1 218 22).toInt.toNat = popP (lst (σ49.1 230) (σ49.1 218 22).toInt.toNat)) ∧ ((σ.1 218 22).toInt ≤ 0 ∨ (rkI (σ49.1 230 ((σ.1 218 22) - 1).toNatClampNeg)).toInt < (3 : Int32).toInt)) ∧ (σ.1 218 7 = σ49.1 218 7 ∧ σ.1 218 9 = σ49.1 218 9 ∧ σ.1 218 10 = σ49.1 218 10 ∧ σ.1 218 11 = σ49.1 218 11 ∧ σ.1 218 12 = σ49.1 218 12 ∧ σ.1 218 13 = σ49.1 218 13 ∧ σ.1 218 14 = σ49.1 218 14 ∧ σ.1 218 15 = σ49.1 218 15 ∧ σ.1 218 20 = σ49.1 218 20 ∧ σ.1 218 25 = σ49.1 218 25)) hT (s_X12_settlesTo_r hN (hR.tr hT) (hK) (by rw [hT.2 224 (by decide)]; exact hY) (hB) (by (try simp only [g7_σ49, g9_σ49, g10_σ49, g11_σ49, g12_σ49, g13_σ49, g20_σ49, g22_σ49, g23_σ49, g24_σ49, g25_σ49]); exact ha) (by first | exact PIL_i g22_σ49 g23_σ49 g24_σ49 r230_σ49 hS h22 hd hd6 s57 | exact absurd y196 n189) (by decide) (by (try simp only [g7_σ49, g9_σ49, g10_σ49, g11_σ49, g12_σ49, g13_σ49, g20_σ49, g22_σ49, g23_σ49, g24_σ49, g25_σ49]); rw [r230_σ49]; exact hNP) (Or.inl (by decide))) (by decide) (fun v53 σ54 hOσ54 hT hqv53 => ?_)
              have hqv53 : (TOK σ54.1 ∧ ZB σ54.1 ∧ PIL σ54.1 1 ∧ ((σ54.1 218 22).toInt.toNat ≤ (σ49.1 218 22).toInt.toNat ∧ lst (σ49.1 230) (σ54.1 218 22).toInt.toNat = popP (lst (σ49.1 230) (σ49.1 218 22).toInt.toNat)) ∧ ((σ54.1 218 22).toInt ≤ 0 ∨ (rkI (σ49.1 230 ((σ54.1 218 22) - 1).toNatClampNeg)).toInt < (3 : Int32).toInt)) ∧ (σ54.1 218 7 = σ49.1 218 7 ∧ σ54.1 218 9 = σ49.1 218 9 ∧ σ54.1 218 10 = σ49.1 218 10 ∧ σ54.1 218 11 = σ49.1 218 11 ∧ σ54.1 218 12 = σ49.1 218 12 ∧ σ54.1 218 13 = σ49.1 218 13 ∧ σ54.1 218 14 = σ49.1 218 14 ∧ σ54.1 218 15 = σ49.1 218 15 ∧ σ54.1 218 20 = σ49.1 218 20 ∧ σ54.1 218 25 = σ49.1 218 25) := hqv53
              have hkv53 := hqv53
              have hqv53 := hqv53.1
              have r230_σ54 : σ54.1 230 = σ0.1 230 := (hOσ54.2 230 (by decide)).trans r230_σ49
              have hK : TOK σ54.1 := by first | exact hqv53.1 | exact hqv53.1.1 | exact TOK_p eσ54 (by decide) hK
              have hB : ZB σ54.1 := by first | exact hqv53.2.1 | exact hqv53.2.2.2.2.1 | exact ZB_s eσ54 hB
              try simp only [g7_σ49, g9_σ49, g10_σ49, g11_σ49, g12_σ49, g13_σ49, g20_σ49, g22_σ49, g23_σ49, g24_σ49, g25_σ49] at hqv53
              have g7_σ54 : σ54.1 218 7 = (σ0.1 218 7) := (hkv53.2.1).trans g7_σ49
              have g9_σ54 : σ54.1 218 9 = (σ0.1 218 9) := (hkv53.2.2.1).trans g9_σ49
              have g10_σ54 : σ54.1 218 10 = (σ46.1 218 10) := (hkv53.2.2.2.1).trans g10_σ49
              have g11_σ54 : σ54.1 218 11 = (σ46.1 218 11) := (hkv53.2.2.2.2.1).trans g11_σ49
              have g12_σ54 : σ54.1 218 12 = (σ46.1 218 12) := (hkv53.2.2.2.2.2.1).trans g12_σ49
              have g13_σ54 : σ54.1 218 13 = (σ46.1 218 13) := (hkv53.2.2.2.2.2.2.1).trans g13_σ49
              have g14_σ54 : σ54.1 218 14 = (σ49.1 218 14) := hkv53.2.2.2.2.2.2.2.1
              have g15_σ54 : σ54.1 218 15 = (σ49.1 218 15) := hkv53.2.2.2.2.2.2.2.2.1
              have g20_σ54 : σ54.1 218 20 = (σ0.1 218 20) := (hkv53.2.2.2.2.2.2.2.2.2.1).trans g20_σ49
              have g25_σ54 : σ54.1 218 25 = (σ0.1 218 25) := (hkv53.2.2.2.2.2.2.2.2.2.2).trans g25_σ49
              have h201 := hqv53.2.2.1
              have b201 := PIL_b hqv53.2.2.1 (by decide)
              have l201 := hqv53.2.2.2.1
              have o201 : σ49.1 230 = σ0.1 230 := (hOσ54.2 230 (by decide)).symm.trans r230_σ54
              rw [o201] at l201
              exact ok_rZ (Or.inr rfl) ⟨hT, (show (TOK σ54.1 ∧ ((σ0.1 218 11).toInt ≤ (σ54.1 218 11).toInt ∧ 0 ≤ (σ54.1 218 22).toInt ∧ (σ54.1 218 22).toInt ≤ 40) ∧ (σ54.1 218 14 = 0 → (σ0.1 218 11).toInt < (σ54.1 218 11).toInt ∧ ∃ c, stp tx n x1 (i, false, (lst (σ0.1 230) (σ0.1 218 22).toInt.toNat), (σ0.1 218 25).toInt.toNat) = some (some c) ∧ REL σ54.1 tx n c ∧ ((1 : Int32) = 0 ↔ c.2.1 = false)) ∧ (¬ σ54.1 218 14 = 0 → stp tx n x1 (i, false, (lst (σ0.1 230) (σ0.1 218 22).toInt.toNat), (σ0.1 218 25).toInt.toNat) = none) ∧ ZB σ54.1) ∧ (σ54.1 218 7 = σ0.1 218 7 ∧ σ54.1 218 9 = σ0.1 218 9 ∧ σ54.1 218 20 = σ0.1 218 20 ∧ σ54.1 218 25 = σ0.1 218 25) from ⟨by first | exact ⟨hK, ⟨m34.1, m34.2.1⟩, fun q => ⟨(m34.2.2.1 q).1.1, (tkE tx n i, false, decide (tkK tx n i = 40) :: (lst (σ0.1 230) (σ0.1 218 22).toInt.toNat), (σ0.1 218 25).toInt.toNat), (stp_o hpx).trans (if_neg (m34.2.2.1 q).2.1.1), ⟨⟨(m34.2.2.1 q).2.1.2, le1⟩, ⟨by first | exact ((m34.2.2.1 q).2.2.1.trans (by rw [k16]; rfl)).symm | exact ((m34.2.2.1 q).2.2.1.trans (by rw [k7, decide_eq_false (z50 w7.1)]; rfl)).symm, (m34.2.2.1 q).2.2.2⟩, by rw [g25_σ54], fun h => Bool.noConfusion (show false = true from h), fun _ => (m34.2.2.1 q).1.2⟩, ⟨fun _ => rfl, fun _ => rfl⟩⟩, fun q => (stp_o hpx).trans (if_pos (m34.2.2.2 q)), hB⟩ | exact absurd e7 n22 | exact absurd e22 n7 | exact absurd y196 n189 | exact ⟨hK, ⟨by (try simp only [g7_σ54, g9_σ54, g10_σ54, g11_σ54, g12_σ54, g13_σ54, g14_σ54, g15_σ54, g20_σ54, g25_σ54]); omega, by (try simp only [g7_σ54, g9_σ54, g10_σ54, g11_σ54, g12_σ54, g13_σ54, g14_σ54, g15_σ54, g20_σ54, g25_σ54]); omega⟩, fun q => absurd q (by (try simp only [g7_σ54, g9_σ54, g10_σ54, g11_σ54, g12_σ54, g13_σ54, g14_σ54, g15_σ54, g20_σ54, g25_σ54]); exact n196), fun _ => st9, hB⟩ | exact ⟨hK, ⟨by (try simp only [g7_σ54, g9_σ54, g10_σ54, g11_σ54, g12_σ54, g13_σ54, g14_σ54, g15_σ54, g20_σ54, g25_σ54]); omega, by omega⟩, fun _ => ⟨by (try simp only [g7_σ54, g9_σ54, g10_σ54, g11_σ54, g12_σ54, g13_σ54, g14_σ54, g15_σ54, g20_σ54, g25_σ54]); exact ga9, _, st9, ⟨⟨RX_i g9_σ54 g10_σ54 g11_σ54 g12_σ54 g13_σ54 ((hT.2 224 (by decide)).trans tE) nE pK9, le9⟩, ⟨by rw [r230_σ54]; exact l201.2.symm, by rw [r230_σ54]; exact NP_le hNP l201.1⟩, by rw [g25_σ54], fun _ => ⟨h201, popP_i _⟩, fun h => Bool.noConfusion (show true = false from h)⟩, ⟨fun h => absurd h (by decide), fun h => Bool.noConfusion (show true = false from h)⟩⟩, fun q => absurd (by (try simp only [g7_σ54, g9_σ54, g10_σ54, g11_σ54, g12_σ54, g13_σ54, g14_σ54, g15_σ54, g20_σ54, g25_σ54]); exact y196) q, hB⟩, g7_σ54, g9_σ54, g20_σ54, g25_σ54⟩)⟩
          · have k137 := t137 hc47
            refine ok_gC rfl ?_
            refine ok_zbT (Q := fun V σ => (TOK σ.1 ∧ ZB σ.1 ∧ σ.1 218 23 = σ46.1 218 23 + 1) ∧ (σ.1 218 7 = σ46.1 218 7 ∧ σ.1 218 9 = σ46.1 218 9 ∧ σ.1 218 10 = σ46.1 218 10 ∧ σ.1 218 11 = σ46.1 218 11 ∧ σ.1 218 12 = σ46.1 218 12 ∧ σ.1 218 13 = σ46.1 218 13 ∧ σ.1 218 14 = σ46.1 218 14 ∧ σ.1 218 15 = σ46.1 218 15 ∧ σ.1 218 20 = σ46.1 218 20 ∧ σ.1 218 22 = σ46.1 218 22 ∧ σ.1 218 24 = σ46.1 218 24 ∧ σ.1 218 25 = σ46.1 218 25)) hT (s_X12_pushesEmpty hN (hR.tr hT) (hK) (by rw [hT.2 224 (by decide)]; exact hY) (hB) (by (try simp only [g7_σ46, g9_σ46, g14_σ46, g15_σ46, g20_σ46, g22_σ46, g23_σ46, g24_σ46, g25_σ46]); omega)) (by decide) (fun v55 σ56 hOσ56 hT hqv55 => ?_)
            have hqv55 : (TOK σ56.1 ∧ ZB σ56.1 ∧ σ56.1 218 23 = σ46.1 218 23 + 1) ∧ (σ56.1 218 7 = σ46.1 218 7 ∧ σ56.1 218 9 = σ46.1 218 9 ∧ σ56.1 218 10 = σ46.1 218 10 ∧ σ56.1 218 11 = σ46.1 218 11 ∧ σ56.1 218 12 = σ46.1 218 12 ∧ σ56.1 218 13 = σ46.1 218 13 ∧ σ56.1 218 14 = σ46.1 218 14 ∧ σ56.1 218 15 = σ46.1 218 15 ∧ σ56.1 218 20 = σ46.1 218 20 ∧ σ56.1 218 22 = σ46.1 218 22 ∧ σ56.1 218 24 = σ46.1 218 24 ∧ σ56.1 218 25 = σ46.1 218 25) := hqv55
            have hkv55 := hqv55
            have hqv55 := hqv55.1
            have r230_σ56 : σ56.1 230 = σ0.1 230 := (hOσ56.2 230 (by decide)).trans r230_σ46
            have hK : TOK σ56.1 := by first | exact hqv55.1 | exact hqv55.1.1 | exact TOK_p eσ56 (by decide) hK
            have hB : ZB σ56.1 := by first | exact hqv55.2.1 | exact hqv55.2.2.2.2.1 | exact ZB_s eσ56 hB
            try simp only [g7_σ46, g9_σ46, g14_σ46, g15_σ46, g20_σ46, g22_σ46, g23_σ46, g24_σ46, g25_σ46] at hqv55
            have g7_σ56 : σ56.1 218 7 = (σ0.1 218 7) := (hkv55.2.1).trans g7_σ46
            have g9_σ56 : σ56.1 218 9 = (σ0.1 218 9) := (hkv55.2.2.1).trans g9_σ46
            have g10_σ56 : σ56.1 218 10 = (σ46.1 218 10) := hkv55.2.2.2.1
            have g11_σ56 : σ56.1 218 11 = (σ46.1 218 11) := hkv55.2.2.2.2.1
            have g12_σ56 : σ56.1 218 12 = (σ46.1 218 12) := hkv55.2.2.2.2.2.1
            have g13_σ56 : σ56.1 218 13 = (σ46.1 218 13) := hkv55.2.2.2.2.2.2.1
            have g14_σ56 : σ56.1 218 14 = (σ0.1 218 14) := (hkv55.2.2.2.2.2.2.2.1).trans g14_σ46
            have g15_σ56 : σ56.1 218 15 = (σ0.1 218 15) := (hkv55.2.2.2.2.2.2.2.2.1).trans g15_σ46
            have g20_σ56 : σ56.1 218 20 = (σ0.1 218 20) := (hkv55.2.2.2.2.2.2.2.2.2.1).trans g20_σ46
            have g22_σ56 : σ56.1 218 22 = (σ0.1 218 22) := (hkv55.2.2.2.2.2.2.2.2.2.2.1).trans g22_σ46
            have g24_σ56 : σ56.1 218 24 = (σ0.1 218 24) := (hkv55.2.2.2.2.2.2.2.2.2.2.2.1).trans g24_σ46
            have g25_σ56 : σ56.1 218 25 = (σ0.1 218 25) := (hkv55.2.2.2.2.2.2.2.2.2.2.2.2).trans g25_σ46
            have g57 := hqv55.2.2
            have s57 : (σ56.1 218 23).toInt = ((b8 + 1 : Nat) : Int) := by rw [g57, ti_add]; simp only [Int32.reduceToInt]; omega
            have p57 : ((σ56.1 218 23) - 1).toInt = (b8 : Int) := by rw [ti_sub, s57]; simp only [Int32.reduceToInt]; omega
            have m57 := p1024 p57 (by omega) (by omega)
            refine ok_lp (fun t : Int32 × zS => Tr [218, 226, 227, 228, 229, 230] σ0 (t.2) ∧ (0 ≤ (t.1).toInt) ∧ (TOK (t.2).1) ∧ (ZB (t.2).1) ∧ ((t.2).1 218 7 = (σ0.1 218 7)) ∧ ((t.2).1 218 9 = (σ0.1 218 9)) ∧ ((t.2).1 218 10 = (σ46.1 218 10)) ∧ ((t.2).1 218 11 = (σ46.1 218 11)) ∧ ((t.2).1 218 12 = (σ46.1 218 12)) ∧ ((t.2).1 218 13 = (σ46.1 218 13)) ∧ ((t.2).1 218 14 = (σ0.1 218 14)) ∧ ((t.2).1 218 15 = (σ0.1 218 15)) ∧ ((t.2).1 218 20 = (σ0.1 218 20)) ∧ ((t.2).1 218 22 = (σ0.1 218 22)) ∧ ((t.2).1 218 23 = (σ56.1 218 23)) ∧ ((t.2).1 218 24 = (σ0.1 218 24)) ∧ ((t.2).1 218 25 = (σ0.1 218 25)) ∧ ((t.2).1 230 = σ0.1 230)) (fun t : Int32 × zS => (1024 - (t.1).toInt).toNat) (fun again57 t hI ih150_57 => ?_) N _ (show Tr [218, 226, 227, 228, 229, 230] σ0 σ56 ∧ (0 ≤ (0 : Int32).toInt) ∧ (TOK σ56.1) ∧ (ZB σ56.1) ∧ (σ56.1 218 7 = (σ0.1 218 7)) ∧ (σ56.1 218 9 = (σ0.1 218 9)) ∧ (σ56.1 218 10 = (σ46.1 218 10)) ∧ (σ56.1 218 11 = (σ46.1 218 11)) ∧ (σ56.1 218 12 = (σ46.1 218 12)) ∧ (σ56.1 218 13 = (σ46.1 218 13)) ∧ (σ56.1 218 14 = (σ0.1 218 14)) ∧ (σ56.1 218 15 = (σ0.1 218 15)) ∧ (σ56.1 218 20 = (σ0.1 218 20)) ∧ (σ56.1 218 22 = (σ0.1 218 22)) ∧ (σ56.1 218 23 = (σ56.1 218 23)) ∧ (σ56.1 218 24 = (σ0.1 218 24)) ∧ (σ56.1 218 25 = (σ0.1 218 25)) ∧ (σ56.1 230 = σ0.1 230) from ⟨hT, (by decide), hK, hB, g7_σ56, g9_σ56, g10_σ56, g11_σ56, g12_σ56, g13_σ56, g14_σ56, g15_σ56, g20_σ56, g22_σ56, rfl, g24_σ56, g25_σ56, r230_σ56⟩) (show (1024 - (0 : Int32).toInt).toNat < N from (by simp only [Int32.reduceToInt]; omega))
            obtain ⟨x4_57, σ57⟩ := t
            have hI : Tr [218, 226, 227, 228, 229, 230] σ0 σ57 ∧ (0 ≤ x4_57.toInt) ∧ (TOK σ57.1) ∧ (ZB σ57.1) ∧ (σ57.1 218 7 = (σ0.1 218 7)) ∧ (σ57.1 218 9 = (σ0.1 218 9)) ∧ (σ57.1 218 10 = (σ46.1 218 10)) ∧ (σ57.1 218 11 = (σ46.1 218 11)) ∧ (σ57.1 218 12 = (σ46.1 218 12)) ∧ (σ57.1 218 13 = (σ46.1 218 13)) ∧ (σ57.1 218 14 = (σ0.1 218 14)) ∧ (σ57.1 218 15 = (σ0.1 218 15)) ∧ (σ57.1 218 20 = (σ0.1 218 20)) ∧ (σ57.1 218 22 = (σ0.1 218 22)) ∧ (σ57.1 218 23 = (σ56.1 218 23)) ∧ (σ57.1 218 24 = (σ0.1 218 24)) ∧ (σ57.1 218 25 = (σ0.1 218 25)) ∧ (σ57.1 230 = σ0.1 230) := hI
            obtain ⟨hT, hI57, hK, hB, g7_σ57, g9_σ57, g10_σ57, g11_σ57, g12_σ57, g13_σ57, g14_σ57, g15_σ57, g20_σ57, g22_σ57, g23_σ57, g24_σ57, g25_σ57, r230_σ57⟩ := hI
            rw [F_X12_readsPart_150.eq_1]
            refine ok_gIv rfl g20_σ57 ?_
            refine ok_if (fun hc59 => ?_) (fun hc59 => ?_)
            · rw [J_X12_readsPart_192.eq_1]
              refine ok_gC rfl ?_
              refine ok_zbX (Q := fun V => (V = 0 → ¬ σ57.1 218 14 = 0) ∧ (¬ V = 0 → σ57.1 218 14 = 0)) (x_X12_good) (fun v60 hqv60 => ?_)
              have hqv60 : (v60 = 0 → ¬ σ57.1 218 14 = 0) ∧ (¬ v60 = 0 → σ57.1 218 14 = 0) := hqv60
              try simp only [g7_σ57, g9_σ57, g10_σ57, g11_σ57, g12_σ57, g13_σ57, g14_σ57, g15_σ57, g20_σ57, g22_σ57, g23_σ57, g24_σ57, g25_σ57, hT.2 224 (by decide)] at hqv60
              refine ok_if (fun hc62 => ?_) (fun hc62 => ?_)
              · have qhc62 := hqv60.1 hc62
                have n196 := qhc62
                have st9 : stp tx n x1 (i, false, (lst (σ0.1 230) (σ0.1 218 22).toInt.toNat), (σ0.1 218 25).toInt.toNat) = none := by first | exact (stp_n h0q k44).trans (if_neg (f51 n196).2) | exact (stp_f h0q k122).trans (by rw [f127 n196]; rfl) | exact stp_z h0q m44 m122 i140.2 | exact absurd hg n196
                exact ok_rZ (Or.inr rfl) ⟨hT, (show (TOK σ57.1 ∧ ((σ0.1 218 11).toInt ≤ (σ57.1 218 11).toInt ∧ 0 ≤ (σ57.1 218 22).toInt ∧ (σ57.1 218 22).toInt ≤ 40) ∧ (σ57.1 218 14 = 0 → (σ0.1 218 11).toInt < (σ57.1 218 11).toInt ∧ ∃ c, stp tx n x1 (i, false, (lst (σ0.1 230) (σ0.1 218 22).toInt.toNat), (σ0.1 218 25).toInt.toNat) = some (some c) ∧ REL σ57.1 tx n c ∧ ((1 : Int32) = 0 ↔ c.2.1 = false)) ∧ (¬ σ57.1 218 14 = 0 → stp tx n x1 (i, false, (lst (σ0.1 230) (σ0.1 218 22).toInt.toNat), (σ0.1 218 25).toInt.toNat) = none) ∧ ZB σ57.1) ∧ (σ57.1 218 7 = σ0.1 218 7 ∧ σ57.1 218 9 = σ0.1 218 9 ∧ σ57.1 218 20 = σ0.1 218 20 ∧ σ57.1 218 25 = σ0.1 218 25) from ⟨by first | exact ⟨hK, ⟨m34.1, m34.2.1⟩, fun q => ⟨(m34.2.2.1 q).1.1, (tkE tx n i, false, decide (tkK tx n i = 40) :: (lst (σ0.1 230) (σ0.1 218 22).toInt.toNat), (σ0.1 218 25).toInt.toNat), (stp_o hpx).trans (if_neg (m34.2.2.1 q).2.1.1), ⟨⟨(m34.2.2.1 q).2.1.2, le1⟩, ⟨by first | exact ((m34.2.2.1 q).2.2.1.trans (by rw [k16]; rfl)).symm | exact ((m34.2.2.1 q).2.2.1.trans (by rw [k7, decide_eq_false (z50 w7.1)]; rfl)).symm, (m34.2.2.1 q).2.2.2⟩, by rw [g25_σ57], fun h => Bool.noConfusion (show false = true from h), fun _ => (m34.2.2.1 q).1.2⟩, ⟨fun _ => rfl, fun _ => rfl⟩⟩, fun q => (stp_o hpx).trans (if_pos (m34.2.2.2 q)), hB⟩ | exact absurd e7 n22 | exact absurd e22 n7 | exact absurd y196 n189 | exact ⟨hK, ⟨by (try simp only [g7_σ57, g9_σ57, g10_σ57, g11_σ57, g12_σ57, g13_σ57, g14_σ57, g15_σ57, g20_σ57, g22_σ57, g23_σ57, g24_σ57, g25_σ57]); omega, by (try simp only [g7_σ57, g9_σ57, g10_σ57, g11_σ57, g12_σ57, g13_σ57, g14_σ57, g15_σ57, g20_σ57, g22_σ57, g23_σ57, g24_σ57, g25_σ57]); omega⟩, fun q => absurd q (by (try simp only [g7_σ57, g9_σ57, g10_σ57, g11_σ57, g12_σ57, g13_σ57, g14_σ57, g15_σ57, g20_σ57, g22_σ57, g23_σ57, g24_σ57, g25_σ57]); exact n196), fun _ => st9, hB⟩ | exact ⟨hK, ⟨by (try simp only [g7_σ57, g9_σ57, g10_σ57, g11_σ57, g12_σ57, g13_σ57, g14_σ57, g15_σ57, g20_σ57, g22_σ57, g23_σ57, g24_σ57, g25_σ57]); omega, by omega⟩, fun _ => ⟨by (try simp only [g7_σ57, g9_σ57, g10_σ57, g11_σ57, g12_σ57, g13_σ57, g14_σ57, g15_σ57, g20_σ57, g22_σ57, g23_σ57, g24_σ57, g25_σ57]); exact ga9, _, st9, ⟨⟨RX_i g9_σ57 g10_σ57 g11_σ57 g12_σ57 g13_σ57 ((hT.2 224 (by decide)).trans tE) nE pK9, le9⟩, ⟨by rw [r230_σ57]; exact l201.2.symm, by rw [r230_σ57]; exact NP_le hNP l201.1⟩, by rw [g25_σ57], fun _ => ⟨h201, popP_i _⟩, fun h => Bool.noConfusion (show true = false from h)⟩, ⟨fun h => absurd h (by decide), fun h => Bool.noConfusion (show true = false from h)⟩⟩, fun q => absurd (by (try simp only [g7_σ57, g9_σ57, g10_σ57, g11_σ57, g12_σ57, g13_σ57, g14_σ57, g15_σ57, g20_σ57, g22_σ57, g23_σ57, g24_σ57, g25_σ57]); exact y196) q, hB⟩, g7_σ57, g9_σ57, g20_σ57, g25_σ57⟩)⟩
              · have qhc62 := hqv60.2 hc62
                have y196 := qhc62
                obtain ⟨P9, st9, pK9, ga9, le9⟩ : ∃ p, stp tx n x1 (i, false, (lst (σ0.1 230) (σ0.1 218 22).toInt.toNat), (σ0.1 218 25).toInt.toNat) = some (some (p, true, popP (lst (σ0.1 230) (σ0.1 218 22).toInt.toNat), (σ0.1 218 25).toInt.toNat)) ∧ TKV (σ46.1 218 11) (σ46.1 218 10) (σ46.1 218 12) (σ46.1 218 13) tx n p ∧ (σ0.1 218 11).toInt < (σ46.1 218 11).toInt ∧ p ≤ n := by first | exact ⟨_, (stp_n h0q k44).trans (if_pos (u51 y196).1.2), (u51 y196).2.2.2, (u51 y196).1.1, le1⟩ | (obtain ⟨j, fj, rj⟩ := (u127 y196).2; exact ⟨j, (stp_f h0q k122).trans (by rw [fj]; rfl), rj.2, (u127 y196).1, fam_le hi fj⟩) | exact ⟨_, stp_a h0q k137.1.1, k137.2.2, k137.1.2, le1⟩ | exact absurd y196 n189
                refine ok_gC rfl ?_
                refine ok_zbT (Q := fun V σ => (TOK σ.1 ∧ ZB σ.1 ∧ PIL σ.1 1 ∧ ((σ.1 218 22).toInt.toNat ≤ (σ57.1 218 22).toInt.toNat ∧ lst (σ57.1 230) (σ.1 218 22).toInt.toNat = popP (lst (σ57.1 230) (σ57.1 218 22).toInt.toNat)) ∧ ((σ.1 218 22).toInt ≤ 0 ∨ (rkI (σ57.1 230 ((σ.1 218 22) - 1).toNatClampNeg)).toInt < (3 : Int32).toInt)) ∧ (σ.1 218 7 = σ57.1 218 7 ∧ σ.1 218 9 = σ57.1 218 9 ∧ σ.1 218 10 = σ57.1 218 10 ∧ σ.1 218 11 = σ57.1 218 11 ∧ σ.1 218 12 = σ57.1 218 12 ∧ σ.1 218 13 = σ57.1 218 13 ∧ σ.1 218 14 = σ57.1 218 14 ∧ σ.1 218 15 = σ57.1 218 15 ∧ σ.1 218 20 = σ57.1 218 20 ∧ σ.1 218 25 = σ57.1 218 25)) hT (s_X12_settlesTo_r hN (hR.tr hT) (hK) (by rw [hT.2 224 (by decide)]; exact hY) (hB) (by (try simp only [g7_σ57, g9_σ57, g10_σ57, g11_σ57, g12_σ57, g13_σ57, g14_σ57, g15_σ57, g20_σ57, g22_σ57, g23_σ57, g24_σ57, g25_σ57]); exact ha) (by first | exact PIL_i g22_σ57 g23_σ57 g24_σ57 r230_σ57 hS h22 hd hd6 s57 | exact absurd y196 n189) (by decide) (by (try simp only [g7_σ57, g9_σ57, g10_σ57, g11_σ57, g12_σ57, g13_σ57, g14_σ57, g15_σ57, g20_σ57, g22_σ57, g23_σ57, g24_σ57, g25_σ57]); rw [r230_σ57]; exact hNP) (Or.inl (by decide))) (by decide) (fun v63 σ64 hOσ64 hT hqv63 => ?_)
                have hqv63 : (TOK σ64.1 ∧ ZB σ64.1 ∧ PIL σ64.1 1 ∧ ((σ64.1 218 22).toInt.toNat ≤ (σ57.1 218 22).toInt.toNat ∧ lst (σ57.1 230) (σ64.1 218 22).toInt.toNat = popP (lst (σ57.1 230) (σ57.1 218 22).toInt.toNat)) ∧ ((σ64.1 218 22).toInt ≤ 0 ∨ (rkI (σ57.1 230 ((σ64.1 218 22) - 1).toNatClampNeg)).toInt < (3 : Int32).toInt)) ∧ (σ64.1 218 7 = σ57.1 218 7 ∧ σ64.1 218 9 = σ57.1 218 9 ∧ σ64.1 218 10 = σ57.1 218 10 ∧ σ64.1 218 11 = σ57.1 218 11 ∧ σ64.1 218 12 = σ57.1 218 12 ∧ σ64.1 218 13 = σ57.1 218 13 ∧ σ64.1 218 14 = σ57.1 218 14 ∧ σ64.1 218 15 = σ57.1 218 15 ∧ σ64.1 218 20 = σ57.1 218 20 ∧ σ64.1 218 25 = σ57.1 218 25) := hqv63
                have hkv63 := hqv63
                have hqv63 := hqv63.1
                have r230_σ64 : σ64.1 230 = σ0.1 230 := (hOσ64.2 230 (by decide)).trans r230_σ57
                have hK : TOK σ64.1 := by first | exact hqv63.1 | exact hqv63.1.1 | exact TOK_p eσ64 (by decide) hK
                have hB : ZB σ64.1 := by first | exact hqv63.2.1 | exact hqv63.2.2.2.2.1 | exact ZB_s eσ64 hB
                try simp only [g7_σ57, g9_σ57, g10_σ57, g11_σ57, g12_σ57, g13_σ57, g14_σ57, g15_σ57, g20_σ57, g22_σ57, g23_σ57, g24_σ57, g25_σ57] at hqv63
                have g7_σ64 : σ64.1 218 7 = (σ0.1 218 7) := (hkv63.2.1).trans g7_σ57
                have g9_σ64 : σ64.1 218 9 = (σ0.1 218 9) := (hkv63.2.2.1).trans g9_σ57
                have g10_σ64 : σ64.1 218 10 = (σ46.1 218 10) := (hkv63.2.2.2.1).trans g10_σ57
                have g11_σ64 : σ64.1 218 11 = (σ46.1 218 11) := (hkv63.2.2.2.2.1).trans g11_σ57
                have g12_σ64 : σ64.1 218 12 = (σ46.1 218 12) := (hkv63.2.2.2.2.2.1).trans g12_σ57
                have g13_σ64 : σ64.1 218 13 = (σ46.1 218 13) := (hkv63.2.2.2.2.2.2.1).trans g13_σ57
                have g14_σ64 : σ64.1 218 14 = (σ0.1 218 14) := (hkv63.2.2.2.2.2.2.2.1).trans g14_σ57
                have g15_σ64 : σ64.1 218 15 = (σ0.1 218 15) := (hkv63.2.2.2.2.2.2.2.2.1).trans g15_σ57
                have g20_σ64 : σ64.1 218 20 = (σ0.1 218 20) := (hkv63.2.2.2.2.2.2.2.2.2.1).trans g20_σ57
                have g25_σ64 : σ64.1 218 25 = (σ0.1 218 25) := (hkv63.2.2.2.2.2.2.2.2.2.2).trans g25_σ57
                have h201 := hqv63.2.2.1
                have b201 := PIL_b hqv63.2.2.1 (by decide)
                have l201 := hqv63.2.2.2.1
                have o201 : σ57.1 230 = σ0.1 230 := (hOσ64.2 230 (by decide)).symm.trans r230_σ64
                rw [o201] at l201
                exact ok_rZ (Or.inr rfl) ⟨hT, (show (TOK σ64.1 ∧ ((σ0.1 218 11).toInt ≤ (σ64.1 218 11).toInt ∧ 0 ≤ (σ64.1 218 22).toInt ∧ (σ64.1 218 22).toInt ≤ 40) ∧ (σ64.1 218 14 = 0 → (σ0.1 218 11).toInt < (σ64.1 218 11).toInt ∧ ∃ c, stp tx n x1 (i, false, (lst (σ0.1 230) (σ0.1 218 22).toInt.toNat), (σ0.1 218 25).toInt.toNat) = some (some c) ∧ REL σ64.1 tx n c ∧ ((1 : Int32) = 0 ↔ c.2.1 = false)) ∧ (¬ σ64.1 218 14 = 0 → stp tx n x1 (i, false, (lst (σ0.1 230) (σ0.1 218 22).toInt.toNat), (σ0.1 218 25).toInt.toNat) = none) ∧ ZB σ64.1) ∧ (σ64.1 218 7 = σ0.1 218 7 ∧ σ64.1 218 9 = σ0.1 218 9 ∧ σ64.1 218 20 = σ0.1 218 20 ∧ σ64.1 218 25 = σ0.1 218 25) from ⟨by first | exact ⟨hK, ⟨m34.1, m34.2.1⟩, fun q => ⟨(m34.2.2.1 q).1.1, (tkE tx n i, false, decide (tkK tx n i = 40) :: (lst (σ0.1 230) (σ0.1 218 22).toInt.toNat), (σ0.1 218 25).toInt.toNat), (stp_o hpx).trans (if_neg (m34.2.2.1 q).2.1.1), ⟨⟨(m34.2.2.1 q).2.1.2, le1⟩, ⟨by first | exact ((m34.2.2.1 q).2.2.1.trans (by rw [k16]; rfl)).symm | exact ((m34.2.2.1 q).2.2.1.trans (by rw [k7, decide_eq_false (z50 w7.1)]; rfl)).symm, (m34.2.2.1 q).2.2.2⟩, by rw [g25_σ64], fun h => Bool.noConfusion (show false = true from h), fun _ => (m34.2.2.1 q).1.2⟩, ⟨fun _ => rfl, fun _ => rfl⟩⟩, fun q => (stp_o hpx).trans (if_pos (m34.2.2.2 q)), hB⟩ | exact absurd e7 n22 | exact absurd e22 n7 | exact absurd y196 n189 | exact ⟨hK, ⟨by (try simp only [g7_σ64, g9_σ64, g10_σ64, g11_σ64, g12_σ64, g13_σ64, g14_σ64, g15_σ64, g20_σ64, g25_σ64]); omega, by (try simp only [g7_σ64, g9_σ64, g10_σ64, g11_σ64, g12_σ64, g13_σ64, g14_σ64, g15_σ64, g20_σ64, g25_σ64]); omega⟩, fun q => absurd q (by (try simp only [g7_σ64, g9_σ64, g10_σ64, g11_σ64, g12_σ64, g13_σ64, g14_σ64, g15_σ64, g20_σ64, g25_σ64]); exact n196), fun _ => st9, hB⟩ | exact ⟨hK, ⟨by (try simp only [g7_σ64, g9_σ64, g10_σ64, g11_σ64, g12_σ64, g13_σ64, g14_σ64, g15_σ64, g20_σ64, g25_σ64]); omega, by omega⟩, fun _ => ⟨by (try simp only [g7_σ64, g9_σ64, g10_σ64, g11_σ64, g12_σ64, g13_σ64, g14_σ64, g15_σ64, g20_σ64, g25_σ64]); exact ga9, _, st9, ⟨⟨RX_i g9_σ64 g10_σ64 g11_σ64 g12_σ64 g13_σ64 ((hT.2 224 (by decide)).trans tE) nE pK9, le9⟩, ⟨by rw [r230_σ64]; exact l201.2.symm, by rw [r230_σ64]; exact NP_le hNP l201.1⟩, by rw [g25_σ64], fun _ => ⟨h201, popP_i _⟩, fun h => Bool.noConfusion (show true = false from h)⟩, ⟨fun h => absurd h (by decide), fun h => Bool.noConfusion (show true = false from h)⟩⟩, fun q => absurd (by (try simp only [g7_σ64, g9_σ64, g10_σ64, g11_σ64, g12_σ64, g13_σ64, g14_σ64, g15_σ64, g20_σ64, g25_σ64]); exact y196) q, hB⟩, g7_σ64, g9_σ64, g20_σ64, g25_σ64⟩)⟩
            · have l68 := hc59
              rw [Int32.le_iff_toInt_le] at l68
              try simp only [Int32.reduceToInt] at l68
              have s68 : (x4_57 + 1).toInt = x4_57.toInt + 1 := by rw [ti_add]; simp only [Int32.reduceToInt]; omega
              refine ok_gR (v := 226) hT rfl (hR 218 16 rfl) ?_
              refine ok_gIv rfl g23_σ57 ?_
              refine ok_s16 hT rfl (by decide) (by rw [ti_add, m57]; omega) (by rw [ti_add, m57]; omega) (fun σ67 eσ67 hOσ67 hT => ?_)
              have r230_σ67 : σ67.1 230 = σ0.1 230 := (hOσ67.2 230 (by decide)).trans r230_σ57
              have hK : TOK σ67.1 := TOK_tr hOσ67 (by decide) (by decide) hK
              have hB : ZB σ67.1 := by first | exact HQ.2.1 | exact HQ.2.2.2.2.1 | exact ZB_s eσ67 hB
              have g7_σ67 : σ67.1 218 7 = (σ0.1 218 7) := (congrFun (hOσ67.2 218 (by decide)) 7).trans g7_σ57
              have g9_σ67 : σ67.1 218 9 = (σ0.1 218 9) := (congrFun (hOσ67.2 218 (by decide)) 9).trans g9_σ57
              have g10_σ67 : σ67.1 218 10 = (σ46.1 218 10) := (congrFun (hOσ67.2 218 (by decide)) 10).trans g10_σ57
              have g11_σ67 : σ67.1 218 11 = (σ46.1 218 11) := (congrFun (hOσ67.2 218 (by decide)) 11).trans g11_σ57
              have g12_σ67 : σ67.1 218 12 = (σ46.1 218 12) := (congrFun (hOσ67.2 218 (by decide)) 12).trans g12_σ57
              have g13_σ67 : σ67.1 218 13 = (σ46.1 218 13) := (congrFun (hOσ67.2 218 (by decide)) 13).trans g13_σ57
              have g14_σ67 : σ67.1 218 14 = (σ0.1 218 14) := (congrFun (hOσ67.2 218 (by decide)) 14).trans g14_σ57
              have g15_σ67 : σ67.1 218 15 = (σ0.1 218 15) := (congrFun (hOσ67.2 218 (by decide)) 15).trans g15_σ57
              have g20_σ67 : σ67.1 218 20 = (σ0.1 218 20) := (congrFun (hOσ67.2 218 (by decide)) 20).trans g20_σ57
              have g22_σ67 : σ67.1 218 22 = (σ0.1 218 22) := (congrFun (hOσ67.2 218 (by decide)) 22).trans g22_σ57
              have g23_σ67 : σ67.1 218 23 = (σ56.1 218 23) := (congrFun (hOσ67.2 218 (by decide)) 23).trans g23_σ57
              have g24_σ67 : σ67.1 218 24 = (σ0.1 218 24) := (congrFun (hOσ67.2 218 (by decide)) 24).trans g24_σ57
              have g25_σ67 : σ67.1 218 25 = (σ0.1 218 25) := (congrFun (hOσ67.2 218 (by decide)) 25).trans g25_σ57
              exact ih150_57 (x4_57 + 1, σ67) (show Tr [218, 226, 227, 228, 229, 230] σ0 σ67 ∧ (0 ≤ (x4_57 + 1).toInt) ∧ (TOK σ67.1) ∧ (ZB σ67.1) ∧ (σ67.1 218 7 = (σ0.1 218 7)) ∧ (σ67.1 218 9 = (σ0.1 218 9)) ∧ (σ67.1 218 10 = (σ46.1 218 10)) ∧ (σ67.1 218 11 = (σ46.1 218 11)) ∧ (σ67.1 218 12 = (σ46.1 218 12)) ∧ (σ67.1 218 13 = (σ46.1 218 13)) ∧ (σ67.1 218 14 = (σ0.1 218 14)) ∧ (σ67.1 218 15 = (σ0.1 218 15)) ∧ (σ67.1 218 20 = (σ0.1 218 20)) ∧ (σ67.1 218 22 = (σ0.1 218 22)) ∧ (σ67.1 218 23 = (σ56.1 218 23)) ∧ (σ67.1 218 24 = (σ0.1 218 24)) ∧ (σ67.1 218 25 = (σ0.1 218 25)) ∧ (σ67.1 230 = σ0.1 230) from ⟨hT, (by rw [s68]; omega), hK, hB, g7_σ67, g9_σ67, g10_σ67, g11_σ67, g12_σ67, g13_σ67, g14_σ67, g15_σ67, g20_σ67, g22_σ67, g23_σ67, g24_σ67, g25_σ67, r230_σ67⟩) (show (1024 - (x4_57 + 1).toInt).toNat < (1024 - x4_57.toInt).toNat from (by rw [s68]; omega))
  · have n7 := hc3
    have w7 := hqv1.resolve_left (fun q => hc3 q.1)
    have k7 : tkK tx n i = 1 := by obtain ⟨k, _, hw⟩ := w7.2; exact hw.1
    rw [J_X12_readsPart_19.eq_1]
    refine ok_if (fun hc68 => ?_) (fun hc68 => ?_)
    · have e22 := hc68
      refine ok_gC rfl ?_
      refine ok_zbT (Q := fun V σ => (TOK σ.1 ∧ (σ0.1 218 11).toInt ≤ (σ.1 218 11).toInt ∧ (0 ≤ (σ.1 218 22).toInt ∧ (σ.1 218 22).toInt ≤ 40) ∧ (σ.1 218 14 = 0 → ((σ0.1 218 11).toInt < (σ.1 218 11).toInt ∧ PIL σ.1 0) ∧ (¬ (lst (σ0.1 230) (σ0.1 218 22).toInt.toNat).length = 6 ∧ RX σ.1 tx n (tkE tx n i)) ∧ lst (σ.1 230) (σ.1 218 22).toInt.toNat = decide ((100 : Int32) = 100) :: (lst (σ0.1 230) (σ0.1 218 22).toInt.toNat) ∧ NP (σ.1 230) (σ.1 218 22).toInt.toNat) ∧ (¬ σ.1 218 14 = 0 → (lst (σ0.1 230) (σ0.1 218 22).toInt.toNat).length = 6)) ∧ (σ.1 218 7 = σ0.1 218 7 ∧ σ.1 218 9 = σ0.1 218 9 ∧ σ.1 218 20 = σ0.1 218 20 ∧ σ.1 218 23 = σ0.1 218 23 ∧ σ.1 218 25 = σ0.1 218 25)) hT (s_X12_opens_r hN (hR.tr hT) (hK) (by rw [hT.2 224 (by decide)]; exact hY) (RX_i rfl rfl rfl rfl rfl ((hT.2 224 (by decide)).trans tE) nE pK) (hg) (hP) (by first | decide | (have w8 := w7.1; rw [ti_add]; simp only [Int32.reduceToInt]; omega) | exact absurd e7 n22) (by first | (rw [pK.2.1, k7]; decide) | (rw [e16]; decide)) (hNP)) (by decide) (fun v69 σ70 hOσ70 hT hqv69 => ?_)
      have hqv69 : (TOK σ70.1 ∧ (σ0.1 218 11).toInt ≤ (σ70.1 218 11).toInt ∧ (0 ≤ (σ70.1 218 22).toInt ∧ (σ70.1 218 22).toInt ≤ 40) ∧ (σ70.1 218 14 = 0 → ((σ0.1 218 11).toInt < (σ70.1 218 11).toInt ∧ PIL σ70.1 0) ∧ (¬ (lst (σ0.1 230) (σ0.1 218 22).toInt.toNat).length = 6 ∧ RX σ70.1 tx n (tkE tx n i)) ∧ lst (σ70.1 230) (σ70.1 218 22).toInt.toNat = decide ((100 : Int32) = 100) :: (lst (σ0.1 230) (σ0.1 218 22).toInt.toNat) ∧ NP (σ70.1 230) (σ70.1 218 22).toInt.toNat) ∧ (¬ σ70.1 218 14 = 0 → (lst (σ0.1 230) (σ0.1 218 22).toInt.toNat).length = 6)) ∧ (σ70.1 218 7 = σ0.1 218 7 ∧ σ70.1 218 9 = σ0.1 218 9 ∧ σ70.1 218 20 = σ0.1 218 20 ∧ σ70.1 218 23 = σ0.1 218 23 ∧ σ70.1 218 25 = σ0.1 218 25) := hqv69
      have hkv69 := hqv69
      have hqv69 := hqv69.1
      have hK : TOK σ70.1 := by first | exact hqv69.1 | exact hqv69.1.1 | exact TOK_p eσ70 (by decide) hK
      have hB : ZB σ70.1 := ZB.tr hOσ70 (by decide) hB
      have g7_σ70 : σ70.1 218 7 = (σ0.1 218 7) := hkv69.2.1
      have g9_σ70 : σ70.1 218 9 = (σ0.1 218 9) := hkv69.2.2.1
      have g20_σ70 : σ70.1 218 20 = (σ0.1 218 20) := hkv69.2.2.2.1
      have g23_σ70 : σ70.1 218 23 = (σ0.1 218 23) := hkv69.2.2.2.2.1
      have g25_σ70 : σ70.1 218 25 = (σ0.1 218 25) := hkv69.2.2.2.2.2
      have m34 := hqv69.2
      have hpx : isPx tx n i ∨ tkK tx n i = 40 := by first | exact Or.inl w7.2 | exact Or.inr k16
      exact ok_rZ (Or.inl rfl) ⟨hT, (show (TOK σ70.1 ∧ ((σ0.1 218 11).toInt ≤ (σ70.1 218 11).toInt ∧ 0 ≤ (σ70.1 218 22).toInt ∧ (σ70.1 218 22).toInt ≤ 40) ∧ (σ70.1 218 14 = 0 → (σ0.1 218 11).toInt < (σ70.1 218 11).toInt ∧ ∃ c, stp tx n x1 (i, false, (lst (σ0.1 230) (σ0.1 218 22).toInt.toNat), (σ0.1 218 25).toInt.toNat) = some (some c) ∧ REL σ70.1 tx n c ∧ ((0 : Int32) = 0 ↔ c.2.1 = false)) ∧ (¬ σ70.1 218 14 = 0 → stp tx n x1 (i, false, (lst (σ0.1 230) (σ0.1 218 22).toInt.toNat), (σ0.1 218 25).toInt.toNat) = none) ∧ ZB σ70.1) ∧ (σ70.1 218 7 = σ0.1 218 7 ∧ σ70.1 218 9 = σ0.1 218 9 ∧ σ70.1 218 20 = σ0.1 218 20 ∧ σ70.1 218 25 = σ0.1 218 25) from ⟨by first | exact ⟨hK, ⟨m34.1, m34.2.1⟩, fun q => ⟨(m34.2.2.1 q).1.1, (tkE tx n i, false, decide (tkK tx n i = 40) :: (lst (σ0.1 230) (σ0.1 218 22).toInt.toNat), (σ0.1 218 25).toInt.toNat), (stp_o hpx).trans (if_neg (m34.2.2.1 q).2.1.1), ⟨⟨(m34.2.2.1 q).2.1.2, le1⟩, ⟨by first | exact ((m34.2.2.1 q).2.2.1.trans (by rw [k16]; rfl)).symm | exact ((m34.2.2.1 q).2.2.1.trans (by rw [k7, decide_eq_false (z50 w7.1)]; rfl)).symm, (m34.2.2.1 q).2.2.2⟩, by rw [g25_σ70], fun h => Bool.noConfusion (show false = true from h), fun _ => (m34.2.2.1 q).1.2⟩, ⟨fun _ => rfl, fun _ => rfl⟩⟩, fun q => (stp_o hpx).trans (if_pos (m34.2.2.2 q)), hB⟩ | exact absurd e7 n22 | exact absurd e22 n7 | exact absurd y196 n189 | exact ⟨hK, ⟨by (try simp only [g7_σ70, g9_σ70, g20_σ70, g23_σ70, g25_σ70]); omega, by (try simp only [g7_σ70, g9_σ70, g20_σ70, g23_σ70, g25_σ70]); omega⟩, fun q => absurd q (by (try simp only [g7_σ70, g9_σ70, g20_σ70, g23_σ70, g25_σ70]); exact n196), fun _ => st9, hB⟩ | exact ⟨hK, ⟨by (try simp only [g7_σ70, g9_σ70, g20_σ70, g23_σ70, g25_σ70]); omega, by omega⟩, fun _ => ⟨by (try simp only [g7_σ70, g9_σ70, g20_σ70, g23_σ70, g25_σ70]); exact ga9, _, st9, ⟨⟨RX_i g9_σ70 rfl rfl rfl rfl ((hT.2 224 (by decide)).trans tE) nE pK9, le9⟩, ⟨by rw [rfl]; exact l201.2.symm, by rw [rfl]; exact NP_le hNP l201.1⟩, by rw [g25_σ70], fun _ => ⟨h201, popP_i _⟩, fun h => Bool.noConfusion (show true = false from h)⟩, ⟨fun h => absurd h (by decide), fun h => Bool.noConfusion (show true = false from h)⟩⟩, fun q => absurd (by (try simp only [g7_σ70, g9_σ70, g20_σ70, g23_σ70, g25_σ70]); exact y196) q, hB⟩, g7_σ70, g9_σ70, g20_σ70, g25_σ70⟩)⟩
    · have n22 := hc68
      refine ok_gC rfl ?_
      refine ok_zbT (Q := fun V σ => (TOK σ.1 ∧ (σ0.1 218 11).toInt ≤ (σ.1 218 11).toInt ∧ (0 ≤ (σ.1 218 22).toInt ∧ (σ.1 218 22).toInt ≤ 40) ∧ (σ.1 218 14 = 0 → ((σ0.1 218 11).toInt < (σ.1 218 11).toInt ∧ PIL σ.1 0) ∧ (¬ (lst (σ0.1 230) (σ0.1 218 22).toInt.toNat).length = 6 ∧ RX σ.1 tx n (tkE tx n i)) ∧ lst (σ.1 230) (σ.1 218 22).toInt.toNat = decide ((50 + v1) = 100) :: (lst (σ0.1 230) (σ0.1 218 22).toInt.toNat) ∧ NP (σ.1 230) (σ.1 218 22).toInt.toNat) ∧ (¬ σ.1 218 14 = 0 → (lst (σ0.1 230) (σ0.1 218 22).toInt.toNat).length = 6)) ∧ (σ.1 218 7 = σ0.1 218 7 ∧ σ.1 218 9 = σ0.1 218 9 ∧ σ.1 218 20 = σ0.1 218 20 ∧ σ.1 218 23 = σ0.1 218 23 ∧ σ.1 218 25 = σ0.1 218 25)) hT (s_X12_opens_r hN (hR.tr hT) (hK) (by rw [hT.2 224 (by decide)]; exact hY) (RX_i rfl rfl rfl rfl rfl ((hT.2 224 (by decide)).trans tE) nE pK) (hg) (hP) (by first | decide | (have w8 := w7.1; rw [ti_add]; simp only [Int32.reduceToInt]; omega) | exact absurd e7 n22) (by first | (rw [pK.2.1, k7]; decide) | (rw [e16]; decide)) (hNP)) (by decide) (fun v71 σ72 hOσ72 hT hqv71 => ?_)
      have hqv71 : (TOK σ72.1 ∧ (σ0.1 218 11).toInt ≤ (σ72.1 218 11).toInt ∧ (0 ≤ (σ72.1 218 22).toInt ∧ (σ72.1 218 22).toInt ≤ 40) ∧ (σ72.1 218 14 = 0 → ((σ0.1 218 11).toInt < (σ72.1 218 11).toInt ∧ PIL σ72.1 0) ∧ (¬ (lst (σ0.1 230) (σ0.1 218 22).toInt.toNat).length = 6 ∧ RX σ72.1 tx n (tkE tx n i)) ∧ lst (σ72.1 230) (σ72.1 218 22).toInt.toNat = decide ((50 + v1) = 100) :: (lst (σ0.1 230) (σ0.1 218 22).toInt.toNat) ∧ NP (σ72.1 230) (σ72.1 218 22).toInt.toNat) ∧ (¬ σ72.1 218 14 = 0 → (lst (σ0.1 230) (σ0.1 218 22).toInt.toNat).length = 6)) ∧ (σ72.1 218 7 = σ0.1 218 7 ∧ σ72.1 218 9 = σ0.1 218 9 ∧ σ72.1 218 20 = σ0.1 218 20 ∧ σ72.1 218 23 = σ0.1 218 23 ∧ σ72.1 218 25 = σ0.1 218 25) := hqv71
      have hkv71 := hqv71
      have hqv71 := hqv71.1
      have hK : TOK σ72.1 := by first | exact hqv71.1 | exact hqv71.1.1 | exact TOK_p eσ72 (by decide) hK
      have hB : ZB σ72.1 := ZB.tr hOσ72 (by decide) hB
      have g7_σ72 : σ72.1 218 7 = (σ0.1 218 7) := hkv71.2.1
      have g9_σ72 : σ72.1 218 9 = (σ0.1 218 9) := hkv71.2.2.1
      have g20_σ72 : σ72.1 218 20 = (σ0.1 218 20) := hkv71.2.2.2.1
      have g23_σ72 : σ72.1 218 23 = (σ0.1 218 23) := hkv71.2.2.2.2.1
      have g25_σ72 : σ72.1 218 25 = (σ0.1 218 25) := hkv71.2.2.2.2.2
      have m34 := hqv71.2
      have hpx : isPx tx n i ∨ tkK tx n i = 40 := by first | exact Or.inl w7.2 | exact Or.inr k16
      exact ok_rZ (Or.inl rfl) ⟨hT, (show (TOK σ72.1 ∧ ((σ0.1 218 11).toInt ≤ (σ72.1 218 11).toInt ∧ 0 ≤ (σ72.1 218 22).toInt ∧ (σ72.1 218 22).toInt ≤ 40) ∧ (σ72.1 218 14 = 0 → (σ0.1 218 11).toInt < (σ72.1 218 11).toInt ∧ ∃ c, stp tx n x1 (i, false, (lst (σ0.1 230) (σ0.1 218 22).toInt.toNat), (σ0.1 218 25).toInt.toNat) = some (some c) ∧ REL σ72.1 tx n c ∧ ((0 : Int32) = 0 ↔ c.2.1 = false)) ∧ (¬ σ72.1 218 14 = 0 → stp tx n x1 (i, false, (lst (σ0.1 230) (σ0.1 218 22).toInt.toNat), (σ0.1 218 25).toInt.toNat) = none) ∧ ZB σ72.1) ∧ (σ72.1 218 7 = σ0.1 218 7 ∧ σ72.1 218 9 = σ0.1 218 9 ∧ σ72.1 218 20 = σ0.1 218 20 ∧ σ72.1 218 25 = σ0.1 218 25) from ⟨by first | exact ⟨hK, ⟨m34.1, m34.2.1⟩, fun q => ⟨(m34.2.2.1 q).1.1, (tkE tx n i, false, decide (tkK tx n i = 40) :: (lst (σ0.1 230) (σ0.1 218 22).toInt.toNat), (σ0.1 218 25).toInt.toNat), (stp_o hpx).trans (if_neg (m34.2.2.1 q).2.1.1), ⟨⟨(m34.2.2.1 q).2.1.2, le1⟩, ⟨by first | exact ((m34.2.2.1 q).2.2.1.trans (by rw [k16]; rfl)).symm | exact ((m34.2.2.1 q).2.2.1.trans (by rw [k7, decide_eq_false (z50 w7.1)]; rfl)).symm, (m34.2.2.1 q).2.2.2⟩, by rw [g25_σ72], fun h => Bool.noConfusion (show false = true from h), fun _ => (m34.2.2.1 q).1.2⟩, ⟨fun _ => rfl, fun _ => rfl⟩⟩, fun q => (stp_o hpx).trans (if_pos (m34.2.2.2 q)), hB⟩ | exact absurd e7 n22 | exact absurd e22 n7 | exact absurd y196 n189 | exact ⟨hK, ⟨by (try simp only [g7_σ72, g9_σ72, g20_σ72, g23_σ72, g25_σ72]); omega, by (try simp only [g7_σ72, g9_σ72, g20_σ72, g23_σ72, g25_σ72]); omega⟩, fun q => absurd q (by (try simp only [g7_σ72, g9_σ72, g20_σ72, g23_σ72, g25_σ72]); exact n196), fun _ => st9, hB⟩ | exact ⟨hK, ⟨by (try simp only [g7_σ72, g9_σ72, g20_σ72, g23_σ72, g25_σ72]); omega, by omega⟩, fun _ => ⟨by (try simp only [g7_σ72, g9_σ72, g20_σ72, g23_σ72, g25_σ72]); exact ga9, _, st9, ⟨⟨RX_i g9_σ72 rfl rfl rfl rfl ((hT.2 224 (by decide)).trans tE) nE pK9, le9⟩, ⟨by rw [rfl]; exact l201.2.symm, by rw [rfl]; exact NP_le hNP l201.1⟩, by rw [g25_σ72], fun _ => ⟨h201, popP_i _⟩, fun h => Bool.noConfusion (show true = false from h)⟩, ⟨fun h => absurd h (by decide), fun h => Bool.noConfusion (show true = false from h)⟩⟩, fun q => absurd (by (try simp only [g7_σ72, g9_σ72, g20_σ72, g23_σ72, g25_σ72]); exact y196) q, hB⟩, g7_σ72, g9_σ72, g20_σ72, g25_σ72⟩)⟩

set_option maxHeartbeats 4000000 in
set_option maxRecDepth 100000 in
theorem s_X12_readsPart_232_r {N : Nat} (hN : 1048576 ≤ N) {x1 : Int32} {σ0 : zS} {tx : Nat → Int32} {n i : Nat} (hR : RF σ0.2.2) (hK : TOK σ0.1) (hY : BYT (σ0.1 224)) (hG : RX σ0.1 tx n i) (hg : σ0.1 218 14 = 0) (hB : ZB σ0.1) (hn : 0 ≤ x1.toInt ∧ x1.toInt ≤ 10) (ha : 0 ≤ (σ0.1 218 20).toInt ∧ (σ0.1 218 20).toInt ≤ 1024) (hP : PIL σ0.1 0) (hNP : NP (σ0.1 230) (σ0.1 218 22).toInt.toNat) (hi : i ≤ n) : Ok (f_X12_readsPart N 218 x1 232 σ0) (fun r => Tr [218, 226, 227, 228, 229, 230] σ0 r.2 ∧ ((TOK r.2.1 ∧ ((σ0.1 218 11).toInt ≤ (r.2.1 218 11).toInt ∧ 0 ≤ (r.2.1 218 22).toInt ∧ (r.2.1 218 22).toInt ≤ 40) ∧ (r.2.1 218 14 = 0 → (σ0.1 218 11).toInt < (r.2.1 218 11).toInt ∧ ∃ c, stp tx n x1 (i, false, (lst (σ0.1 230) (σ0.1 218 22).toInt.toNat), (σ0.1 218 25).toInt.toNat) = some (some c) ∧ REL r.2.1 tx n c ∧ (r.1 = 0 ↔ c.2.1 = false)) ∧ (¬ r.2.1 218 14 = 0 → stp tx n x1 (i, false, (lst (σ0.1 230) (σ0.1 218 22).toInt.toNat), (σ0.1 218 25).toInt.toNat) = none) ∧ ZB r.2.1) ∧ (r.2.1 218 7 = σ0.1 218 7 ∧ r.2.1 218 9 = σ0.1 218 9 ∧ r.2.1 218 20 = σ0.1 218 20 ∧ r.2.1 218 25 = σ0.1 218 25))) := by
  have hT : Tr [218, 226, 227, 228, 229, 230] σ0 σ0 := Tr.rf
  have hK1 := hK.1
  have tE : σ0.1 224 = tx := hG.1.1
  have nE : (σ0.1 218 9).toInt.toNat = n := hG.1.2
  have pK : TKV (σ0.1 218 11) (σ0.1 218 10) (σ0.1 218 12) (σ0.1 218 13) tx n i := hG.2
  have hb0 := PIL_b hP (by decide)
  have hP0 := hP
  obtain ⟨b8, d8, r8, hS, h22, hd, hd6, hp⟩ := hP0
  have hSb := Stk_b hS
  have le1 := (tk_le (t := tx) hi).2.2
  rw [f_X12_readsPart.eq_1]
  refine ok_gC rfl ?_
  refine ok_zbX (Q := fun V => (V = -1 ∧ ¬ isPx tx n i) ∨ ((0 ≤ V.toInt ∧ V.toInt ≤ 5) ∧ isPx tx n i)) (xe_X12_prefixOf hN (hR.tr hT) hK hg hG) (fun v1 hqv1 => ?_)
  have hqv1 : (v1 = -1 ∧ ¬ isPx tx n i) ∨ ((0 ≤ v1.toInt ∧ v1.toInt ≤ 5) ∧ isPx tx n i) := hqv1
  refine ok_if (fun hc3 => ?_) (fun hc3 => ?_)
  · have e7 := hc3
    have px : ¬ isPx tx n i := by rcases hqv1 with q | q; exact q.2; exact absurd (congrArg Int32.toInt hc3) (by rw [show (-1 : Int32).toInt = -1 by decide]; omega)
    refine ok_gI rfl ?_
    refine ok_if (fun hc5 => ?_) (fun hc5 => ?_)
    · have e16 := hc5
      have k16 : tkK tx n i = 40 := pK.2.1.symm.trans hc5
      rw [J_X12_readsPart_19.eq_1]
      refine ok_if (fun hc6 => ?_) (fun hc6 => ?_)
      · have e22 := hc6
        refine ok_gC rfl ?_
        refine ok_zbT (Q := fun V σ => (TOK σ.1 ∧ (σ0.1 218 11).toInt ≤ (σ.1 218 11).toInt ∧ (0 ≤ (σ.1 218 22).toInt ∧ (σ.1 218 22).toInt ≤ 40) ∧ (σ.1 218 14 = 0 → ((σ0.1 218 11).toInt < (σ.1 218 11).toInt ∧ PIL σ.1 0) ∧ (¬ (lst (σ0.1 230) (σ0.1 218 22).toInt.toNat).length = 6 ∧ RX σ.1 tx n (tkE tx n i)) ∧ lst (σ.1 230) (σ.1 218 22).toInt.toNat = decide ((100 : Int32) = 100) :: (lst (σ0.1 230) (σ0.1 218 22).toInt.toNat) ∧ NP (σ.1 230) (σ.1 218 22).toInt.toNat) ∧ (¬ σ.1 218 14 = 0 → (lst (σ0.1 230) (σ0.1 218 22).toInt.toNat).length = 6)) ∧ (σ.1 218 7 = σ0.1 218 7 ∧ σ.1 218 9 = σ0.1 218 9 ∧ σ.1 218 20 = σ0.1 218 20 ∧ σ.1 218 23 = σ0.1 218 23 ∧ σ.1 218 25 = σ0.1 218 25)) hT (s_X12_opens_r hN (hR.tr hT) (hK) (by rw [hT.2 224 (by decide)]; exact hY) (RX_i rfl rfl rfl rfl rfl ((hT.2 224 (by decide)).trans tE) nE pK) (hg) (hP) (by first | decide | (have w8 := w7.1; rw [ti_add]; simp only [Int32.reduceToInt]; omega) | exact absurd e7 n22) (by first | (rw [pK.2.1, k7]; decide) | (rw [e16]; decide)) (hNP)) (by decide) (fun v7 σ8 hOσ8 hT hqv7 => ?_)
        have hqv7 : (TOK σ8.1 ∧ (σ0.1 218 11).toInt ≤ (σ8.1 218 11).toInt ∧ (0 ≤ (σ8.1 218 22).toInt ∧ (σ8.1 218 22).toInt ≤ 40) ∧ (σ8.1 218 14 = 0 → ((σ0.1 218 11).toInt < (σ8.1 218 11).toInt ∧ PIL σ8.1 0) ∧ (¬ (lst (σ0.1 230) (σ0.1 218 22).toInt.toNat).length = 6 ∧ RX σ8.1 tx n (tkE tx n i)) ∧ lst (σ8.1 230) (σ8.1 218 22).toInt.toNat = decide ((100 : Int32) = 100) :: (lst (σ0.1 230) (σ0.1 218 22).toInt.toNat) ∧ NP (σ8.1 230) (σ8.1 218 22).toInt.toNat) ∧ (¬ σ8.1 218 14 = 0 → (lst (σ0.1 230) (σ0.1 218 22).toInt.toNat).length = 6)) ∧ (σ8.1 218 7 = σ0.1 218 7 ∧ σ8.1 218 9 = σ0.1 218 9 ∧ σ8.1 218 20 = σ0.1 218 20 ∧ σ8.1 218 23 = σ0.1 218 23 ∧ σ8.1 218 25 = σ0.1 218 25) := hqv7
        have hkv7 := hqv7
        have hqv7 := hqv7.1
        have hK : TOK σ8.1 := by first | exact hqv7.1 | exact hqv7.1.1 | exact TOK_p eσ8 (by decide) hK
        have hB : ZB σ8.1 := ZB.tr hOσ8 (by decide) hB
        have g7_σ8 : σ8.1 218 7 = (σ0.1 218 7) := hkv7.2.1
        have g9_σ8 : σ8.1 218 9 = (σ0.1 218 9) := hkv7.2.2.1
        have g20_σ8 : σ8.1 218 20 = (σ0.1 218 20) := hkv7.2.2.2.1
        have g23_σ8 : σ8.1 218 23 = (σ0.1 218 23) := hkv7.2.2.2.2.1
        have g25_σ8 : σ8.1 218 25 = (σ0.1 218 25) := hkv7.2.2.2.2.2
        have m34 := hqv7.2
        have hpx : isPx tx n i ∨ tkK tx n i = 40 := by first | exact Or.inl w7.2 | exact Or.inr k16
        exact ok_rZ (Or.inl rfl) ⟨hT, (show (TOK σ8.1 ∧ ((σ0.1 218 11).toInt ≤ (σ8.1 218 11).toInt ∧ 0 ≤ (σ8.1 218 22).toInt ∧ (σ8.1 218 22).toInt ≤ 40) ∧ (σ8.1 218 14 = 0 → (σ0.1 218 11).toInt < (σ8.1 218 11).toInt ∧ ∃ c, stp tx n x1 (i, false, (lst (σ0.1 230) (σ0.1 218 22).toInt.toNat), (σ0.1 218 25).toInt.toNat) = some (some c) ∧ REL σ8.1 tx n c ∧ ((0 : Int32) = 0 ↔ c.2.1 = false)) ∧ (¬ σ8.1 218 14 = 0 → stp tx n x1 (i, false, (lst (σ0.1 230) (σ0.1 218 22).toInt.toNat), (σ0.1 218 25).toInt.toNat) = none) ∧ ZB σ8.1) ∧ (σ8.1 218 7 = σ0.1 218 7 ∧ σ8.1 218 9 = σ0.1 218 9 ∧ σ8.1 218 20 = σ0.1 218 20 ∧ σ8.1 218 25 = σ0.1 218 25) from ⟨by first | exact ⟨hK, ⟨m34.1, m34.2.1⟩, fun q => ⟨(m34.2.2.1 q).1.1, (tkE tx n i, false, decide (tkK tx n i = 40) :: (lst (σ0.1 230) (σ0.1 218 22).toInt.toNat), (σ0.1 218 25).toInt.toNat), (stp_o hpx).trans (if_neg (m34.2.2.1 q).2.1.1), ⟨⟨(m34.2.2.1 q).2.1.2, le1⟩, ⟨by first | exact ((m34.2.2.1 q).2.2.1.trans (by rw [k16]; rfl)).symm | exact ((m34.2.2.1 q).2.2.1.trans (by rw [k7, decide_eq_false (z50 w7.1)]; rfl)).symm, (m34.2.2.1 q).2.2.2⟩, by rw [g25_σ8], fun h => Bool.noConfusion (show false = true from h), fun _ => (m34.2.2.1 q).1.2⟩, ⟨fun _ => rfl, fun _ => rfl⟩⟩, fun q => (stp_o hpx).trans (if_pos (m34.2.2.2 q)), hB⟩ | exact absurd e7 n22 | exact absurd e22 n7 | exact absurd y196 n189 | exact ⟨hK, ⟨by (try simp only [g7_σ8, g9_σ8, g20_σ8, g23_σ8, g25_σ8]); omega, by (try simp only [g7_σ8, g9_σ8, g20_σ8, g23_σ8, g25_σ8]); omega⟩, fun q => absurd q (by (try simp only [g7_σ8, g9_σ8, g20_σ8, g23_σ8, g25_σ8]); exact n196), fun _ => st9, hB⟩ | exact ⟨hK, ⟨by (try simp only [g7_σ8, g9_σ8, g20_σ8, g23_σ8, g25_σ8]); omega, by omega⟩, fun _ => ⟨by (try simp only [g7_σ8, g9_σ8, g20_σ8, g23_σ8, g25_σ8]); exact ga9, _, st9, ⟨⟨RX_i g9_σ8 rfl rfl rfl rfl ((hT.2 224 (by decide)).trans tE) nE pK9, le9⟩, ⟨by rw [rfl]; exact l201.2.symm, by rw [rfl]; exact NP_le hNP l201.1⟩, by rw [g25_σ8], fun _ => ⟨h201, popP_i _⟩, fun h => Bool.noConfusion (show true = false from h)⟩, ⟨fun h => absurd h (by decide), fun h => Bool.noConfusion (show true = false from h)⟩⟩, fun q => absurd (by (try simp only [g7_σ8, g9_σ8, g20_σ8, g23_σ8, g25_σ8]); exact y196) q, hB⟩, g7_σ8, g9_σ8, g20_σ8, g25_σ8⟩)⟩
      · have n22 := hc6
        refine ok_gC rfl ?_
        refine ok_zbT (Q := fun V σ => (TOK σ.1 ∧ (σ0.1 218 11).toInt ≤ (σ.1 218 11).toInt ∧ (0 ≤ (σ.1 218 22).toInt ∧ (σ.1 218 22).toInt ≤ 40) ∧ (σ.1 218 14 = 0 → ((σ0.1 218 11).toInt < (σ.1 218 11).toInt ∧ PIL σ.1 0) ∧ (¬ (lst (σ0.1 230) (σ0.1 218 22).toInt.toNat).length = 6 ∧ RX σ.1 tx n (tkE tx n i)) ∧ lst (σ.1 230) (σ.1 218 22).toInt.toNat = decide ((50 + v1) = 100) :: (lst (σ0.1 230) (σ0.1 218 22).toInt.toNat) ∧ NP (σ.1 230) (σ.1 218 22).toInt.toNat) ∧ (¬ σ.1 218 14 = 0 → (lst (σ0.1 230) (σ0.1 218 22).toInt.toNat).length = 6)) ∧ (σ.1 218 7 = σ0.1 218 7 ∧ σ.1 218 9 = σ0.1 218 9 ∧ σ.1 218 20 = σ0.1 218 20 ∧ σ.1 218 23 = σ0.1 218 23 ∧ σ.1 218 25 = σ0.1 218 25)) hT (s_X12_opens_r hN (hR.tr hT) (hK) (by rw [hT.2 224 (by decide)]; exact hY) (RX_i rfl rfl rfl rfl rfl ((hT.2 224 (by decide)).trans tE) nE pK) (hg) (hP) (by first | decide | (have w8 := w7.1; rw [ti_add]; simp only [Int32.reduceToInt]; omega) | exact absurd e7 n22) (by first | (rw [pK.2.1, k7]; decide) | (rw [e16]; decide)) (hNP)) (by decide) (fun v9 σ10 hOσ10 hT hqv9 => ?_)
        have hqv9 : (TOK σ10.1 ∧ (σ0.1 218 11).toInt ≤ (σ10.1 218 11).toInt ∧ (0 ≤ (σ10.1 218 22).toInt ∧ (σ10.1 218 22).toInt ≤ 40) ∧ (σ10.1 218 14 = 0 → ((σ0.1 218 11).toInt < (σ10.1 218 11).toInt ∧ PIL σ10.1 0) ∧ (¬ (lst (σ0.1 230) (σ0.1 218 22).toInt.toNat).length = 6 ∧ RX σ10.1 tx n (tkE tx n i)) ∧ lst (σ10.1 230) (σ10.1 218 22).toInt.toNat = decide ((50 + v1) = 100) :: (lst (σ0.1 230) (σ0.1 218 22).toInt.toNat) ∧ NP (σ10.1 230) (σ10.1 218 22).toInt.toNat) ∧ (¬ σ10.1 218 14 = 0 → (lst (σ0.1 230) (σ0.1 218 22).toInt.toNat).length = 6)) ∧ (σ10.1 218 7 = σ0.1 218 7 ∧ σ10.1 218 9 = σ0.1 218 9 ∧ σ10.1 218 20 = σ0.1 218 20 ∧ σ10.1 218 23 = σ0.1 218 23 ∧ σ10.1 218 25 = σ0.1 218 25) := hqv9
        have hkv9 := hqv9
        have hqv9 := hqv9.1
        have hK : TOK σ10.1 := by first | exact hqv9.1 | exact hqv9.1.1 | exact TOK_p eσ10 (by decide) hK
        have hB : ZB σ10.1 := ZB.tr hOσ10 (by decide) hB
        have g7_σ10 : σ10.1 218 7 = (σ0.1 218 7) := hkv9.2.1
        have g9_σ10 : σ10.1 218 9 = (σ0.1 218 9) := hkv9.2.2.1
        have g20_σ10 : σ10.1 218 20 = (σ0.1 218 20) := hkv9.2.2.2.1
        have g23_σ10 : σ10.1 218 23 = (σ0.1 218 23) := hkv9.2.2.2.2.1
        have g25_σ10 : σ10.1 218 25 = (σ0.1 218 25) := hkv9.2.2.2.2.2
        have m34 := hqv9.2
        have hpx : isPx tx n i ∨ tkK tx n i = 40 := by first | exact Or.inl w7.2 | exact Or.inr k16
        exact ok_rZ (Or.inl rfl) ⟨hT, (show (TOK σ10.1 ∧ ((σ0.1 218 11).toInt ≤ (σ10.1 218 11).toInt ∧ 0 ≤ (σ10.1 218 22).toInt ∧ (σ10.1 218 22).toInt ≤ 40) ∧ (σ10.1 218 14 = 0 → (σ0.1 218 11).toInt < (σ10.1 218 11).toInt ∧ ∃ c, stp tx n x1 (i, false, (lst (σ0.1 230) (σ0.1 218 22).toInt.toNat), (σ0.1 218 25).toInt.toNat) = some (some c) ∧ REL σ10.1 tx n c ∧ ((0 : Int32) = 0 ↔ c.2.1 = false)) ∧ (¬ σ10.1 218 14 = 0 → stp tx n x1 (i, false, (lst (σ0.1 230) (σ0.1 218 22).toInt.toNat), (σ0.1 218 25).toInt.toNat) = none) ∧ ZB σ10.1) ∧ (σ10.1 218 7 = σ0.1 218 7 ∧ σ10.1 218 9 = σ0.1 218 9 ∧ σ10.1 218 20 = σ0.1 218 20 ∧ σ10.1 218 25 = σ0.1 218 25) from ⟨by first | exact ⟨hK, ⟨m34.1, m34.2.1⟩, fun q => ⟨(m34.2.2.1 q).1.1, (tkE tx n i, false, decide (tkK tx n i = 40) :: (lst (σ0.1 230) (σ0.1 218 22).toInt.toNat), (σ0.1 218 25).toInt.toNat), (stp_o hpx).trans (if_neg (m34.2.2.1 q).2.1.1), ⟨⟨(m34.2.2.1 q).2.1.2, le1⟩, ⟨by first | exact ((m34.2.2.1 q).2.2.1.trans (by rw [k16]; rfl)).symm | exact ((m34.2.2.1 q).2.2.1.trans (by rw [k7, decide_eq_false (z50 w7.1)]; rfl)).symm, (m34.2.2.1 q).2.2.2⟩, by rw [g25_σ10], fun h => Bool.noConfusion (show false = true from h), fun _ => (m34.2.2.1 q).1.2⟩, ⟨fun _ => rfl, fun _ => rfl⟩⟩, fun q => (stp_o hpx).trans (if_pos (m34.2.2.2 q)), hB⟩ | exact absurd e7 n22 | exact absurd e22 n7 | exact absurd y196 n189 | exact ⟨hK, ⟨by (try simp only [g7_σ10, g9_σ10, g20_σ10, g23_σ10, g25_σ10]); omega, by (try simp only [g7_σ10, g9_σ10, g20_σ10, g23_σ10, g25_σ10]); omega⟩, fun q => absurd q (by (try simp only [g7_σ10, g9_σ10, g20_σ10, g23_σ10, g25_σ10]); exact n196), fun _ => st9, hB⟩ | exact ⟨hK, ⟨by (try simp only [g7_σ10, g9_σ10, g20_σ10, g23_σ10, g25_σ10]); omega, by omega⟩, fun _ => ⟨by (try simp only [g7_σ10, g9_σ10, g20_σ10, g23_σ10, g25_σ10]); exact ga9, _, st9, ⟨⟨RX_i g9_σ10 rfl rfl rfl rfl ((hT.2 224 (by decide)).trans tE) nE pK9, le9⟩, ⟨by rw [rfl]; exact l201.2.symm, by rw [rfl]; exact NP_le hNP l201.1⟩, by rw [g25_σ10], fun _ => ⟨h201, popP_i _⟩, fun h => Bool.noConfusion (show true = false from h)⟩, ⟨fun h => absurd h (by decide), fun h => Bool.noConfusion (show true = false from h)⟩⟩, fun q => absurd (by (try simp only [g7_σ10, g9_σ10, g20_σ10, g23_σ10, g25_σ10]); exact y196) q, hB⟩, g7_σ10, g9_σ10, g20_σ10, g25_σ10⟩)⟩
    · have h0q : ¬ (isPx tx n i ∨ tkK tx n i = 40) := fun q => q.elim px (fun q => hc5 (pK.2.1.trans q))
      refine ok_gI rfl ?_
      refine ok_if (fun hc12 => ?_) (fun hc12 => ?_)
      · have k44 : tkK tx n i = 2 := pK.2.1.symm.trans hc12
        refine ok_gC rfl ?_
        refine ok_zbT (Q := fun V σ => (TOK σ.1 ∧ (σ0.1 218 11).toInt ≤ (σ.1 218 11).toInt ∧ (σ.1 218 14 = 0 → ((σ0.1 218 11).toInt < (σ.1 218 11).toInt ∧ nOK tx n i (0 : Int32) (9 : Int32)) ∧ V.toInt = min 99999 (Nv tx n (tkF tx n i) 0 : Int) ∧ RX σ.1 tx n (tkE tx n i)) ∧ (¬ σ.1 218 14 = 0 → V = 0 ∧ ¬ nOK tx n i (0 : Int32) (9 : Int32))) ∧ (σ.1 218 7 = σ0.1 218 7 ∧ σ.1 218 9 = σ0.1 218 9 ∧ σ.1 218 20 = σ0.1 218 20 ∧ σ.1 218 22 = σ0.1 218 22 ∧ σ.1 218 23 = σ0.1 218 23 ∧ σ.1 218 24 = σ0.1 218 24 ∧ σ.1 218 25 = σ0.1 218 25)) hT (s_X12_number_r hN (hR.tr hT) (hK) (by rw [hT.2 224 (by decide)]; exact hY) (RX_i rfl rfl rfl rfl rfl ((hT.2 224 (by decide)).trans tE) nE pK) (hg)) (by decide) (fun v13 σ14 hOσ14 hT hqv13 => ?_)
        have hqv13 : (TOK σ14.1 ∧ (σ0.1 218 11).toInt ≤ (σ14.1 218 11).toInt ∧ (σ14.1 218 14 = 0 → ((σ0.1 218 11).toInt < (σ14.1 218 11).toInt ∧ nOK tx n i (0 : Int32) (9 : Int32)) ∧ v13.toInt = min 99999 (Nv tx n (tkF tx n i) 0 : Int) ∧ RX σ14.1 tx n (tkE tx n i)) ∧ (¬ σ14.1 218 14 = 0 → v13 = 0 ∧ ¬ nOK tx n i (0 : Int32) (9 : Int32))) ∧ (σ14.1 218 7 = σ0.1 218 7 ∧ σ14.1 218 9 = σ0.1 218 9 ∧ σ14.1 218 20 = σ0.1 218 20 ∧ σ14.1 218 22 = σ0.1 218 22 ∧ σ14.1 218 23 = σ0.1 218 23 ∧ σ14.1 218 24 = σ0.1 218 24 ∧ σ14.1 218 25 = σ0.1 218 25) := hqv13
        have hkv13 := hqv13
        have hqv13 := hqv13.1
        have r230_σ14 : σ14.1 230 = σ0.1 230 := hOσ14.2 230 (by decide)
        have hK : TOK σ14.1 := by first | exact hqv13.1 | exact hqv13.1.1 | exact TOK_p eσ14 (by decide) hK
        have hB : ZB σ14.1 := ZB.tr hOσ14 (by decide) hB
        have g7_σ14 : σ14.1 218 7 = (σ0.1 218 7) := hkv13.2.1
        have g9_σ14 : σ14.1 218 9 = (σ0.1 218 9) := hkv13.2.2.1
        have g20_σ14 : σ14.1 218 20 = (σ0.1 218 20) := hkv13.2.2.2.1
        have g22_σ14 : σ14.1 218 22 = (σ0.1 218 22) := hkv13.2.2.2.2.1
        have g23_σ14 : σ14.1 218 23 = (σ0.1 218 23) := hkv13.2.2.2.2.2.1
        have g24_σ14 : σ14.1 218 24 = (σ0.1 218 24) := hkv13.2.2.2.2.2.2.1
        have g25_σ14 : σ14.1 218 25 = (σ0.1 218 25) := hkv13.2.2.2.2.2.2.2
        have m51 := hqv13.2.1
        have u51 := hqv13.2.2.1
        have f51 := hqv13.2.2.2
        have b51 : 0 ≤ v13.toInt ∧ v13.toInt ≤ 9 := by by_cases h9 : σ14.1 218 14 = 0; have h8 := (u51 h9).1.2.2.2; have h7 := (u51 h9).2.1; simp only [Int32.reduceToInt] at h8; omega; rw [(f51 h9).1]; decide
        have q51 := p1024 (p := v13) rfl b51.1 (by omega)
        refine ok_gC rfl ?_
        refine ok_zbT (Q := fun V σ => (TOK σ.1 ∧ ZB σ.1 ∧ σ.1 218 23 = σ14.1 218 23 + 1) ∧ (σ.1 218 7 = σ14.1 218 7 ∧ σ.1 218 9 = σ14.1 218 9 ∧ σ.1 218 10 = σ14.1 218 10 ∧ σ.1 218 11 = σ14.1 218 11 ∧ σ.1 218 12 = σ14.1 218 12 ∧ σ.1 218 13 = σ14.1 218 13 ∧ σ.1 218 14 = σ14.1 218 14 ∧ σ.1 218 15 = σ14.1 218 15 ∧ σ.1 218 20 = σ14.1 218 20 ∧ σ.1 218 22 = σ14.1 218 22 ∧ σ.1 218 24 = σ14.1 218 24 ∧ σ.1 218 25 = σ14.1 218 25)) hT (s_X12_pushesEmpty hN (hR.tr hT) (hK) (by rw [hT.2 224 (by decide)]; exact hY) (hB) (by (try simp only [g7_σ14, g9_σ14, g20_σ14, g22_σ14, g23_σ14, g24_σ14, g25_σ14]); omega)) (by decide) (fun v15 σ16 hOσ16 hT hqv15 => ?_)
        have hqv15 : (TOK σ16.1 ∧ ZB σ16.1 ∧ σ16.1 218 23 = σ14.1 218 23 + 1) ∧ (σ16.1 218 7 = σ14.1 218 7 ∧ σ16.1 218 9 = σ14.1 218 9 ∧ σ16.1 218 10 = σ14.1 218 10 ∧ σ16.1 218 11 = σ14.1 218 11 ∧ σ16.1 218 12 = σ14.1 218 12 ∧ σ16.1 218 13 = σ14.1 218 13 ∧ σ16.1 218 14 = σ14.1 218 14 ∧ σ16.1 218 15 = σ14.1 218 15 ∧ σ16.1 218 20 = σ14.1 218 20 ∧ σ16.1 218 22 = σ14.1 218 22 ∧ σ16.1 218 24 = σ14.1 218 24 ∧ σ16.1 218 25 = σ14.1 218 25) := hqv15
        have hkv15 := hqv15
        have hqv15 := hqv15.1
        have r230_σ16 : σ16.1 230 = σ0.1 230 := (hOσ16.2 230 (by decide)).trans r230_σ14
        have hK : TOK σ16.1 := by first | exact hqv15.1 | exact hqv15.1.1 | exact TOK_p eσ16 (by decide) hK
        have hB : ZB σ16.1 := by first | exact hqv15.2.1 | exact hqv15.2.2.2.2.1 | exact ZB_s eσ16 hB
        try simp only [g7_σ14, g9_σ14, g20_σ14, g22_σ14, g23_σ14, g24_σ14, g25_σ14] at hqv15
        have g7_σ16 : σ16.1 218 7 = (σ0.1 218 7) := (hkv15.2.1).trans g7_σ14
        have g9_σ16 : σ16.1 218 9 = (σ0.1 218 9) := (hkv15.2.2.1).trans g9_σ14
        have g10_σ16 : σ16.1 218 10 = (σ14.1 218 10) := hkv15.2.2.2.1
        have g11_σ16 : σ16.1 218 11 = (σ14.1 218 11) := hkv15.2.2.2.2.1
        have g12_σ16 : σ16.1 218 12 = (σ14.1 218 12) := hkv15.2.2.2.2.2.1
        have g13_σ16 : σ16.1 218 13 = (σ14.1 218 13) := hkv15.2.2.2.2.2.2.1
        have g14_σ16 : σ16.1 218 14 = (σ14.1 218 14) := hkv15.2.2.2.2.2.2.2.1
        have g15_σ16 : σ16.1 218 15 = (σ14.1 218 15) := hkv15.2.2.2.2.2.2.2.2.1
        have g20_σ16 : σ16.1 218 20 = (σ0.1 218 20) := (hkv15.2.2.2.2.2.2.2.2.2.1).trans g20_σ14
        have g22_σ16 : σ16.1 218 22 = (σ0.1 218 22) := (hkv15.2.2.2.2.2.2.2.2.2.2.1).trans g22_σ14
        have g24_σ16 : σ16.1 218 24 = (σ0.1 218 24) := (hkv15.2.2.2.2.2.2.2.2.2.2.2.1).trans g24_σ14
        have g25_σ16 : σ16.1 218 25 = (σ0.1 218 25) := (hkv15.2.2.2.2.2.2.2.2.2.2.2.2).trans g25_σ14
        have g57 := hqv15.2.2
        have s57 : (σ16.1 218 23).toInt = ((b8 + 1 : Nat) : Int) := by rw [g57, ti_add]; simp only [Int32.reduceToInt]; omega
        have p57 : ((σ16.1 218 23) - 1).toInt = (b8 : Int) := by rw [ti_sub, s57]; simp only [Int32.reduceToInt]; omega
        have m57 := p1024 p57 (by omega) (by omega)
        refine ok_lp (fun t : Int32 × zS => Tr [218, 226, 227, 228, 229, 230] σ0 (t.2) ∧ (0 ≤ (t.1).toInt) ∧ (TOK (t.2).1) ∧ (ZB (t.2).1) ∧ ((t.2).1 218 7 = (σ0.1 218 7)) ∧ ((t.2).1 218 9 = (σ0.1 218 9)) ∧ ((t.2).1 218 10 = (σ14.1 218 10)) ∧ ((t.2).1 218 11 = (σ14.1 218 11)) ∧ ((t.2).1 218 12 = (σ14.1 218 12)) ∧ ((t.2).1 218 13 = (σ14.1 218 13)) ∧ ((t.2).1 218 14 = (σ14.1 218 14)) ∧ ((t.2).1 218 15 = (σ14.1 218 15)) ∧ ((t.2).1 218 20 = (σ0.1 218 20)) ∧ ((t.2).1 218 22 = (σ0.1 218 22)) ∧ ((t.2).1 218 23 = (σ16.1 218 23)) ∧ ((t.2).1 218 24 = (σ0.1 218 24)) ∧ ((t.2).1 218 25 = (σ0.1 218 25)) ∧ ((t.2).1 230 = σ0.1 230)) (fun t : Int32 × zS => (1024 - (t.1).toInt).toNat) (fun again17 t hI ih63_17 => ?_) N _ (show Tr [218, 226, 227, 228, 229, 230] σ0 σ16 ∧ (0 ≤ (0 : Int32).toInt) ∧ (TOK σ16.1) ∧ (ZB σ16.1) ∧ (σ16.1 218 7 = (σ0.1 218 7)) ∧ (σ16.1 218 9 = (σ0.1 218 9)) ∧ (σ16.1 218 10 = (σ14.1 218 10)) ∧ (σ16.1 218 11 = (σ14.1 218 11)) ∧ (σ16.1 218 12 = (σ14.1 218 12)) ∧ (σ16.1 218 13 = (σ14.1 218 13)) ∧ (σ16.1 218 14 = (σ14.1 218 14)) ∧ (σ16.1 218 15 = (σ14.1 218 15)) ∧ (σ16.1 218 20 = (σ0.1 218 20)) ∧ (σ16.1 218 22 = (σ0.1 218 22)) ∧ (σ16.1 218 23 = (σ16.1 218 23)) ∧ (σ16.1 218 24 = (σ0.1 218 24)) ∧ (σ16.1 218 25 = (σ0.1 218 25)) ∧ (σ16.1 230 = σ0.1 230) from ⟨hT, (by decide), hK, hB, g7_σ16, g9_σ16, g10_σ16, g11_σ16, g12_σ16, g13_σ16, g14_σ16, g15_σ16, g20_σ16, g22_σ16, rfl, g24_σ16, g25_σ16, r230_σ16⟩) (show (1024 - (0 : Int32).toInt).toNat < N from (by simp only [Int32.reduceToInt]; omega))
        obtain ⟨x5_17, σ17⟩ := t
        have hI : Tr [218, 226, 227, 228, 229, 230] σ0 σ17 ∧ (0 ≤ x5_17.toInt) ∧ (TOK σ17.1) ∧ (ZB σ17.1) ∧ (σ17.1 218 7 = (σ0.1 218 7)) ∧ (σ17.1 218 9 = (σ0.1 218 9)) ∧ (σ17.1 218 10 = (σ14.1 218 10)) ∧ (σ17.1 218 11 = (σ14.1 218 11)) ∧ (σ17.1 218 12 = (σ14.1 218 12)) ∧ (σ17.1 218 13 = (σ14.1 218 13)) ∧ (σ17.1 218 14 = (σ14.1 218 14)) ∧ (σ17.1 218 15 = (σ14.1 218 15)) ∧ (σ17.1 218 20 = (σ0.1 218 20)) ∧ (σ17.1 218 22 = (σ0.1 218 22)) ∧ (σ17.1 218 23 = (σ16.1 218 23)) ∧ (σ17.1 218 24 = (σ0.1 218 24)) ∧ (σ17.1 218 25 = (σ0.1 218 25)) ∧ (σ17.1 230 = σ0.1 230) := hI
        obtain ⟨hT, hI17, hK, hB, g7_σ17, g9_σ17, g10_σ17, g11_σ17, g12_σ17, g13_σ17, g14_σ17, g15_σ17, g20_σ17, g22_σ17, g23_σ17, g24_σ17, g25_σ17, r230_σ17⟩ := hI
        rw [F_X12_readsPart_63.eq_1]
        refine ok_if (fun hc18 => ?_) (fun hc18 => ?_)
        · rw [J_X12_readsPart_192.eq_1]
          refine ok_gC rfl ?_
          refine ok_zbX (Q := fun V => (V = 0 → ¬ σ17.1 218 14 = 0) ∧ (¬ V = 0 → σ17.1 218 14 = 0)) (x_X12_good) (fun v19 hqv19 => ?_)
          have hqv19 : (v19 = 0 → ¬ σ17.1 218 14 = 0) ∧ (¬ v19 = 0 → σ17.1 218 14 = 0) := hqv19
          try simp only [g7_σ17, g9_σ17, g10_σ17, g11_σ17, g12_σ17, g13_σ17, g14_σ17, g15_σ17, g20_σ17, g22_σ17, g23_σ17, g24_σ17, g25_σ17, hT.2 224 (by decide)] at hqv19
          refine ok_if (fun hc21 => ?_) (fun hc21 => ?_)
          · have qhc21 := hqv19.1 hc21
            have n196 := qhc21
            have st9 : stp tx n x1 (i, false, (lst (σ0.1 230) (σ0.1 218 22).toInt.toNat), (σ0.1 218 25).toInt.toNat) = none := by first | exact (stp_n h0q k44).trans (if_neg (f51 n196).2) | exact (stp_f h0q k122).trans (by rw [f127 n196]; rfl) | exact stp_z h0q m44 m122 i140.2 | exact absurd hg n196
            exact ok_rZ (Or.inr rfl) ⟨hT, (show (TOK σ17.1 ∧ ((σ0.1 218 11).toInt ≤ (σ17.1 218 11).toInt ∧ 0 ≤ (σ17.1 218 22).toInt ∧ (σ17.1 218 22).toInt ≤ 40) ∧ (σ17.1 218 14 = 0 → (σ0.1 218 11).toInt < (σ17.1 218 11).toInt ∧ ∃ c, stp tx n x1 (i, false, (lst (σ0.1 230) (σ0.1 218 22).toInt.toNat), (σ0.1 218 25).toInt.toNat) = some (some c) ∧ REL σ17.1 tx n c ∧ ((1 : Int32) = 0 ↔ c.2.1 = false)) ∧ (¬ σ17.1 218 14 = 0 → stp tx n x1 (i, false, (lst (σ0.1 230) (σ0.1 218 22).toInt.toNat), (σ0.1 218 25).toInt.toNat) = none) ∧ ZB σ17.1) ∧ (σ17.1 218 7 = σ0.1 218 7 ∧ σ17.1 218 9 = σ0.1 218 9 ∧ σ17.1 218 20 = σ0.1 218 20 ∧ σ17.1 218 25 = σ0.1 218 25) from ⟨by first | exact ⟨hK, ⟨m34.1, m34.2.1⟩, fun q => ⟨(m34.2.2.1 q).1.1, (tkE tx n i, false, decide (tkK tx n i = 40) :: (lst (σ0.1 230) (σ0.1 218 22).toInt.toNat), (σ0.1 218 25).toInt.toNat), (stp_o hpx).trans (if_neg (m34.2.2.1 q).2.1.1), ⟨⟨(m34.2.2.1 q).2.1.2, le1⟩, ⟨by first | exact ((m34.2.2.1 q).2.2.1.trans (by rw [k16]; rfl)).symm | exact ((m34.2.2.1 q).2.2.1.trans (by rw [k7, decide_eq_false (z50 w7.1)]; rfl)).symm, (m34.2.2.1 q).2.2.2⟩, by rw [g25_σ17], fun h => Bool.noConfusion (show false = true from h), fun _ => (m34.2.2.1 q).1.2⟩, ⟨fun _ => rfl, fun _ => rfl⟩⟩, fun q => (stp_o hpx).trans (if_pos (m34.2.2.2 q)), hB⟩ | exact absurd e7 n22 | exact absurd e22 n7 | exact absurd y196 n189 | exact ⟨hK, ⟨by (try simp only [g7_σ17, g9_σ17, g10_σ17, g11_σ17, g12_σ17, g13_σ17, g14_σ17, g15_σ17, g20_σ17, g22_σ17, g23_σ17, g24_σ17, g25_σ17]); omega, by (try simp only [g7_σ17, g9_σ17, g10_σ17, g11_σ17, g12_σ17, g13_σ17, g14_σ17, g15_σ17, g20_σ17, g22_σ17, g23_σ17, g24_σ17, g25_σ17]); omega⟩, fun q => absurd q (by (try simp only [g7_σ17, g9_σ17, g10_σ17, g11_σ17, g12_σ17, g13_σ17, g14_σ17, g15_σ17, g20_σ17, g22_σ17, g23_σ17, g24_σ17, g25_σ17]); exact n196), fun _ => st9, hB⟩ | exact ⟨hK, ⟨by (try simp only [g7_σ17, g9_σ17, g10_σ17, g11_σ17, g12_σ17, g13_σ17, g14_σ17, g15_σ17, g20_σ17, g22_σ17, g23_σ17, g24_σ17, g25_σ17]); omega, by omega⟩, fun _ => ⟨by (try simp only [g7_σ17, g9_σ17, g10_σ17, g11_σ17, g12_σ17, g13_σ17, g14_σ17, g15_σ17, g20_σ17, g22_σ17, g23_σ17, g24_σ17, g25_σ17]); exact ga9, _, st9, ⟨⟨RX_i g9_σ17 g10_σ17 g11_σ17 g12_σ17 g13_σ17 ((hT.2 224 (by decide)).trans tE) nE pK9, le9⟩, ⟨by rw [r230_σ17]; exact l201.2.symm, by rw [r230_σ17]; exact NP_le hNP l201.1⟩, by rw [g25_σ17], fun _ => ⟨h201, popP_i _⟩, fun h => Bool.noConfusion (show true = false from h)⟩, ⟨fun h => absurd h (by decide), fun h => Bool.noConfusion (show true = false from h)⟩⟩, fun q => absurd (by (try simp only [g7_σ17, g9_σ17, g10_σ17, g11_σ17, g12_σ17, g13_σ17, g14_σ17, g15_σ17, g20_σ17, g22_σ17, g23_σ17, g24_σ17, g25_σ17]); exact y196) q, hB⟩, g7_σ17, g9_σ17, g20_σ17, g25_σ17⟩)⟩
          · have qhc21 := hqv19.2 hc21
            have y196 := qhc21
            obtain ⟨P9, st9, pK9, ga9, le9⟩ : ∃ p, stp tx n x1 (i, false, (lst (σ0.1 230) (σ0.1 218 22).toInt.toNat), (σ0.1 218 25).toInt.toNat) = some (some (p, true, popP (lst (σ0.1 230) (σ0.1 218 22).toInt.toNat), (σ0.1 218 25).toInt.toNat)) ∧ TKV (σ14.1 218 11) (σ14.1 218 10) (σ14.1 218 12) (σ14.1 218 13) tx n p ∧ (σ0.1 218 11).toInt < (σ14.1 218 11).toInt ∧ p ≤ n := by first | exact ⟨_, (stp_n h0q k44).trans (if_pos (u51 y196).1.2), (u51 y196).2.2.2, (u51 y196).1.1, le1⟩ | (obtain ⟨j, fj, rj⟩ := (u127 y196).2; exact ⟨j, (stp_f h0q k122).trans (by rw [fj]; rfl), rj.2, (u127 y196).1, fam_le hi fj⟩) | exact ⟨_, stp_a h0q k137.1.1, k137.2.2, k137.1.2, le1⟩ | exact absurd y196 n189
            refine ok_gC rfl ?_
            refine ok_zbT (Q := fun V σ => (TOK σ.1 ∧ ZB σ.1 ∧ PIL σ.1 1 ∧ ((σ.1 218 22).toInt.toNat ≤ (σ17.1 218 22).toInt.toNat ∧ lst (σ17.1 230) (σ.1 218 22).toInt.toNat = popP (lst (σ17.1 230) (σ17.1 218 22).toInt.toNat)) ∧ ((σ.1 218 22).toInt ≤ 0 ∨ (rkI (σ17.1 230 ((σ.1 218 22) - 1).toNatClampNeg)).toInt < (3 : Int32).toInt)) ∧ (σ.1 218 7 = σ17.1 218 7 ∧ σ.1 218 9 = σ17.1 218 9 ∧ σ.1 218 10 = σ17.1 218 10 ∧ σ.1 218 11 = σ17.1 218 11 ∧ σ.1 218 12 = σ17.1 218 12 ∧ σ.1 218 13 = σ17.1 218 13 ∧ σ.1 218 14 = σ17.1 218 14 ∧ σ.1 218 15 = σ17.1 218 15 ∧ σ.1 218 20 = σ17.1 218 20 ∧ σ.1 218 25 = σ17.1 218 25)) hT (s_X12_settlesTo_r hN (hR.tr hT) (hK) (by rw [hT.2 224 (by decide)]; exact hY) (hB) (by (try simp only [g7_σ17, g9_σ17, g10_σ17, g11_σ17, g12_σ17, g13_σ17, g14_σ17, g15_σ17, g20_σ17, g22_σ17, g23_σ17, g24_σ17, g25_σ17]); exact ha) (by first | exact PIL_i g22_σ17 g23_σ17 g24_σ17 r230_σ17 hS h22 hd hd6 s57 | exact absurd y196 n189) (by decide) (by (try simp only [g7_σ17, g9_σ17, g10_σ17, g11_σ17, g12_σ17, g13_σ17, g14_σ17, g15_σ17, g20_σ17, g22_σ17, g23_σ17, g24_σ17, g25_σ17]); rw [r230_σ17]; exact hNP) (Or.inl (by decide))) (by decide) (fun v22 σ23 hOσ23 hT hqv22 => ?_)
            have hqv22 : (TOK σ23.1 ∧ ZB σ23.1 ∧ PIL σ23.1 1 ∧ ((σ23.1 218 22).toInt.toNat ≤ (σ17.1 218 22).toInt.toNat ∧ lst (σ17.1 230) (σ23.1 218 22).toInt.toNat = popP (lst (σ17.1 230) (σ17.1 218 22).toInt.toNat)) ∧ ((σ23.1 218 22).toInt ≤ 0 ∨ (rkI (σ17.1 230 ((σ23.1 218 22) - 1).toNatClampNeg)).toInt < (3 : Int32).toInt)) ∧ (σ23.1 218 7 = σ17.1 218 7 ∧ σ23.1 218 9 = σ17.1 218 9 ∧ σ23.1 218 10 = σ17.1 218 10 ∧ σ23.1 218 11 = σ17.1 218 11 ∧ σ23.1 218 12 = σ17.1 218 12 ∧ σ23.1 218 13 = σ17.1 218 13 ∧ σ23.1 218 14 = σ17.1 218 14 ∧ σ23.1 218 15 = σ17.1 218 15 ∧ σ23.1 218 20 = σ17.1 218 20 ∧ σ23.1 218 25 = σ17.1 218 25) := hqv22
            have hkv22 := hqv22
            have hqv22 := hqv22.1
            have r230_σ23 : σ23.1 230 = σ0.1 230 := (hOσ23.2 230 (by decide)).trans r230_σ17
            have hK : TOK σ23.1 := by first | exact hqv22.1 | exact hqv22.1.1 | exact TOK_p eσ23 (by decide) hK
            have hB : ZB σ23.1 := by first | exact hqv22.2.1 | exact hqv22.2.2.2.2.1 | exact ZB_s eσ23 hB
            try simp only [g7_σ17, g9_σ17, g10_σ17, g11_σ17, g12_σ17, g13_σ17, g14_σ17, g15_σ17, g20_σ17, g22_σ17, g23_σ17, g24_σ17, g25_σ17] at hqv22
            have g7_σ23 : σ23.1 218 7 = (σ0.1 218 7) := (hkv22.2.1).trans g7_σ17
            have g9_σ23 : σ23.1 218 9 = (σ0.1 218 9) := (hkv22.2.2.1).trans g9_σ17
            have g10_σ23 : σ23.1 218 10 = (σ14.1 218 10) := (hkv22.2.2.2.1).trans g10_σ17
            have g11_σ23 : σ23.1 218 11 = (σ14.1 218 11) := (hkv22.2.2.2.2.1).trans g11_σ17
            have g12_σ23 : σ23.1 218 12 = (σ14.1 218 12) := (hkv22.2.2.2.2.2.1).trans g12_σ17
            have g13_σ23 : σ23.1 218 13 = (σ14.1 218 13) := (hkv22.2.2.2.2.2.2.1).trans g13_σ17
            have g14_σ23 : σ23.1 218 14 = (σ14.1 218 14) := (hkv22.2.2.2.2.2.2.2.1).trans g14_σ17
            have g15_σ23 : σ23.1 218 15 = (σ14.1 218 15) := (hkv22.2.2.2.2.2.2.2.2.1).trans g15_σ17
            have g20_σ23 : σ23.1 218 20 = (σ0.1 218 20) := (hkv22.2.2.2.2.2.2.2.2.2.1).trans g20_σ17
            have g25_σ23 : σ23.1 218 25 = (σ0.1 218 25) := (hkv22.2.2.2.2.2.2.2.2.2.2).trans g25_σ17
            have h201 := hqv22.2.2.1
            have b201 := PIL_b hqv22.2.2.1 (by decide)
            have l201 := hqv22.2.2.2.1
            have o201 : σ17.1 230 = σ0.1 230 := (hOσ23.2 230 (by decide)).symm.trans r230_σ23
            rw [o201] at l201
            exact ok_rZ (Or.inr rfl) ⟨hT, (show (TOK σ23.1 ∧ ((σ0.1 218 11).toInt ≤ (σ23.1 218 11).toInt ∧ 0 ≤ (σ23.1 218 22).toInt ∧ (σ23.1 218 22).toInt ≤ 40) ∧ (σ23.1 218 14 = 0 → (σ0.1 218 11).toInt < (σ23.1 218 11).toInt ∧ ∃ c, stp tx n x1 (i, false, (lst (σ0.1 230) (σ0.1 218 22).toInt.toNat), (σ0.1 218 25).toInt.toNat) = some (some c) ∧ REL σ23.1 tx n c ∧ ((1 : Int32) = 0 ↔ c.2.1 = false)) ∧ (¬ σ23.1 218 14 = 0 → stp tx n x1 (i, false, (lst (σ0.1 230) (σ0.1 218 22).toInt.toNat), (σ0.1 218 25).toInt.toNat) = none) ∧ ZB σ23.1) ∧ (σ23.1 218 7 = σ0.1 218 7 ∧ σ23.1 218 9 = σ0.1 218 9 ∧ σ23.1 218 20 = σ0.1 218 20 ∧ σ23.1 218 25 = σ0.1 218 25) from ⟨by first | exact ⟨hK, ⟨m34.1, m34.2.1⟩, fun q => ⟨(m34.2.2.1 q).1.1, (tkE tx n i, false, decide (tkK tx n i = 40) :: (lst (σ0.1 230) (σ0.1 218 22).toInt.toNat), (σ0.1 218 25).toInt.toNat), (stp_o hpx).trans (if_neg (m34.2.2.1 q).2.1.1), ⟨⟨(m34.2.2.1 q).2.1.2, le1⟩, ⟨by first | exact ((m34.2.2.1 q).2.2.1.trans (by rw [k16]; rfl)).symm | exact ((m34.2.2.1 q).2.2.1.trans (by rw [k7, decide_eq_false (z50 w7.1)]; rfl)).symm, (m34.2.2.1 q).2.2.2⟩, by rw [g25_σ23], fun h => Bool.noConfusion (show false = true from h), fun _ => (m34.2.2.1 q).1.2⟩, ⟨fun _ => rfl, fun _ => rfl⟩⟩, fun q => (stp_o hpx).trans (if_pos (m34.2.2.2 q)), hB⟩ | exact absurd e7 n22 | exact absurd e22 n7 | exact absurd y196 n189 | exact ⟨hK, ⟨by (try simp only [g7_σ23, g9_σ23, g10_σ23, g11_σ23, g12_σ23, g13_σ23, g14_σ23, g15_σ23, g20_σ23, g25_σ23]); omega, by (try simp only [g7_σ23, g9_σ23, g10_σ23, g11_σ23, g12_σ23, g13_σ23, g14_σ23, g15_σ23, g20_σ23, g25_σ23]); omega⟩, fun q => absurd q (by (try simp only [g7_σ23, g9_σ23, g10_σ23, g11_σ23, g12_σ23, g13_σ23, g14_σ23, g15_σ23, g20_σ23, g25_σ23]); exact n196), fun _ => st9, hB⟩ | exact ⟨hK, ⟨by (try simp only [g7_σ23, g9_σ23, g10_σ23, g11_σ23, g12_σ23, g13_σ23, g14_σ23, g15_σ23, g20_σ23, g25_σ23]); omega, by omega⟩, fun _ => ⟨by (try simp only [g7_σ23, g9_σ23, g10_σ23, g11_σ23, g12_σ23, g13_σ23, g14_σ23, g15_σ23, g20_σ23, g25_σ23]); exact ga9, _, st9, ⟨⟨RX_i g9_σ23 g10_σ23 g11_σ23 g12_σ23 g13_σ23 ((hT.2 224 (by decide)).trans tE) nE pK9, le9⟩, ⟨by rw [r230_σ23]; exact l201.2.symm, by rw [r230_σ23]; exact NP_le hNP l201.1⟩, by rw [g25_σ23], fun _ => ⟨h201, popP_i _⟩, fun h => Bool.noConfusion (show true = false from h)⟩, ⟨fun h => absurd h (by decide), fun h => Bool.noConfusion (show true = false from h)⟩⟩, fun q => absurd (by (try simp only [g7_σ23, g9_σ23, g10_σ23, g11_σ23, g12_σ23, g13_σ23, g14_σ23, g15_σ23, g20_σ23, g25_σ23]); exact y196) q, hB⟩, g7_σ23, g9_σ23, g20_σ23, g25_σ23⟩)⟩
        · have l68 := hc18
          rw [Int32.le_iff_toInt_le] at l68
          try simp only [Int32.reduceToInt] at l68
          have s68 : (x5_17 + 1).toInt = x5_17.toInt + 1 := by rw [ti_add]; simp only [Int32.reduceToInt]; omega
          refine ok_gC rfl ?_
          refine ok_zbX (Q := fun V => (V = 0 → ¬ σ17.1 218 14 = 0) ∧ (¬ V = 0 → σ17.1 218 14 = 0)) (x_X12_good) (fun v24 hqv24 => ?_)
          have hqv24 : (v24 = 0 → ¬ σ17.1 218 14 = 0) ∧ (¬ v24 = 0 → σ17.1 218 14 = 0) := hqv24
          try simp only [g7_σ17, g9_σ17, g10_σ17, g11_σ17, g12_σ17, g13_σ17, g14_σ17, g15_σ17, g20_σ17, g22_σ17, g23_σ17, g24_σ17, g25_σ17, hT.2 224 (by decide)] at hqv24
          refine ok_if (fun hc26 => ?_) (fun hc26 => ?_)
          · have qhc26 := hqv24.1 hc26
            rw [J_X12_readsPart_192.eq_1]
            refine ok_gC rfl ?_
            refine ok_zbX (Q := fun V => (V = 0 → ¬ σ17.1 218 14 = 0) ∧ (¬ V = 0 → σ17.1 218 14 = 0)) (x_X12_good) (fun v27 hqv27 => ?_)
            have hqv27 : (v27 = 0 → ¬ σ17.1 218 14 = 0) ∧ (¬ v27 = 0 → σ17.1 218 14 = 0) := hqv27
            try simp only [g7_σ17, g9_σ17, g10_σ17, g11_σ17, g12_σ17, g13_σ17, g14_σ17, g15_σ17, g20_σ17, g22_σ17, g23_σ17, g24_σ17, g25_σ17, hT.2 224 (by decide)] at hqv27
            refine ok_if (fun hc29 => ?_) (fun hc29 => ?_)
            · have qhc29 := hqv27.1 hc29
              have n196 := qhc29
              have st9 : stp tx n x1 (i, false, (lst (σ0.1 230) (σ0.1 218 22).toInt.toNat), (σ0.1 218 25).toInt.toNat) = none := by first | exact (stp_n h0q k44).trans (if_neg (f51 n196).2) | exact (stp_f h0q k122).trans (by rw [f127 n196]; rfl) | exact stp_z h0q m44 m122 i140.2 | exact absurd hg n196
              exact ok_rZ (Or.inr rfl) ⟨hT, (show (TOK σ17.1 ∧ ((σ0.1 218 11).toInt ≤ (σ17.1 218 11).toInt ∧ 0 ≤ (σ17.1 218 22).toInt ∧ (σ17.1 218 22).toInt ≤ 40) ∧ (σ17.1 218 14 = 0 → (σ0.1 218 11).toInt < (σ17.1 218 11).toInt ∧ ∃ c, stp tx n x1 (i, false, (lst (σ0.1 230) (σ0.1 218 22).toInt.toNat), (σ0.1 218 25).toInt.toNat) = some (some c) ∧ REL σ17.1 tx n c ∧ ((1 : Int32) = 0 ↔ c.2.1 = false)) ∧ (¬ σ17.1 218 14 = 0 → stp tx n x1 (i, false, (lst (σ0.1 230) (σ0.1 218 22).toInt.toNat), (σ0.1 218 25).toInt.toNat) = none) ∧ ZB σ17.1) ∧ (σ17.1 218 7 = σ0.1 218 7 ∧ σ17.1 218 9 = σ0.1 218 9 ∧ σ17.1 218 20 = σ0.1 218 20 ∧ σ17.1 218 25 = σ0.1 218 25) from ⟨by first | exact ⟨hK, ⟨m34.1, m34.2.1⟩, fun q => ⟨(m34.2.2.1 q).1.1, (tkE tx n i, false, decide (tkK tx n i = 40) :: (lst (σ0.1 230) (σ0.1 218 22).toInt.toNat), (σ0.1 218 25).toInt.toNat), (stp_o hpx).trans (if_neg (m34.2.2.1 q).2.1.1), ⟨⟨(m34.2.2.1 q).2.1.2, le1⟩, ⟨by first | exact ((m34.2.2.1 q).2.2.1.trans (by rw [k16]; rfl)).symm | exact ((m34.2.2.1 q).2.2.1.trans (by rw [k7, decide_eq_false (z50 w7.1)]; rfl)).symm, (m34.2.2.1 q).2.2.2⟩, by rw [g25_σ17], fun h => Bool.noConfusion (show false = true from h), fun _ => (m34.2.2.1 q).1.2⟩, ⟨fun _ => rfl, fun _ => rfl⟩⟩, fun q => (stp_o hpx).trans (if_pos (m34.2.2.2 q)), hB⟩ | exact absurd e7 n22 | exact absurd e22 n7 | exact absurd y196 n189 | exact ⟨hK, ⟨by (try simp only [g7_σ17, g9_σ17, g10_σ17, g11_σ17, g12_σ17, g13_σ17, g14_σ17, g15_σ17, g20_σ17, g22_σ17, g23_σ17, g24_σ17, g25_σ17]); omega, by (try simp only [g7_σ17, g9_σ17, g10_σ17, g11_σ17, g12_σ17, g13_σ17, g14_σ17, g15_σ17, g20_σ17, g22_σ17, g23_σ17, g24_σ17, g25_σ17]); omega⟩, fun q => absurd q (by (try simp only [g7_σ17, g9_σ17, g10_σ17, g11_σ17, g12_σ17, g13_σ17, g14_σ17, g15_σ17, g20_σ17, g22_σ17, g23_σ17, g24_σ17, g25_σ17]); exact n196), fun _ => st9, hB⟩ | exact ⟨hK, ⟨by (try simp only [g7_σ17, g9_σ17, g10_σ17, g11_σ17, g12_σ17, g13_σ17, g14_σ17, g15_σ17, g20_σ17, g22_σ17, g23_σ17, g24_σ17, g25_σ17]); omega, by omega⟩, fun _ => ⟨by (try simp only [g7_σ17, g9_σ17, g10_σ17, g11_σ17, g12_σ17, g13_σ17, g14_σ17, g15_σ17, g20_σ17, g22_σ17, g23_σ17, g24_σ17, g25_σ17]); exact ga9, _, st9, ⟨⟨RX_i g9_σ17 g10_σ17 g11_σ17 g12_σ17 g13_σ17 ((hT.2 224 (by decide)).trans tE) nE pK9, le9⟩, ⟨by rw [r230_σ17]; exact l201.2.symm, by rw [r230_σ17]; exact NP_le hNP l201.1⟩, by rw [g25_σ17], fun _ => ⟨h201, popP_i _⟩, fun h => Bool.noConfusion (show true = false from h)⟩, ⟨fun h => absurd h (by decide), fun h => Bool.noConfusion (show true = false from h)⟩⟩, fun q => absurd (by (try simp only [g7_σ17, g9_σ17, g10_σ17, g11_σ17, g12_σ17, g13_σ17, g14_σ17, g15_σ17, g20_σ17, g22_σ17, g23_σ17, g24_σ17, g25_σ17]); exact y196) q, hB⟩, g7_σ17, g9_σ17, g20_σ17, g25_σ17⟩)⟩
            · have qhc29 := hqv27.2 hc29
              have y196 := qhc29
              obtain ⟨P9, st9, pK9, ga9, le9⟩ : ∃ p, stp tx n x1 (i, false, (lst (σ0.1 230) (σ0.1 218 22).toInt.toNat), (σ0.1 218 25).toInt.toNat) = some (some (p, true, popP (lst (σ0.1 230) (σ0.1 218 22).toInt.toNat), (σ0.1 218 25).toInt.toNat)) ∧ TKV (σ14.1 218 11) (σ14.1 218 10) (σ14.1 218 12) (σ14.1 218 13) tx n p ∧ (σ0.1 218 11).toInt < (σ14.1 218 11).toInt ∧ p ≤ n := by first | exact ⟨_, (stp_n h0q k44).trans (if_pos (u51 y196).1.2), (u51 y196).2.2.2, (u51 y196).1.1, le1⟩ | (obtain ⟨j, fj, rj⟩ := (u127 y196).2; exact ⟨j, (stp_f h0q k122).trans (by rw [fj]; rfl), rj.2, (u127 y196).1, fam_le hi fj⟩) | exact ⟨_, stp_a h0q k137.1.1, k137.2.2, k137.1.2, le1⟩ | exact absurd y196 n189
              refine ok_gC rfl ?_
              refine ok_zbT (Q := fun V σ => (TOK σ.1 ∧ ZB σ.1 ∧ PIL σ.1 1 ∧ ((σ.1 218 22).toInt.toNat ≤ (σ17.1 218 22).toInt.toNat ∧ lst (σ17.1 230) (σ.1 218 22).toInt.toNat = popP (lst (σ17.1 230) (σ17.1 218 22).toInt.toNat)) ∧ ((σ.1 218 22).toInt ≤ 0 ∨ (rkI (σ17.1 230 ((σ.1 218 22) - 1).toNatClampNeg)).toInt < (3 : Int32).toInt)) ∧ (σ.1 218 7 = σ17.1 218 7 ∧ σ.1 218 9 = σ17.1 218 9 ∧ σ.1 218 10 = σ17.1 218 10 ∧ σ.1 218 11 = σ17.1 218 11 ∧ σ.1 218 12 = σ17.1 218 12 ∧ σ.1 218 13 = σ17.1 218 13 ∧ σ.1 218 14 = σ17.1 218 14 ∧ σ.1 218 15 = σ17.1 218 15 ∧ σ.1 218 20 = σ17.1 218 20 ∧ σ.1 218 25 = σ17.1 218 25)) hT (s_X12_settlesTo_r hN (hR.tr hT) (hK) (by rw [hT.2 224 (by decide)]; exact hY) (hB) (by (try simp only [g7_σ17, g9_σ17, g10_σ17, g11_σ17, g12_σ17, g13_σ17, g14_σ17, g15_σ17, g20_σ17, g22_σ17, g23_σ17, g24_σ17, g25_σ17]); exact ha) (by first | exact PIL_i g22_σ17 g23_σ17 g24_σ17 r230_σ17 hS h22 hd hd6 s57 | exact absurd y196 n189) (by decide) (by (try simp only [g7_σ17, g9_σ17, g10_σ17, g11_σ17, g12_σ17, g13_σ17, g14_σ17, g15_σ17, g20_σ17, g22_σ17, g23_σ17, g24_σ17, g25_σ17]); rw [r230_σ17]; exact hNP) (Or.inl (by decide))) (by decide) (fun v30 σ31 hOσ31 hT hqv30 => ?_)
              have hqv30 : (TOK σ31.1 ∧ ZB σ31.1 ∧ PIL σ31.1 1 ∧ ((σ31.1 218 22).toInt.toNat ≤ (σ17.1 218 22).toInt.toNat ∧ lst (σ17.1 230) (σ31.1 218 22).toInt.toNat = popP (lst (σ17.1 230) (σ17.1 218 22).toInt.toNat)) ∧ ((σ31.1 218 22).toInt ≤ 0 ∨ (rkI (σ17.1 230 ((σ31.1 218 22) - 1).toNatClampNeg)).toInt < (3 : Int32).toInt)) ∧ (σ31.1 218 7 = σ17.1 218 7 ∧ σ31.1 218 9 = σ17.1 218 9 ∧ σ31.1 218 10 = σ17.1 218 10 ∧ σ31.1 218 11 = σ17.1 218 11 ∧ σ31.1 218 12 = σ17.1 218 12 ∧ σ31.1 218 13 = σ17.1 218 13 ∧ σ31.1 218 14 = σ17.1 218 14 ∧ σ31.1 218 15 = σ17.1 218 15 ∧ σ31.1 218 20 = σ17.1 218 20 ∧ σ31.1 218 25 = σ17.1 218 25) := hqv30
              have hkv30 := hqv30
              have hqv30 := hqv30.1
              have r230_σ31 : σ31.1 230 = σ0.1 230 := (hOσ31.2 230 (by decide)).trans r230_σ17
              have hK : TOK σ31.1 := by first | exact hqv30.1 | exact hqv30.1.1 | exact TOK_p eσ31 (by decide) hK
              have hB : ZB σ31.1 := by first | exact hqv30.2.1 | exact hqv30.2.2.2.2.1 | exact ZB_s eσ31 hB
              try simp only [g7_σ17, g9_σ17, g10_σ17, g11_σ17, g12_σ17, g13_σ17, g14_σ17, g15_σ17, g20_σ17, g22_σ17, g23_σ17, g24_σ17, g25_σ17] at hqv30
              have g7_σ31 : σ31.1 218 7 = (σ0.1 218 7) := (hkv30.2.1).trans g7_σ17
              have g9_σ31 : σ31.1 218 9 = (σ0.1 218 9) := (hkv30.2.2.1).trans g9_σ17
              have g10_σ31 : σ31.1 218 10 = (σ14.1 218 10) := (hkv30.2.2.2.1).trans g10_σ17
              have g11_σ31 : σ31.1 218 11 = (σ14.1 218 11) := (hkv30.2.2.2.2.1).trans g11_σ17
              have g12_σ31 : σ31.1 218 12 = (σ14.1 218 12) := (hkv30.2.2.2.2.2.1).trans g12_σ17
              have g13_σ31 : σ31.1 218 13 = (σ14.1 218 13) := (hkv30.2.2.2.2.2.2.1).trans g13_σ17
              have g14_σ31 : σ31.1 218 14 = (σ14.1 218 14) := (hkv30.2.2.2.2.2.2.2.1).trans g14_σ17
              have g15_σ31 : σ31.1 218 15 = (σ14.1 218 15) := (hkv30.2.2.2.2.2.2.2.2.1).trans g15_σ17
              have g20_σ31 : σ31.1 218 20 = (σ0.1 218 20) := (hkv30.2.2.2.2.2.2.2.2.2.1).trans g20_σ17
              have g25_σ31 : σ31.1 218 25 = (σ0.1 218 25) := (hkv30.2.2.2.2.2.2.2.2.2.2).trans g25_σ17
              have h201 := hqv30.2.2.1
              have b201 := PIL_b hqv30.2.2.1 (by decide)
              have l201 := hqv30.2.2.2.1
              have o201 : σ17.1 230 = σ0.1 230 := (hOσ31.2 230 (by decide)).symm.trans r230_σ31
              rw [o201] at l201
              exact ok_rZ (Or.inr rfl) ⟨hT, (show (TOK σ31.1 ∧ ((σ0.1 218 11).toInt ≤ (σ31.1 218 11).toInt ∧ 0 ≤ (σ31.1 218 22).toInt ∧ (σ31.1 218 22).toInt ≤ 40) ∧ (σ31.1 218 14 = 0 → (σ0.1 218 11).toInt < (σ31.1 218 11).toInt ∧ ∃ c, stp tx n x1 (i, false, (lst (σ0.1 230) (σ0.1 218 22).toInt.toNat), (σ0.1 218 25).toInt.toNat) = some (some c) ∧ REL σ31.1 tx n c ∧ ((1 : Int32) = 0 ↔ c.2.1 = false)) ∧ (¬ σ31.1 218 14 = 0 → stp tx n x1 (i, false, (lst (σ0.1 230) (σ0.1 218 22).toInt.toNat), (σ0.1 218 25).toInt.toNat) = none) ∧ ZB σ31.1) ∧ (σ31.1 218 7 = σ0.1 218 7 ∧ σ31.1 218 9 = σ0.1 218 9 ∧ σ31.1 218 20 = σ0.1 218 20 ∧ σ31.1 218 25 = σ0.1 218 25) from ⟨by first | exact ⟨hK, ⟨m34.1, m34.2.1⟩, fun q => ⟨(m34.2.2.1 q).1.1, (tkE tx n i, false, decide (tkK tx n i = 40) :: (lst (σ0.1 230) (σ0.1 218 22).toInt.toNat), (σ0.1 218 25).toInt.toNat), (stp_o hpx).trans (if_neg (m34.2.2.1 q).2.1.1), ⟨⟨(m34.2.2.1 q).2.1.2, le1⟩, ⟨by first | exact ((m34.2.2.1 q).2.2.1.trans (by rw [k16]; rfl)).symm | exact ((m34.2.2.1 q).2.2.1.trans (by rw [k7, decide_eq_false (z50 w7.1)]; rfl)).symm, (m34.2.2.1 q).2.2.2⟩, by rw [g25_σ31], fun h => Bool.noConfusion (show false = true from h), fun _ => (m34.2.2.1 q).1.2⟩, ⟨fun _ => rfl, fun _ => rfl⟩⟩, fun q => (stp_o hpx).trans (if_pos (m34.2.2.2 q)), hB⟩ | exact absurd e7 n22 | exact absurd e22 n7 | exact absurd y196 n189 | exact ⟨hK, ⟨by (try simp only [g7_σ31, g9_σ31, g10_σ31, g11_σ31, g12_σ31, g13_σ31, g14_σ31, g15_σ31, g20_σ31, g25_σ31]); omega, by (try simp only [g7_σ31, g9_σ31, g10_σ31, g11_σ31, g12_σ31, g13_σ31, g14_σ31, g15_σ31, g20_σ31, g25_σ31]); omega⟩, fun q => absurd q (by (try simp only [g7_σ31, g9_σ31, g10_σ31, g11_σ31, g12_σ31, g13_σ31, g14_σ31, g15_σ31, g20_σ31, g25_σ31]); exact n196), fun _ => st9, hB⟩ | exact ⟨hK, ⟨by (try simp only [g7_σ31, g9_σ31, g10_σ31, g11_σ31, g12_σ31, g13_σ31, g14_σ31, g15_σ31, g20_σ31, g25_σ31]); omega, by omega⟩, fun _ => ⟨by (try simp only [g7_σ31, g9_σ31, g10_σ31, g11_σ31, g12_σ31, g13_σ31, g14_σ31, g15_σ31, g20_σ31, g25_σ31]); exact ga9, _, st9, ⟨⟨RX_i g9_σ31 g10_σ31 g11_σ31 g12_σ31 g13_σ31 ((hT.2 224 (by decide)).trans tE) nE pK9, le9⟩, ⟨by rw [r230_σ31]; exact l201.2.symm, by rw [r230_σ31]; exact NP_le hNP l201.1⟩, by rw [g25_σ31], fun _ => ⟨h201, popP_i _⟩, fun h => Bool.noConfusion (show true = false from h)⟩, ⟨fun h => absurd h (by decide), fun h => Bool.noConfusion (show true = false from h)⟩⟩, fun q => absurd (by (try simp only [g7_σ31, g9_σ31, g10_σ31, g11_σ31, g12_σ31, g13_σ31, g14_σ31, g15_σ31, g20_σ31, g25_σ31]); exact y196) q, hB⟩, g7_σ31, g9_σ31, g20_σ31, g25_σ31⟩)⟩
          · have qhc26 := hqv24.2 hc26
            refine ok_gR (v := 226) hT rfl (hR 218 16 rfl) ?_
            refine ok_gIv rfl g23_σ17 ?_
            refine ok_aIn rfl (by rw [ti_add, q51]; omega) (by rw [ti_add, q51]; omega) (fun v34 ev34 => ?_)
            have zv34 : v34 = 0 ∨ v34 = 1 := by rw [ev34]; exact hB 232 rfl _
            refine ok_s16 hT rfl (by decide) (by rw [ti_add, m57]; omega) (by rw [ti_add, m57]; omega) (fun σ35 eσ35 hOσ35 hT => ?_)
            have r230_σ35 : σ35.1 230 = σ0.1 230 := (hOσ35.2 230 (by decide)).trans r230_σ17
            have hK : TOK σ35.1 := TOK_tr hOσ35 (by decide) (by decide) hK
            have hB : ZB σ35.1 := by first | exact HQ.2.1 | exact HQ.2.2.2.2.1 | exact ZB_s eσ35 hB
            have g7_σ35 : σ35.1 218 7 = (σ0.1 218 7) := (congrFun (hOσ35.2 218 (by decide)) 7).trans g7_σ17
            have g9_σ35 : σ35.1 218 9 = (σ0.1 218 9) := (congrFun (hOσ35.2 218 (by decide)) 9).trans g9_σ17
            have g10_σ35 : σ35.1 218 10 = (σ14.1 218 10) := (congrFun (hOσ35.2 218 (by decide)) 10).trans g10_σ17
            have g11_σ35 : σ35.1 218 11 = (σ14.1 218 11) := (congrFun (hOσ35.2 218 (by decide)) 11).trans g11_σ17
            have g12_σ35 : σ35.1 218 12 = (σ14.1 218 12) := (congrFun (hOσ35.2 218 (by decide)) 12).trans g12_σ17
            have g13_σ35 : σ35.1 218 13 = (σ14.1 218 13) := (congrFun (hOσ35.2 218 (by decide)) 13).trans g13_σ17
            have g14_σ35 : σ35.1 218 14 = (σ14.1 218 14) := (congrFun (hOσ35.2 218 (by decide)) 14).trans g14_σ17
            have g15_σ35 : σ35.1 218 15 = (σ14.1 218 15) := (congrFun (hOσ35.2 218 (by decide)) 15).trans g15_σ17
            have g20_σ35 : σ35.1 218 20 = (σ0.1 218 20) := (congrFun (hOσ35.2 218 (by decide)) 20).trans g20_σ17
            have g22_σ35 : σ35.1 218 22 = (σ0.1 218 22) := (congrFun (hOσ35.2 218 (by decide)) 22).trans g22_σ17
            have g23_σ35 : σ35.1 218 23 = (σ16.1 218 23) := (congrFun (hOσ35.2 218 (by decide)) 23).trans g23_σ17
            have g24_σ35 : σ35.1 218 24 = (σ0.1 218 24) := (congrFun (hOσ35.2 218 (by decide)) 24).trans g24_σ17
            have g25_σ35 : σ35.1 218 25 = (σ0.1 218 25) := (congrFun (hOσ35.2 218 (by decide)) 25).trans g25_σ17
            exact ih63_17 (x5_17 + 1, σ35) (show Tr [218, 226, 227, 228, 229, 230] σ0 σ35 ∧ (0 ≤ (x5_17 + 1).toInt) ∧ (TOK σ35.1) ∧ (ZB σ35.1) ∧ (σ35.1 218 7 = (σ0.1 218 7)) ∧ (σ35.1 218 9 = (σ0.1 218 9)) ∧ (σ35.1 218 10 = (σ14.1 218 10)) ∧ (σ35.1 218 11 = (σ14.1 218 11)) ∧ (σ35.1 218 12 = (σ14.1 218 12)) ∧ (σ35.1 218 13 = (σ14.1 218 13)) ∧ (σ35.1 218 14 = (σ14.1 218 14)) ∧ (σ35.1 218 15 = (σ14.1 218 15)) ∧ (σ35.1 218 20 = (σ0.1 218 20)) ∧ (σ35.1 218 22 = (σ0.1 218 22)) ∧ (σ35.1 218 23 = (σ16.1 218 23)) ∧ (σ35.1 218 24 = (σ0.1 218 24)) ∧ (σ35.1 218 25 = (σ0.1 218 25)) ∧ (σ35.1 230 = σ0.1 230) from ⟨hT, (by rw [s68]; omega), hK, hB, g7_σ35, g9_σ35, g10_σ35, g11_σ35, g12_σ35, g13_σ35, g14_σ35, g15_σ35, g20_σ35, g22_σ35, g23_σ35, g24_σ35, g25_σ35, r230_σ35⟩) (show (1024 - (x5_17 + 1).toInt).toNat < (1024 - x5_17.toInt).toNat from (by rw [s68]; omega))
      · have m44 : ¬ tkK tx n i = 2 := fun q => hc12 (pK.2.1.trans q)
        refine ok_gI rfl ?_
        refine ok_if (fun hc37 => ?_) (fun hc37 => ?_)
        · have e122 := hc37
          have k122 : tkK tx n i = 123 := pK.2.1.symm.trans hc37
          refine ok_gC rfl ?_
          refine ok_zbT (Q := fun V σ => (TOK σ.1 ∧ (σ0.1 218 11).toInt ≤ (σ.1 218 11).toInt ∧ (σ.1 218 14 = 0 → (σ0.1 218 11).toInt < (σ.1 218 11).toInt ∧ ∃ j, fam tx n x1 i = some j ∧ RX σ.1 tx n j) ∧ (¬ σ.1 218 14 = 0 → fam tx n x1 i = none) ∧ ZB σ.1 ∧ σ.1 218 23 = σ0.1 218 23 + 1) ∧ (σ.1 218 7 = σ0.1 218 7 ∧ σ.1 218 9 = σ0.1 218 9 ∧ σ.1 218 20 = σ0.1 218 20 ∧ σ.1 218 22 = σ0.1 218 22 ∧ σ.1 218 24 = σ0.1 218 24 ∧ σ.1 218 25 = σ0.1 218 25)) hT (s_X12_readsSets_r hN (hR.tr hT) (hK) (by rw [hT.2 224 (by decide)]; exact hY) (RX_i rfl rfl rfl rfl rfl ((hT.2 224 (by decide)).trans tE) nE pK) (hg) (hB) (hn) (by skip; omega) (by rw [e122]; decide) (hi)) (by decide) (fun v38 σ39 hOσ39 hT hqv38 => ?_)
          have hqv38 : (TOK σ39.1 ∧ (σ0.1 218 11).toInt ≤ (σ39.1 218 11).toInt ∧ (σ39.1 218 14 = 0 → (σ0.1 218 11).toInt < (σ39.1 218 11).toInt ∧ ∃ j, fam tx n x1 i = some j ∧ RX σ39.1 tx n j) ∧ (¬ σ39.1 218 14 = 0 → fam tx n x1 i = none) ∧ ZB σ39.1 ∧ σ39.1 218 23 = σ0.1 218 23 + 1) ∧ (σ39.1 218 7 = σ0.1 218 7 ∧ σ39.1 218 9 = σ0.1 218 9 ∧ σ39.1 218 20 = σ0.1 218 20 ∧ σ39.1 218 22 = σ0.1 218 22 ∧ σ39.1 218 24 = σ0.1 218 24 ∧ σ39.1 218 25 = σ0.1 218 25) := hqv38
          have hkv38 := hqv38
          have hqv38 := hqv38.1
          have r230_σ39 : σ39.1 230 = σ0.1 230 := hOσ39.2 230 (by decide)
          have hK : TOK σ39.1 := by first | exact hqv38.1 | exact hqv38.1.1 | exact TOK_p eσ39 (by decide) hK
          have hB : ZB σ39.1 := by first | exact hqv38.2.1 | exact hqv38.2.2.2.2.1 | exact ZB_s eσ39 hB
          have g7_σ39 : σ39.1 218 7 = (σ0.1 218 7) := hkv38.2.1
          have g9_σ39 : σ39.1 218 9 = (σ0.1 218 9) := hkv38.2.2.1
          have g20_σ39 : σ39.1 218 20 = (σ0.1 218 20) := hkv38.2.2.2.1
          have g22_σ39 : σ39.1 218 22 = (σ0.1 218 22) := hkv38.2.2.2.2.1
          have g24_σ39 : σ39.1 218 24 = (σ0.1 218 24) := hkv38.2.2.2.2.2.1
          have g25_σ39 : σ39.1 218 25 = (σ0.1 218 25) := hkv38.2.2.2.2.2.2
          have m127 := hqv38.2.1
          have u127 := hqv38.2.2.1
          have f127 := hqv38.2.2.2.1
          have g57 := hqv38.2.2.2.2.2
          have s57 : (σ39.1 218 23).toInt = ((b8 + 1 : Nat) : Int) := by rw [g57, ti_add]; simp only [Int32.reduceToInt]; omega
          have p57 : ((σ39.1 218 23) - 1).toInt = (b8 : Int) := by rw [ti_sub, s57]; simp only [Int32.reduceToInt]; omega
          have m57 := p1024 p57 (by omega) (by omega)
          rw [J_X12_readsPart_192.eq_1]
          refine ok_gC rfl ?_
          refine ok_zbX (Q := fun V => (V = 0 → ¬ σ39.1 218 14 = 0) ∧ (¬ V = 0 → σ39.1 218 14 = 0)) (x_X12_good) (fun v40 hqv40 => ?_)
          have hqv40 : (v40 = 0 → ¬ σ39.1 218 14 = 0) ∧ (¬ v40 = 0 → σ39.1 218 14 = 0) := hqv40
          try simp only [g7_σ39, g9_σ39, g20_σ39, g22_σ39, g24_σ39, g25_σ39, hT.2 224 (by decide)] at hqv40
          refine ok_if (fun hc42 => ?_) (fun hc42 => ?_)
          · have qhc42 := hqv40.1 hc42
            have n196 := qhc42
            have st9 : stp tx n x1 (i, false, (lst (σ0.1 230) (σ0.1 218 22).toInt.toNat), (σ0.1 218 25).toInt.toNat) = none := by first | exact (stp_n h0q k44).trans (if_neg (f51 n196).2) | exact (stp_f h0q k122).trans (by rw [f127 n196]; rfl) | exact stp_z h0q m44 m122 i140.2 | exact absurd hg n196
            exact ok_rZ (Or.inr rfl) ⟨hT, (show (TOK σ39.1 ∧ ((σ0.1 218 11).toInt ≤ (σ39.1 218 11).toInt ∧ 0 ≤ (σ39.1 218 22).toInt ∧ (σ39.1 218 22).toInt ≤ 40) ∧ (σ39.1 218 14 = 0 → (σ0.1 218 11).toInt < (σ39.1 218 11).toInt ∧ ∃ c, stp tx n x1 (i, false, (lst (σ0.1 230) (σ0.1 218 22).toInt.toNat), (σ0.1 218 25).toInt.toNat) = some (some c) ∧ REL σ39.1 tx n c ∧ ((1 : Int32) = 0 ↔ c.2.1 = false)) ∧ (¬ σ39.1 218 14 = 0 → stp tx n x1 (i, false, (lst (σ0.1 230) (σ0.1 218 22).toInt.toNat), (σ0.1 218 25).toInt.toNat) = none) ∧ ZB σ39.1) ∧ (σ39.1 218 7 = σ0.1 218 7 ∧ σ39.1 218 9 = σ0.1 218 9 ∧ σ39.1 218 20 = σ0.1 218 20 ∧ σ39.1 218 25 = σ0.1 218 25) from ⟨by first | exact ⟨hK, ⟨m34.1, m34.2.1⟩, fun q => ⟨(m34.2.2.1 q).1.1, (tkE tx n i, false, decide (tkK tx n i = 40) :: (lst (σ0.1 230) (σ0.1 218 22).toInt.toNat), (σ0.1 218 25).toInt.toNat), (stp_o hpx).trans (if_neg (m34.2.2.1 q).2.1.1), ⟨⟨(m34.2.2.1 q).2.1.2, le1⟩, ⟨by first | exact ((m34.2.2.1 q).2.2.1.trans (by rw [k16]; rfl)).symm | exact ((m34.2.2.1 q).2.2.1.trans (by rw [k7, decide_eq_false (z50 w7.1)]; rfl)).symm, (m34.2.2.1 q).2.2.2⟩, by rw [g25_σ39], fun h => Bool.noConfusion (show false = true from h), fun _ => (m34.2.2.1 q).1.2⟩, ⟨fun _ => rfl, fun _ => rfl⟩⟩, fun q => (stp_o hpx).trans (if_pos (m34.2.2.2 q)), hB⟩ | exact absurd e7 n22 | exact absurd e22 n7 | exact absurd y196 n189 | exact ⟨hK, ⟨by (try simp only [g7_σ39, g9_σ39, g20_σ39, g22_σ39, g24_σ39, g25_σ39]); omega, by (try simp only [g7_σ39, g9_σ39, g20_σ39, g22_σ39, g24_σ39, g25_σ39]); omega⟩, fun q => absurd q (by (try simp only [g7_σ39, g9_σ39, g20_σ39, g22_σ39, g24_σ39, g25_σ39]); exact n196), fun _ => st9, hB⟩ | exact ⟨hK, ⟨by (try simp only [g7_σ39, g9_σ39, g20_σ39, g22_σ39, g24_σ39, g25_σ39]); omega, by omega⟩, fun _ => ⟨by (try simp only [g7_σ39, g9_σ39, g20_σ39, g22_σ39, g24_σ39, g25_σ39]); exact ga9, _, st9, ⟨⟨RX_i g9_σ39 rfl rfl rfl rfl ((hT.2 224 (by decide)).trans tE) nE pK9, le9⟩, ⟨by rw [r230_σ39]; exact l201.2.symm, by rw [r230_σ39]; exact NP_le hNP l201.1⟩, by rw [g25_σ39], fun _ => ⟨h201, popP_i _⟩, fun h => Bool.noConfusion (show true = false from h)⟩, ⟨fun h => absurd h (by decide), fun h => Bool.noConfusion (show true = false from h)⟩⟩, fun q => absurd (by (try simp only [g7_σ39, g9_σ39, g20_σ39, g22_σ39, g24_σ39, g25_σ39]); exact y196) q, hB⟩, g7_σ39, g9_σ39, g20_σ39, g25_σ39⟩)⟩
          · have qhc42 := hqv40.2 hc42
            have y196 := qhc42
            obtain ⟨P9, st9, pK9, ga9, le9⟩ : ∃ p, stp tx n x1 (i, false, (lst (σ0.1 230) (σ0.1 218 22).toInt.toNat), (σ0.1 218 25).toInt.toNat) = some (some (p, true, popP (lst (σ0.1 230) (σ0.1 218 22).toInt.toNat), (σ0.1 218 25).toInt.toNat)) ∧ TKV (σ39.1 218 11) (σ39.1 218 10) (σ39.1 218 12) (σ39.1 218 13) tx n p ∧ (σ0.1 218 11).toInt < (σ39.1 218 11).toInt ∧ p ≤ n := by first | exact ⟨_, (stp_n h0q k44).trans (if_pos (u51 y196).1.2), (u51 y196).2.2.2, (u51 y196).1.1, le1⟩ | (obtain ⟨j, fj, rj⟩ := (u127 y196).2; exact ⟨j, (stp_f h0q k122).trans (by rw [fj]; rfl), rj.2, (u127 y196).1, fam_le hi fj⟩) | exact ⟨_, stp_a h0q k137.1.1, k137.2.2, k137.1.2, le1⟩ | exact absurd y196 n189
            refine ok_gC rfl ?_
            refine ok_zbT (Q := fun V σ => (TOK σ.1 ∧ ZB σ.1 ∧ PIL σ.1 1 ∧ ((σ.1 218 22).toInt.toNat ≤ (σ39.1 218 22).toInt.toNat ∧ lst (σ39.1 230) (σ.1 218 22).toInt.toNat = popP (lst (σ39.1 230) (σ39.1 218 22).toInt.toNat)) ∧ ((σ.1 218 22).toInt ≤ 0 ∨ (rkI (σ39.1 230 ((σ.1 218 22) - 1).toNatClampNeg)).toInt < (3 : Int32).toInt)) ∧ (σ.1 218 7 = σ39.1 218 7 ∧ σ.1 218 9 = σ39.1 218 9 ∧ σ.1 218 10 = σ39.1 218 10 ∧ σ.1 218 11 = σ39.1 218 11 ∧ σ.1 218 12 = σ39.1 218 12 ∧ σ.1 218 13 = σ39.1 218 13 ∧ σ.1 218 14 = σ39.1 218 14 ∧ σ.1 218 15 = σ39.1 218 15 ∧ σ.1 218 20 = σ39.1 218 20 ∧ σ.1 218 25 = σ39.1 218 25)) hT (s_X12_settlesTo_r hN (hR.tr hT) (hK) (by rw [hT.2 224 (by decide)]; exact hY) (hB) (by (try simp only [g7_σ39, g9_σ39, g20_σ39, g22_σ39, g24_σ39, g25_σ39]); exact ha) (by first | exact PIL_i g22_σ39 rfl g24_σ39 r230_σ39 hS h22 hd hd6 s57 | exact absurd y196 n189) (by decide) (by (try simp only [g7_σ39, g9_σ39, g20_σ39, g22_σ39, g24_σ39, g25_σ39]); rw [r230_σ39]; exact hNP) (Or.inl (by decide))) (by decide) (fun v43 σ44 hOσ44 hT hqv43 => ?_)
            have hqv43 : (TOK σ44.1 ∧ ZB σ44.1 ∧ PIL σ44.1 1 ∧ ((σ44.1 218 22).toInt.toNat ≤ (σ39.1 218 22).toInt.toNat ∧ lst (σ39.1 230) (σ44.1 218 22).toInt.toNat = popP (lst (σ39.1 230) (σ39.1 218 22).toInt.toNat)) ∧ ((σ44.1 218 22).toInt ≤ 0 ∨ (rkI (σ39.1 230 ((σ44.1 218 22) - 1).toNatClampNeg)).toInt < (3 : Int32).toInt)) ∧ (σ44.1 218 7 = σ39.1 218 7 ∧ σ44.1 218 9 = σ39.1 218 9 ∧ σ44.1 218 10 = σ39.1 218 10 ∧ σ44.1 218 11 = σ39.1 218 11 ∧ σ44.1 218 12 = σ39.1 218 12 ∧ σ44.1 218 13 = σ39.1 218 13 ∧ σ44.1 218 14 = σ39.1 218 14 ∧ σ44.1 218 15 = σ39.1 218 15 ∧ σ44.1 218 20 = σ39.1 218 20 ∧ σ44.1 218 25 = σ39.1 218 25) := hqv43
            have hkv43 := hqv43
            have hqv43 := hqv43.1
            have r230_σ44 : σ44.1 230 = σ0.1 230 := (hOσ44.2 230 (by decide)).trans r230_σ39
            have hK : TOK σ44.1 := by first | exact hqv43.1 | exact hqv43.1.1 | exact TOK_p eσ44 (by decide) hK
            have hB : ZB σ44.1 := by first | exact hqv43.2.1 | exact hqv43.2.2.2.2.1 | exact ZB_s eσ44 hB
            try simp only [g7_σ39, g9_σ39, g20_σ39, g22_σ39, g24_σ39, g25_σ39] at hqv43
            have g7_σ44 : σ44.1 218 7 = (σ0.1 218 7) := (hkv43.2.1).trans g7_σ39
            have g9_σ44 : σ44.1 218 9 = (σ0.1 218 9) := (hkv43.2.2.1).trans g9_σ39
            have g10_σ44 : σ44.1 218 10 = (σ39.1 218 10) := hkv43.2.2.2.1
            have g11_σ44 : σ44.1 218 11 = (σ39.1 218 11) := hkv43.2.2.2.2.1
            have g12_σ44 : σ44.1 218 12 = (σ39.1 218 12) := hkv43.2.2.2.2.2.1
            have g13_σ44 : σ44.1 218 13 = (σ39.1 218 13) := hkv43.2.2.2.2.2.2.1
            have g14_σ44 : σ44.1 218 14 = (σ39.1 218 14) := hkv43.2.2.2.2.2.2.2.1
            have g15_σ44 : σ44.1 218 15 = (σ39.1 218 15) := hkv43.2.2.2.2.2.2.2.2.1
            have g20_σ44 : σ44.1 218 20 = (σ0.1 218 20) := (hkv43.2.2.2.2.2.2.2.2.2.1).trans g20_σ39
            have g25_σ44 : σ44.1 218 25 = (σ0.1 218 25) := (hkv43.2.2.2.2.2.2.2.2.2.2).trans g25_σ39
            have h201 := hqv43.2.2.1
            have b201 := PIL_b hqv43.2.2.1 (by decide)
            have l201 := hqv43.2.2.2.1
            have o201 : σ39.1 230 = σ0.1 230 := (hOσ44.2 230 (by decide)).symm.trans r230_σ44
            rw [o201] at l201
            exact ok_rZ (Or.inr rfl) ⟨hT, (show (TOK σ44.1 ∧ ((σ0.1 218 11).toInt ≤ (σ44.1 218 11).toInt ∧ 0 ≤ (σ44.1 218 22).toInt ∧ (σ44.1 218 22).toInt ≤ 40) ∧ (σ44.1 218 14 = 0 → (σ0.1 218 11).toInt < (σ44.1 218 11).toInt ∧ ∃ c, stp tx n x1 (i, false, (lst (σ0.1 230) (σ0.1 218 22).toInt.toNat), (σ0.1 218 25).toInt.toNat) = some (some c) ∧ REL σ44.1 tx n c ∧ ((1 : Int32) = 0 ↔ c.2.1 = false)) ∧ (¬ σ44.1 218 14 = 0 → stp tx n x1 (i, false, (lst (σ0.1 230) (σ0.1 218 22).toInt.toNat), (σ0.1 218 25).toInt.toNat) = none) ∧ ZB σ44.1) ∧ (σ44.1 218 7 = σ0.1 218 7 ∧ σ44.1 218 9 = σ0.1 218 9 ∧ σ44.1 218 20 = σ0.1 218 20 ∧ σ44.1 218 25 = σ0.1 218 25) from ⟨by first | exact ⟨hK, ⟨m34.1, m34.2.1⟩, fun q => ⟨(m34.2.2.1 q).1.1, (tkE tx n i, false, decide (tkK tx n i = 40) :: (lst (σ0.1 230) (σ0.1 218 22).toInt.toNat), (σ0.1 218 25).toInt.toNat), (stp_o hpx).trans (if_neg (m34.2.2.1 q).2.1.1), ⟨⟨(m34.2.2.1 q).2.1.2, le1⟩, ⟨by first | exact ((m34.2.2.1 q).2.2.1.trans (by rw [k16]; rfl)).symm | exact ((m34.2.2.1 q).2.2.1.trans (by rw [k7, decide_eq_false (z50 w7.1)]; rfl)).symm, (m34.2.2.1 q).2.2.2⟩, by rw [g25_σ44], fun h => Bool.noConfusion (show false = true from h), fun _ => (m34.2.2.1 q).1.2⟩, ⟨fun _ => rfl, fun _ => rfl⟩⟩, fun q => (stp_o hpx).trans (if_pos (m34.2.2.2 q)), hB⟩ | exact absurd e7 n22 | exact absurd e22 n7 | exact absurd y196 n189 | exact ⟨hK, ⟨by (try simp only [g7_σ44, g9_σ44, g10_σ44, g11_σ44, g12_σ44, g13_σ44, g14_σ44, g15_σ44, g20_σ44, g25_σ44]); omega, by (try simp only [g7_σ44, g9_σ44, g10_σ44, g11_σ44, g12_σ44, g13_σ44, g14_σ44, g15_σ44, g20_σ44, g25_σ44]); omega⟩, fun q => absurd q (by (try simp only [g7_σ44, g9_σ44, g10_σ44, g11_σ44, g12_σ44, g13_σ44, g14_σ44, g15_σ44, g20_σ44, g25_σ44]); exact n196), fun _ => st9, hB⟩ | exact ⟨hK, ⟨by (try simp only [g7_σ44, g9_σ44, g10_σ44, g11_σ44, g12_σ44, g13_σ44, g14_σ44, g15_σ44, g20_σ44, g25_σ44]); omega, by omega⟩, fun _ => ⟨by (try simp only [g7_σ44, g9_σ44, g10_σ44, g11_σ44, g12_σ44, g13_σ44, g14_σ44, g15_σ44, g20_σ44, g25_σ44]); exact ga9, _, st9, ⟨⟨RX_i g9_σ44 g10_σ44 g11_σ44 g12_σ44 g13_σ44 ((hT.2 224 (by decide)).trans tE) nE pK9, le9⟩, ⟨by rw [r230_σ44]; exact l201.2.symm, by rw [r230_σ44]; exact NP_le hNP l201.1⟩, by rw [g25_σ44], fun _ => ⟨h201, popP_i _⟩, fun h => Bool.noConfusion (show true = false from h)⟩, ⟨fun h => absurd h (by decide), fun h => Bool.noConfusion (show true = false from h)⟩⟩, fun q => absurd (by (try simp only [g7_σ44, g9_σ44, g10_σ44, g11_σ44, g12_σ44, g13_σ44, g14_σ44, g15_σ44, g20_σ44, g25_σ44]); exact y196) q, hB⟩, g7_σ44, g9_σ44, g20_σ44, g25_σ44⟩)⟩
        · have m122 : ¬ tkK tx n i = 123 := fun q => hc37 (pK.2.1.trans q)
          refine ok_gC rfl ?_
          refine ok_zbT (Q := fun V σ => (TOK σ.1 ∧ (σ0.1 218 11).toInt ≤ (σ.1 218 11).toInt ∧ (V = 0 → σ = σ0 ∧ ¬ isW tx n i 15) ∧ (¬ V = 0 → (isW tx n i 15 ∧ (σ0.1 218 11).toInt < (σ.1 218 11).toInt) ∧ RX σ.1 tx n (tkE tx n i))) ∧ (σ.1 218 7 = σ0.1 218 7 ∧ σ.1 218 9 = σ0.1 218 9 ∧ σ.1 218 14 = σ0.1 218 14 ∧ σ.1 218 15 = σ0.1 218 15 ∧ σ.1 218 20 = σ0.1 218 20 ∧ σ.1 218 22 = σ0.1 218 22 ∧ σ.1 218 23 = σ0.1 218 23 ∧ σ.1 218 24 = σ0.1 218 24 ∧ σ.1 218 25 = σ0.1 218 25)) hT (s_X12_takes_r hN (hR.tr hT) (hK) (by rw [hT.2 224 (by decide)]; exact hY) (RX_i rfl rfl rfl rfl rfl ((hT.2 224 (by decide)).trans tE) nE pK) (hg) (by decide)) (by decide) (fun v45 σ46 hOσ46 hT hqv45 => ?_)
          have hqv45 : (TOK σ46.1 ∧ (σ0.1 218 11).toInt ≤ (σ46.1 218 11).toInt ∧ (v45 = 0 → σ46 = σ0 ∧ ¬ isW tx n i 15) ∧ (¬ v45 = 0 → (isW tx n i 15 ∧ (σ0.1 218 11).toInt < (σ46.1 218 11).toInt) ∧ RX σ46.1 tx n (tkE tx n i))) ∧ (σ46.1 218 7 = σ0.1 218 7 ∧ σ46.1 218 9 = σ0.1 218 9 ∧ σ46.1 218 14 = σ0.1 218 14 ∧ σ46.1 218 15 = σ0.1 218 15 ∧ σ46.1 218 20 = σ0.1 218 20 ∧ σ46.1 218 22 = σ0.1 218 22 ∧ σ46.1 218 23 = σ0.1 218 23 ∧ σ46.1 218 24 = σ0.1 218 24 ∧ σ46.1 218 25 = σ0.1 218 25) := hqv45
          have hkv45 := hqv45
          have hqv45 := hqv45.1
          have r230_σ46 : σ46.1 230 = σ0.1 230 := hOσ46.2 230 (by decide)
          have hK : TOK σ46.1 := by first | exact hqv45.1 | exact hqv45.1.1 | exact TOK_p eσ46 (by decide) hK
          have hB : ZB σ46.1 := ZB.tr hOσ46 (by decide) hB
          have g7_σ46 : σ46.1 218 7 = (σ0.1 218 7) := hkv45.2.1
          have g9_σ46 : σ46.1 218 9 = (σ0.1 218 9) := hkv45.2.2.1
          have g14_σ46 : σ46.1 218 14 = (σ0.1 218 14) := hkv45.2.2.2.1
          have g15_σ46 : σ46.1 218 15 = (σ0.1 218 15) := hkv45.2.2.2.2.1
          have g20_σ46 : σ46.1 218 20 = (σ0.1 218 20) := hkv45.2.2.2.2.2.1
          have g22_σ46 : σ46.1 218 22 = (σ0.1 218 22) := hkv45.2.2.2.2.2.2.1
          have g23_σ46 : σ46.1 218 23 = (σ0.1 218 23) := hkv45.2.2.2.2.2.2.2.1
          have g24_σ46 : σ46.1 218 24 = (σ0.1 218 24) := hkv45.2.2.2.2.2.2.2.2.1
          have g25_σ46 : σ46.1 218 25 = (σ0.1 218 25) := hkv45.2.2.2.2.2.2.2.2.2
          have m137 := hqv45.2.1
          have t137 := hqv45.2.2.2
          refine ok_if (fun hc47 => ?_) (fun hc47 => ?_)
          · have i140 := hqv45.2.2.1 hc47
            refine ok_gC rfl ?_
            refine ok_zbT (Q := fun V σ => (TOK σ.1 ∧ ¬ σ.1 218 14 = 0) ∧ (σ.1 218 7 = σ46.1 218 7 ∧ σ.1 218 9 = σ46.1 218 9 ∧ σ.1 218 10 = σ46.1 218 10 ∧ σ.1 218 11 = σ46.1 218 11 ∧ σ.1 218 12 = σ46.1 218 12 ∧ σ.1 218 13 = σ46.1 218 13 ∧ σ.1 218 20 = σ46.1 218 20 ∧ σ.1 218 22 = σ46.1 218 22 ∧ σ.1 218 23 = σ46.1 218 23 ∧ σ.1 218 24 = σ46.1 218 24 ∧ σ.1 218 25 = σ46.1 218 25)) hT (s_X12_errs hN (hR.tr hT) (hK) (by rw [hT.2 224 (by decide)]; exact hY) (by decide)) (by decide) (fun v48 σ49 hOσ49 hT hqv48 => ?_)
            have hqv48 : (TOK σ49.1 ∧ ¬ σ49.1 218 14 = 0) ∧ (σ49.1 218 7 = σ46.1 218 7 ∧ σ49.1 218 9 = σ46.1 218 9 ∧ σ49.1 218 10 = σ46.1 218 10 ∧ σ49.1 218 11 = σ46.1 218 11 ∧ σ49.1 218 12 = σ46.1 218 12 ∧ σ49.1 218 13 = σ46.1 218 13 ∧ σ49.1 218 20 = σ46.1 218 20 ∧ σ49.1 218 22 = σ46.1 218 22 ∧ σ49.1 218 23 = σ46.1 218 23 ∧ σ49.1 218 24 = σ46.1 218 24 ∧ σ49.1 218 25 = σ46.1 218 25) := hqv48
            have hkv48 := hqv48
            have hqv48 := hqv48.1
            have r230_σ49 : σ49.1 230 = σ0.1 230 := (hOσ49.2 230 (by decide)).trans r230_σ46
            have hK : TOK σ49.1 := by first | exact hqv48.1 | exact hqv48.1.1 | exact TOK_p eσ49 (by decide) hK
            have hB : ZB σ49.1 := ZB.tr hOσ49 (by decide) hB
            try simp only [g7_σ46, g9_σ46, g14_σ46, g15_σ46, g20_σ46, g22_σ46, g23_σ46, g24_σ46, g25_σ46] at hqv48
            have g7_σ49 : σ49.1 218 7 = (σ0.1 218 7) := (hkv48.2.1).trans g7_σ46
            have g9_σ49 : σ49.1 218 9 = (σ0.1 218 9) := (hkv48.2.2.1).trans g9_σ46
            have g10_σ49 : σ49.1 218 10 = (σ46.1 218 10) := hkv48.2.2.2.1
            have g11_σ49 : σ49.1 218 11 = (σ46.1 218 11) := hkv48.2.2.2.2.1
            have g12_σ49 : σ49.1 218 12 = (σ46.1 218 12) := hkv48.2.2.2.2.2.1
            have g13_σ49 : σ49.1 218 13 = (σ46.1 218 13) := hkv48.2.2.2.2.2.2.1
            have g20_σ49 : σ49.1 218 20 = (σ0.1 218 20) := (hkv48.2.2.2.2.2.2.2.1).trans g20_σ46
            have g22_σ49 : σ49.1 218 22 = (σ0.1 218 22) := (hkv48.2.2.2.2.2.2.2.2.1).trans g22_σ46
            have g23_σ49 : σ49.1 218 23 = (σ0.1 218 23) := (hkv48.2.2.2.2.2.2.2.2.2.1).trans g23_σ46
            have g24_σ49 : σ49.1 218 24 = (σ0.1 218 24) := (hkv48.2.2.2.2.2.2.2.2.2.2.1).trans g24_σ46
            have g25_σ49 : σ49.1 218 25 = (σ0.1 218 25) := (hkv48.2.2.2.2.2.2.2.2.2.2.2).trans g25_σ46
            have n189 := hqv48.2
            rw [J_X12_readsPart_192.eq_1]
            refine ok_gC rfl ?_
            refine ok_zbX (Q := fun V => (V = 0 → ¬ σ49.1 218 14 = 0) ∧ (¬ V = 0 → σ49.1 218 14 = 0)) (x_X12_good) (fun v50 hqv50 => ?_)
            have hqv50 : (v50 = 0 → ¬ σ49.1 218 14 = 0) ∧ (¬ v50 = 0 → σ49.1 218 14 = 0) := hqv50
            try simp only [g7_σ49, g9_σ49, g10_σ49, g11_σ49, g12_σ49, g13_σ49, g20_σ49, g22_σ49, g23_σ49, g24_σ49, g25_σ49, hT.2 224 (by decide)] at hqv50
            refine ok_if (fun hc52 => ?_) (fun hc52 => ?_)
            · have qhc52 := hqv50.1 hc52
              have n196 := qhc52
              have st9 : stp tx n x1 (i, false, (lst (σ0.1 230) (σ0.1 218 22).toInt.toNat), (σ0.1 218 25).toInt.toNat) = none := by first | exact (stp_n h0q k44).trans (if_neg (f51 n196).2) | exact (stp_f h0q k122).trans (by rw [f127 n196]; rfl) | exact stp_z h0q m44 m122 i140.2 | exact absurd hg n196
              exact ok_rZ (Or.inr rfl) ⟨hT, (show (TOK σ49.1 ∧ ((σ0.1 218 11).toInt ≤ (σ49.1 218 11).toInt ∧ 0 ≤ (σ49.1 218 22).toInt ∧ (σ49.1 218 22).toInt ≤ 40) ∧ (σ49.1 218 14 = 0 → (σ0.1 218 11).toInt < (σ49.1 218 11).toInt ∧ ∃ c, stp tx n x1 (i, false, (lst (σ0.1 230) (σ0.1 218 22).toInt.toNat), (σ0.1 218 25).toInt.toNat) = some (some c) ∧ REL σ49.1 tx n c ∧ ((1 : Int32) = 0 ↔ c.2.1 = false)) ∧ (¬ σ49.1 218 14 = 0 → stp tx n x1 (i, false, (lst (σ0.1 230) (σ0.1 218 22).toInt.toNat), (σ0.1 218 25).toInt.toNat) = none) ∧ ZB σ49.1) ∧ (σ49.1 218 7 = σ0.1 218 7 ∧ σ49.1 218 9 = σ0.1 218 9 ∧ σ49.1 218 20 = σ0.1 218 20 ∧ σ49.1 218 25 = σ0.1 218 25) from ⟨by first | exact ⟨hK, ⟨m34.1, m34.2.1⟩, fun q => ⟨(m34.2.2.1 q).1.1, (tkE tx n i, false, decide (tkK tx n i = 40) :: (lst (σ0.1 230) (σ0.1 218 22).toInt.toNat), (σ0.1 218 25).toInt.toNat), (stp_o hpx).trans (if_neg (m34.2.2.1 q).2.1.1), ⟨⟨(m34.2.2.1 q).2.1.2, le1⟩, ⟨by first | exact ((m34.2.2.1 q).2.2.1.trans (by rw [k16]; rfl)).symm | exact ((m34.2.2.1 q).2.2.1.trans (by rw [k7, decide_eq_false (z50 w7.1)]; rfl)).symm, (m34.2.2.1 q).2.2.2⟩, by rw [g25_σ49], fun h => Bool.noConfusion (show false = true from h), fun _ => (m34.2.2.1 q).1.2⟩, ⟨fun _ => rfl, fun _ => rfl⟩⟩, fun q => (stp_o hpx).trans (if_pos (m34.2.2.2 q)), hB⟩ | exact absurd e7 n22 | exact absurd e22 n7 | exact absurd y196 n189 | exact ⟨hK, ⟨by (try simp only [g7_σ49, g9_σ49, g10_σ49, g11_σ49, g12_σ49, g13_σ49, g20_σ49, g22_σ49, g23_σ49, g24_σ49, g25_σ49]); omega, by (try simp only [g7_σ49, g9_σ49, g10_σ49, g11_σ49, g12_σ49, g13_σ49, g20_σ49, g22_σ49, g23_σ49, g24_σ49, g25_σ49]); omega⟩, fun q => absurd q (by (try simp only [g7_σ49, g9_σ49, g10_σ49, g11_σ49, g12_σ49, g13_σ49, g20_σ49, g22_σ49, g23_σ49, g24_σ49, g25_σ49]); exact n196), fun _ => st9, hB⟩ | exact ⟨hK, ⟨by (try simp only [g7_σ49, g9_σ49, g10_σ49, g11_σ49, g12_σ49, g13_σ49, g20_σ49, g22_σ49, g23_σ49, g24_σ49, g25_σ49]); omega, by omega⟩, fun _ => ⟨by (try simp only [g7_σ49, g9_σ49, g10_σ49, g11_σ49, g12_σ49, g13_σ49, g20_σ49, g22_σ49, g23_σ49, g24_σ49, g25_σ49]); exact ga9, _, st9, ⟨⟨RX_i g9_σ49 g10_σ49 g11_σ49 g12_σ49 g13_σ49 ((hT.2 224 (by decide)).trans tE) nE pK9, le9⟩, ⟨by rw [r230_σ49]; exact l201.2.symm, by rw [r230_σ49]; exact NP_le hNP l201.1⟩, by rw [g25_σ49], fun _ => ⟨h201, popP_i _⟩, fun h => Bool.noConfusion (show true = false from h)⟩, ⟨fun h => absurd h (by decide), fun h => Bool.noConfusion (show true = false from h)⟩⟩, fun q => absurd (by (try simp only [g7_σ49, g9_σ49, g10_σ49, g11_σ49, g12_σ49, g13_σ49, g20_σ49, g22_σ49, g23_σ49, g24_σ49, g25_σ49]); exact y196) q, hB⟩, g7_σ49, g9_σ49, g20_σ49, g25_σ49⟩)⟩
            · have qhc52 := hqv50.2 hc52
              have y196 := qhc52
              obtain ⟨P9, st9, pK9, ga9, le9⟩ : ∃ p, stp tx n x1 (i, false, (lst (σ0.1 230) (σ0.1 218 22).toInt.toNat), (σ0.1 218 25).toInt.toNat) = some (some (p, true, popP (lst (σ0.1 230) (σ0.1 218 22).toInt.toNat), (σ0.1 218 25).toInt.toNat)) ∧ TKV (σ46.1 218 11) (σ46.1 218 10) (σ46.1 218 12) (σ46.1 218 13) tx n p ∧ (σ0.1 218 11).toInt < (σ46.1 218 11).toInt ∧ p ≤ n := by first | exact ⟨_, (stp_n h0q k44).trans (if_pos (u51 y196).1.2), (u51 y196).2.2.2, (u51 y196).1.1, le1⟩ | (obtain ⟨j, fj, rj⟩ := (u127 y196).2; exact ⟨j, (stp_f h0q k122).trans (by rw [fj]; rfl), rj.2, (u127 y196).1, fam_le hi fj⟩) | exact ⟨_, stp_a h0q k137.1.1, k137.2.2, k137.1.2, le1⟩ | exact absurd y196 n189
              refine ok_gC rfl ?_
              refine ok_zbT (Q := fun V σ => (TOK σ.1 ∧ ZB σ.1 ∧ PIL σ.1 1 ∧ ((σ.1 218 22).toInt.toNat ≤ (σ49.1 218 22).toInt.toNat ∧ lst (σ49.1 230) (σ.1 218 22).toInt.toNat = popP (lst (σ49.1 230) (σ49.1 218 22).toInt.toNat)) ∧ ((σ.1 218 22).toInt ≤ 0 ∨ (rkI (σ49.1 230 ((σ.1 218 22) - 1).toNatClampNeg)).toInt < (3 : Int32).toInt)) ∧ (σ.1 218 7 = σ49.1 218 7 ∧ σ.1 218 9 = σ49.1 218 9 ∧ σ.1 218 10 = σ49.1 218 10 ∧ σ.1 218 11 = σ49.1 218 11 ∧ σ.1 218 12 = σ49.1 218 12 ∧ σ.1 218 13 = σ49.1 218 13 ∧ σ.1 218 14 = σ49.1 218 14 ∧ σ.1 218 15 = σ49.1 218 15 ∧ σ.1 218 20 = σ49.1 218 20 ∧ σ.1 218 25 = σ49.1 218 25)) hT (s_X12_settlesTo_r hN (hR.tr hT) (hK) (by rw [hT.2 224 (by decide)]; exact hY) (hB) (by (try simp only [g7_σ49, g9_σ49, g10_σ49, g11_σ49, g12_σ49, g13_σ49, g20_σ49, g22_σ49, g23_σ49, g24_σ49, g25_σ49]); exact ha) (by first | exact PIL_i g22_σ49 g23_σ49 g24_σ49 r230_σ49 hS h22 hd hd6 s57 | exact absurd y196 n189) (by decide) (by (try simp only [g7_σ49, g9_σ49, g10_σ49, g11_σ49, g12_σ49, g13_σ49, g20_σ49, g22_σ49, g23_σ49, g24_σ49, g25_σ49]); rw [r230_σ49]; exact hNP) (Or.inl (by decide))) (by decide) (fun v53 σ54 hOσ54 hT hqv53 => ?_)
              have hqv53 : (TOK σ54.1 ∧ ZB σ54.1 ∧ PIL σ54.1 1 ∧ ((σ54.1 218 22).toInt.toNat ≤ (σ49.1 218 22).toInt.toNat ∧ lst (σ49.1 230) (σ54.1 218 22).toInt.toNat = popP (lst (σ49.1 230) (σ49.1 218 22).toInt.toNat)) ∧ ((σ54.1 218 22).toInt ≤ 0 ∨ (rkI (σ49.1 230 ((σ54.1 218 22) - 1).toNatClampNeg)).toInt < (3 : Int32).toInt)) ∧ (σ54.1 218 7 = σ49.1 218 7 ∧ σ54.1 218 9 = σ49.1 218 9 ∧ σ54.1 218 10 = σ49.1 218 10 ∧ σ54.1 218 11 = σ49.1 218 11 ∧ σ54.1 218 12 = σ49.1 218 12 ∧ σ54.1 218 13 = σ49.1 218 13 ∧ σ54.1 218 14 = σ49.1 218 14 ∧ σ54.1 218 15 = σ49.1 218 15 ∧ σ54.1 218 20 = σ49.1 218 20 ∧ σ54.1 218 25 = σ49.1 218 25) := hqv53
              have hkv53 := hqv53
              have hqv53 := hqv53.1
              have r230_σ54 : σ54.1 230 = σ0.1 230 := (hOσ54.2 230 (by decide)).trans r230_σ49
              have hK : TOK σ54.1 := by first | exact hqv53.1 | exact hqv53.1.1 | exact TOK_p eσ54 (by decide) hK
              have hB : ZB σ54.1 := by first | exact hqv53.2.1 | exact hqv53.2.2.2.2.1 | exact ZB_s eσ54 hB
              try simp only [g7_σ49, g9_σ49, g10_σ49, g11_σ49, g12_σ49, g13_σ49, g20_σ49, g22_σ49, g23_σ49, g24_σ49, g25_σ49] at hqv53
              have g7_σ54 : σ54.1 218 7 = (σ0.1 218 7) := (hkv53.2.1).trans g7_σ49
              have g9_σ54 : σ54.1 218 9 = (σ0.1 218 9) := (hkv53.2.2.1).trans g9_σ49
              have g10_σ54 : σ54.1 218 10 = (σ46.1 218 10) := (hkv53.2.2.2.1).trans g10_σ49
              have g11_σ54 : σ54.1 218 11 = (σ46.1 218 11) := (hkv53.2.2.2.2.1).trans g11_σ49
              have g12_σ54 : σ54.1 218 12 = (σ46.1 218 12) := (hkv53.2.2.2.2.2.1).trans g12_σ49
              have g13_σ54 : σ54.1 218 13 = (σ46.1 218 13) := (hkv53.2.2.2.2.2.2.1).trans g13_σ49
              have g14_σ54 : σ54.1 218 14 = (σ49.1 218 14) := hkv53.2.2.2.2.2.2.2.1
              have g15_σ54 : σ54.1 218 15 = (σ49.1 218 15) := hkv53.2.2.2.2.2.2.2.2.1
              have g20_σ54 : σ54.1 218 20 = (σ0.1 218 20) := (hkv53.2.2.2.2.2.2.2.2.2.1).trans g20_σ49
              have g25_σ54 : σ54.1 218 25 = (σ0.1 218 25) := (hkv53.2.2.2.2.2.2.2.2.2.2).trans g25_σ49
              have h201 := hqv53.2.2.1
              have b201 := PIL_b hqv53.2.2.1 (by decide)
              have l201 := hqv53.2.2.2.1
              have o201 : σ49.1 230 = σ0.1 230 := (hOσ54.2 230 (by decide)).symm.trans r230_σ54
              rw [o201] at l201
              exact ok_rZ (Or.inr rfl) ⟨hT, (show (TOK σ54.1 ∧ ((σ0.1 218 11).toInt ≤ (σ54.1 218 11).toInt ∧ 0 ≤ (σ54.1 218 22).toInt ∧ (σ54.1 218 22).toInt ≤ 40) ∧ (σ54.1 218 14 = 0 → (σ0.1 218 11).toInt < (σ54.1 218 11).toInt ∧ ∃ c, stp tx n x1 (i, false, (lst (σ0.1 230) (σ0.1 218 22).toInt.toNat), (σ0.1 218 25).toInt.toNat) = some (some c) ∧ REL σ54.1 tx n c ∧ ((1 : Int32) = 0 ↔ c.2.1 = false)) ∧ (¬ σ54.1 218 14 = 0 → stp tx n x1 (i, false, (lst (σ0.1 230) (σ0.1 218 22).toInt.toNat), (σ0.1 218 25).toInt.toNat) = none) ∧ ZB σ54.1) ∧ (σ54.1 218 7 = σ0.1 218 7 ∧ σ54.1 218 9 = σ0.1 218 9 ∧ σ54.1 218 20 = σ0.1 218 20 ∧ σ54.1 218 25 = σ0.1 218 25) from ⟨by first | exact ⟨hK, ⟨m34.1, m34.2.1⟩, fun q => ⟨(m34.2.2.1 q).1.1, (tkE tx n i, false, decide (tkK tx n i = 40) :: (lst (σ0.1 230) (σ0.1 218 22).toInt.toNat), (σ0.1 218 25).toInt.toNat), (stp_o hpx).trans (if_neg (m34.2.2.1 q).2.1.1), ⟨⟨(m34.2.2.1 q).2.1.2, le1⟩, ⟨by first | exact ((m34.2.2.1 q).2.2.1.trans (by rw [k16]; rfl)).symm | exact ((m34.2.2.1 q).2.2.1.trans (by rw [k7, decide_eq_false (z50 w7.1)]; rfl)).symm, (m34.2.2.1 q).2.2.2⟩, by rw [g25_σ54], fun h => Bool.noConfusion (show false = true from h), fun _ => (m34.2.2.1 q).1.2⟩, ⟨fun _ => rfl, fun _ => rfl⟩⟩, fun q => (stp_o hpx).trans (if_pos (m34.2.2.2 q)), hB⟩ | exact absurd e7 n22 | exact absurd e22 n7 | exact absurd y196 n189 | exact ⟨hK, ⟨by (try simp only [g7_σ54, g9_σ54, g10_σ54, g11_σ54, g12_σ54, g13_σ54, g14_σ54, g15_σ54, g20_σ54, g25_σ54]); omega, by (try simp only [g7_σ54, g9_σ54, g10_σ54, g11_σ54, g12_σ54, g13_σ54, g14_σ54, g15_σ54, g20_σ54, g25_σ54]); omega⟩, fun q => absurd q (by (try simp only [g7_σ54, g9_σ54, g10_σ54, g11_σ54, g12_σ54, g13_σ54, g14_σ54, g15_σ54, g20_σ54, g25_σ54]); exact n196), fun _ => st9, hB⟩ | exact ⟨hK, ⟨by (try simp only [g7_σ54, g9_σ54, g10_σ54, g11_σ54, g12_σ54, g13_σ54, g14_σ54, g15_σ54, g20_σ54, g25_σ54]); omega, by omega⟩, fun _ => ⟨by (try simp only [g7_σ54, g9_σ54, g10_σ54, g11_σ54, g12_σ54, g13_σ54, g14_σ54, g15_σ54, g20_σ54, g25_σ54]); exact ga9, _, st9, ⟨⟨RX_i g9_σ54 g10_σ54 g11_σ54 g12_σ54 g13_σ54 ((hT.2 224 (by decide)).trans tE) nE pK9, le9⟩, ⟨by rw [r230_σ54]; exact l201.2.symm, by rw [r230_σ54]; exact NP_le hNP l201.1⟩, by rw [g25_σ54], fun _ => ⟨h201, popP_i _⟩, fun h => Bool.noConfusion (show true = false from h)⟩, ⟨fun h => absurd h (by decide), fun h => Bool.noConfusion (show true = false from h)⟩⟩, fun q => absurd (by (try simp only [g7_σ54, g9_σ54, g10_σ54, g11_σ54, g12_σ54, g13_σ54, g14_σ54, g15_σ54, g20_σ54, g25_σ54]); exact y196) q, hB⟩, g7_σ54, g9_σ54, g20_σ54, g25_σ54⟩)⟩
          · have k137 := t137 hc47
            refine ok_gC rfl ?_
            refine ok_zbT (Q := fun V σ => (TOK σ.1 ∧ ZB σ.1 ∧ σ.1 218 23 = σ46.1 218 23 + 1) ∧ (σ.1 218 7 = σ46.1 218 7 ∧ σ.1 218 9 = σ46.1 218 9 ∧ σ.1 218 10 = σ46.1 218 10 ∧ σ.1 218 11 = σ46.1 218 11 ∧ σ.1 218 12 = σ46.1 218 12 ∧ σ.1 218 13 = σ46.1 218 13 ∧ σ.1 218 14 = σ46.1 218 14 ∧ σ.1 218 15 = σ46.1 218 15 ∧ σ.1 218 20 = σ46.1 218 20 ∧ σ.1 218 22 = σ46.1 218 22 ∧ σ.1 218 24 = σ46.1 218 24 ∧ σ.1 218 25 = σ46.1 218 25)) hT (s_X12_pushesEmpty hN (hR.tr hT) (hK) (by rw [hT.2 224 (by decide)]; exact hY) (hB) (by (try simp only [g7_σ46, g9_σ46, g14_σ46, g15_σ46, g20_σ46, g22_σ46, g23_σ46, g24_σ46, g25_σ46]); omega)) (by decide) (fun v55 σ56 hOσ56 hT hqv55 => ?_)
            have hqv55 : (TOK σ56.1 ∧ ZB σ56.1 ∧ σ56.1 218 23 = σ46.1 218 23 + 1) ∧ (σ56.1 218 7 = σ46.1 218 7 ∧ σ56.1 218 9 = σ46.1 218 9 ∧ σ56.1 218 10 = σ46.1 218 10 ∧ σ56.1 218 11 = σ46.1 218 11 ∧ σ56.1 218 12 = σ46.1 218 12 ∧ σ56.1 218 13 = σ46.1 218 13 ∧ σ56.1 218 14 = σ46.1 218 14 ∧ σ56.1 218 15 = σ46.1 218 15 ∧ σ56.1 218 20 = σ46.1 218 20 ∧ σ56.1 218 22 = σ46.1 218 22 ∧ σ56.1 218 24 = σ46.1 218 24 ∧ σ56.1 218 25 = σ46.1 218 25) := hqv55
            have hkv55 := hqv55
            have hqv55 := hqv55.1
            have r230_σ56 : σ56.1 230 = σ0.1 230 := (hOσ56.2 230 (by decide)).trans r230_σ46
            have hK : TOK σ56.1 := by first | exact hqv55.1 | exact hqv55.1.1 | exact TOK_p eσ56 (by decide) hK
            have hB : ZB σ56.1 := by first | exact hqv55.2.1 | exact hqv55.2.2.2.2.1 | exact ZB_s eσ56 hB
            try simp only [g7_σ46, g9_σ46, g14_σ46, g15_σ46, g20_σ46, g22_σ46, g23_σ46, g24_σ46, g25_σ46] at hqv55
            have g7_σ56 : σ56.1 218 7 = (σ0.1 218 7) := (hkv55.2.1).trans g7_σ46
            have g9_σ56 : σ56.1 218 9 = (σ0.1 218 9) := (hkv55.2.2.1).trans g9_σ46
            have g10_σ56 : σ56.1 218 10 = (σ46.1 218 10) := hkv55.2.2.2.1
            have g11_σ56 : σ56.1 218 11 = (σ46.1 218 11) := hkv55.2.2.2.2.1
            have g12_σ56 : σ56.1 218 12 = (σ46.1 218 12) := hkv55.2.2.2.2.2.1
            have g13_σ56 : σ56.1 218 13 = (σ46.1 218 13) := hkv55.2.2.2.2.2.2.1
            have g14_σ56 : σ56.1 218 14 = (σ0.1 218 14) := (hkv55.2.2.2.2.2.2.2.1).trans g14_σ46
            have g15_σ56 : σ56.1 218 15 = (σ0.1 218 15) := (hkv55.2.2.2.2.2.2.2.2.1).trans g15_σ46
            have g20_σ56 : σ56.1 218 20 = (σ0.1 218 20) := (hkv55.2.2.2.2.2.2.2.2.2.1).trans g20_σ46
            have g22_σ56 : σ56.1 218 22 = (σ0.1 218 22) := (hkv55.2.2.2.2.2.2.2.2.2.2.1).trans g22_σ46
            have g24_σ56 : σ56.1 218 24 = (σ0.1 218 24) := (hkv55.2.2.2.2.2.2.2.2.2.2.2.1).trans g24_σ46
            have g25_σ56 : σ56.1 218 25 = (σ0.1 218 25) := (hkv55.2.2.2.2.2.2.2.2.2.2.2.2).trans g25_σ46
            have g57 := hqv55.2.2
            have s57 : (σ56.1 218 23).toInt = ((b8 + 1 : Nat) : Int) := by rw [g57, ti_add]; simp only [Int32.reduceToInt]; omega
            have p57 : ((σ56.1 218 23) - 1).toInt = (b8 : Int) := by rw [ti_sub, s57]; simp only [Int32.reduceToInt]; omega
            have m57 := p1024 p57 (by omega) (by omega)
            refine ok_lp (fun t : Int32 × zS => Tr [218, 226, 227, 228, 229, 230] σ0 (t.2) ∧ (0 ≤ (t.1).toInt) ∧ (TOK (t.2).1) ∧ (ZB (t.2).1) ∧ ((t.2).1 218 7 = (σ0.1 218 7)) ∧ ((t.2).1 218 9 = (σ0.1 218 9)) ∧ ((t.2).1 218 10 = (σ46.1 218 10)) ∧ ((t.2).1 218 11 = (σ46.1 218 11)) ∧ ((t.2).1 218 12 = (σ46.1 218 12)) ∧ ((t.2).1 218 13 = (σ46.1 218 13)) ∧ ((t.2).1 218 14 = (σ0.1 218 14)) ∧ ((t.2).1 218 15 = (σ0.1 218 15)) ∧ ((t.2).1 218 20 = (σ0.1 218 20)) ∧ ((t.2).1 218 22 = (σ0.1 218 22)) ∧ ((t.2).1 218 23 = (σ56.1 218 23)) ∧ ((t.2).1 218 24 = (σ0.1 218 24)) ∧ ((t.2).1 218 25 = (σ0.1 218 25)) ∧ ((t.2).1 230 = σ0.1 230)) (fun t : Int32 × zS => (1024 - (t.1).toInt).toNat) (fun again57 t hI ih150_57 => ?_) N _ (show Tr [218, 226, 227, 228, 229, 230] σ0 σ56 ∧ (0 ≤ (0 : Int32).toInt) ∧ (TOK σ56.1) ∧ (ZB σ56.1) ∧ (σ56.1 218 7 = (σ0.1 218 7)) ∧ (σ56.1 218 9 = (σ0.1 218 9)) ∧ (σ56.1 218 10 = (σ46.1 218 10)) ∧ (σ56.1 218 11 = (σ46.1 218 11)) ∧ (σ56.1 218 12 = (σ46.1 218 12)) ∧ (σ56.1 218 13 = (σ46.1 218 13)) ∧ (σ56.1 218 14 = (σ0.1 218 14)) ∧ (σ56.1 218 15 = (σ0.1 218 15)) ∧ (σ56.1 218 20 = (σ0.1 218 20)) ∧ (σ56.1 218 22 = (σ0.1 218 22)) ∧ (σ56.1 218 23 = (σ56.1 218 23)) ∧ (σ56.1 218 24 = (σ0.1 218 24)) ∧ (σ56.1 218 25 = (σ0.1 218 25)) ∧ (σ56.1 230 = σ0.1 230) from ⟨hT, (by decide), hK, hB, g7_σ56, g9_σ56, g10_σ56, g11_σ56, g12_σ56, g13_σ56, g14_σ56, g15_σ56, g20_σ56, g22_σ56, rfl, g24_σ56, g25_σ56, r230_σ56⟩) (show (1024 - (0 : Int32).toInt).toNat < N from (by simp only [Int32.reduceToInt]; omega))
            obtain ⟨x4_57, σ57⟩ := t
            have hI : Tr [218, 226, 227, 228, 229, 230] σ0 σ57 ∧ (0 ≤ x4_57.toInt) ∧ (TOK σ57.1) ∧ (ZB σ57.1) ∧ (σ57.1 218 7 = (σ0.1 218 7)) ∧ (σ57.1 218 9 = (σ0.1 218 9)) ∧ (σ57.1 218 10 = (σ46.1 218 10)) ∧ (σ57.1 218 11 = (σ46.1 218 11)) ∧ (σ57.1 218 12 = (σ46.1 218 12)) ∧ (σ57.1 218 13 = (σ46.1 218 13)) ∧ (σ57.1 218 14 = (σ0.1 218 14)) ∧ (σ57.1 218 15 = (σ0.1 218 15)) ∧ (σ57.1 218 20 = (σ0.1 218 20)) ∧ (σ57.1 218 22 = (σ0.1 218 22)) ∧ (σ57.1 218 23 = (σ56.1 218 23)) ∧ (σ57.1 218 24 = (σ0.1 218 24)) ∧ (σ57.1 218 25 = (σ0.1 218 25)) ∧ (σ57.1 230 = σ0.1 230) := hI
            obtain ⟨hT, hI57, hK, hB, g7_σ57, g9_σ57, g10_σ57, g11_σ57, g12_σ57, g13_σ57, g14_σ57, g15_σ57, g20_σ57, g22_σ57, g23_σ57, g24_σ57, g25_σ57, r230_σ57⟩ := hI
            rw [F_X12_readsPart_150.eq_1]
            refine ok_gIv rfl g20_σ57 ?_
            refine ok_if (fun hc59 => ?_) (fun hc59 => ?_)
            · rw [J_X12_readsPart_192.eq_1]
              refine ok_gC rfl ?_
              refine ok_zbX (Q := fun V => (V = 0 → ¬ σ57.1 218 14 = 0) ∧ (¬ V = 0 → σ57.1 218 14 = 0)) (x_X12_good) (fun v60 hqv60 => ?_)
              have hqv60 : (v60 = 0 → ¬ σ57.1 218 14 = 0) ∧ (¬ v60 = 0 → σ57.1 218 14 = 0) := hqv60
              try simp only [g7_σ57, g9_σ57, g10_σ57, g11_σ57, g12_σ57, g13_σ57, g14_σ57, g15_σ57, g20_σ57, g22_σ57, g23_σ57, g24_σ57, g25_σ57, hT.2 224 (by decide)] at hqv60
              refine ok_if (fun hc62 => ?_) (fun hc62 => ?_)
              · have qhc62 := hqv60.1 hc62
                have n196 := qhc62
                have st9 : stp tx n x1 (i, false, (lst (σ0.1 230) (σ0.1 218 22).toInt.toNat), (σ0.1 218 25).toInt.toNat) = none := by first | exact (stp_n h0q k44).trans (if_neg (f51 n196).2) | exact (stp_f h0q k122).trans (by rw [f127 n196]; rfl) | exact stp_z h0q m44 m122 i140.2 | exact absurd hg n196
                exact ok_rZ (Or.inr rfl) ⟨hT, (show (TOK σ57.1 ∧ ((σ0.1 218 11).toInt ≤ (σ57.1 218 11).toInt ∧ 0 ≤ (σ57.1 218 22).toInt ∧ (σ57.1 218 22).toInt ≤ 40) ∧ (σ57.1 218 14 = 0 → (σ0.1 218 11).toInt < (σ57.1 218 11).toInt ∧ ∃ c, stp tx n x1 (i, false, (lst (σ0.1 230) (σ0.1 218 22).toInt.toNat), (σ0.1 218 25).toInt.toNat) = some (some c) ∧ REL σ57.1 tx n c ∧ ((1 : Int32) = 0 ↔ c.2.1 = false)) ∧ (¬ σ57.1 218 14 = 0 → stp tx n x1 (i, false, (lst (σ0.1 230) (σ0.1 218 22).toInt.toNat), (σ0.1 218 25).toInt.toNat) = none) ∧ ZB σ57.1) ∧ (σ57.1 218 7 = σ0.1 218 7 ∧ σ57.1 218 9 = σ0.1 218 9 ∧ σ57.1 218 20 = σ0.1 218 20 ∧ σ57.1 218 25 = σ0.1 218 25) from ⟨by first | exact ⟨hK, ⟨m34.1, m34.2.1⟩, fun q => ⟨(m34.2.2.1 q).1.1, (tkE tx n i, false, decide (tkK tx n i = 40) :: (lst (σ0.1 230) (σ0.1 218 22).toInt.toNat), (σ0.1 218 25).toInt.toNat), (stp_o hpx).trans (if_neg (m34.2.2.1 q).2.1.1), ⟨⟨(m34.2.2.1 q).2.1.2, le1⟩, ⟨by first | exact ((m34.2.2.1 q).2.2.1.trans (by rw [k16]; rfl)).symm | exact ((m34.2.2.1 q).2.2.1.trans (by rw [k7, decide_eq_false (z50 w7.1)]; rfl)).symm, (m34.2.2.1 q).2.2.2⟩, by rw [g25_σ57], fun h => Bool.noConfusion (show false = true from h), fun _ => (m34.2.2.1 q).1.2⟩, ⟨fun _ => rfl, fun _ => rfl⟩⟩, fun q => (stp_o hpx).trans (if_pos (m34.2.2.2 q)), hB⟩ | exact absurd e7 n22 | exact absurd e22 n7 | exact absurd y196 n189 | exact ⟨hK, ⟨by (try simp only [g7_σ57, g9_σ57, g10_σ57, g11_σ57, g12_σ57, g13_σ57, g14_σ57, g15_σ57, g20_σ57, g22_σ57, g23_σ57, g24_σ57, g25_σ57]); omega, by (try simp only [g7_σ57, g9_σ57, g10_σ57, g11_σ57, g12_σ57, g13_σ57, g14_σ57, g15_σ57, g20_σ57, g22_σ57, g23_σ57, g24_σ57, g25_σ57]); omega⟩, fun q => absurd q (by (try simp only [g7_σ57, g9_σ57, g10_σ57, g11_σ57, g12_σ57, g13_σ57, g14_σ57, g15_σ57, g20_σ57, g22_σ57, g23_σ57, g24_σ57, g25_σ57]); exact n196), fun _ => st9, hB⟩ | exact ⟨hK, ⟨by (try simp only [g7_σ57, g9_σ57, g10_σ57, g11_σ57, g12_σ57, g13_σ57, g14_σ57, g15_σ57, g20_σ57, g22_σ57, g23_σ57, g24_σ57, g25_σ57]); omega, by omega⟩, fun _ => ⟨by (try simp only [g7_σ57, g9_σ57, g10_σ57, g11_σ57, g12_σ57, g13_σ57, g14_σ57, g15_σ57, g20_σ57, g22_σ57, g23_σ57, g24_σ57, g25_σ57]); exact ga9, _, st9, ⟨⟨RX_i g9_σ57 g10_σ57 g11_σ57 g12_σ57 g13_σ57 ((hT.2 224 (by decide)).trans tE) nE pK9, le9⟩, ⟨by rw [r230_σ57]; exact l201.2.symm, by rw [r230_σ57]; exact NP_le hNP l201.1⟩, by rw [g25_σ57], fun _ => ⟨h201, popP_i _⟩, fun h => Bool.noConfusion (show true = false from h)⟩, ⟨fun h => absurd h (by decide), fun h => Bool.noConfusion (show true = false from h)⟩⟩, fun q => absurd (by (try simp only [g7_σ57, g9_σ57, g10_σ57, g11_σ57, g12_σ57, g13_σ57, g14_σ57, g15_σ57, g20_σ57, g22_σ57, g23_σ57, g24_σ57, g25_σ57]); exact y196) q, hB⟩, g7_σ57, g9_σ57, g20_σ57, g25_σ57⟩)⟩
              · have qhc62 := hqv60.2 hc62
                have y196 := qhc62
                obtain ⟨P9, st9, pK9, ga9, le9⟩ : ∃ p, stp tx n x1 (i, false, (lst (σ0.1 230) (σ0.1 218 22).toInt.toNat), (σ0.1 218 25).toInt.toNat) = some (some (p, true, popP (lst (σ0.1 230) (σ0.1 218 22).toInt.toNat), (σ0.1 218 25).toInt.toNat)) ∧ TKV (σ46.1 218 11) (σ46.1 218 10) (σ46.1 218 12) (σ46.1 218 13) tx n p ∧ (σ0.1 218 11).toInt < (σ46.1 218 11).toInt ∧ p ≤ n := by first | exact ⟨_, (stp_n h0q k44).trans (if_pos (u51 y196).1.2), (u51 y196).2.2.2, (u51 y196).1.1, le1⟩ | (obtain ⟨j, fj, rj⟩ := (u127 y196).2; exact ⟨j, (stp_f h0q k122).trans (by rw [fj]; rfl), rj.2, (u127 y196).1, fam_le hi fj⟩) | exact ⟨_, stp_a h0q k137.1.1, k137.2.2, k137.1.2, le1⟩ | exact absurd y196 n189
                refine ok_gC rfl ?_
                refine ok_zbT (Q := fun V σ => (TOK σ.1 ∧ ZB σ.1 ∧ PIL σ.1 1 ∧ ((σ.1 218 22).toInt.toNat ≤ (σ57.1 218 22).toInt.toNat ∧ lst (σ57.1 230) (σ.1 218 22).toInt.toNat = popP (lst (σ57.1 230) (σ57.1 218 22).toInt.toNat)) ∧ ((σ.1 218 22).toInt ≤ 0 ∨ (rkI (σ57.1 230 ((σ.1 218 22) - 1).toNatClampNeg)).toInt < (3 : Int32).toInt)) ∧ (σ.1 218 7 = σ57.1 218 7 ∧ σ.1 218 9 = σ57.1 218 9 ∧ σ.1 218 10 = σ57.1 218 10 ∧ σ.1 218 11 = σ57.1 218 11 ∧ σ.1 218 12 = σ57.1 218 12 ∧ σ.1 218 13 = σ57.1 218 13 ∧ σ.1 218 14 = σ57.1 218 14 ∧ σ.1 218 15 = σ57.1 218 15 ∧ σ.1 218 20 = σ57.1 218 20 ∧ σ.1 218 25 = σ57.1 218 25)) hT (s_X12_settlesTo_r hN (hR.tr hT) (hK) (by rw [hT.2 224 (by decide)]; exact hY) (hB) (by (try simp only [g7_σ57, g9_σ57, g10_σ57, g11_σ57, g12_σ57, g13_σ57, g14_σ57, g15_σ57, g20_σ57, g22_σ57, g23_σ57, g24_σ57, g25_σ57]); exact ha) (by first | exact PIL_i g22_σ57 g23_σ57 g24_σ57 r230_σ57 hS h22 hd hd6 s57 | exact absurd y196 n189) (by decide) (by (try simp only [g7_σ57, g9_σ57, g10_σ57, g11_σ57, g12_σ57, g13_σ57, g14_σ57, g15_σ57, g20_σ57, g22_σ57, g23_σ57, g24_σ57, g25_σ57]); rw [r230_σ57]; exact hNP) (Or.inl (by decide))) (by decide) (fun v63 σ64 hOσ64 hT hqv63 => ?_)
                have hqv63 : (TOK σ64.1 ∧ ZB σ64.1 ∧ PIL σ64.1 1 ∧ ((σ64.1 218 22).toInt.toNat ≤ (σ57.1 218 22).toInt.toNat ∧ lst (σ57.1 230) (σ64.1 218 22).toInt.toNat = popP (lst (σ57.1 230) (σ57.1 218 22).toInt.toNat)) ∧ ((σ64.1 218 22).toInt ≤ 0 ∨ (rkI (σ57.1 230 ((σ64.1 218 22) - 1).toNatClampNeg)).toInt < (3 : Int32).toInt)) ∧ (σ64.1 218 7 = σ57.1 218 7 ∧ σ64.1 218 9 = σ57.1 218 9 ∧ σ64.1 218 10 = σ57.1 218 10 ∧ σ64.1 218 11 = σ57.1 218 11 ∧ σ64.1 218 12 = σ57.1 218 12 ∧ σ64.1 218 13 = σ57.1 218 13 ∧ σ64.1 218 14 = σ57.1 218 14 ∧ σ64.1 218 15 = σ57.1 218 15 ∧ σ64.1 218 20 = σ57.1 218 20 ∧ σ64.1 218 25 = σ57.1 218 25) := hqv63
                have hkv63 := hqv63
                have hqv63 := hqv63.1
                have r230_σ64 : σ64.1 230 = σ0.1 230 := (hOσ64.2 230 (by decide)).trans r230_σ57
                have hK : TOK σ64.1 := by first | exact hqv63.1 | exact hqv63.1.1 | exact TOK_p eσ64 (by decide) hK
                have hB : ZB σ64.1 := by first | exact hqv63.2.1 | exact hqv63.2.2.2.2.1 | exact ZB_s eσ64 hB
                try simp only [g7_σ57, g9_σ57, g10_σ57, g11_σ57, g12_σ57, g13_σ57, g14_σ57, g15_σ57, g20_σ57, g22_σ57, g23_σ57, g24_σ57, g25_σ57] at hqv63
                have g7_σ64 : σ64.1 218 7 = (σ0.1 218 7) := (hkv63.2.1).trans g7_σ57
                have g9_σ64 : σ64.1 218 9 = (σ0.1 218 9) := (hkv63.2.2.1).trans g9_σ57
                have g10_σ64 : σ64.1 218 10 = (σ46.1 218 10) := (hkv63.2.2.2.1).trans g10_σ57
                have g11_σ64 : σ64.1 218 11 = (σ46.1 218 11) := (hkv63.2.2.2.2.1).trans g11_σ57
                have g12_σ64 : σ64.1 218 12 = (σ46.1 218 12) := (hkv63.2.2.2.2.2.1).trans g12_σ57
                have g13_σ64 : σ64.1 218 13 = (σ46.1 218 13) := (hkv63.2.2.2.2.2.2.1).trans g13_σ57
                have g14_σ64 : σ64.1 218 14 = (σ0.1 218 14) := (hkv63.2.2.2.2.2.2.2.1).trans g14_σ57
                have g15_σ64 : σ64.1 218 15 = (σ0.1 218 15) := (hkv63.2.2.2.2.2.2.2.2.1).trans g15_σ57
                have g20_σ64 : σ64.1 218 20 = (σ0.1 218 20) := (hkv63.2.2.2.2.2.2.2.2.2.1).trans g20_σ57
                have g25_σ64 : σ64.1 218 25 = (σ0.1 218 25) := (hkv63.2.2.2.2.2.2.2.2.2.2).trans g25_σ57
                have h201 := hqv63.2.2.1
                have b201 := PIL_b hqv63.2.2.1 (by decide)
                have l201 := hqv63.2.2.2.1
                have o201 : σ57.1 230 = σ0.1 230 := (hOσ64.2 230 (by decide)).symm.trans r230_σ64
                rw [o201] at l201
                exact ok_rZ (Or.inr rfl) ⟨hT, (show (TOK σ64.1 ∧ ((σ0.1 218 11).toInt ≤ (σ64.1 218 11).toInt ∧ 0 ≤ (σ64.1 218 22).toInt ∧ (σ64.1 218 22).toInt ≤ 40) ∧ (σ64.1 218 14 = 0 → (σ0.1 218 11).toInt < (σ64.1 218 11).toInt ∧ ∃ c, stp tx n x1 (i, false, (lst (σ0.1 230) (σ0.1 218 22).toInt.toNat), (σ0.1 218 25).toInt.toNat) = some (some c) ∧ REL σ64.1 tx n c ∧ ((1 : Int32) = 0 ↔ c.2.1 = false)) ∧ (¬ σ64.1 218 14 = 0 → stp tx n x1 (i, false, (lst (σ0.1 230) (σ0.1 218 22).toInt.toNat), (σ0.1 218 25).toInt.toNat) = none) ∧ ZB σ64.1) ∧ (σ64.1 218 7 = σ0.1 218 7 ∧ σ64.1 218 9 = σ0.1 218 9 ∧ σ64.1 218 20 = σ0.1 218 20 ∧ σ64.1 218 25 = σ0.1 218 25) from ⟨by first | exact ⟨hK, ⟨m34.1, m34.2.1⟩, fun q => ⟨(m34.2.2.1 q).1.1, (tkE tx n i, false, decide (tkK tx n i = 40) :: (lst (σ0.1 230) (σ0.1 218 22).toInt.toNat), (σ0.1 218 25).toInt.toNat), (stp_o hpx).trans (if_neg (m34.2.2.1 q).2.1.1), ⟨⟨(m34.2.2.1 q).2.1.2, le1⟩, ⟨by first | exact ((m34.2.2.1 q).2.2.1.trans (by rw [k16]; rfl)).symm | exact ((m34.2.2.1 q).2.2.1.trans (by rw [k7, decide_eq_false (z50 w7.1)]; rfl)).symm, (m34.2.2.1 q).2.2.2⟩, by rw [g25_σ64], fun h => Bool.noConfusion (show false = true from h), fun _ => (m34.2.2.1 q).1.2⟩, ⟨fun _ => rfl, fun _ => rfl⟩⟩, fun q => (stp_o hpx).trans (if_pos (m34.2.2.2 q)), hB⟩ | exact absurd e7 n22 | exact absurd e22 n7 | exact absurd y196 n189 | exact ⟨hK, ⟨by (try simp only [g7_σ64, g9_σ64, g10_σ64, g11_σ64, g12_σ64, g13_σ64, g14_σ64, g15_σ64, g20_σ64, g25_σ64]); omega, by (try simp only [g7_σ64, g9_σ64, g10_σ64, g11_σ64, g12_σ64, g13_σ64, g14_σ64, g15_σ64, g20_σ64, g25_σ64]); omega⟩, fun q => absurd q (by (try simp only [g7_σ64, g9_σ64, g10_σ64, g11_σ64, g12_σ64, g13_σ64, g14_σ64, g15_σ64, g20_σ64, g25_σ64]); exact n196), fun _ => st9, hB⟩ | exact ⟨hK, ⟨by (try simp only [g7_σ64, g9_σ64, g10_σ64, g11_σ64, g12_σ64, g13_σ64, g14_σ64, g15_σ64, g20_σ64, g25_σ64]); omega, by omega⟩, fun _ => ⟨by (try simp only [g7_σ64, g9_σ64, g10_σ64, g11_σ64, g12_σ64, g13_σ64, g14_σ64, g15_σ64, g20_σ64, g25_σ64]); exact ga9, _, st9, ⟨⟨RX_i g9_σ64 g10_σ64 g11_σ64 g12_σ64 g13_σ64 ((hT.2 224 (by decide)).trans tE) nE pK9, le9⟩, ⟨by rw [r230_σ64]; exact l201.2.symm, by rw [r230_σ64]; exact NP_le hNP l201.1⟩, by rw [g25_σ64], fun _ => ⟨h201, popP_i _⟩, fun h => Bool.noConfusion (show true = false from h)⟩, ⟨fun h => absurd h (by decide), fun h => Bool.noConfusion (show true = false from h)⟩⟩, fun q => absurd (by (try simp only [g7_σ64, g9_σ64, g10_σ64, g11_σ64, g12_σ64, g13_σ64, g14_σ64, g15_σ64, g20_σ64, g25_σ64]); exact y196) q, hB⟩, g7_σ64, g9_σ64, g20_σ64, g25_σ64⟩)⟩
            · have l68 := hc59
              rw [Int32.le_iff_toInt_le] at l68
              try simp only [Int32.reduceToInt] at l68
              have s68 : (x4_57 + 1).toInt = x4_57.toInt + 1 := by rw [ti_add]; simp only [Int32.reduceToInt]; omega
              refine ok_gR (v := 226) hT rfl (hR 218 16 rfl) ?_
              refine ok_gIv rfl g23_σ57 ?_
              refine ok_s16 hT rfl (by decide) (by rw [ti_add, m57]; omega) (by rw [ti_add, m57]; omega) (fun σ67 eσ67 hOσ67 hT => ?_)
              have r230_σ67 : σ67.1 230 = σ0.1 230 := (hOσ67.2 230 (by decide)).trans r230_σ57
              have hK : TOK σ67.1 := TOK_tr hOσ67 (by decide) (by decide) hK
              have hB : ZB σ67.1 := by first | exact HQ.2.1 | exact HQ.2.2.2.2.1 | exact ZB_s eσ67 hB
              have g7_σ67 : σ67.1 218 7 = (σ0.1 218 7) := (congrFun (hOσ67.2 218 (by decide)) 7).trans g7_σ57
              have g9_σ67 : σ67.1 218 9 = (σ0.1 218 9) := (congrFun (hOσ67.2 218 (by decide)) 9).trans g9_σ57
              have g10_σ67 : σ67.1 218 10 = (σ46.1 218 10) := (congrFun (hOσ67.2 218 (by decide)) 10).trans g10_σ57
              have g11_σ67 : σ67.1 218 11 = (σ46.1 218 11) := (congrFun (hOσ67.2 218 (by decide)) 11).trans g11_σ57
              have g12_σ67 : σ67.1 218 12 = (σ46.1 218 12) := (congrFun (hOσ67.2 218 (by decide)) 12).trans g12_σ57
              have g13_σ67 : σ67.1 218 13 = (σ46.1 218 13) := (congrFun (hOσ67.2 218 (by decide)) 13).trans g13_σ57
              have g14_σ67 : σ67.1 218 14 = (σ0.1 218 14) := (congrFun (hOσ67.2 218 (by decide)) 14).trans g14_σ57
              have g15_σ67 : σ67.1 218 15 = (σ0.1 218 15) := (congrFun (hOσ67.2 218 (by decide)) 15).trans g15_σ57
              have g20_σ67 : σ67.1 218 20 = (σ0.1 218 20) := (congrFun (hOσ67.2 218 (by decide)) 20).trans g20_σ57
              have g22_σ67 : σ67.1 218 22 = (σ0.1 218 22) := (congrFun (hOσ67.2 218 (by decide)) 22).trans g22_σ57
              have g23_σ67 : σ67.1 218 23 = (σ56.1 218 23) := (congrFun (hOσ67.2 218 (by decide)) 23).trans g23_σ57
              have g24_σ67 : σ67.1 218 24 = (σ0.1 218 24) := (congrFun (hOσ67.2 218 (by decide)) 24).trans g24_σ57
              have g25_σ67 : σ67.1 218 25 = (σ0.1 218 25) := (congrFun (hOσ67.2 218 (by decide)) 25).trans g25_σ57
              exact ih150_57 (x4_57 + 1, σ67) (show Tr [218, 226, 227, 228, 229, 230] σ0 σ67 ∧ (0 ≤ (x4_57 + 1).toInt) ∧ (TOK σ67.1) ∧ (ZB σ67.1) ∧ (σ67.1 218 7 = (σ0.1 218 7)) ∧ (σ67.1 218 9 = (σ0.1 218 9)) ∧ (σ67.1 218 10 = (σ46.1 218 10)) ∧ (σ67.1 218 11 = (σ46.1 218 11)) ∧ (σ67.1 218 12 = (σ46.1 218 12)) ∧ (σ67.1 218 13 = (σ46.1 218 13)) ∧ (σ67.1 218 14 = (σ0.1 218 14)) ∧ (σ67.1 218 15 = (σ0.1 218 15)) ∧ (σ67.1 218 20 = (σ0.1 218 20)) ∧ (σ67.1 218 22 = (σ0.1 218 22)) ∧ (σ67.1 218 23 = (σ56.1 218 23)) ∧ (σ67.1 218 24 = (σ0.1 218 24)) ∧ (σ67.1 218 25 = (σ0.1 218 25)) ∧ (σ67.1 230 = σ0.1 230) from ⟨hT, (by rw [s68]; omega), hK, hB, g7_σ67, g9_σ67, g10_σ67, g11_σ67, g12_σ67, g13_σ67, g14_σ67, g15_σ67, g20_σ67, g22_σ67, g23_σ67, g24_σ67, g25_σ67, r230_σ67⟩) (show (1024 - (x4_57 + 1).toInt).toNat < (1024 - x4_57.toInt).toNat from (by rw [s68]; omega))
  · have n7 := hc3
    have w7 := hqv1.resolve_left (fun q => hc3 q.1)
    have k7 : tkK tx n i = 1 := by obtain ⟨k, _, hw⟩ := w7.2; exact hw.1
    rw [J_X12_readsPart_19.eq_1]
    refine ok_if (fun hc68 => ?_) (fun hc68 => ?_)
    · have e22 := hc68
      refine ok_gC rfl ?_
      refine ok_zbT (Q := fun V σ => (TOK σ.1 ∧ (σ0.1 218 11).toInt ≤ (σ.1 218 11).toInt ∧ (0 ≤ (σ.1 218 22).toInt ∧ (σ.1 218 22).toInt ≤ 40) ∧ (σ.1 218 14 = 0 → ((σ0.1 218 11).toInt < (σ.1 218 11).toInt ∧ PIL σ.1 0) ∧ (¬ (lst (σ0.1 230) (σ0.1 218 22).toInt.toNat).length = 6 ∧ RX σ.1 tx n (tkE tx n i)) ∧ lst (σ.1 230) (σ.1 218 22).toInt.toNat = decide ((100 : Int32) = 100) :: (lst (σ0.1 230) (σ0.1 218 22).toInt.toNat) ∧ NP (σ.1 230) (σ.1 218 22).toInt.toNat) ∧ (¬ σ.1 218 14 = 0 → (lst (σ0.1 230) (σ0.1 218 22).toInt.toNat).length = 6)) ∧ (σ.1 218 7 = σ0.1 218 7 ∧ σ.1 218 9 = σ0.1 218 9 ∧ σ.1 218 20 = σ0.1 218 20 ∧ σ.1 218 23 = σ0.1 218 23 ∧ σ.1 218 25 = σ0.1 218 25)) hT (s_X12_opens_r hN (hR.tr hT) (hK) (by rw [hT.2 224 (by decide)]; exact hY) (RX_i rfl rfl rfl rfl rfl ((hT.2 224 (by decide)).trans tE) nE pK) (hg) (hP) (by first | decide | (have w8 := w7.1; rw [ti_add]; simp only [Int32.reduceToInt]; omega) | exact absurd e7 n22) (by first | (rw [pK.2.1, k7]; decide) | (rw [e16]; decide)) (hNP)) (by decide) (fun v69 σ70 hOσ70 hT hqv69 => ?_)
      have hqv69 : (TOK σ70.1 ∧ (σ0.1 218 11).toInt ≤ (σ70.1 218 11).toInt ∧ (0 ≤ (σ70.1 218 22).toInt ∧ (σ70.1 218 22).toInt ≤ 40) ∧ (σ70.1 218 14 = 0 → ((σ0.1 218 11).toInt < (σ70.1 218 11).toInt ∧ PIL σ70.1 0) ∧ (¬ (lst (σ0.1 230) (σ0.1 218 22).toInt.toNat).length = 6 ∧ RX σ70.1 tx n (tkE tx n i)) ∧ lst (σ70.1 230) (σ70.1 218 22).toInt.toNat = decide ((100 : Int32) = 100) :: (lst (σ0.1 230) (σ0.1 218 22).toInt.toNat) ∧ NP (σ70.1 230) (σ70.1 218 22).toInt.toNat) ∧ (¬ σ70.1 218 14 = 0 → (lst (σ0.1 230) (σ0.1 218 22).toInt.toNat).length = 6)) ∧ (σ70.1 218 7 = σ0.1 218 7 ∧ σ70.1 218 9 = σ0.1 218 9 ∧ σ70.1 218 20 = σ0.1 218 20 ∧ σ70.1 218 23 = σ0.1 218 23 ∧ σ70.1 218 25 = σ0.1 218 25) := hqv69
      have hkv69 := hqv69
      have hqv69 := hqv69.1
      have hK : TOK σ70.1 := by first | exact hqv69.1 | exact hqv69.1.1 | exact TOK_p eσ70 (by decide) hK
      have hB : ZB σ70.1 := ZB.tr hOσ70 (by decide) hB
      have g7_σ70 : σ70.1 218 7 = (σ0.1 218 7) := hkv69.2.1
      have g9_σ70 : σ70.1 218 9 = (σ0.1 218 9) := hkv69.2.2.1
      have g20_σ70 : σ70.1 218 20 = (σ0.1 218 20) := hkv69.2.2.2.1
      have g23_σ70 : σ70.1 218 23 = (σ0.1 218 23) := hkv69.2.2.2.2.1
      have g25_σ70 : σ70.1 218 25 = (σ0.1 218 25) := hkv69.2.2.2.2.2
      have m34 := hqv69.2
      have hpx : isPx tx n i ∨ tkK tx n i = 40 := by first | exact Or.inl w7.2 | exact Or.inr k16
      exact ok_rZ (Or.inl rfl) ⟨hT, (show (TOK σ70.1 ∧ ((σ0.1 218 11).toInt ≤ (σ70.1 218 11).toInt ∧ 0 ≤ (σ70.1 218 22).toInt ∧ (σ70.1 218 22).toInt ≤ 40) ∧ (σ70.1 218 14 = 0 → (σ0.1 218 11).toInt < (σ70.1 218 11).toInt ∧ ∃ c, stp tx n x1 (i, false, (lst (σ0.1 230) (σ0.1 218 22).toInt.toNat), (σ0.1 218 25).toInt.toNat) = some (some c) ∧ REL σ70.1 tx n c ∧ ((0 : Int32) = 0 ↔ c.2.1 = false)) ∧ (¬ σ70.1 218 14 = 0 → stp tx n x1 (i, false, (lst (σ0.1 230) (σ0.1 218 22).toInt.toNat), (σ0.1 218 25).toInt.toNat) = none) ∧ ZB σ70.1) ∧ (σ70.1 218 7 = σ0.1 218 7 ∧ σ70.1 218 9 = σ0.1 218 9 ∧ σ70.1 218 20 = σ0.1 218 20 ∧ σ70.1 218 25 = σ0.1 218 25) from ⟨by first | exact ⟨hK, ⟨m34.1, m34.2.1⟩, fun q => ⟨(m34.2.2.1 q).1.1, (tkE tx n i, false, decide (tkK tx n i = 40) :: (lst (σ0.1 230) (σ0.1 218 22).toInt.toNat), (σ0.1 218 25).toInt.toNat), (stp_o hpx).trans (if_neg (m34.2.2.1 q).2.1.1), ⟨⟨(m34.2.2.1 q).2.1.2, le1⟩, ⟨by first | exact ((m34.2.2.1 q).2.2.1.trans (by rw [k16]; rfl)).symm | exact ((m34.2.2.1 q).2.2.1.trans (by rw [k7, decide_eq_false (z50 w7.1)]; rfl)).symm, (m34.2.2.1 q).2.2.2⟩, by rw [g25_σ70], fun h => Bool.noConfusion (show false = true from h), fun _ => (m34.2.2.1 q).1.2⟩, ⟨fun _ => rfl, fun _ => rfl⟩⟩, fun q => (stp_o hpx).trans (if_pos (m34.2.2.2 q)), hB⟩ | exact absurd e7 n22 | exact absurd e22 n7 | exact absurd y196 n189 | exact ⟨hK, ⟨by (try simp only [g7_σ70, g9_σ70, g20_σ70, g23_σ70, g25_σ70]); omega, by (try simp only [g7_σ70, g9_σ70, g20_σ70, g23_σ70, g25_σ70]); omega⟩, fun q => absurd q (by (try simp only [g7_σ70, g9_σ70, g20_σ70, g23_σ70, g25_σ70]); exact n196), fun _ => st9, hB⟩ | exact ⟨hK, ⟨by (try simp only [g7_σ70, g9_σ70, g20_σ70, g23_σ70, g25_σ70]); omega, by omega⟩, fun _ => ⟨by (try simp only [g7_σ70, g9_σ70, g20_σ70, g23_σ70, g25_σ70]); exact ga9, _, st9, ⟨⟨RX_i g9_σ70 rfl rfl rfl rfl ((hT.2 224 (by decide)).trans tE) nE pK9, le9⟩, ⟨by rw [rfl]; exact l201.2.symm, by rw [rfl]; exact NP_le hNP l201.1⟩, by rw [g25_σ70], fun _ => ⟨h201, popP_i _⟩, fun h => Bool.noConfusion (show true = false from h)⟩, ⟨fun h => absurd h (by decide), fun h => Bool.noConfusion (show true = false from h)⟩⟩, fun q => absurd (by (try simp only [g7_σ70, g9_σ70, g20_σ70, g23_σ70, g25_σ70]); exact y196) q, hB⟩, g7_σ70, g9_σ70, g20_σ70, g25_σ70⟩)⟩
    · have n22 := hc68
      refine ok_gC rfl ?_
      refine ok_zbT (Q := fun V σ => (TOK σ.1 ∧ (σ0.1 218 11).toInt ≤ (σ.1 218 11).toInt ∧ (0 ≤ (σ.1 218 22).toInt ∧ (σ.1 218 22).toInt ≤ 40) ∧ (σ.1 218 14 = 0 → ((σ0.1 218 11).toInt < (σ.1 218 11).toInt ∧ PIL σ.1 0) ∧ (¬ (lst (σ0.1 230) (σ0.1 218 22).toInt.toNat).length = 6 ∧ RX σ.1 tx n (tkE tx n i)) ∧ lst (σ.1 230) (σ.1 218 22).toInt.toNat = decide ((50 + v1) = 100) :: (lst (σ0.1 230) (σ0.1 218 22).toInt.toNat) ∧ NP (σ.1 230) (σ.1 218 22).toInt.toNat) ∧ (¬ σ.1 218 14 = 0 → (lst (σ0.1 230) (σ0.1 218 22).toInt.toNat).length = 6)) ∧ (σ.1 218 7 = σ0.1 218 7 ∧ σ.1 218 9 = σ0.1 218 9 ∧ σ.1 218 20 = σ0.1 218 20 ∧ σ.1 218 23 = σ0.1 218 23 ∧ σ.1 218 25 = σ0.1 218 25)) hT (s_X12_opens_r hN (hR.tr hT) (hK) (by rw [hT.2 224 (by decide)]; exact hY) (RX_i rfl rfl rfl rfl rfl ((hT.2 224 (by decide)).trans tE) nE pK) (hg) (hP) (by first | decide | (have w8 := w7.1; rw [ti_add]; simp only [Int32.reduceToInt]; omega) | exact absurd e7 n22) (by first | (rw [pK.2.1, k7]; decide) | (rw [e16]; decide)) (hNP)) (by decide) (fun v71 σ72 hOσ72 hT hqv71 => ?_)
      have hqv71 : (TOK σ72.1 ∧ (σ0.1 218 11).toInt ≤ (σ72.1 218 11).toInt ∧ (0 ≤ (σ72.1 218 22).toInt ∧ (σ72.1 218 22).toInt ≤ 40) ∧ (σ72.1 218 14 = 0 → ((σ0.1 218 11).toInt < (σ72.1 218 11).toInt ∧ PIL σ72.1 0) ∧ (¬ (lst (σ0.1 230) (σ0.1 218 22).toInt.toNat).length = 6 ∧ RX σ72.1 tx n (tkE tx n i)) ∧ lst (σ72.1 230) (σ72.1 218 22).toInt.toNat = decide ((50 + v1) = 100) :: (lst (σ0.1 230) (σ0.1 218 22).toInt.toNat) ∧ NP (σ72.1 230) (σ72.1 218 22).toInt.toNat) ∧ (¬ σ72.1 218 14 = 0 → (lst (σ0.1 230) (σ0.1 218 22).toInt.toNat).length = 6)) ∧ (σ72.1 218 7 = σ0.1 218 7 ∧ σ72.1 218 9 = σ0.1 218 9 ∧ σ72.1 218 20 = σ0.1 218 20 ∧ σ72.1 218 23 = σ0.1 218 23 ∧ σ72.1 218 25 = σ0.1 218 25) := hqv71
      have hkv71 := hqv71
      have hqv71 := hqv71.1
      have hK : TOK σ72.1 := by first | exact hqv71.1 | exact hqv71.1.1 | exact TOK_p eσ72 (by decide) hK
      have hB : ZB σ72.1 := ZB.tr hOσ72 (by decide) hB
      have g7_σ72 : σ72.1 218 7 = (σ0.1 218 7) := hkv71.2.1
      have g9_σ72 : σ72.1 218 9 = (σ0.1 218 9) := hkv71.2.2.1
      have g20_σ72 : σ72.1 218 20 = (σ0.1 218 20) := hkv71.2.2.2.1
      have g23_σ72 : σ72.1 218 23 = (σ0.1 218 23) := hkv71.2.2.2.2.1
      have g25_σ72 : σ72.1 218 25 = (σ0.1 218 25) := hkv71.2.2.2.2.2
      have m34 := hqv71.2
      have hpx : isPx tx n i ∨ tkK tx n i = 40 := by first | exact Or.inl w7.2 | exact Or.inr k16
      exact ok_rZ (Or.inl rfl) ⟨hT, (show (TOK σ72.1 ∧ ((σ0.1 218 11).toInt ≤ (σ72.1 218 11).toInt ∧ 0 ≤ (σ72.1 218 22).toInt ∧ (σ72.1 218 22).toInt ≤ 40) ∧ (σ72.1 218 14 = 0 → (σ0.1 218 11).toInt < (σ72.1 218 11).toInt ∧ ∃ c, stp tx n x1 (i, false, (lst (σ0.1 230) (σ0.1 218 22).toInt.toNat), (σ0.1 218 25).toInt.toNat) = some (some c) ∧ REL σ72.1 tx n c ∧ ((0 : Int32) = 0 ↔ c.2.1 = false)) ∧ (¬ σ72.1 218 14 = 0 → stp tx n x1 (i, false, (lst (σ0.1 230) (σ0.1 218 22).toInt.toNat), (σ0.1 218 25).toInt.toNat) = none) ∧ ZB σ72.1) ∧ (σ72.1 218 7 = σ0.1 218 7 ∧ σ72.1 218 9 = σ0.1 218 9 ∧ σ72.1 218 20 = σ0.1 218 20 ∧ σ72.1 218 25 = σ0.1 218 25) from ⟨by first | exact ⟨hK, ⟨m34.1, m34.2.1⟩, fun q => ⟨(m34.2.2.1 q).1.1, (tkE tx n i, false, decide (tkK tx n i = 40) :: (lst (σ0.1 230) (σ0.1 218 22).toInt.toNat), (σ0.1 218 25).toInt.toNat), (stp_o hpx).trans (if_neg (m34.2.2.1 q).2.1.1), ⟨⟨(m34.2.2.1 q).2.1.2, le1⟩, ⟨by first | exact ((m34.2.2.1 q).2.2.1.trans (by rw [k16]; rfl)).symm | exact ((m34.2.2.1 q).2.2.1.trans (by rw [k7, decide_eq_false (z50 w7.1)]; rfl)).symm, (m34.2.2.1 q).2.2.2⟩, by rw [g25_σ72], fun h => Bool.noConfusion (show false = true from h), fun _ => (m34.2.2.1 q).1.2⟩, ⟨fun _ => rfl, fun _ => rfl⟩⟩, fun q => (stp_o hpx).trans (if_pos (m34.2.2.2 q)), hB⟩ | exact absurd e7 n22 | exact absurd e22 n7 | exact absurd y196 n189 | exact ⟨hK, ⟨by (try simp only [g7_σ72, g9_σ72, g20_σ72, g23_σ72, g25_σ72]); omega, by (try simp only [g7_σ72, g9_σ72, g20_σ72, g23_σ72, g25_σ72]); omega⟩, fun q => absurd q (by (try simp only [g7_σ72, g9_σ72, g20_σ72, g23_σ72, g25_σ72]); exact n196), fun _ => st9, hB⟩ | exact ⟨hK, ⟨by (try simp only [g7_σ72, g9_σ72, g20_σ72, g23_σ72, g25_σ72]); omega, by omega⟩, fun _ => ⟨by (try simp only [g7_σ72, g9_σ72, g20_σ72, g23_σ72, g25_σ72]); exact ga9, _, st9, ⟨⟨RX_i g9_σ72 rfl rfl rfl rfl ((hT.2 224 (by decide)).trans tE) nE pK9, le9⟩, ⟨by rw [rfl]; exact l201.2.symm, by rw [rfl]; exact NP_le hNP l201.1⟩, by rw [g25_σ72], fun _ => ⟨h201, popP_i _⟩, fun h => Bool.noConfusion (show true = false from h)⟩, ⟨fun h => absurd h (by decide), fun h => Bool.noConfusion (show true = false from h)⟩⟩, fun q => absurd (by (try simp only [g7_σ72, g9_σ72, g20_σ72, g23_σ72, g25_σ72]); exact y196) q, hB⟩, g7_σ72, g9_σ72, g20_σ72, g25_σ72⟩)⟩

section Zq12_0
set_option maxHeartbeats 4000000 in
set_option maxRecDepth 100000 in
theorem s_X12_readsSum_220_r {N : Nat} (hN : 1048576 ≤ N) {x1 : Int32} {σ0 : zS} {tx : Nat → Int32} {n i : Nat} (hR : RF σ0.2.2) (hK : TOK σ0.1) (hY : BYT (σ0.1 224)) (hG : RX σ0.1 tx n i) (hg : σ0.1 218 14 = 0) (hB : ZB σ0.1) (hn : 0 ≤ x1.toInt ∧ x1.toInt ≤ 10) (hi : i ≤ n) (hs25 : 0 ≤ (σ0.1 218 25).toInt ∧ (σ0.1 218 25).toInt ≤ 24) : Ok (f_X12_readsSum N 218 x1 220 σ0) (fun r => Tr [218, 226, 227, 228, 229, 230] σ0 r.2 ∧ ((TOK r.2.1 ∧ (σ0.1 218 11).toInt ≤ (r.2.1 218 11).toInt ∧ (r.2.1 218 14 = 0 → ∃ c : Cf, (Rch tx n x1 ((i, false, [], (σ0.1 218 25).toInt.toNat) : Cf) c ∧ stp tx n x1 c = some none ∧ ¬ true ∈ c.2.2.1) ∧ (RX r.2.1 tx n c.1 ∧ c.1 ≤ n) ∧ c.2.2.2 = (r.2.1 218 25).toInt.toNat) ∧ (¬ r.2.1 218 14 = 0 → ∃ c : Cf, Rch tx n x1 ((i, false, [], (σ0.1 218 25).toInt.toNat) : Cf) c ∧ (stp tx n x1 c = none ∨ (stp tx n x1 c = some none ∧ true ∈ c.2.2.1))) ∧ (0 ≤ (r.2.1 218 25).toInt ∧ (r.2.1 218 25).toInt ≤ 24) ∧ ZB r.2.1) ∧ (r.2.1 218 7 = σ0.1 218 7 ∧ r.2.1 218 9 = σ0.1 218 9))) := by
  have hT : Tr [218, 226, 227, 228, 229, 230] σ0 σ0 := Tr.rf
  have hK1 := hK.1
  have tE : σ0.1 224 = tx := hG.1.1
  have nE : (σ0.1 218 9).toInt.toNat = n := hG.1.2
  have pK : TKV (σ0.1 218 11) (σ0.1 218 10) (σ0.1 218 12) (σ0.1 218 13) tx n i := hG.2
  have a20 := ti_one10 hn.1 hn.2
  rw [f_X12_readsSum.eq_1]
  refine ok_pI hT rfl (by decide) (fun σ1 eσ1 hOσ1 hT => ?_)
  have hK : TOK σ1.1 := by first | exact HQ.1 | exact HQ.1.1 | exact TOK_p eσ1 (by decide) hK
  have hB : ZB σ1.1 := ZB.tr hOσ1 (by decide) hB
  have g7_σ1 : σ1.1 218 7 = (σ0.1 218 7) := zI_atN eσ1 (by decide)
  have g9_σ1 : σ1.1 218 9 = (σ0.1 218 9) := zI_atN eσ1 (by decide)
  have g10_σ1 : σ1.1 218 10 = (σ0.1 218 10) := zI_atN eσ1 (by decide)
  have g11_σ1 : σ1.1 218 11 = (σ0.1 218 11) := zI_atN eσ1 (by decide)
  have g12_σ1 : σ1.1 218 12 = (σ0.1 218 12) := zI_atN eσ1 (by decide)
  have g13_σ1 : σ1.1 218 13 = (σ0.1 218 13) := zI_atN eσ1 (by decide)
  have g14_σ1 : σ1.1 218 14 = (σ0.1 218 14) := zI_atN eσ1 (by decide)
  have g15_σ1 : σ1.1 218 15 = (σ0.1 218 15) := zI_atN eσ1 (by decide)
  have g20_σ1 : σ1.1 218 20 = ((1 : Int32) <<< (x1 &&& 31)) := zI_atI eσ1
  have g22_σ1 : σ1.1 218 22 = (σ0.1 218 22) := zI_atN eσ1 (by decide)
  have g23_σ1 : σ1.1 218 23 = (σ0.1 218 23) := zI_atN eσ1 (by decide)
  have g24_σ1 : σ1.1 218 24 = (σ0.1 218 24) := zI_atN eσ1 (by decide)
  have g25_σ1 : σ1.1 218 25 = (σ0.1 218 25) := zI_atN eσ1 (by decide)
  refine ok_pI hT rfl (by decide) (fun σ2 eσ2 hOσ2 hT => ?_)
  have hK : TOK σ2.1 := by first | exact HQ.1 | exact HQ.1.1 | exact TOK_p eσ2 (by decide) hK
  have hB : ZB σ2.1 := ZB.tr hOσ2 (by decide) hB
  have g7_σ2 : σ2.1 218 7 = (σ0.1 218 7) := (zI_atN eσ2 (by decide)).trans g7_σ1
  have g9_σ2 : σ2.1 218 9 = (σ0.1 218 9) := (zI_atN eσ2 (by decide)).trans g9_σ1
  have g10_σ2 : σ2.1 218 10 = (σ0.1 218 10) := (zI_atN eσ2 (by decide)).trans g10_σ1
  have g11_σ2 : σ2.1 218 11 = (σ0.1 218 11) := (zI_atN eσ2 (by decide)).trans g11_σ1
  have g12_σ2 : σ2.1 218 12 = (σ0.1 218 12) := (zI_atN eσ2 (by decide)).trans g12_σ1
  have g13_σ2 : σ2.1 218 13 = (σ0.1 218 13) := (zI_atN eσ2 (by decide)).trans g13_σ1
  have g14_σ2 : σ2.1 218 14 = (σ0.1 218 14) := (zI_atN eσ2 (by decide)).trans g14_σ1
  have g15_σ2 : σ2.1 218 15 = (σ0.1 218 15) := (zI_atN eσ2 (by decide)).trans g15_σ1
  have g20_σ2 : σ2.1 218 20 = ((1 : Int32) <<< (x1 &&& 31)) := (zI_atN eσ2 (by decide)).trans g20_σ1
  have g22_σ2 : σ2.1 218 22 = (0 : Int32) := zI_atI eσ2
  have g23_σ2 : σ2.1 218 23 = (σ0.1 218 23) := (zI_atN eσ2 (by decide)).trans g23_σ1
  have g24_σ2 : σ2.1 218 24 = (σ0.1 218 24) := (zI_atN eσ2 (by decide)).trans g24_σ1
  have g25_σ2 : σ2.1 218 25 = (σ0.1 218 25) := (zI_atN eσ2 (by decide)).trans g25_σ1
  refine ok_pI hT rfl (by decide) (fun σ3 eσ3 hOσ3 hT => ?_)
  have hK : TOK σ3.1 := by first | exact HQ.1 | exact HQ.1.1 | exact TOK_p eσ3 (by decide) hK
  have hB : ZB σ3.1 := ZB.tr hOσ3 (by decide) hB
  have g7_σ3 : σ3.1 218 7 = (σ0.1 218 7) := (zI_atN eσ3 (by decide)).trans g7_σ2
  have g9_σ3 : σ3.1 218 9 = (σ0.1 218 9) := (zI_atN eσ3 (by decide)).trans g9_σ2
  have g10_σ3 : σ3.1 218 10 = (σ0.1 218 10) := (zI_atN eσ3 (by decide)).trans g10_σ2
  have g11_σ3 : σ3.1 218 11 = (σ0.1 218 11) := (zI_atN eσ3 (by decide)).trans g11_σ2
  have g12_σ3 : σ3.1 218 12 = (σ0.1 218 12) := (zI_atN eσ3 (by decide)).trans g12_σ2
  have g13_σ3 : σ3.1 218 13 = (σ0.1 218 13) := (zI_atN eσ3 (by decide)).trans g13_σ2
  have g14_σ3 : σ3.1 218 14 = (σ0.1 218 14) := (zI_atN eσ3 (by decide)).trans g14_σ2
  have g15_σ3 : σ3.1 218 15 = (σ0.1 218 15) := (zI_atN eσ3 (by decide)).trans g15_σ2
  have g20_σ3 : σ3.1 218 20 = ((1 : Int32) <<< (x1 &&& 31)) := (zI_atN eσ3 (by decide)).trans g20_σ2
  have g22_σ3 : σ3.1 218 22 = (0 : Int32) := (zI_atN eσ3 (by decide)).trans g22_σ2
  have g23_σ3 : σ3.1 218 23 = (0 : Int32) := zI_atI eσ3
  have g24_σ3 : σ3.1 218 24 = (σ0.1 218 24) := (zI_atN eσ3 (by decide)).trans g24_σ2
  have g25_σ3 : σ3.1 218 25 = (σ0.1 218 25) := (zI_atN eσ3 (by decide)).trans g25_σ2
  refine ok_pI hT rfl (by decide) (fun σ4 eσ4 hOσ4 hT => ?_)
  have hK : TOK σ4.1 := by first | exact HQ.1 | exact HQ.1.1 | exact TOK_p eσ4 (by decide) hK
  have hB : ZB σ4.1 := ZB.tr hOσ4 (by decide) hB
  have g7_σ4 : σ4.1 218 7 = (σ0.1 218 7) := (zI_atN eσ4 (by decide)).trans g7_σ3
  have g9_σ4 : σ4.1 218 9 = (σ0.1 218 9) := (zI_atN eσ4 (by decide)).trans g9_σ3
  have g10_σ4 : σ4.1 218 10 = (σ0.1 218 10) := (zI_atN eσ4 (by decide)).trans g10_σ3
  have g11_σ4 : σ4.1 218 11 = (σ0.1 218 11) := (zI_atN eσ4 (by decide)).trans g11_σ3
  have g12_σ4 : σ4.1 218 12 = (σ0.1 218 12) := (zI_atN eσ4 (by decide)).trans g12_σ3
  have g13_σ4 : σ4.1 218 13 = (σ0.1 218 13) := (zI_atN eσ4 (by decide)).trans g13_σ3
  have g14_σ4 : σ4.1 218 14 = (σ0.1 218 14) := (zI_atN eσ4 (by decide)).trans g14_σ3
  have g15_σ4 : σ4.1 218 15 = (σ0.1 218 15) := (zI_atN eσ4 (by decide)).trans g15_σ3
  have g20_σ4 : σ4.1 218 20 = ((1 : Int32) <<< (x1 &&& 31)) := (zI_atN eσ4 (by decide)).trans g20_σ3
  have g22_σ4 : σ4.1 218 22 = (0 : Int32) := (zI_atN eσ4 (by decide)).trans g22_σ3
  have g23_σ4 : σ4.1 218 23 = (0 : Int32) := (zI_atN eσ4 (by decide)).trans g23_σ3
  have g24_σ4 : σ4.1 218 24 = (0 : Int32) := zI_atI eσ4
  have g25_σ4 : σ4.1 218 25 = (σ0.1 218 25) := (zI_atN eσ4 (by decide)).trans g25_σ3
  have hPP : PIL σ4.1 0 := PIL_i (b := 0) (d := 0) (r := 0) g22_σ4 g23_σ4 g24_σ4 rfl (by rw [show (0 : Int32).toInt.toNat = 0 by decide]; exact ⟨rfl, rfl, rfl⟩) (by decide) (by decide) (by decide) (by decide)
  have rel0 : REL σ4.1 tx n ((i, false, [], (σ0.1 218 25).toInt.toNat) : Cf) := ⟨⟨RX_i g9_σ4 g10_σ4 g11_σ4 g12_σ4 g13_σ4 ((hT.2 224 (by decide)).trans tE) nE pK, hi⟩, ⟨by rw [g22_σ4]; rfl, by rw [g22_σ4]; exact trivial⟩, by rw [g25_σ4], fun h => Bool.noConfusion (show false = true from h), fun _ => hPP⟩
  refine ok_lp (fun t : Int32 × Int32 × zS => Tr [218, 226, 227, 228, 229, 230] σ0 (t.2.2) ∧ ((((σ0.1 218 11).toInt ≤ ((t.2.2).1 218 11).toInt ∧ 0 ≤ ((t.2.2).1 218 22).toInt ∧ ((t.2.2).1 218 22).toInt ≤ 40) ∧ 0 ≤ ((t.2.2).1 218 25).toInt ∧ ((t.2.2).1 218 25).toInt ≤ 24) ∧ ((t.2.2).1 218 14 = 0 → ∃ c : Cf, Rch tx n x1 ((i, false, [], (σ0.1 218 25).toInt.toNat) : Cf) c ∧ REL (t.2.2).1 tx n c ∧ (¬ (t.2.1) = 0 → ((t.1) = 0 ↔ c.2.1 = false)) ∧ ((t.2.1) = 0 → stp tx n x1 c = some none ∧ c.2.1 = true)) ∧ (¬ (t.2.2).1 218 14 = 0 → ∃ c : Cf, Rch tx n x1 ((i, false, [], (σ0.1 218 25).toInt.toNat) : Cf) c ∧ stp tx n x1 c = none)) ∧ (TOK (t.2.2).1) ∧ (ZB (t.2.2).1) ∧ ((t.2.2).1 218 7 = (σ0.1 218 7)) ∧ ((t.2.2).1 218 9 = (σ0.1 218 9)) ∧ ((t.2.2).1 218 20 = ((1 : Int32) <<< (x1 &&& 31)))) (fun t : Int32 × Int32 × zS => (600 - ((t.2.2).1 218 11).toInt).toNat + (if (t.2.2).1 218 14 = 0 then 1 else 0) + (if (t.2.1) = 0 then 0 else 1)) (fun again5 t hI ih27_5 => ?_) N _ (show Tr [218, 226, 227, 228, 229, 230] σ0 σ4 ∧ ((((σ0.1 218 11).toInt ≤ (σ4.1 218 11).toInt ∧ 0 ≤ (σ4.1 218 22).toInt ∧ (σ4.1 218 22).toInt ≤ 40) ∧ 0 ≤ (σ4.1 218 25).toInt ∧ (σ4.1 218 25).toInt ≤ 24) ∧ (σ4.1 218 14 = 0 → ∃ c : Cf, Rch tx n x1 ((i, false, [], (σ0.1 218 25).toInt.toNat) : Cf) c ∧ REL σ4.1 tx n c ∧ (¬ (1 : Int32) = 0 → ((0 : Int32) = 0 ↔ c.2.1 = false)) ∧ ((1 : Int32) = 0 → stp tx n x1 c = some none ∧ c.2.1 = true)) ∧ (¬ σ4.1 218 14 = 0 → ∃ c : Cf, Rch tx n x1 ((i, false, [], (σ0.1 218 25).toInt.toNat) : Cf) c ∧ stp tx n x1 c = none)) ∧ (TOK σ4.1) ∧ (ZB σ4.1) ∧ (σ4.1 218 7 = (σ0.1 218 7)) ∧ (σ4.1 218 9 = (σ0.1 218 9)) ∧ (σ4.1 218 20 = ((1 : Int32) <<< (x1 &&& 31))) from ⟨hT, (by exact ⟨⟨⟨by (try simp only [g7_σ4, g9_σ4, g10_σ4, g11_σ4, g12_σ4, g13_σ4, g14_σ4, g15_σ4, g20_σ4, g22_σ4, g23_σ4, g24_σ4, g25_σ4]); omega, by (try simp only [g7_σ4, g9_σ4, g10_σ4, g11_σ4, g12_σ4, g13_σ4, g14_σ4, g15_σ4, g20_σ4, g22_σ4, g23_σ4, g24_σ4, g25_σ4]); simp only [Int32.reduceToInt]; omega⟩, by (try simp only [g7_σ4, g9_σ4, g10_σ4, g11_σ4, g12_σ4, g13_σ4, g14_σ4, g15_σ4, g20_σ4, g22_σ4, g23_σ4, g24_σ4, g25_σ4]); omega⟩, fun _ => ⟨_, Rch.rf, rel0, fun _ => ⟨fun _ => rfl, fun _ => rfl⟩, fun h => absurd h (by decide)⟩, fun q => absurd (g14_σ4.trans hg) q⟩), hK, hB, g7_σ4, g9_σ4, g20_σ4⟩) (show (600 - (σ4.1 218 11).toInt).toNat + (if σ4.1 218 14 = 0 then 1 else 0) + (if (1 : Int32) = 0 then 0 else 1) < N from (by (try simp only [g7_σ4, g9_σ4, g10_σ4, g11_σ4, g12_σ4, g13_σ4, g14_σ4, g15_σ4, g20_σ4, g22_σ4, g23_σ4, g24_σ4, g25_σ4]); split <;> split <;> omega))
  obtain ⟨x3_5, x4_5, σ5⟩ := t
  have hI : Tr [218, 226, 227, 228, 229, 230] σ0 σ5 ∧ ((((σ0.1 218 11).toInt ≤ (σ5.1 218 11).toInt ∧ 0 ≤ (σ5.1 218 22).toInt ∧ (σ5.1 218 22).toInt ≤ 40) ∧ 0 ≤ (σ5.1 218 25).toInt ∧ (σ5.1 218 25).toInt ≤ 24) ∧ (σ5.1 218 14 = 0 → ∃ c : Cf, Rch tx n x1 ((i, false, [], (σ0.1 218 25).toInt.toNat) : Cf) c ∧ REL σ5.1 tx n c ∧ (¬ x4_5 = 0 → (x3_5 = 0 ↔ c.2.1 = false)) ∧ (x4_5 = 0 → stp tx n x1 c = some none ∧ c.2.1 = true)) ∧ (¬ σ5.1 218 14 = 0 → ∃ c : Cf, Rch tx n x1 ((i, false, [], (σ0.1 218 25).toInt.toNat) : Cf) c ∧ stp tx n x1 c = none)) ∧ (TOK σ5.1) ∧ (ZB σ5.1) ∧ (σ5.1 218 7 = (σ0.1 218 7)) ∧ (σ5.1 218 9 = (σ0.1 218 9)) ∧ (σ5.1 218 20 = ((1 : Int32) <<< (x1 &&& 31))) := hI
  obtain ⟨hT, hI5, hK, hB, g7_σ5, g9_σ5, g20_σ5⟩ := hI
  rw [F_X12_readsSum_27.eq_1]
  have i1 := hI5.1
  have i2 := hI5.2.1
  have i3 := hI5.2.2
  have hK9 := hK.1
  refine ok_gC rfl ?_
  refine ok_zbX (Q := fun V => (V = 0 → ¬ σ5.1 218 14 = 0) ∧ (¬ V = 0 → σ5.1 218 14 = 0)) (x_X12_good) (fun v6 hqv6 => ?_)
  have hqv6 : (v6 = 0 → ¬ σ5.1 218 14 = 0) ∧ (¬ v6 = 0 → σ5.1 218 14 = 0) := hqv6
  try simp only [g7_σ5, g9_σ5, g20_σ5, hT.2 224 (by decide)] at hqv6
  refine ok_if (fun hc8 => ?_) (fun hc8 => ?_)
  · have qhc8 := hqv6.1 hc8
    have n31 := qhc8
    rw [J_X12_readsSum_86.eq_1]
    refine ok_gC rfl ?_
    refine ok_zbX (Q := fun V => (V = 0 → ¬ true ∈ lst (σ5.1 230) (σ5.1 218 22).toInt.toNat) ∧ (¬ V = 0 → true ∈ lst (σ5.1 230) (σ5.1 218 22).toInt.toNat)) (xe_X12_isOpen hN (hR.tr hT) ⟨by omega, by omega⟩) (fun v9 hqv9 => ?_)
    have hqv9 : (v9 = 0 → ¬ true ∈ lst (σ5.1 230) (σ5.1 218 22).toInt.toNat) ∧ (¬ v9 = 0 → true ∈ lst (σ5.1 230) (σ5.1 218 22).toInt.toNat) := hqv9
    try simp only [g7_σ5, g9_σ5, g20_σ5, hT.2 224 (by decide)] at hqv9
    refine ok_if (fun hc11 => ?_) (fun hc11 => ?_)
    · have qhc11 := hqv9.1 hc11
      have o90 := qhc11
      rw [J_X12_readsSum_98.eq_1]
      refine ok_gC rfl ?_
      refine ok_zbX (Q := fun V => (V = 0 → ¬ σ5.1 218 14 = 0) ∧ (¬ V = 0 → σ5.1 218 14 = 0)) (x_X12_good) (fun v12 hqv12 => ?_)
      have hqv12 : (v12 = 0 → ¬ σ5.1 218 14 = 0) ∧ (¬ v12 = 0 → σ5.1 218 14 = 0) := hqv12
      try simp only [g7_σ5, g9_σ5, g20_σ5, hT.2 224 (by decide)] at hqv12
      refine ok_if (fun hc14 => ?_) (fun hc14 => ?_)
      · have qhc14 := hqv12.1 hc14
        have n102 := qhc14
        exact ok_some ⟨hT, (show (TOK σ5.1 ∧ (σ0.1 218 11).toInt ≤ (σ5.1 218 11).toInt ∧ (σ5.1 218 14 = 0 → ∃ c : Cf, (Rch tx n x1 ((i, false, [], (σ0.1 218 25).toInt.toNat) : Cf) c ∧ stp tx n x1 c = some none ∧ ¬ true ∈ c.2.2.1) ∧ (RX σ5.1 tx n c.1 ∧ c.1 ≤ n) ∧ c.2.2.2 = (σ5.1 218 25).toInt.toNat) ∧ (¬ σ5.1 218 14 = 0 → ∃ c : Cf, Rch tx n x1 ((i, false, [], (σ0.1 218 25).toInt.toNat) : Cf) c ∧ (stp tx n x1 c = none ∨ (stp tx n x1 c = some none ∧ true ∈ c.2.2.1))) ∧ (0 ≤ (σ5.1 218 25).toInt ∧ (σ5.1 218 25).toInt ≤ 24) ∧ ZB σ5.1) ∧ (σ5.1 218 7 = σ0.1 218 7 ∧ σ5.1 218 9 = σ0.1 218 9) from ⟨by first | exact absurd y102 n31 | exact absurd y102 n95 | exact ⟨hK, by (try simp only [g7_σ5, g9_σ5, g20_σ5]); omega, fun q => absurd q (by (try simp only [g7_σ5, g9_σ5, g20_σ5]); exact n102), fun _ => by (obtain ⟨c, rc, st⟩ := i3 n31; exact ⟨c, rc, Or.inl st⟩), by (try simp only [g7_σ5, g9_σ5, g20_σ5]); omega, hB⟩ | exact ⟨hK, by (try simp only [g7_σ5, g9_σ5, g20_σ5]); omega, fun q => absurd q (by (try simp only [g7_σ5, g9_σ5, g20_σ5]); exact n102), fun _ => ⟨_, rc9, Or.inr ⟨z36.1, o90⟩⟩, by (try simp only [g7_σ5, g9_σ5, g20_σ5]); omega, hB⟩ | exact absurd y31 n102 | exact ⟨hK, by (try simp only [g7_σ5, g9_σ5, g20_σ5]); omega, fun _ => ⟨_, ⟨rc9, z36.1, o90⟩, ⟨RX_i g9_σ5 rfl rfl rfl rfl ((hT.2 224 (by decide)).trans tE) nE rl9.1.1.2, rl9.1.2⟩, by (try simp only [g7_σ5, g9_σ5, g20_σ5])⟩, fun q => absurd (by (try simp only [g7_σ5, g9_σ5, g20_σ5]); exact y102) q, by (try simp only [g7_σ5, g9_σ5, g20_σ5]); omega, hB⟩, g7_σ5, g9_σ5⟩)⟩
      · have qhc14 := hqv12.2 hc14
        have y102 := qhc14
        refine ok_gC rfl ?_
        refine ok_zbT (Q := fun V σ => (TOK σ.1 ∧ ZB σ.1 ∧ PIL σ.1 1 ∧ (∀ k : Nat, (k : Int) < (σ5.1 218 22).toInt → σ5.1 230 k = 100 → (k : Int) < (σ.1 218 22).toInt) ∧ ((σ.1 218 22).toInt ≤ 0 ∨ (rkI (σ5.1 230 ((σ.1 218 22) - 1).toNatClampNeg)).toInt < (1 : Int32).toInt)) ∧ (σ.1 218 7 = σ5.1 218 7 ∧ σ.1 218 9 = σ5.1 218 9 ∧ σ.1 218 10 = σ5.1 218 10 ∧ σ.1 218 11 = σ5.1 218 11 ∧ σ.1 218 12 = σ5.1 218 12 ∧ σ.1 218 13 = σ5.1 218 13 ∧ σ.1 218 14 = σ5.1 218 14 ∧ σ.1 218 15 = σ5.1 218 15 ∧ σ.1 218 20 = σ5.1 218 20 ∧ σ.1 218 25 = σ5.1 218 25)) hT (s_X12_settlesTo hN (hR.tr hT) (hK) (by rw [hT.2 224 (by decide)]; exact hY) (hB) (by (try simp only [g7_σ5, g9_σ5, g20_σ5]); omega) (by first | exact (rl9.2.2.2.1 rfl).1 | exact absurd y102 n31 | exact absurd y102 n95) (by decide)) (by decide) (fun v15 σ16 hOσ16 hT hqv15 => ?_)
        have hqv15 : (TOK σ16.1 ∧ ZB σ16.1 ∧ PIL σ16.1 1 ∧ (∀ k : Nat, (k : Int) < (σ5.1 218 22).toInt → σ5.1 230 k = 100 → (k : Int) < (σ16.1 218 22).toInt) ∧ ((σ16.1 218 22).toInt ≤ 0 ∨ (rkI (σ5.1 230 ((σ16.1 218 22) - 1).toNatClampNeg)).toInt < (1 : Int32).toInt)) ∧ (σ16.1 218 7 = σ5.1 218 7 ∧ σ16.1 218 9 = σ5.1 218 9 ∧ σ16.1 218 10 = σ5.1 218 10 ∧ σ16.1 218 11 = σ5.1 218 11 ∧ σ16.1 218 12 = σ5.1 218 12 ∧ σ16.1 218 13 = σ5.1 218 13 ∧ σ16.1 218 14 = σ5.1 218 14 ∧ σ16.1 218 15 = σ5.1 218 15 ∧ σ16.1 218 20 = σ5.1 218 20 ∧ σ16.1 218 25 = σ5.1 218 25) := hqv15
        have hkv15 := hqv15
        have hqv15 := hqv15.1
        have hK : TOK σ16.1 := by first | exact hqv15.1 | exact hqv15.1.1 | exact TOK_p eσ16 (by decide) hK
        have hB : ZB σ16.1 := by first | exact hqv15.2.1 | exact hqv15.2.2.2.2 | exact hqv15.2.2.2.2.2
        try simp only [g7_σ5, g9_σ5, g20_σ5] at hqv15
        have g7_σ16 : σ16.1 218 7 = (σ0.1 218 7) := (hkv15.2.1).trans g7_σ5
        have g9_σ16 : σ16.1 218 9 = (σ0.1 218 9) := (hkv15.2.2.1).trans g9_σ5
        have g10_σ16 : σ16.1 218 10 = (σ5.1 218 10) := hkv15.2.2.2.1
        have g11_σ16 : σ16.1 218 11 = (σ5.1 218 11) := hkv15.2.2.2.2.1
        have g12_σ16 : σ16.1 218 12 = (σ5.1 218 12) := hkv15.2.2.2.2.2.1
        have g13_σ16 : σ16.1 218 13 = (σ5.1 218 13) := hkv15.2.2.2.2.2.2.1
        have g14_σ16 : σ16.1 218 14 = (σ5.1 218 14) := hkv15.2.2.2.2.2.2.2.1
        have g15_σ16 : σ16.1 218 15 = (σ5.1 218 15) := hkv15.2.2.2.2.2.2.2.2.1
        have g20_σ16 : σ16.1 218 20 = ((1 : Int32) <<< (x1 &&& 31)) := (hkv15.2.2.2.2.2.2.2.2.2.1).trans g20_σ5
        have g25_σ16 : σ16.1 218 25 = (σ5.1 218 25) := hkv15.2.2.2.2.2.2.2.2.2.2
        exact ok_some ⟨hT, (show (TOK σ16.1 ∧ (σ0.1 218 11).toInt ≤ (σ16.1 218 11).toInt ∧ (σ16.1 218 14 = 0 → ∃ c : Cf, (Rch tx n x1 ((i, false, [], (σ0.1 218 25).toInt.toNat) : Cf) c ∧ stp tx n x1 c = some none ∧ ¬ true ∈ c.2.2.1) ∧ (RX σ16.1 tx n c.1 ∧ c.1 ≤ n) ∧ c.2.2.2 = (σ16.1 218 25).toInt.toNat) ∧ (¬ σ16.1 218 14 = 0 → ∃ c : Cf, Rch tx n x1 ((i, false, [], (σ0.1 218 25).toInt.toNat) : Cf) c ∧ (stp tx n x1 c = none ∨ (stp tx n x1 c = some none ∧ true ∈ c.2.2.1))) ∧ (0 ≤ (σ16.1 218 25).toInt ∧ (σ16.1 218 25).toInt ≤ 24) ∧ ZB σ16.1) ∧ (σ16.1 218 7 = σ0.1 218 7 ∧ σ16.1 218 9 = σ0.1 218 9) from ⟨by first | exact absurd y102 n31 | exact absurd y102 n95 | exact ⟨hK, by (try simp only [g7_σ16, g9_σ16, g10_σ16, g11_σ16, g12_σ16, g13_σ16, g14_σ16, g15_σ16, g20_σ16, g25_σ16]); omega, fun q => absurd q (by (try simp only [g7_σ16, g9_σ16, g10_σ16, g11_σ16, g12_σ16, g13_σ16, g14_σ16, g15_σ16, g20_σ16, g25_σ16]); exact n102), fun _ => by (obtain ⟨c, rc, st⟩ := i3 n31; exact ⟨c, rc, Or.inl st⟩), by (try simp only [g7_σ16, g9_σ16, g10_σ16, g11_σ16, g12_σ16, g13_σ16, g14_σ16, g15_σ16, g20_σ16, g25_σ16]); omega, hB⟩ | exact ⟨hK, by (try simp only [g7_σ16, g9_σ16, g10_σ16, g11_σ16, g12_σ16, g13_σ16, g14_σ16, g15_σ16, g20_σ16, g25_σ16]); omega, fun q => absurd q (by (try simp only [g7_σ16, g9_σ16, g10_σ16, g11_σ16, g12_σ16, g13_σ16, g14_σ16, g15_σ16, g20_σ16, g25_σ16]); exact n102), fun _ => ⟨_, rc9, Or.inr ⟨z36.1, o90⟩⟩, by (try simp only [g7_σ16, g9_σ16, g10_σ16, g11_σ16, g12_σ16, g13_σ16, g14_σ16, g15_σ16, g20_σ16, g25_σ16]); omega, hB⟩ | exact absurd y31 n102 | exact ⟨hK, by (try simp only [g7_σ16, g9_σ16, g10_σ16, g11_σ16, g12_σ16, g13_σ16, g14_σ16, g15_σ16, g20_σ16, g25_σ16]); omega, fun _ => ⟨_, ⟨rc9, z36.1, o90⟩, ⟨RX_i g9_σ16 g10_σ16 g11_σ16 g12_σ16 g13_σ16 ((hT.2 224 (by decide)).trans tE) nE rl9.1.1.2, rl9.1.2⟩, by (try simp only [g7_σ16, g9_σ16, g10_σ16, g11_σ16, g12_σ16, g13_σ16, g14_σ16, g15_σ16, g20_σ16, g25_σ16])⟩, fun q => absurd (by (try simp only [g7_σ16, g9_σ16, g10_σ16, g11_σ16, g12_σ16, g13_σ16, g14_σ16, g15_σ16, g20_σ16, g25_σ16]); exact y102) q, by (try simp only [g7_σ16, g9_σ16, g10_σ16, g11_σ16, g12_σ16, g13_σ16, g14_σ16, g15_σ16, g20_σ16, g25_σ16]); omega, hB⟩, g7_σ16, g9_σ16⟩)⟩
    · have qhc11 := hqv9.2 hc11
      have o90 := qhc11
      refine ok_gC rfl ?_
      refine ok_zbT (Q := fun V σ => (TOK σ.1 ∧ ¬ σ.1 218 14 = 0) ∧ (σ.1 218 7 = σ5.1 218 7 ∧ σ.1 218 9 = σ5.1 218 9 ∧ σ.1 218 10 = σ5.1 218 10 ∧ σ.1 218 11 = σ5.1 218 11 ∧ σ.1 218 12 = σ5.1 218 12 ∧ σ.1 218 13 = σ5.1 218 13 ∧ σ.1 218 20 = σ5.1 218 20 ∧ σ.1 218 22 = σ5.1 218 22 ∧ σ.1 218 23 = σ5.1 218 23 ∧ σ.1 218 24 = σ5.1 218 24 ∧ σ.1 218 25 = σ5.1 218 25)) hT (s_X12_errs hN (hR.tr hT) (hK) (by rw [hT.2 224 (by decide)]; exact hY) (by decide)) (by decide) (fun v17 σ18 hOσ18 hT hqv17 => ?_)
      have hqv17 : (TOK σ18.1 ∧ ¬ σ18.1 218 14 = 0) ∧ (σ18.1 218 7 = σ5.1 218 7 ∧ σ18.1 218 9 = σ5.1 218 9 ∧ σ18.1 218 10 = σ5.1 218 10 ∧ σ18.1 218 11 = σ5.1 218 11 ∧ σ18.1 218 12 = σ5.1 218 12 ∧ σ18.1 218 13 = σ5.1 218 13 ∧ σ18.1 218 20 = σ5.1 218 20 ∧ σ18.1 218 22 = σ5.1 218 22 ∧ σ18.1 218 23 = σ5.1 218 23 ∧ σ18.1 218 24 = σ5.1 218 24 ∧ σ18.1 218 25 = σ5.1 218 25) := hqv17
      have hkv17 := hqv17
      have hqv17 := hqv17.1
      have hK : TOK σ18.1 := by first | exact hqv17.1 | exact hqv17.1.1 | exact TOK_p eσ18 (by decide) hK
      have hB : ZB σ18.1 := ZB.tr hOσ18 (by decide) hB
      try simp only [g7_σ5, g9_σ5, g20_σ5] at hqv17
      have g7_σ18 : σ18.1 218 7 = (σ0.1 218 7) := (hkv17.2.1).trans g7_σ5
      have g9_σ18 : σ18.1 218 9 = (σ0.1 218 9) := (hkv17.2.2.1).trans g9_σ5
      have g10_σ18 : σ18.1 218 10 = (σ5.1 218 10) := hkv17.2.2.2.1
      have g11_σ18 : σ18.1 218 11 = (σ5.1 218 11) := hkv17.2.2.2.2.1
      have g12_σ18 : σ18.1 218 12 = (σ5.1 218 12) := hkv17.2.2.2.2.2.1
      have g13_σ18 : σ18.1 218 13 = (σ5.1 218 13) := hkv17.2.2.2.2.2.2.1
      have g20_σ18 : σ18.1 218 20 = ((1 : Int32) <<< (x1 &&& 31)) := (hkv17.2.2.2.2.2.2.2.1).trans g20_σ5
      have g22_σ18 : σ18.1 218 22 = (σ5.1 218 22) := hkv17.2.2.2.2.2.2.2.2.1
      have g23_σ18 : σ18.1 218 23 = (σ5.1 218 23) := hkv17.2.2.2.2.2.2.2.2.2.1
      have g24_σ18 : σ18.1 218 24 = (σ5.1 218 24) := hkv17.2.2.2.2.2.2.2.2.2.2.1
      have g25_σ18 : σ18.1 218 25 = (σ5.1 218 25) := hkv17.2.2.2.2.2.2.2.2.2.2.2
      have n95 := hqv17.2
      rw [J_X12_readsSum_98.eq_1]
      refine ok_gC rfl ?_
      refine ok_zbX (Q := fun V => (V = 0 → ¬ σ18.1 218 14 = 0) ∧ (¬ V = 0 → σ18.1 218 14 = 0)) (x_X12_good) (fun v19 hqv19 => ?_)
      have hqv19 : (v19 = 0 → ¬ σ18.1 218 14 = 0) ∧ (¬ v19 = 0 → σ18.1 218 14 = 0) := hqv19
      try simp only [g7_σ18, g9_σ18, g10_σ18, g11_σ18, g12_σ18, g13_σ18, g20_σ18, g22_σ18, g23_σ18, g24_σ18, g25_σ18, hT.2 224 (by decide)] at hqv19
      refine ok_if (fun hc21 => ?_) (fun hc21 => ?_)
      · have qhc21 := hqv19.1 hc21
        have n102 := qhc21
        exact ok_some ⟨hT, (show (TOK σ18.1 ∧ (σ0.1 218 11).toInt ≤ (σ18.1 218 11).toInt ∧ (σ18.1 218 14 = 0 → ∃ c : Cf, (Rch tx n x1 ((i, false, [], (σ0.1 218 25).toInt.toNat) : Cf) c ∧ stp tx n x1 c = some none ∧ ¬ true ∈ c.2.2.1) ∧ (RX σ18.1 tx n c.1 ∧ c.1 ≤ n) ∧ c.2.2.2 = (σ18.1 218 25).toInt.toNat) ∧ (¬ σ18.1 218 14 = 0 → ∃ c : Cf, Rch tx n x1 ((i, false, [], (σ0.1 218 25).toInt.toNat) : Cf) c ∧ (stp tx n x1 c = none ∨ (stp tx n x1 c = some none ∧ true ∈ c.2.2.1))) ∧ (0 ≤ (σ18.1 218 25).toInt ∧ (σ18.1 218 25).toInt ≤ 24) ∧ ZB σ18.1) ∧ (σ18.1 218 7 = σ0.1 218 7 ∧ σ18.1 218 9 = σ0.1 218 9) from ⟨by first | exact absurd y102 n31 | exact absurd y102 n95 | exact ⟨hK, by (try simp only [g7_σ18, g9_σ18, g10_σ18, g11_σ18, g12_σ18, g13_σ18, g20_σ18, g22_σ18, g23_σ18, g24_σ18, g25_σ18]); omega, fun q => absurd q (by (try simp only [g7_σ18, g9_σ18, g10_σ18, g11_σ18, g12_σ18, g13_σ18, g20_σ18, g22_σ18, g23_σ18, g24_σ18, g25_σ18]); exact n102), fun _ => by (obtain ⟨c, rc, st⟩ := i3 n31; exact ⟨c, rc, Or.inl st⟩), by (try simp only [g7_σ18, g9_σ18, g10_σ18, g11_σ18, g12_σ18, g13_σ18, g20_σ18, g22_σ18, g23_σ18, g24_σ18, g25_σ18]); omega, hB⟩ | exact ⟨hK, by (try simp only [g7_σ18, g9_σ18, g10_σ18, g11_σ18, g12_σ18, g13_σ18, g20_σ18, g22_σ18, g23_σ18, g24_σ18, g25_σ18]); omega, fun q => absurd q (by (try simp only [g7_σ18, g9_σ18, g10_σ18, g11_σ18, g12_σ18, g13_σ18, g20_σ18, g22_σ18, g23_σ18, g24_σ18, g25_σ18]); exact n102), fun _ => ⟨_, rc9, Or.inr ⟨z36.1, o90⟩⟩, by (try simp only [g7_σ18, g9_σ18, g10_σ18, g11_σ18, g12_σ18, g13_σ18, g20_σ18, g22_σ18, g23_σ18, g24_σ18, g25_σ18]); omega, hB⟩ | exact absurd y31 n102 | exact ⟨hK, by (try simp only [g7_σ18, g9_σ18, g10_σ18, g11_σ18, g12_σ18, g13_σ18, g20_σ18, g22_σ18, g23_σ18, g24_σ18, g25_σ18]); omega, fun _ => ⟨_, ⟨rc9, z36.1, o90⟩, ⟨RX_i g9_σ18 g10_σ18 g11_σ18 g12_σ18 g13_σ18 ((hT.2 224 (by decide)).trans tE) nE rl9.1.1.2, rl9.1.2⟩, by (try simp only [g7_σ18, g9_σ18, g10_σ18, g11_σ18, g12_σ18, g13_σ18, g20_σ18, g22_σ18, g23_σ18, g24_σ18, g25_σ18])⟩, fun q => absurd (by (try simp only [g7_σ18, g9_σ18, g10_σ18, g11_σ18, g12_σ18, g13_σ18, g20_σ18, g22_σ18, g23_σ18, g24_σ18, g25_σ18]); exact y102) q, by (try simp only [g7_σ18, g9_σ18, g10_σ18, g11_σ18, g12_σ18, g13_σ18, g20_σ18, g22_σ18, g23_σ18, g24_σ18, g25_σ18]); omega, hB⟩, g7_σ18, g9_σ18⟩)⟩
      · have qhc21 := hqv19.2 hc21
        have y102 := qhc21
        refine ok_gC rfl ?_
        refine ok_zbT (Q := fun V σ => (TOK σ.1 ∧ ZB σ.1 ∧ PIL σ.1 1 ∧ (∀ k : Nat, (k : Int) < (σ18.1 218 22).toInt → σ18.1 230 k = 100 → (k : Int) < (σ.1 218 22).toInt) ∧ ((σ.1 218 22).toInt ≤ 0 ∨ (rkI (σ18.1 230 ((σ.1 218 22) - 1).toNatClampNeg)).toInt < (1 : Int32).toInt)) ∧ (σ.1 218 7 = σ18.1 218 7 ∧ σ.1 218 9 = σ18.1 218 9 ∧ σ.1 218 10 = σ18.1 218 10 ∧ σ.1 218 11 = σ18.1 218 11 ∧ σ.1 218 12 = σ18.1 218 12 ∧ σ.1 218 13 = σ18.1 218 13 ∧ σ.1 218 14 = σ18.1 218 14 ∧ σ.1 218 15 = σ18.1 218 15 ∧ σ.1 218 20 = σ18.1 218 20 ∧ σ.1 218 25 = σ18.1 218 25)) hT (s_X12_settlesTo hN (hR.tr hT) (hK) (by rw [hT.2 224 (by decide)]; exact hY) (hB) (by (try simp only [g7_σ18, g9_σ18, g10_σ18, g11_σ18, g12_σ18, g13_σ18, g20_σ18, g22_σ18, g23_σ18, g24_σ18, g25_σ18]); omega) (by first | exact (rl9.2.2.2.1 rfl).1 | exact absurd y102 n31 | exact absurd y102 n95) (by decide)) (by decide) (fun v22 σ23 hOσ23 hT hqv22 => ?_)
        have hqv22 : (TOK σ23.1 ∧ ZB σ23.1 ∧ PIL σ23.1 1 ∧ (∀ k : Nat, (k : Int) < (σ18.1 218 22).toInt → σ18.1 230 k = 100 → (k : Int) < (σ23.1 218 22).toInt) ∧ ((σ23.1 218 22).toInt ≤ 0 ∨ (rkI (σ18.1 230 ((σ23.1 218 22) - 1).toNatClampNeg)).toInt < (1 : Int32).toInt)) ∧ (σ23.1 218 7 = σ18.1 218 7 ∧ σ23.1 218 9 = σ18.1 218 9 ∧ σ23.1 218 10 = σ18.1 218 10 ∧ σ23.1 218 11 = σ18.1 218 11 ∧ σ23.1 218 12 = σ18.1 218 12 ∧ σ23.1 218 13 = σ18.1 218 13 ∧ σ23.1 218 14 = σ18.1 218 14 ∧ σ23.1 218 15 = σ18.1 218 15 ∧ σ23.1 218 20 = σ18.1 218 20 ∧ σ23.1 218 25 = σ18.1 218 25) := hqv22
        have hkv22 := hqv22
        have hqv22 := hqv22.1
        have hK : TOK σ23.1 := by first | exact hqv22.1 | exact hqv22.1.1 | exact TOK_p eσ23 (by decide) hK
        have hB : ZB σ23.1 := by first | exact hqv22.2.1 | exact hqv22.2.2.2.2 | exact hqv22.2.2.2.2.2
        try simp only [g7_σ18, g9_σ18, g10_σ18, g11_σ18, g12_σ18, g13_σ18, g20_σ18, g22_σ18, g23_σ18, g24_σ18, g25_σ18] at hqv22
        have g7_σ23 : σ23.1 218 7 = (σ0.1 218 7) := (hkv22.2.1).trans g7_σ18
        have g9_σ23 : σ23.1 218 9 = (σ0.1 218 9) := (hkv22.2.2.1).trans g9_σ18
        have g10_σ23 : σ23.1 218 10 = (σ5.1 218 10) := (hkv22.2.2.2.1).trans g10_σ18
        have g11_σ23 : σ23.1 218 11 = (σ5.1 218 11) := (hkv22.2.2.2.2.1).trans g11_σ18
        have g12_σ23 : σ23.1 218 12 = (σ5.1 218 12) := (hkv22.2.2.2.2.2.1).trans g12_σ18
        have g13_σ23 : σ23.1 218 13 = (σ5.1 218 13) := (hkv22.2.2.2.2.2.2.1).trans g13_σ18
        have g14_σ23 : σ23.1 218 14 = (σ18.1 218 14) := hkv22.2.2.2.2.2.2.2.1
        have g15_σ23 : σ23.1 218 15 = (σ18.1 218 15) := hkv22.2.2.2.2.2.2.2.2.1
        have g20_σ23 : σ23.1 218 20 = ((1 : Int32) <<< (x1 &&& 31)) := (hkv22.2.2.2.2.2.2.2.2.2.1).trans g20_σ18
        have g25_σ23 : σ23.1 218 25 = (σ5.1 218 25) := (hkv22.2.2.2.2.2.2.2.2.2.2).trans g25_σ18
        exact ok_some ⟨hT, (show (TOK σ23.1 ∧ (σ0.1 218 11).toInt ≤ (σ23.1 218 11).toInt ∧ (σ23.1 218 14 = 0 → ∃ c : Cf, (Rch tx n x1 ((i, false, [], (σ0.1 218 25).toInt.toNat) : Cf) c ∧ stp tx n x1 c = some none ∧ ¬ true ∈ c.2.2.1) ∧ (RX σ23.1 tx n c.1 ∧ c.1 ≤ n) ∧ c.2.2.2 = (σ23.1 218 25).toInt.toNat) ∧ (¬ σ23.1 218 14 = 0 → ∃ c : Cf, Rch tx n x1 ((i, false, [], (σ0.1 218 25).toInt.toNat) : Cf) c ∧ (stp tx n x1 c = none ∨ (stp tx n x1 c = some none ∧ true ∈ c.2.2.1))) ∧ (0 ≤ (σ23.1 218 25).toInt ∧ (σ23.1 218 25).toInt ≤ 24) ∧ ZB σ23.1) ∧ (σ23.1 218 7 = σ0.1 218 7 ∧ σ23.1 218 9 = σ0.1 218 9) from ⟨by first | exact absurd y102 n31 | exact absurd y102 n95 | exact ⟨hK, by (try simp only [g7_σ23, g9_σ23, g10_σ23, g11_σ23, g12_σ23, g13_σ23, g14_σ23, g15_σ23, g20_σ23, g25_σ23]); omega, fun q => absurd q (by (try simp only [g7_σ23, g9_σ23, g10_σ23, g11_σ23, g12_σ23, g13_σ23, g14_σ23, g15_σ23, g20_σ23, g25_σ23]); exact n102), fun _ => by (obtain ⟨c, rc, st⟩ := i3 n31; exact ⟨c, rc, Or.inl st⟩), by (try simp only [g7_σ23, g9_σ23, g10_σ23, g11_σ23, g12_σ23, g13_σ23, g14_σ23, g15_σ23, g20_σ23, g25_σ23]); omega, hB⟩ | exact ⟨hK, by (try simp only [g7_σ23, g9_σ23, g10_σ23, g11_σ23, g12_σ23, g13_σ23, g14_σ23, g15_σ23, g20_σ23, g25_σ23]); omega, fun q => absurd q (by (try simp only [g7_σ23, g9_σ23, g10_σ23, g11_σ23, g12_σ23, g13_σ23, g14_σ23, g15_σ23, g20_σ23, g25_σ23]); exact n102), fun _ => ⟨_, rc9, Or.inr ⟨z36.1, o90⟩⟩, by (try simp only [g7_σ23, g9_σ23, g10_σ23, g11_σ23, g12_σ23, g13_σ23, g14_σ23, g15_σ23, g20_σ23, g25_σ23]); omega, hB⟩ | exact absurd y31 n102 | exact ⟨hK, by (try simp only [g7_σ23, g9_σ23, g10_σ23, g11_σ23, g12_σ23, g13_σ23, g14_σ23, g15_σ23, g20_σ23, g25_σ23]); omega, fun _ => ⟨_, ⟨rc9, z36.1, o90⟩, ⟨RX_i g9_σ23 g10_σ23 g11_σ23 g12_σ23 g13_σ23 ((hT.2 224 (by decide)).trans tE) nE rl9.1.1.2, rl9.1.2⟩, by (try simp only [g7_σ23, g9_σ23, g10_σ23, g11_σ23, g12_σ23, g13_σ23, g14_σ23, g15_σ23, g20_σ23, g25_σ23])⟩, fun q => absurd (by (try simp only [g7_σ23, g9_σ23, g10_σ23, g11_σ23, g12_σ23, g13_σ23, g14_σ23, g15_σ23, g20_σ23, g25_σ23]); exact y102) q, by (try simp only [g7_σ23, g9_σ23, g10_σ23, g11_σ23, g12_σ23, g13_σ23, g14_σ23, g15_σ23, g20_σ23, g25_σ23]); omega, hB⟩, g7_σ23, g9_σ23⟩)⟩
  · have qhc8 := hqv6.2 hc8
    have y31 := qhc8
    obtain ⟨⟨p9, w9, L9, sg9⟩, rc9, rl9, a9, b9q⟩ := i2 qhc8
    obtain rfl : L9 = lst (σ5.1 230) (σ5.1 218 22).toInt.toNat := rl9.2.1.1
    obtain rfl : sg9 = (σ5.1 218 25).toInt.toNat := rl9.2.2.1
    refine ok_if (fun hc24 => ?_) (fun hc24 => ?_)
    · have e36 := hc24
      have z36 := b9q hc24
      have w36 : w9 = true := z36.2
      subst w36
      rw [J_X12_readsSum_86.eq_1]
      refine ok_gC rfl ?_
      refine ok_zbX (Q := fun V => (V = 0 → ¬ true ∈ lst (σ5.1 230) (σ5.1 218 22).toInt.toNat) ∧ (¬ V = 0 → true ∈ lst (σ5.1 230) (σ5.1 218 22).toInt.toNat)) (xe_X12_isOpen hN (hR.tr hT) ⟨by omega, by omega⟩) (fun v25 hqv25 => ?_)
      have hqv25 : (v25 = 0 → ¬ true ∈ lst (σ5.1 230) (σ5.1 218 22).toInt.toNat) ∧ (¬ v25 = 0 → true ∈ lst (σ5.1 230) (σ5.1 218 22).toInt.toNat) := hqv25
      try simp only [g7_σ5, g9_σ5, g20_σ5, hT.2 224 (by decide)] at hqv25
      refine ok_if (fun hc27 => ?_) (fun hc27 => ?_)
      · have qhc27 := hqv25.1 hc27
        have o90 := qhc27
        rw [J_X12_readsSum_98.eq_1]
        refine ok_gC rfl ?_
        refine ok_zbX (Q := fun V => (V = 0 → ¬ σ5.1 218 14 = 0) ∧ (¬ V = 0 → σ5.1 218 14 = 0)) (x_X12_good) (fun v28 hqv28 => ?_)
        have hqv28 : (v28 = 0 → ¬ σ5.1 218 14 = 0) ∧ (¬ v28 = 0 → σ5.1 218 14 = 0) := hqv28
        try simp only [g7_σ5, g9_σ5, g20_σ5, hT.2 224 (by decide)] at hqv28
        refine ok_if (fun hc30 => ?_) (fun hc30 => ?_)
        · have qhc30 := hqv28.1 hc30
          have n102 := qhc30
          exact ok_some ⟨hT, (show (TOK σ5.1 ∧ (σ0.1 218 11).toInt ≤ (σ5.1 218 11).toInt ∧ (σ5.1 218 14 = 0 → ∃ c : Cf, (Rch tx n x1 ((i, false, [], (σ0.1 218 25).toInt.toNat) : Cf) c ∧ stp tx n x1 c = some none ∧ ¬ true ∈ c.2.2.1) ∧ (RX σ5.1 tx n c.1 ∧ c.1 ≤ n) ∧ c.2.2.2 = (σ5.1 218 25).toInt.toNat) ∧ (¬ σ5.1 218 14 = 0 → ∃ c : Cf, Rch tx n x1 ((i, false, [], (σ0.1 218 25).toInt.toNat) : Cf) c ∧ (stp tx n x1 c = none ∨ (stp tx n x1 c = some none ∧ true ∈ c.2.2.1))) ∧ (0 ≤ (σ5.1 218 25).toInt ∧ (σ5.1 218 25).toInt ≤ 24) ∧ ZB σ5.1) ∧ (σ5.1 218 7 = σ0.1 218 7 ∧ σ5.1 218 9 = σ0.1 218 9) from ⟨by first | exact absurd y102 n31 | exact absurd y102 n95 | exact ⟨hK, by (try simp only [g7_σ5, g9_σ5, g20_σ5]); omega, fun q => absurd q (by (try simp only [g7_σ5, g9_σ5, g20_σ5]); exact n102), fun _ => by (obtain ⟨c, rc, st⟩ := i3 n31; exact ⟨c, rc, Or.inl st⟩), by (try simp only [g7_σ5, g9_σ5, g20_σ5]); omega, hB⟩ | exact ⟨hK, by (try simp only [g7_σ5, g9_σ5, g20_σ5]); omega, fun q => absurd q (by (try simp only [g7_σ5, g9_σ5, g20_σ5]); exact n102), fun _ => ⟨_, rc9, Or.inr ⟨z36.1, o90⟩⟩, by (try simp only [g7_σ5, g9_σ5, g20_σ5]); omega, hB⟩ | exact absurd y31 n102 | exact ⟨hK, by (try simp only [g7_σ5, g9_σ5, g20_σ5]); omega, fun _ => ⟨_, ⟨rc9, z36.1, o90⟩, ⟨RX_i g9_σ5 rfl rfl rfl rfl ((hT.2 224 (by decide)).trans tE) nE rl9.1.1.2, rl9.1.2⟩, by (try simp only [g7_σ5, g9_σ5, g20_σ5])⟩, fun q => absurd (by (try simp only [g7_σ5, g9_σ5, g20_σ5]); exact y102) q, by (try simp only [g7_σ5, g9_σ5, g20_σ5]); omega, hB⟩, g7_σ5, g9_σ5⟩)⟩
        · have qhc30 := hqv28.2 hc30
          have y102 := qhc30
          refine ok_gC rfl ?_
          refine ok_zbT (Q := fun V σ => (TOK σ.1 ∧ ZB σ.1 ∧ PIL σ.1 1 ∧ (∀ k : Nat, (k : Int) < (σ5.1 218 22).toInt → σ5.1 230 k = 100 → (k : Int) < (σ.1 218 22).toInt) ∧ ((σ.1 218 22).toInt ≤ 0 ∨ (rkI (σ5.1 230 ((σ.1 218 22) - 1).toNatClampNeg)).toInt < (1 : Int32).toInt)) ∧ (σ.1 218 7 = σ5.1 218 7 ∧ σ.1 218 9 = σ5.1 218 9 ∧ σ.1 218 10 = σ5.1 218 10 ∧ σ.1 218 11 = σ5.1 218 11 ∧ σ.1 218 12 = σ5.1 218 12 ∧ σ.1 218 13 = σ5.1 218 13 ∧ σ.1 218 14 = σ5.1 218 14 ∧ σ.1 218 15 = σ5.1 218 15 ∧ σ.1 218 20 = σ5.1 218 20 ∧ σ.1 218 25 = σ5.1 218 25)) hT (s_X12_settlesTo hN (hR.tr hT) (hK) (by rw [hT.2 224 (by decide)]; exact hY) (hB) (by (try simp only [g7_σ5, g9_σ5, g20_σ5]); omega) (by first | exact (rl9.2.2.2.1 rfl).1 | exact absurd y102 n31 | exact absurd y102 n95) (by decide)) (by decide) (fun v31 σ32 hOσ32 hT hqv31 => ?_)
          have hqv31 : (TOK σ32.1 ∧ ZB σ32.1 ∧ PIL σ32.1 1 ∧ (∀ k : Nat, (k : Int) < (σ5.1 218 22).toInt → σ5.1 230 k = 100 → (k : Int) < (σ32.1 218 22).toInt) ∧ ((σ32.1 218 22).toInt ≤ 0 ∨ (rkI (σ5.1 230 ((σ32.1 218 22) - 1).toNatClampNeg)).toInt < (1 : Int32).toInt)) ∧ (σ32.1 218 7 = σ5.1 218 7 ∧ σ32.1 218 9 = σ5.1 218 9 ∧ σ32.1 218 10 = σ5.1 218 10 ∧ σ32.1 218 11 = σ5.1 218 11 ∧ σ32.1 218 12 = σ5.1 218 12 ∧ σ32.1 218 13 = σ5.1 218 13 ∧ σ32.1 218 14 = σ5.1 218 14 ∧ σ32.1 218 15 = σ5.1 218 15 ∧ σ32.1 218 20 = σ5.1 218 20 ∧ σ32.1 218 25 = σ5.1 218 25) := hqv31
          have hkv31 := hqv31
          have hqv31 := hqv31.1
          have hK : TOK σ32.1 := by first | exact hqv31.1 | exact hqv31.1.1 | exact TOK_p eσ32 (by decide) hK
          have hB : ZB σ32.1 := by first | exact hqv31.2.1 | exact hqv31.2.2.2.2 | exact hqv31.2.2.2.2.2
          try simp only [g7_σ5, g9_σ5, g20_σ5] at hqv31
          have g7_σ32 : σ32.1 218 7 = (σ0.1 218 7) := (hkv31.2.1).trans g7_σ5
          have g9_σ32 : σ32.1 218 9 = (σ0.1 218 9) := (hkv31.2.2.1).trans g9_σ5
          have g10_σ32 : σ32.1 218 10 = (σ5.1 218 10) := hkv31.2.2.2.1
          have g11_σ32 : σ32.1 218 11 = (σ5.1 218 11) := hkv31.2.2.2.2.1
          have g12_σ32 : σ32.1 218 12 = (σ5.1 218 12) := hkv31.2.2.2.2.2.1
          have g13_σ32 : σ32.1 218 13 = (σ5.1 218 13) := hkv31.2.2.2.2.2.2.1
          have g14_σ32 : σ32.1 218 14 = (σ5.1 218 14) := hkv31.2.2.2.2.2.2.2.1
          have g15_σ32 : σ32.1 218 15 = (σ5.1 218 15) := hkv31.2.2.2.2.2.2.2.2.1
          have g20_σ32 : σ32.1 218 20 = ((1 : Int32) <<< (x1 &&& 31)) := (hkv31.2.2.2.2.2.2.2.2.2.1).trans g20_σ5
          have g25_σ32 : σ32.1 218 25 = (σ5.1 218 25) := hkv31.2.2.2.2.2.2.2.2.2.2
          exact ok_some ⟨hT, (show (TOK σ32.1 ∧ (σ0.1 218 11).toInt ≤ (σ32.1 218 11).toInt ∧ (σ32.1 218 14 = 0 → ∃ c : Cf, (Rch tx n x1 ((i, false, [], (σ0.1 218 25).toInt.toNat) : Cf) c ∧ stp tx n x1 c = some none ∧ ¬ true ∈ c.2.2.1) ∧ (RX σ32.1 tx n c.1 ∧ c.1 ≤ n) ∧ c.2.2.2 = (σ32.1 218 25).toInt.toNat) ∧ (¬ σ32.1 218 14 = 0 → ∃ c : Cf, Rch tx n x1 ((i, false, [], (σ0.1 218 25).toInt.toNat) : Cf) c ∧ (stp tx n x1 c = none ∨ (stp tx n x1 c = some none ∧ true ∈ c.2.2.1))) ∧ (0 ≤ (σ32.1 218 25).toInt ∧ (σ32.1 218 25).toInt ≤ 24) ∧ ZB σ32.1) ∧ (σ32.1 218 7 = σ0.1 218 7 ∧ σ32.1 218 9 = σ0.1 218 9) from ⟨by first | exact absurd y102 n31 | exact absurd y102 n95 | exact ⟨hK, by (try simp only [g7_σ32, g9_σ32, g10_σ32, g11_σ32, g12_σ32, g13_σ32, g14_σ32, g15_σ32, g20_σ32, g25_σ32]); omega, fun q => absurd q (by (try simp only [g7_σ32, g9_σ32, g10_σ32, g11_σ32, g12_σ32, g13_σ32, g14_σ32, g15_σ32, g20_σ32, g25_σ32]); exact n102), fun _ => by (obtain ⟨c, rc, st⟩ := i3 n31; exact ⟨c, rc, Or.inl st⟩), by (try simp only [g7_σ32, g9_σ32, g10_σ32, g11_σ32, g12_σ32, g13_σ32, g14_σ32, g15_σ32, g20_σ32, g25_σ32]); omega, hB⟩ | exact ⟨hK, by (try simp only [g7_σ32, g9_σ32, g10_σ32, g11_σ32, g12_σ32, g13_σ32, g14_σ32, g15_σ32, g20_σ32, g25_σ32]); omega, fun q => absurd q (by (try simp only [g7_σ32, g9_σ32, g10_σ32, g11_σ32, g12_σ32, g13_σ32, g14_σ32, g15_σ32, g20_σ32, g25_σ32]); exact n102), fun _ => ⟨_, rc9, Or.inr ⟨z36.1, o90⟩⟩, by (try simp only [g7_σ32, g9_σ32, g10_σ32, g11_σ32, g12_σ32, g13_σ32, g14_σ32, g15_σ32, g20_σ32, g25_σ32]); omega, hB⟩ | exact absurd y31 n102 | exact ⟨hK, by (try simp only [g7_σ32, g9_σ32, g10_σ32, g11_σ32, g12_σ32, g13_σ32, g14_σ32, g15_σ32, g20_σ32, g25_σ32]); omega, fun _ => ⟨_, ⟨rc9, z36.1, o90⟩, ⟨RX_i g9_σ32 g10_σ32 g11_σ32 g12_σ32 g13_σ32 ((hT.2 224 (by decide)).trans tE) nE rl9.1.1.2, rl9.1.2⟩, by (try simp only [g7_σ32, g9_σ32, g10_σ32, g11_σ32, g12_σ32, g13_σ32, g14_σ32, g15_σ32, g20_σ32, g25_σ32])⟩, fun q => absurd (by (try simp only [g7_σ32, g9_σ32, g10_σ32, g11_σ32, g12_σ32, g13_σ32, g14_σ32, g15_σ32, g20_σ32, g25_σ32]); exact y102) q, by (try simp only [g7_σ32, g9_σ32, g10_σ32, g11_σ32, g12_σ32, g13_σ32, g14_σ32, g15_σ32, g20_σ32, g25_σ32]); omega, hB⟩, g7_σ32, g9_σ32⟩)⟩
      · have qhc27 := hqv25.2 hc27
        have o90 := qhc27
        refine ok_gC rfl ?_
        refine ok_zbT (Q := fun V σ => (TOK σ.1 ∧ ¬ σ.1 218 14 = 0) ∧ (σ.1 218 7 = σ5.1 218 7 ∧ σ.1 218 9 = σ5.1 218 9 ∧ σ.1 218 10 = σ5.1 218 10 ∧ σ.1 218 11 = σ5.1 218 11 ∧ σ.1 218 12 = σ5.1 218 12 ∧ σ.1 218 13 = σ5.1 218 13 ∧ σ.1 218 20 = σ5.1 218 20 ∧ σ.1 218 22 = σ5.1 218 22 ∧ σ.1 218 23 = σ5.1 218 23 ∧ σ.1 218 24 = σ5.1 218 24 ∧ σ.1 218 25 = σ5.1 218 25)) hT (s_X12_errs hN (hR.tr hT) (hK) (by rw [hT.2 224 (by decide)]; exact hY) (by decide)) (by decide) (fun v33 σ34 hOσ34 hT hqv33 => ?_)
        have hqv33 : (TOK σ34.1 ∧ ¬ σ34.1 218 14 = 0) ∧ (σ34.1 218 7 = σ5.1 218 7 ∧ σ34.1 218 9 = σ5.1 218 9 ∧ σ34.1 218 10 = σ5.1 218 10 ∧ σ34.1 218 11 = σ5.1 218 11 ∧ σ34.1 218 12 = σ5.1 218 12 ∧ σ34.1 218 13 = σ5.1 218 13 ∧ σ34.1 218 20 = σ5.1 218 20 ∧ σ34.1 218 22 = σ5.1 218 22 ∧ σ34.1 218 23 = σ5.1 218 23 ∧ σ34.1 218 24 = σ5.1 218 24 ∧ σ34.1 218 25 = σ5.1 218 25) := hqv33
        have hkv33 := hqv33
        have hqv33 := hqv33.1
        have hK : TOK σ34.1 := by first | exact hqv33.1 | exact hqv33.1.1 | exact TOK_p eσ34 (by decide) hK
        have hB : ZB σ34.1 := ZB.tr hOσ34 (by decide) hB
        try simp only [g7_σ5, g9_σ5, g20_σ5] at hqv33
        have g7_σ34 : σ34.1 218 7 = (σ0.1 218 7) := (hkv33.2.1).trans g7_σ5
        have g9_σ34 : σ34.1 218 9 = (σ0.1 218 9) := (hkv33.2.2.1).trans g9_σ5
        have g10_σ34 : σ34.1 218 10 = (σ5.1 218 10) := hkv33.2.2.2.1
        have g11_σ34 : σ34.1 218 11 = (σ5.1 218 11) := hkv33.2.2.2.2.1
        have g12_σ34 : σ34.1 218 12 = (σ5.1 218 12) := hkv33.2.2.2.2.2.1
        have g13_σ34 : σ34.1 218 13 = (σ5.1 218 13) := hkv33.2.2.2.2.2.2.1
        have g20_σ34 : σ34.1 218 20 = ((1 : Int32) <<< (x1 &&& 31)) := (hkv33.2.2.2.2.2.2.2.1).trans g20_σ5
        have g22_σ34 : σ34.1 218 22 = (σ5.1 218 22) := hkv33.2.2.2.2.2.2.2.2.1
        have g23_σ34 : σ34.1 218 23 = (σ5.1 218 23) := hkv33.2.2.2.2.2.2.2.2.2.1
        have g24_σ34 : σ34.1 218 24 = (σ5.1 218 24) := hkv33.2.2.2.2.2.2.2.2.2.2.1
        have g25_σ34 : σ34.1 218 25 = (σ5.1 218 25) := hkv33.2.2.2.2.2.2.2.2.2.2.2
        have n95 := hqv33.2
        rw [J_X12_readsSum_98.eq_1]
        refine ok_gC rfl ?_
        refine ok_zbX (Q := fun V => (V = 0 → ¬ σ34.1 218 14 = 0) ∧ (¬ V = 0 → σ34.1 218 14 = 0)) (x_X12_good) (fun v35 hqv35 => ?_)
        have hqv35 : (v35 = 0 → ¬ σ34.1 218 14 = 0) ∧ (¬ v35 = 0 → σ34.1 218 14 = 0) := hqv35
        try simp only [g7_σ34, g9_σ34, g10_σ34, g11_σ34, g12_σ34, g13_σ34, g20_σ34, g22_σ34, g23_σ34, g24_σ34, g25_σ34, hT.2 224 (by decide)] at hqv35
        refine ok_if (fun hc37 => ?_) (fun hc37 => ?_)
        · have qhc37 := hqv35.1 hc37
          have n102 := qhc37
          exact ok_some ⟨hT, (show (TOK σ34.1 ∧ (σ0.1 218 11).toInt ≤ (σ34.1 218 11).toInt ∧ (σ34.1 218 14 = 0 → ∃ c : Cf, (Rch tx n x1 ((i, false, [], (σ0.1 218 25).toInt.toNat) : Cf) c ∧ stp tx n x1 c = some none ∧ ¬ true ∈ c.2.2.1) ∧ (RX σ34.1 tx n c.1 ∧ c.1 ≤ n) ∧ c.2.2.2 = (σ34.1 218 25).toInt.toNat) ∧ (¬ σ34.1 218 14 = 0 → ∃ c : Cf, Rch tx n x1 ((i, false, [], (σ0.1 218 25).toInt.toNat) : Cf) c ∧ (stp tx n x1 c = none ∨ (stp tx n x1 c = some none ∧ true ∈ c.2.2.1))) ∧ (0 ≤ (σ34.1 218 25).toInt ∧ (σ34.1 218 25).toInt ≤ 24) ∧ ZB σ34.1) ∧ (σ34.1 218 7 = σ0.1 218 7 ∧ σ34.1 218 9 = σ0.1 218 9) from ⟨by first | exact absurd y102 n31 | exact absurd y102 n95 | exact ⟨hK, by (try simp only [g7_σ34, g9_σ34, g10_σ34, g11_σ34, g12_σ34, g13_σ34, g20_σ34, g22_σ34, g23_σ34, g24_σ34, g25_σ34]); omega, fun q => absurd q (by (try simp only [g7_σ34, g9_σ34, g10_σ34, g11_σ34, g12_σ34, g13_σ34, g20_σ34, g22_σ34, g23_σ34, g24_σ34, g25_σ34]); exact n102), fun _ => by (obtain ⟨c, rc, st⟩ := i3 n31; exact ⟨c, rc, Or.inl st⟩), by (try simp only [g7_σ34, g9_σ34, g10_σ34, g11_σ34, g12_σ34, g13_σ34, g20_σ34, g22_σ34, g23_σ34, g24_σ34, g25_σ34]); omega, hB⟩ | exact ⟨hK, by (try simp only [g7_σ34, g9_σ34, g10_σ34, g11_σ34, g12_σ34, g13_σ34, g20_σ34, g22_σ34, g23_σ34, g24_σ34, g25_σ34]); omega, fun q => absurd q (by (try simp only [g7_σ34, g9_σ34, g10_σ34, g11_σ34, g12_σ34, g13_σ34, g20_σ34, g22_σ34, g23_σ34, g24_σ34, g25_σ34]); exact n102), fun _ => ⟨_, rc9, Or.inr ⟨z36.1, o90⟩⟩, by (try simp only [g7_σ34, g9_σ34, g10_σ34, g11_σ34, g12_σ34, g13_σ34, g20_σ34, g22_σ34, g23_σ34, g24_σ34, g25_σ34]); omega, hB⟩ | exact absurd y31 n102 | exact ⟨hK, by (try simp only [g7_σ34, g9_σ34, g10_σ34, g11_σ34, g12_σ34, g13_σ34, g20_σ34, g22_σ34, g23_σ34, g24_σ34, g25_σ34]); omega, fun _ => ⟨_, ⟨rc9, z36.1, o90⟩, ⟨RX_i g9_σ34 g10_σ34 g11_σ34 g12_σ34 g13_σ34 ((hT.2 224 (by decide)).trans tE) nE rl9.1.1.2, rl9.1.2⟩, by (try simp only [g7_σ34, g9_σ34, g10_σ34, g11_σ34, g12_σ34, g13_σ34, g20_σ34, g22_σ34, g23_σ34, g24_σ34, g25_σ34])⟩, fun q => absurd (by (try simp only [g7_σ34, g9_σ34, g10_σ34, g11_σ34, g12_σ34, g13_σ34, g20_σ34, g22_σ34, g23_σ34, g24_σ34, g25_σ34]); exact y102) q, by (try simp only [g7_σ34, g9_σ34, g10_σ34, g11_σ34, g12_σ34, g13_σ34, g20_σ34, g22_σ34, g23_σ34, g24_σ34, g25_σ34]); omega, hB⟩, g7_σ34, g9_σ34⟩)⟩
        · have qhc37 := hqv35.2 hc37
          have y102 := qhc37
          refine ok_gC rfl ?_
          refine ok_zbT (Q := fun V σ => (TOK σ.1 ∧ ZB σ.1 ∧ PIL σ.1 1 ∧ (∀ k : Nat, (k : Int) < (σ34.1 218 22).toInt → σ34.1 230 k = 100 → (k : Int) < (σ.1 218 22).toInt) ∧ ((σ.1 218 22).toInt ≤ 0 ∨ (rkI (σ34.1 230 ((σ.1 218 22) - 1).toNatClampNeg)).toInt < (1 : Int32).toInt)) ∧ (σ.1 218 7 = σ34.1 218 7 ∧ σ.1 218 9 = σ34.1 218 9 ∧ σ.1 218 10 = σ34.1 218 10 ∧ σ.1 218 11 = σ34.1 218 11 ∧ σ.1 218 12 = σ34.1 218 12 ∧ σ.1 218 13 = σ34.1 218 13 ∧ σ.1 218 14 = σ34.1 218 14 ∧ σ.1 218 15 = σ34.1 218 15 ∧ σ.1 218 20 = σ34.1 218 20 ∧ σ.1 218 25 = σ34.1 218 25)) hT (s_X12_settlesTo hN (hR.tr hT) (hK) (by rw [hT.2 224 (by decide)]; exact hY) (hB) (by (try simp only [g7_σ34, g9_σ34, g10_σ34, g11_σ34, g12_σ34, g13_σ34, g20_σ34, g22_σ34, g23_σ34, g24_σ34, g25_σ34]); omega) (by first | exact (rl9.2.2.2.1 rfl).1 | exact absurd y102 n31 | exact absurd y102 n95) (by decide)) (by decide) (fun v38 σ39 hOσ39 hT hqv38 => ?_)
          have hqv38 : (TOK σ39.1 ∧ ZB σ39.1 ∧ PIL σ39.1 1 ∧ (∀ k : Nat, (k : Int) < (σ34.1 218 22).toInt → σ34.1 230 k = 100 → (k : Int) < (σ39.1 218 22).toInt) ∧ ((σ39.1 218 22).toInt ≤ 0 ∨ (rkI (σ34.1 230 ((σ39.1 218 22) - 1).toNatClampNeg)).toInt < (1 : Int32).toInt)) ∧ (σ39.1 218 7 = σ34.1 218 7 ∧ σ39.1 218 9 = σ34.1 218 9 ∧ σ39.1 218 10 = σ34.1 218 10 ∧ σ39.1 218 11 = σ34.1 218 11 ∧ σ39.1 218 12 = σ34.1 218 12 ∧ σ39.1 218 13 = σ34.1 218 13 ∧ σ39.1 218 14 = σ34.1 218 14 ∧ σ39.1 218 15 = σ34.1 218 15 ∧ σ39.1 218 20 = σ34.1 218 20 ∧ σ39.1 218 25 = σ34.1 218 25) := hqv38
          have hkv38 := hqv38
          have hqv38 := hqv38.1
          have hK : TOK σ39.1 := by first | exact hqv38.1 | exact hqv38.1.1 | exact TOK_p eσ39 (by decide) hK
          have hB : ZB σ39.1 := by first | exact hqv38.2.1 | exact hqv38.2.2.2.2 | exact hqv38.2.2.2.2.2
          try simp only [g7_σ34, g9_σ34, g10_σ34, g11_σ34, g12_σ34, g13_σ34, g20_σ34, g22_σ34, g23_σ34, g24_σ34, g25_σ34] at hqv38
          have g7_σ39 : σ39.1 218 7 = (σ0.1 218 7) := (hkv38.2.1).trans g7_σ34
          have g9_σ39 : σ39.1 218 9 = (σ0.1 218 9) := (hkv38.2.2.1).trans g9_σ34
          have g10_σ39 : σ39.1 218 10 = (σ5.1 218 10) := (hkv38.2.2.2.1).trans g10_σ34
          have g11_σ39 : σ39.1 218 11 = (σ5.1 218 11) := (hkv38.2.2.2.2.1).trans g11_σ34
          have g12_σ39 : σ39.1 218 12 = (σ5.1 218 12) := (hkv38.2.2.2.2.2.1).trans g12_σ34
          have g13_σ39 : σ39.1 218 13 = (σ5.1 218 13) := (hkv38.2.2.2.2.2.2.1).trans g13_σ34
          have g14_σ39 : σ39.1 218 14 = (σ34.1 218 14) := hkv38.2.2.2.2.2.2.2.1
          have g15_σ39 : σ39.1 218 15 = (σ34.1 218 15) := hkv38.2.2.2.2.2.2.2.2.1
          have g20_σ39 : σ39.1 218 20 = ((1 : Int32) <<< (x1 &&& 31)) := (hkv38.2.2.2.2.2.2.2.2.2.1).trans g20_σ34
          have g25_σ39 : σ39.1 218 25 = (σ5.1 218 25) := (hkv38.2.2.2.2.2.2.2.2.2.2).trans g25_σ34
          exact ok_some ⟨hT, (show (TOK σ39.1 ∧ (σ0.1 218 11).toInt ≤ (σ39.1 218 11).toInt ∧ (σ39.1 218 14 = 0 → ∃ c : Cf, (Rch tx n x1 ((i, false, [], (σ0.1 218 25).toInt.toNat) : Cf) c ∧ stp tx n x1 c = some none ∧ ¬ true ∈ c.2.2.1) ∧ (RX σ39.1 tx n c.1 ∧ c.1 ≤ n) ∧ c.2.2.2 = (σ39.1 218 25).toInt.toNat) ∧ (¬ σ39.1 218 14 = 0 → ∃ c : Cf, Rch tx n x1 ((i, false, [], (σ0.1 218 25).toInt.toNat) : Cf) c ∧ (stp tx n x1 c = none ∨ (stp tx n x1 c = some none ∧ true ∈ c.2.2.1))) ∧ (0 ≤ (σ39.1 218 25).toInt ∧ (σ39.1 218 25).toInt ≤ 24) ∧ ZB σ39.1) ∧ (σ39.1 218 7 = σ0.1 218 7 ∧ σ39.1 218 9 = σ0.1 218 9) from ⟨by first | exact absurd y102 n31 | exact absurd y102 n95 | exact ⟨hK, by (try simp only [g7_σ39, g9_σ39, g10_σ39, g11_σ39, g12_σ39, g13_σ39, g14_σ39, g15_σ39, g20_σ39, g25_σ39]); omega, fun q => absurd q (by (try simp only [g7_σ39, g9_σ39, g10_σ39, g11_σ39, g12_σ39, g13_σ39, g14_σ39, g15_σ39, g20_σ39, g25_σ39]); exact n102), fun _ => by (obtain ⟨c, rc, st⟩ := i3 n31; exact ⟨c, rc, Or.inl st⟩), by (try simp only [g7_σ39, g9_σ39, g10_σ39, g11_σ39, g12_σ39, g13_σ39, g14_σ39, g15_σ39, g20_σ39, g25_σ39]); omega, hB⟩ | exact ⟨hK, by (try simp only [g7_σ39, g9_σ39, g10_σ39, g11_σ39, g12_σ39, g13_σ39, g14_σ39, g15_σ39, g20_σ39, g25_σ39]); omega, fun q => absurd q (by (try simp only [g7_σ39, g9_σ39, g10_σ39, g11_σ39, g12_σ39, g13_σ39, g14_σ39, g15_σ39, g20_σ39, g25_σ39]); exact n102), fun _ => ⟨_, rc9, Or.inr ⟨z36.1, o90⟩⟩, by (try simp only [g7_σ39, g9_σ39, g10_σ39, g11_σ39, g12_σ39, g13_σ39, g14_σ39, g15_σ39, g20_σ39, g25_σ39]); omega, hB⟩ | exact absurd y31 n102 | exact ⟨hK, by (try simp only [g7_σ39, g9_σ39, g10_σ39, g11_σ39, g12_σ39, g13_σ39, g14_σ39, g15_σ39, g20_σ39, g25_σ39]); omega, fun _ => ⟨_, ⟨rc9, z36.1, o90⟩, ⟨RX_i g9_σ39 g10_σ39 g11_σ39 g12_σ39 g13_σ39 ((hT.2 224 (by decide)).trans tE) nE rl9.1.1.2, rl9.1.2⟩, by (try simp only [g7_σ39, g9_σ39, g10_σ39, g11_σ39, g12_σ39, g13_σ39, g14_σ39, g15_σ39, g20_σ39, g25_σ39])⟩, fun q => absurd (by (try simp only [g7_σ39, g9_σ39, g10_σ39, g11_σ39, g12_σ39, g13_σ39, g14_σ39, g15_σ39, g20_σ39, g25_σ39]); exact y102) q, by (try simp only [g7_σ39, g9_σ39, g10_σ39, g11_σ39, g12_σ39, g13_σ39, g14_σ39, g15_σ39, g20_σ39, g25_σ39]); omega, hB⟩, g7_σ39, g9_σ39⟩)⟩
    · have n36 := hc24
      refine ok_if (fun hc40 => ?_) (fun hc40 => ?_)
      · have w40 : w9 = false := (a9 n36).mp hc40
        subst w40
        refine ok_gC rfl ?_
        refine ok_zbT (Q := fun V σ => (TOK σ.1 ∧ ((σ5.1 218 11).toInt ≤ (σ.1 218 11).toInt ∧ 0 ≤ (σ.1 218 22).toInt ∧ (σ.1 218 22).toInt ≤ 40) ∧ (σ.1 218 14 = 0 → (σ5.1 218 11).toInt < (σ.1 218 11).toInt ∧ ∃ c, stp tx n x1 (p9, false, (lst (σ5.1 230) (σ5.1 218 22).toInt.toNat), (σ5.1 218 25).toInt.toNat) = some (some c) ∧ REL σ.1 tx n c ∧ (V = 0 ↔ c.2.1 = false)) ∧ (¬ σ.1 218 14 = 0 → stp tx n x1 (p9, false, (lst (σ5.1 230) (σ5.1 218 22).toInt.toNat), (σ5.1 218 25).toInt.toNat) = none) ∧ ZB σ.1) ∧ (σ.1 218 7 = σ5.1 218 7 ∧ σ.1 218 9 = σ5.1 218 9 ∧ σ.1 218 20 = σ5.1 218 20 ∧ σ.1 218 25 = σ5.1 218 25)) hT (s_X12_readsPart_220_r hN (hR.tr hT) (hK) (by rw [hT.2 224 (by decide)]; exact hY) (rl9.1.1) (y31) (hB) (hn) (by (try simp only [g7_σ5, g9_σ5, g20_σ5]); omega) (rl9.2.2.2.2 rfl) (rl9.2.1.2) (rl9.1.2)) (by decide) (fun v41 σ42 hOσ42 hT hqv41 => ?_)
        have hqv41 : (TOK σ42.1 ∧ ((σ5.1 218 11).toInt ≤ (σ42.1 218 11).toInt ∧ 0 ≤ (σ42.1 218 22).toInt ∧ (σ42.1 218 22).toInt ≤ 40) ∧ (σ42.1 218 14 = 0 → (σ5.1 218 11).toInt < (σ42.1 218 11).toInt ∧ ∃ c, stp tx n x1 (p9, false, (lst (σ5.1 230) (σ5.1 218 22).toInt.toNat), (σ5.1 218 25).toInt.toNat) = some (some c) ∧ REL σ42.1 tx n c ∧ (v41 = 0 ↔ c.2.1 = false)) ∧ (¬ σ42.1 218 14 = 0 → stp tx n x1 (p9, false, (lst (σ5.1 230) (σ5.1 218 22).toInt.toNat), (σ5.1 218 25).toInt.toNat) = none) ∧ ZB σ42.1) ∧ (σ42.1 218 7 = σ5.1 218 7 ∧ σ42.1 218 9 = σ5.1 218 9 ∧ σ42.1 218 20 = σ5.1 218 20 ∧ σ42.1 218 25 = σ5.1 218 25) := hqv41
        have hkv41 := hqv41
        have hqv41 := hqv41.1
        have hK : TOK σ42.1 := by first | exact hqv41.1 | exact hqv41.1.1 | exact TOK_p eσ42 (by decide) hK
        have hB : ZB σ42.1 := by first | exact hqv41.2.1 | exact hqv41.2.2.2.2 | exact hqv41.2.2.2.2.2
        try simp only [g7_σ5, g9_σ5, g20_σ5] at hqv41
        have g7_σ42 : σ42.1 218 7 = (σ0.1 218 7) := (hkv41.2.1).trans g7_σ5
        have g9_σ42 : σ42.1 218 9 = (σ0.1 218 9) := (hkv41.2.2.1).trans g9_σ5
        have g20_σ42 : σ42.1 218 20 = ((1 : Int32) <<< (x1 &&& 31)) := (hkv41.2.2.2.1).trans g20_σ5
        have g25_σ42 : σ42.1 218 25 = (σ5.1 218 25) := hkv41.2.2.2.2
        have m46 := hqv41.2
        have hKN := hK.1
        exact ih27_5 (v41, x4_5, σ42) (show Tr [218, 226, 227, 228, 229, 230] σ0 σ42 ∧ ((((σ0.1 218 11).toInt ≤ (σ42.1 218 11).toInt ∧ 0 ≤ (σ42.1 218 22).toInt ∧ (σ42.1 218 22).toInt ≤ 40) ∧ 0 ≤ (σ42.1 218 25).toInt ∧ (σ42.1 218 25).toInt ≤ 24) ∧ (σ42.1 218 14 = 0 → ∃ c : Cf, Rch tx n x1 ((i, false, [], (σ0.1 218 25).toInt.toNat) : Cf) c ∧ REL σ42.1 tx n c ∧ (¬ x4_5 = 0 → (v41 = 0 ↔ c.2.1 = false)) ∧ (x4_5 = 0 → stp tx n x1 c = some none ∧ c.2.1 = true)) ∧ (¬ σ42.1 218 14 = 0 → ∃ c : Cf, Rch tx n x1 ((i, false, [], (σ0.1 218 25).toInt.toNat) : Cf) c ∧ stp tx n x1 c = none)) ∧ (TOK σ42.1) ∧ (ZB σ42.1) ∧ (σ42.1 218 7 = (σ0.1 218 7)) ∧ (σ42.1 218 9 = (σ0.1 218 9)) ∧ (σ42.1 218 20 = ((1 : Int32) <<< (x1 &&& 31))) from ⟨hT, (by first | exact ⟨⟨⟨by (try simp only [g7_σ42, g9_σ42, g20_σ42, g25_σ42]); omega, by (try simp only [g7_σ42, g9_σ42, g20_σ42, g25_σ42]); omega⟩, by (try simp only [g7_σ42, g9_σ42, g20_σ42, g25_σ42]); omega⟩, fun q => by (obtain ⟨c, st, rl, iv⟩ := (m46.2.1 q).2; exact ⟨c, rc9.sn st, rl, fun _ => iv, fun h => absurd h n36⟩), fun q => ⟨_, rc9, m46.2.2.1 q⟩⟩ | exact ⟨⟨⟨by (try simp only [g7_σ42, g9_σ42, g20_σ42, g25_σ42]); omega, by (try simp only [g7_σ42, g9_σ42, g20_σ42, g25_σ42]); omega⟩, by (try simp only [g7_σ42, g9_σ42, g20_σ42, g25_σ42]); omega⟩, fun q => by (rcases m54.2.1 q with h | ⟨c, st, rl, _, h⟩; exact absurd (h.1.symm.trans e61) (by decide); rcases h with h | h; exact ⟨c, rc9.sn st, rl, fun _ => ⟨fun k => absurd k (by decide), fun k => absurd (h.2.symm.trans k) (by decide)⟩, fun k => absurd k (by decide)⟩; exact absurd (h.1.symm.trans e61) (by decide)), fun q => ⟨_, rc9, m54.2.2.1 q⟩⟩ | exact ⟨⟨⟨by (try simp only [g7_σ42, g9_σ42, g20_σ42, g25_σ42]); omega, by (try simp only [g7_σ42, g9_σ42, g20_σ42, g25_σ42]); omega⟩, by (try simp only [g7_σ42, g9_σ42, g20_σ42, g25_σ42]); omega⟩, fun q => by (rcases m54.2.1 q with h | ⟨c, st, rl, _, h⟩; exact ⟨_, rc9, h.2.2, fun k => absurd rfl k, fun _ => ⟨h.2.1, rfl⟩⟩; rcases h with h | h; exact absurd (h.1.symm.trans e73) (by decide); exact absurd (h.1.symm.trans e73) (by decide)), fun q => ⟨_, rc9, m54.2.2.1 q⟩⟩ | exact ⟨⟨⟨by (try simp only [g7_σ42, g9_σ42, g20_σ42, g25_σ42]); omega, by (try simp only [g7_σ42, g9_σ42, g20_σ42, g25_σ42]); omega⟩, by (try simp only [g7_σ42, g9_σ42, g20_σ42, g25_σ42]); omega⟩, fun q => by (rcases m54.2.1 q with h | ⟨c, st, rl, _, h⟩; exact absurd h.1 n73; rcases h with h | h; exact absurd h.1 n61; exact ⟨c, rc9.sn st, rl, fun _ => ⟨fun _ => h.2, fun _ => rfl⟩, fun k => absurd k (by decide)⟩), fun q => ⟨_, rc9, m54.2.2.1 q⟩⟩ | exact absurd (e73.symm.trans e61) (by decide)), hK, hB, g7_σ42, g9_σ42, g20_σ42⟩) (show (600 - (σ42.1 218 11).toInt).toNat + (if σ42.1 218 14 = 0 then 1 else 0) + (if x4_5 = 0 then 0 else 1) < (600 - (σ5.1 218 11).toInt).toNat + (if σ5.1 218 14 = 0 then 1 else 0) + (if x4_5 = 0 then 0 else 1) from (by first | exact mu1 (by omega) (by omega) y31 n36 (fun q => Or.inl (m46.2.1 q).1) | exact mu1 (by omega) (by omega) y31 n36 (fun q => Or.inr rfl) | exact mu1 (by omega) (by omega) y31 n36 (fun q => by rcases m54.2.1 q with h | ⟨c, st, rl, g, h⟩; exact absurd h.1 (by first | exact n73 | (rw [e61]; decide)); exact Or.inl g) | exact absurd (e73.symm.trans e61) (by decide)))
      · have w40 : w9 = true := by cases hw : w9; exact absurd ((a9 n36).mpr hw) hc40; rfl
        subst w40
        refine ok_gC rfl ?_
        refine ok_zbT (Q := fun V σ => (TOK σ.1 ∧ ((σ5.1 218 11).toInt ≤ (σ.1 218 11).toInt ∧ 0 ≤ (σ.1 218 22).toInt ∧ (σ.1 218 22).toInt ≤ 40) ∧ (σ.1 218 14 = 0 → (V = -1 ∧ stp tx n x1 (p9, true, (lst (σ5.1 230) (σ5.1 218 22).toInt.toNat), (σ5.1 218 25).toInt.toNat) = some none ∧ REL σ.1 tx n (p9, true, (lst (σ5.1 230) (σ5.1 218 22).toInt.toNat), (σ5.1 218 25).toInt.toNat)) ∨ (∃ c, stp tx n x1 (p9, true, (lst (σ5.1 230) (σ5.1 218 22).toInt.toNat), (σ5.1 218 25).toInt.toNat) = some (some c) ∧ REL σ.1 tx n c ∧ (σ5.1 218 11).toInt < (σ.1 218 11).toInt ∧ ((V = 0 ∧ c.2.1 = true) ∨ (V = 1 ∧ c.2.1 = false)))) ∧ (¬ σ.1 218 14 = 0 → stp tx n x1 (p9, true, (lst (σ5.1 230) (σ5.1 218 22).toInt.toNat), (σ5.1 218 25).toInt.toNat) = none) ∧ (0 ≤ (σ.1 218 25).toInt ∧ (σ.1 218 25).toInt ≤ 24) ∧ ZB σ.1) ∧ (σ.1 218 7 = σ5.1 218 7 ∧ σ.1 218 9 = σ5.1 218 9 ∧ σ.1 218 20 = σ5.1 218 20)) hT (s_X12_goesBehind_r hN (hR.tr hT) (hK) (by rw [hT.2 224 (by decide)]; exact hY) (rl9.1.1) (y31) (hB) (by (try simp only [g7_σ5, g9_σ5, g20_σ5]); omega) ((rl9.2.2.2.1 rfl).1) (rl9.2.1.2) ((rl9.2.2.2.1 rfl).2) (rl9.1.2) (i1.2)) (by decide) (fun v43 σ44 hOσ44 hT hqv43 => ?_)
        have hqv43 : (TOK σ44.1 ∧ ((σ5.1 218 11).toInt ≤ (σ44.1 218 11).toInt ∧ 0 ≤ (σ44.1 218 22).toInt ∧ (σ44.1 218 22).toInt ≤ 40) ∧ (σ44.1 218 14 = 0 → (v43 = -1 ∧ stp tx n x1 (p9, true, (lst (σ5.1 230) (σ5.1 218 22).toInt.toNat), (σ5.1 218 25).toInt.toNat) = some none ∧ REL σ44.1 tx n (p9, true, (lst (σ5.1 230) (σ5.1 218 22).toInt.toNat), (σ5.1 218 25).toInt.toNat)) ∨ (∃ c, stp tx n x1 (p9, true, (lst (σ5.1 230) (σ5.1 218 22).toInt.toNat), (σ5.1 218 25).toInt.toNat) = some (some c) ∧ REL σ44.1 tx n c ∧ (σ5.1 218 11).toInt < (σ44.1 218 11).toInt ∧ ((v43 = 0 ∧ c.2.1 = true) ∨ (v43 = 1 ∧ c.2.1 = false)))) ∧ (¬ σ44.1 218 14 = 0 → stp tx n x1 (p9, true, (lst (σ5.1 230) (σ5.1 218 22).toInt.toNat), (σ5.1 218 25).toInt.toNat) = none) ∧ (0 ≤ (σ44.1 218 25).toInt ∧ (σ44.1 218 25).toInt ≤ 24) ∧ ZB σ44.1) ∧ (σ44.1 218 7 = σ5.1 218 7 ∧ σ44.1 218 9 = σ5.1 218 9 ∧ σ44.1 218 20 = σ5.1 218 20) := hqv43
        have hkv43 := hqv43
        have hqv43 := hqv43.1
        have hK : TOK σ44.1 := by first | exact hqv43.1 | exact hqv43.1.1 | exact TOK_p eσ44 (by decide) hK
        have hB : ZB σ44.1 := by first | exact hqv43.2.1 | exact hqv43.2.2.2.2 | exact hqv43.2.2.2.2.2
        try simp only [g7_σ5, g9_σ5, g20_σ5] at hqv43
        have g7_σ44 : σ44.1 218 7 = (σ0.1 218 7) := (hkv43.2.1).trans g7_σ5
        have g9_σ44 : σ44.1 218 9 = (σ0.1 218 9) := (hkv43.2.2.1).trans g9_σ5
        have g20_σ44 : σ44.1 218 20 = ((1 : Int32) <<< (x1 &&& 31)) := (hkv43.2.2.2).trans g20_σ5
        have m54 := hqv43.2
        have hKN := hK.1
        refine ok_if (fun hc45 => ?_) (fun hc45 => ?_)
        · have e61 := hc45
          rw [J_X12_readsSum_69.eq_1]
          refine ok_if (fun hc46 => ?_) (fun hc46 => ?_)
          · have e73 := hc46
            exact ih27_5 (1, 0, σ44) (show Tr [218, 226, 227, 228, 229, 230] σ0 σ44 ∧ ((((σ0.1 218 11).toInt ≤ (σ44.1 218 11).toInt ∧ 0 ≤ (σ44.1 218 22).toInt ∧ (σ44.1 218 22).toInt ≤ 40) ∧ 0 ≤ (σ44.1 218 25).toInt ∧ (σ44.1 218 25).toInt ≤ 24) ∧ (σ44.1 218 14 = 0 → ∃ c : Cf, Rch tx n x1 ((i, false, [], (σ0.1 218 25).toInt.toNat) : Cf) c ∧ REL σ44.1 tx n c ∧ (¬ (0 : Int32) = 0 → ((1 : Int32) = 0 ↔ c.2.1 = false)) ∧ ((0 : Int32) = 0 → stp tx n x1 c = some none ∧ c.2.1 = true)) ∧ (¬ σ44.1 218 14 = 0 → ∃ c : Cf, Rch tx n x1 ((i, false, [], (σ0.1 218 25).toInt.toNat) : Cf) c ∧ stp tx n x1 c = none)) ∧ (TOK σ44.1) ∧ (ZB σ44.1) ∧ (σ44.1 218 7 = (σ0.1 218 7)) ∧ (σ44.1 218 9 = (σ0.1 218 9)) ∧ (σ44.1 218 20 = ((1 : Int32) <<< (x1 &&& 31))) from ⟨hT, (by first | exact ⟨⟨⟨by (try simp only [g7_σ44, g9_σ44, g20_σ44]); omega, by (try simp only [g7_σ44, g9_σ44, g20_σ44]); omega⟩, by (try simp only [g7_σ44, g9_σ44, g20_σ44]); omega⟩, fun q => by (obtain ⟨c, st, rl, iv⟩ := (m46.2.1 q).2; exact ⟨c, rc9.sn st, rl, fun _ => iv, fun h => absurd h n36⟩), fun q => ⟨_, rc9, m46.2.2.1 q⟩⟩ | exact ⟨⟨⟨by (try simp only [g7_σ44, g9_σ44, g20_σ44]); omega, by (try simp only [g7_σ44, g9_σ44, g20_σ44]); omega⟩, by (try simp only [g7_σ44, g9_σ44, g20_σ44]); omega⟩, fun q => by (rcases m54.2.1 q with h | ⟨c, st, rl, _, h⟩; exact absurd (h.1.symm.trans e61) (by decide); rcases h with h | h; exact ⟨c, rc9.sn st, rl, fun _ => ⟨fun k => absurd k (by decide), fun k => absurd (h.2.symm.trans k) (by decide)⟩, fun k => absurd k (by decide)⟩; exact absurd (h.1.symm.trans e61) (by decide)), fun q => ⟨_, rc9, m54.2.2.1 q⟩⟩ | exact ⟨⟨⟨by (try simp only [g7_σ44, g9_σ44, g20_σ44]); omega, by (try simp only [g7_σ44, g9_σ44, g20_σ44]); omega⟩, by (try simp only [g7_σ44, g9_σ44, g20_σ44]); omega⟩, fun q => by (rcases m54.2.1 q with h | ⟨c, st, rl, _, h⟩; exact ⟨_, rc9, h.2.2, fun k => absurd rfl k, fun _ => ⟨h.2.1, rfl⟩⟩; rcases h with h | h; exact absurd (h.1.symm.trans e73) (by decide); exact absurd (h.1.symm.trans e73) (by decide)), fun q => ⟨_, rc9, m54.2.2.1 q⟩⟩ | exact ⟨⟨⟨by (try simp only [g7_σ44, g9_σ44, g20_σ44]); omega, by (try simp only [g7_σ44, g9_σ44, g20_σ44]); omega⟩, by (try simp only [g7_σ44, g9_σ44, g20_σ44]); omega⟩, fun q => by (rcases m54.2.1 q with h | ⟨c, st, rl, _, h⟩; exact absurd h.1 n73; rcases h with h | h; exact absurd h.1 n61; exact ⟨c, rc9.sn st, rl, fun _ => ⟨fun _ => h.2, fun _ => rfl⟩, fun k => absurd k (by decide)⟩), fun q => ⟨_, rc9, m54.2.2.1 q⟩⟩ | exact absurd (e73.symm.trans e61) (by decide)), hK, hB, g7_σ44, g9_σ44, g20_σ44⟩) (show (600 - (σ44.1 218 11).toInt).toNat + (if σ44.1 218 14 = 0 then 1 else 0) + (if (0 : Int32) = 0 then 0 else 1) < (600 - (σ5.1 218 11).toInt).toNat + (if σ5.1 218 14 = 0 then 1 else 0) + (if x4_5 = 0 then 0 else 1) from (by first | exact mu1 (by omega) (by omega) y31 n36 (fun q => Or.inl (m46.2.1 q).1) | exact mu1 (by omega) (by omega) y31 n36 (fun q => Or.inr rfl) | exact mu1 (by omega) (by omega) y31 n36 (fun q => by rcases m54.2.1 q with h | ⟨c, st, rl, g, h⟩; exact absurd h.1 (by first | exact n73 | (rw [e61]; decide)); exact Or.inl g) | exact absurd (e73.symm.trans e61) (by decide)))
          · have n73 := hc46
            exact ih27_5 (1, 1, σ44) (show Tr [218, 226, 227, 228, 229, 230] σ0 σ44 ∧ ((((σ0.1 218 11).toInt ≤ (σ44.1 218 11).toInt ∧ 0 ≤ (σ44.1 218 22).toInt ∧ (σ44.1 218 22).toInt ≤ 40) ∧ 0 ≤ (σ44.1 218 25).toInt ∧ (σ44.1 218 25).toInt ≤ 24) ∧ (σ44.1 218 14 = 0 → ∃ c : Cf, Rch tx n x1 ((i, false, [], (σ0.1 218 25).toInt.toNat) : Cf) c ∧ REL σ44.1 tx n c ∧ (¬ (1 : Int32) = 0 → ((1 : Int32) = 0 ↔ c.2.1 = false)) ∧ ((1 : Int32) = 0 → stp tx n x1 c = some none ∧ c.2.1 = true)) ∧ (¬ σ44.1 218 14 = 0 → ∃ c : Cf, Rch tx n x1 ((i, false, [], (σ0.1 218 25).toInt.toNat) : Cf) c ∧ stp tx n x1 c = none)) ∧ (TOK σ44.1) ∧ (ZB σ44.1) ∧ (σ44.1 218 7 = (σ0.1 218 7)) ∧ (σ44.1 218 9 = (σ0.1 218 9)) ∧ (σ44.1 218 20 = ((1 : Int32) <<< (x1 &&& 31))) from ⟨hT, (by first | exact ⟨⟨⟨by (try simp only [g7_σ44, g9_σ44, g20_σ44]); omega, by (try simp only [g7_σ44, g9_σ44, g20_σ44]); omega⟩, by (try simp only [g7_σ44, g9_σ44, g20_σ44]); omega⟩, fun q => by (obtain ⟨c, st, rl, iv⟩ := (m46.2.1 q).2; exact ⟨c, rc9.sn st, rl, fun _ => iv, fun h => absurd h n36⟩), fun q => ⟨_, rc9, m46.2.2.1 q⟩⟩ | exact ⟨⟨⟨by (try simp only [g7_σ44, g9_σ44, g20_σ44]); omega, by (try simp only [g7_σ44, g9_σ44, g20_σ44]); omega⟩, by (try simp only [g7_σ44, g9_σ44, g20_σ44]); omega⟩, fun q => by (rcases m54.2.1 q with h | ⟨c, st, rl, _, h⟩; exact absurd (h.1.symm.trans e61) (by decide); rcases h with h | h; exact ⟨c, rc9.sn st, rl, fun _ => ⟨fun k => absurd k (by decide), fun k => absurd (h.2.symm.trans k) (by decide)⟩, fun k => absurd k (by decide)⟩; exact absurd (h.1.symm.trans e61) (by decide)), fun q => ⟨_, rc9, m54.2.2.1 q⟩⟩ | exact ⟨⟨⟨by (try simp only [g7_σ44, g9_σ44, g20_σ44]); omega, by (try simp only [g7_σ44, g9_σ44, g20_σ44]); omega⟩, by (try simp only [g7_σ44, g9_σ44, g20_σ44]); omega⟩, fun q => by (rcases m54.2.1 q with h | ⟨c, st, rl, _, h⟩; exact ⟨_, rc9, h.2.2, fun k => absurd rfl k, fun _ => ⟨h.2.1, rfl⟩⟩; rcases h with h | h; exact absurd (h.1.symm.trans e73) (by decide); exact absurd (h.1.symm.trans e73) (by decide)), fun q => ⟨_, rc9, m54.2.2.1 q⟩⟩ | exact ⟨⟨⟨by (try simp only [g7_σ44, g9_σ44, g20_σ44]); omega, by (try simp only [g7_σ44, g9_σ44, g20_σ44]); omega⟩, by (try simp only [g7_σ44, g9_σ44, g20_σ44]); omega⟩, fun q => by (rcases m54.2.1 q with h | ⟨c, st, rl, _, h⟩; exact absurd h.1 n73; rcases h with h | h; exact absurd h.1 n61; exact ⟨c, rc9.sn st, rl, fun _ => ⟨fun _ => h.2, fun _ => rfl⟩, fun k => absurd k (by decide)⟩), fun q => ⟨_, rc9, m54.2.2.1 q⟩⟩ | exact absurd (e73.symm.trans e61) (by decide)), hK, hB, g7_σ44, g9_σ44, g20_σ44⟩) (show (600 - (σ44.1 218 11).toInt).toNat + (if σ44.1 218 14 = 0 then 1 else 0) + (if (1 : Int32) = 0 then 0 else 1) < (600 - (σ5.1 218 11).toInt).toNat + (if σ5.1 218 14 = 0 then 1 else 0) + (if x4_5 = 0 then 0 else 1) from (by first | exact mu1 (by omega) (by omega) y31 n36 (fun q => Or.inl (m46.2.1 q).1) | exact mu1 (by omega) (by omega) y31 n36 (fun q => Or.inr rfl) | exact mu1 (by omega) (by omega) y31 n36 (fun q => by rcases m54.2.1 q with h | ⟨c, st, rl, g, h⟩; exact absurd h.1 (by first | exact n73 | (rw [e61]; decide)); exact Or.inl g) | exact absurd (e73.symm.trans e61) (by decide)))
        · have n61 := hc45
          rw [J_X12_readsSum_69.eq_1]
          refine ok_if (fun hc47 => ?_) (fun hc47 => ?_)
          · have e73 := hc47
            exact ih27_5 (0, 0, σ44) (show Tr [218, 226, 227, 228, 229, 230] σ0 σ44 ∧ ((((σ0.1 218 11).toInt ≤ (σ44.1 218 11).toInt ∧ 0 ≤ (σ44.1 218 22).toInt ∧ (σ44.1 218 22).toInt ≤ 40) ∧ 0 ≤ (σ44.1 218 25).toInt ∧ (σ44.1 218 25).toInt ≤ 24) ∧ (σ44.1 218 14 = 0 → ∃ c : Cf, Rch tx n x1 ((i, false, [], (σ0.1 218 25).toInt.toNat) : Cf) c ∧ REL σ44.1 tx n c ∧ (¬ (0 : Int32) = 0 → ((0 : Int32) = 0 ↔ c.2.1 = false)) ∧ ((0 : Int32) = 0 → stp tx n x1 c = some none ∧ c.2.1 = true)) ∧ (¬ σ44.1 218 14 = 0 → ∃ c : Cf, Rch tx n x1 ((i, false, [], (σ0.1 218 25).toInt.toNat) : Cf) c ∧ stp tx n x1 c = none)) ∧ (TOK σ44.1) ∧ (ZB σ44.1) ∧ (σ44.1 218 7 = (σ0.1 218 7)) ∧ (σ44.1 218 9 = (σ0.1 218 9)) ∧ (σ44.1 218 20 = ((1 : Int32) <<< (x1 &&& 31))) from ⟨hT, (by first | exact ⟨⟨⟨by (try simp only [g7_σ44, g9_σ44, g20_σ44]); omega, by (try simp only [g7_σ44, g9_σ44, g20_σ44]); omega⟩, by (try simp only [g7_σ44, g9_σ44, g20_σ44]); omega⟩, fun q => by (obtain ⟨c, st, rl, iv⟩ := (m46.2.1 q).2; exact ⟨c, rc9.sn st, rl, fun _ => iv, fun h => absurd h n36⟩), fun q => ⟨_, rc9, m46.2.2.1 q⟩⟩ | exact ⟨⟨⟨by (try simp only [g7_σ44, g9_σ44, g20_σ44]); omega, by (try simp only [g7_σ44, g9_σ44, g20_σ44]); omega⟩, by (try simp only [g7_σ44, g9_σ44, g20_σ44]); omega⟩, fun q => by (rcases m54.2.1 q with h | ⟨c, st, rl, _, h⟩; exact absurd (h.1.symm.trans e61) (by decide); rcases h with h | h; exact ⟨c, rc9.sn st, rl, fun _ => ⟨fun k => absurd k (by decide), fun k => absurd (h.2.symm.trans k) (by decide)⟩, fun k => absurd k (by decide)⟩; exact absurd (h.1.symm.trans e61) (by decide)), fun q => ⟨_, rc9, m54.2.2.1 q⟩⟩ | exact ⟨⟨⟨by (try simp only [g7_σ44, g9_σ44, g20_σ44]); omega, by (try simp only [g7_σ44, g9_σ44, g20_σ44]); omega⟩, by (try simp only [g7_σ44, g9_σ44, g20_σ44]); omega⟩, fun q => by (rcases m54.2.1 q with h | ⟨c, st, rl, _, h⟩; exact ⟨_, rc9, h.2.2, fun k => absurd rfl k, fun _ => ⟨h.2.1, rfl⟩⟩; rcases h with h | h; exact absurd (h.1.symm.trans e73) (by decide); exact absurd (h.1.symm.trans e73) (by decide)), fun q => ⟨_, rc9, m54.2.2.1 q⟩⟩ | exact ⟨⟨⟨by (try simp only [g7_σ44, g9_σ44, g20_σ44]); omega, by (try simp only [g7_σ44, g9_σ44, g20_σ44]); omega⟩, by (try simp only [g7_σ44, g9_σ44, g20_σ44]); omega⟩, fun q => by (rcases m54.2.1 q with h | ⟨c, st, rl, _, h⟩; exact absurd h.1 n73; rcases h with h | h; exact absurd h.1 n61; exact ⟨c, rc9.sn st, rl, fun _ => ⟨fun _ => h.2, fun _ => rfl⟩, fun k => absurd k (by decide)⟩), fun q => ⟨_, rc9, m54.2.2.1 q⟩⟩ | exact absurd (e73.symm.trans e61) (by decide)), hK, hB, g7_σ44, g9_σ44, g20_σ44⟩) (show (600 - (σ44.1 218 11).toInt).toNat + (if σ44.1 218 14 = 0 then 1 else 0) + (if (0 : Int32) = 0 then 0 else 1) < (600 - (σ5.1 218 11).toInt).toNat + (if σ5.1 218 14 = 0 then 1 else 0) + (if x4_5 = 0 then 0 else 1) from (by first | exact mu1 (by omega) (by omega) y31 n36 (fun q => Or.inl (m46.2.1 q).1) | exact mu1 (by omega) (by omega) y31 n36 (fun q => Or.inr rfl) | exact mu1 (by omega) (by omega) y31 n36 (fun q => by rcases m54.2.1 q with h | ⟨c, st, rl, g, h⟩; exact absurd h.1 (by first | exact n73 | (rw [e61]; decide)); exact Or.inl g) | exact absurd (e73.symm.trans e61) (by decide)))
          · have n73 := hc47
            exact ih27_5 (0, 1, σ44) (show Tr [218, 226, 227, 228, 229, 230] σ0 σ44 ∧ ((((σ0.1 218 11).toInt ≤ (σ44.1 218 11).toInt ∧ 0 ≤ (σ44.1 218 22).toInt ∧ (σ44.1 218 22).toInt ≤ 40) ∧ 0 ≤ (σ44.1 218 25).toInt ∧ (σ44.1 218 25).toInt ≤ 24) ∧ (σ44.1 218 14 = 0 → ∃ c : Cf, Rch tx n x1 ((i, false, [], (σ0.1 218 25).toInt.toNat) : Cf) c ∧ REL σ44.1 tx n c ∧ (¬ (1 : Int32) = 0 → ((0 : Int32) = 0 ↔ c.2.1 = false)) ∧ ((1 : Int32) = 0 → stp tx n x1 c = some none ∧ c.2.1 = true)) ∧ (¬ σ44.1 218 14 = 0 → ∃ c : Cf, Rch tx n x1 ((i, false, [], (σ0.1 218 25).toInt.toNat) : Cf) c ∧ stp tx n x1 c = none)) ∧ (TOK σ44.1) ∧ (ZB σ44.1) ∧ (σ44.1 218 7 = (σ0.1 218 7)) ∧ (σ44.1 218 9 = (σ0.1 218 9)) ∧ (σ44.1 218 20 = ((1 : Int32) <<< (x1 &&& 31))) from ⟨hT, (by first | exact ⟨⟨⟨by (try simp only [g7_σ44, g9_σ44, g20_σ44]); omega, by (try simp only [g7_σ44, g9_σ44, g20_σ44]); omega⟩, by (try simp only [g7_σ44, g9_σ44, g20_σ44]); omega⟩, fun q => by (obtain ⟨c, st, rl, iv⟩ := (m46.2.1 q).2; exact ⟨c, rc9.sn st, rl, fun _ => iv, fun h => absurd h n36⟩), fun q => ⟨_, rc9, m46.2.2.1 q⟩⟩ | exact ⟨⟨⟨by (try simp only [g7_σ44, g9_σ44, g20_σ44]); omega, by (try simp only [g7_σ44, g9_σ44, g20_σ44]); omega⟩, by (try simp only [g7_σ44, g9_σ44, g20_σ44]); omega⟩, fun q => by (rcases m54.2.1 q with h | ⟨c, st, rl, _, h⟩; exact absurd (h.1.symm.trans e61) (by decide); rcases h with h | h; exact ⟨c, rc9.sn st, rl, fun _ => ⟨fun k => absurd k (by decide), fun k => absurd (h.2.symm.trans k) (by decide)⟩, fun k => absurd k (by decide)⟩; exact absurd (h.1.symm.trans e61) (by decide)), fun q => ⟨_, rc9, m54.2.2.1 q⟩⟩ | exact ⟨⟨⟨by (try simp only [g7_σ44, g9_σ44, g20_σ44]); omega, by (try simp only [g7_σ44, g9_σ44, g20_σ44]); omega⟩, by (try simp only [g7_σ44, g9_σ44, g20_σ44]); omega⟩, fun q => by (rcases m54.2.1 q with h | ⟨c, st, rl, _, h⟩; exact ⟨_, rc9, h.2.2, fun k => absurd rfl k, fun _ => ⟨h.2.1, rfl⟩⟩; rcases h with h | h; exact absurd (h.1.symm.trans e73) (by decide); exact absurd (h.1.symm.trans e73) (by decide)), fun q => ⟨_, rc9, m54.2.2.1 q⟩⟩ | exact ⟨⟨⟨by (try simp only [g7_σ44, g9_σ44, g20_σ44]); omega, by (try simp only [g7_σ44, g9_σ44, g20_σ44]); omega⟩, by (try simp only [g7_σ44, g9_σ44, g20_σ44]); omega⟩, fun q => by (rcases m54.2.1 q with h | ⟨c, st, rl, _, h⟩; exact absurd h.1 n73; rcases h with h | h; exact absurd h.1 n61; exact ⟨c, rc9.sn st, rl, fun _ => ⟨fun _ => h.2, fun _ => rfl⟩, fun k => absurd k (by decide)⟩), fun q => ⟨_, rc9, m54.2.2.1 q⟩⟩ | exact absurd (e73.symm.trans e61) (by decide)), hK, hB, g7_σ44, g9_σ44, g20_σ44⟩) (show (600 - (σ44.1 218 11).toInt).toNat + (if σ44.1 218 14 = 0 then 1 else 0) + (if (1 : Int32) = 0 then 0 else 1) < (600 - (σ5.1 218 11).toInt).toNat + (if σ5.1 218 14 = 0 then 1 else 0) + (if x4_5 = 0 then 0 else 1) from (by first | exact mu1 (by omega) (by omega) y31 n36 (fun q => Or.inl (m46.2.1 q).1) | exact mu1 (by omega) (by omega) y31 n36 (fun q => Or.inr rfl) | exact mu1 (by omega) (by omega) y31 n36 (fun q => by rcases m54.2.1 q with h | ⟨c, st, rl, g, h⟩; exact absurd h.1 (by first | exact n73 | (rw [e61]; decide)); exact Or.inl g) | exact absurd (e73.symm.trans e61) (by decide)))

set_option maxHeartbeats 4000000 in
set_option maxRecDepth 100000 in
theorem s_X12_readsSum_232_r {N : Nat} (hN : 1048576 ≤ N) {x1 : Int32} {σ0 : zS} {tx : Nat → Int32} {n i : Nat} (hR : RF σ0.2.2) (hK : TOK σ0.1) (hY : BYT (σ0.1 224)) (hG : RX σ0.1 tx n i) (hg : σ0.1 218 14 = 0) (hB : ZB σ0.1) (hn : 0 ≤ x1.toInt ∧ x1.toInt ≤ 10) (hi : i ≤ n) (hs25 : 0 ≤ (σ0.1 218 25).toInt ∧ (σ0.1 218 25).toInt ≤ 24) : Ok (f_X12_readsSum N 218 x1 232 σ0) (fun r => Tr [218, 226, 227, 228, 229, 230] σ0 r.2 ∧ ((TOK r.2.1 ∧ (σ0.1 218 11).toInt ≤ (r.2.1 218 11).toInt ∧ (r.2.1 218 14 = 0 → ∃ c : Cf, (Rch tx n x1 ((i, false, [], (σ0.1 218 25).toInt.toNat) : Cf) c ∧ stp tx n x1 c = some none ∧ ¬ true ∈ c.2.2.1) ∧ (RX r.2.1 tx n c.1 ∧ c.1 ≤ n) ∧ c.2.2.2 = (r.2.1 218 25).toInt.toNat) ∧ (¬ r.2.1 218 14 = 0 → ∃ c : Cf, Rch tx n x1 ((i, false, [], (σ0.1 218 25).toInt.toNat) : Cf) c ∧ (stp tx n x1 c = none ∨ (stp tx n x1 c = some none ∧ true ∈ c.2.2.1))) ∧ (0 ≤ (r.2.1 218 25).toInt ∧ (r.2.1 218 25).toInt ≤ 24) ∧ ZB r.2.1) ∧ (r.2.1 218 7 = σ0.1 218 7 ∧ r.2.1 218 9 = σ0.1 218 9))) := by
  have hT : Tr [218, 226, 227, 228, 229, 230] σ0 σ0 := Tr.rf
  have hK1 := hK.1
  have tE : σ0.1 224 = tx := hG.1.1
  have nE : (σ0.1 218 9).toInt.toNat = n := hG.1.2
  have pK : TKV (σ0.1 218 11) (σ0.1 218 10) (σ0.1 218 12) (σ0.1 218 13) tx n i := hG.2
  have a20 := ti_one10 hn.1 hn.2
  rw [f_X12_readsSum.eq_1]
  refine ok_pI hT rfl (by decide) (fun σ1 eσ1 hOσ1 hT => ?_)
  have hK : TOK σ1.1 := by first | exact HQ.1 | exact HQ.1.1 | exact TOK_p eσ1 (by decide) hK
  have hB : ZB σ1.1 := ZB.tr hOσ1 (by decide) hB
  have g7_σ1 : σ1.1 218 7 = (σ0.1 218 7) := zI_atN eσ1 (by decide)
  have g9_σ1 : σ1.1 218 9 = (σ0.1 218 9) := zI_atN eσ1 (by decide)
  have g10_σ1 : σ1.1 218 10 = (σ0.1 218 10) := zI_atN eσ1 (by decide)
  have g11_σ1 : σ1.1 218 11 = (σ0.1 218 11) := zI_atN eσ1 (by decide)
  have g12_σ1 : σ1.1 218 12 = (σ0.1 218 12) := zI_atN eσ1 (by decide)
  have g13_σ1 : σ1.1 218 13 = (σ0.1 218 13) := zI_atN eσ1 (by decide)
  have g14_σ1 : σ1.1 218 14 = (σ0.1 218 14) := zI_atN eσ1 (by decide)
  have g15_σ1 : σ1.1 218 15 = (σ0.1 218 15) := zI_atN eσ1 (by decide)
  have g20_σ1 : σ1.1 218 20 = ((1 : Int32) <<< (x1 &&& 31)) := zI_atI eσ1
  have g22_σ1 : σ1.1 218 22 = (σ0.1 218 22) := zI_atN eσ1 (by decide)
  have g23_σ1 : σ1.1 218 23 = (σ0.1 218 23) := zI_atN eσ1 (by decide)
  have g24_σ1 : σ1.1 218 24 = (σ0.1 218 24) := zI_atN eσ1 (by decide)
  have g25_σ1 : σ1.1 218 25 = (σ0.1 218 25) := zI_atN eσ1 (by decide)
  refine ok_pI hT rfl (by decide) (fun σ2 eσ2 hOσ2 hT => ?_)
  have hK : TOK σ2.1 := by first | exact HQ.1 | exact HQ.1.1 | exact TOK_p eσ2 (by decide) hK
  have hB : ZB σ2.1 := ZB.tr hOσ2 (by decide) hB
  have g7_σ2 : σ2.1 218 7 = (σ0.1 218 7) := (zI_atN eσ2 (by decide)).trans g7_σ1
  have g9_σ2 : σ2.1 218 9 = (σ0.1 218 9) := (zI_atN eσ2 (by decide)).trans g9_σ1
  have g10_σ2 : σ2.1 218 10 = (σ0.1 218 10) := (zI_atN eσ2 (by decide)).trans g10_σ1
  have g11_σ2 : σ2.1 218 11 = (σ0.1 218 11) := (zI_atN eσ2 (by decide)).trans g11_σ1
  have g12_σ2 : σ2.1 218 12 = (σ0.1 218 12) := (zI_atN eσ2 (by decide)).trans g12_σ1
  have g13_σ2 : σ2.1 218 13 = (σ0.1 218 13) := (zI_atN eσ2 (by decide)).trans g13_σ1
  have g14_σ2 : σ2.1 218 14 = (σ0.1 218 14) := (zI_atN eσ2 (by decide)).trans g14_σ1
  have g15_σ2 : σ2.1 218 15 = (σ0.1 218 15) := (zI_atN eσ2 (by decide)).trans g15_σ1
  have g20_σ2 : σ2.1 218 20 = ((1 : Int32) <<< (x1 &&& 31)) := (zI_atN eσ2 (by decide)).trans g20_σ1
  have g22_σ2 : σ2.1 218 22 = (0 : Int32) := zI_atI eσ2
  have g23_σ2 : σ2.1 218 23 = (σ0.1 218 23) := (zI_atN eσ2 (by decide)).trans g23_σ1
  have g24_σ2 : σ2.1 218 24 = (σ0.1 218 24) := (zI_atN eσ2 (by decide)).trans g24_σ1
  have g25_σ2 : σ2.1 218 25 = (σ0.1 218 25) := (zI_atN eσ2 (by decide)).trans g25_σ1
  refine ok_pI hT rfl (by decide) (fun σ3 eσ3 hOσ3 hT => ?_)
  have hK : TOK σ3.1 := by first | exact HQ.1 | exact HQ.1.1 | exact TOK_p eσ3 (by decide) hK
  have hB : ZB σ3.1 := ZB.tr hOσ3 (by decide) hB
  have g7_σ3 : σ3.1 218 7 = (σ0.1 218 7) := (zI_atN eσ3 (by decide)).trans g7_σ2
  have g9_σ3 : σ3.1 218 9 = (σ0.1 218 9) := (zI_atN eσ3 (by decide)).trans g9_σ2
  have g10_σ3 : σ3.1 218 10 = (σ0.1 218 10) := (zI_atN eσ3 (by decide)).trans g10_σ2
  have g11_σ3 : σ3.1 218 11 = (σ0.1 218 11) := (zI_atN eσ3 (by decide)).trans g11_σ2
  have g12_σ3 : σ3.1 218 12 = (σ0.1 218 12) := (zI_atN eσ3 (by decide)).trans g12_σ2
  have g13_σ3 : σ3.1 218 13 = (σ0.1 218 13) := (zI_atN eσ3 (by decide)).trans g13_σ2
  have g14_σ3 : σ3.1 218 14 = (σ0.1 218 14) := (zI_atN eσ3 (by decide)).trans g14_σ2
  have g15_σ3 : σ3.1 218 15 = (σ0.1 218 15) := (zI_atN eσ3 (by decide)).trans g15_σ2
  have g20_σ3 : σ3.1 218 20 = ((1 : Int32) <<< (x1 &&& 31)) := (zI_atN eσ3 (by decide)).trans g20_σ2
  have g22_σ3 : σ3.1 218 22 = (0 : Int32) := (zI_atN eσ3 (by decide)).trans g22_σ2
  have g23_σ3 : σ3.1 218 23 = (0 : Int32) := zI_atI eσ3
  have g24_σ3 : σ3.1 218 24 = (σ0.1 218 24) := (zI_atN eσ3 (by decide)).trans g24_σ2
  have g25_σ3 : σ3.1 218 25 = (σ0.1 218 25) := (zI_atN eσ3 (by decide)).trans g25_σ2
  refine ok_pI hT rfl (by decide) (fun σ4 eσ4 hOσ4 hT => ?_)
  have hK : TOK σ4.1 := by first | exact HQ.1 | exact HQ.1.1 | exact TOK_p eσ4 (by decide) hK
  have hB : ZB σ4.1 := ZB.tr hOσ4 (by decide) hB
  have g7_σ4 : σ4.1 218 7 = (σ0.1 218 7) := (zI_atN eσ4 (by decide)).trans g7_σ3
  have g9_σ4 : σ4.1 218 9 = (σ0.1 218 9) := (zI_atN eσ4 (by decide)).trans g9_σ3
  have g10_σ4 : σ4.1 218 10 = (σ0.1 218 10) := (zI_atN eσ4 (by decide)).trans g10_σ3
  have g11_σ4 : σ4.1 218 11 = (σ0.1 218 11) := (zI_atN eσ4 (by decide)).trans g11_σ3
  have g12_σ4 : σ4.1 218 12 = (σ0.1 218 12) := (zI_atN eσ4 (by decide)).trans g12_σ3
  have g13_σ4 : σ4.1 218 13 = (σ0.1 218 13) := (zI_atN eσ4 (by decide)).trans g13_σ3
  have g14_σ4 : σ4.1 218 14 = (σ0.1 218 14) := (zI_atN eσ4 (by decide)).trans g14_σ3
  have g15_σ4 : σ4.1 218 15 = (σ0.1 218 15) := (zI_atN eσ4 (by decide)).trans g15_σ3
  have g20_σ4 : σ4.1 218 20 = ((1 : Int32) <<< (x1 &&& 31)) := (zI_atN eσ4 (by decide)).trans g20_σ3
  have g22_σ4 : σ4.1 218 22 = (0 : Int32) := (zI_atN eσ4 (by decide)).trans g22_σ3
  have g23_σ4 : σ4.1 218 23 = (0 : Int32) := (zI_atN eσ4 (by decide)).trans g23_σ3
  have g24_σ4 : σ4.1 218 24 = (0 : Int32) := zI_atI eσ4
  have g25_σ4 : σ4.1 218 25 = (σ0.1 218 25) := (zI_atN eσ4 (by decide)).trans g25_σ3
  have hPP : PIL σ4.1 0 := PIL_i (b := 0) (d := 0) (r := 0) g22_σ4 g23_σ4 g24_σ4 rfl (by rw [show (0 : Int32).toInt.toNat = 0 by decide]; exact ⟨rfl, rfl, rfl⟩) (by decide) (by decide) (by decide) (by decide)
  have rel0 : REL σ4.1 tx n ((i, false, [], (σ0.1 218 25).toInt.toNat) : Cf) := ⟨⟨RX_i g9_σ4 g10_σ4 g11_σ4 g12_σ4 g13_σ4 ((hT.2 224 (by decide)).trans tE) nE pK, hi⟩, ⟨by rw [g22_σ4]; rfl, by rw [g22_σ4]; exact trivial⟩, by rw [g25_σ4], fun h => Bool.noConfusion (show false = true from h), fun _ => hPP⟩
  refine ok_lp (fun t : Int32 × Int32 × zS => Tr [218, 226, 227, 228, 229, 230] σ0 (t.2.2) ∧ ((((σ0.1 218 11).toInt ≤ ((t.2.2).1 218 11).toInt ∧ 0 ≤ ((t.2.2).1 218 22).toInt ∧ ((t.2.2).1 218 22).toInt ≤ 40) ∧ 0 ≤ ((t.2.2).1 218 25).toInt ∧ ((t.2.2).1 218 25).toInt ≤ 24) ∧ ((t.2.2).1 218 14 = 0 → ∃ c : Cf, Rch tx n x1 ((i, false, [], (σ0.1 218 25).toInt.toNat) : Cf) c ∧ REL (t.2.2).1 tx n c ∧ (¬ (t.2.1) = 0 → ((t.1) = 0 ↔ c.2.1 = false)) ∧ ((t.2.1) = 0 → stp tx n x1 c = some none ∧ c.2.1 = true)) ∧ (¬ (t.2.2).1 218 14 = 0 → ∃ c : Cf, Rch tx n x1 ((i, false, [], (σ0.1 218 25).toInt.toNat) : Cf) c ∧ stp tx n x1 c = none)) ∧ (TOK (t.2.2).1) ∧ (ZB (t.2.2).1) ∧ ((t.2.2).1 218 7 = (σ0.1 218 7)) ∧ ((t.2.2).1 218 9 = (σ0.1 218 9)) ∧ ((t.2.2).1 218 20 = ((1 : Int32) <<< (x1 &&& 31)))) (fun t : Int32 × Int32 × zS => (600 - ((t.2.2).1 218 11).toInt).toNat + (if (t.2.2).1 218 14 = 0 then 1 else 0) + (if (t.2.1) = 0 then 0 else 1)) (fun again5 t hI ih27_5 => ?_) N _ (show Tr [218, 226, 227, 228, 229, 230] σ0 σ4 ∧ ((((σ0.1 218 11).toInt ≤ (σ4.1 218 11).toInt ∧ 0 ≤ (σ4.1 218 22).toInt ∧ (σ4.1 218 22).toInt ≤ 40) ∧ 0 ≤ (σ4.1 218 25).toInt ∧ (σ4.1 218 25).toInt ≤ 24) ∧ (σ4.1 218 14 = 0 → ∃ c : Cf, Rch tx n x1 ((i, false, [], (σ0.1 218 25).toInt.toNat) : Cf) c ∧ REL σ4.1 tx n c ∧ (¬ (1 : Int32) = 0 → ((0 : Int32) = 0 ↔ c.2.1 = false)) ∧ ((1 : Int32) = 0 → stp tx n x1 c = some none ∧ c.2.1 = true)) ∧ (¬ σ4.1 218 14 = 0 → ∃ c : Cf, Rch tx n x1 ((i, false, [], (σ0.1 218 25).toInt.toNat) : Cf) c ∧ stp tx n x1 c = none)) ∧ (TOK σ4.1) ∧ (ZB σ4.1) ∧ (σ4.1 218 7 = (σ0.1 218 7)) ∧ (σ4.1 218 9 = (σ0.1 218 9)) ∧ (σ4.1 218 20 = ((1 : Int32) <<< (x1 &&& 31))) from ⟨hT, (by exact ⟨⟨⟨by (try simp only [g7_σ4, g9_σ4, g10_σ4, g11_σ4, g12_σ4, g13_σ4, g14_σ4, g15_σ4, g20_σ4, g22_σ4, g23_σ4, g24_σ4, g25_σ4]); omega, by (try simp only [g7_σ4, g9_σ4, g10_σ4, g11_σ4, g12_σ4, g13_σ4, g14_σ4, g15_σ4, g20_σ4, g22_σ4, g23_σ4, g24_σ4, g25_σ4]); simp only [Int32.reduceToInt]; omega⟩, by (try simp only [g7_σ4, g9_σ4, g10_σ4, g11_σ4, g12_σ4, g13_σ4, g14_σ4, g15_σ4, g20_σ4, g22_σ4, g23_σ4, g24_σ4, g25_σ4]); omega⟩, fun _ => ⟨_, Rch.rf, rel0, fun _ => ⟨fun _ => rfl, fun _ => rfl⟩, fun h => absurd h (by decide)⟩, fun q => absurd (g14_σ4.trans hg) q⟩), hK, hB, g7_σ4, g9_σ4, g20_σ4⟩) (show (600 - (σ4.1 218 11).toInt).toNat + (if σ4.1 218 14 = 0 then 1 else 0) + (if (1 : Int32) = 0 then 0 else 1) < N from (by (try simp only [g7_σ4, g9_σ4, g10_σ4, g11_σ4, g12_σ4, g13_σ4, g14_σ4, g15_σ4, g20_σ4, g22_σ4, g23_σ4, g24_σ4, g25_σ4]); split <;> split <;> omega))
  obtain ⟨x3_5, x4_5, σ5⟩ := t
  have hI : Tr [218, 226, 227, 228, 229, 230] σ0 σ5 ∧ ((((σ0.1 218 11).toInt ≤ (σ5.1 218 11).toInt ∧ 0 ≤ (σ5.1 218 22).toInt ∧ (σ5.1 218 22).toInt ≤ 40) ∧ 0 ≤ (σ5.1 218 25).toInt ∧ (σ5.1 218 25).toInt ≤ 24) ∧ (σ5.1 218 14 = 0 → ∃ c : Cf, Rch tx n x1 ((i, false, [], (σ0.1 218 25).toInt.toNat) : Cf) c ∧ REL σ5.1 tx n c ∧ (¬ x4_5 = 0 → (x3_5 = 0 ↔ c.2.1 = false)) ∧ (x4_5 = 0 → stp tx n x1 c = some none ∧ c.2.1 = true)) ∧ (¬ σ5.1 218 14 = 0 → ∃ c : Cf, Rch tx n x1 ((i, false, [], (σ0.1 218 25).toInt.toNat) : Cf) c ∧ stp tx n x1 c = none)) ∧ (TOK σ5.1) ∧ (ZB σ5.1) ∧ (σ5.1 218 7 = (σ0.1 218 7)) ∧ (σ5.1 218 9 = (σ0.1 218 9)) ∧ (σ5.1 218 20 = ((1 : Int32) <<< (x1 &&& 31))) := hI
  obtain ⟨hT, hI5, hK, hB, g7_σ5, g9_σ5, g20_σ5⟩ := hI
  rw [F_X12_readsSum_27.eq_1]
  have i1 := hI5.1
  have i2 := hI5.2.1
  have i3 := hI5.2.2
  have hK9 := hK.1
  refine ok_gC rfl ?_
  refine ok_zbX (Q := fun V => (V = 0 → ¬ σ5.1 218 14 = 0) ∧ (¬ V = 0 → σ5.1 218 14 = 0)) (x_X12_good) (fun v6 hqv6 => ?_)
  have hqv6 : (v6 = 0 → ¬ σ5.1 218 14 = 0) ∧ (¬ v6 = 0 → σ5.1 218 14 = 0) := hqv6
  try simp only [g7_σ5, g9_σ5, g20_σ5, hT.2 224 (by decide)] at hqv6
  refine ok_if (fun hc8 => ?_) (fun hc8 => ?_)
  · have qhc8 := hqv6.1 hc8
    have n31 := qhc8
    rw [J_X12_readsSum_86.eq_1]
    refine ok_gC rfl ?_
    refine ok_zbX (Q := fun V => (V = 0 → ¬ true ∈ lst (σ5.1 230) (σ5.1 218 22).toInt.toNat) ∧ (¬ V = 0 → true ∈ lst (σ5.1 230) (σ5.1 218 22).toInt.toNat)) (xe_X12_isOpen hN (hR.tr hT) ⟨by omega, by omega⟩) (fun v9 hqv9 => ?_)
    have hqv9 : (v9 = 0 → ¬ true ∈ lst (σ5.1 230) (σ5.1 218 22).toInt.toNat) ∧ (¬ v9 = 0 → true ∈ lst (σ5.1 230) (σ5.1 218 22).toInt.toNat) := hqv9
    try simp only [g7_σ5, g9_σ5, g20_σ5, hT.2 224 (by decide)] at hqv9
    refine ok_if (fun hc11 => ?_) (fun hc11 => ?_)
    · have qhc11 := hqv9.1 hc11
      have o90 := qhc11
      rw [J_X12_readsSum_98.eq_1]
      refine ok_gC rfl ?_
      refine ok_zbX (Q := fun V => (V = 0 → ¬ σ5.1 218 14 = 0) ∧ (¬ V = 0 → σ5.1 218 14 = 0)) (x_X12_good) (fun v12 hqv12 => ?_)
      have hqv12 : (v12 = 0 → ¬ σ5.1 218 14 = 0) ∧ (¬ v12 = 0 → σ5.1 218 14 = 0) := hqv12
      try simp only [g7_σ5, g9_σ5, g20_σ5, hT.2 224 (by decide)] at hqv12
      refine ok_if (fun hc14 => ?_) (fun hc14 => ?_)
      · have qhc14 := hqv12.1 hc14
        have n102 := qhc14
        exact ok_some ⟨hT, (show (TOK σ5.1 ∧ (σ0.1 218 11).toInt ≤ (σ5.1 218 11).toInt ∧ (σ5.1 218 14 = 0 → ∃ c : Cf, (Rch tx n x1 ((i, false, [], (σ0.1 218 25).toInt.toNat) : Cf) c ∧ stp tx n x1 c = some none ∧ ¬ true ∈ c.2.2.1) ∧ (RX σ5.1 tx n c.1 ∧ c.1 ≤ n) ∧ c.2.2.2 = (σ5.1 218 25).toInt.toNat) ∧ (¬ σ5.1 218 14 = 0 → ∃ c : Cf, Rch tx n x1 ((i, false, [], (σ0.1 218 25).toInt.toNat) : Cf) c ∧ (stp tx n x1 c = none ∨ (stp tx n x1 c = some none ∧ true ∈ c.2.2.1))) ∧ (0 ≤ (σ5.1 218 25).toInt ∧ (σ5.1 218 25).toInt ≤ 24) ∧ ZB σ5.1) ∧ (σ5.1 218 7 = σ0.1 218 7 ∧ σ5.1 218 9 = σ0.1 218 9) from ⟨by first | exact absurd y102 n31 | exact absurd y102 n95 | exact ⟨hK, by (try simp only [g7_σ5, g9_σ5, g20_σ5]); omega, fun q => absurd q (by (try simp only [g7_σ5, g9_σ5, g20_σ5]); exact n102), fun _ => by (obtain ⟨c, rc, st⟩ := i3 n31; exact ⟨c, rc, Or.inl st⟩), by (try simp only [g7_σ5, g9_σ5, g20_σ5]); omega, hB⟩ | exact ⟨hK, by (try simp only [g7_σ5, g9_σ5, g20_σ5]); omega, fun q => absurd q (by (try simp only [g7_σ5, g9_σ5, g20_σ5]); exact n102), fun _ => ⟨_, rc9, Or.inr ⟨z36.1, o90⟩⟩, by (try simp only [g7_σ5, g9_σ5, g20_σ5]); omega, hB⟩ | exact absurd y31 n102 | exact ⟨hK, by (try simp only [g7_σ5, g9_σ5, g20_σ5]); omega, fun _ => ⟨_, ⟨rc9, z36.1, o90⟩, ⟨RX_i g9_σ5 rfl rfl rfl rfl ((hT.2 224 (by decide)).trans tE) nE rl9.1.1.2, rl9.1.2⟩, by (try simp only [g7_σ5, g9_σ5, g20_σ5])⟩, fun q => absurd (by (try simp only [g7_σ5, g9_σ5, g20_σ5]); exact y102) q, by (try simp only [g7_σ5, g9_σ5, g20_σ5]); omega, hB⟩, g7_σ5, g9_σ5⟩)⟩
      · have qhc14 := hqv12.2 hc14
        have y102 := qhc14
        refine ok_gC rfl ?_
        refine ok_zbT (Q := fun V σ => (TOK σ.1 ∧ ZB σ.1 ∧ PIL σ.1 1 ∧ (∀ k : Nat, (k : Int) < (σ5.1 218 22).toInt → σ5.1 230 k = 100 → (k : Int) < (σ.1 218 22).toInt) ∧ ((σ.1 218 22).toInt ≤ 0 ∨ (rkI (σ5.1 230 ((σ.1 218 22) - 1).toNatClampNeg)).toInt < (1 : Int32).toInt)) ∧ (σ.1 218 7 = σ5.1 218 7 ∧ σ.1 218 9 = σ5.1 218 9 ∧ σ.1 218 10 = σ5.1 218 10 ∧ σ.1 218 11 = σ5.1 218 11 ∧ σ.1 218 12 = σ5.1 218 12 ∧ σ.1 218 13 = σ5.1 218 13 ∧ σ.1 218 14 = σ5.1 218 14 ∧ σ.1 218 15 = σ5.1 218 15 ∧ σ.1 218 20 = σ5.1 218 20 ∧ σ.1 218 25 = σ5.1 218 25)) hT (s_X12_settlesTo hN (hR.tr hT) (hK) (by rw [hT.2 224 (by decide)]; exact hY) (hB) (by (try simp only [g7_σ5, g9_σ5, g20_σ5]); omega) (by first | exact (rl9.2.2.2.1 rfl).1 | exact absurd y102 n31 | exact absurd y102 n95) (by decide)) (by decide) (fun v15 σ16 hOσ16 hT hqv15 => ?_)
        have hqv15 : (TOK σ16.1 ∧ ZB σ16.1 ∧ PIL σ16.1 1 ∧ (∀ k : Nat, (k : Int) < (σ5.1 218 22).toInt → σ5.1 230 k = 100 → (k : Int) < (σ16.1 218 22).toInt) ∧ ((σ16.1 218 22).toInt ≤ 0 ∨ (rkI (σ5.1 230 ((σ16.1 218 22) - 1).toNatClampNeg)).toInt < (1 : Int32).toInt)) ∧ (σ16.1 218 7 = σ5.1 218 7 ∧ σ16.1 218 9 = σ5.1 218 9 ∧ σ16.1 218 10 = σ5.1 218 10 ∧ σ16.1 218 11 = σ5.1 218 11 ∧ σ16.1 218 12 = σ5.1 218 12 ∧ σ16.1 218 13 = σ5.1 218 13 ∧ σ16.1 218 14 = σ5.1 218 14 ∧ σ16.1 218 15 = σ5.1 218 15 ∧ σ16.1 218 20 = σ5.1 218 20 ∧ σ16.1 218 25 = σ5.1 218 25) := hqv15
        have hkv15 := hqv15
        have hqv15 := hqv15.1
        have hK : TOK σ16.1 := by first | exact hqv15.1 | exact hqv15.1.1 | exact TOK_p eσ16 (by decide) hK
        have hB : ZB σ16.1 := by first | exact hqv15.2.1 | exact hqv15.2.2.2.2 | exact hqv15.2.2.2.2.2
        try simp only [g7_σ5, g9_σ5, g20_σ5] at hqv15
        have g7_σ16 : σ16.1 218 7 = (σ0.1 218 7) := (hkv15.2.1).trans g7_σ5
        have g9_σ16 : σ16.1 218 9 = (σ0.1 218 9) := (hkv15.2.2.1).trans g9_σ5
        have g10_σ16 : σ16.1 218 10 = (σ5.1 218 10) := hkv15.2.2.2.1
        have g11_σ16 : σ16.1 218 11 = (σ5.1 218 11) := hkv15.2.2.2.2.1
        have g12_σ16 : σ16.1 218 12 = (σ5.1 218 12) := hkv15.2.2.2.2.2.1
        have g13_σ16 : σ16.1 218 13 = (σ5.1 218 13) := hkv15.2.2.2.2.2.2.1
        have g14_σ16 : σ16.1 218 14 = (σ5.1 218 14) := hkv15.2.2.2.2.2.2.2.1
        have g15_σ16 : σ16.1 218 15 = (σ5.1 218 15) := hkv15.2.2.2.2.2.2.2.2.1
        have g20_σ16 : σ16.1 218 20 = ((1 : Int32) <<< (x1 &&& 31)) := (hkv15.2.2.2.2.2.2.2.2.2.1).trans g20_σ5
        have g25_σ16 : σ16.1 218 25 = (σ5.1 218 25) := hkv15.2.2.2.2.2.2.2.2.2.2
        exact ok_some ⟨hT, (show (TOK σ16.1 ∧ (σ0.1 218 11).toInt ≤ (σ16.1 218 11).toInt ∧ (σ16.1 218 14 = 0 → ∃ c : Cf, (Rch tx n x1 ((i, false, [], (σ0.1 218 25).toInt.toNat) : Cf) c ∧ stp tx n x1 c = some none ∧ ¬ true ∈ c.2.2.1) ∧ (RX σ16.1 tx n c.1 ∧ c.1 ≤ n) ∧ c.2.2.2 = (σ16.1 218 25).toInt.toNat) ∧ (¬ σ16.1 218 14 = 0 → ∃ c : Cf, Rch tx n x1 ((i, false, [], (σ0.1 218 25).toInt.toNat) : Cf) c ∧ (stp tx n x1 c = none ∨ (stp tx n x1 c = some none ∧ true ∈ c.2.2.1))) ∧ (0 ≤ (σ16.1 218 25).toInt ∧ (σ16.1 218 25).toInt ≤ 24) ∧ ZB σ16.1) ∧ (σ16.1 218 7 = σ0.1 218 7 ∧ σ16.1 218 9 = σ0.1 218 9) from ⟨by first | exact absurd y102 n31 | exact absurd y102 n95 | exact ⟨hK, by (try simp only [g7_σ16, g9_σ16, g10_σ16, g11_σ16, g12_σ16, g13_σ16, g14_σ16, g15_σ16, g20_σ16, g25_σ16]); omega, fun q => absurd q (by (try simp only [g7_σ16, g9_σ16, g10_σ16, g11_σ16, g12_σ16, g13_σ16, g14_σ16, g15_σ16, g20_σ16, g25_σ16]); exact n102), fun _ => by (obtain ⟨c, rc, st⟩ := i3 n31; exact ⟨c, rc, Or.inl st⟩), by (try simp only [g7_σ16, g9_σ16, g10_σ16, g11_σ16, g12_σ16, g13_σ16, g14_σ16, g15_σ16, g20_σ16, g25_σ16]); omega, hB⟩ | exact ⟨hK, by (try simp only [g7_σ16, g9_σ16, g10_σ16, g11_σ16, g12_σ16, g13_σ16, g14_σ16, g15_σ16, g20_σ16, g25_σ16]); omega, fun q => absurd q (by (try simp only [g7_σ16, g9_σ16, g10_σ16, g11_σ16, g12_σ16, g13_σ16, g14_σ16, g15_σ16, g20_σ16, g25_σ16]); exact n102), fun _ => ⟨_, rc9, Or.inr ⟨z36.1, o90⟩⟩, by (try simp only [g7_σ16, g9_σ16, g10_σ16, g11_σ16, g12_σ16, g13_σ16, g14_σ16, g15_σ16, g20_σ16, g25_σ16]); omega, hB⟩ | exact absurd y31 n102 | exact ⟨hK, by (try simp only [g7_σ16, g9_σ16, g10_σ16, g11_σ16, g12_σ16, g13_σ16, g14_σ16, g15_σ16, g20_σ16, g25_σ16]); omega, fun _ => ⟨_, ⟨rc9, z36.1, o90⟩, ⟨RX_i g9_σ16 g10_σ16 g11_σ16 g12_σ16 g13_σ16 ((hT.2 224 (by decide)).trans tE) nE rl9.1.1.2, rl9.1.2⟩, by (try simp only [g7_σ16, g9_σ16, g10_σ16, g11_σ16, g12_σ16, g13_σ16, g14_σ16, g15_σ16, g20_σ16, g25_σ16])⟩, fun q => absurd (by (try simp only [g7_σ16, g9_σ16, g10_σ16, g11_σ16, g12_σ16, g13_σ16, g14_σ16, g15_σ16, g20_σ16, g25_σ16]); exact y102) q, by (try simp only [g7_σ16, g9_σ16, g10_σ16, g11_σ16, g12_σ16, g13_σ16, g14_σ16, g15_σ16, g20_σ16, g25_σ16]); omega, hB⟩, g7_σ16, g9_σ16⟩)⟩
    · have qhc11 := hqv9.2 hc11
      have o90 := qhc11
      refine ok_gC rfl ?_
      refine ok_zbT (Q := fun V σ => (TOK σ.1 ∧ ¬ σ.1 218 14 = 0) ∧ (σ.1 218 7 = σ5.1 218 7 ∧ σ.1 218 9 = σ5.1 218 9 ∧ σ.1 218 10 = σ5.1 218 10 ∧ σ.1 218 11 = σ5.1 218 11 ∧ σ.1 218 12 = σ5.1 218 12 ∧ σ.1 218 13 = σ5.1 218 13 ∧ σ.1 218 20 = σ5.1 218 20 ∧ σ.1 218 22 = σ5.1 218 22 ∧ σ.1 218 23 = σ5.1 218 23 ∧ σ.1 218 24 = σ5.1 218 24 ∧ σ.1 218 25 = σ5.1 218 25)) hT (s_X12_errs hN (hR.tr hT) (hK) (by rw [hT.2 224 (by decide)]; exact hY) (by decide)) (by decide) (fun v17 σ18 hOσ18 hT hqv17 => ?_)
      have hqv17 : (TOK σ18.1 ∧ ¬ σ18.1 218 14 = 0) ∧ (σ18.1 218 7 = σ5.1 218 7 ∧ σ18.1 218 9 = σ5.1 218 9 ∧ σ18.1 218 10 = σ5.1 218 10 ∧ σ18.1 218 11 = σ5.1 218 11 ∧ σ18.1 218 12 = σ5.1 218 12 ∧ σ18.1 218 13 = σ5.1 218 13 ∧ σ18.1 218 20 = σ5.1 218 20 ∧ σ18.1 218 22 = σ5.1 218 22 ∧ σ18.1 218 23 = σ5.1 218 23 ∧ σ18.1 218 24 = σ5.1 218 24 ∧ σ18.1 218 25 = σ5.1 218 25) := hqv17
      have hkv17 := hqv17
      have hqv17 := hqv17.1
      have hK : TOK σ18.1 := by first | exact hqv17.1 | exact hqv17.1.1 | exact TOK_p eσ18 (by decide) hK
      have hB : ZB σ18.1 := ZB.tr hOσ18 (by decide) hB
      try simp only [g7_σ5, g9_σ5, g20_σ5] at hqv17
      have g7_σ18 : σ18.1 218 7 = (σ0.1 218 7) := (hkv17.2.1).trans g7_σ5
      have g9_σ18 : σ18.1 218 9 = (σ0.1 218 9) := (hkv17.2.2.1).trans g9_σ5
      have g10_σ18 : σ18.1 218 10 = (σ5.1 218 10) := hkv17.2.2.2.1
      have g11_σ18 : σ18.1 218 11 = (σ5.1 218 11) := hkv17.2.2.2.2.1
      have g12_σ18 : σ18.1 218 12 = (σ5.1 218 12) := hkv17.2.2.2.2.2.1
      have g13_σ18 : σ18.1 218 13 = (σ5.1 218 13) := hkv17.2.2.2.2.2.2.1
      have g20_σ18 : σ18.1 218 20 = ((1 : Int32) <<< (x1 &&& 31)) := (hkv17.2.2.2.2.2.2.2.1).trans g20_σ5
      have g22_σ18 : σ18.1 218 22 = (σ5.1 218 22) := hkv17.2.2.2.2.2.2.2.2.1
      have g23_σ18 : σ18.1 218 23 = (σ5.1 218 23) := hkv17.2.2.2.2.2.2.2.2.2.1
      have g24_σ18 : σ18.1 218 24 = (σ5.1 218 24) := hkv17.2.2.2.2.2.2.2.2.2.2.1
      have g25_σ18 : σ18.1 218 25 = (σ5.1 218 25) := hkv17.2.2.2.2.2.2.2.2.2.2.2
      have n95 := hqv17.2
      rw [J_X12_readsSum_98.eq_1]
      refine ok_gC rfl ?_
      refine ok_zbX (Q := fun V => (V = 0 → ¬ σ18.1 218 14 = 0) ∧ (¬ V = 0 → σ18.1 218 14 = 0)) (x_X12_good) (fun v19 hqv19 => ?_)
      have hqv19 : (v19 = 0 → ¬ σ18.1 218 14 = 0) ∧ (¬ v19 = 0 → σ18.1 218 14 = 0) := hqv19
      try simp only [g7_σ18, g9_σ18, g10_σ18, g11_σ18, g12_σ18, g13_σ18, g20_σ18, g22_σ18, g23_σ18, g24_σ18, g25_σ18, hT.2 224 (by decide)] at hqv19
      refine ok_if (fun hc21 => ?_) (fun hc21 => ?_)
      · have qhc21 := hqv19.1 hc21
        have n102 := qhc21
        exact ok_some ⟨hT, (show (TOK σ18.1 ∧ (σ0.1 218 11).toInt ≤ (σ18.1 218 11).toInt ∧ (σ18.1 218 14 = 0 → ∃ c : Cf, (Rch tx n x1 ((i, false, [], (σ0.1 218 25).toInt.toNat) : Cf) c ∧ stp tx n x1 c = some none ∧ ¬ true ∈ c.2.2.1) ∧ (RX σ18.1 tx n c.1 ∧ c.1 ≤ n) ∧ c.2.2.2 = (σ18.1 218 25).toInt.toNat) ∧ (¬ σ18.1 218 14 = 0 → ∃ c : Cf, Rch tx n x1 ((i, false, [], (σ0.1 218 25).toInt.toNat) : Cf) c ∧ (stp tx n x1 c = none ∨ (stp tx n x1 c = some none ∧ true ∈ c.2.2.1))) ∧ (0 ≤ (σ18.1 218 25).toInt ∧ (σ18.1 218 25).toInt ≤ 24) ∧ ZB σ18.1) ∧ (σ18.1 218 7 = σ0.1 218 7 ∧ σ18.1 218 9 = σ0.1 218 9) from ⟨by first | exact absurd y102 n31 | exact absurd y102 n95 | exact ⟨hK, by (try simp only [g7_σ18, g9_σ18, g10_σ18, g11_σ18, g12_σ18, g13_σ18, g20_σ18, g22_σ18, g23_σ18, g24_σ18, g25_σ18]); omega, fun q => absurd q (by (try simp only [g7_σ18, g9_σ18, g10_σ18, g11_σ18, g12_σ18, g13_σ18, g20_σ18, g22_σ18, g23_σ18, g24_σ18, g25_σ18]); exact n102), fun _ => by (obtain ⟨c, rc, st⟩ := i3 n31; exact ⟨c, rc, Or.inl st⟩), by (try simp only [g7_σ18, g9_σ18, g10_σ18, g11_σ18, g12_σ18, g13_σ18, g20_σ18, g22_σ18, g23_σ18, g24_σ18, g25_σ18]); omega, hB⟩ | exact ⟨hK, by (try simp only [g7_σ18, g9_σ18, g10_σ18, g11_σ18, g12_σ18, g13_σ18, g20_σ18, g22_σ18, g23_σ18, g24_σ18, g25_σ18]); omega, fun q => absurd q (by (try simp only [g7_σ18, g9_σ18, g10_σ18, g11_σ18, g12_σ18, g13_σ18, g20_σ18, g22_σ18, g23_σ18, g24_σ18, g25_σ18]); exact n102), fun _ => ⟨_, rc9, Or.inr ⟨z36.1, o90⟩⟩, by (try simp only [g7_σ18, g9_σ18, g10_σ18, g11_σ18, g12_σ18, g13_σ18, g20_σ18, g22_σ18, g23_σ18, g24_σ18, g25_σ18]); omega, hB⟩ | exact absurd y31 n102 | exact ⟨hK, by (try simp only [g7_σ18, g9_σ18, g10_σ18, g11_σ18, g12_σ18, g13_σ18, g20_σ18, g22_σ18, g23_σ18, g24_σ18, g25_σ18]); omega, fun _ => ⟨_, ⟨rc9, z36.1, o90⟩, ⟨RX_i g9_σ18 g10_σ18 g11_σ18 g12_σ18 g13_σ18 ((hT.2 224 (by decide)).trans tE) nE rl9.1.1.2, rl9.1.2⟩, by (try simp only [g7_σ18, g9_σ18, g10_σ18, g11_σ18, g12_σ18, g13_σ18, g20_σ18, g22_σ18, g23_σ18, g24_σ18, g25_σ18])⟩, fun q => absurd (by (try simp only [g7_σ18, g9_σ18, g10_σ18, g11_σ18, g12_σ18, g13_σ18, g20_σ18, g22_σ18, g23_σ18, g24_σ18, g25_σ18]); exact y102) q, by (try simp only [g7_σ18, g9_σ18, g10_σ18, g11_σ18, g12_σ18, g13_σ18, g20_σ18, g22_σ18, g23_σ18, g24_σ18, g25_σ18]); omega, hB⟩, g7_σ18, g9_σ18⟩)⟩
      · have qhc21 := hqv19.2 hc21
        have y102 := qhc21
        refine ok_gC rfl ?_
        refine ok_zbT (Q := fun V σ => (TOK σ.1 ∧ ZB σ.1 ∧ PIL σ.1 1 ∧ (∀ k : Nat, (k : Int) < (σ18.1 218 22).toInt → σ18.1 230 k = 100 → (k : Int) < (σ.1 218 22).toInt) ∧ ((σ.1 218 22).toInt ≤ 0 ∨ (rkI (σ18.1 230 ((σ.1 218 22) - 1).toNatClampNeg)).toInt < (1 : Int32).toInt)) ∧ (σ.1 218 7 = σ18.1 218 7 ∧ σ.1 218 9 = σ18.1 218 9 ∧ σ.1 218 10 = σ18.1 218 10 ∧ σ.1 218 11 = σ18.1 218 11 ∧ σ.1 218 12 = σ18.1 218 12 ∧ σ.1 218 13 = σ18.1 218 13 ∧ σ.1 218 14 = σ18.1 218 14 ∧ σ.1 218 15 = σ18.1 218 15 ∧ σ.1 218 20 = σ18.1 218 20 ∧ σ.1 218 25 = σ18.1 218 25)) hT (s_X12_settlesTo hN (hR.tr hT) (hK) (by rw [hT.2 224 (by decide)]; exact hY) (hB) (by (try simp only [g7_σ18, g9_σ18, g10_σ18, g11_σ18, g12_σ18, g13_σ18, g20_σ18, g22_σ18, g23_σ18, g24_σ18, g25_σ18]); omega) (by first | exact (rl9.2.2.2.1 rfl).1 | exact absurd y102 n31 | exact absurd y102 n95) (by decide)) (by decide) (fun v22 σ23 hOσ23 hT hqv22 => ?_)
        have hqv22 : (TOK σ23.1 ∧ ZB σ23.1 ∧ PIL σ23.1 1 ∧ (∀ k : Nat, (k : Int) < (σ18.1 218 22).toInt → σ18.1 230 k = 100 → (k : Int) < (σ23.1 218 22).toInt) ∧ ((σ23.1 218 22).toInt ≤ 0 ∨ (rkI (σ18.1 230 ((σ23.1 218 22) - 1).toNatClampNeg)).toInt < (1 : Int32).toInt)) ∧ (σ23.1 218 7 = σ18.1 218 7 ∧ σ23.1 218 9 = σ18.1 218 9 ∧ σ23.1 218 10 = σ18.1 218 10 ∧ σ23.1 218 11 = σ18.1 218 11 ∧ σ23.1 218 12 = σ18.1 218 12 ∧ σ23.1 218 13 = σ18.1 218 13 ∧ σ23.1 218 14 = σ18.1 218 14 ∧ σ23.1 218 15 = σ18.1 218 15 ∧ σ23.1 218 20 = σ18.1 218 20 ∧ σ23.1 218 25 = σ18.1 218 25) := hqv22
        have hkv22 := hqv22
        have hqv22 := hqv22.1
        have hK : TOK σ23.1 := by first | exact hqv22.1 | exact hqv22.1.1 | exact TOK_p eσ23 (by decide) hK
        have hB : ZB σ23.1 := by first | exact hqv22.2.1 | exact hqv22.2.2.2.2 | exact hqv22.2.2.2.2.2
        try simp only [g7_σ18, g9_σ18, g10_σ18, g11_σ18, g12_σ18, g13_σ18, g20_σ18, g22_σ18, g23_σ18, g24_σ18, g25_σ18] at hqv22
        have g7_σ23 : σ23.1 218 7 = (σ0.1 218 7) := (hkv22.2.1).trans g7_σ18
        have g9_σ23 : σ23.1 218 9 = (σ0.1 218 9) := (hkv22.2.2.1).trans g9_σ18
        have g10_σ23 : σ23.1 218 10 = (σ5.1 218 10) := (hkv22.2.2.2.1).trans g10_σ18
        have g11_σ23 : σ23.1 218 11 = (σ5.1 218 11) := (hkv22.2.2.2.2.1).trans g11_σ18
        have g12_σ23 : σ23.1 218 12 = (σ5.1 218 12) := (hkv22.2.2.2.2.2.1).trans g12_σ18
        have g13_σ23 : σ23.1 218 13 = (σ5.1 218 13) := (hkv22.2.2.2.2.2.2.1).trans g13_σ18
        have g14_σ23 : σ23.1 218 14 = (σ18.1 218 14) := hkv22.2.2.2.2.2.2.2.1
        have g15_σ23 : σ23.1 218 15 = (σ18.1 218 15) := hkv22.2.2.2.2.2.2.2.2.1
        have g20_σ23 : σ23.1 218 20 = ((1 : Int32) <<< (x1 &&& 31)) := (hkv22.2.2.2.2.2.2.2.2.2.1).trans g20_σ18
        have g25_σ23 : σ23.1 218 25 = (σ5.1 218 25) := (hkv22.2.2.2.2.2.2.2.2.2.2).trans g25_σ18
        exact ok_some ⟨hT, (show (TOK σ23.1 ∧ (σ0.1 218 11).toInt ≤ (σ23.1 218 11).toInt ∧ (σ23.1 218 14 = 0 → ∃ c : Cf, (Rch tx n x1 ((i, false, [], (σ0.1 218 25).toInt.toNat) : Cf) c ∧ stp tx n x1 c = some none ∧ ¬ true ∈ c.2.2.1) ∧ (RX σ23.1 tx n c.1 ∧ c.1 ≤ n) ∧ c.2.2.2 = (σ23.1 218 25).toInt.toNat) ∧ (¬ σ23.1 218 14 = 0 → ∃ c : Cf, Rch tx n x1 ((i, false, [], (σ0.1 218 25).toInt.toNat) : Cf) c ∧ (stp tx n x1 c = none ∨ (stp tx n x1 c = some none ∧ true ∈ c.2.2.1))) ∧ (0 ≤ (σ23.1 218 25).toInt ∧ (σ23.1 218 25).toInt ≤ 24) ∧ ZB σ23.1) ∧ (σ23.1 218 7 = σ0.1 218 7 ∧ σ23.1 218 9 = σ0.1 218 9) from ⟨by first | exact absurd y102 n31 | exact absurd y102 n95 | exact ⟨hK, by (try simp only [g7_σ23, g9_σ23, g10_σ23, g11_σ23, g12_σ23, g13_σ23, g14_σ23, g15_σ23, g20_σ23, g25_σ23]); omega, fun q => absurd q (by (try simp only [g7_σ23, g9_σ23, g10_σ23, g11_σ23, g12_σ23, g13_σ23, g14_σ23, g15_σ23, g20_σ23, g25_σ23]); exact n102), fun _ => by (obtain ⟨c, rc, st⟩ := i3 n31; exact ⟨c, rc, Or.inl st⟩), by (try simp only [g7_σ23, g9_σ23, g10_σ23, g11_σ23, g12_σ23, g13_σ23, g14_σ23, g15_σ23, g20_σ23, g25_σ23]); omega, hB⟩ | exact ⟨hK, by (try simp only [g7_σ23, g9_σ23, g10_σ23, g11_σ23, g12_σ23, g13_σ23, g14_σ23, g15_σ23, g20_σ23, g25_σ23]); omega, fun q => absurd q (by (try simp only [g7_σ23, g9_σ23, g10_σ23, g11_σ23, g12_σ23, g13_σ23, g14_σ23, g15_σ23, g20_σ23, g25_σ23]); exact n102), fun _ => ⟨_, rc9, Or.inr ⟨z36.1, o90⟩⟩, by (try simp only [g7_σ23, g9_σ23, g10_σ23, g11_σ23, g12_σ23, g13_σ23, g14_σ23, g15_σ23, g20_σ23, g25_σ23]); omega, hB⟩ | exact absurd y31 n102 | exact ⟨hK, by (try simp only [g7_σ23, g9_σ23, g10_σ23, g11_σ23, g12_σ23, g13_σ23, g14_σ23, g15_σ23, g20_σ23, g25_σ23]); omega, fun _ => ⟨_, ⟨rc9, z36.1, o90⟩, ⟨RX_i g9_σ23 g10_σ23 g11_σ23 g12_σ23 g13_σ23 ((hT.2 224 (by decide)).trans tE) nE rl9.1.1.2, rl9.1.2⟩, by (try simp only [g7_σ23, g9_σ23, g10_σ23, g11_σ23, g12_σ23, g13_σ23, g14_σ23, g15_σ23, g20_σ23, g25_σ23])⟩, fun q => absurd (by (try simp only [g7_σ23, g9_σ23, g10_σ23, g11_σ23, g12_σ23, g13_σ23, g14_σ23, g15_σ23, g20_σ23, g25_σ23]); exact y102) q, by (try simp only [g7_σ23, g9_σ23, g10_σ23, g11_σ23, g12_σ23, g13_σ23, g14_σ23, g15_σ23, g20_σ23, g25_σ23]); omega, hB⟩, g7_σ23, g9_σ23⟩)⟩
  · have qhc8 := hqv6.2 hc8
    have y31 := qhc8
    obtain ⟨⟨p9, w9, L9, sg9⟩, rc9, rl9, a9, b9q⟩ := i2 qhc8
    obtain rfl : L9 = lst (σ5.1 230) (σ5.1 218 22).toInt.toNat := rl9.2.1.1
    obtain rfl : sg9 = (σ5.1 218 25).toInt.toNat := rl9.2.2.1
    refine ok_if (fun hc24 => ?_) (fun hc24 => ?_)
    · have e36 := hc24
      have z36 := b9q hc24
      have w36 : w9 = true := z36.2
      subst w36
      rw [J_X12_readsSum_86.eq_1]
      refine ok_gC rfl ?_
      refine ok_zbX (Q := fun V => (V = 0 → ¬ true ∈ lst (σ5.1 230) (σ5.1 218 22).toInt.toNat) ∧ (¬ V = 0 → true ∈ lst (σ5.1 230) (σ5.1 218 22).toInt.toNat)) (xe_X12_isOpen hN (hR.tr hT) ⟨by omega, by omega⟩) (fun v25 hqv25 => ?_)
      have hqv25 : (v25 = 0 → ¬ true ∈ lst (σ5.1 230) (σ5.1 218 22).toInt.toNat) ∧ (¬ v25 = 0 → true ∈ lst (σ5.1 230) (σ5.1 218 22).toInt.toNat) := hqv25
      try simp only [g7_σ5, g9_σ5, g20_σ5, hT.2 224 (by decide)] at hqv25
      refine ok_if (fun hc27 => ?_) (fun hc27 => ?_)
      · have qhc27 := hqv25.1 hc27
        have o90 := qhc27
        rw [J_X12_readsSum_98.eq_1]
        refine ok_gC rfl ?_
        refine ok_zbX (Q := fun V => (V = 0 → ¬ σ5.1 218 14 = 0) ∧ (¬ V = 0 → σ5.1 218 14 = 0)) (x_X12_good) (fun v28 hqv28 => ?_)
        have hqv28 : (v28 = 0 → ¬ σ5.1 218 14 = 0) ∧ (¬ v28 = 0 → σ5.1 218 14 = 0) := hqv28
        try simp only [g7_σ5, g9_σ5, g20_σ5, hT.2 224 (by decide)] at hqv28
        refine ok_if (fun hc30 => ?_) (fun hc30 => ?_)
        · have qhc30 := hqv28.1 hc30
          have n102 := qhc30
          exact ok_some ⟨hT, (show (TOK σ5.1 ∧ (σ0.1 218 11).toInt ≤ (σ5.1 218 11).toInt ∧ (σ5.1 218 14 = 0 → ∃ c : Cf, (Rch tx n x1 ((i, false, [], (σ0.1 218 25).toInt.toNat) : Cf) c ∧ stp tx n x1 c = some none ∧ ¬ true ∈ c.2.2.1) ∧ (RX σ5.1 tx n c.1 ∧ c.1 ≤ n) ∧ c.2.2.2 = (σ5.1 218 25).toInt.toNat) ∧ (¬ σ5.1 218 14 = 0 → ∃ c : Cf, Rch tx n x1 ((i, false, [], (σ0.1 218 25).toInt.toNat) : Cf) c ∧ (stp tx n x1 c = none ∨ (stp tx n x1 c = some none ∧ true ∈ c.2.2.1))) ∧ (0 ≤ (σ5.1 218 25).toInt ∧ (σ5.1 218 25).toInt ≤ 24) ∧ ZB σ5.1) ∧ (σ5.1 218 7 = σ0.1 218 7 ∧ σ5.1 218 9 = σ0.1 218 9) from ⟨by first | exact absurd y102 n31 | exact absurd y102 n95 | exact ⟨hK, by (try simp only [g7_σ5, g9_σ5, g20_σ5]); omega, fun q => absurd q (by (try simp only [g7_σ5, g9_σ5, g20_σ5]); exact n102), fun _ => by (obtain ⟨c, rc, st⟩ := i3 n31; exact ⟨c, rc, Or.inl st⟩), by (try simp only [g7_σ5, g9_σ5, g20_σ5]); omega, hB⟩ | exact ⟨hK, by (try simp only [g7_σ5, g9_σ5, g20_σ5]); omega, fun q => absurd q (by (try simp only [g7_σ5, g9_σ5, g20_σ5]); exact n102), fun _ => ⟨_, rc9, Or.inr ⟨z36.1, o90⟩⟩, by (try simp only [g7_σ5, g9_σ5, g20_σ5]); omega, hB⟩ | exact absurd y31 n102 | exact ⟨hK, by (try simp only [g7_σ5, g9_σ5, g20_σ5]); omega, fun _ => ⟨_, ⟨rc9, z36.1, o90⟩, ⟨RX_i g9_σ5 rfl rfl rfl rfl ((hT.2 224 (by decide)).trans tE) nE rl9.1.1.2, rl9.1.2⟩, by (try simp only [g7_σ5, g9_σ5, g20_σ5])⟩, fun q => absurd (by (try simp only [g7_σ5, g9_σ5, g20_σ5]); exact y102) q, by (try simp only [g7_σ5, g9_σ5, g20_σ5]); omega, hB⟩, g7_σ5, g9_σ5⟩)⟩
        · have qhc30 := hqv28.2 hc30
          have y102 := qhc30
          refine ok_gC rfl ?_
          refine ok_zbT (Q := fun V σ => (TOK σ.1 ∧ ZB σ.1 ∧ PIL σ.1 1 ∧ (∀ k : Nat, (k : Int) < (σ5.1 218 22).toInt → σ5.1 230 k = 100 → (k : Int) < (σ.1 218 22).toInt) ∧ ((σ.1 218 22).toInt ≤ 0 ∨ (rkI (σ5.1 230 ((σ.1 218 22) - 1).toNatClampNeg)).toInt < (1 : Int32).toInt)) ∧ (σ.1 218 7 = σ5.1 218 7 ∧ σ.1 218 9 = σ5.1 218 9 ∧ σ.1 218 10 = σ5.1 218 10 ∧ σ.1 218 11 = σ5.1 218 11 ∧ σ.1 218 12 = σ5.1 218 12 ∧ σ.1 218 13 = σ5.1 218 13 ∧ σ.1 218 14 = σ5.1 218 14 ∧ σ.1 218 15 = σ5.1 218 15 ∧ σ.1 218 20 = σ5.1 218 20 ∧ σ.1 218 25 = σ5.1 218 25)) hT (s_X12_settlesTo hN (hR.tr hT) (hK) (by rw [hT.2 224 (by decide)]; exact hY) (hB) (by (try simp only [g7_σ5, g9_σ5, g20_σ5]); omega) (by first | exact (rl9.2.2.2.1 rfl).1 | exact absurd y102 n31 | exact absurd y102 n95) (by decide)) (by decide) (fun v31 σ32 hOσ32 hT hqv31 => ?_)
          have hqv31 : (TOK σ32.1 ∧ ZB σ32.1 ∧ PIL σ32.1 1 ∧ (∀ k : Nat, (k : Int) < (σ5.1 218 22).toInt → σ5.1 230 k = 100 → (k : Int) < (σ32.1 218 22).toInt) ∧ ((σ32.1 218 22).toInt ≤ 0 ∨ (rkI (σ5.1 230 ((σ32.1 218 22) - 1).toNatClampNeg)).toInt < (1 : Int32).toInt)) ∧ (σ32.1 218 7 = σ5.1 218 7 ∧ σ32.1 218 9 = σ5.1 218 9 ∧ σ32.1 218 10 = σ5.1 218 10 ∧ σ32.1 218 11 = σ5.1 218 11 ∧ σ32.1 218 12 = σ5.1 218 12 ∧ σ32.1 218 13 = σ5.1 218 13 ∧ σ32.1 218 14 = σ5.1 218 14 ∧ σ32.1 218 15 = σ5.1 218 15 ∧ σ32.1 218 20 = σ5.1 218 20 ∧ σ32.1 218 25 = σ5.1 218 25) := hqv31
          have hkv31 := hqv31
          have hqv31 := hqv31.1
          have hK : TOK σ32.1 := by first | exact hqv31.1 | exact hqv31.1.1 | exact TOK_p eσ32 (by decide) hK
          have hB : ZB σ32.1 := by first | exact hqv31.2.1 | exact hqv31.2.2.2.2 | exact hqv31.2.2.2.2.2
          try simp only [g7_σ5, g9_σ5, g20_σ5] at hqv31
          have g7_σ32 : σ32.1 218 7 = (σ0.1 218 7) := (hkv31.2.1).trans g7_σ5
          have g9_σ32 : σ32.1 218 9 = (σ0.1 218 9) := (hkv31.2.2.1).trans g9_σ5
          have g10_σ32 : σ32.1 218 10 = (σ5.1 218 10) := hkv31.2.2.2.1
          have g11_σ32 : σ32.1 218 11 = (σ5.1 218 11) := hkv31.2.2.2.2.1
          have g12_σ32 : σ32.1 218 12 = (σ5.1 218 12) := hkv31.2.2.2.2.2.1
          have g13_σ32 : σ32.1 218 13 = (σ5.1 218 13) := hkv31.2.2.2.2.2.2.1
          have g14_σ32 : σ32.1 218 14 = (σ5.1 218 14) := hkv31.2.2.2.2.2.2.2.1
          have g15_σ32 : σ32.1 218 15 = (σ5.1 218 15) := hkv31.2.2.2.2.2.2.2.2.1
          have g20_σ32 : σ32.1 218 20 = ((1 : Int32) <<< (x1 &&& 31)) := (hkv31.2.2.2.2.2.2.2.2.2.1).trans g20_σ5
          have g25_σ32 : σ32.1 218 25 = (σ5.1 218 25) := hkv31.2.2.2.2.2.2.2.2.2.2
          exact ok_some ⟨hT, (show (TOK σ32.1 ∧ (σ0.1 218 11).toInt ≤ (σ32.1 218 11).toInt ∧ (σ32.1 218 14 = 0 → ∃ c : Cf, (Rch tx n x1 ((i, false, [], (σ0.1 218 25).toInt.toNat) : Cf) c ∧ stp tx n x1 c = some none ∧ ¬ true ∈ c.2.2.1) ∧ (RX σ32.1 tx n c.1 ∧ c.1 ≤ n) ∧ c.2.2.2 = (σ32.1 218 25).toInt.toNat) ∧ (¬ σ32.1 218 14 = 0 → ∃ c : Cf, Rch tx n x1 ((i, false, [], (σ0.1 218 25).toInt.toNat) : Cf) c ∧ (stp tx n x1 c = none ∨ (stp tx n x1 c = some none ∧ true ∈ c.2.2.1))) ∧ (0 ≤ (σ32.1 218 25).toInt ∧ (σ32.1 218 25).toInt ≤ 24) ∧ ZB σ32.1) ∧ (σ32.1 218 7 = σ0.1 218 7 ∧ σ32.1 218 9 = σ0.1 218 9) from ⟨by first | exact absurd y102 n31 | exact absurd y102 n95 | exact ⟨hK, by (try simp only [g7_σ32, g9_σ32, g10_σ32, g11_σ32, g12_σ32, g13_σ32, g14_σ32, g15_σ32, g20_σ32, g25_σ32]); omega, fun q => absurd q (by (try simp only [g7_σ32, g9_σ32, g10_σ32, g11_σ32, g12_σ32, g13_σ32, g14_σ32, g15_σ32, g20_σ32, g25_σ32]); exact n102), fun _ => by (obtain ⟨c, rc, st⟩ := i3 n31; exact ⟨c, rc, Or.inl st⟩), by (try simp only [g7_σ32, g9_σ32, g10_σ32, g11_σ32, g12_σ32, g13_σ32, g14_σ32, g15_σ32, g20_σ32, g25_σ32]); omega, hB⟩ | exact ⟨hK, by (try simp only [g7_σ32, g9_σ32, g10_σ32, g11_σ32, g12_σ32, g13_σ32, g14_σ32, g15_σ32, g20_σ32, g25_σ32]); omega, fun q => absurd q (by (try simp only [g7_σ32, g9_σ32, g10_σ32, g11_σ32, g12_σ32, g13_σ32, g14_σ32, g15_σ32, g20_σ32, g25_σ32]); exact n102), fun _ => ⟨_, rc9, Or.inr ⟨z36.1, o90⟩⟩, by (try simp only [g7_σ32, g9_σ32, g10_σ32, g11_σ32, g12_σ32, g13_σ32, g14_σ32, g15_σ32, g20_σ32, g25_σ32]); omega, hB⟩ | exact absurd y31 n102 | exact ⟨hK, by (try simp only [g7_σ32, g9_σ32, g10_σ32, g11_σ32, g12_σ32, g13_σ32, g14_σ32, g15_σ32, g20_σ32, g25_σ32]); omega, fun _ => ⟨_, ⟨rc9, z36.1, o90⟩, ⟨RX_i g9_σ32 g10_σ32 g11_σ32 g12_σ32 g13_σ32 ((hT.2 224 (by decide)).trans tE) nE rl9.1.1.2, rl9.1.2⟩, by (try simp only [g7_σ32, g9_σ32, g10_σ32, g11_σ32, g12_σ32, g13_σ32, g14_σ32, g15_σ32, g20_σ32, g25_σ32])⟩, fun q => absurd (by (try simp only [g7_σ32, g9_σ32, g10_σ32, g11_σ32, g12_σ32, g13_σ32, g14_σ32, g15_σ32, g20_σ32, g25_σ32]); exact y102) q, by (try simp only [g7_σ32, g9_σ32, g10_σ32, g11_σ32, g12_σ32, g13_σ32, g14_σ32, g15_σ32, g20_σ32, g25_σ32]); omega, hB⟩, g7_σ32, g9_σ32⟩)⟩
      · have qhc27 := hqv25.2 hc27
        have o90 := qhc27
        refine ok_gC rfl ?_
        refine ok_zbT (Q := fun V σ => (TOK σ.1 ∧ ¬ σ.1 218 14 = 0) ∧ (σ.1 218 7 = σ5.1 218 7 ∧ σ.1 218 9 = σ5.1 218 9 ∧ σ.1 218 10 = σ5.1 218 10 ∧ σ.1 218 11 = σ5.1 218 11 ∧ σ.1 218 12 = σ5.1 218 12 ∧ σ.1 218 13 = σ5.1 218 13 ∧ σ.1 218 20 = σ5.1 218 20 ∧ σ.1 218 22 = σ5.1 218 22 ∧ σ.1 218 23 = σ5.1 218 23 ∧ σ.1 218 24 = σ5.1 218 24 ∧ σ.1 218 25 = σ5.1 218 25)) hT (s_X12_errs hN (hR.tr hT) (hK) (by rw [hT.2 224 (by decide)]; exact hY) (by decide)) (by decide) (fun v33 σ34 hOσ34 hT hqv33 => ?_)
        have hqv33 : (TOK σ34.1 ∧ ¬ σ34.1 218 14 = 0) ∧ (σ34.1 218 7 = σ5.1 218 7 ∧ σ34.1 218 9 = σ5.1 218 9 ∧ σ34.1 218 10 = σ5.1 218 10 ∧ σ34.1 218 11 = σ5.1 218 11 ∧ σ34.1 218 12 = σ5.1 218 12 ∧ σ34.1 218 13 = σ5.1 218 13 ∧ σ34.1 218 20 = σ5.1 218 20 ∧ σ34.1 218 22 = σ5.1 218 22 ∧ σ34.1 218 23 = σ5.1 218 23 ∧ σ34.1 218 24 = σ5.1 218 24 ∧ σ34.1 218 25 = σ5.1 218 25) := hqv33
        have hkv33 := hqv33
        have hqv33 := hqv33.1
        have hK : TOK σ34.1 := by first | exact hqv33.1 | exact hqv33.1.1 | exact TOK_p eσ34 (by decide) hK
        have hB : ZB σ34.1 := ZB.tr hOσ34 (by decide) hB
        try simp only [g7_σ5, g9_σ5, g20_σ5] at hqv33
        have g7_σ34 : σ34.1 218 7 = (σ0.1 218 7) := (hkv33.2.1).trans g7_σ5
        have g9_σ34 : σ34.1 218 9 = (σ0.1 218 9) := (hkv33.2.2.1).trans g9_σ5
        have g10_σ34 : σ34.1 218 10 = (σ5.1 218 10) := hkv33.2.2.2.1
        have g11_σ34 : σ34.1 218 11 = (σ5.1 218 11) := hkv33.2.2.2.2.1
        have g12_σ34 : σ34.1 218 12 = (σ5.1 218 12) := hkv33.2.2.2.2.2.1
        have g13_σ34 : σ34.1 218 13 = (σ5.1 218 13) := hkv33.2.2.2.2.2.2.1
        have g20_σ34 : σ34.1 218 20 = ((1 : Int32) <<< (x1 &&& 31)) := (hkv33.2.2.2.2.2.2.2.1).trans g20_σ5
        have g22_σ34 : σ34.1 218 22 = (σ5.1 218 22) := hkv33.2.2.2.2.2.2.2.2.1
        have g23_σ34 : σ34.1 218 23 = (σ5.1 218 23) := hkv33.2.2.2.2.2.2.2.2.2.1
        have g24_σ34 : σ34.1 218 24 = (σ5.1 218 24) := hkv33.2.2.2.2.2.2.2.2.2.2.1
        have g25_σ34 : σ34.1 218 25 = (σ5.1 218 25) := hkv33.2.2.2.2.2.2.2.2.2.2.2
        have n95 := hqv33.2
        rw [J_X12_readsSum_98.eq_1]
        refine ok_gC rfl ?_
        refine ok_zbX (Q := fun V => (V = 0 → ¬ σ34.1 218 14 = 0) ∧ (¬ V = 0 → σ34.1 218 14 = 0)) (x_X12_good) (fun v35 hqv35 => ?_)
        have hqv35 : (v35 = 0 → ¬ σ34.1 218 14 = 0) ∧ (¬ v35 = 0 → σ34.1 218 14 = 0) := hqv35
        try simp only [g7_σ34, g9_σ34, g10_σ34, g11_σ34, g12_σ34, g13_σ34, g20_σ34, g22_σ34, g23_σ34, g24_σ34, g25_σ34, hT.2 224 (by decide)] at hqv35
        refine ok_if (fun hc37 => ?_) (fun hc37 => ?_)
        · have qhc37 := hqv35.1 hc37
          have n102 := qhc37
          exact ok_some ⟨hT, (show (TOK σ34.1 ∧ (σ0.1 218 11).toInt ≤ (σ34.1 218 11).toInt ∧ (σ34.1 218 14 = 0 → ∃ c : Cf, (Rch tx n x1 ((i, false, [], (σ0.1 218 25).toInt.toNat) : Cf) c ∧ stp tx n x1 c = some none ∧ ¬ true ∈ c.2.2.1) ∧ (RX σ34.1 tx n c.1 ∧ c.1 ≤ n) ∧ c.2.2.2 = (σ34.1 218 25).toInt.toNat) ∧ (¬ σ34.1 218 14 = 0 → ∃ c : Cf, Rch tx n x1 ((i, false, [], (σ0.1 218 25).toInt.toNat) : Cf) c ∧ (stp tx n x1 c = none ∨ (stp tx n x1 c = some none ∧ true ∈ c.2.2.1))) ∧ (0 ≤ (σ34.1 218 25).toInt ∧ (σ34.1 218 25).toInt ≤ 24) ∧ ZB σ34.1) ∧ (σ34.1 218 7 = σ0.1 218 7 ∧ σ34.1 218 9 = σ0.1 218 9) from ⟨by first | exact absurd y102 n31 | exact absurd y102 n95 | exact ⟨hK, by (try simp only [g7_σ34, g9_σ34, g10_σ34, g11_σ34, g12_σ34, g13_σ34, g20_σ34, g22_σ34, g23_σ34, g24_σ34, g25_σ34]); omega, fun q => absurd q (by (try simp only [g7_σ34, g9_σ34, g10_σ34, g11_σ34, g12_σ34, g13_σ34, g20_σ34, g22_σ34, g23_σ34, g24_σ34, g25_σ34]); exact n102), fun _ => by (obtain ⟨c, rc, st⟩ := i3 n31; exact ⟨c, rc, Or.inl st⟩), by (try simp only [g7_σ34, g9_σ34, g10_σ34, g11_σ34, g12_σ34, g13_σ34, g20_σ34, g22_σ34, g23_σ34, g24_σ34, g25_σ34]); omega, hB⟩ | exact ⟨hK, by (try simp only [g7_σ34, g9_σ34, g10_σ34, g11_σ34, g12_σ34, g13_σ34, g20_σ34, g22_σ34, g23_σ34, g24_σ34, g25_σ34]); omega, fun q => absurd q (by (try simp only [g7_σ34, g9_σ34, g10_σ34, g11_σ34, g12_σ34, g13_σ34, g20_σ34, g22_σ34, g23_σ34, g24_σ34, g25_σ34]); exact n102), fun _ => ⟨_, rc9, Or.inr ⟨z36.1, o90⟩⟩, by (try simp only [g7_σ34, g9_σ34, g10_σ34, g11_σ34, g12_σ34, g13_σ34, g20_σ34, g22_σ34, g23_σ34, g24_σ34, g25_σ34]); omega, hB⟩ | exact absurd y31 n102 | exact ⟨hK, by (try simp only [g7_σ34, g9_σ34, g10_σ34, g11_σ34, g12_σ34, g13_σ34, g20_σ34, g22_σ34, g23_σ34, g24_σ34, g25_σ34]); omega, fun _ => ⟨_, ⟨rc9, z36.1, o90⟩, ⟨RX_i g9_σ34 g10_σ34 g11_σ34 g12_σ34 g13_σ34 ((hT.2 224 (by decide)).trans tE) nE rl9.1.1.2, rl9.1.2⟩, by (try simp only [g7_σ34, g9_σ34, g10_σ34, g11_σ34, g12_σ34, g13_σ34, g20_σ34, g22_σ34, g23_σ34, g24_σ34, g25_σ34])⟩, fun q => absurd (by (try simp only [g7_σ34, g9_σ34, g10_σ34, g11_σ34, g12_σ34, g13_σ34, g20_σ34, g22_σ34, g23_σ34, g24_σ34, g25_σ34]); exact y102) q, by (try simp only [g7_σ34, g9_σ34, g10_σ34, g11_σ34, g12_σ34, g13_σ34, g20_σ34, g22_σ34, g23_σ34, g24_σ34, g25_σ34]); omega, hB⟩, g7_σ34, g9_σ34⟩)⟩
        · have qhc37 := hqv35.2 hc37
          have y102 := qhc37
          refine ok_gC rfl ?_
          refine ok_zbT (Q := fun V σ => (TOK σ.1 ∧ ZB σ.1 ∧ PIL σ.1 1 ∧ (∀ k : Nat, (k : Int) < (σ34.1 218 22).toInt → σ34.1 230 k = 100 → (k : Int) < (σ.1 218 22).toInt) ∧ ((σ.1 218 22).toInt ≤ 0 ∨ (rkI (σ34.1 230 ((σ.1 218 22) - 1).toNatClampNeg)).toInt < (1 : Int32).toInt)) ∧ (σ.1 218 7 = σ34.1 218 7 ∧ σ.1 218 9 = σ34.1 218 9 ∧ σ.1 218 10 = σ34.1 218 10 ∧ σ.1 218 11 = σ34.1 218 11 ∧ σ.1 218 12 = σ34.1 218 12 ∧ σ.1 218 13 = σ34.1 218 13 ∧ σ.1 218 14 = σ34.1 218 14 ∧ σ.1 218 15 = σ34.1 218 15 ∧ σ.1 218 20 = σ34.1 218 20 ∧ σ.1 218 25 = σ34.1 218 25)) hT (s_X12_settlesTo hN (hR.tr hT) (hK) (by rw [hT.2 224 (by decide)]; exact hY) (hB) (by (try simp only [g7_σ34, g9_σ34, g10_σ34, g11_σ34, g12_σ34, g13_σ34, g20_σ34, g22_σ34, g23_σ34, g24_σ34, g25_σ34]); omega) (by first | exact (rl9.2.2.2.1 rfl).1 | exact absurd y102 n31 | exact absurd y102 n95) (by decide)) (by decide) (fun v38 σ39 hOσ39 hT hqv38 => ?_)
          have hqv38 : (TOK σ39.1 ∧ ZB σ39.1 ∧ PIL σ39.1 1 ∧ (∀ k : Nat, (k : Int) < (σ34.1 218 22).toInt → σ34.1 230 k = 100 → (k : Int) < (σ39.1 218 22).toInt) ∧ ((σ39.1 218 22).toInt ≤ 0 ∨ (rkI (σ34.1 230 ((σ39.1 218 22) - 1).toNatClampNeg)).toInt < (1 : Int32).toInt)) ∧ (σ39.1 218 7 = σ34.1 218 7 ∧ σ39.1 218 9 = σ34.1 218 9 ∧ σ39.1 218 10 = σ34.1 218 10 ∧ σ39.1 218 11 = σ34.1 218 11 ∧ σ39.1 218 12 = σ34.1 218 12 ∧ σ39.1 218 13 = σ34.1 218 13 ∧ σ39.1 218 14 = σ34.1 218 14 ∧ σ39.1 218 15 = σ34.1 218 15 ∧ σ39.1 218 20 = σ34.1 218 20 ∧ σ39.1 218 25 = σ34.1 218 25) := hqv38
          have hkv38 := hqv38
          have hqv38 := hqv38.1
          have hK : TOK σ39.1 := by first | exact hqv38.1 | exact hqv38.1.1 | exact TOK_p eσ39 (by decide) hK
          have hB : ZB σ39.1 := by first | exact hqv38.2.1 | exact hqv38.2.2.2.2 | exact hqv38.2.2.2.2.2
          try simp only [g7_σ34, g9_σ34, g10_σ34, g11_σ34, g12_σ34, g13_σ34, g20_σ34, g22_σ34, g23_σ34, g24_σ34, g25_σ34] at hqv38
          have g7_σ39 : σ39.1 218 7 = (σ0.1 218 7) := (hkv38.2.1).trans g7_σ34
          have g9_σ39 : σ39.1 218 9 = (σ0.1 218 9) := (hkv38.2.2.1).trans g9_σ34
          have g10_σ39 : σ39.1 218 10 = (σ5.1 218 10) := (hkv38.2.2.2.1).trans g10_σ34
          have g11_σ39 : σ39.1 218 11 = (σ5.1 218 11) := (hkv38.2.2.2.2.1).trans g11_σ34
          have g12_σ39 : σ39.1 218 12 = (σ5.1 218 12) := (hkv38.2.2.2.2.2.1).trans g12_σ34
          have g13_σ39 : σ39.1 218 13 = (σ5.1 218 13) := (hkv38.2.2.2.2.2.2.1).trans g13_σ34
          have g14_σ39 : σ39.1 218 14 = (σ34.1 218 14) := hkv38.2.2.2.2.2.2.2.1
          have g15_σ39 : σ39.1 218 15 = (σ34.1 218 15) := hkv38.2.2.2.2.2.2.2.2.1
          have g20_σ39 : σ39.1 218 20 = ((1 : Int32) <<< (x1 &&& 31)) := (hkv38.2.2.2.2.2.2.2.2.2.1).trans g20_σ34
          have g25_σ39 : σ39.1 218 25 = (σ5.1 218 25) := (hkv38.2.2.2.2.2.2.2.2.2.2).trans g25_σ34
          exact ok_some ⟨hT, (show (TOK σ39.1 ∧ (σ0.1 218 11).toInt ≤ (σ39.1 218 11).toInt ∧ (σ39.1 218 14 = 0 → ∃ c : Cf, (Rch tx n x1 ((i, false, [], (σ0.1 218 25).toInt.toNat) : Cf) c ∧ stp tx n x1 c = some none ∧ ¬ true ∈ c.2.2.1) ∧ (RX σ39.1 tx n c.1 ∧ c.1 ≤ n) ∧ c.2.2.2 = (σ39.1 218 25).toInt.toNat) ∧ (¬ σ39.1 218 14 = 0 → ∃ c : Cf, Rch tx n x1 ((i, false, [], (σ0.1 218 25).toInt.toNat) : Cf) c ∧ (stp tx n x1 c = none ∨ (stp tx n x1 c = some none ∧ true ∈ c.2.2.1))) ∧ (0 ≤ (σ39.1 218 25).toInt ∧ (σ39.1 218 25).toInt ≤ 24) ∧ ZB σ39.1) ∧ (σ39.1 218 7 = σ0.1 218 7 ∧ σ39.1 218 9 = σ0.1 218 9) from ⟨by first | exact absurd y102 n31 | exact absurd y102 n95 | exact ⟨hK, by (try simp only [g7_σ39, g9_σ39, g10_σ39, g11_σ39, g12_σ39, g13_σ39, g14_σ39, g15_σ39, g20_σ39, g25_σ39]); omega, fun q => absurd q (by (try simp only [g7_σ39, g9_σ39, g10_σ39, g11_σ39, g12_σ39, g13_σ39, g14_σ39, g15_σ39, g20_σ39, g25_σ39]); exact n102), fun _ => by (obtain ⟨c, rc, st⟩ := i3 n31; exact ⟨c, rc, Or.inl st⟩), by (try simp only [g7_σ39, g9_σ39, g10_σ39, g11_σ39, g12_σ39, g13_σ39, g14_σ39, g15_σ39, g20_σ39, g25_σ39]); omega, hB⟩ | exact ⟨hK, by (try simp only [g7_σ39, g9_σ39, g10_σ39, g11_σ39, g12_σ39, g13_σ39, g14_σ39, g15_σ39, g20_σ39, g25_σ39]); omega, fun q => absurd q (by (try simp only [g7_σ39, g9_σ39, g10_σ39, g11_σ39, g12_σ39, g13_σ39, g14_σ39, g15_σ39, g20_σ39, g25_σ39]); exact n102), fun _ => ⟨_, rc9, Or.inr ⟨z36.1, o90⟩⟩, by (try simp only [g7_σ39, g9_σ39, g10_σ39, g11_σ39, g12_σ39, g13_σ39, g14_σ39, g15_σ39, g20_σ39, g25_σ39]); omega, hB⟩ | exact absurd y31 n102 | exact ⟨hK, by (try simp only [g7_σ39, g9_σ39, g10_σ39, g11_σ39, g12_σ39, g13_σ39, g14_σ39, g15_σ39, g20_σ39, g25_σ39]); omega, fun _ => ⟨_, ⟨rc9, z36.1, o90⟩, ⟨RX_i g9_σ39 g10_σ39 g11_σ39 g12_σ39 g13_σ39 ((hT.2 224 (by decide)).trans tE) nE rl9.1.1.2, rl9.1.2⟩, by (try simp only [g7_σ39, g9_σ39, g10_σ39, g11_σ39, g12_σ39, g13_σ39, g14_σ39, g15_σ39, g20_σ39, g25_σ39])⟩, fun q => absurd (by (try simp only [g7_σ39, g9_σ39, g10_σ39, g11_σ39, g12_σ39, g13_σ39, g14_σ39, g15_σ39, g20_σ39, g25_σ39]); exact y102) q, by (try simp only [g7_σ39, g9_σ39, g10_σ39, g11_σ39, g12_σ39, g13_σ39, g14_σ39, g15_σ39, g20_σ39, g25_σ39]); omega, hB⟩, g7_σ39, g9_σ39⟩)⟩
    · have n36 := hc24
      refine ok_if (fun hc40 => ?_) (fun hc40 => ?_)
      · have w40 : w9 = false := (a9 n36).mp hc40
        subst w40
        refine ok_gC rfl ?_
        refine ok_zbT (Q := fun V σ => (TOK σ.1 ∧ ((σ5.1 218 11).toInt ≤ (σ.1 218 11).toInt ∧ 0 ≤ (σ.1 218 22).toInt ∧ (σ.1 218 22).toInt ≤ 40) ∧ (σ.1 218 14 = 0 → (σ5.1 218 11).toInt < (σ.1 218 11).toInt ∧ ∃ c, stp tx n x1 (p9, false, (lst (σ5.1 230) (σ5.1 218 22).toInt.toNat), (σ5.1 218 25).toInt.toNat) = some (some c) ∧ REL σ.1 tx n c ∧ (V = 0 ↔ c.2.1 = false)) ∧ (¬ σ.1 218 14 = 0 → stp tx n x1 (p9, false, (lst (σ5.1 230) (σ5.1 218 22).toInt.toNat), (σ5.1 218 25).toInt.toNat) = none) ∧ ZB σ.1) ∧ (σ.1 218 7 = σ5.1 218 7 ∧ σ.1 218 9 = σ5.1 218 9 ∧ σ.1 218 20 = σ5.1 218 20 ∧ σ.1 218 25 = σ5.1 218 25)) hT (s_X12_readsPart_232_r hN (hR.tr hT) (hK) (by rw [hT.2 224 (by decide)]; exact hY) (rl9.1.1) (y31) (hB) (hn) (by (try simp only [g7_σ5, g9_σ5, g20_σ5]); omega) (rl9.2.2.2.2 rfl) (rl9.2.1.2) (rl9.1.2)) (by decide) (fun v41 σ42 hOσ42 hT hqv41 => ?_)
        have hqv41 : (TOK σ42.1 ∧ ((σ5.1 218 11).toInt ≤ (σ42.1 218 11).toInt ∧ 0 ≤ (σ42.1 218 22).toInt ∧ (σ42.1 218 22).toInt ≤ 40) ∧ (σ42.1 218 14 = 0 → (σ5.1 218 11).toInt < (σ42.1 218 11).toInt ∧ ∃ c, stp tx n x1 (p9, false, (lst (σ5.1 230) (σ5.1 218 22).toInt.toNat), (σ5.1 218 25).toInt.toNat) = some (some c) ∧ REL σ42.1 tx n c ∧ (v41 = 0 ↔ c.2.1 = false)) ∧ (¬ σ42.1 218 14 = 0 → stp tx n x1 (p9, false, (lst (σ5.1 230) (σ5.1 218 22).toInt.toNat), (σ5.1 218 25).toInt.toNat) = none) ∧ ZB σ42.1) ∧ (σ42.1 218 7 = σ5.1 218 7 ∧ σ42.1 218 9 = σ5.1 218 9 ∧ σ42.1 218 20 = σ5.1 218 20 ∧ σ42.1 218 25 = σ5.1 218 25) := hqv41
        have hkv41 := hqv41
        have hqv41 := hqv41.1
        have hK : TOK σ42.1 := by first | exact hqv41.1 | exact hqv41.1.1 | exact TOK_p eσ42 (by decide) hK
        have hB : ZB σ42.1 := by first | exact hqv41.2.1 | exact hqv41.2.2.2.2 | exact hqv41.2.2.2.2.2
        try simp only [g7_σ5, g9_σ5, g20_σ5] at hqv41
        have g7_σ42 : σ42.1 218 7 = (σ0.1 218 7) := (hkv41.2.1).trans g7_σ5
        have g9_σ42 : σ42.1 218 9 = (σ0.1 218 9) := (hkv41.2.2.1).trans g9_σ5
        have g20_σ42 : σ42.1 218 20 = ((1 : Int32) <<< (x1 &&& 31)) := (hkv41.2.2.2.1).trans g20_σ5
        have g25_σ42 : σ42.1 218 25 = (σ5.1 218 25) := hkv41.2.2.2.2
        have m46 := hqv41.2
        have hKN := hK.1
        exact ih27_5 (v41, x4_5, σ42) (show Tr [218, 226, 227, 228, 229, 230] σ0 σ42 ∧ ((((σ0.1 218 11).toInt ≤ (σ42.1 218 11).toInt ∧ 0 ≤ (σ42.1 218 22).toInt ∧ (σ42.1 218 22).toInt ≤ 40) ∧ 0 ≤ (σ42.1 218 25).toInt ∧ (σ42.1 218 25).toInt ≤ 24) ∧ (σ42.1 218 14 = 0 → ∃ c : Cf, Rch tx n x1 ((i, false, [], (σ0.1 218 25).toInt.toNat) : Cf) c ∧ REL σ42.1 tx n c ∧ (¬ x4_5 = 0 → (v41 = 0 ↔ c.2.1 = false)) ∧ (x4_5 = 0 → stp tx n x1 c = some none ∧ c.2.1 = true)) ∧ (¬ σ42.1 218 14 = 0 → ∃ c : Cf, Rch tx n x1 ((i, false, [], (σ0.1 218 25).toInt.toNat) : Cf) c ∧ stp tx n x1 c = none)) ∧ (TOK σ42.1) ∧ (ZB σ42.1) ∧ (σ42.1 218 7 = (σ0.1 218 7)) ∧ (σ42.1 218 9 = (σ0.1 218 9)) ∧ (σ42.1 218 20 = ((1 : Int32) <<< (x1 &&& 31))) from ⟨hT, (by first | exact ⟨⟨⟨by (try simp only [g7_σ42, g9_σ42, g20_σ42, g25_σ42]); omega, by (try simp only [g7_σ42, g9_σ42, g20_σ42, g25_σ42]); omega⟩, by (try simp only [g7_σ42, g9_σ42, g20_σ42, g25_σ42]); omega⟩, fun q => by (obtain ⟨c, st, rl, iv⟩ := (m46.2.1 q).2; exact ⟨c, rc9.sn st, rl, fun _ => iv, fun h => absurd h n36⟩), fun q => ⟨_, rc9, m46.2.2.1 q⟩⟩ | exact ⟨⟨⟨by (try simp only [g7_σ42, g9_σ42, g20_σ42, g25_σ42]); omega, by (try simp only [g7_σ42, g9_σ42, g20_σ42, g25_σ42]); omega⟩, by (try simp only [g7_σ42, g9_σ42, g20_σ42, g25_σ42]); omega⟩, fun q => by (rcases m54.2.1 q with h | ⟨c, st, rl, _, h⟩; exact absurd (h.1.symm.trans e61) (by decide); rcases h with h | h; exact ⟨c, rc9.sn st, rl, fun _ => ⟨fun k => absurd k (by decide), fun k => absurd (h.2.symm.trans k) (by decide)⟩, fun k => absurd k (by decide)⟩; exact absurd (h.1.symm.trans e61) (by decide)), fun q => ⟨_, rc9, m54.2.2.1 q⟩⟩ | exact ⟨⟨⟨by (try simp only [g7_σ42, g9_σ42, g20_σ42, g25_σ42]); omega, by (try simp only [g7_σ42, g9_σ42, g20_σ42, g25_σ42]); omega⟩, by (try simp only [g7_σ42, g9_σ42, g20_σ42, g25_σ42]); omega⟩, fun q => by (rcases m54.2.1 q with h | ⟨c, st, rl, _, h⟩; exact ⟨_, rc9, h.2.2, fun k => absurd rfl k, fun _ => ⟨h.2.1, rfl⟩⟩; rcases h with h | h; exact absurd (h.1.symm.trans e73) (by decide); exact absurd (h.1.symm.trans e73) (by decide)), fun q => ⟨_, rc9, m54.2.2.1 q⟩⟩ | exact ⟨⟨⟨by (try simp only [g7_σ42, g9_σ42, g20_σ42, g25_σ42]); omega, by (try simp only [g7_σ42, g9_σ42, g20_σ42, g25_σ42]); omega⟩, by (try simp only [g7_σ42, g9_σ42, g20_σ42, g25_σ42]); omega⟩, fun q => by (rcases m54.2.1 q with h | ⟨c, st, rl, _, h⟩; exact absurd h.1 n73; rcases h with h | h; exact absurd h.1 n61; exact ⟨c, rc9.sn st, rl, fun _ => ⟨fun _ => h.2, fun _ => rfl⟩, fun k => absurd k (by decide)⟩), fun q => ⟨_, rc9, m54.2.2.1 q⟩⟩ | exact absurd (e73.symm.trans e61) (by decide)), hK, hB, g7_σ42, g9_σ42, g20_σ42⟩) (show (600 - (σ42.1 218 11).toInt).toNat + (if σ42.1 218 14 = 0 then 1 else 0) + (if x4_5 = 0 then 0 else 1) < (600 - (σ5.1 218 11).toInt).toNat + (if σ5.1 218 14 = 0 then 1 else 0) + (if x4_5 = 0 then 0 else 1) from (by first | exact mu1 (by omega) (by omega) y31 n36 (fun q => Or.inl (m46.2.1 q).1) | exact mu1 (by omega) (by omega) y31 n36 (fun q => Or.inr rfl) | exact mu1 (by omega) (by omega) y31 n36 (fun q => by rcases m54.2.1 q with h | ⟨c, st, rl, g, h⟩; exact absurd h.1 (by first | exact n73 | (rw [e61]; decide)); exact Or.inl g) | exact absurd (e73.symm.trans e61) (by decide)))
      · have w40 : w9 = true := by cases hw : w9; exact absurd ((a9 n36).mpr hw) hc40; rfl
        subst w40
        refine ok_gC rfl ?_
        refine ok_zbT (Q := fun V σ => (TOK σ.1 ∧ ((σ5.1 218 11).toInt ≤ (σ.1 218 11).toInt ∧ 0 ≤ (σ.1 218 22).toInt ∧ (σ.1 218 22).toInt ≤ 40) ∧ (σ.1 218 14 = 0 → (V = -1 ∧ stp tx n x1 (p9, true, (lst (σ5.1 230) (σ5.1 218 22).toInt.toNat), (σ5.1 218 25).toInt.toNat) = some none ∧ REL σ.1 tx n (p9, true, (lst (σ5.1 230) (σ5.1 218 22).toInt.toNat), (σ5.1 218 25).toInt.toNat)) ∨ (∃ c, stp tx n x1 (p9, true, (lst (σ5.1 230) (σ5.1 218 22).toInt.toNat), (σ5.1 218 25).toInt.toNat) = some (some c) ∧ REL σ.1 tx n c ∧ (σ5.1 218 11).toInt < (σ.1 218 11).toInt ∧ ((V = 0 ∧ c.2.1 = true) ∨ (V = 1 ∧ c.2.1 = false)))) ∧ (¬ σ.1 218 14 = 0 → stp tx n x1 (p9, true, (lst (σ5.1 230) (σ5.1 218 22).toInt.toNat), (σ5.1 218 25).toInt.toNat) = none) ∧ (0 ≤ (σ.1 218 25).toInt ∧ (σ.1 218 25).toInt ≤ 24) ∧ ZB σ.1) ∧ (σ.1 218 7 = σ5.1 218 7 ∧ σ.1 218 9 = σ5.1 218 9 ∧ σ.1 218 20 = σ5.1 218 20)) hT (s_X12_goesBehind_r hN (hR.tr hT) (hK) (by rw [hT.2 224 (by decide)]; exact hY) (rl9.1.1) (y31) (hB) (by (try simp only [g7_σ5, g9_σ5, g20_σ5]); omega) ((rl9.2.2.2.1 rfl).1) (rl9.2.1.2) ((rl9.2.2.2.1 rfl).2) (rl9.1.2) (i1.2)) (by decide) (fun v43 σ44 hOσ44 hT hqv43 => ?_)
        have hqv43 : (TOK σ44.1 ∧ ((σ5.1 218 11).toInt ≤ (σ44.1 218 11).toInt ∧ 0 ≤ (σ44.1 218 22).toInt ∧ (σ44.1 218 22).toInt ≤ 40) ∧ (σ44.1 218 14 = 0 → (v43 = -1 ∧ stp tx n x1 (p9, true, (lst (σ5.1 230) (σ5.1 218 22).toInt.toNat), (σ5.1 218 25).toInt.toNat) = some none ∧ REL σ44.1 tx n (p9, true, (lst (σ5.1 230) (σ5.1 218 22).toInt.toNat), (σ5.1 218 25).toInt.toNat)) ∨ (∃ c, stp tx n x1 (p9, true, (lst (σ5.1 230) (σ5.1 218 22).toInt.toNat), (σ5.1 218 25).toInt.toNat) = some (some c) ∧ REL σ44.1 tx n c ∧ (σ5.1 218 11).toInt < (σ44.1 218 11).toInt ∧ ((v43 = 0 ∧ c.2.1 = true) ∨ (v43 = 1 ∧ c.2.1 = false)))) ∧ (¬ σ44.1 218 14 = 0 → stp tx n x1 (p9, true, (lst (σ5.1 230) (σ5.1 218 22).toInt.toNat), (σ5.1 218 25).toInt.toNat) = none) ∧ (0 ≤ (σ44.1 218 25).toInt ∧ (σ44.1 218 25).toInt ≤ 24) ∧ ZB σ44.1) ∧ (σ44.1 218 7 = σ5.1 218 7 ∧ σ44.1 218 9 = σ5.1 218 9 ∧ σ44.1 218 20 = σ5.1 218 20) := hqv43
        have hkv43 := hqv43
        have hqv43 := hqv43.1
        have hK : TOK σ44.1 := by first | exact hqv43.1 | exact hqv43.1.1 | exact TOK_p eσ44 (by decide) hK
        have hB : ZB σ44.1 := by first | exact hqv43.2.1 | exact hqv43.2.2.2.2 | exact hqv43.2.2.2.2.2
        try simp only [g7_σ5, g9_σ5, g20_σ5] at hqv43
        have g7_σ44 : σ44.1 218 7 = (σ0.1 218 7) := (hkv43.2.1).trans g7_σ5
        have g9_σ44 : σ44.1 218 9 = (σ0.1 218 9) := (hkv43.2.2.1).trans g9_σ5
        have g20_σ44 : σ44.1 218 20 = ((1 : Int32) <<< (x1 &&& 31)) := (hkv43.2.2.2).trans g20_σ5
        have m54 := hqv43.2
        have hKN := hK.1
        refine ok_if (fun hc45 => ?_) (fun hc45 => ?_)
        · have e61 := hc45
          rw [J_X12_readsSum_69.eq_1]
          refine ok_if (fun hc46 => ?_) (fun hc46 => ?_)
          · have e73 := hc46
            exact ih27_5 (1, 0, σ44) (show Tr [218, 226, 227, 228, 229, 230] σ0 σ44 ∧ ((((σ0.1 218 11).toInt ≤ (σ44.1 218 11).toInt ∧ 0 ≤ (σ44.1 218 22).toInt ∧ (σ44.1 218 22).toInt ≤ 40) ∧ 0 ≤ (σ44.1 218 25).toInt ∧ (σ44.1 218 25).toInt ≤ 24) ∧ (σ44.1 218 14 = 0 → ∃ c : Cf, Rch tx n x1 ((i, false, [], (σ0.1 218 25).toInt.toNat) : Cf) c ∧ REL σ44.1 tx n c ∧ (¬ (0 : Int32) = 0 → ((1 : Int32) = 0 ↔ c.2.1 = false)) ∧ ((0 : Int32) = 0 → stp tx n x1 c = some none ∧ c.2.1 = true)) ∧ (¬ σ44.1 218 14 = 0 → ∃ c : Cf, Rch tx n x1 ((i, false, [], (σ0.1 218 25).toInt.toNat) : Cf) c ∧ stp tx n x1 c = none)) ∧ (TOK σ44.1) ∧ (ZB σ44.1) ∧ (σ44.1 218 7 = (σ0.1 218 7)) ∧ (σ44.1 218 9 = (σ0.1 218 9)) ∧ (σ44.1 218 20 = ((1 : Int32) <<< (x1 &&& 31))) from ⟨hT, (by first | exact ⟨⟨⟨by (try simp only [g7_σ44, g9_σ44, g20_σ44]); omega, by (try simp only [g7_σ44, g9_σ44, g20_σ44]); omega⟩, by (try simp only [g7_σ44, g9_σ44, g20_σ44]); omega⟩, fun q => by (obtain ⟨c, st, rl, iv⟩ := (m46.2.1 q).2; exact ⟨c, rc9.sn st, rl, fun _ => iv, fun h => absurd h n36⟩), fun q => ⟨_, rc9, m46.2.2.1 q⟩⟩ | exact ⟨⟨⟨by (try simp only [g7_σ44, g9_σ44, g20_σ44]); omega, by (try simp only [g7_σ44, g9_σ44, g20_σ44]); omega⟩, by (try simp only [g7_σ44, g9_σ44, g20_σ44]); omega⟩, fun q => by (rcases m54.2.1 q with h | ⟨c, st, rl, _, h⟩; exact absurd (h.1.symm.trans e61) (by decide); rcases h with h | h; exact ⟨c, rc9.sn st, rl, fun _ => ⟨fun k => absurd k (by decide), fun k => absurd (h.2.symm.trans k) (by decide)⟩, fun k => absurd k (by decide)⟩; exact absurd (h.1.symm.trans e61) (by decide)), fun q => ⟨_, rc9, m54.2.2.1 q⟩⟩ | exact ⟨⟨⟨by (try simp only [g7_σ44, g9_σ44, g20_σ44]); omega, by (try simp only [g7_σ44, g9_σ44, g20_σ44]); omega⟩, by (try simp only [g7_σ44, g9_σ44, g20_σ44]); omega⟩, fun q => by (rcases m54.2.1 q with h | ⟨c, st, rl, _, h⟩; exact ⟨_, rc9, h.2.2, fun k => absurd rfl k, fun _ => ⟨h.2.1, rfl⟩⟩; rcases h with h | h; exact absurd (h.1.symm.trans e73) (by decide); exact absurd (h.1.symm.trans e73) (by decide)), fun q => ⟨_, rc9, m54.2.2.1 q⟩⟩ | exact ⟨⟨⟨by (try simp only [g7_σ44, g9_σ44, g20_σ44]); omega, by (try simp only [g7_σ44, g9_σ44, g20_σ44]); omega⟩, by (try simp only [g7_σ44, g9_σ44, g20_σ44]); omega⟩, fun q => by (rcases m54.2.1 q with h | ⟨c, st, rl, _, h⟩; exact absurd h.1 n73; rcases h with h | h; exact absurd h.1 n61; exact ⟨c, rc9.sn st, rl, fun _ => ⟨fun _ => h.2, fun _ => rfl⟩, fun k => absurd k (by decide)⟩), fun q => ⟨_, rc9, m54.2.2.1 q⟩⟩ | exact absurd (e73.symm.trans e61) (by decide)), hK, hB, g7_σ44, g9_σ44, g20_σ44⟩) (show (600 - (σ44.1 218 11).toInt).toNat + (if σ44.1 218 14 = 0 then 1 else 0) + (if (0 : Int32) = 0 then 0 else 1) < (600 - (σ5.1 218 11).toInt).toNat + (if σ5.1 218 14 = 0 then 1 else 0) + (if x4_5 = 0 then 0 else 1) from (by first | exact mu1 (by omega) (by omega) y31 n36 (fun q => Or.inl (m46.2.1 q).1) | exact mu1 (by omega) (by omega) y31 n36 (fun q => Or.inr rfl) | exact mu1 (by omega) (by omega) y31 n36 (fun q => by rcases m54.2.1 q with h | ⟨c, st, rl, g, h⟩; exact absurd h.1 (by first | exact n73 | (rw [e61]; decide)); exact Or.inl g) | exact absurd (e73.symm.trans e61) (by decide)))
          · have n73 := hc46
            exact ih27_5 (1, 1, σ44) (show Tr [218, 226, 227, 228, 229, 230] σ0 σ44 ∧ ((((σ0.1 218 11).toInt ≤ (σ44.1 218 11).toInt ∧ 0 ≤ (σ44.1 218 22).toInt ∧ (σ44.1 218 22).toInt ≤ 40) ∧ 0 ≤ (σ44.1 218 25).toInt ∧ (σ44.1 218 25).toInt ≤ 24) ∧ (σ44.1 218 14 = 0 → ∃ c : Cf, Rch tx n x1 ((i, false, [], (σ0.1 218 25).toInt.toNat) : Cf) c ∧ REL σ44.1 tx n c ∧ (¬ (1 : Int32) = 0 → ((1 : Int32) = 0 ↔ c.2.1 = false)) ∧ ((1 : Int32) = 0 → stp tx n x1 c = some none ∧ c.2.1 = true)) ∧ (¬ σ44.1 218 14 = 0 → ∃ c : Cf, Rch tx n x1 ((i, false, [], (σ0.1 218 25).toInt.toNat) : Cf) c ∧ stp tx n x1 c = none)) ∧ (TOK σ44.1) ∧ (ZB σ44.1) ∧ (σ44.1 218 7 = (σ0.1 218 7)) ∧ (σ44.1 218 9 = (σ0.1 218 9)) ∧ (σ44.1 218 20 = ((1 : Int32) <<< (x1 &&& 31))) from ⟨hT, (by first | exact ⟨⟨⟨by (try simp only [g7_σ44, g9_σ44, g20_σ44]); omega, by (try simp only [g7_σ44, g9_σ44, g20_σ44]); omega⟩, by (try simp only [g7_σ44, g9_σ44, g20_σ44]); omega⟩, fun q => by (obtain ⟨c, st, rl, iv⟩ := (m46.2.1 q).2; exact ⟨c, rc9.sn st, rl, fun _ => iv, fun h => absurd h n36⟩), fun q => ⟨_, rc9, m46.2.2.1 q⟩⟩ | exact ⟨⟨⟨by (try simp only [g7_σ44, g9_σ44, g20_σ44]); omega, by (try simp only [g7_σ44, g9_σ44, g20_σ44]); omega⟩, by (try simp only [g7_σ44, g9_σ44, g20_σ44]); omega⟩, fun q => by (rcases m54.2.1 q with h | ⟨c, st, rl, _, h⟩; exact absurd (h.1.symm.trans e61) (by decide); rcases h with h | h; exact ⟨c, rc9.sn st, rl, fun _ => ⟨fun k => absurd k (by decide), fun k => absurd (h.2.symm.trans k) (by decide)⟩, fun k => absurd k (by decide)⟩; exact absurd (h.1.symm.trans e61) (by decide)), fun q => ⟨_, rc9, m54.2.2.1 q⟩⟩ | exact ⟨⟨⟨by (try simp only [g7_σ44, g9_σ44, g20_σ44]); omega, by (try simp only [g7_σ44, g9_σ44, g20_σ44]); omega⟩, by (try simp only [g7_σ44, g9_σ44, g20_σ44]); omega⟩, fun q => by (rcases m54.2.1 q with h | ⟨c, st, rl, _, h⟩; exact ⟨_, rc9, h.2.2, fun k => absurd rfl k, fun _ => ⟨h.2.1, rfl⟩⟩; rcases h with h | h; exact absurd (h.1.symm.trans e73) (by decide); exact absurd (h.1.symm.trans e73) (by decide)), fun q => ⟨_, rc9, m54.2.2.1 q⟩⟩ | exact ⟨⟨⟨by (try simp only [g7_σ44, g9_σ44, g20_σ44]); omega, by (try simp only [g7_σ44, g9_σ44, g20_σ44]); omega⟩, by (try simp only [g7_σ44, g9_σ44, g20_σ44]); omega⟩, fun q => by (rcases m54.2.1 q with h | ⟨c, st, rl, _, h⟩; exact absurd h.1 n73; rcases h with h | h; exact absurd h.1 n61; exact ⟨c, rc9.sn st, rl, fun _ => ⟨fun _ => h.2, fun _ => rfl⟩, fun k => absurd k (by decide)⟩), fun q => ⟨_, rc9, m54.2.2.1 q⟩⟩ | exact absurd (e73.symm.trans e61) (by decide)), hK, hB, g7_σ44, g9_σ44, g20_σ44⟩) (show (600 - (σ44.1 218 11).toInt).toNat + (if σ44.1 218 14 = 0 then 1 else 0) + (if (1 : Int32) = 0 then 0 else 1) < (600 - (σ5.1 218 11).toInt).toNat + (if σ5.1 218 14 = 0 then 1 else 0) + (if x4_5 = 0 then 0 else 1) from (by first | exact mu1 (by omega) (by omega) y31 n36 (fun q => Or.inl (m46.2.1 q).1) | exact mu1 (by omega) (by omega) y31 n36 (fun q => Or.inr rfl) | exact mu1 (by omega) (by omega) y31 n36 (fun q => by rcases m54.2.1 q with h | ⟨c, st, rl, g, h⟩; exact absurd h.1 (by first | exact n73 | (rw [e61]; decide)); exact Or.inl g) | exact absurd (e73.symm.trans e61) (by decide)))
        · have n61 := hc45
          rw [J_X12_readsSum_69.eq_1]
          refine ok_if (fun hc47 => ?_) (fun hc47 => ?_)
          · have e73 := hc47
            exact ih27_5 (0, 0, σ44) (show Tr [218, 226, 227, 228, 229, 230] σ0 σ44 ∧ ((((σ0.1 218 11).toInt ≤ (σ44.1 218 11).toInt ∧ 0 ≤ (σ44.1 218 22).toInt ∧ (σ44.1 218 22).toInt ≤ 40) ∧ 0 ≤ (σ44.1 218 25).toInt ∧ (σ44.1 218 25).toInt ≤ 24) ∧ (σ44.1 218 14 = 0 → ∃ c : Cf, Rch tx n x1 ((i, false, [], (σ0.1 218 25).toInt.toNat) : Cf) c ∧ REL σ44.1 tx n c ∧ (¬ (0 : Int32) = 0 → ((0 : Int32) = 0 ↔ c.2.1 = false)) ∧ ((0 : Int32) = 0 → stp tx n x1 c = some none ∧ c.2.1 = true)) ∧ (¬ σ44.1 218 14 = 0 → ∃ c : Cf, Rch tx n x1 ((i, false, [], (σ0.1 218 25).toInt.toNat) : Cf) c ∧ stp tx n x1 c = none)) ∧ (TOK σ44.1) ∧ (ZB σ44.1) ∧ (σ44.1 218 7 = (σ0.1 218 7)) ∧ (σ44.1 218 9 = (σ0.1 218 9)) ∧ (σ44.1 218 20 = ((1 : Int32) <<< (x1 &&& 31))) from ⟨hT, (by first | exact ⟨⟨⟨by (try simp only [g7_σ44, g9_σ44, g20_σ44]); omega, by (try simp only [g7_σ44, g9_σ44, g20_σ44]); omega⟩, by (try simp only [g7_σ44, g9_σ44, g20_σ44]); omega⟩, fun q => by (obtain ⟨c, st, rl, iv⟩ := (m46.2.1 q).2; exact ⟨c, rc9.sn st, rl, fun _ => iv, fun h => absurd h n36⟩), fun q => ⟨_, rc9, m46.2.2.1 q⟩⟩ | exact ⟨⟨⟨by (try simp only [g7_σ44, g9_σ44, g20_σ44]); omega, by (try simp only [g7_σ44, g9_σ44, g20_σ44]); omega⟩, by (try simp only [g7_σ44, g9_σ44, g20_σ44]); omega⟩, fun q => by (rcases m54.2.1 q with h | ⟨c, st, rl, _, h⟩; exact absurd (h.1.symm.trans e61) (by decide); rcases h with h | h; exact ⟨c, rc9.sn st, rl, fun _ => ⟨fun k => absurd k (by decide), fun k => absurd (h.2.symm.trans k) (by decide)⟩, fun k => absurd k (by decide)⟩; exact absurd (h.1.symm.trans e61) (by decide)), fun q => ⟨_, rc9, m54.2.2.1 q⟩⟩ | exact ⟨⟨⟨by (try simp only [g7_σ44, g9_σ44, g20_σ44]); omega, by (try simp only [g7_σ44, g9_σ44, g20_σ44]); omega⟩, by (try simp only [g7_σ44, g9_σ44, g20_σ44]); omega⟩, fun q => by (rcases m54.2.1 q with h | ⟨c, st, rl, _, h⟩; exact ⟨_, rc9, h.2.2, fun k => absurd rfl k, fun _ => ⟨h.2.1, rfl⟩⟩; rcases h with h | h; exact absurd (h.1.symm.trans e73) (by decide); exact absurd (h.1.symm.trans e73) (by decide)), fun q => ⟨_, rc9, m54.2.2.1 q⟩⟩ | exact ⟨⟨⟨by (try simp only [g7_σ44, g9_σ44, g20_σ44]); omega, by (try simp only [g7_σ44, g9_σ44, g20_σ44]); omega⟩, by (try simp only [g7_σ44, g9_σ44, g20_σ44]); omega⟩, fun q => by (rcases m54.2.1 q with h | ⟨c, st, rl, _, h⟩; exact absurd h.1 n73; rcases h with h | h; exact absurd h.1 n61; exact ⟨c, rc9.sn st, rl, fun _ => ⟨fun _ => h.2, fun _ => rfl⟩, fun k => absurd k (by decide)⟩), fun q => ⟨_, rc9, m54.2.2.1 q⟩⟩ | exact absurd (e73.symm.trans e61) (by decide)), hK, hB, g7_σ44, g9_σ44, g20_σ44⟩) (show (600 - (σ44.1 218 11).toInt).toNat + (if σ44.1 218 14 = 0 then 1 else 0) + (if (0 : Int32) = 0 then 0 else 1) < (600 - (σ5.1 218 11).toInt).toNat + (if σ5.1 218 14 = 0 then 1 else 0) + (if x4_5 = 0 then 0 else 1) from (by first | exact mu1 (by omega) (by omega) y31 n36 (fun q => Or.inl (m46.2.1 q).1) | exact mu1 (by omega) (by omega) y31 n36 (fun q => Or.inr rfl) | exact mu1 (by omega) (by omega) y31 n36 (fun q => by rcases m54.2.1 q with h | ⟨c, st, rl, g, h⟩; exact absurd h.1 (by first | exact n73 | (rw [e61]; decide)); exact Or.inl g) | exact absurd (e73.symm.trans e61) (by decide)))
          · have n73 := hc47
            exact ih27_5 (0, 1, σ44) (show Tr [218, 226, 227, 228, 229, 230] σ0 σ44 ∧ ((((σ0.1 218 11).toInt ≤ (σ44.1 218 11).toInt ∧ 0 ≤ (σ44.1 218 22).toInt ∧ (σ44.1 218 22).toInt ≤ 40) ∧ 0 ≤ (σ44.1 218 25).toInt ∧ (σ44.1 218 25).toInt ≤ 24) ∧ (σ44.1 218 14 = 0 → ∃ c : Cf, Rch tx n x1 ((i, false, [], (σ0.1 218 25).toInt.toNat) : Cf) c ∧ REL σ44.1 tx n c ∧ (¬ (1 : Int32) = 0 → ((0 : Int32) = 0 ↔ c.2.1 = false)) ∧ ((1 : Int32) = 0 → stp tx n x1 c = some none ∧ c.2.1 = true)) ∧ (¬ σ44.1 218 14 = 0 → ∃ c : Cf, Rch tx n x1 ((i, false, [], (σ0.1 218 25).toInt.toNat) : Cf) c ∧ stp tx n x1 c = none)) ∧ (TOK σ44.1) ∧ (ZB σ44.1) ∧ (σ44.1 218 7 = (σ0.1 218 7)) ∧ (σ44.1 218 9 = (σ0.1 218 9)) ∧ (σ44.1 218 20 = ((1 : Int32) <<< (x1 &&& 31))) from ⟨hT, (by first | exact ⟨⟨⟨by (try simp only [g7_σ44, g9_σ44, g20_σ44]); omega, by (try simp only [g7_σ44, g9_σ44, g20_σ44]); omega⟩, by (try simp only [g7_σ44, g9_σ44, g20_σ44]); omega⟩, fun q => by (obtain ⟨c, st, rl, iv⟩ := (m46.2.1 q).2; exact ⟨c, rc9.sn st, rl, fun _ => iv, fun h => absurd h n36⟩), fun q => ⟨_, rc9, m46.2.2.1 q⟩⟩ | exact ⟨⟨⟨by (try simp only [g7_σ44, g9_σ44, g20_σ44]); omega, by (try simp only [g7_σ44, g9_σ44, g20_σ44]); omega⟩, by (try simp only [g7_σ44, g9_σ44, g20_σ44]); omega⟩, fun q => by (rcases m54.2.1 q with h | ⟨c, st, rl, _, h⟩; exact absurd (h.1.symm.trans e61) (by decide); rcases h with h | h; exact ⟨c, rc9.sn st, rl, fun _ => ⟨fun k => absurd k (by decide), fun k => absurd (h.2.symm.trans k) (by decide)⟩, fun k => absurd k (by decide)⟩; exact absurd (h.1.symm.trans e61) (by decide)), fun q => ⟨_, rc9, m54.2.2.1 q⟩⟩ | exact ⟨⟨⟨by (try simp only [g7_σ44, g9_σ44, g20_σ44]); omega, by (try simp only [g7_σ44, g9_σ44, g20_σ44]); omega⟩, by (try simp only [g7_σ44, g9_σ44, g20_σ44]); omega⟩, fun q => by (rcases m54.2.1 q with h | ⟨c, st, rl, _, h⟩; exact ⟨_, rc9, h.2.2, fun k => absurd rfl k, fun _ => ⟨h.2.1, rfl⟩⟩; rcases h with h | h; exact absurd (h.1.symm.trans e73) (by decide); exact absurd (h.1.symm.trans e73) (by decide)), fun q => ⟨_, rc9, m54.2.2.1 q⟩⟩ | exact ⟨⟨⟨by (try simp only [g7_σ44, g9_σ44, g20_σ44]); omega, by (try simp only [g7_σ44, g9_σ44, g20_σ44]); omega⟩, by (try simp only [g7_σ44, g9_σ44, g20_σ44]); omega⟩, fun q => by (rcases m54.2.1 q with h | ⟨c, st, rl, _, h⟩; exact absurd h.1 n73; rcases h with h | h; exact absurd h.1 n61; exact ⟨c, rc9.sn st, rl, fun _ => ⟨fun _ => h.2, fun _ => rfl⟩, fun k => absurd k (by decide)⟩), fun q => ⟨_, rc9, m54.2.2.1 q⟩⟩ | exact absurd (e73.symm.trans e61) (by decide)), hK, hB, g7_σ44, g9_σ44, g20_σ44⟩) (show (600 - (σ44.1 218 11).toInt).toNat + (if σ44.1 218 14 = 0 then 1 else 0) + (if (1 : Int32) = 0 then 0 else 1) < (600 - (σ5.1 218 11).toInt).toNat + (if σ5.1 218 14 = 0 then 1 else 0) + (if x4_5 = 0 then 0 else 1) from (by first | exact mu1 (by omega) (by omega) y31 n36 (fun q => Or.inl (m46.2.1 q).1) | exact mu1 (by omega) (by omega) y31 n36 (fun q => Or.inr rfl) | exact mu1 (by omega) (by omega) y31 n36 (fun q => by rcases m54.2.1 q with h | ⟨c, st, rl, g, h⟩; exact absurd h.1 (by first | exact n73 | (rw [e61]; decide)); exact Or.inl g) | exact absurd (e73.symm.trans e61) (by decide)))
end Zq12_0
section Zq12_1
set_option maxHeartbeats 4000000 in
set_option maxRecDepth 100000 in
theorem s_X12_needs_r {N : Nat} (hN : 1048576 ≤ N) {x1 : Nat} {σ0 : zS} {tx : Nat → Int32} {n i : Nat} (hR : RF σ0.2.2) (hK : TOK σ0.1) (hY : BYT (σ0.1 224)) (hG : RX σ0.1 tx n i) (hg : σ0.1 218 14 = 0) (hw : x1 < zSn) : Ok (f_X12_needs N 218 x1 σ0) (fun r => Tr [218] σ0 r.2 ∧ ((TOK r.2.1 ∧ (σ0.1 218 11).toInt ≤ (r.2.1 218 11).toInt ∧ (r.2.1 218 14 = 0 → isW tx n i x1 ∧ RX r.2.1 tx n (tkE tx n i)) ∧ (¬ r.2.1 218 14 = 0 → ¬ isW tx n i x1)) ∧ (r.2.1 218 7 = σ0.1 218 7 ∧ r.2.1 218 9 = σ0.1 218 9 ∧ r.2.1 218 20 = σ0.1 218 20 ∧ r.2.1 218 22 = σ0.1 218 22 ∧ r.2.1 218 23 = σ0.1 218 23 ∧ r.2.1 218 24 = σ0.1 218 24 ∧ r.2.1 218 25 = σ0.1 218 25))) := by
  have hT : Tr [218] σ0 σ0 := Tr.rf
  have hK1 := hK.1
  have tE : σ0.1 224 = tx := hG.1.1
  have nE : (σ0.1 218 9).toInt.toNat = n := hG.1.2
  have pK : TKV (σ0.1 218 11) (σ0.1 218 10) (σ0.1 218 12) (σ0.1 218 13) tx n i := hG.2
  rw [f_X12_needs.eq_1]
  refine ok_gC rfl ?_
  refine ok_zbT (Q := fun V σ => (TOK σ.1 ∧ (σ0.1 218 11).toInt ≤ (σ.1 218 11).toInt ∧ (V = 0 → σ = σ0 ∧ ¬ isW tx n i x1) ∧ (¬ V = 0 → (isW tx n i x1 ∧ (σ0.1 218 11).toInt < (σ.1 218 11).toInt) ∧ RX σ.1 tx n (tkE tx n i))) ∧ (σ.1 218 7 = σ0.1 218 7 ∧ σ.1 218 9 = σ0.1 218 9 ∧ σ.1 218 14 = σ0.1 218 14 ∧ σ.1 218 15 = σ0.1 218 15 ∧ σ.1 218 20 = σ0.1 218 20 ∧ σ.1 218 22 = σ0.1 218 22 ∧ σ.1 218 23 = σ0.1 218 23 ∧ σ.1 218 24 = σ0.1 218 24 ∧ σ.1 218 25 = σ0.1 218 25)) hT (s_X12_takes_r hN (hR.tr hT) (hK) (by rw [hT.2 224 (by decide)]; exact hY) (RX_i rfl rfl rfl rfl rfl ((hT.2 224 (by decide)).trans tE) nE pK) (hg) (hw)) (by decide) (fun v1 σ2 hOσ2 hT hqv1 => ?_)
  have hqv1 : (TOK σ2.1 ∧ (σ0.1 218 11).toInt ≤ (σ2.1 218 11).toInt ∧ (v1 = 0 → σ2 = σ0 ∧ ¬ isW tx n i x1) ∧ (¬ v1 = 0 → (isW tx n i x1 ∧ (σ0.1 218 11).toInt < (σ2.1 218 11).toInt) ∧ RX σ2.1 tx n (tkE tx n i))) ∧ (σ2.1 218 7 = σ0.1 218 7 ∧ σ2.1 218 9 = σ0.1 218 9 ∧ σ2.1 218 14 = σ0.1 218 14 ∧ σ2.1 218 15 = σ0.1 218 15 ∧ σ2.1 218 20 = σ0.1 218 20 ∧ σ2.1 218 22 = σ0.1 218 22 ∧ σ2.1 218 23 = σ0.1 218 23 ∧ σ2.1 218 24 = σ0.1 218 24 ∧ σ2.1 218 25 = σ0.1 218 25) := hqv1
  have hkv1 := hqv1
  have hqv1 := hqv1.1
  have hK : TOK σ2.1 := by first | exact hqv1.1 | exact hqv1.1.1 | exact TOK_p eσ2 (by decide) hK
  have g7_σ2 : σ2.1 218 7 = (σ0.1 218 7) := hkv1.2.1
  have g9_σ2 : σ2.1 218 9 = (σ0.1 218 9) := hkv1.2.2.1
  have g14_σ2 : σ2.1 218 14 = (σ0.1 218 14) := hkv1.2.2.2.1
  have g15_σ2 : σ2.1 218 15 = (σ0.1 218 15) := hkv1.2.2.2.2.1
  have g20_σ2 : σ2.1 218 20 = (σ0.1 218 20) := hkv1.2.2.2.2.2.1
  have g22_σ2 : σ2.1 218 22 = (σ0.1 218 22) := hkv1.2.2.2.2.2.2.1
  have g23_σ2 : σ2.1 218 23 = (σ0.1 218 23) := hkv1.2.2.2.2.2.2.2.1
  have g24_σ2 : σ2.1 218 24 = (σ0.1 218 24) := hkv1.2.2.2.2.2.2.2.2.1
  have g25_σ2 : σ2.1 218 25 = (σ0.1 218 25) := hkv1.2.2.2.2.2.2.2.2.2
  have m2 := hqv1.2.1
  have a2 := hqv1.2.2.1
  have b2 := hqv1.2.2.2
  refine ok_if (fun hc3 => ?_) (fun hc3 => ?_)
  · have q5 := a2 hc3
    refine ok_gC rfl ?_
    refine ok_zbT (Q := fun V σ => (TOK σ.1 ∧ ¬ σ.1 218 14 = 0) ∧ (σ.1 218 7 = σ2.1 218 7 ∧ σ.1 218 9 = σ2.1 218 9 ∧ σ.1 218 10 = σ2.1 218 10 ∧ σ.1 218 11 = σ2.1 218 11 ∧ σ.1 218 12 = σ2.1 218 12 ∧ σ.1 218 13 = σ2.1 218 13 ∧ σ.1 218 20 = σ2.1 218 20 ∧ σ.1 218 22 = σ2.1 218 22 ∧ σ.1 218 23 = σ2.1 218 23 ∧ σ.1 218 24 = σ2.1 218 24 ∧ σ.1 218 25 = σ2.1 218 25)) hT (s_X12_errs hN (hR.tr hT) (hK) (by rw [hT.2 224 (by decide)]; exact hY) (by decide)) (by decide) (fun v4 σ5 hOσ5 hT hqv4 => ?_)
    have hqv4 : (TOK σ5.1 ∧ ¬ σ5.1 218 14 = 0) ∧ (σ5.1 218 7 = σ2.1 218 7 ∧ σ5.1 218 9 = σ2.1 218 9 ∧ σ5.1 218 10 = σ2.1 218 10 ∧ σ5.1 218 11 = σ2.1 218 11 ∧ σ5.1 218 12 = σ2.1 218 12 ∧ σ5.1 218 13 = σ2.1 218 13 ∧ σ5.1 218 20 = σ2.1 218 20 ∧ σ5.1 218 22 = σ2.1 218 22 ∧ σ5.1 218 23 = σ2.1 218 23 ∧ σ5.1 218 24 = σ2.1 218 24 ∧ σ5.1 218 25 = σ2.1 218 25) := hqv4
    have hkv4 := hqv4
    have hqv4 := hqv4.1
    have hK : TOK σ5.1 := by first | exact hqv4.1 | exact hqv4.1.1 | exact TOK_p eσ5 (by decide) hK
    try simp only [g7_σ2, g9_σ2, g14_σ2, g15_σ2, g20_σ2, g22_σ2, g23_σ2, g24_σ2, g25_σ2] at hqv4
    have g7_σ5 : σ5.1 218 7 = (σ0.1 218 7) := (hkv4.2.1).trans g7_σ2
    have g9_σ5 : σ5.1 218 9 = (σ0.1 218 9) := (hkv4.2.2.1).trans g9_σ2
    have g10_σ5 : σ5.1 218 10 = (σ2.1 218 10) := hkv4.2.2.2.1
    have g11_σ5 : σ5.1 218 11 = (σ2.1 218 11) := hkv4.2.2.2.2.1
    have g12_σ5 : σ5.1 218 12 = (σ2.1 218 12) := hkv4.2.2.2.2.2.1
    have g13_σ5 : σ5.1 218 13 = (σ2.1 218 13) := hkv4.2.2.2.2.2.2.1
    have g20_σ5 : σ5.1 218 20 = (σ0.1 218 20) := (hkv4.2.2.2.2.2.2.2.1).trans g20_σ2
    have g22_σ5 : σ5.1 218 22 = (σ0.1 218 22) := (hkv4.2.2.2.2.2.2.2.2.1).trans g22_σ2
    have g23_σ5 : σ5.1 218 23 = (σ0.1 218 23) := (hkv4.2.2.2.2.2.2.2.2.2.1).trans g23_σ2
    have g24_σ5 : σ5.1 218 24 = (σ0.1 218 24) := (hkv4.2.2.2.2.2.2.2.2.2.2.1).trans g24_σ2
    have g25_σ5 : σ5.1 218 25 = (σ0.1 218 25) := (hkv4.2.2.2.2.2.2.2.2.2.2.2).trans g25_σ2
    exact ok_some ⟨hT, (show (TOK σ5.1 ∧ (σ0.1 218 11).toInt ≤ (σ5.1 218 11).toInt ∧ (σ5.1 218 14 = 0 → isW tx n i x1 ∧ RX σ5.1 tx n (tkE tx n i)) ∧ (¬ σ5.1 218 14 = 0 → ¬ isW tx n i x1)) ∧ (σ5.1 218 7 = σ0.1 218 7 ∧ σ5.1 218 9 = σ0.1 218 9 ∧ σ5.1 218 20 = σ0.1 218 20 ∧ σ5.1 218 22 = σ0.1 218 22 ∧ σ5.1 218 23 = σ0.1 218 23 ∧ σ5.1 218 24 = σ0.1 218 24 ∧ σ5.1 218 25 = σ0.1 218 25) from ⟨by first | exact ⟨hK, by (try simp only [g7_σ5, g9_σ5, g10_σ5, g11_σ5, g12_σ5, g13_σ5, g20_σ5, g22_σ5, g23_σ5, g24_σ5, g25_σ5]); omega, fun q => absurd q (by (try simp only [g7_σ5, g9_σ5, g10_σ5, g11_σ5, g12_σ5, g13_σ5, g20_σ5, g22_σ5, g23_σ5, g24_σ5, g25_σ5]); exact hqv4.2), fun _ => q5.2⟩ | exact ⟨hK, by (try simp only [g7_σ5, g9_σ5, g10_σ5, g11_σ5, g12_σ5, g13_σ5, g20_σ5, g22_σ5, g23_σ5, g24_σ5, g25_σ5]); omega, fun _ => ⟨q5.1.1, q5.2⟩, fun q => absurd (rfl.trans hg) q⟩, g7_σ5, g9_σ5, g20_σ5, g22_σ5, g23_σ5, g24_σ5, g25_σ5⟩)⟩
  · have q5 := b2 hc3
    exact ok_some ⟨hT, (show (TOK σ2.1 ∧ (σ0.1 218 11).toInt ≤ (σ2.1 218 11).toInt ∧ (σ2.1 218 14 = 0 → isW tx n i x1 ∧ RX σ2.1 tx n (tkE tx n i)) ∧ (¬ σ2.1 218 14 = 0 → ¬ isW tx n i x1)) ∧ (σ2.1 218 7 = σ0.1 218 7 ∧ σ2.1 218 9 = σ0.1 218 9 ∧ σ2.1 218 20 = σ0.1 218 20 ∧ σ2.1 218 22 = σ0.1 218 22 ∧ σ2.1 218 23 = σ0.1 218 23 ∧ σ2.1 218 24 = σ0.1 218 24 ∧ σ2.1 218 25 = σ0.1 218 25) from ⟨by first | exact ⟨hK, by (try simp only [g7_σ2, g9_σ2, g14_σ2, g15_σ2, g20_σ2, g22_σ2, g23_σ2, g24_σ2, g25_σ2]); omega, fun q => absurd q (by (try simp only [g7_σ2, g9_σ2, g14_σ2, g15_σ2, g20_σ2, g22_σ2, g23_σ2, g24_σ2, g25_σ2]); exact hqv1.2), fun _ => q5.2⟩ | exact ⟨hK, by (try simp only [g7_σ2, g9_σ2, g14_σ2, g15_σ2, g20_σ2, g22_σ2, g23_σ2, g24_σ2, g25_σ2]); omega, fun _ => ⟨q5.1.1, q5.2⟩, fun q => absurd (g14_σ2.trans hg) q⟩, g7_σ2, g9_σ2, g20_σ2, g22_σ2, g23_σ2, g24_σ2, g25_σ2⟩)⟩

/-- a name below m stands at i -/
def nmOK (t : Nat → Int32) (n i : Nat) (m : Int32) : Prop := tkK t n i = 1 ∧ tkE t n i = tkF t n i + 1 ∧ (t (tkF t n i)).toInt - 97 < m.toInt

set_option maxHeartbeats 4000000 in
set_option maxRecDepth 100000 in
theorem s_X12_readsName_r {N : Nat} (hN : 1048576 ≤ N)  {σ0 : zS} {tx : Nat → Int32} {n i : Nat} (hR : RF σ0.2.2) (hK : TOK σ0.1) (hY : BYT (σ0.1 224)) (hG : RX σ0.1 tx n i) (hg : σ0.1 218 14 = 0) (hF : FW (σ0.1 231)) : Ok (f_X12_readsName N 218 σ0) (fun r => Tr [218] σ0 r.2 ∧ ((TOK r.2.1 ∧ (σ0.1 218 11).toInt ≤ (r.2.1 218 11).toInt ∧ (r.2.1 218 14 = 0 → (nmOK tx n i (σ0.1 231 0) ∧ r.1.toInt = (tx (tkF tx n i)).toInt - 97) ∧ RX r.2.1 tx n (tkE tx n i)) ∧ (¬ r.2.1 218 14 = 0 → ¬ nmOK tx n i (σ0.1 231 0)) ∧ 0 ≤ r.1.toInt ∧ r.1.toInt ≤ 9) ∧ (r.2.1 218 7 = σ0.1 218 7 ∧ r.2.1 218 9 = σ0.1 218 9 ∧ r.2.1 218 20 = σ0.1 218 20 ∧ r.2.1 218 22 = σ0.1 218 22 ∧ r.2.1 218 23 = σ0.1 218 23 ∧ r.2.1 218 24 = σ0.1 218 24 ∧ r.2.1 218 25 = σ0.1 218 25))) := by
  have hT : Tr [218] σ0 σ0 := Tr.rf
  have hK1 := hK.1
  have tE : σ0.1 224 = tx := hG.1.1
  have nE : (σ0.1 218 9).toInt.toNat = n := hG.1.2
  have pK : TKV (σ0.1 218 11) (σ0.1 218 10) (σ0.1 218 12) (σ0.1 218 13) tx n i := hG.2
  have h11 := pK.1.1
  have h10 := pK.1.2
  rw [f_X12_readsName.eq_1]
  refine ok_gC rfl ?_
  refine ok_zbX (Q := fun V => (V = 0 → ¬ σ0.1 218 14 = 0) ∧ (¬ V = 0 → σ0.1 218 14 = 0)) (x_X12_good) (fun v1 hqv1 => ?_)
  have hqv1 : (v1 = 0 → ¬ σ0.1 218 14 = 0) ∧ (¬ v1 = 0 → σ0.1 218 14 = 0) := hqv1
  refine ok_if (fun hc3 => ?_) (fun hc3 => ?_)
  · have qhc3 := hqv1.1 hc3
    have n4 := qhc3
    rw [J_X12_readsName_20.eq_1]
    refine ok_gC rfl ?_
    refine ok_zbX (Q := fun V => (V = 0 → ¬ σ0.1 218 14 = 0) ∧ (¬ V = 0 → σ0.1 218 14 = 0)) (x_X12_good) (fun v4 hqv4 => ?_)
    have hqv4 : (v4 = 0 → ¬ σ0.1 218 14 = 0) ∧ (¬ v4 = 0 → σ0.1 218 14 = 0) := hqv4
    refine ok_if (fun hc6 => ?_) (fun hc6 => ?_)
    · have qhc6 := hqv4.1 hc6
      have n24 := qhc6
      rw [J_X12_readsName_66.eq_1]
      refine ok_gC rfl ?_
      refine ok_zbX (Q := fun V => (V = 0 → ¬ σ0.1 218 14 = 0) ∧ (¬ V = 0 → σ0.1 218 14 = 0)) (x_X12_good) (fun v7 hqv7 => ?_)
      have hqv7 : (v7 = 0 → ¬ σ0.1 218 14 = 0) ∧ (¬ v7 = 0 → σ0.1 218 14 = 0) := hqv7
      refine ok_if (fun hc9 => ?_) (fun hc9 => ?_)
      · have qhc9 := hqv7.1 hc9
        have n70 := qhc9
        rw [J_X12_readsName_89.eq_1]
        refine ok_gC rfl ?_
        refine ok_zbX (Q := fun V => (V = 0 → ¬ σ0.1 218 14 = 0) ∧ (¬ V = 0 → σ0.1 218 14 = 0)) (x_X12_good) (fun v10 hqv10 => ?_)
        have hqv10 : (v10 = 0 → ¬ σ0.1 218 14 = 0) ∧ (¬ v10 = 0 → σ0.1 218 14 = 0) := hqv10
        refine ok_if (fun hc12 => ?_) (fun hc12 => ?_)
        · have qhc12 := hqv10.1 hc12
          have n94 := qhc12
          exact ok_some ⟨hT, (show (TOK σ0.1 ∧ (σ0.1 218 11).toInt ≤ (σ0.1 218 11).toInt ∧ (σ0.1 218 14 = 0 → (nmOK tx n i (σ0.1 231 0) ∧ (0 : Int32).toInt = (tx (tkF tx n i)).toInt - 97) ∧ RX σ0.1 tx n (tkE tx n i)) ∧ (¬ σ0.1 218 14 = 0 → ¬ nmOK tx n i (σ0.1 231 0)) ∧ 0 ≤ (0 : Int32).toInt ∧ (0 : Int32).toInt ≤ 9) ∧ (σ0.1 218 7 = σ0.1 218 7 ∧ σ0.1 218 9 = σ0.1 218 9 ∧ σ0.1 218 20 = σ0.1 218 20 ∧ σ0.1 218 22 = σ0.1 218 22 ∧ σ0.1 218 23 = σ0.1 218 23 ∧ σ0.1 218 24 = σ0.1 218 24 ∧ σ0.1 218 25 = σ0.1 218 25) from ⟨by first | exact ⟨hK, by skip; omega, fun q => absurd q (by skip; exact n94), fun _ q => m12 q.1, by first | decide | omega⟩ | exact ⟨hK, by skip; omega, fun q => absurd q (by skip; exact n94), fun _ q => l37 q.2.1, by first | decide | omega⟩ | exact ⟨hK, by skip; omega, fun q => absurd q (by skip; exact n94), fun _ q => l58 (by rw [ev48]; exact q.2.2), by first | decide | omega⟩ | exact ⟨hK, by skip; omega, fun _ => ⟨⟨⟨k12, l37, by rw [← ev48]; exact l58⟩, r81⟩, g98⟩, fun q => absurd (by skip; exact y94) q, by first | decide | omega⟩ | exact absurd y94 n70 | exact absurd y94 n63 | exact absurd y94 n24 | exact absurd y94 n17 | exact absurd y94 n4 | exact absurd y70 n94 | exact absurd hg n4 | exact absurd hg n24 | exact absurd hg n70 | exact absurd hg n94 | exact absurd y24 n94 | exact absurd y24 n70, rfl, rfl, rfl, rfl, rfl, rfl, rfl⟩)⟩
        · have qhc12 := hqv10.2 hc12
          have y94 := qhc12
          refine ok_gC rfl ?_
          refine ok_zbT (Q := fun V σ => ((TOK σ.1 ∧ (σ0.1 218 10).toInt ≤ (σ.1 218 11).toInt) ∧ RX σ.1 tx n (tkE tx n i)) ∧ (σ.1 218 7 = σ0.1 218 7 ∧ σ.1 218 9 = σ0.1 218 9 ∧ σ.1 218 14 = σ0.1 218 14 ∧ σ.1 218 15 = σ0.1 218 15 ∧ σ.1 218 20 = σ0.1 218 20 ∧ σ.1 218 22 = σ0.1 218 22 ∧ σ.1 218 23 = σ0.1 218 23 ∧ σ.1 218 24 = σ0.1 218 24 ∧ σ.1 218 25 = σ0.1 218 25)) hT (s_X12_advance_r hN (hR.tr hT) (TOK_A hK) (by rw [hT.2 224 (by decide)]; exact hY) (RX_i rfl rfl rfl rfl rfl ((hT.2 224 (by decide)).trans tE) nE pK)) (by decide) (fun v13 σ14 hOσ14 hT hqv13 => ?_)
          have hqv13 : ((TOK σ14.1 ∧ (σ0.1 218 10).toInt ≤ (σ14.1 218 11).toInt) ∧ RX σ14.1 tx n (tkE tx n i)) ∧ (σ14.1 218 7 = σ0.1 218 7 ∧ σ14.1 218 9 = σ0.1 218 9 ∧ σ14.1 218 14 = σ0.1 218 14 ∧ σ14.1 218 15 = σ0.1 218 15 ∧ σ14.1 218 20 = σ0.1 218 20 ∧ σ14.1 218 22 = σ0.1 218 22 ∧ σ14.1 218 23 = σ0.1 218 23 ∧ σ14.1 218 24 = σ0.1 218 24 ∧ σ14.1 218 25 = σ0.1 218 25) := hqv13
          have hkv13 := hqv13
          have hqv13 := hqv13.1
          have hK : TOK σ14.1 := by first | exact hqv13.1 | exact hqv13.1.1 | exact TOK_p eσ14 (by decide) hK
          have g7_σ14 : σ14.1 218 7 = (σ0.1 218 7) := hkv13.2.1
          have g9_σ14 : σ14.1 218 9 = (σ0.1 218 9) := hkv13.2.2.1
          have g14_σ14 : σ14.1 218 14 = (σ0.1 218 14) := hkv13.2.2.2.1
          have g15_σ14 : σ14.1 218 15 = (σ0.1 218 15) := hkv13.2.2.2.2.1
          have g20_σ14 : σ14.1 218 20 = (σ0.1 218 20) := hkv13.2.2.2.2.2.1
          have g22_σ14 : σ14.1 218 22 = (σ0.1 218 22) := hkv13.2.2.2.2.2.2.1
          have g23_σ14 : σ14.1 218 23 = (σ0.1 218 23) := hkv13.2.2.2.2.2.2.2.1
          have g24_σ14 : σ14.1 218 24 = (σ0.1 218 24) := hkv13.2.2.2.2.2.2.2.2.1
          have g25_σ14 : σ14.1 218 25 = (σ0.1 218 25) := hkv13.2.2.2.2.2.2.2.2.2
          have m98 := hqv13.1.2
          have g98 := hqv13.2
          exact ok_some ⟨hT, (show (TOK σ14.1 ∧ (σ0.1 218 11).toInt ≤ (σ14.1 218 11).toInt ∧ (σ14.1 218 14 = 0 → (nmOK tx n i (σ0.1 231 0) ∧ (0 : Int32).toInt = (tx (tkF tx n i)).toInt - 97) ∧ RX σ14.1 tx n (tkE tx n i)) ∧ (¬ σ14.1 218 14 = 0 → ¬ nmOK tx n i (σ0.1 231 0)) ∧ 0 ≤ (0 : Int32).toInt ∧ (0 : Int32).toInt ≤ 9) ∧ (σ14.1 218 7 = σ0.1 218 7 ∧ σ14.1 218 9 = σ0.1 218 9 ∧ σ14.1 218 20 = σ0.1 218 20 ∧ σ14.1 218 22 = σ0.1 218 22 ∧ σ14.1 218 23 = σ0.1 218 23 ∧ σ14.1 218 24 = σ0.1 218 24 ∧ σ14.1 218 25 = σ0.1 218 25) from ⟨by first | exact ⟨hK, by (try simp only [g7_σ14, g9_σ14, g14_σ14, g15_σ14, g20_σ14, g22_σ14, g23_σ14, g24_σ14, g25_σ14]); omega, fun q => absurd q (by (try simp only [g7_σ14, g9_σ14, g14_σ14, g15_σ14, g20_σ14, g22_σ14, g23_σ14, g24_σ14, g25_σ14]); exact n94), fun _ q => m12 q.1, by first | decide | omega⟩ | exact ⟨hK, by (try simp only [g7_σ14, g9_σ14, g14_σ14, g15_σ14, g20_σ14, g22_σ14, g23_σ14, g24_σ14, g25_σ14]); omega, fun q => absurd q (by (try simp only [g7_σ14, g9_σ14, g14_σ14, g15_σ14, g20_σ14, g22_σ14, g23_σ14, g24_σ14, g25_σ14]); exact n94), fun _ q => l37 q.2.1, by first | decide | omega⟩ | exact ⟨hK, by (try simp only [g7_σ14, g9_σ14, g14_σ14, g15_σ14, g20_σ14, g22_σ14, g23_σ14, g24_σ14, g25_σ14]); omega, fun q => absurd q (by (try simp only [g7_σ14, g9_σ14, g14_σ14, g15_σ14, g20_σ14, g22_σ14, g23_σ14, g24_σ14, g25_σ14]); exact n94), fun _ q => l58 (by rw [ev48]; exact q.2.2), by first | decide | omega⟩ | exact ⟨hK, by (try simp only [g7_σ14, g9_σ14, g14_σ14, g15_σ14, g20_σ14, g22_σ14, g23_σ14, g24_σ14, g25_σ14]); omega, fun _ => ⟨⟨⟨k12, l37, by rw [← ev48]; exact l58⟩, r81⟩, g98⟩, fun q => absurd (by (try simp only [g7_σ14, g9_σ14, g14_σ14, g15_σ14, g20_σ14, g22_σ14, g23_σ14, g24_σ14, g25_σ14]); exact y94) q, by first | decide | omega⟩ | exact absurd y94 n70 | exact absurd y94 n63 | exact absurd y94 n24 | exact absurd y94 n17 | exact absurd y94 n4 | exact absurd y70 n94 | exact absurd hg n4 | exact absurd hg n24 | exact absurd hg n70 | exact absurd hg n94 | exact absurd y24 n94 | exact absurd y24 n70, g7_σ14, g9_σ14, g20_σ14, g22_σ14, g23_σ14, g24_σ14, g25_σ14⟩)⟩
      · have qhc9 := hqv7.2 hc9
        have y70 := qhc9
        refine ok_gR (v := 224) hT rfl (hR 218 6 rfl) ?_
        refine ok_gI rfl ?_
        refine ok_aIn rfl (by (skip); first | omega | decide | (simp only [Int32.le_iff_toInt_le, Int32.lt_iff_toInt_lt, ti_add, ti_sub, ti_mul, Int32.reduceToInt] at *; omega)) (by first | omega | exact absurd y70 n63 | exact absurd y70 n24 | exact absurd y70 n17 | exact absurd y70 n4) (fun v17 ev17 => ?_)
        have ev81 : v17 = tx (σ0.1 218 11).toInt.toNat := by first | (rw [ev17, hT.2 224 (by decide), tE]; rfl) | exact absurd y70 n63 | exact absurd y70 n24 | exact absurd y70 n17 | exact absurd y70 n4
        have t81 : 97 ≤ v17.toInt ∧ v17.toInt ≤ 122 := by first | (rw [ev81, ← tE]; exact w12 (σ0.1 218 11).toInt.toNat (by omega) (by omega)) | exact absurd y70 n63 | exact absurd y70 n24 | exact absurd y70 n17 | exact absurd y70 n4
        have s81 : (v17 - 97).toInt = v17.toInt - 97 := by rw [ti_sub]; simp only [Int32.reduceToInt]; omega
        rw [show (σ0.1 218 11).toInt.toNat = tkF tx n i by omega] at ev81
        have b81 : (v17 - 97).toInt ≤ 9 := by first | (rw [ev81.trans ev48.symm, s48]; have h0 := hF.1.1; omega) | exact absurd y70 n63 | exact absurd y70 n24 | exact absurd y70 n17 | exact absurd y70 n4
        have r81 : (v17 - 97).toInt = (tx (tkF tx n i)).toInt - 97 := by rw [s81, ev81]
        rw [J_X12_readsName_89.eq_1]
        refine ok_gC rfl ?_
        refine ok_zbX (Q := fun V => (V = 0 → ¬ σ0.1 218 14 = 0) ∧ (¬ V = 0 → σ0.1 218 14 = 0)) (x_X12_good) (fun v18 hqv18 => ?_)
        have hqv18 : (v18 = 0 → ¬ σ0.1 218 14 = 0) ∧ (¬ v18 = 0 → σ0.1 218 14 = 0) := hqv18
        refine ok_if (fun hc20 => ?_) (fun hc20 => ?_)
        · have qhc20 := hqv18.1 hc20
          have n94 := qhc20
          exact ok_some ⟨hT, (show (TOK σ0.1 ∧ (σ0.1 218 11).toInt ≤ (σ0.1 218 11).toInt ∧ (σ0.1 218 14 = 0 → (nmOK tx n i (σ0.1 231 0) ∧ (v17 - 97).toInt = (tx (tkF tx n i)).toInt - 97) ∧ RX σ0.1 tx n (tkE tx n i)) ∧ (¬ σ0.1 218 14 = 0 → ¬ nmOK tx n i (σ0.1 231 0)) ∧ 0 ≤ (v17 - 97).toInt ∧ (v17 - 97).toInt ≤ 9) ∧ (σ0.1 218 7 = σ0.1 218 7 ∧ σ0.1 218 9 = σ0.1 218 9 ∧ σ0.1 218 20 = σ0.1 218 20 ∧ σ0.1 218 22 = σ0.1 218 22 ∧ σ0.1 218 23 = σ0.1 218 23 ∧ σ0.1 218 24 = σ0.1 218 24 ∧ σ0.1 218 25 = σ0.1 218 25) from ⟨by first | exact ⟨hK, by skip; omega, fun q => absurd q (by skip; exact n94), fun _ q => m12 q.1, by first | decide | omega⟩ | exact ⟨hK, by skip; omega, fun q => absurd q (by skip; exact n94), fun _ q => l37 q.2.1, by first | decide | omega⟩ | exact ⟨hK, by skip; omega, fun q => absurd q (by skip; exact n94), fun _ q => l58 (by rw [ev48]; exact q.2.2), by first | decide | omega⟩ | exact ⟨hK, by skip; omega, fun _ => ⟨⟨⟨k12, l37, by rw [← ev48]; exact l58⟩, r81⟩, g98⟩, fun q => absurd (by skip; exact y94) q, by first | decide | omega⟩ | exact absurd y94 n70 | exact absurd y94 n63 | exact absurd y94 n24 | exact absurd y94 n17 | exact absurd y94 n4 | exact absurd y70 n94 | exact absurd hg n4 | exact absurd hg n24 | exact absurd hg n70 | exact absurd hg n94 | exact absurd y24 n94 | exact absurd y24 n70, rfl, rfl, rfl, rfl, rfl, rfl, rfl⟩)⟩
        · have qhc20 := hqv18.2 hc20
          have y94 := qhc20
          refine ok_gC rfl ?_
          refine ok_zbT (Q := fun V σ => ((TOK σ.1 ∧ (σ0.1 218 10).toInt ≤ (σ.1 218 11).toInt) ∧ RX σ.1 tx n (tkE tx n i)) ∧ (σ.1 218 7 = σ0.1 218 7 ∧ σ.1 218 9 = σ0.1 218 9 ∧ σ.1 218 14 = σ0.1 218 14 ∧ σ.1 218 15 = σ0.1 218 15 ∧ σ.1 218 20 = σ0.1 218 20 ∧ σ.1 218 22 = σ0.1 218 22 ∧ σ.1 218 23 = σ0.1 218 23 ∧ σ.1 218 24 = σ0.1 218 24 ∧ σ.1 218 25 = σ0.1 218 25)) hT (s_X12_advance_r hN (hR.tr hT) (TOK_A hK) (by rw [hT.2 224 (by decide)]; exact hY) (RX_i rfl rfl rfl rfl rfl ((hT.2 224 (by decide)).trans tE) nE pK)) (by decide) (fun v21 σ22 hOσ22 hT hqv21 => ?_)
          have hqv21 : ((TOK σ22.1 ∧ (σ0.1 218 10).toInt ≤ (σ22.1 218 11).toInt) ∧ RX σ22.1 tx n (tkE tx n i)) ∧ (σ22.1 218 7 = σ0.1 218 7 ∧ σ22.1 218 9 = σ0.1 218 9 ∧ σ22.1 218 14 = σ0.1 218 14 ∧ σ22.1 218 15 = σ0.1 218 15 ∧ σ22.1 218 20 = σ0.1 218 20 ∧ σ22.1 218 22 = σ0.1 218 22 ∧ σ22.1 218 23 = σ0.1 218 23 ∧ σ22.1 218 24 = σ0.1 218 24 ∧ σ22.1 218 25 = σ0.1 218 25) := hqv21
          have hkv21 := hqv21
          have hqv21 := hqv21.1
          have hK : TOK σ22.1 := by first | exact hqv21.1 | exact hqv21.1.1 | exact TOK_p eσ22 (by decide) hK
          have g7_σ22 : σ22.1 218 7 = (σ0.1 218 7) := hkv21.2.1
          have g9_σ22 : σ22.1 218 9 = (σ0.1 218 9) := hkv21.2.2.1
          have g14_σ22 : σ22.1 218 14 = (σ0.1 218 14) := hkv21.2.2.2.1
          have g15_σ22 : σ22.1 218 15 = (σ0.1 218 15) := hkv21.2.2.2.2.1
          have g20_σ22 : σ22.1 218 20 = (σ0.1 218 20) := hkv21.2.2.2.2.2.1
          have g22_σ22 : σ22.1 218 22 = (σ0.1 218 22) := hkv21.2.2.2.2.2.2.1
          have g23_σ22 : σ22.1 218 23 = (σ0.1 218 23) := hkv21.2.2.2.2.2.2.2.1
          have g24_σ22 : σ22.1 218 24 = (σ0.1 218 24) := hkv21.2.2.2.2.2.2.2.2.1
          have g25_σ22 : σ22.1 218 25 = (σ0.1 218 25) := hkv21.2.2.2.2.2.2.2.2.2
          have m98 := hqv21.1.2
          have g98 := hqv21.2
          exact ok_some ⟨hT, (show (TOK σ22.1 ∧ (σ0.1 218 11).toInt ≤ (σ22.1 218 11).toInt ∧ (σ22.1 218 14 = 0 → (nmOK tx n i (σ0.1 231 0) ∧ (v17 - 97).toInt = (tx (tkF tx n i)).toInt - 97) ∧ RX σ22.1 tx n (tkE tx n i)) ∧ (¬ σ22.1 218 14 = 0 → ¬ nmOK tx n i (σ0.1 231 0)) ∧ 0 ≤ (v17 - 97).toInt ∧ (v17 - 97).toInt ≤ 9) ∧ (σ22.1 218 7 = σ0.1 218 7 ∧ σ22.1 218 9 = σ0.1 218 9 ∧ σ22.1 218 20 = σ0.1 218 20 ∧ σ22.1 218 22 = σ0.1 218 22 ∧ σ22.1 218 23 = σ0.1 218 23 ∧ σ22.1 218 24 = σ0.1 218 24 ∧ σ22.1 218 25 = σ0.1 218 25) from ⟨by first | exact ⟨hK, by (try simp only [g7_σ22, g9_σ22, g14_σ22, g15_σ22, g20_σ22, g22_σ22, g23_σ22, g24_σ22, g25_σ22]); omega, fun q => absurd q (by (try simp only [g7_σ22, g9_σ22, g14_σ22, g15_σ22, g20_σ22, g22_σ22, g23_σ22, g24_σ22, g25_σ22]); exact n94), fun _ q => m12 q.1, by first | decide | omega⟩ | exact ⟨hK, by (try simp only [g7_σ22, g9_σ22, g14_σ22, g15_σ22, g20_σ22, g22_σ22, g23_σ22, g24_σ22, g25_σ22]); omega, fun q => absurd q (by (try simp only [g7_σ22, g9_σ22, g14_σ22, g15_σ22, g20_σ22, g22_σ22, g23_σ22, g24_σ22, g25_σ22]); exact n94), fun _ q => l37 q.2.1, by first | decide | omega⟩ | exact ⟨hK, by (try simp only [g7_σ22, g9_σ22, g14_σ22, g15_σ22, g20_σ22, g22_σ22, g23_σ22, g24_σ22, g25_σ22]); omega, fun q => absurd q (by (try simp only [g7_σ22, g9_σ22, g14_σ22, g15_σ22, g20_σ22, g22_σ22, g23_σ22, g24_σ22, g25_σ22]); exact n94), fun _ q => l58 (by rw [ev48]; exact q.2.2), by first | decide | omega⟩ | exact ⟨hK, by (try simp only [g7_σ22, g9_σ22, g14_σ22, g15_σ22, g20_σ22, g22_σ22, g23_σ22, g24_σ22, g25_σ22]); omega, fun _ => ⟨⟨⟨k12, l37, by rw [← ev48]; exact l58⟩, r81⟩, g98⟩, fun q => absurd (by (try simp only [g7_σ22, g9_σ22, g14_σ22, g15_σ22, g20_σ22, g22_σ22, g23_σ22, g24_σ22, g25_σ22]); exact y94) q, by first | decide | omega⟩ | exact absurd y94 n70 | exact absurd y94 n63 | exact absurd y94 n24 | exact absurd y94 n17 | exact absurd y94 n4 | exact absurd y70 n94 | exact absurd hg n4 | exact absurd hg n24 | exact absurd hg n70 | exact absurd hg n94 | exact absurd y24 n94 | exact absurd y24 n70, g7_σ22, g9_σ22, g20_σ22, g22_σ22, g23_σ22, g24_σ22, g25_σ22⟩)⟩
    · have qhc6 := hqv4.2 hc6
      have y24 := qhc6
      have s24 : ((σ0.1 218 10) - (σ0.1 218 11)).toInt = (σ0.1 218 10).toInt - (σ0.1 218 11).toInt := by rw [ti_sub]; omega
      refine ok_gI rfl ?_
      refine ok_gI rfl ?_
      refine ok_if (fun hc25 => ?_) (fun hc25 => ?_)
      · have l37 : ¬ tkE tx n i = tkF tx n i + 1 := by first | (have q9 := hc25; rw [Int32.lt_iff_toInt_lt, s24] at q9; simp only [Int32.reduceToInt] at q9; omega) | exact absurd y24 n4 | exact absurd y24 n17
        refine ok_gC rfl ?_
        refine ok_zbT (Q := fun V σ => (TOK σ.1 ∧ ¬ σ.1 218 14 = 0) ∧ (σ.1 218 7 = σ0.1 218 7 ∧ σ.1 218 9 = σ0.1 218 9 ∧ σ.1 218 10 = σ0.1 218 10 ∧ σ.1 218 11 = σ0.1 218 11 ∧ σ.1 218 12 = σ0.1 218 12 ∧ σ.1 218 13 = σ0.1 218 13 ∧ σ.1 218 20 = σ0.1 218 20 ∧ σ.1 218 22 = σ0.1 218 22 ∧ σ.1 218 23 = σ0.1 218 23 ∧ σ.1 218 24 = σ0.1 218 24 ∧ σ.1 218 25 = σ0.1 218 25)) hT (s_X12_errs hN (hR.tr hT) (hK) (by rw [hT.2 224 (by decide)]; exact hY) (by decide)) (by decide) (fun v26 σ27 hOσ27 hT hqv26 => ?_)
        have hqv26 : (TOK σ27.1 ∧ ¬ σ27.1 218 14 = 0) ∧ (σ27.1 218 7 = σ0.1 218 7 ∧ σ27.1 218 9 = σ0.1 218 9 ∧ σ27.1 218 10 = σ0.1 218 10 ∧ σ27.1 218 11 = σ0.1 218 11 ∧ σ27.1 218 12 = σ0.1 218 12 ∧ σ27.1 218 13 = σ0.1 218 13 ∧ σ27.1 218 20 = σ0.1 218 20 ∧ σ27.1 218 22 = σ0.1 218 22 ∧ σ27.1 218 23 = σ0.1 218 23 ∧ σ27.1 218 24 = σ0.1 218 24 ∧ σ27.1 218 25 = σ0.1 218 25) := hqv26
        have hkv26 := hqv26
        have hqv26 := hqv26.1
        have hK : TOK σ27.1 := by first | exact hqv26.1 | exact hqv26.1.1 | exact TOK_p eσ27 (by decide) hK
        have g7_σ27 : σ27.1 218 7 = (σ0.1 218 7) := hkv26.2.1
        have g9_σ27 : σ27.1 218 9 = (σ0.1 218 9) := hkv26.2.2.1
        have g10_σ27 : σ27.1 218 10 = (σ0.1 218 10) := hkv26.2.2.2.1
        have g11_σ27 : σ27.1 218 11 = (σ0.1 218 11) := hkv26.2.2.2.2.1
        have g12_σ27 : σ27.1 218 12 = (σ0.1 218 12) := hkv26.2.2.2.2.2.1
        have g13_σ27 : σ27.1 218 13 = (σ0.1 218 13) := hkv26.2.2.2.2.2.2.1
        have g20_σ27 : σ27.1 218 20 = (σ0.1 218 20) := hkv26.2.2.2.2.2.2.2.1
        have g22_σ27 : σ27.1 218 22 = (σ0.1 218 22) := hkv26.2.2.2.2.2.2.2.2.1
        have g23_σ27 : σ27.1 218 23 = (σ0.1 218 23) := hkv26.2.2.2.2.2.2.2.2.2.1
        have g24_σ27 : σ27.1 218 24 = (σ0.1 218 24) := hkv26.2.2.2.2.2.2.2.2.2.2.1
        have g25_σ27 : σ27.1 218 25 = (σ0.1 218 25) := hkv26.2.2.2.2.2.2.2.2.2.2.2
        have n63 := hqv26.2
        rw [J_X12_readsName_66.eq_1]
        refine ok_gC rfl ?_
        refine ok_zbX (Q := fun V => (V = 0 → ¬ σ27.1 218 14 = 0) ∧ (¬ V = 0 → σ27.1 218 14 = 0)) (x_X12_good) (fun v28 hqv28 => ?_)
        have hqv28 : (v28 = 0 → ¬ σ27.1 218 14 = 0) ∧ (¬ v28 = 0 → σ27.1 218 14 = 0) := hqv28
        try simp only [g7_σ27, g9_σ27, g10_σ27, g11_σ27, g12_σ27, g13_σ27, g20_σ27, g22_σ27, g23_σ27, g24_σ27, g25_σ27, hT.2 224 (by decide)] at hqv28
        refine ok_if (fun hc30 => ?_) (fun hc30 => ?_)
        · have qhc30 := hqv28.1 hc30
          have n70 := qhc30
          rw [J_X12_readsName_89.eq_1]
          refine ok_gC rfl ?_
          refine ok_zbX (Q := fun V => (V = 0 → ¬ σ27.1 218 14 = 0) ∧ (¬ V = 0 → σ27.1 218 14 = 0)) (x_X12_good) (fun v31 hqv31 => ?_)
          have hqv31 : (v31 = 0 → ¬ σ27.1 218 14 = 0) ∧ (¬ v31 = 0 → σ27.1 218 14 = 0) := hqv31
          try simp only [g7_σ27, g9_σ27, g10_σ27, g11_σ27, g12_σ27, g13_σ27, g20_σ27, g22_σ27, g23_σ27, g24_σ27, g25_σ27, hT.2 224 (by decide)] at hqv31
          refine ok_if (fun hc33 => ?_) (fun hc33 => ?_)
          · have qhc33 := hqv31.1 hc33
            have n94 := qhc33
            exact ok_some ⟨hT, (show (TOK σ27.1 ∧ (σ0.1 218 11).toInt ≤ (σ27.1 218 11).toInt ∧ (σ27.1 218 14 = 0 → (nmOK tx n i (σ0.1 231 0) ∧ (0 : Int32).toInt = (tx (tkF tx n i)).toInt - 97) ∧ RX σ27.1 tx n (tkE tx n i)) ∧ (¬ σ27.1 218 14 = 0 → ¬ nmOK tx n i (σ0.1 231 0)) ∧ 0 ≤ (0 : Int32).toInt ∧ (0 : Int32).toInt ≤ 9) ∧ (σ27.1 218 7 = σ0.1 218 7 ∧ σ27.1 218 9 = σ0.1 218 9 ∧ σ27.1 218 20 = σ0.1 218 20 ∧ σ27.1 218 22 = σ0.1 218 22 ∧ σ27.1 218 23 = σ0.1 218 23 ∧ σ27.1 218 24 = σ0.1 218 24 ∧ σ27.1 218 25 = σ0.1 218 25) from ⟨by first | exact ⟨hK, by (try simp only [g7_σ27, g9_σ27, g10_σ27, g11_σ27, g12_σ27, g13_σ27, g20_σ27, g22_σ27, g23_σ27, g24_σ27, g25_σ27]); omega, fun q => absurd q (by (try simp only [g7_σ27, g9_σ27, g10_σ27, g11_σ27, g12_σ27, g13_σ27, g20_σ27, g22_σ27, g23_σ27, g24_σ27, g25_σ27]); exact n94), fun _ q => m12 q.1, by first | decide | omega⟩ | exact ⟨hK, by (try simp only [g7_σ27, g9_σ27, g10_σ27, g11_σ27, g12_σ27, g13_σ27, g20_σ27, g22_σ27, g23_σ27, g24_σ27, g25_σ27]); omega, fun q => absurd q (by (try simp only [g7_σ27, g9_σ27, g10_σ27, g11_σ27, g12_σ27, g13_σ27, g20_σ27, g22_σ27, g23_σ27, g24_σ27, g25_σ27]); exact n94), fun _ q => l37 q.2.1, by first | decide | omega⟩ | exact ⟨hK, by (try simp only [g7_σ27, g9_σ27, g10_σ27, g11_σ27, g12_σ27, g13_σ27, g20_σ27, g22_σ27, g23_σ27, g24_σ27, g25_σ27]); omega, fun q => absurd q (by (try simp only [g7_σ27, g9_σ27, g10_σ27, g11_σ27, g12_σ27, g13_σ27, g20_σ27, g22_σ27, g23_σ27, g24_σ27, g25_σ27]); exact n94), fun _ q => l58 (by rw [ev48]; exact q.2.2), by first | decide | omega⟩ | exact ⟨hK, by (try simp only [g7_σ27, g9_σ27, g10_σ27, g11_σ27, g12_σ27, g13_σ27, g20_σ27, g22_σ27, g23_σ27, g24_σ27, g25_σ27]); omega, fun _ => ⟨⟨⟨k12, l37, by rw [← ev48]; exact l58⟩, r81⟩, g98⟩, fun q => absurd (by (try simp only [g7_σ27, g9_σ27, g10_σ27, g11_σ27, g12_σ27, g13_σ27, g20_σ27, g22_σ27, g23_σ27, g24_σ27, g25_σ27]); exact y94) q, by first | decide | omega⟩ | exact absurd y94 n70 | exact absurd y94 n63 | exact absurd y94 n24 | exact absurd y94 n17 | exact absurd y94 n4 | exact absurd y70 n94 | exact absurd hg n4 | exact absurd hg n24 | exact absurd hg n70 | exact absurd hg n94 | exact absurd y24 n94 | exact absurd y24 n70, g7_σ27, g9_σ27, g20_σ27, g22_σ27, g23_σ27, g24_σ27, g25_σ27⟩)⟩
          · have qhc33 := hqv31.2 hc33
            have y94 := qhc33
            refine ok_gC rfl ?_
            refine ok_zbT (Q := fun V σ => ((TOK σ.1 ∧ (σ27.1 218 10).toInt ≤ (σ.1 218 11).toInt) ∧ RX σ.1 tx n (tkE tx n i)) ∧ (σ.1 218 7 = σ27.1 218 7 ∧ σ.1 218 9 = σ27.1 218 9 ∧ σ.1 218 14 = σ27.1 218 14 ∧ σ.1 218 15 = σ27.1 218 15 ∧ σ.1 218 20 = σ27.1 218 20 ∧ σ.1 218 22 = σ27.1 218 22 ∧ σ.1 218 23 = σ27.1 218 23 ∧ σ.1 218 24 = σ27.1 218 24 ∧ σ.1 218 25 = σ27.1 218 25)) hT (s_X12_advance_r hN (hR.tr hT) (TOK_A hK) (by rw [hT.2 224 (by decide)]; exact hY) (RX_i g9_σ27 g10_σ27 g11_σ27 g12_σ27 g13_σ27 ((hT.2 224 (by decide)).trans tE) nE pK)) (by decide) (fun v34 σ35 hOσ35 hT hqv34 => ?_)
            have hqv34 : ((TOK σ35.1 ∧ (σ27.1 218 10).toInt ≤ (σ35.1 218 11).toInt) ∧ RX σ35.1 tx n (tkE tx n i)) ∧ (σ35.1 218 7 = σ27.1 218 7 ∧ σ35.1 218 9 = σ27.1 218 9 ∧ σ35.1 218 14 = σ27.1 218 14 ∧ σ35.1 218 15 = σ27.1 218 15 ∧ σ35.1 218 20 = σ27.1 218 20 ∧ σ35.1 218 22 = σ27.1 218 22 ∧ σ35.1 218 23 = σ27.1 218 23 ∧ σ35.1 218 24 = σ27.1 218 24 ∧ σ35.1 218 25 = σ27.1 218 25) := hqv34
            have hkv34 := hqv34
            have hqv34 := hqv34.1
            have hK : TOK σ35.1 := by first | exact hqv34.1 | exact hqv34.1.1 | exact TOK_p eσ35 (by decide) hK
            try simp only [g7_σ27, g9_σ27, g10_σ27, g11_σ27, g12_σ27, g13_σ27, g20_σ27, g22_σ27, g23_σ27, g24_σ27, g25_σ27] at hqv34
            have g7_σ35 : σ35.1 218 7 = (σ0.1 218 7) := (hkv34.2.1).trans g7_σ27
            have g9_σ35 : σ35.1 218 9 = (σ0.1 218 9) := (hkv34.2.2.1).trans g9_σ27
            have g14_σ35 : σ35.1 218 14 = (σ27.1 218 14) := hkv34.2.2.2.1
            have g15_σ35 : σ35.1 218 15 = (σ27.1 218 15) := hkv34.2.2.2.2.1
            have g20_σ35 : σ35.1 218 20 = (σ0.1 218 20) := (hkv34.2.2.2.2.2.1).trans g20_σ27
            have g22_σ35 : σ35.1 218 22 = (σ0.1 218 22) := (hkv34.2.2.2.2.2.2.1).trans g22_σ27
            have g23_σ35 : σ35.1 218 23 = (σ0.1 218 23) := (hkv34.2.2.2.2.2.2.2.1).trans g23_σ27
            have g24_σ35 : σ35.1 218 24 = (σ0.1 218 24) := (hkv34.2.2.2.2.2.2.2.2.1).trans g24_σ27
            have g25_σ35 : σ35.1 218 25 = (σ0.1 218 25) := (hkv34.2.2.2.2.2.2.2.2.2).trans g25_σ27
            have m98 := hqv34.1.2
            have g98 := hqv34.2
            exact ok_some ⟨hT, (show (TOK σ35.1 ∧ (σ0.1 218 11).toInt ≤ (σ35.1 218 11).toInt ∧ (σ35.1 218 14 = 0 → (nmOK tx n i (σ0.1 231 0) ∧ (0 : Int32).toInt = (tx (tkF tx n i)).toInt - 97) ∧ RX σ35.1 tx n (tkE tx n i)) ∧ (¬ σ35.1 218 14 = 0 → ¬ nmOK tx n i (σ0.1 231 0)) ∧ 0 ≤ (0 : Int32).toInt ∧ (0 : Int32).toInt ≤ 9) ∧ (σ35.1 218 7 = σ0.1 218 7 ∧ σ35.1 218 9 = σ0.1 218 9 ∧ σ35.1 218 20 = σ0.1 218 20 ∧ σ35.1 218 22 = σ0.1 218 22 ∧ σ35.1 218 23 = σ0.1 218 23 ∧ σ35.1 218 24 = σ0.1 218 24 ∧ σ35.1 218 25 = σ0.1 218 25) from ⟨by first | exact ⟨hK, by (try simp only [g7_σ35, g9_σ35, g14_σ35, g15_σ35, g20_σ35, g22_σ35, g23_σ35, g24_σ35, g25_σ35]); omega, fun q => absurd q (by (try simp only [g7_σ35, g9_σ35, g14_σ35, g15_σ35, g20_σ35, g22_σ35, g23_σ35, g24_σ35, g25_σ35]); exact n94), fun _ q => m12 q.1, by first | decide | omega⟩ | exact ⟨hK, by (try simp only [g7_σ35, g9_σ35, g14_σ35, g15_σ35, g20_σ35, g22_σ35, g23_σ35, g24_σ35, g25_σ35]); omega, fun q => absurd q (by (try simp only [g7_σ35, g9_σ35, g14_σ35, g15_σ35, g20_σ35, g22_σ35, g23_σ35, g24_σ35, g25_σ35]); exact n94), fun _ q => l37 q.2.1, by first | decide | omega⟩ | exact ⟨hK, by (try simp only [g7_σ35, g9_σ35, g14_σ35, g15_σ35, g20_σ35, g22_σ35, g23_σ35, g24_σ35, g25_σ35]); omega, fun q => absurd q (by (try simp only [g7_σ35, g9_σ35, g14_σ35, g15_σ35, g20_σ35, g22_σ35, g23_σ35, g24_σ35, g25_σ35]); exact n94), fun _ q => l58 (by rw [ev48]; exact q.2.2), by first | decide | omega⟩ | exact ⟨hK, by (try simp only [g7_σ35, g9_σ35, g14_σ35, g15_σ35, g20_σ35, g22_σ35, g23_σ35, g24_σ35, g25_σ35]); omega, fun _ => ⟨⟨⟨k12, l37, by rw [← ev48]; exact l58⟩, r81⟩, g98⟩, fun q => absurd (by (try simp only [g7_σ35, g9_σ35, g14_σ35, g15_σ35, g20_σ35, g22_σ35, g23_σ35, g24_σ35, g25_σ35]); exact y94) q, by first | decide | omega⟩ | exact absurd y94 n70 | exact absurd y94 n63 | exact absurd y94 n24 | exact absurd y94 n17 | exact absurd y94 n4 | exact absurd y70 n94 | exact absurd hg n4 | exact absurd hg n24 | exact absurd hg n70 | exact absurd hg n94 | exact absurd y24 n94 | exact absurd y24 n70, g7_σ35, g9_σ35, g20_σ35, g22_σ35, g23_σ35, g24_σ35, g25_σ35⟩)⟩
        · have qhc30 := hqv28.2 hc30
          have y70 := qhc30
          refine ok_gR (v := 224) hT rfl (hR 218 6 rfl) ?_
          refine ok_gIv rfl g11_σ27 ?_
          refine ok_aIn rfl (by ((try simp only [g7_σ27, g9_σ27, g10_σ27, g11_σ27, g12_σ27, g13_σ27, g20_σ27, g22_σ27, g23_σ27, g24_σ27, g25_σ27])); first | omega | decide | (simp only [Int32.le_iff_toInt_le, Int32.lt_iff_toInt_lt, ti_add, ti_sub, ti_mul, Int32.reduceToInt] at *; omega)) (by first | omega | exact absurd y70 n63 | exact absurd y70 n24 | exact absurd y70 n17 | exact absurd y70 n4) (fun v38 ev38 => ?_)
          have ev81 : v38 = tx (σ0.1 218 11).toInt.toNat := by first | (rw [ev38, hT.2 224 (by decide), tE]; rfl) | exact absurd y70 n63 | exact absurd y70 n24 | exact absurd y70 n17 | exact absurd y70 n4
          have t81 : 97 ≤ v38.toInt ∧ v38.toInt ≤ 122 := by first | (rw [ev81, ← tE]; exact w12 (σ0.1 218 11).toInt.toNat (by omega) (by omega)) | exact absurd y70 n63 | exact absurd y70 n24 | exact absurd y70 n17 | exact absurd y70 n4
          have s81 : (v38 - 97).toInt = v38.toInt - 97 := by rw [ti_sub]; simp only [Int32.reduceToInt]; omega
          rw [show (σ0.1 218 11).toInt.toNat = tkF tx n i by omega] at ev81
          have b81 : (v38 - 97).toInt ≤ 9 := by first | (rw [ev81.trans ev48.symm, s48]; have h0 := hF.1.1; omega) | exact absurd y70 n63 | exact absurd y70 n24 | exact absurd y70 n17 | exact absurd y70 n4
          have r81 : (v38 - 97).toInt = (tx (tkF tx n i)).toInt - 97 := by rw [s81, ev81]
          rw [J_X12_readsName_89.eq_1]
          refine ok_gC rfl ?_
          refine ok_zbX (Q := fun V => (V = 0 → ¬ σ27.1 218 14 = 0) ∧ (¬ V = 0 → σ27.1 218 14 = 0)) (x_X12_good) (fun v39 hqv39 => ?_)
          have hqv39 : (v39 = 0 → ¬ σ27.1 218 14 = 0) ∧ (¬ v39 = 0 → σ27.1 218 14 = 0) := hqv39
          try simp only [g7_σ27, g9_σ27, g10_σ27, g11_σ27, g12_σ27, g13_σ27, g20_σ27, g22_σ27, g23_σ27, g24_σ27, g25_σ27, hT.2 224 (by decide)] at hqv39
          refine ok_if (fun hc41 => ?_) (fun hc41 => ?_)
          · have qhc41 := hqv39.1 hc41
            have n94 := qhc41
            exact ok_some ⟨hT, (show (TOK σ27.1 ∧ (σ0.1 218 11).toInt ≤ (σ27.1 218 11).toInt ∧ (σ27.1 218 14 = 0 → (nmOK tx n i (σ0.1 231 0) ∧ (v38 - 97).toInt = (tx (tkF tx n i)).toInt - 97) ∧ RX σ27.1 tx n (tkE tx n i)) ∧ (¬ σ27.1 218 14 = 0 → ¬ nmOK tx n i (σ0.1 231 0)) ∧ 0 ≤ (v38 - 97).toInt ∧ (v38 - 97).toInt ≤ 9) ∧ (σ27.1 218 7 = σ0.1 218 7 ∧ σ27.1 218 9 = σ0.1 218 9 ∧ σ27.1 218 20 = σ0.1 218 20 ∧ σ27.1 218 22 = σ0.1 218 22 ∧ σ27.1 218 23 = σ0.1 218 23 ∧ σ27.1 218 24 = σ0.1 218 24 ∧ σ27.1 218 25 = σ0.1 218 25) from ⟨by first | exact ⟨hK, by (try simp only [g7_σ27, g9_σ27, g10_σ27, g11_σ27, g12_σ27, g13_σ27, g20_σ27, g22_σ27, g23_σ27, g24_σ27, g25_σ27]); omega, fun q => absurd q (by (try simp only [g7_σ27, g9_σ27, g10_σ27, g11_σ27, g12_σ27, g13_σ27, g20_σ27, g22_σ27, g23_σ27, g24_σ27, g25_σ27]); exact n94), fun _ q => m12 q.1, by first | decide | omega⟩ | exact ⟨hK, by (try simp only [g7_σ27, g9_σ27, g10_σ27, g11_σ27, g12_σ27, g13_σ27, g20_σ27, g22_σ27, g23_σ27, g24_σ27, g25_σ27]); omega, fun q => absurd q (by (try simp only [g7_σ27, g9_σ27, g10_σ27, g11_σ27, g12_σ27, g13_σ27, g20_σ27, g22_σ27, g23_σ27, g24_σ27, g25_σ27]); exact n94), fun _ q => l37 q.2.1, by first | decide | omega⟩ | exact ⟨hK, by (try simp only [g7_σ27, g9_σ27, g10_σ27, g11_σ27, g12_σ27, g13_σ27, g20_σ27, g22_σ27, g23_σ27, g24_σ27, g25_σ27]); omega, fun q => absurd q (by (try simp only [g7_σ27, g9_σ27, g10_σ27, g11_σ27, g12_σ27, g13_σ27, g20_σ27, g22_σ27, g23_σ27, g24_σ27, g25_σ27]); exact n94), fun _ q => l58 (by rw [ev48]; exact q.2.2), by first | decide | omega⟩ | exact ⟨hK, by (try simp only [g7_σ27, g9_σ27, g10_σ27, g11_σ27, g12_σ27, g13_σ27, g20_σ27, g22_σ27, g23_σ27, g24_σ27, g25_σ27]); omega, fun _ => ⟨⟨⟨k12, l37, by rw [← ev48]; exact l58⟩, r81⟩, g98⟩, fun q => absurd (by (try simp only [g7_σ27, g9_σ27, g10_σ27, g11_σ27, g12_σ27, g13_σ27, g20_σ27, g22_σ27, g23_σ27, g24_σ27, g25_σ27]); exact y94) q, by first | decide | omega⟩ | exact absurd y94 n70 | exact absurd y94 n63 | exact absurd y94 n24 | exact absurd y94 n17 | exact absurd y94 n4 | exact absurd y70 n94 | exact absurd hg n4 | exact absurd hg n24 | exact absurd hg n70 | exact absurd hg n94 | exact absurd y24 n94 | exact absurd y24 n70, g7_σ27, g9_σ27, g20_σ27, g22_σ27, g23_σ27, g24_σ27, g25_σ27⟩)⟩
          · have qhc41 := hqv39.2 hc41
            have y94 := qhc41
            refine ok_gC rfl ?_
            refine ok_zbT (Q := fun V σ => ((TOK σ.1 ∧ (σ27.1 218 10).toInt ≤ (σ.1 218 11).toInt) ∧ RX σ.1 tx n (tkE tx n i)) ∧ (σ.1 218 7 = σ27.1 218 7 ∧ σ.1 218 9 = σ27.1 218 9 ∧ σ.1 218 14 = σ27.1 218 14 ∧ σ.1 218 15 = σ27.1 218 15 ∧ σ.1 218 20 = σ27.1 218 20 ∧ σ.1 218 22 = σ27.1 218 22 ∧ σ.1 218 23 = σ27.1 218 23 ∧ σ.1 218 24 = σ27.1 218 24 ∧ σ.1 218 25 = σ27.1 218 25)) hT (s_X12_advance_r hN (hR.tr hT) (TOK_A hK) (by rw [hT.2 224 (by decide)]; exact hY) (RX_i g9_σ27 g10_σ27 g11_σ27 g12_σ27 g13_σ27 ((hT.2 224 (by decide)).trans tE) nE pK)) (by decide) (fun v42 σ43 hOσ43 hT hqv42 => ?_)
            have hqv42 : ((TOK σ43.1 ∧ (σ27.1 218 10).toInt ≤ (σ43.1 218 11).toInt) ∧ RX σ43.1 tx n (tkE tx n i)) ∧ (σ43.1 218 7 = σ27.1 218 7 ∧ σ43.1 218 9 = σ27.1 218 9 ∧ σ43.1 218 14 = σ27.1 218 14 ∧ σ43.1 218 15 = σ27.1 218 15 ∧ σ43.1 218 20 = σ27.1 218 20 ∧ σ43.1 218 22 = σ27.1 218 22 ∧ σ43.1 218 23 = σ27.1 218 23 ∧ σ43.1 218 24 = σ27.1 218 24 ∧ σ43.1 218 25 = σ27.1 218 25) := hqv42
            have hkv42 := hqv42
            have hqv42 := hqv42.1
            have hK : TOK σ43.1 := by first | exact hqv42.1 | exact hqv42.1.1 | exact TOK_p eσ43 (by decide) hK
            try simp only [g7_σ27, g9_σ27, g10_σ27, g11_σ27, g12_σ27, g13_σ27, g20_σ27, g22_σ27, g23_σ27, g24_σ27, g25_σ27] at hqv42
            have g7_σ43 : σ43.1 218 7 = (σ0.1 218 7) := (hkv42.2.1).trans g7_σ27
            have g9_σ43 : σ43.1 218 9 = (σ0.1 218 9) := (hkv42.2.2.1).trans g9_σ27
            have g14_σ43 : σ43.1 218 14 = (σ27.1 218 14) := hkv42.2.2.2.1
            have g15_σ43 : σ43.1 218 15 = (σ27.1 218 15) := hkv42.2.2.2.2.1
            have g20_σ43 : σ43.1 218 20 = (σ0.1 218 20) := (hkv42.2.2.2.2.2.1).trans g20_σ27
            have g22_σ43 : σ43.1 218 22 = (σ0.1 218 22) := (hkv42.2.2.2.2.2.2.1).trans g22_σ27
            have g23_σ43 : σ43.1 218 23 = (σ0.1 218 23) := (hkv42.2.2.2.2.2.2.2.1).trans g23_σ27
            have g24_σ43 : σ43.1 218 24 = (σ0.1 218 24) := (hkv42.2.2.2.2.2.2.2.2.1).trans g24_σ27
            have g25_σ43 : σ43.1 218 25 = (σ0.1 218 25) := (hkv42.2.2.2.2.2.2.2.2.2).trans g25_σ27
            have m98 := hqv42.1.2
            have g98 := hqv42.2
            exact ok_some ⟨hT, (show (TOK σ43.1 ∧ (σ0.1 218 11).toInt ≤ (σ43.1 218 11).toInt ∧ (σ43.1 218 14 = 0 → (nmOK tx n i (σ0.1 231 0) ∧ (v38 - 97).toInt = (tx (tkF tx n i)).toInt - 97) ∧ RX σ43.1 tx n (tkE tx n i)) ∧ (¬ σ43.1 218 14 = 0 → ¬ nmOK tx n i (σ0.1 231 0)) ∧ 0 ≤ (v38 - 97).toInt ∧ (v38 - 97).toInt ≤ 9) ∧ (σ43.1 218 7 = σ0.1 218 7 ∧ σ43.1 218 9 = σ0.1 218 9 ∧ σ43.1 218 20 = σ0.1 218 20 ∧ σ43.1 218 22 = σ0.1 218 22 ∧ σ43.1 218 23 = σ0.1 218 23 ∧ σ43.1 218 24 = σ0.1 218 24 ∧ σ43.1 218 25 = σ0.1 218 25) from ⟨by first | exact ⟨hK, by (try simp only [g7_σ43, g9_σ43, g14_σ43, g15_σ43, g20_σ43, g22_σ43, g23_σ43, g24_σ43, g25_σ43]); omega, fun q => absurd q (by (try simp only [g7_σ43, g9_σ43, g14_σ43, g15_σ43, g20_σ43, g22_σ43, g23_σ43, g24_σ43, g25_σ43]); exact n94), fun _ q => m12 q.1, by first | decide | omega⟩ | exact ⟨hK, by (try simp only [g7_σ43, g9_σ43, g14_σ43, g15_σ43, g20_σ43, g22_σ43, g23_σ43, g24_σ43, g25_σ43]); omega, fun q => absurd q (by (try simp only [g7_σ43, g9_σ43, g14_σ43, g15_σ43, g20_σ43, g22_σ43, g23_σ43, g24_σ43, g25_σ43]); exact n94), fun _ q => l37 q.2.1, by first | decide | omega⟩ | exact ⟨hK, by (try simp only [g7_σ43, g9_σ43, g14_σ43, g15_σ43, g20_σ43, g22_σ43, g23_σ43, g24_σ43, g25_σ43]); omega, fun q => absurd q (by (try simp only [g7_σ43, g9_σ43, g14_σ43, g15_σ43, g20_σ43, g22_σ43, g23_σ43, g24_σ43, g25_σ43]); exact n94), fun _ q => l58 (by rw [ev48]; exact q.2.2), by first | decide | omega⟩ | exact ⟨hK, by (try simp only [g7_σ43, g9_σ43, g14_σ43, g15_σ43, g20_σ43, g22_σ43, g23_σ43, g24_σ43, g25_σ43]); omega, fun _ => ⟨⟨⟨k12, l37, by rw [← ev48]; exact l58⟩, r81⟩, g98⟩, fun q => absurd (by (try simp only [g7_σ43, g9_σ43, g14_σ43, g15_σ43, g20_σ43, g22_σ43, g23_σ43, g24_σ43, g25_σ43]); exact y94) q, by first | decide | omega⟩ | exact absurd y94 n70 | exact absurd y94 n63 | exact absurd y94 n24 | exact absurd y94 n17 | exact absurd y94 n4 | exact absurd y70 n94 | exact absurd hg n4 | exact absurd hg n24 | exact absurd hg n70 | exact absurd hg n94 | exact absurd y24 n94 | exact absurd y24 n70, g7_σ43, g9_σ43, g20_σ43, g22_σ43, g23_σ43, g24_σ43, g25_σ43⟩)⟩
      · have l37 : tkE tx n i = tkF tx n i + 1 := by first | (have q9 := hc25; rw [Int32.lt_iff_toInt_lt, s24] at q9; simp only [Int32.reduceToInt] at q9; omega) | exact absurd y24 n4 | exact absurd y24 n17
        refine ok_gR (v := 224) hT rfl (hR 218 6 rfl) ?_
        refine ok_gI rfl ?_
        refine ok_aIn rfl (by (skip); first | omega | decide | (simp only [Int32.le_iff_toInt_le, Int32.lt_iff_toInt_lt, ti_add, ti_sub, ti_mul, Int32.reduceToInt] at *; omega)) (by first | omega | exact absurd y24 n4 | exact absurd y24 n17) (fun v46 ev46 => ?_)
        have ev48 : v46 = tx (σ0.1 218 11).toInt.toNat := by first | (rw [ev46, hT.2 224 (by decide), tE]; rfl) | exact absurd y24 n4 | exact absurd y24 n17
        have t48 : 97 ≤ v46.toInt ∧ v46.toInt ≤ 122 := by first | (rw [ev48, ← tE]; exact w12 (σ0.1 218 11).toInt.toNat (by omega) (by omega)) | exact absurd y24 n4 | exact absurd y24 n17
        have s48 : (v46 - 97).toInt = v46.toInt - 97 := by rw [ti_sub]; simp only [Int32.reduceToInt]; omega
        rw [show (σ0.1 218 11).toInt.toNat = tkF tx n i by omega] at ev48
        refine ok_gR (v := 231) hT rfl (hR 218 26 rfl) ?_
        refine ok_aIc (j := 0) hT rfl (by decide) rfl (by decide) (by decide) ?_
        refine ok_if (fun hc49 => ?_) (fun hc49 => ?_)
        · have l58 := hc49
          rw [Int32.lt_iff_toInt_lt, s48] at l58
          rw [J_X12_readsName_66.eq_1]
          refine ok_gC rfl ?_
          refine ok_zbX (Q := fun V => (V = 0 → ¬ σ0.1 218 14 = 0) ∧ (¬ V = 0 → σ0.1 218 14 = 0)) (x_X12_good) (fun v50 hqv50 => ?_)
          have hqv50 : (v50 = 0 → ¬ σ0.1 218 14 = 0) ∧ (¬ v50 = 0 → σ0.1 218 14 = 0) := hqv50
          refine ok_if (fun hc52 => ?_) (fun hc52 => ?_)
          · have qhc52 := hqv50.1 hc52
            have n70 := qhc52
            rw [J_X12_readsName_89.eq_1]
            refine ok_gC rfl ?_
            refine ok_zbX (Q := fun V => (V = 0 → ¬ σ0.1 218 14 = 0) ∧ (¬ V = 0 → σ0.1 218 14 = 0)) (x_X12_good) (fun v53 hqv53 => ?_)
            have hqv53 : (v53 = 0 → ¬ σ0.1 218 14 = 0) ∧ (¬ v53 = 0 → σ0.1 218 14 = 0) := hqv53
            refine ok_if (fun hc55 => ?_) (fun hc55 => ?_)
            · have qhc55 := hqv53.1 hc55
              have n94 := qhc55
              exact ok_some ⟨hT, (show (TOK σ0.1 ∧ (σ0.1 218 11).toInt ≤ (σ0.1 218 11).toInt ∧ (σ0.1 218 14 = 0 → (nmOK tx n i (σ0.1 231 0) ∧ (0 : Int32).toInt = (tx (tkF tx n i)).toInt - 97) ∧ RX σ0.1 tx n (tkE tx n i)) ∧ (¬ σ0.1 218 14 = 0 → ¬ nmOK tx n i (σ0.1 231 0)) ∧ 0 ≤ (0 : Int32).toInt ∧ (0 : Int32).toInt ≤ 9) ∧ (σ0.1 218 7 = σ0.1 218 7 ∧ σ0.1 218 9 = σ0.1 218 9 ∧ σ0.1 218 20 = σ0.1 218 20 ∧ σ0.1 218 22 = σ0.1 218 22 ∧ σ0.1 218 23 = σ0.1 218 23 ∧ σ0.1 218 24 = σ0.1 218 24 ∧ σ0.1 218 25 = σ0.1 218 25) from ⟨by first | exact ⟨hK, by skip; omega, fun q => absurd q (by skip; exact n94), fun _ q => m12 q.1, by first | decide | omega⟩ | exact ⟨hK, by skip; omega, fun q => absurd q (by skip; exact n94), fun _ q => l37 q.2.1, by first | decide | omega⟩ | exact ⟨hK, by skip; omega, fun q => absurd q (by skip; exact n94), fun _ q => l58 (by rw [ev48]; exact q.2.2), by first | decide | omega⟩ | exact ⟨hK, by skip; omega, fun _ => ⟨⟨⟨k12, l37, by rw [← ev48]; exact l58⟩, r81⟩, g98⟩, fun q => absurd (by skip; exact y94) q, by first | decide | omega⟩ | exact absurd y94 n70 | exact absurd y94 n63 | exact absurd y94 n24 | exact absurd y94 n17 | exact absurd y94 n4 | exact absurd y70 n94 | exact absurd hg n4 | exact absurd hg n24 | exact absurd hg n70 | exact absurd hg n94 | exact absurd y24 n94 | exact absurd y24 n70, rfl, rfl, rfl, rfl, rfl, rfl, rfl⟩)⟩
            · have qhc55 := hqv53.2 hc55
              have y94 := qhc55
              refine ok_gC rfl ?_
              refine ok_zbT (Q := fun V σ => ((TOK σ.1 ∧ (σ0.1 218 10).toInt ≤ (σ.1 218 11).toInt) ∧ RX σ.1 tx n (tkE tx n i)) ∧ (σ.1 218 7 = σ0.1 218 7 ∧ σ.1 218 9 = σ0.1 218 9 ∧ σ.1 218 14 = σ0.1 218 14 ∧ σ.1 218 15 = σ0.1 218 15 ∧ σ.1 218 20 = σ0.1 218 20 ∧ σ.1 218 22 = σ0.1 218 22 ∧ σ.1 218 23 = σ0.1 218 23 ∧ σ.1 218 24 = σ0.1 218 24 ∧ σ.1 218 25 = σ0.1 218 25)) hT (s_X12_advance_r hN (hR.tr hT) (TOK_A hK) (by rw [hT.2 224 (by decide)]; exact hY) (RX_i rfl rfl rfl rfl rfl ((hT.2 224 (by decide)).trans tE) nE pK)) (by decide) (fun v56 σ57 hOσ57 hT hqv56 => ?_)
              have hqv56 : ((TOK σ57.1 ∧ (σ0.1 218 10).toInt ≤ (σ57.1 218 11).toInt) ∧ RX σ57.1 tx n (tkE tx n i)) ∧ (σ57.1 218 7 = σ0.1 218 7 ∧ σ57.1 218 9 = σ0.1 218 9 ∧ σ57.1 218 14 = σ0.1 218 14 ∧ σ57.1 218 15 = σ0.1 218 15 ∧ σ57.1 218 20 = σ0.1 218 20 ∧ σ57.1 218 22 = σ0.1 218 22 ∧ σ57.1 218 23 = σ0.1 218 23 ∧ σ57.1 218 24 = σ0.1 218 24 ∧ σ57.1 218 25 = σ0.1 218 25) := hqv56
              have hkv56 := hqv56
              have hqv56 := hqv56.1
              have hK : TOK σ57.1 := by first | exact hqv56.1 | exact hqv56.1.1 | exact TOK_p eσ57 (by decide) hK
              have g7_σ57 : σ57.1 218 7 = (σ0.1 218 7) := hkv56.2.1
              have g9_σ57 : σ57.1 218 9 = (σ0.1 218 9) := hkv56.2.2.1
              have g14_σ57 : σ57.1 218 14 = (σ0.1 218 14) := hkv56.2.2.2.1
              have g15_σ57 : σ57.1 218 15 = (σ0.1 218 15) := hkv56.2.2.2.2.1
              have g20_σ57 : σ57.1 218 20 = (σ0.1 218 20) := hkv56.2.2.2.2.2.1
              have g22_σ57 : σ57.1 218 22 = (σ0.1 218 22) := hkv56.2.2.2.2.2.2.1
              have g23_σ57 : σ57.1 218 23 = (σ0.1 218 23) := hkv56.2.2.2.2.2.2.2.1
              have g24_σ57 : σ57.1 218 24 = (σ0.1 218 24) := hkv56.2.2.2.2.2.2.2.2.1
              have g25_σ57 : σ57.1 218 25 = (σ0.1 218 25) := hkv56.2.2.2.2.2.2.2.2.2
              have m98 := hqv56.1.2
              have g98 := hqv56.2
              exact ok_some ⟨hT, (show (TOK σ57.1 ∧ (σ0.1 218 11).toInt ≤ (σ57.1 218 11).toInt ∧ (σ57.1 218 14 = 0 → (nmOK tx n i (σ0.1 231 0) ∧ (0 : Int32).toInt = (tx (tkF tx n i)).toInt - 97) ∧ RX σ57.1 tx n (tkE tx n i)) ∧ (¬ σ57.1 218 14 = 0 → ¬ nmOK tx n i (σ0.1 231 0)) ∧ 0 ≤ (0 : Int32).toInt ∧ (0 : Int32).toInt ≤ 9) ∧ (σ57.1 218 7 = σ0.1 218 7 ∧ σ57.1 218 9 = σ0.1 218 9 ∧ σ57.1 218 20 = σ0.1 218 20 ∧ σ57.1 218 22 = σ0.1 218 22 ∧ σ57.1 218 23 = σ0.1 218 23 ∧ σ57.1 218 24 = σ0.1 218 24 ∧ σ57.1 218 25 = σ0.1 218 25) from ⟨by first | exact ⟨hK, by (try simp only [g7_σ57, g9_σ57, g14_σ57, g15_σ57, g20_σ57, g22_σ57, g23_σ57, g24_σ57, g25_σ57]); omega, fun q => absurd q (by (try simp only [g7_σ57, g9_σ57, g14_σ57, g15_σ57, g20_σ57, g22_σ57, g23_σ57, g24_σ57, g25_σ57]); exact n94), fun _ q => m12 q.1, by first | decide | omega⟩ | exact ⟨hK, by (try simp only [g7_σ57, g9_σ57, g14_σ57, g15_σ57, g20_σ57, g22_σ57, g23_σ57, g24_σ57, g25_σ57]); omega, fun q => absurd q (by (try simp only [g7_σ57, g9_σ57, g14_σ57, g15_σ57, g20_σ57, g22_σ57, g23_σ57, g24_σ57, g25_σ57]); exact n94), fun _ q => l37 q.2.1, by first | decide | omega⟩ | exact ⟨hK, by (try simp only [g7_σ57, g9_σ57, g14_σ57, g15_σ57, g20_σ57, g22_σ57, g23_σ57, g24_σ57, g25_σ57]); omega, fun q => absurd q (by (try simp only [g7_σ57, g9_σ57, g14_σ57, g15_σ57, g20_σ57, g22_σ57, g23_σ57, g24_σ57, g25_σ57]); exact n94), fun _ q => l58 (by rw [ev48]; exact q.2.2), by first | decide | omega⟩ | exact ⟨hK, by (try simp only [g7_σ57, g9_σ57, g14_σ57, g15_σ57, g20_σ57, g22_σ57, g23_σ57, g24_σ57, g25_σ57]); omega, fun _ => ⟨⟨⟨k12, l37, by rw [← ev48]; exact l58⟩, r81⟩, g98⟩, fun q => absurd (by (try simp only [g7_σ57, g9_σ57, g14_σ57, g15_σ57, g20_σ57, g22_σ57, g23_σ57, g24_σ57, g25_σ57]); exact y94) q, by first | decide | omega⟩ | exact absurd y94 n70 | exact absurd y94 n63 | exact absurd y94 n24 | exact absurd y94 n17 | exact absurd y94 n4 | exact absurd y70 n94 | exact absurd hg n4 | exact absurd hg n24 | exact absurd hg n70 | exact absurd hg n94 | exact absurd y24 n94 | exact absurd y24 n70, g7_σ57, g9_σ57, g20_σ57, g22_σ57, g23_σ57, g24_σ57, g25_σ57⟩)⟩
          · have qhc52 := hqv50.2 hc52
            have y70 := qhc52
            refine ok_gR (v := 224) hT rfl (hR 218 6 rfl) ?_
            refine ok_gI rfl ?_
            refine ok_aIn rfl (by (skip); first | omega | decide | (simp only [Int32.le_iff_toInt_le, Int32.lt_iff_toInt_lt, ti_add, ti_sub, ti_mul, Int32.reduceToInt] at *; omega)) (by first | omega | exact absurd y70 n63 | exact absurd y70 n24 | exact absurd y70 n17 | exact absurd y70 n4) (fun v60 ev60 => ?_)
            have ev81 : v60 = tx (σ0.1 218 11).toInt.toNat := by first | (rw [ev60, hT.2 224 (by decide), tE]; rfl) | exact absurd y70 n63 | exact absurd y70 n24 | exact absurd y70 n17 | exact absurd y70 n4
            have t81 : 97 ≤ v60.toInt ∧ v60.toInt ≤ 122 := by first | (rw [ev81, ← tE]; exact w12 (σ0.1 218 11).toInt.toNat (by omega) (by omega)) | exact absurd y70 n63 | exact absurd y70 n24 | exact absurd y70 n17 | exact absurd y70 n4
            have s81 : (v60 - 97).toInt = v60.toInt - 97 := by rw [ti_sub]; simp only [Int32.reduceToInt]; omega
            rw [show (σ0.1 218 11).toInt.toNat = tkF tx n i by omega] at ev81
            have b81 : (v60 - 97).toInt ≤ 9 := by first | (rw [ev81.trans ev48.symm, s48]; have h0 := hF.1.1; omega) | exact absurd y70 n63 | exact absurd y70 n24 | exact absurd y70 n17 | exact absurd y70 n4
            have r81 : (v60 - 97).toInt = (tx (tkF tx n i)).toInt - 97 := by rw [s81, ev81]
            rw [J_X12_readsName_89.eq_1]
            refine ok_gC rfl ?_
            refine ok_zbX (Q := fun V => (V = 0 → ¬ σ0.1 218 14 = 0) ∧ (¬ V = 0 → σ0.1 218 14 = 0)) (x_X12_good) (fun v61 hqv61 => ?_)
            have hqv61 : (v61 = 0 → ¬ σ0.1 218 14 = 0) ∧ (¬ v61 = 0 → σ0.1 218 14 = 0) := hqv61
            refine ok_if (fun hc63 => ?_) (fun hc63 => ?_)
            · have qhc63 := hqv61.1 hc63
              have n94 := qhc63
              exact ok_some ⟨hT, (show (TOK σ0.1 ∧ (σ0.1 218 11).toInt ≤ (σ0.1 218 11).toInt ∧ (σ0.1 218 14 = 0 → (nmOK tx n i (σ0.1 231 0) ∧ (v60 - 97).toInt = (tx (tkF tx n i)).toInt - 97) ∧ RX σ0.1 tx n (tkE tx n i)) ∧ (¬ σ0.1 218 14 = 0 → ¬ nmOK tx n i (σ0.1 231 0)) ∧ 0 ≤ (v60 - 97).toInt ∧ (v60 - 97).toInt ≤ 9) ∧ (σ0.1 218 7 = σ0.1 218 7 ∧ σ0.1 218 9 = σ0.1 218 9 ∧ σ0.1 218 20 = σ0.1 218 20 ∧ σ0.1 218 22 = σ0.1 218 22 ∧ σ0.1 218 23 = σ0.1 218 23 ∧ σ0.1 218 24 = σ0.1 218 24 ∧ σ0.1 218 25 = σ0.1 218 25) from ⟨by first | exact ⟨hK, by skip; omega, fun q => absurd q (by skip; exact n94), fun _ q => m12 q.1, by first | decide | omega⟩ | exact ⟨hK, by skip; omega, fun q => absurd q (by skip; exact n94), fun _ q => l37 q.2.1, by first | decide | omega⟩ | exact ⟨hK, by skip; omega, fun q => absurd q (by skip; exact n94), fun _ q => l58 (by rw [ev48]; exact q.2.2), by first | decide | omega⟩ | exact ⟨hK, by skip; omega, fun _ => ⟨⟨⟨k12, l37, by rw [← ev48]; exact l58⟩, r81⟩, g98⟩, fun q => absurd (by skip; exact y94) q, by first | decide | omega⟩ | exact absurd y94 n70 | exact absurd y94 n63 | exact absurd y94 n24 | exact absurd y94 n17 | exact absurd y94 n4 | exact absurd y70 n94 | exact absurd hg n4 | exact absurd hg n24 | exact absurd hg n70 | exact absurd hg n94 | exact absurd y24 n94 | exact absurd y24 n70, rfl, rfl, rfl, rfl, rfl, rfl, rfl⟩)⟩
            · have qhc63 := hqv61.2 hc63
              have y94 := qhc63
              refine ok_gC rfl ?_
              refine ok_zbT (Q := fun V σ => ((TOK σ.1 ∧ (σ0.1 218 10).toInt ≤ (σ.1 218 11).toInt) ∧ RX σ.1 tx n (tkE tx n i)) ∧ (σ.1 218 7 = σ0.1 218 7 ∧ σ.1 218 9 = σ0.1 218 9 ∧ σ.1 218 14 = σ0.1 218 14 ∧ σ.1 218 15 = σ0.1 218 15 ∧ σ.1 218 20 = σ0.1 218 20 ∧ σ.1 218 22 = σ0.1 218 22 ∧ σ.1 218 23 = σ0.1 218 23 ∧ σ.1 218 24 = σ0.1 218 24 ∧ σ.1 218 25 = σ0.1 218 25)) hT (s_X12_advance_r hN (hR.tr hT) (TOK_A hK) (by rw [hT.2 224 (by decide)]; exact hY) (RX_i rfl rfl rfl rfl rfl ((hT.2 224 (by decide)).trans tE) nE pK)) (by decide) (fun v64 σ65 hOσ65 hT hqv64 => ?_)
              have hqv64 : ((TOK σ65.1 ∧ (σ0.1 218 10).toInt ≤ (σ65.1 218 11).toInt) ∧ RX σ65.1 tx n (tkE tx n i)) ∧ (σ65.1 218 7 = σ0.1 218 7 ∧ σ65.1 218 9 = σ0.1 218 9 ∧ σ65.1 218 14 = σ0.1 218 14 ∧ σ65.1 218 15 = σ0.1 218 15 ∧ σ65.1 218 20 = σ0.1 218 20 ∧ σ65.1 218 22 = σ0.1 218 22 ∧ σ65.1 218 23 = σ0.1 218 23 ∧ σ65.1 218 24 = σ0.1 218 24 ∧ σ65.1 218 25 = σ0.1 218 25) := hqv64
              have hkv64 := hqv64
              have hqv64 := hqv64.1
              have hK : TOK σ65.1 := by first | exact hqv64.1 | exact hqv64.1.1 | exact TOK_p eσ65 (by decide) hK
              have g7_σ65 : σ65.1 218 7 = (σ0.1 218 7) := hkv64.2.1
              have g9_σ65 : σ65.1 218 9 = (σ0.1 218 9) := hkv64.2.2.1
              have g14_σ65 : σ65.1 218 14 = (σ0.1 218 14) := hkv64.2.2.2.1
              have g15_σ65 : σ65.1 218 15 = (σ0.1 218 15) := hkv64.2.2.2.2.1
              have g20_σ65 : σ65.1 218 20 = (σ0.1 218 20) := hkv64.2.2.2.2.2.1
              have g22_σ65 : σ65.1 218 22 = (σ0.1 218 22) := hkv64.2.2.2.2.2.2.1
              have g23_σ65 : σ65.1 218 23 = (σ0.1 218 23) := hkv64.2.2.2.2.2.2.2.1
              have g24_σ65 : σ65.1 218 24 = (σ0.1 218 24) := hkv64.2.2.2.2.2.2.2.2.1
              have g25_σ65 : σ65.1 218 25 = (σ0.1 218 25) := hkv64.2.2.2.2.2.2.2.2.2
              have m98 := hqv64.1.2
              have g98 := hqv64.2
              exact ok_some ⟨hT, (show (TOK σ65.1 ∧ (σ0.1 218 11).toInt ≤ (σ65.1 218 11).toInt ∧ (σ65.1 218 14 = 0 → (nmOK tx n i (σ0.1 231 0) ∧ (v60 - 97).toInt = (tx (tkF tx n i)).toInt - 97) ∧ RX σ65.1 tx n (tkE tx n i)) ∧ (¬ σ65.1 218 14 = 0 → ¬ nmOK tx n i (σ0.1 231 0)) ∧ 0 ≤ (v60 - 97).toInt ∧ (v60 - 97).toInt ≤ 9) ∧ (σ65.1 218 7 = σ0.1 218 7 ∧ σ65.1 218 9 = σ0.1 218 9 ∧ σ65.1 218 20 = σ0.1 218 20 ∧ σ65.1 218 22 = σ0.1 218 22 ∧ σ65.1 218 23 = σ0.1 218 23 ∧ σ65.1 218 24 = σ0.1 218 24 ∧ σ65.1 218 25 = σ0.1 218 25) from ⟨by first | exact ⟨hK, by (try simp only [g7_σ65, g9_σ65, g14_σ65, g15_σ65, g20_σ65, g22_σ65, g23_σ65, g24_σ65, g25_σ65]); omega, fun q => absurd q (by (try simp only [g7_σ65, g9_σ65, g14_σ65, g15_σ65, g20_σ65, g22_σ65, g23_σ65, g24_σ65, g25_σ65]); exact n94), fun _ q => m12 q.1, by first | decide | omega⟩ | exact ⟨hK, by (try simp only [g7_σ65, g9_σ65, g14_σ65, g15_σ65, g20_σ65, g22_σ65, g23_σ65, g24_σ65, g25_σ65]); omega, fun q => absurd q (by (try simp only [g7_σ65, g9_σ65, g14_σ65, g15_σ65, g20_σ65, g22_σ65, g23_σ65, g24_σ65, g25_σ65]); exact n94), fun _ q => l37 q.2.1, by first | decide | omega⟩ | exact ⟨hK, by (try simp only [g7_σ65, g9_σ65, g14_σ65, g15_σ65, g20_σ65, g22_σ65, g23_σ65, g24_σ65, g25_σ65]); omega, fun q => absurd q (by (try simp only [g7_σ65, g9_σ65, g14_σ65, g15_σ65, g20_σ65, g22_σ65, g23_σ65, g24_σ65, g25_σ65]); exact n94), fun _ q => l58 (by rw [ev48]; exact q.2.2), by first | decide | omega⟩ | exact ⟨hK, by (try simp only [g7_σ65, g9_σ65, g14_σ65, g15_σ65, g20_σ65, g22_σ65, g23_σ65, g24_σ65, g25_σ65]); omega, fun _ => ⟨⟨⟨k12, l37, by rw [← ev48]; exact l58⟩, r81⟩, g98⟩, fun q => absurd (by (try simp only [g7_σ65, g9_σ65, g14_σ65, g15_σ65, g20_σ65, g22_σ65, g23_σ65, g24_σ65, g25_σ65]); exact y94) q, by first | decide | omega⟩ | exact absurd y94 n70 | exact absurd y94 n63 | exact absurd y94 n24 | exact absurd y94 n17 | exact absurd y94 n4 | exact absurd y70 n94 | exact absurd hg n4 | exact absurd hg n24 | exact absurd hg n70 | exact absurd hg n94 | exact absurd y24 n94 | exact absurd y24 n70, g7_σ65, g9_σ65, g20_σ65, g22_σ65, g23_σ65, g24_σ65, g25_σ65⟩)⟩
        · have l58 := hc49
          rw [Int32.lt_iff_toInt_lt, s48] at l58
          refine ok_gC rfl ?_
          refine ok_zbT (Q := fun V σ => (TOK σ.1 ∧ ¬ σ.1 218 14 = 0) ∧ (σ.1 218 7 = σ0.1 218 7 ∧ σ.1 218 9 = σ0.1 218 9 ∧ σ.1 218 10 = σ0.1 218 10 ∧ σ.1 218 11 = σ0.1 218 11 ∧ σ.1 218 12 = σ0.1 218 12 ∧ σ.1 218 13 = σ0.1 218 13 ∧ σ.1 218 20 = σ0.1 218 20 ∧ σ.1 218 22 = σ0.1 218 22 ∧ σ.1 218 23 = σ0.1 218 23 ∧ σ.1 218 24 = σ0.1 218 24 ∧ σ.1 218 25 = σ0.1 218 25)) hT (s_X12_errs hN (hR.tr hT) (hK) (by rw [hT.2 224 (by decide)]; exact hY) (by decide)) (by decide) (fun v66 σ67 hOσ67 hT hqv66 => ?_)
          have hqv66 : (TOK σ67.1 ∧ ¬ σ67.1 218 14 = 0) ∧ (σ67.1 218 7 = σ0.1 218 7 ∧ σ67.1 218 9 = σ0.1 218 9 ∧ σ67.1 218 10 = σ0.1 218 10 ∧ σ67.1 218 11 = σ0.1 218 11 ∧ σ67.1 218 12 = σ0.1 218 12 ∧ σ67.1 218 13 = σ0.1 218 13 ∧ σ67.1 218 20 = σ0.1 218 20 ∧ σ67.1 218 22 = σ0.1 218 22 ∧ σ67.1 218 23 = σ0.1 218 23 ∧ σ67.1 218 24 = σ0.1 218 24 ∧ σ67.1 218 25 = σ0.1 218 25) := hqv66
          have hkv66 := hqv66
          have hqv66 := hqv66.1
          have hK : TOK σ67.1 := by first | exact hqv66.1 | exact hqv66.1.1 | exact TOK_p eσ67 (by decide) hK
          have g7_σ67 : σ67.1 218 7 = (σ0.1 218 7) := hkv66.2.1
          have g9_σ67 : σ67.1 218 9 = (σ0.1 218 9) := hkv66.2.2.1
          have g10_σ67 : σ67.1 218 10 = (σ0.1 218 10) := hkv66.2.2.2.1
          have g11_σ67 : σ67.1 218 11 = (σ0.1 218 11) := hkv66.2.2.2.2.1
          have g12_σ67 : σ67.1 218 12 = (σ0.1 218 12) := hkv66.2.2.2.2.2.1
          have g13_σ67 : σ67.1 218 13 = (σ0.1 218 13) := hkv66.2.2.2.2.2.2.1
          have g20_σ67 : σ67.1 218 20 = (σ0.1 218 20) := hkv66.2.2.2.2.2.2.2.1
          have g22_σ67 : σ67.1 218 22 = (σ0.1 218 22) := hkv66.2.2.2.2.2.2.2.2.1
          have g23_σ67 : σ67.1 218 23 = (σ0.1 218 23) := hkv66.2.2.2.2.2.2.2.2.2.1
          have g24_σ67 : σ67.1 218 24 = (σ0.1 218 24) := hkv66.2.2.2.2.2.2.2.2.2.2.1
          have g25_σ67 : σ67.1 218 25 = (σ0.1 218 25) := hkv66.2.2.2.2.2.2.2.2.2.2.2
          have n63 := hqv66.2
          rw [J_X12_readsName_66.eq_1]
          refine ok_gC rfl ?_
          refine ok_zbX (Q := fun V => (V = 0 → ¬ σ67.1 218 14 = 0) ∧ (¬ V = 0 → σ67.1 218 14 = 0)) (x_X12_good) (fun v68 hqv68 => ?_)
          have hqv68 : (v68 = 0 → ¬ σ67.1 218 14 = 0) ∧ (¬ v68 = 0 → σ67.1 218 14 = 0) := hqv68
          try simp only [g7_σ67, g9_σ67, g10_σ67, g11_σ67, g12_σ67, g13_σ67, g20_σ67, g22_σ67, g23_σ67, g24_σ67, g25_σ67, hT.2 224 (by decide)] at hqv68
          refine ok_if (fun hc70 => ?_) (fun hc70 => ?_)
          · have qhc70 := hqv68.1 hc70
            have n70 := qhc70
            rw [J_X12_readsName_89.eq_1]
            refine ok_gC rfl ?_
            refine ok_zbX (Q := fun V => (V = 0 → ¬ σ67.1 218 14 = 0) ∧ (¬ V = 0 → σ67.1 218 14 = 0)) (x_X12_good) (fun v71 hqv71 => ?_)
            have hqv71 : (v71 = 0 → ¬ σ67.1 218 14 = 0) ∧ (¬ v71 = 0 → σ67.1 218 14 = 0) := hqv71
            try simp only [g7_σ67, g9_σ67, g10_σ67, g11_σ67, g12_σ67, g13_σ67, g20_σ67, g22_σ67, g23_σ67, g24_σ67, g25_σ67, hT.2 224 (by decide)] at hqv71
            refine ok_if (fun hc73 => ?_) (fun hc73 => ?_)
            · have qhc73 := hqv71.1 hc73
              have n94 := qhc73
              exact ok_some ⟨hT, (show (TOK σ67.1 ∧ (σ0.1 218 11).toInt ≤ (σ67.1 218 11).toInt ∧ (σ67.1 218 14 = 0 → (nmOK tx n i (σ0.1 231 0) ∧ (0 : Int32).toInt = (tx (tkF tx n i)).toInt - 97) ∧ RX σ67.1 tx n (tkE tx n i)) ∧ (¬ σ67.1 218 14 = 0 → ¬ nmOK tx n i (σ0.1 231 0)) ∧ 0 ≤ (0 : Int32).toInt ∧ (0 : Int32).toInt ≤ 9) ∧ (σ67.1 218 7 = σ0.1 218 7 ∧ σ67.1 218 9 = σ0.1 218 9 ∧ σ67.1 218 20 = σ0.1 218 20 ∧ σ67.1 218 22 = σ0.1 218 22 ∧ σ67.1 218 23 = σ0.1 218 23 ∧ σ67.1 218 24 = σ0.1 218 24 ∧ σ67.1 218 25 = σ0.1 218 25) from ⟨by first | exact ⟨hK, by (try simp only [g7_σ67, g9_σ67, g10_σ67, g11_σ67, g12_σ67, g13_σ67, g20_σ67, g22_σ67, g23_σ67, g24_σ67, g25_σ67]); omega, fun q => absurd q (by (try simp only [g7_σ67, g9_σ67, g10_σ67, g11_σ67, g12_σ67, g13_σ67, g20_σ67, g22_σ67, g23_σ67, g24_σ67, g25_σ67]); exact n94), fun _ q => m12 q.1, by first | decide | omega⟩ | exact ⟨hK, by (try simp only [g7_σ67, g9_σ67, g10_σ67, g11_σ67, g12_σ67, g13_σ67, g20_σ67, g22_σ67, g23_σ67, g24_σ67, g25_σ67]); omega, fun q => absurd q (by (try simp only [g7_σ67, g9_σ67, g10_σ67, g11_σ67, g12_σ67, g13_σ67, g20_σ67, g22_σ67, g23_σ67, g24_σ67, g25_σ67]); exact n94), fun _ q => l37 q.2.1, by first | decide | omega⟩ | exact ⟨hK, by (try simp only [g7_σ67, g9_σ67, g10_σ67, g11_σ67, g12_σ67, g13_σ67, g20_σ67, g22_σ67, g23_σ67, g24_σ67, g25_σ67]); omega, fun q => absurd q (by (try simp only [g7_σ67, g9_σ67, g10_σ67, g11_σ67, g12_σ67, g13_σ67, g20_σ67, g22_σ67, g23_σ67, g24_σ67, g25_σ67]); exact n94), fun _ q => l58 (by rw [ev48]; exact q.2.2), by first | decide | omega⟩ | exact ⟨hK, by (try simp only [g7_σ67, g9_σ67, g10_σ67, g11_σ67, g12_σ67, g13_σ67, g20_σ67, g22_σ67, g23_σ67, g24_σ67, g25_σ67]); omega, fun _ => ⟨⟨⟨k12, l37, by rw [← ev48]; exact l58⟩, r81⟩, g98⟩, fun q => absurd (by (try simp only [g7_σ67, g9_σ67, g10_σ67, g11_σ67, g12_σ67, g13_σ67, g20_σ67, g22_σ67, g23_σ67, g24_σ67, g25_σ67]); exact y94) q, by first | decide | omega⟩ | exact absurd y94 n70 | exact absurd y94 n63 | exact absurd y94 n24 | exact absurd y94 n17 | exact absurd y94 n4 | exact absurd y70 n94 | exact absurd hg n4 | exact absurd hg n24 | exact absurd hg n70 | exact absurd hg n94 | exact absurd y24 n94 | exact absurd y24 n70, g7_σ67, g9_σ67, g20_σ67, g22_σ67, g23_σ67, g24_σ67, g25_σ67⟩)⟩
            · have qhc73 := hqv71.2 hc73
              have y94 := qhc73
              refine ok_gC rfl ?_
              refine ok_zbT (Q := fun V σ => ((TOK σ.1 ∧ (σ67.1 218 10).toInt ≤ (σ.1 218 11).toInt) ∧ RX σ.1 tx n (tkE tx n i)) ∧ (σ.1 218 7 = σ67.1 218 7 ∧ σ.1 218 9 = σ67.1 218 9 ∧ σ.1 218 14 = σ67.1 218 14 ∧ σ.1 218 15 = σ67.1 218 15 ∧ σ.1 218 20 = σ67.1 218 20 ∧ σ.1 218 22 = σ67.1 218 22 ∧ σ.1 218 23 = σ67.1 218 23 ∧ σ.1 218 24 = σ67.1 218 24 ∧ σ.1 218 25 = σ67.1 218 25)) hT (s_X12_advance_r hN (hR.tr hT) (TOK_A hK) (by rw [hT.2 224 (by decide)]; exact hY) (RX_i g9_σ67 g10_σ67 g11_σ67 g12_σ67 g13_σ67 ((hT.2 224 (by decide)).trans tE) nE pK)) (by decide) (fun v74 σ75 hOσ75 hT hqv74 => ?_)
              have hqv74 : ((TOK σ75.1 ∧ (σ67.1 218 10).toInt ≤ (σ75.1 218 11).toInt) ∧ RX σ75.1 tx n (tkE tx n i)) ∧ (σ75.1 218 7 = σ67.1 218 7 ∧ σ75.1 218 9 = σ67.1 218 9 ∧ σ75.1 218 14 = σ67.1 218 14 ∧ σ75.1 218 15 = σ67.1 218 15 ∧ σ75.1 218 20 = σ67.1 218 20 ∧ σ75.1 218 22 = σ67.1 218 22 ∧ σ75.1 218 23 = σ67.1 218 23 ∧ σ75.1 218 24 = σ67.1 218 24 ∧ σ75.1 218 25 = σ67.1 218 25) := hqv74
              have hkv74 := hqv74
              have hqv74 := hqv74.1
              have hK : TOK σ75.1 := by first | exact hqv74.1 | exact hqv74.1.1 | exact TOK_p eσ75 (by decide) hK
              try simp only [g7_σ67, g9_σ67, g10_σ67, g11_σ67, g12_σ67, g13_σ67, g20_σ67, g22_σ67, g23_σ67, g24_σ67, g25_σ67] at hqv74
              have g7_σ75 : σ75.1 218 7 = (σ0.1 218 7) := (hkv74.2.1).trans g7_σ67
              have g9_σ75 : σ75.1 218 9 = (σ0.1 218 9) := (hkv74.2.2.1).trans g9_σ67
              have g14_σ75 : σ75.1 218 14 = (σ67.1 218 14) := hkv74.2.2.2.1
              have g15_σ75 : σ75.1 218 15 = (σ67.1 218 15) := hkv74.2.2.2.2.1
              have g20_σ75 : σ75.1 218 20 = (σ0.1 218 20) := (hkv74.2.2.2.2.2.1).trans g20_σ67
              have g22_σ75 : σ75.1 218 22 = (σ0.1 218 22) := (hkv74.2.2.2.2.2.2.1).trans g22_σ67
              have g23_σ75 : σ75.1 218 23 = (σ0.1 218 23) := (hkv74.2.2.2.2.2.2.2.1).trans g23_σ67
              have g24_σ75 : σ75.1 218 24 = (σ0.1 218 24) := (hkv74.2.2.2.2.2.2.2.2.1).trans g24_σ67
              have g25_σ75 : σ75.1 218 25 = (σ0.1 218 25) := (hkv74.2.2.2.2.2.2.2.2.2).trans g25_σ67
              have m98 := hqv74.1.2
              have g98 := hqv74.2
              exact ok_some ⟨hT, (show (TOK σ75.1 ∧ (σ0.1 218 11).toInt ≤ (σ75.1 218 11).toInt ∧ (σ75.1 218 14 = 0 → (nmOK tx n i (σ0.1 231 0) ∧ (0 : Int32).toInt = (tx (tkF tx n i)).toInt - 97) ∧ RX σ75.1 tx n (tkE tx n i)) ∧ (¬ σ75.1 218 14 = 0 → ¬ nmOK tx n i (σ0.1 231 0)) ∧ 0 ≤ (0 : Int32).toInt ∧ (0 : Int32).toInt ≤ 9) ∧ (σ75.1 218 7 = σ0.1 218 7 ∧ σ75.1 218 9 = σ0.1 218 9 ∧ σ75.1 218 20 = σ0.1 218 20 ∧ σ75.1 218 22 = σ0.1 218 22 ∧ σ75.1 218 23 = σ0.1 218 23 ∧ σ75.1 218 24 = σ0.1 218 24 ∧ σ75.1 218 25 = σ0.1 218 25) from ⟨by first | exact ⟨hK, by (try simp only [g7_σ75, g9_σ75, g14_σ75, g15_σ75, g20_σ75, g22_σ75, g23_σ75, g24_σ75, g25_σ75]); omega, fun q => absurd q (by (try simp only [g7_σ75, g9_σ75, g14_σ75, g15_σ75, g20_σ75, g22_σ75, g23_σ75, g24_σ75, g25_σ75]); exact n94), fun _ q => m12 q.1, by first | decide | omega⟩ | exact ⟨hK, by (try simp only [g7_σ75, g9_σ75, g14_σ75, g15_σ75, g20_σ75, g22_σ75, g23_σ75, g24_σ75, g25_σ75]); omega, fun q => absurd q (by (try simp only [g7_σ75, g9_σ75, g14_σ75, g15_σ75, g20_σ75, g22_σ75, g23_σ75, g24_σ75, g25_σ75]); exact n94), fun _ q => l37 q.2.1, by first | decide | omega⟩ | exact ⟨hK, by (try simp only [g7_σ75, g9_σ75, g14_σ75, g15_σ75, g20_σ75, g22_σ75, g23_σ75, g24_σ75, g25_σ75]); omega, fun q => absurd q (by (try simp only [g7_σ75, g9_σ75, g14_σ75, g15_σ75, g20_σ75, g22_σ75, g23_σ75, g24_σ75, g25_σ75]); exact n94), fun _ q => l58 (by rw [ev48]; exact q.2.2), by first | decide | omega⟩ | exact ⟨hK, by (try simp only [g7_σ75, g9_σ75, g14_σ75, g15_σ75, g20_σ75, g22_σ75, g23_σ75, g24_σ75, g25_σ75]); omega, fun _ => ⟨⟨⟨k12, l37, by rw [← ev48]; exact l58⟩, r81⟩, g98⟩, fun q => absurd (by (try simp only [g7_σ75, g9_σ75, g14_σ75, g15_σ75, g20_σ75, g22_σ75, g23_σ75, g24_σ75, g25_σ75]); exact y94) q, by first | decide | omega⟩ | exact absurd y94 n70 | exact absurd y94 n63 | exact absurd y94 n24 | exact absurd y94 n17 | exact absurd y94 n4 | exact absurd y70 n94 | exact absurd hg n4 | exact absurd hg n24 | exact absurd hg n70 | exact absurd hg n94 | exact absurd y24 n94 | exact absurd y24 n70, g7_σ75, g9_σ75, g20_σ75, g22_σ75, g23_σ75, g24_σ75, g25_σ75⟩)⟩
          · have qhc70 := hqv68.2 hc70
            have y70 := qhc70
            refine ok_gR (v := 224) hT rfl (hR 218 6 rfl) ?_
            refine ok_gIv rfl g11_σ67 ?_
            refine ok_aIn rfl (by ((try simp only [g7_σ67, g9_σ67, g10_σ67, g11_σ67, g12_σ67, g13_σ67, g20_σ67, g22_σ67, g23_σ67, g24_σ67, g25_σ67])); first | omega | decide | (simp only [Int32.le_iff_toInt_le, Int32.lt_iff_toInt_lt, ti_add, ti_sub, ti_mul, Int32.reduceToInt] at *; omega)) (by first | omega | exact absurd y70 n63 | exact absurd y70 n24 | exact absurd y70 n17 | exact absurd y70 n4) (fun v78 ev78 => ?_)
            have ev81 : v78 = tx (σ0.1 218 11).toInt.toNat := by first | (rw [ev78, hT.2 224 (by decide), tE]; rfl) | exact absurd y70 n63 | exact absurd y70 n24 | exact absurd y70 n17 | exact absurd y70 n4
            have t81 : 97 ≤ v78.toInt ∧ v78.toInt ≤ 122 := by first | (rw [ev81, ← tE]; exact w12 (σ0.1 218 11).toInt.toNat (by omega) (by omega)) | exact absurd y70 n63 | exact absurd y70 n24 | exact absurd y70 n17 | exact absurd y70 n4
            have s81 : (v78 - 97).toInt = v78.toInt - 97 := by rw [ti_sub]; simp only [Int32.reduceToInt]; omega
            rw [show (σ0.1 218 11).toInt.toNat = tkF tx n i by omega] at ev81
            have b81 : (v78 - 97).toInt ≤ 9 := by first | (rw [ev81.trans ev48.symm, s48]; have h0 := hF.1.1; omega) | exact absurd y70 n63 | exact absurd y70 n24 | exact absurd y70 n17 | exact absurd y70 n4
            have r81 : (v78 - 97).toInt = (tx (tkF tx n i)).toInt - 97 := by rw [s81, ev81]
            rw [J_X12_readsName_89.eq_1]
            refine ok_gC rfl ?_
            refine ok_zbX (Q := fun V => (V = 0 → ¬ σ67.1 218 14 = 0) ∧ (¬ V = 0 → σ67.1 218 14 = 0)) (x_X12_good) (fun v79 hqv79 => ?_)
            have hqv79 : (v79 = 0 → ¬ σ67.1 218 14 = 0) ∧ (¬ v79 = 0 → σ67.1 218 14 = 0) := hqv79
            try simp only [g7_σ67, g9_σ67, g10_σ67, g11_σ67, g12_σ67, g13_σ67, g20_σ67, g22_σ67, g23_σ67, g24_σ67, g25_σ67, hT.2 224 (by decide)] at hqv79
            refine ok_if (fun hc81 => ?_) (fun hc81 => ?_)
            · have qhc81 := hqv79.1 hc81
              have n94 := qhc81
              exact ok_some ⟨hT, (show (TOK σ67.1 ∧ (σ0.1 218 11).toInt ≤ (σ67.1 218 11).toInt ∧ (σ67.1 218 14 = 0 → (nmOK tx n i (σ0.1 231 0) ∧ (v78 - 97).toInt = (tx (tkF tx n i)).toInt - 97) ∧ RX σ67.1 tx n (tkE tx n i)) ∧ (¬ σ67.1 218 14 = 0 → ¬ nmOK tx n i (σ0.1 231 0)) ∧ 0 ≤ (v78 - 97).toInt ∧ (v78 - 97).toInt ≤ 9) ∧ (σ67.1 218 7 = σ0.1 218 7 ∧ σ67.1 218 9 = σ0.1 218 9 ∧ σ67.1 218 20 = σ0.1 218 20 ∧ σ67.1 218 22 = σ0.1 218 22 ∧ σ67.1 218 23 = σ0.1 218 23 ∧ σ67.1 218 24 = σ0.1 218 24 ∧ σ67.1 218 25 = σ0.1 218 25) from ⟨by first | exact ⟨hK, by (try simp only [g7_σ67, g9_σ67, g10_σ67, g11_σ67, g12_σ67, g13_σ67, g20_σ67, g22_σ67, g23_σ67, g24_σ67, g25_σ67]); omega, fun q => absurd q (by (try simp only [g7_σ67, g9_σ67, g10_σ67, g11_σ67, g12_σ67, g13_σ67, g20_σ67, g22_σ67, g23_σ67, g24_σ67, g25_σ67]); exact n94), fun _ q => m12 q.1, by first | decide | omega⟩ | exact ⟨hK, by (try simp only [g7_σ67, g9_σ67, g10_σ67, g11_σ67, g12_σ67, g13_σ67, g20_σ67, g22_σ67, g23_σ67, g24_σ67, g25_σ67]); omega, fun q => absurd q (by (try simp only [g7_σ67, g9_σ67, g10_σ67, g11_σ67, g12_σ67, g13_σ67, g20_σ67, g22_σ67, g23_σ67, g24_σ67, g25_σ67]); exact n94), fun _ q => l37 q.2.1, by first | decide | omega⟩ | exact ⟨hK, by (try simp only [g7_σ67, g9_σ67, g10_σ67, g11_σ67, g12_σ67, g13_σ67, g20_σ67, g22_σ67, g23_σ67, g24_σ67, g25_σ67]); omega, fun q => absurd q (by (try simp only [g7_σ67, g9_σ67, g10_σ67, g11_σ67, g12_σ67, g13_σ67, g20_σ67, g22_σ67, g23_σ67, g24_σ67, g25_σ67]); exact n94), fun _ q => l58 (by rw [ev48]; exact q.2.2), by first | decide | omega⟩ | exact ⟨hK, by (try simp only [g7_σ67, g9_σ67, g10_σ67, g11_σ67, g12_σ67, g13_σ67, g20_σ67, g22_σ67, g23_σ67, g24_σ67, g25_σ67]); omega, fun _ => ⟨⟨⟨k12, l37, by rw [← ev48]; exact l58⟩, r81⟩, g98⟩, fun q => absurd (by (try simp only [g7_σ67, g9_σ67, g10_σ67, g11_σ67, g12_σ67, g13_σ67, g20_σ67, g22_σ67, g23_σ67, g24_σ67, g25_σ67]); exact y94) q, by first | decide | omega⟩ | exact absurd y94 n70 | exact absurd y94 n63 | exact absurd y94 n24 | exact absurd y94 n17 | exact absurd y94 n4 | exact absurd y70 n94 | exact absurd hg n4 | exact absurd hg n24 | exact absurd hg n70 | exact absurd hg n94 | exact absurd y24 n94 | exact absurd y24 n70, g7_σ67, g9_σ67, g20_σ67, g22_σ67, g23_σ67, g24_σ67, g25_σ67⟩)⟩
            · have qhc81 := hqv79.2 hc81
              have y94 := qhc81
              refine ok_gC rfl ?_
              refine ok_zbT (Q := fun V σ => ((TOK σ.1 ∧ (σ67.1 218 10).toInt ≤ (σ.1 218 11).toInt) ∧ RX σ.1 tx n (tkE tx n i)) ∧ (σ.1 218 7 = σ67.1 218 7 ∧ σ.1 218 9 = σ67.1 218 9 ∧ σ.1 218 14 = σ67.1 218 14 ∧ σ.1 218 15 = σ67.1 218 15 ∧ σ.1 218 20 = σ67.1 218 20 ∧ σ.1 218 22 = σ67.1 218 22 ∧ σ.1 218 23 = σ67.1 218 23 ∧ σ.1 218 24 = σ67.1 218 24 ∧ σ.1 218 25 = σ67.1 218 25)) hT (s_X12_advance_r hN (hR.tr hT) (TOK_A hK) (by rw [hT.2 224 (by decide)]; exact hY) (RX_i g9_σ67 g10_σ67 g11_σ67 g12_σ67 g13_σ67 ((hT.2 224 (by decide)).trans tE) nE pK)) (by decide) (fun v82 σ83 hOσ83 hT hqv82 => ?_)
              have hqv82 : ((TOK σ83.1 ∧ (σ67.1 218 10).toInt ≤ (σ83.1 218 11).toInt) ∧ RX σ83.1 tx n (tkE tx n i)) ∧ (σ83.1 218 7 = σ67.1 218 7 ∧ σ83.1 218 9 = σ67.1 218 9 ∧ σ83.1 218 14 = σ67.1 218 14 ∧ σ83.1 218 15 = σ67.1 218 15 ∧ σ83.1 218 20 = σ67.1 218 20 ∧ σ83.1 218 22 = σ67.1 218 22 ∧ σ83.1 218 23 = σ67.1 218 23 ∧ σ83.1 218 24 = σ67.1 218 24 ∧ σ83.1 218 25 = σ67.1 218 25) := hqv82
              have hkv82 := hqv82
              have hqv82 := hqv82.1
              have hK : TOK σ83.1 := by first | exact hqv82.1 | exact hqv82.1.1 | exact TOK_p eσ83 (by decide) hK
              try simp only [g7_σ67, g9_σ67, g10_σ67, g11_σ67, g12_σ67, g13_σ67, g20_σ67, g22_σ67, g23_σ67, g24_σ67, g25_σ67] at hqv82
              have g7_σ83 : σ83.1 218 7 = (σ0.1 218 7) := (hkv82.2.1).trans g7_σ67
              have g9_σ83 : σ83.1 218 9 = (σ0.1 218 9) := (hkv82.2.2.1).trans g9_σ67
              have g14_σ83 : σ83.1 218 14 = (σ67.1 218 14) := hkv82.2.2.2.1
              have g15_σ83 : σ83.1 218 15 = (σ67.1 218 15) := hkv82.2.2.2.2.1
              have g20_σ83 : σ83.1 218 20 = (σ0.1 218 20) := (hkv82.2.2.2.2.2.1).trans g20_σ67
              have g22_σ83 : σ83.1 218 22 = (σ0.1 218 22) := (hkv82.2.2.2.2.2.2.1).trans g22_σ67
              have g23_σ83 : σ83.1 218 23 = (σ0.1 218 23) := (hkv82.2.2.2.2.2.2.2.1).trans g23_σ67
              have g24_σ83 : σ83.1 218 24 = (σ0.1 218 24) := (hkv82.2.2.2.2.2.2.2.2.1).trans g24_σ67
              have g25_σ83 : σ83.1 218 25 = (σ0.1 218 25) := (hkv82.2.2.2.2.2.2.2.2.2).trans g25_σ67
              have m98 := hqv82.1.2
              have g98 := hqv82.2
              exact ok_some ⟨hT, (show (TOK σ83.1 ∧ (σ0.1 218 11).toInt ≤ (σ83.1 218 11).toInt ∧ (σ83.1 218 14 = 0 → (nmOK tx n i (σ0.1 231 0) ∧ (v78 - 97).toInt = (tx (tkF tx n i)).toInt - 97) ∧ RX σ83.1 tx n (tkE tx n i)) ∧ (¬ σ83.1 218 14 = 0 → ¬ nmOK tx n i (σ0.1 231 0)) ∧ 0 ≤ (v78 - 97).toInt ∧ (v78 - 97).toInt ≤ 9) ∧ (σ83.1 218 7 = σ0.1 218 7 ∧ σ83.1 218 9 = σ0.1 218 9 ∧ σ83.1 218 20 = σ0.1 218 20 ∧ σ83.1 218 22 = σ0.1 218 22 ∧ σ83.1 218 23 = σ0.1 218 23 ∧ σ83.1 218 24 = σ0.1 218 24 ∧ σ83.1 218 25 = σ0.1 218 25) from ⟨by first | exact ⟨hK, by (try simp only [g7_σ83, g9_σ83, g14_σ83, g15_σ83, g20_σ83, g22_σ83, g23_σ83, g24_σ83, g25_σ83]); omega, fun q => absurd q (by (try simp only [g7_σ83, g9_σ83, g14_σ83, g15_σ83, g20_σ83, g22_σ83, g23_σ83, g24_σ83, g25_σ83]); exact n94), fun _ q => m12 q.1, by first | decide | omega⟩ | exact ⟨hK, by (try simp only [g7_σ83, g9_σ83, g14_σ83, g15_σ83, g20_σ83, g22_σ83, g23_σ83, g24_σ83, g25_σ83]); omega, fun q => absurd q (by (try simp only [g7_σ83, g9_σ83, g14_σ83, g15_σ83, g20_σ83, g22_σ83, g23_σ83, g24_σ83, g25_σ83]); exact n94), fun _ q => l37 q.2.1, by first | decide | omega⟩ | exact ⟨hK, by (try simp only [g7_σ83, g9_σ83, g14_σ83, g15_σ83, g20_σ83, g22_σ83, g23_σ83, g24_σ83, g25_σ83]); omega, fun q => absurd q (by (try simp only [g7_σ83, g9_σ83, g14_σ83, g15_σ83, g20_σ83, g22_σ83, g23_σ83, g24_σ83, g25_σ83]); exact n94), fun _ q => l58 (by rw [ev48]; exact q.2.2), by first | decide | omega⟩ | exact ⟨hK, by (try simp only [g7_σ83, g9_σ83, g14_σ83, g15_σ83, g20_σ83, g22_σ83, g23_σ83, g24_σ83, g25_σ83]); omega, fun _ => ⟨⟨⟨k12, l37, by rw [← ev48]; exact l58⟩, r81⟩, g98⟩, fun q => absurd (by (try simp only [g7_σ83, g9_σ83, g14_σ83, g15_σ83, g20_σ83, g22_σ83, g23_σ83, g24_σ83, g25_σ83]); exact y94) q, by first | decide | omega⟩ | exact absurd y94 n70 | exact absurd y94 n63 | exact absurd y94 n24 | exact absurd y94 n17 | exact absurd y94 n4 | exact absurd y70 n94 | exact absurd hg n4 | exact absurd hg n24 | exact absurd hg n70 | exact absurd hg n94 | exact absurd y24 n94 | exact absurd y24 n70, g7_σ83, g9_σ83, g20_σ83, g22_σ83, g23_σ83, g24_σ83, g25_σ83⟩)⟩
  · have qhc3 := hqv1.2 hc3
    have y4 := qhc3
    refine ok_gI rfl ?_
    refine ok_if (fun hc85 => ?_) (fun hc85 => ?_)
    · have l12 := hK.2.1 (by rw [hc85]; decide)
      have w12 := hK.2.2 hc85
      have k12 : tkK tx n i = 1 := pK.2.1.symm.trans hc85
      rw [J_X12_readsName_20.eq_1]
      refine ok_gC rfl ?_
      refine ok_zbX (Q := fun V => (V = 0 → ¬ σ0.1 218 14 = 0) ∧ (¬ V = 0 → σ0.1 218 14 = 0)) (x_X12_good) (fun v86 hqv86 => ?_)
      have hqv86 : (v86 = 0 → ¬ σ0.1 218 14 = 0) ∧ (¬ v86 = 0 → σ0.1 218 14 = 0) := hqv86
      refine ok_if (fun hc88 => ?_) (fun hc88 => ?_)
      · have qhc88 := hqv86.1 hc88
        have n24 := qhc88
        rw [J_X12_readsName_66.eq_1]
        refine ok_gC rfl ?_
        refine ok_zbX (Q := fun V => (V = 0 → ¬ σ0.1 218 14 = 0) ∧ (¬ V = 0 → σ0.1 218 14 = 0)) (x_X12_good) (fun v89 hqv89 => ?_)
        have hqv89 : (v89 = 0 → ¬ σ0.1 218 14 = 0) ∧ (¬ v89 = 0 → σ0.1 218 14 = 0) := hqv89
        refine ok_if (fun hc91 => ?_) (fun hc91 => ?_)
        · have qhc91 := hqv89.1 hc91
          have n70 := qhc91
          rw [J_X12_readsName_89.eq_1]
          refine ok_gC rfl ?_
          refine ok_zbX (Q := fun V => (V = 0 → ¬ σ0.1 218 14 = 0) ∧ (¬ V = 0 → σ0.1 218 14 = 0)) (x_X12_good) (fun v92 hqv92 => ?_)
          have hqv92 : (v92 = 0 → ¬ σ0.1 218 14 = 0) ∧ (¬ v92 = 0 → σ0.1 218 14 = 0) := hqv92
          refine ok_if (fun hc94 => ?_) (fun hc94 => ?_)
          · have qhc94 := hqv92.1 hc94
            have n94 := qhc94
            exact ok_some ⟨hT, (show (TOK σ0.1 ∧ (σ0.1 218 11).toInt ≤ (σ0.1 218 11).toInt ∧ (σ0.1 218 14 = 0 → (nmOK tx n i (σ0.1 231 0) ∧ (0 : Int32).toInt = (tx (tkF tx n i)).toInt - 97) ∧ RX σ0.1 tx n (tkE tx n i)) ∧ (¬ σ0.1 218 14 = 0 → ¬ nmOK tx n i (σ0.1 231 0)) ∧ 0 ≤ (0 : Int32).toInt ∧ (0 : Int32).toInt ≤ 9) ∧ (σ0.1 218 7 = σ0.1 218 7 ∧ σ0.1 218 9 = σ0.1 218 9 ∧ σ0.1 218 20 = σ0.1 218 20 ∧ σ0.1 218 22 = σ0.1 218 22 ∧ σ0.1 218 23 = σ0.1 218 23 ∧ σ0.1 218 24 = σ0.1 218 24 ∧ σ0.1 218 25 = σ0.1 218 25) from ⟨by first | exact ⟨hK, by skip; omega, fun q => absurd q (by skip; exact n94), fun _ q => m12 q.1, by first | decide | omega⟩ | exact ⟨hK, by skip; omega, fun q => absurd q (by skip; exact n94), fun _ q => l37 q.2.1, by first | decide | omega⟩ | exact ⟨hK, by skip; omega, fun q => absurd q (by skip; exact n94), fun _ q => l58 (by rw [ev48]; exact q.2.2), by first | decide | omega⟩ | exact ⟨hK, by skip; omega, fun _ => ⟨⟨⟨k12, l37, by rw [← ev48]; exact l58⟩, r81⟩, g98⟩, fun q => absurd (by skip; exact y94) q, by first | decide | omega⟩ | exact absurd y94 n70 | exact absurd y94 n63 | exact absurd y94 n24 | exact absurd y94 n17 | exact absurd y94 n4 | exact absurd y70 n94 | exact absurd hg n4 | exact absurd hg n24 | exact absurd hg n70 | exact absurd hg n94 | exact absurd y24 n94 | exact absurd y24 n70, rfl, rfl, rfl, rfl, rfl, rfl, rfl⟩)⟩
          · have qhc94 := hqv92.2 hc94
            have y94 := qhc94
            refine ok_gC rfl ?_
            refine ok_zbT (Q := fun V σ => ((TOK σ.1 ∧ (σ0.1 218 10).toInt ≤ (σ.1 218 11).toInt) ∧ RX σ.1 tx n (tkE tx n i)) ∧ (σ.1 218 7 = σ0.1 218 7 ∧ σ.1 218 9 = σ0.1 218 9 ∧ σ.1 218 14 = σ0.1 218 14 ∧ σ.1 218 15 = σ0.1 218 15 ∧ σ.1 218 20 = σ0.1 218 20 ∧ σ.1 218 22 = σ0.1 218 22 ∧ σ.1 218 23 = σ0.1 218 23 ∧ σ.1 218 24 = σ0.1 218 24 ∧ σ.1 218 25 = σ0.1 218 25)) hT (s_X12_advance_r hN (hR.tr hT) (TOK_A hK) (by rw [hT.2 224 (by decide)]; exact hY) (RX_i rfl rfl rfl rfl rfl ((hT.2 224 (by decide)).trans tE) nE pK)) (by decide) (fun v95 σ96 hOσ96 hT hqv95 => ?_)
            have hqv95 : ((TOK σ96.1 ∧ (σ0.1 218 10).toInt ≤ (σ96.1 218 11).toInt) ∧ RX σ96.1 tx n (tkE tx n i)) ∧ (σ96.1 218 7 = σ0.1 218 7 ∧ σ96.1 218 9 = σ0.1 218 9 ∧ σ96.1 218 14 = σ0.1 218 14 ∧ σ96.1 218 15 = σ0.1 218 15 ∧ σ96.1 218 20 = σ0.1 218 20 ∧ σ96.1 218 22 = σ0.1 218 22 ∧ σ96.1 218 23 = σ0.1 218 23 ∧ σ96.1 218 24 = σ0.1 218 24 ∧ σ96.1 218 25 = σ0.1 218 25) := hqv95
            have hkv95 := hqv95
            have hqv95 := hqv95.1
            have hK : TOK σ96.1 := by first | exact hqv95.1 | exact hqv95.1.1 | exact TOK_p eσ96 (by decide) hK
            have g7_σ96 : σ96.1 218 7 = (σ0.1 218 7) := hkv95.2.1
            have g9_σ96 : σ96.1 218 9 = (σ0.1 218 9) := hkv95.2.2.1
            have g14_σ96 : σ96.1 218 14 = (σ0.1 218 14) := hkv95.2.2.2.1
            have g15_σ96 : σ96.1 218 15 = (σ0.1 218 15) := hkv95.2.2.2.2.1
            have g20_σ96 : σ96.1 218 20 = (σ0.1 218 20) := hkv95.2.2.2.2.2.1
            have g22_σ96 : σ96.1 218 22 = (σ0.1 218 22) := hkv95.2.2.2.2.2.2.1
            have g23_σ96 : σ96.1 218 23 = (σ0.1 218 23) := hkv95.2.2.2.2.2.2.2.1
            have g24_σ96 : σ96.1 218 24 = (σ0.1 218 24) := hkv95.2.2.2.2.2.2.2.2.1
            have g25_σ96 : σ96.1 218 25 = (σ0.1 218 25) := hkv95.2.2.2.2.2.2.2.2.2
            have m98 := hqv95.1.2
            have g98 := hqv95.2
            exact ok_some ⟨hT, (show (TOK σ96.1 ∧ (σ0.1 218 11).toInt ≤ (σ96.1 218 11).toInt ∧ (σ96.1 218 14 = 0 → (nmOK tx n i (σ0.1 231 0) ∧ (0 : Int32).toInt = (tx (tkF tx n i)).toInt - 97) ∧ RX σ96.1 tx n (tkE tx n i)) ∧ (¬ σ96.1 218 14 = 0 → ¬ nmOK tx n i (σ0.1 231 0)) ∧ 0 ≤ (0 : Int32).toInt ∧ (0 : Int32).toInt ≤ 9) ∧ (σ96.1 218 7 = σ0.1 218 7 ∧ σ96.1 218 9 = σ0.1 218 9 ∧ σ96.1 218 20 = σ0.1 218 20 ∧ σ96.1 218 22 = σ0.1 218 22 ∧ σ96.1 218 23 = σ0.1 218 23 ∧ σ96.1 218 24 = σ0.1 218 24 ∧ σ96.1 218 25 = σ0.1 218 25) from ⟨by first | exact ⟨hK, by (try simp only [g7_σ96, g9_σ96, g14_σ96, g15_σ96, g20_σ96, g22_σ96, g23_σ96, g24_σ96, g25_σ96]); omega, fun q => absurd q (by (try simp only [g7_σ96, g9_σ96, g14_σ96, g15_σ96, g20_σ96, g22_σ96, g23_σ96, g24_σ96, g25_σ96]); exact n94), fun _ q => m12 q.1, by first | decide | omega⟩ | exact ⟨hK, by (try simp only [g7_σ96, g9_σ96, g14_σ96, g15_σ96, g20_σ96, g22_σ96, g23_σ96, g24_σ96, g25_σ96]); omega, fun q => absurd q (by (try simp only [g7_σ96, g9_σ96, g14_σ96, g15_σ96, g20_σ96, g22_σ96, g23_σ96, g24_σ96, g25_σ96]); exact n94), fun _ q => l37 q.2.1, by first | decide | omega⟩ | exact ⟨hK, by (try simp only [g7_σ96, g9_σ96, g14_σ96, g15_σ96, g20_σ96, g22_σ96, g23_σ96, g24_σ96, g25_σ96]); omega, fun q => absurd q (by (try simp only [g7_σ96, g9_σ96, g14_σ96, g15_σ96, g20_σ96, g22_σ96, g23_σ96, g24_σ96, g25_σ96]); exact n94), fun _ q => l58 (by rw [ev48]; exact q.2.2), by first | decide | omega⟩ | exact ⟨hK, by (try simp only [g7_σ96, g9_σ96, g14_σ96, g15_σ96, g20_σ96, g22_σ96, g23_σ96, g24_σ96, g25_σ96]); omega, fun _ => ⟨⟨⟨k12, l37, by rw [← ev48]; exact l58⟩, r81⟩, g98⟩, fun q => absurd (by (try simp only [g7_σ96, g9_σ96, g14_σ96, g15_σ96, g20_σ96, g22_σ96, g23_σ96, g24_σ96, g25_σ96]); exact y94) q, by first | decide | omega⟩ | exact absurd y94 n70 | exact absurd y94 n63 | exact absurd y94 n24 | exact absurd y94 n17 | exact absurd y94 n4 | exact absurd y70 n94 | exact absurd hg n4 | exact absurd hg n24 | exact absurd hg n70 | exact absurd hg n94 | exact absurd y24 n94 | exact absurd y24 n70, g7_σ96, g9_σ96, g20_σ96, g22_σ96, g23_σ96, g24_σ96, g25_σ96⟩)⟩
        · have qhc91 := hqv89.2 hc91
          have y70 := qhc91
          refine ok_gR (v := 224) hT rfl (hR 218 6 rfl) ?_
          refine ok_gI rfl ?_
          refine ok_aIn rfl (by (skip); first | omega | decide | (simp only [Int32.le_iff_toInt_le, Int32.lt_iff_toInt_lt, ti_add, ti_sub, ti_mul, Int32.reduceToInt] at *; omega)) (by first | omega | exact absurd y70 n63 | exact absurd y70 n24 | exact absurd y70 n17 | exact absurd y70 n4) (fun v99 ev99 => ?_)
          have ev81 : v99 = tx (σ0.1 218 11).toInt.toNat := by first | (rw [ev99, hT.2 224 (by decide), tE]; rfl) | exact absurd y70 n63 | exact absurd y70 n24 | exact absurd y70 n17 | exact absurd y70 n4
          have t81 : 97 ≤ v99.toInt ∧ v99.toInt ≤ 122 := by first | (rw [ev81, ← tE]; exact w12 (σ0.1 218 11).toInt.toNat (by omega) (by omega)) | exact absurd y70 n63 | exact absurd y70 n24 | exact absurd y70 n17 | exact absurd y70 n4
          have s81 : (v99 - 97).toInt = v99.toInt - 97 := by rw [ti_sub]; simp only [Int32.reduceToInt]; omega
          rw [show (σ0.1 218 11).toInt.toNat = tkF tx n i by omega] at ev81
          have b81 : (v99 - 97).toInt ≤ 9 := by first | (rw [ev81.trans ev48.symm, s48]; have h0 := hF.1.1; omega) | exact absurd y70 n63 | exact absurd y70 n24 | exact absurd y70 n17 | exact absurd y70 n4
          have r81 : (v99 - 97).toInt = (tx (tkF tx n i)).toInt - 97 := by rw [s81, ev81]
          rw [J_X12_readsName_89.eq_1]
          refine ok_gC rfl ?_
          refine ok_zbX (Q := fun V => (V = 0 → ¬ σ0.1 218 14 = 0) ∧ (¬ V = 0 → σ0.1 218 14 = 0)) (x_X12_good) (fun v100 hqv100 => ?_)
          have hqv100 : (v100 = 0 → ¬ σ0.1 218 14 = 0) ∧ (¬ v100 = 0 → σ0.1 218 14 = 0) := hqv100
          refine ok_if (fun hc102 => ?_) (fun hc102 => ?_)
          · have qhc102 := hqv100.1 hc102
            have n94 := qhc102
            exact ok_some ⟨hT, (show (TOK σ0.1 ∧ (σ0.1 218 11).toInt ≤ (σ0.1 218 11).toInt ∧ (σ0.1 218 14 = 0 → (nmOK tx n i (σ0.1 231 0) ∧ (v99 - 97).toInt = (tx (tkF tx n i)).toInt - 97) ∧ RX σ0.1 tx n (tkE tx n i)) ∧ (¬ σ0.1 218 14 = 0 → ¬ nmOK tx n i (σ0.1 231 0)) ∧ 0 ≤ (v99 - 97).toInt ∧ (v99 - 97).toInt ≤ 9) ∧ (σ0.1 218 7 = σ0.1 218 7 ∧ σ0.1 218 9 = σ0.1 218 9 ∧ σ0.1 218 20 = σ0.1 218 20 ∧ σ0.1 218 22 = σ0.1 218 22 ∧ σ0.1 218 23 = σ0.1 218 23 ∧ σ0.1 218 24 = σ0.1 218 24 ∧ σ0.1 218 25 = σ0.1 218 25) from ⟨by first | exact ⟨hK, by skip; omega, fun q => absurd q (by skip; exact n94), fun _ q => m12 q.1, by first | decide | omega⟩ | exact ⟨hK, by skip; omega, fun q => absurd q (by skip; exact n94), fun _ q => l37 q.2.1, by first | decide | omega⟩ | exact ⟨hK, by skip; omega, fun q => absurd q (by skip; exact n94), fun _ q => l58 (by rw [ev48]; exact q.2.2), by first | decide | omega⟩ | exact ⟨hK, by skip; omega, fun _ => ⟨⟨⟨k12, l37, by rw [← ev48]; exact l58⟩, r81⟩, g98⟩, fun q => absurd (by skip; exact y94) q, by first | decide | omega⟩ | exact absurd y94 n70 | exact absurd y94 n63 | exact absurd y94 n24 | exact absurd y94 n17 | exact absurd y94 n4 | exact absurd y70 n94 | exact absurd hg n4 | exact absurd hg n24 | exact absurd hg n70 | exact absurd hg n94 | exact absurd y24 n94 | exact absurd y24 n70, rfl, rfl, rfl, rfl, rfl, rfl, rfl⟩)⟩
          · have qhc102 := hqv100.2 hc102
            have y94 := qhc102
            refine ok_gC rfl ?_
            refine ok_zbT (Q := fun V σ => ((TOK σ.1 ∧ (σ0.1 218 10).toInt ≤ (σ.1 218 11).toInt) ∧ RX σ.1 tx n (tkE tx n i)) ∧ (σ.1 218 7 = σ0.1 218 7 ∧ σ.1 218 9 = σ0.1 218 9 ∧ σ.1 218 14 = σ0.1 218 14 ∧ σ.1 218 15 = σ0.1 218 15 ∧ σ.1 218 20 = σ0.1 218 20 ∧ σ.1 218 22 = σ0.1 218 22 ∧ σ.1 218 23 = σ0.1 218 23 ∧ σ.1 218 24 = σ0.1 218 24 ∧ σ.1 218 25 = σ0.1 218 25)) hT (s_X12_advance_r hN (hR.tr hT) (TOK_A hK) (by rw [hT.2 224 (by decide)]; exact hY) (RX_i rfl rfl rfl rfl rfl ((hT.2 224 (by decide)).trans tE) nE pK)) (by decide) (fun v103 σ104 hOσ104 hT hqv103 => ?_)
            have hqv103 : ((TOK σ104.1 ∧ (σ0.1 218 10).toInt ≤ (σ104.1 218 11).toInt) ∧ RX σ104.1 tx n (tkE tx n i)) ∧ (σ104.1 218 7 = σ0.1 218 7 ∧ σ104.1 218 9 = σ0.1 218 9 ∧ σ104.1 218 14 = σ0.1 218 14 ∧ σ104.1 218 15 = σ0.1 218 15 ∧ σ104.1 218 20 = σ0.1 218 20 ∧ σ104.1 218 22 = σ0.1 218 22 ∧ σ104.1 218 23 = σ0.1 218 23 ∧ σ104.1 218 24 = σ0.1 218 24 ∧ σ104.1 218 25 = σ0.1 218 25) := hqv103
            have hkv103 := hqv103
            have hqv103 := hqv103.1
            have hK : TOK σ104.1 := by first | exact hqv103.1 | exact hqv103.1.1 | exact TOK_p eσ104 (by decide) hK
            have g7_σ104 : σ104.1 218 7 = (σ0.1 218 7) := hkv103.2.1
            have g9_σ104 : σ104.1 218 9 = (σ0.1 218 9) := hkv103.2.2.1
            have g14_σ104 : σ104.1 218 14 = (σ0.1 218 14) := hkv103.2.2.2.1
            have g15_σ104 : σ104.1 218 15 = (σ0.1 218 15) := hkv103.2.2.2.2.1
            have g20_σ104 : σ104.1 218 20 = (σ0.1 218 20) := hkv103.2.2.2.2.2.1
            have g22_σ104 : σ104.1 218 22 = (σ0.1 218 22) := hkv103.2.2.2.2.2.2.1
            have g23_σ104 : σ104.1 218 23 = (σ0.1 218 23) := hkv103.2.2.2.2.2.2.2.1
            have g24_σ104 : σ104.1 218 24 = (σ0.1 218 24) := hkv103.2.2.2.2.2.2.2.2.1
            have g25_σ104 : σ104.1 218 25 = (σ0.1 218 25) := hkv103.2.2.2.2.2.2.2.2.2
            have m98 := hqv103.1.2
            have g98 := hqv103.2
            exact ok_some ⟨hT, (show (TOK σ104.1 ∧ (σ0.1 218 11).toInt ≤ (σ104.1 218 11).toInt ∧ (σ104.1 218 14 = 0 → (nmOK tx n i (σ0.1 231 0) ∧ (v99 - 97).toInt = (tx (tkF tx n i)).toInt - 97) ∧ RX σ104.1 tx n (tkE tx n i)) ∧ (¬ σ104.1 218 14 = 0 → ¬ nmOK tx n i (σ0.1 231 0)) ∧ 0 ≤ (v99 - 97).toInt ∧ (v99 - 97).toInt ≤ 9) ∧ (σ104.1 218 7 = σ0.1 218 7 ∧ σ104.1 218 9 = σ0.1 218 9 ∧ σ104.1 218 20 = σ0.1 218 20 ∧ σ104.1 218 22 = σ0.1 218 22 ∧ σ104.1 218 23 = σ0.1 218 23 ∧ σ104.1 218 24 = σ0.1 218 24 ∧ σ104.1 218 25 = σ0.1 218 25) from ⟨by first | exact ⟨hK, by (try simp only [g7_σ104, g9_σ104, g14_σ104, g15_σ104, g20_σ104, g22_σ104, g23_σ104, g24_σ104, g25_σ104]); omega, fun q => absurd q (by (try simp only [g7_σ104, g9_σ104, g14_σ104, g15_σ104, g20_σ104, g22_σ104, g23_σ104, g24_σ104, g25_σ104]); exact n94), fun _ q => m12 q.1, by first | decide | omega⟩ | exact ⟨hK, by (try simp only [g7_σ104, g9_σ104, g14_σ104, g15_σ104, g20_σ104, g22_σ104, g23_σ104, g24_σ104, g25_σ104]); omega, fun q => absurd q (by (try simp only [g7_σ104, g9_σ104, g14_σ104, g15_σ104, g20_σ104, g22_σ104, g23_σ104, g24_σ104, g25_σ104]); exact n94), fun _ q => l37 q.2.1, by first | decide | omega⟩ | exact ⟨hK, by (try simp only [g7_σ104, g9_σ104, g14_σ104, g15_σ104, g20_σ104, g22_σ104, g23_σ104, g24_σ104, g25_σ104]); omega, fun q => absurd q (by (try simp only [g7_σ104, g9_σ104, g14_σ104, g15_σ104, g20_σ104, g22_σ104, g23_σ104, g24_σ104, g25_σ104]); exact n94), fun _ q => l58 (by rw [ev48]; exact q.2.2), by first | decide | omega⟩ | exact ⟨hK, by (try simp only [g7_σ104, g9_σ104, g14_σ104, g15_σ104, g20_σ104, g22_σ104, g23_σ104, g24_σ104, g25_σ104]); omega, fun _ => ⟨⟨⟨k12, l37, by rw [← ev48]; exact l58⟩, r81⟩, g98⟩, fun q => absurd (by (try simp only [g7_σ104, g9_σ104, g14_σ104, g15_σ104, g20_σ104, g22_σ104, g23_σ104, g24_σ104, g25_σ104]); exact y94) q, by first | decide | omega⟩ | exact absurd y94 n70 | exact absurd y94 n63 | exact absurd y94 n24 | exact absurd y94 n17 | exact absurd y94 n4 | exact absurd y70 n94 | exact absurd hg n4 | exact absurd hg n24 | exact absurd hg n70 | exact absurd hg n94 | exact absurd y24 n94 | exact absurd y24 n70, g7_σ104, g9_σ104, g20_σ104, g22_σ104, g23_σ104, g24_σ104, g25_σ104⟩)⟩
      · have qhc88 := hqv86.2 hc88
        have y24 := qhc88
        have s24 : ((σ0.1 218 10) - (σ0.1 218 11)).toInt = (σ0.1 218 10).toInt - (σ0.1 218 11).toInt := by rw [ti_sub]; omega
        refine ok_gI rfl ?_
        refine ok_gI rfl ?_
        refine ok_if (fun hc107 => ?_) (fun hc107 => ?_)
        · have l37 : ¬ tkE tx n i = tkF tx n i + 1 := by first | (have q9 := hc107; rw [Int32.lt_iff_toInt_lt, s24] at q9; simp only [Int32.reduceToInt] at q9; omega) | exact absurd y24 n4 | exact absurd y24 n17
          refine ok_gC rfl ?_
          refine ok_zbT (Q := fun V σ => (TOK σ.1 ∧ ¬ σ.1 218 14 = 0) ∧ (σ.1 218 7 = σ0.1 218 7 ∧ σ.1 218 9 = σ0.1 218 9 ∧ σ.1 218 10 = σ0.1 218 10 ∧ σ.1 218 11 = σ0.1 218 11 ∧ σ.1 218 12 = σ0.1 218 12 ∧ σ.1 218 13 = σ0.1 218 13 ∧ σ.1 218 20 = σ0.1 218 20 ∧ σ.1 218 22 = σ0.1 218 22 ∧ σ.1 218 23 = σ0.1 218 23 ∧ σ.1 218 24 = σ0.1 218 24 ∧ σ.1 218 25 = σ0.1 218 25)) hT (s_X12_errs hN (hR.tr hT) (hK) (by rw [hT.2 224 (by decide)]; exact hY) (by decide)) (by decide) (fun v108 σ109 hOσ109 hT hqv108 => ?_)
          have hqv108 : (TOK σ109.1 ∧ ¬ σ109.1 218 14 = 0) ∧ (σ109.1 218 7 = σ0.1 218 7 ∧ σ109.1 218 9 = σ0.1 218 9 ∧ σ109.1 218 10 = σ0.1 218 10 ∧ σ109.1 218 11 = σ0.1 218 11 ∧ σ109.1 218 12 = σ0.1 218 12 ∧ σ109.1 218 13 = σ0.1 218 13 ∧ σ109.1 218 20 = σ0.1 218 20 ∧ σ109.1 218 22 = σ0.1 218 22 ∧ σ109.1 218 23 = σ0.1 218 23 ∧ σ109.1 218 24 = σ0.1 218 24 ∧ σ109.1 218 25 = σ0.1 218 25) := hqv108
          have hkv108 := hqv108
          have hqv108 := hqv108.1
          have hK : TOK σ109.1 := by first | exact hqv108.1 | exact hqv108.1.1 | exact TOK_p eσ109 (by decide) hK
          have g7_σ109 : σ109.1 218 7 = (σ0.1 218 7) := hkv108.2.1
          have g9_σ109 : σ109.1 218 9 = (σ0.1 218 9) := hkv108.2.2.1
          have g10_σ109 : σ109.1 218 10 = (σ0.1 218 10) := hkv108.2.2.2.1
          have g11_σ109 : σ109.1 218 11 = (σ0.1 218 11) := hkv108.2.2.2.2.1
          have g12_σ109 : σ109.1 218 12 = (σ0.1 218 12) := hkv108.2.2.2.2.2.1
          have g13_σ109 : σ109.1 218 13 = (σ0.1 218 13) := hkv108.2.2.2.2.2.2.1
          have g20_σ109 : σ109.1 218 20 = (σ0.1 218 20) := hkv108.2.2.2.2.2.2.2.1
          have g22_σ109 : σ109.1 218 22 = (σ0.1 218 22) := hkv108.2.2.2.2.2.2.2.2.1
          have g23_σ109 : σ109.1 218 23 = (σ0.1 218 23) := hkv108.2.2.2.2.2.2.2.2.2.1
          have g24_σ109 : σ109.1 218 24 = (σ0.1 218 24) := hkv108.2.2.2.2.2.2.2.2.2.2.1
          have g25_σ109 : σ109.1 218 25 = (σ0.1 218 25) := hkv108.2.2.2.2.2.2.2.2.2.2.2
          have n63 := hqv108.2
          rw [J_X12_readsName_66.eq_1]
          refine ok_gC rfl ?_
          refine ok_zbX (Q := fun V => (V = 0 → ¬ σ109.1 218 14 = 0) ∧ (¬ V = 0 → σ109.1 218 14 = 0)) (x_X12_good) (fun v110 hqv110 => ?_)
          have hqv110 : (v110 = 0 → ¬ σ109.1 218 14 = 0) ∧ (¬ v110 = 0 → σ109.1 218 14 = 0) := hqv110
          try simp only [g7_σ109, g9_σ109, g10_σ109, g11_σ109, g12_σ109, g13_σ109, g20_σ109, g22_σ109, g23_σ109, g24_σ109, g25_σ109, hT.2 224 (by decide)] at hqv110
          refine ok_if (fun hc112 => ?_) (fun hc112 => ?_)
          · have qhc112 := hqv110.1 hc112
            have n70 := qhc112
            rw [J_X12_readsName_89.eq_1]
            refine ok_gC rfl ?_
            refine ok_zbX (Q := fun V => (V = 0 → ¬ σ109.1 218 14 = 0) ∧ (¬ V = 0 → σ109.1 218 14 = 0)) (x_X12_good) (fun v113 hqv113 => ?_)
            have hqv113 : (v113 = 0 → ¬ σ109.1 218 14 = 0) ∧ (¬ v113 = 0 → σ109.1 218 14 = 0) := hqv113
            try simp only [g7_σ109, g9_σ109, g10_σ109, g11_σ109, g12_σ109, g13_σ109, g20_σ109, g22_σ109, g23_σ109, g24_σ109, g25_σ109, hT.2 224 (by decide)] at hqv113
            refine ok_if (fun hc115 => ?_) (fun hc115 => ?_)
            · have qhc115 := hqv113.1 hc115
              have n94 := qhc115
              exact ok_some ⟨hT, (show (TOK σ109.1 ∧ (σ0.1 218 11).toInt ≤ (σ109.1 218 11).toInt ∧ (σ109.1 218 14 = 0 → (nmOK tx n i (σ0.1 231 0) ∧ (0 : Int32).toInt = (tx (tkF tx n i)).toInt - 97) ∧ RX σ109.1 tx n (tkE tx n i)) ∧ (¬ σ109.1 218 14 = 0 → ¬ nmOK tx n i (σ0.1 231 0)) ∧ 0 ≤ (0 : Int32).toInt ∧ (0 : Int32).toInt ≤ 9) ∧ (σ109.1 218 7 = σ0.1 218 7 ∧ σ109.1 218 9 = σ0.1 218 9 ∧ σ109.1 218 20 = σ0.1 218 20 ∧ σ109.1 218 22 = σ0.1 218 22 ∧ σ109.1 218 23 = σ0.1 218 23 ∧ σ109.1 218 24 = σ0.1 218 24 ∧ σ109.1 218 25 = σ0.1 218 25) from ⟨by first | exact ⟨hK, by (try simp only [g7_σ109, g9_σ109, g10_σ109, g11_σ109, g12_σ109, g13_σ109, g20_σ109, g22_σ109, g23_σ109, g24_σ109, g25_σ109]); omega, fun q => absurd q (by (try simp only [g7_σ109, g9_σ109, g10_σ109, g11_σ109, g12_σ109, g13_σ109, g20_σ109, g22_σ109, g23_σ109, g24_σ109, g25_σ109]); exact n94), fun _ q => m12 q.1, by first | decide | omega⟩ | exact ⟨hK, by (try simp only [g7_σ109, g9_σ109, g10_σ109, g11_σ109, g12_σ109, g13_σ109, g20_σ109, g22_σ109, g23_σ109, g24_σ109, g25_σ109]); omega, fun q => absurd q (by (try simp only [g7_σ109, g9_σ109, g10_σ109, g11_σ109, g12_σ109, g13_σ109, g20_σ109, g22_σ109, g23_σ109, g24_σ109, g25_σ109]); exact n94), fun _ q => l37 q.2.1, by first | decide | omega⟩ | exact ⟨hK, by (try simp only [g7_σ109, g9_σ109, g10_σ109, g11_σ109, g12_σ109, g13_σ109, g20_σ109, g22_σ109, g23_σ109, g24_σ109, g25_σ109]); omega, fun q => absurd q (by (try simp only [g7_σ109, g9_σ109, g10_σ109, g11_σ109, g12_σ109, g13_σ109, g20_σ109, g22_σ109, g23_σ109, g24_σ109, g25_σ109]); exact n94), fun _ q => l58 (by rw [ev48]; exact q.2.2), by first | decide | omega⟩ | exact ⟨hK, by (try simp only [g7_σ109, g9_σ109, g10_σ109, g11_σ109, g12_σ109, g13_σ109, g20_σ109, g22_σ109, g23_σ109, g24_σ109, g25_σ109]); omega, fun _ => ⟨⟨⟨k12, l37, by rw [← ev48]; exact l58⟩, r81⟩, g98⟩, fun q => absurd (by (try simp only [g7_σ109, g9_σ109, g10_σ109, g11_σ109, g12_σ109, g13_σ109, g20_σ109, g22_σ109, g23_σ109, g24_σ109, g25_σ109]); exact y94) q, by first | decide | omega⟩ | exact absurd y94 n70 | exact absurd y94 n63 | exact absurd y94 n24 | exact absurd y94 n17 | exact absurd y94 n4 | exact absurd y70 n94 | exact absurd hg n4 | exact absurd hg n24 | exact absurd hg n70 | exact absurd hg n94 | exact absurd y24 n94 | exact absurd y24 n70, g7_σ109, g9_σ109, g20_σ109, g22_σ109, g23_σ109, g24_σ109, g25_σ109⟩)⟩
            · have qhc115 := hqv113.2 hc115
              have y94 := qhc115
              refine ok_gC rfl ?_
              refine ok_zbT (Q := fun V σ => ((TOK σ.1 ∧ (σ109.1 218 10).toInt ≤ (σ.1 218 11).toInt) ∧ RX σ.1 tx n (tkE tx n i)) ∧ (σ.1 218 7 = σ109.1 218 7 ∧ σ.1 218 9 = σ109.1 218 9 ∧ σ.1 218 14 = σ109.1 218 14 ∧ σ.1 218 15 = σ109.1 218 15 ∧ σ.1 218 20 = σ109.1 218 20 ∧ σ.1 218 22 = σ109.1 218 22 ∧ σ.1 218 23 = σ109.1 218 23 ∧ σ.1 218 24 = σ109.1 218 24 ∧ σ.1 218 25 = σ109.1 218 25)) hT (s_X12_advance_r hN (hR.tr hT) (TOK_A hK) (by rw [hT.2 224 (by decide)]; exact hY) (RX_i g9_σ109 g10_σ109 g11_σ109 g12_σ109 g13_σ109 ((hT.2 224 (by decide)).trans tE) nE pK)) (by decide) (fun v116 σ117 hOσ117 hT hqv116 => ?_)
              have hqv116 : ((TOK σ117.1 ∧ (σ109.1 218 10).toInt ≤ (σ117.1 218 11).toInt) ∧ RX σ117.1 tx n (tkE tx n i)) ∧ (σ117.1 218 7 = σ109.1 218 7 ∧ σ117.1 218 9 = σ109.1 218 9 ∧ σ117.1 218 14 = σ109.1 218 14 ∧ σ117.1 218 15 = σ109.1 218 15 ∧ σ117.1 218 20 = σ109.1 218 20 ∧ σ117.1 218 22 = σ109.1 218 22 ∧ σ117.1 218 23 = σ109.1 218 23 ∧ σ117.1 218 24 = σ109.1 218 24 ∧ σ117.1 218 25 = σ109.1 218 25) := hqv116
              have hkv116 := hqv116
              have hqv116 := hqv116.1
              have hK : TOK σ117.1 := by first | exact hqv116.1 | exact hqv116.1.1 | exact TOK_p eσ117 (by decide) hK
              try simp only [g7_σ109, g9_σ109, g10_σ109, g11_σ109, g12_σ109, g13_σ109, g20_σ109, g22_σ109, g23_σ109, g24_σ109, g25_σ109] at hqv116
              have g7_σ117 : σ117.1 218 7 = (σ0.1 218 7) := (hkv116.2.1).trans g7_σ109
              have g9_σ117 : σ117.1 218 9 = (σ0.1 218 9) := (hkv116.2.2.1).trans g9_σ109
              have g14_σ117 : σ117.1 218 14 = (σ109.1 218 14) := hkv116.2.2.2.1
              have g15_σ117 : σ117.1 218 15 = (σ109.1 218 15) := hkv116.2.2.2.2.1
              have g20_σ117 : σ117.1 218 20 = (σ0.1 218 20) := (hkv116.2.2.2.2.2.1).trans g20_σ109
              have g22_σ117 : σ117.1 218 22 = (σ0.1 218 22) := (hkv116.2.2.2.2.2.2.1).trans g22_σ109
              have g23_σ117 : σ117.1 218 23 = (σ0.1 218 23) := (hkv116.2.2.2.2.2.2.2.1).trans g23_σ109
              have g24_σ117 : σ117.1 218 24 = (σ0.1 218 24) := (hkv116.2.2.2.2.2.2.2.2.1).trans g24_σ109
              have g25_σ117 : σ117.1 218 25 = (σ0.1 218 25) := (hkv116.2.2.2.2.2.2.2.2.2).trans g25_σ109
              have m98 := hqv116.1.2
              have g98 := hqv116.2
              exact ok_some ⟨hT, (show (TOK σ117.1 ∧ (σ0.1 218 11).toInt ≤ (σ117.1 218 11).toInt ∧ (σ117.1 218 14 = 0 → (nmOK tx n i (σ0.1 231 0) ∧ (0 : Int32).toInt = (tx (tkF tx n i)).toInt - 97) ∧ RX σ117.1 tx n (tkE tx n i)) ∧ (¬ σ117.1 218 14 = 0 → ¬ nmOK tx n i (σ0.1 231 0)) ∧ 0 ≤ (0 : Int32).toInt ∧ (0 : Int32).toInt ≤ 9) ∧ (σ117.1 218 7 = σ0.1 218 7 ∧ σ117.1 218 9 = σ0.1 218 9 ∧ σ117.1 218 20 = σ0.1 218 20 ∧ σ117.1 218 22 = σ0.1 218 22 ∧ σ117.1 218 23 = σ0.1 218 23 ∧ σ117.1 218 24 = σ0.1 218 24 ∧ σ117.1 218 25 = σ0.1 218 25) from ⟨by first | exact ⟨hK, by (try simp only [g7_σ117, g9_σ117, g14_σ117, g15_σ117, g20_σ117, g22_σ117, g23_σ117, g24_σ117, g25_σ117]); omega, fun q => absurd q (by (try simp only [g7_σ117, g9_σ117, g14_σ117, g15_σ117, g20_σ117, g22_σ117, g23_σ117, g24_σ117, g25_σ117]); exact n94), fun _ q => m12 q.1, by first | decide | omega⟩ | exact ⟨hK, by (try simp only [g7_σ117, g9_σ117, g14_σ117, g15_σ117, g20_σ117, g22_σ117, g23_σ117, g24_σ117, g25_σ117]); omega, fun q => absurd q (by (try simp only [g7_σ117, g9_σ117, g14_σ117, g15_σ117, g20_σ117, g22_σ117, g23_σ117, g24_σ117, g25_σ117]); exact n94), fun _ q => l37 q.2.1, by first | decide | omega⟩ | exact ⟨hK, by (try simp only [g7_σ117, g9_σ117, g14_σ117, g15_σ117, g20_σ117, g22_σ117, g23_σ117, g24_σ117, g25_σ117]); omega, fun q => absurd q (by (try simp only [g7_σ117, g9_σ117, g14_σ117, g15_σ117, g20_σ117, g22_σ117, g23_σ117, g24_σ117, g25_σ117]); exact n94), fun _ q => l58 (by rw [ev48]; exact q.2.2), by first | decide | omega⟩ | exact ⟨hK, by (try simp only [g7_σ117, g9_σ117, g14_σ117, g15_σ117, g20_σ117, g22_σ117, g23_σ117, g24_σ117, g25_σ117]); omega, fun _ => ⟨⟨⟨k12, l37, by rw [← ev48]; exact l58⟩, r81⟩, g98⟩, fun q => absurd (by (try simp only [g7_σ117, g9_σ117, g14_σ117, g15_σ117, g20_σ117, g22_σ117, g23_σ117, g24_σ117, g25_σ117]); exact y94) q, by first | decide | omega⟩ | exact absurd y94 n70 | exact absurd y94 n63 | exact absurd y94 n24 | exact absurd y94 n17 | exact absurd y94 n4 | exact absurd y70 n94 | exact absurd hg n4 | exact absurd hg n24 | exact absurd hg n70 | exact absurd hg n94 | exact absurd y24 n94 | exact absurd y24 n70, g7_σ117, g9_σ117, g20_σ117, g22_σ117, g23_σ117, g24_σ117, g25_σ117⟩)⟩
          · have qhc112 := hqv110.2 hc112
            have y70 := qhc112
            refine ok_gR (v := 224) hT rfl (hR 218 6 rfl) ?_
            refine ok_gIv rfl g11_σ109 ?_
            refine ok_aIn rfl (by ((try simp only [g7_σ109, g9_σ109, g10_σ109, g11_σ109, g12_σ109, g13_σ109, g20_σ109, g22_σ109, g23_σ109, g24_σ109, g25_σ109])); first | omega | decide | (simp only [Int32.le_iff_toInt_le, Int32.lt_iff_toInt_lt, ti_add, ti_sub, ti_mul, Int32.reduceToInt] at *; omega)) (by first | omega | exact absurd y70 n63 | exact absurd y70 n24 | exact absurd y70 n17 | exact absurd y70 n4) (fun v120 ev120 => ?_)
            have ev81 : v120 = tx (σ0.1 218 11).toInt.toNat := by first | (rw [ev120, hT.2 224 (by decide), tE]; rfl) | exact absurd y70 n63 | exact absurd y70 n24 | exact absurd y70 n17 | exact absurd y70 n4
            have t81 : 97 ≤ v120.toInt ∧ v120.toInt ≤ 122 := by first | (rw [ev81, ← tE]; exact w12 (σ0.1 218 11).toInt.toNat (by omega) (by omega)) | exact absurd y70 n63 | exact absurd y70 n24 | exact absurd y70 n17 | exact absurd y70 n4
            have s81 : (v120 - 97).toInt = v120.toInt - 97 := by rw [ti_sub]; simp only [Int32.reduceToInt]; omega
            rw [show (σ0.1 218 11).toInt.toNat = tkF tx n i by omega] at ev81
            have b81 : (v120 - 97).toInt ≤ 9 := by first | (rw [ev81.trans ev48.symm, s48]; have h0 := hF.1.1; omega) | exact absurd y70 n63 | exact absurd y70 n24 | exact absurd y70 n17 | exact absurd y70 n4
            have r81 : (v120 - 97).toInt = (tx (tkF tx n i)).toInt - 97 := by rw [s81, ev81]
            rw [J_X12_readsName_89.eq_1]
            refine ok_gC rfl ?_
            refine ok_zbX (Q := fun V => (V = 0 → ¬ σ109.1 218 14 = 0) ∧ (¬ V = 0 → σ109.1 218 14 = 0)) (x_X12_good) (fun v121 hqv121 => ?_)
            have hqv121 : (v121 = 0 → ¬ σ109.1 218 14 = 0) ∧ (¬ v121 = 0 → σ109.1 218 14 = 0) := hqv121
            try simp only [g7_σ109, g9_σ109, g10_σ109, g11_σ109, g12_σ109, g13_σ109, g20_σ109, g22_σ109, g23_σ109, g24_σ109, g25_σ109, hT.2 224 (by decide)] at hqv121
            refine ok_if (fun hc123 => ?_) (fun hc123 => ?_)
            · have qhc123 := hqv121.1 hc123
              have n94 := qhc123
              exact ok_some ⟨hT, (show (TOK σ109.1 ∧ (σ0.1 218 11).toInt ≤ (σ109.1 218 11).toInt ∧ (σ109.1 218 14 = 0 → (nmOK tx n i (σ0.1 231 0) ∧ (v120 - 97).toInt = (tx (tkF tx n i)).toInt - 97) ∧ RX σ109.1 tx n (tkE tx n i)) ∧ (¬ σ109.1 218 14 = 0 → ¬ nmOK tx n i (σ0.1 231 0)) ∧ 0 ≤ (v120 - 97).toInt ∧ (v120 - 97).toInt ≤ 9) ∧ (σ109.1 218 7 = σ0.1 218 7 ∧ σ109.1 218 9 = σ0.1 218 9 ∧ σ109.1 218 20 = σ0.1 218 20 ∧ σ109.1 218 22 = σ0.1 218 22 ∧ σ109.1 218 23 = σ0.1 218 23 ∧ σ109.1 218 24 = σ0.1 218 24 ∧ σ109.1 218 25 = σ0.1 218 25) from ⟨by first | exact ⟨hK, by (try simp only [g7_σ109, g9_σ109, g10_σ109, g11_σ109, g12_σ109, g13_σ109, g20_σ109, g22_σ109, g23_σ109, g24_σ109, g25_σ109]); omega, fun q => absurd q (by (try simp only [g7_σ109, g9_σ109, g10_σ109, g11_σ109, g12_σ109, g13_σ109, g20_σ109, g22_σ109, g23_σ109, g24_σ109, g25_σ109]); exact n94), fun _ q => m12 q.1, by first | decide | omega⟩ | exact ⟨hK, by (try simp only [g7_σ109, g9_σ109, g10_σ109, g11_σ109, g12_σ109, g13_σ109, g20_σ109, g22_σ109, g23_σ109, g24_σ109, g25_σ109]); omega, fun q => absurd q (by (try simp only [g7_σ109, g9_σ109, g10_σ109, g11_σ109, g12_σ109, g13_σ109, g20_σ109, g22_σ109, g23_σ109, g24_σ109, g25_σ109]); exact n94), fun _ q => l37 q.2.1, by first | decide | omega⟩ | exact ⟨hK, by (try simp only [g7_σ109, g9_σ109, g10_σ109, g11_σ109, g12_σ109, g13_σ109, g20_σ109, g22_σ109, g23_σ109, g24_σ109, g25_σ109]); omega, fun q => absurd q (by (try simp only [g7_σ109, g9_σ109, g10_σ109, g11_σ109, g12_σ109, g13_σ109, g20_σ109, g22_σ109, g23_σ109, g24_σ109, g25_σ109]); exact n94), fun _ q => l58 (by rw [ev48]; exact q.2.2), by first | decide | omega⟩ | exact ⟨hK, by (try simp only [g7_σ109, g9_σ109, g10_σ109, g11_σ109, g12_σ109, g13_σ109, g20_σ109, g22_σ109, g23_σ109, g24_σ109, g25_σ109]); omega, fun _ => ⟨⟨⟨k12, l37, by rw [← ev48]; exact l58⟩, r81⟩, g98⟩, fun q => absurd (by (try simp only [g7_σ109, g9_σ109, g10_σ109, g11_σ109, g12_σ109, g13_σ109, g20_σ109, g22_σ109, g23_σ109, g24_σ109, g25_σ109]); exact y94) q, by first | decide | omega⟩ | exact absurd y94 n70 | exact absurd y94 n63 | exact absurd y94 n24 | exact absurd y94 n17 | exact absurd y94 n4 | exact absurd y70 n94 | exact absurd hg n4 | exact absurd hg n24 | exact absurd hg n70 | exact absurd hg n94 | exact absurd y24 n94 | exact absurd y24 n70, g7_σ109, g9_σ109, g20_σ109, g22_σ109, g23_σ109, g24_σ109, g25_σ109⟩)⟩
            · have qhc123 := hqv121.2 hc123
              have y94 := qhc123
              refine ok_gC rfl ?_
              refine ok_zbT (Q := fun V σ => ((TOK σ.1 ∧ (σ109.1 218 10).toInt ≤ (σ.1 218 11).toInt) ∧ RX σ.1 tx n (tkE tx n i)) ∧ (σ.1 218 7 = σ109.1 218 7 ∧ σ.1 218 9 = σ109.1 218 9 ∧ σ.1 218 14 = σ109.1 218 14 ∧ σ.1 218 15 = σ109.1 218 15 ∧ σ.1 218 20 = σ109.1 218 20 ∧ σ.1 218 22 = σ109.1 218 22 ∧ σ.1 218 23 = σ109.1 218 23 ∧ σ.1 218 24 = σ109.1 218 24 ∧ σ.1 218 25 = σ109.1 218 25)) hT (s_X12_advance_r hN (hR.tr hT) (TOK_A hK) (by rw [hT.2 224 (by decide)]; exact hY) (RX_i g9_σ109 g10_σ109 g11_σ109 g12_σ109 g13_σ109 ((hT.2 224 (by decide)).trans tE) nE pK)) (by decide) (fun v124 σ125 hOσ125 hT hqv124 => ?_)
              have hqv124 : ((TOK σ125.1 ∧ (σ109.1 218 10).toInt ≤ (σ125.1 218 11).toInt) ∧ RX σ125.1 tx n (tkE tx n i)) ∧ (σ125.1 218 7 = σ109.1 218 7 ∧ σ125.1 218 9 = σ109.1 218 9 ∧ σ125.1 218 14 = σ109.1 218 14 ∧ σ125.1 218 15 = σ109.1 218 15 ∧ σ125.1 218 20 = σ109.1 218 20 ∧ σ125.1 218 22 = σ109.1 218 22 ∧ σ125.1 218 23 = σ109.1 218 23 ∧ σ125.1 218 24 = σ109.1 218 24 ∧ σ125.1 218 25 = σ109.1 218 25) := hqv124
              have hkv124 := hqv124
              have hqv124 := hqv124.1
              have hK : TOK σ125.1 := by first | exact hqv124.1 | exact hqv124.1.1 | exact TOK_p eσ125 (by decide) hK
              try simp only [g7_σ109, g9_σ109, g10_σ109, g11_σ109, g12_σ109, g13_σ109, g20_σ109, g22_σ109, g23_σ109, g24_σ109, g25_σ109] at hqv124
              have g7_σ125 : σ125.1 218 7 = (σ0.1 218 7) := (hkv124.2.1).trans g7_σ109
              have g9_σ125 : σ125.1 218 9 = (σ0.1 218 9) := (hkv124.2.2.1).trans g9_σ109
              have g14_σ125 : σ125.1 218 14 = (σ109.1 218 14) := hkv124.2.2.2.1
              have g15_σ125 : σ125.1 218 15 = (σ109.1 218 15) := hkv124.2.2.2.2.1
              have g20_σ125 : σ125.1 218 20 = (σ0.1 218 20) := (hkv124.2.2.2.2.2.1).trans g20_σ109
              have g22_σ125 : σ125.1 218 22 = (σ0.1 218 22) := (hkv124.2.2.2.2.2.2.1).trans g22_σ109
              have g23_σ125 : σ125.1 218 23 = (σ0.1 218 23) := (hkv124.2.2.2.2.2.2.2.1).trans g23_σ109
              have g24_σ125 : σ125.1 218 24 = (σ0.1 218 24) := (hkv124.2.2.2.2.2.2.2.2.1).trans g24_σ109
              have g25_σ125 : σ125.1 218 25 = (σ0.1 218 25) := (hkv124.2.2.2.2.2.2.2.2.2).trans g25_σ109
              have m98 := hqv124.1.2
              have g98 := hqv124.2
              exact ok_some ⟨hT, (show (TOK σ125.1 ∧ (σ0.1 218 11).toInt ≤ (σ125.1 218 11).toInt ∧ (σ125.1 218 14 = 0 → (nmOK tx n i (σ0.1 231 0) ∧ (v120 - 97).toInt = (tx (tkF tx n i)).toInt - 97) ∧ RX σ125.1 tx n (tkE tx n i)) ∧ (¬ σ125.1 218 14 = 0 → ¬ nmOK tx n i (σ0.1 231 0)) ∧ 0 ≤ (v120 - 97).toInt ∧ (v120 - 97).toInt ≤ 9) ∧ (σ125.1 218 7 = σ0.1 218 7 ∧ σ125.1 218 9 = σ0.1 218 9 ∧ σ125.1 218 20 = σ0.1 218 20 ∧ σ125.1 218 22 = σ0.1 218 22 ∧ σ125.1 218 23 = σ0.1 218 23 ∧ σ125.1 218 24 = σ0.1 218 24 ∧ σ125.1 218 25 = σ0.1 218 25) from ⟨by first | exact ⟨hK, by (try simp only [g7_σ125, g9_σ125, g14_σ125, g15_σ125, g20_σ125, g22_σ125, g23_σ125, g24_σ125, g25_σ125]); omega, fun q => absurd q (by (try simp only [g7_σ125, g9_σ125, g14_σ125, g15_σ125, g20_σ125, g22_σ125, g23_σ125, g24_σ125, g25_σ125]); exact n94), fun _ q => m12 q.1, by first | decide | omega⟩ | exact ⟨hK, by (try simp only [g7_σ125, g9_σ125, g14_σ125, g15_σ125, g20_σ125, g22_σ125, g23_σ125, g24_σ125, g25_σ125]); omega, fun q => absurd q (by (try simp only [g7_σ125, g9_σ125, g14_σ125, g15_σ125, g20_σ125, g22_σ125, g23_σ125, g24_σ125, g25_σ125]); exact n94), fun _ q => l37 q.2.1, by first | decide | omega⟩ | exact ⟨hK, by (try simp only [g7_σ125, g9_σ125, g14_σ125, g15_σ125, g20_σ125, g22_σ125, g23_σ125, g24_σ125, g25_σ125]); omega, fun q => absurd q (by (try simp only [g7_σ125, g9_σ125, g14_σ125, g15_σ125, g20_σ125, g22_σ125, g23_σ125, g24_σ125, g25_σ125]); exact n94), fun _ q => l58 (by rw [ev48]; exact q.2.2), by first | decide | omega⟩ | exact ⟨hK, by (try simp only [g7_σ125, g9_σ125, g14_σ125, g15_σ125, g20_σ125, g22_σ125, g23_σ125, g24_σ125, g25_σ125]); omega, fun _ => ⟨⟨⟨k12, l37, by rw [← ev48]; exact l58⟩, r81⟩, g98⟩, fun q => absurd (by (try simp only [g7_σ125, g9_σ125, g14_σ125, g15_σ125, g20_σ125, g22_σ125, g23_σ125, g24_σ125, g25_σ125]); exact y94) q, by first | decide | omega⟩ | exact absurd y94 n70 | exact absurd y94 n63 | exact absurd y94 n24 | exact absurd y94 n17 | exact absurd y94 n4 | exact absurd y70 n94 | exact absurd hg n4 | exact absurd hg n24 | exact absurd hg n70 | exact absurd hg n94 | exact absurd y24 n94 | exact absurd y24 n70, g7_σ125, g9_σ125, g20_σ125, g22_σ125, g23_σ125, g24_σ125, g25_σ125⟩)⟩
        · have l37 : tkE tx n i = tkF tx n i + 1 := by first | (have q9 := hc107; rw [Int32.lt_iff_toInt_lt, s24] at q9; simp only [Int32.reduceToInt] at q9; omega) | exact absurd y24 n4 | exact absurd y24 n17
          refine ok_gR (v := 224) hT rfl (hR 218 6 rfl) ?_
          refine ok_gI rfl ?_
          refine ok_aIn rfl (by (skip); first | omega | decide | (simp only [Int32.le_iff_toInt_le, Int32.lt_iff_toInt_lt, ti_add, ti_sub, ti_mul, Int32.reduceToInt] at *; omega)) (by first | omega | exact absurd y24 n4 | exact absurd y24 n17) (fun v128 ev128 => ?_)
          have ev48 : v128 = tx (σ0.1 218 11).toInt.toNat := by first | (rw [ev128, hT.2 224 (by decide), tE]; rfl) | exact absurd y24 n4 | exact absurd y24 n17
          have t48 : 97 ≤ v128.toInt ∧ v128.toInt ≤ 122 := by first | (rw [ev48, ← tE]; exact w12 (σ0.1 218 11).toInt.toNat (by omega) (by omega)) | exact absurd y24 n4 | exact absurd y24 n17
          have s48 : (v128 - 97).toInt = v128.toInt - 97 := by rw [ti_sub]; simp only [Int32.reduceToInt]; omega
          rw [show (σ0.1 218 11).toInt.toNat = tkF tx n i by omega] at ev48
          refine ok_gR (v := 231) hT rfl (hR 218 26 rfl) ?_
          refine ok_aIc (j := 0) hT rfl (by decide) rfl (by decide) (by decide) ?_
          refine ok_if (fun hc131 => ?_) (fun hc131 => ?_)
          · have l58 := hc131
            rw [Int32.lt_iff_toInt_lt, s48] at l58
            rw [J_X12_readsName_66.eq_1]
            refine ok_gC rfl ?_
            refine ok_zbX (Q := fun V => (V = 0 → ¬ σ0.1 218 14 = 0) ∧ (¬ V = 0 → σ0.1 218 14 = 0)) (x_X12_good) (fun v132 hqv132 => ?_)
            have hqv132 : (v132 = 0 → ¬ σ0.1 218 14 = 0) ∧ (¬ v132 = 0 → σ0.1 218 14 = 0) := hqv132
            refine ok_if (fun hc134 => ?_) (fun hc134 => ?_)
            · have qhc134 := hqv132.1 hc134
              have n70 := qhc134
              rw [J_X12_readsName_89.eq_1]
              refine ok_gC rfl ?_
              refine ok_zbX (Q := fun V => (V = 0 → ¬ σ0.1 218 14 = 0) ∧ (¬ V = 0 → σ0.1 218 14 = 0)) (x_X12_good) (fun v135 hqv135 => ?_)
              have hqv135 : (v135 = 0 → ¬ σ0.1 218 14 = 0) ∧ (¬ v135 = 0 → σ0.1 218 14 = 0) := hqv135
              refine ok_if (fun hc137 => ?_) (fun hc137 => ?_)
              · have qhc137 := hqv135.1 hc137
                have n94 := qhc137
                exact ok_some ⟨hT, (show (TOK σ0.1 ∧ (σ0.1 218 11).toInt ≤ (σ0.1 218 11).toInt ∧ (σ0.1 218 14 = 0 → (nmOK tx n i (σ0.1 231 0) ∧ (0 : Int32).toInt = (tx (tkF tx n i)).toInt - 97) ∧ RX σ0.1 tx n (tkE tx n i)) ∧ (¬ σ0.1 218 14 = 0 → ¬ nmOK tx n i (σ0.1 231 0)) ∧ 0 ≤ (0 : Int32).toInt ∧ (0 : Int32).toInt ≤ 9) ∧ (σ0.1 218 7 = σ0.1 218 7 ∧ σ0.1 218 9 = σ0.1 218 9 ∧ σ0.1 218 20 = σ0.1 218 20 ∧ σ0.1 218 22 = σ0.1 218 22 ∧ σ0.1 218 23 = σ0.1 218 23 ∧ σ0.1 218 24 = σ0.1 218 24 ∧ σ0.1 218 25 = σ0.1 218 25) from ⟨by first | exact ⟨hK, by skip; omega, fun q => absurd q (by skip; exact n94), fun _ q => m12 q.1, by first | decide | omega⟩ | exact ⟨hK, by skip; omega, fun q => absurd q (by skip; exact n94), fun _ q => l37 q.2.1, by first | decide | omega⟩ | exact ⟨hK, by skip; omega, fun q => absurd q (by skip; exact n94), fun _ q => l58 (by rw [ev48]; exact q.2.2), by first | decide | omega⟩ | exact ⟨hK, by skip; omega, fun _ => ⟨⟨⟨k12, l37, by rw [← ev48]; exact l58⟩, r81⟩, g98⟩, fun q => absurd (by skip; exact y94) q, by first | decide | omega⟩ | exact absurd y94 n70 | exact absurd y94 n63 | exact absurd y94 n24 | exact absurd y94 n17 | exact absurd y94 n4 | exact absurd y70 n94 | exact absurd hg n4 | exact absurd hg n24 | exact absurd hg n70 | exact absurd hg n94 | exact absurd y24 n94 | exact absurd y24 n70, rfl, rfl, rfl, rfl, rfl, rfl, rfl⟩)⟩
              · have qhc137 := hqv135.2 hc137
                have y94 := qhc137
                refine ok_gC rfl ?_
                refine ok_zbT (Q := fun V σ => ((TOK σ.1 ∧ (σ0.1 218 10).toInt ≤ (σ.1 218 11).toInt) ∧ RX σ.1 tx n (tkE tx n i)) ∧ (σ.1 218 7 = σ0.1 218 7 ∧ σ.1 218 9 = σ0.1 218 9 ∧ σ.1 218 14 = σ0.1 218 14 ∧ σ.1 218 15 = σ0.1 218 15 ∧ σ.1 218 20 = σ0.1 218 20 ∧ σ.1 218 22 = σ0.1 218 22 ∧ σ.1 218 23 = σ0.1 218 23 ∧ σ.1 218 24 = σ0.1 218 24 ∧ σ.1 218 25 = σ0.1 218 25)) hT (s_X12_advance_r hN (hR.tr hT) (TOK_A hK) (by rw [hT.2 224 (by decide)]; exact hY) (RX_i rfl rfl rfl rfl rfl ((hT.2 224 (by decide)).trans tE) nE pK)) (by decide) (fun v138 σ139 hOσ139 hT hqv138 => ?_)
                have hqv138 : ((TOK σ139.1 ∧ (σ0.1 218 10).toInt ≤ (σ139.1 218 11).toInt) ∧ RX σ139.1 tx n (tkE tx n i)) ∧ (σ139.1 218 7 = σ0.1 218 7 ∧ σ139.1 218 9 = σ0.1 218 9 ∧ σ139.1 218 14 = σ0.1 218 14 ∧ σ139.1 218 15 = σ0.1 218 15 ∧ σ139.1 218 20 = σ0.1 218 20 ∧ σ139.1 218 22 = σ0.1 218 22 ∧ σ139.1 218 23 = σ0.1 218 23 ∧ σ139.1 218 24 = σ0.1 218 24 ∧ σ139.1 218 25 = σ0.1 218 25) := hqv138
                have hkv138 := hqv138
                have hqv138 := hqv138.1
                have hK : TOK σ139.1 := by first | exact hqv138.1 | exact hqv138.1.1 | exact TOK_p eσ139 (by decide) hK
                have g7_σ139 : σ139.1 218 7 = (σ0.1 218 7) := hkv138.2.1
                have g9_σ139 : σ139.1 218 9 = (σ0.1 218 9) := hkv138.2.2.1
                have g14_σ139 : σ139.1 218 14 = (σ0.1 218 14) := hkv138.2.2.2.1
                have g15_σ139 : σ139.1 218 15 = (σ0.1 218 15) := hkv138.2.2.2.2.1
                have g20_σ139 : σ139.1 218 20 = (σ0.1 218 20) := hkv138.2.2.2.2.2.1
                have g22_σ139 : σ139.1 218 22 = (σ0.1 218 22) := hkv138.2.2.2.2.2.2.1
                have g23_σ139 : σ139.1 218 23 = (σ0.1 218 23) := hkv138.2.2.2.2.2.2.2.1
                have g24_σ139 : σ139.1 218 24 = (σ0.1 218 24) := hkv138.2.2.2.2.2.2.2.2.1
                have g25_σ139 : σ139.1 218 25 = (σ0.1 218 25) := hkv138.2.2.2.2.2.2.2.2.2
                have m98 := hqv138.1.2
                have g98 := hqv138.2
                exact ok_some ⟨hT, (show (TOK σ139.1 ∧ (σ0.1 218 11).toInt ≤ (σ139.1 218 11).toInt ∧ (σ139.1 218 14 = 0 → (nmOK tx n i (σ0.1 231 0) ∧ (0 : Int32).toInt = (tx (tkF tx n i)).toInt - 97) ∧ RX σ139.1 tx n (tkE tx n i)) ∧ (¬ σ139.1 218 14 = 0 → ¬ nmOK tx n i (σ0.1 231 0)) ∧ 0 ≤ (0 : Int32).toInt ∧ (0 : Int32).toInt ≤ 9) ∧ (σ139.1 218 7 = σ0.1 218 7 ∧ σ139.1 218 9 = σ0.1 218 9 ∧ σ139.1 218 20 = σ0.1 218 20 ∧ σ139.1 218 22 = σ0.1 218 22 ∧ σ139.1 218 23 = σ0.1 218 23 ∧ σ139.1 218 24 = σ0.1 218 24 ∧ σ139.1 218 25 = σ0.1 218 25) from ⟨by first | exact ⟨hK, by (try simp only [g7_σ139, g9_σ139, g14_σ139, g15_σ139, g20_σ139, g22_σ139, g23_σ139, g24_σ139, g25_σ139]); omega, fun q => absurd q (by (try simp only [g7_σ139, g9_σ139, g14_σ139, g15_σ139, g20_σ139, g22_σ139, g23_σ139, g24_σ139, g25_σ139]); exact n94), fun _ q => m12 q.1, by first | decide | omega⟩ | exact ⟨hK, by (try simp only [g7_σ139, g9_σ139, g14_σ139, g15_σ139, g20_σ139, g22_σ139, g23_σ139, g24_σ139, g25_σ139]); omega, fun q => absurd q (by (try simp only [g7_σ139, g9_σ139, g14_σ139, g15_σ139, g20_σ139, g22_σ139, g23_σ139, g24_σ139, g25_σ139]); exact n94), fun _ q => l37 q.2.1, by first | decide | omega⟩ | exact ⟨hK, by (try simp only [g7_σ139, g9_σ139, g14_σ139, g15_σ139, g20_σ139, g22_σ139, g23_σ139, g24_σ139, g25_σ139]); omega, fun q => absurd q (by (try simp only [g7_σ139, g9_σ139, g14_σ139, g15_σ139, g20_σ139, g22_σ139, g23_σ139, g24_σ139, g25_σ139]); exact n94), fun _ q => l58 (by rw [ev48]; exact q.2.2), by first | decide | omega⟩ | exact ⟨hK, by (try simp only [g7_σ139, g9_σ139, g14_σ139, g15_σ139, g20_σ139, g22_σ139, g23_σ139, g24_σ139, g25_σ139]); omega, fun _ => ⟨⟨⟨k12, l37, by rw [← ev48]; exact l58⟩, r81⟩, g98⟩, fun q => absurd (by (try simp only [g7_σ139, g9_σ139, g14_σ139, g15_σ139, g20_σ139, g22_σ139, g23_σ139, g24_σ139, g25_σ139]); exact y94) q, by first | decide | omega⟩ | exact absurd y94 n70 | exact absurd y94 n63 | exact absurd y94 n24 | exact absurd y94 n17 | exact absurd y94 n4 | exact absurd y70 n94 | exact absurd hg n4 | exact absurd hg n24 | exact absurd hg n70 | exact absurd hg n94 | exact absurd y24 n94 | exact absurd y24 n70, g7_σ139, g9_σ139, g20_σ139, g22_σ139, g23_σ139, g24_σ139, g25_σ139⟩)⟩
            · have qhc134 := hqv132.2 hc134
              have y70 := qhc134
              refine ok_gR (v := 224) hT rfl (hR 218 6 rfl) ?_
              refine ok_gI rfl ?_
              refine ok_aIn rfl (by (skip); first | omega | decide | (simp only [Int32.le_iff_toInt_le, Int32.lt_iff_toInt_lt, ti_add, ti_sub, ti_mul, Int32.reduceToInt] at *; omega)) (by first | omega | exact absurd y70 n63 | exact absurd y70 n24 | exact absurd y70 n17 | exact absurd y70 n4) (fun v142 ev142 => ?_)
              have ev81 : v142 = tx (σ0.1 218 11).toInt.toNat := by first | (rw [ev142, hT.2 224 (by decide), tE]; rfl) | exact absurd y70 n63 | exact absurd y70 n24 | exact absurd y70 n17 | exact absurd y70 n4
              have t81 : 97 ≤ v142.toInt ∧ v142.toInt ≤ 122 := by first | (rw [ev81, ← tE]; exact w12 (σ0.1 218 11).toInt.toNat (by omega) (by omega)) | exact absurd y70 n63 | exact absurd y70 n24 | exact absurd y70 n17 | exact absurd y70 n4
              have s81 : (v142 - 97).toInt = v142.toInt - 97 := by rw [ti_sub]; simp only [Int32.reduceToInt]; omega
              rw [show (σ0.1 218 11).toInt.toNat = tkF tx n i by omega] at ev81
              have b81 : (v142 - 97).toInt ≤ 9 := by first | (rw [ev81.trans ev48.symm, s48]; have h0 := hF.1.1; omega) | exact absurd y70 n63 | exact absurd y70 n24 | exact absurd y70 n17 | exact absurd y70 n4
              have r81 : (v142 - 97).toInt = (tx (tkF tx n i)).toInt - 97 := by rw [s81, ev81]
              rw [J_X12_readsName_89.eq_1]
              refine ok_gC rfl ?_
              refine ok_zbX (Q := fun V => (V = 0 → ¬ σ0.1 218 14 = 0) ∧ (¬ V = 0 → σ0.1 218 14 = 0)) (x_X12_good) (fun v143 hqv143 => ?_)
              have hqv143 : (v143 = 0 → ¬ σ0.1 218 14 = 0) ∧ (¬ v143 = 0 → σ0.1 218 14 = 0) := hqv143
              refine ok_if (fun hc145 => ?_) (fun hc145 => ?_)
              · have qhc145 := hqv143.1 hc145
                have n94 := qhc145
                exact ok_some ⟨hT, (show (TOK σ0.1 ∧ (σ0.1 218 11).toInt ≤ (σ0.1 218 11).toInt ∧ (σ0.1 218 14 = 0 → (nmOK tx n i (σ0.1 231 0) ∧ (v142 - 97).toInt = (tx (tkF tx n i)).toInt - 97) ∧ RX σ0.1 tx n (tkE tx n i)) ∧ (¬ σ0.1 218 14 = 0 → ¬ nmOK tx n i (σ0.1 231 0)) ∧ 0 ≤ (v142 - 97).toInt ∧ (v142 - 97).toInt ≤ 9) ∧ (σ0.1 218 7 = σ0.1 218 7 ∧ σ0.1 218 9 = σ0.1 218 9 ∧ σ0.1 218 20 = σ0.1 218 20 ∧ σ0.1 218 22 = σ0.1 218 22 ∧ σ0.1 218 23 = σ0.1 218 23 ∧ σ0.1 218 24 = σ0.1 218 24 ∧ σ0.1 218 25 = σ0.1 218 25) from ⟨by first | exact ⟨hK, by skip; omega, fun q => absurd q (by skip; exact n94), fun _ q => m12 q.1, by first | decide | omega⟩ | exact ⟨hK, by skip; omega, fun q => absurd q (by skip; exact n94), fun _ q => l37 q.2.1, by first | decide | omega⟩ | exact ⟨hK, by skip; omega, fun q => absurd q (by skip; exact n94), fun _ q => l58 (by rw [ev48]; exact q.2.2), by first | decide | omega⟩ | exact ⟨hK, by skip; omega, fun _ => ⟨⟨⟨k12, l37, by rw [← ev48]; exact l58⟩, r81⟩, g98⟩, fun q => absurd (by skip; exact y94) q, by first | decide | omega⟩ | exact absurd y94 n70 | exact absurd y94 n63 | exact absurd y94 n24 | exact absurd y94 n17 | exact absurd y94 n4 | exact absurd y70 n94 | exact absurd hg n4 | exact absurd hg n24 | exact absurd hg n70 | exact absurd hg n94 | exact absurd y24 n94 | exact absurd y24 n70, rfl, rfl, rfl, rfl, rfl, rfl, rfl⟩)⟩
              · have qhc145 := hqv143.2 hc145
                have y94 := qhc145
                refine ok_gC rfl ?_
                refine ok_zbT (Q := fun V σ => ((TOK σ.1 ∧ (σ0.1 218 10).toInt ≤ (σ.1 218 11).toInt) ∧ RX σ.1 tx n (tkE tx n i)) ∧ (σ.1 218 7 = σ0.1 218 7 ∧ σ.1 218 9 = σ0.1 218 9 ∧ σ.1 218 14 = σ0.1 218 14 ∧ σ.1 218 15 = σ0.1 218 15 ∧ σ.1 218 20 = σ0.1 218 20 ∧ σ.1 218 22 = σ0.1 218 22 ∧ σ.1 218 23 = σ0.1 218 23 ∧ σ.1 218 24 = σ0.1 218 24 ∧ σ.1 218 25 = σ0.1 218 25)) hT (s_X12_advance_r hN (hR.tr hT) (TOK_A hK) (by rw [hT.2 224 (by decide)]; exact hY) (RX_i rfl rfl rfl rfl rfl ((hT.2 224 (by decide)).trans tE) nE pK)) (by decide) (fun v146 σ147 hOσ147 hT hqv146 => ?_)
                have hqv146 : ((TOK σ147.1 ∧ (σ0.1 218 10).toInt ≤ (σ147.1 218 11).toInt) ∧ RX σ147.1 tx n (tkE tx n i)) ∧ (σ147.1 218 7 = σ0.1 218 7 ∧ σ147.1 218 9 = σ0.1 218 9 ∧ σ147.1 218 14 = σ0.1 218 14 ∧ σ147.1 218 15 = σ0.1 218 15 ∧ σ147.1 218 20 = σ0.1 218 20 ∧ σ147.1 218 22 = σ0.1 218 22 ∧ σ147.1 218 23 = σ0.1 218 23 ∧ σ147.1 218 24 = σ0.1 218 24 ∧ σ147.1 218 25 = σ0.1 218 25) := hqv146
                have hkv146 := hqv146
                have hqv146 := hqv146.1
                have hK : TOK σ147.1 := by first | exact hqv146.1 | exact hqv146.1.1 | exact TOK_p eσ147 (by decide) hK
                have g7_σ147 : σ147.1 218 7 = (σ0.1 218 7) := hkv146.2.1
                have g9_σ147 : σ147.1 218 9 = (σ0.1 218 9) := hkv146.2.2.1
                have g14_σ147 : σ147.1 218 14 = (σ0.1 218 14) := hkv146.2.2.2.1
                have g15_σ147 : σ147.1 218 15 = (σ0.1 218 15) := hkv146.2.2.2.2.1
                have g20_σ147 : σ147.1 218 20 = (σ0.1 218 20) := hkv146.2.2.2.2.2.1
                have g22_σ147 : σ147.1 218 22 = (σ0.1 218 22) := hkv146.2.2.2.2.2.2.1
                have g23_σ147 : σ147.1 218 23 = (σ0.1 218 23) := hkv146.2.2.2.2.2.2.2.1
                have g24_σ147 : σ147.1 218 24 = (σ0.1 218 24) := hkv146.2.2.2.2.2.2.2.2.1
                have g25_σ147 : σ147.1 218 25 = (σ0.1 218 25) := hkv146.2.2.2.2.2.2.2.2.2
                have m98 := hqv146.1.2
                have g98 := hqv146.2
                exact ok_some ⟨hT, (show (TOK σ147.1 ∧ (σ0.1 218 11).toInt ≤ (σ147.1 218 11).toInt ∧ (σ147.1 218 14 = 0 → (nmOK tx n i (σ0.1 231 0) ∧ (v142 - 97).toInt = (tx (tkF tx n i)).toInt - 97) ∧ RX σ147.1 tx n (tkE tx n i)) ∧ (¬ σ147.1 218 14 = 0 → ¬ nmOK tx n i (σ0.1 231 0)) ∧ 0 ≤ (v142 - 97).toInt ∧ (v142 - 97).toInt ≤ 9) ∧ (σ147.1 218 7 = σ0.1 218 7 ∧ σ147.1 218 9 = σ0.1 218 9 ∧ σ147.1 218 20 = σ0.1 218 20 ∧ σ147.1 218 22 = σ0.1 218 22 ∧ σ147.1 218 23 = σ0.1 218 23 ∧ σ147.1 218 24 = σ0.1 218 24 ∧ σ147.1 218 25 = σ0.1 218 25) from ⟨by first | exact ⟨hK, by (try simp only [g7_σ147, g9_σ147, g14_σ147, g15_σ147, g20_σ147, g22_σ147, g23_σ147, g24_σ147, g25_σ147]); omega, fun q => absurd q (by (try simp only [g7_σ147, g9_σ147, g14_σ147, g15_σ147, g20_σ147, g22_σ147, g23_σ147, g24_σ147, g25_σ147]); exact n94), fun _ q => m12 q.1, by first | decide | omega⟩ | exact ⟨hK, by (try simp only [g7_σ147, g9_σ147, g14_σ147, g15_σ147, g20_σ147, g22_σ147, g23_σ147, g24_σ147, g25_σ147]); omega, fun q => absurd q (by (try simp only [g7_σ147, g9_σ147, g14_σ147, g15_σ147, g20_σ147, g22_σ147, g23_σ147, g24_σ147, g25_σ147]); exact n94), fun _ q => l37 q.2.1, by first | decide | omega⟩ | exact ⟨hK, by (try simp only [g7_σ147, g9_σ147, g14_σ147, g15_σ147, g20_σ147, g22_σ147, g23_σ147, g24_σ147, g25_σ147]); omega, fun q => absurd q (by (try simp only [g7_σ147, g9_σ147, g14_σ147, g15_σ147, g20_σ147, g22_σ147, g23_σ147, g24_σ147, g25_σ147]); exact n94), fun _ q => l58 (by rw [ev48]; exact q.2.2), by first | decide | omega⟩ | exact ⟨hK, by (try simp only [g7_σ147, g9_σ147, g14_σ147, g15_σ147, g20_σ147, g22_σ147, g23_σ147, g24_σ147, g25_σ147]); omega, fun _ => ⟨⟨⟨k12, l37, by rw [← ev48]; exact l58⟩, r81⟩, g98⟩, fun q => absurd (by (try simp only [g7_σ147, g9_σ147, g14_σ147, g15_σ147, g20_σ147, g22_σ147, g23_σ147, g24_σ147, g25_σ147]); exact y94) q, by first | decide | omega⟩ | exact absurd y94 n70 | exact absurd y94 n63 | exact absurd y94 n24 | exact absurd y94 n17 | exact absurd y94 n4 | exact absurd y70 n94 | exact absurd hg n4 | exact absurd hg n24 | exact absurd hg n70 | exact absurd hg n94 | exact absurd y24 n94 | exact absurd y24 n70, g7_σ147, g9_σ147, g20_σ147, g22_σ147, g23_σ147, g24_σ147, g25_σ147⟩)⟩
          · have l58 := hc131
            rw [Int32.lt_iff_toInt_lt, s48] at l58
            refine ok_gC rfl ?_
            refine ok_zbT (Q := fun V σ => (TOK σ.1 ∧ ¬ σ.1 218 14 = 0) ∧ (σ.1 218 7 = σ0.1 218 7 ∧ σ.1 218 9 = σ0.1 218 9 ∧ σ.1 218 10 = σ0.1 218 10 ∧ σ.1 218 11 = σ0.1 218 11 ∧ σ.1 218 12 = σ0.1 218 12 ∧ σ.1 218 13 = σ0.1 218 13 ∧ σ.1 218 20 = σ0.1 218 20 ∧ σ.1 218 22 = σ0.1 218 22 ∧ σ.1 218 23 = σ0.1 218 23 ∧ σ.1 218 24 = σ0.1 218 24 ∧ σ.1 218 25 = σ0.1 218 25)) hT (s_X12_errs hN (hR.tr hT) (hK) (by rw [hT.2 224 (by decide)]; exact hY) (by decide)) (by decide) (fun v148 σ149 hOσ149 hT hqv148 => ?_)
            have hqv148 : (TOK σ149.1 ∧ ¬ σ149.1 218 14 = 0) ∧ (σ149.1 218 7 = σ0.1 218 7 ∧ σ149.1 218 9 = σ0.1 218 9 ∧ σ149.1 218 10 = σ0.1 218 10 ∧ σ149.1 218 11 = σ0.1 218 11 ∧ σ149.1 218 12 = σ0.1 218 12 ∧ σ149.1 218 13 = σ0.1 218 13 ∧ σ149.1 218 20 = σ0.1 218 20 ∧ σ149.1 218 22 = σ0.1 218 22 ∧ σ149.1 218 23 = σ0.1 218 23 ∧ σ149.1 218 24 = σ0.1 218 24 ∧ σ149.1 218 25 = σ0.1 218 25) := hqv148
            have hkv148 := hqv148
            have hqv148 := hqv148.1
            have hK : TOK σ149.1 := by first | exact hqv148.1 | exact hqv148.1.1 | exact TOK_p eσ149 (by decide) hK
            have g7_σ149 : σ149.1 218 7 = (σ0.1 218 7) := hkv148.2.1
            have g9_σ149 : σ149.1 218 9 = (σ0.1 218 9) := hkv148.2.2.1
            have g10_σ149 : σ149.1 218 10 = (σ0.1 218 10) := hkv148.2.2.2.1
            have g11_σ149 : σ149.1 218 11 = (σ0.1 218 11) := hkv148.2.2.2.2.1
            have g12_σ149 : σ149.1 218 12 = (σ0.1 218 12) := hkv148.2.2.2.2.2.1
            have g13_σ149 : σ149.1 218 13 = (σ0.1 218 13) := hkv148.2.2.2.2.2.2.1
            have g20_σ149 : σ149.1 218 20 = (σ0.1 218 20) := hkv148.2.2.2.2.2.2.2.1
            have g22_σ149 : σ149.1 218 22 = (σ0.1 218 22) := hkv148.2.2.2.2.2.2.2.2.1
            have g23_σ149 : σ149.1 218 23 = (σ0.1 218 23) := hkv148.2.2.2.2.2.2.2.2.2.1
            have g24_σ149 : σ149.1 218 24 = (σ0.1 218 24) := hkv148.2.2.2.2.2.2.2.2.2.2.1
            have g25_σ149 : σ149.1 218 25 = (σ0.1 218 25) := hkv148.2.2.2.2.2.2.2.2.2.2.2
            have n63 := hqv148.2
            rw [J_X12_readsName_66.eq_1]
            refine ok_gC rfl ?_
            refine ok_zbX (Q := fun V => (V = 0 → ¬ σ149.1 218 14 = 0) ∧ (¬ V = 0 → σ149.1 218 14 = 0)) (x_X12_good) (fun v150 hqv150 => ?_)
            have hqv150 : (v150 = 0 → ¬ σ149.1 218 14 = 0) ∧ (¬ v150 = 0 → σ149.1 218 14 = 0) := hqv150
            try simp only [g7_σ149, g9_σ149, g10_σ149, g11_σ149, g12_σ149, g13_σ149, g20_σ149, g22_σ149, g23_σ149, g24_σ149, g25_σ149, hT.2 224 (by decide)] at hqv150
            refine ok_if (fun hc152 => ?_) (fun hc152 => ?_)
            · have qhc152 := hqv150.1 hc152
              have n70 := qhc152
              rw [J_X12_readsName_89.eq_1]
              refine ok_gC rfl ?_
              refine ok_zbX (Q := fun V => (V = 0 → ¬ σ149.1 218 14 = 0) ∧ (¬ V = 0 → σ149.1 218 14 = 0)) (x_X12_good) (fun v153 hqv153 => ?_)
              have hqv153 : (v153 = 0 → ¬ σ149.1 218 14 = 0) ∧ (¬ v153 = 0 → σ149.1 218 14 = 0) := hqv153
              try simp only [g7_σ149, g9_σ149, g10_σ149, g11_σ149, g12_σ149, g13_σ149, g20_σ149, g22_σ149, g23_σ149, g24_σ149, g25_σ149, hT.2 224 (by decide)] at hqv153
              refine ok_if (fun hc155 => ?_) (fun hc155 => ?_)
              · have qhc155 := hqv153.1 hc155
                have n94 := qhc155
                exact ok_some ⟨hT, (show (TOK σ149.1 ∧ (σ0.1 218 11).toInt ≤ (σ149.1 218 11).toInt ∧ (σ149.1 218 14 = 0 → (nmOK tx n i (σ0.1 231 0) ∧ (0 : Int32).toInt = (tx (tkF tx n i)).toInt - 97) ∧ RX σ149.1 tx n (tkE tx n i)) ∧ (¬ σ149.1 218 14 = 0 → ¬ nmOK tx n i (σ0.1 231 0)) ∧ 0 ≤ (0 : Int32).toInt ∧ (0 : Int32).toInt ≤ 9) ∧ (σ149.1 218 7 = σ0.1 218 7 ∧ σ149.1 218 9 = σ0.1 218 9 ∧ σ149.1 218 20 = σ0.1 218 20 ∧ σ149.1 218 22 = σ0.1 218 22 ∧ σ149.1 218 23 = σ0.1 218 23 ∧ σ149.1 218 24 = σ0.1 218 24 ∧ σ149.1 218 25 = σ0.1 218 25) from ⟨by first | exact ⟨hK, by (try simp only [g7_σ149, g9_σ149, g10_σ149, g11_σ149, g12_σ149, g13_σ149, g20_σ149, g22_σ149, g23_σ149, g24_σ149, g25_σ149]); omega, fun q => absurd q (by (try simp only [g7_σ149, g9_σ149, g10_σ149, g11_σ149, g12_σ149, g13_σ149, g20_σ149, g22_σ149, g23_σ149, g24_σ149, g25_σ149]); exact n94), fun _ q => m12 q.1, by first | decide | omega⟩ | exact ⟨hK, by (try simp only [g7_σ149, g9_σ149, g10_σ149, g11_σ149, g12_σ149, g13_σ149, g20_σ149, g22_σ149, g23_σ149, g24_σ149, g25_σ149]); omega, fun q => absurd q (by (try simp only [g7_σ149, g9_σ149, g10_σ149, g11_σ149, g12_σ149, g13_σ149, g20_σ149, g22_σ149, g23_σ149, g24_σ149, g25_σ149]); exact n94), fun _ q => l37 q.2.1, by first | decide | omega⟩ | exact ⟨hK, by (try simp only [g7_σ149, g9_σ149, g10_σ149, g11_σ149, g12_σ149, g13_σ149, g20_σ149, g22_σ149, g23_σ149, g24_σ149, g25_σ149]); omega, fun q => absurd q (by (try simp only [g7_σ149, g9_σ149, g10_σ149, g11_σ149, g12_σ149, g13_σ149, g20_σ149, g22_σ149, g23_σ149, g24_σ149, g25_σ149]); exact n94), fun _ q => l58 (by rw [ev48]; exact q.2.2), by first | decide | omega⟩ | exact ⟨hK, by (try simp only [g7_σ149, g9_σ149, g10_σ149, g11_σ149, g12_σ149, g13_σ149, g20_σ149, g22_σ149, g23_σ149, g24_σ149, g25_σ149]); omega, fun _ => ⟨⟨⟨k12, l37, by rw [← ev48]; exact l58⟩, r81⟩, g98⟩, fun q => absurd (by (try simp only [g7_σ149, g9_σ149, g10_σ149, g11_σ149, g12_σ149, g13_σ149, g20_σ149, g22_σ149, g23_σ149, g24_σ149, g25_σ149]); exact y94) q, by first | decide | omega⟩ | exact absurd y94 n70 | exact absurd y94 n63 | exact absurd y94 n24 | exact absurd y94 n17 | exact absurd y94 n4 | exact absurd y70 n94 | exact absurd hg n4 | exact absurd hg n24 | exact absurd hg n70 | exact absurd hg n94 | exact absurd y24 n94 | exact absurd y24 n70, g7_σ149, g9_σ149, g20_σ149, g22_σ149, g23_σ149, g24_σ149, g25_σ149⟩)⟩
              · have qhc155 := hqv153.2 hc155
                have y94 := qhc155
                refine ok_gC rfl ?_
                refine ok_zbT (Q := fun V σ => ((TOK σ.1 ∧ (σ149.1 218 10).toInt ≤ (σ.1 218 11).toInt) ∧ RX σ.1 tx n (tkE tx n i)) ∧ (σ.1 218 7 = σ149.1 218 7 ∧ σ.1 218 9 = σ149.1 218 9 ∧ σ.1 218 14 = σ149.1 218 14 ∧ σ.1 218 15 = σ149.1 218 15 ∧ σ.1 218 20 = σ149.1 218 20 ∧ σ.1 218 22 = σ149.1 218 22 ∧ σ.1 218 23 = σ149.1 218 23 ∧ σ.1 218 24 = σ149.1 218 24 ∧ σ.1 218 25 = σ149.1 218 25)) hT (s_X12_advance_r hN (hR.tr hT) (TOK_A hK) (by rw [hT.2 224 (by decide)]; exact hY) (RX_i g9_σ149 g10_σ149 g11_σ149 g12_σ149 g13_σ149 ((hT.2 224 (by decide)).trans tE) nE pK)) (by decide) (fun v156 σ157 hOσ157 hT hqv156 => ?_)
                have hqv156 : ((TOK σ157.1 ∧ (σ149.1 218 10).toInt ≤ (σ157.1 218 11).toInt) ∧ RX σ157.1 tx n (tkE tx n i)) ∧ (σ157.1 218 7 = σ149.1 218 7 ∧ σ157.1 218 9 = σ149.1 218 9 ∧ σ157.1 218 14 = σ149.1 218 14 ∧ σ157.1 218 15 = σ149.1 218 15 ∧ σ157.1 218 20 = σ149.1 218 20 ∧ σ157.1 218 22 = σ149.1 218 22 ∧ σ157.1 218 23 = σ149.1 218 23 ∧ σ157.1 218 24 = σ149.1 218 24 ∧ σ157.1 218 25 = σ149.1 218 25) := hqv156
                have hkv156 := hqv156
                have hqv156 := hqv156.1
                have hK : TOK σ157.1 := by first | exact hqv156.1 | exact hqv156.1.1 | exact TOK_p eσ157 (by decide) hK
                try simp only [g7_σ149, g9_σ149, g10_σ149, g11_σ149, g12_σ149, g13_σ149, g20_σ149, g22_σ149, g23_σ149, g24_σ149, g25_σ149] at hqv156
                have g7_σ157 : σ157.1 218 7 = (σ0.1 218 7) := (hkv156.2.1).trans g7_σ149
                have g9_σ157 : σ157.1 218 9 = (σ0.1 218 9) := (hkv156.2.2.1).trans g9_σ149
                have g14_σ157 : σ157.1 218 14 = (σ149.1 218 14) := hkv156.2.2.2.1
                have g15_σ157 : σ157.1 218 15 = (σ149.1 218 15) := hkv156.2.2.2.2.1
                have g20_σ157 : σ157.1 218 20 = (σ0.1 218 20) := (hkv156.2.2.2.2.2.1).trans g20_σ149
                have g22_σ157 : σ157.1 218 22 = (σ0.1 218 22) := (hkv156.2.2.2.2.2.2.1).trans g22_σ149
                have g23_σ157 : σ157.1 218 23 = (σ0.1 218 23) := (hkv156.2.2.2.2.2.2.2.1).trans g23_σ149
                have g24_σ157 : σ157.1 218 24 = (σ0.1 218 24) := (hkv156.2.2.2.2.2.2.2.2.1).trans g24_σ149
                have g25_σ157 : σ157.1 218 25 = (σ0.1 218 25) := (hkv156.2.2.2.2.2.2.2.2.2).trans g25_σ149
                have m98 := hqv156.1.2
                have g98 := hqv156.2
                exact ok_some ⟨hT, (show (TOK σ157.1 ∧ (σ0.1 218 11).toInt ≤ (σ157.1 218 11).toInt ∧ (σ157.1 218 14 = 0 → (nmOK tx n i (σ0.1 231 0) ∧ (0 : Int32).toInt = (tx (tkF tx n i)).toInt - 97) ∧ RX σ157.1 tx n (tkE tx n i)) ∧ (¬ σ157.1 218 14 = 0 → ¬ nmOK tx n i (σ0.1 231 0)) ∧ 0 ≤ (0 : Int32).toInt ∧ (0 : Int32).toInt ≤ 9) ∧ (σ157.1 218 7 = σ0.1 218 7 ∧ σ157.1 218 9 = σ0.1 218 9 ∧ σ157.1 218 20 = σ0.1 218 20 ∧ σ157.1 218 22 = σ0.1 218 22 ∧ σ157.1 218 23 = σ0.1 218 23 ∧ σ157.1 218 24 = σ0.1 218 24 ∧ σ157.1 218 25 = σ0.1 218 25) from ⟨by first | exact ⟨hK, by (try simp only [g7_σ157, g9_σ157, g14_σ157, g15_σ157, g20_σ157, g22_σ157, g23_σ157, g24_σ157, g25_σ157]); omega, fun q => absurd q (by (try simp only [g7_σ157, g9_σ157, g14_σ157, g15_σ157, g20_σ157, g22_σ157, g23_σ157, g24_σ157, g25_σ157]); exact n94), fun _ q => m12 q.1, by first | decide | omega⟩ | exact ⟨hK, by (try simp only [g7_σ157, g9_σ157, g14_σ157, g15_σ157, g20_σ157, g22_σ157, g23_σ157, g24_σ157, g25_σ157]); omega, fun q => absurd q (by (try simp only [g7_σ157, g9_σ157, g14_σ157, g15_σ157, g20_σ157, g22_σ157, g23_σ157, g24_σ157, g25_σ157]); exact n94), fun _ q => l37 q.2.1, by first | decide | omega⟩ | exact ⟨hK, by (try simp only [g7_σ157, g9_σ157, g14_σ157, g15_σ157, g20_σ157, g22_σ157, g23_σ157, g24_σ157, g25_σ157]); omega, fun q => absurd q (by (try simp only [g7_σ157, g9_σ157, g14_σ157, g15_σ157, g20_σ157, g22_σ157, g23_σ157, g24_σ157, g25_σ157]); exact n94), fun _ q => l58 (by rw [ev48]; exact q.2.2), by first | decide | omega⟩ | exact ⟨hK, by (try simp only [g7_σ157, g9_σ157, g14_σ157, g15_σ157, g20_σ157, g22_σ157, g23_σ157, g24_σ157, g25_σ157]); omega, fun _ => ⟨⟨⟨k12, l37, by rw [← ev48]; exact l58⟩, r81⟩, g98⟩, fun q => absurd (by (try simp only [g7_σ157, g9_σ157, g14_σ157, g15_σ157, g20_σ157, g22_σ157, g23_σ157, g24_σ157, g25_σ157]); exact y94) q, by first | decide | omega⟩ | exact absurd y94 n70 | exact absurd y94 n63 | exact absurd y94 n24 | exact absurd y94 n17 | exact absurd y94 n4 | exact absurd y70 n94 | exact absurd hg n4 | exact absurd hg n24 | exact absurd hg n70 | exact absurd hg n94 | exact absurd y24 n94 | exact absurd y24 n70, g7_σ157, g9_σ157, g20_σ157, g22_σ157, g23_σ157, g24_σ157, g25_σ157⟩)⟩
            · have qhc152 := hqv150.2 hc152
              have y70 := qhc152
              refine ok_gR (v := 224) hT rfl (hR 218 6 rfl) ?_
              refine ok_gIv rfl g11_σ149 ?_
              refine ok_aIn rfl (by ((try simp only [g7_σ149, g9_σ149, g10_σ149, g11_σ149, g12_σ149, g13_σ149, g20_σ149, g22_σ149, g23_σ149, g24_σ149, g25_σ149])); first | omega | decide | (simp only [Int32.le_iff_toInt_le, Int32.lt_iff_toInt_lt, ti_add, ti_sub, ti_mul, Int32.reduceToInt] at *; omega)) (by first | omega | exact absurd y70 n63 | exact absurd y70 n24 | exact absurd y70 n17 | exact absurd y70 n4) (fun v160 ev160 => ?_)
              have ev81 : v160 = tx (σ0.1 218 11).toInt.toNat := by first | (rw [ev160, hT.2 224 (by decide), tE]; rfl) | exact absurd y70 n63 | exact absurd y70 n24 | exact absurd y70 n17 | exact absurd y70 n4
              have t81 : 97 ≤ v160.toInt ∧ v160.toInt ≤ 122 := by first | (rw [ev81, ← tE]; exact w12 (σ0.1 218 11).toInt.toNat (by omega) (by omega)) | exact absurd y70 n63 | exact absurd y70 n24 | exact absurd y70 n17 | exact absurd y70 n4
              have s81 : (v160 - 97).toInt = v160.toInt - 97 := by rw [ti_sub]; simp only [Int32.reduceToInt]; omega
              rw [show (σ0.1 218 11).toInt.toNat = tkF tx n i by omega] at ev81
              have b81 : (v160 - 97).toInt ≤ 9 := by first | (rw [ev81.trans ev48.symm, s48]; have h0 := hF.1.1; omega) | exact absurd y70 n63 | exact absurd y70 n24 | exact absurd y70 n17 | exact absurd y70 n4
              have r81 : (v160 - 97).toInt = (tx (tkF tx n i)).toInt - 97 := by rw [s81, ev81]
              rw [J_X12_readsName_89.eq_1]
              refine ok_gC rfl ?_
              refine ok_zbX (Q := fun V => (V = 0 → ¬ σ149.1 218 14 = 0) ∧ (¬ V = 0 → σ149.1 218 14 = 0)) (x_X12_good) (fun v161 hqv161 => ?_)
              have hqv161 : (v161 = 0 → ¬ σ149.1 218 14 = 0) ∧ (¬ v161 = 0 → σ149.1 218 14 = 0) := hqv161
              try simp only [g7_σ149, g9_σ149, g10_σ149, g11_σ149, g12_σ149, g13_σ149, g20_σ149, g22_σ149, g23_σ149, g24_σ149, g25_σ149, hT.2 224 (by decide)] at hqv161
              refine ok_if (fun hc163 => ?_) (fun hc163 => ?_)
              · have qhc163 := hqv161.1 hc163
                have n94 := qhc163
                exact ok_some ⟨hT, (show (TOK σ149.1 ∧ (σ0.1 218 11).toInt ≤ (σ149.1 218 11).toInt ∧ (σ149.1 218 14 = 0 → (nmOK tx n i (σ0.1 231 0) ∧ (v160 - 97).toInt = (tx (tkF tx n i)).toInt - 97) ∧ RX σ149.1 tx n (tkE tx n i)) ∧ (¬ σ149.1 218 14 = 0 → ¬ nmOK tx n i (σ0.1 231 0)) ∧ 0 ≤ (v160 - 97).toInt ∧ (v160 - 97).toInt ≤ 9) ∧ (σ149.1 218 7 = σ0.1 218 7 ∧ σ149.1 218 9 = σ0.1 218 9 ∧ σ149.1 218 20 = σ0.1 218 20 ∧ σ149.1 218 22 = σ0.1 218 22 ∧ σ149.1 218 23 = σ0.1 218 23 ∧ σ149.1 218 24 = σ0.1 218 24 ∧ σ149.1 218 25 = σ0.1 218 25) from ⟨by first | exact ⟨hK, by (try simp only [g7_σ149, g9_σ149, g10_σ149, g11_σ149, g12_σ149, g13_σ149, g20_σ149, g22_σ149, g23_σ149, g24_σ149, g25_σ149]); omega, fun q => absurd q (by (try simp only [g7_σ149, g9_σ149, g10_σ149, g11_σ149, g12_σ149, g13_σ149, g20_σ149, g22_σ149, g23_σ149, g24_σ149, g25_σ149]); exact n94), fun _ q => m12 q.1, by first | decide | omega⟩ | exact ⟨hK, by (try simp only [g7_σ149, g9_σ149, g10_σ149, g11_σ149, g12_σ149, g13_σ149, g20_σ149, g22_σ149, g23_σ149, g24_σ149, g25_σ149]); omega, fun q => absurd q (by (try simp only [g7_σ149, g9_σ149, g10_σ149, g11_σ149, g12_σ149, g13_σ149, g20_σ149, g22_σ149, g23_σ149, g24_σ149, g25_σ149]); exact n94), fun _ q => l37 q.2.1, by first | decide | omega⟩ | exact ⟨hK, by (try simp only [g7_σ149, g9_σ149, g10_σ149, g11_σ149, g12_σ149, g13_σ149, g20_σ149, g22_σ149, g23_σ149, g24_σ149, g25_σ149]); omega, fun q => absurd q (by (try simp only [g7_σ149, g9_σ149, g10_σ149, g11_σ149, g12_σ149, g13_σ149, g20_σ149, g22_σ149, g23_σ149, g24_σ149, g25_σ149]); exact n94), fun _ q => l58 (by rw [ev48]; exact q.2.2), by first | decide | omega⟩ | exact ⟨hK, by (try simp only [g7_σ149, g9_σ149, g10_σ149, g11_σ149, g12_σ149, g13_σ149, g20_σ149, g22_σ149, g23_σ149, g24_σ149, g25_σ149]); omega, fun _ => ⟨⟨⟨k12, l37, by rw [← ev48]; exact l58⟩, r81⟩, g98⟩, fun q => absurd (by (try simp only [g7_σ149, g9_σ149, g10_σ149, g11_σ149, g12_σ149, g13_σ149, g20_σ149, g22_σ149, g23_σ149, g24_σ149, g25_σ149]); exact y94) q, by first | decide | omega⟩ | exact absurd y94 n70 | exact absurd y94 n63 | exact absurd y94 n24 | exact absurd y94 n17 | exact absurd y94 n4 | exact absurd y70 n94 | exact absurd hg n4 | exact absurd hg n24 | exact absurd hg n70 | exact absurd hg n94 | exact absurd y24 n94 | exact absurd y24 n70, g7_σ149, g9_σ149, g20_σ149, g22_σ149, g23_σ149, g24_σ149, g25_σ149⟩)⟩
              · have qhc163 := hqv161.2 hc163
                have y94 := qhc163
                refine ok_gC rfl ?_
                refine ok_zbT (Q := fun V σ => ((TOK σ.1 ∧ (σ149.1 218 10).toInt ≤ (σ.1 218 11).toInt) ∧ RX σ.1 tx n (tkE tx n i)) ∧ (σ.1 218 7 = σ149.1 218 7 ∧ σ.1 218 9 = σ149.1 218 9 ∧ σ.1 218 14 = σ149.1 218 14 ∧ σ.1 218 15 = σ149.1 218 15 ∧ σ.1 218 20 = σ149.1 218 20 ∧ σ.1 218 22 = σ149.1 218 22 ∧ σ.1 218 23 = σ149.1 218 23 ∧ σ.1 218 24 = σ149.1 218 24 ∧ σ.1 218 25 = σ149.1 218 25)) hT (s_X12_advance_r hN (hR.tr hT) (TOK_A hK) (by rw [hT.2 224 (by decide)]; exact hY) (RX_i g9_σ149 g10_σ149 g11_σ149 g12_σ149 g13_σ149 ((hT.2 224 (by decide)).trans tE) nE pK)) (by decide) (fun v164 σ165 hOσ165 hT hqv164 => ?_)
                have hqv164 : ((TOK σ165.1 ∧ (σ149.1 218 10).toInt ≤ (σ165.1 218 11).toInt) ∧ RX σ165.1 tx n (tkE tx n i)) ∧ (σ165.1 218 7 = σ149.1 218 7 ∧ σ165.1 218 9 = σ149.1 218 9 ∧ σ165.1 218 14 = σ149.1 218 14 ∧ σ165.1 218 15 = σ149.1 218 15 ∧ σ165.1 218 20 = σ149.1 218 20 ∧ σ165.1 218 22 = σ149.1 218 22 ∧ σ165.1 218 23 = σ149.1 218 23 ∧ σ165.1 218 24 = σ149.1 218 24 ∧ σ165.1 218 25 = σ149.1 218 25) := hqv164
                have hkv164 := hqv164
                have hqv164 := hqv164.1
                have hK : TOK σ165.1 := by first | exact hqv164.1 | exact hqv164.1.1 | exact TOK_p eσ165 (by decide) hK
                try simp only [g7_σ149, g9_σ149, g10_σ149, g11_σ149, g12_σ149, g13_σ149, g20_σ149, g22_σ149, g23_σ149, g24_σ149, g25_σ149] at hqv164
                have g7_σ165 : σ165.1 218 7 = (σ0.1 218 7) := (hkv164.2.1).trans g7_σ149
                have g9_σ165 : σ165.1 218 9 = (σ0.1 218 9) := (hkv164.2.2.1).trans g9_σ149
                have g14_σ165 : σ165.1 218 14 = (σ149.1 218 14) := hkv164.2.2.2.1
                have g15_σ165 : σ165.1 218 15 = (σ149.1 218 15) := hkv164.2.2.2.2.1
                have g20_σ165 : σ165.1 218 20 = (σ0.1 218 20) := (hkv164.2.2.2.2.2.1).trans g20_σ149
                have g22_σ165 : σ165.1 218 22 = (σ0.1 218 22) := (hkv164.2.2.2.2.2.2.1).trans g22_σ149
                have g23_σ165 : σ165.1 218 23 = (σ0.1 218 23) := (hkv164.2.2.2.2.2.2.2.1).trans g23_σ149
                have g24_σ165 : σ165.1 218 24 = (σ0.1 218 24) := (hkv164.2.2.2.2.2.2.2.2.1).trans g24_σ149
                have g25_σ165 : σ165.1 218 25 = (σ0.1 218 25) := (hkv164.2.2.2.2.2.2.2.2.2).trans g25_σ149
                have m98 := hqv164.1.2
                have g98 := hqv164.2
                exact ok_some ⟨hT, (show (TOK σ165.1 ∧ (σ0.1 218 11).toInt ≤ (σ165.1 218 11).toInt ∧ (σ165.1 218 14 = 0 → (nmOK tx n i (σ0.1 231 0) ∧ (v160 - 97).toInt = (tx (tkF tx n i)).toInt - 97) ∧ RX σ165.1 tx n (tkE tx n i)) ∧ (¬ σ165.1 218 14 = 0 → ¬ nmOK tx n i (σ0.1 231 0)) ∧ 0 ≤ (v160 - 97).toInt ∧ (v160 - 97).toInt ≤ 9) ∧ (σ165.1 218 7 = σ0.1 218 7 ∧ σ165.1 218 9 = σ0.1 218 9 ∧ σ165.1 218 20 = σ0.1 218 20 ∧ σ165.1 218 22 = σ0.1 218 22 ∧ σ165.1 218 23 = σ0.1 218 23 ∧ σ165.1 218 24 = σ0.1 218 24 ∧ σ165.1 218 25 = σ0.1 218 25) from ⟨by first | exact ⟨hK, by (try simp only [g7_σ165, g9_σ165, g14_σ165, g15_σ165, g20_σ165, g22_σ165, g23_σ165, g24_σ165, g25_σ165]); omega, fun q => absurd q (by (try simp only [g7_σ165, g9_σ165, g14_σ165, g15_σ165, g20_σ165, g22_σ165, g23_σ165, g24_σ165, g25_σ165]); exact n94), fun _ q => m12 q.1, by first | decide | omega⟩ | exact ⟨hK, by (try simp only [g7_σ165, g9_σ165, g14_σ165, g15_σ165, g20_σ165, g22_σ165, g23_σ165, g24_σ165, g25_σ165]); omega, fun q => absurd q (by (try simp only [g7_σ165, g9_σ165, g14_σ165, g15_σ165, g20_σ165, g22_σ165, g23_σ165, g24_σ165, g25_σ165]); exact n94), fun _ q => l37 q.2.1, by first | decide | omega⟩ | exact ⟨hK, by (try simp only [g7_σ165, g9_σ165, g14_σ165, g15_σ165, g20_σ165, g22_σ165, g23_σ165, g24_σ165, g25_σ165]); omega, fun q => absurd q (by (try simp only [g7_σ165, g9_σ165, g14_σ165, g15_σ165, g20_σ165, g22_σ165, g23_σ165, g24_σ165, g25_σ165]); exact n94), fun _ q => l58 (by rw [ev48]; exact q.2.2), by first | decide | omega⟩ | exact ⟨hK, by (try simp only [g7_σ165, g9_σ165, g14_σ165, g15_σ165, g20_σ165, g22_σ165, g23_σ165, g24_σ165, g25_σ165]); omega, fun _ => ⟨⟨⟨k12, l37, by rw [← ev48]; exact l58⟩, r81⟩, g98⟩, fun q => absurd (by (try simp only [g7_σ165, g9_σ165, g14_σ165, g15_σ165, g20_σ165, g22_σ165, g23_σ165, g24_σ165, g25_σ165]); exact y94) q, by first | decide | omega⟩ | exact absurd y94 n70 | exact absurd y94 n63 | exact absurd y94 n24 | exact absurd y94 n17 | exact absurd y94 n4 | exact absurd y70 n94 | exact absurd hg n4 | exact absurd hg n24 | exact absurd hg n70 | exact absurd hg n94 | exact absurd y24 n94 | exact absurd y24 n70, g7_σ165, g9_σ165, g20_σ165, g22_σ165, g23_σ165, g24_σ165, g25_σ165⟩)⟩
    · have m12 : ¬ tkK tx n i = 1 := fun q => hc85 (pK.2.1.trans q)
      refine ok_gC rfl ?_
      refine ok_zbT (Q := fun V σ => (TOK σ.1 ∧ ¬ σ.1 218 14 = 0) ∧ (σ.1 218 7 = σ0.1 218 7 ∧ σ.1 218 9 = σ0.1 218 9 ∧ σ.1 218 10 = σ0.1 218 10 ∧ σ.1 218 11 = σ0.1 218 11 ∧ σ.1 218 12 = σ0.1 218 12 ∧ σ.1 218 13 = σ0.1 218 13 ∧ σ.1 218 20 = σ0.1 218 20 ∧ σ.1 218 22 = σ0.1 218 22 ∧ σ.1 218 23 = σ0.1 218 23 ∧ σ.1 218 24 = σ0.1 218 24 ∧ σ.1 218 25 = σ0.1 218 25)) hT (s_X12_errs hN (hR.tr hT) (hK) (by rw [hT.2 224 (by decide)]; exact hY) (by decide)) (by decide) (fun v166 σ167 hOσ167 hT hqv166 => ?_)
      have hqv166 : (TOK σ167.1 ∧ ¬ σ167.1 218 14 = 0) ∧ (σ167.1 218 7 = σ0.1 218 7 ∧ σ167.1 218 9 = σ0.1 218 9 ∧ σ167.1 218 10 = σ0.1 218 10 ∧ σ167.1 218 11 = σ0.1 218 11 ∧ σ167.1 218 12 = σ0.1 218 12 ∧ σ167.1 218 13 = σ0.1 218 13 ∧ σ167.1 218 20 = σ0.1 218 20 ∧ σ167.1 218 22 = σ0.1 218 22 ∧ σ167.1 218 23 = σ0.1 218 23 ∧ σ167.1 218 24 = σ0.1 218 24 ∧ σ167.1 218 25 = σ0.1 218 25) := hqv166
      have hkv166 := hqv166
      have hqv166 := hqv166.1
      have hK : TOK σ167.1 := by first | exact hqv166.1 | exact hqv166.1.1 | exact TOK_p eσ167 (by decide) hK
      have g7_σ167 : σ167.1 218 7 = (σ0.1 218 7) := hkv166.2.1
      have g9_σ167 : σ167.1 218 9 = (σ0.1 218 9) := hkv166.2.2.1
      have g10_σ167 : σ167.1 218 10 = (σ0.1 218 10) := hkv166.2.2.2.1
      have g11_σ167 : σ167.1 218 11 = (σ0.1 218 11) := hkv166.2.2.2.2.1
      have g12_σ167 : σ167.1 218 12 = (σ0.1 218 12) := hkv166.2.2.2.2.2.1
      have g13_σ167 : σ167.1 218 13 = (σ0.1 218 13) := hkv166.2.2.2.2.2.2.1
      have g20_σ167 : σ167.1 218 20 = (σ0.1 218 20) := hkv166.2.2.2.2.2.2.2.1
      have g22_σ167 : σ167.1 218 22 = (σ0.1 218 22) := hkv166.2.2.2.2.2.2.2.2.1
      have g23_σ167 : σ167.1 218 23 = (σ0.1 218 23) := hkv166.2.2.2.2.2.2.2.2.2.1
      have g24_σ167 : σ167.1 218 24 = (σ0.1 218 24) := hkv166.2.2.2.2.2.2.2.2.2.2.1
      have g25_σ167 : σ167.1 218 25 = (σ0.1 218 25) := hkv166.2.2.2.2.2.2.2.2.2.2.2
      have n17 := hqv166.2
      rw [J_X12_readsName_20.eq_1]
      refine ok_gC rfl ?_
      refine ok_zbX (Q := fun V => (V = 0 → ¬ σ167.1 218 14 = 0) ∧ (¬ V = 0 → σ167.1 218 14 = 0)) (x_X12_good) (fun v168 hqv168 => ?_)
      have hqv168 : (v168 = 0 → ¬ σ167.1 218 14 = 0) ∧ (¬ v168 = 0 → σ167.1 218 14 = 0) := hqv168
      try simp only [g7_σ167, g9_σ167, g10_σ167, g11_σ167, g12_σ167, g13_σ167, g20_σ167, g22_σ167, g23_σ167, g24_σ167, g25_σ167, hT.2 224 (by decide)] at hqv168
      refine ok_if (fun hc170 => ?_) (fun hc170 => ?_)
      · have qhc170 := hqv168.1 hc170
        have n24 := qhc170
        rw [J_X12_readsName_66.eq_1]
        refine ok_gC rfl ?_
        refine ok_zbX (Q := fun V => (V = 0 → ¬ σ167.1 218 14 = 0) ∧ (¬ V = 0 → σ167.1 218 14 = 0)) (x_X12_good) (fun v171 hqv171 => ?_)
        have hqv171 : (v171 = 0 → ¬ σ167.1 218 14 = 0) ∧ (¬ v171 = 0 → σ167.1 218 14 = 0) := hqv171
        try simp only [g7_σ167, g9_σ167, g10_σ167, g11_σ167, g12_σ167, g13_σ167, g20_σ167, g22_σ167, g23_σ167, g24_σ167, g25_σ167, hT.2 224 (by decide)] at hqv171
        refine ok_if (fun hc173 => ?_) (fun hc173 => ?_)
        · have qhc173 := hqv171.1 hc173
          have n70 := qhc173
          rw [J_X12_readsName_89.eq_1]
          refine ok_gC rfl ?_
          refine ok_zbX (Q := fun V => (V = 0 → ¬ σ167.1 218 14 = 0) ∧ (¬ V = 0 → σ167.1 218 14 = 0)) (x_X12_good) (fun v174 hqv174 => ?_)
          have hqv174 : (v174 = 0 → ¬ σ167.1 218 14 = 0) ∧ (¬ v174 = 0 → σ167.1 218 14 = 0) := hqv174
          try simp only [g7_σ167, g9_σ167, g10_σ167, g11_σ167, g12_σ167, g13_σ167, g20_σ167, g22_σ167, g23_σ167, g24_σ167, g25_σ167, hT.2 224 (by decide)] at hqv174
          refine ok_if (fun hc176 => ?_) (fun hc176 => ?_)
          · have qhc176 := hqv174.1 hc176
            have n94 := qhc176
            exact ok_some ⟨hT, (show (TOK σ167.1 ∧ (σ0.1 218 11).toInt ≤ (σ167.1 218 11).toInt ∧ (σ167.1 218 14 = 0 → (nmOK tx n i (σ0.1 231 0) ∧ (0 : Int32).toInt = (tx (tkF tx n i)).toInt - 97) ∧ RX σ167.1 tx n (tkE tx n i)) ∧ (¬ σ167.1 218 14 = 0 → ¬ nmOK tx n i (σ0.1 231 0)) ∧ 0 ≤ (0 : Int32).toInt ∧ (0 : Int32).toInt ≤ 9) ∧ (σ167.1 218 7 = σ0.1 218 7 ∧ σ167.1 218 9 = σ0.1 218 9 ∧ σ167.1 218 20 = σ0.1 218 20 ∧ σ167.1 218 22 = σ0.1 218 22 ∧ σ167.1 218 23 = σ0.1 218 23 ∧ σ167.1 218 24 = σ0.1 218 24 ∧ σ167.1 218 25 = σ0.1 218 25) from ⟨by first | exact ⟨hK, by (try simp only [g7_σ167, g9_σ167, g10_σ167, g11_σ167, g12_σ167, g13_σ167, g20_σ167, g22_σ167, g23_σ167, g24_σ167, g25_σ167]); omega, fun q => absurd q (by (try simp only [g7_σ167, g9_σ167, g10_σ167, g11_σ167, g12_σ167, g13_σ167, g20_σ167, g22_σ167, g23_σ167, g24_σ167, g25_σ167]); exact n94), fun _ q => m12 q.1, by first | decide | omega⟩ | exact ⟨hK, by (try simp only [g7_σ167, g9_σ167, g10_σ167, g11_σ167, g12_σ167, g13_σ167, g20_σ167, g22_σ167, g23_σ167, g24_σ167, g25_σ167]); omega, fun q => absurd q (by (try simp only [g7_σ167, g9_σ167, g10_σ167, g11_σ167, g12_σ167, g13_σ167, g20_σ167, g22_σ167, g23_σ167, g24_σ167, g25_σ167]); exact n94), fun _ q => l37 q.2.1, by first | decide | omega⟩ | exact ⟨hK, by (try simp only [g7_σ167, g9_σ167, g10_σ167, g11_σ167, g12_σ167, g13_σ167, g20_σ167, g22_σ167, g23_σ167, g24_σ167, g25_σ167]); omega, fun q => absurd q (by (try simp only [g7_σ167, g9_σ167, g10_σ167, g11_σ167, g12_σ167, g13_σ167, g20_σ167, g22_σ167, g23_σ167, g24_σ167, g25_σ167]); exact n94), fun _ q => l58 (by rw [ev48]; exact q.2.2), by first | decide | omega⟩ | exact ⟨hK, by (try simp only [g7_σ167, g9_σ167, g10_σ167, g11_σ167, g12_σ167, g13_σ167, g20_σ167, g22_σ167, g23_σ167, g24_σ167, g25_σ167]); omega, fun _ => ⟨⟨⟨k12, l37, by rw [← ev48]; exact l58⟩, r81⟩, g98⟩, fun q => absurd (by (try simp only [g7_σ167, g9_σ167, g10_σ167, g11_σ167, g12_σ167, g13_σ167, g20_σ167, g22_σ167, g23_σ167, g24_σ167, g25_σ167]); exact y94) q, by first | decide | omega⟩ | exact absurd y94 n70 | exact absurd y94 n63 | exact absurd y94 n24 | exact absurd y94 n17 | exact absurd y94 n4 | exact absurd y70 n94 | exact absurd hg n4 | exact absurd hg n24 | exact absurd hg n70 | exact absurd hg n94 | exact absurd y24 n94 | exact absurd y24 n70, g7_σ167, g9_σ167, g20_σ167, g22_σ167, g23_σ167, g24_σ167, g25_σ167⟩)⟩
          · have qhc176 := hqv174.2 hc176
            have y94 := qhc176
            refine ok_gC rfl ?_
            refine ok_zbT (Q := fun V σ => ((TOK σ.1 ∧ (σ167.1 218 10).toInt ≤ (σ.1 218 11).toInt) ∧ RX σ.1 tx n (tkE tx n i)) ∧ (σ.1 218 7 = σ167.1 218 7 ∧ σ.1 218 9 = σ167.1 218 9 ∧ σ.1 218 14 = σ167.1 218 14 ∧ σ.1 218 15 = σ167.1 218 15 ∧ σ.1 218 20 = σ167.1 218 20 ∧ σ.1 218 22 = σ167.1 218 22 ∧ σ.1 218 23 = σ167.1 218 23 ∧ σ.1 218 24 = σ167.1 218 24 ∧ σ.1 218 25 = σ167.1 218 25)) hT (s_X12_advance_r hN (hR.tr hT) (TOK_A hK) (by rw [hT.2 224 (by decide)]; exact hY) (RX_i g9_σ167 g10_σ167 g11_σ167 g12_σ167 g13_σ167 ((hT.2 224 (by decide)).trans tE) nE pK)) (by decide) (fun v177 σ178 hOσ178 hT hqv177 => ?_)
            have hqv177 : ((TOK σ178.1 ∧ (σ167.1 218 10).toInt ≤ (σ178.1 218 11).toInt) ∧ RX σ178.1 tx n (tkE tx n i)) ∧ (σ178.1 218 7 = σ167.1 218 7 ∧ σ178.1 218 9 = σ167.1 218 9 ∧ σ178.1 218 14 = σ167.1 218 14 ∧ σ178.1 218 15 = σ167.1 218 15 ∧ σ178.1 218 20 = σ167.1 218 20 ∧ σ178.1 218 22 = σ167.1 218 22 ∧ σ178.1 218 23 = σ167.1 218 23 ∧ σ178.1 218 24 = σ167.1 218 24 ∧ σ178.1 218 25 = σ167.1 218 25) := hqv177
            have hkv177 := hqv177
            have hqv177 := hqv177.1
            have hK : TOK σ178.1 := by first | exact hqv177.1 | exact hqv177.1.1 | exact TOK_p eσ178 (by decide) hK
            try simp only [g7_σ167, g9_σ167, g10_σ167, g11_σ167, g12_σ167, g13_σ167, g20_σ167, g22_σ167, g23_σ167, g24_σ167, g25_σ167] at hqv177
            have g7_σ178 : σ178.1 218 7 = (σ0.1 218 7) := (hkv177.2.1).trans g7_σ167
            have g9_σ178 : σ178.1 218 9 = (σ0.1 218 9) := (hkv177.2.2.1).trans g9_σ167
            have g14_σ178 : σ178.1 218 14 = (σ167.1 218 14) := hkv177.2.2.2.1
            have g15_σ178 : σ178.1 218 15 = (σ167.1 218 15) := hkv177.2.2.2.2.1
            have g20_σ178 : σ178.1 218 20 = (σ0.1 218 20) := (hkv177.2.2.2.2.2.1).trans g20_σ167
            have g22_σ178 : σ178.1 218 22 = (σ0.1 218 22) := (hkv177.2.2.2.2.2.2.1).trans g22_σ167
            have g23_σ178 : σ178.1 218 23 = (σ0.1 218 23) := (hkv177.2.2.2.2.2.2.2.1).trans g23_σ167
            have g24_σ178 : σ178.1 218 24 = (σ0.1 218 24) := (hkv177.2.2.2.2.2.2.2.2.1).trans g24_σ167
            have g25_σ178 : σ178.1 218 25 = (σ0.1 218 25) := (hkv177.2.2.2.2.2.2.2.2.2).trans g25_σ167
            have m98 := hqv177.1.2
            have g98 := hqv177.2
            exact ok_some ⟨hT, (show (TOK σ178.1 ∧ (σ0.1 218 11).toInt ≤ (σ178.1 218 11).toInt ∧ (σ178.1 218 14 = 0 → (nmOK tx n i (σ0.1 231 0) ∧ (0 : Int32).toInt = (tx (tkF tx n i)).toInt - 97) ∧ RX σ178.1 tx n (tkE tx n i)) ∧ (¬ σ178.1 218 14 = 0 → ¬ nmOK tx n i (σ0.1 231 0)) ∧ 0 ≤ (0 : Int32).toInt ∧ (0 : Int32).toInt ≤ 9) ∧ (σ178.1 218 7 = σ0.1 218 7 ∧ σ178.1 218 9 = σ0.1 218 9 ∧ σ178.1 218 20 = σ0.1 218 20 ∧ σ178.1 218 22 = σ0.1 218 22 ∧ σ178.1 218 23 = σ0.1 218 23 ∧ σ178.1 218 24 = σ0.1 218 24 ∧ σ178.1 218 25 = σ0.1 218 25) from ⟨by first | exact ⟨hK, by (try simp only [g7_σ178, g9_σ178, g14_σ178, g15_σ178, g20_σ178, g22_σ178, g23_σ178, g24_σ178, g25_σ178]); omega, fun q => absurd q (by (try simp only [g7_σ178, g9_σ178, g14_σ178, g15_σ178, g20_σ178, g22_σ178, g23_σ178, g24_σ178, g25_σ178]); exact n94), fun _ q => m12 q.1, by first | decide | omega⟩ | exact ⟨hK, by (try simp only [g7_σ178, g9_σ178, g14_σ178, g15_σ178, g20_σ178, g22_σ178, g23_σ178, g24_σ178, g25_σ178]); omega, fun q => absurd q (by (try simp only [g7_σ178, g9_σ178, g14_σ178, g15_σ178, g20_σ178, g22_σ178, g23_σ178, g24_σ178, g25_σ178]); exact n94), fun _ q => l37 q.2.1, by first | decide | omega⟩ | exact ⟨hK, by (try simp only [g7_σ178, g9_σ178, g14_σ178, g15_σ178, g20_σ178, g22_σ178, g23_σ178, g24_σ178, g25_σ178]); omega, fun q => absurd q (by (try simp only [g7_σ178, g9_σ178, g14_σ178, g15_σ178, g20_σ178, g22_σ178, g23_σ178, g24_σ178, g25_σ178]); exact n94), fun _ q => l58 (by rw [ev48]; exact q.2.2), by first | decide | omega⟩ | exact ⟨hK, by (try simp only [g7_σ178, g9_σ178, g14_σ178, g15_σ178, g20_σ178, g22_σ178, g23_σ178, g24_σ178, g25_σ178]); omega, fun _ => ⟨⟨⟨k12, l37, by rw [← ev48]; exact l58⟩, r81⟩, g98⟩, fun q => absurd (by (try simp only [g7_σ178, g9_σ178, g14_σ178, g15_σ178, g20_σ178, g22_σ178, g23_σ178, g24_σ178, g25_σ178]); exact y94) q, by first | decide | omega⟩ | exact absurd y94 n70 | exact absurd y94 n63 | exact absurd y94 n24 | exact absurd y94 n17 | exact absurd y94 n4 | exact absurd y70 n94 | exact absurd hg n4 | exact absurd hg n24 | exact absurd hg n70 | exact absurd hg n94 | exact absurd y24 n94 | exact absurd y24 n70, g7_σ178, g9_σ178, g20_σ178, g22_σ178, g23_σ178, g24_σ178, g25_σ178⟩)⟩
        · have qhc173 := hqv171.2 hc173
          have y70 := qhc173
          refine ok_gR (v := 224) hT rfl (hR 218 6 rfl) ?_
          refine ok_gIv rfl g11_σ167 ?_
          refine ok_aIn rfl (by ((try simp only [g7_σ167, g9_σ167, g10_σ167, g11_σ167, g12_σ167, g13_σ167, g20_σ167, g22_σ167, g23_σ167, g24_σ167, g25_σ167])); first | omega | decide | (simp only [Int32.le_iff_toInt_le, Int32.lt_iff_toInt_lt, ti_add, ti_sub, ti_mul, Int32.reduceToInt] at *; omega)) (by first | omega | exact absurd y70 n63 | exact absurd y70 n24 | exact absurd y70 n17 | exact absurd y70 n4) (fun v181 ev181 => ?_)
          have ev81 : v181 = tx (σ0.1 218 11).toInt.toNat := by first | (rw [ev181, hT.2 224 (by decide), tE]; rfl) | exact absurd y70 n63 | exact absurd y70 n24 | exact absurd y70 n17 | exact absurd y70 n4
          have t81 : 97 ≤ v181.toInt ∧ v181.toInt ≤ 122 := by first | (rw [ev81, ← tE]; exact w12 (σ0.1 218 11).toInt.toNat (by omega) (by omega)) | exact absurd y70 n63 | exact absurd y70 n24 | exact absurd y70 n17 | exact absurd y70 n4
          have s81 : (v181 - 97).toInt = v181.toInt - 97 := by rw [ti_sub]; simp only [Int32.reduceToInt]; omega
          rw [show (σ0.1 218 11).toInt.toNat = tkF tx n i by omega] at ev81
          have b81 : (v181 - 97).toInt ≤ 9 := by first | (rw [ev81.trans ev48.symm, s48]; have h0 := hF.1.1; omega) | exact absurd y70 n63 | exact absurd y70 n24 | exact absurd y70 n17 | exact absurd y70 n4
          have r81 : (v181 - 97).toInt = (tx (tkF tx n i)).toInt - 97 := by rw [s81, ev81]
          rw [J_X12_readsName_89.eq_1]
          refine ok_gC rfl ?_
          refine ok_zbX (Q := fun V => (V = 0 → ¬ σ167.1 218 14 = 0) ∧ (¬ V = 0 → σ167.1 218 14 = 0)) (x_X12_good) (fun v182 hqv182 => ?_)
          have hqv182 : (v182 = 0 → ¬ σ167.1 218 14 = 0) ∧ (¬ v182 = 0 → σ167.1 218 14 = 0) := hqv182
          try simp only [g7_σ167, g9_σ167, g10_σ167, g11_σ167, g12_σ167, g13_σ167, g20_σ167, g22_σ167, g23_σ167, g24_σ167, g25_σ167, hT.2 224 (by decide)] at hqv182
          refine ok_if (fun hc184 => ?_) (fun hc184 => ?_)
          · have qhc184 := hqv182.1 hc184
            have n94 := qhc184
            exact ok_some ⟨hT, (show (TOK σ167.1 ∧ (σ0.1 218 11).toInt ≤ (σ167.1 218 11).toInt ∧ (σ167.1 218 14 = 0 → (nmOK tx n i (σ0.1 231 0) ∧ (v181 - 97).toInt = (tx (tkF tx n i)).toInt - 97) ∧ RX σ167.1 tx n (tkE tx n i)) ∧ (¬ σ167.1 218 14 = 0 → ¬ nmOK tx n i (σ0.1 231 0)) ∧ 0 ≤ (v181 - 97).toInt ∧ (v181 - 97).toInt ≤ 9) ∧ (σ167.1 218 7 = σ0.1 218 7 ∧ σ167.1 218 9 = σ0.1 218 9 ∧ σ167.1 218 20 = σ0.1 218 20 ∧ σ167.1 218 22 = σ0.1 218 22 ∧ σ167.1 218 23 = σ0.1 218 23 ∧ σ167.1 218 24 = σ0.1 218 24 ∧ σ167.1 218 25 = σ0.1 218 25) from ⟨by first | exact ⟨hK, by (try simp only [g7_σ167, g9_σ167, g10_σ167, g11_σ167, g12_σ167, g13_σ167, g20_σ167, g22_σ167, g23_σ167, g24_σ167, g25_σ167]); omega, fun q => absurd q (by (try simp only [g7_σ167, g9_σ167, g10_σ167, g11_σ167, g12_σ167, g13_σ167, g20_σ167, g22_σ167, g23_σ167, g24_σ167, g25_σ167]); exact n94), fun _ q => m12 q.1, by first | decide | omega⟩ | exact ⟨hK, by (try simp only [g7_σ167, g9_σ167, g10_σ167, g11_σ167, g12_σ167, g13_σ167, g20_σ167, g22_σ167, g23_σ167, g24_σ167, g25_σ167]); omega, fun q => absurd q (by (try simp only [g7_σ167, g9_σ167, g10_σ167, g11_σ167, g12_σ167, g13_σ167, g20_σ167, g22_σ167, g23_σ167, g24_σ167, g25_σ167]); exact n94), fun _ q => l37 q.2.1, by first | decide | omega⟩ | exact ⟨hK, by (try simp only [g7_σ167, g9_σ167, g10_σ167, g11_σ167, g12_σ167, g13_σ167, g20_σ167, g22_σ167, g23_σ167, g24_σ167, g25_σ167]); omega, fun q => absurd q (by (try simp only [g7_σ167, g9_σ167, g10_σ167, g11_σ167, g12_σ167, g13_σ167, g20_σ167, g22_σ167, g23_σ167, g24_σ167, g25_σ167]); exact n94), fun _ q => l58 (by rw [ev48]; exact q.2.2), by first | decide | omega⟩ | exact ⟨hK, by (try simp only [g7_σ167, g9_σ167, g10_σ167, g11_σ167, g12_σ167, g13_σ167, g20_σ167, g22_σ167, g23_σ167, g24_σ167, g25_σ167]); omega, fun _ => ⟨⟨⟨k12, l37, by rw [← ev48]; exact l58⟩, r81⟩, g98⟩, fun q => absurd (by (try simp only [g7_σ167, g9_σ167, g10_σ167, g11_σ167, g12_σ167, g13_σ167, g20_σ167, g22_σ167, g23_σ167, g24_σ167, g25_σ167]); exact y94) q, by first | decide | omega⟩ | exact absurd y94 n70 | exact absurd y94 n63 | exact absurd y94 n24 | exact absurd y94 n17 | exact absurd y94 n4 | exact absurd y70 n94 | exact absurd hg n4 | exact absurd hg n24 | exact absurd hg n70 | exact absurd hg n94 | exact absurd y24 n94 | exact absurd y24 n70, g7_σ167, g9_σ167, g20_σ167, g22_σ167, g23_σ167, g24_σ167, g25_σ167⟩)⟩
          · have qhc184 := hqv182.2 hc184
            have y94 := qhc184
            refine ok_gC rfl ?_
            refine ok_zbT (Q := fun V σ => ((TOK σ.1 ∧ (σ167.1 218 10).toInt ≤ (σ.1 218 11).toInt) ∧ RX σ.1 tx n (tkE tx n i)) ∧ (σ.1 218 7 = σ167.1 218 7 ∧ σ.1 218 9 = σ167.1 218 9 ∧ σ.1 218 14 = σ167.1 218 14 ∧ σ.1 218 15 = σ167.1 218 15 ∧ σ.1 218 20 = σ167.1 218 20 ∧ σ.1 218 22 = σ167.1 218 22 ∧ σ.1 218 23 = σ167.1 218 23 ∧ σ.1 218 24 = σ167.1 218 24 ∧ σ.1 218 25 = σ167.1 218 25)) hT (s_X12_advance_r hN (hR.tr hT) (TOK_A hK) (by rw [hT.2 224 (by decide)]; exact hY) (RX_i g9_σ167 g10_σ167 g11_σ167 g12_σ167 g13_σ167 ((hT.2 224 (by decide)).trans tE) nE pK)) (by decide) (fun v185 σ186 hOσ186 hT hqv185 => ?_)
            have hqv185 : ((TOK σ186.1 ∧ (σ167.1 218 10).toInt ≤ (σ186.1 218 11).toInt) ∧ RX σ186.1 tx n (tkE tx n i)) ∧ (σ186.1 218 7 = σ167.1 218 7 ∧ σ186.1 218 9 = σ167.1 218 9 ∧ σ186.1 218 14 = σ167.1 218 14 ∧ σ186.1 218 15 = σ167.1 218 15 ∧ σ186.1 218 20 = σ167.1 218 20 ∧ σ186.1 218 22 = σ167.1 218 22 ∧ σ186.1 218 23 = σ167.1 218 23 ∧ σ186.1 218 24 = σ167.1 218 24 ∧ σ186.1 218 25 = σ167.1 218 25) := hqv185
            have hkv185 := hqv185
            have hqv185 := hqv185.1
            have hK : TOK σ186.1 := by first | exact hqv185.1 | exact hqv185.1.1 | exact TOK_p eσ186 (by decide) hK
            try simp only [g7_σ167, g9_σ167, g10_σ167, g11_σ167, g12_σ167, g13_σ167, g20_σ167, g22_σ167, g23_σ167, g24_σ167, g25_σ167] at hqv185
            have g7_σ186 : σ186.1 218 7 = (σ0.1 218 7) := (hkv185.2.1).trans g7_σ167
            have g9_σ186 : σ186.1 218 9 = (σ0.1 218 9) := (hkv185.2.2.1).trans g9_σ167
            have g14_σ186 : σ186.1 218 14 = (σ167.1 218 14) := hkv185.2.2.2.1
            have g15_σ186 : σ186.1 218 15 = (σ167.1 218 15) := hkv185.2.2.2.2.1
            have g20_σ186 : σ186.1 218 20 = (σ0.1 218 20) := (hkv185.2.2.2.2.2.1).trans g20_σ167
            have g22_σ186 : σ186.1 218 22 = (σ0.1 218 22) := (hkv185.2.2.2.2.2.2.1).trans g22_σ167
            have g23_σ186 : σ186.1 218 23 = (σ0.1 218 23) := (hkv185.2.2.2.2.2.2.2.1).trans g23_σ167
            have g24_σ186 : σ186.1 218 24 = (σ0.1 218 24) := (hkv185.2.2.2.2.2.2.2.2.1).trans g24_σ167
            have g25_σ186 : σ186.1 218 25 = (σ0.1 218 25) := (hkv185.2.2.2.2.2.2.2.2.2).trans g25_σ167
            have m98 := hqv185.1.2
            have g98 := hqv185.2
            exact ok_some ⟨hT, (show (TOK σ186.1 ∧ (σ0.1 218 11).toInt ≤ (σ186.1 218 11).toInt ∧ (σ186.1 218 14 = 0 → (nmOK tx n i (σ0.1 231 0) ∧ (v181 - 97).toInt = (tx (tkF tx n i)).toInt - 97) ∧ RX σ186.1 tx n (tkE tx n i)) ∧ (¬ σ186.1 218 14 = 0 → ¬ nmOK tx n i (σ0.1 231 0)) ∧ 0 ≤ (v181 - 97).toInt ∧ (v181 - 97).toInt ≤ 9) ∧ (σ186.1 218 7 = σ0.1 218 7 ∧ σ186.1 218 9 = σ0.1 218 9 ∧ σ186.1 218 20 = σ0.1 218 20 ∧ σ186.1 218 22 = σ0.1 218 22 ∧ σ186.1 218 23 = σ0.1 218 23 ∧ σ186.1 218 24 = σ0.1 218 24 ∧ σ186.1 218 25 = σ0.1 218 25) from ⟨by first | exact ⟨hK, by (try simp only [g7_σ186, g9_σ186, g14_σ186, g15_σ186, g20_σ186, g22_σ186, g23_σ186, g24_σ186, g25_σ186]); omega, fun q => absurd q (by (try simp only [g7_σ186, g9_σ186, g14_σ186, g15_σ186, g20_σ186, g22_σ186, g23_σ186, g24_σ186, g25_σ186]); exact n94), fun _ q => m12 q.1, by first | decide | omega⟩ | exact ⟨hK, by (try simp only [g7_σ186, g9_σ186, g14_σ186, g15_σ186, g20_σ186, g22_σ186, g23_σ186, g24_σ186, g25_σ186]); omega, fun q => absurd q (by (try simp only [g7_σ186, g9_σ186, g14_σ186, g15_σ186, g20_σ186, g22_σ186, g23_σ186, g24_σ186, g25_σ186]); exact n94), fun _ q => l37 q.2.1, by first | decide | omega⟩ | exact ⟨hK, by (try simp only [g7_σ186, g9_σ186, g14_σ186, g15_σ186, g20_σ186, g22_σ186, g23_σ186, g24_σ186, g25_σ186]); omega, fun q => absurd q (by (try simp only [g7_σ186, g9_σ186, g14_σ186, g15_σ186, g20_σ186, g22_σ186, g23_σ186, g24_σ186, g25_σ186]); exact n94), fun _ q => l58 (by rw [ev48]; exact q.2.2), by first | decide | omega⟩ | exact ⟨hK, by (try simp only [g7_σ186, g9_σ186, g14_σ186, g15_σ186, g20_σ186, g22_σ186, g23_σ186, g24_σ186, g25_σ186]); omega, fun _ => ⟨⟨⟨k12, l37, by rw [← ev48]; exact l58⟩, r81⟩, g98⟩, fun q => absurd (by (try simp only [g7_σ186, g9_σ186, g14_σ186, g15_σ186, g20_σ186, g22_σ186, g23_σ186, g24_σ186, g25_σ186]); exact y94) q, by first | decide | omega⟩ | exact absurd y94 n70 | exact absurd y94 n63 | exact absurd y94 n24 | exact absurd y94 n17 | exact absurd y94 n4 | exact absurd y70 n94 | exact absurd hg n4 | exact absurd hg n24 | exact absurd hg n70 | exact absurd hg n94 | exact absurd y24 n94 | exact absurd y24 n70, g7_σ186, g9_σ186, g20_σ186, g22_σ186, g23_σ186, g24_σ186, g25_σ186⟩)⟩
      · have qhc170 := hqv168.2 hc170
        have y24 := qhc170
        have s24 : ((σ0.1 218 10) - (σ0.1 218 11)).toInt = (σ0.1 218 10).toInt - (σ0.1 218 11).toInt := by rw [ti_sub]; omega
        refine ok_gIv rfl g10_σ167 ?_
        refine ok_gIv rfl g11_σ167 ?_
        refine ok_if (fun hc189 => ?_) (fun hc189 => ?_)
        · have l37 : ¬ tkE tx n i = tkF tx n i + 1 := by first | (have q9 := hc189; rw [Int32.lt_iff_toInt_lt, s24] at q9; simp only [Int32.reduceToInt] at q9; omega) | exact absurd y24 n4 | exact absurd y24 n17
          refine ok_gC rfl ?_
          refine ok_zbT (Q := fun V σ => (TOK σ.1 ∧ ¬ σ.1 218 14 = 0) ∧ (σ.1 218 7 = σ167.1 218 7 ∧ σ.1 218 9 = σ167.1 218 9 ∧ σ.1 218 10 = σ167.1 218 10 ∧ σ.1 218 11 = σ167.1 218 11 ∧ σ.1 218 12 = σ167.1 218 12 ∧ σ.1 218 13 = σ167.1 218 13 ∧ σ.1 218 20 = σ167.1 218 20 ∧ σ.1 218 22 = σ167.1 218 22 ∧ σ.1 218 23 = σ167.1 218 23 ∧ σ.1 218 24 = σ167.1 218 24 ∧ σ.1 218 25 = σ167.1 218 25)) hT (s_X12_errs hN (hR.tr hT) (hK) (by rw [hT.2 224 (by decide)]; exact hY) (by decide)) (by decide) (fun v190 σ191 hOσ191 hT hqv190 => ?_)
          have hqv190 : (TOK σ191.1 ∧ ¬ σ191.1 218 14 = 0) ∧ (σ191.1 218 7 = σ167.1 218 7 ∧ σ191.1 218 9 = σ167.1 218 9 ∧ σ191.1 218 10 = σ167.1 218 10 ∧ σ191.1 218 11 = σ167.1 218 11 ∧ σ191.1 218 12 = σ167.1 218 12 ∧ σ191.1 218 13 = σ167.1 218 13 ∧ σ191.1 218 20 = σ167.1 218 20 ∧ σ191.1 218 22 = σ167.1 218 22 ∧ σ191.1 218 23 = σ167.1 218 23 ∧ σ191.1 218 24 = σ167.1 218 24 ∧ σ191.1 218 25 = σ167.1 218 25) := hqv190
          have hkv190 := hqv190
          have hqv190 := hqv190.1
          have hK : TOK σ191.1 := by first | exact hqv190.1 | exact hqv190.1.1 | exact TOK_p eσ191 (by decide) hK
          try simp only [g7_σ167, g9_σ167, g10_σ167, g11_σ167, g12_σ167, g13_σ167, g20_σ167, g22_σ167, g23_σ167, g24_σ167, g25_σ167] at hqv190
          have g7_σ191 : σ191.1 218 7 = (σ0.1 218 7) := (hkv190.2.1).trans g7_σ167
          have g9_σ191 : σ191.1 218 9 = (σ0.1 218 9) := (hkv190.2.2.1).trans g9_σ167
          have g10_σ191 : σ191.1 218 10 = (σ0.1 218 10) := (hkv190.2.2.2.1).trans g10_σ167
          have g11_σ191 : σ191.1 218 11 = (σ0.1 218 11) := (hkv190.2.2.2.2.1).trans g11_σ167
          have g12_σ191 : σ191.1 218 12 = (σ0.1 218 12) := (hkv190.2.2.2.2.2.1).trans g12_σ167
          have g13_σ191 : σ191.1 218 13 = (σ0.1 218 13) := (hkv190.2.2.2.2.2.2.1).trans g13_σ167
          have g20_σ191 : σ191.1 218 20 = (σ0.1 218 20) := (hkv190.2.2.2.2.2.2.2.1).trans g20_σ167
          have g22_σ191 : σ191.1 218 22 = (σ0.1 218 22) := (hkv190.2.2.2.2.2.2.2.2.1).trans g22_σ167
          have g23_σ191 : σ191.1 218 23 = (σ0.1 218 23) := (hkv190.2.2.2.2.2.2.2.2.2.1).trans g23_σ167
          have g24_σ191 : σ191.1 218 24 = (σ0.1 218 24) := (hkv190.2.2.2.2.2.2.2.2.2.2.1).trans g24_σ167
          have g25_σ191 : σ191.1 218 25 = (σ0.1 218 25) := (hkv190.2.2.2.2.2.2.2.2.2.2.2).trans g25_σ167
          have n63 := hqv190.2
          rw [J_X12_readsName_66.eq_1]
          refine ok_gC rfl ?_
          refine ok_zbX (Q := fun V => (V = 0 → ¬ σ191.1 218 14 = 0) ∧ (¬ V = 0 → σ191.1 218 14 = 0)) (x_X12_good) (fun v192 hqv192 => ?_)
          have hqv192 : (v192 = 0 → ¬ σ191.1 218 14 = 0) ∧ (¬ v192 = 0 → σ191.1 218 14 = 0) := hqv192
          try simp only [g7_σ191, g9_σ191, g10_σ191, g11_σ191, g12_σ191, g13_σ191, g20_σ191, g22_σ191, g23_σ191, g24_σ191, g25_σ191, hT.2 224 (by decide)] at hqv192
          refine ok_if (fun hc194 => ?_) (fun hc194 => ?_)
          · have qhc194 := hqv192.1 hc194
            have n70 := qhc194
            rw [J_X12_readsName_89.eq_1]
            refine ok_gC rfl ?_
            refine ok_zbX (Q := fun V => (V = 0 → ¬ σ191.1 218 14 = 0) ∧ (¬ V = 0 → σ191.1 218 14 = 0)) (x_X12_good) (fun v195 hqv195 => ?_)
            have hqv195 : (v195 = 0 → ¬ σ191.1 218 14 = 0) ∧ (¬ v195 = 0 → σ191.1 218 14 = 0) := hqv195
            try simp only [g7_σ191, g9_σ191, g10_σ191, g11_σ191, g12_σ191, g13_σ191, g20_σ191, g22_σ191, g23_σ191, g24_σ191, g25_σ191, hT.2 224 (by decide)] at hqv195
            refine ok_if (fun hc197 => ?_) (fun hc197 => ?_)
            · have qhc197 := hqv195.1 hc197
              have n94 := qhc197
              exact ok_some ⟨hT, (show (TOK σ191.1 ∧ (σ0.1 218 11).toInt ≤ (σ191.1 218 11).toInt ∧ (σ191.1 218 14 = 0 → (nmOK tx n i (σ0.1 231 0) ∧ (0 : Int32).toInt = (tx (tkF tx n i)).toInt - 97) ∧ RX σ191.1 tx n (tkE tx n i)) ∧ (¬ σ191.1 218 14 = 0 → ¬ nmOK tx n i (σ0.1 231 0)) ∧ 0 ≤ (0 : Int32).toInt ∧ (0 : Int32).toInt ≤ 9) ∧ (σ191.1 218 7 = σ0.1 218 7 ∧ σ191.1 218 9 = σ0.1 218 9 ∧ σ191.1 218 20 = σ0.1 218 20 ∧ σ191.1 218 22 = σ0.1 218 22 ∧ σ191.1 218 23 = σ0.1 218 23 ∧ σ191.1 218 24 = σ0.1 218 24 ∧ σ191.1 218 25 = σ0.1 218 25) from ⟨by first | exact ⟨hK, by (try simp only [g7_σ191, g9_σ191, g10_σ191, g11_σ191, g12_σ191, g13_σ191, g20_σ191, g22_σ191, g23_σ191, g24_σ191, g25_σ191]); omega, fun q => absurd q (by (try simp only [g7_σ191, g9_σ191, g10_σ191, g11_σ191, g12_σ191, g13_σ191, g20_σ191, g22_σ191, g23_σ191, g24_σ191, g25_σ191]); exact n94), fun _ q => m12 q.1, by first | decide | omega⟩ | exact ⟨hK, by (try simp only [g7_σ191, g9_σ191, g10_σ191, g11_σ191, g12_σ191, g13_σ191, g20_σ191, g22_σ191, g23_σ191, g24_σ191, g25_σ191]); omega, fun q => absurd q (by (try simp only [g7_σ191, g9_σ191, g10_σ191, g11_σ191, g12_σ191, g13_σ191, g20_σ191, g22_σ191, g23_σ191, g24_σ191, g25_σ191]); exact n94), fun _ q => l37 q.2.1, by first | decide | omega⟩ | exact ⟨hK, by (try simp only [g7_σ191, g9_σ191, g10_σ191, g11_σ191, g12_σ191, g13_σ191, g20_σ191, g22_σ191, g23_σ191, g24_σ191, g25_σ191]); omega, fun q => absurd q (by (try simp only [g7_σ191, g9_σ191, g10_σ191, g11_σ191, g12_σ191, g13_σ191, g20_σ191, g22_σ191, g23_σ191, g24_σ191, g25_σ191]); exact n94), fun _ q => l58 (by rw [ev48]; exact q.2.2), by first | decide | omega⟩ | exact ⟨hK, by (try simp only [g7_σ191, g9_σ191, g10_σ191, g11_σ191, g12_σ191, g13_σ191, g20_σ191, g22_σ191, g23_σ191, g24_σ191, g25_σ191]); omega, fun _ => ⟨⟨⟨k12, l37, by rw [← ev48]; exact l58⟩, r81⟩, g98⟩, fun q => absurd (by (try simp only [g7_σ191, g9_σ191, g10_σ191, g11_σ191, g12_σ191, g13_σ191, g20_σ191, g22_σ191, g23_σ191, g24_σ191, g25_σ191]); exact y94) q, by first | decide | omega⟩ | exact absurd y94 n70 | exact absurd y94 n63 | exact absurd y94 n24 | exact absurd y94 n17 | exact absurd y94 n4 | exact absurd y70 n94 | exact absurd hg n4 | exact absurd hg n24 | exact absurd hg n70 | exact absurd hg n94 | exact absurd y24 n94 | exact absurd y24 n70, g7_σ191, g9_σ191, g20_σ191, g22_σ191, g23_σ191, g24_σ191, g25_σ191⟩)⟩
            · have qhc197 := hqv195.2 hc197
              have y94 := qhc197
              refine ok_gC rfl ?_
              refine ok_zbT (Q := fun V σ => ((TOK σ.1 ∧ (σ191.1 218 10).toInt ≤ (σ.1 218 11).toInt) ∧ RX σ.1 tx n (tkE tx n i)) ∧ (σ.1 218 7 = σ191.1 218 7 ∧ σ.1 218 9 = σ191.1 218 9 ∧ σ.1 218 14 = σ191.1 218 14 ∧ σ.1 218 15 = σ191.1 218 15 ∧ σ.1 218 20 = σ191.1 218 20 ∧ σ.1 218 22 = σ191.1 218 22 ∧ σ.1 218 23 = σ191.1 218 23 ∧ σ.1 218 24 = σ191.1 218 24 ∧ σ.1 218 25 = σ191.1 218 25)) hT (s_X12_advance_r hN (hR.tr hT) (TOK_A hK) (by rw [hT.2 224 (by decide)]; exact hY) (RX_i g9_σ191 g10_σ191 g11_σ191 g12_σ191 g13_σ191 ((hT.2 224 (by decide)).trans tE) nE pK)) (by decide) (fun v198 σ199 hOσ199 hT hqv198 => ?_)
              have hqv198 : ((TOK σ199.1 ∧ (σ191.1 218 10).toInt ≤ (σ199.1 218 11).toInt) ∧ RX σ199.1 tx n (tkE tx n i)) ∧ (σ199.1 218 7 = σ191.1 218 7 ∧ σ199.1 218 9 = σ191.1 218 9 ∧ σ199.1 218 14 = σ191.1 218 14 ∧ σ199.1 218 15 = σ191.1 218 15 ∧ σ199.1 218 20 = σ191.1 218 20 ∧ σ199.1 218 22 = σ191.1 218 22 ∧ σ199.1 218 23 = σ191.1 218 23 ∧ σ199.1 218 24 = σ191.1 218 24 ∧ σ199.1 218 25 = σ191.1 218 25) := hqv198
              have hkv198 := hqv198
              have hqv198 := hqv198.1
              have hK : TOK σ199.1 := by first | exact hqv198.1 | exact hqv198.1.1 | exact TOK_p eσ199 (by decide) hK
              try simp only [g7_σ191, g9_σ191, g10_σ191, g11_σ191, g12_σ191, g13_σ191, g20_σ191, g22_σ191, g23_σ191, g24_σ191, g25_σ191] at hqv198
              have g7_σ199 : σ199.1 218 7 = (σ0.1 218 7) := (hkv198.2.1).trans g7_σ191
              have g9_σ199 : σ199.1 218 9 = (σ0.1 218 9) := (hkv198.2.2.1).trans g9_σ191
              have g14_σ199 : σ199.1 218 14 = (σ191.1 218 14) := hkv198.2.2.2.1
              have g15_σ199 : σ199.1 218 15 = (σ191.1 218 15) := hkv198.2.2.2.2.1
              have g20_σ199 : σ199.1 218 20 = (σ0.1 218 20) := (hkv198.2.2.2.2.2.1).trans g20_σ191
              have g22_σ199 : σ199.1 218 22 = (σ0.1 218 22) := (hkv198.2.2.2.2.2.2.1).trans g22_σ191
              have g23_σ199 : σ199.1 218 23 = (σ0.1 218 23) := (hkv198.2.2.2.2.2.2.2.1).trans g23_σ191
              have g24_σ199 : σ199.1 218 24 = (σ0.1 218 24) := (hkv198.2.2.2.2.2.2.2.2.1).trans g24_σ191
              have g25_σ199 : σ199.1 218 25 = (σ0.1 218 25) := (hkv198.2.2.2.2.2.2.2.2.2).trans g25_σ191
              have m98 := hqv198.1.2
              have g98 := hqv198.2
              exact ok_some ⟨hT, (show (TOK σ199.1 ∧ (σ0.1 218 11).toInt ≤ (σ199.1 218 11).toInt ∧ (σ199.1 218 14 = 0 → (nmOK tx n i (σ0.1 231 0) ∧ (0 : Int32).toInt = (tx (tkF tx n i)).toInt - 97) ∧ RX σ199.1 tx n (tkE tx n i)) ∧ (¬ σ199.1 218 14 = 0 → ¬ nmOK tx n i (σ0.1 231 0)) ∧ 0 ≤ (0 : Int32).toInt ∧ (0 : Int32).toInt ≤ 9) ∧ (σ199.1 218 7 = σ0.1 218 7 ∧ σ199.1 218 9 = σ0.1 218 9 ∧ σ199.1 218 20 = σ0.1 218 20 ∧ σ199.1 218 22 = σ0.1 218 22 ∧ σ199.1 218 23 = σ0.1 218 23 ∧ σ199.1 218 24 = σ0.1 218 24 ∧ σ199.1 218 25 = σ0.1 218 25) from ⟨by first | exact ⟨hK, by (try simp only [g7_σ199, g9_σ199, g14_σ199, g15_σ199, g20_σ199, g22_σ199, g23_σ199, g24_σ199, g25_σ199]); omega, fun q => absurd q (by (try simp only [g7_σ199, g9_σ199, g14_σ199, g15_σ199, g20_σ199, g22_σ199, g23_σ199, g24_σ199, g25_σ199]); exact n94), fun _ q => m12 q.1, by first | decide | omega⟩ | exact ⟨hK, by (try simp only [g7_σ199, g9_σ199, g14_σ199, g15_σ199, g20_σ199, g22_σ199, g23_σ199, g24_σ199, g25_σ199]); omega, fun q => absurd q (by (try simp only [g7_σ199, g9_σ199, g14_σ199, g15_σ199, g20_σ199, g22_σ199, g23_σ199, g24_σ199, g25_σ199]); exact n94), fun _ q => l37 q.2.1, by first | decide | omega⟩ | exact ⟨hK, by (try simp only [g7_σ199, g9_σ199, g14_σ199, g15_σ199, g20_σ199, g22_σ199, g23_σ199, g24_σ199, g25_σ199]); omega, fun q => absurd q (by (try simp only [g7_σ199, g9_σ199, g14_σ199, g15_σ199, g20_σ199, g22_σ199, g23_σ199, g24_σ199, g25_σ199]); exact n94), fun _ q => l58 (by rw [ev48]; exact q.2.2), by first | decide | omega⟩ | exact ⟨hK, by (try simp only [g7_σ199, g9_σ199, g14_σ199, g15_σ199, g20_σ199, g22_σ199, g23_σ199, g24_σ199, g25_σ199]); omega, fun _ => ⟨⟨⟨k12, l37, by rw [← ev48]; exact l58⟩, r81⟩, g98⟩, fun q => absurd (by (try simp only [g7_σ199, g9_σ199, g14_σ199, g15_σ199, g20_σ199, g22_σ199, g23_σ199, g24_σ199, g25_σ199]); exact y94) q, by first | decide | omega⟩ | exact absurd y94 n70 | exact absurd y94 n63 | exact absurd y94 n24 | exact absurd y94 n17 | exact absurd y94 n4 | exact absurd y70 n94 | exact absurd hg n4 | exact absurd hg n24 | exact absurd hg n70 | exact absurd hg n94 | exact absurd y24 n94 | exact absurd y24 n70, g7_σ199, g9_σ199, g20_σ199, g22_σ199, g23_σ199, g24_σ199, g25_σ199⟩)⟩
          · have qhc194 := hqv192.2 hc194
            have y70 := qhc194
            refine ok_gR (v := 224) hT rfl (hR 218 6 rfl) ?_
            refine ok_gIv rfl g11_σ191 ?_
            refine ok_aIn rfl (by ((try simp only [g7_σ191, g9_σ191, g10_σ191, g11_σ191, g12_σ191, g13_σ191, g20_σ191, g22_σ191, g23_σ191, g24_σ191, g25_σ191])); first | omega | decide | (simp only [Int32.le_iff_toInt_le, Int32.lt_iff_toInt_lt, ti_add, ti_sub, ti_mul, Int32.reduceToInt] at *; omega)) (by first | omega | exact absurd y70 n63 | exact absurd y70 n24 | exact absurd y70 n17 | exact absurd y70 n4) (fun v202 ev202 => ?_)
            have ev81 : v202 = tx (σ0.1 218 11).toInt.toNat := by first | (rw [ev202, hT.2 224 (by decide), tE]; rfl) | exact absurd y70 n63 | exact absurd y70 n24 | exact absurd y70 n17 | exact absurd y70 n4
            have t81 : 97 ≤ v202.toInt ∧ v202.toInt ≤ 122 := by first | (rw [ev81, ← tE]; exact w12 (σ0.1 218 11).toInt.toNat (by omega) (by omega)) | exact absurd y70 n63 | exact absurd y70 n24 | exact absurd y70 n17 | exact absurd y70 n4
            have s81 : (v202 - 97).toInt = v202.toInt - 97 := by rw [ti_sub]; simp only [Int32.reduceToInt]; omega
            rw [show (σ0.1 218 11).toInt.toNat = tkF tx n i by omega] at ev81
            have b81 : (v202 - 97).toInt ≤ 9 := by first | (rw [ev81.trans ev48.symm, s48]; have h0 := hF.1.1; omega) | exact absurd y70 n63 | exact absurd y70 n24 | exact absurd y70 n17 | exact absurd y70 n4
            have r81 : (v202 - 97).toInt = (tx (tkF tx n i)).toInt - 97 := by rw [s81, ev81]
            rw [J_X12_readsName_89.eq_1]
            refine ok_gC rfl ?_
            refine ok_zbX (Q := fun V => (V = 0 → ¬ σ191.1 218 14 = 0) ∧ (¬ V = 0 → σ191.1 218 14 = 0)) (x_X12_good) (fun v203 hqv203 => ?_)
            have hqv203 : (v203 = 0 → ¬ σ191.1 218 14 = 0) ∧ (¬ v203 = 0 → σ191.1 218 14 = 0) := hqv203
            try simp only [g7_σ191, g9_σ191, g10_σ191, g11_σ191, g12_σ191, g13_σ191, g20_σ191, g22_σ191, g23_σ191, g24_σ191, g25_σ191, hT.2 224 (by decide)] at hqv203
            refine ok_if (fun hc205 => ?_) (fun hc205 => ?_)
            · have qhc205 := hqv203.1 hc205
              have n94 := qhc205
              exact ok_some ⟨hT, (show (TOK σ191.1 ∧ (σ0.1 218 11).toInt ≤ (σ191.1 218 11).toInt ∧ (σ191.1 218 14 = 0 → (nmOK tx n i (σ0.1 231 0) ∧ (v202 - 97).toInt = (tx (tkF tx n i)).toInt - 97) ∧ RX σ191.1 tx n (tkE tx n i)) ∧ (¬ σ191.1 218 14 = 0 → ¬ nmOK tx n i (σ0.1 231 0)) ∧ 0 ≤ (v202 - 97).toInt ∧ (v202 - 97).toInt ≤ 9) ∧ (σ191.1 218 7 = σ0.1 218 7 ∧ σ191.1 218 9 = σ0.1 218 9 ∧ σ191.1 218 20 = σ0.1 218 20 ∧ σ191.1 218 22 = σ0.1 218 22 ∧ σ191.1 218 23 = σ0.1 218 23 ∧ σ191.1 218 24 = σ0.1 218 24 ∧ σ191.1 218 25 = σ0.1 218 25) from ⟨by first | exact ⟨hK, by (try simp only [g7_σ191, g9_σ191, g10_σ191, g11_σ191, g12_σ191, g13_σ191, g20_σ191, g22_σ191, g23_σ191, g24_σ191, g25_σ191]); omega, fun q => absurd q (by (try simp only [g7_σ191, g9_σ191, g10_σ191, g11_σ191, g12_σ191, g13_σ191, g20_σ191, g22_σ191, g23_σ191, g24_σ191, g25_σ191]); exact n94), fun _ q => m12 q.1, by first | decide | omega⟩ | exact ⟨hK, by (try simp only [g7_σ191, g9_σ191, g10_σ191, g11_σ191, g12_σ191, g13_σ191, g20_σ191, g22_σ191, g23_σ191, g24_σ191, g25_σ191]); omega, fun q => absurd q (by (try simp only [g7_σ191, g9_σ191, g10_σ191, g11_σ191, g12_σ191, g13_σ191, g20_σ191, g22_σ191, g23_σ191, g24_σ191, g25_σ191]); exact n94), fun _ q => l37 q.2.1, by first | decide | omega⟩ | exact ⟨hK, by (try simp only [g7_σ191, g9_σ191, g10_σ191, g11_σ191, g12_σ191, g13_σ191, g20_σ191, g22_σ191, g23_σ191, g24_σ191, g25_σ191]); omega, fun q => absurd q (by (try simp only [g7_σ191, g9_σ191, g10_σ191, g11_σ191, g12_σ191, g13_σ191, g20_σ191, g22_σ191, g23_σ191, g24_σ191, g25_σ191]); exact n94), fun _ q => l58 (by rw [ev48]; exact q.2.2), by first | decide | omega⟩ | exact ⟨hK, by (try simp only [g7_σ191, g9_σ191, g10_σ191, g11_σ191, g12_σ191, g13_σ191, g20_σ191, g22_σ191, g23_σ191, g24_σ191, g25_σ191]); omega, fun _ => ⟨⟨⟨k12, l37, by rw [← ev48]; exact l58⟩, r81⟩, g98⟩, fun q => absurd (by (try simp only [g7_σ191, g9_σ191, g10_σ191, g11_σ191, g12_σ191, g13_σ191, g20_σ191, g22_σ191, g23_σ191, g24_σ191, g25_σ191]); exact y94) q, by first | decide | omega⟩ | exact absurd y94 n70 | exact absurd y94 n63 | exact absurd y94 n24 | exact absurd y94 n17 | exact absurd y94 n4 | exact absurd y70 n94 | exact absurd hg n4 | exact absurd hg n24 | exact absurd hg n70 | exact absurd hg n94 | exact absurd y24 n94 | exact absurd y24 n70, g7_σ191, g9_σ191, g20_σ191, g22_σ191, g23_σ191, g24_σ191, g25_σ191⟩)⟩
            · have qhc205 := hqv203.2 hc205
              have y94 := qhc205
              refine ok_gC rfl ?_
              refine ok_zbT (Q := fun V σ => ((TOK σ.1 ∧ (σ191.1 218 10).toInt ≤ (σ.1 218 11).toInt) ∧ RX σ.1 tx n (tkE tx n i)) ∧ (σ.1 218 7 = σ191.1 218 7 ∧ σ.1 218 9 = σ191.1 218 9 ∧ σ.1 218 14 = σ191.1 218 14 ∧ σ.1 218 15 = σ191.1 218 15 ∧ σ.1 218 20 = σ191.1 218 20 ∧ σ.1 218 22 = σ191.1 218 22 ∧ σ.1 218 23 = σ191.1 218 23 ∧ σ.1 218 24 = σ191.1 218 24 ∧ σ.1 218 25 = σ191.1 218 25)) hT (s_X12_advance_r hN (hR.tr hT) (TOK_A hK) (by rw [hT.2 224 (by decide)]; exact hY) (RX_i g9_σ191 g10_σ191 g11_σ191 g12_σ191 g13_σ191 ((hT.2 224 (by decide)).trans tE) nE pK)) (by decide) (fun v206 σ207 hOσ207 hT hqv206 => ?_)
              have hqv206 : ((TOK σ207.1 ∧ (σ191.1 218 10).toInt ≤ (σ207.1 218 11).toInt) ∧ RX σ207.1 tx n (tkE tx n i)) ∧ (σ207.1 218 7 = σ191.1 218 7 ∧ σ207.1 218 9 = σ191.1 218 9 ∧ σ207.1 218 14 = σ191.1 218 14 ∧ σ207.1 218 15 = σ191.1 218 15 ∧ σ207.1 218 20 = σ191.1 218 20 ∧ σ207.1 218 22 = σ191.1 218 22 ∧ σ207.1 218 23 = σ191.1 218 23 ∧ σ207.1 218 24 = σ191.1 218 24 ∧ σ207.1 218 25 = σ191.1 218 25) := hqv206
              have hkv206 := hqv206
              have hqv206 := hqv206.1
              have hK : TOK σ207.1 := by first | exact hqv206.1 | exact hqv206.1.1 | exact TOK_p eσ207 (by decide) hK
              try simp only [g7_σ191, g9_σ191, g10_σ191, g11_σ191, g12_σ191, g13_σ191, g20_σ191, g22_σ191, g23_σ191, g24_σ191, g25_σ191] at hqv206
              have g7_σ207 : σ207.1 218 7 = (σ0.1 218 7) := (hkv206.2.1).trans g7_σ191
              have g9_σ207 : σ207.1 218 9 = (σ0.1 218 9) := (hkv206.2.2.1).trans g9_σ191
              have g14_σ207 : σ207.1 218 14 = (σ191.1 218 14) := hkv206.2.2.2.1
              have g15_σ207 : σ207.1 218 15 = (σ191.1 218 15) := hkv206.2.2.2.2.1
              have g20_σ207 : σ207.1 218 20 = (σ0.1 218 20) := (hkv206.2.2.2.2.2.1).trans g20_σ191
              have g22_σ207 : σ207.1 218 22 = (σ0.1 218 22) := (hkv206.2.2.2.2.2.2.1).trans g22_σ191
              have g23_σ207 : σ207.1 218 23 = (σ0.1 218 23) := (hkv206.2.2.2.2.2.2.2.1).trans g23_σ191
              have g24_σ207 : σ207.1 218 24 = (σ0.1 218 24) := (hkv206.2.2.2.2.2.2.2.2.1).trans g24_σ191
              have g25_σ207 : σ207.1 218 25 = (σ0.1 218 25) := (hkv206.2.2.2.2.2.2.2.2.2).trans g25_σ191
              have m98 := hqv206.1.2
              have g98 := hqv206.2
              exact ok_some ⟨hT, (show (TOK σ207.1 ∧ (σ0.1 218 11).toInt ≤ (σ207.1 218 11).toInt ∧ (σ207.1 218 14 = 0 → (nmOK tx n i (σ0.1 231 0) ∧ (v202 - 97).toInt = (tx (tkF tx n i)).toInt - 97) ∧ RX σ207.1 tx n (tkE tx n i)) ∧ (¬ σ207.1 218 14 = 0 → ¬ nmOK tx n i (σ0.1 231 0)) ∧ 0 ≤ (v202 - 97).toInt ∧ (v202 - 97).toInt ≤ 9) ∧ (σ207.1 218 7 = σ0.1 218 7 ∧ σ207.1 218 9 = σ0.1 218 9 ∧ σ207.1 218 20 = σ0.1 218 20 ∧ σ207.1 218 22 = σ0.1 218 22 ∧ σ207.1 218 23 = σ0.1 218 23 ∧ σ207.1 218 24 = σ0.1 218 24 ∧ σ207.1 218 25 = σ0.1 218 25) from ⟨by first | exact ⟨hK, by (try simp only [g7_σ207, g9_σ207, g14_σ207, g15_σ207, g20_σ207, g22_σ207, g23_σ207, g24_σ207, g25_σ207]); omega, fun q => absurd q (by (try simp only [g7_σ207, g9_σ207, g14_σ207, g15_σ207, g20_σ207, g22_σ207, g23_σ207, g24_σ207, g25_σ207]); exact n94), fun _ q => m12 q.1, by first | decide | omega⟩ | exact ⟨hK, by (try simp only [g7_σ207, g9_σ207, g14_σ207, g15_σ207, g20_σ207, g22_σ207, g23_σ207, g24_σ207, g25_σ207]); omega, fun q => absurd q (by (try simp only [g7_σ207, g9_σ207, g14_σ207, g15_σ207, g20_σ207, g22_σ207, g23_σ207, g24_σ207, g25_σ207]); exact n94), fun _ q => l37 q.2.1, by first | decide | omega⟩ | exact ⟨hK, by (try simp only [g7_σ207, g9_σ207, g14_σ207, g15_σ207, g20_σ207, g22_σ207, g23_σ207, g24_σ207, g25_σ207]); omega, fun q => absurd q (by (try simp only [g7_σ207, g9_σ207, g14_σ207, g15_σ207, g20_σ207, g22_σ207, g23_σ207, g24_σ207, g25_σ207]); exact n94), fun _ q => l58 (by rw [ev48]; exact q.2.2), by first | decide | omega⟩ | exact ⟨hK, by (try simp only [g7_σ207, g9_σ207, g14_σ207, g15_σ207, g20_σ207, g22_σ207, g23_σ207, g24_σ207, g25_σ207]); omega, fun _ => ⟨⟨⟨k12, l37, by rw [← ev48]; exact l58⟩, r81⟩, g98⟩, fun q => absurd (by (try simp only [g7_σ207, g9_σ207, g14_σ207, g15_σ207, g20_σ207, g22_σ207, g23_σ207, g24_σ207, g25_σ207]); exact y94) q, by first | decide | omega⟩ | exact absurd y94 n70 | exact absurd y94 n63 | exact absurd y94 n24 | exact absurd y94 n17 | exact absurd y94 n4 | exact absurd y70 n94 | exact absurd hg n4 | exact absurd hg n24 | exact absurd hg n70 | exact absurd hg n94 | exact absurd y24 n94 | exact absurd y24 n70, g7_σ207, g9_σ207, g20_σ207, g22_σ207, g23_σ207, g24_σ207, g25_σ207⟩)⟩
        · have l37 : tkE tx n i = tkF tx n i + 1 := by first | (have q9 := hc189; rw [Int32.lt_iff_toInt_lt, s24] at q9; simp only [Int32.reduceToInt] at q9; omega) | exact absurd y24 n4 | exact absurd y24 n17
          refine ok_gR (v := 224) hT rfl (hR 218 6 rfl) ?_
          refine ok_gIv rfl g11_σ167 ?_
          refine ok_aIn rfl (by ((try simp only [g7_σ167, g9_σ167, g10_σ167, g11_σ167, g12_σ167, g13_σ167, g20_σ167, g22_σ167, g23_σ167, g24_σ167, g25_σ167])); first | omega | decide | (simp only [Int32.le_iff_toInt_le, Int32.lt_iff_toInt_lt, ti_add, ti_sub, ti_mul, Int32.reduceToInt] at *; omega)) (by first | omega | exact absurd y24 n4 | exact absurd y24 n17) (fun v210 ev210 => ?_)
          have ev48 : v210 = tx (σ0.1 218 11).toInt.toNat := by first | (rw [ev210, hT.2 224 (by decide), tE]; rfl) | exact absurd y24 n4 | exact absurd y24 n17
          have t48 : 97 ≤ v210.toInt ∧ v210.toInt ≤ 122 := by first | (rw [ev48, ← tE]; exact w12 (σ0.1 218 11).toInt.toNat (by omega) (by omega)) | exact absurd y24 n4 | exact absurd y24 n17
          have s48 : (v210 - 97).toInt = v210.toInt - 97 := by rw [ti_sub]; simp only [Int32.reduceToInt]; omega
          rw [show (σ0.1 218 11).toInt.toNat = tkF tx n i by omega] at ev48
          refine ok_gR (v := 231) hT rfl (hR 218 26 rfl) ?_
          refine ok_aIc (j := 0) hT rfl (by decide) rfl (by decide) (by decide) ?_
          refine ok_if (fun hc213 => ?_) (fun hc213 => ?_)
          · have l58 := hc213
            rw [Int32.lt_iff_toInt_lt, s48] at l58
            rw [J_X12_readsName_66.eq_1]
            refine ok_gC rfl ?_
            refine ok_zbX (Q := fun V => (V = 0 → ¬ σ167.1 218 14 = 0) ∧ (¬ V = 0 → σ167.1 218 14 = 0)) (x_X12_good) (fun v214 hqv214 => ?_)
            have hqv214 : (v214 = 0 → ¬ σ167.1 218 14 = 0) ∧ (¬ v214 = 0 → σ167.1 218 14 = 0) := hqv214
            try simp only [g7_σ167, g9_σ167, g10_σ167, g11_σ167, g12_σ167, g13_σ167, g20_σ167, g22_σ167, g23_σ167, g24_σ167, g25_σ167, hT.2 224 (by decide)] at hqv214
            refine ok_if (fun hc216 => ?_) (fun hc216 => ?_)
            · have qhc216 := hqv214.1 hc216
              have n70 := qhc216
              rw [J_X12_readsName_89.eq_1]
              refine ok_gC rfl ?_
              refine ok_zbX (Q := fun V => (V = 0 → ¬ σ167.1 218 14 = 0) ∧ (¬ V = 0 → σ167.1 218 14 = 0)) (x_X12_good) (fun v217 hqv217 => ?_)
              have hqv217 : (v217 = 0 → ¬ σ167.1 218 14 = 0) ∧ (¬ v217 = 0 → σ167.1 218 14 = 0) := hqv217
              try simp only [g7_σ167, g9_σ167, g10_σ167, g11_σ167, g12_σ167, g13_σ167, g20_σ167, g22_σ167, g23_σ167, g24_σ167, g25_σ167, hT.2 224 (by decide)] at hqv217
              refine ok_if (fun hc219 => ?_) (fun hc219 => ?_)
              · have qhc219 := hqv217.1 hc219
                have n94 := qhc219
                exact ok_some ⟨hT, (show (TOK σ167.1 ∧ (σ0.1 218 11).toInt ≤ (σ167.1 218 11).toInt ∧ (σ167.1 218 14 = 0 → (nmOK tx n i (σ0.1 231 0) ∧ (0 : Int32).toInt = (tx (tkF tx n i)).toInt - 97) ∧ RX σ167.1 tx n (tkE tx n i)) ∧ (¬ σ167.1 218 14 = 0 → ¬ nmOK tx n i (σ0.1 231 0)) ∧ 0 ≤ (0 : Int32).toInt ∧ (0 : Int32).toInt ≤ 9) ∧ (σ167.1 218 7 = σ0.1 218 7 ∧ σ167.1 218 9 = σ0.1 218 9 ∧ σ167.1 218 20 = σ0.1 218 20 ∧ σ167.1 218 22 = σ0.1 218 22 ∧ σ167.1 218 23 = σ0.1 218 23 ∧ σ167.1 218 24 = σ0.1 218 24 ∧ σ167.1 218 25 = σ0.1 218 25) from ⟨by first | exact ⟨hK, by (try simp only [g7_σ167, g9_σ167, g10_σ167, g11_σ167, g12_σ167, g13_σ167, g20_σ167, g22_σ167, g23_σ167, g24_σ167, g25_σ167]); omega, fun q => absurd q (by (try simp only [g7_σ167, g9_σ167, g10_σ167, g11_σ167, g12_σ167, g13_σ167, g20_σ167, g22_σ167, g23_σ167, g24_σ167, g25_σ167]); exact n94), fun _ q => m12 q.1, by first | decide | omega⟩ | exact ⟨hK, by (try simp only [g7_σ167, g9_σ167, g10_σ167, g11_σ167, g12_σ167, g13_σ167, g20_σ167, g22_σ167, g23_σ167, g24_σ167, g25_σ167]); omega, fun q => absurd q (by (try simp only [g7_σ167, g9_σ167, g10_σ167, g11_σ167, g12_σ167, g13_σ167, g20_σ167, g22_σ167, g23_σ167, g24_σ167, g25_σ167]); exact n94), fun _ q => l37 q.2.1, by first | decide | omega⟩ | exact ⟨hK, by (try simp only [g7_σ167, g9_σ167, g10_σ167, g11_σ167, g12_σ167, g13_σ167, g20_σ167, g22_σ167, g23_σ167, g24_σ167, g25_σ167]); omega, fun q => absurd q (by (try simp only [g7_σ167, g9_σ167, g10_σ167, g11_σ167, g12_σ167, g13_σ167, g20_σ167, g22_σ167, g23_σ167, g24_σ167, g25_σ167]); exact n94), fun _ q => l58 (by rw [ev48]; exact q.2.2), by first | decide | omega⟩ | exact ⟨hK, by (try simp only [g7_σ167, g9_σ167, g10_σ167, g11_σ167, g12_σ167, g13_σ167, g20_σ167, g22_σ167, g23_σ167, g24_σ167, g25_σ167]); omega, fun _ => ⟨⟨⟨k12, l37, by rw [← ev48]; exact l58⟩, r81⟩, g98⟩, fun q => absurd (by (try simp only [g7_σ167, g9_σ167, g10_σ167, g11_σ167, g12_σ167, g13_σ167, g20_σ167, g22_σ167, g23_σ167, g24_σ167, g25_σ167]); exact y94) q, by first | decide | omega⟩ | exact absurd y94 n70 | exact absurd y94 n63 | exact absurd y94 n24 | exact absurd y94 n17 | exact absurd y94 n4 | exact absurd y70 n94 | exact absurd hg n4 | exact absurd hg n24 | exact absurd hg n70 | exact absurd hg n94 | exact absurd y24 n94 | exact absurd y24 n70, g7_σ167, g9_σ167, g20_σ167, g22_σ167, g23_σ167, g24_σ167, g25_σ167⟩)⟩
              · have qhc219 := hqv217.2 hc219
                have y94 := qhc219
                refine ok_gC rfl ?_
                refine ok_zbT (Q := fun V σ => ((TOK σ.1 ∧ (σ167.1 218 10).toInt ≤ (σ.1 218 11).toInt) ∧ RX σ.1 tx n (tkE tx n i)) ∧ (σ.1 218 7 = σ167.1 218 7 ∧ σ.1 218 9 = σ167.1 218 9 ∧ σ.1 218 14 = σ167.1 218 14 ∧ σ.1 218 15 = σ167.1 218 15 ∧ σ.1 218 20 = σ167.1 218 20 ∧ σ.1 218 22 = σ167.1 218 22 ∧ σ.1 218 23 = σ167.1 218 23 ∧ σ.1 218 24 = σ167.1 218 24 ∧ σ.1 218 25 = σ167.1 218 25)) hT (s_X12_advance_r hN (hR.tr hT) (TOK_A hK) (by rw [hT.2 224 (by decide)]; exact hY) (RX_i g9_σ167 g10_σ167 g11_σ167 g12_σ167 g13_σ167 ((hT.2 224 (by decide)).trans tE) nE pK)) (by decide) (fun v220 σ221 hOσ221 hT hqv220 => ?_)
                have hqv220 : ((TOK σ221.1 ∧ (σ167.1 218 10).toInt ≤ (σ221.1 218 11).toInt) ∧ RX σ221.1 tx n (tkE tx n i)) ∧ (σ221.1 218 7 = σ167.1 218 7 ∧ σ221.1 218 9 = σ167.1 218 9 ∧ σ221.1 218 14 = σ167.1 218 14 ∧ σ221.1 218 15 = σ167.1 218 15 ∧ σ221.1 218 20 = σ167.1 218 20 ∧ σ221.1 218 22 = σ167.1 218 22 ∧ σ221.1 218 23 = σ167.1 218 23 ∧ σ221.1 218 24 = σ167.1 218 24 ∧ σ221.1 218 25 = σ167.1 218 25) := hqv220
                have hkv220 := hqv220
                have hqv220 := hqv220.1
                have hK : TOK σ221.1 := by first | exact hqv220.1 | exact hqv220.1.1 | exact TOK_p eσ221 (by decide) hK
                try simp only [g7_σ167, g9_σ167, g10_σ167, g11_σ167, g12_σ167, g13_σ167, g20_σ167, g22_σ167, g23_σ167, g24_σ167, g25_σ167] at hqv220
                have g7_σ221 : σ221.1 218 7 = (σ0.1 218 7) := (hkv220.2.1).trans g7_σ167
                have g9_σ221 : σ221.1 218 9 = (σ0.1 218 9) := (hkv220.2.2.1).trans g9_σ167
                have g14_σ221 : σ221.1 218 14 = (σ167.1 218 14) := hkv220.2.2.2.1
                have g15_σ221 : σ221.1 218 15 = (σ167.1 218 15) := hkv220.2.2.2.2.1
                have g20_σ221 : σ221.1 218 20 = (σ0.1 218 20) := (hkv220.2.2.2.2.2.1).trans g20_σ167
                have g22_σ221 : σ221.1 218 22 = (σ0.1 218 22) := (hkv220.2.2.2.2.2.2.1).trans g22_σ167
                have g23_σ221 : σ221.1 218 23 = (σ0.1 218 23) := (hkv220.2.2.2.2.2.2.2.1).trans g23_σ167
                have g24_σ221 : σ221.1 218 24 = (σ0.1 218 24) := (hkv220.2.2.2.2.2.2.2.2.1).trans g24_σ167
                have g25_σ221 : σ221.1 218 25 = (σ0.1 218 25) := (hkv220.2.2.2.2.2.2.2.2.2).trans g25_σ167
                have m98 := hqv220.1.2
                have g98 := hqv220.2
                exact ok_some ⟨hT, (show (TOK σ221.1 ∧ (σ0.1 218 11).toInt ≤ (σ221.1 218 11).toInt ∧ (σ221.1 218 14 = 0 → (nmOK tx n i (σ0.1 231 0) ∧ (0 : Int32).toInt = (tx (tkF tx n i)).toInt - 97) ∧ RX σ221.1 tx n (tkE tx n i)) ∧ (¬ σ221.1 218 14 = 0 → ¬ nmOK tx n i (σ0.1 231 0)) ∧ 0 ≤ (0 : Int32).toInt ∧ (0 : Int32).toInt ≤ 9) ∧ (σ221.1 218 7 = σ0.1 218 7 ∧ σ221.1 218 9 = σ0.1 218 9 ∧ σ221.1 218 20 = σ0.1 218 20 ∧ σ221.1 218 22 = σ0.1 218 22 ∧ σ221.1 218 23 = σ0.1 218 23 ∧ σ221.1 218 24 = σ0.1 218 24 ∧ σ221.1 218 25 = σ0.1 218 25) from ⟨by first | exact ⟨hK, by (try simp only [g7_σ221, g9_σ221, g14_σ221, g15_σ221, g20_σ221, g22_σ221, g23_σ221, g24_σ221, g25_σ221]); omega, fun q => absurd q (by (try simp only [g7_σ221, g9_σ221, g14_σ221, g15_σ221, g20_σ221, g22_σ221, g23_σ221, g24_σ221, g25_σ221]); exact n94), fun _ q => m12 q.1, by first | decide | omega⟩ | exact ⟨hK, by (try simp only [g7_σ221, g9_σ221, g14_σ221, g15_σ221, g20_σ221, g22_σ221, g23_σ221, g24_σ221, g25_σ221]); omega, fun q => absurd q (by (try simp only [g7_σ221, g9_σ221, g14_σ221, g15_σ221, g20_σ221, g22_σ221, g23_σ221, g24_σ221, g25_σ221]); exact n94), fun _ q => l37 q.2.1, by first | decide | omega⟩ | exact ⟨hK, by (try simp only [g7_σ221, g9_σ221, g14_σ221, g15_σ221, g20_σ221, g22_σ221, g23_σ221, g24_σ221, g25_σ221]); omega, fun q => absurd q (by (try simp only [g7_σ221, g9_σ221, g14_σ221, g15_σ221, g20_σ221, g22_σ221, g23_σ221, g24_σ221, g25_σ221]); exact n94), fun _ q => l58 (by rw [ev48]; exact q.2.2), by first | decide | omega⟩ | exact ⟨hK, by (try simp only [g7_σ221, g9_σ221, g14_σ221, g15_σ221, g20_σ221, g22_σ221, g23_σ221, g24_σ221, g25_σ221]); omega, fun _ => ⟨⟨⟨k12, l37, by rw [← ev48]; exact l58⟩, r81⟩, g98⟩, fun q => absurd (by (try simp only [g7_σ221, g9_σ221, g14_σ221, g15_σ221, g20_σ221, g22_σ221, g23_σ221, g24_σ221, g25_σ221]); exact y94) q, by first | decide | omega⟩ | exact absurd y94 n70 | exact absurd y94 n63 | exact absurd y94 n24 | exact absurd y94 n17 | exact absurd y94 n4 | exact absurd y70 n94 | exact absurd hg n4 | exact absurd hg n24 | exact absurd hg n70 | exact absurd hg n94 | exact absurd y24 n94 | exact absurd y24 n70, g7_σ221, g9_σ221, g20_σ221, g22_σ221, g23_σ221, g24_σ221, g25_σ221⟩)⟩
            · have qhc216 := hqv214.2 hc216
              have y70 := qhc216
              refine ok_gR (v := 224) hT rfl (hR 218 6 rfl) ?_
              refine ok_gIv rfl g11_σ167 ?_
              refine ok_aIn rfl (by ((try simp only [g7_σ167, g9_σ167, g10_σ167, g11_σ167, g12_σ167, g13_σ167, g20_σ167, g22_σ167, g23_σ167, g24_σ167, g25_σ167])); first | omega | decide | (simp only [Int32.le_iff_toInt_le, Int32.lt_iff_toInt_lt, ti_add, ti_sub, ti_mul, Int32.reduceToInt] at *; omega)) (by first | omega | exact absurd y70 n63 | exact absurd y70 n24 | exact absurd y70 n17 | exact absurd y70 n4) (fun v224 ev224 => ?_)
              have ev81 : v224 = tx (σ0.1 218 11).toInt.toNat := by first | (rw [ev224, hT.2 224 (by decide), tE]; rfl) | exact absurd y70 n63 | exact absurd y70 n24 | exact absurd y70 n17 | exact absurd y70 n4
              have t81 : 97 ≤ v224.toInt ∧ v224.toInt ≤ 122 := by first | (rw [ev81, ← tE]; exact w12 (σ0.1 218 11).toInt.toNat (by omega) (by omega)) | exact absurd y70 n63 | exact absurd y70 n24 | exact absurd y70 n17 | exact absurd y70 n4
              have s81 : (v224 - 97).toInt = v224.toInt - 97 := by rw [ti_sub]; simp only [Int32.reduceToInt]; omega
              rw [show (σ0.1 218 11).toInt.toNat = tkF tx n i by omega] at ev81
              have b81 : (v224 - 97).toInt ≤ 9 := by first | (rw [ev81.trans ev48.symm, s48]; have h0 := hF.1.1; omega) | exact absurd y70 n63 | exact absurd y70 n24 | exact absurd y70 n17 | exact absurd y70 n4
              have r81 : (v224 - 97).toInt = (tx (tkF tx n i)).toInt - 97 := by rw [s81, ev81]
              rw [J_X12_readsName_89.eq_1]
              refine ok_gC rfl ?_
              refine ok_zbX (Q := fun V => (V = 0 → ¬ σ167.1 218 14 = 0) ∧ (¬ V = 0 → σ167.1 218 14 = 0)) (x_X12_good) (fun v225 hqv225 => ?_)
              have hqv225 : (v225 = 0 → ¬ σ167.1 218 14 = 0) ∧ (¬ v225 = 0 → σ167.1 218 14 = 0) := hqv225
              try simp only [g7_σ167, g9_σ167, g10_σ167, g11_σ167, g12_σ167, g13_σ167, g20_σ167, g22_σ167, g23_σ167, g24_σ167, g25_σ167, hT.2 224 (by decide)] at hqv225
              refine ok_if (fun hc227 => ?_) (fun hc227 => ?_)
              · have qhc227 := hqv225.1 hc227
                have n94 := qhc227
                exact ok_some ⟨hT, (show (TOK σ167.1 ∧ (σ0.1 218 11).toInt ≤ (σ167.1 218 11).toInt ∧ (σ167.1 218 14 = 0 → (nmOK tx n i (σ0.1 231 0) ∧ (v224 - 97).toInt = (tx (tkF tx n i)).toInt - 97) ∧ RX σ167.1 tx n (tkE tx n i)) ∧ (¬ σ167.1 218 14 = 0 → ¬ nmOK tx n i (σ0.1 231 0)) ∧ 0 ≤ (v224 - 97).toInt ∧ (v224 - 97).toInt ≤ 9) ∧ (σ167.1 218 7 = σ0.1 218 7 ∧ σ167.1 218 9 = σ0.1 218 9 ∧ σ167.1 218 20 = σ0.1 218 20 ∧ σ167.1 218 22 = σ0.1 218 22 ∧ σ167.1 218 23 = σ0.1 218 23 ∧ σ167.1 218 24 = σ0.1 218 24 ∧ σ167.1 218 25 = σ0.1 218 25) from ⟨by first | exact ⟨hK, by (try simp only [g7_σ167, g9_σ167, g10_σ167, g11_σ167, g12_σ167, g13_σ167, g20_σ167, g22_σ167, g23_σ167, g24_σ167, g25_σ167]); omega, fun q => absurd q (by (try simp only [g7_σ167, g9_σ167, g10_σ167, g11_σ167, g12_σ167, g13_σ167, g20_σ167, g22_σ167, g23_σ167, g24_σ167, g25_σ167]); exact n94), fun _ q => m12 q.1, by first | decide | omega⟩ | exact ⟨hK, by (try simp only [g7_σ167, g9_σ167, g10_σ167, g11_σ167, g12_σ167, g13_σ167, g20_σ167, g22_σ167, g23_σ167, g24_σ167, g25_σ167]); omega, fun q => absurd q (by (try simp only [g7_σ167, g9_σ167, g10_σ167, g11_σ167, g12_σ167, g13_σ167, g20_σ167, g22_σ167, g23_σ167, g24_σ167, g25_σ167]); exact n94), fun _ q => l37 q.2.1, by first | decide | omega⟩ | exact ⟨hK, by (try simp only [g7_σ167, g9_σ167, g10_σ167, g11_σ167, g12_σ167, g13_σ167, g20_σ167, g22_σ167, g23_σ167, g24_σ167, g25_σ167]); omega, fun q => absurd q (by (try simp only [g7_σ167, g9_σ167, g10_σ167, g11_σ167, g12_σ167, g13_σ167, g20_σ167, g22_σ167, g23_σ167, g24_σ167, g25_σ167]); exact n94), fun _ q => l58 (by rw [ev48]; exact q.2.2), by first | decide | omega⟩ | exact ⟨hK, by (try simp only [g7_σ167, g9_σ167, g10_σ167, g11_σ167, g12_σ167, g13_σ167, g20_σ167, g22_σ167, g23_σ167, g24_σ167, g25_σ167]); omega, fun _ => ⟨⟨⟨k12, l37, by rw [← ev48]; exact l58⟩, r81⟩, g98⟩, fun q => absurd (by (try simp only [g7_σ167, g9_σ167, g10_σ167, g11_σ167, g12_σ167, g13_σ167, g20_σ167, g22_σ167, g23_σ167, g24_σ167, g25_σ167]); exact y94) q, by first | decide | omega⟩ | exact absurd y94 n70 | exact absurd y94 n63 | exact absurd y94 n24 | exact absurd y94 n17 | exact absurd y94 n4 | exact absurd y70 n94 | exact absurd hg n4 | exact absurd hg n24 | exact absurd hg n70 | exact absurd hg n94 | exact absurd y24 n94 | exact absurd y24 n70, g7_σ167, g9_σ167, g20_σ167, g22_σ167, g23_σ167, g24_σ167, g25_σ167⟩)⟩
              · have qhc227 := hqv225.2 hc227
                have y94 := qhc227
                refine ok_gC rfl ?_
                refine ok_zbT (Q := fun V σ => ((TOK σ.1 ∧ (σ167.1 218 10).toInt ≤ (σ.1 218 11).toInt) ∧ RX σ.1 tx n (tkE tx n i)) ∧ (σ.1 218 7 = σ167.1 218 7 ∧ σ.1 218 9 = σ167.1 218 9 ∧ σ.1 218 14 = σ167.1 218 14 ∧ σ.1 218 15 = σ167.1 218 15 ∧ σ.1 218 20 = σ167.1 218 20 ∧ σ.1 218 22 = σ167.1 218 22 ∧ σ.1 218 23 = σ167.1 218 23 ∧ σ.1 218 24 = σ167.1 218 24 ∧ σ.1 218 25 = σ167.1 218 25)) hT (s_X12_advance_r hN (hR.tr hT) (TOK_A hK) (by rw [hT.2 224 (by decide)]; exact hY) (RX_i g9_σ167 g10_σ167 g11_σ167 g12_σ167 g13_σ167 ((hT.2 224 (by decide)).trans tE) nE pK)) (by decide) (fun v228 σ229 hOσ229 hT hqv228 => ?_)
                have hqv228 : ((TOK σ229.1 ∧ (σ167.1 218 10).toInt ≤ (σ229.1 218 11).toInt) ∧ RX σ229.1 tx n (tkE tx n i)) ∧ (σ229.1 218 7 = σ167.1 218 7 ∧ σ229.1 218 9 = σ167.1 218 9 ∧ σ229.1 218 14 = σ167.1 218 14 ∧ σ229.1 218 15 = σ167.1 218 15 ∧ σ229.1 218 20 = σ167.1 218 20 ∧ σ229.1 218 22 = σ167.1 218 22 ∧ σ229.1 218 23 = σ167.1 218 23 ∧ σ229.1 218 24 = σ167.1 218 24 ∧ σ229.1 218 25 = σ167.1 218 25) := hqv228
                have hkv228 := hqv228
                have hqv228 := hqv228.1
                have hK : TOK σ229.1 := by first | exact hqv228.1 | exact hqv228.1.1 | exact TOK_p eσ229 (by decide) hK
                try simp only [g7_σ167, g9_σ167, g10_σ167, g11_σ167, g12_σ167, g13_σ167, g20_σ167, g22_σ167, g23_σ167, g24_σ167, g25_σ167] at hqv228
                have g7_σ229 : σ229.1 218 7 = (σ0.1 218 7) := (hkv228.2.1).trans g7_σ167
                have g9_σ229 : σ229.1 218 9 = (σ0.1 218 9) := (hkv228.2.2.1).trans g9_σ167
                have g14_σ229 : σ229.1 218 14 = (σ167.1 218 14) := hkv228.2.2.2.1
                have g15_σ229 : σ229.1 218 15 = (σ167.1 218 15) := hkv228.2.2.2.2.1
                have g20_σ229 : σ229.1 218 20 = (σ0.1 218 20) := (hkv228.2.2.2.2.2.1).trans g20_σ167
                have g22_σ229 : σ229.1 218 22 = (σ0.1 218 22) := (hkv228.2.2.2.2.2.2.1).trans g22_σ167
                have g23_σ229 : σ229.1 218 23 = (σ0.1 218 23) := (hkv228.2.2.2.2.2.2.2.1).trans g23_σ167
                have g24_σ229 : σ229.1 218 24 = (σ0.1 218 24) := (hkv228.2.2.2.2.2.2.2.2.1).trans g24_σ167
                have g25_σ229 : σ229.1 218 25 = (σ0.1 218 25) := (hkv228.2.2.2.2.2.2.2.2.2).trans g25_σ167
                have m98 := hqv228.1.2
                have g98 := hqv228.2
                exact ok_some ⟨hT, (show (TOK σ229.1 ∧ (σ0.1 218 11).toInt ≤ (σ229.1 218 11).toInt ∧ (σ229.1 218 14 = 0 → (nmOK tx n i (σ0.1 231 0) ∧ (v224 - 97).toInt = (tx (tkF tx n i)).toInt - 97) ∧ RX σ229.1 tx n (tkE tx n i)) ∧ (¬ σ229.1 218 14 = 0 → ¬ nmOK tx n i (σ0.1 231 0)) ∧ 0 ≤ (v224 - 97).toInt ∧ (v224 - 97).toInt ≤ 9) ∧ (σ229.1 218 7 = σ0.1 218 7 ∧ σ229.1 218 9 = σ0.1 218 9 ∧ σ229.1 218 20 = σ0.1 218 20 ∧ σ229.1 218 22 = σ0.1 218 22 ∧ σ229.1 218 23 = σ0.1 218 23 ∧ σ229.1 218 24 = σ0.1 218 24 ∧ σ229.1 218 25 = σ0.1 218 25) from ⟨by first | exact ⟨hK, by (try simp only [g7_σ229, g9_σ229, g14_σ229, g15_σ229, g20_σ229, g22_σ229, g23_σ229, g24_σ229, g25_σ229]); omega, fun q => absurd q (by (try simp only [g7_σ229, g9_σ229, g14_σ229, g15_σ229, g20_σ229, g22_σ229, g23_σ229, g24_σ229, g25_σ229]); exact n94), fun _ q => m12 q.1, by first | decide | omega⟩ | exact ⟨hK, by (try simp only [g7_σ229, g9_σ229, g14_σ229, g15_σ229, g20_σ229, g22_σ229, g23_σ229, g24_σ229, g25_σ229]); omega, fun q => absurd q (by (try simp only [g7_σ229, g9_σ229, g14_σ229, g15_σ229, g20_σ229, g22_σ229, g23_σ229, g24_σ229, g25_σ229]); exact n94), fun _ q => l37 q.2.1, by first | decide | omega⟩ | exact ⟨hK, by (try simp only [g7_σ229, g9_σ229, g14_σ229, g15_σ229, g20_σ229, g22_σ229, g23_σ229, g24_σ229, g25_σ229]); omega, fun q => absurd q (by (try simp only [g7_σ229, g9_σ229, g14_σ229, g15_σ229, g20_σ229, g22_σ229, g23_σ229, g24_σ229, g25_σ229]); exact n94), fun _ q => l58 (by rw [ev48]; exact q.2.2), by first | decide | omega⟩ | exact ⟨hK, by (try simp only [g7_σ229, g9_σ229, g14_σ229, g15_σ229, g20_σ229, g22_σ229, g23_σ229, g24_σ229, g25_σ229]); omega, fun _ => ⟨⟨⟨k12, l37, by rw [← ev48]; exact l58⟩, r81⟩, g98⟩, fun q => absurd (by (try simp only [g7_σ229, g9_σ229, g14_σ229, g15_σ229, g20_σ229, g22_σ229, g23_σ229, g24_σ229, g25_σ229]); exact y94) q, by first | decide | omega⟩ | exact absurd y94 n70 | exact absurd y94 n63 | exact absurd y94 n24 | exact absurd y94 n17 | exact absurd y94 n4 | exact absurd y70 n94 | exact absurd hg n4 | exact absurd hg n24 | exact absurd hg n70 | exact absurd hg n94 | exact absurd y24 n94 | exact absurd y24 n70, g7_σ229, g9_σ229, g20_σ229, g22_σ229, g23_σ229, g24_σ229, g25_σ229⟩)⟩
          · have l58 := hc213
            rw [Int32.lt_iff_toInt_lt, s48] at l58
            refine ok_gC rfl ?_
            refine ok_zbT (Q := fun V σ => (TOK σ.1 ∧ ¬ σ.1 218 14 = 0) ∧ (σ.1 218 7 = σ167.1 218 7 ∧ σ.1 218 9 = σ167.1 218 9 ∧ σ.1 218 10 = σ167.1 218 10 ∧ σ.1 218 11 = σ167.1 218 11 ∧ σ.1 218 12 = σ167.1 218 12 ∧ σ.1 218 13 = σ167.1 218 13 ∧ σ.1 218 20 = σ167.1 218 20 ∧ σ.1 218 22 = σ167.1 218 22 ∧ σ.1 218 23 = σ167.1 218 23 ∧ σ.1 218 24 = σ167.1 218 24 ∧ σ.1 218 25 = σ167.1 218 25)) hT (s_X12_errs hN (hR.tr hT) (hK) (by rw [hT.2 224 (by decide)]; exact hY) (by decide)) (by decide) (fun v230 σ231 hOσ231 hT hqv230 => ?_)
            have hqv230 : (TOK σ231.1 ∧ ¬ σ231.1 218 14 = 0) ∧ (σ231.1 218 7 = σ167.1 218 7 ∧ σ231.1 218 9 = σ167.1 218 9 ∧ σ231.1 218 10 = σ167.1 218 10 ∧ σ231.1 218 11 = σ167.1 218 11 ∧ σ231.1 218 12 = σ167.1 218 12 ∧ σ231.1 218 13 = σ167.1 218 13 ∧ σ231.1 218 20 = σ167.1 218 20 ∧ σ231.1 218 22 = σ167.1 218 22 ∧ σ231.1 218 23 = σ167.1 218 23 ∧ σ231.1 218 24 = σ167.1 218 24 ∧ σ231.1 218 25 = σ167.1 218 25) := hqv230
            have hkv230 := hqv230
            have hqv230 := hqv230.1
            have hK : TOK σ231.1 := by first | exact hqv230.1 | exact hqv230.1.1 | exact TOK_p eσ231 (by decide) hK
            try simp only [g7_σ167, g9_σ167, g10_σ167, g11_σ167, g12_σ167, g13_σ167, g20_σ167, g22_σ167, g23_σ167, g24_σ167, g25_σ167] at hqv230
            have g7_σ231 : σ231.1 218 7 = (σ0.1 218 7) := (hkv230.2.1).trans g7_σ167
            have g9_σ231 : σ231.1 218 9 = (σ0.1 218 9) := (hkv230.2.2.1).trans g9_σ167
            have g10_σ231 : σ231.1 218 10 = (σ0.1 218 10) := (hkv230.2.2.2.1).trans g10_σ167
            have g11_σ231 : σ231.1 218 11 = (σ0.1 218 11) := (hkv230.2.2.2.2.1).trans g11_σ167
            have g12_σ231 : σ231.1 218 12 = (σ0.1 218 12) := (hkv230.2.2.2.2.2.1).trans g12_σ167
            have g13_σ231 : σ231.1 218 13 = (σ0.1 218 13) := (hkv230.2.2.2.2.2.2.1).trans g13_σ167
            have g20_σ231 : σ231.1 218 20 = (σ0.1 218 20) := (hkv230.2.2.2.2.2.2.2.1).trans g20_σ167
            have g22_σ231 : σ231.1 218 22 = (σ0.1 218 22) := (hkv230.2.2.2.2.2.2.2.2.1).trans g22_σ167
            have g23_σ231 : σ231.1 218 23 = (σ0.1 218 23) := (hkv230.2.2.2.2.2.2.2.2.2.1).trans g23_σ167
            have g24_σ231 : σ231.1 218 24 = (σ0.1 218 24) := (hkv230.2.2.2.2.2.2.2.2.2.2.1).trans g24_σ167
            have g25_σ231 : σ231.1 218 25 = (σ0.1 218 25) := (hkv230.2.2.2.2.2.2.2.2.2.2.2).trans g25_σ167
            have n63 := hqv230.2
            rw [J_X12_readsName_66.eq_1]
            refine ok_gC rfl ?_
            refine ok_zbX (Q := fun V => (V = 0 → ¬ σ231.1 218 14 = 0) ∧ (¬ V = 0 → σ231.1 218 14 = 0)) (x_X12_good) (fun v232 hqv232 => ?_)
            have hqv232 : (v232 = 0 → ¬ σ231.1 218 14 = 0) ∧ (¬ v232 = 0 → σ231.1 218 14 = 0) := hqv232
            try simp only [g7_σ231, g9_σ231, g10_σ231, g11_σ231, g12_σ231, g13_σ231, g20_σ231, g22_σ231, g23_σ231, g24_σ231, g25_σ231, hT.2 224 (by decide)] at hqv232
            refine ok_if (fun hc234 => ?_) (fun hc234 => ?_)
            · have qhc234 := hqv232.1 hc234
              have n70 := qhc234
              rw [J_X12_readsName_89.eq_1]
              refine ok_gC rfl ?_
              refine ok_zbX (Q := fun V => (V = 0 → ¬ σ231.1 218 14 = 0) ∧ (¬ V = 0 → σ231.1 218 14 = 0)) (x_X12_good) (fun v235 hqv235 => ?_)
              have hqv235 : (v235 = 0 → ¬ σ231.1 218 14 = 0) ∧ (¬ v235 = 0 → σ231.1 218 14 = 0) := hqv235
              try simp only [g7_σ231, g9_σ231, g10_σ231, g11_σ231, g12_σ231, g13_σ231, g20_σ231, g22_σ231, g23_σ231, g24_σ231, g25_σ231, hT.2 224 (by decide)] at hqv235
              refine ok_if (fun hc237 => ?_) (fun hc237 => ?_)
              · have qhc237 := hqv235.1 hc237
                have n94 := qhc237
                exact ok_some ⟨hT, (show (TOK σ231.1 ∧ (σ0.1 218 11).toInt ≤ (σ231.1 218 11).toInt ∧ (σ231.1 218 14 = 0 → (nmOK tx n i (σ0.1 231 0) ∧ (0 : Int32).toInt = (tx (tkF tx n i)).toInt - 97) ∧ RX σ231.1 tx n (tkE tx n i)) ∧ (¬ σ231.1 218 14 = 0 → ¬ nmOK tx n i (σ0.1 231 0)) ∧ 0 ≤ (0 : Int32).toInt ∧ (0 : Int32).toInt ≤ 9) ∧ (σ231.1 218 7 = σ0.1 218 7 ∧ σ231.1 218 9 = σ0.1 218 9 ∧ σ231.1 218 20 = σ0.1 218 20 ∧ σ231.1 218 22 = σ0.1 218 22 ∧ σ231.1 218 23 = σ0.1 218 23 ∧ σ231.1 218 24 = σ0.1 218 24 ∧ σ231.1 218 25 = σ0.1 218 25) from ⟨by first | exact ⟨hK, by (try simp only [g7_σ231, g9_σ231, g10_σ231, g11_σ231, g12_σ231, g13_σ231, g20_σ231, g22_σ231, g23_σ231, g24_σ231, g25_σ231]); omega, fun q => absurd q (by (try simp only [g7_σ231, g9_σ231, g10_σ231, g11_σ231, g12_σ231, g13_σ231, g20_σ231, g22_σ231, g23_σ231, g24_σ231, g25_σ231]); exact n94), fun _ q => m12 q.1, by first | decide | omega⟩ | exact ⟨hK, by (try simp only [g7_σ231, g9_σ231, g10_σ231, g11_σ231, g12_σ231, g13_σ231, g20_σ231, g22_σ231, g23_σ231, g24_σ231, g25_σ231]); omega, fun q => absurd q (by (try simp only [g7_σ231, g9_σ231, g10_σ231, g11_σ231, g12_σ231, g13_σ231, g20_σ231, g22_σ231, g23_σ231, g24_σ231, g25_σ231]); exact n94), fun _ q => l37 q.2.1, by first | decide | omega⟩ | exact ⟨hK, by (try simp only [g7_σ231, g9_σ231, g10_σ231, g11_σ231, g12_σ231, g13_σ231, g20_σ231, g22_σ231, g23_σ231, g24_σ231, g25_σ231]); omega, fun q => absurd q (by (try simp only [g7_σ231, g9_σ231, g10_σ231, g11_σ231, g12_σ231, g13_σ231, g20_σ231, g22_σ231, g23_σ231, g24_σ231, g25_σ231]); exact n94), fun _ q => l58 (by rw [ev48]; exact q.2.2), by first | decide | omega⟩ | exact ⟨hK, by (try simp only [g7_σ231, g9_σ231, g10_σ231, g11_σ231, g12_σ231, g13_σ231, g20_σ231, g22_σ231, g23_σ231, g24_σ231, g25_σ231]); omega, fun _ => ⟨⟨⟨k12, l37, by rw [← ev48]; exact l58⟩, r81⟩, g98⟩, fun q => absurd (by (try simp only [g7_σ231, g9_σ231, g10_σ231, g11_σ231, g12_σ231, g13_σ231, g20_σ231, g22_σ231, g23_σ231, g24_σ231, g25_σ231]); exact y94) q, by first | decide | omega⟩ | exact absurd y94 n70 | exact absurd y94 n63 | exact absurd y94 n24 | exact absurd y94 n17 | exact absurd y94 n4 | exact absurd y70 n94 | exact absurd hg n4 | exact absurd hg n24 | exact absurd hg n70 | exact absurd hg n94 | exact absurd y24 n94 | exact absurd y24 n70, g7_σ231, g9_σ231, g20_σ231, g22_σ231, g23_σ231, g24_σ231, g25_σ231⟩)⟩
              · have qhc237 := hqv235.2 hc237
                have y94 := qhc237
                refine ok_gC rfl ?_
                refine ok_zbT (Q := fun V σ => ((TOK σ.1 ∧ (σ231.1 218 10).toInt ≤ (σ.1 218 11).toInt) ∧ RX σ.1 tx n (tkE tx n i)) ∧ (σ.1 218 7 = σ231.1 218 7 ∧ σ.1 218 9 = σ231.1 218 9 ∧ σ.1 218 14 = σ231.1 218 14 ∧ σ.1 218 15 = σ231.1 218 15 ∧ σ.1 218 20 = σ231.1 218 20 ∧ σ.1 218 22 = σ231.1 218 22 ∧ σ.1 218 23 = σ231.1 218 23 ∧ σ.1 218 24 = σ231.1 218 24 ∧ σ.1 218 25 = σ231.1 218 25)) hT (s_X12_advance_r hN (hR.tr hT) (TOK_A hK) (by rw [hT.2 224 (by decide)]; exact hY) (RX_i g9_σ231 g10_σ231 g11_σ231 g12_σ231 g13_σ231 ((hT.2 224 (by decide)).trans tE) nE pK)) (by decide) (fun v238 σ239 hOσ239 hT hqv238 => ?_)
                have hqv238 : ((TOK σ239.1 ∧ (σ231.1 218 10).toInt ≤ (σ239.1 218 11).toInt) ∧ RX σ239.1 tx n (tkE tx n i)) ∧ (σ239.1 218 7 = σ231.1 218 7 ∧ σ239.1 218 9 = σ231.1 218 9 ∧ σ239.1 218 14 = σ231.1 218 14 ∧ σ239.1 218 15 = σ231.1 218 15 ∧ σ239.1 218 20 = σ231.1 218 20 ∧ σ239.1 218 22 = σ231.1 218 22 ∧ σ239.1 218 23 = σ231.1 218 23 ∧ σ239.1 218 24 = σ231.1 218 24 ∧ σ239.1 218 25 = σ231.1 218 25) := hqv238
                have hkv238 := hqv238
                have hqv238 := hqv238.1
                have hK : TOK σ239.1 := by first | exact hqv238.1 | exact hqv238.1.1 | exact TOK_p eσ239 (by decide) hK
                try simp only [g7_σ231, g9_σ231, g10_σ231, g11_σ231, g12_σ231, g13_σ231, g20_σ231, g22_σ231, g23_σ231, g24_σ231, g25_σ231] at hqv238
                have g7_σ239 : σ239.1 218 7 = (σ0.1 218 7) := (hkv238.2.1).trans g7_σ231
                have g9_σ239 : σ239.1 218 9 = (σ0.1 218 9) := (hkv238.2.2.1).trans g9_σ231
                have g14_σ239 : σ239.1 218 14 = (σ231.1 218 14) := hkv238.2.2.2.1
                have g15_σ239 : σ239.1 218 15 = (σ231.1 218 15) := hkv238.2.2.2.2.1
                have g20_σ239 : σ239.1 218 20 = (σ0.1 218 20) := (hkv238.2.2.2.2.2.1).trans g20_σ231
                have g22_σ239 : σ239.1 218 22 = (σ0.1 218 22) := (hkv238.2.2.2.2.2.2.1).trans g22_σ231
                have g23_σ239 : σ239.1 218 23 = (σ0.1 218 23) := (hkv238.2.2.2.2.2.2.2.1).trans g23_σ231
                have g24_σ239 : σ239.1 218 24 = (σ0.1 218 24) := (hkv238.2.2.2.2.2.2.2.2.1).trans g24_σ231
                have g25_σ239 : σ239.1 218 25 = (σ0.1 218 25) := (hkv238.2.2.2.2.2.2.2.2.2).trans g25_σ231
                have m98 := hqv238.1.2
                have g98 := hqv238.2
                exact ok_some ⟨hT, (show (TOK σ239.1 ∧ (σ0.1 218 11).toInt ≤ (σ239.1 218 11).toInt ∧ (σ239.1 218 14 = 0 → (nmOK tx n i (σ0.1 231 0) ∧ (0 : Int32).toInt = (tx (tkF tx n i)).toInt - 97) ∧ RX σ239.1 tx n (tkE tx n i)) ∧ (¬ σ239.1 218 14 = 0 → ¬ nmOK tx n i (σ0.1 231 0)) ∧ 0 ≤ (0 : Int32).toInt ∧ (0 : Int32).toInt ≤ 9) ∧ (σ239.1 218 7 = σ0.1 218 7 ∧ σ239.1 218 9 = σ0.1 218 9 ∧ σ239.1 218 20 = σ0.1 218 20 ∧ σ239.1 218 22 = σ0.1 218 22 ∧ σ239.1 218 23 = σ0.1 218 23 ∧ σ239.1 218 24 = σ0.1 218 24 ∧ σ239.1 218 25 = σ0.1 218 25) from ⟨by first | exact ⟨hK, by (try simp only [g7_σ239, g9_σ239, g14_σ239, g15_σ239, g20_σ239, g22_σ239, g23_σ239, g24_σ239, g25_σ239]); omega, fun q => absurd q (by (try simp only [g7_σ239, g9_σ239, g14_σ239, g15_σ239, g20_σ239, g22_σ239, g23_σ239, g24_σ239, g25_σ239]); exact n94), fun _ q => m12 q.1, by first | decide | omega⟩ | exact ⟨hK, by (try simp only [g7_σ239, g9_σ239, g14_σ239, g15_σ239, g20_σ239, g22_σ239, g23_σ239, g24_σ239, g25_σ239]); omega, fun q => absurd q (by (try simp only [g7_σ239, g9_σ239, g14_σ239, g15_σ239, g20_σ239, g22_σ239, g23_σ239, g24_σ239, g25_σ239]); exact n94), fun _ q => l37 q.2.1, by first | decide | omega⟩ | exact ⟨hK, by (try simp only [g7_σ239, g9_σ239, g14_σ239, g15_σ239, g20_σ239, g22_σ239, g23_σ239, g24_σ239, g25_σ239]); omega, fun q => absurd q (by (try simp only [g7_σ239, g9_σ239, g14_σ239, g15_σ239, g20_σ239, g22_σ239, g23_σ239, g24_σ239, g25_σ239]); exact n94), fun _ q => l58 (by rw [ev48]; exact q.2.2), by first | decide | omega⟩ | exact ⟨hK, by (try simp only [g7_σ239, g9_σ239, g14_σ239, g15_σ239, g20_σ239, g22_σ239, g23_σ239, g24_σ239, g25_σ239]); omega, fun _ => ⟨⟨⟨k12, l37, by rw [← ev48]; exact l58⟩, r81⟩, g98⟩, fun q => absurd (by (try simp only [g7_σ239, g9_σ239, g14_σ239, g15_σ239, g20_σ239, g22_σ239, g23_σ239, g24_σ239, g25_σ239]); exact y94) q, by first | decide | omega⟩ | exact absurd y94 n70 | exact absurd y94 n63 | exact absurd y94 n24 | exact absurd y94 n17 | exact absurd y94 n4 | exact absurd y70 n94 | exact absurd hg n4 | exact absurd hg n24 | exact absurd hg n70 | exact absurd hg n94 | exact absurd y24 n94 | exact absurd y24 n70, g7_σ239, g9_σ239, g20_σ239, g22_σ239, g23_σ239, g24_σ239, g25_σ239⟩)⟩
            · have qhc234 := hqv232.2 hc234
              have y70 := qhc234
              refine ok_gR (v := 224) hT rfl (hR 218 6 rfl) ?_
              refine ok_gIv rfl g11_σ231 ?_
              refine ok_aIn rfl (by ((try simp only [g7_σ231, g9_σ231, g10_σ231, g11_σ231, g12_σ231, g13_σ231, g20_σ231, g22_σ231, g23_σ231, g24_σ231, g25_σ231])); first | omega | decide | (simp only [Int32.le_iff_toInt_le, Int32.lt_iff_toInt_lt, ti_add, ti_sub, ti_mul, Int32.reduceToInt] at *; omega)) (by first | omega | exact absurd y70 n63 | exact absurd y70 n24 | exact absurd y70 n17 | exact absurd y70 n4) (fun v242 ev242 => ?_)
              have ev81 : v242 = tx (σ0.1 218 11).toInt.toNat := by first | (rw [ev242, hT.2 224 (by decide), tE]; rfl) | exact absurd y70 n63 | exact absurd y70 n24 | exact absurd y70 n17 | exact absurd y70 n4
              have t81 : 97 ≤ v242.toInt ∧ v242.toInt ≤ 122 := by first | (rw [ev81, ← tE]; exact w12 (σ0.1 218 11).toInt.toNat (by omega) (by omega)) | exact absurd y70 n63 | exact absurd y70 n24 | exact absurd y70 n17 | exact absurd y70 n4
              have s81 : (v242 - 97).toInt = v242.toInt - 97 := by rw [ti_sub]; simp only [Int32.reduceToInt]; omega
              rw [show (σ0.1 218 11).toInt.toNat = tkF tx n i by omega] at ev81
              have b81 : (v242 - 97).toInt ≤ 9 := by first | (rw [ev81.trans ev48.symm, s48]; have h0 := hF.1.1; omega) | exact absurd y70 n63 | exact absurd y70 n24 | exact absurd y70 n17 | exact absurd y70 n4
              have r81 : (v242 - 97).toInt = (tx (tkF tx n i)).toInt - 97 := by rw [s81, ev81]
              rw [J_X12_readsName_89.eq_1]
              refine ok_gC rfl ?_
              refine ok_zbX (Q := fun V => (V = 0 → ¬ σ231.1 218 14 = 0) ∧ (¬ V = 0 → σ231.1 218 14 = 0)) (x_X12_good) (fun v243 hqv243 => ?_)
              have hqv243 : (v243 = 0 → ¬ σ231.1 218 14 = 0) ∧ (¬ v243 = 0 → σ231.1 218 14 = 0) := hqv243
              try simp only [g7_σ231, g9_σ231, g10_σ231, g11_σ231, g12_σ231, g13_σ231, g20_σ231, g22_σ231, g23_σ231, g24_σ231, g25_σ231, hT.2 224 (by decide)] at hqv243
              refine ok_if (fun hc245 => ?_) (fun hc245 => ?_)
              · have qhc245 := hqv243.1 hc245
                have n94 := qhc245
                exact ok_some ⟨hT, (show (TOK σ231.1 ∧ (σ0.1 218 11).toInt ≤ (σ231.1 218 11).toInt ∧ (σ231.1 218 14 = 0 → (nmOK tx n i (σ0.1 231 0) ∧ (v242 - 97).toInt = (tx (tkF tx n i)).toInt - 97) ∧ RX σ231.1 tx n (tkE tx n i)) ∧ (¬ σ231.1 218 14 = 0 → ¬ nmOK tx n i (σ0.1 231 0)) ∧ 0 ≤ (v242 - 97).toInt ∧ (v242 - 97).toInt ≤ 9) ∧ (σ231.1 218 7 = σ0.1 218 7 ∧ σ231.1 218 9 = σ0.1 218 9 ∧ σ231.1 218 20 = σ0.1 218 20 ∧ σ231.1 218 22 = σ0.1 218 22 ∧ σ231.1 218 23 = σ0.1 218 23 ∧ σ231.1 218 24 = σ0.1 218 24 ∧ σ231.1 218 25 = σ0.1 218 25) from ⟨by first | exact ⟨hK, by (try simp only [g7_σ231, g9_σ231, g10_σ231, g11_σ231, g12_σ231, g13_σ231, g20_σ231, g22_σ231, g23_σ231, g24_σ231, g25_σ231]); omega, fun q => absurd q (by (try simp only [g7_σ231, g9_σ231, g10_σ231, g11_σ231, g12_σ231, g13_σ231, g20_σ231, g22_σ231, g23_σ231, g24_σ231, g25_σ231]); exact n94), fun _ q => m12 q.1, by first | decide | omega⟩ | exact ⟨hK, by (try simp only [g7_σ231, g9_σ231, g10_σ231, g11_σ231, g12_σ231, g13_σ231, g20_σ231, g22_σ231, g23_σ231, g24_σ231, g25_σ231]); omega, fun q => absurd q (by (try simp only [g7_σ231, g9_σ231, g10_σ231, g11_σ231, g12_σ231, g13_σ231, g20_σ231, g22_σ231, g23_σ231, g24_σ231, g25_σ231]); exact n94), fun _ q => l37 q.2.1, by first | decide | omega⟩ | exact ⟨hK, by (try simp only [g7_σ231, g9_σ231, g10_σ231, g11_σ231, g12_σ231, g13_σ231, g20_σ231, g22_σ231, g23_σ231, g24_σ231, g25_σ231]); omega, fun q => absurd q (by (try simp only [g7_σ231, g9_σ231, g10_σ231, g11_σ231, g12_σ231, g13_σ231, g20_σ231, g22_σ231, g23_σ231, g24_σ231, g25_σ231]); exact n94), fun _ q => l58 (by rw [ev48]; exact q.2.2), by first | decide | omega⟩ | exact ⟨hK, by (try simp only [g7_σ231, g9_σ231, g10_σ231, g11_σ231, g12_σ231, g13_σ231, g20_σ231, g22_σ231, g23_σ231, g24_σ231, g25_σ231]); omega, fun _ => ⟨⟨⟨k12, l37, by rw [← ev48]; exact l58⟩, r81⟩, g98⟩, fun q => absurd (by (try simp only [g7_σ231, g9_σ231, g10_σ231, g11_σ231, g12_σ231, g13_σ231, g20_σ231, g22_σ231, g23_σ231, g24_σ231, g25_σ231]); exact y94) q, by first | decide | omega⟩ | exact absurd y94 n70 | exact absurd y94 n63 | exact absurd y94 n24 | exact absurd y94 n17 | exact absurd y94 n4 | exact absurd y70 n94 | exact absurd hg n4 | exact absurd hg n24 | exact absurd hg n70 | exact absurd hg n94 | exact absurd y24 n94 | exact absurd y24 n70, g7_σ231, g9_σ231, g20_σ231, g22_σ231, g23_σ231, g24_σ231, g25_σ231⟩)⟩
              · have qhc245 := hqv243.2 hc245
                have y94 := qhc245
                refine ok_gC rfl ?_
                refine ok_zbT (Q := fun V σ => ((TOK σ.1 ∧ (σ231.1 218 10).toInt ≤ (σ.1 218 11).toInt) ∧ RX σ.1 tx n (tkE tx n i)) ∧ (σ.1 218 7 = σ231.1 218 7 ∧ σ.1 218 9 = σ231.1 218 9 ∧ σ.1 218 14 = σ231.1 218 14 ∧ σ.1 218 15 = σ231.1 218 15 ∧ σ.1 218 20 = σ231.1 218 20 ∧ σ.1 218 22 = σ231.1 218 22 ∧ σ.1 218 23 = σ231.1 218 23 ∧ σ.1 218 24 = σ231.1 218 24 ∧ σ.1 218 25 = σ231.1 218 25)) hT (s_X12_advance_r hN (hR.tr hT) (TOK_A hK) (by rw [hT.2 224 (by decide)]; exact hY) (RX_i g9_σ231 g10_σ231 g11_σ231 g12_σ231 g13_σ231 ((hT.2 224 (by decide)).trans tE) nE pK)) (by decide) (fun v246 σ247 hOσ247 hT hqv246 => ?_)
                have hqv246 : ((TOK σ247.1 ∧ (σ231.1 218 10).toInt ≤ (σ247.1 218 11).toInt) ∧ RX σ247.1 tx n (tkE tx n i)) ∧ (σ247.1 218 7 = σ231.1 218 7 ∧ σ247.1 218 9 = σ231.1 218 9 ∧ σ247.1 218 14 = σ231.1 218 14 ∧ σ247.1 218 15 = σ231.1 218 15 ∧ σ247.1 218 20 = σ231.1 218 20 ∧ σ247.1 218 22 = σ231.1 218 22 ∧ σ247.1 218 23 = σ231.1 218 23 ∧ σ247.1 218 24 = σ231.1 218 24 ∧ σ247.1 218 25 = σ231.1 218 25) := hqv246
                have hkv246 := hqv246
                have hqv246 := hqv246.1
                have hK : TOK σ247.1 := by first | exact hqv246.1 | exact hqv246.1.1 | exact TOK_p eσ247 (by decide) hK
                try simp only [g7_σ231, g9_σ231, g10_σ231, g11_σ231, g12_σ231, g13_σ231, g20_σ231, g22_σ231, g23_σ231, g24_σ231, g25_σ231] at hqv246
                have g7_σ247 : σ247.1 218 7 = (σ0.1 218 7) := (hkv246.2.1).trans g7_σ231
                have g9_σ247 : σ247.1 218 9 = (σ0.1 218 9) := (hkv246.2.2.1).trans g9_σ231
                have g14_σ247 : σ247.1 218 14 = (σ231.1 218 14) := hkv246.2.2.2.1
                have g15_σ247 : σ247.1 218 15 = (σ231.1 218 15) := hkv246.2.2.2.2.1
                have g20_σ247 : σ247.1 218 20 = (σ0.1 218 20) := (hkv246.2.2.2.2.2.1).trans g20_σ231
                have g22_σ247 : σ247.1 218 22 = (σ0.1 218 22) := (hkv246.2.2.2.2.2.2.1).trans g22_σ231
                have g23_σ247 : σ247.1 218 23 = (σ0.1 218 23) := (hkv246.2.2.2.2.2.2.2.1).trans g23_σ231
                have g24_σ247 : σ247.1 218 24 = (σ0.1 218 24) := (hkv246.2.2.2.2.2.2.2.2.1).trans g24_σ231
                have g25_σ247 : σ247.1 218 25 = (σ0.1 218 25) := (hkv246.2.2.2.2.2.2.2.2.2).trans g25_σ231
                have m98 := hqv246.1.2
                have g98 := hqv246.2
                exact ok_some ⟨hT, (show (TOK σ247.1 ∧ (σ0.1 218 11).toInt ≤ (σ247.1 218 11).toInt ∧ (σ247.1 218 14 = 0 → (nmOK tx n i (σ0.1 231 0) ∧ (v242 - 97).toInt = (tx (tkF tx n i)).toInt - 97) ∧ RX σ247.1 tx n (tkE tx n i)) ∧ (¬ σ247.1 218 14 = 0 → ¬ nmOK tx n i (σ0.1 231 0)) ∧ 0 ≤ (v242 - 97).toInt ∧ (v242 - 97).toInt ≤ 9) ∧ (σ247.1 218 7 = σ0.1 218 7 ∧ σ247.1 218 9 = σ0.1 218 9 ∧ σ247.1 218 20 = σ0.1 218 20 ∧ σ247.1 218 22 = σ0.1 218 22 ∧ σ247.1 218 23 = σ0.1 218 23 ∧ σ247.1 218 24 = σ0.1 218 24 ∧ σ247.1 218 25 = σ0.1 218 25) from ⟨by first | exact ⟨hK, by (try simp only [g7_σ247, g9_σ247, g14_σ247, g15_σ247, g20_σ247, g22_σ247, g23_σ247, g24_σ247, g25_σ247]); omega, fun q => absurd q (by (try simp only [g7_σ247, g9_σ247, g14_σ247, g15_σ247, g20_σ247, g22_σ247, g23_σ247, g24_σ247, g25_σ247]); exact n94), fun _ q => m12 q.1, by first | decide | omega⟩ | exact ⟨hK, by (try simp only [g7_σ247, g9_σ247, g14_σ247, g15_σ247, g20_σ247, g22_σ247, g23_σ247, g24_σ247, g25_σ247]); omega, fun q => absurd q (by (try simp only [g7_σ247, g9_σ247, g14_σ247, g15_σ247, g20_σ247, g22_σ247, g23_σ247, g24_σ247, g25_σ247]); exact n94), fun _ q => l37 q.2.1, by first | decide | omega⟩ | exact ⟨hK, by (try simp only [g7_σ247, g9_σ247, g14_σ247, g15_σ247, g20_σ247, g22_σ247, g23_σ247, g24_σ247, g25_σ247]); omega, fun q => absurd q (by (try simp only [g7_σ247, g9_σ247, g14_σ247, g15_σ247, g20_σ247, g22_σ247, g23_σ247, g24_σ247, g25_σ247]); exact n94), fun _ q => l58 (by rw [ev48]; exact q.2.2), by first | decide | omega⟩ | exact ⟨hK, by (try simp only [g7_σ247, g9_σ247, g14_σ247, g15_σ247, g20_σ247, g22_σ247, g23_σ247, g24_σ247, g25_σ247]); omega, fun _ => ⟨⟨⟨k12, l37, by rw [← ev48]; exact l58⟩, r81⟩, g98⟩, fun q => absurd (by (try simp only [g7_σ247, g9_σ247, g14_σ247, g15_σ247, g20_σ247, g22_σ247, g23_σ247, g24_σ247, g25_σ247]); exact y94) q, by first | decide | omega⟩ | exact absurd y94 n70 | exact absurd y94 n63 | exact absurd y94 n24 | exact absurd y94 n17 | exact absurd y94 n4 | exact absurd y70 n94 | exact absurd hg n4 | exact absurd hg n24 | exact absurd hg n70 | exact absurd hg n94 | exact absurd y24 n94 | exact absurd y24 n70, g7_σ247, g9_σ247, g20_σ247, g22_σ247, g23_σ247, g24_σ247, g25_σ247⟩)⟩

theorem s_X12_number_c {N : Nat} (hN : 1048576 ≤ N) {x1 x2 : Int32} {σ0 : zS} {tx : Nat → Int32} {n i : Nat} (hR : RF σ0.2.2) (hK : TOK σ0.1) (hY : BYT (σ0.1 224)) (hGc : σ0.1 218 14 = 0 → RX σ0.1 tx n i) : Ok (f_X12_number N 218 x1 x2 σ0) (fun r => Tr [218] σ0 r.2 ∧ ((TOK r.2.1 ∧ (σ0.1 218 11).toInt ≤ (r.2.1 218 11).toInt ∧ (r.2.1 218 14 = 0 → ((σ0.1 218 14 = 0 ∧ (σ0.1 218 11).toInt < (r.2.1 218 11).toInt) ∧ nOK tx n i x1 x2) ∧ r.1.toInt = min 99999 (Nv tx n (tkF tx n i) 0 : Int) ∧ RX r.2.1 tx n (tkE tx n i)) ∧ (¬ r.2.1 218 14 = 0 → r.1 = 0 ∧ (σ0.1 218 14 = 0 → ¬ nOK tx n i x1 x2))) ∧ (r.2.1 218 7 = σ0.1 218 7 ∧ r.2.1 218 9 = σ0.1 218 9 ∧ r.2.1 218 20 = σ0.1 218 20 ∧ r.2.1 218 22 = σ0.1 218 22 ∧ r.2.1 218 23 = σ0.1 218 23 ∧ r.2.1 218 24 = σ0.1 218 24 ∧ r.2.1 218 25 = σ0.1 218 25))) := by
  by_cases hg : σ0.1 218 14 = 0
  · exact ok_wk (s_X12_number_r hN hR hK hY (hGc hg) hg) (fun r h => ⟨h.1, ⟨h.2.1.1, h.2.1.2.1, fun q => ⟨⟨⟨hg, (h.2.1.2.2.1 q).1.1⟩, (h.2.1.2.2.1 q).1.2⟩, (h.2.1.2.2.1 q).2⟩, fun q => ⟨(h.2.1.2.2.2 q).1, fun _ => (h.2.1.2.2.2 q).2⟩⟩, h.2.2⟩)
  · exact ok_wk (s_X12_number hN hR hK hY) (fun r h => ⟨h.1, ⟨h.2.1.1, h.2.1.2.1, fun q => absurd (h.2.1.2.2.1 q).1.1 hg, fun q => ⟨h.2.1.2.2.2 q, fun k => absurd k hg⟩⟩, h.2.2⟩)

def nv5 (t : Nat → Int32) (n i : Nat) : Int := min 99999 (Nv t n (tkF t n i) 0 : Int)
/-- two unlike ends stand at i and behind it -/
def edOK (t : Nat → Int32) (n i : Nat) : Prop := nOK t n i 0 7 ∧ ¬ (tkK t n (tkE t n i) = 2 ∧ nv5 t n (tkE t n i) = nv5 t n i) ∧ nOK t n (tkE t n i) 0 7
/-- where the sum from i on ends, and how many signs are read then -/
noncomputable def sumR (t : Nat → Int32) (n : Nat) (m : Int32) (i sg : Nat) : Option (Nat × Nat) := by
  classical exact (if h : ∃ c : Cf, Rch t n m (i, false, [], sg) c ∧ stp t n m c = some none ∧ ¬ true ∈ c.2.2.1 then some ((Classical.choose h).1, (Classical.choose h).2.2.2) else none)
theorem sumR_s {t : Nat → Int32} {n : Nat} {m : Int32} {i sg : Nat} {c : Cf} (h : Rch t n m (i, false, [], sg) c ∧ stp t n m c = some none ∧ ¬ true ∈ c.2.2.1) : sumR t n m i sg = some (c.1, c.2.2.2) := by
  have e : ∃ c : Cf, Rch t n m (i, false, [], sg) c ∧ stp t n m c = some none ∧ ¬ true ∈ c.2.2.1 := ⟨c, h⟩
  have q := Classical.choose_spec e
  have u := Rch.un q.1 h.1 (fun x k => by rw [q.2.1] at k; cases k) (fun x k => by rw [h.2.1] at k; cases k)
  unfold sumR
  rw [dif_pos e, u]
theorem sumR_n {t : Nat → Int32} {n : Nat} {m : Int32} {i sg : Nat} {c : Cf} (h : Rch t n m (i, false, [], sg) c) (h2 : stp t n m c = none ∨ (stp t n m c = some none ∧ true ∈ c.2.2.1)) : sumR t n m i sg = none := by
  unfold sumR
  refine dif_neg (fun e => ?_)
  obtain ⟨d, q⟩ := e
  have u : c = d := Rch.un h q.1 (fun x k => by rcases h2 with z | z; rw [z] at k; cases k; rw [z.1] at k; cases k) (fun x k => by rw [q.2.1] at k; cases k)
  subst u
  rcases h2 with z | z
  · rw [q.2.1] at z; cases z
  · exact q.2.2 z.2

set_option maxHeartbeats 4000000 in
set_option maxRecDepth 100000 in
theorem s_X12_readsEdge_r {N : Nat} (hN : 1048576 ≤ N)  {σ0 : zS} {tx : Nat → Int32} {n i : Nat} (hR : RF σ0.2.2) (hK : TOK σ0.1) (hY : BYT (σ0.1 224)) (hG : RX σ0.1 tx n i) (hg : σ0.1 218 14 = 0) (hF : FW (σ0.1 231)) (h2 : (σ0.1 231 2).toInt < (σ0.1 231 0).toInt) : Ok (f_X12_readsEdge N 218 σ0) (fun r => Tr [218, 231] σ0 r.2 ∧ ((TOK r.2.1 ∧ (σ0.1 218 11).toInt ≤ (r.2.1 218 11).toInt ∧ (r.2.1 218 14 = 0 → (edOK tx n i ∧ RX r.2.1 tx n (tkE tx n (tkE tx n i))) ∧ (r.2.1 231 2).toInt = (σ0.1 231 2).toInt + 1 ∧ r.2.1 231 0 = σ0.1 231 0) ∧ (¬ r.2.1 218 14 = 0 → ¬ edOK tx n i) ∧ FW (r.2.1 231) ∧ r.2.1 231 1 = σ0.1 231 1) ∧ (r.2.1 218 7 = σ0.1 218 7 ∧ r.2.1 218 9 = σ0.1 218 9 ∧ r.2.1 218 20 = σ0.1 218 20 ∧ r.2.1 218 22 = σ0.1 218 22 ∧ r.2.1 218 23 = σ0.1 218 23 ∧ r.2.1 218 24 = σ0.1 218 24 ∧ r.2.1 218 25 = σ0.1 218 25))) := by
  have hT : Tr [218, 231] σ0 σ0 := Tr.rf
  have hK1 := hK.1
  have tE : σ0.1 224 = tx := hG.1.1
  have nE : (σ0.1 218 9).toInt.toNat = n := hG.1.2
  have pK : TKV (σ0.1 218 11) (σ0.1 218 10) (σ0.1 218 12) (σ0.1 218 13) tx n i := hG.2
  have f0 := hF.1.1
  have f2 := hF.1.2
  rw [f_X12_readsEdge.eq_1]
  refine ok_gC rfl ?_
  refine ok_zbT (Q := fun V σ => (TOK σ.1 ∧ (σ0.1 218 11).toInt ≤ (σ.1 218 11).toInt ∧ (σ.1 218 14 = 0 → ((σ0.1 218 11).toInt < (σ.1 218 11).toInt ∧ nOK tx n i (0 : Int32) (7 : Int32)) ∧ V.toInt = min 99999 (Nv tx n (tkF tx n i) 0 : Int) ∧ RX σ.1 tx n (tkE tx n i)) ∧ (¬ σ.1 218 14 = 0 → V = 0 ∧ ¬ nOK tx n i (0 : Int32) (7 : Int32))) ∧ (σ.1 218 7 = σ0.1 218 7 ∧ σ.1 218 9 = σ0.1 218 9 ∧ σ.1 218 20 = σ0.1 218 20 ∧ σ.1 218 22 = σ0.1 218 22 ∧ σ.1 218 23 = σ0.1 218 23 ∧ σ.1 218 24 = σ0.1 218 24 ∧ σ.1 218 25 = σ0.1 218 25)) hT (s_X12_number_r hN (hR.tr hT) (hK) (by rw [hT.2 224 (by decide)]; exact hY) (RX_i rfl rfl rfl rfl rfl ((hT.2 224 (by decide)).trans tE) nE pK) (hg)) (by decide) (fun v1 σ2 hOσ2 hT hqv1 => ?_)
  have hqv1 : (TOK σ2.1 ∧ (σ0.1 218 11).toInt ≤ (σ2.1 218 11).toInt ∧ (σ2.1 218 14 = 0 → ((σ0.1 218 11).toInt < (σ2.1 218 11).toInt ∧ nOK tx n i (0 : Int32) (7 : Int32)) ∧ v1.toInt = min 99999 (Nv tx n (tkF tx n i) 0 : Int) ∧ RX σ2.1 tx n (tkE tx n i)) ∧ (¬ σ2.1 218 14 = 0 → v1 = 0 ∧ ¬ nOK tx n i (0 : Int32) (7 : Int32))) ∧ (σ2.1 218 7 = σ0.1 218 7 ∧ σ2.1 218 9 = σ0.1 218 9 ∧ σ2.1 218 20 = σ0.1 218 20 ∧ σ2.1 218 22 = σ0.1 218 22 ∧ σ2.1 218 23 = σ0.1 218 23 ∧ σ2.1 218 24 = σ0.1 218 24 ∧ σ2.1 218 25 = σ0.1 218 25) := hqv1
  have hkv1 := hqv1
  have hqv1 := hqv1.1
  have r231_σ2 : σ2.1 231 = σ0.1 231 := hOσ2.2 231 (by decide)
  have hK : TOK σ2.1 := by first | exact hqv1.1 | exact hqv1.1.1 | exact TOK_p eσ2 (by decide) hK
  have g7_σ2 : σ2.1 218 7 = (σ0.1 218 7) := hkv1.2.1
  have g9_σ2 : σ2.1 218 9 = (σ0.1 218 9) := hkv1.2.2.1
  have g20_σ2 : σ2.1 218 20 = (σ0.1 218 20) := hkv1.2.2.2.1
  have g22_σ2 : σ2.1 218 22 = (σ0.1 218 22) := hkv1.2.2.2.2.1
  have g23_σ2 : σ2.1 218 23 = (σ0.1 218 23) := hkv1.2.2.2.2.2.1
  have g24_σ2 : σ2.1 218 24 = (σ0.1 218 24) := hkv1.2.2.2.2.2.2.1
  have g25_σ2 : σ2.1 218 25 = (σ0.1 218 25) := hkv1.2.2.2.2.2.2.2
  have m4 := hqv1.2.1
  have u4 := hqv1.2.2.1
  have f4 := hqv1.2.2.2
  have b4 : 0 ≤ v1.toInt ∧ v1.toInt ≤ 7 := by by_cases h9 : σ2.1 218 14 = 0; have h8 := (u4 h9).1.2.2.2; have h7 := (u4 h9).2.1; simp only [Int32.reduceToInt] at h8; omega; rw [(f4 h9).1]; decide
  refine ok_gC rfl ?_
  refine ok_zbX (Q := fun V => (V = 0 → ¬ σ2.1 218 14 = 0) ∧ (¬ V = 0 → σ2.1 218 14 = 0)) (x_X12_good) (fun v3 hqv3 => ?_)
  have hqv3 : (v3 = 0 → ¬ σ2.1 218 14 = 0) ∧ (¬ v3 = 0 → σ2.1 218 14 = 0) := hqv3
  try simp only [g7_σ2, g9_σ2, g20_σ2, g22_σ2, g23_σ2, g24_σ2, g25_σ2, hT.2 224 (by decide)] at hqv3
  refine ok_if (fun hc5 => ?_) (fun hc5 => ?_)
  · have qhc5 := hqv3.1 hc5
    have n12 := qhc5
    rw [J_X12_readsEdge_36.eq_1]
    refine ok_gC rfl ?_
    refine ok_zbT (Q := fun V σ => (TOK σ.1 ∧ (σ2.1 218 11).toInt ≤ (σ.1 218 11).toInt ∧ (σ.1 218 14 = 0 → ((σ2.1 218 14 = 0 ∧ (σ2.1 218 11).toInt < (σ.1 218 11).toInt) ∧ nOK tx n (tkE tx n i) (0 : Int32) (7 : Int32)) ∧ V.toInt = min 99999 (Nv tx n (tkF tx n (tkE tx n i)) 0 : Int) ∧ RX σ.1 tx n (tkE tx n (tkE tx n i))) ∧ (¬ σ.1 218 14 = 0 → V = 0 ∧ (σ2.1 218 14 = 0 → ¬ nOK tx n (tkE tx n i) (0 : Int32) (7 : Int32)))) ∧ (σ.1 218 7 = σ2.1 218 7 ∧ σ.1 218 9 = σ2.1 218 9 ∧ σ.1 218 20 = σ2.1 218 20 ∧ σ.1 218 22 = σ2.1 218 22 ∧ σ.1 218 23 = σ2.1 218 23 ∧ σ.1 218 24 = σ2.1 218 24 ∧ σ.1 218 25 = σ2.1 218 25)) hT (s_X12_number_c hN (hR.tr hT) (hK) (by rw [hT.2 224 (by decide)]; exact hY) (by first | exact fun q => absurd q n33 | exact fun q => (u4 q).2.2 | exact fun q => RX_i g9_σ2 rfl rfl rfl rfl ((hT.2 224 (by decide)).trans tE) nE pK)) (by decide) (fun v6 σ7 hOσ7 hT hqv6 => ?_)
    have hqv6 : (TOK σ7.1 ∧ (σ2.1 218 11).toInt ≤ (σ7.1 218 11).toInt ∧ (σ7.1 218 14 = 0 → ((σ2.1 218 14 = 0 ∧ (σ2.1 218 11).toInt < (σ7.1 218 11).toInt) ∧ nOK tx n (tkE tx n i) (0 : Int32) (7 : Int32)) ∧ v6.toInt = min 99999 (Nv tx n (tkF tx n (tkE tx n i)) 0 : Int) ∧ RX σ7.1 tx n (tkE tx n (tkE tx n i))) ∧ (¬ σ7.1 218 14 = 0 → v6 = 0 ∧ (σ2.1 218 14 = 0 → ¬ nOK tx n (tkE tx n i) (0 : Int32) (7 : Int32)))) ∧ (σ7.1 218 7 = σ2.1 218 7 ∧ σ7.1 218 9 = σ2.1 218 9 ∧ σ7.1 218 20 = σ2.1 218 20 ∧ σ7.1 218 22 = σ2.1 218 22 ∧ σ7.1 218 23 = σ2.1 218 23 ∧ σ7.1 218 24 = σ2.1 218 24 ∧ σ7.1 218 25 = σ2.1 218 25) := hqv6
    have hkv6 := hqv6
    have hqv6 := hqv6.1
    have r231_σ7 : σ7.1 231 = σ0.1 231 := (hOσ7.2 231 (by decide)).trans r231_σ2
    have hK : TOK σ7.1 := by first | exact hqv6.1 | exact hqv6.1.1 | exact TOK_p eσ7 (by decide) hK
    try simp only [g7_σ2, g9_σ2, g20_σ2, g22_σ2, g23_σ2, g24_σ2, g25_σ2] at hqv6
    have g7_σ7 : σ7.1 218 7 = (σ0.1 218 7) := (hkv6.2.1).trans g7_σ2
    have g9_σ7 : σ7.1 218 9 = (σ0.1 218 9) := (hkv6.2.2.1).trans g9_σ2
    have g20_σ7 : σ7.1 218 20 = (σ0.1 218 20) := (hkv6.2.2.2.1).trans g20_σ2
    have g22_σ7 : σ7.1 218 22 = (σ0.1 218 22) := (hkv6.2.2.2.2.1).trans g22_σ2
    have g23_σ7 : σ7.1 218 23 = (σ0.1 218 23) := (hkv6.2.2.2.2.2.1).trans g23_σ2
    have g24_σ7 : σ7.1 218 24 = (σ0.1 218 24) := (hkv6.2.2.2.2.2.2.1).trans g24_σ2
    have g25_σ7 : σ7.1 218 25 = (σ0.1 218 25) := (hkv6.2.2.2.2.2.2.2).trans g25_σ2
    have m40 := hqv6.2.1
    have u40 := hqv6.2.2.1
    have f40 := hqv6.2.2.2
    have b40 : 0 ≤ v6.toInt ∧ v6.toInt ≤ 7 := by by_cases h9 : σ7.1 218 14 = 0; have h8 := (u40 h9).1.2.2.2; have h7 := (u40 h9).2.1; simp only [Int32.reduceToInt] at h8; omega; rw [(f40 h9).1]; decide
    refine ok_gC rfl ?_
    refine ok_zbX (Q := fun V => (V = 0 → ¬ σ7.1 218 14 = 0) ∧ (¬ V = 0 → σ7.1 218 14 = 0)) (x_X12_good) (fun v8 hqv8 => ?_)
    have hqv8 : (v8 = 0 → ¬ σ7.1 218 14 = 0) ∧ (¬ v8 = 0 → σ7.1 218 14 = 0) := hqv8
    try simp only [g7_σ7, g9_σ7, g20_σ7, g22_σ7, g23_σ7, g24_σ7, g25_σ7, hT.2 224 (by decide)] at hqv8
    refine ok_if (fun hc10 => ?_) (fun hc10 => ?_)
    · have qhc10 := hqv8.1 hc10
      have n48 := qhc10
      exact ok_some ⟨hT, (show (TOK σ7.1 ∧ (σ0.1 218 11).toInt ≤ (σ7.1 218 11).toInt ∧ (σ7.1 218 14 = 0 → (edOK tx n i ∧ RX σ7.1 tx n (tkE tx n (tkE tx n i))) ∧ (σ7.1 231 2).toInt = (σ0.1 231 2).toInt + 1 ∧ σ7.1 231 0 = σ0.1 231 0) ∧ (¬ σ7.1 218 14 = 0 → ¬ edOK tx n i) ∧ FW (σ7.1 231) ∧ σ7.1 231 1 = σ0.1 231 1) ∧ (σ7.1 218 7 = σ0.1 218 7 ∧ σ7.1 218 9 = σ0.1 218 9 ∧ σ7.1 218 20 = σ0.1 218 20 ∧ σ7.1 218 22 = σ0.1 218 22 ∧ σ7.1 218 23 = σ0.1 218 23 ∧ σ7.1 218 24 = σ0.1 218 24 ∧ σ7.1 218 25 = σ0.1 218 25) from ⟨by first | exact ⟨hK, by (try simp only [g7_σ7, g9_σ7, g20_σ7, g22_σ7, g23_σ7, g24_σ7, g25_σ7]); omega, fun q => absurd q (by (try simp only [g7_σ7, g9_σ7, g20_σ7, g22_σ7, g23_σ7, g24_σ7, g25_σ7]); exact n48), fun _ q => (f4 n12).2 q.1, by (first | rw [r231_σ7] | skip); exact hF, congrFun r231_σ7 1⟩ | exact ⟨hK, by (try simp only [g7_σ7, g9_σ7, g20_σ7, g22_σ7, g23_σ7, g24_σ7, g25_σ7]); omega, fun q => absurd q (by (try simp only [g7_σ7, g9_σ7, g20_σ7, g22_σ7, g23_σ7, g24_σ7, g25_σ7]); exact n48), fun _ q => q.2.1 dd, by (first | rw [r231_σ7] | skip); exact hF, congrFun r231_σ7 1⟩ | exact ⟨hK, by (try simp only [g7_σ7, g9_σ7, g20_σ7, g22_σ7, g23_σ7, g24_σ7, g25_σ7]); omega, fun q => absurd q (by (try simp only [g7_σ7, g9_σ7, g20_σ7, g22_σ7, g23_σ7, g24_σ7, g25_σ7]); exact n48), fun _ q => (f40 n48).2 y12 q.2.2, by (first | rw [r231_σ7] | skip); exact hF, congrFun r231_σ7 1⟩ | exact ⟨hK, by (try simp only [g7_σ7, g9_σ7, g20_σ7, g22_σ7, g23_σ7, g24_σ7, g25_σ7]); omega, fun _ => ⟨⟨⟨(u4 y12).1.2, dd, (u40 y48).1.2⟩, by first | exact (u40 y48).2.2 | exact RX_i g9_σ7 rfl rfl rfl rfl ((hT.2 224 (by decide)).trans tE) nE (u40 y48).2.2.2⟩, c91, z91⟩, fun q => absurd (by (try simp only [g7_σ7, g9_σ7, g20_σ7, g22_σ7, g23_σ7, g24_σ7, g25_σ7]); exact y48) q, k91.1, k91.2⟩ | exact absurd (u40 y48).1.1.1 n33 | exact absurd (u40 y48).1.1.1 n12, g7_σ7, g9_σ7, g20_σ7, g22_σ7, g23_σ7, g24_σ7, g25_σ7⟩)⟩
    · have qhc10 := hqv8.2 hc10
      have y48 := qhc10
      refine ok_gR (v := 231) hT rfl (hR 218 26 rfl) ?_
      refine ok_gR (v := 231) hT rfl (hR 218 26 rfl) ?_
      refine ok_aIn rfl (by ((try simp only [g7_σ7, g9_σ7, g20_σ7, g22_σ7, g23_σ7, g24_σ7, g25_σ7])); first | omega | decide | (simp only [Int32.le_iff_toInt_le, Int32.lt_iff_toInt_lt, ti_add, ti_sub, ti_mul, Int32.reduceToInt] at *; omega)) (by ((try simp only [g7_σ7, g9_σ7, g20_σ7, g22_σ7, g23_σ7, g24_σ7, g25_σ7])); first | omega | decide | (simp only [Int32.le_iff_toInt_le, Int32.lt_iff_toInt_lt, ti_add, ti_sub, ti_mul, Int32.reduceToInt] at *; omega)) (fun v13 ev13 => ?_)
      have r63 : σ7.1 231 = σ0.1 231 := r231_σ7
      have ev63 : v13 = σ0.1 231 2 := by rw [ev13, r63]; rfl
      have i63 := ti13 (x := v13) (by rw [ev63]; omega) (by rw [ev63]; omega)
      refine ok_s14 hT rfl (by decide) (by rw [i63.1, ev63]; omega) (by rw [i63.1, ev63]; omega) (fun σ14 eσ14 hOσ14 hT => ?_)
      have e66 := eσ14
      have hK : TOK σ14.1 := TOK_tr hOσ14 (by decide) (by decide) hK
      have g7_σ14 : σ14.1 218 7 = (σ0.1 218 7) := (congrFun (hOσ14.2 218 (by decide)) 7).trans g7_σ7
      have g9_σ14 : σ14.1 218 9 = (σ0.1 218 9) := (congrFun (hOσ14.2 218 (by decide)) 9).trans g9_σ7
      have g10_σ14 : σ14.1 218 10 = (σ7.1 218 10) := congrFun (hOσ14.2 218 (by decide)) 10
      have g11_σ14 : σ14.1 218 11 = (σ7.1 218 11) := congrFun (hOσ14.2 218 (by decide)) 11
      have g12_σ14 : σ14.1 218 12 = (σ7.1 218 12) := congrFun (hOσ14.2 218 (by decide)) 12
      have g13_σ14 : σ14.1 218 13 = (σ7.1 218 13) := congrFun (hOσ14.2 218 (by decide)) 13
      have g14_σ14 : σ14.1 218 14 = (σ7.1 218 14) := congrFun (hOσ14.2 218 (by decide)) 14
      have g15_σ14 : σ14.1 218 15 = (σ7.1 218 15) := congrFun (hOσ14.2 218 (by decide)) 15
      have g20_σ14 : σ14.1 218 20 = (σ0.1 218 20) := (congrFun (hOσ14.2 218 (by decide)) 20).trans g20_σ7
      have g22_σ14 : σ14.1 218 22 = (σ0.1 218 22) := (congrFun (hOσ14.2 218 (by decide)) 22).trans g22_σ7
      have g23_σ14 : σ14.1 218 23 = (σ0.1 218 23) := (congrFun (hOσ14.2 218 (by decide)) 23).trans g23_σ7
      have g24_σ14 : σ14.1 218 24 = (σ0.1 218 24) := (congrFun (hOσ14.2 218 (by decide)) 24).trans g24_σ7
      have g25_σ14 : σ14.1 218 25 = (σ0.1 218 25) := (congrFun (hOσ14.2 218 (by decide)) 25).trans g25_σ7
      refine ok_gR (v := 231) hT rfl (hR 218 26 rfl) ?_
      refine ok_gR (v := 231) hT rfl (hR 218 26 rfl) ?_
      refine ok_aIn rfl (by ((try simp only [g7_σ14, g9_σ14, g10_σ14, g11_σ14, g12_σ14, g13_σ14, g14_σ14, g15_σ14, g20_σ14, g22_σ14, g23_σ14, g24_σ14, g25_σ14])); first | omega | decide | (simp only [Int32.le_iff_toInt_le, Int32.lt_iff_toInt_lt, ti_add, ti_sub, ti_mul, Int32.reduceToInt] at *; omega)) (by ((try simp only [g7_σ14, g9_σ14, g10_σ14, g11_σ14, g12_σ14, g13_σ14, g14_σ14, g15_σ14, g20_σ14, g22_σ14, g23_σ14, g24_σ14, g25_σ14])); first | omega | decide | (simp only [Int32.le_iff_toInt_le, Int32.lt_iff_toInt_lt, ti_add, ti_sub, ti_mul, Int32.reduceToInt] at *; omega)) (fun v17 ev17 => ?_)
      have ev78 : v17 = σ0.1 231 2 := by rw [ev17]; refine (zI_atN e66 (by rw [i63.2]; show 2 ≠ _; omega)).trans (congrFun r63 2)
      have i78 := ti23 (x := v17) (by rw [ev78]; omega) (by rw [ev78]; omega)
      refine ok_s14 hT rfl (by decide) (by rw [i78.1, ev78]; omega) (by rw [i78.1, ev78]; omega) (fun σ18 eσ18 hOσ18 hT => ?_)
      have e81 := eσ18
      have hK : TOK σ18.1 := TOK_tr hOσ18 (by decide) (by decide) hK
      have g7_σ18 : σ18.1 218 7 = (σ0.1 218 7) := (congrFun (hOσ18.2 218 (by decide)) 7).trans g7_σ14
      have g9_σ18 : σ18.1 218 9 = (σ0.1 218 9) := (congrFun (hOσ18.2 218 (by decide)) 9).trans g9_σ14
      have g10_σ18 : σ18.1 218 10 = (σ7.1 218 10) := (congrFun (hOσ18.2 218 (by decide)) 10).trans g10_σ14
      have g11_σ18 : σ18.1 218 11 = (σ7.1 218 11) := (congrFun (hOσ18.2 218 (by decide)) 11).trans g11_σ14
      have g12_σ18 : σ18.1 218 12 = (σ7.1 218 12) := (congrFun (hOσ18.2 218 (by decide)) 12).trans g12_σ14
      have g13_σ18 : σ18.1 218 13 = (σ7.1 218 13) := (congrFun (hOσ18.2 218 (by decide)) 13).trans g13_σ14
      have g14_σ18 : σ18.1 218 14 = (σ7.1 218 14) := (congrFun (hOσ18.2 218 (by decide)) 14).trans g14_σ14
      have g15_σ18 : σ18.1 218 15 = (σ7.1 218 15) := (congrFun (hOσ18.2 218 (by decide)) 15).trans g15_σ14
      have g20_σ18 : σ18.1 218 20 = (σ0.1 218 20) := (congrFun (hOσ18.2 218 (by decide)) 20).trans g20_σ14
      have g22_σ18 : σ18.1 218 22 = (σ0.1 218 22) := (congrFun (hOσ18.2 218 (by decide)) 22).trans g22_σ14
      have g23_σ18 : σ18.1 218 23 = (σ0.1 218 23) := (congrFun (hOσ18.2 218 (by decide)) 23).trans g23_σ14
      have g24_σ18 : σ18.1 218 24 = (σ0.1 218 24) := (congrFun (hOσ18.2 218 (by decide)) 24).trans g24_σ14
      have g25_σ18 : σ18.1 218 25 = (σ0.1 218 25) := (congrFun (hOσ18.2 218 (by decide)) 25).trans g25_σ14
      refine ok_gR (v := 231) hT rfl (hR 218 26 rfl) ?_
      refine ok_aIn rfl (by ((try simp only [g7_σ18, g9_σ18, g10_σ18, g11_σ18, g12_σ18, g13_σ18, g14_σ18, g15_σ18, g20_σ18, g22_σ18, g23_σ18, g24_σ18, g25_σ18])); first | omega | decide | (simp only [Int32.le_iff_toInt_le, Int32.lt_iff_toInt_lt, ti_add, ti_sub, ti_mul, Int32.reduceToInt] at *; omega)) (by ((try simp only [g7_σ18, g9_σ18, g10_σ18, g11_σ18, g12_σ18, g13_σ18, g14_σ18, g15_σ18, g20_σ18, g22_σ18, g23_σ18, g24_σ18, g25_σ18])); first | omega | decide | (simp only [Int32.le_iff_toInt_le, Int32.lt_iff_toInt_lt, ti_add, ti_sub, ti_mul, Int32.reduceToInt] at *; omega)) (fun v20 ev20 => ?_)
      have ev88 : v20 = σ0.1 231 2 := by rw [ev20]; refine (zI_atN e81 (by rw [i78.2]; show 2 ≠ _; omega)).trans ((zI_atN e66 (by rw [i63.2]; show 2 ≠ _; omega)).trans (congrFun r63 2))
      have s88 : (v20 + 1).toInt = (σ0.1 231 2).toInt + 1 := by rw [ti_add, ev88]; simp only [Int32.reduceToInt]; omega
      refine ok_s14 hT rfl (by decide) (by ((try simp only [g7_σ18, g9_σ18, g10_σ18, g11_σ18, g12_σ18, g13_σ18, g14_σ18, g15_σ18, g20_σ18, g22_σ18, g23_σ18, g24_σ18, g25_σ18])); first | omega | decide | (simp only [Int32.le_iff_toInt_le, Int32.lt_iff_toInt_lt, ti_add, ti_sub, ti_mul, Int32.reduceToInt] at *; omega)) (by ((try simp only [g7_σ18, g9_σ18, g10_σ18, g11_σ18, g12_σ18, g13_σ18, g14_σ18, g15_σ18, g20_σ18, g22_σ18, g23_σ18, g24_σ18, g25_σ18])); first | omega | decide | (simp only [Int32.le_iff_toInt_le, Int32.lt_iff_toInt_lt, ti_add, ti_sub, ti_mul, Int32.reduceToInt] at *; omega)) (fun σ21 eσ21 hOσ21 hT => ?_)
      have k91 := FW_edge r63 e66 e81 eσ21 (by rw [i63.2, ev63]) (by rw [i78.2, ev78]) rfl b4 b40 s88 hF h2
      have c91 : (σ21.1 231 2).toInt = (σ0.1 231 2).toInt + 1 := by rw [show σ21.1 231 2 = _ from zI_atI eσ21]; exact s88
      have z91 : σ21.1 231 0 = σ0.1 231 0 := (zI_atN eσ21 (by show 0 ≠ 2; decide)).trans ((zI_atN e81 (by rw [i78.2]; omega)).trans ((zI_atN e66 (by rw [i63.2]; omega)).trans (congrFun r63 0)))
      have hK : TOK σ21.1 := TOK_tr hOσ21 (by decide) (by decide) hK
      have g7_σ21 : σ21.1 218 7 = (σ0.1 218 7) := (congrFun (hOσ21.2 218 (by decide)) 7).trans g7_σ18
      have g9_σ21 : σ21.1 218 9 = (σ0.1 218 9) := (congrFun (hOσ21.2 218 (by decide)) 9).trans g9_σ18
      have g10_σ21 : σ21.1 218 10 = (σ7.1 218 10) := (congrFun (hOσ21.2 218 (by decide)) 10).trans g10_σ18
      have g11_σ21 : σ21.1 218 11 = (σ7.1 218 11) := (congrFun (hOσ21.2 218 (by decide)) 11).trans g11_σ18
      have g12_σ21 : σ21.1 218 12 = (σ7.1 218 12) := (congrFun (hOσ21.2 218 (by decide)) 12).trans g12_σ18
      have g13_σ21 : σ21.1 218 13 = (σ7.1 218 13) := (congrFun (hOσ21.2 218 (by decide)) 13).trans g13_σ18
      have g14_σ21 : σ21.1 218 14 = (σ7.1 218 14) := (congrFun (hOσ21.2 218 (by decide)) 14).trans g14_σ18
      have g15_σ21 : σ21.1 218 15 = (σ7.1 218 15) := (congrFun (hOσ21.2 218 (by decide)) 15).trans g15_σ18
      have g20_σ21 : σ21.1 218 20 = (σ0.1 218 20) := (congrFun (hOσ21.2 218 (by decide)) 20).trans g20_σ18
      have g22_σ21 : σ21.1 218 22 = (σ0.1 218 22) := (congrFun (hOσ21.2 218 (by decide)) 22).trans g22_σ18
      have g23_σ21 : σ21.1 218 23 = (σ0.1 218 23) := (congrFun (hOσ21.2 218 (by decide)) 23).trans g23_σ18
      have g24_σ21 : σ21.1 218 24 = (σ0.1 218 24) := (congrFun (hOσ21.2 218 (by decide)) 24).trans g24_σ18
      have g25_σ21 : σ21.1 218 25 = (σ0.1 218 25) := (congrFun (hOσ21.2 218 (by decide)) 25).trans g25_σ18
      exact ok_some ⟨hT, (show (TOK σ21.1 ∧ (σ0.1 218 11).toInt ≤ (σ21.1 218 11).toInt ∧ (σ21.1 218 14 = 0 → (edOK tx n i ∧ RX σ21.1 tx n (tkE tx n (tkE tx n i))) ∧ (σ21.1 231 2).toInt = (σ0.1 231 2).toInt + 1 ∧ σ21.1 231 0 = σ0.1 231 0) ∧ (¬ σ21.1 218 14 = 0 → ¬ edOK tx n i) ∧ FW (σ21.1 231) ∧ σ21.1 231 1 = σ0.1 231 1) ∧ (σ21.1 218 7 = σ0.1 218 7 ∧ σ21.1 218 9 = σ0.1 218 9 ∧ σ21.1 218 20 = σ0.1 218 20 ∧ σ21.1 218 22 = σ0.1 218 22 ∧ σ21.1 218 23 = σ0.1 218 23 ∧ σ21.1 218 24 = σ0.1 218 24 ∧ σ21.1 218 25 = σ0.1 218 25) from ⟨by first | exact ⟨hK, by (try simp only [g7_σ21, g9_σ21, g10_σ21, g11_σ21, g12_σ21, g13_σ21, g14_σ21, g15_σ21, g20_σ21, g22_σ21, g23_σ21, g24_σ21, g25_σ21]); omega, fun q => absurd q (by (try simp only [g7_σ21, g9_σ21, g10_σ21, g11_σ21, g12_σ21, g13_σ21, g14_σ21, g15_σ21, g20_σ21, g22_σ21, g23_σ21, g24_σ21, g25_σ21]); exact n48), fun _ q => (f4 n12).2 q.1, by (first | rw [rfl] | skip); exact hF, congrFun rfl 1⟩ | exact ⟨hK, by (try simp only [g7_σ21, g9_σ21, g10_σ21, g11_σ21, g12_σ21, g13_σ21, g14_σ21, g15_σ21, g20_σ21, g22_σ21, g23_σ21, g24_σ21, g25_σ21]); omega, fun q => absurd q (by (try simp only [g7_σ21, g9_σ21, g10_σ21, g11_σ21, g12_σ21, g13_σ21, g14_σ21, g15_σ21, g20_σ21, g22_σ21, g23_σ21, g24_σ21, g25_σ21]); exact n48), fun _ q => q.2.1 dd, by (first | rw [rfl] | skip); exact hF, congrFun rfl 1⟩ | exact ⟨hK, by (try simp only [g7_σ21, g9_σ21, g10_σ21, g11_σ21, g12_σ21, g13_σ21, g14_σ21, g15_σ21, g20_σ21, g22_σ21, g23_σ21, g24_σ21, g25_σ21]); omega, fun q => absurd q (by (try simp only [g7_σ21, g9_σ21, g10_σ21, g11_σ21, g12_σ21, g13_σ21, g14_σ21, g15_σ21, g20_σ21, g22_σ21, g23_σ21, g24_σ21, g25_σ21]); exact n48), fun _ q => (f40 n48).2 y12 q.2.2, by (first | rw [rfl] | skip); exact hF, congrFun rfl 1⟩ | exact ⟨hK, by (try simp only [g7_σ21, g9_σ21, g10_σ21, g11_σ21, g12_σ21, g13_σ21, g14_σ21, g15_σ21, g20_σ21, g22_σ21, g23_σ21, g24_σ21, g25_σ21]); omega, fun _ => ⟨⟨⟨(u4 y12).1.2, dd, (u40 y48).1.2⟩, by first | exact (u40 y48).2.2 | exact RX_i g9_σ21 g10_σ21 g11_σ21 g12_σ21 g13_σ21 ((hT.2 224 (by decide)).trans tE) nE (u40 y48).2.2.2⟩, c91, z91⟩, fun q => absurd (by (try simp only [g7_σ21, g9_σ21, g10_σ21, g11_σ21, g12_σ21, g13_σ21, g14_σ21, g15_σ21, g20_σ21, g22_σ21, g23_σ21, g24_σ21, g25_σ21]); exact y48) q, k91.1, k91.2⟩ | exact absurd (u40 y48).1.1.1 n33 | exact absurd (u40 y48).1.1.1 n12, g7_σ21, g9_σ21, g20_σ21, g22_σ21, g23_σ21, g24_σ21, g25_σ21⟩)⟩
  · have qhc5 := hqv3.2 hc5
    have y12 := qhc5
    have pK : TKV (σ2.1 218 11) (σ2.1 218 10) (σ2.1 218 12) (σ2.1 218 13) tx n (tkE tx n i) := (u4 qhc5).2.2.2
    refine ok_gI rfl ?_
    refine ok_if (fun hc23 => ?_) (fun hc23 => ?_)
    · have k20 : tkK tx n (tkE tx n i) = 2 := pK.2.1.symm.trans hc23
      have v20 := pK.2.2 hc23
      refine ok_gI rfl ?_
      refine ok_if (fun hc25 => ?_) (fun hc25 => ?_)
      · have dd : tkK tx n (tkE tx n i) = 2 ∧ nv5 tx n (tkE tx n i) = nv5 tx n i := ⟨k20, v20.symm.trans ((congrArg Int32.toInt hc25).trans (u4 y12).2.1)⟩
        refine ok_gC rfl ?_
        refine ok_zbT (Q := fun V σ => (TOK σ.1 ∧ ¬ σ.1 218 14 = 0) ∧ (σ.1 218 7 = σ2.1 218 7 ∧ σ.1 218 9 = σ2.1 218 9 ∧ σ.1 218 10 = σ2.1 218 10 ∧ σ.1 218 11 = σ2.1 218 11 ∧ σ.1 218 12 = σ2.1 218 12 ∧ σ.1 218 13 = σ2.1 218 13 ∧ σ.1 218 20 = σ2.1 218 20 ∧ σ.1 218 22 = σ2.1 218 22 ∧ σ.1 218 23 = σ2.1 218 23 ∧ σ.1 218 24 = σ2.1 218 24 ∧ σ.1 218 25 = σ2.1 218 25)) hT (s_X12_errs hN (hR.tr hT) (hK) (by rw [hT.2 224 (by decide)]; exact hY) (by decide)) (by decide) (fun v26 σ27 hOσ27 hT hqv26 => ?_)
        have hqv26 : (TOK σ27.1 ∧ ¬ σ27.1 218 14 = 0) ∧ (σ27.1 218 7 = σ2.1 218 7 ∧ σ27.1 218 9 = σ2.1 218 9 ∧ σ27.1 218 10 = σ2.1 218 10 ∧ σ27.1 218 11 = σ2.1 218 11 ∧ σ27.1 218 12 = σ2.1 218 12 ∧ σ27.1 218 13 = σ2.1 218 13 ∧ σ27.1 218 20 = σ2.1 218 20 ∧ σ27.1 218 22 = σ2.1 218 22 ∧ σ27.1 218 23 = σ2.1 218 23 ∧ σ27.1 218 24 = σ2.1 218 24 ∧ σ27.1 218 25 = σ2.1 218 25) := hqv26
        have hkv26 := hqv26
        have hqv26 := hqv26.1
        have r231_σ27 : σ27.1 231 = σ0.1 231 := (hOσ27.2 231 (by decide)).trans r231_σ2
        have hK : TOK σ27.1 := by first | exact hqv26.1 | exact hqv26.1.1 | exact TOK_p eσ27 (by decide) hK
        try simp only [g7_σ2, g9_σ2, g20_σ2, g22_σ2, g23_σ2, g24_σ2, g25_σ2] at hqv26
        have g7_σ27 : σ27.1 218 7 = (σ0.1 218 7) := (hkv26.2.1).trans g7_σ2
        have g9_σ27 : σ27.1 218 9 = (σ0.1 218 9) := (hkv26.2.2.1).trans g9_σ2
        have g10_σ27 : σ27.1 218 10 = (σ2.1 218 10) := hkv26.2.2.2.1
        have g11_σ27 : σ27.1 218 11 = (σ2.1 218 11) := hkv26.2.2.2.2.1
        have g12_σ27 : σ27.1 218 12 = (σ2.1 218 12) := hkv26.2.2.2.2.2.1
        have g13_σ27 : σ27.1 218 13 = (σ2.1 218 13) := hkv26.2.2.2.2.2.2.1
        have g20_σ27 : σ27.1 218 20 = (σ0.1 218 20) := (hkv26.2.2.2.2.2.2.2.1).trans g20_σ2
        have g22_σ27 : σ27.1 218 22 = (σ0.1 218 22) := (hkv26.2.2.2.2.2.2.2.2.1).trans g22_σ2
        have g23_σ27 : σ27.1 218 23 = (σ0.1 218 23) := (hkv26.2.2.2.2.2.2.2.2.2.1).trans g23_σ2
        have g24_σ27 : σ27.1 218 24 = (σ0.1 218 24) := (hkv26.2.2.2.2.2.2.2.2.2.2.1).trans g24_σ2
        have g25_σ27 : σ27.1 218 25 = (σ0.1 218 25) := (hkv26.2.2.2.2.2.2.2.2.2.2.2).trans g25_σ2
        have n33 := hqv26.2
        rw [J_X12_readsEdge_36.eq_1]
        refine ok_gC rfl ?_
        refine ok_zbT (Q := fun V σ => (TOK σ.1 ∧ (σ27.1 218 11).toInt ≤ (σ.1 218 11).toInt ∧ (σ.1 218 14 = 0 → ((σ27.1 218 14 = 0 ∧ (σ27.1 218 11).toInt < (σ.1 218 11).toInt) ∧ nOK tx n (tkE tx n i) (0 : Int32) (7 : Int32)) ∧ V.toInt = min 99999 (Nv tx n (tkF tx n (tkE tx n i)) 0 : Int) ∧ RX σ.1 tx n (tkE tx n (tkE tx n i))) ∧ (¬ σ.1 218 14 = 0 → V = 0 ∧ (σ27.1 218 14 = 0 → ¬ nOK tx n (tkE tx n i) (0 : Int32) (7 : Int32)))) ∧ (σ.1 218 7 = σ27.1 218 7 ∧ σ.1 218 9 = σ27.1 218 9 ∧ σ.1 218 20 = σ27.1 218 20 ∧ σ.1 218 22 = σ27.1 218 22 ∧ σ.1 218 23 = σ27.1 218 23 ∧ σ.1 218 24 = σ27.1 218 24 ∧ σ.1 218 25 = σ27.1 218 25)) hT (s_X12_number_c hN (hR.tr hT) (hK) (by rw [hT.2 224 (by decide)]; exact hY) (by first | exact fun q => absurd q n33 | exact fun q => (u4 q).2.2 | exact fun q => RX_i g9_σ27 g10_σ27 g11_σ27 g12_σ27 g13_σ27 ((hT.2 224 (by decide)).trans tE) nE pK)) (by decide) (fun v28 σ29 hOσ29 hT hqv28 => ?_)
        have hqv28 : (TOK σ29.1 ∧ (σ27.1 218 11).toInt ≤ (σ29.1 218 11).toInt ∧ (σ29.1 218 14 = 0 → ((σ27.1 218 14 = 0 ∧ (σ27.1 218 11).toInt < (σ29.1 218 11).toInt) ∧ nOK tx n (tkE tx n i) (0 : Int32) (7 : Int32)) ∧ v28.toInt = min 99999 (Nv tx n (tkF tx n (tkE tx n i)) 0 : Int) ∧ RX σ29.1 tx n (tkE tx n (tkE tx n i))) ∧ (¬ σ29.1 218 14 = 0 → v28 = 0 ∧ (σ27.1 218 14 = 0 → ¬ nOK tx n (tkE tx n i) (0 : Int32) (7 : Int32)))) ∧ (σ29.1 218 7 = σ27.1 218 7 ∧ σ29.1 218 9 = σ27.1 218 9 ∧ σ29.1 218 20 = σ27.1 218 20 ∧ σ29.1 218 22 = σ27.1 218 22 ∧ σ29.1 218 23 = σ27.1 218 23 ∧ σ29.1 218 24 = σ27.1 218 24 ∧ σ29.1 218 25 = σ27.1 218 25) := hqv28
        have hkv28 := hqv28
        have hqv28 := hqv28.1
        have r231_σ29 : σ29.1 231 = σ0.1 231 := (hOσ29.2 231 (by decide)).trans r231_σ27
        have hK : TOK σ29.1 := by first | exact hqv28.1 | exact hqv28.1.1 | exact TOK_p eσ29 (by decide) hK
        try simp only [g7_σ27, g9_σ27, g10_σ27, g11_σ27, g12_σ27, g13_σ27, g20_σ27, g22_σ27, g23_σ27, g24_σ27, g25_σ27] at hqv28
        have g7_σ29 : σ29.1 218 7 = (σ0.1 218 7) := (hkv28.2.1).trans g7_σ27
        have g9_σ29 : σ29.1 218 9 = (σ0.1 218 9) := (hkv28.2.2.1).trans g9_σ27
        have g20_σ29 : σ29.1 218 20 = (σ0.1 218 20) := (hkv28.2.2.2.1).trans g20_σ27
        have g22_σ29 : σ29.1 218 22 = (σ0.1 218 22) := (hkv28.2.2.2.2.1).trans g22_σ27
        have g23_σ29 : σ29.1 218 23 = (σ0.1 218 23) := (hkv28.2.2.2.2.2.1).trans g23_σ27
        have g24_σ29 : σ29.1 218 24 = (σ0.1 218 24) := (hkv28.2.2.2.2.2.2.1).trans g24_σ27
        have g25_σ29 : σ29.1 218 25 = (σ0.1 218 25) := (hkv28.2.2.2.2.2.2.2).trans g25_σ27
        have m40 := hqv28.2.1
        have u40 := hqv28.2.2.1
        have f40 := hqv28.2.2.2
        have b40 : 0 ≤ v28.toInt ∧ v28.toInt ≤ 7 := by by_cases h9 : σ29.1 218 14 = 0; have h8 := (u40 h9).1.2.2.2; have h7 := (u40 h9).2.1; simp only [Int32.reduceToInt] at h8; omega; rw [(f40 h9).1]; decide
        refine ok_gC rfl ?_
        refine ok_zbX (Q := fun V => (V = 0 → ¬ σ29.1 218 14 = 0) ∧ (¬ V = 0 → σ29.1 218 14 = 0)) (x_X12_good) (fun v30 hqv30 => ?_)
        have hqv30 : (v30 = 0 → ¬ σ29.1 218 14 = 0) ∧ (¬ v30 = 0 → σ29.1 218 14 = 0) := hqv30
        try simp only [g7_σ29, g9_σ29, g20_σ29, g22_σ29, g23_σ29, g24_σ29, g25_σ29, hT.2 224 (by decide)] at hqv30
        refine ok_if (fun hc32 => ?_) (fun hc32 => ?_)
        · have qhc32 := hqv30.1 hc32
          have n48 := qhc32
          exact ok_some ⟨hT, (show (TOK σ29.1 ∧ (σ0.1 218 11).toInt ≤ (σ29.1 218 11).toInt ∧ (σ29.1 218 14 = 0 → (edOK tx n i ∧ RX σ29.1 tx n (tkE tx n (tkE tx n i))) ∧ (σ29.1 231 2).toInt = (σ0.1 231 2).toInt + 1 ∧ σ29.1 231 0 = σ0.1 231 0) ∧ (¬ σ29.1 218 14 = 0 → ¬ edOK tx n i) ∧ FW (σ29.1 231) ∧ σ29.1 231 1 = σ0.1 231 1) ∧ (σ29.1 218 7 = σ0.1 218 7 ∧ σ29.1 218 9 = σ0.1 218 9 ∧ σ29.1 218 20 = σ0.1 218 20 ∧ σ29.1 218 22 = σ0.1 218 22 ∧ σ29.1 218 23 = σ0.1 218 23 ∧ σ29.1 218 24 = σ0.1 218 24 ∧ σ29.1 218 25 = σ0.1 218 25) from ⟨by first | exact ⟨hK, by (try simp only [g7_σ29, g9_σ29, g20_σ29, g22_σ29, g23_σ29, g24_σ29, g25_σ29]); omega, fun q => absurd q (by (try simp only [g7_σ29, g9_σ29, g20_σ29, g22_σ29, g23_σ29, g24_σ29, g25_σ29]); exact n48), fun _ q => (f4 n12).2 q.1, by (first | rw [r231_σ29] | skip); exact hF, congrFun r231_σ29 1⟩ | exact ⟨hK, by (try simp only [g7_σ29, g9_σ29, g20_σ29, g22_σ29, g23_σ29, g24_σ29, g25_σ29]); omega, fun q => absurd q (by (try simp only [g7_σ29, g9_σ29, g20_σ29, g22_σ29, g23_σ29, g24_σ29, g25_σ29]); exact n48), fun _ q => q.2.1 dd, by (first | rw [r231_σ29] | skip); exact hF, congrFun r231_σ29 1⟩ | exact ⟨hK, by (try simp only [g7_σ29, g9_σ29, g20_σ29, g22_σ29, g23_σ29, g24_σ29, g25_σ29]); omega, fun q => absurd q (by (try simp only [g7_σ29, g9_σ29, g20_σ29, g22_σ29, g23_σ29, g24_σ29, g25_σ29]); exact n48), fun _ q => (f40 n48).2 y12 q.2.2, by (first | rw [r231_σ29] | skip); exact hF, congrFun r231_σ29 1⟩ | exact ⟨hK, by (try simp only [g7_σ29, g9_σ29, g20_σ29, g22_σ29, g23_σ29, g24_σ29, g25_σ29]); omega, fun _ => ⟨⟨⟨(u4 y12).1.2, dd, (u40 y48).1.2⟩, by first | exact (u40 y48).2.2 | exact RX_i g9_σ29 rfl rfl rfl rfl ((hT.2 224 (by decide)).trans tE) nE (u40 y48).2.2.2⟩, c91, z91⟩, fun q => absurd (by (try simp only [g7_σ29, g9_σ29, g20_σ29, g22_σ29, g23_σ29, g24_σ29, g25_σ29]); exact y48) q, k91.1, k91.2⟩ | exact absurd (u40 y48).1.1.1 n33 | exact absurd (u40 y48).1.1.1 n12, g7_σ29, g9_σ29, g20_σ29, g22_σ29, g23_σ29, g24_σ29, g25_σ29⟩)⟩
        · have qhc32 := hqv30.2 hc32
          have y48 := qhc32
          refine ok_gR (v := 231) hT rfl (hR 218 26 rfl) ?_
          refine ok_gR (v := 231) hT rfl (hR 218 26 rfl) ?_
          refine ok_aIn rfl (by ((try simp only [g7_σ29, g9_σ29, g20_σ29, g22_σ29, g23_σ29, g24_σ29, g25_σ29])); first | omega | decide | (simp only [Int32.le_iff_toInt_le, Int32.lt_iff_toInt_lt, ti_add, ti_sub, ti_mul, Int32.reduceToInt] at *; omega)) (by ((try simp only [g7_σ29, g9_σ29, g20_σ29, g22_σ29, g23_σ29, g24_σ29, g25_σ29])); first | omega | decide | (simp only [Int32.le_iff_toInt_le, Int32.lt_iff_toInt_lt, ti_add, ti_sub, ti_mul, Int32.reduceToInt] at *; omega)) (fun v35 ev35 => ?_)
          have r63 : σ29.1 231 = σ0.1 231 := r231_σ29
          have ev63 : v35 = σ0.1 231 2 := by rw [ev35, r63]; rfl
          have i63 := ti13 (x := v35) (by rw [ev63]; omega) (by rw [ev63]; omega)
          refine ok_s14 hT rfl (by decide) (by rw [i63.1, ev63]; omega) (by rw [i63.1, ev63]; omega) (fun σ36 eσ36 hOσ36 hT => ?_)
          have e66 := eσ36
          have hK : TOK σ36.1 := TOK_tr hOσ36 (by decide) (by decide) hK
          have g7_σ36 : σ36.1 218 7 = (σ0.1 218 7) := (congrFun (hOσ36.2 218 (by decide)) 7).trans g7_σ29
          have g9_σ36 : σ36.1 218 9 = (σ0.1 218 9) := (congrFun (hOσ36.2 218 (by decide)) 9).trans g9_σ29
          have g10_σ36 : σ36.1 218 10 = (σ29.1 218 10) := congrFun (hOσ36.2 218 (by decide)) 10
          have g11_σ36 : σ36.1 218 11 = (σ29.1 218 11) := congrFun (hOσ36.2 218 (by decide)) 11
          have g12_σ36 : σ36.1 218 12 = (σ29.1 218 12) := congrFun (hOσ36.2 218 (by decide)) 12
          have g13_σ36 : σ36.1 218 13 = (σ29.1 218 13) := congrFun (hOσ36.2 218 (by decide)) 13
          have g14_σ36 : σ36.1 218 14 = (σ29.1 218 14) := congrFun (hOσ36.2 218 (by decide)) 14
          have g15_σ36 : σ36.1 218 15 = (σ29.1 218 15) := congrFun (hOσ36.2 218 (by decide)) 15
          have g20_σ36 : σ36.1 218 20 = (σ0.1 218 20) := (congrFun (hOσ36.2 218 (by decide)) 20).trans g20_σ29
          have g22_σ36 : σ36.1 218 22 = (σ0.1 218 22) := (congrFun (hOσ36.2 218 (by decide)) 22).trans g22_σ29
          have g23_σ36 : σ36.1 218 23 = (σ0.1 218 23) := (congrFun (hOσ36.2 218 (by decide)) 23).trans g23_σ29
          have g24_σ36 : σ36.1 218 24 = (σ0.1 218 24) := (congrFun (hOσ36.2 218 (by decide)) 24).trans g24_σ29
          have g25_σ36 : σ36.1 218 25 = (σ0.1 218 25) := (congrFun (hOσ36.2 218 (by decide)) 25).trans g25_σ29
          refine ok_gR (v := 231) hT rfl (hR 218 26 rfl) ?_
          refine ok_gR (v := 231) hT rfl (hR 218 26 rfl) ?_
          refine ok_aIn rfl (by ((try simp only [g7_σ36, g9_σ36, g10_σ36, g11_σ36, g12_σ36, g13_σ36, g14_σ36, g15_σ36, g20_σ36, g22_σ36, g23_σ36, g24_σ36, g25_σ36])); first | omega | decide | (simp only [Int32.le_iff_toInt_le, Int32.lt_iff_toInt_lt, ti_add, ti_sub, ti_mul, Int32.reduceToInt] at *; omega)) (by ((try simp only [g7_σ36, g9_σ36, g10_σ36, g11_σ36, g12_σ36, g13_σ36, g14_σ36, g15_σ36, g20_σ36, g22_σ36, g23_σ36, g24_σ36, g25_σ36])); first | omega | decide | (simp only [Int32.le_iff_toInt_le, Int32.lt_iff_toInt_lt, ti_add, ti_sub, ti_mul, Int32.reduceToInt] at *; omega)) (fun v39 ev39 => ?_)
          have ev78 : v39 = σ0.1 231 2 := by rw [ev39]; refine (zI_atN e66 (by rw [i63.2]; show 2 ≠ _; omega)).trans (congrFun r63 2)
          have i78 := ti23 (x := v39) (by rw [ev78]; omega) (by rw [ev78]; omega)
          refine ok_s14 hT rfl (by decide) (by rw [i78.1, ev78]; omega) (by rw [i78.1, ev78]; omega) (fun σ40 eσ40 hOσ40 hT => ?_)
          have e81 := eσ40
          have hK : TOK σ40.1 := TOK_tr hOσ40 (by decide) (by decide) hK
          have g7_σ40 : σ40.1 218 7 = (σ0.1 218 7) := (congrFun (hOσ40.2 218 (by decide)) 7).trans g7_σ36
          have g9_σ40 : σ40.1 218 9 = (σ0.1 218 9) := (congrFun (hOσ40.2 218 (by decide)) 9).trans g9_σ36
          have g10_σ40 : σ40.1 218 10 = (σ29.1 218 10) := (congrFun (hOσ40.2 218 (by decide)) 10).trans g10_σ36
          have g11_σ40 : σ40.1 218 11 = (σ29.1 218 11) := (congrFun (hOσ40.2 218 (by decide)) 11).trans g11_σ36
          have g12_σ40 : σ40.1 218 12 = (σ29.1 218 12) := (congrFun (hOσ40.2 218 (by decide)) 12).trans g12_σ36
          have g13_σ40 : σ40.1 218 13 = (σ29.1 218 13) := (congrFun (hOσ40.2 218 (by decide)) 13).trans g13_σ36
          have g14_σ40 : σ40.1 218 14 = (σ29.1 218 14) := (congrFun (hOσ40.2 218 (by decide)) 14).trans g14_σ36
          have g15_σ40 : σ40.1 218 15 = (σ29.1 218 15) := (congrFun (hOσ40.2 218 (by decide)) 15).trans g15_σ36
          have g20_σ40 : σ40.1 218 20 = (σ0.1 218 20) := (congrFun (hOσ40.2 218 (by decide)) 20).trans g20_σ36
          have g22_σ40 : σ40.1 218 22 = (σ0.1 218 22) := (congrFun (hOσ40.2 218 (by decide)) 22).trans g22_σ36
          have g23_σ40 : σ40.1 218 23 = (σ0.1 218 23) := (congrFun (hOσ40.2 218 (by decide)) 23).trans g23_σ36
          have g24_σ40 : σ40.1 218 24 = (σ0.1 218 24) := (congrFun (hOσ40.2 218 (by decide)) 24).trans g24_σ36
          have g25_σ40 : σ40.1 218 25 = (σ0.1 218 25) := (congrFun (hOσ40.2 218 (by decide)) 25).trans g25_σ36
          refine ok_gR (v := 231) hT rfl (hR 218 26 rfl) ?_
          refine ok_aIn rfl (by ((try simp only [g7_σ40, g9_σ40, g10_σ40, g11_σ40, g12_σ40, g13_σ40, g14_σ40, g15_σ40, g20_σ40, g22_σ40, g23_σ40, g24_σ40, g25_σ40])); first | omega | decide | (simp only [Int32.le_iff_toInt_le, Int32.lt_iff_toInt_lt, ti_add, ti_sub, ti_mul, Int32.reduceToInt] at *; omega)) (by ((try simp only [g7_σ40, g9_σ40, g10_σ40, g11_σ40, g12_σ40, g13_σ40, g14_σ40, g15_σ40, g20_σ40, g22_σ40, g23_σ40, g24_σ40, g25_σ40])); first | omega | decide | (simp only [Int32.le_iff_toInt_le, Int32.lt_iff_toInt_lt, ti_add, ti_sub, ti_mul, Int32.reduceToInt] at *; omega)) (fun v42 ev42 => ?_)
          have ev88 : v42 = σ0.1 231 2 := by rw [ev42]; refine (zI_atN e81 (by rw [i78.2]; show 2 ≠ _; omega)).trans ((zI_atN e66 (by rw [i63.2]; show 2 ≠ _; omega)).trans (congrFun r63 2))
          have s88 : (v42 + 1).toInt = (σ0.1 231 2).toInt + 1 := by rw [ti_add, ev88]; simp only [Int32.reduceToInt]; omega
          refine ok_s14 hT rfl (by decide) (by ((try simp only [g7_σ40, g9_σ40, g10_σ40, g11_σ40, g12_σ40, g13_σ40, g14_σ40, g15_σ40, g20_σ40, g22_σ40, g23_σ40, g24_σ40, g25_σ40])); first | omega | decide | (simp only [Int32.le_iff_toInt_le, Int32.lt_iff_toInt_lt, ti_add, ti_sub, ti_mul, Int32.reduceToInt] at *; omega)) (by ((try simp only [g7_σ40, g9_σ40, g10_σ40, g11_σ40, g12_σ40, g13_σ40, g14_σ40, g15_σ40, g20_σ40, g22_σ40, g23_σ40, g24_σ40, g25_σ40])); first | omega | decide | (simp only [Int32.le_iff_toInt_le, Int32.lt_iff_toInt_lt, ti_add, ti_sub, ti_mul, Int32.reduceToInt] at *; omega)) (fun σ43 eσ43 hOσ43 hT => ?_)
          have k91 := FW_edge r63 e66 e81 eσ43 (by rw [i63.2, ev63]) (by rw [i78.2, ev78]) rfl b4 b40 s88 hF h2
          have c91 : (σ43.1 231 2).toInt = (σ0.1 231 2).toInt + 1 := by rw [show σ43.1 231 2 = _ from zI_atI eσ43]; exact s88
          have z91 : σ43.1 231 0 = σ0.1 231 0 := (zI_atN eσ43 (by show 0 ≠ 2; decide)).trans ((zI_atN e81 (by rw [i78.2]; omega)).trans ((zI_atN e66 (by rw [i63.2]; omega)).trans (congrFun r63 0)))
          have hK : TOK σ43.1 := TOK_tr hOσ43 (by decide) (by decide) hK
          have g7_σ43 : σ43.1 218 7 = (σ0.1 218 7) := (congrFun (hOσ43.2 218 (by decide)) 7).trans g7_σ40
          have g9_σ43 : σ43.1 218 9 = (σ0.1 218 9) := (congrFun (hOσ43.2 218 (by decide)) 9).trans g9_σ40
          have g10_σ43 : σ43.1 218 10 = (σ29.1 218 10) := (congrFun (hOσ43.2 218 (by decide)) 10).trans g10_σ40
          have g11_σ43 : σ43.1 218 11 = (σ29.1 218 11) := (congrFun (hOσ43.2 218 (by decide)) 11).trans g11_σ40
          have g12_σ43 : σ43.1 218 12 = (σ29.1 218 12) := (congrFun (hOσ43.2 218 (by decide)) 12).trans g12_σ40
          have g13_σ43 : σ43.1 218 13 = (σ29.1 218 13) := (congrFun (hOσ43.2 218 (by decide)) 13).trans g13_σ40
          have g14_σ43 : σ43.1 218 14 = (σ29.1 218 14) := (congrFun (hOσ43.2 218 (by decide)) 14).trans g14_σ40
          have g15_σ43 : σ43.1 218 15 = (σ29.1 218 15) := (congrFun (hOσ43.2 218 (by decide)) 15).trans g15_σ40
          have g20_σ43 : σ43.1 218 20 = (σ0.1 218 20) := (congrFun (hOσ43.2 218 (by decide)) 20).trans g20_σ40
          have g22_σ43 : σ43.1 218 22 = (σ0.1 218 22) := (congrFun (hOσ43.2 218 (by decide)) 22).trans g22_σ40
          have g23_σ43 : σ43.1 218 23 = (σ0.1 218 23) := (congrFun (hOσ43.2 218 (by decide)) 23).trans g23_σ40
          have g24_σ43 : σ43.1 218 24 = (σ0.1 218 24) := (congrFun (hOσ43.2 218 (by decide)) 24).trans g24_σ40
          have g25_σ43 : σ43.1 218 25 = (σ0.1 218 25) := (congrFun (hOσ43.2 218 (by decide)) 25).trans g25_σ40
          exact ok_some ⟨hT, (show (TOK σ43.1 ∧ (σ0.1 218 11).toInt ≤ (σ43.1 218 11).toInt ∧ (σ43.1 218 14 = 0 → (edOK tx n i ∧ RX σ43.1 tx n (tkE tx n (tkE tx n i))) ∧ (σ43.1 231 2).toInt = (σ0.1 231 2).toInt + 1 ∧ σ43.1 231 0 = σ0.1 231 0) ∧ (¬ σ43.1 218 14 = 0 → ¬ edOK tx n i) ∧ FW (σ43.1 231) ∧ σ43.1 231 1 = σ0.1 231 1) ∧ (σ43.1 218 7 = σ0.1 218 7 ∧ σ43.1 218 9 = σ0.1 218 9 ∧ σ43.1 218 20 = σ0.1 218 20 ∧ σ43.1 218 22 = σ0.1 218 22 ∧ σ43.1 218 23 = σ0.1 218 23 ∧ σ43.1 218 24 = σ0.1 218 24 ∧ σ43.1 218 25 = σ0.1 218 25) from ⟨by first | exact ⟨hK, by (try simp only [g7_σ43, g9_σ43, g10_σ43, g11_σ43, g12_σ43, g13_σ43, g14_σ43, g15_σ43, g20_σ43, g22_σ43, g23_σ43, g24_σ43, g25_σ43]); omega, fun q => absurd q (by (try simp only [g7_σ43, g9_σ43, g10_σ43, g11_σ43, g12_σ43, g13_σ43, g14_σ43, g15_σ43, g20_σ43, g22_σ43, g23_σ43, g24_σ43, g25_σ43]); exact n48), fun _ q => (f4 n12).2 q.1, by (first | rw [rfl] | skip); exact hF, congrFun rfl 1⟩ | exact ⟨hK, by (try simp only [g7_σ43, g9_σ43, g10_σ43, g11_σ43, g12_σ43, g13_σ43, g14_σ43, g15_σ43, g20_σ43, g22_σ43, g23_σ43, g24_σ43, g25_σ43]); omega, fun q => absurd q (by (try simp only [g7_σ43, g9_σ43, g10_σ43, g11_σ43, g12_σ43, g13_σ43, g14_σ43, g15_σ43, g20_σ43, g22_σ43, g23_σ43, g24_σ43, g25_σ43]); exact n48), fun _ q => q.2.1 dd, by (first | rw [rfl] | skip); exact hF, congrFun rfl 1⟩ | exact ⟨hK, by (try simp only [g7_σ43, g9_σ43, g10_σ43, g11_σ43, g12_σ43, g13_σ43, g14_σ43, g15_σ43, g20_σ43, g22_σ43, g23_σ43, g24_σ43, g25_σ43]); omega, fun q => absurd q (by (try simp only [g7_σ43, g9_σ43, g10_σ43, g11_σ43, g12_σ43, g13_σ43, g14_σ43, g15_σ43, g20_σ43, g22_σ43, g23_σ43, g24_σ43, g25_σ43]); exact n48), fun _ q => (f40 n48).2 y12 q.2.2, by (first | rw [rfl] | skip); exact hF, congrFun rfl 1⟩ | exact ⟨hK, by (try simp only [g7_σ43, g9_σ43, g10_σ43, g11_σ43, g12_σ43, g13_σ43, g14_σ43, g15_σ43, g20_σ43, g22_σ43, g23_σ43, g24_σ43, g25_σ43]); omega, fun _ => ⟨⟨⟨(u4 y12).1.2, dd, (u40 y48).1.2⟩, by first | exact (u40 y48).2.2 | exact RX_i g9_σ43 g10_σ43 g11_σ43 g12_σ43 g13_σ43 ((hT.2 224 (by decide)).trans tE) nE (u40 y48).2.2.2⟩, c91, z91⟩, fun q => absurd (by (try simp only [g7_σ43, g9_σ43, g10_σ43, g11_σ43, g12_σ43, g13_σ43, g14_σ43, g15_σ43, g20_σ43, g22_σ43, g23_σ43, g24_σ43, g25_σ43]); exact y48) q, k91.1, k91.2⟩ | exact absurd (u40 y48).1.1.1 n33 | exact absurd (u40 y48).1.1.1 n12, g7_σ43, g9_σ43, g20_σ43, g22_σ43, g23_σ43, g24_σ43, g25_σ43⟩)⟩
      · have dd : ¬ (tkK tx n (tkE tx n i) = 2 ∧ nv5 tx n (tkE tx n i) = nv5 tx n i) := fun q => hc25 (Int32.toInt_inj.mp (v20.trans (q.2.trans (u4 y12).2.1.symm)))
        rw [J_X12_readsEdge_36.eq_1]
        refine ok_gC rfl ?_
        refine ok_zbT (Q := fun V σ => (TOK σ.1 ∧ (σ2.1 218 11).toInt ≤ (σ.1 218 11).toInt ∧ (σ.1 218 14 = 0 → ((σ2.1 218 14 = 0 ∧ (σ2.1 218 11).toInt < (σ.1 218 11).toInt) ∧ nOK tx n (tkE tx n i) (0 : Int32) (7 : Int32)) ∧ V.toInt = min 99999 (Nv tx n (tkF tx n (tkE tx n i)) 0 : Int) ∧ RX σ.1 tx n (tkE tx n (tkE tx n i))) ∧ (¬ σ.1 218 14 = 0 → V = 0 ∧ (σ2.1 218 14 = 0 → ¬ nOK tx n (tkE tx n i) (0 : Int32) (7 : Int32)))) ∧ (σ.1 218 7 = σ2.1 218 7 ∧ σ.1 218 9 = σ2.1 218 9 ∧ σ.1 218 20 = σ2.1 218 20 ∧ σ.1 218 22 = σ2.1 218 22 ∧ σ.1 218 23 = σ2.1 218 23 ∧ σ.1 218 24 = σ2.1 218 24 ∧ σ.1 218 25 = σ2.1 218 25)) hT (s_X12_number_c hN (hR.tr hT) (hK) (by rw [hT.2 224 (by decide)]; exact hY) (by first | exact fun q => absurd q n33 | exact fun q => (u4 q).2.2 | exact fun q => RX_i g9_σ2 rfl rfl rfl rfl ((hT.2 224 (by decide)).trans tE) nE pK)) (by decide) (fun v44 σ45 hOσ45 hT hqv44 => ?_)
        have hqv44 : (TOK σ45.1 ∧ (σ2.1 218 11).toInt ≤ (σ45.1 218 11).toInt ∧ (σ45.1 218 14 = 0 → ((σ2.1 218 14 = 0 ∧ (σ2.1 218 11).toInt < (σ45.1 218 11).toInt) ∧ nOK tx n (tkE tx n i) (0 : Int32) (7 : Int32)) ∧ v44.toInt = min 99999 (Nv tx n (tkF tx n (tkE tx n i)) 0 : Int) ∧ RX σ45.1 tx n (tkE tx n (tkE tx n i))) ∧ (¬ σ45.1 218 14 = 0 → v44 = 0 ∧ (σ2.1 218 14 = 0 → ¬ nOK tx n (tkE tx n i) (0 : Int32) (7 : Int32)))) ∧ (σ45.1 218 7 = σ2.1 218 7 ∧ σ45.1 218 9 = σ2.1 218 9 ∧ σ45.1 218 20 = σ2.1 218 20 ∧ σ45.1 218 22 = σ2.1 218 22 ∧ σ45.1 218 23 = σ2.1 218 23 ∧ σ45.1 218 24 = σ2.1 218 24 ∧ σ45.1 218 25 = σ2.1 218 25) := hqv44
        have hkv44 := hqv44
        have hqv44 := hqv44.1
        have r231_σ45 : σ45.1 231 = σ0.1 231 := (hOσ45.2 231 (by decide)).trans r231_σ2
        have hK : TOK σ45.1 := by first | exact hqv44.1 | exact hqv44.1.1 | exact TOK_p eσ45 (by decide) hK
        try simp only [g7_σ2, g9_σ2, g20_σ2, g22_σ2, g23_σ2, g24_σ2, g25_σ2] at hqv44
        have g7_σ45 : σ45.1 218 7 = (σ0.1 218 7) := (hkv44.2.1).trans g7_σ2
        have g9_σ45 : σ45.1 218 9 = (σ0.1 218 9) := (hkv44.2.2.1).trans g9_σ2
        have g20_σ45 : σ45.1 218 20 = (σ0.1 218 20) := (hkv44.2.2.2.1).trans g20_σ2
        have g22_σ45 : σ45.1 218 22 = (σ0.1 218 22) := (hkv44.2.2.2.2.1).trans g22_σ2
        have g23_σ45 : σ45.1 218 23 = (σ0.1 218 23) := (hkv44.2.2.2.2.2.1).trans g23_σ2
        have g24_σ45 : σ45.1 218 24 = (σ0.1 218 24) := (hkv44.2.2.2.2.2.2.1).trans g24_σ2
        have g25_σ45 : σ45.1 218 25 = (σ0.1 218 25) := (hkv44.2.2.2.2.2.2.2).trans g25_σ2
        have m40 := hqv44.2.1
        have u40 := hqv44.2.2.1
        have f40 := hqv44.2.2.2
        have b40 : 0 ≤ v44.toInt ∧ v44.toInt ≤ 7 := by by_cases h9 : σ45.1 218 14 = 0; have h8 := (u40 h9).1.2.2.2; have h7 := (u40 h9).2.1; simp only [Int32.reduceToInt] at h8; omega; rw [(f40 h9).1]; decide
        refine ok_gC rfl ?_
        refine ok_zbX (Q := fun V => (V = 0 → ¬ σ45.1 218 14 = 0) ∧ (¬ V = 0 → σ45.1 218 14 = 0)) (x_X12_good) (fun v46 hqv46 => ?_)
        have hqv46 : (v46 = 0 → ¬ σ45.1 218 14 = 0) ∧ (¬ v46 = 0 → σ45.1 218 14 = 0) := hqv46
        try simp only [g7_σ45, g9_σ45, g20_σ45, g22_σ45, g23_σ45, g24_σ45, g25_σ45, hT.2 224 (by decide)] at hqv46
        refine ok_if (fun hc48 => ?_) (fun hc48 => ?_)
        · have qhc48 := hqv46.1 hc48
          have n48 := qhc48
          exact ok_some ⟨hT, (show (TOK σ45.1 ∧ (σ0.1 218 11).toInt ≤ (σ45.1 218 11).toInt ∧ (σ45.1 218 14 = 0 → (edOK tx n i ∧ RX σ45.1 tx n (tkE tx n (tkE tx n i))) ∧ (σ45.1 231 2).toInt = (σ0.1 231 2).toInt + 1 ∧ σ45.1 231 0 = σ0.1 231 0) ∧ (¬ σ45.1 218 14 = 0 → ¬ edOK tx n i) ∧ FW (σ45.1 231) ∧ σ45.1 231 1 = σ0.1 231 1) ∧ (σ45.1 218 7 = σ0.1 218 7 ∧ σ45.1 218 9 = σ0.1 218 9 ∧ σ45.1 218 20 = σ0.1 218 20 ∧ σ45.1 218 22 = σ0.1 218 22 ∧ σ45.1 218 23 = σ0.1 218 23 ∧ σ45.1 218 24 = σ0.1 218 24 ∧ σ45.1 218 25 = σ0.1 218 25) from ⟨by first | exact ⟨hK, by (try simp only [g7_σ45, g9_σ45, g20_σ45, g22_σ45, g23_σ45, g24_σ45, g25_σ45]); omega, fun q => absurd q (by (try simp only [g7_σ45, g9_σ45, g20_σ45, g22_σ45, g23_σ45, g24_σ45, g25_σ45]); exact n48), fun _ q => (f4 n12).2 q.1, by (first | rw [r231_σ45] | skip); exact hF, congrFun r231_σ45 1⟩ | exact ⟨hK, by (try simp only [g7_σ45, g9_σ45, g20_σ45, g22_σ45, g23_σ45, g24_σ45, g25_σ45]); omega, fun q => absurd q (by (try simp only [g7_σ45, g9_σ45, g20_σ45, g22_σ45, g23_σ45, g24_σ45, g25_σ45]); exact n48), fun _ q => q.2.1 dd, by (first | rw [r231_σ45] | skip); exact hF, congrFun r231_σ45 1⟩ | exact ⟨hK, by (try simp only [g7_σ45, g9_σ45, g20_σ45, g22_σ45, g23_σ45, g24_σ45, g25_σ45]); omega, fun q => absurd q (by (try simp only [g7_σ45, g9_σ45, g20_σ45, g22_σ45, g23_σ45, g24_σ45, g25_σ45]); exact n48), fun _ q => (f40 n48).2 y12 q.2.2, by (first | rw [r231_σ45] | skip); exact hF, congrFun r231_σ45 1⟩ | exact ⟨hK, by (try simp only [g7_σ45, g9_σ45, g20_σ45, g22_σ45, g23_σ45, g24_σ45, g25_σ45]); omega, fun _ => ⟨⟨⟨(u4 y12).1.2, dd, (u40 y48).1.2⟩, by first | exact (u40 y48).2.2 | exact RX_i g9_σ45 rfl rfl rfl rfl ((hT.2 224 (by decide)).trans tE) nE (u40 y48).2.2.2⟩, c91, z91⟩, fun q => absurd (by (try simp only [g7_σ45, g9_σ45, g20_σ45, g22_σ45, g23_σ45, g24_σ45, g25_σ45]); exact y48) q, k91.1, k91.2⟩ | exact absurd (u40 y48).1.1.1 n33 | exact absurd (u40 y48).1.1.1 n12, g7_σ45, g9_σ45, g20_σ45, g22_σ45, g23_σ45, g24_σ45, g25_σ45⟩)⟩
        · have qhc48 := hqv46.2 hc48
          have y48 := qhc48
          refine ok_gR (v := 231) hT rfl (hR 218 26 rfl) ?_
          refine ok_gR (v := 231) hT rfl (hR 218 26 rfl) ?_
          refine ok_aIn rfl (by ((try simp only [g7_σ45, g9_σ45, g20_σ45, g22_σ45, g23_σ45, g24_σ45, g25_σ45])); first | omega | decide | (simp only [Int32.le_iff_toInt_le, Int32.lt_iff_toInt_lt, ti_add, ti_sub, ti_mul, Int32.reduceToInt] at *; omega)) (by ((try simp only [g7_σ45, g9_σ45, g20_σ45, g22_σ45, g23_σ45, g24_σ45, g25_σ45])); first | omega | decide | (simp only [Int32.le_iff_toInt_le, Int32.lt_iff_toInt_lt, ti_add, ti_sub, ti_mul, Int32.reduceToInt] at *; omega)) (fun v51 ev51 => ?_)
          have r63 : σ45.1 231 = σ0.1 231 := r231_σ45
          have ev63 : v51 = σ0.1 231 2 := by rw [ev51, r63]; rfl
          have i63 := ti13 (x := v51) (by rw [ev63]; omega) (by rw [ev63]; omega)
          refine ok_s14 hT rfl (by decide) (by rw [i63.1, ev63]; omega) (by rw [i63.1, ev63]; omega) (fun σ52 eσ52 hOσ52 hT => ?_)
          have e66 := eσ52
          have hK : TOK σ52.1 := TOK_tr hOσ52 (by decide) (by decide) hK
          have g7_σ52 : σ52.1 218 7 = (σ0.1 218 7) := (congrFun (hOσ52.2 218 (by decide)) 7).trans g7_σ45
          have g9_σ52 : σ52.1 218 9 = (σ0.1 218 9) := (congrFun (hOσ52.2 218 (by decide)) 9).trans g9_σ45
          have g10_σ52 : σ52.1 218 10 = (σ45.1 218 10) := congrFun (hOσ52.2 218 (by decide)) 10
          have g11_σ52 : σ52.1 218 11 = (σ45.1 218 11) := congrFun (hOσ52.2 218 (by decide)) 11
          have g12_σ52 : σ52.1 218 12 = (σ45.1 218 12) := congrFun (hOσ52.2 218 (by decide)) 12
          have g13_σ52 : σ52.1 218 13 = (σ45.1 218 13) := congrFun (hOσ52.2 218 (by decide)) 13
          have g14_σ52 : σ52.1 218 14 = (σ45.1 218 14) := congrFun (hOσ52.2 218 (by decide)) 14
          have g15_σ52 : σ52.1 218 15 = (σ45.1 218 15) := congrFun (hOσ52.2 218 (by decide)) 15
          have g20_σ52 : σ52.1 218 20 = (σ0.1 218 20) := (congrFun (hOσ52.2 218 (by decide)) 20).trans g20_σ45
          have g22_σ52 : σ52.1 218 22 = (σ0.1 218 22) := (congrFun (hOσ52.2 218 (by decide)) 22).trans g22_σ45
          have g23_σ52 : σ52.1 218 23 = (σ0.1 218 23) := (congrFun (hOσ52.2 218 (by decide)) 23).trans g23_σ45
          have g24_σ52 : σ52.1 218 24 = (σ0.1 218 24) := (congrFun (hOσ52.2 218 (by decide)) 24).trans g24_σ45
          have g25_σ52 : σ52.1 218 25 = (σ0.1 218 25) := (congrFun (hOσ52.2 218 (by decide)) 25).trans g25_σ45
          refine ok_gR (v := 231) hT rfl (hR 218 26 rfl) ?_
          refine ok_gR (v := 231) hT rfl (hR 218 26 rfl) ?_
          refine ok_aIn rfl (by ((try simp only [g7_σ52, g9_σ52, g10_σ52, g11_σ52, g12_σ52, g13_σ52, g14_σ52, g15_σ52, g20_σ52, g22_σ52, g23_σ52, g24_σ52, g25_σ52])); first | omega | decide | (simp only [Int32.le_iff_toInt_le, Int32.lt_iff_toInt_lt, ti_add, ti_sub, ti_mul, Int32.reduceToInt] at *; omega)) (by ((try simp only [g7_σ52, g9_σ52, g10_σ52, g11_σ52, g12_σ52, g13_σ52, g14_σ52, g15_σ52, g20_σ52, g22_σ52, g23_σ52, g24_σ52, g25_σ52])); first | omega | decide | (simp only [Int32.le_iff_toInt_le, Int32.lt_iff_toInt_lt, ti_add, ti_sub, ti_mul, Int32.reduceToInt] at *; omega)) (fun v55 ev55 => ?_)
          have ev78 : v55 = σ0.1 231 2 := by rw [ev55]; refine (zI_atN e66 (by rw [i63.2]; show 2 ≠ _; omega)).trans (congrFun r63 2)
          have i78 := ti23 (x := v55) (by rw [ev78]; omega) (by rw [ev78]; omega)
          refine ok_s14 hT rfl (by decide) (by rw [i78.1, ev78]; omega) (by rw [i78.1, ev78]; omega) (fun σ56 eσ56 hOσ56 hT => ?_)
          have e81 := eσ56
          have hK : TOK σ56.1 := TOK_tr hOσ56 (by decide) (by decide) hK
          have g7_σ56 : σ56.1 218 7 = (σ0.1 218 7) := (congrFun (hOσ56.2 218 (by decide)) 7).trans g7_σ52
          have g9_σ56 : σ56.1 218 9 = (σ0.1 218 9) := (congrFun (hOσ56.2 218 (by decide)) 9).trans g9_σ52
          have g10_σ56 : σ56.1 218 10 = (σ45.1 218 10) := (congrFun (hOσ56.2 218 (by decide)) 10).trans g10_σ52
          have g11_σ56 : σ56.1 218 11 = (σ45.1 218 11) := (congrFun (hOσ56.2 218 (by decide)) 11).trans g11_σ52
          have g12_σ56 : σ56.1 218 12 = (σ45.1 218 12) := (congrFun (hOσ56.2 218 (by decide)) 12).trans g12_σ52
          have g13_σ56 : σ56.1 218 13 = (σ45.1 218 13) := (congrFun (hOσ56.2 218 (by decide)) 13).trans g13_σ52
          have g14_σ56 : σ56.1 218 14 = (σ45.1 218 14) := (congrFun (hOσ56.2 218 (by decide)) 14).trans g14_σ52
          have g15_σ56 : σ56.1 218 15 = (σ45.1 218 15) := (congrFun (hOσ56.2 218 (by decide)) 15).trans g15_σ52
          have g20_σ56 : σ56.1 218 20 = (σ0.1 218 20) := (congrFun (hOσ56.2 218 (by decide)) 20).trans g20_σ52
          have g22_σ56 : σ56.1 218 22 = (σ0.1 218 22) := (congrFun (hOσ56.2 218 (by decide)) 22).trans g22_σ52
          have g23_σ56 : σ56.1 218 23 = (σ0.1 218 23) := (congrFun (hOσ56.2 218 (by decide)) 23).trans g23_σ52
          have g24_σ56 : σ56.1 218 24 = (σ0.1 218 24) := (congrFun (hOσ56.2 218 (by decide)) 24).trans g24_σ52
          have g25_σ56 : σ56.1 218 25 = (σ0.1 218 25) := (congrFun (hOσ56.2 218 (by decide)) 25).trans g25_σ52
          refine ok_gR (v := 231) hT rfl (hR 218 26 rfl) ?_
          refine ok_aIn rfl (by ((try simp only [g7_σ56, g9_σ56, g10_σ56, g11_σ56, g12_σ56, g13_σ56, g14_σ56, g15_σ56, g20_σ56, g22_σ56, g23_σ56, g24_σ56, g25_σ56])); first | omega | decide | (simp only [Int32.le_iff_toInt_le, Int32.lt_iff_toInt_lt, ti_add, ti_sub, ti_mul, Int32.reduceToInt] at *; omega)) (by ((try simp only [g7_σ56, g9_σ56, g10_σ56, g11_σ56, g12_σ56, g13_σ56, g14_σ56, g15_σ56, g20_σ56, g22_σ56, g23_σ56, g24_σ56, g25_σ56])); first | omega | decide | (simp only [Int32.le_iff_toInt_le, Int32.lt_iff_toInt_lt, ti_add, ti_sub, ti_mul, Int32.reduceToInt] at *; omega)) (fun v58 ev58 => ?_)
          have ev88 : v58 = σ0.1 231 2 := by rw [ev58]; refine (zI_atN e81 (by rw [i78.2]; show 2 ≠ _; omega)).trans ((zI_atN e66 (by rw [i63.2]; show 2 ≠ _; omega)).trans (congrFun r63 2))
          have s88 : (v58 + 1).toInt = (σ0.1 231 2).toInt + 1 := by rw [ti_add, ev88]; simp only [Int32.reduceToInt]; omega
          refine ok_s14 hT rfl (by decide) (by ((try simp only [g7_σ56, g9_σ56, g10_σ56, g11_σ56, g12_σ56, g13_σ56, g14_σ56, g15_σ56, g20_σ56, g22_σ56, g23_σ56, g24_σ56, g25_σ56])); first | omega | decide | (simp only [Int32.le_iff_toInt_le, Int32.lt_iff_toInt_lt, ti_add, ti_sub, ti_mul, Int32.reduceToInt] at *; omega)) (by ((try simp only [g7_σ56, g9_σ56, g10_σ56, g11_σ56, g12_σ56, g13_σ56, g14_σ56, g15_σ56, g20_σ56, g22_σ56, g23_σ56, g24_σ56, g25_σ56])); first | omega | decide | (simp only [Int32.le_iff_toInt_le, Int32.lt_iff_toInt_lt, ti_add, ti_sub, ti_mul, Int32.reduceToInt] at *; omega)) (fun σ59 eσ59 hOσ59 hT => ?_)
          have k91 := FW_edge r63 e66 e81 eσ59 (by rw [i63.2, ev63]) (by rw [i78.2, ev78]) rfl b4 b40 s88 hF h2
          have c91 : (σ59.1 231 2).toInt = (σ0.1 231 2).toInt + 1 := by rw [show σ59.1 231 2 = _ from zI_atI eσ59]; exact s88
          have z91 : σ59.1 231 0 = σ0.1 231 0 := (zI_atN eσ59 (by show 0 ≠ 2; decide)).trans ((zI_atN e81 (by rw [i78.2]; omega)).trans ((zI_atN e66 (by rw [i63.2]; omega)).trans (congrFun r63 0)))
          have hK : TOK σ59.1 := TOK_tr hOσ59 (by decide) (by decide) hK
          have g7_σ59 : σ59.1 218 7 = (σ0.1 218 7) := (congrFun (hOσ59.2 218 (by decide)) 7).trans g7_σ56
          have g9_σ59 : σ59.1 218 9 = (σ0.1 218 9) := (congrFun (hOσ59.2 218 (by decide)) 9).trans g9_σ56
          have g10_σ59 : σ59.1 218 10 = (σ45.1 218 10) := (congrFun (hOσ59.2 218 (by decide)) 10).trans g10_σ56
          have g11_σ59 : σ59.1 218 11 = (σ45.1 218 11) := (congrFun (hOσ59.2 218 (by decide)) 11).trans g11_σ56
          have g12_σ59 : σ59.1 218 12 = (σ45.1 218 12) := (congrFun (hOσ59.2 218 (by decide)) 12).trans g12_σ56
          have g13_σ59 : σ59.1 218 13 = (σ45.1 218 13) := (congrFun (hOσ59.2 218 (by decide)) 13).trans g13_σ56
          have g14_σ59 : σ59.1 218 14 = (σ45.1 218 14) := (congrFun (hOσ59.2 218 (by decide)) 14).trans g14_σ56
          have g15_σ59 : σ59.1 218 15 = (σ45.1 218 15) := (congrFun (hOσ59.2 218 (by decide)) 15).trans g15_σ56
          have g20_σ59 : σ59.1 218 20 = (σ0.1 218 20) := (congrFun (hOσ59.2 218 (by decide)) 20).trans g20_σ56
          have g22_σ59 : σ59.1 218 22 = (σ0.1 218 22) := (congrFun (hOσ59.2 218 (by decide)) 22).trans g22_σ56
          have g23_σ59 : σ59.1 218 23 = (σ0.1 218 23) := (congrFun (hOσ59.2 218 (by decide)) 23).trans g23_σ56
          have g24_σ59 : σ59.1 218 24 = (σ0.1 218 24) := (congrFun (hOσ59.2 218 (by decide)) 24).trans g24_σ56
          have g25_σ59 : σ59.1 218 25 = (σ0.1 218 25) := (congrFun (hOσ59.2 218 (by decide)) 25).trans g25_σ56
          exact ok_some ⟨hT, (show (TOK σ59.1 ∧ (σ0.1 218 11).toInt ≤ (σ59.1 218 11).toInt ∧ (σ59.1 218 14 = 0 → (edOK tx n i ∧ RX σ59.1 tx n (tkE tx n (tkE tx n i))) ∧ (σ59.1 231 2).toInt = (σ0.1 231 2).toInt + 1 ∧ σ59.1 231 0 = σ0.1 231 0) ∧ (¬ σ59.1 218 14 = 0 → ¬ edOK tx n i) ∧ FW (σ59.1 231) ∧ σ59.1 231 1 = σ0.1 231 1) ∧ (σ59.1 218 7 = σ0.1 218 7 ∧ σ59.1 218 9 = σ0.1 218 9 ∧ σ59.1 218 20 = σ0.1 218 20 ∧ σ59.1 218 22 = σ0.1 218 22 ∧ σ59.1 218 23 = σ0.1 218 23 ∧ σ59.1 218 24 = σ0.1 218 24 ∧ σ59.1 218 25 = σ0.1 218 25) from ⟨by first | exact ⟨hK, by (try simp only [g7_σ59, g9_σ59, g10_σ59, g11_σ59, g12_σ59, g13_σ59, g14_σ59, g15_σ59, g20_σ59, g22_σ59, g23_σ59, g24_σ59, g25_σ59]); omega, fun q => absurd q (by (try simp only [g7_σ59, g9_σ59, g10_σ59, g11_σ59, g12_σ59, g13_σ59, g14_σ59, g15_σ59, g20_σ59, g22_σ59, g23_σ59, g24_σ59, g25_σ59]); exact n48), fun _ q => (f4 n12).2 q.1, by (first | rw [rfl] | skip); exact hF, congrFun rfl 1⟩ | exact ⟨hK, by (try simp only [g7_σ59, g9_σ59, g10_σ59, g11_σ59, g12_σ59, g13_σ59, g14_σ59, g15_σ59, g20_σ59, g22_σ59, g23_σ59, g24_σ59, g25_σ59]); omega, fun q => absurd q (by (try simp only [g7_σ59, g9_σ59, g10_σ59, g11_σ59, g12_σ59, g13_σ59, g14_σ59, g15_σ59, g20_σ59, g22_σ59, g23_σ59, g24_σ59, g25_σ59]); exact n48), fun _ q => q.2.1 dd, by (first | rw [rfl] | skip); exact hF, congrFun rfl 1⟩ | exact ⟨hK, by (try simp only [g7_σ59, g9_σ59, g10_σ59, g11_σ59, g12_σ59, g13_σ59, g14_σ59, g15_σ59, g20_σ59, g22_σ59, g23_σ59, g24_σ59, g25_σ59]); omega, fun q => absurd q (by (try simp only [g7_σ59, g9_σ59, g10_σ59, g11_σ59, g12_σ59, g13_σ59, g14_σ59, g15_σ59, g20_σ59, g22_σ59, g23_σ59, g24_σ59, g25_σ59]); exact n48), fun _ q => (f40 n48).2 y12 q.2.2, by (first | rw [rfl] | skip); exact hF, congrFun rfl 1⟩ | exact ⟨hK, by (try simp only [g7_σ59, g9_σ59, g10_σ59, g11_σ59, g12_σ59, g13_σ59, g14_σ59, g15_σ59, g20_σ59, g22_σ59, g23_σ59, g24_σ59, g25_σ59]); omega, fun _ => ⟨⟨⟨(u4 y12).1.2, dd, (u40 y48).1.2⟩, by first | exact (u40 y48).2.2 | exact RX_i g9_σ59 g10_σ59 g11_σ59 g12_σ59 g13_σ59 ((hT.2 224 (by decide)).trans tE) nE (u40 y48).2.2.2⟩, c91, z91⟩, fun q => absurd (by (try simp only [g7_σ59, g9_σ59, g10_σ59, g11_σ59, g12_σ59, g13_σ59, g14_σ59, g15_σ59, g20_σ59, g22_σ59, g23_σ59, g24_σ59, g25_σ59]); exact y48) q, k91.1, k91.2⟩ | exact absurd (u40 y48).1.1.1 n33 | exact absurd (u40 y48).1.1.1 n12, g7_σ59, g9_σ59, g20_σ59, g22_σ59, g23_σ59, g24_σ59, g25_σ59⟩)⟩
    · have dd : ¬ (tkK tx n (tkE tx n i) = 2 ∧ nv5 tx n (tkE tx n i) = nv5 tx n i) := fun q => hc23 (pK.2.1.trans q.1)
      rw [J_X12_readsEdge_36.eq_1]
      refine ok_gC rfl ?_
      refine ok_zbT (Q := fun V σ => (TOK σ.1 ∧ (σ2.1 218 11).toInt ≤ (σ.1 218 11).toInt ∧ (σ.1 218 14 = 0 → ((σ2.1 218 14 = 0 ∧ (σ2.1 218 11).toInt < (σ.1 218 11).toInt) ∧ nOK tx n (tkE tx n i) (0 : Int32) (7 : Int32)) ∧ V.toInt = min 99999 (Nv tx n (tkF tx n (tkE tx n i)) 0 : Int) ∧ RX σ.1 tx n (tkE tx n (tkE tx n i))) ∧ (¬ σ.1 218 14 = 0 → V = 0 ∧ (σ2.1 218 14 = 0 → ¬ nOK tx n (tkE tx n i) (0 : Int32) (7 : Int32)))) ∧ (σ.1 218 7 = σ2.1 218 7 ∧ σ.1 218 9 = σ2.1 218 9 ∧ σ.1 218 20 = σ2.1 218 20 ∧ σ.1 218 22 = σ2.1 218 22 ∧ σ.1 218 23 = σ2.1 218 23 ∧ σ.1 218 24 = σ2.1 218 24 ∧ σ.1 218 25 = σ2.1 218 25)) hT (s_X12_number_c hN (hR.tr hT) (hK) (by rw [hT.2 224 (by decide)]; exact hY) (by first | exact fun q => absurd q n33 | exact fun q => (u4 q).2.2 | exact fun q => RX_i g9_σ2 rfl rfl rfl rfl ((hT.2 224 (by decide)).trans tE) nE pK)) (by decide) (fun v60 σ61 hOσ61 hT hqv60 => ?_)
      have hqv60 : (TOK σ61.1 ∧ (σ2.1 218 11).toInt ≤ (σ61.1 218 11).toInt ∧ (σ61.1 218 14 = 0 → ((σ2.1 218 14 = 0 ∧ (σ2.1 218 11).toInt < (σ61.1 218 11).toInt) ∧ nOK tx n (tkE tx n i) (0 : Int32) (7 : Int32)) ∧ v60.toInt = min 99999 (Nv tx n (tkF tx n (tkE tx n i)) 0 : Int) ∧ RX σ61.1 tx n (tkE tx n (tkE tx n i))) ∧ (¬ σ61.1 218 14 = 0 → v60 = 0 ∧ (σ2.1 218 14 = 0 → ¬ nOK tx n (tkE tx n i) (0 : Int32) (7 : Int32)))) ∧ (σ61.1 218 7 = σ2.1 218 7 ∧ σ61.1 218 9 = σ2.1 218 9 ∧ σ61.1 218 20 = σ2.1 218 20 ∧ σ61.1 218 22 = σ2.1 218 22 ∧ σ61.1 218 23 = σ2.1 218 23 ∧ σ61.1 218 24 = σ2.1 218 24 ∧ σ61.1 218 25 = σ2.1 218 25) := hqv60
      have hkv60 := hqv60
      have hqv60 := hqv60.1
      have r231_σ61 : σ61.1 231 = σ0.1 231 := (hOσ61.2 231 (by decide)).trans r231_σ2
      have hK : TOK σ61.1 := by first | exact hqv60.1 | exact hqv60.1.1 | exact TOK_p eσ61 (by decide) hK
      try simp only [g7_σ2, g9_σ2, g20_σ2, g22_σ2, g23_σ2, g24_σ2, g25_σ2] at hqv60
      have g7_σ61 : σ61.1 218 7 = (σ0.1 218 7) := (hkv60.2.1).trans g7_σ2
      have g9_σ61 : σ61.1 218 9 = (σ0.1 218 9) := (hkv60.2.2.1).trans g9_σ2
      have g20_σ61 : σ61.1 218 20 = (σ0.1 218 20) := (hkv60.2.2.2.1).trans g20_σ2
      have g22_σ61 : σ61.1 218 22 = (σ0.1 218 22) := (hkv60.2.2.2.2.1).trans g22_σ2
      have g23_σ61 : σ61.1 218 23 = (σ0.1 218 23) := (hkv60.2.2.2.2.2.1).trans g23_σ2
      have g24_σ61 : σ61.1 218 24 = (σ0.1 218 24) := (hkv60.2.2.2.2.2.2.1).trans g24_σ2
      have g25_σ61 : σ61.1 218 25 = (σ0.1 218 25) := (hkv60.2.2.2.2.2.2.2).trans g25_σ2
      have m40 := hqv60.2.1
      have u40 := hqv60.2.2.1
      have f40 := hqv60.2.2.2
      have b40 : 0 ≤ v60.toInt ∧ v60.toInt ≤ 7 := by by_cases h9 : σ61.1 218 14 = 0; have h8 := (u40 h9).1.2.2.2; have h7 := (u40 h9).2.1; simp only [Int32.reduceToInt] at h8; omega; rw [(f40 h9).1]; decide
      refine ok_gC rfl ?_
      refine ok_zbX (Q := fun V => (V = 0 → ¬ σ61.1 218 14 = 0) ∧ (¬ V = 0 → σ61.1 218 14 = 0)) (x_X12_good) (fun v62 hqv62 => ?_)
      have hqv62 : (v62 = 0 → ¬ σ61.1 218 14 = 0) ∧ (¬ v62 = 0 → σ61.1 218 14 = 0) := hqv62
      try simp only [g7_σ61, g9_σ61, g20_σ61, g22_σ61, g23_σ61, g24_σ61, g25_σ61, hT.2 224 (by decide)] at hqv62
      refine ok_if (fun hc64 => ?_) (fun hc64 => ?_)
      · have qhc64 := hqv62.1 hc64
        have n48 := qhc64
        exact ok_some ⟨hT, (show (TOK σ61.1 ∧ (σ0.1 218 11).toInt ≤ (σ61.1 218 11).toInt ∧ (σ61.1 218 14 = 0 → (edOK tx n i ∧ RX σ61.1 tx n (tkE tx n (tkE tx n i))) ∧ (σ61.1 231 2).toInt = (σ0.1 231 2).toInt + 1 ∧ σ61.1 231 0 = σ0.1 231 0) ∧ (¬ σ61.1 218 14 = 0 → ¬ edOK tx n i) ∧ FW (σ61.1 231) ∧ σ61.1 231 1 = σ0.1 231 1) ∧ (σ61.1 218 7 = σ0.1 218 7 ∧ σ61.1 218 9 = σ0.1 218 9 ∧ σ61.1 218 20 = σ0.1 218 20 ∧ σ61.1 218 22 = σ0.1 218 22 ∧ σ61.1 218 23 = σ0.1 218 23 ∧ σ61.1 218 24 = σ0.1 218 24 ∧ σ61.1 218 25 = σ0.1 218 25) from ⟨by first | exact ⟨hK, by (try simp only [g7_σ61, g9_σ61, g20_σ61, g22_σ61, g23_σ61, g24_σ61, g25_σ61]); omega, fun q => absurd q (by (try simp only [g7_σ61, g9_σ61, g20_σ61, g22_σ61, g23_σ61, g24_σ61, g25_σ61]); exact n48), fun _ q => (f4 n12).2 q.1, by (first | rw [r231_σ61] | skip); exact hF, congrFun r231_σ61 1⟩ | exact ⟨hK, by (try simp only [g7_σ61, g9_σ61, g20_σ61, g22_σ61, g23_σ61, g24_σ61, g25_σ61]); omega, fun q => absurd q (by (try simp only [g7_σ61, g9_σ61, g20_σ61, g22_σ61, g23_σ61, g24_σ61, g25_σ61]); exact n48), fun _ q => q.2.1 dd, by (first | rw [r231_σ61] | skip); exact hF, congrFun r231_σ61 1⟩ | exact ⟨hK, by (try simp only [g7_σ61, g9_σ61, g20_σ61, g22_σ61, g23_σ61, g24_σ61, g25_σ61]); omega, fun q => absurd q (by (try simp only [g7_σ61, g9_σ61, g20_σ61, g22_σ61, g23_σ61, g24_σ61, g25_σ61]); exact n48), fun _ q => (f40 n48).2 y12 q.2.2, by (first | rw [r231_σ61] | skip); exact hF, congrFun r231_σ61 1⟩ | exact ⟨hK, by (try simp only [g7_σ61, g9_σ61, g20_σ61, g22_σ61, g23_σ61, g24_σ61, g25_σ61]); omega, fun _ => ⟨⟨⟨(u4 y12).1.2, dd, (u40 y48).1.2⟩, by first | exact (u40 y48).2.2 | exact RX_i g9_σ61 rfl rfl rfl rfl ((hT.2 224 (by decide)).trans tE) nE (u40 y48).2.2.2⟩, c91, z91⟩, fun q => absurd (by (try simp only [g7_σ61, g9_σ61, g20_σ61, g22_σ61, g23_σ61, g24_σ61, g25_σ61]); exact y48) q, k91.1, k91.2⟩ | exact absurd (u40 y48).1.1.1 n33 | exact absurd (u40 y48).1.1.1 n12, g7_σ61, g9_σ61, g20_σ61, g22_σ61, g23_σ61, g24_σ61, g25_σ61⟩)⟩
      · have qhc64 := hqv62.2 hc64
        have y48 := qhc64
        refine ok_gR (v := 231) hT rfl (hR 218 26 rfl) ?_
        refine ok_gR (v := 231) hT rfl (hR 218 26 rfl) ?_
        refine ok_aIn rfl (by ((try simp only [g7_σ61, g9_σ61, g20_σ61, g22_σ61, g23_σ61, g24_σ61, g25_σ61])); first | omega | decide | (simp only [Int32.le_iff_toInt_le, Int32.lt_iff_toInt_lt, ti_add, ti_sub, ti_mul, Int32.reduceToInt] at *; omega)) (by ((try simp only [g7_σ61, g9_σ61, g20_σ61, g22_σ61, g23_σ61, g24_σ61, g25_σ61])); first | omega | decide | (simp only [Int32.le_iff_toInt_le, Int32.lt_iff_toInt_lt, ti_add, ti_sub, ti_mul, Int32.reduceToInt] at *; omega)) (fun v67 ev67 => ?_)
        have r63 : σ61.1 231 = σ0.1 231 := r231_σ61
        have ev63 : v67 = σ0.1 231 2 := by rw [ev67, r63]; rfl
        have i63 := ti13 (x := v67) (by rw [ev63]; omega) (by rw [ev63]; omega)
        refine ok_s14 hT rfl (by decide) (by rw [i63.1, ev63]; omega) (by rw [i63.1, ev63]; omega) (fun σ68 eσ68 hOσ68 hT => ?_)
        have e66 := eσ68
        have hK : TOK σ68.1 := TOK_tr hOσ68 (by decide) (by decide) hK
        have g7_σ68 : σ68.1 218 7 = (σ0.1 218 7) := (congrFun (hOσ68.2 218 (by decide)) 7).trans g7_σ61
        have g9_σ68 : σ68.1 218 9 = (σ0.1 218 9) := (congrFun (hOσ68.2 218 (by decide)) 9).trans g9_σ61
        have g10_σ68 : σ68.1 218 10 = (σ61.1 218 10) := congrFun (hOσ68.2 218 (by decide)) 10
        have g11_σ68 : σ68.1 218 11 = (σ61.1 218 11) := congrFun (hOσ68.2 218 (by decide)) 11
        have g12_σ68 : σ68.1 218 12 = (σ61.1 218 12) := congrFun (hOσ68.2 218 (by decide)) 12
        have g13_σ68 : σ68.1 218 13 = (σ61.1 218 13) := congrFun (hOσ68.2 218 (by decide)) 13
        have g14_σ68 : σ68.1 218 14 = (σ61.1 218 14) := congrFun (hOσ68.2 218 (by decide)) 14
        have g15_σ68 : σ68.1 218 15 = (σ61.1 218 15) := congrFun (hOσ68.2 218 (by decide)) 15
        have g20_σ68 : σ68.1 218 20 = (σ0.1 218 20) := (congrFun (hOσ68.2 218 (by decide)) 20).trans g20_σ61
        have g22_σ68 : σ68.1 218 22 = (σ0.1 218 22) := (congrFun (hOσ68.2 218 (by decide)) 22).trans g22_σ61
        have g23_σ68 : σ68.1 218 23 = (σ0.1 218 23) := (congrFun (hOσ68.2 218 (by decide)) 23).trans g23_σ61
        have g24_σ68 : σ68.1 218 24 = (σ0.1 218 24) := (congrFun (hOσ68.2 218 (by decide)) 24).trans g24_σ61
        have g25_σ68 : σ68.1 218 25 = (σ0.1 218 25) := (congrFun (hOσ68.2 218 (by decide)) 25).trans g25_σ61
        refine ok_gR (v := 231) hT rfl (hR 218 26 rfl) ?_
        refine ok_gR (v := 231) hT rfl (hR 218 26 rfl) ?_
        refine ok_aIn rfl (by ((try simp only [g7_σ68, g9_σ68, g10_σ68, g11_σ68, g12_σ68, g13_σ68, g14_σ68, g15_σ68, g20_σ68, g22_σ68, g23_σ68, g24_σ68, g25_σ68])); first | omega | decide | (simp only [Int32.le_iff_toInt_le, Int32.lt_iff_toInt_lt, ti_add, ti_sub, ti_mul, Int32.reduceToInt] at *; omega)) (by ((try simp only [g7_σ68, g9_σ68, g10_σ68, g11_σ68, g12_σ68, g13_σ68, g14_σ68, g15_σ68, g20_σ68, g22_σ68, g23_σ68, g24_σ68, g25_σ68])); first | omega | decide | (simp only [Int32.le_iff_toInt_le, Int32.lt_iff_toInt_lt, ti_add, ti_sub, ti_mul, Int32.reduceToInt] at *; omega)) (fun v71 ev71 => ?_)
        have ev78 : v71 = σ0.1 231 2 := by rw [ev71]; refine (zI_atN e66 (by rw [i63.2]; show 2 ≠ _; omega)).trans (congrFun r63 2)
        have i78 := ti23 (x := v71) (by rw [ev78]; omega) (by rw [ev78]; omega)
        refine ok_s14 hT rfl (by decide) (by rw [i78.1, ev78]; omega) (by rw [i78.1, ev78]; omega) (fun σ72 eσ72 hOσ72 hT => ?_)
        have e81 := eσ72
        have hK : TOK σ72.1 := TOK_tr hOσ72 (by decide) (by decide) hK
        have g7_σ72 : σ72.1 218 7 = (σ0.1 218 7) := (congrFun (hOσ72.2 218 (by decide)) 7).trans g7_σ68
        have g9_σ72 : σ72.1 218 9 = (σ0.1 218 9) := (congrFun (hOσ72.2 218 (by decide)) 9).trans g9_σ68
        have g10_σ72 : σ72.1 218 10 = (σ61.1 218 10) := (congrFun (hOσ72.2 218 (by decide)) 10).trans g10_σ68
        have g11_σ72 : σ72.1 218 11 = (σ61.1 218 11) := (congrFun (hOσ72.2 218 (by decide)) 11).trans g11_σ68
        have g12_σ72 : σ72.1 218 12 = (σ61.1 218 12) := (congrFun (hOσ72.2 218 (by decide)) 12).trans g12_σ68
        have g13_σ72 : σ72.1 218 13 = (σ61.1 218 13) := (congrFun (hOσ72.2 218 (by decide)) 13).trans g13_σ68
        have g14_σ72 : σ72.1 218 14 = (σ61.1 218 14) := (congrFun (hOσ72.2 218 (by decide)) 14).trans g14_σ68
        have g15_σ72 : σ72.1 218 15 = (σ61.1 218 15) := (congrFun (hOσ72.2 218 (by decide)) 15).trans g15_σ68
        have g20_σ72 : σ72.1 218 20 = (σ0.1 218 20) := (congrFun (hOσ72.2 218 (by decide)) 20).trans g20_σ68
        have g22_σ72 : σ72.1 218 22 = (σ0.1 218 22) := (congrFun (hOσ72.2 218 (by decide)) 22).trans g22_σ68
        have g23_σ72 : σ72.1 218 23 = (σ0.1 218 23) := (congrFun (hOσ72.2 218 (by decide)) 23).trans g23_σ68
        have g24_σ72 : σ72.1 218 24 = (σ0.1 218 24) := (congrFun (hOσ72.2 218 (by decide)) 24).trans g24_σ68
        have g25_σ72 : σ72.1 218 25 = (σ0.1 218 25) := (congrFun (hOσ72.2 218 (by decide)) 25).trans g25_σ68
        refine ok_gR (v := 231) hT rfl (hR 218 26 rfl) ?_
        refine ok_aIn rfl (by ((try simp only [g7_σ72, g9_σ72, g10_σ72, g11_σ72, g12_σ72, g13_σ72, g14_σ72, g15_σ72, g20_σ72, g22_σ72, g23_σ72, g24_σ72, g25_σ72])); first | omega | decide | (simp only [Int32.le_iff_toInt_le, Int32.lt_iff_toInt_lt, ti_add, ti_sub, ti_mul, Int32.reduceToInt] at *; omega)) (by ((try simp only [g7_σ72, g9_σ72, g10_σ72, g11_σ72, g12_σ72, g13_σ72, g14_σ72, g15_σ72, g20_σ72, g22_σ72, g23_σ72, g24_σ72, g25_σ72])); first | omega | decide | (simp only [Int32.le_iff_toInt_le, Int32.lt_iff_toInt_lt, ti_add, ti_sub, ti_mul, Int32.reduceToInt] at *; omega)) (fun v74 ev74 => ?_)
        have ev88 : v74 = σ0.1 231 2 := by rw [ev74]; refine (zI_atN e81 (by rw [i78.2]; show 2 ≠ _; omega)).trans ((zI_atN e66 (by rw [i63.2]; show 2 ≠ _; omega)).trans (congrFun r63 2))
        have s88 : (v74 + 1).toInt = (σ0.1 231 2).toInt + 1 := by rw [ti_add, ev88]; simp only [Int32.reduceToInt]; omega
        refine ok_s14 hT rfl (by decide) (by ((try simp only [g7_σ72, g9_σ72, g10_σ72, g11_σ72, g12_σ72, g13_σ72, g14_σ72, g15_σ72, g20_σ72, g22_σ72, g23_σ72, g24_σ72, g25_σ72])); first | omega | decide | (simp only [Int32.le_iff_toInt_le, Int32.lt_iff_toInt_lt, ti_add, ti_sub, ti_mul, Int32.reduceToInt] at *; omega)) (by ((try simp only [g7_σ72, g9_σ72, g10_σ72, g11_σ72, g12_σ72, g13_σ72, g14_σ72, g15_σ72, g20_σ72, g22_σ72, g23_σ72, g24_σ72, g25_σ72])); first | omega | decide | (simp only [Int32.le_iff_toInt_le, Int32.lt_iff_toInt_lt, ti_add, ti_sub, ti_mul, Int32.reduceToInt] at *; omega)) (fun σ75 eσ75 hOσ75 hT => ?_)
        have k91 := FW_edge r63 e66 e81 eσ75 (by rw [i63.2, ev63]) (by rw [i78.2, ev78]) rfl b4 b40 s88 hF h2
        have c91 : (σ75.1 231 2).toInt = (σ0.1 231 2).toInt + 1 := by rw [show σ75.1 231 2 = _ from zI_atI eσ75]; exact s88
        have z91 : σ75.1 231 0 = σ0.1 231 0 := (zI_atN eσ75 (by show 0 ≠ 2; decide)).trans ((zI_atN e81 (by rw [i78.2]; omega)).trans ((zI_atN e66 (by rw [i63.2]; omega)).trans (congrFun r63 0)))
        have hK : TOK σ75.1 := TOK_tr hOσ75 (by decide) (by decide) hK
        have g7_σ75 : σ75.1 218 7 = (σ0.1 218 7) := (congrFun (hOσ75.2 218 (by decide)) 7).trans g7_σ72
        have g9_σ75 : σ75.1 218 9 = (σ0.1 218 9) := (congrFun (hOσ75.2 218 (by decide)) 9).trans g9_σ72
        have g10_σ75 : σ75.1 218 10 = (σ61.1 218 10) := (congrFun (hOσ75.2 218 (by decide)) 10).trans g10_σ72
        have g11_σ75 : σ75.1 218 11 = (σ61.1 218 11) := (congrFun (hOσ75.2 218 (by decide)) 11).trans g11_σ72
        have g12_σ75 : σ75.1 218 12 = (σ61.1 218 12) := (congrFun (hOσ75.2 218 (by decide)) 12).trans g12_σ72
        have g13_σ75 : σ75.1 218 13 = (σ61.1 218 13) := (congrFun (hOσ75.2 218 (by decide)) 13).trans g13_σ72
        have g14_σ75 : σ75.1 218 14 = (σ61.1 218 14) := (congrFun (hOσ75.2 218 (by decide)) 14).trans g14_σ72
        have g15_σ75 : σ75.1 218 15 = (σ61.1 218 15) := (congrFun (hOσ75.2 218 (by decide)) 15).trans g15_σ72
        have g20_σ75 : σ75.1 218 20 = (σ0.1 218 20) := (congrFun (hOσ75.2 218 (by decide)) 20).trans g20_σ72
        have g22_σ75 : σ75.1 218 22 = (σ0.1 218 22) := (congrFun (hOσ75.2 218 (by decide)) 22).trans g22_σ72
        have g23_σ75 : σ75.1 218 23 = (σ0.1 218 23) := (congrFun (hOσ75.2 218 (by decide)) 23).trans g23_σ72
        have g24_σ75 : σ75.1 218 24 = (σ0.1 218 24) := (congrFun (hOσ75.2 218 (by decide)) 24).trans g24_σ72
        have g25_σ75 : σ75.1 218 25 = (σ0.1 218 25) := (congrFun (hOσ75.2 218 (by decide)) 25).trans g25_σ72
        exact ok_some ⟨hT, (show (TOK σ75.1 ∧ (σ0.1 218 11).toInt ≤ (σ75.1 218 11).toInt ∧ (σ75.1 218 14 = 0 → (edOK tx n i ∧ RX σ75.1 tx n (tkE tx n (tkE tx n i))) ∧ (σ75.1 231 2).toInt = (σ0.1 231 2).toInt + 1 ∧ σ75.1 231 0 = σ0.1 231 0) ∧ (¬ σ75.1 218 14 = 0 → ¬ edOK tx n i) ∧ FW (σ75.1 231) ∧ σ75.1 231 1 = σ0.1 231 1) ∧ (σ75.1 218 7 = σ0.1 218 7 ∧ σ75.1 218 9 = σ0.1 218 9 ∧ σ75.1 218 20 = σ0.1 218 20 ∧ σ75.1 218 22 = σ0.1 218 22 ∧ σ75.1 218 23 = σ0.1 218 23 ∧ σ75.1 218 24 = σ0.1 218 24 ∧ σ75.1 218 25 = σ0.1 218 25) from ⟨by first | exact ⟨hK, by (try simp only [g7_σ75, g9_σ75, g10_σ75, g11_σ75, g12_σ75, g13_σ75, g14_σ75, g15_σ75, g20_σ75, g22_σ75, g23_σ75, g24_σ75, g25_σ75]); omega, fun q => absurd q (by (try simp only [g7_σ75, g9_σ75, g10_σ75, g11_σ75, g12_σ75, g13_σ75, g14_σ75, g15_σ75, g20_σ75, g22_σ75, g23_σ75, g24_σ75, g25_σ75]); exact n48), fun _ q => (f4 n12).2 q.1, by (first | rw [rfl] | skip); exact hF, congrFun rfl 1⟩ | exact ⟨hK, by (try simp only [g7_σ75, g9_σ75, g10_σ75, g11_σ75, g12_σ75, g13_σ75, g14_σ75, g15_σ75, g20_σ75, g22_σ75, g23_σ75, g24_σ75, g25_σ75]); omega, fun q => absurd q (by (try simp only [g7_σ75, g9_σ75, g10_σ75, g11_σ75, g12_σ75, g13_σ75, g14_σ75, g15_σ75, g20_σ75, g22_σ75, g23_σ75, g24_σ75, g25_σ75]); exact n48), fun _ q => q.2.1 dd, by (first | rw [rfl] | skip); exact hF, congrFun rfl 1⟩ | exact ⟨hK, by (try simp only [g7_σ75, g9_σ75, g10_σ75, g11_σ75, g12_σ75, g13_σ75, g14_σ75, g15_σ75, g20_σ75, g22_σ75, g23_σ75, g24_σ75, g25_σ75]); omega, fun q => absurd q (by (try simp only [g7_σ75, g9_σ75, g10_σ75, g11_σ75, g12_σ75, g13_σ75, g14_σ75, g15_σ75, g20_σ75, g22_σ75, g23_σ75, g24_σ75, g25_σ75]); exact n48), fun _ q => (f40 n48).2 y12 q.2.2, by (first | rw [rfl] | skip); exact hF, congrFun rfl 1⟩ | exact ⟨hK, by (try simp only [g7_σ75, g9_σ75, g10_σ75, g11_σ75, g12_σ75, g13_σ75, g14_σ75, g15_σ75, g20_σ75, g22_σ75, g23_σ75, g24_σ75, g25_σ75]); omega, fun _ => ⟨⟨⟨(u4 y12).1.2, dd, (u40 y48).1.2⟩, by first | exact (u40 y48).2.2 | exact RX_i g9_σ75 g10_σ75 g11_σ75 g12_σ75 g13_σ75 ((hT.2 224 (by decide)).trans tE) nE (u40 y48).2.2.2⟩, c91, z91⟩, fun q => absurd (by (try simp only [g7_σ75, g9_σ75, g10_σ75, g11_σ75, g12_σ75, g13_σ75, g14_σ75, g15_σ75, g20_σ75, g22_σ75, g23_σ75, g24_σ75, g25_σ75]); exact y48) q, k91.1, k91.2⟩ | exact absurd (u40 y48).1.1.1 n33 | exact absurd (u40 y48).1.1.1 n12, g7_σ75, g9_σ75, g20_σ75, g22_σ75, g23_σ75, g24_σ75, g25_σ75⟩)⟩

/-- where a let ends whose number stands at i, and how many signs are read then -/
noncomputable def letR (t : Nat → Int32) (n : Nat) (m : Int32) (i sg : Nat) : Option (Nat × Nat) := if nOK t n i 0 9 ∧ tkK t n (tkE t n i) = 61 then sumR t n m (tkE t n (tkE t n i)) sg else none

set_option maxHeartbeats 4000000 in
set_option maxRecDepth 100000 in
theorem s_X12_readsLet_r {N : Nat} (hN : 1048576 ≤ N)  {σ0 : zS} {tx : Nat → Int32} {n i : Nat} (hR : RF σ0.2.2) (hK : TOK σ0.1) (hY : BYT (σ0.1 224)) (hG : RX σ0.1 tx n i) (hg : σ0.1 218 14 = 0) (hB : ZB σ0.1) (hF : FW (σ0.1 231)) (hi : i ≤ n) (hs25 : 0 ≤ (σ0.1 218 25).toInt ∧ (σ0.1 218 25).toInt ≤ 24) : Ok (f_X12_readsLet N 218 σ0) (fun r => Tr [218, 226, 227, 228, 229, 230, 232] σ0 r.2 ∧ ((TOK r.2.1 ∧ (σ0.1 218 11).toInt ≤ (r.2.1 218 11).toInt ∧ (r.2.1 218 14 = 0 → ∃ j, letR tx n (σ0.1 231 0) i (σ0.1 218 25).toInt.toNat = some (j, (r.2.1 218 25).toInt.toNat) ∧ RX r.2.1 tx n j ∧ j ≤ n) ∧ (¬ r.2.1 218 14 = 0 → letR tx n (σ0.1 231 0) i (σ0.1 218 25).toInt.toNat = none) ∧ (0 ≤ (r.2.1 218 25).toInt ∧ (r.2.1 218 25).toInt ≤ 24) ∧ ZB r.2.1) ∧ (r.2.1 218 7 = σ0.1 218 7 ∧ r.2.1 218 9 = σ0.1 218 9))) := by
  have hT : Tr [218, 226, 227, 228, 229, 230, 232] σ0 σ0 := Tr.rf
  have hK1 := hK.1
  have tE : σ0.1 224 = tx := hG.1.1
  have nE : (σ0.1 218 9).toInt.toNat = n := hG.1.2
  have pK : TKV (σ0.1 218 11) (σ0.1 218 10) (σ0.1 218 12) (σ0.1 218 13) tx n i := hG.2
  have le1 := (tk_le (t := tx) hi).2.2
  rw [f_X12_readsLet.eq_1]
  refine ok_gC rfl ?_
  refine ok_zbT (Q := fun V σ => (TOK σ.1 ∧ (σ0.1 218 11).toInt ≤ (σ.1 218 11).toInt ∧ (σ.1 218 14 = 0 → ((σ0.1 218 11).toInt < (σ.1 218 11).toInt ∧ nOK tx n i (0 : Int32) (9 : Int32)) ∧ V.toInt = min 99999 (Nv tx n (tkF tx n i) 0 : Int) ∧ RX σ.1 tx n (tkE tx n i)) ∧ (¬ σ.1 218 14 = 0 → V = 0 ∧ ¬ nOK tx n i (0 : Int32) (9 : Int32))) ∧ (σ.1 218 7 = σ0.1 218 7 ∧ σ.1 218 9 = σ0.1 218 9 ∧ σ.1 218 20 = σ0.1 218 20 ∧ σ.1 218 22 = σ0.1 218 22 ∧ σ.1 218 23 = σ0.1 218 23 ∧ σ.1 218 24 = σ0.1 218 24 ∧ σ.1 218 25 = σ0.1 218 25)) hT (s_X12_number_r hN (hR.tr hT) (hK) (by rw [hT.2 224 (by decide)]; exact hY) (RX_i rfl rfl rfl rfl rfl ((hT.2 224 (by decide)).trans tE) nE pK) (hg)) (by decide) (fun v1 σ2 hOσ2 hT hqv1 => ?_)
  have hqv1 : (TOK σ2.1 ∧ (σ0.1 218 11).toInt ≤ (σ2.1 218 11).toInt ∧ (σ2.1 218 14 = 0 → ((σ0.1 218 11).toInt < (σ2.1 218 11).toInt ∧ nOK tx n i (0 : Int32) (9 : Int32)) ∧ v1.toInt = min 99999 (Nv tx n (tkF tx n i) 0 : Int) ∧ RX σ2.1 tx n (tkE tx n i)) ∧ (¬ σ2.1 218 14 = 0 → v1 = 0 ∧ ¬ nOK tx n i (0 : Int32) (9 : Int32))) ∧ (σ2.1 218 7 = σ0.1 218 7 ∧ σ2.1 218 9 = σ0.1 218 9 ∧ σ2.1 218 20 = σ0.1 218 20 ∧ σ2.1 218 22 = σ0.1 218 22 ∧ σ2.1 218 23 = σ0.1 218 23 ∧ σ2.1 218 24 = σ0.1 218 24 ∧ σ2.1 218 25 = σ0.1 218 25) := hqv1
  have hkv1 := hqv1
  have hqv1 := hqv1.1
  have hK : TOK σ2.1 := by first | exact hqv1.1 | exact hqv1.1.1 | exact TOK_p eσ2 (by decide) hK
  have hB : ZB σ2.1 := ZB.tr hOσ2 (by decide) hB
  have g7_σ2 : σ2.1 218 7 = (σ0.1 218 7) := hkv1.2.1
  have g9_σ2 : σ2.1 218 9 = (σ0.1 218 9) := hkv1.2.2.1
  have g20_σ2 : σ2.1 218 20 = (σ0.1 218 20) := hkv1.2.2.2.1
  have g22_σ2 : σ2.1 218 22 = (σ0.1 218 22) := hkv1.2.2.2.2.1
  have g23_σ2 : σ2.1 218 23 = (σ0.1 218 23) := hkv1.2.2.2.2.2.1
  have g24_σ2 : σ2.1 218 24 = (σ0.1 218 24) := hkv1.2.2.2.2.2.2.1
  have g25_σ2 : σ2.1 218 25 = (σ0.1 218 25) := hkv1.2.2.2.2.2.2.2
  have m4 := hqv1.2.1
  have u4 := hqv1.2.2.1
  have f4 := hqv1.2.2.2
  have b4 : 0 ≤ v1.toInt ∧ v1.toInt ≤ 9 := by by_cases h9 : σ2.1 218 14 = 0; have h8 := (u4 h9).1.2.2.2; have h7 := (u4 h9).2.1; simp only [Int32.reduceToInt] at h8; omega; rw [(f4 h9).1]; decide
  have q4 := p1024 (p := v1) rfl b4.1 (by omega)
  refine ok_gC rfl ?_
  refine ok_zbT (Q := fun V σ => (TOK σ.1 ∧ (σ2.1 218 11).toInt ≤ (σ.1 218 11).toInt ∧ (σ.1 218 14 = 0 → (σ2.1 218 14 = 0 ∧ (σ2.1 218 11).toInt < (σ.1 218 11).toInt) ∧ tkK tx n (tkE tx n i) = (61 : Int32) ∧ RX σ.1 tx n (tkE tx n (tkE tx n i))) ∧ (¬ σ.1 218 14 = 0 → σ2.1 218 14 = 0 → ¬ tkK tx n (tkE tx n i) = (61 : Int32))) ∧ (σ.1 218 7 = σ2.1 218 7 ∧ σ.1 218 9 = σ2.1 218 9 ∧ σ.1 218 20 = σ2.1 218 20 ∧ σ.1 218 22 = σ2.1 218 22 ∧ σ.1 218 23 = σ2.1 218 23 ∧ σ.1 218 24 = σ2.1 218 24 ∧ σ.1 218 25 = σ2.1 218 25)) hT (s_X12_needsSign_r hN (hR.tr hT) (hK) (by rw [hT.2 224 (by decide)]; exact hY) (fun q => (u4 q).2.2) (by decide)) (by decide) (fun v3 σ4 hOσ4 hT hqv3 => ?_)
  have hqv3 : (TOK σ4.1 ∧ (σ2.1 218 11).toInt ≤ (σ4.1 218 11).toInt ∧ (σ4.1 218 14 = 0 → (σ2.1 218 14 = 0 ∧ (σ2.1 218 11).toInt < (σ4.1 218 11).toInt) ∧ tkK tx n (tkE tx n i) = (61 : Int32) ∧ RX σ4.1 tx n (tkE tx n (tkE tx n i))) ∧ (¬ σ4.1 218 14 = 0 → σ2.1 218 14 = 0 → ¬ tkK tx n (tkE tx n i) = (61 : Int32))) ∧ (σ4.1 218 7 = σ2.1 218 7 ∧ σ4.1 218 9 = σ2.1 218 9 ∧ σ4.1 218 20 = σ2.1 218 20 ∧ σ4.1 218 22 = σ2.1 218 22 ∧ σ4.1 218 23 = σ2.1 218 23 ∧ σ4.1 218 24 = σ2.1 218 24 ∧ σ4.1 218 25 = σ2.1 218 25) := hqv3
  have hkv3 := hqv3
  have hqv3 := hqv3.1
  have hK : TOK σ4.1 := by first | exact hqv3.1 | exact hqv3.1.1 | exact TOK_p eσ4 (by decide) hK
  have hB : ZB σ4.1 := ZB.tr hOσ4 (by decide) hB
  try simp only [g7_σ2, g9_σ2, g20_σ2, g22_σ2, g23_σ2, g24_σ2, g25_σ2] at hqv3
  have g7_σ4 : σ4.1 218 7 = (σ0.1 218 7) := (hkv3.2.1).trans g7_σ2
  have g9_σ4 : σ4.1 218 9 = (σ0.1 218 9) := (hkv3.2.2.1).trans g9_σ2
  have g20_σ4 : σ4.1 218 20 = (σ0.1 218 20) := (hkv3.2.2.2.1).trans g20_σ2
  have g22_σ4 : σ4.1 218 22 = (σ0.1 218 22) := (hkv3.2.2.2.2.1).trans g22_σ2
  have g23_σ4 : σ4.1 218 23 = (σ0.1 218 23) := (hkv3.2.2.2.2.2.1).trans g23_σ2
  have g24_σ4 : σ4.1 218 24 = (σ0.1 218 24) := (hkv3.2.2.2.2.2.2.1).trans g24_σ2
  have g25_σ4 : σ4.1 218 25 = (σ0.1 218 25) := (hkv3.2.2.2.2.2.2.2).trans g25_σ2
  have m11 := hqv3.2.1
  have u11 := hqv3.2.2.1
  have f11 := hqv3.2.2.2
  refine ok_gC rfl ?_
  refine ok_zbX (Q := fun V => (V = 0 → ¬ σ4.1 218 14 = 0) ∧ (¬ V = 0 → σ4.1 218 14 = 0)) (x_X12_good) (fun v5 hqv5 => ?_)
  have hqv5 : (v5 = 0 → ¬ σ4.1 218 14 = 0) ∧ (¬ v5 = 0 → σ4.1 218 14 = 0) := hqv5
  try simp only [g7_σ4, g9_σ4, g20_σ4, g22_σ4, g23_σ4, g24_σ4, g25_σ4, hT.2 224 (by decide)] at hqv5
  refine ok_if (fun hc7 => ?_) (fun hc7 => ?_)
  · have qhc7 := hqv5.1 hc7
    have n18 := qhc7
    have l18 : letR tx n (σ0.1 231 0) i (σ0.1 218 25).toInt.toNat = none := if_neg (fun q => (Classical.em _).elim (fun z => f11 n18 z q.2) (fun z => (f4 z).2 q.1))
    rw [J_X12_readsLet_35.eq_1]
    refine ok_lp (fun t : Int32 × zS => Tr [218, 226, 227, 228, 229, 230, 232] σ0 (t.2) ∧ (0 ≤ (t.1).toInt) ∧ (TOK (t.2).1) ∧ (ZB (t.2).1) ∧ ((t.2).1 218 7 = (σ0.1 218 7)) ∧ ((t.2).1 218 9 = (σ0.1 218 9)) ∧ ((t.2).1 218 10 = (σ4.1 218 10)) ∧ ((t.2).1 218 11 = (σ4.1 218 11)) ∧ ((t.2).1 218 12 = (σ4.1 218 12)) ∧ ((t.2).1 218 13 = (σ4.1 218 13)) ∧ ((t.2).1 218 14 = (σ4.1 218 14)) ∧ ((t.2).1 218 15 = (σ4.1 218 15)) ∧ ((t.2).1 218 20 = (σ0.1 218 20)) ∧ ((t.2).1 218 22 = (σ0.1 218 22)) ∧ ((t.2).1 218 23 = (σ0.1 218 23)) ∧ ((t.2).1 218 24 = (σ0.1 218 24)) ∧ ((t.2).1 218 25 = (σ0.1 218 25))) (fun t : Int32 × zS => (1024 - (t.1).toInt).toNat) (fun again8 t hI ih37_8 => ?_) N _ (show Tr [218, 226, 227, 228, 229, 230, 232] σ0 σ4 ∧ (0 ≤ (0 : Int32).toInt) ∧ (TOK σ4.1) ∧ (ZB σ4.1) ∧ (σ4.1 218 7 = (σ0.1 218 7)) ∧ (σ4.1 218 9 = (σ0.1 218 9)) ∧ (σ4.1 218 10 = (σ4.1 218 10)) ∧ (σ4.1 218 11 = (σ4.1 218 11)) ∧ (σ4.1 218 12 = (σ4.1 218 12)) ∧ (σ4.1 218 13 = (σ4.1 218 13)) ∧ (σ4.1 218 14 = (σ4.1 218 14)) ∧ (σ4.1 218 15 = (σ4.1 218 15)) ∧ (σ4.1 218 20 = (σ0.1 218 20)) ∧ (σ4.1 218 22 = (σ0.1 218 22)) ∧ (σ4.1 218 23 = (σ0.1 218 23)) ∧ (σ4.1 218 24 = (σ0.1 218 24)) ∧ (σ4.1 218 25 = (σ0.1 218 25)) from ⟨hT, (by decide), hK, hB, g7_σ4, g9_σ4, rfl, rfl, rfl, rfl, rfl, rfl, g20_σ4, g22_σ4, g23_σ4, g24_σ4, g25_σ4⟩) (show (1024 - (0 : Int32).toInt).toNat < N from (by simp only [Int32.reduceToInt]; omega))
    obtain ⟨x2_8, σ8⟩ := t
    have hI : Tr [218, 226, 227, 228, 229, 230, 232] σ0 σ8 ∧ (0 ≤ x2_8.toInt) ∧ (TOK σ8.1) ∧ (ZB σ8.1) ∧ (σ8.1 218 7 = (σ0.1 218 7)) ∧ (σ8.1 218 9 = (σ0.1 218 9)) ∧ (σ8.1 218 10 = (σ4.1 218 10)) ∧ (σ8.1 218 11 = (σ4.1 218 11)) ∧ (σ8.1 218 12 = (σ4.1 218 12)) ∧ (σ8.1 218 13 = (σ4.1 218 13)) ∧ (σ8.1 218 14 = (σ4.1 218 14)) ∧ (σ8.1 218 15 = (σ4.1 218 15)) ∧ (σ8.1 218 20 = (σ0.1 218 20)) ∧ (σ8.1 218 22 = (σ0.1 218 22)) ∧ (σ8.1 218 23 = (σ0.1 218 23)) ∧ (σ8.1 218 24 = (σ0.1 218 24)) ∧ (σ8.1 218 25 = (σ0.1 218 25)) := hI
    obtain ⟨hT, hI8, hK, hB, g7_σ8, g9_σ8, g10_σ8, g11_σ8, g12_σ8, g13_σ8, g14_σ8, g15_σ8, g20_σ8, g22_σ8, g23_σ8, g24_σ8, g25_σ8⟩ := hI
    rw [F_X12_readsLet_37.eq_1]
    refine ok_if (fun hc9 => ?_) (fun hc9 => ?_)
    · exact ok_some ⟨hT, (show (TOK σ8.1 ∧ (σ0.1 218 11).toInt ≤ (σ8.1 218 11).toInt ∧ (σ8.1 218 14 = 0 → ∃ j, letR tx n (σ0.1 231 0) i (σ0.1 218 25).toInt.toNat = some (j, (σ8.1 218 25).toInt.toNat) ∧ RX σ8.1 tx n j ∧ j ≤ n) ∧ (¬ σ8.1 218 14 = 0 → letR tx n (σ0.1 231 0) i (σ0.1 218 25).toInt.toNat = none) ∧ (0 ≤ (σ8.1 218 25).toInt ∧ (σ8.1 218 25).toInt ≤ 24) ∧ ZB σ8.1) ∧ (σ8.1 218 7 = σ0.1 218 7 ∧ σ8.1 218 9 = σ0.1 218 9) from ⟨by first | exact ⟨hK, by (try simp only [g7_σ8, g9_σ8, g10_σ8, g11_σ8, g12_σ8, g13_σ8, g14_σ8, g15_σ8, g20_σ8, g22_σ8, g23_σ8, g24_σ8, g25_σ8]); omega, fun q => by (obtain ⟨c, h1, h2, h3⟩ := u32 ((g14_σ8).symm.trans q); exact ⟨c.1, by rw [l18, sumR_s h1, g25_σ8, ← h3], RX_i g9_σ8 g10_σ8 g11_σ8 g12_σ8 g13_σ8 ((hT.2 224 (by decide)).trans tE) nE h2.1.2, h2.2⟩), fun q => by (obtain ⟨c, h1, h2⟩ := f32 (fun k => q ((g14_σ8).trans k)); rw [l18]; exact sumR_n h1 h2), by (try simp only [g7_σ8, g9_σ8, g10_σ8, g11_σ8, g12_σ8, g13_σ8, g14_σ8, g15_σ8, g20_σ8, g22_σ8, g23_σ8, g24_σ8, g25_σ8]); exact s32, hB⟩ | exact ⟨hK, by (try simp only [g7_σ8, g9_σ8, g10_σ8, g11_σ8, g12_σ8, g13_σ8, g14_σ8, g15_σ8, g20_σ8, g22_σ8, g23_σ8, g24_σ8, g25_σ8]); omega, fun q => absurd ((g14_σ8).symm.trans q) n18, fun _ => l18, by (try simp only [g7_σ8, g9_σ8, g10_σ8, g11_σ8, g12_σ8, g13_σ8, g14_σ8, g15_σ8, g20_σ8, g22_σ8, g23_σ8, g24_σ8, g25_σ8]); exact hs25, hB⟩, g7_σ8, g9_σ8⟩)⟩
    · have l68 := hc9
      rw [Int32.le_iff_toInt_le] at l68
      try simp only [Int32.reduceToInt] at l68
      have s68 : (x2_8 + 1).toInt = x2_8.toInt + 1 := by rw [ti_add]; simp only [Int32.reduceToInt]; omega
      refine ok_gC rfl ?_
      refine ok_zbX (Q := fun V => (V = 0 → ¬ σ8.1 218 14 = 0) ∧ (¬ V = 0 → σ8.1 218 14 = 0)) (x_X12_good) (fun v10 hqv10 => ?_)
      have hqv10 : (v10 = 0 → ¬ σ8.1 218 14 = 0) ∧ (¬ v10 = 0 → σ8.1 218 14 = 0) := hqv10
      try simp only [g7_σ8, g9_σ8, g10_σ8, g11_σ8, g12_σ8, g13_σ8, g14_σ8, g15_σ8, g20_σ8, g22_σ8, g23_σ8, g24_σ8, g25_σ8, hT.2 224 (by decide)] at hqv10
      refine ok_if (fun hc12 => ?_) (fun hc12 => ?_)
      · have qhc12 := hqv10.1 hc12
        exact ok_some ⟨hT, (show (TOK σ8.1 ∧ (σ0.1 218 11).toInt ≤ (σ8.1 218 11).toInt ∧ (σ8.1 218 14 = 0 → ∃ j, letR tx n (σ0.1 231 0) i (σ0.1 218 25).toInt.toNat = some (j, (σ8.1 218 25).toInt.toNat) ∧ RX σ8.1 tx n j ∧ j ≤ n) ∧ (¬ σ8.1 218 14 = 0 → letR tx n (σ0.1 231 0) i (σ0.1 218 25).toInt.toNat = none) ∧ (0 ≤ (σ8.1 218 25).toInt ∧ (σ8.1 218 25).toInt ≤ 24) ∧ ZB σ8.1) ∧ (σ8.1 218 7 = σ0.1 218 7 ∧ σ8.1 218 9 = σ0.1 218 9) from ⟨by first | exact ⟨hK, by (try simp only [g7_σ8, g9_σ8, g10_σ8, g11_σ8, g12_σ8, g13_σ8, g14_σ8, g15_σ8, g20_σ8, g22_σ8, g23_σ8, g24_σ8, g25_σ8]); omega, fun q => by (obtain ⟨c, h1, h2, h3⟩ := u32 ((g14_σ8).symm.trans q); exact ⟨c.1, by rw [l18, sumR_s h1, g25_σ8, ← h3], RX_i g9_σ8 g10_σ8 g11_σ8 g12_σ8 g13_σ8 ((hT.2 224 (by decide)).trans tE) nE h2.1.2, h2.2⟩), fun q => by (obtain ⟨c, h1, h2⟩ := f32 (fun k => q ((g14_σ8).trans k)); rw [l18]; exact sumR_n h1 h2), by (try simp only [g7_σ8, g9_σ8, g10_σ8, g11_σ8, g12_σ8, g13_σ8, g14_σ8, g15_σ8, g20_σ8, g22_σ8, g23_σ8, g24_σ8, g25_σ8]); exact s32, hB⟩ | exact ⟨hK, by (try simp only [g7_σ8, g9_σ8, g10_σ8, g11_σ8, g12_σ8, g13_σ8, g14_σ8, g15_σ8, g20_σ8, g22_σ8, g23_σ8, g24_σ8, g25_σ8]); omega, fun q => absurd ((g14_σ8).symm.trans q) n18, fun _ => l18, by (try simp only [g7_σ8, g9_σ8, g10_σ8, g11_σ8, g12_σ8, g13_σ8, g14_σ8, g15_σ8, g20_σ8, g22_σ8, g23_σ8, g24_σ8, g25_σ8]); exact hs25, hB⟩, g7_σ8, g9_σ8⟩)⟩
      · have qhc12 := hqv10.2 hc12
        refine ok_gR (v := 232) hT rfl (hR 218 27 rfl) ?_
        refine ok_gR (v := 226) hT rfl (hR 218 16 rfl) ?_
        refine ok_aIn rfl (by ((try simp only [g7_σ8, g9_σ8, g10_σ8, g11_σ8, g12_σ8, g13_σ8, g14_σ8, g15_σ8, g20_σ8, g22_σ8, g23_σ8, g24_σ8, g25_σ8])); first | omega | decide | (simp only [Int32.le_iff_toInt_le, Int32.lt_iff_toInt_lt, ti_add, ti_sub, ti_mul, Int32.reduceToInt] at *; omega)) (by ((try simp only [g7_σ8, g9_σ8, g10_σ8, g11_σ8, g12_σ8, g13_σ8, g14_σ8, g15_σ8, g20_σ8, g22_σ8, g23_σ8, g24_σ8, g25_σ8])); first | omega | decide | (simp only [Int32.le_iff_toInt_le, Int32.lt_iff_toInt_lt, ti_add, ti_sub, ti_mul, Int32.reduceToInt] at *; omega)) (fun v15 ev15 => ?_)
        have zv15 : v15 = 0 ∨ v15 = 1 := by rw [ev15]; exact hB 226 rfl _
        refine ok_s16 hT rfl (by decide) (by rw [ti_add, q4]; omega) (by rw [ti_add, q4]; omega) (fun σ16 eσ16 hOσ16 hT => ?_)
        have hK : TOK σ16.1 := TOK_tr hOσ16 (by decide) (by decide) hK
        have hB : ZB σ16.1 := by first | exact HQ.2.2.2.2.2 | exact ZB_s eσ16 hB
        have g7_σ16 : σ16.1 218 7 = (σ0.1 218 7) := (congrFun (hOσ16.2 218 (by decide)) 7).trans g7_σ8
        have g9_σ16 : σ16.1 218 9 = (σ0.1 218 9) := (congrFun (hOσ16.2 218 (by decide)) 9).trans g9_σ8
        have g10_σ16 : σ16.1 218 10 = (σ4.1 218 10) := (congrFun (hOσ16.2 218 (by decide)) 10).trans g10_σ8
        have g11_σ16 : σ16.1 218 11 = (σ4.1 218 11) := (congrFun (hOσ16.2 218 (by decide)) 11).trans g11_σ8
        have g12_σ16 : σ16.1 218 12 = (σ4.1 218 12) := (congrFun (hOσ16.2 218 (by decide)) 12).trans g12_σ8
        have g13_σ16 : σ16.1 218 13 = (σ4.1 218 13) := (congrFun (hOσ16.2 218 (by decide)) 13).trans g13_σ8
        have g14_σ16 : σ16.1 218 14 = (σ4.1 218 14) := (congrFun (hOσ16.2 218 (by decide)) 14).trans g14_σ8
        have g15_σ16 : σ16.1 218 15 = (σ4.1 218 15) := (congrFun (hOσ16.2 218 (by decide)) 15).trans g15_σ8
        have g20_σ16 : σ16.1 218 20 = (σ0.1 218 20) := (congrFun (hOσ16.2 218 (by decide)) 20).trans g20_σ8
        have g22_σ16 : σ16.1 218 22 = (σ0.1 218 22) := (congrFun (hOσ16.2 218 (by decide)) 22).trans g22_σ8
        have g23_σ16 : σ16.1 218 23 = (σ0.1 218 23) := (congrFun (hOσ16.2 218 (by decide)) 23).trans g23_σ8
        have g24_σ16 : σ16.1 218 24 = (σ0.1 218 24) := (congrFun (hOσ16.2 218 (by decide)) 24).trans g24_σ8
        have g25_σ16 : σ16.1 218 25 = (σ0.1 218 25) := (congrFun (hOσ16.2 218 (by decide)) 25).trans g25_σ8
        exact ih37_8 (x2_8 + 1, σ16) (show Tr [218, 226, 227, 228, 229, 230, 232] σ0 σ16 ∧ (0 ≤ (x2_8 + 1).toInt) ∧ (TOK σ16.1) ∧ (ZB σ16.1) ∧ (σ16.1 218 7 = (σ0.1 218 7)) ∧ (σ16.1 218 9 = (σ0.1 218 9)) ∧ (σ16.1 218 10 = (σ4.1 218 10)) ∧ (σ16.1 218 11 = (σ4.1 218 11)) ∧ (σ16.1 218 12 = (σ4.1 218 12)) ∧ (σ16.1 218 13 = (σ4.1 218 13)) ∧ (σ16.1 218 14 = (σ4.1 218 14)) ∧ (σ16.1 218 15 = (σ4.1 218 15)) ∧ (σ16.1 218 20 = (σ0.1 218 20)) ∧ (σ16.1 218 22 = (σ0.1 218 22)) ∧ (σ16.1 218 23 = (σ0.1 218 23)) ∧ (σ16.1 218 24 = (σ0.1 218 24)) ∧ (σ16.1 218 25 = (σ0.1 218 25)) from ⟨hT, (by rw [s68]; omega), hK, hB, g7_σ16, g9_σ16, g10_σ16, g11_σ16, g12_σ16, g13_σ16, g14_σ16, g15_σ16, g20_σ16, g22_σ16, g23_σ16, g24_σ16, g25_σ16⟩) (show (1024 - (x2_8 + 1).toInt).toNat < (1024 - x2_8.toInt).toNat from (by rw [s68]; omega))
  · have qhc7 := hqv5.2 hc7
    have y18 := qhc7
    have l18 : letR tx n (σ0.1 231 0) i (σ0.1 218 25).toInt.toNat = sumR tx n (σ0.1 231 0) (tkE tx n (tkE tx n i)) (σ0.1 218 25).toInt.toNat := if_pos ⟨(u4 (u11 qhc7).1.1).1.2, (u11 qhc7).2.1⟩
    refine ok_gR (v := 231) hT rfl (hR 218 26 rfl) ?_
    refine ok_aIc (j := 0) hT rfl (by decide) rfl (by decide) (by decide) ?_
    refine ok_gR (v := 232) hT rfl (hR 218 27 rfl) ?_
    refine ok_gC rfl ?_
    refine ok_zbT (Q := fun V σ => (TOK σ.1 ∧ (σ4.1 218 11).toInt ≤ (σ.1 218 11).toInt ∧ (σ.1 218 14 = 0 → ∃ c : Cf, (Rch tx n (σ0.1 231 0) (((tkE tx n (tkE tx n i)), false, [], (σ4.1 218 25).toInt.toNat) : Cf) c ∧ stp tx n (σ0.1 231 0) c = some none ∧ ¬ true ∈ c.2.2.1) ∧ (RX σ.1 tx n c.1 ∧ c.1 ≤ n) ∧ c.2.2.2 = (σ.1 218 25).toInt.toNat) ∧ (¬ σ.1 218 14 = 0 → ∃ c : Cf, Rch tx n (σ0.1 231 0) (((tkE tx n (tkE tx n i)), false, [], (σ4.1 218 25).toInt.toNat) : Cf) c ∧ (stp tx n (σ0.1 231 0) c = none ∨ (stp tx n (σ0.1 231 0) c = some none ∧ true ∈ c.2.2.1))) ∧ (0 ≤ (σ.1 218 25).toInt ∧ (σ.1 218 25).toInt ≤ 24) ∧ ZB σ.1) ∧ (σ.1 218 7 = σ4.1 218 7 ∧ σ.1 218 9 = σ4.1 218 9)) hT (s_X12_readsSum_232_r hN (hR.tr hT) (hK) (by rw [hT.2 224 (by decide)]; exact hY) ((u11 y18).2.2) (y18) (hB) (hF.1.1) ((tk_le le1).2.2) (by (try simp only [g7_σ4, g9_σ4, g20_σ4, g22_σ4, g23_σ4, g24_σ4, g25_σ4]); exact hs25)) (by decide) (fun v20 σ21 hOσ21 hT hqv20 => ?_)
    have hqv20 : (TOK σ21.1 ∧ (σ4.1 218 11).toInt ≤ (σ21.1 218 11).toInt ∧ (σ21.1 218 14 = 0 → ∃ c : Cf, (Rch tx n (σ0.1 231 0) (((tkE tx n (tkE tx n i)), false, [], (σ4.1 218 25).toInt.toNat) : Cf) c ∧ stp tx n (σ0.1 231 0) c = some none ∧ ¬ true ∈ c.2.2.1) ∧ (RX σ21.1 tx n c.1 ∧ c.1 ≤ n) ∧ c.2.2.2 = (σ21.1 218 25).toInt.toNat) ∧ (¬ σ21.1 218 14 = 0 → ∃ c : Cf, Rch tx n (σ0.1 231 0) (((tkE tx n (tkE tx n i)), false, [], (σ4.1 218 25).toInt.toNat) : Cf) c ∧ (stp tx n (σ0.1 231 0) c = none ∨ (stp tx n (σ0.1 231 0) c = some none ∧ true ∈ c.2.2.1))) ∧ (0 ≤ (σ21.1 218 25).toInt ∧ (σ21.1 218 25).toInt ≤ 24) ∧ ZB σ21.1) ∧ (σ21.1 218 7 = σ4.1 218 7 ∧ σ21.1 218 9 = σ4.1 218 9) := hqv20
    have hkv20 := hqv20
    have hqv20 := hqv20.1
    have hK : TOK σ21.1 := by first | exact hqv20.1 | exact hqv20.1.1 | exact TOK_p eσ21 (by decide) hK
    have hB : ZB σ21.1 := by first | exact hqv20.2.2.2.2.2 | exact ZB_s eσ21 hB
    try simp only [g7_σ4, g9_σ4, g20_σ4, g22_σ4, g23_σ4, g24_σ4, g25_σ4] at hqv20
    have g7_σ21 : σ21.1 218 7 = (σ0.1 218 7) := (hkv20.2.1).trans g7_σ4
    have g9_σ21 : σ21.1 218 9 = (σ0.1 218 9) := (hkv20.2.2).trans g9_σ4
    have m32 := hqv20.2.1
    have u32 := hqv20.2.2.1
    have f32 := hqv20.2.2.2.1
    have s32 := hqv20.2.2.2.2.1
    rw [J_X12_readsLet_35.eq_1]
    refine ok_lp (fun t : Int32 × zS => Tr [218, 226, 227, 228, 229, 230, 232] σ0 (t.2) ∧ (0 ≤ (t.1).toInt) ∧ (TOK (t.2).1) ∧ (ZB (t.2).1) ∧ ((t.2).1 218 7 = (σ0.1 218 7)) ∧ ((t.2).1 218 9 = (σ0.1 218 9)) ∧ ((t.2).1 218 10 = (σ21.1 218 10)) ∧ ((t.2).1 218 11 = (σ21.1 218 11)) ∧ ((t.2).1 218 12 = (σ21.1 218 12)) ∧ ((t.2).1 218 13 = (σ21.1 218 13)) ∧ ((t.2).1 218 14 = (σ21.1 218 14)) ∧ ((t.2).1 218 15 = (σ21.1 218 15)) ∧ ((t.2).1 218 20 = (σ21.1 218 20)) ∧ ((t.2).1 218 22 = (σ21.1 218 22)) ∧ ((t.2).1 218 23 = (σ21.1 218 23)) ∧ ((t.2).1 218 24 = (σ21.1 218 24)) ∧ ((t.2).1 218 25 = (σ21.1 218 25))) (fun t : Int32 × zS => (1024 - (t.1).toInt).toNat) (fun again22 t hI ih37_22 => ?_) N _ (show Tr [218, 226, 227, 228, 229, 230, 232] σ0 σ21 ∧ (0 ≤ (0 : Int32).toInt) ∧ (TOK σ21.1) ∧ (ZB σ21.1) ∧ (σ21.1 218 7 = (σ0.1 218 7)) ∧ (σ21.1 218 9 = (σ0.1 218 9)) ∧ (σ21.1 218 10 = (σ21.1 218 10)) ∧ (σ21.1 218 11 = (σ21.1 218 11)) ∧ (σ21.1 218 12 = (σ21.1 218 12)) ∧ (σ21.1 218 13 = (σ21.1 218 13)) ∧ (σ21.1 218 14 = (σ21.1 218 14)) ∧ (σ21.1 218 15 = (σ21.1 218 15)) ∧ (σ21.1 218 20 = (σ21.1 218 20)) ∧ (σ21.1 218 22 = (σ21.1 218 22)) ∧ (σ21.1 218 23 = (σ21.1 218 23)) ∧ (σ21.1 218 24 = (σ21.1 218 24)) ∧ (σ21.1 218 25 = (σ21.1 218 25)) from ⟨hT, (by decide), hK, hB, g7_σ21, g9_σ21, rfl, rfl, rfl, rfl, rfl, rfl, rfl, rfl, rfl, rfl, rfl⟩) (show (1024 - (0 : Int32).toInt).toNat < N from (by simp only [Int32.reduceToInt]; omega))
    obtain ⟨x2_22, σ22⟩ := t
    have hI : Tr [218, 226, 227, 228, 229, 230, 232] σ0 σ22 ∧ (0 ≤ x2_22.toInt) ∧ (TOK σ22.1) ∧ (ZB σ22.1) ∧ (σ22.1 218 7 = (σ0.1 218 7)) ∧ (σ22.1 218 9 = (σ0.1 218 9)) ∧ (σ22.1 218 10 = (σ21.1 218 10)) ∧ (σ22.1 218 11 = (σ21.1 218 11)) ∧ (σ22.1 218 12 = (σ21.1 218 12)) ∧ (σ22.1 218 13 = (σ21.1 218 13)) ∧ (σ22.1 218 14 = (σ21.1 218 14)) ∧ (σ22.1 218 15 = (σ21.1 218 15)) ∧ (σ22.1 218 20 = (σ21.1 218 20)) ∧ (σ22.1 218 22 = (σ21.1 218 22)) ∧ (σ22.1 218 23 = (σ21.1 218 23)) ∧ (σ22.1 218 24 = (σ21.1 218 24)) ∧ (σ22.1 218 25 = (σ21.1 218 25)) := hI
    obtain ⟨hT, hI22, hK, hB, g7_σ22, g9_σ22, g10_σ22, g11_σ22, g12_σ22, g13_σ22, g14_σ22, g15_σ22, g20_σ22, g22_σ22, g23_σ22, g24_σ22, g25_σ22⟩ := hI
    rw [F_X12_readsLet_37.eq_1]
    refine ok_if (fun hc23 => ?_) (fun hc23 => ?_)
    · exact ok_some ⟨hT, (show (TOK σ22.1 ∧ (σ0.1 218 11).toInt ≤ (σ22.1 218 11).toInt ∧ (σ22.1 218 14 = 0 → ∃ j, letR tx n (σ0.1 231 0) i (σ0.1 218 25).toInt.toNat = some (j, (σ22.1 218 25).toInt.toNat) ∧ RX σ22.1 tx n j ∧ j ≤ n) ∧ (¬ σ22.1 218 14 = 0 → letR tx n (σ0.1 231 0) i (σ0.1 218 25).toInt.toNat = none) ∧ (0 ≤ (σ22.1 218 25).toInt ∧ (σ22.1 218 25).toInt ≤ 24) ∧ ZB σ22.1) ∧ (σ22.1 218 7 = σ0.1 218 7 ∧ σ22.1 218 9 = σ0.1 218 9) from ⟨by first | exact ⟨hK, by (try simp only [g7_σ22, g9_σ22, g10_σ22, g11_σ22, g12_σ22, g13_σ22, g14_σ22, g15_σ22, g20_σ22, g22_σ22, g23_σ22, g24_σ22, g25_σ22]); omega, fun q => by (obtain ⟨c, h1, h2, h3⟩ := u32 ((g14_σ22).symm.trans q); exact ⟨c.1, by rw [l18, sumR_s h1, g25_σ22, ← h3], RX_i g9_σ22 g10_σ22 g11_σ22 g12_σ22 g13_σ22 ((hT.2 224 (by decide)).trans tE) nE h2.1.2, h2.2⟩), fun q => by (obtain ⟨c, h1, h2⟩ := f32 (fun k => q ((g14_σ22).trans k)); rw [l18]; exact sumR_n h1 h2), by (try simp only [g7_σ22, g9_σ22, g10_σ22, g11_σ22, g12_σ22, g13_σ22, g14_σ22, g15_σ22, g20_σ22, g22_σ22, g23_σ22, g24_σ22, g25_σ22]); exact s32, hB⟩ | exact ⟨hK, by (try simp only [g7_σ22, g9_σ22, g10_σ22, g11_σ22, g12_σ22, g13_σ22, g14_σ22, g15_σ22, g20_σ22, g22_σ22, g23_σ22, g24_σ22, g25_σ22]); omega, fun q => absurd ((g14_σ22).symm.trans q) n18, fun _ => l18, by (try simp only [g7_σ22, g9_σ22, g10_σ22, g11_σ22, g12_σ22, g13_σ22, g14_σ22, g15_σ22, g20_σ22, g22_σ22, g23_σ22, g24_σ22, g25_σ22]); exact hs25, hB⟩, g7_σ22, g9_σ22⟩)⟩
    · have l68 := hc23
      rw [Int32.le_iff_toInt_le] at l68
      try simp only [Int32.reduceToInt] at l68
      have s68 : (x2_22 + 1).toInt = x2_22.toInt + 1 := by rw [ti_add]; simp only [Int32.reduceToInt]; omega
      refine ok_gC rfl ?_
      refine ok_zbX (Q := fun V => (V = 0 → ¬ σ22.1 218 14 = 0) ∧ (¬ V = 0 → σ22.1 218 14 = 0)) (x_X12_good) (fun v24 hqv24 => ?_)
      have hqv24 : (v24 = 0 → ¬ σ22.1 218 14 = 0) ∧ (¬ v24 = 0 → σ22.1 218 14 = 0) := hqv24
      try simp only [g7_σ22, g9_σ22, g10_σ22, g11_σ22, g12_σ22, g13_σ22, g14_σ22, g15_σ22, g20_σ22, g22_σ22, g23_σ22, g24_σ22, g25_σ22, hT.2 224 (by decide)] at hqv24
      refine ok_if (fun hc26 => ?_) (fun hc26 => ?_)
      · have qhc26 := hqv24.1 hc26
        exact ok_some ⟨hT, (show (TOK σ22.1 ∧ (σ0.1 218 11).toInt ≤ (σ22.1 218 11).toInt ∧ (σ22.1 218 14 = 0 → ∃ j, letR tx n (σ0.1 231 0) i (σ0.1 218 25).toInt.toNat = some (j, (σ22.1 218 25).toInt.toNat) ∧ RX σ22.1 tx n j ∧ j ≤ n) ∧ (¬ σ22.1 218 14 = 0 → letR tx n (σ0.1 231 0) i (σ0.1 218 25).toInt.toNat = none) ∧ (0 ≤ (σ22.1 218 25).toInt ∧ (σ22.1 218 25).toInt ≤ 24) ∧ ZB σ22.1) ∧ (σ22.1 218 7 = σ0.1 218 7 ∧ σ22.1 218 9 = σ0.1 218 9) from ⟨by first | exact ⟨hK, by (try simp only [g7_σ22, g9_σ22, g10_σ22, g11_σ22, g12_σ22, g13_σ22, g14_σ22, g15_σ22, g20_σ22, g22_σ22, g23_σ22, g24_σ22, g25_σ22]); omega, fun q => by (obtain ⟨c, h1, h2, h3⟩ := u32 ((g14_σ22).symm.trans q); exact ⟨c.1, by rw [l18, sumR_s h1, g25_σ22, ← h3], RX_i g9_σ22 g10_σ22 g11_σ22 g12_σ22 g13_σ22 ((hT.2 224 (by decide)).trans tE) nE h2.1.2, h2.2⟩), fun q => by (obtain ⟨c, h1, h2⟩ := f32 (fun k => q ((g14_σ22).trans k)); rw [l18]; exact sumR_n h1 h2), by (try simp only [g7_σ22, g9_σ22, g10_σ22, g11_σ22, g12_σ22, g13_σ22, g14_σ22, g15_σ22, g20_σ22, g22_σ22, g23_σ22, g24_σ22, g25_σ22]); exact s32, hB⟩ | exact ⟨hK, by (try simp only [g7_σ22, g9_σ22, g10_σ22, g11_σ22, g12_σ22, g13_σ22, g14_σ22, g15_σ22, g20_σ22, g22_σ22, g23_σ22, g24_σ22, g25_σ22]); omega, fun q => absurd ((g14_σ22).symm.trans q) n18, fun _ => l18, by (try simp only [g7_σ22, g9_σ22, g10_σ22, g11_σ22, g12_σ22, g13_σ22, g14_σ22, g15_σ22, g20_σ22, g22_σ22, g23_σ22, g24_σ22, g25_σ22]); exact hs25, hB⟩, g7_σ22, g9_σ22⟩)⟩
      · have qhc26 := hqv24.2 hc26
        refine ok_gR (v := 232) hT rfl (hR 218 27 rfl) ?_
        refine ok_gR (v := 226) hT rfl (hR 218 16 rfl) ?_
        refine ok_aIn rfl (by ((try simp only [g7_σ22, g9_σ22, g10_σ22, g11_σ22, g12_σ22, g13_σ22, g14_σ22, g15_σ22, g20_σ22, g22_σ22, g23_σ22, g24_σ22, g25_σ22])); first | omega | decide | (simp only [Int32.le_iff_toInt_le, Int32.lt_iff_toInt_lt, ti_add, ti_sub, ti_mul, Int32.reduceToInt] at *; omega)) (by ((try simp only [g7_σ22, g9_σ22, g10_σ22, g11_σ22, g12_σ22, g13_σ22, g14_σ22, g15_σ22, g20_σ22, g22_σ22, g23_σ22, g24_σ22, g25_σ22])); first | omega | decide | (simp only [Int32.le_iff_toInt_le, Int32.lt_iff_toInt_lt, ti_add, ti_sub, ti_mul, Int32.reduceToInt] at *; omega)) (fun v29 ev29 => ?_)
        have zv29 : v29 = 0 ∨ v29 = 1 := by rw [ev29]; exact hB 226 rfl _
        refine ok_s16 hT rfl (by decide) (by rw [ti_add, q4]; omega) (by rw [ti_add, q4]; omega) (fun σ30 eσ30 hOσ30 hT => ?_)
        have hK : TOK σ30.1 := TOK_tr hOσ30 (by decide) (by decide) hK
        have hB : ZB σ30.1 := by first | exact HQ.2.2.2.2.2 | exact ZB_s eσ30 hB
        have g7_σ30 : σ30.1 218 7 = (σ0.1 218 7) := (congrFun (hOσ30.2 218 (by decide)) 7).trans g7_σ22
        have g9_σ30 : σ30.1 218 9 = (σ0.1 218 9) := (congrFun (hOσ30.2 218 (by decide)) 9).trans g9_σ22
        have g10_σ30 : σ30.1 218 10 = (σ21.1 218 10) := (congrFun (hOσ30.2 218 (by decide)) 10).trans g10_σ22
        have g11_σ30 : σ30.1 218 11 = (σ21.1 218 11) := (congrFun (hOσ30.2 218 (by decide)) 11).trans g11_σ22
        have g12_σ30 : σ30.1 218 12 = (σ21.1 218 12) := (congrFun (hOσ30.2 218 (by decide)) 12).trans g12_σ22
        have g13_σ30 : σ30.1 218 13 = (σ21.1 218 13) := (congrFun (hOσ30.2 218 (by decide)) 13).trans g13_σ22
        have g14_σ30 : σ30.1 218 14 = (σ21.1 218 14) := (congrFun (hOσ30.2 218 (by decide)) 14).trans g14_σ22
        have g15_σ30 : σ30.1 218 15 = (σ21.1 218 15) := (congrFun (hOσ30.2 218 (by decide)) 15).trans g15_σ22
        have g20_σ30 : σ30.1 218 20 = (σ21.1 218 20) := (congrFun (hOσ30.2 218 (by decide)) 20).trans g20_σ22
        have g22_σ30 : σ30.1 218 22 = (σ21.1 218 22) := (congrFun (hOσ30.2 218 (by decide)) 22).trans g22_σ22
        have g23_σ30 : σ30.1 218 23 = (σ21.1 218 23) := (congrFun (hOσ30.2 218 (by decide)) 23).trans g23_σ22
        have g24_σ30 : σ30.1 218 24 = (σ21.1 218 24) := (congrFun (hOσ30.2 218 (by decide)) 24).trans g24_σ22
        have g25_σ30 : σ30.1 218 25 = (σ21.1 218 25) := (congrFun (hOσ30.2 218 (by decide)) 25).trans g25_σ22
        exact ih37_22 (x2_22 + 1, σ30) (show Tr [218, 226, 227, 228, 229, 230, 232] σ0 σ30 ∧ (0 ≤ (x2_22 + 1).toInt) ∧ (TOK σ30.1) ∧ (ZB σ30.1) ∧ (σ30.1 218 7 = (σ0.1 218 7)) ∧ (σ30.1 218 9 = (σ0.1 218 9)) ∧ (σ30.1 218 10 = (σ21.1 218 10)) ∧ (σ30.1 218 11 = (σ21.1 218 11)) ∧ (σ30.1 218 12 = (σ21.1 218 12)) ∧ (σ30.1 218 13 = (σ21.1 218 13)) ∧ (σ30.1 218 14 = (σ21.1 218 14)) ∧ (σ30.1 218 15 = (σ21.1 218 15)) ∧ (σ30.1 218 20 = (σ21.1 218 20)) ∧ (σ30.1 218 22 = (σ21.1 218 22)) ∧ (σ30.1 218 23 = (σ21.1 218 23)) ∧ (σ30.1 218 24 = (σ21.1 218 24)) ∧ (σ30.1 218 25 = (σ21.1 218 25)) from ⟨hT, (by rw [s68]; omega), hK, hB, g7_σ30, g9_σ30, g10_σ30, g11_σ30, g12_σ30, g13_σ30, g14_σ30, g15_σ30, g20_σ30, g22_σ30, g23_σ30, g24_σ30, g25_σ30⟩) (show (1024 - (x2_22 + 1).toInt).toNat < (1024 - x2_22.toInt).toNat from (by rw [s68]; omega))
end Zq12_1
section Zq12_2
/-! ===== the class's table of tokens ===== -/
def Pk (t : Nat → Int32) (n : Nat) : Nat → Nat
  | 0 => 0
  | k + 1 => tkE t n (Pk t n k)
/-- the class's kind of a token -/
def ck (k : Int32) : Int32 := if k = 1 then 2 else if k = 2 then 3 else if k = 3 then 1 else k
theorem ck_0 {k : Int32} : ck k = 0 ↔ k = 0 := by
  unfold ck
  by_cases a : k = 1
  · rw [if_pos a, a]; decide
  · by_cases b : k = 2
    · rw [if_neg a, if_pos b, b]; decide
    · by_cases c : k = 3
      · rw [if_neg a, if_neg b, if_pos c, c]; decide
      · rw [if_neg a, if_neg b, if_neg c]
theorem ck_w {k : Int32} : ck k = 2 ↔ k = 1 := by
  unfold ck
  by_cases a : k = 1
  · rw [if_pos a, a]; decide
  · by_cases b : k = 2
    · rw [if_neg a, if_pos b, b]; decide
    · by_cases c : k = 3
      · rw [if_neg a, if_neg b, if_pos c, c]; decide
      · rw [if_neg a, if_neg b, if_neg c]; exact ⟨fun q => absurd q b, fun q => absurd q a⟩
theorem ck_n {k : Int32} : ck k = 3 ↔ k = 2 := by
  unfold ck
  by_cases a : k = 1
  · rw [if_pos a, a]; decide
  · by_cases b : k = 2
    · rw [if_neg a, if_pos b, b]; decide
    · by_cases c : k = 3
      · rw [if_neg a, if_neg b, if_pos c, c]; decide
      · rw [if_neg a, if_neg b, if_neg c]; exact ⟨fun q => absurd q c, fun q => absurd q b⟩
theorem ck_s {k x : Int32} (hx : 4 ≤ x.toInt) : ck k = x ↔ k = x := by
  have z : ∀ y : Int32, y.toInt < 4 → ¬ y = x := fun y hy q => by rw [q] at hy; omega
  unfold ck
  by_cases a : k = 1
  · rw [if_pos a, a]; exact ⟨fun q => absurd q (z 2 (by decide)), fun q => absurd q (z 1 (by decide))⟩
  · by_cases b : k = 2
    · rw [if_neg a, if_pos b, b]; exact ⟨fun q => absurd q (z 3 (by decide)), fun q => absurd q (z 2 (by decide))⟩
    · by_cases c : k = 3
      · rw [if_neg a, if_neg b, if_pos c, c]; exact ⟨fun q => absurd q (z 1 (by decide)), fun q => absurd q (z 3 (by decide))⟩
      · rw [if_neg a, if_neg b, if_neg c]
noncomputable def wvF (C : Nat → Prop) : Int32 := by classical exact (if C 0 then 1 else if C 1 then 2 else if C 2 then 3 else if C 3 then 4 else if C 4 then 5 else if C 5 then 10 else if C 6 then 11 else if C 7 then 12 else if C 8 then 13 else if C 9 then 14 else if C 10 then 15 else -1)
/-- the class's value of the word at i -/
noncomputable def wv (t : Nat → Int32) (n i : Nat) : Int32 := wvF (fun w => isW t n i (w + 11))
/-- row k of the table is right -/
def TR (s : Nat → Nat → Int32) (t : Nat → Int32) (n k : Nat) : Prop := (s 61 k = ck (tkK t n (Pk t n k)) ∧ (s 63 k).toInt = (tkF t n (Pk t n k) : Int) ∧ (s 64 k).toInt = (tkE t n (Pk t n k) : Int)) ∧ (tkK t n (Pk t n k) = 2 → (s 62 k).toInt = min 1000000 (Nv t n (tkF t n (Pk t n k)) 0 : Int)) ∧ (tkK t n (Pk t n k) = 1 → s 62 k = wv t n (Pk t n k))
/-- the table of all tokens -/
def CT (s : Nat → Nat → Int32) (t : Nat → Int32) (n c : Nat) : Prop := (s 1 = t ∧ n ≤ 600 ∧ c ≤ 600) ∧ (∀ k, k < c → ¬ tkK t n (Pk t n k) = 0) ∧ tkK t n (Pk t n c) = 0 ∧ ∀ k, k ≤ c → TR s t n k
/-- a is the number of the token at i -/
def CA (a : Int32) (t : Nat → Int32) (n c i : Nat) : Prop := ∃ j : Nat, a.toInt = (j : Int) ∧ j ≤ c ∧ Pk t n j = i
theorem CT_tr {S : List Nat} {σ τ : zS} {t : Nat → Int32} {n c : Nat} (hT : Tr S σ τ) (h1 : 1 ∉ S) (h61 : 61 ∉ S) (h62 : 62 ∉ S) (h63 : 63 ∉ S) (h64 : 64 ∉ S) (h : CT σ.1 t n c) : CT τ.1 t n c := by
  unfold CT TR at h ⊢
  rw [hT.2 1 h1, hT.2 61 h61, hT.2 62 h62, hT.2 63 h63, hT.2 64 h64]; exact h
theorem Pk_le {t : Nat → Int32} {n : Nat} : ∀ k, Pk t n k ≤ n
  | 0 => Nat.zero_le _
  | k + 1 => (tk_le (Pk_le k)).2.2
/-- what stands in the table at the token of i -/
theorem CA_row {s : Nat → Nat → Int32} {t : Nat → Int32} {n c i : Nat} {a : Int32} (hC : CT s t n c) (hA : CA a t n c i) : (s 61 a.toNatClampNeg = ck (tkK t n i) ∧ (s 63 a.toNatClampNeg).toInt = (tkF t n i : Int) ∧ (s 64 a.toNatClampNeg).toInt = (tkE t n i : Int)) ∧ (tkK t n i = 2 → (s 62 a.toNatClampNeg).toInt = min 1000000 (Nv t n (tkF t n i) 0 : Int)) ∧ (tkK t n i = 1 → s 62 a.toNatClampNeg = wv t n i) := by
  obtain ⟨j, hj, hc, rfl⟩ := hA
  have e : a.toNatClampNeg = j := by
    show a.toInt.toNat = j
    omega
  rw [e]
  exact hC.2.2.2 j hc
theorem CA_next {s : Nat → Nat → Int32} {t : Nat → Int32} {n c i : Nat} {a b : Int32} (hC : CT s t n c) (hA : CA a t n c i) (hk : ¬ tkK t n i = 0) (hb : b.toInt = a.toInt + 1) : CA b t n c (tkE t n i) := by
  obtain ⟨j, hj, hc, rfl⟩ := hA
  refine ⟨j + 1, by omega, ?_, rfl⟩
  by_cases q : j = c
  · rw [q] at hk; exact absurd hC.2.2.1 hk
  · omega
theorem CA_le {t : Nat → Int32} {n c i : Nat} {a : Int32} (hA : CA a t n c i) : i ≤ n := by
  obtain ⟨j, _, _, rfl⟩ := hA
  exact Pk_le j
theorem CA_b {t : Nat → Int32} {n c i : Nat} {a : Int32} (hA : CA a t n c i) (hc : c ≤ 600) : 0 ≤ a.toInt ∧ a.toInt ≤ 600 := by
  obtain ⟨j, _, _, rfl⟩ := hA
  omega
theorem zch_11 : ∀ w, w < 11 → zlen.getD w 0 = zlen.getD (w + 11) 0 ∧ ∀ k, k < 20 → zch w (nI k) = zch (w + 11) (nI k) := by decide +kernel
theorem x_X5_isLetter {N : Nat} {x0 : Int32} {σ : zS} : Ok (f_X5_isLetter N x0 σ) (fun r => r.2 = σ ∧ ((r.1 = 0 → ¬ isLt x0) ∧ (¬ r.1 = 0 → isLt x0))) := by
  rw [f_X5_isLetter.eq_1]
  unfold isLt
  refine ok_if (fun h => ok_rZ (Or.inl rfl) ⟨rfl, fun _ => ?_, fun q => absurd rfl q⟩) (fun h => ok_if (fun h2 => ok_rZ (Or.inl rfl) ⟨rfl, fun _ => ?_, fun q => absurd rfl q⟩) (fun h2 => ok_rZ (Or.inr rfl) ⟨rfl, fun q => absurd (show (1 : Int32) = 0 from q) (by decide), fun _ => ?_⟩))
  all_goals simp only [Int32.lt_iff_toInt_lt, Int32.reduceToInt] at *; omega
theorem x_X5_isDigit {N : Nat} {x0 : Int32} {σ : zS} : Ok (f_X5_isDigit N x0 σ) (fun r => r.2 = σ ∧ ((r.1 = 0 → ¬ isDg x0) ∧ (¬ r.1 = 0 → isDg x0))) := by
  rw [f_X5_isDigit.eq_1]
  unfold isDg
  refine ok_if (fun h => ok_rZ (Or.inl rfl) ⟨rfl, fun _ => ?_, fun q => absurd rfl q⟩) (fun h => ok_if (fun h2 => ok_rZ (Or.inl rfl) ⟨rfl, fun _ => ?_, fun q => absurd rfl q⟩) (fun h2 => ok_rZ (Or.inr rfl) ⟨rfl, fun q => absurd (show (1 : Int32) = 0 from q) (by decide), fun _ => ?_⟩))
  all_goals simp only [Int32.lt_iff_toInt_lt, Int32.reduceToInt] at *; omega
theorem x_X5_combination {N : Nat} {x0 : Int32} {σ : zS} : Ok (f_X5_combination N x0 σ) (fun r => r.2 = σ ∧ ((r.1 = -1 ∧ ¬ isCb x0) ∨ ((0 ≤ r.1.toInt ∧ r.1.toInt ≤ 6) ∧ isCb x0))) := by
  rw [f_X5_combination.eq_1]
  unfold isCb
  repeat' first
    | exact ok_some ⟨rfl, Or.inl ⟨rfl, by simp only [*, or_self, not_false_eq_true]⟩⟩
    | refine ok_if (fun h => ok_some ⟨rfl, Or.inl ⟨rfl, by rw [h]; decide⟩⟩) (fun h => ?_)
    | refine ok_if (fun h => ok_some ⟨rfl, Or.inr ⟨by simp only [Int32.reduceToInt]; decide, by rw [h]; decide⟩⟩) (fun h => ?_)
theorem sgn_cb {c : Int32} (h : isCb c) : sgn c := by
  unfold isCb at h
  unfold sgn
  rcases h with rfl | rfl | rfl | rfl | rfl | rfl | rfl <;> decide
theorem x_X5_isSign {N : Nat} {x0 : Int32} {σ : zS} : Ok (f_X5_isSign N x0 σ) (fun r => r.2 = σ ∧ ((r.1 = 0 → ¬ sgn x0) ∧ (¬ r.1 = 0 → sgn x0))) := by
  rw [f_X5_isSign.eq_1]
  repeat' first
    | refine ok_if (fun h => ok_rZ (Or.inr rfl) ⟨rfl, fun q => absurd (show (1 : Int32) = 0 from q) (by decide), fun _ => by unfold sgn; simp only [h, true_or, or_true]⟩) (fun h => ?_)
  refine ok_zbX (Q := fun v => (v = -1 ∧ ¬ isCb x0) ∨ ((0 ≤ v.toInt ∧ v.toInt ≤ 6) ∧ isCb x0)) x_X5_combination (fun v hv => ?_)
  refine ok_if (fun hc => ok_rZ (Or.inl rfl) ⟨rfl, fun _ q => ?_, fun q => absurd rfl q⟩) (fun hc => ok_rZ (Or.inr rfl) ⟨rfl, fun q => absurd (show (1 : Int32) = 0 from q) (by decide), fun _ => ?_⟩)
  · rw [Int32.lt_iff_toInt_lt] at hc
    simp only [Int32.reduceToInt] at hc
    have hn := (hv.resolve_right (fun z => by omega)).2
    unfold sgn at q
    unfold isCb at hn
    simp only [*, false_or, or_false] at q
  · have hn := (hv.resolve_left (fun z => hc (by rw [z.1]; decide))).2
    exact sgn_cb hn
end Zq12_2
section Zq12_3
/-- the word w stands from a to b -/
def spC (s : Nat → Nat → Int32) (a b : Int32) (w : Nat) : Prop := b.toInt - a.toInt = (zlen.getD w 0 : Int) ∧ ∀ k, k < zlen.getD w 0 → s 1 (a.toInt.toNat + k) = zch w (nI k)
theorem xs_X5_spells {N w : Nat} {x2 x3 : Int32} {σ : zS} (hN : 1048576 ≤ N) (hR : RF σ.2.2) (hX : σ.2.2 57 5 = 1) (hw : w < zSn) (h2 : 0 ≤ x2.toInt) (h3 : x3.toInt ≤ (σ.1 57 6).toInt) (h6 : (σ.1 57 6).toInt ≤ 600) (h32 : x2.toInt ≤ x3.toInt) : Ok (f_X5_spells N 57 w x2 x3 σ) (fun r => r.2 = σ ∧ ((r.1 = 0 → ¬ spC σ.1 x2 x3 w) ∧ (¬ r.1 = 0 → spC σ.1 x2 x3 w))) := by
  have hz := zlen_b w hw
  have hl : (nI (zlen.getD w 0)).toInt = (zlen.getD w 0 : Int) := nI_toInt (by omega)
  have es : (x3 - x2).toInt = x3.toInt - x2.toInt := by rw [ti_sub]; omega
  rw [f_X5_spells.eq_1]
  refine ok_zbX (σ := σ) (Q := fun v => v = nI (zlen.getD w 0)) ⟨_, if_pos hw, rfl, rfl⟩ (fun v hv => ?_)
  subst hv
  refine ok_if (fun h => ?_) (fun h => ok_rZ (Or.inl rfl) ⟨rfl, fun _ c => h (Int32.toInt_inj.mp (by rw [es, hl]; exact c.1)), fun q => absurd rfl q⟩)
  have hB := congrArg Int32.toInt h
  rw [es, hl] at hB
  refine ok_if (fun h' => absurd h' (by rw [Int32.lt_iff_toInt_lt]; simp only [Int32.reduceToInt]; omega)) (fun _ => ?_)
  refine ok_gI rfl ?_
  refine ok_if (fun _ => ?_) (fun h' => absurd (Int32.le_iff_toInt_le.mpr h3) h')
  refine ok_lp (fun t : Int32 × zS => t.2 = σ ∧ (0 ≤ t.1.toInt ∧ t.1.toInt ≤ 20) ∧ ∀ k : Nat, (k : Int) < t.1.toInt → σ.1 1 (x2.toInt.toNat + k) = zch w (nI k)) (fun t => ((zlen.getD w 0 : Int) - t.1.toInt).toNat) (fun again t hI ih => ?_) N _ ⟨rfl, (by decide : 0 ≤ (0 : Int32).toInt ∧ (0 : Int32).toInt ≤ 20), fun k hk => absurd hk (by simp only [Int32.reduceToInt]; omega)⟩ (by simp only [Int32.reduceToInt]; omega)
  obtain ⟨x4, σ'⟩ := t
  obtain ⟨e, h0, hA⟩ := hI
  have e : σ' = σ := e
  have h0 : 0 ≤ x4.toInt ∧ x4.toInt ≤ 20 := h0
  have hA : ∀ k : Nat, (k : Int) < x4.toInt → σ.1 1 (x2.toInt.toNat + k) = zch w (nI k) := hA
  subst e
  rw [F_X5_spells_27.eq_1]
  refine ok_zbX (σ := σ') (Q := fun v => v = nI (zlen.getD w 0)) ⟨_, if_pos hw, rfl, rfl⟩ (fun v hv => ?_)
  subst hv
  refine ok_if (fun hh => ok_rZ (Or.inr rfl) ⟨rfl, fun q => absurd (show (1 : Int32) = 0 from q) (by decide), fun _ => ⟨hB, fun k hk => hA k ?_⟩⟩) (fun hh => ?_)
  · rw [Int32.le_iff_toInt_le, hl] at hh; omega
  rw [Int32.le_iff_toInt_le, hl] at hh
  have hs : (x4 + 1).toInt = x4.toInt + 1 := by rw [ti_add]; simp only [Int32.reduceToInt]; omega
  have ha : (x2 + x4).toInt = x2.toInt + x4.toInt := by rw [ti_add]; omega
  refine ok_gRX (Sx := []) (σ0 := σ') Tr.rf hX ?_
  refine ok_aIn (n := 600) rfl (by rw [ha]; omega) (by rw [ha]; omega) (fun v7 e7 => ?_)
  have e7 : v7 = σ'.1 1 (x2.toInt.toNat + x4.toInt.toNat) := by
    rw [e7, show (x2 + x4).toNatClampNeg = (x2 + x4).toInt.toNat from rfl, ha, show (x2.toInt + x4.toInt).toNat = x2.toInt.toNat + x4.toInt.toNat by omega]
  refine ok_zbX (σ := σ') (Q := fun v => v = zch w x4) ⟨_, if_pos ⟨hw, h0.1, by omega⟩, rfl, rfl⟩ (fun v8 e8 => ?_)
  have hx : nI x4.toInt.toNat = x4 := Int32.toInt_inj.mp (by rw [nI_toInt (by omega)]; omega)
  refine ok_if (fun q => ih (x4 + 1, σ') ⟨rfl, (by rw [hs]; omega : 0 ≤ (x4 + 1).toInt ∧ (x4 + 1).toInt ≤ 20), fun k hk => ?_⟩ (by show ((zlen.getD w 0 : Int) - (x4 + 1).toInt).toNat < ((zlen.getD w 0 : Int) - x4.toInt).toNat; rw [hs]; omega)) (fun q => ok_rZ (Or.inl rfl) ⟨rfl, fun _ c => ?_, fun q => absurd rfl q⟩)
  · have hk : (k : Int) < (x4 + 1).toInt := hk
    rw [hs] at hk
    by_cases r : (k : Int) = x4.toInt
    · rw [show k = x4.toInt.toNat by omega, ← e7, hx, q, e8]
    · exact hA k (by omega)
  · apply q
    rw [e7, e8, c.2 x4.toInt.toNat (by omega), hx]
theorem xs_X5_wordValue {N : Nat} {x1 x2 : Int32} {σ : zS} (hN : 1048576 ≤ N) (hR : RF σ.2.2) (hX : σ.2.2 57 5 = 1) (h2 : 0 ≤ x1.toInt) (h3 : x2.toInt ≤ (σ.1 57 6).toInt) (h6 : (σ.1 57 6).toInt ≤ 600) (h32 : x1.toInt ≤ x2.toInt) : Ok (f_X5_wordValue N 57 x1 x2 σ) (fun r => r.2 = σ ∧ r.1 = wvF (spC σ.1 x1 x2)) := by
  have z := fun w (hw : w < zSn) => xs_X5_spells (w := w) hN hR hX hw h2 h3 h6 h32
  rw [f_X5_wordValue.eq_1]
  unfold wvF
  refine ok_gC rfl (ok_zbX (Q := fun v => (v = 0 → ¬ spC σ.1 x1 x2 0) ∧ (¬ v = 0 → spC σ.1 x1 x2 0)) (z 0 (by decide)) (fun v h => ok_if (fun e => ?_) (fun e => ok_some ⟨rfl, (if_pos (h.2 e)).symm⟩)))
  rw [if_neg (h.1 e)]
  refine ok_gC rfl (ok_zbX (Q := fun v => (v = 0 → ¬ spC σ.1 x1 x2 1) ∧ (¬ v = 0 → spC σ.1 x1 x2 1)) (z 1 (by decide)) (fun v h => ok_if (fun e => ?_) (fun e => ok_some ⟨rfl, (if_pos (h.2 e)).symm⟩)))
  rw [if_neg (h.1 e)]
  refine ok_gC rfl (ok_zbX (Q := fun v => (v = 0 → ¬ spC σ.1 x1 x2 2) ∧ (¬ v = 0 → spC σ.1 x1 x2 2)) (z 2 (by decide)) (fun v h => ok_if (fun e => ?_) (fun e => ok_some ⟨rfl, (if_pos (h.2 e)).symm⟩)))
  rw [if_neg (h.1 e)]
  refine ok_gC rfl (ok_zbX (Q := fun v => (v = 0 → ¬ spC σ.1 x1 x2 3) ∧ (¬ v = 0 → spC σ.1 x1 x2 3)) (z 3 (by decide)) (fun v h => ok_if (fun e => ?_) (fun e => ok_some ⟨rfl, (if_pos (h.2 e)).symm⟩)))
  rw [if_neg (h.1 e)]
  refine ok_gC rfl (ok_zbX (Q := fun v => (v = 0 → ¬ spC σ.1 x1 x2 4) ∧ (¬ v = 0 → spC σ.1 x1 x2 4)) (z 4 (by decide)) (fun v h => ok_if (fun e => ?_) (fun e => ok_some ⟨rfl, (if_pos (h.2 e)).symm⟩)))
  rw [if_neg (h.1 e)]
  refine ok_gC rfl (ok_zbX (Q := fun v => (v = 0 → ¬ spC σ.1 x1 x2 5) ∧ (¬ v = 0 → spC σ.1 x1 x2 5)) (z 5 (by decide)) (fun v h => ok_if (fun e => ?_) (fun e => ok_some ⟨rfl, (if_pos (h.2 e)).symm⟩)))
  rw [if_neg (h.1 e)]
  refine ok_gC rfl (ok_zbX (Q := fun v => (v = 0 → ¬ spC σ.1 x1 x2 6) ∧ (¬ v = 0 → spC σ.1 x1 x2 6)) (z 6 (by decide)) (fun v h => ok_if (fun e => ?_) (fun e => ok_some ⟨rfl, (if_pos (h.2 e)).symm⟩)))
  rw [if_neg (h.1 e)]
  refine ok_gC rfl (ok_zbX (Q := fun v => (v = 0 → ¬ spC σ.1 x1 x2 7) ∧ (¬ v = 0 → spC σ.1 x1 x2 7)) (z 7 (by decide)) (fun v h => ok_if (fun e => ?_) (fun e => ok_some ⟨rfl, (if_pos (h.2 e)).symm⟩)))
  rw [if_neg (h.1 e)]
  refine ok_gC rfl (ok_zbX (Q := fun v => (v = 0 → ¬ spC σ.1 x1 x2 8) ∧ (¬ v = 0 → spC σ.1 x1 x2 8)) (z 8 (by decide)) (fun v h => ok_if (fun e => ?_) (fun e => ok_some ⟨rfl, (if_pos (h.2 e)).symm⟩)))
  rw [if_neg (h.1 e)]
  refine ok_gC rfl (ok_zbX (Q := fun v => (v = 0 → ¬ spC σ.1 x1 x2 9) ∧ (¬ v = 0 → spC σ.1 x1 x2 9)) (z 9 (by decide)) (fun v h => ok_if (fun e => ?_) (fun e => ok_some ⟨rfl, (if_pos (h.2 e)).symm⟩)))
  rw [if_neg (h.1 e)]
  refine ok_gC rfl (ok_zbX (Q := fun v => (v = 0 → ¬ spC σ.1 x1 x2 10) ∧ (¬ v = 0 → spC σ.1 x1 x2 10)) (z 10 (by decide)) (fun v h => ok_if (fun e => ok_some ⟨rfl, (if_neg (h.1 e)).symm⟩) (fun e => ok_some ⟨rfl, (if_pos (h.2 e)).symm⟩)))
theorem wvF_c {C D : Nat → Prop} (h : ∀ w, w < 11 → (C w ↔ D w)) : wvF C = wvF D := by
  unfold wvF
  rw [show C 0 = D 0 from propext (h 0 (by decide)), show C 1 = D 1 from propext (h 1 (by decide)), show C 2 = D 2 from propext (h 2 (by decide)), show C 3 = D 3 from propext (h 3 (by decide)), show C 4 = D 4 from propext (h 4 (by decide)), show C 5 = D 5 from propext (h 5 (by decide)), show C 6 = D 6 from propext (h 6 (by decide)), show C 7 = D 7 from propext (h 7 (by decide)), show C 8 = D 8 from propext (h 8 (by decide)), show C 9 = D 9 from propext (h 9 (by decide)), show C 10 = D 10 from propext (h 10 (by decide))]
theorem spC_w {s : Nat → Nat → Int32} {t : Nat → Int32} {n i : Nat} {a b : Int32} (ht : s 1 = t) (ha : a.toInt = (tkF t n i : Int)) (hb : b.toInt = (tkE t n i : Int)) (hk : tkK t n i = 1) : wvF (spC s a b) = wv t n i := by
  refine wvF_c (fun w hw => ?_)
  have z := zch_11 w hw
  have zb := zlen_b w (Nat.lt_trans hw (by decide))
  unfold spC isW
  rw [ht, show a.toInt.toNat = tkF t n i by omega, ← z.1]
  constructor
  · intro c
    exact ⟨hk, by omega, fun k hk => (c.2 k hk).trans (z.2 k (by omega))⟩
  · intro c
    exact ⟨by omega, fun k hk => (c.2.2 k hk).trans (z.2 k (by omega)).symm⟩
theorem zmin6 {v c : Int32} {r : Nat} (h : v.toInt = min 1000000 (r : Int)) (hc : 48 ≤ c.toInt ∧ c.toInt ≤ 57) : (zmin 1000000 (v * 10 + c - 48)).toInt = min 1000000 ((10 * r + (c.toInt - 48).toNat : Nat) : Int) := by
  have hv : 0 ≤ v.toInt ∧ v.toInt ≤ 1000000 := by omega
  have m : (v * 10).toInt = 10 * v.toInt := by
    rw [ti_mul]; simp only [Int32.reduceToInt]
    obtain ⟨w, hw⟩ : ∃ w, w = 10 * v.toInt := ⟨_, rfl⟩
    rw [show v.toInt * 10 = w by omega, ← hw]; omega
  have a : (v * 10 + c).toInt = 10 * v.toInt + c.toInt := by
    rw [ti_add, m]
    obtain ⟨w, hw⟩ : ∃ w, w = 10 * v.toInt := ⟨_, rfl⟩
    rw [← hw]; omega
  have b : (v * 10 + c - 48).toInt = 10 * v.toInt + c.toInt - 48 := by
    rw [ti_sub, a]; simp only [Int32.reduceToInt]
    obtain ⟨w, hw⟩ : ∃ w, w = 10 * v.toInt := ⟨_, rfl⟩
    rw [← hw]; omega
  rw [ti_zmin, b]
  simp only [Int32.reduceToInt]
  split <;> omega
end Zq12_3
section Zq12_4
section SPLIT
variable {N : Nat} {σ0 : zS} {x1 x2 : Int32}
/-- only token j of rows 61 to 64 is other -/
def Rw (j : Nat) (σ τ : zS) : Prop := ∀ k, k ≠ j → τ.1 61 k = σ.1 61 k ∧ τ.1 62 k = σ.1 62 k ∧ τ.1 63 k = σ.1 63 k ∧ τ.1 64 k = σ.1 64 k
theorem Rw.rf {j : Nat} {σ : zS} : Rw j σ σ := fun _ _ => ⟨rfl, rfl, rfl, rfl⟩
theorem Rw.tr {j : Nat} {σ τ υ : zS} (h : Rw j σ τ) (h2 : Rw j τ υ) : Rw j σ υ := fun k hk => ⟨(h2 k hk).1.trans (h k hk).1, (h2 k hk).2.1.trans (h k hk).2.1, (h2 k hk).2.2.1.trans (h k hk).2.2.1, (h2 k hk).2.2.2.trans (h k hk).2.2.2⟩
theorem Rw.u61 {j : Nat} {σ τ : zS} {v : Int32} (e : τ = zI σ 61 (upd (σ.1 61) j v)) (t : Tr [61] σ τ) : Rw j σ τ := fun k hk => ⟨zI_atN e hk, congrFun (t.2 62 (by decide)) k, congrFun (t.2 63 (by decide)) k, congrFun (t.2 64 (by decide)) k⟩
theorem Rw.u62 {j : Nat} {σ τ : zS} {v : Int32} (e : τ = zI σ 62 (upd (σ.1 62) j v)) (t : Tr [62] σ τ) : Rw j σ τ := fun k hk => ⟨congrFun (t.2 61 (by decide)) k, zI_atN e hk, congrFun (t.2 63 (by decide)) k, congrFun (t.2 64 (by decide)) k⟩
theorem Rw.u63 {j : Nat} {σ τ : zS} {v : Int32} (e : τ = zI σ 63 (upd (σ.1 63) j v)) (t : Tr [63] σ τ) : Rw j σ τ := fun k hk => ⟨congrFun (t.2 61 (by decide)) k, congrFun (t.2 62 (by decide)) k, zI_atN e hk, congrFun (t.2 64 (by decide)) k⟩
theorem Rw.u64 {j : Nat} {σ τ : zS} {v : Int32} (e : τ = zI σ 64 (upd (σ.1 64) j v)) (t : Tr [64] σ τ) : Rw j σ τ := fun k hk => ⟨congrFun (t.2 61 (by decide)) k, congrFun (t.2 62 (by decide)) k, congrFun (t.2 63 (by decide)) k, zI_atN e hk⟩
theorem TR_c {s s' : Nat → Nat → Int32} {t : Nat → Int32} {n k : Nat} (h61 : s' 61 k = s 61 k) (h62 : s' 62 k = s 62 k) (h63 : s' 63 k = s 63 k) (h64 : s' 64 k = s 64 k) (h : TR s t n k) : TR s' t n k := by
  unfold TR at h ⊢
  rw [h61, h62, h63, h64]; exact h
theorem TR_rw {σ τ : zS} {t : Nat → Int32} {n j k : Nat} (h : Rw j σ τ) (hk : k ≠ j) (hT : TR σ.1 t n k) : TR τ.1 t n k := TR_c (h k hk).1 (h k hk).2.1 (h k hk).2.2.1 (h k hk).2.2.2 hT
/-- what splitWord and splitNumber leave behind -/
def SPQ (kd : Int32) (σ0 : zS) (x1 : Int32) (A : Int32 → Int32 → Prop) (r : Int32 × zS) : Prop := (Tr [61, 62] σ0 r.2 ∧ Rw x1.toNatClampNeg σ0 r.2) ∧ r.2.1 61 x1.toNatClampNeg = kd ∧ ∃ v, r.2.1 62 x1.toNatClampNeg = v ∧ A r.1 v
theorem xs_num_fin {A : Int32 → Int32 → Prop} {x3 x4 : Int32} (hR : RF σ0.2.2) (h1 : 0 ≤ x1.toInt ∧ x1.toInt ≤ 600) (hA : A x3 x4) : Ok (zl (gR 5 10 57 σ0) fun v2 => zl (sI 14 v2 x1 3 σ0) fun σ3 => zl (gR 5 11 57 σ3) fun v4 => zl (sI 14 v4 x1 x4 σ3) fun σ5 => some (x3, σ5)) (SPQ 3 σ0 x1 A) := by
  have hT : Tr [61, 62] σ0 σ0 := Tr.rf
  refine ok_gR (v := 61) hT rfl (hR 57 10 rfl) ?_
  refine ok_s14 (n := 601) hT rfl (by decide) h1.1 (by omega) (fun τ e hO hT => ?_)
  refine ok_gR (v := 62) hT rfl (hR 57 11 rfl) ?_
  refine ok_s14 (n := 601) hT rfl (by decide) h1.1 (by omega) (fun υ f hO2 hT => ?_)
  exact ok_some ⟨⟨hT, (Rw.u61 e hO).tr (Rw.u62 f hO2)⟩, (congrFun (hO2.2 61 (by decide)) _).trans (zI_atI e), x4, zI_atI f, hA⟩
theorem xs_X5_splitNumber (hN : 1048576 ≤ N) (hR : RF σ0.2.2) (hX : σ0.2.2 57 5 = 1) (h1 : 0 ≤ x1.toInt ∧ x1.toInt ≤ 600) (h2 : 0 ≤ x2.toInt ∧ x2.toInt ≤ (σ0.1 57 6).toInt) (h6 : (σ0.1 57 6).toInt ≤ 600) : Ok (f_X5_splitNumber N 57 x1 x2 σ0) (SPQ 3 σ0 x1 (fun a v => a.toInt = (Rn isDg (σ0.1 1) (σ0.1 57 6).toInt.toNat x2.toInt.toNat : Int) ∧ v.toInt = min 1000000 (Nv (σ0.1 1) (σ0.1 57 6).toInt.toNat x2.toInt.toNat 0 : Int))) := by
  rw [f_X5_splitNumber.eq_1]
  refine ok_lp (fun t : Int32 × Int32 × zS => t.2.2 = σ0 ∧ (x2.toInt ≤ t.1.toInt ∧ t.1.toInt ≤ (σ0.1 57 6).toInt) ∧ Rn isDg (σ0.1 1) (σ0.1 57 6).toInt.toNat t.1.toInt.toNat = Rn isDg (σ0.1 1) (σ0.1 57 6).toInt.toNat x2.toInt.toNat ∧ ∃ r : Nat, t.2.1.toInt = min 1000000 (r : Int) ∧ Nv (σ0.1 1) (σ0.1 57 6).toInt.toNat t.1.toInt.toNat r = Nv (σ0.1 1) (σ0.1 57 6).toInt.toNat x2.toInt.toNat 0) (fun t => (600 - t.1.toInt).toNat) (fun again t hI ih => ?_) N _ ⟨rfl, ⟨Int.le_refl _, h2.2⟩, rfl, 0, (by decide : (0 : Int32).toInt = min 1000000 ((0 : Nat) : Int)), rfl⟩ (by show (600 - x2.toInt).toNat < N; omega)
  obtain ⟨x3, x4, σ⟩ := t
  obtain ⟨e, hb, hr, r, hv, hn⟩ := hI
  have e : σ = σ0 := e
  have hb : x2.toInt ≤ x3.toInt ∧ x3.toInt ≤ (σ0.1 57 6).toInt := hb
  have hr : Rn isDg (σ0.1 1) (σ0.1 57 6).toInt.toNat x3.toInt.toNat = Rn isDg (σ0.1 1) (σ0.1 57 6).toInt.toNat x2.toInt.toNat := hr
  have hv : x4.toInt = min 1000000 (r : Int) := hv
  have hn : Nv (σ0.1 1) (σ0.1 57 6).toInt.toNat x3.toInt.toNat r = Nv (σ0.1 1) (σ0.1 57 6).toInt.toNat x2.toInt.toNat 0 := hn
  subst e
  rw [F_X5_splitNumber_5.eq_1]
  refine ok_gI rfl ?_
  refine ok_if (fun hc => ?_) (fun hc => ?_)
  · rw [Int32.le_iff_toInt_le] at hc
    have z : x3.toInt.toNat < (σ.1 57 6).toInt.toNat → ¬ isDg (σ.1 1 x3.toInt.toNat) := fun q => by omega
    exact xs_num_fin hR h1 ⟨by rw [← hr, Rn_e z]; omega, by rw [← hn, Nv_e z]; exact hv⟩
  · rw [Int32.le_iff_toInt_le] at hc
    refine ok_gRX (Sx := []) (σ0 := σ) Tr.rf hX ?_
    refine ok_aIn (n := 600) rfl (by omega) (by omega) (fun v7 e7 => ?_)
    have e7 : v7 = σ.1 1 x3.toInt.toNat := e7
    refine ok_zbX (Q := fun v => (v = 0 → ¬ isDg v7) ∧ (¬ v = 0 → isDg v7)) x_X5_isDigit (fun v8 h8 => ?_)
    refine ok_if (fun h => ?_) (fun h => ?_)
    · have z : x3.toInt.toNat < (σ.1 57 6).toInt.toNat → ¬ isDg (σ.1 1 x3.toInt.toNat) := fun q => by rw [← e7]; exact h8.1 h
      exact xs_num_fin hR h1 ⟨by rw [← hr, Rn_e z]; omega, by rw [← hn, Nv_e z]; exact hv⟩
    · have hd := h8.2 h
      refine ok_gRX (Sx := []) (σ0 := σ) Tr.rf hX ?_
      refine ok_aIn (n := 600) rfl (by omega) (by omega) (fun v9 e9 => ?_)
      have e9 : v9 = σ.1 1 x3.toInt.toNat := e9
      have hs : (x3 + 1).toInt = x3.toInt + 1 := by rw [ti_add]; simp only [Int32.reduceToInt]; omega
      have hj : (x3 + 1).toInt.toNat = x3.toInt.toNat + 1 := by rw [hs]; omega
      rw [e7] at hd
      refine ih (x3 + 1, zmin 1000000 (x4 * 10 + v9 - 48), σ) ⟨rfl, (by rw [hs]; omega : x2.toInt ≤ (x3 + 1).toInt ∧ (x3 + 1).toInt ≤ (σ.1 57 6).toInt), ?_, 10 * r + (v9.toInt - 48).toNat, ?_, ?_⟩ (by show (600 - (x3 + 1).toInt).toNat < (600 - x3.toInt).toNat; rw [hs]; omega)
      · show Rn isDg _ _ (x3 + 1).toInt.toNat = _
        rw [hj, ← hr]; exact (Rn_s (by omega) hd).symm
      · exact zmin6 hv (by rw [e9]; exact hd)
      · show Nv _ _ (x3 + 1).toInt.toNat _ = _
        rw [hj, ← hn, e9]; exact (Nv_s (by omega) hd).symm
theorem xs_word_fin {A : Int32 → Int32 → Prop} {x3 : Int32} (hN : 1048576 ≤ N) (hR : RF σ0.2.2) (hX : σ0.2.2 57 5 = 1) (h1 : 0 ≤ x1.toInt ∧ x1.toInt ≤ 600) (h2 : 0 ≤ x2.toInt) (h3 : x3.toInt ≤ (σ0.1 57 6).toInt) (h6 : (σ0.1 57 6).toInt ≤ 600) (h32 : x2.toInt ≤ x3.toInt) (hA : A x3 (wvF (spC σ0.1 x2 x3))) : Ok (J_X5_splitWord_28 N 57 x1 x2 x3 σ0) (SPQ 2 σ0 x1 A) := by
  have hT : Tr [61, 62] σ0 σ0 := Tr.rf
  rw [J_X5_splitWord_28.eq_1]
  refine ok_gR (v := 61) hT rfl (hR 57 10 rfl) ?_
  refine ok_s14 (n := 601) hT rfl (by decide) h1.1 (by omega) (fun τ e hO hT => ?_)
  refine ok_gR (v := 62) hT rfl (hR 57 11 rfl) ?_
  have e6 : τ.1 57 = σ0.1 57 := hO.2 57 (by decide)
  have e1 : spC τ.1 x2 x3 = spC σ0.1 x2 x3 := by
    funext w
    unfold spC
    rw [hO.2 1 (by decide)]
  refine ok_gC rfl (ok_zbX (σ := τ) (Q := fun v => v = wvF (spC τ.1 x2 x3)) (xs_X5_wordValue hN (hR.tr hT) (hT.1.2 hX) h2 (by rw [e6]; exact h3) (by rw [e6]; exact h6) h32) (fun v hv => ?_))
  rw [e1] at hv
  refine ok_s14 (n := 601) hT rfl (by decide) h1.1 (by omega) (fun υ f hO2 hT => ?_)
  exact ok_some ⟨⟨hT, (Rw.u61 e hO).tr (Rw.u62 f hO2)⟩, (congrFun (hO2.2 61 (by decide)) _).trans (zI_atI e), v, zI_atI f, hv ▸ hA⟩
theorem xs_X5_splitWord (hN : 1048576 ≤ N) (hR : RF σ0.2.2) (hX : σ0.2.2 57 5 = 1) (h1 : 0 ≤ x1.toInt ∧ x1.toInt ≤ 600) (h2 : 0 ≤ x2.toInt ∧ x2.toInt ≤ (σ0.1 57 6).toInt) (h6 : (σ0.1 57 6).toInt ≤ 600) : Ok (f_X5_splitWord N 57 x1 x2 σ0) (SPQ 2 σ0 x1 (fun a v => a.toInt = (Rn isLt (σ0.1 1) (σ0.1 57 6).toInt.toNat x2.toInt.toNat : Int) ∧ v = wvF (spC σ0.1 x2 a))) := by
  rw [f_X5_splitWord.eq_1]
  refine ok_lp (fun t : Int32 × zS => t.2 = σ0 ∧ (x2.toInt ≤ t.1.toInt ∧ t.1.toInt ≤ (σ0.1 57 6).toInt) ∧ Rn isLt (σ0.1 1) (σ0.1 57 6).toInt.toNat t.1.toInt.toNat = Rn isLt (σ0.1 1) (σ0.1 57 6).toInt.toNat x2.toInt.toNat) (fun t => (600 - t.1.toInt).toNat) (fun again t hI ih => ?_) N _ ⟨rfl, ⟨Int.le_refl _, h2.2⟩, rfl⟩ (by show (600 - x2.toInt).toNat < N; omega)
  obtain ⟨x3, σ⟩ := t
  obtain ⟨e, hb, hr⟩ := hI
  have e : σ = σ0 := e
  have hb : x2.toInt ≤ x3.toInt ∧ x3.toInt ≤ (σ0.1 57 6).toInt := hb
  have hr : Rn isLt (σ0.1 1) (σ0.1 57 6).toInt.toNat x3.toInt.toNat = Rn isLt (σ0.1 1) (σ0.1 57 6).toInt.toNat x2.toInt.toNat := hr
  subst e
  rw [F_X5_splitWord_2.eq_1]
  refine ok_gI rfl ?_
  refine ok_if (fun hc => ?_) (fun hc => ?_)
  · rw [Int32.le_iff_toInt_le] at hc
    have z : x3.toInt.toNat < (σ.1 57 6).toInt.toNat → ¬ isLt (σ.1 1 x3.toInt.toNat) := fun q => by omega
    exact xs_word_fin hN hR hX h1 h2.1 hb.2 h6 hb.1 ⟨by rw [← hr, Rn_e z]; omega, rfl⟩
  · rw [Int32.le_iff_toInt_le] at hc
    refine ok_gRX (Sx := []) (σ0 := σ) Tr.rf hX ?_
    refine ok_aIn (n := 600) rfl (by omega) (by omega) (fun v7 e7 => ?_)
    have e7 : v7 = σ.1 1 x3.toInt.toNat := e7
    refine ok_zbX (Q := fun v => (v = 0 → ¬ isLt v7) ∧ (¬ v = 0 → isLt v7)) x_X5_isLetter (fun v8 h8 => ?_)
    refine ok_if (fun h => ?_) (fun h => ?_)
    · have z : x3.toInt.toNat < (σ.1 57 6).toInt.toNat → ¬ isLt (σ.1 1 x3.toInt.toNat) := fun q => by rw [← e7]; exact h8.1 h
      exact xs_word_fin hN hR hX h1 h2.1 hb.2 h6 hb.1 ⟨by rw [← hr, Rn_e z]; omega, rfl⟩
    · have hd := h8.2 h
      have hs : (x3 + 1).toInt = x3.toInt + 1 := by rw [ti_add]; simp only [Int32.reduceToInt]; omega
      have hj : (x3 + 1).toInt.toNat = x3.toInt.toNat + 1 := by rw [hs]; omega
      rw [e7] at hd
      refine ih (x3 + 1, σ) ⟨rfl, (by rw [hs]; omega : x2.toInt ≤ (x3 + 1).toInt ∧ (x3 + 1).toInt ≤ (σ.1 57 6).toInt), ?_⟩ (by show (600 - (x3 + 1).toInt).toNat < (600 - x3.toInt).toNat; rw [hs]; omega)
      show Rn isLt _ _ (x3 + 1).toInt.toNat = _
      rw [hj, ← hr]; exact (Rn_s (by omega) hd).symm
end SPLIT
end Zq12_4
section Zq12_5
theorem tk_fe {t : Nat → Int32} {n i : Nat} (h : i ≤ n) (hk : ¬ tkK t n i = 0) : tkF t n i < tkE t n i := by
  have q : tkF t n i < n := by
    by_cases q : tkF t n i < n
    · exact q
    · exact absurd (tk_0 rfl q).1 hk
  unfold tkE
  simp only [if_pos q]
  split
  · rename_i l
    have := Rn_b (p := isLt) (t := t) (n := n) (i := tkF t n i + 1) (by omega)
    rw [Rn_s q l]; omega
  · split
    · rename_i l
      have := Rn_b (p := isDg) (t := t) (n := n) (i := tkF t n i + 1) (by omega)
      rw [Rn_s q l]; omega
    · omega
section SPLIT2
variable {N : Nat} {σ0 : zS}
def SI4 (T : Nat → Int32) (n : Nat) (σ0 : zS) (x1 x2 : Int32) (σ : zS) : Prop := Tr [61, 62, 63, 64] σ0 σ ∧ ((0 ≤ x1.toInt ∧ x1.toInt ≤ x2.toInt) ∧ x2.toInt ≤ (n : Int)) ∧ Rn isSp T n (Pk T n x1.toInt.toNat) = Rn isSp T n x2.toInt.toNat ∧ ∀ k, k < x1.toInt.toNat → ¬ tkK T n (Pk T n k) = 0 ∧ TR σ.1 T n k
theorem sp_next {T : Nat → Int32} {n : Nat} {x1 x2 v w : Int32} {σ τ : zS} (hn : n ≤ 600) (h : SI4 T n σ0 x1 x2 σ) (hT : Tr [61, 62, 63, 64] σ0 τ) (hf : tkF T n (Pk T n x1.toInt.toNat) = x2.toInt.toNat) (hw : Rw x1.toNatClampNeg σ τ) (h61 : τ.1 61 x1.toNatClampNeg = ck (tkK T n (Pk T n x1.toInt.toNat))) (h63 : τ.1 63 x1.toNatClampNeg = x2) (h64 : τ.1 64 x1.toNatClampNeg = v) (hv : v.toInt = (tkE T n (Pk T n x1.toInt.toNat) : Int)) (h62 : τ.1 62 x1.toNatClampNeg = w) (hA : tkK T n (Pk T n x1.toInt.toNat) = 2 → w.toInt = min 1000000 (Nv T n x2.toInt.toNat 0 : Int)) (hB : tkK T n (Pk T n x1.toInt.toNat) = 1 → w = wv T n (Pk T n x1.toInt.toNat)) (hk : ¬ tkK T n (Pk T n x1.toInt.toNat) = 0) : SI4 T n σ0 (x1 + 1) v τ ∧ x2.toInt < v.toInt ∧ (x1 + 1).toInt = x1.toInt + 1 := by
  obtain ⟨_, hb, _, hI⟩ := h
  have hp := Pk_le (t := T) (n := n) x1.toInt.toNat
  have h1 := tk_fe hp hk
  have h2 := (tk_le (t := T) hp).2.2
  have hs : (x1 + 1).toInt = x1.toInt + 1 := by rw [ti_add]; simp only [Int32.reduceToInt]; omega
  have hj : (x1 + 1).toInt.toNat = x1.toInt.toNat + 1 := by rw [hs]; omega
  have hc : x1.toNatClampNeg = x1.toInt.toNat := rfl
  refine ⟨⟨hT, ⟨⟨by omega, by omega⟩, by omega⟩, ?_, fun k hk' => ?_⟩, by omega, hs⟩
  · rw [hj]
    show Rn isSp T n (tkE T n (Pk T n x1.toInt.toNat)) = _
    rw [show v.toInt.toNat = tkE T n (Pk T n x1.toInt.toNat) by omega]
  · rw [hj] at hk'
    by_cases q : k = x1.toInt.toNat
    · subst q
      refine ⟨hk, ?_⟩
      unfold TR
      rw [← hc, h61, h63, h64, h62, hc, hf]
      exact ⟨⟨rfl, by omega, hv⟩, hA, hB⟩
    · exact ⟨(hI k (by omega)).1, TR_rw hw (by rw [hc]; exact q) (hI k (by omega)).2⟩
theorem sp_end {T : Nat → Int32} {n : Nat} {x1 x2 : Int32} {σ : zS} (hR : RF σ0.2.2) (hn : (σ0.1 57 6).toInt = (n : Int)) (hT0 : σ0.1 1 = T) (h6 : n ≤ 600) (h : SI4 T n σ0 x1 x2 σ) (hx : (n : Int) ≤ x2.toInt) : Ok (J_X5_split_142 N 57 x1 σ) (fun r => Tr [61, 62, 63, 64] σ0 r.2 ∧ ∃ c, CT r.2.1 T n c) := by
  obtain ⟨hT, hb, hr, hI⟩ := h
  have hf : tkF T n (Pk T n x1.toInt.toNat) = n := by
    refine hr.trans ?_
    rw [show x2.toInt.toNat = n by omega]
    exact Rn_e (fun q => absurd q (Nat.lt_irrefl _))
  have hk := tk_0 hf (Nat.lt_irrefl _)
  rw [J_X5_split_142.eq_1]
  refine ok_gR (v := 61) hT rfl (hR 57 10 rfl) ?_
  refine ok_s14 (n := 601) hT rfl (by decide) hb.1.1 (by omega) (fun τ e hO hT => ?_)
  refine ok_gR (v := 63) hT rfl (hR 57 12 rfl) ?_
  refine ok_gI rfl ?_
  rw [hT.2 57 (by decide)]
  refine ok_s14 (n := 601) hT rfl (by decide) hb.1.1 (by omega) (fun υ f hO2 hT => ?_)
  refine ok_gR (v := 64) hT rfl (hR 57 13 rfl) ?_
  refine ok_gI rfl ?_
  rw [hT.2 57 (by decide)]
  refine ok_s14 (n := 601) hT rfl (by decide) hb.1.1 (by omega) (fun ρ g hO3 hT => ?_)
  have hw : Rw x1.toNatClampNeg σ ρ := ((Rw.u61 e hO).tr (Rw.u63 f hO2)).tr (Rw.u64 g hO3)
  refine ok_some ⟨hT, x1.toInt.toNat, ⟨(hT.2 1 (by decide)).trans hT0, h6, by omega⟩, fun k q => (hI k q).1, hk.1, fun k q => ?_⟩
  have hc : x1.toNatClampNeg = x1.toInt.toNat := rfl
  by_cases z : k = x1.toInt.toNat
  · subst z
    unfold TR
    rw [hk.1, hk.2, hf]
    refine ⟨⟨?_, ?_, ?_⟩, fun q => absurd q (by decide), fun q => absurd q (by decide)⟩
    · exact ((congrFun (hO3.2 61 (by decide)) _).trans (congrFun (hO2.2 61 (by decide)) _)).trans (zI_atI e)
    · exact (congrArg Int32.toInt (show ρ.1 63 x1.toNatClampNeg = σ0.1 57 6 from (congrFun (hO3.2 63 (by decide)) _).trans (zI_atI f))).trans hn
    · exact (congrArg Int32.toInt (show ρ.1 64 x1.toNatClampNeg = σ0.1 57 6 from zI_atI g)).trans hn
  · exact TR_rw hw (by rw [hc]; exact z) (hI k (by omega)).2
theorem xs_X5_split {T : Nat → Int32} {n : Nat} (hN : 1048576 ≤ N) (hR : RF σ0.2.2) (hX : σ0.2.2 57 5 = 1) (hn : (σ0.1 57 6).toInt = (n : Int)) (hT0 : σ0.1 1 = T) (h6 : n ≤ 600) : Ok (f_X5_split N 57 σ0) (fun r => Tr [61, 62, 63, 64] σ0 r.2 ∧ ∃ c, CT r.2.1 T n c) := by
  rw [f_X5_split.eq_1]
  refine ok_lp (fun t : Int32 × Int32 × zS => SI4 T n σ0 t.1 t.2.1 t.2.2) (fun t => (601 - t.1.toInt).toNat + (601 - t.2.1.toInt).toNat) (fun again t hI ih => ?_) N _ ⟨Tr.rf, (by simp only [Int32.reduceToInt]; omega : ((0 : Int) ≤ (0 : Int32).toInt ∧ (0 : Int32).toInt ≤ (0 : Int32).toInt) ∧ (0 : Int32).toInt ≤ (n : Int)), rfl, fun k hk => absurd hk (Nat.not_lt_zero _)⟩ (by simp only [Int32.reduceToInt]; omega)
  obtain ⟨x1, x2, σ⟩ := t
  have hI : SI4 T n σ0 x1 x2 σ := hI
  have ih : ∀ y1 y2 τ, SI4 T n σ0 y1 y2 τ → (601 - y1.toInt).toNat + (601 - y2.toInt).toNat < (601 - x1.toInt).toNat + (601 - x2.toInt).toNat → Ok (again (y1, y2, τ)) (fun r => Tr [61, 62, 63, 64] σ0 r.2 ∧ ∃ c, CT r.2.1 T n c) := fun y1 y2 τ a b => ih (y1, y2, τ) a b
  have hT := hI.1
  have hb := hI.2.1
  have e57 : σ.1 57 = σ0.1 57 := hT.2 57 (by decide)
  have e1 : σ.1 1 = T := (hT.2 1 (by decide)).trans hT0
  rw [F_X5_split_4.eq_1]
  refine ok_gI rfl ?_
  rw [e57]
  refine ok_if (fun hc => sp_end hR hn hT0 h6 hI (by rw [Int32.le_iff_toInt_le] at hc; omega)) (fun hc => ?_)
  rw [Int32.le_iff_toInt_le] at hc
  refine ok_if (fun hc2 => absurd hc2 (by rw [Int32.le_iff_toInt_le]; simp only [Int32.reduceToInt]; omega)) (fun hc2 => ?_)
  have hX' := hT.1.2 hX
  have hs : (x2 + 1).toInt = x2.toInt + 1 := by rw [ti_add]; simp only [Int32.reduceToInt]; omega
  have hj : (x2 + 1).toInt.toNat = x2.toInt.toNat + 1 := by rw [hs]; omega
  have sp : isSp (T x2.toInt.toNat) → Ok (again (x1, x2 + 1, σ)) (fun r => Tr [61, 62, 63, 64] σ0 r.2 ∧ ∃ c, CT r.2.1 T n c) := fun q => ih x1 (x2 + 1) σ ⟨hT, ⟨⟨hb.1.1, by omega⟩, by omega⟩, by rw [hj, hI.2.2.1]; exact Rn_s (by omega) q, hI.2.2.2⟩ (by omega)
  refine ok_gRX hT hX ?_
  refine ok_aIn (n := 600) rfl (by omega) (by omega) (fun v e => ?_)
  have e : v = T x2.toInt.toNat := by rw [e, e1]; rfl
  refine ok_if (fun q => sp (Or.inl (by rw [← e, q]; rfl))) (fun n32 => ?_)
  refine ok_gRX hT hX ?_
  refine ok_aIn (n := 600) rfl (by omega) (by omega) (fun v2 e2 => ?_)
  have e2 : v2 = T x2.toInt.toNat := by rw [e2, e1]; rfl
  refine ok_if (fun q => sp (Or.inr (by rw [← e2, q]; rfl))) (fun n10 => ?_)
  have ns : ¬ isSp (T x2.toInt.toNat) := fun q => by
    rcases q with q | q
    · exact n32 (by rw [e]; exact Int32.toInt_inj.mp q)
    · exact n10 (by rw [e2]; exact Int32.toInt_inj.mp q)
  have hf : tkF T n (Pk T n x1.toInt.toNat) = x2.toInt.toNat := hI.2.2.1.trans (Rn_e (fun _ => ns))
  have hl : x2.toInt.toNat < n := by omega
  have hx1 : 0 ≤ x1.toInt ∧ x1.toInt ≤ 600 := by omega
  refine ok_gR (v := 63) hT rfl (hR 57 12 rfl) ?_
  refine ok_s14 (n := 601) hT rfl (by decide) hb.1.1 (by omega) (fun τ f hO hT => ?_)
  have t57 : τ.1 57 = σ0.1 57 := hT.2 57 (by decide)
  have t1 : τ.1 1 = T := (hT.2 1 (by decide)).trans hT0
  have a63 : τ.1 63 x1.toNatClampNeg = x2 := zI_atI f
  have w63 : Rw x1.toNatClampNeg σ τ := Rw.u63 f hO
  refine ok_gRX hT hX ?_
  refine ok_aIn (n := 600) rfl (by omega) (by omega) (fun v3 e3 => ?_)
  have e3 : v3 = T x2.toInt.toNat := by rw [e3, t1]; rfl
  refine ok_zbX (Q := fun v => (v = 0 → ¬ isLt v3) ∧ (¬ v = 0 → isLt v3)) x_X5_isLetter (fun v4 h4 => ?_)
  refine ok_if (fun h => ?_) (fun h => ?_)
  · have nl := h4.1 h
    rw [e3] at nl
    refine ok_gRX hT hX ?_
    refine ok_aIn (n := 600) rfl (by omega) (by omega) (fun v5 e5 => ?_)
    have e5 : v5 = T x2.toInt.toNat := by rw [e5, t1]; rfl
    refine ok_zbX (Q := fun v => (v = 0 → ¬ isDg v5) ∧ (¬ v = 0 → isDg v5)) x_X5_isDigit (fun v6 h6' => ?_)
    refine ok_if (fun h => ?_) (fun h => ?_)
    · have nd := h6'.1 h
      rw [e5] at nd
      have tk := tk_3 hf hl nl nd
      refine ok_gR (v := 61) hT rfl (hR 57 10 rfl) ?_
      refine ok_gRX hT hX ?_
      refine ok_aIn (n := 600) rfl (by omega) (by omega) (fun v7 e7 => ?_)
      have e7 : v7 = T x2.toInt.toNat := by rw [e7, t1]; rfl
      refine ok_zbX (Q := fun v => (v = 0 → ¬ sgn v7) ∧ (¬ v = 0 → sgn v7)) x_X5_isSign (fun v8 h8 => ?_)
      refine ok_if (fun h => ?_) (fun h => ?_)
      · have nS := h8.1 h
        rw [e7] at nS
        rw [if_neg nS] at tk
        refine ok_s14 (n := 601) hT rfl (by decide) hb.1.1 (by omega) (fun υ g hO2 hT => ?_)
        refine ok_gR (v := 64) hT rfl (hR 57 13 rfl) ?_
        refine ok_s14 (n := 601) hT rfl (by decide) hb.1.1 (by omega) (fun ρ g3 hO3 hT => ?_)
        have z := sp_next (w := ρ.1 62 x1.toNatClampNeg) h6 hI hT hf ((w63.tr (Rw.u61 g hO2)).tr (Rw.u64 g3 hO3)) (((congrFun (hO3.2 61 (by decide)) _).trans (zI_atI g)).trans (by rw [tk.1]; rfl)) (((congrFun (hO3.2 63 (by decide)) _).trans (congrFun (hO2.2 63 (by decide)) _)).trans a63) (zI_atI g3) (by rw [tk.2, hs]; omega) rfl (fun q => absurd (tk.1.symm.trans q) (by decide)) (fun q => absurd (tk.1.symm.trans q) (by decide)) (by rw [tk.1]; decide)
        exact ih _ _ _ z.1 (by omega)
      · have nS := h8.2 h
        rw [e7] at nS
        rw [if_pos nS] at tk
        have sb := sg_b nS
        have ne : ∀ y : Int32, y.toInt < 35 → ¬ T x2.toInt.toNat = y := fun y hy q => by rw [q] at sb; omega
        refine ok_gRX hT hX ?_
        refine ok_aIn (n := 600) rfl (by omega) (by omega) (fun v9 e9 => ?_)
        have e9 : v9 = T x2.toInt.toNat := by rw [e9, t1]; rfl
        refine ok_s14 (n := 601) hT rfl (by decide) hb.1.1 (by omega) (fun υ g hO2 hT => ?_)
        refine ok_gR (v := 64) hT rfl (hR 57 13 rfl) ?_
        refine ok_s14 (n := 601) hT rfl (by decide) hb.1.1 (by omega) (fun ρ g3 hO3 hT => ?_)
        have z := sp_next (w := ρ.1 62 x1.toNatClampNeg) h6 hI hT hf ((w63.tr (Rw.u61 g hO2)).tr (Rw.u64 g3 hO3)) (((congrFun (hO3.2 61 (by decide)) _).trans (zI_atI g)).trans (by rw [tk.1, e9]; exact ((ck_s (by omega)).mpr rfl).symm)) (((congrFun (hO3.2 63 (by decide)) _).trans (congrFun (hO2.2 63 (by decide)) _)).trans a63) (zI_atI g3) (by rw [tk.2, hs]; omega) rfl (fun q => absurd (tk.1.symm.trans q) (ne 2 (by decide))) (fun q => absurd (tk.1.symm.trans q) (ne 1 (by decide))) (by rw [tk.1]; exact ne 0 (by decide))
        exact ih _ _ _ z.1 (by omega)
    · have nd := h6'.2 h
      rw [e5] at nd
      have tk := tk_2 hf hl nd
      refine ok_gC rfl (ok_zb (xs_X5_splitNumber hN (hR.tr hT) (hT.1.2 hX) hx1 (by rw [t57]; omega) (by rw [t57]; omega)) (fun v8 υ h8 => ?_))
      obtain ⟨⟨hO2, w2⟩, k61, w, k62, ev, ew⟩ := h8
      have hT := hT.up hO2 (by decide)
      rw [t57, t1, hn, Int.toNat_natCast] at ev ew
      refine ok_gR (v := 64) hT rfl (hR 57 13 rfl) ?_
      refine ok_s14 (n := 601) hT rfl (by decide) hb.1.1 (by omega) (fun ρ g3 hO3 hT => ?_)
      have z := sp_next (w := w) h6 hI hT hf ((w63.tr w2).tr (Rw.u64 g3 hO3)) (((congrFun (hO3.2 61 (by decide)) _).trans k61).trans (by rw [tk.1]; rfl)) (((congrFun (hO3.2 63 (by decide)) _).trans (congrFun (hO2.2 63 (by decide)) _)).trans a63) (zI_atI g3) (by rw [tk.2]; exact ev) ((congrFun (hO3.2 62 (by decide)) _).trans k62) (fun _ => ew) (fun q => absurd (tk.1.symm.trans q) (by decide)) (by rw [tk.1]; decide)
      exact ih _ _ _ z.1 (by omega)
  · have nl := h4.2 h
    rw [e3] at nl
    have tk := tk_1 hf hl nl
    refine ok_gC rfl (ok_zb (xs_X5_splitWord hN (hR.tr hT) (hT.1.2 hX) hx1 (by rw [t57]; omega) (by rw [t57]; omega)) (fun v8 υ h8 => ?_))
    obtain ⟨⟨hO2, w2⟩, k61, w, k62, ev, ew⟩ := h8
    have hT := hT.up hO2 (by decide)
    rw [t57, t1, hn, Int.toNat_natCast] at ev
    refine ok_gR (v := 64) hT rfl (hR 57 13 rfl) ?_
    refine ok_s14 (n := 601) hT rfl (by decide) hb.1.1 (by omega) (fun ρ g3 hO3 hT => ?_)
    have ev' : v8.toInt = (tkE T n (Pk T n x1.toInt.toNat) : Int) := by rw [tk.2]; exact ev
    have z := sp_next (w := w) h6 hI hT hf ((w63.tr w2).tr (Rw.u64 g3 hO3)) (((congrFun (hO3.2 61 (by decide)) _).trans k61).trans (by rw [tk.1]; rfl)) (((congrFun (hO3.2 63 (by decide)) _).trans (congrFun (hO2.2 63 (by decide)) _)).trans a63) (zI_atI g3) ev' ((congrFun (hO3.2 62 (by decide)) _).trans k62) (fun q => absurd (tk.1.symm.trans q) (by decide)) (fun _ => ew.trans (spC_w t1 (by rw [hf]; omega) ev' tk.1)) (by rw [tk.1]; decide)
    exact ih _ _ _ z.1 (by omega)
end SPLIT2
end Zq12_5
section Zq12_6
/-! ===== the class's reading: what is the same ===== -/
def CB (σ : zS) (t : Nat → Int32) (n c : Nat) : Prop := (RF σ.2.2 ∧ σ.2.2 57 5 = 1) ∧ CT σ.1 t n c ∧ (σ.1 57 6).toInt = (n : Int)
/-- length and names stay -/
def Fr (σ τ : zS) : Prop := Tr [57, 58, 59] σ τ ∧ τ.1 57 6 = σ.1 57 6 ∧ τ.1 57 7 = σ.1 57 7
def F8 (σ τ : zS) : Prop := Fr σ τ ∧ τ.1 57 8 = σ.1 57 8
theorem Fr.rf {σ : zS} : Fr σ σ := ⟨Tr.rf, rfl, rfl⟩
theorem F8.rf {σ : zS} : F8 σ σ := ⟨Fr.rf, rfl⟩
theorem Fr.tr {σ τ υ : zS} (h : Fr σ τ) (h2 : Fr τ υ) : Fr σ υ := ⟨h.1.up h2.1 (fun _ q => q), h2.2.1.trans h.2.1, h2.2.2.trans h.2.2⟩
theorem F8.tr {σ τ υ : zS} (h : F8 σ τ) (h2 : F8 τ υ) : F8 σ υ := ⟨h.1.tr h2.1, h2.2.trans h.2⟩
section CREAD
variable {N : Nat} {σ τ : zS} {t : Nat → Int32} {n c i : Nat}
theorem CB_fr (h : Fr σ τ) (hB : CB σ t n c) : CB τ t n c := ⟨⟨hB.1.1.tr h.1, h.1.1.2 hB.1.2⟩, CT_tr h.1 (by decide) (by decide) (by decide) (by decide) (by decide) hB.2.1, by rw [h.2.1]; exact hB.2.2⟩
theorem F8_p {j : Nat} {v : Int32} (e : τ = zI σ 57 (upd (σ.1 57) j v)) (hO : Tr [57] σ τ) (h6 : 6 ≠ j) (h7 : 7 ≠ j) (h8 : 8 ≠ j) : F8 σ τ := ⟨⟨hO.wk (by decide), zI_atN e h6, zI_atN e h7⟩, zI_atN e h8⟩
theorem xa_0 {x2 : Int32} (hB : CB σ t n c) (hA : CA (σ.1 57 9) t n c i) : Ok (f_X5_advance N 57 0 x2 σ) (fun r => r.1 = 0 ∧ F8 σ r.2) := by
  have hb := CA_b hA hB.2.1.1.2.2
  rw [f_X5_advance.eq_1]
  refine ok_if (fun _ => ?_) (fun q => absurd rfl q)
  refine ok_pI (Sx := [57]) Tr.rf rfl (by decide) (fun τ e hO hT => ?_)
  have a9 : τ.1 57 9 = σ.1 57 9 := zI_atN e (by decide)
  refine ok_gR (v := 63) hT rfl (hB.1.1 57 12 rfl) ?_
  refine ok_gI rfl ?_
  rw [a9]
  refine ok_aIn (n := 601) rfl hb.1 (by omega) (fun v _ => ?_)
  refine ok_pI hT rfl (by decide) (fun υ f hO2 hT => ?_)
  exact ok_rZ (Or.inl rfl) ⟨rfl, (F8_p e hO (by decide) (by decide) (by decide)).tr (F8_p f hO2 (by decide) (by decide) (by decide))⟩
theorem xa_1 {x2 : Int32} (hB : CB σ t n c) (hA : CA (σ.1 57 9) t n c i) (hk : ¬ tkK t n i = 0) : Ok (f_X5_advance N 57 1 x2 σ) (fun r => r.1 = 1 ∧ F8 σ r.2 ∧ CA (r.2.1 57 9) t n c (tkE t n i) ∧ (r.2.1 57 9).toInt = (σ.1 57 9).toInt + 1) := by
  have hb := CA_b hA hB.2.1.1.2.2
  have row := CA_row hB.2.1 hA
  rw [f_X5_advance.eq_1]
  refine ok_if (fun q => absurd q (by decide)) (fun _ => ?_)
  refine ok_gR (Sx := []) (v := 61) Tr.rf rfl (hB.1.1 57 10 rfl) ?_
  refine ok_gI rfl ?_
  refine ok_aIn (n := 601) rfl hb.1 (by omega) (fun v e => ?_)
  refine ok_if (fun q => absurd (ck_0.mp ((row.1.1.symm.trans (e.symm)).trans q)) hk) (fun _ => ?_)
  refine ok_gI rfl ?_
  have lt : (σ.1 57 9).toInt < 600 := by
    obtain ⟨j, hj, hc, hp⟩ := hA
    have := hB.2.1.1.2.2
    by_cases q : j = c
    · rw [q] at hp; rw [← hp] at hk; exact absurd hB.2.1.2.2.1 hk
    · omega
  have hs : (σ.1 57 9 + 1).toInt = (σ.1 57 9).toInt + 1 := by rw [ti_add]; simp only [Int32.reduceToInt]; omega
  refine ok_if (fun q => absurd q (by rw [Int32.le_iff_toInt_le]; simp only [Int32.reduceToInt]; omega)) (fun _ => ?_)
  refine ok_gI rfl ?_
  refine ok_pI (Sx := [57]) Tr.rf rfl (by decide) (fun τ f hO hT => ?_)
  have a9 : τ.1 57 9 = σ.1 57 9 + 1 := zI_atI f
  exact ok_rZ (Or.inr rfl) ⟨rfl, F8_p f hO (by decide) (by decide) (by decide), by show CA (τ.1 57 9) t n c _; rw [a9]; exact CA_next hB.2.1 hA hk hs, by show (τ.1 57 9).toInt = _; rw [a9]; exact hs⟩
theorem xs_fail {x1 : Int32} (hB : CB σ t n c) (hA : CA (σ.1 57 9) t n c i) : Ok (f_X5_fail N 57 x1 σ) (fun r => r.1 = 0 ∧ F8 σ r.2) := by
  rw [f_X5_fail.eq_1]
  refine ok_gC rfl (ok_zb (xa_0 hB hA) (fun v τ h => ?_))
  have h1 : v = 0 := h.1
  exact ok_rZ (Or.inl h1) h
theorem xs_pass {x1 : Int32} (hB : CB σ t n c) (hA : CA (σ.1 57 9) t n c i) (hx : ¬ x1 = 0) : Ok (f_X5_pass N 57 x1 σ) (fun r => F8 σ r.2 ∧ ((r.1 = 1 ∧ ck (tkK t n i) = x1 ∧ CA (r.2.1 57 9) t n c (tkE t n i)) ∨ (r.1 = 0 ∧ ¬ ck (tkK t n i) = x1))) := by
  have hb := CA_b hA hB.2.1.1.2.2
  have row := CA_row hB.2.1 hA
  rw [f_X5_pass.eq_1]
  refine ok_gR (Sx := []) (v := 61) Tr.rf rfl (hB.1.1 57 10 rfl) ?_
  refine ok_gI rfl ?_
  refine ok_aIn (n := 601) rfl hb.1 (by omega) (fun v e => ?_)
  have e : v = ck (tkK t n i) := e.trans row.1.1
  refine ok_if (fun q => ?_) (fun q => ?_)
  · refine ok_gC rfl (ok_zb (xa_1 hB hA (fun z => hx (q.symm.trans (e.trans (ck_0.mpr z))))) (fun w τ h => ?_))
    have h1 : w = 1 := h.1
    exact ok_rZ (Or.inr h1) ⟨h.2.1, Or.inl ⟨h1, e.symm.trans q, h.2.2.1⟩⟩
  · refine ok_gC rfl (ok_zb (xa_0 hB hA) (fun w τ h => ?_))
    have h1 : w = 0 := h.1
    exact ok_rZ (Or.inl h1) ⟨h.2, Or.inr ⟨h1, fun z => q (e.trans z)⟩⟩
theorem xs_passNumber {x1 x2 : Int32} (hB : CB σ t n c) (hA : CA (σ.1 57 9) t n c i) (hx : x2.toInt ≤ 99) : Ok (f_X5_passNumber N 57 x1 x2 σ) (fun r => F8 σ r.2 ∧ ((r.1 = 1 ∧ (nOK t n i x1 x2 ∧ CA (r.2.1 57 9) t n c (tkE t n i)) ∧ 1 ≤ (r.2.1 57 9).toInt ∧ (lastv r.2.1).toInt = nv5 t n i) ∨ (r.1 = 0 ∧ ¬ nOK t n i x1 x2))) := by
  have hb := CA_b hA hB.2.1.1.2.2
  have row := CA_row hB.2.1 hA
  rw [f_X5_passNumber.eq_1]
  refine ok_gR (Sx := []) (v := 61) Tr.rf rfl (hB.1.1 57 10 rfl) ?_
  refine ok_gI rfl ?_
  refine ok_aIn (n := 601) rfl hb.1 (by omega) (fun v e => ?_)
  have e : v = ck (tkK t n i) := e.trans row.1.1
  refine ok_if (fun q => ?_) (fun q => ?_)
  · have hk : tkK t n i = 2 := ck_n.mp (e.symm.trans q)
    have hv := row.2.1 hk
    refine ok_gR (Sx := []) (v := 62) Tr.rf rfl (hB.1.1 57 11 rfl) ?_
    refine ok_gI rfl ?_
    refine ok_aIn (n := 601) rfl hb.1 (by omega) (fun v6 e6 => ?_)
    rw [← e6] at hv
    refine ok_if (fun q1 => ?_) (fun q1 => ?_)
    · rw [Int32.lt_iff_toInt_lt] at q1
      refine ok_gC rfl (ok_zb (xa_0 hB hA) (fun w τ h => ?_))
      have h1 : w = 0 := h.1
      refine ok_rZ (Or.inl h1) ⟨h.2, Or.inr ⟨h1, fun z => ?_⟩⟩
      have z1 := z.2.1
      have z2 := z.2.2
      omega
    · rw [Int32.lt_iff_toInt_lt] at q1
      refine ok_gR (Sx := []) (v := 62) Tr.rf rfl (hB.1.1 57 11 rfl) ?_
      refine ok_gI rfl ?_
      refine ok_aIn (n := 601) rfl hb.1 (by omega) (fun v7 e7 => ?_)
      have e76 : v7 = v6 := e7.trans e6.symm
      subst e76
      refine ok_if (fun q2 => ?_) (fun q2 => ?_)
      · rw [Int32.lt_iff_toInt_lt] at q2
        refine ok_gC rfl (ok_zb (xa_0 hB hA) (fun w τ h => ?_))
        have h1 : w = 0 := h.1
        refine ok_rZ (Or.inl h1) ⟨h.2, Or.inr ⟨h1, fun z => ?_⟩⟩
        have z1 := z.2.1
        have z2 := z.2.2
        omega
      · rw [Int32.lt_iff_toInt_lt] at q2
        refine ok_gC rfl (ok_zb (xa_1 hB hA (by rw [hk]; decide)) (fun w τ h => ?_))
        obtain ⟨h1, h2, h3, h4⟩ := h
        have h1 : w = 1 := h1
        have h4 : (τ.1 57 9).toInt = (σ.1 57 9).toInt + 1 := h4
        refine ok_rZ (Or.inr h1) ⟨h2, Or.inl ⟨h1, ⟨⟨hk, by omega, by omega⟩, h3⟩, by show 1 ≤ (τ.1 57 9).toInt; omega, ?_⟩⟩
        have el : lastv τ.1 = σ.1 62 (σ.1 57 9).toNatClampNeg := by
          unfold lastv
          rw [h2.1.1.2 62 (by decide), h4, show ((σ.1 57 9).toInt + 1 - 1).toNat = (σ.1 57 9).toInt.toNat by omega]
          rfl
        show (lastv τ.1).toInt = _
        rw [el, ← e7]
        unfold nv5
        omega
  · refine ok_gC rfl (ok_zb (xs_fail hB hA) (fun w τ h => ?_))
    have h1 : w = 0 := h.1
    exact ok_rZ (Or.inl h1) ⟨h.2, Or.inr ⟨h1, fun z => q (e.trans (ck_n.mpr z.1))⟩⟩
theorem xs_passed (hB : CB σ t n c) (hA : CA (σ.1 57 9) t n c i) (h1 : 1 ≤ (σ.1 57 9).toInt) : Ok (f_X5_passed N 57 σ) (fun r => r.2 = σ ∧ r.1 = lastv σ.1) := by
  have hb := CA_b hA hB.2.1.1.2.2
  have hs : (σ.1 57 9 - 1).toInt = (σ.1 57 9).toInt - 1 := by rw [ti_sub]; simp only [Int32.reduceToInt]; omega
  rw [f_X5_passed.eq_1]
  refine ok_gI rfl ?_
  refine ok_if (fun q => absurd q (by rw [Int32.le_iff_toInt_le]; simp only [Int32.reduceToInt]; omega)) (fun _ => ?_)
  refine ok_gR (Sx := []) (v := 62) Tr.rf rfl (hB.1.1 57 11 rfl) ?_
  refine ok_gI rfl ?_
  refine ok_aIn (n := 601) rfl (by omega) (by omega) (fun v e => ok_some ⟨rfl, ?_⟩)
  exact e.trans (lastv_at h1)
/-- the number of the token and the signs stay, too -/
def F9 (σ τ : zS) : Prop := F8 σ τ ∧ τ.1 57 9 = σ.1 57 9
theorem xs_emit {x1 x2 : Int32} (hB : CB σ t n c) : Ok (f_X5_emit N 57 x1 x2 σ) (fun r => r.1 = 1 ∧ F9 σ r.2) := by
  rw [f_X5_emit.eq_1]
  refine ok_gI rfl ?_
  refine ok_if (fun _ => ok_rZ (Or.inr rfl) ⟨rfl, F8.rf, rfl⟩) (fun h0 => ?_)
  refine ok_gI rfl ?_
  refine ok_if (fun _ => ok_rZ (Or.inr rfl) ⟨rfl, F8.rf, rfl⟩) (fun h1 => ?_)
  rw [Int32.lt_iff_toInt_lt] at h0
  rw [Int32.le_iff_toInt_le] at h1
  simp only [Int32.reduceToInt] at h0 h1
  have hT : Tr [57, 58, 59] σ σ := Tr.rf
  refine ok_gR (v := 58) hT rfl (hB.1.1 57 3 rfl) ?_
  refine ok_gI rfl ?_
  refine ok_s14 (n := 601) hT rfl (by decide) (by omega) (by omega) (fun τ e hO hT => ?_)
  refine ok_gR (v := 59) hT rfl (hB.1.1 57 4 rfl) ?_
  refine ok_gI rfl ?_
  rw [hO.2 57 (by decide)]
  refine ok_s14 (n := 601) hT rfl (by decide) (by omega) (by omega) (fun υ f hO2 hT => ?_)
  refine ok_gI rfl ?_
  have e57 : υ.1 57 = σ.1 57 := (hO2.2 57 (by decide)).trans (hO.2 57 (by decide))
  refine ok_pI hT rfl (by decide) (fun ρ g hO3 hT => ?_)
  refine ok_rZ (Or.inr rfl) ⟨rfl, ⟨⟨hT, ?_, ?_⟩, ?_⟩, ?_⟩
  · exact (zI_atN g (by decide)).trans (congrFun e57 6)
  · exact (zI_atN g (by decide)).trans (congrFun e57 7)
  · exact (zI_atN g (by decide)).trans (congrFun e57 8)
  · exact (zI_atN g (by decide)).trans (congrFun e57 9)
end CREAD
end Zq12_6
section Zq12_7
section CFAM
variable {N : Nat} {σ τ : zS} {t : Nat → Int32} {n c i : Nat}
theorem bit01 {x : Int32} (h : ¬ (x &&& 1) = 0) : (x &&& 1) = 1 := by
  have := ti_and0 x (m := 1) (by decide)
  rw [show Int32.ofNat 1 = 1 from rfl] at this
  apply Int32.toInt_inj.mp
  by_cases q : (x &&& 1).toInt = 0
  · exact absurd (Int32.toInt_inj.mp q) h
  · simp only [Int32.reduceToInt]; omega
theorem Rn_all {p : Int32 → Prop} [DecidablePred p] {t : Nat → Int32} {n : Nat} : ∀ (f i k : Nat), n - i ≤ f → i ≤ k → k < Rn p t n i → p (t k)
  | 0, i, k, hf, h1, h2 => by
    rw [Rn_e (fun q => absurd q (by omega))] at h2
    omega
  | f + 1, i, k, hf, h1, h2 => by
    by_cases q : i < n ∧ p (t i)
    · by_cases z : k = i
      · rw [z]; exact q.2
      · rw [Rn_s q.1 q.2] at h2
        exact Rn_all f (i + 1) k (by omega) (by omega) h2
    · rw [Rn_e (fun a b => q ⟨a, b⟩)] at h2
      omega
theorem tk_let {t : Nat → Int32} {n i k : Nat} (hk : tkK t n i = 1) (h1 : tkF t n i ≤ k) (h2 : k < tkE t n i) : isLt (t k) := by
  have q : tkF t n i < n := by
    by_cases q : tkF t n i < n
    · exact q
    · exact absurd ((tk_0 rfl q).1.symm.trans hk) (by decide)
  by_cases l : isLt (t (tkF t n i))
  · rw [(tk_1 rfl q l).2] at h2
    exact Rn_all _ _ _ (Nat.le_refl _) h1 h2
  · by_cases d : isDg (t (tkF t n i))
    · exact absurd ((tk_2 rfl q d).1.symm.trans hk) (by decide)
    · have z := (tk_3 rfl q l d).1.symm.trans hk
      split at z
      · rename_i s
        have := sg_b s
        rw [z] at this
        exact absurd this (by decide)
      · exact absurd z (by decide)
theorem xm_fin {a s : Int32} {Z : Prop} (hB : CB σ t n c) (hA : CA (σ.1 57 9) t n c i) (hk : ¬ tkK t n i = 0) (ha : (a = 1 ∧ Z) ∨ (a = 0 ∧ ¬ Z)) : Ok (zl (gC 5 57) fun _ => zb (f_X5_advance N 57 a 2 σ) fun v20 σ21 => if v20 = 0 then (rZ 0 σ21) else (zl (gC 5 57) fun _ => zb (f_X5_emit N 57 3 s σ21) fun v22 σ23 => if v22 = 0 then (rZ 0 σ23) else (rZ 1 σ23))) (fun r => F8 σ r.2 ∧ ((r.1 = 1 ∧ Z ∧ CA (r.2.1 57 9) t n c (tkE t n i)) ∨ (r.1 = 0 ∧ ¬ Z))) := by
  rcases ha with ⟨rfl, z⟩ | ⟨rfl, z⟩
  · refine ok_gC rfl (ok_zb (xa_1 hB hA hk) (fun v τ h => ?_))
    obtain ⟨h1, h2, h3, _⟩ := h
    have h1 : v = 1 := h1
    refine ok_if (fun q => absurd (h1.symm.trans q) (by decide)) (fun _ => ?_)
    refine ok_gC rfl (ok_zb (xs_emit (CB_fr h2.1 hB)) (fun w υ g => ?_))
    have g1 : w = 1 := g.1
    refine ok_if (fun q => absurd (g1.symm.trans q) (by decide)) (fun _ => ?_)
    refine ok_rZ (Or.inr rfl) ⟨h2.tr g.2.1, Or.inl ⟨rfl, z, ?_⟩⟩
    show CA (υ.1 57 9) t n c _
    rw [show υ.1 57 9 = τ.1 57 9 from g.2.2]; exact h3
  · refine ok_gC rfl (ok_zb (xa_0 hB hA) (fun v τ h => ?_))
    have h1 : v = 0 := h.1
    refine ok_if (fun _ => ok_rZ (Or.inl rfl) ⟨h.2, Or.inr ⟨rfl, z⟩⟩) (fun q => absurd h1 q)
theorem nOK00 (hB : CB σ t n c) (hA : CA (σ.1 57 9) t n c i) (hk : tkK t n i = 2) {v : Int32} (hv : v = σ.1 62 (σ.1 57 9).toNatClampNeg) : v = 0 ↔ nOK t n i 0 0 := by
  have row := (CA_row hB.2.1 hA).2.1 hk
  rw [← hv] at row
  unfold nOK
  simp only [Int32.reduceToInt]
  constructor
  · intro q
    rw [q] at row
    simp only [Int32.reduceToInt] at row
    exact ⟨hk, by omega, by omega⟩
  · intro q
    apply Int32.toInt_inj.mp
    simp only [Int32.reduceToInt]
    omega
theorem xs_member {m : Int32} (hN : 1048576 ≤ N) (hB : CB σ t n c) (hA : CA (σ.1 57 9) t n c i) (hm : σ.1 57 7 = m) : Ok (f_X5_member N 57 σ) (fun r => F8 σ r.2 ∧ ((r.1 = 1 ∧ mOK t n i m ∧ CA (r.2.1 57 9) t n c (tkE t n i)) ∨ (r.1 = 0 ∧ ¬ mOK t n i m))) := by
  have hb := CA_b hA hB.2.1.1.2.2
  have row := CA_row hB.2.1 hA
  have hle := tk_le (t := t) (CA_le hA)
  have h600 := hB.2.1.1.2.1
  rw [f_X5_member.eq_1]
  refine ok_gR (Sx := []) (v := 61) Tr.rf rfl (hB.1.1 57 10 rfl) ?_
  refine ok_gI rfl ?_
  refine ok_aIn (n := 601) rfl hb.1 (by omega) (fun v e => ?_)
  have e : v = ck (tkK t n i) := e.trans row.1.1
  refine ok_if (fun q => ?_) (fun q => ?_)
  · have hk : tkK t n i = 2 := ck_n.mp (e.symm.trans q)
    have mi : mOK t n i m ↔ nOK t n i 0 0 := ⟨fun z => z.elim id (fun z => absurd (hk.symm.trans z.1) (by decide)), Or.inl⟩
    refine ok_gR (Sx := []) (v := 62) Tr.rf rfl (hB.1.1 57 11 rfl) ?_
    refine ok_gI rfl ?_
    refine ok_aIn (n := 601) rfl hb.1 (by omega) (fun v6 e6 => ?_)
    have zz := nOK00 hB hA hk e6
    refine ok_if (fun q => ?_) (fun q => ?_)
    · rw [J_X5_member_31.eq_1]
      exact xm_fin hB hA (by rw [hk]; decide) (Or.inl ⟨rfl, mi.mpr (zz.mp q)⟩)
    · rw [J_X5_member_31.eq_1]
      exact xm_fin hB hA (by rw [hk]; decide) (Or.inr ⟨rfl, fun z => q (zz.mpr (mi.mp z))⟩)
  · refine ok_gR (Sx := []) (v := 61) Tr.rf rfl (hB.1.1 57 10 rfl) ?_
    refine ok_gI rfl ?_
    refine ok_aIn (n := 601) rfl hb.1 (by omega) (fun v2 e2 => ?_)
    have e2 : v2 = ck (tkK t n i) := e2.trans row.1.1
    have n2 : ¬ tkK t n i = 2 := fun z => q (e.trans (ck_n.mpr z))
    refine ok_if (fun q2 => ?_) (fun q2 => ?_)
    · have hk : tkK t n i = 1 := ck_w.mp (e2.symm.trans q2)
      have mi : mOK t n i m ↔ (wS t n i m).isSome = true := ⟨fun z => z.elim (fun z => absurd z.1 n2) (fun z => z.2), fun z => Or.inr ⟨hk, z⟩⟩
      refine ok_gR (Sx := []) (v := 63) Tr.rf rfl (hB.1.1 57 12 rfl) ?_
      refine ok_gI rfl ?_
      refine ok_aIn (n := 601) rfl hb.1 (by omega) (fun v3 e3 => ?_)
      have h3 : v3.toInt = (tkF t n i : Int) := by rw [e3]; exact row.1.2.1
      refine ok_lp (fun s : Int32 × Int32 × Int32 × zS => s.2.2.2 = σ ∧ ((tkF t n i : Int) ≤ s.2.2.1.toInt ∧ s.2.2.1.toInt ≤ (tkE t n i : Int)) ∧ ((s.2.1 = 1 ∧ wsF t m (tkE t n i - s.2.2.1.toInt.toNat) s.2.2.1.toInt.toNat s.1 = wS t n i m) ∨ (s.2.1 = 0 ∧ wS t n i m = none))) (fun s => (600 - s.2.2.1.toInt).toNat) (fun again s hI ih => ?_) N _ ⟨rfl, (by show (tkF t n i : Int) ≤ v3.toInt ∧ v3.toInt ≤ (tkE t n i : Int); omega), Or.inl ⟨rfl, by show wsF t m (tkE t n i - v3.toInt.toNat) v3.toInt.toNat 0 = _; rw [show v3.toInt.toNat = tkF t n i by omega]; rfl⟩⟩ (by show (600 - v3.toInt).toNat < N; omega)
      obtain ⟨x1, x2, x3, σ'⟩ := s
      obtain ⟨e', hx, hw⟩ := hI
      have e' : σ' = σ := e'
      have hx : (tkF t n i : Int) ≤ x3.toInt ∧ x3.toInt ≤ (tkE t n i : Int) := hx
      have hw : (x2 = 1 ∧ wsF t m (tkE t n i - x3.toInt.toNat) x3.toInt.toNat x1 = wS t n i m) ∨ (x2 = 0 ∧ wS t n i m = none) := hw
      subst e'
      rw [F_X5_member_87.eq_1]
      refine ok_gR (Sx := []) (v := 64) Tr.rf rfl (hB.1.1 57 13 rfl) ?_
      refine ok_gI rfl ?_
      refine ok_aIn (n := 601) rfl hb.1 (by omega) (fun v4 e4 => ?_)
      have h4 : v4.toInt = (tkE t n i : Int) := by rw [e4]; exact row.1.2.2
      have fin : x3.toInt = (tkE t n i : Int) → Ok (J_X5_member_173 N 57 x1 x2 σ') (fun r => F8 σ' r.2 ∧ ((r.1 = 1 ∧ mOK t n i m ∧ CA (r.2.1 57 9) t n c (tkE t n i)) ∨ (r.1 = 0 ∧ ¬ mOK t n i m))) := fun hend => by
        rw [J_X5_member_173.eq_1]
        refine xm_fin hB hA (by rw [hk]; decide) ?_
        rcases hw with ⟨z, z2⟩ | ⟨z, z2⟩
        · rw [wsF_e (by omega)] at z2
          exact Or.inl ⟨z, mi.mpr (by rw [← z2]; rfl)⟩
        · exact Or.inr ⟨z, fun y => by have y := mi.mp y; rw [z2] at y; exact absurd y (by decide)⟩
      refine ok_if (fun hc => fin (by rw [Int32.le_iff_toInt_le] at hc; omega)) (fun hc => ?_)
      rw [Int32.le_iff_toInt_le] at hc
      refine ok_gI rfl ?_
      refine ok_if (fun hc2 => fin (by rw [Int32.le_iff_toInt_le, hB.2.2] at hc2; omega)) (fun _ => ?_)
      have hs : (x3 + 1).toInt = x3.toInt + 1 := by rw [ti_add]; simp only [Int32.reduceToInt]; omega
      have hj : (x3 + 1).toInt.toNat = x3.toInt.toNat + 1 := by rw [hs]; omega
      refine ok_gRX (Sx := []) (σ0 := σ') Tr.rf hB.1.2 ?_
      refine ok_aIn (n := 600) rfl (by omega) (by omega) (fun v5 e5 => ?_)
      have e5 : v5 = t x3.toInt.toNat := by rw [e5, hB.2.1.1.1]; rfl
      have hl : isLt v5 := by rw [e5]; exact tk_let hk (by omega) (by omega)
      have hv5 : (v5 - 97).toInt = v5.toInt - 97 := by rw [ti_sub]; simp only [Int32.reduceToInt]; unfold isLt at hl; omega
      have go0 : wS t n i m = none → Ok (J_X5_member_151 N again 57 x1 x3 (v5 - 97) 0 σ') (fun r => F8 σ' r.2 ∧ ((r.1 = 1 ∧ mOK t n i m ∧ CA (r.2.1 57 9) t n c (tkE t n i)) ∨ (r.1 = 0 ∧ ¬ mOK t n i m))) := fun z => by
        rw [J_X5_member_151.eq_1]
        refine ok_if (fun _ => ih (x1 ||| 0, 0, x3 + 1, σ') ⟨rfl, (by show (tkF t n i : Int) ≤ (x3 + 1).toInt ∧ (x3 + 1).toInt ≤ (tkE t n i : Int); omega), Or.inr ⟨rfl, z⟩⟩ (by show (600 - (x3 + 1).toInt).toNat < (600 - x3.toInt).toNat; omega)) (fun q => absurd rfl q)
      refine ok_if (fun q => ?_) (fun q => ?_)
      · exact go0 (hw.resolve_left (fun z => absurd (z.1.symm.trans q) (by decide))).2
      · have hw := (hw.resolve_right (fun z => q z.1)).2
        rw [wsF_s (by omega)] at hw
        refine ok_if (fun q2 => absurd q2 (by rw [Int32.lt_iff_toInt_lt, hv5]; simp only [Int32.reduceToInt]; unfold isLt at hl; omega)) (fun _ => ?_)
        refine ok_gI rfl ?_
        rw [hm]
        refine ok_if (fun q3 => go0 ?_) (fun q3 => ok_if (fun q4 => ?_) (fun q4 => go0 ?_))
        · rw [if_pos (Or.inl (by rw [← e5]; exact q3))] at hw; exact hw.symm
        · rw [if_neg (fun z => z.elim (fun z => q3 (by rw [e5]; exact z)) (fun z => by rw [← e5, q4] at z; exact absurd z (by decide)))] at hw
          rw [J_X5_member_151.eq_1]
          refine ok_if (fun q => absurd q (by decide)) (fun _ => ih (x1 ||| ((1 : Int32) <<< ((v5 - 97) &&& 31)), 1, x3 + 1, σ') ⟨rfl, (by show (tkF t n i : Int) ≤ (x3 + 1).toInt ∧ (x3 + 1).toInt ≤ (tkE t n i : Int); omega), Or.inl ⟨rfl, ?_⟩⟩ (by show (600 - (x3 + 1).toInt).toNat < (600 - x3.toInt).toNat; omega))
          show wsF t m (tkE t n i - (x3 + 1).toInt.toNat) (x3 + 1).toInt.toNat _ = _
          rw [hj, e5]; exact hw
        · rw [if_pos (Or.inr (by rw [← e5]; exact bit01 q4))] at hw; exact hw.symm
    · refine ok_gC rfl (ok_zb (xa_0 hB hA) (fun w τ h => ?_))
      have h1 : w = 0 := h.1
      exact ok_rZ (Or.inl h1) ⟨h.2, Or.inr ⟨h1, fun z => z.elim (fun z => n2 z.1) (fun z => q2 (e2.trans (ck_w.mpr z.1)))⟩⟩
end CFAM
end Zq12_7
section Zq12_8
section CFAM2
variable {N : Nat} {σ τ : zS} {t : Nat → Int32} {n c i : Nat} {m : Int32}
theorem xs_family (hN : 1048576 ≤ N) (hB : CB σ t n c) (hA : CA (σ.1 57 9) t n c i) (hm : σ.1 57 7 = m) (hk : tkK t n i = 123) : Ok (f_X5_family N 57 σ) (fun r => F8 σ r.2 ∧ ((r.1 = 1 ∧ ∃ j, fam t n m i = some j ∧ CA (r.2.1 57 9) t n c j) ∨ (r.1 = 0 ∧ fam t n m i = none))) := by
  have h600 := hB.2.1.1.2.1
  have hle := CA_le hA
  rw [f_X5_family.eq_1]
  refine ok_gC rfl (ok_zb (xs_pass hB hA (by decide)) (fun v σ1 h1 => ?_))
  obtain ⟨f1, h1⟩ := h1
  have f1 : F8 σ σ1 := f1
  have h1 := h1.resolve_right (fun z => z.2 ((ck_s (by decide)).mpr hk))
  have A1 : CA (σ1.1 57 9) t n c (tkE t n i) := h1.2.2
  refine ok_gC rfl (ok_zb (xs_emit (CB_fr f1.1 hB)) (fun w σ2 h2 => ?_))
  have f2 : F8 σ σ2 := f1.tr h2.2.1
  have A2 : CA (σ2.1 57 9) t n c (tkE t n i) := by rw [show σ2.1 57 9 = σ1.1 57 9 from h2.2.2]; exact A1
  have B2 := CB_fr f2.1 hB
  have hb2 := CA_b A2 B2.2.1.1.2.2
  refine ok_gR (Sx := []) (v := 61) Tr.rf rfl (B2.1.1 57 10 rfl) ?_
  refine ok_gI rfl ?_
  refine ok_aIn (n := 601) rfl hb2.1 (by omega) (fun v7 e7 => ?_)
  have e7 : v7 = ck (tkK t n (tkE t n i)) := e7.trans (CA_row B2.2.1 A2).1.1
  refine ok_if (fun q => ?_) (fun q => ?_)
  · have k2 : tkK t n (tkE t n i) = 125 := (ck_s (by decide)).mp (e7.symm.trans q)
    refine ok_gC rfl (ok_zb (xs_pass B2 A2 (by decide)) (fun w σ3 h3 => ?_))
    obtain ⟨f3, h3⟩ := h3
    have h3 := h3.resolve_right (fun z => z.2 ((ck_s (by decide)).mpr k2))
    have w1 : w = 1 := h3.1
    exact ok_rZ (Or.inr w1) ⟨f2.tr f3, Or.inl ⟨w1, _, if_pos k2, h3.2.2⟩⟩
  · have hfam : fam t n m i = fmE t n m (tkE t n i) := if_neg (fun z => q (e7.trans ((ck_s (by decide)).mpr z)))
    refine ok_lp (fun s : Int32 × zS => F8 σ s.2 ∧ 0 ≤ s.1.toInt ∧ ∃ p : Nat, s.1.toInt ≤ (p : Int) ∧ CA (s.2.1 57 9) t n c p ∧ fam t n m i = fmE t n m p) (fun s => (601 - s.1.toInt).toNat) (fun again s hI ih => ?_) N _ ⟨f2, (by decide : 0 ≤ (0 : Int32).toInt), tkE t n i, by show (0 : Int32).toInt ≤ _; simp only [Int32.reduceToInt]; omega, A2, hfam⟩ (by show (601 - (0 : Int32).toInt).toNat < N; simp only [Int32.reduceToInt]; omega)
    obtain ⟨x1, σ'⟩ := s
    obtain ⟨f3, hx, p, hp, A3, fe⟩ := hI
    have f3 : F8 σ σ' := f3
    have hx : 0 ≤ x1.toInt := hx
    have hp : x1.toInt ≤ (p : Int) := hp
    have A3 : CA (σ'.1 57 9) t n c p := A3
    have B3 := CB_fr f3.1 hB
    have pn := CA_le A3
    rw [F_X5_family_37.eq_1]
    refine ok_if (fun q => absurd q (by rw [Int32.le_iff_toInt_le]; simp only [Int32.reduceToInt]; omega)) (fun _ => ?_)
    refine ok_gC rfl (ok_zb (xs_member hN B3 A3 (f3.1.2.2.trans hm)) (fun v12 σ4 h4 => ?_))
    obtain ⟨f4, h4⟩ := h4
    have f4 := f3.tr f4
    refine ok_if (fun q => ?_) (fun q => ?_)
    · have h4 := h4.resolve_left (fun z => absurd (z.1.symm.trans q) (by decide))
      exact ok_rZ (Or.inl rfl) ⟨f4, Or.inr ⟨rfl, fe.trans (fmE_f pn h4.2)⟩⟩
    · have h4 := h4.resolve_right (fun z => q z.1)
      have A4 : CA (σ4.1 57 9) t n c (tkE t n p) := h4.2.2
      have B4 := CB_fr f4.1 hB
      have hb4 := CA_b A4 B4.2.1.1.2.2
      have fe4 := fe.trans (fmE_t pn h4.2.1)
      have g1 := tk_gt pn (mOK_n h4.2.1)
      refine ok_gR (Sx := []) (v := 61) Tr.rf rfl (B4.1.1 57 10 rfl) ?_
      refine ok_gI rfl ?_
      refine ok_aIn (n := 601) rfl hb4.1 (by omega) (fun v16 e16 => ?_)
      have e16 : v16 = ck (tkK t n (tkE t n p)) := e16.trans (CA_row B4.2.1 A4).1.1
      refine ok_if (fun q2 => ?_) (fun q2 => ?_)
      · have k4 : tkK t n (tkE t n p) = 44 := (ck_s (by decide)).mp (e16.symm.trans q2)
        refine ok_gC rfl (ok_zb (xs_pass B4 A4 (by decide)) (fun w σ5 h5 => ?_))
        obtain ⟨f5, h5⟩ := h5
        have h5 := h5.resolve_right (fun z => z.2 ((ck_s (by decide)).mpr k4))
        have A5 : CA (σ5.1 57 9) t n c (tkE t n (tkE t n p)) := h5.2.2
        have g2 := tk_gt (CA_le A4) (show ¬ tkK t n (tkE t n p) = 0 by rw [k4]; decide)
        have hs : (x1 + 1).toInt = x1.toInt + 1 := by rw [ti_add]; simp only [Int32.reduceToInt]; omega
        have g3 := CA_le A5
        refine ih (x1 + 1, σ5) ⟨f4.tr f5, (by rw [hs]; omega : 0 ≤ (x1 + 1).toInt), _, by show (x1 + 1).toInt ≤ _; rw [hs]; omega, A5, ?_⟩ (by show (601 - (x1 + 1).toInt).toNat < (601 - x1.toInt).toNat; omega)
        rw [fe4]; exact if_pos k4
      · have k4 : ¬ tkK t n (tkE t n p) = 44 := fun z => q2 (e16.trans ((ck_s (by decide)).mpr z))
        have fe5 : fam t n m i = if tkK t n (tkE t n p) = 125 then some (tkE t n (tkE t n p)) else none := fe4.trans (if_neg k4)
        refine ok_gC rfl (ok_zb (xs_pass B4 A4 (by decide)) (fun w σ5 h5 => ?_))
        obtain ⟨f5, h5⟩ := h5
        rcases h5 with h5 | h5
        · have w1 : w = 1 := h5.1
          exact ok_rZ (Or.inr w1) ⟨f4.tr f5, Or.inl ⟨w1, _, fe5.trans (if_pos ((ck_s (by decide)).mp h5.2.1)), h5.2.2⟩⟩
        · have w1 : w = 0 := h5.1
          exact ok_rZ (Or.inl w1) ⟨f4.tr f5, Or.inr ⟨w1, fe5.trans (if_neg (fun z => h5.2 ((ck_s (by decide)).mpr z)))⟩⟩
/-! the words -/
def cod : List Int32 := [1, 2, 3, 4, 5, 10, 11, 12, 13, 14, 15]
theorem wvF_spec {C : Nat → Prop} : (∃ w, w < 11 ∧ C w ∧ wvF C = cod.getD w 0) ∨ ((∀ w, w < 11 → ¬ C w) ∧ wvF C = -1) := by
  unfold wvF
  by_cases h0 : C 0
  · exact Or.inl ⟨0, by decide, h0, if_pos h0⟩
  by_cases h1 : C 1
  · exact Or.inl ⟨1, by decide, h1, by rw [if_neg h0, if_pos h1]; rfl⟩
  by_cases h2 : C 2
  · exact Or.inl ⟨2, by decide, h2, by rw [if_neg h0, if_neg h1, if_pos h2]; rfl⟩
  by_cases h3 : C 3
  · exact Or.inl ⟨3, by decide, h3, by rw [if_neg h0, if_neg h1, if_neg h2, if_pos h3]; rfl⟩
  by_cases h4 : C 4
  · exact Or.inl ⟨4, by decide, h4, by rw [if_neg h0, if_neg h1, if_neg h2, if_neg h3, if_pos h4]; rfl⟩
  by_cases h5 : C 5
  · exact Or.inl ⟨5, by decide, h5, by rw [if_neg h0, if_neg h1, if_neg h2, if_neg h3, if_neg h4, if_pos h5]; rfl⟩
  by_cases h6 : C 6
  · exact Or.inl ⟨6, by decide, h6, by rw [if_neg h0, if_neg h1, if_neg h2, if_neg h3, if_neg h4, if_neg h5, if_pos h6]; rfl⟩
  by_cases h7 : C 7
  · exact Or.inl ⟨7, by decide, h7, by rw [if_neg h0, if_neg h1, if_neg h2, if_neg h3, if_neg h4, if_neg h5, if_neg h6, if_pos h7]; rfl⟩
  by_cases h8 : C 8
  · exact Or.inl ⟨8, by decide, h8, by rw [if_neg h0, if_neg h1, if_neg h2, if_neg h3, if_neg h4, if_neg h5, if_neg h6, if_neg h7, if_pos h8]; rfl⟩
  by_cases h9 : C 9
  · exact Or.inl ⟨9, by decide, h9, by rw [if_neg h0, if_neg h1, if_neg h2, if_neg h3, if_neg h4, if_neg h5, if_neg h6, if_neg h7, if_neg h8, if_pos h9]; rfl⟩
  by_cases h10 : C 10
  · exact Or.inl ⟨10, by decide, h10, by rw [if_neg h0, if_neg h1, if_neg h2, if_neg h3, if_neg h4, if_neg h5, if_neg h6, if_neg h7, if_neg h8, if_neg h9, if_pos h10]; rfl⟩
  refine Or.inr ⟨fun w hw => ?_, by rw [if_neg h0, if_neg h1, if_neg h2, if_neg h3, if_neg h4, if_neg h5, if_neg h6, if_neg h7, if_neg h8, if_neg h9, if_neg h10]⟩
  rcases (show w = 0 ∨ w = 1 ∨ w = 2 ∨ w = 3 ∨ w = 4 ∨ w = 5 ∨ w = 6 ∨ w = 7 ∨ w = 8 ∨ w = 9 ∨ w = 10 by omega) with rfl | rfl | rfl | rfl | rfl | rfl | rfl | rfl | rfl | rfl | rfl <;> assumption
theorem zch_inj : ∀ a, a < 11 → ∀ b, b < 11 → zlen.getD (a + 11) 0 = zlen.getD (b + 11) 0 → (∀ k, k < zlen.getD (a + 11) 0 → zch (a + 11) (nI k) = zch (b + 11) (nI k)) → a = b := by decide +kernel
theorem isW_u {a b : Nat} (ha : a < 11) (hb : b < 11) (h : isW t n i (a + 11)) (h2 : isW t n i (b + 11)) : a = b := by
  have e : zlen.getD (a + 11) 0 = zlen.getD (b + 11) 0 := by
    have := h.2.1
    have := h2.2.1
    omega
  exact zch_inj a ha b hb e (fun k hk => (h.2.2 k hk).symm.trans (h2.2.2 k (e ▸ hk)))
theorem cod_i : ∀ a, a < 11 → ∀ b, b < 11 → cod.getD a 0 = cod.getD b 0 → a = b := by decide +kernel
theorem cod_n : ∀ a, a < 11 → ¬ cod.getD a 0 = -1 ∧ ((10 : Int32) ≤ cod.getD a 0 ↔ 5 ≤ a) := by decide +kernel
theorem wv_iff {w : Nat} (hw : w < 11) : wv t n i = cod.getD w 0 ↔ isW t n i (w + 11) := by
  rcases wvF_spec (C := fun w => isW t n i (w + 11)) with ⟨v, hv, cv, e⟩ | ⟨h, e⟩
  · constructor
    · intro q
      have := cod_i v hv w hw (e.symm.trans q)
      rw [← this]; exact cv
    · intro q
      have := isW_u hv hw cv q
      rw [← this]; exact e
  · constructor
    · intro q
      exact absurd (q.symm.trans e) (cod_n w hw).1
    · intro q
      exact absurd q (h w hw)
theorem wv_px : (10 : Int32) ≤ wv t n i ↔ isPx t n i := by
  rcases wvF_spec (C := fun w => isW t n i (w + 11)) with ⟨v, hv, cv, e⟩ | ⟨h, e⟩
  · have e : wv t n i = cod.getD v 0 := e
    rw [e, (cod_n v hv).2]
    constructor
    · intro q
      exact ⟨v - 5, by omega, by rw [show 16 + (v - 5) = v + 11 by omega]; exact cv⟩
    · rintro ⟨k, hk, hw⟩
      have := isW_u hv (show k + 5 < 11 by omega) cv (by rw [show k + 5 + 11 = 16 + k by omega]; exact hw)
      omega
  · have e : wv t n i = -1 := e
    rw [e]
    constructor
    · intro q
      exact absurd q (by decide)
    · rintro ⟨k, hk, hw⟩
      exact absurd (show isW t n i (k + 5 + 11) by rw [show k + 5 + 11 = 16 + k by omega]; exact hw) (h (k + 5) (by omega))
end CFAM2
end Zq12_8
section Zq12_9
section CSUM
variable {N : Nat} {t : Nat → Int32} {n c : Nat} {m : Int32}
/-- the machine ends in a fault -/
def Flt (t : Nat → Int32) (n : Nat) (m : Int32) (a : Cf) : Prop := ∃ e : Cf, Rch t n m a e ∧ (stp t n m e = none ∨ (stp t n m e = some none ∧ true ∈ e.2.2.1))
theorem Flt.st {a b : Cf} (h : stp t n m a = some (some b)) (h2 : Flt t n m b) : Flt t n m a := by
  obtain ⟨e, h3, h4⟩ := h2
  exact ⟨e, Rch.st h h3, h4⟩
theorem Flt.tr {a b : Cf} (h : Rch t n m a b) (h2 : Flt t n m b) : Flt t n m a := by
  obtain ⟨e, h3, h4⟩ := h2
  exact ⟨e, h.tr h3, h4⟩
theorem Flt.nn {a : Cf} (h : stp t n m a = none) : Flt t n m a := ⟨a, Rch.rf, Or.inl h⟩
/-- what a part leaves behind: read to j, L1 stands unclosed -/
def PQ (t : Nat → Int32) (n c : Nat) (m : Int32) (i : Nat) (L L1 : List Bool) (sg : Nat) (σ : zS) (r : Int32 × zS) : Prop := Fr σ r.2 ∧ ((r.1 = 1 ∧ ∃ j s1, (Rch t n m (i, false, L, sg) (j, true, L1, s1) ∧ sg ≤ s1) ∧ CA (r.2.1 57 9) t n c j ∧ (r.2.1 57 8).toInt = (s1 : Int) ∧ s1 ≤ 24) ∨ (r.1 = 0 ∧ Flt t n m (i, false, L, sg)))
def SQ (t : Nat → Int32) (n c : Nat) (m : Int32) (i : Nat) (L : List Bool) (sg : Nat) (σ : zS) (r : Int32 × zS) : Prop := Fr σ r.2 ∧ ((r.1 = 1 ∧ ∃ j s1, ((Rch t n m (i, false, L, sg) (j, true, L, s1) ∧ sg ≤ s1) ∧ ¬ isCb (tkK t n j)) ∧ CA (r.2.1 57 9) t n c j ∧ (r.2.1 57 8).toInt = (s1 : Int) ∧ s1 ≤ 24) ∨ (r.1 = 0 ∧ Flt t n m (i, false, L, sg)))
def PH (t : Nat → Int32) (n c : Nat) (m : Int32) (i : Nat) (L : List Bool) (sg : Nat) (x : Int32) (σ : zS) : Prop := (CB σ t n c ∧ CA (σ.1 57 9) t n c i ∧ σ.1 57 7 = m) ∧ ((σ.1 57 8).toInt = (sg : Int) ∧ sg ≤ 24) ∧ x.toInt = (L.length : Int) ∧ L.length ≤ 6
theorem rz01 {v : Int32} {A B : Prop} (h : (v = 1 ∧ A) ∨ (v = 0 ∧ B)) : v = 0 ∨ v = 1 := h.elim (fun z => Or.inr z.1) (fun z => Or.inl z.1)
theorem isCb_ck {k : Int32} : isCb (ck k) ↔ isCb k := by
  unfold isCb
  rw [ck_s (x := 43) (by decide), ck_s (x := 45) (by decide), ck_s (x := 38) (by decide), ck_s (x := 42) (by decide), ck_s (x := 47) (by decide), ck_s (x := 37) (by decide), ck_s (x := 35) (by decide)]
theorem wordPart_s {dd i sg : Nat} {L : List Bool} {x1 x2 : Int32} {σ : zS} (hk : tkK t n i = 1) (hx : x1 = wv t n i) (H : PH t n c m i L sg x2 σ)
    (ih : ∀ (i : Nat) (L : List Bool) (sg : Nat) (x : Int32) (σ : zS), PH t n c m i L sg x σ → 3 * (7 - L.length) + 1 < dd → Ok (f_X5_part N dd 57 x σ) (PQ t n c m i L (popP L) sg σ)) (hm : 3 * (7 - L.length) < dd + 1) : Ok (B_X5_wordPart N (f_X5_sum N dd) (f_X5_part N dd) (f_X5_wordPart N dd) 57 x1 x2 σ) (PQ t n c m i L (popP L) sg σ) := by
  obtain ⟨⟨hB, hA, h7⟩, ⟨h8, hsg⟩, hd, hL⟩ := H
  have n40 : ¬ tkK t n i = 40 := by rw [hk]; decide
  have i5 : x1 = 5 ↔ isW t n i 15 := by rw [hx]; exact wv_iff (w := 4) (by decide)
  have i10 : 10 ≤ x1 ↔ isPx t n i := by rw [hx]; exact wv_px
  rw [B_X5_wordPart.eq_1]
  refine ok_if (fun q => ?_) (fun q => ?_)
  · have a15 := i5.mp q
    have npx : ¬ (isPx t n i ∨ tkK t n i = 40) := fun z => z.elim (fun z => by have := i10.mpr z; rw [q] at this; exact absurd this (by decide)) n40
    refine ok_gC rfl (ok_zb (xs_pass hB hA (by decide)) (fun v σ1 h1 => ?_))
    obtain ⟨f1, h1⟩ := h1
    have f1 : F8 σ σ1 := f1
    have h1 := h1.resolve_right (fun z => z.2 (ck_w.mpr hk))
    have v1 : v = 1 := h1.1
    refine ok_if (fun q => absurd (v1.symm.trans q) (by decide)) (fun _ => ?_)
    refine ok_gC rfl (ok_zb (xs_emit (CB_fr f1.1 hB)) (fun w σ2 h2 => ?_))
    have w1 : w = 1 := h2.1
    refine ok_if (fun q => absurd (w1.symm.trans q) (by decide)) (fun _ => ?_)
    have f2 : F8 σ σ2 := f1.tr h2.2.1
    refine ok_rZ (Or.inr rfl) ⟨f2.1, Or.inl ⟨rfl, tkE t n i, sg, ⟨Rch.st (stp_a npx a15) Rch.rf, Nat.le_refl _⟩, ?_, ?_, hsg⟩⟩
    · show CA (σ2.1 57 9) t n c _
      rw [show σ2.1 57 9 = σ1.1 57 9 from h2.2.2]; exact h1.2.2
    · show (σ2.1 57 8).toInt = _
      rw [f2.2]; exact h8
  · have n15 : ¬ isW t n i 15 := fun z => q (i5.mpr z)
    refine ok_if (fun q2 => ?_) (fun q2 => ?_)
    · have px : isPx t n i ∨ tkK t n i = 40 := Or.inl (i10.mp q2)
      refine ok_if (fun q3 => ?_) (fun q3 => ?_)
      · rw [Int32.le_iff_toInt_le] at q3
        simp only [Int32.reduceToInt] at q3
        rw [J_X5_wordPart_52.eq_1]
        refine ok_gC rfl (ok_zb (xa_0 hB hA) (fun v σ1 h1 => ?_))
        have v0 : v = 0 := h1.1
        have f1 : F8 σ σ1 := h1.2
        refine ok_if (fun _ => ok_rZ (Or.inl rfl) ⟨f1.1, Or.inr ⟨rfl, Flt.nn ((stp_o px).trans (if_pos (by omega)))⟩⟩) (fun q => absurd v0 q)
      · rw [Int32.le_iff_toInt_le] at q3
        simp only [Int32.reduceToInt] at q3
        rw [J_X5_wordPart_52.eq_1]
        refine ok_gC rfl (ok_zb (xa_1 hB hA (by rw [hk]; decide)) (fun v σ1 h1 => ?_))
        obtain ⟨v1, f1, A1, _⟩ := h1
        have v1 : v = 1 := v1
        have f1 : F8 σ σ1 := f1
        refine ok_if (fun q => absurd (v1.symm.trans q) (by decide)) (fun _ => ?_)
        have hs : (x2 + 1).toInt = x2.toInt + 1 := by rw [ti_add]; simp only [Int32.reduceToInt]; omega
        have s1 : stp t n m (i, false, L, sg) = some (some (tkE t n i, false, false :: L, sg)) := by
          refine (stp_o px).trans ((if_neg (by omega)).trans ?_)
          rw [decide_eq_false n40]
        refine ok_gC rfl (ok_zb (ih (tkE t n i) (false :: L) sg (x2 + 1) σ1 ⟨⟨CB_fr f1.1 hB, A1, f1.1.2.2.trans h7⟩, ⟨by rw [f1.2]; exact h8, hsg⟩, by rw [hs, List.length_cons]; omega, by rw [List.length_cons]; omega⟩ (by rw [List.length_cons]; omega)) (fun w σ2 h2 => ?_))
        obtain ⟨f2, h2⟩ := h2
        have f2 : Fr σ σ2 := f1.1.tr f2
        refine ok_if (fun q => ?_) (fun q => ?_)
        · have h2 := h2.resolve_left (fun z => absurd (z.1.symm.trans q) (by decide))
          exact ok_rZ (Or.inl rfl) ⟨f2, Or.inr ⟨rfl, Flt.st s1 h2.2⟩⟩
        · have h2 := h2.resolve_right (fun z => q z.1)
          obtain ⟨_, j, s2, ⟨rc, le⟩, A2, e8, l24⟩ := h2
          have A2 : CA (σ2.1 57 9) t n c j := A2
          have e8 : (σ2.1 57 8).toInt = (s2 : Int) := e8
          refine ok_gC rfl (ok_zb (xs_emit (CB_fr f2 hB)) (fun w σ3 h3 => ?_))
          have w1 : w = 1 := h3.1
          have f3 : F9 σ2 σ3 := h3.2
          refine ok_if (fun q => absurd (w1.symm.trans q) (by decide)) (fun _ => ?_)
          refine ok_rZ (Or.inr rfl) ⟨f2.tr f3.1.1, Or.inl ⟨rfl, j, s2, ⟨Rch.st s1 rc, le⟩, ?_, ?_, l24⟩⟩
          · show CA (σ3.1 57 9) t n c _
            rw [f3.2]; exact A2
          · show (σ3.1 57 8).toInt = _
            rw [f3.1.2]; exact e8
    · have npx : ¬ (isPx t n i ∨ tkK t n i = 40) := fun z => z.elim (fun z => q2 (i10.mpr z)) n40
      refine ok_gC rfl (ok_zb (xs_fail hB hA) (fun v σ1 h1 => ?_))
      have v0 : v = 0 := h1.1
      have f1 : F8 σ σ1 := h1.2
      exact ok_rZ (Or.inl v0) ⟨f1.1, Or.inr ⟨v0, Flt.nn (stp_z npx (by rw [hk]; decide) (by rw [hk]; decide) n15)⟩⟩
theorem part_s {dd i sg : Nat} {L : List Bool} {x1 : Int32} {σ : zS} (hN : 1048576 ≤ N) (H : PH t n c m i L sg x1 σ)
    (ihs : ∀ (i : Nat) (L : List Bool) (sg : Nat) (x : Int32) (σ : zS), PH t n c m i L sg x σ → popP L = L → 3 * (7 - L.length) + 2 < dd → Ok (f_X5_sum N dd 57 x σ) (SQ t n c m i L sg σ))
    (ihw : ∀ (i : Nat) (L : List Bool) (sg : Nat) (x y : Int32) (σ : zS), PH t n c m i L sg x σ → tkK t n i = 1 → y = wv t n i → 3 * (7 - L.length) < dd → Ok (f_X5_wordPart N dd 57 y x σ) (PQ t n c m i L (popP L) sg σ)) (hm : 3 * (7 - L.length) + 1 < dd + 1) : Ok (B_X5_part N (f_X5_sum N dd) (f_X5_part N dd) (f_X5_wordPart N dd) 57 x1 σ) (PQ t n c m i L (popP L) sg σ) := by
  have H0 := H
  obtain ⟨⟨hB, hA, h7⟩, ⟨h8, hsg⟩, hd, hL⟩ := H
  have hb := CA_b hA hB.2.1.1.2.2
  have row := CA_row hB.2.1 hA
  rw [B_X5_part.eq_1]
  refine ok_gR (Sx := []) (v := 61) Tr.rf rfl (hB.1.1 57 10 rfl) ?_
  refine ok_gI rfl ?_
  refine ok_aIn (n := 601) rfl hb.1 (by omega) (fun v3 e3 => ?_)
  have e3 : v3 = ck (tkK t n i) := e3.trans row.1.1
  refine ok_if (fun q => ?_) (fun q2 => ?_)
  · have hk : tkK t n i = 1 := ck_w.mp (e3.symm.trans q)
    refine ok_gR (Sx := []) (v := 62) Tr.rf rfl (hB.1.1 57 11 rfl) ?_
    refine ok_gI rfl ?_
    refine ok_aIn (n := 601) rfl hb.1 (by omega) (fun v6 e6 => ?_)
    refine ok_gC rfl (ok_zb (ihw i L sg x1 v6 σ H0 hk (e6.trans (row.2.2 hk)) (by omega)) (fun v σ1 h1 => ?_))
    exact ok_rZ (rz01 h1.2) h1
  have nw : ¬ tkK t n i = 1 := fun z => q2 (e3.trans (ck_w.mpr z))
  have npx : ¬ isPx t n i := fun ⟨k, _, hw⟩ => nw hw.1
  refine ok_if (fun q => ?_) (fun q3 => ?_)
  · have hk : tkK t n i = 2 := ck_n.mp (e3.symm.trans q)
    have np : ¬ (isPx t n i ∨ tkK t n i = 40) := fun z => z.elim npx (fun z => absurd (hk.symm.trans z) (by decide))
    refine ok_gC rfl (ok_zb (xs_passNumber hB hA (by decide)) (fun v σ1 h1 => ?_))
    obtain ⟨f1, h1⟩ := h1
    have f1 : F8 σ σ1 := f1
    refine ok_if (fun q => ?_) (fun q => ?_)
    · have h1 := h1.resolve_left (fun z => absurd (z.1.symm.trans q) (by decide))
      exact ok_rZ (Or.inl rfl) ⟨f1.1, Or.inr ⟨rfl, Flt.nn ((stp_n np hk).trans (if_neg h1.2))⟩⟩
    · have h1 := h1.resolve_right (fun z => q z.1)
      obtain ⟨_, ⟨ok, A1⟩, p1, _⟩ := h1
      have A1 : CA (σ1.1 57 9) t n c (tkE t n i) := A1
      have B1 := CB_fr f1.1 hB
      refine ok_gC rfl (ok_zbX (Q := fun v => v = lastv σ1.1) (xs_passed B1 A1 p1) (fun v11 _ => ?_))
      refine ok_gC rfl (ok_zb (xs_emit B1) (fun w σ2 h2 => ?_))
      have w1 : w = 1 := h2.1
      have f2 : F9 σ1 σ2 := h2.2
      refine ok_if (fun q => absurd (w1.symm.trans q) (by decide)) (fun _ => ?_)
      refine ok_rZ (Or.inr rfl) ⟨(f1.tr f2.1).1, Or.inl ⟨rfl, tkE t n i, sg, ⟨Rch.st ((stp_n np hk).trans (if_pos ok)) Rch.rf, Nat.le_refl _⟩, ?_, ?_, hsg⟩⟩
      · show CA (σ2.1 57 9) t n c _
        rw [f2.2]; exact A1
      · show (σ2.1 57 8).toInt = _
        rw [f2.1.2, f1.2]; exact h8
  have nn : ¬ tkK t n i = 2 := fun z => q3 (e3.trans (ck_n.mpr z))
  refine ok_if (fun q => ?_) (fun q40 => ?_)
  · have hk : tkK t n i = 40 := (ck_s (by decide)).mp (e3.symm.trans q)
    have px : isPx t n i ∨ tkK t n i = 40 := Or.inr hk
    refine ok_if (fun q3 => ?_) (fun q3 => ?_)
    · rw [Int32.le_iff_toInt_le] at q3
      simp only [Int32.reduceToInt] at q3
      rw [J_X5_part_97.eq_1]
      refine ok_gC rfl (ok_zb (xa_0 hB hA) (fun v σ1 h1 => ?_))
      have v0 : v = 0 := h1.1
      have f1 : F8 σ σ1 := h1.2
      refine ok_if (fun _ => ok_rZ (Or.inl rfl) ⟨f1.1, Or.inr ⟨rfl, Flt.nn ((stp_o px).trans (if_pos (by omega)))⟩⟩) (fun q => absurd v0 q)
    · rw [Int32.le_iff_toInt_le] at q3
      simp only [Int32.reduceToInt] at q3
      rw [J_X5_part_97.eq_1]
      refine ok_gC rfl (ok_zb (xa_1 hB hA (by rw [hk]; decide)) (fun v σ1 h1 => ?_))
      obtain ⟨v1, f1, A1, _⟩ := h1
      have v1 : v = 1 := v1
      have f1 : F8 σ σ1 := f1
      refine ok_if (fun q => absurd (v1.symm.trans q) (by decide)) (fun _ => ?_)
      have hs : (x1 + 1).toInt = x1.toInt + 1 := by rw [ti_add]; simp only [Int32.reduceToInt]; omega
      have s1 : stp t n m (i, false, L, sg) = some (some (tkE t n i, false, true :: L, sg)) := by
        refine (stp_o px).trans ((if_neg (by omega)).trans ?_)
        rw [decide_eq_true hk]
      refine ok_gC rfl (ok_zb (ihs (tkE t n i) (true :: L) sg (x1 + 1) σ1 ⟨⟨CB_fr f1.1 hB, A1, f1.1.2.2.trans h7⟩, ⟨by rw [f1.2]; exact h8, hsg⟩, by rw [hs, List.length_cons]; omega, by rw [List.length_cons]; omega⟩ rfl (by rw [List.length_cons]; omega)) (fun w σ2 h2 => ?_))
      obtain ⟨f2, h2⟩ := h2
      have f2 : Fr σ σ2 := f1.1.tr f2
      refine ok_if (fun q => ?_) (fun q => ?_)
      · have h2 := h2.resolve_left (fun z => absurd (z.1.symm.trans q) (by decide))
        exact ok_rZ (Or.inl rfl) ⟨f2, Or.inr ⟨rfl, Flt.st s1 h2.2⟩⟩
      · have h2 := h2.resolve_right (fun z => q z.1)
        obtain ⟨_, j, s2, ⟨⟨rc, le⟩, ncb⟩, A2, e8, l24⟩ := h2
        have A2 : CA (σ2.1 57 9) t n c j := A2
        have e8 : (σ2.1 57 8).toInt = (s2 : Int) := e8
        refine ok_gC rfl (ok_zb (xs_pass (CB_fr f2 hB) A2 (by decide)) (fun w σ3 h3 => ?_))
        obtain ⟨f3, h3⟩ := h3
        have f3 : F8 σ2 σ3 := f3
        refine ok_if (fun q => ?_) (fun q => ?_)
        · have h3 := h3.resolve_left (fun z => absurd (z.1.symm.trans q) (by decide))
          refine ok_rZ (Or.inl rfl) ⟨f2.tr f3.1, Or.inr ⟨rfl, _, Rch.st s1 rc, Or.inr ⟨stp_e ncb (fun z => h3.2 ((ck_s (by decide)).mpr z.1)), List.mem_cons_self⟩⟩⟩
        · have h3 := h3.resolve_right (fun z => q z.1)
          refine ok_rZ (Or.inr rfl) ⟨f2.tr f3.1, Or.inl ⟨rfl, tkE t n j, s2, ⟨(Rch.st s1 rc).sn (stp_p ncb ⟨(ck_s (by decide)).mp h3.2.1, List.mem_cons_self⟩), le⟩, h3.2.2, ?_, l24⟩⟩
          show (σ3.1 57 8).toInt = _
          rw [f3.2]; exact e8
  have n40 : ¬ tkK t n i = 40 := fun z => q40 (e3.trans ((ck_s (by decide)).mpr z))
  have np : ¬ (isPx t n i ∨ tkK t n i = 40) := fun z => z.elim npx n40
  refine ok_if (fun q => ?_) (fun q123 => ?_)
  · have hk : tkK t n i = 123 := (ck_s (by decide)).mp (e3.symm.trans q)
    refine ok_gC rfl (ok_zb (xs_family hN hB hA h7 hk) (fun v σ1 h1 => ?_))
    obtain ⟨f1, h1⟩ := h1
    have f1 : F8 σ σ1 := f1
    rcases h1 with ⟨v1, j, fj, A1⟩ | ⟨v0, fj⟩
    · have v1 : v = 1 := v1
      refine ok_rZ (Or.inr v1) ⟨f1.1, Or.inl ⟨v1, j, sg, ⟨Rch.st ((stp_f np hk).trans (by rw [fj]; rfl)) Rch.rf, Nat.le_refl _⟩, A1, ?_, hsg⟩⟩
      show (σ1.1 57 8).toInt = _
      rw [f1.2]; exact h8
    · have v0 : v = 0 := v0
      exact ok_rZ (Or.inl v0) ⟨f1.1, Or.inr ⟨v0, Flt.nn ((stp_f np hk).trans (by rw [fj]; rfl))⟩⟩
  · refine ok_gC rfl (ok_zb (xs_fail hB hA) (fun v σ1 h1 => ?_))
    have v0 : v = 0 := h1.1
    have f1 : F8 σ σ1 := h1.2
    exact ok_rZ (Or.inl v0) ⟨f1.1, Or.inr ⟨v0, Flt.nn (stp_z np nn (fun z => q123 (e3.trans ((ck_s (by decide)).mpr z))) (fun z => nw z.1))⟩⟩
theorem sum_s {dd i sg : Nat} {L : List Bool} {x1 : Int32} {σ : zS} (hN : 1048576 ≤ N) (H : PH t n c m i L sg x1 σ) (hp : popP L = L)
    (ih : ∀ (i : Nat) (L : List Bool) (sg : Nat) (x : Int32) (σ : zS), PH t n c m i L sg x σ → 3 * (7 - L.length) + 1 < dd → Ok (f_X5_part N dd 57 x σ) (PQ t n c m i L (popP L) sg σ)) (hm : 3 * (7 - L.length) + 2 < dd + 1) : Ok (B_X5_sum N (f_X5_sum N dd) (f_X5_part N dd) (f_X5_wordPart N dd) 57 x1 σ) (SQ t n c m i L sg σ) := by
  have H0 := H
  obtain ⟨⟨hB, hA, h7⟩, ⟨h8, hsg⟩, hd, hL⟩ := H
  rw [B_X5_sum.eq_1]
  refine ok_gC rfl (ok_zb (ih i L sg x1 σ H0 (by omega)) (fun v σ1 h1 => ?_))
  obtain ⟨f1, h1⟩ := h1
  have f1 : Fr σ σ1 := f1
  refine ok_if (fun q => ?_) (fun q => ?_)
  · have h1 := h1.resolve_left (fun z => absurd (z.1.symm.trans q) (by decide))
    exact ok_rZ (Or.inl rfl) ⟨f1, Or.inr ⟨rfl, h1.2⟩⟩
  have h1 := h1.resolve_right (fun z => q z.1)
  obtain ⟨_, j, s1, ⟨rc, le⟩, A1, e8, l24⟩ := h1
  rw [hp] at rc
  refine ok_lp (fun s : Int32 × Int32 × zS => Fr σ s.2.2 ∧ 0 ≤ s.2.1.toInt ∧ ∃ j s1 : Nat, ((Rch t n m (i, false, L, sg) (j, true, L, s1) ∧ sg ≤ s1) ∧ CA (s.2.2.1 57 9) t n c j ∧ (s.2.2.1 57 8).toInt = (s1 : Int) ∧ s1 ≤ 24) ∧ s.2.1.toInt ≤ (s1 : Int)) (fun s => (601 - s.2.1.toInt).toNat) (fun again s hI ihl => ?_) N _ ⟨f1, (by decide : 0 ≤ (0 : Int32).toInt), j, s1, ⟨⟨rc, le⟩, A1, e8, l24⟩, by show (0 : Int32).toInt ≤ _; simp only [Int32.reduceToInt]; omega⟩ (by show (601 - (0 : Int32).toInt).toNat < N; simp only [Int32.reduceToInt]; omega)
  clear rc le A1 e8 l24 f1
  obtain ⟨x2, x3, σ'⟩ := s
  obtain ⟨f1, hx, j, s1, ⟨⟨rc, le⟩, A1, e8, l24⟩, hx3⟩ := hI
  have f1 : Fr σ σ' := f1
  have hx : 0 ≤ x3.toInt := hx
  have A1 : CA (σ'.1 57 9) t n c j := A1
  have e8 : (σ'.1 57 8).toInt = (s1 : Int) := e8
  have hx3 : x3.toInt ≤ (s1 : Int) := hx3
  have B1 := CB_fr f1 hB
  have hb := CA_b A1 B1.2.1.1.2.2
  have row := CA_row B1.2.1 A1
  rw [F_X5_sum_14.eq_1]
  refine ok_if (fun q => absurd q (by rw [Int32.le_iff_toInt_le]; simp only [Int32.reduceToInt]; omega)) (fun _ => ?_)
  refine ok_gR (Sx := []) (v := 61) Tr.rf rfl (B1.1.1 57 10 rfl) ?_
  refine ok_gI rfl ?_
  refine ok_aIn (n := 601) rfl hb.1 (by omega) (fun v7 e7 => ?_)
  have e7 : v7 = ck (tkK t n j) := e7.trans row.1.1
  refine ok_zbX (Q := fun v => (v = -1 ∧ ¬ isCb v7) ∨ ((0 ≤ v.toInt ∧ v.toInt ≤ 6) ∧ isCb v7)) x_X5_combination (fun v8 h8' => ?_)
  rw [e7, isCb_ck] at h8'
  refine ok_if (fun q => ?_) (fun q => ?_)
  · rw [Int32.lt_iff_toInt_lt] at q
    simp only [Int32.reduceToInt] at q
    have ncb := (h8'.resolve_right (fun z => by omega)).2
    rw [J_X5_sum_151.eq_1]
    refine ok_if (fun _ => ok_rZ (Or.inr rfl) ⟨f1, Or.inl ⟨rfl, j, s1, ⟨⟨rc, le⟩, ncb⟩, A1, e8, l24⟩⟩) (fun _ => ?_)
    refine ok_gC rfl (ok_zb (xs_emit B1) (fun w σ3 h3 => ?_))
    have w1 : w = 1 := h3.1
    have f3 : F9 σ' σ3 := h3.2
    refine ok_if (fun q => absurd (w1.symm.trans q) (by decide)) (fun _ => ?_)
    refine ok_rZ (Or.inr rfl) ⟨f1.tr f3.1.1, Or.inl ⟨rfl, j, s1, ⟨⟨rc, le⟩, ncb⟩, ?_, ?_, l24⟩⟩
    · show CA (σ3.1 57 9) t n c _
      rw [f3.2]; exact A1
    · show (σ3.1 57 8).toInt = _
      rw [f3.1.2]; exact e8
  have cb := (h8'.resolve_left (fun z => q (by rw [z.1]; decide))).2
  have go : ∀ (σ2 : zS) (x4 y0 : Int32), F9 σ' σ2 → Ok (J_X5_sum_84 N (f_X5_sum N dd) (f_X5_part N dd) (f_X5_wordPart N dd) again 57 x1 x2 x3 x4 y0 σ2) (SQ t n c m i L sg σ) := by
    intro σ2 x4 y0 f2
    have F2 := f1.tr f2.1.1
    have B2 := CB_fr F2 hB
    have A2 : CA (σ2.1 57 9) t n c j := by rw [f2.2]; exact A1
    have e2 : (σ2.1 57 8).toInt = (s1 : Int) := by rw [f2.1.2]; exact e8
    have hs8 : (σ2.1 57 8 + 1).toInt = (s1 : Int) + 1 := by rw [ti_add]; simp only [Int32.reduceToInt]; omega
    rw [J_X5_sum_84.eq_1]
    refine ok_gI rfl ?_
    refine ok_pI (Sx := [57]) Tr.rf rfl (by decide) (fun σ3 e3 hO3 _ => ?_)
    refine ok_gI rfl ?_
    have v17 : σ3.1 57 8 = σ2.1 57 8 + 1 := zI_atI e3
    have f3 : Fr σ2 σ3 := ⟨hO3.wk (by decide), zI_atN e3 (by decide), zI_atN e3 (by decide)⟩
    have A3 : CA (σ3.1 57 9) t n c j := by rw [show σ3.1 57 9 = σ2.1 57 9 from zI_atN e3 (by decide)]; exact A2
    have B3 := CB_fr f3 B2
    have F3 := F2.tr f3
    rw [v17]
    refine ok_if (fun q => ?_) (fun q => ?_)
    · rw [Int32.lt_iff_toInt_lt, hs8] at q
      simp only [Int32.reduceToInt] at q
      rw [J_X5_sum_109.eq_1]
      refine ok_gC rfl (ok_zb (xa_0 B3 A3) (fun v σ4 h4 => ?_))
      have v0 : v = 0 := h4.1
      have f4 : F8 σ3 σ4 := h4.2
      exact ok_if (fun _ => ok_rZ (Or.inl rfl) ⟨F3.tr f4.1, Or.inr ⟨rfl, Flt.tr rc (Flt.nn ((stp_c cb).trans (if_pos (by omega))))⟩⟩) (fun q => absurd v0 q)
    · rw [Int32.lt_iff_toInt_lt, hs8] at q
      simp only [Int32.reduceToInt] at q
      have k0 : ¬ tkK t n j = 0 := fun z => by rw [z] at cb; revert cb; unfold isCb; decide
      have s2 : stp t n m (j, true, L, s1) = some (some (tkE t n j, false, L, s1 + 1)) := (stp_c cb).trans (if_neg (by omega))
      rw [J_X5_sum_109.eq_1]
      refine ok_gC rfl (ok_zb (xa_1 B3 A3 k0) (fun v σ4 h4 => ?_))
      obtain ⟨v1, f4, A4, _⟩ := h4
      have v1 : v = 1 := v1
      have f4 : F8 σ3 σ4 := f4
      refine ok_if (fun q => absurd (v1.symm.trans q) (by decide)) (fun _ => ?_)
      have F4 := F3.tr f4.1
      refine ok_gC rfl (ok_zb (ih (tkE t n j) L (s1 + 1) x1 σ4 ⟨⟨CB_fr F4 hB, A4, F4.2.2.trans h7⟩, ⟨by rw [f4.2, v17, hs8]; omega, by omega⟩, hd, hL⟩ (by omega)) (fun w σ5 h5 => ?_))
      obtain ⟨f5, h5⟩ := h5
      have F5 : Fr σ σ5 := F4.tr f5
      refine ok_if (fun q => ?_) (fun q => ?_)
      · have h5 := h5.resolve_left (fun z => absurd (z.1.symm.trans q) (by decide))
        exact ok_rZ (Or.inl rfl) ⟨F5, Or.inr ⟨rfl, Flt.tr (rc.sn s2) h5.2⟩⟩
      · have h5 := h5.resolve_right (fun z => q z.1)
        obtain ⟨_, j5, s5, ⟨rc5, le5⟩, A5, e5, l5⟩ := h5
        rw [hp] at rc5
        have A5 : CA (σ5.1 57 9) t n c j5 := A5
        have e5 : (σ5.1 57 8).toInt = (s5 : Int) := e5
        have hs : (x3 + 1).toInt = x3.toInt + 1 := by rw [ti_add]; simp only [Int32.reduceToInt]; omega
        have fin : ∀ (y : Int32) (σ6 : zS), F9 σ5 σ6 → Ok (again (y, x3 + 1, σ6)) (SQ t n c m i L sg σ) := fun y σ6 f6 => ihl (y, x3 + 1, σ6) ⟨F5.tr f6.1.1, (by rw [hs]; omega : 0 ≤ (x3 + 1).toInt), j5, s5, ⟨⟨(rc.sn s2).tr rc5, by omega⟩, by show CA (σ6.1 57 9) t n c _; rw [f6.2]; exact A5, by show (σ6.1 57 8).toInt = _; rw [f6.1.2]; exact e5, l5⟩, by show (x3 + 1).toInt ≤ _; rw [hs]; omega⟩ (by show (601 - (x3 + 1).toInt).toNat < (601 - x3.toInt).toNat; omega)
        refine ok_if (fun _ => ?_) (fun _ => fin x4 σ5 ⟨F8.rf, rfl⟩)
        refine ok_gC rfl (ok_zb (xs_emit (CB_fr F5 hB)) (fun w σ6 h6 => ?_))
        exact fin x2 σ6 h6.2
  have go66 : ∀ (x4 y0 : Int32), Ok (J_X5_sum_66 N (f_X5_sum N dd) (f_X5_part N dd) (f_X5_wordPart N dd) again 57 x1 x2 x3 x4 y0 σ') (SQ t n c m i L sg σ) := by
    intro x4 y0
    rw [J_X5_sum_66.eq_1]
    refine ok_if (fun _ => go σ' x4 y0 ⟨F8.rf, rfl⟩) (fun _ => ok_if (fun _ => go σ' x4 y0 ⟨F8.rf, rfl⟩) (fun _ => ?_))
    refine ok_gC rfl (ok_zb (xs_emit B1) (fun w σ2 h2 => ?_))
    exact go σ2 x4 y0 h2.2
  refine ok_gR (Sx := []) (v := 61) Tr.rf rfl (B1.1.1 57 10 rfl) ?_
  refine ok_gI rfl ?_
  refine ok_aIn (n := 601) rfl hb.1 (by omega) (fun v12 e12 => ?_)
  refine ok_zbX (Q := fun v => (v = -1 ∧ ¬ isCb v12) ∨ ((0 ≤ v.toInt ∧ v.toInt ≤ 6) ∧ isCb v12)) x_X5_combination (fun v13 _ => ?_)
  exact ok_if (fun _ => go66 _ _) (fun _ => ok_if (fun _ => go66 _ _) (fun _ => go66 _ _))
theorem csum_all (hN : 1048576 ≤ N) : ∀ dd : Nat, (∀ (i : Nat) (L : List Bool) (sg : Nat) (x : Int32) (σ : zS), PH t n c m i L sg x σ → popP L = L → 3 * (7 - L.length) + 2 < dd → Ok (f_X5_sum N dd 57 x σ) (SQ t n c m i L sg σ)) ∧ (∀ (i : Nat) (L : List Bool) (sg : Nat) (x : Int32) (σ : zS), PH t n c m i L sg x σ → 3 * (7 - L.length) + 1 < dd → Ok (f_X5_part N dd 57 x σ) (PQ t n c m i L (popP L) sg σ)) ∧ (∀ (i : Nat) (L : List Bool) (sg : Nat) (x y : Int32) (σ : zS), PH t n c m i L sg x σ → tkK t n i = 1 → y = wv t n i → 3 * (7 - L.length) < dd → Ok (f_X5_wordPart N dd 57 y x σ) (PQ t n c m i L (popP L) sg σ)) := by
  intro dd
  induction dd with
  | zero => exact ⟨fun _ _ _ _ _ _ _ h => absurd h (Nat.not_lt_zero _), fun _ _ _ _ _ _ h => absurd h (Nat.not_lt_zero _), fun _ _ _ _ _ _ _ _ _ h => absurd h (Nat.not_lt_zero _)⟩
  | succ dd ih =>
    refine ⟨fun i L sg x σ H hp hm => ?_, fun i L sg x σ H hm => ?_, fun i L sg x y σ H hk hy hm => ?_⟩
    · show Ok (B_X5_sum N (f_X5_sum N dd) (f_X5_part N dd) (f_X5_wordPart N dd) 57 x σ) _
      exact sum_s hN H hp ih.2.1 hm
    · show Ok (B_X5_part N (f_X5_sum N dd) (f_X5_part N dd) (f_X5_wordPart N dd) 57 x σ) _
      exact part_s hN H ih.1 ih.2.2 hm
    · show Ok (B_X5_wordPart N (f_X5_sum N dd) (f_X5_part N dd) (f_X5_wordPart N dd) 57 y x σ) _
      exact wordPart_s hk hy H ih.2.1 hm
end CSUM
end Zq12_9

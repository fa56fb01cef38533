theorem xe_X12_isOpen {N : Nat} {σ : zS} (hN : 1048576 ≤ N) (hR : RF σ.2.2) (hW : WT σ.1) : Ok (f_X12_isOpen N 218 σ) (fun r => r.2 = σ ∧ ((r.1 = 0 → ¬ true ∈ lst (σ.1 230) (σ.1 218 22).toInt.toNat) ∧ (¬ r.1 = 0 → true ∈ lst (σ.1 230) (σ.1 218 22).toInt.toNat))) := by
  rw [f_X12_isOpen.eq_1]
  refine ok_lp (fun t : Int32 × zS => t.2 = σ ∧ 0 ≤ t.1.toInt ∧ ∀ k : Nat, (k : Int) < t.1.toInt → ¬ σ.1 230 k = 100) (fun t => (40 - t.1.toInt).toNat) (fun again t hI ih => ?_) N _ ⟨rfl, (by decide : 0 ≤ (0 : Int32).toInt), fun k hk => absurd hk (by simp only [Int32.reduceToInt]; omega)⟩ (by simp only [Int32.reduceToInt]; omega)
  obtain ⟨x1, σ'⟩ := t
  obtain ⟨e, h0, hA⟩ := hI
  have e : σ' = σ := e
  have h0 : 0 ≤ x1.toInt := h0
  have hA : ∀ k : Nat, (k : Int) < x1.toInt → ¬ σ.1 230 k = 100 := hA
  subst e
  rw [F_X12_isOpen_2.eq_1]
  refine ok_gI rfl ?_
  refine ok_if (fun h => ok_rZ (Or.inl rfl) ⟨rfl, fun _ q => ?_, fun q => absurd rfl q⟩) (fun h => ?_)
  · rw [Int32.le_iff_toInt_le] at h
    obtain ⟨k, hk, e⟩ := lst_t.mp q
    exact hA k (by omega) e
  rw [Int32.le_iff_toInt_le] at h
  have hs : (x1 + 1).toInt = x1.toInt + 1 := by rw [ti_add]; simp only [Int32.reduceToInt]; omega
  refine ok_gR (Sx := []) (v := 230) Tr.rf rfl (hR 218 21 rfl) ?_
  refine ok_aIn (n := 40) rfl h0 (by omega) (fun v e => ?_)
  have e : v = σ'.1 230 x1.toInt.toNat := e
  refine ok_if (fun h1 => ok_rZ (Or.inr rfl) ⟨rfl, fun q => absurd (show (1 : Int32) = 0 from q) (by decide), fun _ => lst_t.mpr ⟨x1.toInt.toNat, by omega, e.symm.trans h1⟩⟩) (fun h1 => ?_)
  refine ih (x1 + 1, σ') ⟨rfl, (by rw [hs]; omega : 0 ≤ (x1 + 1).toInt), fun k hk => ?_⟩ (by show (40 - (x1 + 1).toInt).toNat < (40 - x1.toInt).toNat; rw [hs]; omega)
  have hk : (k : Int) < (x1 + 1).toInt := hk
  rw [hs] at hk
  by_cases q : (k : Int) = x1.toInt
  · rw [show k = x1.toInt.toNat by omega, ← e]; exact h1
  · exact hA k (by omega)

set_option maxHeartbeats 4000000 in
set_option maxRecDepth 100000 in
theorem s_X12_goesBehind_r {N : Nat} (hN : 1048576 ≤ N)  {σ0 : zS} {tx : Nat → Int32} {n i : Nat} {mm : Int32} (hR : RF σ0.2.2) (hK : TOK σ0.1) (hY : BYT (σ0.1 224)) (hG : RX σ0.1 tx n i) (hg : σ0.1 218 14 = 0) (hB : ZB σ0.1) (ha : 0 ≤ (σ0.1 218 20).toInt ∧ (σ0.1 218 20).toInt ≤ 1024) (hP : PIL σ0.1 1) (hNP : NP (σ0.1 230) (σ0.1 218 22).toInt.toNat) (hpp : popP (lst (σ0.1 230) (σ0.1 218 22).toInt.toNat) = (lst (σ0.1 230) (σ0.1 218 22).toInt.toNat)) (hi : i ≤ n) (hs25 : 0 ≤ (σ0.1 218 25).toInt ∧ (σ0.1 218 25).toInt ≤ 24) : Ok (f_X12_goesBehind N 218 σ0) (fun r => Tr [218, 226, 227, 228, 229, 230] σ0 r.2 ∧ ((TOK r.2.1 ∧ ((σ0.1 218 11).toInt ≤ (r.2.1 218 11).toInt ∧ 0 ≤ (r.2.1 218 22).toInt ∧ (r.2.1 218 22).toInt ≤ 40) ∧ (r.2.1 218 14 = 0 → (r.1 = -1 ∧ stp tx n mm (i, true, (lst (σ0.1 230) (σ0.1 218 22).toInt.toNat), (σ0.1 218 25).toInt.toNat) = some none ∧ REL r.2.1 tx n (i, true, (lst (σ0.1 230) (σ0.1 218 22).toInt.toNat), (σ0.1 218 25).toInt.toNat)) ∨ (∃ c, stp tx n mm (i, true, (lst (σ0.1 230) (σ0.1 218 22).toInt.toNat), (σ0.1 218 25).toInt.toNat) = some (some c) ∧ REL r.2.1 tx n c ∧ (σ0.1 218 11).toInt < (r.2.1 218 11).toInt ∧ ((r.1 = 0 ∧ c.2.1 = true) ∨ (r.1 = 1 ∧ c.2.1 = false)))) ∧ (¬ r.2.1 218 14 = 0 → stp tx n mm (i, true, (lst (σ0.1 230) (σ0.1 218 22).toInt.toNat), (σ0.1 218 25).toInt.toNat) = none) ∧ (0 ≤ (r.2.1 218 25).toInt ∧ (r.2.1 218 25).toInt ≤ 24) ∧ ZB r.2.1) ∧ (r.2.1 218 7 = σ0.1 218 7 ∧ r.2.1 218 9 = σ0.1 218 9 ∧ r.2.1 218 20 = σ0.1 218 20))) := by
  have hT : Tr [218, 226, 227, 228, 229, 230] σ0 σ0 := Tr.rf
  have hK1 := hK.1
  have tE : σ0.1 224 = tx := hG.1.1
  have nE : (σ0.1 218 9).toInt.toNat = n := hG.1.2
  have pK : TKV (σ0.1 218 11) (σ0.1 218 10) (σ0.1 218 12) (σ0.1 218 13) tx n i := hG.2
  have hb0 := PIL_b hP (by decide)
  have hP0 := hP
  obtain ⟨b8, d8, r8, hS, h22, hd, hd6, hp⟩ := hP0
  have le1 := (tk_le (t := tx) hi).2.2
  rw [f_X12_goesBehind.eq_1]
  refine ok_gI rfl ?_
  refine ok_zbX (Q := fun V => (V = -1 ∧ ¬ isCb (σ0.1 218 12)) ∨ ((0 ≤ V.toInt ∧ V.toInt ≤ 6) ∧ isCb (σ0.1 218 12))) (xe_X12_signOf) (fun v2 hqv2 => ?_)
  have hqv2 : (v2 = -1 ∧ ¬ isCb (σ0.1 218 12)) ∨ ((0 ≤ v2.toInt ∧ v2.toInt ≤ 6) ∧ isCb (σ0.1 218 12)) := hqv2
  refine ok_if (fun hc4 => ?_) (fun hc4 => ?_)
  · have m10 : ¬ isCb (tkK tx n i) := by rcases hqv2 with q | q; exact pK.2.1 ▸ q.2; exact absurd (congrArg Int32.toInt hc4) (by rw [show (-1 : Int32).toInt = -1 by decide]; omega)
    refine ok_gI rfl ?_
    refine ok_if (fun hc6 => ?_) (fun hc6 => ?_)
    · have l86 := hK.2.1 (by rw [hc6]; decide)
      have k86 : tkK tx n i = 41 := pK.2.1.symm.trans hc6
      refine ok_gC rfl ?_
      refine ok_zbX (Q := fun V => (V = 0 → ¬ true ∈ lst (σ0.1 230) (σ0.1 218 22).toInt.toNat) ∧ (¬ V = 0 → true ∈ lst (σ0.1 230) (σ0.1 218 22).toInt.toNat)) (xe_X12_isOpen hN (hR.tr hT) ⟨by omega, by omega⟩) (fun v7 hqv7 => ?_)
      have hqv7 : (v7 = 0 → ¬ true ∈ lst (σ0.1 230) (σ0.1 218 22).toInt.toNat) ∧ (¬ v7 = 0 → true ∈ lst (σ0.1 230) (σ0.1 218 22).toInt.toNat) := hqv7
      refine ok_if (fun hc9 => ?_) (fun hc9 => ?_)
      · have qhc9 := hqv7.1 hc9
        have st1 : stp tx n mm (i, true, (lst (σ0.1 230) (σ0.1 218 22).toInt.toNat), (σ0.1 218 25).toInt.toNat) = some none := stp_e m10 (fun q => qhc9 q.2)
        exact ok_some ⟨hT, (show (TOK σ0.1 ∧ ((σ0.1 218 11).toInt ≤ (σ0.1 218 11).toInt ∧ 0 ≤ (σ0.1 218 22).toInt ∧ (σ0.1 218 22).toInt ≤ 40) ∧ (σ0.1 218 14 = 0 → ((-1 : Int32) = -1 ∧ stp tx n mm (i, true, (lst (σ0.1 230) (σ0.1 218 22).toInt.toNat), (σ0.1 218 25).toInt.toNat) = some none ∧ REL σ0.1 tx n (i, true, (lst (σ0.1 230) (σ0.1 218 22).toInt.toNat), (σ0.1 218 25).toInt.toNat)) ∨ (∃ c, stp tx n mm (i, true, (lst (σ0.1 230) (σ0.1 218 22).toInt.toNat), (σ0.1 218 25).toInt.toNat) = some (some c) ∧ REL σ0.1 tx n c ∧ (σ0.1 218 11).toInt < (σ0.1 218 11).toInt ∧ (((-1 : Int32) = 0 ∧ c.2.1 = true) ∨ ((-1 : Int32) = 1 ∧ c.2.1 = false)))) ∧ (¬ σ0.1 218 14 = 0 → stp tx n mm (i, true, (lst (σ0.1 230) (σ0.1 218 22).toInt.toNat), (σ0.1 218 25).toInt.toNat) = none) ∧ (0 ≤ (σ0.1 218 25).toInt ∧ (σ0.1 218 25).toInt ≤ 24) ∧ ZB σ0.1) ∧ (σ0.1 218 7 = σ0.1 218 7 ∧ σ0.1 218 9 = σ0.1 218 9 ∧ σ0.1 218 20 = σ0.1 218 20) from ⟨by first | exact absurd hg n31 | exact absurd y31 n24 | exact ⟨hK, ⟨by skip; omega, by skip; omega⟩, fun q => absurd q (by skip; exact n31), fun _ => (stp_c k10).trans (if_pos s19), by skip; omega, hB⟩ | exact ⟨hK, ⟨by skip; omega, by skip; omega⟩, fun _ => Or.inl ⟨rfl, st1, ⟨⟨hG, hi⟩, ⟨rfl, hNP⟩, rfl, fun _ => ⟨hP, hpp⟩, fun h => Bool.noConfusion (show true = false from h)⟩⟩, fun q => absurd (by skip; exact hg) q, by skip; omega, hB⟩ | exact ⟨hK, ⟨by skip; omega, by skip; rw [s22]; omega⟩, fun _ => Or.inr ⟨_, (stp_c k10).trans (if_neg m19), ⟨⟨g75, le1⟩, ⟨by skip; rw [rfl, j63]; exact l63.symm, by skip; rw [rfl, j63]; exact n63⟩, by skip; rw [s25]; omega, fun h => Bool.noConfusion (show false = true from h), fun _ => PIL_i rfl rfl rfl rfl (by rw [j63]; exact k63) (by rw [s22]; omega) hd9 hd69 (by omega)⟩, by skip; omega, Or.inr ⟨rfl, rfl⟩⟩, fun q => absurd (by skip; exact y31) q, by skip; rw [s25]; omega, hB⟩ | exact ⟨hK, ⟨by skip; omega, by omega⟩, fun _ => Or.inr ⟨_, stp_p m10 ⟨k86, t93⟩, ⟨⟨RX_i rfl rfl rfl rfl rfl ((hT.2 224 (by decide)).trans tE) nE pK, le1⟩, ⟨by rw [rfl]; exact l129.2.symm, by rw [rfl]; exact NP_le hNP (by omega)⟩, by skip, fun _ => ⟨h129, popP_i _⟩, fun h => Bool.noConfusion (show true = false from h)⟩, by skip; omega, Or.inl ⟨rfl, rfl⟩⟩, fun q => absurd (by skip; exact hg) q, by skip; omega, hB⟩, rfl, rfl, rfl⟩)⟩
      · have qhc9 := hqv7.2 hc9
        have t93 := qhc9
        refine ok_gC rfl ?_
        refine ok_zbT (Q := fun V σ => (TOK σ.1 ∧ ZB σ.1 ∧ PIL σ.1 1 ∧ ((σ.1 218 22).toInt.toNat ≤ (σ0.1 218 22).toInt.toNat ∧ lst (σ0.1 230) (σ.1 218 22).toInt.toNat = popP (lst (σ0.1 230) (σ0.1 218 22).toInt.toNat)) ∧ ((σ.1 218 22).toInt ≤ 0 ∨ (rkI (σ0.1 230 ((σ.1 218 22) - 1).toNatClampNeg)).toInt < (1 : Int32).toInt)) ∧ (σ.1 218 7 = σ0.1 218 7 ∧ σ.1 218 9 = σ0.1 218 9 ∧ σ.1 218 10 = σ0.1 218 10 ∧ σ.1 218 11 = σ0.1 218 11 ∧ σ.1 218 12 = σ0.1 218 12 ∧ σ.1 218 13 = σ0.1 218 13 ∧ σ.1 218 14 = σ0.1 218 14 ∧ σ.1 218 15 = σ0.1 218 15 ∧ σ.1 218 20 = σ0.1 218 20 ∧ σ.1 218 25 = σ0.1 218 25)) hT (s_X12_settlesTo_r hN (hR.tr hT) (hK) (by rw [hT.2 224 (by decide)]; exact hY) (hB) (by skip; exact ha) (hP) (by decide) (hNP) (Or.inr hpp)) (by decide) (fun v10 σ11 hOσ11 hT hqv10 => ?_)
        have hqv10 : (TOK σ11.1 ∧ ZB σ11.1 ∧ PIL σ11.1 1 ∧ ((σ11.1 218 22).toInt.toNat ≤ (σ0.1 218 22).toInt.toNat ∧ lst (σ0.1 230) (σ11.1 218 22).toInt.toNat = popP (lst (σ0.1 230) (σ0.1 218 22).toInt.toNat)) ∧ ((σ11.1 218 22).toInt ≤ 0 ∨ (rkI (σ0.1 230 ((σ11.1 218 22) - 1).toNatClampNeg)).toInt < (1 : Int32).toInt)) ∧ (σ11.1 218 7 = σ0.1 218 7 ∧ σ11.1 218 9 = σ0.1 218 9 ∧ σ11.1 218 10 = σ0.1 218 10 ∧ σ11.1 218 11 = σ0.1 218 11 ∧ σ11.1 218 12 = σ0.1 218 12 ∧ σ11.1 218 13 = σ0.1 218 13 ∧ σ11.1 218 14 = σ0.1 218 14 ∧ σ11.1 218 15 = σ0.1 218 15 ∧ σ11.1 218 20 = σ0.1 218 20 ∧ σ11.1 218 25 = σ0.1 218 25) := hqv10
        have hkv10 := hqv10
        have hqv10 := hqv10.1
        have r230_σ11 : σ11.1 230 = σ0.1 230 := hOσ11.2 230 (by decide)
        have hK : TOK σ11.1 := by first | exact hqv10.1 | exact hqv10.1.1 | exact TOK_p eσ11 (by decide) hK
        have hB : ZB σ11.1 := hqv10.2.1
        have g7_σ11 : σ11.1 218 7 = (σ0.1 218 7) := hkv10.2.1
        have g9_σ11 : σ11.1 218 9 = (σ0.1 218 9) := hkv10.2.2.1
        have g10_σ11 : σ11.1 218 10 = (σ0.1 218 10) := hkv10.2.2.2.1
        have g11_σ11 : σ11.1 218 11 = (σ0.1 218 11) := hkv10.2.2.2.2.1
        have g12_σ11 : σ11.1 218 12 = (σ0.1 218 12) := hkv10.2.2.2.2.2.1
        have g13_σ11 : σ11.1 218 13 = (σ0.1 218 13) := hkv10.2.2.2.2.2.2.1
        have g14_σ11 : σ11.1 218 14 = (σ0.1 218 14) := hkv10.2.2.2.2.2.2.2.1
        have g15_σ11 : σ11.1 218 15 = (σ0.1 218 15) := hkv10.2.2.2.2.2.2.2.2.1
        have g20_σ11 : σ11.1 218 20 = (σ0.1 218 20) := hkv10.2.2.2.2.2.2.2.2.2.1
        have g25_σ11 : σ11.1 218 25 = (σ0.1 218 25) := hkv10.2.2.2.2.2.2.2.2.2.2
        have h51 := hqv10.2.2.1
        have b51 := PIL_b h51 (by decide)
        have l51 := hqv10.2.2.2.1
        obtain ⟨b9, d9, r9, hS9, h9, hd9, hd69, hp9⟩ := h51
        rw [r230_σ11] at hS9
        have x51 := hqv10.2.2.2.2
        have w100 : 0 < (σ11.1 218 22).toInt := by by_cases z : 0 < (σ11.1 218 22).toInt; exact z; have l9 := l51.2; rw [hpp, show (σ11.1 218 22).toInt.toNat = 0 by omega] at l9; rw [← l9] at t93; exact absurd t93 List.not_mem_nil
        obtain ⟨n9, hn9⟩ : ∃ n : Nat, (σ11.1 218 22).toInt.toNat = n + 1 := ⟨(σ11.1 218 22).toInt.toNat - 1, by omega⟩
        rw [hn9] at hS9
        have s22 : ((σ11.1 218 22) - 1).toInt = (n9 : Int) := by rw [ti_sub]; simp only [Int32.reduceToInt]; omega
        have j22 : ((σ11.1 218 22) - 1).toInt.toNat = n9 := by rw [s22]; omega
        have i22 : ((σ11.1 218 22) - 1).toNatClampNeg = n9 := j22
        rw [i22] at x51
        have t9 : σ0.1 230 n9 = 100 := rk0 (by rcases x51 with q | q; omega; exact q)
        obtain ⟨d7, r7, e7, hS7⟩ := Stk_po hS9 (by rw [t9]; decide)
        have d24 : ((σ11.1 218 24) - 1).toInt = (d7 : Int) := by rw [ti_sub]; simp only [Int32.reduceToInt]; omega
        have tl9 : (lst (σ0.1 230) (σ0.1 218 22).toInt.toNat).tail = lst (σ0.1 230) n9 := by have l9 := l51.2; rw [hpp, hn9, lst_o (by rw [t9]; decide)] at l9; rw [← l9]; rfl
        have ln9 := l51.1
        refine ok_gI rfl ?_
        refine ok_pI hT rfl (by decide) (fun σ13 eσ13 hOσ13 hT => ?_)
        have r230_σ13 : σ13.1 230 = σ0.1 230 := (hOσ13.2 230 (by decide)).trans r230_σ11
        have hK : TOK σ13.1 := by first | exact HQ.1 | exact HQ.1.1 | exact TOK_p eσ13 (by decide) hK
        have hB : ZB σ13.1 := ZB.tr hOσ13 (by decide) hB
        have g7_σ13 : σ13.1 218 7 = (σ0.1 218 7) := (zI_atN eσ13 (by decide)).trans g7_σ11
        have g9_σ13 : σ13.1 218 9 = (σ0.1 218 9) := (zI_atN eσ13 (by decide)).trans g9_σ11
        have g10_σ13 : σ13.1 218 10 = (σ0.1 218 10) := (zI_atN eσ13 (by decide)).trans g10_σ11
        have g11_σ13 : σ13.1 218 11 = (σ0.1 218 11) := (zI_atN eσ13 (by decide)).trans g11_σ11
        have g12_σ13 : σ13.1 218 12 = (σ0.1 218 12) := (zI_atN eσ13 (by decide)).trans g12_σ11
        have g13_σ13 : σ13.1 218 13 = (σ0.1 218 13) := (zI_atN eσ13 (by decide)).trans g13_σ11
        have g14_σ13 : σ13.1 218 14 = (σ0.1 218 14) := (zI_atN eσ13 (by decide)).trans g14_σ11
        have g15_σ13 : σ13.1 218 15 = (σ0.1 218 15) := (zI_atN eσ13 (by decide)).trans g15_σ11
        have g20_σ13 : σ13.1 218 20 = (σ0.1 218 20) := (zI_atN eσ13 (by decide)).trans g20_σ11
        have g22_σ13 : σ13.1 218 22 = ((σ11.1 218 22) - 1) := zI_atI eσ13
        have g23_σ13 : σ13.1 218 23 = (σ11.1 218 23) := zI_atN eσ13 (by decide)
        have g24_σ13 : σ13.1 218 24 = (σ11.1 218 24) := zI_atN eσ13 (by decide)
        have g25_σ13 : σ13.1 218 25 = (σ0.1 218 25) := (zI_atN eσ13 (by decide)).trans g25_σ11
        refine ok_gIv rfl g24_σ13 ?_
        refine ok_pI hT rfl (by decide) (fun σ15 eσ15 hOσ15 hT => ?_)
        have r230_σ15 : σ15.1 230 = σ0.1 230 := (hOσ15.2 230 (by decide)).trans r230_σ13
        have hK : TOK σ15.1 := by first | exact HQ.1 | exact HQ.1.1 | exact TOK_p eσ15 (by decide) hK
        have hB : ZB σ15.1 := ZB.tr hOσ15 (by decide) hB
        have g7_σ15 : σ15.1 218 7 = (σ0.1 218 7) := (zI_atN eσ15 (by decide)).trans g7_σ13
        have g9_σ15 : σ15.1 218 9 = (σ0.1 218 9) := (zI_atN eσ15 (by decide)).trans g9_σ13
        have g10_σ15 : σ15.1 218 10 = (σ0.1 218 10) := (zI_atN eσ15 (by decide)).trans g10_σ13
        have g11_σ15 : σ15.1 218 11 = (σ0.1 218 11) := (zI_atN eσ15 (by decide)).trans g11_σ13
        have g12_σ15 : σ15.1 218 12 = (σ0.1 218 12) := (zI_atN eσ15 (by decide)).trans g12_σ13
        have g13_σ15 : σ15.1 218 13 = (σ0.1 218 13) := (zI_atN eσ15 (by decide)).trans g13_σ13
        have g14_σ15 : σ15.1 218 14 = (σ0.1 218 14) := (zI_atN eσ15 (by decide)).trans g14_σ13
        have g15_σ15 : σ15.1 218 15 = (σ0.1 218 15) := (zI_atN eσ15 (by decide)).trans g15_σ13
        have g20_σ15 : σ15.1 218 20 = (σ0.1 218 20) := (zI_atN eσ15 (by decide)).trans g20_σ13
        have g22_σ15 : σ15.1 218 22 = ((σ11.1 218 22) - 1) := (zI_atN eσ15 (by decide)).trans g22_σ13
        have g23_σ15 : σ15.1 218 23 = (σ11.1 218 23) := (zI_atN eσ15 (by decide)).trans g23_σ13
        have g24_σ15 : σ15.1 218 24 = ((σ11.1 218 24) - 1) := zI_atI eσ15
        have g25_σ15 : σ15.1 218 25 = (σ0.1 218 25) := (zI_atN eσ15 (by decide)).trans g25_σ13
        refine ok_gC rfl ?_
        refine ok_zbT (Q := fun V σ => ((TOK σ.1 ∧ (σ15.1 218 10).toInt ≤ (σ.1 218 11).toInt) ∧ RX σ.1 tx n (tkE tx n i)) ∧ (σ.1 218 7 = σ15.1 218 7 ∧ σ.1 218 9 = σ15.1 218 9 ∧ σ.1 218 14 = σ15.1 218 14 ∧ σ.1 218 15 = σ15.1 218 15 ∧ σ.1 218 20 = σ15.1 218 20 ∧ σ.1 218 22 = σ15.1 218 22 ∧ σ.1 218 23 = σ15.1 218 23 ∧ σ.1 218 24 = σ15.1 218 24 ∧ σ.1 218 25 = σ15.1 218 25)) hT (s_X12_advance_r hN (hR.tr hT) (TOK_A hK) (by rw [hT.2 224 (by decide)]; exact hY) (RX_i g9_σ15 g10_σ15 g11_σ15 g12_σ15 g13_σ15 ((hT.2 224 (by decide)).trans tE) nE pK)) (by decide) (fun v16 σ17 hOσ17 hT hqv16 => ?_)
        have hqv16 : ((TOK σ17.1 ∧ (σ15.1 218 10).toInt ≤ (σ17.1 218 11).toInt) ∧ RX σ17.1 tx n (tkE tx n i)) ∧ (σ17.1 218 7 = σ15.1 218 7 ∧ σ17.1 218 9 = σ15.1 218 9 ∧ σ17.1 218 14 = σ15.1 218 14 ∧ σ17.1 218 15 = σ15.1 218 15 ∧ σ17.1 218 20 = σ15.1 218 20 ∧ σ17.1 218 22 = σ15.1 218 22 ∧ σ17.1 218 23 = σ15.1 218 23 ∧ σ17.1 218 24 = σ15.1 218 24 ∧ σ17.1 218 25 = σ15.1 218 25) := hqv16
        have hkv16 := hqv16
        have hqv16 := hqv16.1
        have r230_σ17 : σ17.1 230 = σ0.1 230 := (hOσ17.2 230 (by decide)).trans r230_σ15
        have hK : TOK σ17.1 := by first | exact hqv16.1 | exact hqv16.1.1 | exact TOK_p eσ17 (by decide) hK
        have hB : ZB σ17.1 := ZB.tr hOσ17 (by decide) hB
        try simp only [g7_σ15, g9_σ15, g10_σ15, g11_σ15, g12_σ15, g13_σ15, g14_σ15, g15_σ15, g20_σ15, g22_σ15, g23_σ15, g24_σ15, g25_σ15] at hqv16
        have g7_σ17 : σ17.1 218 7 = (σ0.1 218 7) := (hkv16.2.1).trans g7_σ15
        have g9_σ17 : σ17.1 218 9 = (σ0.1 218 9) := (hkv16.2.2.1).trans g9_σ15
        have g14_σ17 : σ17.1 218 14 = (σ0.1 218 14) := (hkv16.2.2.2.1).trans g14_σ15
        have g15_σ17 : σ17.1 218 15 = (σ0.1 218 15) := (hkv16.2.2.2.2.1).trans g15_σ15
        have g20_σ17 : σ17.1 218 20 = (σ0.1 218 20) := (hkv16.2.2.2.2.2.1).trans g20_σ15
        have g22_σ17 : σ17.1 218 22 = ((σ11.1 218 22) - 1) := (hkv16.2.2.2.2.2.2.1).trans g22_σ15
        have g23_σ17 : σ17.1 218 23 = (σ11.1 218 23) := (hkv16.2.2.2.2.2.2.2.1).trans g23_σ15
        have g24_σ17 : σ17.1 218 24 = ((σ11.1 218 24) - 1) := (hkv16.2.2.2.2.2.2.2.2.1).trans g24_σ15
        have g25_σ17 : σ17.1 218 25 = (σ0.1 218 25) := (hkv16.2.2.2.2.2.2.2.2.2).trans g25_σ15
        have m75 := hqv16.1.2
        have pK : TKV (σ17.1 218 11) (σ17.1 218 10) (σ17.1 218 12) (σ17.1 218 13) tx n (tkE tx n i) := hqv16.2.2
        refine ok_gC rfl ?_
        refine ok_zbT (Q := fun V σ => (TOK σ.1 ∧ ZB σ.1 ∧ PIL σ.1 1 ∧ ((σ.1 218 22).toInt.toNat ≤ (σ17.1 218 22).toInt.toNat ∧ lst (σ17.1 230) (σ.1 218 22).toInt.toNat = popP (lst (σ17.1 230) (σ17.1 218 22).toInt.toNat)) ∧ ((σ.1 218 22).toInt ≤ 0 ∨ (rkI (σ17.1 230 ((σ.1 218 22) - 1).toNatClampNeg)).toInt < (3 : Int32).toInt)) ∧ (σ.1 218 7 = σ17.1 218 7 ∧ σ.1 218 9 = σ17.1 218 9 ∧ σ.1 218 10 = σ17.1 218 10 ∧ σ.1 218 11 = σ17.1 218 11 ∧ σ.1 218 12 = σ17.1 218 12 ∧ σ.1 218 13 = σ17.1 218 13 ∧ σ.1 218 14 = σ17.1 218 14 ∧ σ.1 218 15 = σ17.1 218 15 ∧ σ.1 218 20 = σ17.1 218 20 ∧ σ.1 218 25 = σ17.1 218 25)) hT (s_X12_settlesTo_r hN (hR.tr hT) (hK) (by rw [hT.2 224 (by decide)]; exact hY) (hB) (by (try simp only [g7_σ17, g9_σ17, g14_σ17, g15_σ17, g20_σ17, g22_σ17, g23_σ17, g24_σ17, g25_σ17]); exact ha) (PIL_i g22_σ17 g23_σ17 g24_σ17 r230_σ17 (by rw [j22]; exact hS7) (by omega) d24 (by omega) hp9) (by decide) (by (try simp only [g7_σ17, g9_σ17, g14_σ17, g15_σ17, g20_σ17, g22_σ17, g23_σ17, g24_σ17, g25_σ17]); rw [r230_σ17, j22]; exact NP_le hNP (by omega)) (Or.inl (by decide))) (by decide) (fun v18 σ19 hOσ19 hT hqv18 => ?_)
        have hqv18 : (TOK σ19.1 ∧ ZB σ19.1 ∧ PIL σ19.1 1 ∧ ((σ19.1 218 22).toInt.toNat ≤ (σ17.1 218 22).toInt.toNat ∧ lst (σ17.1 230) (σ19.1 218 22).toInt.toNat = popP (lst (σ17.1 230) (σ17.1 218 22).toInt.toNat)) ∧ ((σ19.1 218 22).toInt ≤ 0 ∨ (rkI (σ17.1 230 ((σ19.1 218 22) - 1).toNatClampNeg)).toInt < (3 : Int32).toInt)) ∧ (σ19.1 218 7 = σ17.1 218 7 ∧ σ19.1 218 9 = σ17.1 218 9 ∧ σ19.1 218 10 = σ17.1 218 10 ∧ σ19.1 218 11 = σ17.1 218 11 ∧ σ19.1 218 12 = σ17.1 218 12 ∧ σ19.1 218 13 = σ17.1 218 13 ∧ σ19.1 218 14 = σ17.1 218 14 ∧ σ19.1 218 15 = σ17.1 218 15 ∧ σ19.1 218 20 = σ17.1 218 20 ∧ σ19.1 218 25 = σ17.1 218 25) := hqv18
        have hkv18 := hqv18
        have hqv18 := hqv18.1
        have r230_σ19 : σ19.1 230 = σ0.1 230 := (hOσ19.2 230 (by decide)).trans r230_σ17
        have hK : TOK σ19.1 := by first | exact hqv18.1 | exact hqv18.1.1 | exact TOK_p eσ19 (by decide) hK
        have hB : ZB σ19.1 := hqv18.2.1
        try simp only [g7_σ17, g9_σ17, g14_σ17, g15_σ17, g20_σ17, g22_σ17, g23_σ17, g24_σ17, g25_σ17] at hqv18
        have g7_σ19 : σ19.1 218 7 = (σ0.1 218 7) := (hkv18.2.1).trans g7_σ17
        have g9_σ19 : σ19.1 218 9 = (σ0.1 218 9) := (hkv18.2.2.1).trans g9_σ17
        have g10_σ19 : σ19.1 218 10 = (σ17.1 218 10) := hkv18.2.2.2.1
        have g11_σ19 : σ19.1 218 11 = (σ17.1 218 11) := hkv18.2.2.2.2.1
        have g12_σ19 : σ19.1 218 12 = (σ17.1 218 12) := hkv18.2.2.2.2.2.1
        have g13_σ19 : σ19.1 218 13 = (σ17.1 218 13) := hkv18.2.2.2.2.2.2.1
        have g14_σ19 : σ19.1 218 14 = (σ0.1 218 14) := (hkv18.2.2.2.2.2.2.2.1).trans g14_σ17
        have g15_σ19 : σ19.1 218 15 = (σ0.1 218 15) := (hkv18.2.2.2.2.2.2.2.2.1).trans g15_σ17
        have g20_σ19 : σ19.1 218 20 = (σ0.1 218 20) := (hkv18.2.2.2.2.2.2.2.2.2.1).trans g20_σ17
        have g25_σ19 : σ19.1 218 25 = (σ0.1 218 25) := (hkv18.2.2.2.2.2.2.2.2.2.2).trans g25_σ17
        have h129 := hqv18.2.2.1
        have b129 := PIL_b h129 (by decide)
        have l129 := hqv18.2.2.2.1
        have o129 : σ17.1 230 = σ0.1 230 := (hOσ19.2 230 (by decide)).symm.trans r230_σ19
        rw [o129, j22, ← tl9] at l129
        exact ok_some ⟨hT, (show (TOK σ19.1 ∧ ((σ0.1 218 11).toInt ≤ (σ19.1 218 11).toInt ∧ 0 ≤ (σ19.1 218 22).toInt ∧ (σ19.1 218 22).toInt ≤ 40) ∧ (σ19.1 218 14 = 0 → ((0 : Int32) = -1 ∧ stp tx n mm (i, true, (lst (σ0.1 230) (σ0.1 218 22).toInt.toNat), (σ0.1 218 25).toInt.toNat) = some none ∧ REL σ19.1 tx n (i, true, (lst (σ0.1 230) (σ0.1 218 22).toInt.toNat), (σ0.1 218 25).toInt.toNat)) ∨ (∃ c, stp tx n mm (i, true, (lst (σ0.1 230) (σ0.1 218 22).toInt.toNat), (σ0.1 218 25).toInt.toNat) = some (some c) ∧ REL σ19.1 tx n c ∧ (σ0.1 218 11).toInt < (σ19.1 218 11).toInt ∧ (((0 : Int32) = 0 ∧ c.2.1 = true) ∨ ((0 : Int32) = 1 ∧ c.2.1 = false)))) ∧ (¬ σ19.1 218 14 = 0 → stp tx n mm (i, true, (lst (σ0.1 230) (σ0.1 218 22).toInt.toNat), (σ0.1 218 25).toInt.toNat) = none) ∧ (0 ≤ (σ19.1 218 25).toInt ∧ (σ19.1 218 25).toInt ≤ 24) ∧ ZB σ19.1) ∧ (σ19.1 218 7 = σ0.1 218 7 ∧ σ19.1 218 9 = σ0.1 218 9 ∧ σ19.1 218 20 = σ0.1 218 20) from ⟨by first | exact absurd hg n31 | exact absurd y31 n24 | exact ⟨hK, ⟨by (try simp only [g7_σ19, g9_σ19, g10_σ19, g11_σ19, g12_σ19, g13_σ19, g14_σ19, g15_σ19, g20_σ19, g25_σ19]); omega, by (try simp only [g7_σ19, g9_σ19, g10_σ19, g11_σ19, g12_σ19, g13_σ19, g14_σ19, g15_σ19, g20_σ19, g25_σ19]); omega⟩, fun q => absurd q (by (try simp only [g7_σ19, g9_σ19, g10_σ19, g11_σ19, g12_σ19, g13_σ19, g14_σ19, g15_σ19, g20_σ19, g25_σ19]); exact n31), fun _ => (stp_c k10).trans (if_pos s19), by (try simp only [g7_σ19, g9_σ19, g10_σ19, g11_σ19, g12_σ19, g13_σ19, g14_σ19, g15_σ19, g20_σ19, g25_σ19]); omega, hB⟩ | exact ⟨hK, ⟨by (try simp only [g7_σ19, g9_σ19, g10_σ19, g11_σ19, g12_σ19, g13_σ19, g14_σ19, g15_σ19, g20_σ19, g25_σ19]); omega, by (try simp only [g7_σ19, g9_σ19, g10_σ19, g11_σ19, g12_σ19, g13_σ19, g14_σ19, g15_σ19, g20_σ19, g25_σ19]); omega⟩, fun _ => Or.inl ⟨rfl, st1, ⟨⟨hG, hi⟩, ⟨rfl, hNP⟩, rfl, fun _ => ⟨hP, hpp⟩, fun h => Bool.noConfusion (show true = false from h)⟩⟩, fun q => absurd (by (try simp only [g7_σ19, g9_σ19, g10_σ19, g11_σ19, g12_σ19, g13_σ19, g14_σ19, g15_σ19, g20_σ19, g25_σ19]); exact hg) q, by (try simp only [g7_σ19, g9_σ19, g10_σ19, g11_σ19, g12_σ19, g13_σ19, g14_σ19, g15_σ19, g20_σ19, g25_σ19]); omega, hB⟩ | exact ⟨hK, ⟨by (try simp only [g7_σ19, g9_σ19, g10_σ19, g11_σ19, g12_σ19, g13_σ19, g14_σ19, g15_σ19, g20_σ19, g25_σ19]); omega, by (try simp only [g7_σ19, g9_σ19, g10_σ19, g11_σ19, g12_σ19, g13_σ19, g14_σ19, g15_σ19, g20_σ19, g25_σ19]); rw [s22]; omega⟩, fun _ => Or.inr ⟨_, (stp_c k10).trans (if_neg m19), ⟨⟨g75, le1⟩, ⟨by (try simp only [g7_σ19, g9_σ19, g10_σ19, g11_σ19, g12_σ19, g13_σ19, g14_σ19, g15_σ19, g20_σ19, g25_σ19]); rw [r230_σ19, j63]; exact l63.symm, by (try simp only [g7_σ19, g9_σ19, g10_σ19, g11_σ19, g12_σ19, g13_σ19, g14_σ19, g15_σ19, g20_σ19, g25_σ19]); rw [r230_σ19, j63]; exact n63⟩, by (try simp only [g7_σ19, g9_σ19, g10_σ19, g11_σ19, g12_σ19, g13_σ19, g14_σ19, g15_σ19, g20_σ19, g25_σ19]); rw [s25]; omega, fun h => Bool.noConfusion (show false = true from h), fun _ => PIL_i rfl rfl rfl r230_σ19 (by rw [j63]; exact k63) (by rw [s22]; omega) hd9 hd69 (by omega)⟩, by (try simp only [g7_σ19, g9_σ19, g10_σ19, g11_σ19, g12_σ19, g13_σ19, g14_σ19, g15_σ19, g20_σ19, g25_σ19]); omega, Or.inr ⟨rfl, rfl⟩⟩, fun q => absurd (by (try simp only [g7_σ19, g9_σ19, g10_σ19, g11_σ19, g12_σ19, g13_σ19, g14_σ19, g15_σ19, g20_σ19, g25_σ19]); exact y31) q, by (try simp only [g7_σ19, g9_σ19, g10_σ19, g11_σ19, g12_σ19, g13_σ19, g14_σ19, g15_σ19, g20_σ19, g25_σ19]); rw [s25]; omega, hB⟩ | exact ⟨hK, ⟨by (try simp only [g7_σ19, g9_σ19, g10_σ19, g11_σ19, g12_σ19, g13_σ19, g14_σ19, g15_σ19, g20_σ19, g25_σ19]); omega, by omega⟩, fun _ => Or.inr ⟨_, stp_p m10 ⟨k86, t93⟩, ⟨⟨RX_i g9_σ19 g10_σ19 g11_σ19 g12_σ19 g13_σ19 ((hT.2 224 (by decide)).trans tE) nE pK, le1⟩, ⟨by rw [r230_σ19]; exact l129.2.symm, by rw [r230_σ19]; exact NP_le hNP (by omega)⟩, by (try simp only [g7_σ19, g9_σ19, g10_σ19, g11_σ19, g12_σ19, g13_σ19, g14_σ19, g15_σ19, g20_σ19, g25_σ19]), fun _ => ⟨h129, popP_i _⟩, fun h => Bool.noConfusion (show true = false from h)⟩, by (try simp only [g7_σ19, g9_σ19, g10_σ19, g11_σ19, g12_σ19, g13_σ19, g14_σ19, g15_σ19, g20_σ19, g25_σ19]); omega, Or.inl ⟨rfl, rfl⟩⟩, fun q => absurd (by (try simp only [g7_σ19, g9_σ19, g10_σ19, g11_σ19, g12_σ19, g13_σ19, g14_σ19, g15_σ19, g20_σ19, g25_σ19]); exact hg) q, by (try simp only [g7_σ19, g9_σ19, g10_σ19, g11_σ19, g12_σ19, g13_σ19, g14_σ19, g15_σ19, g20_σ19, g25_σ19]); omega, hB⟩, g7_σ19, g9_σ19, g20_σ19⟩)⟩
    · have st1 : stp tx n mm (i, true, (lst (σ0.1 230) (σ0.1 218 22).toInt.toNat), (σ0.1 218 25).toInt.toNat) = some none := stp_e m10 (fun q => hc6 (pK.2.1.trans q.1))
      exact ok_some ⟨hT, (show (TOK σ0.1 ∧ ((σ0.1 218 11).toInt ≤ (σ0.1 218 11).toInt ∧ 0 ≤ (σ0.1 218 22).toInt ∧ (σ0.1 218 22).toInt ≤ 40) ∧ (σ0.1 218 14 = 0 → ((-1 : Int32) = -1 ∧ stp tx n mm (i, true, (lst (σ0.1 230) (σ0.1 218 22).toInt.toNat), (σ0.1 218 25).toInt.toNat) = some none ∧ REL σ0.1 tx n (i, true, (lst (σ0.1 230) (σ0.1 218 22).toInt.toNat), (σ0.1 218 25).toInt.toNat)) ∨ (∃ c, stp tx n mm (i, true, (lst (σ0.1 230) (σ0.1 218 22).toInt.toNat), (σ0.1 218 25).toInt.toNat) = some (some c) ∧ REL σ0.1 tx n c ∧ (σ0.1 218 11).toInt < (σ0.1 218 11).toInt ∧ (((-1 : Int32) = 0 ∧ c.2.1 = true) ∨ ((-1 : Int32) = 1 ∧ c.2.1 = false)))) ∧ (¬ σ0.1 218 14 = 0 → stp tx n mm (i, true, (lst (σ0.1 230) (σ0.1 218 22).toInt.toNat), (σ0.1 218 25).toInt.toNat) = none) ∧ (0 ≤ (σ0.1 218 25).toInt ∧ (σ0.1 218 25).toInt ≤ 24) ∧ ZB σ0.1) ∧ (σ0.1 218 7 = σ0.1 218 7 ∧ σ0.1 218 9 = σ0.1 218 9 ∧ σ0.1 218 20 = σ0.1 218 20) from ⟨by first | exact absurd hg n31 | exact absurd y31 n24 | exact ⟨hK, ⟨by skip; omega, by skip; omega⟩, fun q => absurd q (by skip; exact n31), fun _ => (stp_c k10).trans (if_pos s19), by skip; omega, hB⟩ | exact ⟨hK, ⟨by skip; omega, by skip; omega⟩, fun _ => Or.inl ⟨rfl, st1, ⟨⟨hG, hi⟩, ⟨rfl, hNP⟩, rfl, fun _ => ⟨hP, hpp⟩, fun h => Bool.noConfusion (show true = false from h)⟩⟩, fun q => absurd (by skip; exact hg) q, by skip; omega, hB⟩ | exact ⟨hK, ⟨by skip; omega, by skip; rw [s22]; omega⟩, fun _ => Or.inr ⟨_, (stp_c k10).trans (if_neg m19), ⟨⟨g75, le1⟩, ⟨by skip; rw [rfl, j63]; exact l63.symm, by skip; rw [rfl, j63]; exact n63⟩, by skip; rw [s25]; omega, fun h => Bool.noConfusion (show false = true from h), fun _ => PIL_i rfl rfl rfl rfl (by rw [j63]; exact k63) (by rw [s22]; omega) hd9 hd69 (by omega)⟩, by skip; omega, Or.inr ⟨rfl, rfl⟩⟩, fun q => absurd (by skip; exact y31) q, by skip; rw [s25]; omega, hB⟩ | exact ⟨hK, ⟨by skip; omega, by omega⟩, fun _ => Or.inr ⟨_, stp_p m10 ⟨k86, t93⟩, ⟨⟨RX_i rfl rfl rfl rfl rfl ((hT.2 224 (by decide)).trans tE) nE pK, le1⟩, ⟨by rw [rfl]; exact l129.2.symm, by rw [rfl]; exact NP_le hNP (by omega)⟩, by skip, fun _ => ⟨h129, popP_i _⟩, fun h => Bool.noConfusion (show true = false from h)⟩, by skip; omega, Or.inl ⟨rfl, rfl⟩⟩, fun q => absurd (by skip; exact hg) q, by skip; omega, hB⟩, rfl, rfl, rfl⟩)⟩
  · have w10 := hqv2.resolve_left (fun q => hc4 q.1)
    have k10 : isCb (tkK tx n i) := pK.2.1 ▸ w10.2
    have l12 := hK.2.1 (fun q => by have c9 := w10.2; rw [q] at c9; revert c9; unfold isCb; decide)
    have k48 := rk_s w10.1
    refine ok_gI rfl ?_
    refine ok_if (fun hc21 => ?_) (fun hc21 => ?_)
    · have s19 : (σ0.1 218 25).toInt.toNat = 24 := by rw [hc21]; rfl
      refine ok_gC rfl ?_
      refine ok_zbT (Q := fun V σ => (TOK σ.1 ∧ ¬ σ.1 218 14 = 0) ∧ (σ.1 218 7 = σ0.1 218 7 ∧ σ.1 218 9 = σ0.1 218 9 ∧ σ.1 218 10 = σ0.1 218 10 ∧ σ.1 218 11 = σ0.1 218 11 ∧ σ.1 218 12 = σ0.1 218 12 ∧ σ.1 218 13 = σ0.1 218 13 ∧ σ.1 218 20 = σ0.1 218 20 ∧ σ.1 218 22 = σ0.1 218 22 ∧ σ.1 218 23 = σ0.1 218 23 ∧ σ.1 218 24 = σ0.1 218 24 ∧ σ.1 218 25 = σ0.1 218 25)) hT (s_X12_errs hN (hR.tr hT) (hK) (by rw [hT.2 224 (by decide)]; exact hY) (by decide)) (by decide) (fun v22 σ23 hOσ23 hT hqv22 => ?_)
      have hqv22 : (TOK σ23.1 ∧ ¬ σ23.1 218 14 = 0) ∧ (σ23.1 218 7 = σ0.1 218 7 ∧ σ23.1 218 9 = σ0.1 218 9 ∧ σ23.1 218 10 = σ0.1 218 10 ∧ σ23.1 218 11 = σ0.1 218 11 ∧ σ23.1 218 12 = σ0.1 218 12 ∧ σ23.1 218 13 = σ0.1 218 13 ∧ σ23.1 218 20 = σ0.1 218 20 ∧ σ23.1 218 22 = σ0.1 218 22 ∧ σ23.1 218 23 = σ0.1 218 23 ∧ σ23.1 218 24 = σ0.1 218 24 ∧ σ23.1 218 25 = σ0.1 218 25) := hqv22
      have hkv22 := hqv22
      have hqv22 := hqv22.1
      have r230_σ23 : σ23.1 230 = σ0.1 230 := hOσ23.2 230 (by decide)
      have hK : TOK σ23.1 := by first | exact hqv22.1 | exact hqv22.1.1 | exact TOK_p eσ23 (by decide) hK
      have hB : ZB σ23.1 := ZB.tr hOσ23 (by decide) hB
      have g7_σ23 : σ23.1 218 7 = (σ0.1 218 7) := hkv22.2.1
      have g9_σ23 : σ23.1 218 9 = (σ0.1 218 9) := hkv22.2.2.1
      have g10_σ23 : σ23.1 218 10 = (σ0.1 218 10) := hkv22.2.2.2.1
      have g11_σ23 : σ23.1 218 11 = (σ0.1 218 11) := hkv22.2.2.2.2.1
      have g12_σ23 : σ23.1 218 12 = (σ0.1 218 12) := hkv22.2.2.2.2.2.1
      have g13_σ23 : σ23.1 218 13 = (σ0.1 218 13) := hkv22.2.2.2.2.2.2.1
      have g20_σ23 : σ23.1 218 20 = (σ0.1 218 20) := hkv22.2.2.2.2.2.2.2.1
      have g22_σ23 : σ23.1 218 22 = (σ0.1 218 22) := hkv22.2.2.2.2.2.2.2.2.1
      have g23_σ23 : σ23.1 218 23 = (σ0.1 218 23) := hkv22.2.2.2.2.2.2.2.2.2.1
      have g24_σ23 : σ23.1 218 24 = (σ0.1 218 24) := hkv22.2.2.2.2.2.2.2.2.2.2.1
      have g25_σ23 : σ23.1 218 25 = (σ0.1 218 25) := hkv22.2.2.2.2.2.2.2.2.2.2.2
      have n24 := hqv22.2
      rw [J_X12_goesBehind_27.eq_1]
      refine ok_gC rfl ?_
      refine ok_zbX (Q := fun V => (V = 0 → ¬ σ23.1 218 14 = 0) ∧ (¬ V = 0 → σ23.1 218 14 = 0)) (x_X12_good) (fun v24 hqv24 => ?_)
      have hqv24 : (v24 = 0 → ¬ σ23.1 218 14 = 0) ∧ (¬ v24 = 0 → σ23.1 218 14 = 0) := hqv24
      try simp only [g7_σ23, g9_σ23, g10_σ23, g11_σ23, g12_σ23, g13_σ23, g20_σ23, g22_σ23, g23_σ23, g24_σ23, g25_σ23, hT.2 224 (by decide)] at hqv24
      refine ok_if (fun hc26 => ?_) (fun hc26 => ?_)
      · have qhc26 := hqv24.1 hc26
        have n31 := qhc26
        exact ok_some ⟨hT, (show (TOK σ23.1 ∧ ((σ0.1 218 11).toInt ≤ (σ23.1 218 11).toInt ∧ 0 ≤ (σ23.1 218 22).toInt ∧ (σ23.1 218 22).toInt ≤ 40) ∧ (σ23.1 218 14 = 0 → ((-1 : Int32) = -1 ∧ stp tx n mm (i, true, (lst (σ0.1 230) (σ0.1 218 22).toInt.toNat), (σ0.1 218 25).toInt.toNat) = some none ∧ REL σ23.1 tx n (i, true, (lst (σ0.1 230) (σ0.1 218 22).toInt.toNat), (σ0.1 218 25).toInt.toNat)) ∨ (∃ c, stp tx n mm (i, true, (lst (σ0.1 230) (σ0.1 218 22).toInt.toNat), (σ0.1 218 25).toInt.toNat) = some (some c) ∧ REL σ23.1 tx n c ∧ (σ0.1 218 11).toInt < (σ23.1 218 11).toInt ∧ (((-1 : Int32) = 0 ∧ c.2.1 = true) ∨ ((-1 : Int32) = 1 ∧ c.2.1 = false)))) ∧ (¬ σ23.1 218 14 = 0 → stp tx n mm (i, true, (lst (σ0.1 230) (σ0.1 218 22).toInt.toNat), (σ0.1 218 25).toInt.toNat) = none) ∧ (0 ≤ (σ23.1 218 25).toInt ∧ (σ23.1 218 25).toInt ≤ 24) ∧ ZB σ23.1) ∧ (σ23.1 218 7 = σ0.1 218 7 ∧ σ23.1 218 9 = σ0.1 218 9 ∧ σ23.1 218 20 = σ0.1 218 20) from ⟨by first | exact absurd hg n31 | exact absurd y31 n24 | exact ⟨hK, ⟨by (try simp only [g7_σ23, g9_σ23, g10_σ23, g11_σ23, g12_σ23, g13_σ23, g20_σ23, g22_σ23, g23_σ23, g24_σ23, g25_σ23]); omega, by (try simp only [g7_σ23, g9_σ23, g10_σ23, g11_σ23, g12_σ23, g13_σ23, g20_σ23, g22_σ23, g23_σ23, g24_σ23, g25_σ23]); omega⟩, fun q => absurd q (by (try simp only [g7_σ23, g9_σ23, g10_σ23, g11_σ23, g12_σ23, g13_σ23, g20_σ23, g22_σ23, g23_σ23, g24_σ23, g25_σ23]); exact n31), fun _ => (stp_c k10).trans (if_pos s19), by (try simp only [g7_σ23, g9_σ23, g10_σ23, g11_σ23, g12_σ23, g13_σ23, g20_σ23, g22_σ23, g23_σ23, g24_σ23, g25_σ23]); omega, hB⟩ | exact ⟨hK, ⟨by (try simp only [g7_σ23, g9_σ23, g10_σ23, g11_σ23, g12_σ23, g13_σ23, g20_σ23, g22_σ23, g23_σ23, g24_σ23, g25_σ23]); omega, by (try simp only [g7_σ23, g9_σ23, g10_σ23, g11_σ23, g12_σ23, g13_σ23, g20_σ23, g22_σ23, g23_σ23, g24_σ23, g25_σ23]); omega⟩, fun _ => Or.inl ⟨rfl, st1, ⟨⟨hG, hi⟩, ⟨rfl, hNP⟩, rfl, fun _ => ⟨hP, hpp⟩, fun h => Bool.noConfusion (show true = false from h)⟩⟩, fun q => absurd (by (try simp only [g7_σ23, g9_σ23, g10_σ23, g11_σ23, g12_σ23, g13_σ23, g20_σ23, g22_σ23, g23_σ23, g24_σ23, g25_σ23]); exact hg) q, by (try simp only [g7_σ23, g9_σ23, g10_σ23, g11_σ23, g12_σ23, g13_σ23, g20_σ23, g22_σ23, g23_σ23, g24_σ23, g25_σ23]); omega, hB⟩ | exact ⟨hK, ⟨by (try simp only [g7_σ23, g9_σ23, g10_σ23, g11_σ23, g12_σ23, g13_σ23, g20_σ23, g22_σ23, g23_σ23, g24_σ23, g25_σ23]); omega, by (try simp only [g7_σ23, g9_σ23, g10_σ23, g11_σ23, g12_σ23, g13_σ23, g20_σ23, g22_σ23, g23_σ23, g24_σ23, g25_σ23]); rw [s22]; omega⟩, fun _ => Or.inr ⟨_, (stp_c k10).trans (if_neg m19), ⟨⟨g75, le1⟩, ⟨by (try simp only [g7_σ23, g9_σ23, g10_σ23, g11_σ23, g12_σ23, g13_σ23, g20_σ23, g22_σ23, g23_σ23, g24_σ23, g25_σ23]); rw [r230_σ23, j63]; exact l63.symm, by (try simp only [g7_σ23, g9_σ23, g10_σ23, g11_σ23, g12_σ23, g13_σ23, g20_σ23, g22_σ23, g23_σ23, g24_σ23, g25_σ23]); rw [r230_σ23, j63]; exact n63⟩, by (try simp only [g7_σ23, g9_σ23, g10_σ23, g11_σ23, g12_σ23, g13_σ23, g20_σ23, g22_σ23, g23_σ23, g24_σ23, g25_σ23]); rw [s25]; omega, fun h => Bool.noConfusion (show false = true from h), fun _ => PIL_i g22_σ23 g23_σ23 g24_σ23 r230_σ23 (by rw [j63]; exact k63) (by rw [s22]; omega) hd9 hd69 (by omega)⟩, by (try simp only [g7_σ23, g9_σ23, g10_σ23, g11_σ23, g12_σ23, g13_σ23, g20_σ23, g22_σ23, g23_σ23, g24_σ23, g25_σ23]); omega, Or.inr ⟨rfl, rfl⟩⟩, fun q => absurd (by (try simp only [g7_σ23, g9_σ23, g10_σ23, g11_σ23, g12_σ23, g13_σ23, g20_σ23, g22_σ23, g23_σ23, g24_σ23, g25_σ23]); exact y31) q, by (try simp only [g7_σ23, g9_σ23, g10_σ23, g11_σ23, g12_σ23, g13_σ23, g20_σ23, g22_σ23, g23_σ23, g24_σ23, g25_σ23]); rw [s25]; omega, hB⟩ | exact ⟨hK, ⟨by (try simp only [g7_σ23, g9_σ23, g10_σ23, g11_σ23, g12_σ23, g13_σ23, g20_σ23, g22_σ23, g23_σ23, g24_σ23, g25_σ23]); omega, by omega⟩, fun _ => Or.inr ⟨_, stp_p m10 ⟨k86, t93⟩, ⟨⟨RX_i g9_σ23 g10_σ23 g11_σ23 g12_σ23 g13_σ23 ((hT.2 224 (by decide)).trans tE) nE pK, le1⟩, ⟨by rw [r230_σ23]; exact l129.2.symm, by rw [r230_σ23]; exact NP_le hNP (by omega)⟩, by (try simp only [g7_σ23, g9_σ23, g10_σ23, g11_σ23, g12_σ23, g13_σ23, g20_σ23, g22_σ23, g23_σ23, g24_σ23, g25_σ23]), fun _ => ⟨h129, popP_i _⟩, fun h => Bool.noConfusion (show true = false from h)⟩, by (try simp only [g7_σ23, g9_σ23, g10_σ23, g11_σ23, g12_σ23, g13_σ23, g20_σ23, g22_σ23, g23_σ23, g24_σ23, g25_σ23]); omega, Or.inl ⟨rfl, rfl⟩⟩, fun q => absurd (by (try simp only [g7_σ23, g9_σ23, g10_σ23, g11_σ23, g12_σ23, g13_σ23, g20_σ23, g22_σ23, g23_σ23, g24_σ23, g25_σ23]); exact hg) q, by (try simp only [g7_σ23, g9_σ23, g10_σ23, g11_σ23, g12_σ23, g13_σ23, g20_σ23, g22_σ23, g23_σ23, g24_σ23, g25_σ23]); omega, hB⟩, g7_σ23, g9_σ23, g20_σ23⟩)⟩
      · have qhc26 := hqv24.2 hc26
        have y31 := qhc26
        refine ok_gIv rfl g25_σ23 ?_
        refine ok_pI hT rfl (by decide) (fun σ28 eσ28 hOσ28 hT => ?_)
        have r230_σ28 : σ28.1 230 = σ0.1 230 := (hOσ28.2 230 (by decide)).trans r230_σ23
        have hK : TOK σ28.1 := by first | exact HQ.1 | exact HQ.1.1 | exact TOK_p eσ28 (by decide) hK
        have hB : ZB σ28.1 := ZB.tr hOσ28 (by decide) hB
        have g7_σ28 : σ28.1 218 7 = (σ0.1 218 7) := (zI_atN eσ28 (by decide)).trans g7_σ23
        have g9_σ28 : σ28.1 218 9 = (σ0.1 218 9) := (zI_atN eσ28 (by decide)).trans g9_σ23
        have g10_σ28 : σ28.1 218 10 = (σ0.1 218 10) := (zI_atN eσ28 (by decide)).trans g10_σ23
        have g11_σ28 : σ28.1 218 11 = (σ0.1 218 11) := (zI_atN eσ28 (by decide)).trans g11_σ23
        have g12_σ28 : σ28.1 218 12 = (σ0.1 218 12) := (zI_atN eσ28 (by decide)).trans g12_σ23
        have g13_σ28 : σ28.1 218 13 = (σ0.1 218 13) := (zI_atN eσ28 (by decide)).trans g13_σ23
        have g14_σ28 : σ28.1 218 14 = (σ23.1 218 14) := zI_atN eσ28 (by decide)
        have g15_σ28 : σ28.1 218 15 = (σ23.1 218 15) := zI_atN eσ28 (by decide)
        have g20_σ28 : σ28.1 218 20 = (σ0.1 218 20) := (zI_atN eσ28 (by decide)).trans g20_σ23
        have g22_σ28 : σ28.1 218 22 = (σ0.1 218 22) := (zI_atN eσ28 (by decide)).trans g22_σ23
        have g23_σ28 : σ28.1 218 23 = (σ0.1 218 23) := (zI_atN eσ28 (by decide)).trans g23_σ23
        have g24_σ28 : σ28.1 218 24 = (σ0.1 218 24) := (zI_atN eσ28 (by decide)).trans g24_σ23
        have g25_σ28 : σ28.1 218 25 = ((σ0.1 218 25) + 1) := zI_atI eσ28
        refine ok_zbX (Q := fun V => V = rkI v2) (x_X12_rank) (fun v29 hqv29 => ?_)
        have hqv29 : v29 = rkI v2 := hqv29
        try simp only [g7_σ28, g9_σ28, g10_σ28, g11_σ28, g12_σ28, g13_σ28, g14_σ28, g15_σ28, g20_σ28, g22_σ28, g23_σ28, g24_σ28, g25_σ28, hT.2 224 (by decide)] at hqv29
        have e48 := hqv29
        refine ok_gC rfl ?_
        refine ok_zbT (Q := fun V σ => (TOK σ.1 ∧ ZB σ.1 ∧ PIL σ.1 1 ∧ ((σ.1 218 22).toInt.toNat ≤ (σ28.1 218 22).toInt.toNat ∧ lst (σ28.1 230) (σ.1 218 22).toInt.toNat = popP (lst (σ28.1 230) (σ28.1 218 22).toInt.toNat)) ∧ ((σ.1 218 22).toInt ≤ 0 ∨ (rkI (σ28.1 230 ((σ.1 218 22) - 1).toNatClampNeg)).toInt < v29.toInt)) ∧ (σ.1 218 7 = σ28.1 218 7 ∧ σ.1 218 9 = σ28.1 218 9 ∧ σ.1 218 10 = σ28.1 218 10 ∧ σ.1 218 11 = σ28.1 218 11 ∧ σ.1 218 12 = σ28.1 218 12 ∧ σ.1 218 13 = σ28.1 218 13 ∧ σ.1 218 14 = σ28.1 218 14 ∧ σ.1 218 15 = σ28.1 218 15 ∧ σ.1 218 20 = σ28.1 218 20 ∧ σ.1 218 25 = σ28.1 218 25)) hT (s_X12_settlesTo_r hN (hR.tr hT) (hK) (by rw [hT.2 224 (by decide)]; exact hY) (hB) (by (try simp only [g7_σ28, g9_σ28, g10_σ28, g11_σ28, g12_σ28, g13_σ28, g14_σ28, g15_σ28, g20_σ28, g22_σ28, g23_σ28, g24_σ28, g25_σ28]); exact ha) (PIL_i g22_σ28 g23_σ28 g24_σ28 r230_σ28 hS h22 hd hd6 hp) (by rw [e48]; exact k48.1) (by (try simp only [g7_σ28, g9_σ28, g10_σ28, g11_σ28, g12_σ28, g13_σ28, g14_σ28, g15_σ28, g20_σ28, g22_σ28, g23_σ28, g24_σ28, g25_σ28]); rw [r230_σ28]; exact hNP) (by (try simp only [g7_σ28, g9_σ28, g10_σ28, g11_σ28, g12_σ28, g13_σ28, g14_σ28, g15_σ28, g20_σ28, g22_σ28, g23_σ28, g24_σ28, g25_σ28]); rw [r230_σ28]; exact Or.inr hpp)) (by decide) (fun v31 σ32 hOσ32 hT hqv31 => ?_)
        have hqv31 : (TOK σ32.1 ∧ ZB σ32.1 ∧ PIL σ32.1 1 ∧ ((σ32.1 218 22).toInt.toNat ≤ (σ28.1 218 22).toInt.toNat ∧ lst (σ28.1 230) (σ32.1 218 22).toInt.toNat = popP (lst (σ28.1 230) (σ28.1 218 22).toInt.toNat)) ∧ ((σ32.1 218 22).toInt ≤ 0 ∨ (rkI (σ28.1 230 ((σ32.1 218 22) - 1).toNatClampNeg)).toInt < v29.toInt)) ∧ (σ32.1 218 7 = σ28.1 218 7 ∧ σ32.1 218 9 = σ28.1 218 9 ∧ σ32.1 218 10 = σ28.1 218 10 ∧ σ32.1 218 11 = σ28.1 218 11 ∧ σ32.1 218 12 = σ28.1 218 12 ∧ σ32.1 218 13 = σ28.1 218 13 ∧ σ32.1 218 14 = σ28.1 218 14 ∧ σ32.1 218 15 = σ28.1 218 15 ∧ σ32.1 218 20 = σ28.1 218 20 ∧ σ32.1 218 25 = σ28.1 218 25) := hqv31
        have hkv31 := hqv31
        have hqv31 := hqv31.1
        have r230_σ32 : σ32.1 230 = σ0.1 230 := (hOσ32.2 230 (by decide)).trans r230_σ28
        have hK : TOK σ32.1 := by first | exact hqv31.1 | exact hqv31.1.1 | exact TOK_p eσ32 (by decide) hK
        have hB : ZB σ32.1 := hqv31.2.1
        try simp only [g7_σ28, g9_σ28, g10_σ28, g11_σ28, g12_σ28, g13_σ28, g14_σ28, g15_σ28, g20_σ28, g22_σ28, g23_σ28, g24_σ28, g25_σ28] at hqv31
        have g7_σ32 : σ32.1 218 7 = (σ0.1 218 7) := (hkv31.2.1).trans g7_σ28
        have g9_σ32 : σ32.1 218 9 = (σ0.1 218 9) := (hkv31.2.2.1).trans g9_σ28
        have g10_σ32 : σ32.1 218 10 = (σ0.1 218 10) := (hkv31.2.2.2.1).trans g10_σ28
        have g11_σ32 : σ32.1 218 11 = (σ0.1 218 11) := (hkv31.2.2.2.2.1).trans g11_σ28
        have g12_σ32 : σ32.1 218 12 = (σ0.1 218 12) := (hkv31.2.2.2.2.2.1).trans g12_σ28
        have g13_σ32 : σ32.1 218 13 = (σ0.1 218 13) := (hkv31.2.2.2.2.2.2.1).trans g13_σ28
        have g14_σ32 : σ32.1 218 14 = (σ23.1 218 14) := (hkv31.2.2.2.2.2.2.2.1).trans g14_σ28
        have g15_σ32 : σ32.1 218 15 = (σ23.1 218 15) := (hkv31.2.2.2.2.2.2.2.2.1).trans g15_σ28
        have g20_σ32 : σ32.1 218 20 = (σ0.1 218 20) := (hkv31.2.2.2.2.2.2.2.2.2.1).trans g20_σ28
        have g25_σ32 : σ32.1 218 25 = ((σ0.1 218 25) + 1) := (hkv31.2.2.2.2.2.2.2.2.2.2).trans g25_σ28
        have h51 := hqv31.2.2.1
        have b51 := PIL_b h51 (by decide)
        obtain ⟨b9, d9, r9, hS9, h9, hd9, hd69, hp9⟩ := h51
        rw [r230_σ32] at hS9
        have x51 := hqv31.2.2.2.2
        have l51 := hqv31.2.2.2.1
        have o51 : σ28.1 230 = σ0.1 230 := (hOσ32.2 230 (by decide)).symm.trans r230_σ32
        rw [o51, e48] at x51
        rw [o51] at l51
        have t51 := Stk_top2 hS9 h9 k48.1 x51
        have s22 : ((σ32.1 218 22) + 1).toInt = (σ32.1 218 22).toInt + 1 := by rw [ti_add]; simp only [Int32.reduceToInt]; omega
        refine ok_gR (v := 230) hT rfl (hR 218 21 rfl) ?_
        refine ok_gI rfl ?_
        refine ok_s14 hT rfl (by decide) (by ((try simp only [g7_σ32, g9_σ32, g10_σ32, g11_σ32, g12_σ32, g13_σ32, g14_σ32, g15_σ32, g20_σ32, g25_σ32])); first | omega | decide | (simp only [Int32.le_iff_toInt_le, Int32.lt_iff_toInt_lt, ti_add, ti_sub, ti_mul, Int32.reduceToInt] at *; omega)) (by ((try simp only [g7_σ32, g9_σ32, g10_σ32, g11_σ32, g12_σ32, g13_σ32, g14_σ32, g15_σ32, g20_σ32, g25_σ32])); first | omega | decide | (simp only [Int32.le_iff_toInt_le, Int32.lt_iff_toInt_lt, ti_add, ti_sub, ti_mul, Int32.reduceToInt] at *; omega)) (fun σ35 eσ35 hOσ35 hT => ?_)
        have a63 := zI_atI eσ35
        have i63 : ((σ32.1 218 22)).toNatClampNeg = ((σ32.1 218 22)).toInt.toNat := rfl
        have k63 : Stk (σ35.1 230) (((σ32.1 218 22)).toInt.toNat + 1) (b9 + 1) d9 (rkI (v2)).toInt.toNat := Stk_sign hS9 (fun k hk => by rw [zI_atN eσ35 (by rw [i63]; omega)]; exact congrFun r230_σ32 k) (by rw [← i63, a63]; exact w10.1) (by rw [← i63, a63]; omega) (by omega)
        have j63 : ((σ32.1 218 22) + 1).toInt.toNat = ((σ32.1 218 22)).toInt.toNat + 1 := by rw [s22]; omega
        have e63 : (σ35.1 230 ((σ32.1 218 22)).toInt.toNat).toInt < 50 := by rw [show σ35.1 230 ((σ32.1 218 22)).toInt.toNat = (v2) from a63]; omega
        have c63 : ∀ k, k < ((σ32.1 218 22)).toInt.toNat → σ35.1 230 k = σ0.1 230 k := fun k hk => by rw [zI_atN eσ35 (by rw [i63]; omega)]; exact congrFun r230_σ32 k
        have l63 : lst (σ35.1 230) (((σ32.1 218 22)).toInt.toNat + 1) = (lst (σ0.1 230) (σ0.1 218 22).toInt.toNat) := by rw [lst_s e63, lst_c c63, l51.2, hpp]
        have n63 : NP (σ35.1 230) (((σ32.1 218 22)).toInt.toNat + 1) := ⟨NP_c c63 (NP_le hNP l51.1), fun _ => by rw [lst_c c63, l51.2]; exact popP_i _⟩
        have hK : TOK σ35.1 := TOK_tr hOσ35 (by decide) (by decide) hK
        have hB : ZB σ35.1 := ZB.tr hOσ35 (by decide) hB
        have g7_σ35 : σ35.1 218 7 = (σ0.1 218 7) := (congrFun (hOσ35.2 218 (by decide)) 7).trans g7_σ32
        have g9_σ35 : σ35.1 218 9 = (σ0.1 218 9) := (congrFun (hOσ35.2 218 (by decide)) 9).trans g9_σ32
        have g10_σ35 : σ35.1 218 10 = (σ0.1 218 10) := (congrFun (hOσ35.2 218 (by decide)) 10).trans g10_σ32
        have g11_σ35 : σ35.1 218 11 = (σ0.1 218 11) := (congrFun (hOσ35.2 218 (by decide)) 11).trans g11_σ32
        have g12_σ35 : σ35.1 218 12 = (σ0.1 218 12) := (congrFun (hOσ35.2 218 (by decide)) 12).trans g12_σ32
        have g13_σ35 : σ35.1 218 13 = (σ0.1 218 13) := (congrFun (hOσ35.2 218 (by decide)) 13).trans g13_σ32
        have g14_σ35 : σ35.1 218 14 = (σ23.1 218 14) := (congrFun (hOσ35.2 218 (by decide)) 14).trans g14_σ32
        have g15_σ35 : σ35.1 218 15 = (σ23.1 218 15) := (congrFun (hOσ35.2 218 (by decide)) 15).trans g15_σ32
        have g20_σ35 : σ35.1 218 20 = (σ0.1 218 20) := (congrFun (hOσ35.2 218 (by decide)) 20).trans g20_σ32
        have g22_σ35 : σ35.1 218 22 = (σ32.1 218 22) := congrFun (hOσ35.2 218 (by decide)) 22
        have g23_σ35 : σ35.1 218 23 = (σ32.1 218 23) := congrFun (hOσ35.2 218 (by decide)) 23
        have g24_σ35 : σ35.1 218 24 = (σ32.1 218 24) := congrFun (hOσ35.2 218 (by decide)) 24
        have g25_σ35 : σ35.1 218 25 = ((σ0.1 218 25) + 1) := (congrFun (hOσ35.2 218 (by decide)) 25).trans g25_σ32
        refine ok_gIv rfl g22_σ35 ?_
        refine ok_pI hT rfl (by decide) (fun σ37 eσ37 hOσ37 hT => ?_)
        have r230_σ37 : σ37.1 230 = σ35.1 230 := hOσ37.2 230 (by decide)
        have hK : TOK σ37.1 := by first | exact HQ.1 | exact HQ.1.1 | exact TOK_p eσ37 (by decide) hK
        have hB : ZB σ37.1 := ZB.tr hOσ37 (by decide) hB
        have g7_σ37 : σ37.1 218 7 = (σ0.1 218 7) := (zI_atN eσ37 (by decide)).trans g7_σ35
        have g9_σ37 : σ37.1 218 9 = (σ0.1 218 9) := (zI_atN eσ37 (by decide)).trans g9_σ35
        have g10_σ37 : σ37.1 218 10 = (σ0.1 218 10) := (zI_atN eσ37 (by decide)).trans g10_σ35
        have g11_σ37 : σ37.1 218 11 = (σ0.1 218 11) := (zI_atN eσ37 (by decide)).trans g11_σ35
        have g12_σ37 : σ37.1 218 12 = (σ0.1 218 12) := (zI_atN eσ37 (by decide)).trans g12_σ35
        have g13_σ37 : σ37.1 218 13 = (σ0.1 218 13) := (zI_atN eσ37 (by decide)).trans g13_σ35
        have g14_σ37 : σ37.1 218 14 = (σ23.1 218 14) := (zI_atN eσ37 (by decide)).trans g14_σ35
        have g15_σ37 : σ37.1 218 15 = (σ23.1 218 15) := (zI_atN eσ37 (by decide)).trans g15_σ35
        have g20_σ37 : σ37.1 218 20 = (σ0.1 218 20) := (zI_atN eσ37 (by decide)).trans g20_σ35
        have g22_σ37 : σ37.1 218 22 = ((σ32.1 218 22) + 1) := zI_atI eσ37
        have g23_σ37 : σ37.1 218 23 = (σ32.1 218 23) := (zI_atN eσ37 (by decide)).trans g23_σ35
        have g24_σ37 : σ37.1 218 24 = (σ32.1 218 24) := (zI_atN eσ37 (by decide)).trans g24_σ35
        have g25_σ37 : σ37.1 218 25 = ((σ0.1 218 25) + 1) := (zI_atN eσ37 (by decide)).trans g25_σ35
        refine ok_gC rfl ?_
        refine ok_zbT (Q := fun V σ => ((TOK σ.1 ∧ (σ37.1 218 10).toInt ≤ (σ.1 218 11).toInt) ∧ RX σ.1 tx n (tkE tx n i)) ∧ (σ.1 218 7 = σ37.1 218 7 ∧ σ.1 218 9 = σ37.1 218 9 ∧ σ.1 218 14 = σ37.1 218 14 ∧ σ.1 218 15 = σ37.1 218 15 ∧ σ.1 218 20 = σ37.1 218 20 ∧ σ.1 218 22 = σ37.1 218 22 ∧ σ.1 218 23 = σ37.1 218 23 ∧ σ.1 218 24 = σ37.1 218 24 ∧ σ.1 218 25 = σ37.1 218 25)) hT (s_X12_advance_r hN (hR.tr hT) (TOK_A hK) (by rw [hT.2 224 (by decide)]; exact hY) (RX_i g9_σ37 g10_σ37 g11_σ37 g12_σ37 g13_σ37 ((hT.2 224 (by decide)).trans tE) nE pK)) (by decide) (fun v38 σ39 hOσ39 hT hqv38 => ?_)
        have hqv38 : ((TOK σ39.1 ∧ (σ37.1 218 10).toInt ≤ (σ39.1 218 11).toInt) ∧ RX σ39.1 tx n (tkE tx n i)) ∧ (σ39.1 218 7 = σ37.1 218 7 ∧ σ39.1 218 9 = σ37.1 218 9 ∧ σ39.1 218 14 = σ37.1 218 14 ∧ σ39.1 218 15 = σ37.1 218 15 ∧ σ39.1 218 20 = σ37.1 218 20 ∧ σ39.1 218 22 = σ37.1 218 22 ∧ σ39.1 218 23 = σ37.1 218 23 ∧ σ39.1 218 24 = σ37.1 218 24 ∧ σ39.1 218 25 = σ37.1 218 25) := hqv38
        have hkv38 := hqv38
        have hqv38 := hqv38.1
        have r230_σ39 : σ39.1 230 = σ35.1 230 := (hOσ39.2 230 (by decide)).trans r230_σ37
        have hK : TOK σ39.1 := by first | exact hqv38.1 | exact hqv38.1.1 | exact TOK_p eσ39 (by decide) hK
        have hB : ZB σ39.1 := ZB.tr hOσ39 (by decide) hB
        try simp only [g7_σ37, g9_σ37, g10_σ37, g11_σ37, g12_σ37, g13_σ37, g14_σ37, g15_σ37, g20_σ37, g22_σ37, g23_σ37, g24_σ37, g25_σ37] at hqv38
        have g7_σ39 : σ39.1 218 7 = (σ0.1 218 7) := (hkv38.2.1).trans g7_σ37
        have g9_σ39 : σ39.1 218 9 = (σ0.1 218 9) := (hkv38.2.2.1).trans g9_σ37
        have g14_σ39 : σ39.1 218 14 = (σ23.1 218 14) := (hkv38.2.2.2.1).trans g14_σ37
        have g15_σ39 : σ39.1 218 15 = (σ23.1 218 15) := (hkv38.2.2.2.2.1).trans g15_σ37
        have g20_σ39 : σ39.1 218 20 = (σ0.1 218 20) := (hkv38.2.2.2.2.2.1).trans g20_σ37
        have g22_σ39 : σ39.1 218 22 = ((σ32.1 218 22) + 1) := (hkv38.2.2.2.2.2.2.1).trans g22_σ37
        have g23_σ39 : σ39.1 218 23 = (σ32.1 218 23) := (hkv38.2.2.2.2.2.2.2.1).trans g23_σ37
        have g24_σ39 : σ39.1 218 24 = (σ32.1 218 24) := (hkv38.2.2.2.2.2.2.2.2.1).trans g24_σ37
        have g25_σ39 : σ39.1 218 25 = ((σ0.1 218 25) + 1) := (hkv38.2.2.2.2.2.2.2.2.2).trans g25_σ37
        have m75 := hqv38.1.2
        have g75 := hqv38.2
        exact ok_some ⟨hT, (show (TOK σ39.1 ∧ ((σ0.1 218 11).toInt ≤ (σ39.1 218 11).toInt ∧ 0 ≤ (σ39.1 218 22).toInt ∧ (σ39.1 218 22).toInt ≤ 40) ∧ (σ39.1 218 14 = 0 → ((1 : Int32) = -1 ∧ stp tx n mm (i, true, (lst (σ0.1 230) (σ0.1 218 22).toInt.toNat), (σ0.1 218 25).toInt.toNat) = some none ∧ REL σ39.1 tx n (i, true, (lst (σ0.1 230) (σ0.1 218 22).toInt.toNat), (σ0.1 218 25).toInt.toNat)) ∨ (∃ c, stp tx n mm (i, true, (lst (σ0.1 230) (σ0.1 218 22).toInt.toNat), (σ0.1 218 25).toInt.toNat) = some (some c) ∧ REL σ39.1 tx n c ∧ (σ0.1 218 11).toInt < (σ39.1 218 11).toInt ∧ (((1 : Int32) = 0 ∧ c.2.1 = true) ∨ ((1 : Int32) = 1 ∧ c.2.1 = false)))) ∧ (¬ σ39.1 218 14 = 0 → stp tx n mm (i, true, (lst (σ0.1 230) (σ0.1 218 22).toInt.toNat), (σ0.1 218 25).toInt.toNat) = none) ∧ (0 ≤ (σ39.1 218 25).toInt ∧ (σ39.1 218 25).toInt ≤ 24) ∧ ZB σ39.1) ∧ (σ39.1 218 7 = σ0.1 218 7 ∧ σ39.1 218 9 = σ0.1 218 9 ∧ σ39.1 218 20 = σ0.1 218 20) from ⟨by first | exact absurd hg n31 | exact absurd y31 n24 | exact ⟨hK, ⟨by (try simp only [g7_σ39, g9_σ39, g14_σ39, g15_σ39, g20_σ39, g22_σ39, g23_σ39, g24_σ39, g25_σ39]); omega, by (try simp only [g7_σ39, g9_σ39, g14_σ39, g15_σ39, g20_σ39, g22_σ39, g23_σ39, g24_σ39, g25_σ39]); omega⟩, fun q => absurd q (by (try simp only [g7_σ39, g9_σ39, g14_σ39, g15_σ39, g20_σ39, g22_σ39, g23_σ39, g24_σ39, g25_σ39]); exact n31), fun _ => (stp_c k10).trans (if_pos s19), by (try simp only [g7_σ39, g9_σ39, g14_σ39, g15_σ39, g20_σ39, g22_σ39, g23_σ39, g24_σ39, g25_σ39]); omega, hB⟩ | exact ⟨hK, ⟨by (try simp only [g7_σ39, g9_σ39, g14_σ39, g15_σ39, g20_σ39, g22_σ39, g23_σ39, g24_σ39, g25_σ39]); omega, by (try simp only [g7_σ39, g9_σ39, g14_σ39, g15_σ39, g20_σ39, g22_σ39, g23_σ39, g24_σ39, g25_σ39]); omega⟩, fun _ => Or.inl ⟨rfl, st1, ⟨⟨hG, hi⟩, ⟨rfl, hNP⟩, rfl, fun _ => ⟨hP, hpp⟩, fun h => Bool.noConfusion (show true = false from h)⟩⟩, fun q => absurd (by (try simp only [g7_σ39, g9_σ39, g14_σ39, g15_σ39, g20_σ39, g22_σ39, g23_σ39, g24_σ39, g25_σ39]); exact hg) q, by (try simp only [g7_σ39, g9_σ39, g14_σ39, g15_σ39, g20_σ39, g22_σ39, g23_σ39, g24_σ39, g25_σ39]); omega, hB⟩ | exact ⟨hK, ⟨by (try simp only [g7_σ39, g9_σ39, g14_σ39, g15_σ39, g20_σ39, g22_σ39, g23_σ39, g24_σ39, g25_σ39]); omega, by (try simp only [g7_σ39, g9_σ39, g14_σ39, g15_σ39, g20_σ39, g22_σ39, g23_σ39, g24_σ39, g25_σ39]); rw [s22]; omega⟩, fun _ => Or.inr ⟨_, (stp_c k10).trans (if_neg m19), ⟨⟨g75, le1⟩, ⟨by (try simp only [g7_σ39, g9_σ39, g14_σ39, g15_σ39, g20_σ39, g22_σ39, g23_σ39, g24_σ39, g25_σ39]); rw [r230_σ39, j63]; exact l63.symm, by (try simp only [g7_σ39, g9_σ39, g14_σ39, g15_σ39, g20_σ39, g22_σ39, g23_σ39, g24_σ39, g25_σ39]); rw [r230_σ39, j63]; exact n63⟩, by (try simp only [g7_σ39, g9_σ39, g14_σ39, g15_σ39, g20_σ39, g22_σ39, g23_σ39, g24_σ39, g25_σ39]); rw [s25]; omega, fun h => Bool.noConfusion (show false = true from h), fun _ => PIL_i g22_σ39 g23_σ39 g24_σ39 r230_σ39 (by rw [j63]; exact k63) (by rw [s22]; omega) hd9 hd69 (by omega)⟩, by (try simp only [g7_σ39, g9_σ39, g14_σ39, g15_σ39, g20_σ39, g22_σ39, g23_σ39, g24_σ39, g25_σ39]); omega, Or.inr ⟨rfl, rfl⟩⟩, fun q => absurd (by (try simp only [g7_σ39, g9_σ39, g14_σ39, g15_σ39, g20_σ39, g22_σ39, g23_σ39, g24_σ39, g25_σ39]); exact y31) q, by (try simp only [g7_σ39, g9_σ39, g14_σ39, g15_σ39, g20_σ39, g22_σ39, g23_σ39, g24_σ39, g25_σ39]); rw [s25]; omega, hB⟩ | exact ⟨hK, ⟨by (try simp only [g7_σ39, g9_σ39, g14_σ39, g15_σ39, g20_σ39, g22_σ39, g23_σ39, g24_σ39, g25_σ39]); omega, by omega⟩, fun _ => Or.inr ⟨_, stp_p m10 ⟨k86, t93⟩, ⟨⟨RX_i g9_σ39 rfl rfl rfl rfl ((hT.2 224 (by decide)).trans tE) nE pK, le1⟩, ⟨by rw [r230_σ39]; exact l129.2.symm, by rw [r230_σ39]; exact NP_le hNP (by omega)⟩, by (try simp only [g7_σ39, g9_σ39, g14_σ39, g15_σ39, g20_σ39, g22_σ39, g23_σ39, g24_σ39, g25_σ39]), fun _ => ⟨h129, popP_i _⟩, fun h => Bool.noConfusion (show true = false from h)⟩, by (try simp only [g7_σ39, g9_σ39, g14_σ39, g15_σ39, g20_σ39, g22_σ39, g23_σ39, g24_σ39, g25_σ39]); omega, Or.inl ⟨rfl, rfl⟩⟩, fun q => absurd (by (try simp only [g7_σ39, g9_σ39, g14_σ39, g15_σ39, g20_σ39, g22_σ39, g23_σ39, g24_σ39, g25_σ39]); exact hg) q, by (try simp only [g7_σ39, g9_σ39, g14_σ39, g15_σ39, g20_σ39, g22_σ39, g23_σ39, g24_σ39, g25_σ39]); omega, hB⟩, g7_σ39, g9_σ39, g20_σ39⟩)⟩
    · have m19 : ¬ (σ0.1 218 25).toInt.toNat = 24 := fun q => hc21 (Int32.toInt_inj.mp (by show (σ0.1 218 25).toInt = 24; omega))
      have n19 : (σ0.1 218 25).toInt ≠ 24 := fun q => hc21 (Int32.toInt_inj.mp q)
      have s25 : ((σ0.1 218 25) + 1).toInt = (σ0.1 218 25).toInt + 1 := by rw [ti_add]; simp only [Int32.reduceToInt]; omega
      rw [J_X12_goesBehind_27.eq_1]
      refine ok_gC rfl ?_
      refine ok_zbX (Q := fun V => (V = 0 → ¬ σ0.1 218 14 = 0) ∧ (¬ V = 0 → σ0.1 218 14 = 0)) (x_X12_good) (fun v40 hqv40 => ?_)
      have hqv40 : (v40 = 0 → ¬ σ0.1 218 14 = 0) ∧ (¬ v40 = 0 → σ0.1 218 14 = 0) := hqv40
      refine ok_if (fun hc42 => ?_) (fun hc42 => ?_)
      · have qhc42 := hqv40.1 hc42
        have n31 := qhc42
        exact ok_some ⟨hT, (show (TOK σ0.1 ∧ ((σ0.1 218 11).toInt ≤ (σ0.1 218 11).toInt ∧ 0 ≤ (σ0.1 218 22).toInt ∧ (σ0.1 218 22).toInt ≤ 40) ∧ (σ0.1 218 14 = 0 → ((-1 : Int32) = -1 ∧ stp tx n mm (i, true, (lst (σ0.1 230) (σ0.1 218 22).toInt.toNat), (σ0.1 218 25).toInt.toNat) = some none ∧ REL σ0.1 tx n (i, true, (lst (σ0.1 230) (σ0.1 218 22).toInt.toNat), (σ0.1 218 25).toInt.toNat)) ∨ (∃ c, stp tx n mm (i, true, (lst (σ0.1 230) (σ0.1 218 22).toInt.toNat), (σ0.1 218 25).toInt.toNat) = some (some c) ∧ REL σ0.1 tx n c ∧ (σ0.1 218 11).toInt < (σ0.1 218 11).toInt ∧ (((-1 : Int32) = 0 ∧ c.2.1 = true) ∨ ((-1 : Int32) = 1 ∧ c.2.1 = false)))) ∧ (¬ σ0.1 218 14 = 0 → stp tx n mm (i, true, (lst (σ0.1 230) (σ0.1 218 22).toInt.toNat), (σ0.1 218 25).toInt.toNat) = none) ∧ (0 ≤ (σ0.1 218 25).toInt ∧ (σ0.1 218 25).toInt ≤ 24) ∧ ZB σ0.1) ∧ (σ0.1 218 7 = σ0.1 218 7 ∧ σ0.1 218 9 = σ0.1 218 9 ∧ σ0.1 218 20 = σ0.1 218 20) from ⟨by first | exact absurd hg n31 | exact absurd y31 n24 | exact ⟨hK, ⟨by skip; omega, by skip; omega⟩, fun q => absurd q (by skip; exact n31), fun _ => (stp_c k10).trans (if_pos s19), by skip; omega, hB⟩ | exact ⟨hK, ⟨by skip; omega, by skip; omega⟩, fun _ => Or.inl ⟨rfl, st1, ⟨⟨hG, hi⟩, ⟨rfl, hNP⟩, rfl, fun _ => ⟨hP, hpp⟩, fun h => Bool.noConfusion (show true = false from h)⟩⟩, fun q => absurd (by skip; exact hg) q, by skip; omega, hB⟩ | exact ⟨hK, ⟨by skip; omega, by skip; rw [s22]; omega⟩, fun _ => Or.inr ⟨_, (stp_c k10).trans (if_neg m19), ⟨⟨g75, le1⟩, ⟨by skip; rw [rfl, j63]; exact l63.symm, by skip; rw [rfl, j63]; exact n63⟩, by skip; rw [s25]; omega, fun h => Bool.noConfusion (show false = true from h), fun _ => PIL_i rfl rfl rfl rfl (by rw [j63]; exact k63) (by rw [s22]; omega) hd9 hd69 (by omega)⟩, by skip; omega, Or.inr ⟨rfl, rfl⟩⟩, fun q => absurd (by skip; exact y31) q, by skip; rw [s25]; omega, hB⟩ | exact ⟨hK, ⟨by skip; omega, by omega⟩, fun _ => Or.inr ⟨_, stp_p m10 ⟨k86, t93⟩, ⟨⟨RX_i rfl rfl rfl rfl rfl ((hT.2 224 (by decide)).trans tE) nE pK, le1⟩, ⟨by rw [rfl]; exact l129.2.symm, by rw [rfl]; exact NP_le hNP (by omega)⟩, by skip, fun _ => ⟨h129, popP_i _⟩, fun h => Bool.noConfusion (show true = false from h)⟩, by skip; omega, Or.inl ⟨rfl, rfl⟩⟩, fun q => absurd (by skip; exact hg) q, by skip; omega, hB⟩, rfl, rfl, rfl⟩)⟩
      · have qhc42 := hqv40.2 hc42
        have y31 := qhc42
        refine ok_gI rfl ?_
        refine ok_pI hT rfl (by decide) (fun σ44 eσ44 hOσ44 hT => ?_)
        have r230_σ44 : σ44.1 230 = σ0.1 230 := hOσ44.2 230 (by decide)
        have hK : TOK σ44.1 := by first | exact HQ.1 | exact HQ.1.1 | exact TOK_p eσ44 (by decide) hK
        have hB : ZB σ44.1 := ZB.tr hOσ44 (by decide) hB
        have g7_σ44 : σ44.1 218 7 = (σ0.1 218 7) := zI_atN eσ44 (by decide)
        have g9_σ44 : σ44.1 218 9 = (σ0.1 218 9) := zI_atN eσ44 (by decide)
        have g10_σ44 : σ44.1 218 10 = (σ0.1 218 10) := zI_atN eσ44 (by decide)
        have g11_σ44 : σ44.1 218 11 = (σ0.1 218 11) := zI_atN eσ44 (by decide)
        have g12_σ44 : σ44.1 218 12 = (σ0.1 218 12) := zI_atN eσ44 (by decide)
        have g13_σ44 : σ44.1 218 13 = (σ0.1 218 13) := zI_atN eσ44 (by decide)
        have g14_σ44 : σ44.1 218 14 = (σ0.1 218 14) := zI_atN eσ44 (by decide)
        have g15_σ44 : σ44.1 218 15 = (σ0.1 218 15) := zI_atN eσ44 (by decide)
        have g20_σ44 : σ44.1 218 20 = (σ0.1 218 20) := zI_atN eσ44 (by decide)
        have g22_σ44 : σ44.1 218 22 = (σ0.1 218 22) := zI_atN eσ44 (by decide)
        have g23_σ44 : σ44.1 218 23 = (σ0.1 218 23) := zI_atN eσ44 (by decide)
        have g24_σ44 : σ44.1 218 24 = (σ0.1 218 24) := zI_atN eσ44 (by decide)
        have g25_σ44 : σ44.1 218 25 = ((σ0.1 218 25) + 1) := zI_atI eσ44
        refine ok_zbX (Q := fun V => V = rkI v2) (x_X12_rank) (fun v45 hqv45 => ?_)
        have hqv45 : v45 = rkI v2 := hqv45
        try simp only [g7_σ44, g9_σ44, g10_σ44, g11_σ44, g12_σ44, g13_σ44, g14_σ44, g15_σ44, g20_σ44, g22_σ44, g23_σ44, g24_σ44, g25_σ44, hT.2 224 (by decide)] at hqv45
        have e48 := hqv45
        refine ok_gC rfl ?_
        refine ok_zbT (Q := fun V σ => (TOK σ.1 ∧ ZB σ.1 ∧ PIL σ.1 1 ∧ ((σ.1 218 22).toInt.toNat ≤ (σ44.1 218 22).toInt.toNat ∧ lst (σ44.1 230) (σ.1 218 22).toInt.toNat = popP (lst (σ44.1 230) (σ44.1 218 22).toInt.toNat)) ∧ ((σ.1 218 22).toInt ≤ 0 ∨ (rkI (σ44.1 230 ((σ.1 218 22) - 1).toNatClampNeg)).toInt < v45.toInt)) ∧ (σ.1 218 7 = σ44.1 218 7 ∧ σ.1 218 9 = σ44.1 218 9 ∧ σ.1 218 10 = σ44.1 218 10 ∧ σ.1 218 11 = σ44.1 218 11 ∧ σ.1 218 12 = σ44.1 218 12 ∧ σ.1 218 13 = σ44.1 218 13 ∧ σ.1 218 14 = σ44.1 218 14 ∧ σ.1 218 15 = σ44.1 218 15 ∧ σ.1 218 20 = σ44.1 218 20 ∧ σ.1 218 25 = σ44.1 218 25)) hT (s_X12_settlesTo_r hN (hR.tr hT) (hK) (by rw [hT.2 224 (by decide)]; exact hY) (hB) (by (try simp only [g7_σ44, g9_σ44, g10_σ44, g11_σ44, g12_σ44, g13_σ44, g14_σ44, g15_σ44, g20_σ44, g22_σ44, g23_σ44, g24_σ44, g25_σ44]); exact ha) (PIL_i g22_σ44 g23_σ44 g24_σ44 r230_σ44 hS h22 hd hd6 hp) (by rw [e48]; exact k48.1) (by (try simp only [g7_σ44, g9_σ44, g10_σ44, g11_σ44, g12_σ44, g13_σ44, g14_σ44, g15_σ44, g20_σ44, g22_σ44, g23_σ44, g24_σ44, g25_σ44]); rw [r230_σ44]; exact hNP) (by (try simp only [g7_σ44, g9_σ44, g10_σ44, g11_σ44, g12_σ44, g13_σ44, g14_σ44, g15_σ44, g20_σ44, g22_σ44, g23_σ44, g24_σ44, g25_σ44]); rw [r230_σ44]; exact Or.inr hpp)) (by decide) (fun v47 σ48 hOσ48 hT hqv47 => ?_)
        have hqv47 : (TOK σ48.1 ∧ ZB σ48.1 ∧ PIL σ48.1 1 ∧ ((σ48.1 218 22).toInt.toNat ≤ (σ44.1 218 22).toInt.toNat ∧ lst (σ44.1 230) (σ48.1 218 22).toInt.toNat = popP (lst (σ44.1 230) (σ44.1 218 22).toInt.toNat)) ∧ ((σ48.1 218 22).toInt ≤ 0 ∨ (rkI (σ44.1 230 ((σ48.1 218 22) - 1).toNatClampNeg)).toInt < v45.toInt)) ∧ (σ48.1 218 7 = σ44.1 218 7 ∧ σ48.1 218 9 = σ44.1 218 9 ∧ σ48.1 218 10 = σ44.1 218 10 ∧ σ48.1 218 11 = σ44.1 218 11 ∧ σ48.1 218 12 = σ44.1 218 12 ∧ σ48.1 218 13 = σ44.1 218 13 ∧ σ48.1 218 14 = σ44.1 218 14 ∧ σ48.1 218 15 = σ44.1 218 15 ∧ σ48.1 218 20 = σ44.1 218 20 ∧ σ48.1 218 25 = σ44.1 218 25) := hqv47
        have hkv47 := hqv47
        have hqv47 := hqv47.1
        have r230_σ48 : σ48.1 230 = σ0.1 230 := (hOσ48.2 230 (by decide)).trans r230_σ44
        have hK : TOK σ48.1 := by first | exact hqv47.1 | exact hqv47.1.1 | exact TOK_p eσ48 (by decide) hK
        have hB : ZB σ48.1 := hqv47.2.1
        try simp only [g7_σ44, g9_σ44, g10_σ44, g11_σ44, g12_σ44, g13_σ44, g14_σ44, g15_σ44, g20_σ44, g22_σ44, g23_σ44, g24_σ44, g25_σ44] at hqv47
        have g7_σ48 : σ48.1 218 7 = (σ0.1 218 7) := (hkv47.2.1).trans g7_σ44
        have g9_σ48 : σ48.1 218 9 = (σ0.1 218 9) := (hkv47.2.2.1).trans g9_σ44
        have g10_σ48 : σ48.1 218 10 = (σ0.1 218 10) := (hkv47.2.2.2.1).trans g10_σ44
        have g11_σ48 : σ48.1 218 11 = (σ0.1 218 11) := (hkv47.2.2.2.2.1).trans g11_σ44
        have g12_σ48 : σ48.1 218 12 = (σ0.1 218 12) := (hkv47.2.2.2.2.2.1).trans g12_σ44
        have g13_σ48 : σ48.1 218 13 = (σ0.1 218 13) := (hkv47.2.2.2.2.2.2.1).trans g13_σ44
        have g14_σ48 : σ48.1 218 14 = (σ0.1 218 14) := (hkv47.2.2.2.2.2.2.2.1).trans g14_σ44
        have g15_σ48 : σ48.1 218 15 = (σ0.1 218 15) := (hkv47.2.2.2.2.2.2.2.2.1).trans g15_σ44
        have g20_σ48 : σ48.1 218 20 = (σ0.1 218 20) := (hkv47.2.2.2.2.2.2.2.2.2.1).trans g20_σ44
        have g25_σ48 : σ48.1 218 25 = ((σ0.1 218 25) + 1) := (hkv47.2.2.2.2.2.2.2.2.2.2).trans g25_σ44
        have h51 := hqv47.2.2.1
        have b51 := PIL_b h51 (by decide)
        obtain ⟨b9, d9, r9, hS9, h9, hd9, hd69, hp9⟩ := h51
        rw [r230_σ48] at hS9
        have x51 := hqv47.2.2.2.2
        have l51 := hqv47.2.2.2.1
        have o51 : σ44.1 230 = σ0.1 230 := (hOσ48.2 230 (by decide)).symm.trans r230_σ48
        rw [o51, e48] at x51
        rw [o51] at l51
        have t51 := Stk_top2 hS9 h9 k48.1 x51
        have s22 : ((σ48.1 218 22) + 1).toInt = (σ48.1 218 22).toInt + 1 := by rw [ti_add]; simp only [Int32.reduceToInt]; omega
        refine ok_gR (v := 230) hT rfl (hR 218 21 rfl) ?_
        refine ok_gI rfl ?_
        refine ok_s14 hT rfl (by decide) (by ((try simp only [g7_σ48, g9_σ48, g10_σ48, g11_σ48, g12_σ48, g13_σ48, g14_σ48, g15_σ48, g20_σ48, g25_σ48])); first | omega | decide | (simp only [Int32.le_iff_toInt_le, Int32.lt_iff_toInt_lt, ti_add, ti_sub, ti_mul, Int32.reduceToInt] at *; omega)) (by ((try simp only [g7_σ48, g9_σ48, g10_σ48, g11_σ48, g12_σ48, g13_σ48, g14_σ48, g15_σ48, g20_σ48, g25_σ48])); first | omega | decide | (simp only [Int32.le_iff_toInt_le, Int32.lt_iff_toInt_lt, ti_add, ti_sub, ti_mul, Int32.reduceToInt] at *; omega)) (fun σ51 eσ51 hOσ51 hT => ?_)
        have a63 := zI_atI eσ51
        have i63 : ((σ48.1 218 22)).toNatClampNeg = ((σ48.1 218 22)).toInt.toNat := rfl
        have k63 : Stk (σ51.1 230) (((σ48.1 218 22)).toInt.toNat + 1) (b9 + 1) d9 (rkI (v2)).toInt.toNat := Stk_sign hS9 (fun k hk => by rw [zI_atN eσ51 (by rw [i63]; omega)]; exact congrFun r230_σ48 k) (by rw [← i63, a63]; exact w10.1) (by rw [← i63, a63]; omega) (by omega)
        have j63 : ((σ48.1 218 22) + 1).toInt.toNat = ((σ48.1 218 22)).toInt.toNat + 1 := by rw [s22]; omega
        have e63 : (σ51.1 230 ((σ48.1 218 22)).toInt.toNat).toInt < 50 := by rw [show σ51.1 230 ((σ48.1 218 22)).toInt.toNat = (v2) from a63]; omega
        have c63 : ∀ k, k < ((σ48.1 218 22)).toInt.toNat → σ51.1 230 k = σ0.1 230 k := fun k hk => by rw [zI_atN eσ51 (by rw [i63]; omega)]; exact congrFun r230_σ48 k
        have l63 : lst (σ51.1 230) (((σ48.1 218 22)).toInt.toNat + 1) = (lst (σ0.1 230) (σ0.1 218 22).toInt.toNat) := by rw [lst_s e63, lst_c c63, l51.2, hpp]
        have n63 : NP (σ51.1 230) (((σ48.1 218 22)).toInt.toNat + 1) := ⟨NP_c c63 (NP_le hNP l51.1), fun _ => by rw [lst_c c63, l51.2]; exact popP_i _⟩
        have hK : TOK σ51.1 := TOK_tr hOσ51 (by decide) (by decide) hK
        have hB : ZB σ51.1 := ZB.tr hOσ51 (by decide) hB
        have g7_σ51 : σ51.1 218 7 = (σ0.1 218 7) := (congrFun (hOσ51.2 218 (by decide)) 7).trans g7_σ48
        have g9_σ51 : σ51.1 218 9 = (σ0.1 218 9) := (congrFun (hOσ51.2 218 (by decide)) 9).trans g9_σ48
        have g10_σ51 : σ51.1 218 10 = (σ0.1 218 10) := (congrFun (hOσ51.2 218 (by decide)) 10).trans g10_σ48
        have g11_σ51 : σ51.1 218 11 = (σ0.1 218 11) := (congrFun (hOσ51.2 218 (by decide)) 11).trans g11_σ48
        have g12_σ51 : σ51.1 218 12 = (σ0.1 218 12) := (congrFun (hOσ51.2 218 (by decide)) 12).trans g12_σ48
        have g13_σ51 : σ51.1 218 13 = (σ0.1 218 13) := (congrFun (hOσ51.2 218 (by decide)) 13).trans g13_σ48
        have g14_σ51 : σ51.1 218 14 = (σ0.1 218 14) := (congrFun (hOσ51.2 218 (by decide)) 14).trans g14_σ48
        have g15_σ51 : σ51.1 218 15 = (σ0.1 218 15) := (congrFun (hOσ51.2 218 (by decide)) 15).trans g15_σ48
        have g20_σ51 : σ51.1 218 20 = (σ0.1 218 20) := (congrFun (hOσ51.2 218 (by decide)) 20).trans g20_σ48
        have g22_σ51 : σ51.1 218 22 = (σ48.1 218 22) := congrFun (hOσ51.2 218 (by decide)) 22
        have g23_σ51 : σ51.1 218 23 = (σ48.1 218 23) := congrFun (hOσ51.2 218 (by decide)) 23
        have g24_σ51 : σ51.1 218 24 = (σ48.1 218 24) := congrFun (hOσ51.2 218 (by decide)) 24
        have g25_σ51 : σ51.1 218 25 = ((σ0.1 218 25) + 1) := (congrFun (hOσ51.2 218 (by decide)) 25).trans g25_σ48
        refine ok_gIv rfl g22_σ51 ?_
        refine ok_pI hT rfl (by decide) (fun σ53 eσ53 hOσ53 hT => ?_)
        have r230_σ53 : σ53.1 230 = σ51.1 230 := hOσ53.2 230 (by decide)
        have hK : TOK σ53.1 := by first | exact HQ.1 | exact HQ.1.1 | exact TOK_p eσ53 (by decide) hK
        have hB : ZB σ53.1 := ZB.tr hOσ53 (by decide) hB
        have g7_σ53 : σ53.1 218 7 = (σ0.1 218 7) := (zI_atN eσ53 (by decide)).trans g7_σ51
        have g9_σ53 : σ53.1 218 9 = (σ0.1 218 9) := (zI_atN eσ53 (by decide)).trans g9_σ51
        have g10_σ53 : σ53.1 218 10 = (σ0.1 218 10) := (zI_atN eσ53 (by decide)).trans g10_σ51
        have g11_σ53 : σ53.1 218 11 = (σ0.1 218 11) := (zI_atN eσ53 (by decide)).trans g11_σ51
        have g12_σ53 : σ53.1 218 12 = (σ0.1 218 12) := (zI_atN eσ53 (by decide)).trans g12_σ51
        have g13_σ53 : σ53.1 218 13 = (σ0.1 218 13) := (zI_atN eσ53 (by decide)).trans g13_σ51
        have g14_σ53 : σ53.1 218 14 = (σ0.1 218 14) := (zI_atN eσ53 (by decide)).trans g14_σ51
        have g15_σ53 : σ53.1 218 15 = (σ0.1 218 15) := (zI_atN eσ53 (by decide)).trans g15_σ51
        have g20_σ53 : σ53.1 218 20 = (σ0.1 218 20) := (zI_atN eσ53 (by decide)).trans g20_σ51
        have g22_σ53 : σ53.1 218 22 = ((σ48.1 218 22) + 1) := zI_atI eσ53
        have g23_σ53 : σ53.1 218 23 = (σ48.1 218 23) := (zI_atN eσ53 (by decide)).trans g23_σ51
        have g24_σ53 : σ53.1 218 24 = (σ48.1 218 24) := (zI_atN eσ53 (by decide)).trans g24_σ51
        have g25_σ53 : σ53.1 218 25 = ((σ0.1 218 25) + 1) := (zI_atN eσ53 (by decide)).trans g25_σ51
        refine ok_gC rfl ?_
        refine ok_zbT (Q := fun V σ => ((TOK σ.1 ∧ (σ53.1 218 10).toInt ≤ (σ.1 218 11).toInt) ∧ RX σ.1 tx n (tkE tx n i)) ∧ (σ.1 218 7 = σ53.1 218 7 ∧ σ.1 218 9 = σ53.1 218 9 ∧ σ.1 218 14 = σ53.1 218 14 ∧ σ.1 218 15 = σ53.1 218 15 ∧ σ.1 218 20 = σ53.1 218 20 ∧ σ.1 218 22 = σ53.1 218 22 ∧ σ.1 218 23 = σ53.1 218 23 ∧ σ.1 218 24 = σ53.1 218 24 ∧ σ.1 218 25 = σ53.1 218 25)) hT (s_X12_advance_r hN (hR.tr hT) (TOK_A hK) (by rw [hT.2 224 (by decide)]; exact hY) (RX_i g9_σ53 g10_σ53 g11_σ53 g12_σ53 g13_σ53 ((hT.2 224 (by decide)).trans tE) nE pK)) (by decide) (fun v54 σ55 hOσ55 hT hqv54 => ?_)
        have hqv54 : ((TOK σ55.1 ∧ (σ53.1 218 10).toInt ≤ (σ55.1 218 11).toInt) ∧ RX σ55.1 tx n (tkE tx n i)) ∧ (σ55.1 218 7 = σ53.1 218 7 ∧ σ55.1 218 9 = σ53.1 218 9 ∧ σ55.1 218 14 = σ53.1 218 14 ∧ σ55.1 218 15 = σ53.1 218 15 ∧ σ55.1 218 20 = σ53.1 218 20 ∧ σ55.1 218 22 = σ53.1 218 22 ∧ σ55.1 218 23 = σ53.1 218 23 ∧ σ55.1 218 24 = σ53.1 218 24 ∧ σ55.1 218 25 = σ53.1 218 25) := hqv54
        have hkv54 := hqv54
        have hqv54 := hqv54.1
        have r230_σ55 : σ55.1 230 = σ51.1 230 := (hOσ55.2 230 (by decide)).trans r230_σ53
        have hK : TOK σ55.1 := by first | exact hqv54.1 | exact hqv54.1.1 | exact TOK_p eσ55 (by decide) hK
        have hB : ZB σ55.1 := ZB.tr hOσ55 (by decide) hB
        try simp only [g7_σ53, g9_σ53, g10_σ53, g11_σ53, g12_σ53, g13_σ53, g14_σ53, g15_σ53, g20_σ53, g22_σ53, g23_σ53, g24_σ53, g25_σ53] at hqv54
        have g7_σ55 : σ55.1 218 7 = (σ0.1 218 7) := (hkv54.2.1).trans g7_σ53
        have g9_σ55 : σ55.1 218 9 = (σ0.1 218 9) := (hkv54.2.2.1).trans g9_σ53
        have g14_σ55 : σ55.1 218 14 = (σ0.1 218 14) := (hkv54.2.2.2.1).trans g14_σ53
        have g15_σ55 : σ55.1 218 15 = (σ0.1 218 15) := (hkv54.2.2.2.2.1).trans g15_σ53
        have g20_σ55 : σ55.1 218 20 = (σ0.1 218 20) := (hkv54.2.2.2.2.2.1).trans g20_σ53
        have g22_σ55 : σ55.1 218 22 = ((σ48.1 218 22) + 1) := (hkv54.2.2.2.2.2.2.1).trans g22_σ53
        have g23_σ55 : σ55.1 218 23 = (σ48.1 218 23) := (hkv54.2.2.2.2.2.2.2.1).trans g23_σ53
        have g24_σ55 : σ55.1 218 24 = (σ48.1 218 24) := (hkv54.2.2.2.2.2.2.2.2.1).trans g24_σ53
        have g25_σ55 : σ55.1 218 25 = ((σ0.1 218 25) + 1) := (hkv54.2.2.2.2.2.2.2.2.2).trans g25_σ53
        have m75 := hqv54.1.2
        have g75 := hqv54.2
        exact ok_some ⟨hT, (show (TOK σ55.1 ∧ ((σ0.1 218 11).toInt ≤ (σ55.1 218 11).toInt ∧ 0 ≤ (σ55.1 218 22).toInt ∧ (σ55.1 218 22).toInt ≤ 40) ∧ (σ55.1 218 14 = 0 → ((1 : Int32) = -1 ∧ stp tx n mm (i, true, (lst (σ0.1 230) (σ0.1 218 22).toInt.toNat), (σ0.1 218 25).toInt.toNat) = some none ∧ REL σ55.1 tx n (i, true, (lst (σ0.1 230) (σ0.1 218 22).toInt.toNat), (σ0.1 218 25).toInt.toNat)) ∨ (∃ c, stp tx n mm (i, true, (lst (σ0.1 230) (σ0.1 218 22).toInt.toNat), (σ0.1 218 25).toInt.toNat) = some (some c) ∧ REL σ55.1 tx n c ∧ (σ0.1 218 11).toInt < (σ55.1 218 11).toInt ∧ (((1 : Int32) = 0 ∧ c.2.1 = true) ∨ ((1 : Int32) = 1 ∧ c.2.1 = false)))) ∧ (¬ σ55.1 218 14 = 0 → stp tx n mm (i, true, (lst (σ0.1 230) (σ0.1 218 22).toInt.toNat), (σ0.1 218 25).toInt.toNat) = none) ∧ (0 ≤ (σ55.1 218 25).toInt ∧ (σ55.1 218 25).toInt ≤ 24) ∧ ZB σ55.1) ∧ (σ55.1 218 7 = σ0.1 218 7 ∧ σ55.1 218 9 = σ0.1 218 9 ∧ σ55.1 218 20 = σ0.1 218 20) from ⟨by first | exact absurd hg n31 | exact absurd y31 n24 | exact ⟨hK, ⟨by (try simp only [g7_σ55, g9_σ55, g14_σ55, g15_σ55, g20_σ55, g22_σ55, g23_σ55, g24_σ55, g25_σ55]); omega, by (try simp only [g7_σ55, g9_σ55, g14_σ55, g15_σ55, g20_σ55, g22_σ55, g23_σ55, g24_σ55, g25_σ55]); omega⟩, fun q => absurd q (by (try simp only [g7_σ55, g9_σ55, g14_σ55, g15_σ55, g20_σ55, g22_σ55, g23_σ55, g24_σ55, g25_σ55]); exact n31), fun _ => (stp_c k10).trans (if_pos s19), by (try simp only [g7_σ55, g9_σ55, g14_σ55, g15_σ55, g20_σ55, g22_σ55, g23_σ55, g24_σ55, g25_σ55]); omega, hB⟩ | exact ⟨hK, ⟨by (try simp only [g7_σ55, g9_σ55, g14_σ55, g15_σ55, g20_σ55, g22_σ55, g23_σ55, g24_σ55, g25_σ55]); omega, by (try simp only [g7_σ55, g9_σ55, g14_σ55, g15_σ55, g20_σ55, g22_σ55, g23_σ55, g24_σ55, g25_σ55]); omega⟩, fun _ => Or.inl ⟨rfl, st1, ⟨⟨hG, hi⟩, ⟨rfl, hNP⟩, rfl, fun _ => ⟨hP, hpp⟩, fun h => Bool.noConfusion (show true = false from h)⟩⟩, fun q => absurd (by (try simp only [g7_σ55, g9_σ55, g14_σ55, g15_σ55, g20_σ55, g22_σ55, g23_σ55, g24_σ55, g25_σ55]); exact hg) q, by (try simp only [g7_σ55, g9_σ55, g14_σ55, g15_σ55, g20_σ55, g22_σ55, g23_σ55, g24_σ55, g25_σ55]); omega, hB⟩ | exact ⟨hK, ⟨by (try simp only [g7_σ55, g9_σ55, g14_σ55, g15_σ55, g20_σ55, g22_σ55, g23_σ55, g24_σ55, g25_σ55]); omega, by (try simp only [g7_σ55, g9_σ55, g14_σ55, g15_σ55, g20_σ55, g22_σ55, g23_σ55, g24_σ55, g25_σ55]); rw [s22]; omega⟩, fun _ => Or.inr ⟨_, (stp_c k10).trans (if_neg m19), ⟨⟨g75, le1⟩, ⟨by (try simp only [g7_σ55, g9_σ55, g14_σ55, g15_σ55, g20_σ55, g22_σ55, g23_σ55, g24_σ55, g25_σ55]); rw [r230_σ55, j63]; exact l63.symm, by (try simp only [g7_σ55, g9_σ55, g14_σ55, g15_σ55, g20_σ55, g22_σ55, g23_σ55, g24_σ55, g25_σ55]); rw [r230_σ55, j63]; exact n63⟩, by (try simp only [g7_σ55, g9_σ55, g14_σ55, g15_σ55, g20_σ55, g22_σ55, g23_σ55, g24_σ55, g25_σ55]); rw [s25]; omega, fun h => Bool.noConfusion (show false = true from h), fun _ => PIL_i g22_σ55 g23_σ55 g24_σ55 r230_σ55 (by rw [j63]; exact k63) (by rw [s22]; omega) hd9 hd69 (by omega)⟩, by (try simp only [g7_σ55, g9_σ55, g14_σ55, g15_σ55, g20_σ55, g22_σ55, g23_σ55, g24_σ55, g25_σ55]); omega, Or.inr ⟨rfl, rfl⟩⟩, fun q => absurd (by (try simp only [g7_σ55, g9_σ55, g14_σ55, g15_σ55, g20_σ55, g22_σ55, g23_σ55, g24_σ55, g25_σ55]); exact y31) q, by (try simp only [g7_σ55, g9_σ55, g14_σ55, g15_σ55, g20_σ55, g22_σ55, g23_σ55, g24_σ55, g25_σ55]); rw [s25]; omega, hB⟩ | exact ⟨hK, ⟨by (try simp only [g7_σ55, g9_σ55, g14_σ55, g15_σ55, g20_σ55, g22_σ55, g23_σ55, g24_σ55, g25_σ55]); omega, by omega⟩, fun _ => Or.inr ⟨_, stp_p m10 ⟨k86, t93⟩, ⟨⟨RX_i g9_σ55 rfl rfl rfl rfl ((hT.2 224 (by decide)).trans tE) nE pK, le1⟩, ⟨by rw [r230_σ55]; exact l129.2.symm, by rw [r230_σ55]; exact NP_le hNP (by omega)⟩, by (try simp only [g7_σ55, g9_σ55, g14_σ55, g15_σ55, g20_σ55, g22_σ55, g23_σ55, g24_σ55, g25_σ55]), fun _ => ⟨h129, popP_i _⟩, fun h => Bool.noConfusion (show true = false from h)⟩, by (try simp only [g7_σ55, g9_σ55, g14_σ55, g15_σ55, g20_σ55, g22_σ55, g23_σ55, g24_σ55, g25_σ55]); omega, Or.inl ⟨rfl, rfl⟩⟩, fun q => absurd (by (try simp only [g7_σ55, g9_σ55, g14_σ55, g15_σ55, g20_σ55, g22_σ55, g23_σ55, g24_σ55, g25_σ55]); exact hg) q, by (try simp only [g7_σ55, g9_σ55, g14_σ55, g15_σ55, g20_σ55, g22_σ55, g23_σ55, g24_σ55, g25_σ55]); omega, hB⟩, g7_σ55, g9_σ55, g20_σ55⟩)⟩

theorem tk_le {t : Nat → Int32} {n i : Nat} (h : i ≤ n) : (i ≤ tkF t n i ∧ tkF t n i ≤ n) ∧ tkF t n i ≤ tkE t n i ∧ tkE t n i ≤ n := by
  have a := Rn_b (p := isSp) (t := t) h
  have a : i ≤ tkF t n i ∧ tkF t n i ≤ n := a
  refine ⟨a, ?_⟩
  unfold tkE
  simp only
  split
  · split
    · exact Rn_b a.2
    · split
      · exact Rn_b a.2
      · omega
  · omega
theorem tk_gt {t : Nat → Int32} {n i : Nat} (h : i ≤ n) (hk : ¬ tkK t n i = 0) : i < tkE t n i := by
  have a := (tk_le (t := t) h).1
  have q : tkF t n i < n := by
    by_cases q : tkF t n i < n
    · exact q
    · exact absurd (tk_0 rfl q).1 hk
  unfold tkE
  simp only [if_pos q]
  split
  · rename_i l
    have := Rn_b (p := isLt) (t := t) (n := n) (i := tkF t n i + 1) (by omega)
    rw [Rn_s q l]; omega
  · split
    · rename_i l
      have := Rn_b (p := isDg) (t := t) (n := n) (i := tkF t n i + 1) (by omega)
      rw [Rn_s q l]; omega
    · omega
theorem mOK_n {t : Nat → Int32} {n i : Nat} {m : Int32} (h : mOK t n i m) : ¬ tkK t n i = 0 := by
  rcases h with q | q
  · rw [q.1]; decide
  · rw [q.1]; decide
/-- the family whose first set is looked for at i: where it ends -/
def famF (t : Nat → Int32) (n : Nat) (m : Int32) : Nat → Nat → Option Nat
  | 0, _ => none
  | f + 1, i => if mOK t n i m then (if tkK t n (tkE t n i) = 44 then famF t n m f (tkE t n (tkE t n i)) else if tkK t n (tkE t n i) = 125 then some (tkE t n (tkE t n i)) else none) else none
theorem famF_any {t : Nat → Int32} {n : Nat} {m : Int32} : ∀ f g i, i ≤ n → n + 1 - i ≤ f → n + 1 - i ≤ g → famF t n m f i = famF t n m g i
  | 0, g, i, h, h1, _ => absurd h1 (by omega)
  | f + 1, 0, i, h, _, h2 => absurd h2 (by omega)
  | f + 1, g + 1, i, h, h1, h2 => by
    show (if mOK t n i m then _ else none) = (if mOK t n i m then _ else none)
    by_cases q : mOK t n i m
    · rw [if_pos q, if_pos q]
      by_cases r : tkK t n (tkE t n i) = 44
      · rw [if_pos r, if_pos r]
        have a := tk_gt h (mOK_n q)
        have b := (tk_le (t := t) h).2.2
        have c := tk_gt b (by rw [r]; decide)
        have d := (tk_le (t := t) b).2.2
        exact famF_any f g _ d (by omega) (by omega)
      · rw [if_neg r, if_neg r]
    · rw [if_neg q, if_neg q]
def fmE (t : Nat → Int32) (n : Nat) (m : Int32) (i : Nat) : Option Nat := famF t n m (n + 1 - i) i
/-- behind a set, at p -/
def fmC (t : Nat → Int32) (n : Nat) (m : Int32) (p : Nat) : Option Nat := if tkK t n p = 44 then fmE t n m (tkE t n p) else if tkK t n p = 125 then some (tkE t n p) else none
theorem fmE_t {t : Nat → Int32} {n : Nat} {m : Int32} {i : Nat} (h : i ≤ n) (q : mOK t n i m) : fmE t n m i = fmC t n m (tkE t n i) := by
  unfold fmE fmC
  rw [show n + 1 - i = (n - i) + 1 by omega]
  show (if mOK t n i m then _ else none) = _
  rw [if_pos q]
  by_cases r : tkK t n (tkE t n i) = 44
  · rw [if_pos r, if_pos r]
    have a := tk_gt h (mOK_n q)
    have b := (tk_le (t := t) h).2.2
    have c := tk_gt b (by rw [r]; decide)
    have d := (tk_le (t := t) b).2.2
    exact famF_any _ _ _ d (by omega) (by omega)
  · rw [if_neg r, if_neg r]
theorem fmE_f {t : Nat → Int32} {n : Nat} {m : Int32} {i : Nat} (h : i ≤ n) (q : ¬ mOK t n i m) : fmE t n m i = none := by
  unfold fmE
  rw [show n + 1 - i = (n - i) + 1 by omega]
  exact if_neg q
/-- the family that begins with the bracket at i -/
def fam (t : Nat → Int32) (n : Nat) (m : Int32) (i : Nat) : Option Nat := if tkK t n (tkE t n i) = 125 then some (tkE t n (tkE t n i)) else fmE t n m (tkE t n i)

set_option maxHeartbeats 4000000 in
set_option maxRecDepth 100000 in
theorem s_X12_readsSets_r {N : Nat} (hN : 1048576 ≤ N) {x1 : Int32} {σ0 : zS} {tx : Nat → Int32} {n i : Nat} (hR : RF σ0.2.2) (hK : TOK σ0.1) (hY : BYT (σ0.1 224)) (hG : RX σ0.1 tx n i) (hg : σ0.1 218 14 = 0) (hB : ZB σ0.1) (hn : 0 ≤ x1.toInt ∧ x1.toInt ≤ 10) (hp : 0 ≤ (σ0.1 218 23).toInt ∧ (σ0.1 218 23).toInt ≤ 17) (h12 : ¬ σ0.1 218 12 = 0) (hi : i ≤ n) : Ok (f_X12_readsSets N 218 x1 σ0) (fun r => Tr [218, 226] σ0 r.2 ∧ ((TOK r.2.1 ∧ (σ0.1 218 11).toInt ≤ (r.2.1 218 11).toInt ∧ (r.2.1 218 14 = 0 → (σ0.1 218 11).toInt < (r.2.1 218 11).toInt ∧ ∃ j, fam tx n x1 i = some j ∧ RX r.2.1 tx n j) ∧ (¬ r.2.1 218 14 = 0 → fam tx n x1 i = none) ∧ ZB r.2.1 ∧ r.2.1 218 23 = σ0.1 218 23 + 1) ∧ (r.2.1 218 7 = σ0.1 218 7 ∧ r.2.1 218 9 = σ0.1 218 9 ∧ r.2.1 218 20 = σ0.1 218 20 ∧ r.2.1 218 22 = σ0.1 218 22 ∧ r.2.1 218 24 = σ0.1 218 24 ∧ r.2.1 218 25 = σ0.1 218 25))) := by
  have hT : Tr [218, 226] σ0 σ0 := Tr.rf
  have hK1 := hK.1
  have tE : σ0.1 224 = tx := hG.1.1
  have nE : (σ0.1 218 9).toInt.toNat = n := hG.1.2
  have pK : TKV (σ0.1 218 11) (σ0.1 218 10) (σ0.1 218 12) (σ0.1 218 13) tx n i := hG.2
  have l12 := hK.2.1 h12
  have le1 := (tk_le (t := tx) hi).2.2
  rw [f_X12_readsSets.eq_1]
  refine ok_gC rfl ?_
  refine ok_zbT (Q := fun V σ => ((TOK σ.1 ∧ (σ0.1 218 10).toInt ≤ (σ.1 218 11).toInt) ∧ RX σ.1 tx n (tkE tx n i)) ∧ (σ.1 218 7 = σ0.1 218 7 ∧ σ.1 218 9 = σ0.1 218 9 ∧ σ.1 218 14 = σ0.1 218 14 ∧ σ.1 218 15 = σ0.1 218 15 ∧ σ.1 218 20 = σ0.1 218 20 ∧ σ.1 218 22 = σ0.1 218 22 ∧ σ.1 218 23 = σ0.1 218 23 ∧ σ.1 218 24 = σ0.1 218 24 ∧ σ.1 218 25 = σ0.1 218 25)) hT (s_X12_advance_r hN (hR.tr hT) (TOK_A hK) (by rw [hT.2 224 (by decide)]; exact hY) (RX_i rfl rfl rfl rfl rfl ((hT.2 224 (by decide)).trans tE) nE pK)) (by decide) (fun v1 σ2 hOσ2 hT hqv1 => ?_)
  have hqv1 : ((TOK σ2.1 ∧ (σ0.1 218 10).toInt ≤ (σ2.1 218 11).toInt) ∧ RX σ2.1 tx n (tkE tx n i)) ∧ (σ2.1 218 7 = σ0.1 218 7 ∧ σ2.1 218 9 = σ0.1 218 9 ∧ σ2.1 218 14 = σ0.1 218 14 ∧ σ2.1 218 15 = σ0.1 218 15 ∧ σ2.1 218 20 = σ0.1 218 20 ∧ σ2.1 218 22 = σ0.1 218 22 ∧ σ2.1 218 23 = σ0.1 218 23 ∧ σ2.1 218 24 = σ0.1 218 24 ∧ σ2.1 218 25 = σ0.1 218 25) := hqv1
  have hkv1 := hqv1
  have hqv1 := hqv1.1
  have hK : TOK σ2.1 := by first | exact hqv1.1 | exact hqv1.1.1 | exact TOK_p eσ2 (by decide) hK
  have hB : ZB σ2.1 := ZB.tr hOσ2 (by decide) hB
  have g7_σ2 : σ2.1 218 7 = (σ0.1 218 7) := hkv1.2.1
  have g9_σ2 : σ2.1 218 9 = (σ0.1 218 9) := hkv1.2.2.1
  have g14_σ2 : σ2.1 218 14 = (σ0.1 218 14) := hkv1.2.2.2.1
  have g15_σ2 : σ2.1 218 15 = (σ0.1 218 15) := hkv1.2.2.2.2.1
  have g20_σ2 : σ2.1 218 20 = (σ0.1 218 20) := hkv1.2.2.2.2.2.1
  have g22_σ2 : σ2.1 218 22 = (σ0.1 218 22) := hkv1.2.2.2.2.2.2.1
  have g23_σ2 : σ2.1 218 23 = (σ0.1 218 23) := hkv1.2.2.2.2.2.2.2.1
  have g24_σ2 : σ2.1 218 24 = (σ0.1 218 24) := hkv1.2.2.2.2.2.2.2.2.1
  have g25_σ2 : σ2.1 218 25 = (σ0.1 218 25) := hkv1.2.2.2.2.2.2.2.2.2
  have m1 := hqv1.1.2
  have pK : TKV (σ2.1 218 11) (σ2.1 218 10) (σ2.1 218 12) (σ2.1 218 13) tx n (tkE tx n i) := hqv1.2.2
  refine ok_gC rfl ?_
  refine ok_zbT (Q := fun V σ => (TOK σ.1 ∧ ZB σ.1 ∧ σ.1 218 23 = σ2.1 218 23 + 1) ∧ (σ.1 218 7 = σ2.1 218 7 ∧ σ.1 218 9 = σ2.1 218 9 ∧ σ.1 218 10 = σ2.1 218 10 ∧ σ.1 218 11 = σ2.1 218 11 ∧ σ.1 218 12 = σ2.1 218 12 ∧ σ.1 218 13 = σ2.1 218 13 ∧ σ.1 218 14 = σ2.1 218 14 ∧ σ.1 218 15 = σ2.1 218 15 ∧ σ.1 218 20 = σ2.1 218 20 ∧ σ.1 218 22 = σ2.1 218 22 ∧ σ.1 218 24 = σ2.1 218 24 ∧ σ.1 218 25 = σ2.1 218 25)) hT (s_X12_pushesEmpty hN (hR.tr hT) (hK) (by rw [hT.2 224 (by decide)]; exact hY) (hB) (by (try simp only [g7_σ2, g9_σ2, g14_σ2, g15_σ2, g20_σ2, g22_σ2, g23_σ2, g24_σ2, g25_σ2]); exact hp)) (by decide) (fun v3 σ4 hOσ4 hT hqv3 => ?_)
  have hqv3 : (TOK σ4.1 ∧ ZB σ4.1 ∧ σ4.1 218 23 = σ2.1 218 23 + 1) ∧ (σ4.1 218 7 = σ2.1 218 7 ∧ σ4.1 218 9 = σ2.1 218 9 ∧ σ4.1 218 10 = σ2.1 218 10 ∧ σ4.1 218 11 = σ2.1 218 11 ∧ σ4.1 218 12 = σ2.1 218 12 ∧ σ4.1 218 13 = σ2.1 218 13 ∧ σ4.1 218 14 = σ2.1 218 14 ∧ σ4.1 218 15 = σ2.1 218 15 ∧ σ4.1 218 20 = σ2.1 218 20 ∧ σ4.1 218 22 = σ2.1 218 22 ∧ σ4.1 218 24 = σ2.1 218 24 ∧ σ4.1 218 25 = σ2.1 218 25) := hqv3
  have hkv3 := hqv3
  have hqv3 := hqv3.1
  have hK : TOK σ4.1 := by first | exact hqv3.1 | exact hqv3.1.1 | exact TOK_p eσ4 (by decide) hK
  have hB : ZB σ4.1 := by first | exact hqv3.2.1 | exact hqv3.2.2.2.2
  try simp only [g7_σ2, g9_σ2, g14_σ2, g15_σ2, g20_σ2, g22_σ2, g23_σ2, g24_σ2, g25_σ2] at hqv3
  have g7_σ4 : σ4.1 218 7 = (σ0.1 218 7) := (hkv3.2.1).trans g7_σ2
  have g9_σ4 : σ4.1 218 9 = (σ0.1 218 9) := (hkv3.2.2.1).trans g9_σ2
  have g10_σ4 : σ4.1 218 10 = (σ2.1 218 10) := hkv3.2.2.2.1
  have g11_σ4 : σ4.1 218 11 = (σ2.1 218 11) := hkv3.2.2.2.2.1
  have g12_σ4 : σ4.1 218 12 = (σ2.1 218 12) := hkv3.2.2.2.2.2.1
  have g13_σ4 : σ4.1 218 13 = (σ2.1 218 13) := hkv3.2.2.2.2.2.2.1
  have g14_σ4 : σ4.1 218 14 = (σ0.1 218 14) := (hkv3.2.2.2.2.2.2.2.1).trans g14_σ2
  have g15_σ4 : σ4.1 218 15 = (σ0.1 218 15) := (hkv3.2.2.2.2.2.2.2.2.1).trans g15_σ2
  have g20_σ4 : σ4.1 218 20 = (σ0.1 218 20) := (hkv3.2.2.2.2.2.2.2.2.2.1).trans g20_σ2
  have g22_σ4 : σ4.1 218 22 = (σ0.1 218 22) := (hkv3.2.2.2.2.2.2.2.2.2.2.1).trans g22_σ2
  have g24_σ4 : σ4.1 218 24 = (σ0.1 218 24) := (hkv3.2.2.2.2.2.2.2.2.2.2.2.1).trans g24_σ2
  have g25_σ4 : σ4.1 218 25 = (σ0.1 218 25) := (hkv3.2.2.2.2.2.2.2.2.2.2.2.2).trans g25_σ2
  have g5 := hqv3.2.2
  have s5 : (σ4.1 218 23).toInt = (σ0.1 218 23).toInt + 1 := by rw [g5, ti_add]; simp only [Int32.reduceToInt]; omega
  refine ok_gIv rfl g12_σ4 ?_
  refine ok_if (fun hc6 => ?_) (fun hc6 => ?_)
  · have k14 : tkK tx n (tkE tx n i) = 125 := pK.2.1.symm.trans hc6
    obtain ⟨p9, hp9⟩ : ∃ p, p = tkE tx n i := ⟨_, rfl⟩
    rw [← hp9] at pK
    have k14p : tkK tx n p9 = 125 := by rw [hp9]; exact k14
    have fa14 : fam tx n x1 i = some (tkE tx n p9) := by rw [hp9]; exact if_pos k14
    refine ok_gC rfl ?_
    refine ok_zbT (Q := fun V σ => (TOK σ.1 ∧ (σ4.1 218 11).toInt ≤ (σ.1 218 11).toInt ∧ (σ.1 218 14 = 0 → (σ4.1 218 14 = 0 ∧ (σ4.1 218 11).toInt < (σ.1 218 11).toInt) ∧ tkK tx n p9 = (125 : Int32) ∧ RX σ.1 tx n (tkE tx n p9)) ∧ (¬ σ.1 218 14 = 0 → σ4.1 218 14 = 0 → ¬ tkK tx n p9 = (125 : Int32))) ∧ (σ.1 218 7 = σ4.1 218 7 ∧ σ.1 218 9 = σ4.1 218 9 ∧ σ.1 218 20 = σ4.1 218 20 ∧ σ.1 218 22 = σ4.1 218 22 ∧ σ.1 218 23 = σ4.1 218 23 ∧ σ.1 218 24 = σ4.1 218 24 ∧ σ.1 218 25 = σ4.1 218 25)) hT (s_X12_needsSign_r hN (hR.tr hT) (hK) (by rw [hT.2 224 (by decide)]; exact hY) (by first | exact fun _ => RX_i g9_σ4 g10_σ4 g11_σ4 g12_σ4 g13_σ4 ((hT.2 224 (by decide)).trans tE) nE pK | exact fun q => absurd q n26) (by decide)) (by decide) (fun v7 σ8 hOσ8 hT hqv7 => ?_)
    have hqv7 : (TOK σ8.1 ∧ (σ4.1 218 11).toInt ≤ (σ8.1 218 11).toInt ∧ (σ8.1 218 14 = 0 → (σ4.1 218 14 = 0 ∧ (σ4.1 218 11).toInt < (σ8.1 218 11).toInt) ∧ tkK tx n p9 = (125 : Int32) ∧ RX σ8.1 tx n (tkE tx n p9)) ∧ (¬ σ8.1 218 14 = 0 → σ4.1 218 14 = 0 → ¬ tkK tx n p9 = (125 : Int32))) ∧ (σ8.1 218 7 = σ4.1 218 7 ∧ σ8.1 218 9 = σ4.1 218 9 ∧ σ8.1 218 20 = σ4.1 218 20 ∧ σ8.1 218 22 = σ4.1 218 22 ∧ σ8.1 218 23 = σ4.1 218 23 ∧ σ8.1 218 24 = σ4.1 218 24 ∧ σ8.1 218 25 = σ4.1 218 25) := hqv7
    have hkv7 := hqv7
    have hqv7 := hqv7.1
    have hK : TOK σ8.1 := by first | exact hqv7.1 | exact hqv7.1.1 | exact TOK_p eσ8 (by decide) hK
    have hB : ZB σ8.1 := ZB.tr hOσ8 (by decide) hB
    try simp only [g7_σ4, g9_σ4, g10_σ4, g11_σ4, g12_σ4, g13_σ4, g14_σ4, g15_σ4, g20_σ4, g22_σ4, g24_σ4, g25_σ4] at hqv7
    have g7_σ8 : σ8.1 218 7 = (σ0.1 218 7) := (hkv7.2.1).trans g7_σ4
    have g9_σ8 : σ8.1 218 9 = (σ0.1 218 9) := (hkv7.2.2.1).trans g9_σ4
    have g20_σ8 : σ8.1 218 20 = (σ0.1 218 20) := (hkv7.2.2.2.1).trans g20_σ4
    have g22_σ8 : σ8.1 218 22 = (σ0.1 218 22) := (hkv7.2.2.2.2.1).trans g22_σ4
    have g23_σ8 : σ8.1 218 23 = (σ4.1 218 23) := hkv7.2.2.2.2.2.1
    have g24_σ8 : σ8.1 218 24 = (σ0.1 218 24) := (hkv7.2.2.2.2.2.2.1).trans g24_σ4
    have g25_σ8 : σ8.1 218 25 = (σ0.1 218 25) := (hkv7.2.2.2.2.2.2.2).trans g25_σ4
    have m53 := hqv7.2.1
    have u53 := hqv7.2.2.1
    have f53 := hqv7.2.2.2
    exact ok_some ⟨hT, (show (TOK σ8.1 ∧ (σ0.1 218 11).toInt ≤ (σ8.1 218 11).toInt ∧ (σ8.1 218 14 = 0 → (σ0.1 218 11).toInt < (σ8.1 218 11).toInt ∧ ∃ j, fam tx n x1 i = some j ∧ RX σ8.1 tx n j) ∧ (¬ σ8.1 218 14 = 0 → fam tx n x1 i = none) ∧ ZB σ8.1 ∧ σ8.1 218 23 = σ0.1 218 23 + 1) ∧ (σ8.1 218 7 = σ0.1 218 7 ∧ σ8.1 218 9 = σ0.1 218 9 ∧ σ8.1 218 20 = σ0.1 218 20 ∧ σ8.1 218 22 = σ0.1 218 22 ∧ σ8.1 218 24 = σ0.1 218 24 ∧ σ8.1 218 25 = σ0.1 218 25) from ⟨by first | exact ⟨hK, by (try simp only [g7_σ8, g9_σ8, g20_σ8, g22_σ8, g23_σ8, g24_σ8, g25_σ8]); omega, fun q => ⟨by (try simp only [g7_σ8, g9_σ8, g20_σ8, g22_σ8, g23_σ8, g24_σ8, g25_σ8]); omega, _, fa14, (u53 q).2.2⟩, fun q => absurd k14p (f53 q hg), hB, (g23_σ8).trans g5⟩ | exact ⟨hK, by (try simp only [g7_σ8, g9_σ8, g20_σ8, g22_σ8, g23_σ8, g24_σ8, g25_σ8]); omega, fun q => ⟨by (try simp only [g7_σ8, g9_σ8, g20_σ8, g22_σ8, g23_σ8, g24_σ8, g25_σ8]); omega, _, fc9.trans (if_pos (u53 q).2.1), (u53 q).2.2⟩, fun q => fc9.trans (if_neg (f53 q y26)), hB, (g23_σ8).trans g5⟩ | exact ⟨hK, by (try simp only [g7_σ8, g9_σ8, g20_σ8, g22_σ8, g23_σ8, g24_σ8, g25_σ8]); omega, fun q => absurd (u53 q).1.1 n26, fun _ => i4 n26, hB, (g23_σ8).trans g5⟩, g7_σ8, g9_σ8, g20_σ8, g22_σ8, g24_σ8, g25_σ8⟩)⟩
  · have hfam : fam tx n x1 i = fmE tx n x1 (tkE tx n i) := if_neg (fun q => hc6 (pK.2.1.trans q))
    refine ok_gC rfl ?_
    refine ok_zbT (Q := fun V σ => (TOK σ.1 ∧ (σ4.1 218 11).toInt ≤ (σ.1 218 11).toInt ∧ (σ.1 218 14 = 0 → ((σ4.1 218 11).toInt < (σ.1 218 11).toInt ∧ mOK tx n (tkE tx n i) x1) ∧ RX σ.1 tx n (tkE tx n (tkE tx n i))) ∧ (¬ σ.1 218 14 = 0 → ¬ mOK tx n (tkE tx n i) x1) ∧ ZB σ.1) ∧ (σ.1 218 7 = σ4.1 218 7 ∧ σ.1 218 9 = σ4.1 218 9 ∧ σ.1 218 20 = σ4.1 218 20 ∧ σ.1 218 22 = σ4.1 218 22 ∧ σ.1 218 23 = σ4.1 218 23 ∧ σ.1 218 24 = σ4.1 218 24 ∧ σ.1 218 25 = σ4.1 218 25)) hT (s_X12_readsSet_r hN (hR.tr hT) (hK) (by rw [hT.2 224 (by decide)]; exact hY) (RX_i g9_σ4 g10_σ4 g11_σ4 g12_σ4 g13_σ4 ((hT.2 224 (by decide)).trans tE) nE pK) (by first | exact (g14_σ4).trans hg | exact (g14_σ4).trans y26) (hB) (hn) (by (try simp only [g7_σ4, g9_σ4, g10_σ4, g11_σ4, g12_σ4, g13_σ4, g14_σ4, g15_σ4, g20_σ4, g22_σ4, g24_σ4, g25_σ4]); omega)) (by decide) (fun v9 σ10 hOσ10 hT hqv9 => ?_)
    have hqv9 : (TOK σ10.1 ∧ (σ4.1 218 11).toInt ≤ (σ10.1 218 11).toInt ∧ (σ10.1 218 14 = 0 → ((σ4.1 218 11).toInt < (σ10.1 218 11).toInt ∧ mOK tx n (tkE tx n i) x1) ∧ RX σ10.1 tx n (tkE tx n (tkE tx n i))) ∧ (¬ σ10.1 218 14 = 0 → ¬ mOK tx n (tkE tx n i) x1) ∧ ZB σ10.1) ∧ (σ10.1 218 7 = σ4.1 218 7 ∧ σ10.1 218 9 = σ4.1 218 9 ∧ σ10.1 218 20 = σ4.1 218 20 ∧ σ10.1 218 22 = σ4.1 218 22 ∧ σ10.1 218 23 = σ4.1 218 23 ∧ σ10.1 218 24 = σ4.1 218 24 ∧ σ10.1 218 25 = σ4.1 218 25) := hqv9
    have hkv9 := hqv9
    have hqv9 := hqv9.1
    have hK : TOK σ10.1 := by first | exact hqv9.1 | exact hqv9.1.1 | exact TOK_p eσ10 (by decide) hK
    have hB : ZB σ10.1 := by first | exact hqv9.2.1 | exact hqv9.2.2.2.2
    try simp only [g7_σ4, g9_σ4, g10_σ4, g11_σ4, g12_σ4, g13_σ4, g14_σ4, g15_σ4, g20_σ4, g22_σ4, g24_σ4, g25_σ4] at hqv9
    have g7_σ10 : σ10.1 218 7 = (σ0.1 218 7) := (hkv9.2.1).trans g7_σ4
    have g9_σ10 : σ10.1 218 9 = (σ0.1 218 9) := (hkv9.2.2.1).trans g9_σ4
    have g20_σ10 : σ10.1 218 20 = (σ0.1 218 20) := (hkv9.2.2.2.1).trans g20_σ4
    have g22_σ10 : σ10.1 218 22 = (σ0.1 218 22) := (hkv9.2.2.2.2.1).trans g22_σ4
    have g23_σ10 : σ10.1 218 23 = (σ4.1 218 23) := hkv9.2.2.2.2.2.1
    have g24_σ10 : σ10.1 218 24 = (σ0.1 218 24) := (hkv9.2.2.2.2.2.2.1).trans g24_σ4
    have g25_σ10 : σ10.1 218 25 = (σ0.1 218 25) := (hkv9.2.2.2.2.2.2.2).trans g25_σ4
    have m19 := hqv9.2.1
    have u19 := hqv9.2.2.1
    have f19 := hqv9.2.2.2.1
    refine ok_lp (fun t : zS => Tr [218, 226] σ0 (t) ∧ ((σ0.1 218 11).toInt < ((t).1 218 11).toInt ∧ (∃ p : Nat, ((t).1 218 14 = 0 → (RX (t).1 tx n p ∧ p ≤ n) ∧ fam tx n x1 i = fmC tx n x1 p)) ∧ (¬ (t).1 218 14 = 0 → fam tx n x1 i = none)) ∧ (TOK (t).1) ∧ (ZB (t).1) ∧ ((t).1 218 7 = (σ0.1 218 7)) ∧ ((t).1 218 9 = (σ0.1 218 9)) ∧ ((t).1 218 20 = (σ0.1 218 20)) ∧ ((t).1 218 22 = (σ0.1 218 22)) ∧ ((t).1 218 23 = (σ4.1 218 23)) ∧ ((t).1 218 24 = (σ0.1 218 24)) ∧ ((t).1 218 25 = (σ0.1 218 25))) (fun t : zS => (600 - ((t).1 218 11).toInt).toNat) (fun again11 t hI ih22_11 => ?_) N _ (show Tr [218, 226] σ0 σ10 ∧ ((σ0.1 218 11).toInt < (σ10.1 218 11).toInt ∧ (∃ p : Nat, (σ10.1 218 14 = 0 → (RX σ10.1 tx n p ∧ p ≤ n) ∧ fam tx n x1 i = fmC tx n x1 p)) ∧ (¬ σ10.1 218 14 = 0 → fam tx n x1 i = none)) ∧ (TOK σ10.1) ∧ (ZB σ10.1) ∧ (σ10.1 218 7 = (σ0.1 218 7)) ∧ (σ10.1 218 9 = (σ0.1 218 9)) ∧ (σ10.1 218 20 = (σ0.1 218 20)) ∧ (σ10.1 218 22 = (σ0.1 218 22)) ∧ (σ10.1 218 23 = (σ4.1 218 23)) ∧ (σ10.1 218 24 = (σ0.1 218 24)) ∧ (σ10.1 218 25 = (σ0.1 218 25)) from ⟨hT, (by exact ⟨by (try simp only [g7_σ10, g9_σ10, g20_σ10, g22_σ10, g23_σ10, g24_σ10, g25_σ10]); omega, ⟨tkE tx n (tkE tx n i), fun q => ⟨⟨(u19 q).2, (tk_le le1).2.2⟩, hfam.trans (fmE_t le1 (u19 q).1.2)⟩⟩, fun q => hfam.trans (fmE_f le1 (f19 q))⟩), hK, hB, g7_σ10, g9_σ10, g20_σ10, g22_σ10, g23_σ10, g24_σ10, g25_σ10⟩) (show (600 - (σ10.1 218 11).toInt).toNat < N from (by omega))
    obtain ⟨σ11, rfl⟩ : ∃ x, x = t := ⟨t, rfl⟩
    have hI : Tr [218, 226] σ0 σ11 ∧ ((σ0.1 218 11).toInt < (σ11.1 218 11).toInt ∧ (∃ p : Nat, (σ11.1 218 14 = 0 → (RX σ11.1 tx n p ∧ p ≤ n) ∧ fam tx n x1 i = fmC tx n x1 p)) ∧ (¬ σ11.1 218 14 = 0 → fam tx n x1 i = none)) ∧ (TOK σ11.1) ∧ (ZB σ11.1) ∧ (σ11.1 218 7 = (σ0.1 218 7)) ∧ (σ11.1 218 9 = (σ0.1 218 9)) ∧ (σ11.1 218 20 = (σ0.1 218 20)) ∧ (σ11.1 218 22 = (σ0.1 218 22)) ∧ (σ11.1 218 23 = (σ4.1 218 23)) ∧ (σ11.1 218 24 = (σ0.1 218 24)) ∧ (σ11.1 218 25 = (σ0.1 218 25)) := hI
    obtain ⟨hT, hI11, hK, hB, g7_σ11, g9_σ11, g20_σ11, g22_σ11, g23_σ11, g24_σ11, g25_σ11⟩ := hI
    rw [F_X12_readsSets_22.eq_1]
    have i1 := hI11.1
    obtain ⟨p9, i3⟩ := hI11.2.1
    have i4 := hI11.2.2
    have hK9 := hK.1
    refine ok_gC rfl ?_
    refine ok_zbX (Q := fun V => (V = 0 → ¬ σ11.1 218 14 = 0) ∧ (¬ V = 0 → σ11.1 218 14 = 0)) (x_X12_good) (fun v12 hqv12 => ?_)
    have hqv12 : (v12 = 0 → ¬ σ11.1 218 14 = 0) ∧ (¬ v12 = 0 → σ11.1 218 14 = 0) := hqv12
    try simp only [g7_σ11, g9_σ11, g20_σ11, g22_σ11, g23_σ11, g24_σ11, g25_σ11, hT.2 224 (by decide)] at hqv12
    refine ok_if (fun hc14 => ?_) (fun hc14 => ?_)
    · have qhc14 := hqv12.1 hc14
      have n26 := qhc14
      refine ok_gC rfl ?_
      refine ok_zbT (Q := fun V σ => (TOK σ.1 ∧ (σ11.1 218 11).toInt ≤ (σ.1 218 11).toInt ∧ (σ.1 218 14 = 0 → (σ11.1 218 14 = 0 ∧ (σ11.1 218 11).toInt < (σ.1 218 11).toInt) ∧ tkK tx n p9 = (125 : Int32) ∧ RX σ.1 tx n (tkE tx n p9)) ∧ (¬ σ.1 218 14 = 0 → σ11.1 218 14 = 0 → ¬ tkK tx n p9 = (125 : Int32))) ∧ (σ.1 218 7 = σ11.1 218 7 ∧ σ.1 218 9 = σ11.1 218 9 ∧ σ.1 218 20 = σ11.1 218 20 ∧ σ.1 218 22 = σ11.1 218 22 ∧ σ.1 218 23 = σ11.1 218 23 ∧ σ.1 218 24 = σ11.1 218 24 ∧ σ.1 218 25 = σ11.1 218 25)) hT (s_X12_needsSign_r hN (hR.tr hT) (hK) (by rw [hT.2 224 (by decide)]; exact hY) (by first | exact fun _ => RX_i g9_σ11 rfl rfl rfl rfl ((hT.2 224 (by decide)).trans tE) nE pK | exact fun q => absurd q n26) (by decide)) (by decide) (fun v15 σ16 hOσ16 hT hqv15 => ?_)
      have hqv15 : (TOK σ16.1 ∧ (σ11.1 218 11).toInt ≤ (σ16.1 218 11).toInt ∧ (σ16.1 218 14 = 0 → (σ11.1 218 14 = 0 ∧ (σ11.1 218 11).toInt < (σ16.1 218 11).toInt) ∧ tkK tx n p9 = (125 : Int32) ∧ RX σ16.1 tx n (tkE tx n p9)) ∧ (¬ σ16.1 218 14 = 0 → σ11.1 218 14 = 0 → ¬ tkK tx n p9 = (125 : Int32))) ∧ (σ16.1 218 7 = σ11.1 218 7 ∧ σ16.1 218 9 = σ11.1 218 9 ∧ σ16.1 218 20 = σ11.1 218 20 ∧ σ16.1 218 22 = σ11.1 218 22 ∧ σ16.1 218 23 = σ11.1 218 23 ∧ σ16.1 218 24 = σ11.1 218 24 ∧ σ16.1 218 25 = σ11.1 218 25) := hqv15
      have hkv15 := hqv15
      have hqv15 := hqv15.1
      have hK : TOK σ16.1 := by first | exact hqv15.1 | exact hqv15.1.1 | exact TOK_p eσ16 (by decide) hK
      have hB : ZB σ16.1 := ZB.tr hOσ16 (by decide) hB
      try simp only [g7_σ11, g9_σ11, g20_σ11, g22_σ11, g23_σ11, g24_σ11, g25_σ11] at hqv15
      have g7_σ16 : σ16.1 218 7 = (σ0.1 218 7) := (hkv15.2.1).trans g7_σ11
      have g9_σ16 : σ16.1 218 9 = (σ0.1 218 9) := (hkv15.2.2.1).trans g9_σ11
      have g20_σ16 : σ16.1 218 20 = (σ0.1 218 20) := (hkv15.2.2.2.1).trans g20_σ11
      have g22_σ16 : σ16.1 218 22 = (σ0.1 218 22) := (hkv15.2.2.2.2.1).trans g22_σ11
      have g23_σ16 : σ16.1 218 23 = (σ4.1 218 23) := (hkv15.2.2.2.2.2.1).trans g23_σ11
      have g24_σ16 : σ16.1 218 24 = (σ0.1 218 24) := (hkv15.2.2.2.2.2.2.1).trans g24_σ11
      have g25_σ16 : σ16.1 218 25 = (σ0.1 218 25) := (hkv15.2.2.2.2.2.2.2).trans g25_σ11
      have m53 := hqv15.2.1
      have u53 := hqv15.2.2.1
      have f53 := hqv15.2.2.2
      exact ok_some ⟨hT, (show (TOK σ16.1 ∧ (σ0.1 218 11).toInt ≤ (σ16.1 218 11).toInt ∧ (σ16.1 218 14 = 0 → (σ0.1 218 11).toInt < (σ16.1 218 11).toInt ∧ ∃ j, fam tx n x1 i = some j ∧ RX σ16.1 tx n j) ∧ (¬ σ16.1 218 14 = 0 → fam tx n x1 i = none) ∧ ZB σ16.1 ∧ σ16.1 218 23 = σ0.1 218 23 + 1) ∧ (σ16.1 218 7 = σ0.1 218 7 ∧ σ16.1 218 9 = σ0.1 218 9 ∧ σ16.1 218 20 = σ0.1 218 20 ∧ σ16.1 218 22 = σ0.1 218 22 ∧ σ16.1 218 24 = σ0.1 218 24 ∧ σ16.1 218 25 = σ0.1 218 25) from ⟨by first | exact ⟨hK, by (try simp only [g7_σ16, g9_σ16, g20_σ16, g22_σ16, g23_σ16, g24_σ16, g25_σ16]); omega, fun q => ⟨by (try simp only [g7_σ16, g9_σ16, g20_σ16, g22_σ16, g23_σ16, g24_σ16, g25_σ16]); omega, _, fa14, (u53 q).2.2⟩, fun q => absurd k14p (f53 q hg), hB, (g23_σ16).trans g5⟩ | exact ⟨hK, by (try simp only [g7_σ16, g9_σ16, g20_σ16, g22_σ16, g23_σ16, g24_σ16, g25_σ16]); omega, fun q => ⟨by (try simp only [g7_σ16, g9_σ16, g20_σ16, g22_σ16, g23_σ16, g24_σ16, g25_σ16]); omega, _, fc9.trans (if_pos (u53 q).2.1), (u53 q).2.2⟩, fun q => fc9.trans (if_neg (f53 q y26)), hB, (g23_σ16).trans g5⟩ | exact ⟨hK, by (try simp only [g7_σ16, g9_σ16, g20_σ16, g22_σ16, g23_σ16, g24_σ16, g25_σ16]); omega, fun q => absurd (u53 q).1.1 n26, fun _ => i4 n26, hB, (g23_σ16).trans g5⟩, g7_σ16, g9_σ16, g20_σ16, g22_σ16, g24_σ16, g25_σ16⟩)⟩
    · have qhc14 := hqv12.2 hc14
      have y26 := qhc14
      have rx9 := (i3 qhc14).1.1
      have lp9 := (i3 qhc14).1.2
      have fa9 := (i3 qhc14).2
      have pK : TKV (σ11.1 218 11) (σ11.1 218 10) (σ11.1 218 12) (σ11.1 218 13) tx n p9 := rx9.2
      refine ok_gI rfl ?_
      refine ok_if (fun hc18 => ?_) (fun hc18 => ?_)
      · have l35 := hK.2.1 (by rw [hc18]; decide)
        have k35 : tkK tx n p9 = 44 := pK.2.1.symm.trans hc18
        have fb9 : fam tx n x1 i = fmE tx n x1 (tkE tx n p9) := fa9.trans (if_pos k35)
        have le9 := (tk_le (t := tx) lp9).2.2
        refine ok_gC rfl ?_
        refine ok_zbT (Q := fun V σ => ((TOK σ.1 ∧ (σ11.1 218 10).toInt ≤ (σ.1 218 11).toInt) ∧ RX σ.1 tx n (tkE tx n p9)) ∧ (σ.1 218 7 = σ11.1 218 7 ∧ σ.1 218 9 = σ11.1 218 9 ∧ σ.1 218 14 = σ11.1 218 14 ∧ σ.1 218 15 = σ11.1 218 15 ∧ σ.1 218 20 = σ11.1 218 20 ∧ σ.1 218 22 = σ11.1 218 22 ∧ σ.1 218 23 = σ11.1 218 23 ∧ σ.1 218 24 = σ11.1 218 24 ∧ σ.1 218 25 = σ11.1 218 25)) hT (s_X12_advance_r hN (hR.tr hT) (TOK_A hK) (by rw [hT.2 224 (by decide)]; exact hY) (RX_i g9_σ11 rfl rfl rfl rfl ((hT.2 224 (by decide)).trans tE) nE pK)) (by decide) (fun v19 σ20 hOσ20 hT hqv19 => ?_)
        have hqv19 : ((TOK σ20.1 ∧ (σ11.1 218 10).toInt ≤ (σ20.1 218 11).toInt) ∧ RX σ20.1 tx n (tkE tx n p9)) ∧ (σ20.1 218 7 = σ11.1 218 7 ∧ σ20.1 218 9 = σ11.1 218 9 ∧ σ20.1 218 14 = σ11.1 218 14 ∧ σ20.1 218 15 = σ11.1 218 15 ∧ σ20.1 218 20 = σ11.1 218 20 ∧ σ20.1 218 22 = σ11.1 218 22 ∧ σ20.1 218 23 = σ11.1 218 23 ∧ σ20.1 218 24 = σ11.1 218 24 ∧ σ20.1 218 25 = σ11.1 218 25) := hqv19
        have hkv19 := hqv19
        have hqv19 := hqv19.1
        have hK : TOK σ20.1 := by first | exact hqv19.1 | exact hqv19.1.1 | exact TOK_p eσ20 (by decide) hK
        have hB : ZB σ20.1 := ZB.tr hOσ20 (by decide) hB
        try simp only [g7_σ11, g9_σ11, g20_σ11, g22_σ11, g23_σ11, g24_σ11, g25_σ11] at hqv19
        have g7_σ20 : σ20.1 218 7 = (σ0.1 218 7) := (hkv19.2.1).trans g7_σ11
        have g9_σ20 : σ20.1 218 9 = (σ0.1 218 9) := (hkv19.2.2.1).trans g9_σ11
        have g14_σ20 : σ20.1 218 14 = (σ11.1 218 14) := hkv19.2.2.2.1
        have g15_σ20 : σ20.1 218 15 = (σ11.1 218 15) := hkv19.2.2.2.2.1
        have g20_σ20 : σ20.1 218 20 = (σ0.1 218 20) := (hkv19.2.2.2.2.2.1).trans g20_σ11
        have g22_σ20 : σ20.1 218 22 = (σ0.1 218 22) := (hkv19.2.2.2.2.2.2.1).trans g22_σ11
        have g23_σ20 : σ20.1 218 23 = (σ4.1 218 23) := (hkv19.2.2.2.2.2.2.2.1).trans g23_σ11
        have g24_σ20 : σ20.1 218 24 = (σ0.1 218 24) := (hkv19.2.2.2.2.2.2.2.2.1).trans g24_σ11
        have g25_σ20 : σ20.1 218 25 = (σ0.1 218 25) := (hkv19.2.2.2.2.2.2.2.2.2).trans g25_σ11
        have m39 := hqv19.1.2
        have pK : TKV (σ20.1 218 11) (σ20.1 218 10) (σ20.1 218 12) (σ20.1 218 13) tx n (tkE tx n p9) := hqv19.2.2
        refine ok_gC rfl ?_
        refine ok_zbT (Q := fun V σ => (TOK σ.1 ∧ (σ20.1 218 11).toInt ≤ (σ.1 218 11).toInt ∧ (σ.1 218 14 = 0 → ((σ20.1 218 11).toInt < (σ.1 218 11).toInt ∧ mOK tx n (tkE tx n p9) x1) ∧ RX σ.1 tx n (tkE tx n (tkE tx n p9))) ∧ (¬ σ.1 218 14 = 0 → ¬ mOK tx n (tkE tx n p9) x1) ∧ ZB σ.1) ∧ (σ.1 218 7 = σ20.1 218 7 ∧ σ.1 218 9 = σ20.1 218 9 ∧ σ.1 218 20 = σ20.1 218 20 ∧ σ.1 218 22 = σ20.1 218 22 ∧ σ.1 218 23 = σ20.1 218 23 ∧ σ.1 218 24 = σ20.1 218 24 ∧ σ.1 218 25 = σ20.1 218 25)) hT (s_X12_readsSet_r hN (hR.tr hT) (hK) (by rw [hT.2 224 (by decide)]; exact hY) (RX_i g9_σ20 rfl rfl rfl rfl ((hT.2 224 (by decide)).trans tE) nE pK) (by first | exact (g14_σ20).trans hg | exact (g14_σ20).trans y26) (hB) (hn) (by (try simp only [g7_σ20, g9_σ20, g14_σ20, g15_σ20, g20_σ20, g22_σ20, g23_σ20, g24_σ20, g25_σ20]); omega)) (by decide) (fun v21 σ22 hOσ22 hT hqv21 => ?_)
        have hqv21 : (TOK σ22.1 ∧ (σ20.1 218 11).toInt ≤ (σ22.1 218 11).toInt ∧ (σ22.1 218 14 = 0 → ((σ20.1 218 11).toInt < (σ22.1 218 11).toInt ∧ mOK tx n (tkE tx n p9) x1) ∧ RX σ22.1 tx n (tkE tx n (tkE tx n p9))) ∧ (¬ σ22.1 218 14 = 0 → ¬ mOK tx n (tkE tx n p9) x1) ∧ ZB σ22.1) ∧ (σ22.1 218 7 = σ20.1 218 7 ∧ σ22.1 218 9 = σ20.1 218 9 ∧ σ22.1 218 20 = σ20.1 218 20 ∧ σ22.1 218 22 = σ20.1 218 22 ∧ σ22.1 218 23 = σ20.1 218 23 ∧ σ22.1 218 24 = σ20.1 218 24 ∧ σ22.1 218 25 = σ20.1 218 25) := hqv21
        have hkv21 := hqv21
        have hqv21 := hqv21.1
        have hK : TOK σ22.1 := by first | exact hqv21.1 | exact hqv21.1.1 | exact TOK_p eσ22 (by decide) hK
        have hB : ZB σ22.1 := by first | exact hqv21.2.1 | exact hqv21.2.2.2.2
        try simp only [g7_σ20, g9_σ20, g14_σ20, g15_σ20, g20_σ20, g22_σ20, g23_σ20, g24_σ20, g25_σ20] at hqv21
        have g7_σ22 : σ22.1 218 7 = (σ0.1 218 7) := (hkv21.2.1).trans g7_σ20
        have g9_σ22 : σ22.1 218 9 = (σ0.1 218 9) := (hkv21.2.2.1).trans g9_σ20
        have g20_σ22 : σ22.1 218 20 = (σ0.1 218 20) := (hkv21.2.2.2.1).trans g20_σ20
        have g22_σ22 : σ22.1 218 22 = (σ0.1 218 22) := (hkv21.2.2.2.2.1).trans g22_σ20
        have g23_σ22 : σ22.1 218 23 = (σ4.1 218 23) := (hkv21.2.2.2.2.2.1).trans g23_σ20
        have g24_σ22 : σ22.1 218 24 = (σ0.1 218 24) := (hkv21.2.2.2.2.2.2.1).trans g24_σ20
        have g25_σ22 : σ22.1 218 25 = (σ0.1 218 25) := (hkv21.2.2.2.2.2.2.2).trans g25_σ20
        have m44 := hqv21.2.1
        have u44 := hqv21.2.2.1
        have f44 := hqv21.2.2.2.1
        exact ih22_11 σ22 (show Tr [218, 226] σ0 σ22 ∧ ((σ0.1 218 11).toInt < (σ22.1 218 11).toInt ∧ (∃ p : Nat, (σ22.1 218 14 = 0 → (RX σ22.1 tx n p ∧ p ≤ n) ∧ fam tx n x1 i = fmC tx n x1 p)) ∧ (¬ σ22.1 218 14 = 0 → fam tx n x1 i = none)) ∧ (TOK σ22.1) ∧ (ZB σ22.1) ∧ (σ22.1 218 7 = (σ0.1 218 7)) ∧ (σ22.1 218 9 = (σ0.1 218 9)) ∧ (σ22.1 218 20 = (σ0.1 218 20)) ∧ (σ22.1 218 22 = (σ0.1 218 22)) ∧ (σ22.1 218 23 = (σ4.1 218 23)) ∧ (σ22.1 218 24 = (σ0.1 218 24)) ∧ (σ22.1 218 25 = (σ0.1 218 25)) from ⟨hT, (by exact ⟨by (try simp only [g7_σ22, g9_σ22, g20_σ22, g22_σ22, g23_σ22, g24_σ22, g25_σ22]); omega, ⟨tkE tx n (tkE tx n p9), fun q => ⟨⟨(u44 q).2, (tk_le le9).2.2⟩, fb9.trans (fmE_t le9 (u44 q).1.2)⟩⟩, fun q => fb9.trans (fmE_f le9 (f44 q))⟩), hK, hB, g7_σ22, g9_σ22, g20_σ22, g22_σ22, g23_σ22, g24_σ22, g25_σ22⟩) (show (600 - (σ22.1 218 11).toInt).toNat < (600 - (σ11.1 218 11).toInt).toNat from (by (try simp only [g7_σ22, g9_σ22, g20_σ22, g22_σ22, g23_σ22, g24_σ22, g25_σ22]); omega))
      · have fc9 := fa9.trans (if_neg (fun q => hc18 (pK.2.1.trans q)))
        refine ok_gC rfl ?_
        refine ok_zbT (Q := fun V σ => (TOK σ.1 ∧ (σ11.1 218 11).toInt ≤ (σ.1 218 11).toInt ∧ (σ.1 218 14 = 0 → (σ11.1 218 14 = 0 ∧ (σ11.1 218 11).toInt < (σ.1 218 11).toInt) ∧ tkK tx n p9 = (125 : Int32) ∧ RX σ.1 tx n (tkE tx n p9)) ∧ (¬ σ.1 218 14 = 0 → σ11.1 218 14 = 0 → ¬ tkK tx n p9 = (125 : Int32))) ∧ (σ.1 218 7 = σ11.1 218 7 ∧ σ.1 218 9 = σ11.1 218 9 ∧ σ.1 218 20 = σ11.1 218 20 ∧ σ.1 218 22 = σ11.1 218 22 ∧ σ.1 218 23 = σ11.1 218 23 ∧ σ.1 218 24 = σ11.1 218 24 ∧ σ.1 218 25 = σ11.1 218 25)) hT (s_X12_needsSign_r hN (hR.tr hT) (hK) (by rw [hT.2 224 (by decide)]; exact hY) (by first | exact fun _ => RX_i g9_σ11 rfl rfl rfl rfl ((hT.2 224 (by decide)).trans tE) nE pK | exact fun q => absurd q n26) (by decide)) (by decide) (fun v23 σ24 hOσ24 hT hqv23 => ?_)
        have hqv23 : (TOK σ24.1 ∧ (σ11.1 218 11).toInt ≤ (σ24.1 218 11).toInt ∧ (σ24.1 218 14 = 0 → (σ11.1 218 14 = 0 ∧ (σ11.1 218 11).toInt < (σ24.1 218 11).toInt) ∧ tkK tx n p9 = (125 : Int32) ∧ RX σ24.1 tx n (tkE tx n p9)) ∧ (¬ σ24.1 218 14 = 0 → σ11.1 218 14 = 0 → ¬ tkK tx n p9 = (125 : Int32))) ∧ (σ24.1 218 7 = σ11.1 218 7 ∧ σ24.1 218 9 = σ11.1 218 9 ∧ σ24.1 218 20 = σ11.1 218 20 ∧ σ24.1 218 22 = σ11.1 218 22 ∧ σ24.1 218 23 = σ11.1 218 23 ∧ σ24.1 218 24 = σ11.1 218 24 ∧ σ24.1 218 25 = σ11.1 218 25) := hqv23
        have hkv23 := hqv23
        have hqv23 := hqv23.1
        have hK : TOK σ24.1 := by first | exact hqv23.1 | exact hqv23.1.1 | exact TOK_p eσ24 (by decide) hK
        have hB : ZB σ24.1 := ZB.tr hOσ24 (by decide) hB
        try simp only [g7_σ11, g9_σ11, g20_σ11, g22_σ11, g23_σ11, g24_σ11, g25_σ11] at hqv23
        have g7_σ24 : σ24.1 218 7 = (σ0.1 218 7) := (hkv23.2.1).trans g7_σ11
        have g9_σ24 : σ24.1 218 9 = (σ0.1 218 9) := (hkv23.2.2.1).trans g9_σ11
        have g20_σ24 : σ24.1 218 20 = (σ0.1 218 20) := (hkv23.2.2.2.1).trans g20_σ11
        have g22_σ24 : σ24.1 218 22 = (σ0.1 218 22) := (hkv23.2.2.2.2.1).trans g22_σ11
        have g23_σ24 : σ24.1 218 23 = (σ4.1 218 23) := (hkv23.2.2.2.2.2.1).trans g23_σ11
        have g24_σ24 : σ24.1 218 24 = (σ0.1 218 24) := (hkv23.2.2.2.2.2.2.1).trans g24_σ11
        have g25_σ24 : σ24.1 218 25 = (σ0.1 218 25) := (hkv23.2.2.2.2.2.2.2).trans g25_σ11
        have m53 := hqv23.2.1
        have u53 := hqv23.2.2.1
        have f53 := hqv23.2.2.2
        exact ok_some ⟨hT, (show (TOK σ24.1 ∧ (σ0.1 218 11).toInt ≤ (σ24.1 218 11).toInt ∧ (σ24.1 218 14 = 0 → (σ0.1 218 11).toInt < (σ24.1 218 11).toInt ∧ ∃ j, fam tx n x1 i = some j ∧ RX σ24.1 tx n j) ∧ (¬ σ24.1 218 14 = 0 → fam tx n x1 i = none) ∧ ZB σ24.1 ∧ σ24.1 218 23 = σ0.1 218 23 + 1) ∧ (σ24.1 218 7 = σ0.1 218 7 ∧ σ24.1 218 9 = σ0.1 218 9 ∧ σ24.1 218 20 = σ0.1 218 20 ∧ σ24.1 218 22 = σ0.1 218 22 ∧ σ24.1 218 24 = σ0.1 218 24 ∧ σ24.1 218 25 = σ0.1 218 25) from ⟨by first | exact ⟨hK, by (try simp only [g7_σ24, g9_σ24, g20_σ24, g22_σ24, g23_σ24, g24_σ24, g25_σ24]); omega, fun q => ⟨by (try simp only [g7_σ24, g9_σ24, g20_σ24, g22_σ24, g23_σ24, g24_σ24, g25_σ24]); omega, _, fa14, (u53 q).2.2⟩, fun q => absurd k14p (f53 q hg), hB, (g23_σ24).trans g5⟩ | exact ⟨hK, by (try simp only [g7_σ24, g9_σ24, g20_σ24, g22_σ24, g23_σ24, g24_σ24, g25_σ24]); omega, fun q => ⟨by (try simp only [g7_σ24, g9_σ24, g20_σ24, g22_σ24, g23_σ24, g24_σ24, g25_σ24]); omega, _, fc9.trans (if_pos (u53 q).2.1), (u53 q).2.2⟩, fun q => fc9.trans (if_neg (f53 q y26)), hB, (g23_σ24).trans g5⟩ | exact ⟨hK, by (try simp only [g7_σ24, g9_σ24, g20_σ24, g22_σ24, g23_σ24, g24_σ24, g25_σ24]); omega, fun q => absurd (u53 q).1.1 n26, fun _ => i4 n26, hB, (g23_σ24).trans g5⟩, g7_σ24, g9_σ24, g20_σ24, g22_σ24, g24_σ24, g25_σ24⟩)⟩

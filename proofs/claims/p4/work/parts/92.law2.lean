theorem ok_aX {β : Type} {P : β → Prop} {L : Nat} {xs : Nat → Int32} {x3 j : Int32} {f : Int32 → Option β} (hx : 0 ≤ x3.toInt ∧ x3.toInt + 6 ≤ (L : Int)) (hL : L ≤ 384) (h0 : 0 ≤ j.toInt) (h1 : j.toInt ≤ 5) (h : Ok (f (xs (x3 + j).toNatClampNeg)) P) : Ok (zl (aX L xs (x3 + j)) f) P := by
  refine ok_zl (if_pos ?_) h
  rw [ti_add]; omega
theorem ok_aX0 {β : Type} {P : β → Prop} {L : Nat} {xs : Nat → Int32} {x3 : Int32} {f : Int32 → Option β} (hx : 0 ≤ x3.toInt ∧ x3.toInt + 6 ≤ (L : Int)) (h : Ok (f (xs x3.toNatClampNeg)) P) : Ok (zl (aX L xs x3) f) P := by
  refine ok_zl (if_pos ?_) h
  omega

theorem lc_236 {P : Int32 × zS → Prop} {N L : Nat} {xs : Nat → Int32} {again : Int32 × zS → Option (Int32 × zS)} {x3 : Int32} {σ : zS} (hN : 1048576 ≤ N) (hx : 0 ≤ x3.toInt ∧ x3.toInt + 6 ≤ (L : Int)) (hL : L ≤ 384) (hI : IV σ) (ih : ∀ σ', IV σ' → Ok (again (x3 + 6, σ')) P) : Ok (J_L_law_236 N L xs again x3 σ) P := by
  rw [J_L_law_236.eq_1]
  refine ok_aX hx hL (by decide) (by decide) ?_
  refine ok_aX hx hL (by decide) (by decide) ?_
  refine ok_aX hx hL (by decide) (by decide) ?_
  refine ok_aX hx hL (by decide) (by decide) ?_
  refine ok_aX hx hL (by decide) (by decide) ?_
  refine ok_gC rfl ?_
  refine ok_zb (wc_feed hN hI) (fun v7 σ8 hv7 => ?_)
  have hEv7 := hI.2
  refine ok_aX hx hL (by decide) (by decide) ?_
  refine ok_aX hx hL (by decide) (by decide) ?_
  refine ok_aX hx hL (by decide) (by decide) ?_
  refine ok_aX hx hL (by decide) (by decide) ?_
  refine ok_aX hx hL (by decide) (by decide) ?_
  refine ok_gC rfl ?_
  refine ok_zb (wr_feed hN hv7.1.1 hv7.1.2) (fun v14 σ15 hv14 => ?_)
  have hpv14 := pr_feed hEv7 hv7 hv14
  have hI : IV σ15 := hpv14.1
  exact ih σ15 hI

theorem lc_299 {P : Int32 × zS → Prop} {N L : Nat} {xs : Nat → Int32} {again : Int32 × zS → Option (Int32 × zS)} {x3 : Int32} {σ : zS} (hN : 1048576 ≤ N) (hx : 0 ≤ x3.toInt ∧ x3.toInt + 6 ≤ (L : Int)) (hL : L ≤ 384) (hI : IV σ) (ih : ∀ σ', IV σ' → Ok (again (x3 + 6, σ')) P) : Ok (J_L_law_299 N L xs again x3 σ) P := by
  rw [J_L_law_299.eq_1]
  refine ok_aX hx hL (by decide) (by decide) ?_
  refine ok_gC rfl ?_
  refine ok_zb (wc_end hN hI) (fun v17 σ18 hv17 => ?_)
  have hEv17 := hI.2
  refine ok_aX hx hL (by decide) (by decide) ?_
  refine ok_gC rfl ?_
  refine ok_zb (wr_end hN hv17.1.1 hv17.1.2) (fun v20 σ21 hv20 => ?_)
  have hpv20 := pr_end hEv17 hv17 hv20
  have hI : IV σ21 := hpv20.1
  exact ih σ21 hI

theorem lc_322 {P : Int32 × zS → Prop} {N L : Nat} {xs : Nat → Int32} {again : Int32 × zS → Option (Int32 × zS)} {x3 : Int32} {σ : zS} (hN : 1048576 ≤ N) (hx : 0 ≤ x3.toInt ∧ x3.toInt + 6 ≤ (L : Int)) (hL : L ≤ 384) (hI : IV σ) (ih : ∀ σ', IV σ' → Ok (again (x3 + 6, σ')) P) : Ok (J_L_law_322 N L xs again x3 σ) P := by
  rw [J_L_law_322.eq_1]
  refine ok_gC rfl ?_
  refine ok_zb (wc_world hN hI) (fun v22 σ23 hv22 => ?_)
  have hEv22 := hI.2
  refine ok_gC rfl ?_
  refine ok_zb (wr_world hN hv22.1.1 hv22.1.2) (fun v24 σ25 hv24 => ?_)
  have hpv24 := pr_world hEv22 hv22 hv24
  have hI : IV σ25 := hpv24.1
  exact ok_if (fun _ => ih σ25 hI) (fun q => absurd (hpv24.2) q)

theorem lc_335 {P : Int32 × zS → Prop} {N L : Nat} {xs : Nat → Int32} {again : Int32 × zS → Option (Int32 × zS)} {x3 : Int32} {σ : zS} (hN : 1048576 ≤ N) (hx : 0 ≤ x3.toInt ∧ x3.toInt + 6 ≤ (L : Int)) (hL : L ≤ 384) (hI : IV σ) (ih : ∀ σ', IV σ' → Ok (again (x3 + 6, σ')) P) : Ok (J_L_law_335 N L xs again x3 σ) P := by
  rw [J_L_law_335.eq_1]
  refine ok_aX hx hL (by decide) (by decide) ?_
  refine ok_gC rfl ?_
  refine ok_zb (wc_put hN hI) (fun v27 σ28 hv27 => ?_)
  have hEv27 := hI.2
  refine ok_aX hx hL (by decide) (by decide) ?_
  refine ok_gC rfl ?_
  refine ok_zb (wr_put hN hv27.1.1 hv27.1.2) (fun v30 σ31 hv30 => ?_)
  have hpv30 := pr_put hEv27 hv27 hv30
  have hI : IV σ31 := hpv30
  exact ih σ31 hI

theorem lc_358 {P : Int32 × zS → Prop} {N L : Nat} {xs : Nat → Int32} {again : Int32 × zS → Option (Int32 × zS)} {x3 : Int32} {σ : zS} (hN : 1048576 ≤ N) (hx : 0 ≤ x3.toInt ∧ x3.toInt + 6 ≤ (L : Int)) (hL : L ≤ 384) (hI : IV σ) (ih : ∀ σ', IV σ' → Ok (again (x3 + 6, σ')) P) : Ok (J_L_law_358 N L xs again x3 σ) P := by
  rw [J_L_law_358.eq_1]
  refine ok_aX hx hL (by decide) (by decide) ?_
  refine ok_gC rfl ?_
  refine ok_zb (wc_fault hN hI) (fun v33 σ34 hv33 => ?_)
  have hEv33 := hI.2
  have hI : IV σ34 := hv33
  refine ok_aX hx hL (by decide) (by decide) ?_
  refine ok_gC rfl ?_
  refine ok_zb (wr_fault hN hI) (fun v36 σ37 hv36 => ?_)
  have hI : IV σ37 := hv36
  exact ih σ37 hI

theorem lc_381 {P : Int32 × zS → Prop} {N L : Nat} {xs : Nat → Int32} {again : Int32 × zS → Option (Int32 × zS)} {x3 : Int32} {σ : zS} (hN : 1048576 ≤ N) (hx : 0 ≤ x3.toInt ∧ x3.toInt + 6 ≤ (L : Int)) (hL : L ≤ 384) (hI : IV σ) (ih : ∀ σ', IV σ' → Ok (again (x3 + 6, σ')) P) : Ok (J_L_law_381 N L xs again x3 σ) P := by
  rw [J_L_law_381.eq_1]
  refine ok_aX hx hL (by decide) (by decide) ?_
  refine ok_gC rfl ?_
  refine ok_zb (wc_size hN hI) (fun v39 σ40 hv39 => ?_)
  have hEv39 := hI.2
  have hI : IV σ40 := hv39
  refine ok_aX hx hL (by decide) (by decide) ?_
  refine ok_gC rfl ?_
  refine ok_zb (wr_size hN hI) (fun v42 σ43 hv42 => ?_)
  have hI : IV σ43 := hv42
  exact ih σ43 hI

theorem lc_404 {P : Int32 × zS → Prop} {N L : Nat} {xs : Nat → Int32} {again : Int32 × zS → Option (Int32 × zS)} {x3 : Int32} {σ : zS} (hN : 1048576 ≤ N) (hx : 0 ≤ x3.toInt ∧ x3.toInt + 6 ≤ (L : Int)) (hL : L ≤ 384) (hI : IV σ) (ih : ∀ σ', IV σ' → Ok (again (x3 + 6, σ')) P) : Ok (J_L_law_404 N L xs again x3 σ) P := by
  rw [J_L_law_404.eq_1]
  refine ok_aX hx hL (by decide) (by decide) ?_
  refine ok_aX hx hL (by decide) (by decide) ?_
  refine ok_gC rfl ?_
  refine ok_zb (wc_has hN hI) (fun v46 σ47 hv46 => ?_)
  have hEv46 := hI.2
  have hI : IV σ47 := hv46
  refine ok_aX hx hL (by decide) (by decide) ?_
  refine ok_aX hx hL (by decide) (by decide) ?_
  refine ok_gC rfl ?_
  refine ok_zb (wr_has hN hI) (fun v50 σ51 hv50 => ?_)
  have hI : IV σ51 := hv50
  exact ih σ51 hI

theorem lc_437 {P : Int32 × zS → Prop} {N L : Nat} {xs : Nat → Int32} {again : Int32 × zS → Option (Int32 × zS)} {x3 : Int32} {σ : zS} (hN : 1048576 ≤ N) (hx : 0 ≤ x3.toInt ∧ x3.toInt + 6 ≤ (L : Int)) (hL : L ≤ 384) (hI : IV σ) (ih : ∀ σ', IV σ' → Ok (again (x3 + 6, σ')) P) : Ok (J_L_law_437 N L xs again x3 σ) P := by
  rw [J_L_law_437.eq_1]
  refine ok_aX hx hL (by decide) (by decide) ?_
  refine ok_aX hx hL (by decide) (by decide) ?_
  refine ok_aX hx hL (by decide) (by decide) ?_
  refine ok_aX hx hL (by decide) (by decide) ?_
  refine ok_gC rfl ?_
  refine ok_zb (wc_makes hN hI) (fun v56 σ57 hv56 => ?_)
  have hEv56 := hI.2
  have hI : IV σ57 := hv56
  refine ok_aX hx hL (by decide) (by decide) ?_
  refine ok_aX hx hL (by decide) (by decide) ?_
  refine ok_aX hx hL (by decide) (by decide) ?_
  refine ok_aX hx hL (by decide) (by decide) ?_
  refine ok_gC rfl ?_
  refine ok_zb (wr_makes hN hI) (fun v62 σ63 hv62 => ?_)
  have hI : IV σ63 := hv62
  exact ih σ63 hI

theorem lc_490 {P : Int32 × zS → Prop} {N L : Nat} {xs : Nat → Int32} {again : Int32 × zS → Option (Int32 × zS)} {x3 : Int32} {σ : zS} (hN : 1048576 ≤ N) (hx : 0 ≤ x3.toInt ∧ x3.toInt + 6 ≤ (L : Int)) (hL : L ≤ 384) (hI : IV σ) (ih : ∀ σ', IV σ' → Ok (again (x3 + 6, σ')) P) : Ok (J_L_law_490 N L xs again x3 σ) P := by
  rw [J_L_law_490.eq_1]
  refine ok_aX hx hL (by decide) (by decide) ?_
  refine ok_aX hx hL (by decide) (by decide) ?_
  refine ok_aX hx hL (by decide) (by decide) ?_
  refine ok_gC rfl ?_
  refine ok_zb (wc_turn hN hI) (fun v67 σ68 hv67 => ?_)
  have hEv67 := hI.2
  have hI : IV σ68 := hv67
  refine ok_aX hx hL (by decide) (by decide) ?_
  refine ok_aX hx hL (by decide) (by decide) ?_
  refine ok_aX hx hL (by decide) (by decide) ?_
  refine ok_gC rfl ?_
  refine ok_zb (wr_turn hN hI) (fun v72 σ73 hv72 => ?_)
  have hI : IV σ73 := hv72
  exact ih σ73 hI

theorem lc_557 {P : Int32 × zS → Prop} {N L : Nat} {xs : Nat → Int32} {again : Int32 × zS → Option (Int32 × zS)} {x3 : Int32} {y0 : Int32} {y1 : Int32} {y2 : Int32} {σ : zS} (hN : 1048576 ≤ N) (hx : 0 ≤ x3.toInt ∧ x3.toInt + 6 ≤ (L : Int)) (hL : L ≤ 384) (hI : IV σ) (ih : ∀ σ', IV σ' → Ok (again (x3 + 6, σ')) P) : Ok (J_L_law_557 N L xs again x3 y0 y1 y2 0 σ) P := by
  rw [J_L_law_557.eq_1]
  refine ok_gC rfl ?_
  refine ok_zb (wc_sets hN hI) (fun v77 σ78 hv77 => ?_)
  have hEv77 := hI.2
  have hI : IV σ78 := hv77
  refine ok_aX hx hL (by decide) (by decide) ?_
  refine ok_aX hx hL (by decide) (by decide) ?_
  refine ok_aX hx hL (by decide) (by decide) ?_
  refine ok_if (fun _ => ?_) (fun _ => ?_)
  · refine ok_gC rfl ?_
    refine ok_zb (wr_sets hN hI) (fun v82 σ83 hv82 => ?_)
    have hI : IV σ83 := hv82
    exact ih σ83 hI
  · refine ok_gC rfl ?_
    refine ok_zb (wr_sets hN hI) (fun v84 σ85 hv84 => ?_)
    have hI : IV σ85 := hv84
    exact ih σ85 hI

theorem lc_533 {P : Int32 × zS → Prop} {N L : Nat} {xs : Nat → Int32} {again : Int32 × zS → Option (Int32 × zS)} {x3 : Int32} {σ : zS} (hN : 1048576 ≤ N) (hx : 0 ≤ x3.toInt ∧ x3.toInt + 6 ≤ (L : Int)) (hL : L ≤ 384) (hI : IV σ) (ih : ∀ σ', IV σ' → Ok (again (x3 + 6, σ')) P) : Ok (J_L_law_533 N L xs again x3 σ) P := by
  rw [J_L_law_533.eq_1]
  refine ok_aX hx hL (by decide) (by decide) ?_
  refine ok_aX hx hL (by decide) (by decide) ?_
  refine ok_aX hx hL (by decide) (by decide) ?_
  refine ok_if (fun _ => ?_) (fun _ => ?_)
  · exact lc_557 hN hx hL hI ih
  · exact lc_557 hN hx hL hI ih

theorem lc_592 {P : Int32 × zS → Prop} {N L : Nat} {xs : Nat → Int32} {again : Int32 × zS → Option (Int32 × zS)} {x3 : Int32} {σ : zS} (hN : 1048576 ≤ N) (hx : 0 ≤ x3.toInt ∧ x3.toInt + 6 ≤ (L : Int)) (hL : L ≤ 384) (hI : IV σ) (ih : ∀ σ', IV σ' → Ok (again (x3 + 6, σ')) P) : Ok (J_L_law_592 N L xs again x3 σ) P := by
  rw [J_L_law_592.eq_1]
  refine ok_aX hx hL (by decide) (by decide) ?_
  refine ok_aX hx hL (by decide) (by decide) ?_
  refine ok_aX hx hL (by decide) (by decide) ?_
  refine ok_gC rfl ?_
  refine ok_zb (wc_change hN hI) (fun v89 σ90 hv89 => ?_)
  have hEv89 := hI.2
  have hI : IV σ90 := hv89
  refine ok_aX hx hL (by decide) (by decide) ?_
  refine ok_aX hx hL (by decide) (by decide) ?_
  refine ok_aX hx hL (by decide) (by decide) ?_
  refine ok_gC rfl ?_
  refine ok_zb (wr_change hN hI) (fun v94 σ95 hv94 => ?_)
  have hI : IV σ95 := hv94
  exact ih σ95 hI

theorem lc_664 {P : Int32 × zS → Prop} {N L : Nat} {xs : Nat → Int32} {again : Int32 × zS → Option (Int32 × zS)} {x3 : Int32} {y0 : Int32} {y1 : Int32} {y2 : Int32} {y3 : Int32} {σ : zS} (hN : 1048576 ≤ N) (hx : 0 ≤ x3.toInt ∧ x3.toInt + 6 ≤ (L : Int)) (hL : L ≤ 384) (hI : IV σ) (ih : ∀ σ', IV σ' → Ok (again (x3 + 6, σ')) P) : Ok (J_L_law_664 N L xs again x3 y0 y1 y2 y3 0 σ) P := by
  rw [J_L_law_664.eq_1]
  refine ok_gC rfl ?_
  refine ok_zb (wc_half hN hI) (fun v100 σ101 hv100 => ?_)
  have hEv100 := hI.2
  have hI : IV σ101 := hv100
  refine ok_aX hx hL (by decide) (by decide) ?_
  refine ok_aX hx hL (by decide) (by decide) ?_
  refine ok_aX hx hL (by decide) (by decide) ?_
  refine ok_aX hx hL (by decide) (by decide) ?_
  refine ok_if (fun _ => ?_) (fun _ => ?_)
  · refine ok_gC rfl ?_
    refine ok_zb (wr_half hN hI) (fun v106 σ107 hv106 => ?_)
    have hI : IV σ107 := hv106
    exact ih σ107 hI
  · refine ok_gC rfl ?_
    refine ok_zb (wr_half hN hI) (fun v108 σ109 hv108 => ?_)
    have hI : IV σ109 := hv108
    exact ih σ109 hI

theorem lc_635 {P : Int32 × zS → Prop} {N L : Nat} {xs : Nat → Int32} {again : Int32 × zS → Option (Int32 × zS)} {x3 : Int32} {σ : zS} (hN : 1048576 ≤ N) (hx : 0 ≤ x3.toInt ∧ x3.toInt + 6 ≤ (L : Int)) (hL : L ≤ 384) (hI : IV σ) (ih : ∀ σ', IV σ' → Ok (again (x3 + 6, σ')) P) : Ok (J_L_law_635 N L xs again x3 σ) P := by
  rw [J_L_law_635.eq_1]
  refine ok_aX hx hL (by decide) (by decide) ?_
  refine ok_aX hx hL (by decide) (by decide) ?_
  refine ok_aX hx hL (by decide) (by decide) ?_
  refine ok_aX hx hL (by decide) (by decide) ?_
  refine ok_if (fun _ => ?_) (fun _ => ?_)
  · exact lc_664 hN hx hL hI ih
  · exact lc_664 hN hx hL hI ih

theorem lc_704 {P : Int32 × zS → Prop} {N L : Nat} {xs : Nat → Int32} {again : Int32 × zS → Option (Int32 × zS)} {x3 : Int32} {σ : zS} (hN : 1048576 ≤ N) (hx : 0 ≤ x3.toInt ∧ x3.toInt + 6 ≤ (L : Int)) (hL : L ≤ 384) (hI : IV σ) (ih : ∀ σ', IV σ' → Ok (again (x3 + 6, σ')) P) : Ok (J_L_law_704 N L xs again x3 σ) P := by
  rw [J_L_law_704.eq_1]
  refine ok_aX hx hL (by decide) (by decide) ?_
  refine ok_aX hx hL (by decide) (by decide) ?_
  refine ok_aX hx hL (by decide) (by decide) ?_
  refine ok_gC rfl ?_
  refine ok_zb (wc_level hN hI) (fun v113 σ114 hv113 => ?_)
  have hEv113 := hI.2
  have hI : IV σ114 := hv113
  refine ok_aX hx hL (by decide) (by decide) ?_
  refine ok_aX hx hL (by decide) (by decide) ?_
  refine ok_aX hx hL (by decide) (by decide) ?_
  refine ok_gC rfl ?_
  refine ok_zb (wr_level hN hI) (fun v118 σ119 hv118 => ?_)
  have hI : IV σ119 := hv118
  exact ih σ119 hI

theorem lc_747 {P : Int32 × zS → Prop} {N L : Nat} {xs : Nat → Int32} {again : Int32 × zS → Option (Int32 × zS)} {x3 : Int32} {σ : zS} (hN : 1048576 ≤ N) (hx : 0 ≤ x3.toInt ∧ x3.toInt + 6 ≤ (L : Int)) (hL : L ≤ 384) (hI : IV σ) (ih : ∀ σ', IV σ' → Ok (again (x3 + 6, σ')) P) : Ok (J_L_law_747 N L xs again x3 σ) P := by
  rw [J_L_law_747.eq_1]
  refine ok_aX hx hL (by decide) (by decide) ?_
  refine ok_aX hx hL (by decide) (by decide) ?_
  refine ok_gC rfl ?_
  refine ok_zb (wc_nth hN hI) (fun v122 σ123 hv122 => ?_)
  have hEv122 := hI.2
  have hI : IV σ123 := hv122
  refine ok_aX hx hL (by decide) (by decide) ?_
  refine ok_aX hx hL (by decide) (by decide) ?_
  refine ok_gC rfl ?_
  refine ok_zb (wr_nth hN hI) (fun v126 σ127 hv126 => ?_)
  have hI : IV σ127 := hv126
  exact ih σ127 hI

theorem lc_780 {P : Int32 × zS → Prop} {N L : Nat} {xs : Nat → Int32} {again : Int32 × zS → Option (Int32 × zS)} {x3 : Int32} {σ : zS} (hN : 1048576 ≤ N) (hx : 0 ≤ x3.toInt ∧ x3.toInt + 6 ≤ (L : Int)) (hL : L ≤ 384) (hI : IV σ) (ih : ∀ σ', IV σ' → Ok (again (x3 + 6, σ')) P) : Ok (J_L_law_780 N L xs again x3 σ) P := by
  rw [J_L_law_780.eq_1]
  refine ok_aX hx hL (by decide) (by decide) ?_
  refine ok_aX hx hL (by decide) (by decide) ?_
  refine ok_gC rfl ?_
  refine ok_zb (wc_rank hN hI) (fun v130 σ131 hv130 => ?_)
  have hEv130 := hI.2
  have hI : IV σ131 := hv130
  refine ok_aX hx hL (by decide) (by decide) ?_
  refine ok_aX hx hL (by decide) (by decide) ?_
  refine ok_gC rfl ?_
  refine ok_zb (wr_rank_ hN hI) (fun v134 σ135 hv134 => ?_)
  have hI : IV σ135 := hv134
  exact ih σ135 hI

theorem lc_813 {P : Int32 × zS → Prop} {N L : Nat} {xs : Nat → Int32} {again : Int32 × zS → Option (Int32 × zS)} {x3 : Int32} {σ : zS} (hN : 1048576 ≤ N) (hx : 0 ≤ x3.toInt ∧ x3.toInt + 6 ≤ (L : Int)) (hL : L ≤ 384) (hI : IV σ) (ih : ∀ σ', IV σ' → Ok (again (x3 + 6, σ')) P) : Ok (J_L_law_813 N L xs again x3 σ) P := by
  rw [J_L_law_813.eq_1]
  refine ok_aX hx hL (by decide) (by decide) ?_
  refine ok_aX hx hL (by decide) (by decide) ?_
  refine ok_gC rfl ?_
  refine ok_zb (wc_light hN hI) (fun v138 σ139 hv138 => ?_)
  have hEv138 := hI.2
  have hI : IV σ139 := hv138
  refine ok_aX hx hL (by decide) (by decide) ?_
  refine ok_aX hx hL (by decide) (by decide) ?_
  refine ok_gC rfl ?_
  refine ok_zb (wr_light hN hI) (fun v142 σ143 hv142 => ?_)
  have hI : IV σ143 := hv142
  exact ih σ143 hI

theorem lc_846 {P : Int32 × zS → Prop} {N L : Nat} {xs : Nat → Int32} {again : Int32 × zS → Option (Int32 × zS)} {x3 : Int32} {σ : zS} (hN : 1048576 ≤ N) (hx : 0 ≤ x3.toInt ∧ x3.toInt + 6 ≤ (L : Int)) (hL : L ≤ 384) (hI : IV σ) (ih : ∀ σ', IV σ' → Ok (again (x3 + 6, σ')) P) : Ok (J_L_law_846 N L xs again x3 σ) P := by
  rw [J_L_law_846.eq_1]
  refine ok_aX hx hL (by decide) (by decide) ?_
  refine ok_gC rfl ?_
  refine ok_zb (wc_weight hN hI) (fun v145 σ146 hv145 => ?_)
  have hEv145 := hI.2
  have hI : IV σ146 := hv145
  refine ok_aX hx hL (by decide) (by decide) ?_
  refine ok_gC rfl ?_
  refine ok_zb (wr_weight hN hI) (fun v148 σ149 hv148 => ?_)
  have hI : IV σ149 := hv148
  exact ih σ149 hI

theorem lc_869 {P : Int32 × zS → Prop} {N L : Nat} {xs : Nat → Int32} {again : Int32 × zS → Option (Int32 × zS)} {x3 : Int32} {σ : zS} (hN : 1048576 ≤ N) (hx : 0 ≤ x3.toInt ∧ x3.toInt + 6 ≤ (L : Int)) (hL : L ≤ 384) (hI : IV σ) (ih : ∀ σ', IV σ' → Ok (again (x3 + 6, σ')) P) : Ok (J_L_law_869 N L xs again x3 σ) P := by
  rw [J_L_law_869.eq_1]
  refine ok_aX hx hL (by decide) (by decide) ?_
  refine ok_aX hx hL (by decide) (by decide) ?_
  refine ok_gC rfl ?_
  refine ok_zb (wc_weigh hN hI) (fun v152 σ153 hv152 => ?_)
  have hEv152 := hI.2
  have hI : IV σ153 := hv152
  refine ok_aX hx hL (by decide) (by decide) ?_
  refine ok_aX hx hL (by decide) (by decide) ?_
  refine ok_gC rfl ?_
  refine ok_zb (wr_weigh hN hI) (fun v156 σ157 hv156 => ?_)
  have hI : IV σ157 := hv156
  exact ih σ157 hI

theorem lc_902 {P : Int32 × zS → Prop} {N L : Nat} {xs : Nat → Int32} {again : Int32 × zS → Option (Int32 × zS)} {x3 : Int32} {σ : zS} (hN : 1048576 ≤ N) (hx : 0 ≤ x3.toInt ∧ x3.toInt + 6 ≤ (L : Int)) (hL : L ≤ 384) (hI : IV σ) (ih : ∀ σ', IV σ' → Ok (again (x3 + 6, σ')) P) : Ok (J_L_law_902 N L xs again x3 σ) P := by
  rw [J_L_law_902.eq_1]
  refine ok_aX hx hL (by decide) (by decide) ?_
  refine ok_aX hx hL (by decide) (by decide) ?_
  refine ok_gC rfl ?_
  refine ok_zb (wc_weighs hN hI) (fun v160 σ161 hv160 => ?_)
  have hEv160 := hI.2
  have hI : IV σ161 := hv160
  refine ok_aX hx hL (by decide) (by decide) ?_
  refine ok_aX hx hL (by decide) (by decide) ?_
  refine ok_gC rfl ?_
  refine ok_zb (wr_weighs hN hI) (fun v164 σ165 hv164 => ?_)
  have hI : IV σ165 := hv164
  exact ih σ165 hI

theorem lc_935 {P : Int32 × zS → Prop} {N L : Nat} {xs : Nat → Int32} {again : Int32 × zS → Option (Int32 × zS)} {x3 : Int32} {σ : zS} (hN : 1048576 ≤ N) (hx : 0 ≤ x3.toInt ∧ x3.toInt + 6 ≤ (L : Int)) (hL : L ≤ 384) (hI : IV σ) (ih : ∀ σ', IV σ' → Ok (again (x3 + 6, σ')) P) : Ok (J_L_law_935 N L xs again x3 σ) P := by
  rw [J_L_law_935.eq_1]
  refine ok_aX hx hL (by decide) (by decide) ?_
  refine ok_aX hx hL (by decide) (by decide) ?_
  refine ok_gC rfl ?_
  refine ok_zb (wc_each hN hI) (fun v168 σ169 hv168 => ?_)
  have hEv168 := hI.2
  have hI : IV σ169 := hv168
  refine ok_aX hx hL (by decide) (by decide) ?_
  refine ok_aX hx hL (by decide) (by decide) ?_
  refine ok_gC rfl ?_
  refine ok_zb (wr_each hN hI) (fun v172 σ173 hv172 => ?_)
  have hI : IV σ173 := hv172
  exact ih σ173 hI

theorem lc_968 {P : Int32 × zS → Prop} {N L : Nat} {xs : Nat → Int32} {again : Int32 × zS → Option (Int32 × zS)} {x3 : Int32} {σ : zS} (hN : 1048576 ≤ N) (hx : 0 ≤ x3.toInt ∧ x3.toInt + 6 ≤ (L : Int)) (hL : L ≤ 384) (hI : IV σ) (ih : ∀ σ', IV σ' → Ok (again (x3 + 6, σ')) P) : Ok (J_L_law_968 N L xs again x3 σ) P := by
  rw [J_L_law_968.eq_1]
  refine ok_aX hx hL (by decide) (by decide) ?_
  refine ok_aX hx hL (by decide) (by decide) ?_
  refine ok_gC rfl ?_
  refine ok_zb (wc_names hN hI) (fun v176 σ177 hv176 => ?_)
  have hEv176 := hI.2
  have hI : IV σ177 := hv176
  refine ok_aX hx hL (by decide) (by decide) ?_
  refine ok_aX hx hL (by decide) (by decide) ?_
  refine ok_gC rfl ?_
  refine ok_zb (wr_names hN hI) (fun v180 σ181 hv180 => ?_)
  have hI : IV σ181 := hv180
  exact ih σ181 hI

theorem lc_1001 {P : Int32 × zS → Prop} {N L : Nat} {xs : Nat → Int32} {again : Int32 × zS → Option (Int32 × zS)} {x3 : Int32} {σ : zS} (hN : 1048576 ≤ N) (hx : 0 ≤ x3.toInt ∧ x3.toInt + 6 ≤ (L : Int)) (hL : L ≤ 384) (hI : IV σ) (ih : ∀ σ', IV σ' → Ok (again (x3 + 6, σ')) P) : Ok (J_L_law_1001 N L xs again x3 σ) P := by
  rw [J_L_law_1001.eq_1]
  refine ok_aX hx hL (by decide) (by decide) ?_
  refine ok_aX hx hL (by decide) (by decide) ?_
  refine ok_gC rfl ?_
  refine ok_zb (wc_draw hN hI) (fun v184 σ185 hv184 => ?_)
  have hEv184 := hI.2
  have hI : IV σ185 := hv184
  refine ok_aX hx hL (by decide) (by decide) ?_
  refine ok_aX hx hL (by decide) (by decide) ?_
  refine ok_gC rfl ?_
  refine ok_zb (wr_draw hN hI) (fun v188 σ189 hv188 => ?_)
  have hI : IV σ189 := hv188
  exact ih σ189 hI

theorem lc_1034 {P : Int32 × zS → Prop} {N L : Nat} {xs : Nat → Int32} {again : Int32 × zS → Option (Int32 × zS)} {x3 : Int32} {σ : zS} (hN : 1048576 ≤ N) (hx : 0 ≤ x3.toInt ∧ x3.toInt + 6 ≤ (L : Int)) (hL : L ≤ 384) (hI : IV σ) (ih : ∀ σ', IV σ' → Ok (again (x3 + 6, σ')) P) : Ok (J_L_law_1034 N L xs again x3 σ) P := by
  rw [J_L_law_1034.eq_1]
  refine ok_aX hx hL (by decide) (by decide) ?_
  refine ok_aX hx hL (by decide) (by decide) ?_
  refine ok_gC rfl ?_
  refine ok_zb (wc_alike hN hI) (fun v192 σ193 hv192 => ?_)
  have hEv192 := hI.2
  have hI : IV σ193 := hv192
  refine ok_aX hx hL (by decide) (by decide) ?_
  refine ok_aX hx hL (by decide) (by decide) ?_
  refine ok_gC rfl ?_
  refine ok_zb (wr_alike hN hI) (fun v196 σ197 hv196 => ?_)
  have hI : IV σ197 := hv196
  exact ih σ197 hI

theorem lc_1067 {P : Int32 × zS → Prop} {N L : Nat} {xs : Nat → Int32} {again : Int32 × zS → Option (Int32 × zS)} {x3 : Int32} {σ : zS} (hN : 1048576 ≤ N) (hx : 0 ≤ x3.toInt ∧ x3.toInt + 6 ≤ (L : Int)) (hL : L ≤ 384) (hI : IV σ) (ih : ∀ σ', IV σ' → Ok (again (x3 + 6, σ')) P) : Ok (J_L_law_1067 N L xs again x3 σ) P := by
  rw [J_L_law_1067.eq_1]
  refine ok_aX hx hL (by decide) (by decide) ?_
  refine ok_aX hx hL (by decide) (by decide) ?_
  refine ok_gC rfl ?_
  refine ok_zb (wc_differ hN hI) (fun v200 σ201 hv200 => ?_)
  have hEv200 := hI.2
  have hI : IV σ201 := hv200
  refine ok_aX hx hL (by decide) (by decide) ?_
  refine ok_aX hx hL (by decide) (by decide) ?_
  refine ok_gC rfl ?_
  refine ok_zb (wr_differ hN hI) (fun v204 σ205 hv204 => ?_)
  have hI : IV σ205 := hv204
  exact ih σ205 hI

theorem lc_1100 {P : Int32 × zS → Prop} {N L : Nat} {xs : Nat → Int32} {again : Int32 × zS → Option (Int32 × zS)} {x3 : Int32} {σ : zS} (hN : 1048576 ≤ N) (hx : 0 ≤ x3.toInt ∧ x3.toInt + 6 ≤ (L : Int)) (hL : L ≤ 384) (hI : IV σ) (ih : ∀ σ', IV σ' → Ok (again (x3 + 6, σ')) P) : Ok (J_L_law_1100 N L xs again x3 σ) P := by
  rw [J_L_law_1100.eq_1]
  refine ok_aX hx hL (by decide) (by decide) ?_
  refine ok_aX hx hL (by decide) (by decide) ?_
  refine ok_gC rfl ?_
  refine ok_zb (wc_within hN hI) (fun v208 σ209 hv208 => ?_)
  have hEv208 := hI.2
  have hI : IV σ209 := hv208
  refine ok_aX hx hL (by decide) (by decide) ?_
  refine ok_aX hx hL (by decide) (by decide) ?_
  refine ok_gC rfl ?_
  refine ok_zb (wr_within hN hI) (fun v212 σ213 hv212 => ?_)
  have hI : IV σ213 := hv212
  exact ih σ213 hI

theorem lc_1133 {P : Int32 × zS → Prop} {N L : Nat} {xs : Nat → Int32} {again : Int32 × zS → Option (Int32 × zS)} {x3 : Int32} {σ : zS} (hN : 1048576 ≤ N) (hx : 0 ≤ x3.toInt ∧ x3.toInt + 6 ≤ (L : Int)) (hL : L ≤ 384) (hI : IV σ) (ih : ∀ σ', IV σ' → Ok (again (x3 + 6, σ')) P) : Ok (J_L_law_1133 N L xs again x3 σ) P := by
  rw [J_L_law_1133.eq_1]
  refine ok_aX hx hL (by decide) (by decide) ?_
  refine ok_aX hx hL (by decide) (by decide) ?_
  refine ok_gC rfl ?_
  refine ok_zb (wc_dual hN hI) (fun v216 σ217 hv216 => ?_)
  have hEv216 := hI.2
  have hI : IV σ217 := hv216
  refine ok_aX hx hL (by decide) (by decide) ?_
  refine ok_aX hx hL (by decide) (by decide) ?_
  refine ok_gC rfl ?_
  refine ok_zb (wr_dual hN hI) (fun v220 σ221 hv220 => ?_)
  have hI : IV σ221 := hv220
  exact ih σ221 hI

theorem lc_1166 {P : Int32 × zS → Prop} {N L : Nat} {xs : Nat → Int32} {again : Int32 × zS → Option (Int32 × zS)} {x3 : Int32} {σ : zS} (hN : 1048576 ≤ N) (hx : 0 ≤ x3.toInt ∧ x3.toInt + 6 ≤ (L : Int)) (hL : L ≤ 384) (hI : IV σ) (ih : ∀ σ', IV σ' → Ok (again (x3 + 6, σ')) P) : Ok (J_L_law_1166 N L xs again x3 σ) P := by
  rw [J_L_law_1166.eq_1]
  refine ok_aX hx hL (by decide) (by decide) ?_
  refine ok_aX hx hL (by decide) (by decide) ?_
  refine ok_gC rfl ?_
  refine ok_zb (wc_apart hN hI) (fun v224 σ225 hv224 => ?_)
  have hEv224 := hI.2
  have hI : IV σ225 := hv224
  refine ok_aX hx hL (by decide) (by decide) ?_
  refine ok_aX hx hL (by decide) (by decide) ?_
  refine ok_gC rfl ?_
  refine ok_zb (wr_apart hN hI) (fun v228 σ229 hv228 => ?_)
  have hI : IV σ229 := hv228
  exact ih σ229 hI

theorem lc_1199 {P : Int32 × zS → Prop} {N L : Nat} {xs : Nat → Int32} {again : Int32 × zS → Option (Int32 × zS)} {x3 : Int32} {σ : zS} (hN : 1048576 ≤ N) (hx : 0 ≤ x3.toInt ∧ x3.toInt + 6 ≤ (L : Int)) (hL : L ≤ 384) (hI : IV σ) (ih : ∀ σ', IV σ' → Ok (again (x3 + 6, σ')) P) : Ok (J_L_law_1199 N L xs again x3 σ) P := by
  rw [J_L_law_1199.eq_1]
  refine ok_aX hx hL (by decide) (by decide) ?_
  refine ok_aX hx hL (by decide) (by decide) ?_
  refine ok_gC rfl ?_
  refine ok_zb (wc_packs hN hI) (fun v232 σ233 hv232 => ?_)
  have hEv232 := hI.2
  have hI : IV σ233 := hv232
  refine ok_aX hx hL (by decide) (by decide) ?_
  refine ok_aX hx hL (by decide) (by decide) ?_
  refine ok_gC rfl ?_
  refine ok_zb (wr_packs hN hI) (fun v236 σ237 hv236 => ?_)
  have hI : IV σ237 := hv236
  exact ih σ237 hI

theorem lc_1232 {P : Int32 × zS → Prop} {N L : Nat} {xs : Nat → Int32} {again : Int32 × zS → Option (Int32 × zS)} {x3 : Int32} {σ : zS} (hN : 1048576 ≤ N) (hx : 0 ≤ x3.toInt ∧ x3.toInt + 6 ≤ (L : Int)) (hL : L ≤ 384) (hI : IV σ) (ih : ∀ σ', IV σ' → Ok (again (x3 + 6, σ')) P) : Ok (J_L_law_1232 N L xs again x3 σ) P := by
  rw [J_L_law_1232.eq_1]
  refine ok_aX hx hL (by decide) (by decide) ?_
  refine ok_gC rfl ?_
  refine ok_zb (wc_nodes hN hI) (fun v239 σ240 hv239 => ?_)
  have hEv239 := hI.2
  have hI : IV σ240 := hv239
  refine ok_aX hx hL (by decide) (by decide) ?_
  refine ok_gC rfl ?_
  refine ok_zb (wr_nodes hN hI) (fun v242 σ243 hv242 => ?_)
  have hI : IV σ243 := hv242
  exact ih σ243 hI

theorem lc_1255 {P : Int32 × zS → Prop} {N L : Nat} {xs : Nat → Int32} {again : Int32 × zS → Option (Int32 × zS)} {x3 : Int32} {σ : zS} (hN : 1048576 ≤ N) (hx : 0 ≤ x3.toInt ∧ x3.toInt + 6 ≤ (L : Int)) (hL : L ≤ 384) (hI : IV σ) (ih : ∀ σ', IV σ' → Ok (again (x3 + 6, σ')) P) : Ok (J_L_law_1255 N L xs again x3 σ) P := by
  rw [J_L_law_1255.eq_1]
  refine ok_gC rfl ?_
  refine ok_zb (wc_net hN hI) (fun v244 σ245 hv244 => ?_)
  have hEv244 := hI.2
  have hI : IV σ245 := hv244
  refine ok_gC rfl ?_
  refine ok_zb (wr_net hN hI) (fun v246 σ247 hv246 => ?_)
  have hI : IV σ247 := hv246
  exact ih σ247 hI

theorem lc_1268 {P : Int32 × zS → Prop} {N L : Nat} {xs : Nat → Int32} {again : Int32 × zS → Option (Int32 × zS)} {x3 : Int32} {σ : zS} (hN : 1048576 ≤ N) (hx : 0 ≤ x3.toInt ∧ x3.toInt + 6 ≤ (L : Int)) (hL : L ≤ 384) (hI : IV σ) (ih : ∀ σ', IV σ' → Ok (again (x3 + 6, σ')) P) : Ok (J_L_law_1268 N L xs again x3 σ) P := by
  rw [J_L_law_1268.eq_1]
  refine ok_aX hx hL (by decide) (by decide) ?_
  refine ok_aX hx hL (by decide) (by decide) ?_
  refine ok_gC rfl ?_
  refine ok_zb (wc_wide hN hI) (fun v250 σ251 hv250 => ?_)
  have hEv250 := hI.2
  have hI : IV σ251 := hv250
  refine ok_aX hx hL (by decide) (by decide) ?_
  refine ok_aX hx hL (by decide) (by decide) ?_
  refine ok_gC rfl ?_
  refine ok_zb (wr_wide hN hI) (fun v254 σ255 hv254 => ?_)
  have hI : IV σ255 := hv254
  exact ih σ255 hI

theorem lc_1301 {P : Int32 × zS → Prop} {N L : Nat} {xs : Nat → Int32} {again : Int32 × zS → Option (Int32 × zS)} {x3 : Int32} {σ : zS} (hN : 1048576 ≤ N) (hx : 0 ≤ x3.toInt ∧ x3.toInt + 6 ≤ (L : Int)) (hL : L ≤ 384) (hI : IV σ) (ih : ∀ σ', IV σ' → Ok (again (x3 + 6, σ')) P) : Ok (J_L_law_1301 N L xs again x3 σ) P := by
  rw [J_L_law_1301.eq_1]
  refine ok_aX hx hL (by decide) (by decide) ?_
  refine ok_gC rfl ?_
  refine ok_zb (wc_order hN hI) (fun v257 σ258 hv257 => ?_)
  have hEv257 := hI.2
  have hI : IV σ258 := hv257
  refine ok_aX hx hL (by decide) (by decide) ?_
  refine ok_gC rfl ?_
  refine ok_zb (wr_order hN hI) (fun v260 σ261 hv260 => ?_)
  have hI : IV σ261 := hv260
  exact ih σ261 hI

theorem lc_1324 {P : Int32 × zS → Prop} {N L : Nat} {xs : Nat → Int32} {again : Int32 × zS → Option (Int32 × zS)} {x3 : Int32} {σ : zS} (hN : 1048576 ≤ N) (hx : 0 ≤ x3.toInt ∧ x3.toInt + 6 ≤ (L : Int)) (hL : L ≤ 384) (hI : IV σ) (ih : ∀ σ', IV σ' → Ok (again (x3 + 6, σ')) P) : Ok (J_L_law_1324 N L xs again x3 σ) P := by
  rw [J_L_law_1324.eq_1]
  refine ok_aX hx hL (by decide) (by decide) ?_
  refine ok_gC rfl ?_
  refine ok_zb (wc_swap hN hI) (fun v263 σ264 hv263 => ?_)
  have hEv263 := hI.2
  have hI : IV σ264 := hv263
  refine ok_aX hx hL (by decide) (by decide) ?_
  refine ok_gC rfl ?_
  refine ok_zb (wr_swap hN hI) (fun v266 σ267 hv266 => ?_)
  have hI : IV σ267 := hv266
  exact ih σ267 hI

theorem lc_1347 {P : Int32 × zS → Prop} {N L : Nat} {xs : Nat → Int32} {again : Int32 × zS → Option (Int32 × zS)} {x3 : Int32} {σ : zS} (hN : 1048576 ≤ N) (hx : 0 ≤ x3.toInt ∧ x3.toInt + 6 ≤ (L : Int)) (hL : L ≤ 384) (hI : IV σ) (ih : ∀ σ', IV σ' → Ok (again (x3 + 6, σ')) P) : Ok (J_L_law_1347 N L xs again x3 σ) P := by
  rw [J_L_law_1347.eq_1]
  refine ok_aX hx hL (by decide) (by decide) ?_
  refine ok_aX hx hL (by decide) (by decide) ?_
  refine ok_gC rfl ?_
  refine ok_zb (wc_move hN hI) (fun v270 σ271 hv270 => ?_)
  have hEv270 := hI.2
  have hI : IV σ271 := hv270
  refine ok_aX hx hL (by decide) (by decide) ?_
  refine ok_aX hx hL (by decide) (by decide) ?_
  refine ok_gC rfl ?_
  refine ok_zb (wr_move hN hI) (fun v274 σ275 hv274 => ?_)
  have hI : IV σ275 := hv274
  exact ih σ275 hI

theorem lc_1380 {P : Int32 × zS → Prop} {N L : Nat} {xs : Nat → Int32} {again : Int32 × zS → Option (Int32 × zS)} {x3 : Int32} {σ : zS} (hN : 1048576 ≤ N) (hx : 0 ≤ x3.toInt ∧ x3.toInt + 6 ≤ (L : Int)) (hL : L ≤ 384) (hI : IV σ) (ih : ∀ σ', IV σ' → Ok (again (x3 + 6, σ')) P) : Ok (J_L_law_1380 N L xs again x3 σ) P := by
  rw [J_L_law_1380.eq_1]
  refine ok_aX hx hL (by decide) (by decide) ?_
  refine ok_aX hx hL (by decide) (by decide) ?_
  refine ok_gC rfl ?_
  refine ok_zb (wc_best hN hI) (fun v278 σ279 hv278 => ?_)
  have hEv278 := hI.2
  have hI : IV σ279 := hv278
  refine ok_aX hx hL (by decide) (by decide) ?_
  refine ok_aX hx hL (by decide) (by decide) ?_
  refine ok_gC rfl ?_
  refine ok_zb (wr_best hN hI) (fun v282 σ283 hv282 => ?_)
  have hI : IV σ283 := hv282
  exact ih σ283 hI

theorem lc_1413 {P : Int32 × zS → Prop} {N L : Nat} {xs : Nat → Int32} {again : Int32 × zS → Option (Int32 × zS)} {x3 : Int32} {σ : zS} (hN : 1048576 ≤ N) (hx : 0 ≤ x3.toInt ∧ x3.toInt + 6 ≤ (L : Int)) (hL : L ≤ 384) (hI : IV σ) (ih : ∀ σ', IV σ' → Ok (again (x3 + 6, σ')) P) : Ok (J_L_law_1413 N L xs again x3 σ) P := by
  rw [J_L_law_1413.eq_1]
  refine ok_aX hx hL (by decide) (by decide) ?_
  refine ok_gC rfl ?_
  refine ok_zb (wc_sift hN hI) (fun v285 σ286 hv285 => ?_)
  have hEv285 := hI.2
  have hI : IV σ286 := hv285
  refine ok_aX hx hL (by decide) (by decide) ?_
  refine ok_gC rfl ?_
  refine ok_zb (wr_sift hN hI) (fun v288 σ289 hv288 => ?_)
  have hI : IV σ289 := hv288
  exact ih σ289 hI

theorem lc_1436 {P : Int32 × zS → Prop} {N L : Nat} {xs : Nat → Int32} {again : Int32 × zS → Option (Int32 × zS)} {x3 : Int32} {σ : zS} (hN : 1048576 ≤ N) (hx : 0 ≤ x3.toInt ∧ x3.toInt + 6 ≤ (L : Int)) (hL : L ≤ 384) (hI : IV σ) (ih : ∀ σ', IV σ' → Ok (again (x3 + 6, σ')) P) : Ok (J_L_law_1436 N L xs again x3 σ) P := by
  rw [J_L_law_1436.eq_1]
  refine ok_aX hx hL (by decide) (by decide) ?_
  refine ok_aX hx hL (by decide) (by decide) ?_
  refine ok_aX hx hL (by decide) (by decide) ?_
  refine ok_gC rfl ?_
  refine ok_zb (wc_ways hN hI) (fun v293 σ294 hv293 => ?_)
  have hEv293 := hI.2
  have hI : IV σ294 := hv293
  refine ok_aX hx hL (by decide) (by decide) ?_
  refine ok_aX hx hL (by decide) (by decide) ?_
  refine ok_aX hx hL (by decide) (by decide) ?_
  refine ok_gC rfl ?_
  refine ok_zb (wr_ways hN hI) (fun v298 σ299 hv298 => ?_)
  have hI : IV σ299 := hv298
  exact ih σ299 hI

theorem lc_1479 {P : Int32 × zS → Prop} {N L : Nat} {xs : Nat → Int32} {again : Int32 × zS → Option (Int32 × zS)} {x3 : Int32} {σ : zS} (hN : 1048576 ≤ N) (hx : 0 ≤ x3.toInt ∧ x3.toInt + 6 ≤ (L : Int)) (hL : L ≤ 384) (hI : IV σ) (ih : ∀ σ', IV σ' → Ok (again (x3 + 6, σ')) P) : Ok (J_L_law_1479 N L xs again x3 σ) P := by
  rw [J_L_law_1479.eq_1]
  refine ok_aX hx hL (by decide) (by decide) ?_
  refine ok_aX hx hL (by decide) (by decide) ?_
  refine ok_gC rfl ?_
  refine ok_zb (wc_map hN hI) (fun v302 σ303 hv302 => ?_)
  have hEv302 := hI.2
  have hI : IV σ303 := hv302
  refine ok_aX hx hL (by decide) (by decide) ?_
  refine ok_aX hx hL (by decide) (by decide) ?_
  refine ok_gC rfl ?_
  refine ok_zb (wr_map hN hI) (fun v306 σ307 hv306 => ?_)
  have hI : IV σ307 := hv306
  exact ih σ307 hI

theorem lc_1512 {P : Int32 × zS → Prop} {N L : Nat} {xs : Nat → Int32} {again : Int32 × zS → Option (Int32 × zS)} {x3 : Int32} {σ : zS} (hN : 1048576 ≤ N) (hx : 0 ≤ x3.toInt ∧ x3.toInt + 6 ≤ (L : Int)) (hL : L ≤ 384) (hI : IV σ) (ih : ∀ σ', IV σ' → Ok (again (x3 + 6, σ')) P) : Ok (J_L_law_1512 N L xs again x3 σ) P := by
  rw [J_L_law_1512.eq_1]
  refine ok_aX hx hL (by decide) (by decide) ?_
  refine ok_aX hx hL (by decide) (by decide) ?_
  refine ok_aX hx hL (by decide) (by decide) ?_
  refine ok_gC rfl ?_
  refine ok_zb (wc_cuts hN hI) (fun v311 σ312 hv311 => ?_)
  have hEv311 := hI.2
  have hI : IV σ312 := hv311
  refine ok_aX hx hL (by decide) (by decide) ?_
  refine ok_aX hx hL (by decide) (by decide) ?_
  refine ok_aX hx hL (by decide) (by decide) ?_
  refine ok_gC rfl ?_
  refine ok_zb (wr_cuts hN hI) (fun v316 σ317 hv316 => ?_)
  have hI : IV σ317 := hv316
  exact ih σ317 hI

theorem lc_1555 {P : Int32 × zS → Prop} {N L : Nat} {xs : Nat → Int32} {again : Int32 × zS → Option (Int32 × zS)} {x3 : Int32} {σ : zS} (hN : 1048576 ≤ N) (hx : 0 ≤ x3.toInt ∧ x3.toInt + 6 ≤ (L : Int)) (hL : L ≤ 384) (hI : IV σ) (ih : ∀ σ', IV σ' → Ok (again (x3 + 6, σ')) P) : Ok (J_L_law_1555 N L xs again x3 σ) P := by
  rw [J_L_law_1555.eq_1]
  refine ok_aX hx hL (by decide) (by decide) ?_
  refine ok_aX hx hL (by decide) (by decide) ?_
  refine ok_gC rfl ?_
  refine ok_zb (wc_judge hN hI) (fun v320 σ321 hv320 => ?_)
  have hEv320 := hI.2
  have hI : IV σ321 := hv320
  refine ok_aX hx hL (by decide) (by decide) ?_
  refine ok_aX hx hL (by decide) (by decide) ?_
  refine ok_gC rfl ?_
  refine ok_zb (wr_judge hN hI) (fun v324 σ325 hv324 => ?_)
  have hI : IV σ325 := hv324
  exact ih σ325 hI

theorem lc_1588 {P : Int32 × zS → Prop} {N L : Nat} {xs : Nat → Int32} {again : Int32 × zS → Option (Int32 × zS)} {x3 : Int32} {σ : zS} (hN : 1048576 ≤ N) (hx : 0 ≤ x3.toInt ∧ x3.toInt + 6 ≤ (L : Int)) (hL : L ≤ 384) (hI : IV σ) (ih : ∀ σ', IV σ' → Ok (again (x3 + 6, σ')) P) : Ok (J_L_law_1588 N L xs again x3 σ) P := by
  rw [J_L_law_1588.eq_1]
  refine ok_aX hx hL (by decide) (by decide) ?_
  refine ok_aX hx hL (by decide) (by decide) ?_
  refine ok_gC rfl ?_
  refine ok_zb (wc_takes hN hI) (fun v328 σ329 hv328 => ?_)
  have hEv328 := hI.2
  have hI : IV σ329 := hv328
  refine ok_aX hx hL (by decide) (by decide) ?_
  refine ok_aX hx hL (by decide) (by decide) ?_
  refine ok_gC rfl ?_
  refine ok_zb (wr_takes_ hN hI) (fun v332 σ333 hv332 => ?_)
  have hI : IV σ333 := hv332
  exact ih σ333 hI

theorem lc_1621 {P : Int32 × zS → Prop} {N L : Nat} {xs : Nat → Int32} {again : Int32 × zS → Option (Int32 × zS)} {x3 : Int32} {σ : zS} (hN : 1048576 ≤ N) (hx : 0 ≤ x3.toInt ∧ x3.toInt + 6 ≤ (L : Int)) (hL : L ≤ 384) (hI : IV σ) (ih : ∀ σ', IV σ' → Ok (again (x3 + 6, σ')) P) : Ok (J_L_law_1621 N L xs again x3 σ) P := by
  rw [J_L_law_1621.eq_1]
  refine ok_aX hx hL (by decide) (by decide) ?_
  refine ok_gC rfl ?_
  refine ok_zb (wc_count hN hI) (fun v335 σ336 hv335 => ?_)
  have hEv335 := hI.2
  have hI : IV σ336 := hv335
  refine ok_aX hx hL (by decide) (by decide) ?_
  refine ok_gC rfl ?_
  refine ok_zb (wr_count hN hI) (fun v338 σ339 hv338 => ?_)
  have hI : IV σ339 := hv338
  exact ih σ339 hI

theorem lc_1644 {P : Int32 × zS → Prop} {N L : Nat} {xs : Nat → Int32} {again : Int32 × zS → Option (Int32 × zS)} {x3 : Int32} {σ : zS} (hN : 1048576 ≤ N) (hx : 0 ≤ x3.toInt ∧ x3.toInt + 6 ≤ (L : Int)) (hL : L ≤ 384) (hI : IV σ) (ih : ∀ σ', IV σ' → Ok (again (x3 + 6, σ')) P) : Ok (J_L_law_1644 N L xs again x3 σ) P := by
  rw [J_L_law_1644.eq_1]
  refine ok_aX hx hL (by decide) (by decide) ?_
  refine ok_gC rfl ?_
  refine ok_zb (wc_keep hN hI) (fun v341 σ342 hv341 => ?_)
  have hEv341 := hI.2
  refine ok_aX hx hL (by decide) (by decide) ?_
  refine ok_gC rfl ?_
  refine ok_zb (wr_keep hN hv341.1.1 hv341.1.2) (fun v344 σ345 hv344 => ?_)
  have hpv344 := pr_keep hEv341 hv341 hv344
  have hI : IV σ345 := hpv344.1
  exact ih σ345 hI

theorem lc_1667 {P : Int32 × zS → Prop} {N L : Nat} {xs : Nat → Int32} {again : Int32 × zS → Option (Int32 × zS)} {x3 : Int32} {σ : zS} (hN : 1048576 ≤ N) (hx : 0 ≤ x3.toInt ∧ x3.toInt + 6 ≤ (L : Int)) (hL : L ≤ 384) (hI : IV σ) (ih : ∀ σ', IV σ' → Ok (again (x3 + 6, σ')) P) : Ok (J_L_law_1667 N L xs again x3 σ) P := by
  rw [J_L_law_1667.eq_1]
  refine ok_aX hx hL (by decide) (by decide) ?_
  refine ok_gC rfl ?_
  refine ok_zb (wc_back hN hI) (fun v347 σ348 hv347 => ?_)
  have hEv347 := hI.2
  have hI : IV σ348 := hv347.1
  refine ok_aX hx hL (by decide) (by decide) ?_
  refine ok_gC rfl ?_
  refine ok_zb (wr_back hN hI) (fun v350 σ351 hv350 => ?_)
  have hI : IV σ351 := hv350.1
  exact ih σ351 hI

theorem lc_1690 {P : Int32 × zS → Prop} {N L : Nat} {xs : Nat → Int32} {again : Int32 × zS → Option (Int32 × zS)} {x3 : Int32} {σ : zS} (hN : 1048576 ≤ N) (hx : 0 ≤ x3.toInt ∧ x3.toInt + 6 ≤ (L : Int)) (hL : L ≤ 384) (hI : IV σ) (ih : ∀ σ', IV σ' → Ok (again (x3 + 6, σ')) P) : Ok (J_L_law_1690 N L xs again x3 σ) P := by
  rw [J_L_law_1690.eq_1]
  refine ok_aX hx hL (by decide) (by decide) ?_
  refine ok_aX hx hL (by decide) (by decide) ?_
  refine ok_aX hx hL (by decide) (by decide) ?_
  refine ok_gC rfl ?_
  refine ok_zb (wc_row hN hI) (fun v355 σ356 hv355 => ?_)
  have hEv355 := hI.2
  refine ok_aX hx hL (by decide) (by decide) ?_
  refine ok_aX hx hL (by decide) (by decide) ?_
  refine ok_aX hx hL (by decide) (by decide) ?_
  refine ok_gC rfl ?_
  refine ok_zb (wr_row hN hv355.1.1 hv355.1.2) (fun v360 σ361 hv360 => ?_)
  have hpv360 := pr_row hEv355 hv355 hv360
  have hI : IV σ361 := hpv360.1
  exact ih σ361 hI

theorem lc_1733 {P : Int32 × zS → Prop} {N L : Nat} {xs : Nat → Int32} {again : Int32 × zS → Option (Int32 × zS)} {x3 : Int32} {σ : zS} (hN : 1048576 ≤ N) (hx : 0 ≤ x3.toInt ∧ x3.toInt + 6 ≤ (L : Int)) (hL : L ≤ 384) (hI : IV σ) (ih : ∀ σ', IV σ' → Ok (again (x3 + 6, σ')) P) : Ok (J_L_law_1733 N L xs again x3 σ) P := by
  rw [J_L_law_1733.eq_1]
  refine ok_aX hx hL (by decide) (by decide) ?_
  refine ok_aX hx hL (by decide) (by decide) ?_
  refine ok_aX hx hL (by decide) (by decide) ?_
  refine ok_aX hx hL (by decide) (by decide) ?_
  refine ok_gC rfl ?_
  refine ok_zb (wc_write hN hI) (fun v366 σ367 hv366 => ?_)
  have hEv366 := hI.2
  have hI : IV σ367 := hv366.1
  refine ok_aX hx hL (by decide) (by decide) ?_
  refine ok_aX hx hL (by decide) (by decide) ?_
  refine ok_aX hx hL (by decide) (by decide) ?_
  refine ok_aX hx hL (by decide) (by decide) ?_
  refine ok_gC rfl ?_
  refine ok_zb (wr_write hN hI) (fun v372 σ373 hv372 => ?_)
  have hI : IV σ373 := hv372.1
  exact ih σ373 hI

theorem lc_1806 {P : Int32 × zS → Prop} {N L : Nat} {xs : Nat → Int32} {again : Int32 × zS → Option (Int32 × zS)} {x3 : Int32} {σ : zS} (hN : 1048576 ≤ N) (hx : 0 ≤ x3.toInt ∧ x3.toInt + 6 ≤ (L : Int)) (hL : L ≤ 384) (hI : IV σ) (ih : ∀ σ', IV σ' → Ok (again (x3 + 6, σ')) P) : Ok (J_L_law_1806 N L xs again x3 σ) P := by
  rw [J_L_law_1806.eq_1]
  refine ok_aX hx hL (by decide) (by decide) ?_
  refine ok_aX hx hL (by decide) (by decide) ?_
  refine ok_aX hx hL (by decide) (by decide) ?_
  refine ok_aX hx hL (by decide) (by decide) ?_
  refine ok_aX hx hL (by decide) (by decide) ?_
  refine ok_gC rfl ?_
  refine ok_zb (wc_paste hN hI) (fun v379 σ380 hv379 => ?_)
  have hEv379 := hI.2
  have hI : IV σ380 := hv379.1
  refine ok_aX hx hL (by decide) (by decide) ?_
  refine ok_aX hx hL (by decide) (by decide) ?_
  refine ok_aX hx hL (by decide) (by decide) ?_
  refine ok_aX hx hL (by decide) (by decide) ?_
  refine ok_aX hx hL (by decide) (by decide) ?_
  refine ok_gC rfl ?_
  refine ok_zb (wr_paste hN hI) (fun v386 σ387 hv386 => ?_)
  have hI : IV σ387 := hv386.1
  exact ih σ387 hI

set_option maxRecDepth 100000 in
theorem law_ok {N L : Nat} {xs : Nat → Int32} (hN : 1048576 ≤ N) (hL : L ≤ 384) : Ok (f_L_law N L xs zs00) (fun r => r.1 = 1) := by
  have hl : (Int32.ofNat L - 6).toInt = (L : Int) - 6 := by
    rw [ti_sub, ti_ofNat (by omega)]
    simp only [Int32.reduceToInt]
    omega
  rw [f_L_law.eq_1]
  refine ok_lp (fun t : Int32 × zS => (0 ≤ t.1.toInt ∧ t.1.toInt ≤ 400) ∧ IV t.2) (fun t => (500 - t.1.toInt).toNat) (fun again t hI ih => ?_) N _ ⟨(by decide : 0 ≤ (0 : Int32).toInt ∧ (0 : Int32).toInt ≤ 400), ⟨CI_0, RI_0⟩, EQ_0⟩ (by simp only [Int32.reduceToInt]; omega)
  obtain ⟨x3, σ⟩ := t
  obtain ⟨h0, hI⟩ := hI
  have h0 : 0 ≤ x3.toInt ∧ x3.toInt ≤ 400 := h0
  have hI : IV σ := hI
  rw [F_L_law_18.eq_1]
  refine ok_if (fun _ => ok_some rfl) (fun hc => ?_)
  rw [Int32.lt_iff_toInt_lt, hl] at hc
  have hx : 0 ≤ x3.toInt ∧ x3.toInt + 6 ≤ (L : Int) := by omega
  have s6 : (x3 + 6).toInt = x3.toInt + 6 := by rw [ti_add]; simp only [Int32.reduceToInt]; omega
  have ih : ∀ σ', IV σ' → Ok (again (x3 + 6, σ')) (fun r => r.1 = 1) := fun σ' h1 => ih (x3 + 6, σ') ⟨(by rw [s6]; omega : 0 ≤ (x3 + 6).toInt ∧ (x3 + 6).toInt ≤ 400), h1⟩ (by show (500 - (x3 + 6).toInt).toNat < (500 - x3.toInt).toNat; rw [s6]; omega)
  refine ok_aX0 hx ?_
  refine ok_if (fun _ => lc_236 hN hx hL hI ih) (fun _ => ?_)
  refine ok_if (fun _ => lc_299 hN hx hL hI ih) (fun _ => ?_)
  refine ok_if (fun _ => lc_322 hN hx hL hI ih) (fun _ => ?_)
  refine ok_if (fun _ => lc_335 hN hx hL hI ih) (fun _ => ?_)
  refine ok_if (fun _ => lc_358 hN hx hL hI ih) (fun _ => ?_)
  refine ok_if (fun _ => lc_381 hN hx hL hI ih) (fun _ => ?_)
  refine ok_if (fun _ => lc_404 hN hx hL hI ih) (fun _ => ?_)
  refine ok_if (fun _ => lc_437 hN hx hL hI ih) (fun _ => ?_)
  refine ok_if (fun _ => lc_490 hN hx hL hI ih) (fun _ => ?_)
  refine ok_if (fun _ => lc_533 hN hx hL hI ih) (fun _ => ?_)
  refine ok_if (fun _ => lc_592 hN hx hL hI ih) (fun _ => ?_)
  refine ok_if (fun _ => lc_635 hN hx hL hI ih) (fun _ => ?_)
  refine ok_if (fun _ => lc_704 hN hx hL hI ih) (fun _ => ?_)
  refine ok_if (fun _ => lc_747 hN hx hL hI ih) (fun _ => ?_)
  refine ok_if (fun _ => lc_780 hN hx hL hI ih) (fun _ => ?_)
  refine ok_if (fun _ => lc_813 hN hx hL hI ih) (fun _ => ?_)
  refine ok_if (fun _ => lc_846 hN hx hL hI ih) (fun _ => ?_)
  refine ok_if (fun _ => lc_869 hN hx hL hI ih) (fun _ => ?_)
  refine ok_if (fun _ => lc_902 hN hx hL hI ih) (fun _ => ?_)
  refine ok_if (fun _ => lc_935 hN hx hL hI ih) (fun _ => ?_)
  refine ok_if (fun _ => lc_968 hN hx hL hI ih) (fun _ => ?_)
  refine ok_if (fun _ => lc_1001 hN hx hL hI ih) (fun _ => ?_)
  refine ok_if (fun _ => lc_1034 hN hx hL hI ih) (fun _ => ?_)
  refine ok_if (fun _ => lc_1067 hN hx hL hI ih) (fun _ => ?_)
  refine ok_if (fun _ => lc_1100 hN hx hL hI ih) (fun _ => ?_)
  refine ok_if (fun _ => lc_1133 hN hx hL hI ih) (fun _ => ?_)
  refine ok_if (fun _ => lc_1166 hN hx hL hI ih) (fun _ => ?_)
  refine ok_if (fun _ => lc_1199 hN hx hL hI ih) (fun _ => ?_)
  refine ok_if (fun _ => lc_1232 hN hx hL hI ih) (fun _ => ?_)
  refine ok_if (fun _ => lc_1255 hN hx hL hI ih) (fun _ => ?_)
  refine ok_if (fun _ => lc_1268 hN hx hL hI ih) (fun _ => ?_)
  refine ok_if (fun _ => lc_1301 hN hx hL hI ih) (fun _ => ?_)
  refine ok_if (fun _ => lc_1324 hN hx hL hI ih) (fun _ => ?_)
  refine ok_if (fun _ => lc_1347 hN hx hL hI ih) (fun _ => ?_)
  refine ok_if (fun _ => lc_1380 hN hx hL hI ih) (fun _ => ?_)
  refine ok_if (fun _ => lc_1413 hN hx hL hI ih) (fun _ => ?_)
  refine ok_if (fun _ => lc_1436 hN hx hL hI ih) (fun _ => ?_)
  refine ok_if (fun _ => lc_1479 hN hx hL hI ih) (fun _ => ?_)
  refine ok_if (fun _ => lc_1512 hN hx hL hI ih) (fun _ => ?_)
  refine ok_if (fun _ => lc_1555 hN hx hL hI ih) (fun _ => ?_)
  refine ok_if (fun _ => lc_1588 hN hx hL hI ih) (fun _ => ?_)
  refine ok_if (fun _ => lc_1621 hN hx hL hI ih) (fun _ => ?_)
  refine ok_if (fun _ => lc_1644 hN hx hL hI ih) (fun _ => ?_)
  refine ok_if (fun _ => lc_1667 hN hx hL hI ih) (fun _ => ?_)
  refine ok_if (fun _ => lc_1690 hN hx hL hI ih) (fun _ => ?_)
  refine ok_if (fun _ => lc_1733 hN hx hL hI ih) (fun _ => ?_)
  refine ok_if (fun _ => lc_1806 hN hx hL hI ih) (fun _ => ?_)
  exact ih σ hI
def zN : Nat := 1048576
theorem safe (L : Nat) (xs : Nat → Int32) (hL : L ≤ 384) : ∃ ρ, f_L_law zN L xs zs00 = some ρ ∧ ρ.1 = 1 := law_ok (Nat.le_refl _) hL

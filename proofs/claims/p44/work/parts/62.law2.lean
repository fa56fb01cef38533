theorem ok_aX {β : Type} {P : β → Prop} {L : Nat} {xs : Nat → Int32} {x3 j : Int32} {f : Int32 → Option β} (hx : 0 ≤ x3.toInt ∧ x3.toInt + 6 ≤ (L : Int)) (hL : L ≤ 384) (h0 : 0 ≤ j.toInt) (h1 : j.toInt ≤ 5) (h : Ok (f (xs (x3 + j).toNatClampNeg)) P) : Ok (zl (aX L xs (x3 + j)) f) P := by
  refine ok_zl (if_pos ?_) h
  rw [ti_add]; omega
theorem ok_aX0 {β : Type} {P : β → Prop} {L : Nat} {xs : Nat → Int32} {x3 : Int32} {f : Int32 → Option β} (hx : 0 ≤ x3.toInt ∧ x3.toInt + 6 ≤ (L : Int)) (h : Ok (f (xs x3.toNatClampNeg)) P) : Ok (zl (aX L xs x3) f) P := by
  refine ok_zl (if_pos ?_) h
  omega

theorem lc_236 {P : Int32 × zS → Prop} {N L : Nat} {xs : Nat → Int32} {again : Int32 × zS → Option (Int32 × zS)} {x3 : Int32} {σ : zS} (hN : 1048576 ≤ N) (hx : 0 ≤ x3.toInt ∧ x3.toInt + 6 ≤ (L : Int)) (hL : L ≤ 384) (hC : CI σ) (hR : RI σ) (ih : ∀ σ', CI σ' → RI σ' → Ok (again (x3 + 6, σ')) P) : Ok (J_L_law_236 N L xs again x3 σ) P := by
  rw [J_L_law_236.eq_1]
  refine ok_aX hx hL (by decide) (by decide) ?_
  refine ok_aX hx hL (by decide) (by decide) ?_
  refine ok_aX hx hL (by decide) (by decide) ?_
  refine ok_aX hx hL (by decide) (by decide) ?_
  refine ok_aX hx hL (by decide) (by decide) ?_
  refine ok_gC rfl ?_
  refine ok_zb (wc_feed hN hC hR) (fun v7 σ8 hv7 => ?_)
  have hC : CI σ8 := hv7.1
  have hR : RI σ8 := hv7.2
  refine ok_aX hx hL (by decide) (by decide) ?_
  refine ok_aX hx hL (by decide) (by decide) ?_
  refine ok_aX hx hL (by decide) (by decide) ?_
  refine ok_aX hx hL (by decide) (by decide) ?_
  refine ok_aX hx hL (by decide) (by decide) ?_
  refine ok_gC rfl ?_
  refine ok_zb (wr_feed hN hC hR) (fun v14 σ15 hv14 => ?_)
  have hC : CI σ15 := hv14.1
  have hR : RI σ15 := hv14.2
  exact ih σ15 hC hR

theorem lc_299 {P : Int32 × zS → Prop} {N L : Nat} {xs : Nat → Int32} {again : Int32 × zS → Option (Int32 × zS)} {x3 : Int32} {σ : zS} (hN : 1048576 ≤ N) (hx : 0 ≤ x3.toInt ∧ x3.toInt + 6 ≤ (L : Int)) (hL : L ≤ 384) (hC : CI σ) (hR : RI σ) (ih : ∀ σ', CI σ' → RI σ' → Ok (again (x3 + 6, σ')) P) : Ok (J_L_law_299 N L xs again x3 σ) P := by
  rw [J_L_law_299.eq_1]
  refine ok_aX hx hL (by decide) (by decide) ?_
  refine ok_gC rfl ?_
  refine ok_zb (wc_end hN hC hR) (fun v17 σ18 hv17 => ?_)
  have hC : CI σ18 := hv17.1
  have hR : RI σ18 := hv17.2
  refine ok_aX hx hL (by decide) (by decide) ?_
  refine ok_gC rfl ?_
  refine ok_zb (wr_end hN hC hR) (fun v20 σ21 hv20 => ?_)
  have hC : CI σ21 := hv20.1
  have hR : RI σ21 := hv20.2
  exact ih σ21 hC hR

theorem lc_322 {P : Int32 × zS → Prop} {N L : Nat} {xs : Nat → Int32} {again : Int32 × zS → Option (Int32 × zS)} {x3 : Int32} {σ : zS} (hN : 1048576 ≤ N) (hx : 0 ≤ x3.toInt ∧ x3.toInt + 6 ≤ (L : Int)) (hL : L ≤ 384) (hC : CI σ) (hR : RI σ) (ih : ∀ σ', CI σ' → RI σ' → Ok (again (x3 + 6, σ')) P) : Ok (J_L_law_322 N L xs again x3 σ) P := by
  rw [J_L_law_322.eq_1]
  refine ok_gC rfl ?_
  refine ok_zb (wc_world hN hC hR) (fun v22 σ23 hv22 => ?_)
  have hC : CI σ23 := hv22.1
  have hR : RI σ23 := hv22.2
  refine ok_gC rfl ?_
  refine ok_zb (wr_world hN hC hR) (fun v24 σ25 hv24 => ?_)
  have hC : CI σ25 := hv24.1
  have hR : RI σ25 := hv24.2
  exact ih σ25 hC hR

theorem lc_335 {P : Int32 × zS → Prop} {N L : Nat} {xs : Nat → Int32} {again : Int32 × zS → Option (Int32 × zS)} {x3 : Int32} {σ : zS} (hN : 1048576 ≤ N) (hx : 0 ≤ x3.toInt ∧ x3.toInt + 6 ≤ (L : Int)) (hL : L ≤ 384) (hC : CI σ) (hR : RI σ) (ih : ∀ σ', CI σ' → RI σ' → Ok (again (x3 + 6, σ')) P) : Ok (J_L_law_335 N L xs again x3 σ) P := by
  rw [J_L_law_335.eq_1]
  refine ok_aX hx hL (by decide) (by decide) ?_
  refine ok_gC rfl ?_
  refine ok_zb (wc_put hN hC hR) (fun v27 σ28 hv27 => ?_)
  have hC : CI σ28 := hv27.1
  have hR : RI σ28 := hv27.2
  refine ok_aX hx hL (by decide) (by decide) ?_
  refine ok_gC rfl ?_
  refine ok_zb (wr_put hN hC hR) (fun v30 σ31 hv30 => ?_)
  have hC : CI σ31 := hv30.1
  have hR : RI σ31 := hv30.2
  exact ih σ31 hC hR

theorem lc_358 {P : Int32 × zS → Prop} {N L : Nat} {xs : Nat → Int32} {again : Int32 × zS → Option (Int32 × zS)} {x3 : Int32} {σ : zS} (hN : 1048576 ≤ N) (hx : 0 ≤ x3.toInt ∧ x3.toInt + 6 ≤ (L : Int)) (hL : L ≤ 384) (hC : CI σ) (hR : RI σ) (ih : ∀ σ', CI σ' → RI σ' → Ok (again (x3 + 6, σ')) P) : Ok (J_L_law_358 N L xs again x3 σ) P := by
  rw [J_L_law_358.eq_1]
  refine ok_aX hx hL (by decide) (by decide) ?_
  refine ok_gC rfl ?_
  refine ok_zb (wc_fault hN hC hR) (fun v33 σ34 hv33 => ?_)
  have hC : CI σ34 := hv33.1
  have hR : RI σ34 := hv33.2
  refine ok_aX hx hL (by decide) (by decide) ?_
  refine ok_gC rfl ?_
  refine ok_zb (wr_fault hN hC hR) (fun v36 σ37 hv36 => ?_)
  have hC : CI σ37 := hv36.1
  have hR : RI σ37 := hv36.2
  exact ih σ37 hC hR

theorem lc_381 {P : Int32 × zS → Prop} {N L : Nat} {xs : Nat → Int32} {again : Int32 × zS → Option (Int32 × zS)} {x3 : Int32} {σ : zS} (hN : 1048576 ≤ N) (hx : 0 ≤ x3.toInt ∧ x3.toInt + 6 ≤ (L : Int)) (hL : L ≤ 384) (hC : CI σ) (hR : RI σ) (ih : ∀ σ', CI σ' → RI σ' → Ok (again (x3 + 6, σ')) P) : Ok (J_L_law_381 N L xs again x3 σ) P := by
  rw [J_L_law_381.eq_1]
  refine ok_aX hx hL (by decide) (by decide) ?_
  refine ok_gC rfl ?_
  refine ok_zb (wc_size hN hC hR) (fun v39 σ40 hv39 => ?_)
  have hC : CI σ40 := hv39.1
  have hR : RI σ40 := hv39.2
  refine ok_aX hx hL (by decide) (by decide) ?_
  refine ok_gC rfl ?_
  refine ok_zb (wr_size hN hC hR) (fun v42 σ43 hv42 => ?_)
  have hC : CI σ43 := hv42.1
  have hR : RI σ43 := hv42.2
  exact ih σ43 hC hR

theorem lc_404 {P : Int32 × zS → Prop} {N L : Nat} {xs : Nat → Int32} {again : Int32 × zS → Option (Int32 × zS)} {x3 : Int32} {σ : zS} (hN : 1048576 ≤ N) (hx : 0 ≤ x3.toInt ∧ x3.toInt + 6 ≤ (L : Int)) (hL : L ≤ 384) (hC : CI σ) (hR : RI σ) (ih : ∀ σ', CI σ' → RI σ' → Ok (again (x3 + 6, σ')) P) : Ok (J_L_law_404 N L xs again x3 σ) P := by
  rw [J_L_law_404.eq_1]
  refine ok_aX hx hL (by decide) (by decide) ?_
  refine ok_aX hx hL (by decide) (by decide) ?_
  refine ok_gC rfl ?_
  refine ok_zb (wc_has hN hC hR) (fun v46 σ47 hv46 => ?_)
  have hC : CI σ47 := hv46.1
  have hR : RI σ47 := hv46.2
  refine ok_aX hx hL (by decide) (by decide) ?_
  refine ok_aX hx hL (by decide) (by decide) ?_
  refine ok_gC rfl ?_
  refine ok_zb (wr_has hN hC hR) (fun v50 σ51 hv50 => ?_)
  have hC : CI σ51 := hv50.1
  have hR : RI σ51 := hv50.2
  exact ih σ51 hC hR

theorem lc_437 {P : Int32 × zS → Prop} {N L : Nat} {xs : Nat → Int32} {again : Int32 × zS → Option (Int32 × zS)} {x3 : Int32} {σ : zS} (hN : 1048576 ≤ N) (hx : 0 ≤ x3.toInt ∧ x3.toInt + 6 ≤ (L : Int)) (hL : L ≤ 384) (hC : CI σ) (hR : RI σ) (ih : ∀ σ', CI σ' → RI σ' → Ok (again (x3 + 6, σ')) P) : Ok (J_L_law_437 N L xs again x3 σ) P := by
  rw [J_L_law_437.eq_1]
  refine ok_aX hx hL (by decide) (by decide) ?_
  refine ok_aX hx hL (by decide) (by decide) ?_
  refine ok_aX hx hL (by decide) (by decide) ?_
  refine ok_aX hx hL (by decide) (by decide) ?_
  refine ok_gC rfl ?_
  refine ok_zb (wc_makes hN hC hR) (fun v56 σ57 hv56 => ?_)
  have hC : CI σ57 := hv56.1
  have hR : RI σ57 := hv56.2
  refine ok_aX hx hL (by decide) (by decide) ?_
  refine ok_aX hx hL (by decide) (by decide) ?_
  refine ok_aX hx hL (by decide) (by decide) ?_
  refine ok_aX hx hL (by decide) (by decide) ?_
  refine ok_gC rfl ?_
  refine ok_zb (wr_makes hN hC hR) (fun v62 σ63 hv62 => ?_)
  have hC : CI σ63 := hv62.1
  have hR : RI σ63 := hv62.2
  exact ih σ63 hC hR

theorem lc_490 {P : Int32 × zS → Prop} {N L : Nat} {xs : Nat → Int32} {again : Int32 × zS → Option (Int32 × zS)} {x3 : Int32} {σ : zS} (hN : 1048576 ≤ N) (hx : 0 ≤ x3.toInt ∧ x3.toInt + 6 ≤ (L : Int)) (hL : L ≤ 384) (hC : CI σ) (hR : RI σ) (ih : ∀ σ', CI σ' → RI σ' → Ok (again (x3 + 6, σ')) P) : Ok (J_L_law_490 N L xs again x3 σ) P := by
  rw [J_L_law_490.eq_1]
  refine ok_aX hx hL (by decide) (by decide) ?_
  refine ok_aX hx hL (by decide) (by decide) ?_
  refine ok_aX hx hL (by decide) (by decide) ?_
  refine ok_gC rfl ?_
  refine ok_zb (wc_turn hN hC hR) (fun v67 σ68 hv67 => ?_)
  have hC : CI σ68 := hv67.1
  have hR : RI σ68 := hv67.2
  refine ok_aX hx hL (by decide) (by decide) ?_
  refine ok_aX hx hL (by decide) (by decide) ?_
  refine ok_aX hx hL (by decide) (by decide) ?_
  refine ok_gC rfl ?_
  refine ok_zb (wr_turn hN hC hR) (fun v72 σ73 hv72 => ?_)
  have hC : CI σ73 := hv72.1
  have hR : RI σ73 := hv72.2
  exact ih σ73 hC hR

theorem lc_557 {P : Int32 × zS → Prop} {N L : Nat} {xs : Nat → Int32} {again : Int32 × zS → Option (Int32 × zS)} {x3 : Int32} {y0 : Int32} {y1 : Int32} {y2 : Int32} {σ : zS} (hN : 1048576 ≤ N) (hx : 0 ≤ x3.toInt ∧ x3.toInt + 6 ≤ (L : Int)) (hL : L ≤ 384) (hC : CI σ) (hR : RI σ) (ih : ∀ σ', CI σ' → RI σ' → Ok (again (x3 + 6, σ')) P) : Ok (J_L_law_557 N L xs again x3 y0 y1 y2 0 σ) P := by
  rw [J_L_law_557.eq_1]
  refine ok_gC rfl ?_
  refine ok_zb (wc_sets hN hC hR) (fun v77 σ78 hv77 => ?_)
  have hC : CI σ78 := hv77.1
  have hR : RI σ78 := hv77.2
  refine ok_aX hx hL (by decide) (by decide) ?_
  refine ok_aX hx hL (by decide) (by decide) ?_
  refine ok_aX hx hL (by decide) (by decide) ?_
  refine ok_if (fun _ => ?_) (fun _ => ?_)
  · refine ok_gC rfl ?_
    refine ok_zb (wr_sets hN hC hR) (fun v82 σ83 hv82 => ?_)
    have hC : CI σ83 := hv82.1
    have hR : RI σ83 := hv82.2
    exact ih σ83 hC hR
  · refine ok_gC rfl ?_
    refine ok_zb (wr_sets hN hC hR) (fun v84 σ85 hv84 => ?_)
    have hC : CI σ85 := hv84.1
    have hR : RI σ85 := hv84.2
    exact ih σ85 hC hR

theorem lc_533 {P : Int32 × zS → Prop} {N L : Nat} {xs : Nat → Int32} {again : Int32 × zS → Option (Int32 × zS)} {x3 : Int32} {σ : zS} (hN : 1048576 ≤ N) (hx : 0 ≤ x3.toInt ∧ x3.toInt + 6 ≤ (L : Int)) (hL : L ≤ 384) (hC : CI σ) (hR : RI σ) (ih : ∀ σ', CI σ' → RI σ' → Ok (again (x3 + 6, σ')) P) : Ok (J_L_law_533 N L xs again x3 σ) P := by
  rw [J_L_law_533.eq_1]
  refine ok_aX hx hL (by decide) (by decide) ?_
  refine ok_aX hx hL (by decide) (by decide) ?_
  refine ok_aX hx hL (by decide) (by decide) ?_
  refine ok_if (fun _ => ?_) (fun _ => ?_)
  · exact lc_557 hN hx hL hC hR ih
  · exact lc_557 hN hx hL hC hR ih

theorem lc_592 {P : Int32 × zS → Prop} {N L : Nat} {xs : Nat → Int32} {again : Int32 × zS → Option (Int32 × zS)} {x3 : Int32} {σ : zS} (hN : 1048576 ≤ N) (hx : 0 ≤ x3.toInt ∧ x3.toInt + 6 ≤ (L : Int)) (hL : L ≤ 384) (hC : CI σ) (hR : RI σ) (ih : ∀ σ', CI σ' → RI σ' → Ok (again (x3 + 6, σ')) P) : Ok (J_L_law_592 N L xs again x3 σ) P := by
  rw [J_L_law_592.eq_1]
  refine ok_aX hx hL (by decide) (by decide) ?_
  refine ok_aX hx hL (by decide) (by decide) ?_
  refine ok_aX hx hL (by decide) (by decide) ?_
  refine ok_gC rfl ?_
  refine ok_zb (wc_change hN hC hR) (fun v89 σ90 hv89 => ?_)
  have hC : CI σ90 := hv89.1
  have hR : RI σ90 := hv89.2
  refine ok_aX hx hL (by decide) (by decide) ?_
  refine ok_aX hx hL (by decide) (by decide) ?_
  refine ok_aX hx hL (by decide) (by decide) ?_
  refine ok_gC rfl ?_
  refine ok_zb (wr_change hN hC hR) (fun v94 σ95 hv94 => ?_)
  have hC : CI σ95 := hv94.1
  have hR : RI σ95 := hv94.2
  exact ih σ95 hC hR

theorem lc_664 {P : Int32 × zS → Prop} {N L : Nat} {xs : Nat → Int32} {again : Int32 × zS → Option (Int32 × zS)} {x3 : Int32} {y0 : Int32} {y1 : Int32} {y2 : Int32} {y3 : Int32} {σ : zS} (hN : 1048576 ≤ N) (hx : 0 ≤ x3.toInt ∧ x3.toInt + 6 ≤ (L : Int)) (hL : L ≤ 384) (hC : CI σ) (hR : RI σ) (ih : ∀ σ', CI σ' → RI σ' → Ok (again (x3 + 6, σ')) P) : Ok (J_L_law_664 N L xs again x3 y0 y1 y2 y3 0 σ) P := by
  rw [J_L_law_664.eq_1]
  refine ok_gC rfl ?_
  refine ok_zb (wc_half hN hC hR) (fun v100 σ101 hv100 => ?_)
  have hC : CI σ101 := hv100.1
  have hR : RI σ101 := hv100.2
  refine ok_aX hx hL (by decide) (by decide) ?_
  refine ok_aX hx hL (by decide) (by decide) ?_
  refine ok_aX hx hL (by decide) (by decide) ?_
  refine ok_aX hx hL (by decide) (by decide) ?_
  refine ok_if (fun _ => ?_) (fun _ => ?_)
  · refine ok_gC rfl ?_
    refine ok_zb (wr_half hN hC hR) (fun v106 σ107 hv106 => ?_)
    have hC : CI σ107 := hv106.1
    have hR : RI σ107 := hv106.2
    exact ih σ107 hC hR
  · refine ok_gC rfl ?_
    refine ok_zb (wr_half hN hC hR) (fun v108 σ109 hv108 => ?_)
    have hC : CI σ109 := hv108.1
    have hR : RI σ109 := hv108.2
    exact ih σ109 hC hR

theorem lc_635 {P : Int32 × zS → Prop} {N L : Nat} {xs : Nat → Int32} {again : Int32 × zS → Option (Int32 × zS)} {x3 : Int32} {σ : zS} (hN : 1048576 ≤ N) (hx : 0 ≤ x3.toInt ∧ x3.toInt + 6 ≤ (L : Int)) (hL : L ≤ 384) (hC : CI σ) (hR : RI σ) (ih : ∀ σ', CI σ' → RI σ' → Ok (again (x3 + 6, σ')) P) : Ok (J_L_law_635 N L xs again x3 σ) P := by
  rw [J_L_law_635.eq_1]
  refine ok_aX hx hL (by decide) (by decide) ?_
  refine ok_aX hx hL (by decide) (by decide) ?_
  refine ok_aX hx hL (by decide) (by decide) ?_
  refine ok_aX hx hL (by decide) (by decide) ?_
  refine ok_if (fun _ => ?_) (fun _ => ?_)
  · exact lc_664 hN hx hL hC hR ih
  · exact lc_664 hN hx hL hC hR ih

theorem lc_704 {P : Int32 × zS → Prop} {N L : Nat} {xs : Nat → Int32} {again : Int32 × zS → Option (Int32 × zS)} {x3 : Int32} {σ : zS} (hN : 1048576 ≤ N) (hx : 0 ≤ x3.toInt ∧ x3.toInt + 6 ≤ (L : Int)) (hL : L ≤ 384) (hC : CI σ) (hR : RI σ) (ih : ∀ σ', CI σ' → RI σ' → Ok (again (x3 + 6, σ')) P) : Ok (J_L_law_704 N L xs again x3 σ) P := by
  rw [J_L_law_704.eq_1]
  refine ok_aX hx hL (by decide) (by decide) ?_
  refine ok_aX hx hL (by decide) (by decide) ?_
  refine ok_aX hx hL (by decide) (by decide) ?_
  refine ok_gC rfl ?_
  refine ok_zb (wc_level hN hC hR) (fun v113 σ114 hv113 => ?_)
  have hC : CI σ114 := hv113.1
  have hR : RI σ114 := hv113.2
  refine ok_aX hx hL (by decide) (by decide) ?_
  refine ok_aX hx hL (by decide) (by decide) ?_
  refine ok_aX hx hL (by decide) (by decide) ?_
  refine ok_gC rfl ?_
  refine ok_zb (wr_level hN hC hR) (fun v118 σ119 hv118 => ?_)
  have hC : CI σ119 := hv118.1
  have hR : RI σ119 := hv118.2
  exact ih σ119 hC hR

theorem lc_747 {P : Int32 × zS → Prop} {N L : Nat} {xs : Nat → Int32} {again : Int32 × zS → Option (Int32 × zS)} {x3 : Int32} {σ : zS} (hN : 1048576 ≤ N) (hx : 0 ≤ x3.toInt ∧ x3.toInt + 6 ≤ (L : Int)) (hL : L ≤ 384) (hC : CI σ) (hR : RI σ) (ih : ∀ σ', CI σ' → RI σ' → Ok (again (x3 + 6, σ')) P) : Ok (J_L_law_747 N L xs again x3 σ) P := by
  rw [J_L_law_747.eq_1]
  refine ok_aX hx hL (by decide) (by decide) ?_
  refine ok_aX hx hL (by decide) (by decide) ?_
  refine ok_gC rfl ?_
  refine ok_zb (wc_nth hN hC hR) (fun v122 σ123 hv122 => ?_)
  have hC : CI σ123 := hv122.1
  have hR : RI σ123 := hv122.2
  refine ok_aX hx hL (by decide) (by decide) ?_
  refine ok_aX hx hL (by decide) (by decide) ?_
  refine ok_gC rfl ?_
  refine ok_zb (wr_nth hN hC hR) (fun v126 σ127 hv126 => ?_)
  have hC : CI σ127 := hv126.1
  have hR : RI σ127 := hv126.2
  exact ih σ127 hC hR

theorem lc_780 {P : Int32 × zS → Prop} {N L : Nat} {xs : Nat → Int32} {again : Int32 × zS → Option (Int32 × zS)} {x3 : Int32} {σ : zS} (hN : 1048576 ≤ N) (hx : 0 ≤ x3.toInt ∧ x3.toInt + 6 ≤ (L : Int)) (hL : L ≤ 384) (hC : CI σ) (hR : RI σ) (ih : ∀ σ', CI σ' → RI σ' → Ok (again (x3 + 6, σ')) P) : Ok (J_L_law_780 N L xs again x3 σ) P := by
  rw [J_L_law_780.eq_1]
  refine ok_aX hx hL (by decide) (by decide) ?_
  refine ok_aX hx hL (by decide) (by decide) ?_
  refine ok_gC rfl ?_
  refine ok_zb (wc_rank hN hC hR) (fun v130 σ131 hv130 => ?_)
  have hC : CI σ131 := hv130.1
  have hR : RI σ131 := hv130.2
  refine ok_aX hx hL (by decide) (by decide) ?_
  refine ok_aX hx hL (by decide) (by decide) ?_
  refine ok_gC rfl ?_
  refine ok_zb (wr_rank_ hN hC hR) (fun v134 σ135 hv134 => ?_)
  have hC : CI σ135 := hv134.1
  have hR : RI σ135 := hv134.2
  exact ih σ135 hC hR

theorem lc_813 {P : Int32 × zS → Prop} {N L : Nat} {xs : Nat → Int32} {again : Int32 × zS → Option (Int32 × zS)} {x3 : Int32} {σ : zS} (hN : 1048576 ≤ N) (hx : 0 ≤ x3.toInt ∧ x3.toInt + 6 ≤ (L : Int)) (hL : L ≤ 384) (hC : CI σ) (hR : RI σ) (ih : ∀ σ', CI σ' → RI σ' → Ok (again (x3 + 6, σ')) P) : Ok (J_L_law_813 N L xs again x3 σ) P := by
  rw [J_L_law_813.eq_1]
  refine ok_aX hx hL (by decide) (by decide) ?_
  refine ok_aX hx hL (by decide) (by decide) ?_
  refine ok_gC rfl ?_
  refine ok_zb (wc_light hN hC hR) (fun v138 σ139 hv138 => ?_)
  have hC : CI σ139 := hv138.1
  have hR : RI σ139 := hv138.2
  refine ok_aX hx hL (by decide) (by decide) ?_
  refine ok_aX hx hL (by decide) (by decide) ?_
  refine ok_gC rfl ?_
  refine ok_zb (wr_light hN hC hR) (fun v142 σ143 hv142 => ?_)
  have hC : CI σ143 := hv142.1
  have hR : RI σ143 := hv142.2
  exact ih σ143 hC hR

theorem lc_846 {P : Int32 × zS → Prop} {N L : Nat} {xs : Nat → Int32} {again : Int32 × zS → Option (Int32 × zS)} {x3 : Int32} {σ : zS} (hN : 1048576 ≤ N) (hx : 0 ≤ x3.toInt ∧ x3.toInt + 6 ≤ (L : Int)) (hL : L ≤ 384) (hC : CI σ) (hR : RI σ) (ih : ∀ σ', CI σ' → RI σ' → Ok (again (x3 + 6, σ')) P) : Ok (J_L_law_846 N L xs again x3 σ) P := by
  rw [J_L_law_846.eq_1]
  refine ok_aX hx hL (by decide) (by decide) ?_
  refine ok_gC rfl ?_
  refine ok_zb (wc_weight hN hC hR) (fun v145 σ146 hv145 => ?_)
  have hC : CI σ146 := hv145.1
  have hR : RI σ146 := hv145.2
  refine ok_aX hx hL (by decide) (by decide) ?_
  refine ok_gC rfl ?_
  refine ok_zb (wr_weight hN hC hR) (fun v148 σ149 hv148 => ?_)
  have hC : CI σ149 := hv148.1
  have hR : RI σ149 := hv148.2
  exact ih σ149 hC hR

theorem lc_869 {P : Int32 × zS → Prop} {N L : Nat} {xs : Nat → Int32} {again : Int32 × zS → Option (Int32 × zS)} {x3 : Int32} {σ : zS} (hN : 1048576 ≤ N) (hx : 0 ≤ x3.toInt ∧ x3.toInt + 6 ≤ (L : Int)) (hL : L ≤ 384) (hC : CI σ) (hR : RI σ) (ih : ∀ σ', CI σ' → RI σ' → Ok (again (x3 + 6, σ')) P) : Ok (J_L_law_869 N L xs again x3 σ) P := by
  rw [J_L_law_869.eq_1]
  refine ok_aX hx hL (by decide) (by decide) ?_
  refine ok_aX hx hL (by decide) (by decide) ?_
  refine ok_gC rfl ?_
  refine ok_zb (wc_weigh hN hC hR) (fun v152 σ153 hv152 => ?_)
  have hC : CI σ153 := hv152.1
  have hR : RI σ153 := hv152.2
  refine ok_aX hx hL (by decide) (by decide) ?_
  refine ok_aX hx hL (by decide) (by decide) ?_
  refine ok_gC rfl ?_
  refine ok_zb (wr_weigh hN hC hR) (fun v156 σ157 hv156 => ?_)
  have hC : CI σ157 := hv156.1
  have hR : RI σ157 := hv156.2
  exact ih σ157 hC hR

theorem lc_902 {P : Int32 × zS → Prop} {N L : Nat} {xs : Nat → Int32} {again : Int32 × zS → Option (Int32 × zS)} {x3 : Int32} {σ : zS} (hN : 1048576 ≤ N) (hx : 0 ≤ x3.toInt ∧ x3.toInt + 6 ≤ (L : Int)) (hL : L ≤ 384) (hC : CI σ) (hR : RI σ) (ih : ∀ σ', CI σ' → RI σ' → Ok (again (x3 + 6, σ')) P) : Ok (J_L_law_902 N L xs again x3 σ) P := by
  rw [J_L_law_902.eq_1]
  refine ok_aX hx hL (by decide) (by decide) ?_
  refine ok_aX hx hL (by decide) (by decide) ?_
  refine ok_gC rfl ?_
  refine ok_zb (wc_weighs hN hC hR) (fun v160 σ161 hv160 => ?_)
  have hC : CI σ161 := hv160.1
  have hR : RI σ161 := hv160.2
  refine ok_aX hx hL (by decide) (by decide) ?_
  refine ok_aX hx hL (by decide) (by decide) ?_
  refine ok_gC rfl ?_
  refine ok_zb (wr_weighs hN hC hR) (fun v164 σ165 hv164 => ?_)
  have hC : CI σ165 := hv164.1
  have hR : RI σ165 := hv164.2
  exact ih σ165 hC hR

theorem lc_935 {P : Int32 × zS → Prop} {N L : Nat} {xs : Nat → Int32} {again : Int32 × zS → Option (Int32 × zS)} {x3 : Int32} {σ : zS} (hN : 1048576 ≤ N) (hx : 0 ≤ x3.toInt ∧ x3.toInt + 6 ≤ (L : Int)) (hL : L ≤ 384) (hC : CI σ) (hR : RI σ) (ih : ∀ σ', CI σ' → RI σ' → Ok (again (x3 + 6, σ')) P) : Ok (J_L_law_935 N L xs again x3 σ) P := by
  rw [J_L_law_935.eq_1]
  refine ok_aX hx hL (by decide) (by decide) ?_
  refine ok_aX hx hL (by decide) (by decide) ?_
  refine ok_gC rfl ?_
  refine ok_zb (wc_each hN hC hR) (fun v168 σ169 hv168 => ?_)
  have hC : CI σ169 := hv168.1
  have hR : RI σ169 := hv168.2
  refine ok_aX hx hL (by decide) (by decide) ?_
  refine ok_aX hx hL (by decide) (by decide) ?_
  refine ok_gC rfl ?_
  refine ok_zb (wr_each hN hC hR) (fun v172 σ173 hv172 => ?_)
  have hC : CI σ173 := hv172.1
  have hR : RI σ173 := hv172.2
  exact ih σ173 hC hR

theorem lc_968 {P : Int32 × zS → Prop} {N L : Nat} {xs : Nat → Int32} {again : Int32 × zS → Option (Int32 × zS)} {x3 : Int32} {σ : zS} (hN : 1048576 ≤ N) (hx : 0 ≤ x3.toInt ∧ x3.toInt + 6 ≤ (L : Int)) (hL : L ≤ 384) (hC : CI σ) (hR : RI σ) (ih : ∀ σ', CI σ' → RI σ' → Ok (again (x3 + 6, σ')) P) : Ok (J_L_law_968 N L xs again x3 σ) P := by
  rw [J_L_law_968.eq_1]
  refine ok_aX hx hL (by decide) (by decide) ?_
  refine ok_aX hx hL (by decide) (by decide) ?_
  refine ok_gC rfl ?_
  refine ok_zb (wc_names hN hC hR) (fun v176 σ177 hv176 => ?_)
  have hC : CI σ177 := hv176.1
  have hR : RI σ177 := hv176.2
  refine ok_aX hx hL (by decide) (by decide) ?_
  refine ok_aX hx hL (by decide) (by decide) ?_
  refine ok_gC rfl ?_
  refine ok_zb (wr_names hN hC hR) (fun v180 σ181 hv180 => ?_)
  have hC : CI σ181 := hv180.1
  have hR : RI σ181 := hv180.2
  exact ih σ181 hC hR

theorem lc_1001 {P : Int32 × zS → Prop} {N L : Nat} {xs : Nat → Int32} {again : Int32 × zS → Option (Int32 × zS)} {x3 : Int32} {σ : zS} (hN : 1048576 ≤ N) (hx : 0 ≤ x3.toInt ∧ x3.toInt + 6 ≤ (L : Int)) (hL : L ≤ 384) (hC : CI σ) (hR : RI σ) (ih : ∀ σ', CI σ' → RI σ' → Ok (again (x3 + 6, σ')) P) : Ok (J_L_law_1001 N L xs again x3 σ) P := by
  rw [J_L_law_1001.eq_1]
  refine ok_aX hx hL (by decide) (by decide) ?_
  refine ok_aX hx hL (by decide) (by decide) ?_
  refine ok_gC rfl ?_
  refine ok_zb (wc_draw hN hC hR) (fun v184 σ185 hv184 => ?_)
  have hC : CI σ185 := hv184.1
  have hR : RI σ185 := hv184.2
  refine ok_aX hx hL (by decide) (by decide) ?_
  refine ok_aX hx hL (by decide) (by decide) ?_
  refine ok_gC rfl ?_
  refine ok_zb (wr_draw hN hC hR) (fun v188 σ189 hv188 => ?_)
  have hC : CI σ189 := hv188.1
  have hR : RI σ189 := hv188.2
  exact ih σ189 hC hR

theorem lc_1034 {P : Int32 × zS → Prop} {N L : Nat} {xs : Nat → Int32} {again : Int32 × zS → Option (Int32 × zS)} {x3 : Int32} {σ : zS} (hN : 1048576 ≤ N) (hx : 0 ≤ x3.toInt ∧ x3.toInt + 6 ≤ (L : Int)) (hL : L ≤ 384) (hC : CI σ) (hR : RI σ) (ih : ∀ σ', CI σ' → RI σ' → Ok (again (x3 + 6, σ')) P) : Ok (J_L_law_1034 N L xs again x3 σ) P := by
  rw [J_L_law_1034.eq_1]
  refine ok_aX hx hL (by decide) (by decide) ?_
  refine ok_aX hx hL (by decide) (by decide) ?_
  refine ok_gC rfl ?_
  refine ok_zb (wc_alike hN hC hR) (fun v192 σ193 hv192 => ?_)
  have hC : CI σ193 := hv192.1
  have hR : RI σ193 := hv192.2
  refine ok_aX hx hL (by decide) (by decide) ?_
  refine ok_aX hx hL (by decide) (by decide) ?_
  refine ok_gC rfl ?_
  refine ok_zb (wr_alike hN hC hR) (fun v196 σ197 hv196 => ?_)
  have hC : CI σ197 := hv196.1
  have hR : RI σ197 := hv196.2
  exact ih σ197 hC hR

theorem lc_1067 {P : Int32 × zS → Prop} {N L : Nat} {xs : Nat → Int32} {again : Int32 × zS → Option (Int32 × zS)} {x3 : Int32} {σ : zS} (hN : 1048576 ≤ N) (hx : 0 ≤ x3.toInt ∧ x3.toInt + 6 ≤ (L : Int)) (hL : L ≤ 384) (hC : CI σ) (hR : RI σ) (ih : ∀ σ', CI σ' → RI σ' → Ok (again (x3 + 6, σ')) P) : Ok (J_L_law_1067 N L xs again x3 σ) P := by
  rw [J_L_law_1067.eq_1]
  refine ok_aX hx hL (by decide) (by decide) ?_
  refine ok_aX hx hL (by decide) (by decide) ?_
  refine ok_gC rfl ?_
  refine ok_zb (wc_differ hN hC hR) (fun v200 σ201 hv200 => ?_)
  have hC : CI σ201 := hv200.1
  have hR : RI σ201 := hv200.2
  refine ok_aX hx hL (by decide) (by decide) ?_
  refine ok_aX hx hL (by decide) (by decide) ?_
  refine ok_gC rfl ?_
  refine ok_zb (wr_differ hN hC hR) (fun v204 σ205 hv204 => ?_)
  have hC : CI σ205 := hv204.1
  have hR : RI σ205 := hv204.2
  exact ih σ205 hC hR

theorem lc_1100 {P : Int32 × zS → Prop} {N L : Nat} {xs : Nat → Int32} {again : Int32 × zS → Option (Int32 × zS)} {x3 : Int32} {σ : zS} (hN : 1048576 ≤ N) (hx : 0 ≤ x3.toInt ∧ x3.toInt + 6 ≤ (L : Int)) (hL : L ≤ 384) (hC : CI σ) (hR : RI σ) (ih : ∀ σ', CI σ' → RI σ' → Ok (again (x3 + 6, σ')) P) : Ok (J_L_law_1100 N L xs again x3 σ) P := by
  rw [J_L_law_1100.eq_1]
  refine ok_aX hx hL (by decide) (by decide) ?_
  refine ok_aX hx hL (by decide) (by decide) ?_
  refine ok_gC rfl ?_
  refine ok_zb (wc_within hN hC hR) (fun v208 σ209 hv208 => ?_)
  have hC : CI σ209 := hv208.1
  have hR : RI σ209 := hv208.2
  refine ok_aX hx hL (by decide) (by decide) ?_
  refine ok_aX hx hL (by decide) (by decide) ?_
  refine ok_gC rfl ?_
  refine ok_zb (wr_within hN hC hR) (fun v212 σ213 hv212 => ?_)
  have hC : CI σ213 := hv212.1
  have hR : RI σ213 := hv212.2
  exact ih σ213 hC hR

theorem lc_1133 {P : Int32 × zS → Prop} {N L : Nat} {xs : Nat → Int32} {again : Int32 × zS → Option (Int32 × zS)} {x3 : Int32} {σ : zS} (hN : 1048576 ≤ N) (hx : 0 ≤ x3.toInt ∧ x3.toInt + 6 ≤ (L : Int)) (hL : L ≤ 384) (hC : CI σ) (hR : RI σ) (ih : ∀ σ', CI σ' → RI σ' → Ok (again (x3 + 6, σ')) P) : Ok (J_L_law_1133 N L xs again x3 σ) P := by
  rw [J_L_law_1133.eq_1]
  refine ok_aX hx hL (by decide) (by decide) ?_
  refine ok_aX hx hL (by decide) (by decide) ?_
  refine ok_gC rfl ?_
  refine ok_zb (wc_dual hN hC hR) (fun v216 σ217 hv216 => ?_)
  have hC : CI σ217 := hv216.1
  have hR : RI σ217 := hv216.2
  refine ok_aX hx hL (by decide) (by decide) ?_
  refine ok_aX hx hL (by decide) (by decide) ?_
  refine ok_gC rfl ?_
  refine ok_zb (wr_dual hN hC hR) (fun v220 σ221 hv220 => ?_)
  have hC : CI σ221 := hv220.1
  have hR : RI σ221 := hv220.2
  exact ih σ221 hC hR

theorem lc_1166 {P : Int32 × zS → Prop} {N L : Nat} {xs : Nat → Int32} {again : Int32 × zS → Option (Int32 × zS)} {x3 : Int32} {σ : zS} (hN : 1048576 ≤ N) (hx : 0 ≤ x3.toInt ∧ x3.toInt + 6 ≤ (L : Int)) (hL : L ≤ 384) (hC : CI σ) (hR : RI σ) (ih : ∀ σ', CI σ' → RI σ' → Ok (again (x3 + 6, σ')) P) : Ok (J_L_law_1166 N L xs again x3 σ) P := by
  rw [J_L_law_1166.eq_1]
  refine ok_aX hx hL (by decide) (by decide) ?_
  refine ok_aX hx hL (by decide) (by decide) ?_
  refine ok_gC rfl ?_
  refine ok_zb (wc_apart hN hC hR) (fun v224 σ225 hv224 => ?_)
  have hC : CI σ225 := hv224.1
  have hR : RI σ225 := hv224.2
  refine ok_aX hx hL (by decide) (by decide) ?_
  refine ok_aX hx hL (by decide) (by decide) ?_
  refine ok_gC rfl ?_
  refine ok_zb (wr_apart hN hC hR) (fun v228 σ229 hv228 => ?_)
  have hC : CI σ229 := hv228.1
  have hR : RI σ229 := hv228.2
  exact ih σ229 hC hR

theorem lc_1199 {P : Int32 × zS → Prop} {N L : Nat} {xs : Nat → Int32} {again : Int32 × zS → Option (Int32 × zS)} {x3 : Int32} {σ : zS} (hN : 1048576 ≤ N) (hx : 0 ≤ x3.toInt ∧ x3.toInt + 6 ≤ (L : Int)) (hL : L ≤ 384) (hC : CI σ) (hR : RI σ) (ih : ∀ σ', CI σ' → RI σ' → Ok (again (x3 + 6, σ')) P) : Ok (J_L_law_1199 N L xs again x3 σ) P := by
  rw [J_L_law_1199.eq_1]
  refine ok_aX hx hL (by decide) (by decide) ?_
  refine ok_aX hx hL (by decide) (by decide) ?_
  refine ok_gC rfl ?_
  refine ok_zb (wc_packs hN hC hR) (fun v232 σ233 hv232 => ?_)
  have hC : CI σ233 := hv232.1
  have hR : RI σ233 := hv232.2
  refine ok_aX hx hL (by decide) (by decide) ?_
  refine ok_aX hx hL (by decide) (by decide) ?_
  refine ok_gC rfl ?_
  refine ok_zb (wr_packs hN hC hR) (fun v236 σ237 hv236 => ?_)
  have hC : CI σ237 := hv236.1
  have hR : RI σ237 := hv236.2
  exact ih σ237 hC hR

theorem lc_1232 {P : Int32 × zS → Prop} {N L : Nat} {xs : Nat → Int32} {again : Int32 × zS → Option (Int32 × zS)} {x3 : Int32} {σ : zS} (hN : 1048576 ≤ N) (hx : 0 ≤ x3.toInt ∧ x3.toInt + 6 ≤ (L : Int)) (hL : L ≤ 384) (hC : CI σ) (hR : RI σ) (ih : ∀ σ', CI σ' → RI σ' → Ok (again (x3 + 6, σ')) P) : Ok (J_L_law_1232 N L xs again x3 σ) P := by
  rw [J_L_law_1232.eq_1]
  refine ok_aX hx hL (by decide) (by decide) ?_
  refine ok_gC rfl ?_
  refine ok_zb (wc_nodes hN hC hR) (fun v239 σ240 hv239 => ?_)
  have hC : CI σ240 := hv239.1
  have hR : RI σ240 := hv239.2
  refine ok_aX hx hL (by decide) (by decide) ?_
  refine ok_gC rfl ?_
  refine ok_zb (wr_nodes hN hC hR) (fun v242 σ243 hv242 => ?_)
  have hC : CI σ243 := hv242.1
  have hR : RI σ243 := hv242.2
  exact ih σ243 hC hR

theorem lc_1255 {P : Int32 × zS → Prop} {N L : Nat} {xs : Nat → Int32} {again : Int32 × zS → Option (Int32 × zS)} {x3 : Int32} {σ : zS} (hN : 1048576 ≤ N) (hx : 0 ≤ x3.toInt ∧ x3.toInt + 6 ≤ (L : Int)) (hL : L ≤ 384) (hC : CI σ) (hR : RI σ) (ih : ∀ σ', CI σ' → RI σ' → Ok (again (x3 + 6, σ')) P) : Ok (J_L_law_1255 N L xs again x3 σ) P := by
  rw [J_L_law_1255.eq_1]
  refine ok_gC rfl ?_
  refine ok_zb (wc_net hN hC hR) (fun v244 σ245 hv244 => ?_)
  have hC : CI σ245 := hv244.1
  have hR : RI σ245 := hv244.2
  refine ok_gC rfl ?_
  refine ok_zb (wr_net hN hC hR) (fun v246 σ247 hv246 => ?_)
  have hC : CI σ247 := hv246.1
  have hR : RI σ247 := hv246.2
  exact ih σ247 hC hR

theorem lc_1268 {P : Int32 × zS → Prop} {N L : Nat} {xs : Nat → Int32} {again : Int32 × zS → Option (Int32 × zS)} {x3 : Int32} {σ : zS} (hN : 1048576 ≤ N) (hx : 0 ≤ x3.toInt ∧ x3.toInt + 6 ≤ (L : Int)) (hL : L ≤ 384) (hC : CI σ) (hR : RI σ) (ih : ∀ σ', CI σ' → RI σ' → Ok (again (x3 + 6, σ')) P) : Ok (J_L_law_1268 N L xs again x3 σ) P := by
  rw [J_L_law_1268.eq_1]
  refine ok_aX hx hL (by decide) (by decide) ?_
  refine ok_aX hx hL (by decide) (by decide) ?_
  refine ok_gC rfl ?_
  refine ok_zb (wc_wide hN hC hR) (fun v250 σ251 hv250 => ?_)
  have hC : CI σ251 := hv250.1
  have hR : RI σ251 := hv250.2
  refine ok_aX hx hL (by decide) (by decide) ?_
  refine ok_aX hx hL (by decide) (by decide) ?_
  refine ok_gC rfl ?_
  refine ok_zb (wr_wide hN hC hR) (fun v254 σ255 hv254 => ?_)
  have hC : CI σ255 := hv254.1
  have hR : RI σ255 := hv254.2
  exact ih σ255 hC hR

theorem lc_1301 {P : Int32 × zS → Prop} {N L : Nat} {xs : Nat → Int32} {again : Int32 × zS → Option (Int32 × zS)} {x3 : Int32} {σ : zS} (hN : 1048576 ≤ N) (hx : 0 ≤ x3.toInt ∧ x3.toInt + 6 ≤ (L : Int)) (hL : L ≤ 384) (hC : CI σ) (hR : RI σ) (ih : ∀ σ', CI σ' → RI σ' → Ok (again (x3 + 6, σ')) P) : Ok (J_L_law_1301 N L xs again x3 σ) P := by
  rw [J_L_law_1301.eq_1]
  refine ok_aX hx hL (by decide) (by decide) ?_
  refine ok_gC rfl ?_
  refine ok_zb (wc_order hN hC hR) (fun v257 σ258 hv257 => ?_)
  have hC : CI σ258 := hv257.1
  have hR : RI σ258 := hv257.2
  refine ok_aX hx hL (by decide) (by decide) ?_
  refine ok_gC rfl ?_
  refine ok_zb (wr_order hN hC hR) (fun v260 σ261 hv260 => ?_)
  have hC : CI σ261 := hv260.1
  have hR : RI σ261 := hv260.2
  exact ih σ261 hC hR

theorem lc_1324 {P : Int32 × zS → Prop} {N L : Nat} {xs : Nat → Int32} {again : Int32 × zS → Option (Int32 × zS)} {x3 : Int32} {σ : zS} (hN : 1048576 ≤ N) (hx : 0 ≤ x3.toInt ∧ x3.toInt + 6 ≤ (L : Int)) (hL : L ≤ 384) (hC : CI σ) (hR : RI σ) (ih : ∀ σ', CI σ' → RI σ' → Ok (again (x3 + 6, σ')) P) : Ok (J_L_law_1324 N L xs again x3 σ) P := by
  rw [J_L_law_1324.eq_1]
  refine ok_aX hx hL (by decide) (by decide) ?_
  refine ok_gC rfl ?_
  refine ok_zb (wc_swap hN hC hR) (fun v263 σ264 hv263 => ?_)
  have hC : CI σ264 := hv263.1
  have hR : RI σ264 := hv263.2
  refine ok_aX hx hL (by decide) (by decide) ?_
  refine ok_gC rfl ?_
  refine ok_zb (wr_swap hN hC hR) (fun v266 σ267 hv266 => ?_)
  have hC : CI σ267 := hv266.1
  have hR : RI σ267 := hv266.2
  exact ih σ267 hC hR

theorem lc_1347 {P : Int32 × zS → Prop} {N L : Nat} {xs : Nat → Int32} {again : Int32 × zS → Option (Int32 × zS)} {x3 : Int32} {σ : zS} (hN : 1048576 ≤ N) (hx : 0 ≤ x3.toInt ∧ x3.toInt + 6 ≤ (L : Int)) (hL : L ≤ 384) (hC : CI σ) (hR : RI σ) (ih : ∀ σ', CI σ' → RI σ' → Ok (again (x3 + 6, σ')) P) : Ok (J_L_law_1347 N L xs again x3 σ) P := by
  rw [J_L_law_1347.eq_1]
  refine ok_aX hx hL (by decide) (by decide) ?_
  refine ok_aX hx hL (by decide) (by decide) ?_
  refine ok_gC rfl ?_
  refine ok_zb (wc_move hN hC hR) (fun v270 σ271 hv270 => ?_)
  have hC : CI σ271 := hv270.1
  have hR : RI σ271 := hv270.2
  refine ok_aX hx hL (by decide) (by decide) ?_
  refine ok_aX hx hL (by decide) (by decide) ?_
  refine ok_gC rfl ?_
  refine ok_zb (wr_move hN hC hR) (fun v274 σ275 hv274 => ?_)
  have hC : CI σ275 := hv274.1
  have hR : RI σ275 := hv274.2
  exact ih σ275 hC hR

theorem lc_1380 {P : Int32 × zS → Prop} {N L : Nat} {xs : Nat → Int32} {again : Int32 × zS → Option (Int32 × zS)} {x3 : Int32} {σ : zS} (hN : 1048576 ≤ N) (hx : 0 ≤ x3.toInt ∧ x3.toInt + 6 ≤ (L : Int)) (hL : L ≤ 384) (hC : CI σ) (hR : RI σ) (ih : ∀ σ', CI σ' → RI σ' → Ok (again (x3 + 6, σ')) P) : Ok (J_L_law_1380 N L xs again x3 σ) P := by
  rw [J_L_law_1380.eq_1]
  refine ok_aX hx hL (by decide) (by decide) ?_
  refine ok_aX hx hL (by decide) (by decide) ?_
  refine ok_gC rfl ?_
  refine ok_zb (wc_best hN hC hR) (fun v278 σ279 hv278 => ?_)
  have hC : CI σ279 := hv278.1
  have hR : RI σ279 := hv278.2
  refine ok_aX hx hL (by decide) (by decide) ?_
  refine ok_aX hx hL (by decide) (by decide) ?_
  refine ok_gC rfl ?_
  refine ok_zb (wr_best hN hC hR) (fun v282 σ283 hv282 => ?_)
  have hC : CI σ283 := hv282.1
  have hR : RI σ283 := hv282.2
  exact ih σ283 hC hR

theorem lc_1413 {P : Int32 × zS → Prop} {N L : Nat} {xs : Nat → Int32} {again : Int32 × zS → Option (Int32 × zS)} {x3 : Int32} {σ : zS} (hN : 1048576 ≤ N) (hx : 0 ≤ x3.toInt ∧ x3.toInt + 6 ≤ (L : Int)) (hL : L ≤ 384) (hC : CI σ) (hR : RI σ) (ih : ∀ σ', CI σ' → RI σ' → Ok (again (x3 + 6, σ')) P) : Ok (J_L_law_1413 N L xs again x3 σ) P := by
  rw [J_L_law_1413.eq_1]
  refine ok_aX hx hL (by decide) (by decide) ?_
  refine ok_gC rfl ?_
  refine ok_zb (wc_sift hN hC hR) (fun v285 σ286 hv285 => ?_)
  have hC : CI σ286 := hv285.1
  have hR : RI σ286 := hv285.2
  refine ok_aX hx hL (by decide) (by decide) ?_
  refine ok_gC rfl ?_
  refine ok_zb (wr_sift hN hC hR) (fun v288 σ289 hv288 => ?_)
  have hC : CI σ289 := hv288.1
  have hR : RI σ289 := hv288.2
  exact ih σ289 hC hR

theorem lc_1436 {P : Int32 × zS → Prop} {N L : Nat} {xs : Nat → Int32} {again : Int32 × zS → Option (Int32 × zS)} {x3 : Int32} {σ : zS} (hN : 1048576 ≤ N) (hx : 0 ≤ x3.toInt ∧ x3.toInt + 6 ≤ (L : Int)) (hL : L ≤ 384) (hC : CI σ) (hR : RI σ) (ih : ∀ σ', CI σ' → RI σ' → Ok (again (x3 + 6, σ')) P) : Ok (J_L_law_1436 N L xs again x3 σ) P := by
  rw [J_L_law_1436.eq_1]
  refine ok_aX hx hL (by decide) (by decide) ?_
  refine ok_aX hx hL (by decide) (by decide) ?_
  refine ok_aX hx hL (by decide) (by decide) ?_
  refine ok_gC rfl ?_
  refine ok_zb (wc_ways hN hC hR) (fun v293 σ294 hv293 => ?_)
  have hC : CI σ294 := hv293.1
  have hR : RI σ294 := hv293.2
  refine ok_aX hx hL (by decide) (by decide) ?_
  refine ok_aX hx hL (by decide) (by decide) ?_
  refine ok_aX hx hL (by decide) (by decide) ?_
  refine ok_gC rfl ?_
  refine ok_zb (wr_ways hN hC hR) (fun v298 σ299 hv298 => ?_)
  have hC : CI σ299 := hv298.1
  have hR : RI σ299 := hv298.2
  exact ih σ299 hC hR

theorem lc_1479 {P : Int32 × zS → Prop} {N L : Nat} {xs : Nat → Int32} {again : Int32 × zS → Option (Int32 × zS)} {x3 : Int32} {σ : zS} (hN : 1048576 ≤ N) (hx : 0 ≤ x3.toInt ∧ x3.toInt + 6 ≤ (L : Int)) (hL : L ≤ 384) (hC : CI σ) (hR : RI σ) (ih : ∀ σ', CI σ' → RI σ' → Ok (again (x3 + 6, σ')) P) : Ok (J_L_law_1479 N L xs again x3 σ) P := by
  rw [J_L_law_1479.eq_1]
  refine ok_aX hx hL (by decide) (by decide) ?_
  refine ok_aX hx hL (by decide) (by decide) ?_
  refine ok_gC rfl ?_
  refine ok_zb (wc_map hN hC hR) (fun v302 σ303 hv302 => ?_)
  have hC : CI σ303 := hv302.1
  have hR : RI σ303 := hv302.2
  refine ok_aX hx hL (by decide) (by decide) ?_
  refine ok_aX hx hL (by decide) (by decide) ?_
  refine ok_gC rfl ?_
  refine ok_zb (wr_map hN hC hR) (fun v306 σ307 hv306 => ?_)
  have hC : CI σ307 := hv306.1
  have hR : RI σ307 := hv306.2
  exact ih σ307 hC hR

theorem lc_1512 {P : Int32 × zS → Prop} {N L : Nat} {xs : Nat → Int32} {again : Int32 × zS → Option (Int32 × zS)} {x3 : Int32} {σ : zS} (hN : 1048576 ≤ N) (hx : 0 ≤ x3.toInt ∧ x3.toInt + 6 ≤ (L : Int)) (hL : L ≤ 384) (hC : CI σ) (hR : RI σ) (ih : ∀ σ', CI σ' → RI σ' → Ok (again (x3 + 6, σ')) P) : Ok (J_L_law_1512 N L xs again x3 σ) P := by
  rw [J_L_law_1512.eq_1]
  refine ok_aX hx hL (by decide) (by decide) ?_
  refine ok_aX hx hL (by decide) (by decide) ?_
  refine ok_aX hx hL (by decide) (by decide) ?_
  refine ok_gC rfl ?_
  refine ok_zb (wc_cuts hN hC hR) (fun v311 σ312 hv311 => ?_)
  have hC : CI σ312 := hv311.1
  have hR : RI σ312 := hv311.2
  refine ok_aX hx hL (by decide) (by decide) ?_
  refine ok_aX hx hL (by decide) (by decide) ?_
  refine ok_aX hx hL (by decide) (by decide) ?_
  refine ok_gC rfl ?_
  refine ok_zb (wr_cuts hN hC hR) (fun v316 σ317 hv316 => ?_)
  have hC : CI σ317 := hv316.1
  have hR : RI σ317 := hv316.2
  exact ih σ317 hC hR

theorem lc_1555 {P : Int32 × zS → Prop} {N L : Nat} {xs : Nat → Int32} {again : Int32 × zS → Option (Int32 × zS)} {x3 : Int32} {σ : zS} (hN : 1048576 ≤ N) (hx : 0 ≤ x3.toInt ∧ x3.toInt + 6 ≤ (L : Int)) (hL : L ≤ 384) (hC : CI σ) (hR : RI σ) (ih : ∀ σ', CI σ' → RI σ' → Ok (again (x3 + 6, σ')) P) : Ok (J_L_law_1555 N L xs again x3 σ) P := by
  rw [J_L_law_1555.eq_1]
  refine ok_aX hx hL (by decide) (by decide) ?_
  refine ok_aX hx hL (by decide) (by decide) ?_
  refine ok_gC rfl ?_
  refine ok_zb (wc_judge hN hC hR) (fun v320 σ321 hv320 => ?_)
  have hC : CI σ321 := hv320.1
  have hR : RI σ321 := hv320.2
  refine ok_aX hx hL (by decide) (by decide) ?_
  refine ok_aX hx hL (by decide) (by decide) ?_
  refine ok_gC rfl ?_
  refine ok_zb (wr_judge hN hC hR) (fun v324 σ325 hv324 => ?_)
  have hC : CI σ325 := hv324.1
  have hR : RI σ325 := hv324.2
  exact ih σ325 hC hR

theorem lc_1588 {P : Int32 × zS → Prop} {N L : Nat} {xs : Nat → Int32} {again : Int32 × zS → Option (Int32 × zS)} {x3 : Int32} {σ : zS} (hN : 1048576 ≤ N) (hx : 0 ≤ x3.toInt ∧ x3.toInt + 6 ≤ (L : Int)) (hL : L ≤ 384) (hC : CI σ) (hR : RI σ) (ih : ∀ σ', CI σ' → RI σ' → Ok (again (x3 + 6, σ')) P) : Ok (J_L_law_1588 N L xs again x3 σ) P := by
  rw [J_L_law_1588.eq_1]
  refine ok_aX hx hL (by decide) (by decide) ?_
  refine ok_aX hx hL (by decide) (by decide) ?_
  refine ok_gC rfl ?_
  refine ok_zb (wc_takes hN hC hR) (fun v328 σ329 hv328 => ?_)
  have hC : CI σ329 := hv328.1
  have hR : RI σ329 := hv328.2
  refine ok_aX hx hL (by decide) (by decide) ?_
  refine ok_aX hx hL (by decide) (by decide) ?_
  refine ok_gC rfl ?_
  refine ok_zb (wr_takes_ hN hC hR) (fun v332 σ333 hv332 => ?_)
  have hC : CI σ333 := hv332.1
  have hR : RI σ333 := hv332.2
  exact ih σ333 hC hR

theorem lc_1621 {P : Int32 × zS → Prop} {N L : Nat} {xs : Nat → Int32} {again : Int32 × zS → Option (Int32 × zS)} {x3 : Int32} {σ : zS} (hN : 1048576 ≤ N) (hx : 0 ≤ x3.toInt ∧ x3.toInt + 6 ≤ (L : Int)) (hL : L ≤ 384) (hC : CI σ) (hR : RI σ) (ih : ∀ σ', CI σ' → RI σ' → Ok (again (x3 + 6, σ')) P) : Ok (J_L_law_1621 N L xs again x3 σ) P := by
  rw [J_L_law_1621.eq_1]
  refine ok_aX hx hL (by decide) (by decide) ?_
  refine ok_gC rfl ?_
  refine ok_zb (wc_count hN hC hR) (fun v335 σ336 hv335 => ?_)
  have hC : CI σ336 := hv335.1
  have hR : RI σ336 := hv335.2
  refine ok_aX hx hL (by decide) (by decide) ?_
  refine ok_gC rfl ?_
  refine ok_zb (wr_count hN hC hR) (fun v338 σ339 hv338 => ?_)
  have hC : CI σ339 := hv338.1
  have hR : RI σ339 := hv338.2
  exact ih σ339 hC hR

theorem lc_1644 {P : Int32 × zS → Prop} {N L : Nat} {xs : Nat → Int32} {again : Int32 × zS → Option (Int32 × zS)} {x3 : Int32} {σ : zS} (hN : 1048576 ≤ N) (hx : 0 ≤ x3.toInt ∧ x3.toInt + 6 ≤ (L : Int)) (hL : L ≤ 384) (hC : CI σ) (hR : RI σ) (ih : ∀ σ', CI σ' → RI σ' → Ok (again (x3 + 6, σ')) P) : Ok (J_L_law_1644 N L xs again x3 σ) P := by
  rw [J_L_law_1644.eq_1]
  refine ok_aX hx hL (by decide) (by decide) ?_
  refine ok_gC rfl ?_
  refine ok_zb (wc_keep hN hC hR) (fun v341 σ342 hv341 => ?_)
  have ev341 : v341 = _ := hv341.2
  have hC : CI σ342 := hv341.1.1
  have hR : RI σ342 := hv341.1.2
  refine ok_aX hx hL (by decide) (by decide) ?_
  refine ok_gC rfl ?_
  refine ok_zb (wr_keep hN hC hR) (fun v344 σ345 hv344 => ?_)
  have ev344 : v344 = _ := hv344.2
  have hC : CI σ345 := hv344.1.1
  have hR : RI σ345 := hv344.1.2
  refine ok_if (fun _ => ih σ345 hC hR) (fun q => absurd (ev341.trans ev344.symm) q)

theorem lc_1667 {P : Int32 × zS → Prop} {N L : Nat} {xs : Nat → Int32} {again : Int32 × zS → Option (Int32 × zS)} {x3 : Int32} {σ : zS} (hN : 1048576 ≤ N) (hx : 0 ≤ x3.toInt ∧ x3.toInt + 6 ≤ (L : Int)) (hL : L ≤ 384) (hC : CI σ) (hR : RI σ) (ih : ∀ σ', CI σ' → RI σ' → Ok (again (x3 + 6, σ')) P) : Ok (J_L_law_1667 N L xs again x3 σ) P := by
  rw [J_L_law_1667.eq_1]
  refine ok_aX hx hL (by decide) (by decide) ?_
  refine ok_gC rfl ?_
  refine ok_zb (wc_back hN hC hR) (fun v347 σ348 hv347 => ?_)
  have hC : CI σ348 := hv347.1
  have hR : RI σ348 := hv347.2
  refine ok_aX hx hL (by decide) (by decide) ?_
  refine ok_gC rfl ?_
  refine ok_zb (wr_back hN hC hR) (fun v350 σ351 hv350 => ?_)
  have hC : CI σ351 := hv350.1
  have hR : RI σ351 := hv350.2
  exact ih σ351 hC hR

theorem lc_1690 {P : Int32 × zS → Prop} {N L : Nat} {xs : Nat → Int32} {again : Int32 × zS → Option (Int32 × zS)} {x3 : Int32} {σ : zS} (hN : 1048576 ≤ N) (hx : 0 ≤ x3.toInt ∧ x3.toInt + 6 ≤ (L : Int)) (hL : L ≤ 384) (hC : CI σ) (hR : RI σ) (ih : ∀ σ', CI σ' → RI σ' → Ok (again (x3 + 6, σ')) P) : Ok (J_L_law_1690 N L xs again x3 σ) P := by
  rw [J_L_law_1690.eq_1]
  refine ok_aX hx hL (by decide) (by decide) ?_
  refine ok_aX hx hL (by decide) (by decide) ?_
  refine ok_aX hx hL (by decide) (by decide) ?_
  refine ok_gC rfl ?_
  refine ok_zb (wc_row hN hC hR) (fun v355 σ356 hv355 => ?_)
  have hC : CI σ356 := hv355.1
  have hR : RI σ356 := hv355.2
  refine ok_aX hx hL (by decide) (by decide) ?_
  refine ok_aX hx hL (by decide) (by decide) ?_
  refine ok_aX hx hL (by decide) (by decide) ?_
  refine ok_gC rfl ?_
  refine ok_zb (wr_row hN hC hR) (fun v360 σ361 hv360 => ?_)
  have hC : CI σ361 := hv360.1
  have hR : RI σ361 := hv360.2
  exact ih σ361 hC hR

theorem lc_1733 {P : Int32 × zS → Prop} {N L : Nat} {xs : Nat → Int32} {again : Int32 × zS → Option (Int32 × zS)} {x3 : Int32} {σ : zS} (hN : 1048576 ≤ N) (hx : 0 ≤ x3.toInt ∧ x3.toInt + 6 ≤ (L : Int)) (hL : L ≤ 384) (hC : CI σ) (hR : RI σ) (ih : ∀ σ', CI σ' → RI σ' → Ok (again (x3 + 6, σ')) P) : Ok (J_L_law_1733 N L xs again x3 σ) P := by
  rw [J_L_law_1733.eq_1]
  refine ok_aX hx hL (by decide) (by decide) ?_
  refine ok_aX hx hL (by decide) (by decide) ?_
  refine ok_aX hx hL (by decide) (by decide) ?_
  refine ok_aX hx hL (by decide) (by decide) ?_
  refine ok_gC rfl ?_
  refine ok_zb (wc_write hN hC hR) (fun v366 σ367 hv366 => ?_)
  have hC : CI σ367 := hv366.1
  have hR : RI σ367 := hv366.2
  refine ok_aX hx hL (by decide) (by decide) ?_
  refine ok_aX hx hL (by decide) (by decide) ?_
  refine ok_aX hx hL (by decide) (by decide) ?_
  refine ok_aX hx hL (by decide) (by decide) ?_
  refine ok_gC rfl ?_
  refine ok_zb (wr_write hN hC hR) (fun v372 σ373 hv372 => ?_)
  have hC : CI σ373 := hv372.1
  have hR : RI σ373 := hv372.2
  exact ih σ373 hC hR

theorem lc_1806 {P : Int32 × zS → Prop} {N L : Nat} {xs : Nat → Int32} {again : Int32 × zS → Option (Int32 × zS)} {x3 : Int32} {σ : zS} (hN : 1048576 ≤ N) (hx : 0 ≤ x3.toInt ∧ x3.toInt + 6 ≤ (L : Int)) (hL : L ≤ 384) (hC : CI σ) (hR : RI σ) (ih : ∀ σ', CI σ' → RI σ' → Ok (again (x3 + 6, σ')) P) : Ok (J_L_law_1806 N L xs again x3 σ) P := by
  rw [J_L_law_1806.eq_1]
  refine ok_aX hx hL (by decide) (by decide) ?_
  refine ok_aX hx hL (by decide) (by decide) ?_
  refine ok_aX hx hL (by decide) (by decide) ?_
  refine ok_aX hx hL (by decide) (by decide) ?_
  refine ok_aX hx hL (by decide) (by decide) ?_
  refine ok_gC rfl ?_
  refine ok_zb (wc_paste hN hC hR) (fun v379 σ380 hv379 => ?_)
  have hC : CI σ380 := hv379.1
  have hR : RI σ380 := hv379.2
  refine ok_aX hx hL (by decide) (by decide) ?_
  refine ok_aX hx hL (by decide) (by decide) ?_
  refine ok_aX hx hL (by decide) (by decide) ?_
  refine ok_aX hx hL (by decide) (by decide) ?_
  refine ok_aX hx hL (by decide) (by decide) ?_
  refine ok_gC rfl ?_
  refine ok_zb (wr_paste hN hC hR) (fun v386 σ387 hv386 => ?_)
  have hC : CI σ387 := hv386.1
  have hR : RI σ387 := hv386.2
  exact ih σ387 hC hR

set_option maxRecDepth 100000 in
theorem law_ok {N L : Nat} {xs : Nat → Int32} (hN : 1048576 ≤ N) (hL : L ≤ 384) : Ok (f_L_law N L xs zs00) (fun r => r.1 = 1) := by
  have hl : (Int32.ofNat L - 6).toInt = (L : Int) - 6 := by
    rw [ti_sub, ti_ofNat (by omega)]
    simp only [Int32.reduceToInt]
    omega
  rw [f_L_law.eq_1]
  refine ok_lp (fun t : Int32 × zS => (0 ≤ t.1.toInt ∧ t.1.toInt ≤ 400) ∧ CI t.2 ∧ RI t.2) (fun t => (500 - t.1.toInt).toNat) (fun again t hI ih => ?_) N _ ⟨(by decide : 0 ≤ (0 : Int32).toInt ∧ (0 : Int32).toInt ≤ 400), CI_0, RI_0⟩ (by simp only [Int32.reduceToInt]; omega)
  obtain ⟨x3, σ⟩ := t
  obtain ⟨h0, hC, hR⟩ := hI
  have h0 : 0 ≤ x3.toInt ∧ x3.toInt ≤ 400 := h0
  have hC : CI σ := hC
  have hR : RI σ := hR
  rw [F_L_law_18.eq_1]
  refine ok_if (fun _ => ok_some rfl) (fun hc => ?_)
  rw [Int32.lt_iff_toInt_lt, hl] at hc
  have hx : 0 ≤ x3.toInt ∧ x3.toInt + 6 ≤ (L : Int) := by omega
  have s6 : (x3 + 6).toInt = x3.toInt + 6 := by rw [ti_add]; simp only [Int32.reduceToInt]; omega
  have ih : ∀ σ', CI σ' → RI σ' → Ok (again (x3 + 6, σ')) (fun r => r.1 = 1) := fun σ' h1 h2 => ih (x3 + 6, σ') ⟨(by rw [s6]; omega : 0 ≤ (x3 + 6).toInt ∧ (x3 + 6).toInt ≤ 400), h1, h2⟩ (by show (500 - (x3 + 6).toInt).toNat < (500 - x3.toInt).toNat; rw [s6]; omega)
  refine ok_aX0 hx ?_
  refine ok_if (fun _ => lc_236 hN hx hL hC hR ih) (fun _ => ?_)
  refine ok_if (fun _ => lc_299 hN hx hL hC hR ih) (fun _ => ?_)
  refine ok_if (fun _ => lc_322 hN hx hL hC hR ih) (fun _ => ?_)
  refine ok_if (fun _ => lc_335 hN hx hL hC hR ih) (fun _ => ?_)
  refine ok_if (fun _ => lc_358 hN hx hL hC hR ih) (fun _ => ?_)
  refine ok_if (fun _ => lc_381 hN hx hL hC hR ih) (fun _ => ?_)
  refine ok_if (fun _ => lc_404 hN hx hL hC hR ih) (fun _ => ?_)
  refine ok_if (fun _ => lc_437 hN hx hL hC hR ih) (fun _ => ?_)
  refine ok_if (fun _ => lc_490 hN hx hL hC hR ih) (fun _ => ?_)
  refine ok_if (fun _ => lc_533 hN hx hL hC hR ih) (fun _ => ?_)
  refine ok_if (fun _ => lc_592 hN hx hL hC hR ih) (fun _ => ?_)
  refine ok_if (fun _ => lc_635 hN hx hL hC hR ih) (fun _ => ?_)
  refine ok_if (fun _ => lc_704 hN hx hL hC hR ih) (fun _ => ?_)
  refine ok_if (fun _ => lc_747 hN hx hL hC hR ih) (fun _ => ?_)
  refine ok_if (fun _ => lc_780 hN hx hL hC hR ih) (fun _ => ?_)
  refine ok_if (fun _ => lc_813 hN hx hL hC hR ih) (fun _ => ?_)
  refine ok_if (fun _ => lc_846 hN hx hL hC hR ih) (fun _ => ?_)
  refine ok_if (fun _ => lc_869 hN hx hL hC hR ih) (fun _ => ?_)
  refine ok_if (fun _ => lc_902 hN hx hL hC hR ih) (fun _ => ?_)
  refine ok_if (fun _ => lc_935 hN hx hL hC hR ih) (fun _ => ?_)
  refine ok_if (fun _ => lc_968 hN hx hL hC hR ih) (fun _ => ?_)
  refine ok_if (fun _ => lc_1001 hN hx hL hC hR ih) (fun _ => ?_)
  refine ok_if (fun _ => lc_1034 hN hx hL hC hR ih) (fun _ => ?_)
  refine ok_if (fun _ => lc_1067 hN hx hL hC hR ih) (fun _ => ?_)
  refine ok_if (fun _ => lc_1100 hN hx hL hC hR ih) (fun _ => ?_)
  refine ok_if (fun _ => lc_1133 hN hx hL hC hR ih) (fun _ => ?_)
  refine ok_if (fun _ => lc_1166 hN hx hL hC hR ih) (fun _ => ?_)
  refine ok_if (fun _ => lc_1199 hN hx hL hC hR ih) (fun _ => ?_)
  refine ok_if (fun _ => lc_1232 hN hx hL hC hR ih) (fun _ => ?_)
  refine ok_if (fun _ => lc_1255 hN hx hL hC hR ih) (fun _ => ?_)
  refine ok_if (fun _ => lc_1268 hN hx hL hC hR ih) (fun _ => ?_)
  refine ok_if (fun _ => lc_1301 hN hx hL hC hR ih) (fun _ => ?_)
  refine ok_if (fun _ => lc_1324 hN hx hL hC hR ih) (fun _ => ?_)
  refine ok_if (fun _ => lc_1347 hN hx hL hC hR ih) (fun _ => ?_)
  refine ok_if (fun _ => lc_1380 hN hx hL hC hR ih) (fun _ => ?_)
  refine ok_if (fun _ => lc_1413 hN hx hL hC hR ih) (fun _ => ?_)
  refine ok_if (fun _ => lc_1436 hN hx hL hC hR ih) (fun _ => ?_)
  refine ok_if (fun _ => lc_1479 hN hx hL hC hR ih) (fun _ => ?_)
  refine ok_if (fun _ => lc_1512 hN hx hL hC hR ih) (fun _ => ?_)
  refine ok_if (fun _ => lc_1555 hN hx hL hC hR ih) (fun _ => ?_)
  refine ok_if (fun _ => lc_1588 hN hx hL hC hR ih) (fun _ => ?_)
  refine ok_if (fun _ => lc_1621 hN hx hL hC hR ih) (fun _ => ?_)
  refine ok_if (fun _ => lc_1644 hN hx hL hC hR ih) (fun _ => ?_)
  refine ok_if (fun _ => lc_1667 hN hx hL hC hR ih) (fun _ => ?_)
  refine ok_if (fun _ => lc_1690 hN hx hL hC hR ih) (fun _ => ?_)
  refine ok_if (fun _ => lc_1733 hN hx hL hC hR ih) (fun _ => ?_)
  refine ok_if (fun _ => lc_1806 hN hx hL hC hR ih) (fun _ => ?_)
  exact ih σ hC hR
def zN : Nat := 1048576
theorem safe (L : Nat) (xs : Nat → Int32) (hL : L ≤ 384) : ∃ ρ, f_L_law zN L xs zs00 = some ρ ∧ ρ.1 = 1 := law_ok (Nat.le_refl _) hL

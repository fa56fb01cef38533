theorem ok_aX {β : Type} {P : β → Prop} {L : Nat} {xs : Nat → Int32} {x3 j : Int32} {f : Int32 → Option β} (hx : 0 ≤ x3.toInt ∧ x3.toInt + 6 ≤ (L : Int)) (hL : L ≤ 384) (h0 : 0 ≤ j.toInt) (h1 : j.toInt ≤ 5) (h : Ok (f (xs (x3 + j).toNatClampNeg)) P) : Ok (zl (aX L xs (x3 + j)) f) P := by
  refine ok_zl (if_pos ?_) h
  rw [ti_add]; omega
theorem ok_aX0 {β : Type} {P : β → Prop} {L : Nat} {xs : Nat → Int32} {x3 : Int32} {f : Int32 → Option β} (hx : 0 ≤ x3.toInt ∧ x3.toInt + 6 ≤ (L : Int)) (h : Ok (f (xs x3.toNatClampNeg)) P) : Ok (zl (aX L xs x3) f) P := by
  refine ok_zl (if_pos ?_) h
  omega
theorem jlw {σ τ : zS} (h : τ.2.1 = σ.2.1) : LW σ τ := fun a _ => by rw [h]

theorem lc_236 {P : Int32 × zS → Prop} {N L : Nat} {xs : Nat → Int32} {again : Int32 × zS → Option (Int32 × zS)} {x3 : Int32} {σ : zS} (hN : 1048576 ≤ N) (hx : 0 ≤ x3.toInt ∧ x3.toInt + 6 ≤ (L : Int)) (hL : L ≤ 384) (hI : IV σ) (hW : WQ σ) (hF : FQ σ) (ih : ∀ σ', IV σ' ∧ WQ σ' ∧ FQ σ' → Ok (again (x3 + 6, σ')) P) : Ok (J_L_law_236 N L xs again x3 σ) P := by
  rw [J_L_law_236.eq_1]
  refine ok_aX hx hL (by decide) (by decide) ?_
  refine ok_aX hx hL (by decide) (by decide) ?_
  refine ok_aX hx hL (by decide) (by decide) ?_
  refine ok_aX hx hL (by decide) (by decide) ?_
  refine ok_aX hx hL (by decide) (by decide) ?_
  refine ok_gC rfl ?_
  refine ok_zb (ok_pt (ok_pt (wc_feed hN hI) (tc_feed hN hI)) (jf_X11_feed rfl)) (fun v7 σ8 hv7 => ?_)
  have uv7 := hv7.2
  have tv7 := hv7.1.2
  have hv7 := hv7.1.1
  have hEv7 := hI.2
  have hI0 := hI
  have hW0 := hW
  have hF0 := hF
  refine ok_aX hx hL (by decide) (by decide) ?_
  refine ok_aX hx hL (by decide) (by decide) ?_
  refine ok_aX hx hL (by decide) (by decide) ?_
  refine ok_aX hx hL (by decide) (by decide) ?_
  refine ok_aX hx hL (by decide) (by decide) ?_
  refine ok_gC rfl ?_
  refine ok_zb (ok_pt (ok_pt (wr_feed hN hv7.1.1 hv7.1.2) (tr_feed hN hv7.1.1 hv7.1.2)) (jf_X12_feed rfl)) (fun v14 σ15 hv14 => ?_)
  have uv14 := hv14.2
  have tv14 := hv14.1.2
  have hv14 := hv14.1.1
  have hpv14 := pr_feed hEv7 hv7 hv14
  have hI : IV σ15 := hpv14.1
  have hW : WQ σ15 := sim_f hI0 hW0 tv7 tv14 (by decide)
  have hF : FQ σ15 := fs_0 hI0 hF0 tv7 tv14 (by decide) (jlw uv7) uv14
  exact ih σ15 ⟨hI, hW, hF⟩

theorem lc_299 {P : Int32 × zS → Prop} {N L : Nat} {xs : Nat → Int32} {again : Int32 × zS → Option (Int32 × zS)} {x3 : Int32} {σ : zS} (hN : 1048576 ≤ N) (hx : 0 ≤ x3.toInt ∧ x3.toInt + 6 ≤ (L : Int)) (hL : L ≤ 384) (hI : IV σ) (hW : WQ σ) (hF : FQ σ) (ih : ∀ σ', IV σ' ∧ WQ σ' ∧ FQ σ' → Ok (again (x3 + 6, σ')) P) : Ok (J_L_law_299 N L xs again x3 σ) P := by
  rw [J_L_law_299.eq_1]
  refine ok_aX hx hL (by decide) (by decide) ?_
  refine ok_gC rfl ?_
  refine ok_zb (ok_pt (ok_pt (wc_end hN hI) (tc_end hN hI)) (jf_X11_end rfl)) (fun v17 σ18 hv17 => ?_)
  have uv17 := hv17.2
  have tv17 := hv17.1.2
  have hv17 := hv17.1.1
  have hEv17 := hI.2
  have hI0 := hI
  have hW0 := hW
  have hF0 := hF
  refine ok_aX hx hL (by decide) (by decide) ?_
  refine ok_gC rfl ?_
  refine ok_zb (ok_pt (ok_pt (wr_end hN hv17.1.1 hv17.1.2) (tr_end hN hv17.1.1 hv17.1.2)) (jf_X12_end rfl)) (fun v20 σ21 hv20 => ?_)
  have uv20 := hv20.2
  have tv20 := hv20.1.2
  have hv20 := hv20.1.1
  have hpv20 := pr_end hEv17 hv17 hv20
  have hI : IV σ21 := hpv20.1
  have hW : WQ σ21 := sim_f hI0 hW0 tv17 tv20 (by decide)
  have hF : FQ σ21 := fs_0 hI0 hF0 tv17 tv20 (by decide) (jlw uv17) uv20
  exact ih σ21 ⟨hI, hW, hF⟩

theorem lc_322 {P : Int32 × zS → Prop} {N L : Nat} {xs : Nat → Int32} {again : Int32 × zS → Option (Int32 × zS)} {x3 : Int32} {σ : zS} (hN : 1048576 ≤ N) (hx : 0 ≤ x3.toInt ∧ x3.toInt + 6 ≤ (L : Int)) (hL : L ≤ 384) (hI : IV σ) (hW : WQ σ) (hF : FQ σ) (ih : ∀ σ', IV σ' ∧ WQ σ' ∧ FQ σ' → Ok (again (x3 + 6, σ')) P) : Ok (J_L_law_322 N L xs again x3 σ) P := by
  rw [J_L_law_322.eq_1]
  refine ok_gC rfl ?_
  refine ok_zb (ok_pt (wc_world hN hI) (uc_world hN hI)) (fun v22 σ23 hv22 => ?_)
  have uv22 := hv22.2
  have hv22 := hv22.1
  have hEv22 := hI.2
  have hI0 := hI
  have hW0 := hW
  have hF0 := hF
  refine ok_gC rfl ?_
  refine ok_zb (ok_pt (ok_pt (wr_world hN hv22.1.1 hv22.1.2) (tr_world hN hv22.1.1 hv22.1.2)) (pt_and (jf_X12_world rfl) (vq_world hN hv22.1.1.1 hv22.1.2.2.1 hv22.1.2.2.2.1 hv22.1.2.2.2.2))) (fun v24 σ25 hv24 => ?_)
  have uv24 := hv24.2
  have tv24 := hv24.1.2
  have hv24 := hv24.1.1
  have hpv24 := pr_world hEv22 hv22 hv24
  have hI : IV σ25 := hpv24.1
  have hW : WQ σ25 := sim_world hI0 hW0 hv22 hv24 tv24
  have hF : FQ σ25 := fs_world hI0 hF0 hv22 uv22 tv24 uv24.1 uv24.2
  exact ih σ25 ⟨hI, hW, hF⟩

theorem lc_335 {P : Int32 × zS → Prop} {N L : Nat} {xs : Nat → Int32} {again : Int32 × zS → Option (Int32 × zS)} {x3 : Int32} {σ : zS} (hN : 1048576 ≤ N) (hx : 0 ≤ x3.toInt ∧ x3.toInt + 6 ≤ (L : Int)) (hL : L ≤ 384) (hI : IV σ) (hW : WQ σ) (hF : FQ σ) (ih : ∀ σ', IV σ' ∧ WQ σ' ∧ FQ σ' → Ok (again (x3 + 6, σ')) P) : Ok (J_L_law_335 N L xs again x3 σ) P := by
  rw [J_L_law_335.eq_1]
  refine ok_aX hx hL (by decide) (by decide) ?_
  refine ok_gC rfl ?_
  refine ok_zb (ok_pt (ok_pt (wc_put hN hI) (tc_put hN hI)) (uc_put hN hI hF hW)) (fun v27 σ28 hv27 => ?_)
  have uv27 := hv27.2
  have tv27 := hv27.1.2
  have hv27 := hv27.1.1
  have hEv27 := hI.2
  have hI0 := hI
  have hW0 := hW
  have hF0 := hF
  refine ok_aX hx hL (by decide) (by decide) ?_
  refine ok_gC rfl ?_
  refine ok_zb (ok_pt (ok_pt (wr_put hN hv27.1.1 hv27.1.2) (tr_put hN hv27.1.1 hv27.1.2)) (pt_and (jf_X12_put rfl) (ur_put hN hv27.1.1 hv27.1.2 (fun p hp u hu h => by rw [tv27.1 220 (by decide)] at h; rw [tv27.1 219 (by decide)]; exact FQ_i hF0 hp hu h)))) (fun v30 σ31 hv30 => ?_)
  have uv30 := hv30.2
  have tv30 := hv30.1.2
  have hv30 := hv30.1.1
  have hpv30 := pr_put hEv27 hv27 hv30
  have hI : IV σ31 := hpv30
  have hW : WQ σ31 := sim_f hI0 hW0 tv27 tv30 (by decide)
  have hfv30 := fs_put hI0 hW0 hF0 tv27 uv27 tv30 uv30.1 uv30.2
  have hF : FQ σ31 := hfv30.1
  exact ih σ31 ⟨hI, hW, hF⟩

theorem lc_358 {P : Int32 × zS → Prop} {N L : Nat} {xs : Nat → Int32} {again : Int32 × zS → Option (Int32 × zS)} {x3 : Int32} {σ : zS} (hN : 1048576 ≤ N) (hx : 0 ≤ x3.toInt ∧ x3.toInt + 6 ≤ (L : Int)) (hL : L ≤ 384) (hI : IV σ) (hW : WQ σ) (hF : FQ σ) (ih : ∀ σ', IV σ' ∧ WQ σ' ∧ FQ σ' → Ok (again (x3 + 6, σ')) P) : Ok (J_L_law_358 N L xs again x3 σ) P := by
  rw [J_L_law_358.eq_1]
  refine ok_aX hx hL (by decide) (by decide) ?_
  refine ok_gC rfl ?_
  refine ok_zb (ok_pt (ok_pt (wc_fault hN hI) (tc_fault hN hI)) (jf_X11_fault rfl)) (fun v33 σ34 hv33 => ?_)
  have uv33 := hv33.2
  have tv33 := hv33.1.2
  have hv33 := hv33.1.1
  have hEv33 := hI.2
  have hI0 := hI
  have hW0 := hW
  have hF0 := hF
  have hI : IV σ34 := hv33
  refine ok_aX hx hL (by decide) (by decide) ?_
  refine ok_gC rfl ?_
  refine ok_zb (ok_pt (ok_pt (wr_fault hN hI) (tr_fault hN hI.1.1 hI.1.2)) (jf_X12_fault rfl)) (fun v36 σ37 hv36 => ?_)
  have uv36 := hv36.2
  have tv36 := hv36.1.2
  have hv36 := hv36.1.1
  have hI : IV σ37 := hv36
  have hW : WQ σ37 := sim_f hI0 hW0 tv33 tv36 (by decide)
  have hF : FQ σ37 := fs_0 hI0 hF0 tv33 tv36 (by decide) (jlw uv33) uv36
  exact ih σ37 ⟨hI, hW, hF⟩

theorem lc_381 {P : Int32 × zS → Prop} {N L : Nat} {xs : Nat → Int32} {again : Int32 × zS → Option (Int32 × zS)} {x3 : Int32} {σ : zS} (hN : 1048576 ≤ N) (hx : 0 ≤ x3.toInt ∧ x3.toInt + 6 ≤ (L : Int)) (hL : L ≤ 384) (hI : IV σ) (hW : WQ σ) (hF : FQ σ) (ih : ∀ σ', IV σ' ∧ WQ σ' ∧ FQ σ' → Ok (again (x3 + 6, σ')) P) : Ok (J_L_law_381 N L xs again x3 σ) P := by
  rw [J_L_law_381.eq_1]
  refine ok_aX hx hL (by decide) (by decide) ?_
  refine ok_gC rfl ?_
  refine ok_zb (ok_pt (ok_pt (wc_size hN hI) (tc_size hN hI)) (jf_X11_size rfl)) (fun v39 σ40 hv39 => ?_)
  have uv39 := hv39.2
  have tv39 := hv39.1.2
  have hv39 := hv39.1.1
  have hEv39 := hI.2
  have hI0 := hI
  have hW0 := hW
  have hF0 := hF
  have hI : IV σ40 := hv39
  refine ok_aX hx hL (by decide) (by decide) ?_
  refine ok_gC rfl ?_
  refine ok_zb (ok_pt (ok_pt (wr_size hN hI) (tr_size hN hI.1.1 hI.1.2)) (jf_X12_size rfl)) (fun v42 σ43 hv42 => ?_)
  have uv42 := hv42.2
  have tv42 := hv42.1.2
  have hv42 := hv42.1.1
  have hI : IV σ43 := hv42
  have hW : WQ σ43 := sim_f hI0 hW0 tv39 tv42 (by decide)
  have hF : FQ σ43 := fs_0 hI0 hF0 tv39 tv42 (by decide) (jlw uv39) uv42
  exact ih σ43 ⟨hI, hW, hF⟩

theorem lc_404 {P : Int32 × zS → Prop} {N L : Nat} {xs : Nat → Int32} {again : Int32 × zS → Option (Int32 × zS)} {x3 : Int32} {σ : zS} (hN : 1048576 ≤ N) (hx : 0 ≤ x3.toInt ∧ x3.toInt + 6 ≤ (L : Int)) (hL : L ≤ 384) (hI : IV σ) (hW : WQ σ) (hF : FQ σ) (ih : ∀ σ', IV σ' ∧ WQ σ' ∧ FQ σ' → Ok (again (x3 + 6, σ')) P) : Ok (J_L_law_404 N L xs again x3 σ) P := by
  rw [J_L_law_404.eq_1]
  refine ok_aX hx hL (by decide) (by decide) ?_
  refine ok_aX hx hL (by decide) (by decide) ?_
  refine ok_gC rfl ?_
  refine ok_zb (ok_pt (ok_pt (wc_has hN hI) (tc_has hN hI)) (jf_X11_has rfl)) (fun v46 σ47 hv46 => ?_)
  have uv46 := hv46.2
  have tv46 := hv46.1.2
  have hv46 := hv46.1.1
  have hEv46 := hI.2
  have hI0 := hI
  have hW0 := hW
  have hF0 := hF
  have hI : IV σ47 := hv46
  refine ok_aX hx hL (by decide) (by decide) ?_
  refine ok_aX hx hL (by decide) (by decide) ?_
  refine ok_gC rfl ?_
  refine ok_zb (ok_pt (ok_pt (wr_has hN hI) (tr_has hN hI.1.1 hI.1.2)) (jf_X12_has rfl)) (fun v50 σ51 hv50 => ?_)
  have uv50 := hv50.2
  have tv50 := hv50.1.2
  have hv50 := hv50.1.1
  have hI : IV σ51 := hv50
  have hW : WQ σ51 := sim_f hI0 hW0 tv46 tv50 (by decide)
  have hF : FQ σ51 := fs_0 hI0 hF0 tv46 tv50 (by decide) (jlw uv46) uv50
  exact ih σ51 ⟨hI, hW, hF⟩

theorem lc_437 {P : Int32 × zS → Prop} {N L : Nat} {xs : Nat → Int32} {again : Int32 × zS → Option (Int32 × zS)} {x3 : Int32} {σ : zS} (hN : 1048576 ≤ N) (hx : 0 ≤ x3.toInt ∧ x3.toInt + 6 ≤ (L : Int)) (hL : L ≤ 384) (hI : IV σ) (hW : WQ σ) (hF : FQ σ) (ih : ∀ σ', IV σ' ∧ WQ σ' ∧ FQ σ' → Ok (again (x3 + 6, σ')) P) : Ok (J_L_law_437 N L xs again x3 σ) P := by
  rw [J_L_law_437.eq_1]
  refine ok_aX hx hL (by decide) (by decide) ?_
  refine ok_aX hx hL (by decide) (by decide) ?_
  refine ok_aX hx hL (by decide) (by decide) ?_
  refine ok_aX hx hL (by decide) (by decide) ?_
  refine ok_gC rfl ?_
  refine ok_zb (ok_pt (ok_pt (wc_makes hN hI) (tc_makes hN hI)) (vl_makes (isWc4 (IV_4 hI)) hI.1.1.1 rfl (CF_n hI rfl) (FQ_FI hF hW))) (fun v56 σ57 hv56 => ?_)
  have uv56 := hv56.2
  have tv56 := hv56.1.2
  have hv56 := hv56.1.1
  have hEv56 := hI.2
  have hI0 := hI
  have hW0 := hW
  have hF0 := hF
  have hI : IV σ57 := hv56
  refine ok_aX hx hL (by decide) (by decide) ?_
  refine ok_aX hx hL (by decide) (by decide) ?_
  refine ok_aX hx hL (by decide) (by decide) ?_
  refine ok_aX hx hL (by decide) (by decide) ?_
  refine ok_gC rfl ?_
  refine ok_zb (ok_pt (ok_pt (wr_makes hN hI) (tr_makes hN hI.1.1 hI.1.2)) (pt_and (jf_X12_makes rfl) (vr_makes hN hI.1.1.1 hI.1.2.2.1 (RI_n hI.1.2)))) (fun v62 σ63 hv62 => ?_)
  have uv62 := hv62.2
  have tv62 := hv62.1.2
  have hv62 := hv62.1.1
  have hI : IV σ63 := hv62
  have hW : WQ σ63 := sim_f hI0 hW0 tv56 tv62 (by decide)
  have hfv62 := fs_makes hI0 hW0 hF0 tv56 uv56 tv62 uv62.1 uv62.2
  have hF : FQ σ63 := hfv62.1
  exact ih σ63 ⟨hI, hW, hF⟩

theorem lc_490 {P : Int32 × zS → Prop} {N L : Nat} {xs : Nat → Int32} {again : Int32 × zS → Option (Int32 × zS)} {x3 : Int32} {σ : zS} (hN : 1048576 ≤ N) (hx : 0 ≤ x3.toInt ∧ x3.toInt + 6 ≤ (L : Int)) (hL : L ≤ 384) (hI : IV σ) (hW : WQ σ) (hF : FQ σ) (ih : ∀ σ', IV σ' ∧ WQ σ' ∧ FQ σ' → Ok (again (x3 + 6, σ')) P) : Ok (J_L_law_490 N L xs again x3 σ) P := by
  rw [J_L_law_490.eq_1]
  refine ok_aX hx hL (by decide) (by decide) ?_
  refine ok_aX hx hL (by decide) (by decide) ?_
  refine ok_aX hx hL (by decide) (by decide) ?_
  refine ok_gC rfl ?_
  refine ok_zb (ok_pt (ok_pt (wc_turn hN hI) (tc_turn hN hI)) (vl_turn (isWc4 (IV_4 hI)) hI.1.1.1 rfl (CF_n hI rfl) (FQ_FI hF hW))) (fun v67 σ68 hv67 => ?_)
  have uv67 := hv67.2
  have tv67 := hv67.1.2
  have hv67 := hv67.1.1
  have hEv67 := hI.2
  have hI0 := hI
  have hW0 := hW
  have hF0 := hF
  have hI : IV σ68 := hv67
  refine ok_aX hx hL (by decide) (by decide) ?_
  refine ok_aX hx hL (by decide) (by decide) ?_
  refine ok_aX hx hL (by decide) (by decide) ?_
  refine ok_gC rfl ?_
  refine ok_zb (ok_pt (ok_pt (wr_turn hN hI) (tr_turn hN hI.1.1 hI.1.2)) (pt_and (jf_X12_turn rfl) (vr_turn hN hI.1.1.1 hI.1.2.2.1 (RI_n hI.1.2)))) (fun v72 σ73 hv72 => ?_)
  have uv72 := hv72.2
  have tv72 := hv72.1.2
  have hv72 := hv72.1.1
  have hI : IV σ73 := hv72
  have hW : WQ σ73 := sim_f hI0 hW0 tv67 tv72 (by decide)
  have hfv72 := fs_turn hI0 hW0 hF0 tv67 uv67 tv72 uv72.1 uv72.2
  have hF : FQ σ73 := hfv72.1
  exact ih σ73 ⟨hI, hW, hF⟩

theorem lc_557 {P : Int32 × zS → Prop} {N L : Nat} {xs : Nat → Int32} {again : Int32 × zS → Option (Int32 × zS)} {x3 : Int32} {y0 : Int32} {y1 : Int32} {y2 : Int32} {σ : zS} (hN : 1048576 ≤ N) (hx : 0 ≤ x3.toInt ∧ x3.toInt + 6 ≤ (L : Int)) (hL : L ≤ 384) (hI : IV σ) (hW : WQ σ) (hF : FQ σ) (ih : ∀ σ', IV σ' ∧ WQ σ' ∧ FQ σ' → Ok (again (x3 + 6, σ')) P) (hyb : y0 = if xs (x3 + 3).toNatClampNeg = 0 then 0 else 1) (hy1 : y1 = xs (x3 + 2).toNatClampNeg) (hy2 : y2 = xs (x3 + 1).toNatClampNeg) : Ok (J_L_law_557 N L xs again x3 y0 y1 y2 0 σ) P := by
  have hb01 : y0 = 0 ∨ y0 = 1 := by rw [hyb]; split; exact Or.inl rfl; exact Or.inr rfl
  subst hy1
  subst hy2
  rw [J_L_law_557.eq_1]
  refine ok_gC rfl ?_
  refine ok_zb (ok_pt (ok_pt (wc_sets hN hI) (tc_sets hN hI)) (vl_sets (isWc4 (IV_4 hI)) hI.1.1.1 rfl (CF_n hI rfl) hb01)) (fun v77 σ78 hv77 => ?_)
  have uv77 := hv77.2
  have tv77 := hv77.1.2
  have hv77 := hv77.1.1
  have hEv77 := hI.2
  have hI0 := hI
  have hW0 := hW
  have hF0 := hF
  have hI : IV σ78 := hv77
  refine ok_aX hx hL (by decide) (by decide) ?_
  refine ok_aX hx hL (by decide) (by decide) ?_
  refine ok_aX hx hL (by decide) (by decide) ?_
  refine ok_if (fun q1 => ?_) (fun q1 => ?_)
  · rw [if_pos q1] at hyb
    subst hyb
    refine ok_gC rfl ?_
    refine ok_zb (ok_pt (ok_pt (wr_sets hN hI) (tr_sets hN hI.1.1 hI.1.2)) (pt_and (jf_X12_sets rfl) (vr_sets hI.1.1.1 (RI_n hI.1.2) (Or.inl rfl)))) (fun v82 σ83 hv82 => ?_)
    have uv82 := hv82.2
    have tv82 := hv82.1.2
    have hv82 := hv82.1.1
    have hI : IV σ83 := hv82
    have hW : WQ σ83 := sim_f hI0 hW0 tv77 tv82 (by decide)
    have hfv82 := fs_sets hI0 hW0 hF0 (Or.inl rfl) tv77 uv77 tv82 uv82.1 uv82.2
    have hF : FQ σ83 := hfv82.1
    exact ih σ83 ⟨hI, hW, hF⟩
  · rw [if_neg q1] at hyb
    subst hyb
    refine ok_gC rfl ?_
    refine ok_zb (ok_pt (ok_pt (wr_sets hN hI) (tr_sets hN hI.1.1 hI.1.2)) (pt_and (jf_X12_sets rfl) (vr_sets hI.1.1.1 (RI_n hI.1.2) (Or.inr rfl)))) (fun v84 σ85 hv84 => ?_)
    have uv84 := hv84.2
    have tv84 := hv84.1.2
    have hv84 := hv84.1.1
    have hI : IV σ85 := hv84
    have hW : WQ σ85 := sim_f hI0 hW0 tv77 tv84 (by decide)
    have hfv84 := fs_sets hI0 hW0 hF0 (Or.inr rfl) tv77 uv77 tv84 uv84.1 uv84.2
    have hF : FQ σ85 := hfv84.1
    exact ih σ85 ⟨hI, hW, hF⟩

theorem lc_533 {P : Int32 × zS → Prop} {N L : Nat} {xs : Nat → Int32} {again : Int32 × zS → Option (Int32 × zS)} {x3 : Int32} {σ : zS} (hN : 1048576 ≤ N) (hx : 0 ≤ x3.toInt ∧ x3.toInt + 6 ≤ (L : Int)) (hL : L ≤ 384) (hI : IV σ) (hW : WQ σ) (hF : FQ σ) (ih : ∀ σ', IV σ' ∧ WQ σ' ∧ FQ σ' → Ok (again (x3 + 6, σ')) P) : Ok (J_L_law_533 N L xs again x3 σ) P := by
  rw [J_L_law_533.eq_1]
  refine ok_aX hx hL (by decide) (by decide) ?_
  refine ok_aX hx hL (by decide) (by decide) ?_
  refine ok_aX hx hL (by decide) (by decide) ?_
  refine ok_if (fun q1 => ?_) (fun q1 => ?_)
  · exact lc_557 hN hx hL hI hW hF ih (if_pos q1).symm rfl rfl
  · exact lc_557 hN hx hL hI hW hF ih (if_neg q1).symm rfl rfl

theorem lc_592 {P : Int32 × zS → Prop} {N L : Nat} {xs : Nat → Int32} {again : Int32 × zS → Option (Int32 × zS)} {x3 : Int32} {σ : zS} (hN : 1048576 ≤ N) (hx : 0 ≤ x3.toInt ∧ x3.toInt + 6 ≤ (L : Int)) (hL : L ≤ 384) (hI : IV σ) (hW : WQ σ) (hF : FQ σ) (ih : ∀ σ', IV σ' ∧ WQ σ' ∧ FQ σ' → Ok (again (x3 + 6, σ')) P) : Ok (J_L_law_592 N L xs again x3 σ) P := by
  rw [J_L_law_592.eq_1]
  refine ok_aX hx hL (by decide) (by decide) ?_
  refine ok_aX hx hL (by decide) (by decide) ?_
  refine ok_aX hx hL (by decide) (by decide) ?_
  refine ok_gC rfl ?_
  refine ok_zb (ok_pt (ok_pt (wc_change hN hI) (tc_change hN hI)) (vl_change (isWc4 (IV_4 hI)) hI.1.1.1 rfl (CF_n hI rfl) (FQ_FI hF hW))) (fun v89 σ90 hv89 => ?_)
  have uv89 := hv89.2
  have tv89 := hv89.1.2
  have hv89 := hv89.1.1
  have hEv89 := hI.2
  have hI0 := hI
  have hW0 := hW
  have hF0 := hF
  have hI : IV σ90 := hv89
  refine ok_aX hx hL (by decide) (by decide) ?_
  refine ok_aX hx hL (by decide) (by decide) ?_
  refine ok_aX hx hL (by decide) (by decide) ?_
  refine ok_gC rfl ?_
  refine ok_zb (ok_pt (ok_pt (wr_change hN hI) (tr_change hN hI.1.1 hI.1.2)) (pt_and (jf_X12_change rfl) (vr_change hI.1.1.1 (RI_n hI.1.2)))) (fun v94 σ95 hv94 => ?_)
  have uv94 := hv94.2
  have tv94 := hv94.1.2
  have hv94 := hv94.1.1
  have hI : IV σ95 := hv94
  have hW : WQ σ95 := sim_f hI0 hW0 tv89 tv94 (by decide)
  have hfv94 := fs_change hI0 hW0 hF0 tv89 uv89 tv94 uv94.1 uv94.2
  have hF : FQ σ95 := hfv94.1
  exact ih σ95 ⟨hI, hW, hF⟩

theorem lc_664 {P : Int32 × zS → Prop} {N L : Nat} {xs : Nat → Int32} {again : Int32 × zS → Option (Int32 × zS)} {x3 : Int32} {y0 : Int32} {y1 : Int32} {y2 : Int32} {y3 : Int32} {σ : zS} (hN : 1048576 ≤ N) (hx : 0 ≤ x3.toInt ∧ x3.toInt + 6 ≤ (L : Int)) (hL : L ≤ 384) (hI : IV σ) (hW : WQ σ) (hF : FQ σ) (ih : ∀ σ', IV σ' ∧ WQ σ' ∧ FQ σ' → Ok (again (x3 + 6, σ')) P) (hyb : y0 = if xs (x3 + 4).toNatClampNeg = 0 then 0 else 1) (hy1 : y1 = xs (x3 + 3).toNatClampNeg) (hy2 : y2 = xs (x3 + 2).toNatClampNeg) (hy3 : y3 = xs (x3 + 1).toNatClampNeg) : Ok (J_L_law_664 N L xs again x3 y0 y1 y2 y3 0 σ) P := by
  have hb01 : y0 = 0 ∨ y0 = 1 := by rw [hyb]; split; exact Or.inl rfl; exact Or.inr rfl
  subst hy1
  subst hy2
  subst hy3
  rw [J_L_law_664.eq_1]
  refine ok_gC rfl ?_
  refine ok_zb (ok_pt (ok_pt (wc_half hN hI) (tc_half hN hI)) (vl_half (isWc4 (IV_4 hI)) hI.1.1.1 rfl (CF_n hI rfl) (FQ_FI hF hW))) (fun v100 σ101 hv100 => ?_)
  have uv100 := hv100.2
  have tv100 := hv100.1.2
  have hv100 := hv100.1.1
  have hEv100 := hI.2
  have hI0 := hI
  have hW0 := hW
  have hF0 := hF
  have hI : IV σ101 := hv100
  refine ok_aX hx hL (by decide) (by decide) ?_
  refine ok_aX hx hL (by decide) (by decide) ?_
  refine ok_aX hx hL (by decide) (by decide) ?_
  refine ok_aX hx hL (by decide) (by decide) ?_
  refine ok_if (fun q1 => ?_) (fun q1 => ?_)
  · rw [if_pos q1] at hyb
    subst hyb
    rw [J_L_law_696.eq_1]
    refine ok_gC rfl ?_
    refine ok_zb (ok_pt (ok_pt (wr_half hN hI) (tr_half hN hI.1.1 hI.1.2)) (pt_and (jf_X12_half rfl) (vr_half hI.1.1.1 (RI_n hI.1.2)))) (fun v106 σ107 hv106 => ?_)
    have uv106 := hv106.2
    have tv106 := hv106.1.2
    have hv106 := hv106.1.1
    have hI : IV σ107 := hv106
    have hW : WQ σ107 := sim_f hI0 hW0 tv100 tv106 (by decide)
    have hfv106 := fs_half hI0 hW0 hF0 tv100 uv100 tv106 uv106.1 uv106.2
    have hF : FQ σ107 := hfv106.1
    exact ok_if (fun _ => ih σ107 ⟨hI, hW, hF⟩) (fun q => absurd (hfv106.2) q)
  · rw [if_neg q1] at hyb
    subst hyb
    rw [J_L_law_696.eq_1]
    refine ok_gC rfl ?_
    refine ok_zb (ok_pt (ok_pt (wr_half hN hI) (tr_half hN hI.1.1 hI.1.2)) (pt_and (jf_X12_half rfl) (vr_half hI.1.1.1 (RI_n hI.1.2)))) (fun v106 σ107 hv106 => ?_)
    have uv106 := hv106.2
    have tv106 := hv106.1.2
    have hv106 := hv106.1.1
    have hI : IV σ107 := hv106
    have hW : WQ σ107 := sim_f hI0 hW0 tv100 tv106 (by decide)
    have hfv106 := fs_half hI0 hW0 hF0 tv100 uv100 tv106 uv106.1 uv106.2
    have hF : FQ σ107 := hfv106.1
    exact ok_if (fun _ => ih σ107 ⟨hI, hW, hF⟩) (fun q => absurd (hfv106.2) q)

theorem lc_635 {P : Int32 × zS → Prop} {N L : Nat} {xs : Nat → Int32} {again : Int32 × zS → Option (Int32 × zS)} {x3 : Int32} {σ : zS} (hN : 1048576 ≤ N) (hx : 0 ≤ x3.toInt ∧ x3.toInt + 6 ≤ (L : Int)) (hL : L ≤ 384) (hI : IV σ) (hW : WQ σ) (hF : FQ σ) (ih : ∀ σ', IV σ' ∧ WQ σ' ∧ FQ σ' → Ok (again (x3 + 6, σ')) P) : Ok (J_L_law_635 N L xs again x3 σ) P := by
  rw [J_L_law_635.eq_1]
  refine ok_aX hx hL (by decide) (by decide) ?_
  refine ok_aX hx hL (by decide) (by decide) ?_
  refine ok_aX hx hL (by decide) (by decide) ?_
  refine ok_aX hx hL (by decide) (by decide) ?_
  refine ok_if (fun q1 => ?_) (fun q1 => ?_)
  · exact lc_664 hN hx hL hI hW hF ih (if_pos q1).symm rfl rfl rfl
  · exact lc_664 hN hx hL hI hW hF ih (if_neg q1).symm rfl rfl rfl

theorem lc_704 {P : Int32 × zS → Prop} {N L : Nat} {xs : Nat → Int32} {again : Int32 × zS → Option (Int32 × zS)} {x3 : Int32} {σ : zS} (hN : 1048576 ≤ N) (hx : 0 ≤ x3.toInt ∧ x3.toInt + 6 ≤ (L : Int)) (hL : L ≤ 384) (hI : IV σ) (hW : WQ σ) (hF : FQ σ) (ih : ∀ σ', IV σ' ∧ WQ σ' ∧ FQ σ' → Ok (again (x3 + 6, σ')) P) : Ok (J_L_law_704 N L xs again x3 σ) P := by
  rw [J_L_law_704.eq_1]
  refine ok_aX hx hL (by decide) (by decide) ?_
  refine ok_aX hx hL (by decide) (by decide) ?_
  refine ok_aX hx hL (by decide) (by decide) ?_
  refine ok_gC rfl ?_
  refine ok_zb (ok_pt (ok_pt (wc_level hN hI) (tc_level hN hI)) (vl_level (isWc4 (IV_4 hI)) hI.1.1.1 rfl (CF_n hI rfl) (FQ_FI hF hW))) (fun v111 σ112 hv111 => ?_)
  have uv111 := hv111.2
  have tv111 := hv111.1.2
  have hv111 := hv111.1.1
  have hEv111 := hI.2
  have hI0 := hI
  have hW0 := hW
  have hF0 := hF
  have hI : IV σ112 := hv111
  refine ok_aX hx hL (by decide) (by decide) ?_
  refine ok_aX hx hL (by decide) (by decide) ?_
  refine ok_aX hx hL (by decide) (by decide) ?_
  refine ok_gC rfl ?_
  refine ok_zb (ok_pt (ok_pt (wr_level hN hI) (tr_level hN hI.1.1 hI.1.2)) (pt_and (jf_X12_level rfl) (vr_level hI.1.1.1 (RI_n hI.1.2)))) (fun v116 σ117 hv116 => ?_)
  have uv116 := hv116.2
  have tv116 := hv116.1.2
  have hv116 := hv116.1.1
  have hI : IV σ117 := hv116
  have hW : WQ σ117 := sim_f hI0 hW0 tv111 tv116 (by decide)
  have hfv116 := fs_level hI0 hW0 hF0 tv111 uv111 tv116 uv116.1 uv116.2
  have hF : FQ σ117 := hfv116.1
  exact ih σ117 ⟨hI, hW, hF⟩

theorem lc_747 {P : Int32 × zS → Prop} {N L : Nat} {xs : Nat → Int32} {again : Int32 × zS → Option (Int32 × zS)} {x3 : Int32} {σ : zS} (hN : 1048576 ≤ N) (hx : 0 ≤ x3.toInt ∧ x3.toInt + 6 ≤ (L : Int)) (hL : L ≤ 384) (hI : IV σ) (hW : WQ σ) (hF : FQ σ) (ih : ∀ σ', IV σ' ∧ WQ σ' ∧ FQ σ' → Ok (again (x3 + 6, σ')) P) : Ok (J_L_law_747 N L xs again x3 σ) P := by
  rw [J_L_law_747.eq_1]
  refine ok_aX hx hL (by decide) (by decide) ?_
  refine ok_aX hx hL (by decide) (by decide) ?_
  refine ok_gC rfl ?_
  refine ok_zb (ok_pt (ok_pt (wc_nth hN hI) (tc_nth hN hI)) (jf_X11_nth rfl)) (fun v120 σ121 hv120 => ?_)
  have uv120 := hv120.2
  have tv120 := hv120.1.2
  have hv120 := hv120.1.1
  have hEv120 := hI.2
  have hI0 := hI
  have hW0 := hW
  have hF0 := hF
  have hI : IV σ121 := hv120
  refine ok_aX hx hL (by decide) (by decide) ?_
  refine ok_aX hx hL (by decide) (by decide) ?_
  refine ok_gC rfl ?_
  refine ok_zb (ok_pt (ok_pt (wr_nth hN hI) (tr_nth hN hI.1.1 hI.1.2)) (jf_X12_nth rfl)) (fun v124 σ125 hv124 => ?_)
  have uv124 := hv124.2
  have tv124 := hv124.1.2
  have hv124 := hv124.1.1
  have hI : IV σ125 := hv124
  have hW : WQ σ125 := sim_f hI0 hW0 tv120 tv124 (by decide)
  have hF : FQ σ125 := fs_0 hI0 hF0 tv120 tv124 (by decide) (jlw uv120) uv124
  exact ih σ125 ⟨hI, hW, hF⟩

theorem lc_780 {P : Int32 × zS → Prop} {N L : Nat} {xs : Nat → Int32} {again : Int32 × zS → Option (Int32 × zS)} {x3 : Int32} {σ : zS} (hN : 1048576 ≤ N) (hx : 0 ≤ x3.toInt ∧ x3.toInt + 6 ≤ (L : Int)) (hL : L ≤ 384) (hI : IV σ) (hW : WQ σ) (hF : FQ σ) (ih : ∀ σ', IV σ' ∧ WQ σ' ∧ FQ σ' → Ok (again (x3 + 6, σ')) P) : Ok (J_L_law_780 N L xs again x3 σ) P := by
  rw [J_L_law_780.eq_1]
  refine ok_aX hx hL (by decide) (by decide) ?_
  refine ok_aX hx hL (by decide) (by decide) ?_
  refine ok_gC rfl ?_
  refine ok_zb (ok_pt (ok_pt (wc_rank hN hI) (tc_rank hN hI)) (jf_X11_rank rfl)) (fun v128 σ129 hv128 => ?_)
  have uv128 := hv128.2
  have tv128 := hv128.1.2
  have hv128 := hv128.1.1
  have hEv128 := hI.2
  have hI0 := hI
  have hW0 := hW
  have hF0 := hF
  have hI : IV σ129 := hv128
  refine ok_aX hx hL (by decide) (by decide) ?_
  refine ok_aX hx hL (by decide) (by decide) ?_
  refine ok_gC rfl ?_
  refine ok_zb (ok_pt (ok_pt (wr_rank_ hN hI) (tr_rank hN hI.1.1 hI.1.2)) (jf_X12_rank_ rfl)) (fun v132 σ133 hv132 => ?_)
  have uv132 := hv132.2
  have tv132 := hv132.1.2
  have hv132 := hv132.1.1
  have hI : IV σ133 := hv132
  have hW : WQ σ133 := sim_f hI0 hW0 tv128 tv132 (by decide)
  have hF : FQ σ133 := fs_0 hI0 hF0 tv128 tv132 (by decide) (jlw uv128) uv132
  exact ih σ133 ⟨hI, hW, hF⟩

theorem lc_813 {P : Int32 × zS → Prop} {N L : Nat} {xs : Nat → Int32} {again : Int32 × zS → Option (Int32 × zS)} {x3 : Int32} {σ : zS} (hN : 1048576 ≤ N) (hx : 0 ≤ x3.toInt ∧ x3.toInt + 6 ≤ (L : Int)) (hL : L ≤ 384) (hI : IV σ) (hW : WQ σ) (hF : FQ σ) (ih : ∀ σ', IV σ' ∧ WQ σ' ∧ FQ σ' → Ok (again (x3 + 6, σ')) P) : Ok (J_L_law_813 N L xs again x3 σ) P := by
  rw [J_L_law_813.eq_1]
  refine ok_aX hx hL (by decide) (by decide) ?_
  refine ok_aX hx hL (by decide) (by decide) ?_
  refine ok_gC rfl ?_
  refine ok_zb (ok_pt (ok_pt (wc_light hN hI) (tc_light hN hI)) (jf_X11_light rfl)) (fun v136 σ137 hv136 => ?_)
  have uv136 := hv136.2
  have tv136 := hv136.1.2
  have hv136 := hv136.1.1
  have hEv136 := hI.2
  have hI0 := hI
  have hW0 := hW
  have hF0 := hF
  have hI : IV σ137 := hv136
  refine ok_aX hx hL (by decide) (by decide) ?_
  refine ok_aX hx hL (by decide) (by decide) ?_
  refine ok_gC rfl ?_
  refine ok_zb (ok_pt (ok_pt (wr_light hN hI) (tr_light hN hI.1.1 hI.1.2)) (jf_X12_light rfl)) (fun v140 σ141 hv140 => ?_)
  have uv140 := hv140.2
  have tv140 := hv140.1.2
  have hv140 := hv140.1.1
  have hI : IV σ141 := hv140
  have hW : WQ σ141 := sim_f hI0 hW0 tv136 tv140 (by decide)
  have hF : FQ σ141 := fs_0 hI0 hF0 tv136 tv140 (by decide) (jlw uv136) uv140
  exact ih σ141 ⟨hI, hW, hF⟩

theorem lc_846 {P : Int32 × zS → Prop} {N L : Nat} {xs : Nat → Int32} {again : Int32 × zS → Option (Int32 × zS)} {x3 : Int32} {σ : zS} (hN : 1048576 ≤ N) (hx : 0 ≤ x3.toInt ∧ x3.toInt + 6 ≤ (L : Int)) (hL : L ≤ 384) (hI : IV σ) (hW : WQ σ) (hF : FQ σ) (ih : ∀ σ', IV σ' ∧ WQ σ' ∧ FQ σ' → Ok (again (x3 + 6, σ')) P) : Ok (J_L_law_846 N L xs again x3 σ) P := by
  rw [J_L_law_846.eq_1]
  refine ok_aX hx hL (by decide) (by decide) ?_
  refine ok_gC rfl ?_
  refine ok_zb (ok_pt (ok_pt (wc_weight hN hI) (tc_weight hN hI)) (jf_X11_weight rfl)) (fun v143 σ144 hv143 => ?_)
  have uv143 := hv143.2
  have tv143 := hv143.1.2
  have hv143 := hv143.1.1
  have hEv143 := hI.2
  have hI0 := hI
  have hW0 := hW
  have hF0 := hF
  have hI : IV σ144 := hv143
  refine ok_aX hx hL (by decide) (by decide) ?_
  refine ok_gC rfl ?_
  refine ok_zb (ok_pt (ok_pt (wr_weight hN hI) (tr_weight hN hI.1.1 hI.1.2)) (jf_X12_weight rfl)) (fun v146 σ147 hv146 => ?_)
  have uv146 := hv146.2
  have tv146 := hv146.1.2
  have hv146 := hv146.1.1
  have hI : IV σ147 := hv146
  have hW : WQ σ147 := sim_f hI0 hW0 tv143.1 tv146.1 (by decide)
  have hF : FQ σ147 := fs_0 hI0 hF0 tv143.1 tv146.1 (by decide) (jlw uv143) uv146
  exact ih σ147 ⟨hI, hW, hF⟩

theorem lc_869 {P : Int32 × zS → Prop} {N L : Nat} {xs : Nat → Int32} {again : Int32 × zS → Option (Int32 × zS)} {x3 : Int32} {σ : zS} (hN : 1048576 ≤ N) (hx : 0 ≤ x3.toInt ∧ x3.toInt + 6 ≤ (L : Int)) (hL : L ≤ 384) (hI : IV σ) (hW : WQ σ) (hF : FQ σ) (ih : ∀ σ', IV σ' ∧ WQ σ' ∧ FQ σ' → Ok (again (x3 + 6, σ')) P) : Ok (J_L_law_869 N L xs again x3 σ) P := by
  rw [J_L_law_869.eq_1]
  refine ok_aX hx hL (by decide) (by decide) ?_
  refine ok_aX hx hL (by decide) (by decide) ?_
  refine ok_gC rfl ?_
  refine ok_zb (ok_pt (ok_pt (wc_weigh hN hI) (tc_weigh hN hI)) (jf_X11_weigh rfl)) (fun v150 σ151 hv150 => ?_)
  have uv150 := hv150.2
  have tv150 := hv150.1.2
  have hv150 := hv150.1.1
  have hEv150 := hI.2
  have hI0 := hI
  have hW0 := hW
  have hF0 := hF
  have hI : IV σ151 := hv150
  refine ok_aX hx hL (by decide) (by decide) ?_
  refine ok_aX hx hL (by decide) (by decide) ?_
  refine ok_gC rfl ?_
  refine ok_zb (ok_pt (ok_pt (wr_weigh hN hI) (tr_weigh hN hI.1.1 hI.1.2)) (jf_X12_weigh rfl)) (fun v154 σ155 hv154 => ?_)
  have uv154 := hv154.2
  have tv154 := hv154.1.2
  have hv154 := hv154.1.1
  have hI : IV σ155 := hv154
  have hsv154 := sim_weigh hI0 hW0 tv150 tv154
  have hW : WQ σ155 := hsv154.1
  have hF : FQ σ155 := fs_weigh hI0 hF0 tv150.1 tv154 (jlw uv150) uv154
  exact ih σ155 ⟨hI, hW, hF⟩

theorem lc_902 {P : Int32 × zS → Prop} {N L : Nat} {xs : Nat → Int32} {again : Int32 × zS → Option (Int32 × zS)} {x3 : Int32} {σ : zS} (hN : 1048576 ≤ N) (hx : 0 ≤ x3.toInt ∧ x3.toInt + 6 ≤ (L : Int)) (hL : L ≤ 384) (hI : IV σ) (hW : WQ σ) (hF : FQ σ) (ih : ∀ σ', IV σ' ∧ WQ σ' ∧ FQ σ' → Ok (again (x3 + 6, σ')) P) : Ok (J_L_law_902 N L xs again x3 σ) P := by
  rw [J_L_law_902.eq_1]
  refine ok_aX hx hL (by decide) (by decide) ?_
  refine ok_aX hx hL (by decide) (by decide) ?_
  refine ok_gC rfl ?_
  refine ok_zb (ok_pt (ok_pt (wc_weighs hN hI) (tc_weighs hN hI)) (jf_X11_weighs rfl)) (fun v158 σ159 hv158 => ?_)
  have uv158 := hv158.2
  have tv158 := hv158.1.2
  have hv158 := hv158.1.1
  have hEv158 := hI.2
  have hI0 := hI
  have hW0 := hW
  have hF0 := hF
  have hI : IV σ159 := hv158
  refine ok_aX hx hL (by decide) (by decide) ?_
  refine ok_aX hx hL (by decide) (by decide) ?_
  refine ok_gC rfl ?_
  refine ok_zb (ok_pt (ok_pt (wr_weighs hN hI) (tr_weighs hN hI.1.1 hI.1.2)) (jf_X12_weighs rfl)) (fun v162 σ163 hv162 => ?_)
  have uv162 := hv162.2
  have tv162 := hv162.1.2
  have hv162 := hv162.1.1
  have hI : IV σ163 := hv162
  have hW : WQ σ163 := sim_f hI0 hW0 tv158 tv162 (by decide)
  have hF : FQ σ163 := fs_0 hI0 hF0 tv158 tv162 (by decide) (jlw uv158) uv162
  exact ih σ163 ⟨hI, hW, hF⟩

theorem lc_935 {P : Int32 × zS → Prop} {N L : Nat} {xs : Nat → Int32} {again : Int32 × zS → Option (Int32 × zS)} {x3 : Int32} {σ : zS} (hN : 1048576 ≤ N) (hx : 0 ≤ x3.toInt ∧ x3.toInt + 6 ≤ (L : Int)) (hL : L ≤ 384) (hI : IV σ) (hW : WQ σ) (hF : FQ σ) (ih : ∀ σ', IV σ' ∧ WQ σ' ∧ FQ σ' → Ok (again (x3 + 6, σ')) P) : Ok (J_L_law_935 N L xs again x3 σ) P := by
  rw [J_L_law_935.eq_1]
  refine ok_aX hx hL (by decide) (by decide) ?_
  refine ok_aX hx hL (by decide) (by decide) ?_
  refine ok_gC rfl ?_
  refine ok_zb (ok_pt (ok_pt (wc_each hN hI) (tc_each hN hI)) (pt_w (vl_each_ (isWc4 (IV_4 hI)) hI.1.1.1 rfl (CF_n hI rfl)) (fun r h => h.1))) (fun v166 σ167 hv166 => ?_)
  have uv166 := hv166.2
  have tv166 := hv166.1.2
  have hv166 := hv166.1.1
  have hEv166 := hI.2
  have hI0 := hI
  have hW0 := hW
  have hF0 := hF
  have hI : IV σ167 := hv166
  refine ok_aX hx hL (by decide) (by decide) ?_
  refine ok_aX hx hL (by decide) (by decide) ?_
  refine ok_gC rfl ?_
  refine ok_zb (ok_pt (ok_pt (wr_each hN hI) (tr_each hN hI.1.1 hI.1.2)) (jf_X12_each rfl)) (fun v170 σ171 hv170 => ?_)
  have uv170 := hv170.2
  have tv170 := hv170.1.2
  have hv170 := hv170.1.1
  have hI : IV σ171 := hv170
  have hW : WQ σ171 := sim_f hI0 hW0 tv166 tv170 (by decide)
  have hF : FQ σ171 := fs_0 hI0 hF0 tv166 tv170 (by decide) uv166 uv170
  exact ih σ171 ⟨hI, hW, hF⟩

theorem lc_968 {P : Int32 × zS → Prop} {N L : Nat} {xs : Nat → Int32} {again : Int32 × zS → Option (Int32 × zS)} {x3 : Int32} {σ : zS} (hN : 1048576 ≤ N) (hx : 0 ≤ x3.toInt ∧ x3.toInt + 6 ≤ (L : Int)) (hL : L ≤ 384) (hI : IV σ) (hW : WQ σ) (hF : FQ σ) (ih : ∀ σ', IV σ' ∧ WQ σ' ∧ FQ σ' → Ok (again (x3 + 6, σ')) P) : Ok (J_L_law_968 N L xs again x3 σ) P := by
  rw [J_L_law_968.eq_1]
  refine ok_aX hx hL (by decide) (by decide) ?_
  refine ok_aX hx hL (by decide) (by decide) ?_
  refine ok_gC rfl ?_
  refine ok_zb (ok_pt (ok_pt (wc_names hN hI) (tc_names hN hI)) (pt_w (vl_names_ (isWc4 (IV_4 hI)) hI.1.1.1 rfl (CF_n hI rfl)) (fun r h => h.1))) (fun v174 σ175 hv174 => ?_)
  have uv174 := hv174.2
  have tv174 := hv174.1.2
  have hv174 := hv174.1.1
  have hEv174 := hI.2
  have hI0 := hI
  have hW0 := hW
  have hF0 := hF
  have hI : IV σ175 := hv174
  refine ok_aX hx hL (by decide) (by decide) ?_
  refine ok_aX hx hL (by decide) (by decide) ?_
  refine ok_gC rfl ?_
  refine ok_zb (ok_pt (ok_pt (wr_names hN hI) (tr_names hN hI.1.1 hI.1.2)) (jf_X12_names rfl)) (fun v178 σ179 hv178 => ?_)
  have uv178 := hv178.2
  have tv178 := hv178.1.2
  have hv178 := hv178.1.1
  have hI : IV σ179 := hv178
  have hW : WQ σ179 := sim_f hI0 hW0 tv174 tv178 (by decide)
  have hF : FQ σ179 := fs_0 hI0 hF0 tv174 tv178 (by decide) uv174 uv178
  exact ih σ179 ⟨hI, hW, hF⟩

theorem lc_1001 {P : Int32 × zS → Prop} {N L : Nat} {xs : Nat → Int32} {again : Int32 × zS → Option (Int32 × zS)} {x3 : Int32} {σ : zS} (hN : 1048576 ≤ N) (hx : 0 ≤ x3.toInt ∧ x3.toInt + 6 ≤ (L : Int)) (hL : L ≤ 384) (hI : IV σ) (hW : WQ σ) (hF : FQ σ) (ih : ∀ σ', IV σ' ∧ WQ σ' ∧ FQ σ' → Ok (again (x3 + 6, σ')) P) : Ok (J_L_law_1001 N L xs again x3 σ) P := by
  rw [J_L_law_1001.eq_1]
  refine ok_aX hx hL (by decide) (by decide) ?_
  refine ok_aX hx hL (by decide) (by decide) ?_
  refine ok_gC rfl ?_
  refine ok_zb (ok_pt (ok_pt (wc_draw hN hI) (tc_draw hN hI)) (jf_X11_draw rfl)) (fun v182 σ183 hv182 => ?_)
  have uv182 := hv182.2
  have tv182 := hv182.1.2
  have hv182 := hv182.1.1
  have hEv182 := hI.2
  have hI0 := hI
  have hW0 := hW
  have hF0 := hF
  have hI : IV σ183 := hv182
  refine ok_aX hx hL (by decide) (by decide) ?_
  refine ok_aX hx hL (by decide) (by decide) ?_
  refine ok_gC rfl ?_
  refine ok_zb (ok_pt (ok_pt (wr_draw hN hI) (tr_draw hN hI.1.1 hI.1.2)) (jf_X12_draw rfl)) (fun v186 σ187 hv186 => ?_)
  have uv186 := hv186.2
  have tv186 := hv186.1.2
  have hv186 := hv186.1.1
  have hI : IV σ187 := hv186
  have hW : WQ σ187 := sim_f hI0 hW0 tv182 tv186 (by decide)
  have hF : FQ σ187 := fs_0 hI0 hF0 tv182 tv186 (by decide) (jlw uv182) uv186
  exact ih σ187 ⟨hI, hW, hF⟩

theorem lc_1034 {P : Int32 × zS → Prop} {N L : Nat} {xs : Nat → Int32} {again : Int32 × zS → Option (Int32 × zS)} {x3 : Int32} {σ : zS} (hN : 1048576 ≤ N) (hx : 0 ≤ x3.toInt ∧ x3.toInt + 6 ≤ (L : Int)) (hL : L ≤ 384) (hI : IV σ) (hW : WQ σ) (hF : FQ σ) (ih : ∀ σ', IV σ' ∧ WQ σ' ∧ FQ σ' → Ok (again (x3 + 6, σ')) P) : Ok (J_L_law_1034 N L xs again x3 σ) P := by
  rw [J_L_law_1034.eq_1]
  refine ok_aX hx hL (by decide) (by decide) ?_
  refine ok_aX hx hL (by decide) (by decide) ?_
  refine ok_gC rfl ?_
  refine ok_zb (ok_pt (ok_pt (wc_alike hN hI) (tc_alike hN hI)) (jf_X11_alike rfl)) (fun v190 σ191 hv190 => ?_)
  have uv190 := hv190.2
  have tv190 := hv190.1.2
  have hv190 := hv190.1.1
  have hEv190 := hI.2
  have hI0 := hI
  have hW0 := hW
  have hF0 := hF
  have hI : IV σ191 := hv190
  refine ok_aX hx hL (by decide) (by decide) ?_
  refine ok_aX hx hL (by decide) (by decide) ?_
  refine ok_gC rfl ?_
  refine ok_zb (ok_pt (ok_pt (wr_alike hN hI) (tr_alike hN hI.1.1 hI.1.2)) (jf_X12_alike rfl)) (fun v194 σ195 hv194 => ?_)
  have uv194 := hv194.2
  have tv194 := hv194.1.2
  have hv194 := hv194.1.1
  have hI : IV σ195 := hv194
  have hW : WQ σ195 := sim_f hI0 hW0 tv190 tv194 (by decide)
  have hF : FQ σ195 := fs_0 hI0 hF0 tv190 tv194 (by decide) (jlw uv190) uv194
  exact ih σ195 ⟨hI, hW, hF⟩

theorem lc_1067 {P : Int32 × zS → Prop} {N L : Nat} {xs : Nat → Int32} {again : Int32 × zS → Option (Int32 × zS)} {x3 : Int32} {σ : zS} (hN : 1048576 ≤ N) (hx : 0 ≤ x3.toInt ∧ x3.toInt + 6 ≤ (L : Int)) (hL : L ≤ 384) (hI : IV σ) (hW : WQ σ) (hF : FQ σ) (ih : ∀ σ', IV σ' ∧ WQ σ' ∧ FQ σ' → Ok (again (x3 + 6, σ')) P) : Ok (J_L_law_1067 N L xs again x3 σ) P := by
  rw [J_L_law_1067.eq_1]
  refine ok_aX hx hL (by decide) (by decide) ?_
  refine ok_aX hx hL (by decide) (by decide) ?_
  refine ok_gC rfl ?_
  refine ok_zb (ok_pt (ok_pt (wc_differ hN hI) (tc_differ hN hI)) (pt_w (vl_differ_ (isWc4 (IV_4 hI)) hI.1.1.1 rfl) (fun r h => h.1))) (fun v198 σ199 hv198 => ?_)
  have uv198 := hv198.2
  have tv198 := hv198.1.2
  have hv198 := hv198.1.1
  have hEv198 := hI.2
  have hI0 := hI
  have hW0 := hW
  have hF0 := hF
  have hI : IV σ199 := hv198
  refine ok_aX hx hL (by decide) (by decide) ?_
  refine ok_aX hx hL (by decide) (by decide) ?_
  refine ok_gC rfl ?_
  refine ok_zb (ok_pt (ok_pt (wr_differ hN hI) (tr_differ hN hI.1.1 hI.1.2)) (jf_X12_differ rfl)) (fun v202 σ203 hv202 => ?_)
  have uv202 := hv202.2
  have tv202 := hv202.1.2
  have hv202 := hv202.1.1
  have hI : IV σ203 := hv202
  have hW : WQ σ203 := sim_f hI0 hW0 tv198 tv202 (by decide)
  have hF : FQ σ203 := fs_0 hI0 hF0 tv198 tv202 (by decide) uv198 uv202
  exact ih σ203 ⟨hI, hW, hF⟩

theorem lc_1100 {P : Int32 × zS → Prop} {N L : Nat} {xs : Nat → Int32} {again : Int32 × zS → Option (Int32 × zS)} {x3 : Int32} {σ : zS} (hN : 1048576 ≤ N) (hx : 0 ≤ x3.toInt ∧ x3.toInt + 6 ≤ (L : Int)) (hL : L ≤ 384) (hI : IV σ) (hW : WQ σ) (hF : FQ σ) (ih : ∀ σ', IV σ' ∧ WQ σ' ∧ FQ σ' → Ok (again (x3 + 6, σ')) P) : Ok (J_L_law_1100 N L xs again x3 σ) P := by
  rw [J_L_law_1100.eq_1]
  refine ok_aX hx hL (by decide) (by decide) ?_
  refine ok_aX hx hL (by decide) (by decide) ?_
  refine ok_gC rfl ?_
  refine ok_zb (ok_pt (ok_pt (wc_within hN hI) (tc_within hN hI)) (pt_w (vl_within_ (isWc4 (IV_4 hI)) hI.1.1.1 rfl) (fun r h => h.1))) (fun v206 σ207 hv206 => ?_)
  have uv206 := hv206.2
  have tv206 := hv206.1.2
  have hv206 := hv206.1.1
  have hEv206 := hI.2
  have hI0 := hI
  have hW0 := hW
  have hF0 := hF
  have hI : IV σ207 := hv206
  refine ok_aX hx hL (by decide) (by decide) ?_
  refine ok_aX hx hL (by decide) (by decide) ?_
  refine ok_gC rfl ?_
  refine ok_zb (ok_pt (ok_pt (wr_within hN hI) (tr_within hN hI.1.1 hI.1.2)) (jf_X12_within rfl)) (fun v210 σ211 hv210 => ?_)
  have uv210 := hv210.2
  have tv210 := hv210.1.2
  have hv210 := hv210.1.1
  have hI : IV σ211 := hv210
  have hW : WQ σ211 := sim_f hI0 hW0 tv206 tv210 (by decide)
  have hF : FQ σ211 := fs_0 hI0 hF0 tv206 tv210 (by decide) uv206 uv210
  exact ih σ211 ⟨hI, hW, hF⟩

theorem lc_1133 {P : Int32 × zS → Prop} {N L : Nat} {xs : Nat → Int32} {again : Int32 × zS → Option (Int32 × zS)} {x3 : Int32} {σ : zS} (hN : 1048576 ≤ N) (hx : 0 ≤ x3.toInt ∧ x3.toInt + 6 ≤ (L : Int)) (hL : L ≤ 384) (hI : IV σ) (hW : WQ σ) (hF : FQ σ) (ih : ∀ σ', IV σ' ∧ WQ σ' ∧ FQ σ' → Ok (again (x3 + 6, σ')) P) : Ok (J_L_law_1133 N L xs again x3 σ) P := by
  rw [J_L_law_1133.eq_1]
  refine ok_aX hx hL (by decide) (by decide) ?_
  refine ok_aX hx hL (by decide) (by decide) ?_
  refine ok_gC rfl ?_
  refine ok_zb (ok_pt (ok_pt (wc_dual hN hI) (tc_dual hN hI)) (pt_w (vl_dual_ (isWc4 (IV_4 hI)) hI.1.1.1 rfl (CF_n hI rfl) (FQ_FI hF hW)) (fun r h => h.1))) (fun v214 σ215 hv214 => ?_)
  have uv214 := hv214.2
  have tv214 := hv214.1.2
  have hv214 := hv214.1.1
  have hEv214 := hI.2
  have hI0 := hI
  have hW0 := hW
  have hF0 := hF
  have hI : IV σ215 := hv214
  refine ok_aX hx hL (by decide) (by decide) ?_
  refine ok_aX hx hL (by decide) (by decide) ?_
  refine ok_gC rfl ?_
  refine ok_zb (ok_pt (ok_pt (wr_dual hN hI) (tr_dual hN hI.1.1 hI.1.2)) (jf_X12_dual rfl)) (fun v218 σ219 hv218 => ?_)
  have uv218 := hv218.2
  have tv218 := hv218.1.2
  have hv218 := hv218.1.1
  have hI : IV σ219 := hv218
  have hW : WQ σ219 := sim_f hI0 hW0 tv214 tv218 (by decide)
  have hF : FQ σ219 := fs_0 hI0 hF0 tv214 tv218 (by decide) uv214 uv218
  exact ih σ219 ⟨hI, hW, hF⟩

theorem lc_1166 {P : Int32 × zS → Prop} {N L : Nat} {xs : Nat → Int32} {again : Int32 × zS → Option (Int32 × zS)} {x3 : Int32} {σ : zS} (hN : 1048576 ≤ N) (hx : 0 ≤ x3.toInt ∧ x3.toInt + 6 ≤ (L : Int)) (hL : L ≤ 384) (hI : IV σ) (hW : WQ σ) (hF : FQ σ) (ih : ∀ σ', IV σ' ∧ WQ σ' ∧ FQ σ' → Ok (again (x3 + 6, σ')) P) : Ok (J_L_law_1166 N L xs again x3 σ) P := by
  rw [J_L_law_1166.eq_1]
  refine ok_aX hx hL (by decide) (by decide) ?_
  refine ok_aX hx hL (by decide) (by decide) ?_
  refine ok_gC rfl ?_
  refine ok_zb (ok_pt (ok_pt (wc_apart hN hI) (tc_apart hN hI)) (jf_X11_apart rfl)) (fun v222 σ223 hv222 => ?_)
  have uv222 := hv222.2
  have tv222 := hv222.1.2
  have hv222 := hv222.1.1
  have hEv222 := hI.2
  have hI0 := hI
  have hW0 := hW
  have hF0 := hF
  have hI : IV σ223 := hv222
  refine ok_aX hx hL (by decide) (by decide) ?_
  refine ok_aX hx hL (by decide) (by decide) ?_
  refine ok_gC rfl ?_
  refine ok_zb (ok_pt (ok_pt (wr_apart hN hI) (tr_apart hN hI.1.1 hI.1.2)) (jf_X12_apart rfl)) (fun v226 σ227 hv226 => ?_)
  have uv226 := hv226.2
  have tv226 := hv226.1.2
  have hv226 := hv226.1.1
  have hI : IV σ227 := hv226
  have hW : WQ σ227 := sim_f hI0 hW0 tv222 tv226 (by decide)
  have hF : FQ σ227 := fs_0 hI0 hF0 tv222 tv226 (by decide) (jlw uv222) uv226
  exact ih σ227 ⟨hI, hW, hF⟩

theorem lc_1199 {P : Int32 × zS → Prop} {N L : Nat} {xs : Nat → Int32} {again : Int32 × zS → Option (Int32 × zS)} {x3 : Int32} {σ : zS} (hN : 1048576 ≤ N) (hx : 0 ≤ x3.toInt ∧ x3.toInt + 6 ≤ (L : Int)) (hL : L ≤ 384) (hI : IV σ) (hW : WQ σ) (hF : FQ σ) (ih : ∀ σ', IV σ' ∧ WQ σ' ∧ FQ σ' → Ok (again (x3 + 6, σ')) P) : Ok (J_L_law_1199 N L xs again x3 σ) P := by
  rw [J_L_law_1199.eq_1]
  refine ok_aX hx hL (by decide) (by decide) ?_
  refine ok_aX hx hL (by decide) (by decide) ?_
  refine ok_gC rfl ?_
  refine ok_zb (ok_pt (ok_pt (wc_packs hN hI) (tc_packs hN hI)) (jf_X11_packs rfl)) (fun v230 σ231 hv230 => ?_)
  have uv230 := hv230.2
  have tv230 := hv230.1.2
  have hv230 := hv230.1.1
  have hEv230 := hI.2
  have hI0 := hI
  have hW0 := hW
  have hF0 := hF
  have hI : IV σ231 := hv230
  refine ok_aX hx hL (by decide) (by decide) ?_
  refine ok_aX hx hL (by decide) (by decide) ?_
  refine ok_gC rfl ?_
  refine ok_zb (ok_pt (ok_pt (wr_packs hN hI) (tr_packs hN hI.1.1 hI.1.2)) (jf_X12_packs rfl)) (fun v234 σ235 hv234 => ?_)
  have uv234 := hv234.2
  have tv234 := hv234.1.2
  have hv234 := hv234.1.1
  have hI : IV σ235 := hv234
  have hW : WQ σ235 := sim_f hI0 hW0 tv230 tv234 (by decide)
  have hF : FQ σ235 := fs_0 hI0 hF0 tv230 tv234 (by decide) (jlw uv230) uv234
  exact ih σ235 ⟨hI, hW, hF⟩

theorem lc_1232 {P : Int32 × zS → Prop} {N L : Nat} {xs : Nat → Int32} {again : Int32 × zS → Option (Int32 × zS)} {x3 : Int32} {σ : zS} (hN : 1048576 ≤ N) (hx : 0 ≤ x3.toInt ∧ x3.toInt + 6 ≤ (L : Int)) (hL : L ≤ 384) (hI : IV σ) (hW : WQ σ) (hF : FQ σ) (ih : ∀ σ', IV σ' ∧ WQ σ' ∧ FQ σ' → Ok (again (x3 + 6, σ')) P) : Ok (J_L_law_1232 N L xs again x3 σ) P := by
  rw [J_L_law_1232.eq_1]
  refine ok_aX hx hL (by decide) (by decide) ?_
  refine ok_gC rfl ?_
  refine ok_zb (ok_pt (ok_pt (wc_nodes hN hI) (tc_nodes hN hI)) (jf_X11_nodes rfl)) (fun v237 σ238 hv237 => ?_)
  have uv237 := hv237.2
  have tv237 := hv237.1.2
  have hv237 := hv237.1.1
  have hEv237 := hI.2
  have hI0 := hI
  have hW0 := hW
  have hF0 := hF
  have hI : IV σ238 := hv237
  refine ok_aX hx hL (by decide) (by decide) ?_
  refine ok_gC rfl ?_
  refine ok_zb (ok_pt (ok_pt (wr_nodes hN hI) (tr_nodes hN hI.1.1 hI.1.2)) (jf_X12_nodes rfl)) (fun v240 σ241 hv240 => ?_)
  have uv240 := hv240.2
  have tv240 := hv240.1.2
  have hv240 := hv240.1.1
  have hI : IV σ241 := hv240
  have hW : WQ σ241 := sim_f hI0 hW0 tv237 tv240 (by decide)
  have hF : FQ σ241 := fs_0 hI0 hF0 tv237 tv240 (by decide) (jlw uv237) uv240
  exact ih σ241 ⟨hI, hW, hF⟩

theorem lc_1255 {P : Int32 × zS → Prop} {N L : Nat} {xs : Nat → Int32} {again : Int32 × zS → Option (Int32 × zS)} {x3 : Int32} {σ : zS} (hN : 1048576 ≤ N) (hx : 0 ≤ x3.toInt ∧ x3.toInt + 6 ≤ (L : Int)) (hL : L ≤ 384) (hI : IV σ) (hW : WQ σ) (hF : FQ σ) (ih : ∀ σ', IV σ' ∧ WQ σ' ∧ FQ σ' → Ok (again (x3 + 6, σ')) P) : Ok (J_L_law_1255 N L xs again x3 σ) P := by
  rw [J_L_law_1255.eq_1]
  refine ok_gC rfl ?_
  refine ok_zb (ok_pt (ok_pt (wc_net hN hI) (tc_net hN hI)) (jf_X11_net rfl)) (fun v242 σ243 hv242 => ?_)
  have uv242 := hv242.2
  have tv242 := hv242.1.2
  have hv242 := hv242.1.1
  have hEv242 := hI.2
  have hI0 := hI
  have hW0 := hW
  have hF0 := hF
  have hI : IV σ243 := hv242
  refine ok_gC rfl ?_
  refine ok_zb (ok_pt (ok_pt (wr_net hN hI) (tr_net hN hI.1.1 hI.1.2)) (jf_X12_net rfl)) (fun v244 σ245 hv244 => ?_)
  have uv244 := hv244.2
  have tv244 := hv244.1.2
  have hv244 := hv244.1.1
  have hI : IV σ245 := hv244
  have hW : WQ σ245 := sim_f hI0 hW0 tv242 tv244 (by decide)
  have hF : FQ σ245 := fs_0 hI0 hF0 tv242 tv244 (by decide) (jlw uv242) uv244
  exact ih σ245 ⟨hI, hW, hF⟩

theorem lc_1268 {P : Int32 × zS → Prop} {N L : Nat} {xs : Nat → Int32} {again : Int32 × zS → Option (Int32 × zS)} {x3 : Int32} {σ : zS} (hN : 1048576 ≤ N) (hx : 0 ≤ x3.toInt ∧ x3.toInt + 6 ≤ (L : Int)) (hL : L ≤ 384) (hI : IV σ) (hW : WQ σ) (hF : FQ σ) (ih : ∀ σ', IV σ' ∧ WQ σ' ∧ FQ σ' → Ok (again (x3 + 6, σ')) P) : Ok (J_L_law_1268 N L xs again x3 σ) P := by
  rw [J_L_law_1268.eq_1]
  refine ok_aX hx hL (by decide) (by decide) ?_
  refine ok_aX hx hL (by decide) (by decide) ?_
  refine ok_gC rfl ?_
  refine ok_zb (ok_pt (ok_pt (wc_wide hN hI) (tc_wide hN hI)) (jf_X11_wide rfl)) (fun v248 σ249 hv248 => ?_)
  have uv248 := hv248.2
  have tv248 := hv248.1.2
  have hv248 := hv248.1.1
  have hEv248 := hI.2
  have hI0 := hI
  have hW0 := hW
  have hF0 := hF
  have hI : IV σ249 := hv248
  refine ok_aX hx hL (by decide) (by decide) ?_
  refine ok_aX hx hL (by decide) (by decide) ?_
  refine ok_gC rfl ?_
  refine ok_zb (ok_pt (ok_pt (wr_wide hN hI) (tr_wide hN hI.1.1 hI.1.2)) (jf_X12_wide rfl)) (fun v252 σ253 hv252 => ?_)
  have uv252 := hv252.2
  have tv252 := hv252.1.2
  have hv252 := hv252.1.1
  have hI : IV σ253 := hv252
  have hW : WQ σ253 := sim_f hI0 hW0 tv248 tv252 (by decide)
  have hF : FQ σ253 := fs_0 hI0 hF0 tv248 tv252 (by decide) (jlw uv248) uv252
  exact ih σ253 ⟨hI, hW, hF⟩

theorem lc_1301 {P : Int32 × zS → Prop} {N L : Nat} {xs : Nat → Int32} {again : Int32 × zS → Option (Int32 × zS)} {x3 : Int32} {σ : zS} (hN : 1048576 ≤ N) (hx : 0 ≤ x3.toInt ∧ x3.toInt + 6 ≤ (L : Int)) (hL : L ≤ 384) (hI : IV σ) (hW : WQ σ) (hF : FQ σ) (ih : ∀ σ', IV σ' ∧ WQ σ' ∧ FQ σ' → Ok (again (x3 + 6, σ')) P) : Ok (J_L_law_1301 N L xs again x3 σ) P := by
  rw [J_L_law_1301.eq_1]
  refine ok_aX hx hL (by decide) (by decide) ?_
  refine ok_gC rfl ?_
  refine ok_zb (ok_pt (ok_pt (wc_order hN hI) (tc_order hN hI)) (jf_X11_order rfl)) (fun v255 σ256 hv255 => ?_)
  have uv255 := hv255.2
  have tv255 := hv255.1.2
  have hv255 := hv255.1.1
  have hEv255 := hI.2
  have hI0 := hI
  have hW0 := hW
  have hF0 := hF
  have hI : IV σ256 := hv255
  refine ok_aX hx hL (by decide) (by decide) ?_
  refine ok_gC rfl ?_
  refine ok_zb (ok_pt (ok_pt (wr_order hN hI) (tr_order hN hI.1.1 hI.1.2)) (jf_X12_order rfl)) (fun v258 σ259 hv258 => ?_)
  have uv258 := hv258.2
  have tv258 := hv258.1.2
  have hv258 := hv258.1.1
  have hI : IV σ259 := hv258
  have hW : WQ σ259 := sim_f hI0 hW0 tv255 tv258 (by decide)
  have hF : FQ σ259 := fs_0 hI0 hF0 tv255 tv258 (by decide) (jlw uv255) uv258
  exact ih σ259 ⟨hI, hW, hF⟩

theorem lc_1324 {P : Int32 × zS → Prop} {N L : Nat} {xs : Nat → Int32} {again : Int32 × zS → Option (Int32 × zS)} {x3 : Int32} {σ : zS} (hN : 1048576 ≤ N) (hx : 0 ≤ x3.toInt ∧ x3.toInt + 6 ≤ (L : Int)) (hL : L ≤ 384) (hI : IV σ) (hW : WQ σ) (hF : FQ σ) (ih : ∀ σ', IV σ' ∧ WQ σ' ∧ FQ σ' → Ok (again (x3 + 6, σ')) P) : Ok (J_L_law_1324 N L xs again x3 σ) P := by
  rw [J_L_law_1324.eq_1]
  refine ok_aX hx hL (by decide) (by decide) ?_
  refine ok_gC rfl ?_
  refine ok_zb (ok_pt (ok_pt (wc_swap hN hI) (tc_swap hN hI)) (jf_X11_swap rfl)) (fun v261 σ262 hv261 => ?_)
  have uv261 := hv261.2
  have tv261 := hv261.1.2
  have hv261 := hv261.1.1
  have hEv261 := hI.2
  have hI0 := hI
  have hW0 := hW
  have hF0 := hF
  have hI : IV σ262 := hv261
  refine ok_aX hx hL (by decide) (by decide) ?_
  refine ok_gC rfl ?_
  refine ok_zb (ok_pt (ok_pt (wr_swap hN hI) (tr_swap hN hI.1.1 hI.1.2)) (jf_X12_swap rfl)) (fun v264 σ265 hv264 => ?_)
  have uv264 := hv264.2
  have tv264 := hv264.1.2
  have hv264 := hv264.1.1
  have hI : IV σ265 := hv264
  have hW : WQ σ265 := sim_o hI0 hW0 tv261 tv264 (by decide) (by decide)
  have hF : FQ σ265 := fs_o hI0 hF0 tv261 tv264 (by decide) (by decide) (jlw uv261) uv264
  exact ih σ265 ⟨hI, hW, hF⟩

theorem lc_1347 {P : Int32 × zS → Prop} {N L : Nat} {xs : Nat → Int32} {again : Int32 × zS → Option (Int32 × zS)} {x3 : Int32} {σ : zS} (hN : 1048576 ≤ N) (hx : 0 ≤ x3.toInt ∧ x3.toInt + 6 ≤ (L : Int)) (hL : L ≤ 384) (hI : IV σ) (hW : WQ σ) (hF : FQ σ) (ih : ∀ σ', IV σ' ∧ WQ σ' ∧ FQ σ' → Ok (again (x3 + 6, σ')) P) : Ok (J_L_law_1347 N L xs again x3 σ) P := by
  rw [J_L_law_1347.eq_1]
  refine ok_aX hx hL (by decide) (by decide) ?_
  refine ok_aX hx hL (by decide) (by decide) ?_
  refine ok_gC rfl ?_
  refine ok_zb (ok_pt (ok_pt (wc_move hN hI) (tc_move hN hI)) (jf_X11_move rfl)) (fun v268 σ269 hv268 => ?_)
  have uv268 := hv268.2
  have tv268 := hv268.1.2
  have hv268 := hv268.1.1
  have hEv268 := hI.2
  have hI0 := hI
  have hW0 := hW
  have hF0 := hF
  have hI : IV σ269 := hv268
  refine ok_aX hx hL (by decide) (by decide) ?_
  refine ok_aX hx hL (by decide) (by decide) ?_
  refine ok_gC rfl ?_
  refine ok_zb (ok_pt (ok_pt (wr_move hN hI) (tr_move hN hI.1.1 hI.1.2)) (jf_X12_move rfl)) (fun v272 σ273 hv272 => ?_)
  have uv272 := hv272.2
  have tv272 := hv272.1.2
  have hv272 := hv272.1.1
  have hI : IV σ273 := hv272
  have hW : WQ σ273 := sim_o hI0 hW0 tv268 tv272 (by decide) (by decide)
  have hF : FQ σ273 := fs_o hI0 hF0 tv268 tv272 (by decide) (by decide) (jlw uv268) uv272
  exact ih σ273 ⟨hI, hW, hF⟩

theorem lc_1380 {P : Int32 × zS → Prop} {N L : Nat} {xs : Nat → Int32} {again : Int32 × zS → Option (Int32 × zS)} {x3 : Int32} {σ : zS} (hN : 1048576 ≤ N) (hx : 0 ≤ x3.toInt ∧ x3.toInt + 6 ≤ (L : Int)) (hL : L ≤ 384) (hI : IV σ) (hW : WQ σ) (hF : FQ σ) (ih : ∀ σ', IV σ' ∧ WQ σ' ∧ FQ σ' → Ok (again (x3 + 6, σ')) P) : Ok (J_L_law_1380 N L xs again x3 σ) P := by
  rw [J_L_law_1380.eq_1]
  refine ok_aX hx hL (by decide) (by decide) ?_
  refine ok_aX hx hL (by decide) (by decide) ?_
  refine ok_gC rfl ?_
  refine ok_zb (ok_pt (ok_pt (wc_best hN hI) (tc_best hN hI)) (of_best hI.1.1.1)) (fun v276 σ277 hv276 => ?_)
  have uv276 := hv276.2
  have tv276 := hv276.1.2
  have hv276 := hv276.1.1
  have hEv276 := hI.2
  have hI0 := hI
  have hW0 := hW
  have hF0 := hF
  have hI : IV σ277 := hv276
  refine ok_aX hx hL (by decide) (by decide) ?_
  refine ok_aX hx hL (by decide) (by decide) ?_
  refine ok_gC rfl ?_
  refine ok_zb (ok_pt (ok_pt (wr_best hN hI) (tr_best hN hI.1.1 hI.1.2)) (jf_X12_best rfl)) (fun v280 σ281 hv280 => ?_)
  have uv280 := hv280.2
  have tv280 := hv280.1.2
  have hv280 := hv280.1.1
  have hI : IV σ281 := hv280
  have hW : WQ σ281 := sim_f hI0 hW0 tv276 tv280 (by decide)
  have hF : FQ σ281 := fs_0 hI0 hF0 tv276 tv280 (by decide) uv276 uv280
  exact ih σ281 ⟨hI, hW, hF⟩

theorem lc_1413 {P : Int32 × zS → Prop} {N L : Nat} {xs : Nat → Int32} {again : Int32 × zS → Option (Int32 × zS)} {x3 : Int32} {σ : zS} (hN : 1048576 ≤ N) (hx : 0 ≤ x3.toInt ∧ x3.toInt + 6 ≤ (L : Int)) (hL : L ≤ 384) (hI : IV σ) (hW : WQ σ) (hF : FQ σ) (ih : ∀ σ', IV σ' ∧ WQ σ' ∧ FQ σ' → Ok (again (x3 + 6, σ')) P) : Ok (J_L_law_1413 N L xs again x3 σ) P := by
  rw [J_L_law_1413.eq_1]
  refine ok_aX hx hL (by decide) (by decide) ?_
  refine ok_gC rfl ?_
  refine ok_zb (ok_pt (ok_pt (wc_sift hN hI) (tc_sift hN hI)) (jf_X11_sift rfl)) (fun v283 σ284 hv283 => ?_)
  have uv283 := hv283.2
  have tv283 := hv283.1.2
  have hv283 := hv283.1.1
  have hEv283 := hI.2
  have hI0 := hI
  have hW0 := hW
  have hF0 := hF
  have hI : IV σ284 := hv283
  refine ok_aX hx hL (by decide) (by decide) ?_
  refine ok_gC rfl ?_
  refine ok_zb (ok_pt (ok_pt (wr_sift hN hI) (tr_sift hN hI.1.1 hI.1.2)) (jf_X12_sift rfl)) (fun v286 σ287 hv286 => ?_)
  have uv286 := hv286.2
  have tv286 := hv286.1.2
  have hv286 := hv286.1.1
  have hI : IV σ287 := hv286
  have hW : WQ σ287 := sim_o hI0 hW0 tv283 tv286 (by decide) (by decide)
  have hF : FQ σ287 := fs_o hI0 hF0 tv283 tv286 (by decide) (by decide) (jlw uv283) uv286
  exact ih σ287 ⟨hI, hW, hF⟩

theorem lc_1436 {P : Int32 × zS → Prop} {N L : Nat} {xs : Nat → Int32} {again : Int32 × zS → Option (Int32 × zS)} {x3 : Int32} {σ : zS} (hN : 1048576 ≤ N) (hx : 0 ≤ x3.toInt ∧ x3.toInt + 6 ≤ (L : Int)) (hL : L ≤ 384) (hI : IV σ) (hW : WQ σ) (hF : FQ σ) (ih : ∀ σ', IV σ' ∧ WQ σ' ∧ FQ σ' → Ok (again (x3 + 6, σ')) P) : Ok (J_L_law_1436 N L xs again x3 σ) P := by
  rw [J_L_law_1436.eq_1]
  refine ok_aX hx hL (by decide) (by decide) ?_
  refine ok_aX hx hL (by decide) (by decide) ?_
  refine ok_aX hx hL (by decide) (by decide) ?_
  refine ok_gC rfl ?_
  refine ok_zb (ok_pt (ok_pt (wc_ways hN hI) (tc_ways hN hI)) (vl_ways (isWc4 (IV_4 hI)) hI.1.1.1 rfl (Ed_x hI hW hF))) (fun v291 σ292 hv291 => ?_)
  have uv291 := hv291.2
  have tv291 := hv291.1.2
  have hv291 := hv291.1.1
  have hEv291 := hI.2
  have hI0 := hI
  have hW0 := hW
  have hF0 := hF
  have hI : IV σ292 := hv291
  refine ok_aX hx hL (by decide) (by decide) ?_
  refine ok_aX hx hL (by decide) (by decide) ?_
  refine ok_aX hx hL (by decide) (by decide) ?_
  refine ok_gC rfl ?_
  refine ok_zb (ok_pt (ok_pt (wr_ways hN hI) (tr_ways hN hI.1.1 hI.1.2)) (pt_and (jf_X12_ways rfl) (vr_ways hI.1.1.1 (RI_n hI.1.2) (EdR_x hI.1.2.1.1 (by rw [tv291.1 219 (by decide)]; exact hF0.2.1.1))))) (fun v296 σ297 hv296 => ?_)
  have uv296 := hv296.2
  have tv296 := hv296.1.2
  have hv296 := hv296.1.1
  have hI : IV σ297 := hv296
  have hW : WQ σ297 := sim_f hI0 hW0 tv291 tv296 (by decide)
  have hfv296 := fs_ways hI0 hW0 hF0 tv291 uv291 tv296 uv296.1 uv296.2
  have hF : FQ σ297 := hfv296.1
  exact ih σ297 ⟨hI, hW, hF⟩

theorem lc_1479 {P : Int32 × zS → Prop} {N L : Nat} {xs : Nat → Int32} {again : Int32 × zS → Option (Int32 × zS)} {x3 : Int32} {σ : zS} (hN : 1048576 ≤ N) (hx : 0 ≤ x3.toInt ∧ x3.toInt + 6 ≤ (L : Int)) (hL : L ≤ 384) (hI : IV σ) (hW : WQ σ) (hF : FQ σ) (ih : ∀ σ', IV σ' ∧ WQ σ' ∧ FQ σ' → Ok (again (x3 + 6, σ')) P) : Ok (J_L_law_1479 N L xs again x3 σ) P := by
  rw [J_L_law_1479.eq_1]
  refine ok_aX hx hL (by decide) (by decide) ?_
  refine ok_aX hx hL (by decide) (by decide) ?_
  refine ok_gC rfl ?_
  refine ok_zb (ok_pt (ok_pt (wc_map hN hI) (tc_map hN hI)) (vl_map (isWc4 (IV_4 hI)) hI.1.1.1 rfl (Ed_x hI hW hF))) (fun v300 σ301 hv300 => ?_)
  have uv300 := hv300.2
  have tv300 := hv300.1.2
  have hv300 := hv300.1.1
  have hEv300 := hI.2
  have hI0 := hI
  have hW0 := hW
  have hF0 := hF
  have hI : IV σ301 := hv300
  refine ok_aX hx hL (by decide) (by decide) ?_
  refine ok_aX hx hL (by decide) (by decide) ?_
  refine ok_gC rfl ?_
  refine ok_zb (ok_pt (ok_pt (wr_map hN hI) (tr_map hN hI.1.1 hI.1.2)) (pt_and (jf_X12_map rfl) (vr_map hI.1.1.1 (RI_n hI.1.2) (EdR_x hI.1.2.1.1 (by rw [tv300.1 219 (by decide)]; exact hF0.2.1.1))))) (fun v304 σ305 hv304 => ?_)
  have uv304 := hv304.2
  have tv304 := hv304.1.2
  have hv304 := hv304.1.1
  have hI : IV σ305 := hv304
  have hW : WQ σ305 := sim_f hI0 hW0 tv300 tv304 (by decide)
  have hfv304 := fs_map hI0 hW0 hF0 tv300 uv300 tv304 uv304.1 uv304.2
  have hF : FQ σ305 := hfv304.1
  exact ih σ305 ⟨hI, hW, hF⟩

theorem lc_1512 {P : Int32 × zS → Prop} {N L : Nat} {xs : Nat → Int32} {again : Int32 × zS → Option (Int32 × zS)} {x3 : Int32} {σ : zS} (hN : 1048576 ≤ N) (hx : 0 ≤ x3.toInt ∧ x3.toInt + 6 ≤ (L : Int)) (hL : L ≤ 384) (hI : IV σ) (hW : WQ σ) (hF : FQ σ) (ih : ∀ σ', IV σ' ∧ WQ σ' ∧ FQ σ' → Ok (again (x3 + 6, σ')) P) : Ok (J_L_law_1512 N L xs again x3 σ) P := by
  rw [J_L_law_1512.eq_1]
  refine ok_aX hx hL (by decide) (by decide) ?_
  refine ok_aX hx hL (by decide) (by decide) ?_
  refine ok_aX hx hL (by decide) (by decide) ?_
  refine ok_gC rfl ?_
  refine ok_zb (ok_pt (ok_pt (wc_cuts hN hI) (tc_cuts hN hI)) (vl_cuts (isWc4 (IV_4 hI)) hI.1.1.1 rfl (Ed_x hI hW hF) (n := (σ.1 219 0).toInt.toNat) (by rw [show σ.1 (σ.2.2 0 4) 0 = σ.1 219 0 from hW.1.1.1]; exact Int32.toInt_inj.mp (by have := RI_n hI.1.2; rw [nI_toInt (by omega)]; omega)) (by have := RI_n hI.1.2; omega) (eM_le hF.2.1.1))) (fun v309 σ310 hv309 => ?_)
  have uv309 := hv309.2
  have tv309 := hv309.1.2
  have hv309 := hv309.1.1
  have hEv309 := hI.2
  have hI0 := hI
  have hW0 := hW
  have hF0 := hF
  have hI : IV σ310 := hv309
  refine ok_aX hx hL (by decide) (by decide) ?_
  refine ok_aX hx hL (by decide) (by decide) ?_
  refine ok_aX hx hL (by decide) (by decide) ?_
  refine ok_gC rfl ?_
  refine ok_zb (ok_pt (ok_pt (wr_cuts hN hI) (tr_cuts hN hI.1.1 hI.1.2)) (pt_and (jf_X12_cuts rfl) (vr_cuts hN hI.1.2.1.1 hI.1.1.1 hI.1.2.2.1 (RI_n hI.1.2) (EdR_x hI.1.2.1.1 (by rw [tv309.1 219 (by decide)]; exact hF0.2.1.1))))) (fun v314 σ315 hv314 => ?_)
  have uv314 := hv314.2
  have tv314 := hv314.1.2
  have hv314 := hv314.1.1
  have hI : IV σ315 := hv314
  have hW : WQ σ315 := sim_f hI0 hW0 tv309 tv314 (by decide)
  have hfv314 := fs_cuts hI0 hW0 hF0 tv309 uv309 tv314 uv314.1 uv314.2
  have hF : FQ σ315 := hfv314.1
  exact ih σ315 ⟨hI, hW, hF⟩

theorem lc_1555 {P : Int32 × zS → Prop} {N L : Nat} {xs : Nat → Int32} {again : Int32 × zS → Option (Int32 × zS)} {x3 : Int32} {σ : zS} (hN : 1048576 ≤ N) (hx : 0 ≤ x3.toInt ∧ x3.toInt + 6 ≤ (L : Int)) (hL : L ≤ 384) (hI : IV σ) (hW : WQ σ) (hF : FQ σ) (ih : ∀ σ', IV σ' ∧ WQ σ' ∧ FQ σ' → Ok (again (x3 + 6, σ')) P) : Ok (J_L_law_1555 N L xs again x3 σ) P := by
  rw [J_L_law_1555.eq_1]
  refine ok_aX hx hL (by decide) (by decide) ?_
  refine ok_aX hx hL (by decide) (by decide) ?_
  refine ok_gC rfl ?_
  refine ok_zb (ok_pt (ok_pt (wc_judge hN hI) (tc_judge hN hI)) (jf_X11_judge rfl)) (fun v318 σ319 hv318 => ?_)
  have uv318 := hv318.2
  have tv318 := hv318.1.2
  have hv318 := hv318.1.1
  have hEv318 := hI.2
  have hI0 := hI
  have hW0 := hW
  have hF0 := hF
  have hI : IV σ319 := hv318
  refine ok_aX hx hL (by decide) (by decide) ?_
  refine ok_aX hx hL (by decide) (by decide) ?_
  refine ok_gC rfl ?_
  refine ok_zb (ok_pt (ok_pt (wr_judge hN hI) (tr_judge hN hI.1.1 hI.1.2)) (jf_X12_judge rfl)) (fun v322 σ323 hv322 => ?_)
  have uv322 := hv322.2
  have tv322 := hv322.1.2
  have hv322 := hv322.1.1
  have hI : IV σ323 := hv322
  have hW : WQ σ323 := sim_f hI0 hW0 tv318 tv322 (by decide)
  have hF : FQ σ323 := fs_0 hI0 hF0 tv318 tv322 (by decide) (jlw uv318) uv322
  exact ih σ323 ⟨hI, hW, hF⟩

theorem lc_1588 {P : Int32 × zS → Prop} {N L : Nat} {xs : Nat → Int32} {again : Int32 × zS → Option (Int32 × zS)} {x3 : Int32} {σ : zS} (hN : 1048576 ≤ N) (hx : 0 ≤ x3.toInt ∧ x3.toInt + 6 ≤ (L : Int)) (hL : L ≤ 384) (hI : IV σ) (hW : WQ σ) (hF : FQ σ) (ih : ∀ σ', IV σ' ∧ WQ σ' ∧ FQ σ' → Ok (again (x3 + 6, σ')) P) : Ok (J_L_law_1588 N L xs again x3 σ) P := by
  rw [J_L_law_1588.eq_1]
  refine ok_aX hx hL (by decide) (by decide) ?_
  refine ok_aX hx hL (by decide) (by decide) ?_
  refine ok_gC rfl ?_
  refine ok_zb (ok_pt (ok_pt (wc_takes hN hI) (tc_takes hN hI)) (vl_takes_ (isWc4 (IV_4 hI)) hI.1.1.1 rfl (CF_n hI rfl) hI.1.1.2.1.2.2.2.2.2.1)) (fun v326 σ327 hv326 => ?_)
  have uv326 := hv326.2
  have tv326 := hv326.1.2
  have hv326 := hv326.1.1
  have hEv326 := hI.2
  have hI0 := hI
  have hW0 := hW
  have hF0 := hF
  have hI : IV σ327 := hv326
  refine ok_aX hx hL (by decide) (by decide) ?_
  refine ok_aX hx hL (by decide) (by decide) ?_
  refine ok_gC rfl ?_
  refine ok_zb (ok_pt (ok_pt (wr_takes_ hN hI) (tr_takes hN hI.1.1 hI.1.2)) (pt_and (jf_X12_takes_ rfl) (vr_takes_ hI.1.1.1 hI.1.2.1.2.2 (RI_n hI.1.2)))) (fun v330 σ331 hv330 => ?_)
  have uv330 := hv330.2
  have tv330 := hv330.1.2
  have hv330 := hv330.1.1
  have hI : IV σ331 := hv330
  have hW : WQ σ331 := sim_f hI0 hW0 tv326 tv330 (by decide)
  have hfv330 := fs_takes hI0 hW0 hF0 tv326 uv326 tv330 uv330.1 uv330.2
  have hF : FQ σ331 := hfv330.1
  exact ih σ331 ⟨hI, hW, hF⟩

theorem lc_1621 {P : Int32 × zS → Prop} {N L : Nat} {xs : Nat → Int32} {again : Int32 × zS → Option (Int32 × zS)} {x3 : Int32} {σ : zS} (hN : 1048576 ≤ N) (hx : 0 ≤ x3.toInt ∧ x3.toInt + 6 ≤ (L : Int)) (hL : L ≤ 384) (hI : IV σ) (hW : WQ σ) (hF : FQ σ) (ih : ∀ σ', IV σ' ∧ WQ σ' ∧ FQ σ' → Ok (again (x3 + 6, σ')) P) : Ok (J_L_law_1621 N L xs again x3 σ) P := by
  rw [J_L_law_1621.eq_1]
  refine ok_aX hx hL (by decide) (by decide) ?_
  refine ok_gC rfl ?_
  refine ok_zb (ok_pt (ok_pt (wc_count hN hI) (tc_count hN hI)) (jf_X11_count rfl)) (fun v333 σ334 hv333 => ?_)
  have uv333 := hv333.2
  have tv333 := hv333.1.2
  have hv333 := hv333.1.1
  have hEv333 := hI.2
  have hI0 := hI
  have hW0 := hW
  have hF0 := hF
  have hI : IV σ334 := hv333
  refine ok_aX hx hL (by decide) (by decide) ?_
  refine ok_gC rfl ?_
  refine ok_zb (ok_pt (ok_pt (wr_count hN hI) (tr_count hN hI.1.1 hI.1.2)) (jf_X12_count rfl)) (fun v336 σ337 hv336 => ?_)
  have uv336 := hv336.2
  have tv336 := hv336.1.2
  have hv336 := hv336.1.1
  have hI : IV σ337 := hv336
  have hW : WQ σ337 := sim_f hI0 hW0 tv333 tv336 (by decide)
  have hF : FQ σ337 := fs_0 hI0 hF0 tv333 tv336 (by decide) (jlw uv333) uv336
  exact ih σ337 ⟨hI, hW, hF⟩

theorem lc_1644 {P : Int32 × zS → Prop} {N L : Nat} {xs : Nat → Int32} {again : Int32 × zS → Option (Int32 × zS)} {x3 : Int32} {σ : zS} (hN : 1048576 ≤ N) (hx : 0 ≤ x3.toInt ∧ x3.toInt + 6 ≤ (L : Int)) (hL : L ≤ 384) (hI : IV σ) (hW : WQ σ) (hF : FQ σ) (ih : ∀ σ', IV σ' ∧ WQ σ' ∧ FQ σ' → Ok (again (x3 + 6, σ')) P) : Ok (J_L_law_1644 N L xs again x3 σ) P := by
  rw [J_L_law_1644.eq_1]
  refine ok_aX hx hL (by decide) (by decide) ?_
  refine ok_gC rfl ?_
  refine ok_zb (ok_pt (ok_pt (wc_keep hN hI) (tc_keep hN hI)) (vy_keep (IV_4 hI) hI.1.1.1 rfl)) (fun v339 σ340 hv339 => ?_)
  have uv339 := hv339.2
  have tv339 := hv339.1.2
  have hv339 := hv339.1.1
  have hEv339 := hI.2
  have hI0 := hI
  have hW0 := hW
  have hF0 := hF
  refine ok_aX hx hL (by decide) (by decide) ?_
  refine ok_gC rfl ?_
  refine ok_zb (ok_pt (ok_pt (wr_keep hN hv339.1.1 hv339.1.2) (tr_keep hN hv339.1.1 hv339.1.2)) (pt_and (jf_X12_keep rfl) (vq_keep hv339.1.1.1 hv339.1.2.2.1))) (fun v342 σ343 hv342 => ?_)
  have uv342 := hv342.2
  have tv342 := hv342.1.2
  have hv342 := hv342.1.1
  have hpv342 := pr_keep hEv339 hv339 hv342
  have hI : IV σ343 := hpv342.1
  have hW : WQ σ343 := sim_keep hI0 hW0 tv339 tv342
  have hF : FQ σ343 := fs_keep (v := v339) hI0 hF0 hv339.2.1 tv339.1 uv339 tv342.1 tv342.2.1 uv342.1 uv342.2
  exact ih σ343 ⟨hI, hW, hF⟩

theorem lc_1667 {P : Int32 × zS → Prop} {N L : Nat} {xs : Nat → Int32} {again : Int32 × zS → Option (Int32 × zS)} {x3 : Int32} {σ : zS} (hN : 1048576 ≤ N) (hx : 0 ≤ x3.toInt ∧ x3.toInt + 6 ≤ (L : Int)) (hL : L ≤ 384) (hI : IV σ) (hW : WQ σ) (hF : FQ σ) (ih : ∀ σ', IV σ' ∧ WQ σ' ∧ FQ σ' → Ok (again (x3 + 6, σ')) P) : Ok (J_L_law_1667 N L xs again x3 σ) P := by
  rw [J_L_law_1667.eq_1]
  refine ok_aX hx hL (by decide) (by decide) ?_
  refine ok_gC rfl ?_
  refine ok_zb (ok_pt (ok_pt (wc_back hN hI) (tc_back hN hI)) (vy_back (IV_4 hI) hI.1.1.1 rfl)) (fun v345 σ346 hv345 => ?_)
  have uv345 := hv345.2
  have tv345 := hv345.1.2
  have hv345 := hv345.1.1
  have hEv345 := hI.2
  have hI0 := hI
  have hW0 := hW
  have hF0 := hF
  have hI : IV σ346 := hv345.1
  refine ok_aX hx hL (by decide) (by decide) ?_
  refine ok_gC rfl ?_
  refine ok_zb (ok_pt (ok_pt (wr_back hN hI) (tr_back hN hI.1.1 hI.1.2)) (pt_and (jf_X12_back rfl) (vq_back hI.1.1.1 hI.1.2.2.1))) (fun v348 σ349 hv348 => ?_)
  have uv348 := hv348.2
  have tv348 := hv348.1.2
  have hv348 := hv348.1.1
  have hev348 := eq_back hEv345 hv345.2 hv348.2
  have hI : IV σ349 := hv348.1
  have hW : WQ σ349 := sim_back hI0 hW0 tv345 tv348
  have hF : FQ σ349 := fs_back (v := v345) hI0 hF0 hv345.2.1 tv345.1 uv345 tv348.1 tv348.2.1 uv348.1 uv348.2
  exact ih σ349 ⟨hI, hW, hF⟩

theorem lc_1690 {P : Int32 × zS → Prop} {N L : Nat} {xs : Nat → Int32} {again : Int32 × zS → Option (Int32 × zS)} {x3 : Int32} {σ : zS} (hN : 1048576 ≤ N) (hx : 0 ≤ x3.toInt ∧ x3.toInt + 6 ≤ (L : Int)) (hL : L ≤ 384) (hI : IV σ) (hW : WQ σ) (hF : FQ σ) (ih : ∀ σ', IV σ' ∧ WQ σ' ∧ FQ σ' → Ok (again (x3 + 6, σ')) P) : Ok (J_L_law_1690 N L xs again x3 σ) P := by
  rw [J_L_law_1690.eq_1]
  refine ok_aX hx hL (by decide) (by decide) ?_
  refine ok_aX hx hL (by decide) (by decide) ?_
  refine ok_aX hx hL (by decide) (by decide) ?_
  refine ok_gC rfl ?_
  refine ok_zb (ok_pt (ok_pt (wc_row hN hI) (tc_row hN hI)) (vl_row hI.1.1.1)) (fun v353 σ354 hv353 => ?_)
  have uv353 := hv353.2
  have tv353 := hv353.1.2
  have hv353 := hv353.1.1
  have hEv353 := hI.2
  have hI0 := hI
  have hW0 := hW
  have hF0 := hF
  refine ok_aX hx hL (by decide) (by decide) ?_
  refine ok_aX hx hL (by decide) (by decide) ?_
  refine ok_aX hx hL (by decide) (by decide) ?_
  refine ok_gC rfl ?_
  refine ok_zb (ok_pt (ok_pt (wr_row hN hv353.1.1 hv353.1.2) (tr_row hN hv353.1.1 hv353.1.2)) (vr_row_ hv353.1.1.1)) (fun v358 σ359 hv358 => ?_)
  have uv358 := hv358.2
  have tv358 := hv358.1.2
  have hv358 := hv358.1.1
  have hpv358 := pr_row hEv353 hv353 hv358
  have hI : IV σ359 := hpv358.1
  have hW : WQ σ359 := sim_f hI0 hW0 tv353 tv358 (by decide)
  have hF : FQ σ359 := fs_row hI0 hF0 hpv358.2 tv353 uv353 tv358 hv358.2.2 uv358
  exact ih σ359 ⟨hI, hW, hF⟩

theorem lc_1733 {P : Int32 × zS → Prop} {N L : Nat} {xs : Nat → Int32} {again : Int32 × zS → Option (Int32 × zS)} {x3 : Int32} {σ : zS} (hN : 1048576 ≤ N) (hx : 0 ≤ x3.toInt ∧ x3.toInt + 6 ≤ (L : Int)) (hL : L ≤ 384) (hI : IV σ) (hW : WQ σ) (hF : FQ σ) (ih : ∀ σ', IV σ' ∧ WQ σ' ∧ FQ σ' → Ok (again (x3 + 6, σ')) P) : Ok (J_L_law_1733 N L xs again x3 σ) P := by
  rw [J_L_law_1733.eq_1]
  refine ok_aX hx hL (by decide) (by decide) ?_
  refine ok_aX hx hL (by decide) (by decide) ?_
  refine ok_aX hx hL (by decide) (by decide) ?_
  refine ok_aX hx hL (by decide) (by decide) ?_
  refine ok_gC rfl ?_
  refine ok_zb (ok_pt (ok_pt (wc_write hN hI) (tc_write hN hI)) (vl_write hI.1.1.1)) (fun v364 σ365 hv364 => ?_)
  have uv364 := hv364.2
  have tv364 := hv364.1.2
  have hv364 := hv364.1.1
  have hEv364 := hI.2
  have hI0 := hI
  have hW0 := hW
  have hF0 := hF
  have hI : IV σ365 := hv364.1
  refine ok_aX hx hL (by decide) (by decide) ?_
  refine ok_aX hx hL (by decide) (by decide) ?_
  refine ok_aX hx hL (by decide) (by decide) ?_
  refine ok_aX hx hL (by decide) (by decide) ?_
  refine ok_gC rfl ?_
  refine ok_zb (ok_pt (ok_pt (wr_write hN hI) (tr_write hN hI.1.1 hI.1.2)) (vr_write_ hI.1.1.1 hI.1.2.1.2.2)) (fun v370 σ371 hv370 => ?_)
  have uv370 := hv370.2
  have tv370 := hv370.1.2
  have hv370 := hv370.1.1
  have hev370 := eq_write hEv364 hv364.2 hv370.2
  have hI : IV σ371 := hv370.1
  have hW : WQ σ371 := sim_f hI0 hW0 tv364 tv370 (by decide)
  have hF : FQ σ371 := fs_write hI0 hF0 hev370 tv364 uv364 tv370 uv370
  exact ih σ371 ⟨hI, hW, hF⟩

theorem lc_1806 {P : Int32 × zS → Prop} {N L : Nat} {xs : Nat → Int32} {again : Int32 × zS → Option (Int32 × zS)} {x3 : Int32} {σ : zS} (hN : 1048576 ≤ N) (hx : 0 ≤ x3.toInt ∧ x3.toInt + 6 ≤ (L : Int)) (hL : L ≤ 384) (hI : IV σ) (hW : WQ σ) (hF : FQ σ) (ih : ∀ σ', IV σ' ∧ WQ σ' ∧ FQ σ' → Ok (again (x3 + 6, σ')) P) : Ok (J_L_law_1806 N L xs again x3 σ) P := by
  rw [J_L_law_1806.eq_1]
  refine ok_aX hx hL (by decide) (by decide) ?_
  refine ok_aX hx hL (by decide) (by decide) ?_
  refine ok_aX hx hL (by decide) (by decide) ?_
  refine ok_aX hx hL (by decide) (by decide) ?_
  refine ok_aX hx hL (by decide) (by decide) ?_
  refine ok_gC rfl ?_
  refine ok_zb (ok_pt (ok_pt (wc_paste hN hI) (tc_paste hN hI)) (vl_paste hI.1.1.1)) (fun v377 σ378 hv377 => ?_)
  have uv377 := hv377.2
  have tv377 := hv377.1.2
  have hv377 := hv377.1.1
  have hEv377 := hI.2
  have hI0 := hI
  have hW0 := hW
  have hF0 := hF
  have hI : IV σ378 := hv377.1
  refine ok_aX hx hL (by decide) (by decide) ?_
  refine ok_aX hx hL (by decide) (by decide) ?_
  refine ok_aX hx hL (by decide) (by decide) ?_
  refine ok_aX hx hL (by decide) (by decide) ?_
  refine ok_aX hx hL (by decide) (by decide) ?_
  refine ok_gC rfl ?_
  refine ok_zb (ok_pt (ok_pt (wr_paste hN hI) (tr_paste hN hI.1.1 hI.1.2)) (vr_paste_ hI.1.1.1 hI.1.2.1.2.2)) (fun v384 σ385 hv384 => ?_)
  have uv384 := hv384.2
  have tv384 := hv384.1.2
  have hv384 := hv384.1.1
  have hev384 := eq_paste hEv377 hv377.2 hv384.2
  have hI : IV σ385 := hv384.1
  have hW : WQ σ385 := sim_f hI0 hW0 tv377 tv384 (by decide)
  have hF : FQ σ385 := fs_paste hI0 hF0 hev384 hv377.2.2 tv377 uv377 tv384 uv384
  exact ih σ385 ⟨hI, hW, hF⟩

set_option maxRecDepth 100000 in
theorem law_ok {N L : Nat} {xs : Nat → Int32} (hN : 1048576 ≤ N) (hL : L ≤ 384) : Ok (f_L_law N L xs zs00) (fun r => r.1 = 1) := by
  have hl : (Int32.ofNat L - 6).toInt = (L : Int) - 6 := by
    rw [ti_sub, ti_ofNat (by omega)]
    simp only [Int32.reduceToInt]
    omega
  rw [f_L_law.eq_1]
  refine ok_lp (fun t : Int32 × zS => (0 ≤ t.1.toInt ∧ t.1.toInt ≤ 400) ∧ IV t.2 ∧ WQ t.2 ∧ FQ t.2) (fun t => (500 - t.1.toInt).toNat) (fun again t hI ih => ?_) N _ ⟨(by decide : 0 ≤ (0 : Int32).toInt ∧ (0 : Int32).toInt ≤ 400), ⟨⟨CI_0, RI_0⟩, EQ_0⟩, WQ_0, FQ_00⟩ (by simp only [Int32.reduceToInt]; omega)
  obtain ⟨x3, σ⟩ := t
  obtain ⟨h0, hI, hW, hF⟩ := hI
  have h0 : 0 ≤ x3.toInt ∧ x3.toInt ≤ 400 := h0
  have hI : IV σ := hI
  have hW : WQ σ := hW
  have hF : FQ σ := hF
  rw [F_L_law_18.eq_1]
  refine ok_if (fun _ => ok_some rfl) (fun hc => ?_)
  rw [Int32.lt_iff_toInt_lt, hl] at hc
  have hx : 0 ≤ x3.toInt ∧ x3.toInt + 6 ≤ (L : Int) := by omega
  have s6 : (x3 + 6).toInt = x3.toInt + 6 := by rw [ti_add]; simp only [Int32.reduceToInt]; omega
  have ih : ∀ σ', IV σ' ∧ WQ σ' ∧ FQ σ' → Ok (again (x3 + 6, σ')) (fun r => r.1 = 1) := fun σ' h1 => ih (x3 + 6, σ') ⟨(by rw [s6]; omega : 0 ≤ (x3 + 6).toInt ∧ (x3 + 6).toInt ≤ 400), h1⟩ (by show (500 - (x3 + 6).toInt).toNat < (500 - x3.toInt).toNat; rw [s6]; omega)
  refine ok_aX0 hx ?_
  refine ok_if (fun _ => lc_236 hN hx hL hI hW hF ih) (fun _ => ?_)
  refine ok_if (fun _ => lc_299 hN hx hL hI hW hF ih) (fun _ => ?_)
  refine ok_if (fun _ => lc_322 hN hx hL hI hW hF ih) (fun _ => ?_)
  refine ok_if (fun _ => lc_335 hN hx hL hI hW hF ih) (fun _ => ?_)
  refine ok_if (fun _ => lc_358 hN hx hL hI hW hF ih) (fun _ => ?_)
  refine ok_if (fun _ => lc_381 hN hx hL hI hW hF ih) (fun _ => ?_)
  refine ok_if (fun _ => lc_404 hN hx hL hI hW hF ih) (fun _ => ?_)
  refine ok_if (fun _ => lc_437 hN hx hL hI hW hF ih) (fun _ => ?_)
  refine ok_if (fun _ => lc_490 hN hx hL hI hW hF ih) (fun _ => ?_)
  refine ok_if (fun _ => lc_533 hN hx hL hI hW hF ih) (fun _ => ?_)
  refine ok_if (fun _ => lc_592 hN hx hL hI hW hF ih) (fun _ => ?_)
  refine ok_if (fun _ => lc_635 hN hx hL hI hW hF ih) (fun _ => ?_)
  refine ok_if (fun _ => lc_704 hN hx hL hI hW hF ih) (fun _ => ?_)
  refine ok_if (fun _ => lc_747 hN hx hL hI hW hF ih) (fun _ => ?_)
  refine ok_if (fun _ => lc_780 hN hx hL hI hW hF ih) (fun _ => ?_)
  refine ok_if (fun _ => lc_813 hN hx hL hI hW hF ih) (fun _ => ?_)
  refine ok_if (fun _ => lc_846 hN hx hL hI hW hF ih) (fun _ => ?_)
  refine ok_if (fun _ => lc_869 hN hx hL hI hW hF ih) (fun _ => ?_)
  refine ok_if (fun _ => lc_902 hN hx hL hI hW hF ih) (fun _ => ?_)
  refine ok_if (fun _ => lc_935 hN hx hL hI hW hF ih) (fun _ => ?_)
  refine ok_if (fun _ => lc_968 hN hx hL hI hW hF ih) (fun _ => ?_)
  refine ok_if (fun _ => lc_1001 hN hx hL hI hW hF ih) (fun _ => ?_)
  refine ok_if (fun _ => lc_1034 hN hx hL hI hW hF ih) (fun _ => ?_)
  refine ok_if (fun _ => lc_1067 hN hx hL hI hW hF ih) (fun _ => ?_)
  refine ok_if (fun _ => lc_1100 hN hx hL hI hW hF ih) (fun _ => ?_)
  refine ok_if (fun _ => lc_1133 hN hx hL hI hW hF ih) (fun _ => ?_)
  refine ok_if (fun _ => lc_1166 hN hx hL hI hW hF ih) (fun _ => ?_)
  refine ok_if (fun _ => lc_1199 hN hx hL hI hW hF ih) (fun _ => ?_)
  refine ok_if (fun _ => lc_1232 hN hx hL hI hW hF ih) (fun _ => ?_)
  refine ok_if (fun _ => lc_1255 hN hx hL hI hW hF ih) (fun _ => ?_)
  refine ok_if (fun _ => lc_1268 hN hx hL hI hW hF ih) (fun _ => ?_)
  refine ok_if (fun _ => lc_1301 hN hx hL hI hW hF ih) (fun _ => ?_)
  refine ok_if (fun _ => lc_1324 hN hx hL hI hW hF ih) (fun _ => ?_)
  refine ok_if (fun _ => lc_1347 hN hx hL hI hW hF ih) (fun _ => ?_)
  refine ok_if (fun _ => lc_1380 hN hx hL hI hW hF ih) (fun _ => ?_)
  refine ok_if (fun _ => lc_1413 hN hx hL hI hW hF ih) (fun _ => ?_)
  refine ok_if (fun _ => lc_1436 hN hx hL hI hW hF ih) (fun _ => ?_)
  refine ok_if (fun _ => lc_1479 hN hx hL hI hW hF ih) (fun _ => ?_)
  refine ok_if (fun _ => lc_1512 hN hx hL hI hW hF ih) (fun _ => ?_)
  refine ok_if (fun _ => lc_1555 hN hx hL hI hW hF ih) (fun _ => ?_)
  refine ok_if (fun _ => lc_1588 hN hx hL hI hW hF ih) (fun _ => ?_)
  refine ok_if (fun _ => lc_1621 hN hx hL hI hW hF ih) (fun _ => ?_)
  refine ok_if (fun _ => lc_1644 hN hx hL hI hW hF ih) (fun _ => ?_)
  refine ok_if (fun _ => lc_1667 hN hx hL hI hW hF ih) (fun _ => ?_)
  refine ok_if (fun _ => lc_1690 hN hx hL hI hW hF ih) (fun _ => ?_)
  refine ok_if (fun _ => lc_1733 hN hx hL hI hW hF ih) (fun _ => ?_)
  refine ok_if (fun _ => lc_1806 hN hx hL hI hW hF ih) (fun _ => ?_)
  exact ih σ ⟨hI, hW, hF⟩
def zN : Nat := 1048576
theorem safe (L : Nat) (xs : Nat → Int32) (hL : L ≤ 384) : ∃ ρ, f_L_law zN L xs zs00 = some ρ ∧ ρ.1 = 1 := law_ok (Nat.le_refl _) hL

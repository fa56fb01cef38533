theorem ok_aX {β : Type} {P : β → Prop} {L : Nat} {xs : Nat → Int32} {x3 j : Int32} {f : Int32 → Option β} (hx : 0 ≤ x3.toInt ∧ x3.toInt + 6 ≤ (L : Int)) (hL : L ≤ 384) (h0 : 0 ≤ j.toInt) (h1 : j.toInt ≤ 5) (h : Ok (f (xs (x3 + j).toNatClampNeg)) P) : Ok (zl (aX L xs (x3 + j)) f) P := by
  refine ok_zl (if_pos ?_) h
  rw [ti_add]; omega
theorem ok_aX0 {β : Type} {P : β → Prop} {L : Nat} {xs : Nat → Int32} {x3 : Int32} {f : Int32 → Option β} (hx : 0 ≤ x3.toInt ∧ x3.toInt + 6 ≤ (L : Int)) (h : Ok (f (xs x3.toNatClampNeg)) P) : Ok (zl (aX L xs x3) f) P := by
  refine ok_zl (if_pos ?_) h
  omega
theorem jlw {σ τ : zS} (h : τ.2.1 = σ.2.1) : LW σ τ := fun a _ => by rw [h]

theorem lc_236 {P : Int32 × zS → Prop} {N L : Nat} {xs : Nat → Int32} {again : Int32 × zS → Option (Int32 × zS)} {x3 : Int32} {σ : zS} (hN : 1048576 ≤ N) (hx : 0 ≤ x3.toInt ∧ x3.toInt + 6 ≤ (L : Int)) (hL : L ≤ 384) (hI : IV σ) (hW : WQ σ) (hF : FQ σ) (ih : ∀ σ', IV σ' ∧ WQ σ' ∧ FQ σ' → Ok (again (x3 + 6, σ')) P) : Ok (J_L_law_236 N L xs again x3 σ) P := by
  rw [J_L_law_236.eq_1]
  refine ok_aX hx hL (by decide) (by decide) ?_
  refine ok_aX hx hL (by decide) (by decide) ?_
  refine ok_aX hx hL (by decide) (by decide) ?_
  refine ok_aX hx hL (by decide) (by decide) ?_
  refine ok_aX hx hL (by decide) (by decide) ?_
  refine ok_gC rfl ?_
  refine ok_zb (ok_pt (ok_pt (wc_feed hN hI) (tc_feed hN hI)) (jf_X11_feed rfl)) (fun v7 σ8 hv7 => ?_)
  have uv7 := hv7.2
  have tv7 := hv7.1.2
  have hv7 := hv7.1.1
  have hEv7 := hI.2
  have hI0 := hI
  have hW0 := hW
  have hF0 := hF
  refine ok_aX hx hL (by decide) (by decide) ?_
  refine ok_aX hx hL (by decide) (by decide) ?_
  refine ok_aX hx hL (by decide) (by decide) ?_
  refine ok_aX hx hL (by decide) (by decide) ?_
  refine ok_aX hx hL (by decide) (by decide) ?_
  refine ok_gC rfl ?_
  refine ok_zb (ok_pt (ok_pt (wr_feed hN hv7.1.1 hv7.1.2) (tr_feed hN hv7.1.1 hv7.1.2)) (jf_X12_feed rfl)) (fun v14 σ15 hv14 => ?_)
  have uv14 := hv14.2
  have tv14 := hv14.1.2
  have hv14 := hv14.1.1
  have hpv14 := pr_feed hEv7 hv7 hv14
  have hI : IV σ15 := hpv14.1
  have hW : WQ σ15 := sim_f hI0 hW0 tv7 tv14 (by decide)
  have hF : FQ σ15 := fs_0 hI0 hF0 tv7 tv14 (by decide) (jlw uv7) uv14
  exact ih σ15 ⟨hI, hW, hF⟩

theorem lc_299 {P : Int32 × zS → Prop} {N L : Nat} {xs : Nat → Int32} {again : Int32 × zS → Option (Int32 × zS)} {x3 : Int32} {σ : zS} (hN : 1048576 ≤ N) (hx : 0 ≤ x3.toInt ∧ x3.toInt + 6 ≤ (L : Int)) (hL : L ≤ 384) (hI : IV σ) (hW : WQ σ) (hF : FQ σ) (ih : ∀ σ', IV σ' ∧ WQ σ' ∧ FQ σ' → Ok (again (x3 + 6, σ')) P) : Ok (J_L_law_299 N L xs again x3 σ) P := by
  rw [J_L_law_299.eq_1]
  refine ok_aX hx hL (by decide) (by decide) ?_
  refine ok_gC rfl ?_
  refine ok_zb (ok_pt (ok_pt (wc_end hN hI) (tc_end hN hI)) (jf_X11_end rfl)) (fun v17 σ18 hv17 => ?_)
  have uv17 := hv17.2
  have tv17 := hv17.1.2
  have hv17 := hv17.1.1
  have hEv17 := hI.2
  have hI0 := hI
  have hW0 := hW
  have hF0 := hF
  refine ok_aX hx hL (by decide) (by decide) ?_
  refine ok_gC rfl ?_
  refine ok_zb (ok_pt (ok_pt (wr_end hN hv17.1.1 hv17.1.2) (tr_end hN hv17.1.1 hv17.1.2)) (jf_X12_end rfl)) (fun v20 σ21 hv20 => ?_)
  have uv20 := hv20.2
  have tv20 := hv20.1.2
  have hv20 := hv20.1.1
  have hpv20 := pr_end hEv17 hv17 hv20
  have hI : IV σ21 := hpv20.1
  have hW : WQ σ21 := sim_f hI0 hW0 tv17 tv20 (by decide)
  have hF : FQ σ21 := fs_0 hI0 hF0 tv17 tv20 (by decide) (jlw uv17) uv20
  exact ih σ21 ⟨hI, hW, hF⟩

theorem lc_322 {P : Int32 × zS → Prop} {N L : Nat} {xs : Nat → Int32} {again : Int32 × zS → Option (Int32 × zS)} {x3 : Int32} {σ : zS} (hN : 1048576 ≤ N) (hx : 0 ≤ x3.toInt ∧ x3.toInt + 6 ≤ (L : Int)) (hL : L ≤ 384) (hI : IV σ) (hW : WQ σ) (hF : FQ σ) (ih : ∀ σ', IV σ' ∧ WQ σ' ∧ FQ σ' → Ok (again (x3 + 6, σ')) P) : Ok (J_L_law_322 N L xs again x3 σ) P := by
  rw [J_L_law_322.eq_1]
  refine ok_gC rfl ?_
  refine ok_zb (ok_pt (wc_world hN hI) (uc_world hN hI)) (fun v22 σ23 hv22 => ?_)
  have uv22 := hv22.2
  have hv22 := hv22.1
  have hEv22 := hI.2
  have hI0 := hI
  have hW0 := hW
  have hF0 := hF
  refine ok_gC rfl ?_
  refine ok_zb (ok_pt (ok_pt (wr_world hN hv22.1.1 hv22.1.2) (tr_world hN hv22.1.1 hv22.1.2)) (pt_and (jf_X12_world rfl) (vq_world hN hv22.1.1.1 hv22.1.2.2.1 hv22.1.2.2.2.1 hv22.1.2.2.2.2))) (fun v24 σ25 hv24 => ?_)
  have uv24 := hv24.2
  have tv24 := hv24.1.2
  have hv24 := hv24.1.1
  have hpv24 := pr_world hEv22 hv22 hv24
  have hI : IV σ25 := hpv24.1
  have hW : WQ σ25 := sim_world hI0 hW0 hv22 hv24 tv24
  have hF : FQ σ25 := fs_world hI0 hF0 hv22 uv22 tv24 uv24.1 uv24.2
  exact ih σ25 ⟨hI, hW, hF⟩

theorem lc_335 {P : Int32 × zS → Prop} {N L : Nat} {xs : Nat → Int32} {again : Int32 × zS → Option (Int32 × zS)} {x3 : Int32} {σ : zS} (hN : 1048576 ≤ N) (hx : 0 ≤ x3.toInt ∧ x3.toInt + 6 ≤ (L : Int)) (hL : L ≤ 384) (hI : IV σ) (hW : WQ σ) (hF : FQ σ) (ih : ∀ σ', IV σ' ∧ WQ σ' ∧ FQ σ' → Ok (again (x3 + 6, σ')) P) : Ok (J_L_law_335 N L xs again x3 σ) P := by
  rw [J_L_law_335.eq_1]
  refine ok_aX hx hL (by decide) (by decide) ?_
  refine ok_gC rfl ?_
  refine ok_zb (ok_pt (ok_pt (wc_put hN hI) (tc_put hN hI)) (uc_put hN hI hF hW)) (fun v27 σ28 hv27 => ?_)
  have uv27 := hv27.2
  have tv27 := hv27.1.2
  have hv27 := hv27.1.1
  have hEv27 := hI.2
  have hI0 := hI
  have hW0 := hW
  have hF0 := hF
  refine ok_aX hx hL (by decide) (by decide) ?_
  refine ok_gC rfl ?_
  refine ok_zb (ok_pt (ok_pt (wr_put hN hv27.1.1 hv27.1.2) (tr_put hN hv27.1.1 hv27.1.2)) (pt_and (jf_X12_put rfl) (ur_put hN hv27.1.1 hv27.1.2 (fun p hp u hu h => by rw [tv27.1 220 (by decide)] at h; rw [tv27.1 219 (by decide)]; exact FQ_i hF0 hp hu h)))) (fun v30 σ31 hv30 => ?_)
  have uv30 := hv30.2
  have tv30 := hv30.1.2
  have hv30 := hv30.1.1
  have hpv30 := pr_put hEv27 hv27 hv30
  have hI : IV σ31 := hpv30
  have hW : WQ σ31 := sim_f hI0 hW0 tv27 tv30 (by decide)
  have hfv30 := fs_put hI0 hW0 hF0 tv27 uv27 tv30 uv30.1 uv30.2
  have hF : FQ σ31 := hfv30.1
  exact ih σ31 ⟨hI, hW, hF⟩

theorem lc_358 {P : Int32 × zS → Prop} {N L : Nat} {xs : Nat → Int32} {again : Int32 × zS → Option (Int32 × zS)} {x3 : Int32} {σ : zS} (hN : 1048576 ≤ N) (hx : 0 ≤ x3.toInt ∧ x3.toInt + 6 ≤ (L : Int)) (hL : L ≤ 384) (hI : IV σ) (hW : WQ σ) (hF : FQ σ) (ih : ∀ σ', IV σ' ∧ WQ σ' ∧ FQ σ' → Ok (again (x3 + 6, σ')) P) : Ok (J_L_law_358 N L xs again x3 σ) P := by
  rw [J_L_law_358.eq_1]
  refine ok_aX hx hL (by decide) (by decide) ?_
  refine ok_gC rfl ?_
  refine ok_zb (ok_pt (ok_pt (wc_fault hN hI) (tc_fault hN hI)) (jf_X11_fault rfl)) (fun v33 σ34 hv33 => ?_)
  have uv33 := hv33.2
  have tv33 := hv33.1.2
  have hv33 := hv33.1.1
  have hEv33 := hI.2
  have hI0 := hI
  have hW0 := hW
  have hF0 := hF
  have hI : IV σ34 := hv33
  refine ok_aX hx hL (by decide) (by decide) ?_
  refine ok_gC rfl ?_
  refine ok_zb (ok_pt (ok_pt (wr_fault hN hI) (tr_fault hN hI.1.1 hI.1.2)) (jf_X12_fault rfl)) (fun v36 σ37 hv36 => ?_)
  have uv36 := hv36.2
  have tv36 := hv36.1.2
  have hv36 := hv36.1.1
  have hI : IV σ37 := hv36
  have hW : WQ σ37 := sim_f hI0 hW0 tv33 tv36 (by decide)
  have hF : FQ σ37 := fs_0 hI0 hF0 tv33 tv36 (by decide) (jlw uv33) uv36
  exact ih σ37 ⟨hI, hW, hF⟩

theorem lc_381 {P : Int32 × zS → Prop} {N L : Nat} {xs : Nat → Int32} {again : Int32 × zS → Option (Int32 × zS)} {x3 : Int32} {σ : zS} (hN : 1048576 ≤ N) (hx : 0 ≤ x3.toInt ∧ x3.toInt + 6 ≤ (L : Int)) (hL : L ≤ 384) (hI : IV σ) (hW : WQ σ) (hF : FQ σ) (ih : ∀ σ', IV σ' ∧ WQ σ' ∧ FQ σ' → Ok (again (x3 + 6, σ')) P) : Ok (J_L_law_381 N L xs again x3 σ) P := by
  rw [J_L_law_381.eq_1]
  refine ok_aX hx hL (by decide) (by decide) ?_
  refine ok_gC rfl ?_
  refine ok_zb (ok_pt (ok_pt (wc_size hN hI) (tc_size hN hI)) (jf_X11_size rfl)) (fun v39 σ40 hv39 => ?_)
  have uv39 := hv39.2
  have tv39 := hv39.1.2
  have hv39 := hv39.1.1
  have hEv39 := hI.2
  have hI0 := hI
  have hW0 := hW
  have hF0 := hF
  have hI : IV σ40 := hv39
  refine ok_aX hx hL (by decide) (by decide) ?_
  refine ok_gC rfl ?_
  refine ok_zb (ok_pt (ok_pt (wr_size hN hI) (tr_size hN hI.1.1 hI.1.2)) (jf_X12_size rfl)) (fun v42 σ43 hv42 => ?_)
  have uv42 := hv42.2
  have tv42 := hv42.1.2
  have hv42 := hv42.1.1
  have hI : IV σ43 := hv42
  have hW : WQ σ43 := sim_f hI0 hW0 tv39 tv42 (by decide)
  have hF : FQ σ43 := fs_0 hI0 hF0 tv39 tv42 (by decide) (jlw uv39) uv42
  exact ih σ43 ⟨hI, hW, hF⟩

theorem lc_404 {P : Int32 × zS → Prop} {N L : Nat} {xs : Nat → Int32} {again : Int32 × zS → Option (Int32 × zS)} {x3 : Int32} {σ : zS} (hN : 1048576 ≤ N) (hx : 0 ≤ x3.toInt ∧ x3.toInt + 6 ≤ (L : Int)) (hL : L ≤ 384) (hI : IV σ) (hW : WQ σ) (hF : FQ σ) (ih : ∀ σ', IV σ' ∧ WQ σ' ∧ FQ σ' → Ok (again (x3 + 6, σ')) P) : Ok (J_L_law_404 N L xs again x3 σ) P := by
  rw [J_L_law_404.eq_1]
  refine ok_aX hx hL (by decide) (by decide) ?_
  refine ok_aX hx hL (by decide) (by decide) ?_
  refine ok_gC rfl ?_
  refine ok_zb (ok_pt (ok_pt (wc_has hN hI) (tc_has hN hI)) (jf_X11_has rfl)) (fun v46 σ47 hv46 => ?_)
  have uv46 := hv46.2
  have tv46 := hv46.1.2
  have hv46 := hv46.1.1
  have hEv46 := hI.2
  have hI0 := hI
  have hW0 := hW
  have hF0 := hF
  have hI : IV σ47 := hv46
  refine ok_aX hx hL (by decide) (by decide) ?_
  refine ok_aX hx hL (by decide) (by decide) ?_
  refine ok_gC rfl ?_
  refine ok_zb (ok_pt (ok_pt (wr_has hN hI) (tr_has hN hI.1.1 hI.1.2)) (jf_X12_has rfl)) (fun v50 σ51 hv50 => ?_)
  have uv50 := hv50.2
  have tv50 := hv50.1.2
  have hv50 := hv50.1.1
  have hI : IV σ51 := hv50
  have hW : WQ σ51 := sim_f hI0 hW0 tv46 tv50 (by decide)
  have hF : FQ σ51 := fs_0 hI0 hF0 tv46 tv50 (by decide) (jlw uv46) uv50
  exact ih σ51 ⟨hI, hW, hF⟩

theorem lc_437 {P : Int32 × zS → Prop} {N L : Nat} {xs : Nat → Int32} {again : Int32 × zS → Option (Int32 × zS)} {x3 : Int32} {σ : zS} (hN : 1048576 ≤ N) (hx : 0 ≤ x3.toInt ∧ x3.toInt + 6 ≤ (L : Int)) (hL : L ≤ 384) (hI : IV σ) (hW : WQ σ) (hF : FQ σ) (ih : ∀ σ', IV σ' ∧ WQ σ' ∧ FQ σ' → Ok (again (x3 + 6, σ')) P) : Ok (J_L_law_437 N L xs again x3 σ) P := by
  rw [J_L_law_437.eq_1]
  refine ok_aX hx hL (by decide) (by decide) ?_
  refine ok_aX hx hL (by decide) (by decide) ?_
  refine ok_aX hx hL (by decide) (by decide) ?_
  refine ok_aX hx hL (by decide) (by decide) ?_
  refine ok_gC rfl ?_
  refine ok_zb (ok_pt (ok_pt (wc_makes hN hI) (tc_makes hN hI)) (vl_makes (isWc4 (IV_4 hI)) hI.1.1.1 rfl (CF_n hI rfl) (FQ_FI hF hW))) (fun v56 σ57 hv56 => ?_)
  have uv56 := hv56.2
  have tv56 := hv56.1.2
  have hv56 := hv56.1.1
  have hEv56 := hI.2
  have hI0 := hI
  have hW0 := hW
  have hF0 := hF
  have hI : IV σ57 := hv56
  refine ok_aX hx hL (by decide) (by decide) ?_
  refine ok_aX hx hL (by decide) (by decide) ?_
  refine ok_aX hx hL (by decide) (by decide) ?_
  refine ok_aX hx hL (by decide) (by decide) ?_
  refine ok_gC rfl ?_
  refine ok_zb (ok_pt (ok_pt (wr_makes hN hI) (tr_makes hN hI.1.1 hI.1.2)) (pt_and (jf_X12_makes rfl) (vr_makes hN hI.1.1.1 hI.1.2.2.1 (RI_n hI.1.2)))) (fun v62 σ63 hv62 => ?_)
  have uv62 := hv62.2
  have tv62 := hv62.1.2
  have hv62 := hv62.1.1
  have hI : IV σ63 := hv62
  have hW : WQ σ63 := sim_f hI0 hW0 tv56 tv62 (by decide)
  have hfv62 := fs_makes hI0 hW0 hF0 tv56 uv56 tv62 uv62.1 uv62.2
  have hF : FQ σ63 := hfv62.1
  exact ih σ63 ⟨hI, hW, hF⟩

theorem lc_490 {P : Int32 × zS → Prop} {N L : Nat} {xs : Nat → Int32} {again : Int32 × zS → Option (Int32 × zS)} {x3 : Int32} {σ : zS} (hN : 1048576 ≤ N) (hx : 0 ≤ x3.toInt ∧ x3.toInt + 6 ≤ (L : Int)) (hL : L ≤ 384) (hI : IV σ) (hW : WQ σ) (hF : FQ σ) (ih : ∀ σ', IV σ' ∧ WQ σ' ∧ FQ σ' → Ok (again (x3 + 6, σ')) P) : Ok (J_L_law_490 N L xs again x3 σ) P := by
  rw [J_L_law_490.eq_1]
  refine ok_aX hx hL (by decide) (by decide) ?_
  refine ok_aX hx hL (by decide) (by decide) ?_
  refine ok_aX hx hL (by decide) (by decide) ?_
  refine ok_gC rfl ?_
  refine ok_zb (ok_pt (ok_pt (wc_turn hN hI) (tc_turn hN hI)) (vl_turn (isWc4 (IV_4 hI)) hI.1.1.1 rfl (CF_n hI rfl) (FQ_FI hF hW))) (fun v67 σ68 hv67 => ?_)
  have uv67 := hv67.2
  have tv67 := hv67.1.2
  have hv67 := hv67.1.1
  have hEv67 := hI.2
  have hI0 := hI
  have hW0 := hW
  have hF0 := hF
  have hI : IV σ68 := hv67
  refine ok_aX hx hL (by decide) (by decide) ?_
  refine ok_aX hx hL (by decide) (by decide) ?_
  refine ok_aX hx hL (by decide) (by decide) ?_
  refine ok_gC rfl ?_
  refine ok_zb (ok_pt (ok_pt (wr_turn hN hI) (tr_turn hN hI.1.1 hI.1.2)) (pt_and (jf_X12_turn rfl) (vr_turn hN hI.1.1.1 hI.1.2.2.1 (RI_n hI.1.2)))) (fun v72 σ73 hv72 => ?_)
  have uv72 := hv72.2
  have tv72 := hv72.1.2
  have hv72 := hv72.1.1
  have hI : IV σ73 := hv72
  have hW : WQ σ73 := sim_f hI0 hW0 tv67 tv72 (by decide)
  have hfv72 := fs_turn hI0 hW0 hF0 tv67 uv67 tv72 uv72.1 uv72.2
  have hF : FQ σ73 := hfv72.1
  exact ih σ73 ⟨hI, hW, hF⟩

theorem lc_557 {P : Int32 × zS → Prop} {N L : Nat} {xs : Nat → Int32} {again : Int32 × zS → Option (Int32 × zS)} {x3 : Int32} {y0 : Int32} {y1 : Int32} {y2 : Int32} {σ : zS} (hN : 1048576 ≤ N) (hx : 0 ≤ x3.toInt ∧ x3.toInt + 6 ≤ (L : Int)) (hL : L ≤ 384) (hI : IV σ) (hW : WQ σ) (hF : FQ σ) (ih : ∀ σ', IV σ' ∧ WQ σ' ∧ FQ σ' → Ok (again (x3 + 6, σ')) P) (hyb : y0 = if xs (x3 + 3).toNatClampNeg = 0 then 0 else 1) (hy1 : y1 = xs (x3 + 2).toNatClampNeg) (hy2 : y2 = xs (x3 + 1).toNatClampNeg) : Ok (J_L_law_557 N L xs again x3 y0 y1 y2 0 σ) P := by
  have hb01 : y0 = 0 ∨ y0 = 1 := by rw [hyb]; split; exact Or.inl rfl; exact Or.inr rfl
  subst hy1
  subst hy2
  rw [J_L_law_557.eq_1]
  refine ok_gC rfl ?_
  refine ok_zb (ok_pt (ok_pt (wc_sets hN hI) (tc_sets hN hI)) (vl_sets (isWc4 (IV_4 hI)) hI.1.1.1 rfl (CF_n hI rfl) hb01)) (fun v77 σ78 hv77 => ?_)
  have uv77 := hv77.2
  have tv77 := hv77.1.2
  have hv77 := hv77.1.1
  have hEv77 := hI.2
  have hI0 := hI
  have hW0 := hW
  have hF0 := hF
  have hI : IV σ78 := hv77
  refine ok_aX hx hL (by decide) (by decide) ?_
  refine ok_aX hx hL (by decide) (by decide) ?_
  refine ok_aX hx hL (by decide) (by decide) ?_
  refine ok_if (fun q1 => ?_) (fun q1 => ?_)
  · rw [if_pos q1] at hyb
    subst hyb
    refine ok_gC rfl ?_
    refine ok_zb (ok_pt (ok_pt (wr_sets hN hI) (tr_sets hN hI.1.1 hI.1.2)) (pt_and (jf_X12_sets rfl) (vr_sets hI.1.1.1 (RI_n hI.1.2) (Or.inl rfl)))) (fun v82 σ83 hv82 => ?_)
    have uv82 := hv82.2
    have tv82 := hv82.1.2
    have hv82 := hv82.1.1
    have hI : IV σ83 := hv82
    have hW : WQ σ83 := sim_f hI0 hW0 tv77 tv82 (by decide)
    have hfv82 := fs_sets hI0 hW0 hF0 (Or.inl rfl) tv77 uv77 tv82 uv82.1 uv82.2
    have hF : FQ σ83 := hfv82.1
    exact ih σ83 ⟨hI, hW, hF⟩
  · rw [if_neg q1] at hyb
    subst hyb
    refine ok_gC rfl ?_
    refine ok_zb (ok_pt (ok_pt (wr_sets hN hI) (tr_sets hN hI.1.1 hI.1.2)) (pt_and (jf_X12_sets rfl) (vr_sets hI.1.1.1 (RI_n hI.1.2) (Or.inr rfl)))) (fun v84 σ85 hv84 => ?_)
    have uv84 := hv84.2
    have tv84 := hv84.1.2
    have hv84 := hv84.1.1
    have hI : IV σ85 := hv84
    have hW : WQ σ85 := sim_f hI0 hW0 tv77 tv84 (by decide)
    have hfv84 := fs_sets hI0 hW0 hF0 (Or.inr rfl) tv77 uv77 tv84 uv84.1 uv84.2
    have hF : FQ σ85 := hfv84.1
    exact ih σ85 ⟨hI, hW, hF⟩

theorem lc_533 {P : Int32 × zS → Prop} {N L : Nat} {xs : Nat → Int32} {again : Int32 × zS → Option (Int32 × zS)} {x3 : Int32} {σ : zS} (hN : 1048576 ≤ N) (hx : 0 ≤ x3.toInt ∧ x3.toInt + 6 ≤ (L : Int)) (hL : L ≤ 384) (hI : IV σ) (hW : WQ σ) (hF : FQ σ) (ih : ∀ σ', IV σ' ∧ WQ σ' ∧ FQ σ' → Ok (again (x3 + 6, σ')) P) : Ok (J_L_law_533 N L xs again x3 σ) P := by
  rw [J_L_law_533.eq_1]
  refine ok_aX hx hL (by decide) (by decide) ?_
  refine ok_aX hx hL (by decide) (by decide) ?_
  refine ok_aX hx hL (by decide) (by decide) ?_
  refine ok_if (fun q1 => ?_) (fun q1 => ?_)
  · exact lc_557 hN hx hL hI hW hF ih (if_pos q1).symm rfl rfl
  · exact lc_557 hN hx hL hI hW hF ih (if_neg q1).symm rfl rfl

theorem lc_592 {P : Int32 × zS → Prop} {N L : Nat} {xs : Nat → Int32} {again : Int32 × zS → Option (Int32 × zS)} {x3 : Int32} {σ : zS} (hN : 1048576 ≤ N) (hx : 0 ≤ x3.toInt ∧ x3.toInt + 6 ≤ (L : Int)) (hL : L ≤ 384) (hI : IV σ) (hW : WQ σ) (hF : FQ σ) (ih : ∀ σ', IV σ' ∧ WQ σ' ∧ FQ σ' → Ok (again (x3 + 6, σ')) P) : Ok (J_L_law_592 N L xs again x3 σ) P := by
  rw [J_L_law_592.eq_1]
  refine ok_aX hx hL (by decide) (by decide) ?_
  refine ok_aX hx hL (by decide) (by decide) ?_
  refine ok_aX hx hL (by decide) (by decide) ?_
  refine ok_gC rfl ?_
  refine ok_zb (ok_pt (ok_pt (wc_change hN hI) (tc_change hN hI)) (vl_change (isWc4 (IV_4 hI)) hI.1.1.1 rfl (CF_n hI rfl) (FQ_FI hF hW))) (fun v89 σ90 hv89 => ?_)
  have uv89 := hv89.2
  have tv89 := hv89.1.2
  have hv89 := hv89.1.1
  have hEv89 := hI.2
  have hI0 := hI
  have hW0 := hW
  have hF0 := hF
  have hI : IV σ90 := hv89
  refine ok_aX hx hL (by decide) (by decide) ?_
  refine ok_aX hx hL (by decide) (by decide) ?_
  refine ok_aX hx hL (by decide) (by decide) ?_
  refine ok_gC rfl ?_
  refine ok_zb (ok_pt (ok_pt (wr_change hN hI) (tr_change hN hI.1.1 hI.1.2)) (pt_and (jf_X12_change rfl) (vr_change hI.1.1.1 (RI_n hI.1.2)))) (fun v94 σ95 hv94 => ?_)
  have uv94 := hv94.2
  have tv94 := hv94.1.2
  have hv94 := hv94.1.1
  have hI : IV σ95 := hv94
  have hW : WQ σ95 := sim_f hI0 hW0 tv89 tv94 (by decide)
  have hfv94 := fs_change hI0 hW0 hF0 tv89 uv89 tv94 uv94.1 uv94.2
  have hF : FQ σ95 := hfv94.1
  exact ih σ95 ⟨hI, hW, hF⟩

theorem lc_664 {P : Int32 × zS → Prop} {N L : Nat} {xs : Nat → Int32} {again : Int32 × zS → Option (Int32 × zS)} {x3 : Int32} {y0 : Int32} {y1 : Int32} {y2 : Int32} {y3 : Int32} {σ : zS} (hN : 1048576 ≤ N) (hx : 0 ≤ x3.toInt ∧ x3.toInt + 6 ≤ (L : Int)) (hL : L ≤ 384) (hI : IV σ) (hW : WQ σ) (hF : FQ σ) (ih : ∀ σ', IV σ' ∧ WQ σ' ∧ FQ σ' → Ok (again (x3 + 6, σ')) P) (hyb : y0 = if xs (x3 + 4).toNatClampNeg = 0 then 0 else 1) (hy1 : y1 = xs (x3 + 3).toNatClampNeg) (hy2 : y2 = xs (x3 + 2).toNatClampNeg) (hy3 : y3 = xs (x3 + 1).toNatClampNeg) : Ok (J_L_law_664 N L xs again x3 y0 y1 y2 y3 0 σ) P := by
  have hb01 : y0 = 0 ∨ y0 = 1 := by rw [hyb]; split; exact Or.inl rfl; exact Or.inr rfl
  subst hy1
  subst hy2
  subst hy3
  rw [J_L_law_664.eq_1]
  refine ok_gC rfl ?_
  refine ok_zb (ok_pt (ok_pt (wc_half hN hI) (tc_half hN hI)) (vl_half (isWc4 (IV_4 hI)) hI.1.1.1 rfl (CF_n hI rfl) (FQ_FI hF hW))) (fun v100 σ101 hv100 => ?_)
  have uv100 := hv100.2
  have tv100 := hv100.1.2
  have hv100 := hv100.1.1
  have hEv100 := hI.2
  have hI0 := hI
  have hW0 := hW
  have hF0 := hF
  have hI : IV σ101 := hv100
  refine ok_aX hx hL (by decide) (by decide) ?_
  refine ok_aX hx hL (by decide) (by decide) ?_
  refine ok_aX hx hL (by decide) (by decide) ?_
  refine ok_aX hx hL (by decide) (by decide) ?_
  refine ok_if (fun q1 => ?_) (fun q1 => ?_)
  · rw [if_pos q1] at hyb
    subst hyb
    refine ok_gC rfl ?_
    refine ok_zb (ok_pt (ok_pt (wr_half hN hI) (tr_half hN hI.1.1 hI.1.2)) (pt_and (jf_X12_half rfl) (vr_half hI.1.1.1 (RI_n hI.1.2)))) (fun v106 σ107 hv106 => ?_)
    have uv106 := hv106.2
    have tv106 := hv106.1.2
    have hv106 := hv106.1.1
    have hI : IV σ107 := hv106
    have hW : WQ σ107 := sim_f hI0 hW0 tv100 tv106 (by decide)
    have hfv106 := fs_half hI0 hW0 hF0 tv100 uv100 tv106 uv106.1 uv106.2
    have hF : FQ σ107 := hfv106.1
    exact ih σ107 ⟨hI, hW, hF⟩
  · rw [if_neg q1] at hyb
    subst hyb
    refine ok_gC rfl ?_
    refine ok_zb (ok_pt (ok_pt (wr_half hN hI) (tr_half hN hI.1.1 hI.1.2)) (pt_and (jf_X12_half rfl) (vr_half hI.1.1.1 (RI_n hI.1.2)))) (fun v108 σ109 hv108 => ?_)
    have uv108 := hv108.2
    have tv108 := hv108.1.2
    have hv108 := hv108.1.1
    have hI : IV σ109 := hv108
    have hW : WQ σ109 := sim_f hI0 hW0 tv100 tv108 (by decide)
    have hfv108 := fs_half hI0 hW0 hF0 tv100 uv100 tv108 uv108.1 uv108.2
    have hF : FQ σ109 := hfv108.1
    exact ih σ109 ⟨hI, hW, hF⟩

theorem lc_635 {P : Int32 × zS → Prop} {N L : Nat} {xs : Nat → Int32} {again : Int32 × zS → Option (Int32 × zS)} {x3 : Int32} {σ : zS} (hN : 1048576 ≤ N) (hx : 0 ≤ x3.toInt ∧ x3.toInt + 6 ≤ (L : Int)) (hL : L ≤ 384) (hI : IV σ) (hW : WQ σ) (hF : FQ σ) (ih : ∀ σ', IV σ' ∧ WQ σ' ∧ FQ σ' → Ok (again (x3 + 6, σ')) P) : Ok (J_L_law_635 N L xs again x3 σ) P := by
  rw [J_L_law_635.eq_1]
  refine ok_aX hx hL (by decide) (by decide) ?_
  refine ok_aX hx hL (by decide) (by decide) ?_
  refine ok_aX hx hL (by decide) (by decide) ?_
  refine ok_aX hx hL (by decide) (by decide) ?_
  refine ok_if (fun q1 => ?_) (fun q1 => ?_)
  · exact lc_664 hN hx hL hI hW hF ih (if_pos q1).symm rfl rfl rfl
  · exact lc_664 hN hx hL hI hW hF ih (if_neg q1).symm rfl rfl rfl

theorem lc_704 {P : Int32 × zS → Prop} {N L : Nat} {xs : Nat → Int32} {again : Int32 × zS → Option (Int32 × zS)} {x3 : Int32} {σ : zS} (hN : 1048576 ≤ N) (hx : 0 ≤ x3.toInt ∧ x3.toInt + 6 ≤ (L : Int)) (hL : L ≤ 384) (hI : IV σ) (hW : WQ σ) (hF : FQ σ) (ih : ∀ σ', IV σ' ∧ WQ σ' ∧ FQ σ' → Ok (again (x3 + 6, σ')) P) : Ok (J_L_law_704 N L xs again x3 σ) P := by
  rw [J_L_law_704.eq_1]
  refine ok_aX hx hL (by decide) (by decide) ?_
  refine ok_aX hx hL (by decide) (by decide) ?_
  refine ok_aX hx hL (by decide) (by decide) ?_
  refine ok_gC rfl ?_
  refine ok_zb (ok_pt (ok_pt (wc_level hN hI) (tc_level hN hI)) (vl_level (isWc4 (IV_4 hI)) hI.1.1.1 rfl (CF_n hI rfl) (FQ_FI hF hW))) (fun v113 σ114 hv113 => ?_)
  have uv113 := hv113.2
  have tv113 := hv113.1.2
  have hv113 := hv113.1.1
  have hEv113 := hI.2
  have hI0 := hI
  have hW0 := hW
  have hF0 := hF
  have hI : IV σ114 := hv113
  refine ok_aX hx hL (by decide) (by decide) ?_
  refine ok_aX hx hL (by decide) (by decide) ?_
  refine ok_aX hx hL (by decide) (by decide) ?_
  refine ok_gC rfl ?_
  refine ok_zb (ok_pt (ok_pt (wr_level hN hI) (tr_level hN hI.1.1 hI.1.2)) (pt_and (jf_X12_level rfl) (vr_level hI.1.1.1 (RI_n hI.1.2)))) (fun v118 σ119 hv118 => ?_)
  have uv118 := hv118.2
  have tv118 := hv118.1.2
  have hv118 := hv118.1.1
  have hI : IV σ119 := hv118
  have hW : WQ σ119 := sim_f hI0 hW0 tv113 tv118 (by decide)
  have hfv118 := fs_level hI0 hW0 hF0 tv113 uv113 tv118 uv118.1 uv118.2
  have hF : FQ σ119 := hfv118.1
  exact ih σ119 ⟨hI, hW, hF⟩

theorem lc_747 {P : Int32 × zS → Prop} {N L : Nat} {xs : Nat → Int32} {again : Int32 × zS → Option (Int32 × zS)} {x3 : Int32} {σ : zS} (hN : 1048576 ≤ N) (hx : 0 ≤ x3.toInt ∧ x3.toInt + 6 ≤ (L : Int)) (hL : L ≤ 384) (hI : IV σ) (hW : WQ σ) (hF : FQ σ) (ih : ∀ σ', IV σ' ∧ WQ σ' ∧ FQ σ' → Ok (again (x3 + 6, σ')) P) : Ok (J_L_law_747 N L xs again x3 σ) P := by
  rw [J_L_law_747.eq_1]
  refine ok_aX hx hL (by decide) (by decide) ?_
  refine ok_aX hx hL (by decide) (by decide) ?_
  refine ok_gC rfl ?_
  refine ok_zb (ok_pt (ok_pt (wc_nth hN hI) (tc_nth hN hI)) (jf_X11_nth rfl)) (fun v122 σ123 hv122 => ?_)
  have uv122 := hv122.2
  have tv122 := hv122.1.2
  have hv122 := hv122.1.1
  have hEv122 := hI.2
  have hI0 := hI
  have hW0 := hW
  have hF0 := hF
  have hI : IV σ123 := hv122
  refine ok_aX hx hL (by decide) (by decide) ?_
  refine ok_aX hx hL (by decide) (by decide) ?_
  refine ok_gC rfl ?_
  refine ok_zb (ok_pt (ok_pt (wr_nth hN hI) (tr_nth hN hI.1.1 hI.1.2)) (jf_X12_nth rfl)) (fun v126 σ127 hv126 => ?_)
  have uv126 := hv126.2
  have tv126 := hv126.1.2
  have hv126 := hv126.1.1
  have hI : IV σ127 := hv126
  have hW : WQ σ127 := sim_f hI0 hW0 tv122 tv126 (by decide)
  have hF : FQ σ127 := fs_0 hI0 hF0 tv122 tv126 (by decide) (jlw uv122) uv126
  exact ih σ127 ⟨hI, hW, hF⟩

theorem lc_780 {P : Int32 × zS → Prop} {N L : Nat} {xs : Nat → Int32} {again : Int32 × zS → Option (Int32 × zS)} {x3 : Int32} {σ : zS} (hN : 1048576 ≤ N) (hx : 0 ≤ x3.toInt ∧ x3.toInt + 6 ≤ (L : Int)) (hL : L ≤ 384) (hI : IV σ) (hW : WQ σ) (hF : FQ σ) (ih : ∀ σ', IV σ' ∧ WQ σ' ∧ FQ σ' → Ok (again (x3 + 6, σ')) P) : Ok (J_L_law_780 N L xs again x3 σ) P := by
  rw [J_L_law_780.eq_1]
  refine ok_aX hx hL (by decide) (by decide) ?_
  refine ok_aX hx hL (by decide) (by decide) ?_
  refine ok_gC rfl ?_
  refine ok_zb (ok_pt (ok_pt (wc_rank hN hI) (tc_rank hN hI)) (jf_X11_rank rfl)) (fun v130 σ131 hv130 => ?_)
  have uv130 := hv130.2
  have tv130 := hv130.1.2
  have hv130 := hv130.1.1
  have hEv130 := hI.2
  have hI0 := hI
  have hW0 := hW
  have hF0 := hF
  have hI : IV σ131 := hv130
  refine ok_aX hx hL (by decide) (by decide) ?_
  refine ok_aX hx hL (by decide) (by decide) ?_
  refine ok_gC rfl ?_
  refine ok_zb (ok_pt (ok_pt (wr_rank_ hN hI) (tr_rank hN hI.1.1 hI.1.2)) (jf_X12_rank_ rfl)) (fun v134 σ135 hv134 => ?_)
  have uv134 := hv134.2
  have tv134 := hv134.1.2
  have hv134 := hv134.1.1
  have hI : IV σ135 := hv134
  have hW : WQ σ135 := sim_f hI0 hW0 tv130 tv134 (by decide)
  have hF : FQ σ135 := fs_0 hI0 hF0 tv130 tv134 (by decide) (jlw uv130) uv134
  exact ih σ135 ⟨hI, hW, hF⟩

theorem lc_813 {P : Int32 × zS → Prop} {N L : Nat} {xs : Nat → Int32} {again : Int32 × zS → Option (Int32 × zS)} {x3 : Int32} {σ : zS} (hN : 1048576 ≤ N) (hx : 0 ≤ x3.toInt ∧ x3.toInt + 6 ≤ (L : Int)) (hL : L ≤ 384) (hI : IV σ) (hW : WQ σ) (hF : FQ σ) (ih : ∀ σ', IV σ' ∧ WQ σ' ∧ FQ σ' → Ok (again (x3 + 6, σ')) P) : Ok (J_L_law_813 N L xs again x3 σ) P := by
  rw [J_L_law_813.eq_1]
  refine ok_aX hx hL (by decide) (by decide) ?_
  refine ok_aX hx hL (by decide) (by decide) ?_
  refine ok_gC rfl ?_
  refine ok_zb (ok_pt (ok_pt (wc_light hN hI) (tc_light hN hI)) (jf_X11_light rfl)) (fun v138 σ139 hv138 => ?_)
  have uv138 := hv138.2
  have tv138 := hv138.1.2
  have hv138 := hv138.1.1
  have hEv138 := hI.2
  have hI0 := hI
  have hW0 := hW
  have hF0 := hF
  have hI : IV σ139 := hv138
  refine ok_aX hx hL (by decide) (by decide) ?_
  refine ok_aX hx hL (by decide) (by decide) ?_
  refine ok_gC rfl ?_
  refine ok_zb (ok_pt (ok_pt (wr_light hN hI) (tr_light hN hI.1.1 hI.1.2)) (jf_X12_light rfl)) (fun v142 σ143 hv142 => ?_)
  have uv142 := hv142.2
  have tv142 := hv142.1.2
  have hv142 := hv142.1.1
  have hI : IV σ143 := hv142
  have hW : WQ σ143 := sim_f hI0 hW0 tv138 tv142 (by decide)
  have hF : FQ σ143 := fs_0 hI0 hF0 tv138 tv142 (by decide) (jlw uv138) uv142
  exact ih σ143 ⟨hI, hW, hF⟩

theorem lc_846 {P : Int32 × zS → Prop} {N L : Nat} {xs : Nat → Int32} {again : Int32 × zS → Option (Int32 × zS)} {x3 : Int32} {σ : zS} (hN : 1048576 ≤ N) (hx : 0 ≤ x3.toInt ∧ x3.toInt + 6 ≤ (L : Int)) (hL : L ≤ 384) (hI : IV σ) (hW : WQ σ) (hF : FQ σ) (ih : ∀ σ', IV σ' ∧ WQ σ' ∧ FQ σ' → Ok (again (x3 + 6, σ')) P) : Ok (J_L_law_846 N L xs again x3 σ) P := by
  rw [J_L_law_846.eq_1]
  refine ok_aX hx hL (by decide) (by decide) ?_
  refine ok_gC rfl ?_
  refine ok_zb (ok_pt (ok_pt (wc_weight hN hI) (tc_weight hN hI)) (jf_X11_weight rfl)) (fun v145 σ146 hv145 => ?_)
  have uv145 := hv145.2
  have tv145 := hv145.1.2
  have hv145 := hv145.1.1
  have hEv145 := hI.2
  have hI0 := hI
  have hW0 := hW
  have hF0 := hF
  have hI : IV σ146 := hv145
  refine ok_aX hx hL (by decide) (by decide) ?_
  refine ok_gC rfl ?_
  refine ok_zb (ok_pt (ok_pt (wr_weight hN hI) (tr_weight hN hI.1.1 hI.1.2)) (jf_X12_weight rfl)) (fun v148 σ149 hv148 => ?_)
  have uv148 := hv148.2
  have tv148 := hv148.1.2
  have hv148 := hv148.1.1
  have hI : IV σ149 := hv148
  have hW : WQ σ149 := sim_f hI0 hW0 tv145.1 tv148.1 (by decide)
  have hF : FQ σ149 := fs_0 hI0 hF0 tv145.1 tv148.1 (by decide) (jlw uv145) uv148
  exact ih σ149 ⟨hI, hW, hF⟩

theorem lc_869 {P : Int32 × zS → Prop} {N L : Nat} {xs : Nat → Int32} {again : Int32 × zS → Option (Int32 × zS)} {x3 : Int32} {σ : zS} (hN : 1048576 ≤ N) (hx : 0 ≤ x3.toInt ∧ x3.toInt + 6 ≤ (L : Int)) (hL : L ≤ 384) (hI : IV σ) (hW : WQ σ) (hF : FQ σ) (ih : ∀ σ', IV σ' ∧ WQ σ' ∧ FQ σ' → Ok (again (x3 + 6, σ')) P) : Ok (J_L_law_869 N L xs again x3 σ) P := by
  rw [J_L_law_869.eq_1]
  refine ok_aX hx hL (by decide) (by decide) ?_
  refine ok_aX hx hL (by decide) (by decide) ?_
  refine ok_gC rfl ?_
  refine ok_zb (ok_pt (ok_pt (wc_weigh hN hI) (tc_weigh hN hI)) (jf_X11_weigh rfl)) (fun v152 σ153 hv152 => ?_)
  have uv152 := hv152.2
  have tv152 := hv152.1.2
  have hv152 := hv152.1.1
  have hEv152 := hI.2
  have hI0 := hI
  have hW0 := hW
  have hF0 := hF
  have hI : IV σ153 := hv152
  refine ok_aX hx hL (by decide) (by decide) ?_
  refine ok_aX hx hL (by decide) (by decide) ?_
  refine ok_gC rfl ?_
  refine ok_zb (ok_pt (ok_pt (wr_weigh hN hI) (tr_weigh hN hI.1.1 hI.1.2)) (jf_X12_weigh rfl)) (fun v156 σ157 hv156 => ?_)
  have uv156 := hv156.2
  have tv156 := hv156.1.2
  have hv156 := hv156.1.1
  have hI : IV σ157 := hv156
  have hsv156 := sim_weigh hI0 hW0 tv152 tv156
  have hW : WQ σ157 := hsv156.1
  have hF : FQ σ157 := fs_weigh hI0 hF0 tv152.1 tv156 (jlw uv152) uv156
  exact ih σ157 ⟨hI, hW, hF⟩

theorem lc_902 {P : Int32 × zS → Prop} {N L : Nat} {xs : Nat → Int32} {again : Int32 × zS → Option (Int32 × zS)} {x3 : Int32} {σ : zS} (hN : 1048576 ≤ N) (hx : 0 ≤ x3.toInt ∧ x3.toInt + 6 ≤ (L : Int)) (hL : L ≤ 384) (hI : IV σ) (hW : WQ σ) (hF : FQ σ) (ih : ∀ σ', IV σ' ∧ WQ σ' ∧ FQ σ' → Ok (again (x3 + 6, σ')) P) : Ok (J_L_law_902 N L xs again x3 σ) P := by
  rw [J_L_law_902.eq_1]
  refine ok_aX hx hL (by decide) (by decide) ?_
  refine ok_aX hx hL (by decide) (by decide) ?_
  refine ok_gC rfl ?_
  refine ok_zb (ok_pt (ok_pt (wc_weighs hN hI) (tc_weighs hN hI)) (jf_X11_weighs rfl)) (fun v160 σ161 hv160 => ?_)
  have uv160 := hv160.2
  have tv160 := hv160.1.2
  have hv160 := hv160.1.1
  have hEv160 := hI.2
  have hI0 := hI
  have hW0 := hW
  have hF0 := hF
  have hI : IV σ161 := hv160
  refine ok_aX hx hL (by decide) (by decide) ?_
  refine ok_aX hx hL (by decide) (by decide) ?_
  refine ok_gC rfl ?_
  refine ok_zb (ok_pt (ok_pt (wr_weighs hN hI) (tr_weighs hN hI.1.1 hI.1.2)) (jf_X12_weighs rfl)) (fun v164 σ165 hv164 => ?_)
  have uv164 := hv164.2
  have tv164 := hv164.1.2
  have hv164 := hv164.1.1
  have hI : IV σ165 := hv164
  have hW : WQ σ165 := sim_f hI0 hW0 tv160 tv164 (by decide)
  have hF : FQ σ165 := fs_0 hI0 hF0 tv160 tv164 (by decide) (jlw uv160) uv164
  exact ih σ165 ⟨hI, hW, hF⟩

theorem lc_935 {P : Int32 × zS → Prop} {N L : Nat} {xs : Nat → Int32} {again : Int32 × zS → Option (Int32 × zS)} {x3 : Int32} {σ : zS} (hN : 1048576 ≤ N) (hx : 0 ≤ x3.toInt ∧ x3.toInt + 6 ≤ (L : Int)) (hL : L ≤ 384) (hI : IV σ) (hW : WQ σ) (hF : FQ σ) (ih : ∀ σ', IV σ' ∧ WQ σ' ∧ FQ σ' → Ok (again (x3 + 6, σ')) P) : Ok (J_L_law_935 N L xs again x3 σ) P := by
  rw [J_L_law_935.eq_1]
  refine ok_aX hx hL (by decide) (by decide) ?_
  refine ok_aX hx hL (by decide) (by decide) ?_
  refine ok_gC rfl ?_
  refine ok_zb (ok_pt (ok_pt (wc_each hN hI) (tc_each hN hI)) (pt_w (vl_each_ (isWc4 (IV_4 hI)) hI.1.1.1 rfl (CF_n hI rfl)) (fun r h => h.1))) (fun v168 σ169 hv168 => ?_)
  have uv168 := hv168.2
  have tv168 := hv168.1.2
  have hv168 := hv168.1.1
  have hEv168 := hI.2
  have hI0 := hI
  have hW0 := hW
  have hF0 := hF
  have hI : IV σ169 := hv168
  refine ok_aX hx hL (by decide) (by decide) ?_
  refine ok_aX hx hL (by decide) (by decide) ?_
  refine ok_gC rfl ?_
  refine ok_zb (ok_pt (ok_pt (wr_each hN hI) (tr_each hN hI.1.1 hI.1.2)) (jf_X12_each rfl)) (fun v172 σ173 hv172 => ?_)
  have uv172 := hv172.2
  have tv172 := hv172.1.2
  have hv172 := hv172.1.1
  have hI : IV σ173 := hv172
  have hW : WQ σ173 := sim_f hI0 hW0 tv168 tv172 (by decide)
  have hF : FQ σ173 := fs_0 hI0 hF0 tv168 tv172 (by decide) uv168 uv172
  exact ih σ173 ⟨hI, hW, hF⟩

theorem lc_968 {P : Int32 × zS → Prop} {N L : Nat} {xs : Nat → Int32} {again : Int32 × zS → Option (Int32 × zS)} {x3 : Int32} {σ : zS} (hN : 1048576 ≤ N) (hx : 0 ≤ x3.toInt ∧ x3.toInt + 6 ≤ (L : Int)) (hL : L ≤ 384) (hI : IV σ) (hW : WQ σ) (hF : FQ σ) (ih : ∀ σ', IV σ' ∧ WQ σ' ∧ FQ σ' → Ok (again (x3 + 6, σ')) P) : Ok (J_L_law_968 N L xs again x3 σ) P := by
  rw [J_L_law_968.eq_1]
  refine ok_aX hx hL (by decide) (by decide) ?_
  refine ok_aX hx hL (by decide) (by decide) ?_
  refine ok_gC rfl ?_
  refine ok_zb (ok_pt (ok_pt (wc_names hN hI) (tc_names hN hI)) (pt_w (vl_names_ (isWc4 (IV_4 hI)) hI.1.1.1 rfl (CF_n hI rfl)) (fun r h => h.1))) (fun v176 σ177 hv176 => ?_)
  have uv176 := hv176.2
  have tv176 := hv176.1.2
  have hv176 := hv176.1.1
  have hEv176 := hI.2
  have hI0 := hI
  have hW0 := hW
  have hF0 := hF
  have hI : IV σ177 := hv176
  refine ok_aX hx hL (by decide) (by decide) ?_
  refine ok_aX hx hL (by decide) (by decide) ?_
  refine ok_gC rfl ?_
  refine ok_zb (ok_pt (ok_pt (wr_names hN hI) (tr_names hN hI.1.1 hI.1.2)) (jf_X12_names rfl)) (fun v180 σ181 hv180 => ?_)
  have uv180 := hv180.2
  have tv180 := hv180.1.2
  have hv180 := hv180.1.1
  have hI : IV σ181 := hv180
  have hW : WQ σ181 := sim_f hI0 hW0 tv176 tv180 (by decide)
  have hF : FQ σ181 := fs_0 hI0 hF0 tv176 tv180 (by decide) uv176 uv180
  exact ih σ181 ⟨hI, hW, hF⟩

theorem lc_1001 {P : Int32 × zS → Prop} {N L : Nat} {xs : Nat → Int32} {again : Int32 × zS → Option (Int32 × zS)} {x3 : Int32} {σ : zS} (hN : 1048576 ≤ N) (hx : 0 ≤ x3.toInt ∧ x3.toInt + 6 ≤ (L : Int)) (hL : L ≤ 384) (hI : IV σ) (hW : WQ σ) (hF : FQ σ) (ih : ∀ σ', IV σ' ∧ WQ σ' ∧ FQ σ' → Ok (again (x3 + 6, σ')) P) : Ok (J_L_law_1001 N L xs again x3 σ) P := by
  rw [J_L_law_1001.eq_1]
  refine ok_aX hx hL (by decide) (by decide) ?_
  refine ok_aX hx hL (by decide) (by decide) ?_
  refine ok_gC rfl ?_
  refine ok_zb (ok_pt (ok_pt (wc_draw hN hI) (tc_draw hN hI)) (jf_X11_draw rfl)) (fun v184 σ185 hv184 => ?_)
  have uv184 := hv184.2
  have tv184 := hv184.1.2
  have hv184 := hv184.1.1
  have hEv184 := hI.2
  have hI0 := hI
  have hW0 := hW
  have hF0 := hF
  have hI : IV σ185 := hv184
  refine ok_aX hx hL (by decide) (by decide) ?_
  refine ok_aX hx hL (by decide) (by decide) ?_
  refine ok_gC rfl ?_
  refine ok_zb (ok_pt (ok_pt (wr_draw hN hI) (tr_draw hN hI.1.1 hI.1.2)) (jf_X12_draw rfl)) (fun v188 σ189 hv188 => ?_)
  have uv188 := hv188.2
  have tv188 := hv188.1.2
  have hv188 := hv188.1.1
  have hI : IV σ189 := hv188
  have hW : WQ σ189 := sim_f hI0 hW0 tv184 tv188 (by decide)
  have hF : FQ σ189 := fs_0 hI0 hF0 tv184 tv188 (by decide) (jlw uv184) uv188
  exact ih σ189 ⟨hI, hW, hF⟩

theorem lc_1034 {P : Int32 × zS → Prop} {N L : Nat} {xs : Nat → Int32} {again : Int32 × zS → Option (Int32 × zS)} {x3 : Int32} {σ : zS} (hN : 1048576 ≤ N) (hx : 0 ≤ x3.toInt ∧ x3.toInt + 6 ≤ (L : Int)) (hL : L ≤ 384) (hI : IV σ) (hW : WQ σ) (hF : FQ σ) (ih : ∀ σ', IV σ' ∧ WQ σ' ∧ FQ σ' → Ok (again (x3 + 6, σ')) P) : Ok (J_L_law_1034 N L xs again x3 σ) P := by
  rw [J_L_law_1034.eq_1]
  refine ok_aX hx hL (by decide) (by decide) ?_
  refine ok_aX hx hL (by decide) (by decide) ?_
  refine ok_gC rfl ?_
  refine ok_zb (ok_pt (ok_pt (wc_alike hN hI) (tc_alike hN hI)) (jf_X11_alike rfl)) (fun v192 σ193 hv192 => ?_)
  have uv192 := hv192.2
  have tv192 := hv192.1.2
  have hv192 := hv192.1.1
  have hEv192 := hI.2
  have hI0 := hI
  have hW0 := hW
  have hF0 := hF
  have hI : IV σ193 := hv192
  refine ok_aX hx hL (by decide) (by decide) ?_
  refine ok_aX hx hL (by decide) (by decide) ?_
  refine ok_gC rfl ?_
  refine ok_zb (ok_pt (ok_pt (wr_alike hN hI) (tr_alike hN hI.1.1 hI.1.2)) (jf_X12_alike rfl)) (fun v196 σ197 hv196 => ?_)
  have uv196 := hv196.2
  have tv196 := hv196.1.2
  have hv196 := hv196.1.1
  have hI : IV σ197 := hv196
  have hW : WQ σ197 := sim_f hI0 hW0 tv192 tv196 (by decide)
  have hF : FQ σ197 := fs_0 hI0 hF0 tv192 tv196 (by decide) (jlw uv192) uv196
  exact ih σ197 ⟨hI, hW, hF⟩

theorem lc_1067 {P : Int32 × zS → Prop} {N L : Nat} {xs : Nat → Int32} {again : Int32 × zS → Option (Int32 × zS)} {x3 : Int32} {σ : zS} (hN : 1048576 ≤ N) (hx : 0 ≤ x3.toInt ∧ x3.toInt + 6 ≤ (L : Int)) (hL : L ≤ 384) (hI : IV σ) (hW : WQ σ) (hF : FQ σ) (ih : ∀ σ', IV σ' ∧ WQ σ' ∧ FQ σ' → Ok (again (x3 + 6, σ')) P) : Ok (J_L_law_1067 N L xs again x3 σ) P := by
  rw [J_L_law_1067.eq_1]
  refine ok_aX hx hL (by decide) (by decide) ?_
  refine ok_aX hx hL (by decide) (by decide) ?_
  refine ok_gC rfl ?_
  refine ok_zb (ok_pt (ok_pt (wc_differ hN hI) (tc_differ hN hI)) (pt_w (vl_differ_ (isWc4 (IV_4 hI)) hI.1.1.1 rfl) (fun r h => h.1))) (fun v200 σ201 hv200 => ?_)
  have uv200 := hv200.2
  have tv200 := hv200.1.2
  have hv200 := hv200.1.1
  have hEv200 := hI.2
  have hI0 := hI
  have hW0 := hW
  have hF0 := hF
  have hI : IV σ201 := hv200
  refine ok_aX hx hL (by decide) (by decide) ?_
  refine ok_aX hx hL (by decide) (by decide) ?_
  refine ok_gC rfl ?_
  refine ok_zb (ok_pt (ok_pt (wr_differ hN hI) (tr_differ hN hI.1.1 hI.1.2)) (jf_X12_differ rfl)) (fun v204 σ205 hv204 => ?_)
  have uv204 := hv204.2
  have tv204 := hv204.1.2
  have hv204 := hv204.1.1
  have hI : IV σ205 := hv204
  have hW : WQ σ205 := sim_f hI0 hW0 tv200 tv204 (by decide)
  have hF : FQ σ205 := fs_0 hI0 hF0 tv200 tv204 (by decide) uv200 uv204
  exact ih σ205 ⟨hI, hW, hF⟩

theorem lc_1100 {P : Int32 × zS → Prop} {N L : Nat} {xs : Nat → Int32} {again : Int32 × zS → Option (Int32 × zS)} {x3 : Int32} {σ : zS} (hN : 1048576 ≤ N) (hx : 0 ≤ x3.toInt ∧ x3.toInt + 6 ≤ (L : Int)) (hL : L ≤ 384) (hI : IV σ) (hW : WQ σ) (hF : FQ σ) (ih : ∀ σ', IV σ' ∧ WQ σ' ∧ FQ σ' → Ok (again (x3 + 6, σ')) P) : Ok (J_L_law_1100 N L xs again x3 σ) P := by
  rw [J_L_law_1100.eq_1]
  refine ok_aX hx hL (by decide) (by decide) ?_
  refine ok_aX hx hL (by decide) (by decide) ?_
  refine ok_gC rfl ?_
  refine ok_zb (ok_pt (ok_pt (wc_within hN hI) (tc_within hN hI)) (pt_w (vl_within_ (isWc4 (IV_4 hI)) hI.1.1.1 rfl) (fun r h => h.1))) (fun v208 σ209 hv208 => ?_)
  have uv208 := hv208.2
  have tv208 := hv208.1.2
  have hv208 := hv208.1.1
  have hEv208 := hI.2
  have hI0 := hI
  have hW0 := hW
  have hF0 := hF
  have hI : IV σ209 := hv208
  refine ok_aX hx hL (by decide) (by decide) ?_
  refine ok_aX hx hL (by decide) (by decide) ?_
  refine ok_gC rfl ?_
  refine ok_zb (ok_pt (ok_pt (wr_within hN hI) (tr_within hN hI.1.1 hI.1.2)) (jf_X12_within rfl)) (fun v212 σ213 hv212 => ?_)
  have uv212 := hv212.2
  have tv212 := hv212.1.2
  have hv212 := hv212.1.1
  have hI : IV σ213 := hv212
  have hW : WQ σ213 := sim_f hI0 hW0 tv208 tv212 (by decide)
  have hF : FQ σ213 := fs_0 hI0 hF0 tv208 tv212 (by decide) uv208 uv212
  exact ih σ213 ⟨hI, hW, hF⟩

theorem lc_1133 {P : Int32 × zS → Prop} {N L : Nat} {xs : Nat → Int32} {again : Int32 × zS → Option (Int32 × zS)} {x3 : Int32} {σ : zS} (hN : 1048576 ≤ N) (hx : 0 ≤ x3.toInt ∧ x3.toInt + 6 ≤ (L : Int)) (hL : L ≤ 384) (hI : IV σ) (hW : WQ σ) (hF : FQ σ) (ih : ∀ σ', IV σ' ∧ WQ σ' ∧ FQ σ' → Ok (again (x3 + 6, σ')) P) : Ok (J_L_law_1133 N L xs again x3 σ) P := by
  rw [J_L_law_1133.eq_1]
  refine ok_aX hx hL (by decide) (by decide) ?_
  refine ok_aX hx hL (by decide) (by decide) ?_
  refine ok_gC rfl ?_
  refine ok_zb (ok_pt (ok_pt (wc_dual hN hI) (tc_dual hN hI)) (pt_w (vl_dual_ (isWc4 (IV_4 hI)) hI.1.1.1 rfl (CF_n hI rfl) (FQ_FI hF hW)) (fun r h => h.1))) (fun v216 σ217 hv216 => ?_)
  have uv216 := hv216.2
  have tv216 := hv216.1.2
  have hv216 := hv216.1.1
  have hEv216 := hI.2
  have hI0 := hI
  have hW0 := hW
  have hF0 := hF
  have hI : IV σ217 := hv216
  refine ok_aX hx hL (by decide) (by decide) ?_
  refine ok_aX hx hL (by decide) (by decide) ?_
  refine ok_gC rfl ?_
  refine ok_zb (ok_pt (ok_pt (wr_dual hN hI) (tr_dual hN hI.1.1 hI.1.2)) (jf_X12_dual rfl)) (fun v220 σ221 hv220 => ?_)
  have uv220 := hv220.2
  have tv220 := hv220.1.2
  have hv220 := hv220.1.1
  have hI : IV σ221 := hv220
  have hW : WQ σ221 := sim_f hI0 hW0 tv216 tv220 (by decide)
  have hF : FQ σ221 := fs_0 hI0 hF0 tv216 tv220 (by decide) uv216 uv220
  exact ih σ221 ⟨hI, hW, hF⟩

theorem lc_1166 {P : Int32 × zS → Prop} {N L : Nat} {xs : Nat → Int32} {again : Int32 × zS → Option (Int32 × zS)} {x3 : Int32} {σ : zS} (hN : 1048576 ≤ N) (hx : 0 ≤ x3.toInt ∧ x3.toInt + 6 ≤ (L : Int)) (hL : L ≤ 384) (hI : IV σ) (hW : WQ σ) (hF : FQ σ) (ih : ∀ σ', IV σ' ∧ WQ σ' ∧ FQ σ' → Ok (again (x3 + 6, σ')) P) : Ok (J_L_law_1166 N L xs again x3 σ) P := by
  rw [J_L_law_1166.eq_1]
  refine ok_aX hx hL (by decide) (by decide) ?_
  refine ok_aX hx hL (by decide) (by decide) ?_
  refine ok_gC rfl ?_
  refine ok_zb (ok_pt (ok_pt (wc_apart hN hI) (tc_apart hN hI)) (pt_and (jf_X11_apart rfl) (uq_apart hN hI hW hF))) (fun v224 σ225 hv224 => ?_)
  have uv224 := hv224.2
  have kv224 := uv224.2
  have uv224 := uv224.1
  have tv224 := hv224.1.2
  have hv224 := hv224.1.1
  have hEv224 := hI.2
  have hI0 := hI
  have hW0 := hW
  have hF0 := hF
  have hI : IV σ225 := hv224
  refine ok_aX hx hL (by decide) (by decide) ?_
  refine ok_aX hx hL (by decide) (by decide) ?_
  refine ok_gC rfl ?_
  refine ok_zb (ok_pt (ok_pt (wr_apart hN hI) (tr_apart hN hI.1.1 hI.1.2)) (pt_and (jf_X12_apart rfl) (rq_apart hN hI.1.1 hI.1.2))) (fun v228 σ229 hv228 => ?_)
  have uv228 := hv228.2
  have kv228 := uv228.2
  have uv228 := uv228.1
  have tv228 := hv228.1.2
  have hv228 := hv228.1.1
  have hI : IV σ229 := hv228
  have hW : WQ σ229 := sim_f hI0 hW0 tv224 tv228 (by decide)
  have hF : FQ σ229 := fs_0 hI0 hF0 tv224 tv228 (by decide) (jlw uv224) uv228
  have hqv228 := fe_apart hI0 hW0 hF0 tv224 (by decide) kv224 kv228
  exact ok_if (fun _ => ih σ229 ⟨hI, hW, hF⟩) (fun q => absurd (hqv228) q)

theorem lc_1199 {P : Int32 × zS → Prop} {N L : Nat} {xs : Nat → Int32} {again : Int32 × zS → Option (Int32 × zS)} {x3 : Int32} {σ : zS} (hN : 1048576 ≤ N) (hx : 0 ≤ x3.toInt ∧ x3.toInt + 6 ≤ (L : Int)) (hL : L ≤ 384) (hI : IV σ) (hW : WQ σ) (hF : FQ σ) (ih : ∀ σ', IV σ' ∧ WQ σ' ∧ FQ σ' → Ok (again (x3 + 6, σ')) P) : Ok (J_L_law_1199 N L xs again x3 σ) P := by
  rw [J_L_law_1199.eq_1]
  refine ok_aX hx hL (by decide) (by decide) ?_
  refine ok_aX hx hL (by decide) (by decide) ?_
  refine ok_gC rfl ?_
  refine ok_zb (ok_pt (ok_pt (wc_packs hN hI) (tc_packs hN hI)) (jf_X11_packs rfl)) (fun v232 σ233 hv232 => ?_)
  have uv232 := hv232.2
  have tv232 := hv232.1.2
  have hv232 := hv232.1.1
  have hEv232 := hI.2
  have hI0 := hI
  have hW0 := hW
  have hF0 := hF
  have hI : IV σ233 := hv232
  refine ok_aX hx hL (by decide) (by decide) ?_
  refine ok_aX hx hL (by decide) (by decide) ?_
  refine ok_gC rfl ?_
  refine ok_zb (ok_pt (ok_pt (wr_packs hN hI) (tr_packs hN hI.1.1 hI.1.2)) (jf_X12_packs rfl)) (fun v236 σ237 hv236 => ?_)
  have uv236 := hv236.2
  have tv236 := hv236.1.2
  have hv236 := hv236.1.1
  have hI : IV σ237 := hv236
  have hW : WQ σ237 := sim_f hI0 hW0 tv232 tv236 (by decide)
  have hF : FQ σ237 := fs_0 hI0 hF0 tv232 tv236 (by decide) (jlw uv232) uv236
  exact ih σ237 ⟨hI, hW, hF⟩

theorem lc_1232 {P : Int32 × zS → Prop} {N L : Nat} {xs : Nat → Int32} {again : Int32 × zS → Option (Int32 × zS)} {x3 : Int32} {σ : zS} (hN : 1048576 ≤ N) (hx : 0 ≤ x3.toInt ∧ x3.toInt + 6 ≤ (L : Int)) (hL : L ≤ 384) (hI : IV σ) (hW : WQ σ) (hF : FQ σ) (ih : ∀ σ', IV σ' ∧ WQ σ' ∧ FQ σ' → Ok (again (x3 + 6, σ')) P) : Ok (J_L_law_1232 N L xs again x3 σ) P := by
  rw [J_L_law_1232.eq_1]
  refine ok_aX hx hL (by decide) (by decide) ?_
  refine ok_gC rfl ?_
  refine ok_zb (ok_pt (ok_pt (wc_nodes hN hI) (tc_nodes hN hI)) (jf_X11_nodes rfl)) (fun v239 σ240 hv239 => ?_)
  have uv239 := hv239.2
  have tv239 := hv239.1.2
  have hv239 := hv239.1.1
  have hEv239 := hI.2
  have hI0 := hI
  have hW0 := hW
  have hF0 := hF
  have hI : IV σ240 := hv239
  refine ok_aX hx hL (by decide) (by decide) ?_
  refine ok_gC rfl ?_
  refine ok_zb (ok_pt (ok_pt (wr_nodes hN hI) (tr_nodes hN hI.1.1 hI.1.2)) (jf_X12_nodes rfl)) (fun v242 σ243 hv242 => ?_)
  have uv242 := hv242.2
  have tv242 := hv242.1.2
  have hv242 := hv242.1.1
  have hI : IV σ243 := hv242
  have hW : WQ σ243 := sim_f hI0 hW0 tv239 tv242 (by decide)
  have hF : FQ σ243 := fs_0 hI0 hF0 tv239 tv242 (by decide) (jlw uv239) uv242
  exact ih σ243 ⟨hI, hW, hF⟩

theorem lc_1255 {P : Int32 × zS → Prop} {N L : Nat} {xs : Nat → Int32} {again : Int32 × zS → Option (Int32 × zS)} {x3 : Int32} {σ : zS} (hN : 1048576 ≤ N) (hx : 0 ≤ x3.toInt ∧ x3.toInt + 6 ≤ (L : Int)) (hL : L ≤ 384) (hI : IV σ) (hW : WQ σ) (hF : FQ σ) (ih : ∀ σ', IV σ' ∧ WQ σ' ∧ FQ σ' → Ok (again (x3 + 6, σ')) P) : Ok (J_L_law_1255 N L xs again x3 σ) P := by
  rw [J_L_law_1255.eq_1]
  refine ok_gC rfl ?_
  refine ok_zb (ok_pt (ok_pt (wc_net hN hI) (tc_net hN hI)) (jf_X11_net rfl)) (fun v244 σ245 hv244 => ?_)
  have uv244 := hv244.2
  have tv244 := hv244.1.2
  have hv244 := hv244.1.1
  have hEv244 := hI.2
  have hI0 := hI
  have hW0 := hW
  have hF0 := hF
  have hI : IV σ245 := hv244
  refine ok_gC rfl ?_
  refine ok_zb (ok_pt (ok_pt (wr_net hN hI) (tr_net hN hI.1.1 hI.1.2)) (jf_X12_net rfl)) (fun v246 σ247 hv246 => ?_)
  have uv246 := hv246.2
  have tv246 := hv246.1.2
  have hv246 := hv246.1.1
  have hI : IV σ247 := hv246
  have hW : WQ σ247 := sim_f hI0 hW0 tv244 tv246 (by decide)
  have hF : FQ σ247 := fs_0 hI0 hF0 tv244 tv246 (by decide) (jlw uv244) uv246
  exact ih σ247 ⟨hI, hW, hF⟩

theorem lc_1268 {P : Int32 × zS → Prop} {N L : Nat} {xs : Nat → Int32} {again : Int32 × zS → Option (Int32 × zS)} {x3 : Int32} {σ : zS} (hN : 1048576 ≤ N) (hx : 0 ≤ x3.toInt ∧ x3.toInt + 6 ≤ (L : Int)) (hL : L ≤ 384) (hI : IV σ) (hW : WQ σ) (hF : FQ σ) (ih : ∀ σ', IV σ' ∧ WQ σ' ∧ FQ σ' → Ok (again (x3 + 6, σ')) P) : Ok (J_L_law_1268 N L xs again x3 σ) P := by
  rw [J_L_law_1268.eq_1]
  refine ok_aX hx hL (by decide) (by decide) ?_
  refine ok_aX hx hL (by decide) (by decide) ?_
  refine ok_gC rfl ?_
  refine ok_zb (ok_pt (ok_pt (wc_wide hN hI) (tc_wide hN hI)) (jf_X11_wide rfl)) (fun v250 σ251 hv250 => ?_)
  have uv250 := hv250.2
  have tv250 := hv250.1.2
  have hv250 := hv250.1.1
  have hEv250 := hI.2
  have hI0 := hI
  have hW0 := hW
  have hF0 := hF
  have hI : IV σ251 := hv250
  refine ok_aX hx hL (by decide) (by decide) ?_
  refine ok_aX hx hL (by decide) (by decide) ?_
  refine ok_gC rfl ?_
  refine ok_zb (ok_pt (ok_pt (wr_wide hN hI) (tr_wide hN hI.1.1 hI.1.2)) (jf_X12_wide rfl)) (fun v254 σ255 hv254 => ?_)
  have uv254 := hv254.2
  have tv254 := hv254.1.2
  have hv254 := hv254.1.1
  have hI : IV σ255 := hv254
  have hW : WQ σ255 := sim_f hI0 hW0 tv250 tv254 (by decide)
  have hF : FQ σ255 := fs_0 hI0 hF0 tv250 tv254 (by decide) (jlw uv250) uv254
  exact ih σ255 ⟨hI, hW, hF⟩

theorem lc_1301 {P : Int32 × zS → Prop} {N L : Nat} {xs : Nat → Int32} {again : Int32 × zS → Option (Int32 × zS)} {x3 : Int32} {σ : zS} (hN : 1048576 ≤ N) (hx : 0 ≤ x3.toInt ∧ x3.toInt + 6 ≤ (L : Int)) (hL : L ≤ 384) (hI : IV σ) (hW : WQ σ) (hF : FQ σ) (ih : ∀ σ', IV σ' ∧ WQ σ' ∧ FQ σ' → Ok (again (x3 + 6, σ')) P) : Ok (J_L_law_1301 N L xs again x3 σ) P := by
  rw [J_L_law_1301.eq_1]
  refine ok_aX hx hL (by decide) (by decide) ?_
  refine ok_gC rfl ?_
  refine ok_zb (ok_pt (ok_pt (wc_order hN hI) (tc_order hN hI)) (jf_X11_order rfl)) (fun v257 σ258 hv257 => ?_)
  have uv257 := hv257.2
  have tv257 := hv257.1.2
  have hv257 := hv257.1.1
  have hEv257 := hI.2
  have hI0 := hI
  have hW0 := hW
  have hF0 := hF
  have hI : IV σ258 := hv257
  refine ok_aX hx hL (by decide) (by decide) ?_
  refine ok_gC rfl ?_
  refine ok_zb (ok_pt (ok_pt (wr_order hN hI) (tr_order hN hI.1.1 hI.1.2)) (jf_X12_order rfl)) (fun v260 σ261 hv260 => ?_)
  have uv260 := hv260.2
  have tv260 := hv260.1.2
  have hv260 := hv260.1.1
  have hI : IV σ261 := hv260
  have hW : WQ σ261 := sim_f hI0 hW0 tv257 tv260 (by decide)
  have hF : FQ σ261 := fs_0 hI0 hF0 tv257 tv260 (by decide) (jlw uv257) uv260
  exact ih σ261 ⟨hI, hW, hF⟩

theorem lc_1324 {P : Int32 × zS → Prop} {N L : Nat} {xs : Nat → Int32} {again : Int32 × zS → Option (Int32 × zS)} {x3 : Int32} {σ : zS} (hN : 1048576 ≤ N) (hx : 0 ≤ x3.toInt ∧ x3.toInt + 6 ≤ (L : Int)) (hL : L ≤ 384) (hI : IV σ) (hW : WQ σ) (hF : FQ σ) (ih : ∀ σ', IV σ' ∧ WQ σ' ∧ FQ σ' → Ok (again (x3 + 6, σ')) P) : Ok (J_L_law_1324 N L xs again x3 σ) P := by
  rw [J_L_law_1324.eq_1]
  refine ok_aX hx hL (by decide) (by decide) ?_
  refine ok_gC rfl ?_
  refine ok_zb (ok_pt (ok_pt (wc_swap hN hI) (tc_swap hN hI)) (jf_X11_swap rfl)) (fun v263 σ264 hv263 => ?_)
  have uv263 := hv263.2
  have tv263 := hv263.1.2
  have hv263 := hv263.1.1
  have hEv263 := hI.2
  have hI0 := hI
  have hW0 := hW
  have hF0 := hF
  have hI : IV σ264 := hv263
  refine ok_aX hx hL (by decide) (by decide) ?_
  refine ok_gC rfl ?_
  refine ok_zb (ok_pt (ok_pt (wr_swap hN hI) (tr_swap hN hI.1.1 hI.1.2)) (jf_X12_swap rfl)) (fun v266 σ267 hv266 => ?_)
  have uv266 := hv266.2
  have tv266 := hv266.1.2
  have hv266 := hv266.1.1
  have hI : IV σ267 := hv266
  have hW : WQ σ267 := sim_o hI0 hW0 tv263 tv266 (by decide) (by decide)
  have hF : FQ σ267 := fs_o hI0 hF0 tv263 tv266 (by decide) (by decide) (jlw uv263) uv266
  exact ih σ267 ⟨hI, hW, hF⟩

theorem lc_1347 {P : Int32 × zS → Prop} {N L : Nat} {xs : Nat → Int32} {again : Int32 × zS → Option (Int32 × zS)} {x3 : Int32} {σ : zS} (hN : 1048576 ≤ N) (hx : 0 ≤ x3.toInt ∧ x3.toInt + 6 ≤ (L : Int)) (hL : L ≤ 384) (hI : IV σ) (hW : WQ σ) (hF : FQ σ) (ih : ∀ σ', IV σ' ∧ WQ σ' ∧ FQ σ' → Ok (again (x3 + 6, σ')) P) : Ok (J_L_law_1347 N L xs again x3 σ) P := by
  rw [J_L_law_1347.eq_1]
  refine ok_aX hx hL (by decide) (by decide) ?_
  refine ok_aX hx hL (by decide) (by decide) ?_
  refine ok_gC rfl ?_
  refine ok_zb (ok_pt (ok_pt (wc_move hN hI) (tc_move hN hI)) (jf_X11_move rfl)) (fun v270 σ271 hv270 => ?_)
  have uv270 := hv270.2
  have tv270 := hv270.1.2
  have hv270 := hv270.1.1
  have hEv270 := hI.2
  have hI0 := hI
  have hW0 := hW
  have hF0 := hF
  have hI : IV σ271 := hv270
  refine ok_aX hx hL (by decide) (by decide) ?_
  refine ok_aX hx hL (by decide) (by decide) ?_
  refine ok_gC rfl ?_
  refine ok_zb (ok_pt (ok_pt (wr_move hN hI) (tr_move hN hI.1.1 hI.1.2)) (jf_X12_move rfl)) (fun v274 σ275 hv274 => ?_)
  have uv274 := hv274.2
  have tv274 := hv274.1.2
  have hv274 := hv274.1.1
  have hI : IV σ275 := hv274
  have hW : WQ σ275 := sim_o hI0 hW0 tv270 tv274 (by decide) (by decide)
  have hF : FQ σ275 := fs_o hI0 hF0 tv270 tv274 (by decide) (by decide) (jlw uv270) uv274
  exact ih σ275 ⟨hI, hW, hF⟩

theorem lc_1380 {P : Int32 × zS → Prop} {N L : Nat} {xs : Nat → Int32} {again : Int32 × zS → Option (Int32 × zS)} {x3 : Int32} {σ : zS} (hN : 1048576 ≤ N) (hx : 0 ≤ x3.toInt ∧ x3.toInt + 6 ≤ (L : Int)) (hL : L ≤ 384) (hI : IV σ) (hW : WQ σ) (hF : FQ σ) (ih : ∀ σ', IV σ' ∧ WQ σ' ∧ FQ σ' → Ok (again (x3 + 6, σ')) P) : Ok (J_L_law_1380 N L xs again x3 σ) P := by
  rw [J_L_law_1380.eq_1]
  refine ok_aX hx hL (by decide) (by decide) ?_
  refine ok_aX hx hL (by decide) (by decide) ?_
  refine ok_gC rfl ?_
  refine ok_zb (ok_pt (ok_pt (wc_best hN hI) (tc_best hN hI)) (of_best hI.1.1.1)) (fun v278 σ279 hv278 => ?_)
  have uv278 := hv278.2
  have tv278 := hv278.1.2
  have hv278 := hv278.1.1
  have hEv278 := hI.2
  have hI0 := hI
  have hW0 := hW
  have hF0 := hF
  have hI : IV σ279 := hv278
  refine ok_aX hx hL (by decide) (by decide) ?_
  refine ok_aX hx hL (by decide) (by decide) ?_
  refine ok_gC rfl ?_
  refine ok_zb (ok_pt (ok_pt (wr_best hN hI) (tr_best hN hI.1.1 hI.1.2)) (jf_X12_best rfl)) (fun v282 σ283 hv282 => ?_)
  have uv282 := hv282.2
  have tv282 := hv282.1.2
  have hv282 := hv282.1.1
  have hI : IV σ283 := hv282
  have hW : WQ σ283 := sim_f hI0 hW0 tv278 tv282 (by decide)
  have hF : FQ σ283 := fs_0 hI0 hF0 tv278 tv282 (by decide) uv278 uv282
  exact ih σ283 ⟨hI, hW, hF⟩

theorem lc_1413 {P : Int32 × zS → Prop} {N L : Nat} {xs : Nat → Int32} {again : Int32 × zS → Option (Int32 × zS)} {x3 : Int32} {σ : zS} (hN : 1048576 ≤ N) (hx : 0 ≤ x3.toInt ∧ x3.toInt + 6 ≤ (L : Int)) (hL : L ≤ 384) (hI : IV σ) (hW : WQ σ) (hF : FQ σ) (ih : ∀ σ', IV σ' ∧ WQ σ' ∧ FQ σ' → Ok (again (x3 + 6, σ')) P) : Ok (J_L_law_1413 N L xs again x3 σ) P := by
  rw [J_L_law_1413.eq_1]
  refine ok_aX hx hL (by decide) (by decide) ?_
  refine ok_gC rfl ?_
  refine ok_zb (ok_pt (ok_pt (wc_sift hN hI) (tc_sift hN hI)) (jf_X11_sift rfl)) (fun v285 σ286 hv285 => ?_)
  have uv285 := hv285.2
  have tv285 := hv285.1.2
  have hv285 := hv285.1.1
  have hEv285 := hI.2
  have hI0 := hI
  have hW0 := hW
  have hF0 := hF
  have hI : IV σ286 := hv285
  refine ok_aX hx hL (by decide) (by decide) ?_
  refine ok_gC rfl ?_
  refine ok_zb (ok_pt (ok_pt (wr_sift hN hI) (tr_sift hN hI.1.1 hI.1.2)) (jf_X12_sift rfl)) (fun v288 σ289 hv288 => ?_)
  have uv288 := hv288.2
  have tv288 := hv288.1.2
  have hv288 := hv288.1.1
  have hI : IV σ289 := hv288
  have hW : WQ σ289 := sim_o hI0 hW0 tv285 tv288 (by decide) (by decide)
  have hF : FQ σ289 := fs_o hI0 hF0 tv285 tv288 (by decide) (by decide) (jlw uv285) uv288
  exact ih σ289 ⟨hI, hW, hF⟩

theorem lc_1436 {P : Int32 × zS → Prop} {N L : Nat} {xs : Nat → Int32} {again : Int32 × zS → Option (Int32 × zS)} {x3 : Int32} {σ : zS} (hN : 1048576 ≤ N) (hx : 0 ≤ x3.toInt ∧ x3.toInt + 6 ≤ (L : Int)) (hL : L ≤ 384) (hI : IV σ) (hW : WQ σ) (hF : FQ σ) (ih : ∀ σ', IV σ' ∧ WQ σ' ∧ FQ σ' → Ok (again (x3 + 6, σ')) P) : Ok (J_L_law_1436 N L xs again x3 σ) P := by
  rw [J_L_law_1436.eq_1]
  refine ok_aX hx hL (by decide) (by decide) ?_
  refine ok_aX hx hL (by decide) (by decide) ?_
  refine ok_aX hx hL (by decide) (by decide) ?_
  refine ok_gC rfl ?_
  refine ok_zb (ok_pt (ok_pt (wc_ways hN hI) (tc_ways hN hI)) (vl_ways (isWc4 (IV_4 hI)) hI.1.1.1 rfl (Ed_x hI hW hF))) (fun v293 σ294 hv293 => ?_)
  have uv293 := hv293.2
  have tv293 := hv293.1.2
  have hv293 := hv293.1.1
  have hEv293 := hI.2
  have hI0 := hI
  have hW0 := hW
  have hF0 := hF
  have hI : IV σ294 := hv293
  refine ok_aX hx hL (by decide) (by decide) ?_
  refine ok_aX hx hL (by decide) (by decide) ?_
  refine ok_aX hx hL (by decide) (by decide) ?_
  refine ok_gC rfl ?_
  refine ok_zb (ok_pt (ok_pt (wr_ways hN hI) (tr_ways hN hI.1.1 hI.1.2)) (pt_and (jf_X12_ways rfl) (vr_ways hI.1.1.1 (RI_n hI.1.2) (EdR_x hI.1.2.1.1 (by rw [tv293.1 219 (by decide)]; exact hF0.2.1.1))))) (fun v298 σ299 hv298 => ?_)
  have uv298 := hv298.2
  have tv298 := hv298.1.2
  have hv298 := hv298.1.1
  have hI : IV σ299 := hv298
  have hW : WQ σ299 := sim_f hI0 hW0 tv293 tv298 (by decide)
  have hfv298 := fs_ways hI0 hW0 hF0 tv293 uv293 tv298 uv298.1 uv298.2
  have hF : FQ σ299 := hfv298.1
  exact ih σ299 ⟨hI, hW, hF⟩

theorem lc_1479 {P : Int32 × zS → Prop} {N L : Nat} {xs : Nat → Int32} {again : Int32 × zS → Option (Int32 × zS)} {x3 : Int32} {σ : zS} (hN : 1048576 ≤ N) (hx : 0 ≤ x3.toInt ∧ x3.toInt + 6 ≤ (L : Int)) (hL : L ≤ 384) (hI : IV σ) (hW : WQ σ) (hF : FQ σ) (ih : ∀ σ', IV σ' ∧ WQ σ' ∧ FQ σ' → Ok (again (x3 + 6, σ')) P) : Ok (J_L_law_1479 N L xs again x3 σ) P := by
  rw [J_L_law_1479.eq_1]
  refine ok_aX hx hL (by decide) (by decide) ?_
  refine ok_aX hx hL (by decide) (by decide) ?_
  refine ok_gC rfl ?_
  refine ok_zb (ok_pt (ok_pt (wc_map hN hI) (tc_map hN hI)) (vl_map (isWc4 (IV_4 hI)) hI.1.1.1 rfl (Ed_x hI hW hF))) (fun v302 σ303 hv302 => ?_)
  have uv302 := hv302.2
  have tv302 := hv302.1.2
  have hv302 := hv302.1.1
  have hEv302 := hI.2
  have hI0 := hI
  have hW0 := hW
  have hF0 := hF
  have hI : IV σ303 := hv302
  refine ok_aX hx hL (by decide) (by decide) ?_
  refine ok_aX hx hL (by decide) (by decide) ?_
  refine ok_gC rfl ?_
  refine ok_zb (ok_pt (ok_pt (wr_map hN hI) (tr_map hN hI.1.1 hI.1.2)) (pt_and (jf_X12_map rfl) (vr_map hI.1.1.1 (RI_n hI.1.2) (EdR_x hI.1.2.1.1 (by rw [tv302.1 219 (by decide)]; exact hF0.2.1.1))))) (fun v306 σ307 hv306 => ?_)
  have uv306 := hv306.2
  have tv306 := hv306.1.2
  have hv306 := hv306.1.1
  have hI : IV σ307 := hv306
  have hW : WQ σ307 := sim_f hI0 hW0 tv302 tv306 (by decide)
  have hfv306 := fs_map hI0 hW0 hF0 tv302 uv302 tv306 uv306.1 uv306.2
  have hF : FQ σ307 := hfv306.1
  exact ih σ307 ⟨hI, hW, hF⟩

theorem lc_1512 {P : Int32 × zS → Prop} {N L : Nat} {xs : Nat → Int32} {again : Int32 × zS → Option (Int32 × zS)} {x3 : Int32} {σ : zS} (hN : 1048576 ≤ N) (hx : 0 ≤ x3.toInt ∧ x3.toInt + 6 ≤ (L : Int)) (hL : L ≤ 384) (hI : IV σ) (hW : WQ σ) (hF : FQ σ) (ih : ∀ σ', IV σ' ∧ WQ σ' ∧ FQ σ' → Ok (again (x3 + 6, σ')) P) : Ok (J_L_law_1512 N L xs again x3 σ) P := by
  rw [J_L_law_1512.eq_1]
  refine ok_aX hx hL (by decide) (by decide) ?_
  refine ok_aX hx hL (by decide) (by decide) ?_
  refine ok_aX hx hL (by decide) (by decide) ?_
  refine ok_gC rfl ?_
  refine ok_zb (ok_pt (ok_pt (wc_cuts hN hI) (tc_cuts hN hI)) (vl_cuts (isWc4 (IV_4 hI)) hI.1.1.1 rfl (Ed_x hI hW hF) (n := (σ.1 219 0).toInt.toNat) (by rw [show σ.1 (σ.2.2 0 4) 0 = σ.1 219 0 from hW.1.1.1]; exact Int32.toInt_inj.mp (by have := RI_n hI.1.2; rw [nI_toInt (by omega)]; omega)) (by have := RI_n hI.1.2; omega) (eM_le hF.2.1.1))) (fun v311 σ312 hv311 => ?_)
  have uv311 := hv311.2
  have tv311 := hv311.1.2
  have hv311 := hv311.1.1
  have hEv311 := hI.2
  have hI0 := hI
  have hW0 := hW
  have hF0 := hF
  have hI : IV σ312 := hv311
  refine ok_aX hx hL (by decide) (by decide) ?_
  refine ok_aX hx hL (by decide) (by decide) ?_
  refine ok_aX hx hL (by decide) (by decide) ?_
  refine ok_gC rfl ?_
  refine ok_zb (ok_pt (ok_pt (wr_cuts hN hI) (tr_cuts hN hI.1.1 hI.1.2)) (pt_and (jf_X12_cuts rfl) (vr_cuts hN hI.1.2.1.1 hI.1.1.1 hI.1.2.2.1 (RI_n hI.1.2) (EdR_x hI.1.2.1.1 (by rw [tv311.1 219 (by decide)]; exact hF0.2.1.1))))) (fun v316 σ317 hv316 => ?_)
  have uv316 := hv316.2
  have tv316 := hv316.1.2
  have hv316 := hv316.1.1
  have hI : IV σ317 := hv316
  have hW : WQ σ317 := sim_f hI0 hW0 tv311 tv316 (by decide)
  have hfv316 := fs_cuts hI0 hW0 hF0 tv311 uv311 tv316 uv316.1 uv316.2
  have hF : FQ σ317 := hfv316.1
  exact ih σ317 ⟨hI, hW, hF⟩

theorem lc_1555 {P : Int32 × zS → Prop} {N L : Nat} {xs : Nat → Int32} {again : Int32 × zS → Option (Int32 × zS)} {x3 : Int32} {σ : zS} (hN : 1048576 ≤ N) (hx : 0 ≤ x3.toInt ∧ x3.toInt + 6 ≤ (L : Int)) (hL : L ≤ 384) (hI : IV σ) (hW : WQ σ) (hF : FQ σ) (ih : ∀ σ', IV σ' ∧ WQ σ' ∧ FQ σ' → Ok (again (x3 + 6, σ')) P) : Ok (J_L_law_1555 N L xs again x3 σ) P := by
  rw [J_L_law_1555.eq_1]
  refine ok_aX hx hL (by decide) (by decide) ?_
  refine ok_aX hx hL (by decide) (by decide) ?_
  refine ok_gC rfl ?_
  refine ok_zb (ok_pt (ok_pt (wc_judge hN hI) (tc_judge hN hI)) (jf_X11_judge rfl)) (fun v320 σ321 hv320 => ?_)
  have uv320 := hv320.2
  have tv320 := hv320.1.2
  have hv320 := hv320.1.1
  have hEv320 := hI.2
  have hI0 := hI
  have hW0 := hW
  have hF0 := hF
  have hI : IV σ321 := hv320
  refine ok_aX hx hL (by decide) (by decide) ?_
  refine ok_aX hx hL (by decide) (by decide) ?_
  refine ok_gC rfl ?_
  refine ok_zb (ok_pt (ok_pt (wr_judge hN hI) (tr_judge hN hI.1.1 hI.1.2)) (jf_X12_judge rfl)) (fun v324 σ325 hv324 => ?_)
  have uv324 := hv324.2
  have tv324 := hv324.1.2
  have hv324 := hv324.1.1
  have hI : IV σ325 := hv324
  have hW : WQ σ325 := sim_f hI0 hW0 tv320 tv324 (by decide)
  have hF : FQ σ325 := fs_0 hI0 hF0 tv320 tv324 (by decide) (jlw uv320) uv324
  exact ih σ325 ⟨hI, hW, hF⟩

theorem lc_1588 {P : Int32 × zS → Prop} {N L : Nat} {xs : Nat → Int32} {again : Int32 × zS → Option (Int32 × zS)} {x3 : Int32} {σ : zS} (hN : 1048576 ≤ N) (hx : 0 ≤ x3.toInt ∧ x3.toInt + 6 ≤ (L : Int)) (hL : L ≤ 384) (hI : IV σ) (hW : WQ σ) (hF : FQ σ) (ih : ∀ σ', IV σ' ∧ WQ σ' ∧ FQ σ' → Ok (again (x3 + 6, σ')) P) : Ok (J_L_law_1588 N L xs again x3 σ) P := by
  rw [J_L_law_1588.eq_1]
  refine ok_aX hx hL (by decide) (by decide) ?_
  refine ok_aX hx hL (by decide) (by decide) ?_
  refine ok_gC rfl ?_
  refine ok_zb (ok_pt (ok_pt (wc_takes hN hI) (tc_takes hN hI)) (vl_takes_ (isWc4 (IV_4 hI)) hI.1.1.1 rfl (CF_n hI rfl) hI.1.1.2.1.2.2.2.2.2.1)) (fun v328 σ329 hv328 => ?_)
  have uv328 := hv328.2
  have tv328 := hv328.1.2
  have hv328 := hv328.1.1
  have hEv328 := hI.2
  have hI0 := hI
  have hW0 := hW
  have hF0 := hF
  have hI : IV σ329 := hv328
  refine ok_aX hx hL (by decide) (by decide) ?_
  refine ok_aX hx hL (by decide) (by decide) ?_
  refine ok_gC rfl ?_
  refine ok_zb (ok_pt (ok_pt (wr_takes_ hN hI) (tr_takes hN hI.1.1 hI.1.2)) (pt_and (jf_X12_takes_ rfl) (vr_takes_ hI.1.1.1 hI.1.2.1.2.2 (RI_n hI.1.2)))) (fun v332 σ333 hv332 => ?_)
  have uv332 := hv332.2
  have tv332 := hv332.1.2
  have hv332 := hv332.1.1
  have hI : IV σ333 := hv332
  have hW : WQ σ333 := sim_f hI0 hW0 tv328 tv332 (by decide)
  have hfv332 := fs_takes hI0 hW0 hF0 tv328 uv328 tv332 uv332.1 uv332.2
  have hF : FQ σ333 := hfv332.1
  exact ih σ333 ⟨hI, hW, hF⟩

theorem lc_1621 {P : Int32 × zS → Prop} {N L : Nat} {xs : Nat → Int32} {again : Int32 × zS → Option (Int32 × zS)} {x3 : Int32} {σ : zS} (hN : 1048576 ≤ N) (hx : 0 ≤ x3.toInt ∧ x3.toInt + 6 ≤ (L : Int)) (hL : L ≤ 384) (hI : IV σ) (hW : WQ σ) (hF : FQ σ) (ih : ∀ σ', IV σ' ∧ WQ σ' ∧ FQ σ' → Ok (again (x3 + 6, σ')) P) : Ok (J_L_law_1621 N L xs again x3 σ) P := by
  rw [J_L_law_1621.eq_1]
  refine ok_aX hx hL (by decide) (by decide) ?_
  refine ok_gC rfl ?_
  refine ok_zb (ok_pt (ok_pt (wc_count hN hI) (tc_count hN hI)) (jf_X11_count rfl)) (fun v335 σ336 hv335 => ?_)
  have uv335 := hv335.2
  have tv335 := hv335.1.2
  have hv335 := hv335.1.1
  have hEv335 := hI.2
  have hI0 := hI
  have hW0 := hW
  have hF0 := hF
  have hI : IV σ336 := hv335
  refine ok_aX hx hL (by decide) (by decide) ?_
  refine ok_gC rfl ?_
  refine ok_zb (ok_pt (ok_pt (wr_count hN hI) (tr_count hN hI.1.1 hI.1.2)) (jf_X12_count rfl)) (fun v338 σ339 hv338 => ?_)
  have uv338 := hv338.2
  have tv338 := hv338.1.2
  have hv338 := hv338.1.1
  have hI : IV σ339 := hv338
  have hW : WQ σ339 := sim_f hI0 hW0 tv335 tv338 (by decide)
  have hF : FQ σ339 := fs_0 hI0 hF0 tv335 tv338 (by decide) (jlw uv335) uv338
  exact ih σ339 ⟨hI, hW, hF⟩

theorem lc_1644 {P : Int32 × zS → Prop} {N L : Nat} {xs : Nat → Int32} {again : Int32 × zS → Option (Int32 × zS)} {x3 : Int32} {σ : zS} (hN : 1048576 ≤ N) (hx : 0 ≤ x3.toInt ∧ x3.toInt + 6 ≤ (L : Int)) (hL : L ≤ 384) (hI : IV σ) (hW : WQ σ) (hF : FQ σ) (ih : ∀ σ', IV σ' ∧ WQ σ' ∧ FQ σ' → Ok (again (x3 + 6, σ')) P) : Ok (J_L_law_1644 N L xs again x3 σ) P := by
  rw [J_L_law_1644.eq_1]
  refine ok_aX hx hL (by decide) (by decide) ?_
  refine ok_gC rfl ?_
  refine ok_zb (ok_pt (ok_pt (wc_keep hN hI) (tc_keep hN hI)) (vy_keep (IV_4 hI) hI.1.1.1 rfl)) (fun v341 σ342 hv341 => ?_)
  have uv341 := hv341.2
  have tv341 := hv341.1.2
  have hv341 := hv341.1.1
  have hEv341 := hI.2
  have hI0 := hI
  have hW0 := hW
  have hF0 := hF
  refine ok_aX hx hL (by decide) (by decide) ?_
  refine ok_gC rfl ?_
  refine ok_zb (ok_pt (ok_pt (wr_keep hN hv341.1.1 hv341.1.2) (tr_keep hN hv341.1.1 hv341.1.2)) (pt_and (jf_X12_keep rfl) (vq_keep hv341.1.1.1 hv341.1.2.2.1))) (fun v344 σ345 hv344 => ?_)
  have uv344 := hv344.2
  have tv344 := hv344.1.2
  have hv344 := hv344.1.1
  have hpv344 := pr_keep hEv341 hv341 hv344
  have hI : IV σ345 := hpv344.1
  have hW : WQ σ345 := sim_keep hI0 hW0 tv341 tv344
  have hF : FQ σ345 := fs_keep (v := v341) hI0 hF0 hv341.2.1 tv341.1 uv341 tv344.1 tv344.2.1 uv344.1 uv344.2
  exact ih σ345 ⟨hI, hW, hF⟩

theorem lc_1667 {P : Int32 × zS → Prop} {N L : Nat} {xs : Nat → Int32} {again : Int32 × zS → Option (Int32 × zS)} {x3 : Int32} {σ : zS} (hN : 1048576 ≤ N) (hx : 0 ≤ x3.toInt ∧ x3.toInt + 6 ≤ (L : Int)) (hL : L ≤ 384) (hI : IV σ) (hW : WQ σ) (hF : FQ σ) (ih : ∀ σ', IV σ' ∧ WQ σ' ∧ FQ σ' → Ok (again (x3 + 6, σ')) P) : Ok (J_L_law_1667 N L xs again x3 σ) P := by
  rw [J_L_law_1667.eq_1]
  refine ok_aX hx hL (by decide) (by decide) ?_
  refine ok_gC rfl ?_
  refine ok_zb (ok_pt (ok_pt (wc_back hN hI) (tc_back hN hI)) (vy_back (IV_4 hI) hI.1.1.1 rfl)) (fun v347 σ348 hv347 => ?_)
  have uv347 := hv347.2
  have tv347 := hv347.1.2
  have hv347 := hv347.1.1
  have hEv347 := hI.2
  have hI0 := hI
  have hW0 := hW
  have hF0 := hF
  have hI : IV σ348 := hv347.1
  refine ok_aX hx hL (by decide) (by decide) ?_
  refine ok_gC rfl ?_
  refine ok_zb (ok_pt (ok_pt (wr_back hN hI) (tr_back hN hI.1.1 hI.1.2)) (pt_and (jf_X12_back rfl) (vq_back hI.1.1.1 hI.1.2.2.1))) (fun v350 σ351 hv350 => ?_)
  have uv350 := hv350.2
  have tv350 := hv350.1.2
  have hv350 := hv350.1.1
  have hev350 := eq_back hEv347 hv347.2 hv350.2
  have hI : IV σ351 := hv350.1
  have hW : WQ σ351 := sim_back hI0 hW0 tv347 tv350
  have hF : FQ σ351 := fs_back (v := v347) hI0 hF0 hv347.2.1 tv347.1 uv347 tv350.1 tv350.2.1 uv350.1 uv350.2
  exact ih σ351 ⟨hI, hW, hF⟩

theorem lc_1690 {P : Int32 × zS → Prop} {N L : Nat} {xs : Nat → Int32} {again : Int32 × zS → Option (Int32 × zS)} {x3 : Int32} {σ : zS} (hN : 1048576 ≤ N) (hx : 0 ≤ x3.toInt ∧ x3.toInt + 6 ≤ (L : Int)) (hL : L ≤ 384) (hI : IV σ) (hW : WQ σ) (hF : FQ σ) (ih : ∀ σ', IV σ' ∧ WQ σ' ∧ FQ σ' → Ok (again (x3 + 6, σ')) P) : Ok (J_L_law_1690 N L xs again x3 σ) P := by
  rw [J_L_law_1690.eq_1]
  refine ok_aX hx hL (by decide) (by decide) ?_
  refine ok_aX hx hL (by decide) (by decide) ?_
  refine ok_aX hx hL (by decide) (by decide) ?_
  refine ok_gC rfl ?_
  refine ok_zb (ok_pt (ok_pt (wc_row hN hI) (tc_row hN hI)) (vl_row hI.1.1.1)) (fun v355 σ356 hv355 => ?_)
  have uv355 := hv355.2
  have tv355 := hv355.1.2
  have hv355 := hv355.1.1
  have hEv355 := hI.2
  have hI0 := hI
  have hW0 := hW
  have hF0 := hF
  refine ok_aX hx hL (by decide) (by decide) ?_
  refine ok_aX hx hL (by decide) (by decide) ?_
  refine ok_aX hx hL (by decide) (by decide) ?_
  refine ok_gC rfl ?_
  refine ok_zb (ok_pt (ok_pt (wr_row hN hv355.1.1 hv355.1.2) (tr_row hN hv355.1.1 hv355.1.2)) (vr_row_ hv355.1.1.1)) (fun v360 σ361 hv360 => ?_)
  have uv360 := hv360.2
  have tv360 := hv360.1.2
  have hv360 := hv360.1.1
  have hpv360 := pr_row hEv355 hv355 hv360
  have hI : IV σ361 := hpv360.1
  have hW : WQ σ361 := sim_f hI0 hW0 tv355 tv360 (by decide)
  have hF : FQ σ361 := fs_row hI0 hF0 hpv360.2 tv355 uv355 tv360 hv360.2.2 uv360
  exact ih σ361 ⟨hI, hW, hF⟩

theorem lc_1733 {P : Int32 × zS → Prop} {N L : Nat} {xs : Nat → Int32} {again : Int32 × zS → Option (Int32 × zS)} {x3 : Int32} {σ : zS} (hN : 1048576 ≤ N) (hx : 0 ≤ x3.toInt ∧ x3.toInt + 6 ≤ (L : Int)) (hL : L ≤ 384) (hI : IV σ) (hW : WQ σ) (hF : FQ σ) (ih : ∀ σ', IV σ' ∧ WQ σ' ∧ FQ σ' → Ok (again (x3 + 6, σ')) P) : Ok (J_L_law_1733 N L xs again x3 σ) P := by
  rw [J_L_law_1733.eq_1]
  refine ok_aX hx hL (by decide) (by decide) ?_
  refine ok_aX hx hL (by decide) (by decide) ?_
  refine ok_aX hx hL (by decide) (by decide) ?_
  refine ok_aX hx hL (by decide) (by decide) ?_
  refine ok_gC rfl ?_
  refine ok_zb (ok_pt (ok_pt (wc_write hN hI) (tc_write hN hI)) (vl_write hI.1.1.1)) (fun v366 σ367 hv366 => ?_)
  have uv366 := hv366.2
  have tv366 := hv366.1.2
  have hv366 := hv366.1.1
  have hEv366 := hI.2
  have hI0 := hI
  have hW0 := hW
  have hF0 := hF
  have hI : IV σ367 := hv366.1
  refine ok_aX hx hL (by decide) (by decide) ?_
  refine ok_aX hx hL (by decide) (by decide) ?_
  refine ok_aX hx hL (by decide) (by decide) ?_
  refine ok_aX hx hL (by decide) (by decide) ?_
  refine ok_gC rfl ?_
  refine ok_zb (ok_pt (ok_pt (wr_write hN hI) (tr_write hN hI.1.1 hI.1.2)) (vr_write_ hI.1.1.1 hI.1.2.1.2.2)) (fun v372 σ373 hv372 => ?_)
  have uv372 := hv372.2
  have tv372 := hv372.1.2
  have hv372 := hv372.1.1
  have hev372 := eq_write hEv366 hv366.2 hv372.2
  have hI : IV σ373 := hv372.1
  have hW : WQ σ373 := sim_f hI0 hW0 tv366 tv372 (by decide)
  have hF : FQ σ373 := fs_write hI0 hF0 hev372 tv366 uv366 tv372 uv372
  exact ih σ373 ⟨hI, hW, hF⟩

theorem lc_1806 {P : Int32 × zS → Prop} {N L : Nat} {xs : Nat → Int32} {again : Int32 × zS → Option (Int32 × zS)} {x3 : Int32} {σ : zS} (hN : 1048576 ≤ N) (hx : 0 ≤ x3.toInt ∧ x3.toInt + 6 ≤ (L : Int)) (hL : L ≤ 384) (hI : IV σ) (hW : WQ σ) (hF : FQ σ) (ih : ∀ σ', IV σ' ∧ WQ σ' ∧ FQ σ' → Ok (again (x3 + 6, σ')) P) : Ok (J_L_law_1806 N L xs again x3 σ) P := by
  rw [J_L_law_1806.eq_1]
  refine ok_aX hx hL (by decide) (by decide) ?_
  refine ok_aX hx hL (by decide) (by decide) ?_
  refine ok_aX hx hL (by decide) (by decide) ?_
  refine ok_aX hx hL (by decide) (by decide) ?_
  refine ok_aX hx hL (by decide) (by decide) ?_
  refine ok_gC rfl ?_
  refine ok_zb (ok_pt (ok_pt (wc_paste hN hI) (tc_paste hN hI)) (vl_paste hI.1.1.1)) (fun v379 σ380 hv379 => ?_)
  have uv379 := hv379.2
  have tv379 := hv379.1.2
  have hv379 := hv379.1.1
  have hEv379 := hI.2
  have hI0 := hI
  have hW0 := hW
  have hF0 := hF
  have hI : IV σ380 := hv379.1
  refine ok_aX hx hL (by decide) (by decide) ?_
  refine ok_aX hx hL (by decide) (by decide) ?_
  refine ok_aX hx hL (by decide) (by decide) ?_
  refine ok_aX hx hL (by decide) (by decide) ?_
  refine ok_aX hx hL (by decide) (by decide) ?_
  refine ok_gC rfl ?_
  refine ok_zb (ok_pt (ok_pt (wr_paste hN hI) (tr_paste hN hI.1.1 hI.1.2)) (vr_paste_ hI.1.1.1 hI.1.2.1.2.2)) (fun v386 σ387 hv386 => ?_)
  have uv386 := hv386.2
  have tv386 := hv386.1.2
  have hv386 := hv386.1.1
  have hev386 := eq_paste hEv379 hv379.2 hv386.2
  have hI : IV σ387 := hv386.1
  have hW : WQ σ387 := sim_f hI0 hW0 tv379 tv386 (by decide)
  have hF : FQ σ387 := fs_paste hI0 hF0 hev386 hv379.2.2 tv379 uv379 tv386 uv386
  exact ih σ387 ⟨hI, hW, hF⟩

set_option maxRecDepth 100000 in
theorem law_ok {N L : Nat} {xs : Nat → Int32} (hN : 1048576 ≤ N) (hL : L ≤ 384) : Ok (f_L_law N L xs zs00) (fun r => r.1 = 1) := by
  have hl : (Int32.ofNat L - 6).toInt = (L : Int) - 6 := by
    rw [ti_sub, ti_ofNat (by omega)]
    simp only [Int32.reduceToInt]
    omega
  rw [f_L_law.eq_1]
  refine ok_lp (fun t : Int32 × zS => (0 ≤ t.1.toInt ∧ t.1.toInt ≤ 400) ∧ IV t.2 ∧ WQ t.2 ∧ FQ t.2) (fun t => (500 - t.1.toInt).toNat) (fun again t hI ih => ?_) N _ ⟨(by decide : 0 ≤ (0 : Int32).toInt ∧ (0 : Int32).toInt ≤ 400), ⟨⟨CI_0, RI_0⟩, EQ_0⟩, WQ_0, FQ_00⟩ (by simp only [Int32.reduceToInt]; omega)
  obtain ⟨x3, σ⟩ := t
  obtain ⟨h0, hI, hW, hF⟩ := hI
  have h0 : 0 ≤ x3.toInt ∧ x3.toInt ≤ 400 := h0
  have hI : IV σ := hI
  have hW : WQ σ := hW
  have hF : FQ σ := hF
  rw [F_L_law_18.eq_1]
  refine ok_if (fun _ => ok_some rfl) (fun hc => ?_)
  rw [Int32.lt_iff_toInt_lt, hl] at hc
  have hx : 0 ≤ x3.toInt ∧ x3.toInt + 6 ≤ (L : Int) := by omega
  have s6 : (x3 + 6).toInt = x3.toInt + 6 := by rw [ti_add]; simp only [Int32.reduceToInt]; omega
  have ih : ∀ σ', IV σ' ∧ WQ σ' ∧ FQ σ' → Ok (again (x3 + 6, σ')) (fun r => r.1 = 1) := fun σ' h1 => ih (x3 + 6, σ') ⟨(by rw [s6]; omega : 0 ≤ (x3 + 6).toInt ∧ (x3 + 6).toInt ≤ 400), h1⟩ (by show (500 - (x3 + 6).toInt).toNat < (500 - x3.toInt).toNat; rw [s6]; omega)
  refine ok_aX0 hx ?_
  refine ok_if (fun _ => lc_236 hN hx hL hI hW hF ih) (fun _ => ?_)
  refine ok_if (fun _ => lc_299 hN hx hL hI hW hF ih) (fun _ => ?_)
  refine ok_if (fun _ => lc_322 hN hx hL hI hW hF ih) (fun _ => ?_)
  refine ok_if (fun _ => lc_335 hN hx hL hI hW hF ih) (fun _ => ?_)
  refine ok_if (fun _ => lc_358 hN hx hL hI hW hF ih) (fun _ => ?_)
  refine ok_if (fun _ => lc_381 hN hx hL hI hW hF ih) (fun _ => ?_)
  refine ok_if (fun _ => lc_404 hN hx hL hI hW hF ih) (fun _ => ?_)
  refine ok_if (fun _ => lc_437 hN hx hL hI hW hF ih) (fun _ => ?_)
  refine ok_if (fun _ => lc_490 hN hx hL hI hW hF ih) (fun _ => ?_)
  refine ok_if (fun _ => lc_533 hN hx hL hI hW hF ih) (fun _ => ?_)
  refine ok_if (fun _ => lc_592 hN hx hL hI hW hF ih) (fun _ => ?_)
  refine ok_if (fun _ => lc_635 hN hx hL hI hW hF ih) (fun _ => ?_)
  refine ok_if (fun _ => lc_704 hN hx hL hI hW hF ih) (fun _ => ?_)
  refine ok_if (fun _ => lc_747 hN hx hL hI hW hF ih) (fun _ => ?_)
  refine ok_if (fun _ => lc_780 hN hx hL hI hW hF ih) (fun _ => ?_)
  refine ok_if (fun _ => lc_813 hN hx hL hI hW hF ih) (fun _ => ?_)
  refine ok_if (fun _ => lc_846 hN hx hL hI hW hF ih) (fun _ => ?_)
  refine ok_if (fun _ => lc_869 hN hx hL hI hW hF ih) (fun _ => ?_)
  refine ok_if (fun _ => lc_902 hN hx hL hI hW hF ih) (fun _ => ?_)
  refine ok_if (fun _ => lc_935 hN hx hL hI hW hF ih) (fun _ => ?_)
  refine ok_if (fun _ => lc_968 hN hx hL hI hW hF ih) (fun _ => ?_)
  refine ok_if (fun _ => lc_1001 hN hx hL hI hW hF ih) (fun _ => ?_)
  refine ok_if (fun _ => lc_1034 hN hx hL hI hW hF ih) (fun _ => ?_)
  refine ok_if (fun _ => lc_1067 hN hx hL hI hW hF ih) (fun _ => ?_)
  refine ok_if (fun _ => lc_1100 hN hx hL hI hW hF ih) (fun _ => ?_)
  refine ok_if (fun _ => lc_1133 hN hx hL hI hW hF ih) (fun _ => ?_)
  refine ok_if (fun _ => lc_1166 hN hx hL hI hW hF ih) (fun _ => ?_)
  refine ok_if (fun _ => lc_1199 hN hx hL hI hW hF ih) (fun _ => ?_)
  refine ok_if (fun _ => lc_1232 hN hx hL hI hW hF ih) (fun _ => ?_)
  refine ok_if (fun _ => lc_1255 hN hx hL hI hW hF ih) (fun _ => ?_)
  refine ok_if (fun _ => lc_1268 hN hx hL hI hW hF ih) (fun _ => ?_)
  refine ok_if (fun _ => lc_1301 hN hx hL hI hW hF ih) (fun _ => ?_)
  refine ok_if (fun _ => lc_1324 hN hx hL hI hW hF ih) (fun _ => ?_)
  refine ok_if (fun _ => lc_1347 hN hx hL hI hW hF ih) (fun _ => ?_)
  refine ok_if (fun _ => lc_1380 hN hx hL hI hW hF ih) (fun _ => ?_)
  refine ok_if (fun _ => lc_1413 hN hx hL hI hW hF ih) (fun _ => ?_)
  refine ok_if (fun _ => lc_1436 hN hx hL hI hW hF ih) (fun _ => ?_)
  refine ok_if (fun _ => lc_1479 hN hx hL hI hW hF ih) (fun _ => ?_)
  refine ok_if (fun _ => lc_1512 hN hx hL hI hW hF ih) (fun _ => ?_)
  refine ok_if (fun _ => lc_1555 hN hx hL hI hW hF ih) (fun _ => ?_)
  refine ok_if (fun _ => lc_1588 hN hx hL hI hW hF ih) (fun _ => ?_)
  refine ok_if (fun _ => lc_1621 hN hx hL hI hW hF ih) (fun _ => ?_)
  refine ok_if (fun _ => lc_1644 hN hx hL hI hW hF ih) (fun _ => ?_)
  refine ok_if (fun _ => lc_1667 hN hx hL hI hW hF ih) (fun _ => ?_)
  refine ok_if (fun _ => lc_1690 hN hx hL hI hW hF ih) (fun _ => ?_)
  refine ok_if (fun _ => lc_1733 hN hx hL hI hW hF ih) (fun _ => ?_)
  refine ok_if (fun _ => lc_1806 hN hx hL hI hW hF ih) (fun _ => ?_)
  exact ih σ ⟨hI, hW, hF⟩
def zN : Nat := 1048576
theorem safe (L : Nat) (xs : Nat → Int32) (hL : L ≤ 384) : ∃ ρ, f_L_law zN L xs zs00 = some ρ ∧ ρ.1 = 1 := law_ok (Nat.le_refl _) hL

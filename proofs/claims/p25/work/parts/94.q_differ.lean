def V_differ (x1 x2 : Int32) (g f : Nat → Int32) (v : Int32) : Prop := QE (isR (g 0) x1 ∧ isR (g 0) x2) (pkM (xoF (Rg f x1.toInt.toNat) (Rg f x2.toInt.toNat)) (mn (g 0)) 0) v
theorem uq_differ {N : Nat} (hN : 1048576 ≤ N) {x1 x2 : Int32} {σ : zS} (hI : IV σ) (hW : WQ σ) (hF : FQ σ) : Pt (f_X11_differ N 0 x1 x2 σ) (fun r => V_differ x1 x2 (σ.1 219) (σ.1 220) r.1) := by
  have h := vl_differ_ (N := N) (x1 := x1) (x2 := x2) (isWc4 (IV_4 hI)) hI.1.1.1 rfl
  rw [e0_ hW] at h
  refine pt_w h (fun r h => ⟨fun c => ?_, fun c => h.2.2 c⟩)
  obtain ⟨E, hE, hp⟩ := h.2.1 c
  have p1 := isR_p c.1
  have p2 := isR_p c.2
  refine pkQ_M (lq_M hI) (fun u hu => (hE u hu).trans (xo_c (FQ_f hF p1 hu) (FQ_f hF p2 hu))) (fun u hu a => ?_) hp
  by_cases q : u < mn (σ.1 219 0)
  · exact q
  · rw [xo_f ((ge_f hF p1 hu (by omega)).trans (ge_f hF p2 hu (by omega)).symm)] at a
    cases a
theorem rq_differ {N : Nat} (hN : 1048576 ≤ N) {x1 x2 : Int32} {σ : zS} (hC : CI σ) (hR : RI σ) : Pt (f_X12_differ N 218 x1 x2 σ) (fun r => V_differ x1 x2 (σ.1 219) (σ.1 220) r.1) := by
  rw [f_X12_differ.eq_1]
  refine pt_gC (pt_zbq (vr_areRegisters hC.1) (fun v hv => pt_if (fun q => pt_some (QE_n (hv.1 q))) (fun q1 => ?_)))
  have hc := hv.2 q1
  obtain ⟨p, hp, rfl⟩ := isR_n hc.1
  obtain ⟨q, hq, rfl⟩ := isR_n hc.2
  refine pt_gC (pt_zbq (vr_differOf hC.1 (RI_n hR) hp hq) (fun v3 h3 => pt_some (QE_y hc ?_)))
  rw [iN (m := p) (by omega), iN (m := q) (by omega)]
  exact h3
theorem fe_differ {S : List Nat} {x1 x2 v w : Int32} {σ σ1 : zS} (hI : IV σ) (hW : WQ σ) (hF : FQ σ) (t1 : FR S σ σ1) (hS : ∀ k ∈ [218, 219, 220, 239], k ∉ S) (c : V_differ x1 x2 (σ.1 219) (σ.1 220) v) (r : V_differ x1 x2 (σ1.1 219) (σ1.1 220) w) : v = w :=
  fe_V (V := V_differ x1 x2) (fun _ _ _ _ h h2 => QE_u (fun _ _ _ => pkM_u) h h2) t1 hS c r

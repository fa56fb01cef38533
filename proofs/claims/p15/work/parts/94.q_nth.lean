def V_nth (x1 x2 : Int32) (g f : Nat → Int32) (v : Int32) : Prop := QE (isR (g 0) x1) (nthP (Rg f x1.toInt.toNat) (mn (g 0)) x2) v
theorem uq_nth {N : Nat} (hN : 1048576 ≤ N) {x1 x2 : Int32} {σ : zS} (hI : IV σ) (hW : WQ σ) (hF : FQ σ) : Pt (f_X11_nth N 0 x1 x2 σ) (fun r => V_nth x1 x2 (σ.1 219) (σ.1 220) r.1) := by
  rw [f_X11_nth.eq_1]
  refine pt_gC (pt_zbq (lq_isR hW) (fun v hv => pt_if (fun q => pt_some (QE_n (hv.1 q))) (fun q1 => ?_)))
  obtain ⟨p, hp, rfl⟩ := isR_n (hv.2 q1)
  refine lq_reg hI hp (pt_gC (pt_zbq (lq_pick hI hF hp) (fun v6 h6 => pt_some (QE_y (hv.2 q1) ?_))))
  rw [iN (m := p) (by omega)]
  exact h6
theorem rq_nth {N : Nat} (hN : 1048576 ≤ N) {x1 x2 : Int32} {σ : zS} (hC : CI σ) (hR : RI σ) : Pt (f_X12_nth N 218 x1 x2 σ) (fun r => V_nth x1 x2 (σ.1 219) (σ.1 220) r.1) := by
  rw [f_X12_nth.eq_1]
  refine pt_gC (pt_zbq (vr_isRegister hC.1) (fun v hv => pt_if (fun q => pt_some (QE_n (hv.1 q))) (fun q1 => ?_)))
  obtain ⟨p, hp, rfl⟩ := isR_n (hv.2 q1)
  refine pt_gC (pt_zbq (vr_nthOf hC.1 (RI_n hR) hp) (fun v6 h6 => pt_some (QE_y (hv.2 q1) ?_)))
  rw [iN (m := p) (by omega)]
  exact h6
theorem fe_nth {S : List Nat} {x1 x2 v w : Int32} {σ σ1 : zS} (hI : IV σ) (hW : WQ σ) (hF : FQ σ) (t1 : FR S σ σ1) (hS : ∀ k ∈ [218, 219, 220, 239], k ∉ S) (c : V_nth x1 x2 (σ.1 219) (σ.1 220) v) (r : V_nth x1 x2 (σ1.1 219) (σ1.1 220) w) : v = w :=
  fe_V (V := V_nth x1 x2) (fun _ _ _ _ h h2 => QE_u (fun _ _ _ => nthP_u) h h2) t1 hS c r

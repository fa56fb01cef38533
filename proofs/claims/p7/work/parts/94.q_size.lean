def V_size (x1 : Int32) (g f : Nat → Int32) (v : Int32) : Prop := QE (isR (g 0) x1) (fun w => w = nI (ct (Rg f x1.toInt.toNat) (mn (g 0)))) v
theorem uq_size {N : Nat} (hN : 1048576 ≤ N) {x1 : Int32} {σ : zS} (hI : IV σ) (hW : WQ σ) (hF : FQ σ) : Pt (f_X11_size N 0 x1 σ) (fun r => V_size x1 (σ.1 219) (σ.1 220) r.1) := by
  rw [f_X11_size.eq_1]
  refine pt_gC (pt_zbq (lq_isR hW) (fun v hv => pt_if (fun q => pt_some (QE_n (hv.1 q))) (fun q1 => ?_)))
  obtain ⟨p, hp, rfl⟩ := isR_n (hv.2 q1)
  refine lq_reg hI hp (pt_gC (pt_zbq (lq_tally hI hF hp) (fun v6 h6 => pt_some (QE_y (hv.2 q1) ?_))))
  rw [iN (m := p) (by omega)]
  exact h6
theorem rq_size {N : Nat} (hN : 1048576 ≤ N) {x1 : Int32} {σ : zS} (hC : CI σ) (hR : RI σ) : Pt (f_X12_size N 218 x1 σ) (fun r => V_size x1 (σ.1 219) (σ.1 220) r.1) := by
  rw [f_X12_size.eq_1]
  refine pt_gC (pt_zbq (vr_isRegister hC.1) (fun v hv => pt_if (fun q => pt_some (QE_n (hv.1 q))) (fun q1 => ?_)))
  obtain ⟨p, hp, rfl⟩ := isR_n (hv.2 q1)
  refine pt_gC (pt_zbq (vr_sizeOf hC.1 (RI_n hR) hp) (fun v6 h6 => pt_some (QE_y (hv.2 q1) ?_)))
  rw [iN (m := p) (by omega)]
  exact h6
theorem fe_size {S : List Nat} {x1 v w : Int32} {σ σ1 : zS} (hI : IV σ) (hW : WQ σ) (hF : FQ σ) (t1 : FR S σ σ1) (hS : ∀ k ∈ [218, 219, 220, 239], k ∉ S) (c : V_size x1 (σ.1 219) (σ.1 220) v) (r : V_size x1 (σ1.1 219) (σ1.1 220) w) : v = w :=
  fe_V (V := V_size x1) (fun _ _ _ _ h h2 => QE_u (fun _ => fun_u) h h2) t1 hS c r

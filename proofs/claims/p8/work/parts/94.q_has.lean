def V_has (x1 x2 : Int32) (g f : Nat → Int32) (v : Int32) : Prop := QE (isR (g 0) x1 ∧ isS (g 0) x2) (fun w => w = if Rg f x1.toInt.toNat x2.toInt.toNat = true then 1 else 0) v
theorem uq_has {N : Nat} (hN : 1048576 ≤ N) {x1 x2 : Int32} {σ : zS} (hI : IV σ) (hW : WQ σ) (hF : FQ σ) : Pt (f_X11_has N 0 x1 x2 σ) (fun r => V_has x1 x2 (σ.1 219) (σ.1 220) r.1) := by
  rw [f_X11_has.eq_1]
  refine pt_gC (pt_zbq (lq_isR hW) (fun v hv => pt_if (fun q => pt_some (QE_n (fun z => hv.1 q z.1))) (fun q1 => ?_)))
  refine pt_gC (pt_zbq (lq_isS hW) (fun v3 hv3 => pt_if (fun q => pt_some (QE_n (fun z => hv3.1 q z.2))) (fun q3 => ?_)))
  have hc := And.intro (hv.2 q1) (hv3.2 q3)
  obtain ⟨p, hp, rfl⟩ := isR_n (hv.2 q1)
  obtain ⟨s, rfl, hs⟩ := isS_n (RI_n hI.1.2).2 (hv3.2 q3)
  have s10 : s < 1024 := Nat.lt_of_lt_of_le hs (lq_M hI)
  refine lq_reg hI hp (pt_gC (pt_zbq (v_holds hI.1.1.1 (lq_k hI hp) s10) (fun v8 h8 => ?_)))
  rw [FQ_f hF hp s10] at h8
  refine pt_if (fun z => pt_some (QE_y hc ?_)) (fun z => pt_some (QE_y hc ?_))
  · rw [iN (m := p) (by omega), iN (m := s) (by omega), if_neg (show ¬ rb _ _ _ = true by rw [vb_f h8 z]; decide)]
  · rw [iN (m := p) (by omega), iN (m := s) (by omega), if_pos (vb_t h8 z)]
theorem rq_has {N : Nat} (hN : 1048576 ≤ N) {x1 x2 : Int32} {σ : zS} (hC : CI σ) (hR : RI σ) : Pt (f_X12_has N 218 x1 x2 σ) (fun r => V_has x1 x2 (σ.1 219) (σ.1 220) r.1) := by
  rw [f_X12_has.eq_1]
  refine pt_gC (pt_zbq (vr_isRegister hC.1) (fun v hv => pt_if (fun q => pt_some (QE_n (fun z => hv.1 q z.1))) (fun q1 => ?_)))
  refine pt_gC (pt_zbq (vr_isSet hC.1 (RI_n hR)) (fun v3 hv3 => pt_if (fun q => pt_some (QE_n (fun z => hv3.1 q z.2))) (fun q3 => ?_)))
  have hc := And.intro (hv.2 q1) (hv3.2 q3)
  obtain ⟨p, hp, rfl⟩ := isR_n (hv.2 q1)
  obtain ⟨s, rfl, hs⟩ := isS_n (RI_n hR).2 (hv3.2 q3)
  have s10 : s < 1024 := Nat.lt_of_lt_of_le hs (mn_le (RI_n hR).2)
  refine pt_gC (pt_zbq (vr_of hC.1 hp s10) (fun v8 h8 => ?_))
  refine pt_if (fun z => pt_some (QE_y hc ?_)) (fun z => pt_some (QE_y hc ?_))
  · rw [iN (m := p) (by omega), iN (m := s) (by omega), if_neg (by rw [show Rg (σ.1 220) p s = false from vb_f h8 z]; decide)]
  · rw [iN (m := p) (by omega), iN (m := s) (by omega), if_pos (show Rg (σ.1 220) p s = true from vb_t h8 z)]
theorem fe_has {S : List Nat} {x1 x2 v w : Int32} {σ σ1 : zS} (hI : IV σ) (hW : WQ σ) (hF : FQ σ) (t1 : FR S σ σ1) (hS : ∀ k ∈ [218, 219, 220, 239], k ∉ S) (c : V_has x1 x2 (σ.1 219) (σ.1 220) v) (r : V_has x1 x2 (σ1.1 219) (σ1.1 220) w) : v = w :=
  fe_V (V := V_has x1 x2) (fun _ _ _ _ h h2 => QE_u (fun _ => fun_u) h h2) t1 hS c r

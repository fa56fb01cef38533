def V_rank (x1 x2 : Int32) (g f : Nat → Int32) (v : Int32) : Prop := QE (isR (g 0) x1 ∧ isS (g 0) x2) (fun w => w = nI (ct (Rg f x1.toInt.toNat) x2.toInt.toNat)) v
theorem uq_rank {N : Nat} (hN : 1048576 ≤ N) {x1 x2 : Int32} {σ : zS} (hI : IV σ) (hW : WQ σ) (hF : FQ σ) : Pt (f_X11_rank N 0 x1 x2 σ) (fun r => V_rank x1 x2 (σ.1 219) (σ.1 220) r.1) := by
  rw [f_X11_rank.eq_1]
  refine pt_gC (pt_zbq (lq_isR hW) (fun v hv => pt_if (fun q => pt_some (QE_n (fun z => hv.1 q z.1))) (fun q1 => ?_)))
  refine pt_gC (pt_zbq (lq_isS hW) (fun v3 hv3 => pt_if (fun q => pt_some (QE_n (fun z => hv3.1 q z.2))) (fun q3 => ?_)))
  have hc := And.intro (hv.2 q1) (hv3.2 q3)
  obtain ⟨p, hp, rfl⟩ := isR_n (hv.2 q1)
  obtain ⟨s, rfl, hs⟩ := isS_n (RI_n hI.1.2).2 (hv3.2 q3)
  have s10 : s < 1024 := Nat.lt_of_lt_of_le hs (lq_M hI)
  refine lq_reg hI hp (pt_gC (pt_zbq (v_tallyBelow hI.1.1.1 (lq_k hI hp) s10) (fun v8 h8 => pt_some (QE_y hc ?_))))
  have l := ct_le (Rg (σ.1 220) p) s
  rw [iN (m := p) (by omega), iN (m := s) (by omega)]
  apply Int32.toInt_inj.mp
  rw [ct_c (q := Rg (σ.1 220) p) (fun k hk => FQ_f hF hp (by omega))] at h8
  rw [h8, nI_toInt (by omega)]
theorem rq_rank {N : Nat} (hN : 1048576 ≤ N) {x1 x2 : Int32} {σ : zS} (hC : CI σ) (hR : RI σ) : Pt (f_X12_rank_ N 218 x1 x2 σ) (fun r => V_rank x1 x2 (σ.1 219) (σ.1 220) r.1) := by
  rw [f_X12_rank_.eq_1]
  refine pt_gC (pt_zbq (vr_isRegister hC.1) (fun v hv => pt_if (fun q => pt_some (QE_n (fun z => hv.1 q z.1))) (fun q1 => ?_)))
  refine pt_gC (pt_zbq (vr_isSet hC.1 (RI_n hR)) (fun v3 hv3 => pt_if (fun q => pt_some (QE_n (fun z => hv3.1 q z.2))) (fun q3 => ?_)))
  have hc := And.intro (hv.2 q1) (hv3.2 q3)
  obtain ⟨p, hp, rfl⟩ := isR_n (hv.2 q1)
  obtain ⟨s, rfl, hs⟩ := isS_n (RI_n hR).2 (hv3.2 q3)
  have s10 : s < 1024 := Nat.lt_of_lt_of_le hs (mn_le (RI_n hR).2)
  refine pt_lp (fun x : Int32 × Int32 × zS => x.2.2 = σ ∧ ∃ m, (x.2.1 = nI m ∧ m ≤ s) ∧ x.1 = nI (ct (Rg (σ.1 220) p) m)) (fun again x hI ih => ?_) N _ ⟨rfl, 0, ⟨rfl, Nat.zero_le _⟩, rfl⟩
  obtain ⟨y3, y4, τ⟩ := x
  obtain ⟨e, m, ⟨e4, hm⟩, e3⟩ := hI
  have e : τ = σ := e
  have e4 : y4 = nI m := e4
  have e3 : y3 = nI (ct (Rg (σ.1 220) p) m) := e3
  subst e
  subst e4
  subst e3
  have l := ct_le (Rg (τ.1 220) p) m
  rw [F_X12_rank__24.eq_1]
  refine pt_if (fun q => pt_some (QE_y hc ?_)) (fun q => ?_)
  · rw [nlt (by omega) (by omega)] at q
    rw [iN (m := p) (by omega), iN (m := s) (by omega)]
    show nI (ct _ m) = _
    rw [show m = s by omega]
  · rw [nlt (by omega) (by omega)] at q
    refine pt_gC (pt_zbq (vr_of hC.1 hp (by omega)) (fun v8 h8 => pt_if (fun z => ?_) (fun z => ?_)))
    · rw [nI_s1 (by omega), Int32.add_zero]
      exact ih (_, nI (m + 1), τ) ⟨rfl, m + 1, ⟨rfl, by omega⟩, by rw [ct_f (vb_f h8 z)]⟩
    · rw [nI_s1 (by omega), nI_s1 (by omega)]
      exact ih (_, nI (m + 1), τ) ⟨rfl, m + 1, ⟨rfl, by omega⟩, by rw [ct_t (vb_t h8 z)]⟩
theorem fe_rank {S : List Nat} {x1 x2 v w : Int32} {σ σ1 : zS} (hI : IV σ) (hW : WQ σ) (hF : FQ σ) (t1 : FR S σ σ1) (hS : ∀ k ∈ [218, 219, 220, 239], k ∉ S) (c : V_rank x1 x2 (σ.1 219) (σ.1 220) v) (r : V_rank x1 x2 (σ1.1 219) (σ1.1 220) w) : v = w :=
  fe_V (V := V_rank x1 x2) (fun _ _ _ _ h h2 => QE_u (fun _ => fun_u) h h2) t1 hS c r

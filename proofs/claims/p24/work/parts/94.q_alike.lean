def V_alike (x1 x2 : Int32) (g f : Nat → Int32) (v : Int32) : Prop := QE (isR (g 0) x1 ∧ isR (g 0) x2) (b01 (∀ u, u < mn (g 0) → Rg f x1.toInt.toNat u = Rg f x2.toInt.toNat u)) v
theorem uq_alike {N : Nat} (hN : 1048576 ≤ N) {x1 x2 : Int32} {σ : zS} (hI : IV σ) (hW : WQ σ) (hF : FQ σ) : Pt (f_X11_alike N 0 x1 x2 σ) (fun r => V_alike x1 x2 (σ.1 219) (σ.1 220) r.1) := by
  rw [f_X11_alike.eq_1]
  refine pt_gC (pt_zbq (lq_isR hW) (fun v hv => pt_if (fun q => pt_some (QE_n (fun z => hv.1 q z.1))) (fun q1 => ?_)))
  refine pt_gC (pt_zbq (lq_isR hW) (fun v3 hv3 => pt_if (fun q => pt_some (QE_n (fun z => hv3.1 q z.2))) (fun q3 => ?_)))
  have hc := And.intro (hv.2 q1) (hv3.2 q3)
  obtain ⟨p, hp, rfl⟩ := isR_n hc.1
  obtain ⟨q, hq, rfl⟩ := isR_n hc.2
  have ep := iN (m := p) (by omega)
  have eq := iN (m := q) (by omega)
  have i : (∀ u, u < 1024 → bt (σ.2.1 (σ.2.2 0 4 + 6 + 2 * p + 1)) u = bt (σ.2.1 (σ.2.2 0 4 + 6 + 2 * q + 1)) u) ↔ ∀ u, u < mn (σ.1 219 0) → Rg (σ.1 220) p u = Rg (σ.1 220) q u := by
    rw [← all_M (lq_M hI) (fun u hu h => (ge_f hF hp hu h).trans (ge_f hF hq hu h).symm)]
    constructor
    · intro h u hu
      have := h u hu
      rw [FQ_f hF hp hu, FQ_f hF hq hu] at this
      exact this
    · intro h u hu
      rw [FQ_f hF hp hu, FQ_f hF hq hu]
      exact h u hu
  refine lq_reg hI hp (lq_reg hI hq (pt_gC (pt_zbq (v_sameAs hI.1.1.1 (lq_k hI hp) (lq_k hI hq)) (fun v11 h11 => ?_))))
  rw [i] at h11
  refine pt_if (fun z => pt_some (QE_y hc ?_)) (fun z => pt_some (QE_y hc ?_))
  · rw [ep, eq]
    refine Or.inr ⟨rfl, fun a => ?_⟩
    have := h11.2.mpr a
    rw [z] at this
    exact absurd this (by decide)
  · rw [ep, eq]
    exact Or.inl ⟨rfl, h11.2.mp (h11.1.resolve_left z)⟩
theorem rq_alike {N : Nat} (hN : 1048576 ≤ N) {x1 x2 : Int32} {σ : zS} (hC : CI σ) (hR : RI σ) : Pt (f_X12_alike N 218 x1 x2 σ) (fun r => V_alike x1 x2 (σ.1 219) (σ.1 220) r.1) := by
  have b := mn_le (RI_n hR).2
  rw [f_X12_alike.eq_1]
  refine pt_gC (pt_zbq (vr_areRegisters hC.1) (fun v hv => pt_if (fun q => pt_some (QE_n (hv.1 q))) (fun q1 => ?_)))
  have hc := hv.2 q1
  obtain ⟨p, hp, rfl⟩ := isR_n hc.1
  obtain ⟨q, hq, rfl⟩ := isR_n hc.2
  have ep := iN (m := p) (by omega)
  have eq := iN (m := q) (by omega)
  refine pt_gC (pt_zbq (vr_differOf hC.1 (RI_n hR) hp hq) (fun v3 h3 => ?_))
  refine pt_if (fun z => pt_some (QE_y hc ?_)) (fun z => pt_some (QE_y hc ?_))
  · rw [ep, eq]
    rcases h3 with ⟨u, hu, _, _, hv⟩ | ⟨h0, _⟩
    · rw [hv] at z
      have := congrArg Int32.toInt z
      rw [nI_toInt (by omega)] at this
      simp only [Int32.reduceToInt] at this
      omega
    · refine Or.inl ⟨rfl, fun u hu => Classical.byContradiction (fun y => ?_)⟩
      have := ct_z (Nat.le_zero.mp h0) u hu
      rw [xo_t y] at this
      cases this
  · rw [ep, eq]
    rcases h3 with ⟨u, hu, hx, _, _⟩ | ⟨_, h0⟩
    · refine Or.inr ⟨rfl, fun h => ?_⟩
      rw [xo_f (h u hu)] at hx
      cases hx
    · exact absurd h0 z
theorem fe_alike {S : List Nat} {x1 x2 v w : Int32} {σ σ1 : zS} (hI : IV σ) (hW : WQ σ) (hF : FQ σ) (t1 : FR S σ σ1) (hS : ∀ k ∈ [218, 219, 220, 239], k ∉ S) (c : V_alike x1 x2 (σ.1 219) (σ.1 220) v) (r : V_alike x1 x2 (σ1.1 219) (σ1.1 220) w) : v = w :=
  fe_V (V := V_alike x1 x2) (fun _ _ _ _ h h2 => QE_u (fun _ _ _ => b01_u) h h2) t1 hS c r

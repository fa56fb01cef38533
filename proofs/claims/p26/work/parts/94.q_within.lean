def V_within (x1 x2 : Int32) (g f : Nat → Int32) (v : Int32) : Prop := QE (isR (g 0) x1 ∧ isR (g 0) x2) (b01 (∀ u, u < mn (g 0) → Rg f x1.toInt.toNat u = true → Rg f x2.toInt.toNat u = true)) v
theorem uq_within {N : Nat} (hN : 1048576 ≤ N) {x1 x2 : Int32} {σ : zS} (hI : IV σ) (hW : WQ σ) (hF : FQ σ) : Pt (f_X11_within N 0 x1 x2 σ) (fun r => V_within x1 x2 (σ.1 219) (σ.1 220) r.1) := by
  have h := vl_within_ (N := N) (x1 := x1) (x2 := x2) (isWc4 (IV_4 hI)) hI.1.1.1 rfl
  rw [e0_ hW] at h
  refine pt_w h (fun r h => ⟨fun c => ?_, fun c => h.2.2 c⟩)
  have p1 := isR_p c.1
  have p2 := isR_p c.2
  refine b01_c ?_ (h.2.1 c)
  rw [← all_M (P := fun u => Rg (σ.1 220) x1.toInt.toNat u = true → Rg (σ.1 220) x2.toInt.toNat u = true) (lq_M hI) (fun u hu h a => by rw [ge_f hF p1 hu h] at a; cases a)]
  constructor
  · intro h u hu a
    have := h u hu
    unfold Fc at this
    rw [FQ_f hF p1 hu, FQ_f hF p2 hu] at this
    exact this a
  · intro h u hu a
    unfold Fc at a ⊢
    rw [FQ_f hF p1 hu] at a
    rw [FQ_f hF p2 hu]
    exact h u hu a
theorem rq_within {N : Nat} (hN : 1048576 ≤ N) {x1 x2 : Int32} {σ : zS} (hC : CI σ) (hR : RI σ) : Pt (f_X12_within N 218 x1 x2 σ) (fun r => V_within x1 x2 (σ.1 219) (σ.1 220) r.1) := by
  have b := mn_le (RI_n hR).2
  rw [f_X12_within.eq_1]
  refine pt_gC (pt_zbq (vr_areRegisters hC.1) (fun v hv => pt_if (fun q => pt_some (QE_n (hv.1 q))) (fun q1 => ?_)))
  have hc := hv.2 q1
  obtain ⟨p, hp, rfl⟩ := isR_n hc.1
  obtain ⟨q, hq, rfl⟩ := isR_n hc.2
  have ep := iN (m := p) (by omega)
  have eq := iN (m := q) (by omega)
  refine pt_lp (fun x : Int32 × zS => x.2 = σ ∧ ∃ m, (x.1 = nI m ∧ m ≤ mn (σ.1 219 0)) ∧ ∀ u, u < m → Rg (σ.1 220) p u = true → Rg (σ.1 220) q u = true) (fun again x hI ih => ?_) N _ ⟨rfl, 0, ⟨rfl, Nat.zero_le _⟩, fun u hu => absurd hu (Nat.not_lt_zero _)⟩
  obtain ⟨y3, τ⟩ := x
  obtain ⟨e, m, ⟨e4, hm⟩, he⟩ := hI
  have e : τ = σ := e
  have e4 : y3 = nI m := e4
  subst e
  subst e4
  rw [F_X12_within_14.eq_1]
  refine pt_gC (pt_zbq (vr_mn hC.1 (RI_n hR)) (fun v hv => ?_))
  subst hv
  refine pt_if (fun z => pt_some (QE_y hc ?_)) (fun z => ?_)
  · rw [nlt (by omega) (by omega)] at z
    rw [ep, eq]
    exact Or.inl ⟨rfl, fun u hu => he u (by omega)⟩
  · rw [nlt (by omega) (by omega)] at z
    have go : (Rg (τ.1 220) p m = true → Rg (τ.1 220) q m = true) → Pt (again (nI m + 1, τ)) (fun r => V_within (nI p) (nI q) (τ.1 219) (τ.1 220) r.1) := fun h => by
      rw [nI_s1 (by omega)]
      refine ih (nI (m + 1), τ) ⟨rfl, m + 1, ⟨rfl, by omega⟩, fun u hu => ?_⟩
      by_cases k : u = m
      · rw [k]; exact h
      · exact he u (by omega)
    refine pt_gC (pt_zbq (vr_of hC.1 hp (by omega)) (fun v3 h3 => pt_if (fun y => go (fun a => ?_)) (fun y => pt_gC (pt_zbq (vr_of hC.1 hq (by omega)) (fun v5 h5 => pt_if (fun y5 => pt_some (QE_y hc ?_)) (fun y5 => go (fun _ => vb_t h5 y5)))))))
    · rw [show Rg (τ.1 220) p m = false from vb_f h3 y] at a; cases a
    · rw [ep, eq]
      refine Or.inr ⟨rfl, fun h => ?_⟩
      have := h m (by omega) (vb_t h3 y)
      rw [show Rg (τ.1 220) q m = false from vb_f h5 y5] at this
      cases this
theorem fe_within {S : List Nat} {x1 x2 v w : Int32} {σ σ1 : zS} (hI : IV σ) (hW : WQ σ) (hF : FQ σ) (t1 : FR S σ σ1) (hS : ∀ k ∈ [218, 219, 220, 239], k ∉ S) (c : V_within x1 x2 (σ.1 219) (σ.1 220) v) (r : V_within x1 x2 (σ1.1 219) (σ1.1 220) w) : v = w :=
  fe_V (V := V_within x1 x2) (fun _ _ _ _ h h2 => QE_u (fun _ _ _ => b01_u) h h2) t1 hS c r

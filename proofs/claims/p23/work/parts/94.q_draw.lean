def drE (x n : Int32) : Int32 := Int64.toInt32 (((((1103515245 * (Int32.toInt64 x)) + 12345) - ((1103515245 * (Int32.toInt64 x)) + 12345) / 2147483648 * 2147483648) / 65536) - ((((1103515245 * (Int32.toInt64 x)) + 12345) - ((1103515245 * (Int32.toInt64 x)) + 12345) / 2147483648 * 2147483648) / 65536) / (Int32.toInt64 n) * (Int32.toInt64 n))
def drP (F : Nat → Bool) (M : Nat) (x v : Int32) : Prop := (ct F M = 0 → v = -1) ∧ (¬ ct F M = 0 → nthP F M (drE x (nI (ct F M))) v)
theorem drP_u {F : Nat → Bool} {M : Nat} {x v w : Int32} (h : drP F M x v) (h2 : drP F M x w) : v = w := by
  by_cases q : ct F M = 0
  · rw [h.1 q, h2.1 q]
  · exact nthP_u (h.2 q) (h2.2 q)
def V_draw (x1 x2 : Int32) (g f : Nat → Int32) (v : Int32) : Prop := QE (isR (g 0) x1 ∧ 0 ≤ x2.toInt ∧ x2.toInt ≤ 2000000000) (drP (Rg f x1.toInt.toNat) (mn (g 0)) x2) v
theorem uq_draw {N : Nat} (hN : 1048576 ≤ N) {x1 x2 : Int32} {σ : zS} (hI : IV σ) (hW : WQ σ) (hF : FQ σ) : Pt (f_X11_draw N 0 x1 x2 σ) (fun r => V_draw x1 x2 (σ.1 219) (σ.1 220) r.1) := by
  rw [f_X11_draw.eq_1]
  refine pt_gC (pt_zbq (lq_isR hW) (fun v hv => pt_if (fun q => pt_some (QE_n (fun z => hv.1 q z.1))) (fun q1 => ?_)))
  refine pt_if (fun q => pt_some (QE_n (fun z => ?_))) (fun qa => pt_if (fun qb => ?_) (fun q => pt_some (QE_n (fun z => ?_))))
  · rw [Int32.lt_iff_toInt_lt] at q
    simp only [Int32.reduceToInt] at q
    have := z.2; omega
  · rw [Int32.lt_iff_toInt_lt] at qa
    rw [Int32.le_iff_toInt_le] at qb
    simp only [Int32.reduceToInt] at qa qb
    have hc : isR (σ.1 219 0) x1 ∧ 0 ≤ x2.toInt ∧ x2.toInt ≤ 2000000000 := ⟨hv.2 q1, by omega, qb⟩
    obtain ⟨p, hp, rfl⟩ := isR_n hc.1
    have ep := iN (m := p) (by omega)
    have l := ct_le (Rg (σ.1 220) p) (mn (σ.1 219 0))
    have lM := lq_M hI
    refine lq_reg hI hp (pt_gC (pt_zbq (lq_tally hI hF hp) (fun v6 h6 => ?_)))
    subst h6
    have ct0 : (0 < nI (ct (Rg (σ.1 220) p) (mn (σ.1 219 0)))) ↔ ¬ ct (Rg (σ.1 220) p) (mn (σ.1 219 0)) = 0 := by
      rw [Int32.lt_iff_toInt_lt, nI_toInt (by omega)]
      simp only [Int32.reduceToInt]
      omega
    refine pt_if (fun z => ?_) (fun z => pt_some (QE_y hc ?_))
    · refine pt_nj (lq_reg hI hp (pt_nj (pt_nj (pt_gC (pt_zbq (lq_pick hI hF hp) (fun v11 h11 => pt_some (QE_y hc ?_)))))))
      rw [ep]
      exact ⟨fun y => absurd y (ct0.mp z), fun _ => h11⟩
    · rw [ep]
      exact ⟨fun _ => rfl, fun y => absurd (ct0.mpr y) z⟩
  · rw [Int32.le_iff_toInt_le] at q
    simp only [Int32.reduceToInt] at q
    have := z.2; omega
theorem rq_draw {N : Nat} (hN : 1048576 ≤ N) {x1 x2 : Int32} {σ : zS} (hC : CI σ) (hR : RI σ) : Pt (f_X12_draw N 218 x1 x2 σ) (fun r => V_draw x1 x2 (σ.1 219) (σ.1 220) r.1) := by
  rw [f_X12_draw.eq_1]
  refine pt_gC (pt_zbq (vr_isRegister hC.1) (fun v hv => pt_if (fun q => pt_some (QE_n (fun z => hv.1 q z.1))) (fun q1 => ?_)))
  refine pt_zbq vr_in (fun v3 hv3 => ?_)
  rw [i64_of] at hv3
  simp only [Int64.reduceToInt] at hv3
  refine pt_if (fun q => pt_some (QE_n (fun z => hv3.1 q z.2))) (fun q3 => ?_)
  have hc : isR (σ.1 219 0) x1 ∧ 0 ≤ x2.toInt ∧ x2.toInt ≤ 2000000000 := ⟨hv.2 q1, hv3.2 q3⟩
  obtain ⟨p, hp, rfl⟩ := isR_n hc.1
  have ep := iN (m := p) (by omega)
  have l := ct_le (Rg (σ.1 220) p) (mn (σ.1 219 0))
  have lM := mn_le (RI_n hR).2
  refine pt_gC (pt_zbq (vr_sizeOf hC.1 (RI_n hR) hp) (fun v5 h5 => pt_nj ?_))
  subst h5
  have ct0 : nI (ct (Rg (σ.1 220) p) (mn (σ.1 219 0))) = 0 ↔ ct (Rg (σ.1 220) p) (mn (σ.1 219 0)) = 0 := nI_z (by omega)
  refine pt_if (fun z => pt_some (QE_y hc ?_)) (fun z => ?_)
  · rw [ep]
    exact ⟨fun _ => rfl, fun y => absurd (ct0.mp z) y⟩
  · refine pt_nj (pt_nj (pt_gC (pt_zbq (vr_nthOf hC.1 (RI_n hR) hp) (fun v7 h7 => pt_some (QE_y hc ?_)))))
    rw [ep]
    exact ⟨fun y => absurd (ct0.mpr y) z, fun _ => h7⟩
theorem fe_draw {S : List Nat} {x1 x2 v w : Int32} {σ σ1 : zS} (hI : IV σ) (hW : WQ σ) (hF : FQ σ) (t1 : FR S σ σ1) (hS : ∀ k ∈ [218, 219, 220, 239], k ∉ S) (c : V_draw x1 x2 (σ.1 219) (σ.1 220) v) (r : V_draw x1 x2 (σ1.1 219) (σ1.1 220) w) : v = w :=
  fe_V (V := V_draw x1 x2) (fun _ _ _ _ h h2 => QE_u (fun _ _ _ => drP_u) h h2) t1 hS c r

def V_each (x1 x2 : Int32) (g f : Nat → Int32) (v : Int32) : Prop := QE (isR (g 0) x1 ∧ isN (g 0) x2) (fun w => w = nI (ct (fun u => Rg f x1.toInt.toNat u && u.testBit x2.toInt.toNat) (mn (g 0)))) v
theorem uq_each {N : Nat} (hN : 1048576 ≤ N) {x1 x2 : Int32} {σ : zS} (hI : IV σ) (hW : WQ σ) (hF : FQ σ) : Pt (f_X11_each N 0 x1 x2 σ) (fun r => V_each x1 x2 (σ.1 219) (σ.1 220) r.1) := by
  have h := vl_each_ (N := N) (x1 := x1) (x2 := x2) (isWc4 (IV_4 hI)) hI.1.1.1 rfl (CF_n hI rfl)
  rw [e0_ hW] at h
  refine pt_w h (fun r h => ⟨fun c => ?_, fun c => h.2.2 c⟩)
  have p1 := isR_p c.1
  refine (h.2.1 c).trans ?_
  rw [ct_both (F := fun u => Fc σ (σ.2.2 0 4) x1.toInt.toNat u && u.testBit x2.toInt.toNat) (G := fun u => Rg (σ.1 220) x1.toInt.toNat u && u.testBit x2.toInt.toNat) (lq_M hI) (fun u hu => by unfold Fc; rw [FQ_f hF p1 hu]) (fun u hu a => FQ_i hF p1 hu (Bool.and_eq_true _ _ ▸ a).1)]
theorem rq_each {N : Nat} (hN : 1048576 ≤ N) {x1 x2 : Int32} {σ : zS} (hC : CI σ) (hR : RI σ) : Pt (f_X12_each N 218 x1 x2 σ) (fun r => V_each x1 x2 (σ.1 219) (σ.1 220) r.1) := by
  have b := mn_le (RI_n hR).2
  rw [f_X12_each.eq_1]
  refine pt_gC (pt_zbq (vr_isRegister hC.1) (fun v hv => pt_if (fun q => pt_some (QE_n (fun z => hv.1 q z.1))) (fun q1 => ?_)))
  refine pt_gC (pt_zbq (vr_isName hC.1 (RI_n hR)) (fun v3 hv3 => pt_if (fun q => pt_some (QE_n (fun z => hv3.1 q z.2))) (fun q3 => ?_)))
  have hc : isR (σ.1 219 0) x1 ∧ isN (σ.1 219 0) x2 := ⟨hv.2 q1, hv3.2 q3⟩
  obtain ⟨p, hp, rfl⟩ := isR_n hc.1
  obtain ⟨k, hk, rfl, _⟩ := isN_n hc.2 (RI_n hR).2
  have ep := iN (m := p) (by omega)
  have ek := iN (m := k) (by omega)
  refine pt_lp (fun x : Int32 × Int32 × zS => x.2.2 = σ ∧ ∃ m, (x.2.1 = nI m ∧ m ≤ mn (σ.1 219 0)) ∧ x.1 = nI (ct (fun u => Rg (σ.1 220) p u && u.testBit k) m)) (fun again x hI ih => ?_) N _ ⟨rfl, 0, ⟨rfl, Nat.zero_le _⟩, rfl⟩
  obtain ⟨y3, y4, τ⟩ := x
  obtain ⟨e, m, ⟨e4, hm⟩, e3⟩ := hI
  have e : τ = σ := e
  have e4 : y4 = nI m := e4
  have e3 : y3 = nI (ct (fun u => Rg (σ.1 220) p u && u.testBit k) m) := e3
  subst e
  subst e4
  subst e3
  have l := ct_le (fun u => Rg (τ.1 220) p u && u.testBit k) m
  rw [F_X12_each_24.eq_1]
  refine pt_gC (pt_zbq (vr_mn hC.1 (RI_n hR)) (fun v hv => ?_))
  subst hv
  refine pt_if (fun q => pt_some (QE_y hc ?_)) (fun q => ?_)
  · rw [nlt (by omega) (by omega)] at q
    rw [ep, ek]
    show nI (ct _ m) = _
    rw [show m = mn (τ.1 219 0) by omega]
  · rw [nlt (by omega) (by omega)] at q
    refine pt_gC (pt_zbq (vr_of hC.1 hp (by omega)) (fun v8 h8 => pt_if (fun z => ?_) (fun z => ?_)))
    · rw [nI_s1 (by omega), Int32.add_zero]
      refine ih (_, nI (m + 1), τ) ⟨rfl, m + 1, ⟨rfl, by omega⟩, ?_⟩
      rw [ct_f (p := fun u => Rg (τ.1 220) p u && u.testBit k) (by show (Rg (τ.1 220) p m && m.testBit k) = false; rw [show Rg (τ.1 220) p m = false from vb_f h8 z]; rfl)]
    · rw [nI_s1 (by omega), shb k hk m (by omega), nI_plus]
      refine ih (_, nI (m + 1), τ) ⟨rfl, m + 1, ⟨rfl, by omega⟩, ?_⟩
      have t := vb_t h8 z
      by_cases y : m.testBit k = true
      · rw [if_pos y, ct_t (p := fun u => Rg (τ.1 220) p u && u.testBit k) (by show (Rg (τ.1 220) p m && m.testBit k) = true; rw [show Rg (τ.1 220) p m = true from t, y]; rfl)]
      · rw [if_neg y, ct_f (p := fun u => Rg (τ.1 220) p u && u.testBit k) (by show (Rg (τ.1 220) p m && m.testBit k) = false; rw [Bool.eq_false_iff.mpr y, Bool.and_false])]
        rfl
theorem fe_each {S : List Nat} {x1 x2 v w : Int32} {σ σ1 : zS} (hI : IV σ) (hW : WQ σ) (hF : FQ σ) (t1 : FR S σ σ1) (hS : ∀ k ∈ [218, 219, 220, 239], k ∉ S) (c : V_each x1 x2 (σ.1 219) (σ.1 220) v) (r : V_each x1 x2 (σ1.1 219) (σ1.1 220) w) : v = w :=
  fe_V (V := V_each x1 x2) (fun _ _ _ _ h h2 => QE_u (fun _ => fun_u) h h2) t1 hS c r

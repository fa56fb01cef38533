def htM (F G : Nat → Bool) (M : Nat) : Prop := ∀ u, u < M → (F u = true ↔ RS 2 G M u)
def V_dual (x1 x2 : Int32) (g f : Nat → Int32) (v : Int32) : Prop := QE (isR (g 0) x1 ∧ isR (g 0) x2) (b01 (htM (Rg f x1.toInt.toNat) (Rg f x2.toInt.toNat) (mn (g 0)) ∧ htM (Rg f x2.toInt.toNat) (Rg f x1.toInt.toNat) (mn (g 0)))) v
theorem ht_iff {σ : zS} (hI : IV σ) (hF : FQ σ) {p q : Nat} (hp : p < 10) (hq : q < 10) (h0 : 0 < (σ.1 219 0).toInt) : isHit (Fc σ (σ.2.2 0 4) p) (Fc σ (σ.2.2 0 4) q) (mn (σ.1 219 0)) ↔ htM (Rg (σ.1 220) p) (Rg (σ.1 220) q) (mn (σ.1 219 0)) := by
  have a : ∀ k, k < 1024 → Fc σ (σ.2.2 0 4) q k = Rg (σ.1 220) q k := fun k hk => FQ_f hF hq hk
  have M10 := lq_M hI
  have i : ∀ u, u < 1024 → (RS 2 (Fc σ (σ.2.2 0 4) q) (mn (σ.1 219 0)) u ↔ RS 2 (Rg (σ.1 220) q) (mn (σ.1 219 0)) u) := fun u hu => ⟨RS_c a M10 hu, RS_c (fun k hk => (a k hk).symm) M10 hu⟩
  unfold isHit htM
  constructor
  · intro h u hu
    have := h u (by omega)
    rw [i u (by omega)] at this
    unfold Fc at this
    rw [FQ_f hF hp (by omega)] at this
    exact this
  · intro h u hu
    unfold Fc
    rw [FQ_f hF hp hu]
    have := i u hu
    unfold Fc at this
    rw [this]
    by_cases y : u < mn (σ.1 219 0)
    · exact h u y
    · have f := ge_f hF hp hu (by omega)
      constructor
      · intro z
        rw [show rb (σ.1 220) (1024 * p) u = false from f] at z; cases z
      · intro z
        rw [mn_p h0] at z y
        exact absurd (RS_in z) y
theorem uq_dual {N : Nat} (hN : 1048576 ≤ N) {x1 x2 : Int32} {σ : zS} (hI : IV σ) (hW : WQ σ) (hF : FQ σ) : Pt (f_X11_dual N 0 x1 x2 σ) (fun r => V_dual x1 x2 (σ.1 219) (σ.1 220) r.1) := by
  have h := vl_dual_ (N := N) (x1 := x1) (x2 := x2) (isWc4 (IV_4 hI)) hI.1.1.1 rfl (CF_n hI rfl) (FQ_FI hF hW)
  rw [e0_ hW] at h
  refine pt_w h (fun r h => ⟨fun c => ?_, fun c => h.2.2 c⟩)
  have p1 := isR_p c.1
  have p2 := isR_p c.2
  have k := h.2.1 c
  rw [ht_iff hI hF p1 p2 c.1.1, ht_iff hI hF p2 p1 c.1.1] at k
  exact k
theorem vr_isHits {N : Nat} {σ : zS} {p q : Nat} (hN : 1048576 ≤ N) (hR : RF σ.2.2) (hB : ZB σ.1) (hn : 0 ≤ (σ.1 219 0).toInt ∧ (σ.1 219 0).toInt ≤ 10) (hp : p < 10) (hq : q < 10) : Pt (f_X12_isHits N 218 (nI p) (nI q) σ) (fun r => FG [218, 227, 228] σ r.2 ∧ ZB r.2.1 ∧ b01 (htM (Rg (σ.1 220) p) (Rg (σ.1 220) q) (mn (σ.1 219 0))) r.1) := by
  have b := mn_le hn.2
  rw [f_X12_isHits.eq_1]
  refine pt_gC (pt_zbq (vr_mn hR hn) (fun v hv => ?_))
  subst hv
  refine pt_pI ?_
  obtain ⟨τ, hτ⟩ : ∃ τ, τ = zI σ 218 (upd (σ.1 218) 20 (nI (mn (σ.1 219 0)))) := ⟨_, rfl⟩
  rw [← hτ]
  have f0 : FG [218, 227, 228] σ τ := by rw [hτ]; exact FG.rf.u (by decide)
  have B0 : ZB τ.1 := by rw [hτ]; exact ZB_n (by decide) hB
  have a20 : τ.1 218 20 = nI (mn (σ.1 219 0)) := by rw [hτ, zI_s, upd_s]
  have e20 : τ.1 220 = σ.1 220 := f0.2 220 (by decide)
  have e19 : τ.1 219 = σ.1 219 := f0.2 219 (by decide)
  have R0 := f0.R hR
  refine pt_gR (v := 220) (R0 218 2 rfl) ?_
  rw [n1024]
  refine pt_gC (pt_zb (pt_and (pt_ok (s_X12_turns_220 hN R0 B0 (by rw [a20, nI_toInt (by omega)]; omega) (by rw [nI_toInt (by omega)]; omega))) (vr_turns R0 (by omega) a20 b (by decide))) (fun _ υ h => ?_))
  obtain ⟨⟨_, B2⟩, f2, h2⟩ := h
  have B2 : ZB υ.1 := B2
  have f2 : FG [227, 228] τ υ := f2
  have R2 := f2.R R0
  have f3 : FG [218, 227, 228] σ υ := f0.tr (f2.wk (by decide))
  have g20 : υ.1 220 = σ.1 220 := (f2.2 220 (by decide)).trans e20
  have g19 : υ.1 219 = σ.1 219 := (f2.2 219 (by decide)).trans e19
  have g18 : υ.1 218 20 = nI (mn (σ.1 219 0)) := by rw [f2.2 218 (by decide)]; exact a20
  have S2 : Md 227 υ 1024 (RS 2 (Rg (σ.1 220) q) (mn (σ.1 219 0))) := Md_z B2 rfl (fun u hu => by
    have := h2 u hu
    rw [e20] at this
    exact this)
  refine pt_lp (fun x : Int32 × zS => x.2 = υ ∧ ∃ m, (x.1 = nI m ∧ m ≤ mn (σ.1 219 0)) ∧ ∀ u, u < m → (Rg (σ.1 220) p u = true ↔ RS 2 (Rg (σ.1 220) q) (mn (σ.1 219 0)) u)) (fun again x hI ih => ?_) N _ ⟨rfl, 0, ⟨rfl, Nat.zero_le _⟩, fun u hu => absurd hu (Nat.not_lt_zero _)⟩
  obtain ⟨y3, φ⟩ := x
  obtain ⟨eo, m, ⟨e4o, hm⟩, he⟩ := hI
  have e : φ = υ := eo
  have e4 : y3 = nI m := e4o
  clear eo e4o
  subst e
  subst e4
  rw [F_X12_isHits_24.eq_1]
  refine pt_gI ?_
  rw [g18]
  refine pt_if (fun z => pt_rZ ⟨f3, B2, Or.inl ⟨rfl, fun u hu => ?_⟩⟩) (fun z => ?_)
  · rw [nlt (by omega) (by omega)] at z
    exact he u (by omega)
  · rw [nlt (by omega) (by omega)] at z
    refine pt_gC (pt_zbq (vr_of R2 hp (by omega)) (fun v8 h8 => ?_))
    rw [g20] at h8
    refine pt_gR (v := 227) (R2 218 17 rfl) (pt_aI ?_)
    rw [iN (m := m) (by omega)]
    have k : v8 = φ.1 227 m ↔ (Rg (σ.1 220) p m = true ↔ RS 2 (Rg (σ.1 220) q) (mn (σ.1 219 0)) m) := by
      rcases S2 m (by omega) with ⟨a, b⟩ | ⟨a, b⟩
      · rw [a, h8.2]
        exact ⟨fun y => ⟨fun _ => b, fun _ => y⟩, fun y => y.mpr b⟩
      · rw [a]
        constructor
        · intro y
          rw [show Rg (σ.1 220) p m = false from vb_f h8 y]
          exact ⟨fun w => (by cases w), fun w => absurd w b⟩
        · intro y
          refine h8.1.resolve_right (fun w => b (y.mp (h8.2.mp w)))
    refine pt_if (fun y => ?_) (fun y => pt_rZ ⟨f3, B2, Or.inr ⟨rfl, fun h => y (k.mpr (h m (by omega)))⟩⟩)
    rw [nI_s1 (by omega)]
    refine ih (nI (m + 1), φ) ⟨rfl, m + 1, ⟨rfl, by omega⟩, fun u hu => ?_⟩
    by_cases w : u = m
    · rw [w]; exact k.mp y
    · exact he u (by omega)
theorem rq_dual {N : Nat} (hN : 1048576 ≤ N) {x1 x2 : Int32} {σ : zS} (hC : CI σ) (hR : RI σ) : Pt (f_X12_dual N 218 x1 x2 σ) (fun r => V_dual x1 x2 (σ.1 219) (σ.1 220) r.1) := by
  rw [f_X12_dual.eq_1]
  refine pt_gC (pt_zbq (vr_areRegisters hC.1) (fun v hv => pt_if (fun q => pt_some (QE_n (hv.1 q))) (fun q1 => ?_)))
  have hc := hv.2 q1
  obtain ⟨p, hp, rfl⟩ := isR_n hc.1
  obtain ⟨q, hq, rfl⟩ := isR_n hc.2
  have ep := iN (m := p) (by omega)
  have eq := iN (m := q) (by omega)
  refine pt_gC (pt_zb (vr_isHits hN hC.1 hR.2.1 (RI_n hR) hp hq) (fun v3 τ h => ?_))
  obtain ⟨f1, B1, h1⟩ := h
  have f1 : FG [218, 227, 228] σ τ := f1
  have h1 : b01 (htM (Rg (σ.1 220) p) (Rg (σ.1 220) q) (mn (σ.1 219 0))) v3 := h1
  have e20 : τ.1 220 = σ.1 220 := f1.2 220 (by decide)
  have e19 : τ.1 219 = σ.1 219 := f1.2 219 (by decide)
  refine pt_if (fun z => pt_some (QE_y hc ?_)) (fun z => ?_)
  · rw [ep, eq]
    refine Or.inr ⟨rfl, fun w => ?_⟩
    rcases h1 with ⟨a, _⟩ | ⟨_, b⟩
    · rw [z] at a; exact absurd a (by decide)
    · exact b w.1
  · have y1 : htM (Rg (σ.1 220) p) (Rg (σ.1 220) q) (mn (σ.1 219 0)) := h1.elim (fun k => k.2) (fun k => absurd k.1 z)
    refine pt_gC (pt_zb (vr_isHits hN (f1.R hC.1) B1 (by rw [e19]; exact RI_n hR) hq hp) (fun v5 υ h => ?_))
    obtain ⟨_, _, h2⟩ := h
    have h2 : b01 (htM (Rg (τ.1 220) q) (Rg (τ.1 220) p) (mn (τ.1 219 0))) v5 := h2
    rw [e20, e19] at h2
    refine pt_if (fun z2 => pt_some (QE_y hc ?_)) (fun z2 => pt_some (QE_y hc ?_))
    · rw [ep, eq]
      refine Or.inr ⟨rfl, fun w => ?_⟩
      rcases h2 with ⟨a, _⟩ | ⟨_, b⟩
      · rw [z2] at a; exact absurd a (by decide)
      · exact b w.2
    · rw [ep, eq]
      exact Or.inl ⟨rfl, y1, h2.elim (fun k => k.2) (fun k => absurd k.1 z2)⟩
theorem fe_dual {S : List Nat} {x1 x2 v w : Int32} {σ σ1 : zS} (hI : IV σ) (hW : WQ σ) (hF : FQ σ) (t1 : FR S σ σ1) (hS : ∀ k ∈ [218, 219, 220, 239], k ∉ S) (c : V_dual x1 x2 (σ.1 219) (σ.1 220) v) (r : V_dual x1 x2 (σ1.1 219) (σ1.1 220) w) : v = w :=
  fe_V (V := V_dual x1 x2) (fun _ _ _ _ h h2 => QE_u (fun _ _ _ => b01_u) h h2) t1 hS c r

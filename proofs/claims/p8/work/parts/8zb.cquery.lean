/-! ===== the class's questions that use the scratch ===== -/
section CQRY
variable {N B : Nat} {σ : zS} {x1 x2 : Int32}
/-- register p of the class's world that begins at B -/
abbrev Fc (σ : zS) (B p : Nat) : Nat → Bool := bt (σ.2.1 (B + 6 + 2 * p + 1))
def eaC (m x1 x2 : Int32) : Prop := isR m x1 ∧ isN m x2
def prC (m x1 x2 : Int32) : Prop := isR m x1 ∧ isR m x2
theorem wr_rg (hB : isWc B) {k : Nat} (hk : k < 10) : WR (B + 6 + 2 * k + 1) := by unfold WR; unfold isWc at hB; omega
theorem LW1 {τ : zS} (h : LF 129 σ τ) : LW σ τ := fun a ha => h.2.2 a (lw_no ha).2.1
theorem vl_each_ (hB : isWc B) (hR : RF σ.2.2) (h4 : σ.2.2 0 4 = B) (hn : 0 ≤ (σ.1 B 0).toInt ∧ (σ.1 B 0).toInt ≤ 10) : Pt (f_X11_each N 0 x1 x2 σ) (fun r => LW σ r.2 ∧ (eaC (σ.1 B 0) x1 x2 → r.1 = nI (ct (fun u => Fc σ B x1.toInt.toNat u && u.testBit x2.toInt.toNat) 1024)) ∧ (¬ eaC (σ.1 B 0) x1 x2 → r.1 = -2)) := by
  rw [f_X11_each.eq_1]
  refine pt_gC (pt_zbq (vl_isRegister h4) (fun v hv => pt_if (fun q => pt_some ⟨fun _ _ => rfl, fun z => absurd z.1 (hv.1 q), fun _ => rfl⟩) (fun q1 => ?_)))
  refine pt_gC (pt_zbq (vl_isName h4) (fun v3 hv3 => pt_if (fun q => pt_some ⟨fun _ _ => rfl, fun z => absurd z.2 (hv3.1 q), fun _ => rfl⟩) (fun q3 => ?_)))
  have r1 := hv.2 q1
  have r3 : isN (σ.1 B 0) x2 := hv3.2 q3
  have hm : eaC (σ.1 B 0) x1 x2 := ⟨r1, r3⟩
  obtain ⟨p, hp, rfl⟩ := isR_n r1
  obtain ⟨l, hl, rfl, hlt⟩ := isN_n r3 hn.2
  have ep := iN (m := p) (by omega)
  have el := iN (m := l) (by omega)
  refine pt_gR (v := 128) (hR 0 17 rfl) (pt_reg hB hR h4 hp (pt_gC (pt_zb (v_copyFrom hR k128.1 (rgW hB hR hp).2) (fun _ σ1 h => ?_))))
  obtain ⟨l1, e1⟩ := h
  have l1 : LF 129 σ σ1 := l1
  have e1 : ∀ u, u < 1024 → bt (σ1.2.1 129) u = bt (σ.2.1 (B + 6 + 2 * p + 1)) u := e1
  have R1 := l1.R hR
  refine pt_gR (v := 128) (R1 0 17 rfl) (pt_gC (pt_zb (v_keepWithout R1 k128.1 hl) (fun _ σ2 h => ?_)))
  obtain ⟨l2, e2⟩ := h
  have l2 : LF 129 σ1 σ2 := l2
  have e2 : ∀ u, u < 1024 → bt (σ2.2.1 129) u = (bt (σ1.2.1 129) u && !u.testBit l) := e2
  have l12 := l1.tr l2
  have R2 := l12.R hR
  have h42 : σ2.2.2 0 4 = B := by rw [l12.2.1]; exact h4
  refine pt_reg hB R2 h42 hp (pt_gC (pt_zbq (v_tally R2 (rgW hB R2 hp).2) (fun v17 h17 => ?_)))
  refine pt_gR (v := 128) (R2 0 17 rfl) (pt_gC (pt_zbq (v_tally R2 k128.1) (fun v20 h20 => pt_some ⟨LW1 l12, fun _ => ?_, fun z => absurd hm z⟩)))
  have e3 : σ2.2.1 (B + 6 + 2 * p + 1) = σ.2.1 (B + 6 + 2 * p + 1) := l12.2.2 _ (lw_no (wr_rg hB hp)).2.1
  rw [e3] at h17
  have h20 : v20.toInt = (ct (bt (σ2.2.1 129)) 1024 : Int) := h20
  rw [ct_c (q := fun u => bt (σ.2.1 (B + 6 + 2 * p + 1)) u && !u.testBit l) (fun k hk => by rw [e2 k hk, e1 k hk])] at h20
  have s := ct_add (bt (σ.2.1 (B + 6 + 2 * p + 1))) (fun u => u.testBit l) 1024
  have b1 := ct_le (bt (σ.2.1 (B + 6 + 2 * p + 1))) 1024
  rw [ep, el]
  apply Int32.toInt_inj.mp
  show (v17 - v20).toInt = (nI (ct (fun u => bt (σ.2.1 (B + 6 + 2 * p + 1)) u && u.testBit l) 1024)).toInt
  rw [ti_sub, h17, h20, nI_toInt (by omega)]
  omega
theorem vl_within_ (hB : isWc B) (hR : RF σ.2.2) (h4 : σ.2.2 0 4 = B) : Pt (f_X11_within N 0 x1 x2 σ) (fun r => LW σ r.2 ∧ (prC (σ.1 B 0) x1 x2 → (r.1 = 1 ∧ ∀ u, u < 1024 → Fc σ B x1.toInt.toNat u = true → Fc σ B x2.toInt.toNat u = true) ∨ (r.1 = 0 ∧ ¬ ∀ u, u < 1024 → Fc σ B x1.toInt.toNat u = true → Fc σ B x2.toInt.toNat u = true)) ∧ (¬ prC (σ.1 B 0) x1 x2 → r.1 = -2)) := by
  rw [f_X11_within.eq_1]
  refine pt_gC (pt_zbq (vl_isRegister h4) (fun v hv => pt_if (fun q => pt_some ⟨fun _ _ => rfl, fun z => absurd z.1 (hv.1 q), fun _ => rfl⟩) (fun q1 => ?_)))
  refine pt_gC (pt_zbq (vl_isRegister h4) (fun v3 hv3 => pt_if (fun q => pt_some ⟨fun _ _ => rfl, fun z => absurd z.2 (hv3.1 q), fun _ => rfl⟩) (fun q3 => ?_)))
  have r1 := hv.2 q1
  have r3 := hv3.2 q3
  have hm : prC (σ.1 B 0) x1 x2 := ⟨r1, r3⟩
  obtain ⟨p, hp, rfl⟩ := isR_n r1
  obtain ⟨l, hl, rfl⟩ := isR_n r3
  rw [iN (m := p) (by omega), iN (m := l) (by omega)]
  refine pt_gR (v := 128) (hR 0 17 rfl) (pt_reg hB hR h4 hp (pt_gC (pt_zb (v_copyFrom hR k128.1 (rgW hB hR hp).2) (fun _ σ1 h => ?_))))
  obtain ⟨l1, e1⟩ := h
  have l1 : LF 129 σ σ1 := l1
  have e1 : ∀ u, u < 1024 → bt (σ1.2.1 129) u = bt (σ.2.1 (B + 6 + 2 * p + 1)) u := e1
  have R1 := l1.R hR
  have h41 : σ1.2.2 0 4 = B := by rw [l1.2.1]; exact h4
  refine pt_gR (v := 128) (R1 0 17 rfl) (pt_reg hB R1 h41 hl (pt_gC (pt_zb (v_takeAway R1 k128.1 (rgW hB R1 hl).2) (fun _ σ2 h => ?_))))
  obtain ⟨l2, e2⟩ := h
  have l2 : LF 129 σ1 σ2 := l2
  have e2 : ∀ u, u < 1024 → bt (σ2.2.1 129) u = (bt (σ1.2.1 129) u && !bt (σ1.2.1 (B + 6 + 2 * l + 1)) u) := e2
  have l12 := l1.tr l2
  have R2 := l12.R hR
  have ek : σ1.2.1 (B + 6 + 2 * l + 1) = σ.2.1 (B + 6 + 2 * l + 1) := l1.2.2 _ (lw_no (wr_rg hB hl)).2.1
  have ee : (∀ u, u < 1024 → bt (σ2.2.1 129) u = false) ↔ ∀ u, u < 1024 → Fc σ B p u = true → Fc σ B l u = true := by
    constructor
    · intro h u hu a
      have := h u hu
      rw [e2 u hu, e1 u hu, ek] at this
      show bt (σ.2.1 (B + 6 + 2 * l + 1)) u = true
      rw [show bt (σ.2.1 (B + 6 + 2 * p + 1)) u = true from a, Bool.true_and, Bool.not_eq_false'] at this
      exact this
    · intro h u hu
      rw [e2 u hu, e1 u hu, ek]
      cases a : bt (σ.2.1 (B + 6 + 2 * p + 1)) u with
      | false => rfl
      | true =>
        have : bt (σ.2.1 (B + 6 + 2 * l + 1)) u = true := h u hu a
        rw [this]; rfl
  refine pt_gR (v := 128) (R2 0 17 rfl) (pt_gC (pt_zbq (v_isEmpty R2 k128.1) (fun v18 h18 => ?_)))
  obtain ⟨o, i⟩ := h18
  have i : v18 = 1 ↔ ∀ u, u < 1024 → bt (σ2.2.1 129) u = false := i
  rw [ee] at i
  refine pt_if (fun z => pt_some ⟨LW1 l12, fun _ => Or.inr ⟨rfl, fun w => ?_⟩, fun z => absurd hm z⟩) (fun z => pt_some ⟨LW1 l12, fun _ => Or.inl ⟨rfl, i.mp (o.resolve_left z)⟩, fun z => absurd hm z⟩)
  have := i.mpr w
  rw [z] at this
  exact absurd this (by decide)
/-- of one alone -/
def xoF (F G : Nat → Bool) (u : Nat) : Bool := (F u && !G u) || (G u && !F u)
theorem vl_differ_ (hB : isWc B) (hR : RF σ.2.2) (h4 : σ.2.2 0 4 = B) : Pt (f_X11_differ N 0 x1 x2 σ) (fun r => LW σ r.2 ∧ (prC (σ.1 B 0) x1 x2 → ∃ E : Nat → Bool, (∀ u, u < 1024 → E u = xoF (Fc σ B x1.toInt.toNat) (Fc σ B x2.toInt.toNat) u) ∧ pkQ E 0 r.1) ∧ (¬ prC (σ.1 B 0) x1 x2 → r.1 = -2)) := by
  rw [f_X11_differ.eq_1]
  refine pt_gC (pt_zbq (vl_isRegister h4) (fun v hv => pt_if (fun q => pt_some ⟨fun _ _ => rfl, fun z => absurd z.1 (hv.1 q), fun _ => rfl⟩) (fun q1 => ?_)))
  refine pt_gC (pt_zbq (vl_isRegister h4) (fun v3 hv3 => pt_if (fun q => pt_some ⟨fun _ _ => rfl, fun z => absurd z.2 (hv3.1 q), fun _ => rfl⟩) (fun q3 => ?_)))
  have r1 := hv.2 q1
  have r3 := hv3.2 q3
  have hm : prC (σ.1 B 0) x1 x2 := ⟨r1, r3⟩
  obtain ⟨p, hp, rfl⟩ := isR_n r1
  obtain ⟨l, hl, rfl⟩ := isR_n r3
  rw [iN (m := p) (by omega), iN (m := l) (by omega)]
  have no := fun {k : Nat} (hk : k < 10) => lw_no (wr_rg hB hk)
  refine pt_gR (v := 128) (hR 0 17 rfl) (pt_reg hB hR h4 hp (pt_gC (pt_zb (v_copyFrom hR k128.1 (rgW hB hR hp).2) (fun _ σ1 h => ?_))))
  obtain ⟨l1, e1⟩ := h
  have l1 : LF 129 σ σ1 := l1
  have e1 : ∀ u, u < 1024 → bt (σ1.2.1 129) u = bt (σ.2.1 (B + 6 + 2 * p + 1)) u := e1
  have R1 := l1.R hR
  have h41 : σ1.2.2 0 4 = B := by rw [l1.2.1]; exact h4
  refine pt_gR (v := 128) (R1 0 17 rfl) (pt_reg hB R1 h41 hl (pt_gC (pt_zb (v_takeAway R1 k128.1 (rgW hB R1 hl).2) (fun _ σ2 h => ?_))))
  obtain ⟨l2, e2⟩ := h
  have l2 : LF 129 σ1 σ2 := l2
  have e2 : ∀ u, u < 1024 → bt (σ2.2.1 129) u = (bt (σ1.2.1 129) u && !bt (σ1.2.1 (B + 6 + 2 * l + 1)) u) := e2
  have l12 := l1.tr l2
  have R2 := l12.R hR
  have h42 : σ2.2.2 0 4 = B := by rw [l12.2.1]; exact h4
  refine pt_gR (v := 130) (R2 0 18 rfl) (pt_reg hB R2 h42 hl (pt_gC (pt_zb (v_copyFrom R2 k128.2 (rgW hB R2 hl).2) (fun _ σ3 h => ?_))))
  obtain ⟨l3, e3⟩ := h
  have l3 : LF 131 σ2 σ3 := l3
  have e3 : ∀ u, u < 1024 → bt (σ3.2.1 131) u = bt (σ2.2.1 (B + 6 + 2 * l + 1)) u := e3
  have R3 := l3.R R2
  have h43 : σ3.2.2 0 4 = B := by rw [l3.2.1]; exact h42
  refine pt_gR (v := 130) (R3 0 18 rfl) (pt_reg hB R3 h43 hp (pt_gC (pt_zb (v_takeAway R3 k128.2 (rgW hB R3 hp).2) (fun _ σ4 h => ?_))))
  obtain ⟨l4, e4⟩ := h
  have l4 : LF 131 σ3 σ4 := l4
  have e4 : ∀ u, u < 1024 → bt (σ4.2.1 131) u = (bt (σ3.2.1 131) u && !bt (σ3.2.1 (B + 6 + 2 * p + 1)) u) := e4
  have l34 := l3.tr l4
  have R4 := l34.R R2
  refine pt_gR (v := 128) (R4 0 17 rfl) (pt_gR (v := 130) (R4 0 18 rfl) (pt_gC (pt_zb (v_join R4 k128.1 k128.2) (fun _ σ5 h => ?_))))
  obtain ⟨l5, e5⟩ := h
  have l5 : LF 129 σ4 σ5 := l5
  have e5 : ∀ u, u < 1024 → bt (σ5.2.1 129) u = (bt (σ4.2.1 129) u || bt (σ4.2.1 131) u) := e5
  have R5 := l5.R R4
  have lw : LW σ σ5 := fun a ha => ((l5.2.2 a (lw_no ha).2.1).trans (l34.2.2 a (lw_no ha).2.2)).trans (l12.2.2 a (lw_no ha).2.1)
  refine pt_gR (v := 128) (R5 0 17 rfl) (pt_gC (pt_zbq (v_pick R5 k128.1) (fun v34 h34 => pt_some ⟨lw, fun _ => ⟨bt (σ5.2.1 129), fun u hu => ?_, h34.1 (by decide)⟩, fun z => absurd hm z⟩)))
  have a9 : σ4.2.1 129 = σ2.2.1 129 := l34.2.2 129 (by decide)
  have al1 : σ1.2.1 (B + 6 + 2 * l + 1) = σ.2.1 (B + 6 + 2 * l + 1) := l1.2.2 _ (no hl).2.1
  have al2 : σ2.2.1 (B + 6 + 2 * l + 1) = σ.2.1 (B + 6 + 2 * l + 1) := l12.2.2 _ (no hl).2.1
  have ap3 : σ3.2.1 (B + 6 + 2 * p + 1) = σ.2.1 (B + 6 + 2 * p + 1) := (l3.2.2 _ (no hp).2.2).trans (l12.2.2 _ (no hp).2.1)
  show bt (σ5.2.1 129) u = _
  rw [e5 u hu, a9, e2 u hu, e1 u hu, al1, e4 u hu, e3 u hu, al2, ap3]
  rfl
/-- the one is the least hits of the other -/
def isHit (F G : Nat → Bool) (M : Nat) : Prop := ∀ u, u < 1024 → (F u = true ↔ RS 2 G M u)
theorem vl_dual_ (hB : isWc B) (hR : RF σ.2.2) (h4 : σ.2.2 0 4 = B) (hn : 0 ≤ (σ.1 B 0).toInt ∧ (σ.1 B 0).toInt ≤ 10) (hF : FI σ B) : Pt (f_X11_dual N 0 x1 x2 σ) (fun r => LW σ r.2 ∧ (prC (σ.1 B 0) x1 x2 → (r.1 = 1 ∧ isHit (Fc σ B x1.toInt.toNat) (Fc σ B x2.toInt.toNat) (mn (σ.1 B 0)) ∧ isHit (Fc σ B x2.toInt.toNat) (Fc σ B x1.toInt.toNat) (mn (σ.1 B 0))) ∨ (r.1 = 0 ∧ ¬ (isHit (Fc σ B x1.toInt.toNat) (Fc σ B x2.toInt.toNat) (mn (σ.1 B 0)) ∧ isHit (Fc σ B x2.toInt.toNat) (Fc σ B x1.toInt.toNat) (mn (σ.1 B 0))))) ∧ (¬ prC (σ.1 B 0) x1 x2 → r.1 = -2)) := by
  rw [f_X11_dual.eq_1]
  refine pt_gC (pt_zbq (vl_isRegister h4) (fun v hv => pt_if (fun q => pt_some ⟨fun _ _ => rfl, fun z => absurd z.1 (hv.1 q), fun _ => rfl⟩) (fun q1 => ?_)))
  refine pt_gC (pt_zbq (vl_isRegister h4) (fun v3 hv3 => pt_if (fun q => pt_some ⟨fun _ _ => rfl, fun z => absurd z.2 (hv3.1 q), fun _ => rfl⟩) (fun q3 => ?_)))
  have r1 := hv.2 q1
  have r3 := hv3.2 q3
  have hm : prC (σ.1 B 0) x1 x2 := ⟨r1, r3⟩
  obtain ⟨p, hp, rfl⟩ := isR_n r1
  obtain ⟨l, hl, rfl⟩ := isR_n r3
  obtain ⟨n, en, n0, n10⟩ := world_n r1.1 hn.2
  rw [en] at hm
  rw [iN (m := p) (by omega), iN (m := l) (by omega), en, mnn n0 n10]
  have Ip := FI_in hF hp en n0 n10
  have Il := FI_in hF hl en n0 n10
  have no := fun {k : Nat} (hk : k < 10) => lw_no (wr_rg hB hk)
  refine pt_gR (v := 128) (hR 0 17 rfl) (pt_reg hB hR h4 hl (pt_gC (pt_zb (v_copyFrom hR k128.1 (rgW hB hR hl).2) (fun _ σ1 h => ?_))))
  obtain ⟨l1, e1⟩ := h
  have l1 : LF 129 σ σ1 := l1
  have e1 : ∀ u, u < 1024 → bt (σ1.2.1 129) u = bt (σ.2.1 (B + 6 + 2 * l + 1)) u := e1
  have R1 := l1.R hR
  have h41 : σ1.2.2 0 4 = B := by rw [l1.2.1]; exact h4
  have n1 : σ1.1 B 0 = nI n := by rw [l1.1]; exact en
  refine pt_gR (v := 99) (R1 0 11 rfl) (pt_gR (v := 128) (R1 0 17 rfl) (pt_gR (v := B) h41 (pt_gI ?_)))
  rw [n1]
  refine pt_gC (pt_zb (v_reshape R1 iF128.1 n10 (fun u hu a => Il u hu (by rw [← e1 u hu]; exact a))) (fun _ σ2 h => ?_))
  obtain ⟨l2, e2⟩ := h
  have l2 : LG [129, 101, 103] σ1 σ2 := l2
  have e2 : ∀ u, u < 1024 → (bt (σ2.2.1 129) u = true ↔ RS 2 (bt (σ1.2.1 129)) (2 ^ n) u) := e2
  have R2 := l2.R R1
  have h42 : σ2.2.2 0 4 = B := by rw [l2.2.1]; exact h41
  have w2 : LW σ σ2 := fun a ha => (l2.2.2 a (fun q => (lw_no ha).1 (by simp only [List.mem_cons, List.not_mem_nil, or_false] at q ⊢; omega))).trans (l1.2.2 a (lw_no ha).2.1)
  refine pt_gR (v := 130) (R2 0 18 rfl) (pt_reg hB R2 h42 hp (pt_gC (pt_zb (v_copyFrom R2 k128.2 (rgW hB R2 hp).2) (fun _ σ3 h => ?_))))
  obtain ⟨l3, e3⟩ := h
  have l3 : LF 131 σ2 σ3 := l3
  have e3 : ∀ u, u < 1024 → bt (σ3.2.1 131) u = bt (σ2.2.1 (B + 6 + 2 * p + 1)) u := e3
  have R3 := l3.R R2
  have h43 : σ3.2.2 0 4 = B := by rw [l3.2.1]; exact h42
  have n3 : σ3.1 B 0 = nI n := by rw [l3.1, l2.1]; exact n1
  have ep2 : σ2.2.1 (B + 6 + 2 * p + 1) = σ.2.1 (B + 6 + 2 * p + 1) := w2 _ (wr_rg hB hp)
  refine pt_gR (v := 99) (R3 0 11 rfl) (pt_gR (v := 130) (R3 0 18 rfl) (pt_gR (v := B) h43 (pt_gI ?_)))
  rw [n3]
  refine pt_gC (pt_zb (v_reshape R3 iF128.2 n10 (fun u hu a => Ip u hu (by rw [← ep2, ← e3 u hu]; exact a))) (fun _ σ4 h => ?_))
  obtain ⟨l4, e4⟩ := h
  have l4 : LG [131, 101, 103] σ3 σ4 := l4
  have e4 : ∀ u, u < 1024 → (bt (σ4.2.1 131) u = true ↔ RS 2 (bt (σ3.2.1 131)) (2 ^ n) u) := e4
  have R4 := l4.R R3
  have h44 : σ4.2.2 0 4 = B := by rw [l4.2.1]; exact h43
  have w4 : LW σ σ4 := fun a ha => ((l4.2.2 a (by have := lw_no ha; simp only [List.mem_cons, List.not_mem_nil, or_false] at this ⊢; omega)).trans (l3.2.2 a (lw_no ha).2.2)).trans (w2 a ha)
  have a9 : σ4.2.1 129 = σ2.2.1 129 := (l4.2.2 129 (by decide)).trans (l3.2.2 129 (by decide))
  have c1 : ∀ u, u < 1024 → (bt (σ4.2.1 129) u = true ↔ RS 2 (Fc σ B l) (2 ^ n) u) := fun u hu => by
    rw [a9, e2 u hu]
    exact ⟨RS_c e1 (p2le n10).1 hu, RS_c (fun k hk => (e1 k hk).symm) (p2le n10).1 hu⟩
  have e3' : ∀ u, u < 1024 → bt (σ3.2.1 131) u = Fc σ B p u := fun u hu => by rw [e3 u hu, ep2]
  have c2 : ∀ u, u < 1024 → (bt (σ4.2.1 131) u = true ↔ RS 2 (Fc σ B p) (2 ^ n) u) := fun u hu => by
    rw [e4 u hu]
    exact ⟨RS_c e3' (p2le n10).1 hu, RS_c (fun k hk => (e3' k hk).symm) (p2le n10).1 hu⟩
  have s1 : (∀ u, u < 1024 → bt (σ4.2.1 129) u = bt (σ4.2.1 (B + 6 + 2 * p + 1)) u) ↔ isHit (Fc σ B p) (Fc σ B l) (2 ^ n) := by
    rw [w4 _ (wr_rg hB hp)]
    constructor
    · intro h u hu
      rw [← c1 u hu, h u hu]
    · intro h u hu
      rw [Bool.eq_iff_iff, c1 u hu]
      exact (h u hu).symm
  have s2 : (∀ u, u < 1024 → bt (σ4.2.1 131) u = bt (σ4.2.1 (B + 6 + 2 * l + 1)) u) ↔ isHit (Fc σ B l) (Fc σ B p) (2 ^ n) := by
    rw [w4 _ (wr_rg hB hl)]
    constructor
    · intro h u hu
      rw [← c2 u hu, h u hu]
    · intro h u hu
      rw [Bool.eq_iff_iff, c2 u hu]
      exact (h u hu).symm
  refine pt_gR (v := 128) (R4 0 17 rfl) (pt_reg hB R4 h44 hp (pt_gC (pt_zbq (v_sameAs R4 k128.1 (rgW hB R4 hp).2) (fun v33 h33 => ?_))))
  obtain ⟨o1, i1⟩ := h33
  have i1 : v33 = 1 ↔ ∀ u, u < 1024 → bt (σ4.2.1 129) u = bt (σ4.2.1 (B + 6 + 2 * p + 1)) u := i1
  rw [s1] at i1
  refine pt_if (fun z => pt_some ⟨w4, fun _ => Or.inr ⟨rfl, fun w => ?_⟩, fun z => absurd hm z⟩) (fun z => ?_)
  · have := i1.mpr w.1
    rw [z] at this
    exact absurd this (by decide)
  · have y1 := i1.mp (o1.resolve_left z)
    refine pt_gR (v := 130) (R4 0 18 rfl) (pt_reg hB R4 h44 hl (pt_gC (pt_zbq (v_sameAs R4 k128.2 (rgW hB R4 hl).2) (fun v39 h39 => ?_))))
    obtain ⟨o2, i2⟩ := h39
    have i2 : v39 = 1 ↔ ∀ u, u < 1024 → bt (σ4.2.1 131) u = bt (σ4.2.1 (B + 6 + 2 * l + 1)) u := i2
    rw [s2] at i2
    refine pt_if (fun z2 => pt_some ⟨w4, fun _ => Or.inr ⟨rfl, fun w => ?_⟩, fun z => absurd hm z⟩) (fun z2 => pt_some ⟨w4, fun _ => Or.inl ⟨rfl, y1, i2.mp (o2.resolve_left z2)⟩, fun z => absurd hm z⟩)
    have := i2.mpr w.2
    rw [z2] at this
    exact absurd this (by decide)
/-- a name that is found -/
def fdN (F : Nat → Bool) (w : Int32) (k : Nat) : Prop := if w = 2 then ∀ u, u < 1024 → F (u ^^^ 2 ^ k) = F u else if w = 0 then ∀ u, u < 1024 → F u = true → u.testBit k = true else ∃ u, u < 1024 ∧ F u = true ∧ u.testBit k = true
theorem vl_isFound {p k : Nat} {w : Int32} (hB : isWc B) (hR : RF σ.2.2) (hp : p < 10) (hk : k < 10) : Pt (f_X11_isFoundName N 0 (B + 6 + 2 * p) (nI k) w σ) (fun r => LF 129 σ r.2 ∧ (r.1 = 0 → ¬ fdN (Fc σ B p) w k) ∧ (¬ r.1 = 0 → fdN (Fc σ B p) w k)) := by
  have k2 := (rgW hB hR hp).2
  have ne := (lw_no (wr_rg hB hp)).2.1
  rw [f_X11_isFoundName.eq_1]
  refine pt_gR (v := 128) (hR 0 17 rfl) (pt_gC (pt_zb (v_copyFrom hR k128.1 k2) (fun _ σ1 h => ?_)))
  obtain ⟨l1, e1⟩ := h
  have l1 : LF 129 σ σ1 := l1
  have e1 : ∀ u, u < 1024 → bt (σ1.2.1 129) u = bt (σ.2.1 (B + 6 + 2 * p + 1)) u := e1
  have R1 := l1.R hR
  refine pt_if (fun q => ?_) (fun q => ?_)
  · refine pt_gR (v := 128) (R1 0 17 rfl) (pt_gC (pt_zb (v_flip R1 k128.1 hk) (fun _ σ2 h => ?_)))
    obtain ⟨l2, e2⟩ := h
    have l2 : LF 129 σ1 σ2 := l2
    have e2 : ∀ u, u < 1024 → bt (σ2.2.1 129) u = bt (σ1.2.1 129) (u ^^^ 2 ^ k) := e2
    have l12 := l1.tr l2
    have R2 := l12.R hR
    have i : (∀ u, u < 1024 → bt (σ2.2.1 129) u = bt (σ2.2.1 (B + 6 + 2 * p + 1)) u) ↔ fdN (Fc σ B p) w k := by
      unfold fdN
      rw [if_pos q, l12.2.2 _ ne]
      constructor
      · intro h u hu
        have := h u hu
        rw [e2 u hu, e1 _ (x_1024 hu hk)] at this
        exact this
      · intro h u hu
        rw [e2 u hu, e1 _ (x_1024 hu hk)]
        exact h u hu
    refine pt_gR (v := 128) (R2 0 17 rfl) (pt_gC (pt_zbq (v_sameAs R2 k128.1 (rgW hB R2 hp).2) (fun v8 h8 => pt_rZ ⟨l12, fun z y => ?_, fun z => ?_⟩)))
    · have := h8.2.mpr (i.mpr y)
      rw [show v8 = 0 from z] at this
      exact absurd this (by decide)
    · exact i.mp (h8.2.mp (h8.1.resolve_left z))
  · refine pt_gR (v := 128) (R1 0 17 rfl) (pt_gC (pt_zb (v_keepWithout R1 k128.1 hk) (fun _ σ2 h => ?_)))
    obtain ⟨l2, e2⟩ := h
    have l2 : LF 129 σ1 σ2 := l2
    have e2 : ∀ u, u < 1024 → bt (σ2.2.1 129) u = (bt (σ1.2.1 129) u && !u.testBit k) := e2
    have l12 := l1.tr l2
    have R2 := l12.R hR
    refine pt_if (fun q0 => ?_) (fun q0 => ?_)
    · have i : (∀ u, u < 1024 → bt (σ2.2.1 129) u = false) ↔ fdN (Fc σ B p) w k := by
        unfold fdN
        rw [if_neg q, if_pos q0]
        constructor
        · intro h u hu a
          have := h u hu
          rw [e2 u hu, e1 u hu, show bt (σ.2.1 (B + 6 + 2 * p + 1)) u = true from a, Bool.true_and, Bool.not_eq_false'] at this
          exact this
        · intro h u hu
          rw [e2 u hu, e1 u hu]
          cases a : bt (σ.2.1 (B + 6 + 2 * p + 1)) u with
          | false => rfl
          | true => rw [h u hu a]; rfl
      refine pt_gR (v := 128) (R2 0 17 rfl) (pt_gC (pt_zbq (v_isEmpty R2 k128.1) (fun v8 h8 => pt_rZ ⟨l12, fun z y => ?_, fun z => ?_⟩)))
      · have := h8.2.mpr (i.mpr y)
        rw [show v8 = 0 from z] at this
        exact absurd this (by decide)
      · exact i.mp (h8.2.mp (h8.1.resolve_left z))
    · have i : ¬ (∀ u, u < 1024 → bt (σ2.2.1 129) u = bt (σ2.2.1 (B + 6 + 2 * p + 1)) u) ↔ fdN (Fc σ B p) w k := by
        unfold fdN
        rw [if_neg q, if_neg q0, l12.2.2 _ ne]
        constructor
        · intro h
          refine Classical.byContradiction (fun y => h (fun u hu => ?_))
          rw [e2 u hu, e1 u hu]
          cases a : bt (σ.2.1 (B + 6 + 2 * p + 1)) u with
          | false => rfl
          | true =>
            cases b : u.testBit k with
            | false => rfl
            | true => exact absurd ⟨u, hu, a, b⟩ y
        · rintro ⟨u, hu, a, b⟩ h
          have := h u hu
          rw [e2 u hu, e1 u hu, b, show bt (σ.2.1 (B + 6 + 2 * p + 1)) u = true from a] at this
          cases this
      refine pt_gR (v := 128) (R2 0 17 rfl) (pt_gC (pt_zbq (v_sameAs R2 k128.1 (rgW hB R2 hp).2) (fun v8 h8 => ?_)))
      refine pt_if (fun z => pt_rZ ⟨l12, fun y => absurd (show (1 : Int32) = 0 from y) (by decide), fun _ => i.mp (fun y => ?_)⟩) (fun z => pt_rZ ⟨l12, fun _ y => i.mpr y (h8.2.mp (h8.1.resolve_left z)), fun y => absurd rfl y⟩)
      have := h8.2.mpr y
      rw [z] at this
      exact absurd this (by decide)
def naC (m x1 x2 : Int32) : Prop := isR m x1 ∧ 0 ≤ x2.toInt ∧ x2.toInt ≤ 2
theorem or_2k {w m i : Nat} : (w ||| 2 ^ m).testBit i = true ↔ w.testBit i = true ∨ i = m := by
  rw [Nat.testBit_or, Nat.testBit_two_pow, Bool.or_eq_true, decide_eq_true_iff]
  exact ⟨fun h => h.imp id Eq.symm, fun h => h.imp id Eq.symm⟩
theorem vl_names_ (hB : isWc B) (hR : RF σ.2.2) (h4 : σ.2.2 0 4 = B) (hn : 0 ≤ (σ.1 B 0).toInt ∧ (σ.1 B 0).toInt ≤ 10) : Pt (f_X11_names N 0 x1 x2 σ) (fun r => LW σ r.2 ∧ (naC (σ.1 B 0) x1 x2 → ∃ w, (r.1 = nI w ∧ w < 1024) ∧ ∀ i, w.testBit i = true ↔ i < (σ.1 B 0).toInt.toNat ∧ fdN (Fc σ B x1.toInt.toNat) x2 i) ∧ (¬ naC (σ.1 B 0) x1 x2 → r.1 = -2)) := by
  rw [f_X11_names.eq_1]
  refine pt_gC (pt_zbq (vl_isRegister h4) (fun v hv => pt_if (fun q => pt_some ⟨fun _ _ => rfl, fun z => absurd z.1 (hv.1 q), fun _ => rfl⟩) (fun q1 => ?_)))
  refine pt_if (fun q => pt_some ⟨fun _ _ => rfl, fun z => absurd z.2.1 ?_, fun _ => rfl⟩) (fun qa => pt_if (fun qb => ?_) (fun q => pt_some ⟨fun _ _ => rfl, fun z => absurd z.2.2 ?_, fun _ => rfl⟩))
  · rw [Int32.lt_iff_toInt_lt] at q
    simp only [Int32.reduceToInt] at q
    omega
  · have r1 := hv.2 q1
    have hm : naC (σ.1 B 0) x1 x2 := by
      rw [Int32.lt_iff_toInt_lt] at qa
      rw [Int32.le_iff_toInt_le] at qb
      simp only [Int32.reduceToInt] at qa qb
      exact ⟨r1, by omega, qb⟩
    obtain ⟨p, hp, rfl⟩ := isR_n r1
    obtain ⟨n, en, n0, n10⟩ := world_n r1.1 hn.2
    rw [iN (m := p) (by omega), en, iN (m := n) (by omega)]
    refine pt_reg hB hR h4 hp ?_
    refine pt_lp (fun s : Int32 × Int32 × zS => ∃ w m, (s.1 = nI w ∧ w < 1024) ∧ (s.2.1 = nI m ∧ m ≤ n) ∧ LF 129 σ s.2.2 ∧ ∀ i, w.testBit i = true ↔ i < m ∧ fdN (Fc σ B p) x2 i) (fun again s hI ih => ?_) N _ ⟨0, 0, ⟨rfl, by decide⟩, ⟨rfl, Nat.zero_le _⟩, LF.rf, fun i => by rw [Nat.zero_testBit]; exact ⟨fun z => (by cases z), fun z => absurd z.1 (Nat.not_lt_zero _)⟩⟩
    obtain ⟨x4, x5, τ⟩ := s
    obtain ⟨w, m, ⟨e4, w10⟩, ⟨e5, hmn⟩, lf, hw⟩ := hI
    have e4 : x4 = nI w := e4
    have e5 : x5 = nI m := e5
    subst e4
    subst e5
    have lf : LF 129 σ τ := lf
    have R9 := lf.R hR
    have n9 : τ.1 B 0 = nI n := by rw [lf.1]; exact en
    rw [F_X11_names_36.eq_1]
    refine pt_gR (v := B) (by rw [lf.2.1]; exact h4) (pt_gI ?_)
    rw [n9]
    refine pt_if (fun q => ?_) (fun q => ?_)
    · rw [nlt (by omega) (by omega)] at q
      have em : m = n := by omega
      subst em
      exact pt_some ⟨LW1 lf, fun _ => ⟨w, ⟨rfl, w10⟩, hw⟩, fun z => absurd (by rw [en] at hm; exact hm) z⟩
    · rw [nlt (by omega) (by omega)] at q
      have eF : Fc τ B p = Fc σ B p := by
        unfold Fc
        rw [lf.2.2 _ (lw_no (wr_rg hB hp)).2.1]
      refine pt_gC (pt_zb (vl_isFound hB R9 hp (by omega)) (fun v8 σ2 h => ?_))
      obtain ⟨l2, f0, f1⟩ := h
      have l2 : LF 129 τ σ2 := l2
      rw [eF] at f0 f1
      rw [nI_s1 (by omega)]
      refine pt_if (fun z => ih (nI w, nI (m + 1), σ2) ⟨w, m + 1, ⟨rfl, w10⟩, ⟨rfl, by omega⟩, lf.tr l2, fun i => (hw i).trans ⟨fun y => ⟨by omega, y.2⟩, fun y => ⟨?_, y.2⟩⟩⟩) (fun z => ?_)
      · by_cases e : i = m
        · subst e; exact absurd y.2 (f0 z)
        · have := y.1; omega
      · rw [one10 m (by omega), nI_or]
        refine ih (nI (w ||| 2 ^ m), nI (m + 1), σ2) ⟨w ||| 2 ^ m, m + 1, ⟨rfl, or_1024 w10 (Nat.pow_lt_pow_right (by decide) (by omega : m < 10))⟩, ⟨rfl, by omega⟩, lf.tr l2, fun i => ?_⟩
        rw [or_2k, hw i]
        constructor
        · rintro (y | y)
          · exact ⟨by omega, y.2⟩
          · subst y; exact ⟨by omega, f1 z⟩
        · rintro ⟨a, b⟩
          by_cases e : i = m
          · exact Or.inr e
          · exact Or.inl ⟨by omega, b⟩
  · rw [Int32.le_iff_toInt_le] at q
    simp only [Int32.reduceToInt] at q
    omega
end CQRY

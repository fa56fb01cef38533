/-- pairs apart, with a first of the first m -/
def apS (F G : Nat → Bool) (M : Nat) : Nat → Nat
  | 0 => 0
  | m + 1 => apS F G M m + (if F m = true then ct (fun t => G t && decide (m &&& t = 0)) M else 0)
theorem apS_c {F F' G : Nat → Bool} {M : Nat} : ∀ {m : Nat}, (∀ k, k < m → F k = F' k) → apS F G M m = apS F' G M m
  | 0, _ => rfl
  | m + 1, h => by
    show apS F G M m + _ = apS F' G M m + _
    rw [apS_c (m := m) (fun k hk => h k (by omega)), h m (by omega)]
def V_apart (x1 x2 : Int32) (g f : Nat → Int32) (v : Int32) : Prop := QE (isR (g 0) x1 ∧ isR (g 0) x2) (fun w => w = nI (apS (Rg f x1.toInt.toNat) (Rg f x2.toInt.toNat) (mn (g 0)) (mn (g 0)))) v
theorem sub_tb {n m i : Nat} (hm : m < 2 ^ n) : (2 ^ n - 1 - m).testBit i = (decide (i < n) && !m.testBit i) := by
  rw [show 2 ^ n - 1 - m = 2 ^ n - (m + 1) by omega]
  exact Nat.testBit_two_pow_sub_succ hm i
theorem sb_sub {n m u : Nat} (hm : m < 2 ^ n) (hu : u < 2 ^ n) : sb u (2 ^ n - 1 - m) ↔ m &&& u = 0 := by
  rw [and_z]
  constructor
  · intro h i z
    have := h i z.2
    rw [sub_tb hm, z.1, Bool.not_true, Bool.and_false] at this
    cases this
  · intro h i hi
    rw [sub_tb hm]
    have il : i < n := Classical.byContradiction (fun y => by rw [tb_lt hu (by omega)] at hi; cases hi)
    rw [decide_eq_true il, Bool.true_and, Bool.not_eq_true']
    cases q : m.testBit i with
    | false => rfl
    | true => exact absurd ⟨q, hi⟩ (h i)
theorem uq_apart {N : Nat} (hN : 1048576 ≤ N) {x1 x2 : Int32} {σ : zS} (hI : IV σ) (hW : WQ σ) (hF : FQ σ) : Pt (f_X11_apart N 0 x1 x2 σ) (fun r => V_apart x1 x2 (σ.1 219) (σ.1 220) r.1) := by
  rw [f_X11_apart.eq_1]
  refine pt_gC (pt_zbq (lq_isR hW) (fun v hv => pt_if (fun q => pt_some (QE_n (fun z => hv.1 q z.1))) (fun q1 => ?_)))
  refine pt_gC (pt_zbq (lq_isR hW) (fun v3 hv3 => pt_if (fun q => pt_some (QE_n (fun z => hv3.1 q z.2))) (fun q3 => ?_)))
  have hc := And.intro (hv.2 q1) (hv3.2 q3)
  obtain ⟨p, hp, rfl⟩ := isR_n hc.1
  obtain ⟨q, hq, rfl⟩ := isR_n hc.2
  have ep := iN (m := p) (by omega)
  have eq := iN (m := q) (by omega)
  obtain ⟨n, en, n0, n10⟩ := world_n hc.1.1 (RI_n hI.1.2).2
  have eB : σ.1 (σ.2.2 0 4) 0 = nI n := (e0_ hW).trans en
  have eM : mn (σ.1 219 0) = 2 ^ n := by rw [en, mnn n0 n10]
  have pn := p2le n10
  refine pt_gR (v := 99) (hI.1.1.1 0 11 rfl) (lq_reg hI hp (lq_reg hI hq (pt_gR (v := σ.2.2 0 4) rfl (pt_gI ?_))))
  rw [eB]
  refine pt_gC (pt_zb (v_disjointPairs hI.1.1.1 (lq_k hI hp) (lq_k hI hq) n10) (fun v14 σ2 h => pt_some (QE_y hc ?_)))
  obtain ⟨_, S, S0, S1, hv⟩ := h
  have hv : v14 = nI (S (2 ^ n)) := hv
  rw [ep, eq, hv, eM]
  have k : ∀ m, m ≤ 2 ^ n → S m = apS (Rg (σ.1 220) p) (Rg (σ.1 220) q) (2 ^ n) m := by
    intro m
    induction m with
    | zero => intro _; exact S0
    | succ m ih =>
      intro h
      rw [S1 m (by omega), ih (by omega)]
      show _ = apS _ _ _ m + _
      rw [FQ_f hF hp (by omega)]
      by_cases y : rb (σ.1 220) (1024 * p) m = true
      · rw [if_pos y, if_pos (show Rg (σ.1 220) p m = true from y)]
        congr 1
        unfold zc
        refine ct_both pn.1 (fun u hu => ?_) (fun u hu a => ?_)
        · rw [Bool.eq_iff_iff, zP_t, Bool.and_eq_true, decide_eq_true_iff, FQ_f hF hq hu]
          constructor
          · rintro ⟨a, b, c⟩
            have := FQ_i hF hq hu a
            rw [eM] at this
            exact ⟨a, (sb_sub (by omega) this).mp b⟩
          · rintro ⟨a, b⟩
            have hu2 := FQ_i hF hq hu a
            rw [eM] at hu2
            refine ⟨a, (sb_sub (by omega) hu2).mpr b, fun i hi => ?_⟩
            rw [tb_lt hu2 hi, sub_tb (by omega), decide_eq_false (by omega), Bool.false_and]
        · have := FQ_i hF hq hu ((Bool.and_eq_true _ _ ▸ a : Rg (σ.1 220) q u = true ∧ _).1)
          rw [eM] at this
          exact this
      · rw [if_neg y, if_neg (show ¬ Rg (σ.1 220) p m = true from y)]
  rw [k _ (Nat.le_refl _)]
theorem rq_apart {N : Nat} (hN : 1048576 ≤ N) {x1 x2 : Int32} {σ : zS} (hC : CI σ) (hR : RI σ) : Pt (f_X12_apart N 218 x1 x2 σ) (fun r => V_apart x1 x2 (σ.1 219) (σ.1 220) r.1) := by
  have b := mn_le (RI_n hR).2
  rw [f_X12_apart.eq_1]
  refine pt_gC (pt_zbq (vr_areRegisters hC.1) (fun v hv => pt_if (fun q => pt_some (QE_n (hv.1 q))) (fun q1 => ?_)))
  have hc := hv.2 q1
  obtain ⟨p, hp, rfl⟩ := isR_n hc.1
  obtain ⟨q, hq, rfl⟩ := isR_n hc.2
  have ep := iN (m := p) (by omega)
  have eq := iN (m := q) (by omega)
  obtain ⟨M, hM⟩ : ∃ M, M = mn (σ.1 219 0) := ⟨_, rfl⟩
  refine pt_lp (fun x : Int32 × Int32 × zS => x.2.2 = σ ∧ ∃ m, (x.2.1 = nI m ∧ m ≤ M) ∧ x.1 = nI (apS (Rg (σ.1 220) p) (Rg (σ.1 220) q) M m)) (fun again x hI ih => ?_) N _ ⟨rfl, 0, ⟨rfl, Nat.zero_le _⟩, rfl⟩
  obtain ⟨y3, y4, τ⟩ := x
  obtain ⟨e, m, ⟨e4, hm⟩, e3⟩ := hI
  have e : τ = σ := e
  have e4 : y4 = nI m := e4
  have e3 : y3 = nI (apS (Rg (σ.1 220) p) (Rg (σ.1 220) q) M m) := e3
  subst e
  subst e4
  subst e3
  rw [F_X12_apart_17.eq_1]
  refine pt_gC (pt_zbq (vr_mn hC.1 (RI_n hR)) (fun v hv => ?_))
  subst hv
  refine pt_if (fun z => pt_some (QE_y hc ?_)) (fun z => ?_)
  · rw [nlt (by omega) (by omega)] at z
    rw [ep, eq]
    show nI (apS _ _ M m) = _
    rw [← hM, show m = M by omega]
  · rw [nlt (by omega) (by omega)] at z
    have nxt : ∀ y, y = apS (Rg (τ.1 220) p) (Rg (τ.1 220) q) M (m + 1) → Pt (again (nI y, nI m + 1, τ)) (fun r => V_apart (nI p) (nI q) (τ.1 219) (τ.1 220) r.1) := fun y hy => by
      rw [nI_s1 (by omega)]
      exact ih (nI y, nI (m + 1), τ) ⟨rfl, m + 1, ⟨rfl, by omega⟩, by rw [hy]⟩
    have sx : apS (Rg (τ.1 220) p) (Rg (τ.1 220) q) M (m + 1) = apS (Rg (τ.1 220) p) (Rg (τ.1 220) q) M m + (if Rg (τ.1 220) p m = true then ct (fun t => Rg (τ.1 220) q t && decide (m &&& t = 0)) M else 0) := rfl
    refine pt_lp (fun x : Int32 × Int32 × zS => x.2.2 = τ ∧ ∃ l, (x.2.1 = nI l ∧ l ≤ M) ∧ x.1 = nI (apS (Rg (τ.1 220) p) (Rg (τ.1 220) q) M m + (if Rg (τ.1 220) p m = true then ct (fun t => Rg (τ.1 220) q t && decide (m &&& t = 0)) l else 0))) (fun again2 x hI ih2 => ?_) N _ ⟨rfl, 0, ⟨rfl, Nat.zero_le _⟩, by show nI _ = nI _; congr 1; split <;> rfl⟩
    obtain ⟨w3, w5, υ⟩ := x
    obtain ⟨eo, l, ⟨e5o, hl⟩, e3o⟩ := hI
    have e : υ = τ := eo
    have e5 : w5 = nI l := e5o
    have e3 : w3 = nI (apS (Rg (τ.1 220) p) (Rg (τ.1 220) q) M m + (if Rg (τ.1 220) p m = true then ct (fun t => Rg (τ.1 220) q t && decide (m &&& t = 0)) l else 0)) := e3o
    clear eo e5o e3o
    subst e
    subst e5
    subst e3
    rw [F_X12_apart_29.eq_1]
    refine pt_gC (pt_zbq (vr_mn hC.1 (RI_n hR)) (fun v hv => ?_))
    subst hv
    refine pt_if (fun z2 => nxt _ ?_) (fun z2 => ?_)
    · rw [nlt (by omega) (by omega)] at z2
      rw [sx, show l = M by omega]
    · rw [nlt (by omega) (by omega)] at z2
      refine pt_gC (pt_zbq (vr_of hC.1 hp (by omega)) (fun v7 h7 => pt_if (fun y => nxt _ ?_) (fun y => ?_)))
      · rw [sx, show Rg (υ.1 220) p m = false from vb_f h7 y]
        rfl
      · have t : Rg (υ.1 220) p m = true := vb_t h7 y
        rw [if_pos t]
        have stay : (Rg (υ.1 220) q l && decide (m &&& l = 0)) = false → Pt (again2 (nI (apS (Rg (υ.1 220) p) (Rg (υ.1 220) q) M m + ct (fun t => Rg (υ.1 220) q t && decide (m &&& t = 0)) l) + 0, nI l + 1, υ)) (fun r => V_apart (nI p) (nI q) (υ.1 219) (υ.1 220) r.1) := fun h => by
          rw [nI_s1 (by omega), Int32.add_zero]
          refine ih2 (_, nI (l + 1), υ) ⟨rfl, l + 1, ⟨rfl, by omega⟩, ?_⟩
          rw [if_pos t, ct_f (p := fun t => Rg (υ.1 220) q t && decide (m &&& t = 0)) h]
        refine pt_gC (pt_zbq (vr_of hC.1 hq (by omega)) (fun v9 h9 => pt_if (fun y9 => stay ?_) (fun y9 => pt_if (fun ya => ?_) (fun ya => stay ?_))))
        · rw [show Rg (υ.1 220) q l = false from vb_f h9 y9]; rfl
        · rw [nI_and, nI_e0 (and_1024 (by omega))] at ya
          rw [nI_s1 (m := l) (by omega), nI_m1]
          refine ih2 (_, nI (l + 1), υ) ⟨rfl, l + 1, ⟨rfl, by omega⟩, ?_⟩
          rw [if_pos t, ct_t (p := fun t => Rg (υ.1 220) q t && decide (m &&& t = 0)) (by show (Rg (υ.1 220) q l && decide (m &&& l = 0)) = true; rw [show Rg (υ.1 220) q l = true from vb_t h9 y9, decide_eq_true ya]; rfl)]
          rfl
        · rw [nI_and, nI_e0 (and_1024 (by omega))] at ya
          rw [decide_eq_false ya, Bool.and_false]
theorem fe_apart {S : List Nat} {x1 x2 v w : Int32} {σ σ1 : zS} (hI : IV σ) (hW : WQ σ) (hF : FQ σ) (t1 : FR S σ σ1) (hS : ∀ k ∈ [218, 219, 220, 239], k ∉ S) (c : V_apart x1 x2 (σ.1 219) (σ.1 220) v) (r : V_apart x1 x2 (σ1.1 219) (σ1.1 220) w) : v = w :=
  fe_V (V := V_apart x1 x2) (fun _ _ _ _ h h2 => QE_u (fun _ => fun_u) h h2) t1 hS c r

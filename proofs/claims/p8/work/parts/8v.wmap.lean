/-! ===== ways and map of both ===== -/
section WMAP
variable {N B m : Nat} {σ τ : zS} {P Q : Nat → Nat} {x1 x2 x3 : Int32}
theorem Md_c {k l : Nat} {S : Nat → Prop} (e : τ.1 k = σ.1 k) (h : Md k σ l S) : Md k τ l S := fun u hu => by rw [e]; exact h u hu
def isX (x : Int32) : Prop := 0 ≤ x.toInt ∧ x.toInt < 8
theorem isX_n {x : Int32} (h : isX x) : ∃ k, k < 8 ∧ x = nI k := znI (m := 8) h.1 (by have := h.2; omega)
theorem vl_isCrossing : Px (f_X11_isCrossing N 0 x1 σ) σ (fun v => (v = 0 → ¬ isX x1) ∧ (¬ v = 0 → isX x1)) := by
  unfold isX
  rw [f_X11_isCrossing.eq_1]
  refine pt_if (fun q => pt_rZ ⟨rfl, fun _ => ?_, fun z => absurd rfl z⟩) (fun q => pt_if (fun q2 => pt_rZ ⟨rfl, fun _ => ?_, fun z => absurd rfl z⟩) (fun q2 => pt_rZ ⟨rfl, fun z => absurd (show (1 : Int32) = 0 from z) (by decide), fun _ => ?_⟩))
  · rw [Int32.lt_iff_toInt_lt] at q; simp only [Int32.reduceToInt] at q; omega
  · rw [Int32.le_iff_toInt_le] at q2; simp only [Int32.reduceToInt] at q2; omega
  · rw [Int32.lt_iff_toInt_lt] at q; rw [Int32.le_iff_toInt_le] at q2; simp only [Int32.reduceToInt] at q q2; omega
theorem vr_isCrossing (hR : RF σ.2.2) (hw : 0 < (σ.1 219 0).toInt) : Px (f_X12_isCrossing N 218 x1 σ) σ (fun v => (v = 0 → ¬ isX x1) ∧ (¬ v = 0 → isX x1)) := by
  unfold isX
  rw [f_X12_isCrossing.eq_1]
  refine pt_gC (pt_zbX (σ := σ) (Q := fun v => (v = 0 → (σ.1 219 0).toInt ≤ 0) ∧ (¬ v = 0 → 0 < (σ.1 219 0).toInt)) (pt_ok (x_X12_isWorld hR)) (fun v hv => ?_))
  refine pt_if (fun q => by have := hv.1 q; omega) (fun q => pt_zbq vr_in (fun w hw => ?_))
  rw [i64_of] at hw
  simp only [Int64.reduceToInt] at hw
  refine pt_if (fun z => pt_rZ ⟨rfl, fun _ y => hw.1 z (by omega), fun y => absurd rfl y⟩) (fun z => pt_rZ ⟨rfl, fun y => absurd (show (1 : Int32) = 0 from y) (by decide), fun _ => ?_⟩)
  have := hw.2 z
  omega
def wyC (v x1 x2 x3 : Int32) : Prop := isR v x1 ∧ isX x2 ∧ isX x3
theorem vl_ways (hB : isWc B) (hR : RF σ.2.2) (h4 : σ.2.2 0 4 = B) (hE : Ed σ B m P Q) : Pt (f_X11_ways N 0 x1 x2 x3 σ) (fun r => (wyC (σ.1 B 0) x1 x2 x3 → CM σ r.2 r.1 B x1.toInt.toNat (WS m P Q x2.toInt.toNat x3.toInt.toNat)) ∧ (¬ wyC (σ.1 B 0) x1 x2 x3 → r.1 = -2 ∧ LW σ r.2)) := by
  rw [f_X11_ways.eq_1]
  refine pt_gC (pt_zbq (vl_isRegister h4) (fun v hv => pt_if (fun q => pt_some ⟨fun z => absurd z.1 (hv.1 q), fun _ => ⟨rfl, fun _ _ => rfl⟩⟩) (fun q1 => ?_)))
  refine pt_gC (pt_zbq vl_isCrossing (fun v3 hv3 => pt_if (fun q => pt_some ⟨fun z => absurd z.2.1 (hv3.1 q), fun _ => ⟨rfl, fun _ _ => rfl⟩⟩) (fun q3 => ?_)))
  refine pt_gC (pt_zbq vl_isCrossing (fun v5 hv5 => pt_if (fun q => pt_some ⟨fun z => absurd z.2.2 (hv5.1 q), fun _ => ⟨rfl, fun _ _ => rfl⟩⟩) (fun q5 => ?_)))
  have r1 := hv.2 q1
  have r3 := hv3.2 q3
  have r5 := hv5.2 q5
  obtain ⟨p, hp, rfl⟩ := isR_n r1
  obtain ⟨c, hc, rfl⟩ := isX_n r3
  obtain ⟨g, hg, rfl⟩ := isX_n r5
  rw [iN (m := p) (by omega), iN (m := c) (by omega), iN (m := g) (by omega)]
  refine pt_gR (v := 124) (hR 0 15 rfl) (pt_gR (v := B) h4 (pt_gR (v := 128) (hR 0 17 rfl) (pt_gC (pt_zb (vg_ways hB k128.1 hR hE hc hg) (fun _ σ1 h => ?_)))))
  obtain ⟨l1, i1⟩ := h
  have l1 : LF 129 σ σ1 := l1
  have i1 : ∀ u, u < 1024 → (bt (σ1.2.1 129) u = true ↔ WS m P Q c g u) := i1
  have R1 := l1.R hR
  have h41 : σ1.2.2 0 4 = B := by rw [l1.2.1]; exact h4
  refine pt_gC (pt_zb (vl_store hB R1 h41 hp (by rw [l1.1]; exact r1.1)) (fun w σ2 h => pt_some ⟨fun _ => CM_st hB hp (fun a ha => l1.2.2 a (by unfold WR at ha; omega)) i1 h, fun z => absurd ⟨r1, r3, r5⟩ z⟩))
theorem vk_fillWays {c g : Nat} (hR : RF σ.2.2) (hE : EdR σ m P Q) (hc : c < 8) (hg : g < 8) : Pt (f_X12_fillWays N 218 (nI c) (nI g) σ) (fun r => FG [227, 238] σ r.2 ∧ Md 227 r.2 1024 (fun u => u < 2 ^ m ∧ (if c = g then u = 0 else IsW m P Q u c g))) := by
  have m10 := hE.1.2
  have pm := p2le m10
  rw [f_X12_fillWays.eq_1]
  refine pt_lp (fun y : Int32 × zS => ∃ l, (y.1 = nI l ∧ l ≤ 1024) ∧ FG [227, 238] σ y.2 ∧ Md 227 y.2 l (fun u => u < 2 ^ m ∧ (if c = g then u = 0 else IsW m P Q u c g))) (fun again y hI ih => ?_) N _ ⟨0, ⟨rfl, Nat.zero_le _⟩, FG.rf, fun u hu => absurd hu (Nat.not_lt_zero _)⟩
  obtain ⟨x3, τ⟩ := y
  obtain ⟨l, ⟨ex, hl⟩, hf, hm⟩ := hI
  have ex : x3 = nI l := ex
  subst ex
  have hf : FG [227, 238] σ τ := hf
  have hm : Md 227 τ l (fun u => u < 2 ^ m ∧ (if c = g then u = 0 else IsW m P Q u c g)) := hm
  have R9 := hf.R hR
  have E9 : EdR τ m P Q := EdR_c (hf.2 219 (by decide)) hE
  rw [F_X12_fillWays_2.eq_1]
  refine pt_if (fun q => ?_) (fun q => ?_)
  · have q : nI 1024 ≤ nI l := q
    rw [nlt (by omega) (by omega)] at q
    rw [show l = 1024 by omega] at hm
    exact pt_some ⟨hf, hm⟩
  have q : ¬ nI 1024 ≤ nI l := q
  rw [nlt (by omega) (by omega)] at q
  have put : ∀ (τ2 : zS) (v : Int32), FG [227, 238] σ τ2 → Md 227 τ2 l (fun u => u < 2 ^ m ∧ (if c = g then u = 0 else IsW m P Q u c g)) → ((v = 1 ∧ (l < 2 ^ m ∧ (if c = g then l = 0 else IsW m P Q l c g))) ∨ (v = 0 ∧ ¬ (l < 2 ^ m ∧ (if c = g then l = 0 else IsW m P Q l c g)))) → Pt (zl (sI 16 227 (nI l) v τ2) fun σ4 => again (nI l + 1, σ4)) (fun r => FG [227, 238] σ r.2 ∧ Md 227 r.2 1024 (fun u => u < 2 ^ m ∧ (if c = g then u = 0 else IsW m P Q u c g))) := fun τ2 v a b d => by
    refine pt_s16 ?_
    rw [iN (by omega), nI_s1 (by omega)]
    exact ih (nI (l + 1), _) ⟨l + 1, ⟨rfl, by omega⟩, a.u (by decide), Md_p b d⟩
  refine pt_gR (v := 227) (R9 218 17 rfl) (pt_gR (v := 219) (R9 218 1 rfl) (pt_aI ?_))
  rw [show (Int32.toInt 2).toNat = 2 from rfl, E9.1.1, one11 m (by omega)]
  refine pt_if (fun y => ?_) (fun y => ?_)
  · rw [nlt (by omega) (by omega)] at y
    exact put τ 0 hf hm (Or.inr ⟨rfl, fun z => by omega⟩)
  · rw [nlt (by omega) (by omega)] at y
    refine pt_gC (pt_zb (vk_isWay (s := l) R9 E9 (by omega) hc hg) (fun v τ2 h2 => ?_))
    obtain ⟨f2, h0, h1⟩ := h2
    have f2 : FG [238] τ τ2 := f2
    have h0 : v = 0 → ¬ (if c = g then l = 0 else IsW m P Q l c g) := h0
    have h1 : ¬ v = 0 → (if c = g then l = 0 else IsW m P Q l c g) := h1
    have f2' : FG [227, 238] σ τ2 := hf.tr (f2.wk (by decide))
    have m2 := Md_c (f2.2 227 (by decide)) hm
    exact pt_if (fun z => put τ2 0 f2' m2 (Or.inr ⟨rfl, fun w => h0 z w.2⟩)) (fun z => put τ2 1 f2' m2 (Or.inl ⟨rfl, by omega, h1 z⟩))
theorem vr_ways (hR : RF σ.2.2) (hn : 0 ≤ (σ.1 219 0).toInt ∧ (σ.1 219 0).toInt ≤ 10) (hE : EdR σ m P Q) : Pt (f_X12_ways N 218 x1 x2 x3 σ) (fun r => (wyC (σ.1 219 0) x1 x2 x3 → RM σ r.2 r.1 x1.toInt.toNat (fun u => u < 2 ^ m ∧ (if x2.toInt.toNat = x3.toInt.toNat then u = 0 else IsW m P Q u x2.toInt.toNat x3.toInt.toNat))) ∧ (¬ wyC (σ.1 219 0) x1 x2 x3 → r.1 = -2 ∧ r.2.1 220 = σ.1 220)) := by
  rw [f_X12_ways.eq_1]
  refine pt_gC (pt_zbq (vr_isRegister hR) (fun v hv => pt_if (fun q => pt_some ⟨fun z => absurd z.1 (hv.1 q), fun _ => ⟨rfl, rfl⟩⟩) (fun q1 => ?_)))
  have r1 := hv.2 q1
  refine pt_gC (pt_zbq (vr_isCrossing hR r1.1) (fun v3 hv3 => pt_if (fun q => pt_some ⟨fun z => absurd z.2.1 (hv3.1 q), fun _ => ⟨rfl, rfl⟩⟩) (fun q3 => ?_)))
  refine pt_gC (pt_zbq (vr_isCrossing hR r1.1) (fun v5 hv5 => pt_if (fun q => pt_some ⟨fun z => absurd z.2.2 (hv5.1 q), fun _ => ⟨rfl, rfl⟩⟩) (fun q5 => ?_)))
  have r3 := hv3.2 q3
  have r5 := hv5.2 q5
  obtain ⟨p, hp, rfl⟩ := isR_n r1
  obtain ⟨c, hc, rfl⟩ := isX_n r3
  obtain ⟨g, hg, rfl⟩ := isX_n r5
  rw [iN (m := p) (by omega), iN (m := c) (by omega), iN (m := g) (by omega)]
  refine pt_gC (pt_zb (vk_fillWays hR hE hc hg) (fun _ σ1 h => ?_))
  obtain ⟨f1, m1⟩ := h
  have f1 : FG [227, 238] σ σ1 := f1
  have e19 : σ1.1 219 = σ.1 219 := f1.2 219 (by decide)
  have e20 : σ1.1 220 = σ.1 220 := f1.2 220 (by decide)
  refine pt_gC (pt_zb (vr_lays (f1.R hR) (by rw [e19]; exact hn) hp m1) (fun w σ2 h2 => pt_some ⟨fun _ => ?_, fun z => absurd ⟨r1, r3, r5⟩ z⟩))
  obtain ⟨_, a, b, d⟩ := h2
  exact ⟨a, fun k hk => (b k hk).trans (congrFun e20 k), by rw [← e19]; exact d⟩
/-- the same ways -/
theorem ws_eq {c g u : Nat} (hG : Gr m P Q) (hc : c < 8) (hg : g < 8) : WS m P Q c g u ↔ u < 2 ^ m ∧ (if c = g then u = 0 else IsW m P Q u c g) := by
  unfold WS
  by_cases e : c = g
  · rw [if_pos e, if_pos e]
    exact ⟨fun h => ⟨by rw [h]; exact Nat.pow_pos (by decide), h⟩, fun h => h.2⟩
  · rw [if_neg e, if_neg e]
    have b0 : ∀ x, (2 ^ c).testBit x = true ↔ x = c := fun x => by
      rw [Nat.testBit_two_pow, decide_eq_true_iff]; exact ⟨Eq.symm, Eq.symm⟩
    constructor
    · intro h
      refine ⟨?_, way_1 hG hc e h⟩
      obtain ⟨D, hr, hm, _⟩ := Wy_D hG h ((b0 c).mpr rfl) (by
        cases q : (2 ^ c).testBit g with
        | false => rfl
        | true => exact absurd ((b0 g).mp q).symm e)
      refine lt_tb (fun i hi => ?_)
      cases q : u.testBit i with
      | false => rfl
      | true =>
        rcases (hr i).mp q with z | z
        · rw [Nat.zero_testBit] at z; cases z
        · have := hm i z; omega
    · rintro ⟨hu, h⟩
      refine way_2 hG hc hg e h (fun i hi => Classical.byContradiction (fun z => ?_))
      rw [tb_lt hu (by omega)] at hi; cases hi
def mpC (v x1 x2 : Int32) : Prop := isR v x1 ∧ 0 ≤ x2.toInt ∧ x2.toInt ≤ 2
theorem vl_map (hB : isWc B) (hR : RF σ.2.2) (h4 : σ.2.2 0 4 = B) (hE : Ed σ B m P Q) : Pt (f_X11_map N 0 x1 x2 σ) (fun r => (mpC (σ.1 B 0) x1 x2 → CM σ r.2 r.1 B x1.toInt.toNat (fun u => u < 2 ^ m ∧ OnC m P Q x2 (Xa m P Q) u)) ∧ (¬ mpC (σ.1 B 0) x1 x2 → r.1 = -2 ∧ LW σ r.2)) := by
  rw [f_X11_map.eq_1]
  refine pt_gC (pt_zbq (vl_isRegister h4) (fun v hv => pt_if (fun q => pt_some ⟨fun z => absurd z.1 (hv.1 q), fun _ => ⟨rfl, fun _ _ => rfl⟩⟩) (fun q1 => ?_)))
  have r1 := hv.2 q1
  refine pt_if (fun q => pt_some ⟨fun z => ?_, fun _ => ⟨rfl, fun _ _ => rfl⟩⟩) (fun q2 => pt_if (fun q3 => ?_) (fun q => pt_some ⟨fun z => ?_, fun _ => ⟨rfl, fun _ _ => rfl⟩⟩))
  · rw [Int32.lt_iff_toInt_lt] at q; simp only [Int32.reduceToInt] at q; have := z.2; omega
  · rw [Int32.lt_iff_toInt_lt] at q2
    rw [Int32.le_iff_toInt_le] at q3
    simp only [Int32.reduceToInt] at q2 q3
    obtain ⟨p, hp, rfl⟩ := isR_n r1
    rw [iN (m := p) (by omega)]
    refine pt_gR (v := 124) (hR 0 15 rfl) (pt_gR (v := B) h4 (pt_gR (v := 128) (hR 0 17 rfl) (pt_gC (pt_zb (vg_sets (w := x2) hB k128.1 hR hE) (fun _ σ1 h => ?_)))))
    obtain ⟨⟨k1, e1, a1⟩, i1⟩ := h
    have k1 : ∀ k, k ≠ 125 → σ1.1 k = σ.1 k := k1
    have e1 : σ1.2.2 = σ.2.2 := e1
    have a1 : ∀ a, a ≠ 128 + 1 → σ1.2.1 a = σ.2.1 a := a1
    have R1 : RF σ1.2.2 := by rw [e1]; exact hR
    have h41 : σ1.2.2 0 4 = B := by rw [e1]; exact h4
    refine pt_gC (pt_zb (vl_store hB R1 h41 hp (by rw [k1 B (by unfold isWc at hB; omega)]; exact r1.1)) (fun w σ2 h => pt_some ⟨fun _ => CM_st hB hp (fun a ha => a1 a (by unfold WR at ha; omega)) i1 h, fun z => absurd ⟨r1, by omega, q3⟩ z⟩))
  · rw [Int32.le_iff_toInt_le] at q; simp only [Int32.reduceToInt] at q; have := z.2; omega
end WMAP

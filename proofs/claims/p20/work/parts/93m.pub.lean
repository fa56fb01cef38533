/-! ===== nodes, wide, net, move, swap, sift, order of both ===== -/
section CNG
variable {Gr Gr' : Nat → Nat → Bool} {n k e t R m v : Nat} {F G : Nat → Bool} {o : Nat → Nat}
theorem BB_c (h : ∀ r, r < R → Gr r = Gr' r) (he : e < R * 2 ^ k) : BB Gr n k e t = BB Gr' n k e t := by
  unfold BB
  rw [h (e / 2 ^ k) (Nat.div_lt_of_lt_mul (by rw [Nat.mul_comm]; exact he))]
theorem FO_c (h : ∀ r, r < R → Gr r = Gr' r) (he : e < R * 2 ^ k) (f : FO Gr n k e) : FO Gr' n k e := by
  have qq : ∀ {e}, e < R * 2 ^ k → (QQ Gr n k e ↔ QQ Gr' n k e) := fun {e} he => ⟨fun ⟨t, a, b⟩ => ⟨t, a, by rw [← BB_c h he]; exact b⟩, fun ⟨t, a, b⟩ => ⟨t, a, by rw [BB_c h he]; exact b⟩⟩
  exact ⟨(qq he).mp f.1, fun e2 h2 q2 s => f.2 e2 h2 ((qq (by omega)).mpr q2) (fun t => by rw [BB_c h he, BB_c h (show e2 < R * 2 ^ k by omega)]; exact s t)⟩
theorem cF_c (h : ∀ r, r < R → Gr r = Gr' r) (hm : m ≤ R * 2 ^ k) : cF Gr n k m = cF Gr' n k m := ct_c (fun e he => by
  rw [Bool.eq_iff_iff, bl_t, bl_t]
  exact ⟨FO_c h (by omega), FO_c (fun r hr => (h r hr).symm) (by omega)⟩)
theorem aN_c (h : ∀ r, r < R → Gr r = Gr' r) : aN Gr n R = aN Gr' n R := sF_c (fun _ _ => cF_c h (Nat.le_refl _))
theorem cnN_c (n10 : n ≤ 10) (hP : PmO n o) (h : ∀ s, s < 1024 → F s = G s) : cnN F n o = cnN G n o := aN_c (fun _ _ => funext (fun e => h _ (by
  have := sa_lt (e := e) hP
  have := p2le n10
  omega)))
theorem sv_c (n10 : n ≤ 10) (h : ∀ s, s < 1024 → F s = G s) (hP : PmO n o) (hv : v < n) : ∀ c, c ≤ n → svN F n v o c = svN G n v o c
  | 0, _ => rfl
  | c + 1, hc => by
    have ih := sv_c n10 h hP hv c (by omega)
    have p := sv_P (F := G) n10 hP hv c (by omega)
    have b := PmO_mv p.1 (pl_lt p.1 hv) (show c < n by omega)
    have e := cnN_c n10 b h
    show (if (svN F n v o c).1 ≤ cnN F n (mvN (svN F n v o c).2.2 (plN (svN F n v o c).2.2 v n) c) then ((svN F n v o c).1, (svN F n v o c).2.1, mvN (svN F n v o c).2.2 (plN (svN F n v o c).2.2 v n) c) else (cnN F n (mvN (svN F n v o c).2.2 (plN (svN F n v o c).2.2 v n) c), c, mvN (svN F n v o c).2.2 (plN (svN F n v o c).2.2 v n) c)) = _
    rw [ih, e]
    rfl
theorem sA_c (n10 : n ≤ 10) (h : ∀ s, s < 1024 → F s = G s) (hP : PmO n o) : ∀ v, v ≤ n → sAN F n o v = sAN G n o v
  | 0, _ => rfl
  | v + 1, hv => by
    have ih := sA_c n10 h hP v (by omega)
    have p := (sA_P (F := G) n10 hP v (by omega)).1
    show s1N F n v (sAN F n o v).2 = s1N G n v (sAN G n o v).2
    rw [ih]
    unfold s1N
    rw [sv_c n10 h p (show v < n by omega) n (Nat.le_refl _)]
end CNG
/-- names of a world's row -/
def nN (g : Nat → Int32) : Nat := (g 0).toInt.toNat
section PUB
variable {N : Nat} {σ σ1 σ2 : zS} {x1 x2 v w : Int32}
theorem vr_isWd (hR : RF σ.2.2) : Px (f_X12_isWorld N 218 σ) σ (fun v => (v = 0 → (σ.1 219 0).toInt ≤ 0) ∧ (¬ v = 0 → 0 < (σ.1 219 0).toInt)) := by
  rw [f_X12_isWorld.eq_1]
  refine pt_gR (v := 219) (hR 218 1 rfl) (pt_aI ?_)
  rw [show (0 : Int32).toInt.toNat = 0 from rfl]
  refine pt_if (fun z => pt_rZ ⟨rfl, fun _ => ?_, fun y => absurd rfl y⟩) (fun z => pt_rZ ⟨rfl, fun y => absurd (show (1 : Int32) = 0 from y) (by decide), fun _ => ?_⟩)
  · rw [Int32.le_iff_toInt_le] at z
    simp only [Int32.reduceToInt] at z
    exact z
  · rw [Int32.le_iff_toInt_le] at z
    simp only [Int32.reduceToInt] at z
    omega
theorem r_n (hR : RI σ) (h0 : 0 < (σ.1 219 0).toInt) : ∃ n, (σ.1 219 0 = nI n ∧ 0 < n ∧ n ≤ 10) ∧ nN (σ.1 219) = n ∧ PmO n (oN (σ.1 219)) ∧ RRo n (oN (σ.1 219)) σ := by
  obtain ⟨n, en, n0, n10⟩ := world_n (σ := σ) (B := 219) h0 (RI_n hR).2
  have P := pm_MW (n := n) hR.1.1 (by rw [en, nI_toInt (by omega)])
  exact ⟨n, ⟨en, n0, n10⟩, by unfold nN; rw [en]; exact iN (by omega), P.1, P.2⟩
theorem g_n (hI : IV σ) (hW : WQ σ) (hG : GQ σ) (h0 : 0 < (σ.1 219 0).toInt) : ∃ n, (σ.1 219 0 = nI n ∧ 0 < n ∧ n ≤ 10) ∧ nN (σ.1 219) = n ∧ σ.1 (σ.2.2 0 4) 0 = nI n ∧ PmO n (oN (σ.1 219)) ∧ RCo n (σ.2.2 0 4) (oN (σ.1 219)) σ := by
  obtain ⟨n, ⟨en, n0, n10⟩, e, P, hr⟩ := r_n hI.1.2 h0
  refine ⟨n, ⟨en, n0, n10⟩, e, (e0_ hW).trans en, P, fun j hj => ?_⟩
  rw [hG.1.1 j (by rw [en, nI_toInt (by omega)]; omega)]
  exact hr j hj
theorem Fq (hF : FQ σ) {p : Nat} (hp : p < 10) : ∀ s, s < 1024 → bt (σ.2.1 (σ.2.2 0 4 + 6 + 2 * p + 1)) s = Rg (σ.1 220) p s := fun s hs => FQ_f hF hp hs
def V_nodes (x1 : Int32) (g f : Nat → Int32) (v : Int32) : Prop := QE (isR (g 0) x1) (fun v => v = nI (cnN (Rg f x1.toInt.toNat) (nN g) (oN g))) v
theorem uq_nodes (hN : 1048576 ≤ N) (hI : IV σ) (hW : WQ σ) (hF : FQ σ) (hG : GQ σ) : Pt (f_X11_nodes N 0 x1 σ) (fun r => HQ r.2 ∧ V_nodes x1 (σ.1 219) (σ.1 220) r.1) := by
  rw [f_X11_nodes.eq_1]
  refine pt_gC (pt_zbq (lq_isR hW) (fun v hv => pt_if (fun q => pt_some ⟨hG.2.2, QE_n (hv.1 q)⟩) (fun q => ?_)))
  have hc := hv.2 q
  obtain ⟨p, hp, rfl⟩ := isR_n hc
  obtain ⟨n, ⟨en, n0, n10⟩, e, eB, P, hr⟩ := g_n hI hW hG hc.1
  refine pt_gR (v := 111) (hI.1.1.1 0 13 rfl) (pt_gR (v := σ.2.2 0 4) rfl (lq_reg hI hp (pt_gC (pt_zb (v_tallyOf hI.1.1.1 (isWc4 (IV_4 hI)) (lq_k hI hp) hG.2.2 eB n10 hr P) (fun v8 τ h => ?_)))))
  obtain ⟨_, h1, h2, _⟩ := h
  have h2 : v8 = nI (cnN (bt (σ.2.1 (σ.2.2 0 4 + 6 + 2 * p + 1))) n (oN (σ.1 219))) := h2
  refine pt_some ⟨h1, QE_y hc ?_⟩
  show v8 = _
  rw [h2, cnN_c n10 P (Fq hF hp), e, iN (m := p) (by omega)]
theorem rq_nodes (hN : 1048576 ≤ N) (hC : CI σ) (hR : RI σ) : Pt (f_X12_nodes N 218 x1 σ) (fun r => V_nodes x1 (σ.1 219) (σ.1 220) r.1) := by
  rw [f_X12_nodes.eq_1]
  refine pt_gC (pt_zbq (vr_isRegister hC.1) (fun v hv => pt_if (fun q => pt_some (QE_n (hv.1 q))) (fun q => ?_)))
  have hc := hv.2 q
  obtain ⟨p, hp, rfl⟩ := isR_n hc
  obtain ⟨n, ⟨en, n0, n10⟩, e, P, hr⟩ := r_n hR hc.1
  refine pt_gC (pt_zb (vr_takesOrder hC.1) (fun _ σ4 h => ?_))
  obtain ⟨f, l⟩ := h
  have f : FW_ [235] σ σ4 := f
  have l : ∀ j, j < 10 → σ4.1 235 j = σ.1 219 (33 + j) := l
  refine pt_gC (pt_zb (vr_nodesOf (n := n) (a := oN (σ.1 219)) (by rw [f.1]; exact hC.1) hp (by rw [f.2 219 (by decide)]; exact en) n10 P (fun j hj => by rw [l j (by omega)]; exact hr j hj)) (fun v5 τ h => ?_))
  have h2 : v5 = nI (cnN (Rg (σ4.1 220) p) n (oN (σ.1 219))) := h.2
  rw [f.2 220 (by decide)] at h2
  refine pt_some (QE_y hc ?_)
  show v5 = _
  rw [h2, e, iN (m := p) (by omega)]
def V_wide (x1 x2 : Int32) (g f : Nat → Int32) (v : Int32) : Prop := QE (isR (g 0) x1 ∧ isN (g 0) x2) (fun v => v = nI (cF (fun _ e => Rg f x1.toInt.toNat (saN (oN g) (nN g) e (nN g))) (nN g) x2.toInt.toNat (2 ^ x2.toInt.toNat))) v
theorem uq_wide (hN : 1048576 ≤ N) (hI : IV σ) (hW : WQ σ) (hF : FQ σ) (hG : GQ σ) : Pt (f_X11_wide N 0 x1 x2 σ) (fun r => HQ r.2 ∧ V_wide x1 x2 (σ.1 219) (σ.1 220) r.1) := by
  rw [f_X11_wide.eq_1]
  refine pt_gC (pt_zbq (lq_isR hW) (fun v hv => pt_if (fun q => pt_some ⟨hG.2.2, QE_n (fun z => hv.1 q z.1)⟩) (fun q => ?_)))
  refine pt_gC (pt_zbq (lq_isN hW) (fun v3 hv3 => pt_if (fun q3 => pt_some ⟨hG.2.2, QE_n (fun z => hv3.1 q3 z.2)⟩) (fun q3 => ?_)))
  have hc := And.intro (hv.2 q) (hv3.2 q3)
  obtain ⟨p, hp, rfl⟩ := isR_n hc.1
  obtain ⟨n, ⟨en, n0, n10⟩, e, eB, P, hr⟩ := g_n hI hW hG hc.1.1
  obtain ⟨k, hk, rfl, hkn⟩ := isN_n hc.2 (RI_n hI.1.2).2
  have kn : k < n := by
    rw [en, nI_toInt (by omega)] at hkn
    omega
  refine pt_gR (v := 111) (hI.1.1.1 0 13 rfl) (pt_gR (v := σ.2.2 0 4) rfl (lq_reg hI hp (pt_gC (pt_zb (v_tallyOf hI.1.1.1 (isWc4 (IV_4 hI)) (lq_k hI hp) hG.2.2 eB n10 hr P) (fun v8 τ h => ?_)))))
  obtain ⟨⟨h0, _⟩, h1, _, h3⟩ := h
  have h0 : τ.2 = σ.2 := h0
  have h1 : HQ τ := h1
  have h3 : ∀ k, k < n → τ.1 119 k = nI (cF (fun _ e => bt (σ.2.1 (σ.2.2 0 4 + 6 + 2 * p + 1)) (saN (oN (σ.1 219)) n e n)) n k (2 ^ k)) := h3
  have Rt : RF τ.2.2 := by rw [h0]; exact hI.1.1.1
  refine pt_gR (v := 111) (Rt 0 13 rfl) (pt_gC (pt_zbq (Q := fun v => v = τ.1 119 k) ?_ (fun v13 h13 => pt_some ⟨h1, QE_y hc ?_⟩)))
  · rw [f_X1_tallyAt.eq_1]
    refine pt_if (fun z => ?_) (fun _ => pt_if (fun z => ?_) (fun _ => pt_gR (v := 119) (Rt 111 7 rfl) (pt_aI (pt_some ⟨rfl, ?_⟩))))
    · have z : nI k < nI 0 := z
      rw [nl_ (by omega) (by omega)] at z
      omega
    · have z : nI 10 ≤ nI k := z
      rw [nlt (by omega) (by omega)] at z
      omega
    · show τ.1 119 (nI k).toInt.toNat = _
      rw [iN (m := k) (by omega)]
  · show v13 = _
    rw [h13, h3 k kn, e, iN (m := p) (by omega), iN (m := k) (by omega)]
    congr 1
    refine cF_c (R := 1) (fun _ _ => funext (fun e2 => ?_)) (by omega)
    have := sa_lt (e := e2) P
    have := p2le n10
    exact Fq hF hp _ (by omega)
theorem rq_wide (hN : 1048576 ≤ N) (hC : CI σ) (hR : RI σ) : Pt (f_X12_wide N 218 x1 x2 σ) (fun r => V_wide x1 x2 (σ.1 219) (σ.1 220) r.1) := by
  rw [f_X12_wide.eq_1]
  refine pt_gC (pt_zbq (vr_isRegister hC.1) (fun v hv => pt_if (fun q => pt_some (QE_n (fun z => hv.1 q z.1))) (fun q => ?_)))
  refine pt_gC (pt_zbq (vr_isName hC.1 (RI_n hR)) (fun v3 hv3 => pt_if (fun q3 => pt_some (QE_n (fun z => hv3.1 q3 z.2))) (fun q3 => ?_)))
  have hc : isR (σ.1 219 0) x1 ∧ isN (σ.1 219 0) x2 := And.intro (hv.2 q) (hv3.2 q3)
  obtain ⟨p, hp, rfl⟩ := isR_n hc.1
  obtain ⟨n, ⟨en, n0, n10⟩, e, P, hr⟩ := r_n hR hc.1.1
  obtain ⟨k, hk, rfl, hkn⟩ := isN_n hc.2 (RI_n hR).2
  have kn : k < n := by
    rw [en, nI_toInt (by omega)] at hkn
    omega
  refine pt_gC (pt_zb (vr_takesOrder hC.1) (fun _ σ4 h => ?_))
  obtain ⟨f, l⟩ := h
  have f : FW_ [235] σ σ4 := f
  have l : ∀ j, j < 10 → σ4.1 235 j = σ.1 219 (33 + j) := l
  refine pt_gC (pt_zb (vr_wideOf (n := n) (a := oN (σ.1 219)) (by rw [f.1]; exact hC.1) hp kn (by rw [f.2 219 (by decide)]; exact en) n10 P (fun j hj => by rw [l j (by omega)]; exact hr j hj)) (fun v5 τ h => ?_))
  have h2 : v5 = nI (cF (fun _ e => Rg (σ4.1 220) p (saN (oN (σ.1 219)) n e n)) n k (2 ^ k)) := h.2
  rw [f.2 220 (by decide)] at h2
  refine pt_some (QE_y hc ?_)
  show v5 = _
  rw [h2, e, iN (m := p) (by omega), iN (m := k) (by omega)]
def V_net (g f : Nat → Int32) (v : Int32) : Prop := QE (0 < (g 0).toInt) (fun v => v = nI (aN (fun p e => Rg f p (saN (oN g) (nN g) e (nN g))) (nN g) 10)) v
theorem all_c {n : Nat} {o : Nat → Nat} (hF : FQ σ) (n10 : n ≤ 10) (P : PmO n o) : aN (fun p e => bt (σ.2.1 (σ.2.2 0 4 + 6 + 2 * p + 1)) (saN o n e n)) n 10 = aN (fun p e => Rg (σ.1 220) p (saN o n e n)) n 10 := aN_c (fun p hp => funext (fun e2 => by
  have := sa_lt (e := e2) P
  have := p2le n10
  exact Fq hF hp _ (by omega)))
theorem uq_net (hN : 1048576 ≤ N) (hI : IV σ) (hW : WQ σ) (hF : FQ σ) (hG : GQ σ) : Pt (f_X11_net N 0 σ) (fun r => HQ r.2 ∧ V_net (σ.1 219) (σ.1 220) r.1) := by
  rw [f_X11_net.eq_1]
  refine pt_gC (pt_zbq (lq_isW hW) (fun v hv => pt_if (fun q => pt_some ⟨hG.2.2, QE_n (fun z => by have := hv.1 q; omega)⟩) (fun q => ?_)))
  have hc := hv.2 q
  obtain ⟨n, ⟨en, n0, n10⟩, e, eB, P, hr⟩ := g_n hI hW hG hc
  refine pt_gR (v := 111) (hI.1.1.1 0 13 rfl) (pt_gR (v := σ.2.2 0 4) rfl (pt_gC (pt_zb (v_tallyOfAll hI.1.1.1 (isWc4 (IV_4 hI)) hG.2.2 eB n10 hr P) (fun v8 τ h => ?_))))
  obtain ⟨_, h1, h2⟩ := h
  refine pt_some ⟨h1, QE_y hc ?_⟩
  show v8 = _
  rw [show v8 = _ from h2, all_c hF n10 P, e]
theorem rq_net (hN : 1048576 ≤ N) (hC : CI σ) (hR : RI σ) : Pt (f_X12_net N 218 σ) (fun r => V_net (σ.1 219) (σ.1 220) r.1) := by
  rw [f_X12_net.eq_1]
  refine pt_gC (pt_zbq (vr_isWd hC.1) (fun v hv => pt_if (fun q => pt_some (QE_n (fun z => by have := hv.1 q; omega))) (fun q => ?_)))
  have hc := hv.2 q
  obtain ⟨n, ⟨en, n0, n10⟩, e, P, hr⟩ := r_n hR hc
  refine pt_gC (pt_zb (vr_netOf hC.1 en n10 P hr) (fun v5 τ h => ?_))
  refine pt_some (QE_y hc ?_)
  show v5 = _
  rw [show v5 = _ from h.2, e]
/-! what changes the order -/
def UO (c0 : Prop) (val n : Nat) (o2 : Nat → Nat) (B : Nat) (σ : zS) (r : Int32 × zS) : Prop := HQ r.2 ∧ (c0 → r.1 = nI val ∧ RCo n B o2 r.2) ∧ (¬ c0 → r.1 = -2 ∧ r.2.1 (B + 4) = σ.1 (B + 4))
def RO (c0 : Prop) (val n : Nat) (o2 : Nat → Nat) (σ : zS) (r : Int32 × zS) : Prop := (c0 → r.1 = nI val ∧ RRo n o2 r.2) ∧ (¬ c0 → r.1 = -2 ∧ r.2.1 219 = σ.1 219)
theorem UO_n {c0 : Prop} {val n : Nat} {o2 : Nat → Nat} {B : Nat} (hc : ¬ c0) (hH : HQ σ) : UO c0 val n o2 B σ (-2, σ) := ⟨hH, fun z => absurd z hc, fun _ => ⟨rfl, rfl⟩⟩
theorem RO_n {c0 : Prop} {val n : Nat} {o2 : Nat → Nat} (hc : ¬ c0) : RO c0 val n o2 σ (-2, σ) := ⟨fun z => absurd z hc, fun _ => ⟨rfl, rfl⟩⟩
def mvC (x1 x2 : Int32) (g : Nat → Int32) : Prop := isN (g 0) x1 ∧ isN (g 0) x2
def mvA (x1 : Int32) (g : Nat → Int32) : Nat := plN (oN g) x1.toInt.toNat (nN g)
def mvO (x1 x2 : Int32) (g : Nat → Int32) : Nat → Nat := mvN (oN g) (mvA x1 g) x2.toInt.toNat
theorem isN_k {g : Nat → Int32} {n : Nat} {x : Int32} (h : isN (g 0) x) (en : g 0 = nI n) (n10 : n ≤ 10) : ∃ k, k < n ∧ x = nI k := by
  obtain ⟨k, hk, e, hkn⟩ := isN_n h (by rw [en, nI_toInt (by omega)]; omega)
  rw [en, nI_toInt (by omega)] at hkn
  exact ⟨k, by omega, e⟩
theorem isN_0 {g : Nat → Int32} {x : Int32} (h : isN (g 0) x) : 0 < (g 0).toInt := by
  have := h.1
  have := h.2
  omega
theorem uq_move (hN : 1048576 ≤ N) (hI : IV σ) (hW : WQ σ) (hF : FQ σ) (hG : GQ σ) : Pt (f_X11_move N 0 x1 x2 σ) (UO (mvC x1 x2 (σ.1 219)) (mvA x1 (σ.1 219)) (nN (σ.1 219)) (mvO x1 x2 (σ.1 219)) (σ.2.2 0 4) σ) := by
  rw [f_X11_move.eq_1]
  refine pt_gC (pt_zbq (lq_isN hW) (fun v hv => pt_if (fun q => pt_some (UO_n (fun z => hv.1 q z.1) hG.2.2)) (fun q => ?_)))
  refine pt_gC (pt_zbq (lq_isN hW) (fun v3 hv3 => pt_if (fun q3 => pt_some (UO_n (fun z => hv3.1 q3 z.2) hG.2.2)) (fun q3 => ?_)))
  have hc : mvC x1 x2 (σ.1 219) := And.intro (hv.2 q) (hv3.2 q3)
  obtain ⟨n, ⟨en, n0, n10⟩, e, eB, P, hr⟩ := g_n hI hW hG (isN_0 hc.1)
  obtain ⟨a, ha, rfl⟩ := isN_k hc.1 en n10
  obtain ⟨b, hb, rfl⟩ := isN_k hc.2 en n10
  refine pt_gR (v := σ.2.2 0 4) rfl (pt_gC (pt_zb (v_moveName (isWc4 (IV_4 hI)) hI.1.1.1 eB n10 P hr ha hb) (fun v6 τ h => ?_)))
  obtain ⟨k, ⟨hk, ek⟩, ev, f, hs⟩ := h
  have f : FW_ [σ.2.2 0 4 + 4] σ τ := f
  have hs : RCo n (σ.2.2 0 4) (mvN (oN (σ.1 219)) k b) τ := hs
  have ea : mvA (nI a) (σ.1 219) = k := by
    unfold mvA
    rw [e, iN (m := a) (by omega)]
    exact plN_p P hk ek
  refine pt_some ⟨HQ_c (fun c hc => f.2 c (fun z => ?_)) hG.2.2, fun _ => ⟨?_, ?_⟩, fun z => absurd hc z⟩
  · rw [List.mem_singleton.mp z] at hc
    have h4 := IV_4 hI
    simp only [List.mem_cons, List.not_mem_nil, or_false] at hc
    omega
  · show v6 = _
    rw [ea]; exact ev
  · unfold mvO
    rw [ea, e, iN (m := b) (by omega)]; exact hs
theorem rq_move (hN : 1048576 ≤ N) (hC : CI σ) (hR : RI σ) : Pt (f_X12_move N 218 x1 x2 σ) (RO (mvC x1 x2 (σ.1 219)) (mvA x1 (σ.1 219)) (nN (σ.1 219)) (mvO x1 x2 (σ.1 219)) σ) := by
  rw [f_X12_move.eq_1]
  refine pt_gC (pt_zbq (vr_isName hC.1 (RI_n hR)) (fun v hv => pt_if (fun q => pt_some (RO_n (fun z => hv.1 q z.1))) (fun q => ?_)))
  refine pt_gC (pt_zbq (vr_isName hC.1 (RI_n hR)) (fun v3 hv3 => pt_if (fun q3 => pt_some (RO_n (fun z => hv3.1 q3 z.2))) (fun q3 => ?_)))
  have hc : mvC x1 x2 (σ.1 219) := And.intro (hv.2 q) (hv3.2 q3)
  obtain ⟨n, ⟨en, n0, n10⟩, e, P, hr⟩ := r_n hR (isN_0 hc.1)
  obtain ⟨a, ha, rfl⟩ := isN_k hc.1 en n10
  obtain ⟨b, hb, rfl⟩ := isN_k hc.2 en n10
  refine pt_gC (pt_zbq (vr_placeOf hC.1 n10 P hr ha) (fun v5 h5 => pt_gC (pt_zb (vq_goesTo hC.1 n10 P hr ha hb) (fun _ τ h => ?_))))
  obtain ⟨k5, ⟨hk5, ek5⟩, rfl⟩ := h5
  obtain ⟨k, ⟨hk, ek⟩, f, hs⟩ := h
  have hs : RRo n (mvN (oN (σ.1 219)) k b) τ := hs
  have ea : mvA (nI a) (σ.1 219) = k := by
    unfold mvA
    rw [e, iN (m := a) (by omega)]
    exact plN_p P hk ek
  refine pt_some ⟨fun _ => ⟨?_, ?_⟩, fun z => absurd hc z⟩
  · show nI k5 = _
    rw [ea, P.2.1 k5 k hk5 hk (ek5.trans ek.symm)]
  · unfold mvO
    rw [ea, e, iN (m := b) (by omega)]; exact hs
def swC (x1 : Int32) (g : Nat → Int32) : Prop := isN (g 0) x1 ∧ isN (g 0) (x1 + 1)
def swO (x1 : Int32) (g : Nat → Int32) : Nat → Nat := mvN (oN g) x1.toInt.toNat (x1.toInt.toNat + 1)
noncomputable def swV (x1 : Int32) (g f : Nat → Int32) : Nat := aN (fun p e => Rg f p (saN (swO x1 g) (nN g) e (nN g))) (nN g) 10
theorem uq_swap (hN : 1048576 ≤ N) (hI : IV σ) (hW : WQ σ) (hF : FQ σ) (hG : GQ σ) : Pt (f_X11_swap N 0 x1 σ) (UO (swC x1 (σ.1 219)) (swV x1 (σ.1 219) (σ.1 220)) (nN (σ.1 219)) (swO x1 (σ.1 219)) (σ.2.2 0 4) σ) := by
  rw [f_X11_swap.eq_1]
  refine pt_gC (pt_zbq (lq_isN hW) (fun v hv => pt_if (fun q => pt_some (UO_n (fun z => hv.1 q z.1) hG.2.2)) (fun q => ?_)))
  have h1 := hv.2 q
  have hB := isWc4 (IV_4 hI)
  obtain ⟨n, ⟨en, n0, n10⟩, e, eB, P, hr⟩ := g_n hI hW hG (isN_0 h1)
  obtain ⟨k, hk, rfl⟩ := isN_k h1 en n10
  have i2 : isN (σ.1 219 0) (nI k + 1) ↔ k + 1 < n := by
    unfold isN
    rw [nI_m1, en, nI_toInt (by omega), nI_toInt (by omega)]
    omega
  refine pt_gR (v := σ.2.2 0 4) rfl (pt_gI ?_)
  rw [eB, show (1 : Int32) = nI 1 from rfl, nI_sub (c := n - 1) (by omega)]
  refine pt_if (fun z => ?_) (fun z => ?_)
  · rw [nl_ (by omega) (by omega)] at z
    have kn : k + 1 < n := by omega
    have hc : swC (nI k) (σ.1 219) := ⟨h1, i2.mpr kn⟩
    refine pt_gR (v := σ.2.2 0 4) rfl (pt_gR (v := σ.2.2 0 4) rfl (pt_gR (v := σ.2.2 0 4 + 4) (rW hB hI.1.1.1).1.2.2.2 (pt_aI (pt_gC ?_))))
    rw [iN (m := k) (by omega), hr k hk, nI_plus]
    refine pt_zb (v_moveName hB hI.1.1.1 eB n10 P hr (P.1 k hk) kn) (fun v9 τ h => ?_)
    obtain ⟨a, ⟨ha, ea⟩, _, f, hs⟩ := h
    have f : FW_ [σ.2.2 0 4 + 4] σ τ := f
    have hs : RCo n (σ.2.2 0 4) (mvN (oN (σ.1 219)) a (k + 1)) τ := hs
    have ak := P.2.1 a k ha hk ea
    subst ak
    have P2 := PmO_mv P ha kn
    have Rt : RF τ.2.2 := by rw [f.1]; exact hI.1.1.1
    have h4 := IV_4 hI
    have t4 : τ.2.2 0 4 = σ.2.2 0 4 := by rw [f.1]
    refine pt_gR (v := 111) (Rt 0 13 rfl) (pt_gR (v := σ.2.2 0 4) t4 (pt_gC (pt_zb (v_tallyOfAll (n := n) Rt hB (HQ_c (fun c hc => f.2 c (fun z => ?_)) hG.2.2) (by rw [f.2 _ (fun z => by have := List.mem_singleton.mp z; omega)]; exact eB) n10 hs P2) (fun v13 φ h => ?_))))
    · rw [List.mem_singleton.mp z] at hc
      simp only [List.mem_cons, List.not_mem_nil, or_false] at hc
      omega
    · obtain ⟨⟨g1, g2⟩, g3, g4⟩ := h
      have g2 : ∀ b, b ∉ NLS → b ≠ 117 → b ≠ 118 → φ.1 b = τ.1 b := g2
      have g4 : v13 = nI (aN (fun p e => bt (τ.2.1 (σ.2.2 0 4 + 6 + 2 * p + 1)) (saN (mvN (oN (σ.1 219)) a (a + 1)) n e n)) n 10) := g4
      rw [f.1, all_c hF n10 P2] at g4
      refine pt_some ⟨g3, fun _ => ⟨?_, fun j hj => ?_⟩, fun z => absurd hc z⟩
      · show v13 = _
        rw [g4]
        unfold swV swO
        rw [e, iN (m := a) (by omega)]
      · show φ.1 (σ.2.2 0 4 + 4) j = _
        rw [e] at hj
        unfold swO
        rw [iN (m := a) (by omega), g2 _ (fun z => by
          unfold NLS at z
          simp only [List.mem_cons, List.not_mem_nil, or_false] at z
          omega) (by omega) (by omega)]
        exact hs j hj
  · rw [nl_ (by omega) (by omega)] at z
    refine pt_some (UO_n (fun c => ?_) hG.2.2)
    have := i2.mp c.2
    omega
theorem rq_swap (hN : 1048576 ≤ N) (hC : CI σ) (hR : RI σ) : Pt (f_X12_swap N 218 x1 σ) (RO (swC x1 (σ.1 219)) (swV x1 (σ.1 219) (σ.1 220)) (nN (σ.1 219)) (swO x1 (σ.1 219)) σ) := by
  rw [f_X12_swap.eq_1]
  refine pt_gC (pt_zbq (vr_isName hC.1 (RI_n hR)) (fun v hv => pt_if (fun q => pt_some (RO_n (fun z => hv.1 q z.1))) (fun q => ?_)))
  refine pt_gC (pt_zbq (vr_isName hC.1 (RI_n hR)) (fun v3 hv3 => pt_if (fun q3 => pt_some (RO_n (fun z => hv3.1 q3 z.2))) (fun q3 => ?_)))
  have hc : swC x1 (σ.1 219) := And.intro (hv.2 q) (hv3.2 q3)
  obtain ⟨n, ⟨en, n0, n10⟩, e, P, hr⟩ := r_n hR (isN_0 hc.1)
  obtain ⟨k, hk, rfl⟩ := isN_k hc.1 en n10
  have kn : k + 1 < n := by
    have := hc.2.2
    rw [nI_m1, en, nI_toInt (by omega), nI_toInt (by omega)] at this
    omega
  refine pt_gR (v := 219) (hC.1 218 1 rfl) (pt_aI (pt_gR (v := 219) (hC.1 218 1 rfl) (pt_gR (v := 219) (hC.1 218 1 rfl) (pt_aI ?_))))
  rw [n33, nI_m1, iN (m := 33 + k) (by omega), iN (m := 33 + k + 1) (by omega), show 33 + k + 1 = 33 + (k + 1) by omega, hr k hk, hr (k + 1) kn]
  refine pt_s14x (fun τ a1 b1 c1 => ?_)
  rw [iN (m := 33 + k) (by omega)] at a1
  have Rt : RF τ.2.2 := by rw [c1]; exact hC.1
  refine pt_gR (v := 219) (Rt 218 1 rfl) (pt_s14x (fun φ a2 b2 c2 => ?_))
  rw [iN (m := 33 + (k + 1)) (by omega)] at a2
  have f := FO_s (FO_s FO_r a1 b1 c1) a2 b2 c2
  have Rp : RF φ.2.2 := by rw [f.1.1]; exact hC.1
  have hs : RRo n (mvN (oN (σ.1 219)) k (k + 1)) φ := fun j hj => by
    show φ.1 219 (33 + j) = _
    unfold mvN
    rw [a2, upd_i, a1, upd_i]
    by_cases w1 : j = k + 1
    · rw [if_pos (by omega), if_pos w1]
    · rw [if_neg (by omega), if_neg w1]
      by_cases w2 : j = k
      · rw [if_pos (by omega), if_pos (by omega), w2]
      · rw [if_neg (by omega), if_neg (by omega), if_neg (by omega)]; exact hr j hj
  have P2 := PmO_mv P hk kn
  refine pt_gC (pt_zb (vr_netOf Rp (by rw [f.2 0 (by decide)]; exact en) n10 P2 hs) (fun v13 ψ h => ?_))
  obtain ⟨g, ev⟩ := h
  have g : FW_ [218, 234, 235, 236] φ ψ := g
  have ev : v13 = nI (aN (fun p e => Rg (φ.1 220) p (saN (mvN (oN (σ.1 219)) k (k + 1)) n e n)) n 10) := ev
  rw [f.1.2 220 (by decide)] at ev
  refine pt_some ⟨fun _ => ⟨?_, fun j hj => ?_⟩, fun z => absurd hc z⟩
  · show v13 = _
    rw [ev]
    unfold swV swO
    rw [e, iN (m := k) (by omega)]
  · show ψ.1 219 (33 + j) = _
    rw [e] at hj
    unfold swO
    rw [iN (m := k) (by omega), g.2 219 (by decide)]
    exact hs j hj
noncomputable def siV (x1 : Int32) (g f : Nat → Int32) : Nat := (sAN (Rg f x1.toInt.toNat) (nN g) (oN g) (nN g)).1
noncomputable def siO (x1 : Int32) (g f : Nat → Int32) : Nat → Nat := (sAN (Rg f x1.toInt.toNat) (nN g) (oN g) (nN g)).2
theorem uq_sift (hN : 1048576 ≤ N) (hI : IV σ) (hW : WQ σ) (hF : FQ σ) (hG : GQ σ) : Pt (f_X11_sift N 0 x1 σ) (UO (isR (σ.1 219 0) x1) (siV x1 (σ.1 219) (σ.1 220)) (nN (σ.1 219)) (siO x1 (σ.1 219) (σ.1 220)) (σ.2.2 0 4) σ) := by
  rw [f_X11_sift.eq_1]
  refine pt_gC (pt_zbq (lq_isR hW) (fun v hv => pt_if (fun q => pt_some (UO_n (hv.1 q) hG.2.2)) (fun q => ?_)))
  have hc := hv.2 q
  obtain ⟨p, hp, rfl⟩ := isR_n hc
  obtain ⟨n, ⟨en, n0, n10⟩, e, eB, P, hr⟩ := g_n hI hW hG hc.1
  refine pt_gR (v := 120) (hI.1.1.1 0 14 rfl) (pt_gR (v := σ.2.2 0 4) rfl (lq_reg hI hp (pt_gR (v := 111) (hI.1.1.1 0 13 rfl) (pt_gC (pt_zb (v_sift (isWc4 (IV_4 hI)) hI.1.1.1 (lq_k hI hp) hG.2.2 eB n0 n10 P hr) (fun v8 τ h => ?_))))))
  obtain ⟨_, h1, h2, h3⟩ := h
  have h2 : v8 = nI (sAN (bt (σ.2.1 (σ.2.2 0 4 + 6 + 2 * p + 1))) n (oN (σ.1 219)) n).1 := h2
  have h3 : RCo n (σ.2.2 0 4) (sAN (bt (σ.2.1 (σ.2.2 0 4 + 6 + 2 * p + 1))) n (oN (σ.1 219)) n).2 τ := h3
  rw [sA_c n10 (Fq hF hp) P n (Nat.le_refl _)] at h2 h3
  refine pt_some ⟨h1, fun _ => ⟨?_, ?_⟩, fun z => absurd hc z⟩
  · show v8 = _
    unfold siV
    rw [e, iN (m := p) (by omega)]; exact h2
  · unfold siO
    rw [e, iN (m := p) (by omega)]; exact h3
theorem rq_sift (hN : 1048576 ≤ N) (hC : CI σ) (hR : RI σ) : Pt (f_X12_sift N 218 x1 σ) (RO (isR (σ.1 219 0) x1) (siV x1 (σ.1 219) (σ.1 220)) (nN (σ.1 219)) (siO x1 (σ.1 219) (σ.1 220)) σ) := by
  rw [f_X12_sift.eq_1]
  refine pt_gC (pt_zbq (vr_isRegister hC.1) (fun v hv => pt_if (fun q => pt_some (RO_n (hv.1 q))) (fun q => ?_)))
  have hc := hv.2 q
  obtain ⟨p, hp, rfl⟩ := isR_n hc
  obtain ⟨n, ⟨en, n0, n10⟩, e, P, hr⟩ := r_n hR hc.1
  refine pt_w (vr_sift hC.1 hp en n0 n10 P hr) (fun r h => ⟨fun _ => ⟨?_, ?_⟩, fun z => absurd hc z⟩)
  · unfold siV
    rw [e, iN (m := p) (by omega)]; exact h.2.1
  · unfold siO
    rw [e, iN (m := p) (by omega)]; exact h.2.2
def V_order (x1 : Int32) (g f : Nat → Int32) (v : Int32) : Prop := QE (isN (g 0) x1) (fun v => v = g (33 + x1.toInt.toNat)) v
theorem uq_order (hN : 1048576 ≤ N) (hI : IV σ) (hW : WQ σ) (hF : FQ σ) (hG : GQ σ) : Pt (f_X11_order N 0 x1 σ) (fun r => V_order x1 (σ.1 219) (σ.1 220) r.1) := by
  rw [f_X11_order.eq_1]
  refine pt_gC (pt_zbq (lq_isN hW) (fun v hv => pt_if (fun q => pt_some (QE_n (hv.1 q))) (fun q => ?_)))
  have hc := hv.2 q
  refine pt_gR (v := σ.2.2 0 4) rfl (pt_gR (v := σ.2.2 0 4 + 4) (rW (isWc4 (IV_4 hI)) hI.1.1.1).1.2.2.2 (pt_aI (pt_some (QE_y hc ?_))))
  exact hG.1.1 _ (by have := hc.1; have := hc.2; omega)
theorem rq_order (hN : 1048576 ≤ N) (hC : CI σ) (hR : RI σ) : Pt (f_X12_order N 218 x1 σ) (fun r => V_order x1 (σ.1 219) (σ.1 220) r.1) := by
  rw [f_X12_order.eq_1]
  refine pt_gC (pt_zbq (vr_isName hC.1 (RI_n hR)) (fun v hv => pt_if (fun q => pt_some (QE_n (hv.1 q))) (fun q => ?_)))
  have hc : isN (σ.1 219 0) x1 := hv.2 q
  obtain ⟨n, ⟨en, n0, n10⟩, e, P, hr⟩ := r_n hR (isN_0 hc)
  obtain ⟨k, hk, rfl⟩ := isN_k hc en n10
  refine pt_gR (v := 219) (hC.1 218 1 rfl) (pt_aI (pt_some (QE_y hc ?_)))
  show σ.1 219 _ = σ.1 219 _
  rw [n33, iN (m := 33 + k) (by omega), iN (m := k) (by omega)]
/-! the layer lasts -/
theorem gs_n {V : (Nat → Int32) → (Nat → Int32) → Int32 → Prop} {S1 S2 : List Nat} (hu : ∀ g f v w, V g f v → V g f w → v = w) (hI : IV σ) (hG : GQ σ) (t1 : FR S1 σ σ1) (t2 : FR S2 σ1 σ2) (hS : ∀ k ∈ [6, 32, 136, 162, 188, 219, 220, 221], k ∉ S1 ++ S2) (hS2 : ∀ k ∈ [111, 112, 114, 115, 116], k ∉ S2) (c : HQ σ1 ∧ V (σ.1 219) (σ.1 220) v) (r : V (σ1.1 219) (σ1.1 220) w) : GQ σ2 ∧ v = w := by
  have f := FRu t1 t2
  have e9 := f.1 219 (hS 219 (by decide))
  have e21 := f.1 221 (hS 221 (by decide))
  have a9 : σ1.1 219 = σ.1 219 := t1.1 219 (fun z => hS 219 (by decide) (List.mem_append_left _ z))
  have a20 : σ1.1 220 = σ.1 220 := t1.1 220 (fun z => hS 220 (by decide) (List.mem_append_left _ z))
  have h4 := IV_4 hI
  have i0 := IV_00 hI
  rw [a9, a20] at r
  refine ⟨⟨⟨?_, fun k hk => ?_⟩, ⟨by rw [e9]; exact hG.2.1.1, fun k hk => by rw [e21]; exact hG.2.1.2 k hk⟩, HQ_c (fun a ha => t2.1 a (hS2 a ha)) c.1⟩, hu _ _ _ _ c.2 r⟩
  · rw [f.2, e9]
    refine OE_e i0.1 rfl (f.1 _ ?_) (fun _ _ => rfl) hG.1.1
    rcases h4 with h | h
    · rw [h]; exact hS 6 (by decide)
    · rw [h]; exact hS 32 (by decide)
  · rw [e21]
    refine OE_e (i0.2 k hk) rfl (f.1 _ ?_) (fun _ _ => rfl) (hG.1.2 k hk)
    rcases (show k = 0 ∨ k = 1 ∨ k = 2 by omega) with rfl | rfl | rfl
    · exact hS 136 (by decide)
    · exact hS 162 (by decide)
    · exact hS 188 (by decide)
theorem gs_ord {c0 : (Nat → Int32) → (Nat → Int32) → Prop} {val : (Nat → Int32) → (Nat → Int32) → Nat} {o2 : (Nat → Int32) → (Nat → Int32) → Nat → Nat} {S1 S2 : List Nat} (hI : IV σ) (hG : GQ σ) (t1 : FR S1 σ σ1) (t2 : FR S2 σ1 σ2 ∧ B33 (σ1.1 219) (σ2.1 219)) (hS : ∀ k ∈ [136, 162, 188, 221], k ∉ S1 ++ S2) (hS1 : ∀ k ∈ [219, 220], k ∉ S1) (hS2 : ∀ k ∈ [6, 32, 111, 112, 114, 115, 116], k ∉ S2) (c : UO (c0 (σ.1 219) (σ.1 220)) (val (σ.1 219) (σ.1 220)) (nN (σ.1 219)) (o2 (σ.1 219) (σ.1 220)) (σ.2.2 0 4) σ (v, σ1)) (r : RO (c0 (σ1.1 219) (σ1.1 220)) (val (σ1.1 219) (σ1.1 220)) (nN (σ1.1 219)) (o2 (σ1.1 219) (σ1.1 220)) σ1 (w, σ2)) : GQ σ2 ∧ v = w := by
  have f := FRu t1 t2.1
  have e21 := f.1 221 (hS 221 (by decide))
  have a9 : σ1.1 219 = σ.1 219 := t1.1 219 (hS1 219 (by decide))
  have a20 : σ1.1 220 = σ.1 220 := t1.1 220 (hS1 220 (by decide))
  have h4 := IV_4 hI
  have i0 := IV_00 hI
  have b33 := t2.2
  rw [a9] at b33
  have b0 : σ2.1 219 0 = σ.1 219 0 := b33 0 (by decide)
  rw [a9, a20] at r
  have e4 : σ2.1 (σ.2.2 0 4 + 4) = σ1.1 (σ.2.2 0 4 + 4) := t2.1.1 _ (by
    rcases h4 with h | h
    · rw [h]; exact hS2 6 (by decide)
    · rw [h]; exact hS2 32 (by decide))
  have im : ∀ k, k < 3 → OE σ2.1 (132 + 26 * k) (fun j => σ2.1 221 (43 * k + j)) := fun k hk => by
    rw [e21]
    refine OE_e (i0.2 k hk) rfl (f.1 _ ?_) (fun _ _ => rfl) (hG.1.2 k hk)
    rcases (show k = 0 ∨ k = 1 ∨ k = 2 by omega) with rfl | rfl | rfl
    · exact hS 136 (by decide)
    · exact hS 162 (by decide)
    · exact hS 188 (by decide)
  have hq : HQ σ2 := HQ_c (fun a ha => t2.1.1 a (hS2 a ((by decide : ∀ a ∈ [111, 112, 114, 115, 116], a ∈ [6, 32, 111, 112, 114, 115, 116]) a ha))) c.1
  have wb : WB9 (σ2.1 219) := WB9_c (fun j _ hj => b33 j (by omega)) hG.2.1.1
  have key : OE σ2.1 (σ2.2.2 0 4) (σ2.1 219) ∧ v = w := by
    rw [f.2]
    by_cases q : c0 (σ.1 219) (σ.1 220)
    · have c1 := c.2.1 q
      have r1 := r.1 q
      refine ⟨fun j hj => ?_, c1.1.trans r1.1.symm⟩
      rw [b0] at hj
      have hj2 : j < nN (σ.1 219) := by
        unfold nN
        omega
      rw [e4]
      exact (c1.2 j hj2).trans (r1.2 j hj2).symm
    · have c1 := c.2.2 q
      have r1 := r.2 q
      have r2 : σ2.1 219 = σ.1 219 := (show σ2.1 219 = σ1.1 219 from r1.2).trans a9
      refine ⟨?_, c1.1.trans r1.1.symm⟩
      rw [r2]
      exact OE_e i0.1 rfl (e4.trans c1.2) (fun _ _ => rfl) hG.1.1
  exact ⟨⟨⟨key.1, im⟩, ⟨wb, fun k hk => by rw [e21]; exact hG.2.1.2 k hk⟩, hq⟩, key.2⟩
theorem V_u {x : Int32} {c0 : Prop} : ∀ v w, QE c0 (fun v => v = x) v → QE c0 (fun v => v = x) w → v = w := fun _ _ h h2 => QE_u (fun _ _ _ a b => a.trans b.symm) h h2
theorem gs_nodes {S1 S2 : List Nat} (hI : IV σ) (hG : GQ σ) (t1 : FR S1 σ σ1) (t2 : FR S2 σ1 σ2) (hS : ∀ k ∈ [6, 32, 136, 162, 188, 219, 220, 221], k ∉ S1 ++ S2) (hS2 : ∀ k ∈ [111, 112, 114, 115, 116], k ∉ S2) (c : HQ σ1 ∧ V_nodes x1 (σ.1 219) (σ.1 220) v) (r : V_nodes x1 (σ1.1 219) (σ1.1 220) w) : GQ σ2 ∧ v = w := gs_n (V := V_nodes x1) (fun _ _ v w h h2 => V_u v w h h2) hI hG t1 t2 hS hS2 c r
theorem gs_wide {S1 S2 : List Nat} (hI : IV σ) (hG : GQ σ) (t1 : FR S1 σ σ1) (t2 : FR S2 σ1 σ2) (hS : ∀ k ∈ [6, 32, 136, 162, 188, 219, 220, 221], k ∉ S1 ++ S2) (hS2 : ∀ k ∈ [111, 112, 114, 115, 116], k ∉ S2) (c : HQ σ1 ∧ V_wide x1 x2 (σ.1 219) (σ.1 220) v) (r : V_wide x1 x2 (σ1.1 219) (σ1.1 220) w) : GQ σ2 ∧ v = w := gs_n (V := V_wide x1 x2) (fun _ _ v w h h2 => V_u v w h h2) hI hG t1 t2 hS hS2 c r
theorem gs_net {S1 S2 : List Nat} (hI : IV σ) (hG : GQ σ) (t1 : FR S1 σ σ1) (t2 : FR S2 σ1 σ2) (hS : ∀ k ∈ [6, 32, 136, 162, 188, 219, 220, 221], k ∉ S1 ++ S2) (hS2 : ∀ k ∈ [111, 112, 114, 115, 116], k ∉ S2) (c : HQ σ1 ∧ V_net (σ.1 219) (σ.1 220) v) (r : V_net (σ1.1 219) (σ1.1 220) w) : GQ σ2 ∧ v = w := gs_n (V := V_net) (fun _ _ v w h h2 => V_u v w h h2) hI hG t1 t2 hS hS2 c r
theorem fe_order {S : List Nat} (hI : IV σ) (hW : WQ σ) (hF : FQ σ) (t1 : FR S σ σ1) (hS : ∀ k ∈ [218, 219, 220, 239], k ∉ S) (c : V_order x1 (σ.1 219) (σ.1 220) v) (r : V_order x1 (σ1.1 219) (σ1.1 220) w) : v = w := by
  rw [t1.1 219 (hS 219 (by decide)), t1.1 220 (hS 220 (by decide))] at r
  exact V_u v w c r
/-- the layer's forms of the three -/
theorem gs_move {S1 S2 : List Nat} (hI : IV σ) (hG : GQ σ) (t1 : FR S1 σ σ1) (t2 : FR S2 σ1 σ2 ∧ B33 (σ1.1 219) (σ2.1 219)) (hS : ∀ k ∈ [136, 162, 188, 221], k ∉ S1 ++ S2) (hS1 : ∀ k ∈ [219, 220], k ∉ S1) (hS2 : ∀ k ∈ [6, 32, 111, 112, 114, 115, 116], k ∉ S2) (c : UO (mvC x1 x2 (σ.1 219)) (mvA x1 (σ.1 219)) (nN (σ.1 219)) (mvO x1 x2 (σ.1 219)) (σ.2.2 0 4) σ (v, σ1)) (r : RO (mvC x1 x2 (σ1.1 219)) (mvA x1 (σ1.1 219)) (nN (σ1.1 219)) (mvO x1 x2 (σ1.1 219)) σ1 (w, σ2)) : GQ σ2 ∧ v = w := gs_ord (c0 := fun g _ => mvC x1 x2 g) (val := fun g _ => mvA x1 g) (o2 := fun g _ => mvO x1 x2 g) hI hG t1 t2 hS hS1 hS2 c r
theorem gs_swap {S1 S2 : List Nat} (hI : IV σ) (hG : GQ σ) (t1 : FR S1 σ σ1) (t2 : FR S2 σ1 σ2 ∧ B33 (σ1.1 219) (σ2.1 219)) (hS : ∀ k ∈ [136, 162, 188, 221], k ∉ S1 ++ S2) (hS1 : ∀ k ∈ [219, 220], k ∉ S1) (hS2 : ∀ k ∈ [6, 32, 111, 112, 114, 115, 116], k ∉ S2) (c : UO (swC x1 (σ.1 219)) (swV x1 (σ.1 219) (σ.1 220)) (nN (σ.1 219)) (swO x1 (σ.1 219)) (σ.2.2 0 4) σ (v, σ1)) (r : RO (swC x1 (σ1.1 219)) (swV x1 (σ1.1 219) (σ1.1 220)) (nN (σ1.1 219)) (swO x1 (σ1.1 219)) σ1 (w, σ2)) : GQ σ2 ∧ v = w := gs_ord (c0 := fun g _ => swC x1 g) (val := fun g f => swV x1 g f) (o2 := fun g _ => swO x1 g) hI hG t1 t2 hS hS1 hS2 c r
theorem gs_sift {S1 S2 : List Nat} (hI : IV σ) (hG : GQ σ) (t1 : FR S1 σ σ1) (t2 : FR S2 σ1 σ2 ∧ B33 (σ1.1 219) (σ2.1 219)) (hS : ∀ k ∈ [136, 162, 188, 221], k ∉ S1 ++ S2) (hS1 : ∀ k ∈ [219, 220], k ∉ S1) (hS2 : ∀ k ∈ [6, 32, 111, 112, 114, 115, 116], k ∉ S2) (c : UO (isR (σ.1 219 0) x1) (siV x1 (σ.1 219) (σ.1 220)) (nN (σ.1 219)) (siO x1 (σ.1 219) (σ.1 220)) (σ.2.2 0 4) σ (v, σ1)) (r : RO (isR (σ1.1 219 0) x1) (siV x1 (σ1.1 219) (σ1.1 220)) (nN (σ1.1 219)) (siO x1 (σ1.1 219) (σ1.1 220)) σ1 (w, σ2)) : GQ σ2 ∧ v = w := gs_ord (c0 := fun g _ => isR (g 0) x1) (val := fun g f => siV x1 g f) (o2 := fun g f => siO x1 g f) hI hG t1 t2 hS hS1 hS2 c r
end PUB
theorem GQ_00 : GQ zs00 := by
  have z : ∀ {g : Nat → Int32} {s : Nat → Nat → Int32} {B : Nat}, g 0 = 0 → OE s B g := fun h j hj => by
    rw [h] at hj
    simp only [Int32.reduceToInt] at hj
    omega
  have wb : ∀ {g : Nat → Int32}, (∀ j, g j = 0) → WB9 g := fun h j _ => by
    rw [h]; decide
  have c8 : 2 ≤ (zs00.1 111 8).toInt ∧ (zs00.1 111 8).toInt ≤ 1600 := CI_0.2.1.2.2.2.2.2.2.2.1
  refine ⟨⟨z (zs_0 (by decide) _), fun k _ => z (zs_0 (by decide) _)⟩, ⟨wb (fun j => zs_0 (by decide) _), fun k _ => wb (fun j => zs_0 (by decide) _)⟩, (zs00.1 111 8).toInt.toNat, ⟨Int32.toInt_inj.mp (by rw [nI_toInt (by omega)]; omega), by omega, by omega⟩, fun _ => 0, fun _ => 0, fun _ => 0, fun i _ _ => ⟨(zs_0 (by decide) _).trans rfl, (zs_0 (by decide) _).trans rfl, (zs_0 (by decide) _).trans rfl⟩, fun b _ q => absurd (zs_0 (by decide) _) q⟩

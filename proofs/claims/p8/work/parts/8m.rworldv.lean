/-! ===== the reference's lines and world, with families ===== -/
section RWV1
variable {N k n i : Nat} {σ τ : zS} {t : Nat → Int32} {O : List zOp} {g : Nat → Int32}
/-- all families empty -/
def z0 : zEv := ((fun _ _ => false), [])
theorem z0_R {M : Nat} : RG M z0 := ⟨fun _ _ _ _ z => (by cases z), fun _ hx => absurd hx List.not_mem_nil⟩
/-- rows 232 are what the steps make -/
def VR (τ : zS) (k : Nat) (O : List zOp) : Prop := ∀ p, p < 10 → ∀ u, u < 1024 → rb (τ.1 232) (1024 * p) u = (evs (2 ^ k) O z0).1 p u
theorem VR_c (e : τ.1 232 = σ.1 232) (h : VR σ k O) : VR τ k O := fun p hp u hu => by rw [e]; exact h p hp u hu
theorem vq_65b {P : Unit × zS → Prop} (hb : ¬ σ.1 218 14 = 0) (hP : P ((), σ)) : Pt (J_X12_readsLine_65 N 218 σ) P := by
  rw [J_X12_readsLine_65.eq_1]
  exact pt_gC (pt_zbq vr_good (fun v hq => pt_if (fun _ => pt_some hP) (fun z => absurd (hq.2 z) hb)))
theorem vq_65 (hN : 1048576 ≤ N) (hk : k ≤ 10) (hb : RBs σ) (hv : vds (2 ^ k) O 0) (hh : hts O 0 = 0) (hG : RX σ.1 t n i) (hg : σ.1 218 14 = 0) (hi : i ≤ n) (hF : FW (σ.1 231)) (eg : g = σ.1 231) (e0 : g 0 = nI k) (e1 : ¬ g 1 = 0) (hw : isW t n i 12 ∨ isW t n i 13 ∨ isW t n i 14) (he : isW t n i 13 → ¬ σ.1 231 2 = σ.1 231 0) (hr : VR σ k O) : Pt (J_X12_readsLine_65 N 218 σ) (fun r => r.2.1 218 14 = 0 → VR r.2 k (oL t n i g O)) := by
  have hR := hb.1.1
  rw [J_X12_readsLine_65.eq_1]
  refine pt_gC (pt_zbq vr_good (fun v hq => pt_if (fun z => absurd hg (hq.1 z)) (fun _ => ?_)))
  refine pt_gC (pt_zb (pt_ok (s_X12_takes_r (tx := t) (n := n) (i := i) hN hR hb.1.2 hb.2.1 hG hg (by decide))) (fun v1 σ1 h1 => ?_))
  obtain ⟨T1, ⟨K1, _, n1, y1⟩, _⟩ := h1
  have T1 : Tr [218] σ σ1 := T1
  have n1 : v1 = 0 → σ1 = σ ∧ ¬ isW t n i 12 := n1
  have y1 : ¬ v1 = 0 → (isW t n i 12 ∧ _) ∧ RX σ1.1 t n (tkE t n i) := y1
  have hb1 : RBs σ1 := rb218 hb T1 (by decide) K1 (zb218 hb T1)
  refine pt_if (fun z => ?_) (fun z => ?_)
  · obtain ⟨e, nw⟩ := n1 z
    subst e
    refine pt_gC (pt_zb (pt_ok (s_X12_takes_r (tx := t) (n := n) (i := i) hN hR hb.1.2 hb.2.1 hG hg (by decide))) (fun v2 σ2 h2 => ?_))
    obtain ⟨T2, ⟨K2, _, n2, y2⟩, _⟩ := h2
    have T2 : Tr [218] σ1 σ2 := T2
    have n2 : v2 = 0 → σ2 = σ1 ∧ ¬ isW t n i 13 := n2
    have y2 : ¬ v2 = 0 → (isW t n i 13 ∧ _) ∧ RX σ2.1 t n (tkE t n i) := y2
    have hb2 : RBs σ2 := rb218 hb T2 (by decide) K2 (zb218 hb T2)
    refine pt_if (fun z => ?_) (fun z => ?_)
    · obtain ⟨e, ne⟩ := n2 z
      subst e
      have wl := (hw.resolve_left nw).resolve_left ne
      have l0 := hb.1.2.2.1 (by rw [hG.2.2.1, wl.1]; decide)
      have A : (0 ≤ (σ2.1 218 10).toInt ∧ (σ2.1 218 10).toInt ≤ (σ2.1 218 9).toInt) ∧ (σ2.1 218 9).toInt ≤ 600 := by have := hb.1.2.1; omega
      refine pt_gC (pt_zb (pt_ok (s_X12_advance_r (tx := t) (n := n) (i := i) hN hR A hb.2.1 hG)) (fun _ σ3 h3 => ?_))
      obtain ⟨T3, ⟨⟨K3, _⟩, G3⟩, _, _, d14, _⟩ := h3
      have T3 : Tr [218] σ2 σ3 := T3
      have d14 : σ3.1 218 14 = σ2.1 218 14 := d14
      have hb3 : RBs σ3 := rb218 hb T3 (by decide) K3 (zb218 hb T3)
      refine pt_gC (pt_zb (vq_let (s0 := z0) (O := O) (i := tkE t n i) hN hk hb3 z0_R rfl hv hh G3 (d14.trans hg) (by rw [T3.2 231 (by decide), ← eg]; exact e0) (VR_c (T3.2 232 (by decide)) hr)) (fun _ σ4 h4 => pt_some (fun q => ?_)))
      rw [oL_l e1 wl, e0]
      exact h4 q
    · have a2 := y2 z
      have n14 : ¬ isW t n i 14 := fun y => absurd (isW_u (a := 2) (b := 3) (by decide) (by decide) a2.1.1 y) (by decide)
      rw [oL_n (Or.inr n14)]
      have r2 : σ2.1 231 = σ1.1 231 := T2.2 231 (by decide)
      have lt : (σ2.1 231 2).toInt < (σ2.1 231 0).toInt := by
        rw [r2]
        have h02 := hF.1
        have : (σ1.1 231 2).toInt ≠ (σ1.1 231 0).toInt := fun y => he a2.1.1 (Int32.toInt_inj.mp y)
        omega
      refine pt_gC (pt_zb (pt_ok (s_X12_readsEdge hN hb2.1.1 hb2.1.2 hb2.2.1 (by rw [r2]; exact hF) lt)) (fun _ σ3 h3 => pt_some (fun _ => ?_)))
      have T3 : Tr [218, 231] σ2 σ3 := h3.1
      exact VR_c ((T3.2 232 (by decide)).trans (T2.2 232 (by decide))) hr
  · have a1 := y1 z
    have n14 : ¬ isW t n i 14 := fun y => absurd (isW_u (a := 1) (b := 3) (by decide) (by decide) a1.1.1 y) (by decide)
    rw [oL_n (Or.inr n14)]
    refine pt_gC (pt_zb (pt_ok (s_X12_readsName hN hb1.1.1 hb1.1.2 hb1.2.1 (by rw [T1.2 231 (by decide)]; exact hF))) (fun v2 σ2 h2 => ?_))
    have T2 : Tr [218] σ1 σ2 := h2.1
    have K2 : TOK σ2.1 := h2.2.1.1
    have hb2 : RBs σ2 := rb218 hb1 T2 (by decide) K2 (zb218 hb1 T2)
    refine pt_gR (v := 231) (hb2.1.1 218 26 rfl) ?_
    refine pt_gC (pt_zb (pt_ok (s_X12_number hN hb2.1.1 hb2.1.2 hb2.2.1)) (fun v3 σ3 h3 => ?_))
    have T3 : Tr [218] σ2 σ3 := h3.1
    refine pt_s14x (fun σ4 _ b4 _ => pt_some (fun _ => ?_))
    exact VR_c ((b4 232 (by decide)).trans ((T3.2 232 (by decide)).trans ((T2.2 232 (by decide)).trans (T1.2 232 (by decide))))) hr
theorem vq_35 (hN : 1048576 ≤ N) (hk : k ≤ 10) (hb : RBs σ) (hv : vds (2 ^ k) O 0) (hh : hts O 0 = 0) (hG : RX σ.1 t n i) (hg : σ.1 218 14 = 0) (hi : i ≤ n) (hF : FW (σ.1 231)) (eg : g = σ.1 231) (e0 : g 0 = nI k) (e1 : ¬ g 1 = 0) (hw : isW t n i 12 ∨ isW t n i 13 ∨ isW t n i 14) (hr : VR σ k O) : Pt (J_X12_readsLine_35 N 218 σ) (fun r => r.2.1 218 14 = 0 → VR r.2 k (oL t n i g O)) := by
  have hR := hb.1.1
  rw [J_X12_readsLine_35.eq_1]
  refine pt_gC (pt_zbX (Q := fun v => (v = 0 ∨ v = 1) ∧ (v = 0 → ¬ isW t n i 13) ∧ (¬ v = 0 → isW t n i 13)) (pt_ok (xf_X12_is hN hR (by decide) hb.1.2 hg hG)) (fun v hq => ?_))
  refine pt_if (fun z => vq_65 hN hk hb hv hh hG hg hi hF eg e0 e1 hw (fun y => absurd y (hq.2.1 z)) hr) (fun z => ?_)
  refine pt_gR (v := 231) (hR 218 26 rfl) (pt_aI (pt_gR (v := 231) (hR 218 26 rfl) (pt_aI ?_)))
  refine pt_if (fun e => ?_) (fun e => vq_65 hN hk hb hv hh hG hg hi hF eg e0 e1 hw (fun _ => e) hr)
  refine pt_gC (pt_zb (vr_errs hN hb (by decide)) (fun _ σ3 h3 => ?_))
  have h3 : ¬ σ3.1 218 14 = 0 := h3
  exact vq_65b h3 (fun q => absurd q h3)
theorem vq_readsLine (hN : 1048576 ≤ N) (hk : k ≤ 10) (hb : RBs σ) (hv : vds (2 ^ k) O 0) (hh : hts O 0 = 0) (hG : RX σ.1 t n i) (hg : σ.1 218 14 = 0) (hi : i ≤ n) (hF : FW (σ.1 231)) (eg : g = σ.1 231) (e0 : g 0 = nI k) (e1 : ¬ g 1 = 0) (hr : VR σ k O) : Pt (f_X12_readsLine N 218 σ) (fun r => r.2.1 218 14 = 0 → VR r.2 k (oL t n i g O)) := by
  have hR := hb.1.1
  rw [f_X12_readsLine.eq_1]
  refine pt_gC (pt_zbX (Q := fun v => (v = 0 ∨ v = 1) ∧ (v = 0 → ¬ isW t n i 12) ∧ (¬ v = 0 → isW t n i 12)) (pt_ok (xf_X12_is hN hR (by decide) hb.1.2 hg hG)) (fun v1 h1 => ?_))
  refine pt_if (fun z1 => ?_) (fun z1 => vq_35 hN hk hb hv hh hG hg hi hF eg e0 e1 (Or.inl (h1.2.2 z1)) hr)
  refine pt_gC (pt_zbX (Q := fun v => (v = 0 ∨ v = 1) ∧ (v = 0 → ¬ isW t n i 13) ∧ (¬ v = 0 → isW t n i 13)) (pt_ok (xf_X12_is hN hR (by decide) hb.1.2 hg hG)) (fun v2 h2 => ?_))
  refine pt_if (fun z2 => ?_) (fun z2 => vq_35 hN hk hb hv hh hG hg hi hF eg e0 e1 (Or.inr (Or.inl (h2.2.2 z2))) hr)
  refine pt_gC (pt_zbX (Q := fun v => (v = 0 ∨ v = 1) ∧ (v = 0 → ¬ isW t n i 14) ∧ (¬ v = 0 → isW t n i 14)) (pt_ok (xf_X12_is hN hR (by decide) hb.1.2 hg hG)) (fun v3 h3 => ?_))
  refine pt_if (fun z3 => ?_) (fun z3 => vq_35 hN hk hb hv hh hG hg hi hF eg e0 e1 (Or.inr (Or.inr (h3.2.2 z3))) hr)
  refine pt_gC (pt_zb (pt_ok (s_X12_errs hN hR hb.1.2 hb.2.1 (by decide))) (fun _ σ3 h4 => ?_))
  obtain ⟨T4, ⟨K4, b4⟩, _⟩ := h4
  have T4 : Tr [218] σ σ3 := T4
  have b4 : ¬ σ3.1 218 14 = 0 := b4
  have hb3 : RBs σ3 := rb218 hb T4 (by decide) K4 (zb218 hb T4)
  rw [J_X12_readsLine_35.eq_1]
  refine pt_gC (pt_zbX (Q := fun _ => True) (pt_w (pt_ok (x0_X12_is hN hb3.1.1 (by decide) hb3.1.2)) (fun r h => ⟨h.1, trivial⟩)) (fun v _ => ?_))
  refine pt_if (fun _ => vq_65b b4 (fun q => absurd q b4)) (fun _ => ?_)
  refine pt_gR (v := 231) (hb3.1.1 218 26 rfl) (pt_aI (pt_gR (v := 231) (hb3.1.1 218 26 rfl) (pt_aI ?_)))
  refine pt_if (fun _ => ?_) (fun _ => vq_65b b4 (fun q => absurd q b4))
  refine pt_gC (pt_zb (vr_errs hN hb3 (by decide)) (fun _ σ5 h5 => ?_))
  have h5 : ¬ σ5.1 218 14 = 0 := h5
  exact vq_65b h5 (fun q => absurd q h5)
end RWV1
theorem iNb {m : Nat} (h : m ≤ 100000) : (nI m).toInt.toNat = m := by rw [nI_toInt (by omega)]; omega
theorem nI_m1 {m : Nat} : nI m + 1 = nI (m + 1) := nI_plus m 1
section RWV2
variable {N : Nat} {σ : zS} {t : Nat → Int32} {n : Nat}
/-- the reading of a world, between two lines; U is row 220 -/
def RWV (t : Nat → Int32) (n : Nat) (G U : Nat → Int32) (τ : zS) : Prop := (RBs τ ∧ τ.1 224 = t ∧ τ.1 220 = U) ∧ (τ.1 218 14 = 0 → ∃ (i : Nat) (O : List zOp), ((RX τ.1 t n i ∧ i ≤ n) ∧ Rc (stW t n) ((0, G, 0), []) ((i, τ.1 231, (τ.1 218 25).toInt.toNat), O)) ∧ (0 ≤ (τ.1 218 25).toInt ∧ (τ.1 218 25).toInt ≤ 24) ∧ (LI (τ.1 231) ∧ 0 ≤ (τ.1 231 1).toInt ∧ (τ.1 231 1).toInt ≤ (τ.1 218 11).toInt) ∧ VR τ (τ.1 231 0).toInt.toNat O)
/-- what world() of the reference leaves of the families -/
def RYQ (t : Nat → Int32) (n : Nat) (G U : Nat → Int32) (r : Int32 × zS) : Prop := (r.1 = -4 ∧ r.2.1 220 = U) ∨ ∃ (d : LC) (O : List zOp), (Rc (stW t n) ((0, G, 0), []) (d, O) ∧ stL t n d = some none) ∧ ∀ p, p < 10 → ∀ u, u < 1024 → rb (r.2.1 220) (1024 * p) u = (evs (2 ^ (d.2.1 0).toInt.toNat) O z0).1 p u
theorem vq_tail {P : Int32 × zS → Prop} {again : zS → Option (Int32 × zS)} {G U : Nat → Int32} {i : Nat} {g : Nat → Int32} {sg : Nat} {O : List zOp} (hN : 1048576 ≤ N) (hb : RBs σ) (h224 : σ.1 224 = t) (h220 : σ.1 220 = U)
    (hrc : Rc (stW t n) ((0, G, 0), []) ((i, g, sg), O)) (hk : ¬ tkK t n i = 0) (hL : LI g) (hl : 0 ≤ (g 1).toInt ∧ (g 1).toInt ≤ (σ.1 218 11).toInt) (hLB : LB t n (bdR t n i g sg) σ.1) (hr : σ.1 218 14 = 0 → VR σ (σ.1 231 0).toInt.toNat (oL t n i g O)) (ih : ∀ τ, RWV t n G U τ → Pt (again τ) P) :
    Pt (zl (gC 12 218) fun _ => zb (f_X12_needsSign N 218 59 σ) fun _ σ23 => zl (gR 12 26 218 σ23) fun v24 => zl (aI 14 v24 1 σ23) fun v25 => zl (sI 14 v24 1 (v25 + 1) σ23) fun σ26 => again σ26) P := by
  obtain ⟨j, hj⟩ : ∃ j, σ.1 218 14 = 0 → bdR t n i g sg = some (j, σ.1 231, (σ.1 218 25).toInt.toNat) ∧ RX σ.1 t n j ∧ j ≤ n ∧ 0 ≤ (σ.1 218 25).toInt ∧ (σ.1 218 25).toInt ≤ 24 := by
    by_cases q : σ.1 218 14 = 0
    · obtain ⟨j, z⟩ := hLB.1 q
      exact ⟨j, fun _ => z⟩
    · exact ⟨0, fun z => absurd z q⟩
  refine pt_gC (pt_zb (pt_ok (s_X12_needsSign_r (tx := t) (n := n) (i := j) hN hb.1.1 hb.1.2 hb.2.1 (fun q => (hj q).2.1) (by decide))) (fun _ σ1 h1 => ?_))
  obtain ⟨T1, ⟨K1, _, u1, f1⟩, _, _, _, _, _, _, e25⟩ := h1
  have T1 : Tr [218] σ σ1 := T1
  have K1 : TOK σ1.1 := K1
  have u1 : σ1.1 218 14 = 0 → (σ.1 218 14 = 0 ∧ (σ.1 218 11).toInt < (σ1.1 218 11).toInt) ∧ tkK t n j = 59 ∧ RX σ1.1 t n (tkE t n j) := u1
  have e25 : σ1.1 218 25 = σ.1 218 25 := e25
  have r1 : σ1.1 231 = σ.1 231 := T1.2 231 (by decide)
  have hb1 : RBs σ1 := rb218 hb T1 (by decide) K1 (zb218 hb T1)
  refine pt_gR (v := 231) (hb1.1.1 218 26 rfl) (pt_aI (pt_s14x (fun τ a2 o c2 => ih _ ?_)))
  have o231 : τ.1 231 = upd (σ.1 231) 1 (σ.1 231 1 + 1) := by rw [a2, r1]; rfl
  have K2 : TOK τ.1 := TOK_c K1 (by rw [o 218 (by decide)]) (by rw [o 218 (by decide)]) (by rw [o 218 (by decide)]) (by rw [o 218 (by decide)]) (o 224 (by decide))
  have B2 : ZB τ.1 := fun k hk j => by
    by_cases q : k = 231
    · rw [q] at hk; exact absurd hk (by decide)
    · rw [o k q]; exact hb1.2.2 k hk j
  refine ⟨⟨⟨⟨by rw [c2]; exact hb1.1.1, K2⟩, by rw [o 224 (by decide)]; exact hb1.2.1, B2⟩, (o 224 (by decide)).trans ((T1.2 224 (by decide)).trans h224), (o 220 (by decide)).trans ((T1.2 220 (by decide)).trans h220)⟩, fun q => ?_⟩
  rw [o 218 (by decide)] at q
  obtain ⟨⟨q0, gain⟩, k59, G1⟩ := u1 q
  obtain ⟨eb, _, lej, s25⟩ := hj q0
  obtain ⟨F1, g1, g0⟩ := LI_bd hL eb
  have K6 := K1.1
  have w1 : (σ.1 231 1 + 1).toInt = (σ.1 231 1).toInt + 1 := a1_ (by rw [g1]; omega)
  have g1i := congrArg Int32.toInt g1
  refine ⟨tkE t n j, oL t n i g O, ⟨⟨RX_c (o 218 (by decide)) (o 224 (by decide)) G1, (tk_le lej).2.2⟩, ?_⟩, ?_, ⟨?_, ?_⟩, ?_⟩
  · rw [o231, o 218 (by decide), e25]
    exact hrc.sn (stW_s ((stL_s (c := (i, g, sg)) hk eb).trans (if_pos k59)))
  · rw [o 218 (by decide), e25]; exact s25
  · rw [o231]
    exact LI_1 F1 (nz_of (by omega)) g0
  · rw [o231, upd_s, o 218 (by decide), w1]; omega
  · rw [o231, upd_n (by decide)]
    exact VR_c ((o 232 (by decide)).trans (T1.2 232 (by decide))) (hr q0)
theorem vq_138 {P : Int32 × zS → Prop} (hR : RF σ.2.2) (hB : ZB σ.1) (hP : ∀ τ : zS, (∀ j, j < 10240 → τ.1 220 j = σ.1 232 j) → P (σ.1 219 1, τ)) : Pt (zlp (F_X12_world_138 N 218) N (0, σ)) P := by
  refine pt_lp (fun s : Int32 × zS => ∃ m, (s.1 = nI m ∧ m ≤ 10240) ∧ FG [220] σ s.2 ∧ ∀ j, j < m → s.2.1 220 j = σ.1 232 j) (fun again s hI ih => ?_) N _ ⟨0, ⟨rfl, Nat.zero_le _⟩, FG.rf, fun j hj => absurd hj (Nat.not_lt_zero _)⟩
  obtain ⟨x1, τ⟩ := s
  obtain ⟨m, ⟨ex, hm⟩, hf, hj⟩ := hI
  have ex : x1 = nI m := ex
  subst ex
  have hf : FG [220] σ τ := hf
  have hj : ∀ j, j < m → τ.1 220 j = σ.1 232 j := hj
  have R9 := hf.R hR
  have e1 : (nI m).toInt = (m : Int) := nI_toInt (by omega)
  rw [F_X12_world_138.eq_1]
  refine pt_if (fun q => ?_) (fun q => ?_)
  · rw [Int32.le_iff_toInt_le, e1] at q
    simp only [Int32.reduceToInt] at q
    refine pt_gR (v := 219) (R9 218 1 rfl) (pt_aI (pt_some ?_))
    rw [hf.2 219 (by decide)]
    exact hP τ (fun j h => hj j (by omega))
  · rw [Int32.le_iff_toInt_le, e1] at q
    simp only [Int32.reduceToInt] at q
    refine pt_gR (v := 220) (R9 218 2 rfl) (pt_gR (v := 232) (R9 218 27 rfl) (pt_aI (pt_s16 ?_)))
    rw [iNb (by omega), nI_m1, hf.2 232 (by decide), nrz (hB 232 rfl m)]
    refine ih (nI (m + 1), _) ⟨m + 1, ⟨rfl, by omega⟩, hf.u (by decide), fun j h => ?_⟩
    show (zI τ 220 _).1 220 j = _
    rw [zI_s, upd_i]
    by_cases e : j = m
    · rw [if_pos e, e]
    · rw [if_neg e]; exact hj j (by omega)
theorem vq_112 {P : Int32 × zS → Prop} (hR : RF σ.2.2) (hB : ZB σ.1) (hP : ∀ (v : Int32) (τ : zS), (∀ j, j < 10240 → τ.1 220 j = σ.1 232 j) → P (v, τ)) : Pt (zlp (F_X12_world_112 N 218) N (0, σ)) P := by
  refine pt_lp (fun s : Int32 × zS => s.2.2 = σ.2 ∧ ∀ a, a ≠ 219 → s.2.1 a = σ.1 a) (fun again s hI ih => ?_) N _ ⟨rfl, fun _ _ => rfl⟩
  obtain ⟨x1, τ⟩ := s
  obtain ⟨e, ho⟩ := hI
  have e : τ.2 = σ.2 := e
  have ho : ∀ a, a ≠ 219 → τ.1 a = σ.1 a := ho
  have R9 : RF τ.2.2 := by rw [e]; exact hR
  have B9 : ZB τ.1 := fun k hk j => by
    by_cases q : k = 219
    · rw [q] at hk; exact absurd hk (by decide)
    · rw [ho k q]; exact hB k hk j
  rw [F_X12_world_112.eq_1]
  refine pt_if (fun _ => vq_138 R9 B9 (fun υ hυ => hP _ υ (fun j h => by rw [hυ j h, ho 232 (by decide)]))) (fun _ => ?_)
  refine pt_gR (v := 219) (R9 218 1 rfl) (pt_gR (v := 231) (R9 218 26 rfl) (pt_aI (pt_s14x (fun υ _ b c => ih (x1 + 1, υ) ⟨c.trans e, fun a ha => (b a ha).trans (ho a ha)⟩))))
theorem vq_100 {G U : Nat → Int32} (hI : RWV t n G U σ) (hk : σ.1 218 14 = 0 → σ.1 218 12 = 0) : Pt (J_X12_world_100 N 218 σ) (RYQ t n G U) := by
  rw [J_X12_world_100.eq_1]
  refine pt_gC (pt_zbq vr_good (fun v hv => pt_if (fun z => pt_some (Or.inl ⟨rfl, hI.1.2.2⟩)) (fun z => ?_)))
  have q := hv.2 z
  obtain ⟨i, O, ⟨⟨hG, le⟩, rc⟩, _, _, hV⟩ := hI.2 q
  have k0 : tkK t n i = 0 := hG.2.2.1.symm.trans (hk q)
  refine vq_112 hI.1.1.1.1 hI.1.1.2.2 (fun w τ hτ => Or.inr ⟨_, O, ⟨rc, stL_e (c := (i, σ.1 231, (σ.1 218 25).toInt.toNat)) k0⟩, fun p hp u hu => ?_⟩)
  have := hV p hp u hu
  unfold rb at this ⊢
  rw [show (w, τ).2.1 220 (1024 * p + u) = σ.1 232 (1024 * p + u) from hτ _ (by omega)]
  exact this
theorem lnR_0 {i j sg sg' : Nat} {g g' : Nat → Int32} (hL : LI g) (h : lnR t n i g sg = some (j, g', sg')) : g' 0 = g 0 := by
  by_cases w12 : isW t n i 12
  · rw [lnR_w w12] at h; exact (LI_wt hL h).2.2
  · by_cases w13 : isW t n i 13
    · by_cases e2 : g 2 = g 0
      · rw [lnR_m w12 w13 e2] at h; cases h
      · rw [lnR_e w12 w13 e2] at h; exact (LI_ed hL e2 h).2.2
    · by_cases w14 : isW t n i 14
      · rw [lnR_l w12 w13 w14] at h
        obtain ⟨p, hp, e⟩ := Option.map_eq_some_iff.mp h
        have eg : g = g' := congrArg (fun z : LC => z.2.1) e
        rw [← eg]
      · rw [lnR_z w12 w13 w14] at h; cases h
theorem vq_47 {G U : Nat → Int32} (hN : 1048576 ≤ N) (h6 : n ≤ 600) (hG0 : ∀ j, j < 43 → G j = 0) (hI : RWV t n G U σ) : Pt (zlp (F_X12_world_47 N 218) N σ) (RYQ t n G U) := by
  refine pt_lp (fun τ : zS => RWV t n G U τ) (fun again τ hI ih => ?_) N _ hI
  rw [F_X12_world_47.eq_1]
  refine pt_gC (pt_zbq vr_good (fun v hv => pt_if (fun z => vq_100 hI (fun y => absurd y (hv.1 z))) (fun z => ?_)))
  have q := hv.2 z
  refine pt_gI (pt_if (fun k => vq_100 hI (fun _ => k)) (fun k => ?_))
  obtain ⟨⟨hb, h224, h220⟩, hg⟩ := hI
  obtain ⟨i, O, ⟨⟨hG, le⟩, rc⟩, s25, ⟨hL, hl⟩, hV⟩ := hg q
  have k0 : ¬ tkK t n i = 0 := fun y => k (hG.2.2.1.trans y)
  have H := HW_R h6 (HW_0 (n := n) hG0) rc
  have VWg : (τ.1 231 1 = 0 → O = []) ∧ vds (2 ^ (τ.1 231 0).toInt.toNat) O 0 ∧ hts O 0 = 0 := H.2.2
  obtain ⟨hR, hK⟩ := hb.1
  have hYr := hb.2.1
  have hB := hb.2.2
  refine pt_gR (v := 231) (hR 218 26 rfl) (pt_aI ?_)
  have z1 : (Int32.toInt 1).toNat = 1 := rfl
  rw [z1]
  refine pt_if (fun e => ?_) (fun e => ?_)
  · refine pt_gC (pt_zb (pt_and (pt_ok (s_X12_readsNames hN hR hK hYr hL.1 (hL.2.1 e).2)) (vr_readsNames (t := t) (n := n) (i := i) hN hR hK hYr hG q le s25)) (fun _ σ1 h1 => ?_))
    obtain ⟨⟨T1, ⟨K1, m1, _⟩, _⟩, b1⟩ := h1
    have T1 : Tr [218, 231] τ σ1 := T1
    have m1 : (τ.1 218 11).toInt ≤ (σ1.1 218 11).toInt := m1
    have hb1 : RBs σ1 := rb218 hb T1 (by decide) K1 (ZB.tr T1 (by decide) hB)
    have eb : bdR t n i (τ.1 231) (τ.1 218 25).toInt.toNat = nmR t n i (τ.1 231) (τ.1 218 25).toInt.toNat := if_pos e
    have eO : O = [] := VWg.1 e
    refine vq_tail (i := i) hN hb1 ((T1.2 224 (by decide)).trans h224) ((T1.2 220 (by decide)).trans h220) rc k0 hL (by omega) (by rw [eb]; exact b1) (fun _ => ?_) ih
    rw [oL_n (Or.inl e), eO]
    rw [eO] at hV
    exact fun p hp u hu => VR_c (T1.2 232 (by decide)) hV p hp u hu
  · have h0b := hL.1.1.1
    obtain ⟨kk, hkk, ek⟩ := znI (x := τ.1 231 0) (m := 11) h0b.1 (by omega)
    have VW2 : vds (2 ^ kk) O 0 ∧ hts O 0 = 0 := by
      have := VWg.2
      rw [ek, iN (by omega)] at this
      exact this
    have hV2 : VR τ kk O := by
      rw [ek, iN (by omega)] at hV
      exact hV
    refine pt_gC (pt_zb (pt_and (pt_ok (s_X12_readsLine hN hR hK hYr hB hL.1 q)) (pt_and (vr_readsLine (t := t) (n := n) (i := i) hN hR hK hYr hB hG q le s25 hL.1) (vq_readsLine (t := t) (n := n) (i := i) (g := τ.1 231) hN (by omega) hb VW2.1 VW2.2 hG q le hL.1 rfl ek e hV2))) (fun _ σ1 h1 => ?_))
    obtain ⟨⟨T1, ⟨K1, m1, _, _, B1⟩, _⟩, b1, v1⟩ := h1
    have T1 : Tr [218, 226, 227, 228, 229, 230, 231, 232] τ σ1 := T1
    have m1 : (τ.1 218 11).toInt ≤ (σ1.1 218 11).toInt := m1
    have b1 : LB t n (lnR t n i (τ.1 231) (τ.1 218 25).toInt.toNat) σ1.1 := b1
    have v1 : σ1.1 218 14 = 0 → VR σ1 kk (oL t n i (τ.1 231) O) := v1
    have hb1 : RBs σ1 := rb218 hb T1 (by decide) K1 B1
    have eb : bdR t n i (τ.1 231) (τ.1 218 25).toInt.toNat = lnR t n i (τ.1 231) (τ.1 218 25).toInt.toNat := if_neg e
    refine vq_tail (i := i) hN hb1 ((T1.2 224 (by decide)).trans h224) ((T1.2 220 (by decide)).trans h220) rc k0 hL (by omega) (by rw [eb]; exact b1) (fun y => ?_) ih
    obtain ⟨j, ej, _⟩ := b1.1 y
    rw [lnR_0 hL ej, ek, iN (by omega)]
    exact v1 y
theorem vq_27 {P : Int32 × zS → Prop} (hR : RF σ.2.2) (hB : ZB σ.1) (hP : ∀ τ : zS, τ.2.2 = σ.2.2 → ZB τ.1 → (∀ k, k ≠ 232 → τ.1 k = σ.1 k) → (∀ j, j < 10240 → τ.1 232 j = 0) → Pt (zlp (F_X12_world_47 N 218) N τ) P) : Pt (zlp (F_X12_world_27 N 218) N (0, σ)) P := by
  refine pt_lp (fun s : Int32 × zS => ∃ m, (s.1 = nI m ∧ m ≤ 10240) ∧ s.2.2.2 = σ.2.2 ∧ ZB s.2.1 ∧ (∀ k, k ≠ 232 → s.2.1 k = σ.1 k) ∧ ∀ j, j < m → s.2.1 232 j = 0) (fun again s hI ih => ?_) N _ ⟨0, ⟨rfl, Nat.zero_le _⟩, rfl, hB, fun _ _ => rfl, fun j hj => absurd hj (Nat.not_lt_zero _)⟩
  obtain ⟨x1, τ⟩ := s
  obtain ⟨m, ⟨ex, hm⟩, hr, hZ, ho, hj⟩ := hI
  have ex : x1 = nI m := ex
  subst ex
  have hr : τ.2.2 = σ.2.2 := hr
  have hZ : ZB τ.1 := hZ
  have ho : ∀ k, k ≠ 232 → τ.1 k = σ.1 k := ho
  have hj : ∀ j, j < m → τ.1 232 j = 0 := hj
  have e1 : (nI m).toInt = (m : Int) := nI_toInt (by omega)
  rw [F_X12_world_27.eq_1]
  refine pt_if (fun q => hP τ hr hZ ho (fun j h => hj j ?_)) (fun q => ?_)
  · rw [Int32.le_iff_toInt_le, e1] at q
    simp only [Int32.reduceToInt] at q
    omega
  · rw [Int32.le_iff_toInt_le, e1] at q
    simp only [Int32.reduceToInt] at q
    refine pt_gR (v := 232) (by rw [hr]; exact hR 218 27 rfl) (pt_s16 ?_)
    rw [iNb (by omega), nI_m1]
    refine ih (nI (m + 1), _) ⟨m + 1, ⟨rfl, by omega⟩, hr, ZB_s rfl hZ, fun k hk => (zI_n hk).trans (ho k hk), fun j h => ?_⟩
    show (zI τ 232 _).1 232 j = 0
    rw [zI_s, upd_i]
    by_cases e : j = m
    · rw [if_pos e]; exact nz1.1
    · rw [if_neg e]; exact hj j (by omega)
theorem vq_world (hN : 1048576 ≤ N) (hR : RF σ.2.2) (hB : ZB σ.1) (hp : 0 ≤ (σ.1 218 7).toInt ∧ (σ.1 218 7).toInt ≤ 600) (hY : BYT (σ.1 224)) : Pt (f_X12_world N 218 σ) (fun r => ∃ G, (∀ j, j < 43 → G j = 0) ∧ (RWQ (σ.1 224) (σ.1 218 7).toInt.toNat G (σ.1 219) r ∧ RYQ (σ.1 224) (σ.1 218 7).toInt.toNat G (σ.1 220) r)) := by
  rw [f_X12_world.eq_1]
  refine pt_gC (pt_zb (pt_and (pt_ok (s_X12_begins hN hR hp hY)) (vr_begins hN hR hp hY)) (fun _ σ1 h1 => ?_))
  obtain ⟨⟨T1, ⟨K1, g1, e25, _⟩, _⟩, G1⟩ := h1
  have T1 : Tr [218] σ σ1 := T1
  have K1 : TOK σ1.1 := K1
  have g1 : σ1.1 218 14 = 0 := g1
  have e25 : σ1.1 218 25 = 0 := e25
  have G1 : RX σ1.1 (σ.1 224) (σ.1 218 7).toInt.toNat 0 := G1
  have R1 := hR.tr T1
  refine vw_6 R1 (fun σ2 r2 o2 z2 => vq_27 (by rw [r2]; exact R1) ?_ (fun σ3 r3 B3 o3 z3 => ?_))
  · intro k hk j
    by_cases q : k = 231
    · rw [q] at hk; exact absurd hk (by decide)
    · rw [o2 k q]; exact (ZB.tr T1 (by decide) hB) k hk j
  · have e218 : σ3.1 218 = σ1.1 218 := (o3 218 (by decide)).trans (o2 218 (by decide))
    have e224 : σ3.1 224 = σ1.1 224 := (o3 224 (by decide)).trans (o2 224 (by decide))
    have e220 : σ3.1 220 = σ.1 220 := ((o3 220 (by decide)).trans (o2 220 (by decide))).trans (T1.2 220 (by decide))
    have e231 : ∀ j, j < 43 → σ3.1 231 j = 0 := fun j hj => by rw [o3 231 (by decide)]; exact z2 j hj
    have z : (0 : Int32).toInt = 0 := rfl
    have K6 := K1.1
    have t224 : σ3.1 224 = σ.1 224 := e224.trans (T1.2 224 (by decide))
    have K3 : TOK σ3.1 := TOK_c K1 (by rw [e218]) (by rw [e218]) (by rw [e218]) (by rw [e218]) e224
    have R3 : RF σ3.2.2 := by rw [r3, r2]; exact R1
    have hb3 : RBs σ3 := ⟨⟨R3, K3⟩, by rw [t224]; exact hY, B3⟩
    have lq : 0 ≤ (σ3.1 231 1).toInt ∧ (σ3.1 231 1).toInt ≤ (σ3.1 218 11).toInt := by rw [e231 1 (by decide), e218, z]; omega
    have sq : 0 ≤ (σ3.1 218 25).toInt ∧ (σ3.1 218 25).toInt ≤ 24 := by rw [e218, e25]; decide
    have s0 : (σ3.1 218 25).toInt.toNat = 0 := by rw [e218, e25]; rfl
    refine pt_w (pt_and (vw_47 (t := σ.1 224) (n := (σ.1 218 7).toInt.toNat) (G := σ3.1 231) (W := σ.1 219) hN hY ⟨⟨⟨R3, K3⟩, ⟨t224, B3⟩, ((o3 219 (by decide)).trans (o2 219 (by decide))).trans (T1.2 219 (by decide))⟩, fun _ => ⟨0, ⟨⟨RX_c e218 e224 G1, Nat.zero_le _⟩, by rw [s0]; exact Rc.rf⟩, sq, LI_0 e231, lq⟩, fun q => absurd (by rw [e218]; exact g1) q⟩) (vq_47 (t := σ.1 224) (n := (σ.1 218 7).toInt.toNat) (G := σ3.1 231) (U := σ.1 220) hN (by omega) e231 ⟨⟨hb3, t224, e220⟩, fun _ => ⟨0, [], ⟨⟨RX_c e218 e224 G1, Nat.zero_le _⟩, by rw [s0]; exact Rc.rf⟩, sq, ⟨LI_0 e231, lq⟩, fun p hp u hu => ?_⟩⟩)) (fun r h => ⟨σ3.1 231, e231, h⟩)
    show rb (σ3.1 232) (1024 * p) u = false
    rw [rb_f]
    exact z3 _ (by omega)
end RWV2

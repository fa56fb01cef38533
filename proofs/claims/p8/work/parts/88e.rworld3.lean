section RWORLD2
variable {N : Nat} {σ : zS} {t : Nat → Int32} {n : Nat}
/-- what world() of the reference answers: -4 at a fault, else the row of the last line -/
def RWQ (t : Nat → Int32) (n : Nat) (G W : Nat → Int32) (r : Int32 × zS) : Prop := (r.1 = -4 ∧ r.2.1 219 = W ∧ ∃ d, Rc (stL t n) (0, G, 0) d ∧ stL t n d = none) ∨ (∃ d, (Rc (stL t n) (0, G, 0) d ∧ stL t n d = some none) ∧ (r.1 = d.2.1 1 ∧ LI d.2.1) ∧ ∀ j, j < 43 → r.2.1 219 j = d.2.1 j)
theorem vw_138 {P : Int32 × zS → Prop} (hR : RF σ.2.2) (hP : ∀ τ : zS, (∀ k, k ≠ 220 → τ.1 k = σ.1 k) → P (σ.1 219 1, τ)) : Pt (zlp (F_X12_world_138 N 218) N (0, σ)) P := by
  refine pt_lp (fun s : Int32 × zS => s.2.2.2 = σ.2.2 ∧ ∀ k, k ≠ 220 → s.2.1 k = σ.1 k) (fun again s hI ih => ?_) N _ ⟨rfl, fun _ _ => rfl⟩
  obtain ⟨x1, τ⟩ := s
  obtain ⟨hr, ho⟩ := hI
  have hr : τ.2.2 = σ.2.2 := hr
  have ho : ∀ k, k ≠ 220 → τ.1 k = σ.1 k := ho
  have R9 : RF τ.2.2 := by rw [hr]; exact hR
  rw [F_X12_world_138.eq_1]
  refine pt_if (fun _ => ?_) (fun _ => ?_)
  · refine pt_gR (v := 219) (R9 218 1 rfl) (pt_aI (pt_some ?_))
    rw [ho 219 (by decide)]
    exact hP τ ho
  · refine pt_gR (v := 220) (R9 218 2 rfl) (pt_gR (v := 232) (R9 218 27 rfl) (pt_aI (pt_s16 ?_)))
    refine ih (x1 + 1, _) ⟨hr, fun k hk => ?_⟩
    exact (zI_n hk).trans (ho k hk)
theorem vw_112 {P : Int32 × zS → Prop} (hR : RF σ.2.2) (hP : ∀ τ : zS, (∀ j, j < 43 → τ.1 219 j = σ.1 231 j) → P (σ.1 231 1, τ)) : Pt (zlp (F_X12_world_112 N 218) N (0, σ)) P := by
  refine pt_lp (fun s : Int32 × zS => (0 ≤ s.1.toInt ∧ s.1.toInt ≤ 43) ∧ s.2.2.2 = σ.2.2 ∧ s.2.1 231 = σ.1 231 ∧ ∀ j : Nat, (j : Int) < s.1.toInt → s.2.1 219 j = σ.1 231 j) (fun again s hI ih => ?_) N _ ⟨(by decide : 0 ≤ (0 : Int32).toInt ∧ (0 : Int32).toInt ≤ 43), rfl, rfl, fun j hj => absurd hj (by show ¬ (j : Int) < (0 : Int32).toInt; simp only [Int32.reduceToInt]; omega)⟩
  obtain ⟨x1, τ⟩ := s
  obtain ⟨hb, hr, ho, hj⟩ := hI
  have hb : 0 ≤ x1.toInt ∧ x1.toInt ≤ 43 := hb
  have hr : τ.2.2 = σ.2.2 := hr
  have ho : τ.1 231 = σ.1 231 := ho
  have hj : ∀ j : Nat, (j : Int) < x1.toInt → τ.1 219 j = σ.1 231 j := hj
  have R9 : RF τ.2.2 := by rw [hr]; exact hR
  rw [F_X12_world_112.eq_1]
  refine pt_if (fun q => ?_) (fun q => ?_)
  · rw [Int32.le_iff_toInt_le] at q
    simp only [Int32.reduceToInt] at q
    refine vw_138 R9 (fun υ hυ => ?_)
    rw [hj 1 (by omega)]
    exact hP υ (fun j h => by rw [hυ 219 (by decide)]; exact hj j (by omega))
  · rw [Int32.le_iff_toInt_le] at q
    simp only [Int32.reduceToInt] at q
    have hw : 0 ≤ x1.toInt ∧ x1.toInt ≤ 100000 := by omega
    have hx1 : 0 ≤ (x1 + 1).toInt ∧ (x1 + 1).toInt ≤ 43 := by rw [a1_ hw]; omega
    refine pt_gR (v := 219) (R9 218 1 rfl) (pt_gR (v := 231) (R9 218 26 rfl) (pt_aI (pt_s14 ?_)))
    refine ih (x1 + 1, _) ⟨hx1, hr, (zI_n (by decide)).trans ho, fun j h => ?_⟩
    have h : (j : Int) < (x1 + 1).toInt := h
    rw [a1_ hw] at h
    show (zI τ 219 _).1 219 j = _
    rw [zI_s, upd_i]
    by_cases e : j = x1.toInt.toNat
    · rw [if_pos e, ho, e]
    · rw [if_neg e]; exact hj j (by omega)
theorem vw_100 {G W : Nat → Int32} (hI : RWI t n G W σ) (hk : σ.1 218 14 = 0 → σ.1 218 12 = 0) : Pt (J_X12_world_100 N 218 σ) (RWQ t n G W) := by
  rw [J_X12_world_100.eq_1]
  refine pt_gC (pt_zbX (Q := fun v => (v = 0 → ¬ σ.1 218 14 = 0) ∧ (¬ v = 0 → σ.1 218 14 = 0)) (pt_ok x_X12_good) (fun v hv => ?_))
  refine pt_if (fun z => pt_some (Or.inl ⟨rfl, hI.1.2.2, hI.2.2 (hv.1 z)⟩)) (fun z => ?_)
  have q := hv.2 z
  obtain ⟨i, ⟨⟨hG, le⟩, rc⟩, _, hL, _⟩ := hI.2.1 q
  have k0 : tkK t n i = 0 := hG.2.2.1.symm.trans (hk q)
  refine vw_112 hI.1.1.1 (fun τ hτ => Or.inr ⟨_, ⟨rc, stL_e k0⟩, ⟨rfl, hL⟩, hτ⟩)
theorem vw_47 {G W : Nat → Int32} (hN : 1048576 ≤ N) (hY : BYT t) (hI : RWI t n G W σ) : Pt (zlp (F_X12_world_47 N 218) N σ) (RWQ t n G W) := by
  refine pt_lp (fun τ : zS => RWI t n G W τ) (fun again τ hI ih => ?_) N _ hI
  rw [F_X12_world_47.eq_1]
  refine pt_gC (pt_zbX (Q := fun v => (v = 0 → ¬ τ.1 218 14 = 0) ∧ (¬ v = 0 → τ.1 218 14 = 0)) (pt_ok x_X12_good) (fun v hv => ?_))
  refine pt_if (fun z => vw_100 hI (fun y => absurd y (hv.1 z))) (fun z => ?_)
  have q := hv.2 z
  refine pt_gI (pt_if (fun k => vw_100 hI (fun _ => k)) (fun k => ?_))
  have hI0 := hI
  obtain ⟨⟨⟨hR, hK⟩, ⟨h224, hB⟩, h219⟩, hg, _⟩ := hI
  obtain ⟨i, ⟨⟨hG, le⟩, rc⟩, s25, hL, hl⟩ := hg q
  have k0 : ¬ tkK t n i = 0 := fun y => k (hG.2.2.1.trans y)
  have hYr : BYT (τ.1 224) := by rw [h224]; exact hY
  refine pt_gR (v := 231) (hR 218 26 rfl) (pt_aI ?_)
  have z1 : (Int32.toInt 1).toNat = 1 := rfl
  rw [z1]
  refine pt_if (fun e => ?_) (fun e => ?_)
  · refine pt_gC (pt_zb (pt_and (pt_ok (s_X12_readsNames hN hR hK hYr hL.1 (hL.2.1 e).2)) (vr_readsNames (t := t) (n := n) (i := i) hN hR hK hYr hG q le s25)) (fun _ σ1 h1 => ?_))
    obtain ⟨⟨T1, ⟨K1, m1, _⟩, _⟩, b1⟩ := h1
    have T1 : Tr [218, 231] τ σ1 := T1
    have m1 : (τ.1 218 11).toInt ≤ (σ1.1 218 11).toInt := m1
    have eb : bdR t n i (τ.1 231) (τ.1 218 25).toInt.toNat = nmR t n i (τ.1 231) (τ.1 218 25).toInt.toNat := if_pos e
    exact vr_tail (i := i) hN hY (hR.tr T1) K1 ((T1.2 224 (by decide)).trans h224) (ZB.tr T1 (by decide) hB) ((T1.2 219 (by decide)).trans h219) rc k0 hL (by omega) (by rw [eb]; exact b1) ih
  · refine pt_gC (pt_zb (pt_and (pt_ok (s_X12_readsLine hN hR hK hYr hB hL.1 q)) (vr_readsLine (t := t) (n := n) (i := i) hN hR hK hYr hB hG q le s25 hL.1)) (fun _ σ1 h1 => ?_))
    obtain ⟨⟨T1, ⟨K1, m1, _, _, B1⟩, _⟩, b1⟩ := h1
    have T1 : Tr [218, 226, 227, 228, 229, 230, 231, 232] τ σ1 := T1
    have m1 : (τ.1 218 11).toInt ≤ (σ1.1 218 11).toInt := m1
    have eb : bdR t n i (τ.1 231) (τ.1 218 25).toInt.toNat = lnR t n i (τ.1 231) (τ.1 218 25).toInt.toNat := if_neg e
    exact vr_tail (i := i) hN hY (hR.tr T1) K1 ((T1.2 224 (by decide)).trans h224) B1 ((T1.2 219 (by decide)).trans h219) rc k0 hL (by omega) (by rw [eb]; exact b1) ih
theorem vw_27 {P : Int32 × zS → Prop} (hR : RF σ.2.2) (hB : ZB σ.1) (hP : ∀ τ : zS, τ.2.2 = σ.2.2 → ZB τ.1 → (∀ k, k ≠ 232 → τ.1 k = σ.1 k) → Pt (zlp (F_X12_world_47 N 218) N τ) P) : Pt (zlp (F_X12_world_27 N 218) N (0, σ)) P := by
  refine pt_lp (fun s : Int32 × zS => s.2.2.2 = σ.2.2 ∧ ZB s.2.1 ∧ ∀ k, k ≠ 232 → s.2.1 k = σ.1 k) (fun again s hI ih => ?_) N _ ⟨rfl, hB, fun _ _ => rfl⟩
  obtain ⟨x1, τ⟩ := s
  obtain ⟨hr, hZ, ho⟩ := hI
  have hr : τ.2.2 = σ.2.2 := hr
  have hZ : ZB τ.1 := hZ
  have ho : ∀ k, k ≠ 232 → τ.1 k = σ.1 k := ho
  rw [F_X12_world_27.eq_1]
  refine pt_if (fun _ => hP τ hr hZ ho) (fun _ => ?_)
  refine pt_gR (v := 232) (by rw [hr]; exact hR 218 27 rfl) (pt_s16 ?_)
  refine ih (x1 + 1, _) ⟨hr, ZB_s rfl hZ, fun k hk => ?_⟩
  exact (zI_n hk).trans (ho k hk)
theorem vw_6 {P : Int32 × zS → Prop} (hR : RF σ.2.2) (hP : ∀ τ : zS, τ.2.2 = σ.2.2 → (∀ k, k ≠ 231 → τ.1 k = σ.1 k) → (∀ j, j < 43 → τ.1 231 j = 0) → Pt (zlp (F_X12_world_27 N 218) N (0, τ)) P) : Pt (zlp (F_X12_world_6 N 218) N (0, σ)) P := by
  refine pt_lp (fun s : Int32 × zS => (0 ≤ s.1.toInt ∧ s.1.toInt ≤ 43) ∧ s.2.2.2 = σ.2.2 ∧ (∀ k, k ≠ 231 → s.2.1 k = σ.1 k) ∧ ∀ j : Nat, (j : Int) < s.1.toInt → s.2.1 231 j = 0) (fun again s hI ih => ?_) N _ ⟨(by decide : 0 ≤ (0 : Int32).toInt ∧ (0 : Int32).toInt ≤ 43), rfl, fun _ _ => rfl, fun j hj => absurd hj (by show ¬ (j : Int) < (0 : Int32).toInt; simp only [Int32.reduceToInt]; omega)⟩
  obtain ⟨x1, τ⟩ := s
  obtain ⟨hb, hr, ho, hj⟩ := hI
  have hb : 0 ≤ x1.toInt ∧ x1.toInt ≤ 43 := hb
  have hr : τ.2.2 = σ.2.2 := hr
  have ho : ∀ k, k ≠ 231 → τ.1 k = σ.1 k := ho
  have hj : ∀ j : Nat, (j : Int) < x1.toInt → τ.1 231 j = 0 := hj
  rw [F_X12_world_6.eq_1]
  refine pt_if (fun q => ?_) (fun q => ?_)
  · rw [Int32.le_iff_toInt_le] at q
    simp only [Int32.reduceToInt] at q
    exact hP τ hr ho (fun j h => hj j (by omega))
  · rw [Int32.le_iff_toInt_le] at q
    simp only [Int32.reduceToInt] at q
    have hw : 0 ≤ x1.toInt ∧ x1.toInt ≤ 100000 := by omega
    have hx1 : 0 ≤ (x1 + 1).toInt ∧ (x1 + 1).toInt ≤ 43 := by rw [a1_ hw]; omega
    refine pt_gR (v := 231) (by rw [hr]; exact hR 218 26 rfl) (pt_s14 ?_)
    refine ih (x1 + 1, _) ⟨hx1, hr, fun k hk => (zI_n hk).trans (ho k hk), fun j h => ?_⟩
    have h : (j : Int) < (x1 + 1).toInt := h
    rw [a1_ hw] at h
    show (zI τ 231 _).1 231 j = _
    rw [zI_s, upd_i]
    by_cases e : j = x1.toInt.toNat
    · rw [if_pos e]
    · rw [if_neg e]; exact hj j (by omega)
theorem vr_world (hN : 1048576 ≤ N) (hR : RF σ.2.2) (hB : ZB σ.1) (hp : 0 ≤ (σ.1 218 7).toInt ∧ (σ.1 218 7).toInt ≤ 600) (hY : BYT (σ.1 224)) : Pt (f_X12_world N 218 σ) (fun r => ∃ G, (∀ j, j < 43 → G j = 0) ∧ RWQ (σ.1 224) (σ.1 218 7).toInt.toNat G (σ.1 219) r) := by
  rw [f_X12_world.eq_1]
  refine pt_gC (pt_zb (pt_and (pt_ok (s_X12_begins hN hR hp hY)) (vr_begins hN hR hp hY)) (fun _ σ1 h1 => ?_))
  obtain ⟨⟨T1, ⟨K1, g1, e25, _⟩, _⟩, G1⟩ := h1
  have T1 : Tr [218] σ σ1 := T1
  have K1 : TOK σ1.1 := K1
  have g1 : σ1.1 218 14 = 0 := g1
  have e25 : σ1.1 218 25 = 0 := e25
  have G1 : RX σ1.1 (σ.1 224) (σ.1 218 7).toInt.toNat 0 := G1
  have R1 := hR.tr T1
  refine vw_6 R1 (fun σ2 r2 o2 z2 => vw_27 (by rw [r2]; exact R1) ?_ (fun σ3 r3 B3 o3 => ?_))
  · intro k hk j
    by_cases q : k = 231
    · rw [q] at hk; exact absurd hk (by decide)
    · rw [o2 k q]; exact (ZB.tr T1 (by decide) hB) k hk j
  · have e218 : σ3.1 218 = σ1.1 218 := (o3 218 (by decide)).trans (o2 218 (by decide))
    have e224 : σ3.1 224 = σ1.1 224 := (o3 224 (by decide)).trans (o2 224 (by decide))
    have e231 : ∀ j, j < 43 → σ3.1 231 j = 0 := fun j hj => by rw [o3 231 (by decide)]; exact z2 j hj
    have z : (0 : Int32).toInt = 0 := rfl
    have K6 := K1.1
    refine pt_w (vw_47 (t := σ.1 224) (n := (σ.1 218 7).toInt.toNat) (G := σ3.1 231) (W := σ.1 219) hN hY ⟨⟨⟨by rw [r3, r2]; exact R1, TOK_c K1 (by rw [e218]) (by rw [e218]) (by rw [e218]) (by rw [e218]) e224⟩, ⟨e224.trans (T1.2 224 (by decide)), B3⟩, ((o3 219 (by decide)).trans (o2 219 (by decide))).trans (T1.2 219 (by decide))⟩, fun _ => ⟨0, ⟨⟨RX_c e218 e224 G1, Nat.zero_le _⟩, ?_⟩, ?_, LI_0 e231, ?_⟩, fun q => absurd (by rw [e218]; exact g1) q⟩) (fun r h => ⟨σ3.1 231, e231, h⟩)
    · rw [e218, e25]; exact Rc.rf
    · rw [e218, e25]; decide
    · rw [e231 1 (by decide), e218, z]; omega
end RWORLD2

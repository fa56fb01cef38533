/-! ===== map of the reference; cuts of both ===== -/
section MAPC
variable {N B m n : Nat} {σ τ : zS} {P Q : Nat → Nat} {x1 x2 x3 : Int32}
theorem vr_map (hR : RF σ.2.2) (hn : 0 ≤ (σ.1 219 0).toInt ∧ (σ.1 219 0).toInt ≤ 10) (hE : EdR σ m P Q) : Pt (f_X12_map N 218 x1 x2 σ) (fun r => (mpC (σ.1 219 0) x1 x2 → RM σ r.2 r.1 x1.toInt.toNat (fun u => u < 2 ^ m ∧ OnR m P Q x2 u)) ∧ (¬ mpC (σ.1 219 0) x1 x2 → r.1 = -2 ∧ r.2.1 220 = σ.1 220)) := by
  have m10 := hE.1.2
  have pm := p2le m10
  rw [f_X12_map.eq_1]
  refine pt_gC (pt_zbq (vr_isRegister hR) (fun v hv => pt_if (fun q => pt_some ⟨fun z => absurd z.1 (hv.1 q), fun _ => ⟨rfl, rfl⟩⟩) (fun q1 => ?_)))
  have r1 := hv.2 q1
  refine pt_zbq vr_in (fun v2 hv2 => ?_)
  rw [i64_of] at hv2
  simp only [Int64.reduceToInt] at hv2
  refine pt_if (fun q => pt_some ⟨fun z => absurd z.2 (hv2.1 q), fun _ => ⟨rfl, rfl⟩⟩) (fun q2 => ?_)
  have hw := hv2.2 q2
  obtain ⟨p, hp, rfl⟩ := isR_n r1
  rw [iN (m := p) (by omega)]
  refine pt_gC (pt_zbq (vk_cross hR hE) (fun v5 h5 => ?_))
  subst h5
  refine pt_lp (fun y : Int32 × zS => ∃ l, (y.1 = nI l ∧ l ≤ 1024) ∧ FG [227, 238] σ y.2 ∧ Md 227 y.2 l (fun u => u < 2 ^ m ∧ OnR m P Q x2 u)) (fun again y hI ih => ?_) N _ ⟨0, ⟨rfl, Nat.zero_le _⟩, FG.rf, fun u hu => absurd hu (Nat.not_lt_zero _)⟩
  obtain ⟨x4, τ⟩ := y
  obtain ⟨l, ⟨ex, hl⟩, hf, hm⟩ := hI
  have ex : x4 = nI l := ex
  subst ex
  have hf : FG [227, 238] σ τ := hf
  have hm : Md 227 τ l (fun u => u < 2 ^ m ∧ OnR m P Q x2 u) := hm
  have R9 := hf.R hR
  have e19 : τ.1 219 = σ.1 219 := hf.2 219 (by decide)
  have e20 : τ.1 220 = σ.1 220 := hf.2 220 (by decide)
  have E9 : EdR τ m P Q := EdR_c e19 hE
  rw [F_X12_map_31.eq_1]
  refine pt_if (fun q => ?_) (fun q => ?_)
  · have q : nI 1024 ≤ nI l := q
    rw [nlt (by omega) (by omega)] at q
    rw [show l = 1024 by omega] at hm
    refine pt_gC (pt_zb (vr_lays R9 (by rw [e19]; exact hn) hp hm) (fun w σ2 h2 => pt_some ⟨fun _ => ?_, fun z => absurd ⟨r1, by omega, by omega⟩ z⟩))
    obtain ⟨_, a, b, d⟩ := h2
    exact ⟨a, fun k hk => (b k hk).trans (congrFun e20 k), by rw [← e19]; exact d⟩
  have q : ¬ nI 1024 ≤ nI l := q
  rw [nlt (by omega) (by omega)] at q
  have put : ∀ (τ2 : zS) (v : Int32), FG [227, 238] σ τ2 → Md 227 τ2 l (fun u => u < 2 ^ m ∧ OnR m P Q x2 u) → ((v = 1 ∧ (l < 2 ^ m ∧ OnR m P Q x2 l)) ∨ (v = 0 ∧ ¬ (l < 2 ^ m ∧ OnR m P Q x2 l))) → Pt (zl (sI 16 227 (nI l) v τ2) fun σ4 => again (nI l + 1, σ4)) (fun r => (mpC (σ.1 219 0) (nI p) x2 → RM σ r.2 r.1 p (fun u => u < 2 ^ m ∧ OnR m P Q x2 u)) ∧ (¬ mpC (σ.1 219 0) (nI p) x2 → r.1 = -2 ∧ r.2.1 220 = σ.1 220)) := fun τ2 v a b d => by
    refine pt_s16 ?_
    rw [iN (by omega), nI_s1 (by omega)]
    exact ih (nI (l + 1), _) ⟨l + 1, ⟨rfl, by omega⟩, a.u (by decide), Md_p b d⟩
  refine pt_gR (v := 227) (R9 218 17 rfl) (pt_gR (v := 219) (R9 218 1 rfl) (pt_aI ?_))
  rw [show (Int32.toInt 2).toNat = 2 from rfl, E9.1.1, one11 m (by omega)]
  refine pt_if (fun y => ?_) (fun y => ?_)
  · rw [nlt (by omega) (by omega)] at y
    exact put τ 0 hf hm (Or.inr ⟨rfl, fun z => by omega⟩)
  rw [nlt (by omega) (by omega)] at y
  have fin : ∀ (v : Int32) (τ2 : zS), FG [238] τ τ2 → (v = 0 → ¬ OnR m P Q x2 l) → (¬ v = 0 → OnR m P Q x2 l) → Pt (if v = 0 then zl (sI 16 227 (nI l) 0 τ2) fun σ4 => again (nI l + 1, σ4) else zl (sI 16 227 (nI l) 1 τ2) fun σ4 => again (nI l + 1, σ4)) (fun r => (mpC (σ.1 219 0) (nI p) x2 → RM σ r.2 r.1 p (fun u => u < 2 ^ m ∧ OnR m P Q x2 u)) ∧ (¬ mpC (σ.1 219 0) (nI p) x2 → r.1 = -2 ∧ r.2.1 220 = σ.1 220)) := fun v τ2 f2 h0 h1 => by
    have f2' : FG [227, 238] σ τ2 := hf.tr (f2.wk (by decide))
    have m2 := Md_c (f2.2 227 (by decide)) hm
    exact pt_if (fun z => put τ2 0 f2' m2 (Or.inr ⟨rfl, fun w => h0 z w.2⟩)) (fun z => put τ2 1 f2' m2 (Or.inl ⟨rfl, by omega, h1 z⟩))
  refine pt_if (fun w0 => ?_) (fun w0 => pt_if (fun w1 => ?_) (fun w1 => ?_))
  · refine pt_gC (pt_zb (vk_tree (s := l) R9 E9 (by omega)) (fun v τ2 h => ?_))
    obtain ⟨e, h0, h1⟩ := h
    have e : τ2 = τ := e
    subst e
    refine fin v τ2 FG.rf (fun z w => h0 z ?_) (fun z => ?_)
    · unfold OnR at w; rw [if_pos w0] at w; exact w
    · unfold OnR; rw [if_pos w0]; exact h1 z
  · refine pt_gC (pt_zb (vk_pairs (s := l) R9 E9 (by omega)) (fun v τ2 h => ?_))
    obtain ⟨f2, h0, h1⟩ := h
    refine fin v τ2 f2 (fun z w => h0 z ?_) (fun z => ?_)
    · unfold OnR at w; rw [if_neg w0, if_pos w1] at w; exact w
    · unfold OnR; rw [if_neg w0, if_pos w1]; exact h1 z
  · refine pt_gC (pt_zb (vk_cover (s := l) R9 E9 (by omega)) (fun v τ2 h => ?_))
    obtain ⟨f2, h0, h1⟩ := h
    refine fin v τ2 f2 (fun z w => h0 z ?_) (fun z => ?_)
    · unfold OnR at w; rw [if_neg w0, if_neg w1] at w; exact w
    · unfold OnR; rw [if_neg w0, if_neg w1]; exact h1 z
/-- cuts of the class: the least sets that hit every way -/
theorem vl_cuts (hB : isWc B) (hR : RF σ.2.2) (h4 : σ.2.2 0 4 = B) (hE : Ed σ B m P Q) (en : σ.1 B 0 = nI n) (n10 : n ≤ 10) (mn' : m ≤ n) : Pt (f_X11_cuts N 0 x1 x2 x3 σ) (fun r => (wyC (σ.1 B 0) x1 x2 x3 → CM σ r.2 r.1 B x1.toInt.toNat (RS 2 (bl (WS m P Q x2.toInt.toNat x3.toInt.toNat)) (2 ^ n))) ∧ (¬ wyC (σ.1 B 0) x1 x2 x3 → r.1 = -2 ∧ LW σ r.2)) := by
  rw [f_X11_cuts.eq_1]
  refine pt_gC (pt_zbq (vl_isRegister h4) (fun v hv => pt_if (fun q => pt_some ⟨fun z => absurd z.1 (hv.1 q), fun _ => ⟨rfl, fun _ _ => rfl⟩⟩) (fun q1 => ?_)))
  refine pt_gC (pt_zbq vl_isCrossing (fun v3 hv3 => pt_if (fun q => pt_some ⟨fun z => absurd z.2.1 (hv3.1 q), fun _ => ⟨rfl, fun _ _ => rfl⟩⟩) (fun q3 => ?_)))
  refine pt_gC (pt_zbq vl_isCrossing (fun v5 hv5 => pt_if (fun q => pt_some ⟨fun z => absurd z.2.2 (hv5.1 q), fun _ => ⟨rfl, fun _ _ => rfl⟩⟩) (fun q5 => ?_)))
  have r1 := hv.2 q1
  have r3 := hv3.2 q3
  have r5 := hv5.2 q5
  obtain ⟨p, hp, rfl⟩ := isR_n r1
  obtain ⟨c, hc, rfl⟩ := isX_n r3
  obtain ⟨g, hg, rfl⟩ := isX_n r5
  rw [iN (m := p) (by omega), iN (m := c) (by omega), iN (m := g) (by omega)]
  refine pt_gR (v := 124) (hR 0 15 rfl) (pt_gR (v := B) h4 (pt_gR (v := 128) (hR 0 17 rfl) (pt_gC (pt_zb (vg_ways hB k128.1 hR hE hc hg) (fun _ σ1 h => ?_)))))
  obtain ⟨l1, i1⟩ := h
  have l1 : LF 129 σ σ1 := l1
  have i1 : ∀ u, u < 1024 → (bt (σ1.2.1 129) u = true ↔ WS m P Q c g u) := i1
  have R1 := l1.R hR
  have h41 : σ1.2.2 0 4 = B := by rw [l1.2.1]; exact h4
  refine pt_gR (v := 99) (R1 0 11 rfl) (pt_gR (v := 128) (R1 0 17 rfl) (pt_gR (v := B) h41 (pt_gI ?_)))
  rw [l1.1, en]
  have inn : inN (bt (σ1.2.1 129)) n := fun u hu hb => by
    have := ((ws_eq hE.2.2 hc hg).mp ((i1 u hu).mp hb)).1
    exact Nat.lt_of_lt_of_le this (Nat.pow_le_pow_right (by decide) mn')
  refine pt_gC (pt_zb (v_reshape R1 iF128.1 n10 inn) (fun _ σ2 h => ?_))
  obtain ⟨l2, i2⟩ := h
  have l2 : LG [128 + 1, 101, 103] σ1 σ2 := l2
  have i2 : ∀ u, u < 1024 → (bt (σ2.2.1 129) u = true ↔ RS 2 (bt (σ1.2.1 129)) (2 ^ n) u) := i2
  have R2 := l2.R R1
  have h42 : σ2.2.2 0 4 = B := by rw [l2.2.1]; exact h41
  refine pt_gC (pt_zb (vl_store hB R2 h42 hp (by rw [l2.1, l1.1]; exact r1.1)) (fun w σ3 h => pt_some ⟨fun _ => CM_st hB hp (fun a ha => ?_) (fun u hu => ?_) h, fun z => absurd ⟨by rw [← en]; exact r1, r3, r5⟩ z⟩))
  · rw [l2.2.2 a (by unfold WR at ha; simp only [List.mem_cons, List.not_mem_nil, or_false]; omega)]
    exact l1.2.2 a (by unfold WR at ha; omega)
  · rw [i2 u hu]
    exact ⟨RS_c (fun v hv => by rw [Bool.eq_iff_iff, i1 v hv, bl_t]) (p2le n10).1 hu, RS_c (fun v hv => by rw [Bool.eq_iff_iff, bl_t]; exact (i1 v hv).symm) (p2le n10).1 hu⟩
theorem vr_cuts (hN : 1048576 ≤ N) (hM : MW (σ.1 219) 0) (hR : RF σ.2.2) (hB : ZB σ.1) (hn : 0 ≤ (σ.1 219 0).toInt ∧ (σ.1 219 0).toInt ≤ 10) (hE : EdR σ m P Q) : Pt (f_X12_cuts N 218 x1 x2 x3 σ) (fun r => (wyC (σ.1 219 0) x1 x2 x3 → RM σ r.2 r.1 x1.toInt.toNat (RS 2 (bl (fun u => u < 2 ^ m ∧ (if x2.toInt.toNat = x3.toInt.toNat then u = 0 else IsW m P Q u x2.toInt.toNat x3.toInt.toNat))) (mn (σ.1 219 0)))) ∧ (¬ wyC (σ.1 219 0) x1 x2 x3 → r.1 = -2 ∧ r.2.1 220 = σ.1 220)) := by
  have mb := mn_le hn.2
  rw [f_X12_cuts.eq_1]
  refine pt_gC (pt_zbq (vr_isRegister hR) (fun v hv => pt_if (fun q => pt_some ⟨fun z => absurd z.1 (hv.1 q), fun _ => ⟨rfl, rfl⟩⟩) (fun q1 => ?_)))
  have r1 := hv.2 q1
  refine pt_gC (pt_zbq (vr_isCrossing hR r1.1) (fun v3 hv3 => pt_if (fun q => pt_some ⟨fun z => absurd z.2.1 (hv3.1 q), fun _ => ⟨rfl, rfl⟩⟩) (fun q3 => ?_)))
  refine pt_gC (pt_zbq (vr_isCrossing hR r1.1) (fun v5 hv5 => pt_if (fun q => pt_some ⟨fun z => absurd z.2.2 (hv5.1 q), fun _ => ⟨rfl, rfl⟩⟩) (fun q5 => ?_)))
  have r3 := hv3.2 q3
  have r5 := hv5.2 q5
  obtain ⟨p, hp, rfl⟩ := isR_n r1
  obtain ⟨c, hc, rfl⟩ := isX_n r3
  obtain ⟨g, hg, rfl⟩ := isX_n r5
  rw [iN (m := p) (by omega), iN (m := c) (by omega), iN (m := g) (by omega)]
  refine pt_gC (pt_zbq (vr_mn hR hn) (fun v9 hv9 => ?_))
  subst hv9
  refine pt_pIx (fun σ1 a1 b1 c1 => ?_)
  have R1 : RF σ1.2.2 := by rw [c1]; exact hR
  have E1 : EdR σ1 m P Q := EdR_c (b1 219 (by decide)) hE
  have B1 : ZB σ1.1 := fun k hk j => by
    by_cases e : k = 218
    · rw [e] at hk; exact absurd hk (by decide)
    · rw [b1 k e]; exact hB k hk j
  have n20 : σ1.1 218 20 = nI (mn (σ.1 219 0)) := by rw [a1, upd_s]
  refine pt_gC (pt_zb (pt_and (P := fun r : Unit × zS => ZB r.2.1) (vk_fillWays R1 E1 hc hg) (pt_w (pt_ok (s_X12_fillWays hN R1 (by rw [b1 219 (by decide)]; exact hM) B1 (by rw [nI_toInt (by omega)]; omega) (by rw [nI_toInt (by omega)]; omega))) (fun r h => h.2))) (fun _ σ2 h2 => ?_))
  obtain ⟨⟨f2, m2⟩, B2⟩ := h2
  have f2 : FG [227, 238] σ1 σ2 := f2
  have B2 : ZB σ2.1 := B2
  have R2 := f2.R R1
  -- the ways are copied
  refine pt_lp (fun y : Int32 × zS => ∃ l, (y.1 = nI l ∧ l ≤ 1024) ∧ FG [229] σ2 y.2 ∧ ZB y.2.1 ∧ ∀ u, u < l → y.2.1 229 u = σ2.1 227 u) (fun again y hI ih => ?_) N _ ⟨0, ⟨rfl, Nat.zero_le _⟩, FG.rf, B2, fun u hu => absurd hu (Nat.not_lt_zero _)⟩
  obtain ⟨x4, τ⟩ := y
  obtain ⟨l, ⟨ex, hl⟩, hf, hZ, hu⟩ := hI
  have ex : x4 = nI l := ex
  subst ex
  have hf : FG [229] σ2 τ := hf
  have hZ : ZB τ.1 := hZ
  have hu : ∀ u, u < l → τ.1 229 u = σ2.1 227 u := hu
  have R9 := hf.R R2
  rw [F_X12_cuts_44.eq_1]
  refine pt_if (fun q => ?_) (fun q => ?_)
  · have q : nI 1024 ≤ nI l := q
    rw [nlt (by omega) (by omega)] at q
    have k20 : τ.1 218 20 = nI (mn (σ.1 219 0)) := by rw [hf.2 218 (by decide), f2.2 218 (by decide)]; exact n20
    have e19 : τ.1 219 = σ.1 219 := (hf.2 219 (by decide)).trans ((f2.2 219 (by decide)).trans (b1 219 (by decide)))
    have e20 : τ.1 220 = σ.1 220 := (hf.2 220 (by decide)).trans ((f2.2 220 (by decide)).trans (b1 220 (by decide)))
    have same : ∀ u, u < 1024 → rb (τ.1 229) 0 u = bl (fun u => u < 2 ^ m ∧ (if c = g then u = 0 else IsW m P Q u c g)) u := fun u h => by
      rw [Bool.eq_iff_iff, bl_t, ← Md_rb m2 h]
      unfold rb
      rw [Nat.zero_add, hu u (by omega)]
    refine pt_gR (v := 229) (R9 218 19 rfl) (pt_gC (pt_zb (pt_and (pt_ok (s_X12_turns_229 hN R9 hZ (by rw [k20, nI_toInt (by omega)]; omega) (by decide))) (vr_turns (w := 2) (a := 0) (c := 229) R9 (by decide) k20 mb (by decide))) (fun _ σ3 h3 => ?_)))
    obtain ⟨⟨_, B3⟩, f3, t3⟩ := h3
    have B3 : ZB σ3.1 := B3
    have f3 : FG [227, 228] τ σ3 := f3
    have t3 : ∀ u, u < 1024 → (rb (σ3.1 227) 0 u = true ↔ RS 2 (rb (τ.1 229) 0) (mn (σ.1 219 0)) u) := t3
    have S3 : Md 227 σ3 1024 (RS 2 (bl (fun u => u < 2 ^ m ∧ (if c = g then u = 0 else IsW m P Q u c g))) (mn (σ.1 219 0))) := Md_z B3 rfl (fun u h => (t3 u h).trans ⟨RS_c same mb h, RS_c (fun v hv => (same v hv).symm) mb h⟩)
    have d19 : σ3.1 219 = σ.1 219 := (f3.2 219 (by decide)).trans e19
    have d20 : σ3.1 220 = σ.1 220 := (f3.2 220 (by decide)).trans e20
    refine pt_gC (pt_zb (vr_lays (f3.R R9) (by rw [d19]; exact hn) hp S3) (fun w σ4 h4 => pt_some ⟨fun _ => RM_of d20 d19 h4.2, fun z => absurd ⟨r1, r3, r5⟩ z⟩))
  · have q : ¬ nI 1024 ≤ nI l := q
    rw [nlt (by omega) (by omega)] at q
    refine pt_gR (v := 229) (R9 218 19 rfl) (pt_gR (v := 227) (R9 218 17 rfl) (pt_aI (pt_s16 ?_)))
    have z01 : σ2.1 227 l = 0 ∨ σ2.1 227 l = 1 := (m2 l (by omega)).elim (fun z => Or.inr z.1) (fun z => Or.inl z.1)
    have Z2 := ZB_s (σ := τ) (a := 229) (i := (nI l).toInt.toNat) (v := τ.1 227 (nI l).toInt.toNat) rfl hZ
    rw [iN (by omega), hf.2 227 (by decide), nrz z01] at Z2
    rw [iN (by omega), nI_s1 (by omega), hf.2 227 (by decide), nrz z01]
    refine ih (nI (l + 1), _) ⟨l + 1, ⟨rfl, by omega⟩, hf.u (by decide), Z2, fun u h => ?_⟩
    show (zI τ 229 _).1 229 u = _
    rw [zI_s, upd_i]
    by_cases e : u = l
    · rw [if_pos e, e]
    · rw [if_neg e]; exact hu u (by omega)
end MAPC

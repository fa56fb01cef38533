section OPS2
variable {N B : Nat} {σ : zS} {x1 x2 x3 x4 : Int32}
def isN (m x : Int32) : Prop := 0 ≤ x.toInt ∧ x.toInt < m.toInt
def chC (m x1 x2 x3 : Int32) : Prop := (isR m x1 ∧ isR m x2) ∧ isN m x3
def chS (F : Nat → Bool) (M k u : Nat) : Prop := u < M ∧ F (u ^^^ 2 ^ k) = true
/-- the half with a name, or without -/
def haS (F : Nat → Bool) (M k : Nat) (w : Int32) (u : Nat) : Prop := u < M ∧ u.testBit k = false ∧ F (if w = 0 then u else u ^^^ 2 ^ k) = true
theorem x_in {F : Nat → Bool} {n k u : Nat} (hF : inN F n) (hk : k < n) (hn : n ≤ 10) (hu : u < 1024) (h : F (u ^^^ 2 ^ k) = true) : u < 2 ^ n := by
  have := hF (u ^^^ 2 ^ k) (x_1024 hu (by omega)) h
  have q := x_lt this hk
  rwa [x_x] at q
theorem isN_n {m x : Int32} (h : isN m x) (hm : m.toInt ≤ 10) : ∃ k, k < 10 ∧ x = nI k ∧ (k : Int) < m.toInt := by
  obtain ⟨k, hk, rfl⟩ := znI (m := 10) h.1 (by have := h.2; omega)
  have := h.2
  rw [nI_toInt (by omega)] at this
  exact ⟨k, hk, rfl, this⟩
theorem vl_change (hB : isWc B) (hR : RF σ.2.2) (h4 : σ.2.2 0 4 = B) (hn : 0 ≤ (σ.1 B 0).toInt ∧ (σ.1 B 0).toInt ≤ 10) (hF : FI σ B) : Pt (f_X11_change N 0 x1 x2 x3 σ) (fun r => (chC (σ.1 B 0) x1 x2 x3 → CM σ r.2 r.1 B x1.toInt.toNat (chS (bt (σ.2.1 (B + 6 + 2 * x2.toInt.toNat + 1))) (mn (σ.1 B 0)) x3.toInt.toNat)) ∧ (¬ chC (σ.1 B 0) x1 x2 x3 → r.1 = -2 ∧ LW σ r.2)) := by
  rw [f_X11_change.eq_1]
  refine pt_gC (pt_zbq (vl_isRegister h4) (fun v hv => pt_if (fun q => pt_some ⟨fun z => absurd z.1.1 (hv.1 q), fun _ => ⟨rfl, fun _ _ => rfl⟩⟩) (fun q1 => ?_)))
  refine pt_gC (pt_zbq (vl_isRegister h4) (fun v3 hv3 => pt_if (fun q => pt_some ⟨fun z => absurd z.1.2 (hv3.1 q), fun _ => ⟨rfl, fun _ _ => rfl⟩⟩) (fun q3 => ?_)))
  refine pt_gC (pt_zbq (vl_isName h4) (fun v5 hv5 => pt_if (fun q => pt_some ⟨fun z => absurd z.2 (hv5.1 q), fun _ => ⟨rfl, fun _ _ => rfl⟩⟩) (fun q5 => ?_)))
  have r1 := hv.2 q1
  have r3 := hv3.2 q3
  have r5 : isN (σ.1 B 0) x3 := hv5.2 q5
  have hm : chC (σ.1 B 0) x1 x2 x3 := ⟨⟨r1, r3⟩, r5⟩
  obtain ⟨p, hp, rfl⟩ := isR_n r1
  obtain ⟨k, hk, rfl⟩ := isR_n r3
  obtain ⟨l, hl, rfl, hlt⟩ := isN_n r5 hn.2
  obtain ⟨n, en, n0, n10⟩ := world_n r1.1 hn.2
  rw [en, nI_toInt (by omega)] at hlt
  rw [iN (m := p) (by omega), iN (m := k) (by omega), iN (m := l) (by omega)]
  refine pt_gR (v := 128) (hR 0 17 rfl) (pt_reg hB hR h4 hk (pt_gC (pt_zb (v_copyFrom hR k128.1 (rgW hB hR hk).2) (fun _ σ1 h => ?_))))
  obtain ⟨l1, e1⟩ := h
  have l1 : LF 129 σ σ1 := l1
  have e1 : ∀ u, u < 1024 → bt (σ1.2.1 129) u = bt (σ.2.1 (B + 6 + 2 * k + 1)) u := e1
  have R1 := l1.R hR
  refine pt_gR (v := 128) (R1 0 17 rfl) (pt_gC (pt_zb (v_flip R1 k128.1 hl) (fun _ σ2 h => ?_)))
  obtain ⟨l2, e2⟩ := h
  have l2 : LF 129 σ1 σ2 := l2
  have l12 := l1.tr l2
  have R2 := l12.R hR
  refine pt_gC (pt_zb (vl_store hB R2 (by rw [l12.2.1]; exact h4) hp (by rw [l12.1]; exact r1.1)) (fun v σ3 h => pt_some ⟨fun _ => ?_, fun z => absurd hm z⟩))
  refine CM_st hB hp (fun a ha => l12.2.2 a (lw_no ha).2.1) (fun u hu => ?_) h
  have e2 : bt (σ2.2.1 129) u = bt (σ1.2.1 129) (u ^^^ 2 ^ l) := e2 u hu
  rw [e2, e1 _ (x_1024 hu hl), en, mnn n0 n10]
  exact ⟨fun h => ⟨x_in (FI_in hF hk en n0 n10) (by omega) n10 hu h, h⟩, fun h => h.2⟩
theorem vl_half (hB : isWc B) (hR : RF σ.2.2) (h4 : σ.2.2 0 4 = B) (hn : 0 ≤ (σ.1 B 0).toInt ∧ (σ.1 B 0).toInt ≤ 10) (hF : FI σ B) : Pt (f_X11_half N 0 x1 x2 x3 x4 σ) (fun r => (chC (σ.1 B 0) x1 x2 x3 → CM σ r.2 r.1 B x1.toInt.toNat (haS (bt (σ.2.1 (B + 6 + 2 * x2.toInt.toNat + 1))) (mn (σ.1 B 0)) x3.toInt.toNat x4)) ∧ (¬ chC (σ.1 B 0) x1 x2 x3 → r.1 = -2 ∧ LW σ r.2)) := by
  rw [f_X11_half.eq_1]
  refine pt_gC (pt_zbq (vl_isRegister h4) (fun v hv => pt_if (fun q => pt_some ⟨fun z => absurd z.1.1 (hv.1 q), fun _ => ⟨rfl, fun _ _ => rfl⟩⟩) (fun q1 => ?_)))
  refine pt_gC (pt_zbq (vl_isRegister h4) (fun v3 hv3 => pt_if (fun q => pt_some ⟨fun z => absurd z.1.2 (hv3.1 q), fun _ => ⟨rfl, fun _ _ => rfl⟩⟩) (fun q3 => ?_)))
  refine pt_gC (pt_zbq (vl_isName h4) (fun v5 hv5 => pt_if (fun q => pt_some ⟨fun z => absurd z.2 (hv5.1 q), fun _ => ⟨rfl, fun _ _ => rfl⟩⟩) (fun q5 => ?_)))
  have r1 := hv.2 q1
  have r3 := hv3.2 q3
  have r5 : isN (σ.1 B 0) x3 := hv5.2 q5
  have hm : chC (σ.1 B 0) x1 x2 x3 := ⟨⟨r1, r3⟩, r5⟩
  obtain ⟨p, hp, rfl⟩ := isR_n r1
  obtain ⟨k, hk, rfl⟩ := isR_n r3
  obtain ⟨l, hl, rfl, hlt⟩ := isN_n r5 hn.2
  obtain ⟨n, en, n0, n10⟩ := world_n r1.1 hn.2
  rw [en, nI_toInt (by omega)] at hlt
  rw [iN (m := p) (by omega), iN (m := k) (by omega), iN (m := l) (by omega)]
  refine pt_gR (v := 128) (hR 0 17 rfl) (pt_reg hB hR h4 hk (pt_gC (pt_zb (v_copyFrom hR k128.1 (rgW hB hR hk).2) (fun _ σ1 h => ?_))))
  obtain ⟨l1, e1⟩ := h
  have l1 : LF 129 σ σ1 := l1
  have e1 : ∀ u, u < 1024 → bt (σ1.2.1 129) u = bt (σ.2.1 (B + 6 + 2 * k + 1)) u := e1
  have R1 := l1.R hR
  refine pt_if (fun q => ?_) (fun q => ?_)
  · refine pt_gR (v := 128) (R1 0 17 rfl) (pt_gC (pt_zb (v_keepWithout R1 k128.1 hl) (fun _ σ2 h => ?_)))
    obtain ⟨l2, e2⟩ := h
    have l2 : LF 129 σ1 σ2 := l2
    have l12 := l1.tr l2
    have R2 := l12.R hR
    refine pt_gC (pt_zb (vl_store hB R2 (by rw [l12.2.1]; exact h4) hp (by rw [l12.1]; exact r1.1)) (fun v σ3 h => pt_some ⟨fun _ => ?_, fun z => absurd hm z⟩))
    refine CM_st hB hp (fun a ha => l12.2.2 a (lw_no ha).2.1) (fun u hu => ?_) h
    have e2 : bt (σ2.2.1 129) u = (bt (σ1.2.1 129) u && !u.testBit l) := e2 u hu
    unfold haS
    rw [e2, e1 u hu, en, mnn n0 n10, if_pos q, Bool.and_eq_true, Bool.not_eq_true']
    exact ⟨fun h => ⟨FI_in hF hk en n0 n10 u hu h.1, h.2, h.1⟩, fun h => ⟨h.2.2, h.2.1⟩⟩
  · refine pt_gR (v := 128) (R1 0 17 rfl) (pt_gC (pt_zb (v_flip R1 k128.1 hl) (fun _ σ2 h => ?_)))
    obtain ⟨l2, e2⟩ := h
    have l2 : LF 129 σ1 σ2 := l2
    have l12 := l1.tr l2
    have R2 := l12.R hR
    refine pt_gR (v := 128) (R2 0 17 rfl) (pt_gC (pt_zb (v_keepWithout R2 k128.1 hl) (fun _ σ3 h => ?_)))
    obtain ⟨l3, e3⟩ := h
    have l3 : LF 129 σ2 σ3 := l3
    have l13 := l12.tr l3
    have R3 := l13.R hR
    refine pt_gC (pt_zb (vl_store hB R3 (by rw [l13.2.1]; exact h4) hp (by rw [l13.1]; exact r1.1)) (fun v σ4 h => pt_some ⟨fun _ => ?_, fun z => absurd hm z⟩))
    refine CM_st hB hp (fun a ha => l13.2.2 a (lw_no ha).2.1) (fun u hu => ?_) h
    have e3 : bt (σ3.2.1 129) u = (bt (σ2.2.1 129) u && !u.testBit l) := e3 u hu
    have e2 : bt (σ2.2.1 129) u = bt (σ1.2.1 129) (u ^^^ 2 ^ l) := e2 u hu
    unfold haS
    rw [e3, e2, e1 _ (x_1024 hu hl), en, mnn n0 n10, if_neg q, Bool.and_eq_true, Bool.not_eq_true']
    exact ⟨fun h => ⟨x_in (FI_in hF hk en n0 n10) (by omega) n10 hu h.1, h.2, h.1⟩, fun h => ⟨h.2.2, h.2.1⟩⟩
/-! how many names a set has -/
def bc (s : Nat) : Nat := ct (fun i => s.testBit i) 10
set_option maxRecDepth 100000 in
theorem bc10 : ∀ s, s < 1024 → (f_J6_bitCount_0f7a4 0 (nI s) zs00).map Prod.fst = some (nI (bc s)) := by decide +kernel
theorem v_bitCount32 {s : Nat} (hs : s < 1024) : Px (f_J6_bitCount_0f7a4 N (nI s) σ) σ (fun v => v = nI (bc s)) := by
  have h := bc10 s hs
  rw [f_J6_bitCount_0f7a4.eq_1] at h ⊢
  exact pt_some ⟨rfl, Option.some.inj h⟩
theorem shb : ∀ k, k < 10 → ∀ s, s < 1024 → ((nI s >>> (nI k &&& 31)) &&& 1) = nI (if s.testBit k = true then 1 else 0) := by decide +kernel
theorem bc_le (s : Nat) : bc s ≤ 10 := ct_le _ _
theorem vr_namesOf {s : Nat} (hs : s < 1024) : Px (f_X12_namesOf N (nI s) σ) σ (fun v => v = nI (bc s)) := by
  rw [f_X12_namesOf.eq_1]
  refine pt_lp (fun x : Int32 × Int32 × zS => x.2.2 = σ ∧ ∃ m, (x.2.1 = nI m ∧ m ≤ 10) ∧ x.1 = nI (ct (fun i => s.testBit i) m)) (fun again x hI ih => ?_) N _ ⟨rfl, 0, ⟨rfl, Nat.zero_le _⟩, rfl⟩
  obtain ⟨x2, x3, τ⟩ := x
  obtain ⟨e, m, ⟨e3, hm⟩, e2⟩ := hI
  have e : τ = σ := e
  have e3 : x3 = nI m := e3
  have e2 : x2 = nI (ct (fun i => s.testBit i) m) := e2
  subst e
  subst e3
  subst e2
  rw [F_X12_namesOf_4.eq_1]
  refine pt_if (fun q => pt_some ⟨rfl, ?_⟩) (fun q => ?_)
  · have q : nI 10 ≤ nI m := q
    rw [nlt (by omega) (by omega)] at q
    show nI (ct _ m) = nI (ct _ 10)
    rw [show m = 10 by omega]
  · have q : ¬ nI 10 ≤ nI m := q
    rw [nlt (by omega) (by omega)] at q
    rw [nI_s1 (by omega), shb m (by omega) s hs, nI_plus]
    exact ih (_, nI (m + 1), τ) ⟨rfl, m + 1, ⟨rfl, by omega⟩, rfl⟩
theorem one11 : ∀ n, n < 11 → ((1 : Int32) <<< (nI n &&& 31)) = nI (2 ^ n) := by decide +kernel
def leC (m x1 x2 x3 : Int32) : Prop := (isR m x1 ∧ isR m x2) ∧ 0 ≤ x3.toInt ∧ x3.toInt ≤ 10
def leS (F : Nat → Bool) (M : Nat) (w : Int32) (u : Nat) : Prop := u < M ∧ F u = true ∧ nI (bc u) = w
theorem vl_level (hB : isWc B) (hR : RF σ.2.2) (h4 : σ.2.2 0 4 = B) (hn : 0 ≤ (σ.1 B 0).toInt ∧ (σ.1 B 0).toInt ≤ 10) (hF : FI σ B) : Pt (f_X11_level N 0 x1 x2 x3 σ) (fun r => (leC (σ.1 B 0) x1 x2 x3 → CM σ r.2 r.1 B x1.toInt.toNat (leS (bt (σ.2.1 (B + 6 + 2 * x2.toInt.toNat + 1))) (mn (σ.1 B 0)) x3)) ∧ (¬ leC (σ.1 B 0) x1 x2 x3 → r.1 = -2 ∧ LW σ r.2)) := by
  rw [f_X11_level.eq_1]
  refine pt_gC (pt_zbq (vl_isRegister h4) (fun v hv => pt_if (fun q => pt_some ⟨fun z => absurd z.1.1 (hv.1 q), fun _ => ⟨rfl, fun _ _ => rfl⟩⟩) (fun q1 => ?_)))
  refine pt_gC (pt_zbq (vl_isRegister h4) (fun v3 hv3 => pt_if (fun q => pt_some ⟨fun z => absurd z.1.2 (hv3.1 q), fun _ => ⟨rfl, fun _ _ => rfl⟩⟩) (fun q3 => ?_)))
  refine pt_if (fun q => pt_some ⟨fun z => absurd z.2.1 ?_, fun _ => ⟨rfl, fun _ _ => rfl⟩⟩) (fun qa => pt_if (fun qb => ?_) (fun q => pt_some ⟨fun z => absurd z.2.2 ?_, fun _ => ⟨rfl, fun _ _ => rfl⟩⟩))
  · rw [Int32.lt_iff_toInt_lt] at q
    simp only [Int32.reduceToInt] at q
    omega
  · have r1 := hv.2 q1
    have r3 := hv3.2 q3
    have hm : leC (σ.1 B 0) x1 x2 x3 := by
      rw [Int32.lt_iff_toInt_lt] at qa
      rw [Int32.le_iff_toInt_le] at qb
      simp only [Int32.reduceToInt] at qa qb
      exact ⟨⟨r1, r3⟩, by omega, qb⟩
    obtain ⟨p, hp, rfl⟩ := isR_n r1
    obtain ⟨k, hk, rfl⟩ := isR_n r3
    obtain ⟨n, en, n0, n10⟩ := world_n r1.1 hn.2
    have pn := p2le n10
    rw [iN (m := p) (by omega), iN (m := k) (by omega)]
    have I0 := FI_in hF hk en n0 n10
    have kk := rgW hB hR hk
    have wk : WR (B + 6 + 2 * k + 1) := by unfold WR; unfold isWc at hB; omega
    refine pt_reg hB hR h4 hk (pt_gR (v := 128) (hR 0 17 rfl) (pt_gC (pt_zb (v_clear hR k128.1) (fun _ σ1 h => ?_))))
    obtain ⟨l1, e1⟩ := h
    have l1 : LF 129 σ σ1 := l1
    have e1 : ∀ u, u < 1024 → bt (σ1.2.1 129) u = false := e1
    refine pt_lp (fun x : Int32 × zS => ∃ m, (x.1 = nI m ∧ m ≤ 2 ^ n) ∧ LF 129 σ x.2 ∧ ∀ u, u < 1024 → (bt (x.2.2.1 129) u = true ↔ u < m ∧ bt (σ.2.1 (B + 6 + 2 * k + 1)) u = true ∧ nI (bc u) = x3)) (fun again x hI ih => ?_) N _ ⟨0, ⟨rfl, Nat.zero_le _⟩, l1, fun u hu => by rw [e1 u hu]; exact ⟨fun z => (by cases z), fun z => absurd z.1 (by omega)⟩⟩
    obtain ⟨x5, τ⟩ := x
    obtain ⟨m, ⟨e, hm5⟩, lf, hu⟩ := hI
    have e : x5 = nI m := e
    subst e
    have lf : LF 129 σ τ := lf
    have hu : ∀ u, u < 1024 → (bt (τ.2.1 129) u = true ↔ u < m ∧ bt (σ.2.1 (B + 6 + 2 * k + 1)) u = true ∧ nI (bc u) = x3) := hu
    have R9 := lf.R hR
    have h49 : τ.2.2 0 4 = B := by rw [lf.2.1]; exact h4
    have n9 : τ.1 B 0 = nI n := by rw [lf.1]; exact en
    have ek : τ.2.1 (B + 6 + 2 * k + 1) = σ.2.1 (B + 6 + 2 * k + 1) := lf.2.2 _ (lw_no wk).2.1
    rw [F_X11_level_50.eq_1]
    refine pt_gR (v := B) h49 (pt_gI ?_)
    rw [n9, one11 n (by omega)]
    refine pt_if (fun q => ?_) (fun q => ?_)
    · rw [nlt (by omega) (by omega)] at q
      refine pt_gC (pt_zb (vl_store hB R9 h49 hp (by rw [n9, nI_toInt (by omega)]; omega)) (fun v σ4 h => pt_some ⟨fun _ => ?_, fun z => absurd hm z⟩))
      refine CM_st hB hp (fun a ha => lf.2.2 a (lw_no ha).2.1) (fun u hu' => (hu u hu').trans ?_) h
      unfold leS
      rw [en, mnn n0 n10, show m = 2 ^ n by omega]
    · rw [nlt (by omega) (by omega)] at q
      have skip : (¬ (bt (σ.2.1 (B + 6 + 2 * k + 1)) m = true ∧ nI (bc m) = x3)) → Pt (again (nI m + 1, τ)) (fun r => (leC (σ.1 B 0) (nI p) (nI k) x3 → CM σ r.2 r.1 B p (leS (bt (σ.2.1 (B + 6 + 2 * k + 1))) (mn (σ.1 B 0)) x3)) ∧ (¬ leC (σ.1 B 0) (nI p) (nI k) x3 → r.1 = -2 ∧ LW σ r.2)) := fun hno => by
        rw [nI_s1 (by omega)]
        refine ih (nI (m + 1), τ) ⟨m + 1, ⟨rfl, by omega⟩, lf, fun u hu' => (hu u hu').trans ⟨fun z => ⟨by omega, z.2⟩, fun z => ⟨?_, z.2⟩⟩⟩
        by_cases e : u = m
        · subst e; exact absurd z.2 hno
        · have := z.1; omega
      refine pt_zbq (v_bitCount32 (by omega)) (fun v hv => ?_)
      subst hv
      refine pt_if (fun q1 => ?_) (fun q1 => skip (fun z => q1 z.2))
      refine pt_gC (pt_zbq (v_holds R9 kk.2 (by omega)) (fun w hw => ?_))
      rw [ek] at hw
      refine pt_if (fun z => skip (fun y => ?_)) (fun z => ?_)
      · rw [vb_f hw z] at y; exact absurd y.1 (by decide)
      · refine pt_gR (v := 128) (R9 0 17 rfl) (pt_gC (pt_zb (v_include R9 k128.1 (by omega)) (fun _ σ2 h => ?_)))
        obtain ⟨l2, e2⟩ := h
        have l2 : LF 129 τ σ2 := l2
        rw [nI_s1 (by omega)]
        refine ih (nI (m + 1), σ2) ⟨m + 1, ⟨rfl, by omega⟩, lf.tr l2, fun u hu' => ?_⟩
        have e2 : bt (σ2.2.1 129) u = (bt (τ.2.1 129) u || decide (u = m)) := e2 u hu'
        show bt (σ2.2.1 129) u = true ↔ _
        rw [e2, Bool.or_eq_true, hu u hu', decide_eq_true_iff]
        constructor
        · rintro (y | y)
          · exact ⟨by omega, y.2⟩
          · rw [y]; exact ⟨by omega, vb_t hw z, q1⟩
        · intro y
          by_cases e : u = m
          · exact Or.inr e
          · exact Or.inl ⟨by have := y.1; omega, y.2⟩
  · rw [Int32.le_iff_toInt_le] at q
    simp only [Int32.reduceToInt] at q
    omega
end OPS2

/-! ===== the reference's sets of edges; both ask the same ===== -/
section RSETS
variable {N m : Nat} {σ τ : zS} {P Q : Nat → Nat}
/-- all edges -/
def Xa (m : Nat) (P Q : Nat → Nat) : Nat := tc P Q (2 ^ m - 1) m
theorem one_b {j : Nat} (h : j < m) : (2 ^ m - 1).testBit j = true := by
  rw [Nat.testBit_two_pow_sub_one]; exact decide_eq_true h
theorem Xa_us : Us m P Q (Xa m P Q) := fun v => by
  unfold Xa
  rw [tc_d]
  constructor
  · intro h
    have : ¬ ct (eb P Q (2 ^ m - 1) v) m = 0 := by unfold dg at h; omega
    obtain ⟨j, hj, e⟩ := ct_ex.mp this
    exact ⟨j, hj, (eb_t.mp e).2⟩
  · rintro ⟨j, hj, e⟩
    have : ¬ ct (eb P Q (2 ^ m - 1) v) m = 0 := ct_ex.mpr ⟨j, hj, eb_t.mpr ⟨one_b hj, e⟩⟩
    unfold dg
    omega
theorem vk_cross (hR : RF σ.2.2) (hE : EdR σ m P Q) : Px (f_X12_crossings N 218 σ) σ (fun v => v = nI (Xa m P Q)) := by
  have m10 := hE.1.2
  rw [f_X12_crossings.eq_1]
  refine pt_lp (fun y : Int32 × Int32 × zS => y.2.2 = σ ∧ ∃ j, y.1 = nI (tc P Q (2 ^ m - 1) j) ∧ y.2.1 = nI j ∧ j ≤ m) (fun again y hI ih => ?_) N _ ⟨rfl, 0, rfl, rfl, Nat.zero_le _⟩
  obtain ⟨x1, x2, τ⟩ := y
  obtain ⟨e, j, e1, e2, hj⟩ := hI
  have e : τ = σ := e
  have e1 : x1 = nI (tc P Q (2 ^ m - 1) j) := e1
  have e2 : x2 = nI j := e2
  subst e
  subst e1
  subst e2
  rw [F_X12_crossings_4.eq_1]
  refine pt_gR (v := 219) (hR 218 1 rfl) (pt_aI ?_)
  rw [show (Int32.toInt 2).toNat = 2 from rfl, hE.1.1]
  refine pt_if (fun q => pt_some ⟨rfl, ?_⟩) (fun q => ?_)
  · rw [nlt (by omega) (by omega)] at q
    show nI (tc P Q (2 ^ m - 1) j) = nI (tc P Q (2 ^ m - 1) m)
    rw [show j = m by omega]
  rw [nlt (by omega) (by omega)] at q
  have hjm : j < m := by omega
  obtain ⟨⟨p8, q8⟩, ne⟩ := hE.2.2 j hjm
  refine pt_gC (pt_zbq (vk_one hR hE hjm) (fun v hv => pt_gC (pt_zbq (vk_other hR hE hjm) (fun w hw => ?_))))
  rw [hv, hw, one11 (P j) (by omega), one11 (Q j) (by omega), nI_or, nI_or, nI_s1 (by omega)]
  exact ih (nI (tc P Q (2 ^ m - 1) j ||| (2 ^ P j ||| 2 ^ Q j)), nI (j + 1), τ) ⟨rfl, j + 1, by show _ = nI (tc P Q (2 ^ m - 1) (j + 1)); rw [show tc P Q (2 ^ m - 1) (j + 1) = tc P Q (2 ^ m - 1) j ||| (2 ^ P j ||| 2 ^ Q j) from if_pos (one_b hjm)], rfl, by omega⟩
/-- what the reference asks of a set of edges -/
def TrR (m : Nat) (P Q : Nat → Nat) (s : Nat) : Prop := if Xa m P Q = 0 then s = 0 else ∃ l, ((Xa m P Q).testBit l = true ∧ ∀ k, k < l → (Xa m P Q).testBit k = false) ∧ hg m P Q s l 8 = Xa m P Q ∧ bc s = bc (Xa m P Q) - 1
def OnR (m : Nat) (P Q : Nat → Nat) (w : Int32) (s : Nat) : Prop := if w = 0 then TrR m P Q s else if w = 1 then ∀ v, v < 8 → dg P Q s m v ≤ 1 else ∀ v, v < 8 → (Xa m P Q).testBit v = true → 0 < dg P Q s m v
theorem Xa_256 (hG : Gr m P Q) : Xa m P Q < 256 := tc_256 hG m (Nat.le_refl _)
theorem vk_tree {s : Nat} (hR : RF σ.2.2) (hE : EdR σ m P Q) (hs : s < 1024) : Pt (f_X12_isTree N 218 (nI s) (nI (Xa m P Q)) σ) (fun r => r.2 = σ ∧ (r.1 = 0 → ¬ TrR m P Q s) ∧ (¬ r.1 = 0 → TrR m P Q s)) := by
  have X256 := Xa_256 hE.2.2
  have bX : bc (Xa m P Q) ≤ 10 := ct_le _ 10
  have bs : bc s ≤ 10 := ct_le _ 10
  have n1 : ∀ {C : Prop}, ((1 : Int32), σ).1 = 0 → C := fun z => absurd (show (1 : Int32) = 0 from z) (by decide)
  unfold TrR
  rw [f_X12_isTree.eq_1]
  refine pt_if (fun e => ?_) (fun e => ?_)
  · have e := (nnI (b := 0) (by omega) (by decide)).mp e
    rw [if_pos e]
    exact pt_if (fun z => pt_rZ ⟨rfl, fun y => absurd (show (1 : Int32) = 0 from y) (by decide), fun _ => (nnI (b := 0) (by omega) (by decide)).mp z⟩) (fun z => pt_rZ ⟨rfl, fun _ y => z (by rw [y]; rfl), fun y => absurd rfl y⟩)
  have nz : ¬ Xa m P Q = 0 := fun z => e (by rw [z]; rfl)
  rw [if_neg nz]
  refine pt_lp (fun y : Int32 × zS => y.2 = σ ∧ ∃ l, (y.1 = nI l ∧ l < 8) ∧ ∀ k, k < l → (Xa m P Q).testBit k = false) (fun again y hI ih => ?_) N _ ⟨rfl, 0, ⟨rfl, by decide⟩, fun k hk => absurd hk (Nat.not_lt_zero _)⟩
  obtain ⟨x3, τ⟩ := y
  obtain ⟨e9, l, ⟨ex, l8⟩, hl⟩ := hI
  have e9 : τ = σ := e9
  have ex : x3 = nI l := ex
  subst e9
  subst ex
  have uniq : ∀ k, ((Xa m P Q).testBit k = true ∧ ∀ i, i < k → (Xa m P Q).testBit i = false) → (Xa m P Q).testBit l = true → k = l := fun k hk bl => by
    rcases Nat.lt_trichotomy k l with h | h | h
    · rw [hl k h] at hk; exact absurd hk.1 (by simp)
    · exact h
    · have := hk.2 l h
      rw [bl] at this; cases this
  rw [F_X12_isTree_16.eq_1]
  have b0 := bit0 (s := Xa m P Q) (k := l) (by omega) (by omega)
  refine pt_if (fun z => ?_) (fun z => ?_)
  · have bf := b0.mp z
    rw [nI_s1 (by omega)]
    have all : ∀ k, k < l + 1 → (Xa m P Q).testBit k = false := fun k hk => by
      by_cases e : k = l
      · rw [e]; exact bf
      · exact hl k (by omega)
    refine ih (nI (l + 1), τ) ⟨rfl, l + 1, ⟨rfl, ?_⟩, all⟩
    refine Classical.byContradiction (fun y => nz (Nat.eq_of_testBit_eq (fun i => ?_)))
    rw [Nat.zero_testBit]
    by_cases hi : i < l + 1
    · exact all i hi
    · exact Nat.testBit_lt_two_pow (Nat.lt_of_lt_of_le X256 (show 256 ≤ 2 ^ i from Nat.pow_le_pow_right (n := 2) (i := 8) (by decide) (by omega : 8 ≤ i)))
  · have bl : (Xa m P Q).testBit l = true := by
      cases h : (Xa m P Q).testBit l with
      | true => rfl
      | false => exact absurd (b0.mpr h) z
    have h256 := hg_256 hE.2.2 (s := s) l8 8
    refine pt_gC (pt_zbq (vk_hangs hR hE hs l8) (fun v hv => ?_))
    rw [hv]
    refine pt_if (fun y => ?_) (fun y => pt_rZ ⟨rfl, fun _ w => ?_, fun w => absurd rfl w⟩)
    · have y := (nnI (by omega) (by omega)).mp y
      refine pt_zbq (vr_namesOf hs) (fun v3 h3 => pt_zbq (vr_namesOf (s := Xa m P Q) (by omega)) (fun v5 h5 => ?_))
      rw [h3, h5]
      have bX1 : 1 ≤ bc (Xa m P Q) := by
        have : ¬ ct (fun i => (Xa m P Q).testBit i) 10 = 0 := ct_ex.mpr ⟨l, by omega, bl⟩
        unfold bc
        omega
      rw [show (1 : Int32) = nI 1 from rfl, nI_m bX1]
      refine pt_if (fun w => pt_rZ ⟨rfl, fun a => absurd (show (1 : Int32) = 0 from a) (by decide), fun _ => ⟨l, ⟨bl, hl⟩, y, (nnI (by omega) (by omega)).mp w⟩⟩) (fun w => pt_rZ ⟨rfl, fun _ a => ?_, fun a => absurd rfl a⟩)
      obtain ⟨k, _, _, c⟩ := a
      exact w (by rw [c])
    · obtain ⟨k, hk, c, _⟩ := w
      rw [uniq k hk bl] at c
      exact y (by rw [c])
theorem vk_pairs {s : Nat} (hR : RF σ.2.2) (hE : EdR σ m P Q) (hs : s < 1024) : Pt (f_X12_isPairs N 218 (nI s) σ) (fun r => FG [238] σ r.2 ∧ (r.1 = 0 → ¬ ∀ v, v < 8 → dg P Q s m v ≤ 1) ∧ (¬ r.1 = 0 → ∀ v, v < 8 → dg P Q s m v ≤ 1)) := by
  have m10 := hE.1.2
  have d10 : ∀ v, dg P Q s m v ≤ 10 := fun v => Nat.le_trans (ct_le _ m) m10
  rw [f_X12_isPairs.eq_1]
  refine pt_gC (pt_zb (vk_ends hR hE hs) (fun _ σ1 h1 => ?_))
  obtain ⟨f1, d1⟩ := h1
  have f1 : FG [238] σ σ1 := f1
  have d1 : ∀ v, v < 8 → σ1.1 238 v = nI (dg P Q s m v) := d1
  have R1 := f1.R hR
  refine pt_lp (fun y : Int32 × Int32 × zS => y.2.2 = σ1 ∧ ∃ l, (y.2.1 = nI l ∧ l ≤ 8) ∧ ((y.1 = 1 ∧ ∀ v, v < l → dg P Q s m v ≤ 1) ∨ (y.1 = 0 ∧ ¬ ∀ v, v < 8 → dg P Q s m v ≤ 1))) (fun again y hI ih => ?_) N _ ⟨rfl, 0, ⟨rfl, Nat.zero_le _⟩, Or.inl ⟨rfl, fun v hv => absurd hv (Nat.not_lt_zero _)⟩⟩
  obtain ⟨x2, x3, τ⟩ := y
  obtain ⟨e9, l, ⟨ex, hl⟩, hx⟩ := hI
  have e9 : τ = σ1 := e9
  have ex : x3 = nI l := ex
  have hx : (x2 = 1 ∧ ∀ v, v < l → dg P Q s m v ≤ 1) ∨ (x2 = 0 ∧ ¬ ∀ v, v < 8 → dg P Q s m v ≤ 1) := hx
  subst e9
  subst ex
  rw [F_X12_isPairs_9.eq_1]
  refine pt_if (fun q => ?_) (fun q => ?_)
  · have q : nI 8 ≤ nI l := q
    rw [nlt (by omega) (by omega)] at q
    rcases hx with ⟨rfl, h⟩ | ⟨rfl, h⟩
    · exact pt_rZ ⟨f1, fun y => absurd (show (1 : Int32) = 0 from y) (by decide), fun _ v hv => h v (by omega)⟩
    · exact pt_rZ ⟨f1, fun _ => h, fun y => absurd rfl y⟩
  have q : ¬ nI 8 ≤ nI l := q
  rw [nlt (by omega) (by omega)] at q
  have l8 : l < 8 := by omega
  have dl := d10 l
  rw [nI_s1 (by omega)]
  refine pt_if (fun z => ?_) (fun z => ?_)
  · have h := hx.resolve_left (fun y => absurd (z.symm.trans (show x2 = 1 from y.1)) (by decide))
    exact ih (0, nI (l + 1), τ) ⟨rfl, l + 1, ⟨rfl, by omega⟩, Or.inr ⟨rfl, h.2⟩⟩
  · have h := hx.resolve_right (fun y => z y.1)
    refine pt_gR (v := 238) (R1 218 34 rfl) (pt_aI ?_)
    rw [iN (by omega), d1 l l8]
    refine pt_if (fun y => ?_) (fun y => ?_)
    · have y : nI 2 ≤ nI (dg P Q s m l) := y
      rw [nlt (by omega) (by omega)] at y
      exact ih (0, nI (l + 1), τ) ⟨rfl, l + 1, ⟨rfl, by omega⟩, Or.inr ⟨rfl, fun w => by have := w l l8; omega⟩⟩
    · have y : ¬ nI 2 ≤ nI (dg P Q s m l) := y
      rw [nlt (by omega) (by omega)] at y
      refine ih (1, nI (l + 1), τ) ⟨rfl, l + 1, ⟨rfl, by omega⟩, Or.inl ⟨rfl, fun v hv => ?_⟩⟩
      by_cases e : v = l
      · rw [e]; omega
      · exact h.2 v (by omega)
theorem vk_cover {s : Nat} (hR : RF σ.2.2) (hE : EdR σ m P Q) (hs : s < 1024) : Pt (f_X12_isCover N 218 (nI s) (nI (Xa m P Q)) σ) (fun r => FG [238] σ r.2 ∧ (r.1 = 0 → ¬ ∀ v, v < 8 → (Xa m P Q).testBit v = true → 0 < dg P Q s m v) ∧ (¬ r.1 = 0 → ∀ v, v < 8 → (Xa m P Q).testBit v = true → 0 < dg P Q s m v)) := by
  have m10 := hE.1.2
  have X256 := Xa_256 hE.2.2
  have d10 : ∀ v, dg P Q s m v ≤ 10 := fun v => Nat.le_trans (ct_le _ m) m10
  rw [f_X12_isCover.eq_1]
  refine pt_gC (pt_zb (vk_ends hR hE hs) (fun _ σ1 h1 => ?_))
  obtain ⟨f1, d1⟩ := h1
  have f1 : FG [238] σ σ1 := f1
  have d1 : ∀ v, v < 8 → σ1.1 238 v = nI (dg P Q s m v) := d1
  have R1 := f1.R hR
  refine pt_lp (fun y : Int32 × Int32 × zS => y.2.2 = σ1 ∧ ∃ l, (y.2.1 = nI l ∧ l ≤ 8) ∧ ((y.1 = 1 ∧ ∀ v, v < l → (Xa m P Q).testBit v = true → 0 < dg P Q s m v) ∨ (y.1 = 0 ∧ ¬ ∀ v, v < 8 → (Xa m P Q).testBit v = true → 0 < dg P Q s m v))) (fun again y hI ih => ?_) N _ ⟨rfl, 0, ⟨rfl, Nat.zero_le _⟩, Or.inl ⟨rfl, fun v hv => absurd hv (Nat.not_lt_zero _)⟩⟩
  obtain ⟨x3, x4, τ⟩ := y
  obtain ⟨e9, l, ⟨ex, hl⟩, hx⟩ := hI
  have e9 : τ = σ1 := e9
  have ex : x4 = nI l := ex
  have hx : (x3 = 1 ∧ ∀ v, v < l → (Xa m P Q).testBit v = true → 0 < dg P Q s m v) ∨ (x3 = 0 ∧ ¬ ∀ v, v < 8 → (Xa m P Q).testBit v = true → 0 < dg P Q s m v) := hx
  subst e9
  subst ex
  rw [F_X12_isCover_10.eq_1]
  refine pt_if (fun q => ?_) (fun q => ?_)
  · have q : nI 8 ≤ nI l := q
    rw [nlt (by omega) (by omega)] at q
    rcases hx with ⟨rfl, h⟩ | ⟨rfl, h⟩
    · exact pt_rZ ⟨f1, fun y => absurd (show (1 : Int32) = 0 from y) (by decide), fun _ v hv => h v (by omega)⟩
    · exact pt_rZ ⟨f1, fun _ => h, fun y => absurd rfl y⟩
  have q : ¬ nI 8 ≤ nI l := q
  rw [nlt (by omega) (by omega)] at q
  have l8 : l < 8 := by omega
  have dl := d10 l
  rw [nI_s1 (by omega)]
  refine pt_if (fun z => ?_) (fun z => ?_)
  · have h := hx.resolve_left (fun y => absurd (z.symm.trans (show x3 = 1 from y.1)) (by decide))
    exact ih (0, nI (l + 1), τ) ⟨rfl, l + 1, ⟨rfl, by omega⟩, Or.inr ⟨rfl, h.2⟩⟩
  · have h := hx.resolve_right (fun y => z y.1)
    have b0 := bit0 (s := Xa m P Q) (k := l) (by omega) (by omega)
    have more : ((Xa m P Q).testBit l = true → 0 < dg P Q s m l) → Pt (again (1, nI (l + 1), τ)) (fun r => FG [238] σ r.2 ∧ (r.1 = 0 → ¬ ∀ v, v < 8 → (Xa m P Q).testBit v = true → 0 < dg P Q s m v) ∧ (¬ r.1 = 0 → ∀ v, v < 8 → (Xa m P Q).testBit v = true → 0 < dg P Q s m v)) := fun a => ih (1, nI (l + 1), τ) ⟨rfl, l + 1, ⟨rfl, by omega⟩, Or.inl ⟨rfl, fun v hv => by
      by_cases e : v = l
      · rw [e]; exact a
      · exact h.2 v (by omega)⟩⟩
    refine pt_if (fun y => more (fun w => by rw [b0.mp y] at w; cases w)) (fun y => ?_)
    have bl : (Xa m P Q).testBit l = true := by
      cases h : (Xa m P Q).testBit l with
      | true => rfl
      | false => exact absurd (b0.mpr h) y
    refine pt_gR (v := 238) (R1 218 34 rfl) (pt_aI ?_)
    rw [iN (by omega), d1 l l8]
    refine pt_if (fun w => ?_) (fun w => ?_)
    · have w : nI (dg P Q s m l) ≤ nI 0 := w
      rw [nlt (by omega) (by omega)] at w
      exact ih (0, nI (l + 1), τ) ⟨rfl, l + 1, ⟨rfl, by omega⟩, Or.inr ⟨rfl, fun a => by have := a l l8 bl; omega⟩⟩
    · have w : ¬ nI (dg P Q s m l) ≤ nI 0 := w
      rw [nlt (by omega) (by omega)] at w
      exact more (fun _ => by omega)
/-! the same sets -/
theorem bc_m {s : Nat} (hm : m ≤ 10) (hs : s < 2 ^ m) : bc s = se s m := by
  have : bc s = ct (fun i => s.testBit i) (m + (10 - m)) := by rw [show m + (10 - m) = 10 by omega]; rfl
  rw [this, ct_split]
  show se s m + _ = _
  rw [ct_0 (p := fun k => s.testBit (m + k)) (fun k _ => tb_lt hs (by omega)), Nat.add_zero]
theorem bc_8 {X : Nat} (h : X < 256) : bc X = ct (fun x => X.testBit x) 8 := bc_m (m := 8) (by decide) h
theorem on_eq {w : Int32} {s : Nat} (hG : Gr m P Q) (hm : m ≤ 10) (hs : s < 2 ^ m) : OnC m P Q w (Xa m P Q) s ↔ OnR m P Q w s := by
  have X256 := Xa_256 hG
  have us := Xa_us (m := m) (P := P) (Q := Q)
  have lt8 : ∀ v, (Xa m P Q).testBit v = true → v < 8 := fun v hv => by
    obtain ⟨j, hj, e⟩ := (us v).mp hv
    have g := (hG j hj).1
    omega
  unfold OnC OnR
  by_cases w0 : w = 0
  · rw [if_pos w0, if_pos w0]
    unfold TrR
    by_cases x0 : Xa m P Q = 0
    · rw [if_pos x0]
      have m0 : m = 0 := by
        refine Classical.byContradiction (fun z => ?_)
        have := (us (P 0)).mpr ⟨0, by omega, Or.inl rfl⟩
        rw [x0, Nat.zero_testBit] at this; cases this
      have s0 : s = 0 := by rw [m0] at hs; omega
      refine ⟨fun _ => s0, fun _ => ⟨?_, fun j hj => by omega⟩⟩
      rw [s0, x0]; rfl
    · rw [if_neg x0]
      obtain ⟨l, hl⟩ : ∃ l, (Xa m P Q).testBit l = true ∧ ∀ k, k < l → (Xa m P Q).testBit k = false := by
        have ex : ∃ l, (Xa m P Q).testBit l = true := by
          refine Classical.byContradiction (fun z => x0 (Nat.eq_of_testBit_eq (fun i => ?_)))
          rw [Nat.zero_testBit]
          cases h : (Xa m P Q).testBit i with
          | false => rfl
          | true => exact absurd ⟨i, h⟩ z
        obtain ⟨l0, h0⟩ := ex
        have : ∀ n, (∃ l, l < n ∧ (Xa m P Q).testBit l = true) → ∃ l, (Xa m P Q).testBit l = true ∧ ∀ k, k < l → (Xa m P Q).testBit k = false := by
          intro n
          induction n with
          | zero => rintro ⟨l, h, _⟩; exact absurd h (Nat.not_lt_zero _)
          | succ n ih =>
            rintro ⟨l, h, b⟩
            by_cases q : ∃ k, k < n ∧ (Xa m P Q).testBit k = true
            · exact ih q
            · have ln : l = n := Classical.byContradiction (fun z => q ⟨l, by omega, b⟩)
              refine ⟨l, b, fun k hk => ?_⟩
              cases y : (Xa m P Q).testBit k with
              | false => rfl
              | true => exact absurd ⟨k, by omega, y⟩ q
        exact this (l0 + 1) ⟨l0, by omega, h0⟩
      have bX1 : 1 ≤ bc (Xa m P Q) := by
        have : ¬ ct (fun i => (Xa m P Q).testBit i) 10 = 0 := ct_ex.mpr ⟨l, by have := lt8 l hl.1; omega, hl.1⟩
        unfold bc
        omega
      have sub : ∀ k, (Xa m P Q).testBit k = true → ∀ x, (hg m P Q s k 8).testBit x = true → (Xa m P Q).testBit x = true := fun k hk x hx => (us_cl us (Lb_rb (hg_s 8 x hx))).mpr hk
      constructor
      · rintro ⟨hb, hr⟩
        refine ⟨l, hl, Nat.eq_of_testBit_eq (fun x => ?_), hb⟩
        rw [Bool.eq_iff_iff]
        exact ⟨sub l hl.1 x, tree_1 hG us hl.1 hr (by rw [← bc_m hm hs, ← bc_8 X256]; omega) x⟩
      · rintro ⟨k, hk, hh, hb⟩
        exact ⟨hb, tree_2 hG us hk.1 (fun x hx => by rw [hh]; exact hx) (by rw [← bc_m hm hs, ← bc_8 X256]; omega)⟩
  · rw [if_neg w0, if_neg w0]
    by_cases w1 : w = 1
    · rw [if_pos w1, if_pos w1]
      have := (pairs_ (s := s) hG m (Nat.le_refl _)).2
      rw [bc_8 (tc_256 hG m (Nat.le_refl _)), bc_m hm hs]
      exact this
    · rw [if_neg w1, if_neg w1]
      exact (cover_ us).trans ⟨fun h v _ hv => h v hv, fun h v hv => h v (lt8 v hv) hv⟩
end RSETS

/-! ===== the class's sets of edges ===== -/
section ROADS2
variable {N B m f : Nat} {σ τ : zS} {P Q : Nat → Nat}
/-- row 125 holds the labels -/
def LbR (τ : zS) (P Q : Nat → Nat) (s j : Nat) : Prop := ∀ x, x < 8 → τ.1 125 x = nI (Lb P Q s j x)
theorem vg_join {s j : Nat} (hR : RF σ.2.2) (hG : Gr m P Q) (hj : j < m) (hb : s.testBit j = true) (hl : LbR σ P Q s j) : Pt (f_X6_joinClumps N 124 (nI (P j)) (nI (Q j)) σ) (fun r => FG [125] σ r.2 ∧ ((r.1 = 0 ∧ rg P Q s j) ∨ (r.1 = 1 ∧ ¬ rg P Q s j ∧ LbR r.2 P Q s (j + 1)))) := by
  obtain ⟨⟨p8, q8⟩, ne⟩ := hG j hj
  have R125 : σ.2.2 124 0 = 125 := hR 124 0 rfl
  have tp : (nI (P j)).toInt = (P j : Int) := nI_toInt (by omega)
  have tq : (nI (Q j)).toInt = (Q j : Int) := nI_toInt (by omega)
  have lp := Lb_8 (s := s) hG j (by omega) (P j) p8
  have lq := Lb_8 (s := s) hG j (by omega) (Q j) q8
  rw [f_X6_joinClumps.eq_1]
  refine pt_if (fun q => absurd q (by rw [Int32.lt_iff_toInt_lt, tp]; simp only [Int32.reduceToInt]; omega)) (fun _ => pt_if (fun q => absurd q (by rw [Int32.le_iff_toInt_le, tp]; simp only [Int32.reduceToInt]; omega)) (fun _ => ?_))
  refine pt_if (fun q => absurd q (by rw [Int32.lt_iff_toInt_lt, tq]; simp only [Int32.reduceToInt]; omega)) (fun _ => pt_if (fun q => absurd q (by rw [Int32.le_iff_toInt_le, tq]; simp only [Int32.reduceToInt]; omega)) (fun _ => ?_))
  refine pt_gR (v := 125) R125 (pt_aI (pt_gR (v := 125) R125 (pt_aI ?_)))
  rw [iN (by omega), iN (by omega), hl _ p8, hl _ q8]
  refine pt_if (fun e => pt_rZ ⟨FG.rf, Or.inl ⟨rfl, hb, neq8 lp lq e⟩⟩) (fun e => ?_)
  have nr : ¬ rg P Q s j := fun z => e (by rw [z.2])
  have nl : ¬ Lb P Q s j (P j) = Lb P Q s j (Q j) := fun z => nr ⟨hb, z⟩
  have sP : Lb P Q s (j + 1) (P j) = Lb P Q s j (P j) := by rw [Lb_y hb, if_neg nl]
  refine pt_gR (v := 125) R125 (pt_aI ?_)
  rw [iN (by omega), hl _ q8]
  refine pt_lp (fun y : Int32 × zS => ∃ l, (y.1 = nI l ∧ l ≤ 8) ∧ FG [125] σ y.2 ∧ (∀ x, x < l → y.2.1 125 x = nI (Lb P Q s (j + 1) x)) ∧ ∀ x, l ≤ x → x < 8 → y.2.1 125 x = nI (Lb P Q s j x)) (fun again y hI ih => ?_) N _ ⟨0, ⟨rfl, Nat.zero_le _⟩, FG.rf, fun x hx => absurd hx (Nat.not_lt_zero _), fun x _ h => hl x h⟩
  obtain ⟨x4, τ⟩ := y
  obtain ⟨l, ⟨ex, hl8⟩, hf, h1, h2⟩ := hI
  have ex : x4 = nI l := ex
  subst ex
  have hf : FG [125] σ τ := hf
  have h1 : ∀ x, x < l → τ.1 125 x = nI (Lb P Q s (j + 1) x) := h1
  have h2 : ∀ x, l ≤ x → x < 8 → τ.1 125 x = nI (Lb P Q s j x) := h2
  have R9 := hf.R hR
  have r9 : τ.2.2 124 0 = 125 := R9 124 0 rfl
  rw [F_X6_joinClumps_47.eq_1]
  refine pt_if (fun q => ?_) (fun q => ?_)
  · have q : nI 8 ≤ nI l := q
    rw [nlt (by omega) (by omega)] at q
    exact pt_rZ ⟨hf, Or.inr ⟨rfl, nr, fun x hx => h1 x (by omega)⟩⟩
  have q : ¬ nI 8 ≤ nI l := q
  rw [nlt (by omega) (by omega)] at q
  have l8 : l < 8 := by omega
  have ll := Lb_8 (s := s) hG j (by omega) l l8
  refine pt_gR (v := 125) r9 (pt_aI ?_)
  rw [iN (by omega), h2 l (Nat.le_refl _) l8, nI_s1 (by omega)]
  refine pt_if (fun z => ?_) (fun z => ?_)
  · have z := neq8 ll lq z
    have eP : τ.1 125 (P j) = nI (Lb P Q s j (P j)) := by
      by_cases c : P j < l
      · rw [h1 _ c, sP]
      · exact h2 _ (by omega) p8
    refine pt_gR (v := 125) r9 (pt_gR (v := 125) r9 (pt_aI (pt_s14x (fun υ a b c => ih (nI (l + 1), υ) ?_))))
    rw [iN (by omega), iN (by omega), eP] at a
    refine ⟨l + 1, ⟨rfl, by omega⟩, ⟨c.trans hf.1, fun k hk => (b k (fun e => hk (by rw [e]; exact List.mem_cons_self))).trans (hf.2 k hk)⟩, fun x hx => ?_, fun x hx hx8 => ?_⟩
    · show υ.1 125 x = _
      rw [a, upd_i]
      by_cases e : x = l
      · rw [if_pos e, e, Lb_y hb, if_pos z]
      · rw [if_neg e]; exact h1 x (by omega)
    · show υ.1 125 x = _
      rw [a, upd_n (by omega)]; exact h2 x (by omega) hx8
  · refine ih (nI (l + 1), τ) ⟨l + 1, ⟨rfl, by omega⟩, hf, fun x hx => ?_, fun x hx hx8 => h2 x (by omega) hx8⟩
    by_cases e : x = l
    · rw [e, Lb_y hb, if_neg (fun y => z (by rw [y]))]; exact h2 l (Nat.le_refl _) l8
    · exact h1 x (by omega)
theorem vg_ring {s : Nat} (wc : isWc B) (hR : RF σ.2.2) (hE : Ed σ B m P Q) (hs : s < 1024) : Pt (f_X6_isWithoutRing N 124 B (nI s) σ) (fun r => FG [125] σ r.2 ∧ (r.1 = 0 → ¬ ∀ j, j < m → ¬ rg P Q s j) ∧ (¬ r.1 = 0 → ∀ j, j < m → ¬ rg P Q s j)) := by
  have m10 := hE.1.2
  rw [f_X6_isWithoutRing.eq_1]
  have b125 : ∀ a, a ≤ 2 → B + a ≠ 125 := fun a ha => by unfold isWc at wc; omega
  have Ed9 : ∀ τ : zS, FG [125] σ τ → Ed τ B m P Q := fun τ hf => by
    have e0 := hf.2 B (by simp only [List.mem_cons, List.not_mem_nil, or_false]; exact b125 0 (by decide))
    have e1 := hf.2 (B + 1) (by simp only [List.mem_cons, List.not_mem_nil, or_false]; exact b125 1 (by decide))
    have e2 := hf.2 (B + 2) (by simp only [List.mem_cons, List.not_mem_nil, or_false]; exact b125 2 (by decide))
    unfold Ed at hE ⊢
    rw [e0, e1, e2]; exact hE
  refine pt_lp (fun y : Int32 × zS => ∃ l, (y.1 = nI l ∧ l ≤ 8) ∧ FG [125] σ y.2 ∧ ∀ x, x < l → y.2.1 125 x = nI x) (fun again y hI ih => ?_) N _ ⟨0, ⟨rfl, Nat.zero_le _⟩, FG.rf, fun x hx => absurd hx (Nat.not_lt_zero _)⟩
  obtain ⟨x3, τ⟩ := y
  obtain ⟨l, ⟨ex, hl8⟩, hf, h1⟩ := hI
  have ex : x3 = nI l := ex
  subst ex
  have hf : FG [125] σ τ := hf
  have h1 : ∀ x, x < l → τ.1 125 x = nI x := h1
  have R9 := hf.R hR
  rw [F_X6_isWithoutRing_2.eq_1]
  refine pt_if (fun q => ?_) (fun q => ?_)
  · have q : nI 8 ≤ nI l := q
    rw [nlt (by omega) (by omega)] at q
    refine pt_lp (fun y : Int32 × zS => ∃ j, (y.1 = nI j ∧ j ≤ m) ∧ FG [125] σ y.2 ∧ LbR y.2 P Q s j ∧ ∀ i, i < j → ¬ rg P Q s i) (fun again y hI ih => ?_) N _ ⟨0, ⟨rfl, Nat.zero_le _⟩, hf, fun x hx => h1 x (by omega), fun i hi => absurd hi (Nat.not_lt_zero _)⟩
    obtain ⟨x3, υ⟩ := y
    obtain ⟨j, ⟨ex, hj⟩, hf, hl, hn⟩ := hI
    have ex : x3 = nI j := ex
    subst ex
    have hf : FG [125] σ υ := hf
    have hl : LbR υ P Q s j := hl
    have R9 := hf.R hR
    have E9 := Ed9 υ hf
    rw [F_X6_isWithoutRing_23.eq_1]
    refine pt_gI ?_
    rw [E9.1.1]
    refine pt_if (fun q => ?_) (fun q => ?_)
    · rw [nlt (by omega) (by omega)] at q
      have e : j = m := by omega
      subst e
      exact pt_rZ ⟨hf, fun z => absurd (show (1 : Int32) = 0 from z) (by decide), fun _ => hn⟩
    rw [nlt (by omega) (by omega)] at q
    have hjm : j < m := by omega
    refine pt_if (fun q2 => ?_) (fun _ => ?_)
    · have q2 : nI 10 ≤ nI j := q2
      rw [nlt (by omega) (by omega)] at q2
      omega
    have b0 := bit0 (s := s) (k := j) hs (by omega)
    refine pt_if (fun z => ?_) (fun z => ?_)
    · have bf := b0.mp z
      have nb : ¬ s.testBit j = true := by rw [bf]; simp
      rw [nI_s1 (by omega)]
      refine ih (nI (j + 1), υ) ⟨j + 1, ⟨rfl, by omega⟩, hf, fun x hx => by rw [Lb_n nb]; exact hl x hx, fun i hi => ?_⟩
      by_cases e : i = j
      · rw [e]; exact fun y => nb y.1
      · exact hn i (by omega)
    · have bt' : s.testBit j = true := by
        cases h : s.testBit j with
        | true => rfl
        | false => exact absurd (b0.mpr h) z
      refine pt_gR (v := B + 1) (rW wc R9).1.1 (pt_aI (pt_gR (v := B + 2) (rW wc R9).1.2.1 (pt_aI ?_)))
      rw [iN (by omega), (E9.2.1 j hjm).1, (E9.2.1 j hjm).2]
      refine pt_gC (pt_zb (vg_join R9 hE.2.2 hjm bt' hl) (fun v τ2 h2 => ?_))
      obtain ⟨f2, h2⟩ := h2
      have f2 : FG [125] υ τ2 := f2
      rcases h2 with ⟨v0, r⟩ | ⟨v1, nr, l2⟩
      · have v0 : v = 0 := v0
        exact pt_if (fun _ => pt_rZ ⟨hf.tr f2, fun _ y => y j hjm r, fun y => absurd rfl y⟩) (fun y => absurd v0 y)
      · have v1 : v = 1 := v1
        refine pt_if (fun y => absurd (v1.symm.trans y) (by decide)) (fun _ => ?_)
        rw [nI_s1 (by omega)]
        refine ih (nI (j + 1), τ2) ⟨j + 1, ⟨rfl, by omega⟩, hf.tr f2, l2, fun i hi => ?_⟩
        by_cases e : i = j
        · rw [e]; exact nr
        · exact hn i (by omega)
  · have q : ¬ nI 8 ≤ nI l := q
    rw [nlt (by omega) (by omega)] at q
    refine pt_gR (v := 125) (R9 124 0 rfl) (pt_s14x (fun υ a b c => ?_))
    rw [iN (by omega)] at a
    rw [nI_s1 (by omega)]
    refine ih (nI (l + 1), υ) ⟨l + 1, ⟨rfl, by omega⟩, ⟨c.trans hf.1, fun k hk => (b k (fun e => hk (by rw [e]; exact List.mem_cons_self))).trans (hf.2 k hk)⟩, fun x hx => ?_⟩
    show υ.1 125 x = nI x
    rw [a, upd_i]
    by_cases e : x = l
    · rw [if_pos e, e]
    · rw [if_neg e]; exact h1 x (by omega)
theorem tc_256 (hG : Gr m P Q) {s : Nat} : ∀ j, j ≤ m → tc P Q s j < 256
  | 0, _ => (by decide : 0 < 256)
  | j + 1, hj => by
    have ih := tc_256 hG (s := s) j (by omega)
    have g := (hG j (by omega)).1
    show (if s.testBit j = true then _ else _) < 256
    split
    · exact Nat.or_lt_two_pow (n := 8) ih (Nat.or_lt_two_pow (n := 8) (Nat.pow_lt_pow_right (by decide) g.1) (Nat.pow_lt_pow_right (by decide) g.2))
    · exact ih
/-- what the class asks of a set of edges -/
def OnC (m : Nat) (P Q : Nat → Nat) (w : Int32) (X s : Nat) : Prop := if w = 0 then bc s = bc X - 1 ∧ ∀ j, j < m → ¬ rg P Q s j else if w = 1 then bc (tc P Q s m) = 2 * bc s else tc P Q s m = X
theorem vg_isOne {w : Int32} {X s : Nat} (wc : isWc B) (hR : RF σ.2.2) (hE : Ed σ B m P Q) (hs : s < 1024) (hX : X < 256) : Pt (f_X6_isOneOf N 124 B w (nI s) (nI X) σ) (fun r => FG [125] σ r.2 ∧ (r.1 = 0 → ¬ OnC m P Q w X s) ∧ (¬ r.1 = 0 → OnC m P Q w X s)) := by
  have n1 : ∀ {τ : zS} {C : Prop}, C → ((1 : Int32), τ).1 = 0 → ¬ C := fun _ z => absurd (show (1 : Int32) = 0 from z) (by decide)
  have b8 : ∀ s, s < 1024 → bc s ≤ 10 := fun s _ => ct_le _ 10
  rw [f_X6_isOneOf.eq_1]
  refine pt_zbq (v_bitCount32 (s := X) (by omega)) (fun v hv => pt_zbq (v_bitCount32 hs) (fun v3 hv3 => ?_))
  subst hv
  subst hv3
  unfold OnC
  have bX := b8 X (by omega)
  have bs := b8 s hs
  have mx : zmax 0 (nI (bc X) - 1) = nI (bc X - 1) := by
    have : ∀ a, a ≤ 10 → zmax 0 (nI a - 1) = nI (a - 1) := by decide
    exact this _ bX
  refine pt_if (fun w0 => ?_) (fun w0 => ?_)
  · rw [if_pos w0, mx]
    refine pt_if (fun e => ?_) (fun e => pt_rZ ⟨FG.rf, fun _ z => e (by rw [z.1]), fun z => absurd rfl z⟩)
    have e : bc s = bc X - 1 := by
      have := congrArg Int32.toInt e
      rw [nI_toInt (by omega), nI_toInt (by omega)] at this
      omega
    refine pt_gC (pt_zb (vg_ring wc hR hE hs) (fun v5 τ h => ?_))
    obtain ⟨hf, h0, h1⟩ := h
    have h0 : v5 = 0 → ¬ ∀ j, j < m → ¬ rg P Q s j := h0
    have h1 : ¬ v5 = 0 → ∀ j, j < m → ¬ rg P Q s j := h1
    exact pt_if (fun z => pt_rZ ⟨hf, fun _ y => h0 z y.2, fun y => absurd rfl y⟩) (fun z => pt_rZ ⟨hf, fun y => absurd (show (1 : Int32) = 0 from y) (by decide), fun _ => ⟨e, h1 z⟩⟩)
  · rw [if_neg w0]
    refine pt_if (fun w1 => ?_) (fun w1 => ?_)
    · rw [if_pos w1]
      have t := tc_256 hE.2.2 (s := s) m (Nat.le_refl _)
      refine pt_zbq (vg_touched wc hR hE hs) (fun v7 h7 => ?_)
      rw [h7]
      refine pt_zbq (v_bitCount32 (s := tc P Q s m) (by omega)) (fun v9 h9 => ?_)
      rw [h9]
      have bt9 := b8 (tc P Q s m) (by omega)
      have m2 : (2 : Int32) * nI (bc s) = nI (2 * bc s) := by
        have : ∀ a, a ≤ 10 → (2 : Int32) * nI a = nI (2 * a) := by decide
        exact this _ bs
      rw [m2]
      refine pt_if (fun e => pt_rZ ⟨FG.rf, fun y => absurd (show (1 : Int32) = 0 from y) (by decide), fun _ => ?_⟩) (fun e => pt_rZ ⟨FG.rf, fun _ z => e (by rw [z]), fun y => absurd rfl y⟩)
      have := congrArg Int32.toInt e
      rw [nI_toInt (by omega), nI_toInt (by omega)] at this
      omega
    · rw [if_neg w1]
      have t := tc_256 hE.2.2 (s := s) m (Nat.le_refl _)
      refine pt_zbq (vg_touched wc hR hE hs) (fun v7 h7 => ?_)
      rw [h7]
      refine pt_if (fun e => pt_rZ ⟨FG.rf, fun y => absurd (show (1 : Int32) = 0 from y) (by decide), fun _ => ?_⟩) (fun e => pt_rZ ⟨FG.rf, fun _ z => e (by rw [z]), fun y => absurd rfl y⟩)
      have := congrArg Int32.toInt e
      rw [nI_toInt (by omega), nI_toInt (by omega)] at this
      omega
theorem vg_sets {w : Int32} (wc : isWc B) (kf : (zKd f).1 = 2) (hR : RF σ.2.2) (hE : Ed σ B m P Q) : Pt (f_X6_findSets N 124 B w f σ) (fun r => ((∀ k, k ≠ 125 → r.2.1 k = σ.1 k) ∧ r.2.2.2 = σ.2.2 ∧ ∀ a, a ≠ f + 1 → r.2.2.1 a = σ.2.1 a) ∧ ∀ u, u < 1024 → (bt (r.2.2.1 (f + 1)) u = true ↔ u < 2 ^ m ∧ OnC m P Q w (tc P Q (2 ^ m - 1) m) u)) := by
  have m10 := hE.1.2
  have pm := p2le m10
  have b125 : ∀ a, a ≤ 2 → B + a ≠ 125 := fun a ha => by unfold isWc at wc; omega
  rw [f_X6_findSets.eq_1]
  refine pt_gC (pt_zb (v_clear hR kf) (fun _ σ1 h1 => ?_))
  obtain ⟨l1, z1⟩ := h1
  have l1 : LF (f + 1) σ σ1 := l1
  have z1 : ∀ u, u < 1024 → bt (σ1.2.1 (f + 1)) u = false := z1
  have R1 := l1.R hR
  have E1 := Ed_c l1.1 hE
  refine pt_gI ?_
  rw [E1.1.1, one11 m (by omega), show (1 : Int32) = nI 1 from rfl, nI_sub (show 2 ^ m = (2 ^ m - 1) + 1 by omega)]
  refine pt_zbq (vg_touched wc R1 E1 (by omega)) (fun v4 h4 => ?_)
  subst h4
  have t := tc_256 hE.2.2 (s := 2 ^ m - 1) m (Nat.le_refl _)
  refine pt_lp (fun y : Int32 × zS => ∃ l, (y.1 = nI l ∧ l ≤ 1024) ∧ ((∀ k, k ≠ 125 → y.2.1 k = σ.1 k) ∧ y.2.2.2 = σ.2.2 ∧ ∀ a, a ≠ f + 1 → y.2.2.1 a = σ.2.1 a) ∧ ∀ u, u < 1024 → (bt (y.2.2.1 (f + 1)) u = true ↔ u < l ∧ u < 2 ^ m ∧ OnC m P Q w (tc P Q (2 ^ m - 1) m) u)) (fun again y hI ih => ?_) N _ ⟨0, ⟨rfl, Nat.zero_le _⟩, ⟨fun k _ => by rw [l1.1], l1.2.1, l1.2.2⟩, fun u hu => ⟨fun h => (by rw [z1 u hu] at h; cases h), fun h => absurd h.1 (Nat.not_lt_zero _)⟩⟩
  obtain ⟨x5, τ⟩ := y
  obtain ⟨l, ⟨ex, hl⟩, ⟨hk, hr, ha⟩, hb⟩ := hI
  have ex : x5 = nI l := ex
  subst ex
  have hk : ∀ k, k ≠ 125 → τ.1 k = σ.1 k := hk
  have hr : τ.2.2 = σ.2.2 := hr
  have ha : ∀ a, a ≠ f + 1 → τ.2.1 a = σ.2.1 a := ha
  have hb : ∀ u, u < 1024 → (bt (τ.2.1 (f + 1)) u = true ↔ u < l ∧ u < 2 ^ m ∧ OnC m P Q w (tc P Q (2 ^ m - 1) m) u) := hb
  have R9 : RF τ.2.2 := by rw [hr]; exact hR
  have E9 : Ed τ B m P Q := by
    have e0 := hk B (b125 0 (by decide))
    have e1 := hk (B + 1) (b125 1 (by decide))
    have e2 := hk (B + 2) (b125 2 (by decide))
    unfold Ed at hE ⊢
    rw [e0, e1, e2]; exact hE
  rw [F_X6_findSets_21.eq_1]
  refine pt_gI ?_
  rw [E9.1.1, one11 m (by omega)]
  refine pt_if (fun q => pt_some ⟨⟨hk, hr, ha⟩, fun u hu => ?_⟩) (fun q => ?_)
  · rw [nlt (by omega) (by omega)] at q
    show bt (τ.2.1 (f + 1)) u = true ↔ _
    rw [hb u hu]
    exact ⟨fun h => h.2, fun h => ⟨by omega, h⟩⟩
  rw [nlt (by omega) (by omega)] at q
  refine pt_if (fun q2 => ?_) (fun _ => ?_)
  · have q2 : nI 1024 ≤ nI l := q2
    rw [nlt (by omega) (by omega)] at q2
    omega
  refine pt_gC (pt_zb (vg_isOne (s := l) (X := tc P Q (2 ^ m - 1) m) wc R9 E9 (by omega) t) (fun v7 τ2 h2 => ?_))
  obtain ⟨f2, h0, h1⟩ := h2
  have f2 : FG [125] τ τ2 := f2
  have h0 : v7 = 0 → ¬ OnC m P Q w (tc P Q (2 ^ m - 1) m) l := h0
  have h1 : ¬ v7 = 0 → OnC m P Q w (tc P Q (2 ^ m - 1) m) l := h1
  have k2 : ∀ k, k ≠ 125 → τ2.1 k = σ.1 k := fun k hn => (f2.2 k (by simp only [List.mem_cons, List.not_mem_nil, or_false]; exact hn)).trans (hk k hn)
  rw [nI_s1 (by omega)]
  refine pt_if (fun z => ?_) (fun z => ?_)
  · refine ih (nI (l + 1), τ2) ⟨l + 1, ⟨rfl, by omega⟩, ⟨k2, by rw [f2.1]; exact hr, fun a hn => by rw [f2.1]; exact ha a hn⟩, fun u hu => ?_⟩
    show bt (τ2.2.1 (f + 1)) u = true ↔ _
    rw [f2.1, hb u hu]
    refine ⟨fun h => ⟨by omega, h.2⟩, fun h => ⟨?_, h.2⟩⟩
    have : u ≠ l := fun e => h0 z (by rw [← e]; exact h.2.2)
    omega
  · refine pt_gC (pt_zb (v_include (by rw [f2.1]; exact R9) kf (by omega)) (fun _ τ3 h3 => ?_))
    obtain ⟨l3, i3⟩ := h3
    have l3 : LF (f + 1) τ2 τ3 := l3
    have i3 : ∀ u, u < 1024 → bt (τ3.2.1 (f + 1)) u = (bt (τ2.2.1 (f + 1)) u || decide (u = l)) := i3
    refine ih (nI (l + 1), τ3) ⟨l + 1, ⟨rfl, by omega⟩, ⟨fun k hn => by show τ3.1 k = _; rw [l3.1]; exact k2 k hn, by show τ3.2.2 = _; rw [l3.2.1, f2.1]; exact hr, fun a hn => by show τ3.2.1 a = _; rw [l3.2.2 a hn, f2.1]; exact ha a hn⟩, fun u hu => ?_⟩
    show bt (τ3.2.1 (f + 1)) u = true ↔ _
    rw [i3 u hu, f2.1, Bool.or_eq_true, decide_eq_true_iff, hb u hu]
    constructor
    · rintro (h | h)
      · exact ⟨by omega, h.2⟩
      · rw [h]; exact ⟨by omega, by omega, h1 z⟩
    · rintro ⟨h, h'⟩
      by_cases e : u = l
      · exact Or.inr e
      · exact Or.inl ⟨by omega, h'⟩
end ROADS2

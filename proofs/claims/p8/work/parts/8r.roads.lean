/-! ===== the class's roads ===== -/
section ROADS
variable {N B m f : Nat} {σ τ : zS} {P Q : Nat → Nat}
/-- the edges of the class's world: m of them, P and Q their ends -/
def Ed (σ : zS) (B m : Nat) (P Q : Nat → Nat) : Prop := (σ.1 B 2 = nI m ∧ m ≤ 10) ∧ (∀ j, j < m → σ.1 (B + 1) j = nI (P j) ∧ σ.1 (B + 2) j = nI (Q j)) ∧ Gr m P Q
theorem Ed_c (h0 : τ.1 = σ.1) (h : Ed σ B m P Q) : Ed τ B m P Q := by
  unfold Ed at h ⊢
  rw [h0]; exact h
theorem mle {a b : Nat} (ha : a ≤ 2000) (hb : b ≤ 2000) : (nI a ≤ nI b) = (a ≤ b) := propext (nlt ha hb)
theorem lt_1024 {a b : Nat} (ha : a < 1024) (hb : b < 10) : a ||| 2 ^ b < 1024 := or_1024 ha (Nat.lt_of_le_of_lt (Nat.pow_le_pow_right (by decide) (show b ≤ 9 by omega)) (by decide : 2 ^ 9 < 1024))
theorem lt_256 {a b : Nat} (ha : a < 256) (hb : b < 8) : a ||| 2 ^ b < 256 := Nat.or_lt_two_pow (n := 8) ha (Nat.pow_lt_pow_right (by decide) hb)
theorem bit0 {s k : Nat} (hs : s < 1024) (hk : k < 10) : ((nI s >>> (nI k &&& 31)) &&& 1) = 0 ↔ s.testBit k = false := by
  rw [shb k hk s hs]
  cases s.testBit k with
  | false => exact ⟨fun _ => rfl, fun _ => by decide⟩
  | true => exact ⟨fun h => absurd h (by decide), fun h => by cases h⟩
theorem vg_touched {s : Nat} (wc : isWc B) (hR : RF σ.2.2) (hE : Ed σ B m P Q) (hs : s < 1024) : Px (f_X6_touchedBy N B (nI s) σ) σ (fun v => v = nI (tc P Q s m)) := by
  obtain ⟨⟨em, m10⟩, he, hG⟩ := hE
  rw [f_X6_touchedBy.eq_1]
  refine pt_lp (fun y : Int32 × Int32 × zS => y.2.2 = σ ∧ ∃ j, y.1 = nI (tc P Q s j) ∧ y.2.1 = nI j ∧ j ≤ m) (fun again y hI ih => ?_) N _ ⟨rfl, 0, rfl, rfl, Nat.zero_le _⟩
  obtain ⟨x2, x3, τ⟩ := y
  obtain ⟨e, j, e2, e3, hj⟩ := hI
  have e : τ = σ := e
  have e2 : x2 = nI (tc P Q s j) := e2
  have e3 : x3 = nI j := e3
  subst e
  subst e2
  subst e3
  rw [F_X6_touchedBy_4.eq_1]
  refine pt_gI ?_
  rw [em]
  refine pt_if (fun q => pt_some ⟨rfl, ?_⟩) (fun q => ?_)
  · rw [nlt (by omega) (by omega)] at q
    show nI (tc P Q s j) = _
    rw [show j = m by omega]
  rw [nlt (by omega) (by omega)] at q
  refine pt_if (fun q2 => ?_) (fun _ => ?_)
  · have q2 : nI 10 ≤ nI j := q2
    rw [nlt (by omega) (by omega)] at q2
    omega
  have hjm : j < m := by omega
  have b0 := bit0 (s := s) (k := j) hs (by omega)
  refine pt_if (fun z => ?_) (fun z => ?_)
  · have bf := b0.mp z
    rw [nI_s1 (by omega)]
    exact ih (nI (tc P Q s j), nI (j + 1), τ) ⟨rfl, j + 1, by rw [tc_n (by rw [bf]; simp)], rfl, by omega⟩
  · have bt' : s.testBit j = true := by
      cases h : s.testBit j with
      | true => rfl
      | false => exact absurd (b0.mpr h) z
    have g := (hG j hjm).1
    refine pt_gR (v := B + 1) (rW wc hR).1.1 (pt_aI (pt_gR (v := B + 2) (rW wc hR).1.2.1 (pt_aI ?_)))
    rw [iN (by omega), (he j hjm).1, (he j hjm).2, one11 (P j) (by omega), one11 (Q j) (by omega), nI_or, nI_or, nI_s1 (by omega)]
    exact ih (nI (tc P Q s j ||| (2 ^ P j ||| 2 ^ Q j)), nI (j + 1), τ) ⟨rfl, j + 1, by show _ = nI (tc P Q s (j + 1)); rw [show tc P Q s (j + 1) = tc P Q s j ||| (2 ^ P j ||| 2 ^ Q j) from if_pos bt'], rfl, by omega⟩
theorem neq8 {a b : Nat} (ha : a < 8) (hb : b < 8) (h : nI a = nI b) : a = b := by
  have := congrArg Int32.toInt h
  rw [nI_toInt (by omega), nI_toInt (by omega)] at this
  omega
theorem vg_across {j v : Nat} (wc : isWc B) (hR : RF σ.2.2) (hE : Ed σ B m P Q) (hj : j < m) (hv : v < 8) : Px (f_X6_acrossFrom N B (nI j) (nI v) σ) σ (fun w => (∃ x, x < 8 ∧ w = nI x ∧ Ac P Q j v x) ∨ (w = -1 ∧ ∀ x, ¬ Ac P Q j v x)) := by
  obtain ⟨⟨em, m10⟩, he, hG⟩ := hE
  have g := (hG j hj).1
  have ej : (nI j).toInt = (j : Int) := nI_toInt (by omega)
  rw [f_X6_acrossFrom.eq_1]
  refine pt_if (fun q => absurd q (by rw [Int32.lt_iff_toInt_lt, ej]; simp only [Int32.reduceToInt]; omega)) (fun _ => pt_if (fun _ => ?_) (fun q => absurd (by rw [Int32.lt_iff_toInt_lt, ej]; simp only [Int32.reduceToInt]; omega) q))
  refine pt_gR (v := B + 1) (rW wc hR).1.1 (pt_aI ?_)
  rw [iN (by omega), (he j hj).1]
  refine pt_if (fun q => ?_) (fun q => ?_)
  · refine pt_gR (v := B + 2) (rW wc hR).1.2.1 (pt_aI ?_)
    rw [iN (by omega), (he j hj).2]
    exact pt_some ⟨rfl, Or.inl ⟨Q j, g.2, rfl, Or.inl ⟨neq8 g.1 hv q, rfl⟩⟩⟩
  · refine pt_gR (v := B + 2) (rW wc hR).1.2.1 (pt_aI ?_)
    rw [iN (by omega), (he j hj).2]
    refine pt_if (fun q2 => ?_) (fun q2 => ?_)
    · refine pt_gR (v := B + 1) (rW wc hR).1.1 (pt_aI ?_)
      rw [iN (by omega), (he j hj).1]
      exact pt_some ⟨rfl, Or.inl ⟨P j, g.1, rfl, Or.inr ⟨neq8 g.2 hv q2, rfl⟩⟩⟩
    · exact pt_some ⟨rfl, Or.inr ⟨rfl, fun x h => h.elim (fun z => q (by rw [z.1])) (fun z => q2 (by rw [z.1]))⟩⟩
/-- ways over the first j edges -/
def Wj (m : Nat) (P Q : Nat → Nat) (g v V U j u : Nat) : Prop := (∃ i, i < j ∧ Ac P Q i v g ∧ V.testBit g = false ∧ u = U ||| 2 ^ i) ∨ ∃ i w, i < j ∧ Ac P Q i v w ∧ V.testBit w = false ∧ w ≠ g ∧ Wy m P Q g w (V ||| 2 ^ w) (U ||| 2 ^ i) u
theorem Wj_m {g v V U u : Nat} : Wj m P Q g v V U m u ↔ Wy m P Q g v V U u := by
  constructor
  · rintro (⟨i, hi, a, b, rfl⟩ | ⟨i, w, hi, a, b, c, d⟩)
    · exact Wy.last hi a b
    · exact Wy.step hi a b c d
  · intro h
    exact h.cs
theorem Wj_s {g v V U j u : Nat} : Wj m P Q g v V U (j + 1) u ↔ Wj m P Q g v V U j u ∨ (Ac P Q j v g ∧ V.testBit g = false ∧ u = U ||| 2 ^ j) ∨ ∃ w, Ac P Q j v w ∧ V.testBit w = false ∧ w ≠ g ∧ Wy m P Q g w (V ||| 2 ^ w) (U ||| 2 ^ j) u := by
  constructor
  · rintro (⟨i, hi, h⟩ | ⟨i, w, hi, h⟩)
    · by_cases e : i = j
      · subst e; exact Or.inr (Or.inl h)
      · exact Or.inl (Or.inl ⟨i, by omega, h⟩)
    · by_cases e : i = j
      · subst e; exact Or.inr (Or.inr ⟨w, h⟩)
      · exact Or.inl (Or.inr ⟨i, w, by omega, h⟩)
  · rintro ((⟨i, hi, h⟩ | ⟨i, w, hi, h⟩) | h | ⟨w, h⟩)
    · exact Or.inl ⟨i, by omega, h⟩
    · exact Or.inr ⟨i, w, by omega, h⟩
    · exact Or.inl ⟨j, by omega, h⟩
    · exact Or.inr ⟨j, w, by omega, h⟩
theorem Ac_u {j v x y : Nat} (hG : P j ≠ Q j) (h : Ac P Q j v x) (h2 : Ac P Q j v y) : x = y := by
  rcases h with ⟨a, b⟩ | ⟨a, b⟩ <;> rcases h2 with ⟨c, d⟩ | ⟨c, d⟩
  · rw [← b, ← d]
  · exact absurd (a.trans c.symm) hG
  · exact absurd (c.trans a.symm) hG
  · rw [← b, ← d]
/-- what a walk includes -/
def WK (N dd B m f : Nat) (P Q : Nat → Nat) (g : Nat) : Prop := ∀ (v V U : Nat) (σ : zS), RF σ.2.2 → Ed σ B m P Q → v < 8 → V < 256 → U < 1024 → V.testBit v = true → Pt (f_X6_walk N dd B (nI v) (nI g) (nI V) (nI U) f σ) (fun r => LF (f + 1) σ r.2 ∧ ∀ u, u < 1024 → (bt (r.2.2.1 (f + 1)) u = true ↔ bt (σ.2.1 (f + 1)) u = true ∨ Wy m P Q g v V U u))
theorem vg_walk {g : Nat} (wc : isWc B) (kf : (zKd f).1 = 2) (hg : g < 8) : ∀ dd, WK N dd B m f P Q g := by
  intro dd
  induction dd with
  | zero => intro v V U σ _ _ _ _ _ _ a h; exact absurd (show (none : Option (Unit × zS)) = some a from h) (by simp)
  | succ dd ihd =>
    intro v V U σ hR hE hv hV hU hvV
    show Pt (B_X6_walk N (f_X6_walk N dd) B (nI v) (nI g) (nI V) (nI U) f σ) _
    rw [B_X6_walk.eq_1]
    refine pt_lp (fun y : Int32 × zS => ∃ j, (y.1 = nI j ∧ j ≤ m) ∧ LF (f + 1) σ y.2 ∧ ∀ u, u < 1024 → (bt (y.2.2.1 (f + 1)) u = true ↔ bt (σ.2.1 (f + 1)) u = true ∨ Wj m P Q g v V U j u)) (fun again y hI ih => ?_) N _ ⟨0, ⟨rfl, Nat.zero_le _⟩, LF.rf, fun u _ => ⟨Or.inl, fun h => h.elim id (fun z => z.elim (fun ⟨i, hi, _⟩ => absurd hi (Nat.not_lt_zero _)) (fun ⟨i, _, hi, _⟩ => absurd hi (Nat.not_lt_zero _)))⟩⟩
    obtain ⟨x6, τ⟩ := y
    obtain ⟨j, ⟨ex, hj⟩, hl, hb⟩ := hI
    have ex : x6 = nI j := ex
    subst ex
    have hl : LF (f + 1) σ τ := hl
    have hb : ∀ u, u < 1024 → (bt (τ.2.1 (f + 1)) u = true ↔ bt (σ.2.1 (f + 1)) u = true ∨ Wj m P Q g v V U j u) := hb
    have R9 := hl.R hR
    have E9 : Ed τ B m P Q := Ed_c hl.1 hE
    have m10 := hE.1.2
    rw [F_X6_walk_3.eq_1]
    refine pt_gI ?_
    rw [E9.1.1]
    refine pt_if (fun q => pt_some ⟨hl, fun u hu => ?_⟩) (fun q => ?_)
    · rw [nlt (by omega) (by omega)] at q
      have e : j = m := by omega
      subst e
      rw [← Wj_m]; exact hb u hu
    rw [nlt (by omega) (by omega)] at q
    have hjm : j < m := by omega
    refine pt_if (fun q2 => ?_) (fun _ => ?_)
    · have q2 : nI 10 ≤ nI j := q2
      rw [nlt (by omega) (by omega)] at q2
      omega
    have ne := (hE.2.2 j hjm).2
    have next : ∀ τ2 : zS, LF (f + 1) σ τ2 → (∀ u, u < 1024 → (bt (τ2.2.1 (f + 1)) u = true ↔ bt (σ.2.1 (f + 1)) u = true ∨ Wj m P Q g v V U (j + 1) u)) → Pt (again (nI j + 1, τ2)) (fun r => LF (f + 1) σ r.2 ∧ ∀ u, u < 1024 → (bt (r.2.2.1 (f + 1)) u = true ↔ bt (σ.2.1 (f + 1)) u = true ∨ Wy m P Q g v V U u)) := fun τ2 a b => by
      rw [nI_s1 (by omega)]
      exact ih (nI (j + 1), τ2) ⟨j + 1, ⟨rfl, by omega⟩, a, b⟩
    have skip : (∀ u, ¬ ((Ac P Q j v g ∧ V.testBit g = false ∧ u = U ||| 2 ^ j) ∨ ∃ w, Ac P Q j v w ∧ V.testBit w = false ∧ w ≠ g ∧ Wy m P Q g w (V ||| 2 ^ w) (U ||| 2 ^ j) u)) → Pt (again (nI j + 1, τ)) (fun r => LF (f + 1) σ r.2 ∧ ∀ u, u < 1024 → (bt (r.2.2.1 (f + 1)) u = true ↔ bt (σ.2.1 (f + 1)) u = true ∨ Wy m P Q g v V U u)) := fun no => next τ hl (fun u hu => by
      rw [Wj_s, hb u hu]
      exact ⟨fun h => h.imp id Or.inl, fun h => h.imp id (fun z => z.elim id (fun y => absurd y (no u)))⟩)
    refine pt_zbq (vg_across wc R9 E9 hjm hv) (fun w hw => ?_)
    rcases hw with ⟨x, x8, rfl, ac⟩ | ⟨rfl, no⟩
    · refine pt_if (fun z => absurd z (by rw [Int32.lt_iff_toInt_lt, nI_toInt (by omega)]; simp only [Int32.reduceToInt]; omega)) (fun _ => ?_)
      have b0 := bit0 (s := V) (k := x) (by omega) (by omega)
      refine pt_if (fun z => ?_) (fun z => ?_)
      · have bf := b0.mp z
        have oU : (nI U ||| ((1 : Int32) <<< (nI j &&& 31))) = nI (U ||| 2 ^ j) := by rw [one11 j (by omega), nI_or]
        have lU : U ||| 2 ^ j < 1024 := lt_1024 hU (by omega)
        refine pt_if (fun e => ?_) (fun e => ?_)
        · have e : x = g := neq8 x8 hg e
          subst e
          rw [oU]
          refine pt_gC (pt_zb (v_include R9 kf lU) (fun _ τ2 h2 => ?_))
          obtain ⟨l2, i2⟩ := h2
          have l2 : LF (f + 1) τ τ2 := l2
          have i2 : ∀ u, u < 1024 → bt (τ2.2.1 (f + 1)) u = (bt (τ.2.1 (f + 1)) u || decide (u = U ||| 2 ^ j)) := i2
          refine next τ2 (hl.tr l2) (fun u hu => ?_)
          rw [i2 u hu, Bool.or_eq_true, decide_eq_true_iff, hb u hu, Wj_s]
          constructor
          · rintro ((h | h) | h)
            · exact Or.inl h
            · exact Or.inr (Or.inl h)
            · exact Or.inr (Or.inr (Or.inl ⟨ac, bf, h⟩))
          · rintro (h | h | ⟨_, _, h⟩ | ⟨w, a, _, c, _⟩)
            · exact Or.inl (Or.inl h)
            · exact Or.inl (Or.inr h)
            · exact Or.inr h
            · exact absurd (Ac_u ne a ac) c
        · have e : x ≠ g := fun y => e (by rw [y])
          have lV : V ||| 2 ^ x < 256 := lt_256 hV x8
          have oV : (nI V ||| ((1 : Int32) <<< (nI x &&& 31))) = nI (V ||| 2 ^ x) := by rw [one11 x (by omega), nI_or]
          refine pt_zbq (v_bitCount32 (s := V) (by omega)) (fun w hw => ?_)
          rw [hw]
          have pc : bc V < 8 := by
            have : ∀ i, 8 ≤ i → V.testBit i = false := fun i hi => Nat.testBit_lt_two_pow (Nat.lt_of_lt_of_le hV ((show 256 ≤ 2 ^ i from Nat.pow_le_pow_right (n := 2) (i := 8) (by decide) hi)))
            have c2 : bc V = ct (fun i => V.testBit i) 8 := by
              show (ct (fun i => V.testBit i) 8 + (if V.testBit 8 = true then 1 else 0)) + (if V.testBit 9 = true then 1 else 0) = _
              rw [this 8 (by omega), this 9 (by omega)]; rfl
            have := ct_lt (p := fun i => V.testBit i) (q := fun _ => true) (n := 8) (fun _ _ _ => rfl) x8 rfl bf
            have t8 : ct (fun _ => true) 8 = 8 := rfl
            omega
          refine pt_if (fun y => ?_) (fun _ => ?_)
          · have y : nI 8 ≤ nI (bc V) := y
            rw [nlt (by omega) (by omega)] at y
            omega
          rw [oV, oU]
          refine pt_zb (ihd x (V ||| 2 ^ x) (U ||| 2 ^ j) τ R9 E9 x8 lV lU (orb.mpr (Or.inr rfl))) (fun _ τ2 h2 => ?_)
          obtain ⟨l2, i2⟩ := h2
          have l2 : LF (f + 1) τ τ2 := l2
          have i2 : ∀ u, u < 1024 → (bt (τ2.2.1 (f + 1)) u = true ↔ bt (τ.2.1 (f + 1)) u = true ∨ Wy m P Q g x (V ||| 2 ^ x) (U ||| 2 ^ j) u) := i2
          refine next τ2 (hl.tr l2) (fun u hu => ?_)
          rw [i2 u hu, hb u hu, Wj_s]
          constructor
          · rintro ((h | h) | h)
            · exact Or.inl h
            · exact Or.inr (Or.inl h)
            · exact Or.inr (Or.inr (Or.inr ⟨x, ac, bf, e, h⟩))
          · rintro (h | h | ⟨a, _, _⟩ | ⟨w, a, _, _, d⟩)
            · exact Or.inl (Or.inl h)
            · exact Or.inl (Or.inr h)
            · exact absurd (Ac_u ne ac a) e
            · rw [Ac_u ne a ac] at d; exact Or.inr d
      · have bt' : V.testBit x = true := by
          cases h : V.testBit x with
          | true => rfl
          | false => exact absurd (b0.mpr h) z
        refine skip (fun u h => ?_)
        rcases h with ⟨a, b, _⟩ | ⟨w, a, b, _⟩
        · rw [← Ac_u ne ac a, bt'] at b; cases b
        · rw [← Ac_u ne ac a, bt'] at b; cases b
    · refine pt_if (fun _ => skip (fun u h => ?_)) (fun z => absurd (by decide) z)
      rcases h with ⟨a, _⟩ | ⟨w, a, _⟩
      · exact no _ a
      · exact no _ a
/-- the ways between two crossings -/
def WS (m : Nat) (P Q : Nat → Nat) (c g u : Nat) : Prop := if c = g then u = 0 else Wy m P Q g c (2 ^ c) 0 u
theorem vg_ways {rd c g : Nat} (wc : isWc B) (kf : (zKd f).1 = 2) (hR : RF σ.2.2) (hE : Ed σ B m P Q) (hc : c < 8) (hg : g < 8) : Pt (f_X6_findWays N rd B (nI c) (nI g) f σ) (fun r => LF (f + 1) σ r.2 ∧ ∀ u, u < 1024 → (bt (r.2.2.1 (f + 1)) u = true ↔ WS m P Q c g u)) := by
  rw [f_X6_findWays.eq_1]
  refine pt_gC (pt_zb (v_clear hR kf) (fun _ σ1 h1 => ?_))
  obtain ⟨l1, z1⟩ := h1
  have l1 : LF (f + 1) σ σ1 := l1
  have z1 : ∀ u, u < 1024 → bt (σ1.2.1 (f + 1)) u = false := z1
  have R1 := l1.R hR
  refine pt_if (fun e => ?_) (fun e => ?_)
  · have e : c = g := neq8 hc hg e
    refine pt_gC (pt_zb (v_include (s := 0) R1 kf (by decide)) (fun _ σ2 h2 => pt_some ?_))
    obtain ⟨l2, i2⟩ := h2
    have l2 : LF (f + 1) σ1 σ2 := l2
    have i2 : ∀ u, u < 1024 → bt (σ2.2.1 (f + 1)) u = (bt (σ1.2.1 (f + 1)) u || decide (u = 0)) := i2
    refine ⟨l1.tr l2, fun u hu => ?_⟩
    show bt (σ2.2.1 (f + 1)) u = true ↔ WS m P Q c g u
    unfold WS
    rw [if_pos e, i2 u hu, z1 u hu, Bool.false_or, decide_eq_true_iff]
  · have e : c ≠ g := fun z => e (by rw [z])
    rw [one11 c (by omega)]
    refine pt_zb (vg_walk (N := N) wc kf hg 10 c (2 ^ c) 0 σ1 R1 (Ed_c l1.1 hE) hc (Nat.pow_lt_pow_right (n := 8) (by decide) hc) (by decide) (by rw [Nat.testBit_two_pow]; exact decide_eq_true rfl)) (fun _ σ2 h2 => pt_some ?_)
    obtain ⟨l2, i2⟩ := h2
    have l2 : LF (f + 1) σ1 σ2 := l2
    have i2 : ∀ u, u < 1024 → (bt (σ2.2.1 (f + 1)) u = true ↔ bt (σ1.2.1 (f + 1)) u = true ∨ Wy m P Q g c (2 ^ c) 0 u) := i2
    refine ⟨l1.tr l2, fun u hu => ?_⟩
    show bt (σ2.2.1 (f + 1)) u = true ↔ WS m P Q c g u
    unfold WS
    rw [if_neg e, i2 u hu, z1 u hu]
    exact ⟨fun h => h.elim (fun z => by cases z) id, Or.inr⟩
end ROADS

/-! ===== the reference's nodes ===== -/
def bI (b : Bool) : Int32 := if b = true then 1 else 0
theorem bI_t {b : Bool} : bI b = 1 ↔ b = true := by cases b <;> decide
theorem bI_01 {b : Bool} : bI b = 0 ∨ bI b = 1 := by cases b <;> decide
theorem bI_z {b : Bool} : bI b = 0 ↔ b = false := by cases b <;> decide
theorem bI_i {a b : Bool} : bI a = bI b ↔ a = b := by cases a <;> cases b <;> decide
theorem bI_v {v : Int32} {b : Bool} (h : (v = 0 ∨ v = 1) ∧ (v = 1 ↔ b = true)) : v = bI b := by
  cases b with
  | true => exact h.2.mpr rfl
  | false => exact h.1.resolve_right (fun z => absurd (h.2.mp z) (by decide))
theorem shr10 : ∀ n, n < 11 → ∀ k, k < 11 → k ≤ n → nI (2 ^ n) >>> (nI k &&& 31) = nI (2 ^ (n - k)) := by decide +kernel
theorem div2p : ∀ j, j < 10 → nI (2 ^ (j + 1)) / 2 = nI (2 ^ j) := by decide +kernel
section RND
variable {N n r k : Nat} {G : Nat → Bool} {Gr : Nat → Nat → Bool} {a : Nat → Nat} {σ τ : zS}
/-- only rows of the list are other -/
def FW_ (S : List Nat) (σ τ : zS) : Prop := τ.2 = σ.2 ∧ ∀ b, b ∉ S → τ.1 b = σ.1 b
theorem FW_r {S : List Nat} : FW_ S σ σ := ⟨rfl, fun _ _ => rfl⟩
theorem FW_t {S T : List Nat} {υ : zS} (h : ∀ b ∈ S, b ∈ T) (h1 : FW_ T σ τ) (h2 : FW_ S τ υ) : FW_ T σ υ := ⟨h2.1.trans h1.1, fun b hb => (h2.2 b (fun z => hb (h b z))).trans (h1.2 b hb)⟩
theorem vr_takesOrder (hR : RF σ.2.2) : Pt (f_X12_takesOrder N 218 σ) (fun x => FW_ [235] σ x.2 ∧ ∀ j, j < 10 → x.2.1 235 j = σ.1 219 (33 + j)) := by
  rw [f_X12_takesOrder.eq_1]
  refine pt_lp (fun x : Int32 × zS => FW_ [235] σ x.2 ∧ ∃ c, (x.1 = nI c ∧ c ≤ 10) ∧ ∀ j, j < c → x.2.1 235 j = σ.1 219 (33 + j)) (fun again x hJ ih => ?_) N _ ⟨FW_r, 0, ⟨rfl, by decide⟩, fun j hj => absurd hj (Nat.not_lt_zero _)⟩
  obtain ⟨y, τ⟩ := x
  obtain ⟨f, c, ⟨ec, hc⟩, h⟩ := hJ
  have f : FW_ [235] σ τ := f
  have ec : y = nI c := ec
  subst ec
  have h : ∀ j, j < c → τ.1 235 j = σ.1 219 (33 + j) := h
  have Rt : RF τ.2.2 := by rw [f.1]; exact hR
  rw [F_X12_takesOrder_2.eq_1]
  refine pt_if (fun q => ?_) (fun q => ?_)
  · have q : nI 10 ≤ nI c := q
    rw [nlt (by omega) (by omega)] at q
    exact pt_some ⟨f, fun j hj => h j (by omega)⟩
  · have q : ¬ nI 10 ≤ nI c := q
    rw [nlt (by omega) (by omega)] at q
    refine pt_gR (v := 235) (Rt 218 30 rfl) (pt_gR (v := 219) (Rt 218 1 rfl) (pt_aI (pt_s14x (fun φ a1 b1 c1 => ?_))))
    rw [show (33 : Int32) = nI 33 from rfl, nI_plus, iN (m := 33 + c) (by omega), iN (m := c) (by omega), f.2 219 (by decide)] at a1
    rw [nI_m1]
    refine ih (nI (c + 1), φ) ⟨FW_t (S := [235]) (by decide) f ⟨c1, fun b hb => b1 b (fun z => hb (by rw [z]; decide))⟩, c + 1, ⟨rfl, by omega⟩, fun j hj => ?_⟩
    show φ.1 235 j = _
    rw [a1, upd_i]
    by_cases z : j = c
    · rw [if_pos z, z]
    · rw [if_neg z]; exact h j (by omega)
theorem vr_spotOf {s : Nat} (hR : RF σ.2.2) (en : σ.1 219 0 = nI n) (n10 : n ≤ 10) (ha : ∀ k, k < n → σ.1 235 k = nI (a k) ∧ a k < 10) (hs : s < 1024) : Px (f_X12_spotOf N 218 (nI s) σ) σ (fun v => v = nI (spN a s n)) := by
  rw [f_X12_spotOf.eq_1]
  refine pt_lp (fun x : Int32 × Int32 × zS => x.2.2 = σ ∧ ∃ k, (x.2.1 = nI k ∧ k ≤ n) ∧ x.1 = nI (spN a s k)) (fun again x hJ ih => ?_) N _ ⟨rfl, 0, ⟨rfl, Nat.zero_le _⟩, rfl⟩
  obtain ⟨y, w, τ⟩ := x
  obtain ⟨eo, k, ⟨ek, hk⟩, ey⟩ := hJ
  have e : τ = σ := eo
  have ek : w = nI k := ek
  have ey : y = nI (spN a s k) := ey
  clear eo
  subst e
  subst ek
  subst ey
  rw [F_X12_spotOf_4.eq_1]
  refine pt_gR (v := 219) (hR 218 1 rfl) (pt_aI ?_)
  rw [show (0 : Int32).toInt.toNat = 0 from rfl, en]
  refine pt_if (fun q => ?_) (fun q => ?_)
  · rw [nlt (by omega) (by omega)] at q
    have : k = n := by omega
    subst this
    exact pt_some ⟨rfl, rfl⟩
  · rw [nlt (by omega) (by omega)] at q
    obtain ⟨w1, w2⟩ := ha k (by omega)
    refine pt_gR (v := 235) (hR 218 30 rfl) (pt_aI ?_)
    rw [iN (m := k) (by omega), w1, shb _ w2 s hs, show (2 : Int32) = nI 2 from rfl, nI_mul, nI_plus, nI_m1]
    exact ih (_, nI (k + 1), τ) ⟨rfl, k + 1, ⟨rfl, by omega⟩, rfl⟩
/-- a register laid out by spots -/
theorem vr_laysOut {p : Nat} (hR : RF σ.2.2) (hp : p < 10) (en : σ.1 219 0 = nI n) (n0 : 0 < n) (n10 : n ≤ 10) (hP : PmO n a) (ha : ∀ k, k < n → σ.1 235 k = nI (a k)) : Pt (f_X12_laysOut N 218 (nI p) σ) (fun x => FW_ [234] σ x.2 ∧ ∀ e, e < 2 ^ n → x.2.1 234 e = bI (Rg (σ.1 220) p (saN a n e n))) := by
  have p2 := p2le n10
  have emn : mn (σ.1 219 0) = 2 ^ n := by rw [en, mnn n0 n10]
  rw [f_X12_laysOut.eq_1]
  refine pt_w (Q := fun x => FW_ [234] σ x.2 ∧ ∀ s, s < 2 ^ n → x.2.1 234 (spN a s n) = bI (Rg (σ.1 220) p s)) ?_ (fun x h => ⟨h.1, fun e he => by
    have := h.2 (saN a n e n) (sa_lt hP)
    rw [sp_sa hP he] at this
    exact this⟩)
  refine pt_lp (fun x : Int32 × zS => FW_ [234] σ x.2 ∧ ∃ c, (x.1 = nI c ∧ c ≤ 2 ^ n) ∧ ∀ s, s < c → x.2.1 234 (spN a s n) = bI (Rg (σ.1 220) p s)) (fun again x hJ ih => ?_) N _ ⟨FW_r, 0, ⟨rfl, Nat.zero_le _⟩, fun j hj => absurd hj (Nat.not_lt_zero _)⟩
  obtain ⟨y, τ⟩ := x
  obtain ⟨f, c, ⟨ec, hc⟩, h⟩ := hJ
  have f : FW_ [234] σ τ := f
  have ec : y = nI c := ec
  subst ec
  have h : ∀ s, s < c → τ.1 234 (spN a s n) = bI (Rg (σ.1 220) p s) := h
  have Rt : RF τ.2.2 := by rw [f.1]; exact hR
  have e19 : τ.1 219 = σ.1 219 := f.2 219 (by decide)
  rw [F_X12_laysOut_2.eq_1]
  refine pt_gC (pt_zbq (vr_mn Rt (by rw [e19, en, nI_toInt (by omega)]; omega)) (fun v hv => ?_))
  subst hv
  rw [e19, emn]
  refine pt_if (fun q => ?_) (fun q => ?_)
  · rw [nlt (by omega) (by omega)] at q
    exact pt_some ⟨f, fun s hs => h s (by omega)⟩
  · rw [nlt (by omega) (by omega)] at q
    refine pt_gR (v := 234) (Rt 218 29 rfl) (pt_gC (pt_zbq (vr_spotOf (n := n) (a := a) Rt (by rw [e19]; exact en) n10 (fun k hk => by
      rw [f.2 235 (by decide)]
      exact ⟨ha k hk, by have := hP.1 k hk; omega⟩) (show c < 1024 by omega)) (fun v4 h4 => ?_)))
    subst h4
    refine pt_gC (pt_zbq (vr_of Rt hp (show c < 1024 by omega)) (fun v6 h6 => ?_))
    rw [f.2 220 (by decide)] at h6
    have sl := sp_lt (a := a) (s := c) n
    refine pt_s16 ?_
    rw [iNb (m := spN a c n) (by omega), nrz h6.1, bI_v h6, nI_m1]
    refine ih (nI (c + 1), _) ⟨FW_t (S := [234]) (by decide) f ⟨rfl, fun b hb => zI_n (fun z => hb (by rw [z]; decide))⟩, c + 1, ⟨rfl, by omega⟩, fun s hs => ?_⟩
    show (zI τ 234 _).1 234 (spN a s n) = _
    rw [zI_s, upd_i]
    by_cases z : s = c
    · rw [if_pos (by rw [z]), z]
    · rw [if_neg (fun y => z ?_)]
      · exact h s (by omega)
      · have a1 := sa_sp (s := s) hP (by omega)
        have a2 := sa_sp (s := c) hP (by omega)
        rw [y, a2] at a1
        exact a1.symm
/-- the rows of the unlike blocks so far -/
def UL (Gr : Nat → Nat → Bool) (n k m : Nat) (f : Nat → Int32) : Prop := ∀ e, e < m → FO Gr n k e → ∀ t, t < 2 ^ (n - k) → f (2 ^ (n - k) * cF Gr n k e + t) = bI (BB Gr n k e t)
/-- an unlike block before e like it: known -/
theorem vr_isKnown {e : Nat} (hR : RF σ.2.2) (hr : r < 10) (hk : k < n) (n10 : n ≤ 10) (he : e < 2 ^ k) (hl : ∀ t, t < 2 ^ (n - k) → σ.1 234 (e * 2 ^ (n - k) + t) = bI (BB Gr n k (r * 2 ^ k + e) t)) (hm : σ.1 218 32 = nI (cF Gr n k (r * 2 ^ k + e))) (hU : UL Gr n k (r * 2 ^ k + e) (σ.1 236)) : Px (f_X12_isKnown N 218 (nI (e * 2 ^ (n - k))) (nI (2 ^ (n - k))) σ) σ (fun v => (v = 0 ∨ v = 1) ∧ (v = 1 ↔ ∃ e2, e2 < r * 2 ^ k + e ∧ FO Gr n k e2 ∧ SM Gr n k (r * 2 ^ k + e) e2)) := by
  have p2 := p2le n10
  have pk := p2le (show k ≤ 10 by omega)
  have pl := p2le (show n - k ≤ 10 by omega)
  have pp : 2 ^ k * 2 ^ (n - k) = 2 ^ n := by rw [← Nat.pow_add, show k + (n - k) = n by omega]
  have rb1 : r * 2 ^ k ≤ 9 * 2 ^ k := Nat.mul_le_mul_right _ (by omega)
  have cm : cF Gr n k (r * 2 ^ k + e) ≤ r * 2 ^ k + e := cF_m
  have eb : (e + 1) * 2 ^ (n - k) ≤ 2 ^ k * 2 ^ (n - k) := Nat.mul_le_mul_right _ he
  rw [Nat.add_mul, Nat.one_mul] at eb
  have rowb : ∀ u, u ≤ 10 * 2 ^ k → 2 ^ (n - k) * u ≤ 10240 := fun u hu => by
    have h1 : 2 ^ (n - k) * u ≤ 2 ^ (n - k) * (10 * 2 ^ k) := Nat.mul_le_mul_left _ hu
    have h2 : 2 ^ (n - k) * (10 * 2 ^ k) = 10 * (2 ^ k * 2 ^ (n - k)) := by rw [Nat.mul_comm, Nat.mul_assoc]
    omega
  rw [f_X12_isKnown.eq_1]
  refine pt_lp (fun x : Int32 × zS => x.2 = σ ∧ ∃ u, (x.1 = nI u ∧ u ≤ cF Gr n k (r * 2 ^ k + e)) ∧ ∀ e2, e2 < r * 2 ^ k + e → FO Gr n k e2 → cF Gr n k e2 < u → ¬ SM Gr n k (r * 2 ^ k + e) e2) (fun again x hJ ih => ?_) N _ ⟨rfl, 0, ⟨rfl, Nat.zero_le _⟩, fun _ _ _ h => absurd h (Nat.not_lt_zero _)⟩
  obtain ⟨y, τ⟩ := x
  obtain ⟨eo, u, ⟨eu, hu⟩, hno⟩ := hJ
  have e1 : τ = σ := eo
  have eu : y = nI u := eu
  clear eo
  subst e1
  subst eu
  rw [F_X12_isKnown_2.eq_1]
  refine pt_gI ?_
  rw [hm]
  refine pt_if (fun q => ?_) (fun q => ?_)
  · rw [nI_leb (by omega) (by omega)] at q
    refine pt_rZ ⟨rfl, Or.inl rfl, fun z => absurd (show (0 : Int32) = 1 from z) (by decide), fun ⟨e2, h1, h2, h3⟩ => absurd h3 (hno e2 h1 h2 ?_)⟩
    have : cF Gr n k e2 < cF Gr n k (r * 2 ^ k + e) := ct_lt_ h1 (bl_t.mpr h2)
    omega
  · rw [nI_leb (by omega) (by omega)] at q
    obtain ⟨e2, h1, h2, h3⟩ := ct_at (p := bl (FO Gr n k)) (M := r * 2 ^ k + e) (i := u) (by show u < cF Gr n k (r * 2 ^ k + e); omega)
    have h2 : FO Gr n k e2 := bl_t.mp h2
    have h3 : cF Gr n k e2 = u := h3
    have row := hU e2 h1 h2
    rw [h3] at row
    have ru := rowb u (by omega)
    refine pt_lp (fun x : Int32 × Int32 × zS => x.2.2 = τ ∧ ∃ i, (x.2.1 = nI i ∧ i ≤ 2 ^ (n - k)) ∧ ((x.1 = 1 ∧ ∀ t, t < i → BB Gr n k e2 t = BB Gr n k (r * 2 ^ k + e) t) ∨ (x.1 = 0 ∧ ∃ t, t < 2 ^ (n - k) ∧ BB Gr n k e2 t ≠ BB Gr n k (r * 2 ^ k + e) t))) (fun again2 x hJ ih2 => ?_) N _ ⟨rfl, 0, ⟨rfl, Nat.zero_le _⟩, Or.inl ⟨rfl, fun t ht => absurd ht (Nat.not_lt_zero _)⟩⟩
    obtain ⟨z4, z5, φ⟩ := x
    obtain ⟨eo, i, ⟨ei, hi⟩, hz⟩ := hJ
    have e1 : φ = τ := eo
    have ei : z5 = nI i := ei
    have hz : (z4 = 1 ∧ ∀ t, t < i → BB Gr n k e2 t = BB Gr n k (r * 2 ^ k + e) t) ∨ (z4 = 0 ∧ ∃ t, t < 2 ^ (n - k) ∧ BB Gr n k e2 t ≠ BB Gr n k (r * 2 ^ k + e) t) := hz
    clear eo
    subst e1
    subst ei
    have J0 : z4 = 0 → Pt (J_X12_isKnown_63 N again 218 (nI (e * 2 ^ (n - k))) (nI (2 ^ (n - k))) (nI u) z4 φ) (fun r_1 => r_1.2 = φ ∧ (r_1.1 = 0 ∨ r_1.1 = 1) ∧ (r_1.1 = 1 ↔ ∃ e2, e2 < r * 2 ^ k + e ∧ FO Gr n k e2 ∧ SM Gr n k (r * 2 ^ k + e) e2)) := fun z => by
      rw [J_X12_isKnown_63.eq_1]
      refine pt_if (fun _ => ?_) (fun w => absurd z w)
      rw [nI_m1]
      refine ih (nI (u + 1), φ) ⟨rfl, u + 1, ⟨rfl, by omega⟩, fun e3 g1 g2 g3 => ?_⟩
      by_cases w : cF Gr n k e3 = u
      · have : e3 = e2 := ct_inj (bl_t.mpr g2) (bl_t.mpr h2) (w.trans h3.symm)
        subst this
        obtain ⟨t, _, ht⟩ := (hz.resolve_left (fun a => absurd (a.1.symm.trans z) (by decide))).2
        exact fun s => ht (s t)
      · exact hno e3 g1 g2 (by omega)
    rw [F_X12_isKnown_16.eq_1]
    refine pt_if (fun w => ?_) (fun w => pt_if (fun z => J0 z) (fun z => ?_))
    · rw [nlt (by omega) (by omega)] at w
      rcases hz with ⟨z1, hs⟩ | ⟨z0, _⟩
      · rw [J_X12_isKnown_63.eq_1]
        refine pt_if (fun z => absurd (z1.symm.trans z) (by decide)) (fun _ => pt_rZ ⟨rfl, Or.inr rfl, fun _ => ⟨e2, h1, h2, fun t => ?_⟩, fun _ => rfl⟩)
        by_cases y : t < 2 ^ (n - k)
        · exact hs t (by omega)
        · rw [bb_0 (by omega), bb_0 (by omega)]
      · exact J0 z0
    · rw [nlt (by omega) (by omega)] at w
      have hs := (hz.resolve_right (fun a => z a.1)).2
      refine pt_gR (v := 236) (hR 218 31 rfl) (pt_aI (pt_gR (v := 234) (hR 218 29 rfl) (pt_aI ?_)))
      rw [nI_mul, nI_plus, nI_plus, iNb (m := 2 ^ (n - k) * u + i) (by omega), iNb (m := e * 2 ^ (n - k) + i) (by omega), row i (by omega), hl i (by omega), nI_m1]
      refine pt_if (fun y => ?_) (fun y => ?_)
      · rw [bI_i] at y
        refine ih2 (1, nI (i + 1), φ) ⟨rfl, i + 1, ⟨rfl, by omega⟩, Or.inl ⟨rfl, fun t ht => ?_⟩⟩
        by_cases x : t = i
        · rw [x]; exact y
        · exact hs t (by omega)
      · rw [bI_i] at y
        exact ih2 (0, nI (i + 1), φ) ⟨rfl, i + 1, ⟨rfl, by omega⟩, Or.inr ⟨rfl, i, by omega, y⟩⟩
/-- the blocks of one register -/
theorem vr_adds (hR : RF σ.2.2) (hr : r < 10) (hk : k < n) (en : σ.1 219 0 = nI n) (n10 : n ≤ 10) (hl : ∀ i, i < 2 ^ n → σ.1 234 i = bI (Gr r i)) (hm : σ.1 218 32 = nI (cF Gr n k (r * 2 ^ k))) (hU : UL Gr n k (r * 2 ^ k) (σ.1 236)) : Pt (f_X12_adds N 218 (nI k) σ) (fun x => FW_ [218, 236] σ x.2 ∧ x.2.1 218 32 = nI (cF Gr n k ((r + 1) * 2 ^ k)) ∧ UL Gr n k ((r + 1) * 2 ^ k) (x.2.1 236)) := by
  have n0 : 0 < n := by omega
  have p2 := p2le n10
  have pk := p2le (show k ≤ 10 by omega)
  have pl := p2le (show n - k ≤ 10 by omega)
  obtain ⟨hh, hp0, _⟩ := pw2 hk
  have pp : 2 ^ k * 2 ^ (n - k) = 2 ^ n := by rw [← Nat.pow_add, show k + (n - k) = n by omega]
  have rb1 : r * 2 ^ k ≤ 9 * 2 ^ k := Nat.mul_le_mul_right _ (by omega)
  have emn : mn (σ.1 219 0) = 2 ^ n := by rw [en, mnn n0 n10]
  have hn : 0 ≤ (σ.1 219 0).toInt ∧ (σ.1 219 0).toInt ≤ 10 := by rw [en, nI_toInt (by omega)]; omega
  have rowb : ∀ u, u ≤ 10 * 2 ^ k → 2 ^ (n - k) * u ≤ 10240 := fun u hu => by
    have h1 : 2 ^ (n - k) * u ≤ 2 ^ (n - k) * (10 * 2 ^ k) := Nat.mul_le_mul_left _ hu
    have h2 : 2 ^ (n - k) * (10 * 2 ^ k) = 10 * (2 ^ k * 2 ^ (n - k)) := by rw [Nat.mul_comm, Nat.mul_assoc]
    omega
  rw [f_X12_adds.eq_1]
  refine pt_gC (pt_zbq (vr_mn hR hn) (fun v hv => ?_))
  subst hv
  rw [emn, shr10 n (by omega) k (by omega) (by omega)]
  refine pt_lp (fun x : Int32 × zS => FW_ [218, 236] σ x.2 ∧ ∃ e, (x.1 = nI (e * 2 ^ (n - k)) ∧ e ≤ 2 ^ k) ∧ x.2.1 218 32 = nI (cF Gr n k (r * 2 ^ k + e)) ∧ UL Gr n k (r * 2 ^ k + e) (x.2.1 236)) (fun again x hJ ih => ?_) N _ ⟨FW_r, 0, ⟨by rw [Nat.zero_mul]; rfl, Nat.zero_le _⟩, hm, hU⟩
  obtain ⟨y, τ⟩ := x
  obtain ⟨f, e, ⟨ee, he⟩, hm, hU⟩ := hJ
  have f : FW_ [218, 236] σ τ := f
  have ee : y = nI (e * 2 ^ (n - k)) := ee
  subst ee
  have hm : τ.1 218 32 = nI (cF Gr n k (r * 2 ^ k + e)) := hm
  have hU : UL Gr n k (r * 2 ^ k + e) (τ.1 236) := hU
  have Rt : RF τ.2.2 := by rw [f.1]; exact hR
  have e19 : τ.1 219 = σ.1 219 := f.2 219 (by decide)
  have eb : e * 2 ^ (n - k) ≤ 2 ^ k * 2 ^ (n - k) := Nat.mul_le_mul_right _ he
  rw [F_X12_adds_9.eq_1]
  refine pt_gC (pt_zbq (vr_mn Rt (by rw [e19]; exact hn)) (fun v hv => ?_))
  subst hv
  rw [e19, emn]
  refine pt_if (fun q => ?_) (fun q => ?_)
  · rw [nlt (by omega) (by omega)] at q
    have e2 : e = 2 ^ k := by
      have : 2 ^ k * 2 ^ (n - k) ≤ e * 2 ^ (n - k) := by omega
      have := Nat.le_of_mul_le_mul_right this pl.2
      omega
    subst e2
    have e3 : r * 2 ^ k + 2 ^ k = (r + 1) * 2 ^ k := by rw [Nat.add_mul, Nat.one_mul]
    rw [e3] at hm hU
    exact pt_some ⟨f, hm, hU⟩
  · rw [nlt (by omega) (by omega)] at q
    have e1 : e < 2 ^ k := by
      by_cases z : e < 2 ^ k
      · exact z
      · have : 2 ^ k * 2 ^ (n - k) ≤ e * 2 ^ (n - k) := Nat.mul_le_mul_right _ (by omega)
        omega
    have eb2 : (e + 1) * 2 ^ (n - k) ≤ 2 ^ k * 2 ^ (n - k) := Nat.mul_le_mul_right _ e1
    have es : (e + 1) * 2 ^ (n - k) = e * 2 ^ (n - k) + 2 ^ (n - k) := by rw [Nat.add_mul, Nat.one_mul]
    have cm : cF Gr n k (r * 2 ^ k + e) ≤ r * 2 ^ k + e := cF_m
    have hb : ∀ t, t < 2 ^ (n - k) → BB Gr n k (r * 2 ^ k + e) t = Gr r (e * 2 ^ (n - k) + t) := fun t ht => by rw [bb_r e1, decide_eq_true ht, Bool.true_and]
    have lay : ∀ t, t < 2 ^ (n - k) → τ.1 234 (e * 2 ^ (n - k) + t) = bI (BB Gr n k (r * 2 ^ k + e) t) := fun t ht => by rw [f.2 234 (by decide), hl _ (by omega), hb t ht]
    have nxt0 : ∀ φ : zS, φ = τ → ¬ FO Gr n k (r * 2 ^ k + e) → Pt (again (nI (e * 2 ^ (n - k)) + nI (2 ^ (n - k)), φ)) (fun x => FW_ [218, 236] σ x.2 ∧ x.2.1 218 32 = nI (cF Gr n k ((r + 1) * 2 ^ k)) ∧ UL Gr n k ((r + 1) * 2 ^ k) (x.2.1 236)) := fun φ hφ nf => by
      subst hφ
      rw [nI_plus, ← es]
      refine ih (_, φ) ⟨f, e + 1, ⟨rfl, by omega⟩, ?_, fun e2 h1 h2 => ?_⟩
      · show φ.1 218 32 = nI (cF Gr n k (r * 2 ^ k + e + 1))
        rw [cF_f nf]; exact hm
      · by_cases z : e2 = r * 2 ^ k + e
        · rw [z] at h2; exact absurd h2 nf
        · exact hU e2 (by omega) h2
    refine pt_nz ?_
    have d2 := div2p (n - k - 1) (by omega)
    rw [show n - k - 1 + 1 = n - k by omega] at d2
    rw [d2]
    refine pt_lp (fun x : Int32 × Int32 × zS => x.2.2 = τ ∧ ∃ i, (x.2.1 = nI i ∧ 2 ^ (n - k - 1) ≤ i ∧ i ≤ 2 ^ (n - k)) ∧ ((x.1 = 0 ∧ ∀ t, 2 ^ (n - k - 1) ≤ t → t < i → BB Gr n k (r * 2 ^ k + e) t = false) ∨ (¬ x.1 = 0 ∧ QQ Gr n k (r * 2 ^ k + e)))) (fun again2 x hJ ih2 => ?_) N _ ⟨rfl, _, ⟨rfl, Nat.le_refl _, by omega⟩, Or.inl ⟨rfl, fun t h1 h2 => absurd h2 (by omega)⟩⟩
    obtain ⟨z4, z5, φ⟩ := x
    obtain ⟨eo, i, ⟨ei, hi1, hi2⟩, hz⟩ := hJ
    have ephi : φ = τ := eo
    have ei : z5 = nI i := ei
    have hz : (z4 = 0 ∧ ∀ t, 2 ^ (n - k - 1) ≤ t → t < i → BB Gr n k (r * 2 ^ k + e) t = false) ∨ (¬ z4 = 0 ∧ QQ Gr n k (r * 2 ^ k + e)) := hz
    clear eo
    subst ephi
    subst ei
    -- behind the look for an upper half
    have J : (z4 = 0 → ¬ QQ Gr n k (r * 2 ^ k + e)) → Pt (J_X12_adds_53 N again 218 (nI (2 ^ (n - k))) (nI (e * 2 ^ (n - k))) z4 φ) (fun x => FW_ [218, 236] σ x.2 ∧ x.2.1 218 32 = nI (cF Gr n k ((r + 1) * 2 ^ k)) ∧ UL Gr n k ((r + 1) * 2 ^ k) (x.2.1 236)) := fun hq => by
      rw [J_X12_adds_53.eq_1]
      refine pt_if (fun z => nxt0 φ rfl (fun fo => hq z fo.1)) (fun z => ?_)
      have qq := (hz.resolve_left (fun a => z a.1)).2
      refine pt_gC (pt_zbq (vr_isKnown (Gr := Gr) Rt hr hk n10 e1 lay hm hU) (fun v5 h5 => pt_if (fun w => ?_) (fun w => nxt0 φ rfl (fun fo => ?_))))
      · have fo : FO Gr n k (r * 2 ^ k + e) := ⟨qq, fun e2 h1 h2 h3 => by
          obtain ⟨e3, g1, g2, g3⟩ := FO_ex e2 h2 h3
          have := h5.2.mpr ⟨e3, by omega, g2, g3⟩
          exact absurd (w.symm.trans this) (by decide)⟩
        have ru := rowb (cF Gr n k (r * 2 ^ k + e)) (by omega)
        refine pt_lp (fun x : Int32 × zS => FW_ [236] φ x.2 ∧ ∃ c, (x.1 = nI c ∧ c ≤ 2 ^ (n - k)) ∧ (∀ j, j < 2 ^ (n - k) * cF Gr n k (r * 2 ^ k + e) → x.2.1 236 j = φ.1 236 j) ∧ ∀ t, t < c → x.2.1 236 (2 ^ (n - k) * cF Gr n k (r * 2 ^ k + e) + t) = bI (BB Gr n k (r * 2 ^ k + e) t)) (fun again3 x hJ ih3 => ?_) N _ ⟨FW_r, 0, ⟨rfl, Nat.zero_le _⟩, fun _ _ => rfl, fun t ht => absurd ht (Nat.not_lt_zero _)⟩
        obtain ⟨w5, ψ⟩ := x
        obtain ⟨g, c, ⟨ec, hc⟩, old, new⟩ := hJ
        have g : FW_ [236] φ ψ := g
        have ec : w5 = nI c := ec
        subst ec
        have old : ∀ j, j < 2 ^ (n - k) * cF Gr n k (r * 2 ^ k + e) → ψ.1 236 j = φ.1 236 j := old
        have new : ∀ t, t < c → ψ.1 236 (2 ^ (n - k) * cF Gr n k (r * 2 ^ k + e) + t) = bI (BB Gr n k (r * 2 ^ k + e) t) := new
        have Rp : RF ψ.2.2 := by rw [g.1]; exact Rt
        rw [F_X12_adds_73.eq_1]
        refine pt_if (fun q2 => ?_) (fun q2 => ?_)
        · rw [nlt (by omega) (by omega)] at q2
          have cc : c = 2 ^ (n - k) := by omega
          subst cc
          refine pt_gI ?_
          rw [g.2 218 (by decide), hm, nI_m1]
          refine pt_pIx (fun ω a1 b1 c1 => ?_)
          rw [nI_plus, ← es]
          refine ih (_, ω) ⟨⟨c1.trans (g.1.trans f.1), fun b hb => ?_⟩, e + 1, ⟨rfl, by omega⟩, ?_, fun e2 h1 h2 => ?_⟩
          · show ω.1 b = σ.1 b
            rw [b1 b (fun z => hb (by rw [z]; decide)), g.2 b (fun z => hb (List.mem_cons_of_mem _ z)), f.2 b hb]
          · show ω.1 218 32 = nI (cF Gr n k (r * 2 ^ k + e + 1))
            rw [a1, upd_s, cF_t fo]
          · show ∀ t, t < 2 ^ (n - k) → ω.1 236 _ = _
            rw [b1 236 (by decide)]
            by_cases z : e2 = r * 2 ^ k + e
            · rw [z]; exact new
            · intro t ht
              have l2 : cF Gr n k e2 < cF Gr n k (r * 2 ^ k + e) := ct_lt_ (show e2 < r * 2 ^ k + e by omega) (bl_t.mpr h2)
              have l3 : 2 ^ (n - k) * (cF Gr n k e2 + 1) ≤ 2 ^ (n - k) * cF Gr n k (r * 2 ^ k + e) := Nat.mul_le_mul_left _ l2
              rw [Nat.mul_add, Nat.mul_one] at l3
              rw [old _ (by omega)]
              exact hU e2 (by omega) h2 t ht
        · rw [nlt (by omega) (by omega)] at q2
          refine pt_gR (v := 236) (Rp 218 31 rfl) (pt_gI (pt_gR (v := 234) (Rp 218 29 rfl) (pt_aI (pt_s16 ?_))))
          rw [g.2 218 (by decide), hm, nI_mul, nI_plus, nI_plus, iNb (m := 2 ^ (n - k) * cF Gr n k (r * 2 ^ k + e) + c) (by omega), iNb (m := e * 2 ^ (n - k) + c) (by omega), g.2 234 (by decide), lay c (by omega), nrz bI_01, nI_m1]
          refine ih3 (nI (c + 1), _) ⟨FW_t (S := [236]) (by decide) g ⟨rfl, fun b hb => zI_n (fun z => hb (by rw [z]; decide))⟩, c + 1, ⟨rfl, by omega⟩, fun j hj => ?_, fun t ht => ?_⟩
          · show (zI ψ 236 _).1 236 j = _
            rw [zI_s, upd_n (by omega)]; exact old j hj
          · show (zI ψ 236 _).1 236 (2 ^ (n - k) * cF Gr n k (r * 2 ^ k + e) + t) = _
            rw [zI_s, upd_i]
            by_cases z : t = c
            · rw [if_pos (by rw [z]), z]
            · rw [if_neg (by omega)]; exact new t (by omega)
      · obtain ⟨e2, h1, h2, h3⟩ := h5.2.mp (h5.1.resolve_left w)
        exact fo.2 e2 h1 h2.1 h3
    rw [F_X12_adds_25.eq_1]
    refine pt_if (fun w => J (fun z => ?_)) (fun w => pt_if (fun z => ?_) (fun z => J (fun y => absurd y z)))
    · rw [nlt (by omega) (by omega)] at w
      have hs := (hz.resolve_right (fun a => a.1 z)).2
      rintro ⟨t, h1, h2⟩
      have := bb_t h2
      rw [hs t h1 (by omega)] at h2
      cases h2
    · rw [nlt (by omega) (by omega)] at w
      have hs := (hz.resolve_right (fun a => a.1 z)).2
      refine pt_gR (v := 234) (Rt 218 29 rfl) (pt_aI ?_)
      rw [nI_plus, iNb (m := e * 2 ^ (n - k) + i) (by omega), lay i (by omega), nI_m1]
      refine ih2 (_, nI (i + 1), φ) ⟨rfl, i + 1, ⟨rfl, by omega, by omega⟩, ?_⟩
      show (bI _ = 0 ∧ _) ∨ (¬ bI _ = 0 ∧ _)
      cases b : BB Gr n k (r * 2 ^ k + e) i with
      | false =>
        refine Or.inl ⟨rfl, fun t h1 h2 => ?_⟩
        by_cases x : t = i
        · rw [x]; exact b
        · exact hs t h1 (by omega)
      | true => exact Or.inr ⟨by decide, i, hi1, b⟩
/-- rows of the blocks looked at: laid, unlike; fields of the object -/
def NRL : List Nat := [218, 234, 236]
theorem vr_wideOf {p : Nat} (hR : RF σ.2.2) (hp : p < 10) (hk : k < n) (en : σ.1 219 0 = nI n) (n10 : n ≤ 10) (hP : PmO n a) (ha : ∀ k, k < n → σ.1 235 k = nI (a k)) : Pt (f_X12_wideOf N 218 (nI p) (nI k) σ) (fun x => FW_ NRL σ x.2 ∧ x.1 = nI (cF (fun _ e => Rg (σ.1 220) p (saN a n e n)) n k (2 ^ k))) := by
  rw [f_X12_wideOf.eq_1]
  refine pt_gC (pt_zb (vr_laysOut (n := n) (a := a) hR hp en (by omega) n10 hP ha) (fun _ σ2 h2 => ?_))
  obtain ⟨f2, l2⟩ := h2
  have f2 : FW_ [234] σ σ2 := f2
  have l2 : ∀ e, e < 2 ^ n → σ2.1 234 e = bI (Rg (σ.1 220) p (saN a n e n)) := l2
  refine pt_pIx (fun σ3 a3 b3 c3 => ?_)
  have R3 : RF σ3.2.2 := by rw [c3, f2.1]; exact hR
  refine pt_gC (pt_zb (vr_adds (r := 0) (Gr := fun _ e => Rg (σ.1 220) p (saN a n e n)) R3 (by decide) hk (by rw [b3 219 (by decide), f2.2 219 (by decide)]; exact en) n10 (fun i hi => by rw [b3 234 (by decide)]; exact l2 i hi) (by rw [a3, upd_s, Nat.zero_mul]; rfl) (fun e he => absurd he (by rw [Nat.zero_mul]; exact Nat.not_lt_zero _))) (fun _ σ5 h5 => ?_))
  obtain ⟨f5, m5, _⟩ := h5
  have f5 : FW_ [218, 236] σ3 σ5 := f5
  have m5 : σ5.1 218 32 = nI (cF (fun _ e => Rg (σ.1 220) p (saN a n e n)) n k ((0 + 1) * 2 ^ k)) := m5
  refine pt_gI (pt_some ⟨⟨f5.1.trans (c3.trans f2.1), fun b hb => ?_⟩, ?_⟩)
  · unfold NRL at hb
    simp only [List.mem_cons, List.not_mem_nil, or_false, not_or] at hb
    show σ5.1 b = _
    rw [f5.2 b (by simp only [List.mem_cons, List.not_mem_nil, or_false, not_or]; omega), b3 b (by omega), f2.2 b (by simp only [List.mem_cons, List.not_mem_nil, or_false]; omega)]
  · show σ5.1 218 32 = _
    rw [m5, Nat.zero_add, Nat.one_mul]
theorem vr_nodesOf {p : Nat} (hR : RF σ.2.2) (hp : p < 10) (en : σ.1 219 0 = nI n) (n10 : n ≤ 10) (hP : PmO n a) (ha : ∀ k, k < n → σ.1 235 k = nI (a k)) : Pt (f_X12_nodesOf N 218 (nI p) σ) (fun x => FW_ NRL σ x.2 ∧ x.1 = nI (aN (fun _ e => Rg (σ.1 220) p (saN a n e n)) n 1)) := by
  rw [f_X12_nodesOf.eq_1]
  refine pt_lp (fun x : Int32 × Int32 × zS => FW_ NRL σ x.2.2 ∧ ∃ k, (x.2.1 = nI k ∧ k ≤ n) ∧ x.1 = nI (sF (fun k => cF (fun _ e => Rg (σ.1 220) p (saN a n e n)) n k (1 * 2 ^ k)) k)) (fun again x hJ ih => ?_) N _ ⟨FW_r, 0, ⟨rfl, Nat.zero_le _⟩, rfl⟩
  obtain ⟨y, w, τ⟩ := x
  obtain ⟨f, k, ⟨ek, hk⟩, ey⟩ := hJ
  have f : FW_ NRL σ τ := f
  have ek : w = nI k := ek
  have ey : y = nI (sF (fun k => cF (fun _ e => Rg (σ.1 220) p (saN a n e n)) n k (1 * 2 ^ k)) k) := ey
  subst ek
  subst ey
  have Rt : RF τ.2.2 := by rw [f.1]; exact hR
  have e19 : τ.1 219 = σ.1 219 := f.2 219 (by decide)
  rw [F_X12_nodesOf_4.eq_1]
  refine pt_gR (v := 219) (Rt 218 1 rfl) (pt_aI ?_)
  rw [show (0 : Int32).toInt.toNat = 0 from rfl, e19, en]
  refine pt_if (fun q => ?_) (fun q => ?_)
  · rw [nlt (by omega) (by omega)] at q
    have : k = n := by omega
    subst this
    exact pt_some ⟨f, rfl⟩
  · rw [nlt (by omega) (by omega)] at q
    refine pt_gC (pt_zb (vr_wideOf (n := n) (a := a) Rt hp (show k < n by omega) (by rw [e19]; exact en) n10 hP (fun j hj => by rw [f.2 235 (by decide)]; exact ha j hj)) (fun v φ h => ?_))
    obtain ⟨g, ev⟩ := h
    have g : FW_ NRL τ φ := g
    have ev : v = nI (cF (fun _ e => Rg (τ.1 220) p (saN a n e n)) n k (2 ^ k)) := ev
    rw [f.2 220 (by decide)] at ev
    subst ev
    rw [nI_plus, nI_m1]
    refine ih (_, nI (k + 1), φ) ⟨FW_t (S := NRL) (fun _ h => h) f g, k + 1, ⟨rfl, by omega⟩, ?_⟩
    show nI _ = nI (sF _ k + cF _ n k (1 * 2 ^ k))
    rw [Nat.one_mul]
theorem vr_netOf (hR : RF σ.2.2) (en : σ.1 219 0 = nI n) (n10 : n ≤ 10) (hP : PmO n a) (ha : ∀ k, k < n → σ.1 219 (33 + k) = nI (a k)) : Pt (f_X12_netOf N 218 σ) (fun x => FW_ [218, 234, 235, 236] σ x.2 ∧ x.1 = nI (aN (fun p e => Rg (σ.1 220) p (saN a n e n)) n 10)) := by
  rw [f_X12_netOf.eq_1]
  refine pt_gC (pt_zb (vr_takesOrder hR) (fun _ σ2 h2 => ?_))
  obtain ⟨f2, l2⟩ := h2
  have f2 : FW_ [235] σ σ2 := f2
  have l2 : ∀ j, j < 10 → σ2.1 235 j = σ.1 219 (33 + j) := l2
  have ha2 : ∀ k, k < n → σ2.1 235 k = nI (a k) := fun k hk => by rw [l2 k (by omega)]; exact ha k hk
  refine pt_w (Q := fun x => FW_ NRL σ2 x.2 ∧ x.1 = nI (aN (fun p e => Rg (σ.1 220) p (saN a n e n)) n 10)) ?_ (fun x h => ⟨⟨h.1.1.trans f2.1, fun b hb => (h.1.2 b (fun z => hb ((by decide : ∀ b ∈ NRL, b ∈ [218, 234, 235, 236]) b z))).trans (f2.2 b (fun z => hb ((by decide : ∀ b ∈ [235], b ∈ [218, 234, 235, 236]) b z)))⟩, h.2⟩)
  refine pt_lp (fun x : Int32 × Int32 × zS => FW_ NRL σ2 x.2.2 ∧ ∃ k, (x.2.1 = nI k ∧ k ≤ n) ∧ x.1 = nI (sF (fun k => cF (fun p e => Rg (σ.1 220) p (saN a n e n)) n k (10 * 2 ^ k)) k)) (fun again x hJ ih => ?_) N _ ⟨FW_r, 0, ⟨rfl, Nat.zero_le _⟩, rfl⟩
  obtain ⟨y, w, τ⟩ := x
  obtain ⟨f, k, ⟨ek, hk⟩, ey⟩ := hJ
  have f : FW_ NRL σ2 τ := f
  have ek : w = nI k := ek
  have ey : y = nI (sF (fun k => cF (fun p e => Rg (σ.1 220) p (saN a n e n)) n k (10 * 2 ^ k)) k) := ey
  subst ek
  subst ey
  have Rt : RF τ.2.2 := by rw [f.1, f2.1]; exact hR
  have e19 : τ.1 219 = σ.1 219 := (f.2 219 (by decide)).trans (f2.2 219 (by decide))
  rw [F_X12_netOf_8.eq_1]
  refine pt_gR (v := 219) (Rt 218 1 rfl) (pt_aI ?_)
  rw [show (0 : Int32).toInt.toNat = 0 from rfl, e19, en]
  refine pt_if (fun q => ?_) (fun q => ?_)
  · rw [nlt (by omega) (by omega)] at q
    have : k = n := by omega
    subst this
    exact pt_some ⟨f, rfl⟩
  · rw [nlt (by omega) (by omega)] at q
    have hk2 : k < n := by omega
    refine pt_pIx (fun τ1 a1 b1 c1 => ?_)
    have f1 : FW_ NRL σ2 τ1 := FW_t (S := [218]) (by decide) f ⟨c1, fun b hb => b1 b (fun z => hb (by rw [z]; decide))⟩
    refine pt_lp (fun x : Int32 × zS => FW_ NRL σ2 x.2 ∧ ∃ p, (x.1 = nI p ∧ p ≤ 10) ∧ x.2.1 218 32 = nI (cF (fun p e => Rg (σ.1 220) p (saN a n e n)) n k (p * 2 ^ k)) ∧ UL (fun p e => Rg (σ.1 220) p (saN a n e n)) n k (p * 2 ^ k) (x.2.1 236)) (fun again2 x hJ ih2 => ?_) N _ ⟨f1, 0, ⟨rfl, by decide⟩, by show τ1.1 218 32 = _; rw [a1, upd_s, Nat.zero_mul]; rfl, fun e he => absurd he (by rw [Nat.zero_mul]; exact Nat.not_lt_zero _)⟩
    obtain ⟨w3, φ⟩ := x
    obtain ⟨g, p, ⟨ep, hp⟩, gm, gU⟩ := hJ
    have g : FW_ NRL σ2 φ := g
    have ep : w3 = nI p := ep
    subst ep
    have gm : φ.1 218 32 = nI (cF (fun p e => Rg (σ.1 220) p (saN a n e n)) n k (p * 2 ^ k)) := gm
    have gU : UL (fun p e => Rg (σ.1 220) p (saN a n e n)) n k (p * 2 ^ k) (φ.1 236) := gU
    have Rp : RF φ.2.2 := by rw [g.1, f2.1]; exact hR
    have g19 : φ.1 219 = σ.1 219 := (g.2 219 (by decide)).trans (f2.2 219 (by decide))
    have g20 : φ.1 220 = σ.1 220 := (g.2 220 (by decide)).trans (f2.2 220 (by decide))
    rw [F_X12_netOf_25.eq_1]
    refine pt_if (fun z => ?_) (fun z => ?_)
    · have z : nI 10 ≤ nI p := z
      rw [nlt (by omega) (by omega)] at z
      have : p = 10 := by omega
      subst this
      refine pt_gI ?_
      rw [gm, nI_plus, nI_m1]
      exact ih (_, nI (k + 1), φ) ⟨g, k + 1, ⟨rfl, by omega⟩, rfl⟩
    · have z : ¬ nI 10 ≤ nI p := z
      rw [nlt (by omega) (by omega)] at z
      have p10 : p < 10 := by omega
      refine pt_gC (pt_zb (vr_laysOut (n := n) (a := a) Rp p10 (by rw [g19]; exact en) (by omega) n10 hP (fun j hj => by rw [g.2 235 (by decide)]; exact ha2 j hj)) (fun _ ψ h => ?_))
      obtain ⟨i1, i2⟩ := h
      have i1 : FW_ [234] φ ψ := i1
      have i2 : ∀ e, e < 2 ^ n → ψ.1 234 e = bI (Rg (φ.1 220) p (saN a n e n)) := i2
      rw [g20] at i2
      have Rs : RF ψ.2.2 := by rw [i1.1]; exact Rp
      refine pt_gC (pt_zb (vr_adds (r := p) (Gr := fun p e => Rg (σ.1 220) p (saN a n e n)) Rs p10 hk2 (by rw [i1.2 219 (by decide), g19]; exact en) n10 i2 (by rw [i1.2 218 (by decide)]; exact gm) (by rw [i1.2 236 (by decide)]; exact gU)) (fun _ ω h => ?_))
      obtain ⟨j1, j2, j3⟩ := h
      have j1 : FW_ [218, 236] ψ ω := j1
      rw [nI_m1]
      exact ih2 (nI (p + 1), ω) ⟨FW_t (S := [218, 236]) (by decide) (FW_t (S := [234]) (by decide) g i1) j1, p + 1, ⟨rfl, by omega⟩, j2, j3⟩
end RND

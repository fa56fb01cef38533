/-! ===== the class's counts below and products ===== -/
/-- ints of the cells of I and longs of the rows of L alone may be other -/
def AG (I L : List Nat) (σ τ : zS) : Prop := (∀ a, a ∉ I → τ.1 a = σ.1 a) ∧ τ.2.2 = σ.2.2 ∧ ∀ a, a ∉ L → τ.2.1 a = σ.2.1 a
theorem AG.rf {I L : List Nat} {σ : zS} : AG I L σ σ := ⟨fun _ _ => rfl, rfl, fun _ _ => rfl⟩
theorem AG.tr {I L : List Nat} {σ τ υ : zS} (h : AG I L σ τ) (h2 : AG I L τ υ) : AG I L σ υ := ⟨fun a ha => (h2.1 a ha).trans (h.1 a ha), h2.2.1.trans h.2.1, fun a ha => (h2.2.2 a ha).trans (h.2.2 a ha)⟩
theorem AG.wk {I L I2 L2 : List Nat} {σ τ : zS} (h : AG I L σ τ) (hi : ∀ k ∈ I, k ∈ I2) (hl : ∀ k ∈ L, k ∈ L2) : AG I2 L2 σ τ := ⟨fun a ha => h.1 a (fun q => ha (hi a q)), h.2.1, fun a ha => h.2.2 a (fun q => ha (hl a q))⟩
theorem AG.u {I L : List Nat} {σ τ : zS} {k : Nat} {r : Nat → Int32} (h : AG I L σ τ) (hk : k ∈ I) : AG I L σ (zI τ k r) := ⟨fun a ha => (zI_n (fun e => ha (by rw [e]; exact hk))).trans (h.1 a ha), h.2.1, h.2.2⟩
theorem AG.R {I L : List Nat} {σ τ : zS} (h : AG I L σ τ) (hR : RF σ.2.2) : RF τ.2.2 := by rw [h.2.1]; exact hR
theorem LG.A {I L : List Nat} {σ τ : zS} (h : LG L σ τ) : AG I L σ τ := ⟨fun a _ => by rw [h.1], h.2.1, h.2.2⟩
theorem LF.A {I L : List Nat} {k : Nat} {σ τ : zS} (h : LF k σ τ) (hk : k ∈ L) : AG I L σ τ := (h.G hk).A
section PRD
variable {N f n : Nat} {σ : zS}
theorem nI_plus (a b : Nat) : nI a + nI b = nI (a + b) := by
  apply Int32.toBitVec_inj.mp
  rw [Int32.toBitVec_add]
  show BitVec.ofNat 32 a + BitVec.ofNat 32 b = BitVec.ofNat 32 (a + b)
  rw [BitVec.ofNat_add]
theorem nI_mul (a b : Nat) : nI a * nI b = nI (a * b) := by
  apply Int32.toBitVec_inj.mp
  rw [Int32.toBitVec_mul]
  show BitVec.ofNat 32 a * BitVec.ofNat 32 b = BitVec.ofNat 32 (a * b)
  rw [BitVec.ofNat_mul]
theorem nI_sub {a b c : Nat} (h : a = c + b) : nI a - nI b = nI c := by
  rw [h, ← nI_plus]
  exact Int32.add_sub_cancel _ _
theorem nI_z {a : Nat} (h : a < 2147483648) : nI a = 0 ↔ a = 0 := by
  constructor
  · intro q
    have q := congrArg Int32.toInt q
    rw [nI_toInt h] at q
    simp only [Int32.reduceToInt] at q
    omega
  · intro q; rw [q]; rfl
theorem sets10 : ∀ n, n < 11 → ((1 : Int32) <<< ((zmax 0 (zmin 10 (nI n))) &&& 31)) = nI (2 ^ n) := by decide +kernel
theorem shl10 : ∀ k, k < 10 → ((nI (2 ^ k)) <<< ((1 : Int32) &&& 31)) = nI (2 ^ (k + 1)) := by decide +kernel
theorem xsub : ∀ k, k < 10 → ∀ m, m < 1024 → m.testBit k = true → m ^^^ 2 ^ k = m - 2 ^ k ∧ 2 ^ k ≤ m := by decide +kernel
theorem p2le {n : Nat} (hn : n ≤ 10) : 2 ^ n ≤ 1024 ∧ 0 < 2 ^ n := ⟨Nat.le_trans (Nat.pow_le_pow_right (by decide) hn) (by decide : 2 ^ 10 ≤ 1024), Nat.pow_pos (by decide)⟩
theorem andk {m k : Nat} (hm : m < 1024) : (nI m &&& nI (2 ^ k)) = 0 ↔ m.testBit k = false := by
  rw [nI_and, nI_e0 (and_1024 hm)]
  constructor
  · intro h
    have := congrArg (fun b => Nat.testBit b k) h
    simpa [Nat.testBit_and, Nat.testBit_two_pow_self] using this
  · intro h
    apply Nat.eq_of_testBit_eq
    intro i
    rw [Nat.testBit_and, Nat.zero_testBit, Nat.testBit_two_pow]
    by_cases e : k = i
    · rw [← e, h]; rfl
    · rw [decide_eq_false e, Bool.and_false]
theorem v_setsOf (hn : n ≤ 10) : f_X0_setsOf N (nI n) σ = some (nI (2 ^ n), σ) := by
  rw [f_X0_setsOf.eq_1, sets10 n (by omega)]
theorem zc_le {F : Nat → Bool} {k s : Nat} : zc F k s ≤ 1024 := ct_le _ _
theorem pc_le {F G : Nat → Bool} {k s : Nat} : pc F G k s ≤ 1048576 := ct_le _ _
theorem pow_inj {n k : Nat} (h : 2 ^ n ≤ 2 ^ k) : n ≤ k := (Nat.pow_le_pow_iff_right (by decide)).mp h
/-- counts below, the upper loops -/
theorem v_cb43 {x2 : Nat} {F : Nat → Bool} {τ0 : zS} (hn : n ≤ 10) (h0 : AG [x2] [] σ τ0) (hu0 : ∀ s, s < 2 ^ n → τ0.1 x2 s = nI (zc F 0 s)) : Pt (zlp (F_X0_countBelow_43 N x2 (nI (2 ^ n))) N (1, τ0)) (fun r => AG [x2] [] σ r.2 ∧ ∀ s, s < 2 ^ n → r.2.1 x2 s = nI (zc F n s)) := by
  have pn := p2le hn
  refine pt_lp (fun t : Int32 × zS => ∃ k, (t.1 = nI (2 ^ k) ∧ k ≤ n) ∧ AG [x2] [] σ t.2 ∧ ∀ s, s < 2 ^ n → t.2.1 x2 s = nI (zc F k s)) (fun again t hI ih => ?_) N _ ⟨0, ⟨rfl, Nat.zero_le _⟩, h0, hu0⟩
  obtain ⟨x5, τ⟩ := t
  obtain ⟨k, ⟨e, hk⟩, hl, hu⟩ := hI
  have e : x5 = nI (2 ^ k) := e
  subst e
  have hl : AG [x2] [] σ τ := hl
  have hu : ∀ s, s < 2 ^ n → τ.1 x2 s = nI (zc F k s) := hu
  have pk := p2le (n := k) (by omega)
  rw [F_X0_countBelow_43.eq_1]
  refine pt_if (fun q => pt_some ⟨hl, ?_⟩) (fun q => ?_)
  · rw [nlt (by omega) (by omega)] at q
    have ek : k = n := by have := pow_inj q; omega
    subst ek
    exact hu
  · rw [nlt (by omega) (by omega)] at q
    have kn : k < n := by
      rcases Nat.lt_or_ge k n with h | h
      · exact h
      · exact absurd (Nat.pow_le_pow_right (n := 2) (by decide) h) q
    have ks : 2 ^ (k + 1) ≤ 2 ^ n := Nat.pow_le_pow_right (by decide) kn
    refine pt_lp (fun t : Int32 × zS => ∃ m, (t.1 = nI m ∧ 2 ^ k ≤ m ∧ m ≤ 2 ^ n) ∧ AG [x2] [] σ t.2 ∧ ∀ s, s < 2 ^ n → t.2.1 x2 s = nI (if s.testBit k = true ∧ s < m then zc F (k + 1) s else zc F k s)) (fun again5 t hI ih5 => ?_) N _ ⟨2 ^ k, ⟨rfl, Nat.le_refl _, by omega⟩, hl, fun s hs => ?_⟩
    · obtain ⟨x6, υ⟩ := t
      obtain ⟨m, ⟨e, m1, m2⟩, l2, u2⟩ := hI
      have e : x6 = nI m := e
      subst e
      have l2 : AG [x2] [] σ υ := l2
      have u2 : ∀ s, s < 2 ^ n → υ.1 x2 s = nI (if s.testBit k = true ∧ s < m then zc F (k + 1) s else zc F k s) := u2
      rw [F_X0_countBelow_54.eq_1]
      refine pt_if (fun q => ?_) (fun q => ?_)
      · rw [nlt (by omega) (by omega)] at q
        rw [shl10 k (by omega)]
        refine ih (nI (2 ^ (k + 1)), υ) ⟨k + 1, ⟨rfl, kn⟩, l2, fun s hs => ?_⟩
        show υ.1 x2 s = _
        rw [u2 s hs]
        cases b : s.testBit k with
        | true => rw [if_pos ⟨rfl, by omega⟩]
        | false => rw [if_neg (fun h => by cases h.1), zc_s1 b]
      · rw [nlt (by omega) (by omega)] at q
        have hm : m < 1024 := by omega
        refine pt_if (fun z => ?_) (fun z => ?_)
        · rw [andk hm] at z
          rw [nI_s1 (by omega)]
          refine ih5 (nI (m + 1), υ) ⟨m + 1, ⟨rfl, by omega, by omega⟩, l2, fun s hs => ?_⟩
          show υ.1 x2 s = _
          rw [u2 s hs]
          by_cases e : s = m
          · rw [e, if_neg (fun h => by rw [z] at h; cases h.1), if_neg (fun h => by rw [z] at h; cases h.1)]
          · by_cases g : s.testBit k = true ∧ s < m
            · rw [if_pos g, if_pos ⟨g.1, by omega⟩]
            · rw [if_neg g, if_neg (fun h => g ⟨h.1, by omega⟩)]
        · rw [andk hm, Bool.not_eq_false] at z
          obtain ⟨xs, xl⟩ := xsub k (by omega) m hm z
          rw [show nI m - nI (2 ^ k) = nI (m - 2 ^ k) from nI_sub (by omega)]
          refine pt_aI (pt_aI (pt_s14 ?_))
          rw [iN (by omega), iN (by omega), u2 m (by omega), u2 (m - 2 ^ k) (by omega), if_neg (fun h => absurd h.2 (by omega)), if_neg (fun h => by
            have h := h.1
            rw [← xs, xb, z, decide_eq_true rfl] at h
            cases h), ← xs, nI_plus, ← zc_s2 z, nI_s1 (by omega)]
          refine ih5 (nI (m + 1), _) ⟨m + 1, ⟨rfl, by omega, by omega⟩, l2.u (by simp), fun s hs => ?_⟩
          show (zI υ x2 _).1 x2 s = _
          rw [zI_s]
          by_cases e : s = m
          · rw [e, upd_s, if_pos ⟨z, by omega⟩]
          · rw [upd_n e, u2 s hs]
            by_cases g : s.testBit k = true ∧ s < m
            · rw [if_pos g, if_pos ⟨g.1, by omega⟩]
            · rw [if_neg g, if_neg (fun h => g ⟨h.1, by omega⟩)]
    · show τ.1 x2 s = _
      rw [hu s hs, if_neg (fun h => by
        have a := h.1
        rw [tb_lt h.2 (Nat.le_refl _)] at a
        cases a)]
theorem v_countBelow {x0 x2 : Nat} (hR : RF σ.2.2) (h0 : (zKd f).1 = 2) (hn : n ≤ 10) : Pt (f_X0_countBelow N x0 f x2 (nI n) σ) (fun r => AG [x2] [] σ r.2 ∧ ∀ s, s < 2 ^ n → r.2.1 x2 s = nI (zc (bt (σ.2.1 (f + 1))) n s)) := by
  have pn := p2le hn
  rw [f_X0_countBelow.eq_1, v_setsOf hn]
  show Pt (zlp (F_X0_countBelow_9 N f x2 (nI (2 ^ n))) N (0, σ)) _
  refine pt_lp (fun t : Int32 × zS => ∃ m, (t.1 = nI m ∧ m ≤ 2 ^ n) ∧ AG [x2] [] σ t.2 ∧ ∀ s, s < m → t.2.1 x2 s = nI (zc (bt (σ.2.1 (f + 1))) 0 s)) (fun again t hI ih => ?_) N _ ⟨0, ⟨rfl, Nat.zero_le _⟩, AG.rf, fun s hs => absurd hs (Nat.not_lt_zero _)⟩
  obtain ⟨x5, τ⟩ := t
  obtain ⟨m, ⟨e, hm⟩, hl, hu⟩ := hI
  have e : x5 = nI m := e
  subst e
  have hl : AG [x2] [] σ τ := hl
  have hu : ∀ s, s < m → τ.1 x2 s = nI (zc (bt (σ.2.1 (f + 1))) 0 s) := hu
  rw [F_X0_countBelow_9.eq_1]
  refine pt_if (fun q => ?_) (fun q => ?_)
  · rw [nlt (by omega) (by omega)] at q
    exact v_cb43 hn hl (fun s hs => hu s (by omega))
  · rw [nlt (by omega) (by omega)] at q
    have hx : τ.2.1 (f + 1) = σ.2.1 (f + 1) := hl.2.2 _ (by simp)
    refine pt_gC (pt_zbq (v_holds (s := m) (hl.R hR) h0 (by omega)) (fun v hv => ?_))
    rw [hx] at hv
    have go : ∀ w : Int32, w = nI (if bt (σ.2.1 (f + 1)) m = true then 1 else 0) → Pt (zl (sI 14 x2 (nI m) w τ) fun σ8 => again (nI m + 1, σ8)) (fun r => AG [x2] [] σ r.2 ∧ ∀ s, s < 2 ^ n → r.2.1 x2 s = nI (zc (bt (σ.2.1 (f + 1))) n s)) := fun w hw => by
      refine pt_s14 ?_
      rw [iN (by omega), nI_s1 (by omega)]
      refine ih (nI (m + 1), _) ⟨m + 1, ⟨rfl, by omega⟩, hl.u (by simp), fun s hs => ?_⟩
      show (zI τ x2 _).1 x2 s = _
      rw [zI_s]
      by_cases e : s = m
      · rw [e, upd_s, hw, zc_0 (by omega)]
      · rw [upd_n e, hu s (by omega)]
    refine pt_if (fun z => go 0 ?_) (fun z => go 1 ?_)
    · rw [if_neg (fun h => by rw [hv.2.mpr h] at z; exact absurd z (by decide))]; rfl
    · have : v = 1 := hv.1.resolve_left z
      rw [if_pos (hv.2.mp this)]; rfl
/-- the products' last loop: what has a pair comes in -/
theorem v_mu130 {F G : Nat → Bool} {τ0 : zS} (hR : RF σ.2.2) (hF : isF f) (hn : n ≤ 10) (h0 : AG [106, 107] [f + 1] σ τ0) (hu0 : ∀ s, s < 2 ^ n → τ0.1 106 s = nI (pc F G n s)) (hc : ∀ u, u < 1024 → bt (τ0.2.1 (f + 1)) u = false) : Pt (zlp (F_X0_multiply_130 N 99 f (nI (2 ^ n))) N (0, τ0)) (fun r => AG [106, 107] [f + 1] σ r.2 ∧ ∀ u, u < 1024 → (bt (r.2.2.1 (f + 1)) u = true ↔ u < 2 ^ n ∧ ¬ pc F G n u = 0)) := by
  have pn := p2le hn
  refine pt_lp (fun t : Int32 × zS => ∃ m, (t.1 = nI m ∧ m ≤ 2 ^ n) ∧ AG [106, 107] [f + 1] σ t.2 ∧ (∀ s, s < 2 ^ n → t.2.1 106 s = nI (pc F G n s)) ∧ ∀ u, u < 1024 → (bt (t.2.2.1 (f + 1)) u = true ↔ u < m ∧ ¬ pc F G n u = 0)) (fun again t hI ih => ?_) N _ ⟨0, ⟨rfl, Nat.zero_le _⟩, h0, hu0, fun u hu => ?_⟩
  · obtain ⟨x5, τ⟩ := t
    obtain ⟨m, ⟨e, hm⟩, hl, hp, hu⟩ := hI
    have e : x5 = nI m := e
    subst e
    have hl : AG [106, 107] [f + 1] σ τ := hl
    have hp : ∀ s, s < 2 ^ n → τ.1 106 s = nI (pc F G n s) := hp
    have hu : ∀ u, u < 1024 → (bt (τ.2.1 (f + 1)) u = true ↔ u < m ∧ ¬ pc F G n u = 0) := hu
    have R9 := hl.R hR
    rw [F_X0_multiply_130.eq_1]
    refine pt_if (fun q => pt_some ⟨hl, ?_⟩) (fun q => ?_)
    · rw [nlt (by omega) (by omega)] at q
      have em : m = 2 ^ n := by omega
      subst em
      exact hu
    · rw [nlt (by omega) (by omega)] at q
      refine pt_gR (v := 106) (R9 99 3 rfl) (pt_aI ?_)
      rw [iN (by omega), hp m (by omega)]
      refine pt_if (fun z => ?_) (fun z => ?_)
      · rw [nI_z (Nat.lt_of_le_of_lt pc_le (by decide))] at z
        rw [nI_s1 (by omega)]
        refine ih (nI (m + 1), τ) ⟨m + 1, ⟨rfl, by omega⟩, hl, hp, fun u h => ?_⟩
        show bt (τ.2.1 (f + 1)) u = true ↔ _
        rw [hu u h]
        constructor
        · rintro ⟨a, b⟩; exact ⟨by omega, b⟩
        · rintro ⟨a, b⟩
          have ne : ¬ u = m := fun e => by rw [e] at b; exact b z
          exact ⟨by omega, b⟩
      · rw [nI_z (Nat.lt_of_le_of_lt pc_le (by decide))] at z
        refine pt_gC (pt_zb (v_include (s := m) R9 hF.1 (by omega)) (fun _ σ1 h1 => ?_))
        obtain ⟨l1, u1⟩ := h1
        have l1 : LF (f + 1) τ σ1 := l1
        have u1 : ∀ u, u < 1024 → bt (σ1.2.1 (f + 1)) u = (bt (τ.2.1 (f + 1)) u || decide (u = m)) := u1
        rw [nI_s1 (by omega)]
        refine ih (nI (m + 1), σ1) ⟨m + 1, ⟨rfl, by omega⟩, hl.tr (l1.A (by simp)), fun s hs => ?_, fun u h => ?_⟩
        · show σ1.1 106 s = _
          rw [l1.1]; exact hp s hs
        · show bt (σ1.2.1 (f + 1)) u = true ↔ _
          rw [u1 u h, Bool.or_eq_true, hu u h, decide_eq_true_iff]
          constructor
          · rintro (⟨a, b⟩ | a)
            · exact ⟨by omega, b⟩
            · rw [a]; exact ⟨by omega, z⟩
          · rintro ⟨a, b⟩
            by_cases e : u = m
            · exact Or.inr e
            · exact Or.inl ⟨by omega, b⟩
  · show bt (τ0.2.1 (f + 1)) u = true ↔ _
    rw [hc u hu]
    exact ⟨fun h => (by cases h), fun h => absurd h.1 (Nat.not_lt_zero _)⟩
/-- the products' counts of pairs -/
theorem v_mu62 {F G : Nat → Bool} {τ0 : zS} (hR : RF σ.2.2) (hF : isF f) (hn : n ≤ 10) (h0 : AG [106, 107] [f + 1] σ τ0) (hu0 : ∀ s, s < 2 ^ n → τ0.1 106 s = nI (pc F G 0 s)) : Pt (zlp (F_X0_multiply_62 N 99 f (nI (2 ^ n))) N (1, τ0)) (fun r => AG [106, 107] [f + 1] σ r.2 ∧ ∀ u, u < 1024 → (bt (r.2.2.1 (f + 1)) u = true ↔ u < 2 ^ n ∧ ¬ pc F G n u = 0)) := by
  have pn := p2le hn
  refine pt_lp (fun t : Int32 × zS => ∃ k, (t.1 = nI (2 ^ k) ∧ k ≤ n) ∧ AG [106, 107] [f + 1] σ t.2 ∧ ∀ s, s < 2 ^ n → t.2.1 106 s = nI (pc F G k s)) (fun again t hI ih => ?_) N _ ⟨0, ⟨rfl, Nat.zero_le _⟩, h0, hu0⟩
  obtain ⟨x5, τ⟩ := t
  obtain ⟨k, ⟨e, hk⟩, hl, hu⟩ := hI
  have e : x5 = nI (2 ^ k) := e
  subst e
  have hl : AG [106, 107] [f + 1] σ τ := hl
  have hu : ∀ s, s < 2 ^ n → τ.1 106 s = nI (pc F G k s) := hu
  have pk := p2le (n := k) (by omega)
  rw [F_X0_multiply_62.eq_1]
  refine pt_if (fun q => ?_) (fun q => ?_)
  · rw [nlt (by omega) (by omega)] at q
    have ek : k = n := by have := pow_inj q; omega
    subst ek
    refine pt_gC (pt_zb (v_clear (hl.R hR) hF.1) (fun _ σ1 h1 => ?_))
    obtain ⟨l1, u1⟩ := h1
    have l1 : LF (f + 1) τ σ1 := l1
    exact v_mu130 hR hF hn (hl.tr (l1.A (by simp))) (fun s hs => by rw [l1.1]; exact hu s hs) u1
  · rw [nlt (by omega) (by omega)] at q
    have kn : k < n := by
      rcases Nat.lt_or_ge k n with h | h
      · exact h
      · exact absurd (Nat.pow_le_pow_right (n := 2) (by decide) h) q
    have ks : 2 ^ (k + 1) ≤ 2 ^ n := Nat.pow_le_pow_right (by decide) kn
    refine pt_lp (fun t : Int32 × zS => ∃ m, (t.1 = nI m ∧ 2 ^ k ≤ m ∧ m ≤ 2 ^ n) ∧ AG [106, 107] [f + 1] σ t.2 ∧ ∀ s, s < 2 ^ n → t.2.1 106 s = nI (if s.testBit k = true ∧ s < m then pc F G (k + 1) s else pc F G k s)) (fun again5 t hI ih5 => ?_) N _ ⟨2 ^ k, ⟨rfl, Nat.le_refl _, by omega⟩, hl, fun s hs => ?_⟩
    · obtain ⟨x6, υ⟩ := t
      obtain ⟨m, ⟨e, m1, m2⟩, l2, u2⟩ := hI
      have e : x6 = nI m := e
      subst e
      have l2 : AG [106, 107] [f + 1] σ υ := l2
      have u2 : ∀ s, s < 2 ^ n → υ.1 106 s = nI (if s.testBit k = true ∧ s < m then pc F G (k + 1) s else pc F G k s) := u2
      have R9 := l2.R hR
      rw [F_X0_multiply_73.eq_1]
      refine pt_if (fun q => ?_) (fun q => ?_)
      · rw [nlt (by omega) (by omega)] at q
        rw [shl10 k (by omega)]
        refine ih (nI (2 ^ (k + 1)), υ) ⟨k + 1, ⟨rfl, kn⟩, l2, fun s hs => ?_⟩
        show υ.1 106 s = _
        rw [u2 s hs]
        cases b : s.testBit k with
        | true => rw [if_pos ⟨rfl, by omega⟩]
        | false => rw [if_neg (fun h => by cases h.1), pc_s1 b]
      · rw [nlt (by omega) (by omega)] at q
        have hm : m < 1024 := by omega
        refine pt_if (fun z => ?_) (fun z => ?_)
        · rw [andk hm] at z
          rw [nI_s1 (by omega)]
          refine ih5 (nI (m + 1), υ) ⟨m + 1, ⟨rfl, by omega, by omega⟩, l2, fun s hs => ?_⟩
          show υ.1 106 s = _
          rw [u2 s hs]
          by_cases e : s = m
          · rw [e, if_neg (fun h => by rw [z] at h; cases h.1), if_neg (fun h => by rw [z] at h; cases h.1)]
          · by_cases g : s.testBit k = true ∧ s < m
            · rw [if_pos g, if_pos ⟨g.1, by omega⟩]
            · rw [if_neg g, if_neg (fun h => g ⟨h.1, by omega⟩)]
        · rw [andk hm, Bool.not_eq_false] at z
          obtain ⟨xs, xl⟩ := xsub k (by omega) m hm z
          rw [show nI m - nI (2 ^ k) = nI (m - 2 ^ k) from nI_sub (by omega)]
          refine pt_gR (v := 106) (R9 99 3 rfl) (pt_aI (pt_gR (v := 106) (R9 99 3 rfl) (pt_aI (pt_s14 ?_))))
          rw [iN (by omega), iN (by omega), u2 m (by omega), u2 (m - 2 ^ k) (by omega), if_neg (fun h => absurd h.2 (by omega)), if_neg (fun h => by
            have h := h.1
            rw [← xs, xb, z, decide_eq_true rfl] at h
            cases h), ← xs, nI_sub (pc_s2 z), nI_s1 (by omega)]
          refine ih5 (nI (m + 1), _) ⟨m + 1, ⟨rfl, by omega, by omega⟩, l2.u (by simp), fun s hs => ?_⟩
          show (zI υ 106 _).1 106 s = _
          rw [zI_s]
          by_cases e : s = m
          · rw [e, upd_s, if_pos ⟨z, by omega⟩]
          · rw [upd_n e, u2 s hs]
            by_cases g : s.testBit k = true ∧ s < m
            · rw [if_pos g, if_pos ⟨g.1, by omega⟩]
            · rw [if_neg g, if_neg (fun h => g ⟨h.1, by omega⟩)]
    · show τ.1 106 s = _
      rw [hu s hs, if_neg (fun h => by
        have a := h.1
        rw [tb_lt h.2 (Nat.le_refl _)] at a
        cases a)]
/-- the joins of a member of the one with a member of the other -/
theorem v_multiply {g : Nat} (hR : RF σ.2.2) (hF : isF f) (hg : (zKd g).1 = 2) (hn : n ≤ 10) : Pt (f_X0_multiply N 99 f g (nI n) σ) (fun r => AG [106, 107] [f + 1] σ r.2 ∧ ∀ u, u < 1024 → (bt (r.2.2.1 (f + 1)) u = true ↔ u < 2 ^ n ∧ ∃ a b, (a < 1024 ∧ bt (σ.2.1 (f + 1)) a = true) ∧ (b < 1024 ∧ bt (σ.2.1 (g + 1)) b = true) ∧ a ||| b = u)) := by
  have pn := p2le hn
  rw [f_X0_multiply.eq_1]
  refine pt_gR (v := 106) (hR 99 3 rfl) (pt_gC (pt_zb (v_countBelow hR hF.1 hn) (fun _ σ1 h1 => ?_)))
  obtain ⟨l1, c1⟩ := h1
  have l1 : AG [106] [] σ σ1 := l1
  have c1 : ∀ s, s < 2 ^ n → σ1.1 106 s = nI (zc (bt (σ.2.1 (f + 1))) n s) := c1
  have R1 := l1.R hR
  refine pt_gR (v := 107) (R1 99 4 rfl) (pt_gC (pt_zb (v_countBelow R1 hg hn) (fun _ σ2 h2 => ?_)))
  obtain ⟨l2, c2⟩ := h2
  have l2 : AG [107] [] σ1 σ2 := l2
  have c2 : ∀ s, s < 2 ^ n → σ2.1 107 s = nI (zc (bt (σ1.2.1 (g + 1))) n s) := c2
  rw [l1.2.2 (g + 1) (by simp)] at c2
  have c1 : ∀ s, s < 2 ^ n → σ2.1 106 s = nI (zc (bt (σ.2.1 (f + 1))) n s) := fun s hs => by rw [l2.1 106 (by decide)]; exact c1 s hs
  have l3 : AG [106, 107] [f + 1] σ σ2 := (l1.wk (by simp) (by simp)).tr (l2.wk (by simp) (by simp))
  clear l1 l2
  rw [v_setsOf hn]
  show Pt (zlp (F_X0_multiply_29 N 99 f (nI (2 ^ n))) N (0, σ2)) _
  refine pt_w (Q := fun r => AG [106, 107] [f + 1] σ r.2 ∧ ∀ u, u < 1024 → (bt (r.2.2.1 (f + 1)) u = true ↔ u < 2 ^ n ∧ ¬ pc (bt (σ.2.1 (f + 1))) (bt (σ.2.1 (g + 1))) n u = 0)) ?_ (fun r h => ⟨h.1, fun u hu => ?_⟩)
  · refine pt_lp (fun t : Int32 × zS => ∃ m, (t.1 = nI m ∧ m ≤ 2 ^ n) ∧ AG [106, 107] [f + 1] σ t.2 ∧ (∀ s, s < 2 ^ n → t.2.1 107 s = nI (zc (bt (σ.2.1 (g + 1))) n s)) ∧ ∀ s, s < 2 ^ n → t.2.1 106 s = nI (if s < m then pc (bt (σ.2.1 (f + 1))) (bt (σ.2.1 (g + 1))) 0 s else zc (bt (σ.2.1 (f + 1))) n s)) (fun again t hI ih => ?_) N _ ⟨0, ⟨rfl, Nat.zero_le _⟩, l3, c2, fun s hs => ?_⟩
    · obtain ⟨x5, τ⟩ := t
      obtain ⟨m, ⟨e, hm⟩, hl, h7, h6⟩ := hI
      have e : x5 = nI m := e
      subst e
      have hl : AG [106, 107] [f + 1] σ τ := hl
      have h7 : ∀ s, s < 2 ^ n → τ.1 107 s = nI (zc (bt (σ.2.1 (g + 1))) n s) := h7
      have h6 : ∀ s, s < 2 ^ n → τ.1 106 s = nI (if s < m then pc (bt (σ.2.1 (f + 1))) (bt (σ.2.1 (g + 1))) 0 s else zc (bt (σ.2.1 (f + 1))) n s) := h6
      have R9 := hl.R hR
      rw [F_X0_multiply_29.eq_1]
      refine pt_if (fun q => ?_) (fun q => ?_)
      · rw [nlt (by omega) (by omega)] at q
        exact v_mu62 hR hF hn hl (fun s hs => by rw [h6 s hs, if_pos (by omega)])
      · rw [nlt (by omega) (by omega)] at q
        refine pt_gR (v := 106) (R9 99 3 rfl) (pt_aI (pt_gR (v := 107) (R9 99 4 rfl) (pt_aI (pt_s14 ?_))))
        rw [iN (by omega), h6 m (by omega), h7 m (by omega), if_neg (by omega), nI_mul, ← pc_0 (show m < 2 ^ n by omega), nI_s1 (by omega)]
        refine ih (nI (m + 1), _) ⟨m + 1, ⟨rfl, by omega⟩, hl.u (by simp), fun s hs => ?_, fun s hs => ?_⟩
        · show (zI τ 106 _).1 107 s = _
          rw [zI_n (by decide)]; exact h7 s hs
        · show (zI τ 106 _).1 106 s = _
          rw [zI_s]
          by_cases e : s = m
          · rw [e, upd_s, if_pos (by omega)]
          · rw [upd_n e, h6 s hs]
            by_cases q2 : s < m
            · rw [if_pos q2, if_pos (by omega)]
            · rw [if_neg q2, if_neg (by omega)]
    · show σ2.1 106 s = _
      rw [c1 s hs, if_neg (Nat.not_lt_zero _)]
  · rw [h.2 u hu]
    constructor
    · rintro ⟨a, b⟩; exact ⟨a, (pc_n hn a).mp b⟩
    · rintro ⟨a, b⟩; exact ⟨a, (pc_n hn a).mpr b⟩
/-- how many pairs lie apart -/
theorem v_disjointPairs {g : Nat} (hR : RF σ.2.2) (hf : (zKd f).1 = 2) (hg : (zKd g).1 = 2) (hn : n ≤ 10) : Pt (f_X0_disjointPairs N 99 f g (nI n) σ) (fun r => AG [107] [] σ r.2 ∧ ∃ S : Nat → Nat, S 0 = 0 ∧ (∀ m, m < 2 ^ n → S (m + 1) = S m + (if bt (σ.2.1 (f + 1)) m = true then zc (bt (σ.2.1 (g + 1))) n (2 ^ n - 1 - m) else 0)) ∧ r.1 = nI (S (2 ^ n))) := by
  have pn := p2le hn
  rw [f_X0_disjointPairs.eq_1]
  refine pt_gR (v := 107) (hR 99 4 rfl) (pt_gC (pt_zb (v_countBelow hR hg hn) (fun _ σ1 h1 => ?_)))
  obtain ⟨l1, c1⟩ := h1
  have l1 : AG [107] [] σ σ1 := l1
  have c1 : ∀ s, s < 2 ^ n → σ1.1 107 s = nI (zc (bt (σ.2.1 (g + 1))) n s) := c1
  have R1 := l1.R hR
  have ef : σ1.2.1 (f + 1) = σ.2.1 (f + 1) := l1.2.2 _ (by simp)
  rw [v_setsOf hn]
  show Pt (zlp (F_X0_disjointPairs_22 N 99 f (nI (2 ^ n))) N (0, 0, σ1)) _
  let S : Nat → Nat := fun m => Nat.rec 0 (fun i a => a + (if bt (σ.2.1 (f + 1)) i = true then zc (bt (σ.2.1 (g + 1))) n (2 ^ n - 1 - i) else 0)) m
  have S1 : ∀ m, S (m + 1) = S m + (if bt (σ.2.1 (f + 1)) m = true then zc (bt (σ.2.1 (g + 1))) n (2 ^ n - 1 - m) else 0) := fun _ => rfl
  refine pt_lp (fun t : Int32 × Int32 × zS => ∃ m, (t.2.1 = nI m ∧ m ≤ 2 ^ n) ∧ t.1 = nI (S m) ∧ t.2.2 = σ1) (fun again t hI ih => ?_) N _ ⟨0, ⟨rfl, Nat.zero_le _⟩, rfl, rfl⟩
  obtain ⟨x5, x6, τ⟩ := t
  obtain ⟨m, ⟨e, hm⟩, e5, et⟩ := hI
  have e : x6 = nI m := e
  have e5 : x5 = nI (S m) := e5
  have et : τ = σ1 := et
  subst e; subst e5; subst et
  rw [F_X0_disjointPairs_22.eq_1]
  refine pt_if (fun q => pt_some ⟨l1, S, rfl, fun m _ => S1 m, ?_⟩) (fun q => ?_)
  · rw [nlt (by omega) (by omega)] at q
    have em : m = 2 ^ n := by omega
    rw [em]
  · rw [nlt (by omega) (by omega)] at q
    refine pt_gC (pt_zbq (v_holds (s := m) R1 hf (by omega)) (fun v hv => ?_))
    rw [ef] at hv
    refine pt_if (fun z => ?_) (fun z => ?_)
    · rw [nI_s1 (by omega)]
      refine ih (nI (S m), nI (m + 1), _) ⟨m + 1, ⟨rfl, by omega⟩, ?_, rfl⟩
      show nI (S m) = nI (S (m + 1))
      rw [S1 m, if_neg (fun h => by rw [hv.2.mpr h] at z; exact absurd z (by decide)), Nat.add_zero]
    · refine pt_gR (v := 107) (R1 99 4 rfl) (pt_aI ?_)
      have i1 : nI (2 ^ n) - 1 = nI (2 ^ n - 1) := nI_sub (b := 1) (by omega)
      rw [i1, nI_sub (show 2 ^ n - 1 = (2 ^ n - 1 - m) + m by omega), iN (by omega), c1 _ (by omega), nI_plus, nI_s1 (by omega)]
      refine ih (_, nI (m + 1), _) ⟨m + 1, ⟨rfl, by omega⟩, ?_, rfl⟩
      show nI _ = nI (S (m + 1))
      rw [S1 m, if_pos (hv.2.mp (hv.1.resolve_left z))]
end PRD

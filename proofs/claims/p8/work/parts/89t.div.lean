/-! ===== the class's quotients; combine ===== -/
theorem LG.wk {L L2 : List Nat} {σ τ : zS} (h : LG L σ τ) (hl : ∀ k ∈ L, k ∈ L2) : LG L2 σ τ := ⟨h.1, h.2.1, fun a ha => h.2.2 a (fun q => ha (hl a q))⟩
section DIV
variable {N f g n : Nat} {σ : zS}
theorem one10 : ∀ k, k < 10 → ((1 : Int32) <<< (nI k &&& 31)) = nI (2 ^ k) := by decide +kernel
theorem v_namesUsed (hR : RF σ.2.2) (hG : isF g) (hn : n ≤ 10) : Pt (f_X0_namesUsed N 99 g (nI n) σ) (fun r => LG [103] σ r.2 ∧ ∃ w, r.1 = nI w ∧ w < 1024 ∧ ∀ i, i < n → (w.testBit i = true ↔ ∃ t, t < 1024 ∧ bt (σ.2.1 (g + 1)) t = true ∧ t.testBit i = true)) := by
  have hG2 := hG.2
  rw [f_X0_namesUsed.eq_1]
  refine pt_lp (fun s : Int32 × Int32 × zS => ∃ w m, (s.1 = nI w ∧ w < 2 ^ m) ∧ (s.2.1 = nI m ∧ m ≤ n) ∧ LG [103] σ s.2.2 ∧ ∀ i, i < m → (w.testBit i = true ↔ ∃ t, t < 1024 ∧ bt (σ.2.1 (g + 1)) t = true ∧ t.testBit i = true)) (fun again s hI ih => ?_) N _ ⟨0, 0, ⟨rfl, by decide⟩, ⟨rfl, Nat.zero_le _⟩, LG.rf, fun i hi => absurd hi (Nat.not_lt_zero _)⟩
  obtain ⟨x3, x4, τ⟩ := s
  obtain ⟨w, m, ⟨e3, hw⟩, ⟨e4, hm⟩, hl, hb⟩ := hI
  have e3 : x3 = nI w := e3
  have e4 : x4 = nI m := e4
  subst e3; subst e4
  have hl : LG [103] σ τ := hl
  have R9 := hl.R hR
  have pm := p2le (n := m) (by omega)
  rw [F_X0_namesUsed_5.eq_1]
  refine pt_if (fun q => pt_some ⟨hl, w, rfl, by omega, fun i hi => hb i ?_⟩) (fun q => ?_)
  · rw [nle hn (by omega)] at q; omega
  · rw [nle hn (by omega)] at q
    have eG : ∀ υ : zS, LG [103] σ υ → υ.2.1 (g + 1) = σ.2.1 (g + 1) := fun υ h => h.2.2 _ (by simp only [List.mem_cons, List.not_mem_nil, or_false]; omega)
    refine pt_gR (v := 102) (R9 99 1 rfl) (pt_gC (pt_zb (v_copyFrom R9 k100.2.1 hG.1) (fun _ σ1 h1 => ?_)))
    obtain ⟨l1, u1⟩ := h1
    have l1 : LF 103 τ σ1 := l1
    have u1 : ∀ u, u < 1024 → bt (σ1.2.1 103) u = bt (τ.2.1 (g + 1)) u := u1
    have R1 := l1.R R9
    refine pt_gR (v := 102) (R1 99 1 rfl) (pt_gC (pt_zb (v_keepWithout (k := m) R1 k100.2.1 (by omega)) (fun _ σ2 h2 => ?_)))
    obtain ⟨l2, u2⟩ := h2
    have l2 : LF 103 σ1 σ2 := l2
    have u2 : ∀ u, u < 1024 → bt (σ2.2.1 103) u = (bt (σ1.2.1 103) u && !u.testBit m) := u2
    have R2 := l2.R R1
    have L2 : LG [103] σ σ2 := (hl.tr (l1.G (by simp))).tr (l2.G (by simp))
    refine pt_gR (v := 102) (R2 99 1 rfl) (pt_gC (pt_zbq (v_sameAs R2 k100.2.1 hG.1) (fun v hv => ?_)))
    have hv2 : v = 1 ↔ ∀ u, u < 1024 → bt (σ2.2.1 103) u = bt (σ2.2.1 (g + 1)) u := hv.2
    have key : v = 1 ↔ ¬ ∃ t, t < 1024 ∧ bt (σ.2.1 (g + 1)) t = true ∧ t.testBit m = true := by
      rw [hv2]
      constructor
      · rintro h ⟨t, ht, a, b⟩
        have := h t ht
        rw [u2 t ht, u1 t ht, eG _ hl, eG _ L2, a, b] at this
        cases this
      · intro h u hu
        rw [u2 u hu, u1 u hu, eG _ hl, eG _ L2]
        cases a : bt (σ.2.1 (g + 1)) u with
        | false => rfl
        | true =>
          cases b : u.testBit m with
          | false => rfl
          | true => exact absurd ⟨u, hu, a, b⟩ h
    have p1 : 2 ^ (m + 1) = 2 ^ m + 2 ^ m := by rw [Nat.pow_succ]; omega
    refine pt_if (fun z => ?_) (fun z => ?_)
    · have nk : ∃ t, t < 1024 ∧ bt (σ.2.1 (g + 1)) t = true ∧ t.testBit m = true := by
        apply Classical.byContradiction
        intro h
        rw [key.mpr h] at z
        exact absurd z (by decide)
      rw [one10 m (by omega), nI_or, nI_s1 (by omega)]
      refine ih (nI (w ||| 2 ^ m), nI (m + 1), σ2) ⟨w ||| 2 ^ m, m + 1, ⟨rfl, Nat.or_lt_two_pow (by omega) (by omega)⟩, ⟨rfl, by omega⟩, L2, fun i hi => ?_⟩
      rw [Nat.testBit_or, Nat.testBit_two_pow]
      by_cases e : m = i
      · rw [decide_eq_true e, Bool.or_true, ← e]; exact ⟨fun _ => nk, fun _ => rfl⟩
      · rw [decide_eq_false e, Bool.or_false]; exact hb i (by omega)
    · have v1 : v = 1 := hv.1.resolve_left z
      rw [nI_s1 (by omega)]
      refine ih (nI w, nI (m + 1), σ2) ⟨w, m + 1, ⟨rfl, by omega⟩, ⟨rfl, by omega⟩, L2, fun i hi => ?_⟩
      by_cases e : i = m
      · rw [e, tb_lt hw (Nat.le_refl _)]
        exact ⟨fun h => (by cases h), fun h => absurd h (key.mp v1)⟩
      · exact hb i (by omega)
theorem v_allJoined {x0 s : Nat} (hR : RF σ.2.2) (hf : (zKd f).1 = 2) (hg : (zKd g).1 = 2) (hs : s < 1024) : Px (f_X0_allJoined N x0 f g (nI s) σ) σ (fun v => (v = 0 ∨ v = 1) ∧ (v = 1 ↔ ∀ t, t < 1024 → bt (σ.2.1 (g + 1)) t = true → bt (σ.2.1 (f + 1)) (s ||| t) = true)) := by
  rw [f_X0_allJoined.eq_1]
  refine pt_gC (pt_zbq (v_firstFrom (s := 0) hR hg (by omega)) (fun v0 h0 => ?_))
  refine pt_lp (fun t : Int32 × Int32 × zS => t.2.2 = σ ∧ ∃ c i, (fsQ (bt (σ.2.1 (g + 1))) c t.1 ∧ c ≤ 1024) ∧ (t.2.1 = nI i ∧ i ≤ c) ∧ ∀ t, t < c → bt (σ.2.1 (g + 1)) t = true → bt (σ.2.1 (f + 1)) (s ||| t) = true) (fun again t hI ih => ?_) N _ ⟨rfl, 0, 0, ⟨h0, by omega⟩, ⟨rfl, Nat.le_refl _⟩, fun t ht => absurd ht (Nat.not_lt_zero _)⟩
  obtain ⟨x4, x5, τ⟩ := t
  obtain ⟨et, c, i, ⟨hq, hc⟩, ⟨e5, hi⟩, ha⟩ := hI
  have et : τ = σ := et
  have e5 : x5 = nI i := e5
  have hq : fsQ (bt (σ.2.1 (g + 1))) c x4 := hq
  subst et; subst e5
  rw [F_X0_allJoined_10.eq_1]
  refine pt_if (fun q => pt_rZ ⟨rfl, Or.inr rfl, fun _ => ?_, fun _ => rfl⟩) (fun q => pt_if (fun q2 => pt_rZ ⟨rfl, Or.inr rfl, fun _ => ?_, fun _ => rfl⟩) (fun q2 => ?_))
  · have q : nI 1024 ≤ nI i := q
    rw [nlt (by omega) (by omega)] at q
    intro t ht
    exact ha t (by omega)
  · rcases hq with ⟨u, _, _, _, e⟩ | ⟨h, _⟩
    · rw [Int32.lt_iff_toInt_lt, e] at q2
      simp only [Int32.reduceToInt] at q2
      omega
    · intro t ht hb
      by_cases l : t < c
      · exact ha t l hb
      · rw [h t (by omega) ht] at hb; cases hb
  · have q : ¬ nI 1024 ≤ nI i := q
    rw [nlt (by omega) (by omega)] at q
    rcases hq with ⟨u, ⟨u1, u2⟩, u3, u4, e⟩ | ⟨_, h⟩
    · have e4 : x4 = nI u := Int32.toInt_inj.mp (by rw [e, nI_toInt (by omega)])
      subst e4
      rw [nI_or]
      refine pt_gC (pt_zbq (v_holds (s := s ||| u) hR hf (or_1024 hs u2)) (fun v hv => ?_))
      refine pt_if (fun z => pt_rZ ⟨rfl, Or.inl rfl, fun h => absurd (show (0 : Int32) = 1 from h) (by decide), fun h => ?_⟩) (fun z => ?_)
      · rw [hv.2.mpr (h u u2 u3)] at z
        exact absurd z (by decide)
      · have v1 : v = 1 := hv.1.resolve_left z
        rw [nI_s1 (by omega)]
        refine pt_gC (pt_zbq (v_firstFrom (s := u + 1) hR hg (by omega)) (fun v2 h2 => ?_))
        rw [nI_s1 (by omega)]
        refine ih (v2, nI (i + 1), _) ⟨rfl, u + 1, i + 1, ⟨h2, by omega⟩, ⟨rfl, by omega⟩, fun t ht hb => ?_⟩
        by_cases l : t < c
        · exact ha t l hb
        · by_cases eu : t = u
          · rw [eu]; exact hv.2.mp v1
          · rw [u4 t (by omega) (by omega)] at hb; cases hb
    · exact absurd (by rw [show x4 = _ from h]; decide) q2
/-- apart from every member, and joined with each in the other -/
def dvC (F G : Nat → Bool) (u : Nat) : Prop := ∀ t, t < 1024 → G t = true → u &&& t = 0 ∧ F (u ||| t) = true
theorem and_z {a b : Nat} : a &&& b = 0 ↔ ∀ i, ¬ (a.testBit i = true ∧ b.testBit i = true) := by
  constructor
  · rintro h i ⟨x, y⟩
    have := congrArg (fun c => Nat.testBit c i) h
    simp only [Nat.testBit_and, x, y, Nat.zero_testBit] at this
    cases this
  · intro h
    apply Nat.eq_of_testBit_eq
    intro i
    rw [Nat.testBit_and, Nat.zero_testBit]
    cases x : a.testBit i with
    | false => rfl
    | true =>
      cases y : b.testBit i with
      | false => rfl
      | true => exact absurd ⟨x, y⟩ (h i)
theorem v_divide (hR : RF σ.2.2) (hF : isF f) (hG : isF g) (hn : n ≤ 10) : Pt (f_X0_divide N 99 f g (nI n) σ) (fun r => LG [f + 1, 101, 103] σ r.2 ∧ ∀ u, u < 1024 → (bt (r.2.2.1 (f + 1)) u = true ↔ u < 2 ^ n ∧ (∃ t, t < 1024 ∧ bt (σ.2.1 (g + 1)) t = true) ∧ dvC (bt (σ.2.1 (f + 1))) (bt (σ.2.1 (g + 1))) u)) := by
  have hF2 := hF.2
  have hG2 := hG.2
  have pn := p2le hn
  have eF : ∀ υ : zS, LG [101, 103] σ υ → υ.2.1 (f + 1) = σ.2.1 (f + 1) := fun υ h => h.2.2 _ (by simp only [List.mem_cons, List.not_mem_nil, or_false]; omega)
  have eG : ∀ υ : zS, LG [101, 103] σ υ → υ.2.1 (g + 1) = σ.2.1 (g + 1) := fun υ h => h.2.2 _ (by simp only [List.mem_cons, List.not_mem_nil, or_false]; omega)
  have lst : ∀ υ χ : zS, LG [101, 103] σ υ → LF (f + 1) υ χ → LG [f + 1, 101, 103] σ χ := fun υ χ a b => (a.wk (by simp)).tr (b.G (by simp))
  rw [f_X0_divide.eq_1]
  refine pt_gR (v := 100) (hR 99 0 rfl) (pt_gC (pt_zb (v_clear hR k100.1) (fun _ σ1 h1 => ?_)))
  obtain ⟨l1, u1⟩ := h1
  have l1 : LF 101 σ σ1 := l1
  have u1 : ∀ u, u < 1024 → bt (σ1.2.1 101) u = false := u1
  have R1 := l1.R hR
  have L1 : LG [101, 103] σ σ1 := l1.G (by simp)
  refine pt_gC (pt_zbq (v_isEmpty R1 hG.1) (fun v hv => ?_))
  rw [eG _ L1] at hv
  refine pt_if (fun z => ?_) (fun z => ?_)
  · have ex : ∃ t, t < 1024 ∧ bt (σ.2.1 (g + 1)) t = true := by
      apply Classical.byContradiction
      intro h
      have : v = 1 := hv.2.mpr (fun u hu => by
        cases q : bt (σ.2.1 (g + 1)) u with
        | false => rfl
        | true => exact absurd ⟨u, hu, q⟩ h)
      rw [this] at z
      exact absurd z (by decide)
    refine pt_gC (pt_zb (v_namesUsed R1 hG hn) (fun x4 σ2 h2 => ?_))
    obtain ⟨l2, w, ew, hw, hb⟩ := h2
    have l2 : LG [103] σ1 σ2 := l2
    have ew : x4 = nI w := ew
    subst ew
    rw [eG _ L1] at hb
    have L2 : LG [101, 103] σ σ2 := L1.tr (l2.wk (by simp))
    rw [v_setsOf hn]
    show Pt (zlp (F_X0_divide_31 N 99 f g (nI w) (nI (2 ^ n))) N (0, σ2)) _
    have used : ∀ m, m < 2 ^ n → (m &&& w = 0 ↔ ∀ t, t < 1024 → bt (σ.2.1 (g + 1)) t = true → m &&& t = 0) := fun m hm => by
      rw [and_z]
      constructor
      · intro h t ht a
        rw [and_z]
        rintro i ⟨x, y⟩
        by_cases e : i < n
        · exact h i ⟨x, (hb i e).mpr ⟨t, ht, a, y⟩⟩
        · rw [tb_lt hm (by omega)] at x; cases x
      · rintro h i ⟨x, y⟩
        by_cases e : i < n
        · obtain ⟨t, ht, a, b⟩ := (hb i e).mp y
          exact and_z.mp (h t ht a) i ⟨x, b⟩
        · rw [tb_lt hm (by omega)] at x; cases x
    refine pt_lp (fun s : Int32 × zS => ∃ m, (s.1 = nI m ∧ m ≤ 2 ^ n) ∧ LG [101, 103] σ s.2 ∧ ∀ u, u < 1024 → (bt (s.2.2.1 101) u = true ↔ u < m ∧ dvC (bt (σ.2.1 (f + 1))) (bt (σ.2.1 (g + 1))) u)) (fun again s hI ih => ?_) N _ ⟨0, ⟨rfl, Nat.zero_le _⟩, L2, fun u hu => ?_⟩
    · obtain ⟨x6, τ⟩ := s
      obtain ⟨m, ⟨e, hm⟩, hl, hu⟩ := hI
      have e : x6 = nI m := e
      subst e
      have hl : LG [101, 103] σ τ := hl
      have hu : ∀ u, u < 1024 → (bt (τ.2.1 101) u = true ↔ u < m ∧ dvC (bt (σ.2.1 (f + 1))) (bt (σ.2.1 (g + 1))) u) := hu
      have R9 := hl.R hR
      rw [F_X0_divide_31.eq_1]
      refine pt_if (fun q => ?_) (fun q => ?_)
      · rw [nlt (by omega) (by omega)] at q
        refine pt_gR (v := 100) (R9 99 0 rfl) (pt_gC (pt_zb (v_copyFrom R9 hF.1 k100.1) (fun _ σ3 h3 => pt_some ?_)))
        obtain ⟨l3, u3⟩ := h3
        have l3 : LF (f + 1) τ σ3 := l3
        refine ⟨lst _ _ hl l3, fun u h => ?_⟩
        have u3 : bt (σ3.2.1 (f + 1)) u = bt (τ.2.1 101) u := u3 u h
        show bt (σ3.2.1 (f + 1)) u = true ↔ _
        rw [u3, hu u h]
        constructor
        · rintro ⟨a, b⟩; exact ⟨by omega, ex, b⟩
        · rintro ⟨a, _, b⟩; exact ⟨by omega, b⟩
      · rw [nlt (by omega) (by omega)] at q
        have nxt : ∀ υ : zS, LG [101, 103] σ υ → (∀ u, u < 1024 → (bt (υ.2.1 101) u = true ↔ u < m + 1 ∧ dvC (bt (σ.2.1 (f + 1))) (bt (σ.2.1 (g + 1))) u)) → Pt (again (nI (m + 1), υ)) (fun r => LG [f + 1, 101, 103] σ r.2 ∧ ∀ u, u < 1024 → (bt (r.2.2.1 (f + 1)) u = true ↔ u < 2 ^ n ∧ (∃ t, t < 1024 ∧ bt (σ.2.1 (g + 1)) t = true) ∧ dvC (bt (σ.2.1 (f + 1))) (bt (σ.2.1 (g + 1))) u)) := fun υ a b => ih (nI (m + 1), υ) ⟨m + 1, ⟨rfl, by omega⟩, a, b⟩
        have skip : ¬ dvC (bt (σ.2.1 (f + 1))) (bt (σ.2.1 (g + 1))) m → ∀ u, u < 1024 → (bt (τ.2.1 101) u = true ↔ u < m + 1 ∧ dvC (bt (σ.2.1 (f + 1))) (bt (σ.2.1 (g + 1))) u) := fun no u h => by
          rw [hu u h]
          constructor
          · rintro ⟨a, b⟩; exact ⟨by omega, b⟩
          · rintro ⟨a, b⟩
            have ne : ¬ u = m := fun e => no (by rw [← e]; exact b)
            exact ⟨by omega, b⟩
        rw [nI_s1 (by omega)]
        refine pt_if (fun z2 => ?_) (fun z2 => ?_)
        · rw [nI_and, nI_e0 (and_1024 (show m < 1024 by omega)), used m (by omega)] at z2
          refine pt_gC (pt_zbq (v_allJoined (s := m) R9 hF.1 hG.1 (by omega)) (fun v3 h3 => ?_))
          rw [eF _ hl, eG _ hl] at h3
          refine pt_if (fun z3 => nxt τ hl (skip (fun d => ?_))) (fun z3 => ?_)
          · rw [h3.2.mpr (fun t ht a => (d t ht a).2)] at z3
            exact absurd z3 (by decide)
          · have j1 := h3.2.mp (h3.1.resolve_left z3)
            refine pt_gR (v := 100) (R9 99 0 rfl) (pt_gC (pt_zb (v_include (s := m) R9 k100.1 (by omega)) (fun _ σ4 h4 => ?_)))
            obtain ⟨l4, u4⟩ := h4
            have l4 : LF 101 τ σ4 := l4
            have u4 : ∀ u, u < 1024 → bt (σ4.2.1 101) u = (bt (τ.2.1 101) u || decide (u = m)) := u4
            refine nxt σ4 (hl.tr (l4.G (by simp))) (fun u h => ?_)
            rw [u4 u h, Bool.or_eq_true, hu u h, decide_eq_true_iff]
            constructor
            · rintro (⟨a, b⟩ | a)
              · exact ⟨by omega, b⟩
              · rw [a]; exact ⟨by omega, fun t ht a => ⟨z2 t ht a, j1 t ht a⟩⟩
            · rintro ⟨a, b⟩
              by_cases e : u = m
              · exact Or.inr e
              · exact Or.inl ⟨by omega, b⟩
        · rw [nI_and, nI_e0 (and_1024 (show m < 1024 by omega)), used m (by omega)] at z2
          exact nxt τ hl (skip (fun d => z2 (fun t ht a => (d t ht a).1)))
    · show bt (σ2.2.1 101) u = true ↔ _
      rw [l2.2.2 101 (by decide), u1 u hu]
      exact ⟨fun h => (by cases h), fun h => absurd h.1 (Nat.not_lt_zero _)⟩
  · have none := hv.2.mp (hv.1.resolve_left z)
    refine pt_gR (v := 100) (R1 99 0 rfl) (pt_gC (pt_zb (v_copyFrom R1 hF.1 k100.1) (fun _ σ3 h3 => pt_some ?_)))
    obtain ⟨l3, u3⟩ := h3
    have l3 : LF (f + 1) σ1 σ3 := l3
    refine ⟨lst _ _ L1 l3, fun u h => ?_⟩
    have u3 : bt (σ3.2.1 (f + 1)) u = bt (σ1.2.1 101) u := u3 u h
    show bt (σ3.2.1 (f + 1)) u = true ↔ _
    rw [u3, u1 u h]
    constructor
    · intro q; cases q
    · rintro ⟨_, ⟨t, ht, a⟩, _⟩
      rw [none t ht] at a
      cases a
end DIV

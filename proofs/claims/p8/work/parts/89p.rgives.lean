section RGIV
variable {N c a c2 b n : Nat} {σ : zS}
/-- ints of the cells of L alone may be other -/
def FG (L : List Nat) (σ τ : zS) : Prop := τ.2 = σ.2 ∧ ∀ k, k ∉ L → τ.1 k = σ.1 k
theorem FG.rf {L : List Nat} : FG L σ σ := ⟨rfl, fun _ _ => rfl⟩
theorem FG.tr {L : List Nat} {τ υ : zS} (h : FG L σ τ) (h2 : FG L τ υ) : FG L σ υ := ⟨h2.1.trans h.1, fun k hk => (h2.2 k hk).trans (h.2 k hk)⟩
theorem FG.u {L : List Nat} {τ : zS} {k : Nat} {r : Nat → Int32} (h : FG L σ τ) (hk : k ∈ L) : FG L σ (zI τ k r) := ⟨h.1, fun a ha => (zI_n (fun e => ha (by rw [e]; exact hk))).trans (h.2 a ha)⟩
theorem FG.R {L : List Nat} {τ : zS} (h : FG L σ τ) (hR : RF σ.2.2) : RF τ.2.2 := by rw [h.1]; exact hR
theorem FG.wk {L L2 : List Nat} {τ : zS} (h : FG L σ τ) (hs : ∀ k ∈ L, k ∈ L2) : FG L2 σ τ := ⟨h.1, fun k hk => h.2 k (fun q => hk (hs k q))⟩
theorem nz1 : vp_nar .boolean 0 = 0 ∧ vp_nar .boolean 1 = 1 := by decide
theorem iN {m : Nat} (h : m ≤ 2000) : (nI m).toInt.toNat = m := by rw [nI_toInt (by omega)]; omega
/-- joined members -/
theorem vr_joins {c5 : Nat} (hR : RF σ.2.2) (ha : a ≤ 100000) (hb : b ≤ 100000) (hn : σ.1 218 20 = nI n) (h10 : n ≤ 1024) (n1 : c ≠ c5) (n2 : c2 ≠ c5) (n3 : 218 ≠ c5) : Pt (f_X12_joins N 218 c (nI a) c2 (nI b) c5 σ) (fun r => FG [c5] σ r.2 ∧ ∀ u, u < 1024 → (rb (r.2.1 c5) 0 u = true ↔ ∃ s t, (s < n ∧ rb (σ.1 c) a s = true) ∧ (t < n ∧ rb (σ.1 c2) b t = true) ∧ s ||| t = u)) := by
  rw [f_X12_joins.eq_1]
  refine pt_lp (fun x : Int32 × zS => ∃ m, (x.1 = nI m ∧ m ≤ 1024) ∧ FG [c5] σ x.2 ∧ ∀ u, u < m → x.2.1 c5 u = 0) (fun again x hI ih => ?_) N _ ⟨0, ⟨rfl, Nat.zero_le _⟩, FG.rf, fun u hu => absurd hu (by omega)⟩
  obtain ⟨x6, τ⟩ := x
  obtain ⟨m, ⟨e, hm⟩, hf, hz⟩ := hI
  have e : x6 = nI m := e
  subst e
  have hf : FG [c5] σ τ := hf
  have hz : ∀ u, u < m → τ.1 c5 u = 0 := hz
  rw [F_X12_joins_3.eq_1]
  refine pt_if (fun q => ?_) (fun q => ?_)
  · have q : nI 1024 ≤ nI m := q
    rw [nlt (by omega) (by omega)] at q
    refine pt_lp (fun x : Int32 × zS => ∃ s, (x.1 = nI s ∧ s ≤ n) ∧ FG [c5] σ x.2 ∧ ∀ u, u < 1024 → (rb (x.2.1 c5) 0 u = true ↔ ∃ s' t, (s' < s ∧ rb (σ.1 c) a s' = true) ∧ (t < n ∧ rb (σ.1 c2) b t = true) ∧ s' ||| t = u)) (fun again2 x hI ih2 => ?_) N _ ⟨0, ⟨rfl, Nat.zero_le _⟩, hf, fun u hu => ⟨fun z => absurd (hz u (by omega)) (by have := rb_t.mp z; rw [Nat.zero_add] at this; exact this), fun ⟨s', t, z, _⟩ => absurd z.1 (by omega)⟩⟩
    obtain ⟨x6, υ⟩ := x
    obtain ⟨s, ⟨e, hs⟩, hf2, hu2⟩ := hI
    have e : x6 = nI s := e
    subst e
    have hf2 : FG [c5] σ υ := hf2
    have hu2 : ∀ u, u < 1024 → (rb (υ.1 c5) 0 u = true ↔ ∃ s' t, (s' < s ∧ rb (σ.1 c) a s' = true) ∧ (t < n ∧ rb (σ.1 c2) b t = true) ∧ s' ||| t = u) := hu2
    have e18 : υ.1 218 = σ.1 218 := hf2.2 218 (by simpa using n3)
    rw [F_X12_joins_26.eq_1]
    refine pt_gI ?_
    rw [e18, hn]
    refine pt_if (fun q => pt_some ⟨hf2, ?_⟩) (fun q => ?_)
    · rw [nlt (by omega) (by omega)] at q
      have e : n = s := by omega
      subst e
      exact hu2
    · rw [nlt (by omega) (by omega)] at q
      refine pt_lp (fun x : Int32 × zS => ∃ t0, (x.1 = nI t0 ∧ t0 ≤ n) ∧ FG [c5] σ x.2 ∧ (0 < t0 → rb (σ.1 c) a s = true) ∧ ∀ u, u < 1024 → (rb (x.2.1 c5) 0 u = true ↔ (∃ s' t, (s' < s ∧ rb (σ.1 c) a s' = true) ∧ (t < n ∧ rb (σ.1 c2) b t = true) ∧ s' ||| t = u) ∨ ∃ t, (t < t0 ∧ rb (σ.1 c2) b t = true) ∧ s ||| t = u)) (fun again3 x hI ih3 => ?_) N _ ⟨0, ⟨rfl, Nat.zero_le _⟩, hf2, fun z => absurd z (by omega), fun u hu => (hu2 u hu).trans ⟨Or.inl, fun z => z.elim id (fun ⟨t, z, _⟩ => absurd z.1 (by omega))⟩⟩
      obtain ⟨x7, ω⟩ := x
      obtain ⟨t0, ⟨e, ht0⟩, hf3, hx3, hu3⟩ := hI
      have e : x7 = nI t0 := e
      subst e
      have hf3 : FG [c5] σ ω := hf3
      have hu3 : ∀ u, u < 1024 → (rb (ω.1 c5) 0 u = true ↔ (∃ s' t, (s' < s ∧ rb (σ.1 c) a s' = true) ∧ (t < n ∧ rb (σ.1 c2) b t = true) ∧ s' ||| t = u) ∨ ∃ t, (t < t0 ∧ rb (σ.1 c2) b t = true) ∧ s ||| t = u) := hu3
      have e18 : ω.1 218 = σ.1 218 := hf3.2 218 (by simpa using n3)
      have ec : ω.1 c = σ.1 c := hf3.2 c (by simpa using n1)
      have ec2 : ω.1 c2 = σ.1 c2 := hf3.2 c2 (by simpa using n2)
      have out : (rb (σ.1 c) a s = true → t0 = n) → Pt (again2 (nI s + 1, ω)) (fun r => FG [c5] σ r.2 ∧ ∀ u, u < 1024 → (rb (r.2.1 c5) 0 u = true ↔ ∃ s t, (s < n ∧ rb (σ.1 c) a s = true) ∧ (t < n ∧ rb (σ.1 c2) b t = true) ∧ s ||| t = u)) := fun hx => by
        rw [nI_s1 (by omega)]
        refine ih2 (nI (s + 1), ω) ⟨s + 1, ⟨rfl, by omega⟩, hf3, fun u hu => (hu3 u hu).trans ⟨fun z => ?_, fun ⟨s', t, h1, h2, h3⟩ => ?_⟩⟩
        · rcases z with ⟨s', t, h1, h2, h3⟩ | ⟨t, h2, h3⟩
          · exact ⟨s', t, ⟨by omega, h1.2⟩, h2, h3⟩
          · exact ⟨s, t, ⟨by omega, hx3 (by omega)⟩, ⟨by omega, h2.2⟩, h3⟩
        · by_cases e : s' = s
          · subst e
            exact Or.inr ⟨t, ⟨by have := hx h1.2; omega, h2.2⟩, h3⟩
          · exact Or.inl ⟨s', t, ⟨by omega, h1.2⟩, h2, h3⟩
      rw [F_X12_joins_38.eq_1]
      refine pt_gI ?_
      rw [e18, hn]
      refine pt_if (fun y => out (fun _ => ?_)) (fun y => ?_)
      · rw [nlt (by omega) (by omega)] at y; omega
      · rw [nlt (by omega) (by omega)] at y
        refine pt_aI ?_
        rw [ix1 ha (by omega), ec]
        refine pt_if (fun z => out (fun w => absurd z (rb_t.mp w))) (fun z => ?_)
        have hxs : rb (σ.1 c) a s = true := rb_t.mpr z
        refine pt_aI ?_
        rw [ix1 hb (by omega), ec2]
        refine pt_if (fun w => ?_) (fun w => ?_)
        · rw [nI_s1 (by omega)]
          refine ih3 (nI (t0 + 1), ω) ⟨t0 + 1, ⟨rfl, by omega⟩, hf3, fun _ => hxs, fun u hu => (hu3 u hu).trans ⟨fun v => v.imp id (fun ⟨t, h2, h3⟩ => ⟨t, ⟨by omega, h2.2⟩, h3⟩), fun v => v.imp id (fun ⟨t, h2, h3⟩ => ⟨t, ⟨?_, h2.2⟩, h3⟩)⟩⟩
          have : t ≠ t0 := fun e => absurd w (rb_t.mp (by rw [e] at h2; exact h2.2))
          omega
        · have hyt : rb (σ.1 c2) b t0 = true := rb_t.mpr w
          have lor := or_1024 (show s < 1024 by omega) (show t0 < 1024 by omega)
          refine pt_s16 ?_
          rw [nI_or, iN (by omega), nI_s1 (by omega), nz1.2]
          refine ih3 (nI (t0 + 1), _) ⟨t0 + 1, ⟨rfl, by omega⟩, hf3.u (by simp), fun _ => hxs, fun u hu => ?_⟩
          show rb ((zI ω c5 _).1 c5) 0 u = true ↔ _
          rw [zI_s, rb_t, Nat.zero_add, upd_i]
          by_cases e : u = s ||| t0
          · rw [if_pos e]
            exact ⟨fun _ => Or.inr ⟨t0, ⟨by omega, hyt⟩, e.symm⟩, fun _ => by decide⟩
          · rw [if_neg e]
            have h3 := hu3 u hu
            rw [rb_t, Nat.zero_add] at h3
            exact h3.trans ⟨fun v => v.imp id (fun ⟨t, h2, h3⟩ => ⟨t, ⟨by omega, h2.2⟩, h3⟩), fun v => v.imp id (fun ⟨t, h2, h3⟩ => ⟨t, ⟨by have : t ≠ t0 := fun e' => e (by rw [← h3, e']); omega, h2.2⟩, h3⟩)⟩
  · have q : ¬ nI 1024 ≤ nI m := q
    rw [nlt (by omega) (by omega)] at q
    refine pt_s16 ?_
    rw [iN (by omega), nI_s1 (by omega), nz1.1]
    refine ih (nI (m + 1), _) ⟨m + 1, ⟨rfl, by omega⟩, hf.u (by simp), fun u hu => ?_⟩
    show (zI τ c5 _).1 c5 u = 0
    rw [zI_s, upd_i]
    by_cases e : u = m
    · rw [if_pos e]
    · rw [if_neg e]; exact hz u (by omega)
/-- what +, -, &, / and # give, by members -/
def GS (w : Int32) (X Y : Nat → Bool) (n u : Nat) : Prop := u < n ∧ (if w = 0 then X u = true ∨ Y u = true else if w = 1 then X u = true ∧ Y u = false else if w = 2 then X u = true ∧ Y u = true else if w = 4 then (∃ t, t < n ∧ Y t = true) ∧ ∀ t, t < n → Y t = true → u &&& t = 0 ∧ X (u ||| t) = true else X u = true ∧ ∀ t, t < n → Y t = true → ¬ u &&& t = 0)
theorem vr_g178 {w y : Int32} {m : Nat} {τ : zS} {again : Int32 × zS → Option (Unit × zS)} {P : Unit × zS → Prop} (ha : a ≤ 100000) (hb : b ≤ 100000) (hm : m < 1024) (hn : τ.1 218 20 = nI n) (h10 : n ≤ 1024) (hy : (y = 0 ∧ ¬ m < n) ∨ (y = 1 ∧ m < n))
    (K0 : ¬ GS w (rb (τ.1 c) a) (rb (τ.1 c2) b) n m → Pt (zl (gR 12 17 218 τ) fun z => zl (sI 16 z (nI m) 0 τ) fun σ' => again (nI m + 1, σ')) P) (K1 : GS w (rb (τ.1 c) a) (rb (τ.1 c2) b) n m → Pt (zl (gR 12 17 218 τ) fun z => zl (sI 16 z (nI m) 1 τ) fun σ' => again (nI m + 1, σ')) P) : Pt (J_X12_gives_178 N again 218 w c (nI a) c2 (nI b) (nI m) y τ) P := by
  have no : y = 0 → ¬ GS w (rb (τ.1 c) a) (rb (τ.1 c2) b) n m := fun z g => by
    rcases hy with h | h
    · exact h.2 g.1
    · rw [h.1] at z; exact absurd z (by decide)
  have lt : ¬ y = 0 → m < n := fun z => by
    rcases hy with h | h
    · exact absurd h.1 z
    · exact h.2
  rw [J_X12_gives_178.eq_1]
  refine pt_if (fun w0 => pt_if (fun z => K0 (no z)) (fun z => ?_)) (fun w0 => pt_if (fun w1 => pt_if (fun z => K0 (no z)) (fun z => ?_)) (fun w1 => pt_if (fun w2 => pt_if (fun z => K0 (no z)) (fun z => ?_)) (fun w2 => pt_if (fun w4 => pt_if (fun z => K0 (no z)) (fun z => ?_)) (fun w4 => pt_if (fun z => K0 (no z)) (fun z => ?_)))))
  · have e : GS w (rb (τ.1 c) a) (rb (τ.1 c2) b) n m ↔ rb (τ.1 c) a m = true ∨ rb (τ.1 c2) b m = true := by
      unfold GS; rw [if_pos w0]; exact ⟨fun h => h.2, fun h => ⟨lt z, h⟩⟩
    refine pt_aI ?_
    rw [ix1 ha (by omega)]
    refine pt_if (fun x => pt_aI ?_) (fun x => K1 (e.mpr (Or.inl (rb_t.mpr x))))
    rw [ix1 hb (by omega)]
    exact pt_if (fun v => K0 (fun g => (e.mp g).elim (fun q => rb_t.mp q x) (fun q => rb_t.mp q v))) (fun v => K1 (e.mpr (Or.inr (rb_t.mpr v))))
  · have e : GS w (rb (τ.1 c) a) (rb (τ.1 c2) b) n m ↔ rb (τ.1 c) a m = true ∧ rb (τ.1 c2) b m = false := by
      unfold GS; rw [if_neg w0, if_pos w1]; exact ⟨fun h => h.2, fun h => ⟨lt z, h⟩⟩
    refine pt_aI ?_
    rw [ix1 ha (by omega)]
    refine pt_if (fun x => K0 (fun g => rb_t.mp (e.mp g).1 x)) (fun x => pt_aI ?_)
    rw [ix1 hb (by omega)]
    exact pt_if (fun v => K1 (e.mpr ⟨rb_t.mpr x, rb_f.mpr v⟩)) (fun v => K0 (fun g => v (rb_f.mp (e.mp g).2)))
  · have e : GS w (rb (τ.1 c) a) (rb (τ.1 c2) b) n m ↔ rb (τ.1 c) a m = true ∧ rb (τ.1 c2) b m = true := by
      unfold GS; rw [if_neg w0, if_neg w1, if_pos w2]; exact ⟨fun h => h.2, fun h => ⟨lt z, h⟩⟩
    refine pt_aI ?_
    rw [ix1 ha (by omega)]
    refine pt_if (fun x => K0 (fun g => rb_t.mp (e.mp g).1 x)) (fun x => pt_aI ?_)
    rw [ix1 hb (by omega)]
    exact pt_if (fun v => K0 (fun g => rb_t.mp (e.mp g).2 v)) (fun v => K1 (e.mpr ⟨rb_t.mpr x, rb_t.mpr v⟩))
  · have e : GS w (rb (τ.1 c) a) (rb (τ.1 c2) b) n m ↔ (∃ t, t < n ∧ rb (τ.1 c2) b t = true) ∧ ∀ t, t < n → rb (τ.1 c2) b t = true → m &&& t = 0 ∧ rb (τ.1 c) a (m ||| t) = true := by
      unfold GS; rw [if_neg w0, if_neg w1, if_neg w2, if_pos w4]; exact ⟨fun h => h.2, fun h => ⟨lt z, h⟩⟩
    refine pt_gC (pt_zbq (vr_isOver ha hb hm hn h10) (fun v hv => pt_if (fun x => K0 (fun g => ?_)) (fun x => K1 (e.mpr (hv.2.mp (hv.1.resolve_left x))))))
    rw [hv.2.mpr (e.mp g)] at x
    exact absurd x (by decide)
  · have e : GS w (rb (τ.1 c) a) (rb (τ.1 c2) b) n m ↔ rb (τ.1 c) a m = true ∧ ∀ t, t < n → rb (τ.1 c2) b t = true → ¬ m &&& t = 0 := by
      unfold GS; rw [if_neg w0, if_neg w1, if_neg w2, if_neg w4]; exact ⟨fun h => h.2, fun h => ⟨lt z, h⟩⟩
    refine pt_aI ?_
    rw [ix1 ha (by omega)]
    refine pt_if (fun x => K0 (fun g => rb_t.mp (e.mp g).1 x)) (fun x => pt_gC (pt_zbq (vr_isTouching hb hm hn h10) (fun v hv => pt_if (fun y => K0 (fun g => ?_)) (fun y => K1 (e.mpr ⟨rb_t.mpr x, hv.2.mp (hv.1.resolve_left y)⟩)))))
    rw [hv.2.mpr (e.mp g).2] at y
    exact absurd y (by decide)
/-- one more place of a row is told -/
theorem put_st {S : Nat → Prop} {τ : zS} {k m : Nat} {v : Int32} (hu : ∀ u, u < m → (rb (τ.1 k) 0 u = true ↔ S u)) (hv : (v = 0 ∧ ¬ S m) ∨ (v = 1 ∧ S m)) : ∀ u, u < m + 1 → (rb ((zI τ k (upd (τ.1 k) m (vp_nar .boolean v))).1 k) 0 u = true ↔ S u) := fun u hlt => by
  rw [zI_s, rb_t, Nat.zero_add, upd_i]
  by_cases e : u = m
  · subst e
    rw [if_pos rfl]
    rcases hv with ⟨rfl, h⟩ | ⟨rfl, h⟩
    · rw [nz1.1]; exact ⟨fun z => absurd rfl z, fun z => absurd z h⟩
    · rw [nz1.2]; exact ⟨fun _ => h, fun _ => by decide⟩
  · rw [if_neg e]
    have := hu u (by omega)
    rw [rb_t, Nat.zero_add] at this
    exact this
theorem vr_g156 {w : Int32} (hR : RF σ.2.2) (ha : a ≤ 100000) (hb : b ≤ 100000) (hn : σ.1 218 20 = nI n) (h10 : n ≤ 1024) (n1 : c ≠ 227) (n2 : c2 ≠ 227) : Pt (zlp (F_X12_gives_156 N 218 w c (nI a) c2 (nI b)) N (0, σ)) (fun r => FG [227] σ r.2 ∧ ∀ u, u < 1024 → (rb (r.2.1 227) 0 u = true ↔ GS w (rb (σ.1 c) a) (rb (σ.1 c2) b) n u)) := by
  refine pt_lp (fun x : Int32 × zS => ∃ m, (x.1 = nI m ∧ m ≤ 1024) ∧ FG [227] σ x.2 ∧ ∀ u, u < m → (rb (x.2.1 227) 0 u = true ↔ GS w (rb (σ.1 c) a) (rb (σ.1 c2) b) n u)) (fun again x hI ih => ?_) N _ ⟨0, ⟨rfl, Nat.zero_le _⟩, FG.rf, fun u hu => absurd hu (by omega)⟩
  obtain ⟨x6, τ⟩ := x
  obtain ⟨m, ⟨e, hm⟩, hf, hu⟩ := hI
  have e : x6 = nI m := e
  subst e
  have hf : FG [227] σ τ := hf
  have hu : ∀ u, u < m → (rb (τ.1 227) 0 u = true ↔ GS w (rb (σ.1 c) a) (rb (σ.1 c2) b) n u) := hu
  have e18 : τ.1 218 = σ.1 218 := hf.2 218 (by decide)
  have ec : τ.1 c = σ.1 c := hf.2 c (by simpa using n1)
  have ec2 : τ.1 c2 = σ.1 c2 := hf.2 c2 (by simpa using n2)
  have R9 := hf.R hR
  rw [F_X12_gives_156.eq_1]
  refine pt_if (fun q => pt_some ⟨hf, fun u h => hu u ?_⟩) (fun q => ?_)
  · have q : nI 1024 ≤ nI m := q
    rw [nlt (by omega) (by omega)] at q; omega
  · have q : ¬ nI 1024 ≤ nI m := q
    rw [nlt (by omega) (by omega)] at q
    have K : ∀ v : Int32, ((v = 0 ∧ ¬ GS w (rb (σ.1 c) a) (rb (σ.1 c2) b) n m) ∨ (v = 1 ∧ GS w (rb (σ.1 c) a) (rb (σ.1 c2) b) n m)) → Pt (zl (gR 12 17 218 τ) fun z => zl (sI 16 z (nI m) v τ) fun σ' => again (nI m + 1, σ')) (fun r => FG [227] σ r.2 ∧ ∀ u, u < 1024 → (rb (r.2.1 227) 0 u = true ↔ GS w (rb (σ.1 c) a) (rb (σ.1 c2) b) n u)) := fun v hv => by
      refine pt_gR (v := 227) (R9 218 17 rfl) (pt_s16 ?_)
      rw [iN (by omega), nI_s1 (by omega)]
      exact ih (nI (m + 1), _) ⟨m + 1, ⟨rfl, by omega⟩, hf.u (by simp), put_st hu hv⟩
    refine pt_gI ?_
    rw [e18, hn]
    have go : ∀ y : Int32, ((y = 0 ∧ ¬ m < n) ∨ (y = 1 ∧ m < n)) → Pt (J_X12_gives_178 N again 218 w c (nI a) c2 (nI b) (nI m) y τ) (fun r => FG [227] σ r.2 ∧ ∀ u, u < 1024 → (rb (r.2.1 227) 0 u = true ↔ GS w (rb (σ.1 c) a) (rb (σ.1 c2) b) n u)) := fun y hy => by
      refine vr_g178 ha hb (by omega) (by rw [e18]; exact hn) h10 hy (fun g => K 0 (Or.inl ⟨rfl, ?_⟩)) (fun g => K 1 (Or.inr ⟨rfl, ?_⟩))
      · rw [ec, ec2] at g; exact g
      · rw [ec, ec2] at g; exact g
    refine pt_if (fun z => go 0 (Or.inl ⟨rfl, ?_⟩)) (fun z => go 1 (Or.inr ⟨rfl, ?_⟩))
    · rw [nlt (by omega) (by omega)] at z; omega
    · rw [nlt (by omega) (by omega)] at z; omega
end RGIV

/-! ===== questions: what both have to ask with ===== -/
section QB
variable {N : Nat} {σ σ1 : zS} {x1 x2 : Int32}
/-- register p of the reference -/
abbrev Rg (f : Nat → Int32) (p : Nat) : Nat → Bool := rb f (1024 * p)
/-- a question: what it answers if it may be asked, else -2 -/
def QE (c : Prop) (P : Int32 → Prop) (v : Int32) : Prop := (c → P v) ∧ (¬ c → v = -2)
theorem QE_u {c : Prop} {P : Int32 → Prop} {v w : Int32} (hu : c → ∀ v w, P v → P w → v = w) (h : QE c P v) (h2 : QE c P w) : v = w := by
  by_cases q : c
  · exact hu q v w (h.1 q) (h2.1 q)
  · rw [h.2 q, h2.2 q]
theorem QE_y {c : Prop} {P : Int32 → Prop} {v : Int32} (hc : c) (h : P v) : QE c P v := ⟨fun _ => h, fun z => absurd hc z⟩
theorem QE_n {c : Prop} {P : Int32 → Prop} (hc : ¬ c) : QE c P (-2) := ⟨fun z => absurd z hc, fun _ => rfl⟩
theorem e0_ (hW : WQ σ) : σ.1 (σ.2.2 0 4) 0 = σ.1 219 0 := hW.1.1.1
theorem lq_isR (hW : WQ σ) : Px (f_X11_isRegister N 0 x1 σ) σ (fun v => (v = 0 → ¬ isR (σ.1 219 0) x1) ∧ (¬ v = 0 → isR (σ.1 219 0) x1)) := by
  have := vl_isRegister (N := N) (σ := σ) (x1 := x1) (B := σ.2.2 0 4) rfl
  rw [e0_ hW] at this
  exact this
theorem lq_isW (hW : WQ σ) : Px (f_X11_isWorld N 0 σ) σ (fun v => (v = 0 → (σ.1 219 0).toInt ≤ 0) ∧ (¬ v = 0 → 0 < (σ.1 219 0).toInt)) := by
  have := vl_isWorld (N := N) (σ := σ) (B := σ.2.2 0 4) rfl
  rw [e0_ hW] at this
  exact this
theorem lq_isS (hW : WQ σ) : Px (f_X11_isSet N 0 x1 σ) σ (fun v => (v = 0 → ¬ isS (σ.1 219 0) x1) ∧ (¬ v = 0 → isS (σ.1 219 0) x1)) := by
  have := vl_isSet (N := N) (σ := σ) (x1 := x1) (B := σ.2.2 0 4) rfl
  rw [e0_ hW] at this
  exact this
theorem lq_isN (hW : WQ σ) : Px (f_X11_isName N 0 x1 σ) σ (fun v => (v = 0 → ¬ isN (σ.1 219 0) x1) ∧ (¬ v = 0 → isN (σ.1 219 0) x1)) := by
  have := vl_isName (N := N) (σ := σ) (x1 := x1) (B := σ.2.2 0 4) rfl
  rw [e0_ hW] at this
  exact this
theorem lq_reg {β : Type} {P : β → Prop} {p : Nat} {f : Nat → Option β} (hI : IV σ) (hp : p < 10) (h : Pt (f (σ.2.2 0 4 + 6 + 2 * p)) P) : Pt (zl (gR 11 4 0 σ) fun v3 => zl (gR 10 7 v3 σ) fun v4 => zl (aR 17 v4 (nI p) σ) f) P := pt_reg (isWc4 (IV_4 hI)) hI.1.1.1 rfl hp h
theorem lq_k (hI : IV σ) {p : Nat} (hp : p < 10) : (zKd (σ.2.2 0 4 + 6 + 2 * p)).1 = 2 := (rgW (isWc4 (IV_4 hI)) hI.1.1.1 hp).2
theorem lq_M (hI : IV σ) : mn (σ.1 219 0) ≤ 1024 := mn_le (RI_n hI.1.2).2
/-- how many members -/
theorem lq_ct (hI : IV σ) (hF : FQ σ) {p : Nat} (hp : p < 10) : ct (bt (σ.2.1 (σ.2.2 0 4 + 6 + 2 * p + 1))) 1024 = ct (Rg (σ.1 220) p) (mn (σ.1 219 0)) := ct_both (lq_M hI) (fun u hu => FQ_f hF hp hu) (fun u hu h => FQ_i hF hp hu h)
theorem lq_tally {p : Nat} (hI : IV σ) (hF : FQ σ) (hp : p < 10) : Px (f_X2_tally N (σ.2.2 0 4 + 6 + 2 * p) σ) σ (fun v => v = nI (ct (Rg (σ.1 220) p) (mn (σ.1 219 0)))) := by
  refine pt_w (v_tally hI.1.1.1 (lq_k hI hp)) (fun r h => ⟨h.1, Int32.toInt_inj.mp ?_⟩)
  have l := ct_le (Rg (σ.1 220) p) (mn (σ.1 219 0))
  have m := lq_M hI
  rw [h.2, lq_ct hI hF hp, nI_toInt (by omega)]
theorem pkQ_M {F G : Nat → Bool} {M i : Nat} {v : Int32} (hM : M ≤ 1024) (hFG : ∀ u, u < 1024 → F u = G u) (hG : ∀ u, u < 1024 → G u = true → u < M) (h : pkQ F i v) : pkM G M i v := by
  have c : ∀ m, m ≤ 1024 → ct F m = ct G m := fun m hm => ct_c (fun k hk => hFG k (by omega))
  rcases h with ⟨u, hu, hp, hc, hv⟩ | ⟨hc, hv⟩
  · rw [hFG u hu] at hp
    refine Or.inl ⟨u, hG u hu hp, hp, by rw [← c u (by omega)]; exact hc, Int32.toInt_inj.mp ?_⟩
    rw [hv, nI_toInt (by omega)]
  · refine Or.inr ⟨?_, hv⟩
    have := ct_both hM hFG hG
    omega
theorem ct_lt_ {p : Nat → Bool} {u M : Nat} (hu : u < M) (hp : p u = true) : ct p u < ct p M := by
  have a := ct_t hp
  have b := ct_mono p (show u + 1 ≤ M by omega)
  omega
theorem pkM_u {G : Nat → Bool} {M i : Nat} {v w : Int32} (h : pkM G M i v) (h2 : pkM G M i w) : v = w := by
  rcases h with ⟨u, hu, hp, hc, hv⟩ | ⟨hc, hv⟩
  · rcases h2 with ⟨u2, hu2, hp2, hc2, hv2⟩ | ⟨hc2, hv2⟩
    · rw [hv, hv2, ct_inj hp hp2 (hc.trans hc2.symm)]
    · have := ct_lt_ hu hp
      omega
  · rcases h2 with ⟨u2, hu2, hp2, hc2, hv2⟩ | ⟨hc2, hv2⟩
    · have := ct_lt_ hu2 hp2
      omega
    · rw [hv, hv2]
/-- the i-th member -/
def nthP (G : Nat → Bool) (M : Nat) (x v : Int32) : Prop := (0 ≤ x.toInt → pkM G M x.toInt.toNat v) ∧ (x.toInt < 0 → v = -1)
theorem nthP_u {G : Nat → Bool} {M : Nat} {x v w : Int32} (h : nthP G M x v) (h2 : nthP G M x w) : v = w := by
  by_cases q : 0 ≤ x.toInt
  · exact pkM_u (h.1 q) (h2.1 q)
  · rw [h.2 (by omega), h2.2 (by omega)]
theorem lq_pick {p : Nat} (hI : IV σ) (hF : FQ σ) (hp : p < 10) : Px (f_X2_pick N (σ.2.2 0 4 + 6 + 2 * p) x2 σ) σ (nthP (Rg (σ.1 220) p) (mn (σ.1 219 0)) x2) := by
  refine pt_w (v_pick hI.1.1.1 (lq_k hI hp)) (fun r h => ⟨h.1, fun q => pkQ_M (lq_M hI) (fun u hu => FQ_f hF hp hu) (fun u hu h => FQ_i hF hp hu h) (h.2.1 q), h.2.2⟩)
theorem eqv {v e : Int32} (h : v = e) : (fun w => w = e) v := h
theorem fun_u {e : Int32} : ∀ v w : Int32, (fun w => w = e) v → (fun w => w = e) w → v = w := fun v w h h2 => (show v = e from h).trans (show w = e from h2).symm
/-- what is asked of the same world and families is the same -/
theorem fe_V {S : List Nat} {V : (Nat → Int32) → (Nat → Int32) → Int32 → Prop} {v w : Int32} (hu : ∀ g f v w, V g f v → V g f w → v = w) (t1 : FR S σ σ1) (hS : ∀ k ∈ [218, 219, 220, 239], k ∉ S) (c : V (σ.1 219) (σ.1 220) v) (r : V (σ1.1 219) (σ1.1 220) w) : v = w := by
  rw [t1.1 219 (hS 219 (by decide)), t1.1 220 (hS 220 (by decide))] at r
  exact hu _ _ _ _ c r
theorem bc_z (F : Nat → Bool) (M : Nat) : (∀ u, u < M → F u = false) ↔ ct F M = 0 := ⟨ct_0, ct_z⟩
end QB
section QB2
variable {N : Nat} {σ : zS} {x1 x2 : Int32} {F G : Nat → Bool} {M : Nat}
def b01 (A : Prop) (v : Int32) : Prop := (v = 1 ∧ A) ∨ (v = 0 ∧ ¬ A)
theorem b01_u {A : Prop} {v w : Int32} (h : b01 A v) (h2 : b01 A w) : v = w := by
  rcases h with ⟨a, b⟩ | ⟨a, b⟩
  · rcases h2 with ⟨c, d⟩ | ⟨c, d⟩
    · rw [a, c]
    · exact absurd b d
  · rcases h2 with ⟨c, d⟩ | ⟨c, d⟩
    · exact absurd d b
    · rw [a, c]
theorem b01_c {A B : Prop} {v : Int32} (h : A ↔ B) (hv : b01 A v) : b01 B v := hv.imp (fun z => ⟨z.1, h.mp z.2⟩) (fun z => ⟨z.1, fun y => z.2 (h.mpr y)⟩)
theorem xo_f {u : Nat} (h : F u = G u) : xoF F G u = false := by
  unfold xoF; rw [h]; cases G u <;> rfl
theorem xo_t {u : Nat} (h : ¬ F u = G u) : xoF F G u = true := by
  unfold xoF
  cases a : F u <;> cases b : G u
  · rw [a, b] at h; exact absurd rfl h
  · rfl
  · rfl
  · rw [a, b] at h; exact absurd rfl h
theorem xo_c {F' G' : Nat → Bool} {u : Nat} (h : F u = F' u) (h2 : G u = G' u) : xoF F G u = xoF F' G' u := by
  unfold xoF; rw [h, h2]
theorem vb_eq {v w : Int32} {a b : Bool} (h : (v = 0 ∨ v = 1) ∧ (v = 1 ↔ a = true)) (h2 : (w = 0 ∨ w = 1) ∧ (w = 1 ↔ b = true)) : v = w ↔ a = b := by
  constructor
  · intro e
    subst e
    rw [Bool.eq_iff_iff, ← h.2, ← h2.2]
  · intro e
    subst e
    by_cases z : v = 0
    · have := vb_f h z
      rcases h2.1 with y | y
      · rw [z, y]
      · rw [h2.2.mp y] at this; cases this
    · rw [h.1.resolve_left z, h2.2.mpr (vb_t h z)]
theorem mn_s {m : Int32} (h : m.toInt ≤ 10) : mn m ≤ 1024 := mn_le h
/-- the least one that is of one alone -/
theorem vr_differOf {p q : Nat} (hR : RF σ.2.2) (hn : 0 ≤ (σ.1 219 0).toInt ∧ (σ.1 219 0).toInt ≤ 10) (hp : p < 10) (hq : q < 10) : Px (f_X12_differOf N 218 (nI p) (nI q) σ) σ (pkM (xoF (Rg (σ.1 220) p) (Rg (σ.1 220) q)) (mn (σ.1 219 0)) 0) := by
  have b := mn_le hn.2
  rw [f_X12_differOf.eq_1]
  refine pt_lp (fun x : Int32 × zS => x.2 = σ ∧ ∃ m, (x.1 = nI m ∧ m ≤ mn (σ.1 219 0)) ∧ ∀ u, u < m → Rg (σ.1 220) p u = Rg (σ.1 220) q u) (fun again x hI ih => ?_) N _ ⟨rfl, 0, ⟨rfl, Nat.zero_le _⟩, fun u hu => absurd hu (Nat.not_lt_zero _)⟩
  obtain ⟨y3, τ⟩ := x
  obtain ⟨e, m, ⟨e4, hm⟩, he⟩ := hI
  have e : τ = σ := e
  have e4 : y3 = nI m := e4
  subst e
  subst e4
  have z0 : ct (xoF (Rg (τ.1 220) p) (Rg (τ.1 220) q)) m = 0 := ct_0 (fun k hk => xo_f (he k hk))
  rw [F_X12_differOf_2.eq_1]
  refine pt_gC (pt_zbq (vr_mn hR hn) (fun v hv => ?_))
  subst hv
  refine pt_if (fun z => pt_some ⟨rfl, Or.inr ⟨?_, rfl⟩⟩) (fun z => ?_)
  · rw [nlt (by omega) (by omega)] at z
    rw [show mn (τ.1 219 0) = m by omega, z0]
    exact Nat.le_refl _
  · rw [nlt (by omega) (by omega)] at z
    refine pt_gC (pt_zbq (vr_of hR hp (by omega)) (fun v3 h3 => pt_gC (pt_zbq (vr_of hR hq (by omega)) (fun v5 h5 => ?_))))
    refine pt_if (fun y => ?_) (fun y => pt_some ⟨rfl, Or.inl ⟨m, by omega, xo_t (fun k => y ((vb_eq h3 h5).mpr k)), z0, rfl⟩⟩)
    rw [nI_s1 (by omega)]
    refine ih (nI (m + 1), τ) ⟨rfl, m + 1, ⟨rfl, by omega⟩, fun u hu => ?_⟩
    by_cases k : u = m
    · rw [k]; exact (vb_eq h3 h5).mp y
    · exact he u (by omega)
theorem pt_nj {β : Type} {P : β → Prop} {y : Int64} {f : Unit → Option β} (h : Pt (f ()) P) : Pt (zl (nzJ y) f) P := fun a e => by
  obtain ⟨w, _, h2⟩ := zl_some e
  exact h a h2
theorem all_M (hM : M ≤ 1024) {P : Nat → Prop} (hP : ∀ u, u < 1024 → M ≤ u → P u) : (∀ u, u < 1024 → P u) ↔ ∀ u, u < M → P u :=
  ⟨fun h u hu => h u (by omega), fun h u hu => by
    by_cases q : u < M
    · exact h u q
    · exact hP u hu (by omega)⟩
theorem ge_f {u : Nat} (hF : FQ σ) {p : Nat} (hp : p < 10) (hu : u < 1024) (h : mn (σ.1 219 0) ≤ u) : Rg (σ.1 220) p u = false := by
  cases q : Rg (σ.1 220) p u with
  | false => rfl
  | true => have := FQ_i hF hp hu q; omega
end QB2
section QB3
variable {N : Nat} {σ : zS}
/-- two registers are the same -/
def sameR (f : Nat → Int32) (M q p : Nat) : Prop := ∀ u, u < M → Rg f q u = Rg f p u
theorem df_iff {f : Nat → Int32} {M p q : Nat} {v : Int32} (hM : M ≤ 1024) (h : pkM (xoF (Rg f p) (Rg f q)) M 0 v) : v = -1 ↔ sameR f M p q := by
  rcases h with ⟨u, hu, hx, _, hv⟩ | ⟨h0, hv⟩
  · constructor
    · intro z
      rw [hv] at z
      have := congrArg Int32.toInt z
      rw [nI_toInt (by omega)] at this
      simp only [Int32.reduceToInt] at this
      omega
    · intro h
      rw [xo_f (h u hu)] at hx; cases hx
  · refine ⟨fun _ u hu => Classical.byContradiction (fun y => ?_), fun _ => hv⟩
    have := ct_z (Nat.le_zero.mp h0) u hu
    rw [xo_t y] at this
    cases this
theorem same_iff (hI : IV σ) (hF : FQ σ) {p q : Nat} (hp : p < 10) (hq : q < 10) : (∀ u, u < 1024 → bt (σ.2.1 (σ.2.2 0 4 + 6 + 2 * p + 1)) u = bt (σ.2.1 (σ.2.2 0 4 + 6 + 2 * q + 1)) u) ↔ sameR (σ.1 220) (mn (σ.1 219 0)) p q := by
  unfold sameR
  rw [← all_M (lq_M hI) (fun u hu h => (ge_f hF hp hu h).trans (ge_f hF hq hu h).symm)]
  constructor
  · intro h u hu
    have := h u hu
    rw [FQ_f hF hp hu, FQ_f hF hq hu] at this
    exact this
  · intro h u hu
    rw [FQ_f hF hp hu, FQ_f hF hq hu]
    exact h u hu
/-- the first register that is as this one -/
theorem lq_firstLike {p : Nat} (hI : IV σ) (hF : FQ σ) (hp : p < 10) : Px (f_X10_firstLike N (σ.2.2 0 4) (nI p) σ) σ (fun v => v = nI p ↔ ∀ q, q < p → ¬ sameR (σ.1 220) (mn (σ.1 219 0)) q p) := by
  rw [f_X10_firstLike.eq_1]
  refine pt_lp (fun x : Int32 × zS => x.2 = σ ∧ ∃ l, (x.1 = nI l ∧ l ≤ p) ∧ ∀ q, q < l → ¬ sameR (σ.1 220) (mn (σ.1 219 0)) q p) (fun again x hJ ih => ?_) N _ ⟨rfl, 0, ⟨rfl, Nat.zero_le _⟩, fun q hq => absurd hq (Nat.not_lt_zero _)⟩
  obtain ⟨y, τ⟩ := x
  obtain ⟨eo, l, ⟨e4o, hl⟩, he⟩ := hJ
  have e : τ = σ := eo
  have e4 : y = nI l := e4o
  clear eo e4o
  subst e
  subst e4
  rw [F_X10_firstLike_2.eq_1]
  refine pt_if (fun z => pt_some ⟨rfl, fun _ => ?_, fun _ => rfl⟩) (fun z => ?_)
  · rw [nlt (by omega) (by omega)] at z
    exact fun q hq => he q (by omega)
  · rw [nlt (by omega) (by omega)] at z
    refine pt_if (fun z2 => absurd z2 ?_) (fun _ => pt_if (fun z2 => absurd z2 ?_) (fun _ => ?_))
    · show ¬ nI 10 ≤ nI l
      rw [nlt (by omega) (by omega)]; omega
    · show ¬ nI 10 ≤ nI p
      rw [nlt (by omega) (by omega)]; omega
    · refine pt_rg2 (isWc4 (IV_4 hI)) hI.1.1.1 (by omega) (pt_rg2 (isWc4 (IV_4 hI)) hI.1.1.1 hp (pt_gC (pt_zbq (v_sameAs hI.1.1.1 (lq_k hI (by omega)) (lq_k hI hp)) (fun v5 h5 => ?_))))
      rw [same_iff hI hF (by omega) hp] at h5
      refine pt_if (fun y => ?_) (fun y => pt_some ⟨rfl, fun k => ?_, fun k => ?_⟩)
      · rw [nI_s1 (by omega)]
        refine ih (nI (l + 1), τ) ⟨rfl, l + 1, ⟨rfl, by omega⟩, fun q hq => ?_⟩
        by_cases w : q = l
        · rw [w]
          intro s
          have := h5.2.mpr s
          rw [y] at this
          exact absurd this (by decide)
        · exact he q (by omega)
      · have := (nI_inj (by omega) (by omega)).mp (show nI l = nI p from k)
        omega
      · exact absurd (h5.2.mp (h5.1.resolve_left y)) (k l (by omega))
end QB3
/-- w is the names that P tells, below n -/
def nmP (P : Nat → Prop) (n : Nat) (v : Int32) : Prop := ∃ w, (v = nI w ∧ w < 1024) ∧ ∀ i, w.testBit i = true ↔ i < n ∧ P i
theorem nmP_u {P : Nat → Prop} {n : Nat} {v w : Int32} (h : nmP P n v) (h2 : nmP P n w) : v = w := by
  obtain ⟨a, ⟨ea, _⟩, ha⟩ := h
  obtain ⟨b, ⟨eb, _⟩, hb⟩ := h2
  rw [ea, eb, Nat.eq_of_testBit_eq (x := a) (y := b) (fun i => by rw [Bool.eq_iff_iff, ha i, hb i])]
theorem nmP_c {P Q : Nat → Prop} {n : Nat} {v : Int32} (hq : ∀ i, i < n → (P i ↔ Q i)) (h : nmP P n v) : nmP Q n v := by
  obtain ⟨a, ea, ha⟩ := h
  refine ⟨a, ea, fun i => (ha i).trans ⟨fun z => ⟨z.1, (hq i z.1).mp z.2⟩, fun z => ⟨z.1, (hq i z.1).mpr z.2⟩⟩⟩

/-! ===== registers ===== -/
section REGS
variable {N B n : Nat} {σ τ : zS} {x1 x2 : Int32}
theorem pt_rZb {P : Int32 × zS → Prop} {v : Int32} (h : v = 0 ∨ v = 1 → P (v, σ)) : Pt (rZ v σ) P := fun a e => by
  obtain ⟨q, rfl⟩ := zguard e
  exact h q
/-- a register -/
def isR (m x : Int32) : Prop := 0 < m.toInt ∧ 0 ≤ x.toInt ∧ x.toInt < 10
theorem isR_n {m x : Int32} (h : isR m x) : ∃ k, k < 10 ∧ x = nI k := znI (m := 10) h.2.1 (by have := h.2.2; omega)
theorem isR_i {m : Int32} {p : Nat} (hm : 0 < m.toInt) (hp : p < 10) : isR m (nI p) := by
  unfold isR
  rw [nI_toInt (by omega)]
  exact ⟨hm, by omega, by omega⟩
theorem vl_isWorld (h4 : σ.2.2 0 4 = B) : Px (f_X11_isWorld N 0 σ) σ (fun v => (v = 0 → (σ.1 B 0).toInt ≤ 0) ∧ (¬ v = 0 → 0 < (σ.1 B 0).toInt)) := by
  rw [f_X11_isWorld.eq_1]
  refine pt_gR (v := B) h4 (pt_gI (pt_if (fun q => pt_rZ ⟨rfl, fun _ => ?_, fun z => absurd rfl z⟩) (fun q => pt_rZ ⟨rfl, fun z => absurd (show (1 : Int32) = 0 from z) (by decide), fun _ => ?_⟩)))
  · rw [Int32.le_iff_toInt_le] at q; simpa using q
  · rw [Int32.le_iff_toInt_le] at q; simp only [Int32.reduceToInt] at q; omega
theorem vl_isRegister (h4 : σ.2.2 0 4 = B) : Px (f_X11_isRegister N 0 x1 σ) σ (fun v => (v = 0 → ¬ isR (σ.1 B 0) x1) ∧ (¬ v = 0 → isR (σ.1 B 0) x1)) := by
  unfold isR
  rw [f_X11_isRegister.eq_1]
  refine pt_gC (pt_zbq (vl_isWorld h4) (fun v hv => ?_))
  refine pt_if (fun q => pt_rZ ⟨rfl, fun _ z => ?_, fun z => absurd rfl z⟩) (fun q => pt_if (fun q2 => pt_rZ ⟨rfl, fun _ => ?_, fun z => absurd rfl z⟩) (fun q2 => pt_if (fun q3 => pt_rZ ⟨rfl, fun _ => ?_, fun z => absurd rfl z⟩) (fun q3 => pt_rZ ⟨rfl, fun z => absurd (show (1 : Int32) = 0 from z) (by decide), fun _ => ?_⟩)))
  · have := hv.1 q; have := z.1; omega
  · rw [Int32.lt_iff_toInt_lt] at q2; simp only [Int32.reduceToInt] at q2; omega
  · rw [Int32.le_iff_toInt_le] at q3; simp only [Int32.reduceToInt] at q3; omega
  · rw [Int32.lt_iff_toInt_lt] at q2; rw [Int32.le_iff_toInt_le] at q3; simp only [Int32.reduceToInt] at q2 q3; have := hv.2 q; omega
theorem vr_isRegister (hR : RF σ.2.2) : Px (f_X12_isRegister N 218 x1 σ) σ (fun v => (v = 0 → ¬ isR (σ.1 219 0) x1) ∧ (¬ v = 0 → isR (σ.1 219 0) x1)) := by
  unfold isR
  rw [f_X12_isRegister.eq_1]
  refine pt_gC (pt_zbX (σ := σ) (Q := fun v => (v = 0 → (σ.1 219 0).toInt ≤ 0) ∧ (¬ v = 0 → 0 < (σ.1 219 0).toInt)) (pt_ok (x_X12_isWorld hR)) (fun v hv => ?_))
  refine pt_if (fun q => pt_rZ ⟨rfl, fun _ z => ?_, fun z => absurd rfl z⟩) (fun q => pt_zbq vr_in (fun w hw => ?_))
  · have := hv.1 q; have := z.1; omega
  · rw [i64_of] at hw
    simp only [Int64.reduceToInt] at hw
    refine pt_if (fun z => pt_rZ ⟨rfl, fun _ y => hw.1 z (by omega), fun y => absurd rfl y⟩) (fun z => pt_rZ ⟨rfl, fun y => absurd (show (1 : Int32) = 0 from y) (by decide), fun _ => ?_⟩)
    have := hw.2 z
    have := hv.2 q
    omega
theorem vr_areRegisters (hR : RF σ.2.2) : Px (f_X12_areRegisters N 218 x1 x2 σ) σ (fun v => (v = 0 → ¬ (isR (σ.1 219 0) x1 ∧ isR (σ.1 219 0) x2)) ∧ (¬ v = 0 → isR (σ.1 219 0) x1 ∧ isR (σ.1 219 0) x2)) := by
  rw [f_X12_areRegisters.eq_1]
  refine pt_gC (pt_zbq (vr_isRegister hR) (fun v hv => pt_if (fun q => pt_rZ ⟨rfl, fun _ z => hv.1 q z.1, fun z => absurd rfl z⟩) (fun q => pt_gC (pt_zbq (vr_isRegister hR) (fun w hw => pt_if (fun z => pt_rZ ⟨rfl, fun _ y => hw.1 z y.2, fun y => absurd rfl y⟩) (fun z => pt_rZ ⟨rfl, fun y => absurd (show (1 : Int32) = 0 from y) (by decide), fun _ => ⟨hv.2 q, hw.2 z⟩⟩))))))
/-- how many sets there are -/
def mn (v : Int32) : Nat := if 0 < v.toInt then 2 ^ v.toInt.toNat else 0
theorem mn_p {v : Int32} (h : 0 < v.toInt) : mn v = 2 ^ v.toInt.toNat := if_pos h
theorem mn_le {v : Int32} (h : v.toInt ≤ 10) : mn v ≤ 1024 := by
  unfold mn
  split
  · exact (p2le (by omega)).1
  · omega
theorem mn_0 {v : Int32} (h : v.toInt ≤ 0) : mn v = 0 := if_neg (by omega)
theorem vr_mn (hR : RF σ.2.2) (hn : 0 ≤ (σ.1 219 0).toInt ∧ (σ.1 219 0).toInt ≤ 10) : Px (f_X12_many N 218 σ) σ (fun v => v = nI (mn (σ.1 219 0))) := by
  refine pt_w (vr_many hR) (fun r h => ⟨h.1, ?_⟩)
  rw [h.2]
  have b := mn_le hn.2
  apply Int32.toInt_inj.mp
  rw [nI_toInt (by omega)]
  by_cases q : 0 < (σ.1 219 0).toInt
  · rw [if_pos q, mn_p q]; exact ti_one hn.1 (by omega)
  · rw [if_neg q, mn_0 (by omega)]; rfl
theorem isS_n {m x : Int32} (hm : m.toInt ≤ 10) (h : isS m x) : ∃ s, x = nI s ∧ s < mn m := by
  obtain ⟨h1, h2, h3⟩ := h
  rw [ti_one (by omega) (by omega)] at h3
  obtain ⟨s, hs, rfl⟩ := znI (m := 2 ^ m.toInt.toNat) h2 h3
  exact ⟨s, rfl, by rw [mn_p h1]; exact hs⟩
theorem ct_t {p : Nat → Bool} {m : Nat} (h : p m = true) : ct p (m + 1) = ct p m + 1 := by
  show ct p m + _ = _
  rw [h, if_pos rfl]
theorem ct_f {p : Nat → Bool} {m : Nat} (h : p m = false) : ct p (m + 1) = ct p m := by
  show ct p m + _ = _
  rw [h]; rfl
theorem vb_f {v : Int32} {b : Bool} (h : (v = 0 ∨ v = 1) ∧ (v = 1 ↔ b = true)) (z : v = 0) : b = false := by
  refine Bool.eq_false_iff.mpr (fun q => ?_)
  have := h.2.mpr q
  rw [this] at z; exact absurd z (by decide)
theorem vb_t {v : Int32} {b : Bool} (h : (v = 0 ∨ v = 1) ∧ (v = 1 ↔ b = true)) (z : ¬ v = 0) : b = true := h.2.mp (h.1.resolve_left z)
theorem vr_of {p s : Nat} (hR : RF σ.2.2) (hp : p < 10) (hs : s < 1024) : Px (f_X12_of N 218 (nI p) (nI s) σ) σ (fun v => (v = 0 ∨ v = 1) ∧ (v = 1 ↔ rb (σ.1 220) (1024 * p) s = true)) := by
  rw [f_X12_of.eq_1]
  have e : ((1024 : Int32) * nI p + nI s).toInt.toNat = 1024 * p + s := by
    rw [show (1024 : Int32) = nI 1024 from rfl, nI_mul, nI_plus, nI_toInt (by omega)]; omega
  refine pt_gR (v := 220) (hR 218 2 rfl) (pt_aI ?_)
  rw [e]
  refine pt_rZb (fun q => ⟨rfl, q, ?_⟩)
  rw [rb_t]
  exact ⟨fun z y => absurd (z.symm.trans y) (by decide), fun z => q.resolve_left z⟩
theorem vr_sizeOf {p : Nat} (hR : RF σ.2.2) (hn : 0 ≤ (σ.1 219 0).toInt ∧ (σ.1 219 0).toInt ≤ 10) (hp : p < 10) : Px (f_X12_sizeOf N 218 (nI p) σ) σ (fun v => v = nI (ct (rb (σ.1 220) (1024 * p)) (mn (σ.1 219 0)))) := by
  have b := mn_le hn.2
  rw [f_X12_sizeOf.eq_1]
  refine pt_lp (fun x : Int32 × Int32 × zS => x.2.2 = σ ∧ ∃ m, (x.2.1 = nI m ∧ m ≤ mn (σ.1 219 0)) ∧ x.1 = nI (ct (rb (σ.1 220) (1024 * p)) m)) (fun again x hI ih => ?_) N _ ⟨rfl, 0, ⟨rfl, Nat.zero_le _⟩, rfl⟩
  obtain ⟨x2, x3, τ⟩ := x
  obtain ⟨e, m, ⟨e3, hm⟩, e2⟩ := hI
  have e : τ = σ := e
  have e3 : x3 = nI m := e3
  have e2 : x2 = nI (ct (rb (σ.1 220) (1024 * p)) m) := e2
  subst e
  subst e3
  subst e2
  rw [F_X12_sizeOf_4.eq_1]
  refine pt_gC (pt_zbq (vr_mn hR hn) (fun v hv => ?_))
  subst hv
  refine pt_if (fun q => pt_some ⟨rfl, ?_⟩) (fun q => ?_)
  · rw [nlt (by omega) (by omega)] at q
    show nI (ct _ m) = _
    rw [show m = mn (τ.1 219 0) by omega]
  · rw [nlt (by omega) (by omega)] at q
    refine pt_gC (pt_zbq (vr_of hR hp (by omega)) (fun w hw => pt_if (fun z => ?_) (fun z => ?_)))
    · rw [nI_s1 (by omega), Int32.add_zero]
      exact ih (_, nI (m + 1), τ) ⟨rfl, m + 1, ⟨rfl, by omega⟩, by rw [ct_f (vb_f hw z)]⟩
    · have := ct_le (rb (τ.1 220) (1024 * p)) m
      rw [nI_s1 (by omega), nI_s1 (by omega)]
      exact ih (_, nI (m + 1), τ) ⟨rfl, m + 1, ⟨rfl, by omega⟩, by rw [ct_t (vb_t hw z)]⟩
theorem ct_at {p : Nat → Bool} : ∀ {M i : Nat}, i < ct p M → ∃ u, u < M ∧ p u = true ∧ ct p u = i
  | 0, i, h => absurd h (Nat.not_lt_zero _)
  | M + 1, i, h => by
    by_cases q : i < ct p M
    · obtain ⟨u, h1, h2⟩ := ct_at q
      exact ⟨u, by omega, h2⟩
    · have h : i < ct p M + (if p M = true then 1 else 0) := h
      by_cases z : p M = true
      · rw [if_pos z] at h
        exact ⟨M, by omega, z, by omega⟩
      · rw [if_neg z] at h; omega
theorem ct_inj {p : Nat → Bool} {u v : Nat} (hu : p u = true) (hv : p v = true) (h : ct p u = ct p v) : u = v := by
  rcases Nat.lt_trichotomy u v with q | q | q
  · have := ct_mono p (show u + 1 ≤ v from q)
    rw [ct_t hu] at this; omega
  · exact q
  · have := ct_mono p (show v + 1 ≤ u from q)
    rw [ct_t hv] at this; omega
theorem ct_top {p : Nat → Bool} {M n : Nat} (h : M ≤ n) (hz : ∀ u, M ≤ u → u < n → p u = false) : ct p n = ct p M := by
  obtain ⟨d, rfl⟩ : ∃ d, n = M + d := ⟨n - M, by omega⟩
  rw [ct_split, ct_0 (p := fun k => p (M + k)) (fun k hk => hz _ (by omega) (by omega)), Nat.add_zero]
/-- the i-th, below M -/
def pkM (p : Nat → Bool) (M i : Nat) (v : Int32) : Prop := (∃ u, u < M ∧ p u = true ∧ ct p u = i ∧ v = nI u) ∨ (ct p M ≤ i ∧ v = -1)
theorem vr_nthOf {p : Nat} (hR : RF σ.2.2) (hn : 0 ≤ (σ.1 219 0).toInt ∧ (σ.1 219 0).toInt ≤ 10) (hp : p < 10) : Px (f_X12_nthOf N 218 (nI p) x2 σ) σ (fun v => (0 ≤ x2.toInt → pkM (rb (σ.1 220) (1024 * p)) (mn (σ.1 219 0)) x2.toInt.toNat v) ∧ (x2.toInt < 0 → v = -1)) := by
  have b := mn_le hn.2
  rw [f_X12_nthOf.eq_1]
  refine pt_lp (fun x : Int32 × Int32 × zS => x.2.2 = σ ∧ ∃ m, (x.2.1 = nI m ∧ m ≤ mn (σ.1 219 0)) ∧ x.1 = nI (ct (rb (σ.1 220) (1024 * p)) m) ∧ ∀ u, u < m → rb (σ.1 220) (1024 * p) u = true → ¬ nI (ct (rb (σ.1 220) (1024 * p)) u) = x2) (fun again x hI ih => ?_) N _ ⟨rfl, 0, ⟨rfl, Nat.zero_le _⟩, rfl, fun u hu => absurd hu (Nat.not_lt_zero _)⟩
  obtain ⟨x3, x4, τ⟩ := x
  obtain ⟨e, m, ⟨e4, hm⟩, e3, hx⟩ := hI
  have e : τ = σ := e
  have e4 : x4 = nI m := e4
  have e3 : x3 = nI (ct (rb (σ.1 220) (1024 * p)) m) := e3
  subst e
  subst e4
  subst e3
  rw [F_X12_nthOf_5.eq_1]
  refine pt_gC (pt_zbq (vr_mn hR hn) (fun v hv => ?_))
  subst hv
  refine pt_if (fun q => pt_some ⟨rfl, fun h0 => Or.inr ⟨?_, rfl⟩, fun _ => rfl⟩) (fun q => ?_)
  · rw [nlt (by omega) (by omega)] at q
    have hm2 : m = mn (τ.1 219 0) := by omega
    by_cases z : x2.toInt.toNat < ct (rb (τ.1 220) (1024 * p)) (mn (τ.1 219 0))
    · obtain ⟨u, h1, h2, h3⟩ := ct_at z
      refine absurd ?_ (hx u (by omega) h2)
      apply Int32.toInt_inj.mp
      rw [h3, nI_toInt (by have := ti_hi x2; omega)]
      omega
    · omega
  · rw [nlt (by omega) (by omega)] at q
    have cl := ct_le (rb (τ.1 220) (1024 * p)) m
    refine pt_gC (pt_zbq (vr_of hR hp (by omega)) (fun w hw => pt_if (fun z => ?_) (fun z => pt_if (fun y => pt_some ⟨rfl, fun h0 => Or.inl ⟨m, by omega, vb_t hw z, ?_, rfl⟩, fun h0 => ?_⟩) (fun y => ?_))))
    · rw [nI_s1 (by omega)]
      refine ih (_, nI (m + 1), τ) ⟨rfl, m + 1, ⟨rfl, by omega⟩, by rw [ct_f (vb_f hw z)], fun u hu ht => ?_⟩
      by_cases e : u = m
      · rw [e, vb_f hw z] at ht; cases ht
      · exact hx u (by omega) ht
    · rw [← y, nI_toInt (by omega)]; omega
    · rw [← y, nI_toInt (by omega)] at h0; omega
    · rw [nI_s1 (by omega), nI_s1 (by omega)]
      refine ih (_, nI (m + 1), τ) ⟨rfl, m + 1, ⟨rfl, by omega⟩, by rw [ct_t (vb_t hw z)], fun u hu ht => ?_⟩
      by_cases e : u = m
      · rw [e]; exact y
      · exact hx u (by omega) ht
theorem pkM_eq {F G : Nat → Bool} {M i : Nat} {v w : Int32} (hM : M ≤ 1024) (hFG : ∀ u, u < 1024 → F u = G u) (hF : ∀ u, u < 1024 → F u = true → u < M) (h : pkQ F i v) (h2 : pkM G M i w) : v = w := by
  have cF : ∀ u, u ≤ 1024 → ct F u = ct G u := fun u hu => ct_c (fun k hk => hFG k (by omega))
  have top : ct F 1024 = ct F M := ct_top hM (fun u l1 l2 => Bool.eq_false_iff.mpr (fun z => by have := hF u l2 z; omega))
  rcases h with ⟨u, h1, h3, h4, h5⟩ | ⟨h1, h3⟩
  · rcases h2 with ⟨u', k1, k3, k4, k5⟩ | ⟨k1, k3⟩
    · have e : u = u' := ct_inj h3 (by rw [hFG u' (by omega)]; exact k3) (by rw [h4, cF u' (by omega), k4])
      apply Int32.toInt_inj.mp
      rw [h5, k5, nI_toInt (by omega), e]
    · have l := hF u h1 h3
      have := ct_mono F (show u + 1 ≤ M from l)
      rw [ct_t h3, cF M hM] at this
      omega
  · rcases h2 with ⟨u', k1, k3, k4, k5⟩ | ⟨k1, k3⟩
    · have := ct_mono G (show u' + 1 ≤ M from k1)
      rw [ct_t k3, ← cF M hM] at this
      omega
    · rw [h3, k3]
/-! what is laid and stored -/
/-- the worlds' rows of longs -/
def WR (a : Nat) : Prop := (2 ≤ a ∧ a < 54) ∨ 132 ≤ a
def LW (σ τ : zS) : Prop := ∀ a, WR a → τ.2.1 a = σ.2.1 a
/-- the class's register p is S now, v are they; no other family of a world is other -/
def CM (σ τ : zS) (v : Int32) (B p : Nat) (S : Nat → Prop) : Prop := (∀ u, u < 1024 → (bt (τ.2.1 (B + 6 + 2 * p + 1)) u = true ↔ S u)) ∧ (∀ a, WR a → a ≠ B + 6 + 2 * p + 1 → τ.2.1 a = σ.2.1 a) ∧ v.toInt = (ct (bt (τ.2.1 (B + 6 + 2 * p + 1))) 1024 : Int)
/-- the reference's register -/
def RM (σ τ : zS) (v : Int32) (p : Nat) (S : Nat → Prop) : Prop := (∀ u, u < 1024 → (rb (τ.1 220) (1024 * p) u = true ↔ S u)) ∧ (∀ k, (k < 1024 * p ∨ 1024 * p + 1024 ≤ k) → τ.1 220 k = σ.1 220 k) ∧ v = nI (ct (rb (τ.1 220) (1024 * p)) (mn (σ.1 219 0)))
theorem k128 : (zKd 128).1 = 2 ∧ (zKd 130).1 = 2 := by decide
theorem iF128 : isF 128 ∧ isF 130 := by unfold isF; decide
theorem rg_iF (hB : isWc B) {k : Nat} (hk : k < 10) (hR : RF σ.2.2) : isF (B + 6 + 2 * k) := by
  refine ⟨(rgW hB hR hk).2, ?_⟩
  unfold isWc at hB
  omega
theorem pt_reg {β : Type} {P : β → Prop} {k : Nat} {f : Nat → Option β} (hB : isWc B) (hR : RF σ.2.2) (h4 : σ.2.2 0 4 = B) (hk : k < 10) (h : Pt (f (B + 6 + 2 * k)) P) : Pt (zl (gR 11 4 0 σ) fun v3 => zl (gR 10 7 v3 σ) fun v4 => zl (aR 17 v4 (nI k) σ) f) P := by
  refine pt_gR (v := B) h4 (pt_gR (v := B + 5) (rW hB hR).2 (pt_aR ?_))
  rw [iN (by omega), (rgW hB hR hk).1]; exact h
theorem vl_store {p : Nat} (hB : isWc B) (hR : RF σ.2.2) (h4 : σ.2.2 0 4 = B) (hp : p < 10) (hn : 0 < (σ.1 B 0).toInt) : Pt (f_X11_store N 0 (nI p) σ) (fun r => LF (B + 6 + 2 * p + 1) σ r.2 ∧ (∀ u, u < 1024 → bt (r.2.2.1 (B + 6 + 2 * p + 1)) u = bt (σ.2.1 129) u) ∧ r.1.toInt = (ct (bt (σ.2.1 129)) 1024 : Int)) := by
  rw [f_X11_store.eq_1]
  have k := rgW hB hR hp
  refine pt_gC (pt_zbq (vl_isRegister h4) (fun v hv => pt_if (fun q => absurd (isR_i hn hp) (hv.1 q)) (fun _ => ?_)))
  refine pt_reg hB hR h4 hp (pt_gR (v := 128) (hR 0 17 rfl) (pt_gC (pt_zb (v_copyFrom hR k.2 k128.1) (fun _ σ1 h => ?_))))
  obtain ⟨l, e⟩ := h
  have l : LF (B + 6 + 2 * p + 1) σ σ1 := l
  have e : ∀ u, u < 1024 → bt (σ1.2.1 (B + 6 + 2 * p + 1)) u = bt (σ.2.1 129) u := e
  have R1 := l.R hR
  have e9 : σ1.2.1 129 = σ.2.1 129 := l.2.2 129 (by unfold isWc at hB; omega)
  refine pt_gR (v := 128) (R1 0 17 rfl) (pt_gC (pt_zbq (v_tally R1 k128.1) (fun v hv => pt_some ⟨l, e, ?_⟩)))
  show v.toInt = _
  rw [hv]
  show (ct (bt (σ1.2.1 129)) 1024 : Int) = _
  rw [e9]
/-- what stands in the scratch is stored -/
theorem CM_st {σ σ1 σ2 : zS} {v : Int32} {p : Nat} {S : Nat → Prop} (hB : isWc B) (hp : p < 10) (hw : ∀ a, WR a → σ1.2.1 a = σ.2.1 a) (hs : ∀ u, u < 1024 → (bt (σ1.2.1 129) u = true ↔ S u)) (h : LF (B + 6 + 2 * p + 1) σ1 σ2 ∧ (∀ u, u < 1024 → bt (σ2.2.1 (B + 6 + 2 * p + 1)) u = bt (σ1.2.1 129) u) ∧ v.toInt = (ct (bt (σ1.2.1 129)) 1024 : Int)) : CM σ σ2 v B p S := by
  refine ⟨fun u hu => by rw [h.2.1 u hu]; exact hs u hu, fun a ha ne => (h.1.2.2 a ne).trans (hw a ha), ?_⟩
  rw [h.2.2, ct_c (fun k hk => (h.2.1 k hk).symm)]
theorem nrz {v : Int32} (h : v = 0 ∨ v = 1) : vp_nar .boolean v = v := by
  rcases h with rfl | rfl
  · exact nz1.1
  · exact nz1.2
/-- a row of booleans tells S, below m -/
def Md (k : Nat) (τ : zS) (m : Nat) (S : Nat → Prop) : Prop := ∀ u, u < m → (τ.1 k u = 1 ∧ S u) ∨ (τ.1 k u = 0 ∧ ¬ S u)
theorem Md_z {k : Nat} {S : Nat → Prop} (hB : ZB τ.1) (hk : (zKd k).1 = 16) (h : ∀ u, u < 1024 → (rb (τ.1 k) 0 u = true ↔ S u)) : Md k τ 1024 S := fun u hu => by
  have q := h u hu
  rw [rb_t, Nat.zero_add] at q
  rcases hB k hk u with z | z
  · exact Or.inr ⟨z, fun y => q.mpr y z⟩
  · exact Or.inl ⟨z, q.mp (fun y => absurd (z.symm.trans y) (by decide))⟩
theorem Md_p {k m : Nat} {S : Nat → Prop} {v : Int32} (h : Md k τ m S) (hv : (v = 1 ∧ S m) ∨ (v = 0 ∧ ¬ S m)) : Md k (zI τ k (upd (τ.1 k) m (vp_nar .boolean v))) (m + 1) S := fun u hu => by
  rw [zI_s, upd_i]
  by_cases e : u = m
  · subst e
    rw [if_pos rfl]
    rcases hv with ⟨rfl, s⟩ | ⟨rfl, s⟩
    · exact Or.inl ⟨nz1.2, s⟩
    · exact Or.inr ⟨nz1.1, s⟩
  · rw [if_neg e]; exact h u (by omega)
theorem Md_rb {k m : Nat} {S : Nat → Prop} (h : Md k τ m S) {u : Nat} (hu : u < m) : rb (τ.1 k) 0 u = true ↔ S u := by
  rw [rb_t, Nat.zero_add]
  rcases h u hu with ⟨e, s⟩ | ⟨e, s⟩
  · rw [e]; exact ⟨fun _ => s, fun _ => by decide⟩
  · rw [e]; exact ⟨fun z => absurd rfl z, fun z => absurd z s⟩
theorem vr_lays {p : Nat} {S : Nat → Prop} (hR : RF σ.2.2) (hn : 0 ≤ (σ.1 219 0).toInt ∧ (σ.1 219 0).toInt ≤ 10) (hp : p < 10) (hS : Md 227 σ 1024 S) : Pt (f_X12_lays N 218 (nI p) σ) (fun r => FG [220] σ r.2 ∧ RM σ r.2 r.1 p S) := by
  rw [f_X12_lays.eq_1]
  refine pt_lp (fun x : Int32 × zS => ∃ m, (x.1 = nI m ∧ m ≤ 1024) ∧ FG [220] σ x.2 ∧ (∀ u, u < m → x.2.1 220 (1024 * p + u) = σ.1 227 u) ∧ ∀ k, (k < 1024 * p ∨ 1024 * p + 1024 ≤ k) → x.2.1 220 k = σ.1 220 k) (fun again x hI ih => ?_) N _ ⟨0, ⟨rfl, Nat.zero_le _⟩, FG.rf, fun u hu => absurd hu (Nat.not_lt_zero _), fun _ _ => rfl⟩
  obtain ⟨x2, τ⟩ := x
  obtain ⟨m, ⟨e, hm⟩, hf, hu, ho⟩ := hI
  have e : x2 = nI m := e
  subst e
  have hf : FG [220] σ τ := hf
  have hu : ∀ u, u < m → τ.1 220 (1024 * p + u) = σ.1 227 u := hu
  have ho : ∀ k, (k < 1024 * p ∨ 1024 * p + 1024 ≤ k) → τ.1 220 k = σ.1 220 k := ho
  have R9 := hf.R hR
  have e19 : τ.1 219 = σ.1 219 := hf.2 219 (by decide)
  have e27 : τ.1 227 = σ.1 227 := hf.2 227 (by decide)
  rw [F_X12_lays_2.eq_1]
  refine pt_if (fun q => ?_) (fun q => ?_)
  · have q : nI 1024 ≤ nI m := q
    rw [nlt (by omega) (by omega)] at q
    refine pt_gC (pt_zbq (vr_sizeOf R9 (by rw [e19]; exact hn) hp) (fun v hv => pt_some ⟨hf, fun u h => ?_, ho, ?_⟩))
    · show rb (τ.1 220) (1024 * p) u = true ↔ S u
      rw [rb_t, hu u (by omega)]
      rcases hS u h with ⟨e, s⟩ | ⟨e, s⟩
      · rw [e]; exact ⟨fun _ => s, fun _ => by decide⟩
      · rw [e]; exact ⟨fun z => absurd rfl z, fun z => absurd z s⟩
    · rw [e19] at hv; exact hv
  · have q : ¬ nI 1024 ≤ nI m := q
    rw [nlt (by omega) (by omega)] at q
    have e : ((1024 : Int32) * nI p + nI m).toInt.toNat = 1024 * p + m := by
      rw [show (1024 : Int32) = nI 1024 from rfl, nI_mul, nI_plus, nI_toInt (by omega)]; omega
    refine pt_gR (v := 220) (R9 218 2 rfl) (pt_gR (v := 227) (R9 218 17 rfl) (pt_aI (pt_s16 ?_)))
    rw [e, iN (by omega), nI_s1 (by omega), e27, nrz ((hS m (by omega)).elim (fun z => Or.inr z.1) (fun z => Or.inl z.1))]
    refine ih (nI (m + 1), _) ⟨m + 1, ⟨rfl, by omega⟩, hf.u (by simp), fun u h => ?_, fun k hk => ?_⟩
    · show (zI τ 220 _).1 220 (1024 * p + u) = _
      rw [zI_s, upd_i]
      by_cases d : u = m
      · rw [if_pos (by omega), d]
      · rw [if_neg (by omega)]; exact hu u (by omega)
    · show (zI τ 220 _).1 220 k = _
      rw [zI_s, upd_n (by omega)]; exact ho k hk
end REGS

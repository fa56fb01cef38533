/-! ===== the class's parts by sets of names (best) ===== -/
/-- the word of the sets of a, in the loop's steps -/
def bhW (a : Int32) : Nat → Int64
  | 0 => 1
  | k + 1 => if ((a >>> (nI k &&& 31)) &&& 1) = 0 then bhW a k else bhW a k ||| zsl (bhW a k) ((1 : Int32) <<< (nI k &&& 31))
theorem bhW_0 {a : Int32} {k : Nat} (h : ((a >>> (nI k &&& 31)) &&& 1) = 0) : bhW a (k + 1) = bhW a k := if_pos h
theorem bhW_1 {a : Int32} {k : Nat} (h : ¬ ((a >>> (nI k &&& 31)) &&& 1) = 0) : bhW a (k + 1) = bhW a k ||| zsl (bhW a k) ((1 : Int32) <<< (nI k &&& 31)) := if_neg h
theorem bhW_t : ∀ n, n < 7 → ∀ s, s < 2 ^ n → ∀ y, y < 64 → (bhW (nI (2 ^ n - 1) &&& (nI s ^^^ (-1))) 6).toBitVec.getLsbD y = (decide (y < 2 ^ n) && decide (y &&& s = 0)) := by decide +kernel
/-- the next set of a behind s -/
def nxs (a s : Nat) : Nat := ((s + 64 - a) % 64) &&& a
theorem nxs_e : ∀ a, a < 64 → ∀ s, s < 64 → (nI s - nI a) &&& nI a = nI (nxs a s) := by decide +kernel
def sbB (a s : Nat) : Bool := Nat.beq (s &&& a) s
theorem nxs_k : (List.range 64).all (fun a => (List.range 64).all (fun s => !(sbB a s) || (if s = a then nxs a s == 0 else decide (s < nxs a s) && sbB a (nxs a s) && (List.range 64).all (fun z => !(sbB a z && decide (s < z)) || decide (nxs a s ≤ z))))) = true := by decide +kernel
theorem sbB_t {a s : Nat} : sbB a s = true ↔ sbm a s := ⟨fun h => Nat.eq_of_beq_eq_true h, fun h => by
  unfold sbB
  rw [show s &&& a = s from h]
  exact Nat.beq_refl s⟩
theorem sbm_le {a s : Nat} (h : sbm a s) : s ≤ a := by
  have h : s &&& a = s := h
  rw [← h]
  exact Nat.and_le_right
theorem nxs_t {a s : Nat} (ha : a < 64) (h : sbm a s) : (s = a → nxs a s = 0) ∧ (¬ s = a → s < nxs a s ∧ sbm a (nxs a s) ∧ ∀ z, sbm a z → s < z → nxs a s ≤ z) := by
  have sl := sbm_le h
  have k : (if s = a then nxs a s == 0 else decide (s < nxs a s) && sbB a (nxs a s) && (List.range 64).all (fun z => !(sbB a z && decide (s < z)) || decide (nxs a s ≤ z))) = true := imp_b (all_r (all_r nxs_k ha) (show s < 64 by omega)) (sbB_t.mpr h)
  constructor
  · intro e
    rw [if_pos e] at k
    exact eq_of_beq k
  · intro e
    rw [if_neg e] at k
    refine ⟨of_decide_eq_true (and_1 (and_1 k)), sbB_t.mp (and_2 (and_1 k)), fun z hz lz => ?_⟩
    have zl := sbm_le hz
    exact of_decide_eq_true (imp_b (all_r (and_2 k) (show z < 64 by omega)) (by rw [sbB_t.mpr hz, decide_eq_true lz]; rfl))
theorem add_or_k : (List.range 64).all (fun x => (List.range 64).all (fun y => !(Nat.beq (x &&& y) 0) || (Nat.beq (x + y) (x ||| y) && decide (x + y < 64)))) = true := by decide +kernel
theorem add_or {x y : Nat} (hx : x < 64) (hy : y < 64) (h : x &&& y = 0) : x + y = x ||| y ∧ x + y < 64 := by
  have k : (Nat.beq (x + y) (x ||| y) && decide (x + y < 64)) = true := imp_b (all_r (all_r add_or_k hx) hy) (show Nat.beq (x &&& y) 0 = true by rw [h]; rfl)
  exact ⟨Nat.eq_of_beq_eq_true (and_1 k), of_decide_eq_true (and_2 k)⟩
/-- how many of the first rows that A counts -/
theorem ct_via {A q : Nat → Bool} : ∀ m, ct q (ct A m) = ct (fun x => A x && q (ct A x)) m
  | 0 => rfl
  | m + 1 => by
    have ih := ct_via (A := A) (q := q) m
    cases h : A m with
    | false =>
      rw [ct_f h, ct_f (p := fun x => A x && q (ct A x)) (by show (A m && _) = false; rw [h]; rfl)]
      exact ih
    | true =>
      rw [ct_t h]
      cases h2 : q (ct A m) with
      | false => rw [ct_f h2, ct_f (p := fun x => A x && q (ct A x)) (by show (A m && q (ct A m)) = false; rw [h, h2]; rfl)]; exact ih
      | true => rw [ct_t h2, ct_t (p := fun x => A x && q (ct A x)) (by show (A m && q (ct A m)) = true; rw [h, h2]; rfl), ih]
section GTH
variable {N n S v x y m : Nat} {σ τ : zS} {F : Nat → Bool} {W bh : Int64}
/-- the part of x -/
def pW (W bh : Int64) (x : Nat) : Int64 := zul W (nI x) &&& bh
def Wof (F : Nat → Bool) (W : Int64) : Prop := ∀ u, u < 64 → W.toBitVec.getLsbD u = F u
def Bof (n S : Nat) (bh : Int64) : Prop := ∀ y, y < 64 → bh.toBitVec.getLsbD y = (decide (y < 2 ^ n) && decide (y &&& S = 0))
theorem p6le (n6 : n ≤ 6) : 2 ^ n ≤ 64 := Nat.pow_le_pow_right (n := 2) (by decide) n6
theorem sbm_off (hx : sbm S x) (hy : off n S y) : x &&& y = 0 := by
  apply Nat.eq_of_testBit_eq
  intro i
  rw [Nat.testBit_and, Nat.zero_testBit]
  cases q : x.testBit i with
  | false => rfl
  | true =>
    cases q2 : y.testBit i with
    | false => rfl
    | true =>
      have a := sbm_tb.mp hx i q
      have b := (off_tb.mp hy).2 i q2
      rw [a] at b; cases b
theorem pW_b (n6 : n ≤ 6) (hS : S < 2 ^ n) (hW : Wof F W) (hB : Bof n S bh) (hx : sbm S x) (y6 : y < 64) : (pW W bh x).toBitVec.getLsbD y = true ↔ off n S y ∧ F (x ||| y) = true := by
  have pn := p6le n6
  have xl := sbm_le hx
  unfold pW
  rw [Int64.toBitVec_and, BitVec.getLsbD_and, zul_bv _ (by omega), BitVec.getLsbD_ushiftRight, hB y y6, Bool.and_eq_true, Bool.and_eq_true, decide_eq_true_iff, decide_eq_true_iff]
  constructor
  · rintro ⟨a, b, c⟩
    have o : off n S y := ⟨b, c⟩
    have k := add_or (show x < 64 by omega) y6 (sbm_off hx o)
    rw [k.1, hW (x ||| y) (by rw [← k.1]; exact k.2)] at a
    exact ⟨o, a⟩
  · rintro ⟨o, a⟩
    have k := add_or (show x < 64 by omega) y6 (sbm_off hx o)
    exact ⟨by rw [k.1, hW (x ||| y) (by rw [← k.1]; exact k.2)]; exact a, o.1, o.2⟩
theorem pW_e {x' : Nat} (n6 : n ≤ 6) (hS : S < 2 ^ n) (hW : Wof F W) (hB : Bof n S bh) (hx : sbm S x) (hx' : sbm S x') : pW W bh x = pW W bh x' ↔ PEq F n S x x' := by
  have pn := p6le n6
  constructor
  · intro h y hy
    have y6 : y < 64 := by
      have := hy.1
      omega
    have a := pW_b n6 hS hW hB hx y6
    have b := pW_b n6 hS hW hB hx' y6
    rw [h] at a
    rw [Bool.eq_iff_iff]
    constructor
    · intro z; exact (a.mp (b.mpr ⟨hy, z⟩)).2
    · intro z; exact (b.mp (a.mpr ⟨hy, z⟩)).2
  · intro h
    apply Int64.toBitVec_inj.mp
    apply BitVec.eq_of_getLsbD_eq
    intro y y6
    rw [Bool.eq_iff_iff, pW_b n6 hS hW hB hx y6, pW_b n6 hS hW hB hx' y6]
    constructor
    · rintro ⟨o, z⟩; exact ⟨o, by rw [h y o]; exact z⟩
    · rintro ⟨o, z⟩; exact ⟨o, by rw [← h y o]; exact z⟩
/-- some bit with the name -/
theorem pW_v (n6 : n ≤ 6) (hS : S < 2 ^ n) (hW : Wof F W) (hB : Bof n S bh) (hx : sbm S x) (hv : v < 6) : (pW W bh x &&& (zWo v ^^^ (-1))) = 0 ↔ ¬ hvP F n S v x := by
  have pn := p6le n6
  have b : ∀ y, y < 64 → ((pW W bh x &&& (zWo v ^^^ (-1))).toBitVec.getLsbD y = true ↔ (off n S y ∧ F (x ||| y) = true) ∧ y.testBit v = true) := fun y y6 => by
    rw [Int64.toBitVec_and, BitVec.getLsbD_and, x1_bv y6, zWo_b v hv y y6, Bool.not_not, Bool.and_eq_true, pW_b n6 hS hW hB hx y6]
  constructor
  · rintro h ⟨y, o, h1, h2⟩
    have y6 : y < 64 := by
      have := o.1
      omega
    have := (b y y6).mpr ⟨⟨o, h2⟩, h1⟩
    rw [h] at this
    exact absurd (this.symm.trans BitVec.getLsbD_zero) (by decide)
  · intro h
    apply Int64.toBitVec_inj.mp
    apply BitVec.eq_of_getLsbD_eq
    intro y y6
    have z : (0 : Int64).toBitVec.getLsbD y = false := BitVec.getLsbD_zero
    rw [z]
    cases q : (pW W bh x &&& (zWo v ^^^ (-1))).toBitVec.getLsbD y with
    | false => rfl
    | true =>
      obtain ⟨⟨o, h2⟩, h1⟩ := (b y y6).mp q
      exact absurd ⟨y, o, h1, h2⟩ h
/-- the first of their kind below x -/
noncomputable def cX (F : Nat → Bool) (n S x : Nat) : Nat := ct (bl (FX F n S)) x
theorem cX_le : cX F n S x ≤ x := ct_le _ _
/-- rows of the parts below x -/
def PR (F : Nat → Bool) (n S : Nat) (W bh : Int64) (r : Nat → Int64) (x : Nat) : Prop := ∀ z, z < x → FX F n S z → r (cX F n S z) = pW W bh z
/-- the row of parts alone may be other -/
def OG (σ τ : zS) : Prop := τ.1 = σ.1 ∧ OF σ τ
theorem v_isGathered {w : Int64} (hR : RF σ.2.2) (hm : m ≤ 64) : Px (f_X3_isGathered N 120 w (nI m) σ) σ (fun v => (v = 0 ∧ ∀ i, i < m → ¬ σ.2.1 121 i = w) ∨ (¬ v = 0 ∧ ∃ i, i < m ∧ σ.2.1 121 i = w)) := by
  rw [f_X3_isGathered.eq_1]
  refine pt_lp (fun s : Int32 × zS => s.2 = σ ∧ ∃ i, (s.1 = nI i ∧ i ≤ m) ∧ ∀ j, j < i → ¬ σ.2.1 121 j = w) (fun again s hJ ih => ?_) N _ ⟨rfl, 0, ⟨rfl, Nat.zero_le _⟩, fun j hj => absurd hj (Nat.not_lt_zero _)⟩
  obtain ⟨x4, φ⟩ := s
  obtain ⟨eo, i, ⟨ei, hi⟩, hn⟩ := hJ
  have e : φ = σ := eo
  have ei : x4 = nI i := ei
  clear eo
  subst e
  subst ei
  rw [F_X3_isGathered_3.eq_1]
  refine pt_if (fun q => ?_) (fun q => ?_)
  · rw [nlt (by omega) (by omega)] at q
    exact pt_rZ ⟨rfl, Or.inl ⟨rfl, fun j hj => hn j (by omega)⟩⟩
  · rw [nlt (by omega) (by omega)] at q
    refine pt_if (fun z => ?_) (fun _ => pt_gR (v := 121) (hR 120 0 rfl) (pt_aJ ?_))
    · have z : nI 64 ≤ nI i := z
      rw [nlt (by omega) (by omega)] at z
      omega
    · rw [iN (m := i) (by omega)]
      refine pt_if (fun z => pt_rZ ⟨rfl, Or.inr ⟨fun y => absurd (show (1 : Int32) = 0 from y) (by decide), i, by omega, cmp0.mp z⟩⟩) (fun z => ?_)
      rw [nI_m1]
      refine ih (nI (i + 1), φ) ⟨rfl, i + 1, ⟨rfl, by omega⟩, fun j hj => ?_⟩
      by_cases k : j = i
      · rw [k]; exact fun y => z (cmp0.mpr y)
      · exact hn j (by omega)
theorem v_partsWith (hR : RF σ.2.2) (hm : m ≤ 64) (hv : v < 6) : Px (f_X3_partsWith N 120 (nI v) (nI m) σ) σ (fun w => w = nI (ct (bl (fun i => ¬ (σ.2.1 121 i &&& (zWo v ^^^ (-1))) = 0)) m)) := by
  rw [f_X3_partsWith.eq_1]
  refine pt_if (fun z => ?_) (fun _ => pt_if (fun z => ?_) (fun _ => pt_aW ?_))
  · have z : nI v < nI 0 := z
    rw [nl_ (by omega) (by omega)] at z
    omega
  · have z : nI 6 ≤ nI v := z
    rw [nlt (by omega) (by omega)] at z
    omega
  rw [iN (m := v) (by omega), J_X3_partsWith_23.eq_1]
  refine pt_lp (fun s : Int32 × Int32 × zS => s.2.2 = σ ∧ ∃ i, (s.2.1 = nI i ∧ i ≤ m) ∧ s.1 = nI (ct (bl (fun i => ¬ (σ.2.1 121 i &&& (zWo v ^^^ (-1))) = 0)) i)) (fun again s hJ ih => ?_) N _ ⟨rfl, 0, ⟨rfl, Nat.zero_le _⟩, rfl⟩
  obtain ⟨x5, x6, φ⟩ := s
  obtain ⟨eo, i, ⟨ei, hi⟩, e5⟩ := hJ
  have e : φ = σ := eo
  have ei : x6 = nI i := ei
  have e5 : x5 = nI (ct (bl (fun i => ¬ (σ.2.1 121 i &&& (zWo v ^^^ (-1))) = 0)) i) := e5
  clear eo
  subst e
  subst ei
  subst e5
  rw [F_X3_partsWith_30.eq_1]
  refine pt_if (fun q => ?_) (fun q => ?_)
  · rw [nlt (by omega) (by omega)] at q
    have : i = m := by omega
    subst this
    exact pt_some ⟨rfl, rfl⟩
  · rw [nlt (by omega) (by omega)] at q
    refine pt_if (fun z => ?_) (fun _ => pt_gR (v := 121) (hR 120 0 rfl) (pt_aJ ?_))
    · have z : nI 64 ≤ nI i := z
      rw [nlt (by omega) (by omega)] at z
      omega
    · rw [iN (m := i) (by omega)]
      refine pt_if (fun z => ?_) (fun z => ?_)
      · rw [nI_m1]
        exact ih (_, nI (i + 1), φ) ⟨rfl, i + 1, ⟨rfl, by omega⟩, by rw [ct_f (bl_f (fun y => y (cmp0.mp z)))]⟩
      · rw [nI_m1, nI_m1]
        exact ih (_, nI (i + 1), φ) ⟨rfl, i + 1, ⟨rfl, by omega⟩, by rw [ct_t (bl_t.mpr (fun y => z (cmp0.mpr y)))]⟩
theorem OG.rf : OG σ σ := ⟨rfl, OF.rf⟩
/-- behind the last step: the next set, or none -/
theorem v_g100 {x5 : Int64} {s i : Nat} {again : Int32 × Int32 × Int32 × zS → Option (Int32 × zS)} {P : Int32 × zS → Prop} (hS : S < 64) (hs : sbm S s) (hi : i ≤ s) (hend : s = S → P (nI (cX F n S (s + 1)), τ)) (ih : ∀ s', s < s' → sbm S s' → (∀ z, z < s' → FX F n S z → z < s + 1) → Pt (again (nI (cX F n S s'), nI s', nI (i + 1), τ)) P) : Pt (J_X3_gatherParts_100 N again 120 W (nI S) x5 (nI s) (nI i) (nI (cX F n S (s + 1))) τ) P := by
  have sl := sbm_le hs
  have nx := nxs_t hS hs
  rw [J_X3_gatherParts_100.eq_1, nxs_e S hS s (by omega), nI_m1]
  by_cases e : s = S
  · refine pt_if (fun _ => pt_some (hend e)) (fun z => absurd ((congrArg nI (nx.1 e)).trans (by decide)) z)
  · obtain ⟨a, b, c⟩ := nx.2 e
    have bl := sbm_le b
    refine pt_if (fun z => ?_) (fun _ => ?_)
    · rw [nI_z (by omega)] at z
      omega
    · have gap : ∀ z, z < nxs S s → FX F n S z → z < s + 1 := fun z hz hf => by
        by_cases q : z < s + 1
        · exact q
        · have := c z hf.1 (by omega)
          omega
      have e2 : cX F n S (s + 1) = cX F n S (nxs S s) := (ct_top (show s + 1 ≤ nxs S s by omega) (fun u h1 h2 => bl_f (fun hf => by
        have := gap u h2 hf
        omega))).symm
      rw [e2]
      exact ih _ a b gap
theorem v_gather54 (n6 : n ≤ 6) (hS : S < 2 ^ n) (hR : RF σ.2.2) (hW : Wof F W) (hB : Bof n S bh) : Pt (zlp (F_X3_gatherParts_54 N 120 W (nI S) bh) N (0, 0, 0, σ)) (fun r => OG σ r.2 ∧ r.1 = nI (cX F n S (S + 1)) ∧ PR F n S W bh (r.2.2.1 121) (S + 1)) := by
  have pn := p6le n6
  refine pt_lp (fun t : Int32 × Int32 × Int32 × zS => OG σ t.2.2.2 ∧ ∃ s i, (t.2.1 = nI s ∧ sbm S s) ∧ (t.2.2.1 = nI i ∧ i ≤ s) ∧ t.1 = nI (cX F n S s) ∧ PR F n S W bh (t.2.2.2.2.1 121) s) (fun again t hJ ih => ?_) N _ ⟨OG.rf, 0, 0, ⟨rfl, Nat.zero_and _⟩, ⟨rfl, Nat.le_refl _⟩, rfl, fun z hz => absurd hz (Nat.not_lt_zero _)⟩
  obtain ⟨x7, x8, x9, τ⟩ := t
  obtain ⟨og, s, i, ⟨e8, hs⟩, ⟨e9, hi⟩, e7, hp⟩ := hJ
  have og : OG σ τ := og
  have e8 : x8 = nI s := e8
  have e9 : x9 = nI i := e9
  have e7 : x7 = nI (cX F n S s) := e7
  have hp : PR F n S W bh (τ.2.1 121) s := hp
  subst e8
  subst e9
  subst e7
  have sl := sbm_le hs
  have cl := cX_le (F := F) (n := n) (S := S) (x := s)
  have Rt := og.2.R hR
  rw [F_X3_gatherParts_54.eq_1]
  refine pt_if (fun z => ?_) (fun _ => pt_if (fun z => ?_) (fun _ => pt_gC (pt_zbq (v_isGathered Rt (by omega)) (fun v hv => ?_))))
  · have z : nI 64 ≤ nI i := z
    rw [nlt (by omega) (by omega)] at z
    omega
  · have z : nI 64 ≤ nI (cX F n S s) := z
    rw [nlt (by omega) (by omega)] at z
    omega
  have hv : (v = 0 ∧ ∀ i, i < cX F n S s → ¬ τ.2.1 121 i = pW W bh s) ∨ (¬ v = 0 ∧ ∃ i, i < cX F n S s ∧ τ.2.1 121 i = pW W bh s) := hv
  refine pt_if (fun q => ?_) (fun q => ?_)
  · have no := (hv.resolve_right (fun z => z.1 q)).2
    have fx : FX F n S s := ⟨hs, fun x' h1 h2 h3 => by
      obtain ⟨x2, a, b, c⟩ := FX_ex (F := F) (n := n) (S := S) (z := s) x' h2 h3
      exact no _ (ct_lt_ (show x2 < s by omega) (bl_t.mpr b)) ((hp x2 (by omega) b).trans ((pW_e n6 hS hW hB hs b.1).mpr c).symm)⟩
    have e1 : cX F n S (s + 1) = cX F n S s + 1 := ct_t (bl_t.mpr fx)
    refine pt_gR (v := 121) (Rt 120 0 rfl) (pt_sJ ?_)
    rw [iN (m := cX F n S s) (by omega), nI_m1, ← e1]
    have og2 : OG σ (zJ τ 121 (vp_updL (τ.2.1 121) (cX F n S s) (pW W bh s))) := ⟨og.1, og.2.J⟩
    have hp2 : PR F n S W bh ((zJ τ 121 (vp_updL (τ.2.1 121) (cX F n S s) (pW W bh s))).2.1 121) (s + 1) := fun z hz hf => by
      rw [zJ_s, updL_i]
      by_cases k : z = s
      · rw [k, if_pos rfl]
      · rw [if_neg (show ¬ cX F n S z = cX F n S s from fun y => k (ct_inj (bl_t.mpr hf) (bl_t.mpr fx) y))]
        exact hp z (by omega) hf
    refine v_g100 (by omega) hs hi (fun e => ?_) (fun s' h1 h2 h3 => ih (_, nI s', _, _) ⟨og2, s', i + 1, ⟨rfl, h2⟩, ⟨rfl, by omega⟩, rfl, fun z hz hf => hp2 z (h3 z hz hf) hf⟩)
    subst e
    exact ⟨og2, rfl, hp2⟩
  · obtain ⟨i2, h1, h2⟩ := (hv.resolve_left (fun z => q z.1)).2
    obtain ⟨x, hx, fx, ex⟩ := ct_at (p := bl (FX F n S)) h1
    have fx := bl_t.mp fx
    have ex : cX F n S x = i2 := ex
    have pe := (pW_e n6 hS hW hB hs fx.1).mp (h2.symm.trans (by rw [← ex]; exact hp x hx fx))
    have nf : ¬ FX F n S s := fun z => z.2 x hx fx.1 pe
    have e1 : cX F n S (s + 1) = cX F n S s := ct_f (bl_f nf)
    rw [← e1]
    have hp2 : PR F n S W bh (τ.2.1 121) (s + 1) := fun z hz hf => by
      by_cases k : z = s
      · rw [k] at hf; exact absurd hf nf
      · exact hp z (by omega) hf
    refine v_g100 (by omega) hs hi (fun e => ?_) (fun s' h1 h2 h3 => ih (_, nI s', _, τ) ⟨og, s', i + 1, ⟨rfl, h2⟩, ⟨rfl, by omega⟩, rfl, fun z hz hf => hp2 z (h3 z hz hf) hf⟩)
    subst e
    exact ⟨og, rfl, hp2⟩
theorem v_gatherParts (n6 : n ≤ 6) (hS : S < 2 ^ n) (hR : RF σ.2.2) (hW : Wof F W) : Pt (f_X3_gatherParts N 120 W (nI S) (nI (2 ^ n - 1)) σ) (fun r => OG σ r.2 ∧ r.1 = nI (cX F n S (S + 1)) ∧ ∃ bh, Bof n S bh ∧ PR F n S W bh (r.2.2.1 121) (S + 1)) := by
  rw [f_X3_gatherParts.eq_1]
  refine pt_lp (fun t : Int64 × Int32 × zS => t.2.2 = σ ∧ ∃ k, (t.2.1 = nI k ∧ k ≤ 6) ∧ t.1 = bhW (nI (2 ^ n - 1) &&& (nI S ^^^ (-1))) k) (fun again t hJ ih => ?_) N _ ⟨rfl, 0, ⟨rfl, by decide⟩, rfl⟩
  obtain ⟨x5, x7, φ⟩ := t
  obtain ⟨eo, k, ⟨e7, hk⟩, e5⟩ := hJ
  have e : φ = σ := eo
  have e7 : x7 = nI k := e7
  have e5 : x5 = bhW (nI (2 ^ n - 1) &&& (nI S ^^^ (-1))) k := e5
  clear eo
  subst e
  subst e7
  subst e5
  rw [F_X3_gatherParts_6.eq_1]
  refine pt_if (fun z => ?_) (fun z => ?_)
  · have z : nI 6 ≤ nI k := z
    rw [nlt (by omega) (by omega)] at z
    have : k = 6 := by omega
    subst this
    have B : Bof n S (bhW (nI (2 ^ n - 1) &&& (nI S ^^^ (-1))) 6) := bhW_t n (by omega) S hS
    exact pt_w (v_gather54 n6 hS hR hW B) (fun r h => ⟨h.1, h.2.1, _, B, h.2.2⟩)
  · have z : ¬ nI 6 ≤ nI k := z
    rw [nlt (by omega) (by omega)] at z
    refine pt_if (fun q => ?_) (fun q => ?_)
    · rw [nI_m1]
      exact ih (_, nI (k + 1), φ) ⟨rfl, k + 1, ⟨rfl, by omega⟩, (bhW_0 q).symm⟩
    · rw [nI_m1]
      exact ih (_, nI (k + 1), φ) ⟨rfl, k + 1, ⟨rfl, by omega⟩, (bhW_1 q).symm⟩
/-- how many parts have the name -/
theorem v_with (n6 : n ≤ 6) (hS : S < 2 ^ n) (hR : RF σ.2.2) (hW : Wof F W) (hv : v < 6) {bh : Int64} (hB : Bof n S bh) (hp : PR F n S W bh (σ.2.1 121) (S + 1)) : Px (f_X3_partsWith N 120 (nI v) (nI (cX F n S (S + 1))) σ) σ (fun w => w = nI (wN F n S v)) := by
  have pn := p6le n6
  have cl := cX_le (F := F) (n := n) (S := S) (x := S + 1)
  refine pt_w (v_partsWith hR (by omega) hv) (fun r h => ⟨h.1, ?_⟩)
  rw [h.2]
  congr 1
  show ct _ (ct (bl (FX F n S)) (S + 1)) = ct _ (2 ^ n)
  rw [ct_via, ct_top (p := bl (fun x => FX F n S x ∧ hvP F n S v x)) (show S + 1 ≤ 2 ^ n by omega) (fun u h1 _ => bl_f (fun z => by
    have := sbm_le z.1.1
    omega))]
  refine ct_c (fun x hx => ?_)
  show (bl (FX F n S) x && bl (fun i => ¬ (σ.2.1 121 i &&& (zWo v ^^^ (-1))) = 0) (ct (bl (FX F n S)) x)) = bl (fun x => FX F n S x ∧ hvP F n S v x) x
  rw [Bool.eq_iff_iff, Bool.and_eq_true, bl_t, bl_t, bl_t]
  constructor
  · rintro ⟨a, b⟩
    have e : σ.2.1 121 (ct (bl (FX F n S)) x) = pW W bh x := hp x hx a
    rw [e, pW_v n6 hS hW hB a.1 hv] at b
    exact ⟨a, Classical.byContradiction b⟩
  · rintro ⟨a, b⟩
    have e : σ.2.1 121 (ct (bl (FX F n S)) x) = pW W bh x := hp x hx a
    refine ⟨a, ?_⟩
    rw [e, pW_v n6 hS hW hB a.1 hv]
    exact fun z => z b
end GTH

/-! ===== the class's best order (best) ===== -/
theorem allN : ∀ n, n < 7 → ((1 : Int32) <<< ((zmax 0 (zmin 6 (nI n))) &&& 31)) - 1 = nI (2 ^ n - 1) := by decide +kernel
theorem bitS : ∀ s, s < 64 → ∀ k, k < 6 → (((nI s : Int32) >>> (nI k &&& 31)) &&& 1 = 0 ↔ s.testBit k = false) := by decide +kernel
theorem shK : ∀ k, k < 6 → ((1 : Int32) <<< (nI k &&& 31)) = nI (2 ^ k) := by decide +kernel
section WGA
variable {N n S m : Nat} {σ τ : zS} {F : Nat → Bool} {W : Int64}
/-- what is found of S -/
def DPs (F : Nat → Bool) (n : Nat) (g h : Nat → Int32) (S : Nat) : Prop := ∃ r, bo F n (jn n S) S = some r ∧ g S = nI (cl F n S r) ∧ ∀ v l, r = v :: l → h S = nI v
/-- rows of fewest and of first names alone, and longs of the row of parts -/
def OH (σ τ : zS) : Prop := OF σ τ ∧ ∀ a, a ∉ [122, 123] → τ.1 a = σ.1 a
/-- the names below m looked at -/
def DPm (F : Nat → Bool) (n j : Nat) (g h : Nat → Int32) (S m : Nat) : Prop := (bom F n j S m = none ∧ g S = 1000000) ∨ ∃ v l, bom F n j S m = some (v :: l) ∧ g S = nI (cl F n S (v :: l)) ∧ h S = nI v
theorem cl_b {j : Nat} {r : List Nat} (n6 : n ≤ 6) (hj : j < 7) (h : bo F n j S = some r) : cl F n S r ≤ 384 := by
  have a := cl_le (F := F) n6 r S
  rw [bo_len h] at a
  omega
theorem v_weighAll {f : Nat} (n6 : n ≤ 6) (hR : RF σ.2.2) (hk : (zKd f).1 = 2) (hf : f ≠ 120) (hW : Wof F (σ.2.1 (f + 1) 0)) : Pt (f_X3_weighAll N 120 f (nI n) σ) (fun r => OH σ r.2 ∧ ∀ S, S < 2 ^ n → DPs F n (r.2.1 122) (r.2.1 123) S) := by
  have pn := p6le n6
  have p0 : 0 < 2 ^ n := Nat.pow_pos (by decide)
  have J := jn_t n (by omega)
  have f1 : f + 1 ≠ 121 := by omega
  rw [f_X3_weighAll.eq_1, allN n (by omega)]
  refine pt_gR (v := 122) (hR 120 1 rfl) (pt_s14x (fun σ2 a2 b2 c2 => ?_))
  rw [iN (m := 2 ^ n - 1) (by omega)] at a2
  have oh0 : OH σ σ2 := ⟨⟨by rw [c2], fun a _ => by rw [c2]⟩, fun a ha => b2 a (fun z => ha (by rw [z]; decide))⟩
  have ini : ∀ S, 2 ^ n - 1 ≤ S → S < 2 ^ n → DPs F n (σ2.1 122) (σ2.1 123) S := fun S h1 h2 => by
    have e : S = 2 ^ n - 1 := by omega
    subst e
    refine ⟨[], ?_, ?_, fun v l z => by cases z⟩
    · rw [J.2.1]; rfl
    · show σ2.1 122 (2 ^ n - 1) = _
      rw [a2, upd_s]; rfl
  refine pt_lp (fun t : Int32 × zS => OH σ t.2 ∧ ∃ m, (t.1 = nI m - 1 ∧ m + 1 ≤ 2 ^ n) ∧ ∀ S, m ≤ S → S < 2 ^ n → DPs F n (t.2.1 122) (t.2.1 123) S) (fun again t hJ ih => ?_) N _ ⟨oh0, 2 ^ n - 1, ⟨rfl, by omega⟩, ini⟩
  obtain ⟨x4, τ⟩ := t
  obtain ⟨oh, m, ⟨e4, hm⟩, hd⟩ := hJ
  have oh : OH σ τ := oh
  have e4 : x4 = nI m - 1 := e4
  have hd : ∀ S, m ≤ S → S < 2 ^ n → DPs F n (τ.1 122) (τ.1 123) S := hd
  subst e4
  rw [F_X3_weighAll_27.eq_1]
  cases m with
  | zero => exact pt_if (fun _ => pt_some ⟨oh, fun S hS => hd S (Nat.zero_le _) hS⟩) (fun q => absurd (by decide : nI 0 - 1 < 0) q)
  | succ S =>
    have ek : nI (S + 1) - 1 = nI S := by rw [show (1 : Int32) = nI 1 from rfl]; exact nI_sub rfl
    rw [ek]
    have hS : S < 2 ^ n := by omega
    obtain ⟨j7, jp, jv⟩ := J.2.2 S hS
    have jp := jp (by omega)
    obtain ⟨j, ej⟩ : ∃ j, jn n S = j + 1 := ⟨jn n S - 1, by omega⟩
    have Rt : RF τ.2.2 := oh.1.R hR
    refine pt_if (fun q => ?_) (fun _ => ?_)
    · have q : nI S < nI 0 := q
      rw [nl_ (by omega) (by omega)] at q
      omega
    refine pt_gR (v := f + 1) (fam_R Rt hk).1 (pt_aJ ?_)
    have eW : τ.2.1 (f + 1) (0 : Int32).toInt.toNat = σ.2.1 (f + 1) 0 := by rw [oh.1.2 _ f1]; rfl
    rw [eW]
    refine pt_gC (pt_zb (v_gatherParts (F := F) n6 hS Rt hW) (fun v5 τ2 h5 => ?_))
    obtain ⟨og, ev, bh, hB, hp⟩ := h5
    have og : OG τ τ2 := og
    have ev : v5 = nI (cX F n S (S + 1)) := ev
    have hp : PR F n S (σ.2.1 (f + 1) 0) bh (τ2.2.1 121) (S + 1) := hp
    subst ev
    have R2 : RF τ2.2.2 := og.2.R Rt
    refine pt_gR (v := 122) (R2 120 1 rfl) (pt_s14x (fun τ3 a3 b3 c3 => ?_))
    rw [iN (m := S) (by omega)] at a3
    have e2 : τ2.1 = τ.1 := og.1
    have h3J : τ3.2.1 121 = τ2.2.1 121 := by rw [c3]
    have oh3 : OH σ τ3 := ⟨⟨by rw [c3, og.2.1, oh.1.1], fun a ha => by rw [c3, og.2.2 a ha, oh.1.2 a ha]⟩, fun a ha => by rw [b3 a (fun z => ha (by rw [z]; decide)), e2, oh.2 a ha]⟩
    have hd3 : ∀ S', S + 1 ≤ S' → S' < 2 ^ n → DPs F n (τ3.1 122) (τ3.1 123) S' := fun S' h1 h2 => by
      obtain ⟨r, d1, d2, d3⟩ := hd S' h1 h2
      refine ⟨r, d1, ?_, fun v l e => ?_⟩
      · rw [a3, upd_n (by omega), e2]; exact d2
      · rw [b3 123 (by decide), e2]; exact d3 v l e
    -- the names one by one
    refine pt_lp (fun t : Int32 × zS => (OH σ t.2 ∧ t.2.2.1 121 = τ3.2.1 121) ∧ ∃ k, (t.1 = nI k ∧ k ≤ n) ∧ (∀ S', S + 1 ≤ S' → S' < 2 ^ n → DPs F n (t.2.1 122) (t.2.1 123) S') ∧ DPm F n j (t.2.1 122) (t.2.1 123) S k) (fun again2 t hJ ih2 => ?_) N _ ⟨⟨oh3, rfl⟩, 0, ⟨rfl, Nat.zero_le _⟩, hd3, Or.inl ⟨rfl, by show τ3.1 122 S = _; rw [a3, upd_s]⟩⟩
    obtain ⟨x6, φ⟩ := t
    obtain ⟨⟨ohp, er⟩, k, ⟨e6, hkn⟩, hdp, hdm⟩ := hJ
    have ohp : OH σ φ := ohp
    have er : φ.2.1 121 = τ3.2.1 121 := er
    have e6 : x6 = nI k := e6
    have hdp : ∀ S', S + 1 ≤ S' → S' < 2 ^ n → DPs F n (φ.1 122) (φ.1 123) S' := hdp
    have hdm : DPm F n j (φ.1 122) (φ.1 123) S k := hdm
    subst e6
    have Rp : RF φ.2.2 := ohp.1.R hR
    -- what follows S by a name
    have nx : ∀ v, v < n → S.testBit v = false → jn n (S ||| 2 ^ v) = j ∧ S ||| 2 ^ v < 2 ^ n ∧ S + 1 ≤ S ||| 2 ^ v := fun v hv hb => by
      have := jv v hv hb
      omega
    have done : k = n → DPs F n (φ.1 122) (φ.1 123) S := fun e => by
      have be : bo F n (j + 1) S = bom F n j S n := bo_s (fun v hv => by
        obtain ⟨h1, h2⟩ := vsn_m.mp hv
        obtain ⟨a, b, c⟩ := nx v h1 h2
        obtain ⟨r, d1, _⟩ := hdp _ c b
        rw [a] at d1
        exact ⟨r, d1⟩)
      subst e
      rcases hdm with ⟨d1, _⟩ | ⟨v, l, d1, d2, d3⟩
      · exfalso
        have hv : ∃ v, v ∈ vsn k S := by
          have : jn k S ≠ 0 := by omega
          unfold jn at this
          cases q : vsn k S with
          | nil => rw [q] at this; exact absurd rfl this
          | cons a t => exact ⟨a, List.mem_cons_self⟩
        obtain ⟨v, hv⟩ := hv
        unfold bom at d1
        cases q : vsn k S with
        | nil => rw [q] at hv; cases hv
        | cons a t =>
          rw [q, List.map_cons, fsl_c] at d1
          obtain ⟨r, hr⟩ := fsl_s (c := cl F k S) (L := t.map (fun v => v :: bR F k j S v)) (b := a :: bR F k j S a)
          have d1 : fsl (cl F k S) (some (a :: bR F k j S a)) (t.map (fun v => v :: bR F k j S v)) = none := d1
          rw [hr] at d1
          cases d1
      · refine ⟨v :: l, by rw [ej, be]; exact d1, d2, fun v2 l2 e => ?_⟩
        rw [← (List.cons.inj e).1]; exact d3
    have next : k = n → Pt (again (nI S + (-1), φ)) (fun r => OH σ r.2 ∧ ∀ S, S < 2 ^ n → DPs F n (r.2.1 122) (r.2.1 123) S) := fun e => by
      rw [← Int32.sub_eq_add_neg]
      refine ih (nI S - 1, φ) ⟨ohp, S, ⟨rfl, by omega⟩, fun S' h1 h2 => ?_⟩
      by_cases z : S' = S
      · rw [z]; exact done e
      · exact hdp S' (by omega) h2
    rw [F_X3_weighAll_59.eq_1]
    refine pt_if (fun q => ?_) (fun q => ?_)
    · rw [nlt (by omega) (by omega)] at q
      exact next (by omega)
    · rw [nlt (by omega) (by omega)] at q
      have k6 : k < 6 := by omega
      refine pt_if (fun z => ?_) (fun _ => ?_)
      · have z : nI 6 ≤ nI k := z
        rw [nlt (by omega) (by omega)] at z
        omega
      refine pt_if (fun z => ?_) (fun z => ?_)
      · rw [bitS S (by omega) k k6] at z
        obtain ⟨ja, jb, jc⟩ := nx k (by omega) z
        obtain ⟨r, d1, d2, d3⟩ := hdp _ jc jb
        rw [ja] at d1
        have eb : bR F n j S k = r := by
          unfold bR
          rw [d1]; rfl
        have bm := bom_f (F := F) (n := n) (j := j) z
        rw [eb] at bm
        have cb := cl_b n6 (show j < 7 by omega) d1
        have cs : cl F n S (k :: r) = wN F n S k + cl F n (S ||| 2 ^ k) r := rfl
        have wb := wN_le (F := F) (S := S) (v := k) n6
        have hp2 : PR F n S (σ.2.1 (f + 1) 0) bh (φ.2.1 121) (S + 1) := by rw [er, h3J]; exact hp
        refine pt_gC (pt_zbq (v_with n6 hS Rp hW k6 hB hp2) (fun v9 h9 => ?_))
        have h9 : v9 = nI (wN F n S k) := h9
        subst h9
        refine pt_gR (v := 122) (Rp 120 1 rfl) (pt_aI (pt_gR (v := 122) (Rp 120 1 rfl) (pt_aI ?_)))
        rw [shK k k6, nI_or, iN (m := S ||| 2 ^ k) (by omega), iN (m := S) (by omega), d2, nI_plus, ← cs]
        rw [nI_m1]
        have keep : bom F n j S (k + 1) = bom F n j S k → Pt (again2 (nI (k + 1), φ)) (fun r => OH σ r.2 ∧ ∀ S, S < 2 ^ n → DPs F n (r.2.1 122) (r.2.1 123) S) := fun e => by
          refine ih2 (nI (k + 1), φ) ⟨⟨ohp, er⟩, k + 1, ⟨rfl, by omega⟩, hdp, ?_⟩
          unfold DPm
          rw [e]; exact hdm
        have take : bom F n j S (k + 1) = some (k :: r) → Pt (zl (gR 3 1 120 φ) fun v15 => zl (sI 14 v15 (nI S) (nI (cl F n S (k :: r))) φ) fun σ16 => zl (gR 3 2 120 σ16) fun v17 => zl (sI 14 v17 (nI S) (nI k) σ16) fun σ18 => again2 (nI (k + 1), σ18)) (fun r => OH σ r.2 ∧ ∀ S, S < 2 ^ n → DPs F n (r.2.1 122) (r.2.1 123) S) := fun e => by
          refine pt_gR (v := 122) (Rp 120 1 rfl) (pt_s14x (fun ψ a4 b4 c4 => ?_))
          rw [iN (m := S) (by omega)] at a4
          have R4 : RF ψ.2.2 := by rw [c4]; exact Rp
          refine pt_gR (v := 123) (R4 120 2 rfl) (pt_s14x (fun ω a5 b5 c5 => ?_))
          rw [iN (m := S) (by omega)] at a5
          have g1 : ω.1 122 = upd (φ.1 122) S (nI (cl F n S (k :: r))) := (b5 122 (by decide)).trans a4
          have g2 : ω.1 123 = upd (φ.1 123) S (nI k) := by rw [a5, b4 123 (by decide)]
          have ohw : OH σ ω := ⟨⟨by rw [c5, c4]; exact ohp.1.1, fun a ha => by rw [c5, c4]; exact ohp.1.2 a ha⟩, fun a ha => by
            rw [b5 a (fun z => ha (by rw [z]; decide)), b4 a (fun z => ha (by rw [z]; decide))]
            exact ohp.2 a ha⟩
          have erw : ω.2.1 121 = τ3.2.1 121 := by rw [c5, c4]; exact er
          refine ih2 (nI (k + 1), ω) ⟨⟨ohw, erw⟩, k + 1, ⟨rfl, by omega⟩, fun S' h1 h2 => ?_, Or.inr ⟨k, r, e, ?_, ?_⟩⟩
          · show DPs F n (ω.1 122) (ω.1 123) S'
            obtain ⟨r', t1, t2, t3⟩ := hdp S' h1 h2
            refine ⟨r', t1, ?_, fun v l e => ?_⟩
            · rw [g1, upd_n (by omega)]; exact t2
            · rw [g2, upd_n (by omega)]; exact t3 v l e
          · show ω.1 122 S = _
            rw [g1, upd_s]
          · show ω.1 123 S = _
            rw [g2, upd_s]
        rcases hdm with ⟨m1, m2⟩ | ⟨v, l, m1, m2, m3⟩
        · rw [m2, show (1000000 : Int32) = nI 1000000 from rfl]
          refine pt_if (fun y => ?_) (fun _ => take (by rw [bm, m1]; rfl))
          rw [nI_leb (by omega) (by omega)] at y
          omega
        · have lb : cl F n S (v :: l) ≤ 448 := by
            obtain ⟨v2, hv2, e2⟩ := bom_r m1
            obtain ⟨h1, h2⟩ := vsn_m.mp hv2
            obtain ⟨ja2, jb2, jc2⟩ := nx v2 (by omega) h2
            obtain ⟨r2, q1, _⟩ := hdp _ jc2 jb2
            rw [ja2] at q1
            have eb2 : bR F n j S v2 = r2 := by
              unfold bR
              rw [q1]; rfl
            rw [eb2] at e2
            rw [e2]
            have c1 := cl_b n6 (show j < 7 by omega) q1
            have c2 := wN_le (F := F) (S := S) (v := v2) n6
            show wN F n S v2 + cl F n (S ||| 2 ^ v2) r2 ≤ 448
            omega
          rw [m2]
          refine pt_if (fun y => ?_) (fun y => ?_)
          · rw [nlt (by omega) (by omega)] at y
            refine keep ?_
            rw [bm, m1, fup_f (by omega)]
          · rw [nlt (by omega) (by omega)] at y
            refine take ?_
            rw [bm, m1, fup_t (by omega)]
      · have z : S.testBit k = true := by
          cases q2 : S.testBit k with
          | true => rfl
          | false => exact absurd ((bitS S (by omega) k k6).mpr q2) z
        rw [nI_m1]
        refine ih2 (nI (k + 1), φ) ⟨⟨ohp, er⟩, k + 1, ⟨rfl, by omega⟩, hdp, ?_⟩
        unfold DPm
        rw [bom_t z]; exact hdm
/-- the best list, place by place -/
theorem bo_tail {j v : Nat} {l : List Nat} (h : bo F n (j + 1) S = some (v :: l)) (hx : ∀ v, v ∈ vsn n S → ∃ r, bo F n j (S ||| 2 ^ v) = some r) : v ∈ vsn n S ∧ bo F n j (S ||| 2 ^ v) = some l := by
  rw [bo_s hx] at h
  obtain ⟨v2, hv, e⟩ := bom_r h
  obtain ⟨e1, e2⟩ := List.cons.inj e
  subst e1
  obtain ⟨r, hr⟩ := hx v hv
  refine ⟨hv, ?_⟩
  rw [hr, e2]
  unfold bR
  rw [hr]; rfl
theorem v_nameAt {i : Nat} {r : List Nat} (n6 : n ≤ 6) (hR : RF σ.2.2) (hi : i < n) (hd : ∀ S, S < 2 ^ n → DPs F n (σ.1 122) (σ.1 123) S) (hr : bo F n n 0 = some r) : Px (f_X3_nameAt N 120 (nI i) σ) σ (fun v => v = nI (lo r i)) := by
  have pn := p6le n6
  have p0 : 0 < 2 ^ n := Nat.pow_pos (by decide)
  have J := jn_t n (by omega)
  have m63 : ∀ S, S < 64 → nI S &&& 63 = nI S := by decide +kernel
  rw [f_X3_nameAt.eq_1]
  refine pt_lp (fun t : Int32 × Int32 × zS => t.2.2 = σ ∧ ∃ S k l, (t.1 = nI S ∧ S < 2 ^ n ∧ jn n S + k = n) ∧ (t.2.1 = nI k ∧ k ≤ i) ∧ bo F n (jn n S) S = some l ∧ ∀ d, d < n → lo l d = lo r (k + d)) (fun again t hJ ih => ?_) N _ ⟨rfl, 0, 0, r, ⟨rfl, p0, by have := J.1; omega⟩, ⟨rfl, Nat.zero_le _⟩, by rw [J.1]; exact hr, fun d _ => by rw [Nat.zero_add]⟩
  obtain ⟨x2, x3, τ⟩ := t
  obtain ⟨eo, S, k, l, ⟨e2, hS, hj⟩, ⟨e3, hk⟩, hb, hl⟩ := hJ
  have e : τ = σ := eo
  have e2 : x2 = nI S := e2
  have e3 : x3 = nI k := e3
  clear eo
  subst e
  subst e2
  subst e3
  obtain ⟨j7, _, jv⟩ := J.2.2 S hS
  obtain ⟨j, ej⟩ : ∃ j, jn n S = j + 1 := ⟨jn n S - 1, by omega⟩
  rw [ej] at hb
  have len := bo_len hb
  obtain ⟨v, t, e⟩ : ∃ v t, l = v :: t := by
    cases l with
    | nil => exact absurd (show (0 : Nat) = j + 1 from len) (by omega)
    | cons v t => exact ⟨v, t, rfl⟩
  subst e
  have fn : τ.1 123 S = nI v := by
    obtain ⟨r2, d1, _, d3⟩ := hd S hS
    rw [ej, hb] at d1
    exact d3 v t (Option.some.inj d1).symm
  have hx : ∀ v, v ∈ vsn n S → ∃ r, bo F n j (S ||| 2 ^ v) = some r := fun v hv => by
    obtain ⟨h1, h2⟩ := vsn_m.mp hv
    obtain ⟨a, b, c⟩ := jv v h1 h2
    obtain ⟨r2, d1, _⟩ := hd _ b
    rw [show jn n (S ||| 2 ^ v) = j by omega] at d1
    exact ⟨r2, d1⟩
  obtain ⟨hv, ht⟩ := bo_tail hb hx
  obtain ⟨v1, v2⟩ := vsn_m.mp hv
  obtain ⟨ja, jb, _⟩ := jv v v1 v2
  have lv : lo r k = v := (hl 0 (by omega)).symm
  rw [F_X3_nameAt_4.eq_1]
  refine pt_if (fun q => ?_) (fun q => pt_if (fun q2 => ?_) (fun q2 => ?_))
  · rw [nlt (by omega) (by omega)] at q
    have : k = i := by omega
    subst this
    refine pt_gR (v := 123) (hR 120 2 rfl) (pt_aI (pt_some ⟨rfl, ?_⟩))
    show τ.1 123 (nI S &&& 63).toInt.toNat = nI (lo r k)
    rw [m63 S (by omega), iN (m := S) (by omega), fn, lv]
  · have q2 : nI 6 ≤ nI k := q2
    rw [nlt (by omega) (by omega)] at q2
    omega
  · rw [nlt (by omega) (by omega)] at q
    refine pt_gR (v := 123) (hR 120 2 rfl) (pt_aI ?_)
    rw [m63 S (by omega), iN (m := S) (by omega), fn, shK v (by omega), nI_or, nI_m1]
    refine ih (nI (S ||| 2 ^ v), nI (k + 1), τ) ⟨rfl, S ||| 2 ^ v, k + 1, t, ⟨rfl, jb, by omega⟩, ⟨rfl, by omega⟩, by rw [show jn n (S ||| 2 ^ v) = j by omega]; exact ht, fun d hd2 => ?_⟩
    by_cases z : d + 1 < n
    · have := hl (d + 1) z
      rw [lo_s] at this
      rw [this, show k + (d + 1) = k + 1 + d by omega]
    · -- beyond both ends
      have lt : t.length = j := by have := len; rw [List.length_cons] at this; omega
      have a : lo t d = 0 := by
        unfold lo
        rw [List.getD_eq_getElem?_getD, List.getElem?_eq_none (by omega)]; rfl
      have b : lo r (k + 1 + d) = 0 := by
        unfold lo
        rw [List.getD_eq_getElem?_getD, List.getElem?_eq_none (by rw [bo_len hr]; omega)]; rfl
      rw [a, b]
end WGA

/-! ===== light ===== -/
section LGT
variable {F : Nat → Bool} {W : Nat → Int32} {M : Nat}
/-- members of weight w; members lighter than w -/
def lP (F : Nat → Bool) (W : Nat → Int32) (w t : Nat) : Bool := F t && decide ((W t).toInt = (w : Int))
def lS (F : Nat → Bool) (W : Nat → Int32) (w t : Nat) : Bool := F t && decide (0 ≤ (W t).toInt ∧ (W t).toInt < (w : Int))
theorem lS_s (M w : Nat) : ct (lS F W (w + 1)) M = ct (lS F W w) M + ct (lP F W w) M := by
  rw [ct_add (lS F W (w + 1)) (fun t => decide ((W t).toInt < (w : Int))) M]
  congr 1
  · refine ct_c (fun k _ => ?_)
    show ((F k && decide _) && decide _) = (F k && decide _)
    rw [Bool.and_assoc]
    congr 1
    rw [← Bool.decide_and]
    exact decide_eq_decide.mpr (by omega)
  · refine ct_c (fun k _ => ?_)
    show ((F k && decide _) && !decide _) = (F k && decide _)
    rw [Bool.and_assoc]
    congr 1
    rw [← decide_not, ← Bool.decide_and]
    exact decide_eq_decide.mpr (by omega)
theorem lS_0 (M : Nat) : ct (lS F W 0) M = 0 := ct_0 (fun k _ => by
  show (F k && decide _) = false
  rw [decide_eq_false (by omega), Bool.and_false])
theorem lS_le (w M : Nat) : ct (lS F W w) M ≤ ct F M := by
  rw [ct_add F (fun t => decide (0 ≤ (W t).toInt ∧ (W t).toInt < (w : Int))) M]
  exact Nat.le_add_right _ _
theorem lS_mono {w w' : Nat} (h : w ≤ w') : ct (lS F W w) M ≤ ct (lS F W w') M := by
  induction w' with
  | zero => rw [show w = 0 by omega]; exact Nat.le_refl _
  | succ k ih =>
    by_cases e : w = k + 1
    · rw [e]; exact Nat.le_refl _
    · have := ih (by omega)
      rw [lS_s]; omega
/-- the i-th by weight, then by number -/
def lgP (F : Nat → Bool) (W : Nat → Int32) (M : Nat) (x v : Int32) : Prop := (0 ≤ x.toInt → (∃ w u, (w < 991 ∧ u < M) ∧ lP F W w u = true ∧ ct (lS F W w) M + ct (lP F W w) u = x.toInt.toNat ∧ v = nI u) ∨ (ct (lS F W 991) M ≤ x.toInt.toNat ∧ v = -1)) ∧ (x.toInt < 0 → v = -1)
theorem lg_lt {w u : Nat} (hu : u < M) (h : lP F W w u = true) {w' : Nat} (hw : w < w') : ct (lS F W w) M + ct (lP F W w) u < ct (lS F W w') M := by
  have a := ct_lt_ hu h
  have b := lS_mono (F := F) (W := W) (M := M) (show w + 1 ≤ w' by omega)
  rw [lS_s] at b
  omega
theorem lgP_u {x v w : Int32} (h : lgP F W M x v) (h2 : lgP F W M x w) : v = w := by
  by_cases q : 0 ≤ x.toInt
  · rcases h.1 q with ⟨a, u, ⟨ha, hu⟩, hp, hc, hv⟩ | ⟨hc, hv⟩
    · rcases h2.1 q with ⟨b, t, ⟨hb, ht⟩, hp2, hc2, hv2⟩ | ⟨hc2, hv2⟩
      · have ab : a = b := by
          by_cases k : a < b
          · have := lg_lt (M := M) hu hp k
            omega
          · by_cases k2 : b < a
            · have := lg_lt (M := M) ht hp2 k2
              omega
            · omega
        subst ab
        rw [hv, hv2, ct_inj hp hp2 (by omega)]
      · have := lg_lt (M := M) hu hp ha
        omega
    · rcases h2.1 q with ⟨b, t, ⟨hb, ht⟩, hp2, hc2, hv2⟩ | ⟨hc2, hv2⟩
      · have := lg_lt (M := M) ht hp2 hb
        omega
      · rw [hv, hv2]
  · rw [h.2 (by omega), h2.2 (by omega)]
end LGT
def V_light (x1 x2 : Int32) (g f : Nat → Int32) (v : Int32) : Prop := QE (isR (g 0) x1) (lgP (Rg f x1.toInt.toNat) (Wg g) (mn (g 0)) x2) v
/-- a row of ints is filled -/
theorem v_fillI {N : Nat} {σ : zS} {k n : Nat} {v : Int32} {P : Unit × zS → Prop} (hk : zKd k = (14, n)) (hn : n ≤ 2000) (hP : ∀ τ : zS, τ.2 = σ.2 → (∀ a, a ≠ k → τ.1 a = σ.1 a) → (∀ j, j < n → τ.1 k j = v) → P ((), τ)) : Pt (f_J7_fill_53178 N k v σ) P := by
  rw [f_J7_fill_53178.eq_1]
  refine pt_aL ?_
  rw [hk]
  show Pt (zlp (F_J7_fill_53178_5 N k v (nI n)) N (0, σ)) P
  refine pt_lp (fun s : Int32 × zS => s.2.2 = σ.2 ∧ (∀ a, a ≠ k → s.2.1 a = σ.1 a) ∧ ∃ m, (s.1 = nI m ∧ m ≤ n) ∧ ∀ j, j < m → s.2.1 k j = v) (fun again s hI ih => ?_) N _ ⟨rfl, fun _ _ => rfl, 0, ⟨rfl, Nat.zero_le _⟩, fun j hj => absurd hj (Nat.not_lt_zero _)⟩
  obtain ⟨y, τ⟩ := s
  obtain ⟨e, o, m, ⟨em, hm⟩, hj⟩ := hI
  have e : τ.2 = σ.2 := e
  have o : ∀ a, a ≠ k → τ.1 a = σ.1 a := o
  have em : y = nI m := em
  subst em
  have hj : ∀ j, j < m → τ.1 k j = v := hj
  rw [F_J7_fill_53178_5.eq_1]
  refine pt_if (fun q => ?_) (fun q => ?_)
  · rw [nlt (by omega) (by omega)] at q
    exact pt_some (hP τ e o (fun j h => hj j (by omega)))
  · rw [nlt (by omega) (by omega)] at q
    refine pt_s14 ?_
    rw [iN (m := m) (by omega), nI_s1 (by omega)]
    refine ih (nI (m + 1), _) ⟨e, fun a ha => (zI_n ha).trans (o a ha), m + 1, ⟨rfl, by omega⟩, fun j h => ?_⟩
    show (zI τ k _).1 k j = v
    rw [zI_s, upd_i]
    by_cases jm : j = m
    · rw [if_pos jm]
    · rw [if_neg jm]; exact hj j (by omega)
section LGC
variable {N fm M i : Nat} {σ : zS} {F : Nat → Bool} {W : Nat → Int32}
/-- the i-th of a weight -/
theorem v_pickOfLoad {w : Nat} (hR : RF σ.2.2) (hk : (zKd fm).1 = 2) (hM : M ≤ 1024) (hF : ∀ u, u < 1024 → bt (σ.2.1 (fm + 1)) u = F u) (hFM : ∀ u, u < 1024 → F u = true → u < M) (hL : ∀ s, s < M → σ.1 109 s = W s) (hw : w < 991) (hi : i < ct (lP F W w) M) : Px (f_X8_pickOfLoad N 108 fm (nI w) (nI i) σ) σ (fun v => ∃ u, u < M ∧ lP F W w u = true ∧ ct (lP F W w) u = i ∧ v = nI u) := by
  have cM := ct_le (lP F W w) M
  rw [f_X8_pickOfLoad.eq_1]
  refine pt_gC (pt_zbq (v_firstFrom (s := 0) hR hk (by omega)) (fun v1 h1 => ?_))
  refine pt_lp (fun x : Int32 × Int32 × Int32 × zS => x.2.2.2 = σ ∧ ∃ fr, (fr ≤ 1024 ∧ fsQ (bt (σ.2.1 (fm + 1))) fr x.2.1) ∧ (x.1 = nI (i - ct (lP F W w) fr) ∧ ct (lP F W w) fr ≤ i) ∧ x.2.2.1 = nI (ct F fr)) (fun again x hJ ih => ?_) N _ ⟨rfl, 0, ⟨by omega, h1⟩, ⟨rfl, Nat.zero_le _⟩, rfl⟩
  obtain ⟨y4, y5, y6, τ⟩ := x
  obtain ⟨eo, fr, ⟨hf, hfs⟩, ⟨e4o, hc⟩, e6o⟩ := hJ
  have e : τ = σ := eo
  have hfs : fsQ (bt (σ.2.1 (fm + 1))) fr y5 := hfs
  have e4 : y4 = nI (i - ct (lP F W w) fr) := e4o
  have e6 : y6 = nI (ct F fr) := e6o
  clear eo e4o e6o
  subst e
  subst e4
  subst e6
  have cf := ct_le F fr
  have none_ : (∀ u, fr ≤ u → u < 1024 → bt (τ.2.1 (fm + 1)) u = false) → False := fun h => by
    by_cases k : fr ≤ M
    · have : ct (lP F W w) M = ct (lP F W w) fr := ct_top k (fun u a b => by
        show (F u && _) = false
        rw [← hF u (by omega), h u a (by omega)]; rfl)
      omega
    · have := ct_mono (lP F W w) (show M ≤ fr by omega)
      omega
  rw [F_X8_pickOfLoad_13.eq_1]
  rcases hfs with ⟨u, ⟨a1, a2⟩, a3, a4, a5⟩ | ⟨b1, b2⟩
  · have ev : y5 = nI u := Int32.toInt_inj.mp (by rw [a5, nI_toInt (by omega)])
    subst ev
    rw [hF u a2] at a3
    have uM := hFM u a2 a3
    have cu : ∀ {Q : Nat → Bool}, (∀ k, Q k = true → F k = true) → ct Q u = ct Q fr := fun {Q} hQ => ct_top a1 (fun k x y => by
      cases z : Q k with
      | false => rfl
      | true =>
        have := hQ k z
        rw [← hF k (by omega), a4 k x y] at this
        cases this)
    have lpF : ∀ k, lP F W w k = true → F k = true := fun k h => (Bool.and_eq_true _ _ ▸ h : F k = true ∧ _).1
    have c1 := cu lpF
    have c2 := cu (Q := F) (fun _ h => h)
    have c3 := ct_lt_ (M := 1024) a2 a3
    have c4 := ct_le F 1024
    refine pt_if (fun z => ?_) (fun _ => pt_if (fun z => absurd z (by rw [Int32.lt_iff_toInt_lt, a5]; simp only [Int32.reduceToInt]; omega)) (fun _ => ?_))
    · have z : nI 1024 ≤ nI (ct F fr) := z
      rw [nlt (by omega) (by omega)] at z
      omega
    · refine pt_gR (v := 109) (hR 108 0 rfl) (pt_aI ?_)
      rw [iN (m := u) (by omega), hL u uM]
      have nxt : ∀ j, ct (lP F W w) (u + 1) ≤ i → j = i - ct (lP F W w) (u + 1) → Pt (zl (gC 2 fm) fun _ => zb (f_X2_firstFrom N fm (nI u + 1) τ) fun v5 σ6 => again (nI j, v5, nI (ct F fr) + 1, σ6)) (fun r => r.2 = τ ∧ ∃ u, u < M ∧ lP F W w u = true ∧ ct (lP F W w) u = i ∧ r.1 = nI u) := fun j h1 h2 => by
        rw [nI_m1]
        refine pt_gC (pt_zbq (v_firstFrom (s := u + 1) hR hk (by omega)) (fun v5 h5 => ?_))
        rw [nI_m1]
        exact ih (nI j, v5, nI (ct F fr + 1), τ) ⟨rfl, u + 1, ⟨by omega, h5⟩, ⟨by rw [h2], h1⟩, by rw [ct_t a3, c2]⟩
      refine pt_if (fun z => ?_) (fun z => ?_)
      · have lp : lP F W w u = true := by
          show (F u && decide _) = true
          rw [a3, decide_eq_true (by rw [z, nI_toInt (by omega)])]; rfl
        refine pt_if (fun y => pt_some ⟨rfl, u, uM, lp, ?_, rfl⟩) (fun y => ?_)
        · rw [nI_z (by omega)] at y
          omega
        · rw [nI_z (by omega)] at y
          have em : nI (i - ct (lP F W w) fr) + (-1) = nI (i - ct (lP F W w) fr - 1) := by
            have : i - ct (lP F W w) fr = (i - ct (lP F W w) fr - 1) + 1 := by omega
            conv => lhs; rw [this, ← nI_m1]
            rw [Int32.add_assoc, show (1 : Int32) + (-1) = 0 from by decide, Int32.add_zero]
          rw [em]
          have t := ct_t lp
          exact nxt _ (by omega) (by omega)
      · have lp : lP F W w u = false := by
          show (F u && decide _) = false
          rw [decide_eq_false (fun k => z (Int32.toInt_inj.mp (by rw [k, nI_toInt (by omega)]))), Bool.and_false]
        have t := ct_f lp
        exact nxt _ (by omega) (by omega)
  · exact (none_ b1).elim
end LGC
theorem uq_light {N : Nat} (hN : 1048576 ≤ N) {x1 x2 : Int32} {σ : zS} (hI : IV σ) (hW : WQ σ) (hF : FQ σ) : Pt (f_X11_light N 0 x1 x2 σ) (fun r => V_light x1 x2 (σ.1 219) (σ.1 220) r.1) := by
  rw [f_X11_light.eq_1]
  refine pt_gC (pt_zbq (lq_isR hW) (fun v hv => pt_if (fun q => pt_some (QE_n (hv.1 q))) (fun q1 => ?_)))
  have hc := hv.2 q1
  obtain ⟨p, hp, rfl⟩ := isR_n hc
  have ep := iN (m := p) (by omega)
  obtain ⟨n, en, n0, n10⟩ := world_n hc.1 (RI_n hI.1.2).2
  have eB : σ.1 (σ.2.2 0 4) 0 = nI n := (e0_ hW).trans en
  have eM : mn (σ.1 219 0) = 2 ^ n := by rw [en, mnn n0 n10]
  have pn := p2le n10
  obtain ⟨F, hFe⟩ : ∃ F, F = Rg (σ.1 220) p := ⟨_, rfl⟩
  obtain ⟨W, hWe⟩ : ∃ W, W = Wg (σ.1 219) := ⟨_, rfl⟩
  have hk2 := lq_k hI hp
  have fF : ∀ u, u < 1024 → bt (σ.2.1 (σ.2.2 0 4 + 6 + 2 * p + 1)) u = F u := fun u hu => by rw [hFe]; exact FQ_f hF hp hu
  have fM : ∀ u, u < 1024 → F u = true → u < 2 ^ n := fun u hu h => by rw [← eM]; rw [hFe] at h; exact FQ_i hF hp hu h
  have ctF : ct F 1024 = ct F (2 ^ n) := ct_both pn.1 (fun _ _ => rfl) fM
  have cl := ct_le F (2 ^ n)
  have fin : ∀ v, lgP F W (2 ^ n) x2 v → V_light (nI p) x2 (σ.1 219) (σ.1 220) v := fun v h => by
    refine QE_y hc ?_
    rw [ep, eM, ← hFe, ← hWe]; exact h
  refine pt_gR (v := 108) (hI.1.1.1 0 12 rfl) (pt_gR (v := σ.2.2 0 4) rfl (lq_reg hI hp (pt_gC ?_)))
  refine pt_zb (Q := fun r => lgP F W (2 ^ n) x2 r.1) ?_ (fun v8 σ9 h8 => pt_some (fin _ h8))
  rw [f_X8_pick.eq_1]
  refine pt_if (fun z => pt_some ⟨fun y => ?_, fun _ => rfl⟩) (fun z => ?_)
  · rw [Int32.lt_iff_toInt_lt] at z
    simp only [Int32.reduceToInt] at z
    omega
  · rw [Int32.lt_iff_toInt_lt] at z
    simp only [Int32.reduceToInt] at z
    refine pt_gC (pt_zbq (lq_tally hI hF hp) (fun v1 h1 => ?_))
    rw [eM, ← hFe] at h1
    subst h1
    refine pt_if (fun y => ?_) (fun y => pt_some ⟨fun _ => Or.inr ⟨?_, rfl⟩, fun k => by omega⟩)
    · rw [Int32.lt_iff_toInt_lt, nI_toInt (by omega)] at y
      obtain ⟨i, hi⟩ : ∃ i, i = x2.toInt.toNat := ⟨_, rfl⟩
      have ex : x2 = nI i := Int32.toInt_inj.mp (by rw [nI_toInt (by omega)]; omega)
      have i10 : i < ct F (2 ^ n) := by omega
      refine pt_gC (pt_zb (v_weighSets (isWc4 (IV_4 hI)) hI.1.1.1 eB n10) (fun _ σ4 h4 => ?_))
      obtain ⟨s2, so, sl⟩ := h4
      have s2 : σ4.2 = σ.2 := s2
      have sl : ∀ s, s < 2 ^ n → σ4.1 109 s = W s := fun s hs => by
        rw [hWe, ← lq_W hW en n0 n10 hs]; exact sl s hs
      have R4 : RF σ4.2.2 := by rw [s2]; exact hI.1.1.1
      refine pt_gR (v := 110) (R4 108 1 rfl) ?_
      refine pt_zb (Q := fun r : Unit × zS => r.2.2 = σ.2 ∧ (∀ s, s < 2 ^ n → r.2.1 109 s = W s) ∧ ∀ j, j < 991 → r.2.1 110 j = 0) (v_fillI (n := 991) rfl (by omega) (fun τ a b c => ⟨a.trans s2, fun s hs => by show τ.1 109 s = W s; rw [b 109 (by decide)]; exact sl s hs, c⟩)) (fun _ σ7 h7 => ?_)
      obtain ⟨t2, tl, tz⟩ := h7
      have t2 : σ7.2 = σ.2 := t2
      have tl : ∀ s, s < 2 ^ n → σ7.1 109 s = W s := tl
      have tz : ∀ j, j < 991 → σ7.1 110 j = 0 := tz
      have R7 : RF σ7.2.2 := by rw [t2]; exact hI.1.1.1
      refine pt_gC (pt_zbq (v_firstFrom (s := 0) R7 hk2 (by omega)) (fun v8 h8 => ?_))
      -- behind the counting
      have behind : ∀ τ : zS, τ.2 = σ.2 → (∀ s, s < 2 ^ n → τ.1 109 s = W s) → (∀ j, j < 991 → τ.1 110 j = nI (ct (lP F W j) (2 ^ n))) → Pt (J_X8_pick_107 N 108 (σ.2.2 0 4 + 6 + 2 * p) x2 τ) (fun r => lgP F W (2 ^ n) x2 r.1) := fun τ e2 el em => by
        have Rt : RF τ.2.2 := by rw [e2]; exact hI.1.1.1
        have rowt : τ.2.1 (σ.2.2 0 4 + 6 + 2 * p + 1) = σ.2.1 (σ.2.2 0 4 + 6 + 2 * p + 1) := by rw [e2]
        rw [J_X8_pick_107.eq_1]
        refine pt_lp (fun x : Int32 × Int32 × zS => x.2.2 = τ ∧ ∃ w, (x.2.1 = nI w ∧ w ≤ 991) ∧ (x.1 = nI (i - ct (lS F W w) (2 ^ n)) ∧ ct (lS F W w) (2 ^ n) ≤ i)) (fun again x hJ ih => ?_) N _ ⟨rfl, 0, ⟨rfl, Nat.zero_le _⟩, by show x2 = _; rw [lS_0]; exact ex, by rw [lS_0]; exact Nat.zero_le _⟩
        obtain ⟨y5, y6, υ⟩ := x
        obtain ⟨eo, w, ⟨e6o, hw⟩, e5o, hc5⟩ := hJ
        have e : υ = τ := eo
        have e6 : y6 = nI w := e6o
        have e5 : y5 = nI (i - ct (lS F W w) (2 ^ n)) := e5o
        clear eo e6o e5o
        subst e
        subst e6
        subst e5
        rw [F_X8_pick_113.eq_1]
        refine pt_gR (v := 110) (Rt 108 1 rfl) (pt_aL ?_)
        rw [show Int32.ofNat (zKd 110).2 = nI 991 from rfl]
        refine pt_if (fun k => pt_some ⟨fun _ => Or.inr ⟨?_, rfl⟩, fun k => by omega⟩) (fun k => ?_)
        · rw [nlt (by omega) (by omega)] at k
          rw [← hi, show (991 : Nat) = w by omega]; exact hc5
        · rw [nlt (by omega) (by omega)] at k
          have cw := ct_le (lP F W w) (2 ^ n)
          refine pt_gR (v := 110) (Rt 108 1 rfl) (pt_aI ?_)
          rw [iN (m := w) (by omega), em w (by omega)]
          refine pt_if (fun u => ?_) (fun u => ?_)
          · rw [nlt (by omega) (by omega)] at u
            refine pt_gR (v := 110) (Rt 108 1 rfl) (pt_aI ?_)
            rw [iN (m := w) (by omega), em w (by omega), nI_m1, nI_sub (c := i - ct (lS F W (w + 1)) (2 ^ n)) (by rw [lS_s]; omega)]
            exact ih (_, nI (w + 1), υ) ⟨rfl, w + 1, ⟨rfl, by omega⟩, rfl, by rw [lS_s]; omega⟩
          · rw [nlt (by omega) (by omega)] at u
            refine pt_gC (pt_zbq (v_pickOfLoad (M := 2 ^ n) Rt hk2 pn.1 (fun u hu => by rw [rowt]; exact fF u hu) fM el (by omega) (by omega)) (fun v16 h16 => pt_some ⟨fun _ => Or.inl ?_, fun k => by omega⟩))
            obtain ⟨t, ht, hp2, hcc, hv2⟩ := h16
            exact ⟨w, t, ⟨by omega, ht⟩, hp2, by omega, hv2⟩
      refine pt_lp (fun x : Int32 × Int32 × zS => x.2.2.2 = σ.2 ∧ (∀ s, s < 2 ^ n → x.2.2.1 109 s = W s) ∧ ∃ fr, (fr ≤ 1024 ∧ fsQ (bt (σ.2.1 (σ.2.2 0 4 + 6 + 2 * p + 1))) fr x.1) ∧ x.2.1 = nI (ct F fr) ∧ ∀ j, j < 991 → x.2.2.1 110 j = nI (ct (lP F W j) fr)) (fun again x hJ ih => ?_) N _ ⟨t2, tl, 0, ⟨by omega, by rw [← show σ7.2.1 (σ.2.2 0 4 + 6 + 2 * p + 1) = σ.2.1 (σ.2.2 0 4 + 6 + 2 * p + 1) by rw [t2]]; exact h8⟩, rfl, tz⟩
      obtain ⟨y4, y5, τ⟩ := x
      obtain ⟨eo, el, fr, ⟨hf, hfs⟩, e5o, em⟩ := hJ
      have e2 : τ.2 = σ.2 := eo
      have el : ∀ s, s < 2 ^ n → τ.1 109 s = W s := el
      have hfs : fsQ (bt (σ.2.1 (σ.2.2 0 4 + 6 + 2 * p + 1))) fr y4 := hfs
      have e5 : y5 = nI (ct F fr) := e5o
      have em : ∀ j, j < 991 → τ.1 110 j = nI (ct (lP F W j) fr) := em
      clear eo e5o
      subst e5
      have Rt : RF τ.2.2 := by rw [e2]; exact hI.1.1.1
      have rowt : τ.2.1 (σ.2.2 0 4 + 6 + 2 * p + 1) = σ.2.1 (σ.2.2 0 4 + 6 + 2 * p + 1) := by rw [e2]
      have cf := ct_le F fr
      rw [F_X8_pick_37.eq_1]
      rcases hfs with ⟨u, ⟨a1, a2⟩, a3, a4, a5⟩ | ⟨b1, b2⟩
      · have ev : y4 = nI u := Int32.toInt_inj.mp (by rw [a5, nI_toInt (by omega)])
        subst ev
        rw [fF u a2] at a3
        have uM := fM u a2 a3
        have cu : ∀ {Q : Nat → Bool}, (∀ k, Q k = true → F k = true) → ct Q u = ct Q fr := fun {Q} hQ => ct_top a1 (fun k x y => by
          cases z : Q k with
          | false => rfl
          | true =>
            have := hQ k z
            rw [← fF k (by omega), a4 k x y] at this
            cases this)
        have c2 := cu (Q := F) (fun _ h => h)
        have c3 := ct_lt_ (M := 1024) a2 a3
        have c4 := ct_le F 1024
        have lpF : ∀ j k, lP F W j k = true → F k = true := fun j k h => (Bool.and_eq_true _ _ ▸ h : F k = true ∧ _).1
        refine pt_if (fun k => ?_) (fun _ => pt_if (fun k => absurd k (by rw [Int32.lt_iff_toInt_lt, a5]; simp only [Int32.reduceToInt]; omega)) (fun _ => ?_))
        · have k : nI 1024 ≤ nI (ct F fr) := k
          rw [nlt (by omega) (by omega)] at k
          omega
        · have nxt : ∀ υ : zS, υ.2 = σ.2 → (∀ s, s < 2 ^ n → υ.1 109 s = W s) → (∀ j, j < 991 → υ.1 110 j = nI (ct (lP F W j) (u + 1))) → Pt (zl (gC 2 (σ.2.2 0 4 + 6 + 2 * p)) fun _ => zb (f_X2_firstFrom N (σ.2.2 0 4 + 6 + 2 * p) (nI u + 1) υ) fun v σ6 => again (v, nI (ct F fr) + 1, σ6)) (fun r => lgP F W (2 ^ n) x2 r.1) := fun υ f2 fl fm => by
            have Ru : RF υ.2.2 := by rw [f2]; exact hI.1.1.1
            rw [nI_m1]
            refine pt_gC (pt_zbq (v_firstFrom (s := u + 1) Ru hk2 (by omega)) (fun v h => ?_))
            rw [nI_m1]
            refine ih (v, nI (ct F fr + 1), υ) ⟨f2, fl, u + 1, ⟨by omega, ?_⟩, by rw [ct_t a3, c2], fm⟩
            rw [← show υ.2.1 (σ.2.2 0 4 + 6 + 2 * p + 1) = σ.2.1 (σ.2.2 0 4 + 6 + 2 * p + 1) by rw [f2]]
            exact h
          have stay : ((W u).toInt < 0 ∨ 991 ≤ (W u).toInt) → ∀ j, j < 991 → τ.1 110 j = nI (ct (lP F W j) (u + 1)) := fun h j hj => by
            rw [em j hj, ct_f (p := lP F W j) (by show (F u && decide _) = false; rw [decide_eq_false (by omega), Bool.and_false]), cu (lpF j)]
          refine pt_gR (v := 109) (Rt 108 0 rfl) (pt_aI ?_)
          rw [iN (m := u) (by omega), el u uM]
          refine pt_if (fun k => nxt τ e2 el (stay (Or.inl ?_))) (fun k => ?_)
          · rw [Int32.lt_iff_toInt_lt] at k
            simp only [Int32.reduceToInt] at k
            exact k
          · rw [Int32.lt_iff_toInt_lt] at k
            simp only [Int32.reduceToInt] at k
            refine pt_gR (v := 109) (Rt 108 0 rfl) (pt_aI (pt_gR (v := 110) (Rt 108 1 rfl) (pt_aL ?_)))
            rw [iN (m := u) (by omega), el u uM, show Int32.ofNat (zKd 110).2 = nI 991 from rfl]
            refine pt_if (fun k2 => nxt τ e2 el (stay (Or.inr ?_))) (fun k2 => ?_)
            · rw [Int32.le_iff_toInt_le, nI_toInt (by omega)] at k2
              exact k2
            · rw [Int32.le_iff_toInt_le, nI_toInt (by omega)] at k2
              obtain ⟨w, hw⟩ : ∃ w, w = (W u).toInt.toNat := ⟨_, rfl⟩
              have w991 : w < 991 := by omega
              refine pt_gR (v := 110) (Rt 108 1 rfl) (pt_gR (v := 109) (Rt 108 0 rfl) (pt_aI (pt_aI (pt_s14 ?_))))
              rw [iN (m := u) (by omega), el u uM, ← hw, em w w991, nI_m1 (m := ct (lP F W w) fr)]
              refine nxt _ e2 (fun s hs => ?_) (fun j hj => ?_)
              · show (zI τ 110 _).1 109 s = _
                rw [zI_n (by decide)]; exact el s hs
              · show (zI τ 110 _).1 110 j = _
                rw [zI_s, upd_i]
                by_cases jw : j = w
                · rw [if_pos jw, jw, ct_t (p := lP F W w) (by show (F u && decide _) = true; rw [a3, decide_eq_true (by omega)]; rfl), cu (lpF w)]
                · rw [if_neg jw, em j hj, ct_f (p := lP F W j) (by show (F u && decide _) = false; rw [decide_eq_false (by omega), Bool.and_false]), cu (lpF j)]
      · have full : ∀ j, j < 991 → τ.1 110 j = nI (ct (lP F W j) (2 ^ n)) := fun j hj => by
          rw [em j hj]
          have lpz : ∀ k, k < 1024 → (fr ≤ k ∨ 2 ^ n ≤ k) → lP F W j k = false := fun k hk h => by
            cases z : lP F W j k with
            | false => rfl
            | true =>
              have fk : F k = true := (Bool.and_eq_true _ _ ▸ z : F k = true ∧ _).1
              rcases h with h | h
              · rw [← fF k hk, b1 k h hk] at fk; cases fk
              · have := fM k hk fk; omega
          by_cases k : fr ≤ 2 ^ n
          · rw [ct_top k (fun u a b => lpz u (by omega) (Or.inl a))]
          · rw [← ct_top (show 2 ^ n ≤ fr by omega) (fun u a b => lpz u (by omega) (Or.inr a))]
        refine pt_if (fun _ => behind τ e2 el full) (fun _ => pt_if (fun _ => behind τ e2 el full) (fun k => absurd (by rw [show y4 = -1 from b2]; decide) k))
    · rw [Int32.lt_iff_toInt_lt, nI_toInt (by omega)] at y
      have := lS_le (F := F) (W := W) 991 (2 ^ n)
      omega
theorem rq_light {N : Nat} (hN : 1048576 ≤ N) {x1 x2 : Int32} {σ : zS} (hC : CI σ) (hR : RI σ) : Pt (f_X12_light N 218 x1 x2 σ) (fun r => V_light x1 x2 (σ.1 219) (σ.1 220) r.1) := by
  have M10 := mn_le (RI_n hR).2
  rw [f_X12_light.eq_1]
  refine pt_gC (pt_zbq (vr_isRegister hC.1) (fun v hv => pt_if (fun q => pt_some (QE_n (hv.1 q))) (fun q1 => ?_)))
  have hc := hv.2 q1
  obtain ⟨p, hp, rfl⟩ := isR_n hc
  have ep := iN (m := p) (by omega)
  obtain ⟨F, hFe⟩ : ∃ F, F = Rg (σ.1 220) p := ⟨_, rfl⟩
  obtain ⟨W, hWe⟩ : ∃ W, W = Wg (σ.1 219) := ⟨_, rfl⟩
  obtain ⟨M, hMe⟩ : ∃ M, M = mn (σ.1 219 0) := ⟨_, rfl⟩
  have fin : ∀ v, lgP F W M x2 v → V_light (nI p) x2 (σ.1 219) (σ.1 220) v := fun v h => by
    refine QE_y hc ?_
    rw [ep, ← hFe, ← hWe, ← hMe]; exact h
  have cF := ct_le F M
  have bS : ∀ w, ct (lS F W w) M ≤ 1024 := fun w => Nat.le_trans (lS_le w M) (by omega)
  have xi := ti_hi x2
  refine pt_lp (fun x : Int32 × Int32 × zS => x.2.2 = σ ∧ ∃ w, (x.2.1 = nI w ∧ w ≤ 991) ∧ x.1 = nI (ct (lS F W w) M) ∧ (0 ≤ x2.toInt → ct (lS F W w) M ≤ x2.toInt.toNat)) (fun again x hJ ih => ?_) N _ ⟨rfl, 0, ⟨rfl, Nat.zero_le _⟩, by show (0 : Int32) = _; rw [lS_0]; rfl, fun _ => by rw [lS_0]; exact Nat.zero_le _⟩
  obtain ⟨y3, y4, τ⟩ := x
  obtain ⟨eo, w, ⟨e4o, hw⟩, e3o, hl⟩ := hJ
  have e : τ = σ := eo
  have e4 : y4 = nI w := e4o
  have e3 : y3 = nI (ct (lS F W w) M) := e3o
  clear eo e4o e3o
  subst e
  subst e4
  subst e3
  rw [F_X12_light_16.eq_1]
  refine pt_if (fun z => pt_some (fin _ ⟨fun q => Or.inr ⟨?_, rfl⟩, fun _ => rfl⟩)) (fun z => ?_)
  · have z : nI 990 < nI w := z
    rw [Int32.lt_iff_toInt_lt, nI_toInt (by omega), nI_toInt (by omega)] at z
    have := hl q
    rw [show (991 : Nat) = w by omega]; exact this
  · have z : ¬ nI 990 < nI w := z
    rw [Int32.lt_iff_toInt_lt, nI_toInt (by omega), nI_toInt (by omega)] at z
    have b0 := bS w
    refine pt_lp (fun x : Int32 × Int32 × zS => x.2.2 = τ ∧ ∃ m, (x.2.1 = nI m ∧ m ≤ M) ∧ x.1 = nI (ct (lS F W w) M + ct (lP F W w) m) ∧ (0 ≤ x2.toInt → ct (lS F W w) M + ct (lP F W w) m ≤ x2.toInt.toNat)) (fun again2 x hJ ih2 => ?_) N _ ⟨rfl, 0, ⟨rfl, Nat.zero_le _⟩, rfl, hl⟩
    obtain ⟨w3, w5, υ⟩ := x
    obtain ⟨eo, m, ⟨e5o, hm⟩, e3o, hl2⟩ := hJ
    have e : υ = τ := eo
    have e5 : w5 = nI m := e5o
    have e3 : w3 = nI (ct (lS F W w) M + ct (lP F W w) m) := e3o
    clear eo e5o e3o
    subst e
    subst e5
    subst e3
    have cm := ct_le (lP F W w) m
    rw [F_X12_light_27.eq_1]
    refine pt_gC (pt_zbq (vr_mn hC.1 (RI_n hR)) (fun v hv => ?_))
    rw [← hMe] at hv
    subst hv
    refine pt_if (fun k => ?_) (fun k => ?_)
    · rw [nlt (by omega) (by omega)] at k
      have em : m = M := by omega
      subst em
      rw [nI_m1]
      exact ih (_, nI (w + 1), υ) ⟨rfl, w + 1, ⟨rfl, by omega⟩, by rw [lS_s], by rw [lS_s]; exact hl2⟩
    · rw [nlt (by omega) (by omega)] at k
      have m10 : m < 1024 := by omega
      have skip : lP F W w m = false → Pt (again2 (nI (ct (lS F W w) M + ct (lP F W w) m), nI m + 1, υ)) (fun r => V_light (nI p) x2 (υ.1 219) (υ.1 220) r.1) := fun h => by
        rw [nI_m1]
        exact ih2 (_, nI (m + 1), υ) ⟨rfl, m + 1, ⟨rfl, by omega⟩, by rw [ct_f h], by rw [ct_f h]; exact hl2⟩
      refine pt_gC (pt_zbq (vr_of hC.1 hp m10) (fun v5 h5 => pt_if (fun y => skip ?_) (fun y => ?_)))
      · show (F m && _) = false
        rw [show F m = false by rw [hFe]; exact vb_f h5 y]; rfl
      · have fm : F m = true := by rw [hFe]; exact vb_t h5 y
        refine pt_gC (pt_zbq (rq_W hC.1 m10) (fun v7 h7 => ?_))
        rw [← hWe] at h7
        subst h7
        refine pt_if (fun c => ?_) (fun c => skip ?_)
        · have lp : lP F W w m = true := by
            show (F m && decide _) = true
            rw [fm, decide_eq_true (by rw [c, nI_toInt (by omega)])]; rfl
          refine pt_if (fun d => pt_some (fin _ ⟨fun q => Or.inl ⟨w, m, ⟨by omega, by omega⟩, lp, ?_, rfl⟩, fun q => ?_⟩)) (fun d => ?_)
          · rw [← d, nI_toInt (by omega)]; omega
          · rw [← d, nI_toInt (by omega)] at q; omega
          · rw [nI_m1, nI_m1]
            refine ih2 (_, nI (m + 1), υ) ⟨rfl, m + 1, ⟨rfl, by omega⟩, by rw [ct_t lp, Nat.add_assoc], fun q => ?_⟩
            rw [ct_t lp]
            have a := hl2 q
            have b : ct (lS F W w) M + ct (lP F W w) m ≠ x2.toInt.toNat := fun k => d (Int32.toInt_inj.mp (by rw [nI_toInt (by omega)]; omega))
            omega
        · show (F m && decide _) = false
          rw [decide_eq_false (fun k => c (Int32.toInt_inj.mp (by rw [k, nI_toInt (by omega)]))), Bool.and_false]
theorem fe_light {S : List Nat} {x1 x2 v w : Int32} {σ σ1 : zS} (hI : IV σ) (hW : WQ σ) (hF : FQ σ) (t1 : FR S σ σ1) (hS : ∀ k ∈ [218, 219, 220, 239], k ∉ S) (c : V_light x1 x2 (σ.1 219) (σ.1 220) v) (r : V_light x1 x2 (σ1.1 219) (σ1.1 220) w) : v = w :=
  fe_V (V := V_light x1 x2) (fun _ _ _ _ h h2 => QE_u (fun _ _ _ => lgP_u) h h2) t1 hS c r

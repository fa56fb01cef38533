/-! ===== moves of the order ===== -/
/-- the name at place a goes to place b -/
def mvN (o : Nat → Nat) (a b j : Nat) : Nat := if j = b then o a else if a ≤ j ∧ j < b then o (j + 1) else if b < j ∧ j ≤ a then o (j - 1) else o j
def RCo (n B : Nat) (o : Nat → Nat) (τ : zS) : Prop := ∀ j, j < n → τ.1 (B + 4) j = nI (o j)
def RRo (n : Nat) (o : Nat → Nat) (τ : zS) : Prop := ∀ j, j < n → τ.1 219 (33 + j) = nI (o j)
section MOV
variable {N n B v a b : Nat} {o : Nat → Nat} {σ τ : zS}
theorem PmO_mv (hP : PmO n o) (ha : a < n) (hb : b < n) : PmO n (mvN o a b) := pm_of (fun v hv => by
  obtain ⟨k, hk, e⟩ := hP.2.2 v hv
  by_cases h1 : k = a
  · refine ⟨b, hb, ?_⟩
    unfold mvN
    rw [if_pos rfl, ← h1]; exact e
  · by_cases h2 : a < k ∧ k ≤ b
    · refine ⟨k - 1, by omega, ?_⟩
      unfold mvN
      rw [if_neg (by omega), if_pos (by omega), show k - 1 + 1 = k by omega]; exact e
    · by_cases h3 : b ≤ k ∧ k < a
      · refine ⟨k + 1, by omega, ?_⟩
        unfold mvN
        rw [if_neg (by omega), if_neg (by omega), if_pos (by omega), show k + 1 - 1 = k by omega]; exact e
      · refine ⟨k, hk, ?_⟩
        unfold mvN
        rw [if_neg (by omega), if_neg (by omega), if_neg (by omega)]; exact e)
theorem v_placeOf (hB : isWc B) (hR : RF σ.2.2) (en : σ.1 B 0 = nI n) (n10 : n ≤ 10) (hP : PmO n o) (ho : RCo n B o σ) (hv : v < n) : Px (f_X10_placeOf N B (nI v) σ) σ (fun w => ∃ a, (a < n ∧ o a = v) ∧ w = nI a) := by
  obtain ⟨k0, hk0, e0⟩ := hP.2.2 v hv
  rw [f_X10_placeOf.eq_1]
  refine pt_lp (fun x : Int32 × zS => x.2 = σ ∧ ∃ c, (x.1 = nI c ∧ c ≤ k0) ∧ ∀ j, j < c → o j ≠ v) (fun again x hJ ih => ?_) N _ ⟨rfl, 0, ⟨rfl, Nat.zero_le _⟩, fun j hj => absurd hj (Nat.not_lt_zero _)⟩
  obtain ⟨y, τ⟩ := x
  obtain ⟨eo, c, ⟨ec, hc⟩, hno⟩ := hJ
  have e : τ = σ := eo
  have ec : y = nI c := ec
  clear eo
  subst e
  subst ec
  rw [F_X10_placeOf_2.eq_1]
  refine pt_gI ?_
  rw [en]
  refine pt_if (fun q => ?_) (fun _ => pt_if (fun q => ?_) (fun _ => ?_))
  · rw [nlt (by omega) (by omega)] at q
    omega
  · have q : nI 10 ≤ nI c := q
    rw [nlt (by omega) (by omega)] at q
    omega
  · have oc := hP.1 c (by omega)
    refine pt_gR (v := B + 4) (rW hB hR).1.2.2.2 (pt_aI ?_)
    rw [iN (m := c) (by omega), ho c (by omega)]
    refine pt_if (fun q => ?_) (fun q => ?_)
    · rw [nI_inj (by omega) (by omega)] at q
      exact pt_some ⟨rfl, c, ⟨by omega, q⟩, rfl⟩
    · rw [nI_inj (by omega) (by omega)] at q
      rw [nI_m1]
      have ck : c ≠ k0 := fun z => q (by rw [z]; exact e0)
      refine ih (nI (c + 1), τ) ⟨rfl, c + 1, ⟨rfl, by omega⟩, fun j hj => ?_⟩
      by_cases z : j = c
      · rw [z]; exact q
      · exact hno j (by omega)
theorem nI_p {i : Nat} (h : 0 < i) : nI i + (-1) = nI (i - 1) := by
  rw [← Int32.sub_eq_add_neg, show (1 : Int32) = nI 1 from rfl]
  exact nI_sub (by omega)
theorem v_moveName (hB : isWc B) (hR : RF σ.2.2) (en : σ.1 B 0 = nI n) (n10 : n ≤ 10) (hP : PmO n o) (ho : RCo n B o σ) (hv : v < n) (hb : b < n) : Pt (f_X10_moveName N B (nI v) (nI b) σ) (fun r => ∃ a, (a < n ∧ o a = v) ∧ r.1 = nI a ∧ FW_ [B + 4] σ r.2 ∧ RCo n B (mvN o a b) r.2) := by
  rw [f_X10_moveName.eq_1]
  refine pt_gC (pt_zbq (v_placeOf hB hR en n10 hP ho hv) (fun w hw => ?_))
  obtain ⟨a, ⟨ha, ea⟩, rfl⟩ := hw
  refine pt_if (fun q => ?_) (fun _ => pt_if (fun q => ?_) (fun _ => pt_if (fun _ => pt_if (fun q => ?_) (fun q => ?_)) (fun q => ?_)))
  · have q : nI a < nI 0 := q
    rw [nl_ (by omega) (by omega)] at q
    omega
  · have q : nI b < nI 0 := q
    rw [nl_ (by omega) (by omega)] at q
    omega
  · -- downwards
    rw [nlt (by omega) (by omega)] at q
    rw [J_X10_moveName_32.eq_1]
    refine pt_lp (fun x : Int32 × zS => FW_ [B + 4] σ x.2 ∧ ∃ i, (x.1 = nI i ∧ b ≤ i ∧ i ≤ a) ∧ ∀ j, j < n → x.2.1 (B + 4) j = nI (if i < j ∧ j ≤ a then o (j - 1) else o j)) (fun again x hJ ih => ?_) N _ ⟨FW_r, a, ⟨rfl, q, Nat.le_refl _⟩, fun j hj => by rw [if_neg (by omega)]; exact ho j hj⟩
    obtain ⟨y, τ⟩ := x
    obtain ⟨f, i, ⟨ei, hi1, hi2⟩, hr⟩ := hJ
    have f : FW_ [B + 4] σ τ := f
    have ei : y = nI i := ei
    subst ei
    have hr : ∀ j, j < n → τ.1 (B + 4) j = nI (if i < j ∧ j ≤ a then o (j - 1) else o j) := hr
    have Rt : RF τ.2.2 := by rw [f.1]; exact hR
    have r4 := (rW hB Rt).1.2.2.2
    rw [F_X10_moveName_37.eq_1]
    refine pt_if (fun z => ?_) (fun z => pt_if (fun z2 => ?_) (fun _ => pt_if (fun z2 => ?_) (fun _ => ?_)))
    · rw [nI_inj (by omega) (by omega)] at z
      subst z
      refine pt_gR (v := B + 4) r4 (pt_s14x (fun φ a1 b1 c1 => ?_))
      rw [iN (m := i) (by omega)] at a1
      refine pt_some ⟨a, ⟨ha, ea⟩, rfl, ⟨c1.trans f.1, fun c hc => (b1 c (fun z => hc (by rw [z]; exact List.mem_singleton_self _))).trans (f.2 c hc)⟩, fun j hj => ?_⟩
      show φ.1 (B + 4) j = nI (mvN o a i j)
      unfold mvN
      rw [a1, upd_i]
      by_cases w : j = i
      · rw [if_pos w, if_pos w, ea]
      · rw [if_neg w, if_neg w, hr j hj, if_neg (show ¬ (a ≤ j ∧ j < i) by omega)]
    · have z2 : nI i < nI 0 := z2
      rw [nl_ (by omega) (by omega)] at z2
      omega
    · have z2 : nI 10 ≤ nI i := z2
      rw [nlt (by omega) (by omega)] at z2
      omega
    · rw [nI_inj (by omega) (by omega)] at z
      refine pt_gR (v := B + 4) r4 (pt_gR (v := B + 4) r4 (pt_aI ?_))
      rw [nI_p (by omega), iN (m := i - 1) (by omega), hr (i - 1) (by omega), if_neg (by omega)]
      refine pt_s14x (fun φ a1 b1 c1 => ?_)
      rw [iN (m := i) (by omega)] at a1
      refine ih (nI (i - 1), φ) ⟨⟨c1.trans f.1, fun c hc => (b1 c (fun z => hc (by rw [z]; exact List.mem_singleton_self _))).trans (f.2 c hc)⟩, i - 1, ⟨rfl, by omega, by omega⟩, fun j hj => ?_⟩
      show φ.1 (B + 4) j = _
      rw [a1, upd_i]
      by_cases w : j = i
      · rw [if_pos w, if_pos (by omega), w]
      · rw [if_neg w, hr j hj]
        by_cases w2 : i < j ∧ j ≤ a
        · rw [if_pos w2, if_pos (by omega)]
        · rw [if_neg w2, if_neg (by omega)]
  · -- upwards
    rw [nlt (by omega) (by omega)] at q
    rw [J_X10_moveName_32.eq_1]
    refine pt_lp (fun x : Int32 × zS => FW_ [B + 4] σ x.2 ∧ ∃ i, (x.1 = nI i ∧ a ≤ i ∧ i ≤ b) ∧ ∀ j, j < n → x.2.1 (B + 4) j = nI (if a ≤ j ∧ j < i then o (j + 1) else o j)) (fun again x hJ ih => ?_) N _ ⟨FW_r, a, ⟨rfl, Nat.le_refl _, by omega⟩, fun j hj => by rw [if_neg (by omega)]; exact ho j hj⟩
    obtain ⟨y, τ⟩ := x
    obtain ⟨f, i, ⟨ei, hi1, hi2⟩, hr⟩ := hJ
    have f : FW_ [B + 4] σ τ := f
    have ei : y = nI i := ei
    subst ei
    have hr : ∀ j, j < n → τ.1 (B + 4) j = nI (if a ≤ j ∧ j < i then o (j + 1) else o j) := hr
    have Rt : RF τ.2.2 := by rw [f.1]; exact hR
    have r4 := (rW hB Rt).1.2.2.2
    rw [F_X10_moveName_37.eq_1]
    refine pt_if (fun z => ?_) (fun z => pt_if (fun z2 => ?_) (fun _ => pt_if (fun z2 => ?_) (fun _ => ?_)))
    · rw [nI_inj (by omega) (by omega)] at z
      subst z
      refine pt_gR (v := B + 4) r4 (pt_s14x (fun φ a1 b1 c1 => ?_))
      rw [iN (m := i) (by omega)] at a1
      refine pt_some ⟨a, ⟨ha, ea⟩, rfl, ⟨c1.trans f.1, fun c hc => (b1 c (fun z => hc (by rw [z]; exact List.mem_singleton_self _))).trans (f.2 c hc)⟩, fun j hj => ?_⟩
      show φ.1 (B + 4) j = nI (mvN o a i j)
      unfold mvN
      rw [a1, upd_i]
      by_cases w : j = i
      · rw [if_pos w, if_pos w, ea]
      · rw [if_neg w, if_neg w, hr j hj]
        by_cases w2 : a ≤ j ∧ j < i
        · rw [if_pos w2, if_pos w2]
        · rw [if_neg w2, if_neg w2, if_neg (by omega)]
    · have z2 : nI i < nI 0 := z2
      rw [nl_ (by omega) (by omega)] at z2
      omega
    · have z2 : nI 10 ≤ nI i := z2
      rw [nlt (by omega) (by omega)] at z2
      omega
    · rw [nI_inj (by omega) (by omega)] at z
      refine pt_gR (v := B + 4) r4 (pt_gR (v := B + 4) r4 (pt_aI ?_))
      rw [nI_m1, iN (m := i + 1) (by omega), hr (i + 1) (by omega), if_neg (by omega)]
      refine pt_s14x (fun φ a1 b1 c1 => ?_)
      rw [iN (m := i) (by omega)] at a1
      refine ih (nI (i + 1), φ) ⟨⟨c1.trans f.1, fun c hc => (b1 c (fun z => hc (by rw [z]; exact List.mem_singleton_self _))).trans (f.2 c hc)⟩, i + 1, ⟨rfl, by omega, by omega⟩, fun j hj => ?_⟩
      show φ.1 (B + 4) j = _
      rw [a1, upd_i]
      by_cases w : j = i
      · rw [if_pos w, if_pos (by omega), w]
      · rw [if_neg w, hr j hj]
        by_cases w2 : a ≤ j ∧ j < i
        · rw [if_pos w2, if_pos (by omega)]
        · rw [if_neg w2, if_neg (by omega)]
  · have q : ¬ nI b < nI 10 := q
    rw [nl_ (by omega) (by omega)] at q
    omega
/-! the reference's -/
theorem vr_placeOf (hR : RF σ.2.2) (n10 : n ≤ 10) (hP : PmO n o) (ho : RRo n o σ) (hv : v < n) : Px (f_X12_placeOf N 218 (nI v) σ) σ (fun w => ∃ a, (a < n ∧ o a = v) ∧ w = nI a) := by
  obtain ⟨k0, hk0, e0⟩ := hP.2.2 v hv
  rw [f_X12_placeOf.eq_1]
  refine pt_lp (fun x : Int32 × zS => x.2 = σ ∧ ∃ c, (x.1 = nI c ∧ c ≤ k0) ∧ ∀ j, j < c → o j ≠ v) (fun again x hJ ih => ?_) N _ ⟨rfl, 0, ⟨rfl, Nat.zero_le _⟩, fun j hj => absurd hj (Nat.not_lt_zero _)⟩
  obtain ⟨y, τ⟩ := x
  obtain ⟨eo, c, ⟨ec, hc⟩, hno⟩ := hJ
  have e : τ = σ := eo
  have ec : y = nI c := ec
  clear eo
  subst e
  subst ec
  rw [F_X12_placeOf_2.eq_1]
  have oc := hP.1 c (by omega)
  refine pt_gR (v := 219) (hR 218 1 rfl) (pt_aI ?_)
  rw [show (33 : Int32) = nI 33 from rfl, nI_plus, iN (m := 33 + c) (by omega), ho c (by omega)]
  refine pt_if (fun q => ?_) (fun q => ?_)
  · rw [nI_inj (by omega) (by omega)] at q
    exact pt_some ⟨rfl, c, ⟨by omega, q⟩, rfl⟩
  · rw [nI_inj (by omega) (by omega)] at q
    rw [nI_m1]
    have ck : c ≠ k0 := fun z => q (by rw [z]; exact e0)
    refine ih (nI (c + 1), τ) ⟨rfl, c + 1, ⟨rfl, by omega⟩, fun j hj => ?_⟩
    by_cases z : j = c
    · rw [z]; exact q
    · exact hno j (by omega)
/-- of the world's row only order is other -/
def FO_ (σ τ : zS) : Prop := FW_ [219] σ τ ∧ ∀ c, c < 33 → τ.1 219 c = σ.1 219 c
theorem FO_r : FO_ σ σ := ⟨FW_r, fun _ _ => rfl⟩
theorem FO_s {φ : zS} {i : Nat} {w : Int32} (f : FO_ σ τ) (a1 : φ.1 219 = upd (τ.1 219) (33 + i) w) (b1 : ∀ c, c ≠ 219 → φ.1 c = τ.1 c) (c1 : φ.2 = τ.2) : FO_ σ φ := ⟨⟨c1.trans f.1.1, fun c hc => (b1 c (fun z => hc (by rw [z]; exact List.mem_singleton_self _))).trans (f.1.2 c hc)⟩, fun c hc => by rw [a1, upd_n (by omega)]; exact f.2 c hc⟩
theorem n33 (i : Nat) : (33 : Int32) + nI i = nI (33 + i) := nI_plus 33 i
theorem vq_goesTo (hR : RF σ.2.2) (n10 : n ≤ 10) (hP : PmO n o) (ho : RRo n o σ) (hv : v < n) (hb : b < n) : Pt (f_X12_goesTo N 218 (nI v) (nI b) σ) (fun r => ∃ a, (a < n ∧ o a = v) ∧ FO_ σ r.2 ∧ RRo n (mvN o a b) r.2) := by
  rw [f_X12_goesTo.eq_1]
  refine pt_gC (pt_zbq (vr_placeOf hR n10 hP ho hv) (fun w hw => ?_))
  obtain ⟨a, ⟨ha, ea⟩, rfl⟩ := hw
  refine pt_w (Q := fun r => FO_ σ r.2 ∧ RRo n (mvN o a b) r.2) ?_ (fun r h => ⟨a, ⟨ha, ea⟩, h⟩)
  -- the last write
  have fin : ∀ τ : zS, FO_ σ τ → (∀ j, j < n → j ≠ b → τ.1 219 (33 + j) = nI (mvN o a b j)) → Pt (zl (gR 12 1 218 τ) fun v3 => zl (sI 14 v3 (33 + nI b) (nI v) τ) fun σ4 => some ((), σ4)) (fun r => FO_ σ r.2 ∧ RRo n (mvN o a b) r.2) := fun τ f h => by
    have Rt : RF τ.2.2 := by rw [f.1.1]; exact hR
    refine pt_gR (v := 219) (Rt 218 1 rfl) (pt_s14x (fun φ a1 b1 c1 => ?_))
    rw [n33, iN (m := 33 + b) (by omega)] at a1
    refine pt_some ⟨FO_s f a1 b1 c1, fun j hj => ?_⟩
    show φ.1 219 (33 + j) = _
    rw [a1, upd_i]
    by_cases w : j = b
    · rw [if_pos (by omega), w]
      unfold mvN
      rw [if_pos rfl, ea]
    · rw [if_neg (by omega)]; exact h j hj w
  refine pt_lp (fun x : Int32 × zS => FO_ σ x.2 ∧ ∃ i, (x.1 = nI i ∧ a ≤ i ∧ (i ≤ b ∨ i = a)) ∧ ∀ j, j < n → x.2.1 219 (33 + j) = nI (if a ≤ j ∧ j < i then o (j + 1) else o j)) (fun again x hJ ih => ?_) N _ ⟨FO_r, a, ⟨rfl, Nat.le_refl _, Or.inr rfl⟩, fun j hj => by rw [if_neg (by omega)]; exact ho j hj⟩
  obtain ⟨y, τ⟩ := x
  obtain ⟨f, i, ⟨ei, hi1, hi2⟩, hr⟩ := hJ
  have f : FO_ σ τ := f
  have ei : y = nI i := ei
  subst ei
  have hr : ∀ j, j < n → τ.1 219 (33 + j) = nI (if a ≤ j ∧ j < i then o (j + 1) else o j) := hr
  have Rt : RF τ.2.2 := by rw [f.1.1]; exact hR
  rw [F_X12_goesTo_6.eq_1]
  refine pt_if (fun z => ?_) (fun z => ?_)
  · rw [nlt (by omega) (by omega)] at z
    by_cases ab : a ≤ b
    · have ib : i = b := by omega
      subst ib
      refine pt_lp (fun x : Int32 × zS => x = (nI i, τ)) (fun again2 x hJ ih2 => ?_) N _ rfl
      subst hJ
      rw [F_X12_goesTo_37.eq_1]
      refine pt_if (fun _ => fin τ f (fun j hj jb => ?_)) (fun w => absurd (Int32.le_iff_toInt_le.mpr (Int.le_refl _)) w)
      rw [hr j hj]
      unfold mvN
      rw [if_neg jb]
      by_cases w2 : a ≤ j ∧ j < i
      · rw [if_pos w2, if_pos w2]
      · rw [if_neg w2, if_neg w2, if_neg (by omega)]
    · have ia : i = a := by omega
      subst ia
      refine pt_lp (fun x : Int32 × zS => FO_ σ x.2 ∧ ∃ c, (x.1 = nI c ∧ b ≤ c ∧ c ≤ i) ∧ ∀ j, j < n → x.2.1 219 (33 + j) = nI (if c < j ∧ j ≤ i then o (j - 1) else o j)) (fun again2 x hJ ih2 => ?_) N _ ⟨f, i, ⟨rfl, by omega, Nat.le_refl _⟩, fun j hj => by rw [if_neg (by omega)]; exact (hr j hj).trans (by rw [if_neg (by omega)])⟩
      obtain ⟨y2, φ⟩ := x
      obtain ⟨g, c, ⟨ec, hc1, hc2⟩, hs⟩ := hJ
      have g : FO_ σ φ := g
      have ec : y2 = nI c := ec
      subst ec
      have hs : ∀ j, j < n → φ.1 219 (33 + j) = nI (if c < j ∧ j ≤ i then o (j - 1) else o j) := hs
      have Rp : RF φ.2.2 := by rw [g.1.1]; exact hR
      rw [F_X12_goesTo_37.eq_1]
      refine pt_if (fun w => fin φ g (fun j hj jb => ?_)) (fun w => ?_)
      · rw [nlt (by omega) (by omega)] at w
        have cb : c = b := by omega
        subst cb
        rw [hs j hj]
        unfold mvN
        rw [if_neg jb, if_neg (show ¬ (i ≤ j ∧ j < c) by omega)]
      · rw [nlt (by omega) (by omega)] at w
        refine pt_gR (v := 219) (Rp 218 1 rfl) (pt_gR (v := 219) (Rp 218 1 rfl) (pt_aI ?_))
        rw [n33, show (1 : Int32) = nI 1 from rfl, nI_sub (c := 33 + (c - 1)) (by omega), show nI 1 = (1 : Int32) from rfl, iN (m := 33 + (c - 1)) (by omega), hs (c - 1) (by omega), if_neg (by omega)]
        refine pt_s14x (fun ψ a1 b1 c1 => ?_)
        rw [iN (m := 33 + c) (by omega)] at a1
        rw [nI_p (by omega)]
        refine ih2 (nI (c - 1), ψ) ⟨FO_s g a1 b1 c1, c - 1, ⟨rfl, by omega, by omega⟩, fun j hj => ?_⟩
        show ψ.1 219 (33 + j) = _
        rw [a1, upd_i]
        by_cases w1 : j = c
        · rw [if_pos (by omega), if_pos (by omega), w1]
        · rw [if_neg (by omega), hs j hj]
          by_cases w2 : c < j ∧ j ≤ i
          · rw [if_pos w2, if_pos (by omega)]
          · rw [if_neg w2, if_neg (by omega)]
  · rw [nlt (by omega) (by omega)] at z
    refine pt_gR (v := 219) (Rt 218 1 rfl) (pt_gR (v := 219) (Rt 218 1 rfl) (pt_aI ?_))
    rw [n33, nI_m1 (m := 33 + i), iN (m := 33 + i + 1) (by omega), show 33 + i + 1 = 33 + (i + 1) by omega, hr (i + 1) (by omega), if_neg (by omega)]
    refine pt_s14x (fun ψ a1 b1 c1 => ?_)
    rw [iN (m := 33 + i) (by omega)] at a1
    rw [nI_m1]
    refine ih (nI (i + 1), ψ) ⟨FO_s f a1 b1 c1, i + 1, ⟨rfl, by omega, by omega⟩, fun j hj => ?_⟩
    show ψ.1 219 (33 + j) = _
    rw [a1, upd_i]
    by_cases w1 : j = i
    · rw [if_pos (by omega), if_pos (by omega), w1]
    · rw [if_neg (by omega), hr j hj]
      by_cases w2 : a ≤ j ∧ j < i
      · rw [if_pos w2, if_pos (by omega)]
      · rw [if_neg w2, if_neg (by omega)]
end MOV

/-! ===== names, sets, weights ===== -/
/-- a call that leaves the state as it is, and answers so -/
abbrev Px {α : Type} (x : Option (α × zS)) (σ : zS) (Q : α → Prop) : Prop := Pt x (fun r => r.2 = σ ∧ Q r.1)
theorem pt_zbq {α β : Type} {P : β → Prop} {σ : zS} {x : Option (α × zS)} {f : α → zS → Option β} {Q : α → Prop} (hx : Px x σ Q) (h : ∀ v, Q v → Pt (f v σ) P) : Pt (zb x f) P := pt_zbX hx h
section WTS
variable {N B : Nat} {σ : zS} {x1 x2 : Int32}
theorem pt_cpI {β : Type} {P : β → Prop} {k0 k1 : Nat} {f : zS → Option β} (h : ∀ τ : zS, (∀ j, j < 10 → τ.1 k1 j = σ.1 k0 j) → (∀ a, a ≠ k1 → τ.1 a = σ.1 a) → τ.2 = σ.2 → Pt (f τ) P) : Pt (zl (cpI k0 0 k1 0 10 σ) f) P := fun a e => by
  obtain ⟨w, h1, h2⟩ := zl_some e
  obtain ⟨_, rfl⟩ := zguard h1
  refine h (zI σ k1 (va_cpy (σ.1 k0) (σ.1 k1) (Int32.toNatClampNeg 0) (Int32.toNatClampNeg 0) (Int32.toNatClampNeg 10))) (fun j hj => ?_) (fun a ha => zI_n ha) rfl a h2
  rw [zI_s]
  show (if 0 ≤ j ∧ j < 0 + 10 then σ.1 k0 (0 + (j - 0)) else σ.1 k1 j) = _
  rw [if_pos ⟨Nat.zero_le _, by omega⟩, show 0 + (j - 0) = j by omega]
theorem vl_isName (h4 : σ.2.2 0 4 = B) : Px (f_X11_isName N 0 x1 σ) σ (fun v => ((v = 0 → ¬ (0 ≤ x1.toInt ∧ x1.toInt < (σ.1 B 0).toInt)) ∧ (¬ v = 0 → 0 ≤ x1.toInt ∧ x1.toInt < (σ.1 B 0).toInt))) := by
  rw [f_X11_isName.eq_1]
  refine pt_if (fun q => pt_rZ ⟨rfl, fun _ => ?_, fun z => absurd rfl z⟩) (fun q => pt_gR (v := B) h4 (pt_gI (pt_if (fun q2 => pt_rZ ⟨rfl, fun _ => ?_, fun z => absurd rfl z⟩) (fun q2 => pt_rZ ⟨rfl, fun z => absurd (show (1 : Int32) = 0 from z) (by decide), fun _ => ?_⟩))))
  · rw [Int32.lt_iff_toInt_lt] at q; simp only [Int32.reduceToInt] at q; omega
  · rw [Int32.le_iff_toInt_le] at q2; omega
  · rw [Int32.lt_iff_toInt_lt] at q; rw [Int32.le_iff_toInt_le] at q2; simp only [Int32.reduceToInt] at q; omega
/-- a set of the names -/
def isS (m x : Int32) : Prop := 0 < m.toInt ∧ 0 ≤ x.toInt ∧ x.toInt < ((1 : Int32) <<< (m &&& 31)).toInt
theorem vl_isSet (h4 : σ.2.2 0 4 = B) : Px (f_X11_isSet N 0 x1 σ) σ (fun v => ((v = 0 → ¬ isS (σ.1 B 0) x1) ∧ (¬ v = 0 → isS (σ.1 B 0) x1))) := by
  unfold isS
  rw [f_X11_isSet.eq_1]
  refine pt_gC (pt_zbX (σ := σ) (Q := fun v => (v = 0 → (σ.1 B 0).toInt ≤ 0) ∧ (¬ v = 0 → 0 < (σ.1 B 0).toInt)) ?_ (fun v hv => ?_))
  · rw [f_X11_isWorld.eq_1]
    refine pt_gR (v := B) h4 (pt_gI (pt_if (fun q => pt_rZ ⟨rfl, fun _ => ?_, fun z => absurd rfl z⟩) (fun q => pt_rZ ⟨rfl, fun z => absurd (show (1 : Int32) = 0 from z) (by decide), fun _ => ?_⟩)))
    · rw [Int32.le_iff_toInt_le] at q; simpa using q
    · rw [Int32.le_iff_toInt_le] at q; simp only [Int32.reduceToInt] at q; omega
  · refine pt_if (fun q => pt_rZ ⟨rfl, fun _ z => ?_, fun z => absurd rfl z⟩) (fun q => pt_if (fun q2 => pt_rZ ⟨rfl, fun _ => ?_, fun z => absurd rfl z⟩) (fun q2 => pt_gR (v := B) h4 (pt_gI (pt_if (fun q3 => pt_rZ ⟨rfl, fun _ => ?_, fun z => absurd rfl z⟩) (fun q3 => pt_rZ ⟨rfl, fun z => absurd (show (1 : Int32) = 0 from z) (by decide), fun _ => ?_⟩)))))
    · have := hv.1 q; have := z.1; omega
    · rw [Int32.lt_iff_toInt_lt] at q2; simp only [Int32.reduceToInt] at q2; omega
    · rw [Int32.le_iff_toInt_le] at q3; omega
    · rw [Int32.lt_iff_toInt_lt] at q2; rw [Int32.le_iff_toInt_le] at q3; simp only [Int32.reduceToInt] at q2; have := hv.2 q; omega
theorem vr_in {a b c : Int64} : Px (f_X12_in N a b c σ) σ (fun v => ((v = 0 → ¬ (b.toInt ≤ a.toInt ∧ a.toInt ≤ c.toInt)) ∧ (¬ v = 0 → b.toInt ≤ a.toInt ∧ a.toInt ≤ c.toInt))) := by
  rw [f_X12_in.eq_1]
  refine pt_if (fun q => pt_rZ ⟨rfl, fun _ => ?_, fun z => absurd rfl z⟩) (fun q => pt_if (fun q2 => pt_rZ ⟨rfl, fun _ => ?_, fun z => absurd rfl z⟩) (fun q2 => pt_rZ ⟨rfl, fun z => absurd (show (1 : Int32) = 0 from z) (by decide), fun _ => ?_⟩))
  · rw [zcmp_lt] at q; omega
  · rw [zcmp_gt] at q2; omega
  · rw [zcmp_lt] at q; rw [zcmp_gt] at q2; omega
theorem vr_isName (hR : RF σ.2.2) (hn : 0 ≤ (σ.1 219 0).toInt ∧ (σ.1 219 0).toInt ≤ 10) : Px (f_X12_isName N 218 x1 σ) σ (fun v => ((v = 0 → ¬ (0 ≤ x1.toInt ∧ x1.toInt < (σ.1 219 0).toInt)) ∧ (¬ v = 0 → 0 ≤ x1.toInt ∧ x1.toInt < (σ.1 219 0).toInt))) := by
  rw [f_X12_isName.eq_1]
  refine pt_gR (v := 219) (hR 218 1 rfl) (pt_aI ?_)
  have e : (σ.1 219 (Int32.toInt 0).toNat - 1).toInt = (σ.1 219 0).toInt - 1 := by
    show (σ.1 219 0 - 1).toInt = _
    rw [ti_sub]; simp only [Int32.reduceToInt]; omega
  refine pt_zbq vr_in (fun v hv => pt_rZ ⟨rfl, fun z => ?_, fun z => ?_⟩)
  · have := hv.1 z
    rw [i64_of, i64_of, e] at this
    simp only [Int64.reduceToInt] at this
    omega
  · have := hv.2 z
    rw [i64_of, i64_of, e] at this
    simp only [Int64.reduceToInt] at this
    omega
theorem vr_many (hR : RF σ.2.2) : Px (f_X12_many N 218 σ) σ (fun v => v = if 0 < (σ.1 219 0).toInt then (1 : Int32) <<< (σ.1 219 0 &&& 31) else 0) := by
  rw [f_X12_many.eq_1]
  refine pt_gC (pt_zbX (σ := σ) (Q := fun v => (v = 0 → (σ.1 219 0).toInt ≤ 0) ∧ (¬ v = 0 → 0 < (σ.1 219 0).toInt)) (pt_ok (x_X12_isWorld hR)) (fun v hv => ?_))
  refine pt_if (fun q => pt_some ⟨rfl, ?_⟩) (fun q => pt_gR (v := 219) (hR 218 1 rfl) (pt_aI (pt_some ⟨rfl, ?_⟩)))
  · rw [if_neg (by have := hv.1 q; omega)]
  · rw [if_pos (hv.2 q)]; rfl
theorem vr_isSet (hR : RF σ.2.2) (hn : 0 ≤ (σ.1 219 0).toInt ∧ (σ.1 219 0).toInt ≤ 10) : Px (f_X12_isSet N 218 x1 σ) σ (fun v => ((v = 0 → ¬ isS (σ.1 219 0) x1) ∧ (¬ v = 0 → isS (σ.1 219 0) x1))) := by
  unfold isS
  rw [f_X12_isSet.eq_1]
  refine pt_gC (pt_zbq (vr_many hR) (fun v hv => ?_))
  have b := ti_one10 hn.1 hn.2
  by_cases h0 : 0 < (σ.1 219 0).toInt
  · rw [if_pos h0] at hv
    have e : (v - 1).toInt = ((1 : Int32) <<< (σ.1 219 0 &&& 31)).toInt - 1 := by
      rw [hv, ti_sub]; simp only [Int32.reduceToInt]; omega
    refine pt_zbq vr_in (fun w hw => pt_rZ ⟨rfl, fun z => ?_, fun z => ?_⟩)
    · have := hw.1 z
      rw [i64_of, i64_of, e] at this
      simp only [Int64.reduceToInt] at this
      omega
    · have := hw.2 z
      rw [i64_of, i64_of, e] at this
      simp only [Int64.reduceToInt] at this
      omega
  · rw [if_neg h0] at hv
    refine pt_zbq vr_in (fun w hw => pt_rZ ⟨rfl, fun z q => h0 q.1, fun z => ?_⟩)
    have := hw.2 z
    rw [i64_of, i64_of, hv] at this
    have e : ((0 : Int32) - 1).toInt = -1 := by decide
    rw [e] at this
    simp only [Int64.reduceToInt] at this
    omega
/-- the weights of the first k names of a set -/
def ws (f : Nat → Int32) (x : Int32) : Nat → Int32
  | 0 => 0
  | k + 1 => ws f x k + (if ((x >>> (nI k &&& 31)) &&& 1) = 0 then 0 else f k)
theorem ws_c {f g : Nat → Int32} {x : Int32} : ∀ {k : Nat}, (∀ j, j < k → f j = g j) → ws f x k = ws g x k
  | 0, _ => rfl
  | k + 1, h => by
    show ws f x k + _ = ws g x k + _
    rw [ws_c (fun j hj => h j (by omega)), h k (by omega)]
theorem ws_z {f : Nat → Int32} {x : Int32} {n : Nat} (h0 : 0 ≤ x.toInt) (h1 : x.toInt < ((2 ^ n : Nat) : Int)) : ∀ {k : Nat}, n ≤ k → k ≤ 31 → ws f x k = ws f x n
  | 0, h, _ => by rw [show n = 0 by omega]
  | k + 1, h, hk => by
    by_cases e : n = k + 1
    · rw [e]
    · show ws f x k + _ = _
      rw [ws_z h0 h1 (show n ≤ k by omega) (by omega)]
      have z : (x >>> (nI k &&& 31)) = 0 := by
        apply Int32.toInt_inj.mp
        have := ti_shr x (n := k) (by omega)
        rw [show nI k = Int32.ofNat k from rfl, this]
        have p : 2 ^ n ≤ 2 ^ k := Nat.pow_le_pow_right (by decide) (by omega)
        rw [Int.ediv_eq_zero_of_lt h0 (by omega)]; rfl
      rw [z]
      have : ((0 : Int32) &&& 1) = 0 := by decide
      rw [if_pos this]
      exact Int32.add_zero _
theorem vl_load (hB : B = 2 ∨ B = 28) (hR : RF σ.2.2) (hn : 0 ≤ (σ.1 B 0).toInt ∧ (σ.1 B 0).toInt ≤ 10) : Px (f_X10_load N B x1 σ) σ (fun v => v = ws (σ.1 (B + 3)) x1 (σ.1 B 0).toInt.toNat) := by
  rw [f_X10_load.eq_1]
  refine pt_lp (fun s : Int32 × Int32 × zS => s.2.2 = σ ∧ (0 ≤ s.2.1.toInt ∧ s.2.1.toInt ≤ (σ.1 B 0).toInt) ∧ s.1 = ws (σ.1 (B + 3)) x1 s.2.1.toInt.toNat) (fun again s hI ih => ?_) N _ ⟨rfl, (by show 0 ≤ (0 : Int32).toInt ∧ (0 : Int32).toInt ≤ _; simp only [Int32.reduceToInt]; omega), rfl⟩
  obtain ⟨x2, x3, τ⟩ := s
  obtain ⟨e, hb, hw⟩ := hI
  have e : τ = σ := e
  subst e
  have hb : 0 ≤ x3.toInt ∧ x3.toInt ≤ (τ.1 B 0).toInt := hb
  have hw : x2 = ws (τ.1 (B + 3)) x1 x3.toInt.toNat := hw
  rw [F_X10_load_4.eq_1]
  have fin : x3.toInt = (τ.1 B 0).toInt → Pt (some (x2, τ)) (fun r => r.2 = τ ∧ r.1 = ws (τ.1 (B + 3)) x1 (τ.1 B 0).toInt.toNat) := fun z => pt_some ⟨rfl, by rw [← z]; exact hw⟩
  refine pt_gI (pt_if (fun q => fin (by rw [Int32.le_iff_toInt_le] at q; omega)) (fun q => pt_if (fun q2 => fin (by rw [Int32.le_iff_toInt_le] at q2; simp only [Int32.reduceToInt] at q2; omega)) (fun q2 => ?_)))
  rw [Int32.le_iff_toInt_le] at q
  have hw1 : 0 ≤ x3.toInt ∧ x3.toInt ≤ 100000 := by omega
  have hb1 : 0 ≤ (x3 + 1).toInt ∧ (x3 + 1).toInt ≤ (τ.1 B 0).toInt := by rw [a1_ hw1]; omega
  obtain ⟨m, hm, rfl⟩ := znI (x := x3) (m := 10) hb.1 (by omega)
  have em : (nI m).toInt = (m : Int) := nI_toInt (by omega)
  have es : (nI m + 1).toInt.toNat = m + 1 := by rw [a1_ hw1, em]; omega
  rw [em, Int.toNat_natCast] at hw
  refine pt_if (fun z => ih (x2, nI m + 1, τ) ⟨rfl, hb1, ?_⟩) (fun z => pt_gR (v := B + 3) (rB hB hR).2.2.1 (pt_aI (ih (_, nI m + 1, τ) ⟨rfl, hb1, ?_⟩)))
  · show x2 = ws _ _ (nI m + 1).toInt.toNat
    rw [es]
    show x2 = ws _ _ m + _
    rw [if_pos z, ← hw]; exact (Int32.add_zero _).symm
  · show x2 + _ = ws _ _ (nI m + 1).toInt.toNat
    rw [es, em, Int.toNat_natCast]
    show _ = ws _ _ m + _
    rw [if_neg z, ← hw]
theorem vr_weightOf (hR : RF σ.2.2) : Px (f_X12_weightOf N 218 x1 σ) σ (fun v => v = ws (fun j => σ.1 219 (3 + j)) x1 10) := by
  rw [f_X12_weightOf.eq_1]
  refine pt_lp (fun s : Int32 × Int32 × zS => s.2.2 = σ ∧ (0 ≤ s.2.1.toInt ∧ s.2.1.toInt ≤ 10) ∧ s.1 = ws (fun j => σ.1 219 (3 + j)) x1 s.2.1.toInt.toNat) (fun again s hI ih => ?_) N _ ⟨rfl, (by decide : 0 ≤ (0 : Int32).toInt ∧ (0 : Int32).toInt ≤ 10), rfl⟩
  obtain ⟨x2, x3, τ⟩ := s
  obtain ⟨e, hb, hw⟩ := hI
  have e : τ = σ := e
  subst e
  have hb : 0 ≤ x3.toInt ∧ x3.toInt ≤ 10 := hb
  have hw : x2 = ws (fun j => τ.1 219 (3 + j)) x1 x3.toInt.toNat := hw
  rw [F_X12_weightOf_4.eq_1]
  refine pt_if (fun q => pt_some ⟨rfl, ?_⟩) (fun q => ?_)
  · rw [Int32.le_iff_toInt_le] at q
    simp only [Int32.reduceToInt] at q
    show x2 = _
    rw [hw, show x3.toInt.toNat = 10 by omega]
  · rw [Int32.le_iff_toInt_le] at q
    simp only [Int32.reduceToInt] at q
    have hw1 : 0 ≤ x3.toInt ∧ x3.toInt ≤ 100000 := by omega
    have hb1 : 0 ≤ (x3 + 1).toInt ∧ (x3 + 1).toInt ≤ 10 := by rw [a1_ hw1]; omega
    have h3 : (3 + x3).toInt = 3 + x3.toInt := a3_ hw1
    refine pt_gR (v := 219) (hR 218 1 rfl) (pt_aI ?_)
    rw [h3]
    clear h3
    obtain ⟨m, hm, rfl⟩ := znI (x := x3) (m := 10) hb.1 (by omega)
    have em : (nI m).toInt = (m : Int) := nI_toInt (by omega)
    have es : (nI m + 1).toInt.toNat = m + 1 := by rw [a1_ hw1, em]; omega
    rw [em, Int.toNat_natCast] at hw
    rw [em, show (3 + (m : Int)).toNat = 3 + m by omega]
    refine ih (_, nI m + 1, τ) ⟨rfl, hb1, ?_⟩
    show x2 + _ = ws _ _ (nI m + 1).toInt.toNat
    rw [es]
    show _ = ws _ _ m + _
    rw [← hw]
    by_cases z : ((x1 >>> (nI m &&& 31)) &&& 1) = 0
    · rw [if_pos z, z]
      congr 1
      exact Int32.zero_mul
    · rw [if_neg z, bit01 z]
      congr 1
      exact Int32.one_mul _
/-- what weight answers -/
def wtV (m : Int32) (f : Nat → Int32) (x : Int32) (v : Int32) : Prop := (isS m x → v = ws f x m.toInt.toNat) ∧ (¬ isS m x → v = -2)
theorem vl_weight_ (hB : B = 2 ∨ B = 28) (hR : RF σ.2.2) (h4 : σ.2.2 0 4 = B) (hn : 0 ≤ (σ.1 B 0).toInt ∧ (σ.1 B 0).toInt ≤ 10) : Pt (f_X11_weight N 0 x1 σ) (fun r => wtV (σ.1 B 0) (σ.1 (B + 3)) x1 r.1) := by
  rw [f_X11_weight.eq_1]
  refine pt_gC (pt_zbq (vl_isSet h4) (fun v hv => ?_))
  refine pt_if (fun q => pt_some ⟨fun z => absurd z (hv.1 q), fun _ => rfl⟩) (fun q => pt_gR (v := B) h4 (pt_gC (pt_zbq (vl_load hB hR hn) (fun w hw => pt_some ⟨fun _ => hw, fun z => absurd (hv.2 q) z⟩))))
theorem vr_weight_ (hR : RF σ.2.2) (hn : 0 ≤ (σ.1 219 0).toInt ∧ (σ.1 219 0).toInt ≤ 10) : Pt (f_X12_weight N 218 x1 σ) (fun r => wtV (σ.1 219 0) (fun j => σ.1 219 (3 + j)) x1 r.1) := by
  rw [f_X12_weight.eq_1]
  refine pt_gC (pt_zbq (vr_isSet hR hn) (fun v hv => ?_))
  refine pt_if (fun q => pt_some ⟨fun z => absurd z (hv.1 q), fun _ => rfl⟩) (fun q => pt_gC (pt_zbq (vr_weightOf hR) (fun w hw => pt_some ⟨fun z => ?_, fun z => absurd (hv.2 q) z⟩)))
  have z2 := z.2.2
  rw [ti_one hn.1 (by omega)] at z2
  exact hw.trans (ws_z z.2.1 z2 (by omega) (by decide))
theorem wtV_eq {m v w : Int32} {f g : Nat → Int32} (h1 : wtV m f x1 v) (h2 : wtV m g x1 w) (hn : m.toInt ≤ 10) (e : ¬ m = 0 → ∀ j, j < 10 → f j = g j) : v = w := by
  by_cases q : isS m x1
  · rw [h1.1 q, h2.1 q]
    have nz : ¬ m = 0 := fun z => by have := q.1; rw [z] at this; exact absurd this (by decide)
    exact ws_c (fun j hj => e nz j (by omega))
  · rw [h1.2 q, h2.2 q]
/-- weigh -/
def wgOK (m x y : Int32) : Prop := (0 ≤ x.toInt ∧ x.toInt < m.toInt) ∧ 0 ≤ y.toInt ∧ y.toInt ≤ 99
theorem vl_weigh_ (hB : B = 2 ∨ B = 28) (hR : RF σ.2.2) (h4 : σ.2.2 0 4 = B) : Pt (f_X11_weigh N 0 x1 x2 σ) (fun r => (wgOK (σ.1 B 0) x1 x2 → r.1 = σ.1 (B + 3) x1.toInt.toNat ∧ r.2.1 (B + 3) = upd (σ.1 (B + 3)) x1.toInt.toNat x2) ∧ (¬ wgOK (σ.1 B 0) x1 x2 → r.1 = -2 ∧ r.2.1 (B + 3) = σ.1 (B + 3))) := by
  rw [f_X11_weigh.eq_1]
  refine pt_gC (pt_zbq (vl_isName h4) (fun v hv => ?_))
  refine pt_if (fun q => pt_some ⟨fun z => absurd z.1 (hv.1 q), fun _ => ⟨rfl, rfl⟩⟩) (fun q => pt_if (fun q2 => pt_some ⟨fun z => ?_, fun _ => ⟨rfl, rfl⟩⟩) (fun q2 => pt_if (fun q3 => ?_) (fun q3 => pt_some ⟨fun z => ?_, fun _ => ⟨rfl, rfl⟩⟩)))
  · rw [Int32.lt_iff_toInt_lt] at q2; simp only [Int32.reduceToInt] at q2; have := z.2; omega
  · have r5 := (rB hB hR).2.2.1
    refine pt_gR (v := B) h4 (pt_gR (v := B + 3) r5 (pt_aI (pt_gR (v := B) h4 (pt_gR (v := B + 3) r5 (pt_s14 (pt_some ⟨fun _ => ⟨rfl, zI_s⟩, fun z => absurd ?_ z⟩))))))
    rw [Int32.lt_iff_toInt_lt] at q2
    rw [Int32.le_iff_toInt_le] at q3
    simp only [Int32.reduceToInt] at q2 q3
    exact ⟨hv.2 q, by omega, by omega⟩
  · rw [Int32.le_iff_toInt_le] at q3; simp only [Int32.reduceToInt] at q3; have := z.2; omega
theorem vr_weigh_ (hR : RF σ.2.2) (hn : 0 ≤ (σ.1 219 0).toInt ∧ (σ.1 219 0).toInt ≤ 10) : Pt (f_X12_weigh N 218 x1 x2 σ) (fun r => (wgOK (σ.1 219 0) x1 x2 → r.1 = σ.1 219 (3 + x1.toInt.toNat) ∧ r.2.1 219 = upd (σ.1 219) (3 + x1.toInt.toNat) x2) ∧ (¬ wgOK (σ.1 219 0) x1 x2 → r.1 = -2 ∧ r.2.1 219 = σ.1 219)) := by
  rw [f_X12_weigh.eq_1]
  refine pt_gC (pt_zbq (vr_isName hR hn) (fun v hv => ?_))
  refine pt_if (fun q => pt_some ⟨fun z => absurd z.1 (hv.1 q), fun _ => ⟨rfl, rfl⟩⟩) (fun q => pt_zbq vr_in (fun w hw => ?_))
  rw [i64_of] at hw
  simp only [Int64.reduceToInt] at hw
  have b := hv.2 q
  refine pt_if (fun q2 => pt_some ⟨fun z => absurd z.2 (hw.1 q2), fun _ => ⟨rfl, rfl⟩⟩) (fun q2 => ?_)
  have h3 : (3 + x1).toInt.toNat = 3 + x1.toInt.toNat := by rw [a3_ ⟨b.1, by omega⟩]; omega
  refine pt_gR (v := 219) (hR 218 1 rfl) (pt_aI (pt_gR (v := 219) (hR 218 1 rfl) (pt_s14 (pt_some ⟨fun _ => ?_, fun z => absurd ⟨b, hw.2 q2⟩ z⟩))))
  rw [h3]
  exact ⟨rfl, zI_s⟩
end WTS

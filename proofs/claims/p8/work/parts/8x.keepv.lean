/-! ===== keep and back with families ===== -/
section KEEPV
theorem pt_s {β : Type} {P : β → Prop} {σ : zS} {a c : Nat} {b d n : Int32} {f : zS → Option β} (h : ∀ τ : zS, τ.2 = σ.2 → Pt (f τ) P) : Pt (zl (cpI a b c d n σ) f) P := fun x e => by
  obtain ⟨w, h1, h2⟩ := zl_some e
  obtain ⟨_, rfl⟩ := zguard h1
  exact h (zI σ c _) rfl x h2
variable {N B C : Nat} {σ τ : zS} {x1 : Int32}
/-- all families of B are those of C; no other row of longs is other -/
def CPF (σ τ : zS) (B C : Nat) : Prop := (∀ a, ¬ (B + 6 ≤ a ∧ a < B + 26) → τ.2.1 a = σ.2.1 a) ∧ ∀ p, p < 10 → ∀ u, u < 1024 → bt (τ.2.1 (B + 6 + 2 * p + 1)) u = bt (σ.2.1 (C + 6 + 2 * p + 1)) u
theorem vy_copy86 (hB : isWc B) (hC : isWc C) (hne : B ≠ C) (hR : RF σ.2.2) : Pt (zlp (F_X10_copyFrom_86 N B C) N (0, σ)) (fun r => (r.2.1 = σ.1 ∧ r.2.2.2 = σ.2.2) ∧ CPF σ r.2 B C) := by
  have d := isWc_ne hB hC hne
  refine pt_lp (fun s : Int32 × zS => ∃ m, (s.1 = nI m ∧ m ≤ 10) ∧ (s.2.1 = σ.1 ∧ s.2.2.2 = σ.2.2) ∧ (∀ a, ¬ (B + 6 ≤ a ∧ a < B + 26) → s.2.2.1 a = σ.2.1 a) ∧ ∀ p, p < m → ∀ u, u < 1024 → bt (s.2.2.1 (B + 6 + 2 * p + 1)) u = bt (σ.2.1 (C + 6 + 2 * p + 1)) u) (fun again s hI ih => ?_) N _ ⟨0, ⟨rfl, Nat.zero_le _⟩, ⟨rfl, rfl⟩, fun _ _ => rfl, fun p hp => absurd hp (Nat.not_lt_zero _)⟩
  obtain ⟨x2, τ⟩ := s
  obtain ⟨m, ⟨ex, hm⟩, ⟨e1, e2⟩, ho, hz⟩ := hI
  have ex : x2 = nI m := ex
  subst ex
  have e1 : τ.1 = σ.1 := e1
  have e2 : τ.2.2 = σ.2.2 := e2
  have ho : ∀ a, ¬ (B + 6 ≤ a ∧ a < B + 26) → τ.2.1 a = σ.2.1 a := ho
  have hz : ∀ p, p < m → ∀ u, u < 1024 → bt (τ.2.1 (B + 6 + 2 * p + 1)) u = bt (σ.2.1 (C + 6 + 2 * p + 1)) u := hz
  have R9 : RF τ.2.2 := by rw [e2]; exact hR
  rw [F_X10_copyFrom_86.eq_1]
  refine pt_if (fun q => pt_some ⟨⟨e1, e2⟩, ho, fun p hp => hz p ?_⟩) (fun q => ?_)
  · have q : nI 10 ≤ nI m := q
    rw [nlt (by omega) (by omega)] at q
    omega
  have q : ¬ nI 10 ≤ nI m := q
  rw [nlt (by omega) (by omega)] at q
  have hm9 : m < 10 := by omega
  refine pt_rg2 hB R9 hm9 (pt_rg2 hC R9 hm9 (pt_gC (pt_zb (v_copyFrom R9 (rgW hB R9 hm9).2 (rgW hC R9 hm9).2) (fun _ σ1 h => ?_))))
  obtain ⟨l, z⟩ := h
  have l : LF (B + 6 + 2 * m + 1) τ σ1 := l
  have z : ∀ u, u < 1024 → bt (σ1.2.1 (B + 6 + 2 * m + 1)) u = bt (τ.2.1 (C + 6 + 2 * m + 1)) u := z
  rw [nI_s1 (by omega)]
  refine ih (nI (m + 1), σ1) ⟨m + 1, ⟨rfl, by omega⟩, ⟨?_, ?_⟩, fun a ha => ?_, fun p hp => ?_⟩
  · show σ1.1 = σ.1
    rw [l.1]; exact e1
  · show σ1.2.2 = σ.2.2
    rw [l.2.1]; exact e2
  · show σ1.2.1 a = σ.2.1 a
    rw [l.2.2 a (by omega)]; exact ho a ha
  · intro u hu
    show bt (σ1.2.1 (B + 6 + 2 * p + 1)) u = _
    by_cases e : p = m
    · rw [e, z u hu, ho _ (by omega)]
    · rw [l.2.2 _ (by omega)]; exact hz p (by omega) u hu
theorem vy_copyFrom (hB : isWc B) (hC : isWc C) (hne : B ≠ C) (hR : RF σ.2.2) : Pt (f_X10_copyFrom N B C σ) (fun r => CPF σ r.2 B C) := by
  rw [f_X10_copyFrom.eq_1]
  refine pt_gI (pt_pIx (fun τ1 _ _ c1 => pt_gI (pt_pIx (fun τ2 _ _ c2 => pt_gI (pt_pIx (fun τ3 _ _ c3 => ?_))))))
  have R3 : τ3.2 = σ.2 := by rw [c3, c2, c1]
  refine pt_gR (v := τ3.2.2 C 3) rfl (pt_gR (v := τ3.2.2 B 3) rfl (pt_s (fun τ4 e4 => ?_)))
  refine pt_gR (v := τ4.2.2 C 4) rfl (pt_gR (v := τ4.2.2 B 4) rfl (pt_s (fun τ5 e5 => ?_)))
  refine pt_gR (v := τ5.2.2 C 5) rfl (pt_gR (v := τ5.2.2 B 5) rfl (pt_s (fun τ6 e6 => ?_)))
  refine pt_gR (v := τ6.2.2 C 6) rfl (pt_gR (v := τ6.2.2 B 6) rfl (pt_s (fun τ7 e7 => ?_)))
  have R7 : τ7.2 = σ.2 := by rw [e7, e6, e5, e4, R3]
  refine pt_w (vy_copy86 hB hC hne (by rw [R7]; exact hR)) (fun r h => ?_)
  have := h.2
  unfold CPF at this ⊢
  rw [R7] at this
  exact this
theorem vy_keep (hB : B = 2 ∨ B = 28) (hR : RF σ.2.2) (h4 : σ.2.2 0 4 = B) : Pt (f_X11_keep N 0 x1 σ) (fun r => (0 ≤ x1.toInt ∧ x1.toInt ≤ 2 → CPF σ r.2 (132 + 26 * x1.toInt.toNat) B) ∧ (¬ (0 ≤ x1.toInt ∧ x1.toInt ≤ 2) → r.2.2.1 = σ.2.1)) := by
  have hBw : isWc B := by unfold isWc; omega
  rw [f_X11_keep.eq_1]
  refine pt_if (fun q => pt_some ⟨fun z => ?_, fun _ => rfl⟩) (fun q => pt_if (fun q2 => ?_) (fun q2 => pt_some ⟨fun z => ?_, fun _ => rfl⟩))
  · rw [Int32.lt_iff_toInt_lt] at q; simp only [Int32.reduceToInt] at q; omega
  · rw [Int32.lt_iff_toInt_lt] at q q2
    simp only [Int32.reduceToInt] at q q2
    have hk : x1.toInt.toNat < 3 := by omega
    refine pt_gR (v := 54) (hR 0 6 rfl) (pt_aR ?_)
    rw [rI hR hk]
    refine pt_gR (v := B) h4 (pt_gC (pt_zb (vy_copyFrom (wcI hk) hBw (by omega) hR) (fun _ σ1 h => ?_)))
    refine pt_gR (v := σ1.2.2 0 7) rfl (pt_s16 (pt_some ⟨fun _ => h, fun z => absurd (by omega) z⟩))
  · rw [Int32.lt_iff_toInt_lt] at q2; simp only [Int32.reduceToInt] at q2; omega
theorem vy_back (hB : B = 2 ∨ B = 28) (hR : RF σ.2.2) (h4 : σ.2.2 0 4 = B) : Pt (f_X11_back N 0 x1 σ) (fun r => ((0 ≤ x1.toInt ∧ x1.toInt ≤ 2) ∧ ¬ σ.1 55 x1.toInt.toNat = 0 → CPF σ r.2 B (132 + 26 * x1.toInt.toNat)) ∧ (¬ ((0 ≤ x1.toInt ∧ x1.toInt ≤ 2) ∧ ¬ σ.1 55 x1.toInt.toNat = 0) → r.2.2.1 = σ.2.1)) := by
  have hBw : isWc B := by unfold isWc; omega
  rw [f_X11_back.eq_1]
  refine pt_if (fun q => pt_some ⟨fun z => ?_, fun _ => rfl⟩) (fun q => pt_if (fun q2 => ?_) (fun q2 => pt_some ⟨fun z => ?_, fun _ => rfl⟩))
  · rw [Int32.lt_iff_toInt_lt] at q; simp only [Int32.reduceToInt] at q; omega
  · rw [Int32.lt_iff_toInt_lt] at q q2
    simp only [Int32.reduceToInt] at q q2
    have hk : x1.toInt.toNat < 3 := by omega
    refine pt_gR (v := 55) (hR 0 7 rfl) (pt_aI (pt_if (fun z => pt_some ⟨fun y => absurd z y.2, fun _ => rfl⟩) (fun z => ?_)))
    refine pt_gR (v := B) h4 (pt_gR (v := 54) (hR 0 6 rfl) (pt_aR ?_))
    rw [rI hR hk]
    refine pt_gC (pt_zb (vy_copyFrom hBw (wcI hk) (by omega) hR) (fun _ σ1 h => pt_some ⟨fun _ => h, fun y => absurd ⟨by omega, z⟩ y⟩))
  · rw [Int32.lt_iff_toInt_lt] at q2; simp only [Int32.reduceToInt] at q2; omega
theorem n10240 {k : Nat} : (10240 : Int32) * nI k = nI (10240 * k) := nI_mul 10240 k
theorem vq_keep (hR : RF σ.2.2) (hB : ZB σ.1) : Pt (f_X12_keep N 218 x1 σ) (fun r => r.2.1 220 = σ.1 220 ∧ (0 ≤ x1.toInt ∧ x1.toInt ≤ 2 → (∀ j, j < 10240 → r.2.1 222 (10240 * x1.toInt.toNat + j) = σ.1 220 j) ∧ ∀ k, (k < 10240 * x1.toInt.toNat ∨ 10240 * x1.toInt.toNat + 10240 ≤ k) → r.2.1 222 k = σ.1 222 k) ∧ (¬ (0 ≤ x1.toInt ∧ x1.toInt ≤ 2) → r.2.1 = σ.1)) := by
  rw [f_X12_keep.eq_1]
  refine pt_zbq vr_in (fun v2 hv2 => ?_)
  rw [i64_of] at hv2
  simp only [Int64.reduceToInt] at hv2
  refine pt_if (fun q => pt_some ⟨rfl, fun z => absurd ⟨by omega, by omega⟩ (hv2.1 q), fun _ => rfl⟩) (fun q => ?_)
  have hx := hv2.2 q
  obtain ⟨c, hc, rfl⟩ := znI (x := x1) (m := 3) hx.1 (by omega)
  have ec : (nI c).toInt = (c : Int) := nI_toInt (by omega)
  rw [iN (m := c) (by omega)]
  refine pt_lp (fun s : Int32 × zS => s.2.2 = σ.2 ∧ ∀ a, a ≠ 221 → s.2.1 a = σ.1 a) (fun again s hI ih => ?_) N _ ⟨rfl, fun _ _ => rfl⟩
  obtain ⟨x2, τ⟩ := s
  obtain ⟨e, ho⟩ := hI
  have e : τ.2 = σ.2 := e
  have ho : ∀ a, a ≠ 221 → τ.1 a = σ.1 a := ho
  have R9 : RF τ.2.2 := by rw [e]; exact hR
  rw [F_X12_keep_17.eq_1]
  refine pt_if (fun _ => ?_) (fun _ => ?_)
  · refine pt_lp (fun s : Int32 × zS => ∃ l, (s.1 = nI l ∧ l ≤ 10240) ∧ FG [222] τ s.2 ∧ (∀ j, j < l → s.2.1 222 (10240 * c + j) = σ.1 220 j) ∧ ∀ k, (k < 10240 * c ∨ 10240 * c + 10240 ≤ k) → s.2.1 222 k = σ.1 222 k) (fun again s hI ih => ?_) N _ ⟨0, ⟨rfl, Nat.zero_le _⟩, FG.rf, fun j hj => absurd hj (Nat.not_lt_zero _), fun k _ => congrFun (ho 222 (by decide)) k⟩
    obtain ⟨x2, υ⟩ := s
    obtain ⟨l, ⟨ex, hl⟩, hf, hj, hk⟩ := hI
    have ex : x2 = nI l := ex
    subst ex
    have hf : FG [222] τ υ := hf
    have hj : ∀ j, j < l → υ.1 222 (10240 * c + j) = σ.1 220 j := hj
    have hk : ∀ k, (k < 10240 * c ∨ 10240 * c + 10240 ≤ k) → υ.1 222 k = σ.1 222 k := hk
    have Ru := hf.R R9
    have el : (nI l).toInt = (l : Int) := nI_toInt (by omega)
    have e20 : υ.1 220 = σ.1 220 := (hf.2 220 (by decide)).trans (ho 220 (by decide))
    rw [F_X12_keep_48.eq_1]
    refine pt_if (fun q => ?_) (fun q => ?_)
    · rw [Int32.le_iff_toInt_le, el] at q
      simp only [Int32.reduceToInt] at q
      refine pt_gR (v := 223) (Ru 218 5 rfl) (pt_s16 (pt_some ⟨?_, fun _ => ⟨fun j h => ?_, fun k h => ?_⟩, fun z => absurd ⟨by omega, by omega⟩ z⟩))
      · show (zI υ 223 _).1 220 = _
        rw [zI_n (by decide)]; exact e20
      · show (zI υ 223 _).1 222 _ = _
        rw [zI_n (by decide)]; exact hj j (by omega)
      · show (zI υ 223 _).1 222 k = _
        rw [zI_n (by decide)]; exact hk k h
    · rw [Int32.le_iff_toInt_le, el] at q
      simp only [Int32.reduceToInt] at q
      refine pt_gR (v := 222) (Ru 218 4 rfl) (pt_gR (v := 220) (Ru 218 2 rfl) (pt_aI (pt_s16 ?_)))
      rw [n10240, nI_plus, iNb (m := l) (by omega), iNb (by omega), nI_m1, e20, nrz (hB 220 rfl l)]
      refine ih (nI (l + 1), _) ⟨l + 1, ⟨rfl, by omega⟩, hf.u (by decide), fun j h => ?_, fun k h => ?_⟩
      · show (zI υ 222 _).1 222 _ = _
        rw [zI_s, upd_i]
        by_cases y : j = l
        · rw [if_pos (by omega), y]
        · rw [if_neg (by omega)]; exact hj j (by omega)
      · show (zI υ 222 _).1 222 k = _
        rw [zI_s, upd_n (by omega)]; exact hk k h
  · refine pt_gR (v := 221) (R9 218 3 rfl) (pt_gR (v := 219) (R9 218 1 rfl) (pt_aI (pt_s14x (fun υ _ b d => ih (x2 + 1, υ) ⟨d.trans e, fun a ha => (b a ha).trans (ho a ha)⟩))))
theorem vq_back (hR : RF σ.2.2) (hB : ZB σ.1) : Pt (f_X12_back N 218 x1 σ) (fun r => ((0 ≤ x1.toInt ∧ x1.toInt ≤ 2) ∧ ¬ σ.1 223 x1.toInt.toNat = 0 → r.2.1 222 = σ.1 222 ∧ ∀ j, j < 10240 → r.2.1 220 j = σ.1 222 (10240 * x1.toInt.toNat + j)) ∧ (¬ ((0 ≤ x1.toInt ∧ x1.toInt ≤ 2) ∧ ¬ σ.1 223 x1.toInt.toNat = 0) → r.2.1 = σ.1)) := by
  rw [f_X12_back.eq_1]
  refine pt_zbq vr_in (fun v2 hv2 => ?_)
  rw [i64_of] at hv2
  simp only [Int64.reduceToInt] at hv2
  refine pt_if (fun q => pt_some ⟨fun z => absurd ⟨by omega, by omega⟩ (hv2.1 q), fun _ => rfl⟩) (fun q => ?_)
  have hx := hv2.2 q
  obtain ⟨c, hc, rfl⟩ := znI (x := x1) (m := 3) hx.1 (by omega)
  have ec : (nI c).toInt = (c : Int) := nI_toInt (by omega)
  rw [iN (m := c) (by omega)]
  refine pt_gR (v := 223) (hR 218 5 rfl) (pt_aI ?_)
  rw [iN (m := c) (by omega)]
  refine pt_if (fun z => pt_some ⟨fun y => absurd z y.2, fun _ => rfl⟩) (fun z => ?_)
  refine pt_lp (fun s : Int32 × zS => s.2.2 = σ.2 ∧ ∀ a, a ≠ 219 → s.2.1 a = σ.1 a) (fun again s hI ih => ?_) N _ ⟨rfl, fun _ _ => rfl⟩
  obtain ⟨x2, τ⟩ := s
  obtain ⟨e, ho⟩ := hI
  have e : τ.2 = σ.2 := e
  have ho : ∀ a, a ≠ 219 → τ.1 a = σ.1 a := ho
  have R9 : RF τ.2.2 := by rw [e]; exact hR
  rw [F_X12_back_29.eq_1]
  refine pt_if (fun _ => ?_) (fun _ => ?_)
  · refine pt_lp (fun s : Int32 × zS => ∃ l, (s.1 = nI l ∧ l ≤ 10240) ∧ FG [220] τ s.2 ∧ ∀ j, j < l → s.2.1 220 j = σ.1 222 (10240 * c + j)) (fun again s hI ih => ?_) N _ ⟨0, ⟨rfl, Nat.zero_le _⟩, FG.rf, fun j hj => absurd hj (Nat.not_lt_zero _)⟩
    obtain ⟨x2, υ⟩ := s
    obtain ⟨l, ⟨ex, hl⟩, hf, hj⟩ := hI
    have ex : x2 = nI l := ex
    subst ex
    have hf : FG [220] τ υ := hf
    have hj : ∀ j, j < l → υ.1 220 j = σ.1 222 (10240 * c + j) := hj
    have Ru := hf.R R9
    have el : (nI l).toInt = (l : Int) := nI_toInt (by omega)
    have e22 : υ.1 222 = σ.1 222 := (hf.2 222 (by decide)).trans (ho 222 (by decide))
    rw [F_X12_back_60.eq_1]
    refine pt_if (fun q => ?_) (fun q => ?_)
    · rw [Int32.le_iff_toInt_le, el] at q
      simp only [Int32.reduceToInt] at q
      exact pt_some ⟨fun _ => ⟨e22, fun j h => hj j (by omega)⟩, fun y => absurd ⟨⟨by omega, by omega⟩, z⟩ y⟩
    · rw [Int32.le_iff_toInt_le, el] at q
      simp only [Int32.reduceToInt] at q
      refine pt_gR (v := 220) (Ru 218 2 rfl) (pt_gR (v := 222) (Ru 218 4 rfl) (pt_aI (pt_s16 ?_)))
      rw [n10240, nI_plus, iNb (m := l) (by omega), iNb (by omega), nI_m1, e22, nrz (hB 222 rfl _)]
      refine ih (nI (l + 1), _) ⟨l + 1, ⟨rfl, by omega⟩, hf.u (by decide), fun j h => ?_⟩
      show (zI υ 220 _).1 220 j = _
      rw [zI_s, upd_i]
      by_cases y : j = l
      · rw [if_pos y, y]
      · rw [if_neg y]; exact hj j (by omega)
  · refine pt_gR (v := 219) (R9 218 1 rfl) (pt_gR (v := 221) (R9 218 3 rfl) (pt_aI (pt_s14x (fun υ _ b d => ih (x2 + 1, υ) ⟨d.trans e, fun a ha => (b a ha).trans (ho a ha)⟩))))
end KEEPV

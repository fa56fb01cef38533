/-! ===== images: what is copied ===== -/
section IMG
variable {N B C : Nat} {σ : zS} {x1 x2 : Int32}
/-- a world's cell -/
def isWc (B : Nat) : Prop := B = 2 ∨ B = 28 ∨ B = 132 ∨ B = 158 ∨ B = 184
theorem rW (hB : isWc B) {R : Nat → Nat → Nat} (hR : RF R) : (R B 3 = B + 1 ∧ R B 4 = B + 2 ∧ R B 5 = B + 3 ∧ R B 6 = B + 4) ∧ R B 7 = B + 5 := by
  rcases hB with rfl | rfl | rfl | rfl | rfl
  · exact ⟨⟨hR 2 3 rfl, hR 2 4 rfl, hR 2 5 rfl, hR 2 6 rfl⟩, hR 2 7 rfl⟩
  · exact ⟨⟨hR 28 3 rfl, hR 28 4 rfl, hR 28 5 rfl, hR 28 6 rfl⟩, hR 28 7 rfl⟩
  · exact ⟨⟨hR 132 3 rfl, hR 132 4 rfl, hR 132 5 rfl, hR 132 6 rfl⟩, hR 132 7 rfl⟩
  · exact ⟨⟨hR 158 3 rfl, hR 158 4 rfl, hR 158 5 rfl, hR 158 6 rfl⟩, hR 158 7 rfl⟩
  · exact ⟨⟨hR 184 3 rfl, hR 184 4 rfl, hR 184 5 rfl, hR 184 6 rfl⟩, hR 184 7 rfl⟩
theorem isWc_ne (hB : isWc B) (hC : isWc C) (h : B ≠ C) : B + 25 < C ∨ C + 25 < B := by
  unfold isWc at hB hC
  omega
theorem kW (hB : isWc B) : zKd (B + 5) = (17, 10) := by
  rcases hB with rfl | rfl | rfl | rfl | rfl <;> rfl
theorem zfm : ∀ k ∈ [7, 33, 137, 163, 189], ∀ i, i < 10 → zdyn k i = false ∧ zT k i = k + 1 + 2 * i := by decide +kernel
/-- the register's cell -/
theorem rgW (hB : isWc B) {R : Nat → Nat → Nat} (hR : RF R) {i : Nat} (hi : i < 10) : R (B + 5) i = B + 6 + 2 * i ∧ (zKd (B + 6 + 2 * i)).1 = 2 := by
  have k := kW hB
  have lt : B + 5 < 243 := by unfold isWc at hB; omega
  have z := zfm (B + 5) (by rcases hB with rfl | rfl | rfl | rfl | rfl <;> decide) i hi
  have q := zarF (B + 5) lt (by rw [k]) i (by rw [k]; exact hi)
  have e : zT (B + 5) i = B + 6 + 2 * i := z.2
  rw [e] at q
  exact ⟨(hR _ _ z.1).trans e, q.2⟩
theorem vl_copy86 {P : Unit × zS → Prop} (hN : 1048576 ≤ N) (hB : isWc B) (hC : isWc C) (hR : RF σ.2.2) (hP : ∀ τ : zS, τ.1 = σ.1 → τ.2.2 = σ.2.2 → P ((), τ)) : Pt (zlp (F_X10_copyFrom_86 N B C) N (0, σ)) P := by
  refine pt_lp (fun s : Int32 × zS => s.2.1 = σ.1 ∧ s.2.2.2 = σ.2.2) (fun again s hI ih => ?_) N _ ⟨rfl, rfl⟩
  obtain ⟨x2, τ⟩ := s
  obtain ⟨h1, h2⟩ := hI
  have h1 : τ.1 = σ.1 := h1
  have h2 : τ.2.2 = σ.2.2 := h2
  have R9 : RF τ.2.2 := by rw [h2]; exact hR
  rw [F_X10_copyFrom_86.eq_1]
  refine pt_if (fun _ => pt_some (hP τ h1 h2)) (fun _ => ?_)
  refine pt_gR (v := B + 5) (rW hB R9).2 (pt_aR (pt_gR (v := C + 5) (rW hC R9).2 (pt_aR (pt_gC ?_))))
  rw [f_X2_copyFrom.eq_1]
  refine pt_zb (Q := fun r => r.2.1 = σ.1 ∧ r.2.2.2 = σ.2.2) ?_ (fun _ σ1 h => ih (x2 + 1, σ1) h)
  intro r hr
  obtain ⟨a, _, hr⟩ := zl_some hr
  obtain ⟨b, _, hr⟩ := zl_some hr
  obtain ⟨τ1, h3, hr⟩ := zl_some hr
  obtain ⟨_, e⟩ := zguard h3
  rw [← Option.some.inj hr, ← e]
  exact ⟨h1, h2⟩
theorem vl_copyFrom (hN : 1048576 ≤ N) (hB : isWc B) (hC : isWc C) (hne : B ≠ C) (hR : RF σ.2.2) : Pt (f_X10_copyFrom N B C σ) (fun r => r.2.2.2 = σ.2.2 ∧ ((r.2.1 B 0 = σ.1 C 0 ∧ r.2.1 B 1 = σ.1 C 1 ∧ r.2.1 B 2 = σ.1 C 2) ∧ ∀ a, 1 ≤ a → a ≤ 4 → ∀ j, j < 10 → r.2.1 (B + a) j = σ.1 (C + a) j) ∧ ∀ k, (k < B ∨ B + 4 < k) → r.2.1 k = σ.1 k) := by
  have d := isWc_ne hB hC hne
  have r := (rW hB hR).1
  have q := (rW hC hR).1
  rw [f_X10_copyFrom.eq_1]
  refine pt_gI (pt_pIx (fun τ1 a1 b1 c1 => pt_gI (pt_pIx (fun τ2 a2 b2 c2 => pt_gI (pt_pIx (fun τ3 a3 b3 c3 => ?_))))))
  have R3 : τ3.2 = σ.2 := by rw [c3, c2, c1]
  have e0 : τ3.1 B 0 = σ.1 C 0 := by rw [a3, upd_n (by decide), a2, upd_n (by decide), a1, upd_s]
  have e1 : τ3.1 B 1 = σ.1 C 1 := by rw [a3, upd_n (by decide), a2, upd_s, b1 C (by omega)]
  have e2 : τ3.1 B 2 = σ.1 C 2 := by rw [a3, upd_s, b2 C (by omega), b1 C (by omega)]
  have o3 : ∀ k, k ≠ B → τ3.1 k = σ.1 k := fun k hk => by rw [b3 k hk, b2 k hk, b1 k hk]
  clear a1 a2 a3 b1 b2 b3 c1 c2 c3
  refine pt_gR (v := C + 1) (by rw [R3]; exact q.1) (pt_gR (v := B + 1) (by rw [R3]; exact r.1) (pt_cpI (fun τ4 a4 b4 c4 => ?_)))
  refine pt_gR (v := C + 2) (by rw [c4, R3]; exact q.2.1) (pt_gR (v := B + 2) (by rw [c4, R3]; exact r.2.1) (pt_cpI (fun τ5 a5 b5 c5 => ?_)))
  refine pt_gR (v := C + 3) (by rw [c5, c4, R3]; exact q.2.2.1) (pt_gR (v := B + 3) (by rw [c5, c4, R3]; exact r.2.2.1) (pt_cpI (fun τ6 a6 b6 c6 => ?_)))
  refine pt_gR (v := C + 4) (by rw [c6, c5, c4, R3]; exact q.2.2.2) (pt_gR (v := B + 4) (by rw [c6, c5, c4, R3]; exact r.2.2.2) (pt_cpI (fun τ7 a7 b7 c7 => ?_)))
  have R7 : τ7.2 = σ.2 := by rw [c7, c6, c5, c4, R3]
  refine vl_copy86 hN hB hC (by rw [R7]; exact hR) (fun τ h1 h2 => ⟨by rw [h2, R7], ⟨⟨?_, ?_, ?_⟩, fun a l1 l4 j hj => ?_⟩, fun k hk => ?_⟩)
  · show τ.1 B 0 = _
    rw [h1, b7 _ (by omega), b6 _ (by omega), b5 _ (by omega), b4 _ (by omega)]; exact e0
  · show τ.1 B 1 = _
    rw [h1, b7 _ (by omega), b6 _ (by omega), b5 _ (by omega), b4 _ (by omega)]; exact e1
  · show τ.1 B 2 = _
    rw [h1, b7 _ (by omega), b6 _ (by omega), b5 _ (by omega), b4 _ (by omega)]; exact e2
  · show τ.1 (B + a) j = _
    rw [h1]
    rcases (show a = 1 ∨ a = 2 ∨ a = 3 ∨ a = 4 by omega) with rfl | rfl | rfl | rfl
    · rw [b7 _ (by omega), b6 _ (by omega), b5 _ (by omega), a4 j hj, o3 _ (by omega)]
    · rw [b7 _ (by omega), b6 _ (by omega), a5 j hj, b4 _ (by omega), o3 _ (by omega)]
    · rw [b7 _ (by omega), a6 j hj, b5 _ (by omega), b4 _ (by omega), o3 _ (by omega)]
    · rw [a7 j hj, b6 _ (by omega), b5 _ (by omega), b4 _ (by omega), o3 _ (by omega)]
  · show τ.1 k = _
    rw [h1, b7 _ (by omega), b6 _ (by omega), b5 _ (by omega), b4 _ (by omega), o3 _ (by omega)]
/-- two worlds alike, in ints -/
def CPY (s s' : Nat → Nat → Int32) (B C : Nat) : Prop := (s' B 0 = s C 0 ∧ s' B 1 = s C 1 ∧ s' B 2 = s C 2) ∧ ∀ a, 1 ≤ a → a ≤ 4 → ∀ j, j < 10 → s' (B + a) j = s (C + a) j
theorem rI {R : Nat → Nat → Nat} (hR : RF R) {k : Nat} (hk : k < 3) : R 54 k = 132 + 26 * k := by
  rcases (show k = 0 ∨ k = 1 ∨ k = 2 by omega) with rfl | rfl | rfl
  · exact hR 54 0 rfl
  · exact hR 54 1 rfl
  · exact hR 54 2 rfl
theorem wcI {k : Nat} (hk : k < 3) : isWc (132 + 26 * k) := by unfold isWc; omega
theorem vl_keep_ (hN : 1048576 ≤ N) (hB : B = 2 ∨ B = 28) (hR : RF σ.2.2) (h4 : σ.2.2 0 4 = B) : Pt (f_X11_keep N 0 x1 σ) (fun r => r.2.2.2 = σ.2.2 ∧ (0 ≤ x1.toInt ∧ x1.toInt ≤ 2 → CPY σ.1 r.2.1 (132 + 26 * x1.toInt.toNat) B ∧ ∀ k, (k < 132 + 26 * x1.toInt.toNat ∨ 132 + 26 * x1.toInt.toNat + 4 < k) → k ≠ 55 → r.2.1 k = σ.1 k) ∧ (¬ (0 ≤ x1.toInt ∧ x1.toInt ≤ 2) → r.2.1 = σ.1)) := by
  have hBw : isWc B := by unfold isWc; omega
  rw [f_X11_keep.eq_1]
  refine pt_if (fun q => pt_some ⟨rfl, fun z => ?_, fun _ => rfl⟩) (fun q => pt_if (fun q2 => ?_) (fun q2 => pt_some ⟨rfl, fun z => ?_, fun _ => rfl⟩))
  · rw [Int32.lt_iff_toInt_lt] at q; simp only [Int32.reduceToInt] at q; omega
  · rw [Int32.lt_iff_toInt_lt] at q q2
    simp only [Int32.reduceToInt] at q q2
    have hk : x1.toInt.toNat < 3 := by omega
    refine pt_gR (v := 54) (hR 0 6 rfl) (pt_aR ?_)
    rw [rI hR hk]
    refine pt_gR (v := B) h4 (pt_gC (pt_zb (vl_copyFrom hN (wcI hk) hBw (by omega) hR) (fun _ σ1 h => ?_)))
    obtain ⟨h1, h2, h3⟩ := h
    have h1 : σ1.2.2 = σ.2.2 := h1
    refine pt_gR (v := 55) (by rw [h1]; exact hR 0 7 rfl) (pt_s16 (pt_some ⟨h1, fun _ => ⟨?_, fun k hk' h55 => ?_⟩, fun z => absurd (by omega) z⟩))
    · have o : ∀ a, a ≤ 4 → (zI σ1 55 (upd (σ1.1 55) x1.toInt.toNat (vp_nar .boolean 1))).1 (132 + 26 * x1.toInt.toNat + a) = σ1.1 (132 + 26 * x1.toInt.toNat + a) := fun a _ => zI_n (by omega)
      have o0 := o 0 (by decide)
      rw [Nat.add_zero] at o0
      unfold CPY
      refine ⟨?_, fun a l1 l4 j hj => ?_⟩
      · show (zI σ1 55 _).1 _ 0 = _ ∧ (zI σ1 55 _).1 _ 1 = _ ∧ (zI σ1 55 _).1 _ 2 = _
        rw [o0]; exact h2.1
      · show (zI σ1 55 _).1 _ j = _
        rw [o a l4]; exact h2.2 a l1 l4 j hj
    · show (zI σ1 55 _).1 k = _
      rw [zI_n h55]; exact h3 k hk'
  · rw [Int32.lt_iff_toInt_lt] at q2; simp only [Int32.reduceToInt] at q2; omega
theorem vl_back_ (hN : 1048576 ≤ N) (hB : B = 2 ∨ B = 28) (hR : RF σ.2.2) (h4 : σ.2.2 0 4 = B) : Pt (f_X11_back N 0 x1 σ) (fun r => r.2.2.2 = σ.2.2 ∧ ((0 ≤ x1.toInt ∧ x1.toInt ≤ 2) ∧ ¬ σ.1 55 x1.toInt.toNat = 0 → CPY σ.1 r.2.1 B (132 + 26 * x1.toInt.toNat) ∧ ∀ k, (k < B ∨ B + 4 < k) → r.2.1 k = σ.1 k) ∧ (¬ ((0 ≤ x1.toInt ∧ x1.toInt ≤ 2) ∧ ¬ σ.1 55 x1.toInt.toNat = 0) → r.2.1 = σ.1)) := by
  have hBw : isWc B := by unfold isWc; omega
  rw [f_X11_back.eq_1]
  refine pt_if (fun q => pt_some ⟨rfl, fun z => ?_, fun _ => rfl⟩) (fun q => pt_if (fun q2 => ?_) (fun q2 => pt_some ⟨rfl, fun z => ?_, fun _ => rfl⟩))
  · rw [Int32.lt_iff_toInt_lt] at q; simp only [Int32.reduceToInt] at q; omega
  · rw [Int32.lt_iff_toInt_lt] at q q2
    simp only [Int32.reduceToInt] at q q2
    have hk : x1.toInt.toNat < 3 := by omega
    refine pt_gR (v := 55) (hR 0 7 rfl) (pt_aI (pt_if (fun z => pt_some ⟨rfl, fun y => absurd z y.2, fun _ => rfl⟩) (fun z => ?_)))
    refine pt_gR (v := B) h4 (pt_gR (v := 54) (hR 0 6 rfl) (pt_aR ?_))
    rw [rI hR hk]
    refine pt_gC (pt_zb (vl_copyFrom hN hBw (wcI hk) (by omega) hR) (fun _ σ1 h => pt_some ⟨h.1, fun _ => ⟨h.2.1, h.2.2⟩, fun y => absurd ⟨by omega, z⟩ y⟩))
  · rw [Int32.lt_iff_toInt_lt] at q2; simp only [Int32.reduceToInt] at q2; omega
theorem i43n {x y : Int32} (hx : 0 ≤ x.toInt ∧ x.toInt ≤ 2) (hy : 0 ≤ y.toInt ∧ y.toInt < 43) : (43 * x + y).toInt.toNat = 43 * x.toInt.toNat + y.toInt.toNat := by
  have m : (43 * x).toInt = 43 * x.toInt := by
    rw [ti_mul]
    simp only [Int32.reduceToInt]
    rcases (show x.toInt = 0 ∨ x.toInt = 1 ∨ x.toInt = 2 by omega) with h | h | h <;> rw [h] <;> decide
  rw [ti_add, m]
  generalize x.toInt = a at *
  generalize y.toInt = b at *
  rcases (show a = 0 ∨ a = 1 ∨ a = 2 by omega) with rfl | rfl | rfl <;> omega
theorem vr_k48 {P : Int32 × zS → Prop} (hR : RF σ.2.2) (hP : ∀ τ : zS, (∀ k, k ≠ 222 → k ≠ 223 → τ.1 k = σ.1 k) → P (0, τ)) : Pt (zlp (F_X12_keep_48 N 218 x1) N (0, σ)) P := by
  refine pt_lp (fun s : Int32 × zS => s.2.2.2 = σ.2.2 ∧ ∀ k, k ≠ 222 → s.2.1 k = σ.1 k) (fun again s hI ih => ?_) N _ ⟨rfl, fun _ _ => rfl⟩
  obtain ⟨x2, τ⟩ := s
  obtain ⟨h2, ho⟩ := hI
  have h2 : τ.2.2 = σ.2.2 := h2
  have ho : ∀ k, k ≠ 222 → τ.1 k = σ.1 k := ho
  have R9 : RF τ.2.2 := by rw [h2]; exact hR
  rw [F_X12_keep_48.eq_1]
  refine pt_if (fun _ => pt_gR (v := 223) (R9 218 5 rfl) (pt_s16 (pt_some (hP _ (fun k q q3 => (zI_n q3).trans (ho k q)))))) (fun _ => ?_)
  refine pt_gR (v := 222) (R9 218 4 rfl) (pt_gR (v := 220) (R9 218 2 rfl) (pt_aI (pt_s16 (ih (x2 + 1, _) ⟨h2, fun k hk => (zI_n hk).trans (ho k hk)⟩))))
theorem vr_keep_ (hR : RF σ.2.2) : Pt (f_X12_keep N 218 x1 σ) (fun r => (0 ≤ x1.toInt ∧ x1.toInt ≤ 2 → (∀ j, j < 43 → r.2.1 221 (43 * x1.toInt.toNat + j) = σ.1 219 j) ∧ ∀ k, (k < 43 * x1.toInt.toNat ∨ 43 * x1.toInt.toNat + 43 ≤ k) → r.2.1 221 k = σ.1 221 k) ∧ (¬ (0 ≤ x1.toInt ∧ x1.toInt ≤ 2) → r.2.1 = σ.1)) := by
  rw [f_X12_keep.eq_1]
  refine pt_zbq vr_in (fun v hv => ?_)
  rw [i64_of] at hv
  simp only [Int64.reduceToInt] at hv
  refine pt_if (fun q => pt_some ⟨fun z => absurd z (hv.1 q), fun _ => rfl⟩) (fun q => ?_)
  have hx := hv.2 q
  refine pt_lp (fun s : Int32 × zS => (0 ≤ s.1.toInt ∧ s.1.toInt ≤ 43) ∧ s.2.2.2 = σ.2.2 ∧ s.2.1 219 = σ.1 219 ∧ ∀ k, s.2.1 221 k = if 43 * x1.toInt.toNat ≤ k ∧ k < 43 * x1.toInt.toNat + s.1.toInt.toNat then σ.1 219 (k - 43 * x1.toInt.toNat) else σ.1 221 k) (fun again s hI ih => ?_) N _ ⟨(by decide : 0 ≤ (0 : Int32).toInt ∧ (0 : Int32).toInt ≤ 43), rfl, rfl, fun k => by rw [if_neg (by simp only [Int32.reduceToInt]; omega)]⟩
  obtain ⟨x2, τ⟩ := s
  obtain ⟨hb, h2, h9, hk⟩ := hI
  have hb : 0 ≤ x2.toInt ∧ x2.toInt ≤ 43 := hb
  have h2 : τ.2.2 = σ.2.2 := h2
  have h9 : τ.1 219 = σ.1 219 := h9
  have hk : ∀ k, τ.1 221 k = if 43 * x1.toInt.toNat ≤ k ∧ k < 43 * x1.toInt.toNat + x2.toInt.toNat then σ.1 219 (k - 43 * x1.toInt.toNat) else σ.1 221 k := hk
  have R9 : RF τ.2.2 := by rw [h2]; exact hR
  rw [F_X12_keep_17.eq_1]
  refine pt_if (fun z => vr_k48 R9 (fun υ ho => ⟨fun _ => ⟨fun j hj => ?_, fun k hk' => ?_⟩, fun y => absurd hx y⟩)) (fun z => ?_)
  · rw [Int32.le_iff_toInt_le] at z
    simp only [Int32.reduceToInt] at z
    show υ.1 221 _ = _
    rw [ho 221 (by decide) (by decide), hk, if_pos (by omega), show 43 * x1.toInt.toNat + j - 43 * x1.toInt.toNat = j by omega]
  · rw [Int32.le_iff_toInt_le] at z
    simp only [Int32.reduceToInt] at z
    show υ.1 221 _ = _
    rw [ho 221 (by decide) (by decide), hk, if_neg (by omega)]
  · rw [Int32.le_iff_toInt_le] at z
    simp only [Int32.reduceToInt] at z
    have hw : 0 ≤ x2.toInt ∧ x2.toInt ≤ 100000 := by omega
    have hb1 : 0 ≤ (x2 + 1).toInt ∧ (x2 + 1).toInt ≤ 43 := by rw [a1_ hw]; omega
    have ix := i43n (x := x1) (y := x2) hx (by omega)
    refine pt_gR (v := 221) (R9 218 3 rfl) (pt_gR (v := 219) (R9 218 1 rfl) (pt_aI (pt_s14 ?_)))
    rw [ix, h9]
    refine ih (x2 + 1, _) ⟨hb1, h2, (zI_n (by decide)).trans h9, fun k => ?_⟩
    show (zI τ 221 _).1 221 k = if 43 * x1.toInt.toNat ≤ k ∧ k < 43 * x1.toInt.toNat + (x2 + 1).toInt.toNat then _ else _
    rw [zI_s, upd_i, hk k, a1_ hw]
    clear hb1 ix
    by_cases e : k = 43 * x1.toInt.toNat + x2.toInt.toNat
    · rw [if_pos e, if_pos (by omega), show k - 43 * x1.toInt.toNat = x2.toInt.toNat by omega]
    · rw [if_neg e]
      by_cases f : 43 * x1.toInt.toNat ≤ k ∧ k < 43 * x1.toInt.toNat + x2.toInt.toNat
      · rw [if_pos f, if_pos (by omega)]
      · rw [if_neg f, if_neg (by omega)]
theorem vr_b60 {P : Int32 × zS → Prop} (hR : RF σ.2.2) (hP : ∀ τ : zS, (∀ k, k ≠ 220 → τ.1 k = σ.1 k) → P (0, τ)) : Pt (zlp (F_X12_back_60 N 218 x1) N (0, σ)) P := by
  refine pt_lp (fun s : Int32 × zS => s.2.2.2 = σ.2.2 ∧ ∀ k, k ≠ 220 → s.2.1 k = σ.1 k) (fun again s hI ih => ?_) N _ ⟨rfl, fun _ _ => rfl⟩
  obtain ⟨x2, τ⟩ := s
  obtain ⟨h2, ho⟩ := hI
  have h2 : τ.2.2 = σ.2.2 := h2
  have ho : ∀ k, k ≠ 220 → τ.1 k = σ.1 k := ho
  have R9 : RF τ.2.2 := by rw [h2]; exact hR
  rw [F_X12_back_60.eq_1]
  refine pt_if (fun _ => pt_some (hP _ ho)) (fun _ => ?_)
  refine pt_gR (v := 220) (R9 218 2 rfl) (pt_gR (v := 222) (R9 218 4 rfl) (pt_aI (pt_s16 (ih (x2 + 1, _) ⟨h2, fun k hk => (zI_n hk).trans (ho k hk)⟩))))
theorem vr_back_ (hR : RF σ.2.2) : Pt (f_X12_back N 218 x1 σ) (fun r => ((0 ≤ x1.toInt ∧ x1.toInt ≤ 2) ∧ ¬ σ.1 223 x1.toInt.toNat = 0 → ∀ j, j < 43 → r.2.1 219 j = σ.1 221 (43 * x1.toInt.toNat + j)) ∧ (¬ ((0 ≤ x1.toInt ∧ x1.toInt ≤ 2) ∧ ¬ σ.1 223 x1.toInt.toNat = 0) → r.2.1 = σ.1)) := by
  rw [f_X12_back.eq_1]
  refine pt_zbq vr_in (fun v hv => ?_)
  rw [i64_of] at hv
  simp only [Int64.reduceToInt] at hv
  refine pt_if (fun q => pt_some ⟨fun z => absurd z.1 (hv.1 q), fun _ => rfl⟩) (fun q => ?_)
  have hx := hv.2 q
  refine pt_gR (v := 223) (hR 218 5 rfl) (pt_aI (pt_if (fun z => pt_some ⟨fun y => absurd z y.2, fun _ => rfl⟩) (fun z => ?_)))
  refine pt_lp (fun s : Int32 × zS => (0 ≤ s.1.toInt ∧ s.1.toInt ≤ 43) ∧ s.2.2.2 = σ.2.2 ∧ s.2.1 221 = σ.1 221 ∧ ∀ j : Nat, (j : Int) < s.1.toInt → s.2.1 219 j = σ.1 221 (43 * x1.toInt.toNat + j)) (fun again s hI ih => ?_) N _ ⟨(by decide : 0 ≤ (0 : Int32).toInt ∧ (0 : Int32).toInt ≤ 43), rfl, rfl, fun j hj => absurd hj (by show ¬ (j : Int) < (0 : Int32).toInt; simp only [Int32.reduceToInt]; omega)⟩
  obtain ⟨x2, τ⟩ := s
  obtain ⟨hb, h2, h9, hk⟩ := hI
  have hb : 0 ≤ x2.toInt ∧ x2.toInt ≤ 43 := hb
  have h2 : τ.2.2 = σ.2.2 := h2
  have h9 : τ.1 221 = σ.1 221 := h9
  have hk : ∀ j : Nat, (j : Int) < x2.toInt → τ.1 219 j = σ.1 221 (43 * x1.toInt.toNat + j) := hk
  have R9 : RF τ.2.2 := by rw [h2]; exact hR
  rw [F_X12_back_29.eq_1]
  refine pt_if (fun y => vr_b60 R9 (fun υ ho => ⟨fun _ j hj => ?_, fun y => absurd ⟨hx, z⟩ y⟩)) (fun y => ?_)
  · rw [Int32.le_iff_toInt_le] at y
    simp only [Int32.reduceToInt] at y
    show υ.1 219 j = _
    rw [ho 219 (by decide)]; exact hk j (by omega)
  · rw [Int32.le_iff_toInt_le] at y
    simp only [Int32.reduceToInt] at y
    have hw : 0 ≤ x2.toInt ∧ x2.toInt ≤ 100000 := by omega
    have hb1 : 0 ≤ (x2 + 1).toInt ∧ (x2 + 1).toInt ≤ 43 := by rw [a1_ hw]; omega
    have ix := i43n (x := x1) (y := x2) hx (by omega)
    refine pt_gR (v := 219) (R9 218 1 rfl) (pt_gR (v := 221) (R9 218 3 rfl) (pt_aI (pt_s14 ?_)))
    rw [ix, h9]
    refine ih (x2 + 1, _) ⟨hb1, h2, (zI_n (by decide)).trans h9, fun j hj => ?_⟩
    have hj : (j : Int) < (x2 + 1).toInt := hj
    rw [a1_ hw] at hj
    show (zI τ 219 _).1 219 j = _
    rw [zI_s, upd_i]
    clear hb1 ix
    by_cases e : j = x2.toInt.toNat
    · rw [if_pos e, e]
    · rw [if_neg e]; exact hk j (by omega)
end IMG

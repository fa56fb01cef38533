/-! ===== the class's lines ===== -/
section CLINE
variable {N : Nat} {σ τ : zS} {t : Nat → Int32} {n c i B : Nat}
theorem fB (hB : B = 2 ∨ B = 28) (h : Tr [57, 58, 59] σ τ) {a : Nat} (ha : a ≤ 4) : τ.1 (B + a) = σ.1 (B + a) := h.2 _ (by
  simp only [List.mem_cons, List.not_mem_nil, or_false]
  omega)
theorem rB (hB : B = 2 ∨ B = 28) {R : Nat → Nat → Nat} (hR : RF R) : R B 3 = B + 1 ∧ R B 4 = B + 2 ∧ R B 5 = B + 3 ∧ R B 6 = B + 4 := by
  rcases hB with rfl | rfl
  · exact ⟨hR 2 3 rfl, hR 2 4 rfl, hR 2 5 rfl, hR 2 6 rfl⟩
  · exact ⟨hR 28 3 rfl, hR 28 4 rfl, hR 28 5 rfl, hR 28 6 rfl⟩
theorem CB_x (hB : CB σ t n c) (h22 : τ.2.2 = σ.2.2) (h1 : ∀ k, k = 1 ∨ (61 ≤ k ∧ k ≤ 64) → τ.1 k = σ.1 k) (h6 : τ.1 57 6 = σ.1 57 6) : CB τ t n c := by
  refine ⟨by rw [h22]; exact hB.1, ?_, by rw [h6]; exact hB.2.2⟩
  have q := hB.2.1
  unfold CT TR at q ⊢
  rw [h1 1 (by omega), h1 61 (by omega), h1 62 (by omega), h1 63 (by omega), h1 64 (by omega)]
  exact q
/-- the class's world and a row: names, lines, edges, weights, order, ends -/
def WB (s : Nat → Nat → Int32) (B : Nat) (g : Nat → Int32) : Prop := (s B 0 = g 0 ∧ s B 1 = g 1 ∧ s B 2 = g 2) ∧ (∀ j, j < 10 → s (B + 3) j = g (3 + j) ∧ s (B + 4) j = g (33 + j)) ∧ ∀ j, j < (g 2).toInt.toNat → s (B + 1) j = g (13 + j) ∧ s (B + 2) j = g (23 + j)
def WP (s : Nat → Nat → Int32) (B : Nat) (g : Nat → Int32) : Prop := (s B 0 = g 0 ∧ s B 1 = g 1 ∧ s B 2 = g 2) ∧ (g 1 = 0 → ∀ j, j < 10 → s (B + 3) j = 1 ∧ s (B + 4) j = nI j) ∧ (¬ g 1 = 0 → WB s B g)
theorem WB_e {s s' : Nat → Nat → Int32} {g : Nat → Int32} (e : ∀ a, a ≤ 4 → s' (B + a) = s (B + a)) (h : WB s B g) : WB s' B g := by
  have e0 := e 0 (by decide)
  rw [Nat.add_zero] at e0
  unfold WB at h ⊢
  rw [e0, e 1 (by decide), e 2 (by decide), e 3 (by decide), e 4 (by decide)]; exact h
/-- what the reading of a line's body leaves behind -/
def BQ (t : Nat → Int32) (n c B : Nat) (o : LO) (v : Int32) (τ : zS) : Prop := (v = 1 ∧ ∃ j g sg, o = some (j, g, sg) ∧ (CB τ t n c ∧ CA (τ.1 57 9) t n c j) ∧ (τ.1 57 7 = g 0 ∧ (τ.1 57 8).toInt = (sg : Int) ∧ sg ≤ 24) ∧ WB τ.1 B g) ∨ (v = 0 ∧ o = none)
def LQ (t : Nat → Int32) (n c B : Nat) (o : LO) (r : Int32 × zS) : Prop := (r.1 = 1 ∧ ∃ j g sg, (o = some (j, g, sg) ∧ tkK t n j = 59) ∧ (CB r.2 t n c ∧ CA (r.2.1 57 9) t n c (tkE t n j)) ∧ (r.2.1 57 7 = g 0 ∧ (r.2.1 57 8).toInt = (sg : Int) ∧ sg ≤ 24) ∧ WB r.2.1 B g) ∨ (r.1 = 0 ∧ (o = none ∨ ∃ d : LC, o = some d ∧ ¬ tkK t n d.1 = 59))
theorem vl_211 {o : LO} {x5 : Int32} (hB : B = 2 ∨ B = 28) (h : BQ t n c B o x5 σ) : Pt (J_X5_readLine_211 N 57 x5 σ) (LQ t n c B o) := by
  rw [J_X5_readLine_211.eq_1]
  rcases h with ⟨h1, j, g, sg, ho, ⟨hC, hA⟩, ⟨h7, h8, h24⟩, hW⟩ | ⟨h0, ho⟩
  · refine pt_if (fun q => absurd (h1.symm.trans q) (by decide)) (fun _ => ?_)
    refine pt_gC (pt_zb (pt_ok (xs_pass hC hA (by decide))) (fun v τ h => ?_))
    obtain ⟨f, h⟩ := h
    have f : F8 σ τ := f
    rcases h with ⟨v1, k, A⟩ | ⟨v0, k⟩
    · have v1 : v = 1 := v1
      refine pt_if (fun q => absurd (v1.symm.trans q) (by decide)) (fun _ => pt_rZ (Or.inl ⟨rfl, j, g, sg, ⟨ho, (ck_s (by decide)).mp k⟩, ⟨CB_fr f.1 hC, A⟩, ⟨f.1.2.2.trans h7, ?_, h24⟩, WB_e (fun a ha => fB hB f.1.1 ha) hW⟩))
      show (τ.1 57 8).toInt = _
      rw [f.2]; exact h8
    · have v0 : v = 0 := v0
      exact pt_if (fun _ => pt_rZ (Or.inr ⟨rfl, Or.inr ⟨_, ho, fun z => k ((ck_s (by decide)).mpr z)⟩⟩)) (fun q => absurd v0 q)
  · exact pt_if (fun _ => pt_rZ (Or.inr ⟨rfl, Or.inl ho⟩)) (fun q => absurd h0 q)
theorem vl_names (hB : B = 2 ∨ B = 28) (hC : CB σ t n c) (hA : CA (σ.1 57 9) t n c i) : Pt (f_X5_readNames N 57 B σ) (fun r => (r.1 = 1 ∧ nOK t n i 1 10 ∧ (CB r.2 t n c ∧ CA (r.2.1 57 9) t n c (tkE t n i)) ∧ (r.2.1 57 7 = nvI t n i ∧ r.2.1 57 8 = σ.1 57 8) ∧ r.2.1 B = upd (σ.1 B) 0 (nvI t n i) ∧ ∀ a, 1 ≤ a → a ≤ 4 → r.2.1 (B + a) = σ.1 (B + a)) ∨ (r.1 = 0 ∧ ¬ nOK t n i 1 10)) := by
  rw [f_X5_readNames.eq_1]
  refine pt_gC (pt_zb (pt_ok (xs_passNumber hC hA (by decide))) (fun v σ1 h1 => ?_))
  obtain ⟨f1, h1⟩ := h1
  have f1 : F8 σ σ1 := f1
  refine pt_if (fun q => ?_) (fun q => ?_)
  · have h1 := h1.resolve_left (fun z => absurd (z.1.symm.trans q) (by decide))
    exact pt_rZ (Or.inr ⟨rfl, h1.2⟩)
  · obtain ⟨_, ⟨ok, A1⟩, p1, lv⟩ := h1.resolve_right (fun z => q z.1)
    have A1 : CA (σ1.1 57 9) t n c (tkE t n i) := A1
    have lv : (lastv σ1.1).toInt = nv5 t n i := lv
    have C1 := CB_fr f1.1 hC
    refine pt_gC (pt_zbX (Q := fun v => v = lastv σ1.1) (pt_ok (xs_passed C1 A1 p1)) (fun v3 e3 => ?_))
    have e3 : v3 = nvI t n i := e3.trans (nv_eq lv)
    refine pt_pIx (fun τ1 a1 b1 c1 => pt_gI (pt_pIx (fun τ2 a2 b2 c2 => pt_rZ (Or.inl ⟨rfl, ok, ⟨?_, ?_⟩, ⟨?_, ?_⟩, ?_, fun a h0 h4 => ?_⟩))))
    all_goals have nB : (57 : Nat) ≠ B := by omega
    · refine CB_x C1 (by rw [show τ2.2.2 = τ1.2.2 from congrArg Prod.snd c2, show τ1.2.2 = σ1.2.2 from congrArg Prod.snd c1]) (fun k hk => (b2 k (by omega)).trans (b1 k (by omega))) ?_
      rw [b2 57 nB, a1, upd_n (by decide)]
    · show CA (τ2.1 57 9) t n c _
      rw [b2 57 nB, a1, upd_n (by decide)]; exact A1
    · show τ2.1 57 7 = _
      rw [b2 57 nB, a1, upd_s]; exact e3
    · show τ2.1 57 8 = _
      rw [b2 57 nB, a1, upd_n (by decide)]; exact f1.2
    · show τ2.1 B = _
      have z := fB hB f1.1.1 (a := 0) (by decide)
      rw [Nat.add_zero] at z
      rw [a2, b1 B (by omega), z, a1, upd_s, e3]
    · show τ2.1 (B + a) = _
      rw [b2 _ (by omega), b1 _ (by omega)]; exact fB hB f1.1.1 h4
theorem vl_w83 {x2 y0 : Int32} {Z : Prop} (hB : B = 2 ∨ B = 28) (hC : CB σ t n c) (hA : CA (σ.1 57 9) t n c i) (hk : ¬ tkK t n i = 0) (hy : (y0 = 1 ∧ Z) ∨ (y0 = 0 ∧ ¬ Z)) : Pt (J_X5_readWeight_83 N 57 B x2 y0 σ) (fun r => (r.1 = 1 ∧ (Z ∧ nOK t n (tkE t n i) 0 99) ∧ (CB r.2 t n c ∧ CA (r.2.1 57 9) t n c (tkE t n (tkE t n i))) ∧ (r.2.1 57 7 = σ.1 57 7 ∧ r.2.1 57 8 = σ.1 57 8) ∧ r.2.1 (B + 3) = upd (σ.1 (B + 3)) x2.toInt.toNat (nvI t n (tkE t n i)) ∧ ∀ a, a ≠ 3 → a ≤ 4 → r.2.1 (B + a) = σ.1 (B + a)) ∨ (r.1 = 0 ∧ ¬ (Z ∧ nOK t n (tkE t n i) 0 99))) := by
  rw [J_X5_readWeight_83.eq_1]
  rcases hy with ⟨rfl, z⟩ | ⟨rfl, z⟩
  · refine pt_gC (pt_zb (pt_ok (xa_1 hC hA hk)) (fun v σ1 h1 => ?_))
    obtain ⟨v1, f1, A1, _⟩ := h1
    have v1 : v = 1 := v1
    have f1 : F8 σ σ1 := f1
    have A1 : CA (σ1.1 57 9) t n c (tkE t n i) := A1
    refine pt_if (fun q => absurd (v1.symm.trans q) (by decide)) (fun _ => ?_)
    have C1 := CB_fr f1.1 hC
    refine pt_gC (pt_zb (pt_ok (xs_passNumber C1 A1 (by decide))) (fun v2 σ2 h2 => ?_))
    obtain ⟨f2, h2⟩ := h2
    have f2 : F8 σ1 σ2 := f2
    refine pt_if (fun q => ?_) (fun q => ?_)
    · have h2 := h2.resolve_left (fun z => absurd (z.1.symm.trans q) (by decide))
      exact pt_rZ (Or.inr ⟨rfl, fun w => h2.2 w.2⟩)
    · obtain ⟨_, ⟨ok, A2⟩, p2, lv⟩ := h2.resolve_right (fun z => q z.1)
      have A2 : CA (σ2.1 57 9) t n c (tkE t n (tkE t n i)) := A2
      have lv : (lastv σ2.1).toInt = nv5 t n (tkE t n i) := lv
      have f := f1.tr f2
      have C2 := CB_fr f.1 hC
      refine pt_gR (v := B + 3) (rB hB C2.1.1).2.2.1 ?_
      refine pt_gC (pt_zbX (Q := fun v => v = lastv σ2.1) (pt_ok (xs_passed C2 A2 p2)) (fun v3 e3 => ?_))
      have e3 : v3 = nvI t n (tkE t n i) := e3.trans (nv_eq lv)
      refine pt_s14 (pt_rZ (Or.inl ⟨rfl, ⟨z, ok⟩, ⟨CB_x C2 rfl (fun k hk => zI_n (by omega)) (by rw [zI_n (by omega)]), ?_⟩, ⟨?_, ?_⟩, ?_, fun a h0 h4 => ?_⟩))
      · show CA ((zI σ2 (B + 3) _).1 57 9) t n c _
        rw [zI_n (by omega)]; exact A2
      · show (zI σ2 (B + 3) _).1 57 7 = _
        rw [zI_n (by omega)]; exact f.1.2.2
      · show (zI σ2 (B + 3) _).1 57 8 = _
        rw [zI_n (by omega)]; exact f.2
      · show (zI σ2 (B + 3) _).1 (B + 3) = _
        rw [zI_s, e3, fB hB f.1.1 (by decide)]
      · show (zI σ2 (B + 3) _).1 (B + a) = _
        rw [zI_n (by omega)]; exact fB hB f.1.1 h4
  · refine pt_gC (pt_zb (pt_ok (xa_0 hC hA)) (fun v σ1 h1 => ?_))
    have v0 : v = 0 := h1.1
    exact pt_if (fun _ => pt_rZ (Or.inr ⟨rfl, fun w => z w.1⟩)) (fun q => absurd v0 q)
theorem vl_weight {m : Int32} (hB : B = 2 ∨ B = 28) (hC : CB σ t n c) (hA : CA (σ.1 57 9) t n c i) (hm : σ.1 57 7 = m) (h10 : m.toInt ≤ 10) : Pt (f_X5_readWeight N 57 B σ) (fun r => (r.1 = 1 ∧ (nmOK t n i m ∧ nOK t n (tkE t n i) 0 99) ∧ (CB r.2 t n c ∧ CA (r.2.1 57 9) t n c (tkE t n (tkE t n i))) ∧ (r.2.1 57 7 = σ.1 57 7 ∧ r.2.1 57 8 = σ.1 57 8) ∧ r.2.1 (B + 3) = upd (σ.1 (B + 3)) ((t (tkF t n i)).toInt - 97).toNat (nvI t n (tkE t n i)) ∧ ∀ a, a ≠ 3 → a ≤ 4 → r.2.1 (B + a) = σ.1 (B + a)) ∨ (r.1 = 0 ∧ ¬ (nmOK t n i m ∧ nOK t n (tkE t n i) 0 99))) := by
  subst hm
  have hb := CA_b hA hC.2.1.1.2.2
  have row := CA_row hC.2.1 hA
  have hle := tk_le (t := t) (CA_le hA)
  have h600 := hC.2.1.1.2.1
  have bad : ∀ (σ' : zS), ¬ nmOK t n i (σ.1 57 7) → Pt (zl (gC 5 57) fun _ => zb (f_X5_fail N 57 1 σ) fun v24 σ25 => rZ v24 σ25) (fun r => (r.1 = 1 ∧ (nmOK t n i (σ.1 57 7) ∧ nOK t n (tkE t n i) 0 99) ∧ (CB r.2 t n c ∧ CA (r.2.1 57 9) t n c (tkE t n (tkE t n i))) ∧ (r.2.1 57 7 = σ.1 57 7 ∧ r.2.1 57 8 = σ.1 57 8) ∧ r.2.1 (B + 3) = upd (σ.1 (B + 3)) ((t (tkF t n i)).toInt - 97).toNat (nvI t n (tkE t n i)) ∧ ∀ a, a ≠ 3 → a ≤ 4 → r.2.1 (B + a) = σ.1 (B + a)) ∨ (r.1 = 0 ∧ ¬ (nmOK t n i (σ.1 57 7) ∧ nOK t n (tkE t n i) 0 99))) := fun _ z =>
    pt_gC (pt_zb (pt_ok (xs_fail hC hA)) (fun v σ1 h1 => pt_rZ (Or.inr ⟨h1.1, fun w => z w.1⟩)))
  rw [f_X5_readWeight.eq_1]
  refine pt_gR (v := 61) (hC.1.1 57 10 rfl) (pt_gI (pt_aI ?_))
  have e1 : σ.1 61 (σ.1 57 9).toInt.toNat = ck (tkK t n i) := row.1.1
  rw [e1]
  refine pt_if (fun q => ?_) (fun q => bad σ (fun w => q (ck_w.mpr w.1)))
  have hk : tkK t n i = 1 := ck_w.mp q
  refine pt_gR (v := 64) (hC.1.1 57 13 rfl) (pt_gI (pt_aI ?_))
  refine pt_gR (v := 63) (hC.1.1 57 12 rfl) (pt_gI (pt_aI ?_))
  have h63 : (σ.1 63 (σ.1 57 9).toInt.toNat).toInt = (tkF t n i : Int) := row.1.2.1
  have h64 : (σ.1 64 (σ.1 57 9).toInt.toNat).toInt = (tkE t n i : Int) := row.1.2.2
  have sb : (σ.1 64 (σ.1 57 9).toInt.toNat - σ.1 63 (σ.1 57 9).toInt.toNat).toInt = (tkE t n i : Int) - (tkF t n i : Int) := by rw [ti_sub, h63, h64]; omega
  have one : σ.1 64 (σ.1 57 9).toInt.toNat - σ.1 63 (σ.1 57 9).toInt.toNat = 1 ↔ tkE t n i = tkF t n i + 1 := by
    rw [← Int32.toInt_inj, sb]
    simp only [Int32.reduceToInt]
    omega
  refine pt_if (fun q1 => ?_) (fun q1 => bad σ (fun w => q1 (one.mpr w.2.1)))
  have l1 := one.mp q1
  refine pt_gR (v := 1) hC.1.2 (pt_gR (v := 63) (hC.1.1 57 12 rfl) (pt_gI (pt_aI (pt_aI ?_))))
  have ev : σ.1 1 (σ.1 63 (σ.1 57 9).toInt.toNat).toInt.toNat = t (tkF t n i) := by
    rw [hC.2.1.1.1, h63]; rfl
  rw [ev]
  have lt := tk_let hk (Nat.le_refl _) (show tkF t n i < tkE t n i by omega)
  have s97 : (t (tkF t n i) - 97).toInt = (t (tkF t n i)).toInt - 97 := by
    rw [ti_sub]; simp only [Int32.reduceToInt]; unfold isLt at lt; omega
  have k0 : ¬ tkK t n i = 0 := by rw [hk]; decide
  have go : ∀ y0 : Int32, ((y0 = 1 ∧ nmOK t n i (σ.1 57 7)) ∨ (y0 = 0 ∧ ¬ nmOK t n i (σ.1 57 7))) → Pt (J_X5_readWeight_83 N 57 B (t (tkF t n i) - 97) y0 σ) (fun r => (r.1 = 1 ∧ (nmOK t n i (σ.1 57 7) ∧ nOK t n (tkE t n i) 0 99) ∧ (CB r.2 t n c ∧ CA (r.2.1 57 9) t n c (tkE t n (tkE t n i))) ∧ (r.2.1 57 7 = σ.1 57 7 ∧ r.2.1 57 8 = σ.1 57 8) ∧ r.2.1 (B + 3) = upd (σ.1 (B + 3)) ((t (tkF t n i)).toInt - 97).toNat (nvI t n (tkE t n i)) ∧ ∀ a, a ≠ 3 → a ≤ 4 → r.2.1 (B + a) = σ.1 (B + a)) ∨ (r.1 = 0 ∧ ¬ (nmOK t n i (σ.1 57 7) ∧ nOK t n (tkE t n i) 0 99))) := fun y0 hy => by
    have z := vl_w83 (N := N) (x2 := t (tkF t n i) - 97) hB hC hA k0 hy
    rw [s97] at z
    exact z
  refine pt_if (fun q2 => absurd q2 (by rw [Int32.lt_iff_toInt_lt, s97]; simp only [Int32.reduceToInt]; unfold isLt at lt; omega)) (fun _ => pt_gI ?_)
  refine pt_if (fun q2 => go 0 (Or.inr ⟨rfl, fun w => ?_⟩)) (fun q2 => pt_if (fun q3 => go 0 (Or.inr ⟨rfl, fun w => ?_⟩)) (fun q3 => go 1 (Or.inl ⟨rfl, hk, l1, ?_⟩)))
  · rw [Int32.le_iff_toInt_le, s97] at q2
    have := w.2.2
    omega
  · rw [Int32.le_iff_toInt_le, s97] at q3
    simp only [Int32.reduceToInt] at q3
    have := w.2.2
    omega
  · rw [Int32.le_iff_toInt_le, s97] at q2
    omega
theorem vl_addEdge {x1 x2 : Int32} (hB : B = 2 ∨ B = 28) (hR : RF σ.2.2) (h2 : 0 ≤ (σ.1 B 2).toInt ∧ (σ.1 B 2).toInt < 10) : Pt (f_X10_addEdge N B x1 x2 σ) (fun r => r.2.2.2 = σ.2.2 ∧ r.2.1 B = upd (σ.1 B) 2 (σ.1 B 2 + 1) ∧ r.2.1 (B + 1) = upd (σ.1 (B + 1)) (σ.1 B 2).toInt.toNat x1 ∧ r.2.1 (B + 2) = upd (σ.1 (B + 2)) (σ.1 B 2).toInt.toNat x2 ∧ ∀ k, (k < B ∨ B + 2 < k) → r.2.1 k = σ.1 k) := by
  have r := rB hB hR
  rw [f_X10_addEdge.eq_1]
  refine pt_gI (pt_if (fun q => absurd q (by rw [Int32.lt_iff_toInt_lt]; simp only [Int32.reduceToInt]; omega)) (fun _ => pt_gI (pt_if (fun q => absurd q (by rw [Int32.le_iff_toInt_le]; simp only [Int32.reduceToInt]; omega)) (fun _ => ?_))))
  refine pt_gR (v := B + 1) r.1 (pt_gI (pt_s14 ?_))
  refine pt_gR (v := B + 2) r.2.1 (pt_gI (pt_s14 (pt_gI (pt_pI (pt_some ⟨rfl, ?_, ?_, ?_, fun k hk => ?_⟩)))))
  · rw [zI_s, zI_n (by omega), zI_n (by omega)]
  · rw [zI_n (by omega), zI_n (by omega), zI_s]
  · rw [zI_n (by omega), zI_s, zI_n (by omega), zI_n (by omega)]
  · rw [zI_n (by omega), zI_n (by omega), zI_n (by omega)]
/-- two unlike ends: the class's reading -/
def EQs (t : Nat → Int32) (n c B i : Nat) (σ : zS) (r : Int32 × zS) : Prop := (r.1 = 1 ∧ edOK t n i ∧ (CB r.2 t n c ∧ CA (r.2.1 57 9) t n c (tkE t n (tkE t n i))) ∧ (r.2.1 57 7 = σ.1 57 7 ∧ r.2.1 57 8 = σ.1 57 8) ∧ (r.2.1 B = upd (σ.1 B) 2 (σ.1 B 2 + 1) ∧ r.2.1 (B + 1) = upd (σ.1 (B + 1)) (σ.1 B 2).toInt.toNat (nvI t n i) ∧ r.2.1 (B + 2) = upd (σ.1 (B + 2)) (σ.1 B 2).toInt.toNat (nvI t n (tkE t n i))) ∧ r.2.1 (B + 3) = σ.1 (B + 3) ∧ r.2.1 (B + 4) = σ.1 (B + 4)) ∨ (r.1 = 0 ∧ ¬ edOK t n i)
theorem vl_e49 {x2 : Int32} {σ0 : zS} (hB : B = 2 ∨ B = 28) (hC : CB σ t n c) (hA : CA (σ.1 57 9) t n c (tkE t n i)) (h2 : 0 ≤ (σ0.1 B 2).toInt ∧ (σ0.1 B 2).toInt < 10) (f0 : F8 σ0 σ) (hx : x2 = nvI t n i) (h1 : nOK t n i 0 7) (hd : ¬ (tkK t n (tkE t n i) = 2 ∧ nv5 t n (tkE t n i) = nv5 t n i)) : Pt (J_X5_readEdge_49 N 57 B x2 σ) (EQs t n c B i σ0) := by
  rw [J_X5_readEdge_49.eq_1]
  refine pt_gC (pt_zb (pt_ok (xs_passNumber hC hA (by decide))) (fun v σ1 h => ?_))
  obtain ⟨f1, h⟩ := h
  have f1 : F8 σ σ1 := f1
  refine pt_if (fun q => ?_) (fun q => ?_)
  · have h := h.resolve_left (fun z => absurd (z.1.symm.trans q) (by decide))
    exact pt_rZ (Or.inr ⟨rfl, fun w => h.2 w.2.2⟩)
  · obtain ⟨_, ⟨ok, A1⟩, p1, lv⟩ := h.resolve_right (fun z => q z.1)
    have A1 : CA (σ1.1 57 9) t n c (tkE t n (tkE t n i)) := A1
    have lv : (lastv σ1.1).toInt = nv5 t n (tkE t n i) := lv
    have C1 := CB_fr f1.1 hC
    have f := f0.tr f1
    have b0 : σ1.1 B = σ0.1 B := by have z := fB hB f.1.1 (a := 0) (by decide); rw [Nat.add_zero] at z; exact z
    refine pt_gC (pt_zbX (Q := fun v => v = lastv σ1.1) (pt_ok (xs_passed C1 A1 p1)) (fun v3 e3 => ?_))
    have e3 : v3 = nvI t n (tkE t n i) := e3.trans (nv_eq lv)
    refine pt_gC (pt_zb (vl_addEdge hB C1.1.1 (by rw [b0]; exact h2)) (fun _ σ2 h2' => pt_rZ (Or.inl ⟨rfl, ⟨h1, hd, ok⟩, ?_⟩)))
    obtain ⟨r2, o0, o1, o2, ok2⟩ := h2'
    have r2 : σ2.2.2 = σ1.2.2 := r2
    have o0 : σ2.1 B = upd (σ1.1 B) 2 (σ1.1 B 2 + 1) := o0
    have o1 : σ2.1 (B + 1) = upd (σ1.1 (B + 1)) (σ1.1 B 2).toInt.toNat x2 := o1
    have o2 : σ2.1 (B + 2) = upd (σ1.1 (B + 2)) (σ1.1 B 2).toInt.toNat v3 := o2
    have ok2 : ∀ k, (k < B ∨ B + 2 < k) → σ2.1 k = σ1.1 k := ok2
    refine ⟨⟨CB_x C1 r2 (fun k hk => ok2 k (by omega)) (by rw [ok2 57 (by omega)]), ?_⟩, ⟨?_, ?_⟩, ⟨?_, ?_, ?_⟩, ?_, ?_⟩
    · show CA (σ2.1 57 9) t n c _
      rw [ok2 57 (by omega)]; exact A1
    · show σ2.1 57 7 = _
      rw [ok2 57 (by omega)]; exact f.1.2.2
    · show σ2.1 57 8 = _
      rw [ok2 57 (by omega)]; exact f.2
    · show σ2.1 B = _
      rw [o0, b0]
    · show σ2.1 (B + 1) = _
      rw [o1, b0, fB hB f.1.1 (by decide), hx]
    · show σ2.1 (B + 2) = _
      rw [o2, b0, fB hB f.1.1 (by decide), e3]
    · show σ2.1 (B + 3) = _
      rw [ok2 _ (by omega), fB hB f.1.1 (by decide)]
    · show σ2.1 (B + 4) = _
      rw [ok2 _ (by omega), fB hB f.1.1 (by decide)]
theorem vl_edge (hB : B = 2 ∨ B = 28) (hC : CB σ t n c) (hA : CA (σ.1 57 9) t n c i) (h2 : 0 ≤ (σ.1 B 2).toInt ∧ (σ.1 B 2).toInt < 10) : Pt (f_X5_readEdge N 57 B σ) (EQs t n c B i σ) := by
  rw [f_X5_readEdge.eq_1]
  refine pt_gC (pt_zb (pt_ok (xs_passNumber hC hA (by decide))) (fun v σ1 h => ?_))
  obtain ⟨f1, h⟩ := h
  have f1 : F8 σ σ1 := f1
  refine pt_if (fun q => ?_) (fun q => ?_)
  · have h := h.resolve_left (fun z => absurd (z.1.symm.trans q) (by decide))
    exact pt_rZ (Or.inr ⟨rfl, fun w => h.2 w.1⟩)
  · obtain ⟨_, ⟨ok, A1⟩, p1, lv⟩ := h.resolve_right (fun z => q z.1)
    have A1 : CA (σ1.1 57 9) t n c (tkE t n i) := A1
    have lv : (lastv σ1.1).toInt = nv5 t n i := lv
    have C1 := CB_fr f1.1 hC
    have row := CA_row C1.2.1 A1
    refine pt_gC (pt_zbX (Q := fun v => v = lastv σ1.1) (pt_ok (xs_passed C1 A1 p1)) (fun v3 e3 => ?_))
    have l3 : v3.toInt = nv5 t n i := by rw [e3]; exact lv
    have e3 : v3 = nvI t n i := nv_eq l3
    have b3 := ok.2
    simp only [Int32.reduceToInt] at b3
    refine pt_gR (v := 61) (C1.1.1 57 10 rfl) (pt_gI (pt_aI ?_))
    have e1 : σ1.1 61 (σ1.1 57 9).toInt.toNat = ck (tkK t n (tkE t n i)) := row.1.1
    rw [e1]
    refine pt_if (fun k => ?_) (fun k => vl_e49 hB C1 A1 h2 f1 e3 ok (fun w => k (ck_n.mpr w.1)))
    have k2 := ck_n.mp k
    refine pt_gR (v := 62) (C1.1.1 57 11 rfl) (pt_gI (pt_aI ?_))
    have v2 : (σ1.1 62 (σ1.1 57 9).toInt.toNat).toInt = min 1000000 (Nv t n (tkF t n (tkE t n i)) 0 : Int) := row.2.1 k2
    have iff : σ1.1 62 (σ1.1 57 9).toInt.toNat = v3 ↔ nv5 t n (tkE t n i) = nv5 t n i := by
      rw [← Int32.toInt_inj, v2, l3]
      unfold nv5
      omega
    refine pt_if (fun e => ?_) (fun e => vl_e49 hB C1 A1 h2 f1 e3 ok (fun w => e (iff.mpr w.2)))
    exact pt_gC (pt_zb (pt_ok (xs_fail C1 A1)) (fun v σ2 h2' => pt_rZ (Or.inr ⟨h2'.1, fun w => w.2.1 ⟨k2, iff.mp e⟩⟩)))
end CLINE

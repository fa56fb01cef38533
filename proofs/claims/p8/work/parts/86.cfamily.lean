section CFAM2
variable {N : Nat} {σ τ : zS} {t : Nat → Int32} {n c i : Nat} {m : Int32}
theorem xs_family (hN : 1048576 ≤ N) (hB : CB σ t n c) (hA : CA (σ.1 57 9) t n c i) (hm : σ.1 57 7 = m) (hk : tkK t n i = 123) : Ok (f_X5_family N 57 σ) (fun r => F8 σ r.2 ∧ ((r.1 = 1 ∧ ∃ j, fam t n m i = some j ∧ CA (r.2.1 57 9) t n c j) ∨ (r.1 = 0 ∧ fam t n m i = none))) := by
  have h600 := hB.2.1.1.2.1
  have hle := CA_le hA
  rw [f_X5_family.eq_1]
  refine ok_gC rfl (ok_zb (xs_pass hB hA (by decide)) (fun v σ1 h1 => ?_))
  obtain ⟨f1, h1⟩ := h1
  have f1 : F8 σ σ1 := f1
  have h1 := h1.resolve_right (fun z => z.2 ((ck_s (by decide)).mpr hk))
  have A1 : CA (σ1.1 57 9) t n c (tkE t n i) := h1.2.2
  refine ok_gC rfl (ok_zb (xs_emit (CB_fr f1.1 hB)) (fun w σ2 h2 => ?_))
  have f2 : F8 σ σ2 := f1.tr h2.2.1
  have A2 : CA (σ2.1 57 9) t n c (tkE t n i) := by rw [show σ2.1 57 9 = σ1.1 57 9 from h2.2.2]; exact A1
  have B2 := CB_fr f2.1 hB
  have hb2 := CA_b A2 B2.2.1.1.2.2
  refine ok_gR (Sx := []) (v := 61) Tr.rf rfl (B2.1.1 57 10 rfl) ?_
  refine ok_gI rfl ?_
  refine ok_aIn (n := 601) rfl hb2.1 (by omega) (fun v7 e7 => ?_)
  have e7 : v7 = ck (tkK t n (tkE t n i)) := e7.trans (CA_row B2.2.1 A2).1.1
  refine ok_if (fun q => ?_) (fun q => ?_)
  · have k2 : tkK t n (tkE t n i) = 125 := (ck_s (by decide)).mp (e7.symm.trans q)
    refine ok_gC rfl (ok_zb (xs_pass B2 A2 (by decide)) (fun w σ3 h3 => ?_))
    obtain ⟨f3, h3⟩ := h3
    have h3 := h3.resolve_right (fun z => z.2 ((ck_s (by decide)).mpr k2))
    have w1 : w = 1 := h3.1
    exact ok_rZ (Or.inr w1) ⟨f2.tr f3, Or.inl ⟨w1, _, if_pos k2, h3.2.2⟩⟩
  · have hfam : fam t n m i = fmE t n m (tkE t n i) := if_neg (fun z => q (e7.trans ((ck_s (by decide)).mpr z)))
    refine ok_lp (fun s : Int32 × zS => F8 σ s.2 ∧ 0 ≤ s.1.toInt ∧ ∃ p : Nat, s.1.toInt ≤ (p : Int) ∧ CA (s.2.1 57 9) t n c p ∧ fam t n m i = fmE t n m p) (fun s => (601 - s.1.toInt).toNat) (fun again s hI ih => ?_) N _ ⟨f2, (by decide : 0 ≤ (0 : Int32).toInt), tkE t n i, by show (0 : Int32).toInt ≤ _; simp only [Int32.reduceToInt]; omega, A2, hfam⟩ (by show (601 - (0 : Int32).toInt).toNat < N; simp only [Int32.reduceToInt]; omega)
    obtain ⟨x1, σ'⟩ := s
    obtain ⟨f3, hx, p, hp, A3, fe⟩ := hI
    have f3 : F8 σ σ' := f3
    have hx : 0 ≤ x1.toInt := hx
    have hp : x1.toInt ≤ (p : Int) := hp
    have A3 : CA (σ'.1 57 9) t n c p := A3
    have B3 := CB_fr f3.1 hB
    have pn := CA_le A3
    rw [F_X5_family_37.eq_1]
    refine ok_if (fun q => absurd q (by rw [Int32.le_iff_toInt_le]; simp only [Int32.reduceToInt]; omega)) (fun _ => ?_)
    refine ok_gC rfl (ok_zb (xs_member hN B3 A3 (f3.1.2.2.trans hm)) (fun v12 σ4 h4 => ?_))
    obtain ⟨f4, h4⟩ := h4
    have f4 := f3.tr f4
    refine ok_if (fun q => ?_) (fun q => ?_)
    · have h4 := h4.resolve_left (fun z => absurd (z.1.symm.trans q) (by decide))
      exact ok_rZ (Or.inl rfl) ⟨f4, Or.inr ⟨rfl, fe.trans (fmE_f pn h4.2)⟩⟩
    · have h4 := h4.resolve_right (fun z => q z.1)
      have A4 : CA (σ4.1 57 9) t n c (tkE t n p) := h4.2.2
      have B4 := CB_fr f4.1 hB
      have hb4 := CA_b A4 B4.2.1.1.2.2
      have fe4 := fe.trans (fmE_t pn h4.2.1)
      have g1 := tk_gt pn (mOK_n h4.2.1)
      refine ok_gR (Sx := []) (v := 61) Tr.rf rfl (B4.1.1 57 10 rfl) ?_
      refine ok_gI rfl ?_
      refine ok_aIn (n := 601) rfl hb4.1 (by omega) (fun v16 e16 => ?_)
      have e16 : v16 = ck (tkK t n (tkE t n p)) := e16.trans (CA_row B4.2.1 A4).1.1
      refine ok_if (fun q2 => ?_) (fun q2 => ?_)
      · have k4 : tkK t n (tkE t n p) = 44 := (ck_s (by decide)).mp (e16.symm.trans q2)
        refine ok_gC rfl (ok_zb (xs_pass B4 A4 (by decide)) (fun w σ5 h5 => ?_))
        obtain ⟨f5, h5⟩ := h5
        have h5 := h5.resolve_right (fun z => z.2 ((ck_s (by decide)).mpr k4))
        have A5 : CA (σ5.1 57 9) t n c (tkE t n (tkE t n p)) := h5.2.2
        have g2 := tk_gt (CA_le A4) (show ¬ tkK t n (tkE t n p) = 0 by rw [k4]; decide)
        have hs : (x1 + 1).toInt = x1.toInt + 1 := by rw [ti_add]; simp only [Int32.reduceToInt]; omega
        have g3 := CA_le A5
        refine ih (x1 + 1, σ5) ⟨f4.tr f5, (by rw [hs]; omega : 0 ≤ (x1 + 1).toInt), _, by show (x1 + 1).toInt ≤ _; rw [hs]; omega, A5, ?_⟩ (by show (601 - (x1 + 1).toInt).toNat < (601 - x1.toInt).toNat; omega)
        rw [fe4]; exact if_pos k4
      · have k4 : ¬ tkK t n (tkE t n p) = 44 := fun z => q2 (e16.trans ((ck_s (by decide)).mpr z))
        have fe5 : fam t n m i = if tkK t n (tkE t n p) = 125 then some (tkE t n (tkE t n p)) else none := fe4.trans (if_neg k4)
        refine ok_gC rfl (ok_zb (xs_pass B4 A4 (by decide)) (fun w σ5 h5 => ?_))
        obtain ⟨f5, h5⟩ := h5
        rcases h5 with h5 | h5
        · have w1 : w = 1 := h5.1
          exact ok_rZ (Or.inr w1) ⟨f4.tr f5, Or.inl ⟨w1, _, fe5.trans (if_pos ((ck_s (by decide)).mp h5.2.1)), h5.2.2⟩⟩
        · have w1 : w = 0 := h5.1
          exact ok_rZ (Or.inl w1) ⟨f4.tr f5, Or.inr ⟨w1, fe5.trans (if_neg (fun z => h5.2 ((ck_s (by decide)).mpr z)))⟩⟩
/-! the words -/
def cod : List Int32 := [1, 2, 3, 4, 5, 10, 11, 12, 13, 14, 15]
theorem wvF_spec {C : Nat → Prop} : (∃ w, w < 11 ∧ C w ∧ wvF C = cod.getD w 0) ∨ ((∀ w, w < 11 → ¬ C w) ∧ wvF C = -1) := by
  unfold wvF
  by_cases h0 : C 0
  · exact Or.inl ⟨0, by decide, h0, if_pos h0⟩
  by_cases h1 : C 1
  · exact Or.inl ⟨1, by decide, h1, by rw [if_neg h0, if_pos h1]; rfl⟩
  by_cases h2 : C 2
  · exact Or.inl ⟨2, by decide, h2, by rw [if_neg h0, if_neg h1, if_pos h2]; rfl⟩
  by_cases h3 : C 3
  · exact Or.inl ⟨3, by decide, h3, by rw [if_neg h0, if_neg h1, if_neg h2, if_pos h3]; rfl⟩
  by_cases h4 : C 4
  · exact Or.inl ⟨4, by decide, h4, by rw [if_neg h0, if_neg h1, if_neg h2, if_neg h3, if_pos h4]; rfl⟩
  by_cases h5 : C 5
  · exact Or.inl ⟨5, by decide, h5, by rw [if_neg h0, if_neg h1, if_neg h2, if_neg h3, if_neg h4, if_pos h5]; rfl⟩
  by_cases h6 : C 6
  · exact Or.inl ⟨6, by decide, h6, by rw [if_neg h0, if_neg h1, if_neg h2, if_neg h3, if_neg h4, if_neg h5, if_pos h6]; rfl⟩
  by_cases h7 : C 7
  · exact Or.inl ⟨7, by decide, h7, by rw [if_neg h0, if_neg h1, if_neg h2, if_neg h3, if_neg h4, if_neg h5, if_neg h6, if_pos h7]; rfl⟩
  by_cases h8 : C 8
  · exact Or.inl ⟨8, by decide, h8, by rw [if_neg h0, if_neg h1, if_neg h2, if_neg h3, if_neg h4, if_neg h5, if_neg h6, if_neg h7, if_pos h8]; rfl⟩
  by_cases h9 : C 9
  · exact Or.inl ⟨9, by decide, h9, by rw [if_neg h0, if_neg h1, if_neg h2, if_neg h3, if_neg h4, if_neg h5, if_neg h6, if_neg h7, if_neg h8, if_pos h9]; rfl⟩
  by_cases h10 : C 10
  · exact Or.inl ⟨10, by decide, h10, by rw [if_neg h0, if_neg h1, if_neg h2, if_neg h3, if_neg h4, if_neg h5, if_neg h6, if_neg h7, if_neg h8, if_neg h9, if_pos h10]; rfl⟩
  refine Or.inr ⟨fun w hw => ?_, by rw [if_neg h0, if_neg h1, if_neg h2, if_neg h3, if_neg h4, if_neg h5, if_neg h6, if_neg h7, if_neg h8, if_neg h9, if_neg h10]⟩
  rcases (show w = 0 ∨ w = 1 ∨ w = 2 ∨ w = 3 ∨ w = 4 ∨ w = 5 ∨ w = 6 ∨ w = 7 ∨ w = 8 ∨ w = 9 ∨ w = 10 by omega) with rfl | rfl | rfl | rfl | rfl | rfl | rfl | rfl | rfl | rfl | rfl <;> assumption
theorem zch_inj : ∀ a, a < 11 → ∀ b, b < 11 → zlen.getD (a + 11) 0 = zlen.getD (b + 11) 0 → (∀ k, k < zlen.getD (a + 11) 0 → zch (a + 11) (nI k) = zch (b + 11) (nI k)) → a = b := by decide +kernel
theorem isW_u {a b : Nat} (ha : a < 11) (hb : b < 11) (h : isW t n i (a + 11)) (h2 : isW t n i (b + 11)) : a = b := by
  have e : zlen.getD (a + 11) 0 = zlen.getD (b + 11) 0 := by
    have := h.2.1
    have := h2.2.1
    omega
  exact zch_inj a ha b hb e (fun k hk => (h.2.2 k hk).symm.trans (h2.2.2 k (e ▸ hk)))
theorem cod_i : ∀ a, a < 11 → ∀ b, b < 11 → cod.getD a 0 = cod.getD b 0 → a = b := by decide +kernel
theorem cod_n : ∀ a, a < 11 → ¬ cod.getD a 0 = -1 ∧ ((10 : Int32) ≤ cod.getD a 0 ↔ 5 ≤ a) := by decide +kernel
theorem wv_iff {w : Nat} (hw : w < 11) : wv t n i = cod.getD w 0 ↔ isW t n i (w + 11) := by
  rcases wvF_spec (C := fun w => isW t n i (w + 11)) with ⟨v, hv, cv, e⟩ | ⟨h, e⟩
  · constructor
    · intro q
      have := cod_i v hv w hw (e.symm.trans q)
      rw [← this]; exact cv
    · intro q
      have := isW_u hv hw cv q
      rw [← this]; exact e
  · constructor
    · intro q
      exact absurd (q.symm.trans e) (cod_n w hw).1
    · intro q
      exact absurd q (h w hw)
theorem wv_px : (10 : Int32) ≤ wv t n i ↔ isPx t n i := by
  rcases wvF_spec (C := fun w => isW t n i (w + 11)) with ⟨v, hv, cv, e⟩ | ⟨h, e⟩
  · have e : wv t n i = cod.getD v 0 := e
    rw [e, (cod_n v hv).2]
    constructor
    · intro q
      exact ⟨v - 5, by omega, by rw [show 16 + (v - 5) = v + 11 by omega]; exact cv⟩
    · rintro ⟨k, hk, hw⟩
      have := isW_u hv (show k + 5 < 11 by omega) cv (by rw [show k + 5 + 11 = 16 + k by omega]; exact hw)
      omega
  · have e : wv t n i = -1 := e
    rw [e]
    constructor
    · intro q
      exact absurd q (by decide)
    · rintro ⟨k, hk, hw⟩
      exact absurd (show isW t n i (k + 5 + 11) by rw [show k + 5 + 11 = 16 + k by omega]; exact hw) (h (k + 5) (by omega))
end CFAM2

section CSUM
variable {N : Nat} {t : Nat → Int32} {n c : Nat} {m : Int32}
/-- the machine ends in a fault -/
def Flt (t : Nat → Int32) (n : Nat) (m : Int32) (a : Cf) : Prop := ∃ e : Cf, Rch t n m a e ∧ (stp t n m e = none ∨ (stp t n m e = some none ∧ true ∈ e.2.2.1))
theorem Flt.st {a b : Cf} (h : stp t n m a = some (some b)) (h2 : Flt t n m b) : Flt t n m a := by
  obtain ⟨e, h3, h4⟩ := h2
  exact ⟨e, Rch.st h h3, h4⟩
theorem Flt.tr {a b : Cf} (h : Rch t n m a b) (h2 : Flt t n m b) : Flt t n m a := by
  obtain ⟨e, h3, h4⟩ := h2
  exact ⟨e, h.tr h3, h4⟩
theorem Flt.nn {a : Cf} (h : stp t n m a = none) : Flt t n m a := ⟨a, Rch.rf, Or.inl h⟩
/-- what a part leaves behind: read to j, L1 stands unclosed -/
def PQ (t : Nat → Int32) (n c : Nat) (m : Int32) (i : Nat) (L L1 : List Bool) (sg : Nat) (σ : zS) (r : Int32 × zS) : Prop := Fr σ r.2 ∧ ((r.1 = 1 ∧ ∃ j s1, (Rch t n m (i, false, L, sg) (j, true, L1, s1) ∧ sg ≤ s1) ∧ CA (r.2.1 57 9) t n c j ∧ (r.2.1 57 8).toInt = (s1 : Int) ∧ s1 ≤ 24) ∨ (r.1 = 0 ∧ Flt t n m (i, false, L, sg)))
def SQ (t : Nat → Int32) (n c : Nat) (m : Int32) (i : Nat) (L : List Bool) (sg : Nat) (σ : zS) (r : Int32 × zS) : Prop := Fr σ r.2 ∧ ((r.1 = 1 ∧ ∃ j s1, ((Rch t n m (i, false, L, sg) (j, true, L, s1) ∧ sg ≤ s1) ∧ ¬ isCb (tkK t n j)) ∧ CA (r.2.1 57 9) t n c j ∧ (r.2.1 57 8).toInt = (s1 : Int) ∧ s1 ≤ 24) ∨ (r.1 = 0 ∧ Flt t n m (i, false, L, sg)))
def PH (t : Nat → Int32) (n c : Nat) (m : Int32) (i : Nat) (L : List Bool) (sg : Nat) (x : Int32) (σ : zS) : Prop := (CB σ t n c ∧ CA (σ.1 57 9) t n c i ∧ σ.1 57 7 = m) ∧ ((σ.1 57 8).toInt = (sg : Int) ∧ sg ≤ 24) ∧ x.toInt = (L.length : Int) ∧ L.length ≤ 6
theorem rz01 {v : Int32} {A B : Prop} (h : (v = 1 ∧ A) ∨ (v = 0 ∧ B)) : v = 0 ∨ v = 1 := h.elim (fun z => Or.inr z.1) (fun z => Or.inl z.1)
theorem isCb_ck {k : Int32} : isCb (ck k) ↔ isCb k := by
  unfold isCb
  rw [ck_s (x := 43) (by decide), ck_s (x := 45) (by decide), ck_s (x := 38) (by decide), ck_s (x := 42) (by decide), ck_s (x := 47) (by decide), ck_s (x := 37) (by decide), ck_s (x := 35) (by decide)]
theorem wordPart_s {dd i sg : Nat} {L : List Bool} {x1 x2 : Int32} {σ : zS} (hk : tkK t n i = 1) (hx : x1 = wv t n i) (H : PH t n c m i L sg x2 σ)
    (ih : ∀ (i : Nat) (L : List Bool) (sg : Nat) (x : Int32) (σ : zS), PH t n c m i L sg x σ → 3 * (7 - L.length) + 1 < dd → Ok (f_X5_part N dd 57 x σ) (PQ t n c m i L (popP L) sg σ)) (hm : 3 * (7 - L.length) < dd + 1) : Ok (B_X5_wordPart N (f_X5_sum N dd) (f_X5_part N dd) (f_X5_wordPart N dd) 57 x1 x2 σ) (PQ t n c m i L (popP L) sg σ) := by
  obtain ⟨⟨hB, hA, h7⟩, ⟨h8, hsg⟩, hd, hL⟩ := H
  have n40 : ¬ tkK t n i = 40 := by rw [hk]; decide
  have i5 : x1 = 5 ↔ isW t n i 15 := by rw [hx]; exact wv_iff (w := 4) (by decide)
  have i10 : 10 ≤ x1 ↔ isPx t n i := by rw [hx]; exact wv_px
  rw [B_X5_wordPart.eq_1]
  refine ok_if (fun q => ?_) (fun q => ?_)
  · have a15 := i5.mp q
    have npx : ¬ (isPx t n i ∨ tkK t n i = 40) := fun z => z.elim (fun z => by have := i10.mpr z; rw [q] at this; exact absurd this (by decide)) n40
    refine ok_gC rfl (ok_zb (xs_pass hB hA (by decide)) (fun v σ1 h1 => ?_))
    obtain ⟨f1, h1⟩ := h1
    have f1 : F8 σ σ1 := f1
    have h1 := h1.resolve_right (fun z => z.2 (ck_w.mpr hk))
    have v1 : v = 1 := h1.1
    refine ok_if (fun q => absurd (v1.symm.trans q) (by decide)) (fun _ => ?_)
    refine ok_gC rfl (ok_zb (xs_emit (CB_fr f1.1 hB)) (fun w σ2 h2 => ?_))
    have w1 : w = 1 := h2.1
    refine ok_if (fun q => absurd (w1.symm.trans q) (by decide)) (fun _ => ?_)
    have f2 : F8 σ σ2 := f1.tr h2.2.1
    refine ok_rZ (Or.inr rfl) ⟨f2.1, Or.inl ⟨rfl, tkE t n i, sg, ⟨Rch.st (stp_a npx a15) Rch.rf, Nat.le_refl _⟩, ?_, ?_, hsg⟩⟩
    · show CA (σ2.1 57 9) t n c _
      rw [show σ2.1 57 9 = σ1.1 57 9 from h2.2.2]; exact h1.2.2
    · show (σ2.1 57 8).toInt = _
      rw [f2.2]; exact h8
  · have n15 : ¬ isW t n i 15 := fun z => q (i5.mpr z)
    refine ok_if (fun q2 => ?_) (fun q2 => ?_)
    · have px : isPx t n i ∨ tkK t n i = 40 := Or.inl (i10.mp q2)
      refine ok_if (fun q3 => ?_) (fun q3 => ?_)
      · rw [Int32.le_iff_toInt_le] at q3
        simp only [Int32.reduceToInt] at q3
        rw [J_X5_wordPart_52.eq_1]
        refine ok_gC rfl (ok_zb (xa_0 hB hA) (fun v σ1 h1 => ?_))
        have v0 : v = 0 := h1.1
        have f1 : F8 σ σ1 := h1.2
        refine ok_if (fun _ => ok_rZ (Or.inl rfl) ⟨f1.1, Or.inr ⟨rfl, Flt.nn ((stp_o px).trans (if_pos (by omega)))⟩⟩) (fun q => absurd v0 q)
      · rw [Int32.le_iff_toInt_le] at q3
        simp only [Int32.reduceToInt] at q3
        rw [J_X5_wordPart_52.eq_1]
        refine ok_gC rfl (ok_zb (xa_1 hB hA (by rw [hk]; decide)) (fun v σ1 h1 => ?_))
        obtain ⟨v1, f1, A1, _⟩ := h1
        have v1 : v = 1 := v1
        have f1 : F8 σ σ1 := f1
        refine ok_if (fun q => absurd (v1.symm.trans q) (by decide)) (fun _ => ?_)
        have hs : (x2 + 1).toInt = x2.toInt + 1 := by rw [ti_add]; simp only [Int32.reduceToInt]; omega
        have s1 : stp t n m (i, false, L, sg) = some (some (tkE t n i, false, false :: L, sg)) := by
          refine (stp_o px).trans ((if_neg (by omega)).trans ?_)
          rw [decide_eq_false n40]
        refine ok_gC rfl (ok_zb (ih (tkE t n i) (false :: L) sg (x2 + 1) σ1 ⟨⟨CB_fr f1.1 hB, A1, f1.1.2.2.trans h7⟩, ⟨by rw [f1.2]; exact h8, hsg⟩, by rw [hs, List.length_cons]; omega, by rw [List.length_cons]; omega⟩ (by rw [List.length_cons]; omega)) (fun w σ2 h2 => ?_))
        obtain ⟨f2, h2⟩ := h2
        have f2 : Fr σ σ2 := f1.1.tr f2
        refine ok_if (fun q => ?_) (fun q => ?_)
        · have h2 := h2.resolve_left (fun z => absurd (z.1.symm.trans q) (by decide))
          exact ok_rZ (Or.inl rfl) ⟨f2, Or.inr ⟨rfl, Flt.st s1 h2.2⟩⟩
        · have h2 := h2.resolve_right (fun z => q z.1)
          obtain ⟨_, j, s2, ⟨rc, le⟩, A2, e8, l24⟩ := h2
          have A2 : CA (σ2.1 57 9) t n c j := A2
          have e8 : (σ2.1 57 8).toInt = (s2 : Int) := e8
          refine ok_gC rfl (ok_zb (xs_emit (CB_fr f2 hB)) (fun w σ3 h3 => ?_))
          have w1 : w = 1 := h3.1
          have f3 : F9 σ2 σ3 := h3.2
          refine ok_if (fun q => absurd (w1.symm.trans q) (by decide)) (fun _ => ?_)
          refine ok_rZ (Or.inr rfl) ⟨f2.tr f3.1.1, Or.inl ⟨rfl, j, s2, ⟨Rch.st s1 rc, le⟩, ?_, ?_, l24⟩⟩
          · show CA (σ3.1 57 9) t n c _
            rw [f3.2]; exact A2
          · show (σ3.1 57 8).toInt = _
            rw [f3.1.2]; exact e8
    · have npx : ¬ (isPx t n i ∨ tkK t n i = 40) := fun z => z.elim (fun z => q2 (i10.mpr z)) n40
      refine ok_gC rfl (ok_zb (xs_fail hB hA) (fun v σ1 h1 => ?_))
      have v0 : v = 0 := h1.1
      have f1 : F8 σ σ1 := h1.2
      exact ok_rZ (Or.inl v0) ⟨f1.1, Or.inr ⟨v0, Flt.nn (stp_z npx (by rw [hk]; decide) (by rw [hk]; decide) n15)⟩⟩
theorem part_s {dd i sg : Nat} {L : List Bool} {x1 : Int32} {σ : zS} (hN : 1048576 ≤ N) (H : PH t n c m i L sg x1 σ)
    (ihs : ∀ (i : Nat) (L : List Bool) (sg : Nat) (x : Int32) (σ : zS), PH t n c m i L sg x σ → popP L = L → 3 * (7 - L.length) + 2 < dd → Ok (f_X5_sum N dd 57 x σ) (SQ t n c m i L sg σ))
    (ihw : ∀ (i : Nat) (L : List Bool) (sg : Nat) (x y : Int32) (σ : zS), PH t n c m i L sg x σ → tkK t n i = 1 → y = wv t n i → 3 * (7 - L.length) < dd → Ok (f_X5_wordPart N dd 57 y x σ) (PQ t n c m i L (popP L) sg σ)) (hm : 3 * (7 - L.length) + 1 < dd + 1) : Ok (B_X5_part N (f_X5_sum N dd) (f_X5_part N dd) (f_X5_wordPart N dd) 57 x1 σ) (PQ t n c m i L (popP L) sg σ) := by
  have H0 := H
  obtain ⟨⟨hB, hA, h7⟩, ⟨h8, hsg⟩, hd, hL⟩ := H
  have hb := CA_b hA hB.2.1.1.2.2
  have row := CA_row hB.2.1 hA
  rw [B_X5_part.eq_1]
  refine ok_gR (Sx := []) (v := 61) Tr.rf rfl (hB.1.1 57 10 rfl) ?_
  refine ok_gI rfl ?_
  refine ok_aIn (n := 601) rfl hb.1 (by omega) (fun v3 e3 => ?_)
  have e3 : v3 = ck (tkK t n i) := e3.trans row.1.1
  refine ok_if (fun q => ?_) (fun q2 => ?_)
  · have hk : tkK t n i = 1 := ck_w.mp (e3.symm.trans q)
    refine ok_gR (Sx := []) (v := 62) Tr.rf rfl (hB.1.1 57 11 rfl) ?_
    refine ok_gI rfl ?_
    refine ok_aIn (n := 601) rfl hb.1 (by omega) (fun v6 e6 => ?_)
    refine ok_gC rfl (ok_zb (ihw i L sg x1 v6 σ H0 hk (e6.trans (row.2.2 hk)) (by omega)) (fun v σ1 h1 => ?_))
    exact ok_rZ (rz01 h1.2) h1
  have nw : ¬ tkK t n i = 1 := fun z => q2 (e3.trans (ck_w.mpr z))
  have npx : ¬ isPx t n i := fun ⟨k, _, hw⟩ => nw hw.1
  refine ok_if (fun q => ?_) (fun q3 => ?_)
  · have hk : tkK t n i = 2 := ck_n.mp (e3.symm.trans q)
    have np : ¬ (isPx t n i ∨ tkK t n i = 40) := fun z => z.elim npx (fun z => absurd (hk.symm.trans z) (by decide))
    refine ok_gC rfl (ok_zb (xs_passNumber hB hA (by decide)) (fun v σ1 h1 => ?_))
    obtain ⟨f1, h1⟩ := h1
    have f1 : F8 σ σ1 := f1
    refine ok_if (fun q => ?_) (fun q => ?_)
    · have h1 := h1.resolve_left (fun z => absurd (z.1.symm.trans q) (by decide))
      exact ok_rZ (Or.inl rfl) ⟨f1.1, Or.inr ⟨rfl, Flt.nn ((stp_n np hk).trans (if_neg h1.2))⟩⟩
    · have h1 := h1.resolve_right (fun z => q z.1)
      obtain ⟨_, ⟨ok, A1⟩, p1, _⟩ := h1
      have A1 : CA (σ1.1 57 9) t n c (tkE t n i) := A1
      have B1 := CB_fr f1.1 hB
      refine ok_gC rfl (ok_zbX (Q := fun v => v = lastv σ1.1) (xs_passed B1 A1 p1) (fun v11 _ => ?_))
      refine ok_gC rfl (ok_zb (xs_emit B1) (fun w σ2 h2 => ?_))
      have w1 : w = 1 := h2.1
      have f2 : F9 σ1 σ2 := h2.2
      refine ok_if (fun q => absurd (w1.symm.trans q) (by decide)) (fun _ => ?_)
      refine ok_rZ (Or.inr rfl) ⟨(f1.tr f2.1).1, Or.inl ⟨rfl, tkE t n i, sg, ⟨Rch.st ((stp_n np hk).trans (if_pos ok)) Rch.rf, Nat.le_refl _⟩, ?_, ?_, hsg⟩⟩
      · show CA (σ2.1 57 9) t n c _
        rw [f2.2]; exact A1
      · show (σ2.1 57 8).toInt = _
        rw [f2.1.2, f1.2]; exact h8
  have nn : ¬ tkK t n i = 2 := fun z => q3 (e3.trans (ck_n.mpr z))
  refine ok_if (fun q => ?_) (fun q40 => ?_)
  · have hk : tkK t n i = 40 := (ck_s (by decide)).mp (e3.symm.trans q)
    have px : isPx t n i ∨ tkK t n i = 40 := Or.inr hk
    refine ok_if (fun q3 => ?_) (fun q3 => ?_)
    · rw [Int32.le_iff_toInt_le] at q3
      simp only [Int32.reduceToInt] at q3
      rw [J_X5_part_97.eq_1]
      refine ok_gC rfl (ok_zb (xa_0 hB hA) (fun v σ1 h1 => ?_))
      have v0 : v = 0 := h1.1
      have f1 : F8 σ σ1 := h1.2
      refine ok_if (fun _ => ok_rZ (Or.inl rfl) ⟨f1.1, Or.inr ⟨rfl, Flt.nn ((stp_o px).trans (if_pos (by omega)))⟩⟩) (fun q => absurd v0 q)
    · rw [Int32.le_iff_toInt_le] at q3
      simp only [Int32.reduceToInt] at q3
      rw [J_X5_part_97.eq_1]
      refine ok_gC rfl (ok_zb (xa_1 hB hA (by rw [hk]; decide)) (fun v σ1 h1 => ?_))
      obtain ⟨v1, f1, A1, _⟩ := h1
      have v1 : v = 1 := v1
      have f1 : F8 σ σ1 := f1
      refine ok_if (fun q => absurd (v1.symm.trans q) (by decide)) (fun _ => ?_)
      have hs : (x1 + 1).toInt = x1.toInt + 1 := by rw [ti_add]; simp only [Int32.reduceToInt]; omega
      have s1 : stp t n m (i, false, L, sg) = some (some (tkE t n i, false, true :: L, sg)) := by
        refine (stp_o px).trans ((if_neg (by omega)).trans ?_)
        rw [decide_eq_true hk]
      refine ok_gC rfl (ok_zb (ihs (tkE t n i) (true :: L) sg (x1 + 1) σ1 ⟨⟨CB_fr f1.1 hB, A1, f1.1.2.2.trans h7⟩, ⟨by rw [f1.2]; exact h8, hsg⟩, by rw [hs, List.length_cons]; omega, by rw [List.length_cons]; omega⟩ rfl (by rw [List.length_cons]; omega)) (fun w σ2 h2 => ?_))
      obtain ⟨f2, h2⟩ := h2
      have f2 : Fr σ σ2 := f1.1.tr f2
      refine ok_if (fun q => ?_) (fun q => ?_)
      · have h2 := h2.resolve_left (fun z => absurd (z.1.symm.trans q) (by decide))
        exact ok_rZ (Or.inl rfl) ⟨f2, Or.inr ⟨rfl, Flt.st s1 h2.2⟩⟩
      · have h2 := h2.resolve_right (fun z => q z.1)
        obtain ⟨_, j, s2, ⟨⟨rc, le⟩, ncb⟩, A2, e8, l24⟩ := h2
        have A2 : CA (σ2.1 57 9) t n c j := A2
        have e8 : (σ2.1 57 8).toInt = (s2 : Int) := e8
        refine ok_gC rfl (ok_zb (xs_pass (CB_fr f2 hB) A2 (by decide)) (fun w σ3 h3 => ?_))
        obtain ⟨f3, h3⟩ := h3
        have f3 : F8 σ2 σ3 := f3
        refine ok_if (fun q => ?_) (fun q => ?_)
        · have h3 := h3.resolve_left (fun z => absurd (z.1.symm.trans q) (by decide))
          refine ok_rZ (Or.inl rfl) ⟨f2.tr f3.1, Or.inr ⟨rfl, _, Rch.st s1 rc, Or.inr ⟨stp_e ncb (fun z => h3.2 ((ck_s (by decide)).mpr z.1)), List.mem_cons_self⟩⟩⟩
        · have h3 := h3.resolve_right (fun z => q z.1)
          refine ok_rZ (Or.inr rfl) ⟨f2.tr f3.1, Or.inl ⟨rfl, tkE t n j, s2, ⟨(Rch.st s1 rc).sn (stp_p ncb ⟨(ck_s (by decide)).mp h3.2.1, List.mem_cons_self⟩), le⟩, h3.2.2, ?_, l24⟩⟩
          show (σ3.1 57 8).toInt = _
          rw [f3.2]; exact e8
  have n40 : ¬ tkK t n i = 40 := fun z => q40 (e3.trans ((ck_s (by decide)).mpr z))
  have np : ¬ (isPx t n i ∨ tkK t n i = 40) := fun z => z.elim npx n40
  refine ok_if (fun q => ?_) (fun q123 => ?_)
  · have hk : tkK t n i = 123 := (ck_s (by decide)).mp (e3.symm.trans q)
    refine ok_gC rfl (ok_zb (xs_family hN hB hA h7 hk) (fun v σ1 h1 => ?_))
    obtain ⟨f1, h1⟩ := h1
    have f1 : F8 σ σ1 := f1
    rcases h1 with ⟨v1, j, fj, A1⟩ | ⟨v0, fj⟩
    · have v1 : v = 1 := v1
      refine ok_rZ (Or.inr v1) ⟨f1.1, Or.inl ⟨v1, j, sg, ⟨Rch.st ((stp_f np hk).trans (by rw [fj]; rfl)) Rch.rf, Nat.le_refl _⟩, A1, ?_, hsg⟩⟩
      show (σ1.1 57 8).toInt = _
      rw [f1.2]; exact h8
    · have v0 : v = 0 := v0
      exact ok_rZ (Or.inl v0) ⟨f1.1, Or.inr ⟨v0, Flt.nn ((stp_f np hk).trans (by rw [fj]; rfl))⟩⟩
  · refine ok_gC rfl (ok_zb (xs_fail hB hA) (fun v σ1 h1 => ?_))
    have v0 : v = 0 := h1.1
    have f1 : F8 σ σ1 := h1.2
    exact ok_rZ (Or.inl v0) ⟨f1.1, Or.inr ⟨v0, Flt.nn (stp_z np nn (fun z => q123 (e3.trans ((ck_s (by decide)).mpr z))) (fun z => nw z.1))⟩⟩
theorem sum_s {dd i sg : Nat} {L : List Bool} {x1 : Int32} {σ : zS} (hN : 1048576 ≤ N) (H : PH t n c m i L sg x1 σ) (hp : popP L = L)
    (ih : ∀ (i : Nat) (L : List Bool) (sg : Nat) (x : Int32) (σ : zS), PH t n c m i L sg x σ → 3 * (7 - L.length) + 1 < dd → Ok (f_X5_part N dd 57 x σ) (PQ t n c m i L (popP L) sg σ)) (hm : 3 * (7 - L.length) + 2 < dd + 1) : Ok (B_X5_sum N (f_X5_sum N dd) (f_X5_part N dd) (f_X5_wordPart N dd) 57 x1 σ) (SQ t n c m i L sg σ) := by
  have H0 := H
  obtain ⟨⟨hB, hA, h7⟩, ⟨h8, hsg⟩, hd, hL⟩ := H
  rw [B_X5_sum.eq_1]
  refine ok_gC rfl (ok_zb (ih i L sg x1 σ H0 (by omega)) (fun v σ1 h1 => ?_))
  obtain ⟨f1, h1⟩ := h1
  have f1 : Fr σ σ1 := f1
  refine ok_if (fun q => ?_) (fun q => ?_)
  · have h1 := h1.resolve_left (fun z => absurd (z.1.symm.trans q) (by decide))
    exact ok_rZ (Or.inl rfl) ⟨f1, Or.inr ⟨rfl, h1.2⟩⟩
  have h1 := h1.resolve_right (fun z => q z.1)
  obtain ⟨_, j, s1, ⟨rc, le⟩, A1, e8, l24⟩ := h1
  rw [hp] at rc
  refine ok_lp (fun s : Int32 × Int32 × zS => Fr σ s.2.2 ∧ 0 ≤ s.2.1.toInt ∧ ∃ j s1 : Nat, ((Rch t n m (i, false, L, sg) (j, true, L, s1) ∧ sg ≤ s1) ∧ CA (s.2.2.1 57 9) t n c j ∧ (s.2.2.1 57 8).toInt = (s1 : Int) ∧ s1 ≤ 24) ∧ s.2.1.toInt ≤ (s1 : Int)) (fun s => (601 - s.2.1.toInt).toNat) (fun again s hI ihl => ?_) N _ ⟨f1, (by decide : 0 ≤ (0 : Int32).toInt), j, s1, ⟨⟨rc, le⟩, A1, e8, l24⟩, by show (0 : Int32).toInt ≤ _; simp only [Int32.reduceToInt]; omega⟩ (by show (601 - (0 : Int32).toInt).toNat < N; simp only [Int32.reduceToInt]; omega)
  clear rc le A1 e8 l24 f1
  obtain ⟨x2, x3, σ'⟩ := s
  obtain ⟨f1, hx, j, s1, ⟨⟨rc, le⟩, A1, e8, l24⟩, hx3⟩ := hI
  have f1 : Fr σ σ' := f1
  have hx : 0 ≤ x3.toInt := hx
  have A1 : CA (σ'.1 57 9) t n c j := A1
  have e8 : (σ'.1 57 8).toInt = (s1 : Int) := e8
  have hx3 : x3.toInt ≤ (s1 : Int) := hx3
  have B1 := CB_fr f1 hB
  have hb := CA_b A1 B1.2.1.1.2.2
  have row := CA_row B1.2.1 A1
  rw [F_X5_sum_14.eq_1]
  refine ok_if (fun q => absurd q (by rw [Int32.le_iff_toInt_le]; simp only [Int32.reduceToInt]; omega)) (fun _ => ?_)
  refine ok_gR (Sx := []) (v := 61) Tr.rf rfl (B1.1.1 57 10 rfl) ?_
  refine ok_gI rfl ?_
  refine ok_aIn (n := 601) rfl hb.1 (by omega) (fun v7 e7 => ?_)
  have e7 : v7 = ck (tkK t n j) := e7.trans row.1.1
  refine ok_zbX (Q := fun v => (v = -1 ∧ ¬ isCb v7) ∨ ((0 ≤ v.toInt ∧ v.toInt ≤ 6) ∧ isCb v7)) x_X5_combination (fun v8 h8' => ?_)
  rw [e7, isCb_ck] at h8'
  refine ok_if (fun q => ?_) (fun q => ?_)
  · rw [Int32.lt_iff_toInt_lt] at q
    simp only [Int32.reduceToInt] at q
    have ncb := (h8'.resolve_right (fun z => by omega)).2
    rw [J_X5_sum_151.eq_1]
    refine ok_if (fun _ => ok_rZ (Or.inr rfl) ⟨f1, Or.inl ⟨rfl, j, s1, ⟨⟨rc, le⟩, ncb⟩, A1, e8, l24⟩⟩) (fun _ => ?_)
    refine ok_gC rfl (ok_zb (xs_emit B1) (fun w σ3 h3 => ?_))
    have w1 : w = 1 := h3.1
    have f3 : F9 σ' σ3 := h3.2
    refine ok_if (fun q => absurd (w1.symm.trans q) (by decide)) (fun _ => ?_)
    refine ok_rZ (Or.inr rfl) ⟨f1.tr f3.1.1, Or.inl ⟨rfl, j, s1, ⟨⟨rc, le⟩, ncb⟩, ?_, ?_, l24⟩⟩
    · show CA (σ3.1 57 9) t n c _
      rw [f3.2]; exact A1
    · show (σ3.1 57 8).toInt = _
      rw [f3.1.2]; exact e8
  have cb := (h8'.resolve_left (fun z => q (by rw [z.1]; decide))).2
  have go : ∀ (σ2 : zS) (x4 y0 : Int32), F9 σ' σ2 → Ok (J_X5_sum_84 N (f_X5_sum N dd) (f_X5_part N dd) (f_X5_wordPart N dd) again 57 x1 x2 x3 x4 y0 σ2) (SQ t n c m i L sg σ) := by
    intro σ2 x4 y0 f2
    have F2 := f1.tr f2.1.1
    have B2 := CB_fr F2 hB
    have A2 : CA (σ2.1 57 9) t n c j := by rw [f2.2]; exact A1
    have e2 : (σ2.1 57 8).toInt = (s1 : Int) := by rw [f2.1.2]; exact e8
    have hs8 : (σ2.1 57 8 + 1).toInt = (s1 : Int) + 1 := by rw [ti_add]; simp only [Int32.reduceToInt]; omega
    rw [J_X5_sum_84.eq_1]
    refine ok_gI rfl ?_
    refine ok_pI (Sx := [57]) Tr.rf rfl (by decide) (fun σ3 e3 hO3 _ => ?_)
    refine ok_gI rfl ?_
    have v17 : σ3.1 57 8 = σ2.1 57 8 + 1 := zI_atI e3
    have f3 : Fr σ2 σ3 := ⟨hO3.wk (by decide), zI_atN e3 (by decide), zI_atN e3 (by decide)⟩
    have A3 : CA (σ3.1 57 9) t n c j := by rw [show σ3.1 57 9 = σ2.1 57 9 from zI_atN e3 (by decide)]; exact A2
    have B3 := CB_fr f3 B2
    have F3 := F2.tr f3
    rw [v17]
    refine ok_if (fun q => ?_) (fun q => ?_)
    · rw [Int32.lt_iff_toInt_lt, hs8] at q
      simp only [Int32.reduceToInt] at q
      rw [J_X5_sum_109.eq_1]
      refine ok_gC rfl (ok_zb (xa_0 B3 A3) (fun v σ4 h4 => ?_))
      have v0 : v = 0 := h4.1
      have f4 : F8 σ3 σ4 := h4.2
      exact ok_if (fun _ => ok_rZ (Or.inl rfl) ⟨F3.tr f4.1, Or.inr ⟨rfl, Flt.tr rc (Flt.nn ((stp_c cb).trans (if_pos (by omega))))⟩⟩) (fun q => absurd v0 q)
    · rw [Int32.lt_iff_toInt_lt, hs8] at q
      simp only [Int32.reduceToInt] at q
      have k0 : ¬ tkK t n j = 0 := fun z => by rw [z] at cb; revert cb; unfold isCb; decide
      have s2 : stp t n m (j, true, L, s1) = some (some (tkE t n j, false, L, s1 + 1)) := (stp_c cb).trans (if_neg (by omega))
      rw [J_X5_sum_109.eq_1]
      refine ok_gC rfl (ok_zb (xa_1 B3 A3 k0) (fun v σ4 h4 => ?_))
      obtain ⟨v1, f4, A4, _⟩ := h4
      have v1 : v = 1 := v1
      have f4 : F8 σ3 σ4 := f4
      refine ok_if (fun q => absurd (v1.symm.trans q) (by decide)) (fun _ => ?_)
      have F4 := F3.tr f4.1
      refine ok_gC rfl (ok_zb (ih (tkE t n j) L (s1 + 1) x1 σ4 ⟨⟨CB_fr F4 hB, A4, F4.2.2.trans h7⟩, ⟨by rw [f4.2, v17, hs8]; omega, by omega⟩, hd, hL⟩ (by omega)) (fun w σ5 h5 => ?_))
      obtain ⟨f5, h5⟩ := h5
      have F5 : Fr σ σ5 := F4.tr f5
      refine ok_if (fun q => ?_) (fun q => ?_)
      · have h5 := h5.resolve_left (fun z => absurd (z.1.symm.trans q) (by decide))
        exact ok_rZ (Or.inl rfl) ⟨F5, Or.inr ⟨rfl, Flt.tr (rc.sn s2) h5.2⟩⟩
      · have h5 := h5.resolve_right (fun z => q z.1)
        obtain ⟨_, j5, s5, ⟨rc5, le5⟩, A5, e5, l5⟩ := h5
        rw [hp] at rc5
        have A5 : CA (σ5.1 57 9) t n c j5 := A5
        have e5 : (σ5.1 57 8).toInt = (s5 : Int) := e5
        have hs : (x3 + 1).toInt = x3.toInt + 1 := by rw [ti_add]; simp only [Int32.reduceToInt]; omega
        have fin : ∀ (y : Int32) (σ6 : zS), F9 σ5 σ6 → Ok (again (y, x3 + 1, σ6)) (SQ t n c m i L sg σ) := fun y σ6 f6 => ihl (y, x3 + 1, σ6) ⟨F5.tr f6.1.1, (by rw [hs]; omega : 0 ≤ (x3 + 1).toInt), j5, s5, ⟨⟨(rc.sn s2).tr rc5, by omega⟩, by show CA (σ6.1 57 9) t n c _; rw [f6.2]; exact A5, by show (σ6.1 57 8).toInt = _; rw [f6.1.2]; exact e5, l5⟩, by show (x3 + 1).toInt ≤ _; rw [hs]; omega⟩ (by show (601 - (x3 + 1).toInt).toNat < (601 - x3.toInt).toNat; omega)
        refine ok_if (fun _ => ?_) (fun _ => fin x4 σ5 ⟨F8.rf, rfl⟩)
        refine ok_gC rfl (ok_zb (xs_emit (CB_fr F5 hB)) (fun w σ6 h6 => ?_))
        exact fin x2 σ6 h6.2
  have go66 : ∀ (x4 y0 : Int32), Ok (J_X5_sum_66 N (f_X5_sum N dd) (f_X5_part N dd) (f_X5_wordPart N dd) again 57 x1 x2 x3 x4 y0 σ') (SQ t n c m i L sg σ) := by
    intro x4 y0
    rw [J_X5_sum_66.eq_1]
    refine ok_if (fun _ => go σ' x4 y0 ⟨F8.rf, rfl⟩) (fun _ => ok_if (fun _ => go σ' x4 y0 ⟨F8.rf, rfl⟩) (fun _ => ?_))
    refine ok_gC rfl (ok_zb (xs_emit B1) (fun w σ2 h2 => ?_))
    exact go σ2 x4 y0 h2.2
  refine ok_gR (Sx := []) (v := 61) Tr.rf rfl (B1.1.1 57 10 rfl) ?_
  refine ok_gI rfl ?_
  refine ok_aIn (n := 601) rfl hb.1 (by omega) (fun v12 e12 => ?_)
  refine ok_zbX (Q := fun v => (v = -1 ∧ ¬ isCb v12) ∨ ((0 ≤ v.toInt ∧ v.toInt ≤ 6) ∧ isCb v12)) x_X5_combination (fun v13 _ => ?_)
  exact ok_if (fun _ => go66 _ _) (fun _ => ok_if (fun _ => go66 _ _) (fun _ => go66 _ _))
theorem csum_all (hN : 1048576 ≤ N) : ∀ dd : Nat, (∀ (i : Nat) (L : List Bool) (sg : Nat) (x : Int32) (σ : zS), PH t n c m i L sg x σ → popP L = L → 3 * (7 - L.length) + 2 < dd → Ok (f_X5_sum N dd 57 x σ) (SQ t n c m i L sg σ)) ∧ (∀ (i : Nat) (L : List Bool) (sg : Nat) (x : Int32) (σ : zS), PH t n c m i L sg x σ → 3 * (7 - L.length) + 1 < dd → Ok (f_X5_part N dd 57 x σ) (PQ t n c m i L (popP L) sg σ)) ∧ (∀ (i : Nat) (L : List Bool) (sg : Nat) (x y : Int32) (σ : zS), PH t n c m i L sg x σ → tkK t n i = 1 → y = wv t n i → 3 * (7 - L.length) < dd → Ok (f_X5_wordPart N dd 57 y x σ) (PQ t n c m i L (popP L) sg σ)) := by
  intro dd
  induction dd with
  | zero => exact ⟨fun _ _ _ _ _ _ _ h => absurd h (Nat.not_lt_zero _), fun _ _ _ _ _ _ h => absurd h (Nat.not_lt_zero _), fun _ _ _ _ _ _ _ _ _ h => absurd h (Nat.not_lt_zero _)⟩
  | succ dd ih =>
    refine ⟨fun i L sg x σ H hp hm => ?_, fun i L sg x σ H hm => ?_, fun i L sg x y σ H hk hy hm => ?_⟩
    · show Ok (B_X5_sum N (f_X5_sum N dd) (f_X5_part N dd) (f_X5_wordPart N dd) 57 x σ) _
      exact sum_s hN H hp ih.2.1 hm
    · show Ok (B_X5_part N (f_X5_sum N dd) (f_X5_part N dd) (f_X5_wordPart N dd) 57 x σ) _
      exact part_s hN H ih.1 ih.2.2 hm
    · show Ok (B_X5_wordPart N (f_X5_sum N dd) (f_X5_part N dd) (f_X5_wordPart N dd) 57 y x σ) _
      exact wordPart_s hk hy H ih.2.1 hm
end CSUM

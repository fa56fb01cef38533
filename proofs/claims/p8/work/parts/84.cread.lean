/-! ===== the class's reading: what is the same ===== -/
def CB (σ : zS) (t : Nat → Int32) (n c : Nat) : Prop := (RF σ.2.2 ∧ σ.2.2 57 5 = 1) ∧ CT σ.1 t n c ∧ (σ.1 57 6).toInt = (n : Int)
/-- length and names stay -/
def Fr (σ τ : zS) : Prop := Tr [57, 58, 59] σ τ ∧ τ.1 57 6 = σ.1 57 6 ∧ τ.1 57 7 = σ.1 57 7
def F8 (σ τ : zS) : Prop := Fr σ τ ∧ τ.1 57 8 = σ.1 57 8
theorem Fr.rf {σ : zS} : Fr σ σ := ⟨Tr.rf, rfl, rfl⟩
theorem F8.rf {σ : zS} : F8 σ σ := ⟨Fr.rf, rfl⟩
theorem Fr.tr {σ τ υ : zS} (h : Fr σ τ) (h2 : Fr τ υ) : Fr σ υ := ⟨h.1.up h2.1 (fun _ q => q), h2.2.1.trans h.2.1, h2.2.2.trans h.2.2⟩
theorem F8.tr {σ τ υ : zS} (h : F8 σ τ) (h2 : F8 τ υ) : F8 σ υ := ⟨h.1.tr h2.1, h2.2.trans h.2⟩
section CREAD
variable {N : Nat} {σ τ : zS} {t : Nat → Int32} {n c i : Nat}
theorem CB_fr (h : Fr σ τ) (hB : CB σ t n c) : CB τ t n c := ⟨⟨hB.1.1.tr h.1, h.1.1.2 hB.1.2⟩, CT_tr h.1 (by decide) (by decide) (by decide) (by decide) (by decide) hB.2.1, by rw [h.2.1]; exact hB.2.2⟩
theorem F8_p {j : Nat} {v : Int32} (e : τ = zI σ 57 (upd (σ.1 57) j v)) (hO : Tr [57] σ τ) (h6 : 6 ≠ j) (h7 : 7 ≠ j) (h8 : 8 ≠ j) : F8 σ τ := ⟨⟨hO.wk (by decide), zI_atN e h6, zI_atN e h7⟩, zI_atN e h8⟩
theorem xa_0 {x2 : Int32} (hB : CB σ t n c) (hA : CA (σ.1 57 9) t n c i) : Ok (f_X5_advance N 57 0 x2 σ) (fun r => r.1 = 0 ∧ F8 σ r.2) := by
  have hb := CA_b hA hB.2.1.1.2.2
  rw [f_X5_advance.eq_1]
  refine ok_if (fun _ => ?_) (fun q => absurd rfl q)
  refine ok_pI (Sx := [57]) Tr.rf rfl (by decide) (fun τ e hO hT => ?_)
  have a9 : τ.1 57 9 = σ.1 57 9 := zI_atN e (by decide)
  refine ok_gR (v := 63) hT rfl (hB.1.1 57 12 rfl) ?_
  refine ok_gI rfl ?_
  rw [a9]
  refine ok_aIn (n := 601) rfl hb.1 (by omega) (fun v _ => ?_)
  refine ok_pI hT rfl (by decide) (fun υ f hO2 hT => ?_)
  exact ok_rZ (Or.inl rfl) ⟨rfl, (F8_p e hO (by decide) (by decide) (by decide)).tr (F8_p f hO2 (by decide) (by decide) (by decide))⟩
theorem xa_1 {x2 : Int32} (hB : CB σ t n c) (hA : CA (σ.1 57 9) t n c i) (hk : ¬ tkK t n i = 0) : Ok (f_X5_advance N 57 1 x2 σ) (fun r => r.1 = 1 ∧ F8 σ r.2 ∧ CA (r.2.1 57 9) t n c (tkE t n i) ∧ (r.2.1 57 9).toInt = (σ.1 57 9).toInt + 1) := by
  have hb := CA_b hA hB.2.1.1.2.2
  have row := CA_row hB.2.1 hA
  rw [f_X5_advance.eq_1]
  refine ok_if (fun q => absurd q (by decide)) (fun _ => ?_)
  refine ok_gR (Sx := []) (v := 61) Tr.rf rfl (hB.1.1 57 10 rfl) ?_
  refine ok_gI rfl ?_
  refine ok_aIn (n := 601) rfl hb.1 (by omega) (fun v e => ?_)
  refine ok_if (fun q => absurd (ck_0.mp ((row.1.1.symm.trans (e.symm)).trans q)) hk) (fun _ => ?_)
  refine ok_gI rfl ?_
  have lt : (σ.1 57 9).toInt < 600 := by
    obtain ⟨j, hj, hc, hp⟩ := hA
    have := hB.2.1.1.2.2
    by_cases q : j = c
    · rw [q] at hp; rw [← hp] at hk; exact absurd hB.2.1.2.2.1 hk
    · omega
  have hs : (σ.1 57 9 + 1).toInt = (σ.1 57 9).toInt + 1 := by rw [ti_add]; simp only [Int32.reduceToInt]; omega
  refine ok_if (fun q => absurd q (by rw [Int32.le_iff_toInt_le]; simp only [Int32.reduceToInt]; omega)) (fun _ => ?_)
  refine ok_gI rfl ?_
  refine ok_pI (Sx := [57]) Tr.rf rfl (by decide) (fun τ f hO hT => ?_)
  have a9 : τ.1 57 9 = σ.1 57 9 + 1 := zI_atI f
  exact ok_rZ (Or.inr rfl) ⟨rfl, F8_p f hO (by decide) (by decide) (by decide), by show CA (τ.1 57 9) t n c _; rw [a9]; exact CA_next hB.2.1 hA hk hs, by show (τ.1 57 9).toInt = _; rw [a9]; exact hs⟩
theorem xs_fail {x1 : Int32} (hB : CB σ t n c) (hA : CA (σ.1 57 9) t n c i) : Ok (f_X5_fail N 57 x1 σ) (fun r => r.1 = 0 ∧ F8 σ r.2) := by
  rw [f_X5_fail.eq_1]
  refine ok_gC rfl (ok_zb (xa_0 hB hA) (fun v τ h => ?_))
  have h1 : v = 0 := h.1
  exact ok_rZ (Or.inl h1) h
theorem xs_pass {x1 : Int32} (hB : CB σ t n c) (hA : CA (σ.1 57 9) t n c i) (hx : ¬ x1 = 0) : Ok (f_X5_pass N 57 x1 σ) (fun r => F8 σ r.2 ∧ ((r.1 = 1 ∧ ck (tkK t n i) = x1 ∧ CA (r.2.1 57 9) t n c (tkE t n i)) ∨ (r.1 = 0 ∧ ¬ ck (tkK t n i) = x1))) := by
  have hb := CA_b hA hB.2.1.1.2.2
  have row := CA_row hB.2.1 hA
  rw [f_X5_pass.eq_1]
  refine ok_gR (Sx := []) (v := 61) Tr.rf rfl (hB.1.1 57 10 rfl) ?_
  refine ok_gI rfl ?_
  refine ok_aIn (n := 601) rfl hb.1 (by omega) (fun v e => ?_)
  have e : v = ck (tkK t n i) := e.trans row.1.1
  refine ok_if (fun q => ?_) (fun q => ?_)
  · refine ok_gC rfl (ok_zb (xa_1 hB hA (fun z => hx (q.symm.trans (e.trans (ck_0.mpr z))))) (fun w τ h => ?_))
    have h1 : w = 1 := h.1
    exact ok_rZ (Or.inr h1) ⟨h.2.1, Or.inl ⟨h1, e.symm.trans q, h.2.2.1⟩⟩
  · refine ok_gC rfl (ok_zb (xa_0 hB hA) (fun w τ h => ?_))
    have h1 : w = 0 := h.1
    exact ok_rZ (Or.inl h1) ⟨h.2, Or.inr ⟨h1, fun z => q (e.trans z)⟩⟩
theorem xs_passNumber {x1 x2 : Int32} (hB : CB σ t n c) (hA : CA (σ.1 57 9) t n c i) (hx : x2.toInt ≤ 99) : Ok (f_X5_passNumber N 57 x1 x2 σ) (fun r => F8 σ r.2 ∧ ((r.1 = 1 ∧ (nOK t n i x1 x2 ∧ CA (r.2.1 57 9) t n c (tkE t n i)) ∧ 1 ≤ (r.2.1 57 9).toInt ∧ (lastv r.2.1).toInt = nv5 t n i) ∨ (r.1 = 0 ∧ ¬ nOK t n i x1 x2))) := by
  have hb := CA_b hA hB.2.1.1.2.2
  have row := CA_row hB.2.1 hA
  rw [f_X5_passNumber.eq_1]
  refine ok_gR (Sx := []) (v := 61) Tr.rf rfl (hB.1.1 57 10 rfl) ?_
  refine ok_gI rfl ?_
  refine ok_aIn (n := 601) rfl hb.1 (by omega) (fun v e => ?_)
  have e : v = ck (tkK t n i) := e.trans row.1.1
  refine ok_if (fun q => ?_) (fun q => ?_)
  · have hk : tkK t n i = 2 := ck_n.mp (e.symm.trans q)
    have hv := row.2.1 hk
    refine ok_gR (Sx := []) (v := 62) Tr.rf rfl (hB.1.1 57 11 rfl) ?_
    refine ok_gI rfl ?_
    refine ok_aIn (n := 601) rfl hb.1 (by omega) (fun v6 e6 => ?_)
    rw [← e6] at hv
    refine ok_if (fun q1 => ?_) (fun q1 => ?_)
    · rw [Int32.lt_iff_toInt_lt] at q1
      refine ok_gC rfl (ok_zb (xa_0 hB hA) (fun w τ h => ?_))
      have h1 : w = 0 := h.1
      refine ok_rZ (Or.inl h1) ⟨h.2, Or.inr ⟨h1, fun z => ?_⟩⟩
      have z1 := z.2.1
      have z2 := z.2.2
      omega
    · rw [Int32.lt_iff_toInt_lt] at q1
      refine ok_gR (Sx := []) (v := 62) Tr.rf rfl (hB.1.1 57 11 rfl) ?_
      refine ok_gI rfl ?_
      refine ok_aIn (n := 601) rfl hb.1 (by omega) (fun v7 e7 => ?_)
      have e76 : v7 = v6 := e7.trans e6.symm
      subst e76
      refine ok_if (fun q2 => ?_) (fun q2 => ?_)
      · rw [Int32.lt_iff_toInt_lt] at q2
        refine ok_gC rfl (ok_zb (xa_0 hB hA) (fun w τ h => ?_))
        have h1 : w = 0 := h.1
        refine ok_rZ (Or.inl h1) ⟨h.2, Or.inr ⟨h1, fun z => ?_⟩⟩
        have z1 := z.2.1
        have z2 := z.2.2
        omega
      · rw [Int32.lt_iff_toInt_lt] at q2
        refine ok_gC rfl (ok_zb (xa_1 hB hA (by rw [hk]; decide)) (fun w τ h => ?_))
        obtain ⟨h1, h2, h3, h4⟩ := h
        have h1 : w = 1 := h1
        have h4 : (τ.1 57 9).toInt = (σ.1 57 9).toInt + 1 := h4
        refine ok_rZ (Or.inr h1) ⟨h2, Or.inl ⟨h1, ⟨⟨hk, by omega, by omega⟩, h3⟩, by show 1 ≤ (τ.1 57 9).toInt; omega, ?_⟩⟩
        have el : lastv τ.1 = σ.1 62 (σ.1 57 9).toNatClampNeg := by
          unfold lastv
          rw [h2.1.1.2 62 (by decide), h4, show ((σ.1 57 9).toInt + 1 - 1).toNat = (σ.1 57 9).toInt.toNat by omega]
          rfl
        show (lastv τ.1).toInt = _
        rw [el, ← e7]
        unfold nv5
        omega
  · refine ok_gC rfl (ok_zb (xs_fail hB hA) (fun w τ h => ?_))
    have h1 : w = 0 := h.1
    exact ok_rZ (Or.inl h1) ⟨h.2, Or.inr ⟨h1, fun z => q (e.trans (ck_n.mpr z.1))⟩⟩
theorem xs_passed (hB : CB σ t n c) (hA : CA (σ.1 57 9) t n c i) (h1 : 1 ≤ (σ.1 57 9).toInt) : Ok (f_X5_passed N 57 σ) (fun r => r.2 = σ ∧ r.1 = lastv σ.1) := by
  have hb := CA_b hA hB.2.1.1.2.2
  have hs : (σ.1 57 9 - 1).toInt = (σ.1 57 9).toInt - 1 := by rw [ti_sub]; simp only [Int32.reduceToInt]; omega
  rw [f_X5_passed.eq_1]
  refine ok_gI rfl ?_
  refine ok_if (fun q => absurd q (by rw [Int32.le_iff_toInt_le]; simp only [Int32.reduceToInt]; omega)) (fun _ => ?_)
  refine ok_gR (Sx := []) (v := 62) Tr.rf rfl (hB.1.1 57 11 rfl) ?_
  refine ok_gI rfl ?_
  refine ok_aIn (n := 601) rfl (by omega) (by omega) (fun v e => ok_some ⟨rfl, ?_⟩)
  exact e.trans (lastv_at h1)
/-- the number of the token and the signs stay, too -/
def F9 (σ τ : zS) : Prop := F8 σ τ ∧ τ.1 57 9 = σ.1 57 9
theorem xs_emit {x1 x2 : Int32} (hB : CB σ t n c) : Ok (f_X5_emit N 57 x1 x2 σ) (fun r => r.1 = 1 ∧ F9 σ r.2) := by
  rw [f_X5_emit.eq_1]
  refine ok_gI rfl ?_
  refine ok_if (fun _ => ok_rZ (Or.inr rfl) ⟨rfl, F8.rf, rfl⟩) (fun h0 => ?_)
  refine ok_gI rfl ?_
  refine ok_if (fun _ => ok_rZ (Or.inr rfl) ⟨rfl, F8.rf, rfl⟩) (fun h1 => ?_)
  rw [Int32.lt_iff_toInt_lt] at h0
  rw [Int32.le_iff_toInt_le] at h1
  simp only [Int32.reduceToInt] at h0 h1
  have hT : Tr [57, 58, 59] σ σ := Tr.rf
  refine ok_gR (v := 58) hT rfl (hB.1.1 57 3 rfl) ?_
  refine ok_gI rfl ?_
  refine ok_s14 (n := 601) hT rfl (by decide) (by omega) (by omega) (fun τ e hO hT => ?_)
  refine ok_gR (v := 59) hT rfl (hB.1.1 57 4 rfl) ?_
  refine ok_gI rfl ?_
  rw [hO.2 57 (by decide)]
  refine ok_s14 (n := 601) hT rfl (by decide) (by omega) (by omega) (fun υ f hO2 hT => ?_)
  refine ok_gI rfl ?_
  have e57 : υ.1 57 = σ.1 57 := (hO2.2 57 (by decide)).trans (hO.2 57 (by decide))
  refine ok_pI hT rfl (by decide) (fun ρ g hO3 hT => ?_)
  refine ok_rZ (Or.inr rfl) ⟨rfl, ⟨⟨hT, ?_, ?_⟩, ?_⟩, ?_⟩
  · exact (zI_atN g (by decide)).trans (congrFun e57 6)
  · exact (zI_atN g (by decide)).trans (congrFun e57 7)
  · exact (zI_atN g (by decide)).trans (congrFun e57 8)
  · exact (zI_atN g (by decide)).trans (congrFun e57 9)
end CREAD

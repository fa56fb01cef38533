section SPLIT
variable {N : Nat} {σ0 : zS} {x1 x2 : Int32}
/-- only token j of rows 61 to 64 is other -/
def Rw (j : Nat) (σ τ : zS) : Prop := ∀ k, k ≠ j → τ.1 61 k = σ.1 61 k ∧ τ.1 62 k = σ.1 62 k ∧ τ.1 63 k = σ.1 63 k ∧ τ.1 64 k = σ.1 64 k
theorem Rw.rf {j : Nat} {σ : zS} : Rw j σ σ := fun _ _ => ⟨rfl, rfl, rfl, rfl⟩
theorem Rw.tr {j : Nat} {σ τ υ : zS} (h : Rw j σ τ) (h2 : Rw j τ υ) : Rw j σ υ := fun k hk => ⟨(h2 k hk).1.trans (h k hk).1, (h2 k hk).2.1.trans (h k hk).2.1, (h2 k hk).2.2.1.trans (h k hk).2.2.1, (h2 k hk).2.2.2.trans (h k hk).2.2.2⟩
theorem Rw.u61 {j : Nat} {σ τ : zS} {v : Int32} (e : τ = zI σ 61 (upd (σ.1 61) j v)) (t : Tr [61] σ τ) : Rw j σ τ := fun k hk => ⟨zI_atN e hk, congrFun (t.2 62 (by decide)) k, congrFun (t.2 63 (by decide)) k, congrFun (t.2 64 (by decide)) k⟩
theorem Rw.u62 {j : Nat} {σ τ : zS} {v : Int32} (e : τ = zI σ 62 (upd (σ.1 62) j v)) (t : Tr [62] σ τ) : Rw j σ τ := fun k hk => ⟨congrFun (t.2 61 (by decide)) k, zI_atN e hk, congrFun (t.2 63 (by decide)) k, congrFun (t.2 64 (by decide)) k⟩
theorem Rw.u63 {j : Nat} {σ τ : zS} {v : Int32} (e : τ = zI σ 63 (upd (σ.1 63) j v)) (t : Tr [63] σ τ) : Rw j σ τ := fun k hk => ⟨congrFun (t.2 61 (by decide)) k, congrFun (t.2 62 (by decide)) k, zI_atN e hk, congrFun (t.2 64 (by decide)) k⟩
theorem Rw.u64 {j : Nat} {σ τ : zS} {v : Int32} (e : τ = zI σ 64 (upd (σ.1 64) j v)) (t : Tr [64] σ τ) : Rw j σ τ := fun k hk => ⟨congrFun (t.2 61 (by decide)) k, congrFun (t.2 62 (by decide)) k, congrFun (t.2 63 (by decide)) k, zI_atN e hk⟩
theorem TR_c {s s' : Nat → Nat → Int32} {t : Nat → Int32} {n k : Nat} (h61 : s' 61 k = s 61 k) (h62 : s' 62 k = s 62 k) (h63 : s' 63 k = s 63 k) (h64 : s' 64 k = s 64 k) (h : TR s t n k) : TR s' t n k := by
  unfold TR at h ⊢
  rw [h61, h62, h63, h64]; exact h
theorem TR_rw {σ τ : zS} {t : Nat → Int32} {n j k : Nat} (h : Rw j σ τ) (hk : k ≠ j) (hT : TR σ.1 t n k) : TR τ.1 t n k := TR_c (h k hk).1 (h k hk).2.1 (h k hk).2.2.1 (h k hk).2.2.2 hT
/-- what splitWord and splitNumber leave behind -/
def SPQ (kd : Int32) (σ0 : zS) (x1 : Int32) (A : Int32 → Int32 → Prop) (r : Int32 × zS) : Prop := (Tr [61, 62] σ0 r.2 ∧ Rw x1.toNatClampNeg σ0 r.2) ∧ r.2.1 61 x1.toNatClampNeg = kd ∧ ∃ v, r.2.1 62 x1.toNatClampNeg = v ∧ A r.1 v
theorem xs_num_fin {A : Int32 → Int32 → Prop} {x3 x4 : Int32} (hR : RF σ0.2.2) (h1 : 0 ≤ x1.toInt ∧ x1.toInt ≤ 600) (hA : A x3 x4) : Ok (zl (gR 5 10 57 σ0) fun v2 => zl (sI 14 v2 x1 3 σ0) fun σ3 => zl (gR 5 11 57 σ3) fun v4 => zl (sI 14 v4 x1 x4 σ3) fun σ5 => some (x3, σ5)) (SPQ 3 σ0 x1 A) := by
  have hT : Tr [61, 62] σ0 σ0 := Tr.rf
  refine ok_gR (v := 61) hT rfl (hR 57 10 rfl) ?_
  refine ok_s14 (n := 601) hT rfl (by decide) h1.1 (by omega) (fun τ e hO hT => ?_)
  refine ok_gR (v := 62) hT rfl (hR 57 11 rfl) ?_
  refine ok_s14 (n := 601) hT rfl (by decide) h1.1 (by omega) (fun υ f hO2 hT => ?_)
  exact ok_some ⟨⟨hT, (Rw.u61 e hO).tr (Rw.u62 f hO2)⟩, (congrFun (hO2.2 61 (by decide)) _).trans (zI_atI e), x4, zI_atI f, hA⟩
theorem xs_X5_splitNumber (hN : 1048576 ≤ N) (hR : RF σ0.2.2) (hX : σ0.2.2 57 5 = 1) (h1 : 0 ≤ x1.toInt ∧ x1.toInt ≤ 600) (h2 : 0 ≤ x2.toInt ∧ x2.toInt ≤ (σ0.1 57 6).toInt) (h6 : (σ0.1 57 6).toInt ≤ 600) : Ok (f_X5_splitNumber N 57 x1 x2 σ0) (SPQ 3 σ0 x1 (fun a v => a.toInt = (Rn isDg (σ0.1 1) (σ0.1 57 6).toInt.toNat x2.toInt.toNat : Int) ∧ v.toInt = min 1000000 (Nv (σ0.1 1) (σ0.1 57 6).toInt.toNat x2.toInt.toNat 0 : Int))) := by
  rw [f_X5_splitNumber.eq_1]
  refine ok_lp (fun t : Int32 × Int32 × zS => t.2.2 = σ0 ∧ (x2.toInt ≤ t.1.toInt ∧ t.1.toInt ≤ (σ0.1 57 6).toInt) ∧ Rn isDg (σ0.1 1) (σ0.1 57 6).toInt.toNat t.1.toInt.toNat = Rn isDg (σ0.1 1) (σ0.1 57 6).toInt.toNat x2.toInt.toNat ∧ ∃ r : Nat, t.2.1.toInt = min 1000000 (r : Int) ∧ Nv (σ0.1 1) (σ0.1 57 6).toInt.toNat t.1.toInt.toNat r = Nv (σ0.1 1) (σ0.1 57 6).toInt.toNat x2.toInt.toNat 0) (fun t => (600 - t.1.toInt).toNat) (fun again t hI ih => ?_) N _ ⟨rfl, ⟨Int.le_refl _, h2.2⟩, rfl, 0, (by decide : (0 : Int32).toInt = min 1000000 ((0 : Nat) : Int)), rfl⟩ (by show (600 - x2.toInt).toNat < N; omega)
  obtain ⟨x3, x4, σ⟩ := t
  obtain ⟨e, hb, hr, r, hv, hn⟩ := hI
  have e : σ = σ0 := e
  have hb : x2.toInt ≤ x3.toInt ∧ x3.toInt ≤ (σ0.1 57 6).toInt := hb
  have hr : Rn isDg (σ0.1 1) (σ0.1 57 6).toInt.toNat x3.toInt.toNat = Rn isDg (σ0.1 1) (σ0.1 57 6).toInt.toNat x2.toInt.toNat := hr
  have hv : x4.toInt = min 1000000 (r : Int) := hv
  have hn : Nv (σ0.1 1) (σ0.1 57 6).toInt.toNat x3.toInt.toNat r = Nv (σ0.1 1) (σ0.1 57 6).toInt.toNat x2.toInt.toNat 0 := hn
  subst e
  rw [F_X5_splitNumber_5.eq_1]
  refine ok_gI rfl ?_
  refine ok_if (fun hc => ?_) (fun hc => ?_)
  · rw [Int32.le_iff_toInt_le] at hc
    have z : x3.toInt.toNat < (σ.1 57 6).toInt.toNat → ¬ isDg (σ.1 1 x3.toInt.toNat) := fun q => by omega
    exact xs_num_fin hR h1 ⟨by rw [← hr, Rn_e z]; omega, by rw [← hn, Nv_e z]; exact hv⟩
  · rw [Int32.le_iff_toInt_le] at hc
    refine ok_gRX (Sx := []) (σ0 := σ) Tr.rf hX ?_
    refine ok_aIn (n := 600) rfl (by omega) (by omega) (fun v7 e7 => ?_)
    have e7 : v7 = σ.1 1 x3.toInt.toNat := e7
    refine ok_zbX (Q := fun v => (v = 0 → ¬ isDg v7) ∧ (¬ v = 0 → isDg v7)) x_X5_isDigit (fun v8 h8 => ?_)
    refine ok_if (fun h => ?_) (fun h => ?_)
    · have z : x3.toInt.toNat < (σ.1 57 6).toInt.toNat → ¬ isDg (σ.1 1 x3.toInt.toNat) := fun q => by rw [← e7]; exact h8.1 h
      exact xs_num_fin hR h1 ⟨by rw [← hr, Rn_e z]; omega, by rw [← hn, Nv_e z]; exact hv⟩
    · have hd := h8.2 h
      refine ok_gRX (Sx := []) (σ0 := σ) Tr.rf hX ?_
      refine ok_aIn (n := 600) rfl (by omega) (by omega) (fun v9 e9 => ?_)
      have e9 : v9 = σ.1 1 x3.toInt.toNat := e9
      have hs : (x3 + 1).toInt = x3.toInt + 1 := by rw [ti_add]; simp only [Int32.reduceToInt]; omega
      have hj : (x3 + 1).toInt.toNat = x3.toInt.toNat + 1 := by rw [hs]; omega
      rw [e7] at hd
      refine ih (x3 + 1, zmin 1000000 (x4 * 10 + v9 - 48), σ) ⟨rfl, (by rw [hs]; omega : x2.toInt ≤ (x3 + 1).toInt ∧ (x3 + 1).toInt ≤ (σ.1 57 6).toInt), ?_, 10 * r + (v9.toInt - 48).toNat, ?_, ?_⟩ (by show (600 - (x3 + 1).toInt).toNat < (600 - x3.toInt).toNat; rw [hs]; omega)
      · show Rn isDg _ _ (x3 + 1).toInt.toNat = _
        rw [hj, ← hr]; exact (Rn_s (by omega) hd).symm
      · exact zmin6 hv (by rw [e9]; exact hd)
      · show Nv _ _ (x3 + 1).toInt.toNat _ = _
        rw [hj, ← hn, e9]; exact (Nv_s (by omega) hd).symm
theorem xs_word_fin {A : Int32 → Int32 → Prop} {x3 : Int32} (hN : 1048576 ≤ N) (hR : RF σ0.2.2) (hX : σ0.2.2 57 5 = 1) (h1 : 0 ≤ x1.toInt ∧ x1.toInt ≤ 600) (h2 : 0 ≤ x2.toInt) (h3 : x3.toInt ≤ (σ0.1 57 6).toInt) (h6 : (σ0.1 57 6).toInt ≤ 600) (h32 : x2.toInt ≤ x3.toInt) (hA : A x3 (wvF (spC σ0.1 x2 x3))) : Ok (J_X5_splitWord_28 N 57 x1 x2 x3 σ0) (SPQ 2 σ0 x1 A) := by
  have hT : Tr [61, 62] σ0 σ0 := Tr.rf
  rw [J_X5_splitWord_28.eq_1]
  refine ok_gR (v := 61) hT rfl (hR 57 10 rfl) ?_
  refine ok_s14 (n := 601) hT rfl (by decide) h1.1 (by omega) (fun τ e hO hT => ?_)
  refine ok_gR (v := 62) hT rfl (hR 57 11 rfl) ?_
  have e6 : τ.1 57 = σ0.1 57 := hO.2 57 (by decide)
  have e1 : spC τ.1 x2 x3 = spC σ0.1 x2 x3 := by
    funext w
    unfold spC
    rw [hO.2 1 (by decide)]
  refine ok_gC rfl (ok_zbX (σ := τ) (Q := fun v => v = wvF (spC τ.1 x2 x3)) (xs_X5_wordValue hN (hR.tr hT) (hT.1.2 hX) h2 (by rw [e6]; exact h3) (by rw [e6]; exact h6) h32) (fun v hv => ?_))
  rw [e1] at hv
  refine ok_s14 (n := 601) hT rfl (by decide) h1.1 (by omega) (fun υ f hO2 hT => ?_)
  exact ok_some ⟨⟨hT, (Rw.u61 e hO).tr (Rw.u62 f hO2)⟩, (congrFun (hO2.2 61 (by decide)) _).trans (zI_atI e), v, zI_atI f, hv ▸ hA⟩
theorem xs_X5_splitWord (hN : 1048576 ≤ N) (hR : RF σ0.2.2) (hX : σ0.2.2 57 5 = 1) (h1 : 0 ≤ x1.toInt ∧ x1.toInt ≤ 600) (h2 : 0 ≤ x2.toInt ∧ x2.toInt ≤ (σ0.1 57 6).toInt) (h6 : (σ0.1 57 6).toInt ≤ 600) : Ok (f_X5_splitWord N 57 x1 x2 σ0) (SPQ 2 σ0 x1 (fun a v => a.toInt = (Rn isLt (σ0.1 1) (σ0.1 57 6).toInt.toNat x2.toInt.toNat : Int) ∧ v = wvF (spC σ0.1 x2 a))) := by
  rw [f_X5_splitWord.eq_1]
  refine ok_lp (fun t : Int32 × zS => t.2 = σ0 ∧ (x2.toInt ≤ t.1.toInt ∧ t.1.toInt ≤ (σ0.1 57 6).toInt) ∧ Rn isLt (σ0.1 1) (σ0.1 57 6).toInt.toNat t.1.toInt.toNat = Rn isLt (σ0.1 1) (σ0.1 57 6).toInt.toNat x2.toInt.toNat) (fun t => (600 - t.1.toInt).toNat) (fun again t hI ih => ?_) N _ ⟨rfl, ⟨Int.le_refl _, h2.2⟩, rfl⟩ (by show (600 - x2.toInt).toNat < N; omega)
  obtain ⟨x3, σ⟩ := t
  obtain ⟨e, hb, hr⟩ := hI
  have e : σ = σ0 := e
  have hb : x2.toInt ≤ x3.toInt ∧ x3.toInt ≤ (σ0.1 57 6).toInt := hb
  have hr : Rn isLt (σ0.1 1) (σ0.1 57 6).toInt.toNat x3.toInt.toNat = Rn isLt (σ0.1 1) (σ0.1 57 6).toInt.toNat x2.toInt.toNat := hr
  subst e
  rw [F_X5_splitWord_2.eq_1]
  refine ok_gI rfl ?_
  refine ok_if (fun hc => ?_) (fun hc => ?_)
  · rw [Int32.le_iff_toInt_le] at hc
    have z : x3.toInt.toNat < (σ.1 57 6).toInt.toNat → ¬ isLt (σ.1 1 x3.toInt.toNat) := fun q => by omega
    exact xs_word_fin hN hR hX h1 h2.1 hb.2 h6 hb.1 ⟨by rw [← hr, Rn_e z]; omega, rfl⟩
  · rw [Int32.le_iff_toInt_le] at hc
    refine ok_gRX (Sx := []) (σ0 := σ) Tr.rf hX ?_
    refine ok_aIn (n := 600) rfl (by omega) (by omega) (fun v7 e7 => ?_)
    have e7 : v7 = σ.1 1 x3.toInt.toNat := e7
    refine ok_zbX (Q := fun v => (v = 0 → ¬ isLt v7) ∧ (¬ v = 0 → isLt v7)) x_X5_isLetter (fun v8 h8 => ?_)
    refine ok_if (fun h => ?_) (fun h => ?_)
    · have z : x3.toInt.toNat < (σ.1 57 6).toInt.toNat → ¬ isLt (σ.1 1 x3.toInt.toNat) := fun q => by rw [← e7]; exact h8.1 h
      exact xs_word_fin hN hR hX h1 h2.1 hb.2 h6 hb.1 ⟨by rw [← hr, Rn_e z]; omega, rfl⟩
    · have hd := h8.2 h
      have hs : (x3 + 1).toInt = x3.toInt + 1 := by rw [ti_add]; simp only [Int32.reduceToInt]; omega
      have hj : (x3 + 1).toInt.toNat = x3.toInt.toNat + 1 := by rw [hs]; omega
      rw [e7] at hd
      refine ih (x3 + 1, σ) ⟨rfl, (by rw [hs]; omega : x2.toInt ≤ (x3 + 1).toInt ∧ (x3 + 1).toInt ≤ (σ.1 57 6).toInt), ?_⟩ (by show (600 - (x3 + 1).toInt).toNat < (600 - x3.toInt).toNat; rw [hs]; omega)
      show Rn isLt _ _ (x3 + 1).toInt.toNat = _
      rw [hj, ← hr]; exact (Rn_s (by omega) hd).symm
end SPLIT

section CFAM
variable {N : Nat} {σ τ : zS} {t : Nat → Int32} {n c i : Nat}
theorem bit01 {x : Int32} (h : ¬ (x &&& 1) = 0) : (x &&& 1) = 1 := by
  have := ti_and0 x (m := 1) (by decide)
  rw [show Int32.ofNat 1 = 1 from rfl] at this
  apply Int32.toInt_inj.mp
  by_cases q : (x &&& 1).toInt = 0
  · exact absurd (Int32.toInt_inj.mp q) h
  · simp only [Int32.reduceToInt]; omega
theorem Rn_all {p : Int32 → Prop} [DecidablePred p] {t : Nat → Int32} {n : Nat} : ∀ (f i k : Nat), n - i ≤ f → i ≤ k → k < Rn p t n i → p (t k)
  | 0, i, k, hf, h1, h2 => by
    rw [Rn_e (fun q => absurd q (by omega))] at h2
    omega
  | f + 1, i, k, hf, h1, h2 => by
    by_cases q : i < n ∧ p (t i)
    · by_cases z : k = i
      · rw [z]; exact q.2
      · rw [Rn_s q.1 q.2] at h2
        exact Rn_all f (i + 1) k (by omega) (by omega) h2
    · rw [Rn_e (fun a b => q ⟨a, b⟩)] at h2
      omega
theorem tk_let {t : Nat → Int32} {n i k : Nat} (hk : tkK t n i = 1) (h1 : tkF t n i ≤ k) (h2 : k < tkE t n i) : isLt (t k) := by
  have q : tkF t n i < n := by
    by_cases q : tkF t n i < n
    · exact q
    · exact absurd ((tk_0 rfl q).1.symm.trans hk) (by decide)
  by_cases l : isLt (t (tkF t n i))
  · rw [(tk_1 rfl q l).2] at h2
    exact Rn_all _ _ _ (Nat.le_refl _) h1 h2
  · by_cases d : isDg (t (tkF t n i))
    · exact absurd ((tk_2 rfl q d).1.symm.trans hk) (by decide)
    · have z := (tk_3 rfl q l d).1.symm.trans hk
      split at z
      · rename_i s
        have := sg_b s
        rw [z] at this
        exact absurd this (by decide)
      · exact absurd z (by decide)
theorem xm_fin {a s : Int32} {Z : Prop} (hB : CB σ t n c) (hA : CA (σ.1 57 9) t n c i) (hk : ¬ tkK t n i = 0) (ha : (a = 1 ∧ Z) ∨ (a = 0 ∧ ¬ Z)) : Ok (zl (gC 5 57) fun _ => zb (f_X5_advance N 57 a 2 σ) fun v20 σ21 => if v20 = 0 then (rZ 0 σ21) else (zl (gC 5 57) fun _ => zb (f_X5_emit N 57 3 s σ21) fun v22 σ23 => if v22 = 0 then (rZ 0 σ23) else (rZ 1 σ23))) (fun r => F8 σ r.2 ∧ ((r.1 = 1 ∧ Z ∧ CA (r.2.1 57 9) t n c (tkE t n i)) ∨ (r.1 = 0 ∧ ¬ Z))) := by
  rcases ha with ⟨rfl, z⟩ | ⟨rfl, z⟩
  · refine ok_gC rfl (ok_zb (xa_1 hB hA hk) (fun v τ h => ?_))
    obtain ⟨h1, h2, h3, _⟩ := h
    have h1 : v = 1 := h1
    refine ok_if (fun q => absurd (h1.symm.trans q) (by decide)) (fun _ => ?_)
    refine ok_gC rfl (ok_zb (xs_emit (CB_fr h2.1 hB)) (fun w υ g => ?_))
    have g1 : w = 1 := g.1
    refine ok_if (fun q => absurd (g1.symm.trans q) (by decide)) (fun _ => ?_)
    refine ok_rZ (Or.inr rfl) ⟨h2.tr g.2.1, Or.inl ⟨rfl, z, ?_⟩⟩
    show CA (υ.1 57 9) t n c _
    rw [show υ.1 57 9 = τ.1 57 9 from g.2.2]; exact h3
  · refine ok_gC rfl (ok_zb (xa_0 hB hA) (fun v τ h => ?_))
    have h1 : v = 0 := h.1
    refine ok_if (fun _ => ok_rZ (Or.inl rfl) ⟨h.2, Or.inr ⟨rfl, z⟩⟩) (fun q => absurd h1 q)
theorem nOK00 (hB : CB σ t n c) (hA : CA (σ.1 57 9) t n c i) (hk : tkK t n i = 2) {v : Int32} (hv : v = σ.1 62 (σ.1 57 9).toNatClampNeg) : v = 0 ↔ nOK t n i 0 0 := by
  have row := (CA_row hB.2.1 hA).2.1 hk
  rw [← hv] at row
  unfold nOK
  simp only [Int32.reduceToInt]
  constructor
  · intro q
    rw [q] at row
    simp only [Int32.reduceToInt] at row
    exact ⟨hk, by omega, by omega⟩
  · intro q
    apply Int32.toInt_inj.mp
    simp only [Int32.reduceToInt]
    omega
theorem xs_member {m : Int32} (hN : 1048576 ≤ N) (hB : CB σ t n c) (hA : CA (σ.1 57 9) t n c i) (hm : σ.1 57 7 = m) : Ok (f_X5_member N 57 σ) (fun r => F8 σ r.2 ∧ ((r.1 = 1 ∧ mOK t n i m ∧ CA (r.2.1 57 9) t n c (tkE t n i)) ∨ (r.1 = 0 ∧ ¬ mOK t n i m))) := by
  have hb := CA_b hA hB.2.1.1.2.2
  have row := CA_row hB.2.1 hA
  have hle := tk_le (t := t) (CA_le hA)
  have h600 := hB.2.1.1.2.1
  rw [f_X5_member.eq_1]
  refine ok_gR (Sx := []) (v := 61) Tr.rf rfl (hB.1.1 57 10 rfl) ?_
  refine ok_gI rfl ?_
  refine ok_aIn (n := 601) rfl hb.1 (by omega) (fun v e => ?_)
  have e : v = ck (tkK t n i) := e.trans row.1.1
  refine ok_if (fun q => ?_) (fun q => ?_)
  · have hk : tkK t n i = 2 := ck_n.mp (e.symm.trans q)
    have mi : mOK t n i m ↔ nOK t n i 0 0 := ⟨fun z => z.elim id (fun z => absurd (hk.symm.trans z.1) (by decide)), Or.inl⟩
    refine ok_gR (Sx := []) (v := 62) Tr.rf rfl (hB.1.1 57 11 rfl) ?_
    refine ok_gI rfl ?_
    refine ok_aIn (n := 601) rfl hb.1 (by omega) (fun v6 e6 => ?_)
    have zz := nOK00 hB hA hk e6
    refine ok_if (fun q => ?_) (fun q => ?_)
    · rw [J_X5_member_31.eq_1]
      exact xm_fin hB hA (by rw [hk]; decide) (Or.inl ⟨rfl, mi.mpr (zz.mp q)⟩)
    · rw [J_X5_member_31.eq_1]
      exact xm_fin hB hA (by rw [hk]; decide) (Or.inr ⟨rfl, fun z => q (zz.mpr (mi.mp z))⟩)
  · refine ok_gR (Sx := []) (v := 61) Tr.rf rfl (hB.1.1 57 10 rfl) ?_
    refine ok_gI rfl ?_
    refine ok_aIn (n := 601) rfl hb.1 (by omega) (fun v2 e2 => ?_)
    have e2 : v2 = ck (tkK t n i) := e2.trans row.1.1
    have n2 : ¬ tkK t n i = 2 := fun z => q (e.trans (ck_n.mpr z))
    refine ok_if (fun q2 => ?_) (fun q2 => ?_)
    · have hk : tkK t n i = 1 := ck_w.mp (e2.symm.trans q2)
      have mi : mOK t n i m ↔ (wS t n i m).isSome = true := ⟨fun z => z.elim (fun z => absurd z.1 n2) (fun z => z.2), fun z => Or.inr ⟨hk, z⟩⟩
      refine ok_gR (Sx := []) (v := 63) Tr.rf rfl (hB.1.1 57 12 rfl) ?_
      refine ok_gI rfl ?_
      refine ok_aIn (n := 601) rfl hb.1 (by omega) (fun v3 e3 => ?_)
      have h3 : v3.toInt = (tkF t n i : Int) := by rw [e3]; exact row.1.2.1
      refine ok_lp (fun s : Int32 × Int32 × Int32 × zS => s.2.2.2 = σ ∧ ((tkF t n i : Int) ≤ s.2.2.1.toInt ∧ s.2.2.1.toInt ≤ (tkE t n i : Int)) ∧ ((s.2.1 = 1 ∧ wsF t m (tkE t n i - s.2.2.1.toInt.toNat) s.2.2.1.toInt.toNat s.1 = wS t n i m) ∨ (s.2.1 = 0 ∧ wS t n i m = none))) (fun s => (600 - s.2.2.1.toInt).toNat) (fun again s hI ih => ?_) N _ ⟨rfl, (by show (tkF t n i : Int) ≤ v3.toInt ∧ v3.toInt ≤ (tkE t n i : Int); omega), Or.inl ⟨rfl, by show wsF t m (tkE t n i - v3.toInt.toNat) v3.toInt.toNat 0 = _; rw [show v3.toInt.toNat = tkF t n i by omega]; rfl⟩⟩ (by show (600 - v3.toInt).toNat < N; omega)
      obtain ⟨x1, x2, x3, σ'⟩ := s
      obtain ⟨e', hx, hw⟩ := hI
      have e' : σ' = σ := e'
      have hx : (tkF t n i : Int) ≤ x3.toInt ∧ x3.toInt ≤ (tkE t n i : Int) := hx
      have hw : (x2 = 1 ∧ wsF t m (tkE t n i - x3.toInt.toNat) x3.toInt.toNat x1 = wS t n i m) ∨ (x2 = 0 ∧ wS t n i m = none) := hw
      subst e'
      rw [F_X5_member_87.eq_1]
      refine ok_gR (Sx := []) (v := 64) Tr.rf rfl (hB.1.1 57 13 rfl) ?_
      refine ok_gI rfl ?_
      refine ok_aIn (n := 601) rfl hb.1 (by omega) (fun v4 e4 => ?_)
      have h4 : v4.toInt = (tkE t n i : Int) := by rw [e4]; exact row.1.2.2
      have fin : x3.toInt = (tkE t n i : Int) → Ok (J_X5_member_173 N 57 x1 x2 σ') (fun r => F8 σ' r.2 ∧ ((r.1 = 1 ∧ mOK t n i m ∧ CA (r.2.1 57 9) t n c (tkE t n i)) ∨ (r.1 = 0 ∧ ¬ mOK t n i m))) := fun hend => by
        rw [J_X5_member_173.eq_1]
        refine xm_fin hB hA (by rw [hk]; decide) ?_
        rcases hw with ⟨z, z2⟩ | ⟨z, z2⟩
        · rw [wsF_e (by omega)] at z2
          exact Or.inl ⟨z, mi.mpr (by rw [← z2]; rfl)⟩
        · exact Or.inr ⟨z, fun y => by have y := mi.mp y; rw [z2] at y; exact absurd y (by decide)⟩
      refine ok_if (fun hc => fin (by rw [Int32.le_iff_toInt_le] at hc; omega)) (fun hc => ?_)
      rw [Int32.le_iff_toInt_le] at hc
      refine ok_gI rfl ?_
      refine ok_if (fun hc2 => fin (by rw [Int32.le_iff_toInt_le, hB.2.2] at hc2; omega)) (fun _ => ?_)
      have hs : (x3 + 1).toInt = x3.toInt + 1 := by rw [ti_add]; simp only [Int32.reduceToInt]; omega
      have hj : (x3 + 1).toInt.toNat = x3.toInt.toNat + 1 := by rw [hs]; omega
      refine ok_gRX (Sx := []) (σ0 := σ') Tr.rf hB.1.2 ?_
      refine ok_aIn (n := 600) rfl (by omega) (by omega) (fun v5 e5 => ?_)
      have e5 : v5 = t x3.toInt.toNat := by rw [e5, hB.2.1.1.1]; rfl
      have hl : isLt v5 := by rw [e5]; exact tk_let hk (by omega) (by omega)
      have hv5 : (v5 - 97).toInt = v5.toInt - 97 := by rw [ti_sub]; simp only [Int32.reduceToInt]; unfold isLt at hl; omega
      have go0 : wS t n i m = none → Ok (J_X5_member_151 N again 57 x1 x3 (v5 - 97) 0 σ') (fun r => F8 σ' r.2 ∧ ((r.1 = 1 ∧ mOK t n i m ∧ CA (r.2.1 57 9) t n c (tkE t n i)) ∨ (r.1 = 0 ∧ ¬ mOK t n i m))) := fun z => by
        rw [J_X5_member_151.eq_1]
        refine ok_if (fun _ => ih (x1 ||| 0, 0, x3 + 1, σ') ⟨rfl, (by show (tkF t n i : Int) ≤ (x3 + 1).toInt ∧ (x3 + 1).toInt ≤ (tkE t n i : Int); omega), Or.inr ⟨rfl, z⟩⟩ (by show (600 - (x3 + 1).toInt).toNat < (600 - x3.toInt).toNat; omega)) (fun q => absurd rfl q)
      refine ok_if (fun q => ?_) (fun q => ?_)
      · exact go0 (hw.resolve_left (fun z => absurd (z.1.symm.trans q) (by decide))).2
      · have hw := (hw.resolve_right (fun z => q z.1)).2
        rw [wsF_s (by omega)] at hw
        refine ok_if (fun q2 => absurd q2 (by rw [Int32.lt_iff_toInt_lt, hv5]; simp only [Int32.reduceToInt]; unfold isLt at hl; omega)) (fun _ => ?_)
        refine ok_gI rfl ?_
        rw [hm]
        refine ok_if (fun q3 => go0 ?_) (fun q3 => ok_if (fun q4 => ?_) (fun q4 => go0 ?_))
        · rw [if_pos (Or.inl (by rw [← e5]; exact q3))] at hw; exact hw.symm
        · rw [if_neg (fun z => z.elim (fun z => q3 (by rw [e5]; exact z)) (fun z => by rw [← e5, q4] at z; exact absurd z (by decide)))] at hw
          rw [J_X5_member_151.eq_1]
          refine ok_if (fun q => absurd q (by decide)) (fun _ => ih (x1 ||| ((1 : Int32) <<< ((v5 - 97) &&& 31)), 1, x3 + 1, σ') ⟨rfl, (by show (tkF t n i : Int) ≤ (x3 + 1).toInt ∧ (x3 + 1).toInt ≤ (tkE t n i : Int); omega), Or.inl ⟨rfl, ?_⟩⟩ (by show (600 - (x3 + 1).toInt).toNat < (600 - x3.toInt).toNat; omega))
          show wsF t m (tkE t n i - (x3 + 1).toInt.toNat) (x3 + 1).toInt.toNat _ = _
          rw [hj, e5]; exact hw
        · rw [if_pos (Or.inr (by rw [← e5]; exact bit01 q4))] at hw; exact hw.symm
    · refine ok_gC rfl (ok_zb (xa_0 hB hA) (fun w τ h => ?_))
      have h1 : w = 0 := h.1
      exact ok_rZ (Or.inl h1) ⟨h.2, Or.inr ⟨h1, fun z => z.elim (fun z => n2 z.1) (fun z => q2 (e2.trans (ck_w.mpr z.1)))⟩⟩
end CFAM

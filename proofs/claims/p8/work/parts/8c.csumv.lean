/-! ===== the class writes a sum's steps down ===== -/
section CSV
variable {N : Nat} {σ τ υ : zS} {t : Nat → Int32} {n c i : Nat} {m : Int32} {O : List zOp}
/-- the steps written down so far -/
def St (σ : zS) (O : List zOp) : Prop := (σ.1 57 2).toInt = (O.length : Int) ∧ ∀ k (h : k < O.length), σ.1 58 k = (O[k]).1 ∧ σ.1 59 k = (O[k]).2
/-- nothing is written down, references stay -/
def Sk (σ τ : zS) : Prop := τ.2 = σ.2 ∧ (τ.1 58 = σ.1 58 ∧ τ.1 59 = σ.1 59) ∧ τ.1 57 2 = σ.1 57 2
theorem Sk.rf : Sk σ σ := ⟨rfl, ⟨rfl, rfl⟩, rfl⟩
theorem Sk.tr (h : Sk σ τ) (h2 : Sk τ υ) : Sk σ υ := ⟨h2.1.trans h.1, ⟨h2.2.1.1.trans h.2.1.1, h2.2.1.2.trans h.2.1.2⟩, h2.2.2.trans h.2.2⟩
theorem Sk.u {j : Nat} {v : Int32} (hj : 2 ≠ j) (h : Sk σ τ) : Sk σ (zI τ 57 (upd (τ.1 57) j v)) := ⟨h.1, ⟨(zI_n (by decide)).trans h.2.1.1, (zI_n (by decide)).trans h.2.1.2⟩, by rw [zI_s, upd_n hj]; exact h.2.2⟩
theorem Sk.k (h : Sk σ τ) (hs : St σ O) : St τ O := by
  unfold St at hs ⊢
  rw [h.2.1.1, h.2.1.2, h.2.2]; exact hs
theorem Sk.R (h : Sk σ τ) (hR : RF σ.2.2) : RF τ.2.2 := by rw [h.1]; exact hR
theorem St_e {a b : Int32} (hs : St σ O) (hl : O.length < 601) (h58 : τ.1 58 = upd (σ.1 58) O.length a) (h59 : τ.1 59 = upd (σ.1 59) O.length b) (h57 : τ.1 57 2 = σ.1 57 2 + 1) : St τ (O ++ [(a, b)]) := by
  have h2 := hs.1
  refine ⟨?_, fun k h => ?_⟩
  · rw [h57, a1_ ⟨by omega, by omega⟩, List.length_append, List.length_singleton]; omega
  · rw [List.length_append, List.length_singleton] at h
    rw [h58, h59, upd_i, upd_i]
    by_cases e : k = O.length
    · subst e
      rw [if_pos rfl, if_pos rfl, List.getElem_append_right (Nat.le_refl _)]
      simp
    · rw [if_neg e, if_neg e, List.getElem_append_left (by omega)]
      exact hs.2 k (by omega)
theorem v_emit {a b : Int32} (hR : RF σ.2.2) (hs : St σ O) (hl : O.length < 601) : Pt (f_X5_emit N 57 a b σ) (fun r => r.2.2 = σ.2 ∧ St r.2 (O ++ [(a, b)])) := by
  rw [f_X5_emit.eq_1]
  have h2 := hs.1
  refine pt_gI (pt_if (fun q => absurd q (by rw [Int32.lt_iff_toInt_lt]; simp only [Int32.reduceToInt]; omega)) (fun _ => pt_gI (pt_if (fun q => absurd q (by rw [Int32.le_iff_toInt_le]; simp only [Int32.reduceToInt]; omega)) (fun _ => ?_))))
  refine pt_gR (v := 58) (hR 57 3 rfl) (pt_gI (pt_s14 (pt_gR (v := 59) (hR 57 4 rfl) (pt_gI (pt_s14 (pt_gI (pt_pI (pt_rZ ⟨rfl, ?_⟩))))))))
  have kk : (σ.1 57 2).toInt.toNat = O.length := by omega
  refine St_e hs (by omega) ((zI_n (by decide)).trans ((zI_n (by decide)).trans (zI_s.trans (by rw [kk])))) ((zI_n (by decide)).trans (zI_s.trans (by rw [zI_n (by decide), zI_n (by decide), kk]))) ((congrFun zI_s 2).trans (upd_s.trans (by rw [zI_n (by decide), zI_n (by decide)])))
theorem sk_advance {x1 x2 : Int32} (hR : RF σ.2.2) : Pt (f_X5_advance N 57 x1 x2 σ) (fun r => r.1 = x1 ∧ Sk σ r.2) := by
  rw [f_X5_advance.eq_1]
  refine pt_if (fun _ => ?_) (fun _ => ?_)
  · exact pt_pI (pt_gR (v := 63) (hR 57 12 rfl) (pt_gI (pt_aI (pt_pI (pt_rZ ⟨rfl, (Sk.rf.u (by decide)).u (by decide)⟩)))))
  · exact pt_gR (v := 61) (hR 57 10 rfl) (pt_gI (pt_aI (pt_if (fun _ => pt_rZ ⟨rfl, Sk.rf⟩) (fun _ => pt_gI (pt_if (fun _ => pt_rZ ⟨rfl, Sk.rf⟩) (fun _ => pt_gI (pt_pI (pt_rZ ⟨rfl, Sk.rf.u (by decide)⟩))))))))
theorem sk_fail {x1 : Int32} (hR : RF σ.2.2) : Pt (f_X5_fail N 57 x1 σ) (fun r => Sk σ r.2) := by
  rw [f_X5_fail.eq_1]
  exact pt_gC (pt_zb (sk_advance hR) (fun v τ h => pt_rZ h.2))
theorem sk_pass {x1 : Int32} (hR : RF σ.2.2) : Pt (f_X5_pass N 57 x1 σ) (fun r => Sk σ r.2) := by
  rw [f_X5_pass.eq_1]
  exact pt_gR (v := 61) (hR 57 10 rfl) (pt_gI (pt_aI (pt_if (fun _ => pt_gC (pt_zb (sk_advance hR) (fun v τ h => pt_rZ h.2))) (fun _ => pt_gC (pt_zb (sk_advance hR) (fun v τ h => pt_rZ h.2))))))
theorem sk_passNumber {x1 x2 : Int32} (hR : RF σ.2.2) : Pt (f_X5_passNumber N 57 x1 x2 σ) (fun r => Sk σ r.2) := by
  rw [f_X5_passNumber.eq_1]
  refine pt_gR (v := 61) (hR 57 10 rfl) (pt_gI (pt_aI (pt_if (fun _ => ?_) (fun _ => pt_gC (pt_zb (sk_fail hR) (fun v τ h => pt_rZ h))))))
  refine pt_gR (v := 62) (hR 57 11 rfl) (pt_gI (pt_aI (pt_if (fun _ => pt_gC (pt_zb (sk_advance hR) (fun v τ h => pt_rZ h.2))) (fun _ => ?_))))
  exact pt_gR (v := 62) (hR 57 11 rfl) (pt_gI (pt_aI (pt_if (fun _ => pt_gC (pt_zb (sk_advance hR) (fun v τ h => pt_rZ h.2))) (fun _ => pt_gC (pt_zb (sk_advance hR) (fun v τ h => pt_rZ h.2))))))
theorem ne10 {τ : zS} {P : Int32 × zS → Prop} : (fun r : Int32 × zS => ¬ r.1 = 0 → P r) (0, τ) := fun z => absurd rfl z
theorem vs_member (hB : CB σ t n c) (hA : CA (σ.1 57 9) t n c i) (hm : σ.1 57 7 = m) (hs : St σ O) (hl : O.length < 601) : Pt (f_X5_member N 57 σ) (fun r => ¬ r.1 = 0 → r.2.2 = σ.2 ∧ St r.2 (O ++ [(3, mv t n i m)])) := by
  have hR := hB.1.1
  have hb := CA_b hA hB.2.1.1.2.2
  have row := CA_row hB.2.1 hA
  have hle := tk_le (t := t) (CA_le hA)
  have h600 := hB.2.1.1.2.1
  have k3 : σ.1 61 (σ.1 57 9).toInt.toNat = ck (tkK t n i) := row.1.1
  rw [f_X5_member.eq_1]
  refine pt_gR (v := 61) (hR 57 10 rfl) (pt_gI (pt_aI ?_))
  rw [k3]
  refine pt_if (fun q => ?_) (fun q => ?_)
  · have hk := ck_n.mp q
    have emv : mv t n i m = 0 := if_neg (by rw [hk]; decide)
    have go : ∀ y : Int32, Pt (J_X5_member_31 N 57 y 57 σ) (fun r => ¬ r.1 = 0 → r.2.2 = σ.2 ∧ St r.2 (O ++ [(3, mv t n i m)])) := fun y => by
      rw [J_X5_member_31.eq_1]
      refine pt_gC (pt_zb (sk_advance hR) (fun v τ h => pt_if (fun _ => pt_rZ (fun z => absurd rfl z)) (fun _ => pt_gC (pt_zb (v_emit (h.2.R hR) (h.2.k hs) hl) (fun w υ h2 => pt_if (fun _ => pt_rZ (fun z => absurd rfl z)) (fun _ => pt_rZ (fun _ => ?_)))))))
      rw [emv]; exact ⟨h2.1.trans h.2.1, h2.2⟩
    exact pt_gR (v := 62) (hR 57 11 rfl) (pt_gI (pt_aI (pt_if (fun _ => go 1) (fun _ => go 0))))
  · refine pt_gR (v := 61) (hR 57 10 rfl) (pt_gI (pt_aI ?_))
    rw [k3]
    refine pt_if (fun q2 => ?_) (fun q2 => pt_gC (pt_zb (sk_advance hR) (fun v τ h => pt_rZ (fun z => absurd h.1 z))))
    have hk := ck_w.mp q2
    have h3 : (σ.1 63 (σ.1 57 9).toInt.toNat).toInt = (tkF t n i : Int) := row.1.2.1
    have h4 : (σ.1 64 (σ.1 57 9).toInt.toNat).toInt = (tkE t n i : Int) := row.1.2.2
    refine pt_gR (v := 63) (hR 57 12 rfl) (pt_gI (pt_aI ?_))
    refine pt_lp (fun s : Int32 × Int32 × Int32 × zS => s.2.2.2 = σ ∧ ((tkF t n i : Int) ≤ s.2.2.1.toInt ∧ s.2.2.1.toInt ≤ (tkE t n i : Int)) ∧ (¬ s.2.1 = 0 → wsF t m (tkE t n i - s.2.2.1.toInt.toNat) s.2.2.1.toInt.toNat s.1 = wS t n i m)) (fun again s hI ih => ?_) N _ ⟨rfl, (by show (tkF t n i : Int) ≤ (σ.1 63 (σ.1 57 9).toInt.toNat).toInt ∧ (σ.1 63 (σ.1 57 9).toInt.toNat).toInt ≤ (tkE t n i : Int); omega), fun _ => by show wsF t m (tkE t n i - (σ.1 63 (σ.1 57 9).toInt.toNat).toInt.toNat) (σ.1 63 (σ.1 57 9).toInt.toNat).toInt.toNat 0 = _; rw [show (σ.1 63 (σ.1 57 9).toInt.toNat).toInt.toNat = tkF t n i by omega]; rfl⟩
    obtain ⟨x1, x2, x3, σ'⟩ := s
    obtain ⟨e', hx, hw⟩ := hI
    have e' : σ' = σ := e'
    have hx : (tkF t n i : Int) ≤ x3.toInt ∧ x3.toInt ≤ (tkE t n i : Int) := hx
    have hw : ¬ x2 = 0 → wsF t m (tkE t n i - x3.toInt.toNat) x3.toInt.toNat x1 = wS t n i m := hw
    subst e'
    have fin : x3.toInt = (tkE t n i : Int) → Pt (J_X5_member_173 N 57 x1 x2 σ') (fun r => ¬ r.1 = 0 → r.2.2 = σ'.2 ∧ St r.2 (O ++ [(3, mv t n i m)])) := fun hend => by
      rw [J_X5_member_173.eq_1]
      refine pt_gC (pt_zb (sk_advance hR) (fun v τ h => pt_if (fun _ => pt_rZ (fun z => absurd rfl z)) (fun q => ?_)))
      have hw := hw (fun z => q (h.1.trans z))
      rw [wsF_e (by omega)] at hw
      have emv : mv t n i m = x1 := by unfold mv; rw [if_pos hk, ← hw]; rfl
      refine pt_gC (pt_zb (v_emit (h.2.R hR) (h.2.k hs) hl) (fun w υ h2 => pt_if (fun _ => pt_rZ (fun z => absurd rfl z)) (fun _ => pt_rZ (fun _ => ?_))))
      rw [emv]; exact ⟨h2.1.trans h.2.1, h2.2⟩
    rw [F_X5_member_87.eq_1]
    refine pt_gR (v := 64) (hR 57 13 rfl) (pt_gI (pt_aI (pt_if (fun hc => fin (by rw [Int32.le_iff_toInt_le, h4] at hc; omega)) (fun hc => ?_))))
    rw [Int32.le_iff_toInt_le, h4] at hc
    refine pt_gI (pt_if (fun hc2 => fin (by rw [Int32.le_iff_toInt_le, hB.2.2] at hc2; omega)) (fun _ => ?_))
    have hs3 : (x3 + 1).toInt = x3.toInt + 1 := by rw [ti_add]; simp only [Int32.reduceToInt]; omega
    have hj : (x3 + 1).toInt.toNat = x3.toInt.toNat + 1 := by rw [hs3]; omega
    refine pt_gR (v := 1) hB.1.2 (pt_aI ?_)
    rw [show σ'.1 1 = t from hB.2.1.1.1]
    have hlt : isLt (t x3.toInt.toNat) := tk_let hk (by omega) (by omega)
    generalize hv : t x3.toInt.toNat = v5 at hlt ⊢
    have go0 : Pt (J_X5_member_151 N again 57 x1 x3 (v5 - 97) 0 σ') (fun r => ¬ r.1 = 0 → r.2.2 = σ'.2 ∧ St r.2 (O ++ [(3, mv t n i m)])) := by
      rw [J_X5_member_151.eq_1]
      exact pt_if (fun _ => ih (x1 ||| 0, 0, x3 + 1, σ') ⟨rfl, (by show (tkF t n i : Int) ≤ (x3 + 1).toInt ∧ (x3 + 1).toInt ≤ (tkE t n i : Int); omega), fun z => absurd rfl z⟩) (fun q => absurd rfl q)
    refine pt_if (fun _ => go0) (fun q => pt_if (fun _ => go0) (fun _ => pt_gI ?_))
    rw [hm]
    refine pt_if (fun _ => go0) (fun q3 => pt_if (fun q4 => ?_) (fun _ => go0))
    have hw := hw q
    rw [wsF_s (by omega), hv, if_neg (fun z => z.elim (fun z => q3 z) (fun z => by rw [q4] at z; exact absurd z (by decide)))] at hw
    rw [J_X5_member_151.eq_1]
    refine pt_if (fun q => absurd q (by decide)) (fun _ => ih (x1 ||| ((1 : Int32) <<< ((v5 - 97) &&& 31)), 1, x3 + 1, σ') ⟨rfl, (by show (tkF t n i : Int) ≤ (x3 + 1).toInt ∧ (x3 + 1).toInt ≤ (tkE t n i : Int); omega), fun _ => ?_⟩)
    show wsF t m (tkE t n i - (x3 + 1).toInt.toNat) (x3 + 1).toInt.toNat _ = _
    rw [hj]; exact hw
/-- what a part leaves behind -/
def PV (t : Nat → Int32) (n c : Nat) (m : Int32) (i : Nat) (W : List Int32) (O : List zOp) (σ : zS) (r : Int32 × zS) : Prop := ¬ r.1 = 0 → ∃ j O1, Rc (stv t n m) (i, 0, W, O) (sw 3 j W O1) ∧ CA (r.2.1 57 9) t n c j ∧ (St r.2 O1 ∧ O1.length + i ≤ O.length + j ∧ i ≤ j) ∧ Fr σ r.2 ∧ r.2.2 = σ.2
def SV (t : Nat → Int32) (n c : Nat) (m : Int32) (i : Nat) (W : List Int32) (O : List zOp) (σ : zS) (r : Int32 × zS) : Prop := ¬ r.1 = 0 → ∃ j V Q O1, (Rc (stv t n m) (i, 0, W, O) (j, 1, V, Q) ∧ setl 1 V Q = (W, O1) ∧ ¬ isCb (tkK t n j)) ∧ CA (r.2.1 57 9) t n c j ∧ (St r.2 O1 ∧ O1.length + i ≤ O.length + j ∧ i ≤ j) ∧ Fr σ r.2 ∧ r.2.2 = σ.2
def HV (t : Nat → Int32) (n c : Nat) (m : Int32) (i : Nat) (W : List Int32) (O : List zOp) (x : Int32) (σ : zS) : Prop := (CB σ t n c ∧ CA (σ.1 57 9) t n c i ∧ σ.1 57 7 = m) ∧ (St σ O ∧ O.length ≤ i) ∧ x.toInt = (opn W : Int) ∧ opn W ≤ 6
theorem Fr_p {j : Nat} {v : Int32} (h6 : 6 ≠ j) (h7 : 7 ≠ j) : Fr σ (zI σ 57 (upd (σ.1 57) j v)) := ⟨Tr.of rfl (fun k hk => zI_n (fun e => hk (by rw [e]; decide))), by rw [zI_s, upd_n h6], by rw [zI_s, upd_n h7]⟩
/-- a family in brackets -/
theorem vs_family {W : List Int32} (hN : 1048576 ≤ N) (hB : CB σ t n c) (hA : CA (σ.1 57 9) t n c i) (hm : σ.1 57 7 = m) (hk : tkK t n i = 123) (hs : St σ O) (hl : O.length ≤ i) : Pt (f_X5_family N 57 σ) (PV t n c m i W O σ) := by
  have np : ¬ (isPx t n i ∨ tkK t n i = 40) := fun z => z.elim (fun ⟨_, _, w⟩ => absurd (hk.symm.trans w.1) (by decide)) (fun z => absurd (hk.symm.trans z) (by decide))
  have h600 := hB.2.1.1.2.1
  have hle := CA_le hA
  have g0 := tk_gt hle (show ¬ tkK t n i = 0 by rw [hk]; decide)
  rw [f_X5_family.eq_1]
  refine pt_gC (pt_zb (pt_and (pt_ok (xs_pass hB hA (by decide))) (sk_pass hB.1.1)) (fun v σ1 h1 => ?_))
  obtain ⟨⟨f1, h1⟩, s1⟩ := h1
  have f1 : F8 σ σ1 := f1
  have s1 : Sk σ σ1 := s1
  have h1 := h1.resolve_right (fun z => z.2 ((ck_s (by decide)).mpr hk))
  have A1 : CA (σ1.1 57 9) t n c (tkE t n i) := h1.2.2
  have B1 := CB_fr f1.1 hB
  have l1 := CA_le A1
  refine pt_gC (pt_zb (pt_and (pt_ok (xs_emit B1)) (v_emit B1.1.1 (s1.k hs) (by omega))) (fun w σ2 h2 => ?_))
  obtain ⟨⟨_, f2⟩, e2, t2⟩ := h2
  have f2 : F9 σ1 σ2 := f2
  have t2 : St σ2 (O ++ [(1, 0)]) := t2
  have e2 : σ2.2 = σ.2 := e2.trans s1.1
  have F2 : Fr σ σ2 := f1.1.tr f2.1.1
  have A2 : CA (σ2.1 57 9) t n c (tkE t n i) := by rw [f2.2]; exact A1
  have B2 := CB_fr F2 hB
  have row2 := CA_row B2.2.1 A2
  have k2 : σ2.1 61 (σ2.1 57 9).toInt.toNat = ck (tkK t n (tkE t n i)) := row2.1.1
  refine pt_gR (v := 61) (B2.1.1 57 10 rfl) (pt_gI (pt_aI ?_))
  rw [k2]
  refine pt_if (fun q => ?_) (fun q => ?_)
  · have kz : tkK t n (tkE t n i) = 125 := (ck_s (by decide)).mp q
    have g1 := tk_gt l1 (show ¬ tkK t n (tkE t n i) = 0 by rw [kz]; decide)
    refine pt_gC (pt_zb (pt_and (pt_ok (xs_pass B2 A2 (by decide))) (sk_pass B2.1.1)) (fun w σ3 h3 => pt_rZ (fun _ => ?_)))
    obtain ⟨⟨f3, h3⟩, s3⟩ := h3
    have f3 : F8 σ2 σ3 := f3
    have s3 : Sk σ2 σ3 := s3
    have h3 := h3.resolve_right (fun z => z.2 ((ck_s (by decide)).mpr kz))
    exact ⟨_, _, Rc.st (stv_f0 np hk kz) Rc.rf, h3.2.2, ⟨s3.k t2, by rw [List.length_append, List.length_singleton]; omega⟩, F2.tr f3.1, s3.1.trans e2⟩
  · have kz : ¬ tkK t n (tkE t n i) = 125 := fun z => q ((ck_s (by decide)).mpr z)
    refine pt_lp (fun s : Int32 × zS => Fr σ s.2 ∧ s.2.2 = σ.2 ∧ ∃ (p : Nat) (Q : List zOp), Rc (stv t n m) (i, 0, W, O) (p, 2, W, Q) ∧ CA (s.2.1 57 9) t n c p ∧ St s.2 Q ∧ Q.length + i ≤ O.length + p ∧ i ≤ p) (fun again s hI ih => ?_) N _ ⟨F2, e2, tkE t n i, _, Rc.st (stv_f1 np hk kz) Rc.rf, A2, t2, by rw [List.length_append, List.length_singleton]; omega, by omega⟩
    obtain ⟨x1, σ3⟩ := s
    obtain ⟨F3, e3, p, Q, rc, A3, t3, l3, ip⟩ := hI
    have F3 : Fr σ σ3 := F3
    have e3 : σ3.2 = σ.2 := e3
    have A3 : CA (σ3.1 57 9) t n c p := A3
    have t3 : St σ3 Q := t3
    have B3 := CB_fr F3 hB
    have pn := CA_le A3
    rw [F_X5_family_37.eq_1]
    refine pt_if (fun _ => pt_gC (pt_zb (pt_ok (xs_fail B3 A3)) (fun v τ h => pt_rZ (fun z => absurd h.1 z)))) (fun _ => ?_)
    refine pt_gC (pt_zb (pt_and (pt_ok (xs_member hN B3 A3 (F3.2.2.trans hm))) (vs_member B3 A3 (F3.2.2.trans hm) t3 (by omega))) (fun v12 σ4 h4 => ?_))
    obtain ⟨⟨f4, h4⟩, t4⟩ := h4
    refine pt_if (fun _ => pt_rZ (fun z => absurd rfl z)) (fun q4 => ?_)
    have h4 := h4.resolve_right (fun z => q4 z.1)
    have f4 : F8 σ3 σ4 := f4
    have e4 : σ4.2 = σ3.2 := (t4 q4).1
    have t4 : St σ4 (Q ++ [(3, mv t n p m)]) := (t4 q4).2
    have F4 := F3.tr f4.1
    have A4 : CA (σ4.1 57 9) t n c (tkE t n p) := h4.2.2
    have B4 := CB_fr F4 hB
    have g4 := tk_gt pn (mOK_n h4.2.1)
    have rc4 := rc.sn (stv_m h4.2.1)
    have k4 : σ4.1 61 (σ4.1 57 9).toInt.toNat = ck (tkK t n (tkE t n p)) := (CA_row B4.2.1 A4).1.1
    refine pt_gR (v := 61) (B4.1.1 57 10 rfl) (pt_gI (pt_aI ?_))
    rw [k4]
    refine pt_if (fun q5 => ?_) (fun q5 => ?_)
    · have k5 : tkK t n (tkE t n p) = 44 := (ck_s (by decide)).mp q5
      have g5 := tk_gt (CA_le A4) (show ¬ tkK t n (tkE t n p) = 0 by rw [k5]; decide)
      refine pt_gC (pt_zb (pt_and (pt_ok (xs_pass B4 A4 (by decide))) (sk_pass B4.1.1)) (fun w σ5 h5 => ?_))
      obtain ⟨⟨f5, h5⟩, s5⟩ := h5
      have f5 : F8 σ4 σ5 := f5
      have s5 : Sk σ4 σ5 := s5
      have h5 := h5.resolve_right (fun z => z.2 ((ck_s (by decide)).mpr k5))
      exact ih (x1 + 1, σ5) ⟨F4.tr f5.1, s5.1.trans (e4.trans e3), _, _, rc4.sn (stv_k k5), h5.2.2, s5.k t4, by rw [List.length_append, List.length_singleton]; omega, by omega⟩
    · refine pt_gC (pt_zb (pt_and (pt_ok (xs_pass B4 A4 (by decide))) (sk_pass B4.1.1)) (fun w σ5 h5 => pt_rZ (fun z => ?_)))
      obtain ⟨⟨f5, h5⟩, s5⟩ := h5
      have f5 : F8 σ4 σ5 := f5
      have s5 : Sk σ4 σ5 := s5
      have h5 := h5.resolve_right (fun y => absurd y.1 z)
      have k5 : tkK t n (tkE t n p) = 125 := (ck_s (by decide)).mp h5.2.1
      have g5 := tk_gt (CA_le A4) (show ¬ tkK t n (tkE t n p) = 0 by rw [k5]; decide)
      exact ⟨_, _, rc4.sn (stv_z k5), h5.2.2, ⟨s5.k t4, by rw [List.length_append, List.length_singleton]; omega⟩, F4.tr f5.1, s5.1.trans (e4.trans e3)⟩
theorem HV_l {W : List Int32} {x : Int32} (H : HV t n c m i W O x σ) : O.length < 601 := by
  have := CA_le H.1.2.1
  have := H.1.1.2.1.1.2.1
  have := H.2.1.2
  omega
theorem px40 (h : tkK t n i = 40) : pw t n i = 100 := if_pos h
theorem pxw (h : ¬ tkK t n i = 40) : pw t n i = 50 + pxv t n i := if_neg h
theorem pw_r {W : List Int32} {O : List zOp} (px : isPx t n i) : setl 3 (pw t n i :: W) O = setl 3 W (O ++ [(5, pxv t n i)]) := by
  obtain ⟨k, hk, hw⟩ := px
  have e := pxv_k hk hw
  rw [pxw (by rw [hw.1]; decide), e]
  have h := (by decide : ∀ k, k < 6 → ¬ rkI (50 + nI k) < 3 ∧ opW (50 + nI k) = (5, nI k)) k hk
  rw [setl_p h.1, h.2]
theorem opn_pw {W : List Int32} (px : isPx t n i ∨ tkK t n i = 40) : opn (pw t n i :: W) = opn W + 1 := by
  refine (cmb_o ?_).2
  unfold pw
  by_cases z : tkK t n i = 40
  · rw [if_pos z]; decide
  · rw [if_neg z]
    obtain ⟨k, hk, hw⟩ := px.resolve_right z
    rw [pxv_k hk hw]
    exact (by decide : ∀ k, k < 6 → 50 ≤ (50 + nI k).toInt) k hk
theorem vs_wordPart {dd : Nat} {W : List Int32} {x1 x2 : Int32} (hk : tkK t n i = 1) (hx : x1 = wv t n i) (H : HV t n c m i W O x2 σ)
    (ih : ∀ (i : Nat) (W : List Int32) (O : List zOp) (x : Int32) (σ : zS), HV t n c m i W O x σ → Pt (f_X5_part N dd 57 x σ) (PV t n c m i W O σ)) : Pt (B_X5_wordPart N (f_X5_sum N dd) (f_X5_part N dd) (f_X5_wordPart N dd) 57 x1 x2 σ) (PV t n c m i W O σ) := by
  have hl := HV_l H
  obtain ⟨⟨hB, hA, h7⟩, ⟨hs, ho⟩, hd, h6⟩ := H
  have n40 : ¬ tkK t n i = 40 := by rw [hk]; decide
  have i5 : x1 = 5 ↔ isW t n i 15 := by rw [hx]; exact wv_iff (w := 4) (by decide)
  have i10 : 10 ≤ x1 ↔ isPx t n i := by rw [hx]; exact wv_px
  have hle := CA_le hA
  have g0 := tk_gt hle (show ¬ tkK t n i = 0 by rw [hk]; decide)
  rw [B_X5_wordPart.eq_1]
  refine pt_if (fun q => ?_) (fun q => ?_)
  · have a15 := i5.mp q
    have npx : ¬ (isPx t n i ∨ tkK t n i = 40) := fun z => z.elim (fun z => by have := i10.mpr z; rw [q] at this; exact absurd this (by decide)) n40
    refine pt_gC (pt_zb (pt_and (pt_ok (xs_pass hB hA (by decide))) (sk_pass hB.1.1)) (fun v σ1 h1 => pt_if (fun _ => pt_rZ (fun z => absurd rfl z)) (fun q1 => ?_)))
    obtain ⟨⟨f1, h1⟩, s1⟩ := h1
    have f1 : F8 σ σ1 := f1
    have s1 : Sk σ σ1 := s1
    have h1 := h1.resolve_right (fun z => q1 z.1)
    have B1 := CB_fr f1.1 hB
    refine pt_gC (pt_zb (pt_and (pt_ok (xs_emit B1)) (v_emit B1.1.1 (s1.k hs) hl)) (fun w σ2 h2 => pt_if (fun _ => pt_rZ (fun z => absurd rfl z)) (fun _ => pt_rZ (fun _ => ?_))))
    obtain ⟨⟨_, f2⟩, e2, t2⟩ := h2
    have f2 : F9 σ1 σ2 := f2
    have A1 : CA (σ1.1 57 9) t n c (tkE t n i) := h1.2.2
    exact ⟨_, _, Rc.st (stv_a npx a15) Rc.rf, by show CA (σ2.1 57 9) t n c _; rw [f2.2]; exact A1, ⟨t2, by rw [List.length_append, List.length_singleton]; omega⟩, f1.1.tr f2.1.1, e2.trans s1.1⟩
  · refine pt_if (fun q2 => ?_) (fun q2 => ?_)
    · have ipx := i10.mp q2
      have px : isPx t n i ∨ tkK t n i = 40 := Or.inl ipx
      refine pt_if (fun q3 => ?_) (fun q3 => ?_)
      · rw [J_X5_wordPart_52.eq_1]
        refine pt_gC (pt_zb (sk_advance hB.1.1) (fun v σ1 h1 => pt_if (fun _ => pt_rZ (fun z => absurd rfl z)) (fun q => absurd h1.1 q)))
      · rw [Int32.le_iff_toInt_le] at q3
        simp only [Int32.reduceToInt] at q3
        have l6 : opn W < 6 := by omega
        rw [J_X5_wordPart_52.eq_1]
        refine pt_gC (pt_zb (pt_and (pt_ok (xa_1 hB hA (by rw [hk]; decide))) (sk_advance hB.1.1)) (fun v σ1 h1 => pt_if (fun _ => pt_rZ (fun z => absurd rfl z)) (fun q1 => ?_)))
        obtain ⟨⟨_, f1, A1, _⟩, _, s1⟩ := h1
        have f1 : F8 σ σ1 := f1
        have s1 : Sk σ σ1 := s1
        have A1 : CA (σ1.1 57 9) t n c (tkE t n i) := A1
        have ss := stv_o (m := m) (O := O) px l6
        have op := opn_pw (W := W) px
        have hs2 : (x2 + 1).toInt = x2.toInt + 1 := by rw [ti_add]; simp only [Int32.reduceToInt]; omega
        refine pt_gC (pt_zb (ih (tkE t n i) (pw t n i :: W) O (x2 + 1) σ1 ⟨⟨CB_fr f1.1 hB, A1, f1.1.2.2.trans h7⟩, ⟨s1.k hs, by omega⟩, by rw [hs2, op]; omega, by omega⟩) (fun w σ2 h2 => pt_if (fun _ => pt_rZ (fun z => absurd rfl z)) (fun q4 => ?_)))
        obtain ⟨j, O1, rc, A2, ⟨t2, l2⟩, F2, e2⟩ := h2 q4
        have A2 : CA (σ2.1 57 9) t n c j := A2
        have t2 : St σ2 O1 := t2
        have F2 : Fr σ σ2 := f1.1.tr F2
        have B2 := CB_fr F2 hB
        have l3 := CA_le A2
        have h600 := hB.2.1.1.2.1
        refine pt_gC (pt_zb (pt_and (pt_ok (xs_emit B2)) (v_emit (a := 5) (b := x1 - 10) B2.1.1 t2 (by omega))) (fun u υ V => pt_if (fun _ => pt_rZ (fun z => absurd rfl z)) (fun _ => pt_rZ (fun _ => ?_))))
        obtain ⟨⟨_, f3⟩, e3, t3⟩ := V
        have f3 : F9 σ2 υ := f3
        have ex : x1 - 10 = pxv t n i := by rw [hx]; rfl
        rw [ex] at t3
        refine ⟨j, O1 ++ [(5, pxv t n i)], ?_, by show CA (υ.1 57 9) t n c _; rw [f3.2]; exact A2, ⟨t3, by rw [List.length_append, List.length_singleton]; omega⟩, F2.tr f3.1.1, e3.trans (e2.trans s1.1)⟩
        have := Rc.st ss rc
        unfold sw at this ⊢
        rw [pw_r ipx] at this
        exact this
    · refine pt_gC (pt_zb (pt_ok (xs_fail hB hA)) (fun v σ1 h1 => pt_rZ (fun z => absurd h1.1 z)))
theorem vs_part {dd : Nat} {W : List Int32} {x1 : Int32} (hN : 1048576 ≤ N) (H : HV t n c m i W O x1 σ)
    (ihs : ∀ (i : Nat) (W : List Int32) (O : List zOp) (x : Int32) (σ : zS), HV t n c m i W O x σ → Lw W → Pt (f_X5_sum N dd 57 x σ) (SV t n c m i W O σ))
    (ihw : ∀ (i : Nat) (W : List Int32) (O : List zOp) (x y : Int32) (σ : zS), HV t n c m i W O x σ → tkK t n i = 1 → y = wv t n i → Pt (f_X5_wordPart N dd 57 y x σ) (PV t n c m i W O σ)) : Pt (B_X5_part N (f_X5_sum N dd) (f_X5_part N dd) (f_X5_wordPart N dd) 57 x1 σ) (PV t n c m i W O σ) := by
  have H0 := H
  have hl := HV_l H
  obtain ⟨⟨hB, hA, h7⟩, ⟨hs, ho⟩, hd, h6⟩ := H
  have row := CA_row hB.2.1 hA
  have hle := CA_le hA
  have k3 : σ.1 61 (σ.1 57 9).toInt.toNat = ck (tkK t n i) := row.1.1
  rw [B_X5_part.eq_1]
  refine pt_gR (v := 61) (hB.1.1 57 10 rfl) (pt_gI (pt_aI ?_))
  rw [k3]
  refine pt_if (fun q => ?_) (fun q2 => ?_)
  · have hk := ck_w.mp q
    exact pt_gR (v := 62) (hB.1.1 57 11 rfl) (pt_gI (pt_aI (pt_gC (pt_zb (ihw i W O x1 _ σ H0 hk (row.2.2 hk)) (fun v σ1 h1 => pt_rZ h1)))))
  have nw : ¬ tkK t n i = 1 := fun z => q2 (ck_w.mpr z)
  have npx : ¬ isPx t n i := fun ⟨k, _, hw⟩ => nw hw.1
  refine pt_if (fun q => ?_) (fun q3 => ?_)
  · have hk := ck_n.mp q
    have np : ¬ (isPx t n i ∨ tkK t n i = 40) := fun z => z.elim npx (fun z => absurd (hk.symm.trans z) (by decide))
    have g0 := tk_gt hle (show ¬ tkK t n i = 0 by rw [hk]; decide)
    refine pt_gC (pt_zb (pt_and (pt_ok (xs_passNumber hB hA (by decide))) (sk_passNumber hB.1.1)) (fun v σ1 h1 => pt_if (fun _ => pt_rZ (fun z => absurd rfl z)) (fun q1 => ?_)))
    obtain ⟨⟨f1, h1⟩, s1⟩ := h1
    have f1 : F8 σ σ1 := f1
    have s1 : Sk σ σ1 := s1
    obtain ⟨_, ⟨ok, A1⟩, p1, lv⟩ := h1.resolve_right (fun z => q1 z.1)
    have A1 : CA (σ1.1 57 9) t n c (tkE t n i) := A1
    have B1 := CB_fr f1.1 hB
    refine pt_gC (pt_zbX (Q := fun v => v = lastv σ1.1) (pt_ok (xs_passed B1 A1 p1)) (fun v11 e11 => ?_))
    have e11 : v11 = nvI t n i := nv_eq (by rw [e11]; exact lv)
    subst e11
    refine pt_gC (pt_zb (pt_and (pt_ok (xs_emit B1)) (v_emit B1.1.1 (s1.k hs) hl)) (fun w σ2 h2 => pt_if (fun _ => pt_rZ (fun z => absurd rfl z)) (fun _ => pt_rZ (fun _ => ?_))))
    obtain ⟨⟨_, f2⟩, e2, t2⟩ := h2
    have f2 : F9 σ1 σ2 := f2
    exact ⟨_, _, Rc.st (stv_n np ok) Rc.rf, by show CA (σ2.1 57 9) t n c _; rw [f2.2]; exact A1, ⟨t2, by rw [List.length_append, List.length_singleton]; omega⟩, f1.1.tr f2.1.1, e2.trans s1.1⟩
  have nn : ¬ tkK t n i = 2 := fun z => q3 (ck_n.mpr z)
  refine pt_if (fun q => ?_) (fun q40 => ?_)
  · have hk : tkK t n i = 40 := (ck_s (by decide)).mp q
    have px : isPx t n i ∨ tkK t n i = 40 := Or.inr hk
    have g0 := tk_gt hle (show ¬ tkK t n i = 0 by rw [hk]; decide)
    refine pt_if (fun q3 => ?_) (fun q3 => ?_)
    · rw [J_X5_part_97.eq_1]
      exact pt_gC (pt_zb (sk_advance hB.1.1) (fun v σ1 h1 => pt_if (fun _ => pt_rZ (fun z => absurd rfl z)) (fun q => absurd h1.1 q)))
    · rw [Int32.le_iff_toInt_le] at q3
      simp only [Int32.reduceToInt] at q3
      have l6 : opn W < 6 := by omega
      rw [J_X5_part_97.eq_1]
      refine pt_gC (pt_zb (pt_and (pt_ok (xa_1 hB hA (by rw [hk]; decide))) (sk_advance hB.1.1)) (fun v σ1 h1 => pt_if (fun _ => pt_rZ (fun z => absurd rfl z)) (fun q1 => ?_)))
      obtain ⟨⟨_, f1, A1, _⟩, _, s1⟩ := h1
      have f1 : F8 σ σ1 := f1
      have s1 : Sk σ σ1 := s1
      have A1 : CA (σ1.1 57 9) t n c (tkE t n i) := A1
      have ss := stv_o (m := m) (O := O) px l6
      have op := opn_pw (W := W) px
      rw [px40 hk] at ss op
      have hs2 : (x1 + 1).toInt = x1.toInt + 1 := by rw [ti_add]; simp only [Int32.reduceToInt]; omega
      refine pt_gC (pt_zb (ihs (tkE t n i) (100 :: W) O (x1 + 1) σ1 ⟨⟨CB_fr f1.1 hB, A1, f1.1.2.2.trans h7⟩, ⟨s1.k hs, by omega⟩, by rw [hs2, op]; omega, by omega⟩ (Or.inr ⟨W, rfl⟩)) (fun w σ2 h2 => pt_if (fun _ => pt_rZ (fun z => absurd rfl z)) (fun q4 => ?_)))
      obtain ⟨j, V, Q, O1, ⟨rc, sl, ncb⟩, A2, ⟨t2, l2⟩, F2, e2⟩ := h2 q4
      have A2 : CA (σ2.1 57 9) t n c j := A2
      have t2 : St σ2 O1 := t2
      have F2 : Fr σ σ2 := f1.1.tr F2
      have B2 := CB_fr F2 hB
      have l3 := CA_le A2
      refine pt_gC (pt_zb (pt_and (pt_ok (xs_pass B2 A2 (by decide))) (sk_pass B2.1.1)) (fun w σ3 h3 => pt_if (fun _ => pt_rZ (fun z => absurd rfl z)) (fun q5 => pt_rZ (fun _ => ?_))))
      obtain ⟨⟨f3, h3⟩, s3⟩ := h3
      have f3 : F8 σ2 σ3 := f3
      have s3 : Sk σ2 σ3 := s3
      have h3 := h3.resolve_right (fun z => q5 z.1)
      have k41 : tkK t n j = 41 := (ck_s (by decide)).mp h3.2.1
      have g3 := tk_gt l3 (show ¬ tkK t n j = 0 by rw [k41]; decide)
      have m100 : 100 ∈ V := (setl_100 (r := 1) (by decide) V Q).mp (by rw [sl]; exact List.mem_cons_self)
      have s4 := stv_p (m := m) (O := Q) ncb ⟨k41, m100⟩
      rw [sl] at s4
      exact ⟨tkE t n j, O1, (Rc.st ss rc).sn s4, h3.2.2, ⟨s3.k t2, by omega⟩, F2.tr f3.1, s3.1.trans (e2.trans s1.1)⟩
  have n40 : ¬ tkK t n i = 40 := fun z => q40 ((ck_s (by decide)).mpr z)
  refine pt_if (fun q => ?_) (fun q123 => ?_)
  · have hk : tkK t n i = 123 := (ck_s (by decide)).mp q
    exact pt_gC (pt_zb (vs_family hN hB hA h7 hk hs ho) (fun v σ1 h1 => pt_rZ h1))
  · exact pt_gC (pt_zb (pt_ok (xs_fail hB hA)) (fun v σ1 h1 => pt_rZ (fun z => absurd h1.1 z)))
/-- what a sum has waiting -/
def wl (w : Int32) (W : List Int32) : List Int32 := if w < 0 then W else w :: W
theorem wl_n {w : Int32} {W : List Int32} (h : w < 0) : wl w W = W := if_pos h
theorem wl_w {w : Int32} {W : List Int32} (h : ¬ w < 0) : wl w W = w :: W := if_neg h
theorem rk_w1 {w : Int32} (h : w = 0 ∨ w = 1) : rkI w = 1 ∧ opW w = (4, w) ∧ ¬ w < 0 := by
  rcases h with rfl | rfl <;> decide
theorem rk_w2 : ∀ k, k < 7 → 2 ≤ k → rkI (nI k) = 2 ∧ opW (nI k) = (4, nI k) := by decide
theorem vs_sum {dd : Nat} {W : List Int32} {x1 : Int32} (H : HV t n c m i W O x1 σ) (hW : Lw W)
    (ih : ∀ (i : Nat) (W : List Int32) (O : List zOp) (x : Int32) (σ : zS), HV t n c m i W O x σ → Pt (f_X5_part N dd 57 x σ) (PV t n c m i W O σ)) : Pt (B_X5_sum N (f_X5_sum N dd) (f_X5_part N dd) (f_X5_wordPart N dd) 57 x1 σ) (SV t n c m i W O σ) := by
  have H0 := H
  obtain ⟨⟨hB, hA, h7⟩, ⟨hs, ho⟩, hd, h6⟩ := H
  have h600 := hB.2.1.1.2.1
  rw [B_X5_sum.eq_1]
  refine pt_gC (pt_zb (ih i W O x1 σ H0) (fun v σ1 h1 => pt_if (fun _ => pt_rZ (fun z => absurd rfl z)) (fun q1 => ?_)))
  obtain ⟨j, O1, rc, A1, ⟨t1, l1⟩, F1, e1⟩ := h1 q1
  have rc : Rc (stv t n m) (i, 0, W, O) (j, 1, W, O1) := by
    unfold sw at rc
    rw [Lw_s hW (by decide)] at rc
    exact rc
  refine pt_lp (fun s : Int32 × Int32 × zS => Fr σ s.2.2 ∧ s.2.2.2 = σ.2 ∧ (s.1 = -1 ∨ s.1 = 0 ∨ s.1 = 1) ∧ ∃ (j : Nat) (V : List Int32) (Q O1 : List zOp), ((0 ≤ s.2.1.toInt ∧ s.2.1.toInt ≤ (j : Int)) ∧ i ≤ j) ∧ Rc (stv t n m) (i, 0, W, O) (j, 1, V, Q) ∧ setl 2 V Q = (wl s.1 W, O1) ∧ CA (s.2.2.1 57 9) t n c j ∧ St s.2.2 O1 ∧ O1.length + i + (if s.1 < 0 then 0 else 1) ≤ O.length + j) (fun again s hI ihl => ?_) N _ ⟨F1, e1, Or.inl rfl, j, W, O1, O1, ⟨by show 0 ≤ (0 : Int32).toInt ∧ (0 : Int32).toInt ≤ (j : Int); simp only [Int32.reduceToInt]; omega, l1.2⟩, rc, Lw_s hW (by decide), A1, t1, by show O1.length + i + (if (-1 : Int32) < 0 then 0 else 1) ≤ _; rw [if_pos (by decide)]; exact l1.1⟩
  clear rc A1 t1 l1 F1 e1 h1
  obtain ⟨x2, x3, σ'⟩ := s
  obtain ⟨F1, e1, h3, j, V, Q, O1, ⟨hx3, ij⟩, rc, sl, A1, t1, l1⟩ := hI
  have hx3 : 0 ≤ x3.toInt ∧ x3.toInt ≤ (j : Int) := hx3
  have F1 : Fr σ σ' := F1
  have e1 : σ'.2 = σ.2 := e1
  have h3 : x2 = -1 ∨ x2 = 0 ∨ x2 = 1 := h3
  have sl : setl 2 V Q = (wl x2 W, O1) := sl
  have A1 : CA (σ'.1 57 9) t n c j := A1
  have t1 : St σ' O1 := t1
  have l1 : O1.length + i + (if x2 < 0 then 0 else 1) ≤ O.length + j := l1
  have B1 := CB_fr F1 hB
  have row := CA_row B1.2.1 A1
  have jn := CA_le A1
  have k3 : σ'.1 61 (σ'.1 57 9).toInt.toNat = ck (tkK t n j) := row.1.1
  have b1 : setl 1 V Q = setl 1 (wl x2 W) O1 := by
    have := setl_setl (r := 1) (r' := 2) (by decide) V Q
    rw [sl] at this
    exact this.symm
  -- settled down to the bracket
  have fl : setl 1 V Q = (W, if x2 < 0 then O1 else O1 ++ [(4, x2)]) := by
    rw [b1]
    rcases h3 with rfl | h3
    · rw [wl_n (by decide), if_pos (by decide)]; exact Lw_s hW (by decide)
    · have r := rk_w1 h3
      rw [wl_w r.2.2, if_neg r.2.2, setl_p (by rw [r.1]; decide), r.2.1]
      exact Lw_s hW (by decide)
  rw [F_X5_sum_14.eq_1]
  have endc : ¬ isCb (tkK t n j) → Pt (J_X5_sum_151 N (f_X5_sum N dd) (f_X5_part N dd) (f_X5_wordPart N dd) 57 x2 σ') (SV t n c m i W O σ) := fun ncb => by
    rw [J_X5_sum_151.eq_1]
    refine pt_if (fun q => pt_rZ (fun _ => ?_)) (fun q => ?_)
    · rw [if_pos q] at fl l1
      exact ⟨j, V, Q, O1, ⟨rc, fl, ncb⟩, A1, ⟨t1, l1, ij⟩, F1, e1⟩
    · rw [if_neg q] at fl l1
      refine pt_gC (pt_zb (pt_and (pt_ok (xs_emit B1)) (v_emit B1.1.1 t1 (by omega))) (fun w σ2 h2 => pt_if (fun _ => pt_rZ (fun z => absurd rfl z)) (fun _ => pt_rZ (fun _ => ?_))))
      obtain ⟨⟨_, f2⟩, e2, t2⟩ := h2
      have f2 : F9 σ' σ2 := f2
      exact ⟨j, V, Q, _, ⟨rc, fl, ncb⟩, by show CA (σ2.1 57 9) t n c _; rw [f2.2]; exact A1, ⟨t2, by rw [List.length_append, List.length_singleton]; omega⟩, F1.tr f2.1.1, e2.trans e1⟩
  refine pt_if (fun q => ?_) (fun _ => ?_)
  · rw [Int32.le_iff_toInt_le] at q
    simp only [Int32.reduceToInt] at q
    omega
  refine pt_gR (v := 61) (B1.1.1 57 10 rfl) (pt_gI (pt_aI ?_))
  rw [k3]
  refine pt_zbq v_combination (fun v8 e8 => ?_)
  rw [sgv_ck] at e8
  subst e8
  refine pt_if (fun q => endc (fun z => ?_)) (fun q => ?_)
  · have := sgv_cb z
    rw [Int32.lt_iff_toInt_lt] at q
    simp only [Int32.reduceToInt] at q
    omega
  have cb : isCb (tkK t n j) := Classical.byContradiction (fun z => q (by rw [sgv_no.mp z]; decide))
  have sb := sgv_cb cb
  have g1 := tk_gt jn (show ¬ tkK t n j = 0 from fun z => by rw [z] at cb; revert cb; unfold isCb; decide)
  refine pt_gR (v := 61) (B1.1.1 57 10 rfl) (pt_gI (pt_aI ?_))
  rw [k3]
  refine pt_zbq v_combination (fun v13 e13 => ?_)
  rw [sgv_ck] at e13
  subst e13
  have sc := stv_c (m := m) (W := V) (O := Q) cb
  generalize hs13 : sgv (tkK t n j) = s at sb sc ⊢
  -- the sign, the next part, and on
  have go : ∀ (σ2 : zS) (y0 : Int32) (U : List Int32) (P2 : List zOp), Fr σ σ2 → σ2.2 = σ.2 → CA (σ2.1 57 9) t n c j → St σ2 P2 → setl (rkI s) V Q = (U, P2) → opn (s :: U) = opn W → rkI s < 3 → P2.length + i + 1 ≤ O.length + (j + 1) →
      (∀ (k : Nat) (O5 : List zOp) (σ5 : zS), Rc (stv t n m) (i, 0, W, O) (k, 1, s :: U, O5) → Fr σ σ5 → σ5.2 = σ.2 → CA (σ5.1 57 9) t n c k → St σ5 O5 → (O5.length + j + 1 ≤ P2.length + k ∧ j + 1 ≤ k) →
        Pt (if y0 = 0 then (zl (gC 5 57) fun _ => zb (f_X5_emit N 57 4 s σ5) fun v22 σ23 => again (x2, x3 + 1, σ23)) else (again (s, x3 + 1, σ5))) (SV t n c m i W O σ)) →
      Pt (J_X5_sum_84 N (f_X5_sum N dd) (f_X5_part N dd) (f_X5_wordPart N dd) again 57 x1 x2 x3 s y0 σ2) (SV t n c m i W O σ) := by
    intro σ2 y0 U P2 F2 e2 A2 t2 sU oU r3 l2 K
    rw [J_X5_sum_84.eq_1]
    refine pt_gI (pt_pI (pt_gI ?_))
    have F3 : Fr σ (zI σ2 57 (upd (σ2.1 57) 8 (σ2.1 57 8 + 1))) := F2.tr (Fr_p (by decide) (by decide))
    have e3 : (zI σ2 57 (upd (σ2.1 57) 8 (σ2.1 57 8 + 1))).2 = σ.2 := e2
    have t3 : St (zI σ2 57 (upd (σ2.1 57) 8 (σ2.1 57 8 + 1))) P2 := (Sk.rf.u (by decide)).k t2
    have A3 : CA ((zI σ2 57 (upd (σ2.1 57) 8 (σ2.1 57 8 + 1))).1 57 9) t n c j := by rw [zI_s, upd_n (by decide)]; exact A2
    generalize zI σ2 57 (upd (σ2.1 57) 8 (σ2.1 57 8 + 1)) = σ3 at F3 e3 t3 A3 ⊢
    have B3 := CB_fr F3 hB
    refine pt_if (fun _ => ?_) (fun _ => ?_)
    · rw [J_X5_sum_109.eq_1]
      exact pt_gC (pt_zb (sk_advance B3.1.1) (fun v σ4 h4 => pt_if (fun _ => pt_rZ (fun z => absurd rfl z)) (fun q => absurd h4.1 q)))
    · rw [J_X5_sum_109.eq_1]
      refine pt_gC (pt_zb (pt_and (pt_ok (xa_1 B3 A3 (fun z => by rw [z] at cb; revert cb; unfold isCb; decide))) (sk_advance B3.1.1)) (fun v σ4 h4 => pt_if (fun _ => pt_rZ (fun z => absurd rfl z)) (fun q4 => ?_)))
      obtain ⟨⟨_, f4, A4, _⟩, _, s4⟩ := h4
      have f4 : F8 σ3 σ4 := f4
      have s4 : Sk σ3 σ4 := s4
      have A4 : CA (σ4.1 57 9) t n c (tkE t n j) := A4
      have F4 := F3.tr f4.1
      rw [sU] at sc
      refine pt_gC (pt_zb (ih (tkE t n j) (s :: U) P2 x1 σ4 ⟨⟨CB_fr F4 hB, A4, F4.2.2.trans h7⟩, ⟨s4.k t3, by omega⟩, by rw [oU]; exact hd, by rw [oU]; exact h6⟩) (fun w σ5 h5 => pt_if (fun _ => pt_rZ (fun z => absurd rfl z)) (fun q5 => ?_)))
      obtain ⟨k, O5, rc5, A5, ⟨t5, l5⟩, F5, e5⟩ := h5 q5
      unfold sw at rc5
      rw [setl_s r3] at rc5
      exact K k O5 σ5 ((rc.sn sc).tr rc5) (F4.tr F5) (e5.trans (s4.1.trans e3)) A5 t5 (by omega)
  have oW : opn (wl x2 W) = opn W := by
    rcases h3 with rfl | h3
    · rw [wl_n (by decide)]
    · rw [wl_w (rk_w1 h3).2.2]
      exact (cmb_s (by rcases h3 with rfl | rfl <;> decide)).2
  have again_ : ∀ (y : Int32) (k : Nat) (V' : List Int32) (Q' O5 : List zOp) (σ5 : zS), (y = -1 ∨ y = 0 ∨ y = 1) → j + 1 ≤ k → Rc (stv t n m) (i, 0, W, O) (k, 1, V', Q') → setl 2 V' Q' = (wl y W, O5) → Fr σ σ5 → σ5.2 = σ.2 → CA (σ5.1 57 9) t n c k → St σ5 O5 → O5.length + i + (if y < 0 then 0 else 1) ≤ O.length + k → Pt (again (y, x3 + 1, σ5)) (SV t n c m i W O σ) := fun y k V' Q' O5 σ5 hy jk rc5 sl5 F5 e5 A5 t5 l5 => ihl (y, x3 + 1, σ5) ⟨F5, e5, hy, k, V', Q', O5, ⟨by show 0 ≤ (x3 + 1).toInt ∧ (x3 + 1).toInt ≤ (k : Int); rw [a1_ ⟨by omega, by omega⟩]; omega, by omega⟩, rc5, sl5, A5, t5, l5⟩
  -- + and -
  have sum1 : (s = 0 ∨ s = 1) → Pt (J_X5_sum_66 N (f_X5_sum N dd) (f_X5_part N dd) (f_X5_wordPart N dd) again 57 x1 x2 x3 s 1 σ') (SV t n c m i W O σ) := fun s01 => by
    have r := rk_w1 s01
    have os : opn (s :: W) = opn W := (cmb_s (by rcases s01 with rfl | rfl <;> decide)).2
    have K : ∀ (P2 : List zOp), P2.length + i + 1 ≤ O.length + (j + 1) → ∀ (k : Nat) (O5 : List zOp) (σ5 : zS), Rc (stv t n m) (i, 0, W, O) (k, 1, s :: W, O5) → Fr σ σ5 → σ5.2 = σ.2 → CA (σ5.1 57 9) t n c k → St σ5 O5 → (O5.length + j + 1 ≤ P2.length + k ∧ j + 1 ≤ k) → Pt (if (1 : Int32) = 0 then (zl (gC 5 57) fun _ => zb (f_X5_emit N 57 4 s σ5) fun v22 σ23 => again (x2, x3 + 1, σ23)) else (again (s, x3 + 1, σ5))) (SV t n c m i W O σ) := fun P2 lP k O5 σ5 rc5 F5 e5 A5 t5 l5 => by
      refine pt_if (fun q => absurd q (by decide)) (fun _ => again_ s k (s :: W) O5 O5 σ5 (Or.inr s01) l5.2 rc5 ?_ F5 e5 A5 t5 ?_)
      · rw [setl_s (by rw [r.1]; decide), wl_w r.2.2]
      · rw [if_neg r.2.2]; omega
    rw [J_X5_sum_66.eq_1]
    refine pt_if (fun q => absurd q (by decide)) (fun _ => pt_if (fun q => ?_) (fun q => ?_))
    · rw [if_pos q] at fl l1
      exact go σ' 1 W O1 F1 e1 A1 t1 (by rw [r.1]; exact fl) os (by rw [r.1]; decide) (by omega) (K O1 (by omega))
    · rw [if_neg q] at fl l1
      refine pt_gC (pt_zb (pt_and (pt_ok (xs_emit B1)) (v_emit B1.1.1 t1 (by omega))) (fun w σ2 h2 => ?_))
      obtain ⟨⟨_, f2⟩, e2, t2⟩ := h2
      have f2 : F9 σ' σ2 := f2
      have t2 : St σ2 (O1 ++ [(4, x2)]) := t2
      have lP : (O1 ++ [(4, x2)]).length + i + 1 ≤ O.length + (j + 1) := by rw [List.length_append, List.length_singleton]; omega
      exact go σ2 1 W (O1 ++ [(4, x2)]) (F1.tr f2.1.1) (e2.trans e1) (by rw [f2.2]; exact A1) t2 (by rw [r.1]; exact fl) os (by rw [r.1]; decide) lP (K _ lP)
  refine pt_if (fun q0 => sum1 (Or.inl q0)) (fun q0 => pt_if (fun q1 => sum1 (Or.inr q1)) (fun q1 => ?_))
  -- the others
  have r2 : rkI s = 2 ∧ opW s = (4, s) := by
    obtain ⟨k, hk, rfl⟩ := znI (x := s) (m := 7) sb.1 (by omega)
    refine rk_w2 k hk ?_
    by_cases k0 : k = 0
    · rw [k0] at q0; exact absurd rfl q0
    · by_cases k1 : k = 1
      · rw [k1] at q1; exact absurd rfl q1
      · omega
  rw [J_X5_sum_66.eq_1]
  refine pt_if (fun _ => ?_) (fun q => absurd rfl q)
  have l1' : O1.length + i ≤ O.length + j := by
    have := l1
    split at this <;> omega
  refine go σ' 0 (wl x2 W) O1 F1 e1 A1 t1 (by rw [r2.1]; exact sl) (by rw [(cmb_s (show s.toInt < 50 by omega)).2]; exact oW) (by rw [r2.1]; decide) (by omega) (fun k O5 σ5 rc5 F5 e5 A5 t5 l5 => ?_)
  have B5 := CB_fr F5 hB
  have k5 := CA_le A5
  have l5' : O5.length + i + (if x2 < 0 then 0 else 1) + 1 ≤ O.length + k := by omega
  refine pt_if (fun _ => ?_) (fun q => absurd rfl q)
  refine pt_gC (pt_zb (pt_and (pt_ok (xs_emit B5)) (v_emit B5.1.1 t5 (by omega))) (fun w σ6 h6 => ?_))
  obtain ⟨⟨_, f6⟩, e6, t6⟩ := h6
  have f6 : F9 σ5 σ6 := f6
  have t6 : St σ6 (O5 ++ [(4, s)]) := t6
  refine again_ x2 k (s :: wl x2 W) O5 (O5 ++ [(4, s)]) σ6 h3 l5.2 rc5 ?_ (F5.tr f6.1.1) (e6.trans e5) (by rw [f6.2]; exact A5) t6 (by rw [List.length_append, List.length_singleton]; omega)
  rw [setl_p (by rw [r2.1]; decide), r2.2]
  rcases h3 with rfl | h3
  · rw [wl_n (by decide)]; exact Lw_s hW (by decide)
  · have r := rk_w1 h3
    rw [wl_w r.2.2]; exact setl_s (by rw [r.1]; decide)
theorem csumv_all (hN : 1048576 ≤ N) : ∀ dd : Nat, (∀ (i : Nat) (W : List Int32) (O : List zOp) (x : Int32) (σ : zS), HV t n c m i W O x σ → Lw W → Pt (f_X5_sum N dd 57 x σ) (SV t n c m i W O σ)) ∧ (∀ (i : Nat) (W : List Int32) (O : List zOp) (x : Int32) (σ : zS), HV t n c m i W O x σ → Pt (f_X5_part N dd 57 x σ) (PV t n c m i W O σ)) ∧ (∀ (i : Nat) (W : List Int32) (O : List zOp) (x y : Int32) (σ : zS), HV t n c m i W O x σ → tkK t n i = 1 → y = wv t n i → Pt (f_X5_wordPart N dd 57 y x σ) (PV t n c m i W O σ)) := by
  intro dd
  induction dd with
  | zero => exact ⟨fun _ _ _ _ _ _ _ a h => absurd (show (none : Option (Int32 × zS)) = some a from h) (by simp), fun _ _ _ _ _ _ a h => absurd (show (none : Option (Int32 × zS)) = some a from h) (by simp), fun _ _ _ _ _ _ _ _ _ a h => absurd (show (none : Option (Int32 × zS)) = some a from h) (by simp)⟩
  | succ dd ih =>
    refine ⟨fun i W O x σ H hW => ?_, fun i W O x σ H => ?_, fun i W O x y σ H hk hy => ?_⟩
    · show Pt (B_X5_sum N (f_X5_sum N dd) (f_X5_part N dd) (f_X5_wordPart N dd) 57 x σ) _
      exact vs_sum H hW ih.2.1
    · show Pt (B_X5_part N (f_X5_sum N dd) (f_X5_part N dd) (f_X5_wordPart N dd) 57 x σ) _
      exact vs_part hN H ih.1 ih.2.2
    · show Pt (B_X5_wordPart N (f_X5_sum N dd) (f_X5_part N dd) (f_X5_wordPart N dd) 57 y x σ) _
      exact vs_wordPart hk hy H ih.2.1
end CSV

section ROPS
variable {N : Nat} {σ τ : zS} {x1 x2 x3 x4 : Int32}
theorem n1024 {k : Nat} : (1024 : Int32) * nI k = nI (1024 * k) := by
  rw [show (1024 : Int32) = nI 1024 from rfl, nI_mul]
theorem nI_xor (a b : Nat) : nI a ^^^ nI b = nI (a ^^^ b) := by
  apply Int32.toBitVec_inj.mp
  rw [Int32.toBitVec_xor]
  show BitVec.ofNat 32 a ^^^ BitVec.ofNat 32 b = BitVec.ofNat 32 (a ^^^ b)
  apply BitVec.eq_of_getLsbD_eq
  intro i hi
  rw [BitVec.getLsbD_xor, BitVec.getLsbD_ofNat, BitVec.getLsbD_ofNat, BitVec.getLsbD_ofNat, Nat.testBit_xor, decide_eq_true hi]
  simp
theorem or_x {m k : Nat} (h : m.testBit k = false) : m ||| 2 ^ k = m ^^^ 2 ^ k := by
  apply Nat.eq_of_testBit_eq
  intro i
  rw [xb, Nat.testBit_or, Nat.testBit_two_pow]
  by_cases e : k = i
  · subst e; rw [h]; simp
  · rw [decide_eq_false e]; simp
theorem RM_of {σ0 : zS} {v : Int32} {p : Nat} {S : Nat → Prop} (e20 : σ.1 220 = σ0.1 220) (e19 : σ.1 219 = σ0.1 219) (h : RM σ τ v p S) : RM σ0 τ v p S := by
  unfold RM at h ⊢
  rw [e20, e19] at h
  exact h
theorem ZB_n {k : Nat} {g : Nat → Int32} (hk : ¬ (zKd k).1 = 16) (h : ZB σ.1) : ZB (zI σ k g).1 := fun a ha j => by
  rw [zI_n (fun e => hk (by rw [← e]; exact ha))]; exact h a ha j
theorem vr_makes (hN : 1048576 ≤ N) (hR : RF σ.2.2) (hB : ZB σ.1) (hn : 0 ≤ (σ.1 219 0).toInt ∧ (σ.1 219 0).toInt ≤ 10) : Pt (f_X12_makes N 218 x1 x2 x3 x4 σ) (fun r => r.2.2 = σ.2 ∧ (mkC (σ.1 219 0) x1 x2 x3 x4 → RM σ r.2 r.1 x1.toInt.toNat (CS x2 (rb (σ.1 220) (1024 * x3.toInt.toNat)) (rb (σ.1 220) (1024 * x4.toInt.toNat)) (mn (σ.1 219 0)))) ∧ (¬ mkC (σ.1 219 0) x1 x2 x3 x4 → r.1 = -2 ∧ r.2 = σ)) := by
  have mb := mn_le hn.2
  rw [f_X12_makes.eq_1]
  refine pt_gC (pt_zbq (vr_isRegister hR) (fun v hv => pt_if (fun q => pt_some ⟨rfl, fun z => absurd z.1.1 (hv.1 q), fun _ => ⟨rfl, rfl⟩⟩) (fun q1 => ?_)))
  refine pt_zbq vr_in (fun v2 hv2 => ?_)
  rw [i64_of] at hv2
  simp only [Int64.reduceToInt] at hv2
  refine pt_if (fun q => pt_some ⟨rfl, fun z => absurd z.2 (hv2.1 q), fun _ => ⟨rfl, rfl⟩⟩) (fun q2 => ?_)
  refine pt_gC (pt_zbq (vr_isRegister hR) (fun v3 hv3 => pt_if (fun q => pt_some ⟨rfl, fun z => absurd z.1.2.1 (hv3.1 q), fun _ => ⟨rfl, rfl⟩⟩) (fun q3 => ?_)))
  refine pt_gC (pt_zbq (vr_isRegister hR) (fun v5 hv5 => pt_if (fun q => pt_some ⟨rfl, fun z => absurd z.1.2.2 (hv5.1 q), fun _ => ⟨rfl, rfl⟩⟩) (fun q5 => ?_)))
  have hm : mkC (σ.1 219 0) x1 x2 x3 x4 := ⟨⟨hv.2 q1, hv3.2 q3, hv5.2 q5⟩, hv2.2 q2⟩
  obtain ⟨p, hp, rfl⟩ := isR_n (hv.2 q1)
  obtain ⟨k, hk, rfl⟩ := isR_n (hv3.2 q3)
  obtain ⟨l, hl, rfl⟩ := isR_n (hv5.2 q5)
  rw [iN (m := p) (by omega), iN (m := k) (by omega), iN (m := l) (by omega)]
  refine pt_gC (pt_zbq (vr_mn hR hn) (fun v9 hv9 => ?_))
  subst hv9
  refine pt_pI ?_
  have R1 : RF (zI σ 218 (upd (σ.1 218) 20 (nI (mn (σ.1 219 0))))).2.2 := hR
  have B1 : ZB (zI σ 218 (upd (σ.1 218) 20 (nI (mn (σ.1 219 0))))).1 := ZB_n (by decide) hB
  have a1 : (zI σ 218 (upd (σ.1 218) 20 (nI (mn (σ.1 219 0))))).1 218 20 = nI (mn (σ.1 219 0)) := by rw [zI_s, upd_s]
  have e1 : ∀ a, a ≠ 218 → (zI σ 218 (upd (σ.1 218) 20 (nI (mn (σ.1 219 0))))).1 a = σ.1 a := fun a ha => zI_n ha
  have t1 : (zI σ 218 (upd (σ.1 218) 20 (nI (mn (σ.1 219 0))))).2 = σ.2 := rfl
  generalize zI σ 218 (upd (σ.1 218) 20 (nI (mn (σ.1 219 0)))) = σ1 at R1 B1 a1 e1 t1 ⊢
  rw [n1024, n1024]
  refine pt_gR (v := 220) (R1 218 2 rfl) (pt_gR (v := 220) (R1 218 2 rfl) (pt_gC (pt_zb (pt_and (pt_ok (s_X12_gives_220_220 hN R1 B1 (by rw [a1, nI_toInt (by omega)]; omega) (by rw [nI_toInt (by omega)]; omega) (by rw [nI_toInt (by omega)]; omega))) (vr_gives R1 (by omega) (by omega) a1 mb (by decide) (by decide))) (fun _ σ2 h => ?_))))
  obtain ⟨⟨_, B2⟩, f2, h2⟩ := h
  have B2 : ZB σ2.1 := B2
  have f2 : FG [227, 228, 229] σ1 σ2 := f2
  have R2 := f2.R R1
  have e19 : σ2.1 219 = σ.1 219 := (f2.2 219 (by decide)).trans (e1 219 (by decide))
  have e20 : σ2.1 220 = σ.1 220 := (f2.2 220 (by decide)).trans (e1 220 (by decide))
  have S2 : Md 227 σ2 1024 (CS x2 (rb (σ.1 220) (1024 * k)) (rb (σ.1 220) (1024 * l)) (mn (σ.1 219 0))) := Md_z B2 rfl (fun u hu => by
    have := h2 u hu
    rw [e1 220 (by decide)] at this
    exact this)
  refine pt_gC (pt_zb (vr_lays R2 (by rw [e19]; exact hn) hp S2) (fun v σ3 h => pt_some ⟨h.1.1.trans (f2.1.trans t1), fun _ => RM_of e20 e19 h.2, fun z => absurd hm z⟩))
theorem vr_turn (hN : 1048576 ≤ N) (hR : RF σ.2.2) (hB : ZB σ.1) (hn : 0 ≤ (σ.1 219 0).toInt ∧ (σ.1 219 0).toInt ≤ 10) : Pt (f_X12_turn N 218 x1 x2 x3 σ) (fun r => r.2.2 = σ.2 ∧ (tuC (σ.1 219 0) x1 x2 x3 → RM σ r.2 r.1 x1.toInt.toNat (RS x2 (rb (σ.1 220) (1024 * x3.toInt.toNat)) (mn (σ.1 219 0)))) ∧ (¬ tuC (σ.1 219 0) x1 x2 x3 → r.1 = -2 ∧ r.2 = σ)) := by
  have mb := mn_le hn.2
  rw [f_X12_turn.eq_1]
  refine pt_gC (pt_zbq (vr_isRegister hR) (fun v hv => pt_if (fun q => pt_some ⟨rfl, fun z => absurd z.1.1 (hv.1 q), fun _ => ⟨rfl, rfl⟩⟩) (fun q1 => ?_)))
  refine pt_zbq vr_in (fun v2 hv2 => ?_)
  rw [i64_of] at hv2
  simp only [Int64.reduceToInt] at hv2
  refine pt_if (fun q => pt_some ⟨rfl, fun z => absurd z.2 (hv2.1 q), fun _ => ⟨rfl, rfl⟩⟩) (fun q2 => ?_)
  refine pt_gC (pt_zbq (vr_isRegister hR) (fun v3 hv3 => pt_if (fun q => pt_some ⟨rfl, fun z => absurd z.1.2 (hv3.1 q), fun _ => ⟨rfl, rfl⟩⟩) (fun q3 => ?_)))
  have hm : tuC (σ.1 219 0) x1 x2 x3 := ⟨⟨hv.2 q1, hv3.2 q3⟩, hv2.2 q2⟩
  obtain ⟨p, hp, rfl⟩ := isR_n (hv.2 q1)
  obtain ⟨k, hk, rfl⟩ := isR_n (hv3.2 q3)
  rw [iN (m := p) (by omega), iN (m := k) (by omega)]
  refine pt_gC (pt_zbq (vr_mn hR hn) (fun v9 hv9 => ?_))
  subst hv9
  refine pt_pI ?_
  have R1 : RF (zI σ 218 (upd (σ.1 218) 20 (nI (mn (σ.1 219 0))))).2.2 := hR
  have B1 : ZB (zI σ 218 (upd (σ.1 218) 20 (nI (mn (σ.1 219 0))))).1 := ZB_n (by decide) hB
  have a1 : (zI σ 218 (upd (σ.1 218) 20 (nI (mn (σ.1 219 0))))).1 218 20 = nI (mn (σ.1 219 0)) := by rw [zI_s, upd_s]
  have e1 : ∀ a, a ≠ 218 → (zI σ 218 (upd (σ.1 218) 20 (nI (mn (σ.1 219 0))))).1 a = σ.1 a := fun a ha => zI_n ha
  have t1 : (zI σ 218 (upd (σ.1 218) 20 (nI (mn (σ.1 219 0))))).2 = σ.2 := rfl
  generalize zI σ 218 (upd (σ.1 218) 20 (nI (mn (σ.1 219 0)))) = σ1 at R1 B1 a1 e1 t1 ⊢
  rw [n1024]
  refine pt_gR (v := 220) (R1 218 2 rfl) (pt_gC (pt_zb (pt_and (pt_ok (s_X12_turns_220 hN R1 B1 (by rw [a1, nI_toInt (by omega)]; omega) (by rw [nI_toInt (by omega)]; omega))) (vr_turns R1 (by omega) a1 mb (by decide))) (fun _ σ2 h => ?_)))
  obtain ⟨⟨_, B2⟩, f2, h2⟩ := h
  have B2 : ZB σ2.1 := B2
  have f2 : FG [227, 228] σ1 σ2 := f2
  have R2 := f2.R R1
  have e19 : σ2.1 219 = σ.1 219 := (f2.2 219 (by decide)).trans (e1 219 (by decide))
  have e20 : σ2.1 220 = σ.1 220 := (f2.2 220 (by decide)).trans (e1 220 (by decide))
  have S2 : Md 227 σ2 1024 (RS x2 (rb (σ.1 220) (1024 * k)) (mn (σ.1 219 0))) := Md_z B2 rfl (fun u hu => by
    have := h2 u hu
    rw [e1 220 (by decide)] at this
    exact this)
  refine pt_gC (pt_zb (vr_lays R2 (by rw [e19]; exact hn) hp S2) (fun v σ3 h => pt_some ⟨h.1.1.trans (f2.1.trans t1), fun _ => RM_of e20 e19 h.2, fun z => absurd hm z⟩))
theorem vr_sets (hR : RF σ.2.2) (hn : 0 ≤ (σ.1 219 0).toInt ∧ (σ.1 219 0).toInt ≤ 10) (h01 : x3 = 0 ∨ x3 = 1) : Pt (f_X12_sets N 218 x1 x2 x3 σ) (fun r => r.2.2 = σ.2 ∧ (seC (σ.1 219 0) x1 x2 → r.2.1 220 = upd (σ.1 220) (1024 * x1.toInt.toNat + x2.toInt.toNat) x3 ∧ (r.1 = 0 ∨ r.1 = 1) ∧ (r.1 = 0 ↔ (rb (σ.1 220) (1024 * x1.toInt.toNat) x2.toInt.toNat = true ↔ x3 = 1))) ∧ (¬ seC (σ.1 219 0) x1 x2 → r.1 = -2 ∧ r.2 = σ)) := by
  have mb := mn_le hn.2
  rw [f_X12_sets.eq_1]
  refine pt_gC (pt_zbq (vr_isRegister hR) (fun v hv => pt_if (fun q => pt_some ⟨rfl, fun z => absurd z.1 (hv.1 q), fun _ => ⟨rfl, rfl⟩⟩) (fun q1 => ?_)))
  refine pt_gC (pt_zbq (vr_isSet hR hn) (fun v3 hv3 => pt_if (fun q => pt_some ⟨rfl, fun z => absurd z.2 (hv3.1 q), fun _ => ⟨rfl, rfl⟩⟩) (fun q3 => ?_)))
  have hm : seC (σ.1 219 0) x1 x2 := ⟨hv.2 q1, hv3.2 q3⟩
  obtain ⟨p, hp, rfl⟩ := isR_n (hv.2 q1)
  obtain ⟨s, rfl, hs⟩ := isS_n hn.2 (hv3.2 q3)
  rw [iN (m := p) (by omega), iN (m := s) (by omega)]
  have e : ((1024 : Int32) * nI p + nI s).toInt.toNat = 1024 * p + s := by
    rw [n1024, nI_plus, nI_toInt (by omega)]; omega
  refine pt_gC (pt_zbq (vr_of hR hp (by omega)) (fun w hw => pt_gR (v := 220) (hR 218 2 rfl) (pt_s16 ?_)))
  rw [e, nrz h01]
  refine pt_if (fun q => pt_some ⟨rfl, fun _ => ⟨zI_s, Or.inl rfl, fun _ => ?_, fun _ => rfl⟩, fun z => absurd hm z⟩) (fun q => pt_some ⟨rfl, fun _ => ⟨zI_s, Or.inr rfl, fun z => absurd (show (1 : Int32) = 0 from z) (by decide), fun z => absurd ?_ q⟩, fun z => absurd hm z⟩)
  · rw [← hw.2, q]
  · rcases h01 with y | y
    · rcases hw.1 with k | k
      · rw [k, y]
      · have := z.mp (hw.2.mp k)
        rw [y] at this; exact absurd this (by decide)
    · rw [y]; exact hw.2.mpr (z.mpr y)
theorem vr_change (hR : RF σ.2.2) (hn : 0 ≤ (σ.1 219 0).toInt ∧ (σ.1 219 0).toInt ≤ 10) : Pt (f_X12_change N 218 x1 x2 x3 σ) (fun r => r.2.2 = σ.2 ∧ (chC (σ.1 219 0) x1 x2 x3 → RM σ r.2 r.1 x1.toInt.toNat (chS (rb (σ.1 220) (1024 * x2.toInt.toNat)) (mn (σ.1 219 0)) x3.toInt.toNat)) ∧ (¬ chC (σ.1 219 0) x1 x2 x3 → r.1 = -2 ∧ r.2 = σ)) := by
  have mb := mn_le hn.2
  rw [f_X12_change.eq_1]
  refine pt_gC (pt_zbq (vr_isRegister hR) (fun v hv => pt_if (fun q => pt_some ⟨rfl, fun z => absurd z.1.1 (hv.1 q), fun _ => ⟨rfl, rfl⟩⟩) (fun q1 => ?_)))
  refine pt_gC (pt_zbq (vr_isRegister hR) (fun v3 hv3 => pt_if (fun q => pt_some ⟨rfl, fun z => absurd z.1.2 (hv3.1 q), fun _ => ⟨rfl, rfl⟩⟩) (fun q3 => ?_)))
  refine pt_gC (pt_zbq (vr_isName hR hn) (fun v5 hv5 => pt_if (fun q => pt_some ⟨rfl, fun z => absurd z.2 (hv5.1 q), fun _ => ⟨rfl, rfl⟩⟩) (fun q5 => ?_)))
  have r5 : isN (σ.1 219 0) x3 := hv5.2 q5
  have hm : chC (σ.1 219 0) x1 x2 x3 := ⟨⟨hv.2 q1, hv3.2 q3⟩, r5⟩
  obtain ⟨p, hp, rfl⟩ := isR_n (hv.2 q1)
  obtain ⟨k, hk, rfl⟩ := isR_n (hv3.2 q3)
  obtain ⟨l, hl, rfl, hlt⟩ := isN_n r5 hn.2
  rw [iN (m := p) (by omega), iN (m := k) (by omega), iN (m := l) (by omega)]
  refine pt_lp (fun x : Int32 × zS => ∃ m, (x.1 = nI m ∧ m ≤ 1024) ∧ FG [227] σ x.2 ∧ Md 227 x.2 m (chS (rb (σ.1 220) (1024 * k)) (mn (σ.1 219 0)) l)) (fun again x hI ih => ?_) N _ ⟨0, ⟨rfl, Nat.zero_le _⟩, FG.rf, fun u hu => absurd hu (Nat.not_lt_zero _)⟩
  obtain ⟨x4, τ⟩ := x
  obtain ⟨m, ⟨e, hm4⟩, hf, hS⟩ := hI
  have e : x4 = nI m := e
  subst e
  have hf : FG [227] σ τ := hf
  have hS : Md 227 τ m (chS (rb (σ.1 220) (1024 * k)) (mn (σ.1 219 0)) l) := hS
  have R9 := hf.R hR
  have e19 : τ.1 219 = σ.1 219 := hf.2 219 (by decide)
  have e20 : τ.1 220 = σ.1 220 := hf.2 220 (by decide)
  rw [F_X12_change_30.eq_1]
  refine pt_if (fun q => ?_) (fun q => ?_)
  · have q : nI 1024 ≤ nI m := q
    rw [nlt (by omega) (by omega)] at q
    rw [show m = 1024 by omega] at hS
    refine pt_gC (pt_zb (vr_lays R9 (by rw [e19]; exact hn) hp hS) (fun v σ3 h => pt_some ⟨h.1.1.trans hf.1, fun _ => RM_of e20 e19 h.2, fun z => absurd hm z⟩))
  · have q : ¬ nI 1024 ≤ nI m := q
    rw [nlt (by omega) (by omega)] at q
    have K : ∀ v : Int32, ((v = 1 ∧ chS (rb (σ.1 220) (1024 * k)) (mn (σ.1 219 0)) l m) ∨ (v = 0 ∧ ¬ chS (rb (σ.1 220) (1024 * k)) (mn (σ.1 219 0)) l m)) → Pt (zl (sI 16 227 (nI m) v τ) fun σ' => again (nI m + 1, σ')) (fun r => r.2.2 = σ.2 ∧ (chC (σ.1 219 0) (nI p) (nI k) (nI l) → RM σ r.2 r.1 p (chS (rb (σ.1 220) (1024 * k)) (mn (σ.1 219 0)) l)) ∧ (¬ chC (σ.1 219 0) (nI p) (nI k) (nI l) → r.1 = -2 ∧ r.2 = σ)) := fun v hv => by
      refine pt_s16 ?_
      rw [iN (by omega), nI_s1 (by omega)]
      exact ih (nI (m + 1), _) ⟨m + 1, ⟨rfl, by omega⟩, hf.u (by simp), Md_p hS hv⟩
    refine pt_gR (v := 227) (R9 218 17 rfl) (pt_gC (pt_zbq (vr_mn R9 (by rw [e19]; exact hn)) (fun v9 hv9 => ?_)))
    rw [e19] at hv9
    subst hv9
    rw [one10 l hl, nI_xor]
    refine pt_if (fun z => K 0 (Or.inr ⟨rfl, fun y => ?_⟩)) (fun z => ?_)
    · rw [nlt (by omega) (by omega)] at z
      have := y.1; omega
    · rw [nlt (by omega) (by omega)] at z
      refine pt_gC (pt_zbq (vr_of R9 hk (x_1024 (by omega) hl)) (fun w hw => ?_))
      rw [e20] at hw
      refine pt_if (fun y => K 0 (Or.inr ⟨rfl, fun s => ?_⟩)) (fun y => K 1 (Or.inl ⟨rfl, by omega, vb_t hw y⟩))
      have := s.2
      rw [vb_f hw y] at this; cases this
theorem vr_half (hR : RF σ.2.2) (hn : 0 ≤ (σ.1 219 0).toInt ∧ (σ.1 219 0).toInt ≤ 10) : Pt (f_X12_half N 218 x1 x2 x3 x4 σ) (fun r => r.2.2 = σ.2 ∧ (chC (σ.1 219 0) x1 x2 x3 → RM σ r.2 r.1 x1.toInt.toNat (haS (rb (σ.1 220) (1024 * x2.toInt.toNat)) (mn (σ.1 219 0)) x3.toInt.toNat x4)) ∧ (¬ chC (σ.1 219 0) x1 x2 x3 → r.1 = -2 ∧ r.2 = σ)) := by
  have mb := mn_le hn.2
  rw [f_X12_half.eq_1]
  refine pt_gC (pt_zbq (vr_isRegister hR) (fun v hv => pt_if (fun q => pt_some ⟨rfl, fun z => absurd z.1.1 (hv.1 q), fun _ => ⟨rfl, rfl⟩⟩) (fun q1 => ?_)))
  refine pt_gC (pt_zbq (vr_isRegister hR) (fun v3 hv3 => pt_if (fun q => pt_some ⟨rfl, fun z => absurd z.1.2 (hv3.1 q), fun _ => ⟨rfl, rfl⟩⟩) (fun q3 => ?_)))
  refine pt_gC (pt_zbq (vr_isName hR hn) (fun v5 hv5 => pt_if (fun q => pt_some ⟨rfl, fun z => absurd z.2 (hv5.1 q), fun _ => ⟨rfl, rfl⟩⟩) (fun q5 => ?_)))
  have r5 : isN (σ.1 219 0) x3 := hv5.2 q5
  have hm : chC (σ.1 219 0) x1 x2 x3 := ⟨⟨hv.2 q1, hv3.2 q3⟩, r5⟩
  obtain ⟨p, hp, rfl⟩ := isR_n (hv.2 q1)
  obtain ⟨k, hk, rfl⟩ := isR_n (hv3.2 q3)
  obtain ⟨l, hl, rfl, hlt⟩ := isN_n r5 hn.2
  rw [iN (m := p) (by omega), iN (m := k) (by omega), iN (m := l) (by omega), one10 l hl]
  refine pt_lp (fun x : Int32 × zS => ∃ m, (x.1 = nI m ∧ m ≤ 1024) ∧ FG [227] σ x.2 ∧ Md 227 x.2 m (haS (rb (σ.1 220) (1024 * k)) (mn (σ.1 219 0)) l x4)) (fun again x hI ih => ?_) N _ ⟨0, ⟨rfl, Nat.zero_le _⟩, FG.rf, fun u hu => absurd hu (Nat.not_lt_zero _)⟩
  obtain ⟨x6, τ⟩ := x
  obtain ⟨m, ⟨e, hm4⟩, hf, hS⟩ := hI
  have e : x6 = nI m := e
  subst e
  have hf : FG [227] σ τ := hf
  have hS : Md 227 τ m (haS (rb (σ.1 220) (1024 * k)) (mn (σ.1 219 0)) l x4) := hS
  have R9 := hf.R hR
  have e19 : τ.1 219 = σ.1 219 := hf.2 219 (by decide)
  have e20 : τ.1 220 = σ.1 220 := hf.2 220 (by decide)
  rw [F_X12_half_35.eq_1]
  refine pt_if (fun q => ?_) (fun q => ?_)
  · have q : nI 1024 ≤ nI m := q
    rw [nlt (by omega) (by omega)] at q
    rw [show m = 1024 by omega] at hS
    refine pt_gC (pt_zb (vr_lays R9 (by rw [e19]; exact hn) hp hS) (fun v σ3 h => pt_some ⟨h.1.1.trans hf.1, fun _ => RM_of e20 e19 h.2, fun z => absurd hm z⟩))
  · have q : ¬ nI 1024 ≤ nI m := q
    rw [nlt (by omega) (by omega)] at q
    have K : ∀ v : Int32, ((v = 1 ∧ haS (rb (σ.1 220) (1024 * k)) (mn (σ.1 219 0)) l x4 m) ∨ (v = 0 ∧ ¬ haS (rb (σ.1 220) (1024 * k)) (mn (σ.1 219 0)) l x4 m)) → Pt (zl (sI 16 227 (nI m) v τ) fun σ' => again (nI m + 1, σ')) (fun r => r.2.2 = σ.2 ∧ (chC (σ.1 219 0) (nI p) (nI k) (nI l) → RM σ r.2 r.1 p (haS (rb (σ.1 220) (1024 * k)) (mn (σ.1 219 0)) l x4)) ∧ (¬ chC (σ.1 219 0) (nI p) (nI k) (nI l) → r.1 = -2 ∧ r.2 = σ)) := fun v hv => by
      refine pt_s16 ?_
      rw [iN (by omega), nI_s1 (by omega)]
      exact ih (nI (m + 1), _) ⟨m + 1, ⟨rfl, by omega⟩, hf.u (by simp), Md_p hS hv⟩
    have go : ∀ a : Nat, a < 1024 → m < mn (σ.1 219 0) → m.testBit l = false → (if x4 = 0 then m else m ^^^ 2 ^ l) = a → Pt (J_X12_half_83 N again 218 (nI p) (nI k) x4 (nI (2 ^ l)) (nI m) (nI a) (nI k) 218 (nI m) 227 τ) (fun r => r.2.2 = σ.2 ∧ (chC (σ.1 219 0) (nI p) (nI k) (nI l) → RM σ r.2 r.1 p (haS (rb (σ.1 220) (1024 * k)) (mn (σ.1 219 0)) l x4)) ∧ (¬ chC (σ.1 219 0) (nI p) (nI k) (nI l) → r.1 = -2 ∧ r.2 = σ)) := fun a ha lt tb ea => by
      rw [J_X12_half_83.eq_1]
      refine pt_gC (pt_zbq (vr_of R9 hk ha) (fun w hw => ?_))
      rw [e20] at hw
      refine pt_if (fun y => K 0 (Or.inr ⟨rfl, fun s => ?_⟩)) (fun y => K 1 (Or.inl ⟨rfl, lt, tb, by rw [ea]; exact vb_t hw y⟩))
      have := s.2.2
      rw [ea, vb_f hw y] at this; cases this
    refine pt_gR (v := 227) (R9 218 17 rfl) (pt_gC (pt_zbq (vr_mn R9 (by rw [e19]; exact hn)) (fun v9 hv9 => ?_)))
    rw [e19] at hv9
    subst hv9
    refine pt_if (fun z => K 0 (Or.inr ⟨rfl, fun y => ?_⟩)) (fun z => ?_)
    · rw [nlt (by omega) (by omega)] at z
      have := y.1; omega
    · rw [nlt (by omega) (by omega)] at z
      refine pt_if (fun y => ?_) (fun y => K 0 (Or.inr ⟨rfl, fun s => y ((andk (by omega)).mpr s.2.1)⟩))
      have tb := (andk (by omega)).mp y
      refine pt_if (fun w => go m (by omega) (by omega) tb (if_pos w)) (fun w => ?_)
      rw [nI_or, or_x tb]
      exact go _ (x_1024 (by omega) hl) (by omega) tb (if_neg w)
theorem vr_level (hR : RF σ.2.2) (hn : 0 ≤ (σ.1 219 0).toInt ∧ (σ.1 219 0).toInt ≤ 10) : Pt (f_X12_level N 218 x1 x2 x3 σ) (fun r => r.2.2 = σ.2 ∧ (leC (σ.1 219 0) x1 x2 x3 → RM σ r.2 r.1 x1.toInt.toNat (leS (rb (σ.1 220) (1024 * x2.toInt.toNat)) (mn (σ.1 219 0)) x3)) ∧ (¬ leC (σ.1 219 0) x1 x2 x3 → r.1 = -2 ∧ r.2 = σ)) := by
  have mb := mn_le hn.2
  rw [f_X12_level.eq_1]
  refine pt_gC (pt_zbq (vr_isRegister hR) (fun v hv => pt_if (fun q => pt_some ⟨rfl, fun z => absurd z.1.1 (hv.1 q), fun _ => ⟨rfl, rfl⟩⟩) (fun q1 => ?_)))
  refine pt_gC (pt_zbq (vr_isRegister hR) (fun v3 hv3 => pt_if (fun q => pt_some ⟨rfl, fun z => absurd z.1.2 (hv3.1 q), fun _ => ⟨rfl, rfl⟩⟩) (fun q3 => ?_)))
  refine pt_zbq vr_in (fun v2 hv2 => ?_)
  rw [i64_of] at hv2
  simp only [Int64.reduceToInt] at hv2
  refine pt_if (fun q => pt_some ⟨rfl, fun z => absurd z.2 (hv2.1 q), fun _ => ⟨rfl, rfl⟩⟩) (fun q2 => ?_)
  have hm : leC (σ.1 219 0) x1 x2 x3 := ⟨⟨hv.2 q1, hv3.2 q3⟩, hv2.2 q2⟩
  obtain ⟨p, hp, rfl⟩ := isR_n (hv.2 q1)
  obtain ⟨k, hk, rfl⟩ := isR_n (hv3.2 q3)
  rw [iN (m := p) (by omega), iN (m := k) (by omega)]
  refine pt_lp (fun x : Int32 × zS => ∃ m, (x.1 = nI m ∧ m ≤ 1024) ∧ FG [227] σ x.2 ∧ Md 227 x.2 m (leS (rb (σ.1 220) (1024 * k)) (mn (σ.1 219 0)) x3)) (fun again x hI ih => ?_) N _ ⟨0, ⟨rfl, Nat.zero_le _⟩, FG.rf, fun u hu => absurd hu (Nat.not_lt_zero _)⟩
  obtain ⟨x4, τ⟩ := x
  obtain ⟨m, ⟨e, hm4⟩, hf, hS⟩ := hI
  have e : x4 = nI m := e
  subst e
  have hf : FG [227] σ τ := hf
  have hS : Md 227 τ m (leS (rb (σ.1 220) (1024 * k)) (mn (σ.1 219 0)) x3) := hS
  have R9 := hf.R hR
  have e19 : τ.1 219 = σ.1 219 := hf.2 219 (by decide)
  have e20 : τ.1 220 = σ.1 220 := hf.2 220 (by decide)
  rw [F_X12_level_34.eq_1]
  refine pt_if (fun q => ?_) (fun q => ?_)
  · have q : nI 1024 ≤ nI m := q
    rw [nlt (by omega) (by omega)] at q
    rw [show m = 1024 by omega] at hS
    refine pt_gC (pt_zb (vr_lays R9 (by rw [e19]; exact hn) hp hS) (fun v σ3 h => pt_some ⟨h.1.1.trans hf.1, fun _ => RM_of e20 e19 h.2, fun z => absurd hm z⟩))
  · have q : ¬ nI 1024 ≤ nI m := q
    rw [nlt (by omega) (by omega)] at q
    have K : ∀ v : Int32, ((v = 1 ∧ leS (rb (σ.1 220) (1024 * k)) (mn (σ.1 219 0)) x3 m) ∨ (v = 0 ∧ ¬ leS (rb (σ.1 220) (1024 * k)) (mn (σ.1 219 0)) x3 m)) → Pt (zl (sI 16 227 (nI m) v τ) fun σ' => again (nI m + 1, σ')) (fun r => r.2.2 = σ.2 ∧ (leC (σ.1 219 0) (nI p) (nI k) x3 → RM σ r.2 r.1 p (leS (rb (σ.1 220) (1024 * k)) (mn (σ.1 219 0)) x3)) ∧ (¬ leC (σ.1 219 0) (nI p) (nI k) x3 → r.1 = -2 ∧ r.2 = σ)) := fun v hv => by
      refine pt_s16 ?_
      rw [iN (by omega), nI_s1 (by omega)]
      exact ih (nI (m + 1), _) ⟨m + 1, ⟨rfl, by omega⟩, hf.u (by simp), Md_p hS hv⟩
    refine pt_gR (v := 227) (R9 218 17 rfl) (pt_gC (pt_zbq (vr_mn R9 (by rw [e19]; exact hn)) (fun v9 hv9 => ?_)))
    rw [e19] at hv9
    subst hv9
    refine pt_if (fun z => K 0 (Or.inr ⟨rfl, fun y => ?_⟩)) (fun z => ?_)
    · rw [nlt (by omega) (by omega)] at z
      have := y.1; omega
    · rw [nlt (by omega) (by omega)] at z
      refine pt_gC (pt_zbq (vr_of R9 hk (by omega)) (fun w hw => ?_))
      rw [e20] at hw
      refine pt_if (fun y => K 0 (Or.inr ⟨rfl, fun s => ?_⟩)) (fun y => pt_zbq (vr_namesOf (by omega)) (fun v16 hv16 => ?_))
      · have := s.2.1
        rw [vb_f hw y] at this; cases this
      · subst hv16
        exact pt_if (fun e => K 1 (Or.inl ⟨rfl, by omega, vb_t hw y, e⟩)) (fun e => K 0 (Or.inr ⟨rfl, fun s => e s.2.2⟩))
end ROPS

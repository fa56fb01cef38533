/-! ===== slots: their numbers ===== -/
section SLOTS
variable {N : Nat} {σ τ : zS} {x1 x2 x3 x4 x5 : Int32} {F : Nat → Nat → Int64}
theorem pt_slot {β : Type} {P : β → Prop} {s : Nat} {f : Nat → Option β} (hR : RF σ.2.2) (hs : s < 4) (h : Pt (f (210 + 2 * s)) P) : Pt (zl (gR 11 8 0 σ) fun v3 => zl (aR 18 v3 (nI s) σ) f) P := by
  refine pt_gR (v := 56) (hR 0 8 rfl) (pt_aR ?_)
  rw [iN (by omega)]
  have e : σ.2.2 56 s = 210 + 2 * s := by
    rcases (show s = 0 ∨ s = 1 ∨ s = 2 ∨ s = 3 by omega) with rfl | rfl | rfl | rfl
    · exact hR 56 0 rfl
    · exact hR 56 1 rfl
    · exact hR 56 2 rfl
    · exact hR 56 3 rfl
  rw [e]; exact h
theorem k9 {s : Nat} (hs : s < 4) : (zKd (210 + 2 * s)).1 = 9 := by
  rcases (show s = 0 ∨ s = 1 ∨ s = 2 ∨ s = 3 by omega) with rfl | rfl | rfl | rfl <;> decide
def isL (x : Int32) : Prop := 0 ≤ x.toInt ∧ x.toInt < 4
theorem isL_n {x : Int32} (h : isL x) : ∃ k, k < 4 ∧ x = nI k := znI (m := 4) h.1 (by have := h.2; omega)
theorem vl_isSlot : Px (f_X11_isSlot N 0 x1 σ) σ (fun v => (v = 0 → ¬ isL x1) ∧ (¬ v = 0 → isL x1)) := by
  rw [f_X11_isSlot.eq_1]
  refine pt_if (fun q => pt_rZ ⟨rfl, fun _ z => ?_, fun z => absurd rfl z⟩) (fun q => pt_if (fun q2 => pt_rZ ⟨rfl, fun _ z => ?_, fun z => absurd rfl z⟩) (fun q2 => pt_rZ ⟨rfl, fun z => absurd (show (1 : Int32) = 0 from z) (by decide), fun _ => ?_⟩))
  · rw [Int32.lt_iff_toInt_lt] at q
    simp only [Int32.reduceToInt] at q
    have := z.1; omega
  · rw [Int32.le_iff_toInt_le] at q2
    simp only [Int32.reduceToInt] at q2
    have := z.2; omega
  · rw [Int32.lt_iff_toInt_lt] at q
    rw [Int32.le_iff_toInt_le] at q2
    simp only [Int32.reduceToInt] at q q2
    exact ⟨by omega, by omega⟩
theorem vr_isSlot : Px (f_X12_isSlot N x1 σ) σ (fun v => (v = 0 → ¬ isL x1) ∧ (¬ v = 0 → isL x1)) := by
  rw [f_X12_isSlot.eq_1]
  refine pt_zbq vr_in (fun v hv => pt_rZ ⟨rfl, fun z w => ?_, fun z => ?_⟩)
  · have := hv.1 z
    rw [i64_of] at this
    simp only [Int64.reduceToInt] at this
    exact this ⟨w.1, by have := w.2; omega⟩
  · have := hv.2 z
    rw [i64_of] at this
    simp only [Int64.reduceToInt] at this
    exact ⟨this.1, by omega⟩
theorem vl_isBare {k : Nat} : Px (f_X9_isBare N k σ) σ (fun v => (v = 0 → 0 ≤ (σ.1 k 2).toInt) ∧ (¬ v = 0 → (σ.1 k 2).toInt < 0)) := by
  rw [f_X9_isBare.eq_1]
  refine pt_gI (pt_if (fun q => pt_rZ ⟨rfl, fun _ => ?_, fun z => absurd rfl z⟩) (fun q => pt_rZ ⟨rfl, fun z => absurd (show (1 : Int32) = 0 from z) (by decide), fun _ => ?_⟩))
  · rw [Int32.le_iff_toInt_le] at q
    simp only [Int32.reduceToInt] at q
    exact q
  · rw [Int32.le_iff_toInt_le] at q
    simp only [Int32.reduceToInt] at q
    omega
/-- what a call of the class leaves of the slots: F if it answers 0, else all is as it was -/
def SLO (σ : zS) (F : Nat → Nat → Int64) (r : Int32 × zS) : Prop := (∀ a, ¬ (211 ≤ a ∧ a < 218) → r.2.2.1 a = σ.2.1 a) ∧ (¬ r.1 = 0 → r.2.2.1 = σ.2.1) ∧ (r.1 = 0 → ∀ s, s < 4 → ∀ j, j < 60 → r.2.2.1 (210 + 2 * s + 1) j = F s j)
theorem SLO_no {v : Int32} (h : ¬ v = 0) : Pt (some (v, σ)) (SLO σ F) := pt_some ⟨fun _ _ => rfl, fun _ => rfl, fun z => absurd z h⟩
/-- one row of longs is other -/
theorem SLO_1 {s : Nat} {g : Nat → Int64} (hs : s < 4) (hl : LF (210 + 2 * s + 1) σ τ) (hg : ∀ j, j < 60 → τ.2.1 (210 + 2 * s + 1) j = g j) (hF : ∀ s', s' < 4 → ∀ j, j < 60 → F s' j = if s' = s then g j else σ.2.1 (210 + 2 * s' + 1) j) : SLO σ F ((0 : Int32), τ) := by
  refine ⟨fun a ha => hl.2.2 a (by omega), fun z => absurd rfl z, fun _ s' hs' j hj => ?_⟩
  show τ.2.1 (210 + 2 * s' + 1) j = F s' j
  rw [hF s' hs' j hj]
  by_cases e : s' = s
  · rw [if_pos e, e]; exact hg j hj
  · rw [if_neg e, hl.2.2 _ (by omega)]
theorem v_fill60 {k : Nat} {v : Int64} {P : Unit × zS → Prop} (hk : zKd k = (15, 60)) (hP : ∀ τ : zS, LF k σ τ → (∀ j, j < 60 → τ.2.1 k j = v) → P ((), τ)) : Pt (f_J7_fill_d0a16 N k v σ) P := by
  rw [f_J7_fill_d0a16.eq_1]
  refine pt_aL ?_
  rw [hk]
  have e16 : (Int32.ofNat ((15, 60) : Nat × Nat).2).toInt = 60 := rfl
  refine pt_lp (fun s : Int32 × zS => (0 ≤ s.1.toInt ∧ s.1.toInt ≤ 60) ∧ LF k σ s.2 ∧ ∀ j : Nat, (j : Int) < s.1.toInt → s.2.2.1 k j = v) (fun again s hI ih => ?_) N _ ⟨(by decide : 0 ≤ (0 : Int32).toInt ∧ (0 : Int32).toInt ≤ 60), LF.rf, fun j hj => absurd hj (by show ¬ (j : Int) < (0 : Int32).toInt; simp only [Int32.reduceToInt]; omega)⟩
  obtain ⟨x3, τ⟩ := s
  obtain ⟨hb, hl, hj⟩ := hI
  have hb : 0 ≤ x3.toInt ∧ x3.toInt ≤ 60 := hb
  have hl : LF k σ τ := hl
  have hj : ∀ j : Nat, (j : Int) < x3.toInt → τ.2.1 k j = v := hj
  rw [F_J7_fill_d0a16_6.eq_1]
  refine pt_if (fun q => pt_some (hP τ hl (fun j h => hj j ?_))) (fun q => ?_)
  · rw [Int32.le_iff_toInt_le, e16] at q; omega
  · rw [Int32.le_iff_toInt_le, e16] at q
    have hw : 0 ≤ x3.toInt ∧ x3.toInt ≤ 100000 := by omega
    have hb1 : 0 ≤ (x3 + 1).toInt ∧ (x3 + 1).toInt ≤ 60 := by rw [a1_ hw]; omega
    refine pt_sJ (ih (x3 + 1, _) ⟨hb1, hl.sJ, fun j h => ?_⟩)
    have h : (j : Int) < (x3 + 1).toInt := h
    rw [a1_ hw] at h
    show (zJ τ k _).2.1 k j = v
    rw [zJ_s, updL_i]
    by_cases e : j = x3.toInt.toNat
    · rw [if_pos e]
    · rw [if_neg e]; exact hj j (by omega)
theorem v_start {k : Nat} (hR : RF σ.2.2) (h9 : (zKd k).1 = 9) : Pt (f_X9_start N k x2 x3 σ) (fun r => (∀ a, a ≠ k + 1 → r.2.2.1 a = σ.2.1 a) ∧ ∀ j, j < 60 → r.2.2.1 (k + 1) j = 0) := by
  rw [f_X9_start.eq_1]
  refine pt_gR (v := k + 1) (slot_R hR h9).1 (pt_zb (Q := fun r => LF (k + 1) σ r.2 ∧ ∀ j, j < 60 → r.2.2.1 (k + 1) j = 0) (v_fill60 (slot_R hR h9).2 (fun τ a b => ⟨a, b⟩)) (fun _ τ h => pt_pI (pt_pI (pt_some ?_))))
  obtain ⟨l, z⟩ := h
  exact ⟨fun a ha => l.2.2 a ha, fun j hj => z j hj⟩
theorem vl_row (hR : RF σ.2.2) : Pt (f_X11_row N 0 x1 x2 x3 σ) (SLO σ (fun s j => if s = x1.toInt.toNat then 0 else σ.2.1 (210 + 2 * s + 1) j)) := by
  rw [f_X11_row.eq_1]
  refine pt_gC (pt_zbq vl_isSlot (fun v hv => pt_if (fun _ => SLO_no (by decide)) (fun q => pt_if (fun _ => SLO_no (by decide)) (fun _ => pt_if (fun _ => SLO_no (by decide)) (fun _ => pt_if (fun _ => pt_if (fun _ => ?_) (fun _ => SLO_no (by decide))) (fun _ => SLO_no (by decide)))))))
  obtain ⟨s, hs, rfl⟩ := isL_n (hv.2 q)
  rw [iN (m := s) (by omega)]
  refine pt_slot hR hs (pt_gC (pt_zb (v_start hR (k9 hs)) (fun _ τ h => pt_some ?_)))
  obtain ⟨h1, h2⟩ := h
  refine ⟨fun a ha => h1 a (by omega), fun z => absurd rfl z, fun _ s' hs' j hj => ?_⟩
  show τ.2.1 (210 + 2 * s' + 1) j = if s' = s then 0 else σ.2.1 (210 + 2 * s' + 1) j
  by_cases e : s' = s
  · rw [if_pos e, e]; exact h2 j hj
  · rw [if_neg e]
    have := h1 (210 + 2 * s' + 1) (by omega)
    rw [← this]
def cutC (w : Int32) (x : Int64) : Int64 := if w = 0 then Int32.toInt64 ((Int32.toInt8 (Int64.toInt32 x)).toInt32) else if w = 1 then Int32.toInt64 ((Int32.toInt16 (Int64.toInt32 x)).toInt32) else if w = 2 then Int32.toInt64 (Int64.toInt32 x) else x
def cutR (w : Int32) (x : Int64) : Int64 := zsr (zsl x (64 - ((8 : Int32) <<< (w &&& 31)))) (64 - ((8 : Int32) <<< (w &&& 31)))
theorem v_cut9 {k : Nat} {x : Int64} : Pt (f_X9_cut N k x σ) (fun r => r.2 = σ ∧ r.1 = cutC (σ.1 k 1) x) := by
  rw [f_X9_cut.eq_1]
  unfold cutC
  exact pt_gI (pt_if (fun q => pt_some ⟨rfl, (if_pos q).symm⟩) (fun q => pt_if (fun q1 => pt_some ⟨rfl, ((if_neg q).trans (if_pos q1)).symm⟩) (fun q1 => pt_if (fun q2 => pt_some ⟨rfl, ((if_neg q).trans ((if_neg q1).trans (if_pos q2))).symm⟩) (fun q2 => pt_some ⟨rfl, ((if_neg q).trans ((if_neg q1).trans (if_neg q2))).symm⟩))))
theorem zsr_bv (x : Int64) {n : Nat} (hn : n < 64) : (zsr x (nI n)).toBitVec = x.toBitVec.sshiftRight n := by
  show (x >>> ((nI n).toInt64 &&& 63)).toBitVec = _
  rw [Int64.toBitVec_shiftRight]
  show x.toBitVec.sshiftRight (((nI n).toInt64 &&& 63).toBitVec.smod 64).toNat = _
  rw [(s64 n hn).1]
theorem cut_bv (b : BitVec 64) (m : Nat) (h0 : 0 < m) (h1 : m ≤ 64) : ((b.setWidth m).signExtend 64) = (b <<< (64 - m)).sshiftRight (64 - m) := by
  apply BitVec.eq_of_getLsbD_eq
  intro i hi
  rw [BitVec.getLsbD_signExtend, BitVec.getLsbD_sshiftRight, decide_eq_true hi, Bool.true_and, decide_eq_false (show ¬ 64 ≤ i by omega), Bool.not_false, Bool.true_and]
  by_cases q : i < m
  · rw [if_pos q, if_pos (by omega), BitVec.getLsbD_setWidth, BitVec.getLsbD_shiftLeft, decide_eq_true q, decide_eq_true (show 64 - m + i < 64 by omega), decide_eq_false (show ¬ 64 - m + i < 64 - m by omega)]
    rw [show 64 - m + i - (64 - m) = i by omega]
    simp
  · rw [if_neg q, if_neg (by omega), BitVec.msb_eq_getLsbD_last, BitVec.msb_eq_getLsbD_last, BitVec.getLsbD_setWidth, BitVec.getLsbD_shiftLeft, decide_eq_true (show m - 1 < m by omega), decide_eq_true (show 64 - 1 < 64 by omega), decide_eq_false (show ¬ 64 - 1 < 64 - m by omega)]
    rw [show 64 - 1 - (64 - m) = m - 1 by omega]
    simp
theorem cut_eq {w : Int32} {x : Int64} (h : 0 ≤ w.toInt ∧ w.toInt ≤ 3) : cutC w x = cutR w x := by
  apply Int64.toBitVec_inj.mp
  unfold cutC cutR
  rcases (show w = 0 ∨ w = 1 ∨ w = 2 ∨ w = 3 by
    rcases (show w.toInt = 0 ∨ w.toInt = 1 ∨ w.toInt = 2 ∨ w.toInt = 3 by omega) with q | q | q | q
    · exact Or.inl (Int32.toInt_inj.mp q)
    · exact Or.inr (Or.inl (Int32.toInt_inj.mp q))
    · exact Or.inr (Or.inr (Or.inl (Int32.toInt_inj.mp q)))
    · exact Or.inr (Or.inr (Or.inr (Int32.toInt_inj.mp q)))) with rfl | rfl | rfl | rfl
  · rw [if_pos rfl, show (64 - ((8 : Int32) <<< ((0 : Int32) &&& 31))) = nI 56 from by decide, zsr_bv _ (by decide), zsl_bv _ (by decide), ← cut_bv x.toBitVec 8 (by decide) (by decide)]
    show ((((x.toBitVec.signExtend 32).signExtend 8).signExtend 32).signExtend 64) = _
    apply BitVec.eq_of_getLsbD_eq
    intro i hi
    simp only [BitVec.getLsbD_signExtend, BitVec.getLsbD_setWidth, BitVec.msb_eq_getLsbD_last]
    by_cases q : i < 8
    · simp [q, hi, show i < 32 by omega]
    · by_cases q2 : i < 32 <;> simp [q, q2, hi]
  · rw [if_neg (by decide), if_pos rfl, show (64 - ((8 : Int32) <<< ((1 : Int32) &&& 31))) = nI 48 from by decide, zsr_bv _ (by decide), zsl_bv _ (by decide), ← cut_bv x.toBitVec 16 (by decide) (by decide)]
    show ((((x.toBitVec.signExtend 32).signExtend 16).signExtend 32).signExtend 64) = _
    apply BitVec.eq_of_getLsbD_eq
    intro i hi
    simp only [BitVec.getLsbD_signExtend, BitVec.getLsbD_setWidth, BitVec.msb_eq_getLsbD_last]
    by_cases q : i < 16
    · simp [q, hi, show i < 32 by omega]
    · by_cases q2 : i < 32 <;> simp [q, q2, hi]
  · rw [if_neg (by decide), if_neg (by decide), if_pos rfl, show (64 - ((8 : Int32) <<< ((2 : Int32) &&& 31))) = nI 32 from by decide, zsr_bv _ (by decide), zsl_bv _ (by decide), ← cut_bv x.toBitVec 32 (by decide) (by decide)]
    show ((x.toBitVec.signExtend 32).signExtend 64) = _
    apply BitVec.eq_of_getLsbD_eq
    intro i hi
    simp only [BitVec.getLsbD_signExtend, BitVec.getLsbD_setWidth, BitVec.msb_eq_getLsbD_last]
    by_cases q : i < 32
    · simp [q, hi, show i < 64 by omega]
    · simp [q, hi]
  · rw [if_neg (by decide), if_neg (by decide), if_neg (by decide), show (64 - ((8 : Int32) <<< ((3 : Int32) &&& 31))) = nI 0 from by decide, zsr_bv _ (by decide), zsl_bv _ (by decide), BitVec.shiftLeft_zero]
    show x.toBitVec = x.toBitVec.sshiftRight 0
    rw [BitVec.sshiftRight_zero]
theorem vl_write {x6 : Int64} (hR : RF σ.2.2) : Pt (f_X11_write N 0 x1 x2 x6 σ) (SLO σ (fun s j => if s = x1.toInt.toNat ∧ j = x2.toInt.toNat then cutC (σ.1 (210 + 2 * s) 1) x6 else σ.2.1 (210 + 2 * s + 1) j)) := by
  rw [f_X11_write.eq_1]
  refine pt_gC (pt_zbq vl_isSlot (fun v hv => pt_if (fun _ => SLO_no (by decide)) (fun q => ?_)))
  obtain ⟨s, hs, rfl⟩ := isL_n (hv.2 q)
  rw [iN (m := s) (by omega)]
  refine pt_slot hR hs (pt_gC (pt_zbq vl_isBare (fun v5 _ => pt_if (fun _ => pt_if (fun _ => SLO_no (by decide)) (fun _ => pt_gI (pt_if (fun _ => ?_) (fun _ => SLO_no (by decide))))) (fun _ => SLO_no (by decide)))))
  refine pt_gR (v := 210 + 2 * s + 1) (slot_R hR (k9 hs)).1 (pt_gC (pt_zb v_cut9 (fun v9 τ h9 => ?_)))
  obtain ⟨e, ev⟩ := h9
  have e : τ = σ := e
  have ev : v9 = cutC (σ.1 (210 + 2 * s) 1) x6 := ev
  subst e
  subst ev
  refine pt_sJ (pt_some (SLO_1 (g := fun j => if j = x2.toInt.toNat then cutC (τ.1 (210 + 2 * s) 1) x6 else τ.2.1 (210 + 2 * s + 1) j) hs LF.rf.sJ (fun j _ => ?_) (fun s' _ j _ => ?_)))
  · rw [zJ_s, updL_i]
  · show (if s' = s ∧ j = x2.toInt.toNat then cutC (τ.1 (210 + 2 * s') 1) x6 else τ.2.1 (210 + 2 * s' + 1) j) = _
    by_cases a : s' = s
    · subst a
      rw [if_pos rfl]
      by_cases b : j = x2.toInt.toNat
      · rw [if_pos ⟨rfl, b⟩, if_pos b]
      · rw [if_neg (fun z => b z.2), if_neg b]
    · rw [if_neg (fun z => a z.1), if_neg a]
theorem pt_cpJ {β : Type} {P : β → Prop} {k0 k1 : Nat} {sp dp n : Int32} {f : zS → Option β} (h : (0 ≤ sp.toInt ∧ 0 ≤ dp.toInt ∧ 0 ≤ n.toInt) → Pt (f (zJ σ k1 (fun j => if dp.toInt.toNat ≤ j ∧ j < dp.toInt.toNat + n.toInt.toNat then σ.2.1 k0 (sp.toInt.toNat + (j - dp.toInt.toNat)) else σ.2.1 k1 j))) P) : Pt (zl (cpJ k0 sp k1 dp n σ) f) P := fun a e => by
  obtain ⟨τ, h1, h2⟩ := zl_some e
  obtain ⟨q, rfl⟩ := zguard h1
  exact h ⟨q.2.2.1, q.2.2.2.1, q.2.2.2.2.1⟩ a h2
theorem vl_paste (hR : RF σ.2.2) : Pt (f_X11_paste N 0 x1 x2 x3 x4 x5 σ) (SLO σ (fun s j => if s = x3.toInt.toNat ∧ x4.toInt.toNat ≤ j ∧ j < x4.toInt.toNat + x5.toInt.toNat then σ.2.1 (210 + 2 * x1.toInt.toNat + 1) (x2.toInt.toNat + (j - x4.toInt.toNat)) else σ.2.1 (210 + 2 * s + 1) j)) := by
  have sp : ∀ {k : Nat} {a b : Int32}, Px (f_X9_spans N k a b σ) σ (fun _ => True) := fun {k a b} => by
    rw [f_X9_spans.eq_1]
    exact pt_if (fun _ => pt_rZ ⟨rfl, trivial⟩) (fun _ => pt_if (fun _ => pt_rZ ⟨rfl, trivial⟩) (fun _ => pt_gI (pt_if (fun _ => pt_rZ ⟨rfl, trivial⟩) (fun _ => pt_rZ ⟨rfl, trivial⟩))))
  rw [f_X11_paste.eq_1]
  refine pt_gC (pt_zbq vl_isSlot (fun v hv => pt_if (fun _ => SLO_no (by decide)) (fun q => ?_)))
  refine pt_gC (pt_zbq vl_isSlot (fun v3 hv3 => pt_if (fun _ => SLO_no (by decide)) (fun q3 => ?_)))
  obtain ⟨s, hs, rfl⟩ := isL_n (hv.2 q)
  obtain ⟨t, ht, rfl⟩ := isL_n (hv3.2 q3)
  rw [iN (m := s) (by omega), iN (m := t) (by omega)]
  refine pt_slot hR hs (pt_slot hR ht ?_)
  refine pt_gC (pt_zbq vl_isBare (fun _ _ => pt_if (fun _ => ?_) (fun _ => SLO_no (by decide))))
  refine pt_gC (pt_zbq vl_isBare (fun _ _ => pt_if (fun _ => ?_) (fun _ => SLO_no (by decide))))
  refine pt_gI (pt_gI (pt_if (fun _ => ?_) (fun _ => SLO_no (by decide))))
  refine pt_gC (pt_zbq sp (fun _ _ => pt_if (fun _ => SLO_no (by decide)) (fun _ => ?_)))
  refine pt_gC (pt_zbq sp (fun _ _ => pt_if (fun _ => SLO_no (by decide)) (fun _ => ?_)))
  refine pt_gR (v := 210 + 2 * s + 1) (slot_R hR (k9 hs)).1 (pt_gR (v := 210 + 2 * t + 1) (slot_R hR (k9 ht)).1 (pt_cpJ (fun _ => pt_some ?_)))
  refine SLO_1 (g := fun j => if x4.toInt.toNat ≤ j ∧ j < x4.toInt.toNat + x5.toInt.toNat then σ.2.1 (210 + 2 * s + 1) (x2.toInt.toNat + (j - x4.toInt.toNat)) else σ.2.1 (210 + 2 * t + 1) j) ht LF.rf.sJ (fun j _ => ?_) (fun s' _ j _ => ?_)
  · rw [zJ_s]
  · show (if s' = t ∧ x4.toInt.toNat ≤ j ∧ j < x4.toInt.toNat + x5.toInt.toNat then σ.2.1 (210 + 2 * s + 1) (x2.toInt.toNat + (j - x4.toInt.toNat)) else σ.2.1 (210 + 2 * s' + 1) j) = _
    by_cases a : s' = t
    · subst a
      rw [if_pos rfl]
      by_cases b : x4.toInt.toNat ≤ j ∧ j < x4.toInt.toNat + x5.toInt.toNat
      · rw [if_pos ⟨rfl, b⟩, if_pos b]
      · rw [if_neg (fun z => b z.2), if_neg b]
    · rw [if_neg (fun z => a z.1), if_neg a]
/-- what a call of the reference leaves of the slots -/
def SRO (σ : zS) (F : Nat → Nat → Int64) (r : Int32 × zS) : Prop := (∀ a, a < 218 → r.2.2.1 a = σ.2.1 a) ∧ (¬ r.1 = 0 → r.2.2.1 = σ.2.1) ∧ (r.1 = 0 → ∀ s, s < 4 → ∀ j, j < 60 → r.2.2.1 241 (60 * s + j) = F s j)
theorem SRO_no {v : Int32} (h : ¬ v = 0) : Pt (some (v, σ)) (SRO σ F) := pt_some ⟨fun _ _ => rfl, fun _ => rfl, fun z => absurd z h⟩
theorem n60 {s : Nat} : (60 : Int32) * nI s = nI (60 * s) := nI_mul 60 s
theorem vr_row_ (hR : RF σ.2.2) : Pt (f_X12_row N 218 x1 x2 x3 σ) (SRO σ (fun s j => if s = x1.toInt.toNat then 0 else σ.2.1 241 (60 * s + j))) := by
  rw [f_X12_row.eq_1]
  refine pt_zbq vr_isSlot (fun v hv => pt_if (fun _ => SRO_no (by decide)) (fun q => pt_zbq vr_in (fun v3 _ => pt_if (fun _ => SRO_no (by decide)) (fun _ => pt_if (fun _ => pt_if (fun _ => ?_) (fun _ => SRO_no (by decide))) (fun _ => SRO_no (by decide))))))
  obtain ⟨s, hs, rfl⟩ := isL_n (hv.2 q)
  rw [iN (m := s) (by omega)]
  refine pt_gR (v := 239) (hR 218 35 rfl) (pt_s14 (pt_gR (v := 240) (hR 218 36 rfl) (pt_s14 ?_)))
  refine pt_lp (fun t : Int32 × zS => ∃ l, (t.1 = nI l ∧ l ≤ 60) ∧ t.2.2.2 = σ.2.2 ∧ (∀ a, a ≠ 241 → t.2.2.1 a = σ.2.1 a) ∧ ∀ s', s' < 4 → ∀ j, j < 60 → t.2.2.1 241 (60 * s' + j) = if s' = s ∧ j < l then 0 else σ.2.1 241 (60 * s' + j)) (fun again t hI ih => ?_) N _ ⟨0, ⟨rfl, by omega⟩, rfl, fun _ _ => rfl, fun s' _ j _ => by rw [if_neg (fun z => absurd z.2 (Nat.not_lt_zero _))]⟩
  obtain ⟨x6, τ⟩ := t
  obtain ⟨l, ⟨ex, hl⟩, hr, ho, hj⟩ := hI
  have ex : x6 = nI l := ex
  subst ex
  have hr : τ.2.2 = σ.2.2 := hr
  have ho : ∀ a, a ≠ 241 → τ.2.1 a = σ.2.1 a := ho
  have hj : ∀ s', s' < 4 → ∀ j, j < 60 → τ.2.1 241 (60 * s' + j) = if s' = s ∧ j < l then 0 else σ.2.1 241 (60 * s' + j) := hj
  have el : (nI l).toInt = (l : Int) := nI_toInt (by omega)
  rw [F_X12_row_52.eq_1]
  refine pt_if (fun h => pt_some ⟨fun a ha => ho a (by omega), fun z => absurd rfl z, fun _ s' hs' j hj' => ?_⟩) (fun h => ?_)
  · rw [Int32.le_iff_toInt_le, el] at h
    simp only [Int32.reduceToInt] at h
    show τ.2.1 241 (60 * s' + j) = if s' = s then 0 else σ.2.1 241 (60 * s' + j)
    rw [hj s' hs' j hj']
    by_cases e : s' = s
    · rw [if_pos ⟨e, by omega⟩, if_pos e]
    · rw [if_neg (fun z => e z.1), if_neg e]
  · rw [Int32.le_iff_toInt_le, el] at h
    simp only [Int32.reduceToInt] at h
    refine pt_gR (v := 241) (by rw [hr]; exact hR 218 37 rfl) (pt_sJ ?_)
    rw [n60, nI_plus, iN (by omega), nI_m1]
    refine ih (nI (l + 1), _) ⟨l + 1, ⟨rfl, by omega⟩, hr, fun a ha => (zJ_n ha).trans (ho a ha), fun s' hs' j hj' => ?_⟩
    show (zJ τ 241 _).2.1 241 (60 * s' + j) = if s' = s ∧ j < l + 1 then 0 else σ.2.1 241 (60 * s' + j)
    rw [zJ_s, updL_i, hj s' hs' j hj']
    by_cases e : s' = s
    · subst e
      by_cases f : j = l
      · rw [if_pos (by omega), if_pos ⟨rfl, by omega⟩]
      · rw [if_neg (by omega)]
        by_cases g : j < l
        · rw [if_pos ⟨rfl, g⟩, if_pos ⟨rfl, by omega⟩]
        · rw [if_neg (fun z => g z.2), if_neg (fun z => by have := z.2; omega)]
    · rw [if_neg (by omega), if_neg (fun z => e z.1), if_neg (fun z => e z.1)]
theorem m1_ {x : Int32} (h : 0 ≤ x.toInt ∧ x.toInt ≤ 100000) : (x - 1).toInt = x.toInt - 1 := by
  rw [ti_sub]
  obtain ⟨w, hw⟩ : ∃ w, w = x.toInt := ⟨_, rfl⟩
  rw [← hw] at h ⊢
  simp only [Int32.reduceToInt]
  omega
theorem vr_write_ {x6 : Int64} (hR : RF σ.2.2) (hM : MS (σ.1 239)) : Pt (f_X12_write N 218 x1 x2 x6 σ) (SRO σ (fun s j => if s = x1.toInt.toNat ∧ j = x2.toInt.toNat then cutR (σ.1 240 s) x6 else σ.2.1 241 (60 * s + j))) := by
  rw [f_X12_write.eq_1]
  refine pt_zbq vr_isSlot (fun v hv => pt_if (fun _ => SRO_no (by decide)) (fun q => ?_))
  obtain ⟨s, hs, rfl⟩ := isL_n (hv.2 q)
  have hm := hM s
  rw [iN (m := s) (by omega)]
  refine pt_gR (v := 239) (hR 218 35 rfl) (pt_aI ?_)
  rw [iN (m := s) (by omega)]
  refine pt_if (fun _ => SRO_no (by decide)) (fun h1 => ?_)
  refine pt_gR (v := 239) (hR 218 35 rfl) (pt_aI ?_)
  rw [iN (m := s) (by omega)]
  have h1 : (σ.1 239 s).toInt ≠ -1 := fun z => h1 (Int32.toInt_inj.mp (z.trans rfl))
  refine pt_zbq vr_in (fun v7 hv7 => pt_if (fun _ => SRO_no (by decide)) (fun h7 => ?_))
  have h7 := hv7.2 h7
  rw [i64_of, i64_of, m1_ ⟨by omega, by omega⟩] at h7
  simp only [Int64.reduceToInt] at h7
  obtain ⟨i, hi, rfl⟩ := znI (x := x2) (m := 60) h7.1 (by omega)
  rw [iN (m := i) (by omega)]
  refine pt_gR (v := 241) (hR 218 37 rfl) (pt_gR (v := 240) (hR 218 36 rfl) (pt_aI ?_))
  rw [iN (m := s) (by omega), f_X12_cut.eq_1]
  refine pt_zb (Q := fun r => r.2 = σ ∧ r.1 = cutR (σ.1 240 s) x6) (pt_some ⟨rfl, rfl⟩) (fun v9 τ h9 => ?_)
  obtain ⟨e, ev⟩ := h9
  have e : τ = σ := e
  have ev : v9 = cutR (σ.1 240 s) x6 := ev
  subst e
  subst ev
  refine pt_sJ (pt_some ⟨fun a ha => zJ_n (by omega), fun z => absurd rfl z, fun _ s' hs' j hj => ?_⟩)
  rw [n60, nI_plus, iN (by omega)]
  show (zJ τ 241 _).2.1 241 (60 * s' + j) = if s' = s ∧ j = i then cutR (τ.1 240 s') x6 else τ.2.1 241 (60 * s' + j)
  rw [zJ_s, updL_i]
  by_cases e : s' = s ∧ j = i
  · rw [if_pos e, if_pos (by omega), e.1]
  · rw [if_neg e, if_neg (by omega)]
theorem lgle {x y : Int64} (h : lg_cmp x y ≤ 0) : ¬ 0 < lg_cmp x y := fun z => by
  rw [Int32.le_iff_toInt_le] at h
  rw [Int32.lt_iff_toInt_lt] at z
  omega
theorem vr_paste_ (hR : RF σ.2.2) (hM : MS (σ.1 239)) : Pt (f_X12_paste N 218 x1 x2 x3 x4 x5 σ) (SRO σ (fun s j => if s = x3.toInt.toNat ∧ x4.toInt.toNat ≤ j ∧ j < x4.toInt.toNat + x5.toInt.toNat then σ.2.1 241 (60 * x1.toInt.toNat + (x2.toInt.toNat + (j - x4.toInt.toNat))) else σ.2.1 241 (60 * s + j))) := by
  have l0 : ∀ {x : Int32}, ¬ x < 0 → 0 ≤ x.toInt := fun {x} h => by
    rw [Int32.lt_iff_toInt_lt] at h
    simp only [Int32.reduceToInt] at h
    omega
  rw [f_X12_paste.eq_1]
  refine pt_zbq vr_isSlot (fun v hv => pt_if (fun _ => SRO_no (by decide)) (fun q => ?_))
  refine pt_zbq vr_isSlot (fun v3 hv3 => pt_if (fun _ => SRO_no (by decide)) (fun q3 => ?_))
  obtain ⟨s, hs, rfl⟩ := isL_n (hv.2 q)
  obtain ⟨t, ht, rfl⟩ := isL_n (hv3.2 q3)
  have hms := hM s
  have hmt := hM t
  rw [iN (m := s) (by omega), iN (m := t) (by omega)]
  refine pt_gR (v := 239) (hR 218 35 rfl) (pt_aI (pt_if (fun _ => SRO_no (by decide)) (fun _ => ?_)))
  refine pt_gR (v := 239) (hR 218 35 rfl) (pt_aI (pt_if (fun _ => SRO_no (by decide)) (fun _ => ?_)))
  refine pt_gR (v := 240) (hR 218 36 rfl) (pt_aI (pt_gR (v := 240) (hR 218 36 rfl) (pt_aI (pt_if (fun _ => ?_) (fun _ => SRO_no (by decide))))))
  refine pt_if (fun _ => SRO_no (by decide)) (fun h2 => pt_if (fun _ => SRO_no (by decide)) (fun h4 => pt_if (fun _ => SRO_no (by decide)) (fun h5 => ?_)))
  refine pt_gR (v := 239) (hR 218 35 rfl) (pt_aI ?_)
  rw [iN (m := s) (by omega)]
  refine pt_if (fun _ => SRO_no (by decide)) (fun h6 => ?_)
  refine pt_gR (v := 239) (hR 218 35 rfl) (pt_aI ?_)
  rw [iN (m := t) (by omega)]
  refine pt_if (fun h7 => ?_) (fun _ => SRO_no (by decide))
  have b1 := spans_ok (l0 h2) (l0 h5) h6
  have b2 := spans_ok (l0 h4) (l0 h5) (lgle h7)
  have z2 := l0 h2
  have z4 := l0 h4
  have z5 := l0 h5
  obtain ⟨i, hi, rfl⟩ := znI (x := x2) (m := 61) z2 (by omega)
  obtain ⟨k, hk, rfl⟩ := znI (x := x4) (m := 61) z4 (by omega)
  obtain ⟨n, hn, rfl⟩ := znI (x := x5) (m := 61) z5 (by omega)
  rw [iN (m := i) (by omega), iN (m := k) (by omega), iN (m := n) (by omega)]
  have ei : (nI i).toInt = (i : Int) := nI_toInt (by omega)
  have ek : (nI k).toInt = (k : Int) := nI_toInt (by omega)
  have en : (nI n).toInt = (n : Int) := nI_toInt (by omega)
  rw [ei, en] at b1
  rw [ek, en] at b2
  clear h2 h4 h5 h6 h7 z2 z4 z5
  have g1 : i + n ≤ 60 := by omega
  have g2 : k + n ≤ 60 := by omega
  clear b1 b2 hms hmt
  refine pt_lp (fun y : Int32 × zS => ∃ l, (y.1 = nI l ∧ l ≤ n) ∧ y.2.2.2 = σ.2.2 ∧ (∀ a, a ≠ 242 → y.2.2.1 a = σ.2.1 a) ∧ ∀ j, j < l → y.2.2.1 242 j = σ.2.1 241 (60 * s + (i + j))) (fun again y hI ih => ?_) N _ ⟨0, ⟨rfl, by omega⟩, rfl, fun _ _ => rfl, fun j hj => absurd hj (Nat.not_lt_zero _)⟩
  obtain ⟨x6, τ⟩ := y
  obtain ⟨l, ⟨ex, hl⟩, hr, ho, hj⟩ := hI
  have ex : x6 = nI l := ex
  subst ex
  have hr : τ.2.2 = σ.2.2 := hr
  have ho : ∀ a, a ≠ 242 → τ.2.1 a = σ.2.1 a := ho
  have hj : ∀ j, j < l → τ.2.1 242 j = σ.2.1 241 (60 * s + (i + j)) := hj
  rw [F_X12_paste_113.eq_1]
  refine pt_if (fun h => ?_) (fun h => ?_)
  · rw [mle (by omega) (by omega)] at h
    have eln : l = n := by omega
    subst eln
    refine pt_lp (fun y : Int32 × zS => ∃ m, (y.1 = nI m ∧ m ≤ l) ∧ y.2.2.2 = σ.2.2 ∧ (∀ a, a ≠ 242 → a ≠ 241 → y.2.2.1 a = σ.2.1 a) ∧ y.2.2.1 242 = τ.2.1 242 ∧ ∀ s', s' < 4 → ∀ j, j < 60 → y.2.2.1 241 (60 * s' + j) = if s' = t ∧ k ≤ j ∧ j < k + m then σ.2.1 241 (60 * s + (i + (j - k))) else σ.2.1 241 (60 * s' + j)) (fun again y hI ih => ?_) N _ ⟨0, ⟨rfl, by omega⟩, hr, fun a h1 _ => ho a h1, rfl, fun s' _ j _ => by rw [if_neg (by omega)]; exact congrFun (ho 241 (by decide)) _⟩
    obtain ⟨x6, υ⟩ := y
    obtain ⟨m, ⟨ex, hm⟩, hr2, ho2, h242, hj2⟩ := hI
    have ex : x6 = nI m := ex
    subst ex
    have hr2 : υ.2.2 = σ.2.2 := hr2
    have ho2 : ∀ a, a ≠ 242 → a ≠ 241 → υ.2.1 a = σ.2.1 a := ho2
    have h242 : υ.2.1 242 = τ.2.1 242 := h242
    have hj2 : ∀ s', s' < 4 → ∀ j, j < 60 → υ.2.1 241 (60 * s' + j) = if s' = t ∧ k ≤ j ∧ j < k + m then σ.2.1 241 (60 * s + (i + (j - k))) else σ.2.1 241 (60 * s' + j) := hj2
    rw [F_X12_paste_150.eq_1]
    refine pt_if (fun h => ?_) (fun h => ?_)
    · rw [mle (by omega) (by omega)] at h
      have elm : m = l := by omega
      subst elm
      exact pt_some ⟨fun a ha => ho2 a (by omega) (by omega), fun z => absurd rfl z, fun _ s' hs' j hj' => hj2 s' hs' j hj'⟩
    · rw [mle (by omega) (by omega)] at h
      refine pt_gR (v := 241) (by rw [hr2]; exact hR 218 37 rfl) (pt_gR (v := 242) (by rw [hr2]; exact hR 218 38 rfl) (pt_aJ (pt_sJ ?_)))
      rw [n60, nI_plus, nI_plus, iN (m := 60 * t + k + m) (by omega), iN (m := m) (by omega), nI_m1, h242, hj m (by omega)]
      refine ih (nI (m + 1), _) ⟨m + 1, ⟨rfl, by omega⟩, hr2, fun a h1 h2 => (zJ_n h2).trans (ho2 a h1 h2), (zJ_n (by decide)).trans h242, fun s' hs' j hj' => ?_⟩
      show (zJ υ 241 _).2.1 241 (60 * s' + j) = if s' = t ∧ k ≤ j ∧ j < k + (m + 1) then σ.2.1 241 (60 * s + (i + (j - k))) else σ.2.1 241 (60 * s' + j)
      rw [zJ_s, updL_i, hj2 s' hs' j hj']
      by_cases e : s' = t
      · subst e
        by_cases f : j = k + m
        · subst f
          rw [if_pos (by omega), if_pos ⟨rfl, by omega, by omega⟩, show k + m - k = m by omega]
        · rw [if_neg (by omega)]
          by_cases g : k ≤ j ∧ j < k + m
          · rw [if_pos ⟨rfl, g⟩, if_pos ⟨rfl, by omega, by omega⟩]
          · rw [if_neg (fun z => g z.2), if_neg (fun z => by have := z.2; omega)]
      · rw [if_neg (by omega), if_neg (fun z => e z.1), if_neg (fun z => e z.1)]
  · rw [mle (by omega) (by omega)] at h
    refine pt_gR (v := 242) (by rw [hr]; exact hR 218 38 rfl) (pt_gR (v := 241) (by rw [hr]; exact hR 218 37 rfl) (pt_aJ (pt_sJ ?_)))
    rw [n60, nI_plus, nI_plus, iN (m := 60 * s + i + l) (by omega), iN (m := l) (by omega), nI_m1, ho 241 (by decide)]
    refine ih (nI (l + 1), _) ⟨l + 1, ⟨rfl, by omega⟩, hr, fun a h1 => (zJ_n h1).trans (ho a h1), fun j hj' => ?_⟩
    show (zJ τ 242 _).2.1 242 j = _
    rw [zJ_s, updL_i]
    by_cases f : j = l
    · rw [if_pos f, f, Nat.add_assoc]
    · rw [if_neg f]; exact hj j (by omega)
end SLOTS

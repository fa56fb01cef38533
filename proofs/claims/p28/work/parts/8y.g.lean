section Zq15_0
/-! ===== the ends of an edge are unlike ===== -/
section UNL
variable {t : Nat → Int32} {n i j sg sg' : Nat} {g g' : Nat → Int32}
def UE (g : Nat → Int32) : Prop := ∀ k, k < (g 2).toInt.toNat → g (13 + k) ≠ g (23 + k)
theorem UE_c (h2 : g' 2 = g 2) (h : ∀ k, k < 10 → g' (13 + k) = g (13 + k) ∧ g' (23 + k) = g (23 + k)) (h10 : (g 2).toInt ≤ 10) (hU : UE g) : UE g' := fun k hk => by
  rw [h2] at hk
  rw [(h k (by omega)).1, (h k (by omega)).2]
  exact hU k hk
theorem nvI_i {t : Nat → Int32} {n i : Nat} : (nvI t n i).toInt = nv5 t n i := by
  have h0 : 0 ≤ nv5 t n i ∧ nv5 t n i ≤ 99999 := by unfold nv5; omega
  unfold nvI
  rw [nI_toInt (by omega)]
  omega
theorem UE_bd (hL : LI g) (hU : UE g) (ho : bdR t n i g sg = some (j, g', sg')) : UE g' := by
  have hb := hL.1.1
  have h10 : (g 2).toInt ≤ 10 := by omega
  by_cases h1 : g 1 = 0
  · have ho : nmR t n i g sg = some (j, g', sg') := by unfold bdR at ho; rw [if_pos h1] at ho; exact ho
    by_cases q : isW t n i 11 ∧ nOK t n (tkE t n i) 1 10
    · rw [nmR_t q] at ho
      obtain ⟨-, e, -⟩ := some3 ho
      intro k hk
      rw [← e] at hk
      have hk : k < (g 2).toInt.toNat := hk
      have := (hL.2.1 h1).2
      omega
    · rw [nmR_f q] at ho; cases ho
  · have ho : lnR t n i g sg = some (j, g', sg') := by unfold bdR at ho; rw [if_neg h1] at ho; exact ho
    by_cases w12 : isW t n i 12
    · rw [lnR_w w12] at ho
      by_cases q : nmOK t n (tkE t n i) (g 0) ∧ nOK t n (tkE t n (tkE t n i)) 0 99
      · rw [wtR_t q] at ho
        obtain ⟨-, e, -⟩ := some3 ho
        have b : ((t (tkF t n (tkE t n i))).toInt - 97).toNat ≤ 9 := by have := q.1.2.2; omega
        generalize ((t (tkF t n (tkE t n i))).toInt - 97).toNat = k at *
        have o : ∀ a, (a < 3 ∨ 13 ≤ a) → g' a = g a := fun a ha => by rw [← e]; exact upd_n (by omega)
        exact UE_c (o 2 (by omega)) (fun k _ => ⟨o _ (by omega), o _ (by omega)⟩) h10 hU
      · rw [wtR_f q] at ho; cases ho
    · by_cases w13 : isW t n i 13
      · by_cases e2 : g 2 = g 0
        · rw [lnR_m w12 w13 e2] at ho; cases ho
        · rw [lnR_e w12 w13 e2] at ho
          by_cases q : edOK t n (tkE t n i)
          · rw [edR_t q] at ho
            obtain ⟨-, e, -⟩ := some3 ho
            have ne : nvI t n (tkE t n i) ≠ nvI t n (tkE t n (tkE t n i)) := fun z => by
              have z := congrArg Int32.toInt z
              rw [nvI_i, nvI_i] at z
              exact q.2.1 ⟨q.2.2.1, z.symm⟩
            generalize nvI t n (tkE t n i) = v at *
            generalize nvI t n (tkE t n (tkE t n i)) = w at *
            have lt : (g 2).toInt < (g 0).toInt := by
              have : (g 2).toInt ≠ (g 0).toInt := fun z => e2 (Int32.toInt_inj.mp z)
              omega
            have s2 : (g 2 + 1).toInt = (g 2).toInt + 1 := a1_ ⟨by omega, by omega⟩
            obtain ⟨m, hm⟩ : ∃ m, m = (g 2).toInt.toNat := ⟨_, rfl⟩
            have eg : ∀ a, g' a = if a = 2 then g 2 + 1 else if a = 23 + m then w else if a = 13 + m then v else g a := fun a => by rw [← e, hm]; rfl
            intro k hk
            rw [eg 2, if_pos rfl, s2] at hk
            by_cases y : k = m
            · rw [y, eg (13 + m), if_neg (by omega), if_neg (by omega), if_pos rfl, eg (23 + m), if_neg (by omega), if_pos rfl]
              exact ne
            · rw [eg (13 + k), if_neg (by omega), if_neg (by omega), if_neg (by omega), eg (23 + k), if_neg (by omega), if_neg (by omega), if_neg (by omega)]
              exact hU k (by omega)
          · rw [edR_f q] at ho; cases ho
      · by_cases w14 : isW t n i 14
        · rw [lnR_l w12 w13 w14] at ho
          obtain ⟨p, _, e⟩ := Option.map_eq_some_iff.mp ho
          have eg : g = g' := congrArg (fun z : LC => z.2.1) e
          rw [← eg]; exact hU
        · rw [lnR_z w12 w13 w14] at ho; cases ho
theorem UE_s {a b : LW2} (h6 : n ≤ 600) (h : HW n a) (hU : UE a.1.2.1) (hs : stW t n a = some (some b)) : UE b.1.2.1 := by
  obtain ⟨⟨i, g, sg⟩, O⟩ := a
  obtain ⟨⟨hL, le⟩, _⟩ := h
  have hL : LI g := hL
  have hU : UE g := hU
  obtain ⟨s1, _⟩ := stW_i hs
  have s1 : stL t n (i, g, sg) = some (some b.1) := s1
  by_cases k0 : tkK t n i = 0
  · rw [stL_e (c := (i, g, sg)) k0] at s1; cases s1
  cases eb : bdR t n i g sg with
  | none => rw [stL_n (c := (i, g, sg)) k0 eb] at s1; cases s1
  | some d =>
    rw [stL_s (c := (i, g, sg)) k0 eb] at s1
    split at s1
    · obtain ⟨j, g', sg'⟩ := d
      have e1 : b.1 = (tkE t n j, upd g' 1 (g' 1 + 1), sg') := (Option.some.inj (Option.some.inj s1)).symm
      have F := (LI_bd hL eb).1
      rw [e1]
      have o : ∀ a, a ≠ 1 → (upd g' 1 (g' 1 + 1)) a = g' a := fun a ha => upd_n ha
      exact UE_c (g := g') (o 2 (by decide)) (fun k _ => ⟨o _ (by omega), o _ (by omega)⟩) (by have := F.1; omega) (UE_bd hL hU eb)
    · cases s1
theorem UE_k (h6 : n ≤ 600) : ∀ {k : Nat} {a b : LW2}, HW n a → UE a.1.2.1 → itG (stW t n) k a = some b → UE b.1.2.1
  | 0, a, b, _, h, e => by rw [← show a = b from Option.some.inj e]; exact h
  | k + 1, a, b, h, hU, e => by
    have e : (stW t n a).bind (fun o => o.bind (fun c1 => itG (stW t n) k c1)) = some b := e
    obtain ⟨o, ho, e⟩ := Option.bind_eq_some_iff.mp e
    obtain ⟨c1, hc, e⟩ := Option.bind_eq_some_iff.mp e
    rw [hc] at ho
    exact UE_k h6 (HW_s h6 h ho) (UE_s h6 h hU ho) e
theorem UE_R {G : Nat → Int32} {b : LW2} (h6 : n ≤ 600) (hG : ∀ j, j < 43 → G j = 0) (hr : Rc (stW t n) ((0, G, 0), []) b) : UE b.1.2.1 := by
  obtain ⟨k, hk⟩ := hr
  refine UE_k h6 (HW_0 hG) (fun k hk => ?_) hk
  have hk : k < (G 2).toInt.toNat := hk
  rw [hG 2 (by decide)] at hk
  exact absurd hk (Nat.not_lt_zero _)
end UNL
end Zq15_0
section Zq15_1
/-! ===== slots: their numbers ===== -/
section SLOTS
variable {N : Nat} {σ τ : zS} {x1 x2 x3 x4 x5 : Int32} {F : Nat → Nat → Int64}
theorem pt_slot {β : Type} {P : β → Prop} {s : Nat} {f : Nat → Option β} (hR : RF σ.2.2) (hs : s < 4) (h : Pt (f (210 + 2 * s)) P) : Pt (zl (gR 11 8 0 σ) fun v3 => zl (aR 18 v3 (nI s) σ) f) P := by
  refine pt_gR (v := 56) (hR 0 8 rfl) (pt_aR ?_)
  rw [iN (by omega)]
  have e : σ.2.2 56 s = 210 + 2 * s := by
    rcases (show s = 0 ∨ s = 1 ∨ s = 2 ∨ s = 3 by omega) with rfl | rfl | rfl | rfl
    · exact hR 56 0 rfl
    · exact hR 56 1 rfl
    · exact hR 56 2 rfl
    · exact hR 56 3 rfl
  rw [e]; exact h
theorem k9 {s : Nat} (hs : s < 4) : (zKd (210 + 2 * s)).1 = 9 := by
  rcases (show s = 0 ∨ s = 1 ∨ s = 2 ∨ s = 3 by omega) with rfl | rfl | rfl | rfl <;> decide
def isL (x : Int32) : Prop := 0 ≤ x.toInt ∧ x.toInt < 4
theorem isL_n {x : Int32} (h : isL x) : ∃ k, k < 4 ∧ x = nI k := znI (m := 4) h.1 (by have := h.2; omega)
theorem vl_isSlot : Px (f_X11_isSlot N 0 x1 σ) σ (fun v => (v = 0 → ¬ isL x1) ∧ (¬ v = 0 → isL x1)) := by
  rw [f_X11_isSlot.eq_1]
  refine pt_if (fun q => pt_rZ ⟨rfl, fun _ z => ?_, fun z => absurd rfl z⟩) (fun q => pt_if (fun q2 => pt_rZ ⟨rfl, fun _ z => ?_, fun z => absurd rfl z⟩) (fun q2 => pt_rZ ⟨rfl, fun z => absurd (show (1 : Int32) = 0 from z) (by decide), fun _ => ?_⟩))
  · rw [Int32.lt_iff_toInt_lt] at q
    simp only [Int32.reduceToInt] at q
    have := z.1; omega
  · rw [Int32.le_iff_toInt_le] at q2
    simp only [Int32.reduceToInt] at q2
    have := z.2; omega
  · rw [Int32.lt_iff_toInt_lt] at q
    rw [Int32.le_iff_toInt_le] at q2
    simp only [Int32.reduceToInt] at q q2
    exact ⟨by omega, by omega⟩
theorem vr_isSlot : Px (f_X12_isSlot N x1 σ) σ (fun v => (v = 0 → ¬ isL x1) ∧ (¬ v = 0 → isL x1)) := by
  rw [f_X12_isSlot.eq_1]
  refine pt_zbq vr_in (fun v hv => pt_rZ ⟨rfl, fun z w => ?_, fun z => ?_⟩)
  · have := hv.1 z
    rw [i64_of] at this
    simp only [Int64.reduceToInt] at this
    exact this ⟨w.1, by have := w.2; omega⟩
  · have := hv.2 z
    rw [i64_of] at this
    simp only [Int64.reduceToInt] at this
    exact ⟨this.1, by omega⟩
theorem vl_isBare {k : Nat} : Px (f_X9_isBare N k σ) σ (fun v => (v = 0 → 0 ≤ (σ.1 k 2).toInt) ∧ (¬ v = 0 → (σ.1 k 2).toInt < 0)) := by
  rw [f_X9_isBare.eq_1]
  refine pt_gI (pt_if (fun q => pt_rZ ⟨rfl, fun _ => ?_, fun z => absurd rfl z⟩) (fun q => pt_rZ ⟨rfl, fun z => absurd (show (1 : Int32) = 0 from z) (by decide), fun _ => ?_⟩))
  · rw [Int32.le_iff_toInt_le] at q
    simp only [Int32.reduceToInt] at q
    exact q
  · rw [Int32.le_iff_toInt_le] at q
    simp only [Int32.reduceToInt] at q
    omega
/-- what a call of the class leaves of the slots: F if it answers 0, else all is as it was -/
def SLO (σ : zS) (F : Nat → Nat → Int64) (r : Int32 × zS) : Prop := (∀ a, ¬ (211 ≤ a ∧ a < 218) → r.2.2.1 a = σ.2.1 a) ∧ (¬ r.1 = 0 → r.2.2.1 = σ.2.1) ∧ (r.1 = 0 → ∀ s, s < 4 → ∀ j, j < 60 → r.2.2.1 (210 + 2 * s + 1) j = F s j)
theorem SLO_no {v : Int32} (h : ¬ v = 0) : Pt (some (v, σ)) (SLO σ F) := pt_some ⟨fun _ _ => rfl, fun _ => rfl, fun z => absurd z h⟩
/-- one row of longs is other -/
theorem SLO_1 {s : Nat} {g : Nat → Int64} (hs : s < 4) (hl : LF (210 + 2 * s + 1) σ τ) (hg : ∀ j, j < 60 → τ.2.1 (210 + 2 * s + 1) j = g j) (hF : ∀ s', s' < 4 → ∀ j, j < 60 → F s' j = if s' = s then g j else σ.2.1 (210 + 2 * s' + 1) j) : SLO σ F ((0 : Int32), τ) := by
  refine ⟨fun a ha => hl.2.2 a (by omega), fun z => absurd rfl z, fun _ s' hs' j hj => ?_⟩
  show τ.2.1 (210 + 2 * s' + 1) j = F s' j
  rw [hF s' hs' j hj]
  by_cases e : s' = s
  · rw [if_pos e, e]; exact hg j hj
  · rw [if_neg e, hl.2.2 _ (by omega)]
theorem v_fill60 {k : Nat} {v : Int64} {P : Unit × zS → Prop} (hk : zKd k = (15, 60)) (hP : ∀ τ : zS, LF k σ τ → (∀ j, j < 60 → τ.2.1 k j = v) → P ((), τ)) : Pt (f_J7_fill_d0a16 N k v σ) P := by
  rw [f_J7_fill_d0a16.eq_1]
  refine pt_aL ?_
  rw [hk]
  have e16 : (Int32.ofNat ((15, 60) : Nat × Nat).2).toInt = 60 := rfl
  refine pt_lp (fun s : Int32 × zS => (0 ≤ s.1.toInt ∧ s.1.toInt ≤ 60) ∧ LF k σ s.2 ∧ ∀ j : Nat, (j : Int) < s.1.toInt → s.2.2.1 k j = v) (fun again s hI ih => ?_) N _ ⟨(by decide : 0 ≤ (0 : Int32).toInt ∧ (0 : Int32).toInt ≤ 60), LF.rf, fun j hj => absurd hj (by show ¬ (j : Int) < (0 : Int32).toInt; simp only [Int32.reduceToInt]; omega)⟩
  obtain ⟨x3, τ⟩ := s
  obtain ⟨hb, hl, hj⟩ := hI
  have hb : 0 ≤ x3.toInt ∧ x3.toInt ≤ 60 := hb
  have hl : LF k σ τ := hl
  have hj : ∀ j : Nat, (j : Int) < x3.toInt → τ.2.1 k j = v := hj
  rw [F_J7_fill_d0a16_6.eq_1]
  refine pt_if (fun q => pt_some (hP τ hl (fun j h => hj j ?_))) (fun q => ?_)
  · rw [Int32.le_iff_toInt_le, e16] at q; omega
  · rw [Int32.le_iff_toInt_le, e16] at q
    have hw : 0 ≤ x3.toInt ∧ x3.toInt ≤ 100000 := by omega
    have hb1 : 0 ≤ (x3 + 1).toInt ∧ (x3 + 1).toInt ≤ 60 := by rw [a1_ hw]; omega
    refine pt_sJ (ih (x3 + 1, _) ⟨hb1, hl.sJ, fun j h => ?_⟩)
    have h : (j : Int) < (x3 + 1).toInt := h
    rw [a1_ hw] at h
    show (zJ τ k _).2.1 k j = v
    rw [zJ_s, updL_i]
    by_cases e : j = x3.toInt.toNat
    · rw [if_pos e]
    · rw [if_neg e]; exact hj j (by omega)
theorem v_start {k : Nat} (hR : RF σ.2.2) (h9 : (zKd k).1 = 9) : Pt (f_X9_start N k x2 x3 σ) (fun r => (∀ a, a ≠ k + 1 → r.2.2.1 a = σ.2.1 a) ∧ ∀ j, j < 60 → r.2.2.1 (k + 1) j = 0) := by
  rw [f_X9_start.eq_1]
  refine pt_gR (v := k + 1) (slot_R hR h9).1 (pt_zb (Q := fun r => LF (k + 1) σ r.2 ∧ ∀ j, j < 60 → r.2.2.1 (k + 1) j = 0) (v_fill60 (slot_R hR h9).2 (fun τ a b => ⟨a, b⟩)) (fun _ τ h => pt_pI (pt_pI (pt_some ?_))))
  obtain ⟨l, z⟩ := h
  exact ⟨fun a ha => l.2.2 a ha, fun j hj => z j hj⟩
theorem vl_row (hR : RF σ.2.2) : Pt (f_X11_row N 0 x1 x2 x3 σ) (SLO σ (fun s j => if s = x1.toInt.toNat then 0 else σ.2.1 (210 + 2 * s + 1) j)) := by
  rw [f_X11_row.eq_1]
  refine pt_gC (pt_zbq vl_isSlot (fun v hv => pt_if (fun _ => SLO_no (by decide)) (fun q => pt_if (fun _ => SLO_no (by decide)) (fun _ => pt_if (fun _ => SLO_no (by decide)) (fun _ => pt_if (fun _ => pt_if (fun _ => ?_) (fun _ => SLO_no (by decide))) (fun _ => SLO_no (by decide)))))))
  obtain ⟨s, hs, rfl⟩ := isL_n (hv.2 q)
  rw [iN (m := s) (by omega)]
  refine pt_slot hR hs (pt_gC (pt_zb (v_start hR (k9 hs)) (fun _ τ h => pt_some ?_)))
  obtain ⟨h1, h2⟩ := h
  refine ⟨fun a ha => h1 a (by omega), fun z => absurd rfl z, fun _ s' hs' j hj => ?_⟩
  show τ.2.1 (210 + 2 * s' + 1) j = if s' = s then 0 else σ.2.1 (210 + 2 * s' + 1) j
  by_cases e : s' = s
  · rw [if_pos e, e]; exact h2 j hj
  · rw [if_neg e]
    have := h1 (210 + 2 * s' + 1) (by omega)
    rw [← this]
def cutC (w : Int32) (x : Int64) : Int64 := if w = 0 then Int32.toInt64 ((Int32.toInt8 (Int64.toInt32 x)).toInt32) else if w = 1 then Int32.toInt64 ((Int32.toInt16 (Int64.toInt32 x)).toInt32) else if w = 2 then Int32.toInt64 (Int64.toInt32 x) else x
def cutR (w : Int32) (x : Int64) : Int64 := zsr (zsl x (64 - ((8 : Int32) <<< (w &&& 31)))) (64 - ((8 : Int32) <<< (w &&& 31)))
theorem v_cut9 {k : Nat} {x : Int64} : Pt (f_X9_cut N k x σ) (fun r => r.2 = σ ∧ r.1 = cutC (σ.1 k 1) x) := by
  rw [f_X9_cut.eq_1]
  unfold cutC
  exact pt_gI (pt_if (fun q => pt_some ⟨rfl, (if_pos q).symm⟩) (fun q => pt_if (fun q1 => pt_some ⟨rfl, ((if_neg q).trans (if_pos q1)).symm⟩) (fun q1 => pt_if (fun q2 => pt_some ⟨rfl, ((if_neg q).trans ((if_neg q1).trans (if_pos q2))).symm⟩) (fun q2 => pt_some ⟨rfl, ((if_neg q).trans ((if_neg q1).trans (if_neg q2))).symm⟩))))
theorem zsr_bv (x : Int64) {n : Nat} (hn : n < 64) : (zsr x (nI n)).toBitVec = x.toBitVec.sshiftRight n := by
  show (x >>> ((nI n).toInt64 &&& 63)).toBitVec = _
  rw [Int64.toBitVec_shiftRight]
  show x.toBitVec.sshiftRight (((nI n).toInt64 &&& 63).toBitVec.smod 64).toNat = _
  rw [(s64 n hn).1]
theorem cut_bv (b : BitVec 64) (m : Nat) (h0 : 0 < m) (h1 : m ≤ 64) : ((b.setWidth m).signExtend 64) = (b <<< (64 - m)).sshiftRight (64 - m) := by
  apply BitVec.eq_of_getLsbD_eq
  intro i hi
  rw [BitVec.getLsbD_signExtend, BitVec.getLsbD_sshiftRight, decide_eq_true hi, Bool.true_and, decide_eq_false (show ¬ 64 ≤ i by omega), Bool.not_false, Bool.true_and]
  by_cases q : i < m
  · rw [if_pos q, if_pos (by omega), BitVec.getLsbD_setWidth, BitVec.getLsbD_shiftLeft, decide_eq_true q, decide_eq_true (show 64 - m + i < 64 by omega), decide_eq_false (show ¬ 64 - m + i < 64 - m by omega)]
    rw [show 64 - m + i - (64 - m) = i by omega]
    simp
  · rw [if_neg q, if_neg (by omega), BitVec.msb_eq_getLsbD_last, BitVec.msb_eq_getLsbD_last, BitVec.getLsbD_setWidth, BitVec.getLsbD_shiftLeft, decide_eq_true (show m - 1 < m by omega), decide_eq_true (show 64 - 1 < 64 by omega), decide_eq_false (show ¬ 64 - 1 < 64 - m by omega)]
    rw [show 64 - 1 - (64 - m) = m - 1 by omega]
    simp
theorem cut_eq {w : Int32} {x : Int64} (h : 0 ≤ w.toInt ∧ w.toInt ≤ 3) : cutC w x = cutR w x := by
  apply Int64.toBitVec_inj.mp
  unfold cutC cutR
  rcases (show w = 0 ∨ w = 1 ∨ w = 2 ∨ w = 3 by
    rcases (show w.toInt = 0 ∨ w.toInt = 1 ∨ w.toInt = 2 ∨ w.toInt = 3 by omega) with q | q | q | q
    · exact Or.inl (Int32.toInt_inj.mp q)
    · exact Or.inr (Or.inl (Int32.toInt_inj.mp q))
    · exact Or.inr (Or.inr (Or.inl (Int32.toInt_inj.mp q)))
    · exact Or.inr (Or.inr (Or.inr (Int32.toInt_inj.mp q)))) with rfl | rfl | rfl | rfl
  · rw [if_pos rfl, show (64 - ((8 : Int32) <<< ((0 : Int32) &&& 31))) = nI 56 from by decide, zsr_bv _ (by decide), zsl_bv _ (by decide), ← cut_bv x.toBitVec 8 (by decide) (by decide)]
    show ((((x.toBitVec.signExtend 32).signExtend 8).signExtend 32).signExtend 64) = _
    apply BitVec.eq_of_getLsbD_eq
    intro i hi
    simp only [BitVec.getLsbD_signExtend, BitVec.getLsbD_setWidth, BitVec.msb_eq_getLsbD_last]
    by_cases q : i < 8
    · simp [q, hi, show i < 32 by omega]
    · by_cases q2 : i < 32 <;> simp [q, q2, hi]
  · rw [if_neg (by decide), if_pos rfl, show (64 - ((8 : Int32) <<< ((1 : Int32) &&& 31))) = nI 48 from by decide, zsr_bv _ (by decide), zsl_bv _ (by decide), ← cut_bv x.toBitVec 16 (by decide) (by decide)]
    show ((((x.toBitVec.signExtend 32).signExtend 16).signExtend 32).signExtend 64) = _
    apply BitVec.eq_of_getLsbD_eq
    intro i hi
    simp only [BitVec.getLsbD_signExtend, BitVec.getLsbD_setWidth, BitVec.msb_eq_getLsbD_last]
    by_cases q : i < 16
    · simp [q, hi, show i < 32 by omega]
    · by_cases q2 : i < 32 <;> simp [q, q2, hi]
  · rw [if_neg (by decide), if_neg (by decide), if_pos rfl, show (64 - ((8 : Int32) <<< ((2 : Int32) &&& 31))) = nI 32 from by decide, zsr_bv _ (by decide), zsl_bv _ (by decide), ← cut_bv x.toBitVec 32 (by decide) (by decide)]
    show ((x.toBitVec.signExtend 32).signExtend 64) = _
    apply BitVec.eq_of_getLsbD_eq
    intro i hi
    simp only [BitVec.getLsbD_signExtend, BitVec.getLsbD_setWidth, BitVec.msb_eq_getLsbD_last]
    by_cases q : i < 32
    · simp [q, hi, show i < 64 by omega]
    · simp [q, hi]
  · rw [if_neg (by decide), if_neg (by decide), if_neg (by decide), show (64 - ((8 : Int32) <<< ((3 : Int32) &&& 31))) = nI 0 from by decide, zsr_bv _ (by decide), zsl_bv _ (by decide), BitVec.shiftLeft_zero]
    show x.toBitVec = x.toBitVec.sshiftRight 0
    rw [BitVec.sshiftRight_zero]
theorem vl_write {x6 : Int64} (hR : RF σ.2.2) : Pt (f_X11_write N 0 x1 x2 x6 σ) (SLO σ (fun s j => if s = x1.toInt.toNat ∧ j = x2.toInt.toNat then cutC (σ.1 (210 + 2 * s) 1) x6 else σ.2.1 (210 + 2 * s + 1) j)) := by
  rw [f_X11_write.eq_1]
  refine pt_gC (pt_zbq vl_isSlot (fun v hv => pt_if (fun _ => SLO_no (by decide)) (fun q => ?_)))
  obtain ⟨s, hs, rfl⟩ := isL_n (hv.2 q)
  rw [iN (m := s) (by omega)]
  refine pt_slot hR hs (pt_gC (pt_zbq vl_isBare (fun v5 _ => pt_if (fun _ => pt_if (fun _ => SLO_no (by decide)) (fun _ => pt_gI (pt_if (fun _ => ?_) (fun _ => SLO_no (by decide))))) (fun _ => SLO_no (by decide)))))
  refine pt_gR (v := 210 + 2 * s + 1) (slot_R hR (k9 hs)).1 (pt_gC (pt_zb v_cut9 (fun v9 τ h9 => ?_)))
  obtain ⟨e, ev⟩ := h9
  have e : τ = σ := e
  have ev : v9 = cutC (σ.1 (210 + 2 * s) 1) x6 := ev
  subst e
  subst ev
  refine pt_sJ (pt_some (SLO_1 (g := fun j => if j = x2.toInt.toNat then cutC (τ.1 (210 + 2 * s) 1) x6 else τ.2.1 (210 + 2 * s + 1) j) hs LF.rf.sJ (fun j _ => ?_) (fun s' _ j _ => ?_)))
  · rw [zJ_s, updL_i]
  · show (if s' = s ∧ j = x2.toInt.toNat then cutC (τ.1 (210 + 2 * s') 1) x6 else τ.2.1 (210 + 2 * s' + 1) j) = _
    by_cases a : s' = s
    · subst a
      rw [if_pos rfl]
      by_cases b : j = x2.toInt.toNat
      · rw [if_pos ⟨rfl, b⟩, if_pos b]
      · rw [if_neg (fun z => b z.2), if_neg b]
    · rw [if_neg (fun z => a z.1), if_neg a]
theorem pt_cpJ {β : Type} {P : β → Prop} {k0 k1 : Nat} {sp dp n : Int32} {f : zS → Option β} (h : (0 ≤ sp.toInt ∧ 0 ≤ dp.toInt ∧ 0 ≤ n.toInt) → Pt (f (zJ σ k1 (fun j => if dp.toInt.toNat ≤ j ∧ j < dp.toInt.toNat + n.toInt.toNat then σ.2.1 k0 (sp.toInt.toNat + (j - dp.toInt.toNat)) else σ.2.1 k1 j))) P) : Pt (zl (cpJ k0 sp k1 dp n σ) f) P := fun a e => by
  obtain ⟨τ, h1, h2⟩ := zl_some e
  obtain ⟨q, rfl⟩ := zguard h1
  exact h ⟨q.2.2.1, q.2.2.2.1, q.2.2.2.2.1⟩ a h2
theorem vl_paste (hR : RF σ.2.2) : Pt (f_X11_paste N 0 x1 x2 x3 x4 x5 σ) (SLO σ (fun s j => if s = x3.toInt.toNat ∧ x4.toInt.toNat ≤ j ∧ j < x4.toInt.toNat + x5.toInt.toNat then σ.2.1 (210 + 2 * x1.toInt.toNat + 1) (x2.toInt.toNat + (j - x4.toInt.toNat)) else σ.2.1 (210 + 2 * s + 1) j)) := by
  have sp : ∀ {k : Nat} {a b : Int32}, Px (f_X9_spans N k a b σ) σ (fun _ => True) := fun {k a b} => by
    rw [f_X9_spans.eq_1]
    exact pt_if (fun _ => pt_rZ ⟨rfl, trivial⟩) (fun _ => pt_if (fun _ => pt_rZ ⟨rfl, trivial⟩) (fun _ => pt_gI (pt_if (fun _ => pt_rZ ⟨rfl, trivial⟩) (fun _ => pt_rZ ⟨rfl, trivial⟩))))
  rw [f_X11_paste.eq_1]
  refine pt_gC (pt_zbq vl_isSlot (fun v hv => pt_if (fun _ => SLO_no (by decide)) (fun q => ?_)))
  refine pt_gC (pt_zbq vl_isSlot (fun v3 hv3 => pt_if (fun _ => SLO_no (by decide)) (fun q3 => ?_)))
  obtain ⟨s, hs, rfl⟩ := isL_n (hv.2 q)
  obtain ⟨t, ht, rfl⟩ := isL_n (hv3.2 q3)
  rw [iN (m := s) (by omega), iN (m := t) (by omega)]
  refine pt_slot hR hs (pt_slot hR ht ?_)
  refine pt_gC (pt_zbq vl_isBare (fun _ _ => pt_if (fun _ => ?_) (fun _ => SLO_no (by decide))))
  refine pt_gC (pt_zbq vl_isBare (fun _ _ => pt_if (fun _ => ?_) (fun _ => SLO_no (by decide))))
  refine pt_gI (pt_gI (pt_if (fun _ => ?_) (fun _ => SLO_no (by decide))))
  refine pt_gC (pt_zbq sp (fun _ _ => pt_if (fun _ => SLO_no (by decide)) (fun _ => ?_)))
  refine pt_gC (pt_zbq sp (fun _ _ => pt_if (fun _ => SLO_no (by decide)) (fun _ => ?_)))
  refine pt_gR (v := 210 + 2 * s + 1) (slot_R hR (k9 hs)).1 (pt_gR (v := 210 + 2 * t + 1) (slot_R hR (k9 ht)).1 (pt_cpJ (fun _ => pt_some ?_)))
  refine SLO_1 (g := fun j => if x4.toInt.toNat ≤ j ∧ j < x4.toInt.toNat + x5.toInt.toNat then σ.2.1 (210 + 2 * s + 1) (x2.toInt.toNat + (j - x4.toInt.toNat)) else σ.2.1 (210 + 2 * t + 1) j) ht LF.rf.sJ (fun j _ => ?_) (fun s' _ j _ => ?_)
  · rw [zJ_s]
  · show (if s' = t ∧ x4.toInt.toNat ≤ j ∧ j < x4.toInt.toNat + x5.toInt.toNat then σ.2.1 (210 + 2 * s + 1) (x2.toInt.toNat + (j - x4.toInt.toNat)) else σ.2.1 (210 + 2 * s' + 1) j) = _
    by_cases a : s' = t
    · subst a
      rw [if_pos rfl]
      by_cases b : x4.toInt.toNat ≤ j ∧ j < x4.toInt.toNat + x5.toInt.toNat
      · rw [if_pos ⟨rfl, b⟩, if_pos b]
      · rw [if_neg (fun z => b z.2), if_neg b]
    · rw [if_neg (fun z => a z.1), if_neg a]
/-- what a call of the reference leaves of the slots -/
def SRO (σ : zS) (F : Nat → Nat → Int64) (r : Int32 × zS) : Prop := (∀ a, a < 218 → r.2.2.1 a = σ.2.1 a) ∧ (¬ r.1 = 0 → r.2.2.1 = σ.2.1) ∧ (r.1 = 0 → ∀ s, s < 4 → ∀ j, j < 60 → r.2.2.1 241 (60 * s + j) = F s j)
theorem SRO_no {v : Int32} (h : ¬ v = 0) : Pt (some (v, σ)) (SRO σ F) := pt_some ⟨fun _ _ => rfl, fun _ => rfl, fun z => absurd z h⟩
theorem n60 {s : Nat} : (60 : Int32) * nI s = nI (60 * s) := nI_mul 60 s
theorem vr_row_ (hR : RF σ.2.2) : Pt (f_X12_row N 218 x1 x2 x3 σ) (SRO σ (fun s j => if s = x1.toInt.toNat then 0 else σ.2.1 241 (60 * s + j))) := by
  rw [f_X12_row.eq_1]
  refine pt_zbq vr_isSlot (fun v hv => pt_if (fun _ => SRO_no (by decide)) (fun q => pt_zbq vr_in (fun v3 _ => pt_if (fun _ => SRO_no (by decide)) (fun _ => pt_if (fun _ => pt_if (fun _ => ?_) (fun _ => SRO_no (by decide))) (fun _ => SRO_no (by decide))))))
  obtain ⟨s, hs, rfl⟩ := isL_n (hv.2 q)
  rw [iN (m := s) (by omega)]
  refine pt_gR (v := 239) (hR 218 35 rfl) (pt_s14 (pt_gR (v := 240) (hR 218 36 rfl) (pt_s14 ?_)))
  refine pt_lp (fun t : Int32 × zS => ∃ l, (t.1 = nI l ∧ l ≤ 60) ∧ t.2.2.2 = σ.2.2 ∧ (∀ a, a ≠ 241 → t.2.2.1 a = σ.2.1 a) ∧ ∀ s', s' < 4 → ∀ j, j < 60 → t.2.2.1 241 (60 * s' + j) = if s' = s ∧ j < l then 0 else σ.2.1 241 (60 * s' + j)) (fun again t hI ih => ?_) N _ ⟨0, ⟨rfl, by omega⟩, rfl, fun _ _ => rfl, fun s' _ j _ => by rw [if_neg (fun z => absurd z.2 (Nat.not_lt_zero _))]⟩
  obtain ⟨x6, τ⟩ := t
  obtain ⟨l, ⟨ex, hl⟩, hr, ho, hj⟩ := hI
  have ex : x6 = nI l := ex
  subst ex
  have hr : τ.2.2 = σ.2.2 := hr
  have ho : ∀ a, a ≠ 241 → τ.2.1 a = σ.2.1 a := ho
  have hj : ∀ s', s' < 4 → ∀ j, j < 60 → τ.2.1 241 (60 * s' + j) = if s' = s ∧ j < l then 0 else σ.2.1 241 (60 * s' + j) := hj
  have el : (nI l).toInt = (l : Int) := nI_toInt (by omega)
  rw [F_X12_row_52.eq_1]
  refine pt_if (fun h => pt_some ⟨fun a ha => ho a (by omega), fun z => absurd rfl z, fun _ s' hs' j hj' => ?_⟩) (fun h => ?_)
  · rw [Int32.le_iff_toInt_le, el] at h
    simp only [Int32.reduceToInt] at h
    show τ.2.1 241 (60 * s' + j) = if s' = s then 0 else σ.2.1 241 (60 * s' + j)
    rw [hj s' hs' j hj']
    by_cases e : s' = s
    · rw [if_pos ⟨e, by omega⟩, if_pos e]
    · rw [if_neg (fun z => e z.1), if_neg e]
  · rw [Int32.le_iff_toInt_le, el] at h
    simp only [Int32.reduceToInt] at h
    refine pt_gR (v := 241) (by rw [hr]; exact hR 218 37 rfl) (pt_sJ ?_)
    rw [n60, nI_plus, iN (by omega), nI_m1]
    refine ih (nI (l + 1), _) ⟨l + 1, ⟨rfl, by omega⟩, hr, fun a ha => (zJ_n ha).trans (ho a ha), fun s' hs' j hj' => ?_⟩
    show (zJ τ 241 _).2.1 241 (60 * s' + j) = if s' = s ∧ j < l + 1 then 0 else σ.2.1 241 (60 * s' + j)
    rw [zJ_s, updL_i, hj s' hs' j hj']
    by_cases e : s' = s
    · subst e
      by_cases f : j = l
      · rw [if_pos (by omega), if_pos ⟨rfl, by omega⟩]
      · rw [if_neg (by omega)]
        by_cases g : j < l
        · rw [if_pos ⟨rfl, g⟩, if_pos ⟨rfl, by omega⟩]
        · rw [if_neg (fun z => g z.2), if_neg (fun z => by have := z.2; omega)]
    · rw [if_neg (by omega), if_neg (fun z => e z.1), if_neg (fun z => e z.1)]
theorem m1_ {x : Int32} (h : 0 ≤ x.toInt ∧ x.toInt ≤ 100000) : (x - 1).toInt = x.toInt - 1 := by
  rw [ti_sub]
  obtain ⟨w, hw⟩ : ∃ w, w = x.toInt := ⟨_, rfl⟩
  rw [← hw] at h ⊢
  simp only [Int32.reduceToInt]
  omega
theorem vr_write_ {x6 : Int64} (hR : RF σ.2.2) (hM : MS (σ.1 239)) : Pt (f_X12_write N 218 x1 x2 x6 σ) (SRO σ (fun s j => if s = x1.toInt.toNat ∧ j = x2.toInt.toNat then cutR (σ.1 240 s) x6 else σ.2.1 241 (60 * s + j))) := by
  rw [f_X12_write.eq_1]
  refine pt_zbq vr_isSlot (fun v hv => pt_if (fun _ => SRO_no (by decide)) (fun q => ?_))
  obtain ⟨s, hs, rfl⟩ := isL_n (hv.2 q)
  have hm := hM s
  rw [iN (m := s) (by omega)]
  refine pt_gR (v := 239) (hR 218 35 rfl) (pt_aI ?_)
  rw [iN (m := s) (by omega)]
  refine pt_if (fun _ => SRO_no (by decide)) (fun h1 => ?_)
  refine pt_gR (v := 239) (hR 218 35 rfl) (pt_aI ?_)
  rw [iN (m := s) (by omega)]
  have h1 : (σ.1 239 s).toInt ≠ -1 := fun z => h1 (Int32.toInt_inj.mp (z.trans rfl))
  refine pt_zbq vr_in (fun v7 hv7 => pt_if (fun _ => SRO_no (by decide)) (fun h7 => ?_))
  have h7 := hv7.2 h7
  rw [i64_of, i64_of, m1_ ⟨by omega, by omega⟩] at h7
  simp only [Int64.reduceToInt] at h7
  obtain ⟨i, hi, rfl⟩ := znI (x := x2) (m := 60) h7.1 (by omega)
  rw [iN (m := i) (by omega)]
  refine pt_gR (v := 241) (hR 218 37 rfl) (pt_gR (v := 240) (hR 218 36 rfl) (pt_aI ?_))
  rw [iN (m := s) (by omega), f_X12_cut.eq_1]
  refine pt_zb (Q := fun r => r.2 = σ ∧ r.1 = cutR (σ.1 240 s) x6) (pt_some ⟨rfl, rfl⟩) (fun v9 τ h9 => ?_)
  obtain ⟨e, ev⟩ := h9
  have e : τ = σ := e
  have ev : v9 = cutR (σ.1 240 s) x6 := ev
  subst e
  subst ev
  refine pt_sJ (pt_some ⟨fun a ha => zJ_n (by omega), fun z => absurd rfl z, fun _ s' hs' j hj => ?_⟩)
  rw [n60, nI_plus, iN (by omega)]
  show (zJ τ 241 _).2.1 241 (60 * s' + j) = if s' = s ∧ j = i then cutR (τ.1 240 s') x6 else τ.2.1 241 (60 * s' + j)
  rw [zJ_s, updL_i]
  by_cases e : s' = s ∧ j = i
  · rw [if_pos e, if_pos (by omega), e.1]
  · rw [if_neg e, if_neg (by omega)]
theorem lgle {x y : Int64} (h : lg_cmp x y ≤ 0) : ¬ 0 < lg_cmp x y := fun z => by
  rw [Int32.le_iff_toInt_le] at h
  rw [Int32.lt_iff_toInt_lt] at z
  omega
theorem vr_paste_ (hR : RF σ.2.2) (hM : MS (σ.1 239)) : Pt (f_X12_paste N 218 x1 x2 x3 x4 x5 σ) (SRO σ (fun s j => if s = x3.toInt.toNat ∧ x4.toInt.toNat ≤ j ∧ j < x4.toInt.toNat + x5.toInt.toNat then σ.2.1 241 (60 * x1.toInt.toNat + (x2.toInt.toNat + (j - x4.toInt.toNat))) else σ.2.1 241 (60 * s + j))) := by
  have l0 : ∀ {x : Int32}, ¬ x < 0 → 0 ≤ x.toInt := fun {x} h => by
    rw [Int32.lt_iff_toInt_lt] at h
    simp only [Int32.reduceToInt] at h
    omega
  rw [f_X12_paste.eq_1]
  refine pt_zbq vr_isSlot (fun v hv => pt_if (fun _ => SRO_no (by decide)) (fun q => ?_))
  refine pt_zbq vr_isSlot (fun v3 hv3 => pt_if (fun _ => SRO_no (by decide)) (fun q3 => ?_))
  obtain ⟨s, hs, rfl⟩ := isL_n (hv.2 q)
  obtain ⟨t, ht, rfl⟩ := isL_n (hv3.2 q3)
  have hms := hM s
  have hmt := hM t
  rw [iN (m := s) (by omega), iN (m := t) (by omega)]
  refine pt_gR (v := 239) (hR 218 35 rfl) (pt_aI (pt_if (fun _ => SRO_no (by decide)) (fun _ => ?_)))
  refine pt_gR (v := 239) (hR 218 35 rfl) (pt_aI (pt_if (fun _ => SRO_no (by decide)) (fun _ => ?_)))
  refine pt_gR (v := 240) (hR 218 36 rfl) (pt_aI (pt_gR (v := 240) (hR 218 36 rfl) (pt_aI (pt_if (fun _ => ?_) (fun _ => SRO_no (by decide))))))
  refine pt_if (fun _ => SRO_no (by decide)) (fun h2 => pt_if (fun _ => SRO_no (by decide)) (fun h4 => pt_if (fun _ => SRO_no (by decide)) (fun h5 => ?_)))
  refine pt_gR (v := 239) (hR 218 35 rfl) (pt_aI ?_)
  rw [iN (m := s) (by omega)]
  refine pt_if (fun _ => SRO_no (by decide)) (fun h6 => ?_)
  refine pt_gR (v := 239) (hR 218 35 rfl) (pt_aI ?_)
  rw [iN (m := t) (by omega)]
  refine pt_if (fun h7 => ?_) (fun _ => SRO_no (by decide))
  have b1 := spans_ok (l0 h2) (l0 h5) h6
  have b2 := spans_ok (l0 h4) (l0 h5) (lgle h7)
  have z2 := l0 h2
  have z4 := l0 h4
  have z5 := l0 h5
  obtain ⟨i, hi, rfl⟩ := znI (x := x2) (m := 61) z2 (by omega)
  obtain ⟨k, hk, rfl⟩ := znI (x := x4) (m := 61) z4 (by omega)
  obtain ⟨n, hn, rfl⟩ := znI (x := x5) (m := 61) z5 (by omega)
  rw [iN (m := i) (by omega), iN (m := k) (by omega), iN (m := n) (by omega)]
  have ei : (nI i).toInt = (i : Int) := nI_toInt (by omega)
  have ek : (nI k).toInt = (k : Int) := nI_toInt (by omega)
  have en : (nI n).toInt = (n : Int) := nI_toInt (by omega)
  rw [ei, en] at b1
  rw [ek, en] at b2
  clear h2 h4 h5 h6 h7 z2 z4 z5
  have g1 : i + n ≤ 60 := by omega
  have g2 : k + n ≤ 60 := by omega
  clear b1 b2 hms hmt
  refine pt_lp (fun y : Int32 × zS => ∃ l, (y.1 = nI l ∧ l ≤ n) ∧ y.2.2.2 = σ.2.2 ∧ (∀ a, a ≠ 242 → y.2.2.1 a = σ.2.1 a) ∧ ∀ j, j < l → y.2.2.1 242 j = σ.2.1 241 (60 * s + (i + j))) (fun again y hI ih => ?_) N _ ⟨0, ⟨rfl, by omega⟩, rfl, fun _ _ => rfl, fun j hj => absurd hj (Nat.not_lt_zero _)⟩
  obtain ⟨x6, τ⟩ := y
  obtain ⟨l, ⟨ex, hl⟩, hr, ho, hj⟩ := hI
  have ex : x6 = nI l := ex
  subst ex
  have hr : τ.2.2 = σ.2.2 := hr
  have ho : ∀ a, a ≠ 242 → τ.2.1 a = σ.2.1 a := ho
  have hj : ∀ j, j < l → τ.2.1 242 j = σ.2.1 241 (60 * s + (i + j)) := hj
  rw [F_X12_paste_113.eq_1]
  refine pt_if (fun h => ?_) (fun h => ?_)
  · rw [mle (by omega) (by omega)] at h
    have eln : l = n := by omega
    subst eln
    refine pt_lp (fun y : Int32 × zS => ∃ m, (y.1 = nI m ∧ m ≤ l) ∧ y.2.2.2 = σ.2.2 ∧ (∀ a, a ≠ 242 → a ≠ 241 → y.2.2.1 a = σ.2.1 a) ∧ y.2.2.1 242 = τ.2.1 242 ∧ ∀ s', s' < 4 → ∀ j, j < 60 → y.2.2.1 241 (60 * s' + j) = if s' = t ∧ k ≤ j ∧ j < k + m then σ.2.1 241 (60 * s + (i + (j - k))) else σ.2.1 241 (60 * s' + j)) (fun again y hI ih => ?_) N _ ⟨0, ⟨rfl, by omega⟩, hr, fun a h1 _ => ho a h1, rfl, fun s' _ j _ => by rw [if_neg (by omega)]; exact congrFun (ho 241 (by decide)) _⟩
    obtain ⟨x6, υ⟩ := y
    obtain ⟨m, ⟨ex, hm⟩, hr2, ho2, h242, hj2⟩ := hI
    have ex : x6 = nI m := ex
    subst ex
    have hr2 : υ.2.2 = σ.2.2 := hr2
    have ho2 : ∀ a, a ≠ 242 → a ≠ 241 → υ.2.1 a = σ.2.1 a := ho2
    have h242 : υ.2.1 242 = τ.2.1 242 := h242
    have hj2 : ∀ s', s' < 4 → ∀ j, j < 60 → υ.2.1 241 (60 * s' + j) = if s' = t ∧ k ≤ j ∧ j < k + m then σ.2.1 241 (60 * s + (i + (j - k))) else σ.2.1 241 (60 * s' + j) := hj2
    rw [F_X12_paste_150.eq_1]
    refine pt_if (fun h => ?_) (fun h => ?_)
    · rw [mle (by omega) (by omega)] at h
      have elm : m = l := by omega
      subst elm
      exact pt_some ⟨fun a ha => ho2 a (by omega) (by omega), fun z => absurd rfl z, fun _ s' hs' j hj' => hj2 s' hs' j hj'⟩
    · rw [mle (by omega) (by omega)] at h
      refine pt_gR (v := 241) (by rw [hr2]; exact hR 218 37 rfl) (pt_gR (v := 242) (by rw [hr2]; exact hR 218 38 rfl) (pt_aJ (pt_sJ ?_)))
      rw [n60, nI_plus, nI_plus, iN (m := 60 * t + k + m) (by omega), iN (m := m) (by omega), nI_m1, h242, hj m (by omega)]
      refine ih (nI (m + 1), _) ⟨m + 1, ⟨rfl, by omega⟩, hr2, fun a h1 h2 => (zJ_n h2).trans (ho2 a h1 h2), (zJ_n (by decide)).trans h242, fun s' hs' j hj' => ?_⟩
      show (zJ υ 241 _).2.1 241 (60 * s' + j) = if s' = t ∧ k ≤ j ∧ j < k + (m + 1) then σ.2.1 241 (60 * s + (i + (j - k))) else σ.2.1 241 (60 * s' + j)
      rw [zJ_s, updL_i, hj2 s' hs' j hj']
      by_cases e : s' = t
      · subst e
        by_cases f : j = k + m
        · subst f
          rw [if_pos (by omega), if_pos ⟨rfl, by omega, by omega⟩, show k + m - k = m by omega]
        · rw [if_neg (by omega)]
          by_cases g : k ≤ j ∧ j < k + m
          · rw [if_pos ⟨rfl, g⟩, if_pos ⟨rfl, by omega, by omega⟩]
          · rw [if_neg (fun z => g z.2), if_neg (fun z => by have := z.2; omega)]
      · rw [if_neg (by omega), if_neg (fun z => e z.1), if_neg (fun z => e z.1)]
  · rw [mle (by omega) (by omega)] at h
    refine pt_gR (v := 242) (by rw [hr]; exact hR 218 38 rfl) (pt_gR (v := 241) (by rw [hr]; exact hR 218 37 rfl) (pt_aJ (pt_sJ ?_)))
    rw [n60, nI_plus, nI_plus, iN (m := 60 * s + i + l) (by omega), iN (m := l) (by omega), nI_m1, ho 241 (by decide)]
    refine ih (nI (l + 1), _) ⟨l + 1, ⟨rfl, by omega⟩, hr, fun a h1 => (zJ_n h1).trans (ho a h1), fun j hj' => ?_⟩
    show (zJ τ 242 _).2.1 242 j = _
    rw [zJ_s, updL_i]
    by_cases f : j = l
    · rw [if_pos f, f, Nat.add_assoc]
    · rw [if_neg f]; exact hj j (by omega)
end SLOTS
end Zq15_1
section Zq15_2
/-! ===== takes: a slot's row as a family ===== -/
section TAKES
variable {N B : Nat} {σ τ : zS} {x1 x2 : Int32}
/-- all numbers of a row are sets -/
def tkN (g : Nat → Int64) (L M : Nat) : Prop := ∀ j, j < L → 0 ≤ (g j).toInt ∧ (g j).toInt < (M : Int)
/-- the sets of a row -/
def tkS (g : Nat → Int64) (L u : Nat) : Prop := ∃ j, j < L ∧ (g j).toInt = (u : Int)
/-- what a taking answers and leaves -/
def tkQ (a : Prop) (len : Int32) (g : Nat → Int64) (M : Nat) (v : Int32) (same new : Prop) : Prop := (¬ a → v = -2 ∧ same) ∧ (a → (len.toInt < 0 → v = -6 ∧ same) ∧ (0 ≤ len.toInt → (¬ tkN g len.toInt.toNat M → v = -2 ∧ same) ∧ (tkN g len.toInt.toNat M → new)))
theorem ti64_32 {x : Int64} (h : 0 ≤ x.toInt ∧ x.toInt < 1024) : Int64.toInt32 x = nI x.toInt.toNat := by
  apply Int32.toInt_inj.mp
  rw [nI_toInt (by omega), Int64.toInt_toInt32]
  have e2 : ((2 ^ 32 : Nat) : Int) = 4294967296 := rfl
  rw [Int.bmod_def, e2]
  split <;> omega
theorem zsl1 : ∀ n, n < 11 → (zsl 1 (nI n)).toInt = ((2 ^ n : Nat) : Int) := by decide +kernel
theorem vl_takes_ (hB : isWc B) (hR : RF σ.2.2) (h4 : σ.2.2 0 4 = B) (hn : 0 ≤ (σ.1 B 0).toInt ∧ (σ.1 B 0).toInt ≤ 10) (hS : SI σ.1) : Pt (f_X11_takes N 0 x1 x2 σ) (fun r => tkQ (isR (σ.1 B 0) x1 ∧ isL x2) (σ.1 (210 + 2 * x2.toInt.toNat) 2) (σ.2.1 (210 + 2 * x2.toInt.toNat + 1)) (mn (σ.1 B 0)) r.1 (LW σ r.2) (CM σ r.2 r.1 B x1.toInt.toNat (tkS (σ.2.1 (210 + 2 * x2.toInt.toNat + 1)) (σ.1 (210 + 2 * x2.toInt.toNat) 2).toInt.toNat))) := by
  rw [f_X11_takes.eq_1]
  refine pt_gC (pt_zbq (vl_isRegister h4) (fun v hv => pt_if (fun q => pt_some ⟨fun _ => ⟨rfl, fun _ _ => rfl⟩, fun z => absurd z.1 (hv.1 q)⟩) (fun q1 => ?_)))
  refine pt_gC (pt_zbq vl_isSlot (fun v3 hv3 => pt_if (fun q => pt_some ⟨fun _ => ⟨rfl, fun _ _ => rfl⟩, fun z => absurd z.2 (hv3.1 q)⟩) (fun q3 => ?_)))
  have r1 := hv.2 q1
  have r3 := hv3.2 q3
  have ha : isR (σ.1 B 0) x1 ∧ isL x2 := ⟨r1, r3⟩
  obtain ⟨p, hp, rfl⟩ := isR_n r1
  obtain ⟨s, hs, rfl⟩ := isL_n r3
  obtain ⟨n, en, n0, n10⟩ := world_n r1.1 hn.2
  have pn := p2le n10
  rw [iN (m := p) (by omega), iN (m := s) (by omega)]
  have hb := hS (210 + 2 * s) (k9 hs)
  have kr := slot_R hR (k9 hs)
  have no : ∀ (τ : zS), ¬ tkN (σ.2.1 (210 + 2 * s + 1)) (σ.1 (210 + 2 * s) 2).toInt.toNat (mn (σ.1 B 0)) → 0 ≤ (σ.1 (210 + 2 * s) 2).toInt → LF 129 σ τ → Pt (some ((-2 : Int32), τ)) (fun r => tkQ (isR (σ.1 B 0) (nI p) ∧ isL (nI s)) (σ.1 (210 + 2 * s) 2) (σ.2.1 (210 + 2 * s + 1)) (mn (σ.1 B 0)) r.1 (LW σ r.2) (CM σ r.2 r.1 B p (tkS (σ.2.1 (210 + 2 * s + 1)) (σ.1 (210 + 2 * s) 2).toInt.toNat))) := fun τ h h0 lf => pt_some ⟨fun z => absurd ha z, fun _ => ⟨fun z => absurd h0 (by omega), fun _ => ⟨fun _ => ⟨rfl, fun a w => lf.2.2 a (lw_no w).2.1⟩, fun z => absurd z h⟩⟩⟩
  refine pt_slot hR hs (pt_gC (pt_zbq vl_isBare (fun v7 hv7 => pt_if (fun z7 => ?_) (fun z7 => pt_some ⟨fun z => absurd ha z, fun _ => ⟨fun _ => ⟨rfl, fun _ _ => rfl⟩, fun z => absurd (hv7.2 z7) (by omega)⟩⟩))))
  have l0 := hv7.1 z7
  refine pt_gR (v := 128) (hR 0 17 rfl) (pt_gC (pt_zb (v_clear hR k128.1) (fun _ σ1 h => ?_)))
  obtain ⟨l1, e1⟩ := h
  have l1 : LF 129 σ σ1 := l1
  have e1 : ∀ u, u < 1024 → bt (σ1.2.1 129) u = false := e1
  obtain ⟨L, hL⟩ : ∃ L, L = (σ.1 (210 + 2 * s) 2).toInt.toNat := ⟨_, rfl⟩
  rw [← hL] at no ⊢
  have elen : σ.1 (210 + 2 * s) 2 = nI L := Int32.toInt_inj.mp (by rw [nI_toInt (by omega)]; omega)
  refine pt_lp (fun x : Int32 × zS => ∃ m, (x.1 = nI m ∧ m ≤ L) ∧ LF 129 σ x.2 ∧ (∀ j, j < m → 0 ≤ (σ.2.1 (210 + 2 * s + 1) j).toInt ∧ (σ.2.1 (210 + 2 * s + 1) j).toInt < ((2 ^ n : Nat) : Int)) ∧ ∀ u, u < 1024 → (bt (x.2.2.1 129) u = true ↔ tkS (σ.2.1 (210 + 2 * s + 1)) m u)) (fun again x hI ih => ?_) N _ ⟨0, ⟨rfl, Nat.zero_le _⟩, l1, fun j hj => absurd hj (Nat.not_lt_zero _), fun u hu => by rw [e1 u hu]; exact ⟨fun z => (by cases z), fun ⟨j, hj, _⟩ => absurd hj (Nat.not_lt_zero _)⟩⟩
  obtain ⟨x5, τ⟩ := x
  obtain ⟨m, ⟨e, hm5⟩, lf, hd, hu⟩ := hI
  have e : x5 = nI m := e
  subst e
  have lf : LF 129 σ τ := lf
  have hu : ∀ u, u < 1024 → (bt (τ.2.1 129) u = true ↔ tkS (σ.2.1 (210 + 2 * s + 1)) m u) := hu
  have R9 := lf.R hR
  have h49 : τ.2.2 0 4 = B := by rw [lf.2.1]; exact h4
  have n9 : τ.1 B 0 = nI n := by rw [lf.1]; exact en
  rw [F_X11_takes_46.eq_1]
  refine pt_gI ?_
  rw [show τ.1 (210 + 2 * s) 2 = nI L by rw [lf.1]; exact elen]
  refine pt_if (fun q => ?_) (fun q => ?_)
  · rw [nlt (by omega) (by omega)] at q
    have em : m = L := by omega
    subst em
    refine pt_gC (pt_zb (vl_store hB R9 h49 hp (by rw [n9, nI_toInt (by omega)]; omega)) (fun v σ4 h => pt_some ⟨fun z => absurd ha z, fun _ => ⟨fun z => absurd l0 (by omega), fun _ => ⟨fun z => absurd (fun j hj => ?_) z, fun _ => ?_⟩⟩⟩))
    · rw [hL] at hd
      rw [en, mnn n0 n10]; exact hd j hj
    · exact CM_st hB hp (fun a ha => lf.2.2 a (lw_no ha).2.1) hu h
  · rw [nlt (by omega) (by omega)] at q
    have ek : τ.2.1 (210 + 2 * s + 1) = σ.2.1 (210 + 2 * s + 1) := lf.2.2 _ (by omega)
    refine pt_gR (v := 210 + 2 * s + 1) (by rw [lf.2.1]; exact kr.1) (pt_aJ ?_)
    rw [ek, iN (m := m) (by omega)]
    have bad : ¬ (0 ≤ (σ.2.1 (210 + 2 * s + 1) m).toInt ∧ (σ.2.1 (210 + 2 * s + 1) m).toInt < ((2 ^ n : Nat) : Int)) → ¬ tkN (σ.2.1 (210 + 2 * s + 1)) L (mn (σ.1 B 0)) := fun z w => z (by
      have := w m (by omega)
      rw [en, mnn n0 n10] at this
      exact this)
    refine pt_if (fun z => no τ (bad (fun w => ?_)) l0 lf) (fun z => ?_)
    · rw [zcmp_lt] at z
      simp only [Int64.reduceToInt] at z
      omega
    · rw [zcmp_lt] at z
      simp only [Int64.reduceToInt] at z
      refine pt_gR (v := B) h49 (pt_gI ?_)
      rw [n9]
      refine pt_if (fun y => ?_) (fun y => no τ (bad (fun w => ?_)) l0 lf)
      · rw [zcmp_lt, zsl1 n (by omega)] at y
        obtain ⟨g, hg⟩ : ∃ g, g = (σ.2.1 (210 + 2 * s + 1) m).toInt.toNat := ⟨_, rfl⟩
        have gi : (σ.2.1 (210 + 2 * s + 1) m).toInt = (g : Int) := by omega
        have g1 : g < 1024 := by omega
        rw [ti64_32 ⟨by omega, by omega⟩, ← hg]
        refine pt_gR (v := 128) (R9 0 17 rfl) (pt_gC (pt_zb (v_include R9 k128.1 g1) (fun _ σ2 h => ?_)))
        obtain ⟨l2, e2⟩ := h
        have l2 : LF 129 τ σ2 := l2
        rw [nI_s1 (by omega)]
        refine ih (nI (m + 1), σ2) ⟨m + 1, ⟨rfl, by omega⟩, lf.tr l2, fun j hj => ?_, fun u hu' => ?_⟩
        · by_cases e : j = m
          · subst e; omega
          · exact hd j (by omega)
        · have e2 : bt (σ2.2.1 129) u = (bt (τ.2.1 129) u || decide (u = g)) := e2 u hu'
          show bt (σ2.2.1 129) u = true ↔ _
          rw [e2, Bool.or_eq_true, hu u hu', decide_eq_true_iff]
          constructor
          · rintro (⟨j, hj, y⟩ | y)
            · exact ⟨j, by omega, y⟩
            · exact ⟨m, by omega, by omega⟩
          · rintro ⟨j, hj, y⟩
            by_cases e : j = m
            · subst e; exact Or.inr (by omega)
            · exact Or.inl ⟨j, by omega, y⟩
      · rw [zcmp_lt, zsl1 n (by omega)] at y
        omega
theorem vr_takes_ (hR : RF σ.2.2) (hM : MS (σ.1 239)) (hn : 0 ≤ (σ.1 219 0).toInt ∧ (σ.1 219 0).toInt ≤ 10) : Pt (f_X12_takes_ N 218 x1 x2 σ) (fun r => tkQ (isR (σ.1 219 0) x1 ∧ isL x2) (σ.1 239 x2.toInt.toNat) (fun j => σ.2.1 241 (60 * x2.toInt.toNat + j)) (mn (σ.1 219 0)) r.1 (r.2.1 220 = σ.1 220) (RM σ r.2 r.1 x1.toInt.toNat (tkS (fun j => σ.2.1 241 (60 * x2.toInt.toNat + j)) (σ.1 239 x2.toInt.toNat).toInt.toNat))) := by
  rw [f_X12_takes_.eq_1]
  refine pt_gC (pt_zbq (vr_isRegister hR) (fun v hv => pt_if (fun q => pt_some ⟨fun _ => ⟨rfl, rfl⟩, fun z => absurd z.1 (hv.1 q)⟩) (fun q1 => ?_)))
  refine pt_zbq vr_isSlot (fun v3 hv3 => pt_if (fun q => pt_some ⟨fun _ => ⟨rfl, rfl⟩, fun z => absurd z.2 (hv3.1 q)⟩) (fun q3 => ?_))
  have r1 := hv.2 q1
  have r3 := hv3.2 q3
  have ha : isR (σ.1 219 0) x1 ∧ isL x2 := ⟨r1, r3⟩
  obtain ⟨p, hp, rfl⟩ := isR_n r1
  obtain ⟨s, hs, rfl⟩ := isL_n r3
  obtain ⟨n, en, n0, n10⟩ := world_n r1.1 hn.2
  have pn := p2le n10
  have hb := hM s
  rw [iN (m := p) (by omega), iN (m := s) (by omega)]
  refine pt_gR (v := 239) (hR 218 35 rfl) (pt_aI ?_)
  rw [iN (m := s) (by omega)]
  refine pt_if (fun q => pt_some ⟨fun z => absurd ha z, fun _ => ⟨fun _ => ⟨rfl, rfl⟩, fun z => absurd z (by rw [q]; decide)⟩⟩) (fun q => ?_)
  have q : (σ.1 239 s).toInt ≠ -1 := fun z => q (Int32.toInt_inj.mp (z.trans rfl))
  have l0 : 0 ≤ (σ.1 239 s).toInt := by omega
  obtain ⟨L, hL⟩ : ∃ L, L = (σ.1 239 s).toInt.toNat := ⟨_, rfl⟩
  rw [← hL]
  have elen : σ.1 239 s = nI L := Int32.toInt_inj.mp (by rw [nI_toInt (by omega)]; omega)
  have L60 : L ≤ 60 := by omega
  refine pt_lp (fun x : Int32 × zS => ∃ m, (x.1 = nI m ∧ m ≤ L) ∧ x.2 = σ ∧ ∀ j, j < m → 0 ≤ (σ.2.1 241 (60 * s + j)).toInt ∧ (σ.2.1 241 (60 * s + j)).toInt < ((2 ^ n : Nat) : Int)) (fun again x hI ih => ?_) N _ ⟨0, ⟨rfl, Nat.zero_le _⟩, rfl, fun j hj => absurd hj (Nat.not_lt_zero _)⟩
  obtain ⟨x5, τ⟩ := x
  obtain ⟨m, ⟨e, hm5⟩, e2, hd⟩ := hI
  have e : x5 = nI m := e
  subst e
  have e2 : τ = σ := e2
  subst e2
  rw [F_X12_takes__33.eq_1]
  refine pt_gR (v := 239) (hR 218 35 rfl) (pt_aI ?_)
  rw [iN (m := s) (by omega)]
  refine pt_if (fun q => ?_) (fun q => ?_)
  · rw [elen, nlt (by omega) (by omega)] at q
    have em : m = L := by omega
    subst em
    have good : tkN (fun j => τ.2.1 241 (60 * s + j)) m (mn (τ.1 219 0)) := fun j hj => by
      rw [en, mnn n0 n10]; exact hd j hj
    refine pt_lp (fun x : Int32 × zS => ∃ l, (x.1 = nI l ∧ l ≤ 1024) ∧ FG [227] τ x.2 ∧ ∀ u, u < l → x.2.1 227 u = 0) (fun again x hI ih => ?_) N _ ⟨0, ⟨rfl, Nat.zero_le _⟩, FG.rf, fun u hu => absurd hu (Nat.not_lt_zero _)⟩
    obtain ⟨x5, υ⟩ := x
    obtain ⟨l, ⟨e, hl⟩, hf, hz⟩ := hI
    have e : x5 = nI l := e
    subst e
    have hf : FG [227] τ υ := hf
    have hz : ∀ u, u < l → υ.1 227 u = 0 := hz
    have Ru := hf.R hR
    rw [F_X12_takes__79.eq_1]
    refine pt_if (fun q => ?_) (fun q => ?_)
    · have q : nI 1024 ≤ nI l := q
      rw [nlt (by omega) (by omega)] at q
      refine pt_lp (fun x : Int32 × zS => ∃ i, (x.1 = nI i ∧ i ≤ m) ∧ FG [227] τ x.2 ∧ ∀ u, u < 1024 → (x.2.1 227 u = 1 ∧ tkS (fun j => τ.2.1 241 (60 * s + j)) i u) ∨ (x.2.1 227 u = 0 ∧ ¬ tkS (fun j => τ.2.1 241 (60 * s + j)) i u)) (fun again x hI ih => ?_) N _ ⟨0, ⟨rfl, Nat.zero_le _⟩, hf, fun u hu => Or.inr ⟨hz u (by omega), fun ⟨j, hj, _⟩ => absurd hj (Nat.not_lt_zero _)⟩⟩
      obtain ⟨x5, φ⟩ := x
      obtain ⟨i, ⟨e, hi⟩, hg, hq⟩ := hI
      have e : x5 = nI i := e
      subst e
      have hg : FG [227] τ φ := hg
      have hq : ∀ u, u < 1024 → (φ.1 227 u = 1 ∧ tkS (fun j => τ.2.1 241 (60 * s + j)) i u) ∨ (φ.1 227 u = 0 ∧ ¬ tkS (fun j => τ.2.1 241 (60 * s + j)) i u) := hq
      have Rf := hg.R hR
      have e9 : φ.1 219 = τ.1 219 := hg.2 219 (by decide)
      have e39 : φ.1 239 s = nI m := (congrFun (hg.2 239 (by decide)) s).trans elen
      rw [F_X12_takes__101.eq_1]
      refine pt_gR (v := 239) (Rf 218 35 rfl) (pt_aI ?_)
      rw [iN (m := s) (by omega), e39]
      refine pt_if (fun q => ?_) (fun q => ?_)
      · rw [nlt (by omega) (by omega)] at q
        have ei : i = m := by omega
        subst ei
        refine pt_gC (pt_zb (vr_lays (S := tkS (fun j => τ.2.1 241 (60 * s + j)) i) Rf (by rw [e9]; exact hn) hp hq) (fun v υ2 h => pt_some ⟨fun z => absurd ha z, fun _ => ⟨fun z => absurd l0 (by omega), fun _ => ⟨fun z => absurd good (by rw [← hL] at z; exact z), fun _ => ?_⟩⟩⟩))
        exact RM_of (hg.2 220 (by decide)) e9 h.2
      · rw [nlt (by omega) (by omega)] at q
        have gd : 0 ≤ (τ.2.1 241 (60 * s + i)).toInt ∧ (τ.2.1 241 (60 * s + i)).toInt < ((2 ^ n : Nat) : Int) := hd i (by omega)
        obtain ⟨g, hg1⟩ : ∃ g, g = (τ.2.1 241 (60 * s + i)).toInt.toNat := ⟨_, rfl⟩
        have gi : (τ.2.1 241 (60 * s + i)).toInt = (g : Int) := by omega
        have g1 : g < 1024 := by omega
        refine pt_gR (v := 227) (Rf 218 17 rfl) (pt_gR (v := 241) (Rf 218 37 rfl) (pt_aJ (pt_s16 ?_)))
        rw [n60, nI_plus, iN (m := 60 * s + i) (by omega), show φ.2.1 = τ.2.1 by rw [hg.1], ti64_32 ⟨by omega, by omega⟩, ← hg1, iN (m := g) (by omega), nI_m1, nz1.2]
        refine ih (nI (i + 1), _) ⟨i + 1, ⟨rfl, by omega⟩, hg.u (by simp), fun u hu => ?_⟩
        show ((zI φ 227 _).1 227 u = 1 ∧ _) ∨ ((zI φ 227 _).1 227 u = 0 ∧ _)
        rw [zI_s, upd_i]
        by_cases e : u = g
        · rw [if_pos e]
          exact Or.inl ⟨rfl, i, by omega, by show (τ.2.1 241 (60 * s + i)).toInt = _; rw [gi, e]⟩
        · rw [if_neg e]
          rcases hq u hu with ⟨a, j, hj, b⟩ | ⟨a, b⟩
          · exact Or.inl ⟨a, j, by omega, b⟩
          · refine Or.inr ⟨a, fun ⟨j, hj, c⟩ => ?_⟩
            by_cases f : j = i
            · subst f
              have c : (τ.2.1 241 (60 * s + j)).toInt = (u : Int) := c
              omega
            · exact b ⟨j, by omega, c⟩
    · have q : ¬ nI 1024 ≤ nI l := q
      rw [nlt (by omega) (by omega)] at q
      refine pt_gR (v := 227) (Ru 218 17 rfl) (pt_s16 ?_)
      rw [iN (m := l) (by omega), nI_m1, nz1.1]
      refine ih (nI (l + 1), _) ⟨l + 1, ⟨rfl, by omega⟩, hf.u (by simp), fun u hu => ?_⟩
      show (zI υ 227 _).1 227 u = 0
      rw [zI_s, upd_i]
      by_cases e : u = l
      · rw [if_pos e]
      · rw [if_neg e]; exact hz u (by omega)
  · rw [elen, nlt (by omega) (by omega)] at q
    refine pt_gR (v := 241) (hR 218 37 rfl) (pt_aJ (pt_gC (pt_zbq (vr_mn hR hn) (fun v21 h21 => ?_))))
    subst h21
    refine pt_zbq vr_in (fun v hv => ?_)
    rw [n60, nI_plus, iN (m := 60 * s + m) (by omega), i64_of, en, mnn n0 n10, m1_ (by rw [nI_toInt (by omega)]; omega), nI_toInt (by omega)] at hv
    simp only [Int64.reduceToInt] at hv
    refine pt_if (fun z => pt_some ⟨fun z => absurd ha z, fun _ => ⟨fun z => absurd l0 (by omega), fun _ => ⟨fun _ => ⟨rfl, rfl⟩, fun w => ?_⟩⟩⟩) (fun z => ?_)
    · rw [← hL] at w
      have w := w m (by omega)
      rw [en, mnn n0 n10] at w
      have w : 0 ≤ (τ.2.1 241 (60 * s + m)).toInt ∧ (τ.2.1 241 (60 * s + m)).toInt < ((2 ^ n : Nat) : Int) := w
      exact absurd ⟨w.1, by omega⟩ (hv.1 z)
    · have h := hv.2 z
      rw [nI_s1 (by omega)]
      refine ih (nI (m + 1), τ) ⟨m + 1, ⟨rfl, by omega⟩, rfl, fun j hj => ?_⟩
      by_cases e : j = m
      · subst e; exact ⟨h.1, by omega⟩
      · exact hd j (by omega)
end TAKES
end Zq15_2
section Zq15_3
/-! ===== the class's questions that use the scratch ===== -/
section CQRY
variable {N B : Nat} {σ : zS} {x1 x2 : Int32}
/-- register p of the class's world that begins at B -/
abbrev Fc (σ : zS) (B p : Nat) : Nat → Bool := bt (σ.2.1 (B + 6 + 2 * p + 1))
def eaC (m x1 x2 : Int32) : Prop := isR m x1 ∧ isN m x2
def prC (m x1 x2 : Int32) : Prop := isR m x1 ∧ isR m x2
theorem wr_rg (hB : isWc B) {k : Nat} (hk : k < 10) : WR (B + 6 + 2 * k + 1) := by unfold WR; unfold isWc at hB; omega
theorem LW1 {τ : zS} (h : LF 129 σ τ) : LW σ τ := fun a ha => h.2.2 a (lw_no ha).2.1
theorem vl_each_ (hB : isWc B) (hR : RF σ.2.2) (h4 : σ.2.2 0 4 = B) (hn : 0 ≤ (σ.1 B 0).toInt ∧ (σ.1 B 0).toInt ≤ 10) : Pt (f_X11_each N 0 x1 x2 σ) (fun r => LW σ r.2 ∧ (eaC (σ.1 B 0) x1 x2 → r.1 = nI (ct (fun u => Fc σ B x1.toInt.toNat u && u.testBit x2.toInt.toNat) 1024)) ∧ (¬ eaC (σ.1 B 0) x1 x2 → r.1 = -2)) := by
  rw [f_X11_each.eq_1]
  refine pt_gC (pt_zbq (vl_isRegister h4) (fun v hv => pt_if (fun q => pt_some ⟨fun _ _ => rfl, fun z => absurd z.1 (hv.1 q), fun _ => rfl⟩) (fun q1 => ?_)))
  refine pt_gC (pt_zbq (vl_isName h4) (fun v3 hv3 => pt_if (fun q => pt_some ⟨fun _ _ => rfl, fun z => absurd z.2 (hv3.1 q), fun _ => rfl⟩) (fun q3 => ?_)))
  have r1 := hv.2 q1
  have r3 : isN (σ.1 B 0) x2 := hv3.2 q3
  have hm : eaC (σ.1 B 0) x1 x2 := ⟨r1, r3⟩
  obtain ⟨p, hp, rfl⟩ := isR_n r1
  obtain ⟨l, hl, rfl, hlt⟩ := isN_n r3 hn.2
  have ep := iN (m := p) (by omega)
  have el := iN (m := l) (by omega)
  refine pt_gR (v := 128) (hR 0 17 rfl) (pt_reg hB hR h4 hp (pt_gC (pt_zb (v_copyFrom hR k128.1 (rgW hB hR hp).2) (fun _ σ1 h => ?_))))
  obtain ⟨l1, e1⟩ := h
  have l1 : LF 129 σ σ1 := l1
  have e1 : ∀ u, u < 1024 → bt (σ1.2.1 129) u = bt (σ.2.1 (B + 6 + 2 * p + 1)) u := e1
  have R1 := l1.R hR
  refine pt_gR (v := 128) (R1 0 17 rfl) (pt_gC (pt_zb (v_keepWithout R1 k128.1 hl) (fun _ σ2 h => ?_)))
  obtain ⟨l2, e2⟩ := h
  have l2 : LF 129 σ1 σ2 := l2
  have e2 : ∀ u, u < 1024 → bt (σ2.2.1 129) u = (bt (σ1.2.1 129) u && !u.testBit l) := e2
  have l12 := l1.tr l2
  have R2 := l12.R hR
  have h42 : σ2.2.2 0 4 = B := by rw [l12.2.1]; exact h4
  refine pt_reg hB R2 h42 hp (pt_gC (pt_zbq (v_tally R2 (rgW hB R2 hp).2) (fun v17 h17 => ?_)))
  refine pt_gR (v := 128) (R2 0 17 rfl) (pt_gC (pt_zbq (v_tally R2 k128.1) (fun v20 h20 => pt_some ⟨LW1 l12, fun _ => ?_, fun z => absurd hm z⟩)))
  have e3 : σ2.2.1 (B + 6 + 2 * p + 1) = σ.2.1 (B + 6 + 2 * p + 1) := l12.2.2 _ (lw_no (wr_rg hB hp)).2.1
  rw [e3] at h17
  have h20 : v20.toInt = (ct (bt (σ2.2.1 129)) 1024 : Int) := h20
  rw [ct_c (q := fun u => bt (σ.2.1 (B + 6 + 2 * p + 1)) u && !u.testBit l) (fun k hk => by rw [e2 k hk, e1 k hk])] at h20
  have s := ct_add (bt (σ.2.1 (B + 6 + 2 * p + 1))) (fun u => u.testBit l) 1024
  have b1 := ct_le (bt (σ.2.1 (B + 6 + 2 * p + 1))) 1024
  rw [ep, el]
  apply Int32.toInt_inj.mp
  show (v17 - v20).toInt = (nI (ct (fun u => bt (σ.2.1 (B + 6 + 2 * p + 1)) u && u.testBit l) 1024)).toInt
  rw [ti_sub, h17, h20, nI_toInt (by omega)]
  omega
theorem vl_within_ (hB : isWc B) (hR : RF σ.2.2) (h4 : σ.2.2 0 4 = B) : Pt (f_X11_within N 0 x1 x2 σ) (fun r => LW σ r.2 ∧ (prC (σ.1 B 0) x1 x2 → (r.1 = 1 ∧ ∀ u, u < 1024 → Fc σ B x1.toInt.toNat u = true → Fc σ B x2.toInt.toNat u = true) ∨ (r.1 = 0 ∧ ¬ ∀ u, u < 1024 → Fc σ B x1.toInt.toNat u = true → Fc σ B x2.toInt.toNat u = true)) ∧ (¬ prC (σ.1 B 0) x1 x2 → r.1 = -2)) := by
  rw [f_X11_within.eq_1]
  refine pt_gC (pt_zbq (vl_isRegister h4) (fun v hv => pt_if (fun q => pt_some ⟨fun _ _ => rfl, fun z => absurd z.1 (hv.1 q), fun _ => rfl⟩) (fun q1 => ?_)))
  refine pt_gC (pt_zbq (vl_isRegister h4) (fun v3 hv3 => pt_if (fun q => pt_some ⟨fun _ _ => rfl, fun z => absurd z.2 (hv3.1 q), fun _ => rfl⟩) (fun q3 => ?_)))
  have r1 := hv.2 q1
  have r3 := hv3.2 q3
  have hm : prC (σ.1 B 0) x1 x2 := ⟨r1, r3⟩
  obtain ⟨p, hp, rfl⟩ := isR_n r1
  obtain ⟨l, hl, rfl⟩ := isR_n r3
  rw [iN (m := p) (by omega), iN (m := l) (by omega)]
  refine pt_gR (v := 128) (hR 0 17 rfl) (pt_reg hB hR h4 hp (pt_gC (pt_zb (v_copyFrom hR k128.1 (rgW hB hR hp).2) (fun _ σ1 h => ?_))))
  obtain ⟨l1, e1⟩ := h
  have l1 : LF 129 σ σ1 := l1
  have e1 : ∀ u, u < 1024 → bt (σ1.2.1 129) u = bt (σ.2.1 (B + 6 + 2 * p + 1)) u := e1
  have R1 := l1.R hR
  have h41 : σ1.2.2 0 4 = B := by rw [l1.2.1]; exact h4
  refine pt_gR (v := 128) (R1 0 17 rfl) (pt_reg hB R1 h41 hl (pt_gC (pt_zb (v_takeAway R1 k128.1 (rgW hB R1 hl).2) (fun _ σ2 h => ?_))))
  obtain ⟨l2, e2⟩ := h
  have l2 : LF 129 σ1 σ2 := l2
  have e2 : ∀ u, u < 1024 → bt (σ2.2.1 129) u = (bt (σ1.2.1 129) u && !bt (σ1.2.1 (B + 6 + 2 * l + 1)) u) := e2
  have l12 := l1.tr l2
  have R2 := l12.R hR
  have ek : σ1.2.1 (B + 6 + 2 * l + 1) = σ.2.1 (B + 6 + 2 * l + 1) := l1.2.2 _ (lw_no (wr_rg hB hl)).2.1
  have ee : (∀ u, u < 1024 → bt (σ2.2.1 129) u = false) ↔ ∀ u, u < 1024 → Fc σ B p u = true → Fc σ B l u = true := by
    constructor
    · intro h u hu a
      have := h u hu
      rw [e2 u hu, e1 u hu, ek] at this
      show bt (σ.2.1 (B + 6 + 2 * l + 1)) u = true
      rw [show bt (σ.2.1 (B + 6 + 2 * p + 1)) u = true from a, Bool.true_and, Bool.not_eq_false'] at this
      exact this
    · intro h u hu
      rw [e2 u hu, e1 u hu, ek]
      cases a : bt (σ.2.1 (B + 6 + 2 * p + 1)) u with
      | false => rfl
      | true =>
        have : bt (σ.2.1 (B + 6 + 2 * l + 1)) u = true := h u hu a
        rw [this]; rfl
  refine pt_gR (v := 128) (R2 0 17 rfl) (pt_gC (pt_zbq (v_isEmpty R2 k128.1) (fun v18 h18 => ?_)))
  obtain ⟨o, i⟩ := h18
  have i : v18 = 1 ↔ ∀ u, u < 1024 → bt (σ2.2.1 129) u = false := i
  rw [ee] at i
  refine pt_if (fun z => pt_some ⟨LW1 l12, fun _ => Or.inr ⟨rfl, fun w => ?_⟩, fun z => absurd hm z⟩) (fun z => pt_some ⟨LW1 l12, fun _ => Or.inl ⟨rfl, i.mp (o.resolve_left z)⟩, fun z => absurd hm z⟩)
  have := i.mpr w
  rw [z] at this
  exact absurd this (by decide)
/-- of one alone -/
def xoF (F G : Nat → Bool) (u : Nat) : Bool := (F u && !G u) || (G u && !F u)
theorem vl_differ_ (hB : isWc B) (hR : RF σ.2.2) (h4 : σ.2.2 0 4 = B) : Pt (f_X11_differ N 0 x1 x2 σ) (fun r => LW σ r.2 ∧ (prC (σ.1 B 0) x1 x2 → ∃ E : Nat → Bool, (∀ u, u < 1024 → E u = xoF (Fc σ B x1.toInt.toNat) (Fc σ B x2.toInt.toNat) u) ∧ pkQ E 0 r.1) ∧ (¬ prC (σ.1 B 0) x1 x2 → r.1 = -2)) := by
  rw [f_X11_differ.eq_1]
  refine pt_gC (pt_zbq (vl_isRegister h4) (fun v hv => pt_if (fun q => pt_some ⟨fun _ _ => rfl, fun z => absurd z.1 (hv.1 q), fun _ => rfl⟩) (fun q1 => ?_)))
  refine pt_gC (pt_zbq (vl_isRegister h4) (fun v3 hv3 => pt_if (fun q => pt_some ⟨fun _ _ => rfl, fun z => absurd z.2 (hv3.1 q), fun _ => rfl⟩) (fun q3 => ?_)))
  have r1 := hv.2 q1
  have r3 := hv3.2 q3
  have hm : prC (σ.1 B 0) x1 x2 := ⟨r1, r3⟩
  obtain ⟨p, hp, rfl⟩ := isR_n r1
  obtain ⟨l, hl, rfl⟩ := isR_n r3
  rw [iN (m := p) (by omega), iN (m := l) (by omega)]
  have no := fun {k : Nat} (hk : k < 10) => lw_no (wr_rg hB hk)
  refine pt_gR (v := 128) (hR 0 17 rfl) (pt_reg hB hR h4 hp (pt_gC (pt_zb (v_copyFrom hR k128.1 (rgW hB hR hp).2) (fun _ σ1 h => ?_))))
  obtain ⟨l1, e1⟩ := h
  have l1 : LF 129 σ σ1 := l1
  have e1 : ∀ u, u < 1024 → bt (σ1.2.1 129) u = bt (σ.2.1 (B + 6 + 2 * p + 1)) u := e1
  have R1 := l1.R hR
  have h41 : σ1.2.2 0 4 = B := by rw [l1.2.1]; exact h4
  refine pt_gR (v := 128) (R1 0 17 rfl) (pt_reg hB R1 h41 hl (pt_gC (pt_zb (v_takeAway R1 k128.1 (rgW hB R1 hl).2) (fun _ σ2 h => ?_))))
  obtain ⟨l2, e2⟩ := h
  have l2 : LF 129 σ1 σ2 := l2
  have e2 : ∀ u, u < 1024 → bt (σ2.2.1 129) u = (bt (σ1.2.1 129) u && !bt (σ1.2.1 (B + 6 + 2 * l + 1)) u) := e2
  have l12 := l1.tr l2
  have R2 := l12.R hR
  have h42 : σ2.2.2 0 4 = B := by rw [l12.2.1]; exact h4
  refine pt_gR (v := 130) (R2 0 18 rfl) (pt_reg hB R2 h42 hl (pt_gC (pt_zb (v_copyFrom R2 k128.2 (rgW hB R2 hl).2) (fun _ σ3 h => ?_))))
  obtain ⟨l3, e3⟩ := h
  have l3 : LF 131 σ2 σ3 := l3
  have e3 : ∀ u, u < 1024 → bt (σ3.2.1 131) u = bt (σ2.2.1 (B + 6 + 2 * l + 1)) u := e3
  have R3 := l3.R R2
  have h43 : σ3.2.2 0 4 = B := by rw [l3.2.1]; exact h42
  refine pt_gR (v := 130) (R3 0 18 rfl) (pt_reg hB R3 h43 hp (pt_gC (pt_zb (v_takeAway R3 k128.2 (rgW hB R3 hp).2) (fun _ σ4 h => ?_))))
  obtain ⟨l4, e4⟩ := h
  have l4 : LF 131 σ3 σ4 := l4
  have e4 : ∀ u, u < 1024 → bt (σ4.2.1 131) u = (bt (σ3.2.1 131) u && !bt (σ3.2.1 (B + 6 + 2 * p + 1)) u) := e4
  have l34 := l3.tr l4
  have R4 := l34.R R2
  refine pt_gR (v := 128) (R4 0 17 rfl) (pt_gR (v := 130) (R4 0 18 rfl) (pt_gC (pt_zb (v_join R4 k128.1 k128.2) (fun _ σ5 h => ?_))))
  obtain ⟨l5, e5⟩ := h
  have l5 : LF 129 σ4 σ5 := l5
  have e5 : ∀ u, u < 1024 → bt (σ5.2.1 129) u = (bt (σ4.2.1 129) u || bt (σ4.2.1 131) u) := e5
  have R5 := l5.R R4
  have lw : LW σ σ5 := fun a ha => ((l5.2.2 a (lw_no ha).2.1).trans (l34.2.2 a (lw_no ha).2.2)).trans (l12.2.2 a (lw_no ha).2.1)
  refine pt_gR (v := 128) (R5 0 17 rfl) (pt_gC (pt_zbq (v_pick R5 k128.1) (fun v34 h34 => pt_some ⟨lw, fun _ => ⟨bt (σ5.2.1 129), fun u hu => ?_, h34.1 (by decide)⟩, fun z => absurd hm z⟩)))
  have a9 : σ4.2.1 129 = σ2.2.1 129 := l34.2.2 129 (by decide)
  have al1 : σ1.2.1 (B + 6 + 2 * l + 1) = σ.2.1 (B + 6 + 2 * l + 1) := l1.2.2 _ (no hl).2.1
  have al2 : σ2.2.1 (B + 6 + 2 * l + 1) = σ.2.1 (B + 6 + 2 * l + 1) := l12.2.2 _ (no hl).2.1
  have ap3 : σ3.2.1 (B + 6 + 2 * p + 1) = σ.2.1 (B + 6 + 2 * p + 1) := (l3.2.2 _ (no hp).2.2).trans (l12.2.2 _ (no hp).2.1)
  show bt (σ5.2.1 129) u = _
  rw [e5 u hu, a9, e2 u hu, e1 u hu, al1, e4 u hu, e3 u hu, al2, ap3]
  rfl
/-- the one is the least hits of the other -/
def isHit (F G : Nat → Bool) (M : Nat) : Prop := ∀ u, u < 1024 → (F u = true ↔ RS 2 G M u)
theorem vl_dual_ (hB : isWc B) (hR : RF σ.2.2) (h4 : σ.2.2 0 4 = B) (hn : 0 ≤ (σ.1 B 0).toInt ∧ (σ.1 B 0).toInt ≤ 10) (hF : FI σ B) : Pt (f_X11_dual N 0 x1 x2 σ) (fun r => LW σ r.2 ∧ (prC (σ.1 B 0) x1 x2 → (r.1 = 1 ∧ isHit (Fc σ B x1.toInt.toNat) (Fc σ B x2.toInt.toNat) (mn (σ.1 B 0)) ∧ isHit (Fc σ B x2.toInt.toNat) (Fc σ B x1.toInt.toNat) (mn (σ.1 B 0))) ∨ (r.1 = 0 ∧ ¬ (isHit (Fc σ B x1.toInt.toNat) (Fc σ B x2.toInt.toNat) (mn (σ.1 B 0)) ∧ isHit (Fc σ B x2.toInt.toNat) (Fc σ B x1.toInt.toNat) (mn (σ.1 B 0))))) ∧ (¬ prC (σ.1 B 0) x1 x2 → r.1 = -2)) := by
  rw [f_X11_dual.eq_1]
  refine pt_gC (pt_zbq (vl_isRegister h4) (fun v hv => pt_if (fun q => pt_some ⟨fun _ _ => rfl, fun z => absurd z.1 (hv.1 q), fun _ => rfl⟩) (fun q1 => ?_)))
  refine pt_gC (pt_zbq (vl_isRegister h4) (fun v3 hv3 => pt_if (fun q => pt_some ⟨fun _ _ => rfl, fun z => absurd z.2 (hv3.1 q), fun _ => rfl⟩) (fun q3 => ?_)))
  have r1 := hv.2 q1
  have r3 := hv3.2 q3
  have hm : prC (σ.1 B 0) x1 x2 := ⟨r1, r3⟩
  obtain ⟨p, hp, rfl⟩ := isR_n r1
  obtain ⟨l, hl, rfl⟩ := isR_n r3
  obtain ⟨n, en, n0, n10⟩ := world_n r1.1 hn.2
  rw [en] at hm
  rw [iN (m := p) (by omega), iN (m := l) (by omega), en, mnn n0 n10]
  have Ip := FI_in hF hp en n0 n10
  have Il := FI_in hF hl en n0 n10
  have no := fun {k : Nat} (hk : k < 10) => lw_no (wr_rg hB hk)
  refine pt_gR (v := 128) (hR 0 17 rfl) (pt_reg hB hR h4 hl (pt_gC (pt_zb (v_copyFrom hR k128.1 (rgW hB hR hl).2) (fun _ σ1 h => ?_))))
  obtain ⟨l1, e1⟩ := h
  have l1 : LF 129 σ σ1 := l1
  have e1 : ∀ u, u < 1024 → bt (σ1.2.1 129) u = bt (σ.2.1 (B + 6 + 2 * l + 1)) u := e1
  have R1 := l1.R hR
  have h41 : σ1.2.2 0 4 = B := by rw [l1.2.1]; exact h4
  have n1 : σ1.1 B 0 = nI n := by rw [l1.1]; exact en
  refine pt_gR (v := 99) (R1 0 11 rfl) (pt_gR (v := 128) (R1 0 17 rfl) (pt_gR (v := B) h41 (pt_gI ?_)))
  rw [n1]
  refine pt_gC (pt_zb (v_reshape R1 iF128.1 n10 (fun u hu a => Il u hu (by rw [← e1 u hu]; exact a))) (fun _ σ2 h => ?_))
  obtain ⟨l2, e2⟩ := h
  have l2 : LG [129, 101, 103] σ1 σ2 := l2
  have e2 : ∀ u, u < 1024 → (bt (σ2.2.1 129) u = true ↔ RS 2 (bt (σ1.2.1 129)) (2 ^ n) u) := e2
  have R2 := l2.R R1
  have h42 : σ2.2.2 0 4 = B := by rw [l2.2.1]; exact h41
  have w2 : LW σ σ2 := fun a ha => (l2.2.2 a (fun q => (lw_no ha).1 (by simp only [List.mem_cons, List.not_mem_nil, or_false] at q ⊢; omega))).trans (l1.2.2 a (lw_no ha).2.1)
  refine pt_gR (v := 130) (R2 0 18 rfl) (pt_reg hB R2 h42 hp (pt_gC (pt_zb (v_copyFrom R2 k128.2 (rgW hB R2 hp).2) (fun _ σ3 h => ?_))))
  obtain ⟨l3, e3⟩ := h
  have l3 : LF 131 σ2 σ3 := l3
  have e3 : ∀ u, u < 1024 → bt (σ3.2.1 131) u = bt (σ2.2.1 (B + 6 + 2 * p + 1)) u := e3
  have R3 := l3.R R2
  have h43 : σ3.2.2 0 4 = B := by rw [l3.2.1]; exact h42
  have n3 : σ3.1 B 0 = nI n := by rw [l3.1, l2.1]; exact n1
  have ep2 : σ2.2.1 (B + 6 + 2 * p + 1) = σ.2.1 (B + 6 + 2 * p + 1) := w2 _ (wr_rg hB hp)
  refine pt_gR (v := 99) (R3 0 11 rfl) (pt_gR (v := 130) (R3 0 18 rfl) (pt_gR (v := B) h43 (pt_gI ?_)))
  rw [n3]
  refine pt_gC (pt_zb (v_reshape R3 iF128.2 n10 (fun u hu a => Ip u hu (by rw [← ep2, ← e3 u hu]; exact a))) (fun _ σ4 h => ?_))
  obtain ⟨l4, e4⟩ := h
  have l4 : LG [131, 101, 103] σ3 σ4 := l4
  have e4 : ∀ u, u < 1024 → (bt (σ4.2.1 131) u = true ↔ RS 2 (bt (σ3.2.1 131)) (2 ^ n) u) := e4
  have R4 := l4.R R3
  have h44 : σ4.2.2 0 4 = B := by rw [l4.2.1]; exact h43
  have w4 : LW σ σ4 := fun a ha => ((l4.2.2 a (by have := lw_no ha; simp only [List.mem_cons, List.not_mem_nil, or_false] at this ⊢; omega)).trans (l3.2.2 a (lw_no ha).2.2)).trans (w2 a ha)
  have a9 : σ4.2.1 129 = σ2.2.1 129 := (l4.2.2 129 (by decide)).trans (l3.2.2 129 (by decide))
  have c1 : ∀ u, u < 1024 → (bt (σ4.2.1 129) u = true ↔ RS 2 (Fc σ B l) (2 ^ n) u) := fun u hu => by
    rw [a9, e2 u hu]
    exact ⟨RS_c e1 (p2le n10).1 hu, RS_c (fun k hk => (e1 k hk).symm) (p2le n10).1 hu⟩
  have e3' : ∀ u, u < 1024 → bt (σ3.2.1 131) u = Fc σ B p u := fun u hu => by rw [e3 u hu, ep2]
  have c2 : ∀ u, u < 1024 → (bt (σ4.2.1 131) u = true ↔ RS 2 (Fc σ B p) (2 ^ n) u) := fun u hu => by
    rw [e4 u hu]
    exact ⟨RS_c e3' (p2le n10).1 hu, RS_c (fun k hk => (e3' k hk).symm) (p2le n10).1 hu⟩
  have s1 : (∀ u, u < 1024 → bt (σ4.2.1 129) u = bt (σ4.2.1 (B + 6 + 2 * p + 1)) u) ↔ isHit (Fc σ B p) (Fc σ B l) (2 ^ n) := by
    rw [w4 _ (wr_rg hB hp)]
    constructor
    · intro h u hu
      rw [← c1 u hu, h u hu]
    · intro h u hu
      rw [Bool.eq_iff_iff, c1 u hu]
      exact (h u hu).symm
  have s2 : (∀ u, u < 1024 → bt (σ4.2.1 131) u = bt (σ4.2.1 (B + 6 + 2 * l + 1)) u) ↔ isHit (Fc σ B l) (Fc σ B p) (2 ^ n) := by
    rw [w4 _ (wr_rg hB hl)]
    constructor
    · intro h u hu
      rw [← c2 u hu, h u hu]
    · intro h u hu
      rw [Bool.eq_iff_iff, c2 u hu]
      exact (h u hu).symm
  refine pt_gR (v := 128) (R4 0 17 rfl) (pt_reg hB R4 h44 hp (pt_gC (pt_zbq (v_sameAs R4 k128.1 (rgW hB R4 hp).2) (fun v33 h33 => ?_))))
  obtain ⟨o1, i1⟩ := h33
  have i1 : v33 = 1 ↔ ∀ u, u < 1024 → bt (σ4.2.1 129) u = bt (σ4.2.1 (B + 6 + 2 * p + 1)) u := i1
  rw [s1] at i1
  refine pt_if (fun z => pt_some ⟨w4, fun _ => Or.inr ⟨rfl, fun w => ?_⟩, fun z => absurd hm z⟩) (fun z => ?_)
  · have := i1.mpr w.1
    rw [z] at this
    exact absurd this (by decide)
  · have y1 := i1.mp (o1.resolve_left z)
    refine pt_gR (v := 130) (R4 0 18 rfl) (pt_reg hB R4 h44 hl (pt_gC (pt_zbq (v_sameAs R4 k128.2 (rgW hB R4 hl).2) (fun v39 h39 => ?_))))
    obtain ⟨o2, i2⟩ := h39
    have i2 : v39 = 1 ↔ ∀ u, u < 1024 → bt (σ4.2.1 131) u = bt (σ4.2.1 (B + 6 + 2 * l + 1)) u := i2
    rw [s2] at i2
    refine pt_if (fun z2 => pt_some ⟨w4, fun _ => Or.inr ⟨rfl, fun w => ?_⟩, fun z => absurd hm z⟩) (fun z2 => pt_some ⟨w4, fun _ => Or.inl ⟨rfl, y1, i2.mp (o2.resolve_left z2)⟩, fun z => absurd hm z⟩)
    have := i2.mpr w.2
    rw [z2] at this
    exact absurd this (by decide)
/-- a name that is found -/
def fdN (F : Nat → Bool) (w : Int32) (k : Nat) : Prop := if w = 2 then ∀ u, u < 1024 → F (u ^^^ 2 ^ k) = F u else if w = 0 then ∀ u, u < 1024 → F u = true → u.testBit k = true else ∃ u, u < 1024 ∧ F u = true ∧ u.testBit k = true
theorem vl_isFound {p k : Nat} {w : Int32} (hB : isWc B) (hR : RF σ.2.2) (hp : p < 10) (hk : k < 10) : Pt (f_X11_isFoundName N 0 (B + 6 + 2 * p) (nI k) w σ) (fun r => LF 129 σ r.2 ∧ (r.1 = 0 → ¬ fdN (Fc σ B p) w k) ∧ (¬ r.1 = 0 → fdN (Fc σ B p) w k)) := by
  have k2 := (rgW hB hR hp).2
  have ne := (lw_no (wr_rg hB hp)).2.1
  rw [f_X11_isFoundName.eq_1]
  refine pt_gR (v := 128) (hR 0 17 rfl) (pt_gC (pt_zb (v_copyFrom hR k128.1 k2) (fun _ σ1 h => ?_)))
  obtain ⟨l1, e1⟩ := h
  have l1 : LF 129 σ σ1 := l1
  have e1 : ∀ u, u < 1024 → bt (σ1.2.1 129) u = bt (σ.2.1 (B + 6 + 2 * p + 1)) u := e1
  have R1 := l1.R hR
  refine pt_if (fun q => ?_) (fun q => ?_)
  · refine pt_gR (v := 128) (R1 0 17 rfl) (pt_gC (pt_zb (v_flip R1 k128.1 hk) (fun _ σ2 h => ?_)))
    obtain ⟨l2, e2⟩ := h
    have l2 : LF 129 σ1 σ2 := l2
    have e2 : ∀ u, u < 1024 → bt (σ2.2.1 129) u = bt (σ1.2.1 129) (u ^^^ 2 ^ k) := e2
    have l12 := l1.tr l2
    have R2 := l12.R hR
    have i : (∀ u, u < 1024 → bt (σ2.2.1 129) u = bt (σ2.2.1 (B + 6 + 2 * p + 1)) u) ↔ fdN (Fc σ B p) w k := by
      unfold fdN
      rw [if_pos q, l12.2.2 _ ne]
      constructor
      · intro h u hu
        have := h u hu
        rw [e2 u hu, e1 _ (x_1024 hu hk)] at this
        exact this
      · intro h u hu
        rw [e2 u hu, e1 _ (x_1024 hu hk)]
        exact h u hu
    refine pt_gR (v := 128) (R2 0 17 rfl) (pt_gC (pt_zbq (v_sameAs R2 k128.1 (rgW hB R2 hp).2) (fun v8 h8 => pt_rZ ⟨l12, fun z y => ?_, fun z => ?_⟩)))
    · have := h8.2.mpr (i.mpr y)
      rw [show v8 = 0 from z] at this
      exact absurd this (by decide)
    · exact i.mp (h8.2.mp (h8.1.resolve_left z))
  · refine pt_gR (v := 128) (R1 0 17 rfl) (pt_gC (pt_zb (v_keepWithout R1 k128.1 hk) (fun _ σ2 h => ?_)))
    obtain ⟨l2, e2⟩ := h
    have l2 : LF 129 σ1 σ2 := l2
    have e2 : ∀ u, u < 1024 → bt (σ2.2.1 129) u = (bt (σ1.2.1 129) u && !u.testBit k) := e2
    have l12 := l1.tr l2
    have R2 := l12.R hR
    refine pt_if (fun q0 => ?_) (fun q0 => ?_)
    · have i : (∀ u, u < 1024 → bt (σ2.2.1 129) u = false) ↔ fdN (Fc σ B p) w k := by
        unfold fdN
        rw [if_neg q, if_pos q0]
        constructor
        · intro h u hu a
          have := h u hu
          rw [e2 u hu, e1 u hu, show bt (σ.2.1 (B + 6 + 2 * p + 1)) u = true from a, Bool.true_and, Bool.not_eq_false'] at this
          exact this
        · intro h u hu
          rw [e2 u hu, e1 u hu]
          cases a : bt (σ.2.1 (B + 6 + 2 * p + 1)) u with
          | false => rfl
          | true => rw [h u hu a]; rfl
      refine pt_gR (v := 128) (R2 0 17 rfl) (pt_gC (pt_zbq (v_isEmpty R2 k128.1) (fun v8 h8 => pt_rZ ⟨l12, fun z y => ?_, fun z => ?_⟩)))
      · have := h8.2.mpr (i.mpr y)
        rw [show v8 = 0 from z] at this
        exact absurd this (by decide)
      · exact i.mp (h8.2.mp (h8.1.resolve_left z))
    · have i : ¬ (∀ u, u < 1024 → bt (σ2.2.1 129) u = bt (σ2.2.1 (B + 6 + 2 * p + 1)) u) ↔ fdN (Fc σ B p) w k := by
        unfold fdN
        rw [if_neg q, if_neg q0, l12.2.2 _ ne]
        constructor
        · intro h
          refine Classical.byContradiction (fun y => h (fun u hu => ?_))
          rw [e2 u hu, e1 u hu]
          cases a : bt (σ.2.1 (B + 6 + 2 * p + 1)) u with
          | false => rfl
          | true =>
            cases b : u.testBit k with
            | false => rfl
            | true => exact absurd ⟨u, hu, a, b⟩ y
        · rintro ⟨u, hu, a, b⟩ h
          have := h u hu
          rw [e2 u hu, e1 u hu, b, show bt (σ.2.1 (B + 6 + 2 * p + 1)) u = true from a] at this
          cases this
      refine pt_gR (v := 128) (R2 0 17 rfl) (pt_gC (pt_zbq (v_sameAs R2 k128.1 (rgW hB R2 hp).2) (fun v8 h8 => ?_)))
      refine pt_if (fun z => pt_rZ ⟨l12, fun y => absurd (show (1 : Int32) = 0 from y) (by decide), fun _ => i.mp (fun y => ?_)⟩) (fun z => pt_rZ ⟨l12, fun _ y => i.mpr y (h8.2.mp (h8.1.resolve_left z)), fun y => absurd rfl y⟩)
      have := h8.2.mpr y
      rw [z] at this
      exact absurd this (by decide)
def naC (m x1 x2 : Int32) : Prop := isR m x1 ∧ 0 ≤ x2.toInt ∧ x2.toInt ≤ 2
theorem or_2k {w m i : Nat} : (w ||| 2 ^ m).testBit i = true ↔ w.testBit i = true ∨ i = m := by
  rw [Nat.testBit_or, Nat.testBit_two_pow, Bool.or_eq_true, decide_eq_true_iff]
  exact ⟨fun h => h.imp id Eq.symm, fun h => h.imp id Eq.symm⟩
theorem vl_names_ (hB : isWc B) (hR : RF σ.2.2) (h4 : σ.2.2 0 4 = B) (hn : 0 ≤ (σ.1 B 0).toInt ∧ (σ.1 B 0).toInt ≤ 10) : Pt (f_X11_names N 0 x1 x2 σ) (fun r => LW σ r.2 ∧ (naC (σ.1 B 0) x1 x2 → ∃ w, (r.1 = nI w ∧ w < 1024) ∧ ∀ i, w.testBit i = true ↔ i < (σ.1 B 0).toInt.toNat ∧ fdN (Fc σ B x1.toInt.toNat) x2 i) ∧ (¬ naC (σ.1 B 0) x1 x2 → r.1 = -2)) := by
  rw [f_X11_names.eq_1]
  refine pt_gC (pt_zbq (vl_isRegister h4) (fun v hv => pt_if (fun q => pt_some ⟨fun _ _ => rfl, fun z => absurd z.1 (hv.1 q), fun _ => rfl⟩) (fun q1 => ?_)))
  refine pt_if (fun q => pt_some ⟨fun _ _ => rfl, fun z => absurd z.2.1 ?_, fun _ => rfl⟩) (fun qa => pt_if (fun qb => ?_) (fun q => pt_some ⟨fun _ _ => rfl, fun z => absurd z.2.2 ?_, fun _ => rfl⟩))
  · rw [Int32.lt_iff_toInt_lt] at q
    simp only [Int32.reduceToInt] at q
    omega
  · have r1 := hv.2 q1
    have hm : naC (σ.1 B 0) x1 x2 := by
      rw [Int32.lt_iff_toInt_lt] at qa
      rw [Int32.le_iff_toInt_le] at qb
      simp only [Int32.reduceToInt] at qa qb
      exact ⟨r1, by omega, qb⟩
    obtain ⟨p, hp, rfl⟩ := isR_n r1
    obtain ⟨n, en, n0, n10⟩ := world_n r1.1 hn.2
    rw [iN (m := p) (by omega), en, iN (m := n) (by omega)]
    refine pt_reg hB hR h4 hp ?_
    refine pt_lp (fun s : Int32 × Int32 × zS => ∃ w m, (s.1 = nI w ∧ w < 1024) ∧ (s.2.1 = nI m ∧ m ≤ n) ∧ LF 129 σ s.2.2 ∧ ∀ i, w.testBit i = true ↔ i < m ∧ fdN (Fc σ B p) x2 i) (fun again s hI ih => ?_) N _ ⟨0, 0, ⟨rfl, by decide⟩, ⟨rfl, Nat.zero_le _⟩, LF.rf, fun i => by rw [Nat.zero_testBit]; exact ⟨fun z => (by cases z), fun z => absurd z.1 (Nat.not_lt_zero _)⟩⟩
    obtain ⟨x4, x5, τ⟩ := s
    obtain ⟨w, m, ⟨e4, w10⟩, ⟨e5, hmn⟩, lf, hw⟩ := hI
    have e4 : x4 = nI w := e4
    have e5 : x5 = nI m := e5
    subst e4
    subst e5
    have lf : LF 129 σ τ := lf
    have R9 := lf.R hR
    have n9 : τ.1 B 0 = nI n := by rw [lf.1]; exact en
    rw [F_X11_names_36.eq_1]
    refine pt_gR (v := B) (by rw [lf.2.1]; exact h4) (pt_gI ?_)
    rw [n9]
    refine pt_if (fun q => ?_) (fun q => ?_)
    · rw [nlt (by omega) (by omega)] at q
      have em : m = n := by omega
      subst em
      exact pt_some ⟨LW1 lf, fun _ => ⟨w, ⟨rfl, w10⟩, hw⟩, fun z => absurd (by rw [en] at hm; exact hm) z⟩
    · rw [nlt (by omega) (by omega)] at q
      have eF : Fc τ B p = Fc σ B p := by
        unfold Fc
        rw [lf.2.2 _ (lw_no (wr_rg hB hp)).2.1]
      refine pt_gC (pt_zb (vl_isFound hB R9 hp (by omega)) (fun v8 σ2 h => ?_))
      obtain ⟨l2, f0, f1⟩ := h
      have l2 : LF 129 τ σ2 := l2
      rw [eF] at f0 f1
      rw [nI_s1 (by omega)]
      refine pt_if (fun z => ih (nI w, nI (m + 1), σ2) ⟨w, m + 1, ⟨rfl, w10⟩, ⟨rfl, by omega⟩, lf.tr l2, fun i => (hw i).trans ⟨fun y => ⟨by omega, y.2⟩, fun y => ⟨?_, y.2⟩⟩⟩) (fun z => ?_)
      · by_cases e : i = m
        · subst e; exact absurd y.2 (f0 z)
        · have := y.1; omega
      · rw [one10 m (by omega), nI_or]
        refine ih (nI (w ||| 2 ^ m), nI (m + 1), σ2) ⟨w ||| 2 ^ m, m + 1, ⟨rfl, or_1024 w10 (Nat.pow_lt_pow_right (by decide) (by omega : m < 10))⟩, ⟨rfl, by omega⟩, lf.tr l2, fun i => ?_⟩
        rw [or_2k, hw i]
        constructor
        · rintro (y | y)
          · exact ⟨by omega, y.2⟩
          · subst y; exact ⟨by omega, f1 z⟩
        · rintro ⟨a, b⟩
          by_cases e : i = m
          · exact Or.inr e
          · exact Or.inl ⟨by omega, b⟩
  · rw [Int32.le_iff_toInt_le] at q
    simp only [Int32.reduceToInt] at q
    omega
end CQRY
end Zq15_3
section Zq15_4
/-! ===== best leaves the worlds' families ===== -/
section OBEST
variable {N B : Nat} {σ τ υ : zS} {x1 x2 x3 x4 : Int32}
/-- longs of the row of parts alone may be other -/
def OF (σ τ : zS) : Prop := τ.2.2 = σ.2.2 ∧ ∀ a, a ≠ 121 → τ.2.1 a = σ.2.1 a
theorem OF.rf : OF σ σ := ⟨rfl, fun _ _ => rfl⟩
theorem OF.R (h : OF σ τ) (hR : RF σ.2.2) : RF τ.2.2 := by rw [h.1]; exact hR
theorem OF.i {k : Nat} {r : Nat → Int32} (h : OF σ τ) : OF σ (zI τ k r) := h
theorem OF.J {r : Nat → Int64} (h : OF σ τ) : OF σ (zJ τ 121 r) := ⟨h.1, fun a ha => (zJ_n ha).trans (h.2 a ha)⟩
theorem of_isG {x : Int64} (h : OF σ τ) : Pt (f_X3_isGathered N 120 x x3 τ) (fun r => OF σ r.2) := by
  rw [f_X3_isGathered.eq_1]
  refine pt_lp (fun s : Int32 × zS => OF σ s.2) (fun again s hI ih => ?_) N _ h
  obtain ⟨x4, φ⟩ := s
  have hI : OF σ φ := hI
  rw [F_X3_isGathered_3.eq_1]
  exact pt_if (fun _ => pt_rZ hI) (fun _ => pt_if (fun _ => pt_rZ hI) (fun _ => pt_gR rfl (pt_aJ (pt_if (fun _ => pt_rZ hI) (fun _ => ih (x4 + 1, φ) hI)))))
theorem of_23 {x : Int64} (h : OF σ τ) : Pt (J_X3_partsWith_23 N 120 x2 x τ) (fun r => OF σ r.2) := by
  rw [J_X3_partsWith_23.eq_1]
  refine pt_lp (fun s : Int32 × Int32 × zS => OF σ s.2.2) (fun again s hI ih => ?_) N _ h
  obtain ⟨x5, x6, φ⟩ := s
  have hI : OF σ φ := hI
  rw [F_X3_partsWith_30.eq_1]
  exact pt_if (fun _ => pt_some hI) (fun _ => pt_if (fun _ => pt_some hI) (fun _ => pt_gR rfl (pt_aJ (pt_if (fun _ => ih (x5, x6 + 1, φ) hI) (fun _ => ih (x5 + 1, x6 + 1, φ) hI)))))
theorem of_pW (h : OF σ τ) : Pt (f_X3_partsWith N 120 x1 x2 τ) (fun r => OF σ r.2) := by
  rw [f_X3_partsWith.eq_1]
  exact pt_if (fun _ => of_23 h) (fun _ => pt_if (fun _ => of_23 h) (fun _ => pt_aW (of_23 h)))
theorem of_100 {x y : Int64} {x7 x8 x9 : Int32} {again : Int32 × Int32 × Int32 × zS → Option (Int32 × zS)} (h : OF σ τ) (ih : ∀ t, OF σ t.2.2.2 → Pt (again t) (fun r => OF σ r.2)) : Pt (J_X3_gatherParts_100 N again 120 x x3 y x8 x9 x7 τ) (fun r => OF σ r.2) := by
  rw [J_X3_gatherParts_100.eq_1]
  exact pt_if (fun _ => pt_some h) (fun _ => ih _ h)
theorem of_gP {x : Int64} (hR : RF σ.2.2) (h : OF σ τ) : Pt (f_X3_gatherParts N 120 x x3 x4 τ) (fun r => OF σ r.2) := by
  rw [f_X3_gatherParts.eq_1]
  refine pt_lp (fun s : Int64 × Int32 × zS => OF σ s.2.2) (fun again s hI ih => ?_) N _ h
  obtain ⟨x5, x7, φ⟩ := s
  have hI : OF σ φ := hI
  rw [F_X3_gatherParts_6.eq_1]
  refine pt_if (fun _ => ?_) (fun _ => pt_if (fun _ => ih (x5, x7 + 1, φ) hI) (fun _ => ih (_, x7 + 1, φ) hI))
  refine pt_lp (fun s : Int32 × Int32 × Int32 × zS => OF σ s.2.2.2) (fun again s hI ih => ?_) N _ hI
  obtain ⟨y7, y8, y9, ψ⟩ := s
  have hI : OF σ ψ := hI
  rw [F_X3_gatherParts_54.eq_1]
  refine pt_if (fun _ => pt_some hI) (fun _ => pt_if (fun _ => of_100 hI ih) (fun _ => pt_gC (pt_zb (of_isG hI) (fun v φ2 h2 => ?_))))
  have h2 : OF σ φ2 := h2
  exact pt_if (fun _ => pt_gR (v := 121) (h2.R hR 120 0 rfl) (pt_sJ (of_100 h2.J ih))) (fun _ => of_100 h2 ih)
theorem of_wA {f : Nat} (hR : RF σ.2.2) (h : OF σ τ) : Pt (f_X3_weighAll N 120 f x2 τ) (fun r => OF σ r.2) := by
  rw [f_X3_weighAll.eq_1]
  refine pt_gR (v := 122) (h.R hR 120 1 rfl) (pt_s14 ?_)
  refine pt_lp (fun s : Int32 × zS => OF σ s.2) (fun again s hI ih => ?_) N _ h
  obtain ⟨y4, φ⟩ := s
  have hI : OF σ φ := hI
  rw [F_X3_weighAll_27.eq_1]
  refine pt_if (fun _ => pt_some hI) (fun _ => pt_gR rfl (pt_aJ (pt_gC (pt_zb (of_gP hR hI) (fun v φ2 h2 => ?_)))))
  have h2 : OF σ φ2 := h2
  refine pt_gR rfl (pt_s14 ?_)
  refine pt_lp (fun s : Int32 × zS => OF σ s.2) (fun again2 s hI ih2 => ?_) N _ h2
  obtain ⟨y6, ψ⟩ := s
  have hI : OF σ ψ := hI
  rw [F_X3_weighAll_59.eq_1]
  refine pt_if (fun _ => ih (_, ψ) hI) (fun _ => pt_if (fun _ => ih (_, ψ) hI) (fun _ => pt_if (fun _ => pt_gC (pt_zb (of_pW hI) (fun v φ3 h3 => ?_))) (fun _ => ih2 (y6 + 1, ψ) hI)))
  have h3 : OF σ φ3 := h3
  exact pt_gR rfl (pt_aI (pt_gR rfl (pt_aI (pt_if (fun _ => ih2 (y6 + 1, φ3) h3) (fun _ => pt_gR rfl (pt_s14 (pt_gR rfl (pt_s14 (ih2 (y6 + 1, _) h3)))))))))
theorem of_nA (h : OF σ τ) : Pt (f_X3_nameAt N 120 x1 τ) (fun r => OF σ r.2) := by
  rw [f_X3_nameAt.eq_1]
  refine pt_lp (fun s : Int32 × Int32 × zS => OF σ s.2.2) (fun again s hI ih => ?_) N _ h
  obtain ⟨y2, y3, φ⟩ := s
  have hI : OF σ φ := hI
  rw [F_X3_nameAt_4.eq_1]
  exact pt_if (fun _ => pt_gR rfl (pt_aI (pt_some hI))) (fun _ => pt_if (fun _ => pt_gR rfl (pt_aI (pt_some hI))) (fun _ => pt_gR rfl (pt_aI (ih (_, y3 + 1, φ) hI))))
theorem of_best (hR : RF σ.2.2) : Pt (f_X11_best N 0 x1 x2 σ) (fun r => LW σ r.2) := by
  have lw : ∀ {r : zS}, OF σ r → LW σ r := fun h a ha => h.2 a (by unfold WR at ha; omega)
  rw [f_X11_best.eq_1]
  refine pt_gC (pt_zb (Q := fun r => r.2 = σ) (pt_w (vl_isRegister (B := σ.2.2 0 4) rfl) (fun r h => h.1)) (fun v τ e => ?_))
  have e : τ = σ := e
  subst e
  refine pt_if (fun _ => pt_some (lw OF.rf)) (fun _ => pt_if (fun _ => pt_some (lw OF.rf)) (fun _ => pt_if (fun _ => ?_) (fun _ => pt_some (lw OF.rf))))
  refine pt_gR rfl (pt_gI (pt_if (fun _ => ?_) (fun _ => pt_some (lw OF.rf))))
  refine pt_gR rfl (pt_gI (pt_if (fun _ => ?_) (fun _ => pt_some (lw OF.rf))))
  refine pt_gR (v := 120) (hR 0 14 rfl) (pt_gR rfl (pt_gR rfl (pt_aR (pt_gR rfl (pt_gI (pt_gC (pt_zb (of_wA hR OF.rf) (fun _ φ h => ?_))))))))
  have h : OF τ φ := h
  refine pt_if (fun _ => ?_) (fun _ => ?_)
  · refine pt_gR (v := 120) (h.R hR 0 14 rfl) (pt_gC (pt_zb (Q := fun r => OF τ r.2) ?_ (fun _ φ2 h2 => pt_some (lw h2))))
    rw [f_X3_fewest.eq_1]
    exact pt_gR rfl (pt_aI (pt_some h))
  · exact pt_gR (v := 120) (h.R hR 0 14 rfl) (pt_gC (pt_zb (of_nA h) (fun _ φ2 h2 => pt_some (lw h2))))
end OBEST
end Zq15_4

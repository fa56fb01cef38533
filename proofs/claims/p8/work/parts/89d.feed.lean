/-! ===== feed: the same bytes ===== -/
def byt (x : Int32) (i : Nat) : Int32 := vp_nar .byte ((Int32.toInt8 (zus x (24 - 8 * nI i))).toInt32)
def five (x1 x2 x3 x4 x5 : Int32) (i : Nat) : Int32 := if i = 0 then x1 else if i = 1 then x2 else if i = 2 then x3 else if i = 3 then x4 else x5
/-- the tape behind feed -/
def fdR (g : Nat → Int32) (p : Nat) (x1 x2 x3 x4 x5 : Int32) : Nat → Int32 := fun k => if p ≤ k ∧ k < p + 20 then byt (five x1 x2 x3 x4 x5 ((k - p) / 4)) ((k - p) % 4) else g k
theorem sh24 : ∀ i, i < 4 → (24 - 8 * nI i).toUInt32 &&& Int32.toUInt32 31 = UInt32.ofNat (24 - 8 * i) ∧ ((24 - 8 * nI i) &&& 31) = nI (24 - 8 * i) := by decide +kernel
theorem byt_s (x : Int32) {i : Nat} (hi : i < 4) : Int32.toInt8 (zus x (24 - 8 * nI i)) = Int32.toInt8 (x >>> ((24 - 8 * nI i) &&& 31)) := by
  apply Int8.toBitVec_inj.mp
  show (zus x (24 - 8 * nI i)).toBitVec.signExtend 8 = (x >>> ((24 - 8 * nI i) &&& 31)).toBitVec.signExtend 8
  have e1 : (zus x (24 - 8 * nI i)).toBitVec = x.toBitVec >>> (24 - 8 * i) := by
    unfold zus
    rw [(sh24 i hi).1]
    show (x.toUInt32 >>> UInt32.ofNat (24 - 8 * i)).toBitVec = _
    rw [UInt32.toBitVec_shiftRight]
    have : ((UInt32.ofNat (24 - 8 * i)).toBitVec % 32).toNat = 24 - 8 * i := by
      rcases (show i = 0 ∨ i = 1 ∨ i = 2 ∨ i = 3 by omega) with rfl | rfl | rfl | rfl <;> rfl
    show x.toBitVec >>> ((UInt32.ofNat (24 - 8 * i)).toBitVec % 32) = _
    rw [BitVec.ushiftRight_eq', this]
  have e2 : (x >>> ((24 - 8 * nI i) &&& 31)).toBitVec = x.toBitVec.sshiftRight (24 - 8 * i) := by
    rw [(sh24 i hi).2, Int32.toBitVec_shiftRight]
    have : ((nI (24 - 8 * i)).toBitVec.smod 32).toNat = 24 - 8 * i := by
      rcases (show i = 0 ∨ i = 1 ∨ i = 2 ∨ i = 3 by omega) with rfl | rfl | rfl | rfl <;> decide
    show x.toBitVec.sshiftRight ((nI (24 - 8 * i)).toBitVec.smod 32).toNat = _
    rw [this]
  rw [e1, e2]
  apply BitVec.eq_of_getLsbD_eq
  intro j hj
  rw [BitVec.getLsbD_signExtend, BitVec.getLsbD_signExtend, BitVec.getLsbD_ushiftRight, BitVec.getLsbD_sshiftRight]
  have a : 24 - 8 * i + j < 32 := by omega
  have b : j < 32 := by omega
  have c : ¬ 32 ≤ j := by omega
  simp [a, b, c]
section FEED
variable {N : Nat} {σ : zS}
theorem pt_s14x {β : Type} {P : β → Prop} {k : Nat} {i v : Int32} {f : zS → Option β} (h : ∀ τ : zS, τ.1 k = upd (σ.1 k) i.toInt.toNat v → (∀ a, a ≠ k → τ.1 a = σ.1 a) → τ.2 = σ.2 → Pt (f τ) P) : Pt (zl (sI 14 k i v σ) f) P := pt_s14 (h _ zI_s (fun _ ha => zI_n ha) rfl)
/-- four bytes -/
def t4 (g : Nat → Int32) (p : Nat) (x : Int32) (m : Nat) : Nat → Int32 := fun k => if p ≤ k ∧ k < p + m then byt x (k - p) else g k
theorem vl_tape {x1 x2 : Int32} {P : Unit × zS → Prop} (hR : RF σ.2.2) (hx : 0 ≤ x2.toInt ∧ x2.toInt ≤ 596) (hP : ∀ τ : zS, τ.2 = σ.2 → (∀ k, k ≠ 1 → τ.1 k = σ.1 k) → τ.1 1 = t4 (σ.1 1) x2.toInt.toNat x1 4 → P ((), τ)) : Pt (f_X11_tapeNumber N 0 x1 x2 σ) P := by
  rw [f_X11_tapeNumber.eq_1]
  refine pt_lp (fun s : Int32 × zS => (0 ≤ s.1.toInt ∧ s.1.toInt ≤ 4) ∧ s.2.2 = σ.2 ∧ (∀ k, k ≠ 1 → s.2.1 k = σ.1 k) ∧ s.2.1 1 = t4 (σ.1 1) x2.toInt.toNat x1 s.1.toInt.toNat) (fun again s hI ih => ?_) N _ ⟨(by decide : 0 ≤ (0 : Int32).toInt ∧ (0 : Int32).toInt ≤ 4), rfl, fun _ _ => rfl, ?_⟩
  · obtain ⟨x3, τ⟩ := s
    obtain ⟨hb, hr, ho, h1⟩ := hI
    have hb : 0 ≤ x3.toInt ∧ x3.toInt ≤ 4 := hb
    have hr : τ.2 = σ.2 := hr
    have ho : ∀ k, k ≠ 1 → τ.1 k = σ.1 k := ho
    have h1 : τ.1 1 = t4 (σ.1 1) x2.toInt.toNat x1 x3.toInt.toNat := h1
    rw [F_X11_tapeNumber_2.eq_1]
    refine pt_if (fun q => pt_some (hP τ hr ho ?_)) (fun q => ?_)
    · rw [Int32.le_iff_toInt_le] at q
      simp only [Int32.reduceToInt] at q
      rw [h1, show x3.toInt.toNat = 4 by omega]
    · rw [Int32.le_iff_toInt_le] at q
      simp only [Int32.reduceToInt] at q
      have s23 : (x2 + x3).toInt = x2.toInt + x3.toInt := by rw [ti_add]; omega
      refine pt_if (fun z => absurd z (by rw [Int32.lt_iff_toInt_lt]; simp only [Int32.reduceToInt]; omega)) (fun _ => pt_if (fun z => absurd z (by rw [Int32.le_iff_toInt_le, s23]; simp only [Int32.reduceToInt]; omega)) (fun _ => ?_))
      refine pt_gR (v := 1) (by rw [hr]; exact hR 0 0 rfl) (pt_s13 ?_)
      rw [s23]
      clear s23
      have hw : 0 ≤ x3.toInt ∧ x3.toInt ≤ 100000 := by omega
      obtain ⟨m, hm, rfl⟩ := znI (x := x3) (m := 4) hb.1 (by omega)
      have em : (nI m).toInt = (m : Int) := nI_toInt (by omega)
      have em1 : (nI m + 1).toInt = (m : Int) + 1 := by rw [a1_ hw, em]
      rw [em] at h1 hb ⊢
      refine ih (nI m + 1, _) ⟨(by rw [em1]; omega : 0 ≤ (nI m + 1).toInt ∧ (nI m + 1).toInt ≤ 4), hr, fun k hk => (zI_n hk).trans (ho k hk), ?_⟩
      show (zI τ 1 _).1 1 = t4 (σ.1 1) x2.toInt.toNat x1 (nI m + 1).toInt.toNat
      rw [zI_s, em1, h1]
      funext k
      rw [upd_i]
      unfold t4
      by_cases e : k = (x2.toInt + (m : Int)).toNat
      · rw [if_pos e, if_pos (by omega)]
        unfold byt
        rw [show k - x2.toInt.toNat = m by omega]
      · rw [if_neg e]
        by_cases f : x2.toInt.toNat ≤ k ∧ k < x2.toInt.toNat + ((m : Int)).toNat
        · rw [if_pos f, if_pos (by omega)]
        · rw [if_neg f, if_neg (by omega)]
  · show σ.1 1 = t4 (σ.1 1) x2.toInt.toNat x1 (0 : Int32).toInt.toNat
    funext k
    unfold t4
    rw [if_neg (by simp only [Int32.reduceToInt]; omega)]
theorem vl_feed {x1 x2 x3 x4 x5 : Int32} (hR : RF σ.2.2) (ht : 0 ≤ (σ.1 0 1).toInt ∧ (σ.1 0 1).toInt ≤ 600) : Pt (f_X11_feed N 0 x1 x2 x3 x4 x5 σ) (fun r => r.2.1 1 = if (σ.1 0 1).toInt ≤ 580 then fdR (σ.1 1) (σ.1 0 1).toInt.toNat x1 x2 x3 x4 x5 else σ.1 1) := by
  have s20 : (σ.1 0 1 + 20).toInt = (σ.1 0 1).toInt + 20 := by rw [ti_add]; simp only [Int32.reduceToInt]; omega
  rw [f_X11_feed.eq_1]
  refine pt_gI (pt_if (fun q => absurd q (by rw [Int32.lt_iff_toInt_lt]; simp only [Int32.reduceToInt]; omega)) (fun _ => pt_gI (pt_if (fun q => ?_) (fun q => pt_some ?_))))
  · rw [Int32.le_iff_toInt_le, s20] at q
    simp only [Int32.reduceToInt] at q
    have q80 : (σ.1 0 1).toInt ≤ 580 := by omega
    have s4 : (σ.1 0 1 + 4).toInt = (σ.1 0 1).toInt + 4 := by rw [ti_add]; simp only [Int32.reduceToInt]; omega
    have s8 : (σ.1 0 1 + 8).toInt = (σ.1 0 1).toInt + 8 := by clear s4; rw [ti_add]; simp only [Int32.reduceToInt]; omega
    have s12 : (σ.1 0 1 + 12).toInt = (σ.1 0 1).toInt + 12 := by clear s4 s8; rw [ti_add]; simp only [Int32.reduceToInt]; omega
    have s16 : (σ.1 0 1 + 16).toInt = (σ.1 0 1).toInt + 16 := by clear s4 s8 s12; rw [ti_add]; simp only [Int32.reduceToInt]; omega
    clear s20
    obtain ⟨p, hp⟩ : ∃ p, p = (σ.1 0 1).toInt.toNat := ⟨_, rfl⟩
    refine pt_gI (pt_gC (pt_zb (Q := fun r => r.2.2 = σ.2 ∧ (∀ k, k ≠ 1 → r.2.1 k = σ.1 k) ∧ r.2.1 1 = t4 (σ.1 1) p x1 4) (vl_tape hR (by clear s4 s8 s12 s16; omega) (fun τ a b c => ⟨a, b, by rw [hp]; exact c⟩)) (fun _ σ1 h1 => ?_)))
    obtain ⟨r1, o1, t1⟩ := h1
    have r1 : σ1.2 = σ.2 := r1
    have o1 : ∀ k, k ≠ 1 → σ1.1 k = σ.1 k := o1
    have t1 : σ1.1 1 = t4 (σ.1 1) p x1 4 := t1
    refine pt_gI ?_
    rw [o1 0 (by decide)]
    refine pt_gC (pt_zb (Q := fun r => r.2.2 = σ.2 ∧ (∀ k, k ≠ 1 → r.2.1 k = σ.1 k) ∧ r.2.1 1 = t4 (σ1.1 1) (p + 4) x2 4) (vl_tape (by rw [r1]; exact hR) (by rw [s4]; clear s4 s8 s12 s16; omega) (fun τ a b c => ⟨a.trans r1, fun k hk => (b k hk).trans (o1 k hk), by rw [show p + 4 = (σ.1 0 1 + 4).toInt.toNat by rw [s4]; clear s4 s8 s12 s16; omega]; exact c⟩)) (fun _ σ2 h2 => ?_))
    obtain ⟨r2, o2, t2⟩ := h2
    have r2 : σ2.2 = σ.2 := r2
    have o2 : ∀ k, k ≠ 1 → σ2.1 k = σ.1 k := o2
    have t2 : σ2.1 1 = t4 (σ1.1 1) (p + 4) x2 4 := t2
    refine pt_gI ?_
    rw [o2 0 (by decide)]
    refine pt_gC (pt_zb (Q := fun r => r.2.2 = σ.2 ∧ (∀ k, k ≠ 1 → r.2.1 k = σ.1 k) ∧ r.2.1 1 = t4 (σ2.1 1) (p + 8) x3 4) (vl_tape (by rw [r2]; exact hR) (by rw [s8]; clear s4 s8 s12 s16; omega) (fun τ a b c => ⟨a.trans r2, fun k hk => (b k hk).trans (o2 k hk), by rw [show p + 8 = (σ.1 0 1 + 8).toInt.toNat by rw [s8]; clear s4 s8 s12 s16; omega]; exact c⟩)) (fun _ σ3 h3 => ?_))
    obtain ⟨r3, o3, t3⟩ := h3
    have r3 : σ3.2 = σ.2 := r3
    have o3 : ∀ k, k ≠ 1 → σ3.1 k = σ.1 k := o3
    have t3 : σ3.1 1 = t4 (σ2.1 1) (p + 8) x3 4 := t3
    refine pt_gI ?_
    rw [o3 0 (by decide)]
    refine pt_gC (pt_zb (Q := fun r => r.2.2 = σ.2 ∧ (∀ k, k ≠ 1 → r.2.1 k = σ.1 k) ∧ r.2.1 1 = t4 (σ3.1 1) (p + 12) x4 4) (vl_tape (by rw [r3]; exact hR) (by rw [s12]; clear s4 s8 s12 s16; omega) (fun τ a b c => ⟨a.trans r3, fun k hk => (b k hk).trans (o3 k hk), by rw [show p + 12 = (σ.1 0 1 + 12).toInt.toNat by rw [s12]; clear s4 s8 s12 s16; omega]; exact c⟩)) (fun _ σ4 h4 => ?_))
    obtain ⟨r4, o4, t4'⟩ := h4
    have r4 : σ4.2 = σ.2 := r4
    have o4 : ∀ k, k ≠ 1 → σ4.1 k = σ.1 k := o4
    have t4' : σ4.1 1 = t4 (σ3.1 1) (p + 12) x4 4 := t4'
    refine pt_gI ?_
    rw [o4 0 (by decide)]
    refine pt_gC (pt_zb (Q := fun r => r.2.1 1 = t4 (σ4.1 1) (p + 16) x5 4) (vl_tape (by rw [r4]; exact hR) (by rw [s16]; clear s4 s8 s12 s16; omega) (fun τ a b c => by rw [show p + 16 = (σ.1 0 1 + 16).toInt.toNat by rw [s16]; clear s4 s8 s12 s16; omega]; exact c)) (fun _ σ5 t5 => ?_))
    have t5 : σ5.1 1 = t4 (σ4.1 1) (p + 16) x5 4 := t5
    refine pt_gI (pt_pI (pt_gI (pt_some ?_)))
    show (zI σ5 0 _).1 1 = _
    rw [zI_n (by decide), if_pos q80, t5, t4', t3, t2, t1, ← hp]
    clear s4 s8 s12 s16 t1 t2 t3 t4' t5 o1 o2 o3 o4 r1 r2 r3 r4 q q80 ht hR hp
    funext k
    unfold t4 fdR
    by_cases a : p ≤ k ∧ k < p + 20
    · rw [if_pos a]
      obtain ⟨m, rfl⟩ : ∃ m, k = p + m := ⟨k - p, by omega⟩
      rw [show p + m - p = m by omega]
      rcases (show m / 4 = 0 ∨ m / 4 = 1 ∨ m / 4 = 2 ∨ m / 4 = 3 ∨ m / 4 = 4 by omega) with h | h | h | h | h
      · rw [h, if_neg (by omega), if_neg (by omega), if_neg (by omega), if_neg (by omega), if_pos (by omega), show m % 4 = m by omega]; rfl
      · rw [h, if_neg (by omega), if_neg (by omega), if_neg (by omega), if_pos (by omega), show p + m - (p + 4) = m % 4 by omega]; rfl
      · rw [h, if_neg (by omega), if_neg (by omega), if_pos (by omega), show p + m - (p + 8) = m % 4 by omega]; rfl
      · rw [h, if_neg (by omega), if_pos (by omega), show p + m - (p + 12) = m % 4 by omega]; rfl
      · rw [h, if_pos (by omega), show p + m - (p + 16) = m % 4 by omega]; rfl
    · rw [if_neg a, if_neg (by omega), if_neg (by omega), if_neg (by omega), if_neg (by omega), if_neg (by omega)]
  · rw [Int32.le_iff_toInt_le, s20] at q
    simp only [Int32.reduceToInt] at q
    rw [if_neg (by omega)]
theorem d4 : ∀ m, m < 20 → (nI m / 4).toInt = ((m / 4 : Nat) : Int) ∧ nI m - nI m / 4 * 4 = nI (m % 4) := by decide +kernel
theorem vr_feed {x1 x2 x3 x4 x5 : Int32} (hR : RF σ.2.2) (ht : 0 ≤ (σ.1 218 7).toInt ∧ (σ.1 218 7).toInt ≤ 600) : Pt (f_X12_feed N 218 x1 x2 x3 x4 x5 σ) (fun r => r.2.1 224 = if (σ.1 218 7).toInt ≤ 580 then fdR (σ.1 224) (σ.1 218 7).toInt.toNat x1 x2 x3 x4 x5 else σ.1 224) := by
  have s20 : (σ.1 218 7 + 20).toInt = (σ.1 218 7).toInt + 20 := by rw [ti_add]; simp only [Int32.reduceToInt]; omega
  rw [f_X12_feed.eq_1]
  refine pt_gI (pt_if (fun q => ?_) (fun q => pt_some ?_))
  · rw [Int32.le_iff_toInt_le, s20] at q
    simp only [Int32.reduceToInt] at q
    have q80 : (σ.1 218 7).toInt ≤ 580 := by omega
    clear s20
    refine pt_gR (v := 225) (hR 218 8 rfl) (pt_s14x (fun τ1 a1 b1 c1 => pt_gR (v := 225) (by rw [c1]; exact hR 218 8 rfl) (pt_s14x (fun τ2 a2 b2 c2 => pt_gR (v := 225) (by rw [c2, c1]; exact hR 218 8 rfl) (pt_s14x (fun τ3 a3 b3 c3 => pt_gR (v := 225) (by rw [c3, c2, c1]; exact hR 218 8 rfl) (pt_s14x (fun τ4 a4 b4 c4 => pt_gR (v := 225) (by rw [c4, c3, c2, c1]; exact hR 218 8 rfl) (pt_s14x (fun τ0 a0 b0 c0 => ?_))))))))))
    have r0 : τ0.2 = σ.2 := by rw [c0, c4, c3, c2, c1]
    have o0 : ∀ k, k ≠ 225 → τ0.1 k = σ.1 k := fun k hk => by rw [b0 k hk, b4 k hk, b3 k hk, b2 k hk, b1 k hk]
    have f0 : ∀ i, i < 5 → τ0.1 225 i = five x1 x2 x3 x4 x5 i := fun i hi => by
      rw [a0, a4, a3, a2, a1]
      rcases (show i = 0 ∨ i = 1 ∨ i = 2 ∨ i = 3 ∨ i = 4 by omega) with rfl | rfl | rfl | rfl | rfl <;> rfl
    clear a0 a1 a2 a3 a4 b0 b1 b2 b3 b4 c0 c1 c2 c3 c4
    obtain ⟨p, hp⟩ : ∃ p, p = (σ.1 218 7).toInt.toNat := ⟨_, rfl⟩
    rw [if_pos q80, ← hp]
    refine pt_lp (fun s : Int32 × zS => (0 ≤ s.1.toInt ∧ s.1.toInt ≤ 20) ∧ s.2.2 = σ.2 ∧ (s.2.1 225 = τ0.1 225 ∧ s.2.1 218 = σ.1 218) ∧ ∀ k, s.2.1 224 k = if p ≤ k ∧ k < p + s.1.toInt.toNat then byt (five x1 x2 x3 x4 x5 ((k - p) / 4)) ((k - p) % 4) else σ.1 224 k) (fun again s hI ih => ?_) N _ ⟨(by decide : 0 ≤ (0 : Int32).toInt ∧ (0 : Int32).toInt ≤ 20), r0, ⟨rfl, o0 218 (by decide)⟩, fun k => ?_⟩
    · obtain ⟨x6, τ⟩ := s
      obtain ⟨hb, hr, ⟨h5, h8⟩, h4⟩ := hI
      have hb : 0 ≤ x6.toInt ∧ x6.toInt ≤ 20 := hb
      have hr : τ.2 = σ.2 := hr
      have h5 : τ.1 225 = τ0.1 225 := h5
      have h8 : τ.1 218 = σ.1 218 := h8
      have h4 : ∀ k, τ.1 224 k = if p ≤ k ∧ k < p + x6.toInt.toNat then byt (five x1 x2 x3 x4 x5 ((k - p) / 4)) ((k - p) % 4) else σ.1 224 k := h4
      have R9 : RF τ.2.2 := by rw [hr]; exact hR
      rw [F_X12_feed_55.eq_1]
      refine pt_if (fun z => pt_gI (pt_pI (pt_gI (pt_some ?_)))) (fun z => ?_)
      · rw [Int32.le_iff_toInt_le] at z
        simp only [Int32.reduceToInt] at z
        show (zI τ 218 _).1 224 = _
        rw [zI_n (by decide)]
        funext k
        rw [h4 k, show x6.toInt.toNat = 20 by omega]; rfl
      · rw [Int32.le_iff_toInt_le] at z
        simp only [Int32.reduceToInt] at z
        have hw : 0 ≤ x6.toInt ∧ x6.toInt ≤ 100000 := by omega
        obtain ⟨m, hm, rfl⟩ := znI (x := x6) (m := 20) hb.1 (by omega)
        have em : (nI m).toInt = (m : Int) := nI_toInt (by omega)
        have em1 : (nI m + 1).toInt = (m : Int) + 1 := by rw [a1_ hw, em]
        rw [em] at h4 hb
        have s7 : (σ.1 218 7 + nI m).toInt = (σ.1 218 7).toInt + (m : Int) := by rw [ti_add, em]; omega
        refine pt_gR (v := 224) (R9 218 6 rfl) (pt_gI (pt_gR (v := 225) (R9 218 8 rfl) (pt_nz (pt_aI (pt_nz (pt_s13 ?_))))))
        rw [h8, s7, (d4 m hm).1, (d4 m hm).2, h5]
        have e5 : τ0.1 225 (((m / 4 : Nat) : Int)).toNat = five x1 x2 x3 x4 x5 (m / 4) := f0 (m / 4) (by omega)
        rw [e5]
        refine ih (nI m + 1, _) ⟨(by rw [em1]; omega : 0 ≤ (nI m + 1).toInt ∧ (nI m + 1).toInt ≤ 20), hr, ⟨(zI_n (by decide)).trans h5, (zI_n (by decide)).trans h8⟩, fun k => ?_⟩
        show (zI τ 224 _).1 224 k = if p ≤ k ∧ k < p + (nI m + 1).toInt.toNat then byt (five x1 x2 x3 x4 x5 ((k - p) / 4)) ((k - p) % 4) else σ.1 224 k
        rw [zI_s, em1, upd_i, h4 k, ← byt_s _ (show m % 4 < 4 by omega)]
        clear s7 em1
        by_cases e : k = ((σ.1 218 7).toInt + (m : Int)).toNat
        · rw [if_pos e, if_pos (by omega), show k - p = m by omega]; rfl
        · rw [if_neg e]
          by_cases f : p ≤ k ∧ k < p + ((m : Int)).toNat
          · rw [if_pos f, if_pos (by omega)]
          · rw [if_neg f, if_neg (by omega)]
    · show τ0.1 224 k = if p ≤ k ∧ k < p + (0 : Int32).toInt.toNat then _ else _
      rw [if_neg (by simp only [Int32.reduceToInt]; omega), o0 224 (by decide)]
  · rw [Int32.le_iff_toInt_le, s20] at q
    simp only [Int32.reduceToInt] at q
    rw [if_neg (by omega)]
end FEED

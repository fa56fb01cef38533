/-! ===== families: by names ===== -/
section FAM2
variable {N x0 x1 : Nat} {σ : zS} {k : Nat}
theorem k_nn (hk : k < 10) : ¬ nI k < 0 := by
  rw [Int32.lt_iff_toInt_lt, (sh1 k hk).2]
  simp only [Int32.reduceToInt]
  omega
theorem k_10 (hk : k < 10) : nI k < 10 := by
  rw [Int32.lt_iff_toInt_lt, (sh1 k hk).2]
  simp only [Int32.reduceToInt]
  omega
theorem k_6 (hk : k < 10) : 6 ≤ nI k ↔ 6 ≤ k := by
  rw [Int32.le_iff_toInt_le, (sh1 k hk).2]
  simp only [Int32.reduceToInt]
  omega
theorem v_raise (hR : RF σ.2.2) (h0 : (zKd x0).1 = 2) (hk : k < 10) : Pt (f_X2_raise N x0 (nI k) σ) (fun r => LF (x0 + 1) σ r.2 ∧ ∀ u, u < 1024 → bt (r.2.2.1 (x0 + 1)) u = (bt (σ.2.1 (x0 + 1)) u || (u.testBit k && bt (σ.2.1 (x0 + 1)) (u ^^^ 2 ^ k)))) := by
  rw [f_X2_raise.eq_1]
  refine pt_if (fun q => absurd q (k_nn hk)) (fun _ => pt_if (fun _ => pt_if (fun q => ?_) (fun q => ?_)) (fun q => absurd (k_10 hk) q))
  · have q := (k_6 hk).mp q
    obtain ⟨m, rfl⟩ : ∃ m, k = m + 6 := ⟨k - 6, by omega⟩
    have hm : m < 4 := by omega
    rw [sh6 m hm]
    refine pt_w (v_raise66 hR h0 hm) (fun r h => ⟨h.1, fun u hu => ?_⟩)
    have f := fx10 m hm u hu
    unfold bt
    rw [h.2 _ (by omega), f.1, f.2.1, ← f.2.2.1]
    cases (u / 64).testBit m with
    | true => rw [if_pos rfl, Int64.toBitVec_or, BitVec.getLsbD_or, Bool.true_and]
    | false => rw [if_neg (by simp), Bool.false_and, Bool.or_false]
  · exact v_raise19 hR h0 (by have := (show ¬ 6 ≤ k from fun y => q ((k_6 hk).mpr y)); omega)
theorem v_lower (hR : RF σ.2.2) (h0 : (zKd x0).1 = 2) (hk : k < 10) : Pt (f_X2_lower N x0 (nI k) σ) (fun r => LF (x0 + 1) σ r.2 ∧ ∀ u, u < 1024 → bt (r.2.2.1 (x0 + 1)) u = (bt (σ.2.1 (x0 + 1)) u || (!u.testBit k && bt (σ.2.1 (x0 + 1)) (u ^^^ 2 ^ k)))) := by
  rw [f_X2_lower.eq_1]
  refine pt_if (fun q => absurd q (k_nn hk)) (fun _ => pt_if (fun _ => pt_if (fun q => ?_) (fun q => ?_)) (fun q => absurd (k_10 hk) q))
  · have q := (k_6 hk).mp q
    obtain ⟨m, rfl⟩ : ∃ m, k = m + 6 := ⟨k - 6, by omega⟩
    have hm : m < 4 := by omega
    rw [sh6 m hm]
    refine pt_w (v_lower66 hR h0 hm) (fun r h => ⟨h.1, fun u hu => ?_⟩)
    have f := fx10 m hm u hu
    unfold bt
    rw [h.2 _ (by omega), f.1, f.2.1, ← f.2.2.1]
    cases (u / 64).testBit m with
    | false => rw [if_pos rfl, Int64.toBitVec_or, BitVec.getLsbD_or]; simp
    | true => rw [if_neg (by simp)]; simp
  · exact v_lower19 hR h0 (by have := (show ¬ 6 ≤ k from fun y => q ((k_6 hk).mpr y)); omega)
theorem v_flip (hR : RF σ.2.2) (h0 : (zKd x0).1 = 2) (hk : k < 10) : Pt (f_X2_flip N x0 (nI k) σ) (fun r => LF (x0 + 1) σ r.2 ∧ ∀ u, u < 1024 → bt (r.2.2.1 (x0 + 1)) u = bt (σ.2.1 (x0 + 1)) (u ^^^ 2 ^ k)) := by
  rw [f_X2_flip.eq_1]
  refine pt_if (fun q => absurd q (k_nn hk)) (fun _ => pt_if (fun _ => pt_if (fun q => ?_) (fun q => ?_)) (fun q => absurd (k_10 hk) q))
  · have q := (k_6 hk).mp q
    obtain ⟨m, rfl⟩ : ∃ m, k = m + 6 := ⟨k - 6, by omega⟩
    have hm : m < 4 := by omega
    rw [sh6 m hm]
    refine pt_w (v_flip80 hR h0 hm) (fun r h => ⟨h.1, fun u hu => ?_⟩)
    have f := fx10 m hm u hu
    unfold bt
    rw [h.2 _ (by omega), f.1, f.2.1]
  · have h6 : k < 6 := by have := (show ¬ 6 ≤ k from fun y => q ((k_6 hk).mpr y)); omega
    rw [(sh1 k hk).1]
    exact v_flip23 hR h0 h6
theorem kx : ∀ k, k < 4 → ∀ m, m < 16 → ((((nI m) >>> ((nI (k + 6) - 6) &&& 31)) &&& 1) = 0 ↔ m.testBit k = false) := by decide +kernel
theorem v_keepWithout (hR : RF σ.2.2) (h0 : (zKd x0).1 = 2) (hk : k < 10) : Pt (f_X2_keepWithout N x0 (nI k) σ) (fun r => LF (x0 + 1) σ r.2 ∧ ∀ u, u < 1024 → bt (r.2.2.1 (x0 + 1)) u = (bt (σ.2.1 (x0 + 1)) u && !u.testBit k)) := by
  rw [f_X2_keepWithout.eq_1]
  refine pt_if (fun q => absurd q (k_nn hk)) (fun _ => pt_if (fun _ => ?_) (fun q => absurd (k_10 hk) q))
  by_cases q : 6 ≤ k
  · obtain ⟨m, rfl⟩ : ∃ m, k = m + 6 := ⟨k - 6, by omega⟩
    have hm : m < 4 := by omega
    refine pt_w (Q := fun r => LF (x0 + 1) σ r.2 ∧ ∀ j, j < 16 → r.2.2.1 (x0 + 1) j = if j.testBit m = true then 0 else σ.2.1 (x0 + 1) j) ?_ (fun r h => ⟨h.1, fun u hu => ?_⟩)
    · refine pt_lp (fun s : Int32 × zS => (0 ≤ s.1.toInt ∧ s.1.toInt ≤ 16) ∧ LF (x0 + 1) σ s.2 ∧ ∀ j, s.2.2.1 (x0 + 1) j = if j.testBit m = true ∧ (j : Int) < s.1.toInt then 0 else σ.2.1 (x0 + 1) j) (fun again s hI ih => ?_) N _ ⟨(by decide : 0 ≤ (0 : Int32).toInt ∧ (0 : Int32).toInt ≤ 16), LF.rf, fun j => by rw [if_neg (by simp only [Int32.reduceToInt]; omega)]⟩
      obtain ⟨x2, τ⟩ := s
      obtain ⟨hb, hl, hj⟩ := hI
      have hb : 0 ≤ x2.toInt ∧ x2.toInt ≤ 16 := hb
      have hl : LF (x0 + 1) σ τ := hl
      have hj : ∀ j, τ.2.1 (x0 + 1) j = if j.testBit m = true ∧ (j : Int) < x2.toInt then 0 else σ.2.1 (x0 + 1) j := hj
      have r0 := (fam_R (hl.R hR) h0).1
      rw [F_X2_keepWithout_13.eq_1]
      refine pt_if (fun z => pt_some ⟨hl, fun j h => ?_⟩) (fun z => ?_)
      · rw [Int32.le_iff_toInt_le] at z
        simp only [Int32.reduceToInt] at z
        show τ.2.1 (x0 + 1) j = _
        rw [hj]
        by_cases c : j.testBit m = true
        · rw [if_pos ⟨c, by omega⟩, if_pos c]
        · rw [if_neg (fun y => c y.1), if_neg c]
      · rw [Int32.le_iff_toInt_le] at z
        simp only [Int32.reduceToInt] at z
        have hw : 0 ≤ x2.toInt ∧ x2.toInt ≤ 100000 := by omega
        have hb1 : 0 ≤ (x2 + 1).toInt ∧ (x2 + 1).toInt ≤ 16 := by rw [a1_ hw]; omega
        obtain ⟨y, hy, rfl⟩ := znI (x := x2) (m := 16) hb.1 (by omega)
        have em : (nI y).toInt = (y : Int) := nI_toInt (by omega)
        have e1 : (nI y + 1).toInt = (y : Int) + 1 := by rw [a1_ hw, em]
        rw [em] at hj
        refine pt_if (fun _ => pt_if (fun c => ?_) (fun c => ?_)) (fun c => absurd ((k_6 hk).mpr q) c)
        · have c := (kx m hm y hy).mp c
          refine ih (nI y + 1, τ) ⟨hb1, hl, fun j => ?_⟩
          show τ.2.1 (x0 + 1) j = if j.testBit m = true ∧ (j : Int) < (nI y + 1).toInt then 0 else σ.2.1 (x0 + 1) j
          rw [hj, e1]
          clear e1 hb1
          by_cases d : j.testBit m = true ∧ (j : Int) < (y : Int)
          · rw [if_pos d, if_pos ⟨d.1, by omega⟩]
          · have ne : j.testBit m = true → j ≠ y := fun a b => by rw [b, c] at a; cases a
            rw [if_neg d, if_neg (fun w => d ⟨w.1, by have := ne w.1; omega⟩)]
        · have c : y.testBit m = true := by
            cases hh : y.testBit m with
            | true => rfl
            | false => exact absurd ((kx m hm y hy).mpr hh) c
          refine pt_gR (v := x0 + 1) r0 (pt_sJ (ih (nI y + 1, _) ⟨hb1, hl.sJ, fun j => ?_⟩))
          show (zJ τ (x0 + 1) _).2.1 (x0 + 1) j = if j.testBit m = true ∧ (j : Int) < (nI y + 1).toInt then 0 else σ.2.1 (x0 + 1) j
          rw [zJ_s, updL_i, em, Int.toNat_natCast, hj, e1]
          clear e1 hb1
          by_cases e : j = y
          · rw [if_pos e, e, if_pos ⟨c, by omega⟩]
          · rw [if_neg e]
            by_cases d : j.testBit m = true ∧ (j : Int) < (y : Int)
            · rw [if_pos d, if_pos ⟨d.1, by omega⟩]
            · rw [if_neg d, if_neg (fun w => d ⟨w.1, by omega⟩)]
    · have f := fx10 m hm u hu
      unfold bt
      rw [h.2 _ (by omega), ← f.2.2.1]
      cases (u / 64).testBit m with
      | true => rw [if_pos rfl]; simp
      | false => rw [if_neg (by simp)]; simp
  · exact v_keep13 hR h0 (by omega)
theorem allb : ∀ n, n < 6 → ∀ j, j < 64 → ((zsl 1 ((1 : Int32) <<< (nI n &&& 31))) - 1).toBitVec.getLsbD j = decide (j < 2 ^ n) := by decide +kernel
/-- all sets of the names -/
theorem v_becomeAll (hR : RF σ.2.2) (h0 : (zKd x0).1 = 2) (hk : k ≤ 10) : Pt (f_X2_becomeAll N x0 (nI k) σ) (fun r => LF (x0 + 1) σ r.2 ∧ ∀ u, u < 1024 → bt (r.2.2.1 (x0 + 1)) u = decide (u < 2 ^ k)) := by
  have ek : (nI k).toInt = (k : Int) := nI_toInt (by omega)
  rw [f_X2_becomeAll.eq_1]
  have f := fam_R hR h0
  refine pt_gC (pt_zb (Q := fun r => LF (x0 + 1) σ r.2 ∧ ∀ j, j < 16 → r.2.2.1 (x0 + 1) j = 0) ?_ (fun _ σ1 h1 => ?_))
  · rw [f_X2_clear.eq_1]
    exact pt_gR (v := x0 + 1) f.1 (pt_zb (Q := fun r => LF (x0 + 1) σ r.2 ∧ ∀ j, j < 16 → r.2.2.1 (x0 + 1) j = 0) (v_fill f.2 (fun τ a b => ⟨a, b⟩)) (fun _ σ1 h => pt_some h))
  obtain ⟨l1, z1⟩ := h1
  have l1 : LF (x0 + 1) σ σ1 := l1
  have z1 : ∀ j, j < 16 → σ1.2.1 (x0 + 1) j = 0 := z1
  have R1 := l1.R hR
  refine pt_if (fun q => ?_) (fun q => ?_)
  · rw [Int32.le_iff_toInt_le, ek] at q
    simp only [Int32.reduceToInt] at q
    obtain ⟨m, rfl⟩ : ∃ m, k = m + 6 := ⟨k - 6, by omega⟩
    have hm : m < 5 := by omega
    have sm : ((1 : Int32) <<< ((nI (m + 6) - 6) &&& 31)).toInt = ((2 ^ m : Nat) : Int) := (by decide +kernel : ∀ m, m < 5 → ((1 : Int32) <<< ((nI (m + 6) - 6) &&& 31)).toInt = ((2 ^ m : Nat) : Int)) m hm
    have p16 : 2 ^ m ≤ 16 := (by decide : ∀ m, m < 5 → 2 ^ m ≤ 16) m hm
    refine pt_w (Q := fun r => LF (x0 + 1) σ r.2 ∧ ∀ j, j < 16 → r.2.2.1 (x0 + 1) j = if j < 2 ^ m then -1 else 0) ?_ (fun r h => ⟨h.1, fun u hu => ?_⟩)
    · refine pt_lp (fun s : Int32 × zS => (0 ≤ s.1.toInt ∧ s.1.toInt ≤ 16) ∧ LF (x0 + 1) σ s.2 ∧ ∀ j, j < 16 → s.2.2.1 (x0 + 1) j = if j < 2 ^ m ∧ (j : Int) < s.1.toInt then -1 else 0) (fun again s hI ih => ?_) N _ ⟨(by decide : 0 ≤ (0 : Int32).toInt ∧ (0 : Int32).toInt ≤ 16), l1, fun j hj => by rw [if_neg (by simp only [Int32.reduceToInt]; omega)]; exact z1 j hj⟩
      obtain ⟨x2, τ⟩ := s
      obtain ⟨hb, hl, hj⟩ := hI
      have hb : 0 ≤ x2.toInt ∧ x2.toInt ≤ 16 := hb
      have hl : LF (x0 + 1) σ τ := hl
      have hj : ∀ j, j < 16 → τ.2.1 (x0 + 1) j = if j < 2 ^ m ∧ (j : Int) < x2.toInt then -1 else 0 := hj
      have r0 := (fam_R (hl.R hR) h0).1
      have fin : ((2 ^ m : Nat) : Int) ≤ x2.toInt → Pt (some ((), τ)) (fun r => LF (x0 + 1) σ r.2 ∧ ∀ j, j < 16 → r.2.2.1 (x0 + 1) j = if j < 2 ^ m then -1 else 0) := fun z => pt_some ⟨hl, fun j h => by
        show τ.2.1 (x0 + 1) j = _
        rw [hj j h]
        by_cases c : j < 2 ^ m
        · rw [if_pos ⟨c, by omega⟩, if_pos c]
        · rw [if_neg (fun y => c y.1), if_neg c]⟩
      rw [F_X2_becomeAll_26.eq_1]
      refine pt_if (fun z => fin (by rw [Int32.le_iff_toInt_le] at z; simp only [Int32.reduceToInt] at z; omega)) (fun z => pt_if (fun z2 => fin (by rw [Int32.le_iff_toInt_le, sm] at z2; exact z2)) (fun z2 => ?_))
      rw [Int32.le_iff_toInt_le] at z
      rw [Int32.le_iff_toInt_le, sm] at z2
      simp only [Int32.reduceToInt] at z
      have hw : 0 ≤ x2.toInt ∧ x2.toInt ≤ 100000 := by omega
      have hb1 : 0 ≤ (x2 + 1).toInt ∧ (x2 + 1).toInt ≤ 16 := by rw [a1_ hw]; omega
      refine pt_gR (v := x0 + 1) r0 (pt_sJ (ih (x2 + 1, _) ⟨hb1, hl.sJ, fun j h => ?_⟩))
      show (zJ τ (x0 + 1) _).2.1 (x0 + 1) j = if j < 2 ^ m ∧ (j : Int) < (x2 + 1).toInt then -1 else 0
      rw [zJ_s, updL_i, hj j h, a1_ hw]
      clear hb1
      by_cases e : j = x2.toInt.toNat
      · rw [if_pos e, if_pos (by omega)]
      · rw [if_neg e]
        by_cases c : j < 2 ^ m ∧ (j : Int) < x2.toInt
        · rw [if_pos c, if_pos ⟨c.1, by omega⟩]
        · rw [if_neg c, if_neg (fun y => c ⟨y.1, by omega⟩)]
    · have e : u / 64 < 2 ^ m ↔ u < 2 ^ (m + 6) := by
        rw [Nat.pow_add]
        have : (2 : Nat) ^ 6 = 64 := rfl
        rw [this]
        generalize 2 ^ m = p
        omega
      unfold bt
      rw [h.2 _ (by omega)]
      by_cases c : u / 64 < 2 ^ m
      · rw [if_pos c, decide_eq_true (e.mp c)]
        have : (-1 : Int64).toBitVec = BitVec.allOnes 64 := rfl
        rw [this, BitVec.getLsbD_allOnes, decide_eq_true (by omega)]
      · rw [if_neg c, decide_eq_false (fun z => c (e.mpr z))]
        exact BitVec.getLsbD_zero
  · rw [Int32.le_iff_toInt_le, ek] at q
    simp only [Int32.reduceToInt] at q
    refine pt_gR (v := x0 + 1) (fam_R R1 h0).1 (pt_sJ (pt_some ⟨l1.sJ, fun u hu => ?_⟩))
    show bt ((zJ σ1 (x0 + 1) _).2.1 (x0 + 1)) u = _
    rw [zJ_s]
    unfold bt
    rw [updL_i]
    have p32 : 2 ^ k ≤ 32 := (by decide : ∀ m, m < 6 → 2 ^ m ≤ 32) k (by omega)
    have z0 : (Int32.toInt 0).toNat = 0 := rfl
    rw [z0]
    by_cases e : u / 64 = 0
    · rw [if_pos e, allb k (by omega) _ (by omega), show u % 64 = u by omega]
    · rw [if_neg e, z1 _ (by omega), decide_eq_false (by omega)]
      exact BitVec.getLsbD_zero
theorem bt_eq {w v : Nat → Int64} : (∀ j, j < 16 → w j = v j) ↔ ∀ u, u < 1024 → bt w u = bt v u := by
  constructor
  · intro h u hu
    unfold bt
    rw [h _ (by omega)]
  · intro h j hj
    apply Int64.toBitVec_inj.mp
    apply BitVec.eq_of_getLsbD_eq
    intro i hi
    have := h (64 * j + i) (by omega)
    unfold bt at this
    rw [show (64 * j + i) / 64 = j by omega, show (64 * j + i) % 64 = i by omega] at this
    exact this
theorem v_sameAs (hR : RF σ.2.2) (h0 : (zKd x0).1 = 2) (h1 : (zKd x1).1 = 2) : Px (f_X2_sameAs N x0 x1 σ) σ (fun v => (v = 0 ∨ v = 1) ∧ (v = 1 ↔ ∀ u, u < 1024 → bt (σ.2.1 (x0 + 1)) u = bt (σ.2.1 (x1 + 1)) u)) := by
  have r0 := (fam_R hR h0).1
  have r1 := (fam_R hR h1).1
  rw [f_X2_sameAs.eq_1]
  refine pt_lp (fun s : Int32 × zS => (0 ≤ s.1.toInt ∧ s.1.toInt ≤ 16) ∧ s.2 = σ ∧ ∀ j : Nat, (j : Int) < s.1.toInt → σ.2.1 (x0 + 1) j = σ.2.1 (x1 + 1) j) (fun again s hI ih => ?_) N _ ⟨(by decide : 0 ≤ (0 : Int32).toInt ∧ (0 : Int32).toInt ≤ 16), rfl, fun j hj => absurd hj (by show ¬ (j : Int) < (0 : Int32).toInt; simp only [Int32.reduceToInt]; omega)⟩
  obtain ⟨x2, τ⟩ := s
  obtain ⟨hb, e, hj⟩ := hI
  have hb : 0 ≤ x2.toInt ∧ x2.toInt ≤ 16 := hb
  have e : τ = σ := e
  subst e
  have hj : ∀ j : Nat, (j : Int) < x2.toInt → τ.2.1 (x0 + 1) j = τ.2.1 (x1 + 1) j := hj
  rw [F_X2_sameAs_2.eq_1]
  refine pt_if (fun q => pt_rZ ⟨rfl, Or.inr rfl, fun _ => ?_, fun _ => rfl⟩) (fun q => ?_)
  · rw [Int32.le_iff_toInt_le] at q
    simp only [Int32.reduceToInt] at q
    exact bt_eq.mp (fun j h => hj j (by omega))
  · rw [Int32.le_iff_toInt_le] at q
    simp only [Int32.reduceToInt] at q
    have hw : 0 ≤ x2.toInt ∧ x2.toInt ≤ 100000 := by omega
    have hb1 : 0 ≤ (x2 + 1).toInt ∧ (x2 + 1).toInt ≤ 16 := by rw [a1_ hw]; omega
    refine pt_gR (v := x0 + 1) r0 (pt_aJ (pt_gR (v := x1 + 1) r1 (pt_aJ (pt_if (fun z => ih (x2 + 1, τ) ⟨hb1, rfl, fun j h => ?_⟩) (fun z => pt_rZ ⟨rfl, Or.inl rfl, fun y => absurd (show (0 : Int32) = 1 from y) (by decide), fun y => ?_⟩)))))
    · have h : (j : Int) < (x2 + 1).toInt := h
      rw [a1_ hw] at h
      clear hb1
      by_cases e : j = x2.toInt.toNat
      · rw [e]; exact cmp0.mp z
      · exact hj j (by omega)
    · exact absurd (cmp0.mpr (bt_eq.mpr y _ (by omega))) z
theorem v_isEmpty (hR : RF σ.2.2) (h0 : (zKd x0).1 = 2) : Px (f_X2_isEmpty N x0 σ) σ (fun v => (v = 0 ∨ v = 1) ∧ (v = 1 ↔ ∀ u, u < 1024 → bt (σ.2.1 (x0 + 1)) u = false)) := by
  have r0 := (fam_R hR h0).1
  have z0 : ∀ w : Nat → Int64, (∀ j, j < 16 → w j = 0) ↔ ∀ u, u < 1024 → bt w u = false := fun w => by
    have := bt_eq (w := w) (v := fun _ => 0)
    refine this.trans ⟨fun h u hu => ?_, fun h u hu => ?_⟩
    · rw [h u hu]; exact BitVec.getLsbD_zero
    · rw [h u hu]; exact BitVec.getLsbD_zero.symm
  rw [f_X2_isEmpty.eq_1]
  refine pt_lp (fun s : Int32 × zS => (0 ≤ s.1.toInt ∧ s.1.toInt ≤ 16) ∧ s.2 = σ ∧ ∀ j : Nat, (j : Int) < s.1.toInt → σ.2.1 (x0 + 1) j = 0) (fun again s hI ih => ?_) N _ ⟨(by decide : 0 ≤ (0 : Int32).toInt ∧ (0 : Int32).toInt ≤ 16), rfl, fun j hj => absurd hj (by show ¬ (j : Int) < (0 : Int32).toInt; simp only [Int32.reduceToInt]; omega)⟩
  obtain ⟨x2, τ⟩ := s
  obtain ⟨hb, e, hj⟩ := hI
  have hb : 0 ≤ x2.toInt ∧ x2.toInt ≤ 16 := hb
  have e : τ = σ := e
  subst e
  have hj : ∀ j : Nat, (j : Int) < x2.toInt → τ.2.1 (x0 + 1) j = 0 := hj
  rw [F_X2_isEmpty_2.eq_1]
  refine pt_if (fun q => pt_rZ ⟨rfl, Or.inr rfl, fun _ => ?_, fun _ => rfl⟩) (fun q => ?_)
  · rw [Int32.le_iff_toInt_le] at q
    simp only [Int32.reduceToInt] at q
    exact (z0 _).mp (fun j h => hj j (by omega))
  · rw [Int32.le_iff_toInt_le] at q
    simp only [Int32.reduceToInt] at q
    have hw : 0 ≤ x2.toInt ∧ x2.toInt ≤ 100000 := by omega
    have hb1 : 0 ≤ (x2 + 1).toInt ∧ (x2 + 1).toInt ≤ 16 := by rw [a1_ hw]; omega
    refine pt_gR (v := x0 + 1) r0 (pt_aJ (pt_if (fun z => ih (x2 + 1, τ) ⟨hb1, rfl, fun j h => ?_⟩) (fun z => pt_rZ ⟨rfl, Or.inl rfl, fun y => absurd (show (0 : Int32) = 1 from y) (by decide), fun y => ?_⟩)))
    · have h : (j : Int) < (x2 + 1).toInt := h
      rw [a1_ hw] at h
      clear hb1
      by_cases e : j = x2.toInt.toNat
      · rw [e]; exact cmp0.mp z
      · exact hj j (by omega)
    · exact absurd (cmp0.mpr ((z0 _).mpr y _ (by omega))) z
end FAM2

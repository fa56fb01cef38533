/-! ===== takes: a slot's row as a family ===== -/
section TAKES
variable {N B : Nat} {σ τ : zS} {x1 x2 : Int32}
/-- all numbers of a row are sets -/
def tkN (g : Nat → Int64) (L M : Nat) : Prop := ∀ j, j < L → 0 ≤ (g j).toInt ∧ (g j).toInt < (M : Int)
/-- the sets of a row -/
def tkS (g : Nat → Int64) (L u : Nat) : Prop := ∃ j, j < L ∧ (g j).toInt = (u : Int)
/-- what a taking answers and leaves -/
def tkQ (a : Prop) (len : Int32) (g : Nat → Int64) (M : Nat) (v : Int32) (same new : Prop) : Prop := (¬ a → v = -2 ∧ same) ∧ (a → (len.toInt < 0 → v = -6 ∧ same) ∧ (0 ≤ len.toInt → (¬ tkN g len.toInt.toNat M → v = -2 ∧ same) ∧ (tkN g len.toInt.toNat M → new)))
theorem ti64_32 {x : Int64} (h : 0 ≤ x.toInt ∧ x.toInt < 1024) : Int64.toInt32 x = nI x.toInt.toNat := by
  apply Int32.toInt_inj.mp
  rw [nI_toInt (by omega), Int64.toInt_toInt32]
  have e2 : ((2 ^ 32 : Nat) : Int) = 4294967296 := rfl
  rw [Int.bmod_def, e2]
  split <;> omega
theorem zsl1 : ∀ n, n < 11 → (zsl 1 (nI n)).toInt = ((2 ^ n : Nat) : Int) := by decide +kernel
theorem vl_takes_ (hB : isWc B) (hR : RF σ.2.2) (h4 : σ.2.2 0 4 = B) (hn : 0 ≤ (σ.1 B 0).toInt ∧ (σ.1 B 0).toInt ≤ 10) (hS : SI σ.1) : Pt (f_X11_takes N 0 x1 x2 σ) (fun r => tkQ (isR (σ.1 B 0) x1 ∧ isL x2) (σ.1 (210 + 2 * x2.toInt.toNat) 2) (σ.2.1 (210 + 2 * x2.toInt.toNat + 1)) (mn (σ.1 B 0)) r.1 (LW σ r.2) (CM σ r.2 r.1 B x1.toInt.toNat (tkS (σ.2.1 (210 + 2 * x2.toInt.toNat + 1)) (σ.1 (210 + 2 * x2.toInt.toNat) 2).toInt.toNat))) := by
  rw [f_X11_takes.eq_1]
  refine pt_gC (pt_zbq (vl_isRegister h4) (fun v hv => pt_if (fun q => pt_some ⟨fun _ => ⟨rfl, fun _ _ => rfl⟩, fun z => absurd z.1 (hv.1 q)⟩) (fun q1 => ?_)))
  refine pt_gC (pt_zbq vl_isSlot (fun v3 hv3 => pt_if (fun q => pt_some ⟨fun _ => ⟨rfl, fun _ _ => rfl⟩, fun z => absurd z.2 (hv3.1 q)⟩) (fun q3 => ?_)))
  have r1 := hv.2 q1
  have r3 := hv3.2 q3
  have ha : isR (σ.1 B 0) x1 ∧ isL x2 := ⟨r1, r3⟩
  obtain ⟨p, hp, rfl⟩ := isR_n r1
  obtain ⟨s, hs, rfl⟩ := isL_n r3
  obtain ⟨n, en, n0, n10⟩ := world_n r1.1 hn.2
  have pn := p2le n10
  rw [iN (m := p) (by omega), iN (m := s) (by omega)]
  have hb := hS (210 + 2 * s) (k9 hs)
  have kr := slot_R hR (k9 hs)
  have no : ∀ (τ : zS), ¬ tkN (σ.2.1 (210 + 2 * s + 1)) (σ.1 (210 + 2 * s) 2).toInt.toNat (mn (σ.1 B 0)) → 0 ≤ (σ.1 (210 + 2 * s) 2).toInt → LF 129 σ τ → Pt (some ((-2 : Int32), τ)) (fun r => tkQ (isR (σ.1 B 0) (nI p) ∧ isL (nI s)) (σ.1 (210 + 2 * s) 2) (σ.2.1 (210 + 2 * s + 1)) (mn (σ.1 B 0)) r.1 (LW σ r.2) (CM σ r.2 r.1 B p (tkS (σ.2.1 (210 + 2 * s + 1)) (σ.1 (210 + 2 * s) 2).toInt.toNat))) := fun τ h h0 lf => pt_some ⟨fun z => absurd ha z, fun _ => ⟨fun z => absurd h0 (by omega), fun _ => ⟨fun _ => ⟨rfl, fun a w => lf.2.2 a (lw_no w).2.1⟩, fun z => absurd z h⟩⟩⟩
  refine pt_slot hR hs (pt_gC (pt_zbq vl_isBare (fun v7 hv7 => pt_if (fun z7 => ?_) (fun z7 => pt_some ⟨fun z => absurd ha z, fun _ => ⟨fun _ => ⟨rfl, fun _ _ => rfl⟩, fun z => absurd (hv7.2 z7) (by omega)⟩⟩))))
  have l0 := hv7.1 z7
  refine pt_gR (v := 128) (hR 0 17 rfl) (pt_gC (pt_zb (v_clear hR k128.1) (fun _ σ1 h => ?_)))
  obtain ⟨l1, e1⟩ := h
  have l1 : LF 129 σ σ1 := l1
  have e1 : ∀ u, u < 1024 → bt (σ1.2.1 129) u = false := e1
  obtain ⟨L, hL⟩ : ∃ L, L = (σ.1 (210 + 2 * s) 2).toInt.toNat := ⟨_, rfl⟩
  rw [← hL] at no ⊢
  have elen : σ.1 (210 + 2 * s) 2 = nI L := Int32.toInt_inj.mp (by rw [nI_toInt (by omega)]; omega)
  refine pt_lp (fun x : Int32 × zS => ∃ m, (x.1 = nI m ∧ m ≤ L) ∧ LF 129 σ x.2 ∧ (∀ j, j < m → 0 ≤ (σ.2.1 (210 + 2 * s + 1) j).toInt ∧ (σ.2.1 (210 + 2 * s + 1) j).toInt < ((2 ^ n : Nat) : Int)) ∧ ∀ u, u < 1024 → (bt (x.2.2.1 129) u = true ↔ tkS (σ.2.1 (210 + 2 * s + 1)) m u)) (fun again x hI ih => ?_) N _ ⟨0, ⟨rfl, Nat.zero_le _⟩, l1, fun j hj => absurd hj (Nat.not_lt_zero _), fun u hu => by rw [e1 u hu]; exact ⟨fun z => (by cases z), fun ⟨j, hj, _⟩ => absurd hj (Nat.not_lt_zero _)⟩⟩
  obtain ⟨x5, τ⟩ := x
  obtain ⟨m, ⟨e, hm5⟩, lf, hd, hu⟩ := hI
  have e : x5 = nI m := e
  subst e
  have lf : LF 129 σ τ := lf
  have hu : ∀ u, u < 1024 → (bt (τ.2.1 129) u = true ↔ tkS (σ.2.1 (210 + 2 * s + 1)) m u) := hu
  have R9 := lf.R hR
  have h49 : τ.2.2 0 4 = B := by rw [lf.2.1]; exact h4
  have n9 : τ.1 B 0 = nI n := by rw [lf.1]; exact en
  rw [F_X11_takes_46.eq_1]
  refine pt_gI ?_
  rw [show τ.1 (210 + 2 * s) 2 = nI L by rw [lf.1]; exact elen]
  refine pt_if (fun q => ?_) (fun q => ?_)
  · rw [nlt (by omega) (by omega)] at q
    have em : m = L := by omega
    subst em
    refine pt_gC (pt_zb (vl_store hB R9 h49 hp (by rw [n9, nI_toInt (by omega)]; omega)) (fun v σ4 h => pt_some ⟨fun z => absurd ha z, fun _ => ⟨fun z => absurd l0 (by omega), fun _ => ⟨fun z => absurd (fun j hj => ?_) z, fun _ => ?_⟩⟩⟩))
    · rw [hL] at hd
      rw [en, mnn n0 n10]; exact hd j hj
    · exact CM_st hB hp (fun a ha => lf.2.2 a (lw_no ha).2.1) hu h
  · rw [nlt (by omega) (by omega)] at q
    have ek : τ.2.1 (210 + 2 * s + 1) = σ.2.1 (210 + 2 * s + 1) := lf.2.2 _ (by omega)
    refine pt_gR (v := 210 + 2 * s + 1) (by rw [lf.2.1]; exact kr.1) (pt_aJ ?_)
    rw [ek, iN (m := m) (by omega)]
    have bad : ¬ (0 ≤ (σ.2.1 (210 + 2 * s + 1) m).toInt ∧ (σ.2.1 (210 + 2 * s + 1) m).toInt < ((2 ^ n : Nat) : Int)) → ¬ tkN (σ.2.1 (210 + 2 * s + 1)) L (mn (σ.1 B 0)) := fun z w => z (by
      have := w m (by omega)
      rw [en, mnn n0 n10] at this
      exact this)
    refine pt_if (fun z => no τ (bad (fun w => ?_)) l0 lf) (fun z => ?_)
    · rw [zcmp_lt] at z
      simp only [Int64.reduceToInt] at z
      omega
    · rw [zcmp_lt] at z
      simp only [Int64.reduceToInt] at z
      refine pt_gR (v := B) h49 (pt_gI ?_)
      rw [n9]
      refine pt_if (fun y => ?_) (fun y => no τ (bad (fun w => ?_)) l0 lf)
      · rw [zcmp_lt, zsl1 n (by omega)] at y
        obtain ⟨g, hg⟩ : ∃ g, g = (σ.2.1 (210 + 2 * s + 1) m).toInt.toNat := ⟨_, rfl⟩
        have gi : (σ.2.1 (210 + 2 * s + 1) m).toInt = (g : Int) := by omega
        have g1 : g < 1024 := by omega
        rw [ti64_32 ⟨by omega, by omega⟩, ← hg]
        refine pt_gR (v := 128) (R9 0 17 rfl) (pt_gC (pt_zb (v_include R9 k128.1 g1) (fun _ σ2 h => ?_)))
        obtain ⟨l2, e2⟩ := h
        have l2 : LF 129 τ σ2 := l2
        rw [nI_s1 (by omega)]
        refine ih (nI (m + 1), σ2) ⟨m + 1, ⟨rfl, by omega⟩, lf.tr l2, fun j hj => ?_, fun u hu' => ?_⟩
        · by_cases e : j = m
          · subst e; omega
          · exact hd j (by omega)
        · have e2 : bt (σ2.2.1 129) u = (bt (τ.2.1 129) u || decide (u = g)) := e2 u hu'
          show bt (σ2.2.1 129) u = true ↔ _
          rw [e2, Bool.or_eq_true, hu u hu', decide_eq_true_iff]
          constructor
          · rintro (⟨j, hj, y⟩ | y)
            · exact ⟨j, by omega, y⟩
            · exact ⟨m, by omega, by omega⟩
          · rintro ⟨j, hj, y⟩
            by_cases e : j = m
            · subst e; exact Or.inr (by omega)
            · exact Or.inl ⟨j, by omega, y⟩
      · rw [zcmp_lt, zsl1 n (by omega)] at y
        omega
theorem vr_takes_ (hR : RF σ.2.2) (hM : MS (σ.1 239)) (hn : 0 ≤ (σ.1 219 0).toInt ∧ (σ.1 219 0).toInt ≤ 10) : Pt (f_X12_takes_ N 218 x1 x2 σ) (fun r => tkQ (isR (σ.1 219 0) x1 ∧ isL x2) (σ.1 239 x2.toInt.toNat) (fun j => σ.2.1 241 (60 * x2.toInt.toNat + j)) (mn (σ.1 219 0)) r.1 (r.2.1 220 = σ.1 220) (RM σ r.2 r.1 x1.toInt.toNat (tkS (fun j => σ.2.1 241 (60 * x2.toInt.toNat + j)) (σ.1 239 x2.toInt.toNat).toInt.toNat))) := by
  rw [f_X12_takes_.eq_1]
  refine pt_gC (pt_zbq (vr_isRegister hR) (fun v hv => pt_if (fun q => pt_some ⟨fun _ => ⟨rfl, rfl⟩, fun z => absurd z.1 (hv.1 q)⟩) (fun q1 => ?_)))
  refine pt_zbq vr_isSlot (fun v3 hv3 => pt_if (fun q => pt_some ⟨fun _ => ⟨rfl, rfl⟩, fun z => absurd z.2 (hv3.1 q)⟩) (fun q3 => ?_))
  have r1 := hv.2 q1
  have r3 := hv3.2 q3
  have ha : isR (σ.1 219 0) x1 ∧ isL x2 := ⟨r1, r3⟩
  obtain ⟨p, hp, rfl⟩ := isR_n r1
  obtain ⟨s, hs, rfl⟩ := isL_n r3
  obtain ⟨n, en, n0, n10⟩ := world_n r1.1 hn.2
  have pn := p2le n10
  have hb := hM s
  rw [iN (m := p) (by omega), iN (m := s) (by omega)]
  refine pt_gR (v := 239) (hR 218 35 rfl) (pt_aI ?_)
  rw [iN (m := s) (by omega)]
  refine pt_if (fun q => pt_some ⟨fun z => absurd ha z, fun _ => ⟨fun _ => ⟨rfl, rfl⟩, fun z => absurd z (by rw [q]; decide)⟩⟩) (fun q => ?_)
  have q : (σ.1 239 s).toInt ≠ -1 := fun z => q (Int32.toInt_inj.mp (z.trans rfl))
  have l0 : 0 ≤ (σ.1 239 s).toInt := by omega
  obtain ⟨L, hL⟩ : ∃ L, L = (σ.1 239 s).toInt.toNat := ⟨_, rfl⟩
  rw [← hL]
  have elen : σ.1 239 s = nI L := Int32.toInt_inj.mp (by rw [nI_toInt (by omega)]; omega)
  have L60 : L ≤ 60 := by omega
  refine pt_lp (fun x : Int32 × zS => ∃ m, (x.1 = nI m ∧ m ≤ L) ∧ x.2 = σ ∧ ∀ j, j < m → 0 ≤ (σ.2.1 241 (60 * s + j)).toInt ∧ (σ.2.1 241 (60 * s + j)).toInt < ((2 ^ n : Nat) : Int)) (fun again x hI ih => ?_) N _ ⟨0, ⟨rfl, Nat.zero_le _⟩, rfl, fun j hj => absurd hj (Nat.not_lt_zero _)⟩
  obtain ⟨x5, τ⟩ := x
  obtain ⟨m, ⟨e, hm5⟩, e2, hd⟩ := hI
  have e : x5 = nI m := e
  subst e
  have e2 : τ = σ := e2
  subst e2
  rw [F_X12_takes__33.eq_1]
  refine pt_gR (v := 239) (hR 218 35 rfl) (pt_aI ?_)
  rw [iN (m := s) (by omega)]
  refine pt_if (fun q => ?_) (fun q => ?_)
  · rw [elen, nlt (by omega) (by omega)] at q
    have em : m = L := by omega
    subst em
    have good : tkN (fun j => τ.2.1 241 (60 * s + j)) m (mn (τ.1 219 0)) := fun j hj => by
      rw [en, mnn n0 n10]; exact hd j hj
    refine pt_lp (fun x : Int32 × zS => ∃ l, (x.1 = nI l ∧ l ≤ 1024) ∧ FG [227] τ x.2 ∧ ∀ u, u < l → x.2.1 227 u = 0) (fun again x hI ih => ?_) N _ ⟨0, ⟨rfl, Nat.zero_le _⟩, FG.rf, fun u hu => absurd hu (Nat.not_lt_zero _)⟩
    obtain ⟨x5, υ⟩ := x
    obtain ⟨l, ⟨e, hl⟩, hf, hz⟩ := hI
    have e : x5 = nI l := e
    subst e
    have hf : FG [227] τ υ := hf
    have hz : ∀ u, u < l → υ.1 227 u = 0 := hz
    have Ru := hf.R hR
    rw [F_X12_takes__79.eq_1]
    refine pt_if (fun q => ?_) (fun q => ?_)
    · have q : nI 1024 ≤ nI l := q
      rw [nlt (by omega) (by omega)] at q
      refine pt_lp (fun x : Int32 × zS => ∃ i, (x.1 = nI i ∧ i ≤ m) ∧ FG [227] τ x.2 ∧ ∀ u, u < 1024 → (x.2.1 227 u = 1 ∧ tkS (fun j => τ.2.1 241 (60 * s + j)) i u) ∨ (x.2.1 227 u = 0 ∧ ¬ tkS (fun j => τ.2.1 241 (60 * s + j)) i u)) (fun again x hI ih => ?_) N _ ⟨0, ⟨rfl, Nat.zero_le _⟩, hf, fun u hu => Or.inr ⟨hz u (by omega), fun ⟨j, hj, _⟩ => absurd hj (Nat.not_lt_zero _)⟩⟩
      obtain ⟨x5, φ⟩ := x
      obtain ⟨i, ⟨e, hi⟩, hg, hq⟩ := hI
      have e : x5 = nI i := e
      subst e
      have hg : FG [227] τ φ := hg
      have hq : ∀ u, u < 1024 → (φ.1 227 u = 1 ∧ tkS (fun j => τ.2.1 241 (60 * s + j)) i u) ∨ (φ.1 227 u = 0 ∧ ¬ tkS (fun j => τ.2.1 241 (60 * s + j)) i u) := hq
      have Rf := hg.R hR
      have e9 : φ.1 219 = τ.1 219 := hg.2 219 (by decide)
      have e39 : φ.1 239 s = nI m := (congrFun (hg.2 239 (by decide)) s).trans elen
      rw [F_X12_takes__101.eq_1]
      refine pt_gR (v := 239) (Rf 218 35 rfl) (pt_aI ?_)
      rw [iN (m := s) (by omega), e39]
      refine pt_if (fun q => ?_) (fun q => ?_)
      · rw [nlt (by omega) (by omega)] at q
        have ei : i = m := by omega
        subst ei
        refine pt_gC (pt_zb (vr_lays (S := tkS (fun j => τ.2.1 241 (60 * s + j)) i) Rf (by rw [e9]; exact hn) hp hq) (fun v υ2 h => pt_some ⟨fun z => absurd ha z, fun _ => ⟨fun z => absurd l0 (by omega), fun _ => ⟨fun z => absurd good (by rw [← hL] at z; exact z), fun _ => ?_⟩⟩⟩))
        exact RM_of (hg.2 220 (by decide)) e9 h.2
      · rw [nlt (by omega) (by omega)] at q
        have gd : 0 ≤ (τ.2.1 241 (60 * s + i)).toInt ∧ (τ.2.1 241 (60 * s + i)).toInt < ((2 ^ n : Nat) : Int) := hd i (by omega)
        obtain ⟨g, hg1⟩ : ∃ g, g = (τ.2.1 241 (60 * s + i)).toInt.toNat := ⟨_, rfl⟩
        have gi : (τ.2.1 241 (60 * s + i)).toInt = (g : Int) := by omega
        have g1 : g < 1024 := by omega
        refine pt_gR (v := 227) (Rf 218 17 rfl) (pt_gR (v := 241) (Rf 218 37 rfl) (pt_aJ (pt_s16 ?_)))
        rw [n60, nI_plus, iN (m := 60 * s + i) (by omega), show φ.2.1 = τ.2.1 by rw [hg.1], ti64_32 ⟨by omega, by omega⟩, ← hg1, iN (m := g) (by omega), nI_m1, nz1.2]
        refine ih (nI (i + 1), _) ⟨i + 1, ⟨rfl, by omega⟩, hg.u (by simp), fun u hu => ?_⟩
        show ((zI φ 227 _).1 227 u = 1 ∧ _) ∨ ((zI φ 227 _).1 227 u = 0 ∧ _)
        rw [zI_s, upd_i]
        by_cases e : u = g
        · rw [if_pos e]
          exact Or.inl ⟨rfl, i, by omega, by show (τ.2.1 241 (60 * s + i)).toInt = _; rw [gi, e]⟩
        · rw [if_neg e]
          rcases hq u hu with ⟨a, j, hj, b⟩ | ⟨a, b⟩
          · exact Or.inl ⟨a, j, by omega, b⟩
          · refine Or.inr ⟨a, fun ⟨j, hj, c⟩ => ?_⟩
            by_cases f : j = i
            · subst f
              have c : (τ.2.1 241 (60 * s + j)).toInt = (u : Int) := c
              omega
            · exact b ⟨j, by omega, c⟩
    · have q : ¬ nI 1024 ≤ nI l := q
      rw [nlt (by omega) (by omega)] at q
      refine pt_gR (v := 227) (Ru 218 17 rfl) (pt_s16 ?_)
      rw [iN (m := l) (by omega), nI_m1, nz1.1]
      refine ih (nI (l + 1), _) ⟨l + 1, ⟨rfl, by omega⟩, hf.u (by simp), fun u hu => ?_⟩
      show (zI υ 227 _).1 227 u = 0
      rw [zI_s, upd_i]
      by_cases e : u = l
      · rw [if_pos e]
      · rw [if_neg e]; exact hz u (by omega)
  · rw [elen, nlt (by omega) (by omega)] at q
    refine pt_gR (v := 241) (hR 218 37 rfl) (pt_aJ (pt_gC (pt_zbq (vr_mn hR hn) (fun v21 h21 => ?_))))
    subst h21
    refine pt_zbq vr_in (fun v hv => ?_)
    rw [n60, nI_plus, iN (m := 60 * s + m) (by omega), i64_of, en, mnn n0 n10, m1_ (by rw [nI_toInt (by omega)]; omega), nI_toInt (by omega)] at hv
    simp only [Int64.reduceToInt] at hv
    refine pt_if (fun z => pt_some ⟨fun z => absurd ha z, fun _ => ⟨fun z => absurd l0 (by omega), fun _ => ⟨fun _ => ⟨rfl, rfl⟩, fun w => ?_⟩⟩⟩) (fun z => ?_)
    · rw [← hL] at w
      have w := w m (by omega)
      rw [en, mnn n0 n10] at w
      have w : 0 ≤ (τ.2.1 241 (60 * s + m)).toInt ∧ (τ.2.1 241 (60 * s + m)).toInt < ((2 ^ n : Nat) : Int) := w
      exact absurd ⟨w.1, by omega⟩ (hv.1 z)
    · have h := hv.2 z
      rw [nI_s1 (by omega)]
      refine ih (nI (m + 1), τ) ⟨m + 1, ⟨rfl, by omega⟩, rfl, fun j hj => ?_⟩
      by_cases e : j = m
      · subst e; exact ⟨h.1, by omega⟩
      · exact hd j (by omega)
end TAKES

/-- the word w stands from a to b -/
def spC (s : Nat → Nat → Int32) (a b : Int32) (w : Nat) : Prop := b.toInt - a.toInt = (zlen.getD w 0 : Int) ∧ ∀ k, k < zlen.getD w 0 → s 1 (a.toInt.toNat + k) = zch w (nI k)
theorem xs_X5_spells {N w : Nat} {x2 x3 : Int32} {σ : zS} (hN : 1048576 ≤ N) (hR : RF σ.2.2) (hX : σ.2.2 57 5 = 1) (hw : w < zSn) (h2 : 0 ≤ x2.toInt) (h3 : x3.toInt ≤ (σ.1 57 6).toInt) (h6 : (σ.1 57 6).toInt ≤ 600) (h32 : x2.toInt ≤ x3.toInt) : Ok (f_X5_spells N 57 w x2 x3 σ) (fun r => r.2 = σ ∧ ((r.1 = 0 → ¬ spC σ.1 x2 x3 w) ∧ (¬ r.1 = 0 → spC σ.1 x2 x3 w))) := by
  have hz := zlen_b w hw
  have hl : (nI (zlen.getD w 0)).toInt = (zlen.getD w 0 : Int) := nI_toInt (by omega)
  have es : (x3 - x2).toInt = x3.toInt - x2.toInt := by rw [ti_sub]; omega
  rw [f_X5_spells.eq_1]
  refine ok_zbX (σ := σ) (Q := fun v => v = nI (zlen.getD w 0)) ⟨_, if_pos hw, rfl, rfl⟩ (fun v hv => ?_)
  subst hv
  refine ok_if (fun h => ?_) (fun h => ok_rZ (Or.inl rfl) ⟨rfl, fun _ c => h (Int32.toInt_inj.mp (by rw [es, hl]; exact c.1)), fun q => absurd rfl q⟩)
  have hB := congrArg Int32.toInt h
  rw [es, hl] at hB
  refine ok_if (fun h' => absurd h' (by rw [Int32.lt_iff_toInt_lt]; simp only [Int32.reduceToInt]; omega)) (fun _ => ?_)
  refine ok_gI rfl ?_
  refine ok_if (fun _ => ?_) (fun h' => absurd (Int32.le_iff_toInt_le.mpr h3) h')
  refine ok_lp (fun t : Int32 × zS => t.2 = σ ∧ (0 ≤ t.1.toInt ∧ t.1.toInt ≤ 20) ∧ ∀ k : Nat, (k : Int) < t.1.toInt → σ.1 1 (x2.toInt.toNat + k) = zch w (nI k)) (fun t => ((zlen.getD w 0 : Int) - t.1.toInt).toNat) (fun again t hI ih => ?_) N _ ⟨rfl, (by decide : 0 ≤ (0 : Int32).toInt ∧ (0 : Int32).toInt ≤ 20), fun k hk => absurd hk (by simp only [Int32.reduceToInt]; omega)⟩ (by simp only [Int32.reduceToInt]; omega)
  obtain ⟨x4, σ'⟩ := t
  obtain ⟨e, h0, hA⟩ := hI
  have e : σ' = σ := e
  have h0 : 0 ≤ x4.toInt ∧ x4.toInt ≤ 20 := h0
  have hA : ∀ k : Nat, (k : Int) < x4.toInt → σ.1 1 (x2.toInt.toNat + k) = zch w (nI k) := hA
  subst e
  rw [F_X5_spells_27.eq_1]
  refine ok_zbX (σ := σ') (Q := fun v => v = nI (zlen.getD w 0)) ⟨_, if_pos hw, rfl, rfl⟩ (fun v hv => ?_)
  subst hv
  refine ok_if (fun hh => ok_rZ (Or.inr rfl) ⟨rfl, fun q => absurd (show (1 : Int32) = 0 from q) (by decide), fun _ => ⟨hB, fun k hk => hA k ?_⟩⟩) (fun hh => ?_)
  · rw [Int32.le_iff_toInt_le, hl] at hh; omega
  rw [Int32.le_iff_toInt_le, hl] at hh
  have hs : (x4 + 1).toInt = x4.toInt + 1 := by rw [ti_add]; simp only [Int32.reduceToInt]; omega
  have ha : (x2 + x4).toInt = x2.toInt + x4.toInt := by rw [ti_add]; omega
  refine ok_gRX (Sx := []) (σ0 := σ') Tr.rf hX ?_
  refine ok_aIn (n := 600) rfl (by rw [ha]; omega) (by rw [ha]; omega) (fun v7 e7 => ?_)
  have e7 : v7 = σ'.1 1 (x2.toInt.toNat + x4.toInt.toNat) := by
    rw [e7, show (x2 + x4).toNatClampNeg = (x2 + x4).toInt.toNat from rfl, ha, show (x2.toInt + x4.toInt).toNat = x2.toInt.toNat + x4.toInt.toNat by omega]
  refine ok_zbX (σ := σ') (Q := fun v => v = zch w x4) ⟨_, if_pos ⟨hw, h0.1, by omega⟩, rfl, rfl⟩ (fun v8 e8 => ?_)
  have hx : nI x4.toInt.toNat = x4 := Int32.toInt_inj.mp (by rw [nI_toInt (by omega)]; omega)
  refine ok_if (fun q => ih (x4 + 1, σ') ⟨rfl, (by rw [hs]; omega : 0 ≤ (x4 + 1).toInt ∧ (x4 + 1).toInt ≤ 20), fun k hk => ?_⟩ (by show ((zlen.getD w 0 : Int) - (x4 + 1).toInt).toNat < ((zlen.getD w 0 : Int) - x4.toInt).toNat; rw [hs]; omega)) (fun q => ok_rZ (Or.inl rfl) ⟨rfl, fun _ c => ?_, fun q => absurd rfl q⟩)
  · have hk : (k : Int) < (x4 + 1).toInt := hk
    rw [hs] at hk
    by_cases r : (k : Int) = x4.toInt
    · rw [show k = x4.toInt.toNat by omega, ← e7, hx, q, e8]
    · exact hA k (by omega)
  · apply q
    rw [e7, e8, c.2 x4.toInt.toNat (by omega), hx]
theorem xs_X5_wordValue {N : Nat} {x1 x2 : Int32} {σ : zS} (hN : 1048576 ≤ N) (hR : RF σ.2.2) (hX : σ.2.2 57 5 = 1) (h2 : 0 ≤ x1.toInt) (h3 : x2.toInt ≤ (σ.1 57 6).toInt) (h6 : (σ.1 57 6).toInt ≤ 600) (h32 : x1.toInt ≤ x2.toInt) : Ok (f_X5_wordValue N 57 x1 x2 σ) (fun r => r.2 = σ ∧ r.1 = wvF (spC σ.1 x1 x2)) := by
  have z := fun w (hw : w < zSn) => xs_X5_spells (w := w) hN hR hX hw h2 h3 h6 h32
  rw [f_X5_wordValue.eq_1]
  unfold wvF
  refine ok_gC rfl (ok_zbX (Q := fun v => (v = 0 → ¬ spC σ.1 x1 x2 0) ∧ (¬ v = 0 → spC σ.1 x1 x2 0)) (z 0 (by decide)) (fun v h => ok_if (fun e => ?_) (fun e => ok_some ⟨rfl, (if_pos (h.2 e)).symm⟩)))
  rw [if_neg (h.1 e)]
  refine ok_gC rfl (ok_zbX (Q := fun v => (v = 0 → ¬ spC σ.1 x1 x2 1) ∧ (¬ v = 0 → spC σ.1 x1 x2 1)) (z 1 (by decide)) (fun v h => ok_if (fun e => ?_) (fun e => ok_some ⟨rfl, (if_pos (h.2 e)).symm⟩)))
  rw [if_neg (h.1 e)]
  refine ok_gC rfl (ok_zbX (Q := fun v => (v = 0 → ¬ spC σ.1 x1 x2 2) ∧ (¬ v = 0 → spC σ.1 x1 x2 2)) (z 2 (by decide)) (fun v h => ok_if (fun e => ?_) (fun e => ok_some ⟨rfl, (if_pos (h.2 e)).symm⟩)))
  rw [if_neg (h.1 e)]
  refine ok_gC rfl (ok_zbX (Q := fun v => (v = 0 → ¬ spC σ.1 x1 x2 3) ∧ (¬ v = 0 → spC σ.1 x1 x2 3)) (z 3 (by decide)) (fun v h => ok_if (fun e => ?_) (fun e => ok_some ⟨rfl, (if_pos (h.2 e)).symm⟩)))
  rw [if_neg (h.1 e)]
  refine ok_gC rfl (ok_zbX (Q := fun v => (v = 0 → ¬ spC σ.1 x1 x2 4) ∧ (¬ v = 0 → spC σ.1 x1 x2 4)) (z 4 (by decide)) (fun v h => ok_if (fun e => ?_) (fun e => ok_some ⟨rfl, (if_pos (h.2 e)).symm⟩)))
  rw [if_neg (h.1 e)]
  refine ok_gC rfl (ok_zbX (Q := fun v => (v = 0 → ¬ spC σ.1 x1 x2 5) ∧ (¬ v = 0 → spC σ.1 x1 x2 5)) (z 5 (by decide)) (fun v h => ok_if (fun e => ?_) (fun e => ok_some ⟨rfl, (if_pos (h.2 e)).symm⟩)))
  rw [if_neg (h.1 e)]
  refine ok_gC rfl (ok_zbX (Q := fun v => (v = 0 → ¬ spC σ.1 x1 x2 6) ∧ (¬ v = 0 → spC σ.1 x1 x2 6)) (z 6 (by decide)) (fun v h => ok_if (fun e => ?_) (fun e => ok_some ⟨rfl, (if_pos (h.2 e)).symm⟩)))
  rw [if_neg (h.1 e)]
  refine ok_gC rfl (ok_zbX (Q := fun v => (v = 0 → ¬ spC σ.1 x1 x2 7) ∧ (¬ v = 0 → spC σ.1 x1 x2 7)) (z 7 (by decide)) (fun v h => ok_if (fun e => ?_) (fun e => ok_some ⟨rfl, (if_pos (h.2 e)).symm⟩)))
  rw [if_neg (h.1 e)]
  refine ok_gC rfl (ok_zbX (Q := fun v => (v = 0 → ¬ spC σ.1 x1 x2 8) ∧ (¬ v = 0 → spC σ.1 x1 x2 8)) (z 8 (by decide)) (fun v h => ok_if (fun e => ?_) (fun e => ok_some ⟨rfl, (if_pos (h.2 e)).symm⟩)))
  rw [if_neg (h.1 e)]
  refine ok_gC rfl (ok_zbX (Q := fun v => (v = 0 → ¬ spC σ.1 x1 x2 9) ∧ (¬ v = 0 → spC σ.1 x1 x2 9)) (z 9 (by decide)) (fun v h => ok_if (fun e => ?_) (fun e => ok_some ⟨rfl, (if_pos (h.2 e)).symm⟩)))
  rw [if_neg (h.1 e)]
  refine ok_gC rfl (ok_zbX (Q := fun v => (v = 0 → ¬ spC σ.1 x1 x2 10) ∧ (¬ v = 0 → spC σ.1 x1 x2 10)) (z 10 (by decide)) (fun v h => ok_if (fun e => ok_some ⟨rfl, (if_neg (h.1 e)).symm⟩) (fun e => ok_some ⟨rfl, (if_pos (h.2 e)).symm⟩)))
theorem wvF_c {C D : Nat → Prop} (h : ∀ w, w < 11 → (C w ↔ D w)) : wvF C = wvF D := by
  unfold wvF
  rw [show C 0 = D 0 from propext (h 0 (by decide)), show C 1 = D 1 from propext (h 1 (by decide)), show C 2 = D 2 from propext (h 2 (by decide)), show C 3 = D 3 from propext (h 3 (by decide)), show C 4 = D 4 from propext (h 4 (by decide)), show C 5 = D 5 from propext (h 5 (by decide)), show C 6 = D 6 from propext (h 6 (by decide)), show C 7 = D 7 from propext (h 7 (by decide)), show C 8 = D 8 from propext (h 8 (by decide)), show C 9 = D 9 from propext (h 9 (by decide)), show C 10 = D 10 from propext (h 10 (by decide))]
theorem spC_w {s : Nat → Nat → Int32} {t : Nat → Int32} {n i : Nat} {a b : Int32} (ht : s 1 = t) (ha : a.toInt = (tkF t n i : Int)) (hb : b.toInt = (tkE t n i : Int)) (hk : tkK t n i = 1) : wvF (spC s a b) = wv t n i := by
  refine wvF_c (fun w hw => ?_)
  have z := zch_11 w hw
  have zb := zlen_b w (Nat.lt_trans hw (by decide))
  unfold spC isW
  rw [ht, show a.toInt.toNat = tkF t n i by omega, ← z.1]
  constructor
  · intro c
    exact ⟨hk, by omega, fun k hk => (c.2 k hk).trans (z.2 k (by omega))⟩
  · intro c
    exact ⟨by omega, fun k hk => (c.2.2 k hk).trans (z.2 k (by omega)).symm⟩
theorem zmin6 {v c : Int32} {r : Nat} (h : v.toInt = min 1000000 (r : Int)) (hc : 48 ≤ c.toInt ∧ c.toInt ≤ 57) : (zmin 1000000 (v * 10 + c - 48)).toInt = min 1000000 ((10 * r + (c.toInt - 48).toNat : Nat) : Int) := by
  have hv : 0 ≤ v.toInt ∧ v.toInt ≤ 1000000 := by omega
  have m : (v * 10).toInt = 10 * v.toInt := by
    rw [ti_mul]; simp only [Int32.reduceToInt]
    obtain ⟨w, hw⟩ : ∃ w, w = 10 * v.toInt := ⟨_, rfl⟩
    rw [show v.toInt * 10 = w by omega, ← hw]; omega
  have a : (v * 10 + c).toInt = 10 * v.toInt + c.toInt := by
    rw [ti_add, m]
    obtain ⟨w, hw⟩ : ∃ w, w = 10 * v.toInt := ⟨_, rfl⟩
    rw [← hw]; omega
  have b : (v * 10 + c - 48).toInt = 10 * v.toInt + c.toInt - 48 := by
    rw [ti_sub, a]; simp only [Int32.reduceToInt]
    obtain ⟨w, hw⟩ : ∃ w, w = 10 * v.toInt := ⟨_, rfl⟩
    rw [← hw]; omega
  rw [ti_zmin, b]
  simp only [Int32.reduceToInt]
  split <;> omega

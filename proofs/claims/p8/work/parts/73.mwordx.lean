/-- the word w stands at i -/
def isW (t : Nat → Int32) (n i w : Nat) : Prop := tkK t n i = 1 ∧ tkE t n i = tkF t n i + zlen.getD w 0 ∧ ∀ k, k < zlen.getD w 0 → t (tkF t n i + k) = zch w (nI k)
theorem xe_is36 {N w : Nat} {σ : zS} (hN : 1048576 ≤ N) (hR : RF σ.2.2) (hw : w < zSn) (hK : TOK σ.1) {y0 : Int32} {C : Prop} (hy : y0 = 0 ∨ y0 = 1) (hA : ¬ y0 = 0 → σ.1 218 10 - σ.1 218 11 = nI (zlen.getD w 0)) (hC0 : y0 = 0 → ¬ C) (hC1 : ¬ y0 = 0 → (C ↔ ∀ k, k < zlen.getD w 0 → σ.1 224 ((σ.1 218 11).toInt.toNat + k) = zch w (nI k))) : Ok (J_X12_is_36 N 218 w y0 σ) (fun r => r.2 = σ ∧ ((r.1 = 0 → ¬ C) ∧ (¬ r.1 = 0 → C))) := by
  have hz := zlen_b w hw
  have hl : (nI (zlen.getD w 0)).toInt = (zlen.getD w 0 : Int) := nI_toInt (by omega)
  have hk := hK.1
  rw [J_X12_is_36.eq_1]
  refine ok_lp (fun t : Int32 × Int32 × zS => t.2.2 = σ ∧ (0 ≤ t.2.1.toInt ∧ t.2.1.toInt ≤ 20) ∧ ((t.1 = 0 ∧ ¬ C) ∨ (t.1 = 1 ∧ ¬ y0 = 0 ∧ ∀ k : Nat, (k : Int) < t.2.1.toInt → σ.1 224 ((σ.1 218 11).toInt.toNat + k) = zch w (nI k)))) (fun t => ((zlen.getD w 0 : Int) - t.2.1.toInt).toNat) (fun again t hI ih => ?_) N _ ⟨rfl, (by decide : 0 ≤ (0 : Int32).toInt ∧ (0 : Int32).toInt ≤ 20), ?_⟩ (by simp only [Int32.reduceToInt]; omega)
  · obtain ⟨x2, x3, σ'⟩ := t
    obtain ⟨e, h0, hz2⟩ := hI
    have e : σ' = σ := e
    have h0 : 0 ≤ x3.toInt ∧ x3.toInt ≤ 20 := h0
    have hz2 : (x2 = 0 ∧ ¬ C) ∨ (x2 = 1 ∧ ¬ y0 = 0 ∧ ∀ k : Nat, (k : Int) < x3.toInt → σ.1 224 ((σ.1 218 11).toInt.toNat + k) = zch w (nI k)) := hz2
    subst e
    have z2 : x2 = 0 ∨ x2 = 1 := hz2.elim (fun q => Or.inl q.1) (fun q => Or.inr q.1)
    rw [F_X12_is_39.eq_1]
    refine ok_zbX (σ := σ') (Q := fun v => v = nI (zlen.getD w 0)) ⟨_, if_pos hw, rfl, rfl⟩ (fun v hv => ?_)
    subst hv
    refine ok_if (fun h => ok_rZ z2 ⟨rfl, fun q => ?_, fun q => ?_⟩) (fun h => ok_if (fun h2 => ok_rZ z2 ⟨rfl, fun _ => ?_, fun q => absurd h2 q⟩) (fun h2 => ?_))
    · have q : x2 = 0 := q
      rcases hz2 with a | a
      · exact a.2
      · rw [a.1] at q; exact absurd q (by decide)
    · have q : ¬ x2 = 0 := q
      rcases hz2 with a | a
      · exact absurd a.1 q
      · rw [Int32.le_iff_toInt_le, hl] at h
        exact (hC1 a.2.1).mpr (fun k hk => a.2.2 k (by omega))
    · rcases hz2 with a | a
      · exact a.2
      · rw [a.1] at h2; exact absurd h2 (by decide)
    · have a := hz2.resolve_left (fun q => h2 q.1)
      rw [Int32.le_iff_toInt_le, hl] at h
      have hB := congrArg Int32.toInt (hA a.2.1)
      rw [ti_sub, hl] at hB
      have hs : (x3 + 1).toInt = x3.toInt + 1 := by rw [ti_add]; simp only [Int32.reduceToInt]; omega
      have ha : (σ'.1 218 11 + x3).toInt = (σ'.1 218 11).toInt + x3.toInt := by rw [ti_add]; omega
      refine ok_gR (Sx := []) (v := 224) Tr.rf rfl (hR 218 6 rfl) ?_
      refine ok_gI rfl ?_
      refine ok_aIn (n := 600) rfl (by rw [ha]; omega) (by rw [ha]; omega) (fun v7 e7 => ?_)
      have e7 : v7 = σ'.1 224 ((σ'.1 218 11).toInt.toNat + x3.toInt.toNat) := by
        rw [e7, show (σ'.1 218 11 + x3).toNatClampNeg = (σ'.1 218 11 + x3).toInt.toNat from rfl, ha, show ((σ'.1 218 11).toInt + x3.toInt).toNat = (σ'.1 218 11).toInt.toNat + x3.toInt.toNat by omega]
      refine ok_zbX (σ := σ') (Q := fun v => v = zch w x3) ⟨_, if_pos ⟨hw, h0.1, by omega⟩, rfl, rfl⟩ (fun v8 e8 => ?_)
      have hx : nI x3.toInt.toNat = x3 := Int32.toInt_inj.mp (by rw [nI_toInt (by omega)]; omega)
      have hm : ((zlen.getD w 0 : Int) - (x3 + 1).toInt).toNat < ((zlen.getD w 0 : Int) - x3.toInt).toNat := by rw [hs]; omega
      have hb : 0 ≤ (x3 + 1).toInt ∧ (x3 + 1).toInt ≤ 20 := by rw [hs]; omega
      refine ok_if (fun q => ih (1, x3 + 1, σ') ⟨rfl, hb, Or.inr ⟨rfl, a.2.1, fun k hk => ?_⟩⟩ hm) (fun q => ih (0, x3 + 1, σ') ⟨rfl, hb, Or.inl ⟨rfl, fun c => ?_⟩⟩ hm)
      · have hk : (k : Int) < (x3 + 1).toInt := hk
        rw [hs] at hk
        by_cases r : (k : Int) = x3.toInt
        · rw [show k = x3.toInt.toNat by omega, ← e7, hx, q, e8]
        · exact a.2.2 k (by omega)
      · apply q
        rw [e7, e8, ((hC1 a.2.1).mp c) x3.toInt.toNat (by omega), hx]
  · rcases hy with q | q
    · exact Or.inl ⟨q, hC0 q⟩
    · exact Or.inr ⟨q, by rw [q]; decide, fun k hk => absurd hk (by simp only [Int32.reduceToInt]; omega)⟩
theorem xe_X12_is {N w : Nat} {σ : zS} {t : Nat → Int32} {n i : Nat} (hN : 1048576 ≤ N) (hR : RF σ.2.2) (hw : w < zSn) (hK : TOK σ.1) (hg : σ.1 218 14 = 0) (hG : RX σ.1 t n i) : Ok (f_X12_is N 218 w σ) (fun r => r.2 = σ ∧ ((r.1 = 0 → ¬ isW t n i w) ∧ (¬ r.1 = 0 → isW t n i w))) := by
  have hk := hK.1
  have hz := zlen_b w hw
  have hl : (nI (zlen.getD w 0)).toInt = (zlen.getD w 0 : Int) := nI_toInt (by omega)
  have h11 := hG.2.1.1
  have h10 := hG.2.1.2
  have h12 := hG.2.2.1
  rw [f_X12_is.eq_1]
  refine ok_gC rfl ?_
  refine ok_zbX (Q := fun v => (v = 0 → ¬ σ.1 218 14 = 0) ∧ (¬ v = 0 → σ.1 218 14 = 0)) x_X12_good (fun v hv => ?_)
  refine ok_if (fun h => absurd hg (hv.1 h)) (fun h => ?_)
  refine ok_gI rfl ?_
  refine ok_if (fun h1 => ?_) (fun h1 => xe_is36 (y0 := 0) hN hR hw hK (Or.inl rfl) (fun q => absurd rfl q) (fun _ c => h1 (h12.trans c.1)) (fun q => absurd rfl q))
  refine ok_gI rfl ?_
  refine ok_gI rfl ?_
  refine ok_zbX (σ := σ) (Q := fun v => v = nI (zlen.getD w 0)) ⟨_, if_pos hw, rfl, rfl⟩ (fun v hv2 => ?_)
  subst hv2
  have es : (σ.1 218 10 - σ.1 218 11).toInt = (σ.1 218 10).toInt - (σ.1 218 11).toInt := by rw [ti_sub]; omega
  refine ok_if (fun h3 => xe_is36 (y0 := 1) hN hR hw hK (Or.inr rfl) (fun _ => h3) (fun q => absurd q (by decide)) (fun _ => ?_)) (fun h3 => xe_is36 (y0 := 0) hN hR hw hK (Or.inl rfl) (fun q => absurd rfl q) (fun _ c => h3 (Int32.toInt_inj.mp ?_)) (fun q => absurd rfl q))
  · have q := congrArg Int32.toInt h3
    rw [es, hl] at q
    have ef : (σ.1 218 11).toInt.toNat = tkF t n i := by omega
    rw [ef, hG.1.1]
    exact ⟨fun c => c.2.2, fun c => ⟨h12.symm.trans h1, by omega, c⟩⟩
  · rw [es, hl]
    have := c.2.1
    omega

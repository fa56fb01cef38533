/-- a word that opens stands at i -/
def isPx (t : Nat → Int32) (n i : Nat) : Prop := ∃ k, k < 6 ∧ isW t n i (16 + k)
theorem xe_X12_prefixOf {N : Nat} {σ : zS} {t : Nat → Int32} {n i : Nat} (hN : 1048576 ≤ N) (hR : RF σ.2.2) (hK : TOK σ.1) (hg : σ.1 218 14 = 0) (hG : RX σ.1 t n i) : Ok (f_X12_prefixOf N 218 σ) (fun r => r.2 = σ ∧ ((r.1 = -1 ∧ ¬ isPx t n i) ∨ ((0 ≤ r.1.toInt ∧ r.1.toInt ≤ 5) ∧ isPx t n i))) := by
  have z := fun w (hw : w < zSn) => xe_X12_is (w := w) hN hR hw hK hg hG
  rw [f_X12_prefixOf.eq_1]
  refine ok_gC rfl (ok_zbX (Q := fun v => (v = 0 → ¬ isW t n i 16) ∧ (¬ v = 0 → isW t n i 16)) (z 16 (by decide)) (fun v h0 => ok_if (fun e0 => ?_) (fun e0 => ok_some ⟨rfl, Or.inr ⟨(by decide : 0 ≤ (0 : Int32).toInt ∧ (0 : Int32).toInt ≤ 5), 0, by decide, h0.2 e0⟩⟩)))
  refine ok_gC rfl (ok_zbX (Q := fun v => (v = 0 → ¬ isW t n i 17) ∧ (¬ v = 0 → isW t n i 17)) (z 17 (by decide)) (fun v h1 => ok_if (fun e1 => ?_) (fun e1 => ok_some ⟨rfl, Or.inr ⟨(by decide : 0 ≤ (1 : Int32).toInt ∧ (1 : Int32).toInt ≤ 5), 1, by decide, h1.2 e1⟩⟩)))
  refine ok_gC rfl (ok_zbX (Q := fun v => (v = 0 → ¬ isW t n i 18) ∧ (¬ v = 0 → isW t n i 18)) (z 18 (by decide)) (fun v h2 => ok_if (fun e2 => ?_) (fun e2 => ok_some ⟨rfl, Or.inr ⟨(by decide : 0 ≤ (2 : Int32).toInt ∧ (2 : Int32).toInt ≤ 5), 2, by decide, h2.2 e2⟩⟩)))
  refine ok_gC rfl (ok_zbX (Q := fun v => (v = 0 → ¬ isW t n i 19) ∧ (¬ v = 0 → isW t n i 19)) (z 19 (by decide)) (fun v h3 => ok_if (fun e3 => ?_) (fun e3 => ok_some ⟨rfl, Or.inr ⟨(by decide : 0 ≤ (3 : Int32).toInt ∧ (3 : Int32).toInt ≤ 5), 3, by decide, h3.2 e3⟩⟩)))
  refine ok_gC rfl (ok_zbX (Q := fun v => (v = 0 → ¬ isW t n i 20) ∧ (¬ v = 0 → isW t n i 20)) (z 20 (by decide)) (fun v h4 => ok_if (fun e4 => ?_) (fun e4 => ok_some ⟨rfl, Or.inr ⟨(by decide : 0 ≤ (4 : Int32).toInt ∧ (4 : Int32).toInt ≤ 5), 4, by decide, h4.2 e4⟩⟩)))
  refine ok_gC rfl (ok_zbX (Q := fun v => (v = 0 → ¬ isW t n i 21) ∧ (¬ v = 0 → isW t n i 21)) (z 21 (by decide)) (fun v h5 => ok_if (fun e5 => ok_some ⟨rfl, Or.inl ⟨rfl, fun q => ?_⟩⟩) (fun e5 => ok_some ⟨rfl, Or.inr ⟨(by decide : 0 ≤ (5 : Int32).toInt ∧ (5 : Int32).toInt ≤ 5), 5, by decide, h5.2 e5⟩⟩)))
  obtain ⟨k, hk, hw⟩ := q
  rcases (show k = 0 ∨ k = 1 ∨ k = 2 ∨ k = 3 ∨ k = 4 ∨ k = 5 by omega) with rfl | rfl | rfl | rfl | rfl | rfl
  · exact h0.1 e0 hw
  · exact h1.1 e1 hw
  · exact h2.1 e2 hw
  · exact h3.1 e3 hw
  · exact h4.1 e4 hw
  · exact h5.1 e5 hw
/-- the seven signs -/
def isCb (c : Int32) : Prop := c = 43 ∨ c = 45 ∨ c = 38 ∨ c = 42 ∨ c = 47 ∨ c = 37 ∨ c = 35
theorem xe_X12_signOf {N : Nat} {x0 : Int32} {σ : zS} : Ok (f_X12_signOf N x0 σ) (fun r => r.2 = σ ∧ ((r.1 = -1 ∧ ¬ isCb x0) ∨ ((0 ≤ r.1.toInt ∧ r.1.toInt ≤ 6) ∧ isCb x0))) := by
  rw [f_X12_signOf.eq_1]
  unfold isCb
  refine ok_if (fun h => ok_some ⟨rfl, Or.inr ⟨(by decide : 0 ≤ (0 : Int32).toInt ∧ (0 : Int32).toInt ≤ 6), by simp only [h, true_or]⟩⟩) (fun h0 => ?_)
  refine ok_if (fun h => ok_some ⟨rfl, Or.inr ⟨(by decide : 0 ≤ (1 : Int32).toInt ∧ (1 : Int32).toInt ≤ 6), by simp only [h, true_or, or_true]⟩⟩) (fun h1 => ?_)
  refine ok_if (fun h => ok_some ⟨rfl, Or.inr ⟨(by decide : 0 ≤ (2 : Int32).toInt ∧ (2 : Int32).toInt ≤ 6), by simp only [h, true_or, or_true]⟩⟩) (fun h2 => ?_)
  refine ok_if (fun h => ok_some ⟨rfl, Or.inr ⟨(by decide : 0 ≤ (3 : Int32).toInt ∧ (3 : Int32).toInt ≤ 6), by simp only [h, true_or, or_true]⟩⟩) (fun h3 => ?_)
  refine ok_if (fun h => ok_some ⟨rfl, Or.inr ⟨(by decide : 0 ≤ (4 : Int32).toInt ∧ (4 : Int32).toInt ≤ 6), by simp only [h, true_or, or_true]⟩⟩) (fun h4 => ?_)
  refine ok_if (fun h => ok_some ⟨rfl, Or.inr ⟨(by decide : 0 ≤ (5 : Int32).toInt ∧ (5 : Int32).toInt ≤ 6), by simp only [h, true_or, or_true]⟩⟩) (fun h5 => ?_)
  exact ok_if (fun h => ok_some ⟨rfl, Or.inr ⟨(by decide : 0 ≤ (6 : Int32).toInt ∧ (6 : Int32).toInt ≤ 6), by simp only [h, or_true]⟩⟩) (fun h6 => ok_some ⟨rfl, Or.inl ⟨rfl, by simp only [h0, h1, h2, h3, h4, h5, h6, or_self, not_false_eq_true]⟩⟩)
abbrev Cf : Type := Nat × Bool × List Bool × Nat
/-- one step of the reading of a sum: none a fault, some none the end -/
noncomputable def stp (t : Nat → Int32) (n : Nat) (m : Int32) (c : Cf) : Option (Option Cf) := by
  classical exact (if c.2.1 = false then
    (if isPx t n c.1 ∨ tkK t n c.1 = 40 then (if c.2.2.1.length = 6 then none else some (some (tkE t n c.1, false, decide (tkK t n c.1 = 40) :: c.2.2.1, c.2.2.2)))
    else if tkK t n c.1 = 2 then (if nOK t n c.1 0 9 then some (some (tkE t n c.1, true, popP c.2.2.1, c.2.2.2)) else none)
    else if tkK t n c.1 = 123 then (fam t n m c.1).map (fun j => some (j, true, popP c.2.2.1, c.2.2.2))
    else if isW t n c.1 15 then some (some (tkE t n c.1, true, popP c.2.2.1, c.2.2.2)) else none)
  else (if isCb (tkK t n c.1) then (if c.2.2.2 = 24 then none else some (some (tkE t n c.1, false, c.2.2.1, c.2.2.2 + 1)))
    else if tkK t n c.1 = 41 ∧ true ∈ c.2.2.1 then some (some (tkE t n c.1, true, popP c.2.2.1.tail, c.2.2.2)) else some none))
noncomputable def itk (t : Nat → Int32) (n : Nat) (m : Int32) : Nat → Cf → Option Cf
  | 0, c => some c
  | k + 1, c => (stp t n m c).bind (fun o => o.bind (fun c1 => itk t n m k c1))
def Rch (t : Nat → Int32) (n : Nat) (m : Int32) (c d : Cf) : Prop := ∃ k, itk t n m k c = some d
theorem Rch.rf {t : Nat → Int32} {n : Nat} {m : Int32} {c : Cf} : Rch t n m c c := ⟨0, rfl⟩
theorem Rch.st {t : Nat → Int32} {n : Nat} {m : Int32} {c d e : Cf} (h : stp t n m c = some (some d)) (h2 : Rch t n m d e) : Rch t n m c e := by
  obtain ⟨k, hk⟩ := h2
  refine ⟨k + 1, ?_⟩
  show (stp t n m c).bind (fun o => o.bind (fun c1 => itk t n m k c1)) = some e
  rw [h]; exact hk
theorem itk_tr {t : Nat → Int32} {n : Nat} {m : Int32} : ∀ {k l : Nat} {c d e : Cf}, itk t n m k c = some d → itk t n m l d = some e → itk t n m (k + l) c = some e
  | 0, l, c, d, e, h, h2 => by
    have : c = d := Option.some.inj h
    rw [this, Nat.zero_add]; exact h2
  | k + 1, l, c, d, e, h, h2 => by
    have h : (stp t n m c).bind (fun o => o.bind (fun c1 => itk t n m k c1)) = some d := h
    obtain ⟨o, ho, h⟩ := Option.bind_eq_some_iff.mp h
    obtain ⟨c1, hc, h⟩ := Option.bind_eq_some_iff.mp h
    rw [show k + 1 + l = (k + l) + 1 by omega]
    show (stp t n m c).bind (fun o => o.bind (fun c1 => itk t n m (k + l) c1)) = some e
    rw [ho, hc]
    exact itk_tr h h2
theorem Rch.tr {t : Nat → Int32} {n : Nat} {m : Int32} {c d e : Cf} (h : Rch t n m c d) (h2 : Rch t n m d e) : Rch t n m c e := by
  obtain ⟨k, hk⟩ := h
  obtain ⟨l, hl⟩ := h2
  exact ⟨k + l, itk_tr hk hl⟩
theorem Rch.sn {t : Nat → Int32} {n : Nat} {m : Int32} {c d e : Cf} (h : Rch t n m c d) (h2 : stp t n m d = some (some e)) : Rch t n m c e := h.tr (Rch.st h2 Rch.rf)
/-- of two roads from one place one goes on the other -/
theorem itk_det {t : Nat → Int32} {n : Nat} {m : Int32} : ∀ {k l : Nat} {c d e : Cf}, itk t n m k c = some d → itk t n m l c = some e → Rch t n m d e ∨ Rch t n m e d
  | 0, l, c, d, e, h, h2 => by
    have : c = d := Option.some.inj h
    rw [← this]; exact Or.inl ⟨l, h2⟩
  | k + 1, 0, c, d, e, h, h2 => by
    have : c = e := Option.some.inj h2
    rw [← this]; exact Or.inr ⟨k + 1, h⟩
  | k + 1, l + 1, c, d, e, h, h2 => by
    have h : (stp t n m c).bind (fun o => o.bind (fun c1 => itk t n m k c1)) = some d := h
    have h2 : (stp t n m c).bind (fun o => o.bind (fun c1 => itk t n m l c1)) = some e := h2
    obtain ⟨o, ho, h⟩ := Option.bind_eq_some_iff.mp h
    obtain ⟨c1, hc, h⟩ := Option.bind_eq_some_iff.mp h
    rw [ho, hc] at h2
    exact itk_det h h2
theorem Rch.e1 {t : Nat → Int32} {n : Nat} {m : Int32} {c d : Cf} (h : Rch t n m c d) (h2 : ∀ e, ¬ stp t n m c = some (some e)) : d = c := by
  obtain ⟨k, hk⟩ := h
  cases k with
  | zero => exact (Option.some.inj hk).symm
  | succ k =>
    have hk : (stp t n m c).bind (fun o => o.bind (fun c1 => itk t n m k c1)) = some d := hk
    obtain ⟨o, ho, hk⟩ := Option.bind_eq_some_iff.mp hk
    obtain ⟨c1, hc, hk⟩ := Option.bind_eq_some_iff.mp hk
    rw [hc] at ho
    exact absurd ho (h2 c1)
/-- two ends of one road are one -/
theorem Rch.un {t : Nat → Int32} {n : Nat} {m : Int32} {c d e : Cf} (h : Rch t n m c d) (h2 : Rch t n m c e) (hd : ∀ x, ¬ stp t n m d = some (some x)) (he : ∀ x, ¬ stp t n m e = some (some x)) : d = e := by
  obtain ⟨k, hk⟩ := h
  obtain ⟨l, hl⟩ := h2
  rcases itk_det hk hl with q | q
  · exact (q.e1 hd).symm
  · exact q.e1 he

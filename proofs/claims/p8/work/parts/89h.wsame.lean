/-! ===== worlds alike ===== -/
section WSAME
variable {s s' : Nat → Nat → Int32} {B C : Nat} {g g' : Nat → Int32} {σ τ : zS}
/-- the class's world and the reference's row: names, lines, edges; where there are names: weights, ends -/
def WE (s : Nat → Nat → Int32) (B : Nat) (g : Nat → Int32) : Prop := (s B 0 = g 0 ∧ s B 1 = g 1 ∧ s B 2 = g 2) ∧ (¬ g 0 = 0 → (∀ j, j < 10 → s (B + 3) j = g (3 + j)) ∧ ∀ j, j < (g 2).toInt.toNat → s (B + 1) j = g (13 + j) ∧ s (B + 2) j = g (23 + j))
def WQ (σ : zS) : Prop := WE σ.1 (σ.2.2 0 4) (σ.1 219) ∧ ∀ k, k < 3 → WE σ.1 (132 + 26 * k) (fun j => σ.1 221 (43 * k + j))
theorem WE_e (h2 : (g 2).toInt ≤ 10) (e : ∀ a, a ≤ 3 → s' (B + a) = s (B + a)) (eg : ∀ j, j < 33 → g' j = g j) (h : WE s B g) : WE s' B g' := by
  have e0 := e 0 (by decide)
  rw [Nat.add_zero] at e0
  unfold WE at h ⊢
  rw [e0, e 1 (by decide), e 2 (by decide), e 3 (by decide), eg 0 (by decide), eg 1 (by decide), eg 2 (by decide)]
  refine ⟨h.1, fun q => ⟨fun j hj => ?_, fun j hj => ?_⟩⟩
  · rw [eg _ (by omega)]; exact (h.2 q).1 j hj
  · rw [eg _ (by omega), eg _ (by omega)]; exact (h.2 q).2 j hj
/-- the cells of worlds -/
def WCL : List Nat := [2, 3, 4, 5, 28, 29, 30, 31, 132, 133, 134, 135, 158, 159, 160, 161, 184, 185, 186, 187]
theorem WCL_m (hB : isWc B) {a : Nat} (ha : a ≤ 3) : B + a ∈ WCL := by
  rcases hB with rfl | rfl | rfl | rfl | rfl <;> rcases (show a = 0 ∨ a = 1 ∨ a = 2 ∨ a = 3 by omega) with rfl | rfl | rfl | rfl <;> decide
/-- both objects' edges are at most ten -/
def E10 (σ : zS) : Prop := (σ.1 219 2).toInt ≤ 10 ∧ ∀ k, k < 3 → (σ.1 221 (43 * k + 2)).toInt ≤ 10
theorem WQ_f {S : List Nat} (h10 : E10 σ) (h4 : σ.2.2 0 4 = 2 ∨ σ.2.2 0 4 = 28) (t : ∀ k, k ∉ S → τ.1 k = σ.1 k) (e4 : τ.2.2 0 4 = σ.2.2 0 4) (hS : ∀ k ∈ WCL, k ∉ S) (h9 : B33 (σ.1 219) (τ.1 219)) (h1 : 221 ∉ S) (h : WQ σ) : WQ τ := by
  have o : ∀ B, isWc B → ∀ a, a ≤ 3 → τ.1 (B + a) = σ.1 (B + a) := fun B hB a ha => t _ (hS _ (WCL_m hB ha))
  refine ⟨?_, fun k hk => ?_⟩
  · rw [e4]
    exact WE_e h10.1 (o _ (by unfold isWc; omega)) h9 h.1
  · rw [t 221 h1]
    exact WE_e (h10.2 k hk) (o _ (wcI hk)) (fun _ _ => rfl) (h.2 k hk)
/-- weigh in both -/
theorem WE_w {x y : Int32} (hx : 0 ≤ x.toInt ∧ x.toInt < 10) (h0 : s' B = s B) (e1 : s' (B + 1) = s (B + 1)) (e2 : s' (B + 2) = s (B + 2)) (e3 : s' (B + 3) = upd (s (B + 3)) x.toInt.toNat y) (h : WE s B g) : WE s' B (upd g (3 + x.toInt.toNat) y) := by
  have o : ∀ j, (j < 3 ∨ 13 ≤ j) → upd g (3 + x.toInt.toNat) y j = g j := fun j hj => upd_n (by omega)
  unfold WE at h ⊢
  rw [h0, e1, e2, e3, o 0 (by omega), o 1 (by omega), o 2 (by omega)]
  refine ⟨h.1, fun q => ⟨fun j hj => ?_, fun j hj => ?_⟩⟩
  · rw [upd_i, upd_i]
    by_cases e : j = x.toInt.toNat
    · rw [if_pos e, if_pos (by omega)]
    · rw [if_neg e, if_neg (by omega)]; exact (h.2 q).1 j hj
  · rw [o _ (by omega), o _ (by omega)]; exact (h.2 q).2 j hj
/-- copies in both -/
theorem WE_cp (h2 : (g 2).toInt ≤ 10) (hc : CPY s s' B C) (eg : ∀ j, j < 43 → g' j = g j) (h : WE s C g) : WE s' B g' := by
  unfold WE at h ⊢
  rw [hc.1.1, hc.1.2.1, hc.1.2.2, eg 0 (by decide), eg 1 (by decide), eg 2 (by decide)]
  refine ⟨h.1, fun q => ⟨fun j hj => ?_, fun j hj => ?_⟩⟩
  · rw [hc.2 3 (by decide) (by decide) j hj, eg _ (by omega)]; exact (h.2 q).1 j hj
  · rw [hc.2 1 (by decide) (by decide) j (by omega), hc.2 2 (by decide) (by decide) j (by omega), eg _ (by omega), eg _ (by omega)]; exact (h.2 q).2 j hj
/-- behind the reading of a world -/
theorem WE_wp (hL : LI g) (h : WP s B g) (eg : ∀ j, j < 43 → g' j = g j) : WE s B g' := by
  have hb := hL.1.1
  unfold WE
  rw [eg 0 (by decide), eg 1 (by decide), eg 2 (by decide)]
  refine ⟨h.1, fun q => ?_⟩
  have n1 : ¬ g 1 = 0 := fun z => q (Int32.toInt_inj.mp ((hL.2.1 z).1.trans rfl))
  have w := h.2.2 n1
  refine ⟨fun j hj => ?_, fun j hj => ?_⟩
  · rw [eg _ (by omega)]; exact (w.2.1 j hj).1
  · rw [eg _ (by omega), eg _ (by omega)]; exact w.2.2 j hj
end WSAME

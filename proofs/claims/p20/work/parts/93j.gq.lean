/-! ===== orders alike, weights in their bounds, the class's store of nodes ===== -/
def OE (s : Nat → Nat → Int32) (B : Nat) (g : Nat → Int32) : Prop := ∀ j : Nat, (j : Int) < (g 0).toInt → s (B + 4) j = g (33 + j)
def WB9 (g : Nat → Int32) : Prop := ∀ j, j < 10 → 0 ≤ (g (3 + j)).toInt ∧ (g (3 + j)).toInt ≤ 99
def GQ (σ : zS) : Prop := (OE σ.1 (σ.2.2 0 4) (σ.1 219) ∧ ∀ k, k < 3 → OE σ.1 (132 + 26 * k) (fun j => σ.1 221 (43 * k + j))) ∧ (WB9 (σ.1 219) ∧ ∀ k, k < 3 → WB9 (fun j => σ.1 221 (43 * k + j))) ∧ HQ σ
section GQS
variable {s s' : Nat → Nat → Int32} {B C : Nat} {g g' t : Nat → Int32} {n : Nat} {σ σ1 σ2 : zS}
theorem OE_e (h10 : (g 0).toInt ≤ 10) (h0 : g' 0 = g 0) (e4 : s' (B + 4) = s (B + 4)) (eg : ∀ j, j < 10 → g' (33 + j) = g (33 + j)) (h : OE s B g) : OE s' B g' := fun j hj => by
  rw [h0] at hj
  rw [e4, eg j (by omega)]
  exact h j hj
theorem OE_cp (h10 : (g 0).toInt ≤ 10) (hc : CPY s s' B C) (eg : ∀ j, j < 43 → g' j = g j) (h : OE s C g) : OE s' B g' := fun j hj => by
  rw [eg 0 (by decide)] at hj
  rw [hc.2 4 (by decide) (by decide) j (by omega), eg (33 + j) (by omega)]
  exact h j hj
theorem OE_wp (hL : LI g) (h : WP s B g) (eg : ∀ j, j < 43 → g' j = g j) : OE s B g' := fun j hj => by
  have hb := hL.1.1.1
  rw [eg 0 (by decide)] at hj
  have n1 : ¬ g 1 = 0 := fun z => by
    have := (hL.2.1 z).1
    omega
  rw [eg (33 + j) (by omega)]
  exact ((h.2.2 n1).2.1 j (by omega)).2
theorem WB9_c (h : ∀ j, 3 ≤ j → j < 13 → g' j = g j) (hW : WB9 g) : WB9 g' := fun j hj => by
  rw [h _ (by omega) (by omega)]; exact hW j hj
theorem WB9_bd {i j sg sg' : Nat} (hW : WB9 g) (ho : bdR t n i g sg = some (j, g', sg')) : WB9 g' := by
  by_cases h1 : g 1 = 0
  · have ho : nmR t n i g sg = some (j, g', sg') := by unfold bdR at ho; rw [if_pos h1] at ho; exact ho
    by_cases q : isW t n i 11 ∧ nOK t n (tkE t n i) 1 10
    · rw [nmR_t q] at ho
      obtain ⟨-, e, -⟩ := some3 ho
      intro k hk
      rw [← e]
      show 0 ≤ (if 3 + k = 0 then _ else if 3 ≤ 3 + k ∧ 3 + k < 13 then (1 : Int32) else _).toInt ∧ (if 3 + k = 0 then _ else if 3 ≤ 3 + k ∧ 3 + k < 13 then (1 : Int32) else _).toInt ≤ 99
      rw [if_neg (by omega), if_pos (by omega)]
      decide
    · rw [nmR_f q] at ho; cases ho
  · have ho : lnR t n i g sg = some (j, g', sg') := by unfold bdR at ho; rw [if_neg h1] at ho; exact ho
    by_cases w12 : isW t n i 12
    · rw [lnR_w w12] at ho
      by_cases q : nmOK t n (tkE t n i) (g 0) ∧ nOK t n (tkE t n (tkE t n i)) 0 99
      · rw [wtR_t q] at ho
        obtain ⟨-, e, -⟩ := some3 ho
        have b := nvI_b q.2
        have b : 0 ≤ (nvI t n (tkE t n (tkE t n i))).toInt ∧ (nvI t n (tkE t n (tkE t n i))).toInt ≤ 99 := b
        intro k hk
        rw [← e, upd_i]
        split
        · exact b
        · exact hW k hk
      · rw [wtR_f q] at ho; cases ho
    · by_cases w13 : isW t n i 13
      · by_cases e2 : g 2 = g 0
        · rw [lnR_m w12 w13 e2] at ho; cases ho
        · rw [lnR_e w12 w13 e2] at ho
          by_cases q : edOK t n (tkE t n i)
          · rw [edR_t q] at ho
            obtain ⟨-, e, -⟩ := some3 ho
            refine WB9_c (fun k h3 h13 => ?_) hW
            rw [← e]
            unfold edRow
            rw [upd_n (by omega), upd_n (by omega), upd_n (by omega)]
          · rw [edR_f q] at ho; cases ho
      · by_cases w14 : isW t n i 14
        · rw [lnR_l w12 w13 w14] at ho
          obtain ⟨p, _, e⟩ := Option.map_eq_some_iff.mp ho
          have eg : g = g' := congrArg (fun z : LC => z.2.1) e
          rw [← eg]; exact hW
        · rw [lnR_z w12 w13 w14] at ho; cases ho
theorem WB9_s {a b : LC} (hW : WB9 a.2.1) (hs : stL t n a = some (some b)) : WB9 b.2.1 := by
  obtain ⟨i, g, sg⟩ := a
  have hW : WB9 g := hW
  by_cases k0 : tkK t n i = 0
  · rw [stL_e (c := (i, g, sg)) k0] at hs; cases hs
  cases eb : bdR t n i g sg with
  | none => rw [stL_n (c := (i, g, sg)) k0 eb] at hs; cases hs
  | some d =>
    rw [stL_s (c := (i, g, sg)) k0 eb] at hs
    split at hs
    · obtain ⟨j, g', sg'⟩ := d
      have e1 : b = (tkE t n j, upd g' 1 (g' 1 + 1), sg') := (Option.some.inj (Option.some.inj hs)).symm
      rw [e1]
      exact WB9_c (fun k h3 _ => upd_n (by omega)) (WB9_bd hW eb)
    · cases hs
theorem WB9_k : ∀ {k : Nat} {a b : LC}, WB9 a.2.1 → itG (stL t n) k a = some b → WB9 b.2.1
  | 0, a, b, h, e => by rw [← show a = b from Option.some.inj e]; exact h
  | k + 1, a, b, h, e => by
    have e : (stL t n a).bind (fun o => o.bind (fun c1 => itG (stL t n) k c1)) = some b := e
    obtain ⟨o, ho, e⟩ := Option.bind_eq_some_iff.mp e
    obtain ⟨c1, hc, e⟩ := Option.bind_eq_some_iff.mp e
    rw [hc] at ho
    exact WB9_k (WB9_s h ho) e
theorem WB9_R {G : Nat → Int32} {b : LC} (hG : ∀ j, j < 43 → G j = 0) (hr : Rc (stL t n) (0, G, 0) b) : WB9 b.2.1 := by
  obtain ⟨k, hk⟩ := hr
  refine WB9_k (fun j hj => ?_) hk
  show 0 ≤ (G (3 + j)).toInt ∧ (G (3 + j)).toInt ≤ 99
  rw [hG _ (by omega)]
  decide
theorem IV_00 (hI : IV σ) : (σ.1 219 0).toInt ≤ 10 ∧ ∀ k, k < 3 → (σ.1 221 (43 * k)).toInt ≤ 10 := ⟨(RI_n hI.1.2).2, fun k hk => (hI.1.2.1.2.1 k hk).1.2⟩
/-- nothing of it is other -/
theorem GQ_f {S : List Nat} (hI : IV σ) (hG : GQ σ) (f : FR S σ σ2) (hS : ∀ k ∈ [6, 32, 111, 112, 114, 115, 116, 136, 162, 188, 219, 221], k ∉ S) : GQ σ2 := by
  have e9 := f.1 219 (hS 219 (by decide))
  have e21 := f.1 221 (hS 221 (by decide))
  have h4 := IV_4 hI
  have i0 := IV_00 hI
  refine ⟨⟨?_, fun k hk => ?_⟩, ⟨by rw [e9]; exact hG.2.1.1, fun k hk => by rw [e21]; exact hG.2.1.2 k hk⟩, HQ_c (fun a ha => f.1 a (hS a ((by decide : ∀ a ∈ [111, 112, 114, 115, 116], a ∈ [6, 32, 111, 112, 114, 115, 116, 136, 162, 188, 219, 221]) a ha))) hG.2.2⟩
  · rw [f.2, e9]
    refine OE_e i0.1 rfl (f.1 _ ?_) (fun _ _ => rfl) hG.1.1
    rcases h4 with h | h
    · rw [h]; exact hS 6 (by decide)
    · rw [h]; exact hS 32 (by decide)
  · rw [e21]
    refine OE_e (i0.2 k hk) rfl (f.1 _ ?_) (fun _ _ => rfl) (hG.1.2 k hk)
    rcases (show k = 0 ∨ k = 1 ∨ k = 2 by omega) with rfl | rfl | rfl
    · exact hS 136 (by decide)
    · exact hS 162 (by decide)
    · exact hS 188 (by decide)
theorem gs_0 {S1 S2 : List Nat} (hI : IV σ) (hG : GQ σ) (t1 : FR S1 σ σ1) (t2 : FR S2 σ1 σ2) (hS : ∀ k ∈ [6, 32, 111, 112, 114, 115, 116, 136, 162, 188, 219, 221], k ∉ S1 ++ S2) : GQ σ2 := GQ_f hI hG (FRu t1 t2) hS
theorem gs_weigh {x1 x2 w : Int32} (hI : IV σ) (hG : GQ σ) (t1 : FR [5, 31] σ σ1) (t2 : FR [219] σ1 σ2 ∧ (wgOK (σ1.1 219 0) x1 x2 → w = σ1.1 219 (3 + x1.toInt.toNat) ∧ σ2.1 219 = upd (σ1.1 219) (3 + x1.toInt.toNat) x2) ∧ (¬ wgOK (σ1.1 219 0) x1 x2 → w = -2 ∧ σ2.1 219 = σ1.1 219)) : GQ σ2 := by
  have f := FRu t1 t2.1
  have e9 : σ1.1 219 = σ.1 219 := t1.1 219 (by decide)
  have i0 := IV_00 hI
  have n10 := RI_n hI.1.2
  have h4 := IV_4 hI
  have e21 : σ2.1 221 = σ.1 221 := f.1 221 (by decide)
  have b : (∀ j, j < 3 ∨ 13 ≤ j → σ2.1 219 j = σ.1 219 j) ∧ WB9 (σ2.1 219) := by
    by_cases q : wgOK (σ1.1 219 0) x1 x2
    · rw [(t2.2.1 q).2, e9]
      have h := q.1
      have h2 := q.2
      rw [e9] at h
      refine ⟨fun j hj => upd_n (by omega), fun j hj => ?_⟩
      rw [upd_i]
      split
      · exact h2
      · exact hG.2.1.1 j hj
    · rw [(t2.2.2 q).2, e9]
      exact ⟨fun _ _ => rfl, hG.2.1.1⟩
  refine ⟨⟨?_, fun k hk => ?_⟩, ⟨b.2, fun k hk => by rw [e21]; exact hG.2.1.2 k hk⟩, HQ_c (fun a ha => f.1 a ((by decide : ∀ a ∈ [111, 112, 114, 115, 116], a ∉ [5, 31] ++ [219]) a ha)) hG.2.2⟩
  · rw [f.2]
    refine OE_e i0.1 (b.1 0 (Or.inl (by decide))) (f.1 _ ?_) (fun j _ => b.1 _ (Or.inr (by omega))) hG.1.1
    rcases h4 with h | h
    · rw [h]; decide
    · rw [h]; decide
  · rw [e21]
    refine OE_e (i0.2 k hk) rfl (f.1 _ ?_) (fun _ _ => rfl) (hG.1.2 k hk)
    rcases (show k = 0 ∨ k = 1 ∨ k = 2 by omega) with rfl | rfl | rfl <;> decide
theorem gs_keep {x1 : Int32} (hI : IV σ) (hG : GQ σ) (h1 : σ1.2.2 = σ.2.2 ∧ (0 ≤ x1.toInt ∧ x1.toInt ≤ 2 → CPY σ.1 σ1.1 (132 + 26 * x1.toInt.toNat) (σ.2.2 0 4) ∧ ∀ k, (k < 132 + 26 * x1.toInt.toNat ∨ 132 + 26 * x1.toInt.toNat + 4 < k) → k ≠ 55 → σ1.1 k = σ.1 k) ∧ (¬ (0 ≤ x1.toInt ∧ x1.toInt ≤ 2) → σ1.1 = σ.1)) (h2 : FR [221, 222, 223] σ1 σ2 ∧ (0 ≤ x1.toInt ∧ x1.toInt ≤ 2 → (∀ j, j < 43 → σ2.1 221 (43 * x1.toInt.toNat + j) = σ1.1 219 j) ∧ ∀ k, (k < 43 * x1.toInt.toNat ∨ 43 * x1.toInt.toNat + 43 ≤ k) → σ2.1 221 k = σ1.1 221 k) ∧ (¬ (0 ≤ x1.toInt ∧ x1.toInt ≤ 2) → σ2.1 = σ1.1)) : GQ σ2 := by
  have h4 := IV_4 hI
  have i0 := IV_00 hI
  obtain ⟨r1, t1, n1⟩ := h1
  obtain ⟨f2, t2, n2⟩ := h2
  have r4 : σ2.2.2 0 4 = (σ.2.2 0 4) := f2.2.trans (by rw [r1])
  by_cases q : 0 ≤ x1.toInt ∧ x1.toInt ≤ 2
  · obtain ⟨c1, o1⟩ := t1 q
    obtain ⟨c2, k2⟩ := t2 q
    have e2 : ∀ k, k < 218 → σ2.1 k = σ1.1 k := fun k hk => f2.1 k (by simp only [List.mem_cons, List.not_mem_nil, or_false]; omega)
    have e9 : σ1.1 219 = σ.1 219 := o1 219 (by omega) (by decide)
    have e9' : σ2.1 219 = σ.1 219 := (f2.1 219 (by decide)).trans e9
    have e21 : σ1.1 221 = σ.1 221 := o1 221 (by omega) (by decide)
    rw [e9] at c2
    rw [e21] at k2
    refine ⟨⟨?_, fun k hk => ?_⟩, ⟨by rw [e9']; exact hG.2.1.1, fun k hk => ?_⟩, HQ_c (fun a ha => ?_) hG.2.2⟩
    · rw [r4, e9']
      exact OE_e i0.1 rfl (by rw [e2 _ (by omega), o1 _ (by omega) (by omega)]) (fun _ _ => rfl) hG.1.1
    · by_cases e : k = x1.toInt.toNat
      · subst e
        have c1' : CPY σ.1 σ2.1 (132 + 26 * x1.toInt.toNat) (σ.2.2 0 4) := by
          unfold CPY at c1 ⊢
          rw [e2 (132 + 26 * x1.toInt.toNat) (by omega)]
          exact ⟨c1.1, fun a l1 l4 j hj => by rw [e2 _ (by omega)]; exact c1.2 a l1 l4 j hj⟩
        exact OE_cp i0.1 c1' c2 hG.1.1
      · refine OE_e (i0.2 k hk) (k2 _ (by omega)) (by rw [e2 _ (by omega), o1 _ (by omega) (by omega)]) (fun j hj => ?_) (hG.1.2 k hk)
        exact k2 _ (by omega)
    · by_cases e : k = x1.toInt.toNat
      · subst e
        exact WB9_c (fun j _ hj => c2 j (by omega)) hG.2.1.1
      · exact WB9_c (fun j _ hj => k2 _ (by omega)) (hG.2.1.2 k hk)
    · have ha2 : 111 ≤ a ∧ a ≤ 116 := by
        simp only [List.mem_cons, List.not_mem_nil, or_false] at ha
        omega
      rw [e2 a (by omega), o1 a (by omega) (by omega)]
  · have e1 := n1 q
    have e2 := n2 q
    refine ⟨⟨?_, fun k hk => ?_⟩, ⟨by rw [e2, e1]; exact hG.2.1.1, fun k hk => by rw [e2, e1]; exact hG.2.1.2 k hk⟩, HQ_c (fun a _ => by rw [e2, e1]) hG.2.2⟩
    · rw [r4, e2, e1]; exact hG.1.1
    · rw [e2, e1]; exact hG.1.2 k hk
theorem gs_back {x1 : Int32} (hI : IV σ) (hG : GQ σ) (h1 : σ1.2.2 = σ.2.2 ∧ ((0 ≤ x1.toInt ∧ x1.toInt ≤ 2) ∧ ¬ σ.1 55 x1.toInt.toNat = 0 → CPY σ.1 σ1.1 (σ.2.2 0 4) (132 + 26 * x1.toInt.toNat) ∧ ∀ k, (k < (σ.2.2 0 4) ∨ (σ.2.2 0 4) + 4 < k) → σ1.1 k = σ.1 k) ∧ (¬ ((0 ≤ x1.toInt ∧ x1.toInt ≤ 2) ∧ ¬ σ.1 55 x1.toInt.toNat = 0) → σ1.1 = σ.1)) (h2 : FR [219, 220] σ1 σ2 ∧ ((0 ≤ x1.toInt ∧ x1.toInt ≤ 2) ∧ ¬ σ1.1 223 x1.toInt.toNat = 0 → ∀ j, j < 43 → σ2.1 219 j = σ1.1 221 (43 * x1.toInt.toNat + j)) ∧ (¬ ((0 ≤ x1.toInt ∧ x1.toInt ≤ 2) ∧ ¬ σ1.1 223 x1.toInt.toNat = 0) → σ2.1 = σ1.1)) : GQ σ2 := by
  have h4 := IV_4 hI
  have i0 := IV_00 hI
  obtain ⟨r1, t1, n1⟩ := h1
  obtain ⟨f2, t2, n2⟩ := h2
  have r4 : σ2.2.2 0 4 = (σ.2.2 0 4) := f2.2.trans (by rw [r1])
  have e5 : (0 ≤ x1.toInt ∧ x1.toInt ≤ 2) → σ.1 55 x1.toInt.toNat = σ.1 223 x1.toInt.toNat := fun q => hI.2.2.1 _ (by omega)
  by_cases q : (0 ≤ x1.toInt ∧ x1.toInt ≤ 2) ∧ ¬ σ.1 55 x1.toInt.toNat = 0
  · obtain ⟨c1, o1⟩ := t1 q
    have e23 : σ1.1 223 = σ.1 223 := o1 223 (by omega)
    have e21 : σ1.1 221 = σ.1 221 := o1 221 (by omega)
    have c2 := t2 ⟨q.1, by rw [e23, ← e5 q.1]; exact q.2⟩
    rw [e21] at c2
    have e2 : ∀ k, k < 218 → σ2.1 k = σ1.1 k := fun k hk => f2.1 k (by simp only [List.mem_cons, List.not_mem_nil, or_false]; omega)
    have e21' : σ2.1 221 = σ.1 221 := (f2.1 221 (by decide)).trans e21
    have k3 : x1.toInt.toNat < 3 := by omega
    refine ⟨⟨?_, fun k hk => ?_⟩, ⟨WB9_c (g := fun j => σ.1 221 (43 * x1.toInt.toNat + j)) (fun j _ hj => c2 j (by omega)) (hG.2.1.2 _ k3), fun k hk => by rw [e21']; exact hG.2.1.2 k hk⟩, HQ_c (fun a ha => ?_) hG.2.2⟩
    · rw [r4]
      have c1' : CPY σ.1 σ2.1 (σ.2.2 0 4) (132 + 26 * x1.toInt.toNat) := by
        unfold CPY at c1 ⊢
        rw [e2 (σ.2.2 0 4) (by omega)]
        exact ⟨c1.1, fun a l1 l4 j hj => by rw [e2 _ (by omega)]; exact c1.2 a l1 l4 j hj⟩
      exact OE_cp (g := fun j => σ.1 221 (43 * x1.toInt.toNat + j)) (i0.2 _ k3) c1' c2 (hG.1.2 _ k3)
    · rw [e21']
      exact OE_e (i0.2 k hk) rfl (by rw [e2 _ (by omega), o1 _ (by omega)]) (fun _ _ => rfl) (hG.1.2 k hk)
    · have ha2 : 111 ≤ a ∧ a ≤ 116 := by
        simp only [List.mem_cons, List.not_mem_nil, or_false] at ha
        omega
      rw [e2 a (by omega), o1 a (by omega)]
  · have e1 := n1 q
    have e2 := n2 (fun z => q ⟨z.1, by rw [e5 z.1, ← e1]; exact z.2⟩)
    refine ⟨⟨?_, fun k hk => ?_⟩, ⟨by rw [e2, e1]; exact hG.2.1.1, fun k hk => by rw [e2, e1]; exact hG.2.1.2 k hk⟩, HQ_c (fun a _ => by rw [e2, e1]) hG.2.2⟩
    · rw [r4, e2, e1]; exact hG.1.1
    · rw [e2, e1]; exact hG.1.2 k hk
theorem gs_world {v w : Int32} {S1 S2 : List Nat} (hS1 : ∀ k ∈ [111, 112, 114, 115, 116, 136, 162, 188, 218, 219, 221, 224], k ∉ S1) (hS2 : ∀ k, k < 218 → k ∉ S2) (h21 : 221 ∉ S2) (hI : IV σ) (hG : GQ σ) (h1 : (CI σ1 ∧ RI σ1) ∧ FC S1 σ σ1 ∧ σ1.1 0 1 = 0 ∧ ∀ G : Nat → Int32, (∀ j, j < 43 → G j = 0) → CXQ (σ.1 1) (σ.1 0 1).toInt.toNat (σ.2.2 0 5) σ G (v, σ1)) (h2 : (CI σ2 ∧ RI σ2) ∧ FC S2 σ1 σ2 ∧ σ2.1 218 7 = 0 ∧ ∃ G, (∀ j, j < 43 → G j = 0) ∧ RWQ (σ1.1 224) (σ1.1 218 7).toInt.toNat G (σ1.1 219) (w, σ2)) (f2 : FR S2 σ1 σ2) : GQ σ2 := by
  have h4 := hI.1.1.2.2
  have i0 := IV_00 hI
  have e9 : σ1.1 219 = σ.1 219 := h1.2.1 219 (hS1 219 (by decide))
  have e21 : σ2.1 221 = σ.1 221 := (f2.1 221 h21).trans (h1.2.1 221 (hS1 221 (by decide)))
  have e2 : ∀ k, k < 218 → σ2.1 k = σ1.1 k := fun k hk => f2.1 k (hS2 k hk)
  have im : ∀ k, k < 3 → OE σ2.1 (132 + 26 * k) (fun j => σ2.1 221 (43 * k + j)) := fun k hk => by
    rw [e21]
    refine OE_e (i0.2 k hk) rfl ?_ (fun _ _ => rfl) (hG.1.2 k hk)
    rw [e2 _ (by omega)]
    rcases (show k = 0 ∨ k = 1 ∨ k = 2 by omega) with rfl | rfl | rfl
    · exact h1.2.1 136 (hS1 136 (by decide))
    · exact h1.2.1 162 (hS1 162 (by decide))
    · exact h1.2.1 188 (hS1 188 (by decide))
  have hq : HQ σ2 := HQ_c (fun a ha => by
    have ha2 : a < 218 := by
      simp only [List.mem_cons, List.not_mem_nil, or_false] at ha
      omega
    rw [e2 a ha2]
    exact h1.2.1 a (hS1 a ((by decide : ∀ a ∈ [111, 112, 114, 115, 116], a ∈ [111, 112, 114, 115, 116, 136, 162, 188, 218, 219, 221, 224]) a ha))) hG.2.2
  have wi : ∀ k, k < 3 → WB9 (fun j => σ2.1 221 (43 * k + j)) := fun k hk => by rw [e21]; exact hG.2.1.2 k hk
  obtain ⟨G, hG0, hr⟩ := h2.2.2.2
  have hc := h1.2.2.2 G hG0
  rw [h1.2.1 218 (hS1 218 (by decide)), h1.2.1 224 (hS1 224 (by decide)), ← hI.2.1, ← hI.2.2.2.2, e9] at hr
  rcases hc with ⟨⟨v4, r4, o4⟩, d, rc, sn⟩ | ⟨r4, d, ⟨rc, se⟩, ⟨ev, hL⟩, hWP⟩
  · rcases hr with ⟨w4, e219, _⟩ | ⟨d', ⟨rc', se'⟩, _⟩
    · have r4 : σ1.2.2 0 4 = (σ.2.2 0 4) := r4
      have o4 : ∀ k, 1 < k → k < 57 → (k < σ.2.2 0 5 ∨ σ.2.2 0 5 + 4 < k) → σ1.1 k = σ.1 k := o4
      have e219 : σ2.1 219 = σ.1 219 := e219
      refine ⟨⟨?_, im⟩, ⟨by rw [e219]; exact hG.2.1.1, wi⟩, hq⟩
      rw [f2.2, r4, e219]
      exact OE_e i0.1 rfl (by rw [e2 _ (by omega), o4 _ (by omega) (by omega) (by omega)]) (fun _ _ => rfl) hG.1.1
    · have u : d = d' := rc.un rc' (fun x k => by rw [sn] at k; cases k) (fun x k => by rw [se'] at k; cases k)
      rw [u, se'] at sn; cases sn
  · rcases hr with ⟨_, _, d', rc', sn'⟩ | ⟨d', ⟨rc', se'⟩, _, e219⟩
    · have u : d = d' := rc.un rc' (fun x k => by rw [se] at k; cases k) (fun x k => by rw [sn'] at k; cases k)
      rw [u, sn'] at se; cases se
    · have u : d = d' := rc.un rc' (fun x k => by rw [se] at k; cases k) (fun x k => by rw [se'] at k; cases k)
      subst u
      have r4 : σ1.2.2 0 4 = σ.2.2 0 5 := r4
      have e219 : ∀ j, j < 43 → σ2.1 219 j = d.2.1 j := e219
      have hWP : WP σ1.1 (σ.2.2 0 5) d.2.1 := hWP
      refine ⟨⟨?_, im⟩, ⟨WB9_c (fun j _ hj => e219 j (by omega)) (WB9_R hG0 rc), wi⟩, hq⟩
      rw [f2.2, r4]
      have e : ∀ a, a ≤ 4 → σ2.1 (σ.2.2 0 5 + a) = σ1.1 (σ.2.2 0 5 + a) := fun a ha => e2 _ (by omega)
      have e0 := e 0 (by decide)
      rw [Nat.add_zero] at e0
      refine OE_wp (g := d.2.1) hL ?_ e219
      unfold WP WB at hWP ⊢
      rw [e0, e 1 (by decide), e 2 (by decide), e 3 (by decide), e 4 (by decide)]; exact hWP
end GQS

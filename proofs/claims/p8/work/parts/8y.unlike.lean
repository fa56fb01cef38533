/-! ===== the ends of an edge are unlike ===== -/
section UNL
variable {t : Nat → Int32} {n i j sg sg' : Nat} {g g' : Nat → Int32}
def UE (g : Nat → Int32) : Prop := ∀ k, k < (g 2).toInt.toNat → g (13 + k) ≠ g (23 + k)
theorem UE_c (h2 : g' 2 = g 2) (h : ∀ k, k < 10 → g' (13 + k) = g (13 + k) ∧ g' (23 + k) = g (23 + k)) (h10 : (g 2).toInt ≤ 10) (hU : UE g) : UE g' := fun k hk => by
  rw [h2] at hk
  rw [(h k (by omega)).1, (h k (by omega)).2]
  exact hU k hk
theorem nvI_i {t : Nat → Int32} {n i : Nat} : (nvI t n i).toInt = nv5 t n i := by
  have h0 : 0 ≤ nv5 t n i ∧ nv5 t n i ≤ 99999 := by unfold nv5; omega
  unfold nvI
  rw [nI_toInt (by omega)]
  omega
theorem UE_bd (hL : LI g) (hU : UE g) (ho : bdR t n i g sg = some (j, g', sg')) : UE g' := by
  have hb := hL.1.1
  have h10 : (g 2).toInt ≤ 10 := by omega
  by_cases h1 : g 1 = 0
  · have ho : nmR t n i g sg = some (j, g', sg') := by unfold bdR at ho; rw [if_pos h1] at ho; exact ho
    by_cases q : isW t n i 11 ∧ nOK t n (tkE t n i) 1 10
    · rw [nmR_t q] at ho
      obtain ⟨-, e, -⟩ := some3 ho
      intro k hk
      rw [← e] at hk
      have hk : k < (g 2).toInt.toNat := hk
      have := (hL.2.1 h1).2
      omega
    · rw [nmR_f q] at ho; cases ho
  · have ho : lnR t n i g sg = some (j, g', sg') := by unfold bdR at ho; rw [if_neg h1] at ho; exact ho
    by_cases w12 : isW t n i 12
    · rw [lnR_w w12] at ho
      by_cases q : nmOK t n (tkE t n i) (g 0) ∧ nOK t n (tkE t n (tkE t n i)) 0 99
      · rw [wtR_t q] at ho
        obtain ⟨-, e, -⟩ := some3 ho
        have b : ((t (tkF t n (tkE t n i))).toInt - 97).toNat ≤ 9 := by have := q.1.2.2; omega
        generalize ((t (tkF t n (tkE t n i))).toInt - 97).toNat = k at *
        have o : ∀ a, (a < 3 ∨ 13 ≤ a) → g' a = g a := fun a ha => by rw [← e]; exact upd_n (by omega)
        exact UE_c (o 2 (by omega)) (fun k _ => ⟨o _ (by omega), o _ (by omega)⟩) h10 hU
      · rw [wtR_f q] at ho; cases ho
    · by_cases w13 : isW t n i 13
      · by_cases e2 : g 2 = g 0
        · rw [lnR_m w12 w13 e2] at ho; cases ho
        · rw [lnR_e w12 w13 e2] at ho
          by_cases q : edOK t n (tkE t n i)
          · rw [edR_t q] at ho
            obtain ⟨-, e, -⟩ := some3 ho
            have ne : nvI t n (tkE t n i) ≠ nvI t n (tkE t n (tkE t n i)) := fun z => by
              have z := congrArg Int32.toInt z
              rw [nvI_i, nvI_i] at z
              exact q.2.1 ⟨q.2.2.1, z.symm⟩
            generalize nvI t n (tkE t n i) = v at *
            generalize nvI t n (tkE t n (tkE t n i)) = w at *
            have lt : (g 2).toInt < (g 0).toInt := by
              have : (g 2).toInt ≠ (g 0).toInt := fun z => e2 (Int32.toInt_inj.mp z)
              omega
            have s2 : (g 2 + 1).toInt = (g 2).toInt + 1 := a1_ ⟨by omega, by omega⟩
            obtain ⟨m, hm⟩ : ∃ m, m = (g 2).toInt.toNat := ⟨_, rfl⟩
            have eg : ∀ a, g' a = if a = 2 then g 2 + 1 else if a = 23 + m then w else if a = 13 + m then v else g a := fun a => by rw [← e, hm]; rfl
            intro k hk
            rw [eg 2, if_pos rfl, s2] at hk
            by_cases y : k = m
            · rw [y, eg (13 + m), if_neg (by omega), if_neg (by omega), if_pos rfl, eg (23 + m), if_neg (by omega), if_pos rfl]
              exact ne
            · rw [eg (13 + k), if_neg (by omega), if_neg (by omega), if_neg (by omega), eg (23 + k), if_neg (by omega), if_neg (by omega), if_neg (by omega)]
              exact hU k (by omega)
          · rw [edR_f q] at ho; cases ho
      · by_cases w14 : isW t n i 14
        · rw [lnR_l w12 w13 w14] at ho
          obtain ⟨p, _, e⟩ := Option.map_eq_some_iff.mp ho
          have eg : g = g' := congrArg (fun z : LC => z.2.1) e
          rw [← eg]; exact hU
        · rw [lnR_z w12 w13 w14] at ho; cases ho
theorem UE_s {a b : LW2} (h6 : n ≤ 600) (h : HW n a) (hU : UE a.1.2.1) (hs : stW t n a = some (some b)) : UE b.1.2.1 := by
  obtain ⟨⟨i, g, sg⟩, O⟩ := a
  obtain ⟨⟨hL, le⟩, _⟩ := h
  have hL : LI g := hL
  have hU : UE g := hU
  obtain ⟨s1, _⟩ := stW_i hs
  have s1 : stL t n (i, g, sg) = some (some b.1) := s1
  by_cases k0 : tkK t n i = 0
  · rw [stL_e (c := (i, g, sg)) k0] at s1; cases s1
  cases eb : bdR t n i g sg with
  | none => rw [stL_n (c := (i, g, sg)) k0 eb] at s1; cases s1
  | some d =>
    rw [stL_s (c := (i, g, sg)) k0 eb] at s1
    split at s1
    · obtain ⟨j, g', sg'⟩ := d
      have e1 : b.1 = (tkE t n j, upd g' 1 (g' 1 + 1), sg') := (Option.some.inj (Option.some.inj s1)).symm
      have F := (LI_bd hL eb).1
      rw [e1]
      have o : ∀ a, a ≠ 1 → (upd g' 1 (g' 1 + 1)) a = g' a := fun a ha => upd_n ha
      exact UE_c (g := g') (o 2 (by decide)) (fun k _ => ⟨o _ (by omega), o _ (by omega)⟩) (by have := F.1; omega) (UE_bd hL hU eb)
    · cases s1
theorem UE_k (h6 : n ≤ 600) : ∀ {k : Nat} {a b : LW2}, HW n a → UE a.1.2.1 → itG (stW t n) k a = some b → UE b.1.2.1
  | 0, a, b, _, h, e => by rw [← show a = b from Option.some.inj e]; exact h
  | k + 1, a, b, h, hU, e => by
    have e : (stW t n a).bind (fun o => o.bind (fun c1 => itG (stW t n) k c1)) = some b := e
    obtain ⟨o, ho, e⟩ := Option.bind_eq_some_iff.mp e
    obtain ⟨c1, hc, e⟩ := Option.bind_eq_some_iff.mp e
    rw [hc] at ho
    exact UE_k h6 (HW_s h6 h ho) (UE_s h6 h hU ho) e
theorem UE_R {G : Nat → Int32} {b : LW2} (h6 : n ≤ 600) (hG : ∀ j, j < 43 → G j = 0) (hr : Rc (stW t n) ((0, G, 0), []) b) : UE b.1.2.1 := by
  obtain ⟨k, hk⟩ := hr
  refine UE_k h6 (HW_0 hG) (fun k hk => ?_) hk
  have hk : k < (G 2).toInt.toNat := hk
  rw [hG 2 (by decide)] at hk
  exact absurd hk (Nat.not_lt_zero _)
end UNL

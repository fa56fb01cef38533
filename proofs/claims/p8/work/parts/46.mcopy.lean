def TKI (g : Nat → Int64) (b : Nat) (n m : Int) : Prop := ∀ j : Nat, (j : Int) < n → 0 ≤ (g (b + j)).toInt ∧ (g (b + j)).toInt < m
theorem TKI_s {g : Nat → Int64} {b i : Nat} {n m : Int} {v : Int64} (h : TKI g b n m) (hn : 0 ≤ n) (e : g i = v) (hi : i = b + n.toNat) (h0 : 0 ≤ v.toInt) (h1 : v.toInt < m) : TKI g b (n + 1) m := by
  intro j hj
  by_cases q : (j : Int) < n
  · exact h j q
  · have : j = n.toNat := by omega
    rw [this, ← hi, e]; exact ⟨h0, h1⟩
theorem TKI_m {g : Nat → Int64} {b : Nat} {n n2 m : Int} (h : TKI g b n m) (hn : n2 ≤ n) : TKI g b n2 m := fun j hj => h j (by omega)
theorem i32of {v : Int64} (h0 : 0 ≤ v.toInt) (h1 : v.toInt < 1025) : (Int64.toInt32 v).toInt = v.toInt := by
  rw [Int64.toInt_toInt32]
  exact Int.bmod_eq_of_le (by omega) (by omega)
theorem mny_lt {n w : Int32} {a : Int} (h0 : 0 ≤ n.toInt) (h1 : n.toInt ≤ 10) (e : w = mny n) (h2 : 0 ≤ a) (h3 : a ≤ (w - 1).toInt) : a < (mny n).toInt := by
  have q := mny_b h0 h1
  rw [e, ti_sub] at h3
  simp only [Int32.reduceToInt] at h3
  omega

set_option maxHeartbeats 4000000 in
set_option maxRecDepth 100000 in
theorem s_X12_takes_ {N : Nat} (hN : 1048576 ≤ N) {x1 : Int32} {x2 : Int32} {σ0 : zS}  (hR : RF σ0.2.2) (hM : MW (σ0.1 219) 0) (hB : ZB σ0.1) (hS : MS (σ0.1 239)) : Ok (f_X12_takes_ N 218 x1 x2 σ0) (fun r => Tr [220, 227] σ0 r.2 ∧ (ZB r.2.1)) := by
  have hT : Tr [220, 227] σ0 σ0 := Tr.rf
  have hn := hM.1
  have he : 0 ≤ (σ0.1 219 2).toInt ∧ (σ0.1 219 2).toInt ≤ 10 := hM.2.1
  have qm := mny_b hn.1 hn.2
  rw [f_X12_takes_.eq_1]
  refine ok_gC rfl ?_
  refine ok_zbT (Q := fun V σ => (V = 0 ∨ V = 1) ∧ (¬ V = 0 → 0 ≤ x1.toInt ∧ x1.toInt ≤ 9)) hT (s_X12_isRegister hN (hR.tr hT) (by first | exact hM | (rw [hT.2 219 (by decide)]; exact hM))) (fun _ h9 => absurd h9 List.not_mem_nil) (fun v1 σ2 hOσ2 hT hqv1 => ?_)
  have hqv1 : (v1 = 0 ∨ v1 = 1) ∧ (¬ v1 = 0 → 0 ≤ x1.toInt ∧ x1.toInt ≤ 9) := hqv1
  have hB : ZB σ2.1 := ZB.tr hOσ2 (by decide) hB
  refine ok_if (fun hc3 => ?_) (fun hc3 => ?_)
  · exact ok_some ⟨hT, (show ZB σ2.1 from by exact hB)⟩
  · have qhc3 := hqv1.2 hc3
    refine ok_zbT (Q := fun V σ => (V = 0 ∨ V = 1) ∧ (¬ V = 0 → 0 ≤ x2.toInt ∧ x2.toInt ≤ 3)) hT (s_X12_isSlot hN (hR.tr hT) ) (fun _ h9 => absurd h9 List.not_mem_nil) (fun v4 σ5 hOσ5 hT hqv4 => ?_)
    have hqv4 : (v4 = 0 ∨ v4 = 1) ∧ (¬ v4 = 0 → 0 ≤ x2.toInt ∧ x2.toInt ≤ 3) := hqv4
    have hB : ZB σ5.1 := ZB.tr hOσ5 (by decide) hB
    refine ok_if (fun hc6 => ?_) (fun hc6 => ?_)
    · exact ok_some ⟨hT, (show ZB σ5.1 from by exact hB)⟩
    · have qhc6 := hqv4.2 hc6
      refine ok_gR (v := 239) hT rfl (hR 218 35 rfl) ?_
      refine ok_aIn rfl (by first | omega | decide | (simp only [Int32.le_iff_toInt_le, Int32.lt_iff_toInt_lt, ti_add, ti_sub, ti_mul, Int32.reduceToInt] at *; omega)) (by first | omega | decide | (simp only [Int32.le_iff_toInt_le, Int32.lt_iff_toInt_lt, ti_add, ti_sub, ti_mul, Int32.reduceToInt] at *; omega)) (fun v8 ev8 => ?_)
      have qs23 : -1 ≤ v8.toInt ∧ v8.toInt ≤ 60 := by rw [ev8, hT.2 239 (by decide)]; exact hS _
      refine ok_if (fun hc9 => ?_) (fun hc9 => ?_)
      · exact ok_some ⟨hT, (show ZB σ5.1 from by exact hB)⟩
      · refine ok_lp (fun t : Int32 × zS => Tr [220, 227] σ0 (t.2) ∧ ((0 ≤ (t.1).toInt ∧ (t.1).toInt ≤ 60) ∧ TKI ((t.2).2.1 241) (60 * x2.toInt.toNat) (t.1).toInt (mny (σ0.1 219 0)).toInt) ∧ (ZB (t.2).1)) (fun t : Int32 × zS => (60 - (t.1).toInt).toNat) (fun again10 t hI ih33_10 => ?_) N _ (show Tr [220, 227] σ0 σ5 ∧ ((0 ≤ (0 : Int32).toInt ∧ (0 : Int32).toInt ≤ 60) ∧ TKI (σ5.2.1 241) (60 * x2.toInt.toNat) (0 : Int32).toInt (mny (σ0.1 219 0)).toInt) ∧ (ZB σ5.1) from ⟨hT, (by exact ⟨⟨by decide, by decide⟩, fun j hj => absurd hj (by simp only [Int32.reduceToInt]; omega)⟩), hB⟩) (show (60 - (0 : Int32).toInt).toNat < N from (by first | omega | decide | (simp only [Int32.le_iff_toInt_le, Int32.lt_iff_toInt_lt, ti_add, ti_sub, ti_mul, Int32.reduceToInt] at *; omega)))
        obtain ⟨x3_10, σ10⟩ := t
        have hI : Tr [220, 227] σ0 σ10 ∧ ((0 ≤ x3_10.toInt ∧ x3_10.toInt ≤ 60) ∧ TKI (σ10.2.1 241) (60 * x2.toInt.toNat) x3_10.toInt (mny (σ0.1 219 0)).toInt) ∧ (ZB σ10.1) := hI
        obtain ⟨hT, hI10, hB⟩ := hI
        rw [F_X12_takes__33.eq_1]
        refine ok_gR (v := 239) hT rfl (hR 218 35 rfl) ?_
        refine ok_aIn rfl (by first | omega | decide | (simp only [Int32.le_iff_toInt_le, Int32.lt_iff_toInt_lt, ti_add, ti_sub, ti_mul, Int32.reduceToInt] at *; omega)) (by first | omega | decide | (simp only [Int32.le_iff_toInt_le, Int32.lt_iff_toInt_lt, ti_add, ti_sub, ti_mul, Int32.reduceToInt] at *; omega)) (fun v12 ev12 => ?_)
        have qs39 : -1 ≤ v12.toInt ∧ v12.toInt ≤ 60 := by rw [ev12, hT.2 239 (by decide)]; exact hS _
        refine ok_if (fun hc13 => ?_) (fun hc13 => ?_)
        · refine ok_lp (fun t : Int32 × zS => Tr [220, 227] σ0 (t.2) ∧ (0 ≤ (t.1).toInt ∧ TKI ((t.2).2.1 241) (60 * x2.toInt.toNat) (σ0.1 239 x2.toNatClampNeg).toInt (mny (σ0.1 219 0)).toInt) ∧ (ZB (t.2).1)) (fun t : Int32 × zS => (1024 - (t.1).toInt).toNat) (fun again14 t hI ih79_14 => ?_) N _ (show Tr [220, 227] σ0 σ10 ∧ (0 ≤ (0 : Int32).toInt ∧ TKI (σ10.2.1 241) (60 * x2.toInt.toNat) (σ0.1 239 x2.toNatClampNeg).toInt (mny (σ0.1 219 0)).toInt) ∧ (ZB σ10.1) from ⟨hT, (by exact ⟨by decide, TKI_m hI10.2 (by have e9 := ev12; rw [hT.2 239 (by decide)] at e9; rw [← e9]; rw [Int32.le_iff_toInt_le] at hc13; exact hc13)⟩), hB⟩) (show (1024 - (0 : Int32).toInt).toNat < N from (by first | omega | decide | (simp only [Int32.le_iff_toInt_le, Int32.lt_iff_toInt_lt, ti_add, ti_sub, ti_mul, Int32.reduceToInt] at *; omega)))
          obtain ⟨x3_14, σ14⟩ := t
          have hI : Tr [220, 227] σ0 σ14 ∧ (0 ≤ x3_14.toInt ∧ TKI (σ14.2.1 241) (60 * x2.toInt.toNat) (σ0.1 239 x2.toNatClampNeg).toInt (mny (σ0.1 219 0)).toInt) ∧ (ZB σ14.1) := hI
          obtain ⟨hT, hI14, hB⟩ := hI
          rw [F_X12_takes__79.eq_1]
          refine ok_if (fun hc15 => ?_) (fun hc15 => ?_)
          · refine ok_lp (fun t : Int32 × zS => Tr [220, 227] σ0 (t.2) ∧ (0 ≤ (t.1).toInt ∧ TKI ((t.2).2.1 241) (60 * x2.toInt.toNat) (σ0.1 239 x2.toNatClampNeg).toInt (mny (σ0.1 219 0)).toInt) ∧ (ZB (t.2).1)) (fun t : Int32 × zS => (60 - (t.1).toInt).toNat) (fun again16 t hI ih101_16 => ?_) N _ (show Tr [220, 227] σ0 σ14 ∧ (0 ≤ (0 : Int32).toInt ∧ TKI (σ14.2.1 241) (60 * x2.toInt.toNat) (σ0.1 239 x2.toNatClampNeg).toInt (mny (σ0.1 219 0)).toInt) ∧ (ZB σ14.1) from ⟨hT, (by exact ⟨by decide, hI14.2⟩), hB⟩) (show (60 - (0 : Int32).toInt).toNat < N from (by first | omega | decide | (simp only [Int32.le_iff_toInt_le, Int32.lt_iff_toInt_lt, ti_add, ti_sub, ti_mul, Int32.reduceToInt] at *; omega)))
            obtain ⟨x3_16, σ16⟩ := t
            have hI : Tr [220, 227] σ0 σ16 ∧ (0 ≤ x3_16.toInt ∧ TKI (σ16.2.1 241) (60 * x2.toInt.toNat) (σ0.1 239 x2.toNatClampNeg).toInt (mny (σ0.1 219 0)).toInt) ∧ (ZB σ16.1) := hI
            obtain ⟨hT, hI16, hB⟩ := hI
            rw [F_X12_takes__101.eq_1]
            refine ok_gR (v := 239) hT rfl (hR 218 35 rfl) ?_
            refine ok_aIn rfl (by first | omega | decide | (simp only [Int32.le_iff_toInt_le, Int32.lt_iff_toInt_lt, ti_add, ti_sub, ti_mul, Int32.reduceToInt] at *; omega)) (by first | omega | decide | (simp only [Int32.le_iff_toInt_le, Int32.lt_iff_toInt_lt, ti_add, ti_sub, ti_mul, Int32.reduceToInt] at *; omega)) (fun v18 ev18 => ?_)
            have qs107 : -1 ≤ v18.toInt ∧ v18.toInt ≤ 60 := by rw [ev18, hT.2 239 (by decide)]; exact hS _
            refine ok_if (fun hc19 => ?_) (fun hc19 => ?_)
            · refine ok_gC rfl ?_
              refine ok_zbT (Q := fun V σ => ZB σ.1) hT (s_X12_lays hN (hR.tr hT) (by first | exact hM | (rw [hT.2 219 (by decide)]; exact hM)) (hB) (by first | omega | decide | (simp only [Int32.le_iff_toInt_le, Int32.lt_iff_toInt_lt, ti_add, ti_sub, ti_mul, Int32.reduceToInt] at *; omega))) (by decide) (fun v20 σ21 hOσ21 hT hqv20 => ?_)
              have hqv20 : ZB σ21.1 := hqv20
              have hB : ZB σ21.1 := by first | exact hqv20 | exact ZB_s eσ21 hB
              exact ok_some ⟨hT, (show ZB σ21.1 from by exact hB)⟩
            · have m9 := ix60 (x := x2) (y := x3_16) (by first | omega | (simp only [Int32.le_iff_toInt_le, Int32.lt_iff_toInt_lt, ti_add, ti_sub, ti_mul, Int32.reduceToInt] at *; omega)) (by first | omega | (simp only [Int32.le_iff_toInt_le, Int32.lt_iff_toInt_lt, ti_add, ti_sub, ti_mul, Int32.reduceToInt] at *; omega)) (by first | omega | (simp only [Int32.le_iff_toInt_le, Int32.lt_iff_toInt_lt, ti_add, ti_sub, ti_mul, Int32.reduceToInt] at *; omega)) (by first | omega | (simp only [Int32.le_iff_toInt_le, Int32.lt_iff_toInt_lt, ti_add, ti_sub, ti_mul, Int32.reduceToInt] at *; omega))
              refine ok_gR (v := 227) hT rfl (hR 218 17 rfl) ?_
              refine ok_gR (v := 241) hT rfl (hR 218 37 rfl) ?_
              refine ok_aJ rfl (by first | omega | decide | (simp only [Int32.le_iff_toInt_le, Int32.lt_iff_toInt_lt, ti_add, ti_sub, ti_mul, Int32.reduceToInt] at *; omega)) (by first | omega | decide | (simp only [Int32.le_iff_toInt_le, Int32.lt_iff_toInt_lt, ti_add, ti_sub, ti_mul, Int32.reduceToInt] at *; omega)) ?_
              generalize ev24 : σ16.2.1 (241) (Int32.toNatClampNeg ((60 * x2) + x3_16)) = v24
              have b9 : (x3_16.toInt.toNat : Int) < (σ0.1 239 x2.toNatClampNeg).toInt := by have e9 := ev18; rw [hT.2 239 (by decide)] at e9; rw [← e9]; rw [Int32.le_iff_toInt_le] at hc19; omega
              have t9 := hI16.2 _ b9
              rw [← m9.2.2.2, ev24] at t9
              have t8 := i32of t9.1 (by omega)
              refine ok_s16 hT rfl (by decide) (by first | omega | decide | (simp only [Int32.le_iff_toInt_le, Int32.lt_iff_toInt_lt, ti_add, ti_sub, ti_mul, Int32.reduceToInt] at *; omega)) (by first | omega | decide | (simp only [Int32.le_iff_toInt_le, Int32.lt_iff_toInt_lt, ti_add, ti_sub, ti_mul, Int32.reduceToInt] at *; omega)) (fun σ25 eσ25 hOσ25 hT => ?_)
              have hB : ZB σ25.1 := by first | exact HQ | exact ZB_s eσ25 hB
              exact ih101_16 (x3_16 + 1, σ25) (show Tr [220, 227] σ0 σ25 ∧ (0 ≤ (x3_16 + 1).toInt ∧ TKI (σ25.2.1 241) (60 * x2.toInt.toNat) (σ0.1 239 x2.toNatClampNeg).toInt (mny (σ0.1 219 0)).toInt) ∧ (ZB σ25.1) from ⟨hT, (by exact ⟨by first | omega | (simp only [Int32.le_iff_toInt_le, Int32.lt_iff_toInt_lt, ti_add, ti_sub, ti_mul, Int32.reduceToInt] at *; omega), by rw [eσ25]; exact hI16.2⟩), hB⟩) (show (60 - (x3_16 + 1).toInt).toNat < (60 - x3_16.toInt).toNat from (by first | omega | decide | (simp only [Int32.le_iff_toInt_le, Int32.lt_iff_toInt_lt, ti_add, ti_sub, ti_mul, Int32.reduceToInt] at *; omega)))
          · refine ok_gR (v := 227) hT rfl (hR 218 17 rfl) ?_
            refine ok_s16 hT rfl (by decide) (by first | omega | decide | (simp only [Int32.le_iff_toInt_le, Int32.lt_iff_toInt_lt, ti_add, ti_sub, ti_mul, Int32.reduceToInt] at *; omega)) (by first | omega | decide | (simp only [Int32.le_iff_toInt_le, Int32.lt_iff_toInt_lt, ti_add, ti_sub, ti_mul, Int32.reduceToInt] at *; omega)) (fun σ27 eσ27 hOσ27 hT => ?_)
            have hB : ZB σ27.1 := by first | exact HQ | exact ZB_s eσ27 hB
            exact ih79_14 (x3_14 + 1, σ27) (show Tr [220, 227] σ0 σ27 ∧ (0 ≤ (x3_14 + 1).toInt ∧ TKI (σ27.2.1 241) (60 * x2.toInt.toNat) (σ0.1 239 x2.toNatClampNeg).toInt (mny (σ0.1 219 0)).toInt) ∧ (ZB σ27.1) from ⟨hT, (by exact ⟨by first | omega | (simp only [Int32.le_iff_toInt_le, Int32.lt_iff_toInt_lt, ti_add, ti_sub, ti_mul, Int32.reduceToInt] at *; omega), by rw [eσ27]; exact hI14.2⟩), hB⟩) (show (1024 - (x3_14 + 1).toInt).toNat < (1024 - x3_14.toInt).toNat from (by first | omega | decide | (simp only [Int32.le_iff_toInt_le, Int32.lt_iff_toInt_lt, ti_add, ti_sub, ti_mul, Int32.reduceToInt] at *; omega)))
        · have m9 := ix60 (x := x2) (y := x3_10) (by first | omega | (simp only [Int32.le_iff_toInt_le, Int32.lt_iff_toInt_lt, ti_add, ti_sub, ti_mul, Int32.reduceToInt] at *; omega)) (by first | omega | (simp only [Int32.le_iff_toInt_le, Int32.lt_iff_toInt_lt, ti_add, ti_sub, ti_mul, Int32.reduceToInt] at *; omega)) (by first | omega | (simp only [Int32.le_iff_toInt_le, Int32.lt_iff_toInt_lt, ti_add, ti_sub, ti_mul, Int32.reduceToInt] at *; omega)) (by first | omega | (simp only [Int32.le_iff_toInt_le, Int32.lt_iff_toInt_lt, ti_add, ti_sub, ti_mul, Int32.reduceToInt] at *; omega))
          refine ok_gR (v := 241) hT rfl (hR 218 37 rfl) ?_
          refine ok_aJ rfl (by first | omega | decide | (simp only [Int32.le_iff_toInt_le, Int32.lt_iff_toInt_lt, ti_add, ti_sub, ti_mul, Int32.reduceToInt] at *; omega)) (by first | omega | decide | (simp only [Int32.le_iff_toInt_le, Int32.lt_iff_toInt_lt, ti_add, ti_sub, ti_mul, Int32.reduceToInt] at *; omega)) ?_
          generalize ev29 : σ10.2.1 (241) (Int32.toNatClampNeg ((60 * x2) + x3_10)) = v29
          refine ok_gC rfl ?_
          refine ok_zbX (Q := fun V => V = mny (σ10.1 219 0)) (x_X12_many (hR.tr hT)) (fun v30 hqv30 => ?_)
          refine ok_zbX (Q := fun V => ¬ V = 0 → (0 : Int64).toInt ≤ v29.toInt ∧ v29.toInt ≤ (Int32.toInt64 (v30 - 1)).toInt) (x_X12_in) (fun v32 hqv32 => ?_)
          refine ok_if (fun hc34 => ?_) (fun hc34 => ?_)
          · exact ok_some ⟨hT, (show ZB σ10.1 from by exact hB)⟩
          · have mq : v30 = mny (σ0.1 219 0) := by rw [hqv30, hT.2 219 (by decide)]
            have r9 := hqv32 hc34
            simp only [i64_of, Int64.reduceToInt] at r9
            have hx : (x3_10 + 1).toInt = x3_10.toInt + 1 := by simp only [ti_add, Int32.reduceToInt]; omega
            exact ih33_10 (x3_10 + 1, σ10) (show Tr [220, 227] σ0 σ10 ∧ ((0 ≤ (x3_10 + 1).toInt ∧ (x3_10 + 1).toInt ≤ 60) ∧ TKI (σ10.2.1 241) (60 * x2.toInt.toNat) (x3_10 + 1).toInt (mny (σ0.1 219 0)).toInt) ∧ (ZB σ10.1) from ⟨hT, (by exact ⟨⟨by first | omega | (simp only [Int32.le_iff_toInt_le, Int32.lt_iff_toInt_lt, ti_add, ti_sub, ti_mul, Int32.reduceToInt] at *; omega), by first | omega | (simp only [Int32.le_iff_toInt_le, Int32.lt_iff_toInt_lt, ti_add, ti_sub, ti_mul, Int32.reduceToInt] at *; omega)⟩, by rw [hx]; exact TKI_s hI10.2 (by omega) ev29 m9.2.2.2 r9.1 (mny_lt hn.1 hn.2 mq r9.1 r9.2)⟩), hB⟩) (show (60 - (x3_10 + 1).toInt).toNat < (60 - x3_10.toInt).toNat from (by first | omega | decide | (simp only [Int32.le_iff_toInt_le, Int32.lt_iff_toInt_lt, ti_add, ti_sub, ti_mul, Int32.reduceToInt] at *; omega)))

theorem ix60b {x y z : Int32} (h0 : 0 ≤ x.toInt) (h1 : x.toInt ≤ 3) (h2 : 0 ≤ y.toInt) (h3 : y.toInt + z.toInt < 60) (h4 : 0 ≤ z.toInt) : 0 ≤ ((60 * x + y) + z).toInt ∧ ((60 * x + y) + z).toInt < 240 := by
  have m := ix60 (x := x) (y := y) h0 h1 h2 (by omega)
  rw [ti_add, m.2.2.1]
  rcases (show x.toInt = 0 ∨ x.toInt = 1 ∨ x.toInt = 2 ∨ x.toInt = 3 by omega) with e | e | e | e <;> rw [e] <;> omega
theorem cmp_le {a : Int32} (h : a ≤ 0) : ¬ 0 < a := by
  rw [Int32.lt_iff_toInt_lt]; rw [Int32.le_iff_toInt_le] at h; omega

set_option maxHeartbeats 4000000 in
set_option maxRecDepth 100000 in
theorem s_X12_paste {N : Nat} (hN : 1048576 ≤ N) {x1 : Int32} {x2 : Int32} {x3 : Int32} {x4 : Int32} {x5 : Int32} {σ0 : zS}  (hR : RF σ0.2.2) (hS : MS (σ0.1 239)) : Ok (f_X12_paste N 218 x1 x2 x3 x4 x5 σ0) (fun r => Tr [] σ0 r.2 ∧ (True)) := by
  have hT : Tr [] σ0 σ0 := Tr.rf
  rw [f_X12_paste.eq_1]
  refine ok_zbT (Q := fun V σ => (V = 0 ∨ V = 1) ∧ (¬ V = 0 → 0 ≤ x1.toInt ∧ x1.toInt ≤ 3)) hT (s_X12_isSlot hN (hR.tr hT) ) (fun _ h9 => absurd h9 List.not_mem_nil) (fun v1 σ2 hOσ2 hT hqv1 => ?_)
  have hqv1 : (v1 = 0 ∨ v1 = 1) ∧ (¬ v1 = 0 → 0 ≤ x1.toInt ∧ x1.toInt ≤ 3) := hqv1
  refine ok_if (fun hc3 => ?_) (fun hc3 => ?_)
  · exact ok_some ⟨hT, trivial⟩
  · have qhc3 := hqv1.2 hc3
    refine ok_zbT (Q := fun V σ => (V = 0 ∨ V = 1) ∧ (¬ V = 0 → 0 ≤ x3.toInt ∧ x3.toInt ≤ 3)) hT (s_X12_isSlot hN (hR.tr hT) ) (fun _ h9 => absurd h9 List.not_mem_nil) (fun v4 σ5 hOσ5 hT hqv4 => ?_)
    have hqv4 : (v4 = 0 ∨ v4 = 1) ∧ (¬ v4 = 0 → 0 ≤ x3.toInt ∧ x3.toInt ≤ 3) := hqv4
    refine ok_if (fun hc6 => ?_) (fun hc6 => ?_)
    · exact ok_some ⟨hT, trivial⟩
    · have qhc6 := hqv4.2 hc6
      refine ok_gR (v := 239) hT rfl (hR 218 35 rfl) ?_
      refine ok_aIn rfl (by first | omega | decide | (simp only [Int32.le_iff_toInt_le, Int32.lt_iff_toInt_lt, ti_add, ti_sub, ti_mul, Int32.reduceToInt] at *; omega)) (by first | omega | decide | (simp only [Int32.le_iff_toInt_le, Int32.lt_iff_toInt_lt, ti_add, ti_sub, ti_mul, Int32.reduceToInt] at *; omega)) (fun v8 ev8 => ?_)
      have qs22 : -1 ≤ v8.toInt ∧ v8.toInt ≤ 60 := by rw [ev8, hT.2 239 (by decide)]; exact hS _
      refine ok_if (fun hc9 => ?_) (fun hc9 => ?_)
      · exact ok_some ⟨hT, trivial⟩
      · refine ok_gR (v := 239) hT rfl (hR 218 35 rfl) ?_
        refine ok_aIn rfl (by first | omega | decide | (simp only [Int32.le_iff_toInt_le, Int32.lt_iff_toInt_lt, ti_add, ti_sub, ti_mul, Int32.reduceToInt] at *; omega)) (by first | omega | decide | (simp only [Int32.le_iff_toInt_le, Int32.lt_iff_toInt_lt, ti_add, ti_sub, ti_mul, Int32.reduceToInt] at *; omega)) (fun v11 ev11 => ?_)
        have qs32 : -1 ≤ v11.toInt ∧ v11.toInt ≤ 60 := by rw [ev11, hT.2 239 (by decide)]; exact hS _
        refine ok_if (fun hc12 => ?_) (fun hc12 => ?_)
        · exact ok_some ⟨hT, trivial⟩
        · refine ok_gR (v := 240) hT rfl (hR 218 36 rfl) ?_
          refine ok_aIn rfl (by first | omega | decide | (simp only [Int32.le_iff_toInt_le, Int32.lt_iff_toInt_lt, ti_add, ti_sub, ti_mul, Int32.reduceToInt] at *; omega)) (by first | omega | decide | (simp only [Int32.le_iff_toInt_le, Int32.lt_iff_toInt_lt, ti_add, ti_sub, ti_mul, Int32.reduceToInt] at *; omega)) (fun v14 ev14 => ?_)
          refine ok_gR (v := 240) hT rfl (hR 218 36 rfl) ?_
          refine ok_aIn rfl (by first | omega | decide | (simp only [Int32.le_iff_toInt_le, Int32.lt_iff_toInt_lt, ti_add, ti_sub, ti_mul, Int32.reduceToInt] at *; omega)) (by first | omega | decide | (simp only [Int32.le_iff_toInt_le, Int32.lt_iff_toInt_lt, ti_add, ti_sub, ti_mul, Int32.reduceToInt] at *; omega)) (fun v16 ev16 => ?_)
          refine ok_if (fun hc17 => ?_) (fun hc17 => ?_)
          · refine ok_if (fun hc18 => ?_) (fun hc18 => ?_)
            · exact ok_some ⟨hT, trivial⟩
            · refine ok_if (fun hc19 => ?_) (fun hc19 => ?_)
              · exact ok_some ⟨hT, trivial⟩
              · refine ok_if (fun hc20 => ?_) (fun hc20 => ?_)
                · exact ok_some ⟨hT, trivial⟩
                · refine ok_gR (v := 239) hT rfl (hR 218 35 rfl) ?_
                  refine ok_aIn rfl (by first | omega | decide | (simp only [Int32.le_iff_toInt_le, Int32.lt_iff_toInt_lt, ti_add, ti_sub, ti_mul, Int32.reduceToInt] at *; omega)) (by first | omega | decide | (simp only [Int32.le_iff_toInt_le, Int32.lt_iff_toInt_lt, ti_add, ti_sub, ti_mul, Int32.reduceToInt] at *; omega)) (fun v22 ev22 => ?_)
                  have qs83 : -1 ≤ v22.toInt ∧ v22.toInt ≤ 60 := by rw [ev22, hT.2 239 (by decide)]; exact hS _
                  refine ok_if (fun hc23 => ?_) (fun hc23 => ?_)
                  · exact ok_some ⟨hT, trivial⟩
                  · have s1 := spans_ok (by first | omega | (simp only [Int32.le_iff_toInt_le, Int32.lt_iff_toInt_lt, ti_add, ti_sub, ti_mul, Int32.reduceToInt] at *; omega)) (by first | omega | (simp only [Int32.le_iff_toInt_le, Int32.lt_iff_toInt_lt, ti_add, ti_sub, ti_mul, Int32.reduceToInt] at *; omega)) hc23
                    refine ok_gR (v := 239) hT rfl (hR 218 35 rfl) ?_
                    refine ok_aIn rfl (by first | omega | decide | (simp only [Int32.le_iff_toInt_le, Int32.lt_iff_toInt_lt, ti_add, ti_sub, ti_mul, Int32.reduceToInt] at *; omega)) (by first | omega | decide | (simp only [Int32.le_iff_toInt_le, Int32.lt_iff_toInt_lt, ti_add, ti_sub, ti_mul, Int32.reduceToInt] at *; omega)) (fun v25 ev25 => ?_)
                    have qs101 : -1 ≤ v25.toInt ∧ v25.toInt ≤ 60 := by rw [ev25, hT.2 239 (by decide)]; exact hS _
                    refine ok_if (fun hc26 => ?_) (fun hc26 => ?_)
                    · have s2 := spans_ok (by first | omega | (simp only [Int32.le_iff_toInt_le, Int32.lt_iff_toInt_lt, ti_add, ti_sub, ti_mul, Int32.reduceToInt] at *; omega)) (by first | omega | (simp only [Int32.le_iff_toInt_le, Int32.lt_iff_toInt_lt, ti_add, ti_sub, ti_mul, Int32.reduceToInt] at *; omega)) (cmp_le hc26)
                      refine ok_lp (fun t : Int32 × zS => Tr [] σ0 (t.2) ∧ (0 ≤ (t.1).toInt)) (fun t : Int32 × zS => (60 - (t.1).toInt).toNat) (fun again27 t hI ih113_27 => ?_) N _ (show Tr [] σ0 σ5 ∧ (0 ≤ (0 : Int32).toInt) from ⟨hT, (by first | omega | decide | (simp only [Int32.le_iff_toInt_le, Int32.lt_iff_toInt_lt, ti_add, ti_sub, ti_mul, Int32.reduceToInt] at *; omega))⟩) (show (60 - (0 : Int32).toInt).toNat < N from (by first | omega | decide | (simp only [Int32.le_iff_toInt_le, Int32.lt_iff_toInt_lt, ti_add, ti_sub, ti_mul, Int32.reduceToInt] at *; omega)))
                      obtain ⟨x6_27, σ27⟩ := t
                      have hI : Tr [] σ0 σ27 ∧ (0 ≤ x6_27.toInt) := hI
                      obtain ⟨hT, hI27⟩ := hI
                      rw [F_X12_paste_113.eq_1]
                      refine ok_if (fun hc28 => ?_) (fun hc28 => ?_)
                      · refine ok_lp (fun t : Int32 × zS => Tr [] σ0 (t.2) ∧ (0 ≤ (t.1).toInt)) (fun t : Int32 × zS => (60 - (t.1).toInt).toNat) (fun again29 t hI ih150_29 => ?_) N _ (show Tr [] σ0 σ27 ∧ (0 ≤ (0 : Int32).toInt) from ⟨hT, (by first | omega | decide | (simp only [Int32.le_iff_toInt_le, Int32.lt_iff_toInt_lt, ti_add, ti_sub, ti_mul, Int32.reduceToInt] at *; omega))⟩) (show (60 - (0 : Int32).toInt).toNat < N from (by first | omega | decide | (simp only [Int32.le_iff_toInt_le, Int32.lt_iff_toInt_lt, ti_add, ti_sub, ti_mul, Int32.reduceToInt] at *; omega)))
                        obtain ⟨x6_29, σ29⟩ := t
                        have hI : Tr [] σ0 σ29 ∧ (0 ≤ x6_29.toInt) := hI
                        obtain ⟨hT, hI29⟩ := hI
                        rw [F_X12_paste_150.eq_1]
                        refine ok_if (fun hc30 => ?_) (fun hc30 => ?_)
                        · exact ok_some ⟨hT, trivial⟩
                        · have m9 := ix60b (x := x3) (y := x4) (z := x6_29) (by first | omega | (simp only [Int32.le_iff_toInt_le, Int32.lt_iff_toInt_lt, ti_add, ti_sub, ti_mul, Int32.reduceToInt] at *; omega)) (by first | omega | (simp only [Int32.le_iff_toInt_le, Int32.lt_iff_toInt_lt, ti_add, ti_sub, ti_mul, Int32.reduceToInt] at *; omega)) (by first | omega | (simp only [Int32.le_iff_toInt_le, Int32.lt_iff_toInt_lt, ti_add, ti_sub, ti_mul, Int32.reduceToInt] at *; omega)) (by first | omega | (simp only [Int32.le_iff_toInt_le, Int32.lt_iff_toInt_lt, ti_add, ti_sub, ti_mul, Int32.reduceToInt] at *; omega)) (by first | omega | (simp only [Int32.le_iff_toInt_le, Int32.lt_iff_toInt_lt, ti_add, ti_sub, ti_mul, Int32.reduceToInt] at *; omega))
                          refine ok_gR (v := 241) hT rfl (hR 218 37 rfl) ?_
                          refine ok_gR (v := 242) hT rfl (hR 218 38 rfl) ?_
                          refine ok_aJ rfl (by first | omega | decide | (simp only [Int32.le_iff_toInt_le, Int32.lt_iff_toInt_lt, ti_add, ti_sub, ti_mul, Int32.reduceToInt] at *; omega)) (by first | omega | decide | (simp only [Int32.le_iff_toInt_le, Int32.lt_iff_toInt_lt, ti_add, ti_sub, ti_mul, Int32.reduceToInt] at *; omega)) ?_
                          generalize σ29.2.1 (242) (Int32.toNatClampNeg (x6_29)) = v33
                          refine ok_sJ hT rfl (by first | omega | decide | (simp only [Int32.le_iff_toInt_le, Int32.lt_iff_toInt_lt, ti_add, ti_sub, ti_mul, Int32.reduceToInt] at *; omega)) (by first | omega | decide | (simp only [Int32.le_iff_toInt_le, Int32.lt_iff_toInt_lt, ti_add, ti_sub, ti_mul, Int32.reduceToInt] at *; omega)) (fun σ34 eσ34 hOσ34 hT => ?_)
                          exact ih150_29 (x6_29 + 1, σ34) (show Tr [] σ0 σ34 ∧ (0 ≤ (x6_29 + 1).toInt) from ⟨hT, (by first | omega | decide | (simp only [Int32.le_iff_toInt_le, Int32.lt_iff_toInt_lt, ti_add, ti_sub, ti_mul, Int32.reduceToInt] at *; omega))⟩) (show (60 - (x6_29 + 1).toInt).toNat < (60 - x6_29.toInt).toNat from (by first | omega | decide | (simp only [Int32.le_iff_toInt_le, Int32.lt_iff_toInt_lt, ti_add, ti_sub, ti_mul, Int32.reduceToInt] at *; omega)))
                      · have m9 := ix60b (x := x1) (y := x2) (z := x6_27) (by first | omega | (simp only [Int32.le_iff_toInt_le, Int32.lt_iff_toInt_lt, ti_add, ti_sub, ti_mul, Int32.reduceToInt] at *; omega)) (by first | omega | (simp only [Int32.le_iff_toInt_le, Int32.lt_iff_toInt_lt, ti_add, ti_sub, ti_mul, Int32.reduceToInt] at *; omega)) (by first | omega | (simp only [Int32.le_iff_toInt_le, Int32.lt_iff_toInt_lt, ti_add, ti_sub, ti_mul, Int32.reduceToInt] at *; omega)) (by first | omega | (simp only [Int32.le_iff_toInt_le, Int32.lt_iff_toInt_lt, ti_add, ti_sub, ti_mul, Int32.reduceToInt] at *; omega)) (by first | omega | (simp only [Int32.le_iff_toInt_le, Int32.lt_iff_toInt_lt, ti_add, ti_sub, ti_mul, Int32.reduceToInt] at *; omega))
                        refine ok_gR (v := 242) hT rfl (hR 218 38 rfl) ?_
                        refine ok_gR (v := 241) hT rfl (hR 218 37 rfl) ?_
                        refine ok_aJ rfl (by first | omega | decide | (simp only [Int32.le_iff_toInt_le, Int32.lt_iff_toInt_lt, ti_add, ti_sub, ti_mul, Int32.reduceToInt] at *; omega)) (by first | omega | decide | (simp only [Int32.le_iff_toInt_le, Int32.lt_iff_toInt_lt, ti_add, ti_sub, ti_mul, Int32.reduceToInt] at *; omega)) ?_
                        generalize σ27.2.1 (241) (Int32.toNatClampNeg (((60 * x1) + x2) + x6_27)) = v37
                        refine ok_sJ hT rfl (by first | omega | decide | (simp only [Int32.le_iff_toInt_le, Int32.lt_iff_toInt_lt, ti_add, ti_sub, ti_mul, Int32.reduceToInt] at *; omega)) (by first | omega | decide | (simp only [Int32.le_iff_toInt_le, Int32.lt_iff_toInt_lt, ti_add, ti_sub, ti_mul, Int32.reduceToInt] at *; omega)) (fun σ38 eσ38 hOσ38 hT => ?_)
                        exact ih113_27 (x6_27 + 1, σ38) (show Tr [] σ0 σ38 ∧ (0 ≤ (x6_27 + 1).toInt) from ⟨hT, (by first | omega | decide | (simp only [Int32.le_iff_toInt_le, Int32.lt_iff_toInt_lt, ti_add, ti_sub, ti_mul, Int32.reduceToInt] at *; omega))⟩) (show (60 - (x6_27 + 1).toInt).toNat < (60 - x6_27.toInt).toNat from (by first | omega | decide | (simp only [Int32.le_iff_toInt_le, Int32.lt_iff_toInt_lt, ti_add, ti_sub, ti_mul, Int32.reduceToInt] at *; omega)))
                    · exact ok_some ⟨hT, trivial⟩
          · exact ok_some ⟨hT, trivial⟩

theorem x2_X12_in {N : Nat} {a b c : Int64} {σ : zS} : Ok (f_X12_in N a b c σ) (fun r => r.2 = σ ∧ (¬ r.1 = 0 ↔ b.toInt ≤ a.toInt ∧ a.toInt ≤ c.toInt)) := by
  rw [f_X12_in.eq_1]
  refine ok_if (fun h => ok_rZ (Or.inl rfl) ⟨rfl, fun q => absurd rfl q, fun q => ?_⟩) (fun h => ok_if (fun h2 => ok_rZ (Or.inl rfl) ⟨rfl, fun q => absurd rfl q, fun q => ?_⟩) (fun h2 => ok_rZ (Or.inr rfl) ⟨rfl, fun _ => ⟨in_ok h, in_ok2 h2⟩, fun _ => (show ¬ (1 : Int32) = 0 by decide)⟩))
  · rw [zcmp_lt] at h; omega
  · rw [zcmp_gt] at h2; omega
theorem ix43 {x y : Int32} (h0 : 0 ≤ x.toInt) (h1 : x.toInt ≤ 2) (h2 : 0 ≤ y.toInt) (h3 : y.toInt < 43) : 0 ≤ (43 * x + y).toInt ∧ (43 * x + y).toInt < 129 ∧ (43 * x + y).toNatClampNeg = 43 * x.toInt.toNat + y.toInt.toNat := by
  have e9 : (43 * x + y).toNatClampNeg = (43 * x + y).toInt.toNat := rfl
  have m := tm_c (x := x) 43 (by decide) (by decide) h0 (by omega)
  rw [e9, ti_add, m]; simp only [Int32.reduceToInt]
  rcases (show x.toInt = 0 ∨ x.toInt = 1 ∨ x.toInt = 2 by omega) with e | e | e <;> rw [e] <;> omega
theorem ixF {x y : Int32} (h0 : 0 ≤ x.toInt) (h1 : x.toInt ≤ 2) (h2 : 0 ≤ y.toInt) (h3 : y.toInt < 10240) : 0 ≤ (10240 * x + y).toInt ∧ (10240 * x + y).toInt < 30720 := by
  have m := tm_c (x := x) 10240 (by decide) (by decide) h0 (by omega)
  rw [ti_add, m]; simp only [Int32.reduceToInt]
  rcases (show x.toInt = 0 ∨ x.toInt = 1 ∨ x.toInt = 2 by omega) with e | e | e <;> rw [e] <;> omega

set_option maxHeartbeats 4000000 in
set_option maxRecDepth 100000 in
theorem s_X12_keep {N : Nat} (hN : 1048576 ≤ N) {x1 : Int32} {σ0 : zS}  (hR : RF σ0.2.2) (hM : MW (σ0.1 219) 0) (hB : ZB σ0.1) (hI3 : MI (σ0.1 221)) : Ok (f_X12_keep N 218 x1 σ0) (fun r => Tr [221, 222, 223] σ0 r.2 ∧ (ZB r.2.1 ∧ MI (r.2.1 221) ∧ r.1 = if 0 ≤ x1.toInt ∧ x1.toInt ≤ 2 then 0 else -2)) := by
  have hT : Tr [221, 222, 223] σ0 σ0 := Tr.rf
  have hn := hM.1
  have he : 0 ≤ (σ0.1 219 2).toInt ∧ (σ0.1 219 2).toInt ≤ 10 := hM.2.1
  have qm := mny_b hn.1 hn.2
  rw [f_X12_keep.eq_1]
  refine ok_zbX (Q := fun V => ¬ V = 0 ↔ (0 : Int64).toInt ≤ (Int32.toInt64 x1).toInt ∧ (Int32.toInt64 x1).toInt ≤ (2 : Int64).toInt) (x2_X12_in) (fun v1 hqv1 => ?_)
  simp only [i64_of, Int64.reduceToInt] at hqv1
  refine ok_if (fun hc3 => ?_) (fun hc3 => ?_)
  · have qk : ¬ (0 ≤ x1.toInt ∧ x1.toInt ≤ 2) := fun h9 => hqv1.mpr h9 hc3
    exact ok_some ⟨hT, (show ZB σ0.1 ∧ MI (σ0.1 221) ∧ (-2 : Int32) = if 0 ≤ x1.toInt ∧ x1.toInt ≤ 2 then 0 else -2 from by exact ⟨hB, hI3, (if_neg qk).symm⟩)⟩
  · have qk := hqv1.mp hc3
    refine ok_lp (fun t : Int32 × zS => Tr [221, 222, 223] σ0 (t.2) ∧ ((0 ≤ (t.1).toInt ∧ (t.1).toInt ≤ 43) ∧ KP ((t.2).1 221) (σ0.1 221) (σ0.1 219) (43 * x1.toInt.toNat) 0 (t.1).toInt.toNat) ∧ (ZB (t.2).1)) (fun t : Int32 × zS => (43 - (t.1).toInt).toNat) (fun again4 t hI ih17_4 => ?_) N _ (show Tr [221, 222, 223] σ0 σ0 ∧ ((0 ≤ (0 : Int32).toInt ∧ (0 : Int32).toInt ≤ 43) ∧ KP (σ0.1 221) (σ0.1 221) (σ0.1 219) (43 * x1.toInt.toNat) 0 (0 : Int32).toInt.toNat) ∧ (ZB σ0.1) from ⟨hT, (by exact ⟨⟨by decide, by decide⟩, ⟨fun j hj => absurd hj (Nat.not_lt_zero _), fun _ _ => rfl⟩⟩), hB⟩) (show (43 - (0 : Int32).toInt).toNat < N from (by first | omega | decide | (simp only [Int32.le_iff_toInt_le, Int32.lt_iff_toInt_lt, ti_add, ti_sub, ti_mul, Int32.reduceToInt] at *; omega)))
    obtain ⟨x2_4, σ4⟩ := t
    have hI : Tr [221, 222, 223] σ0 σ4 ∧ ((0 ≤ x2_4.toInt ∧ x2_4.toInt ≤ 43) ∧ KP (σ4.1 221) (σ0.1 221) (σ0.1 219) (43 * x1.toInt.toNat) 0 x2_4.toInt.toNat) ∧ (ZB σ4.1) := hI
    obtain ⟨hT, hI4, hB⟩ := hI
    rw [F_X12_keep_17.eq_1]
    have hK := hI4.2
    refine ok_if (fun hc5 => ?_) (fun hc5 => ?_)
    · have e9 : x2_4.toInt.toNat = 43 := by first | omega | (simp only [Int32.le_iff_toInt_le, Int32.lt_iff_toInt_lt, ti_add, ti_sub, ti_mul, Int32.reduceToInt] at *; omega)
      rw [e9] at hK
      refine ok_lp (fun t : Int32 × zS => Tr [221, 222, 223] σ0 (t.2) ∧ (0 ≤ (t.1).toInt ∧ KP ((t.2).1 221) (σ0.1 221) (σ0.1 219) (43 * x1.toInt.toNat) 0 43) ∧ (ZB (t.2).1)) (fun t : Int32 × zS => (10240 - (t.1).toInt).toNat) (fun again6 t hI ih48_6 => ?_) N _ (show Tr [221, 222, 223] σ0 σ4 ∧ (0 ≤ (0 : Int32).toInt ∧ KP (σ4.1 221) (σ0.1 221) (σ0.1 219) (43 * x1.toInt.toNat) 0 43) ∧ (ZB σ4.1) from ⟨hT, (by exact ⟨by decide, hK⟩), hB⟩) (show (10240 - (0 : Int32).toInt).toNat < N from (by first | omega | decide | (simp only [Int32.le_iff_toInt_le, Int32.lt_iff_toInt_lt, ti_add, ti_sub, ti_mul, Int32.reduceToInt] at *; omega)))
      obtain ⟨x2_6, σ6⟩ := t
      have hI : Tr [221, 222, 223] σ0 σ6 ∧ (0 ≤ x2_6.toInt ∧ KP (σ6.1 221) (σ0.1 221) (σ0.1 219) (43 * x1.toInt.toNat) 0 43) ∧ (ZB σ6.1) := hI
      obtain ⟨hT, hI6, hB⟩ := hI
      rw [F_X12_keep_48.eq_1]
      have hK := hI6.2
      refine ok_if (fun hc7 => ?_) (fun hc7 => ?_)
      · refine ok_gR (v := 223) hT rfl (hR 218 5 rfl) ?_
        refine ok_s16 hT rfl (by decide) (by first | omega | decide | (simp only [Int32.le_iff_toInt_le, Int32.lt_iff_toInt_lt, ti_add, ti_sub, ti_mul, Int32.reduceToInt] at *; omega)) (by first | omega | decide | (simp only [Int32.le_iff_toInt_le, Int32.lt_iff_toInt_lt, ti_add, ti_sub, ti_mul, Int32.reduceToInt] at *; omega)) (fun σ9 eσ9 hOσ9 hT => ?_)
        have hK : KP (σ9.1 221) (σ0.1 221) (σ0.1 219) (43 * x1.toInt.toNat) 0 43 := by rw [hOσ9.2 221 (by decide)]; exact hK
        have hB : ZB σ9.1 := ZB_s eσ9 hB
        exact ok_some ⟨hT, (show ZB σ9.1 ∧ MI (σ9.1 221) ∧ (0 : Int32) = if 0 ≤ x1.toInt ∧ x1.toInt ≤ 2 then 0 else -2 from by exact ⟨hB, MI_cp hK hM hI3, (if_pos qk).symm⟩)⟩
      · have m9 := ixF (x := x1) (y := x2_6) (by first | omega | (simp only [Int32.le_iff_toInt_le, Int32.lt_iff_toInt_lt, ti_add, ti_sub, ti_mul, Int32.reduceToInt] at *; omega)) (by first | omega | (simp only [Int32.le_iff_toInt_le, Int32.lt_iff_toInt_lt, ti_add, ti_sub, ti_mul, Int32.reduceToInt] at *; omega)) (by first | omega | (simp only [Int32.le_iff_toInt_le, Int32.lt_iff_toInt_lt, ti_add, ti_sub, ti_mul, Int32.reduceToInt] at *; omega)) (by first | omega | (simp only [Int32.le_iff_toInt_le, Int32.lt_iff_toInt_lt, ti_add, ti_sub, ti_mul, Int32.reduceToInt] at *; omega))
        refine ok_gR (v := 222) hT rfl (hR 218 4 rfl) ?_
        refine ok_gR (v := 220) hT rfl (hR 218 2 rfl) ?_
        refine ok_aIn rfl (by first | omega | decide | (simp only [Int32.le_iff_toInt_le, Int32.lt_iff_toInt_lt, ti_add, ti_sub, ti_mul, Int32.reduceToInt] at *; omega)) (by first | omega | decide | (simp only [Int32.le_iff_toInt_le, Int32.lt_iff_toInt_lt, ti_add, ti_sub, ti_mul, Int32.reduceToInt] at *; omega)) (fun v12 ev12 => ?_)
        have zv12 : v12 = 0 ∨ v12 = 1 := by rw [ev12]; exact hB 220 rfl _
        refine ok_s16 hT rfl (by decide) (by first | omega | decide | (simp only [Int32.le_iff_toInt_le, Int32.lt_iff_toInt_lt, ti_add, ti_sub, ti_mul, Int32.reduceToInt] at *; omega)) (by first | omega | decide | (simp only [Int32.le_iff_toInt_le, Int32.lt_iff_toInt_lt, ti_add, ti_sub, ti_mul, Int32.reduceToInt] at *; omega)) (fun σ13 eσ13 hOσ13 hT => ?_)
        have hK : KP (σ13.1 221) (σ0.1 221) (σ0.1 219) (43 * x1.toInt.toNat) 0 43 := by rw [hOσ13.2 221 (by decide)]; exact hK
        have hB : ZB σ13.1 := ZB_s eσ13 hB
        exact ih48_6 (x2_6 + 1, σ13) (show Tr [221, 222, 223] σ0 σ13 ∧ (0 ≤ (x2_6 + 1).toInt ∧ KP (σ13.1 221) (σ0.1 221) (σ0.1 219) (43 * x1.toInt.toNat) 0 43) ∧ (ZB σ13.1) from ⟨hT, (by exact ⟨by first | omega | (simp only [Int32.le_iff_toInt_le, Int32.lt_iff_toInt_lt, ti_add, ti_sub, ti_mul, Int32.reduceToInt] at *; omega), hK⟩), hB⟩) (show (10240 - (x2_6 + 1).toInt).toNat < (10240 - x2_6.toInt).toNat from (by first | omega | decide | (simp only [Int32.le_iff_toInt_le, Int32.lt_iff_toInt_lt, ti_add, ti_sub, ti_mul, Int32.reduceToInt] at *; omega)))
    · have m9 := ix43 (x := x1) (y := x2_4) (by first | omega | (simp only [Int32.le_iff_toInt_le, Int32.lt_iff_toInt_lt, ti_add, ti_sub, ti_mul, Int32.reduceToInt] at *; omega)) (by first | omega | (simp only [Int32.le_iff_toInt_le, Int32.lt_iff_toInt_lt, ti_add, ti_sub, ti_mul, Int32.reduceToInt] at *; omega)) (by first | omega | (simp only [Int32.le_iff_toInt_le, Int32.lt_iff_toInt_lt, ti_add, ti_sub, ti_mul, Int32.reduceToInt] at *; omega)) (by first | omega | (simp only [Int32.le_iff_toInt_le, Int32.lt_iff_toInt_lt, ti_add, ti_sub, ti_mul, Int32.reduceToInt] at *; omega))
      have hx : (x2_4 + 1).toInt.toNat = x2_4.toInt.toNat + 1 := by first | omega | (simp only [Int32.le_iff_toInt_le, Int32.lt_iff_toInt_lt, ti_add, ti_sub, ti_mul, Int32.reduceToInt] at *; omega)
      have h43 : x2_4.toInt.toNat < 43 := by first | omega | (simp only [Int32.le_iff_toInt_le, Int32.lt_iff_toInt_lt, ti_add, ti_sub, ti_mul, Int32.reduceToInt] at *; omega)
      refine ok_gR (v := 221) hT rfl (hR 218 3 rfl) ?_
      refine ok_gR (v := 219) hT rfl (hR 218 1 rfl) ?_
      refine ok_aIn rfl (by first | omega | decide | (simp only [Int32.le_iff_toInt_le, Int32.lt_iff_toInt_lt, ti_add, ti_sub, ti_mul, Int32.reduceToInt] at *; omega)) (by first | omega | decide | (simp only [Int32.le_iff_toInt_le, Int32.lt_iff_toInt_lt, ti_add, ti_sub, ti_mul, Int32.reduceToInt] at *; omega)) (fun v16 ev16 => ?_)
      have ev38 : v16 = σ0.1 219 (Int32.toNatClampNeg (x2_4)) := by rw [ev16, hT.2 219 (by decide)]
      refine ok_s14 hT rfl (by decide) (by first | omega | decide | (simp only [Int32.le_iff_toInt_le, Int32.lt_iff_toInt_lt, ti_add, ti_sub, ti_mul, Int32.reduceToInt] at *; omega)) (by first | omega | decide | (simp only [Int32.le_iff_toInt_le, Int32.lt_iff_toInt_lt, ti_add, ti_sub, ti_mul, Int32.reduceToInt] at *; omega)) (fun σ17 eσ17 hOσ17 hT => ?_)
      have hK := KP_s eσ17 m9.2.2 (by rw [ev38, Nat.zero_add]; rfl) h43 hK
      have hB : ZB σ17.1 := ZB.tr hOσ17 (by decide) hB
      exact ih17_4 (x2_4 + 1, σ17) (show Tr [221, 222, 223] σ0 σ17 ∧ ((0 ≤ (x2_4 + 1).toInt ∧ (x2_4 + 1).toInt ≤ 43) ∧ KP (σ17.1 221) (σ0.1 221) (σ0.1 219) (43 * x1.toInt.toNat) 0 (x2_4 + 1).toInt.toNat) ∧ (ZB σ17.1) from ⟨hT, (by exact ⟨⟨by first | omega | (simp only [Int32.le_iff_toInt_le, Int32.lt_iff_toInt_lt, ti_add, ti_sub, ti_mul, Int32.reduceToInt] at *; omega), by first | omega | (simp only [Int32.le_iff_toInt_le, Int32.lt_iff_toInt_lt, ti_add, ti_sub, ti_mul, Int32.reduceToInt] at *; omega)⟩, by rw [hx]; exact hK⟩), hB⟩) (show (43 - (x2_4 + 1).toInt).toNat < (43 - x2_4.toInt).toNat from (by first | omega | decide | (simp only [Int32.le_iff_toInt_le, Int32.lt_iff_toInt_lt, ti_add, ti_sub, ti_mul, Int32.reduceToInt] at *; omega)))

set_option maxHeartbeats 4000000 in
set_option maxRecDepth 100000 in
theorem s_X12_back {N : Nat} (hN : 1048576 ≤ N) {x1 : Int32} {σ0 : zS}  (hR : RF σ0.2.2) (hM : MW (σ0.1 219) 0) (hB : ZB σ0.1) (hI3 : MI (σ0.1 221)) : Ok (f_X12_back N 218 x1 σ0) (fun r => Tr [219, 220] σ0 r.2 ∧ (ZB r.2.1 ∧ MW (r.2.1 219) 0)) := by
  have hT : Tr [219, 220] σ0 σ0 := Tr.rf
  have hn := hM.1
  have he : 0 ≤ (σ0.1 219 2).toInt ∧ (σ0.1 219 2).toInt ≤ 10 := hM.2.1
  have qm := mny_b hn.1 hn.2
  rw [f_X12_back.eq_1]
  refine ok_zbX (Q := fun V => ¬ V = 0 ↔ (0 : Int64).toInt ≤ (Int32.toInt64 x1).toInt ∧ (Int32.toInt64 x1).toInt ≤ (2 : Int64).toInt) (x2_X12_in) (fun v1 hqv1 => ?_)
  simp only [i64_of, Int64.reduceToInt] at hqv1
  refine ok_if (fun hc3 => ?_) (fun hc3 => ?_)
  · have qk : ¬ (0 ≤ x1.toInt ∧ x1.toInt ≤ 2) := fun h9 => hqv1.mpr h9 hc3
    exact ok_some ⟨hT, (show ZB σ0.1 ∧ MW (σ0.1 219) 0 from by exact ⟨hB, hM⟩)⟩
  · have qk := hqv1.mp hc3
    refine ok_gR (v := 223) hT rfl (hR 218 5 rfl) ?_
    refine ok_aIn rfl (by first | omega | decide | (simp only [Int32.le_iff_toInt_le, Int32.lt_iff_toInt_lt, ti_add, ti_sub, ti_mul, Int32.reduceToInt] at *; omega)) (by first | omega | decide | (simp only [Int32.le_iff_toInt_le, Int32.lt_iff_toInt_lt, ti_add, ti_sub, ti_mul, Int32.reduceToInt] at *; omega)) (fun v5 ev5 => ?_)
    have zv5 : v5 = 0 ∨ v5 = 1 := by rw [ev5]; exact hB 223 rfl _
    refine ok_if (fun hc6 => ?_) (fun hc6 => ?_)
    · exact ok_some ⟨hT, (show ZB σ0.1 ∧ MW (σ0.1 219) 0 from by exact ⟨hB, hM⟩)⟩
    · refine ok_lp (fun t : Int32 × zS => Tr [219, 220] σ0 (t.2) ∧ ((0 ≤ (t.1).toInt ∧ (t.1).toInt ≤ 43) ∧ KP ((t.2).1 219) (σ0.1 219) (σ0.1 221) 0 (43 * x1.toInt.toNat) (t.1).toInt.toNat) ∧ (ZB (t.2).1)) (fun t : Int32 × zS => (43 - (t.1).toInt).toNat) (fun again7 t hI ih29_7 => ?_) N _ (show Tr [219, 220] σ0 σ0 ∧ ((0 ≤ (0 : Int32).toInt ∧ (0 : Int32).toInt ≤ 43) ∧ KP (σ0.1 219) (σ0.1 219) (σ0.1 221) 0 (43 * x1.toInt.toNat) (0 : Int32).toInt.toNat) ∧ (ZB σ0.1) from ⟨hT, (by exact ⟨⟨by decide, by decide⟩, ⟨fun j hj => absurd hj (Nat.not_lt_zero _), fun _ _ => rfl⟩⟩), hB⟩) (show (43 - (0 : Int32).toInt).toNat < N from (by first | omega | decide | (simp only [Int32.le_iff_toInt_le, Int32.lt_iff_toInt_lt, ti_add, ti_sub, ti_mul, Int32.reduceToInt] at *; omega)))
      obtain ⟨x2_7, σ7⟩ := t
      have hI : Tr [219, 220] σ0 σ7 ∧ ((0 ≤ x2_7.toInt ∧ x2_7.toInt ≤ 43) ∧ KP (σ7.1 219) (σ0.1 219) (σ0.1 221) 0 (43 * x1.toInt.toNat) x2_7.toInt.toNat) ∧ (ZB σ7.1) := hI
      obtain ⟨hT, hI7, hB⟩ := hI
      rw [F_X12_back_29.eq_1]
      have hK := hI7.2
      refine ok_if (fun hc8 => ?_) (fun hc8 => ?_)
      · have e9 : x2_7.toInt.toNat = 43 := by first | omega | (simp only [Int32.le_iff_toInt_le, Int32.lt_iff_toInt_lt, ti_add, ti_sub, ti_mul, Int32.reduceToInt] at *; omega)
        rw [e9] at hK
        refine ok_lp (fun t : Int32 × zS => Tr [219, 220] σ0 (t.2) ∧ (0 ≤ (t.1).toInt ∧ KP ((t.2).1 219) (σ0.1 219) (σ0.1 221) 0 (43 * x1.toInt.toNat) 43) ∧ (ZB (t.2).1)) (fun t : Int32 × zS => (10240 - (t.1).toInt).toNat) (fun again9 t hI ih60_9 => ?_) N _ (show Tr [219, 220] σ0 σ7 ∧ (0 ≤ (0 : Int32).toInt ∧ KP (σ7.1 219) (σ0.1 219) (σ0.1 221) 0 (43 * x1.toInt.toNat) 43) ∧ (ZB σ7.1) from ⟨hT, (by exact ⟨by decide, hK⟩), hB⟩) (show (10240 - (0 : Int32).toInt).toNat < N from (by first | omega | decide | (simp only [Int32.le_iff_toInt_le, Int32.lt_iff_toInt_lt, ti_add, ti_sub, ti_mul, Int32.reduceToInt] at *; omega)))
        obtain ⟨x2_9, σ9⟩ := t
        have hI : Tr [219, 220] σ0 σ9 ∧ (0 ≤ x2_9.toInt ∧ KP (σ9.1 219) (σ0.1 219) (σ0.1 221) 0 (43 * x1.toInt.toNat) 43) ∧ (ZB σ9.1) := hI
        obtain ⟨hT, hI9, hB⟩ := hI
        rw [F_X12_back_60.eq_1]
        have hK := hI9.2
        refine ok_if (fun hc10 => ?_) (fun hc10 => ?_)
        · exact ok_some ⟨hT, (show ZB σ9.1 ∧ MW (σ9.1 219) 0 from by exact ⟨hB, MW_cp hK.1 (hI3 _ (by omega))⟩)⟩
        · have m9 := ixF (x := x1) (y := x2_9) (by first | omega | (simp only [Int32.le_iff_toInt_le, Int32.lt_iff_toInt_lt, ti_add, ti_sub, ti_mul, Int32.reduceToInt] at *; omega)) (by first | omega | (simp only [Int32.le_iff_toInt_le, Int32.lt_iff_toInt_lt, ti_add, ti_sub, ti_mul, Int32.reduceToInt] at *; omega)) (by first | omega | (simp only [Int32.le_iff_toInt_le, Int32.lt_iff_toInt_lt, ti_add, ti_sub, ti_mul, Int32.reduceToInt] at *; omega)) (by first | omega | (simp only [Int32.le_iff_toInt_le, Int32.lt_iff_toInt_lt, ti_add, ti_sub, ti_mul, Int32.reduceToInt] at *; omega))
          refine ok_gR (v := 220) hT rfl (hR 218 2 rfl) ?_
          refine ok_gR (v := 222) hT rfl (hR 218 4 rfl) ?_
          refine ok_aIn rfl (by first | omega | decide | (simp only [Int32.le_iff_toInt_le, Int32.lt_iff_toInt_lt, ti_add, ti_sub, ti_mul, Int32.reduceToInt] at *; omega)) (by first | omega | decide | (simp only [Int32.le_iff_toInt_le, Int32.lt_iff_toInt_lt, ti_add, ti_sub, ti_mul, Int32.reduceToInt] at *; omega)) (fun v13 ev13 => ?_)
          have zv13 : v13 = 0 ∨ v13 = 1 := by rw [ev13]; exact hB 222 rfl _
          refine ok_s16 hT rfl (by decide) (by first | omega | decide | (simp only [Int32.le_iff_toInt_le, Int32.lt_iff_toInt_lt, ti_add, ti_sub, ti_mul, Int32.reduceToInt] at *; omega)) (by first | omega | decide | (simp only [Int32.le_iff_toInt_le, Int32.lt_iff_toInt_lt, ti_add, ti_sub, ti_mul, Int32.reduceToInt] at *; omega)) (fun σ14 eσ14 hOσ14 hT => ?_)
          have hK : KP (σ14.1 219) (σ0.1 219) (σ0.1 221) 0 (43 * x1.toInt.toNat) 43 := by rw [hOσ14.2 219 (by decide)]; exact hK
          have hB : ZB σ14.1 := ZB_s eσ14 hB
          exact ih60_9 (x2_9 + 1, σ14) (show Tr [219, 220] σ0 σ14 ∧ (0 ≤ (x2_9 + 1).toInt ∧ KP (σ14.1 219) (σ0.1 219) (σ0.1 221) 0 (43 * x1.toInt.toNat) 43) ∧ (ZB σ14.1) from ⟨hT, (by exact ⟨by first | omega | (simp only [Int32.le_iff_toInt_le, Int32.lt_iff_toInt_lt, ti_add, ti_sub, ti_mul, Int32.reduceToInt] at *; omega), hK⟩), hB⟩) (show (10240 - (x2_9 + 1).toInt).toNat < (10240 - x2_9.toInt).toNat from (by first | omega | decide | (simp only [Int32.le_iff_toInt_le, Int32.lt_iff_toInt_lt, ti_add, ti_sub, ti_mul, Int32.reduceToInt] at *; omega)))
      · have m9 := ix43 (x := x1) (y := x2_7) (by first | omega | (simp only [Int32.le_iff_toInt_le, Int32.lt_iff_toInt_lt, ti_add, ti_sub, ti_mul, Int32.reduceToInt] at *; omega)) (by first | omega | (simp only [Int32.le_iff_toInt_le, Int32.lt_iff_toInt_lt, ti_add, ti_sub, ti_mul, Int32.reduceToInt] at *; omega)) (by first | omega | (simp only [Int32.le_iff_toInt_le, Int32.lt_iff_toInt_lt, ti_add, ti_sub, ti_mul, Int32.reduceToInt] at *; omega)) (by first | omega | (simp only [Int32.le_iff_toInt_le, Int32.lt_iff_toInt_lt, ti_add, ti_sub, ti_mul, Int32.reduceToInt] at *; omega))
        have hx : (x2_7 + 1).toInt.toNat = x2_7.toInt.toNat + 1 := by first | omega | (simp only [Int32.le_iff_toInt_le, Int32.lt_iff_toInt_lt, ti_add, ti_sub, ti_mul, Int32.reduceToInt] at *; omega)
        have h43 : x2_7.toInt.toNat < 43 := by first | omega | (simp only [Int32.le_iff_toInt_le, Int32.lt_iff_toInt_lt, ti_add, ti_sub, ti_mul, Int32.reduceToInt] at *; omega)
        refine ok_gR (v := 219) hT rfl (hR 218 1 rfl) ?_
        refine ok_gR (v := 221) hT rfl (hR 218 3 rfl) ?_
        refine ok_aIn rfl (by first | omega | decide | (simp only [Int32.le_iff_toInt_le, Int32.lt_iff_toInt_lt, ti_add, ti_sub, ti_mul, Int32.reduceToInt] at *; omega)) (by first | omega | decide | (simp only [Int32.le_iff_toInt_le, Int32.lt_iff_toInt_lt, ti_add, ti_sub, ti_mul, Int32.reduceToInt] at *; omega)) (fun v17 ev17 => ?_)
        have ev38 : v17 = σ0.1 221 (Int32.toNatClampNeg ((43 * x1) + x2_7)) := by rw [ev17, hT.2 221 (by decide)]
        refine ok_s14 hT rfl (by decide) (by first | omega | decide | (simp only [Int32.le_iff_toInt_le, Int32.lt_iff_toInt_lt, ti_add, ti_sub, ti_mul, Int32.reduceToInt] at *; omega)) (by first | omega | decide | (simp only [Int32.le_iff_toInt_le, Int32.lt_iff_toInt_lt, ti_add, ti_sub, ti_mul, Int32.reduceToInt] at *; omega)) (fun σ18 eσ18 hOσ18 hT => ?_)
        have hK := KP_s eσ18 (Nat.zero_add _).symm (by rw [ev38, m9.2.2]; rfl) h43 hK
        have hB : ZB σ18.1 := ZB.tr hOσ18 (by decide) hB
        exact ih29_7 (x2_7 + 1, σ18) (show Tr [219, 220] σ0 σ18 ∧ ((0 ≤ (x2_7 + 1).toInt ∧ (x2_7 + 1).toInt ≤ 43) ∧ KP (σ18.1 219) (σ0.1 219) (σ0.1 221) 0 (43 * x1.toInt.toNat) (x2_7 + 1).toInt.toNat) ∧ (ZB σ18.1) from ⟨hT, (by exact ⟨⟨by first | omega | (simp only [Int32.le_iff_toInt_le, Int32.lt_iff_toInt_lt, ti_add, ti_sub, ti_mul, Int32.reduceToInt] at *; omega), by first | omega | (simp only [Int32.le_iff_toInt_le, Int32.lt_iff_toInt_lt, ti_add, ti_sub, ti_mul, Int32.reduceToInt] at *; omega)⟩, by rw [hx]; exact hK⟩), hB⟩) (show (43 - (x2_7 + 1).toInt).toNat < (43 - x2_7.toInt).toNat from (by first | omega | decide | (simp only [Int32.le_iff_toInt_le, Int32.lt_iff_toInt_lt, ti_add, ti_sub, ti_mul, Int32.reduceToInt] at *; omega)))

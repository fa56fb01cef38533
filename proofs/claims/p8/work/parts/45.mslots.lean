def MS (g : Nat → Int32) : Prop := ∀ j, -1 ≤ (g j).toInt ∧ (g j).toInt ≤ 60
theorem MS_w {σ τ : zS} {i : Nat} {v : Int32} (e : τ = zI σ 239 (upd (σ.1 239) i v)) (h0 : -1 ≤ v.toInt) (h1 : v.toInt ≤ 60) (h : MS (σ.1 239)) : MS (τ.1 239) := by
  intro j
  by_cases q : j = i
  · subst q; rw [zI_atI e]; exact ⟨h0, h1⟩
  · rw [zI_atN e q]; exact h j
theorem ok_zbX {α β : Type} {x : Option (α × zS)} {f : α → zS → Option β} {Q : α → Prop} {P : β → Prop} {σ : zS} (hx : Ok x (fun r => r.2 = σ ∧ Q r.1)) (h : ∀ v, Q v → Ok (f v σ) P) : Ok (zb x f) P := by
  obtain ⟨⟨v, τ⟩, rfl, e, q⟩ := hx
  have e : τ = σ := e
  subst e
  exact h v q
theorem x_X12_in {N : Nat} {a b c : Int64} {σ : zS} : Ok (f_X12_in N a b c σ) (fun r => r.2 = σ ∧ (¬ r.1 = 0 → b.toInt ≤ a.toInt ∧ a.toInt ≤ c.toInt)) := by
  rw [f_X12_in.eq_1]
  refine ok_if (fun h => ok_rZ (Or.inl rfl) ⟨rfl, fun q => absurd rfl q⟩) (fun h => ok_if (fun h2 => ok_rZ (Or.inl rfl) ⟨rfl, fun q => absurd rfl q⟩) (fun h2 => ok_rZ (Or.inr rfl) ⟨rfl, fun _ => ⟨in_ok h, in_ok2 h2⟩⟩))
theorem x_X12_isWorld {N : Nat} {σ : zS} (hR : RF σ.2.2) : Ok (f_X12_isWorld N 218 σ) (fun r => r.2 = σ ∧ ((r.1 = 0 → (σ.1 219 0).toInt ≤ 0) ∧ (¬ r.1 = 0 → 0 < (σ.1 219 0).toInt))) := by
  have hT : Tr [] σ σ := Tr.rf
  rw [f_X12_isWorld.eq_1]
  refine ok_gR (v := 219) hT rfl (hR 218 1 rfl) ?_
  refine ok_aIc (j := 0) hT rfl (by decide) rfl (by decide) (by decide) ?_
  refine ok_if (fun h => ok_rZ (Or.inl rfl) ⟨rfl, fun _ => ?_, fun q => absurd rfl q⟩) (fun h => ok_rZ (Or.inr rfl) ⟨rfl, fun q => absurd (show (1 : Int32) = 0 from q) (by decide), fun _ => ?_⟩)
  · rw [Int32.le_iff_toInt_le] at h; simpa using h
  · rw [Int32.le_iff_toInt_le] at h; simp only [Int32.reduceToInt] at h; omega
theorem x_X12_many {N : Nat} {σ : zS} (hR : RF σ.2.2) : Ok (f_X12_many N 218 σ) (fun r => r.2 = σ ∧ r.1 = mny (σ.1 219 0)) := by
  have hT : Tr [] σ σ := Tr.rf
  rw [f_X12_many.eq_1]
  refine ok_gC rfl ?_
  refine ok_zbX (Q := fun v => (v = 0 → (σ.1 219 0).toInt ≤ 0) ∧ (¬ v = 0 → 0 < (σ.1 219 0).toInt)) (x_X12_isWorld hR) (fun v hv => ?_)
  refine ok_if (fun h => ok_some ⟨rfl, ?_⟩) (fun h => ?_)
  · exact (if_neg (fun h9 => by rw [Int32.lt_iff_toInt_lt] at h9; simp only [Int32.reduceToInt] at h9; have := hv.1 h; omega)).symm
  · refine ok_gR (v := 219) hT rfl (hR 218 1 rfl) ?_
    refine ok_aIc (j := 0) hT rfl (by decide) rfl (by decide) (by decide) ?_
    exact ok_some ⟨rfl, (if_pos (by rw [Int32.lt_iff_toInt_lt]; simp only [Int32.reduceToInt]; exact hv.2 h)).symm⟩
theorem MW_cp {g h : Nat → Int32} {b c : Nat} (e : ∀ j, j < 43 → g (b + j) = h (c + j)) (m : MW h c) : MW g b := by
  have e0 := e 0 (by decide)
  have e2 := e 2 (by decide)
  unfold MW at m ⊢
  rw [show g b = h c from e0, e2]
  refine ⟨m.1, m.2.1, fun j hj => ?_, fun v hv => ?_⟩
  · have q := m.2.2.1 j hj
    have q1 := e (13 + j) (by omega)
    have q2 := e (23 + j) (by omega)
    rw [← Nat.add_assoc, ← Nat.add_assoc] at q1 q2
    rw [q1, q2]; exact q
  · obtain ⟨k, hk, q⟩ := m.2.2.2 v hv
    have q1 := e (33 + k) (by have := m.1.2; omega)
    rw [← Nat.add_assoc, ← Nat.add_assoc] at q1
    exact ⟨k, hk, by rw [q1]; exact q⟩
/-- a row's copy, under way -/
def KP (g g0 h : Nat → Int32) (b c n : Nat) : Prop := (∀ j, j < n → g (b + j) = h (c + j)) ∧ ∀ j, (j < b ∨ b + 43 ≤ j) → g j = g0 j
theorem KP_s {σ τ : zS} {k i b c n : Nat} {v : Int32} {g0 h : Nat → Int32} (e : τ = zI σ k (upd (σ.1 k) i v)) (hi : i = b + n) (hv : v = h (c + n)) (hn : n < 43) (H : KP (σ.1 k) g0 h b c n) : KP (τ.1 k) g0 h b c (n + 1) := by
  subst hi
  refine ⟨fun j hj => ?_, fun j hj => ?_⟩
  · by_cases q : j = n
    · subst q; rw [zI_atI e]; exact hv
    · rw [zI_atN e (by omega)]; exact H.1 j (by omega)
  · rw [zI_atN e (by omega)]; exact H.2 j hj
def MI (g : Nat → Int32) : Prop := ∀ k, k < 3 → MW g (43 * k)
theorem MI_cp {g g0 h : Nat → Int32} {k c : Nat} (H : KP g g0 h (43 * k) c 43) (m : MW h c) (mi : MI g0) : MI g := by
  intro q hq
  by_cases e : q = k
  · subst e; exact MW_cp H.1 m
  · exact MW_cp (fun j hj => H.2 _ (by omega)) (mi q hq)
theorem tm_c {x : Int32} (c : Int32) (h0 : 0 ≤ c.toInt) (h1 : c.toInt ≤ 20000) (h2 : 0 ≤ x.toInt) (h3 : x.toInt ≤ 3) : (c * x).toInt = c.toInt * x.toInt := by
  rw [ti_mul]
  rcases (show x.toInt = 0 ∨ x.toInt = 1 ∨ x.toInt = 2 ∨ x.toInt = 3 by omega) with e | e | e | e <;> rw [e] <;> omega
theorem i43 {x y : Int32} (h0 : 0 ≤ x.toInt) (h1 : x.toInt ≤ 2) (h2 : 0 ≤ y.toInt) (h3 : y.toInt ≤ 43) : (43 * x + y).toNatClampNeg = 43 * x.toInt.toNat + y.toInt.toNat := by
  show (43 * x + y).toInt.toNat = _
  have m := tm_c (x := x) 43 (by decide) (by decide) h0 (by omega)
  rw [ti_add, m]; simp only [Int32.reduceToInt]
  rcases (show x.toInt = 0 ∨ x.toInt = 1 ∨ x.toInt = 2 by omega) with e | e | e <;> rw [e] <;> omega
theorem ix60 {x y : Int32} (h0 : 0 ≤ x.toInt) (h1 : x.toInt ≤ 3) (h2 : 0 ≤ y.toInt) (h3 : y.toInt < 60) : 0 ≤ (60 * x + y).toInt ∧ (60 * x + y).toInt < 240 ∧ (60 * x + y).toInt = 60 * x.toInt + y.toInt ∧ (60 * x + y).toNatClampNeg = 60 * x.toInt.toNat + y.toInt.toNat := by
  have e9 : (60 * x + y).toNatClampNeg = (60 * x + y).toInt.toNat := rfl
  have m := tm_c (x := x) 60 (by decide) (by decide) h0 (by omega)
  rw [e9, ti_add, m]; simp only [Int32.reduceToInt]
  rcases (show x.toInt = 0 ∨ x.toInt = 1 ∨ x.toInt = 2 ∨ x.toInt = 3 by omega) with e | e | e | e <;> rw [e] <;> omega
theorem d4_lt : ∀ n, n < 20 → 0 ≤ (nI n / 4).toInt ∧ (nI n / 4).toInt ≤ 4 := by decide +kernel
theorem ti_div4 {x : Int32} (h0 : 0 ≤ x.toInt) (h1 : x.toInt < 20) : 0 ≤ (x / 4).toInt ∧ (x / 4).toInt ≤ 4 := by
  obtain ⟨n, hn, rfl⟩ := znI (m := 20) h0 (by omega)
  exact d4_lt n hn
theorem m60 {x : Int32} (h0 : 0 ≤ x.toInt) (h1 : x.toInt ≤ 3) : (60 * x).toInt = 60 * x.toInt := tm_c (x := x) 60 (by decide) (by decide) h0 h1

set_option maxHeartbeats 4000000 in
set_option maxRecDepth 100000 in
theorem s_X12_isSlot {N : Nat} (hN : 1048576 ≤ N) {x0 : Int32} {σ0 : zS}  (hR : RF σ0.2.2)  : Ok (f_X12_isSlot N x0 σ0) (fun r => Tr [] σ0 r.2 ∧ ((r.1 = 0 ∨ r.1 = 1) ∧ (¬ r.1 = 0 → 0 ≤ x0.toInt ∧ x0.toInt ≤ 3))) := by
  have hT : Tr [] σ0 σ0 := Tr.rf
  rw [f_X12_isSlot.eq_1]
  refine ok_zbT (Q := fun V σ => (V = 0 ∨ V = 1) ∧ (¬ V = 0 → (0 : Int64).toInt ≤ (Int32.toInt64 x0).toInt ∧ (Int32.toInt64 x0).toInt ≤ (3 : Int64).toInt)) hT (s_X12_in hN (hR.tr hT) ) (fun _ h9 => absurd h9 List.not_mem_nil) (fun v1 σ2 hOσ2 hT hqv1 => ?_)
  have hqv1 : (v1 = 0 ∨ v1 = 1) ∧ (¬ v1 = 0 → (0 : Int64).toInt ≤ (Int32.toInt64 x0).toInt ∧ (Int32.toInt64 x0).toInt ≤ (3 : Int64).toInt) := hqv1
  simp only [i64_of, Int64.reduceToInt] at hqv1
  exact ok_rZ (hqv1.1) ⟨hT, (show (v1 = 0 ∨ v1 = 1) ∧ (¬ v1 = 0 → 0 ≤ x0.toInt ∧ x0.toInt ≤ 3) from by first | exact ⟨Or.inl rfl, fun h9 => absurd rfl h9⟩ | exact ⟨Or.inr rfl, fun _ => by first | omega | (simp only [Int32.le_iff_toInt_le, Int32.lt_iff_toInt_lt, ti_add, ti_sub, ti_mul, Int32.reduceToInt] at *; omega)⟩ | exact ⟨hqv1.1, fun h9 => by have q9 := hqv1.2 h9; first | omega | (simp only [Int32.le_iff_toInt_le, Int32.lt_iff_toInt_lt, ti_add, ti_sub, ti_mul, Int32.reduceToInt] at *; omega)⟩)⟩

set_option maxHeartbeats 4000000 in
set_option maxRecDepth 100000 in
theorem s_X12_judge {N : Nat} (hN : 1048576 ≤ N) {x1 : Int32} {x2 : Int32} {σ0 : zS}  (hR : RF σ0.2.2) (hM : MW (σ0.1 219) 0) (hB : ZB σ0.1) (hS : MS (σ0.1 239)) : Ok (f_X12_judge N 218 x1 x2 σ0) (fun r => Tr [] σ0 r.2 ∧ (True)) := by
  have hT : Tr [] σ0 σ0 := Tr.rf
  have hn := hM.1
  have he : 0 ≤ (σ0.1 219 2).toInt ∧ (σ0.1 219 2).toInt ≤ 10 := hM.2.1
  have qm := mny_b hn.1 hn.2
  rw [f_X12_judge.eq_1]
  refine ok_zbT (Q := fun V σ => (V = 0 ∨ V = 1) ∧ (¬ V = 0 → 0 ≤ x1.toInt ∧ x1.toInt ≤ 3)) hT (s_X12_isSlot hN (hR.tr hT) ) (fun _ h9 => absurd h9 List.not_mem_nil) (fun v1 σ2 hOσ2 hT hqv1 => ?_)
  have hqv1 : (v1 = 0 ∨ v1 = 1) ∧ (¬ v1 = 0 → 0 ≤ x1.toInt ∧ x1.toInt ≤ 3) := hqv1
  have hB : ZB σ2.1 := ZB.tr hOσ2 (by decide) hB
  refine ok_if (fun hc3 => ?_) (fun hc3 => ?_)
  · exact ok_some ⟨hT, trivial⟩
  · have qhc3 := hqv1.2 hc3
    refine ok_gC rfl ?_
    refine ok_zbT (Q := fun V σ => (V = 0 ∨ V = 1) ∧ (¬ V = 0 → 0 ≤ x2.toInt ∧ x2.toInt ≤ 9)) hT (s_X12_isRegister hN (hR.tr hT) (by first | exact hM | (rw [hT.2 219 (by decide)]; exact hM))) (fun _ h9 => absurd h9 List.not_mem_nil) (fun v4 σ5 hOσ5 hT hqv4 => ?_)
    have hqv4 : (v4 = 0 ∨ v4 = 1) ∧ (¬ v4 = 0 → 0 ≤ x2.toInt ∧ x2.toInt ≤ 9) := hqv4
    have hB : ZB σ5.1 := ZB.tr hOσ5 (by decide) hB
    refine ok_if (fun hc6 => ?_) (fun hc6 => ?_)
    · exact ok_some ⟨hT, trivial⟩
    · have qhc6 := hqv4.2 hc6
      refine ok_gR (v := 239) hT rfl (hR 218 35 rfl) ?_
      refine ok_aIn rfl (by first | omega | decide | (simp only [Int32.le_iff_toInt_le, Int32.lt_iff_toInt_lt, ti_add, ti_sub, ti_mul, Int32.reduceToInt] at *; omega)) (by first | omega | decide | (simp only [Int32.le_iff_toInt_le, Int32.lt_iff_toInt_lt, ti_add, ti_sub, ti_mul, Int32.reduceToInt] at *; omega)) (fun v8 ev8 => ?_)
      have qs23 : -1 ≤ v8.toInt ∧ v8.toInt ≤ 60 := by rw [ev8, hT.2 239 (by decide)]; exact hS _
      refine ok_if (fun hc9 => ?_) (fun hc9 => ?_)
      · exact ok_some ⟨hT, trivial⟩
      · refine ok_lp (fun t : Int32 × zS => Tr [] σ0 (t.2) ∧ (0 ≤ (t.1).toInt) ∧ (ZB (t.2).1)) (fun t : Int32 × zS => (60 - (t.1).toInt).toNat) (fun again10 t hI ih33_10 => ?_) N _ (show Tr [] σ0 σ5 ∧ (0 ≤ (0 : Int32).toInt) ∧ (ZB σ5.1) from ⟨hT, (by first | omega | decide | (simp only [Int32.le_iff_toInt_le, Int32.lt_iff_toInt_lt, ti_add, ti_sub, ti_mul, Int32.reduceToInt] at *; omega)), hB⟩) (show (60 - (0 : Int32).toInt).toNat < N from (by first | omega | decide | (simp only [Int32.le_iff_toInt_le, Int32.lt_iff_toInt_lt, ti_add, ti_sub, ti_mul, Int32.reduceToInt] at *; omega)))
        obtain ⟨x3_10, σ10⟩ := t
        have hI : Tr [] σ0 σ10 ∧ (0 ≤ x3_10.toInt) ∧ (ZB σ10.1) := hI
        obtain ⟨hT, hI10, hB⟩ := hI
        rw [F_X12_judge_33.eq_1]
        refine ok_gR (v := 239) hT rfl (hR 218 35 rfl) ?_
        refine ok_aIn rfl (by first | omega | decide | (simp only [Int32.le_iff_toInt_le, Int32.lt_iff_toInt_lt, ti_add, ti_sub, ti_mul, Int32.reduceToInt] at *; omega)) (by first | omega | decide | (simp only [Int32.le_iff_toInt_le, Int32.lt_iff_toInt_lt, ti_add, ti_sub, ti_mul, Int32.reduceToInt] at *; omega)) (fun v12 ev12 => ?_)
        have qs39 : -1 ≤ v12.toInt ∧ v12.toInt ≤ 60 := by rw [ev12, hT.2 239 (by decide)]; exact hS _
        refine ok_if (fun hc13 => ?_) (fun hc13 => ?_)
        · refine ok_gR (v := 239) hT rfl (hR 218 35 rfl) ?_
          refine ok_aIn rfl (by first | omega | decide | (simp only [Int32.le_iff_toInt_le, Int32.lt_iff_toInt_lt, ti_add, ti_sub, ti_mul, Int32.reduceToInt] at *; omega)) (by first | omega | decide | (simp only [Int32.le_iff_toInt_le, Int32.lt_iff_toInt_lt, ti_add, ti_sub, ti_mul, Int32.reduceToInt] at *; omega)) (fun v15 ev15 => ?_)
          have qs90 : -1 ≤ v15.toInt ∧ v15.toInt ≤ 60 := by rw [ev15, hT.2 239 (by decide)]; exact hS _
          refine ok_gC rfl ?_
          refine ok_zbT (Q := fun V σ => -1 ≤ V.toInt ∧ V.toInt ≤ 1023) hT (s_X12_nthOf hN (hR.tr hT) (by first | exact hM | (rw [hT.2 219 (by decide)]; exact hM)) (hB) (by first | omega | decide | (simp only [Int32.le_iff_toInt_le, Int32.lt_iff_toInt_lt, ti_add, ti_sub, ti_mul, Int32.reduceToInt] at *; omega))) (fun _ h9 => absurd h9 List.not_mem_nil) (fun v16 σ17 hOσ17 hT hqv16 => ?_)
          have hqv16 : -1 ≤ v16.toInt ∧ v16.toInt ≤ 1023 := hqv16
          have hB : ZB σ17.1 := ZB.tr hOσ17 (by decide) hB
          refine ok_if (fun hc18 => ?_) (fun hc18 => ?_)
          · refine ok_gR (v := 239) hT rfl (hR 218 35 rfl) ?_
            refine ok_aIn rfl (by first | omega | decide | (simp only [Int32.le_iff_toInt_le, Int32.lt_iff_toInt_lt, ti_add, ti_sub, ti_mul, Int32.reduceToInt] at *; omega)) (by first | omega | decide | (simp only [Int32.le_iff_toInt_le, Int32.lt_iff_toInt_lt, ti_add, ti_sub, ti_mul, Int32.reduceToInt] at *; omega)) (fun v20 ev20 => ?_)
            have qs103 : -1 ≤ v20.toInt ∧ v20.toInt ≤ 60 := by rw [ev20, hT.2 239 (by decide)]; exact hS _
            exact ok_some ⟨hT, trivial⟩
          · exact ok_some ⟨hT, trivial⟩
        · refine ok_gC rfl ?_
          refine ok_zbT (Q := fun V σ => -1 ≤ V.toInt ∧ V.toInt ≤ 1023) hT (s_X12_nthOf hN (hR.tr hT) (by first | exact hM | (rw [hT.2 219 (by decide)]; exact hM)) (hB) (by first | omega | decide | (simp only [Int32.le_iff_toInt_le, Int32.lt_iff_toInt_lt, ti_add, ti_sub, ti_mul, Int32.reduceToInt] at *; omega))) (fun _ h9 => absurd h9 List.not_mem_nil) (fun v21 σ22 hOσ22 hT hqv21 => ?_)
          have hqv21 : -1 ≤ v21.toInt ∧ v21.toInt ≤ 1023 := hqv21
          have hB : ZB σ22.1 := ZB.tr hOσ22 (by decide) hB
          refine ok_if (fun hc23 => ?_) (fun hc23 => ?_)
          · exact ok_some ⟨hT, trivial⟩
          · have m9 := ix60 (x := x1) (y := x3_10) (by first | omega | (simp only [Int32.le_iff_toInt_le, Int32.lt_iff_toInt_lt, ti_add, ti_sub, ti_mul, Int32.reduceToInt] at *; omega)) (by first | omega | (simp only [Int32.le_iff_toInt_le, Int32.lt_iff_toInt_lt, ti_add, ti_sub, ti_mul, Int32.reduceToInt] at *; omega)) (by first | omega | (simp only [Int32.le_iff_toInt_le, Int32.lt_iff_toInt_lt, ti_add, ti_sub, ti_mul, Int32.reduceToInt] at *; omega)) (by first | omega | (simp only [Int32.le_iff_toInt_le, Int32.lt_iff_toInt_lt, ti_add, ti_sub, ti_mul, Int32.reduceToInt] at *; omega))
            refine ok_gR (v := 241) hT rfl (hR 218 37 rfl) ?_
            refine ok_aJ rfl (by first | omega | decide | (simp only [Int32.le_iff_toInt_le, Int32.lt_iff_toInt_lt, ti_add, ti_sub, ti_mul, Int32.reduceToInt] at *; omega)) (by first | omega | decide | (simp only [Int32.le_iff_toInt_le, Int32.lt_iff_toInt_lt, ti_add, ti_sub, ti_mul, Int32.reduceToInt] at *; omega)) ?_
            generalize σ22.2.1 (241) (Int32.toNatClampNeg ((60 * x1) + x3_10)) = v25
            refine ok_if (fun hc26 => ?_) (fun hc26 => ?_)
            · exact ih33_10 (x3_10 + 1, σ22) (show Tr [] σ0 σ22 ∧ (0 ≤ (x3_10 + 1).toInt) ∧ (ZB σ22.1) from ⟨hT, (by first | omega | decide | (simp only [Int32.le_iff_toInt_le, Int32.lt_iff_toInt_lt, ti_add, ti_sub, ti_mul, Int32.reduceToInt] at *; omega)), hB⟩) (show (60 - (x3_10 + 1).toInt).toNat < (60 - x3_10.toInt).toNat from (by first | omega | decide | (simp only [Int32.le_iff_toInt_le, Int32.lt_iff_toInt_lt, ti_add, ti_sub, ti_mul, Int32.reduceToInt] at *; omega)))
            · exact ok_some ⟨hT, trivial⟩

set_option maxHeartbeats 4000000 in
set_option maxRecDepth 100000 in
theorem s_X12_cut {N : Nat} (hN : 1048576 ≤ N) {x0 : Int64} {x2 : Int32} {σ0 : zS}  (hR : RF σ0.2.2)  : Ok (f_X12_cut N x0 x2 σ0) (fun r => Tr [] σ0 r.2 ∧ (True)) := by
  have hT : Tr [] σ0 σ0 := Tr.rf
  rw [f_X12_cut.eq_1]
  exact ok_some ⟨hT, trivial⟩

set_option maxHeartbeats 4000000 in
set_option maxRecDepth 100000 in
theorem s_X12_unlikeRegisters {N : Nat} (hN : 1048576 ≤ N)  {σ0 : zS}  (hR : RF σ0.2.2) (hM : MW (σ0.1 219) 0) (hB : ZB σ0.1) : Ok (f_X12_unlikeRegisters N 218 σ0) (fun r => Tr [] σ0 r.2 ∧ (True)) := by
  have hT : Tr [] σ0 σ0 := Tr.rf
  have hn := hM.1
  have he : 0 ≤ (σ0.1 219 2).toInt ∧ (σ0.1 219 2).toInt ≤ 10 := hM.2.1
  have qm := mny_b hn.1 hn.2
  rw [f_X12_unlikeRegisters.eq_1]
  refine ok_lp (fun t : Int32 × Int32 × zS => Tr [] σ0 (t.2.2) ∧ (0 ≤ (t.2.1).toInt) ∧ (ZB (t.2.2).1)) (fun t : Int32 × Int32 × zS => (10 - (t.2.1).toInt).toNat) (fun again1 t hI ih4_1 => ?_) N _ (show Tr [] σ0 σ0 ∧ (0 ≤ (0 : Int32).toInt) ∧ (ZB σ0.1) from ⟨hT, (by first | omega | decide | (simp only [Int32.le_iff_toInt_le, Int32.lt_iff_toInt_lt, ti_add, ti_sub, ti_mul, Int32.reduceToInt] at *; omega)), hB⟩) (show (10 - (0 : Int32).toInt).toNat < N from (by first | omega | decide | (simp only [Int32.le_iff_toInt_le, Int32.lt_iff_toInt_lt, ti_add, ti_sub, ti_mul, Int32.reduceToInt] at *; omega)))
  obtain ⟨x1_1, x2_1, σ1⟩ := t
  have hI : Tr [] σ0 σ1 ∧ (0 ≤ x2_1.toInt) ∧ (ZB σ1.1) := hI
  obtain ⟨hT, hI1, hB⟩ := hI
  rw [F_X12_unlikeRegisters_4.eq_1]
  refine ok_if (fun hc2 => ?_) (fun hc2 => ?_)
  · exact ok_some ⟨hT, trivial⟩
  · refine ok_gC rfl ?_
    have hTc := hT
    refine ok_zbT (Q := fun V σ => (V = 0 ∨ V = 1) ∧ (¬ V = 0 → 0 < (σ1.1 219 0).toInt) ∧ (V = 0 → (σ1.1 219 0).toInt ≤ 0)) hT (s_X12_isWorld hN (hR.tr hT) (by first | exact hM | (rw [hT.2 219 (by decide)]; exact hM))) (fun _ h9 => absurd h9 List.not_mem_nil) (fun v3 σ4 hOσ4 hT hqv3 => ?_)
    have hqv3 : (v3 = 0 ∨ v3 = 1) ∧ (¬ v3 = 0 → 0 < (σ1.1 219 0).toInt) ∧ (v3 = 0 → (σ1.1 219 0).toInt ≤ 0) := hqv3
    rw [hTc.2 219 (by decide)] at hqv3
    have hB : ZB σ4.1 := ZB.tr hOσ4 (by decide) hB
    refine ok_if (fun hc5 => ?_) (fun hc5 => ?_)
    · have qhc5 := hqv3.2.2 hc5
      exact ok_some ⟨hT, trivial⟩
    · have qhc5 := hqv3.2.1 hc5
      refine ok_lp (fun t : Int32 × Int32 × zS => Tr [] σ0 (t.2.2) ∧ (0 ≤ (t.2.1).toInt) ∧ (ZB (t.2.2).1)) (fun t : Int32 × Int32 × zS => (x2_1.toInt - (t.2.1).toInt).toNat) (fun again6 t hI ih22_6 => ?_) N _ (show Tr [] σ0 σ4 ∧ (0 ≤ (0 : Int32).toInt) ∧ (ZB σ4.1) from ⟨hT, (by first | omega | decide | (simp only [Int32.le_iff_toInt_le, Int32.lt_iff_toInt_lt, ti_add, ti_sub, ti_mul, Int32.reduceToInt] at *; omega)), hB⟩) (show (x2_1.toInt - (0 : Int32).toInt).toNat < N from (by first | omega | decide | (simp only [Int32.le_iff_toInt_le, Int32.lt_iff_toInt_lt, ti_add, ti_sub, ti_mul, Int32.reduceToInt] at *; omega)))
      obtain ⟨x3_6, x4_6, σ6⟩ := t
      have hI : Tr [] σ0 σ6 ∧ (0 ≤ x4_6.toInt) ∧ (ZB σ6.1) := hI
      obtain ⟨hT, hI6, hB⟩ := hI
      rw [F_X12_unlikeRegisters_22.eq_1]
      refine ok_if (fun hc7 => ?_) (fun hc7 => ?_)
      · refine ok_if (fun hc8 => ?_) (fun hc8 => ?_)
        · exact ih4_1 (x1_1 + 0, x2_1 + 1, σ6) (show Tr [] σ0 σ6 ∧ (0 ≤ (x2_1 + 1).toInt) ∧ (ZB σ6.1) from ⟨hT, (by first | omega | decide | (simp only [Int32.le_iff_toInt_le, Int32.lt_iff_toInt_lt, ti_add, ti_sub, ti_mul, Int32.reduceToInt] at *; omega)), hB⟩) (show (10 - (x2_1 + 1).toInt).toNat < (10 - x2_1.toInt).toNat from (by first | omega | decide | (simp only [Int32.le_iff_toInt_le, Int32.lt_iff_toInt_lt, ti_add, ti_sub, ti_mul, Int32.reduceToInt] at *; omega)))
        · exact ih4_1 (x1_1 + 1, x2_1 + 1, σ6) (show Tr [] σ0 σ6 ∧ (0 ≤ (x2_1 + 1).toInt) ∧ (ZB σ6.1) from ⟨hT, (by first | omega | decide | (simp only [Int32.le_iff_toInt_le, Int32.lt_iff_toInt_lt, ti_add, ti_sub, ti_mul, Int32.reduceToInt] at *; omega)), hB⟩) (show (10 - (x2_1 + 1).toInt).toNat < (10 - x2_1.toInt).toNat from (by first | omega | decide | (simp only [Int32.le_iff_toInt_le, Int32.lt_iff_toInt_lt, ti_add, ti_sub, ti_mul, Int32.reduceToInt] at *; omega)))
      · refine ok_if (fun hc9 => ?_) (fun hc9 => ?_)
        · exact ih22_6 (0, x4_6 + 1, σ6) (show Tr [] σ0 σ6 ∧ (0 ≤ (x4_6 + 1).toInt) ∧ (ZB σ6.1) from ⟨hT, (by first | omega | decide | (simp only [Int32.le_iff_toInt_le, Int32.lt_iff_toInt_lt, ti_add, ti_sub, ti_mul, Int32.reduceToInt] at *; omega)), hB⟩) (show (x2_1.toInt - (x4_6 + 1).toInt).toNat < (x2_1.toInt - x4_6.toInt).toNat from (by first | omega | decide | (simp only [Int32.le_iff_toInt_le, Int32.lt_iff_toInt_lt, ti_add, ti_sub, ti_mul, Int32.reduceToInt] at *; omega)))
        · refine ok_gC rfl ?_
          refine ok_zbT (Q := fun V σ => True) hT (s_X12_differOf hN (hR.tr hT) (by first | exact hM | (rw [hT.2 219 (by decide)]; exact hM)) (hB) (by first | omega | decide | (simp only [Int32.le_iff_toInt_le, Int32.lt_iff_toInt_lt, ti_add, ti_sub, ti_mul, Int32.reduceToInt] at *; omega)) (by first | omega | decide | (simp only [Int32.le_iff_toInt_le, Int32.lt_iff_toInt_lt, ti_add, ti_sub, ti_mul, Int32.reduceToInt] at *; omega))) (fun _ h9 => absurd h9 List.not_mem_nil) (fun v10 σ11 hOσ11 hT hqv10 => ?_)
          have hB : ZB σ11.1 := ZB.tr hOσ11 (by decide) hB
          refine ok_if (fun hc12 => ?_) (fun hc12 => ?_)
          · exact ih22_6 (0, x4_6 + 1, σ11) (show Tr [] σ0 σ11 ∧ (0 ≤ (x4_6 + 1).toInt) ∧ (ZB σ11.1) from ⟨hT, (by first | omega | decide | (simp only [Int32.le_iff_toInt_le, Int32.lt_iff_toInt_lt, ti_add, ti_sub, ti_mul, Int32.reduceToInt] at *; omega)), hB⟩) (show (x2_1.toInt - (x4_6 + 1).toInt).toNat < (x2_1.toInt - x4_6.toInt).toNat from (by first | omega | decide | (simp only [Int32.le_iff_toInt_le, Int32.lt_iff_toInt_lt, ti_add, ti_sub, ti_mul, Int32.reduceToInt] at *; omega)))
          · exact ih22_6 (1, x4_6 + 1, σ11) (show Tr [] σ0 σ11 ∧ (0 ≤ (x4_6 + 1).toInt) ∧ (ZB σ11.1) from ⟨hT, (by first | omega | decide | (simp only [Int32.le_iff_toInt_le, Int32.lt_iff_toInt_lt, ti_add, ti_sub, ti_mul, Int32.reduceToInt] at *; omega)), hB⟩) (show (x2_1.toInt - (x4_6 + 1).toInt).toNat < (x2_1.toInt - x4_6.toInt).toNat from (by first | omega | decide | (simp only [Int32.le_iff_toInt_le, Int32.lt_iff_toInt_lt, ti_add, ti_sub, ti_mul, Int32.reduceToInt] at *; omega)))

set_option maxHeartbeats 4000000 in
set_option maxRecDepth 100000 in
theorem s_X12_count {N : Nat} (hN : 1048576 ≤ N) {x1 : Int32} {σ0 : zS}  (hR : RF σ0.2.2) (hM : MW (σ0.1 219) 0) (hB : ZB σ0.1) : Ok (f_X12_count N 218 x1 σ0) (fun r => Tr [] σ0 r.2 ∧ (True)) := by
  have hT : Tr [] σ0 σ0 := Tr.rf
  have hn := hM.1
  have he : 0 ≤ (σ0.1 219 2).toInt ∧ (σ0.1 219 2).toInt ≤ 10 := hM.2.1
  have qm := mny_b hn.1 hn.2
  rw [f_X12_count.eq_1]
  refine ok_if (fun hc1 => ?_) (fun hc1 => ?_)
  · refine ok_gR (v := 219) hT rfl (hR 218 1 rfl) ?_
    refine ok_aIc (j := 0) hT rfl (by decide) rfl (by decide) (by decide) ?_
    exact ok_some ⟨hT, trivial⟩
  refine ok_if (fun hc4 => ?_) (fun hc4 => ?_)
  · refine ok_gR (v := 219) hT rfl (hR 218 1 rfl) ?_
    refine ok_aIc (j := 1) hT rfl (by decide) rfl (by decide) (by decide) ?_
    exact ok_some ⟨hT, trivial⟩
  refine ok_if (fun hc7 => ?_) (fun hc7 => ?_)
  · refine ok_gR (v := 219) hT rfl (hR 218 1 rfl) ?_
    refine ok_aIc (j := 2) hT rfl (by decide) rfl (by decide) (by decide) ?_
    exact ok_some ⟨hT, trivial⟩
  refine ok_if (fun hc10 => ?_) (fun hc10 => ?_)
  · refine ok_gI0 hT rfl (by decide) ?_
    exact ok_some ⟨hT, trivial⟩
  refine ok_if (fun hc12 => ?_) (fun hc12 => ?_)
  · refine ok_lp (fun t : Int32 × Int32 × zS => Tr [] σ0 (t.2.2) ∧ (0 ≤ (t.2.1).toInt) ∧ (ZB (t.2.2).1)) (fun t : Int32 × Int32 × zS => (10 - (t.2.1).toInt).toNat) (fun again13 t hI ih72_13 => ?_) N _ (show Tr [] σ0 σ0 ∧ (0 ≤ (0 : Int32).toInt) ∧ (ZB σ0.1) from ⟨hT, (by first | omega | decide | (simp only [Int32.le_iff_toInt_le, Int32.lt_iff_toInt_lt, ti_add, ti_sub, ti_mul, Int32.reduceToInt] at *; omega)), hB⟩) (show (10 - (0 : Int32).toInt).toNat < N from (by first | omega | decide | (simp only [Int32.le_iff_toInt_le, Int32.lt_iff_toInt_lt, ti_add, ti_sub, ti_mul, Int32.reduceToInt] at *; omega)))
    obtain ⟨x2_13, x3_13, σ13⟩ := t
    have hI : Tr [] σ0 σ13 ∧ (0 ≤ x3_13.toInt) ∧ (ZB σ13.1) := hI
    obtain ⟨hT, hI13, hB⟩ := hI
    rw [F_X12_count_72.eq_1]
    refine ok_if (fun hc14 => ?_) (fun hc14 => ?_)
    · exact ok_some ⟨hT, trivial⟩
    · refine ok_gC rfl ?_
      refine ok_zbT (Q := fun V σ => 0 ≤ V.toInt ∧ V.toInt ≤ 1024) hT (s_X12_sizeOf hN (hR.tr hT) (by first | exact hM | (rw [hT.2 219 (by decide)]; exact hM)) (hB) (by first | omega | decide | (simp only [Int32.le_iff_toInt_le, Int32.lt_iff_toInt_lt, ti_add, ti_sub, ti_mul, Int32.reduceToInt] at *; omega))) (fun _ h9 => absurd h9 List.not_mem_nil) (fun v15 σ16 hOσ16 hT hqv15 => ?_)
      have hqv15 : 0 ≤ v15.toInt ∧ v15.toInt ≤ 1024 := hqv15
      have hB : ZB σ16.1 := ZB.tr hOσ16 (by decide) hB
      refine ok_if (fun hc17 => ?_) (fun hc17 => ?_)
      · exact ih72_13 (x2_13 ||| 0, x3_13 + 1, σ16) (show Tr [] σ0 σ16 ∧ (0 ≤ (x3_13 + 1).toInt) ∧ (ZB σ16.1) from ⟨hT, (by first | omega | decide | (simp only [Int32.le_iff_toInt_le, Int32.lt_iff_toInt_lt, ti_add, ti_sub, ti_mul, Int32.reduceToInt] at *; omega)), hB⟩) (show (10 - (x3_13 + 1).toInt).toNat < (10 - x3_13.toInt).toNat from (by first | omega | decide | (simp only [Int32.le_iff_toInt_le, Int32.lt_iff_toInt_lt, ti_add, ti_sub, ti_mul, Int32.reduceToInt] at *; omega)))
      · exact ih72_13 (x2_13 ||| ((1 : Int32) <<< (x3_13 &&& 31)), x3_13 + 1, σ16) (show Tr [] σ0 σ16 ∧ (0 ≤ (x3_13 + 1).toInt) ∧ (ZB σ16.1) from ⟨hT, (by first | omega | decide | (simp only [Int32.le_iff_toInt_le, Int32.lt_iff_toInt_lt, ti_add, ti_sub, ti_mul, Int32.reduceToInt] at *; omega)), hB⟩) (show (10 - (x3_13 + 1).toInt).toNat < (10 - x3_13.toInt).toNat from (by first | omega | decide | (simp only [Int32.le_iff_toInt_le, Int32.lt_iff_toInt_lt, ti_add, ti_sub, ti_mul, Int32.reduceToInt] at *; omega)))
  refine ok_if (fun hc18 => ?_) (fun hc18 => ?_)
  · refine ok_gC rfl ?_
    refine ok_zbT (Q := fun V σ => True) hT (s_X12_unlikeRegisters hN (hR.tr hT) (by first | exact hM | (rw [hT.2 219 (by decide)]; exact hM)) (hB)) (fun _ h9 => absurd h9 List.not_mem_nil) (fun v19 σ20 hOσ20 hT hqv19 => ?_)
    have hB : ZB σ20.1 := ZB.tr hOσ20 (by decide) hB
    exact ok_some ⟨hT, trivial⟩
  refine ok_if (fun hc21 => ?_) (fun hc21 => ?_)
  · refine ok_lp (fun t : Int32 × Int32 × zS => Tr [] σ0 (t.2.2) ∧ (0 ≤ (t.2.1).toInt) ∧ (ZB (t.2.2).1)) (fun t : Int32 × Int32 × zS => (4 - (t.2.1).toInt).toNat) (fun again22 t hI ih111_22 => ?_) N _ (show Tr [] σ0 σ0 ∧ (0 ≤ (0 : Int32).toInt) ∧ (ZB σ0.1) from ⟨hT, (by first | omega | decide | (simp only [Int32.le_iff_toInt_le, Int32.lt_iff_toInt_lt, ti_add, ti_sub, ti_mul, Int32.reduceToInt] at *; omega)), hB⟩) (show (4 - (0 : Int32).toInt).toNat < N from (by first | omega | decide | (simp only [Int32.le_iff_toInt_le, Int32.lt_iff_toInt_lt, ti_add, ti_sub, ti_mul, Int32.reduceToInt] at *; omega)))
    obtain ⟨x2_22, x3_22, σ22⟩ := t
    have hI : Tr [] σ0 σ22 ∧ (0 ≤ x3_22.toInt) ∧ (ZB σ22.1) := hI
    obtain ⟨hT, hI22, hB⟩ := hI
    rw [F_X12_count_111.eq_1]
    refine ok_if (fun hc23 => ?_) (fun hc23 => ?_)
    · exact ok_some ⟨hT, trivial⟩
    · refine ok_gR (v := 239) hT rfl (hR 218 35 rfl) ?_
      refine ok_aIn rfl (by first | omega | decide | (simp only [Int32.le_iff_toInt_le, Int32.lt_iff_toInt_lt, ti_add, ti_sub, ti_mul, Int32.reduceToInt] at *; omega)) (by first | omega | decide | (simp only [Int32.le_iff_toInt_le, Int32.lt_iff_toInt_lt, ti_add, ti_sub, ti_mul, Int32.reduceToInt] at *; omega)) (fun v25 ev25 => ?_)
      refine ok_if (fun hc26 => ?_) (fun hc26 => ?_)
      · exact ih111_22 (x2_22 + 0, x3_22 + 1, σ22) (show Tr [] σ0 σ22 ∧ (0 ≤ (x3_22 + 1).toInt) ∧ (ZB σ22.1) from ⟨hT, (by first | omega | decide | (simp only [Int32.le_iff_toInt_le, Int32.lt_iff_toInt_lt, ti_add, ti_sub, ti_mul, Int32.reduceToInt] at *; omega)), hB⟩) (show (4 - (x3_22 + 1).toInt).toNat < (4 - x3_22.toInt).toNat from (by first | omega | decide | (simp only [Int32.le_iff_toInt_le, Int32.lt_iff_toInt_lt, ti_add, ti_sub, ti_mul, Int32.reduceToInt] at *; omega)))
      · exact ih111_22 (x2_22 + 1, x3_22 + 1, σ22) (show Tr [] σ0 σ22 ∧ (0 ≤ (x3_22 + 1).toInt) ∧ (ZB σ22.1) from ⟨hT, (by first | omega | decide | (simp only [Int32.le_iff_toInt_le, Int32.lt_iff_toInt_lt, ti_add, ti_sub, ti_mul, Int32.reduceToInt] at *; omega)), hB⟩) (show (4 - (x3_22 + 1).toInt).toNat < (4 - x3_22.toInt).toNat from (by first | omega | decide | (simp only [Int32.le_iff_toInt_le, Int32.lt_iff_toInt_lt, ti_add, ti_sub, ti_mul, Int32.reduceToInt] at *; omega)))
  exact ok_some ⟨hT, trivial⟩

set_option maxHeartbeats 4000000 in
set_option maxRecDepth 100000 in
theorem s_X12_row {N : Nat} (hN : 1048576 ≤ N) {x1 : Int32} {x2 : Int32} {x3 : Int32} {σ0 : zS}  (hR : RF σ0.2.2) (hS : MS (σ0.1 239)) : Ok (f_X12_row N 218 x1 x2 x3 σ0) (fun r => Tr [239, 240] σ0 r.2 ∧ (MS (r.2.1 239))) := by
  have hT : Tr [239, 240] σ0 σ0 := Tr.rf
  rw [f_X12_row.eq_1]
  refine ok_zbT (Q := fun V σ => (V = 0 ∨ V = 1) ∧ (¬ V = 0 → 0 ≤ x1.toInt ∧ x1.toInt ≤ 3)) hT (s_X12_isSlot hN (hR.tr hT) ) (fun _ h9 => absurd h9 List.not_mem_nil) (fun v1 σ2 hOσ2 hT hqv1 => ?_)
  have hqv1 : (v1 = 0 ∨ v1 = 1) ∧ (¬ v1 = 0 → 0 ≤ x1.toInt ∧ x1.toInt ≤ 3) := hqv1
  have hS : MS (σ2.1 239) := by rw [hOσ2.2 239 (by decide)]; exact hS
  refine ok_if (fun hc3 => ?_) (fun hc3 => ?_)
  · exact ok_some ⟨hT, (show MS (σ2.1 239) from by exact hS)⟩
  · have qhc3 := hqv1.2 hc3
    refine ok_zbT (Q := fun V σ => (V = 0 ∨ V = 1) ∧ (¬ V = 0 → (0 : Int64).toInt ≤ (Int32.toInt64 x2).toInt ∧ (Int32.toInt64 x2).toInt ≤ (3 : Int64).toInt)) hT (s_X12_in hN (hR.tr hT) ) (fun _ h9 => absurd h9 List.not_mem_nil) (fun v4 σ5 hOσ5 hT hqv4 => ?_)
    have hqv4 : (v4 = 0 ∨ v4 = 1) ∧ (¬ v4 = 0 → (0 : Int64).toInt ≤ (Int32.toInt64 x2).toInt ∧ (Int32.toInt64 x2).toInt ≤ (3 : Int64).toInt) := hqv4
    simp only [i64_of, Int64.reduceToInt] at hqv4
    have hS : MS (σ5.1 239) := by rw [hOσ5.2 239 (by decide)]; exact hS
    refine ok_if (fun hc6 => ?_) (fun hc6 => ?_)
    · exact ok_some ⟨hT, (show MS (σ5.1 239) from by exact hS)⟩
    · have qhc6 := hqv4.2 hc6
      refine ok_if (fun hc7 => ?_) (fun hc7 => ?_)
      · refine ok_if (fun hc8 => ?_) (fun hc8 => ?_)
        · refine ok_gR (v := 239) hT rfl (hR 218 35 rfl) ?_
          refine ok_s14 hT rfl (by decide) (by first | omega | decide | (simp only [Int32.le_iff_toInt_le, Int32.lt_iff_toInt_lt, ti_add, ti_sub, ti_mul, Int32.reduceToInt] at *; omega)) (by first | omega | decide | (simp only [Int32.le_iff_toInt_le, Int32.lt_iff_toInt_lt, ti_add, ti_sub, ti_mul, Int32.reduceToInt] at *; omega)) (fun σ10 eσ10 hOσ10 hT => ?_)
          have hS : MS (σ10.1 239) := MS_w eσ10 (by first | omega | (simp only [Int32.le_iff_toInt_le, Int32.lt_iff_toInt_lt, ti_add, ti_sub, ti_mul, Int32.reduceToInt] at *; omega)) (by first | omega | (simp only [Int32.le_iff_toInt_le, Int32.lt_iff_toInt_lt, ti_add, ti_sub, ti_mul, Int32.reduceToInt] at *; omega)) hS
          refine ok_gR (v := 240) hT rfl (hR 218 36 rfl) ?_
          refine ok_s14 hT rfl (by decide) (by first | omega | decide | (simp only [Int32.le_iff_toInt_le, Int32.lt_iff_toInt_lt, ti_add, ti_sub, ti_mul, Int32.reduceToInt] at *; omega)) (by first | omega | decide | (simp only [Int32.le_iff_toInt_le, Int32.lt_iff_toInt_lt, ti_add, ti_sub, ti_mul, Int32.reduceToInt] at *; omega)) (fun σ12 eσ12 hOσ12 hT => ?_)
          have hS : MS (σ12.1 239) := by rw [hOσ12.2 239 (by decide)]; exact hS
          refine ok_lp (fun t : Int32 × zS => Tr [239, 240] σ0 (t.2) ∧ (0 ≤ (t.1).toInt) ∧ (MS ((t.2).1 239))) (fun t : Int32 × zS => (60 - (t.1).toInt).toNat) (fun again13 t hI ih52_13 => ?_) N _ (show Tr [239, 240] σ0 σ12 ∧ (0 ≤ (0 : Int32).toInt) ∧ (MS (σ12.1 239)) from ⟨hT, (by first | omega | decide | (simp only [Int32.le_iff_toInt_le, Int32.lt_iff_toInt_lt, ti_add, ti_sub, ti_mul, Int32.reduceToInt] at *; omega)), hS⟩) (show (60 - (0 : Int32).toInt).toNat < N from (by first | omega | decide | (simp only [Int32.le_iff_toInt_le, Int32.lt_iff_toInt_lt, ti_add, ti_sub, ti_mul, Int32.reduceToInt] at *; omega)))
          obtain ⟨x4_13, σ13⟩ := t
          have hI : Tr [239, 240] σ0 σ13 ∧ (0 ≤ x4_13.toInt) ∧ (MS (σ13.1 239)) := hI
          obtain ⟨hT, hI13, hS⟩ := hI
          rw [F_X12_row_52.eq_1]
          refine ok_if (fun hc14 => ?_) (fun hc14 => ?_)
          · exact ok_some ⟨hT, (show MS (σ13.1 239) from by exact hS)⟩
          · have m9 := ix60 (x := x1) (y := x4_13) (by first | omega | (simp only [Int32.le_iff_toInt_le, Int32.lt_iff_toInt_lt, ti_add, ti_sub, ti_mul, Int32.reduceToInt] at *; omega)) (by first | omega | (simp only [Int32.le_iff_toInt_le, Int32.lt_iff_toInt_lt, ti_add, ti_sub, ti_mul, Int32.reduceToInt] at *; omega)) (by first | omega | (simp only [Int32.le_iff_toInt_le, Int32.lt_iff_toInt_lt, ti_add, ti_sub, ti_mul, Int32.reduceToInt] at *; omega)) (by first | omega | (simp only [Int32.le_iff_toInt_le, Int32.lt_iff_toInt_lt, ti_add, ti_sub, ti_mul, Int32.reduceToInt] at *; omega))
            refine ok_gR (v := 241) hT rfl (hR 218 37 rfl) ?_
            refine ok_sJ hT rfl (by first | omega | decide | (simp only [Int32.le_iff_toInt_le, Int32.lt_iff_toInt_lt, ti_add, ti_sub, ti_mul, Int32.reduceToInt] at *; omega)) (by first | omega | decide | (simp only [Int32.le_iff_toInt_le, Int32.lt_iff_toInt_lt, ti_add, ti_sub, ti_mul, Int32.reduceToInt] at *; omega)) (fun σ16 eσ16 hOσ16 hT => ?_)
            have hS : MS (σ16.1 239) := by rw [hOσ16.2 239 (by decide)]; exact hS
            exact ih52_13 (x4_13 + 1, σ16) (show Tr [239, 240] σ0 σ16 ∧ (0 ≤ (x4_13 + 1).toInt) ∧ (MS (σ16.1 239)) from ⟨hT, (by first | omega | decide | (simp only [Int32.le_iff_toInt_le, Int32.lt_iff_toInt_lt, ti_add, ti_sub, ti_mul, Int32.reduceToInt] at *; omega)), hS⟩) (show (60 - (x4_13 + 1).toInt).toNat < (60 - x4_13.toInt).toNat from (by first | omega | decide | (simp only [Int32.le_iff_toInt_le, Int32.lt_iff_toInt_lt, ti_add, ti_sub, ti_mul, Int32.reduceToInt] at *; omega)))
        · exact ok_some ⟨hT, (show MS (σ5.1 239) from by exact hS)⟩
      · exact ok_some ⟨hT, (show MS (σ5.1 239) from by exact hS)⟩

set_option maxHeartbeats 4000000 in
set_option maxRecDepth 100000 in
theorem s_X12_write {N : Nat} (hN : 1048576 ≤ N) {x1 : Int32} {x2 : Int32} {x3 : Int64} {σ0 : zS}  (hR : RF σ0.2.2) (hS : MS (σ0.1 239)) : Ok (f_X12_write N 218 x1 x2 x3 σ0) (fun r => Tr [] σ0 r.2 ∧ (True)) := by
  have hT : Tr [] σ0 σ0 := Tr.rf
  rw [f_X12_write.eq_1]
  refine ok_zbT (Q := fun V σ => (V = 0 ∨ V = 1) ∧ (¬ V = 0 → 0 ≤ x1.toInt ∧ x1.toInt ≤ 3)) hT (s_X12_isSlot hN (hR.tr hT) ) (fun _ h9 => absurd h9 List.not_mem_nil) (fun v1 σ2 hOσ2 hT hqv1 => ?_)
  have hqv1 : (v1 = 0 ∨ v1 = 1) ∧ (¬ v1 = 0 → 0 ≤ x1.toInt ∧ x1.toInt ≤ 3) := hqv1
  refine ok_if (fun hc3 => ?_) (fun hc3 => ?_)
  · exact ok_some ⟨hT, trivial⟩
  · have qhc3 := hqv1.2 hc3
    refine ok_gR (v := 239) hT rfl (hR 218 35 rfl) ?_
    refine ok_aIn rfl (by first | omega | decide | (simp only [Int32.le_iff_toInt_le, Int32.lt_iff_toInt_lt, ti_add, ti_sub, ti_mul, Int32.reduceToInt] at *; omega)) (by first | omega | decide | (simp only [Int32.le_iff_toInt_le, Int32.lt_iff_toInt_lt, ti_add, ti_sub, ti_mul, Int32.reduceToInt] at *; omega)) (fun v5 ev5 => ?_)
    have qs15 : -1 ≤ v5.toInt ∧ v5.toInt ≤ 60 := by rw [ev5, hT.2 239 (by decide)]; exact hS _
    refine ok_if (fun hc6 => ?_) (fun hc6 => ?_)
    · exact ok_some ⟨hT, trivial⟩
    · refine ok_gR (v := 239) hT rfl (hR 218 35 rfl) ?_
      refine ok_aIn rfl (by first | omega | decide | (simp only [Int32.le_iff_toInt_le, Int32.lt_iff_toInt_lt, ti_add, ti_sub, ti_mul, Int32.reduceToInt] at *; omega)) (by first | omega | decide | (simp only [Int32.le_iff_toInt_le, Int32.lt_iff_toInt_lt, ti_add, ti_sub, ti_mul, Int32.reduceToInt] at *; omega)) (fun v8 ev8 => ?_)
      have qs31 : -1 ≤ v8.toInt ∧ v8.toInt ≤ 60 := by rw [ev8, hT.2 239 (by decide)]; exact hS _
      refine ok_zbT (Q := fun V σ => (V = 0 ∨ V = 1) ∧ (¬ V = 0 → (0 : Int64).toInt ≤ (Int32.toInt64 x2).toInt ∧ (Int32.toInt64 x2).toInt ≤ (Int32.toInt64 (v8 - 1)).toInt)) hT (s_X12_in hN (hR.tr hT) ) (fun _ h9 => absurd h9 List.not_mem_nil) (fun v9 σ10 hOσ10 hT hqv9 => ?_)
      have hqv9 : (v9 = 0 ∨ v9 = 1) ∧ (¬ v9 = 0 → (0 : Int64).toInt ≤ (Int32.toInt64 x2).toInt ∧ (Int32.toInt64 x2).toInt ≤ (Int32.toInt64 (v8 - 1)).toInt) := hqv9
      simp only [i64_of, Int64.reduceToInt] at hqv9
      refine ok_if (fun hc11 => ?_) (fun hc11 => ?_)
      · exact ok_some ⟨hT, trivial⟩
      · have qhc11 := hqv9.2 hc11
        have m9 := ix60 (x := x1) (y := x2) (by first | omega | (simp only [Int32.le_iff_toInt_le, Int32.lt_iff_toInt_lt, ti_add, ti_sub, ti_mul, Int32.reduceToInt] at *; omega)) (by first | omega | (simp only [Int32.le_iff_toInt_le, Int32.lt_iff_toInt_lt, ti_add, ti_sub, ti_mul, Int32.reduceToInt] at *; omega)) (by first | omega | (simp only [Int32.le_iff_toInt_le, Int32.lt_iff_toInt_lt, ti_add, ti_sub, ti_mul, Int32.reduceToInt] at *; omega)) (by first | omega | (simp only [Int32.le_iff_toInt_le, Int32.lt_iff_toInt_lt, ti_add, ti_sub, ti_mul, Int32.reduceToInt] at *; omega))
        refine ok_gR (v := 241) hT rfl (hR 218 37 rfl) ?_
        refine ok_gR (v := 240) hT rfl (hR 218 36 rfl) ?_
        refine ok_aIn rfl (by first | omega | decide | (simp only [Int32.le_iff_toInt_le, Int32.lt_iff_toInt_lt, ti_add, ti_sub, ti_mul, Int32.reduceToInt] at *; omega)) (by first | omega | decide | (simp only [Int32.le_iff_toInt_le, Int32.lt_iff_toInt_lt, ti_add, ti_sub, ti_mul, Int32.reduceToInt] at *; omega)) (fun v14 ev14 => ?_)
        refine ok_zbT (Q := fun V σ => True) hT (s_X12_cut hN (hR.tr hT) ) (fun _ h9 => absurd h9 List.not_mem_nil) (fun v15 σ16 hOσ16 hT hqv15 => ?_)
        refine ok_sJ hT rfl (by first | omega | decide | (simp only [Int32.le_iff_toInt_le, Int32.lt_iff_toInt_lt, ti_add, ti_sub, ti_mul, Int32.reduceToInt] at *; omega)) (by first | omega | decide | (simp only [Int32.le_iff_toInt_le, Int32.lt_iff_toInt_lt, ti_add, ti_sub, ti_mul, Int32.reduceToInt] at *; omega)) (fun σ17 eσ17 hOσ17 hT => ?_)
        exact ok_some ⟨hT, trivial⟩

set_option maxHeartbeats 4000000 in
set_option maxRecDepth 100000 in
theorem s_X12_fault {N : Nat} (hN : 1048576 ≤ N) {x1 : Int32} {σ0 : zS}  (hR : RF σ0.2.2)  : Ok (f_X12_fault N 218 x1 σ0) (fun r => Tr [] σ0 r.2 ∧ (True)) := by
  have hT : Tr [] σ0 σ0 := Tr.rf
  rw [f_X12_fault.eq_1]
  refine ok_if (fun hc1 => ?_) (fun hc1 => ?_)
  · refine ok_gI0 hT rfl (by decide) ?_
    exact ok_some ⟨hT, trivial⟩
  · refine ok_if (fun hc3 => ?_) (fun hc3 => ?_)
    · refine ok_gI0 hT rfl (by decide) ?_
      exact ok_some ⟨hT, trivial⟩
    · exact ok_some ⟨hT, trivial⟩

set_option maxHeartbeats 4000000 in
set_option maxRecDepth 100000 in
theorem s_X12_feed {N : Nat} (hN : 1048576 ≤ N) {x1 : Int32} {x2 : Int32} {x3 : Int32} {x4 : Int32} {x5 : Int32} {σ0 : zS}  (hR : RF σ0.2.2) (hp : 0 ≤ (σ0.1 218 7).toInt ∧ (σ0.1 218 7).toInt ≤ 600) : Ok (f_X12_feed N 218 x1 x2 x3 x4 x5 σ0) (fun r => Tr [218, 224, 225] σ0 r.2 ∧ (0 ≤ (r.2.1 218 7).toInt ∧ (r.2.1 218 7).toInt ≤ 600)) := by
  have hT : Tr [218, 224, 225] σ0 σ0 := Tr.rf
  have ht : σ0.1 218 7 = σ0.1 218 7 := rfl
  rw [f_X12_feed.eq_1]
  refine ok_gI rfl ?_
  refine ok_if (fun hc2 => ?_) (fun hc2 => ?_)
  · refine ok_gR (v := 225) hT rfl (hR 218 8 rfl) ?_
    refine ok_s14 hT rfl (by decide) (by first | omega | decide | (simp only [Int32.le_iff_toInt_le, Int32.lt_iff_toInt_lt, ti_add, ti_sub, ti_mul, Int32.reduceToInt] at *; omega)) (by first | omega | decide | (simp only [Int32.le_iff_toInt_le, Int32.lt_iff_toInt_lt, ti_add, ti_sub, ti_mul, Int32.reduceToInt] at *; omega)) (fun σ4 eσ4 hOσ4 hT => ?_)
    have hp : 0 ≤ (σ4.1 218 7).toInt ∧ (σ4.1 218 7).toInt ≤ 600 := by rw [hOσ4.2 218 (by decide)] <;> exact hp
    have ht : σ4.1 218 7 = σ0.1 218 7 := by rw [hOσ4.2 218 (by decide)] <;> exact ht
    refine ok_gR (v := 225) hT rfl (hR 218 8 rfl) ?_
    refine ok_s14 hT rfl (by decide) (by first | omega | decide | (simp only [Int32.le_iff_toInt_le, Int32.lt_iff_toInt_lt, ti_add, ti_sub, ti_mul, Int32.reduceToInt] at *; omega)) (by first | omega | decide | (simp only [Int32.le_iff_toInt_le, Int32.lt_iff_toInt_lt, ti_add, ti_sub, ti_mul, Int32.reduceToInt] at *; omega)) (fun σ6 eσ6 hOσ6 hT => ?_)
    have hp : 0 ≤ (σ6.1 218 7).toInt ∧ (σ6.1 218 7).toInt ≤ 600 := by rw [hOσ6.2 218 (by decide)] <;> exact hp
    have ht : σ6.1 218 7 = σ0.1 218 7 := by rw [hOσ6.2 218 (by decide)] <;> exact ht
    refine ok_gR (v := 225) hT rfl (hR 218 8 rfl) ?_
    refine ok_s14 hT rfl (by decide) (by first | omega | decide | (simp only [Int32.le_iff_toInt_le, Int32.lt_iff_toInt_lt, ti_add, ti_sub, ti_mul, Int32.reduceToInt] at *; omega)) (by first | omega | decide | (simp only [Int32.le_iff_toInt_le, Int32.lt_iff_toInt_lt, ti_add, ti_sub, ti_mul, Int32.reduceToInt] at *; omega)) (fun σ8 eσ8 hOσ8 hT => ?_)
    have hp : 0 ≤ (σ8.1 218 7).toInt ∧ (σ8.1 218 7).toInt ≤ 600 := by rw [hOσ8.2 218 (by decide)] <;> exact hp
    have ht : σ8.1 218 7 = σ0.1 218 7 := by rw [hOσ8.2 218 (by decide)] <;> exact ht
    refine ok_gR (v := 225) hT rfl (hR 218 8 rfl) ?_
    refine ok_s14 hT rfl (by decide) (by first | omega | decide | (simp only [Int32.le_iff_toInt_le, Int32.lt_iff_toInt_lt, ti_add, ti_sub, ti_mul, Int32.reduceToInt] at *; omega)) (by first | omega | decide | (simp only [Int32.le_iff_toInt_le, Int32.lt_iff_toInt_lt, ti_add, ti_sub, ti_mul, Int32.reduceToInt] at *; omega)) (fun σ10 eσ10 hOσ10 hT => ?_)
    have hp : 0 ≤ (σ10.1 218 7).toInt ∧ (σ10.1 218 7).toInt ≤ 600 := by rw [hOσ10.2 218 (by decide)] <;> exact hp
    have ht : σ10.1 218 7 = σ0.1 218 7 := by rw [hOσ10.2 218 (by decide)] <;> exact ht
    refine ok_gR (v := 225) hT rfl (hR 218 8 rfl) ?_
    refine ok_s14 hT rfl (by decide) (by first | omega | decide | (simp only [Int32.le_iff_toInt_le, Int32.lt_iff_toInt_lt, ti_add, ti_sub, ti_mul, Int32.reduceToInt] at *; omega)) (by first | omega | decide | (simp only [Int32.le_iff_toInt_le, Int32.lt_iff_toInt_lt, ti_add, ti_sub, ti_mul, Int32.reduceToInt] at *; omega)) (fun σ12 eσ12 hOσ12 hT => ?_)
    have hp : 0 ≤ (σ12.1 218 7).toInt ∧ (σ12.1 218 7).toInt ≤ 600 := by rw [hOσ12.2 218 (by decide)] <;> exact hp
    have ht : σ12.1 218 7 = σ0.1 218 7 := by rw [hOσ12.2 218 (by decide)] <;> exact ht
    refine ok_lp (fun t : Int32 × zS => Tr [218, 224, 225] σ0 (t.2) ∧ (0 ≤ (t.1).toInt) ∧ (0 ≤ ((t.2).1 218 7).toInt ∧ ((t.2).1 218 7).toInt ≤ 600) ∧ ((t.2).1 218 7 = σ0.1 218 7)) (fun t : Int32 × zS => (20 - (t.1).toInt).toNat) (fun again13 t hI ih55_13 => ?_) N _ (show Tr [218, 224, 225] σ0 σ12 ∧ (0 ≤ (0 : Int32).toInt) ∧ (0 ≤ (σ12.1 218 7).toInt ∧ (σ12.1 218 7).toInt ≤ 600) ∧ (σ12.1 218 7 = σ0.1 218 7) from ⟨hT, (by first | omega | decide | (simp only [Int32.le_iff_toInt_le, Int32.lt_iff_toInt_lt, ti_add, ti_sub, ti_mul, Int32.reduceToInt] at *; omega)), hp, ht⟩) (show (20 - (0 : Int32).toInt).toNat < N from (by first | omega | decide | (simp only [Int32.le_iff_toInt_le, Int32.lt_iff_toInt_lt, ti_add, ti_sub, ti_mul, Int32.reduceToInt] at *; omega)))
    obtain ⟨x6_13, σ13⟩ := t
    have hI : Tr [218, 224, 225] σ0 σ13 ∧ (0 ≤ x6_13.toInt) ∧ (0 ≤ (σ13.1 218 7).toInt ∧ (σ13.1 218 7).toInt ≤ 600) ∧ (σ13.1 218 7 = σ0.1 218 7) := hI
    obtain ⟨hT, hI13, hp, ht⟩ := hI
    rw [F_X12_feed_55.eq_1]
    refine ok_if (fun hc14 => ?_) (fun hc14 => ?_)
    · refine ok_gI rfl ?_
      refine ok_pI hT rfl (by decide) (fun σ16 eσ16 hOσ16 hT => ?_)
      have hp : 0 ≤ (σ16.1 218 7).toInt ∧ (σ16.1 218 7).toInt ≤ 600 := by rw [zI_atI eσ16]; have e9 := congrArg Int32.toInt ht; first | omega | (simp only [Int32.le_iff_toInt_le, Int32.lt_iff_toInt_lt, ti_add, ti_sub, ti_mul, Int32.reduceToInt] at *; omega)
      refine ok_gI rfl ?_
      exact ok_some ⟨hT, (show 0 ≤ (σ16.1 218 7).toInt ∧ (σ16.1 218 7).toInt ≤ 600 from by exact hp)⟩
    · have d4 := ti_div4 (x := x6_13) (by first | omega | (simp only [Int32.le_iff_toInt_le, Int32.lt_iff_toInt_lt, ti_add, ti_sub, ti_mul, Int32.reduceToInt] at *; omega)) (by first | omega | (simp only [Int32.le_iff_toInt_le, Int32.lt_iff_toInt_lt, ti_add, ti_sub, ti_mul, Int32.reduceToInt] at *; omega))
      have k9 : 0 = 0 := rfl
      have e9 := congrArg Int32.toInt ht
      refine ok_gR (v := 224) hT rfl (hR 218 6 rfl) ?_
      refine ok_gI rfl ?_
      refine ok_gR (v := 225) hT rfl (hR 218 8 rfl) ?_
      refine ok_nzI (by decide) ?_
      refine ok_aIn rfl (by first | omega | decide | (simp only [Int32.le_iff_toInt_le, Int32.lt_iff_toInt_lt, ti_add, ti_sub, ti_mul, Int32.reduceToInt] at *; omega)) (by first | omega | decide | (simp only [Int32.le_iff_toInt_le, Int32.lt_iff_toInt_lt, ti_add, ti_sub, ti_mul, Int32.reduceToInt] at *; omega)) (fun v21 ev21 => ?_)
      refine ok_nzI (by decide) ?_
      refine ok_s13 hT rfl (by decide) (by first | omega | decide | (simp only [Int32.le_iff_toInt_le, Int32.lt_iff_toInt_lt, ti_add, ti_sub, ti_mul, Int32.reduceToInt] at *; omega)) (by first | omega | decide | (simp only [Int32.le_iff_toInt_le, Int32.lt_iff_toInt_lt, ti_add, ti_sub, ti_mul, Int32.reduceToInt] at *; omega)) (fun σ22 eσ22 hOσ22 hT => ?_)
      have hp : 0 ≤ (σ22.1 218 7).toInt ∧ (σ22.1 218 7).toInt ≤ 600 := by rw [hOσ22.2 218 (by decide)] <;> exact hp
      have ht : σ22.1 218 7 = σ0.1 218 7 := by rw [hOσ22.2 218 (by decide)] <;> exact ht
      exact ih55_13 (x6_13 + 1, σ22) (show Tr [218, 224, 225] σ0 σ22 ∧ (0 ≤ (x6_13 + 1).toInt) ∧ (0 ≤ (σ22.1 218 7).toInt ∧ (σ22.1 218 7).toInt ≤ 600) ∧ (σ22.1 218 7 = σ0.1 218 7) from ⟨hT, (by first | omega | decide | (simp only [Int32.le_iff_toInt_le, Int32.lt_iff_toInt_lt, ti_add, ti_sub, ti_mul, Int32.reduceToInt] at *; omega)), hp, ht⟩) (show (20 - (x6_13 + 1).toInt).toNat < (20 - x6_13.toInt).toNat from (by first | omega | decide | (simp only [Int32.le_iff_toInt_le, Int32.lt_iff_toInt_lt, ti_add, ti_sub, ti_mul, Int32.reduceToInt] at *; omega)))
  · exact ok_some ⟨hT, (show 0 ≤ (σ0.1 218 7).toInt ∧ (σ0.1 218 7).toInt ≤ 600 from by exact hp)⟩

set_option maxHeartbeats 4000000 in
set_option maxRecDepth 100000 in
theorem s_X12_end {N : Nat} (hN : 1048576 ≤ N) {x1 : Int32} {σ0 : zS}  (hR : RF σ0.2.2) (hp : 0 ≤ (σ0.1 218 7).toInt ∧ (σ0.1 218 7).toInt ≤ 600) : Ok (f_X12_end N 218 x1 σ0) (fun r => Tr [218] σ0 r.2 ∧ (0 ≤ (r.2.1 218 7).toInt ∧ (r.2.1 218 7).toInt ≤ 600)) := by
  have hT : Tr [218] σ0 σ0 := Tr.rf
  rw [f_X12_end.eq_1]
  refine ok_gI rfl ?_
  refine ok_zbT (Q := fun V σ => (V = 0 ∨ V = 1) ∧ (¬ V = 0 → (0 : Int64).toInt ≤ (Int32.toInt64 x1).toInt ∧ (Int32.toInt64 x1).toInt ≤ (Int32.toInt64 (σ0.1 218 7)).toInt)) hT (s_X12_in hN (hR.tr hT) ) (fun _ h9 => absurd h9 List.not_mem_nil) (fun v2 σ3 hOσ3 hT hqv2 => ?_)
  have hqv2 : (v2 = 0 ∨ v2 = 1) ∧ (¬ v2 = 0 → (0 : Int64).toInt ≤ (Int32.toInt64 x1).toInt ∧ (Int32.toInt64 x1).toInt ≤ (Int32.toInt64 (σ0.1 218 7)).toInt) := hqv2
  simp only [i64_of, Int64.reduceToInt] at hqv2
  have hp : 0 ≤ (σ3.1 218 7).toInt ∧ (σ3.1 218 7).toInt ≤ 600 := by rw [hOσ3.2 218 (by decide)] <;> exact hp
  refine ok_if (fun hc4 => ?_) (fun hc4 => ?_)
  · exact ok_some ⟨hT, (show 0 ≤ (σ3.1 218 7).toInt ∧ (σ3.1 218 7).toInt ≤ 600 from by exact hp)⟩
  · have qhc4 := hqv2.2 hc4
    refine ok_pI hT rfl (by decide) (fun σ5 eσ5 hOσ5 hT => ?_)
    have hp : 0 ≤ (σ5.1 218 7).toInt ∧ (σ5.1 218 7).toInt ≤ 600 := by rw [zI_atI eσ5]; first | omega | (simp only [Int32.le_iff_toInt_le, Int32.lt_iff_toInt_lt, ti_add, ti_sub, ti_mul, Int32.reduceToInt] at *; omega)
    exact ok_some ⟨hT, (show 0 ≤ (σ5.1 218 7).toInt ∧ (σ5.1 218 7).toInt ≤ 600 from by exact hp)⟩

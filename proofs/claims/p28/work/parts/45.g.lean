section Zq7_0
def MS (g : Nat → Int32) : Prop := ∀ j, -1 ≤ (g j).toInt ∧ (g j).toInt ≤ 60
theorem MS_w {σ τ : zS} {i : Nat} {v : Int32} (e : τ = zI σ 239 (upd (σ.1 239) i v)) (h0 : -1 ≤ v.toInt) (h1 : v.toInt ≤ 60) (h : MS (σ.1 239)) : MS (τ.1 239) := by
  intro j
  by_cases q : j = i
  · subst q; rw [zI_atI e]; exact ⟨h0, h1⟩
  · rw [zI_atN e q]; exact h j
theorem ok_zbX {α β : Type} {x : Option (α × zS)} {f : α → zS → Option β} {Q : α → Prop} {P : β → Prop} {σ : zS} (hx : Ok x (fun r => r.2 = σ ∧ Q r.1)) (h : ∀ v, Q v → Ok (f v σ) P) : Ok (zb x f) P := by
  obtain ⟨⟨v, τ⟩, rfl, e, q⟩ := hx
  have e : τ = σ := e
  subst e
  exact h v q
theorem x_X12_in {N : Nat} {a b c : Int64} {σ : zS} : Ok (f_X12_in N a b c σ) (fun r => r.2 = σ ∧ (¬ r.1 = 0 → b.toInt ≤ a.toInt ∧ a.toInt ≤ c.toInt)) := by
  rw [f_X12_in.eq_1]
  refine ok_if (fun h => ok_rZ (Or.inl rfl) ⟨rfl, fun q => absurd rfl q⟩) (fun h => ok_if (fun h2 => ok_rZ (Or.inl rfl) ⟨rfl, fun q => absurd rfl q⟩) (fun h2 => ok_rZ (Or.inr rfl) ⟨rfl, fun _ => ⟨in_ok h, in_ok2 h2⟩⟩))
theorem x_X12_isWorld {N : Nat} {σ : zS} (hR : RF σ.2.2) : Ok (f_X12_isWorld N 218 σ) (fun r => r.2 = σ ∧ ((r.1 = 0 → (σ.1 219 0).toInt ≤ 0) ∧ (¬ r.1 = 0 → 0 < (σ.1 219 0).toInt))) := by
  have hT : Tr [] σ σ := Tr.rf
  rw [f_X12_isWorld.eq_1]
  refine ok_gR (v := 219) hT rfl (hR 218 1 rfl) ?_
  refine ok_aIc (j := 0) hT rfl (by decide) rfl (by decide) (by decide) ?_
  refine ok_if (fun h => ok_rZ (Or.inl rfl) ⟨rfl, fun _ => ?_, fun q => absurd rfl q⟩) (fun h => ok_rZ (Or.inr rfl) ⟨rfl, fun q => absurd (show (1 : Int32) = 0 from q) (by decide), fun _ => ?_⟩)
  · rw [Int32.le_iff_toInt_le] at h; simpa using h
  · rw [Int32.le_iff_toInt_le] at h; simp only [Int32.reduceToInt] at h; omega
theorem x_X12_many {N : Nat} {σ : zS} (hR : RF σ.2.2) : Ok (f_X12_many N 218 σ) (fun r => r.2 = σ ∧ r.1 = mny (σ.1 219 0)) := by
  have hT : Tr [] σ σ := Tr.rf
  rw [f_X12_many.eq_1]
  refine ok_gC rfl ?_
  refine ok_zbX (Q := fun v => (v = 0 → (σ.1 219 0).toInt ≤ 0) ∧ (¬ v = 0 → 0 < (σ.1 219 0).toInt)) (x_X12_isWorld hR) (fun v hv => ?_)
  refine ok_if (fun h => ok_some ⟨rfl, ?_⟩) (fun h => ?_)
  · exact (if_neg (fun h9 => by rw [Int32.lt_iff_toInt_lt] at h9; simp only [Int32.reduceToInt] at h9; have := hv.1 h; omega)).symm
  · refine ok_gR (v := 219) hT rfl (hR 218 1 rfl) ?_
    refine ok_aIc (j := 0) hT rfl (by decide) rfl (by decide) (by decide) ?_
    exact ok_some ⟨rfl, (if_pos (by rw [Int32.lt_iff_toInt_lt]; simp only [Int32.reduceToInt]; exact hv.2 h)).symm⟩
theorem MW_cp {g h : Nat → Int32} {b c : Nat} (e : ∀ j, j < 43 → g (b + j) = h (c + j)) (m : MW h c) : MW g b := by
  have e0 := e 0 (by decide)
  have e2 := e 2 (by decide)
  unfold MW at m ⊢
  rw [show g b = h c from e0, e2]
  refine ⟨m.1, m.2.1, fun j hj => ?_, fun v hv => ?_⟩
  · have q := m.2.2.1 j hj
    have q1 := e (13 + j) (by omega)
    have q2 := e (23 + j) (by omega)
    rw [← Nat.add_assoc, ← Nat.add_assoc] at q1 q2
    rw [q1, q2]; exact q
  · obtain ⟨k, hk, q⟩ := m.2.2.2 v hv
    have q1 := e (33 + k) (by have := m.1.2; omega)
    rw [← Nat.add_assoc, ← Nat.add_assoc] at q1
    exact ⟨k, hk, by rw [q1]; exact q⟩
/-- a row's copy, under way -/
def KP (g g0 h : Nat → Int32) (b c n : Nat) : Prop := (∀ j, j < n → g (b + j) = h (c + j)) ∧ ∀ j, (j < b ∨ b + 43 ≤ j) → g j = g0 j
theorem KP_s {σ τ : zS} {k i b c n : Nat} {v : Int32} {g0 h : Nat → Int32} (e : τ = zI σ k (upd (σ.1 k) i v)) (hi : i = b + n) (hv : v = h (c + n)) (hn : n < 43) (H : KP (σ.1 k) g0 h b c n) : KP (τ.1 k) g0 h b c (n + 1) := by
  subst hi
  refine ⟨fun j hj => ?_, fun j hj => ?_⟩
  · by_cases q : j = n
    · subst q; rw [zI_atI e]; exact hv
    · rw [zI_atN e (by omega)]; exact H.1 j (by omega)
  · rw [zI_atN e (by omega)]; exact H.2 j hj
def MI (g : Nat → Int32) : Prop := ∀ k, k < 3 → MW g (43 * k)
theorem MI_cp {g g0 h : Nat → Int32} {k c : Nat} (H : KP g g0 h (43 * k) c 43) (m : MW h c) (mi : MI g0) : MI g := by
  intro q hq
  by_cases e : q = k
  · subst e; exact MW_cp H.1 m
  · exact MW_cp (fun j hj => H.2 _ (by omega)) (mi q hq)
theorem tm_c {x : Int32} (c : Int32) (h0 : 0 ≤ c.toInt) (h1 : c.toInt ≤ 20000) (h2 : 0 ≤ x.toInt) (h3 : x.toInt ≤ 3) : (c * x).toInt = c.toInt * x.toInt := by
  rw [ti_mul]
  rcases (show x.toInt = 0 ∨ x.toInt = 1 ∨ x.toInt = 2 ∨ x.toInt = 3 by omega) with e | e | e | e <;> rw [e] <;> omega
theorem i43 {x y : Int32} (h0 : 0 ≤ x.toInt) (h1 : x.toInt ≤ 2) (h2 : 0 ≤ y.toInt) (h3 : y.toInt ≤ 43) : (43 * x + y).toNatClampNeg = 43 * x.toInt.toNat + y.toInt.toNat := by
  show (43 * x + y).toInt.toNat = _
  have m := tm_c (x := x) 43 (by decide) (by decide) h0 (by omega)
  rw [ti_add, m]; simp only [Int32.reduceToInt]
  rcases (show x.toInt = 0 ∨ x.toInt = 1 ∨ x.toInt = 2 by omega) with e | e | e <;> rw [e] <;> omega
theorem ix60 {x y : Int32} (h0 : 0 ≤ x.toInt) (h1 : x.toInt ≤ 3) (h2 : 0 ≤ y.toInt) (h3 : y.toInt < 60) : 0 ≤ (60 * x + y).toInt ∧ (60 * x + y).toInt < 240 ∧ (60 * x + y).toInt = 60 * x.toInt + y.toInt ∧ (60 * x + y).toNatClampNeg = 60 * x.toInt.toNat + y.toInt.toNat := by
  have e9 : (60 * x + y).toNatClampNeg = (60 * x + y).toInt.toNat := rfl
  have m := tm_c (x := x) 60 (by decide) (by decide) h0 (by omega)
  rw [e9, ti_add, m]; simp only [Int32.reduceToInt]
  rcases (show x.toInt = 0 ∨ x.toInt = 1 ∨ x.toInt = 2 ∨ x.toInt = 3 by omega) with e | e | e | e <;> rw [e] <;> omega
theorem d4_lt : ∀ n, n < 20 → 0 ≤ (nI n / 4).toInt ∧ (nI n / 4).toInt ≤ 4 := by decide +kernel
theorem ti_div4 {x : Int32} (h0 : 0 ≤ x.toInt) (h1 : x.toInt < 20) : 0 ≤ (x / 4).toInt ∧ (x / 4).toInt ≤ 4 := by
  obtain ⟨n, hn, rfl⟩ := znI (m := 20) h0 (by omega)
  exact d4_lt n hn
theorem m60 {x : Int32} (h0 : 0 ≤ x.toInt) (h1 : x.toInt ≤ 3) : (60 * x).toInt = 60 * x.toInt := tm_c (x := x) 60 (by decide) (by decide) h0 h1

set_option maxHeartbeats 4000000 in
set_option maxRecDepth 100000 in
theorem s_X12_isSlot {N : Nat} (hN : 1048576 ≤ N) {x0 : Int32} {σ0 : zS}  (hR : RF σ0.2.2)  : Ok (f_X12_isSlot N x0 σ0) (fun r => Tr [] σ0 r.2 ∧ ((r.1 = 0 ∨ r.1 = 1) ∧ (¬ r.1 = 0 → 0 ≤ x0.toInt ∧ x0.toInt ≤ 3))) := by
  have hT : Tr [] σ0 σ0 := Tr.rf
  rw [f_X12_isSlot.eq_1]
  refine ok_zbT (Q := fun V σ => (V = 0 ∨ V = 1) ∧ (¬ V = 0 → (0 : Int64).toInt ≤ (Int32.toInt64 x0).toInt ∧ (Int32.toInt64 x0).toInt ≤ (3 : Int64).toInt)) hT (s_X12_in hN (hR.tr hT) ) (fun _ h9 => absurd h9 List.not_mem_nil) (fun v1 σ2 hOσ2 hT hqv1 => ?_)
  have hqv1 : (v1 = 0 ∨ v1 = 1) ∧ (¬ v1 = 0 → (0 : Int64).toInt ≤ (Int32.toInt64 x0).toInt ∧ (Int32.toInt64 x0).toInt ≤ (3 : Int64).toInt) := hqv1
  simp only [i64_of, Int64.reduceToInt] at hqv1
  exact ok_rZ (hqv1.1) ⟨hT, (show (v1 = 0 ∨ v1 = 1) ∧ (¬ v1 = 0 → 0 ≤ x0.toInt ∧ x0.toInt ≤ 3) from by first | exact ⟨Or.inl rfl, fun h9 => absurd rfl h9⟩ | exact ⟨Or.inr rfl, fun _ => by first | omega | (simp only [Int32.le_iff_toInt_le, Int32.lt_iff_toInt_lt, ti_add, ti_sub, ti_mul, Int32.reduceToInt] at *; omega)⟩ | exact ⟨hqv1.1, fun h9 => by have q9 := hqv1.2 h9; first | omega | (simp only [Int32.le_iff_toInt_le, Int32.lt_iff_toInt_lt, ti_add, ti_sub, ti_mul, Int32.reduceToInt] at *; omega)⟩)⟩

set_option maxHeartbeats 4000000 in
set_option maxRecDepth 100000 in
theorem s_X12_judge {N : Nat} (hN : 1048576 ≤ N) {x1 : Int32} {x2 : Int32} {σ0 : zS}  (hR : RF σ0.2.2) (hM : MW (σ0.1 219) 0) (hB : ZB σ0.1) (hS : MS (σ0.1 239)) : Ok (f_X12_judge N 218 x1 x2 σ0) (fun r => Tr [] σ0 r.2 ∧ (True)) := by
  have hT : Tr [] σ0 σ0 := Tr.rf
  have hn := hM.1
  have he : 0 ≤ (σ0.1 219 2).toInt ∧ (σ0.1 219 2).toInt ≤ 10 := hM.2.1
  have qm := mny_b hn.1 hn.2
  rw [f_X12_judge.eq_1]
  refine ok_zbT (Q := fun V σ => (V = 0 ∨ V = 1) ∧ (¬ V = 0 → 0 ≤ x1.toInt ∧ x1.toInt ≤ 3)) hT (s_X12_isSlot hN (hR.tr hT) ) (fun _ h9 => absurd h9 List.not_mem_nil) (fun v1 σ2 hOσ2 hT hqv1 => ?_)
  have hqv1 : (v1 = 0 ∨ v1 = 1) ∧ (¬ v1 = 0 → 0 ≤ x1.toInt ∧ x1.toInt ≤ 3) := hqv1
  have hB : ZB σ2.1 := ZB.tr hOσ2 (by decide) hB
  refine ok_if (fun hc3 => ?_) (fun hc3 => ?_)
  · exact ok_some ⟨hT, trivial⟩
  · have qhc3 := hqv1.2 hc3
    refine ok_gC rfl ?_
    refine ok_zbT (Q := fun V σ => (V = 0 ∨ V = 1) ∧ (¬ V = 0 → 0 ≤ x2.toInt ∧ x2.toInt ≤ 9)) hT (s_X12_isRegister hN (hR.tr hT) (by first | exact hM | (rw [hT.2 219 (by decide)]; exact hM))) (fun _ h9 => absurd h9 List.not_mem_nil) (fun v4 σ5 hOσ5 hT hqv4 => ?_)
    have hqv4 : (v4 = 0 ∨ v4 = 1) ∧ (¬ v4 = 0 → 0 ≤ x2.toInt ∧ x2.toInt ≤ 9) := hqv4
    have hB : ZB σ5.1 := ZB.tr hOσ5 (by decide) hB
    refine ok_if (fun hc6 => ?_) (fun hc6 => ?_)
    · exact ok_some ⟨hT, trivial⟩
    · have qhc6 := hqv4.2 hc6
      refine ok_gR (v := 239) hT rfl (hR 218 35 rfl) ?_
      refine ok_aIn rfl (by first | omega | decide | (simp only [Int32.le_iff_toInt_le, Int32.lt_iff_toInt_lt, ti_add, ti_sub, ti_mul, Int32.reduceToInt] at *; omega)) (by first | omega | decide | (simp only [Int32.le_iff_toInt_le, Int32.lt_iff_toInt_lt, ti_add, ti_sub, ti_mul, Int32.reduceToInt] at *; omega)) (fun v8 ev8 => ?_)
      have qs23 : -1 ≤ v8.toInt ∧ v8.toInt ≤ 60 := by rw [ev8, hT.2 239 (by decide)]; exact hS _
      refine ok_if (fun hc9 => ?_) (fun hc9 => ?_)
      · exact ok_some ⟨hT, trivial⟩
      · refine ok_lp (fun t : Int32 × zS => Tr [] σ0 (t.2) ∧ (0 ≤ (t.1).toInt) ∧ (ZB (t.2).1)) (fun t : Int32 × zS => (60 - (t.1).toInt).toNat) (fun again10 t hI ih33_10 => ?_) N _ (show Tr [] σ0 σ5 ∧ (0 ≤ (0 : Int32).toInt) ∧ (ZB σ5.1) from ⟨hT, (by first | omega | decide | (simp only [Int32.le_iff_toInt_le, Int32.lt_iff_toInt_lt, ti_add, ti_sub, ti_mul, Int32.reduceToInt] at *; omega)), hB⟩) (show (60 - (0 : Int32).toInt).toNat < N from (by first | omega | decide | (simp only [Int32.le_iff_toInt_le, Int32.lt_iff_toInt_lt, ti_add, ti_sub, ti_mul, Int32.reduceToInt] at *; omega)))
        obtain ⟨x3_10, σ10⟩ := t
        have hI : Tr [] σ0 σ10 ∧ (0 ≤ x3_10.toInt) ∧ (ZB σ10.1) := hI
        obtain ⟨hT, hI10, hB⟩ := hI
        rw [F_X12_judge_33.eq_1]
        refine ok_gR (v := 239) hT rfl (hR 218 35 rfl) ?_
        refine ok_aIn rfl (by first | omega | decide | (simp only [Int32.le_iff_toInt_le, Int32.lt_iff_toInt_lt, ti_add, ti_sub, ti_mul, Int32.reduceToInt] at *; omega)) (by first | omega | decide | (simp only [Int32.le_iff_toInt_le, Int32.lt_iff_toInt_lt, ti_add, ti_sub, ti_mul, Int32.reduceToInt] at *; omega)) (fun v12 ev12 => ?_)
        have qs39 : -1 ≤ v12.toInt ∧ v12.toInt ≤ 60 := by rw [ev12, hT.2 239 (by decide)]; exact hS _
        refine ok_if (fun hc13 => ?_) (fun hc13 => ?_)
        · refine ok_gR (v := 239) hT rfl (hR 218 35 rfl) ?_
          refine ok_aIn rfl (by first | omega | decide | (simp only [Int32.le_iff_toInt_le, Int32.lt_iff_toInt_lt, ti_add, ti_sub, ti_mul, Int32.reduceToInt] at *; omega)) (by first | omega | decide | (simp only [Int32.le_iff_toInt_le, Int32.lt_iff_toInt_lt, ti_add, ti_sub, ti_mul, Int32.reduceToInt] at *; omega)) (fun v15 ev15 => ?_)
          have qs90 : -1 ≤ v15.toInt ∧ v15.toInt ≤ 60 := by rw [ev15, hT.2 239 (by decide)]; exact hS _
          refine ok_gC rfl ?_
          refine ok_zbT (Q := fun V σ => -1 ≤ V.toInt ∧ V.toInt ≤ 1023) hT (s_X12_nthOf hN (hR.tr hT) (by first | exact hM | (rw [hT.2 219 (by decide)]; exact hM)) (hB) (by first | omega | decide | (simp only [Int32.le_iff_toInt_le, Int32.lt_iff_toInt_lt, ti_add, ti_sub, ti_mul, Int32.reduceToInt] at *; omega))) (fun _ h9 => absurd h9 List.not_mem_nil) (fun v16 σ17 hOσ17 hT hqv16 => ?_)
          have hqv16 : -1 ≤ v16.toInt ∧ v16.toInt ≤ 1023 := hqv16
          have hB : ZB σ17.1 := ZB.tr hOσ17 (by decide) hB
          refine ok_if (fun hc18 => ?_) (fun hc18 => ?_)
          · refine ok_gR (v := 239) hT rfl (hR 218 35 rfl) ?_
            refine ok_aIn rfl (by first | omega | decide | (simp only [Int32.le_iff_toInt_le, Int32.lt_iff_toInt_lt, ti_add, ti_sub, ti_mul, Int32.reduceToInt] at *; omega)) (by first | omega | decide | (simp only [Int32.le_iff_toInt_le, Int32.lt_iff_toInt_lt, ti_add, ti_sub, ti_mul, Int32.reduceToInt] at *; omega)) (fun v20 ev20 => ?_)
            have qs103 : -1 ≤ v20.toInt ∧ v20.toInt ≤ 60 := by rw [ev20, hT.2 239 (by decide)]; exact hS _
            exact ok_some ⟨hT, trivial⟩
          · exact ok_some ⟨hT, trivial⟩
        · refine ok_gC rfl ?_
          refine ok_zbT (Q := fun V σ => -1 ≤ V.toInt ∧ V.toInt ≤ 1023) hT (s_X12_nthOf hN (hR.tr hT) (by first | exact hM | (rw [hT.2 219 (by decide)]; exact hM)) (hB) (by first | omega | decide | (simp only [Int32.le_iff_toInt_le, Int32.lt_iff_toInt_lt, ti_add, ti_sub, ti_mul, Int32.reduceToInt] at *; omega))) (fun _ h9 => absurd h9 List.not_mem_nil) (fun v21 σ22 hOσ22 hT hqv21 => ?_)
          have hqv21 : -1 ≤ v21.toInt ∧ v21.toInt ≤ 1023 := hqv21
          have hB : ZB σ22.1 := ZB.tr hOσ22 (by decide) hB
          refine ok_if (fun hc23 => ?_) (fun hc23 => ?_)
          · exact ok_some ⟨hT, trivial⟩
          · have m9 := ix60 (x := x1) (y := x3_10) (by first | omega | (simp only [Int32.le_iff_toInt_le, Int32.lt_iff_toInt_lt, ti_add, ti_sub, ti_mul, Int32.reduceToInt] at *; omega)) (by first | omega | (simp only [Int32.le_iff_toInt_le, Int32.lt_iff_toInt_lt, ti_add, ti_sub, ti_mul, Int32.reduceToInt] at *; omega)) (by first | omega | (simp only [Int32.le_iff_toInt_le, Int32.lt_iff_toInt_lt, ti_add, ti_sub, ti_mul, Int32.reduceToInt] at *; omega)) (by first | omega | (simp only [Int32.le_iff_toInt_le, Int32.lt_iff_toInt_lt, ti_add, ti_sub, ti_mul, Int32.reduceToInt] at *; omega))
            refine ok_gR (v := 241) hT rfl (hR 218 37 rfl) ?_
            refine ok_aJ rfl (by first | omega | decide | (simp only [Int32.le_iff_toInt_le, Int32.lt_iff_toInt_lt, ti_add, ti_sub, ti_mul, Int32.reduceToInt] at *; omega)) (by first | omega | decide | (simp only [Int32.le_iff_toInt_le, Int32.lt_iff_toInt_lt, ti_add, ti_sub, ti_mul, Int32.reduceToInt] at *; omega)) ?_
            generalize σ22.2.1 (241) (Int32.toNatClampNeg ((60 * x1) + x3_10)) = v25
            refine ok_if (fun hc26 => ?_) (fun hc26 => ?_)
            · exact ih33_10 (x3_10 + 1, σ22) (show Tr [] σ0 σ22 ∧ (0 ≤ (x3_10 + 1).toInt) ∧ (ZB σ22.1) from ⟨hT, (by first | omega | decide | (simp only [Int32.le_iff_toInt_le, Int32.lt_iff_toInt_lt, ti_add, ti_sub, ti_mul, Int32.reduceToInt] at *; omega)), hB⟩) (show (60 - (x3_10 + 1).toInt).toNat < (60 - x3_10.toInt).toNat from (by first | omega | decide | (simp only [Int32.le_iff_toInt_le, Int32.lt_iff_toInt_lt, ti_add, ti_sub, ti_mul, Int32.reduceToInt] at *; omega)))
            · exact ok_some ⟨hT, trivial⟩

set_option maxHeartbeats 4000000 in
set_option maxRecDepth 100000 in
theorem s_X12_cut {N : Nat} (hN : 1048576 ≤ N) {x0 : Int64} {x2 : Int32} {σ0 : zS}  (hR : RF σ0.2.2)  : Ok (f_X12_cut N x0 x2 σ0) (fun r => Tr [] σ0 r.2 ∧ (True)) := by
  have hT : Tr [] σ0 σ0 := Tr.rf
  rw [f_X12_cut.eq_1]
  exact ok_some ⟨hT, trivial⟩

set_option maxHeartbeats 4000000 in
set_option maxRecDepth 100000 in
theorem s_X12_unlikeRegisters {N : Nat} (hN : 1048576 ≤ N)  {σ0 : zS}  (hR : RF σ0.2.2) (hM : MW (σ0.1 219) 0) (hB : ZB σ0.1) : Ok (f_X12_unlikeRegisters N 218 σ0) (fun r => Tr [] σ0 r.2 ∧ (True)) := by
  have hT : Tr [] σ0 σ0 := Tr.rf
  have hn := hM.1
  have he : 0 ≤ (σ0.1 219 2).toInt ∧ (σ0.1 219 2).toInt ≤ 10 := hM.2.1
  have qm := mny_b hn.1 hn.2
  rw [f_X12_unlikeRegisters.eq_1]
  refine ok_lp (fun t : Int32 × Int32 × zS => Tr [] σ0 (t.2.2) ∧ (0 ≤ (t.2.1).toInt) ∧ (ZB (t.2.2).1)) (fun t : Int32 × Int32 × zS => (10 - (t.2.1).toInt).toNat) (fun again1 t hI ih4_1 => ?_) N _ (show Tr [] σ0 σ0 ∧ (0 ≤ (0 : Int32).toInt) ∧ (ZB σ0.1) from ⟨hT, (by first | omega | decide | (simp only [Int32.le_iff_toInt_le, Int32.lt_iff_toInt_lt, ti_add, ti_sub, ti_mul, Int32.reduceToInt] at *; omega)), hB⟩) (show (10 - (0 : Int32).toInt).toNat < N from (by first | omega | decide | (simp only [Int32.le_iff_toInt_le, Int32.lt_iff_toInt_lt, ti_add, ti_sub, ti_mul, Int32.reduceToInt] at *; omega)))
  obtain ⟨x1_1, x2_1, σ1⟩ := t
  have hI : Tr [] σ0 σ1 ∧ (0 ≤ x2_1.toInt) ∧ (ZB σ1.1) := hI
  obtain ⟨hT, hI1, hB⟩ := hI
  rw [F_X12_unlikeRegisters_4.eq_1]
  refine ok_if (fun hc2 => ?_) (fun hc2 => ?_)
  · exact ok_some ⟨hT, trivial⟩
  · refine ok_gC rfl ?_
    have hTc := hT
    refine ok_zbT (Q := fun V σ => (V = 0 ∨ V = 1) ∧ (¬ V = 0 → 0 < (σ1.1 219 0).toInt) ∧ (V = 0 → (σ1.1 219 0).toInt ≤ 0)) hT (s_X12_isWorld hN (hR.tr hT) (by first | exact hM | (rw [hT.2 219 (by decide)]; exact hM))) (fun _ h9 => absurd h9 List.not_mem_nil) (fun v3 σ4 hOσ4 hT hqv3 => ?_)
    have hqv3 : (v3 = 0 ∨ v3 = 1) ∧ (¬ v3 = 0 → 0 < (σ1.1 219 0).toInt) ∧ (v3 = 0 → (σ1.1 219 0).toInt ≤ 0) := hqv3
    rw [hTc.2 219 (by decide)] at hqv3
    have hB : ZB σ4.1 := ZB.tr hOσ4 (by decide) hB
    refine ok_if (fun hc5 => ?_) (fun hc5 => ?_)
    · have qhc5 := hqv3.2.2 hc5
      exact ok_some ⟨hT, trivial⟩
    · have qhc5 := hqv3.2.1 hc5
      refine ok_lp (fun t : Int32 × Int32 × zS => Tr [] σ0 (t.2.2) ∧ (0 ≤ (t.2.1).toInt) ∧ (ZB (t.2.2).1)) (fun t : Int32 × Int32 × zS => (x2_1.toInt - (t.2.1).toInt).toNat) (fun again6 t hI ih22_6 => ?_) N _ (show Tr [] σ0 σ4 ∧ (0 ≤ (0 : Int32).toInt) ∧ (ZB σ4.1) from ⟨hT, (by first | omega | decide | (simp only [Int32.le_iff_toInt_le, Int32.lt_iff_toInt_lt, ti_add, ti_sub, ti_mul, Int32.reduceToInt] at *; omega)), hB⟩) (show (x2_1.toInt - (0 : Int32).toInt).toNat < N from (by first | omega | decide | (simp only [Int32.le_iff_toInt_le, Int32.lt_iff_toInt_lt, ti_add, ti_sub, ti_mul, Int32.reduceToInt] at *; omega)))
      obtain ⟨x3_6, x4_6, σ6⟩ := t
      have hI : Tr [] σ0 σ6 ∧ (0 ≤ x4_6.toInt) ∧ (ZB σ6.1) := hI
      obtain ⟨hT, hI6, hB⟩ := hI
      rw [F_X12_unlikeRegisters_22.eq_1]
      refine ok_if (fun hc7 => ?_) (fun hc7 => ?_)
      · refine ok_if (fun hc8 => ?_) (fun hc8 => ?_)
        · exact ih4_1 (x1_1 + 0, x2_1 + 1, σ6) (show Tr [] σ0 σ6 ∧ (0 ≤ (x2_1 + 1).toInt) ∧ (ZB σ6.1) from ⟨hT, (by first | omega | decide | (simp only [Int32.le_iff_toInt_le, Int32.lt_iff_toInt_lt, ti_add, ti_sub, ti_mul, Int32.reduceToInt] at *; omega)), hB⟩) (show (10 - (x2_1 + 1).toInt).toNat < (10 - x2_1.toInt).toNat from (by first | omega | decide | (simp only [Int32.le_iff_toInt_le, Int32.lt_iff_toInt_lt, ti_add, ti_sub, ti_mul, Int32.reduceToInt] at *; omega)))
        · exact ih4_1 (x1_1 + 1, x2_1 + 1, σ6) (show Tr [] σ0 σ6 ∧ (0 ≤ (x2_1 + 1).toInt) ∧ (ZB σ6.1) from ⟨hT, (by first | omega | decide | (simp only [Int32.le_iff_toInt_le, Int32.lt_iff_toInt_lt, ti_add, ti_sub, ti_mul, Int32.reduceToInt] at *; omega)), hB⟩) (show (10 - (x2_1 + 1).toInt).toNat < (10 - x2_1.toInt).toNat from (by first | omega | decide | (simp only [Int32.le_iff_toInt_le, Int32.lt_iff_toInt_lt, ti_add, ti_sub, ti_mul, Int32.reduceToInt] at *; omega)))
      · refine ok_if (fun hc9 => ?_) (fun hc9 => ?_)
        · exact ih22_6 (0, x4_6 + 1, σ6) (show Tr [] σ0 σ6 ∧ (0 ≤ (x4_6 + 1).toInt) ∧ (ZB σ6.1) from ⟨hT, (by first | omega | decide | (simp only [Int32.le_iff_toInt_le, Int32.lt_iff_toInt_lt, ti_add, ti_sub, ti_mul, Int32.reduceToInt] at *; omega)), hB⟩) (show (x2_1.toInt - (x4_6 + 1).toInt).toNat < (x2_1.toInt - x4_6.toInt).toNat from (by first | omega | decide | (simp only [Int32.le_iff_toInt_le, Int32.lt_iff_toInt_lt, ti_add, ti_sub, ti_mul, Int32.reduceToInt] at *; omega)))
        · refine ok_gC rfl ?_
          refine ok_zbT (Q := fun V σ => True) hT (s_X12_differOf hN (hR.tr hT) (by first | exact hM | (rw [hT.2 219 (by decide)]; exact hM)) (hB) (by first | omega | decide | (simp only [Int32.le_iff_toInt_le, Int32.lt_iff_toInt_lt, ti_add, ti_sub, ti_mul, Int32.reduceToInt] at *; omega)) (by first | omega | decide | (simp only [Int32.le_iff_toInt_le, Int32.lt_iff_toInt_lt, ti_add, ti_sub, ti_mul, Int32.reduceToInt] at *; omega))) (fun _ h9 => absurd h9 List.not_mem_nil) (fun v10 σ11 hOσ11 hT hqv10 => ?_)
          have hB : ZB σ11.1 := ZB.tr hOσ11 (by decide) hB
          refine ok_if (fun hc12 => ?_) (fun hc12 => ?_)
          · exact ih22_6 (0, x4_6 + 1, σ11) (show Tr [] σ0 σ11 ∧ (0 ≤ (x4_6 + 1).toInt) ∧ (ZB σ11.1) from ⟨hT, (by first | omega | decide | (simp only [Int32.le_iff_toInt_le, Int32.lt_iff_toInt_lt, ti_add, ti_sub, ti_mul, Int32.reduceToInt] at *; omega)), hB⟩) (show (x2_1.toInt - (x4_6 + 1).toInt).toNat < (x2_1.toInt - x4_6.toInt).toNat from (by first | omega | decide | (simp only [Int32.le_iff_toInt_le, Int32.lt_iff_toInt_lt, ti_add, ti_sub, ti_mul, Int32.reduceToInt] at *; omega)))
          · exact ih22_6 (1, x4_6 + 1, σ11) (show Tr [] σ0 σ11 ∧ (0 ≤ (x4_6 + 1).toInt) ∧ (ZB σ11.1) from ⟨hT, (by first | omega | decide | (simp only [Int32.le_iff_toInt_le, Int32.lt_iff_toInt_lt, ti_add, ti_sub, ti_mul, Int32.reduceToInt] at *; omega)), hB⟩) (show (x2_1.toInt - (x4_6 + 1).toInt).toNat < (x2_1.toInt - x4_6.toInt).toNat from (by first | omega | decide | (simp only [Int32.le_iff_toInt_le, Int32.lt_iff_toInt_lt, ti_add, ti_sub, ti_mul, Int32.reduceToInt] at *; omega)))

set_option maxHeartbeats 4000000 in
set_option maxRecDepth 100000 in
theorem s_X12_count {N : Nat} (hN : 1048576 ≤ N) {x1 : Int32} {σ0 : zS}  (hR : RF σ0.2.2) (hM : MW (σ0.1 219) 0) (hB : ZB σ0.1) : Ok (f_X12_count N 218 x1 σ0) (fun r => Tr [] σ0 r.2 ∧ (True)) := by
  have hT : Tr [] σ0 σ0 := Tr.rf
  have hn := hM.1
  have he : 0 ≤ (σ0.1 219 2).toInt ∧ (σ0.1 219 2).toInt ≤ 10 := hM.2.1
  have qm := mny_b hn.1 hn.2
  rw [f_X12_count.eq_1]
  refine ok_if (fun hc1 => ?_) (fun hc1 => ?_)
  · refine ok_gR (v := 219) hT rfl (hR 218 1 rfl) ?_
    refine ok_aIc (j := 0) hT rfl (by decide) rfl (by decide) (by decide) ?_
    exact ok_some ⟨hT, trivial⟩
  refine ok_if (fun hc4 => ?_) (fun hc4 => ?_)
  · refine ok_gR (v := 219) hT rfl (hR 218 1 rfl) ?_
    refine ok_aIc (j := 1) hT rfl (by decide) rfl (by decide) (by decide) ?_
    exact ok_some ⟨hT, trivial⟩
  refine ok_if (fun hc7 => ?_) (fun hc7 => ?_)
  · refine ok_gR (v := 219) hT rfl (hR 218 1 rfl) ?_
    refine ok_aIc (j := 2) hT rfl (by decide) rfl (by decide) (by decide) ?_
    exact ok_some ⟨hT, trivial⟩
  refine ok_if (fun hc10 => ?_) (fun hc10 => ?_)
  · refine ok_gI0 hT rfl (by decide) ?_
    exact ok_some ⟨hT, trivial⟩
  refine ok_if (fun hc12 => ?_) (fun hc12 => ?_)
  · refine ok_lp (fun t : Int32 × Int32 × zS => Tr [] σ0 (t.2.2) ∧ (0 ≤ (t.2.1).toInt) ∧ (ZB (t.2.2).1)) (fun t : Int32 × Int32 × zS => (10 - (t.2.1).toInt).toNat) (fun again13 t hI ih72_13 => ?_) N _ (show Tr [] σ0 σ0 ∧ (0 ≤ (0 : Int32).toInt) ∧ (ZB σ0.1) from ⟨hT, (by first | omega | decide | (simp only [Int32.le_iff_toInt_le, Int32.lt_iff_toInt_lt, ti_add, ti_sub, ti_mul, Int32.reduceToInt] at *; omega)), hB⟩) (show (10 - (0 : Int32).toInt).toNat < N from (by first | omega | decide | (simp only [Int32.le_iff_toInt_le, Int32.lt_iff_toInt_lt, ti_add, ti_sub, ti_mul, Int32.reduceToInt] at *; omega)))
    obtain ⟨x2_13, x3_13, σ13⟩ := t
    have hI : Tr [] σ0 σ13 ∧ (0 ≤ x3_13.toInt) ∧ (ZB σ13.1) := hI
    obtain ⟨hT, hI13, hB⟩ := hI
    rw [F_X12_count_72.eq_1]
    refine ok_if (fun hc14 => ?_) (fun hc14 => ?_)
    · exact ok_some ⟨hT, trivial⟩
    · refine ok_gC rfl ?_
      refine ok_zbT (Q := fun V σ => 0 ≤ V.toInt ∧ V.toInt ≤ 1024) hT (s_X12_sizeOf hN (hR.tr hT) (by first | exact hM | (rw [hT.2 219 (by decide)]; exact hM)) (hB) (by first | omega | decide | (simp only [Int32.le_iff_toInt_le, Int32.lt_iff_toInt_lt, ti_add, ti_sub, ti_mul, Int32.reduceToInt] at *; omega))) (fun _ h9 => absurd h9 List.not_mem_nil) (fun v15 σ16 hOσ16 hT hqv15 => ?_)
      have hqv15 : 0 ≤ v15.toInt ∧ v15.toInt ≤ 1024 := hqv15
      have hB : ZB σ16.1 := ZB.tr hOσ16 (by decide) hB
      refine ok_if (fun hc17 => ?_) (fun hc17 => ?_)
      · exact ih72_13 (x2_13 ||| 0, x3_13 + 1, σ16) (show Tr [] σ0 σ16 ∧ (0 ≤ (x3_13 + 1).toInt) ∧ (ZB σ16.1) from ⟨hT, (by first | omega | decide | (simp only [Int32.le_iff_toInt_le, Int32.lt_iff_toInt_lt, ti_add, ti_sub, ti_mul, Int32.reduceToInt] at *; omega)), hB⟩) (show (10 - (x3_13 + 1).toInt).toNat < (10 - x3_13.toInt).toNat from (by first | omega | decide | (simp only [Int32.le_iff_toInt_le, Int32.lt_iff_toInt_lt, ti_add, ti_sub, ti_mul, Int32.reduceToInt] at *; omega)))
      · exact ih72_13 (x2_13 ||| ((1 : Int32) <<< (x3_13 &&& 31)), x3_13 + 1, σ16) (show Tr [] σ0 σ16 ∧ (0 ≤ (x3_13 + 1).toInt) ∧ (ZB σ16.1) from ⟨hT, (by first | omega | decide | (simp only [Int32.le_iff_toInt_le, Int32.lt_iff_toInt_lt, ti_add, ti_sub, ti_mul, Int32.reduceToInt] at *; omega)), hB⟩) (show (10 - (x3_13 + 1).toInt).toNat < (10 - x3_13.toInt).toNat from (by first | omega | decide | (simp only [Int32.le_iff_toInt_le, Int32.lt_iff_toInt_lt, ti_add, ti_sub, ti_mul, Int32.reduceToInt] at *; omega)))
  refine ok_if (fun hc18 => ?_) (fun hc18 => ?_)
  · refine ok_gC rfl ?_
    refine ok_zbT (Q := fun V σ => True) hT (s_X12_unlikeRegisters hN (hR.tr hT) (by first | exact hM | (rw [hT.2 219 (by decide)]; exact hM)) (hB)) (fun _ h9 => absurd h9 List.not_mem_nil) (fun v19 σ20 hOσ20 hT hqv19 => ?_)
    have hB : ZB σ20.1 := ZB.tr hOσ20 (by decide) hB
    exact ok_some ⟨hT, trivial⟩
  refine ok_if (fun hc21 => ?_) (fun hc21 => ?_)
  · refine ok_lp (fun t : Int32 × Int32 × zS => Tr [] σ0 (t.2.2) ∧ (0 ≤ (t.2.1).toInt) ∧ (ZB (t.2.2).1)) (fun t : Int32 × Int32 × zS => (4 - (t.2.1).toInt).toNat) (fun again22 t hI ih111_22 => ?_) N _ (show Tr [] σ0 σ0 ∧ (0 ≤ (0 : Int32).toInt) ∧ (ZB σ0.1) from ⟨hT, (by first | omega | decide | (simp only [Int32.le_iff_toInt_le, Int32.lt_iff_toInt_lt, ti_add, ti_sub, ti_mul, Int32.reduceToInt] at *; omega)), hB⟩) (show (4 - (0 : Int32).toInt).toNat < N from (by first | omega | decide | (simp only [Int32.le_iff_toInt_le, Int32.lt_iff_toInt_lt, ti_add, ti_sub, ti_mul, Int32.reduceToInt] at *; omega)))
    obtain ⟨x2_22, x3_22, σ22⟩ := t
    have hI : Tr [] σ0 σ22 ∧ (0 ≤ x3_22.toInt) ∧ (ZB σ22.1) := hI
    obtain ⟨hT, hI22, hB⟩ := hI
    rw [F_X12_count_111.eq_1]
    refine ok_if (fun hc23 => ?_) (fun hc23 => ?_)
    · exact ok_some ⟨hT, trivial⟩
    · refine ok_gR (v := 239) hT rfl (hR 218 35 rfl) ?_
      refine ok_aIn rfl (by first | omega | decide | (simp only [Int32.le_iff_toInt_le, Int32.lt_iff_toInt_lt, ti_add, ti_sub, ti_mul, Int32.reduceToInt] at *; omega)) (by first | omega | decide | (simp only [Int32.le_iff_toInt_le, Int32.lt_iff_toInt_lt, ti_add, ti_sub, ti_mul, Int32.reduceToInt] at *; omega)) (fun v25 ev25 => ?_)
      refine ok_if (fun hc26 => ?_) (fun hc26 => ?_)
      · exact ih111_22 (x2_22 + 0, x3_22 + 1, σ22) (show Tr [] σ0 σ22 ∧ (0 ≤ (x3_22 + 1).toInt) ∧ (ZB σ22.1) from ⟨hT, (by first | omega | decide | (simp only [Int32.le_iff_toInt_le, Int32.lt_iff_toInt_lt, ti_add, ti_sub, ti_mul, Int32.reduceToInt] at *; omega)), hB⟩) (show (4 - (x3_22 + 1).toInt).toNat < (4 - x3_22.toInt).toNat from (by first | omega | decide | (simp only [Int32.le_iff_toInt_le, Int32.lt_iff_toInt_lt, ti_add, ti_sub, ti_mul, Int32.reduceToInt] at *; omega)))
      · exact ih111_22 (x2_22 + 1, x3_22 + 1, σ22) (show Tr [] σ0 σ22 ∧ (0 ≤ (x3_22 + 1).toInt) ∧ (ZB σ22.1) from ⟨hT, (by first | omega | decide | (simp only [Int32.le_iff_toInt_le, Int32.lt_iff_toInt_lt, ti_add, ti_sub, ti_mul, Int32.reduceToInt] at *; omega)), hB⟩) (show (4 - (x3_22 + 1).toInt).toNat < (4 - x3_22.toInt).toNat from (by first | omega | decide | (simp only [Int32.le_iff_toInt_le, Int32.lt_iff_toInt_lt, ti_add, ti_sub, ti_mul, Int32.reduceToInt] at *; omega)))
  exact ok_some ⟨hT, trivial⟩

set_option maxHeartbeats 4000000 in
set_option maxRecDepth 100000 in
theorem s_X12_row {N : Nat} (hN : 1048576 ≤ N) {x1 : Int32} {x2 : Int32} {x3 : Int32} {σ0 : zS}  (hR : RF σ0.2.2) (hS : MS (σ0.1 239)) : Ok (f_X12_row N 218 x1 x2 x3 σ0) (fun r => Tr [239, 240] σ0 r.2 ∧ (MS (r.2.1 239))) := by
  have hT : Tr [239, 240] σ0 σ0 := Tr.rf
  rw [f_X12_row.eq_1]
  refine ok_zbT (Q := fun V σ => (V = 0 ∨ V = 1) ∧ (¬ V = 0 → 0 ≤ x1.toInt ∧ x1.toInt ≤ 3)) hT (s_X12_isSlot hN (hR.tr hT) ) (fun _ h9 => absurd h9 List.not_mem_nil) (fun v1 σ2 hOσ2 hT hqv1 => ?_)
  have hqv1 : (v1 = 0 ∨ v1 = 1) ∧ (¬ v1 = 0 → 0 ≤ x1.toInt ∧ x1.toInt ≤ 3) := hqv1
  have hS : MS (σ2.1 239) := by rw [hOσ2.2 239 (by decide)]; exact hS
  refine ok_if (fun hc3 => ?_) (fun hc3 => ?_)
  · exact ok_some ⟨hT, (show MS (σ2.1 239) from by exact hS)⟩
  · have qhc3 := hqv1.2 hc3
    refine ok_zbT (Q := fun V σ => (V = 0 ∨ V = 1) ∧ (¬ V = 0 → (0 : Int64).toInt ≤ (Int32.toInt64 x2).toInt ∧ (Int32.toInt64 x2).toInt ≤ (3 : Int64).toInt)) hT (s_X12_in hN (hR.tr hT) ) (fun _ h9 => absurd h9 List.not_mem_nil) (fun v4 σ5 hOσ5 hT hqv4 => ?_)
    have hqv4 : (v4 = 0 ∨ v4 = 1) ∧ (¬ v4 = 0 → (0 : Int64).toInt ≤ (Int32.toInt64 x2).toInt ∧ (Int32.toInt64 x2).toInt ≤ (3 : Int64).toInt) := hqv4
    simp only [i64_of, Int64.reduceToInt] at hqv4
    have hS : MS (σ5.1 239) := by rw [hOσ5.2 239 (by decide)]; exact hS
    refine ok_if (fun hc6 => ?_) (fun hc6 => ?_)
    · exact ok_some ⟨hT, (show MS (σ5.1 239) from by exact hS)⟩
    · have qhc6 := hqv4.2 hc6
      refine ok_if (fun hc7 => ?_) (fun hc7 => ?_)
      · refine ok_if (fun hc8 => ?_) (fun hc8 => ?_)
        · refine ok_gR (v := 239) hT rfl (hR 218 35 rfl) ?_
          refine ok_s14 hT rfl (by decide) (by first | omega | decide | (simp only [Int32.le_iff_toInt_le, Int32.lt_iff_toInt_lt, ti_add, ti_sub, ti_mul, Int32.reduceToInt] at *; omega)) (by first | omega | decide | (simp only [Int32.le_iff_toInt_le, Int32.lt_iff_toInt_lt, ti_add, ti_sub, ti_mul, Int32.reduceToInt] at *; omega)) (fun σ10 eσ10 hOσ10 hT => ?_)
          have hS : MS (σ10.1 239) := MS_w eσ10 (by first | omega | (simp only [Int32.le_iff_toInt_le, Int32.lt_iff_toInt_lt, ti_add, ti_sub, ti_mul, Int32.reduceToInt] at *; omega)) (by first | omega | (simp only [Int32.le_iff_toInt_le, Int32.lt_iff_toInt_lt, ti_add, ti_sub, ti_mul, Int32.reduceToInt] at *; omega)) hS
          refine ok_gR (v := 240) hT rfl (hR 218 36 rfl) ?_
          refine ok_s14 hT rfl (by decide) (by first | omega | decide | (simp only [Int32.le_iff_toInt_le, Int32.lt_iff_toInt_lt, ti_add, ti_sub, ti_mul, Int32.reduceToInt] at *; omega)) (by first | omega | decide | (simp only [Int32.le_iff_toInt_le, Int32.lt_iff_toInt_lt, ti_add, ti_sub, ti_mul, Int32.reduceToInt] at *; omega)) (fun σ12 eσ12 hOσ12 hT => ?_)
          have hS : MS (σ12.1 239) := by rw [hOσ12.2 239 (by decide)]; exact hS
          refine ok_lp (fun t : Int32 × zS => Tr [239, 240] σ0 (t.2) ∧ (0 ≤ (t.1).toInt) ∧ (MS ((t.2).1 239))) (fun t : Int32 × zS => (60 - (t.1).toInt).toNat) (fun again13 t hI ih52_13 => ?_) N _ (show Tr [239, 240] σ0 σ12 ∧ (0 ≤ (0 : Int32).toInt) ∧ (MS (σ12.1 239)) from ⟨hT, (by first | omega | decide | (simp only [Int32.le_iff_toInt_le, Int32.lt_iff_toInt_lt, ti_add, ti_sub, ti_mul, Int32.reduceToInt] at *; omega)), hS⟩) (show (60 - (0 : Int32).toInt).toNat < N from (by first | omega | decide | (simp only [Int32.le_iff_toInt_le, Int32.lt_iff_toInt_lt, ti_add, ti_sub, ti_mul, Int32.reduceToInt] at *; omega)))
          obtain ⟨x4_13, σ13⟩ := t
          have hI : Tr [239, 240] σ0 σ13 ∧ (0 ≤ x4_13.toInt) ∧ (MS (σ13.1 239)) := hI
          obtain ⟨hT, hI13, hS⟩ := hI
          rw [F_X12_row_52.eq_1]
          refine ok_if (fun hc14 => ?_) (fun hc14 => ?_)
          · exact ok_some ⟨hT, (show MS (σ13.1 239) from by exact hS)⟩
          · have m9 := ix60 (x := x1) (y := x4_13) (by first | omega | (simp only [Int32.le_iff_toInt_le, Int32.lt_iff_toInt_lt, ti_add, ti_sub, ti_mul, Int32.reduceToInt] at *; omega)) (by first | omega | (simp only [Int32.le_iff_toInt_le, Int32.lt_iff_toInt_lt, ti_add, ti_sub, ti_mul, Int32.reduceToInt] at *; omega)) (by first | omega | (simp only [Int32.le_iff_toInt_le, Int32.lt_iff_toInt_lt, ti_add, ti_sub, ti_mul, Int32.reduceToInt] at *; omega)) (by first | omega | (simp only [Int32.le_iff_toInt_le, Int32.lt_iff_toInt_lt, ti_add, ti_sub, ti_mul, Int32.reduceToInt] at *; omega))
            refine ok_gR (v := 241) hT rfl (hR 218 37 rfl) ?_
            refine ok_sJ hT rfl (by first | omega | decide | (simp only [Int32.le_iff_toInt_le, Int32.lt_iff_toInt_lt, ti_add, ti_sub, ti_mul, Int32.reduceToInt] at *; omega)) (by first | omega | decide | (simp only [Int32.le_iff_toInt_le, Int32.lt_iff_toInt_lt, ti_add, ti_sub, ti_mul, Int32.reduceToInt] at *; omega)) (fun σ16 eσ16 hOσ16 hT => ?_)
            have hS : MS (σ16.1 239) := by rw [hOσ16.2 239 (by decide)]; exact hS
            exact ih52_13 (x4_13 + 1, σ16) (show Tr [239, 240] σ0 σ16 ∧ (0 ≤ (x4_13 + 1).toInt) ∧ (MS (σ16.1 239)) from ⟨hT, (by first | omega | decide | (simp only [Int32.le_iff_toInt_le, Int32.lt_iff_toInt_lt, ti_add, ti_sub, ti_mul, Int32.reduceToInt] at *; omega)), hS⟩) (show (60 - (x4_13 + 1).toInt).toNat < (60 - x4_13.toInt).toNat from (by first | omega | decide | (simp only [Int32.le_iff_toInt_le, Int32.lt_iff_toInt_lt, ti_add, ti_sub, ti_mul, Int32.reduceToInt] at *; omega)))
        · exact ok_some ⟨hT, (show MS (σ5.1 239) from by exact hS)⟩
      · exact ok_some ⟨hT, (show MS (σ5.1 239) from by exact hS)⟩

set_option maxHeartbeats 4000000 in
set_option maxRecDepth 100000 in
theorem s_X12_write {N : Nat} (hN : 1048576 ≤ N) {x1 : Int32} {x2 : Int32} {x3 : Int64} {σ0 : zS}  (hR : RF σ0.2.2) (hS : MS (σ0.1 239)) : Ok (f_X12_write N 218 x1 x2 x3 σ0) (fun r => Tr [] σ0 r.2 ∧ (True)) := by
  have hT : Tr [] σ0 σ0 := Tr.rf
  rw [f_X12_write.eq_1]
  refine ok_zbT (Q := fun V σ => (V = 0 ∨ V = 1) ∧ (¬ V = 0 → 0 ≤ x1.toInt ∧ x1.toInt ≤ 3)) hT (s_X12_isSlot hN (hR.tr hT) ) (fun _ h9 => absurd h9 List.not_mem_nil) (fun v1 σ2 hOσ2 hT hqv1 => ?_)
  have hqv1 : (v1 = 0 ∨ v1 = 1) ∧ (¬ v1 = 0 → 0 ≤ x1.toInt ∧ x1.toInt ≤ 3) := hqv1
  refine ok_if (fun hc3 => ?_) (fun hc3 => ?_)
  · exact ok_some ⟨hT, trivial⟩
  · have qhc3 := hqv1.2 hc3
    refine ok_gR (v := 239) hT rfl (hR 218 35 rfl) ?_
    refine ok_aIn rfl (by first | omega | decide | (simp only [Int32.le_iff_toInt_le, Int32.lt_iff_toInt_lt, ti_add, ti_sub, ti_mul, Int32.reduceToInt] at *; omega)) (by first | omega | decide | (simp only [Int32.le_iff_toInt_le, Int32.lt_iff_toInt_lt, ti_add, ti_sub, ti_mul, Int32.reduceToInt] at *; omega)) (fun v5 ev5 => ?_)
    have qs15 : -1 ≤ v5.toInt ∧ v5.toInt ≤ 60 := by rw [ev5, hT.2 239 (by decide)]; exact hS _
    refine ok_if (fun hc6 => ?_) (fun hc6 => ?_)
    · exact ok_some ⟨hT, trivial⟩
    · refine ok_gR (v := 239) hT rfl (hR 218 35 rfl) ?_
      refine ok_aIn rfl (by first | omega | decide | (simp only [Int32.le_iff_toInt_le, Int32.lt_iff_toInt_lt, ti_add, ti_sub, ti_mul, Int32.reduceToInt] at *; omega)) (by first | omega | decide | (simp only [Int32.le_iff_toInt_le, Int32.lt_iff_toInt_lt, ti_add, ti_sub, ti_mul, Int32.reduceToInt] at *; omega)) (fun v8 ev8 => ?_)
      have qs31 : -1 ≤ v8.toInt ∧ v8.toInt ≤ 60 := by rw [ev8, hT.2 239 (by decide)]; exact hS _
      refine ok_zbT (Q := fun V σ => (V = 0 ∨ V = 1) ∧ (¬ V = 0 → (0 : Int64).toInt ≤ (Int32.toInt64 x2).toInt ∧ (Int32.toInt64 x2).toInt ≤ (Int32.toInt64 (v8 - 1)).toInt)) hT (s_X12_in hN (hR.tr hT) ) (fun _ h9 => absurd h9 List.not_mem_nil) (fun v9 σ10 hOσ10 hT hqv9 => ?_)
      have hqv9 : (v9 = 0 ∨ v9 = 1) ∧ (¬ v9 = 0 → (0 : Int64).toInt ≤ (Int32.toInt64 x2).toInt ∧ (Int32.toInt64 x2).toInt ≤ (Int32.toInt64 (v8 - 1)).toInt) := hqv9
      simp only [i64_of, Int64.reduceToInt] at hqv9
      refine ok_if (fun hc11 => ?_) (fun hc11 => ?_)
      · exact ok_some ⟨hT, trivial⟩
      · have qhc11 := hqv9.2 hc11
        have m9 := ix60 (x := x1) (y := x2) (by first | omega | (simp only [Int32.le_iff_toInt_le, Int32.lt_iff_toInt_lt, ti_add, ti_sub, ti_mul, Int32.reduceToInt] at *; omega)) (by first | omega | (simp only [Int32.le_iff_toInt_le, Int32.lt_iff_toInt_lt, ti_add, ti_sub, ti_mul, Int32.reduceToInt] at *; omega)) (by first | omega | (simp only [Int32.le_iff_toInt_le, Int32.lt_iff_toInt_lt, ti_add, ti_sub, ti_mul, Int32.reduceToInt] at *; omega)) (by first | omega | (simp only [Int32.le_iff_toInt_le, Int32.lt_iff_toInt_lt, ti_add, ti_sub, ti_mul, Int32.reduceToInt] at *; omega))
        refine ok_gR (v := 241) hT rfl (hR 218 37 rfl) ?_
        refine ok_gR (v := 240) hT rfl (hR 218 36 rfl) ?_
        refine ok_aIn rfl (by first | omega | decide | (simp only [Int32.le_iff_toInt_le, Int32.lt_iff_toInt_lt, ti_add, ti_sub, ti_mul, Int32.reduceToInt] at *; omega)) (by first | omega | decide | (simp only [Int32.le_iff_toInt_le, Int32.lt_iff_toInt_lt, ti_add, ti_sub, ti_mul, Int32.reduceToInt] at *; omega)) (fun v14 ev14 => ?_)
        refine ok_zbT (Q := fun V σ => True) hT (s_X12_cut hN (hR.tr hT) ) (fun _ h9 => absurd h9 List.not_mem_nil) (fun v15 σ16 hOσ16 hT hqv15 => ?_)
        refine ok_sJ hT rfl (by first | omega | decide | (simp only [Int32.le_iff_toInt_le, Int32.lt_iff_toInt_lt, ti_add, ti_sub, ti_mul, Int32.reduceToInt] at *; omega)) (by first | omega | decide | (simp only [Int32.le_iff_toInt_le, Int32.lt_iff_toInt_lt, ti_add, ti_sub, ti_mul, Int32.reduceToInt] at *; omega)) (fun σ17 eσ17 hOσ17 hT => ?_)
        exact ok_some ⟨hT, trivial⟩

set_option maxHeartbeats 4000000 in
set_option maxRecDepth 100000 in
theorem s_X12_fault {N : Nat} (hN : 1048576 ≤ N) {x1 : Int32} {σ0 : zS}  (hR : RF σ0.2.2)  : Ok (f_X12_fault N 218 x1 σ0) (fun r => Tr [] σ0 r.2 ∧ (True)) := by
  have hT : Tr [] σ0 σ0 := Tr.rf
  rw [f_X12_fault.eq_1]
  refine ok_if (fun hc1 => ?_) (fun hc1 => ?_)
  · refine ok_gI0 hT rfl (by decide) ?_
    exact ok_some ⟨hT, trivial⟩
  · refine ok_if (fun hc3 => ?_) (fun hc3 => ?_)
    · refine ok_gI0 hT rfl (by decide) ?_
      exact ok_some ⟨hT, trivial⟩
    · exact ok_some ⟨hT, trivial⟩

set_option maxHeartbeats 4000000 in
set_option maxRecDepth 100000 in
theorem s_X12_feed {N : Nat} (hN : 1048576 ≤ N) {x1 : Int32} {x2 : Int32} {x3 : Int32} {x4 : Int32} {x5 : Int32} {σ0 : zS}  (hR : RF σ0.2.2) (hp : 0 ≤ (σ0.1 218 7).toInt ∧ (σ0.1 218 7).toInt ≤ 600) : Ok (f_X12_feed N 218 x1 x2 x3 x4 x5 σ0) (fun r => Tr [218, 224, 225] σ0 r.2 ∧ (0 ≤ (r.2.1 218 7).toInt ∧ (r.2.1 218 7).toInt ≤ 600)) := by
  have hT : Tr [218, 224, 225] σ0 σ0 := Tr.rf
  have ht : σ0.1 218 7 = σ0.1 218 7 := rfl
  rw [f_X12_feed.eq_1]
  refine ok_gI rfl ?_
  refine ok_if (fun hc2 => ?_) (fun hc2 => ?_)
  · refine ok_gR (v := 225) hT rfl (hR 218 8 rfl) ?_
    refine ok_s14 hT rfl (by decide) (by first | omega | decide | (simp only [Int32.le_iff_toInt_le, Int32.lt_iff_toInt_lt, ti_add, ti_sub, ti_mul, Int32.reduceToInt] at *; omega)) (by first | omega | decide | (simp only [Int32.le_iff_toInt_le, Int32.lt_iff_toInt_lt, ti_add, ti_sub, ti_mul, Int32.reduceToInt] at *; omega)) (fun σ4 eσ4 hOσ4 hT => ?_)
    have hp : 0 ≤ (σ4.1 218 7).toInt ∧ (σ4.1 218 7).toInt ≤ 600 := by rw [hOσ4.2 218 (by decide)] <;> exact hp
    have ht : σ4.1 218 7 = σ0.1 218 7 := by rw [hOσ4.2 218 (by decide)] <;> exact ht
    refine ok_gR (v := 225) hT rfl (hR 218 8 rfl) ?_
    refine ok_s14 hT rfl (by decide) (by first | omega | decide | (simp only [Int32.le_iff_toInt_le, Int32.lt_iff_toInt_lt, ti_add, ti_sub, ti_mul, Int32.reduceToInt] at *; omega)) (by first | omega | decide | (simp only [Int32.le_iff_toInt_le, Int32.lt_iff_toInt_lt, ti_add, ti_sub, ti_mul, Int32.reduceToInt] at *; omega)) (fun σ6 eσ6 hOσ6 hT => ?_)
    have hp : 0 ≤ (σ6.1 218 7).toInt ∧ (σ6.1 218 7).toInt ≤ 600 := by rw [hOσ6.2 218 (by decide)] <;> exact hp
    have ht : σ6.1 218 7 = σ0.1 218 7 := by rw [hOσ6.2 218 (by decide)] <;> exact ht
    refine ok_gR (v := 225) hT rfl (hR 218 8 rfl) ?_
    refine ok_s14 hT rfl (by decide) (by first | omega | decide | (simp only [Int32.le_iff_toInt_le, Int32.lt_iff_toInt_lt, ti_add, ti_sub, ti_mul, Int32.reduceToInt] at *; omega)) (by first | omega | decide | (simp only [Int32.le_iff_toInt_le, Int32.lt_iff_toInt_lt, ti_add, ti_sub, ti_mul, Int32.reduceToInt] at *; omega)) (fun σ8 eσ8 hOσ8 hT => ?_)
    have hp : 0 ≤ (σ8.1 218 7).toInt ∧ (σ8.1 218 7).toInt ≤ 600 := by rw [hOσ8.2 218 (by decide)] <;> exact hp
    have ht : σ8.1 218 7 = σ0.1 218 7 := by rw [hOσ8.2 218 (by decide)] <;> exact ht
    refine ok_gR (v := 225) hT rfl (hR 218 8 rfl) ?_
    refine ok_s14 hT rfl (by decide) (by first | omega | decide | (simp only [Int32.le_iff_toInt_le, Int32.lt_iff_toInt_lt, ti_add, ti_sub, ti_mul, Int32.reduceToInt] at *; omega)) (by first | omega | decide | (simp only [Int32.le_iff_toInt_le, Int32.lt_iff_toInt_lt, ti_add, ti_sub, ti_mul, Int32.reduceToInt] at *; omega)) (fun σ10 eσ10 hOσ10 hT => ?_)
    have hp : 0 ≤ (σ10.1 218 7).toInt ∧ (σ10.1 218 7).toInt ≤ 600 := by rw [hOσ10.2 218 (by decide)] <;> exact hp
    have ht : σ10.1 218 7 = σ0.1 218 7 := by rw [hOσ10.2 218 (by decide)] <;> exact ht
    refine ok_gR (v := 225) hT rfl (hR 218 8 rfl) ?_
    refine ok_s14 hT rfl (by decide) (by first | omega | decide | (simp only [Int32.le_iff_toInt_le, Int32.lt_iff_toInt_lt, ti_add, ti_sub, ti_mul, Int32.reduceToInt] at *; omega)) (by first | omega | decide | (simp only [Int32.le_iff_toInt_le, Int32.lt_iff_toInt_lt, ti_add, ti_sub, ti_mul, Int32.reduceToInt] at *; omega)) (fun σ12 eσ12 hOσ12 hT => ?_)
    have hp : 0 ≤ (σ12.1 218 7).toInt ∧ (σ12.1 218 7).toInt ≤ 600 := by rw [hOσ12.2 218 (by decide)] <;> exact hp
    have ht : σ12.1 218 7 = σ0.1 218 7 := by rw [hOσ12.2 218 (by decide)] <;> exact ht
    refine ok_lp (fun t : Int32 × zS => Tr [218, 224, 225] σ0 (t.2) ∧ (0 ≤ (t.1).toInt) ∧ (0 ≤ ((t.2).1 218 7).toInt ∧ ((t.2).1 218 7).toInt ≤ 600) ∧ ((t.2).1 218 7 = σ0.1 218 7)) (fun t : Int32 × zS => (20 - (t.1).toInt).toNat) (fun again13 t hI ih55_13 => ?_) N _ (show Tr [218, 224, 225] σ0 σ12 ∧ (0 ≤ (0 : Int32).toInt) ∧ (0 ≤ (σ12.1 218 7).toInt ∧ (σ12.1 218 7).toInt ≤ 600) ∧ (σ12.1 218 7 = σ0.1 218 7) from ⟨hT, (by first | omega | decide | (simp only [Int32.le_iff_toInt_le, Int32.lt_iff_toInt_lt, ti_add, ti_sub, ti_mul, Int32.reduceToInt] at *; omega)), hp, ht⟩) (show (20 - (0 : Int32).toInt).toNat < N from (by first | omega | decide | (simp only [Int32.le_iff_toInt_le, Int32.lt_iff_toInt_lt, ti_add, ti_sub, ti_mul, Int32.reduceToInt] at *; omega)))
    obtain ⟨x6_13, σ13⟩ := t
    have hI : Tr [218, 224, 225] σ0 σ13 ∧ (0 ≤ x6_13.toInt) ∧ (0 ≤ (σ13.1 218 7).toInt ∧ (σ13.1 218 7).toInt ≤ 600) ∧ (σ13.1 218 7 = σ0.1 218 7) := hI
    obtain ⟨hT, hI13, hp, ht⟩ := hI
    rw [F_X12_feed_55.eq_1]
    refine ok_if (fun hc14 => ?_) (fun hc14 => ?_)
    · refine ok_gI rfl ?_
      refine ok_pI hT rfl (by decide) (fun σ16 eσ16 hOσ16 hT => ?_)
      have hp : 0 ≤ (σ16.1 218 7).toInt ∧ (σ16.1 218 7).toInt ≤ 600 := by rw [zI_atI eσ16]; have e9 := congrArg Int32.toInt ht; first | omega | (simp only [Int32.le_iff_toInt_le, Int32.lt_iff_toInt_lt, ti_add, ti_sub, ti_mul, Int32.reduceToInt] at *; omega)
      refine ok_gI rfl ?_
      exact ok_some ⟨hT, (show 0 ≤ (σ16.1 218 7).toInt ∧ (σ16.1 218 7).toInt ≤ 600 from by exact hp)⟩
    · have d4 := ti_div4 (x := x6_13) (by first | omega | (simp only [Int32.le_iff_toInt_le, Int32.lt_iff_toInt_lt, ti_add, ti_sub, ti_mul, Int32.reduceToInt] at *; omega)) (by first | omega | (simp only [Int32.le_iff_toInt_le, Int32.lt_iff_toInt_lt, ti_add, ti_sub, ti_mul, Int32.reduceToInt] at *; omega))
      have k9 : 0 = 0 := rfl
      have e9 := congrArg Int32.toInt ht
      refine ok_gR (v := 224) hT rfl (hR 218 6 rfl) ?_
      refine ok_gI rfl ?_
      refine ok_gR (v := 225) hT rfl (hR 218 8 rfl) ?_
      refine ok_nzI (by decide) ?_
      refine ok_aIn rfl (by first | omega | decide | (simp only [Int32.le_iff_toInt_le, Int32.lt_iff_toInt_lt, ti_add, ti_sub, ti_mul, Int32.reduceToInt] at *; omega)) (by first | omega | decide | (simp only [Int32.le_iff_toInt_le, Int32.lt_iff_toInt_lt, ti_add, ti_sub, ti_mul, Int32.reduceToInt] at *; omega)) (fun v21 ev21 => ?_)
      refine ok_nzI (by decide) ?_
      refine ok_s13 hT rfl (by decide) (by first | omega | decide | (simp only [Int32.le_iff_toInt_le, Int32.lt_iff_toInt_lt, ti_add, ti_sub, ti_mul, Int32.reduceToInt] at *; omega)) (by first | omega | decide | (simp only [Int32.le_iff_toInt_le, Int32.lt_iff_toInt_lt, ti_add, ti_sub, ti_mul, Int32.reduceToInt] at *; omega)) (fun σ22 eσ22 hOσ22 hT => ?_)
      have hp : 0 ≤ (σ22.1 218 7).toInt ∧ (σ22.1 218 7).toInt ≤ 600 := by rw [hOσ22.2 218 (by decide)] <;> exact hp
      have ht : σ22.1 218 7 = σ0.1 218 7 := by rw [hOσ22.2 218 (by decide)] <;> exact ht
      exact ih55_13 (x6_13 + 1, σ22) (show Tr [218, 224, 225] σ0 σ22 ∧ (0 ≤ (x6_13 + 1).toInt) ∧ (0 ≤ (σ22.1 218 7).toInt ∧ (σ22.1 218 7).toInt ≤ 600) ∧ (σ22.1 218 7 = σ0.1 218 7) from ⟨hT, (by first | omega | decide | (simp only [Int32.le_iff_toInt_le, Int32.lt_iff_toInt_lt, ti_add, ti_sub, ti_mul, Int32.reduceToInt] at *; omega)), hp, ht⟩) (show (20 - (x6_13 + 1).toInt).toNat < (20 - x6_13.toInt).toNat from (by first | omega | decide | (simp only [Int32.le_iff_toInt_le, Int32.lt_iff_toInt_lt, ti_add, ti_sub, ti_mul, Int32.reduceToInt] at *; omega)))
  · exact ok_some ⟨hT, (show 0 ≤ (σ0.1 218 7).toInt ∧ (σ0.1 218 7).toInt ≤ 600 from by exact hp)⟩

set_option maxHeartbeats 4000000 in
set_option maxRecDepth 100000 in
theorem s_X12_end {N : Nat} (hN : 1048576 ≤ N) {x1 : Int32} {σ0 : zS}  (hR : RF σ0.2.2) (hp : 0 ≤ (σ0.1 218 7).toInt ∧ (σ0.1 218 7).toInt ≤ 600) : Ok (f_X12_end N 218 x1 σ0) (fun r => Tr [218] σ0 r.2 ∧ (0 ≤ (r.2.1 218 7).toInt ∧ (r.2.1 218 7).toInt ≤ 600)) := by
  have hT : Tr [218] σ0 σ0 := Tr.rf
  rw [f_X12_end.eq_1]
  refine ok_gI rfl ?_
  refine ok_zbT (Q := fun V σ => (V = 0 ∨ V = 1) ∧ (¬ V = 0 → (0 : Int64).toInt ≤ (Int32.toInt64 x1).toInt ∧ (Int32.toInt64 x1).toInt ≤ (Int32.toInt64 (σ0.1 218 7)).toInt)) hT (s_X12_in hN (hR.tr hT) ) (fun _ h9 => absurd h9 List.not_mem_nil) (fun v2 σ3 hOσ3 hT hqv2 => ?_)
  have hqv2 : (v2 = 0 ∨ v2 = 1) ∧ (¬ v2 = 0 → (0 : Int64).toInt ≤ (Int32.toInt64 x1).toInt ∧ (Int32.toInt64 x1).toInt ≤ (Int32.toInt64 (σ0.1 218 7)).toInt) := hqv2
  simp only [i64_of, Int64.reduceToInt] at hqv2
  have hp : 0 ≤ (σ3.1 218 7).toInt ∧ (σ3.1 218 7).toInt ≤ 600 := by rw [hOσ3.2 218 (by decide)] <;> exact hp
  refine ok_if (fun hc4 => ?_) (fun hc4 => ?_)
  · exact ok_some ⟨hT, (show 0 ≤ (σ3.1 218 7).toInt ∧ (σ3.1 218 7).toInt ≤ 600 from by exact hp)⟩
  · have qhc4 := hqv2.2 hc4
    refine ok_pI hT rfl (by decide) (fun σ5 eσ5 hOσ5 hT => ?_)
    have hp : 0 ≤ (σ5.1 218 7).toInt ∧ (σ5.1 218 7).toInt ≤ 600 := by rw [zI_atI eσ5]; first | omega | (simp only [Int32.le_iff_toInt_le, Int32.lt_iff_toInt_lt, ti_add, ti_sub, ti_mul, Int32.reduceToInt] at *; omega)
    exact ok_some ⟨hT, (show 0 ≤ (σ5.1 218 7).toInt ∧ (σ5.1 218 7).toInt ≤ 600 from by exact hp)⟩
end Zq7_0
section Zq7_1
def TKI (g : Nat → Int64) (b : Nat) (n m : Int) : Prop := ∀ j : Nat, (j : Int) < n → 0 ≤ (g (b + j)).toInt ∧ (g (b + j)).toInt < m
theorem TKI_s {g : Nat → Int64} {b i : Nat} {n m : Int} {v : Int64} (h : TKI g b n m) (hn : 0 ≤ n) (e : g i = v) (hi : i = b + n.toNat) (h0 : 0 ≤ v.toInt) (h1 : v.toInt < m) : TKI g b (n + 1) m := by
  intro j hj
  by_cases q : (j : Int) < n
  · exact h j q
  · have : j = n.toNat := by omega
    rw [this, ← hi, e]; exact ⟨h0, h1⟩
theorem TKI_m {g : Nat → Int64} {b : Nat} {n n2 m : Int} (h : TKI g b n m) (hn : n2 ≤ n) : TKI g b n2 m := fun j hj => h j (by omega)
theorem i32of {v : Int64} (h0 : 0 ≤ v.toInt) (h1 : v.toInt < 1025) : (Int64.toInt32 v).toInt = v.toInt := by
  rw [Int64.toInt_toInt32]
  exact Int.bmod_eq_of_le (by omega) (by omega)
theorem mny_lt {n w : Int32} {a : Int} (h0 : 0 ≤ n.toInt) (h1 : n.toInt ≤ 10) (e : w = mny n) (h2 : 0 ≤ a) (h3 : a ≤ (w - 1).toInt) : a < (mny n).toInt := by
  have q := mny_b h0 h1
  rw [e, ti_sub] at h3
  simp only [Int32.reduceToInt] at h3
  omega

set_option maxHeartbeats 4000000 in
set_option maxRecDepth 100000 in
theorem s_X12_takes_ {N : Nat} (hN : 1048576 ≤ N) {x1 : Int32} {x2 : Int32} {σ0 : zS}  (hR : RF σ0.2.2) (hM : MW (σ0.1 219) 0) (hB : ZB σ0.1) (hS : MS (σ0.1 239)) : Ok (f_X12_takes_ N 218 x1 x2 σ0) (fun r => Tr [220, 227] σ0 r.2 ∧ (ZB r.2.1)) := by
  have hT : Tr [220, 227] σ0 σ0 := Tr.rf
  have hn := hM.1
  have he : 0 ≤ (σ0.1 219 2).toInt ∧ (σ0.1 219 2).toInt ≤ 10 := hM.2.1
  have qm := mny_b hn.1 hn.2
  rw [f_X12_takes_.eq_1]
  refine ok_gC rfl ?_
  refine ok_zbT (Q := fun V σ => (V = 0 ∨ V = 1) ∧ (¬ V = 0 → 0 ≤ x1.toInt ∧ x1.toInt ≤ 9)) hT (s_X12_isRegister hN (hR.tr hT) (by first | exact hM | (rw [hT.2 219 (by decide)]; exact hM))) (fun _ h9 => absurd h9 List.not_mem_nil) (fun v1 σ2 hOσ2 hT hqv1 => ?_)
  have hqv1 : (v1 = 0 ∨ v1 = 1) ∧ (¬ v1 = 0 → 0 ≤ x1.toInt ∧ x1.toInt ≤ 9) := hqv1
  have hB : ZB σ2.1 := ZB.tr hOσ2 (by decide) hB
  refine ok_if (fun hc3 => ?_) (fun hc3 => ?_)
  · exact ok_some ⟨hT, (show ZB σ2.1 from by exact hB)⟩
  · have qhc3 := hqv1.2 hc3
    refine ok_zbT (Q := fun V σ => (V = 0 ∨ V = 1) ∧ (¬ V = 0 → 0 ≤ x2.toInt ∧ x2.toInt ≤ 3)) hT (s_X12_isSlot hN (hR.tr hT) ) (fun _ h9 => absurd h9 List.not_mem_nil) (fun v4 σ5 hOσ5 hT hqv4 => ?_)
    have hqv4 : (v4 = 0 ∨ v4 = 1) ∧ (¬ v4 = 0 → 0 ≤ x2.toInt ∧ x2.toInt ≤ 3) := hqv4
    have hB : ZB σ5.1 := ZB.tr hOσ5 (by decide) hB
    refine ok_if (fun hc6 => ?_) (fun hc6 => ?_)
    · exact ok_some ⟨hT, (show ZB σ5.1 from by exact hB)⟩
    · have qhc6 := hqv4.2 hc6
      refine ok_gR (v := 239) hT rfl (hR 218 35 rfl) ?_
      refine ok_aIn rfl (by first | omega | decide | (simp only [Int32.le_iff_toInt_le, Int32.lt_iff_toInt_lt, ti_add, ti_sub, ti_mul, Int32.reduceToInt] at *; omega)) (by first | omega | decide | (simp only [Int32.le_iff_toInt_le, Int32.lt_iff_toInt_lt, ti_add, ti_sub, ti_mul, Int32.reduceToInt] at *; omega)) (fun v8 ev8 => ?_)
      have qs23 : -1 ≤ v8.toInt ∧ v8.toInt ≤ 60 := by rw [ev8, hT.2 239 (by decide)]; exact hS _
      refine ok_if (fun hc9 => ?_) (fun hc9 => ?_)
      · exact ok_some ⟨hT, (show ZB σ5.1 from by exact hB)⟩
      · refine ok_lp (fun t : Int32 × zS => Tr [220, 227] σ0 (t.2) ∧ ((0 ≤ (t.1).toInt ∧ (t.1).toInt ≤ 60) ∧ TKI ((t.2).2.1 241) (60 * x2.toInt.toNat) (t.1).toInt (mny (σ0.1 219 0)).toInt) ∧ (ZB (t.2).1)) (fun t : Int32 × zS => (60 - (t.1).toInt).toNat) (fun again10 t hI ih33_10 => ?_) N _ (show Tr [220, 227] σ0 σ5 ∧ ((0 ≤ (0 : Int32).toInt ∧ (0 : Int32).toInt ≤ 60) ∧ TKI (σ5.2.1 241) (60 * x2.toInt.toNat) (0 : Int32).toInt (mny (σ0.1 219 0)).toInt) ∧ (ZB σ5.1) from ⟨hT, (by exact ⟨⟨by decide, by decide⟩, fun j hj => absurd hj (by simp only [Int32.reduceToInt]; omega)⟩), hB⟩) (show (60 - (0 : Int32).toInt).toNat < N from (by first | omega | decide | (simp only [Int32.le_iff_toInt_le, Int32.lt_iff_toInt_lt, ti_add, ti_sub, ti_mul, Int32.reduceToInt] at *; omega)))
        obtain ⟨x3_10, σ10⟩ := t
        have hI : Tr [220, 227] σ0 σ10 ∧ ((0 ≤ x3_10.toInt ∧ x3_10.toInt ≤ 60) ∧ TKI (σ10.2.1 241) (60 * x2.toInt.toNat) x3_10.toInt (mny (σ0.1 219 0)).toInt) ∧ (ZB σ10.1) := hI
        obtain ⟨hT, hI10, hB⟩ := hI
        rw [F_X12_takes__33.eq_1]
        refine ok_gR (v := 239) hT rfl (hR 218 35 rfl) ?_
        refine ok_aIn rfl (by first | omega | decide | (simp only [Int32.le_iff_toInt_le, Int32.lt_iff_toInt_lt, ti_add, ti_sub, ti_mul, Int32.reduceToInt] at *; omega)) (by first | omega | decide | (simp only [Int32.le_iff_toInt_le, Int32.lt_iff_toInt_lt, ti_add, ti_sub, ti_mul, Int32.reduceToInt] at *; omega)) (fun v12 ev12 => ?_)
        have qs39 : -1 ≤ v12.toInt ∧ v12.toInt ≤ 60 := by rw [ev12, hT.2 239 (by decide)]; exact hS _
        refine ok_if (fun hc13 => ?_) (fun hc13 => ?_)
        · refine ok_lp (fun t : Int32 × zS => Tr [220, 227] σ0 (t.2) ∧ (0 ≤ (t.1).toInt ∧ TKI ((t.2).2.1 241) (60 * x2.toInt.toNat) (σ0.1 239 x2.toNatClampNeg).toInt (mny (σ0.1 219 0)).toInt) ∧ (ZB (t.2).1)) (fun t : Int32 × zS => (1024 - (t.1).toInt).toNat) (fun again14 t hI ih79_14 => ?_) N _ (show Tr [220, 227] σ0 σ10 ∧ (0 ≤ (0 : Int32).toInt ∧ TKI (σ10.2.1 241) (60 * x2.toInt.toNat) (σ0.1 239 x2.toNatClampNeg).toInt (mny (σ0.1 219 0)).toInt) ∧ (ZB σ10.1) from ⟨hT, (by exact ⟨by decide, TKI_m hI10.2 (by have e9 := ev12; rw [hT.2 239 (by decide)] at e9; rw [← e9]; rw [Int32.le_iff_toInt_le] at hc13; exact hc13)⟩), hB⟩) (show (1024 - (0 : Int32).toInt).toNat < N from (by first | omega | decide | (simp only [Int32.le_iff_toInt_le, Int32.lt_iff_toInt_lt, ti_add, ti_sub, ti_mul, Int32.reduceToInt] at *; omega)))
          obtain ⟨x3_14, σ14⟩ := t
          have hI : Tr [220, 227] σ0 σ14 ∧ (0 ≤ x3_14.toInt ∧ TKI (σ14.2.1 241) (60 * x2.toInt.toNat) (σ0.1 239 x2.toNatClampNeg).toInt (mny (σ0.1 219 0)).toInt) ∧ (ZB σ14.1) := hI
          obtain ⟨hT, hI14, hB⟩ := hI
          rw [F_X12_takes__79.eq_1]
          refine ok_if (fun hc15 => ?_) (fun hc15 => ?_)
          · refine ok_lp (fun t : Int32 × zS => Tr [220, 227] σ0 (t.2) ∧ (0 ≤ (t.1).toInt ∧ TKI ((t.2).2.1 241) (60 * x2.toInt.toNat) (σ0.1 239 x2.toNatClampNeg).toInt (mny (σ0.1 219 0)).toInt) ∧ (ZB (t.2).1)) (fun t : Int32 × zS => (60 - (t.1).toInt).toNat) (fun again16 t hI ih101_16 => ?_) N _ (show Tr [220, 227] σ0 σ14 ∧ (0 ≤ (0 : Int32).toInt ∧ TKI (σ14.2.1 241) (60 * x2.toInt.toNat) (σ0.1 239 x2.toNatClampNeg).toInt (mny (σ0.1 219 0)).toInt) ∧ (ZB σ14.1) from ⟨hT, (by exact ⟨by decide, hI14.2⟩), hB⟩) (show (60 - (0 : Int32).toInt).toNat < N from (by first | omega | decide | (simp only [Int32.le_iff_toInt_le, Int32.lt_iff_toInt_lt, ti_add, ti_sub, ti_mul, Int32.reduceToInt] at *; omega)))
            obtain ⟨x3_16, σ16⟩ := t
            have hI : Tr [220, 227] σ0 σ16 ∧ (0 ≤ x3_16.toInt ∧ TKI (σ16.2.1 241) (60 * x2.toInt.toNat) (σ0.1 239 x2.toNatClampNeg).toInt (mny (σ0.1 219 0)).toInt) ∧ (ZB σ16.1) := hI
            obtain ⟨hT, hI16, hB⟩ := hI
            rw [F_X12_takes__101.eq_1]
            refine ok_gR (v := 239) hT rfl (hR 218 35 rfl) ?_
            refine ok_aIn rfl (by first | omega | decide | (simp only [Int32.le_iff_toInt_le, Int32.lt_iff_toInt_lt, ti_add, ti_sub, ti_mul, Int32.reduceToInt] at *; omega)) (by first | omega | decide | (simp only [Int32.le_iff_toInt_le, Int32.lt_iff_toInt_lt, ti_add, ti_sub, ti_mul, Int32.reduceToInt] at *; omega)) (fun v18 ev18 => ?_)
            have qs107 : -1 ≤ v18.toInt ∧ v18.toInt ≤ 60 := by rw [ev18, hT.2 239 (by decide)]; exact hS _
            refine ok_if (fun hc19 => ?_) (fun hc19 => ?_)
            · refine ok_gC rfl ?_
              refine ok_zbT (Q := fun V σ => ZB σ.1) hT (s_X12_lays hN (hR.tr hT) (by first | exact hM | (rw [hT.2 219 (by decide)]; exact hM)) (hB) (by first | omega | decide | (simp only [Int32.le_iff_toInt_le, Int32.lt_iff_toInt_lt, ti_add, ti_sub, ti_mul, Int32.reduceToInt] at *; omega))) (by decide) (fun v20 σ21 hOσ21 hT hqv20 => ?_)
              have hqv20 : ZB σ21.1 := hqv20
              have hB : ZB σ21.1 := by first | exact hqv20 | exact ZB_s eσ21 hB
              exact ok_some ⟨hT, (show ZB σ21.1 from by exact hB)⟩
            · have m9 := ix60 (x := x2) (y := x3_16) (by first | omega | (simp only [Int32.le_iff_toInt_le, Int32.lt_iff_toInt_lt, ti_add, ti_sub, ti_mul, Int32.reduceToInt] at *; omega)) (by first | omega | (simp only [Int32.le_iff_toInt_le, Int32.lt_iff_toInt_lt, ti_add, ti_sub, ti_mul, Int32.reduceToInt] at *; omega)) (by first | omega | (simp only [Int32.le_iff_toInt_le, Int32.lt_iff_toInt_lt, ti_add, ti_sub, ti_mul, Int32.reduceToInt] at *; omega)) (by first | omega | (simp only [Int32.le_iff_toInt_le, Int32.lt_iff_toInt_lt, ti_add, ti_sub, ti_mul, Int32.reduceToInt] at *; omega))
              refine ok_gR (v := 227) hT rfl (hR 218 17 rfl) ?_
              refine ok_gR (v := 241) hT rfl (hR 218 37 rfl) ?_
              refine ok_aJ rfl (by first | omega | decide | (simp only [Int32.le_iff_toInt_le, Int32.lt_iff_toInt_lt, ti_add, ti_sub, ti_mul, Int32.reduceToInt] at *; omega)) (by first | omega | decide | (simp only [Int32.le_iff_toInt_le, Int32.lt_iff_toInt_lt, ti_add, ti_sub, ti_mul, Int32.reduceToInt] at *; omega)) ?_
              generalize ev24 : σ16.2.1 (241) (Int32.toNatClampNeg ((60 * x2) + x3_16)) = v24
              have b9 : (x3_16.toInt.toNat : Int) < (σ0.1 239 x2.toNatClampNeg).toInt := by have e9 := ev18; rw [hT.2 239 (by decide)] at e9; rw [← e9]; rw [Int32.le_iff_toInt_le] at hc19; omega
              have t9 := hI16.2 _ b9
              rw [← m9.2.2.2, ev24] at t9
              have t8 := i32of t9.1 (by omega)
              refine ok_s16 hT rfl (by decide) (by first | omega | decide | (simp only [Int32.le_iff_toInt_le, Int32.lt_iff_toInt_lt, ti_add, ti_sub, ti_mul, Int32.reduceToInt] at *; omega)) (by first | omega | decide | (simp only [Int32.le_iff_toInt_le, Int32.lt_iff_toInt_lt, ti_add, ti_sub, ti_mul, Int32.reduceToInt] at *; omega)) (fun σ25 eσ25 hOσ25 hT => ?_)
              have hB : ZB σ25.1 := by first | exact HQ | exact ZB_s eσ25 hB
              exact ih101_16 (x3_16 + 1, σ25) (show Tr [220, 227] σ0 σ25 ∧ (0 ≤ (x3_16 + 1).toInt ∧ TKI (σ25.2.1 241) (60 * x2.toInt.toNat) (σ0.1 239 x2.toNatClampNeg).toInt (mny (σ0.1 219 0)).toInt) ∧ (ZB σ25.1) from ⟨hT, (by exact ⟨by first | omega | (simp only [Int32.le_iff_toInt_le, Int32.lt_iff_toInt_lt, ti_add, ti_sub, ti_mul, Int32.reduceToInt] at *; omega), by rw [eσ25]; exact hI16.2⟩), hB⟩) (show (60 - (x3_16 + 1).toInt).toNat < (60 - x3_16.toInt).toNat from (by first | omega | decide | (simp only [Int32.le_iff_toInt_le, Int32.lt_iff_toInt_lt, ti_add, ti_sub, ti_mul, Int32.reduceToInt] at *; omega)))
          · refine ok_gR (v := 227) hT rfl (hR 218 17 rfl) ?_
            refine ok_s16 hT rfl (by decide) (by first | omega | decide | (simp only [Int32.le_iff_toInt_le, Int32.lt_iff_toInt_lt, ti_add, ti_sub, ti_mul, Int32.reduceToInt] at *; omega)) (by first | omega | decide | (simp only [Int32.le_iff_toInt_le, Int32.lt_iff_toInt_lt, ti_add, ti_sub, ti_mul, Int32.reduceToInt] at *; omega)) (fun σ27 eσ27 hOσ27 hT => ?_)
            have hB : ZB σ27.1 := by first | exact HQ | exact ZB_s eσ27 hB
            exact ih79_14 (x3_14 + 1, σ27) (show Tr [220, 227] σ0 σ27 ∧ (0 ≤ (x3_14 + 1).toInt ∧ TKI (σ27.2.1 241) (60 * x2.toInt.toNat) (σ0.1 239 x2.toNatClampNeg).toInt (mny (σ0.1 219 0)).toInt) ∧ (ZB σ27.1) from ⟨hT, (by exact ⟨by first | omega | (simp only [Int32.le_iff_toInt_le, Int32.lt_iff_toInt_lt, ti_add, ti_sub, ti_mul, Int32.reduceToInt] at *; omega), by rw [eσ27]; exact hI14.2⟩), hB⟩) (show (1024 - (x3_14 + 1).toInt).toNat < (1024 - x3_14.toInt).toNat from (by first | omega | decide | (simp only [Int32.le_iff_toInt_le, Int32.lt_iff_toInt_lt, ti_add, ti_sub, ti_mul, Int32.reduceToInt] at *; omega)))
        · have m9 := ix60 (x := x2) (y := x3_10) (by first | omega | (simp only [Int32.le_iff_toInt_le, Int32.lt_iff_toInt_lt, ti_add, ti_sub, ti_mul, Int32.reduceToInt] at *; omega)) (by first | omega | (simp only [Int32.le_iff_toInt_le, Int32.lt_iff_toInt_lt, ti_add, ti_sub, ti_mul, Int32.reduceToInt] at *; omega)) (by first | omega | (simp only [Int32.le_iff_toInt_le, Int32.lt_iff_toInt_lt, ti_add, ti_sub, ti_mul, Int32.reduceToInt] at *; omega)) (by first | omega | (simp only [Int32.le_iff_toInt_le, Int32.lt_iff_toInt_lt, ti_add, ti_sub, ti_mul, Int32.reduceToInt] at *; omega))
          refine ok_gR (v := 241) hT rfl (hR 218 37 rfl) ?_
          refine ok_aJ rfl (by first | omega | decide | (simp only [Int32.le_iff_toInt_le, Int32.lt_iff_toInt_lt, ti_add, ti_sub, ti_mul, Int32.reduceToInt] at *; omega)) (by first | omega | decide | (simp only [Int32.le_iff_toInt_le, Int32.lt_iff_toInt_lt, ti_add, ti_sub, ti_mul, Int32.reduceToInt] at *; omega)) ?_
          generalize ev29 : σ10.2.1 (241) (Int32.toNatClampNeg ((60 * x2) + x3_10)) = v29
          refine ok_gC rfl ?_
          refine ok_zbX (Q := fun V => V = mny (σ10.1 219 0)) (x_X12_many (hR.tr hT)) (fun v30 hqv30 => ?_)
          refine ok_zbX (Q := fun V => ¬ V = 0 → (0 : Int64).toInt ≤ v29.toInt ∧ v29.toInt ≤ (Int32.toInt64 (v30 - 1)).toInt) (x_X12_in) (fun v32 hqv32 => ?_)
          refine ok_if (fun hc34 => ?_) (fun hc34 => ?_)
          · exact ok_some ⟨hT, (show ZB σ10.1 from by exact hB)⟩
          · have mq : v30 = mny (σ0.1 219 0) := by rw [hqv30, hT.2 219 (by decide)]
            have r9 := hqv32 hc34
            simp only [i64_of, Int64.reduceToInt] at r9
            have hx : (x3_10 + 1).toInt = x3_10.toInt + 1 := by simp only [ti_add, Int32.reduceToInt]; omega
            exact ih33_10 (x3_10 + 1, σ10) (show Tr [220, 227] σ0 σ10 ∧ ((0 ≤ (x3_10 + 1).toInt ∧ (x3_10 + 1).toInt ≤ 60) ∧ TKI (σ10.2.1 241) (60 * x2.toInt.toNat) (x3_10 + 1).toInt (mny (σ0.1 219 0)).toInt) ∧ (ZB σ10.1) from ⟨hT, (by exact ⟨⟨by first | omega | (simp only [Int32.le_iff_toInt_le, Int32.lt_iff_toInt_lt, ti_add, ti_sub, ti_mul, Int32.reduceToInt] at *; omega), by first | omega | (simp only [Int32.le_iff_toInt_le, Int32.lt_iff_toInt_lt, ti_add, ti_sub, ti_mul, Int32.reduceToInt] at *; omega)⟩, by rw [hx]; exact TKI_s hI10.2 (by omega) ev29 m9.2.2.2 r9.1 (mny_lt hn.1 hn.2 mq r9.1 r9.2)⟩), hB⟩) (show (60 - (x3_10 + 1).toInt).toNat < (60 - x3_10.toInt).toNat from (by first | omega | decide | (simp only [Int32.le_iff_toInt_le, Int32.lt_iff_toInt_lt, ti_add, ti_sub, ti_mul, Int32.reduceToInt] at *; omega)))

theorem ix60b {x y z : Int32} (h0 : 0 ≤ x.toInt) (h1 : x.toInt ≤ 3) (h2 : 0 ≤ y.toInt) (h3 : y.toInt + z.toInt < 60) (h4 : 0 ≤ z.toInt) : 0 ≤ ((60 * x + y) + z).toInt ∧ ((60 * x + y) + z).toInt < 240 := by
  have m := ix60 (x := x) (y := y) h0 h1 h2 (by omega)
  rw [ti_add, m.2.2.1]
  rcases (show x.toInt = 0 ∨ x.toInt = 1 ∨ x.toInt = 2 ∨ x.toInt = 3 by omega) with e | e | e | e <;> rw [e] <;> omega
theorem cmp_le {a : Int32} (h : a ≤ 0) : ¬ 0 < a := by
  rw [Int32.lt_iff_toInt_lt]; rw [Int32.le_iff_toInt_le] at h; omega

set_option maxHeartbeats 4000000 in
set_option maxRecDepth 100000 in
theorem s_X12_paste {N : Nat} (hN : 1048576 ≤ N) {x1 : Int32} {x2 : Int32} {x3 : Int32} {x4 : Int32} {x5 : Int32} {σ0 : zS}  (hR : RF σ0.2.2) (hS : MS (σ0.1 239)) : Ok (f_X12_paste N 218 x1 x2 x3 x4 x5 σ0) (fun r => Tr [] σ0 r.2 ∧ (True)) := by
  have hT : Tr [] σ0 σ0 := Tr.rf
  rw [f_X12_paste.eq_1]
  refine ok_zbT (Q := fun V σ => (V = 0 ∨ V = 1) ∧ (¬ V = 0 → 0 ≤ x1.toInt ∧ x1.toInt ≤ 3)) hT (s_X12_isSlot hN (hR.tr hT) ) (fun _ h9 => absurd h9 List.not_mem_nil) (fun v1 σ2 hOσ2 hT hqv1 => ?_)
  have hqv1 : (v1 = 0 ∨ v1 = 1) ∧ (¬ v1 = 0 → 0 ≤ x1.toInt ∧ x1.toInt ≤ 3) := hqv1
  refine ok_if (fun hc3 => ?_) (fun hc3 => ?_)
  · exact ok_some ⟨hT, trivial⟩
  · have qhc3 := hqv1.2 hc3
    refine ok_zbT (Q := fun V σ => (V = 0 ∨ V = 1) ∧ (¬ V = 0 → 0 ≤ x3.toInt ∧ x3.toInt ≤ 3)) hT (s_X12_isSlot hN (hR.tr hT) ) (fun _ h9 => absurd h9 List.not_mem_nil) (fun v4 σ5 hOσ5 hT hqv4 => ?_)
    have hqv4 : (v4 = 0 ∨ v4 = 1) ∧ (¬ v4 = 0 → 0 ≤ x3.toInt ∧ x3.toInt ≤ 3) := hqv4
    refine ok_if (fun hc6 => ?_) (fun hc6 => ?_)
    · exact ok_some ⟨hT, trivial⟩
    · have qhc6 := hqv4.2 hc6
      refine ok_gR (v := 239) hT rfl (hR 218 35 rfl) ?_
      refine ok_aIn rfl (by first | omega | decide | (simp only [Int32.le_iff_toInt_le, Int32.lt_iff_toInt_lt, ti_add, ti_sub, ti_mul, Int32.reduceToInt] at *; omega)) (by first | omega | decide | (simp only [Int32.le_iff_toInt_le, Int32.lt_iff_toInt_lt, ti_add, ti_sub, ti_mul, Int32.reduceToInt] at *; omega)) (fun v8 ev8 => ?_)
      have qs22 : -1 ≤ v8.toInt ∧ v8.toInt ≤ 60 := by rw [ev8, hT.2 239 (by decide)]; exact hS _
      refine ok_if (fun hc9 => ?_) (fun hc9 => ?_)
      · exact ok_some ⟨hT, trivial⟩
      · refine ok_gR (v := 239) hT rfl (hR 218 35 rfl) ?_
        refine ok_aIn rfl (by first | omega | decide | (simp only [Int32.le_iff_toInt_le, Int32.lt_iff_toInt_lt, ti_add, ti_sub, ti_mul, Int32.reduceToInt] at *; omega)) (by first | omega | decide | (simp only [Int32.le_iff_toInt_le, Int32.lt_iff_toInt_lt, ti_add, ti_sub, ti_mul, Int32.reduceToInt] at *; omega)) (fun v11 ev11 => ?_)
        have qs32 : -1 ≤ v11.toInt ∧ v11.toInt ≤ 60 := by rw [ev11, hT.2 239 (by decide)]; exact hS _
        refine ok_if (fun hc12 => ?_) (fun hc12 => ?_)
        · exact ok_some ⟨hT, trivial⟩
        · refine ok_gR (v := 240) hT rfl (hR 218 36 rfl) ?_
          refine ok_aIn rfl (by first | omega | decide | (simp only [Int32.le_iff_toInt_le, Int32.lt_iff_toInt_lt, ti_add, ti_sub, ti_mul, Int32.reduceToInt] at *; omega)) (by first | omega | decide | (simp only [Int32.le_iff_toInt_le, Int32.lt_iff_toInt_lt, ti_add, ti_sub, ti_mul, Int32.reduceToInt] at *; omega)) (fun v14 ev14 => ?_)
          refine ok_gR (v := 240) hT rfl (hR 218 36 rfl) ?_
          refine ok_aIn rfl (by first | omega | decide | (simp only [Int32.le_iff_toInt_le, Int32.lt_iff_toInt_lt, ti_add, ti_sub, ti_mul, Int32.reduceToInt] at *; omega)) (by first | omega | decide | (simp only [Int32.le_iff_toInt_le, Int32.lt_iff_toInt_lt, ti_add, ti_sub, ti_mul, Int32.reduceToInt] at *; omega)) (fun v16 ev16 => ?_)
          refine ok_if (fun hc17 => ?_) (fun hc17 => ?_)
          · refine ok_if (fun hc18 => ?_) (fun hc18 => ?_)
            · exact ok_some ⟨hT, trivial⟩
            · refine ok_if (fun hc19 => ?_) (fun hc19 => ?_)
              · exact ok_some ⟨hT, trivial⟩
              · refine ok_if (fun hc20 => ?_) (fun hc20 => ?_)
                · exact ok_some ⟨hT, trivial⟩
                · refine ok_gR (v := 239) hT rfl (hR 218 35 rfl) ?_
                  refine ok_aIn rfl (by first | omega | decide | (simp only [Int32.le_iff_toInt_le, Int32.lt_iff_toInt_lt, ti_add, ti_sub, ti_mul, Int32.reduceToInt] at *; omega)) (by first | omega | decide | (simp only [Int32.le_iff_toInt_le, Int32.lt_iff_toInt_lt, ti_add, ti_sub, ti_mul, Int32.reduceToInt] at *; omega)) (fun v22 ev22 => ?_)
                  have qs83 : -1 ≤ v22.toInt ∧ v22.toInt ≤ 60 := by rw [ev22, hT.2 239 (by decide)]; exact hS _
                  refine ok_if (fun hc23 => ?_) (fun hc23 => ?_)
                  · exact ok_some ⟨hT, trivial⟩
                  · have s1 := spans_ok (by first | omega | (simp only [Int32.le_iff_toInt_le, Int32.lt_iff_toInt_lt, ti_add, ti_sub, ti_mul, Int32.reduceToInt] at *; omega)) (by first | omega | (simp only [Int32.le_iff_toInt_le, Int32.lt_iff_toInt_lt, ti_add, ti_sub, ti_mul, Int32.reduceToInt] at *; omega)) hc23
                    refine ok_gR (v := 239) hT rfl (hR 218 35 rfl) ?_
                    refine ok_aIn rfl (by first | omega | decide | (simp only [Int32.le_iff_toInt_le, Int32.lt_iff_toInt_lt, ti_add, ti_sub, ti_mul, Int32.reduceToInt] at *; omega)) (by first | omega | decide | (simp only [Int32.le_iff_toInt_le, Int32.lt_iff_toInt_lt, ti_add, ti_sub, ti_mul, Int32.reduceToInt] at *; omega)) (fun v25 ev25 => ?_)
                    have qs101 : -1 ≤ v25.toInt ∧ v25.toInt ≤ 60 := by rw [ev25, hT.2 239 (by decide)]; exact hS _
                    refine ok_if (fun hc26 => ?_) (fun hc26 => ?_)
                    · have s2 := spans_ok (by first | omega | (simp only [Int32.le_iff_toInt_le, Int32.lt_iff_toInt_lt, ti_add, ti_sub, ti_mul, Int32.reduceToInt] at *; omega)) (by first | omega | (simp only [Int32.le_iff_toInt_le, Int32.lt_iff_toInt_lt, ti_add, ti_sub, ti_mul, Int32.reduceToInt] at *; omega)) (cmp_le hc26)
                      refine ok_lp (fun t : Int32 × zS => Tr [] σ0 (t.2) ∧ (0 ≤ (t.1).toInt)) (fun t : Int32 × zS => (60 - (t.1).toInt).toNat) (fun again27 t hI ih113_27 => ?_) N _ (show Tr [] σ0 σ5 ∧ (0 ≤ (0 : Int32).toInt) from ⟨hT, (by first | omega | decide | (simp only [Int32.le_iff_toInt_le, Int32.lt_iff_toInt_lt, ti_add, ti_sub, ti_mul, Int32.reduceToInt] at *; omega))⟩) (show (60 - (0 : Int32).toInt).toNat < N from (by first | omega | decide | (simp only [Int32.le_iff_toInt_le, Int32.lt_iff_toInt_lt, ti_add, ti_sub, ti_mul, Int32.reduceToInt] at *; omega)))
                      obtain ⟨x6_27, σ27⟩ := t
                      have hI : Tr [] σ0 σ27 ∧ (0 ≤ x6_27.toInt) := hI
                      obtain ⟨hT, hI27⟩ := hI
                      rw [F_X12_paste_113.eq_1]
                      refine ok_if (fun hc28 => ?_) (fun hc28 => ?_)
                      · refine ok_lp (fun t : Int32 × zS => Tr [] σ0 (t.2) ∧ (0 ≤ (t.1).toInt)) (fun t : Int32 × zS => (60 - (t.1).toInt).toNat) (fun again29 t hI ih150_29 => ?_) N _ (show Tr [] σ0 σ27 ∧ (0 ≤ (0 : Int32).toInt) from ⟨hT, (by first | omega | decide | (simp only [Int32.le_iff_toInt_le, Int32.lt_iff_toInt_lt, ti_add, ti_sub, ti_mul, Int32.reduceToInt] at *; omega))⟩) (show (60 - (0 : Int32).toInt).toNat < N from (by first | omega | decide | (simp only [Int32.le_iff_toInt_le, Int32.lt_iff_toInt_lt, ti_add, ti_sub, ti_mul, Int32.reduceToInt] at *; omega)))
                        obtain ⟨x6_29, σ29⟩ := t
                        have hI : Tr [] σ0 σ29 ∧ (0 ≤ x6_29.toInt) := hI
                        obtain ⟨hT, hI29⟩ := hI
                        rw [F_X12_paste_150.eq_1]
                        refine ok_if (fun hc30 => ?_) (fun hc30 => ?_)
                        · exact ok_some ⟨hT, trivial⟩
                        · have m9 := ix60b (x := x3) (y := x4) (z := x6_29) (by first | omega | (simp only [Int32.le_iff_toInt_le, Int32.lt_iff_toInt_lt, ti_add, ti_sub, ti_mul, Int32.reduceToInt] at *; omega)) (by first | omega | (simp only [Int32.le_iff_toInt_le, Int32.lt_iff_toInt_lt, ti_add, ti_sub, ti_mul, Int32.reduceToInt] at *; omega)) (by first | omega | (simp only [Int32.le_iff_toInt_le, Int32.lt_iff_toInt_lt, ti_add, ti_sub, ti_mul, Int32.reduceToInt] at *; omega)) (by first | omega | (simp only [Int32.le_iff_toInt_le, Int32.lt_iff_toInt_lt, ti_add, ti_sub, ti_mul, Int32.reduceToInt] at *; omega)) (by first | omega | (simp only [Int32.le_iff_toInt_le, Int32.lt_iff_toInt_lt, ti_add, ti_sub, ti_mul, Int32.reduceToInt] at *; omega))
                          refine ok_gR (v := 241) hT rfl (hR 218 37 rfl) ?_
                          refine ok_gR (v := 242) hT rfl (hR 218 38 rfl) ?_
                          refine ok_aJ rfl (by first | omega | decide | (simp only [Int32.le_iff_toInt_le, Int32.lt_iff_toInt_lt, ti_add, ti_sub, ti_mul, Int32.reduceToInt] at *; omega)) (by first | omega | decide | (simp only [Int32.le_iff_toInt_le, Int32.lt_iff_toInt_lt, ti_add, ti_sub, ti_mul, Int32.reduceToInt] at *; omega)) ?_
                          generalize σ29.2.1 (242) (Int32.toNatClampNeg (x6_29)) = v33
                          refine ok_sJ hT rfl (by first | omega | decide | (simp only [Int32.le_iff_toInt_le, Int32.lt_iff_toInt_lt, ti_add, ti_sub, ti_mul, Int32.reduceToInt] at *; omega)) (by first | omega | decide | (simp only [Int32.le_iff_toInt_le, Int32.lt_iff_toInt_lt, ti_add, ti_sub, ti_mul, Int32.reduceToInt] at *; omega)) (fun σ34 eσ34 hOσ34 hT => ?_)
                          exact ih150_29 (x6_29 + 1, σ34) (show Tr [] σ0 σ34 ∧ (0 ≤ (x6_29 + 1).toInt) from ⟨hT, (by first | omega | decide | (simp only [Int32.le_iff_toInt_le, Int32.lt_iff_toInt_lt, ti_add, ti_sub, ti_mul, Int32.reduceToInt] at *; omega))⟩) (show (60 - (x6_29 + 1).toInt).toNat < (60 - x6_29.toInt).toNat from (by first | omega | decide | (simp only [Int32.le_iff_toInt_le, Int32.lt_iff_toInt_lt, ti_add, ti_sub, ti_mul, Int32.reduceToInt] at *; omega)))
                      · have m9 := ix60b (x := x1) (y := x2) (z := x6_27) (by first | omega | (simp only [Int32.le_iff_toInt_le, Int32.lt_iff_toInt_lt, ti_add, ti_sub, ti_mul, Int32.reduceToInt] at *; omega)) (by first | omega | (simp only [Int32.le_iff_toInt_le, Int32.lt_iff_toInt_lt, ti_add, ti_sub, ti_mul, Int32.reduceToInt] at *; omega)) (by first | omega | (simp only [Int32.le_iff_toInt_le, Int32.lt_iff_toInt_lt, ti_add, ti_sub, ti_mul, Int32.reduceToInt] at *; omega)) (by first | omega | (simp only [Int32.le_iff_toInt_le, Int32.lt_iff_toInt_lt, ti_add, ti_sub, ti_mul, Int32.reduceToInt] at *; omega)) (by first | omega | (simp only [Int32.le_iff_toInt_le, Int32.lt_iff_toInt_lt, ti_add, ti_sub, ti_mul, Int32.reduceToInt] at *; omega))
                        refine ok_gR (v := 242) hT rfl (hR 218 38 rfl) ?_
                        refine ok_gR (v := 241) hT rfl (hR 218 37 rfl) ?_
                        refine ok_aJ rfl (by first | omega | decide | (simp only [Int32.le_iff_toInt_le, Int32.lt_iff_toInt_lt, ti_add, ti_sub, ti_mul, Int32.reduceToInt] at *; omega)) (by first | omega | decide | (simp only [Int32.le_iff_toInt_le, Int32.lt_iff_toInt_lt, ti_add, ti_sub, ti_mul, Int32.reduceToInt] at *; omega)) ?_
                        generalize σ27.2.1 (241) (Int32.toNatClampNeg (((60 * x1) + x2) + x6_27)) = v37
                        refine ok_sJ hT rfl (by first | omega | decide | (simp only [Int32.le_iff_toInt_le, Int32.lt_iff_toInt_lt, ti_add, ti_sub, ti_mul, Int32.reduceToInt] at *; omega)) (by first | omega | decide | (simp only [Int32.le_iff_toInt_le, Int32.lt_iff_toInt_lt, ti_add, ti_sub, ti_mul, Int32.reduceToInt] at *; omega)) (fun σ38 eσ38 hOσ38 hT => ?_)
                        exact ih113_27 (x6_27 + 1, σ38) (show Tr [] σ0 σ38 ∧ (0 ≤ (x6_27 + 1).toInt) from ⟨hT, (by first | omega | decide | (simp only [Int32.le_iff_toInt_le, Int32.lt_iff_toInt_lt, ti_add, ti_sub, ti_mul, Int32.reduceToInt] at *; omega))⟩) (show (60 - (x6_27 + 1).toInt).toNat < (60 - x6_27.toInt).toNat from (by first | omega | decide | (simp only [Int32.le_iff_toInt_le, Int32.lt_iff_toInt_lt, ti_add, ti_sub, ti_mul, Int32.reduceToInt] at *; omega)))
                    · exact ok_some ⟨hT, trivial⟩
          · exact ok_some ⟨hT, trivial⟩

theorem x2_X12_in {N : Nat} {a b c : Int64} {σ : zS} : Ok (f_X12_in N a b c σ) (fun r => r.2 = σ ∧ (¬ r.1 = 0 ↔ b.toInt ≤ a.toInt ∧ a.toInt ≤ c.toInt)) := by
  rw [f_X12_in.eq_1]
  refine ok_if (fun h => ok_rZ (Or.inl rfl) ⟨rfl, fun q => absurd rfl q, fun q => ?_⟩) (fun h => ok_if (fun h2 => ok_rZ (Or.inl rfl) ⟨rfl, fun q => absurd rfl q, fun q => ?_⟩) (fun h2 => ok_rZ (Or.inr rfl) ⟨rfl, fun _ => ⟨in_ok h, in_ok2 h2⟩, fun _ => (show ¬ (1 : Int32) = 0 by decide)⟩))
  · rw [zcmp_lt] at h; omega
  · rw [zcmp_gt] at h2; omega
theorem ix43 {x y : Int32} (h0 : 0 ≤ x.toInt) (h1 : x.toInt ≤ 2) (h2 : 0 ≤ y.toInt) (h3 : y.toInt < 43) : 0 ≤ (43 * x + y).toInt ∧ (43 * x + y).toInt < 129 ∧ (43 * x + y).toNatClampNeg = 43 * x.toInt.toNat + y.toInt.toNat := by
  have e9 : (43 * x + y).toNatClampNeg = (43 * x + y).toInt.toNat := rfl
  have m := tm_c (x := x) 43 (by decide) (by decide) h0 (by omega)
  rw [e9, ti_add, m]; simp only [Int32.reduceToInt]
  rcases (show x.toInt = 0 ∨ x.toInt = 1 ∨ x.toInt = 2 by omega) with e | e | e <;> rw [e] <;> omega
theorem ixF {x y : Int32} (h0 : 0 ≤ x.toInt) (h1 : x.toInt ≤ 2) (h2 : 0 ≤ y.toInt) (h3 : y.toInt < 10240) : 0 ≤ (10240 * x + y).toInt ∧ (10240 * x + y).toInt < 30720 := by
  have m := tm_c (x := x) 10240 (by decide) (by decide) h0 (by omega)
  rw [ti_add, m]; simp only [Int32.reduceToInt]
  rcases (show x.toInt = 0 ∨ x.toInt = 1 ∨ x.toInt = 2 by omega) with e | e | e <;> rw [e] <;> omega

set_option maxHeartbeats 4000000 in
set_option maxRecDepth 100000 in
theorem s_X12_keep {N : Nat} (hN : 1048576 ≤ N) {x1 : Int32} {σ0 : zS}  (hR : RF σ0.2.2) (hM : MW (σ0.1 219) 0) (hB : ZB σ0.1) (hI3 : MI (σ0.1 221)) : Ok (f_X12_keep N 218 x1 σ0) (fun r => Tr [221, 222, 223] σ0 r.2 ∧ (ZB r.2.1 ∧ MI (r.2.1 221) ∧ r.1 = if 0 ≤ x1.toInt ∧ x1.toInt ≤ 2 then 0 else -2)) := by
  have hT : Tr [221, 222, 223] σ0 σ0 := Tr.rf
  have hn := hM.1
  have he : 0 ≤ (σ0.1 219 2).toInt ∧ (σ0.1 219 2).toInt ≤ 10 := hM.2.1
  have qm := mny_b hn.1 hn.2
  rw [f_X12_keep.eq_1]
  refine ok_zbX (Q := fun V => ¬ V = 0 ↔ (0 : Int64).toInt ≤ (Int32.toInt64 x1).toInt ∧ (Int32.toInt64 x1).toInt ≤ (2 : Int64).toInt) (x2_X12_in) (fun v1 hqv1 => ?_)
  simp only [i64_of, Int64.reduceToInt] at hqv1
  refine ok_if (fun hc3 => ?_) (fun hc3 => ?_)
  · have qk : ¬ (0 ≤ x1.toInt ∧ x1.toInt ≤ 2) := fun h9 => hqv1.mpr h9 hc3
    exact ok_some ⟨hT, (show ZB σ0.1 ∧ MI (σ0.1 221) ∧ (-2 : Int32) = if 0 ≤ x1.toInt ∧ x1.toInt ≤ 2 then 0 else -2 from by exact ⟨hB, hI3, (if_neg qk).symm⟩)⟩
  · have qk := hqv1.mp hc3
    refine ok_lp (fun t : Int32 × zS => Tr [221, 222, 223] σ0 (t.2) ∧ ((0 ≤ (t.1).toInt ∧ (t.1).toInt ≤ 43) ∧ KP ((t.2).1 221) (σ0.1 221) (σ0.1 219) (43 * x1.toInt.toNat) 0 (t.1).toInt.toNat) ∧ (ZB (t.2).1)) (fun t : Int32 × zS => (43 - (t.1).toInt).toNat) (fun again4 t hI ih17_4 => ?_) N _ (show Tr [221, 222, 223] σ0 σ0 ∧ ((0 ≤ (0 : Int32).toInt ∧ (0 : Int32).toInt ≤ 43) ∧ KP (σ0.1 221) (σ0.1 221) (σ0.1 219) (43 * x1.toInt.toNat) 0 (0 : Int32).toInt.toNat) ∧ (ZB σ0.1) from ⟨hT, (by exact ⟨⟨by decide, by decide⟩, ⟨fun j hj => absurd hj (Nat.not_lt_zero _), fun _ _ => rfl⟩⟩), hB⟩) (show (43 - (0 : Int32).toInt).toNat < N from (by first | omega | decide | (simp only [Int32.le_iff_toInt_le, Int32.lt_iff_toInt_lt, ti_add, ti_sub, ti_mul, Int32.reduceToInt] at *; omega)))
    obtain ⟨x2_4, σ4⟩ := t
    have hI : Tr [221, 222, 223] σ0 σ4 ∧ ((0 ≤ x2_4.toInt ∧ x2_4.toInt ≤ 43) ∧ KP (σ4.1 221) (σ0.1 221) (σ0.1 219) (43 * x1.toInt.toNat) 0 x2_4.toInt.toNat) ∧ (ZB σ4.1) := hI
    obtain ⟨hT, hI4, hB⟩ := hI
    rw [F_X12_keep_17.eq_1]
    have hK := hI4.2
    refine ok_if (fun hc5 => ?_) (fun hc5 => ?_)
    · have e9 : x2_4.toInt.toNat = 43 := by first | omega | (simp only [Int32.le_iff_toInt_le, Int32.lt_iff_toInt_lt, ti_add, ti_sub, ti_mul, Int32.reduceToInt] at *; omega)
      rw [e9] at hK
      refine ok_lp (fun t : Int32 × zS => Tr [221, 222, 223] σ0 (t.2) ∧ (0 ≤ (t.1).toInt ∧ KP ((t.2).1 221) (σ0.1 221) (σ0.1 219) (43 * x1.toInt.toNat) 0 43) ∧ (ZB (t.2).1)) (fun t : Int32 × zS => (10240 - (t.1).toInt).toNat) (fun again6 t hI ih48_6 => ?_) N _ (show Tr [221, 222, 223] σ0 σ4 ∧ (0 ≤ (0 : Int32).toInt ∧ KP (σ4.1 221) (σ0.1 221) (σ0.1 219) (43 * x1.toInt.toNat) 0 43) ∧ (ZB σ4.1) from ⟨hT, (by exact ⟨by decide, hK⟩), hB⟩) (show (10240 - (0 : Int32).toInt).toNat < N from (by first | omega | decide | (simp only [Int32.le_iff_toInt_le, Int32.lt_iff_toInt_lt, ti_add, ti_sub, ti_mul, Int32.reduceToInt] at *; omega)))
      obtain ⟨x2_6, σ6⟩ := t
      have hI : Tr [221, 222, 223] σ0 σ6 ∧ (0 ≤ x2_6.toInt ∧ KP (σ6.1 221) (σ0.1 221) (σ0.1 219) (43 * x1.toInt.toNat) 0 43) ∧ (ZB σ6.1) := hI
      obtain ⟨hT, hI6, hB⟩ := hI
      rw [F_X12_keep_48.eq_1]
      have hK := hI6.2
      refine ok_if (fun hc7 => ?_) (fun hc7 => ?_)
      · refine ok_gR (v := 223) hT rfl (hR 218 5 rfl) ?_
        refine ok_s16 hT rfl (by decide) (by first | omega | decide | (simp only [Int32.le_iff_toInt_le, Int32.lt_iff_toInt_lt, ti_add, ti_sub, ti_mul, Int32.reduceToInt] at *; omega)) (by first | omega | decide | (simp only [Int32.le_iff_toInt_le, Int32.lt_iff_toInt_lt, ti_add, ti_sub, ti_mul, Int32.reduceToInt] at *; omega)) (fun σ9 eσ9 hOσ9 hT => ?_)
        have hK : KP (σ9.1 221) (σ0.1 221) (σ0.1 219) (43 * x1.toInt.toNat) 0 43 := by rw [hOσ9.2 221 (by decide)]; exact hK
        have hB : ZB σ9.1 := ZB_s eσ9 hB
        exact ok_some ⟨hT, (show ZB σ9.1 ∧ MI (σ9.1 221) ∧ (0 : Int32) = if 0 ≤ x1.toInt ∧ x1.toInt ≤ 2 then 0 else -2 from by exact ⟨hB, MI_cp hK hM hI3, (if_pos qk).symm⟩)⟩
      · have m9 := ixF (x := x1) (y := x2_6) (by first | omega | (simp only [Int32.le_iff_toInt_le, Int32.lt_iff_toInt_lt, ti_add, ti_sub, ti_mul, Int32.reduceToInt] at *; omega)) (by first | omega | (simp only [Int32.le_iff_toInt_le, Int32.lt_iff_toInt_lt, ti_add, ti_sub, ti_mul, Int32.reduceToInt] at *; omega)) (by first | omega | (simp only [Int32.le_iff_toInt_le, Int32.lt_iff_toInt_lt, ti_add, ti_sub, ti_mul, Int32.reduceToInt] at *; omega)) (by first | omega | (simp only [Int32.le_iff_toInt_le, Int32.lt_iff_toInt_lt, ti_add, ti_sub, ti_mul, Int32.reduceToInt] at *; omega))
        refine ok_gR (v := 222) hT rfl (hR 218 4 rfl) ?_
        refine ok_gR (v := 220) hT rfl (hR 218 2 rfl) ?_
        refine ok_aIn rfl (by first | omega | decide | (simp only [Int32.le_iff_toInt_le, Int32.lt_iff_toInt_lt, ti_add, ti_sub, ti_mul, Int32.reduceToInt] at *; omega)) (by first | omega | decide | (simp only [Int32.le_iff_toInt_le, Int32.lt_iff_toInt_lt, ti_add, ti_sub, ti_mul, Int32.reduceToInt] at *; omega)) (fun v12 ev12 => ?_)
        have zv12 : v12 = 0 ∨ v12 = 1 := by rw [ev12]; exact hB 220 rfl _
        refine ok_s16 hT rfl (by decide) (by first | omega | decide | (simp only [Int32.le_iff_toInt_le, Int32.lt_iff_toInt_lt, ti_add, ti_sub, ti_mul, Int32.reduceToInt] at *; omega)) (by first | omega | decide | (simp only [Int32.le_iff_toInt_le, Int32.lt_iff_toInt_lt, ti_add, ti_sub, ti_mul, Int32.reduceToInt] at *; omega)) (fun σ13 eσ13 hOσ13 hT => ?_)
        have hK : KP (σ13.1 221) (σ0.1 221) (σ0.1 219) (43 * x1.toInt.toNat) 0 43 := by rw [hOσ13.2 221 (by decide)]; exact hK
        have hB : ZB σ13.1 := ZB_s eσ13 hB
        exact ih48_6 (x2_6 + 1, σ13) (show Tr [221, 222, 223] σ0 σ13 ∧ (0 ≤ (x2_6 + 1).toInt ∧ KP (σ13.1 221) (σ0.1 221) (σ0.1 219) (43 * x1.toInt.toNat) 0 43) ∧ (ZB σ13.1) from ⟨hT, (by exact ⟨by first | omega | (simp only [Int32.le_iff_toInt_le, Int32.lt_iff_toInt_lt, ti_add, ti_sub, ti_mul, Int32.reduceToInt] at *; omega), hK⟩), hB⟩) (show (10240 - (x2_6 + 1).toInt).toNat < (10240 - x2_6.toInt).toNat from (by first | omega | decide | (simp only [Int32.le_iff_toInt_le, Int32.lt_iff_toInt_lt, ti_add, ti_sub, ti_mul, Int32.reduceToInt] at *; omega)))
    · have m9 := ix43 (x := x1) (y := x2_4) (by first | omega | (simp only [Int32.le_iff_toInt_le, Int32.lt_iff_toInt_lt, ti_add, ti_sub, ti_mul, Int32.reduceToInt] at *; omega)) (by first | omega | (simp only [Int32.le_iff_toInt_le, Int32.lt_iff_toInt_lt, ti_add, ti_sub, ti_mul, Int32.reduceToInt] at *; omega)) (by first | omega | (simp only [Int32.le_iff_toInt_le, Int32.lt_iff_toInt_lt, ti_add, ti_sub, ti_mul, Int32.reduceToInt] at *; omega)) (by first | omega | (simp only [Int32.le_iff_toInt_le, Int32.lt_iff_toInt_lt, ti_add, ti_sub, ti_mul, Int32.reduceToInt] at *; omega))
      have hx : (x2_4 + 1).toInt.toNat = x2_4.toInt.toNat + 1 := by first | omega | (simp only [Int32.le_iff_toInt_le, Int32.lt_iff_toInt_lt, ti_add, ti_sub, ti_mul, Int32.reduceToInt] at *; omega)
      have h43 : x2_4.toInt.toNat < 43 := by first | omega | (simp only [Int32.le_iff_toInt_le, Int32.lt_iff_toInt_lt, ti_add, ti_sub, ti_mul, Int32.reduceToInt] at *; omega)
      refine ok_gR (v := 221) hT rfl (hR 218 3 rfl) ?_
      refine ok_gR (v := 219) hT rfl (hR 218 1 rfl) ?_
      refine ok_aIn rfl (by first | omega | decide | (simp only [Int32.le_iff_toInt_le, Int32.lt_iff_toInt_lt, ti_add, ti_sub, ti_mul, Int32.reduceToInt] at *; omega)) (by first | omega | decide | (simp only [Int32.le_iff_toInt_le, Int32.lt_iff_toInt_lt, ti_add, ti_sub, ti_mul, Int32.reduceToInt] at *; omega)) (fun v16 ev16 => ?_)
      have ev38 : v16 = σ0.1 219 (Int32.toNatClampNeg (x2_4)) := by rw [ev16, hT.2 219 (by decide)]
      refine ok_s14 hT rfl (by decide) (by first | omega | decide | (simp only [Int32.le_iff_toInt_le, Int32.lt_iff_toInt_lt, ti_add, ti_sub, ti_mul, Int32.reduceToInt] at *; omega)) (by first | omega | decide | (simp only [Int32.le_iff_toInt_le, Int32.lt_iff_toInt_lt, ti_add, ti_sub, ti_mul, Int32.reduceToInt] at *; omega)) (fun σ17 eσ17 hOσ17 hT => ?_)
      have hK := KP_s eσ17 m9.2.2 (by rw [ev38, Nat.zero_add]; rfl) h43 hK
      have hB : ZB σ17.1 := ZB.tr hOσ17 (by decide) hB
      exact ih17_4 (x2_4 + 1, σ17) (show Tr [221, 222, 223] σ0 σ17 ∧ ((0 ≤ (x2_4 + 1).toInt ∧ (x2_4 + 1).toInt ≤ 43) ∧ KP (σ17.1 221) (σ0.1 221) (σ0.1 219) (43 * x1.toInt.toNat) 0 (x2_4 + 1).toInt.toNat) ∧ (ZB σ17.1) from ⟨hT, (by exact ⟨⟨by first | omega | (simp only [Int32.le_iff_toInt_le, Int32.lt_iff_toInt_lt, ti_add, ti_sub, ti_mul, Int32.reduceToInt] at *; omega), by first | omega | (simp only [Int32.le_iff_toInt_le, Int32.lt_iff_toInt_lt, ti_add, ti_sub, ti_mul, Int32.reduceToInt] at *; omega)⟩, by rw [hx]; exact hK⟩), hB⟩) (show (43 - (x2_4 + 1).toInt).toNat < (43 - x2_4.toInt).toNat from (by first | omega | decide | (simp only [Int32.le_iff_toInt_le, Int32.lt_iff_toInt_lt, ti_add, ti_sub, ti_mul, Int32.reduceToInt] at *; omega)))

set_option maxHeartbeats 4000000 in
set_option maxRecDepth 100000 in
theorem s_X12_back {N : Nat} (hN : 1048576 ≤ N) {x1 : Int32} {σ0 : zS}  (hR : RF σ0.2.2) (hM : MW (σ0.1 219) 0) (hB : ZB σ0.1) (hI3 : MI (σ0.1 221)) : Ok (f_X12_back N 218 x1 σ0) (fun r => Tr [219, 220] σ0 r.2 ∧ (ZB r.2.1 ∧ MW (r.2.1 219) 0)) := by
  have hT : Tr [219, 220] σ0 σ0 := Tr.rf
  have hn := hM.1
  have he : 0 ≤ (σ0.1 219 2).toInt ∧ (σ0.1 219 2).toInt ≤ 10 := hM.2.1
  have qm := mny_b hn.1 hn.2
  rw [f_X12_back.eq_1]
  refine ok_zbX (Q := fun V => ¬ V = 0 ↔ (0 : Int64).toInt ≤ (Int32.toInt64 x1).toInt ∧ (Int32.toInt64 x1).toInt ≤ (2 : Int64).toInt) (x2_X12_in) (fun v1 hqv1 => ?_)
  simp only [i64_of, Int64.reduceToInt] at hqv1
  refine ok_if (fun hc3 => ?_) (fun hc3 => ?_)
  · have qk : ¬ (0 ≤ x1.toInt ∧ x1.toInt ≤ 2) := fun h9 => hqv1.mpr h9 hc3
    exact ok_some ⟨hT, (show ZB σ0.1 ∧ MW (σ0.1 219) 0 from by exact ⟨hB, hM⟩)⟩
  · have qk := hqv1.mp hc3
    refine ok_gR (v := 223) hT rfl (hR 218 5 rfl) ?_
    refine ok_aIn rfl (by first | omega | decide | (simp only [Int32.le_iff_toInt_le, Int32.lt_iff_toInt_lt, ti_add, ti_sub, ti_mul, Int32.reduceToInt] at *; omega)) (by first | omega | decide | (simp only [Int32.le_iff_toInt_le, Int32.lt_iff_toInt_lt, ti_add, ti_sub, ti_mul, Int32.reduceToInt] at *; omega)) (fun v5 ev5 => ?_)
    have zv5 : v5 = 0 ∨ v5 = 1 := by rw [ev5]; exact hB 223 rfl _
    refine ok_if (fun hc6 => ?_) (fun hc6 => ?_)
    · exact ok_some ⟨hT, (show ZB σ0.1 ∧ MW (σ0.1 219) 0 from by exact ⟨hB, hM⟩)⟩
    · refine ok_lp (fun t : Int32 × zS => Tr [219, 220] σ0 (t.2) ∧ ((0 ≤ (t.1).toInt ∧ (t.1).toInt ≤ 43) ∧ KP ((t.2).1 219) (σ0.1 219) (σ0.1 221) 0 (43 * x1.toInt.toNat) (t.1).toInt.toNat) ∧ (ZB (t.2).1)) (fun t : Int32 × zS => (43 - (t.1).toInt).toNat) (fun again7 t hI ih29_7 => ?_) N _ (show Tr [219, 220] σ0 σ0 ∧ ((0 ≤ (0 : Int32).toInt ∧ (0 : Int32).toInt ≤ 43) ∧ KP (σ0.1 219) (σ0.1 219) (σ0.1 221) 0 (43 * x1.toInt.toNat) (0 : Int32).toInt.toNat) ∧ (ZB σ0.1) from ⟨hT, (by exact ⟨⟨by decide, by decide⟩, ⟨fun j hj => absurd hj (Nat.not_lt_zero _), fun _ _ => rfl⟩⟩), hB⟩) (show (43 - (0 : Int32).toInt).toNat < N from (by first | omega | decide | (simp only [Int32.le_iff_toInt_le, Int32.lt_iff_toInt_lt, ti_add, ti_sub, ti_mul, Int32.reduceToInt] at *; omega)))
      obtain ⟨x2_7, σ7⟩ := t
      have hI : Tr [219, 220] σ0 σ7 ∧ ((0 ≤ x2_7.toInt ∧ x2_7.toInt ≤ 43) ∧ KP (σ7.1 219) (σ0.1 219) (σ0.1 221) 0 (43 * x1.toInt.toNat) x2_7.toInt.toNat) ∧ (ZB σ7.1) := hI
      obtain ⟨hT, hI7, hB⟩ := hI
      rw [F_X12_back_29.eq_1]
      have hK := hI7.2
      refine ok_if (fun hc8 => ?_) (fun hc8 => ?_)
      · have e9 : x2_7.toInt.toNat = 43 := by first | omega | (simp only [Int32.le_iff_toInt_le, Int32.lt_iff_toInt_lt, ti_add, ti_sub, ti_mul, Int32.reduceToInt] at *; omega)
        rw [e9] at hK
        refine ok_lp (fun t : Int32 × zS => Tr [219, 220] σ0 (t.2) ∧ (0 ≤ (t.1).toInt ∧ KP ((t.2).1 219) (σ0.1 219) (σ0.1 221) 0 (43 * x1.toInt.toNat) 43) ∧ (ZB (t.2).1)) (fun t : Int32 × zS => (10240 - (t.1).toInt).toNat) (fun again9 t hI ih60_9 => ?_) N _ (show Tr [219, 220] σ0 σ7 ∧ (0 ≤ (0 : Int32).toInt ∧ KP (σ7.1 219) (σ0.1 219) (σ0.1 221) 0 (43 * x1.toInt.toNat) 43) ∧ (ZB σ7.1) from ⟨hT, (by exact ⟨by decide, hK⟩), hB⟩) (show (10240 - (0 : Int32).toInt).toNat < N from (by first | omega | decide | (simp only [Int32.le_iff_toInt_le, Int32.lt_iff_toInt_lt, ti_add, ti_sub, ti_mul, Int32.reduceToInt] at *; omega)))
        obtain ⟨x2_9, σ9⟩ := t
        have hI : Tr [219, 220] σ0 σ9 ∧ (0 ≤ x2_9.toInt ∧ KP (σ9.1 219) (σ0.1 219) (σ0.1 221) 0 (43 * x1.toInt.toNat) 43) ∧ (ZB σ9.1) := hI
        obtain ⟨hT, hI9, hB⟩ := hI
        rw [F_X12_back_60.eq_1]
        have hK := hI9.2
        refine ok_if (fun hc10 => ?_) (fun hc10 => ?_)
        · exact ok_some ⟨hT, (show ZB σ9.1 ∧ MW (σ9.1 219) 0 from by exact ⟨hB, MW_cp hK.1 (hI3 _ (by omega))⟩)⟩
        · have m9 := ixF (x := x1) (y := x2_9) (by first | omega | (simp only [Int32.le_iff_toInt_le, Int32.lt_iff_toInt_lt, ti_add, ti_sub, ti_mul, Int32.reduceToInt] at *; omega)) (by first | omega | (simp only [Int32.le_iff_toInt_le, Int32.lt_iff_toInt_lt, ti_add, ti_sub, ti_mul, Int32.reduceToInt] at *; omega)) (by first | omega | (simp only [Int32.le_iff_toInt_le, Int32.lt_iff_toInt_lt, ti_add, ti_sub, ti_mul, Int32.reduceToInt] at *; omega)) (by first | omega | (simp only [Int32.le_iff_toInt_le, Int32.lt_iff_toInt_lt, ti_add, ti_sub, ti_mul, Int32.reduceToInt] at *; omega))
          refine ok_gR (v := 220) hT rfl (hR 218 2 rfl) ?_
          refine ok_gR (v := 222) hT rfl (hR 218 4 rfl) ?_
          refine ok_aIn rfl (by first | omega | decide | (simp only [Int32.le_iff_toInt_le, Int32.lt_iff_toInt_lt, ti_add, ti_sub, ti_mul, Int32.reduceToInt] at *; omega)) (by first | omega | decide | (simp only [Int32.le_iff_toInt_le, Int32.lt_iff_toInt_lt, ti_add, ti_sub, ti_mul, Int32.reduceToInt] at *; omega)) (fun v13 ev13 => ?_)
          have zv13 : v13 = 0 ∨ v13 = 1 := by rw [ev13]; exact hB 222 rfl _
          refine ok_s16 hT rfl (by decide) (by first | omega | decide | (simp only [Int32.le_iff_toInt_le, Int32.lt_iff_toInt_lt, ti_add, ti_sub, ti_mul, Int32.reduceToInt] at *; omega)) (by first | omega | decide | (simp only [Int32.le_iff_toInt_le, Int32.lt_iff_toInt_lt, ti_add, ti_sub, ti_mul, Int32.reduceToInt] at *; omega)) (fun σ14 eσ14 hOσ14 hT => ?_)
          have hK : KP (σ14.1 219) (σ0.1 219) (σ0.1 221) 0 (43 * x1.toInt.toNat) 43 := by rw [hOσ14.2 219 (by decide)]; exact hK
          have hB : ZB σ14.1 := ZB_s eσ14 hB
          exact ih60_9 (x2_9 + 1, σ14) (show Tr [219, 220] σ0 σ14 ∧ (0 ≤ (x2_9 + 1).toInt ∧ KP (σ14.1 219) (σ0.1 219) (σ0.1 221) 0 (43 * x1.toInt.toNat) 43) ∧ (ZB σ14.1) from ⟨hT, (by exact ⟨by first | omega | (simp only [Int32.le_iff_toInt_le, Int32.lt_iff_toInt_lt, ti_add, ti_sub, ti_mul, Int32.reduceToInt] at *; omega), hK⟩), hB⟩) (show (10240 - (x2_9 + 1).toInt).toNat < (10240 - x2_9.toInt).toNat from (by first | omega | decide | (simp only [Int32.le_iff_toInt_le, Int32.lt_iff_toInt_lt, ti_add, ti_sub, ti_mul, Int32.reduceToInt] at *; omega)))
      · have m9 := ix43 (x := x1) (y := x2_7) (by first | omega | (simp only [Int32.le_iff_toInt_le, Int32.lt_iff_toInt_lt, ti_add, ti_sub, ti_mul, Int32.reduceToInt] at *; omega)) (by first | omega | (simp only [Int32.le_iff_toInt_le, Int32.lt_iff_toInt_lt, ti_add, ti_sub, ti_mul, Int32.reduceToInt] at *; omega)) (by first | omega | (simp only [Int32.le_iff_toInt_le, Int32.lt_iff_toInt_lt, ti_add, ti_sub, ti_mul, Int32.reduceToInt] at *; omega)) (by first | omega | (simp only [Int32.le_iff_toInt_le, Int32.lt_iff_toInt_lt, ti_add, ti_sub, ti_mul, Int32.reduceToInt] at *; omega))
        have hx : (x2_7 + 1).toInt.toNat = x2_7.toInt.toNat + 1 := by first | omega | (simp only [Int32.le_iff_toInt_le, Int32.lt_iff_toInt_lt, ti_add, ti_sub, ti_mul, Int32.reduceToInt] at *; omega)
        have h43 : x2_7.toInt.toNat < 43 := by first | omega | (simp only [Int32.le_iff_toInt_le, Int32.lt_iff_toInt_lt, ti_add, ti_sub, ti_mul, Int32.reduceToInt] at *; omega)
        refine ok_gR (v := 219) hT rfl (hR 218 1 rfl) ?_
        refine ok_gR (v := 221) hT rfl (hR 218 3 rfl) ?_
        refine ok_aIn rfl (by first | omega | decide | (simp only [Int32.le_iff_toInt_le, Int32.lt_iff_toInt_lt, ti_add, ti_sub, ti_mul, Int32.reduceToInt] at *; omega)) (by first | omega | decide | (simp only [Int32.le_iff_toInt_le, Int32.lt_iff_toInt_lt, ti_add, ti_sub, ti_mul, Int32.reduceToInt] at *; omega)) (fun v17 ev17 => ?_)
        have ev38 : v17 = σ0.1 221 (Int32.toNatClampNeg ((43 * x1) + x2_7)) := by rw [ev17, hT.2 221 (by decide)]
        refine ok_s14 hT rfl (by decide) (by first | omega | decide | (simp only [Int32.le_iff_toInt_le, Int32.lt_iff_toInt_lt, ti_add, ti_sub, ti_mul, Int32.reduceToInt] at *; omega)) (by first | omega | decide | (simp only [Int32.le_iff_toInt_le, Int32.lt_iff_toInt_lt, ti_add, ti_sub, ti_mul, Int32.reduceToInt] at *; omega)) (fun σ18 eσ18 hOσ18 hT => ?_)
        have hK := KP_s eσ18 (Nat.zero_add _).symm (by rw [ev38, m9.2.2]; rfl) h43 hK
        have hB : ZB σ18.1 := ZB.tr hOσ18 (by decide) hB
        exact ih29_7 (x2_7 + 1, σ18) (show Tr [219, 220] σ0 σ18 ∧ ((0 ≤ (x2_7 + 1).toInt ∧ (x2_7 + 1).toInt ≤ 43) ∧ KP (σ18.1 219) (σ0.1 219) (σ0.1 221) 0 (43 * x1.toInt.toNat) (x2_7 + 1).toInt.toNat) ∧ (ZB σ18.1) from ⟨hT, (by exact ⟨⟨by first | omega | (simp only [Int32.le_iff_toInt_le, Int32.lt_iff_toInt_lt, ti_add, ti_sub, ti_mul, Int32.reduceToInt] at *; omega), by first | omega | (simp only [Int32.le_iff_toInt_le, Int32.lt_iff_toInt_lt, ti_add, ti_sub, ti_mul, Int32.reduceToInt] at *; omega)⟩, by rw [hx]; exact hK⟩), hB⟩) (show (43 - (x2_7 + 1).toInt).toNat < (43 - x2_7.toInt).toNat from (by first | omega | decide | (simp only [Int32.le_iff_toInt_le, Int32.lt_iff_toInt_lt, ti_add, ti_sub, ti_mul, Int32.reduceToInt] at *; omega)))
end Zq7_1
section Zq7_2
theorem sp_s {x b : Int32} {n : Nat} (h0 : 0 ≤ x.toInt) (h1 : x.toInt < ((2 ^ n : Nat) : Int)) (hn : n ≤ 9) (hb : 0 ≤ b.toInt ∧ b.toInt ≤ 1) : 0 ≤ (2 * x + b).toInt ∧ (2 * x + b).toInt < ((2 ^ (n + 1) : Nat) : Int) := by
  have hp : 2 ^ n ≤ 512 := Nat.pow_le_pow_right (show 0 < 2 by decide) hn
  have hs : 2 ^ (n + 1) = 2 * 2 ^ n := by rw [Nat.pow_succ]; omega
  have m : (2 * x).toInt = 2 * x.toInt := by rw [ti_mul]; simp only [Int32.reduceToInt]; omega
  rw [ti_add, m, hs]
  omega
theorem and1 (v : Int32) : 0 ≤ (v &&& 1).toInt ∧ (v &&& 1).toInt ≤ 1 := by
  have h := ti_and0 v (m := 1) (by decide)
  rw [show Int32.ofNat 1 = 1 from rfl] at h
  omega

set_option maxHeartbeats 4000000 in
set_option maxRecDepth 100000 in
theorem s_X12_takesOrder {N : Nat} (hN : 1048576 ≤ N)  {σ0 : zS}  (hR : RF σ0.2.2) (hM : MW (σ0.1 219) 0) : Ok (f_X12_takesOrder N 218 σ0) (fun r => Tr [235] σ0 r.2 ∧ (True)) := by
  have hT : Tr [235] σ0 σ0 := Tr.rf
  have hn := hM.1
  have he : 0 ≤ (σ0.1 219 2).toInt ∧ (σ0.1 219 2).toInt ≤ 10 := hM.2.1
  have qm := mny_b hn.1 hn.2
  rw [f_X12_takesOrder.eq_1]
  refine ok_lp (fun t : Int32 × zS => Tr [235] σ0 (t.2) ∧ (0 ≤ (t.1).toInt)) (fun t : Int32 × zS => (10 - (t.1).toInt).toNat) (fun again1 t hI ih2_1 => ?_) N _ (show Tr [235] σ0 σ0 ∧ (0 ≤ (0 : Int32).toInt) from ⟨hT, (by first | omega | decide | (simp only [Int32.le_iff_toInt_le, Int32.lt_iff_toInt_lt, ti_add, ti_sub, ti_mul, Int32.reduceToInt] at *; omega))⟩) (show (10 - (0 : Int32).toInt).toNat < N from (by first | omega | decide | (simp only [Int32.le_iff_toInt_le, Int32.lt_iff_toInt_lt, ti_add, ti_sub, ti_mul, Int32.reduceToInt] at *; omega)))
  obtain ⟨x1_1, σ1⟩ := t
  have hI : Tr [235] σ0 σ1 ∧ (0 ≤ x1_1.toInt) := hI
  obtain ⟨hT, hI1⟩ := hI
  rw [F_X12_takesOrder_2.eq_1]
  refine ok_if (fun hc2 => ?_) (fun hc2 => ?_)
  · exact ok_some ⟨hT, trivial⟩
  · refine ok_gR (v := 235) hT rfl (hR 218 30 rfl) ?_
    refine ok_gR (v := 219) hT rfl (hR 218 1 rfl) ?_
    refine ok_aIn rfl (by first | omega | decide | (simp only [Int32.le_iff_toInt_le, Int32.lt_iff_toInt_lt, ti_add, ti_sub, ti_mul, Int32.reduceToInt] at *; omega)) (by first | omega | decide | (simp only [Int32.le_iff_toInt_le, Int32.lt_iff_toInt_lt, ti_add, ti_sub, ti_mul, Int32.reduceToInt] at *; omega)) (fun v5 ev5 => ?_)
    refine ok_s14 hT rfl (by decide) (by first | omega | decide | (simp only [Int32.le_iff_toInt_le, Int32.lt_iff_toInt_lt, ti_add, ti_sub, ti_mul, Int32.reduceToInt] at *; omega)) (by first | omega | decide | (simp only [Int32.le_iff_toInt_le, Int32.lt_iff_toInt_lt, ti_add, ti_sub, ti_mul, Int32.reduceToInt] at *; omega)) (fun σ6 eσ6 hOσ6 hT => ?_)
    exact ih2_1 (x1_1 + 1, σ6) (show Tr [235] σ0 σ6 ∧ (0 ≤ (x1_1 + 1).toInt) from ⟨hT, (by first | omega | decide | (simp only [Int32.le_iff_toInt_le, Int32.lt_iff_toInt_lt, ti_add, ti_sub, ti_mul, Int32.reduceToInt] at *; omega))⟩) (show (10 - (x1_1 + 1).toInt).toNat < (10 - x1_1.toInt).toNat from (by first | omega | decide | (simp only [Int32.le_iff_toInt_le, Int32.lt_iff_toInt_lt, ti_add, ti_sub, ti_mul, Int32.reduceToInt] at *; omega)))

set_option maxHeartbeats 4000000 in
set_option maxRecDepth 100000 in
theorem s_X12_spotOf {N : Nat} (hN : 1048576 ≤ N) {x1 : Int32} {σ0 : zS}  (hR : RF σ0.2.2) (hM : MW (σ0.1 219) 0) : Ok (f_X12_spotOf N 218 x1 σ0) (fun r => Tr [] σ0 r.2 ∧ (0 ≤ r.1.toInt ∧ r.1.toInt ≤ 1023)) := by
  have hT : Tr [] σ0 σ0 := Tr.rf
  have hn := hM.1
  have he : 0 ≤ (σ0.1 219 2).toInt ∧ (σ0.1 219 2).toInt ≤ 10 := hM.2.1
  have qm := mny_b hn.1 hn.2
  rw [f_X12_spotOf.eq_1]
  refine ok_lp (fun t : Int32 × Int32 × zS => Tr [] σ0 (t.2.2) ∧ ((0 ≤ (t.2.1).toInt ∧ (t.2.1).toInt ≤ (σ0.1 219 0).toInt) ∧ 0 ≤ (t.1).toInt ∧ (t.1).toInt < ((2 ^ (t.2.1).toInt.toNat : Nat) : Int))) (fun t : Int32 × Int32 × zS => (10 - (t.2.1).toInt).toNat) (fun again1 t hI ih4_1 => ?_) N _ (show Tr [] σ0 σ0 ∧ ((0 ≤ (0 : Int32).toInt ∧ (0 : Int32).toInt ≤ (σ0.1 219 0).toInt) ∧ 0 ≤ (0 : Int32).toInt ∧ (0 : Int32).toInt < ((2 ^ (0 : Int32).toInt.toNat : Nat) : Int)) from ⟨hT, (by exact ⟨⟨by decide, by simp only [Int32.reduceToInt]; omega⟩, by decide, by decide⟩)⟩) (show (10 - (0 : Int32).toInt).toNat < N from (by first | omega | decide | (simp only [Int32.le_iff_toInt_le, Int32.lt_iff_toInt_lt, ti_add, ti_sub, ti_mul, Int32.reduceToInt] at *; omega)))
  obtain ⟨x2_1, x3_1, σ1⟩ := t
  have hI : Tr [] σ0 σ1 ∧ ((0 ≤ x3_1.toInt ∧ x3_1.toInt ≤ (σ0.1 219 0).toInt) ∧ 0 ≤ x2_1.toInt ∧ x2_1.toInt < ((2 ^ x3_1.toInt.toNat : Nat) : Int)) := hI
  obtain ⟨hT, hI1⟩ := hI
  rw [F_X12_spotOf_4.eq_1]
  have hI3 := hI1
  have hp9 := Nat.pow_le_pow_right (n := 2) (show 0 < 2 by decide) (show x3_1.toInt.toNat ≤ 10 by omega)
  refine ok_gR (v := 219) hT rfl (hR 218 1 rfl) ?_
  refine ok_aIc (j := 0) hT rfl (by decide) rfl (by decide) (by decide) ?_
  refine ok_if (fun hc4 => ?_) (fun hc4 => ?_)
  · exact ok_some ⟨hT, (show 0 ≤ x2_1.toInt ∧ x2_1.toInt ≤ 1023 from by first | omega | decide | (simp only [Int32.le_iff_toInt_le, Int32.lt_iff_toInt_lt, ti_add, ti_sub, ti_mul, Int32.reduceToInt] at *; omega))⟩
  · refine ok_gR (v := 235) hT rfl (hR 218 30 rfl) ?_
    refine ok_aIn rfl (by first | omega | decide | (simp only [Int32.le_iff_toInt_le, Int32.lt_iff_toInt_lt, ti_add, ti_sub, ti_mul, Int32.reduceToInt] at *; omega)) (by first | omega | decide | (simp only [Int32.le_iff_toInt_le, Int32.lt_iff_toInt_lt, ti_add, ti_sub, ti_mul, Int32.reduceToInt] at *; omega)) (fun v6 ev6 => ?_)
    have s9 : 0 ≤ ((2 * x2_1) + (((x1 : Int32) >>> (v6 &&& 31)) &&& 1)).toInt ∧ ((2 * x2_1) + (((x1 : Int32) >>> (v6 &&& 31)) &&& 1)).toInt < ((2 ^ (x3_1.toInt.toNat + 1) : Nat) : Int) := sp_s (by omega) (by omega) (by first | omega | (simp only [Int32.le_iff_toInt_le, Int32.lt_iff_toInt_lt, ti_add, ti_sub, ti_mul, Int32.reduceToInt] at *; omega)) (and1 _)
    have s8 : (x3_1 + 1).toInt.toNat = x3_1.toInt.toNat + 1 := by first | omega | (simp only [Int32.le_iff_toInt_le, Int32.lt_iff_toInt_lt, ti_add, ti_sub, ti_mul, Int32.reduceToInt] at *; omega)
    exact ih4_1 ((2 * x2_1) + (((x1 : Int32) >>> (v6 &&& 31)) &&& 1), x3_1 + 1, σ1) (show Tr [] σ0 σ1 ∧ ((0 ≤ (x3_1 + 1).toInt ∧ (x3_1 + 1).toInt ≤ (σ0.1 219 0).toInt) ∧ 0 ≤ ((2 * x2_1) + (((x1 : Int32) >>> (v6 &&& 31)) &&& 1)).toInt ∧ ((2 * x2_1) + (((x1 : Int32) >>> (v6 &&& 31)) &&& 1)).toInt < ((2 ^ (x3_1 + 1).toInt.toNat : Nat) : Int)) from ⟨hT, (by exact ⟨⟨by first | omega | (simp only [Int32.le_iff_toInt_le, Int32.lt_iff_toInt_lt, ti_add, ti_sub, ti_mul, Int32.reduceToInt] at *; omega), by first | omega | (simp only [Int32.le_iff_toInt_le, Int32.lt_iff_toInt_lt, ti_add, ti_sub, ti_mul, Int32.reduceToInt] at *; omega)⟩, by rw [s8]; exact s9⟩)⟩) (show (10 - (x3_1 + 1).toInt).toNat < (10 - x3_1.toInt).toNat from (by first | omega | decide | (simp only [Int32.le_iff_toInt_le, Int32.lt_iff_toInt_lt, ti_add, ti_sub, ti_mul, Int32.reduceToInt] at *; omega)))

set_option maxHeartbeats 4000000 in
set_option maxRecDepth 100000 in
theorem s_X12_laysOut {N : Nat} (hN : 1048576 ≤ N) {x1 : Int32} {σ0 : zS}  (hR : RF σ0.2.2) (hM : MW (σ0.1 219) 0) (hB : ZB σ0.1) (hp : 0 ≤ x1.toInt ∧ x1.toInt ≤ 9) : Ok (f_X12_laysOut N 218 x1 σ0) (fun r => Tr [234] σ0 r.2 ∧ (ZB r.2.1)) := by
  have hT : Tr [234] σ0 σ0 := Tr.rf
  have hn := hM.1
  have he : 0 ≤ (σ0.1 219 2).toInt ∧ (σ0.1 219 2).toInt ≤ 10 := hM.2.1
  have qm := mny_b hn.1 hn.2
  rw [f_X12_laysOut.eq_1]
  refine ok_lp (fun t : Int32 × zS => Tr [234] σ0 (t.2) ∧ (0 ≤ (t.1).toInt) ∧ (ZB (t.2).1)) (fun t : Int32 × zS => (1024 - (t.1).toInt).toNat) (fun again1 t hI ih2_1 => ?_) N _ (show Tr [234] σ0 σ0 ∧ (0 ≤ (0 : Int32).toInt) ∧ (ZB σ0.1) from ⟨hT, (by first | omega | decide | (simp only [Int32.le_iff_toInt_le, Int32.lt_iff_toInt_lt, ti_add, ti_sub, ti_mul, Int32.reduceToInt] at *; omega)), hB⟩) (show (1024 - (0 : Int32).toInt).toNat < N from (by first | omega | decide | (simp only [Int32.le_iff_toInt_le, Int32.lt_iff_toInt_lt, ti_add, ti_sub, ti_mul, Int32.reduceToInt] at *; omega)))
  obtain ⟨x2_1, σ1⟩ := t
  have hI : Tr [234] σ0 σ1 ∧ (0 ≤ x2_1.toInt) ∧ (ZB σ1.1) := hI
  obtain ⟨hT, hI1, hB⟩ := hI
  rw [F_X12_laysOut_2.eq_1]
  refine ok_gC rfl ?_
  have hTc := hT
  refine ok_zbT (Q := fun V σ => V = mny (σ1.1 219 0)) hT (s_X12_many hN (hR.tr hT) (by first | exact hM | (rw [hT.2 219 (by decide)]; exact hM))) (fun _ h9 => absurd h9 List.not_mem_nil) (fun v2 σ3 hOσ3 hT hqv2 => ?_)
  have hqv2 : v2 = mny (σ1.1 219 0) := hqv2
  rw [hTc.2 219 (by decide)] at hqv2
  obtain rfl : v2 = (mny (σ0.1 219 0)) := hqv2
  have hB : ZB σ3.1 := ZB.tr hOσ3 (by decide) hB
  refine ok_if (fun hc4 => ?_) (fun hc4 => ?_)
  · exact ok_some ⟨hT, (show ZB σ3.1 from by exact hB)⟩
  · refine ok_gR (v := 234) hT rfl (hR 218 29 rfl) ?_
    refine ok_gC rfl ?_
    refine ok_zbT (Q := fun V σ => 0 ≤ V.toInt ∧ V.toInt ≤ 1023) hT (s_X12_spotOf hN (hR.tr hT) (by first | exact hM | (rw [hT.2 219 (by decide)]; exact hM))) (fun _ h9 => absurd h9 List.not_mem_nil) (fun v6 σ7 hOσ7 hT hqv6 => ?_)
    have hqv6 : 0 ≤ v6.toInt ∧ v6.toInt ≤ 1023 := hqv6
    have hB : ZB σ7.1 := ZB.tr hOσ7 (by decide) hB
    refine ok_gC rfl ?_
    refine ok_zbT (Q := fun V σ => V = 0 ∨ V = 1) hT (s_X12_of hN (hR.tr hT) (by first | exact hM | (rw [hT.2 219 (by decide)]; exact hM)) (hB) (by first | omega | decide | (simp only [Int32.le_iff_toInt_le, Int32.lt_iff_toInt_lt, ti_add, ti_sub, ti_mul, Int32.reduceToInt] at *; omega)) (by first | omega | decide | (simp only [Int32.le_iff_toInt_le, Int32.lt_iff_toInt_lt, ti_add, ti_sub, ti_mul, Int32.reduceToInt] at *; omega))) (fun _ h9 => absurd h9 List.not_mem_nil) (fun v8 σ9 hOσ9 hT hqv8 => ?_)
    have hqv8 : v8 = 0 ∨ v8 = 1 := hqv8
    have hB : ZB σ9.1 := ZB.tr hOσ9 (by decide) hB
    refine ok_s16 hT rfl (by decide) (by first | omega | decide | (simp only [Int32.le_iff_toInt_le, Int32.lt_iff_toInt_lt, ti_add, ti_sub, ti_mul, Int32.reduceToInt] at *; omega)) (by first | omega | decide | (simp only [Int32.le_iff_toInt_le, Int32.lt_iff_toInt_lt, ti_add, ti_sub, ti_mul, Int32.reduceToInt] at *; omega)) (fun σ10 eσ10 hOσ10 hT => ?_)
    have hB : ZB σ10.1 := by first | exact HQ | exact ZB_s eσ10 hB
    exact ih2_1 (x2_1 + 1, σ10) (show Tr [234] σ0 σ10 ∧ (0 ≤ (x2_1 + 1).toInt) ∧ (ZB σ10.1) from ⟨hT, (by first | omega | decide | (simp only [Int32.le_iff_toInt_le, Int32.lt_iff_toInt_lt, ti_add, ti_sub, ti_mul, Int32.reduceToInt] at *; omega)), hB⟩) (show (1024 - (x2_1 + 1).toInt).toNat < (1024 - x2_1.toInt).toNat from (by first | omega | decide | (simp only [Int32.le_iff_toInt_le, Int32.lt_iff_toInt_lt, ti_add, ti_sub, ti_mul, Int32.reduceToInt] at *; omega)))

theorem len_lt : ∀ n, n < 11 → ∀ k, k < n → 2 ≤ (mny (nI n) >>> (nI k &&& 31)).toInt ∧ (mny (nI n) >>> (nI k &&& 31)).toInt ≤ 1024 ∧ 0 ≤ ((mny (nI n) >>> (nI k &&& 31)) / 2).toInt ∧ (mny (nI n)).toInt % (mny (nI n) >>> (nI k &&& 31)).toInt = 0 := by decide +kernel
theorem len_ok {n k : Int32} (h0 : 0 ≤ n.toInt) (h1 : n.toInt ≤ 10) (h2 : 0 ≤ k.toInt) (h3 : k.toInt < n.toInt) : (2 ≤ (mny n >>> (k &&& 31)).toInt ∧ (mny n >>> (k &&& 31)).toInt ≤ 1024 ∧ 0 ≤ ((mny n >>> (k &&& 31)) / 2).toInt) ∧ (mny n >>> (k &&& 31)).toInt ∣ (mny n).toInt := by
  obtain ⟨a, ha, rfl⟩ := znI (m := 11) h0 (by omega)
  obtain ⟨b, hb, rfl⟩ := znI (m := 11) h2 (by omega)
  rw [nI_toInt (by omega), nI_toInt (by omega)] at h3
  have q := len_lt a ha b (by omega)
  exact ⟨⟨q.1, q.2.1, q.2.2.1⟩, Int.dvd_of_emod_eq_zero q.2.2.2⟩
theorem dv_le {a b l : Int} (h1 : l ∣ a) (h2 : l ∣ b) (h : a < b) : a + l ≤ b := by
  have := Int.le_of_dvd (show 0 < b - a by omega) (Int.dvd_sub h2 h1)
  omega
theorem kn_ix {l x y : Int32} {u : Int} (hl : 0 ≤ l.toInt) (hx : 0 ≤ x.toInt) (hu : x.toInt < u) (hb : l.toInt * u ≤ 10240) (hy : 0 ≤ y.toInt) (hy2 : y.toInt < l.toInt) : 0 ≤ (l * x + y).toInt ∧ (l * x + y).toInt < 10240 := by
  have p : l.toInt * (x.toInt + 1) ≤ l.toInt * u := Int.mul_le_mul_of_nonneg_left (by omega) hl
  have p0 : 0 ≤ l.toInt * x.toInt := Int.mul_nonneg hl hx
  rw [Int.mul_add, Int.mul_one] at p
  rw [ti_add, ti_mul]
  omega
theorem u_le {l u : Int} (hl : 1 ≤ l) (hu : 0 ≤ u) : u ≤ l * u := by
  have := Int.mul_le_mul_of_nonneg_right hl hu
  omega
theorem ad_s {l u : Int32} {b x : Int} (hl : 1 ≤ l.toInt) (hu : 0 ≤ u.toInt) (h : l.toInt * u.toInt ≤ b + x) (hb : b + x ≤ 10240) : 0 ≤ (u + 1).toInt ∧ l.toInt * (u + 1).toInt ≤ b + (x + l.toInt) := by
  have q := u_le hl hu
  have e : (u + 1).toInt = u.toInt + 1 := by rw [ti_add]; simp only [Int32.reduceToInt]; omega
  rw [e, Int.mul_add, Int.mul_one]; omega

set_option maxHeartbeats 4000000 in
set_option maxRecDepth 100000 in
theorem s_X12_isKnown {N : Nat} (hN : 1048576 ≤ N) {x1 : Int32} {x2 : Int32} {σ0 : zS}  (hR : RF σ0.2.2) (hB : ZB σ0.1) (h1 : (0 ≤ x1.toInt ∧ x1.toInt + x2.toInt ≤ 1024) ∧ 1 ≤ x2.toInt) (hU : 0 ≤ (σ0.1 218 32).toInt ∧ x2.toInt * (σ0.1 218 32).toInt ≤ 10240) : Ok (f_X12_isKnown N 218 x1 x2 σ0) (fun r => Tr [] σ0 r.2 ∧ (r.1 = 0 ∨ r.1 = 1)) := by
  have hT : Tr [] σ0 σ0 := Tr.rf
  have hul := u_le h1.2 hU.1
  rw [f_X12_isKnown.eq_1]
  refine ok_lp (fun t : Int32 × zS => Tr [] σ0 (t.2) ∧ (0 ≤ (t.1).toInt) ∧ (ZB (t.2).1)) (fun t : Int32 × zS => ((σ0.1 218 32).toInt - (t.1).toInt).toNat) (fun again1 t hI ih2_1 => ?_) N _ (show Tr [] σ0 σ0 ∧ (0 ≤ (0 : Int32).toInt) ∧ (ZB σ0.1) from ⟨hT, (by first | omega | decide | (simp only [Int32.le_iff_toInt_le, Int32.lt_iff_toInt_lt, ti_add, ti_sub, ti_mul, Int32.reduceToInt] at *; omega)), hB⟩) (show ((σ0.1 218 32).toInt - (0 : Int32).toInt).toNat < N from (by first | omega | decide | (simp only [Int32.le_iff_toInt_le, Int32.lt_iff_toInt_lt, ti_add, ti_sub, ti_mul, Int32.reduceToInt] at *; omega)))
  obtain ⟨x3_1, σ1⟩ := t
  have hI : Tr [] σ0 σ1 ∧ (0 ≤ x3_1.toInt) ∧ (ZB σ1.1) := hI
  obtain ⟨hT, hI1, hB⟩ := hI
  rw [F_X12_isKnown_2.eq_1]
  refine ok_gI0 hT rfl (by decide) ?_
  refine ok_if (fun hc3 => ?_) (fun hc3 => ?_)
  · exact ok_rZ (Or.inl rfl) ⟨hT, (show (0 : Int32) = 0 ∨ (0 : Int32) = 1 from by first | exact Or.inl rfl | exact Or.inr rfl)⟩
  · refine ok_lp (fun t : Int32 × Int32 × zS => Tr [] σ0 (t.2.2) ∧ (0 ≤ (t.2.1).toInt) ∧ (ZB (t.2.2).1)) (fun t : Int32 × Int32 × zS => (x2.toInt - (t.2.1).toInt).toNat) (fun again4 t hI ih16_4 => ?_) N _ (show Tr [] σ0 σ1 ∧ (0 ≤ (0 : Int32).toInt) ∧ (ZB σ1.1) from ⟨hT, (by first | omega | decide | (simp only [Int32.le_iff_toInt_le, Int32.lt_iff_toInt_lt, ti_add, ti_sub, ti_mul, Int32.reduceToInt] at *; omega)), hB⟩) (show (x2.toInt - (0 : Int32).toInt).toNat < N from (by first | omega | decide | (simp only [Int32.le_iff_toInt_le, Int32.lt_iff_toInt_lt, ti_add, ti_sub, ti_mul, Int32.reduceToInt] at *; omega)))
    obtain ⟨x4_4, x5_4, σ4⟩ := t
    have hI : Tr [] σ0 σ4 ∧ (0 ≤ x5_4.toInt) ∧ (ZB σ4.1) := hI
    obtain ⟨hT, hI4, hB⟩ := hI
    rw [F_X12_isKnown_16.eq_1]
    refine ok_if (fun hc5 => ?_) (fun hc5 => ?_)
    · rw [J_X12_isKnown_63.eq_1]
      refine ok_if (fun hc6 => ?_) (fun hc6 => ?_)
      · exact ih2_1 (x3_1 + 1, σ4) (show Tr [] σ0 σ4 ∧ (0 ≤ (x3_1 + 1).toInt) ∧ (ZB σ4.1) from ⟨hT, (by first | omega | decide | (simp only [Int32.le_iff_toInt_le, Int32.lt_iff_toInt_lt, ti_add, ti_sub, ti_mul, Int32.reduceToInt] at *; omega)), hB⟩) (show ((σ0.1 218 32).toInt - (x3_1 + 1).toInt).toNat < ((σ0.1 218 32).toInt - x3_1.toInt).toNat from (by first | omega | decide | (simp only [Int32.le_iff_toInt_le, Int32.lt_iff_toInt_lt, ti_add, ti_sub, ti_mul, Int32.reduceToInt] at *; omega)))
      · exact ok_rZ (Or.inr rfl) ⟨hT, (show (1 : Int32) = 0 ∨ (1 : Int32) = 1 from by first | exact Or.inl rfl | exact Or.inr rfl)⟩
    · refine ok_if (fun hc7 => ?_) (fun hc7 => ?_)
      · rw [J_X12_isKnown_63.eq_1]
        refine ok_if (fun hc8 => ?_) (fun hc8 => ?_)
        · exact ih2_1 (x3_1 + 1, σ4) (show Tr [] σ0 σ4 ∧ (0 ≤ (x3_1 + 1).toInt) ∧ (ZB σ4.1) from ⟨hT, (by first | omega | decide | (simp only [Int32.le_iff_toInt_le, Int32.lt_iff_toInt_lt, ti_add, ti_sub, ti_mul, Int32.reduceToInt] at *; omega)), hB⟩) (show ((σ0.1 218 32).toInt - (x3_1 + 1).toInt).toNat < ((σ0.1 218 32).toInt - x3_1.toInt).toNat from (by first | omega | decide | (simp only [Int32.le_iff_toInt_le, Int32.lt_iff_toInt_lt, ti_add, ti_sub, ti_mul, Int32.reduceToInt] at *; omega)))
        · exact ok_rZ (Or.inr rfl) ⟨hT, (show (1 : Int32) = 0 ∨ (1 : Int32) = 1 from by first | exact Or.inl rfl | exact Or.inr rfl)⟩
      · have m9 := kn_ix (l := x2) (x := x3_1) (y := x5_4) (u := (σ0.1 218 32).toInt) (by omega) (by omega) (by first | omega | (simp only [Int32.le_iff_toInt_le, Int32.lt_iff_toInt_lt, ti_add, ti_sub, ti_mul, Int32.reduceToInt] at *; omega)) hU.2 (by omega) (by first | omega | (simp only [Int32.le_iff_toInt_le, Int32.lt_iff_toInt_lt, ti_add, ti_sub, ti_mul, Int32.reduceToInt] at *; omega))
        refine ok_gR (v := 236) hT rfl (hR 218 31 rfl) ?_
        refine ok_aIn rfl (by first | omega | decide | (simp only [Int32.le_iff_toInt_le, Int32.lt_iff_toInt_lt, ti_add, ti_sub, ti_mul, Int32.reduceToInt] at *; omega)) (by first | omega | decide | (simp only [Int32.le_iff_toInt_le, Int32.lt_iff_toInt_lt, ti_add, ti_sub, ti_mul, Int32.reduceToInt] at *; omega)) (fun v10 ev10 => ?_)
        have zv10 : v10 = 0 ∨ v10 = 1 := by rw [ev10]; exact hB 236 rfl _
        refine ok_gR (v := 234) hT rfl (hR 218 29 rfl) ?_
        refine ok_aIn rfl (by first | omega | decide | (simp only [Int32.le_iff_toInt_le, Int32.lt_iff_toInt_lt, ti_add, ti_sub, ti_mul, Int32.reduceToInt] at *; omega)) (by first | omega | decide | (simp only [Int32.le_iff_toInt_le, Int32.lt_iff_toInt_lt, ti_add, ti_sub, ti_mul, Int32.reduceToInt] at *; omega)) (fun v12 ev12 => ?_)
        have zv12 : v12 = 0 ∨ v12 = 1 := by rw [ev12]; exact hB 234 rfl _
        refine ok_if (fun hc13 => ?_) (fun hc13 => ?_)
        · exact ih16_4 (1, x5_4 + 1, σ4) (show Tr [] σ0 σ4 ∧ (0 ≤ (x5_4 + 1).toInt) ∧ (ZB σ4.1) from ⟨hT, (by first | omega | decide | (simp only [Int32.le_iff_toInt_le, Int32.lt_iff_toInt_lt, ti_add, ti_sub, ti_mul, Int32.reduceToInt] at *; omega)), hB⟩) (show (x2.toInt - (x5_4 + 1).toInt).toNat < (x2.toInt - x5_4.toInt).toNat from (by first | omega | decide | (simp only [Int32.le_iff_toInt_le, Int32.lt_iff_toInt_lt, ti_add, ti_sub, ti_mul, Int32.reduceToInt] at *; omega)))
        · exact ih16_4 (0, x5_4 + 1, σ4) (show Tr [] σ0 σ4 ∧ (0 ≤ (x5_4 + 1).toInt) ∧ (ZB σ4.1) from ⟨hT, (by first | omega | decide | (simp only [Int32.le_iff_toInt_le, Int32.lt_iff_toInt_lt, ti_add, ti_sub, ti_mul, Int32.reduceToInt] at *; omega)), hB⟩) (show (x2.toInt - (x5_4 + 1).toInt).toNat < (x2.toInt - x5_4.toInt).toNat from (by first | omega | decide | (simp only [Int32.le_iff_toInt_le, Int32.lt_iff_toInt_lt, ti_add, ti_sub, ti_mul, Int32.reduceToInt] at *; omega)))

set_option maxHeartbeats 4000000 in
set_option maxRecDepth 100000 in
theorem s_X12_adds {N : Nat} (hN : 1048576 ≤ N) {x1 : Int32} {σ0 : zS}  (hR : RF σ0.2.2) (hM : MW (σ0.1 219) 0) (hB : ZB σ0.1) (hx : 0 ≤ x1.toInt ∧ x1.toInt < (σ0.1 219 0).toInt) (hU0 : 0 ≤ (σ0.1 218 32).toInt ∧ ((mny (σ0.1 219 0)) >>> (x1 &&& 31)).toInt * (σ0.1 218 32).toInt ≤ 9216) : Ok (f_X12_adds N 218 x1 σ0) (fun r => Tr [218, 236] σ0 r.2 ∧ ((ZB r.2.1 ∧ r.2.1 218 7 = σ0.1 218 7) ∧ 0 ≤ (r.2.1 218 32).toInt ∧ ((mny (σ0.1 219 0)) >>> (x1 &&& 31)).toInt * (r.2.1 218 32).toInt ≤ ((mny (σ0.1 219 0)) >>> (x1 &&& 31)).toInt * (σ0.1 218 32).toInt + 1024)) := by
  have hT : Tr [218, 236] σ0 σ0 := Tr.rf
  have hn := hM.1
  have he : 0 ≤ (σ0.1 219 2).toInt ∧ (σ0.1 219 2).toInt ≤ 10 := hM.2.1
  have qm := mny_b hn.1 hn.2
  have ht : σ0.1 218 7 = σ0.1 218 7 := rfl
  have hl := len_ok hn.1 hn.2 hx.1 hx.2
  have hd0 := hl.2
  have hl := hl.1
  rw [f_X12_adds.eq_1]
  refine ok_gC rfl ?_
  refine ok_zbT (Q := fun V σ => V = mny (σ0.1 219 0)) hT (s_X12_many hN (hR.tr hT) (by first | exact hM | (rw [hT.2 219 (by decide)]; exact hM))) (fun _ h9 => absurd h9 List.not_mem_nil) (fun v1 σ2 hOσ2 hT hqv1 => ?_)
  have hqv1 : v1 = mny (σ0.1 219 0) := hqv1
  obtain rfl : v1 = (mny (σ0.1 219 0)) := hqv1
  have hB : ZB σ2.1 := ZB.tr hOσ2 (by decide) hB
  have ht : σ2.1 218 7 = σ0.1 218 7 := by rw [hOσ2.2 218 (by decide)] <;> exact ht
  refine ok_lp (fun t : Int32 × zS => Tr [218, 236] σ0 (t.2) ∧ (((0 ≤ (t.1).toInt ∧ (t.1).toInt ≤ 1024) ∧ (((mny (σ0.1 219 0)) : Int32) >>> (x1 &&& 31)).toInt ∣ (t.1).toInt) ∧ 0 ≤ ((t.2).1 218 32).toInt ∧ ((mny (σ0.1 219 0)) >>> (x1 &&& 31)).toInt * ((t.2).1 218 32).toInt ≤ ((mny (σ0.1 219 0)) >>> (x1 &&& 31)).toInt * (σ0.1 218 32).toInt + (t.1).toInt) ∧ (ZB (t.2).1) ∧ ((t.2).1 218 7 = σ0.1 218 7)) (fun t : Int32 × zS => (1024 - (t.1).toInt).toNat) (fun again3 t hI ih9_3 => ?_) N _ (show Tr [218, 236] σ0 σ2 ∧ (((0 ≤ (0 : Int32).toInt ∧ (0 : Int32).toInt ≤ 1024) ∧ (((mny (σ0.1 219 0)) : Int32) >>> (x1 &&& 31)).toInt ∣ (0 : Int32).toInt) ∧ 0 ≤ (σ2.1 218 32).toInt ∧ ((mny (σ0.1 219 0)) >>> (x1 &&& 31)).toInt * (σ2.1 218 32).toInt ≤ ((mny (σ0.1 219 0)) >>> (x1 &&& 31)).toInt * (σ0.1 218 32).toInt + (0 : Int32).toInt) ∧ (ZB σ2.1) ∧ (σ2.1 218 7 = σ0.1 218 7) from ⟨hT, (by exact ⟨⟨⟨by decide, by decide⟩, Int.dvd_zero _⟩, by rw [hOσ2.2 218 List.not_mem_nil]; exact ⟨hU0.1, by simp only [Int32.reduceToInt]; omega⟩⟩), hB, ht⟩) (show (1024 - (0 : Int32).toInt).toNat < N from (by first | omega | decide | (simp only [Int32.le_iff_toInt_le, Int32.lt_iff_toInt_lt, ti_add, ti_sub, ti_mul, Int32.reduceToInt] at *; omega)))
  obtain ⟨x3_3, σ3⟩ := t
  have hI : Tr [218, 236] σ0 σ3 ∧ (((0 ≤ x3_3.toInt ∧ x3_3.toInt ≤ 1024) ∧ (((mny (σ0.1 219 0)) : Int32) >>> (x1 &&& 31)).toInt ∣ x3_3.toInt) ∧ 0 ≤ (σ3.1 218 32).toInt ∧ ((mny (σ0.1 219 0)) >>> (x1 &&& 31)).toInt * (σ3.1 218 32).toInt ≤ ((mny (σ0.1 219 0)) >>> (x1 &&& 31)).toInt * (σ0.1 218 32).toInt + x3_3.toInt) ∧ (ZB σ3.1) ∧ (σ3.1 218 7 = σ0.1 218 7) := hI
  obtain ⟨hT, hI3, hB, ht⟩ := hI
  rw [F_X12_adds_9.eq_1]
  have hd := hI3.1.2
  have h03 := hI3.1.1
  have hU := hI3.2
  refine ok_gC rfl ?_
  have hTc := hT
  refine ok_zbT (Q := fun V σ => V = mny (σ3.1 219 0)) hT (s_X12_many hN (hR.tr hT) (by first | exact hM | (rw [hT.2 219 (by decide)]; exact hM))) (fun _ h9 => absurd h9 List.not_mem_nil) (fun v4 σ5 hOσ5 hT hqv4 => ?_)
  have hqv4 : v4 = mny (σ3.1 219 0) := hqv4
  rw [hTc.2 219 (by decide)] at hqv4
  obtain rfl : v4 = (mny (σ0.1 219 0)) := hqv4
  have hB : ZB σ5.1 := ZB.tr hOσ5 (by decide) hB
  have ht : σ5.1 218 7 = σ0.1 218 7 := by rw [hOσ5.2 218 (by decide)] <;> exact ht
  have hU : 0 ≤ (σ5.1 218 32).toInt ∧ ((mny (σ0.1 219 0)) >>> (x1 &&& 31)).toInt * (σ5.1 218 32).toInt ≤ ((mny (σ0.1 219 0)) >>> (x1 &&& 31)).toInt * (σ0.1 218 32).toInt + x3_3.toInt := by rw [hOσ5.2 218 List.not_mem_nil]; exact hU
  refine ok_if (fun hc6 => ?_) (fun hc6 => ?_)
  · exact ok_some ⟨hT, (show (ZB σ5.1 ∧ σ5.1 218 7 = σ0.1 218 7) ∧ 0 ≤ (σ5.1 218 32).toInt ∧ ((mny (σ0.1 219 0)) >>> (x1 &&& 31)).toInt * (σ5.1 218 32).toInt ≤ ((mny (σ0.1 219 0)) >>> (x1 &&& 31)).toInt * (σ0.1 218 32).toInt + 1024 from by exact ⟨⟨hB, ht⟩, hU.1, by omega⟩)⟩
  · have hw := dv_le hd hd0 (by first | omega | (simp only [Int32.le_iff_toInt_le, Int32.lt_iff_toInt_lt, ti_add, ti_sub, ti_mul, Int32.reduceToInt] at *; omega))
    have hs : (x3_3 + (((mny (σ0.1 219 0)) : Int32) >>> (x1 &&& 31))).toInt = x3_3.toInt + (((mny (σ0.1 219 0)) : Int32) >>> (x1 &&& 31)).toInt := by rw [ti_add]; omega
    have hd2 : (((mny (σ0.1 219 0)) : Int32) >>> (x1 &&& 31)).toInt ∣ (x3_3 + (((mny (σ0.1 219 0)) : Int32) >>> (x1 &&& 31))).toInt := by rw [hs]; exact Int.dvd_add hd (Int.dvd_refl _)
    refine ok_nzI (by decide) ?_
    refine ok_lp (fun t : Int32 × Int32 × zS => Tr [218, 236] σ0 (t.2.2) ∧ (0 ≤ (t.2.1).toInt ∧ 0 ≤ ((t.2.2).1 218 32).toInt ∧ ((mny (σ0.1 219 0)) >>> (x1 &&& 31)).toInt * ((t.2.2).1 218 32).toInt ≤ ((mny (σ0.1 219 0)) >>> (x1 &&& 31)).toInt * (σ0.1 218 32).toInt + x3_3.toInt) ∧ (ZB (t.2.2).1) ∧ ((t.2.2).1 218 7 = σ0.1 218 7)) (fun t : Int32 × Int32 × zS => ((((mny (σ0.1 219 0)) : Int32) >>> (x1 &&& 31)).toInt - (t.2.1).toInt).toNat) (fun again7 t hI ih25_7 => ?_) N _ (show Tr [218, 236] σ0 σ5 ∧ (0 ≤ ((((mny (σ0.1 219 0)) : Int32) >>> (x1 &&& 31)) / 2).toInt ∧ 0 ≤ (σ5.1 218 32).toInt ∧ ((mny (σ0.1 219 0)) >>> (x1 &&& 31)).toInt * (σ5.1 218 32).toInt ≤ ((mny (σ0.1 219 0)) >>> (x1 &&& 31)).toInt * (σ0.1 218 32).toInt + x3_3.toInt) ∧ (ZB σ5.1) ∧ (σ5.1 218 7 = σ0.1 218 7) from ⟨hT, (by exact ⟨hl.2.2, hU⟩), hB, ht⟩) (show ((((mny (σ0.1 219 0)) : Int32) >>> (x1 &&& 31)).toInt - ((((mny (σ0.1 219 0)) : Int32) >>> (x1 &&& 31)) / 2).toInt).toNat < N from (by first | omega | decide | (simp only [Int32.le_iff_toInt_le, Int32.lt_iff_toInt_lt, ti_add, ti_sub, ti_mul, Int32.reduceToInt] at *; omega)))
    obtain ⟨x4_7, x5_7, σ7⟩ := t
    have hI : Tr [218, 236] σ0 σ7 ∧ (0 ≤ x5_7.toInt ∧ 0 ≤ (σ7.1 218 32).toInt ∧ ((mny (σ0.1 219 0)) >>> (x1 &&& 31)).toInt * (σ7.1 218 32).toInt ≤ ((mny (σ0.1 219 0)) >>> (x1 &&& 31)).toInt * (σ0.1 218 32).toInt + x3_3.toInt) ∧ (ZB σ7.1) ∧ (σ7.1 218 7 = σ0.1 218 7) := hI
    obtain ⟨hT, hI7, hB, ht⟩ := hI
    rw [F_X12_adds_25.eq_1]
    have hU := hI7.2
    refine ok_if (fun hc8 => ?_) (fun hc8 => ?_)
    · rw [J_X12_adds_53.eq_1]
      refine ok_if (fun hc9 => ?_) (fun hc9 => ?_)
      · exact ih9_3 (x3_3 + (((mny (σ0.1 219 0)) : Int32) >>> (x1 &&& 31)), σ7) (show Tr [218, 236] σ0 σ7 ∧ (((0 ≤ (x3_3 + (((mny (σ0.1 219 0)) : Int32) >>> (x1 &&& 31))).toInt ∧ (x3_3 + (((mny (σ0.1 219 0)) : Int32) >>> (x1 &&& 31))).toInt ≤ 1024) ∧ (((mny (σ0.1 219 0)) : Int32) >>> (x1 &&& 31)).toInt ∣ (x3_3 + (((mny (σ0.1 219 0)) : Int32) >>> (x1 &&& 31))).toInt) ∧ 0 ≤ (σ7.1 218 32).toInt ∧ ((mny (σ0.1 219 0)) >>> (x1 &&& 31)).toInt * (σ7.1 218 32).toInt ≤ ((mny (σ0.1 219 0)) >>> (x1 &&& 31)).toInt * (σ0.1 218 32).toInt + (x3_3 + (((mny (σ0.1 219 0)) : Int32) >>> (x1 &&& 31))).toInt) ∧ (ZB σ7.1) ∧ (σ7.1 218 7 = σ0.1 218 7) from ⟨hT, (by exact ⟨⟨⟨by rw [hs]; omega, by rw [hs]; omega⟩, hd2⟩, hU.1, by rw [hs]; omega⟩), hB, ht⟩) (show (1024 - (x3_3 + (((mny (σ0.1 219 0)) : Int32) >>> (x1 &&& 31))).toInt).toNat < (1024 - x3_3.toInt).toNat from (by rw [hs]; omega))
      · refine ok_gC rfl ?_
        refine ok_zbT (Q := fun V σ => V = 0 ∨ V = 1) hT (s_X12_isKnown hN (hR.tr hT) (hB) (by first | omega | decide | (simp only [Int32.le_iff_toInt_le, Int32.lt_iff_toInt_lt, ti_add, ti_sub, ti_mul, Int32.reduceToInt] at *; omega)) (⟨hU.1, by omega⟩)) (fun _ h9 => absurd h9 List.not_mem_nil) (fun v10 σ11 hOσ11 hT hqv10 => ?_)
        have hqv10 : v10 = 0 ∨ v10 = 1 := hqv10
        have hB : ZB σ11.1 := ZB.tr hOσ11 (by decide) hB
        have ht : σ11.1 218 7 = σ0.1 218 7 := by rw [hOσ11.2 218 (by decide)] <;> exact ht
        have hU : 0 ≤ (σ11.1 218 32).toInt ∧ ((mny (σ0.1 219 0)) >>> (x1 &&& 31)).toInt * (σ11.1 218 32).toInt ≤ ((mny (σ0.1 219 0)) >>> (x1 &&& 31)).toInt * (σ0.1 218 32).toInt + x3_3.toInt := by rw [hOσ11.2 218 List.not_mem_nil]; exact hU
        refine ok_if (fun hc12 => ?_) (fun hc12 => ?_)
        · refine ok_lp (fun t : Int32 × zS => Tr [218, 236] σ0 (t.2) ∧ (0 ≤ (t.1).toInt ∧ 0 ≤ ((t.2).1 218 32).toInt ∧ ((mny (σ0.1 219 0)) >>> (x1 &&& 31)).toInt * ((t.2).1 218 32).toInt ≤ ((mny (σ0.1 219 0)) >>> (x1 &&& 31)).toInt * (σ0.1 218 32).toInt + x3_3.toInt) ∧ (ZB (t.2).1) ∧ ((t.2).1 218 7 = σ0.1 218 7)) (fun t : Int32 × zS => ((((mny (σ0.1 219 0)) : Int32) >>> (x1 &&& 31)).toInt - (t.1).toInt).toNat) (fun again13 t hI ih73_13 => ?_) N _ (show Tr [218, 236] σ0 σ11 ∧ (0 ≤ (0 : Int32).toInt ∧ 0 ≤ (σ11.1 218 32).toInt ∧ ((mny (σ0.1 219 0)) >>> (x1 &&& 31)).toInt * (σ11.1 218 32).toInt ≤ ((mny (σ0.1 219 0)) >>> (x1 &&& 31)).toInt * (σ0.1 218 32).toInt + x3_3.toInt) ∧ (ZB σ11.1) ∧ (σ11.1 218 7 = σ0.1 218 7) from ⟨hT, (by exact ⟨by decide, hU⟩), hB, ht⟩) (show ((((mny (σ0.1 219 0)) : Int32) >>> (x1 &&& 31)).toInt - (0 : Int32).toInt).toNat < N from (by first | omega | decide | (simp only [Int32.le_iff_toInt_le, Int32.lt_iff_toInt_lt, ti_add, ti_sub, ti_mul, Int32.reduceToInt] at *; omega)))
          obtain ⟨x5_13, σ13⟩ := t
          have hI : Tr [218, 236] σ0 σ13 ∧ (0 ≤ x5_13.toInt ∧ 0 ≤ (σ13.1 218 32).toInt ∧ ((mny (σ0.1 219 0)) >>> (x1 &&& 31)).toInt * (σ13.1 218 32).toInt ≤ ((mny (σ0.1 219 0)) >>> (x1 &&& 31)).toInt * (σ0.1 218 32).toInt + x3_3.toInt) ∧ (ZB σ13.1) ∧ (σ13.1 218 7 = σ0.1 218 7) := hI
          obtain ⟨hT, hI13, hB, ht⟩ := hI
          rw [F_X12_adds_73.eq_1]
          have hU := hI13.2
          refine ok_if (fun hc14 => ?_) (fun hc14 => ?_)
          · refine ok_gI rfl ?_
            refine ok_pI hT rfl (by decide) (fun σ16 eσ16 hOσ16 hT => ?_)
            have hU : 0 ≤ (σ16.1 218 32).toInt ∧ ((mny (σ0.1 219 0)) >>> (x1 &&& 31)).toInt * (σ16.1 218 32).toInt ≤ ((mny (σ0.1 219 0)) >>> (x1 &&& 31)).toInt * (σ0.1 218 32).toInt + (x3_3.toInt + ((mny (σ0.1 219 0)) >>> (x1 &&& 31)).toInt) := by rw [zI_atI eσ16]; exact ad_s (by omega) hU.1 hU.2 (by omega)
            have hB : ZB σ16.1 := ZB.tr hOσ16 (by decide) hB
            have ht : σ16.1 218 7 = σ0.1 218 7 := by rw [zI_atN eσ16 (by decide)]; exact ht
            exact ih9_3 (x3_3 + (((mny (σ0.1 219 0)) : Int32) >>> (x1 &&& 31)), σ16) (show Tr [218, 236] σ0 σ16 ∧ (((0 ≤ (x3_3 + (((mny (σ0.1 219 0)) : Int32) >>> (x1 &&& 31))).toInt ∧ (x3_3 + (((mny (σ0.1 219 0)) : Int32) >>> (x1 &&& 31))).toInt ≤ 1024) ∧ (((mny (σ0.1 219 0)) : Int32) >>> (x1 &&& 31)).toInt ∣ (x3_3 + (((mny (σ0.1 219 0)) : Int32) >>> (x1 &&& 31))).toInt) ∧ 0 ≤ (σ16.1 218 32).toInt ∧ ((mny (σ0.1 219 0)) >>> (x1 &&& 31)).toInt * (σ16.1 218 32).toInt ≤ ((mny (σ0.1 219 0)) >>> (x1 &&& 31)).toInt * (σ0.1 218 32).toInt + (x3_3 + (((mny (σ0.1 219 0)) : Int32) >>> (x1 &&& 31))).toInt) ∧ (ZB σ16.1) ∧ (σ16.1 218 7 = σ0.1 218 7) from ⟨hT, (by exact ⟨⟨⟨by rw [hs]; omega, by rw [hs]; omega⟩, hd2⟩, hU.1, by rw [hs]; omega⟩), hB, ht⟩) (show (1024 - (x3_3 + (((mny (σ0.1 219 0)) : Int32) >>> (x1 &&& 31))).toInt).toNat < (1024 - x3_3.toInt).toNat from (by rw [hs]; omega))
          · have m9 := kn_ix (l := (((mny (σ0.1 219 0)) : Int32) >>> (x1 &&& 31))) (x := σ13.1 218 32) (y := x5_13) (u := (σ13.1 218 32).toInt + 1) (by omega) hU.1 (by omega) (by rw [Int.mul_add, Int.mul_one]; omega) (by omega) (by first | omega | (simp only [Int32.le_iff_toInt_le, Int32.lt_iff_toInt_lt, ti_add, ti_sub, ti_mul, Int32.reduceToInt] at *; omega))
            refine ok_gR (v := 236) hT rfl (hR 218 31 rfl) ?_
            refine ok_gI rfl ?_
            refine ok_gR (v := 234) hT rfl (hR 218 29 rfl) ?_
            refine ok_aIn rfl (by first | omega | decide | (simp only [Int32.le_iff_toInt_le, Int32.lt_iff_toInt_lt, ti_add, ti_sub, ti_mul, Int32.reduceToInt] at *; omega)) (by first | omega | decide | (simp only [Int32.le_iff_toInt_le, Int32.lt_iff_toInt_lt, ti_add, ti_sub, ti_mul, Int32.reduceToInt] at *; omega)) (fun v20 ev20 => ?_)
            have zv20 : v20 = 0 ∨ v20 = 1 := by rw [ev20]; exact hB 234 rfl _
            refine ok_s16 hT rfl (by decide) (by first | omega | decide | (simp only [Int32.le_iff_toInt_le, Int32.lt_iff_toInt_lt, ti_add, ti_sub, ti_mul, Int32.reduceToInt] at *; omega)) (by first | omega | decide | (simp only [Int32.le_iff_toInt_le, Int32.lt_iff_toInt_lt, ti_add, ti_sub, ti_mul, Int32.reduceToInt] at *; omega)) (fun σ21 eσ21 hOσ21 hT => ?_)
            have hU : 0 ≤ (σ21.1 218 32).toInt ∧ ((mny (σ0.1 219 0)) >>> (x1 &&& 31)).toInt * (σ21.1 218 32).toInt ≤ ((mny (σ0.1 219 0)) >>> (x1 &&& 31)).toInt * (σ0.1 218 32).toInt + x3_3.toInt := by rw [hOσ21.2 218 (by decide)]; exact hU
            have hB : ZB σ21.1 := ZB_s eσ21 hB
            have ht : σ21.1 218 7 = σ0.1 218 7 := by rw [hOσ21.2 218 (by decide)] <;> exact ht
            exact ih73_13 (x5_13 + 1, σ21) (show Tr [218, 236] σ0 σ21 ∧ (0 ≤ (x5_13 + 1).toInt ∧ 0 ≤ (σ21.1 218 32).toInt ∧ ((mny (σ0.1 219 0)) >>> (x1 &&& 31)).toInt * (σ21.1 218 32).toInt ≤ ((mny (σ0.1 219 0)) >>> (x1 &&& 31)).toInt * (σ0.1 218 32).toInt + x3_3.toInt) ∧ (ZB σ21.1) ∧ (σ21.1 218 7 = σ0.1 218 7) from ⟨hT, (by exact ⟨by first | omega | (simp only [Int32.le_iff_toInt_le, Int32.lt_iff_toInt_lt, ti_add, ti_sub, ti_mul, Int32.reduceToInt] at *; omega), hU⟩), hB, ht⟩) (show ((((mny (σ0.1 219 0)) : Int32) >>> (x1 &&& 31)).toInt - (x5_13 + 1).toInt).toNat < ((((mny (σ0.1 219 0)) : Int32) >>> (x1 &&& 31)).toInt - x5_13.toInt).toNat from (by first | omega | decide | (simp only [Int32.le_iff_toInt_le, Int32.lt_iff_toInt_lt, ti_add, ti_sub, ti_mul, Int32.reduceToInt] at *; omega)))
        · exact ih9_3 (x3_3 + (((mny (σ0.1 219 0)) : Int32) >>> (x1 &&& 31)), σ11) (show Tr [218, 236] σ0 σ11 ∧ (((0 ≤ (x3_3 + (((mny (σ0.1 219 0)) : Int32) >>> (x1 &&& 31))).toInt ∧ (x3_3 + (((mny (σ0.1 219 0)) : Int32) >>> (x1 &&& 31))).toInt ≤ 1024) ∧ (((mny (σ0.1 219 0)) : Int32) >>> (x1 &&& 31)).toInt ∣ (x3_3 + (((mny (σ0.1 219 0)) : Int32) >>> (x1 &&& 31))).toInt) ∧ 0 ≤ (σ11.1 218 32).toInt ∧ ((mny (σ0.1 219 0)) >>> (x1 &&& 31)).toInt * (σ11.1 218 32).toInt ≤ ((mny (σ0.1 219 0)) >>> (x1 &&& 31)).toInt * (σ0.1 218 32).toInt + (x3_3 + (((mny (σ0.1 219 0)) : Int32) >>> (x1 &&& 31))).toInt) ∧ (ZB σ11.1) ∧ (σ11.1 218 7 = σ0.1 218 7) from ⟨hT, (by exact ⟨⟨⟨by rw [hs]; omega, by rw [hs]; omega⟩, hd2⟩, hU.1, by rw [hs]; omega⟩), hB, ht⟩) (show (1024 - (x3_3 + (((mny (σ0.1 219 0)) : Int32) >>> (x1 &&& 31))).toInt).toNat < (1024 - x3_3.toInt).toNat from (by rw [hs]; omega))
    · refine ok_if (fun hc22 => ?_) (fun hc22 => ?_)
      · refine ok_gR (v := 234) hT rfl (hR 218 29 rfl) ?_
        refine ok_aIn rfl (by first | omega | decide | (simp only [Int32.le_iff_toInt_le, Int32.lt_iff_toInt_lt, ti_add, ti_sub, ti_mul, Int32.reduceToInt] at *; omega)) (by first | omega | decide | (simp only [Int32.le_iff_toInt_le, Int32.lt_iff_toInt_lt, ti_add, ti_sub, ti_mul, Int32.reduceToInt] at *; omega)) (fun v24 ev24 => ?_)
        have zv24 : v24 = 0 ∨ v24 = 1 := by rw [ev24]; exact hB 234 rfl _
        exact ih25_7 (v24, x5_7 + 1, σ7) (show Tr [218, 236] σ0 σ7 ∧ (0 ≤ (x5_7 + 1).toInt ∧ 0 ≤ (σ7.1 218 32).toInt ∧ ((mny (σ0.1 219 0)) >>> (x1 &&& 31)).toInt * (σ7.1 218 32).toInt ≤ ((mny (σ0.1 219 0)) >>> (x1 &&& 31)).toInt * (σ0.1 218 32).toInt + x3_3.toInt) ∧ (ZB σ7.1) ∧ (σ7.1 218 7 = σ0.1 218 7) from ⟨hT, (by exact ⟨by first | omega | (simp only [Int32.le_iff_toInt_le, Int32.lt_iff_toInt_lt, ti_add, ti_sub, ti_mul, Int32.reduceToInt] at *; omega), hU⟩), hB, ht⟩) (show ((((mny (σ0.1 219 0)) : Int32) >>> (x1 &&& 31)).toInt - (x5_7 + 1).toInt).toNat < ((((mny (σ0.1 219 0)) : Int32) >>> (x1 &&& 31)).toInt - x5_7.toInt).toNat from (by first | omega | decide | (simp only [Int32.le_iff_toInt_le, Int32.lt_iff_toInt_lt, ti_add, ti_sub, ti_mul, Int32.reduceToInt] at *; omega)))
      · rw [J_X12_adds_53.eq_1]
        refine ok_if (fun hc25 => ?_) (fun hc25 => ?_)
        · exact ih9_3 (x3_3 + (((mny (σ0.1 219 0)) : Int32) >>> (x1 &&& 31)), σ7) (show Tr [218, 236] σ0 σ7 ∧ (((0 ≤ (x3_3 + (((mny (σ0.1 219 0)) : Int32) >>> (x1 &&& 31))).toInt ∧ (x3_3 + (((mny (σ0.1 219 0)) : Int32) >>> (x1 &&& 31))).toInt ≤ 1024) ∧ (((mny (σ0.1 219 0)) : Int32) >>> (x1 &&& 31)).toInt ∣ (x3_3 + (((mny (σ0.1 219 0)) : Int32) >>> (x1 &&& 31))).toInt) ∧ 0 ≤ (σ7.1 218 32).toInt ∧ ((mny (σ0.1 219 0)) >>> (x1 &&& 31)).toInt * (σ7.1 218 32).toInt ≤ ((mny (σ0.1 219 0)) >>> (x1 &&& 31)).toInt * (σ0.1 218 32).toInt + (x3_3 + (((mny (σ0.1 219 0)) : Int32) >>> (x1 &&& 31))).toInt) ∧ (ZB σ7.1) ∧ (σ7.1 218 7 = σ0.1 218 7) from ⟨hT, (by exact ⟨⟨⟨by rw [hs]; omega, by rw [hs]; omega⟩, hd2⟩, hU.1, by rw [hs]; omega⟩), hB, ht⟩) (show (1024 - (x3_3 + (((mny (σ0.1 219 0)) : Int32) >>> (x1 &&& 31))).toInt).toNat < (1024 - x3_3.toInt).toNat from (by rw [hs]; omega))
        · refine ok_gC rfl ?_
          refine ok_zbT (Q := fun V σ => V = 0 ∨ V = 1) hT (s_X12_isKnown hN (hR.tr hT) (hB) (by first | omega | decide | (simp only [Int32.le_iff_toInt_le, Int32.lt_iff_toInt_lt, ti_add, ti_sub, ti_mul, Int32.reduceToInt] at *; omega)) (⟨hU.1, by omega⟩)) (fun _ h9 => absurd h9 List.not_mem_nil) (fun v26 σ27 hOσ27 hT hqv26 => ?_)
          have hqv26 : v26 = 0 ∨ v26 = 1 := hqv26
          have hB : ZB σ27.1 := ZB.tr hOσ27 (by decide) hB
          have ht : σ27.1 218 7 = σ0.1 218 7 := by rw [hOσ27.2 218 (by decide)] <;> exact ht
          have hU : 0 ≤ (σ27.1 218 32).toInt ∧ ((mny (σ0.1 219 0)) >>> (x1 &&& 31)).toInt * (σ27.1 218 32).toInt ≤ ((mny (σ0.1 219 0)) >>> (x1 &&& 31)).toInt * (σ0.1 218 32).toInt + x3_3.toInt := by rw [hOσ27.2 218 List.not_mem_nil]; exact hU
          refine ok_if (fun hc28 => ?_) (fun hc28 => ?_)
          · refine ok_lp (fun t : Int32 × zS => Tr [218, 236] σ0 (t.2) ∧ (0 ≤ (t.1).toInt ∧ 0 ≤ ((t.2).1 218 32).toInt ∧ ((mny (σ0.1 219 0)) >>> (x1 &&& 31)).toInt * ((t.2).1 218 32).toInt ≤ ((mny (σ0.1 219 0)) >>> (x1 &&& 31)).toInt * (σ0.1 218 32).toInt + x3_3.toInt) ∧ (ZB (t.2).1) ∧ ((t.2).1 218 7 = σ0.1 218 7)) (fun t : Int32 × zS => ((((mny (σ0.1 219 0)) : Int32) >>> (x1 &&& 31)).toInt - (t.1).toInt).toNat) (fun again29 t hI ih73_29 => ?_) N _ (show Tr [218, 236] σ0 σ27 ∧ (0 ≤ (0 : Int32).toInt ∧ 0 ≤ (σ27.1 218 32).toInt ∧ ((mny (σ0.1 219 0)) >>> (x1 &&& 31)).toInt * (σ27.1 218 32).toInt ≤ ((mny (σ0.1 219 0)) >>> (x1 &&& 31)).toInt * (σ0.1 218 32).toInt + x3_3.toInt) ∧ (ZB σ27.1) ∧ (σ27.1 218 7 = σ0.1 218 7) from ⟨hT, (by exact ⟨by decide, hU⟩), hB, ht⟩) (show ((((mny (σ0.1 219 0)) : Int32) >>> (x1 &&& 31)).toInt - (0 : Int32).toInt).toNat < N from (by first | omega | decide | (simp only [Int32.le_iff_toInt_le, Int32.lt_iff_toInt_lt, ti_add, ti_sub, ti_mul, Int32.reduceToInt] at *; omega)))
            obtain ⟨x5_29, σ29⟩ := t
            have hI : Tr [218, 236] σ0 σ29 ∧ (0 ≤ x5_29.toInt ∧ 0 ≤ (σ29.1 218 32).toInt ∧ ((mny (σ0.1 219 0)) >>> (x1 &&& 31)).toInt * (σ29.1 218 32).toInt ≤ ((mny (σ0.1 219 0)) >>> (x1 &&& 31)).toInt * (σ0.1 218 32).toInt + x3_3.toInt) ∧ (ZB σ29.1) ∧ (σ29.1 218 7 = σ0.1 218 7) := hI
            obtain ⟨hT, hI29, hB, ht⟩ := hI
            rw [F_X12_adds_73.eq_1]
            have hU := hI29.2
            refine ok_if (fun hc30 => ?_) (fun hc30 => ?_)
            · refine ok_gI rfl ?_
              refine ok_pI hT rfl (by decide) (fun σ32 eσ32 hOσ32 hT => ?_)
              have hU : 0 ≤ (σ32.1 218 32).toInt ∧ ((mny (σ0.1 219 0)) >>> (x1 &&& 31)).toInt * (σ32.1 218 32).toInt ≤ ((mny (σ0.1 219 0)) >>> (x1 &&& 31)).toInt * (σ0.1 218 32).toInt + (x3_3.toInt + ((mny (σ0.1 219 0)) >>> (x1 &&& 31)).toInt) := by rw [zI_atI eσ32]; exact ad_s (by omega) hU.1 hU.2 (by omega)
              have hB : ZB σ32.1 := ZB.tr hOσ32 (by decide) hB
              have ht : σ32.1 218 7 = σ0.1 218 7 := by rw [zI_atN eσ32 (by decide)]; exact ht
              exact ih9_3 (x3_3 + (((mny (σ0.1 219 0)) : Int32) >>> (x1 &&& 31)), σ32) (show Tr [218, 236] σ0 σ32 ∧ (((0 ≤ (x3_3 + (((mny (σ0.1 219 0)) : Int32) >>> (x1 &&& 31))).toInt ∧ (x3_3 + (((mny (σ0.1 219 0)) : Int32) >>> (x1 &&& 31))).toInt ≤ 1024) ∧ (((mny (σ0.1 219 0)) : Int32) >>> (x1 &&& 31)).toInt ∣ (x3_3 + (((mny (σ0.1 219 0)) : Int32) >>> (x1 &&& 31))).toInt) ∧ 0 ≤ (σ32.1 218 32).toInt ∧ ((mny (σ0.1 219 0)) >>> (x1 &&& 31)).toInt * (σ32.1 218 32).toInt ≤ ((mny (σ0.1 219 0)) >>> (x1 &&& 31)).toInt * (σ0.1 218 32).toInt + (x3_3 + (((mny (σ0.1 219 0)) : Int32) >>> (x1 &&& 31))).toInt) ∧ (ZB σ32.1) ∧ (σ32.1 218 7 = σ0.1 218 7) from ⟨hT, (by exact ⟨⟨⟨by rw [hs]; omega, by rw [hs]; omega⟩, hd2⟩, hU.1, by rw [hs]; omega⟩), hB, ht⟩) (show (1024 - (x3_3 + (((mny (σ0.1 219 0)) : Int32) >>> (x1 &&& 31))).toInt).toNat < (1024 - x3_3.toInt).toNat from (by rw [hs]; omega))
            · have m9 := kn_ix (l := (((mny (σ0.1 219 0)) : Int32) >>> (x1 &&& 31))) (x := σ29.1 218 32) (y := x5_29) (u := (σ29.1 218 32).toInt + 1) (by omega) hU.1 (by omega) (by rw [Int.mul_add, Int.mul_one]; omega) (by omega) (by first | omega | (simp only [Int32.le_iff_toInt_le, Int32.lt_iff_toInt_lt, ti_add, ti_sub, ti_mul, Int32.reduceToInt] at *; omega))
              refine ok_gR (v := 236) hT rfl (hR 218 31 rfl) ?_
              refine ok_gI rfl ?_
              refine ok_gR (v := 234) hT rfl (hR 218 29 rfl) ?_
              refine ok_aIn rfl (by first | omega | decide | (simp only [Int32.le_iff_toInt_le, Int32.lt_iff_toInt_lt, ti_add, ti_sub, ti_mul, Int32.reduceToInt] at *; omega)) (by first | omega | decide | (simp only [Int32.le_iff_toInt_le, Int32.lt_iff_toInt_lt, ti_add, ti_sub, ti_mul, Int32.reduceToInt] at *; omega)) (fun v36 ev36 => ?_)
              have zv36 : v36 = 0 ∨ v36 = 1 := by rw [ev36]; exact hB 234 rfl _
              refine ok_s16 hT rfl (by decide) (by first | omega | decide | (simp only [Int32.le_iff_toInt_le, Int32.lt_iff_toInt_lt, ti_add, ti_sub, ti_mul, Int32.reduceToInt] at *; omega)) (by first | omega | decide | (simp only [Int32.le_iff_toInt_le, Int32.lt_iff_toInt_lt, ti_add, ti_sub, ti_mul, Int32.reduceToInt] at *; omega)) (fun σ37 eσ37 hOσ37 hT => ?_)
              have hU : 0 ≤ (σ37.1 218 32).toInt ∧ ((mny (σ0.1 219 0)) >>> (x1 &&& 31)).toInt * (σ37.1 218 32).toInt ≤ ((mny (σ0.1 219 0)) >>> (x1 &&& 31)).toInt * (σ0.1 218 32).toInt + x3_3.toInt := by rw [hOσ37.2 218 (by decide)]; exact hU
              have hB : ZB σ37.1 := ZB_s eσ37 hB
              have ht : σ37.1 218 7 = σ0.1 218 7 := by rw [hOσ37.2 218 (by decide)] <;> exact ht
              exact ih73_29 (x5_29 + 1, σ37) (show Tr [218, 236] σ0 σ37 ∧ (0 ≤ (x5_29 + 1).toInt ∧ 0 ≤ (σ37.1 218 32).toInt ∧ ((mny (σ0.1 219 0)) >>> (x1 &&& 31)).toInt * (σ37.1 218 32).toInt ≤ ((mny (σ0.1 219 0)) >>> (x1 &&& 31)).toInt * (σ0.1 218 32).toInt + x3_3.toInt) ∧ (ZB σ37.1) ∧ (σ37.1 218 7 = σ0.1 218 7) from ⟨hT, (by exact ⟨by first | omega | (simp only [Int32.le_iff_toInt_le, Int32.lt_iff_toInt_lt, ti_add, ti_sub, ti_mul, Int32.reduceToInt] at *; omega), hU⟩), hB, ht⟩) (show ((((mny (σ0.1 219 0)) : Int32) >>> (x1 &&& 31)).toInt - (x5_29 + 1).toInt).toNat < ((((mny (σ0.1 219 0)) : Int32) >>> (x1 &&& 31)).toInt - x5_29.toInt).toNat from (by first | omega | decide | (simp only [Int32.le_iff_toInt_le, Int32.lt_iff_toInt_lt, ti_add, ti_sub, ti_mul, Int32.reduceToInt] at *; omega)))
          · exact ih9_3 (x3_3 + (((mny (σ0.1 219 0)) : Int32) >>> (x1 &&& 31)), σ27) (show Tr [218, 236] σ0 σ27 ∧ (((0 ≤ (x3_3 + (((mny (σ0.1 219 0)) : Int32) >>> (x1 &&& 31))).toInt ∧ (x3_3 + (((mny (σ0.1 219 0)) : Int32) >>> (x1 &&& 31))).toInt ≤ 1024) ∧ (((mny (σ0.1 219 0)) : Int32) >>> (x1 &&& 31)).toInt ∣ (x3_3 + (((mny (σ0.1 219 0)) : Int32) >>> (x1 &&& 31))).toInt) ∧ 0 ≤ (σ27.1 218 32).toInt ∧ ((mny (σ0.1 219 0)) >>> (x1 &&& 31)).toInt * (σ27.1 218 32).toInt ≤ ((mny (σ0.1 219 0)) >>> (x1 &&& 31)).toInt * (σ0.1 218 32).toInt + (x3_3 + (((mny (σ0.1 219 0)) : Int32) >>> (x1 &&& 31))).toInt) ∧ (ZB σ27.1) ∧ (σ27.1 218 7 = σ0.1 218 7) from ⟨hT, (by exact ⟨⟨⟨by rw [hs]; omega, by rw [hs]; omega⟩, hd2⟩, hU.1, by rw [hs]; omega⟩), hB, ht⟩) (show (1024 - (x3_3 + (((mny (σ0.1 219 0)) : Int32) >>> (x1 &&& 31))).toInt).toNat < (1024 - x3_3.toInt).toNat from (by rw [hs]; omega))
end Zq7_2
section Zq7_3
set_option maxHeartbeats 4000000 in
set_option maxRecDepth 100000 in
theorem s_X12_wideOf {N : Nat} (hN : 1048576 ≤ N) {x1 : Int32} {x2 : Int32} {σ0 : zS}  (hR : RF σ0.2.2) (hM : MW (σ0.1 219) 0) (hB : ZB σ0.1) (hp : 0 ≤ x1.toInt ∧ x1.toInt ≤ 9) (hx : 0 ≤ x2.toInt ∧ x2.toInt < (σ0.1 219 0).toInt) : Ok (f_X12_wideOf N 218 x1 x2 σ0) (fun r => Tr [218, 234, 236] σ0 r.2 ∧ (ZB r.2.1 ∧ r.2.1 218 7 = σ0.1 218 7)) := by
  have hT : Tr [218, 234, 236] σ0 σ0 := Tr.rf
  have hn := hM.1
  have he : 0 ≤ (σ0.1 219 2).toInt ∧ (σ0.1 219 2).toInt ≤ 10 := hM.2.1
  have qm := mny_b hn.1 hn.2
  have ht : σ0.1 218 7 = σ0.1 218 7 := rfl
  rw [f_X12_wideOf.eq_1]
  refine ok_gC rfl ?_
  refine ok_zbT (Q := fun V σ => ZB σ.1) hT (s_X12_laysOut hN (hR.tr hT) (by first | exact hM | (rw [hT.2 219 (by decide)]; exact hM)) (hB) (by first | omega | decide | (simp only [Int32.le_iff_toInt_le, Int32.lt_iff_toInt_lt, ti_add, ti_sub, ti_mul, Int32.reduceToInt] at *; omega))) (by decide) (fun v1 σ2 hOσ2 hT hqv1 => ?_)
  have hqv1 : ZB σ2.1 := hqv1
  have hB : ZB σ2.1 := by first | exact hqv1 | exact hqv1.1 | exact hqv1.1.1 | exact ZB_s eσ2 hB
  have ht : σ2.1 218 7 = σ0.1 218 7 := by rw [hOσ2.2 218 (by decide)] <;> exact ht
  refine ok_pI hT rfl (by decide) (fun σ3 eσ3 hOσ3 hT => ?_)
  have hz : (σ3.1 218 32).toInt = 0 := by rw [zI_atI eσ3]; rfl
  have hB : ZB σ3.1 := ZB.tr hOσ3 (by decide) hB
  have ht : σ3.1 218 7 = σ0.1 218 7 := by first | (rw [zI_atN eσ3 (by decide)]; exact ht) | exact HQ.2.trans ht | exact HQ.1.2.trans ht
  refine ok_gC rfl ?_
  have hTc := hT
  refine ok_zbT (Q := fun V σ => (ZB σ.1 ∧ σ.1 218 7 = σ3.1 218 7) ∧ 0 ≤ (σ.1 218 32).toInt ∧ ((mny (σ3.1 219 0)) >>> (x2 &&& 31)).toInt * (σ.1 218 32).toInt ≤ ((mny (σ3.1 219 0)) >>> (x2 &&& 31)).toInt * (σ3.1 218 32).toInt + 1024) hT (s_X12_adds hN (hR.tr hT) (by first | exact hM | (rw [hT.2 219 (by decide)]; exact hM)) (hB) (by rw [hT.2 219 (by decide)]; exact hx) (⟨by omega, by rw [hz, Int.mul_zero]; decide⟩)) (by decide) (fun v4 σ5 hOσ5 hT hqv4 => ?_)
  have hqv4 : (ZB σ5.1 ∧ σ5.1 218 7 = σ3.1 218 7) ∧ 0 ≤ (σ5.1 218 32).toInt ∧ ((mny (σ3.1 219 0)) >>> (x2 &&& 31)).toInt * (σ5.1 218 32).toInt ≤ ((mny (σ3.1 219 0)) >>> (x2 &&& 31)).toInt * (σ3.1 218 32).toInt + 1024 := hqv4
  rw [hTc.2 219 (by decide)] at hqv4
  have hB : ZB σ5.1 := by first | exact hqv4 | exact hqv4.1 | exact hqv4.1.1 | exact ZB_s eσ5 hB
  have ht : σ5.1 218 7 = σ0.1 218 7 := by first | (rw [zI_atN eσ5 (by decide)]; exact ht) | exact hqv4.2.trans ht | exact hqv4.1.2.trans ht
  refine ok_gI rfl ?_
  exact ok_some ⟨hT, (show ZB σ5.1 ∧ σ5.1 218 7 = σ0.1 218 7 from by exact ⟨hB, ht⟩)⟩

set_option maxHeartbeats 4000000 in
set_option maxRecDepth 100000 in
theorem s_X12_nodesOf {N : Nat} (hN : 1048576 ≤ N) {x1 : Int32} {σ0 : zS}  (hR : RF σ0.2.2) (hM : MW (σ0.1 219) 0) (hB : ZB σ0.1) (hp : 0 ≤ x1.toInt ∧ x1.toInt ≤ 9) : Ok (f_X12_nodesOf N 218 x1 σ0) (fun r => Tr [218, 234, 236] σ0 r.2 ∧ (ZB r.2.1 ∧ r.2.1 218 7 = σ0.1 218 7)) := by
  have hT : Tr [218, 234, 236] σ0 σ0 := Tr.rf
  have hn := hM.1
  have he : 0 ≤ (σ0.1 219 2).toInt ∧ (σ0.1 219 2).toInt ≤ 10 := hM.2.1
  have qm := mny_b hn.1 hn.2
  have ht : σ0.1 218 7 = σ0.1 218 7 := rfl
  rw [f_X12_nodesOf.eq_1]
  refine ok_lp (fun t : Int32 × Int32 × zS => Tr [218, 234, 236] σ0 (t.2.2) ∧ (0 ≤ (t.2.1).toInt) ∧ (ZB (t.2.2).1) ∧ ((t.2.2).1 218 7 = σ0.1 218 7)) (fun t : Int32 × Int32 × zS => (10 - (t.2.1).toInt).toNat) (fun again1 t hI ih4_1 => ?_) N _ (show Tr [218, 234, 236] σ0 σ0 ∧ (0 ≤ (0 : Int32).toInt) ∧ (ZB σ0.1) ∧ (σ0.1 218 7 = σ0.1 218 7) from ⟨hT, (by first | omega | decide | (simp only [Int32.le_iff_toInt_le, Int32.lt_iff_toInt_lt, ti_add, ti_sub, ti_mul, Int32.reduceToInt] at *; omega)), hB, ht⟩) (show (10 - (0 : Int32).toInt).toNat < N from (by first | omega | decide | (simp only [Int32.le_iff_toInt_le, Int32.lt_iff_toInt_lt, ti_add, ti_sub, ti_mul, Int32.reduceToInt] at *; omega)))
  obtain ⟨x2_1, x3_1, σ1⟩ := t
  have hI : Tr [218, 234, 236] σ0 σ1 ∧ (0 ≤ x3_1.toInt) ∧ (ZB σ1.1) ∧ (σ1.1 218 7 = σ0.1 218 7) := hI
  obtain ⟨hT, hI1, hB, ht⟩ := hI
  rw [F_X12_nodesOf_4.eq_1]
  refine ok_gR (v := 219) hT rfl (hR 218 1 rfl) ?_
  refine ok_aIc (j := 0) hT rfl (by decide) rfl (by decide) (by decide) ?_
  refine ok_if (fun hc4 => ?_) (fun hc4 => ?_)
  · exact ok_some ⟨hT, (show ZB σ1.1 ∧ σ1.1 218 7 = σ0.1 218 7 from by exact ⟨hB, ht⟩)⟩
  · refine ok_gC rfl ?_
    refine ok_zbT (Q := fun V σ => ZB σ.1 ∧ σ.1 218 7 = σ1.1 218 7) hT (s_X12_wideOf hN (hR.tr hT) (by first | exact hM | (rw [hT.2 219 (by decide)]; exact hM)) (hB) (by first | omega | decide | (simp only [Int32.le_iff_toInt_le, Int32.lt_iff_toInt_lt, ti_add, ti_sub, ti_mul, Int32.reduceToInt] at *; omega)) (by first | (rw [hT.2 219 (by decide)]; first | omega | (simp only [Int32.le_iff_toInt_le, Int32.lt_iff_toInt_lt, ti_add, ti_sub, ti_mul, Int32.reduceToInt] at *; omega)) | (first | omega | (simp only [Int32.le_iff_toInt_le, Int32.lt_iff_toInt_lt, ti_add, ti_sub, ti_mul, Int32.reduceToInt] at *; omega)))) (by decide) (fun v5 σ6 hOσ6 hT hqv5 => ?_)
    have hqv5 : ZB σ6.1 ∧ σ6.1 218 7 = σ1.1 218 7 := hqv5
    have hB : ZB σ6.1 := by first | exact hqv5 | exact hqv5.1 | exact hqv5.1.1 | exact ZB_s eσ6 hB
    have ht : σ6.1 218 7 = σ0.1 218 7 := by first | (rw [zI_atN eσ6 (by decide)]; exact ht) | exact hqv5.2.trans ht | exact hqv5.1.2.trans ht
    exact ih4_1 (x2_1 + v5, x3_1 + 1, σ6) (show Tr [218, 234, 236] σ0 σ6 ∧ (0 ≤ (x3_1 + 1).toInt) ∧ (ZB σ6.1) ∧ (σ6.1 218 7 = σ0.1 218 7) from ⟨hT, (by first | omega | decide | (simp only [Int32.le_iff_toInt_le, Int32.lt_iff_toInt_lt, ti_add, ti_sub, ti_mul, Int32.reduceToInt] at *; omega)), hB, ht⟩) (show (10 - (x3_1 + 1).toInt).toNat < (10 - x3_1.toInt).toNat from (by first | omega | decide | (simp only [Int32.le_iff_toInt_le, Int32.lt_iff_toInt_lt, ti_add, ti_sub, ti_mul, Int32.reduceToInt] at *; omega)))

set_option maxHeartbeats 4000000 in
set_option maxRecDepth 100000 in
theorem s_X12_nodes {N : Nat} (hN : 1048576 ≤ N) {x1 : Int32} {σ0 : zS}  (hR : RF σ0.2.2) (hM : MW (σ0.1 219) 0) (hB : ZB σ0.1) : Ok (f_X12_nodes N 218 x1 σ0) (fun r => Tr [218, 234, 235, 236] σ0 r.2 ∧ (ZB r.2.1 ∧ r.2.1 218 7 = σ0.1 218 7)) := by
  have hT : Tr [218, 234, 235, 236] σ0 σ0 := Tr.rf
  have hn := hM.1
  have he : 0 ≤ (σ0.1 219 2).toInt ∧ (σ0.1 219 2).toInt ≤ 10 := hM.2.1
  have qm := mny_b hn.1 hn.2
  have ht : σ0.1 218 7 = σ0.1 218 7 := rfl
  rw [f_X12_nodes.eq_1]
  refine ok_gC rfl ?_
  refine ok_zbT (Q := fun V σ => (V = 0 ∨ V = 1) ∧ (¬ V = 0 → 0 ≤ x1.toInt ∧ x1.toInt ≤ 9)) hT (s_X12_isRegister hN (hR.tr hT) (by first | exact hM | (rw [hT.2 219 (by decide)]; exact hM))) (fun _ h9 => absurd h9 List.not_mem_nil) (fun v1 σ2 hOσ2 hT hqv1 => ?_)
  have hqv1 : (v1 = 0 ∨ v1 = 1) ∧ (¬ v1 = 0 → 0 ≤ x1.toInt ∧ x1.toInt ≤ 9) := hqv1
  have hB : ZB σ2.1 := ZB.tr hOσ2 (by decide) hB
  have ht : σ2.1 218 7 = σ0.1 218 7 := by rw [hOσ2.2 218 (by decide)] <;> exact ht
  refine ok_if (fun hc3 => ?_) (fun hc3 => ?_)
  · exact ok_some ⟨hT, (show ZB σ2.1 ∧ σ2.1 218 7 = σ0.1 218 7 from by exact ⟨hB, ht⟩)⟩
  · have qhc3 := hqv1.2 hc3
    refine ok_gC rfl ?_
    refine ok_zbT (Q := fun V σ => True) hT (s_X12_takesOrder hN (hR.tr hT) (by first | exact hM | (rw [hT.2 219 (by decide)]; exact hM))) (by decide) (fun v4 σ5 hOσ5 hT hqv4 => ?_)
    have hB : ZB σ5.1 := ZB.tr hOσ5 (by decide) hB
    have ht : σ5.1 218 7 = σ0.1 218 7 := by rw [hOσ5.2 218 (by decide)] <;> exact ht
    refine ok_gC rfl ?_
    refine ok_zbT (Q := fun V σ => ZB σ.1 ∧ σ.1 218 7 = σ5.1 218 7) hT (s_X12_nodesOf hN (hR.tr hT) (by first | exact hM | (rw [hT.2 219 (by decide)]; exact hM)) (hB) (by first | omega | decide | (simp only [Int32.le_iff_toInt_le, Int32.lt_iff_toInt_lt, ti_add, ti_sub, ti_mul, Int32.reduceToInt] at *; omega))) (by decide) (fun v6 σ7 hOσ7 hT hqv6 => ?_)
    have hqv6 : ZB σ7.1 ∧ σ7.1 218 7 = σ5.1 218 7 := hqv6
    have hB : ZB σ7.1 := by first | exact hqv6 | exact hqv6.1 | exact hqv6.1.1 | exact ZB_s eσ7 hB
    have ht : σ7.1 218 7 = σ0.1 218 7 := by first | (rw [zI_atN eσ7 (by decide)]; exact ht) | exact hqv6.2.trans ht | exact hqv6.1.2.trans ht
    exact ok_some ⟨hT, (show ZB σ7.1 ∧ σ7.1 218 7 = σ0.1 218 7 from by exact ⟨hB, ht⟩)⟩

set_option maxHeartbeats 4000000 in
set_option maxRecDepth 100000 in
theorem s_X12_netOf {N : Nat} (hN : 1048576 ≤ N)  {σ0 : zS}  (hR : RF σ0.2.2) (hM : MW (σ0.1 219) 0) (hB : ZB σ0.1) : Ok (f_X12_netOf N 218 σ0) (fun r => Tr [218, 234, 235, 236] σ0 r.2 ∧ (ZB r.2.1 ∧ r.2.1 218 7 = σ0.1 218 7)) := by
  have hT : Tr [218, 234, 235, 236] σ0 σ0 := Tr.rf
  have hn := hM.1
  have he : 0 ≤ (σ0.1 219 2).toInt ∧ (σ0.1 219 2).toInt ≤ 10 := hM.2.1
  have qm := mny_b hn.1 hn.2
  have ht : σ0.1 218 7 = σ0.1 218 7 := rfl
  rw [f_X12_netOf.eq_1]
  refine ok_gC rfl ?_
  refine ok_zbT (Q := fun V σ => True) hT (s_X12_takesOrder hN (hR.tr hT) (by first | exact hM | (rw [hT.2 219 (by decide)]; exact hM))) (by decide) (fun v1 σ2 hOσ2 hT hqv1 => ?_)
  have hB : ZB σ2.1 := ZB.tr hOσ2 (by decide) hB
  have ht : σ2.1 218 7 = σ0.1 218 7 := by rw [hOσ2.2 218 (by decide)] <;> exact ht
  refine ok_lp (fun t : Int32 × Int32 × zS => Tr [218, 234, 235, 236] σ0 (t.2.2) ∧ (0 ≤ (t.2.1).toInt) ∧ (ZB (t.2.2).1) ∧ ((t.2.2).1 218 7 = σ0.1 218 7)) (fun t : Int32 × Int32 × zS => (10 - (t.2.1).toInt).toNat) (fun again3 t hI ih8_3 => ?_) N _ (show Tr [218, 234, 235, 236] σ0 σ2 ∧ (0 ≤ (0 : Int32).toInt) ∧ (ZB σ2.1) ∧ (σ2.1 218 7 = σ0.1 218 7) from ⟨hT, (by first | omega | decide | (simp only [Int32.le_iff_toInt_le, Int32.lt_iff_toInt_lt, ti_add, ti_sub, ti_mul, Int32.reduceToInt] at *; omega)), hB, ht⟩) (show (10 - (0 : Int32).toInt).toNat < N from (by first | omega | decide | (simp only [Int32.le_iff_toInt_le, Int32.lt_iff_toInt_lt, ti_add, ti_sub, ti_mul, Int32.reduceToInt] at *; omega)))
  obtain ⟨x1_3, x2_3, σ3⟩ := t
  have hI : Tr [218, 234, 235, 236] σ0 σ3 ∧ (0 ≤ x2_3.toInt) ∧ (ZB σ3.1) ∧ (σ3.1 218 7 = σ0.1 218 7) := hI
  obtain ⟨hT, hI3, hB, ht⟩ := hI
  rw [F_X12_netOf_8.eq_1]
  refine ok_gR (v := 219) hT rfl (hR 218 1 rfl) ?_
  refine ok_aIc (j := 0) hT rfl (by decide) rfl (by decide) (by decide) ?_
  refine ok_if (fun hc6 => ?_) (fun hc6 => ?_)
  · exact ok_some ⟨hT, (show ZB σ3.1 ∧ σ3.1 218 7 = σ0.1 218 7 from by exact ⟨hB, ht⟩)⟩
  · refine ok_pI hT rfl (by decide) (fun σ7 eσ7 hOσ7 hT => ?_)
    have hz : (σ7.1 218 32).toInt = 0 := by rw [zI_atI eσ7]; rfl
    have hB : ZB σ7.1 := ZB.tr hOσ7 (by decide) hB
    have ht : σ7.1 218 7 = σ0.1 218 7 := by first | (rw [zI_atN eσ7 (by decide)]; exact ht) | exact HQ.2.trans ht | exact HQ.1.2.trans ht
    refine ok_lp (fun t : Int32 × zS => Tr [218, 234, 235, 236] σ0 (t.2) ∧ (0 ≤ (t.1).toInt ∧ 0 ≤ ((t.2).1 218 32).toInt ∧ ((mny (σ0.1 219 0)) >>> (x2_3 &&& 31)).toInt * ((t.2).1 218 32).toInt ≤ 1024 * (t.1).toInt) ∧ (ZB (t.2).1) ∧ ((t.2).1 218 7 = σ0.1 218 7)) (fun t : Int32 × zS => (10 - (t.1).toInt).toNat) (fun again8 t hI ih25_8 => ?_) N _ (show Tr [218, 234, 235, 236] σ0 σ7 ∧ (0 ≤ (0 : Int32).toInt ∧ 0 ≤ (σ7.1 218 32).toInt ∧ ((mny (σ0.1 219 0)) >>> (x2_3 &&& 31)).toInt * (σ7.1 218 32).toInt ≤ 1024 * (0 : Int32).toInt) ∧ (ZB σ7.1) ∧ (σ7.1 218 7 = σ0.1 218 7) from ⟨hT, (by exact ⟨by decide, by omega, by rw [hz, Int.mul_zero]; decide⟩), hB, ht⟩) (show (10 - (0 : Int32).toInt).toNat < N from (by first | omega | decide | (simp only [Int32.le_iff_toInt_le, Int32.lt_iff_toInt_lt, ti_add, ti_sub, ti_mul, Int32.reduceToInt] at *; omega)))
    obtain ⟨x3_8, σ8⟩ := t
    have hI : Tr [218, 234, 235, 236] σ0 σ8 ∧ (0 ≤ x3_8.toInt ∧ 0 ≤ (σ8.1 218 32).toInt ∧ ((mny (σ0.1 219 0)) >>> (x2_3 &&& 31)).toInt * (σ8.1 218 32).toInt ≤ 1024 * x3_8.toInt) ∧ (ZB σ8.1) ∧ (σ8.1 218 7 = σ0.1 218 7) := hI
    obtain ⟨hT, hI8, hB, ht⟩ := hI
    rw [F_X12_netOf_25.eq_1]
    have hU := hI8.2
    refine ok_if (fun hc9 => ?_) (fun hc9 => ?_)
    · refine ok_gI rfl ?_
      exact ih8_3 (x1_3 + (σ8.1 218 32), x2_3 + 1, σ8) (show Tr [218, 234, 235, 236] σ0 σ8 ∧ (0 ≤ (x2_3 + 1).toInt) ∧ (ZB σ8.1) ∧ (σ8.1 218 7 = σ0.1 218 7) from ⟨hT, (by first | omega | decide | (simp only [Int32.le_iff_toInt_le, Int32.lt_iff_toInt_lt, ti_add, ti_sub, ti_mul, Int32.reduceToInt] at *; omega)), hB, ht⟩) (show (10 - (x2_3 + 1).toInt).toNat < (10 - x2_3.toInt).toNat from (by first | omega | decide | (simp only [Int32.le_iff_toInt_le, Int32.lt_iff_toInt_lt, ti_add, ti_sub, ti_mul, Int32.reduceToInt] at *; omega)))
    · refine ok_gC rfl ?_
      refine ok_zbT (Q := fun V σ => ZB σ.1) hT (s_X12_laysOut hN (hR.tr hT) (by first | exact hM | (rw [hT.2 219 (by decide)]; exact hM)) (hB) (by first | omega | decide | (simp only [Int32.le_iff_toInt_le, Int32.lt_iff_toInt_lt, ti_add, ti_sub, ti_mul, Int32.reduceToInt] at *; omega))) (by decide) (fun v11 σ12 hOσ12 hT hqv11 => ?_)
      have hqv11 : ZB σ12.1 := hqv11
      have hB : ZB σ12.1 := by first | exact hqv11 | exact hqv11.1 | exact hqv11.1.1 | exact ZB_s eσ12 hB
      have ht : σ12.1 218 7 = σ0.1 218 7 := by rw [hOσ12.2 218 (by decide)] <;> exact ht
      have hU : 0 ≤ (σ12.1 218 32).toInt ∧ ((mny (σ0.1 219 0)) >>> (x2_3 &&& 31)).toInt * (σ12.1 218 32).toInt ≤ 1024 * x3_8.toInt := by rw [hOσ12.2 218 (by decide)]; exact hU
      refine ok_gC rfl ?_
      have hTc := hT
      refine ok_zbT (Q := fun V σ => (ZB σ.1 ∧ σ.1 218 7 = σ12.1 218 7) ∧ 0 ≤ (σ.1 218 32).toInt ∧ ((mny (σ12.1 219 0)) >>> (x2_3 &&& 31)).toInt * (σ.1 218 32).toInt ≤ ((mny (σ12.1 219 0)) >>> (x2_3 &&& 31)).toInt * (σ12.1 218 32).toInt + 1024) hT (s_X12_adds hN (hR.tr hT) (by first | exact hM | (rw [hT.2 219 (by decide)]; exact hM)) (hB) (by first | (rw [hT.2 219 (by decide)]; first | omega | (simp only [Int32.le_iff_toInt_le, Int32.lt_iff_toInt_lt, ti_add, ti_sub, ti_mul, Int32.reduceToInt] at *; omega)) | (first | omega | (simp only [Int32.le_iff_toInt_le, Int32.lt_iff_toInt_lt, ti_add, ti_sub, ti_mul, Int32.reduceToInt] at *; omega))) (by rw [hT.2 219 (by decide)]; exact ⟨hU.1, by first | omega | (simp only [Int32.le_iff_toInt_le, Int32.lt_iff_toInt_lt, ti_add, ti_sub, ti_mul, Int32.reduceToInt] at *; omega)⟩)) (by decide) (fun v13 σ14 hOσ14 hT hqv13 => ?_)
      have hqv13 : (ZB σ14.1 ∧ σ14.1 218 7 = σ12.1 218 7) ∧ 0 ≤ (σ14.1 218 32).toInt ∧ ((mny (σ12.1 219 0)) >>> (x2_3 &&& 31)).toInt * (σ14.1 218 32).toInt ≤ ((mny (σ12.1 219 0)) >>> (x2_3 &&& 31)).toInt * (σ12.1 218 32).toInt + 1024 := hqv13
      rw [hTc.2 219 (by decide)] at hqv13
      have hB : ZB σ14.1 := by first | exact hqv13 | exact hqv13.1 | exact hqv13.1.1 | exact ZB_s eσ14 hB
      have ht : σ14.1 218 7 = σ0.1 218 7 := by first | (rw [zI_atN eσ14 (by decide)]; exact ht) | exact hqv13.2.trans ht | exact hqv13.1.2.trans ht
      have hU : 0 ≤ (σ14.1 218 32).toInt ∧ ((mny (σ0.1 219 0)) >>> (x2_3 &&& 31)).toInt * (σ14.1 218 32).toInt ≤ 1024 * (x3_8.toInt + 1) := ⟨hqv13.2.1, by have q := hqv13.2.2; omega⟩
      have e9 : (x3_8 + 1).toInt = x3_8.toInt + 1 := by first | omega | (simp only [Int32.le_iff_toInt_le, Int32.lt_iff_toInt_lt, ti_add, ti_sub, ti_mul, Int32.reduceToInt] at *; omega)
      exact ih25_8 (x3_8 + 1, σ14) (show Tr [218, 234, 235, 236] σ0 σ14 ∧ (0 ≤ (x3_8 + 1).toInt ∧ 0 ≤ (σ14.1 218 32).toInt ∧ ((mny (σ0.1 219 0)) >>> (x2_3 &&& 31)).toInt * (σ14.1 218 32).toInt ≤ 1024 * (x3_8 + 1).toInt) ∧ (ZB σ14.1) ∧ (σ14.1 218 7 = σ0.1 218 7) from ⟨hT, (by exact ⟨by rw [e9]; omega, hU.1, by rw [e9]; exact hU.2⟩), hB, ht⟩) (show (10 - (x3_8 + 1).toInt).toNat < (10 - x3_8.toInt).toNat from (by first | omega | decide | (simp only [Int32.le_iff_toInt_le, Int32.lt_iff_toInt_lt, ti_add, ti_sub, ti_mul, Int32.reduceToInt] at *; omega)))

set_option maxHeartbeats 4000000 in
set_option maxRecDepth 100000 in
theorem s_X12_net {N : Nat} (hN : 1048576 ≤ N)  {σ0 : zS}  (hR : RF σ0.2.2) (hM : MW (σ0.1 219) 0) (hB : ZB σ0.1) : Ok (f_X12_net N 218 σ0) (fun r => Tr [218, 234, 235, 236] σ0 r.2 ∧ (ZB r.2.1 ∧ r.2.1 218 7 = σ0.1 218 7)) := by
  have hT : Tr [218, 234, 235, 236] σ0 σ0 := Tr.rf
  have hn := hM.1
  have he : 0 ≤ (σ0.1 219 2).toInt ∧ (σ0.1 219 2).toInt ≤ 10 := hM.2.1
  have qm := mny_b hn.1 hn.2
  have ht : σ0.1 218 7 = σ0.1 218 7 := rfl
  rw [f_X12_net.eq_1]
  refine ok_gC rfl ?_
  refine ok_zbT (Q := fun V σ => (V = 0 ∨ V = 1) ∧ (¬ V = 0 → 0 < (σ0.1 219 0).toInt) ∧ (V = 0 → (σ0.1 219 0).toInt ≤ 0)) hT (s_X12_isWorld hN (hR.tr hT) (by first | exact hM | (rw [hT.2 219 (by decide)]; exact hM))) (fun _ h9 => absurd h9 List.not_mem_nil) (fun v1 σ2 hOσ2 hT hqv1 => ?_)
  have hqv1 : (v1 = 0 ∨ v1 = 1) ∧ (¬ v1 = 0 → 0 < (σ0.1 219 0).toInt) ∧ (v1 = 0 → (σ0.1 219 0).toInt ≤ 0) := hqv1
  have hB : ZB σ2.1 := ZB.tr hOσ2 (by decide) hB
  have ht : σ2.1 218 7 = σ0.1 218 7 := by rw [hOσ2.2 218 (by decide)] <;> exact ht
  refine ok_if (fun hc3 => ?_) (fun hc3 => ?_)
  · have qhc3 := hqv1.2.2 hc3
    exact ok_some ⟨hT, (show ZB σ2.1 ∧ σ2.1 218 7 = σ0.1 218 7 from by exact ⟨hB, ht⟩)⟩
  · have qhc3 := hqv1.2.1 hc3
    refine ok_gC rfl ?_
    refine ok_zbT (Q := fun V σ => ZB σ.1 ∧ σ.1 218 7 = σ2.1 218 7) hT (s_X12_netOf hN (hR.tr hT) (by first | exact hM | (rw [hT.2 219 (by decide)]; exact hM)) (hB)) (by decide) (fun v4 σ5 hOσ5 hT hqv4 => ?_)
    have hqv4 : ZB σ5.1 ∧ σ5.1 218 7 = σ2.1 218 7 := hqv4
    have hB : ZB σ5.1 := by first | exact hqv4 | exact hqv4.1 | exact hqv4.1.1 | exact ZB_s eσ5 hB
    have ht : σ5.1 218 7 = σ0.1 218 7 := by first | (rw [zI_atN eσ5 (by decide)]; exact ht) | exact hqv4.2.trans ht | exact hqv4.1.2.trans ht
    exact ok_some ⟨hT, (show ZB σ5.1 ∧ σ5.1 218 7 = σ0.1 218 7 from by exact ⟨hB, ht⟩)⟩

set_option maxHeartbeats 4000000 in
set_option maxRecDepth 100000 in
theorem s_X12_wide {N : Nat} (hN : 1048576 ≤ N) {x1 : Int32} {x2 : Int32} {σ0 : zS}  (hR : RF σ0.2.2) (hM : MW (σ0.1 219) 0) (hB : ZB σ0.1) : Ok (f_X12_wide N 218 x1 x2 σ0) (fun r => Tr [218, 234, 235, 236] σ0 r.2 ∧ (ZB r.2.1 ∧ r.2.1 218 7 = σ0.1 218 7)) := by
  have hT : Tr [218, 234, 235, 236] σ0 σ0 := Tr.rf
  have hn := hM.1
  have he : 0 ≤ (σ0.1 219 2).toInt ∧ (σ0.1 219 2).toInt ≤ 10 := hM.2.1
  have qm := mny_b hn.1 hn.2
  have ht : σ0.1 218 7 = σ0.1 218 7 := rfl
  rw [f_X12_wide.eq_1]
  refine ok_gC rfl ?_
  refine ok_zbT (Q := fun V σ => (V = 0 ∨ V = 1) ∧ (¬ V = 0 → 0 ≤ x1.toInt ∧ x1.toInt ≤ 9)) hT (s_X12_isRegister hN (hR.tr hT) (by first | exact hM | (rw [hT.2 219 (by decide)]; exact hM))) (fun _ h9 => absurd h9 List.not_mem_nil) (fun v1 σ2 hOσ2 hT hqv1 => ?_)
  have hqv1 : (v1 = 0 ∨ v1 = 1) ∧ (¬ v1 = 0 → 0 ≤ x1.toInt ∧ x1.toInt ≤ 9) := hqv1
  have hB : ZB σ2.1 := ZB.tr hOσ2 (by decide) hB
  have ht : σ2.1 218 7 = σ0.1 218 7 := by rw [hOσ2.2 218 (by decide)] <;> exact ht
  refine ok_if (fun hc3 => ?_) (fun hc3 => ?_)
  · exact ok_some ⟨hT, (show ZB σ2.1 ∧ σ2.1 218 7 = σ0.1 218 7 from by exact ⟨hB, ht⟩)⟩
  · have qhc3 := hqv1.2 hc3
    refine ok_gC rfl ?_
    have hTc := hT
    refine ok_zbT (Q := fun V σ => (V = 0 ∨ V = 1) ∧ (¬ V = 0 → 0 ≤ x2.toInt ∧ x2.toInt < (σ2.1 219 0).toInt)) hT (s_X12_isName hN (hR.tr hT) (by first | exact hM | (rw [hT.2 219 (by decide)]; exact hM))) (fun _ h9 => absurd h9 List.not_mem_nil) (fun v4 σ5 hOσ5 hT hqv4 => ?_)
    have hqv4 : (v4 = 0 ∨ v4 = 1) ∧ (¬ v4 = 0 → 0 ≤ x2.toInt ∧ x2.toInt < (σ2.1 219 0).toInt) := hqv4
    rw [hTc.2 219 (by decide)] at hqv4
    have hB : ZB σ5.1 := ZB.tr hOσ5 (by decide) hB
    have ht : σ5.1 218 7 = σ0.1 218 7 := by rw [hOσ5.2 218 (by decide)] <;> exact ht
    refine ok_if (fun hc6 => ?_) (fun hc6 => ?_)
    · exact ok_some ⟨hT, (show ZB σ5.1 ∧ σ5.1 218 7 = σ0.1 218 7 from by exact ⟨hB, ht⟩)⟩
    · have qhc6 := hqv4.2 hc6
      refine ok_gC rfl ?_
      refine ok_zbT (Q := fun V σ => True) hT (s_X12_takesOrder hN (hR.tr hT) (by first | exact hM | (rw [hT.2 219 (by decide)]; exact hM))) (by decide) (fun v7 σ8 hOσ8 hT hqv7 => ?_)
      have hB : ZB σ8.1 := ZB.tr hOσ8 (by decide) hB
      have ht : σ8.1 218 7 = σ0.1 218 7 := by rw [hOσ8.2 218 (by decide)] <;> exact ht
      refine ok_gC rfl ?_
      refine ok_zbT (Q := fun V σ => ZB σ.1 ∧ σ.1 218 7 = σ8.1 218 7) hT (s_X12_wideOf hN (hR.tr hT) (by first | exact hM | (rw [hT.2 219 (by decide)]; exact hM)) (hB) (by first | omega | decide | (simp only [Int32.le_iff_toInt_le, Int32.lt_iff_toInt_lt, ti_add, ti_sub, ti_mul, Int32.reduceToInt] at *; omega)) (by first | (rw [hT.2 219 (by decide)]; first | omega | (simp only [Int32.le_iff_toInt_le, Int32.lt_iff_toInt_lt, ti_add, ti_sub, ti_mul, Int32.reduceToInt] at *; omega)) | (first | omega | (simp only [Int32.le_iff_toInt_le, Int32.lt_iff_toInt_lt, ti_add, ti_sub, ti_mul, Int32.reduceToInt] at *; omega)))) (by decide) (fun v9 σ10 hOσ10 hT hqv9 => ?_)
      have hqv9 : ZB σ10.1 ∧ σ10.1 218 7 = σ8.1 218 7 := hqv9
      have hB : ZB σ10.1 := by first | exact hqv9 | exact hqv9.1 | exact hqv9.1.1 | exact ZB_s eσ10 hB
      have ht : σ10.1 218 7 = σ0.1 218 7 := by first | (rw [zI_atN eσ10 (by decide)]; exact ht) | exact hqv9.2.trans ht | exact hqv9.1.2.trans ht
      exact ok_some ⟨hT, (show ZB σ10.1 ∧ σ10.1 218 7 = σ0.1 218 7 from by exact ⟨hB, ht⟩)⟩

set_option maxHeartbeats 4000000 in
set_option maxRecDepth 100000 in
theorem s_X12_order {N : Nat} (hN : 1048576 ≤ N) {x1 : Int32} {σ0 : zS}  (hR : RF σ0.2.2) (hM : MW (σ0.1 219) 0) : Ok (f_X12_order N 218 x1 σ0) (fun r => Tr [] σ0 r.2 ∧ (True)) := by
  have hT : Tr [] σ0 σ0 := Tr.rf
  have hn := hM.1
  have he : 0 ≤ (σ0.1 219 2).toInt ∧ (σ0.1 219 2).toInt ≤ 10 := hM.2.1
  have qm := mny_b hn.1 hn.2
  rw [f_X12_order.eq_1]
  refine ok_gC rfl ?_
  refine ok_zbT (Q := fun V σ => (V = 0 ∨ V = 1) ∧ (¬ V = 0 → 0 ≤ x1.toInt ∧ x1.toInt < (σ0.1 219 0).toInt)) hT (s_X12_isName hN (hR.tr hT) (by first | exact hM | (rw [hT.2 219 (by decide)]; exact hM))) (fun _ h9 => absurd h9 List.not_mem_nil) (fun v1 σ2 hOσ2 hT hqv1 => ?_)
  have hqv1 : (v1 = 0 ∨ v1 = 1) ∧ (¬ v1 = 0 → 0 ≤ x1.toInt ∧ x1.toInt < (σ0.1 219 0).toInt) := hqv1
  refine ok_if (fun hc3 => ?_) (fun hc3 => ?_)
  · exact ok_some ⟨hT, trivial⟩
  · have qhc3 := hqv1.2 hc3
    refine ok_gR (v := 219) hT rfl (hR 218 1 rfl) ?_
    refine ok_aIn rfl (by first | omega | decide | (simp only [Int32.le_iff_toInt_le, Int32.lt_iff_toInt_lt, ti_add, ti_sub, ti_mul, Int32.reduceToInt] at *; omega)) (by first | omega | decide | (simp only [Int32.le_iff_toInt_le, Int32.lt_iff_toInt_lt, ti_add, ti_sub, ti_mul, Int32.reduceToInt] at *; omega)) (fun v5 ev5 => ?_)
    exact ok_some ⟨hT, trivial⟩
end Zq7_3
section Zq7_4
theorem ti33 {x : Int32} (h0 : 0 ≤ x.toInt) (h1 : x.toInt ≤ 10) : (33 + x).toInt = 33 + x.toInt ∧ (33 + x).toNatClampNeg = 33 + x.toInt.toNat := by
  have e9 : (33 + x).toNatClampNeg = (33 + x).toInt.toNat := rfl
  rw [e9, ti_add]; simp only [Int32.reduceToInt]; omega
theorem nI_ofm {x : Int32} (h0 : 0 ≤ x.toInt) (h1 : x.toInt ≤ 10) : nI x.toInt.toNat = x := Int32.toInt_inj.mp (by rw [nI_toInt (by omega)]; omega)
theorem MW_sw {σ τ ρ : zS} {i j : Nat} {a b : Int32} (e1 : τ = zI σ 219 (upd (σ.1 219) i b)) (e2 : ρ = zI τ 219 (upd (τ.1 219) j a)) (ha : a = σ.1 219 i) (hb : b = σ.1 219 j) (hij : i ≠ j) (hi : 33 ≤ i) (hj : 33 ≤ j) (hi2 : (i : Int) < 33 + (σ.1 219 0).toInt) (hj2 : (j : Int) < 33 + (σ.1 219 0).toInt) (h : MW (σ.1 219) 0) : MW (ρ.1 219) 0 := by
  have o : ∀ k, k ≠ i → k ≠ j → ρ.1 219 k = σ.1 219 k := fun k h1 h2 => by rw [zI_atN e2 h2, zI_atN e1 h1]
  have oj : ρ.1 219 j = σ.1 219 i := by rw [zI_atI e2, ha]
  have oi : ρ.1 219 i = σ.1 219 j := by rw [zI_atN e2 hij, zI_atI e1, hb]
  unfold MW at h ⊢
  rw [o 0 (by omega) (by omega), o (0 + 2) (by omega) (by omega)]
  refine ⟨h.1, h.2.1, fun k hk => ?_, fun v hv => ?_⟩
  · rw [o _ (by omega) (by omega), o _ (by omega) (by omega)]; exact h.2.2.1 k hk
  · obtain ⟨k, hk, hq⟩ := h.2.2.2 v hv
    by_cases q1 : 0 + 33 + k = i
    · refine ⟨j - 33, by omega, ?_⟩
      rw [show 0 + 33 + (j - 33) = j by omega, oj, ← q1]; exact hq
    · by_cases q2 : 0 + 33 + k = j
      · refine ⟨i - 33, by omega, ?_⟩
        rw [show 0 + 33 + (i - 33) = i by omega, oi, ← q2]; exact hq
      · exact ⟨k, hk, by rw [o _ q1 q2]; exact hq⟩
/-- each name but x has a place other than h -/
def HL (g : Nat → Int32) (x : Int32) (h : Nat) : Prop := ((0 ≤ (g 0).toInt ∧ (g 0).toInt ≤ 10) ∧ (0 ≤ (g 2).toInt ∧ (g 2).toInt ≤ 10) ∧ (∀ j, j < 10 → (0 ≤ (g (0 + 13 + j)).toInt ∧ (g (0 + 13 + j)).toInt ≤ 7) ∧ (0 ≤ (g (0 + 23 + j)).toInt ∧ (g (0 + 23 + j)).toInt ≤ 7))) ∧ ∀ v : Nat, (v : Int) < (g 0).toInt → nI v ≠ x → ∃ k : Nat, (k : Int) < (g 0).toInt ∧ k ≠ h ∧ g (0 + 33 + k) = nI v
theorem HL_0 {g : Nat → Int32} {x : Int32} {h : Nat} (m : MW g 0) (hx : g (33 + h) = x) : HL g x h := by
  refine ⟨⟨m.1, m.2.1, m.2.2.1⟩, fun v hv hq => ?_⟩
  obtain ⟨k, hk, e⟩ := m.2.2.2 v hv
  refine ⟨k, hk, fun q => hq ?_, e⟩
  rw [← e, ← hx, q, Nat.zero_add]
theorem HL_s {σ τ : zS} {x b : Int32} {h h' : Nat} (e : τ = zI σ 219 (upd (σ.1 219) (33 + h) b)) (hb : b = σ.1 219 (33 + h')) (hh : h ≠ h') (hk : (h : Int) < (σ.1 219 0).toInt) (m : HL (σ.1 219) x h) : HL (τ.1 219) x h' := by
  have o : ∀ k, k ≠ 33 + h → τ.1 219 k = σ.1 219 k := fun k h1 => zI_atN e h1
  unfold HL at m ⊢
  rw [o 0 (by omega), o 2 (by omega)]
  refine ⟨⟨m.1.1, m.1.2.1, fun k hk => ?_⟩, fun v hv hq => ?_⟩
  · rw [o _ (by omega), o _ (by omega)]; exact m.1.2.2 k hk
  · obtain ⟨k, hk2, hne, hq2⟩ := m.2 v hv hq
    by_cases q : k = h'
    · refine ⟨h, hk, hh, ?_⟩
      rw [show 0 + 33 + h = 33 + h by omega, zI_atI e, hb, ← q, ← hq2, Nat.zero_add]
    · exact ⟨k, hk2, q, by rw [o _ (by omega)]; exact hq2⟩
theorem HL_e {σ τ : zS} {x : Int32} {h : Nat} (e : τ = zI σ 219 (upd (σ.1 219) (33 + h) x)) (hk : (h : Int) < (σ.1 219 0).toInt) (m : HL (σ.1 219) x h) : MW (τ.1 219) 0 := by
  have o : ∀ k, k ≠ 33 + h → τ.1 219 k = σ.1 219 k := fun k h1 => zI_atN e h1
  unfold HL at m
  unfold MW
  rw [o 0 (by omega), o (0 + 2) (by omega)]
  refine ⟨m.1.1, m.1.2.1, fun k hk => ?_, fun v hv => ?_⟩
  · rw [o _ (by omega), o _ (by omega)]; exact m.1.2.2 k hk
  · by_cases q : nI v = x
    · exact ⟨h, hk, by rw [Nat.zero_add, zI_atI e, q]⟩
    · obtain ⟨k, hk2, hne, hq2⟩ := m.2 v hv q
      exact ⟨k, hk2, by rw [o _ (by omega)]; exact hq2⟩

set_option maxHeartbeats 4000000 in
set_option maxRecDepth 100000 in
theorem s_X12_placeOf {N : Nat} (hN : 1048576 ≤ N) {x1 : Int32} {σ0 : zS}  (hR : RF σ0.2.2) (hM : MW (σ0.1 219) 0) (hx : 0 ≤ x1.toInt ∧ x1.toInt < (σ0.1 219 0).toInt) : Ok (f_X12_placeOf N 218 x1 σ0) (fun r => Tr [] σ0 r.2 ∧ ((0 ≤ r.1.toInt ∧ r.1.toInt < (σ0.1 219 0).toInt) ∧ σ0.1 219 (33 + r.1.toInt.toNat) = x1)) := by
  have hT : Tr [] σ0 σ0 := Tr.rf
  have hn := hM.1
  have he : 0 ≤ (σ0.1 219 2).toInt ∧ (σ0.1 219 2).toInt ≤ 10 := hM.2.1
  have qm := mny_b hn.1 hn.2
  rw [f_X12_placeOf.eq_1]
  obtain ⟨k9, hk9, hq9⟩ := hM.2.2.2 x1.toInt.toNat (by have := hx.1; have := hx.2; omega)
  rw [nI_ofm hx.1 (by omega), Nat.zero_add] at hq9
  refine ok_lp (fun t : Int32 × zS => Tr [] σ0 (t.2) ∧ (∃ k : Nat, (k : Int) < (σ0.1 219 0).toInt ∧ σ0.1 219 (33 + k) = x1 ∧ (t.1).toInt ≤ (k : Int) ∧ 0 ≤ (t.1).toInt)) (fun t : Int32 × zS => (10 - (t.1).toInt).toNat) (fun again1 t hI ih2_1 => ?_) N _ (show Tr [] σ0 σ0 ∧ (∃ k : Nat, (k : Int) < (σ0.1 219 0).toInt ∧ σ0.1 219 (33 + k) = x1 ∧ (0 : Int32).toInt ≤ (k : Int) ∧ 0 ≤ (0 : Int32).toInt) from ⟨hT, (by exact ⟨k9, hk9, hq9, by simp only [Int32.reduceToInt]; omega, by decide⟩)⟩) (show (10 - (0 : Int32).toInt).toNat < N from (by simp only [Int32.reduceToInt]; omega))
  obtain ⟨x2_1, σ1⟩ := t
  have hI : Tr [] σ0 σ1 ∧ (∃ k : Nat, (k : Int) < (σ0.1 219 0).toInt ∧ σ0.1 219 (33 + k) = x1 ∧ x2_1.toInt ≤ (k : Int) ∧ 0 ≤ x2_1.toInt) := hI
  obtain ⟨hT, hI1⟩ := hI
  rw [F_X12_placeOf_2.eq_1]
  obtain ⟨k9, hk9, hq9, hle9, h09⟩ := hI1
  have i9 := ti33 (x := x2_1) h09 (by omega)
  refine ok_gR (v := 219) hT rfl (hR 218 1 rfl) ?_
  refine ok_aIn rfl (by first | omega | decide | (simp only [Int32.le_iff_toInt_le, Int32.lt_iff_toInt_lt, ti_add, ti_sub, ti_mul, Int32.reduceToInt] at *; omega)) (by first | omega | decide | (simp only [Int32.le_iff_toInt_le, Int32.lt_iff_toInt_lt, ti_add, ti_sub, ti_mul, Int32.reduceToInt] at *; omega)) (fun v3 ev3 => ?_)
  have ev9 := ev3
  rw [hT.2 219 List.not_mem_nil, i9.2] at ev9
  refine ok_if (fun hc4 => ?_) (fun hc4 => ?_)
  · exact ok_some ⟨hT, (show (0 ≤ x2_1.toInt ∧ x2_1.toInt < (σ0.1 219 0).toInt) ∧ σ0.1 219 (33 + x2_1.toInt.toNat) = x1 from by refine ⟨⟨by omega, by omega⟩, ?_⟩; rw [← ev9]; assumption)⟩
  · have hlt : x2_1.toInt < (k9 : Int) := by
        rcases (show x2_1.toInt < (k9 : Int) ∨ x2_1.toInt = (k9 : Int) by omega) with q | q
        · exact q
        · exact absurd (by rw [ev9, show x2_1.toInt.toNat = k9 by omega]; exact hq9) hc4
    exact ih2_1 (x2_1 + 1, σ1) (show Tr [] σ0 σ1 ∧ (∃ k : Nat, (k : Int) < (σ0.1 219 0).toInt ∧ σ0.1 219 (33 + k) = x1 ∧ (x2_1 + 1).toInt ≤ (k : Int) ∧ 0 ≤ (x2_1 + 1).toInt) from ⟨hT, (by exact ⟨k9, hk9, hq9, by simp only [ti_add, Int32.reduceToInt]; omega, by simp only [ti_add, Int32.reduceToInt]; omega⟩)⟩) (show (10 - (x2_1 + 1).toInt).toNat < (10 - x2_1.toInt).toNat from (by simp only [ti_add, Int32.reduceToInt]; omega))

theorem ti33b {x : Int32} (h0 : 0 ≤ x.toInt) (h1 : x.toInt ≤ 10) : (33 + x + 1).toInt = 34 + x.toInt ∧ (33 + x + 1).toNatClampNeg = 33 + (x.toInt.toNat + 1) := by
  have e9 : (33 + x + 1).toNatClampNeg = (33 + x + 1).toInt.toNat := rfl
  rw [e9, ti_add, (ti33 h0 h1).1]; simp only [Int32.reduceToInt]; omega
theorem ti33c {x : Int32} (h0 : 1 ≤ x.toInt) (h1 : x.toInt ≤ 10) : (33 + x - 1).toInt = 32 + x.toInt ∧ (33 + x - 1).toNatClampNeg = 33 + (x.toInt.toNat - 1) := by
  have e9 : (33 + x - 1).toNatClampNeg = (33 + x - 1).toInt.toNat := rfl
  rw [e9, ti_sub, (ti33 (x := x) (by omega) h1).1]; simp only [Int32.reduceToInt]; omega

set_option maxHeartbeats 4000000 in
set_option maxRecDepth 100000 in
theorem s_X12_swap {N : Nat} (hN : 1048576 ≤ N) {x1 : Int32} {σ0 : zS}  (hR : RF σ0.2.2) (hM : MW (σ0.1 219) 0) (hB : ZB σ0.1) : Ok (f_X12_swap N 218 x1 σ0) (fun r => Tr [218, 219, 234, 235, 236] σ0 r.2 ∧ (ZB r.2.1 ∧ r.2.1 218 7 = σ0.1 218 7 ∧ MW (r.2.1 219) 0)) := by
  have hT : Tr [218, 219, 234, 235, 236] σ0 σ0 := Tr.rf
  have hn := hM.1
  have he : 0 ≤ (σ0.1 219 2).toInt ∧ (σ0.1 219 2).toInt ≤ 10 := hM.2.1
  have qm := mny_b hn.1 hn.2
  have ht : σ0.1 218 7 = σ0.1 218 7 := rfl
  rw [f_X12_swap.eq_1]
  refine ok_gC rfl ?_
  refine ok_zbT (Q := fun V σ => (V = 0 ∨ V = 1) ∧ (¬ V = 0 → 0 ≤ x1.toInt ∧ x1.toInt < (σ0.1 219 0).toInt)) hT (s_X12_isName hN (hR.tr hT) (by first | exact hM | (rw [hw]; exact hM))) (fun _ h9 => absurd h9 List.not_mem_nil) (fun v1 σ2 hOσ2 hT hqv1 => ?_)
  have hqv1 : (v1 = 0 ∨ v1 = 1) ∧ (¬ v1 = 0 → 0 ≤ x1.toInt ∧ x1.toInt < (σ0.1 219 0).toInt) := hqv1
  have hB : ZB σ2.1 := ZB.tr hOσ2 (by decide) hB
  have ht : σ2.1 218 7 = σ0.1 218 7 := by rw [hOσ2.2 218 (by decide)] <;> exact ht
  have hw : σ2.1 219 = σ0.1 219 := hOσ2.2 219 List.not_mem_nil
  refine ok_if (fun hc3 => ?_) (fun hc3 => ?_)
  · exact ok_some ⟨hT, (show ZB σ2.1 ∧ σ2.1 218 7 = σ0.1 218 7 ∧ MW (σ2.1 219) 0 from by refine ⟨hB, ht, ?_⟩; first | exact hM | (rw [hw]; exact hM))⟩
  · have qhc3 := hqv1.2 hc3
    refine ok_gC rfl ?_
    refine ok_zbT (Q := fun V σ => (V = 0 ∨ V = 1) ∧ (¬ V = 0 → 0 ≤ (x1 + 1).toInt ∧ (x1 + 1).toInt < (σ2.1 219 0).toInt)) hT (s_X12_isName hN (hR.tr hT) (by first | exact hM | (rw [hw]; exact hM))) (fun _ h9 => absurd h9 List.not_mem_nil) (fun v4 σ5 hOσ5 hT hqv4 => ?_)
    have hqv4 : (v4 = 0 ∨ v4 = 1) ∧ (¬ v4 = 0 → 0 ≤ (x1 + 1).toInt ∧ (x1 + 1).toInt < (σ2.1 219 0).toInt) := hqv4
    have hB : ZB σ5.1 := ZB.tr hOσ5 (by decide) hB
    have ht : σ5.1 218 7 = σ0.1 218 7 := by rw [hOσ5.2 218 (by decide)] <;> exact ht
    rw [hw] at hqv4
    have hw : σ5.1 219 = σ0.1 219 := (hOσ5.2 219 List.not_mem_nil).trans hw
    refine ok_if (fun hc6 => ?_) (fun hc6 => ?_)
    · exact ok_some ⟨hT, (show ZB σ5.1 ∧ σ5.1 218 7 = σ0.1 218 7 ∧ MW (σ5.1 219) 0 from by refine ⟨hB, ht, ?_⟩; first | exact hM | (rw [hw]; exact hM))⟩
    · have qhc6 := hqv4.2 hc6
      have k9 : (x1 + 1).toInt = x1.toInt + 1 := by first | omega | (simp only [Int32.le_iff_toInt_le, Int32.lt_iff_toInt_lt, ti_add, ti_sub, ti_mul, Int32.reduceToInt] at *; omega)
      have i9 := ti33 (x := x1) (by omega) (by omega)
      have j9 := ti33b (x := x1) (by omega) (by omega)
      refine ok_gR (v := 219) hT rfl (hR 218 1 rfl) ?_
      refine ok_aIn rfl (by first | omega | decide | (simp only [Int32.le_iff_toInt_le, Int32.lt_iff_toInt_lt, ti_add, ti_sub, ti_mul, Int32.reduceToInt] at *; omega)) (by first | omega | decide | (simp only [Int32.le_iff_toInt_le, Int32.lt_iff_toInt_lt, ti_add, ti_sub, ti_mul, Int32.reduceToInt] at *; omega)) (fun v8 ev8 => ?_)
      have ev29 := ev8
      refine ok_gR (v := 219) hT rfl (hR 218 1 rfl) ?_
      refine ok_gR (v := 219) hT rfl (hR 218 1 rfl) ?_
      refine ok_aIn rfl (by rw [j9.1]; omega) (by rw [j9.1]; omega) (fun v11 ev11 => ?_)
      have ev49 := ev11
      refine ok_s14 hT rfl (by decide) (by first | omega | decide | (simp only [Int32.le_iff_toInt_le, Int32.lt_iff_toInt_lt, ti_add, ti_sub, ti_mul, Int32.reduceToInt] at *; omega)) (by first | omega | decide | (simp only [Int32.le_iff_toInt_le, Int32.lt_iff_toInt_lt, ti_add, ti_sub, ti_mul, Int32.reduceToInt] at *; omega)) (fun σ12 eσ12 hOσ12 hT => ?_)
      have e50 := eσ12
      have hB : ZB σ12.1 := ZB.tr hOσ12 (by decide) hB
      have ht : σ12.1 218 7 = σ0.1 218 7 := by rw [hOσ12.2 218 (by decide)] <;> exact ht
      refine ok_gR (v := 219) hT rfl (hR 218 1 rfl) ?_
      refine ok_s14 hT rfl (by decide) (by rw [j9.1]; omega) (by rw [j9.1]; omega) (fun σ14 eσ14 hOσ14 hT => ?_)
      have hM : MW (σ14.1 219) 0 := MW_sw e50 eσ14 ev29 ev49 (by rw [i9.2, j9.2]; omega) (by rw [i9.2]; omega) (by rw [j9.2]; omega) (by rw [i9.2, hw]; omega) (by rw [j9.2, hw]; omega) (by rw [hw]; exact hM)
      have hB : ZB σ14.1 := ZB.tr hOσ14 (by decide) hB
      have ht : σ14.1 218 7 = σ0.1 218 7 := by rw [hOσ14.2 218 (by decide)] <;> exact ht
      refine ok_gC rfl ?_
      refine ok_zbT (Q := fun V σ => ZB σ.1 ∧ σ.1 218 7 = σ14.1 218 7) hT (s_X12_netOf hN (hR.tr hT) (by first | exact hM | (rw [hw]; exact hM)) (hB)) (by decide) (fun v15 σ16 hOσ16 hT hqv15 => ?_)
      have hqv15 : ZB σ16.1 ∧ σ16.1 218 7 = σ14.1 218 7 := hqv15
      have hB : ZB σ16.1 := by first | exact hqv15 | exact hqv15.1 | exact hqv15.1.1 | exact ZB_s eσ16 hB
      have ht : σ16.1 218 7 = σ0.1 218 7 := by first | (rw [zI_atN eσ16 (by decide)]; exact ht) | exact hqv15.2.trans ht | exact hqv15.1.2.trans ht
      have hM : MW (σ16.1 219) 0 := by rw [hOσ16.2 219 (by decide)]; exact hM
      exact ok_some ⟨hT, (show ZB σ16.1 ∧ σ16.1 218 7 = σ0.1 218 7 ∧ MW (σ16.1 219) 0 from by refine ⟨hB, ht, ?_⟩; first | exact hM | (rw [hw]; exact hM))⟩

theorem tm1 {x : Int32} (h0 : 1 ≤ x.toInt) (h1 : x.toInt ≤ 10) : (x + (-1)).toInt = x.toInt - 1 := by
  rw [ti_add, show (-1 : Int32).toInt = -1 by decide]; omega
end Zq7_4
section Zq7_5
/-! ===== the reference's tokens ===== -/
def TOK (s : Nat → Nat → Int32) : Prop := ((0 ≤ (s 218 11).toInt ∧ (s 218 11).toInt ≤ (s 218 10).toInt) ∧ (s 218 10).toInt ≤ (s 218 9).toInt ∧ (s 218 9).toInt ≤ 600) ∧ (¬ s 218 12 = 0 → (s 218 11).toInt < (s 218 10).toInt) ∧ (s 218 12 = 1 → ∀ k : Nat, (s 218 11).toInt ≤ (k : Int) → (k : Int) < (s 218 10).toInt → 97 ≤ (s 224 k).toInt ∧ (s 224 k).toInt ≤ 122)
def BYT (t : Nat → Int32) : Prop := ∀ k, -128 ≤ (t k).toInt ∧ (t k).toInt ≤ 127
theorem TOK_i {s : Nat → Nat → Int32} {n a f k : Int32} {t : Nat → Int32} (e9 : s 218 9 = n) (e10 : s 218 10 = a) (e11 : s 218 11 = f) (e12 : s 218 12 = k) (et : s 224 = t) (h0 : 0 ≤ f.toInt) (h1 : f.toInt ≤ a.toInt) (h2 : a.toInt ≤ n.toInt) (h3 : n.toInt ≤ 600) (h4 : ¬ k = 0 → f.toInt < a.toInt) (h5 : k = 1 → ∀ j : Nat, f.toInt ≤ (j : Int) → (j : Int) < a.toInt → 97 ≤ (t j).toInt ∧ (t j).toInt ≤ 122) : TOK s := by
  unfold TOK
  rw [e9, e10, e11, e12, et]
  exact ⟨⟨⟨h0, h1⟩, h2, h3⟩, h4, h5⟩
theorem TOK_c {s s' : Nat → Nat → Int32} (h : TOK s) (e9 : s' 218 9 = s 218 9) (e10 : s' 218 10 = s 218 10) (e11 : s' 218 11 = s 218 11) (e12 : s' 218 12 = s 218 12) (et : s' 224 = s 224) : TOK s' := by
  unfold TOK at h ⊢
  rw [e9, e10, e11, e12, et]; exact h
theorem TOK_p {σ τ : zS} {j : Nat} {v : Int32} (e : τ = zI σ 218 (upd (σ.1 218) j v)) (hj : j < 9 ∨ 12 < j) (h : TOK σ.1) : TOK τ.1 := by
  refine TOK_c h (zI_atN e (by omega)) (zI_atN e (by omega)) (zI_atN e (by omega)) (zI_atN e (by omega)) ?_
  subst e
  exact va_up_ne σ.1 (upd (σ.1 218) j v) (show (224 : Nat) ≠ 218 by decide)
theorem TOK_tr {S : List Nat} {σ τ : zS} (hT : Tr S σ τ) (h1 : 218 ∉ S) (h2 : 224 ∉ S) (h : TOK σ.1) : TOK τ.1 := by
  have e := hT.2 218 h1
  refine TOK_c h ?_ ?_ ?_ ?_ (hT.2 224 h2) <;> rw [e]
/-- what see answers -/
def seeV (n : Int32) (t : Nat → Int32) (x : Int32) : Int32 := if n ≤ x then -1 else t x.toNatClampNeg &&& 255
theorem and255 (v : Int32) : 0 ≤ (v &&& 255).toInt ∧ (v &&& 255).toInt ≤ 255 := by
  have h := ti_and0 v (m := 255) (by decide)
  rw [show Int32.ofNat 255 = 255 from rfl] at h
  omega
theorem see_lt {n x c : Int32} {t : Nat → Int32} (h : seeV n t x = c) (hc : ¬ c = -1) : x.toInt < n.toInt := by
  unfold seeV at h
  by_cases q : n ≤ x
  · rw [if_pos q] at h; exact absurd h.symm hc
  · rw [Int32.le_iff_toInt_le] at q; omega
theorem by255 : ∀ k, k < 256 → ((nI k - 128) &&& 255).toInt = (if k < 128 then (k : Int) + 128 else (k : Int) - 128) ∧ (nI k - 128).toInt = (k : Int) - 128 := by decide +kernel
theorem see_az {n x : Int32} {t : Nat → Int32} (hb : BYT t) (h : 32 ≤ (seeV n t x).toInt ∧ (seeV n t x).toInt ≤ 122) : x.toInt < n.toInt ∧ (t x.toNatClampNeg).toInt = (seeV n t x).toInt := by
  have q : ¬ n ≤ x := by
    intro q
    unfold seeV at h
    rw [if_pos q] at h
    exact absurd h.1 (by decide)
  have e : seeV n t x = t x.toNatClampNeg &&& 255 := if_neg q
  rw [e] at h ⊢
  rw [Int32.le_iff_toInt_le] at q
  refine ⟨by omega, ?_⟩
  have hb := hb x.toNatClampNeg
  generalize t x.toNatClampNeg = v at *
  obtain ⟨k, hk, rfl⟩ : ∃ k : Nat, k < 256 ∧ v = nI k - 128 := by
    refine ⟨(v.toInt + 128).toNat, by omega, Int32.toInt_inj.mp ?_⟩
    rw [(by255 _ (by omega)).2]; omega
  have := by255 k hk
  rw [this.1] at h ⊢
  rw [this.2] at hb ⊢
  split at h <;> split <;> omega
theorem x_X12_see {N : Nat} {x1 : Int32} {σ : zS} (hR : RF σ.2.2) (h0 : 0 ≤ x1.toInt) (h6 : (σ.1 218 9).toInt ≤ 600) : Ok (f_X12_see N 218 x1 σ) (fun r => r.2 = σ ∧ r.1 = seeV (σ.1 218 9) (σ.1 224) x1) := by
  rw [f_X12_see.eq_1]
  refine ok_gI rfl ?_
  refine ok_if (fun h => ok_some ⟨rfl, (if_pos h).symm⟩) (fun h => ?_)
  have h2 := h
  rw [Int32.le_iff_toInt_le] at h2
  refine ok_gR (Sx := []) (v := 224) Tr.rf rfl (hR 218 6 rfl) ?_
  refine ok_aIn (n := 600) rfl h0 (by omega) (fun v e => ?_)
  exact ok_some ⟨rfl, by rw [e]; exact (if_neg h).symm⟩
theorem xi_X12_in {N : Nat} {a b c : Int64} {σ : zS} : Ok (f_X12_in N a b c σ) (fun r => r.2 = σ ∧ ((r.1 = 0 → ¬ (b.toInt ≤ a.toInt ∧ a.toInt ≤ c.toInt)) ∧ (¬ r.1 = 0 → b.toInt ≤ a.toInt ∧ a.toInt ≤ c.toInt))) := by
  rw [f_X12_in.eq_1]
  refine ok_if (fun h => ok_rZ (Or.inl rfl) ⟨rfl, fun _ => ?_, fun q => absurd rfl q⟩) (fun h => ok_if (fun h2 => ok_rZ (Or.inl rfl) ⟨rfl, fun _ => ?_, fun q => absurd rfl q⟩) (fun h2 => ok_rZ (Or.inr rfl) ⟨rfl, fun q => absurd (show (1 : Int32) = 0 from q) (by decide), fun _ => ⟨in_ok h, in_ok2 h2⟩⟩))
  · rw [zcmp_lt] at h; omega
  · rw [zcmp_gt] at h2; omega
theorem x_X12_good {N : Nat} {σ : zS} : Ok (f_X12_good N 218 σ) (fun r => r.2 = σ ∧ ((r.1 = 0 → ¬ σ.1 218 14 = 0) ∧ (¬ r.1 = 0 → σ.1 218 14 = 0))) := by
  rw [f_X12_good.eq_1]
  refine ok_gI rfl ?_
  exact ok_if (fun h => ok_rZ (Or.inr rfl) ⟨rfl, fun q => absurd (show (1 : Int32) = 0 from q) (by decide), fun _ => h⟩) (fun h => ok_rZ (Or.inl rfl) ⟨rfl, fun _ => h, fun q => absurd rfl q⟩)
theorem x_X12_isSign {N : Nat} {x0 : Int32} {σ : zS} : Ok (f_X12_isSign N x0 σ) (fun r => r.2 = σ ∧ ((r.1 = 0 → True) ∧ (¬ r.1 = 0 → 35 ≤ x0.toInt))) := by
  rw [f_X12_isSign.eq_1]
  repeat' first
    | exact ok_rZ (Or.inl rfl) ⟨rfl, fun _ => trivial, fun q => absurd rfl q⟩
    | refine ok_if (fun h => ok_rZ (Or.inr rfl) ⟨rfl, fun _ => trivial, fun _ => by rw [h]; decide⟩) (fun h => ?_)
    | refine ok_if (fun h => ?_) (fun h => ok_rZ (Or.inl rfl) ⟨rfl, fun _ => trivial, fun q => absurd rfl q⟩)
    | refine ok_if (fun h => ok_rZ (Or.inr rfl) ⟨rfl, fun _ => trivial, fun _ => by rw [h]; decide⟩) (fun h => ok_rZ (Or.inl rfl) ⟨rfl, fun _ => trivial, fun q => absurd rfl q⟩)
theorem zlen_b : ∀ i, i < zSn → zlen.getD i 0 ≤ 20 := by decide +kernel
theorem x_is36 {N w : Nat} {σ : zS} (hN : 1048576 ≤ N) (hR : RF σ.2.2) (hw : w < zSn) (hK : TOK σ.1) {y0 : Int32} (hy : y0 = 0 ∨ y0 = 1) (hA : ¬ y0 = 0 → (σ.1 218 14 = 0 ∧ σ.1 218 12 = 1) ∧ σ.1 218 10 - σ.1 218 11 = nI (zlen.getD w 0)) : Ok (J_X12_is_36 N 218 w y0 σ) (fun r => r.2 = σ ∧ ((r.1 = 0 ∨ r.1 = 1) ∧ (¬ r.1 = 0 → σ.1 218 14 = 0 ∧ σ.1 218 12 = 1))) := by
  have hz := zlen_b w hw
  have hl : (nI (zlen.getD w 0)).toInt = (zlen.getD w 0 : Int) := nI_toInt (by omega)
  have hk := hK.1
  rw [J_X12_is_36.eq_1]
  refine ok_lp (fun t : Int32 × Int32 × zS => t.2.2 = σ ∧ 0 ≤ t.2.1.toInt ∧ (t.1 = 0 ∨ t.1 = 1) ∧ (¬ t.1 = 0 → (σ.1 218 14 = 0 ∧ σ.1 218 12 = 1) ∧ σ.1 218 10 - σ.1 218 11 = nI (zlen.getD w 0))) (fun t => ((zlen.getD w 0 : Int) - t.2.1.toInt).toNat) (fun again t hI ih => ?_) N _ ⟨rfl, (by decide : 0 ≤ (0 : Int32).toInt), hy, hA⟩ (by simp only [Int32.reduceToInt]; omega)
  obtain ⟨x2, x3, σ'⟩ := t
  obtain ⟨e, h0, hz2, hA⟩ := hI
  have e : σ' = σ := e
  have h0 : 0 ≤ x3.toInt := h0
  have hz2 : x2 = 0 ∨ x2 = 1 := hz2
  have hA : ¬ x2 = 0 → (σ.1 218 14 = 0 ∧ σ.1 218 12 = 1) ∧ σ.1 218 10 - σ.1 218 11 = nI (zlen.getD w 0) := hA
  subst e
  rw [F_X12_is_39.eq_1]
  refine ok_zbX (σ := σ') (Q := fun v => v = nI (zlen.getD w 0)) ⟨_, if_pos hw, rfl, rfl⟩ (fun v hv => ?_)
  subst hv
  refine ok_if (fun h => ok_rZ hz2 ⟨rfl, hz2, fun q => (hA q).1⟩) (fun h => ok_if (fun _ => ok_rZ hz2 ⟨rfl, hz2, fun q => (hA q).1⟩) (fun h2 => ?_))
  rw [Int32.le_iff_toInt_le, hl] at h
  have hB := congrArg Int32.toInt (hA h2).2
  rw [ti_sub, hl] at hB
  have hs : (x3 + 1).toInt = x3.toInt + 1 := by rw [ti_add]; simp only [Int32.reduceToInt]; omega
  refine ok_gR (Sx := []) (v := 224) Tr.rf rfl (hR 218 6 rfl) ?_
  refine ok_gI rfl ?_
  refine ok_aIn (n := 600) rfl (by rw [ti_add]; omega) (by rw [ti_add]; omega) (fun v7 e7 => ?_)
  refine ok_zbX (σ := σ') (Q := fun _ => True) ⟨_, if_pos ⟨hw, h0, by omega⟩, rfl, trivial⟩ (fun v8 _ => ?_)
  have hm : ((zlen.getD w 0 : Int) - (x3 + 1).toInt).toNat < ((zlen.getD w 0 : Int) - x3.toInt).toNat := by rw [hs]; omega
  exact ok_if (fun _ => ih (1, x3 + 1, σ') ⟨rfl, (by rw [hs]; omega : 0 ≤ (x3 + 1).toInt), Or.inr rfl, fun _ => hA h2⟩ hm) (fun _ => ih (0, x3 + 1, σ') ⟨rfl, (by rw [hs]; omega : 0 ≤ (x3 + 1).toInt), Or.inl rfl, fun q => absurd rfl q⟩ hm)
theorem x0_X12_is {N w : Nat} {σ : zS} (hN : 1048576 ≤ N) (hR : RF σ.2.2) (hw : w < zSn) (hK : TOK σ.1) : Ok (f_X12_is N 218 w σ) (fun r => r.2 = σ ∧ ((r.1 = 0 ∨ r.1 = 1) ∧ (¬ r.1 = 0 → σ.1 218 14 = 0 ∧ σ.1 218 12 = 1))) := by
  rw [f_X12_is.eq_1]
  have z := x_is36 (y0 := 0) hN hR hw hK (Or.inl rfl) (fun q => absurd rfl q)
  refine ok_gC rfl ?_
  refine ok_zbX (Q := fun v => (v = 0 → ¬ σ.1 218 14 = 0) ∧ (¬ v = 0 → σ.1 218 14 = 0)) x_X12_good (fun v hv => ?_)
  refine ok_if (fun _ => z) (fun h => ?_)
  refine ok_gI rfl ?_
  refine ok_if (fun h1 => ?_) (fun _ => z)
  refine ok_gI rfl ?_
  refine ok_gI rfl ?_
  refine ok_zbX (σ := σ) (Q := fun v => v = nI (zlen.getD w 0)) ⟨_, if_pos hw, rfl, rfl⟩ (fun v hv2 => ?_)
  subst hv2
  exact ok_if (fun h3 => x_is36 (y0 := 1) hN hR hw hK (Or.inr rfl) (fun _ => ⟨⟨hv.2 h, h1⟩, h3⟩)) (fun _ => z)
theorem x_X12_is {N w : Nat} {σ : zS} (hN : 1048576 ≤ N) (hR : RF σ.2.2) (hw : w < zSn) (hK : TOK σ.1) : Ok (f_X12_is N 218 w σ) (fun r => r.2 = σ ∧ ((r.1 = 0 → f_X12_is N 218 w σ = some (0, σ)) ∧ (¬ r.1 = 0 → (σ.1 218 14 = 0 ∧ σ.1 218 12 = 1) ∧ r.1 = 1 ∧ f_X12_is N 218 w σ = some (1, σ)))) := by
  obtain ⟨⟨v, τ⟩, h, e, q, q2⟩ := x0_X12_is hN hR hw hK
  have e : τ = σ := e
  have q : v = 0 ∨ v = 1 := q
  subst e
  refine ⟨(v, τ), h, rfl, fun h0 => ?_, fun h0 => ⟨q2 h0, q.resolve_left h0, ?_⟩⟩
  · have h0 : v = 0 := h0
    rw [h, h0]
  · have h0 : ¬ v = 0 := h0
    rw [h, q.resolve_left h0]

set_option maxHeartbeats 4000000 in
set_option maxRecDepth 100000 in
theorem s_X12_advance {N : Nat} (hN : 1048576 ≤ N)  {σ0 : zS}  (hR : RF σ0.2.2) (hA : (0 ≤ (σ0.1 218 10).toInt ∧ (σ0.1 218 10).toInt ≤ (σ0.1 218 9).toInt) ∧ (σ0.1 218 9).toInt ≤ 600) (hY : BYT (σ0.1 224)) : Ok (f_X12_advance N 218 σ0) (fun r => Tr [218] σ0 r.2 ∧ ((TOK r.2.1 ∧ (σ0.1 218 10).toInt ≤ (r.2.1 218 11).toInt) ∧ (r.2.1 218 7 = σ0.1 218 7 ∧ r.2.1 218 9 = σ0.1 218 9 ∧ r.2.1 218 14 = σ0.1 218 14 ∧ r.2.1 218 15 = σ0.1 218 15 ∧ r.2.1 218 20 = σ0.1 218 20 ∧ r.2.1 218 22 = σ0.1 218 22 ∧ r.2.1 218 23 = σ0.1 218 23 ∧ r.2.1 218 24 = σ0.1 218 24 ∧ r.2.1 218 25 = σ0.1 218 25))) := by
  have hT : Tr [218] σ0 σ0 := Tr.rf
  have hA1 := hA.1
  have hA2 := hA.2
  rw [f_X12_advance.eq_1]
  refine ok_lp (fun t : zS => Tr [218] σ0 (t) ∧ ((σ0.1 218 10).toInt ≤ ((t).1 218 10).toInt ∧ ((t).1 218 10).toInt ≤ (σ0.1 218 9).toInt) ∧ ((t).1 218 7 = (σ0.1 218 7)) ∧ ((t).1 218 9 = (σ0.1 218 9)) ∧ ((t).1 218 11 = (σ0.1 218 11)) ∧ ((t).1 218 12 = (σ0.1 218 12)) ∧ ((t).1 218 13 = (σ0.1 218 13)) ∧ ((t).1 218 14 = (σ0.1 218 14)) ∧ ((t).1 218 15 = (σ0.1 218 15)) ∧ ((t).1 218 20 = (σ0.1 218 20)) ∧ ((t).1 218 22 = (σ0.1 218 22)) ∧ ((t).1 218 23 = (σ0.1 218 23)) ∧ ((t).1 218 24 = (σ0.1 218 24)) ∧ ((t).1 218 25 = (σ0.1 218 25))) (fun t : zS => (600 - ((t).1 218 10).toInt).toNat) (fun again1 t hI ih0_1 => ?_) N _ (show Tr [218] σ0 σ0 ∧ ((σ0.1 218 10).toInt ≤ (σ0.1 218 10).toInt ∧ (σ0.1 218 10).toInt ≤ (σ0.1 218 9).toInt) ∧ (σ0.1 218 7 = (σ0.1 218 7)) ∧ (σ0.1 218 9 = (σ0.1 218 9)) ∧ (σ0.1 218 11 = (σ0.1 218 11)) ∧ (σ0.1 218 12 = (σ0.1 218 12)) ∧ (σ0.1 218 13 = (σ0.1 218 13)) ∧ (σ0.1 218 14 = (σ0.1 218 14)) ∧ (σ0.1 218 15 = (σ0.1 218 15)) ∧ (σ0.1 218 20 = (σ0.1 218 20)) ∧ (σ0.1 218 22 = (σ0.1 218 22)) ∧ (σ0.1 218 23 = (σ0.1 218 23)) ∧ (σ0.1 218 24 = (σ0.1 218 24)) ∧ (σ0.1 218 25 = (σ0.1 218 25)) from ⟨hT, (by exact ⟨Int.le_refl _, by omega⟩), rfl, rfl, rfl, rfl, rfl, rfl, rfl, rfl, rfl, rfl, rfl, rfl⟩) (show (600 - (σ0.1 218 10).toInt).toNat < N from (by (skip); first | omega | decide | (simp only [Int32.le_iff_toInt_le, Int32.lt_iff_toInt_lt, ti_add, ti_sub, ti_mul, Int32.reduceToInt] at *; omega)))
  obtain ⟨σ1, rfl⟩ : ∃ x, x = t := ⟨t, rfl⟩
  have hI : Tr [218] σ0 σ1 ∧ ((σ0.1 218 10).toInt ≤ (σ1.1 218 10).toInt ∧ (σ1.1 218 10).toInt ≤ (σ0.1 218 9).toInt) ∧ (σ1.1 218 7 = (σ0.1 218 7)) ∧ (σ1.1 218 9 = (σ0.1 218 9)) ∧ (σ1.1 218 11 = (σ0.1 218 11)) ∧ (σ1.1 218 12 = (σ0.1 218 12)) ∧ (σ1.1 218 13 = (σ0.1 218 13)) ∧ (σ1.1 218 14 = (σ0.1 218 14)) ∧ (σ1.1 218 15 = (σ0.1 218 15)) ∧ (σ1.1 218 20 = (σ0.1 218 20)) ∧ (σ1.1 218 22 = (σ0.1 218 22)) ∧ (σ1.1 218 23 = (σ0.1 218 23)) ∧ (σ1.1 218 24 = (σ0.1 218 24)) ∧ (σ1.1 218 25 = (σ0.1 218 25)) := hI
  obtain ⟨hT, hI1, g7_σ1, g9_σ1, g11_σ1, g12_σ1, g13_σ1, g14_σ1, g15_σ1, g20_σ1, g22_σ1, g23_σ1, g24_σ1, g25_σ1⟩ := hI
  rw [F_X12_advance_0.eq_1]
  refine ok_gI rfl ?_
  refine ok_gC rfl ?_
  refine ok_zbX (Q := fun V => V = seeV (σ1.1 218 9) (σ1.1 224) (σ1.1 218 10)) (x_X12_see (hR.tr hT) (by (try simp only [g7_σ1, g9_σ1, g11_σ1, g12_σ1, g13_σ1, g14_σ1, g15_σ1, g20_σ1, g22_σ1, g23_σ1, g24_σ1, g25_σ1]); omega) (by (try simp only [g7_σ1, g9_σ1, g11_σ1, g12_σ1, g13_σ1, g14_σ1, g15_σ1, g20_σ1, g22_σ1, g23_σ1, g24_σ1, g25_σ1]); omega)) (fun v3 hqv3 => ?_)
  have hqv3 : v3 = seeV (σ1.1 218 9) (σ1.1 224) (σ1.1 218 10) := hqv3
  try simp only [g7_σ1, g9_σ1, g11_σ1, g12_σ1, g13_σ1, g14_σ1, g15_σ1, g20_σ1, g22_σ1, g23_σ1, g24_σ1, g25_σ1, hT.2 224 (by decide)] at hqv3
  refine ok_if (fun hc5 => ?_) (fun hc5 => ?_)
  · have hs := see_lt (hqv3.symm.trans hc5) (by decide)
    have s9 : ((σ1.1 218 10) + 1).toInt = (σ1.1 218 10).toInt + 1 := by rw [ti_add]; simp only [Int32.reduceToInt]; omega
    refine ok_gI rfl ?_
    refine ok_pI hT rfl (by decide) (fun σ7 eσ7 hOσ7 hT => ?_)
    have g7_σ7 : σ7.1 218 7 = (σ0.1 218 7) := (zI_atN eσ7 (by decide)).trans g7_σ1
    have g9_σ7 : σ7.1 218 9 = (σ0.1 218 9) := (zI_atN eσ7 (by decide)).trans g9_σ1
    have g10_σ7 : σ7.1 218 10 = ((σ1.1 218 10) + 1) := zI_atI eσ7
    have g11_σ7 : σ7.1 218 11 = (σ0.1 218 11) := (zI_atN eσ7 (by decide)).trans g11_σ1
    have g12_σ7 : σ7.1 218 12 = (σ0.1 218 12) := (zI_atN eσ7 (by decide)).trans g12_σ1
    have g13_σ7 : σ7.1 218 13 = (σ0.1 218 13) := (zI_atN eσ7 (by decide)).trans g13_σ1
    have g14_σ7 : σ7.1 218 14 = (σ0.1 218 14) := (zI_atN eσ7 (by decide)).trans g14_σ1
    have g15_σ7 : σ7.1 218 15 = (σ0.1 218 15) := (zI_atN eσ7 (by decide)).trans g15_σ1
    have g20_σ7 : σ7.1 218 20 = (σ0.1 218 20) := (zI_atN eσ7 (by decide)).trans g20_σ1
    have g22_σ7 : σ7.1 218 22 = (σ0.1 218 22) := (zI_atN eσ7 (by decide)).trans g22_σ1
    have g23_σ7 : σ7.1 218 23 = (σ0.1 218 23) := (zI_atN eσ7 (by decide)).trans g23_σ1
    have g24_σ7 : σ7.1 218 24 = (σ0.1 218 24) := (zI_atN eσ7 (by decide)).trans g24_σ1
    have g25_σ7 : σ7.1 218 25 = (σ0.1 218 25) := (zI_atN eσ7 (by decide)).trans g25_σ1
    exact ih0_1 σ7 (show Tr [218] σ0 σ7 ∧ ((σ0.1 218 10).toInt ≤ (σ7.1 218 10).toInt ∧ (σ7.1 218 10).toInt ≤ (σ0.1 218 9).toInt) ∧ (σ7.1 218 7 = (σ0.1 218 7)) ∧ (σ7.1 218 9 = (σ0.1 218 9)) ∧ (σ7.1 218 11 = (σ0.1 218 11)) ∧ (σ7.1 218 12 = (σ0.1 218 12)) ∧ (σ7.1 218 13 = (σ0.1 218 13)) ∧ (σ7.1 218 14 = (σ0.1 218 14)) ∧ (σ7.1 218 15 = (σ0.1 218 15)) ∧ (σ7.1 218 20 = (σ0.1 218 20)) ∧ (σ7.1 218 22 = (σ0.1 218 22)) ∧ (σ7.1 218 23 = (σ0.1 218 23)) ∧ (σ7.1 218 24 = (σ0.1 218 24)) ∧ (σ7.1 218 25 = (σ0.1 218 25)) from ⟨hT, (by (try simp only [g7_σ7, g9_σ7, g10_σ7, g11_σ7, g12_σ7, g13_σ7, g14_σ7, g15_σ7, g20_σ7, g22_σ7, g23_σ7, g24_σ7, g25_σ7]); rw [s9]; omega), g7_σ7, g9_σ7, g11_σ7, g12_σ7, g13_σ7, g14_σ7, g15_σ7, g20_σ7, g22_σ7, g23_σ7, g24_σ7, g25_σ7⟩) (show (600 - (σ7.1 218 10).toInt).toNat < (600 - (σ1.1 218 10).toInt).toNat from (by (try simp only [g7_σ7, g9_σ7, g10_σ7, g11_σ7, g12_σ7, g13_σ7, g14_σ7, g15_σ7, g20_σ7, g22_σ7, g23_σ7, g24_σ7, g25_σ7]); rw [s9]; omega))
  · refine ok_gI rfl ?_
    refine ok_gC rfl ?_
    refine ok_zbX (Q := fun V => V = seeV (σ1.1 218 9) (σ1.1 224) (σ1.1 218 10)) (x_X12_see (hR.tr hT) (by (try simp only [g7_σ1, g9_σ1, g11_σ1, g12_σ1, g13_σ1, g14_σ1, g15_σ1, g20_σ1, g22_σ1, g23_σ1, g24_σ1, g25_σ1]); omega) (by (try simp only [g7_σ1, g9_σ1, g11_σ1, g12_σ1, g13_σ1, g14_σ1, g15_σ1, g20_σ1, g22_σ1, g23_σ1, g24_σ1, g25_σ1]); omega)) (fun v9 hqv9 => ?_)
    have hqv9 : v9 = seeV (σ1.1 218 9) (σ1.1 224) (σ1.1 218 10) := hqv9
    try simp only [g7_σ1, g9_σ1, g11_σ1, g12_σ1, g13_σ1, g14_σ1, g15_σ1, g20_σ1, g22_σ1, g23_σ1, g24_σ1, g25_σ1, hT.2 224 (by decide)] at hqv9
    refine ok_if (fun hc11 => ?_) (fun hc11 => ?_)
    · have hs := see_lt (hqv9.symm.trans hc11) (by decide)
      have s9 : ((σ1.1 218 10) + 1).toInt = (σ1.1 218 10).toInt + 1 := by rw [ti_add]; simp only [Int32.reduceToInt]; omega
      refine ok_gI rfl ?_
      refine ok_pI hT rfl (by decide) (fun σ13 eσ13 hOσ13 hT => ?_)
      have g7_σ13 : σ13.1 218 7 = (σ0.1 218 7) := (zI_atN eσ13 (by decide)).trans g7_σ1
      have g9_σ13 : σ13.1 218 9 = (σ0.1 218 9) := (zI_atN eσ13 (by decide)).trans g9_σ1
      have g10_σ13 : σ13.1 218 10 = ((σ1.1 218 10) + 1) := zI_atI eσ13
      have g11_σ13 : σ13.1 218 11 = (σ0.1 218 11) := (zI_atN eσ13 (by decide)).trans g11_σ1
      have g12_σ13 : σ13.1 218 12 = (σ0.1 218 12) := (zI_atN eσ13 (by decide)).trans g12_σ1
      have g13_σ13 : σ13.1 218 13 = (σ0.1 218 13) := (zI_atN eσ13 (by decide)).trans g13_σ1
      have g14_σ13 : σ13.1 218 14 = (σ0.1 218 14) := (zI_atN eσ13 (by decide)).trans g14_σ1
      have g15_σ13 : σ13.1 218 15 = (σ0.1 218 15) := (zI_atN eσ13 (by decide)).trans g15_σ1
      have g20_σ13 : σ13.1 218 20 = (σ0.1 218 20) := (zI_atN eσ13 (by decide)).trans g20_σ1
      have g22_σ13 : σ13.1 218 22 = (σ0.1 218 22) := (zI_atN eσ13 (by decide)).trans g22_σ1
      have g23_σ13 : σ13.1 218 23 = (σ0.1 218 23) := (zI_atN eσ13 (by decide)).trans g23_σ1
      have g24_σ13 : σ13.1 218 24 = (σ0.1 218 24) := (zI_atN eσ13 (by decide)).trans g24_σ1
      have g25_σ13 : σ13.1 218 25 = (σ0.1 218 25) := (zI_atN eσ13 (by decide)).trans g25_σ1
      exact ih0_1 σ13 (show Tr [218] σ0 σ13 ∧ ((σ0.1 218 10).toInt ≤ (σ13.1 218 10).toInt ∧ (σ13.1 218 10).toInt ≤ (σ0.1 218 9).toInt) ∧ (σ13.1 218 7 = (σ0.1 218 7)) ∧ (σ13.1 218 9 = (σ0.1 218 9)) ∧ (σ13.1 218 11 = (σ0.1 218 11)) ∧ (σ13.1 218 12 = (σ0.1 218 12)) ∧ (σ13.1 218 13 = (σ0.1 218 13)) ∧ (σ13.1 218 14 = (σ0.1 218 14)) ∧ (σ13.1 218 15 = (σ0.1 218 15)) ∧ (σ13.1 218 20 = (σ0.1 218 20)) ∧ (σ13.1 218 22 = (σ0.1 218 22)) ∧ (σ13.1 218 23 = (σ0.1 218 23)) ∧ (σ13.1 218 24 = (σ0.1 218 24)) ∧ (σ13.1 218 25 = (σ0.1 218 25)) from ⟨hT, (by (try simp only [g7_σ13, g9_σ13, g10_σ13, g11_σ13, g12_σ13, g13_σ13, g14_σ13, g15_σ13, g20_σ13, g22_σ13, g23_σ13, g24_σ13, g25_σ13]); rw [s9]; omega), g7_σ13, g9_σ13, g11_σ13, g12_σ13, g13_σ13, g14_σ13, g15_σ13, g20_σ13, g22_σ13, g23_σ13, g24_σ13, g25_σ13⟩) (show (600 - (σ13.1 218 10).toInt).toNat < (600 - (σ1.1 218 10).toInt).toNat from (by (try simp only [g7_σ13, g9_σ13, g10_σ13, g11_σ13, g12_σ13, g13_σ13, g14_σ13, g15_σ13, g20_σ13, g22_σ13, g23_σ13, g24_σ13, g25_σ13]); rw [s9]; omega))
    · refine ok_gI rfl ?_
      refine ok_pI hT rfl (by decide) (fun σ15 eσ15 hOσ15 hT => ?_)
      have g7_σ15 : σ15.1 218 7 = (σ0.1 218 7) := (zI_atN eσ15 (by decide)).trans g7_σ1
      have g9_σ15 : σ15.1 218 9 = (σ0.1 218 9) := (zI_atN eσ15 (by decide)).trans g9_σ1
      have g10_σ15 : σ15.1 218 10 = (σ1.1 218 10) := zI_atN eσ15 (by decide)
      have g11_σ15 : σ15.1 218 11 = (σ1.1 218 10) := zI_atI eσ15
      have g12_σ15 : σ15.1 218 12 = (σ0.1 218 12) := (zI_atN eσ15 (by decide)).trans g12_σ1
      have g13_σ15 : σ15.1 218 13 = (σ0.1 218 13) := (zI_atN eσ15 (by decide)).trans g13_σ1
      have g14_σ15 : σ15.1 218 14 = (σ0.1 218 14) := (zI_atN eσ15 (by decide)).trans g14_σ1
      have g15_σ15 : σ15.1 218 15 = (σ0.1 218 15) := (zI_atN eσ15 (by decide)).trans g15_σ1
      have g20_σ15 : σ15.1 218 20 = (σ0.1 218 20) := (zI_atN eσ15 (by decide)).trans g20_σ1
      have g22_σ15 : σ15.1 218 22 = (σ0.1 218 22) := (zI_atN eσ15 (by decide)).trans g22_σ1
      have g23_σ15 : σ15.1 218 23 = (σ0.1 218 23) := (zI_atN eσ15 (by decide)).trans g23_σ1
      have g24_σ15 : σ15.1 218 24 = (σ0.1 218 24) := (zI_atN eσ15 (by decide)).trans g24_σ1
      have g25_σ15 : σ15.1 218 25 = (σ0.1 218 25) := (zI_atN eσ15 (by decide)).trans g25_σ1
      refine ok_gIv rfl g10_σ15 ?_
      refine ok_gC rfl ?_
      refine ok_zbX (Q := fun V => V = seeV (σ15.1 218 9) (σ15.1 224) (σ1.1 218 10)) (x_X12_see (hR.tr hT) (by (try simp only [g7_σ15, g9_σ15, g10_σ15, g11_σ15, g12_σ15, g13_σ15, g14_σ15, g15_σ15, g20_σ15, g22_σ15, g23_σ15, g24_σ15, g25_σ15]); omega) (by (try simp only [g7_σ15, g9_σ15, g10_σ15, g11_σ15, g12_σ15, g13_σ15, g14_σ15, g15_σ15, g20_σ15, g22_σ15, g23_σ15, g24_σ15, g25_σ15]); omega)) (fun v17 hqv17 => ?_)
      have hqv17 : v17 = seeV (σ15.1 218 9) (σ15.1 224) (σ1.1 218 10) := hqv17
      try simp only [g7_σ15, g9_σ15, g10_σ15, g11_σ15, g12_σ15, g13_σ15, g14_σ15, g15_σ15, g20_σ15, g22_σ15, g23_σ15, g24_σ15, g25_σ15, hT.2 224 (by decide)] at hqv17
      have see52 := hqv17
      refine ok_if (fun hc19 => ?_) (fun hc19 => ?_)
      · refine ok_pI hT rfl (by decide) (fun σ20 eσ20 hOσ20 hT => ?_)
        have g7_σ20 : σ20.1 218 7 = (σ0.1 218 7) := (zI_atN eσ20 (by decide)).trans g7_σ15
        have g9_σ20 : σ20.1 218 9 = (σ0.1 218 9) := (zI_atN eσ20 (by decide)).trans g9_σ15
        have g10_σ20 : σ20.1 218 10 = (σ1.1 218 10) := (zI_atN eσ20 (by decide)).trans g10_σ15
        have g11_σ20 : σ20.1 218 11 = (σ1.1 218 10) := (zI_atN eσ20 (by decide)).trans g11_σ15
        have g12_σ20 : σ20.1 218 12 = (0 : Int32) := zI_atI eσ20
        have g13_σ20 : σ20.1 218 13 = (σ0.1 218 13) := (zI_atN eσ20 (by decide)).trans g13_σ15
        have g14_σ20 : σ20.1 218 14 = (σ0.1 218 14) := (zI_atN eσ20 (by decide)).trans g14_σ15
        have g15_σ20 : σ20.1 218 15 = (σ0.1 218 15) := (zI_atN eσ20 (by decide)).trans g15_σ15
        have g20_σ20 : σ20.1 218 20 = (σ0.1 218 20) := (zI_atN eσ20 (by decide)).trans g20_σ15
        have g22_σ20 : σ20.1 218 22 = (σ0.1 218 22) := (zI_atN eσ20 (by decide)).trans g22_σ15
        have g23_σ20 : σ20.1 218 23 = (σ0.1 218 23) := (zI_atN eσ20 (by decide)).trans g23_σ15
        have g24_σ20 : σ20.1 218 24 = (σ0.1 218 24) := (zI_atN eσ20 (by decide)).trans g24_σ15
        have g25_σ20 : σ20.1 218 25 = (σ0.1 218 25) := (zI_atN eσ20 (by decide)).trans g25_σ15
        exact ok_some ⟨hT, (show (TOK σ20.1 ∧ (σ0.1 218 10).toInt ≤ (σ20.1 218 11).toInt) ∧ (σ20.1 218 7 = σ0.1 218 7 ∧ σ20.1 218 9 = σ0.1 218 9 ∧ σ20.1 218 14 = σ0.1 218 14 ∧ σ20.1 218 15 = σ0.1 218 15 ∧ σ20.1 218 20 = σ0.1 218 20 ∧ σ20.1 218 22 = σ0.1 218 22 ∧ σ20.1 218 23 = σ0.1 218 23 ∧ σ20.1 218 24 = σ0.1 218 24 ∧ σ20.1 218 25 = σ0.1 218 25) from ⟨by first | exact ⟨TOK_i g9_σ20 g10_σ20 g11_σ20 g12_σ20 (hT.2 224 (by decide)) (by omega) (by omega) (by omega) (by omega) (fun q => absurd rfl q) (fun q => absurd q (by decide)), by (try simp only [g7_σ20, g9_σ20, g10_σ20, g11_σ20, g12_σ20, g13_σ20, g14_σ20, g15_σ20, g20_σ20, g22_σ20, g23_σ20, g24_σ20, g25_σ20]); omega⟩ | exact ⟨TOK_i g9_σ20 g10_σ20 g11_σ20 g12_σ20 (hT.2 224 (by decide)) (by omega) (by omega) (by omega) (by omega) (fun _ => n83) (fun _ => w83), by (try simp only [g7_σ20, g9_σ20, g10_σ20, g11_σ20, g12_σ20, g13_σ20, g14_σ20, g15_σ20, g20_σ20, g22_σ20, g23_σ20, g24_σ20, g25_σ20]); omega⟩ | exact ⟨TOK_i g9_σ20 g10_σ20 g11_σ20 g12_σ20 (hT.2 224 (by decide)) (by omega) (by omega) (by omega) (by omega) (fun _ => n83) (fun q => absurd q (by decide)), by (try simp only [g7_σ20, g9_σ20, g10_σ20, g11_σ20, g12_σ20, g13_σ20, g14_σ20, g15_σ20, g20_σ20, g22_σ20, g23_σ20, g24_σ20, g25_σ20]); omega⟩ | exact ⟨TOK_i g9_σ20 g10_σ20 g11_σ20 g12_σ20 (hT.2 224 (by decide)) (by omega) (by rw [s9]; omega) (by rw [s9]; omega) (by omega) (fun _ => by rw [s9]; omega) (fun q => by first | exact absurd q (by decide) | (exfalso; rw [q] at k35; revert k35; decide)), by (try simp only [g7_σ20, g9_σ20, g10_σ20, g11_σ20, g12_σ20, g13_σ20, g14_σ20, g15_σ20, g20_σ20, g22_σ20, g23_σ20, g24_σ20, g25_σ20]); omega⟩, g7_σ20, g9_σ20, g14_σ20, g15_σ20, g20_σ20, g22_σ20, g23_σ20, g24_σ20, g25_σ20⟩)⟩
      · have lt52 := see_lt see52.symm hc19
        have s9 : ((σ1.1 218 10) + 1).toInt = (σ1.1 218 10).toInt + 1 := by rw [ti_add]; simp only [Int32.reduceToInt]; omega
        refine ok_zbX (Q := fun V => (V = 0 → ¬ ((97 : Int64).toInt ≤ (Int32.toInt64 v17).toInt ∧ (Int32.toInt64 v17).toInt ≤ (122 : Int64).toInt)) ∧ (¬ V = 0 → (97 : Int64).toInt ≤ (Int32.toInt64 v17).toInt ∧ (Int32.toInt64 v17).toInt ≤ (122 : Int64).toInt)) (xi_X12_in) (fun v21 hqv21 => ?_)
        have hqv21 : (v21 = 0 → ¬ ((97 : Int64).toInt ≤ (Int32.toInt64 v17).toInt ∧ (Int32.toInt64 v17).toInt ≤ (122 : Int64).toInt)) ∧ (¬ v21 = 0 → (97 : Int64).toInt ≤ (Int32.toInt64 v17).toInt ∧ (Int32.toInt64 v17).toInt ≤ (122 : Int64).toInt) := hqv21
        try simp only [g7_σ15, g9_σ15, g10_σ15, g11_σ15, g12_σ15, g13_σ15, g14_σ15, g15_σ15, g20_σ15, g22_σ15, g23_σ15, g24_σ15, g25_σ15, hT.2 224 (by decide)] at hqv21
        simp only [i64_of, Int64.reduceToInt] at hqv21
        refine ok_if (fun hc23 => ?_) (fun hc23 => ?_)
        · have qhc23 := hqv21.1 hc23
          refine ok_zbX (Q := fun V => (V = 0 → ¬ ((48 : Int64).toInt ≤ (Int32.toInt64 v17).toInt ∧ (Int32.toInt64 v17).toInt ≤ (57 : Int64).toInt)) ∧ (¬ V = 0 → (48 : Int64).toInt ≤ (Int32.toInt64 v17).toInt ∧ (Int32.toInt64 v17).toInt ≤ (57 : Int64).toInt)) (xi_X12_in) (fun v24 hqv24 => ?_)
          have hqv24 : (v24 = 0 → ¬ ((48 : Int64).toInt ≤ (Int32.toInt64 v17).toInt ∧ (Int32.toInt64 v17).toInt ≤ (57 : Int64).toInt)) ∧ (¬ v24 = 0 → (48 : Int64).toInt ≤ (Int32.toInt64 v17).toInt ∧ (Int32.toInt64 v17).toInt ≤ (57 : Int64).toInt) := hqv24
          try simp only [g7_σ15, g9_σ15, g10_σ15, g11_σ15, g12_σ15, g13_σ15, g14_σ15, g15_σ15, g20_σ15, g22_σ15, g23_σ15, g24_σ15, g25_σ15, hT.2 224 (by decide)] at hqv24
          simp only [i64_of, Int64.reduceToInt] at hqv24
          refine ok_if (fun hc26 => ?_) (fun hc26 => ?_)
          · have qhc26 := hqv24.1 hc26
            refine ok_zbX (Q := fun V => (V = 0 → True) ∧ (¬ V = 0 → 35 ≤ v17.toInt)) (x_X12_isSign) (fun v27 hqv27 => ?_)
            have hqv27 : (v27 = 0 → True) ∧ (¬ v27 = 0 → 35 ≤ v17.toInt) := hqv27
            try simp only [g7_σ15, g9_σ15, g10_σ15, g11_σ15, g12_σ15, g13_σ15, g14_σ15, g15_σ15, g20_σ15, g22_σ15, g23_σ15, g24_σ15, g25_σ15, hT.2 224 (by decide)] at hqv27
            refine ok_if (fun hc29 => ?_) (fun hc29 => ?_)
            · have qhc29 := hqv27.1 hc29
              refine ok_pI hT rfl (by decide) (fun σ30 eσ30 hOσ30 hT => ?_)
              have g7_σ30 : σ30.1 218 7 = (σ0.1 218 7) := (zI_atN eσ30 (by decide)).trans g7_σ15
              have g9_σ30 : σ30.1 218 9 = (σ0.1 218 9) := (zI_atN eσ30 (by decide)).trans g9_σ15
              have g10_σ30 : σ30.1 218 10 = (σ1.1 218 10) := (zI_atN eσ30 (by decide)).trans g10_σ15
              have g11_σ30 : σ30.1 218 11 = (σ1.1 218 10) := (zI_atN eσ30 (by decide)).trans g11_σ15
              have g12_σ30 : σ30.1 218 12 = (3 : Int32) := zI_atI eσ30
              have g13_σ30 : σ30.1 218 13 = (σ0.1 218 13) := (zI_atN eσ30 (by decide)).trans g13_σ15
              have g14_σ30 : σ30.1 218 14 = (σ0.1 218 14) := (zI_atN eσ30 (by decide)).trans g14_σ15
              have g15_σ30 : σ30.1 218 15 = (σ0.1 218 15) := (zI_atN eσ30 (by decide)).trans g15_σ15
              have g20_σ30 : σ30.1 218 20 = (σ0.1 218 20) := (zI_atN eσ30 (by decide)).trans g20_σ15
              have g22_σ30 : σ30.1 218 22 = (σ0.1 218 22) := (zI_atN eσ30 (by decide)).trans g22_σ15
              have g23_σ30 : σ30.1 218 23 = (σ0.1 218 23) := (zI_atN eσ30 (by decide)).trans g23_σ15
              have g24_σ30 : σ30.1 218 24 = (σ0.1 218 24) := (zI_atN eσ30 (by decide)).trans g24_σ15
              have g25_σ30 : σ30.1 218 25 = (σ0.1 218 25) := (zI_atN eσ30 (by decide)).trans g25_σ15
              refine ok_gIv rfl g10_σ30 ?_
              refine ok_pI hT rfl (by decide) (fun σ32 eσ32 hOσ32 hT => ?_)
              have g7_σ32 : σ32.1 218 7 = (σ0.1 218 7) := (zI_atN eσ32 (by decide)).trans g7_σ30
              have g9_σ32 : σ32.1 218 9 = (σ0.1 218 9) := (zI_atN eσ32 (by decide)).trans g9_σ30
              have g10_σ32 : σ32.1 218 10 = ((σ1.1 218 10) + 1) := zI_atI eσ32
              have g11_σ32 : σ32.1 218 11 = (σ1.1 218 10) := (zI_atN eσ32 (by decide)).trans g11_σ30
              have g12_σ32 : σ32.1 218 12 = (3 : Int32) := (zI_atN eσ32 (by decide)).trans g12_σ30
              have g13_σ32 : σ32.1 218 13 = (σ0.1 218 13) := (zI_atN eσ32 (by decide)).trans g13_σ30
              have g14_σ32 : σ32.1 218 14 = (σ0.1 218 14) := (zI_atN eσ32 (by decide)).trans g14_σ30
              have g15_σ32 : σ32.1 218 15 = (σ0.1 218 15) := (zI_atN eσ32 (by decide)).trans g15_σ30
              have g20_σ32 : σ32.1 218 20 = (σ0.1 218 20) := (zI_atN eσ32 (by decide)).trans g20_σ30
              have g22_σ32 : σ32.1 218 22 = (σ0.1 218 22) := (zI_atN eσ32 (by decide)).trans g22_σ30
              have g23_σ32 : σ32.1 218 23 = (σ0.1 218 23) := (zI_atN eσ32 (by decide)).trans g23_σ30
              have g24_σ32 : σ32.1 218 24 = (σ0.1 218 24) := (zI_atN eσ32 (by decide)).trans g24_σ30
              have g25_σ32 : σ32.1 218 25 = (σ0.1 218 25) := (zI_atN eσ32 (by decide)).trans g25_σ30
              exact ok_some ⟨hT, (show (TOK σ32.1 ∧ (σ0.1 218 10).toInt ≤ (σ32.1 218 11).toInt) ∧ (σ32.1 218 7 = σ0.1 218 7 ∧ σ32.1 218 9 = σ0.1 218 9 ∧ σ32.1 218 14 = σ0.1 218 14 ∧ σ32.1 218 15 = σ0.1 218 15 ∧ σ32.1 218 20 = σ0.1 218 20 ∧ σ32.1 218 22 = σ0.1 218 22 ∧ σ32.1 218 23 = σ0.1 218 23 ∧ σ32.1 218 24 = σ0.1 218 24 ∧ σ32.1 218 25 = σ0.1 218 25) from ⟨by first | exact ⟨TOK_i g9_σ32 g10_σ32 g11_σ32 g12_σ32 (hT.2 224 (by decide)) (by omega) (by omega) (by omega) (by omega) (fun q => absurd rfl q) (fun q => absurd q (by decide)), by (try simp only [g7_σ32, g9_σ32, g10_σ32, g11_σ32, g12_σ32, g13_σ32, g14_σ32, g15_σ32, g20_σ32, g22_σ32, g23_σ32, g24_σ32, g25_σ32]); omega⟩ | exact ⟨TOK_i g9_σ32 g10_σ32 g11_σ32 g12_σ32 (hT.2 224 (by decide)) (by omega) (by omega) (by omega) (by omega) (fun _ => n83) (fun _ => w83), by (try simp only [g7_σ32, g9_σ32, g10_σ32, g11_σ32, g12_σ32, g13_σ32, g14_σ32, g15_σ32, g20_σ32, g22_σ32, g23_σ32, g24_σ32, g25_σ32]); omega⟩ | exact ⟨TOK_i g9_σ32 g10_σ32 g11_σ32 g12_σ32 (hT.2 224 (by decide)) (by omega) (by omega) (by omega) (by omega) (fun _ => n83) (fun q => absurd q (by decide)), by (try simp only [g7_σ32, g9_σ32, g10_σ32, g11_σ32, g12_σ32, g13_σ32, g14_σ32, g15_σ32, g20_σ32, g22_σ32, g23_σ32, g24_σ32, g25_σ32]); omega⟩ | exact ⟨TOK_i g9_σ32 g10_σ32 g11_σ32 g12_σ32 (hT.2 224 (by decide)) (by omega) (by rw [s9]; omega) (by rw [s9]; omega) (by omega) (fun _ => by rw [s9]; omega) (fun q => by first | exact absurd q (by decide) | (exfalso; rw [q] at k35; revert k35; decide)), by (try simp only [g7_σ32, g9_σ32, g10_σ32, g11_σ32, g12_σ32, g13_σ32, g14_σ32, g15_σ32, g20_σ32, g22_σ32, g23_σ32, g24_σ32, g25_σ32]); omega⟩, g7_σ32, g9_σ32, g14_σ32, g15_σ32, g20_σ32, g22_σ32, g23_σ32, g24_σ32, g25_σ32⟩)⟩
            · have qhc29 := hqv27.2 hc29
              have k35 := qhc29
              refine ok_pI hT rfl (by decide) (fun σ33 eσ33 hOσ33 hT => ?_)
              have g7_σ33 : σ33.1 218 7 = (σ0.1 218 7) := (zI_atN eσ33 (by decide)).trans g7_σ15
              have g9_σ33 : σ33.1 218 9 = (σ0.1 218 9) := (zI_atN eσ33 (by decide)).trans g9_σ15
              have g10_σ33 : σ33.1 218 10 = (σ1.1 218 10) := (zI_atN eσ33 (by decide)).trans g10_σ15
              have g11_σ33 : σ33.1 218 11 = (σ1.1 218 10) := (zI_atN eσ33 (by decide)).trans g11_σ15
              have g12_σ33 : σ33.1 218 12 = (v17) := zI_atI eσ33
              have g13_σ33 : σ33.1 218 13 = (σ0.1 218 13) := (zI_atN eσ33 (by decide)).trans g13_σ15
              have g14_σ33 : σ33.1 218 14 = (σ0.1 218 14) := (zI_atN eσ33 (by decide)).trans g14_σ15
              have g15_σ33 : σ33.1 218 15 = (σ0.1 218 15) := (zI_atN eσ33 (by decide)).trans g15_σ15
              have g20_σ33 : σ33.1 218 20 = (σ0.1 218 20) := (zI_atN eσ33 (by decide)).trans g20_σ15
              have g22_σ33 : σ33.1 218 22 = (σ0.1 218 22) := (zI_atN eσ33 (by decide)).trans g22_σ15
              have g23_σ33 : σ33.1 218 23 = (σ0.1 218 23) := (zI_atN eσ33 (by decide)).trans g23_σ15
              have g24_σ33 : σ33.1 218 24 = (σ0.1 218 24) := (zI_atN eσ33 (by decide)).trans g24_σ15
              have g25_σ33 : σ33.1 218 25 = (σ0.1 218 25) := (zI_atN eσ33 (by decide)).trans g25_σ15
              refine ok_gIv rfl g10_σ33 ?_
              refine ok_pI hT rfl (by decide) (fun σ35 eσ35 hOσ35 hT => ?_)
              have g7_σ35 : σ35.1 218 7 = (σ0.1 218 7) := (zI_atN eσ35 (by decide)).trans g7_σ33
              have g9_σ35 : σ35.1 218 9 = (σ0.1 218 9) := (zI_atN eσ35 (by decide)).trans g9_σ33
              have g10_σ35 : σ35.1 218 10 = ((σ1.1 218 10) + 1) := zI_atI eσ35
              have g11_σ35 : σ35.1 218 11 = (σ1.1 218 10) := (zI_atN eσ35 (by decide)).trans g11_σ33
              have g12_σ35 : σ35.1 218 12 = (v17) := (zI_atN eσ35 (by decide)).trans g12_σ33
              have g13_σ35 : σ35.1 218 13 = (σ0.1 218 13) := (zI_atN eσ35 (by decide)).trans g13_σ33
              have g14_σ35 : σ35.1 218 14 = (σ0.1 218 14) := (zI_atN eσ35 (by decide)).trans g14_σ33
              have g15_σ35 : σ35.1 218 15 = (σ0.1 218 15) := (zI_atN eσ35 (by decide)).trans g15_σ33
              have g20_σ35 : σ35.1 218 20 = (σ0.1 218 20) := (zI_atN eσ35 (by decide)).trans g20_σ33
              have g22_σ35 : σ35.1 218 22 = (σ0.1 218 22) := (zI_atN eσ35 (by decide)).trans g22_σ33
              have g23_σ35 : σ35.1 218 23 = (σ0.1 218 23) := (zI_atN eσ35 (by decide)).trans g23_σ33
              have g24_σ35 : σ35.1 218 24 = (σ0.1 218 24) := (zI_atN eσ35 (by decide)).trans g24_σ33
              have g25_σ35 : σ35.1 218 25 = (σ0.1 218 25) := (zI_atN eσ35 (by decide)).trans g25_σ33
              exact ok_some ⟨hT, (show (TOK σ35.1 ∧ (σ0.1 218 10).toInt ≤ (σ35.1 218 11).toInt) ∧ (σ35.1 218 7 = σ0.1 218 7 ∧ σ35.1 218 9 = σ0.1 218 9 ∧ σ35.1 218 14 = σ0.1 218 14 ∧ σ35.1 218 15 = σ0.1 218 15 ∧ σ35.1 218 20 = σ0.1 218 20 ∧ σ35.1 218 22 = σ0.1 218 22 ∧ σ35.1 218 23 = σ0.1 218 23 ∧ σ35.1 218 24 = σ0.1 218 24 ∧ σ35.1 218 25 = σ0.1 218 25) from ⟨by first | exact ⟨TOK_i g9_σ35 g10_σ35 g11_σ35 g12_σ35 (hT.2 224 (by decide)) (by omega) (by omega) (by omega) (by omega) (fun q => absurd rfl q) (fun q => absurd q (by decide)), by (try simp only [g7_σ35, g9_σ35, g10_σ35, g11_σ35, g12_σ35, g13_σ35, g14_σ35, g15_σ35, g20_σ35, g22_σ35, g23_σ35, g24_σ35, g25_σ35]); omega⟩ | exact ⟨TOK_i g9_σ35 g10_σ35 g11_σ35 g12_σ35 (hT.2 224 (by decide)) (by omega) (by omega) (by omega) (by omega) (fun _ => n83) (fun _ => w83), by (try simp only [g7_σ35, g9_σ35, g10_σ35, g11_σ35, g12_σ35, g13_σ35, g14_σ35, g15_σ35, g20_σ35, g22_σ35, g23_σ35, g24_σ35, g25_σ35]); omega⟩ | exact ⟨TOK_i g9_σ35 g10_σ35 g11_σ35 g12_σ35 (hT.2 224 (by decide)) (by omega) (by omega) (by omega) (by omega) (fun _ => n83) (fun q => absurd q (by decide)), by (try simp only [g7_σ35, g9_σ35, g10_σ35, g11_σ35, g12_σ35, g13_σ35, g14_σ35, g15_σ35, g20_σ35, g22_σ35, g23_σ35, g24_σ35, g25_σ35]); omega⟩ | exact ⟨TOK_i g9_σ35 g10_σ35 g11_σ35 g12_σ35 (hT.2 224 (by decide)) (by omega) (by rw [s9]; omega) (by rw [s9]; omega) (by omega) (fun _ => by rw [s9]; omega) (fun q => by first | exact absurd q (by decide) | (exfalso; rw [q] at k35; revert k35; decide)), by (try simp only [g7_σ35, g9_σ35, g10_σ35, g11_σ35, g12_σ35, g13_σ35, g14_σ35, g15_σ35, g20_σ35, g22_σ35, g23_σ35, g24_σ35, g25_σ35]); omega⟩, g7_σ35, g9_σ35, g14_σ35, g15_σ35, g20_σ35, g22_σ35, g23_σ35, g24_σ35, g25_σ35⟩)⟩
          · have qhc26 := hqv24.2 hc26
            refine ok_pI hT rfl (by decide) (fun σ36 eσ36 hOσ36 hT => ?_)
            have g7_σ36 : σ36.1 218 7 = (σ0.1 218 7) := (zI_atN eσ36 (by decide)).trans g7_σ15
            have g9_σ36 : σ36.1 218 9 = (σ0.1 218 9) := (zI_atN eσ36 (by decide)).trans g9_σ15
            have g10_σ36 : σ36.1 218 10 = (σ1.1 218 10) := (zI_atN eσ36 (by decide)).trans g10_σ15
            have g11_σ36 : σ36.1 218 11 = (σ1.1 218 10) := (zI_atN eσ36 (by decide)).trans g11_σ15
            have g12_σ36 : σ36.1 218 12 = (σ0.1 218 12) := (zI_atN eσ36 (by decide)).trans g12_σ15
            have g13_σ36 : σ36.1 218 13 = (0 : Int32) := zI_atI eσ36
            have g14_σ36 : σ36.1 218 14 = (σ0.1 218 14) := (zI_atN eσ36 (by decide)).trans g14_σ15
            have g15_σ36 : σ36.1 218 15 = (σ0.1 218 15) := (zI_atN eσ36 (by decide)).trans g15_σ15
            have g20_σ36 : σ36.1 218 20 = (σ0.1 218 20) := (zI_atN eσ36 (by decide)).trans g20_σ15
            have g22_σ36 : σ36.1 218 22 = (σ0.1 218 22) := (zI_atN eσ36 (by decide)).trans g22_σ15
            have g23_σ36 : σ36.1 218 23 = (σ0.1 218 23) := (zI_atN eσ36 (by decide)).trans g23_σ15
            have g24_σ36 : σ36.1 218 24 = (σ0.1 218 24) := (zI_atN eσ36 (by decide)).trans g24_σ15
            have g25_σ36 : σ36.1 218 25 = (σ0.1 218 25) := (zI_atN eσ36 (by decide)).trans g25_σ15
            refine ok_lp (fun t : zS => Tr [218] σ0 (t) ∧ ((((t).1 218 11).toInt ≤ ((t).1 218 10).toInt ∧ ((t).1 218 10).toInt ≤ (σ0.1 218 9).toInt) ∧ (((t).1 218 10).toInt = ((t).1 218 11).toInt → 48 ≤ (seeV (σ0.1 218 9) (σ0.1 224) ((t).1 218 10)).toInt ∧ (seeV (σ0.1 218 9) (σ0.1 224) ((t).1 218 10)).toInt ≤ 57)) ∧ ((t).1 218 7 = (σ0.1 218 7)) ∧ ((t).1 218 9 = (σ0.1 218 9)) ∧ ((t).1 218 11 = (σ1.1 218 10)) ∧ ((t).1 218 12 = (σ0.1 218 12)) ∧ ((t).1 218 14 = (σ0.1 218 14)) ∧ ((t).1 218 15 = (σ0.1 218 15)) ∧ ((t).1 218 20 = (σ0.1 218 20)) ∧ ((t).1 218 22 = (σ0.1 218 22)) ∧ ((t).1 218 23 = (σ0.1 218 23)) ∧ ((t).1 218 24 = (σ0.1 218 24)) ∧ ((t).1 218 25 = (σ0.1 218 25))) (fun t : zS => (600 - ((t).1 218 10).toInt).toNat) (fun again37 t hI ih144_37 => ?_) N _ (show Tr [218] σ0 σ36 ∧ (((σ36.1 218 11).toInt ≤ (σ36.1 218 10).toInt ∧ (σ36.1 218 10).toInt ≤ (σ0.1 218 9).toInt) ∧ ((σ36.1 218 10).toInt = (σ36.1 218 11).toInt → 48 ≤ (seeV (σ0.1 218 9) (σ0.1 224) (σ36.1 218 10)).toInt ∧ (seeV (σ0.1 218 9) (σ0.1 224) (σ36.1 218 10)).toInt ≤ 57)) ∧ (σ36.1 218 7 = (σ0.1 218 7)) ∧ (σ36.1 218 9 = (σ0.1 218 9)) ∧ (σ36.1 218 11 = (σ1.1 218 10)) ∧ (σ36.1 218 12 = (σ0.1 218 12)) ∧ (σ36.1 218 14 = (σ0.1 218 14)) ∧ (σ36.1 218 15 = (σ0.1 218 15)) ∧ (σ36.1 218 20 = (σ0.1 218 20)) ∧ (σ36.1 218 22 = (σ0.1 218 22)) ∧ (σ36.1 218 23 = (σ0.1 218 23)) ∧ (σ36.1 218 24 = (σ0.1 218 24)) ∧ (σ36.1 218 25 = (σ0.1 218 25)) from ⟨hT, (by (try simp only [g7_σ36, g9_σ36, g10_σ36, g11_σ36, g12_σ36, g13_σ36, g14_σ36, g15_σ36, g20_σ36, g22_σ36, g23_σ36, g24_σ36, g25_σ36]); exact ⟨⟨by omega, by omega⟩, fun _ => by rw [← see52]; omega⟩), g7_σ36, g9_σ36, g11_σ36, g12_σ36, g14_σ36, g15_σ36, g20_σ36, g22_σ36, g23_σ36, g24_σ36, g25_σ36⟩) (show (600 - (σ36.1 218 10).toInt).toNat < N from (by ((try simp only [g7_σ36, g9_σ36, g10_σ36, g11_σ36, g12_σ36, g13_σ36, g14_σ36, g15_σ36, g20_σ36, g22_σ36, g23_σ36, g24_σ36, g25_σ36])); first | omega | decide | (simp only [Int32.le_iff_toInt_le, Int32.lt_iff_toInt_lt, ti_add, ti_sub, ti_mul, Int32.reduceToInt] at *; omega)))
            obtain ⟨σ37, rfl⟩ : ∃ x, x = t := ⟨t, rfl⟩
            have hI : Tr [218] σ0 σ37 ∧ (((σ37.1 218 11).toInt ≤ (σ37.1 218 10).toInt ∧ (σ37.1 218 10).toInt ≤ (σ0.1 218 9).toInt) ∧ ((σ37.1 218 10).toInt = (σ37.1 218 11).toInt → 48 ≤ (seeV (σ0.1 218 9) (σ0.1 224) (σ37.1 218 10)).toInt ∧ (seeV (σ0.1 218 9) (σ0.1 224) (σ37.1 218 10)).toInt ≤ 57)) ∧ (σ37.1 218 7 = (σ0.1 218 7)) ∧ (σ37.1 218 9 = (σ0.1 218 9)) ∧ (σ37.1 218 11 = (σ1.1 218 10)) ∧ (σ37.1 218 12 = (σ0.1 218 12)) ∧ (σ37.1 218 14 = (σ0.1 218 14)) ∧ (σ37.1 218 15 = (σ0.1 218 15)) ∧ (σ37.1 218 20 = (σ0.1 218 20)) ∧ (σ37.1 218 22 = (σ0.1 218 22)) ∧ (σ37.1 218 23 = (σ0.1 218 23)) ∧ (σ37.1 218 24 = (σ0.1 218 24)) ∧ (σ37.1 218 25 = (σ0.1 218 25)) := hI
            obtain ⟨hT, hI37, g7_σ37, g9_σ37, g11_σ37, g12_σ37, g14_σ37, g15_σ37, g20_σ37, g22_σ37, g23_σ37, g24_σ37, g25_σ37⟩ := hI
            rw [F_X12_advance_144.eq_1]
            rw [g11_σ37] at hI37
            have hb83 := hI37.1
            have e83 := hI37.2
            refine ok_gI rfl ?_
            refine ok_gC rfl ?_
            refine ok_zbX (Q := fun V => V = seeV (σ37.1 218 9) (σ37.1 224) (σ37.1 218 10)) (x_X12_see (hR.tr hT) (by (try simp only [g7_σ37, g9_σ37, g11_σ37, g12_σ37, g14_σ37, g15_σ37, g20_σ37, g22_σ37, g23_σ37, g24_σ37, g25_σ37]); omega) (by (try simp only [g7_σ37, g9_σ37, g11_σ37, g12_σ37, g14_σ37, g15_σ37, g20_σ37, g22_σ37, g23_σ37, g24_σ37, g25_σ37]); omega)) (fun v39 hqv39 => ?_)
            have hqv39 : v39 = seeV (σ37.1 218 9) (σ37.1 224) (σ37.1 218 10) := hqv39
            try simp only [g7_σ37, g9_σ37, g11_σ37, g12_σ37, g14_σ37, g15_σ37, g20_σ37, g22_σ37, g23_σ37, g24_σ37, g25_σ37, hT.2 224 (by decide)] at hqv39
            have see88 := hqv39
            refine ok_zbX (Q := fun V => (V = 0 → ¬ ((48 : Int64).toInt ≤ (Int32.toInt64 v39).toInt ∧ (Int32.toInt64 v39).toInt ≤ (57 : Int64).toInt)) ∧ (¬ V = 0 → (48 : Int64).toInt ≤ (Int32.toInt64 v39).toInt ∧ (Int32.toInt64 v39).toInt ≤ (57 : Int64).toInt)) (xi_X12_in) (fun v41 hqv41 => ?_)
            have hqv41 : (v41 = 0 → ¬ ((48 : Int64).toInt ≤ (Int32.toInt64 v39).toInt ∧ (Int32.toInt64 v39).toInt ≤ (57 : Int64).toInt)) ∧ (¬ v41 = 0 → (48 : Int64).toInt ≤ (Int32.toInt64 v39).toInt ∧ (Int32.toInt64 v39).toInt ≤ (57 : Int64).toInt) := hqv41
            try simp only [g7_σ37, g9_σ37, g11_σ37, g12_σ37, g14_σ37, g15_σ37, g20_σ37, g22_σ37, g23_σ37, g24_σ37, g25_σ37, hT.2 224 (by decide)] at hqv41
            simp only [i64_of, Int64.reduceToInt] at hqv41
            refine ok_if (fun hc43 => ?_) (fun hc43 => ?_)
            · have qhc43 := hqv41.1 hc43
              have u9 := qhc43
              rw [see88] at u9
              have n83 : (σ1.1 218 10).toInt < (σ37.1 218 10).toInt := by omega
              refine ok_pI hT rfl (by decide) (fun σ44 eσ44 hOσ44 hT => ?_)
              have g7_σ44 : σ44.1 218 7 = (σ0.1 218 7) := (zI_atN eσ44 (by decide)).trans g7_σ37
              have g9_σ44 : σ44.1 218 9 = (σ0.1 218 9) := (zI_atN eσ44 (by decide)).trans g9_σ37
              have g10_σ44 : σ44.1 218 10 = (σ37.1 218 10) := zI_atN eσ44 (by decide)
              have g11_σ44 : σ44.1 218 11 = (σ1.1 218 10) := (zI_atN eσ44 (by decide)).trans g11_σ37
              have g12_σ44 : σ44.1 218 12 = (2 : Int32) := zI_atI eσ44
              have g13_σ44 : σ44.1 218 13 = (σ37.1 218 13) := zI_atN eσ44 (by decide)
              have g14_σ44 : σ44.1 218 14 = (σ0.1 218 14) := (zI_atN eσ44 (by decide)).trans g14_σ37
              have g15_σ44 : σ44.1 218 15 = (σ0.1 218 15) := (zI_atN eσ44 (by decide)).trans g15_σ37
              have g20_σ44 : σ44.1 218 20 = (σ0.1 218 20) := (zI_atN eσ44 (by decide)).trans g20_σ37
              have g22_σ44 : σ44.1 218 22 = (σ0.1 218 22) := (zI_atN eσ44 (by decide)).trans g22_σ37
              have g23_σ44 : σ44.1 218 23 = (σ0.1 218 23) := (zI_atN eσ44 (by decide)).trans g23_σ37
              have g24_σ44 : σ44.1 218 24 = (σ0.1 218 24) := (zI_atN eσ44 (by decide)).trans g24_σ37
              have g25_σ44 : σ44.1 218 25 = (σ0.1 218 25) := (zI_atN eσ44 (by decide)).trans g25_σ37
              exact ok_some ⟨hT, (show (TOK σ44.1 ∧ (σ0.1 218 10).toInt ≤ (σ44.1 218 11).toInt) ∧ (σ44.1 218 7 = σ0.1 218 7 ∧ σ44.1 218 9 = σ0.1 218 9 ∧ σ44.1 218 14 = σ0.1 218 14 ∧ σ44.1 218 15 = σ0.1 218 15 ∧ σ44.1 218 20 = σ0.1 218 20 ∧ σ44.1 218 22 = σ0.1 218 22 ∧ σ44.1 218 23 = σ0.1 218 23 ∧ σ44.1 218 24 = σ0.1 218 24 ∧ σ44.1 218 25 = σ0.1 218 25) from ⟨by first | exact ⟨TOK_i g9_σ44 g10_σ44 g11_σ44 g12_σ44 (hT.2 224 (by decide)) (by omega) (by omega) (by omega) (by omega) (fun q => absurd rfl q) (fun q => absurd q (by decide)), by (try simp only [g7_σ44, g9_σ44, g10_σ44, g11_σ44, g12_σ44, g13_σ44, g14_σ44, g15_σ44, g20_σ44, g22_σ44, g23_σ44, g24_σ44, g25_σ44]); omega⟩ | exact ⟨TOK_i g9_σ44 g10_σ44 g11_σ44 g12_σ44 (hT.2 224 (by decide)) (by omega) (by omega) (by omega) (by omega) (fun _ => n83) (fun _ => w83), by (try simp only [g7_σ44, g9_σ44, g10_σ44, g11_σ44, g12_σ44, g13_σ44, g14_σ44, g15_σ44, g20_σ44, g22_σ44, g23_σ44, g24_σ44, g25_σ44]); omega⟩ | exact ⟨TOK_i g9_σ44 g10_σ44 g11_σ44 g12_σ44 (hT.2 224 (by decide)) (by omega) (by omega) (by omega) (by omega) (fun _ => n83) (fun q => absurd q (by decide)), by (try simp only [g7_σ44, g9_σ44, g10_σ44, g11_σ44, g12_σ44, g13_σ44, g14_σ44, g15_σ44, g20_σ44, g22_σ44, g23_σ44, g24_σ44, g25_σ44]); omega⟩ | exact ⟨TOK_i g9_σ44 g10_σ44 g11_σ44 g12_σ44 (hT.2 224 (by decide)) (by omega) (by rw [s9]; omega) (by rw [s9]; omega) (by omega) (fun _ => by rw [s9]; omega) (fun q => by first | exact absurd q (by decide) | (exfalso; rw [q] at k35; revert k35; decide)), by (try simp only [g7_σ44, g9_σ44, g10_σ44, g11_σ44, g12_σ44, g13_σ44, g14_σ44, g15_σ44, g20_σ44, g22_σ44, g23_σ44, g24_σ44, g25_σ44]); omega⟩, g7_σ44, g9_σ44, g14_σ44, g15_σ44, g20_σ44, g22_σ44, g23_σ44, g24_σ44, g25_σ44⟩)⟩
            · have qhc43 := hqv41.2 hc43
              have r9 := see_az hY (by rw [← see88]; omega)
              have s9 : ((σ37.1 218 10) + 1).toInt = (σ37.1 218 10).toInt + 1 := by rw [ti_add]; simp only [Int32.reduceToInt]; omega
              refine ok_gI rfl ?_
              refine ok_gI rfl ?_
              refine ok_gC rfl ?_
              refine ok_zbX (Q := fun V => V = seeV (σ37.1 218 9) (σ37.1 224) (σ37.1 218 10)) (x_X12_see (hR.tr hT) (by (try simp only [g7_σ37, g9_σ37, g11_σ37, g12_σ37, g14_σ37, g15_σ37, g20_σ37, g22_σ37, g23_σ37, g24_σ37, g25_σ37]); omega) (by (try simp only [g7_σ37, g9_σ37, g11_σ37, g12_σ37, g14_σ37, g15_σ37, g20_σ37, g22_σ37, g23_σ37, g24_σ37, g25_σ37]); omega)) (fun v47 hqv47 => ?_)
              have hqv47 : v47 = seeV (σ37.1 218 9) (σ37.1 224) (σ37.1 218 10) := hqv47
              try simp only [g7_σ37, g9_σ37, g11_σ37, g12_σ37, g14_σ37, g15_σ37, g20_σ37, g22_σ37, g23_σ37, g24_σ37, g25_σ37, hT.2 224 (by decide)] at hqv47
              refine ok_pI hT rfl (by decide) (fun σ49 eσ49 hOσ49 hT => ?_)
              have g7_σ49 : σ49.1 218 7 = (σ0.1 218 7) := (zI_atN eσ49 (by decide)).trans g7_σ37
              have g9_σ49 : σ49.1 218 9 = (σ0.1 218 9) := (zI_atN eσ49 (by decide)).trans g9_σ37
              have g10_σ49 : σ49.1 218 10 = (σ37.1 218 10) := zI_atN eσ49 (by decide)
              have g11_σ49 : σ49.1 218 11 = (σ1.1 218 10) := (zI_atN eσ49 (by decide)).trans g11_σ37
              have g12_σ49 : σ49.1 218 12 = (σ0.1 218 12) := (zI_atN eσ49 (by decide)).trans g12_σ37
              have g13_σ49 : σ49.1 218 13 = (zmin 99999 (((10 * (σ37.1 218 13)) + v47) - 48)) := zI_atI eσ49
              have g14_σ49 : σ49.1 218 14 = (σ0.1 218 14) := (zI_atN eσ49 (by decide)).trans g14_σ37
              have g15_σ49 : σ49.1 218 15 = (σ0.1 218 15) := (zI_atN eσ49 (by decide)).trans g15_σ37
              have g20_σ49 : σ49.1 218 20 = (σ0.1 218 20) := (zI_atN eσ49 (by decide)).trans g20_σ37
              have g22_σ49 : σ49.1 218 22 = (σ0.1 218 22) := (zI_atN eσ49 (by decide)).trans g22_σ37
              have g23_σ49 : σ49.1 218 23 = (σ0.1 218 23) := (zI_atN eσ49 (by decide)).trans g23_σ37
              have g24_σ49 : σ49.1 218 24 = (σ0.1 218 24) := (zI_atN eσ49 (by decide)).trans g24_σ37
              have g25_σ49 : σ49.1 218 25 = (σ0.1 218 25) := (zI_atN eσ49 (by decide)).trans g25_σ37
              refine ok_gIv rfl g10_σ49 ?_
              refine ok_pI hT rfl (by decide) (fun σ51 eσ51 hOσ51 hT => ?_)
              have g7_σ51 : σ51.1 218 7 = (σ0.1 218 7) := (zI_atN eσ51 (by decide)).trans g7_σ49
              have g9_σ51 : σ51.1 218 9 = (σ0.1 218 9) := (zI_atN eσ51 (by decide)).trans g9_σ49
              have g10_σ51 : σ51.1 218 10 = ((σ37.1 218 10) + 1) := zI_atI eσ51
              have g11_σ51 : σ51.1 218 11 = (σ1.1 218 10) := (zI_atN eσ51 (by decide)).trans g11_σ49
              have g12_σ51 : σ51.1 218 12 = (σ0.1 218 12) := (zI_atN eσ51 (by decide)).trans g12_σ49
              have g13_σ51 : σ51.1 218 13 = (zmin 99999 (((10 * (σ37.1 218 13)) + v47) - 48)) := (zI_atN eσ51 (by decide)).trans g13_σ49
              have g14_σ51 : σ51.1 218 14 = (σ0.1 218 14) := (zI_atN eσ51 (by decide)).trans g14_σ49
              have g15_σ51 : σ51.1 218 15 = (σ0.1 218 15) := (zI_atN eσ51 (by decide)).trans g15_σ49
              have g20_σ51 : σ51.1 218 20 = (σ0.1 218 20) := (zI_atN eσ51 (by decide)).trans g20_σ49
              have g22_σ51 : σ51.1 218 22 = (σ0.1 218 22) := (zI_atN eσ51 (by decide)).trans g22_σ49
              have g23_σ51 : σ51.1 218 23 = (σ0.1 218 23) := (zI_atN eσ51 (by decide)).trans g23_σ49
              have g24_σ51 : σ51.1 218 24 = (σ0.1 218 24) := (zI_atN eσ51 (by decide)).trans g24_σ49
              have g25_σ51 : σ51.1 218 25 = (σ0.1 218 25) := (zI_atN eσ51 (by decide)).trans g25_σ49
              exact ih144_37 σ51 (show Tr [218] σ0 σ51 ∧ (((σ51.1 218 11).toInt ≤ (σ51.1 218 10).toInt ∧ (σ51.1 218 10).toInt ≤ (σ0.1 218 9).toInt) ∧ ((σ51.1 218 10).toInt = (σ51.1 218 11).toInt → 48 ≤ (seeV (σ0.1 218 9) (σ0.1 224) (σ51.1 218 10)).toInt ∧ (seeV (σ0.1 218 9) (σ0.1 224) (σ51.1 218 10)).toInt ≤ 57)) ∧ (σ51.1 218 7 = (σ0.1 218 7)) ∧ (σ51.1 218 9 = (σ0.1 218 9)) ∧ (σ51.1 218 11 = (σ1.1 218 10)) ∧ (σ51.1 218 12 = (σ0.1 218 12)) ∧ (σ51.1 218 14 = (σ0.1 218 14)) ∧ (σ51.1 218 15 = (σ0.1 218 15)) ∧ (σ51.1 218 20 = (σ0.1 218 20)) ∧ (σ51.1 218 22 = (σ0.1 218 22)) ∧ (σ51.1 218 23 = (σ0.1 218 23)) ∧ (σ51.1 218 24 = (σ0.1 218 24)) ∧ (σ51.1 218 25 = (σ0.1 218 25)) from ⟨hT, (by (try simp only [g7_σ51, g9_σ51, g10_σ51, g11_σ51, g12_σ51, g13_σ51, g14_σ51, g15_σ51, g20_σ51, g22_σ51, g23_σ51, g24_σ51, g25_σ51]); rw [s9]; exact ⟨⟨by omega, by omega⟩, fun h9 => by omega⟩), g7_σ51, g9_σ51, g11_σ51, g12_σ51, g14_σ51, g15_σ51, g20_σ51, g22_σ51, g23_σ51, g24_σ51, g25_σ51⟩) (show (600 - (σ51.1 218 10).toInt).toNat < (600 - (σ37.1 218 10).toInt).toNat from (by (try simp only [g7_σ51, g9_σ51, g10_σ51, g11_σ51, g12_σ51, g13_σ51, g14_σ51, g15_σ51, g20_σ51, g22_σ51, g23_σ51, g24_σ51, g25_σ51]); rw [s9]; omega))
        · have qhc23 := hqv21.2 hc23
          refine ok_lp (fun t : zS => Tr [218] σ0 (t) ∧ ((((t).1 218 11).toInt ≤ ((t).1 218 10).toInt ∧ ((t).1 218 10).toInt ≤ (σ0.1 218 9).toInt) ∧ (((t).1 218 10).toInt = ((t).1 218 11).toInt → 97 ≤ (seeV (σ0.1 218 9) (σ0.1 224) ((t).1 218 10)).toInt ∧ (seeV (σ0.1 218 9) (σ0.1 224) ((t).1 218 10)).toInt ≤ 122) ∧ ∀ k : Nat, ((t).1 218 11).toInt ≤ (k : Int) → (k : Int) < ((t).1 218 10).toInt → 97 ≤ (σ0.1 224 k).toInt ∧ (σ0.1 224 k).toInt ≤ 122) ∧ ((t).1 218 7 = (σ0.1 218 7)) ∧ ((t).1 218 9 = (σ0.1 218 9)) ∧ ((t).1 218 11 = (σ1.1 218 10)) ∧ ((t).1 218 12 = (σ0.1 218 12)) ∧ ((t).1 218 13 = (σ0.1 218 13)) ∧ ((t).1 218 14 = (σ0.1 218 14)) ∧ ((t).1 218 15 = (σ0.1 218 15)) ∧ ((t).1 218 20 = (σ0.1 218 20)) ∧ ((t).1 218 22 = (σ0.1 218 22)) ∧ ((t).1 218 23 = (σ0.1 218 23)) ∧ ((t).1 218 24 = (σ0.1 218 24)) ∧ ((t).1 218 25 = (σ0.1 218 25))) (fun t : zS => (600 - ((t).1 218 10).toInt).toNat) (fun again52 t hI ih83_52 => ?_) N _ (show Tr [218] σ0 σ15 ∧ (((σ15.1 218 11).toInt ≤ (σ15.1 218 10).toInt ∧ (σ15.1 218 10).toInt ≤ (σ0.1 218 9).toInt) ∧ ((σ15.1 218 10).toInt = (σ15.1 218 11).toInt → 97 ≤ (seeV (σ0.1 218 9) (σ0.1 224) (σ15.1 218 10)).toInt ∧ (seeV (σ0.1 218 9) (σ0.1 224) (σ15.1 218 10)).toInt ≤ 122) ∧ ∀ k : Nat, (σ15.1 218 11).toInt ≤ (k : Int) → (k : Int) < (σ15.1 218 10).toInt → 97 ≤ (σ0.1 224 k).toInt ∧ (σ0.1 224 k).toInt ≤ 122) ∧ (σ15.1 218 7 = (σ0.1 218 7)) ∧ (σ15.1 218 9 = (σ0.1 218 9)) ∧ (σ15.1 218 11 = (σ1.1 218 10)) ∧ (σ15.1 218 12 = (σ0.1 218 12)) ∧ (σ15.1 218 13 = (σ0.1 218 13)) ∧ (σ15.1 218 14 = (σ0.1 218 14)) ∧ (σ15.1 218 15 = (σ0.1 218 15)) ∧ (σ15.1 218 20 = (σ0.1 218 20)) ∧ (σ15.1 218 22 = (σ0.1 218 22)) ∧ (σ15.1 218 23 = (σ0.1 218 23)) ∧ (σ15.1 218 24 = (σ0.1 218 24)) ∧ (σ15.1 218 25 = (σ0.1 218 25)) from ⟨hT, (by (try simp only [g7_σ15, g9_σ15, g10_σ15, g11_σ15, g12_σ15, g13_σ15, g14_σ15, g15_σ15, g20_σ15, g22_σ15, g23_σ15, g24_σ15, g25_σ15]); exact ⟨⟨by omega, by omega⟩, fun _ => by rw [← see52]; omega, fun k h1 h2 => by omega⟩), g7_σ15, g9_σ15, g11_σ15, g12_σ15, g13_σ15, g14_σ15, g15_σ15, g20_σ15, g22_σ15, g23_σ15, g24_σ15, g25_σ15⟩) (show (600 - (σ15.1 218 10).toInt).toNat < N from (by ((try simp only [g7_σ15, g9_σ15, g10_σ15, g11_σ15, g12_σ15, g13_σ15, g14_σ15, g15_σ15, g20_σ15, g22_σ15, g23_σ15, g24_σ15, g25_σ15])); first | omega | decide | (simp only [Int32.le_iff_toInt_le, Int32.lt_iff_toInt_lt, ti_add, ti_sub, ti_mul, Int32.reduceToInt] at *; omega)))
          obtain ⟨σ52, rfl⟩ : ∃ x, x = t := ⟨t, rfl⟩
          have hI : Tr [218] σ0 σ52 ∧ (((σ52.1 218 11).toInt ≤ (σ52.1 218 10).toInt ∧ (σ52.1 218 10).toInt ≤ (σ0.1 218 9).toInt) ∧ ((σ52.1 218 10).toInt = (σ52.1 218 11).toInt → 97 ≤ (seeV (σ0.1 218 9) (σ0.1 224) (σ52.1 218 10)).toInt ∧ (seeV (σ0.1 218 9) (σ0.1 224) (σ52.1 218 10)).toInt ≤ 122) ∧ ∀ k : Nat, (σ52.1 218 11).toInt ≤ (k : Int) → (k : Int) < (σ52.1 218 10).toInt → 97 ≤ (σ0.1 224 k).toInt ∧ (σ0.1 224 k).toInt ≤ 122) ∧ (σ52.1 218 7 = (σ0.1 218 7)) ∧ (σ52.1 218 9 = (σ0.1 218 9)) ∧ (σ52.1 218 11 = (σ1.1 218 10)) ∧ (σ52.1 218 12 = (σ0.1 218 12)) ∧ (σ52.1 218 13 = (σ0.1 218 13)) ∧ (σ52.1 218 14 = (σ0.1 218 14)) ∧ (σ52.1 218 15 = (σ0.1 218 15)) ∧ (σ52.1 218 20 = (σ0.1 218 20)) ∧ (σ52.1 218 22 = (σ0.1 218 22)) ∧ (σ52.1 218 23 = (σ0.1 218 23)) ∧ (σ52.1 218 24 = (σ0.1 218 24)) ∧ (σ52.1 218 25 = (σ0.1 218 25)) := hI
          obtain ⟨hT, hI52, g7_σ52, g9_σ52, g11_σ52, g12_σ52, g13_σ52, g14_σ52, g15_σ52, g20_σ52, g22_σ52, g23_σ52, g24_σ52, g25_σ52⟩ := hI
          rw [F_X12_advance_83.eq_1]
          rw [g11_σ52] at hI52
          have hb83 := hI52.1
          have e83 := hI52.2.1
          have w83 := hI52.2.2
          refine ok_gI rfl ?_
          refine ok_gC rfl ?_
          refine ok_zbX (Q := fun V => V = seeV (σ52.1 218 9) (σ52.1 224) (σ52.1 218 10)) (x_X12_see (hR.tr hT) (by (try simp only [g7_σ52, g9_σ52, g11_σ52, g12_σ52, g13_σ52, g14_σ52, g15_σ52, g20_σ52, g22_σ52, g23_σ52, g24_σ52, g25_σ52]); omega) (by (try simp only [g7_σ52, g9_σ52, g11_σ52, g12_σ52, g13_σ52, g14_σ52, g15_σ52, g20_σ52, g22_σ52, g23_σ52, g24_σ52, g25_σ52]); omega)) (fun v54 hqv54 => ?_)
          have hqv54 : v54 = seeV (σ52.1 218 9) (σ52.1 224) (σ52.1 218 10) := hqv54
          try simp only [g7_σ52, g9_σ52, g11_σ52, g12_σ52, g13_σ52, g14_σ52, g15_σ52, g20_σ52, g22_σ52, g23_σ52, g24_σ52, g25_σ52, hT.2 224 (by decide)] at hqv54
          have see88 := hqv54
          refine ok_zbX (Q := fun V => (V = 0 → ¬ ((97 : Int64).toInt ≤ (Int32.toInt64 v54).toInt ∧ (Int32.toInt64 v54).toInt ≤ (122 : Int64).toInt)) ∧ (¬ V = 0 → (97 : Int64).toInt ≤ (Int32.toInt64 v54).toInt ∧ (Int32.toInt64 v54).toInt ≤ (122 : Int64).toInt)) (xi_X12_in) (fun v56 hqv56 => ?_)
          have hqv56 : (v56 = 0 → ¬ ((97 : Int64).toInt ≤ (Int32.toInt64 v54).toInt ∧ (Int32.toInt64 v54).toInt ≤ (122 : Int64).toInt)) ∧ (¬ v56 = 0 → (97 : Int64).toInt ≤ (Int32.toInt64 v54).toInt ∧ (Int32.toInt64 v54).toInt ≤ (122 : Int64).toInt) := hqv56
          try simp only [g7_σ52, g9_σ52, g11_σ52, g12_σ52, g13_σ52, g14_σ52, g15_σ52, g20_σ52, g22_σ52, g23_σ52, g24_σ52, g25_σ52, hT.2 224 (by decide)] at hqv56
          simp only [i64_of, Int64.reduceToInt] at hqv56
          refine ok_if (fun hc58 => ?_) (fun hc58 => ?_)
          · have qhc58 := hqv56.1 hc58
            have u9 := qhc58
            rw [see88] at u9
            have n83 : (σ1.1 218 10).toInt < (σ52.1 218 10).toInt := by omega
            refine ok_pI hT rfl (by decide) (fun σ59 eσ59 hOσ59 hT => ?_)
            have g7_σ59 : σ59.1 218 7 = (σ0.1 218 7) := (zI_atN eσ59 (by decide)).trans g7_σ52
            have g9_σ59 : σ59.1 218 9 = (σ0.1 218 9) := (zI_atN eσ59 (by decide)).trans g9_σ52
            have g10_σ59 : σ59.1 218 10 = (σ52.1 218 10) := zI_atN eσ59 (by decide)
            have g11_σ59 : σ59.1 218 11 = (σ1.1 218 10) := (zI_atN eσ59 (by decide)).trans g11_σ52
            have g12_σ59 : σ59.1 218 12 = (1 : Int32) := zI_atI eσ59
            have g13_σ59 : σ59.1 218 13 = (σ0.1 218 13) := (zI_atN eσ59 (by decide)).trans g13_σ52
            have g14_σ59 : σ59.1 218 14 = (σ0.1 218 14) := (zI_atN eσ59 (by decide)).trans g14_σ52
            have g15_σ59 : σ59.1 218 15 = (σ0.1 218 15) := (zI_atN eσ59 (by decide)).trans g15_σ52
            have g20_σ59 : σ59.1 218 20 = (σ0.1 218 20) := (zI_atN eσ59 (by decide)).trans g20_σ52
            have g22_σ59 : σ59.1 218 22 = (σ0.1 218 22) := (zI_atN eσ59 (by decide)).trans g22_σ52
            have g23_σ59 : σ59.1 218 23 = (σ0.1 218 23) := (zI_atN eσ59 (by decide)).trans g23_σ52
            have g24_σ59 : σ59.1 218 24 = (σ0.1 218 24) := (zI_atN eσ59 (by decide)).trans g24_σ52
            have g25_σ59 : σ59.1 218 25 = (σ0.1 218 25) := (zI_atN eσ59 (by decide)).trans g25_σ52
            exact ok_some ⟨hT, (show (TOK σ59.1 ∧ (σ0.1 218 10).toInt ≤ (σ59.1 218 11).toInt) ∧ (σ59.1 218 7 = σ0.1 218 7 ∧ σ59.1 218 9 = σ0.1 218 9 ∧ σ59.1 218 14 = σ0.1 218 14 ∧ σ59.1 218 15 = σ0.1 218 15 ∧ σ59.1 218 20 = σ0.1 218 20 ∧ σ59.1 218 22 = σ0.1 218 22 ∧ σ59.1 218 23 = σ0.1 218 23 ∧ σ59.1 218 24 = σ0.1 218 24 ∧ σ59.1 218 25 = σ0.1 218 25) from ⟨by first | exact ⟨TOK_i g9_σ59 g10_σ59 g11_σ59 g12_σ59 (hT.2 224 (by decide)) (by omega) (by omega) (by omega) (by omega) (fun q => absurd rfl q) (fun q => absurd q (by decide)), by (try simp only [g7_σ59, g9_σ59, g10_σ59, g11_σ59, g12_σ59, g13_σ59, g14_σ59, g15_σ59, g20_σ59, g22_σ59, g23_σ59, g24_σ59, g25_σ59]); omega⟩ | exact ⟨TOK_i g9_σ59 g10_σ59 g11_σ59 g12_σ59 (hT.2 224 (by decide)) (by omega) (by omega) (by omega) (by omega) (fun _ => n83) (fun _ => w83), by (try simp only [g7_σ59, g9_σ59, g10_σ59, g11_σ59, g12_σ59, g13_σ59, g14_σ59, g15_σ59, g20_σ59, g22_σ59, g23_σ59, g24_σ59, g25_σ59]); omega⟩ | exact ⟨TOK_i g9_σ59 g10_σ59 g11_σ59 g12_σ59 (hT.2 224 (by decide)) (by omega) (by omega) (by omega) (by omega) (fun _ => n83) (fun q => absurd q (by decide)), by (try simp only [g7_σ59, g9_σ59, g10_σ59, g11_σ59, g12_σ59, g13_σ59, g14_σ59, g15_σ59, g20_σ59, g22_σ59, g23_σ59, g24_σ59, g25_σ59]); omega⟩ | exact ⟨TOK_i g9_σ59 g10_σ59 g11_σ59 g12_σ59 (hT.2 224 (by decide)) (by omega) (by rw [s9]; omega) (by rw [s9]; omega) (by omega) (fun _ => by rw [s9]; omega) (fun q => by first | exact absurd q (by decide) | (exfalso; rw [q] at k35; revert k35; decide)), by (try simp only [g7_σ59, g9_σ59, g10_σ59, g11_σ59, g12_σ59, g13_σ59, g14_σ59, g15_σ59, g20_σ59, g22_σ59, g23_σ59, g24_σ59, g25_σ59]); omega⟩, g7_σ59, g9_σ59, g14_σ59, g15_σ59, g20_σ59, g22_σ59, g23_σ59, g24_σ59, g25_σ59⟩)⟩
          · have qhc58 := hqv56.2 hc58
            have r9 := see_az hY (by rw [← see88]; omega)
            have u9 := qhc58
            rw [see88] at u9
            have i9 : ((σ52.1 218 10)).toNatClampNeg = ((σ52.1 218 10)).toInt.toNat := rfl
            have w9 : ∀ k : Nat, (σ1.1 218 10).toInt ≤ (k : Int) → (k : Int) < (σ52.1 218 10).toInt + 1 → 97 ≤ (σ0.1 224 k).toInt ∧ (σ0.1 224 k).toInt ≤ 122 := by intro k h1 h2; by_cases q : (k : Int) < (σ52.1 218 10).toInt; exact w83 k h1 q; rw [show k = (σ52.1 218 10).toInt.toNat by omega, ← i9, r9.2]; omega
            have s9 : ((σ52.1 218 10) + 1).toInt = (σ52.1 218 10).toInt + 1 := by rw [ti_add]; simp only [Int32.reduceToInt]; omega
            refine ok_gI rfl ?_
            refine ok_pI hT rfl (by decide) (fun σ61 eσ61 hOσ61 hT => ?_)
            have g7_σ61 : σ61.1 218 7 = (σ0.1 218 7) := (zI_atN eσ61 (by decide)).trans g7_σ52
            have g9_σ61 : σ61.1 218 9 = (σ0.1 218 9) := (zI_atN eσ61 (by decide)).trans g9_σ52
            have g10_σ61 : σ61.1 218 10 = ((σ52.1 218 10) + 1) := zI_atI eσ61
            have g11_σ61 : σ61.1 218 11 = (σ1.1 218 10) := (zI_atN eσ61 (by decide)).trans g11_σ52
            have g12_σ61 : σ61.1 218 12 = (σ0.1 218 12) := (zI_atN eσ61 (by decide)).trans g12_σ52
            have g13_σ61 : σ61.1 218 13 = (σ0.1 218 13) := (zI_atN eσ61 (by decide)).trans g13_σ52
            have g14_σ61 : σ61.1 218 14 = (σ0.1 218 14) := (zI_atN eσ61 (by decide)).trans g14_σ52
            have g15_σ61 : σ61.1 218 15 = (σ0.1 218 15) := (zI_atN eσ61 (by decide)).trans g15_σ52
            have g20_σ61 : σ61.1 218 20 = (σ0.1 218 20) := (zI_atN eσ61 (by decide)).trans g20_σ52
            have g22_σ61 : σ61.1 218 22 = (σ0.1 218 22) := (zI_atN eσ61 (by decide)).trans g22_σ52
            have g23_σ61 : σ61.1 218 23 = (σ0.1 218 23) := (zI_atN eσ61 (by decide)).trans g23_σ52
            have g24_σ61 : σ61.1 218 24 = (σ0.1 218 24) := (zI_atN eσ61 (by decide)).trans g24_σ52
            have g25_σ61 : σ61.1 218 25 = (σ0.1 218 25) := (zI_atN eσ61 (by decide)).trans g25_σ52
            exact ih83_52 σ61 (show Tr [218] σ0 σ61 ∧ (((σ61.1 218 11).toInt ≤ (σ61.1 218 10).toInt ∧ (σ61.1 218 10).toInt ≤ (σ0.1 218 9).toInt) ∧ ((σ61.1 218 10).toInt = (σ61.1 218 11).toInt → 97 ≤ (seeV (σ0.1 218 9) (σ0.1 224) (σ61.1 218 10)).toInt ∧ (seeV (σ0.1 218 9) (σ0.1 224) (σ61.1 218 10)).toInt ≤ 122) ∧ ∀ k : Nat, (σ61.1 218 11).toInt ≤ (k : Int) → (k : Int) < (σ61.1 218 10).toInt → 97 ≤ (σ0.1 224 k).toInt ∧ (σ0.1 224 k).toInt ≤ 122) ∧ (σ61.1 218 7 = (σ0.1 218 7)) ∧ (σ61.1 218 9 = (σ0.1 218 9)) ∧ (σ61.1 218 11 = (σ1.1 218 10)) ∧ (σ61.1 218 12 = (σ0.1 218 12)) ∧ (σ61.1 218 13 = (σ0.1 218 13)) ∧ (σ61.1 218 14 = (σ0.1 218 14)) ∧ (σ61.1 218 15 = (σ0.1 218 15)) ∧ (σ61.1 218 20 = (σ0.1 218 20)) ∧ (σ61.1 218 22 = (σ0.1 218 22)) ∧ (σ61.1 218 23 = (σ0.1 218 23)) ∧ (σ61.1 218 24 = (σ0.1 218 24)) ∧ (σ61.1 218 25 = (σ0.1 218 25)) from ⟨hT, (by (try simp only [g7_σ61, g9_σ61, g10_σ61, g11_σ61, g12_σ61, g13_σ61, g14_σ61, g15_σ61, g20_σ61, g22_σ61, g23_σ61, g24_σ61, g25_σ61]); rw [s9]; exact ⟨⟨by omega, by omega⟩, fun h9 => by omega, w9⟩), g7_σ61, g9_σ61, g11_σ61, g12_σ61, g13_σ61, g14_σ61, g15_σ61, g20_σ61, g22_σ61, g23_σ61, g24_σ61, g25_σ61⟩) (show (600 - (σ61.1 218 10).toInt).toNat < (600 - (σ52.1 218 10).toInt).toNat from (by (try simp only [g7_σ61, g9_σ61, g10_σ61, g11_σ61, g12_σ61, g13_σ61, g14_σ61, g15_σ61, g20_σ61, g22_σ61, g23_σ61, g24_σ61, g25_σ61]); rw [s9]; omega))
end Zq7_5
section Zq7_6
theorem TOK_A {s : Nat → Nat → Int32} (h : TOK s) : (0 ≤ (s 218 10).toInt ∧ (s 218 10).toInt ≤ (s 218 9).toInt) ∧ (s 218 9).toInt ≤ 600 := by
  have h := h.1
  omega

set_option maxHeartbeats 4000000 in
set_option maxRecDepth 100000 in
theorem s_X12_begins {N : Nat} (hN : 1048576 ≤ N)  {σ0 : zS}  (hR : RF σ0.2.2) (hp : 0 ≤ (σ0.1 218 7).toInt ∧ (σ0.1 218 7).toInt ≤ 600) (hY : BYT (σ0.1 224)) : Ok (f_X12_begins N 218 σ0) (fun r => Tr [218] σ0 r.2 ∧ ((TOK r.2.1 ∧ r.2.1 218 14 = 0 ∧ r.2.1 218 25 = 0 ∧ r.2.1 218 7 = 0) ∧ (r.2.1 218 20 = σ0.1 218 20 ∧ r.2.1 218 22 = σ0.1 218 22 ∧ r.2.1 218 23 = σ0.1 218 23 ∧ r.2.1 218 24 = σ0.1 218 24))) := by
  have hT : Tr [218] σ0 σ0 := Tr.rf
  rw [f_X12_begins.eq_1]
  refine ok_gI rfl ?_
  refine ok_pI hT rfl (by decide) (fun σ2 eσ2 hOσ2 hT => ?_)
  have g7_σ2 : σ2.1 218 7 = (σ0.1 218 7) := zI_atN eσ2 (by decide)
  have g9_σ2 : σ2.1 218 9 = (σ0.1 218 7) := zI_atI eσ2
  have g10_σ2 : σ2.1 218 10 = (σ0.1 218 10) := zI_atN eσ2 (by decide)
  have g11_σ2 : σ2.1 218 11 = (σ0.1 218 11) := zI_atN eσ2 (by decide)
  have g12_σ2 : σ2.1 218 12 = (σ0.1 218 12) := zI_atN eσ2 (by decide)
  have g13_σ2 : σ2.1 218 13 = (σ0.1 218 13) := zI_atN eσ2 (by decide)
  have g14_σ2 : σ2.1 218 14 = (σ0.1 218 14) := zI_atN eσ2 (by decide)
  have g15_σ2 : σ2.1 218 15 = (σ0.1 218 15) := zI_atN eσ2 (by decide)
  have g20_σ2 : σ2.1 218 20 = (σ0.1 218 20) := zI_atN eσ2 (by decide)
  have g22_σ2 : σ2.1 218 22 = (σ0.1 218 22) := zI_atN eσ2 (by decide)
  have g23_σ2 : σ2.1 218 23 = (σ0.1 218 23) := zI_atN eσ2 (by decide)
  have g24_σ2 : σ2.1 218 24 = (σ0.1 218 24) := zI_atN eσ2 (by decide)
  have g25_σ2 : σ2.1 218 25 = (σ0.1 218 25) := zI_atN eσ2 (by decide)
  refine ok_pI hT rfl (by decide) (fun σ3 eσ3 hOσ3 hT => ?_)
  have g7_σ3 : σ3.1 218 7 = (0 : Int32) := zI_atI eσ3
  have g9_σ3 : σ3.1 218 9 = (σ0.1 218 7) := (zI_atN eσ3 (by decide)).trans g9_σ2
  have g10_σ3 : σ3.1 218 10 = (σ0.1 218 10) := (zI_atN eσ3 (by decide)).trans g10_σ2
  have g11_σ3 : σ3.1 218 11 = (σ0.1 218 11) := (zI_atN eσ3 (by decide)).trans g11_σ2
  have g12_σ3 : σ3.1 218 12 = (σ0.1 218 12) := (zI_atN eσ3 (by decide)).trans g12_σ2
  have g13_σ3 : σ3.1 218 13 = (σ0.1 218 13) := (zI_atN eσ3 (by decide)).trans g13_σ2
  have g14_σ3 : σ3.1 218 14 = (σ0.1 218 14) := (zI_atN eσ3 (by decide)).trans g14_σ2
  have g15_σ3 : σ3.1 218 15 = (σ0.1 218 15) := (zI_atN eσ3 (by decide)).trans g15_σ2
  have g20_σ3 : σ3.1 218 20 = (σ0.1 218 20) := (zI_atN eσ3 (by decide)).trans g20_σ2
  have g22_σ3 : σ3.1 218 22 = (σ0.1 218 22) := (zI_atN eσ3 (by decide)).trans g22_σ2
  have g23_σ3 : σ3.1 218 23 = (σ0.1 218 23) := (zI_atN eσ3 (by decide)).trans g23_σ2
  have g24_σ3 : σ3.1 218 24 = (σ0.1 218 24) := (zI_atN eσ3 (by decide)).trans g24_σ2
  have g25_σ3 : σ3.1 218 25 = (σ0.1 218 25) := (zI_atN eσ3 (by decide)).trans g25_σ2
  refine ok_pI hT rfl (by decide) (fun σ4 eσ4 hOσ4 hT => ?_)
  have g7_σ4 : σ4.1 218 7 = (0 : Int32) := (zI_atN eσ4 (by decide)).trans g7_σ3
  have g9_σ4 : σ4.1 218 9 = (σ0.1 218 7) := (zI_atN eσ4 (by decide)).trans g9_σ3
  have g10_σ4 : σ4.1 218 10 = (0 : Int32) := zI_atI eσ4
  have g11_σ4 : σ4.1 218 11 = (σ0.1 218 11) := (zI_atN eσ4 (by decide)).trans g11_σ3
  have g12_σ4 : σ4.1 218 12 = (σ0.1 218 12) := (zI_atN eσ4 (by decide)).trans g12_σ3
  have g13_σ4 : σ4.1 218 13 = (σ0.1 218 13) := (zI_atN eσ4 (by decide)).trans g13_σ3
  have g14_σ4 : σ4.1 218 14 = (σ0.1 218 14) := (zI_atN eσ4 (by decide)).trans g14_σ3
  have g15_σ4 : σ4.1 218 15 = (σ0.1 218 15) := (zI_atN eσ4 (by decide)).trans g15_σ3
  have g20_σ4 : σ4.1 218 20 = (σ0.1 218 20) := (zI_atN eσ4 (by decide)).trans g20_σ3
  have g22_σ4 : σ4.1 218 22 = (σ0.1 218 22) := (zI_atN eσ4 (by decide)).trans g22_σ3
  have g23_σ4 : σ4.1 218 23 = (σ0.1 218 23) := (zI_atN eσ4 (by decide)).trans g23_σ3
  have g24_σ4 : σ4.1 218 24 = (σ0.1 218 24) := (zI_atN eσ4 (by decide)).trans g24_σ3
  have g25_σ4 : σ4.1 218 25 = (σ0.1 218 25) := (zI_atN eσ4 (by decide)).trans g25_σ3
  refine ok_pI hT rfl (by decide) (fun σ5 eσ5 hOσ5 hT => ?_)
  have g7_σ5 : σ5.1 218 7 = (0 : Int32) := (zI_atN eσ5 (by decide)).trans g7_σ4
  have g9_σ5 : σ5.1 218 9 = (σ0.1 218 7) := (zI_atN eσ5 (by decide)).trans g9_σ4
  have g10_σ5 : σ5.1 218 10 = (0 : Int32) := (zI_atN eσ5 (by decide)).trans g10_σ4
  have g11_σ5 : σ5.1 218 11 = (σ0.1 218 11) := (zI_atN eσ5 (by decide)).trans g11_σ4
  have g12_σ5 : σ5.1 218 12 = (σ0.1 218 12) := (zI_atN eσ5 (by decide)).trans g12_σ4
  have g13_σ5 : σ5.1 218 13 = (σ0.1 218 13) := (zI_atN eσ5 (by decide)).trans g13_σ4
  have g14_σ5 : σ5.1 218 14 = (0 : Int32) := zI_atI eσ5
  have g15_σ5 : σ5.1 218 15 = (σ0.1 218 15) := (zI_atN eσ5 (by decide)).trans g15_σ4
  have g20_σ5 : σ5.1 218 20 = (σ0.1 218 20) := (zI_atN eσ5 (by decide)).trans g20_σ4
  have g22_σ5 : σ5.1 218 22 = (σ0.1 218 22) := (zI_atN eσ5 (by decide)).trans g22_σ4
  have g23_σ5 : σ5.1 218 23 = (σ0.1 218 23) := (zI_atN eσ5 (by decide)).trans g23_σ4
  have g24_σ5 : σ5.1 218 24 = (σ0.1 218 24) := (zI_atN eσ5 (by decide)).trans g24_σ4
  have g25_σ5 : σ5.1 218 25 = (σ0.1 218 25) := (zI_atN eσ5 (by decide)).trans g25_σ4
  refine ok_pI hT rfl (by decide) (fun σ6 eσ6 hOσ6 hT => ?_)
  have g7_σ6 : σ6.1 218 7 = (0 : Int32) := (zI_atN eσ6 (by decide)).trans g7_σ5
  have g9_σ6 : σ6.1 218 9 = (σ0.1 218 7) := (zI_atN eσ6 (by decide)).trans g9_σ5
  have g10_σ6 : σ6.1 218 10 = (0 : Int32) := (zI_atN eσ6 (by decide)).trans g10_σ5
  have g11_σ6 : σ6.1 218 11 = (σ0.1 218 11) := (zI_atN eσ6 (by decide)).trans g11_σ5
  have g12_σ6 : σ6.1 218 12 = (σ0.1 218 12) := (zI_atN eσ6 (by decide)).trans g12_σ5
  have g13_σ6 : σ6.1 218 13 = (σ0.1 218 13) := (zI_atN eσ6 (by decide)).trans g13_σ5
  have g14_σ6 : σ6.1 218 14 = (0 : Int32) := (zI_atN eσ6 (by decide)).trans g14_σ5
  have g15_σ6 : σ6.1 218 15 = (-1 : Int32) := zI_atI eσ6
  have g20_σ6 : σ6.1 218 20 = (σ0.1 218 20) := (zI_atN eσ6 (by decide)).trans g20_σ5
  have g22_σ6 : σ6.1 218 22 = (σ0.1 218 22) := (zI_atN eσ6 (by decide)).trans g22_σ5
  have g23_σ6 : σ6.1 218 23 = (σ0.1 218 23) := (zI_atN eσ6 (by decide)).trans g23_σ5
  have g24_σ6 : σ6.1 218 24 = (σ0.1 218 24) := (zI_atN eσ6 (by decide)).trans g24_σ5
  have g25_σ6 : σ6.1 218 25 = (σ0.1 218 25) := (zI_atN eσ6 (by decide)).trans g25_σ5
  refine ok_pI hT rfl (by decide) (fun σ7 eσ7 hOσ7 hT => ?_)
  have g7_σ7 : σ7.1 218 7 = (0 : Int32) := (zI_atN eσ7 (by decide)).trans g7_σ6
  have g9_σ7 : σ7.1 218 9 = (σ0.1 218 7) := (zI_atN eσ7 (by decide)).trans g9_σ6
  have g10_σ7 : σ7.1 218 10 = (0 : Int32) := (zI_atN eσ7 (by decide)).trans g10_σ6
  have g11_σ7 : σ7.1 218 11 = (σ0.1 218 11) := (zI_atN eσ7 (by decide)).trans g11_σ6
  have g12_σ7 : σ7.1 218 12 = (σ0.1 218 12) := (zI_atN eσ7 (by decide)).trans g12_σ6
  have g13_σ7 : σ7.1 218 13 = (σ0.1 218 13) := (zI_atN eσ7 (by decide)).trans g13_σ6
  have g14_σ7 : σ7.1 218 14 = (0 : Int32) := (zI_atN eσ7 (by decide)).trans g14_σ6
  have g15_σ7 : σ7.1 218 15 = (-1 : Int32) := (zI_atN eσ7 (by decide)).trans g15_σ6
  have g20_σ7 : σ7.1 218 20 = (σ0.1 218 20) := (zI_atN eσ7 (by decide)).trans g20_σ6
  have g22_σ7 : σ7.1 218 22 = (σ0.1 218 22) := (zI_atN eσ7 (by decide)).trans g22_σ6
  have g23_σ7 : σ7.1 218 23 = (σ0.1 218 23) := (zI_atN eσ7 (by decide)).trans g23_σ6
  have g24_σ7 : σ7.1 218 24 = (σ0.1 218 24) := (zI_atN eσ7 (by decide)).trans g24_σ6
  have g25_σ7 : σ7.1 218 25 = (0 : Int32) := zI_atI eσ7
  refine ok_gC rfl ?_
  refine ok_zbT (Q := fun V σ => (TOK σ.1 ∧ (σ7.1 218 10).toInt ≤ (σ.1 218 11).toInt) ∧ (σ.1 218 7 = σ7.1 218 7 ∧ σ.1 218 9 = σ7.1 218 9 ∧ σ.1 218 14 = σ7.1 218 14 ∧ σ.1 218 15 = σ7.1 218 15 ∧ σ.1 218 20 = σ7.1 218 20 ∧ σ.1 218 22 = σ7.1 218 22 ∧ σ.1 218 23 = σ7.1 218 23 ∧ σ.1 218 24 = σ7.1 218 24 ∧ σ.1 218 25 = σ7.1 218 25)) hT (s_X12_advance hN (hR.tr hT) (by (try simp only [g7_σ7, g9_σ7, g10_σ7, g11_σ7, g12_σ7, g13_σ7, g14_σ7, g15_σ7, g20_σ7, g22_σ7, g23_σ7, g24_σ7, g25_σ7]); simp only [Int32.reduceToInt]; omega) (by rw [hT.2 224 (by decide)]; exact hY)) (by decide) (fun v8 σ9 hOσ9 hT hqv8 => ?_)
  have hqv8 : (TOK σ9.1 ∧ (σ7.1 218 10).toInt ≤ (σ9.1 218 11).toInt) ∧ (σ9.1 218 7 = σ7.1 218 7 ∧ σ9.1 218 9 = σ7.1 218 9 ∧ σ9.1 218 14 = σ7.1 218 14 ∧ σ9.1 218 15 = σ7.1 218 15 ∧ σ9.1 218 20 = σ7.1 218 20 ∧ σ9.1 218 22 = σ7.1 218 22 ∧ σ9.1 218 23 = σ7.1 218 23 ∧ σ9.1 218 24 = σ7.1 218 24 ∧ σ9.1 218 25 = σ7.1 218 25) := hqv8
  have hkv8 := hqv8
  have hqv8 := hqv8.1
  try simp only [g7_σ7, g9_σ7, g10_σ7, g11_σ7, g12_σ7, g13_σ7, g14_σ7, g15_σ7, g20_σ7, g22_σ7, g23_σ7, g24_σ7, g25_σ7] at hqv8
  have g7_σ9 : σ9.1 218 7 = (0 : Int32) := (hkv8.2.1).trans g7_σ7
  have g9_σ9 : σ9.1 218 9 = (σ0.1 218 7) := (hkv8.2.2.1).trans g9_σ7
  have g14_σ9 : σ9.1 218 14 = (0 : Int32) := (hkv8.2.2.2.1).trans g14_σ7
  have g15_σ9 : σ9.1 218 15 = (-1 : Int32) := (hkv8.2.2.2.2.1).trans g15_σ7
  have g20_σ9 : σ9.1 218 20 = (σ0.1 218 20) := (hkv8.2.2.2.2.2.1).trans g20_σ7
  have g22_σ9 : σ9.1 218 22 = (σ0.1 218 22) := (hkv8.2.2.2.2.2.2.1).trans g22_σ7
  have g23_σ9 : σ9.1 218 23 = (σ0.1 218 23) := (hkv8.2.2.2.2.2.2.2.1).trans g23_σ7
  have g24_σ9 : σ9.1 218 24 = (σ0.1 218 24) := (hkv8.2.2.2.2.2.2.2.2.1).trans g24_σ7
  have g25_σ9 : σ9.1 218 25 = (0 : Int32) := (hkv8.2.2.2.2.2.2.2.2.2).trans g25_σ7
  exact ok_some ⟨hT, (show (TOK σ9.1 ∧ σ9.1 218 14 = 0 ∧ σ9.1 218 25 = 0 ∧ σ9.1 218 7 = 0) ∧ (σ9.1 218 20 = σ0.1 218 20 ∧ σ9.1 218 22 = σ0.1 218 22 ∧ σ9.1 218 23 = σ0.1 218 23 ∧ σ9.1 218 24 = σ0.1 218 24) from ⟨by exact ⟨hqv8.1, g14_σ9, g25_σ9, g7_σ9⟩, g20_σ9, g22_σ9, g23_σ9, g24_σ9⟩)⟩

set_option maxHeartbeats 4000000 in
set_option maxRecDepth 100000 in
theorem s_X12_errs {N : Nat} (hN : 1048576 ≤ N) {x1 : Int32} {σ0 : zS}  (hR : RF σ0.2.2) (hK : TOK σ0.1) (hY : BYT (σ0.1 224)) (hk1 : ¬ x1 = 0) : Ok (f_X12_errs N 218 x1 σ0) (fun r => Tr [218] σ0 r.2 ∧ ((TOK r.2.1 ∧ ¬ r.2.1 218 14 = 0) ∧ (r.2.1 218 7 = σ0.1 218 7 ∧ r.2.1 218 9 = σ0.1 218 9 ∧ r.2.1 218 10 = σ0.1 218 10 ∧ r.2.1 218 11 = σ0.1 218 11 ∧ r.2.1 218 12 = σ0.1 218 12 ∧ r.2.1 218 13 = σ0.1 218 13 ∧ r.2.1 218 20 = σ0.1 218 20 ∧ r.2.1 218 22 = σ0.1 218 22 ∧ r.2.1 218 23 = σ0.1 218 23 ∧ r.2.1 218 24 = σ0.1 218 24 ∧ r.2.1 218 25 = σ0.1 218 25))) := by
  have hT : Tr [218] σ0 σ0 := Tr.rf
  have hK1 := hK.1
  rw [f_X12_errs.eq_1]
  refine ok_gC rfl ?_
  refine ok_zbX (Q := fun V => (V = 0 → ¬ σ0.1 218 14 = 0) ∧ (¬ V = 0 → σ0.1 218 14 = 0)) (x_X12_good) (fun v1 hqv1 => ?_)
  have hqv1 : (v1 = 0 → ¬ σ0.1 218 14 = 0) ∧ (¬ v1 = 0 → σ0.1 218 14 = 0) := hqv1
  refine ok_if (fun hc3 => ?_) (fun hc3 => ?_)
  · have qhc3 := hqv1.1 hc3
    have n14 := qhc3
    exact ok_some ⟨hT, (show (TOK σ0.1 ∧ ¬ σ0.1 218 14 = 0) ∧ (σ0.1 218 7 = σ0.1 218 7 ∧ σ0.1 218 9 = σ0.1 218 9 ∧ σ0.1 218 10 = σ0.1 218 10 ∧ σ0.1 218 11 = σ0.1 218 11 ∧ σ0.1 218 12 = σ0.1 218 12 ∧ σ0.1 218 13 = σ0.1 218 13 ∧ σ0.1 218 20 = σ0.1 218 20 ∧ σ0.1 218 22 = σ0.1 218 22 ∧ σ0.1 218 23 = σ0.1 218 23 ∧ σ0.1 218 24 = σ0.1 218 24 ∧ σ0.1 218 25 = σ0.1 218 25) from ⟨by first | exact ⟨hK, n14⟩ | exact ⟨hK, by rw [rfl]; exact hk1⟩, rfl, rfl, rfl, rfl, rfl, rfl, rfl, rfl, rfl, rfl, rfl⟩)⟩
  · have qhc3 := hqv1.2 hc3
    refine ok_pI hT rfl (by decide) (fun σ4 eσ4 hOσ4 hT => ?_)
    have hK : TOK σ4.1 := by first | exact HQ.1 | exact TOK_p eσ4 (by decide) hK
    have g7_σ4 : σ4.1 218 7 = (σ0.1 218 7) := zI_atN eσ4 (by decide)
    have g9_σ4 : σ4.1 218 9 = (σ0.1 218 9) := zI_atN eσ4 (by decide)
    have g10_σ4 : σ4.1 218 10 = (σ0.1 218 10) := zI_atN eσ4 (by decide)
    have g11_σ4 : σ4.1 218 11 = (σ0.1 218 11) := zI_atN eσ4 (by decide)
    have g12_σ4 : σ4.1 218 12 = (σ0.1 218 12) := zI_atN eσ4 (by decide)
    have g13_σ4 : σ4.1 218 13 = (σ0.1 218 13) := zI_atN eσ4 (by decide)
    have g14_σ4 : σ4.1 218 14 = (x1) := zI_atI eσ4
    have g15_σ4 : σ4.1 218 15 = (σ0.1 218 15) := zI_atN eσ4 (by decide)
    have g20_σ4 : σ4.1 218 20 = (σ0.1 218 20) := zI_atN eσ4 (by decide)
    have g22_σ4 : σ4.1 218 22 = (σ0.1 218 22) := zI_atN eσ4 (by decide)
    have g23_σ4 : σ4.1 218 23 = (σ0.1 218 23) := zI_atN eσ4 (by decide)
    have g24_σ4 : σ4.1 218 24 = (σ0.1 218 24) := zI_atN eσ4 (by decide)
    have g25_σ4 : σ4.1 218 25 = (σ0.1 218 25) := zI_atN eσ4 (by decide)
    refine ok_gIv rfl g11_σ4 ?_
    refine ok_pI hT rfl (by decide) (fun σ6 eσ6 hOσ6 hT => ?_)
    have hK : TOK σ6.1 := by first | exact HQ.1 | exact TOK_p eσ6 (by decide) hK
    have g7_σ6 : σ6.1 218 7 = (σ0.1 218 7) := (zI_atN eσ6 (by decide)).trans g7_σ4
    have g9_σ6 : σ6.1 218 9 = (σ0.1 218 9) := (zI_atN eσ6 (by decide)).trans g9_σ4
    have g10_σ6 : σ6.1 218 10 = (σ0.1 218 10) := (zI_atN eσ6 (by decide)).trans g10_σ4
    have g11_σ6 : σ6.1 218 11 = (σ0.1 218 11) := (zI_atN eσ6 (by decide)).trans g11_σ4
    have g12_σ6 : σ6.1 218 12 = (σ0.1 218 12) := (zI_atN eσ6 (by decide)).trans g12_σ4
    have g13_σ6 : σ6.1 218 13 = (σ0.1 218 13) := (zI_atN eσ6 (by decide)).trans g13_σ4
    have g14_σ6 : σ6.1 218 14 = (x1) := (zI_atN eσ6 (by decide)).trans g14_σ4
    have g15_σ6 : σ6.1 218 15 = (σ0.1 218 11) := zI_atI eσ6
    have g20_σ6 : σ6.1 218 20 = (σ0.1 218 20) := (zI_atN eσ6 (by decide)).trans g20_σ4
    have g22_σ6 : σ6.1 218 22 = (σ0.1 218 22) := (zI_atN eσ6 (by decide)).trans g22_σ4
    have g23_σ6 : σ6.1 218 23 = (σ0.1 218 23) := (zI_atN eσ6 (by decide)).trans g23_σ4
    have g24_σ6 : σ6.1 218 24 = (σ0.1 218 24) := (zI_atN eσ6 (by decide)).trans g24_σ4
    have g25_σ6 : σ6.1 218 25 = (σ0.1 218 25) := (zI_atN eσ6 (by decide)).trans g25_σ4
    exact ok_some ⟨hT, (show (TOK σ6.1 ∧ ¬ σ6.1 218 14 = 0) ∧ (σ6.1 218 7 = σ0.1 218 7 ∧ σ6.1 218 9 = σ0.1 218 9 ∧ σ6.1 218 10 = σ0.1 218 10 ∧ σ6.1 218 11 = σ0.1 218 11 ∧ σ6.1 218 12 = σ0.1 218 12 ∧ σ6.1 218 13 = σ0.1 218 13 ∧ σ6.1 218 20 = σ0.1 218 20 ∧ σ6.1 218 22 = σ0.1 218 22 ∧ σ6.1 218 23 = σ0.1 218 23 ∧ σ6.1 218 24 = σ0.1 218 24 ∧ σ6.1 218 25 = σ0.1 218 25) from ⟨by first | exact ⟨hK, n14⟩ | exact ⟨hK, by rw [g14_σ6]; exact hk1⟩, g7_σ6, g9_σ6, g10_σ6, g11_σ6, g12_σ6, g13_σ6, g20_σ6, g22_σ6, g23_σ6, g24_σ6, g25_σ6⟩)⟩

set_option maxHeartbeats 4000000 in
set_option maxRecDepth 100000 in
theorem s_X12_takes {N : Nat} (hN : 1048576 ≤ N) {x1 : Nat} {σ0 : zS}  (hR : RF σ0.2.2) (hK : TOK σ0.1) (hY : BYT (σ0.1 224)) (hw : x1 < zSn) : Ok (f_X12_takes N 218 x1 σ0) (fun r => Tr [218] σ0 r.2 ∧ ((TOK r.2.1 ∧ (σ0.1 218 11).toInt ≤ (r.2.1 218 11).toInt ∧ (r.1 = 0 → r.2 = σ0 ∧ f_X12_is N 218 x1 σ0 = some (0, σ0)) ∧ (¬ r.1 = 0 → ((σ0.1 218 14 = 0 ∧ σ0.1 218 12 = 1) ∧ f_X12_is N 218 x1 σ0 = some (1, σ0)) ∧ (σ0.1 218 11).toInt < (r.2.1 218 11).toInt)) ∧ (r.2.1 218 7 = σ0.1 218 7 ∧ r.2.1 218 9 = σ0.1 218 9 ∧ r.2.1 218 14 = σ0.1 218 14 ∧ r.2.1 218 15 = σ0.1 218 15 ∧ r.2.1 218 20 = σ0.1 218 20 ∧ r.2.1 218 22 = σ0.1 218 22 ∧ r.2.1 218 23 = σ0.1 218 23 ∧ r.2.1 218 24 = σ0.1 218 24 ∧ r.2.1 218 25 = σ0.1 218 25))) := by
  have hT : Tr [218] σ0 σ0 := Tr.rf
  have hK1 := hK.1
  rw [f_X12_takes.eq_1]
  refine ok_gC rfl ?_
  refine ok_zbX (Q := fun V => (V = 0 → f_X12_is N 218 x1 σ0 = some (0, σ0)) ∧ (¬ V = 0 → (σ0.1 218 14 = 0 ∧ σ0.1 218 12 = 1) ∧ V = 1 ∧ f_X12_is N 218 x1 σ0 = some (1, σ0))) (x_X12_is hN (hR.tr hT) hw hK) (fun v1 hqv1 => ?_)
  have hqv1 : (v1 = 0 → f_X12_is N 218 x1 σ0 = some (0, σ0)) ∧ (¬ v1 = 0 → (σ0.1 218 14 = 0 ∧ σ0.1 218 12 = 1) ∧ v1 = 1 ∧ f_X12_is N 218 x1 σ0 = some (1, σ0)) := hqv1
  have z2 : v1 = 0 ∨ v1 = 1 := by by_cases h9 : v1 = 0; exact Or.inl h9; exact Or.inr (hqv1.2 h9).2.1
  refine ok_if (fun hc3 => ?_) (fun hc3 => ?_)
  · have qhc3 := hqv1.1 hc3
    have w7 := hc3
    exact ok_rZ (z2) ⟨hT, (show (TOK σ0.1 ∧ (σ0.1 218 11).toInt ≤ (σ0.1 218 11).toInt ∧ (v1 = 0 → σ0 = σ0 ∧ f_X12_is N 218 x1 σ0 = some (0, σ0)) ∧ (¬ v1 = 0 → ((σ0.1 218 14 = 0 ∧ σ0.1 218 12 = 1) ∧ f_X12_is N 218 x1 σ0 = some (1, σ0)) ∧ (σ0.1 218 11).toInt < (σ0.1 218 11).toInt)) ∧ (σ0.1 218 7 = σ0.1 218 7 ∧ σ0.1 218 9 = σ0.1 218 9 ∧ σ0.1 218 14 = σ0.1 218 14 ∧ σ0.1 218 15 = σ0.1 218 15 ∧ σ0.1 218 20 = σ0.1 218 20 ∧ σ0.1 218 22 = σ0.1 218 22 ∧ σ0.1 218 23 = σ0.1 218 23 ∧ σ0.1 218 24 = σ0.1 218 24 ∧ σ0.1 218 25 = σ0.1 218 25) from ⟨by first | exact ⟨hK, by omega, fun _ => ⟨rfl, hqv1.1 w7⟩, fun q => absurd w7 q⟩ | exact ⟨hK, by omega, fun q => absurd q w7, fun _ => ⟨⟨y7.1, y7.2.2⟩, by omega⟩⟩, rfl, rfl, rfl, rfl, rfl, rfl, rfl, rfl, rfl⟩)⟩
  · have qhc3 := hqv1.2 hc3
    have w7 := hc3
    have l7 := hK.2.1 (by rw [qhc3.1.2]; decide)
    have y7 := qhc3
    refine ok_gC rfl ?_
    refine ok_zbT (Q := fun V σ => (TOK σ.1 ∧ (σ0.1 218 10).toInt ≤ (σ.1 218 11).toInt) ∧ (σ.1 218 7 = σ0.1 218 7 ∧ σ.1 218 9 = σ0.1 218 9 ∧ σ.1 218 14 = σ0.1 218 14 ∧ σ.1 218 15 = σ0.1 218 15 ∧ σ.1 218 20 = σ0.1 218 20 ∧ σ.1 218 22 = σ0.1 218 22 ∧ σ.1 218 23 = σ0.1 218 23 ∧ σ.1 218 24 = σ0.1 218 24 ∧ σ.1 218 25 = σ0.1 218 25)) hT (s_X12_advance hN (hR.tr hT) (TOK_A hK) (by rw [hT.2 224 (by decide)]; exact hY)) (by decide) (fun v4 σ5 hOσ5 hT hqv4 => ?_)
    have hqv4 : (TOK σ5.1 ∧ (σ0.1 218 10).toInt ≤ (σ5.1 218 11).toInt) ∧ (σ5.1 218 7 = σ0.1 218 7 ∧ σ5.1 218 9 = σ0.1 218 9 ∧ σ5.1 218 14 = σ0.1 218 14 ∧ σ5.1 218 15 = σ0.1 218 15 ∧ σ5.1 218 20 = σ0.1 218 20 ∧ σ5.1 218 22 = σ0.1 218 22 ∧ σ5.1 218 23 = σ0.1 218 23 ∧ σ5.1 218 24 = σ0.1 218 24 ∧ σ5.1 218 25 = σ0.1 218 25) := hqv4
    have hkv4 := hqv4
    have hqv4 := hqv4.1
    have hK : TOK σ5.1 := by first | exact hqv4.1 | exact TOK_p eσ5 (by decide) hK
    have g7_σ5 : σ5.1 218 7 = (σ0.1 218 7) := hkv4.2.1
    have g9_σ5 : σ5.1 218 9 = (σ0.1 218 9) := hkv4.2.2.1
    have g14_σ5 : σ5.1 218 14 = (σ0.1 218 14) := hkv4.2.2.2.1
    have g15_σ5 : σ5.1 218 15 = (σ0.1 218 15) := hkv4.2.2.2.2.1
    have g20_σ5 : σ5.1 218 20 = (σ0.1 218 20) := hkv4.2.2.2.2.2.1
    have g22_σ5 : σ5.1 218 22 = (σ0.1 218 22) := hkv4.2.2.2.2.2.2.1
    have g23_σ5 : σ5.1 218 23 = (σ0.1 218 23) := hkv4.2.2.2.2.2.2.2.1
    have g24_σ5 : σ5.1 218 24 = (σ0.1 218 24) := hkv4.2.2.2.2.2.2.2.2.1
    have g25_σ5 : σ5.1 218 25 = (σ0.1 218 25) := hkv4.2.2.2.2.2.2.2.2.2
    exact ok_rZ (z2) ⟨hT, (show (TOK σ5.1 ∧ (σ0.1 218 11).toInt ≤ (σ5.1 218 11).toInt ∧ (v1 = 0 → σ5 = σ0 ∧ f_X12_is N 218 x1 σ0 = some (0, σ0)) ∧ (¬ v1 = 0 → ((σ0.1 218 14 = 0 ∧ σ0.1 218 12 = 1) ∧ f_X12_is N 218 x1 σ0 = some (1, σ0)) ∧ (σ0.1 218 11).toInt < (σ5.1 218 11).toInt)) ∧ (σ5.1 218 7 = σ0.1 218 7 ∧ σ5.1 218 9 = σ0.1 218 9 ∧ σ5.1 218 14 = σ0.1 218 14 ∧ σ5.1 218 15 = σ0.1 218 15 ∧ σ5.1 218 20 = σ0.1 218 20 ∧ σ5.1 218 22 = σ0.1 218 22 ∧ σ5.1 218 23 = σ0.1 218 23 ∧ σ5.1 218 24 = σ0.1 218 24 ∧ σ5.1 218 25 = σ0.1 218 25) from ⟨by first | exact ⟨hK, by omega, fun _ => ⟨rfl, hqv4.1 w7⟩, fun q => absurd w7 q⟩ | exact ⟨hK, by omega, fun q => absurd q w7, fun _ => ⟨⟨y7.1, y7.2.2⟩, by omega⟩⟩, g7_σ5, g9_σ5, g14_σ5, g15_σ5, g20_σ5, g22_σ5, g23_σ5, g24_σ5, g25_σ5⟩)⟩

set_option maxHeartbeats 4000000 in
set_option maxRecDepth 100000 in
theorem s_X12_needs {N : Nat} (hN : 1048576 ≤ N) {x1 : Nat} {σ0 : zS}  (hR : RF σ0.2.2) (hK : TOK σ0.1) (hY : BYT (σ0.1 224)) (hw : x1 < zSn) : Ok (f_X12_needs N 218 x1 σ0) (fun r => Tr [218] σ0 r.2 ∧ ((TOK r.2.1 ∧ (σ0.1 218 11).toInt ≤ (r.2.1 218 11).toInt ∧ (r.2.1 218 14 = 0 → σ0.1 218 14 = 0)) ∧ (r.2.1 218 7 = σ0.1 218 7 ∧ r.2.1 218 9 = σ0.1 218 9 ∧ r.2.1 218 20 = σ0.1 218 20 ∧ r.2.1 218 22 = σ0.1 218 22 ∧ r.2.1 218 23 = σ0.1 218 23 ∧ r.2.1 218 24 = σ0.1 218 24 ∧ r.2.1 218 25 = σ0.1 218 25))) := by
  have hT : Tr [218] σ0 σ0 := Tr.rf
  have hK1 := hK.1
  rw [f_X12_needs.eq_1]
  refine ok_gC rfl ?_
  refine ok_zbT (Q := fun V σ => (TOK σ.1 ∧ (σ0.1 218 11).toInt ≤ (σ.1 218 11).toInt ∧ (V = 0 → σ = σ0 ∧ f_X12_is N 218 x1 σ0 = some (0, σ0)) ∧ (¬ V = 0 → ((σ0.1 218 14 = 0 ∧ σ0.1 218 12 = 1) ∧ f_X12_is N 218 x1 σ0 = some (1, σ0)) ∧ (σ0.1 218 11).toInt < (σ.1 218 11).toInt)) ∧ (σ.1 218 7 = σ0.1 218 7 ∧ σ.1 218 9 = σ0.1 218 9 ∧ σ.1 218 14 = σ0.1 218 14 ∧ σ.1 218 15 = σ0.1 218 15 ∧ σ.1 218 20 = σ0.1 218 20 ∧ σ.1 218 22 = σ0.1 218 22 ∧ σ.1 218 23 = σ0.1 218 23 ∧ σ.1 218 24 = σ0.1 218 24 ∧ σ.1 218 25 = σ0.1 218 25)) hT (s_X12_takes hN (hR.tr hT) (hK) (by rw [hT.2 224 (by decide)]; exact hY) (hw)) (by decide) (fun v1 σ2 hOσ2 hT hqv1 => ?_)
  have hqv1 : (TOK σ2.1 ∧ (σ0.1 218 11).toInt ≤ (σ2.1 218 11).toInt ∧ (v1 = 0 → σ2 = σ0 ∧ f_X12_is N 218 x1 σ0 = some (0, σ0)) ∧ (¬ v1 = 0 → ((σ0.1 218 14 = 0 ∧ σ0.1 218 12 = 1) ∧ f_X12_is N 218 x1 σ0 = some (1, σ0)) ∧ (σ0.1 218 11).toInt < (σ2.1 218 11).toInt)) ∧ (σ2.1 218 7 = σ0.1 218 7 ∧ σ2.1 218 9 = σ0.1 218 9 ∧ σ2.1 218 14 = σ0.1 218 14 ∧ σ2.1 218 15 = σ0.1 218 15 ∧ σ2.1 218 20 = σ0.1 218 20 ∧ σ2.1 218 22 = σ0.1 218 22 ∧ σ2.1 218 23 = σ0.1 218 23 ∧ σ2.1 218 24 = σ0.1 218 24 ∧ σ2.1 218 25 = σ0.1 218 25) := hqv1
  have hkv1 := hqv1
  have hqv1 := hqv1.1
  have hK : TOK σ2.1 := by first | exact hqv1.1 | exact TOK_p eσ2 (by decide) hK
  have g7_σ2 : σ2.1 218 7 = (σ0.1 218 7) := hkv1.2.1
  have g9_σ2 : σ2.1 218 9 = (σ0.1 218 9) := hkv1.2.2.1
  have g14_σ2 : σ2.1 218 14 = (σ0.1 218 14) := hkv1.2.2.2.1
  have g15_σ2 : σ2.1 218 15 = (σ0.1 218 15) := hkv1.2.2.2.2.1
  have g20_σ2 : σ2.1 218 20 = (σ0.1 218 20) := hkv1.2.2.2.2.2.1
  have g22_σ2 : σ2.1 218 22 = (σ0.1 218 22) := hkv1.2.2.2.2.2.2.1
  have g23_σ2 : σ2.1 218 23 = (σ0.1 218 23) := hkv1.2.2.2.2.2.2.2.1
  have g24_σ2 : σ2.1 218 24 = (σ0.1 218 24) := hkv1.2.2.2.2.2.2.2.2.1
  have g25_σ2 : σ2.1 218 25 = (σ0.1 218 25) := hkv1.2.2.2.2.2.2.2.2.2
  have m2 := hqv1.2.1
  refine ok_if (fun hc3 => ?_) (fun hc3 => ?_)
  · refine ok_gC rfl ?_
    refine ok_zbT (Q := fun V σ => (TOK σ.1 ∧ ¬ σ.1 218 14 = 0) ∧ (σ.1 218 7 = σ2.1 218 7 ∧ σ.1 218 9 = σ2.1 218 9 ∧ σ.1 218 10 = σ2.1 218 10 ∧ σ.1 218 11 = σ2.1 218 11 ∧ σ.1 218 12 = σ2.1 218 12 ∧ σ.1 218 13 = σ2.1 218 13 ∧ σ.1 218 20 = σ2.1 218 20 ∧ σ.1 218 22 = σ2.1 218 22 ∧ σ.1 218 23 = σ2.1 218 23 ∧ σ.1 218 24 = σ2.1 218 24 ∧ σ.1 218 25 = σ2.1 218 25)) hT (s_X12_errs hN (hR.tr hT) (hK) (by rw [hT.2 224 (by decide)]; exact hY) (by decide)) (by decide) (fun v4 σ5 hOσ5 hT hqv4 => ?_)
    have hqv4 : (TOK σ5.1 ∧ ¬ σ5.1 218 14 = 0) ∧ (σ5.1 218 7 = σ2.1 218 7 ∧ σ5.1 218 9 = σ2.1 218 9 ∧ σ5.1 218 10 = σ2.1 218 10 ∧ σ5.1 218 11 = σ2.1 218 11 ∧ σ5.1 218 12 = σ2.1 218 12 ∧ σ5.1 218 13 = σ2.1 218 13 ∧ σ5.1 218 20 = σ2.1 218 20 ∧ σ5.1 218 22 = σ2.1 218 22 ∧ σ5.1 218 23 = σ2.1 218 23 ∧ σ5.1 218 24 = σ2.1 218 24 ∧ σ5.1 218 25 = σ2.1 218 25) := hqv4
    have hkv4 := hqv4
    have hqv4 := hqv4.1
    have hK : TOK σ5.1 := by first | exact hqv4.1 | exact TOK_p eσ5 (by decide) hK
    try simp only [g7_σ2, g9_σ2, g14_σ2, g15_σ2, g20_σ2, g22_σ2, g23_σ2, g24_σ2, g25_σ2] at hqv4
    have g7_σ5 : σ5.1 218 7 = (σ0.1 218 7) := (hkv4.2.1).trans g7_σ2
    have g9_σ5 : σ5.1 218 9 = (σ0.1 218 9) := (hkv4.2.2.1).trans g9_σ2
    have g10_σ5 : σ5.1 218 10 = (σ2.1 218 10) := hkv4.2.2.2.1
    have g11_σ5 : σ5.1 218 11 = (σ2.1 218 11) := hkv4.2.2.2.2.1
    have g12_σ5 : σ5.1 218 12 = (σ2.1 218 12) := hkv4.2.2.2.2.2.1
    have g13_σ5 : σ5.1 218 13 = (σ2.1 218 13) := hkv4.2.2.2.2.2.2.1
    have g20_σ5 : σ5.1 218 20 = (σ0.1 218 20) := (hkv4.2.2.2.2.2.2.2.1).trans g20_σ2
    have g22_σ5 : σ5.1 218 22 = (σ0.1 218 22) := (hkv4.2.2.2.2.2.2.2.2.1).trans g22_σ2
    have g23_σ5 : σ5.1 218 23 = (σ0.1 218 23) := (hkv4.2.2.2.2.2.2.2.2.2.1).trans g23_σ2
    have g24_σ5 : σ5.1 218 24 = (σ0.1 218 24) := (hkv4.2.2.2.2.2.2.2.2.2.2.1).trans g24_σ2
    have g25_σ5 : σ5.1 218 25 = (σ0.1 218 25) := (hkv4.2.2.2.2.2.2.2.2.2.2.2).trans g25_σ2
    exact ok_some ⟨hT, (show (TOK σ5.1 ∧ (σ0.1 218 11).toInt ≤ (σ5.1 218 11).toInt ∧ (σ5.1 218 14 = 0 → σ0.1 218 14 = 0)) ∧ (σ5.1 218 7 = σ0.1 218 7 ∧ σ5.1 218 9 = σ0.1 218 9 ∧ σ5.1 218 20 = σ0.1 218 20 ∧ σ5.1 218 22 = σ0.1 218 22 ∧ σ5.1 218 23 = σ0.1 218 23 ∧ σ5.1 218 24 = σ0.1 218 24 ∧ σ5.1 218 25 = σ0.1 218 25) from ⟨by first | exact ⟨hK, by (try simp only [g7_σ5, g9_σ5, g10_σ5, g11_σ5, g12_σ5, g13_σ5, g20_σ5, g22_σ5, g23_σ5, g24_σ5, g25_σ5]); omega, fun q => absurd q (by (try simp only [g7_σ5, g9_σ5, g10_σ5, g11_σ5, g12_σ5, g13_σ5, g20_σ5, g22_σ5, g23_σ5, g24_σ5, g25_σ5]); exact hqv4.2)⟩ | exact ⟨hK, by (try simp only [g7_σ5, g9_σ5, g10_σ5, g11_σ5, g12_σ5, g13_σ5, g20_σ5, g22_σ5, g23_σ5, g24_σ5, g25_σ5]); omega, fun q => by rw [rfl] at q; exact q⟩, g7_σ5, g9_σ5, g20_σ5, g22_σ5, g23_σ5, g24_σ5, g25_σ5⟩)⟩
  · exact ok_some ⟨hT, (show (TOK σ2.1 ∧ (σ0.1 218 11).toInt ≤ (σ2.1 218 11).toInt ∧ (σ2.1 218 14 = 0 → σ0.1 218 14 = 0)) ∧ (σ2.1 218 7 = σ0.1 218 7 ∧ σ2.1 218 9 = σ0.1 218 9 ∧ σ2.1 218 20 = σ0.1 218 20 ∧ σ2.1 218 22 = σ0.1 218 22 ∧ σ2.1 218 23 = σ0.1 218 23 ∧ σ2.1 218 24 = σ0.1 218 24 ∧ σ2.1 218 25 = σ0.1 218 25) from ⟨by first | exact ⟨hK, by (try simp only [g7_σ2, g9_σ2, g14_σ2, g15_σ2, g20_σ2, g22_σ2, g23_σ2, g24_σ2, g25_σ2]); omega, fun q => absurd q (by (try simp only [g7_σ2, g9_σ2, g14_σ2, g15_σ2, g20_σ2, g22_σ2, g23_σ2, g24_σ2, g25_σ2]); exact hqv1.2)⟩ | exact ⟨hK, by (try simp only [g7_σ2, g9_σ2, g14_σ2, g15_σ2, g20_σ2, g22_σ2, g23_σ2, g24_σ2, g25_σ2]); omega, fun q => by rw [g14_σ2] at q; exact q⟩, g7_σ2, g9_σ2, g20_σ2, g22_σ2, g23_σ2, g24_σ2, g25_σ2⟩)⟩

set_option maxHeartbeats 4000000 in
set_option maxRecDepth 100000 in
theorem s_X12_needsSign {N : Nat} (hN : 1048576 ≤ N) {x1 : Int32} {σ0 : zS}  (hR : RF σ0.2.2) (hK : TOK σ0.1) (hY : BYT (σ0.1 224)) (hs1 : ¬ x1 = 0) : Ok (f_X12_needsSign N 218 x1 σ0) (fun r => Tr [218] σ0 r.2 ∧ ((TOK r.2.1 ∧ (σ0.1 218 11).toInt ≤ (r.2.1 218 11).toInt ∧ (r.2.1 218 14 = 0 → σ0.1 218 14 = 0 ∧ (σ0.1 218 11).toInt < (r.2.1 218 11).toInt)) ∧ (r.2.1 218 7 = σ0.1 218 7 ∧ r.2.1 218 9 = σ0.1 218 9 ∧ r.2.1 218 20 = σ0.1 218 20 ∧ r.2.1 218 22 = σ0.1 218 22 ∧ r.2.1 218 23 = σ0.1 218 23 ∧ r.2.1 218 24 = σ0.1 218 24 ∧ r.2.1 218 25 = σ0.1 218 25))) := by
  have hT : Tr [218] σ0 σ0 := Tr.rf
  have hK1 := hK.1
  rw [f_X12_needsSign.eq_1]
  refine ok_gC rfl ?_
  refine ok_zbX (Q := fun V => (V = 0 → ¬ σ0.1 218 14 = 0) ∧ (¬ V = 0 → σ0.1 218 14 = 0)) (x_X12_good) (fun v1 hqv1 => ?_)
  have hqv1 : (v1 = 0 → ¬ σ0.1 218 14 = 0) ∧ (¬ v1 = 0 → σ0.1 218 14 = 0) := hqv1
  refine ok_if (fun hc3 => ?_) (fun hc3 => ?_)
  · have qhc3 := hqv1.1 hc3
    have n4 := qhc3
    rw [J_X12_needsSign_20.eq_1]
    refine ok_gC rfl ?_
    refine ok_zbX (Q := fun V => (V = 0 → ¬ σ0.1 218 14 = 0) ∧ (¬ V = 0 → σ0.1 218 14 = 0)) (x_X12_good) (fun v4 hqv4 => ?_)
    have hqv4 : (v4 = 0 → ¬ σ0.1 218 14 = 0) ∧ (¬ v4 = 0 → σ0.1 218 14 = 0) := hqv4
    refine ok_if (fun hc6 => ?_) (fun hc6 => ?_)
    · have qhc6 := hqv4.1 hc6
      have n24 := qhc6
      exact ok_some ⟨hT, (show (TOK σ0.1 ∧ (σ0.1 218 11).toInt ≤ (σ0.1 218 11).toInt ∧ (σ0.1 218 14 = 0 → σ0.1 218 14 = 0 ∧ (σ0.1 218 11).toInt < (σ0.1 218 11).toInt)) ∧ (σ0.1 218 7 = σ0.1 218 7 ∧ σ0.1 218 9 = σ0.1 218 9 ∧ σ0.1 218 20 = σ0.1 218 20 ∧ σ0.1 218 22 = σ0.1 218 22 ∧ σ0.1 218 23 = σ0.1 218 23 ∧ σ0.1 218 24 = σ0.1 218 24 ∧ σ0.1 218 25 = σ0.1 218 25) from ⟨by first | exact ⟨hK, by skip; omega, fun q => absurd q (by skip; exact n24)⟩ | exact ⟨hK, by skip; omega, fun _ => ⟨y4, by skip; omega⟩⟩ | exact absurd y24 n4 | exact absurd y24 n17, rfl, rfl, rfl, rfl, rfl, rfl, rfl⟩)⟩
    · have qhc6 := hqv4.2 hc6
      have y24 := qhc6
      refine ok_gC rfl ?_
      refine ok_zbT (Q := fun V σ => (TOK σ.1 ∧ (σ0.1 218 10).toInt ≤ (σ.1 218 11).toInt) ∧ (σ.1 218 7 = σ0.1 218 7 ∧ σ.1 218 9 = σ0.1 218 9 ∧ σ.1 218 14 = σ0.1 218 14 ∧ σ.1 218 15 = σ0.1 218 15 ∧ σ.1 218 20 = σ0.1 218 20 ∧ σ.1 218 22 = σ0.1 218 22 ∧ σ.1 218 23 = σ0.1 218 23 ∧ σ.1 218 24 = σ0.1 218 24 ∧ σ.1 218 25 = σ0.1 218 25)) hT (s_X12_advance hN (hR.tr hT) (TOK_A hK) (by rw [hT.2 224 (by decide)]; exact hY)) (by decide) (fun v7 σ8 hOσ8 hT hqv7 => ?_)
      have hqv7 : (TOK σ8.1 ∧ (σ0.1 218 10).toInt ≤ (σ8.1 218 11).toInt) ∧ (σ8.1 218 7 = σ0.1 218 7 ∧ σ8.1 218 9 = σ0.1 218 9 ∧ σ8.1 218 14 = σ0.1 218 14 ∧ σ8.1 218 15 = σ0.1 218 15 ∧ σ8.1 218 20 = σ0.1 218 20 ∧ σ8.1 218 22 = σ0.1 218 22 ∧ σ8.1 218 23 = σ0.1 218 23 ∧ σ8.1 218 24 = σ0.1 218 24 ∧ σ8.1 218 25 = σ0.1 218 25) := hqv7
      have hkv7 := hqv7
      have hqv7 := hqv7.1
      have hK : TOK σ8.1 := by first | exact hqv7.1 | exact TOK_p eσ8 (by decide) hK
      have g7_σ8 : σ8.1 218 7 = (σ0.1 218 7) := hkv7.2.1
      have g9_σ8 : σ8.1 218 9 = (σ0.1 218 9) := hkv7.2.2.1
      have g14_σ8 : σ8.1 218 14 = (σ0.1 218 14) := hkv7.2.2.2.1
      have g15_σ8 : σ8.1 218 15 = (σ0.1 218 15) := hkv7.2.2.2.2.1
      have g20_σ8 : σ8.1 218 20 = (σ0.1 218 20) := hkv7.2.2.2.2.2.1
      have g22_σ8 : σ8.1 218 22 = (σ0.1 218 22) := hkv7.2.2.2.2.2.2.1
      have g23_σ8 : σ8.1 218 23 = (σ0.1 218 23) := hkv7.2.2.2.2.2.2.2.1
      have g24_σ8 : σ8.1 218 24 = (σ0.1 218 24) := hkv7.2.2.2.2.2.2.2.2.1
      have g25_σ8 : σ8.1 218 25 = (σ0.1 218 25) := hkv7.2.2.2.2.2.2.2.2.2
      exact ok_some ⟨hT, (show (TOK σ8.1 ∧ (σ0.1 218 11).toInt ≤ (σ8.1 218 11).toInt ∧ (σ8.1 218 14 = 0 → σ0.1 218 14 = 0 ∧ (σ0.1 218 11).toInt < (σ8.1 218 11).toInt)) ∧ (σ8.1 218 7 = σ0.1 218 7 ∧ σ8.1 218 9 = σ0.1 218 9 ∧ σ8.1 218 20 = σ0.1 218 20 ∧ σ8.1 218 22 = σ0.1 218 22 ∧ σ8.1 218 23 = σ0.1 218 23 ∧ σ8.1 218 24 = σ0.1 218 24 ∧ σ8.1 218 25 = σ0.1 218 25) from ⟨by first | exact ⟨hK, by (try simp only [g7_σ8, g9_σ8, g14_σ8, g15_σ8, g20_σ8, g22_σ8, g23_σ8, g24_σ8, g25_σ8]); omega, fun q => absurd q (by (try simp only [g7_σ8, g9_σ8, g14_σ8, g15_σ8, g20_σ8, g22_σ8, g23_σ8, g24_σ8, g25_σ8]); exact n24)⟩ | exact ⟨hK, by (try simp only [g7_σ8, g9_σ8, g14_σ8, g15_σ8, g20_σ8, g22_σ8, g23_σ8, g24_σ8, g25_σ8]); omega, fun _ => ⟨y4, by (try simp only [g7_σ8, g9_σ8, g14_σ8, g15_σ8, g20_σ8, g22_σ8, g23_σ8, g24_σ8, g25_σ8]); omega⟩⟩ | exact absurd y24 n4 | exact absurd y24 n17, g7_σ8, g9_σ8, g20_σ8, g22_σ8, g23_σ8, g24_σ8, g25_σ8⟩)⟩
  · have qhc3 := hqv1.2 hc3
    have y4 := qhc3
    refine ok_gI rfl ?_
    refine ok_if (fun hc10 => ?_) (fun hc10 => ?_)
    · have l12 := hK.2.1 (by rw [hc10]; exact hs1)
      rw [J_X12_needsSign_20.eq_1]
      refine ok_gC rfl ?_
      refine ok_zbX (Q := fun V => (V = 0 → ¬ σ0.1 218 14 = 0) ∧ (¬ V = 0 → σ0.1 218 14 = 0)) (x_X12_good) (fun v11 hqv11 => ?_)
      have hqv11 : (v11 = 0 → ¬ σ0.1 218 14 = 0) ∧ (¬ v11 = 0 → σ0.1 218 14 = 0) := hqv11
      refine ok_if (fun hc13 => ?_) (fun hc13 => ?_)
      · have qhc13 := hqv11.1 hc13
        have n24 := qhc13
        exact ok_some ⟨hT, (show (TOK σ0.1 ∧ (σ0.1 218 11).toInt ≤ (σ0.1 218 11).toInt ∧ (σ0.1 218 14 = 0 → σ0.1 218 14 = 0 ∧ (σ0.1 218 11).toInt < (σ0.1 218 11).toInt)) ∧ (σ0.1 218 7 = σ0.1 218 7 ∧ σ0.1 218 9 = σ0.1 218 9 ∧ σ0.1 218 20 = σ0.1 218 20 ∧ σ0.1 218 22 = σ0.1 218 22 ∧ σ0.1 218 23 = σ0.1 218 23 ∧ σ0.1 218 24 = σ0.1 218 24 ∧ σ0.1 218 25 = σ0.1 218 25) from ⟨by first | exact ⟨hK, by skip; omega, fun q => absurd q (by skip; exact n24)⟩ | exact ⟨hK, by skip; omega, fun _ => ⟨y4, by skip; omega⟩⟩ | exact absurd y24 n4 | exact absurd y24 n17, rfl, rfl, rfl, rfl, rfl, rfl, rfl⟩)⟩
      · have qhc13 := hqv11.2 hc13
        have y24 := qhc13
        refine ok_gC rfl ?_
        refine ok_zbT (Q := fun V σ => (TOK σ.1 ∧ (σ0.1 218 10).toInt ≤ (σ.1 218 11).toInt) ∧ (σ.1 218 7 = σ0.1 218 7 ∧ σ.1 218 9 = σ0.1 218 9 ∧ σ.1 218 14 = σ0.1 218 14 ∧ σ.1 218 15 = σ0.1 218 15 ∧ σ.1 218 20 = σ0.1 218 20 ∧ σ.1 218 22 = σ0.1 218 22 ∧ σ.1 218 23 = σ0.1 218 23 ∧ σ.1 218 24 = σ0.1 218 24 ∧ σ.1 218 25 = σ0.1 218 25)) hT (s_X12_advance hN (hR.tr hT) (TOK_A hK) (by rw [hT.2 224 (by decide)]; exact hY)) (by decide) (fun v14 σ15 hOσ15 hT hqv14 => ?_)
        have hqv14 : (TOK σ15.1 ∧ (σ0.1 218 10).toInt ≤ (σ15.1 218 11).toInt) ∧ (σ15.1 218 7 = σ0.1 218 7 ∧ σ15.1 218 9 = σ0.1 218 9 ∧ σ15.1 218 14 = σ0.1 218 14 ∧ σ15.1 218 15 = σ0.1 218 15 ∧ σ15.1 218 20 = σ0.1 218 20 ∧ σ15.1 218 22 = σ0.1 218 22 ∧ σ15.1 218 23 = σ0.1 218 23 ∧ σ15.1 218 24 = σ0.1 218 24 ∧ σ15.1 218 25 = σ0.1 218 25) := hqv14
        have hkv14 := hqv14
        have hqv14 := hqv14.1
        have hK : TOK σ15.1 := by first | exact hqv14.1 | exact TOK_p eσ15 (by decide) hK
        have g7_σ15 : σ15.1 218 7 = (σ0.1 218 7) := hkv14.2.1
        have g9_σ15 : σ15.1 218 9 = (σ0.1 218 9) := hkv14.2.2.1
        have g14_σ15 : σ15.1 218 14 = (σ0.1 218 14) := hkv14.2.2.2.1
        have g15_σ15 : σ15.1 218 15 = (σ0.1 218 15) := hkv14.2.2.2.2.1
        have g20_σ15 : σ15.1 218 20 = (σ0.1 218 20) := hkv14.2.2.2.2.2.1
        have g22_σ15 : σ15.1 218 22 = (σ0.1 218 22) := hkv14.2.2.2.2.2.2.1
        have g23_σ15 : σ15.1 218 23 = (σ0.1 218 23) := hkv14.2.2.2.2.2.2.2.1
        have g24_σ15 : σ15.1 218 24 = (σ0.1 218 24) := hkv14.2.2.2.2.2.2.2.2.1
        have g25_σ15 : σ15.1 218 25 = (σ0.1 218 25) := hkv14.2.2.2.2.2.2.2.2.2
        exact ok_some ⟨hT, (show (TOK σ15.1 ∧ (σ0.1 218 11).toInt ≤ (σ15.1 218 11).toInt ∧ (σ15.1 218 14 = 0 → σ0.1 218 14 = 0 ∧ (σ0.1 218 11).toInt < (σ15.1 218 11).toInt)) ∧ (σ15.1 218 7 = σ0.1 218 7 ∧ σ15.1 218 9 = σ0.1 218 9 ∧ σ15.1 218 20 = σ0.1 218 20 ∧ σ15.1 218 22 = σ0.1 218 22 ∧ σ15.1 218 23 = σ0.1 218 23 ∧ σ15.1 218 24 = σ0.1 218 24 ∧ σ15.1 218 25 = σ0.1 218 25) from ⟨by first | exact ⟨hK, by (try simp only [g7_σ15, g9_σ15, g14_σ15, g15_σ15, g20_σ15, g22_σ15, g23_σ15, g24_σ15, g25_σ15]); omega, fun q => absurd q (by (try simp only [g7_σ15, g9_σ15, g14_σ15, g15_σ15, g20_σ15, g22_σ15, g23_σ15, g24_σ15, g25_σ15]); exact n24)⟩ | exact ⟨hK, by (try simp only [g7_σ15, g9_σ15, g14_σ15, g15_σ15, g20_σ15, g22_σ15, g23_σ15, g24_σ15, g25_σ15]); omega, fun _ => ⟨y4, by (try simp only [g7_σ15, g9_σ15, g14_σ15, g15_σ15, g20_σ15, g22_σ15, g23_σ15, g24_σ15, g25_σ15]); omega⟩⟩ | exact absurd y24 n4 | exact absurd y24 n17, g7_σ15, g9_σ15, g20_σ15, g22_σ15, g23_σ15, g24_σ15, g25_σ15⟩)⟩
    · refine ok_gC rfl ?_
      refine ok_zbT (Q := fun V σ => (TOK σ.1 ∧ ¬ σ.1 218 14 = 0) ∧ (σ.1 218 7 = σ0.1 218 7 ∧ σ.1 218 9 = σ0.1 218 9 ∧ σ.1 218 10 = σ0.1 218 10 ∧ σ.1 218 11 = σ0.1 218 11 ∧ σ.1 218 12 = σ0.1 218 12 ∧ σ.1 218 13 = σ0.1 218 13 ∧ σ.1 218 20 = σ0.1 218 20 ∧ σ.1 218 22 = σ0.1 218 22 ∧ σ.1 218 23 = σ0.1 218 23 ∧ σ.1 218 24 = σ0.1 218 24 ∧ σ.1 218 25 = σ0.1 218 25)) hT (s_X12_errs hN (hR.tr hT) (hK) (by rw [hT.2 224 (by decide)]; exact hY) (by decide)) (by decide) (fun v16 σ17 hOσ17 hT hqv16 => ?_)
      have hqv16 : (TOK σ17.1 ∧ ¬ σ17.1 218 14 = 0) ∧ (σ17.1 218 7 = σ0.1 218 7 ∧ σ17.1 218 9 = σ0.1 218 9 ∧ σ17.1 218 10 = σ0.1 218 10 ∧ σ17.1 218 11 = σ0.1 218 11 ∧ σ17.1 218 12 = σ0.1 218 12 ∧ σ17.1 218 13 = σ0.1 218 13 ∧ σ17.1 218 20 = σ0.1 218 20 ∧ σ17.1 218 22 = σ0.1 218 22 ∧ σ17.1 218 23 = σ0.1 218 23 ∧ σ17.1 218 24 = σ0.1 218 24 ∧ σ17.1 218 25 = σ0.1 218 25) := hqv16
      have hkv16 := hqv16
      have hqv16 := hqv16.1
      have hK : TOK σ17.1 := by first | exact hqv16.1 | exact TOK_p eσ17 (by decide) hK
      have g7_σ17 : σ17.1 218 7 = (σ0.1 218 7) := hkv16.2.1
      have g9_σ17 : σ17.1 218 9 = (σ0.1 218 9) := hkv16.2.2.1
      have g10_σ17 : σ17.1 218 10 = (σ0.1 218 10) := hkv16.2.2.2.1
      have g11_σ17 : σ17.1 218 11 = (σ0.1 218 11) := hkv16.2.2.2.2.1
      have g12_σ17 : σ17.1 218 12 = (σ0.1 218 12) := hkv16.2.2.2.2.2.1
      have g13_σ17 : σ17.1 218 13 = (σ0.1 218 13) := hkv16.2.2.2.2.2.2.1
      have g20_σ17 : σ17.1 218 20 = (σ0.1 218 20) := hkv16.2.2.2.2.2.2.2.1
      have g22_σ17 : σ17.1 218 22 = (σ0.1 218 22) := hkv16.2.2.2.2.2.2.2.2.1
      have g23_σ17 : σ17.1 218 23 = (σ0.1 218 23) := hkv16.2.2.2.2.2.2.2.2.2.1
      have g24_σ17 : σ17.1 218 24 = (σ0.1 218 24) := hkv16.2.2.2.2.2.2.2.2.2.2.1
      have g25_σ17 : σ17.1 218 25 = (σ0.1 218 25) := hkv16.2.2.2.2.2.2.2.2.2.2.2
      have n17 := hqv16.2
      rw [J_X12_needsSign_20.eq_1]
      refine ok_gC rfl ?_
      refine ok_zbX (Q := fun V => (V = 0 → ¬ σ17.1 218 14 = 0) ∧ (¬ V = 0 → σ17.1 218 14 = 0)) (x_X12_good) (fun v18 hqv18 => ?_)
      have hqv18 : (v18 = 0 → ¬ σ17.1 218 14 = 0) ∧ (¬ v18 = 0 → σ17.1 218 14 = 0) := hqv18
      try simp only [g7_σ17, g9_σ17, g10_σ17, g11_σ17, g12_σ17, g13_σ17, g20_σ17, g22_σ17, g23_σ17, g24_σ17, g25_σ17, hT.2 224 (by decide)] at hqv18
      refine ok_if (fun hc20 => ?_) (fun hc20 => ?_)
      · have qhc20 := hqv18.1 hc20
        have n24 := qhc20
        exact ok_some ⟨hT, (show (TOK σ17.1 ∧ (σ0.1 218 11).toInt ≤ (σ17.1 218 11).toInt ∧ (σ17.1 218 14 = 0 → σ0.1 218 14 = 0 ∧ (σ0.1 218 11).toInt < (σ17.1 218 11).toInt)) ∧ (σ17.1 218 7 = σ0.1 218 7 ∧ σ17.1 218 9 = σ0.1 218 9 ∧ σ17.1 218 20 = σ0.1 218 20 ∧ σ17.1 218 22 = σ0.1 218 22 ∧ σ17.1 218 23 = σ0.1 218 23 ∧ σ17.1 218 24 = σ0.1 218 24 ∧ σ17.1 218 25 = σ0.1 218 25) from ⟨by first | exact ⟨hK, by (try simp only [g7_σ17, g9_σ17, g10_σ17, g11_σ17, g12_σ17, g13_σ17, g20_σ17, g22_σ17, g23_σ17, g24_σ17, g25_σ17]); omega, fun q => absurd q (by (try simp only [g7_σ17, g9_σ17, g10_σ17, g11_σ17, g12_σ17, g13_σ17, g20_σ17, g22_σ17, g23_σ17, g24_σ17, g25_σ17]); exact n24)⟩ | exact ⟨hK, by (try simp only [g7_σ17, g9_σ17, g10_σ17, g11_σ17, g12_σ17, g13_σ17, g20_σ17, g22_σ17, g23_σ17, g24_σ17, g25_σ17]); omega, fun _ => ⟨y4, by (try simp only [g7_σ17, g9_σ17, g10_σ17, g11_σ17, g12_σ17, g13_σ17, g20_σ17, g22_σ17, g23_σ17, g24_σ17, g25_σ17]); omega⟩⟩ | exact absurd y24 n4 | exact absurd y24 n17, g7_σ17, g9_σ17, g20_σ17, g22_σ17, g23_σ17, g24_σ17, g25_σ17⟩)⟩
      · have qhc20 := hqv18.2 hc20
        have y24 := qhc20
        refine ok_gC rfl ?_
        refine ok_zbT (Q := fun V σ => (TOK σ.1 ∧ (σ17.1 218 10).toInt ≤ (σ.1 218 11).toInt) ∧ (σ.1 218 7 = σ17.1 218 7 ∧ σ.1 218 9 = σ17.1 218 9 ∧ σ.1 218 14 = σ17.1 218 14 ∧ σ.1 218 15 = σ17.1 218 15 ∧ σ.1 218 20 = σ17.1 218 20 ∧ σ.1 218 22 = σ17.1 218 22 ∧ σ.1 218 23 = σ17.1 218 23 ∧ σ.1 218 24 = σ17.1 218 24 ∧ σ.1 218 25 = σ17.1 218 25)) hT (s_X12_advance hN (hR.tr hT) (TOK_A hK) (by rw [hT.2 224 (by decide)]; exact hY)) (by decide) (fun v21 σ22 hOσ22 hT hqv21 => ?_)
        have hqv21 : (TOK σ22.1 ∧ (σ17.1 218 10).toInt ≤ (σ22.1 218 11).toInt) ∧ (σ22.1 218 7 = σ17.1 218 7 ∧ σ22.1 218 9 = σ17.1 218 9 ∧ σ22.1 218 14 = σ17.1 218 14 ∧ σ22.1 218 15 = σ17.1 218 15 ∧ σ22.1 218 20 = σ17.1 218 20 ∧ σ22.1 218 22 = σ17.1 218 22 ∧ σ22.1 218 23 = σ17.1 218 23 ∧ σ22.1 218 24 = σ17.1 218 24 ∧ σ22.1 218 25 = σ17.1 218 25) := hqv21
        have hkv21 := hqv21
        have hqv21 := hqv21.1
        have hK : TOK σ22.1 := by first | exact hqv21.1 | exact TOK_p eσ22 (by decide) hK
        try simp only [g7_σ17, g9_σ17, g10_σ17, g11_σ17, g12_σ17, g13_σ17, g20_σ17, g22_σ17, g23_σ17, g24_σ17, g25_σ17] at hqv21
        have g7_σ22 : σ22.1 218 7 = (σ0.1 218 7) := (hkv21.2.1).trans g7_σ17
        have g9_σ22 : σ22.1 218 9 = (σ0.1 218 9) := (hkv21.2.2.1).trans g9_σ17
        have g14_σ22 : σ22.1 218 14 = (σ17.1 218 14) := hkv21.2.2.2.1
        have g15_σ22 : σ22.1 218 15 = (σ17.1 218 15) := hkv21.2.2.2.2.1
        have g20_σ22 : σ22.1 218 20 = (σ0.1 218 20) := (hkv21.2.2.2.2.2.1).trans g20_σ17
        have g22_σ22 : σ22.1 218 22 = (σ0.1 218 22) := (hkv21.2.2.2.2.2.2.1).trans g22_σ17
        have g23_σ22 : σ22.1 218 23 = (σ0.1 218 23) := (hkv21.2.2.2.2.2.2.2.1).trans g23_σ17
        have g24_σ22 : σ22.1 218 24 = (σ0.1 218 24) := (hkv21.2.2.2.2.2.2.2.2.1).trans g24_σ17
        have g25_σ22 : σ22.1 218 25 = (σ0.1 218 25) := (hkv21.2.2.2.2.2.2.2.2.2).trans g25_σ17
        exact ok_some ⟨hT, (show (TOK σ22.1 ∧ (σ0.1 218 11).toInt ≤ (σ22.1 218 11).toInt ∧ (σ22.1 218 14 = 0 → σ0.1 218 14 = 0 ∧ (σ0.1 218 11).toInt < (σ22.1 218 11).toInt)) ∧ (σ22.1 218 7 = σ0.1 218 7 ∧ σ22.1 218 9 = σ0.1 218 9 ∧ σ22.1 218 20 = σ0.1 218 20 ∧ σ22.1 218 22 = σ0.1 218 22 ∧ σ22.1 218 23 = σ0.1 218 23 ∧ σ22.1 218 24 = σ0.1 218 24 ∧ σ22.1 218 25 = σ0.1 218 25) from ⟨by first | exact ⟨hK, by (try simp only [g7_σ22, g9_σ22, g14_σ22, g15_σ22, g20_σ22, g22_σ22, g23_σ22, g24_σ22, g25_σ22]); omega, fun q => absurd q (by (try simp only [g7_σ22, g9_σ22, g14_σ22, g15_σ22, g20_σ22, g22_σ22, g23_σ22, g24_σ22, g25_σ22]); exact n24)⟩ | exact ⟨hK, by (try simp only [g7_σ22, g9_σ22, g14_σ22, g15_σ22, g20_σ22, g22_σ22, g23_σ22, g24_σ22, g25_σ22]); omega, fun _ => ⟨y4, by (try simp only [g7_σ22, g9_σ22, g14_σ22, g15_σ22, g20_σ22, g22_σ22, g23_σ22, g24_σ22, g25_σ22]); omega⟩⟩ | exact absurd y24 n4 | exact absurd y24 n17, g7_σ22, g9_σ22, g20_σ22, g22_σ22, g23_σ22, g24_σ22, g25_σ22⟩)⟩

set_option maxHeartbeats 4000000 in
set_option maxRecDepth 100000 in
theorem s_X12_number {N : Nat} (hN : 1048576 ≤ N) {x1 : Int32} {x2 : Int32} {σ0 : zS}  (hR : RF σ0.2.2) (hK : TOK σ0.1) (hY : BYT (σ0.1 224)) : Ok (f_X12_number N 218 x1 x2 σ0) (fun r => Tr [218] σ0 r.2 ∧ ((TOK r.2.1 ∧ (σ0.1 218 11).toInt ≤ (r.2.1 218 11).toInt ∧ (r.2.1 218 14 = 0 → (σ0.1 218 14 = 0 ∧ (σ0.1 218 11).toInt < (r.2.1 218 11).toInt) ∧ x1.toInt ≤ r.1.toInt ∧ r.1.toInt ≤ x2.toInt) ∧ (¬ r.2.1 218 14 = 0 → r.1 = 0)) ∧ (r.2.1 218 7 = σ0.1 218 7 ∧ r.2.1 218 9 = σ0.1 218 9 ∧ r.2.1 218 20 = σ0.1 218 20 ∧ r.2.1 218 22 = σ0.1 218 22 ∧ r.2.1 218 23 = σ0.1 218 23 ∧ r.2.1 218 24 = σ0.1 218 24 ∧ r.2.1 218 25 = σ0.1 218 25))) := by
  have hT : Tr [218] σ0 σ0 := Tr.rf
  have hK1 := hK.1
  rw [f_X12_number.eq_1]
  refine ok_gC rfl ?_
  refine ok_zbX (Q := fun V => (V = 0 → ¬ σ0.1 218 14 = 0) ∧ (¬ V = 0 → σ0.1 218 14 = 0)) (x_X12_good) (fun v1 hqv1 => ?_)
  have hqv1 : (v1 = 0 → ¬ σ0.1 218 14 = 0) ∧ (¬ v1 = 0 → σ0.1 218 14 = 0) := hqv1
  refine ok_if (fun hc3 => ?_) (fun hc3 => ?_)
  · have qhc3 := hqv1.1 hc3
    have n4 := qhc3
    rw [J_X12_number_20.eq_1]
    refine ok_gC rfl ?_
    refine ok_zbX (Q := fun V => (V = 0 → ¬ σ0.1 218 14 = 0) ∧ (¬ V = 0 → σ0.1 218 14 = 0)) (x_X12_good) (fun v4 hqv4 => ?_)
    have hqv4 : (v4 = 0 → ¬ σ0.1 218 14 = 0) ∧ (¬ v4 = 0 → σ0.1 218 14 = 0) := hqv4
    refine ok_if (fun hc6 => ?_) (fun hc6 => ?_)
    · have qhc6 := hqv4.1 hc6
      have n24 := qhc6
      rw [J_X12_number_47.eq_1]
      refine ok_gC rfl ?_
      refine ok_zbX (Q := fun V => (V = 0 → ¬ σ0.1 218 14 = 0) ∧ (¬ V = 0 → σ0.1 218 14 = 0)) (x_X12_good) (fun v7 hqv7 => ?_)
      have hqv7 : (v7 = 0 → ¬ σ0.1 218 14 = 0) ∧ (¬ v7 = 0 → σ0.1 218 14 = 0) := hqv7
      refine ok_if (fun hc9 => ?_) (fun hc9 => ?_)
      · have qhc9 := hqv7.1 hc9
        have n51 := qhc9
        exact ok_some ⟨hT, (show (TOK σ0.1 ∧ (σ0.1 218 11).toInt ≤ (σ0.1 218 11).toInt ∧ (σ0.1 218 14 = 0 → (σ0.1 218 14 = 0 ∧ (σ0.1 218 11).toInt < (σ0.1 218 11).toInt) ∧ x1.toInt ≤ (0 : Int32).toInt ∧ (0 : Int32).toInt ≤ x2.toInt) ∧ (¬ σ0.1 218 14 = 0 → (0 : Int32) = 0)) ∧ (σ0.1 218 7 = σ0.1 218 7 ∧ σ0.1 218 9 = σ0.1 218 9 ∧ σ0.1 218 20 = σ0.1 218 20 ∧ σ0.1 218 22 = σ0.1 218 22 ∧ σ0.1 218 23 = σ0.1 218 23 ∧ σ0.1 218 24 = σ0.1 218 24 ∧ σ0.1 218 25 = σ0.1 218 25) from ⟨by first | exact ⟨hK, by skip; omega, fun q => absurd q (by skip; exact n51), fun _ => rfl⟩ | exact ⟨hK, by skip; omega, fun _ => ⟨⟨y4, by skip; omega⟩, r39⟩, fun q => absurd (by skip; exact y51) q⟩ | exact absurd y51 n44 | exact absurd y51 n24 | exact absurd y51 n17 | exact absurd y51 n4, rfl, rfl, rfl, rfl, rfl, rfl, rfl⟩)⟩
      · have qhc9 := hqv7.2 hc9
        have y51 := qhc9
        refine ok_gI rfl ?_
        refine ok_gC rfl ?_
        refine ok_zbT (Q := fun V σ => (TOK σ.1 ∧ (σ0.1 218 10).toInt ≤ (σ.1 218 11).toInt) ∧ (σ.1 218 7 = σ0.1 218 7 ∧ σ.1 218 9 = σ0.1 218 9 ∧ σ.1 218 14 = σ0.1 218 14 ∧ σ.1 218 15 = σ0.1 218 15 ∧ σ.1 218 20 = σ0.1 218 20 ∧ σ.1 218 22 = σ0.1 218 22 ∧ σ.1 218 23 = σ0.1 218 23 ∧ σ.1 218 24 = σ0.1 218 24 ∧ σ.1 218 25 = σ0.1 218 25)) hT (s_X12_advance hN (hR.tr hT) (TOK_A hK) (by rw [hT.2 224 (by decide)]; exact hY)) (by decide) (fun v11 σ12 hOσ12 hT hqv11 => ?_)
        have hqv11 : (TOK σ12.1 ∧ (σ0.1 218 10).toInt ≤ (σ12.1 218 11).toInt) ∧ (σ12.1 218 7 = σ0.1 218 7 ∧ σ12.1 218 9 = σ0.1 218 9 ∧ σ12.1 218 14 = σ0.1 218 14 ∧ σ12.1 218 15 = σ0.1 218 15 ∧ σ12.1 218 20 = σ0.1 218 20 ∧ σ12.1 218 22 = σ0.1 218 22 ∧ σ12.1 218 23 = σ0.1 218 23 ∧ σ12.1 218 24 = σ0.1 218 24 ∧ σ12.1 218 25 = σ0.1 218 25) := hqv11
        have hkv11 := hqv11
        have hqv11 := hqv11.1
        have hK : TOK σ12.1 := by first | exact hqv11.1 | exact TOK_p eσ12 (by decide) hK
        have g7_σ12 : σ12.1 218 7 = (σ0.1 218 7) := hkv11.2.1
        have g9_σ12 : σ12.1 218 9 = (σ0.1 218 9) := hkv11.2.2.1
        have g14_σ12 : σ12.1 218 14 = (σ0.1 218 14) := hkv11.2.2.2.1
        have g15_σ12 : σ12.1 218 15 = (σ0.1 218 15) := hkv11.2.2.2.2.1
        have g20_σ12 : σ12.1 218 20 = (σ0.1 218 20) := hkv11.2.2.2.2.2.1
        have g22_σ12 : σ12.1 218 22 = (σ0.1 218 22) := hkv11.2.2.2.2.2.2.1
        have g23_σ12 : σ12.1 218 23 = (σ0.1 218 23) := hkv11.2.2.2.2.2.2.2.1
        have g24_σ12 : σ12.1 218 24 = (σ0.1 218 24) := hkv11.2.2.2.2.2.2.2.2.1
        have g25_σ12 : σ12.1 218 25 = (σ0.1 218 25) := hkv11.2.2.2.2.2.2.2.2.2
        exact ok_some ⟨hT, (show (TOK σ12.1 ∧ (σ0.1 218 11).toInt ≤ (σ12.1 218 11).toInt ∧ (σ12.1 218 14 = 0 → (σ0.1 218 14 = 0 ∧ (σ0.1 218 11).toInt < (σ12.1 218 11).toInt) ∧ x1.toInt ≤ ((σ0.1 218 13)).toInt ∧ ((σ0.1 218 13)).toInt ≤ x2.toInt) ∧ (¬ σ12.1 218 14 = 0 → ((σ0.1 218 13)) = 0)) ∧ (σ12.1 218 7 = σ0.1 218 7 ∧ σ12.1 218 9 = σ0.1 218 9 ∧ σ12.1 218 20 = σ0.1 218 20 ∧ σ12.1 218 22 = σ0.1 218 22 ∧ σ12.1 218 23 = σ0.1 218 23 ∧ σ12.1 218 24 = σ0.1 218 24 ∧ σ12.1 218 25 = σ0.1 218 25) from ⟨by first | exact ⟨hK, by (try simp only [g7_σ12, g9_σ12, g14_σ12, g15_σ12, g20_σ12, g22_σ12, g23_σ12, g24_σ12, g25_σ12]); omega, fun q => absurd q (by (try simp only [g7_σ12, g9_σ12, g14_σ12, g15_σ12, g20_σ12, g22_σ12, g23_σ12, g24_σ12, g25_σ12]); exact n51), fun _ => rfl⟩ | exact ⟨hK, by (try simp only [g7_σ12, g9_σ12, g14_σ12, g15_σ12, g20_σ12, g22_σ12, g23_σ12, g24_σ12, g25_σ12]); omega, fun _ => ⟨⟨y4, by (try simp only [g7_σ12, g9_σ12, g14_σ12, g15_σ12, g20_σ12, g22_σ12, g23_σ12, g24_σ12, g25_σ12]); omega⟩, r39⟩, fun q => absurd (by (try simp only [g7_σ12, g9_σ12, g14_σ12, g15_σ12, g20_σ12, g22_σ12, g23_σ12, g24_σ12, g25_σ12]); exact y51) q⟩ | exact absurd y51 n44 | exact absurd y51 n24 | exact absurd y51 n17 | exact absurd y51 n4, g7_σ12, g9_σ12, g20_σ12, g22_σ12, g23_σ12, g24_σ12, g25_σ12⟩)⟩
    · have qhc6 := hqv4.2 hc6
      have y24 := qhc6
      refine ok_gI rfl ?_
      refine ok_zbX (Q := fun V => (V = 0 → ¬ ((Int32.toInt64 x1).toInt ≤ (Int32.toInt64 (σ0.1 218 13)).toInt ∧ (Int32.toInt64 (σ0.1 218 13)).toInt ≤ (Int32.toInt64 x2).toInt)) ∧ (¬ V = 0 → (Int32.toInt64 x1).toInt ≤ (Int32.toInt64 (σ0.1 218 13)).toInt ∧ (Int32.toInt64 (σ0.1 218 13)).toInt ≤ (Int32.toInt64 x2).toInt)) (xi_X12_in) (fun v14 hqv14 => ?_)
      have hqv14 : (v14 = 0 → ¬ ((Int32.toInt64 x1).toInt ≤ (Int32.toInt64 (σ0.1 218 13)).toInt ∧ (Int32.toInt64 (σ0.1 218 13)).toInt ≤ (Int32.toInt64 x2).toInt)) ∧ (¬ v14 = 0 → (Int32.toInt64 x1).toInt ≤ (Int32.toInt64 (σ0.1 218 13)).toInt ∧ (Int32.toInt64 (σ0.1 218 13)).toInt ≤ (Int32.toInt64 x2).toInt) := hqv14
      simp only [i64_of, Int64.reduceToInt] at hqv14
      refine ok_if (fun hc16 => ?_) (fun hc16 => ?_)
      · have qhc16 := hqv14.1 hc16
        refine ok_gC rfl ?_
        refine ok_zbT (Q := fun V σ => (TOK σ.1 ∧ ¬ σ.1 218 14 = 0) ∧ (σ.1 218 7 = σ0.1 218 7 ∧ σ.1 218 9 = σ0.1 218 9 ∧ σ.1 218 10 = σ0.1 218 10 ∧ σ.1 218 11 = σ0.1 218 11 ∧ σ.1 218 12 = σ0.1 218 12 ∧ σ.1 218 13 = σ0.1 218 13 ∧ σ.1 218 20 = σ0.1 218 20 ∧ σ.1 218 22 = σ0.1 218 22 ∧ σ.1 218 23 = σ0.1 218 23 ∧ σ.1 218 24 = σ0.1 218 24 ∧ σ.1 218 25 = σ0.1 218 25)) hT (s_X12_errs hN (hR.tr hT) (hK) (by rw [hT.2 224 (by decide)]; exact hY) (by decide)) (by decide) (fun v17 σ18 hOσ18 hT hqv17 => ?_)
        have hqv17 : (TOK σ18.1 ∧ ¬ σ18.1 218 14 = 0) ∧ (σ18.1 218 7 = σ0.1 218 7 ∧ σ18.1 218 9 = σ0.1 218 9 ∧ σ18.1 218 10 = σ0.1 218 10 ∧ σ18.1 218 11 = σ0.1 218 11 ∧ σ18.1 218 12 = σ0.1 218 12 ∧ σ18.1 218 13 = σ0.1 218 13 ∧ σ18.1 218 20 = σ0.1 218 20 ∧ σ18.1 218 22 = σ0.1 218 22 ∧ σ18.1 218 23 = σ0.1 218 23 ∧ σ18.1 218 24 = σ0.1 218 24 ∧ σ18.1 218 25 = σ0.1 218 25) := hqv17
        have hkv17 := hqv17
        have hqv17 := hqv17.1
        have hK : TOK σ18.1 := by first | exact hqv17.1 | exact TOK_p eσ18 (by decide) hK
        have g7_σ18 : σ18.1 218 7 = (σ0.1 218 7) := hkv17.2.1
        have g9_σ18 : σ18.1 218 9 = (σ0.1 218 9) := hkv17.2.2.1
        have g10_σ18 : σ18.1 218 10 = (σ0.1 218 10) := hkv17.2.2.2.1
        have g11_σ18 : σ18.1 218 11 = (σ0.1 218 11) := hkv17.2.2.2.2.1
        have g12_σ18 : σ18.1 218 12 = (σ0.1 218 12) := hkv17.2.2.2.2.2.1
        have g13_σ18 : σ18.1 218 13 = (σ0.1 218 13) := hkv17.2.2.2.2.2.2.1
        have g20_σ18 : σ18.1 218 20 = (σ0.1 218 20) := hkv17.2.2.2.2.2.2.2.1
        have g22_σ18 : σ18.1 218 22 = (σ0.1 218 22) := hkv17.2.2.2.2.2.2.2.2.1
        have g23_σ18 : σ18.1 218 23 = (σ0.1 218 23) := hkv17.2.2.2.2.2.2.2.2.2.1
        have g24_σ18 : σ18.1 218 24 = (σ0.1 218 24) := hkv17.2.2.2.2.2.2.2.2.2.2.1
        have g25_σ18 : σ18.1 218 25 = (σ0.1 218 25) := hkv17.2.2.2.2.2.2.2.2.2.2.2
        have n44 := hqv17.2
        rw [J_X12_number_47.eq_1]
        refine ok_gC rfl ?_
        refine ok_zbX (Q := fun V => (V = 0 → ¬ σ18.1 218 14 = 0) ∧ (¬ V = 0 → σ18.1 218 14 = 0)) (x_X12_good) (fun v19 hqv19 => ?_)
        have hqv19 : (v19 = 0 → ¬ σ18.1 218 14 = 0) ∧ (¬ v19 = 0 → σ18.1 218 14 = 0) := hqv19
        try simp only [g7_σ18, g9_σ18, g10_σ18, g11_σ18, g12_σ18, g13_σ18, g20_σ18, g22_σ18, g23_σ18, g24_σ18, g25_σ18, hT.2 224 (by decide)] at hqv19
        refine ok_if (fun hc21 => ?_) (fun hc21 => ?_)
        · have qhc21 := hqv19.1 hc21
          have n51 := qhc21
          exact ok_some ⟨hT, (show (TOK σ18.1 ∧ (σ0.1 218 11).toInt ≤ (σ18.1 218 11).toInt ∧ (σ18.1 218 14 = 0 → (σ0.1 218 14 = 0 ∧ (σ0.1 218 11).toInt < (σ18.1 218 11).toInt) ∧ x1.toInt ≤ (0 : Int32).toInt ∧ (0 : Int32).toInt ≤ x2.toInt) ∧ (¬ σ18.1 218 14 = 0 → (0 : Int32) = 0)) ∧ (σ18.1 218 7 = σ0.1 218 7 ∧ σ18.1 218 9 = σ0.1 218 9 ∧ σ18.1 218 20 = σ0.1 218 20 ∧ σ18.1 218 22 = σ0.1 218 22 ∧ σ18.1 218 23 = σ0.1 218 23 ∧ σ18.1 218 24 = σ0.1 218 24 ∧ σ18.1 218 25 = σ0.1 218 25) from ⟨by first | exact ⟨hK, by (try simp only [g7_σ18, g9_σ18, g10_σ18, g11_σ18, g12_σ18, g13_σ18, g20_σ18, g22_σ18, g23_σ18, g24_σ18, g25_σ18]); omega, fun q => absurd q (by (try simp only [g7_σ18, g9_σ18, g10_σ18, g11_σ18, g12_σ18, g13_σ18, g20_σ18, g22_σ18, g23_σ18, g24_σ18, g25_σ18]); exact n51), fun _ => rfl⟩ | exact ⟨hK, by (try simp only [g7_σ18, g9_σ18, g10_σ18, g11_σ18, g12_σ18, g13_σ18, g20_σ18, g22_σ18, g23_σ18, g24_σ18, g25_σ18]); omega, fun _ => ⟨⟨y4, by (try simp only [g7_σ18, g9_σ18, g10_σ18, g11_σ18, g12_σ18, g13_σ18, g20_σ18, g22_σ18, g23_σ18, g24_σ18, g25_σ18]); omega⟩, r39⟩, fun q => absurd (by (try simp only [g7_σ18, g9_σ18, g10_σ18, g11_σ18, g12_σ18, g13_σ18, g20_σ18, g22_σ18, g23_σ18, g24_σ18, g25_σ18]); exact y51) q⟩ | exact absurd y51 n44 | exact absurd y51 n24 | exact absurd y51 n17 | exact absurd y51 n4, g7_σ18, g9_σ18, g20_σ18, g22_σ18, g23_σ18, g24_σ18, g25_σ18⟩)⟩
        · have qhc21 := hqv19.2 hc21
          have y51 := qhc21
          refine ok_gIv rfl g13_σ18 ?_
          refine ok_gC rfl ?_
          refine ok_zbT (Q := fun V σ => (TOK σ.1 ∧ (σ18.1 218 10).toInt ≤ (σ.1 218 11).toInt) ∧ (σ.1 218 7 = σ18.1 218 7 ∧ σ.1 218 9 = σ18.1 218 9 ∧ σ.1 218 14 = σ18.1 218 14 ∧ σ.1 218 15 = σ18.1 218 15 ∧ σ.1 218 20 = σ18.1 218 20 ∧ σ.1 218 22 = σ18.1 218 22 ∧ σ.1 218 23 = σ18.1 218 23 ∧ σ.1 218 24 = σ18.1 218 24 ∧ σ.1 218 25 = σ18.1 218 25)) hT (s_X12_advance hN (hR.tr hT) (TOK_A hK) (by rw [hT.2 224 (by decide)]; exact hY)) (by decide) (fun v23 σ24 hOσ24 hT hqv23 => ?_)
          have hqv23 : (TOK σ24.1 ∧ (σ18.1 218 10).toInt ≤ (σ24.1 218 11).toInt) ∧ (σ24.1 218 7 = σ18.1 218 7 ∧ σ24.1 218 9 = σ18.1 218 9 ∧ σ24.1 218 14 = σ18.1 218 14 ∧ σ24.1 218 15 = σ18.1 218 15 ∧ σ24.1 218 20 = σ18.1 218 20 ∧ σ24.1 218 22 = σ18.1 218 22 ∧ σ24.1 218 23 = σ18.1 218 23 ∧ σ24.1 218 24 = σ18.1 218 24 ∧ σ24.1 218 25 = σ18.1 218 25) := hqv23
          have hkv23 := hqv23
          have hqv23 := hqv23.1
          have hK : TOK σ24.1 := by first | exact hqv23.1 | exact TOK_p eσ24 (by decide) hK
          try simp only [g7_σ18, g9_σ18, g10_σ18, g11_σ18, g12_σ18, g13_σ18, g20_σ18, g22_σ18, g23_σ18, g24_σ18, g25_σ18] at hqv23
          have g7_σ24 : σ24.1 218 7 = (σ0.1 218 7) := (hkv23.2.1).trans g7_σ18
          have g9_σ24 : σ24.1 218 9 = (σ0.1 218 9) := (hkv23.2.2.1).trans g9_σ18
          have g14_σ24 : σ24.1 218 14 = (σ18.1 218 14) := hkv23.2.2.2.1
          have g15_σ24 : σ24.1 218 15 = (σ18.1 218 15) := hkv23.2.2.2.2.1
          have g20_σ24 : σ24.1 218 20 = (σ0.1 218 20) := (hkv23.2.2.2.2.2.1).trans g20_σ18
          have g22_σ24 : σ24.1 218 22 = (σ0.1 218 22) := (hkv23.2.2.2.2.2.2.1).trans g22_σ18
          have g23_σ24 : σ24.1 218 23 = (σ0.1 218 23) := (hkv23.2.2.2.2.2.2.2.1).trans g23_σ18
          have g24_σ24 : σ24.1 218 24 = (σ0.1 218 24) := (hkv23.2.2.2.2.2.2.2.2.1).trans g24_σ18
          have g25_σ24 : σ24.1 218 25 = (σ0.1 218 25) := (hkv23.2.2.2.2.2.2.2.2.2).trans g25_σ18
          exact ok_some ⟨hT, (show (TOK σ24.1 ∧ (σ0.1 218 11).toInt ≤ (σ24.1 218 11).toInt ∧ (σ24.1 218 14 = 0 → (σ0.1 218 14 = 0 ∧ (σ0.1 218 11).toInt < (σ24.1 218 11).toInt) ∧ x1.toInt ≤ ((σ0.1 218 13)).toInt ∧ ((σ0.1 218 13)).toInt ≤ x2.toInt) ∧ (¬ σ24.1 218 14 = 0 → ((σ0.1 218 13)) = 0)) ∧ (σ24.1 218 7 = σ0.1 218 7 ∧ σ24.1 218 9 = σ0.1 218 9 ∧ σ24.1 218 20 = σ0.1 218 20 ∧ σ24.1 218 22 = σ0.1 218 22 ∧ σ24.1 218 23 = σ0.1 218 23 ∧ σ24.1 218 24 = σ0.1 218 24 ∧ σ24.1 218 25 = σ0.1 218 25) from ⟨by first | exact ⟨hK, by (try simp only [g7_σ24, g9_σ24, g14_σ24, g15_σ24, g20_σ24, g22_σ24, g23_σ24, g24_σ24, g25_σ24]); omega, fun q => absurd q (by (try simp only [g7_σ24, g9_σ24, g14_σ24, g15_σ24, g20_σ24, g22_σ24, g23_σ24, g24_σ24, g25_σ24]); exact n51), fun _ => rfl⟩ | exact ⟨hK, by (try simp only [g7_σ24, g9_σ24, g14_σ24, g15_σ24, g20_σ24, g22_σ24, g23_σ24, g24_σ24, g25_σ24]); omega, fun _ => ⟨⟨y4, by (try simp only [g7_σ24, g9_σ24, g14_σ24, g15_σ24, g20_σ24, g22_σ24, g23_σ24, g24_σ24, g25_σ24]); omega⟩, r39⟩, fun q => absurd (by (try simp only [g7_σ24, g9_σ24, g14_σ24, g15_σ24, g20_σ24, g22_σ24, g23_σ24, g24_σ24, g25_σ24]); exact y51) q⟩ | exact absurd y51 n44 | exact absurd y51 n24 | exact absurd y51 n17 | exact absurd y51 n4, g7_σ24, g9_σ24, g20_σ24, g22_σ24, g23_σ24, g24_σ24, g25_σ24⟩)⟩
      · have qhc16 := hqv14.2 hc16
        have r39 := qhc16
        rw [J_X12_number_47.eq_1]
        refine ok_gC rfl ?_
        refine ok_zbX (Q := fun V => (V = 0 → ¬ σ0.1 218 14 = 0) ∧ (¬ V = 0 → σ0.1 218 14 = 0)) (x_X12_good) (fun v25 hqv25 => ?_)
        have hqv25 : (v25 = 0 → ¬ σ0.1 218 14 = 0) ∧ (¬ v25 = 0 → σ0.1 218 14 = 0) := hqv25
        refine ok_if (fun hc27 => ?_) (fun hc27 => ?_)
        · have qhc27 := hqv25.1 hc27
          have n51 := qhc27
          exact ok_some ⟨hT, (show (TOK σ0.1 ∧ (σ0.1 218 11).toInt ≤ (σ0.1 218 11).toInt ∧ (σ0.1 218 14 = 0 → (σ0.1 218 14 = 0 ∧ (σ0.1 218 11).toInt < (σ0.1 218 11).toInt) ∧ x1.toInt ≤ (0 : Int32).toInt ∧ (0 : Int32).toInt ≤ x2.toInt) ∧ (¬ σ0.1 218 14 = 0 → (0 : Int32) = 0)) ∧ (σ0.1 218 7 = σ0.1 218 7 ∧ σ0.1 218 9 = σ0.1 218 9 ∧ σ0.1 218 20 = σ0.1 218 20 ∧ σ0.1 218 22 = σ0.1 218 22 ∧ σ0.1 218 23 = σ0.1 218 23 ∧ σ0.1 218 24 = σ0.1 218 24 ∧ σ0.1 218 25 = σ0.1 218 25) from ⟨by first | exact ⟨hK, by skip; omega, fun q => absurd q (by skip; exact n51), fun _ => rfl⟩ | exact ⟨hK, by skip; omega, fun _ => ⟨⟨y4, by skip; omega⟩, r39⟩, fun q => absurd (by skip; exact y51) q⟩ | exact absurd y51 n44 | exact absurd y51 n24 | exact absurd y51 n17 | exact absurd y51 n4, rfl, rfl, rfl, rfl, rfl, rfl, rfl⟩)⟩
        · have qhc27 := hqv25.2 hc27
          have y51 := qhc27
          refine ok_gI rfl ?_
          refine ok_gC rfl ?_
          refine ok_zbT (Q := fun V σ => (TOK σ.1 ∧ (σ0.1 218 10).toInt ≤ (σ.1 218 11).toInt) ∧ (σ.1 218 7 = σ0.1 218 7 ∧ σ.1 218 9 = σ0.1 218 9 ∧ σ.1 218 14 = σ0.1 218 14 ∧ σ.1 218 15 = σ0.1 218 15 ∧ σ.1 218 20 = σ0.1 218 20 ∧ σ.1 218 22 = σ0.1 218 22 ∧ σ.1 218 23 = σ0.1 218 23 ∧ σ.1 218 24 = σ0.1 218 24 ∧ σ.1 218 25 = σ0.1 218 25)) hT (s_X12_advance hN (hR.tr hT) (TOK_A hK) (by rw [hT.2 224 (by decide)]; exact hY)) (by decide) (fun v29 σ30 hOσ30 hT hqv29 => ?_)
          have hqv29 : (TOK σ30.1 ∧ (σ0.1 218 10).toInt ≤ (σ30.1 218 11).toInt) ∧ (σ30.1 218 7 = σ0.1 218 7 ∧ σ30.1 218 9 = σ0.1 218 9 ∧ σ30.1 218 14 = σ0.1 218 14 ∧ σ30.1 218 15 = σ0.1 218 15 ∧ σ30.1 218 20 = σ0.1 218 20 ∧ σ30.1 218 22 = σ0.1 218 22 ∧ σ30.1 218 23 = σ0.1 218 23 ∧ σ30.1 218 24 = σ0.1 218 24 ∧ σ30.1 218 25 = σ0.1 218 25) := hqv29
          have hkv29 := hqv29
          have hqv29 := hqv29.1
          have hK : TOK σ30.1 := by first | exact hqv29.1 | exact TOK_p eσ30 (by decide) hK
          have g7_σ30 : σ30.1 218 7 = (σ0.1 218 7) := hkv29.2.1
          have g9_σ30 : σ30.1 218 9 = (σ0.1 218 9) := hkv29.2.2.1
          have g14_σ30 : σ30.1 218 14 = (σ0.1 218 14) := hkv29.2.2.2.1
          have g15_σ30 : σ30.1 218 15 = (σ0.1 218 15) := hkv29.2.2.2.2.1
          have g20_σ30 : σ30.1 218 20 = (σ0.1 218 20) := hkv29.2.2.2.2.2.1
          have g22_σ30 : σ30.1 218 22 = (σ0.1 218 22) := hkv29.2.2.2.2.2.2.1
          have g23_σ30 : σ30.1 218 23 = (σ0.1 218 23) := hkv29.2.2.2.2.2.2.2.1
          have g24_σ30 : σ30.1 218 24 = (σ0.1 218 24) := hkv29.2.2.2.2.2.2.2.2.1
          have g25_σ30 : σ30.1 218 25 = (σ0.1 218 25) := hkv29.2.2.2.2.2.2.2.2.2
          exact ok_some ⟨hT, (show (TOK σ30.1 ∧ (σ0.1 218 11).toInt ≤ (σ30.1 218 11).toInt ∧ (σ30.1 218 14 = 0 → (σ0.1 218 14 = 0 ∧ (σ0.1 218 11).toInt < (σ30.1 218 11).toInt) ∧ x1.toInt ≤ ((σ0.1 218 13)).toInt ∧ ((σ0.1 218 13)).toInt ≤ x2.toInt) ∧ (¬ σ30.1 218 14 = 0 → ((σ0.1 218 13)) = 0)) ∧ (σ30.1 218 7 = σ0.1 218 7 ∧ σ30.1 218 9 = σ0.1 218 9 ∧ σ30.1 218 20 = σ0.1 218 20 ∧ σ30.1 218 22 = σ0.1 218 22 ∧ σ30.1 218 23 = σ0.1 218 23 ∧ σ30.1 218 24 = σ0.1 218 24 ∧ σ30.1 218 25 = σ0.1 218 25) from ⟨by first | exact ⟨hK, by (try simp only [g7_σ30, g9_σ30, g14_σ30, g15_σ30, g20_σ30, g22_σ30, g23_σ30, g24_σ30, g25_σ30]); omega, fun q => absurd q (by (try simp only [g7_σ30, g9_σ30, g14_σ30, g15_σ30, g20_σ30, g22_σ30, g23_σ30, g24_σ30, g25_σ30]); exact n51), fun _ => rfl⟩ | exact ⟨hK, by (try simp only [g7_σ30, g9_σ30, g14_σ30, g15_σ30, g20_σ30, g22_σ30, g23_σ30, g24_σ30, g25_σ30]); omega, fun _ => ⟨⟨y4, by (try simp only [g7_σ30, g9_σ30, g14_σ30, g15_σ30, g20_σ30, g22_σ30, g23_σ30, g24_σ30, g25_σ30]); omega⟩, r39⟩, fun q => absurd (by (try simp only [g7_σ30, g9_σ30, g14_σ30, g15_σ30, g20_σ30, g22_σ30, g23_σ30, g24_σ30, g25_σ30]); exact y51) q⟩ | exact absurd y51 n44 | exact absurd y51 n24 | exact absurd y51 n17 | exact absurd y51 n4, g7_σ30, g9_σ30, g20_σ30, g22_σ30, g23_σ30, g24_σ30, g25_σ30⟩)⟩
  · have qhc3 := hqv1.2 hc3
    have y4 := qhc3
    refine ok_gI rfl ?_
    refine ok_if (fun hc32 => ?_) (fun hc32 => ?_)
    · have l12 := hK.2.1 (by rw [hc32]; decide)
      rw [J_X12_number_20.eq_1]
      refine ok_gC rfl ?_
      refine ok_zbX (Q := fun V => (V = 0 → ¬ σ0.1 218 14 = 0) ∧ (¬ V = 0 → σ0.1 218 14 = 0)) (x_X12_good) (fun v33 hqv33 => ?_)
      have hqv33 : (v33 = 0 → ¬ σ0.1 218 14 = 0) ∧ (¬ v33 = 0 → σ0.1 218 14 = 0) := hqv33
      refine ok_if (fun hc35 => ?_) (fun hc35 => ?_)
      · have qhc35 := hqv33.1 hc35
        have n24 := qhc35
        rw [J_X12_number_47.eq_1]
        refine ok_gC rfl ?_
        refine ok_zbX (Q := fun V => (V = 0 → ¬ σ0.1 218 14 = 0) ∧ (¬ V = 0 → σ0.1 218 14 = 0)) (x_X12_good) (fun v36 hqv36 => ?_)
        have hqv36 : (v36 = 0 → ¬ σ0.1 218 14 = 0) ∧ (¬ v36 = 0 → σ0.1 218 14 = 0) := hqv36
        refine ok_if (fun hc38 => ?_) (fun hc38 => ?_)
        · have qhc38 := hqv36.1 hc38
          have n51 := qhc38
          exact ok_some ⟨hT, (show (TOK σ0.1 ∧ (σ0.1 218 11).toInt ≤ (σ0.1 218 11).toInt ∧ (σ0.1 218 14 = 0 → (σ0.1 218 14 = 0 ∧ (σ0.1 218 11).toInt < (σ0.1 218 11).toInt) ∧ x1.toInt ≤ (0 : Int32).toInt ∧ (0 : Int32).toInt ≤ x2.toInt) ∧ (¬ σ0.1 218 14 = 0 → (0 : Int32) = 0)) ∧ (σ0.1 218 7 = σ0.1 218 7 ∧ σ0.1 218 9 = σ0.1 218 9 ∧ σ0.1 218 20 = σ0.1 218 20 ∧ σ0.1 218 22 = σ0.1 218 22 ∧ σ0.1 218 23 = σ0.1 218 23 ∧ σ0.1 218 24 = σ0.1 218 24 ∧ σ0.1 218 25 = σ0.1 218 25) from ⟨by first | exact ⟨hK, by skip; omega, fun q => absurd q (by skip; exact n51), fun _ => rfl⟩ | exact ⟨hK, by skip; omega, fun _ => ⟨⟨y4, by skip; omega⟩, r39⟩, fun q => absurd (by skip; exact y51) q⟩ | exact absurd y51 n44 | exact absurd y51 n24 | exact absurd y51 n17 | exact absurd y51 n4, rfl, rfl, rfl, rfl, rfl, rfl, rfl⟩)⟩
        · have qhc38 := hqv36.2 hc38
          have y51 := qhc38
          refine ok_gI rfl ?_
          refine ok_gC rfl ?_
          refine ok_zbT (Q := fun V σ => (TOK σ.1 ∧ (σ0.1 218 10).toInt ≤ (σ.1 218 11).toInt) ∧ (σ.1 218 7 = σ0.1 218 7 ∧ σ.1 218 9 = σ0.1 218 9 ∧ σ.1 218 14 = σ0.1 218 14 ∧ σ.1 218 15 = σ0.1 218 15 ∧ σ.1 218 20 = σ0.1 218 20 ∧ σ.1 218 22 = σ0.1 218 22 ∧ σ.1 218 23 = σ0.1 218 23 ∧ σ.1 218 24 = σ0.1 218 24 ∧ σ.1 218 25 = σ0.1 218 25)) hT (s_X12_advance hN (hR.tr hT) (TOK_A hK) (by rw [hT.2 224 (by decide)]; exact hY)) (by decide) (fun v40 σ41 hOσ41 hT hqv40 => ?_)
          have hqv40 : (TOK σ41.1 ∧ (σ0.1 218 10).toInt ≤ (σ41.1 218 11).toInt) ∧ (σ41.1 218 7 = σ0.1 218 7 ∧ σ41.1 218 9 = σ0.1 218 9 ∧ σ41.1 218 14 = σ0.1 218 14 ∧ σ41.1 218 15 = σ0.1 218 15 ∧ σ41.1 218 20 = σ0.1 218 20 ∧ σ41.1 218 22 = σ0.1 218 22 ∧ σ41.1 218 23 = σ0.1 218 23 ∧ σ41.1 218 24 = σ0.1 218 24 ∧ σ41.1 218 25 = σ0.1 218 25) := hqv40
          have hkv40 := hqv40
          have hqv40 := hqv40.1
          have hK : TOK σ41.1 := by first | exact hqv40.1 | exact TOK_p eσ41 (by decide) hK
          have g7_σ41 : σ41.1 218 7 = (σ0.1 218 7) := hkv40.2.1
          have g9_σ41 : σ41.1 218 9 = (σ0.1 218 9) := hkv40.2.2.1
          have g14_σ41 : σ41.1 218 14 = (σ0.1 218 14) := hkv40.2.2.2.1
          have g15_σ41 : σ41.1 218 15 = (σ0.1 218 15) := hkv40.2.2.2.2.1
          have g20_σ41 : σ41.1 218 20 = (σ0.1 218 20) := hkv40.2.2.2.2.2.1
          have g22_σ41 : σ41.1 218 22 = (σ0.1 218 22) := hkv40.2.2.2.2.2.2.1
          have g23_σ41 : σ41.1 218 23 = (σ0.1 218 23) := hkv40.2.2.2.2.2.2.2.1
          have g24_σ41 : σ41.1 218 24 = (σ0.1 218 24) := hkv40.2.2.2.2.2.2.2.2.1
          have g25_σ41 : σ41.1 218 25 = (σ0.1 218 25) := hkv40.2.2.2.2.2.2.2.2.2
          exact ok_some ⟨hT, (show (TOK σ41.1 ∧ (σ0.1 218 11).toInt ≤ (σ41.1 218 11).toInt ∧ (σ41.1 218 14 = 0 → (σ0.1 218 14 = 0 ∧ (σ0.1 218 11).toInt < (σ41.1 218 11).toInt) ∧ x1.toInt ≤ ((σ0.1 218 13)).toInt ∧ ((σ0.1 218 13)).toInt ≤ x2.toInt) ∧ (¬ σ41.1 218 14 = 0 → ((σ0.1 218 13)) = 0)) ∧ (σ41.1 218 7 = σ0.1 218 7 ∧ σ41.1 218 9 = σ0.1 218 9 ∧ σ41.1 218 20 = σ0.1 218 20 ∧ σ41.1 218 22 = σ0.1 218 22 ∧ σ41.1 218 23 = σ0.1 218 23 ∧ σ41.1 218 24 = σ0.1 218 24 ∧ σ41.1 218 25 = σ0.1 218 25) from ⟨by first | exact ⟨hK, by (try simp only [g7_σ41, g9_σ41, g14_σ41, g15_σ41, g20_σ41, g22_σ41, g23_σ41, g24_σ41, g25_σ41]); omega, fun q => absurd q (by (try simp only [g7_σ41, g9_σ41, g14_σ41, g15_σ41, g20_σ41, g22_σ41, g23_σ41, g24_σ41, g25_σ41]); exact n51), fun _ => rfl⟩ | exact ⟨hK, by (try simp only [g7_σ41, g9_σ41, g14_σ41, g15_σ41, g20_σ41, g22_σ41, g23_σ41, g24_σ41, g25_σ41]); omega, fun _ => ⟨⟨y4, by (try simp only [g7_σ41, g9_σ41, g14_σ41, g15_σ41, g20_σ41, g22_σ41, g23_σ41, g24_σ41, g25_σ41]); omega⟩, r39⟩, fun q => absurd (by (try simp only [g7_σ41, g9_σ41, g14_σ41, g15_σ41, g20_σ41, g22_σ41, g23_σ41, g24_σ41, g25_σ41]); exact y51) q⟩ | exact absurd y51 n44 | exact absurd y51 n24 | exact absurd y51 n17 | exact absurd y51 n4, g7_σ41, g9_σ41, g20_σ41, g22_σ41, g23_σ41, g24_σ41, g25_σ41⟩)⟩
      · have qhc35 := hqv33.2 hc35
        have y24 := qhc35
        refine ok_gI rfl ?_
        refine ok_zbX (Q := fun V => (V = 0 → ¬ ((Int32.toInt64 x1).toInt ≤ (Int32.toInt64 (σ0.1 218 13)).toInt ∧ (Int32.toInt64 (σ0.1 218 13)).toInt ≤ (Int32.toInt64 x2).toInt)) ∧ (¬ V = 0 → (Int32.toInt64 x1).toInt ≤ (Int32.toInt64 (σ0.1 218 13)).toInt ∧ (Int32.toInt64 (σ0.1 218 13)).toInt ≤ (Int32.toInt64 x2).toInt)) (xi_X12_in) (fun v43 hqv43 => ?_)
        have hqv43 : (v43 = 0 → ¬ ((Int32.toInt64 x1).toInt ≤ (Int32.toInt64 (σ0.1 218 13)).toInt ∧ (Int32.toInt64 (σ0.1 218 13)).toInt ≤ (Int32.toInt64 x2).toInt)) ∧ (¬ v43 = 0 → (Int32.toInt64 x1).toInt ≤ (Int32.toInt64 (σ0.1 218 13)).toInt ∧ (Int32.toInt64 (σ0.1 218 13)).toInt ≤ (Int32.toInt64 x2).toInt) := hqv43
        simp only [i64_of, Int64.reduceToInt] at hqv43
        refine ok_if (fun hc45 => ?_) (fun hc45 => ?_)
        · have qhc45 := hqv43.1 hc45
          refine ok_gC rfl ?_
          refine ok_zbT (Q := fun V σ => (TOK σ.1 ∧ ¬ σ.1 218 14 = 0) ∧ (σ.1 218 7 = σ0.1 218 7 ∧ σ.1 218 9 = σ0.1 218 9 ∧ σ.1 218 10 = σ0.1 218 10 ∧ σ.1 218 11 = σ0.1 218 11 ∧ σ.1 218 12 = σ0.1 218 12 ∧ σ.1 218 13 = σ0.1 218 13 ∧ σ.1 218 20 = σ0.1 218 20 ∧ σ.1 218 22 = σ0.1 218 22 ∧ σ.1 218 23 = σ0.1 218 23 ∧ σ.1 218 24 = σ0.1 218 24 ∧ σ.1 218 25 = σ0.1 218 25)) hT (s_X12_errs hN (hR.tr hT) (hK) (by rw [hT.2 224 (by decide)]; exact hY) (by decide)) (by decide) (fun v46 σ47 hOσ47 hT hqv46 => ?_)
          have hqv46 : (TOK σ47.1 ∧ ¬ σ47.1 218 14 = 0) ∧ (σ47.1 218 7 = σ0.1 218 7 ∧ σ47.1 218 9 = σ0.1 218 9 ∧ σ47.1 218 10 = σ0.1 218 10 ∧ σ47.1 218 11 = σ0.1 218 11 ∧ σ47.1 218 12 = σ0.1 218 12 ∧ σ47.1 218 13 = σ0.1 218 13 ∧ σ47.1 218 20 = σ0.1 218 20 ∧ σ47.1 218 22 = σ0.1 218 22 ∧ σ47.1 218 23 = σ0.1 218 23 ∧ σ47.1 218 24 = σ0.1 218 24 ∧ σ47.1 218 25 = σ0.1 218 25) := hqv46
          have hkv46 := hqv46
          have hqv46 := hqv46.1
          have hK : TOK σ47.1 := by first | exact hqv46.1 | exact TOK_p eσ47 (by decide) hK
          have g7_σ47 : σ47.1 218 7 = (σ0.1 218 7) := hkv46.2.1
          have g9_σ47 : σ47.1 218 9 = (σ0.1 218 9) := hkv46.2.2.1
          have g10_σ47 : σ47.1 218 10 = (σ0.1 218 10) := hkv46.2.2.2.1
          have g11_σ47 : σ47.1 218 11 = (σ0.1 218 11) := hkv46.2.2.2.2.1
          have g12_σ47 : σ47.1 218 12 = (σ0.1 218 12) := hkv46.2.2.2.2.2.1
          have g13_σ47 : σ47.1 218 13 = (σ0.1 218 13) := hkv46.2.2.2.2.2.2.1
          have g20_σ47 : σ47.1 218 20 = (σ0.1 218 20) := hkv46.2.2.2.2.2.2.2.1
          have g22_σ47 : σ47.1 218 22 = (σ0.1 218 22) := hkv46.2.2.2.2.2.2.2.2.1
          have g23_σ47 : σ47.1 218 23 = (σ0.1 218 23) := hkv46.2.2.2.2.2.2.2.2.2.1
          have g24_σ47 : σ47.1 218 24 = (σ0.1 218 24) := hkv46.2.2.2.2.2.2.2.2.2.2.1
          have g25_σ47 : σ47.1 218 25 = (σ0.1 218 25) := hkv46.2.2.2.2.2.2.2.2.2.2.2
          have n44 := hqv46.2
          rw [J_X12_number_47.eq_1]
          refine ok_gC rfl ?_
          refine ok_zbX (Q := fun V => (V = 0 → ¬ σ47.1 218 14 = 0) ∧ (¬ V = 0 → σ47.1 218 14 = 0)) (x_X12_good) (fun v48 hqv48 => ?_)
          have hqv48 : (v48 = 0 → ¬ σ47.1 218 14 = 0) ∧ (¬ v48 = 0 → σ47.1 218 14 = 0) := hqv48
          try simp only [g7_σ47, g9_σ47, g10_σ47, g11_σ47, g12_σ47, g13_σ47, g20_σ47, g22_σ47, g23_σ47, g24_σ47, g25_σ47, hT.2 224 (by decide)] at hqv48
          refine ok_if (fun hc50 => ?_) (fun hc50 => ?_)
          · have qhc50 := hqv48.1 hc50
            have n51 := qhc50
            exact ok_some ⟨hT, (show (TOK σ47.1 ∧ (σ0.1 218 11).toInt ≤ (σ47.1 218 11).toInt ∧ (σ47.1 218 14 = 0 → (σ0.1 218 14 = 0 ∧ (σ0.1 218 11).toInt < (σ47.1 218 11).toInt) ∧ x1.toInt ≤ (0 : Int32).toInt ∧ (0 : Int32).toInt ≤ x2.toInt) ∧ (¬ σ47.1 218 14 = 0 → (0 : Int32) = 0)) ∧ (σ47.1 218 7 = σ0.1 218 7 ∧ σ47.1 218 9 = σ0.1 218 9 ∧ σ47.1 218 20 = σ0.1 218 20 ∧ σ47.1 218 22 = σ0.1 218 22 ∧ σ47.1 218 23 = σ0.1 218 23 ∧ σ47.1 218 24 = σ0.1 218 24 ∧ σ47.1 218 25 = σ0.1 218 25) from ⟨by first | exact ⟨hK, by (try simp only [g7_σ47, g9_σ47, g10_σ47, g11_σ47, g12_σ47, g13_σ47, g20_σ47, g22_σ47, g23_σ47, g24_σ47, g25_σ47]); omega, fun q => absurd q (by (try simp only [g7_σ47, g9_σ47, g10_σ47, g11_σ47, g12_σ47, g13_σ47, g20_σ47, g22_σ47, g23_σ47, g24_σ47, g25_σ47]); exact n51), fun _ => rfl⟩ | exact ⟨hK, by (try simp only [g7_σ47, g9_σ47, g10_σ47, g11_σ47, g12_σ47, g13_σ47, g20_σ47, g22_σ47, g23_σ47, g24_σ47, g25_σ47]); omega, fun _ => ⟨⟨y4, by (try simp only [g7_σ47, g9_σ47, g10_σ47, g11_σ47, g12_σ47, g13_σ47, g20_σ47, g22_σ47, g23_σ47, g24_σ47, g25_σ47]); omega⟩, r39⟩, fun q => absurd (by (try simp only [g7_σ47, g9_σ47, g10_σ47, g11_σ47, g12_σ47, g13_σ47, g20_σ47, g22_σ47, g23_σ47, g24_σ47, g25_σ47]); exact y51) q⟩ | exact absurd y51 n44 | exact absurd y51 n24 | exact absurd y51 n17 | exact absurd y51 n4, g7_σ47, g9_σ47, g20_σ47, g22_σ47, g23_σ47, g24_σ47, g25_σ47⟩)⟩
          · have qhc50 := hqv48.2 hc50
            have y51 := qhc50
            refine ok_gIv rfl g13_σ47 ?_
            refine ok_gC rfl ?_
            refine ok_zbT (Q := fun V σ => (TOK σ.1 ∧ (σ47.1 218 10).toInt ≤ (σ.1 218 11).toInt) ∧ (σ.1 218 7 = σ47.1 218 7 ∧ σ.1 218 9 = σ47.1 218 9 ∧ σ.1 218 14 = σ47.1 218 14 ∧ σ.1 218 15 = σ47.1 218 15 ∧ σ.1 218 20 = σ47.1 218 20 ∧ σ.1 218 22 = σ47.1 218 22 ∧ σ.1 218 23 = σ47.1 218 23 ∧ σ.1 218 24 = σ47.1 218 24 ∧ σ.1 218 25 = σ47.1 218 25)) hT (s_X12_advance hN (hR.tr hT) (TOK_A hK) (by rw [hT.2 224 (by decide)]; exact hY)) (by decide) (fun v52 σ53 hOσ53 hT hqv52 => ?_)
            have hqv52 : (TOK σ53.1 ∧ (σ47.1 218 10).toInt ≤ (σ53.1 218 11).toInt) ∧ (σ53.1 218 7 = σ47.1 218 7 ∧ σ53.1 218 9 = σ47.1 218 9 ∧ σ53.1 218 14 = σ47.1 218 14 ∧ σ53.1 218 15 = σ47.1 218 15 ∧ σ53.1 218 20 = σ47.1 218 20 ∧ σ53.1 218 22 = σ47.1 218 22 ∧ σ53.1 218 23 = σ47.1 218 23 ∧ σ53.1 218 24 = σ47.1 218 24 ∧ σ53.1 218 25 = σ47.1 218 25) := hqv52
            have hkv52 := hqv52
            have hqv52 := hqv52.1
            have hK : TOK σ53.1 := by first | exact hqv52.1 | exact TOK_p eσ53 (by decide) hK
            try simp only [g7_σ47, g9_σ47, g10_σ47, g11_σ47, g12_σ47, g13_σ47, g20_σ47, g22_σ47, g23_σ47, g24_σ47, g25_σ47] at hqv52
            have g7_σ53 : σ53.1 218 7 = (σ0.1 218 7) := (hkv52.2.1).trans g7_σ47
            have g9_σ53 : σ53.1 218 9 = (σ0.1 218 9) := (hkv52.2.2.1).trans g9_σ47
            have g14_σ53 : σ53.1 218 14 = (σ47.1 218 14) := hkv52.2.2.2.1
            have g15_σ53 : σ53.1 218 15 = (σ47.1 218 15) := hkv52.2.2.2.2.1
            have g20_σ53 : σ53.1 218 20 = (σ0.1 218 20) := (hkv52.2.2.2.2.2.1).trans g20_σ47
            have g22_σ53 : σ53.1 218 22 = (σ0.1 218 22) := (hkv52.2.2.2.2.2.2.1).trans g22_σ47
            have g23_σ53 : σ53.1 218 23 = (σ0.1 218 23) := (hkv52.2.2.2.2.2.2.2.1).trans g23_σ47
            have g24_σ53 : σ53.1 218 24 = (σ0.1 218 24) := (hkv52.2.2.2.2.2.2.2.2.1).trans g24_σ47
            have g25_σ53 : σ53.1 218 25 = (σ0.1 218 25) := (hkv52.2.2.2.2.2.2.2.2.2).trans g25_σ47
            exact ok_some ⟨hT, (show (TOK σ53.1 ∧ (σ0.1 218 11).toInt ≤ (σ53.1 218 11).toInt ∧ (σ53.1 218 14 = 0 → (σ0.1 218 14 = 0 ∧ (σ0.1 218 11).toInt < (σ53.1 218 11).toInt) ∧ x1.toInt ≤ ((σ0.1 218 13)).toInt ∧ ((σ0.1 218 13)).toInt ≤ x2.toInt) ∧ (¬ σ53.1 218 14 = 0 → ((σ0.1 218 13)) = 0)) ∧ (σ53.1 218 7 = σ0.1 218 7 ∧ σ53.1 218 9 = σ0.1 218 9 ∧ σ53.1 218 20 = σ0.1 218 20 ∧ σ53.1 218 22 = σ0.1 218 22 ∧ σ53.1 218 23 = σ0.1 218 23 ∧ σ53.1 218 24 = σ0.1 218 24 ∧ σ53.1 218 25 = σ0.1 218 25) from ⟨by first | exact ⟨hK, by (try simp only [g7_σ53, g9_σ53, g14_σ53, g15_σ53, g20_σ53, g22_σ53, g23_σ53, g24_σ53, g25_σ53]); omega, fun q => absurd q (by (try simp only [g7_σ53, g9_σ53, g14_σ53, g15_σ53, g20_σ53, g22_σ53, g23_σ53, g24_σ53, g25_σ53]); exact n51), fun _ => rfl⟩ | exact ⟨hK, by (try simp only [g7_σ53, g9_σ53, g14_σ53, g15_σ53, g20_σ53, g22_σ53, g23_σ53, g24_σ53, g25_σ53]); omega, fun _ => ⟨⟨y4, by (try simp only [g7_σ53, g9_σ53, g14_σ53, g15_σ53, g20_σ53, g22_σ53, g23_σ53, g24_σ53, g25_σ53]); omega⟩, r39⟩, fun q => absurd (by (try simp only [g7_σ53, g9_σ53, g14_σ53, g15_σ53, g20_σ53, g22_σ53, g23_σ53, g24_σ53, g25_σ53]); exact y51) q⟩ | exact absurd y51 n44 | exact absurd y51 n24 | exact absurd y51 n17 | exact absurd y51 n4, g7_σ53, g9_σ53, g20_σ53, g22_σ53, g23_σ53, g24_σ53, g25_σ53⟩)⟩
        · have qhc45 := hqv43.2 hc45
          have r39 := qhc45
          rw [J_X12_number_47.eq_1]
          refine ok_gC rfl ?_
          refine ok_zbX (Q := fun V => (V = 0 → ¬ σ0.1 218 14 = 0) ∧ (¬ V = 0 → σ0.1 218 14 = 0)) (x_X12_good) (fun v54 hqv54 => ?_)
          have hqv54 : (v54 = 0 → ¬ σ0.1 218 14 = 0) ∧ (¬ v54 = 0 → σ0.1 218 14 = 0) := hqv54
          refine ok_if (fun hc56 => ?_) (fun hc56 => ?_)
          · have qhc56 := hqv54.1 hc56
            have n51 := qhc56
            exact ok_some ⟨hT, (show (TOK σ0.1 ∧ (σ0.1 218 11).toInt ≤ (σ0.1 218 11).toInt ∧ (σ0.1 218 14 = 0 → (σ0.1 218 14 = 0 ∧ (σ0.1 218 11).toInt < (σ0.1 218 11).toInt) ∧ x1.toInt ≤ (0 : Int32).toInt ∧ (0 : Int32).toInt ≤ x2.toInt) ∧ (¬ σ0.1 218 14 = 0 → (0 : Int32) = 0)) ∧ (σ0.1 218 7 = σ0.1 218 7 ∧ σ0.1 218 9 = σ0.1 218 9 ∧ σ0.1 218 20 = σ0.1 218 20 ∧ σ0.1 218 22 = σ0.1 218 22 ∧ σ0.1 218 23 = σ0.1 218 23 ∧ σ0.1 218 24 = σ0.1 218 24 ∧ σ0.1 218 25 = σ0.1 218 25) from ⟨by first | exact ⟨hK, by skip; omega, fun q => absurd q (by skip; exact n51), fun _ => rfl⟩ | exact ⟨hK, by skip; omega, fun _ => ⟨⟨y4, by skip; omega⟩, r39⟩, fun q => absurd (by skip; exact y51) q⟩ | exact absurd y51 n44 | exact absurd y51 n24 | exact absurd y51 n17 | exact absurd y51 n4, rfl, rfl, rfl, rfl, rfl, rfl, rfl⟩)⟩
          · have qhc56 := hqv54.2 hc56
            have y51 := qhc56
            refine ok_gI rfl ?_
            refine ok_gC rfl ?_
            refine ok_zbT (Q := fun V σ => (TOK σ.1 ∧ (σ0.1 218 10).toInt ≤ (σ.1 218 11).toInt) ∧ (σ.1 218 7 = σ0.1 218 7 ∧ σ.1 218 9 = σ0.1 218 9 ∧ σ.1 218 14 = σ0.1 218 14 ∧ σ.1 218 15 = σ0.1 218 15 ∧ σ.1 218 20 = σ0.1 218 20 ∧ σ.1 218 22 = σ0.1 218 22 ∧ σ.1 218 23 = σ0.1 218 23 ∧ σ.1 218 24 = σ0.1 218 24 ∧ σ.1 218 25 = σ0.1 218 25)) hT (s_X12_advance hN (hR.tr hT) (TOK_A hK) (by rw [hT.2 224 (by decide)]; exact hY)) (by decide) (fun v58 σ59 hOσ59 hT hqv58 => ?_)
            have hqv58 : (TOK σ59.1 ∧ (σ0.1 218 10).toInt ≤ (σ59.1 218 11).toInt) ∧ (σ59.1 218 7 = σ0.1 218 7 ∧ σ59.1 218 9 = σ0.1 218 9 ∧ σ59.1 218 14 = σ0.1 218 14 ∧ σ59.1 218 15 = σ0.1 218 15 ∧ σ59.1 218 20 = σ0.1 218 20 ∧ σ59.1 218 22 = σ0.1 218 22 ∧ σ59.1 218 23 = σ0.1 218 23 ∧ σ59.1 218 24 = σ0.1 218 24 ∧ σ59.1 218 25 = σ0.1 218 25) := hqv58
            have hkv58 := hqv58
            have hqv58 := hqv58.1
            have hK : TOK σ59.1 := by first | exact hqv58.1 | exact TOK_p eσ59 (by decide) hK
            have g7_σ59 : σ59.1 218 7 = (σ0.1 218 7) := hkv58.2.1
            have g9_σ59 : σ59.1 218 9 = (σ0.1 218 9) := hkv58.2.2.1
            have g14_σ59 : σ59.1 218 14 = (σ0.1 218 14) := hkv58.2.2.2.1
            have g15_σ59 : σ59.1 218 15 = (σ0.1 218 15) := hkv58.2.2.2.2.1
            have g20_σ59 : σ59.1 218 20 = (σ0.1 218 20) := hkv58.2.2.2.2.2.1
            have g22_σ59 : σ59.1 218 22 = (σ0.1 218 22) := hkv58.2.2.2.2.2.2.1
            have g23_σ59 : σ59.1 218 23 = (σ0.1 218 23) := hkv58.2.2.2.2.2.2.2.1
            have g24_σ59 : σ59.1 218 24 = (σ0.1 218 24) := hkv58.2.2.2.2.2.2.2.2.1
            have g25_σ59 : σ59.1 218 25 = (σ0.1 218 25) := hkv58.2.2.2.2.2.2.2.2.2
            exact ok_some ⟨hT, (show (TOK σ59.1 ∧ (σ0.1 218 11).toInt ≤ (σ59.1 218 11).toInt ∧ (σ59.1 218 14 = 0 → (σ0.1 218 14 = 0 ∧ (σ0.1 218 11).toInt < (σ59.1 218 11).toInt) ∧ x1.toInt ≤ ((σ0.1 218 13)).toInt ∧ ((σ0.1 218 13)).toInt ≤ x2.toInt) ∧ (¬ σ59.1 218 14 = 0 → ((σ0.1 218 13)) = 0)) ∧ (σ59.1 218 7 = σ0.1 218 7 ∧ σ59.1 218 9 = σ0.1 218 9 ∧ σ59.1 218 20 = σ0.1 218 20 ∧ σ59.1 218 22 = σ0.1 218 22 ∧ σ59.1 218 23 = σ0.1 218 23 ∧ σ59.1 218 24 = σ0.1 218 24 ∧ σ59.1 218 25 = σ0.1 218 25) from ⟨by first | exact ⟨hK, by (try simp only [g7_σ59, g9_σ59, g14_σ59, g15_σ59, g20_σ59, g22_σ59, g23_σ59, g24_σ59, g25_σ59]); omega, fun q => absurd q (by (try simp only [g7_σ59, g9_σ59, g14_σ59, g15_σ59, g20_σ59, g22_σ59, g23_σ59, g24_σ59, g25_σ59]); exact n51), fun _ => rfl⟩ | exact ⟨hK, by (try simp only [g7_σ59, g9_σ59, g14_σ59, g15_σ59, g20_σ59, g22_σ59, g23_σ59, g24_σ59, g25_σ59]); omega, fun _ => ⟨⟨y4, by (try simp only [g7_σ59, g9_σ59, g14_σ59, g15_σ59, g20_σ59, g22_σ59, g23_σ59, g24_σ59, g25_σ59]); omega⟩, r39⟩, fun q => absurd (by (try simp only [g7_σ59, g9_σ59, g14_σ59, g15_σ59, g20_σ59, g22_σ59, g23_σ59, g24_σ59, g25_σ59]); exact y51) q⟩ | exact absurd y51 n44 | exact absurd y51 n24 | exact absurd y51 n17 | exact absurd y51 n4, g7_σ59, g9_σ59, g20_σ59, g22_σ59, g23_σ59, g24_σ59, g25_σ59⟩)⟩
    · refine ok_gC rfl ?_
      refine ok_zbT (Q := fun V σ => (TOK σ.1 ∧ ¬ σ.1 218 14 = 0) ∧ (σ.1 218 7 = σ0.1 218 7 ∧ σ.1 218 9 = σ0.1 218 9 ∧ σ.1 218 10 = σ0.1 218 10 ∧ σ.1 218 11 = σ0.1 218 11 ∧ σ.1 218 12 = σ0.1 218 12 ∧ σ.1 218 13 = σ0.1 218 13 ∧ σ.1 218 20 = σ0.1 218 20 ∧ σ.1 218 22 = σ0.1 218 22 ∧ σ.1 218 23 = σ0.1 218 23 ∧ σ.1 218 24 = σ0.1 218 24 ∧ σ.1 218 25 = σ0.1 218 25)) hT (s_X12_errs hN (hR.tr hT) (hK) (by rw [hT.2 224 (by decide)]; exact hY) (by decide)) (by decide) (fun v60 σ61 hOσ61 hT hqv60 => ?_)
      have hqv60 : (TOK σ61.1 ∧ ¬ σ61.1 218 14 = 0) ∧ (σ61.1 218 7 = σ0.1 218 7 ∧ σ61.1 218 9 = σ0.1 218 9 ∧ σ61.1 218 10 = σ0.1 218 10 ∧ σ61.1 218 11 = σ0.1 218 11 ∧ σ61.1 218 12 = σ0.1 218 12 ∧ σ61.1 218 13 = σ0.1 218 13 ∧ σ61.1 218 20 = σ0.1 218 20 ∧ σ61.1 218 22 = σ0.1 218 22 ∧ σ61.1 218 23 = σ0.1 218 23 ∧ σ61.1 218 24 = σ0.1 218 24 ∧ σ61.1 218 25 = σ0.1 218 25) := hqv60
      have hkv60 := hqv60
      have hqv60 := hqv60.1
      have hK : TOK σ61.1 := by first | exact hqv60.1 | exact TOK_p eσ61 (by decide) hK
      have g7_σ61 : σ61.1 218 7 = (σ0.1 218 7) := hkv60.2.1
      have g9_σ61 : σ61.1 218 9 = (σ0.1 218 9) := hkv60.2.2.1
      have g10_σ61 : σ61.1 218 10 = (σ0.1 218 10) := hkv60.2.2.2.1
      have g11_σ61 : σ61.1 218 11 = (σ0.1 218 11) := hkv60.2.2.2.2.1
      have g12_σ61 : σ61.1 218 12 = (σ0.1 218 12) := hkv60.2.2.2.2.2.1
      have g13_σ61 : σ61.1 218 13 = (σ0.1 218 13) := hkv60.2.2.2.2.2.2.1
      have g20_σ61 : σ61.1 218 20 = (σ0.1 218 20) := hkv60.2.2.2.2.2.2.2.1
      have g22_σ61 : σ61.1 218 22 = (σ0.1 218 22) := hkv60.2.2.2.2.2.2.2.2.1
      have g23_σ61 : σ61.1 218 23 = (σ0.1 218 23) := hkv60.2.2.2.2.2.2.2.2.2.1
      have g24_σ61 : σ61.1 218 24 = (σ0.1 218 24) := hkv60.2.2.2.2.2.2.2.2.2.2.1
      have g25_σ61 : σ61.1 218 25 = (σ0.1 218 25) := hkv60.2.2.2.2.2.2.2.2.2.2.2
      have n17 := hqv60.2
      rw [J_X12_number_20.eq_1]
      refine ok_gC rfl ?_
      refine ok_zbX (Q := fun V => (V = 0 → ¬ σ61.1 218 14 = 0) ∧ (¬ V = 0 → σ61.1 218 14 = 0)) (x_X12_good) (fun v62 hqv62 => ?_)
      have hqv62 : (v62 = 0 → ¬ σ61.1 218 14 = 0) ∧ (¬ v62 = 0 → σ61.1 218 14 = 0) := hqv62
      try simp only [g7_σ61, g9_σ61, g10_σ61, g11_σ61, g12_σ61, g13_σ61, g20_σ61, g22_σ61, g23_σ61, g24_σ61, g25_σ61, hT.2 224 (by decide)] at hqv62
      refine ok_if (fun hc64 => ?_) (fun hc64 => ?_)
      · have qhc64 := hqv62.1 hc64
        have n24 := qhc64
        rw [J_X12_number_47.eq_1]
        refine ok_gC rfl ?_
        refine ok_zbX (Q := fun V => (V = 0 → ¬ σ61.1 218 14 = 0) ∧ (¬ V = 0 → σ61.1 218 14 = 0)) (x_X12_good) (fun v65 hqv65 => ?_)
        have hqv65 : (v65 = 0 → ¬ σ61.1 218 14 = 0) ∧ (¬ v65 = 0 → σ61.1 218 14 = 0) := hqv65
        try simp only [g7_σ61, g9_σ61, g10_σ61, g11_σ61, g12_σ61, g13_σ61, g20_σ61, g22_σ61, g23_σ61, g24_σ61, g25_σ61, hT.2 224 (by decide)] at hqv65
        refine ok_if (fun hc67 => ?_) (fun hc67 => ?_)
        · have qhc67 := hqv65.1 hc67
          have n51 := qhc67
          exact ok_some ⟨hT, (show (TOK σ61.1 ∧ (σ0.1 218 11).toInt ≤ (σ61.1 218 11).toInt ∧ (σ61.1 218 14 = 0 → (σ0.1 218 14 = 0 ∧ (σ0.1 218 11).toInt < (σ61.1 218 11).toInt) ∧ x1.toInt ≤ (0 : Int32).toInt ∧ (0 : Int32).toInt ≤ x2.toInt) ∧ (¬ σ61.1 218 14 = 0 → (0 : Int32) = 0)) ∧ (σ61.1 218 7 = σ0.1 218 7 ∧ σ61.1 218 9 = σ0.1 218 9 ∧ σ61.1 218 20 = σ0.1 218 20 ∧ σ61.1 218 22 = σ0.1 218 22 ∧ σ61.1 218 23 = σ0.1 218 23 ∧ σ61.1 218 24 = σ0.1 218 24 ∧ σ61.1 218 25 = σ0.1 218 25) from ⟨by first | exact ⟨hK, by (try simp only [g7_σ61, g9_σ61, g10_σ61, g11_σ61, g12_σ61, g13_σ61, g20_σ61, g22_σ61, g23_σ61, g24_σ61, g25_σ61]); omega, fun q => absurd q (by (try simp only [g7_σ61, g9_σ61, g10_σ61, g11_σ61, g12_σ61, g13_σ61, g20_σ61, g22_σ61, g23_σ61, g24_σ61, g25_σ61]); exact n51), fun _ => rfl⟩ | exact ⟨hK, by (try simp only [g7_σ61, g9_σ61, g10_σ61, g11_σ61, g12_σ61, g13_σ61, g20_σ61, g22_σ61, g23_σ61, g24_σ61, g25_σ61]); omega, fun _ => ⟨⟨y4, by (try simp only [g7_σ61, g9_σ61, g10_σ61, g11_σ61, g12_σ61, g13_σ61, g20_σ61, g22_σ61, g23_σ61, g24_σ61, g25_σ61]); omega⟩, r39⟩, fun q => absurd (by (try simp only [g7_σ61, g9_σ61, g10_σ61, g11_σ61, g12_σ61, g13_σ61, g20_σ61, g22_σ61, g23_σ61, g24_σ61, g25_σ61]); exact y51) q⟩ | exact absurd y51 n44 | exact absurd y51 n24 | exact absurd y51 n17 | exact absurd y51 n4, g7_σ61, g9_σ61, g20_σ61, g22_σ61, g23_σ61, g24_σ61, g25_σ61⟩)⟩
        · have qhc67 := hqv65.2 hc67
          have y51 := qhc67
          refine ok_gIv rfl g13_σ61 ?_
          refine ok_gC rfl ?_
          refine ok_zbT (Q := fun V σ => (TOK σ.1 ∧ (σ61.1 218 10).toInt ≤ (σ.1 218 11).toInt) ∧ (σ.1 218 7 = σ61.1 218 7 ∧ σ.1 218 9 = σ61.1 218 9 ∧ σ.1 218 14 = σ61.1 218 14 ∧ σ.1 218 15 = σ61.1 218 15 ∧ σ.1 218 20 = σ61.1 218 20 ∧ σ.1 218 22 = σ61.1 218 22 ∧ σ.1 218 23 = σ61.1 218 23 ∧ σ.1 218 24 = σ61.1 218 24 ∧ σ.1 218 25 = σ61.1 218 25)) hT (s_X12_advance hN (hR.tr hT) (TOK_A hK) (by rw [hT.2 224 (by decide)]; exact hY)) (by decide) (fun v69 σ70 hOσ70 hT hqv69 => ?_)
          have hqv69 : (TOK σ70.1 ∧ (σ61.1 218 10).toInt ≤ (σ70.1 218 11).toInt) ∧ (σ70.1 218 7 = σ61.1 218 7 ∧ σ70.1 218 9 = σ61.1 218 9 ∧ σ70.1 218 14 = σ61.1 218 14 ∧ σ70.1 218 15 = σ61.1 218 15 ∧ σ70.1 218 20 = σ61.1 218 20 ∧ σ70.1 218 22 = σ61.1 218 22 ∧ σ70.1 218 23 = σ61.1 218 23 ∧ σ70.1 218 24 = σ61.1 218 24 ∧ σ70.1 218 25 = σ61.1 218 25) := hqv69
          have hkv69 := hqv69
          have hqv69 := hqv69.1
          have hK : TOK σ70.1 := by first | exact hqv69.1 | exact TOK_p eσ70 (by decide) hK
          try simp only [g7_σ61, g9_σ61, g10_σ61, g11_σ61, g12_σ61, g13_σ61, g20_σ61, g22_σ61, g23_σ61, g24_σ61, g25_σ61] at hqv69
          have g7_σ70 : σ70.1 218 7 = (σ0.1 218 7) := (hkv69.2.1).trans g7_σ61
          have g9_σ70 : σ70.1 218 9 = (σ0.1 218 9) := (hkv69.2.2.1).trans g9_σ61
          have g14_σ70 : σ70.1 218 14 = (σ61.1 218 14) := hkv69.2.2.2.1
          have g15_σ70 : σ70.1 218 15 = (σ61.1 218 15) := hkv69.2.2.2.2.1
          have g20_σ70 : σ70.1 218 20 = (σ0.1 218 20) := (hkv69.2.2.2.2.2.1).trans g20_σ61
          have g22_σ70 : σ70.1 218 22 = (σ0.1 218 22) := (hkv69.2.2.2.2.2.2.1).trans g22_σ61
          have g23_σ70 : σ70.1 218 23 = (σ0.1 218 23) := (hkv69.2.2.2.2.2.2.2.1).trans g23_σ61
          have g24_σ70 : σ70.1 218 24 = (σ0.1 218 24) := (hkv69.2.2.2.2.2.2.2.2.1).trans g24_σ61
          have g25_σ70 : σ70.1 218 25 = (σ0.1 218 25) := (hkv69.2.2.2.2.2.2.2.2.2).trans g25_σ61
          exact ok_some ⟨hT, (show (TOK σ70.1 ∧ (σ0.1 218 11).toInt ≤ (σ70.1 218 11).toInt ∧ (σ70.1 218 14 = 0 → (σ0.1 218 14 = 0 ∧ (σ0.1 218 11).toInt < (σ70.1 218 11).toInt) ∧ x1.toInt ≤ ((σ0.1 218 13)).toInt ∧ ((σ0.1 218 13)).toInt ≤ x2.toInt) ∧ (¬ σ70.1 218 14 = 0 → ((σ0.1 218 13)) = 0)) ∧ (σ70.1 218 7 = σ0.1 218 7 ∧ σ70.1 218 9 = σ0.1 218 9 ∧ σ70.1 218 20 = σ0.1 218 20 ∧ σ70.1 218 22 = σ0.1 218 22 ∧ σ70.1 218 23 = σ0.1 218 23 ∧ σ70.1 218 24 = σ0.1 218 24 ∧ σ70.1 218 25 = σ0.1 218 25) from ⟨by first | exact ⟨hK, by (try simp only [g7_σ70, g9_σ70, g14_σ70, g15_σ70, g20_σ70, g22_σ70, g23_σ70, g24_σ70, g25_σ70]); omega, fun q => absurd q (by (try simp only [g7_σ70, g9_σ70, g14_σ70, g15_σ70, g20_σ70, g22_σ70, g23_σ70, g24_σ70, g25_σ70]); exact n51), fun _ => rfl⟩ | exact ⟨hK, by (try simp only [g7_σ70, g9_σ70, g14_σ70, g15_σ70, g20_σ70, g22_σ70, g23_σ70, g24_σ70, g25_σ70]); omega, fun _ => ⟨⟨y4, by (try simp only [g7_σ70, g9_σ70, g14_σ70, g15_σ70, g20_σ70, g22_σ70, g23_σ70, g24_σ70, g25_σ70]); omega⟩, r39⟩, fun q => absurd (by (try simp only [g7_σ70, g9_σ70, g14_σ70, g15_σ70, g20_σ70, g22_σ70, g23_σ70, g24_σ70, g25_σ70]); exact y51) q⟩ | exact absurd y51 n44 | exact absurd y51 n24 | exact absurd y51 n17 | exact absurd y51 n4, g7_σ70, g9_σ70, g20_σ70, g22_σ70, g23_σ70, g24_σ70, g25_σ70⟩)⟩
      · have qhc64 := hqv62.2 hc64
        have y24 := qhc64
        refine ok_gIv rfl g13_σ61 ?_
        refine ok_zbX (Q := fun V => (V = 0 → ¬ ((Int32.toInt64 x1).toInt ≤ (Int32.toInt64 (σ0.1 218 13)).toInt ∧ (Int32.toInt64 (σ0.1 218 13)).toInt ≤ (Int32.toInt64 x2).toInt)) ∧ (¬ V = 0 → (Int32.toInt64 x1).toInt ≤ (Int32.toInt64 (σ0.1 218 13)).toInt ∧ (Int32.toInt64 (σ0.1 218 13)).toInt ≤ (Int32.toInt64 x2).toInt)) (xi_X12_in) (fun v72 hqv72 => ?_)
        have hqv72 : (v72 = 0 → ¬ ((Int32.toInt64 x1).toInt ≤ (Int32.toInt64 (σ0.1 218 13)).toInt ∧ (Int32.toInt64 (σ0.1 218 13)).toInt ≤ (Int32.toInt64 x2).toInt)) ∧ (¬ v72 = 0 → (Int32.toInt64 x1).toInt ≤ (Int32.toInt64 (σ0.1 218 13)).toInt ∧ (Int32.toInt64 (σ0.1 218 13)).toInt ≤ (Int32.toInt64 x2).toInt) := hqv72
        try simp only [g7_σ61, g9_σ61, g10_σ61, g11_σ61, g12_σ61, g13_σ61, g20_σ61, g22_σ61, g23_σ61, g24_σ61, g25_σ61, hT.2 224 (by decide)] at hqv72
        simp only [i64_of, Int64.reduceToInt] at hqv72
        refine ok_if (fun hc74 => ?_) (fun hc74 => ?_)
        · have qhc74 := hqv72.1 hc74
          refine ok_gC rfl ?_
          refine ok_zbT (Q := fun V σ => (TOK σ.1 ∧ ¬ σ.1 218 14 = 0) ∧ (σ.1 218 7 = σ61.1 218 7 ∧ σ.1 218 9 = σ61.1 218 9 ∧ σ.1 218 10 = σ61.1 218 10 ∧ σ.1 218 11 = σ61.1 218 11 ∧ σ.1 218 12 = σ61.1 218 12 ∧ σ.1 218 13 = σ61.1 218 13 ∧ σ.1 218 20 = σ61.1 218 20 ∧ σ.1 218 22 = σ61.1 218 22 ∧ σ.1 218 23 = σ61.1 218 23 ∧ σ.1 218 24 = σ61.1 218 24 ∧ σ.1 218 25 = σ61.1 218 25)) hT (s_X12_errs hN (hR.tr hT) (hK) (by rw [hT.2 224 (by decide)]; exact hY) (by decide)) (by decide) (fun v75 σ76 hOσ76 hT hqv75 => ?_)
          have hqv75 : (TOK σ76.1 ∧ ¬ σ76.1 218 14 = 0) ∧ (σ76.1 218 7 = σ61.1 218 7 ∧ σ76.1 218 9 = σ61.1 218 9 ∧ σ76.1 218 10 = σ61.1 218 10 ∧ σ76.1 218 11 = σ61.1 218 11 ∧ σ76.1 218 12 = σ61.1 218 12 ∧ σ76.1 218 13 = σ61.1 218 13 ∧ σ76.1 218 20 = σ61.1 218 20 ∧ σ76.1 218 22 = σ61.1 218 22 ∧ σ76.1 218 23 = σ61.1 218 23 ∧ σ76.1 218 24 = σ61.1 218 24 ∧ σ76.1 218 25 = σ61.1 218 25) := hqv75
          have hkv75 := hqv75
          have hqv75 := hqv75.1
          have hK : TOK σ76.1 := by first | exact hqv75.1 | exact TOK_p eσ76 (by decide) hK
          try simp only [g7_σ61, g9_σ61, g10_σ61, g11_σ61, g12_σ61, g13_σ61, g20_σ61, g22_σ61, g23_σ61, g24_σ61, g25_σ61] at hqv75
          have g7_σ76 : σ76.1 218 7 = (σ0.1 218 7) := (hkv75.2.1).trans g7_σ61
          have g9_σ76 : σ76.1 218 9 = (σ0.1 218 9) := (hkv75.2.2.1).trans g9_σ61
          have g10_σ76 : σ76.1 218 10 = (σ0.1 218 10) := (hkv75.2.2.2.1).trans g10_σ61
          have g11_σ76 : σ76.1 218 11 = (σ0.1 218 11) := (hkv75.2.2.2.2.1).trans g11_σ61
          have g12_σ76 : σ76.1 218 12 = (σ0.1 218 12) := (hkv75.2.2.2.2.2.1).trans g12_σ61
          have g13_σ76 : σ76.1 218 13 = (σ0.1 218 13) := (hkv75.2.2.2.2.2.2.1).trans g13_σ61
          have g20_σ76 : σ76.1 218 20 = (σ0.1 218 20) := (hkv75.2.2.2.2.2.2.2.1).trans g20_σ61
          have g22_σ76 : σ76.1 218 22 = (σ0.1 218 22) := (hkv75.2.2.2.2.2.2.2.2.1).trans g22_σ61
          have g23_σ76 : σ76.1 218 23 = (σ0.1 218 23) := (hkv75.2.2.2.2.2.2.2.2.2.1).trans g23_σ61
          have g24_σ76 : σ76.1 218 24 = (σ0.1 218 24) := (hkv75.2.2.2.2.2.2.2.2.2.2.1).trans g24_σ61
          have g25_σ76 : σ76.1 218 25 = (σ0.1 218 25) := (hkv75.2.2.2.2.2.2.2.2.2.2.2).trans g25_σ61
          have n44 := hqv75.2
          rw [J_X12_number_47.eq_1]
          refine ok_gC rfl ?_
          refine ok_zbX (Q := fun V => (V = 0 → ¬ σ76.1 218 14 = 0) ∧ (¬ V = 0 → σ76.1 218 14 = 0)) (x_X12_good) (fun v77 hqv77 => ?_)
          have hqv77 : (v77 = 0 → ¬ σ76.1 218 14 = 0) ∧ (¬ v77 = 0 → σ76.1 218 14 = 0) := hqv77
          try simp only [g7_σ76, g9_σ76, g10_σ76, g11_σ76, g12_σ76, g13_σ76, g20_σ76, g22_σ76, g23_σ76, g24_σ76, g25_σ76, hT.2 224 (by decide)] at hqv77
          refine ok_if (fun hc79 => ?_) (fun hc79 => ?_)
          · have qhc79 := hqv77.1 hc79
            have n51 := qhc79
            exact ok_some ⟨hT, (show (TOK σ76.1 ∧ (σ0.1 218 11).toInt ≤ (σ76.1 218 11).toInt ∧ (σ76.1 218 14 = 0 → (σ0.1 218 14 = 0 ∧ (σ0.1 218 11).toInt < (σ76.1 218 11).toInt) ∧ x1.toInt ≤ (0 : Int32).toInt ∧ (0 : Int32).toInt ≤ x2.toInt) ∧ (¬ σ76.1 218 14 = 0 → (0 : Int32) = 0)) ∧ (σ76.1 218 7 = σ0.1 218 7 ∧ σ76.1 218 9 = σ0.1 218 9 ∧ σ76.1 218 20 = σ0.1 218 20 ∧ σ76.1 218 22 = σ0.1 218 22 ∧ σ76.1 218 23 = σ0.1 218 23 ∧ σ76.1 218 24 = σ0.1 218 24 ∧ σ76.1 218 25 = σ0.1 218 25) from ⟨by first | exact ⟨hK, by (try simp only [g7_σ76, g9_σ76, g10_σ76, g11_σ76, g12_σ76, g13_σ76, g20_σ76, g22_σ76, g23_σ76, g24_σ76, g25_σ76]); omega, fun q => absurd q (by (try simp only [g7_σ76, g9_σ76, g10_σ76, g11_σ76, g12_σ76, g13_σ76, g20_σ76, g22_σ76, g23_σ76, g24_σ76, g25_σ76]); exact n51), fun _ => rfl⟩ | exact ⟨hK, by (try simp only [g7_σ76, g9_σ76, g10_σ76, g11_σ76, g12_σ76, g13_σ76, g20_σ76, g22_σ76, g23_σ76, g24_σ76, g25_σ76]); omega, fun _ => ⟨⟨y4, by (try simp only [g7_σ76, g9_σ76, g10_σ76, g11_σ76, g12_σ76, g13_σ76, g20_σ76, g22_σ76, g23_σ76, g24_σ76, g25_σ76]); omega⟩, r39⟩, fun q => absurd (by (try simp only [g7_σ76, g9_σ76, g10_σ76, g11_σ76, g12_σ76, g13_σ76, g20_σ76, g22_σ76, g23_σ76, g24_σ76, g25_σ76]); exact y51) q⟩ | exact absurd y51 n44 | exact absurd y51 n24 | exact absurd y51 n17 | exact absurd y51 n4, g7_σ76, g9_σ76, g20_σ76, g22_σ76, g23_σ76, g24_σ76, g25_σ76⟩)⟩
          · have qhc79 := hqv77.2 hc79
            have y51 := qhc79
            refine ok_gIv rfl g13_σ76 ?_
            refine ok_gC rfl ?_
            refine ok_zbT (Q := fun V σ => (TOK σ.1 ∧ (σ76.1 218 10).toInt ≤ (σ.1 218 11).toInt) ∧ (σ.1 218 7 = σ76.1 218 7 ∧ σ.1 218 9 = σ76.1 218 9 ∧ σ.1 218 14 = σ76.1 218 14 ∧ σ.1 218 15 = σ76.1 218 15 ∧ σ.1 218 20 = σ76.1 218 20 ∧ σ.1 218 22 = σ76.1 218 22 ∧ σ.1 218 23 = σ76.1 218 23 ∧ σ.1 218 24 = σ76.1 218 24 ∧ σ.1 218 25 = σ76.1 218 25)) hT (s_X12_advance hN (hR.tr hT) (TOK_A hK) (by rw [hT.2 224 (by decide)]; exact hY)) (by decide) (fun v81 σ82 hOσ82 hT hqv81 => ?_)
            have hqv81 : (TOK σ82.1 ∧ (σ76.1 218 10).toInt ≤ (σ82.1 218 11).toInt) ∧ (σ82.1 218 7 = σ76.1 218 7 ∧ σ82.1 218 9 = σ76.1 218 9 ∧ σ82.1 218 14 = σ76.1 218 14 ∧ σ82.1 218 15 = σ76.1 218 15 ∧ σ82.1 218 20 = σ76.1 218 20 ∧ σ82.1 218 22 = σ76.1 218 22 ∧ σ82.1 218 23 = σ76.1 218 23 ∧ σ82.1 218 24 = σ76.1 218 24 ∧ σ82.1 218 25 = σ76.1 218 25) := hqv81
            have hkv81 := hqv81
            have hqv81 := hqv81.1
            have hK : TOK σ82.1 := by first | exact hqv81.1 | exact TOK_p eσ82 (by decide) hK
            try simp only [g7_σ76, g9_σ76, g10_σ76, g11_σ76, g12_σ76, g13_σ76, g20_σ76, g22_σ76, g23_σ76, g24_σ76, g25_σ76] at hqv81
            have g7_σ82 : σ82.1 218 7 = (σ0.1 218 7) := (hkv81.2.1).trans g7_σ76
            have g9_σ82 : σ82.1 218 9 = (σ0.1 218 9) := (hkv81.2.2.1).trans g9_σ76
            have g14_σ82 : σ82.1 218 14 = (σ76.1 218 14) := hkv81.2.2.2.1
            have g15_σ82 : σ82.1 218 15 = (σ76.1 218 15) := hkv81.2.2.2.2.1
            have g20_σ82 : σ82.1 218 20 = (σ0.1 218 20) := (hkv81.2.2.2.2.2.1).trans g20_σ76
            have g22_σ82 : σ82.1 218 22 = (σ0.1 218 22) := (hkv81.2.2.2.2.2.2.1).trans g22_σ76
            have g23_σ82 : σ82.1 218 23 = (σ0.1 218 23) := (hkv81.2.2.2.2.2.2.2.1).trans g23_σ76
            have g24_σ82 : σ82.1 218 24 = (σ0.1 218 24) := (hkv81.2.2.2.2.2.2.2.2.1).trans g24_σ76
            have g25_σ82 : σ82.1 218 25 = (σ0.1 218 25) := (hkv81.2.2.2.2.2.2.2.2.2).trans g25_σ76
            exact ok_some ⟨hT, (show (TOK σ82.1 ∧ (σ0.1 218 11).toInt ≤ (σ82.1 218 11).toInt ∧ (σ82.1 218 14 = 0 → (σ0.1 218 14 = 0 ∧ (σ0.1 218 11).toInt < (σ82.1 218 11).toInt) ∧ x1.toInt ≤ ((σ0.1 218 13)).toInt ∧ ((σ0.1 218 13)).toInt ≤ x2.toInt) ∧ (¬ σ82.1 218 14 = 0 → ((σ0.1 218 13)) = 0)) ∧ (σ82.1 218 7 = σ0.1 218 7 ∧ σ82.1 218 9 = σ0.1 218 9 ∧ σ82.1 218 20 = σ0.1 218 20 ∧ σ82.1 218 22 = σ0.1 218 22 ∧ σ82.1 218 23 = σ0.1 218 23 ∧ σ82.1 218 24 = σ0.1 218 24 ∧ σ82.1 218 25 = σ0.1 218 25) from ⟨by first | exact ⟨hK, by (try simp only [g7_σ82, g9_σ82, g14_σ82, g15_σ82, g20_σ82, g22_σ82, g23_σ82, g24_σ82, g25_σ82]); omega, fun q => absurd q (by (try simp only [g7_σ82, g9_σ82, g14_σ82, g15_σ82, g20_σ82, g22_σ82, g23_σ82, g24_σ82, g25_σ82]); exact n51), fun _ => rfl⟩ | exact ⟨hK, by (try simp only [g7_σ82, g9_σ82, g14_σ82, g15_σ82, g20_σ82, g22_σ82, g23_σ82, g24_σ82, g25_σ82]); omega, fun _ => ⟨⟨y4, by (try simp only [g7_σ82, g9_σ82, g14_σ82, g15_σ82, g20_σ82, g22_σ82, g23_σ82, g24_σ82, g25_σ82]); omega⟩, r39⟩, fun q => absurd (by (try simp only [g7_σ82, g9_σ82, g14_σ82, g15_σ82, g20_σ82, g22_σ82, g23_σ82, g24_σ82, g25_σ82]); exact y51) q⟩ | exact absurd y51 n44 | exact absurd y51 n24 | exact absurd y51 n17 | exact absurd y51 n4, g7_σ82, g9_σ82, g20_σ82, g22_σ82, g23_σ82, g24_σ82, g25_σ82⟩)⟩
        · have qhc74 := hqv72.2 hc74
          have r39 := qhc74
          rw [J_X12_number_47.eq_1]
          refine ok_gC rfl ?_
          refine ok_zbX (Q := fun V => (V = 0 → ¬ σ61.1 218 14 = 0) ∧ (¬ V = 0 → σ61.1 218 14 = 0)) (x_X12_good) (fun v83 hqv83 => ?_)
          have hqv83 : (v83 = 0 → ¬ σ61.1 218 14 = 0) ∧ (¬ v83 = 0 → σ61.1 218 14 = 0) := hqv83
          try simp only [g7_σ61, g9_σ61, g10_σ61, g11_σ61, g12_σ61, g13_σ61, g20_σ61, g22_σ61, g23_σ61, g24_σ61, g25_σ61, hT.2 224 (by decide)] at hqv83
          refine ok_if (fun hc85 => ?_) (fun hc85 => ?_)
          · have qhc85 := hqv83.1 hc85
            have n51 := qhc85
            exact ok_some ⟨hT, (show (TOK σ61.1 ∧ (σ0.1 218 11).toInt ≤ (σ61.1 218 11).toInt ∧ (σ61.1 218 14 = 0 → (σ0.1 218 14 = 0 ∧ (σ0.1 218 11).toInt < (σ61.1 218 11).toInt) ∧ x1.toInt ≤ (0 : Int32).toInt ∧ (0 : Int32).toInt ≤ x2.toInt) ∧ (¬ σ61.1 218 14 = 0 → (0 : Int32) = 0)) ∧ (σ61.1 218 7 = σ0.1 218 7 ∧ σ61.1 218 9 = σ0.1 218 9 ∧ σ61.1 218 20 = σ0.1 218 20 ∧ σ61.1 218 22 = σ0.1 218 22 ∧ σ61.1 218 23 = σ0.1 218 23 ∧ σ61.1 218 24 = σ0.1 218 24 ∧ σ61.1 218 25 = σ0.1 218 25) from ⟨by first | exact ⟨hK, by (try simp only [g7_σ61, g9_σ61, g10_σ61, g11_σ61, g12_σ61, g13_σ61, g20_σ61, g22_σ61, g23_σ61, g24_σ61, g25_σ61]); omega, fun q => absurd q (by (try simp only [g7_σ61, g9_σ61, g10_σ61, g11_σ61, g12_σ61, g13_σ61, g20_σ61, g22_σ61, g23_σ61, g24_σ61, g25_σ61]); exact n51), fun _ => rfl⟩ | exact ⟨hK, by (try simp only [g7_σ61, g9_σ61, g10_σ61, g11_σ61, g12_σ61, g13_σ61, g20_σ61, g22_σ61, g23_σ61, g24_σ61, g25_σ61]); omega, fun _ => ⟨⟨y4, by (try simp only [g7_σ61, g9_σ61, g10_σ61, g11_σ61, g12_σ61, g13_σ61, g20_σ61, g22_σ61, g23_σ61, g24_σ61, g25_σ61]); omega⟩, r39⟩, fun q => absurd (by (try simp only [g7_σ61, g9_σ61, g10_σ61, g11_σ61, g12_σ61, g13_σ61, g20_σ61, g22_σ61, g23_σ61, g24_σ61, g25_σ61]); exact y51) q⟩ | exact absurd y51 n44 | exact absurd y51 n24 | exact absurd y51 n17 | exact absurd y51 n4, g7_σ61, g9_σ61, g20_σ61, g22_σ61, g23_σ61, g24_σ61, g25_σ61⟩)⟩
          · have qhc85 := hqv83.2 hc85
            have y51 := qhc85
            refine ok_gIv rfl g13_σ61 ?_
            refine ok_gC rfl ?_
            refine ok_zbT (Q := fun V σ => (TOK σ.1 ∧ (σ61.1 218 10).toInt ≤ (σ.1 218 11).toInt) ∧ (σ.1 218 7 = σ61.1 218 7 ∧ σ.1 218 9 = σ61.1 218 9 ∧ σ.1 218 14 = σ61.1 218 14 ∧ σ.1 218 15 = σ61.1 218 15 ∧ σ.1 218 20 = σ61.1 218 20 ∧ σ.1 218 22 = σ61.1 218 22 ∧ σ.1 218 23 = σ61.1 218 23 ∧ σ.1 218 24 = σ61.1 218 24 ∧ σ.1 218 25 = σ61.1 218 25)) hT (s_X12_advance hN (hR.tr hT) (TOK_A hK) (by rw [hT.2 224 (by decide)]; exact hY)) (by decide) (fun v87 σ88 hOσ88 hT hqv87 => ?_)
            have hqv87 : (TOK σ88.1 ∧ (σ61.1 218 10).toInt ≤ (σ88.1 218 11).toInt) ∧ (σ88.1 218 7 = σ61.1 218 7 ∧ σ88.1 218 9 = σ61.1 218 9 ∧ σ88.1 218 14 = σ61.1 218 14 ∧ σ88.1 218 15 = σ61.1 218 15 ∧ σ88.1 218 20 = σ61.1 218 20 ∧ σ88.1 218 22 = σ61.1 218 22 ∧ σ88.1 218 23 = σ61.1 218 23 ∧ σ88.1 218 24 = σ61.1 218 24 ∧ σ88.1 218 25 = σ61.1 218 25) := hqv87
            have hkv87 := hqv87
            have hqv87 := hqv87.1
            have hK : TOK σ88.1 := by first | exact hqv87.1 | exact TOK_p eσ88 (by decide) hK
            try simp only [g7_σ61, g9_σ61, g10_σ61, g11_σ61, g12_σ61, g13_σ61, g20_σ61, g22_σ61, g23_σ61, g24_σ61, g25_σ61] at hqv87
            have g7_σ88 : σ88.1 218 7 = (σ0.1 218 7) := (hkv87.2.1).trans g7_σ61
            have g9_σ88 : σ88.1 218 9 = (σ0.1 218 9) := (hkv87.2.2.1).trans g9_σ61
            have g14_σ88 : σ88.1 218 14 = (σ61.1 218 14) := hkv87.2.2.2.1
            have g15_σ88 : σ88.1 218 15 = (σ61.1 218 15) := hkv87.2.2.2.2.1
            have g20_σ88 : σ88.1 218 20 = (σ0.1 218 20) := (hkv87.2.2.2.2.2.1).trans g20_σ61
            have g22_σ88 : σ88.1 218 22 = (σ0.1 218 22) := (hkv87.2.2.2.2.2.2.1).trans g22_σ61
            have g23_σ88 : σ88.1 218 23 = (σ0.1 218 23) := (hkv87.2.2.2.2.2.2.2.1).trans g23_σ61
            have g24_σ88 : σ88.1 218 24 = (σ0.1 218 24) := (hkv87.2.2.2.2.2.2.2.2.1).trans g24_σ61
            have g25_σ88 : σ88.1 218 25 = (σ0.1 218 25) := (hkv87.2.2.2.2.2.2.2.2.2).trans g25_σ61
            exact ok_some ⟨hT, (show (TOK σ88.1 ∧ (σ0.1 218 11).toInt ≤ (σ88.1 218 11).toInt ∧ (σ88.1 218 14 = 0 → (σ0.1 218 14 = 0 ∧ (σ0.1 218 11).toInt < (σ88.1 218 11).toInt) ∧ x1.toInt ≤ ((σ0.1 218 13)).toInt ∧ ((σ0.1 218 13)).toInt ≤ x2.toInt) ∧ (¬ σ88.1 218 14 = 0 → ((σ0.1 218 13)) = 0)) ∧ (σ88.1 218 7 = σ0.1 218 7 ∧ σ88.1 218 9 = σ0.1 218 9 ∧ σ88.1 218 20 = σ0.1 218 20 ∧ σ88.1 218 22 = σ0.1 218 22 ∧ σ88.1 218 23 = σ0.1 218 23 ∧ σ88.1 218 24 = σ0.1 218 24 ∧ σ88.1 218 25 = σ0.1 218 25) from ⟨by first | exact ⟨hK, by (try simp only [g7_σ88, g9_σ88, g14_σ88, g15_σ88, g20_σ88, g22_σ88, g23_σ88, g24_σ88, g25_σ88]); omega, fun q => absurd q (by (try simp only [g7_σ88, g9_σ88, g14_σ88, g15_σ88, g20_σ88, g22_σ88, g23_σ88, g24_σ88, g25_σ88]); exact n51), fun _ => rfl⟩ | exact ⟨hK, by (try simp only [g7_σ88, g9_σ88, g14_σ88, g15_σ88, g20_σ88, g22_σ88, g23_σ88, g24_σ88, g25_σ88]); omega, fun _ => ⟨⟨y4, by (try simp only [g7_σ88, g9_σ88, g14_σ88, g15_σ88, g20_σ88, g22_σ88, g23_σ88, g24_σ88, g25_σ88]); omega⟩, r39⟩, fun q => absurd (by (try simp only [g7_σ88, g9_σ88, g14_σ88, g15_σ88, g20_σ88, g22_σ88, g23_σ88, g24_σ88, g25_σ88]); exact y51) q⟩ | exact absurd y51 n44 | exact absurd y51 n24 | exact absurd y51 n17 | exact absurd y51 n4, g7_σ88, g9_σ88, g20_σ88, g22_σ88, g23_σ88, g24_σ88, g25_σ88⟩)⟩
end Zq7_6
section Zq7_7
/-! ===== the reference's sums: what waits and what is piled ===== -/
def rkI (w : Int32) : Int32 := if w = 100 then 0 else if w < 50 then (if w = 0 then 1 else if w = 1 then 1 else 2) else 3
theorem x_X12_rank {N : Nat} {x0 : Int32} {σ : zS} : Ok (f_X12_rank N x0 σ) (fun r => r.2 = σ ∧ r.1 = rkI x0) := by
  rw [f_X12_rank.eq_1]
  unfold rkI
  refine ok_if (fun h => ok_some ⟨rfl, (if_pos h).symm⟩) (fun h => ?_)
  rw [if_neg h]
  refine ok_if (fun h1 => ?_) (fun h1 => ok_some ⟨rfl, (if_neg h1).symm⟩)
  rw [if_pos h1]
  refine ok_if (fun h2 => ok_some ⟨rfl, (if_pos h2).symm⟩) (fun h2 => ?_)
  rw [if_neg h2]
  exact ok_if (fun h3 => ok_some ⟨rfl, (if_pos h3).symm⟩) (fun h3 => ok_some ⟨rfl, (if_neg h3).symm⟩)
theorem x_X12_signOf {N : Nat} {x0 : Int32} {σ : zS} : Ok (f_X12_signOf N x0 σ) (fun r => r.2 = σ ∧ (r.1 = -1 ∨ ((0 ≤ r.1.toInt ∧ r.1.toInt ≤ 6) ∧ ¬ x0 = 0))) := by
  rw [f_X12_signOf.eq_1]
  refine ok_if (fun h => ok_some ⟨rfl, Or.inr ⟨(by decide : 0 ≤ (0 : Int32).toInt ∧ (0 : Int32).toInt ≤ 6), by rw [h]; decide⟩⟩) (fun _ => ?_)
  refine ok_if (fun h => ok_some ⟨rfl, Or.inr ⟨(by decide : 0 ≤ (1 : Int32).toInt ∧ (1 : Int32).toInt ≤ 6), by rw [h]; decide⟩⟩) (fun _ => ?_)
  refine ok_if (fun h => ok_some ⟨rfl, Or.inr ⟨(by decide : 0 ≤ (2 : Int32).toInt ∧ (2 : Int32).toInt ≤ 6), by rw [h]; decide⟩⟩) (fun _ => ?_)
  refine ok_if (fun h => ok_some ⟨rfl, Or.inr ⟨(by decide : 0 ≤ (3 : Int32).toInt ∧ (3 : Int32).toInt ≤ 6), by rw [h]; decide⟩⟩) (fun _ => ?_)
  refine ok_if (fun h => ok_some ⟨rfl, Or.inr ⟨(by decide : 0 ≤ (4 : Int32).toInt ∧ (4 : Int32).toInt ≤ 6), by rw [h]; decide⟩⟩) (fun _ => ?_)
  refine ok_if (fun h => ok_some ⟨rfl, Or.inr ⟨(by decide : 0 ≤ (5 : Int32).toInt ∧ (5 : Int32).toInt ≤ 6), by rw [h]; decide⟩⟩) (fun _ => ?_)
  refine ok_if (fun h => ok_some ⟨rfl, Or.inr ⟨(by decide : 0 ≤ (6 : Int32).toInt ∧ (6 : Int32).toInt ≤ 6), by rw [h]; decide⟩⟩) (fun _ => ok_some ⟨rfl, Or.inl rfl⟩)
theorem x_X12_prefixOf {N : Nat} {σ : zS} (hN : 1048576 ≤ N) (hR : RF σ.2.2) (hK : TOK σ.1) : Ok (f_X12_prefixOf N 218 σ) (fun r => r.2 = σ ∧ (r.1 = -1 ∨ ((0 ≤ r.1.toInt ∧ r.1.toInt ≤ 5) ∧ σ.1 218 14 = 0 ∧ σ.1 218 12 = 1))) := by
  rw [f_X12_prefixOf.eq_1]
  refine ok_gC rfl (ok_zbX (Q := fun v => (v = 0 ∨ v = 1) ∧ (¬ v = 0 → σ.1 218 14 = 0 ∧ σ.1 218 12 = 1)) (x0_X12_is hN hR (by decide) hK) (fun v hv => ok_if (fun h => ?_) (fun h => ok_some ⟨rfl, Or.inr ⟨(by decide : 0 ≤ (0 : Int32).toInt ∧ (0 : Int32).toInt ≤ 5), hv.2 h⟩⟩)))
  refine ok_gC rfl (ok_zbX (Q := fun v => (v = 0 ∨ v = 1) ∧ (¬ v = 0 → σ.1 218 14 = 0 ∧ σ.1 218 12 = 1)) (x0_X12_is hN hR (by decide) hK) (fun v hv => ok_if (fun h => ?_) (fun h => ok_some ⟨rfl, Or.inr ⟨(by decide : 0 ≤ (1 : Int32).toInt ∧ (1 : Int32).toInt ≤ 5), hv.2 h⟩⟩)))
  refine ok_gC rfl (ok_zbX (Q := fun v => (v = 0 ∨ v = 1) ∧ (¬ v = 0 → σ.1 218 14 = 0 ∧ σ.1 218 12 = 1)) (x0_X12_is hN hR (by decide) hK) (fun v hv => ok_if (fun h => ?_) (fun h => ok_some ⟨rfl, Or.inr ⟨(by decide : 0 ≤ (2 : Int32).toInt ∧ (2 : Int32).toInt ≤ 5), hv.2 h⟩⟩)))
  refine ok_gC rfl (ok_zbX (Q := fun v => (v = 0 ∨ v = 1) ∧ (¬ v = 0 → σ.1 218 14 = 0 ∧ σ.1 218 12 = 1)) (x0_X12_is hN hR (by decide) hK) (fun v hv => ok_if (fun h => ?_) (fun h => ok_some ⟨rfl, Or.inr ⟨(by decide : 0 ≤ (3 : Int32).toInt ∧ (3 : Int32).toInt ≤ 5), hv.2 h⟩⟩)))
  refine ok_gC rfl (ok_zbX (Q := fun v => (v = 0 ∨ v = 1) ∧ (¬ v = 0 → σ.1 218 14 = 0 ∧ σ.1 218 12 = 1)) (x0_X12_is hN hR (by decide) hK) (fun v hv => ok_if (fun h => ?_) (fun h => ok_some ⟨rfl, Or.inr ⟨(by decide : 0 ≤ (4 : Int32).toInt ∧ (4 : Int32).toInt ≤ 5), hv.2 h⟩⟩)))
  refine ok_gC rfl (ok_zbX (Q := fun v => (v = 0 ∨ v = 1) ∧ (¬ v = 0 → σ.1 218 14 = 0 ∧ σ.1 218 12 = 1)) (x0_X12_is hN hR (by decide) hK) (fun v hv => ok_if (fun h => ok_some ⟨rfl, Or.inl rfl⟩) (fun h => ok_some ⟨rfl, Or.inr ⟨(by decide : 0 ≤ (5 : Int32).toInt ∧ (5 : Int32).toInt ≤ 5), hv.2 h⟩⟩)))
/-- n that wait: b signs, d that open; r the rank of the last sign since the last that opens -/
def Stk (g : Nat → Int32) : Nat → Nat → Nat → Nat → Prop
  | 0, b, d, r => b = 0 ∧ d = 0 ∧ r = 0
  | n + 1, b, d, r => ((50 ≤ (g n).toInt ∧ (g n).toInt ≤ 100) ∧ r = 0 ∧ ∃ d' r', d = d' + 1 ∧ Stk g n b d' r') ∨ ((0 ≤ (g n).toInt ∧ (g n).toInt ≤ 6) ∧ (r : Int) = (rkI (g n)).toInt ∧ ∃ b' r', b = b' + 1 ∧ r' < r ∧ Stk g n b' d r')
theorem rk6 : ∀ k, k < 7 → 1 ≤ (rkI (nI k)).toInt ∧ (rkI (nI k)).toInt ≤ 2 := by decide
theorem rk_s {w : Int32} (h : 0 ≤ w.toInt ∧ w.toInt ≤ 6) : 1 ≤ (rkI w).toInt ∧ (rkI w).toInt ≤ 2 := by
  obtain ⟨k, hk, rfl⟩ := znI (m := 7) h.1 (by omega)
  exact rk6 k hk
theorem Stk_b {g : Nat → Int32} : ∀ {n b d r : Nat}, Stk g n b d r → (b ≤ 2 * d + r ∧ r ≤ 2) ∧ n = b + d
  | 0, b, d, r, h => by obtain ⟨rfl, rfl, rfl⟩ := h; omega
  | n + 1, b, d, r, h => by
    rcases h with ⟨_, rfl, d', r', rfl, h⟩ | ⟨hw, hr, b', r', rfl, hlt, h⟩
    · have := Stk_b h; omega
    · have := Stk_b h
      have := rk_s hw
      omega
theorem Stk_c {g g' : Nat → Int32} : ∀ {n b d r : Nat}, (∀ k, k < n → g' k = g k) → Stk g n b d r → Stk g' n b d r
  | 0, b, d, r, _, h => h
  | n + 1, b, d, r, e, h => by
    have en := e n (by omega)
    rcases h with ⟨hw, rfl, d', r', rfl, h⟩ | ⟨hw, hr, b', r', rfl, hlt, h⟩
    · exact Or.inl ⟨by rw [en]; exact hw, rfl, d', r', rfl, Stk_c (fun k hk => e k (by omega)) h⟩
    · exact Or.inr ⟨by rw [en]; exact hw, by rw [en]; exact hr, b', r', rfl, hlt, Stk_c (fun k hk => e k (by omega)) h⟩
theorem Stk_open {g g' : Nat → Int32} {n b d r : Nat} (h : Stk g n b d r) (e : ∀ k, k < n → g' k = g k) (hx : 50 ≤ (g' n).toInt ∧ (g' n).toInt ≤ 100) : Stk g' (n + 1) b (d + 1) 0 := Or.inl ⟨hx, rfl, d, r, rfl, Stk_c e h⟩
theorem Stk_sign {g g' : Nat → Int32} {n b d r p : Nat} (h : Stk g n b d r) (e : ∀ k, k < n → g' k = g k) (hx : 0 ≤ (g' n).toInt ∧ (g' n).toInt ≤ 6) (hp : (p : Int) = (rkI (g' n)).toInt) (hr : r < p) : Stk g' (n + 1) (b + 1) d p := Or.inr ⟨hx, hp, b, r, rfl, hr, Stk_c e h⟩
theorem Stk_pb {g : Nat → Int32} {n b d r : Nat} (h : Stk g (n + 1) b d r) (hx : (g n).toInt < 50) : ∃ b' r', b = b' + 1 ∧ Stk g n b' d r' := by
  rcases h with ⟨hw, _⟩ | ⟨hw, hr, b', r', e, hlt, h⟩
  · omega
  · exact ⟨b', r', e, h⟩
theorem Stk_po {g : Nat → Int32} {n b d r : Nat} (h : Stk g (n + 1) b d r) (hx : 50 ≤ (g n).toInt) : ∃ d' r', d = d' + 1 ∧ Stk g n b d' r' := by
  rcases h with ⟨hw, _, d', r', e, h⟩ | ⟨hw, _⟩
  · exact ⟨d', r', e, h⟩
  · omega
theorem Stk_top {g : Nat → Int32} {n b d r : Nat} {p : Int} (h : Stk g n b d r) (h1 : 1 ≤ p) (hx : n = 0 ∨ ∃ m, n = m + 1 ∧ (rkI (g m)).toInt < p) : (r : Int) < p := by
  rcases hx with rfl | ⟨m, rfl, hx⟩
  · obtain ⟨_, _, rfl⟩ := h; omega
  · rcases h with ⟨_, rfl, _⟩ | ⟨_, hr, _⟩ <;> omega
def PIL (s : Nat → Nat → Int32) (w : Nat) : Prop := ∃ b d r : Nat, Stk (s 230) (s 218 22).toInt.toNat b d r ∧ 0 ≤ (s 218 22).toInt ∧ (s 218 24).toInt = (d : Int) ∧ d ≤ 6 ∧ (s 218 23).toInt = ((b + w : Nat) : Int)
theorem PIL_b {s : Nat → Nat → Int32} {w : Nat} (h : PIL s w) (hw : w ≤ 1) : (0 ≤ (s 218 22).toInt ∧ (s 218 22).toInt ≤ 20) ∧ (((w : Int) ≤ (s 218 23).toInt ∧ (s 218 23).toInt ≤ 15) ∧ 0 ≤ (s 218 24).toInt ∧ (s 218 24).toInt ≤ 6) := by
  obtain ⟨b, d, r, hS, h0, hd, h6, hp⟩ := h
  have := Stk_b hS
  omega
theorem PIL_i {s : Nat → Nat → Int32} {b d r w : Nat} {g : Nat → Int32} {a p q : Int32} (e22 : s 218 22 = a) (e23 : s 218 23 = p) (e24 : s 218 24 = q) (eg : s 230 = g) (h : Stk g a.toInt.toNat b d r) (h0 : 0 ≤ a.toInt) (hd : q.toInt = (d : Int)) (h6 : d ≤ 6) (hp : p.toInt = ((b + w : Nat) : Int)) : PIL s w := by
  refine ⟨b, d, r, ?_⟩
  rw [e22, e23, e24, eg]
  exact ⟨h, h0, hd, h6, hp⟩
theorem PIL_c {s s' : Nat → Nat → Int32} {w : Nat} (h : PIL s w) (e22 : s' 218 22 = s 218 22) (e23 : s' 218 23 = s 218 23) (e24 : s' 218 24 = s 218 24) (eg : s' 230 = s 230) : PIL s' w := by
  obtain ⟨b, d, r, h⟩ := h
  refine ⟨b, d, r, ?_⟩
  rw [e22, e23, e24, eg]; exact h
abbrev WT (s : Nat → Nat → Int32) : Prop := 0 ≤ (s 218 22).toInt ∧ (s 218 22).toInt ≤ 40
theorem p1024d : ∀ k, k < 18 → (1024 * nI k).toInt = 1024 * (k : Int) := by decide
theorem p1024 {p : Int32} {k : Int} (h : p.toInt = k) (h0 : 0 ≤ k) (h1 : k ≤ 17) : (1024 * p).toInt = 1024 * k := by
  subst h
  obtain ⟨n, hn, rfl⟩ := znI (m := 18) h0 (by omega)
  rw [p1024d n hn, nI_toInt (by omega)]
theorem so9 {g : Nat → Int32} {a a' x : Int32} {k : Nat} (h : (k : Int) < a.toInt) (h2 : g k = 100) (hx : x.toInt ≤ (rkI (g (a - 1).toNatClampNeg)).toInt) (h1 : 1 ≤ x.toInt) (hs : (a - 1).toInt = a.toInt - 1) (w : a'.toInt = a.toInt - 1) : (k : Int) < a'.toInt := by
  by_cases q : (k : Int) = a.toInt - 1
  · have e : (a - 1).toNatClampNeg = k := by
      show (a - 1).toInt.toNat = k
      rw [hs]; omega
    rw [e, h2] at hx
    have : (rkI 100).toInt = 0 := by decide
    omega
  · omega
theorem x_X12_isOpen {N : Nat} {σ : zS} (hN : 1048576 ≤ N) (hR : RF σ.2.2) (hW : WT σ.1) : Ok (f_X12_isOpen N 218 σ) (fun r => r.2 = σ ∧ ((r.1 = 0 → True) ∧ (¬ r.1 = 0 → ∃ k : Nat, (k : Int) < (σ.1 218 22).toInt ∧ σ.1 230 k = 100))) := by
  rw [f_X12_isOpen.eq_1]
  refine ok_lp (fun t : Int32 × zS => t.2 = σ ∧ 0 ≤ t.1.toInt) (fun t => (40 - t.1.toInt).toNat) (fun again t hI ih => ?_) N _ ⟨rfl, (by decide : 0 ≤ (0 : Int32).toInt)⟩ (by simp only [Int32.reduceToInt]; omega)
  obtain ⟨x1, σ'⟩ := t
  obtain ⟨e, h0⟩ := hI
  have e : σ' = σ := e
  have h0 : 0 ≤ x1.toInt := h0
  subst e
  rw [F_X12_isOpen_2.eq_1]
  refine ok_gI rfl ?_
  refine ok_if (fun h => ok_rZ (Or.inl rfl) ⟨rfl, fun _ => trivial, fun q => absurd rfl q⟩) (fun h => ?_)
  rw [Int32.le_iff_toInt_le] at h
  have hs : (x1 + 1).toInt = x1.toInt + 1 := by rw [ti_add]; simp only [Int32.reduceToInt]; omega
  refine ok_gR (Sx := []) (v := 230) Tr.rf rfl (hR 218 21 rfl) ?_
  refine ok_aIn (n := 40) rfl h0 (by omega) (fun v e => ?_)
  refine ok_if (fun h1 => ok_rZ (Or.inr rfl) ⟨rfl, fun q => absurd (show (1 : Int32) = 0 from q) (by decide), fun _ => ⟨x1.toInt.toNat, by omega, by rw [← h1, e]; rfl⟩⟩) (fun h1 => ?_)
  exact ih (x1 + 1, σ') ⟨rfl, (by rw [hs]; omega : 0 ≤ (x1 + 1).toInt)⟩ (by show (40 - (x1 + 1).toInt).toNat < (40 - x1.toInt).toNat; rw [hs]; omega)

set_option maxHeartbeats 4000000 in
set_option maxRecDepth 100000 in
theorem s_X12_copiesMade {N : Nat} (hN : 1048576 ≤ N) {x1 : Int32} {σ0 : zS}  (hR : RF σ0.2.2) (hB : ZB σ0.1) (hx : 0 ≤ x1.toInt ∧ x1.toInt ≤ 17) : Ok (f_X12_copiesMade N 218 x1 σ0) (fun r => Tr [226] σ0 r.2 ∧ (ZB r.2.1)) := by
  have hT : Tr [226] σ0 σ0 := Tr.rf
  have m1 := p1024 (p := x1) rfl hx.1 hx.2
  rw [f_X12_copiesMade.eq_1]
  refine ok_lp (fun t : Int32 × zS => Tr [226] σ0 (t.2) ∧ (0 ≤ (t.1).toInt) ∧ (ZB (t.2).1)) (fun t : Int32 × zS => (1024 - (t.1).toInt).toNat) (fun again1 t hI ih2_1 => ?_) N _ (show Tr [226] σ0 σ0 ∧ (0 ≤ (0 : Int32).toInt) ∧ (ZB σ0.1) from ⟨hT, (by first | omega | decide | (simp only [Int32.le_iff_toInt_le, Int32.lt_iff_toInt_lt, ti_add, ti_sub, ti_mul, Int32.reduceToInt] at *; omega)), hB⟩) (show (1024 - (0 : Int32).toInt).toNat < N from (by first | omega | decide | (simp only [Int32.le_iff_toInt_le, Int32.lt_iff_toInt_lt, ti_add, ti_sub, ti_mul, Int32.reduceToInt] at *; omega)))
  obtain ⟨x2_1, σ1⟩ := t
  have hI : Tr [226] σ0 σ1 ∧ (0 ≤ x2_1.toInt) ∧ (ZB σ1.1) := hI
  obtain ⟨hT, hI1, hB⟩ := hI
  rw [F_X12_copiesMade_2.eq_1]
  refine ok_if (fun hc2 => ?_) (fun hc2 => ?_)
  · exact ok_some ⟨hT, (show ZB σ1.1 from by exact hB)⟩
  · refine ok_gR (v := 226) hT rfl (hR 218 16 rfl) ?_
    refine ok_gR (v := 227) hT rfl (hR 218 17 rfl) ?_
    refine ok_aIn rfl (by first | omega | decide | (simp only [Int32.le_iff_toInt_le, Int32.lt_iff_toInt_lt, ti_add, ti_sub, ti_mul, Int32.reduceToInt] at *; omega)) (by first | omega | decide | (simp only [Int32.le_iff_toInt_le, Int32.lt_iff_toInt_lt, ti_add, ti_sub, ti_mul, Int32.reduceToInt] at *; omega)) (fun v5 ev5 => ?_)
    have zv5 : v5 = 0 ∨ v5 = 1 := by rw [ev5]; exact hB 227 rfl _
    refine ok_s16 hT rfl (by decide) (by rw [ti_add, m1]; first | omega | (simp only [Int32.le_iff_toInt_le, Int32.lt_iff_toInt_lt, ti_add, ti_sub, ti_mul, Int32.reduceToInt] at *; omega)) (by rw [ti_add, m1]; first | omega | (simp only [Int32.le_iff_toInt_le, Int32.lt_iff_toInt_lt, ti_add, ti_sub, ti_mul, Int32.reduceToInt] at *; omega)) (fun σ6 eσ6 hOσ6 hT => ?_)
    have hB : ZB σ6.1 := ZB_s eσ6 hB
    exact ih2_1 (x2_1 + 1, σ6) (show Tr [226] σ0 σ6 ∧ (0 ≤ (x2_1 + 1).toInt) ∧ (ZB σ6.1) from ⟨hT, (by first | omega | decide | (simp only [Int32.le_iff_toInt_le, Int32.lt_iff_toInt_lt, ti_add, ti_sub, ti_mul, Int32.reduceToInt] at *; omega)), hB⟩) (show (1024 - (x2_1 + 1).toInt).toNat < (1024 - x2_1.toInt).toNat from (by first | omega | decide | (simp only [Int32.le_iff_toInt_le, Int32.lt_iff_toInt_lt, ti_add, ti_sub, ti_mul, Int32.reduceToInt] at *; omega)))

set_option maxHeartbeats 4000000 in
set_option maxRecDepth 100000 in
theorem s_X12_settles {N : Nat} (hN : 1048576 ≤ N)  {σ0 : zS}  (hR : RF σ0.2.2) (hK : TOK σ0.1) (hY : BYT (σ0.1 224)) (hB : ZB σ0.1) (ha : 0 ≤ (σ0.1 218 20).toInt ∧ (σ0.1 218 20).toInt ≤ 1024) (hP : PIL σ0.1 1) (hw : 1 ≤ (σ0.1 218 22).toInt) : Ok (f_X12_settles N 218 σ0) (fun r => Tr [218, 226, 227, 228, 229] σ0 r.2 ∧ ((TOK r.2.1 ∧ ZB r.2.1 ∧ PIL r.2.1 1 ∧ (r.2.1 218 22).toInt = (σ0.1 218 22).toInt - 1) ∧ (r.2.1 218 7 = σ0.1 218 7 ∧ r.2.1 218 9 = σ0.1 218 9 ∧ r.2.1 218 10 = σ0.1 218 10 ∧ r.2.1 218 11 = σ0.1 218 11 ∧ r.2.1 218 12 = σ0.1 218 12 ∧ r.2.1 218 13 = σ0.1 218 13 ∧ r.2.1 218 14 = σ0.1 218 14 ∧ r.2.1 218 15 = σ0.1 218 15 ∧ r.2.1 218 20 = σ0.1 218 20 ∧ r.2.1 218 25 = σ0.1 218 25))) := by
  have hT : Tr [218, 226, 227, 228, 229] σ0 σ0 := Tr.rf
  have hK1 := hK.1
  obtain ⟨b8, d8, r8, hS, h22, hd, hd6, hp⟩ := hP
  have hSb := Stk_b hS
  obtain ⟨n8, hn8⟩ : ∃ n : Nat, (σ0.1 218 22).toInt.toNat = n + 1 := ⟨(σ0.1 218 22).toInt.toNat - 1, by omega⟩
  rw [hn8] at hS
  have s22 : ((σ0.1 218 22) - 1).toInt = (n8 : Int) := by rw [ti_sub]; simp only [Int32.reduceToInt]; omega
  have i22 : ((σ0.1 218 22) - 1).toNatClampNeg = n8 := by show ((σ0.1 218 22) - 1).toInt.toNat = n8; rw [s22]; omega
  have j22 : ((σ0.1 218 22) - 1).toInt.toNat = n8 := i22
  have p1 : ((σ0.1 218 23) - 1).toInt = (b8 : Int) := by rw [ti_sub]; simp only [Int32.reduceToInt]; omega
  have m1 := p1024 p1 (by omega) (by omega)
  rw [f_X12_settles.eq_1]
  refine ok_gI rfl ?_
  refine ok_pI hT rfl (by decide) (fun σ2 eσ2 hOσ2 hT => ?_)
  have hK : TOK σ2.1 := by first | exact HQ.1 | exact TOK_p eσ2 (by decide) hK
  have hB : ZB σ2.1 := ZB.tr hOσ2 (by decide) hB
  have g7_σ2 : σ2.1 218 7 = (σ0.1 218 7) := zI_atN eσ2 (by decide)
  have g9_σ2 : σ2.1 218 9 = (σ0.1 218 9) := zI_atN eσ2 (by decide)
  have g10_σ2 : σ2.1 218 10 = (σ0.1 218 10) := zI_atN eσ2 (by decide)
  have g11_σ2 : σ2.1 218 11 = (σ0.1 218 11) := zI_atN eσ2 (by decide)
  have g12_σ2 : σ2.1 218 12 = (σ0.1 218 12) := zI_atN eσ2 (by decide)
  have g13_σ2 : σ2.1 218 13 = (σ0.1 218 13) := zI_atN eσ2 (by decide)
  have g14_σ2 : σ2.1 218 14 = (σ0.1 218 14) := zI_atN eσ2 (by decide)
  have g15_σ2 : σ2.1 218 15 = (σ0.1 218 15) := zI_atN eσ2 (by decide)
  have g20_σ2 : σ2.1 218 20 = (σ0.1 218 20) := zI_atN eσ2 (by decide)
  have g22_σ2 : σ2.1 218 22 = ((σ0.1 218 22) - 1) := zI_atI eσ2
  have g23_σ2 : σ2.1 218 23 = (σ0.1 218 23) := zI_atN eσ2 (by decide)
  have g24_σ2 : σ2.1 218 24 = (σ0.1 218 24) := zI_atN eσ2 (by decide)
  have g25_σ2 : σ2.1 218 25 = (σ0.1 218 25) := zI_atN eσ2 (by decide)
  refine ok_gR (v := 230) hT rfl (hR 218 21 rfl) ?_
  refine ok_gIv rfl g22_σ2 ?_
  refine ok_aIn rfl (by rw [s22]; omega) (by rw [s22]; omega) (fun v5 ev5 => ?_)
  have ev18 := ev5
  rw [hT.2 230 (by decide), i22] at ev18
  refine ok_if (fun hc6 => ?_) (fun hc6 => ?_)
  · have q9 := hc6
    rw [ev18, Int32.lt_iff_toInt_lt] at q9
    simp only [Int32.reduceToInt] at q9
    obtain ⟨b9, r9, e9, hS9⟩ := Stk_pb hS q9
    have p2 : ((σ0.1 218 23) - 2).toInt = (b9 : Int) := by rw [ti_sub]; simp only [Int32.reduceToInt]; omega
    have m2 := p1024 p2 (by omega) (by omega)
    have p3 : ((σ0.1 218 23) - 1 - 1).toInt = (b9 : Int) := by rw [ti_sub, p1]; simp only [Int32.reduceToInt]; omega
    refine ok_gR (v := 226) hT rfl (hR 218 16 rfl) ?_
    refine ok_gIv rfl g23_σ2 ?_
    refine ok_gR (v := 226) hT rfl (hR 218 16 rfl) ?_
    refine ok_gIv rfl g23_σ2 ?_
    refine ok_gC rfl ?_
    refine ok_zbT (Q := fun V σ => ZB σ.1) hT (s_X12_gives_226_226 hN (hR.tr hT) (hB) (by (try simp only [g7_σ2, g9_σ2, g10_σ2, g11_σ2, g12_σ2, g13_σ2, g14_σ2, g15_σ2, g20_σ2, g22_σ2, g23_σ2, g24_σ2, g25_σ2]); exact ha) (by first | (rw [m2]; omega) | (rw [m1]; omega)) (by rw [m1]; omega)) (by decide) (fun v11 σ12 hOσ12 hT hqv11 => ?_)
    have hqv11 : ZB σ12.1 := hqv11
    have hK : TOK σ12.1 := TOK_tr hOσ12 (by decide) (by decide) hK
    have hB : ZB σ12.1 := by first | exact hqv11 | exact ZB_s eσ12 hB
    try simp only [g7_σ2, g9_σ2, g10_σ2, g11_σ2, g12_σ2, g13_σ2, g14_σ2, g15_σ2, g20_σ2, g22_σ2, g23_σ2, g24_σ2, g25_σ2] at hqv11
    have g7_σ12 : σ12.1 218 7 = (σ0.1 218 7) := (congrFun (hOσ12.2 218 (by decide)) 7).trans g7_σ2
    have g9_σ12 : σ12.1 218 9 = (σ0.1 218 9) := (congrFun (hOσ12.2 218 (by decide)) 9).trans g9_σ2
    have g10_σ12 : σ12.1 218 10 = (σ0.1 218 10) := (congrFun (hOσ12.2 218 (by decide)) 10).trans g10_σ2
    have g11_σ12 : σ12.1 218 11 = (σ0.1 218 11) := (congrFun (hOσ12.2 218 (by decide)) 11).trans g11_σ2
    have g12_σ12 : σ12.1 218 12 = (σ0.1 218 12) := (congrFun (hOσ12.2 218 (by decide)) 12).trans g12_σ2
    have g13_σ12 : σ12.1 218 13 = (σ0.1 218 13) := (congrFun (hOσ12.2 218 (by decide)) 13).trans g13_σ2
    have g14_σ12 : σ12.1 218 14 = (σ0.1 218 14) := (congrFun (hOσ12.2 218 (by decide)) 14).trans g14_σ2
    have g15_σ12 : σ12.1 218 15 = (σ0.1 218 15) := (congrFun (hOσ12.2 218 (by decide)) 15).trans g15_σ2
    have g20_σ12 : σ12.1 218 20 = (σ0.1 218 20) := (congrFun (hOσ12.2 218 (by decide)) 20).trans g20_σ2
    have g22_σ12 : σ12.1 218 22 = ((σ0.1 218 22) - 1) := (congrFun (hOσ12.2 218 (by decide)) 22).trans g22_σ2
    have g23_σ12 : σ12.1 218 23 = (σ0.1 218 23) := (congrFun (hOσ12.2 218 (by decide)) 23).trans g23_σ2
    have g24_σ12 : σ12.1 218 24 = (σ0.1 218 24) := (congrFun (hOσ12.2 218 (by decide)) 24).trans g24_σ2
    have g25_σ12 : σ12.1 218 25 = (σ0.1 218 25) := (congrFun (hOσ12.2 218 (by decide)) 25).trans g25_σ2
    refine ok_gIv rfl g23_σ12 ?_
    refine ok_pI hT rfl (by decide) (fun σ14 eσ14 hOσ14 hT => ?_)
    have hK : TOK σ14.1 := by first | exact HQ.1 | exact TOK_p eσ14 (by decide) hK
    have hB : ZB σ14.1 := ZB.tr hOσ14 (by decide) hB
    have g7_σ14 : σ14.1 218 7 = (σ0.1 218 7) := (zI_atN eσ14 (by decide)).trans g7_σ12
    have g9_σ14 : σ14.1 218 9 = (σ0.1 218 9) := (zI_atN eσ14 (by decide)).trans g9_σ12
    have g10_σ14 : σ14.1 218 10 = (σ0.1 218 10) := (zI_atN eσ14 (by decide)).trans g10_σ12
    have g11_σ14 : σ14.1 218 11 = (σ0.1 218 11) := (zI_atN eσ14 (by decide)).trans g11_σ12
    have g12_σ14 : σ14.1 218 12 = (σ0.1 218 12) := (zI_atN eσ14 (by decide)).trans g12_σ12
    have g13_σ14 : σ14.1 218 13 = (σ0.1 218 13) := (zI_atN eσ14 (by decide)).trans g13_σ12
    have g14_σ14 : σ14.1 218 14 = (σ0.1 218 14) := (zI_atN eσ14 (by decide)).trans g14_σ12
    have g15_σ14 : σ14.1 218 15 = (σ0.1 218 15) := (zI_atN eσ14 (by decide)).trans g15_σ12
    have g20_σ14 : σ14.1 218 20 = (σ0.1 218 20) := (zI_atN eσ14 (by decide)).trans g20_σ12
    have g22_σ14 : σ14.1 218 22 = ((σ0.1 218 22) - 1) := (zI_atN eσ14 (by decide)).trans g22_σ12
    have g23_σ14 : σ14.1 218 23 = ((σ0.1 218 23) - 1) := zI_atI eσ14
    have g24_σ14 : σ14.1 218 24 = (σ0.1 218 24) := (zI_atN eσ14 (by decide)).trans g24_σ12
    have g25_σ14 : σ14.1 218 25 = (σ0.1 218 25) := (zI_atN eσ14 (by decide)).trans g25_σ12
    refine ok_gIv rfl g23_σ14 ?_
    refine ok_gC rfl ?_
    refine ok_zbT (Q := fun V σ => ZB σ.1) hT (s_X12_copiesMade hN (hR.tr hT) (hB) (by first | (rw [p3]; omega) | (rw [p1]; omega))) (by decide) (fun v16 σ17 hOσ17 hT hqv16 => ?_)
    have hqv16 : ZB σ17.1 := hqv16
    have hK : TOK σ17.1 := TOK_tr hOσ17 (by decide) (by decide) hK
    have hB : ZB σ17.1 := by first | exact hqv16 | exact ZB_s eσ17 hB
    try simp only [g7_σ14, g9_σ14, g10_σ14, g11_σ14, g12_σ14, g13_σ14, g14_σ14, g15_σ14, g20_σ14, g22_σ14, g23_σ14, g24_σ14, g25_σ14] at hqv16
    have g7_σ17 : σ17.1 218 7 = (σ0.1 218 7) := (congrFun (hOσ17.2 218 (by decide)) 7).trans g7_σ14
    have g9_σ17 : σ17.1 218 9 = (σ0.1 218 9) := (congrFun (hOσ17.2 218 (by decide)) 9).trans g9_σ14
    have g10_σ17 : σ17.1 218 10 = (σ0.1 218 10) := (congrFun (hOσ17.2 218 (by decide)) 10).trans g10_σ14
    have g11_σ17 : σ17.1 218 11 = (σ0.1 218 11) := (congrFun (hOσ17.2 218 (by decide)) 11).trans g11_σ14
    have g12_σ17 : σ17.1 218 12 = (σ0.1 218 12) := (congrFun (hOσ17.2 218 (by decide)) 12).trans g12_σ14
    have g13_σ17 : σ17.1 218 13 = (σ0.1 218 13) := (congrFun (hOσ17.2 218 (by decide)) 13).trans g13_σ14
    have g14_σ17 : σ17.1 218 14 = (σ0.1 218 14) := (congrFun (hOσ17.2 218 (by decide)) 14).trans g14_σ14
    have g15_σ17 : σ17.1 218 15 = (σ0.1 218 15) := (congrFun (hOσ17.2 218 (by decide)) 15).trans g15_σ14
    have g20_σ17 : σ17.1 218 20 = (σ0.1 218 20) := (congrFun (hOσ17.2 218 (by decide)) 20).trans g20_σ14
    have g22_σ17 : σ17.1 218 22 = ((σ0.1 218 22) - 1) := (congrFun (hOσ17.2 218 (by decide)) 22).trans g22_σ14
    have g23_σ17 : σ17.1 218 23 = ((σ0.1 218 23) - 1) := (congrFun (hOσ17.2 218 (by decide)) 23).trans g23_σ14
    have g24_σ17 : σ17.1 218 24 = (σ0.1 218 24) := (congrFun (hOσ17.2 218 (by decide)) 24).trans g24_σ14
    have g25_σ17 : σ17.1 218 25 = (σ0.1 218 25) := (congrFun (hOσ17.2 218 (by decide)) 25).trans g25_σ14
    exact ok_some ⟨hT, (show (TOK σ17.1 ∧ ZB σ17.1 ∧ PIL σ17.1 1 ∧ (σ17.1 218 22).toInt = (σ0.1 218 22).toInt - 1) ∧ (σ17.1 218 7 = σ0.1 218 7 ∧ σ17.1 218 9 = σ0.1 218 9 ∧ σ17.1 218 10 = σ0.1 218 10 ∧ σ17.1 218 11 = σ0.1 218 11 ∧ σ17.1 218 12 = σ0.1 218 12 ∧ σ17.1 218 13 = σ0.1 218 13 ∧ σ17.1 218 14 = σ0.1 218 14 ∧ σ17.1 218 15 = σ0.1 218 15 ∧ σ17.1 218 20 = σ0.1 218 20 ∧ σ17.1 218 25 = σ0.1 218 25) from ⟨by first | exact ⟨hK, hB, PIL_i g22_σ17 g23_σ17 g24_σ17 (hT.2 230 (by decide)) (by rw [j22]; exact hS9) (by omega) hd hd6 (by rw [p1]; omega), by (try simp only [g7_σ17, g9_σ17, g10_σ17, g11_σ17, g12_σ17, g13_σ17, g14_σ17, g15_σ17, g20_σ17, g22_σ17, g23_σ17, g24_σ17, g25_σ17]); omega⟩ | exact ⟨hK, hB, PIL_i g22_σ17 g23_σ17 g24_σ17 (hT.2 230 (by decide)) (by rw [j22]; exact hS9) (by omega) d24 (by omega) hp, by (try simp only [g7_σ17, g9_σ17, g10_σ17, g11_σ17, g12_σ17, g13_σ17, g14_σ17, g15_σ17, g20_σ17, g22_σ17, g23_σ17, g24_σ17, g25_σ17]); omega⟩, g7_σ17, g9_σ17, g10_σ17, g11_σ17, g12_σ17, g13_σ17, g14_σ17, g15_σ17, g20_σ17, g25_σ17⟩)⟩
  · have q9 := hc6
    rw [ev18, Int32.lt_iff_toInt_lt] at q9
    simp only [Int32.reduceToInt] at q9
    obtain ⟨d9, r9, e9, hS9⟩ := Stk_po hS (by omega)
    have d24 : ((σ0.1 218 24) - 1).toInt = (d9 : Int) := by rw [ti_sub]; simp only [Int32.reduceToInt]; omega
    refine ok_gR (v := 226) hT rfl (hR 218 16 rfl) ?_
    refine ok_gIv rfl g23_σ2 ?_
    refine ok_gC rfl ?_
    refine ok_zbT (Q := fun V σ => ZB σ.1) hT (s_X12_turns_226 hN (hR.tr hT) (hB) (by (try simp only [g7_σ2, g9_σ2, g10_σ2, g11_σ2, g12_σ2, g13_σ2, g14_σ2, g15_σ2, g20_σ2, g22_σ2, g23_σ2, g24_σ2, g25_σ2]); exact ha) (by first | (rw [m2]; omega) | (rw [m1]; omega))) (by decide) (fun v20 σ21 hOσ21 hT hqv20 => ?_)
    have hqv20 : ZB σ21.1 := hqv20
    have hK : TOK σ21.1 := TOK_tr hOσ21 (by decide) (by decide) hK
    have hB : ZB σ21.1 := by first | exact hqv20 | exact ZB_s eσ21 hB
    try simp only [g7_σ2, g9_σ2, g10_σ2, g11_σ2, g12_σ2, g13_σ2, g14_σ2, g15_σ2, g20_σ2, g22_σ2, g23_σ2, g24_σ2, g25_σ2] at hqv20
    have g7_σ21 : σ21.1 218 7 = (σ0.1 218 7) := (congrFun (hOσ21.2 218 (by decide)) 7).trans g7_σ2
    have g9_σ21 : σ21.1 218 9 = (σ0.1 218 9) := (congrFun (hOσ21.2 218 (by decide)) 9).trans g9_σ2
    have g10_σ21 : σ21.1 218 10 = (σ0.1 218 10) := (congrFun (hOσ21.2 218 (by decide)) 10).trans g10_σ2
    have g11_σ21 : σ21.1 218 11 = (σ0.1 218 11) := (congrFun (hOσ21.2 218 (by decide)) 11).trans g11_σ2
    have g12_σ21 : σ21.1 218 12 = (σ0.1 218 12) := (congrFun (hOσ21.2 218 (by decide)) 12).trans g12_σ2
    have g13_σ21 : σ21.1 218 13 = (σ0.1 218 13) := (congrFun (hOσ21.2 218 (by decide)) 13).trans g13_σ2
    have g14_σ21 : σ21.1 218 14 = (σ0.1 218 14) := (congrFun (hOσ21.2 218 (by decide)) 14).trans g14_σ2
    have g15_σ21 : σ21.1 218 15 = (σ0.1 218 15) := (congrFun (hOσ21.2 218 (by decide)) 15).trans g15_σ2
    have g20_σ21 : σ21.1 218 20 = (σ0.1 218 20) := (congrFun (hOσ21.2 218 (by decide)) 20).trans g20_σ2
    have g22_σ21 : σ21.1 218 22 = ((σ0.1 218 22) - 1) := (congrFun (hOσ21.2 218 (by decide)) 22).trans g22_σ2
    have g23_σ21 : σ21.1 218 23 = (σ0.1 218 23) := (congrFun (hOσ21.2 218 (by decide)) 23).trans g23_σ2
    have g24_σ21 : σ21.1 218 24 = (σ0.1 218 24) := (congrFun (hOσ21.2 218 (by decide)) 24).trans g24_σ2
    have g25_σ21 : σ21.1 218 25 = (σ0.1 218 25) := (congrFun (hOσ21.2 218 (by decide)) 25).trans g25_σ2
    refine ok_gIv rfl g23_σ21 ?_
    refine ok_gC rfl ?_
    refine ok_zbT (Q := fun V σ => ZB σ.1) hT (s_X12_copiesMade hN (hR.tr hT) (hB) (by first | (rw [p3]; omega) | (rw [p1]; omega))) (by decide) (fun v23 σ24 hOσ24 hT hqv23 => ?_)
    have hqv23 : ZB σ24.1 := hqv23
    have hK : TOK σ24.1 := TOK_tr hOσ24 (by decide) (by decide) hK
    have hB : ZB σ24.1 := by first | exact hqv23 | exact ZB_s eσ24 hB
    try simp only [g7_σ21, g9_σ21, g10_σ21, g11_σ21, g12_σ21, g13_σ21, g14_σ21, g15_σ21, g20_σ21, g22_σ21, g23_σ21, g24_σ21, g25_σ21] at hqv23
    have g7_σ24 : σ24.1 218 7 = (σ0.1 218 7) := (congrFun (hOσ24.2 218 (by decide)) 7).trans g7_σ21
    have g9_σ24 : σ24.1 218 9 = (σ0.1 218 9) := (congrFun (hOσ24.2 218 (by decide)) 9).trans g9_σ21
    have g10_σ24 : σ24.1 218 10 = (σ0.1 218 10) := (congrFun (hOσ24.2 218 (by decide)) 10).trans g10_σ21
    have g11_σ24 : σ24.1 218 11 = (σ0.1 218 11) := (congrFun (hOσ24.2 218 (by decide)) 11).trans g11_σ21
    have g12_σ24 : σ24.1 218 12 = (σ0.1 218 12) := (congrFun (hOσ24.2 218 (by decide)) 12).trans g12_σ21
    have g13_σ24 : σ24.1 218 13 = (σ0.1 218 13) := (congrFun (hOσ24.2 218 (by decide)) 13).trans g13_σ21
    have g14_σ24 : σ24.1 218 14 = (σ0.1 218 14) := (congrFun (hOσ24.2 218 (by decide)) 14).trans g14_σ21
    have g15_σ24 : σ24.1 218 15 = (σ0.1 218 15) := (congrFun (hOσ24.2 218 (by decide)) 15).trans g15_σ21
    have g20_σ24 : σ24.1 218 20 = (σ0.1 218 20) := (congrFun (hOσ24.2 218 (by decide)) 20).trans g20_σ21
    have g22_σ24 : σ24.1 218 22 = ((σ0.1 218 22) - 1) := (congrFun (hOσ24.2 218 (by decide)) 22).trans g22_σ21
    have g23_σ24 : σ24.1 218 23 = (σ0.1 218 23) := (congrFun (hOσ24.2 218 (by decide)) 23).trans g23_σ21
    have g24_σ24 : σ24.1 218 24 = (σ0.1 218 24) := (congrFun (hOσ24.2 218 (by decide)) 24).trans g24_σ21
    have g25_σ24 : σ24.1 218 25 = (σ0.1 218 25) := (congrFun (hOσ24.2 218 (by decide)) 25).trans g25_σ21
    refine ok_gIv rfl g24_σ24 ?_
    refine ok_pI hT rfl (by decide) (fun σ26 eσ26 hOσ26 hT => ?_)
    have hK : TOK σ26.1 := by first | exact HQ.1 | exact TOK_p eσ26 (by decide) hK
    have hB : ZB σ26.1 := ZB.tr hOσ26 (by decide) hB
    have g7_σ26 : σ26.1 218 7 = (σ0.1 218 7) := (zI_atN eσ26 (by decide)).trans g7_σ24
    have g9_σ26 : σ26.1 218 9 = (σ0.1 218 9) := (zI_atN eσ26 (by decide)).trans g9_σ24
    have g10_σ26 : σ26.1 218 10 = (σ0.1 218 10) := (zI_atN eσ26 (by decide)).trans g10_σ24
    have g11_σ26 : σ26.1 218 11 = (σ0.1 218 11) := (zI_atN eσ26 (by decide)).trans g11_σ24
    have g12_σ26 : σ26.1 218 12 = (σ0.1 218 12) := (zI_atN eσ26 (by decide)).trans g12_σ24
    have g13_σ26 : σ26.1 218 13 = (σ0.1 218 13) := (zI_atN eσ26 (by decide)).trans g13_σ24
    have g14_σ26 : σ26.1 218 14 = (σ0.1 218 14) := (zI_atN eσ26 (by decide)).trans g14_σ24
    have g15_σ26 : σ26.1 218 15 = (σ0.1 218 15) := (zI_atN eσ26 (by decide)).trans g15_σ24
    have g20_σ26 : σ26.1 218 20 = (σ0.1 218 20) := (zI_atN eσ26 (by decide)).trans g20_σ24
    have g22_σ26 : σ26.1 218 22 = ((σ0.1 218 22) - 1) := (zI_atN eσ26 (by decide)).trans g22_σ24
    have g23_σ26 : σ26.1 218 23 = (σ0.1 218 23) := (zI_atN eσ26 (by decide)).trans g23_σ24
    have g24_σ26 : σ26.1 218 24 = ((σ0.1 218 24) - 1) := zI_atI eσ26
    have g25_σ26 : σ26.1 218 25 = (σ0.1 218 25) := (zI_atN eσ26 (by decide)).trans g25_σ24
    exact ok_some ⟨hT, (show (TOK σ26.1 ∧ ZB σ26.1 ∧ PIL σ26.1 1 ∧ (σ26.1 218 22).toInt = (σ0.1 218 22).toInt - 1) ∧ (σ26.1 218 7 = σ0.1 218 7 ∧ σ26.1 218 9 = σ0.1 218 9 ∧ σ26.1 218 10 = σ0.1 218 10 ∧ σ26.1 218 11 = σ0.1 218 11 ∧ σ26.1 218 12 = σ0.1 218 12 ∧ σ26.1 218 13 = σ0.1 218 13 ∧ σ26.1 218 14 = σ0.1 218 14 ∧ σ26.1 218 15 = σ0.1 218 15 ∧ σ26.1 218 20 = σ0.1 218 20 ∧ σ26.1 218 25 = σ0.1 218 25) from ⟨by first | exact ⟨hK, hB, PIL_i g22_σ26 g23_σ26 g24_σ26 (hT.2 230 (by decide)) (by rw [j22]; exact hS9) (by omega) hd hd6 (by rw [p1]; omega), by (try simp only [g7_σ26, g9_σ26, g10_σ26, g11_σ26, g12_σ26, g13_σ26, g14_σ26, g15_σ26, g20_σ26, g22_σ26, g23_σ26, g24_σ26, g25_σ26]); omega⟩ | exact ⟨hK, hB, PIL_i g22_σ26 g23_σ26 g24_σ26 (hT.2 230 (by decide)) (by rw [j22]; exact hS9) (by omega) d24 (by omega) hp, by (try simp only [g7_σ26, g9_σ26, g10_σ26, g11_σ26, g12_σ26, g13_σ26, g14_σ26, g15_σ26, g20_σ26, g22_σ26, g23_σ26, g24_σ26, g25_σ26]); omega⟩, g7_σ26, g9_σ26, g10_σ26, g11_σ26, g12_σ26, g13_σ26, g14_σ26, g15_σ26, g20_σ26, g25_σ26⟩)⟩

set_option maxHeartbeats 4000000 in
set_option maxRecDepth 100000 in
theorem s_X12_settlesTo {N : Nat} (hN : 1048576 ≤ N) {x1 : Int32} {σ0 : zS}  (hR : RF σ0.2.2) (hK : TOK σ0.1) (hY : BYT (σ0.1 224)) (hB : ZB σ0.1) (ha : 0 ≤ (σ0.1 218 20).toInt ∧ (σ0.1 218 20).toInt ≤ 1024) (hP : PIL σ0.1 1) (h1 : 1 ≤ x1.toInt) : Ok (f_X12_settlesTo N 218 x1 σ0) (fun r => Tr [218, 226, 227, 228, 229] σ0 r.2 ∧ ((TOK r.2.1 ∧ ZB r.2.1 ∧ PIL r.2.1 1 ∧ (∀ k : Nat, (k : Int) < (σ0.1 218 22).toInt → σ0.1 230 k = 100 → (k : Int) < (r.2.1 218 22).toInt) ∧ ((r.2.1 218 22).toInt ≤ 0 ∨ (rkI (σ0.1 230 ((r.2.1 218 22) - 1).toNatClampNeg)).toInt < x1.toInt)) ∧ (r.2.1 218 7 = σ0.1 218 7 ∧ r.2.1 218 9 = σ0.1 218 9 ∧ r.2.1 218 10 = σ0.1 218 10 ∧ r.2.1 218 11 = σ0.1 218 11 ∧ r.2.1 218 12 = σ0.1 218 12 ∧ r.2.1 218 13 = σ0.1 218 13 ∧ r.2.1 218 14 = σ0.1 218 14 ∧ r.2.1 218 15 = σ0.1 218 15 ∧ r.2.1 218 20 = σ0.1 218 20 ∧ r.2.1 218 25 = σ0.1 218 25))) := by
  have hT : Tr [218, 226, 227, 228, 229] σ0 σ0 := Tr.rf
  have hK1 := hK.1
  have hb0 := PIL_b hP (by decide)
  rw [f_X12_settlesTo.eq_1]
  refine ok_lp (fun t : zS => Tr [218, 226, 227, 228, 229] σ0 (t) ∧ (PIL (t).1 1 ∧ ∀ k : Nat, (k : Int) < (σ0.1 218 22).toInt → σ0.1 230 k = 100 → (k : Int) < ((t).1 218 22).toInt) ∧ (TOK (t).1) ∧ (ZB (t).1) ∧ ((t).1 218 7 = (σ0.1 218 7)) ∧ ((t).1 218 9 = (σ0.1 218 9)) ∧ ((t).1 218 10 = (σ0.1 218 10)) ∧ ((t).1 218 11 = (σ0.1 218 11)) ∧ ((t).1 218 12 = (σ0.1 218 12)) ∧ ((t).1 218 13 = (σ0.1 218 13)) ∧ ((t).1 218 14 = (σ0.1 218 14)) ∧ ((t).1 218 15 = (σ0.1 218 15)) ∧ ((t).1 218 20 = (σ0.1 218 20)) ∧ ((t).1 218 25 = (σ0.1 218 25))) (fun t : zS => ((t).1 218 22).toInt.toNat) (fun again1 t hI ih0_1 => ?_) N _ (show Tr [218, 226, 227, 228, 229] σ0 σ0 ∧ (PIL σ0.1 1 ∧ ∀ k : Nat, (k : Int) < (σ0.1 218 22).toInt → σ0.1 230 k = 100 → (k : Int) < (σ0.1 218 22).toInt) ∧ (TOK σ0.1) ∧ (ZB σ0.1) ∧ (σ0.1 218 7 = (σ0.1 218 7)) ∧ (σ0.1 218 9 = (σ0.1 218 9)) ∧ (σ0.1 218 10 = (σ0.1 218 10)) ∧ (σ0.1 218 11 = (σ0.1 218 11)) ∧ (σ0.1 218 12 = (σ0.1 218 12)) ∧ (σ0.1 218 13 = (σ0.1 218 13)) ∧ (σ0.1 218 14 = (σ0.1 218 14)) ∧ (σ0.1 218 15 = (σ0.1 218 15)) ∧ (σ0.1 218 20 = (σ0.1 218 20)) ∧ (σ0.1 218 25 = (σ0.1 218 25)) from ⟨hT, (by exact ⟨hP, fun k q _ => q⟩), hK, hB, rfl, rfl, rfl, rfl, rfl, rfl, rfl, rfl, rfl, rfl⟩) (show (σ0.1 218 22).toInt.toNat < N from (by omega))
  obtain ⟨σ1, rfl⟩ : ∃ x, x = t := ⟨t, rfl⟩
  have hI : Tr [218, 226, 227, 228, 229] σ0 σ1 ∧ (PIL σ1.1 1 ∧ ∀ k : Nat, (k : Int) < (σ0.1 218 22).toInt → σ0.1 230 k = 100 → (k : Int) < (σ1.1 218 22).toInt) ∧ (TOK σ1.1) ∧ (ZB σ1.1) ∧ (σ1.1 218 7 = (σ0.1 218 7)) ∧ (σ1.1 218 9 = (σ0.1 218 9)) ∧ (σ1.1 218 10 = (σ0.1 218 10)) ∧ (σ1.1 218 11 = (σ0.1 218 11)) ∧ (σ1.1 218 12 = (σ0.1 218 12)) ∧ (σ1.1 218 13 = (σ0.1 218 13)) ∧ (σ1.1 218 14 = (σ0.1 218 14)) ∧ (σ1.1 218 15 = (σ0.1 218 15)) ∧ (σ1.1 218 20 = (σ0.1 218 20)) ∧ (σ1.1 218 25 = (σ0.1 218 25)) := hI
  obtain ⟨hT, hI1, hK, hB, g7_σ1, g9_σ1, g10_σ1, g11_σ1, g12_σ1, g13_σ1, g14_σ1, g15_σ1, g20_σ1, g25_σ1⟩ := hI
  rw [F_X12_settlesTo_0.eq_1]
  have hP := hI1.1
  have hO9 := hI1.2
  have hb9 := PIL_b hI1.1 (by decide)
  refine ok_gI rfl ?_
  refine ok_if (fun hc3 => ?_) (fun hc3 => ?_)
  · have w9 := hc3
    rw [Int32.le_iff_toInt_le] at w9
    simp only [Int32.reduceToInt] at w9
    exact ok_some ⟨hT, (show (TOK σ1.1 ∧ ZB σ1.1 ∧ PIL σ1.1 1 ∧ (∀ k : Nat, (k : Int) < (σ0.1 218 22).toInt → σ0.1 230 k = 100 → (k : Int) < (σ1.1 218 22).toInt) ∧ ((σ1.1 218 22).toInt ≤ 0 ∨ (rkI (σ0.1 230 ((σ1.1 218 22) - 1).toNatClampNeg)).toInt < x1.toInt)) ∧ (σ1.1 218 7 = σ0.1 218 7 ∧ σ1.1 218 9 = σ0.1 218 9 ∧ σ1.1 218 10 = σ0.1 218 10 ∧ σ1.1 218 11 = σ0.1 218 11 ∧ σ1.1 218 12 = σ0.1 218 12 ∧ σ1.1 218 13 = σ0.1 218 13 ∧ σ1.1 218 14 = σ0.1 218 14 ∧ σ1.1 218 15 = σ0.1 218 15 ∧ σ1.1 218 20 = σ0.1 218 20 ∧ σ1.1 218 25 = σ0.1 218 25) from ⟨by first | exact ⟨hK, hB, hP, hO9, Or.inl w9⟩ | exact ⟨hK, hB, hP, hO9, Or.inr x9⟩, g7_σ1, g9_σ1, g10_σ1, g11_σ1, g12_σ1, g13_σ1, g14_σ1, g15_σ1, g20_σ1, g25_σ1⟩)⟩
  · have w9 := hc3
    rw [Int32.le_iff_toInt_le] at w9
    simp only [Int32.reduceToInt] at w9
    have s22 : ((σ1.1 218 22) - 1).toInt = (σ1.1 218 22).toInt - 1 := by rw [ti_sub]; simp only [Int32.reduceToInt]; omega
    refine ok_gR (v := 230) hT rfl (hR 218 21 rfl) ?_
    refine ok_gI rfl ?_
    refine ok_aIn rfl (by rw [s22]; omega) (by rw [s22]; omega) (fun v6 ev6 => ?_)
    have ev17 := ev6
    rw [hT.2 230 (by decide)] at ev17
    refine ok_zbX (Q := fun V => V = rkI v6) (x_X12_rank) (fun v7 hqv7 => ?_)
    have hqv7 : v7 = rkI v6 := hqv7
    try simp only [g7_σ1, g9_σ1, g10_σ1, g11_σ1, g12_σ1, g13_σ1, g14_σ1, g15_σ1, g20_σ1, g25_σ1, hT.2 224 (by decide)] at hqv7
    refine ok_if (fun hc9 => ?_) (fun hc9 => ?_)
    · have x9 := hc9
      rw [hqv7, ev17, Int32.lt_iff_toInt_lt] at x9
      exact ok_some ⟨hT, (show (TOK σ1.1 ∧ ZB σ1.1 ∧ PIL σ1.1 1 ∧ (∀ k : Nat, (k : Int) < (σ0.1 218 22).toInt → σ0.1 230 k = 100 → (k : Int) < (σ1.1 218 22).toInt) ∧ ((σ1.1 218 22).toInt ≤ 0 ∨ (rkI (σ0.1 230 ((σ1.1 218 22) - 1).toNatClampNeg)).toInt < x1.toInt)) ∧ (σ1.1 218 7 = σ0.1 218 7 ∧ σ1.1 218 9 = σ0.1 218 9 ∧ σ1.1 218 10 = σ0.1 218 10 ∧ σ1.1 218 11 = σ0.1 218 11 ∧ σ1.1 218 12 = σ0.1 218 12 ∧ σ1.1 218 13 = σ0.1 218 13 ∧ σ1.1 218 14 = σ0.1 218 14 ∧ σ1.1 218 15 = σ0.1 218 15 ∧ σ1.1 218 20 = σ0.1 218 20 ∧ σ1.1 218 25 = σ0.1 218 25) from ⟨by first | exact ⟨hK, hB, hP, hO9, Or.inl w9⟩ | exact ⟨hK, hB, hP, hO9, Or.inr x9⟩, g7_σ1, g9_σ1, g10_σ1, g11_σ1, g12_σ1, g13_σ1, g14_σ1, g15_σ1, g20_σ1, g25_σ1⟩)⟩
    · have x9 := hc9
      rw [hqv7, ev17, Int32.lt_iff_toInt_lt] at x9
      have x9 := Int.not_lt.mp x9
      refine ok_gC rfl ?_
      refine ok_zbT (Q := fun V σ => (TOK σ.1 ∧ ZB σ.1 ∧ PIL σ.1 1 ∧ (σ.1 218 22).toInt = (σ1.1 218 22).toInt - 1) ∧ (σ.1 218 7 = σ1.1 218 7 ∧ σ.1 218 9 = σ1.1 218 9 ∧ σ.1 218 10 = σ1.1 218 10 ∧ σ.1 218 11 = σ1.1 218 11 ∧ σ.1 218 12 = σ1.1 218 12 ∧ σ.1 218 13 = σ1.1 218 13 ∧ σ.1 218 14 = σ1.1 218 14 ∧ σ.1 218 15 = σ1.1 218 15 ∧ σ.1 218 20 = σ1.1 218 20 ∧ σ.1 218 25 = σ1.1 218 25)) hT (s_X12_settles hN (hR.tr hT) (hK) (by rw [hT.2 224 (by decide)]; exact hY) (hB) (by (try simp only [g7_σ1, g9_σ1, g10_σ1, g11_σ1, g12_σ1, g13_σ1, g14_σ1, g15_σ1, g20_σ1, g25_σ1]); exact ha) (hP) (by omega)) (by decide) (fun v10 σ11 hOσ11 hT hqv10 => ?_)
      have hqv10 : (TOK σ11.1 ∧ ZB σ11.1 ∧ PIL σ11.1 1 ∧ (σ11.1 218 22).toInt = (σ1.1 218 22).toInt - 1) ∧ (σ11.1 218 7 = σ1.1 218 7 ∧ σ11.1 218 9 = σ1.1 218 9 ∧ σ11.1 218 10 = σ1.1 218 10 ∧ σ11.1 218 11 = σ1.1 218 11 ∧ σ11.1 218 12 = σ1.1 218 12 ∧ σ11.1 218 13 = σ1.1 218 13 ∧ σ11.1 218 14 = σ1.1 218 14 ∧ σ11.1 218 15 = σ1.1 218 15 ∧ σ11.1 218 20 = σ1.1 218 20 ∧ σ11.1 218 25 = σ1.1 218 25) := hqv10
      have hkv10 := hqv10
      have hqv10 := hqv10.1
      have hK : TOK σ11.1 := by first | exact hqv10.1 | exact TOK_p eσ11 (by decide) hK
      have hB : ZB σ11.1 := hqv10.2.1
      try simp only [g7_σ1, g9_σ1, g10_σ1, g11_σ1, g12_σ1, g13_σ1, g14_σ1, g15_σ1, g20_σ1, g25_σ1] at hqv10
      have g7_σ11 : σ11.1 218 7 = (σ0.1 218 7) := (hkv10.2.1).trans g7_σ1
      have g9_σ11 : σ11.1 218 9 = (σ0.1 218 9) := (hkv10.2.2.1).trans g9_σ1
      have g10_σ11 : σ11.1 218 10 = (σ0.1 218 10) := (hkv10.2.2.2.1).trans g10_σ1
      have g11_σ11 : σ11.1 218 11 = (σ0.1 218 11) := (hkv10.2.2.2.2.1).trans g11_σ1
      have g12_σ11 : σ11.1 218 12 = (σ0.1 218 12) := (hkv10.2.2.2.2.2.1).trans g12_σ1
      have g13_σ11 : σ11.1 218 13 = (σ0.1 218 13) := (hkv10.2.2.2.2.2.2.1).trans g13_σ1
      have g14_σ11 : σ11.1 218 14 = (σ0.1 218 14) := (hkv10.2.2.2.2.2.2.2.1).trans g14_σ1
      have g15_σ11 : σ11.1 218 15 = (σ0.1 218 15) := (hkv10.2.2.2.2.2.2.2.2.1).trans g15_σ1
      have g20_σ11 : σ11.1 218 20 = (σ0.1 218 20) := (hkv10.2.2.2.2.2.2.2.2.2.1).trans g20_σ1
      have g25_σ11 : σ11.1 218 25 = (σ0.1 218 25) := (hkv10.2.2.2.2.2.2.2.2.2.2).trans g25_σ1
      have hP := hqv10.2.2.1
      have w26 := hqv10.2.2.2
      have hO9 : ∀ k : Nat, (k : Int) < (σ0.1 218 22).toInt → σ0.1 230 k = 100 → (k : Int) < (σ11.1 218 22).toInt := fun k u1 u2 => so9 (hO9 k u1 u2) u2 x9 h1 s22 w26
      exact ih0_1 σ11 (show Tr [218, 226, 227, 228, 229] σ0 σ11 ∧ (PIL σ11.1 1 ∧ ∀ k : Nat, (k : Int) < (σ0.1 218 22).toInt → σ0.1 230 k = 100 → (k : Int) < (σ11.1 218 22).toInt) ∧ (TOK σ11.1) ∧ (ZB σ11.1) ∧ (σ11.1 218 7 = (σ0.1 218 7)) ∧ (σ11.1 218 9 = (σ0.1 218 9)) ∧ (σ11.1 218 10 = (σ0.1 218 10)) ∧ (σ11.1 218 11 = (σ0.1 218 11)) ∧ (σ11.1 218 12 = (σ0.1 218 12)) ∧ (σ11.1 218 13 = (σ0.1 218 13)) ∧ (σ11.1 218 14 = (σ0.1 218 14)) ∧ (σ11.1 218 15 = (σ0.1 218 15)) ∧ (σ11.1 218 20 = (σ0.1 218 20)) ∧ (σ11.1 218 25 = (σ0.1 218 25)) from ⟨hT, (by exact ⟨hP, hO9⟩), hK, hB, g7_σ11, g9_σ11, g10_σ11, g11_σ11, g12_σ11, g13_σ11, g14_σ11, g15_σ11, g20_σ11, g25_σ11⟩) (show (σ11.1 218 22).toInt.toNat < (σ1.1 218 22).toInt.toNat from (by omega))
end Zq7_7
section Zq7_8
theorem rk0 {w : Int32} (h : (rkI w).toInt < 1) : w = 100 := by
  by_cases q : w = 100
  · exact q
  · exfalso
    unfold rkI at h
    rw [if_neg q] at h
    by_cases a : w < 50
    · rw [if_pos a] at h
      by_cases b : w = 0
      · rw [if_pos b] at h; exact absurd h (by decide)
      · rw [if_neg b] at h
        by_cases c : w = 1
        · rw [if_pos c] at h; exact absurd h (by decide)
        · rw [if_neg c] at h; exact absurd h (by decide)
    · rw [if_neg a] at h; exact absurd h (by decide)
theorem Stk_top2 {g : Nat → Int32} {a : Int32} {b d r : Nat} {p : Int} (h : Stk g a.toInt.toNat b d r) (h0 : 0 ≤ a.toInt) (h1 : 1 ≤ p) (hx : a.toInt ≤ 0 ∨ (rkI (g (a - 1).toNatClampNeg)).toInt < p) : (r : Int) < p := by
  have hb := Stk_b h
  have := a.toInt_lt
  refine Stk_top h h1 ?_
  rcases hx with hx | hx
  · exact Or.inl (by omega)
  · by_cases q : a.toInt = 0
    · exact Or.inl (by omega)
    · refine Or.inr ⟨a.toInt.toNat - 1, by omega, ?_⟩
      have e : (a - 1).toNatClampNeg = a.toInt.toNat - 1 := by
        show (a - 1).toInt.toNat = _
        rw [ti_sub]; simp only [Int32.reduceToInt]; omega
      rw [e] at hx; exact hx
theorem mu1 {f f' : Int} {a a' m m' : Int32} (hf : f ≤ f') (h6 : f' ≤ 600) (ha : a = 0) (hm : ¬ m = 0) (h : a' = 0 → f < f' ∨ m' = 0) : (600 - f').toNat + (if a' = 0 then 1 else 0) + (if m' = 0 then 0 else 1) < (600 - f).toNat + (if a = 0 then 1 else 0) + (if m = 0 then 0 else 1) := by
  rw [if_pos ha, if_neg hm]
  by_cases q : a' = 0
  · rw [if_pos q]
    by_cases r : m' = 0
    · rw [if_pos r]; omega
    · rw [if_neg r]
      have := (h q).resolve_right r
      omega
  · rw [if_neg q]
    split <;> omega

set_option maxHeartbeats 4000000 in
set_option maxRecDepth 100000 in
theorem s_X12_opens {N : Nat} (hN : 1048576 ≤ N) {x1 : Int32} {σ0 : zS}  (hR : RF σ0.2.2) (hK : TOK σ0.1) (hY : BYT (σ0.1 224)) (hP : PIL σ0.1 0) (hx : 50 ≤ x1.toInt ∧ x1.toInt ≤ 100) (h12 : ¬ σ0.1 218 12 = 0) : Ok (f_X12_opens N 218 x1 σ0) (fun r => Tr [218, 230] σ0 r.2 ∧ ((TOK r.2.1 ∧ (σ0.1 218 11).toInt ≤ (r.2.1 218 11).toInt ∧ (0 ≤ (r.2.1 218 22).toInt ∧ (r.2.1 218 22).toInt ≤ 40) ∧ (r.2.1 218 14 = 0 → σ0.1 218 14 = 0 ∧ (σ0.1 218 11).toInt < (r.2.1 218 11).toInt ∧ PIL r.2.1 0)) ∧ (r.2.1 218 7 = σ0.1 218 7 ∧ r.2.1 218 9 = σ0.1 218 9 ∧ r.2.1 218 20 = σ0.1 218 20 ∧ r.2.1 218 23 = σ0.1 218 23 ∧ r.2.1 218 25 = σ0.1 218 25))) := by
  have hT : Tr [218, 230] σ0 σ0 := Tr.rf
  have hK1 := hK.1
  have hb0 := PIL_b hP (by decide)
  have l12 := hK.2.1 h12
  obtain ⟨b8, d8, r8, hS, h22, hd, hd6, hp⟩ := hP
  have j22 : (σ0.1 218 22).toNatClampNeg = (σ0.1 218 22).toInt.toNat := rfl
  have s22 : ((σ0.1 218 22) + 1).toInt = (σ0.1 218 22).toInt + 1 := by rw [ti_add]; simp only [Int32.reduceToInt]; omega
  have s24 : ((σ0.1 218 24) + 1).toInt = ((d8 + 1 : Nat) : Int) := by rw [ti_add]; simp only [Int32.reduceToInt]; omega
  rw [f_X12_opens.eq_1]
  refine ok_gI rfl ?_
  refine ok_if (fun hc2 => ?_) (fun hc2 => ?_)
  · refine ok_gC rfl ?_
    refine ok_zbT (Q := fun V σ => (TOK σ.1 ∧ ¬ σ.1 218 14 = 0) ∧ (σ.1 218 7 = σ0.1 218 7 ∧ σ.1 218 9 = σ0.1 218 9 ∧ σ.1 218 10 = σ0.1 218 10 ∧ σ.1 218 11 = σ0.1 218 11 ∧ σ.1 218 12 = σ0.1 218 12 ∧ σ.1 218 13 = σ0.1 218 13 ∧ σ.1 218 20 = σ0.1 218 20 ∧ σ.1 218 22 = σ0.1 218 22 ∧ σ.1 218 23 = σ0.1 218 23 ∧ σ.1 218 24 = σ0.1 218 24 ∧ σ.1 218 25 = σ0.1 218 25)) hT (s_X12_errs hN (hR.tr hT) (hK) (by rw [hT.2 224 (by decide)]; exact hY) (by decide)) (by decide) (fun v3 σ4 hOσ4 hT hqv3 => ?_)
    have hqv3 : (TOK σ4.1 ∧ ¬ σ4.1 218 14 = 0) ∧ (σ4.1 218 7 = σ0.1 218 7 ∧ σ4.1 218 9 = σ0.1 218 9 ∧ σ4.1 218 10 = σ0.1 218 10 ∧ σ4.1 218 11 = σ0.1 218 11 ∧ σ4.1 218 12 = σ0.1 218 12 ∧ σ4.1 218 13 = σ0.1 218 13 ∧ σ4.1 218 20 = σ0.1 218 20 ∧ σ4.1 218 22 = σ0.1 218 22 ∧ σ4.1 218 23 = σ0.1 218 23 ∧ σ4.1 218 24 = σ0.1 218 24 ∧ σ4.1 218 25 = σ0.1 218 25) := hqv3
    have hkv3 := hqv3
    have hqv3 := hqv3.1
    have r230_σ4 : σ4.1 230 = σ0.1 230 := hOσ4.2 230 (by decide)
    have hK : TOK σ4.1 := by first | exact hqv3.1 | exact TOK_p eσ4 (by decide) hK
    have g7_σ4 : σ4.1 218 7 = (σ0.1 218 7) := hkv3.2.1
    have g9_σ4 : σ4.1 218 9 = (σ0.1 218 9) := hkv3.2.2.1
    have g10_σ4 : σ4.1 218 10 = (σ0.1 218 10) := hkv3.2.2.2.1
    have g11_σ4 : σ4.1 218 11 = (σ0.1 218 11) := hkv3.2.2.2.2.1
    have g12_σ4 : σ4.1 218 12 = (σ0.1 218 12) := hkv3.2.2.2.2.2.1
    have g13_σ4 : σ4.1 218 13 = (σ0.1 218 13) := hkv3.2.2.2.2.2.2.1
    have g20_σ4 : σ4.1 218 20 = (σ0.1 218 20) := hkv3.2.2.2.2.2.2.2.1
    have g22_σ4 : σ4.1 218 22 = (σ0.1 218 22) := hkv3.2.2.2.2.2.2.2.2.1
    have g23_σ4 : σ4.1 218 23 = (σ0.1 218 23) := hkv3.2.2.2.2.2.2.2.2.2.1
    have g24_σ4 : σ4.1 218 24 = (σ0.1 218 24) := hkv3.2.2.2.2.2.2.2.2.2.2.1
    have g25_σ4 : σ4.1 218 25 = (σ0.1 218 25) := hkv3.2.2.2.2.2.2.2.2.2.2.2
    have n11 := hqv3.2
    rw [J_X12_opens_14.eq_1]
    refine ok_gC rfl ?_
    refine ok_zbX (Q := fun V => (V = 0 → ¬ σ4.1 218 14 = 0) ∧ (¬ V = 0 → σ4.1 218 14 = 0)) (x_X12_good) (fun v5 hqv5 => ?_)
    have hqv5 : (v5 = 0 → ¬ σ4.1 218 14 = 0) ∧ (¬ v5 = 0 → σ4.1 218 14 = 0) := hqv5
    try simp only [g7_σ4, g9_σ4, g10_σ4, g11_σ4, g12_σ4, g13_σ4, g20_σ4, g22_σ4, g23_σ4, g24_σ4, g25_σ4, hT.2 224 (by decide)] at hqv5
    refine ok_if (fun hc7 => ?_) (fun hc7 => ?_)
    · have qhc7 := hqv5.1 hc7
      have n18 := qhc7
      exact ok_some ⟨hT, (show (TOK σ4.1 ∧ (σ0.1 218 11).toInt ≤ (σ4.1 218 11).toInt ∧ (0 ≤ (σ4.1 218 22).toInt ∧ (σ4.1 218 22).toInt ≤ 40) ∧ (σ4.1 218 14 = 0 → σ0.1 218 14 = 0 ∧ (σ0.1 218 11).toInt < (σ4.1 218 11).toInt ∧ PIL σ4.1 0)) ∧ (σ4.1 218 7 = σ0.1 218 7 ∧ σ4.1 218 9 = σ0.1 218 9 ∧ σ4.1 218 20 = σ0.1 218 20 ∧ σ4.1 218 23 = σ0.1 218 23 ∧ σ4.1 218 25 = σ0.1 218 25) from ⟨by first | exact ⟨hK, by (try simp only [g7_σ4, g9_σ4, g10_σ4, g11_σ4, g12_σ4, g13_σ4, g20_σ4, g22_σ4, g23_σ4, g24_σ4, g25_σ4]); omega, by (try simp only [g7_σ4, g9_σ4, g10_σ4, g11_σ4, g12_σ4, g13_σ4, g20_σ4, g22_σ4, g23_σ4, g24_σ4, g25_σ4]); omega, fun q => absurd q (by (try simp only [g7_σ4, g9_σ4, g10_σ4, g11_σ4, g12_σ4, g13_σ4, g20_σ4, g22_σ4, g23_σ4, g24_σ4, g25_σ4]); exact n18)⟩ | exact ⟨hK, by (try simp only [g7_σ4, g9_σ4, g10_σ4, g11_σ4, g12_σ4, g13_σ4, g20_σ4, g22_σ4, g23_σ4, g24_σ4, g25_σ4]); omega, by (try simp only [g7_σ4, g9_σ4, g10_σ4, g11_σ4, g12_σ4, g13_σ4, g20_σ4, g22_σ4, g23_σ4, g24_σ4, g25_σ4]); rw [s22]; omega, fun _ => ⟨y18, by (try simp only [g7_σ4, g9_σ4, g10_σ4, g11_σ4, g12_σ4, g13_σ4, g20_σ4, g22_σ4, g23_σ4, g24_σ4, g25_σ4]); omega, PIL_i g22_σ4 g23_σ4 g24_σ4 r230_σ4 (by rw [show ((σ0.1 218 22) + 1).toInt.toNat = (σ0.1 218 22).toInt.toNat + 1 by rw [s22]; omega]; exact k45) (by rw [s22]; omega) s24 (by omega) hp⟩⟩ | exact absurd y18 n11, g7_σ4, g9_σ4, g20_σ4, g23_σ4, g25_σ4⟩)⟩
    · have qhc7 := hqv5.2 hc7
      have y18 := qhc7
      refine ok_gC rfl ?_
      refine ok_zbT (Q := fun V σ => (TOK σ.1 ∧ (σ4.1 218 10).toInt ≤ (σ.1 218 11).toInt) ∧ (σ.1 218 7 = σ4.1 218 7 ∧ σ.1 218 9 = σ4.1 218 9 ∧ σ.1 218 14 = σ4.1 218 14 ∧ σ.1 218 15 = σ4.1 218 15 ∧ σ.1 218 20 = σ4.1 218 20 ∧ σ.1 218 22 = σ4.1 218 22 ∧ σ.1 218 23 = σ4.1 218 23 ∧ σ.1 218 24 = σ4.1 218 24 ∧ σ.1 218 25 = σ4.1 218 25)) hT (s_X12_advance hN (hR.tr hT) (TOK_A hK) (by rw [hT.2 224 (by decide)]; exact hY)) (by decide) (fun v8 σ9 hOσ9 hT hqv8 => ?_)
      have hqv8 : (TOK σ9.1 ∧ (σ4.1 218 10).toInt ≤ (σ9.1 218 11).toInt) ∧ (σ9.1 218 7 = σ4.1 218 7 ∧ σ9.1 218 9 = σ4.1 218 9 ∧ σ9.1 218 14 = σ4.1 218 14 ∧ σ9.1 218 15 = σ4.1 218 15 ∧ σ9.1 218 20 = σ4.1 218 20 ∧ σ9.1 218 22 = σ4.1 218 22 ∧ σ9.1 218 23 = σ4.1 218 23 ∧ σ9.1 218 24 = σ4.1 218 24 ∧ σ9.1 218 25 = σ4.1 218 25) := hqv8
      have hkv8 := hqv8
      have hqv8 := hqv8.1
      have r230_σ9 : σ9.1 230 = σ0.1 230 := (hOσ9.2 230 (by decide)).trans r230_σ4
      have hK : TOK σ9.1 := by first | exact hqv8.1 | exact TOK_p eσ9 (by decide) hK
      try simp only [g7_σ4, g9_σ4, g10_σ4, g11_σ4, g12_σ4, g13_σ4, g20_σ4, g22_σ4, g23_σ4, g24_σ4, g25_σ4] at hqv8
      have g7_σ9 : σ9.1 218 7 = (σ0.1 218 7) := (hkv8.2.1).trans g7_σ4
      have g9_σ9 : σ9.1 218 9 = (σ0.1 218 9) := (hkv8.2.2.1).trans g9_σ4
      have g14_σ9 : σ9.1 218 14 = (σ4.1 218 14) := hkv8.2.2.2.1
      have g15_σ9 : σ9.1 218 15 = (σ4.1 218 15) := hkv8.2.2.2.2.1
      have g20_σ9 : σ9.1 218 20 = (σ0.1 218 20) := (hkv8.2.2.2.2.2.1).trans g20_σ4
      have g22_σ9 : σ9.1 218 22 = (σ0.1 218 22) := (hkv8.2.2.2.2.2.2.1).trans g22_σ4
      have g23_σ9 : σ9.1 218 23 = (σ0.1 218 23) := (hkv8.2.2.2.2.2.2.2.1).trans g23_σ4
      have g24_σ9 : σ9.1 218 24 = (σ0.1 218 24) := (hkv8.2.2.2.2.2.2.2.2.1).trans g24_σ4
      have g25_σ9 : σ9.1 218 25 = (σ0.1 218 25) := (hkv8.2.2.2.2.2.2.2.2.2).trans g25_σ4
      have m23 := hqv8.2
      refine ok_gIv rfl g24_σ9 ?_
      refine ok_pI hT rfl (by decide) (fun σ11 eσ11 hOσ11 hT => ?_)
      have r230_σ11 : σ11.1 230 = σ0.1 230 := (hOσ11.2 230 (by decide)).trans r230_σ9
      have hK : TOK σ11.1 := by first | exact HQ.1 | exact TOK_p eσ11 (by decide) hK
      have g7_σ11 : σ11.1 218 7 = (σ0.1 218 7) := (zI_atN eσ11 (by decide)).trans g7_σ9
      have g9_σ11 : σ11.1 218 9 = (σ0.1 218 9) := (zI_atN eσ11 (by decide)).trans g9_σ9
      have g10_σ11 : σ11.1 218 10 = (σ9.1 218 10) := zI_atN eσ11 (by decide)
      have g11_σ11 : σ11.1 218 11 = (σ9.1 218 11) := zI_atN eσ11 (by decide)
      have g12_σ11 : σ11.1 218 12 = (σ9.1 218 12) := zI_atN eσ11 (by decide)
      have g13_σ11 : σ11.1 218 13 = (σ9.1 218 13) := zI_atN eσ11 (by decide)
      have g14_σ11 : σ11.1 218 14 = (σ4.1 218 14) := (zI_atN eσ11 (by decide)).trans g14_σ9
      have g15_σ11 : σ11.1 218 15 = (σ4.1 218 15) := (zI_atN eσ11 (by decide)).trans g15_σ9
      have g20_σ11 : σ11.1 218 20 = (σ0.1 218 20) := (zI_atN eσ11 (by decide)).trans g20_σ9
      have g22_σ11 : σ11.1 218 22 = (σ0.1 218 22) := (zI_atN eσ11 (by decide)).trans g22_σ9
      have g23_σ11 : σ11.1 218 23 = (σ0.1 218 23) := (zI_atN eσ11 (by decide)).trans g23_σ9
      have g24_σ11 : σ11.1 218 24 = ((σ0.1 218 24) + 1) := zI_atI eσ11
      have g25_σ11 : σ11.1 218 25 = (σ0.1 218 25) := (zI_atN eσ11 (by decide)).trans g25_σ9
      refine ok_gR (v := 230) hT rfl (hR 218 21 rfl) ?_
      refine ok_gIv rfl g22_σ11 ?_
      refine ok_s14 hT rfl (by decide) (by ((try simp only [g7_σ11, g9_σ11, g10_σ11, g11_σ11, g12_σ11, g13_σ11, g14_σ11, g15_σ11, g20_σ11, g22_σ11, g23_σ11, g24_σ11, g25_σ11])); first | omega | decide | (simp only [Int32.le_iff_toInt_le, Int32.lt_iff_toInt_lt, ti_add, ti_sub, ti_mul, Int32.reduceToInt] at *; omega)) (by ((try simp only [g7_σ11, g9_σ11, g10_σ11, g11_σ11, g12_σ11, g13_σ11, g14_σ11, g15_σ11, g20_σ11, g22_σ11, g23_σ11, g24_σ11, g25_σ11])); first | omega | decide | (simp only [Int32.le_iff_toInt_le, Int32.lt_iff_toInt_lt, ti_add, ti_sub, ti_mul, Int32.reduceToInt] at *; omega)) (fun σ14 eσ14 hOσ14 hT => ?_)
      have a45 := zI_atI eσ14
      have k45 : Stk (σ14.1 230) ((σ0.1 218 22).toInt.toNat + 1) b8 (d8 + 1) 0 := Stk_open hS (fun k hk => by rw [zI_atN eσ14 (by rw [j22]; omega)]; exact congrFun r230_σ11 k) (by rw [← j22, a45]; exact hx)
      have hK : TOK σ14.1 := TOK_tr hOσ14 (by decide) (by decide) hK
      have g7_σ14 : σ14.1 218 7 = (σ0.1 218 7) := (congrFun (hOσ14.2 218 (by decide)) 7).trans g7_σ11
      have g9_σ14 : σ14.1 218 9 = (σ0.1 218 9) := (congrFun (hOσ14.2 218 (by decide)) 9).trans g9_σ11
      have g10_σ14 : σ14.1 218 10 = (σ9.1 218 10) := (congrFun (hOσ14.2 218 (by decide)) 10).trans g10_σ11
      have g11_σ14 : σ14.1 218 11 = (σ9.1 218 11) := (congrFun (hOσ14.2 218 (by decide)) 11).trans g11_σ11
      have g12_σ14 : σ14.1 218 12 = (σ9.1 218 12) := (congrFun (hOσ14.2 218 (by decide)) 12).trans g12_σ11
      have g13_σ14 : σ14.1 218 13 = (σ9.1 218 13) := (congrFun (hOσ14.2 218 (by decide)) 13).trans g13_σ11
      have g14_σ14 : σ14.1 218 14 = (σ4.1 218 14) := (congrFun (hOσ14.2 218 (by decide)) 14).trans g14_σ11
      have g15_σ14 : σ14.1 218 15 = (σ4.1 218 15) := (congrFun (hOσ14.2 218 (by decide)) 15).trans g15_σ11
      have g20_σ14 : σ14.1 218 20 = (σ0.1 218 20) := (congrFun (hOσ14.2 218 (by decide)) 20).trans g20_σ11
      have g22_σ14 : σ14.1 218 22 = (σ0.1 218 22) := (congrFun (hOσ14.2 218 (by decide)) 22).trans g22_σ11
      have g23_σ14 : σ14.1 218 23 = (σ0.1 218 23) := (congrFun (hOσ14.2 218 (by decide)) 23).trans g23_σ11
      have g24_σ14 : σ14.1 218 24 = ((σ0.1 218 24) + 1) := (congrFun (hOσ14.2 218 (by decide)) 24).trans g24_σ11
      have g25_σ14 : σ14.1 218 25 = (σ0.1 218 25) := (congrFun (hOσ14.2 218 (by decide)) 25).trans g25_σ11
      refine ok_gIv rfl g22_σ14 ?_
      refine ok_pI hT rfl (by decide) (fun σ16 eσ16 hOσ16 hT => ?_)
      have r230_σ16 : σ16.1 230 = σ14.1 230 := hOσ16.2 230 (by decide)
      have hK : TOK σ16.1 := by first | exact HQ.1 | exact TOK_p eσ16 (by decide) hK
      have g7_σ16 : σ16.1 218 7 = (σ0.1 218 7) := (zI_atN eσ16 (by decide)).trans g7_σ14
      have g9_σ16 : σ16.1 218 9 = (σ0.1 218 9) := (zI_atN eσ16 (by decide)).trans g9_σ14
      have g10_σ16 : σ16.1 218 10 = (σ9.1 218 10) := (zI_atN eσ16 (by decide)).trans g10_σ14
      have g11_σ16 : σ16.1 218 11 = (σ9.1 218 11) := (zI_atN eσ16 (by decide)).trans g11_σ14
      have g12_σ16 : σ16.1 218 12 = (σ9.1 218 12) := (zI_atN eσ16 (by decide)).trans g12_σ14
      have g13_σ16 : σ16.1 218 13 = (σ9.1 218 13) := (zI_atN eσ16 (by decide)).trans g13_σ14
      have g14_σ16 : σ16.1 218 14 = (σ4.1 218 14) := (zI_atN eσ16 (by decide)).trans g14_σ14
      have g15_σ16 : σ16.1 218 15 = (σ4.1 218 15) := (zI_atN eσ16 (by decide)).trans g15_σ14
      have g20_σ16 : σ16.1 218 20 = (σ0.1 218 20) := (zI_atN eσ16 (by decide)).trans g20_σ14
      have g22_σ16 : σ16.1 218 22 = ((σ0.1 218 22) + 1) := zI_atI eσ16
      have g23_σ16 : σ16.1 218 23 = (σ0.1 218 23) := (zI_atN eσ16 (by decide)).trans g23_σ14
      have g24_σ16 : σ16.1 218 24 = ((σ0.1 218 24) + 1) := (zI_atN eσ16 (by decide)).trans g24_σ14
      have g25_σ16 : σ16.1 218 25 = (σ0.1 218 25) := (zI_atN eσ16 (by decide)).trans g25_σ14
      exact ok_some ⟨hT, (show (TOK σ16.1 ∧ (σ0.1 218 11).toInt ≤ (σ16.1 218 11).toInt ∧ (0 ≤ (σ16.1 218 22).toInt ∧ (σ16.1 218 22).toInt ≤ 40) ∧ (σ16.1 218 14 = 0 → σ0.1 218 14 = 0 ∧ (σ0.1 218 11).toInt < (σ16.1 218 11).toInt ∧ PIL σ16.1 0)) ∧ (σ16.1 218 7 = σ0.1 218 7 ∧ σ16.1 218 9 = σ0.1 218 9 ∧ σ16.1 218 20 = σ0.1 218 20 ∧ σ16.1 218 23 = σ0.1 218 23 ∧ σ16.1 218 25 = σ0.1 218 25) from ⟨by first | exact ⟨hK, by (try simp only [g7_σ16, g9_σ16, g10_σ16, g11_σ16, g12_σ16, g13_σ16, g14_σ16, g15_σ16, g20_σ16, g22_σ16, g23_σ16, g24_σ16, g25_σ16]); omega, by (try simp only [g7_σ16, g9_σ16, g10_σ16, g11_σ16, g12_σ16, g13_σ16, g14_σ16, g15_σ16, g20_σ16, g22_σ16, g23_σ16, g24_σ16, g25_σ16]); omega, fun q => absurd q (by (try simp only [g7_σ16, g9_σ16, g10_σ16, g11_σ16, g12_σ16, g13_σ16, g14_σ16, g15_σ16, g20_σ16, g22_σ16, g23_σ16, g24_σ16, g25_σ16]); exact n18)⟩ | exact ⟨hK, by (try simp only [g7_σ16, g9_σ16, g10_σ16, g11_σ16, g12_σ16, g13_σ16, g14_σ16, g15_σ16, g20_σ16, g22_σ16, g23_σ16, g24_σ16, g25_σ16]); omega, by (try simp only [g7_σ16, g9_σ16, g10_σ16, g11_σ16, g12_σ16, g13_σ16, g14_σ16, g15_σ16, g20_σ16, g22_σ16, g23_σ16, g24_σ16, g25_σ16]); rw [s22]; omega, fun _ => ⟨y18, by (try simp only [g7_σ16, g9_σ16, g10_σ16, g11_σ16, g12_σ16, g13_σ16, g14_σ16, g15_σ16, g20_σ16, g22_σ16, g23_σ16, g24_σ16, g25_σ16]); omega, PIL_i g22_σ16 g23_σ16 g24_σ16 r230_σ16 (by rw [show ((σ0.1 218 22) + 1).toInt.toNat = (σ0.1 218 22).toInt.toNat + 1 by rw [s22]; omega]; exact k45) (by rw [s22]; omega) s24 (by omega) hp⟩⟩ | exact absurd y18 n11, g7_σ16, g9_σ16, g20_σ16, g23_σ16, g25_σ16⟩)⟩
  · have n6 := hc2
    have d6 : d8 ≠ 6 := fun e => n6 (Int32.toInt_inj.mp (by rw [hd, e]; rfl))
    rw [J_X12_opens_14.eq_1]
    refine ok_gC rfl ?_
    refine ok_zbX (Q := fun V => (V = 0 → ¬ σ0.1 218 14 = 0) ∧ (¬ V = 0 → σ0.1 218 14 = 0)) (x_X12_good) (fun v17 hqv17 => ?_)
    have hqv17 : (v17 = 0 → ¬ σ0.1 218 14 = 0) ∧ (¬ v17 = 0 → σ0.1 218 14 = 0) := hqv17
    refine ok_if (fun hc19 => ?_) (fun hc19 => ?_)
    · have qhc19 := hqv17.1 hc19
      have n18 := qhc19
      exact ok_some ⟨hT, (show (TOK σ0.1 ∧ (σ0.1 218 11).toInt ≤ (σ0.1 218 11).toInt ∧ (0 ≤ (σ0.1 218 22).toInt ∧ (σ0.1 218 22).toInt ≤ 40) ∧ (σ0.1 218 14 = 0 → σ0.1 218 14 = 0 ∧ (σ0.1 218 11).toInt < (σ0.1 218 11).toInt ∧ PIL σ0.1 0)) ∧ (σ0.1 218 7 = σ0.1 218 7 ∧ σ0.1 218 9 = σ0.1 218 9 ∧ σ0.1 218 20 = σ0.1 218 20 ∧ σ0.1 218 23 = σ0.1 218 23 ∧ σ0.1 218 25 = σ0.1 218 25) from ⟨by first | exact ⟨hK, by skip; omega, by skip; omega, fun q => absurd q (by skip; exact n18)⟩ | exact ⟨hK, by skip; omega, by skip; rw [s22]; omega, fun _ => ⟨y18, by skip; omega, PIL_i rfl rfl rfl rfl (by rw [show ((σ0.1 218 22) + 1).toInt.toNat = (σ0.1 218 22).toInt.toNat + 1 by rw [s22]; omega]; exact k45) (by rw [s22]; omega) s24 (by omega) hp⟩⟩ | exact absurd y18 n11, rfl, rfl, rfl, rfl, rfl⟩)⟩
    · have qhc19 := hqv17.2 hc19
      have y18 := qhc19
      refine ok_gC rfl ?_
      refine ok_zbT (Q := fun V σ => (TOK σ.1 ∧ (σ0.1 218 10).toInt ≤ (σ.1 218 11).toInt) ∧ (σ.1 218 7 = σ0.1 218 7 ∧ σ.1 218 9 = σ0.1 218 9 ∧ σ.1 218 14 = σ0.1 218 14 ∧ σ.1 218 15 = σ0.1 218 15 ∧ σ.1 218 20 = σ0.1 218 20 ∧ σ.1 218 22 = σ0.1 218 22 ∧ σ.1 218 23 = σ0.1 218 23 ∧ σ.1 218 24 = σ0.1 218 24 ∧ σ.1 218 25 = σ0.1 218 25)) hT (s_X12_advance hN (hR.tr hT) (TOK_A hK) (by rw [hT.2 224 (by decide)]; exact hY)) (by decide) (fun v20 σ21 hOσ21 hT hqv20 => ?_)
      have hqv20 : (TOK σ21.1 ∧ (σ0.1 218 10).toInt ≤ (σ21.1 218 11).toInt) ∧ (σ21.1 218 7 = σ0.1 218 7 ∧ σ21.1 218 9 = σ0.1 218 9 ∧ σ21.1 218 14 = σ0.1 218 14 ∧ σ21.1 218 15 = σ0.1 218 15 ∧ σ21.1 218 20 = σ0.1 218 20 ∧ σ21.1 218 22 = σ0.1 218 22 ∧ σ21.1 218 23 = σ0.1 218 23 ∧ σ21.1 218 24 = σ0.1 218 24 ∧ σ21.1 218 25 = σ0.1 218 25) := hqv20
      have hkv20 := hqv20
      have hqv20 := hqv20.1
      have r230_σ21 : σ21.1 230 = σ0.1 230 := hOσ21.2 230 (by decide)
      have hK : TOK σ21.1 := by first | exact hqv20.1 | exact TOK_p eσ21 (by decide) hK
      have g7_σ21 : σ21.1 218 7 = (σ0.1 218 7) := hkv20.2.1
      have g9_σ21 : σ21.1 218 9 = (σ0.1 218 9) := hkv20.2.2.1
      have g14_σ21 : σ21.1 218 14 = (σ0.1 218 14) := hkv20.2.2.2.1
      have g15_σ21 : σ21.1 218 15 = (σ0.1 218 15) := hkv20.2.2.2.2.1
      have g20_σ21 : σ21.1 218 20 = (σ0.1 218 20) := hkv20.2.2.2.2.2.1
      have g22_σ21 : σ21.1 218 22 = (σ0.1 218 22) := hkv20.2.2.2.2.2.2.1
      have g23_σ21 : σ21.1 218 23 = (σ0.1 218 23) := hkv20.2.2.2.2.2.2.2.1
      have g24_σ21 : σ21.1 218 24 = (σ0.1 218 24) := hkv20.2.2.2.2.2.2.2.2.1
      have g25_σ21 : σ21.1 218 25 = (σ0.1 218 25) := hkv20.2.2.2.2.2.2.2.2.2
      have m23 := hqv20.2
      refine ok_gIv rfl g24_σ21 ?_
      refine ok_pI hT rfl (by decide) (fun σ23 eσ23 hOσ23 hT => ?_)
      have r230_σ23 : σ23.1 230 = σ0.1 230 := (hOσ23.2 230 (by decide)).trans r230_σ21
      have hK : TOK σ23.1 := by first | exact HQ.1 | exact TOK_p eσ23 (by decide) hK
      have g7_σ23 : σ23.1 218 7 = (σ0.1 218 7) := (zI_atN eσ23 (by decide)).trans g7_σ21
      have g9_σ23 : σ23.1 218 9 = (σ0.1 218 9) := (zI_atN eσ23 (by decide)).trans g9_σ21
      have g10_σ23 : σ23.1 218 10 = (σ21.1 218 10) := zI_atN eσ23 (by decide)
      have g11_σ23 : σ23.1 218 11 = (σ21.1 218 11) := zI_atN eσ23 (by decide)
      have g12_σ23 : σ23.1 218 12 = (σ21.1 218 12) := zI_atN eσ23 (by decide)
      have g13_σ23 : σ23.1 218 13 = (σ21.1 218 13) := zI_atN eσ23 (by decide)
      have g14_σ23 : σ23.1 218 14 = (σ0.1 218 14) := (zI_atN eσ23 (by decide)).trans g14_σ21
      have g15_σ23 : σ23.1 218 15 = (σ0.1 218 15) := (zI_atN eσ23 (by decide)).trans g15_σ21
      have g20_σ23 : σ23.1 218 20 = (σ0.1 218 20) := (zI_atN eσ23 (by decide)).trans g20_σ21
      have g22_σ23 : σ23.1 218 22 = (σ0.1 218 22) := (zI_atN eσ23 (by decide)).trans g22_σ21
      have g23_σ23 : σ23.1 218 23 = (σ0.1 218 23) := (zI_atN eσ23 (by decide)).trans g23_σ21
      have g24_σ23 : σ23.1 218 24 = ((σ0.1 218 24) + 1) := zI_atI eσ23
      have g25_σ23 : σ23.1 218 25 = (σ0.1 218 25) := (zI_atN eσ23 (by decide)).trans g25_σ21
      refine ok_gR (v := 230) hT rfl (hR 218 21 rfl) ?_
      refine ok_gIv rfl g22_σ23 ?_
      refine ok_s14 hT rfl (by decide) (by ((try simp only [g7_σ23, g9_σ23, g10_σ23, g11_σ23, g12_σ23, g13_σ23, g14_σ23, g15_σ23, g20_σ23, g22_σ23, g23_σ23, g24_σ23, g25_σ23])); first | omega | decide | (simp only [Int32.le_iff_toInt_le, Int32.lt_iff_toInt_lt, ti_add, ti_sub, ti_mul, Int32.reduceToInt] at *; omega)) (by ((try simp only [g7_σ23, g9_σ23, g10_σ23, g11_σ23, g12_σ23, g13_σ23, g14_σ23, g15_σ23, g20_σ23, g22_σ23, g23_σ23, g24_σ23, g25_σ23])); first | omega | decide | (simp only [Int32.le_iff_toInt_le, Int32.lt_iff_toInt_lt, ti_add, ti_sub, ti_mul, Int32.reduceToInt] at *; omega)) (fun σ26 eσ26 hOσ26 hT => ?_)
      have a45 := zI_atI eσ26
      have k45 : Stk (σ26.1 230) ((σ0.1 218 22).toInt.toNat + 1) b8 (d8 + 1) 0 := Stk_open hS (fun k hk => by rw [zI_atN eσ26 (by rw [j22]; omega)]; exact congrFun r230_σ23 k) (by rw [← j22, a45]; exact hx)
      have hK : TOK σ26.1 := TOK_tr hOσ26 (by decide) (by decide) hK
      have g7_σ26 : σ26.1 218 7 = (σ0.1 218 7) := (congrFun (hOσ26.2 218 (by decide)) 7).trans g7_σ23
      have g9_σ26 : σ26.1 218 9 = (σ0.1 218 9) := (congrFun (hOσ26.2 218 (by decide)) 9).trans g9_σ23
      have g10_σ26 : σ26.1 218 10 = (σ21.1 218 10) := (congrFun (hOσ26.2 218 (by decide)) 10).trans g10_σ23
      have g11_σ26 : σ26.1 218 11 = (σ21.1 218 11) := (congrFun (hOσ26.2 218 (by decide)) 11).trans g11_σ23
      have g12_σ26 : σ26.1 218 12 = (σ21.1 218 12) := (congrFun (hOσ26.2 218 (by decide)) 12).trans g12_σ23
      have g13_σ26 : σ26.1 218 13 = (σ21.1 218 13) := (congrFun (hOσ26.2 218 (by decide)) 13).trans g13_σ23
      have g14_σ26 : σ26.1 218 14 = (σ0.1 218 14) := (congrFun (hOσ26.2 218 (by decide)) 14).trans g14_σ23
      have g15_σ26 : σ26.1 218 15 = (σ0.1 218 15) := (congrFun (hOσ26.2 218 (by decide)) 15).trans g15_σ23
      have g20_σ26 : σ26.1 218 20 = (σ0.1 218 20) := (congrFun (hOσ26.2 218 (by decide)) 20).trans g20_σ23
      have g22_σ26 : σ26.1 218 22 = (σ0.1 218 22) := (congrFun (hOσ26.2 218 (by decide)) 22).trans g22_σ23
      have g23_σ26 : σ26.1 218 23 = (σ0.1 218 23) := (congrFun (hOσ26.2 218 (by decide)) 23).trans g23_σ23
      have g24_σ26 : σ26.1 218 24 = ((σ0.1 218 24) + 1) := (congrFun (hOσ26.2 218 (by decide)) 24).trans g24_σ23
      have g25_σ26 : σ26.1 218 25 = (σ0.1 218 25) := (congrFun (hOσ26.2 218 (by decide)) 25).trans g25_σ23
      refine ok_gIv rfl g22_σ26 ?_
      refine ok_pI hT rfl (by decide) (fun σ28 eσ28 hOσ28 hT => ?_)
      have r230_σ28 : σ28.1 230 = σ26.1 230 := hOσ28.2 230 (by decide)
      have hK : TOK σ28.1 := by first | exact HQ.1 | exact TOK_p eσ28 (by decide) hK
      have g7_σ28 : σ28.1 218 7 = (σ0.1 218 7) := (zI_atN eσ28 (by decide)).trans g7_σ26
      have g9_σ28 : σ28.1 218 9 = (σ0.1 218 9) := (zI_atN eσ28 (by decide)).trans g9_σ26
      have g10_σ28 : σ28.1 218 10 = (σ21.1 218 10) := (zI_atN eσ28 (by decide)).trans g10_σ26
      have g11_σ28 : σ28.1 218 11 = (σ21.1 218 11) := (zI_atN eσ28 (by decide)).trans g11_σ26
      have g12_σ28 : σ28.1 218 12 = (σ21.1 218 12) := (zI_atN eσ28 (by decide)).trans g12_σ26
      have g13_σ28 : σ28.1 218 13 = (σ21.1 218 13) := (zI_atN eσ28 (by decide)).trans g13_σ26
      have g14_σ28 : σ28.1 218 14 = (σ0.1 218 14) := (zI_atN eσ28 (by decide)).trans g14_σ26
      have g15_σ28 : σ28.1 218 15 = (σ0.1 218 15) := (zI_atN eσ28 (by decide)).trans g15_σ26
      have g20_σ28 : σ28.1 218 20 = (σ0.1 218 20) := (zI_atN eσ28 (by decide)).trans g20_σ26
      have g22_σ28 : σ28.1 218 22 = ((σ0.1 218 22) + 1) := zI_atI eσ28
      have g23_σ28 : σ28.1 218 23 = (σ0.1 218 23) := (zI_atN eσ28 (by decide)).trans g23_σ26
      have g24_σ28 : σ28.1 218 24 = ((σ0.1 218 24) + 1) := (zI_atN eσ28 (by decide)).trans g24_σ26
      have g25_σ28 : σ28.1 218 25 = (σ0.1 218 25) := (zI_atN eσ28 (by decide)).trans g25_σ26
      exact ok_some ⟨hT, (show (TOK σ28.1 ∧ (σ0.1 218 11).toInt ≤ (σ28.1 218 11).toInt ∧ (0 ≤ (σ28.1 218 22).toInt ∧ (σ28.1 218 22).toInt ≤ 40) ∧ (σ28.1 218 14 = 0 → σ0.1 218 14 = 0 ∧ (σ0.1 218 11).toInt < (σ28.1 218 11).toInt ∧ PIL σ28.1 0)) ∧ (σ28.1 218 7 = σ0.1 218 7 ∧ σ28.1 218 9 = σ0.1 218 9 ∧ σ28.1 218 20 = σ0.1 218 20 ∧ σ28.1 218 23 = σ0.1 218 23 ∧ σ28.1 218 25 = σ0.1 218 25) from ⟨by first | exact ⟨hK, by (try simp only [g7_σ28, g9_σ28, g10_σ28, g11_σ28, g12_σ28, g13_σ28, g14_σ28, g15_σ28, g20_σ28, g22_σ28, g23_σ28, g24_σ28, g25_σ28]); omega, by (try simp only [g7_σ28, g9_σ28, g10_σ28, g11_σ28, g12_σ28, g13_σ28, g14_σ28, g15_σ28, g20_σ28, g22_σ28, g23_σ28, g24_σ28, g25_σ28]); omega, fun q => absurd q (by (try simp only [g7_σ28, g9_σ28, g10_σ28, g11_σ28, g12_σ28, g13_σ28, g14_σ28, g15_σ28, g20_σ28, g22_σ28, g23_σ28, g24_σ28, g25_σ28]); exact n18)⟩ | exact ⟨hK, by (try simp only [g7_σ28, g9_σ28, g10_σ28, g11_σ28, g12_σ28, g13_σ28, g14_σ28, g15_σ28, g20_σ28, g22_σ28, g23_σ28, g24_σ28, g25_σ28]); omega, by (try simp only [g7_σ28, g9_σ28, g10_σ28, g11_σ28, g12_σ28, g13_σ28, g14_σ28, g15_σ28, g20_σ28, g22_σ28, g23_σ28, g24_σ28, g25_σ28]); rw [s22]; omega, fun _ => ⟨y18, by (try simp only [g7_σ28, g9_σ28, g10_σ28, g11_σ28, g12_σ28, g13_σ28, g14_σ28, g15_σ28, g20_σ28, g22_σ28, g23_σ28, g24_σ28, g25_σ28]); omega, PIL_i g22_σ28 g23_σ28 g24_σ28 r230_σ28 (by rw [show ((σ0.1 218 22) + 1).toInt.toNat = (σ0.1 218 22).toInt.toNat + 1 by rw [s22]; omega]; exact k45) (by rw [s22]; omega) s24 (by omega) hp⟩⟩ | exact absurd y18 n11, g7_σ28, g9_σ28, g20_σ28, g23_σ28, g25_σ28⟩)⟩

set_option maxHeartbeats 4000000 in
set_option maxRecDepth 100000 in
theorem s_X12_wordSet {N : Nat} (hN : 1048576 ≤ N) {x1 : Int32} {σ0 : zS}  (hR : RF σ0.2.2) (hK : TOK σ0.1) (hY : BYT (σ0.1 224)) (h12 : σ0.1 218 12 = 1) (hn : 0 ≤ x1.toInt ∧ x1.toInt ≤ 10) : Ok (f_X12_wordSet N 218 x1 σ0) (fun r => Tr [218] σ0 r.2 ∧ ((TOK r.2.1 ∧ (0 ≤ r.1.toInt ∧ r.1.toInt ≤ 1023) ∧ (r.2.1 218 14 = 0 → σ0.1 218 14 = 0)) ∧ (r.2.1 218 7 = σ0.1 218 7 ∧ r.2.1 218 9 = σ0.1 218 9 ∧ r.2.1 218 10 = σ0.1 218 10 ∧ r.2.1 218 11 = σ0.1 218 11 ∧ r.2.1 218 12 = σ0.1 218 12 ∧ r.2.1 218 13 = σ0.1 218 13 ∧ r.2.1 218 20 = σ0.1 218 20 ∧ r.2.1 218 22 = σ0.1 218 22 ∧ r.2.1 218 23 = σ0.1 218 23 ∧ r.2.1 218 24 = σ0.1 218 24 ∧ r.2.1 218 25 = σ0.1 218 25))) := by
  have hT : Tr [218] σ0 σ0 := Tr.rf
  have hK1 := hK.1
  have w12 := hK.2.2 h12
  rw [f_X12_wordSet.eq_1]
  refine ok_gI rfl ?_
  refine ok_lp (fun t : Int32 × Int32 × zS => Tr [218] σ0 (t.2.2) ∧ ((0 ≤ (t.1).toInt ∧ (t.1).toInt ≤ 1023) ∧ (σ0.1 218 11).toInt ≤ (t.2.1).toInt) ∧ (TOK (t.2.2).1) ∧ ((t.2.2).1 218 7 = (σ0.1 218 7)) ∧ ((t.2.2).1 218 9 = (σ0.1 218 9)) ∧ ((t.2.2).1 218 10 = (σ0.1 218 10)) ∧ ((t.2.2).1 218 11 = (σ0.1 218 11)) ∧ ((t.2.2).1 218 12 = (σ0.1 218 12)) ∧ ((t.2.2).1 218 13 = (σ0.1 218 13)) ∧ ((t.2.2).1 218 14 = (σ0.1 218 14)) ∧ ((t.2.2).1 218 15 = (σ0.1 218 15)) ∧ ((t.2.2).1 218 20 = (σ0.1 218 20)) ∧ ((t.2.2).1 218 22 = (σ0.1 218 22)) ∧ ((t.2.2).1 218 23 = (σ0.1 218 23)) ∧ ((t.2.2).1 218 24 = (σ0.1 218 24)) ∧ ((t.2.2).1 218 25 = (σ0.1 218 25))) (fun t : Int32 × Int32 × zS => ((σ0.1 218 10).toInt - (t.2.1).toInt).toNat) (fun again2 t hI ih7_2 => ?_) N _ (show Tr [218] σ0 σ0 ∧ ((0 ≤ (0 : Int32).toInt ∧ (0 : Int32).toInt ≤ 1023) ∧ (σ0.1 218 11).toInt ≤ (σ0.1 218 11).toInt) ∧ (TOK σ0.1) ∧ (σ0.1 218 7 = (σ0.1 218 7)) ∧ (σ0.1 218 9 = (σ0.1 218 9)) ∧ (σ0.1 218 10 = (σ0.1 218 10)) ∧ (σ0.1 218 11 = (σ0.1 218 11)) ∧ (σ0.1 218 12 = (σ0.1 218 12)) ∧ (σ0.1 218 13 = (σ0.1 218 13)) ∧ (σ0.1 218 14 = (σ0.1 218 14)) ∧ (σ0.1 218 15 = (σ0.1 218 15)) ∧ (σ0.1 218 20 = (σ0.1 218 20)) ∧ (σ0.1 218 22 = (σ0.1 218 22)) ∧ (σ0.1 218 23 = (σ0.1 218 23)) ∧ (σ0.1 218 24 = (σ0.1 218 24)) ∧ (σ0.1 218 25 = (σ0.1 218 25)) from ⟨hT, (by exact ⟨by decide, Int.le_refl _⟩), hK, rfl, rfl, rfl, rfl, rfl, rfl, rfl, rfl, rfl, rfl, rfl, rfl, rfl⟩) (show ((σ0.1 218 10).toInt - (σ0.1 218 11).toInt).toNat < N from (by omega))
  obtain ⟨x2_2, x3_2, σ2⟩ := t
  have hI : Tr [218] σ0 σ2 ∧ ((0 ≤ x2_2.toInt ∧ x2_2.toInt ≤ 1023) ∧ (σ0.1 218 11).toInt ≤ x3_2.toInt) ∧ (TOK σ2.1) ∧ (σ2.1 218 7 = (σ0.1 218 7)) ∧ (σ2.1 218 9 = (σ0.1 218 9)) ∧ (σ2.1 218 10 = (σ0.1 218 10)) ∧ (σ2.1 218 11 = (σ0.1 218 11)) ∧ (σ2.1 218 12 = (σ0.1 218 12)) ∧ (σ2.1 218 13 = (σ0.1 218 13)) ∧ (σ2.1 218 14 = (σ0.1 218 14)) ∧ (σ2.1 218 15 = (σ0.1 218 15)) ∧ (σ2.1 218 20 = (σ0.1 218 20)) ∧ (σ2.1 218 22 = (σ0.1 218 22)) ∧ (σ2.1 218 23 = (σ0.1 218 23)) ∧ (σ2.1 218 24 = (σ0.1 218 24)) ∧ (σ2.1 218 25 = (σ0.1 218 25)) := hI
  obtain ⟨hT, hI2, hK, g7_σ2, g9_σ2, g10_σ2, g11_σ2, g12_σ2, g13_σ2, g14_σ2, g15_σ2, g20_σ2, g22_σ2, g23_σ2, g24_σ2, g25_σ2⟩ := hI
  rw [F_X12_wordSet_7.eq_1]
  have h2 := hI2.1
  have h3 := hI2.2
  refine ok_gIv rfl g10_σ2 ?_
  refine ok_if (fun hc4 => ?_) (fun hc4 => ?_)
  · exact ok_some ⟨hT, (show (TOK σ2.1 ∧ (0 ≤ x2_2.toInt ∧ x2_2.toInt ≤ 1023) ∧ (σ2.1 218 14 = 0 → σ0.1 218 14 = 0)) ∧ (σ2.1 218 7 = σ0.1 218 7 ∧ σ2.1 218 9 = σ0.1 218 9 ∧ σ2.1 218 10 = σ0.1 218 10 ∧ σ2.1 218 11 = σ0.1 218 11 ∧ σ2.1 218 12 = σ0.1 218 12 ∧ σ2.1 218 13 = σ0.1 218 13 ∧ σ2.1 218 20 = σ0.1 218 20 ∧ σ2.1 218 22 = σ0.1 218 22 ∧ σ2.1 218 23 = σ0.1 218 23 ∧ σ2.1 218 24 = σ0.1 218 24 ∧ σ2.1 218 25 = σ0.1 218 25) from ⟨by first | exact ⟨hK, h2, fun q => by rw [g14_σ2] at q; exact q⟩ | exact ⟨hK, by decide, fun q => absurd q HQ.2⟩, g7_σ2, g9_σ2, g10_σ2, g11_σ2, g12_σ2, g13_σ2, g20_σ2, g22_σ2, g23_σ2, g24_σ2, g25_σ2⟩)⟩
  · have l12 := hc4
    rw [Int32.le_iff_toInt_le] at l12
    have s3 : (x3_2 + 1).toInt = x3_2.toInt + 1 := by rw [ti_add]; simp only [Int32.reduceToInt]; omega
    refine ok_gR (v := 224) hT rfl (hR 218 6 rfl) ?_
    refine ok_aIn rfl (by ((try simp only [g7_σ2, g9_σ2, g10_σ2, g11_σ2, g12_σ2, g13_σ2, g14_σ2, g15_σ2, g20_σ2, g22_σ2, g23_σ2, g24_σ2, g25_σ2])); first | omega | decide | (simp only [Int32.le_iff_toInt_le, Int32.lt_iff_toInt_lt, ti_add, ti_sub, ti_mul, Int32.reduceToInt] at *; omega)) (by ((try simp only [g7_σ2, g9_σ2, g10_σ2, g11_σ2, g12_σ2, g13_σ2, g14_σ2, g15_σ2, g20_σ2, g22_σ2, g23_σ2, g24_σ2, g25_σ2])); first | omega | decide | (simp only [Int32.le_iff_toInt_le, Int32.lt_iff_toInt_lt, ti_add, ti_sub, ti_mul, Int32.reduceToInt] at *; omega)) (fun v6 ev6 => ?_)
    have ev20 := ev6
    rw [hT.2 224 (by decide)] at ev20
    have t20 : 97 ≤ (v6).toInt ∧ (v6).toInt ≤ 122 := by rw [ev20]; exact w12 x3_2.toInt.toNat (by omega) (by omega)
    have s20 : (v6 - 97).toInt = v6.toInt - 97 := by rw [ti_sub]; simp only [Int32.reduceToInt]; omega
    have o20 : (v6 - 97).toInt ≤ 9 → 1 ≤ ((1 : Int32) <<< ((v6 - 97) &&& 31)).toInt ∧ ((1 : Int32) <<< ((v6 - 97) &&& 31)).toInt ≤ 512 := fun h => ti_one9 (by omega) h
    refine ok_if (fun hc7 => ?_) (fun hc7 => ?_)
    · refine ok_gC rfl ?_
      refine ok_zbT (Q := fun V σ => (TOK σ.1 ∧ ¬ σ.1 218 14 = 0) ∧ (σ.1 218 7 = σ2.1 218 7 ∧ σ.1 218 9 = σ2.1 218 9 ∧ σ.1 218 10 = σ2.1 218 10 ∧ σ.1 218 11 = σ2.1 218 11 ∧ σ.1 218 12 = σ2.1 218 12 ∧ σ.1 218 13 = σ2.1 218 13 ∧ σ.1 218 20 = σ2.1 218 20 ∧ σ.1 218 22 = σ2.1 218 22 ∧ σ.1 218 23 = σ2.1 218 23 ∧ σ.1 218 24 = σ2.1 218 24 ∧ σ.1 218 25 = σ2.1 218 25)) hT (s_X12_errs hN (hR.tr hT) (hK) (by rw [hT.2 224 (by decide)]; exact hY) (by decide)) (by decide) (fun v8 σ9 hOσ9 hT hqv8 => ?_)
      have hqv8 : (TOK σ9.1 ∧ ¬ σ9.1 218 14 = 0) ∧ (σ9.1 218 7 = σ2.1 218 7 ∧ σ9.1 218 9 = σ2.1 218 9 ∧ σ9.1 218 10 = σ2.1 218 10 ∧ σ9.1 218 11 = σ2.1 218 11 ∧ σ9.1 218 12 = σ2.1 218 12 ∧ σ9.1 218 13 = σ2.1 218 13 ∧ σ9.1 218 20 = σ2.1 218 20 ∧ σ9.1 218 22 = σ2.1 218 22 ∧ σ9.1 218 23 = σ2.1 218 23 ∧ σ9.1 218 24 = σ2.1 218 24 ∧ σ9.1 218 25 = σ2.1 218 25) := hqv8
      have hkv8 := hqv8
      have hqv8 := hqv8.1
      have hK : TOK σ9.1 := by first | exact hqv8.1 | exact TOK_p eσ9 (by decide) hK
      try simp only [g7_σ2, g9_σ2, g10_σ2, g11_σ2, g12_σ2, g13_σ2, g14_σ2, g15_σ2, g20_σ2, g22_σ2, g23_σ2, g24_σ2, g25_σ2] at hqv8
      have g7_σ9 : σ9.1 218 7 = (σ0.1 218 7) := (hkv8.2.1).trans g7_σ2
      have g9_σ9 : σ9.1 218 9 = (σ0.1 218 9) := (hkv8.2.2.1).trans g9_σ2
      have g10_σ9 : σ9.1 218 10 = (σ0.1 218 10) := (hkv8.2.2.2.1).trans g10_σ2
      have g11_σ9 : σ9.1 218 11 = (σ0.1 218 11) := (hkv8.2.2.2.2.1).trans g11_σ2
      have g12_σ9 : σ9.1 218 12 = (σ0.1 218 12) := (hkv8.2.2.2.2.2.1).trans g12_σ2
      have g13_σ9 : σ9.1 218 13 = (σ0.1 218 13) := (hkv8.2.2.2.2.2.2.1).trans g13_σ2
      have g20_σ9 : σ9.1 218 20 = (σ0.1 218 20) := (hkv8.2.2.2.2.2.2.2.1).trans g20_σ2
      have g22_σ9 : σ9.1 218 22 = (σ0.1 218 22) := (hkv8.2.2.2.2.2.2.2.2.1).trans g22_σ2
      have g23_σ9 : σ9.1 218 23 = (σ0.1 218 23) := (hkv8.2.2.2.2.2.2.2.2.2.1).trans g23_σ2
      have g24_σ9 : σ9.1 218 24 = (σ0.1 218 24) := (hkv8.2.2.2.2.2.2.2.2.2.2.1).trans g24_σ2
      have g25_σ9 : σ9.1 218 25 = (σ0.1 218 25) := (hkv8.2.2.2.2.2.2.2.2.2.2.2).trans g25_σ2
      exact ok_some ⟨hT, (show (TOK σ9.1 ∧ (0 ≤ (0 : Int32).toInt ∧ (0 : Int32).toInt ≤ 1023) ∧ (σ9.1 218 14 = 0 → σ0.1 218 14 = 0)) ∧ (σ9.1 218 7 = σ0.1 218 7 ∧ σ9.1 218 9 = σ0.1 218 9 ∧ σ9.1 218 10 = σ0.1 218 10 ∧ σ9.1 218 11 = σ0.1 218 11 ∧ σ9.1 218 12 = σ0.1 218 12 ∧ σ9.1 218 13 = σ0.1 218 13 ∧ σ9.1 218 20 = σ0.1 218 20 ∧ σ9.1 218 22 = σ0.1 218 22 ∧ σ9.1 218 23 = σ0.1 218 23 ∧ σ9.1 218 24 = σ0.1 218 24 ∧ σ9.1 218 25 = σ0.1 218 25) from ⟨by first | exact ⟨hK, h2, fun q => by rw [rfl] at q; exact q⟩ | exact ⟨hK, by decide, fun q => absurd q hqv8.2⟩, g7_σ9, g9_σ9, g10_σ9, g11_σ9, g12_σ9, g13_σ9, g20_σ9, g22_σ9, g23_σ9, g24_σ9, g25_σ9⟩)⟩
    · have n29 := hc7
      rw [Int32.le_iff_toInt_le, s20] at n29
      refine ok_if (fun hc10 => ?_) (fun hc10 => ?_)
      · refine ok_gC rfl ?_
        refine ok_zbT (Q := fun V σ => (TOK σ.1 ∧ ¬ σ.1 218 14 = 0) ∧ (σ.1 218 7 = σ2.1 218 7 ∧ σ.1 218 9 = σ2.1 218 9 ∧ σ.1 218 10 = σ2.1 218 10 ∧ σ.1 218 11 = σ2.1 218 11 ∧ σ.1 218 12 = σ2.1 218 12 ∧ σ.1 218 13 = σ2.1 218 13 ∧ σ.1 218 20 = σ2.1 218 20 ∧ σ.1 218 22 = σ2.1 218 22 ∧ σ.1 218 23 = σ2.1 218 23 ∧ σ.1 218 24 = σ2.1 218 24 ∧ σ.1 218 25 = σ2.1 218 25)) hT (s_X12_errs hN (hR.tr hT) (hK) (by rw [hT.2 224 (by decide)]; exact hY) (by decide)) (by decide) (fun v11 σ12 hOσ12 hT hqv11 => ?_)
        have hqv11 : (TOK σ12.1 ∧ ¬ σ12.1 218 14 = 0) ∧ (σ12.1 218 7 = σ2.1 218 7 ∧ σ12.1 218 9 = σ2.1 218 9 ∧ σ12.1 218 10 = σ2.1 218 10 ∧ σ12.1 218 11 = σ2.1 218 11 ∧ σ12.1 218 12 = σ2.1 218 12 ∧ σ12.1 218 13 = σ2.1 218 13 ∧ σ12.1 218 20 = σ2.1 218 20 ∧ σ12.1 218 22 = σ2.1 218 22 ∧ σ12.1 218 23 = σ2.1 218 23 ∧ σ12.1 218 24 = σ2.1 218 24 ∧ σ12.1 218 25 = σ2.1 218 25) := hqv11
        have hkv11 := hqv11
        have hqv11 := hqv11.1
        have hK : TOK σ12.1 := by first | exact hqv11.1 | exact TOK_p eσ12 (by decide) hK
        try simp only [g7_σ2, g9_σ2, g10_σ2, g11_σ2, g12_σ2, g13_σ2, g14_σ2, g15_σ2, g20_σ2, g22_σ2, g23_σ2, g24_σ2, g25_σ2] at hqv11
        have g7_σ12 : σ12.1 218 7 = (σ0.1 218 7) := (hkv11.2.1).trans g7_σ2
        have g9_σ12 : σ12.1 218 9 = (σ0.1 218 9) := (hkv11.2.2.1).trans g9_σ2
        have g10_σ12 : σ12.1 218 10 = (σ0.1 218 10) := (hkv11.2.2.2.1).trans g10_σ2
        have g11_σ12 : σ12.1 218 11 = (σ0.1 218 11) := (hkv11.2.2.2.2.1).trans g11_σ2
        have g12_σ12 : σ12.1 218 12 = (σ0.1 218 12) := (hkv11.2.2.2.2.2.1).trans g12_σ2
        have g13_σ12 : σ12.1 218 13 = (σ0.1 218 13) := (hkv11.2.2.2.2.2.2.1).trans g13_σ2
        have g20_σ12 : σ12.1 218 20 = (σ0.1 218 20) := (hkv11.2.2.2.2.2.2.2.1).trans g20_σ2
        have g22_σ12 : σ12.1 218 22 = (σ0.1 218 22) := (hkv11.2.2.2.2.2.2.2.2.1).trans g22_σ2
        have g23_σ12 : σ12.1 218 23 = (σ0.1 218 23) := (hkv11.2.2.2.2.2.2.2.2.2.1).trans g23_σ2
        have g24_σ12 : σ12.1 218 24 = (σ0.1 218 24) := (hkv11.2.2.2.2.2.2.2.2.2.2.1).trans g24_σ2
        have g25_σ12 : σ12.1 218 25 = (σ0.1 218 25) := (hkv11.2.2.2.2.2.2.2.2.2.2.2).trans g25_σ2
        exact ok_some ⟨hT, (show (TOK σ12.1 ∧ (0 ≤ (0 : Int32).toInt ∧ (0 : Int32).toInt ≤ 1023) ∧ (σ12.1 218 14 = 0 → σ0.1 218 14 = 0)) ∧ (σ12.1 218 7 = σ0.1 218 7 ∧ σ12.1 218 9 = σ0.1 218 9 ∧ σ12.1 218 10 = σ0.1 218 10 ∧ σ12.1 218 11 = σ0.1 218 11 ∧ σ12.1 218 12 = σ0.1 218 12 ∧ σ12.1 218 13 = σ0.1 218 13 ∧ σ12.1 218 20 = σ0.1 218 20 ∧ σ12.1 218 22 = σ0.1 218 22 ∧ σ12.1 218 23 = σ0.1 218 23 ∧ σ12.1 218 24 = σ0.1 218 24 ∧ σ12.1 218 25 = σ0.1 218 25) from ⟨by first | exact ⟨hK, h2, fun q => by rw [rfl] at q; exact q⟩ | exact ⟨hK, by decide, fun q => absurd q hqv11.2⟩, g7_σ12, g9_σ12, g10_σ12, g11_σ12, g12_σ12, g13_σ12, g20_σ12, g22_σ12, g23_σ12, g24_σ12, g25_σ12⟩)⟩
      · exact ih7_2 (x2_2 ||| ((1 : Int32) <<< ((v6 - 97) &&& 31)), x3_2 + 1, σ2) (show Tr [218] σ0 σ2 ∧ ((0 ≤ (x2_2 ||| ((1 : Int32) <<< ((v6 - 97) &&& 31))).toInt ∧ (x2_2 ||| ((1 : Int32) <<< ((v6 - 97) &&& 31))).toInt ≤ 1023) ∧ (σ0.1 218 11).toInt ≤ (x3_2 + 1).toInt) ∧ (TOK σ2.1) ∧ (σ2.1 218 7 = (σ0.1 218 7)) ∧ (σ2.1 218 9 = (σ0.1 218 9)) ∧ (σ2.1 218 10 = (σ0.1 218 10)) ∧ (σ2.1 218 11 = (σ0.1 218 11)) ∧ (σ2.1 218 12 = (σ0.1 218 12)) ∧ (σ2.1 218 13 = (σ0.1 218 13)) ∧ (σ2.1 218 14 = (σ0.1 218 14)) ∧ (σ2.1 218 15 = (σ0.1 218 15)) ∧ (σ2.1 218 20 = (σ0.1 218 20)) ∧ (σ2.1 218 22 = (σ0.1 218 22)) ∧ (σ2.1 218 23 = (σ0.1 218 23)) ∧ (σ2.1 218 24 = (σ0.1 218 24)) ∧ (σ2.1 218 25 = (σ0.1 218 25)) from ⟨hT, (by have o9 := o20 (by omega); exact ⟨or10 (by omega) (by omega) (by omega) (by omega), by rw [s3]; omega⟩), hK, g7_σ2, g9_σ2, g10_σ2, g11_σ2, g12_σ2, g13_σ2, g14_σ2, g15_σ2, g20_σ2, g22_σ2, g23_σ2, g24_σ2, g25_σ2⟩) (show ((σ0.1 218 10).toInt - (x3_2 + 1).toInt).toNat < ((σ0.1 218 10).toInt - x3_2.toInt).toNat from (by rw [s3]; omega))

set_option maxHeartbeats 4000000 in
set_option maxRecDepth 100000 in
theorem s_X12_readsSet {N : Nat} (hN : 1048576 ≤ N) {x1 : Int32} {σ0 : zS}  (hR : RF σ0.2.2) (hK : TOK σ0.1) (hY : BYT (σ0.1 224)) (hB : ZB σ0.1) (hn : 0 ≤ x1.toInt ∧ x1.toInt ≤ 10) (hp : 1 ≤ (σ0.1 218 23).toInt ∧ (σ0.1 218 23).toInt ≤ 18) : Ok (f_X12_readsSet N 218 x1 σ0) (fun r => Tr [218, 226] σ0 r.2 ∧ ((TOK r.2.1 ∧ (σ0.1 218 11).toInt ≤ (r.2.1 218 11).toInt ∧ (r.2.1 218 14 = 0 → σ0.1 218 14 = 0 ∧ (σ0.1 218 11).toInt < (r.2.1 218 11).toInt) ∧ ZB r.2.1) ∧ (r.2.1 218 7 = σ0.1 218 7 ∧ r.2.1 218 9 = σ0.1 218 9 ∧ r.2.1 218 20 = σ0.1 218 20 ∧ r.2.1 218 22 = σ0.1 218 22 ∧ r.2.1 218 23 = σ0.1 218 23 ∧ r.2.1 218 24 = σ0.1 218 24 ∧ r.2.1 218 25 = σ0.1 218 25))) := by
  have hT : Tr [218, 226] σ0 σ0 := Tr.rf
  have hK1 := hK.1
  have p1 : ((σ0.1 218 23) - 1).toInt = (σ0.1 218 23).toInt - 1 := by rw [ti_sub]; simp only [Int32.reduceToInt]; omega
  have m1 := p1024 p1 (by omega) (by omega)
  rw [f_X12_readsSet.eq_1]
  refine ok_gI rfl ?_
  refine ok_if (fun hc2 => ?_) (fun hc2 => ?_)
  · refine ok_gC rfl ?_
    refine ok_zbT (Q := fun V σ => (TOK σ.1 ∧ (σ0.1 218 11).toInt ≤ (σ.1 218 11).toInt ∧ (σ.1 218 14 = 0 → (σ0.1 218 14 = 0 ∧ (σ0.1 218 11).toInt < (σ.1 218 11).toInt) ∧ (0 : Int32).toInt ≤ V.toInt ∧ V.toInt ≤ (0 : Int32).toInt) ∧ (¬ σ.1 218 14 = 0 → V = 0)) ∧ (σ.1 218 7 = σ0.1 218 7 ∧ σ.1 218 9 = σ0.1 218 9 ∧ σ.1 218 20 = σ0.1 218 20 ∧ σ.1 218 22 = σ0.1 218 22 ∧ σ.1 218 23 = σ0.1 218 23 ∧ σ.1 218 24 = σ0.1 218 24 ∧ σ.1 218 25 = σ0.1 218 25)) hT (s_X12_number hN (hR.tr hT) (hK) (by rw [hT.2 224 (by decide)]; exact hY)) (by decide) (fun v3 σ4 hOσ4 hT hqv3 => ?_)
    have hqv3 : (TOK σ4.1 ∧ (σ0.1 218 11).toInt ≤ (σ4.1 218 11).toInt ∧ (σ4.1 218 14 = 0 → (σ0.1 218 14 = 0 ∧ (σ0.1 218 11).toInt < (σ4.1 218 11).toInt) ∧ (0 : Int32).toInt ≤ v3.toInt ∧ v3.toInt ≤ (0 : Int32).toInt) ∧ (¬ σ4.1 218 14 = 0 → v3 = 0)) ∧ (σ4.1 218 7 = σ0.1 218 7 ∧ σ4.1 218 9 = σ0.1 218 9 ∧ σ4.1 218 20 = σ0.1 218 20 ∧ σ4.1 218 22 = σ0.1 218 22 ∧ σ4.1 218 23 = σ0.1 218 23 ∧ σ4.1 218 24 = σ0.1 218 24 ∧ σ4.1 218 25 = σ0.1 218 25) := hqv3
    have hkv3 := hqv3
    have hqv3 := hqv3.1
    have hK : TOK σ4.1 := by first | exact hqv3.1 | exact TOK_p eσ4 (by decide) hK
    have hB : ZB σ4.1 := ZB.tr hOσ4 (by decide) hB
    have g7_σ4 : σ4.1 218 7 = (σ0.1 218 7) := hkv3.2.1
    have g9_σ4 : σ4.1 218 9 = (σ0.1 218 9) := hkv3.2.2.1
    have g20_σ4 : σ4.1 218 20 = (σ0.1 218 20) := hkv3.2.2.2.1
    have g22_σ4 : σ4.1 218 22 = (σ0.1 218 22) := hkv3.2.2.2.2.1
    have g23_σ4 : σ4.1 218 23 = (σ0.1 218 23) := hkv3.2.2.2.2.2.1
    have g24_σ4 : σ4.1 218 24 = (σ0.1 218 24) := hkv3.2.2.2.2.2.2.1
    have g25_σ4 : σ4.1 218 25 = (σ0.1 218 25) := hkv3.2.2.2.2.2.2.2
    have m13 := hqv3.2.1
    have u13 := hqv3.2.2.1
    have b13 : 0 ≤ v3.toInt ∧ v3.toInt ≤ 1023 := by by_cases h9 : σ4.1 218 14 = 0; have h8 := (hqv3.2.2.1 h9).2; simp only [Int32.reduceToInt] at h8; omega; rw [hqv3.2.2.2 h9]; decide
    rw [J_X12_readsSet_53.eq_1]
    refine ok_gC rfl ?_
    refine ok_zbX (Q := fun V => (V = 0 → ¬ σ4.1 218 14 = 0) ∧ (¬ V = 0 → σ4.1 218 14 = 0)) (x_X12_good) (fun v5 hqv5 => ?_)
    have hqv5 : (v5 = 0 → ¬ σ4.1 218 14 = 0) ∧ (¬ v5 = 0 → σ4.1 218 14 = 0) := hqv5
    try simp only [g7_σ4, g9_σ4, g20_σ4, g22_σ4, g23_σ4, g24_σ4, g25_σ4, hT.2 224 (by decide)] at hqv5
    refine ok_if (fun hc7 => ?_) (fun hc7 => ?_)
    · have qhc7 := hqv5.1 hc7
      have n57 := qhc7
      exact ok_some ⟨hT, (show (TOK σ4.1 ∧ (σ0.1 218 11).toInt ≤ (σ4.1 218 11).toInt ∧ (σ4.1 218 14 = 0 → σ0.1 218 14 = 0 ∧ (σ0.1 218 11).toInt < (σ4.1 218 11).toInt) ∧ ZB σ4.1) ∧ (σ4.1 218 7 = σ0.1 218 7 ∧ σ4.1 218 9 = σ0.1 218 9 ∧ σ4.1 218 20 = σ0.1 218 20 ∧ σ4.1 218 22 = σ0.1 218 22 ∧ σ4.1 218 23 = σ0.1 218 23 ∧ σ4.1 218 24 = σ0.1 218 24 ∧ σ4.1 218 25 = σ0.1 218 25) from ⟨by first | exact ⟨hK, by (try simp only [g7_σ4, g9_σ4, g20_σ4, g22_σ4, g23_σ4, g24_σ4, g25_σ4]); omega, fun q => absurd q (by (try simp only [g7_σ4, g9_σ4, g20_σ4, g22_σ4, g23_σ4, g24_σ4, g25_σ4]); exact n57), hB⟩ | exact ⟨hK, by (try simp only [g7_σ4, g9_σ4, g20_σ4, g22_σ4, g23_σ4, g24_σ4, g25_σ4]); omega, fun _ => ⟨(u13 y57).1.1, by (try simp only [g7_σ4, g9_σ4, g20_σ4, g22_σ4, g23_σ4, g24_σ4, g25_σ4]); exact (u13 y57).1.2⟩, hB⟩ | exact ⟨hK, by (try simp only [g7_σ4, g9_σ4, g20_σ4, g22_σ4, g23_σ4, g24_σ4, g25_σ4]); omega, fun _ => ⟨y30 y38, by (try simp only [g7_σ4, g9_σ4, g20_σ4, g22_σ4, g23_σ4, g24_σ4, g25_σ4]); omega⟩, hB⟩ | exact absurd y57 n50 | exact absurd y57 n38, g7_σ4, g9_σ4, g20_σ4, g22_σ4, g23_σ4, g24_σ4, g25_σ4⟩)⟩
    · have qhc7 := hqv5.2 hc7
      have y57 := qhc7
      refine ok_gR (v := 226) hT rfl (hR 218 16 rfl) ?_
      refine ok_gIv rfl g23_σ4 ?_
      refine ok_s16 hT rfl (by decide) (by rw [ti_add, m1]; first | omega | (simp only [Int32.reduceToInt]; omega)) (by rw [ti_add, m1]; first | omega | (simp only [Int32.reduceToInt]; omega)) (fun σ10 eσ10 hOσ10 hT => ?_)
      have hK : TOK σ10.1 := TOK_tr hOσ10 (by decide) (by decide) hK
      have hB : ZB σ10.1 := ZB_s eσ10 hB
      have g7_σ10 : σ10.1 218 7 = (σ0.1 218 7) := (congrFun (hOσ10.2 218 (by decide)) 7).trans g7_σ4
      have g9_σ10 : σ10.1 218 9 = (σ0.1 218 9) := (congrFun (hOσ10.2 218 (by decide)) 9).trans g9_σ4
      have g10_σ10 : σ10.1 218 10 = (σ4.1 218 10) := congrFun (hOσ10.2 218 (by decide)) 10
      have g11_σ10 : σ10.1 218 11 = (σ4.1 218 11) := congrFun (hOσ10.2 218 (by decide)) 11
      have g12_σ10 : σ10.1 218 12 = (σ4.1 218 12) := congrFun (hOσ10.2 218 (by decide)) 12
      have g13_σ10 : σ10.1 218 13 = (σ4.1 218 13) := congrFun (hOσ10.2 218 (by decide)) 13
      have g14_σ10 : σ10.1 218 14 = (σ4.1 218 14) := congrFun (hOσ10.2 218 (by decide)) 14
      have g15_σ10 : σ10.1 218 15 = (σ4.1 218 15) := congrFun (hOσ10.2 218 (by decide)) 15
      have g20_σ10 : σ10.1 218 20 = (σ0.1 218 20) := (congrFun (hOσ10.2 218 (by decide)) 20).trans g20_σ4
      have g22_σ10 : σ10.1 218 22 = (σ0.1 218 22) := (congrFun (hOσ10.2 218 (by decide)) 22).trans g22_σ4
      have g23_σ10 : σ10.1 218 23 = (σ0.1 218 23) := (congrFun (hOσ10.2 218 (by decide)) 23).trans g23_σ4
      have g24_σ10 : σ10.1 218 24 = (σ0.1 218 24) := (congrFun (hOσ10.2 218 (by decide)) 24).trans g24_σ4
      have g25_σ10 : σ10.1 218 25 = (σ0.1 218 25) := (congrFun (hOσ10.2 218 (by decide)) 25).trans g25_σ4
      exact ok_some ⟨hT, (show (TOK σ10.1 ∧ (σ0.1 218 11).toInt ≤ (σ10.1 218 11).toInt ∧ (σ10.1 218 14 = 0 → σ0.1 218 14 = 0 ∧ (σ0.1 218 11).toInt < (σ10.1 218 11).toInt) ∧ ZB σ10.1) ∧ (σ10.1 218 7 = σ0.1 218 7 ∧ σ10.1 218 9 = σ0.1 218 9 ∧ σ10.1 218 20 = σ0.1 218 20 ∧ σ10.1 218 22 = σ0.1 218 22 ∧ σ10.1 218 23 = σ0.1 218 23 ∧ σ10.1 218 24 = σ0.1 218 24 ∧ σ10.1 218 25 = σ0.1 218 25) from ⟨by first | exact ⟨hK, by (try simp only [g7_σ10, g9_σ10, g10_σ10, g11_σ10, g12_σ10, g13_σ10, g14_σ10, g15_σ10, g20_σ10, g22_σ10, g23_σ10, g24_σ10, g25_σ10]); omega, fun q => absurd q (by (try simp only [g7_σ10, g9_σ10, g10_σ10, g11_σ10, g12_σ10, g13_σ10, g14_σ10, g15_σ10, g20_σ10, g22_σ10, g23_σ10, g24_σ10, g25_σ10]); exact n57), hB⟩ | exact ⟨hK, by (try simp only [g7_σ10, g9_σ10, g10_σ10, g11_σ10, g12_σ10, g13_σ10, g14_σ10, g15_σ10, g20_σ10, g22_σ10, g23_σ10, g24_σ10, g25_σ10]); omega, fun _ => ⟨(u13 y57).1.1, by (try simp only [g7_σ10, g9_σ10, g10_σ10, g11_σ10, g12_σ10, g13_σ10, g14_σ10, g15_σ10, g20_σ10, g22_σ10, g23_σ10, g24_σ10, g25_σ10]); exact (u13 y57).1.2⟩, hB⟩ | exact ⟨hK, by (try simp only [g7_σ10, g9_σ10, g10_σ10, g11_σ10, g12_σ10, g13_σ10, g14_σ10, g15_σ10, g20_σ10, g22_σ10, g23_σ10, g24_σ10, g25_σ10]); omega, fun _ => ⟨y30 y38, by (try simp only [g7_σ10, g9_σ10, g10_σ10, g11_σ10, g12_σ10, g13_σ10, g14_σ10, g15_σ10, g20_σ10, g22_σ10, g23_σ10, g24_σ10, g25_σ10]); omega⟩, hB⟩ | exact absurd y57 n50 | exact absurd y57 n38, g7_σ10, g9_σ10, g20_σ10, g22_σ10, g23_σ10, g24_σ10, g25_σ10⟩)⟩
  · refine ok_gI rfl ?_
    refine ok_if (fun hc12 => ?_) (fun hc12 => ?_)
    · have e25 := hc12
      have l25 := hK.2.1 (by rw [hc12]; decide)
      refine ok_gC rfl ?_
      refine ok_zbT (Q := fun V σ => (TOK σ.1 ∧ (0 ≤ V.toInt ∧ V.toInt ≤ 1023) ∧ (σ.1 218 14 = 0 → σ0.1 218 14 = 0)) ∧ (σ.1 218 7 = σ0.1 218 7 ∧ σ.1 218 9 = σ0.1 218 9 ∧ σ.1 218 10 = σ0.1 218 10 ∧ σ.1 218 11 = σ0.1 218 11 ∧ σ.1 218 12 = σ0.1 218 12 ∧ σ.1 218 13 = σ0.1 218 13 ∧ σ.1 218 20 = σ0.1 218 20 ∧ σ.1 218 22 = σ0.1 218 22 ∧ σ.1 218 23 = σ0.1 218 23 ∧ σ.1 218 24 = σ0.1 218 24 ∧ σ.1 218 25 = σ0.1 218 25)) hT (s_X12_wordSet hN (hR.tr hT) (hK) (by rw [hT.2 224 (by decide)]; exact hY) (e25) (hn)) (by decide) (fun v13 σ14 hOσ14 hT hqv13 => ?_)
      have hqv13 : (TOK σ14.1 ∧ (0 ≤ v13.toInt ∧ v13.toInt ≤ 1023) ∧ (σ14.1 218 14 = 0 → σ0.1 218 14 = 0)) ∧ (σ14.1 218 7 = σ0.1 218 7 ∧ σ14.1 218 9 = σ0.1 218 9 ∧ σ14.1 218 10 = σ0.1 218 10 ∧ σ14.1 218 11 = σ0.1 218 11 ∧ σ14.1 218 12 = σ0.1 218 12 ∧ σ14.1 218 13 = σ0.1 218 13 ∧ σ14.1 218 20 = σ0.1 218 20 ∧ σ14.1 218 22 = σ0.1 218 22 ∧ σ14.1 218 23 = σ0.1 218 23 ∧ σ14.1 218 24 = σ0.1 218 24 ∧ σ14.1 218 25 = σ0.1 218 25) := hqv13
      have hkv13 := hqv13
      have hqv13 := hqv13.1
      have hK : TOK σ14.1 := by first | exact hqv13.1 | exact TOK_p eσ14 (by decide) hK
      have hB : ZB σ14.1 := ZB.tr hOσ14 (by decide) hB
      have g7_σ14 : σ14.1 218 7 = (σ0.1 218 7) := hkv13.2.1
      have g9_σ14 : σ14.1 218 9 = (σ0.1 218 9) := hkv13.2.2.1
      have g10_σ14 : σ14.1 218 10 = (σ0.1 218 10) := hkv13.2.2.2.1
      have g11_σ14 : σ14.1 218 11 = (σ0.1 218 11) := hkv13.2.2.2.2.1
      have g12_σ14 : σ14.1 218 12 = (σ0.1 218 12) := hkv13.2.2.2.2.2.1
      have g13_σ14 : σ14.1 218 13 = (σ0.1 218 13) := hkv13.2.2.2.2.2.2.1
      have g20_σ14 : σ14.1 218 20 = (σ0.1 218 20) := hkv13.2.2.2.2.2.2.2.1
      have g22_σ14 : σ14.1 218 22 = (σ0.1 218 22) := hkv13.2.2.2.2.2.2.2.2.1
      have g23_σ14 : σ14.1 218 23 = (σ0.1 218 23) := hkv13.2.2.2.2.2.2.2.2.2.1
      have g24_σ14 : σ14.1 218 24 = (σ0.1 218 24) := hkv13.2.2.2.2.2.2.2.2.2.2.1
      have g25_σ14 : σ14.1 218 25 = (σ0.1 218 25) := hkv13.2.2.2.2.2.2.2.2.2.2.2
      have b30 := hqv13.2.1
      have y30 := hqv13.2.2
      refine ok_gC rfl ?_
      refine ok_zbX (Q := fun V => (V = 0 → ¬ σ14.1 218 14 = 0) ∧ (¬ V = 0 → σ14.1 218 14 = 0)) (x_X12_good) (fun v15 hqv15 => ?_)
      have hqv15 : (v15 = 0 → ¬ σ14.1 218 14 = 0) ∧ (¬ v15 = 0 → σ14.1 218 14 = 0) := hqv15
      try simp only [g7_σ14, g9_σ14, g10_σ14, g11_σ14, g12_σ14, g13_σ14, g20_σ14, g22_σ14, g23_σ14, g24_σ14, g25_σ14, hT.2 224 (by decide)] at hqv15
      refine ok_if (fun hc17 => ?_) (fun hc17 => ?_)
      · have qhc17 := hqv15.1 hc17
        have n38 := qhc17
        rw [J_X12_readsSet_53.eq_1]
        refine ok_gC rfl ?_
        refine ok_zbX (Q := fun V => (V = 0 → ¬ σ14.1 218 14 = 0) ∧ (¬ V = 0 → σ14.1 218 14 = 0)) (x_X12_good) (fun v18 hqv18 => ?_)
        have hqv18 : (v18 = 0 → ¬ σ14.1 218 14 = 0) ∧ (¬ v18 = 0 → σ14.1 218 14 = 0) := hqv18
        try simp only [g7_σ14, g9_σ14, g10_σ14, g11_σ14, g12_σ14, g13_σ14, g20_σ14, g22_σ14, g23_σ14, g24_σ14, g25_σ14, hT.2 224 (by decide)] at hqv18
        refine ok_if (fun hc20 => ?_) (fun hc20 => ?_)
        · have qhc20 := hqv18.1 hc20
          have n57 := qhc20
          exact ok_some ⟨hT, (show (TOK σ14.1 ∧ (σ0.1 218 11).toInt ≤ (σ14.1 218 11).toInt ∧ (σ14.1 218 14 = 0 → σ0.1 218 14 = 0 ∧ (σ0.1 218 11).toInt < (σ14.1 218 11).toInt) ∧ ZB σ14.1) ∧ (σ14.1 218 7 = σ0.1 218 7 ∧ σ14.1 218 9 = σ0.1 218 9 ∧ σ14.1 218 20 = σ0.1 218 20 ∧ σ14.1 218 22 = σ0.1 218 22 ∧ σ14.1 218 23 = σ0.1 218 23 ∧ σ14.1 218 24 = σ0.1 218 24 ∧ σ14.1 218 25 = σ0.1 218 25) from ⟨by first | exact ⟨hK, by (try simp only [g7_σ14, g9_σ14, g10_σ14, g11_σ14, g12_σ14, g13_σ14, g20_σ14, g22_σ14, g23_σ14, g24_σ14, g25_σ14]); omega, fun q => absurd q (by (try simp only [g7_σ14, g9_σ14, g10_σ14, g11_σ14, g12_σ14, g13_σ14, g20_σ14, g22_σ14, g23_σ14, g24_σ14, g25_σ14]); exact n57), hB⟩ | exact ⟨hK, by (try simp only [g7_σ14, g9_σ14, g10_σ14, g11_σ14, g12_σ14, g13_σ14, g20_σ14, g22_σ14, g23_σ14, g24_σ14, g25_σ14]); omega, fun _ => ⟨(u13 y57).1.1, by (try simp only [g7_σ14, g9_σ14, g10_σ14, g11_σ14, g12_σ14, g13_σ14, g20_σ14, g22_σ14, g23_σ14, g24_σ14, g25_σ14]); exact (u13 y57).1.2⟩, hB⟩ | exact ⟨hK, by (try simp only [g7_σ14, g9_σ14, g10_σ14, g11_σ14, g12_σ14, g13_σ14, g20_σ14, g22_σ14, g23_σ14, g24_σ14, g25_σ14]); omega, fun _ => ⟨y30 y38, by (try simp only [g7_σ14, g9_σ14, g10_σ14, g11_σ14, g12_σ14, g13_σ14, g20_σ14, g22_σ14, g23_σ14, g24_σ14, g25_σ14]); omega⟩, hB⟩ | exact absurd y57 n50 | exact absurd y57 n38, g7_σ14, g9_σ14, g20_σ14, g22_σ14, g23_σ14, g24_σ14, g25_σ14⟩)⟩
        · have qhc20 := hqv18.2 hc20
          have y57 := qhc20
          refine ok_gR (v := 226) hT rfl (hR 218 16 rfl) ?_
          refine ok_gIv rfl g23_σ14 ?_
          refine ok_s16 hT rfl (by decide) (by rw [ti_add, m1]; first | omega | (simp only [Int32.reduceToInt]; omega)) (by rw [ti_add, m1]; first | omega | (simp only [Int32.reduceToInt]; omega)) (fun σ23 eσ23 hOσ23 hT => ?_)
          have hK : TOK σ23.1 := TOK_tr hOσ23 (by decide) (by decide) hK
          have hB : ZB σ23.1 := ZB_s eσ23 hB
          have g7_σ23 : σ23.1 218 7 = (σ0.1 218 7) := (congrFun (hOσ23.2 218 (by decide)) 7).trans g7_σ14
          have g9_σ23 : σ23.1 218 9 = (σ0.1 218 9) := (congrFun (hOσ23.2 218 (by decide)) 9).trans g9_σ14
          have g10_σ23 : σ23.1 218 10 = (σ0.1 218 10) := (congrFun (hOσ23.2 218 (by decide)) 10).trans g10_σ14
          have g11_σ23 : σ23.1 218 11 = (σ0.1 218 11) := (congrFun (hOσ23.2 218 (by decide)) 11).trans g11_σ14
          have g12_σ23 : σ23.1 218 12 = (σ0.1 218 12) := (congrFun (hOσ23.2 218 (by decide)) 12).trans g12_σ14
          have g13_σ23 : σ23.1 218 13 = (σ0.1 218 13) := (congrFun (hOσ23.2 218 (by decide)) 13).trans g13_σ14
          have g14_σ23 : σ23.1 218 14 = (σ14.1 218 14) := congrFun (hOσ23.2 218 (by decide)) 14
          have g15_σ23 : σ23.1 218 15 = (σ14.1 218 15) := congrFun (hOσ23.2 218 (by decide)) 15
          have g20_σ23 : σ23.1 218 20 = (σ0.1 218 20) := (congrFun (hOσ23.2 218 (by decide)) 20).trans g20_σ14
          have g22_σ23 : σ23.1 218 22 = (σ0.1 218 22) := (congrFun (hOσ23.2 218 (by decide)) 22).trans g22_σ14
          have g23_σ23 : σ23.1 218 23 = (σ0.1 218 23) := (congrFun (hOσ23.2 218 (by decide)) 23).trans g23_σ14
          have g24_σ23 : σ23.1 218 24 = (σ0.1 218 24) := (congrFun (hOσ23.2 218 (by decide)) 24).trans g24_σ14
          have g25_σ23 : σ23.1 218 25 = (σ0.1 218 25) := (congrFun (hOσ23.2 218 (by decide)) 25).trans g25_σ14
          exact ok_some ⟨hT, (show (TOK σ23.1 ∧ (σ0.1 218 11).toInt ≤ (σ23.1 218 11).toInt ∧ (σ23.1 218 14 = 0 → σ0.1 218 14 = 0 ∧ (σ0.1 218 11).toInt < (σ23.1 218 11).toInt) ∧ ZB σ23.1) ∧ (σ23.1 218 7 = σ0.1 218 7 ∧ σ23.1 218 9 = σ0.1 218 9 ∧ σ23.1 218 20 = σ0.1 218 20 ∧ σ23.1 218 22 = σ0.1 218 22 ∧ σ23.1 218 23 = σ0.1 218 23 ∧ σ23.1 218 24 = σ0.1 218 24 ∧ σ23.1 218 25 = σ0.1 218 25) from ⟨by first | exact ⟨hK, by (try simp only [g7_σ23, g9_σ23, g10_σ23, g11_σ23, g12_σ23, g13_σ23, g14_σ23, g15_σ23, g20_σ23, g22_σ23, g23_σ23, g24_σ23, g25_σ23]); omega, fun q => absurd q (by (try simp only [g7_σ23, g9_σ23, g10_σ23, g11_σ23, g12_σ23, g13_σ23, g14_σ23, g15_σ23, g20_σ23, g22_σ23, g23_σ23, g24_σ23, g25_σ23]); exact n57), hB⟩ | exact ⟨hK, by (try simp only [g7_σ23, g9_σ23, g10_σ23, g11_σ23, g12_σ23, g13_σ23, g14_σ23, g15_σ23, g20_σ23, g22_σ23, g23_σ23, g24_σ23, g25_σ23]); omega, fun _ => ⟨(u13 y57).1.1, by (try simp only [g7_σ23, g9_σ23, g10_σ23, g11_σ23, g12_σ23, g13_σ23, g14_σ23, g15_σ23, g20_σ23, g22_σ23, g23_σ23, g24_σ23, g25_σ23]); exact (u13 y57).1.2⟩, hB⟩ | exact ⟨hK, by (try simp only [g7_σ23, g9_σ23, g10_σ23, g11_σ23, g12_σ23, g13_σ23, g14_σ23, g15_σ23, g20_σ23, g22_σ23, g23_σ23, g24_σ23, g25_σ23]); omega, fun _ => ⟨y30 y38, by (try simp only [g7_σ23, g9_σ23, g10_σ23, g11_σ23, g12_σ23, g13_σ23, g14_σ23, g15_σ23, g20_σ23, g22_σ23, g23_σ23, g24_σ23, g25_σ23]); omega⟩, hB⟩ | exact absurd y57 n50 | exact absurd y57 n38, g7_σ23, g9_σ23, g20_σ23, g22_σ23, g23_σ23, g24_σ23, g25_σ23⟩)⟩
      · have qhc17 := hqv15.2 hc17
        have y38 := qhc17
        refine ok_gC rfl ?_
        refine ok_zbT (Q := fun V σ => (TOK σ.1 ∧ (σ14.1 218 10).toInt ≤ (σ.1 218 11).toInt) ∧ (σ.1 218 7 = σ14.1 218 7 ∧ σ.1 218 9 = σ14.1 218 9 ∧ σ.1 218 14 = σ14.1 218 14 ∧ σ.1 218 15 = σ14.1 218 15 ∧ σ.1 218 20 = σ14.1 218 20 ∧ σ.1 218 22 = σ14.1 218 22 ∧ σ.1 218 23 = σ14.1 218 23 ∧ σ.1 218 24 = σ14.1 218 24 ∧ σ.1 218 25 = σ14.1 218 25)) hT (s_X12_advance hN (hR.tr hT) (TOK_A hK) (by rw [hT.2 224 (by decide)]; exact hY)) (by decide) (fun v24 σ25 hOσ25 hT hqv24 => ?_)
        have hqv24 : (TOK σ25.1 ∧ (σ14.1 218 10).toInt ≤ (σ25.1 218 11).toInt) ∧ (σ25.1 218 7 = σ14.1 218 7 ∧ σ25.1 218 9 = σ14.1 218 9 ∧ σ25.1 218 14 = σ14.1 218 14 ∧ σ25.1 218 15 = σ14.1 218 15 ∧ σ25.1 218 20 = σ14.1 218 20 ∧ σ25.1 218 22 = σ14.1 218 22 ∧ σ25.1 218 23 = σ14.1 218 23 ∧ σ25.1 218 24 = σ14.1 218 24 ∧ σ25.1 218 25 = σ14.1 218 25) := hqv24
        have hkv24 := hqv24
        have hqv24 := hqv24.1
        have hK : TOK σ25.1 := by first | exact hqv24.1 | exact TOK_p eσ25 (by decide) hK
        have hB : ZB σ25.1 := ZB.tr hOσ25 (by decide) hB
        try simp only [g7_σ14, g9_σ14, g10_σ14, g11_σ14, g12_σ14, g13_σ14, g20_σ14, g22_σ14, g23_σ14, g24_σ14, g25_σ14] at hqv24
        have g7_σ25 : σ25.1 218 7 = (σ0.1 218 7) := (hkv24.2.1).trans g7_σ14
        have g9_σ25 : σ25.1 218 9 = (σ0.1 218 9) := (hkv24.2.2.1).trans g9_σ14
        have g14_σ25 : σ25.1 218 14 = (σ14.1 218 14) := hkv24.2.2.2.1
        have g15_σ25 : σ25.1 218 15 = (σ14.1 218 15) := hkv24.2.2.2.2.1
        have g20_σ25 : σ25.1 218 20 = (σ0.1 218 20) := (hkv24.2.2.2.2.2.1).trans g20_σ14
        have g22_σ25 : σ25.1 218 22 = (σ0.1 218 22) := (hkv24.2.2.2.2.2.2.1).trans g22_σ14
        have g23_σ25 : σ25.1 218 23 = (σ0.1 218 23) := (hkv24.2.2.2.2.2.2.2.1).trans g23_σ14
        have g24_σ25 : σ25.1 218 24 = (σ0.1 218 24) := (hkv24.2.2.2.2.2.2.2.2.1).trans g24_σ14
        have g25_σ25 : σ25.1 218 25 = (σ0.1 218 25) := (hkv24.2.2.2.2.2.2.2.2.2).trans g25_σ14
        have m42 := hqv24.2
        rw [J_X12_readsSet_53.eq_1]
        refine ok_gC rfl ?_
        refine ok_zbX (Q := fun V => (V = 0 → ¬ σ25.1 218 14 = 0) ∧ (¬ V = 0 → σ25.1 218 14 = 0)) (x_X12_good) (fun v26 hqv26 => ?_)
        have hqv26 : (v26 = 0 → ¬ σ25.1 218 14 = 0) ∧ (¬ v26 = 0 → σ25.1 218 14 = 0) := hqv26
        try simp only [g7_σ25, g9_σ25, g14_σ25, g15_σ25, g20_σ25, g22_σ25, g23_σ25, g24_σ25, g25_σ25, hT.2 224 (by decide)] at hqv26
        refine ok_if (fun hc28 => ?_) (fun hc28 => ?_)
        · have qhc28 := hqv26.1 hc28
          have n57 := qhc28
          exact ok_some ⟨hT, (show (TOK σ25.1 ∧ (σ0.1 218 11).toInt ≤ (σ25.1 218 11).toInt ∧ (σ25.1 218 14 = 0 → σ0.1 218 14 = 0 ∧ (σ0.1 218 11).toInt < (σ25.1 218 11).toInt) ∧ ZB σ25.1) ∧ (σ25.1 218 7 = σ0.1 218 7 ∧ σ25.1 218 9 = σ0.1 218 9 ∧ σ25.1 218 20 = σ0.1 218 20 ∧ σ25.1 218 22 = σ0.1 218 22 ∧ σ25.1 218 23 = σ0.1 218 23 ∧ σ25.1 218 24 = σ0.1 218 24 ∧ σ25.1 218 25 = σ0.1 218 25) from ⟨by first | exact ⟨hK, by (try simp only [g7_σ25, g9_σ25, g14_σ25, g15_σ25, g20_σ25, g22_σ25, g23_σ25, g24_σ25, g25_σ25]); omega, fun q => absurd q (by (try simp only [g7_σ25, g9_σ25, g14_σ25, g15_σ25, g20_σ25, g22_σ25, g23_σ25, g24_σ25, g25_σ25]); exact n57), hB⟩ | exact ⟨hK, by (try simp only [g7_σ25, g9_σ25, g14_σ25, g15_σ25, g20_σ25, g22_σ25, g23_σ25, g24_σ25, g25_σ25]); omega, fun _ => ⟨(u13 y57).1.1, by (try simp only [g7_σ25, g9_σ25, g14_σ25, g15_σ25, g20_σ25, g22_σ25, g23_σ25, g24_σ25, g25_σ25]); exact (u13 y57).1.2⟩, hB⟩ | exact ⟨hK, by (try simp only [g7_σ25, g9_σ25, g14_σ25, g15_σ25, g20_σ25, g22_σ25, g23_σ25, g24_σ25, g25_σ25]); omega, fun _ => ⟨y30 y38, by (try simp only [g7_σ25, g9_σ25, g14_σ25, g15_σ25, g20_σ25, g22_σ25, g23_σ25, g24_σ25, g25_σ25]); omega⟩, hB⟩ | exact absurd y57 n50 | exact absurd y57 n38, g7_σ25, g9_σ25, g20_σ25, g22_σ25, g23_σ25, g24_σ25, g25_σ25⟩)⟩
        · have qhc28 := hqv26.2 hc28
          have y57 := qhc28
          refine ok_gR (v := 226) hT rfl (hR 218 16 rfl) ?_
          refine ok_gIv rfl g23_σ25 ?_
          refine ok_s16 hT rfl (by decide) (by rw [ti_add, m1]; first | omega | (simp only [Int32.reduceToInt]; omega)) (by rw [ti_add, m1]; first | omega | (simp only [Int32.reduceToInt]; omega)) (fun σ31 eσ31 hOσ31 hT => ?_)
          have hK : TOK σ31.1 := TOK_tr hOσ31 (by decide) (by decide) hK
          have hB : ZB σ31.1 := ZB_s eσ31 hB
          have g7_σ31 : σ31.1 218 7 = (σ0.1 218 7) := (congrFun (hOσ31.2 218 (by decide)) 7).trans g7_σ25
          have g9_σ31 : σ31.1 218 9 = (σ0.1 218 9) := (congrFun (hOσ31.2 218 (by decide)) 9).trans g9_σ25
          have g10_σ31 : σ31.1 218 10 = (σ25.1 218 10) := congrFun (hOσ31.2 218 (by decide)) 10
          have g11_σ31 : σ31.1 218 11 = (σ25.1 218 11) := congrFun (hOσ31.2 218 (by decide)) 11
          have g12_σ31 : σ31.1 218 12 = (σ25.1 218 12) := congrFun (hOσ31.2 218 (by decide)) 12
          have g13_σ31 : σ31.1 218 13 = (σ25.1 218 13) := congrFun (hOσ31.2 218 (by decide)) 13
          have g14_σ31 : σ31.1 218 14 = (σ14.1 218 14) := (congrFun (hOσ31.2 218 (by decide)) 14).trans g14_σ25
          have g15_σ31 : σ31.1 218 15 = (σ14.1 218 15) := (congrFun (hOσ31.2 218 (by decide)) 15).trans g15_σ25
          have g20_σ31 : σ31.1 218 20 = (σ0.1 218 20) := (congrFun (hOσ31.2 218 (by decide)) 20).trans g20_σ25
          have g22_σ31 : σ31.1 218 22 = (σ0.1 218 22) := (congrFun (hOσ31.2 218 (by decide)) 22).trans g22_σ25
          have g23_σ31 : σ31.1 218 23 = (σ0.1 218 23) := (congrFun (hOσ31.2 218 (by decide)) 23).trans g23_σ25
          have g24_σ31 : σ31.1 218 24 = (σ0.1 218 24) := (congrFun (hOσ31.2 218 (by decide)) 24).trans g24_σ25
          have g25_σ31 : σ31.1 218 25 = (σ0.1 218 25) := (congrFun (hOσ31.2 218 (by decide)) 25).trans g25_σ25
          exact ok_some ⟨hT, (show (TOK σ31.1 ∧ (σ0.1 218 11).toInt ≤ (σ31.1 218 11).toInt ∧ (σ31.1 218 14 = 0 → σ0.1 218 14 = 0 ∧ (σ0.1 218 11).toInt < (σ31.1 218 11).toInt) ∧ ZB σ31.1) ∧ (σ31.1 218 7 = σ0.1 218 7 ∧ σ31.1 218 9 = σ0.1 218 9 ∧ σ31.1 218 20 = σ0.1 218 20 ∧ σ31.1 218 22 = σ0.1 218 22 ∧ σ31.1 218 23 = σ0.1 218 23 ∧ σ31.1 218 24 = σ0.1 218 24 ∧ σ31.1 218 25 = σ0.1 218 25) from ⟨by first | exact ⟨hK, by (try simp only [g7_σ31, g9_σ31, g10_σ31, g11_σ31, g12_σ31, g13_σ31, g14_σ31, g15_σ31, g20_σ31, g22_σ31, g23_σ31, g24_σ31, g25_σ31]); omega, fun q => absurd q (by (try simp only [g7_σ31, g9_σ31, g10_σ31, g11_σ31, g12_σ31, g13_σ31, g14_σ31, g15_σ31, g20_σ31, g22_σ31, g23_σ31, g24_σ31, g25_σ31]); exact n57), hB⟩ | exact ⟨hK, by (try simp only [g7_σ31, g9_σ31, g10_σ31, g11_σ31, g12_σ31, g13_σ31, g14_σ31, g15_σ31, g20_σ31, g22_σ31, g23_σ31, g24_σ31, g25_σ31]); omega, fun _ => ⟨(u13 y57).1.1, by (try simp only [g7_σ31, g9_σ31, g10_σ31, g11_σ31, g12_σ31, g13_σ31, g14_σ31, g15_σ31, g20_σ31, g22_σ31, g23_σ31, g24_σ31, g25_σ31]); exact (u13 y57).1.2⟩, hB⟩ | exact ⟨hK, by (try simp only [g7_σ31, g9_σ31, g10_σ31, g11_σ31, g12_σ31, g13_σ31, g14_σ31, g15_σ31, g20_σ31, g22_σ31, g23_σ31, g24_σ31, g25_σ31]); omega, fun _ => ⟨y30 y38, by (try simp only [g7_σ31, g9_σ31, g10_σ31, g11_σ31, g12_σ31, g13_σ31, g14_σ31, g15_σ31, g20_σ31, g22_σ31, g23_σ31, g24_σ31, g25_σ31]); omega⟩, hB⟩ | exact absurd y57 n50 | exact absurd y57 n38, g7_σ31, g9_σ31, g20_σ31, g22_σ31, g23_σ31, g24_σ31, g25_σ31⟩)⟩
    · refine ok_gC rfl ?_
      refine ok_zbT (Q := fun V σ => (TOK σ.1 ∧ ¬ σ.1 218 14 = 0) ∧ (σ.1 218 7 = σ0.1 218 7 ∧ σ.1 218 9 = σ0.1 218 9 ∧ σ.1 218 10 = σ0.1 218 10 ∧ σ.1 218 11 = σ0.1 218 11 ∧ σ.1 218 12 = σ0.1 218 12 ∧ σ.1 218 13 = σ0.1 218 13 ∧ σ.1 218 20 = σ0.1 218 20 ∧ σ.1 218 22 = σ0.1 218 22 ∧ σ.1 218 23 = σ0.1 218 23 ∧ σ.1 218 24 = σ0.1 218 24 ∧ σ.1 218 25 = σ0.1 218 25)) hT (s_X12_errs hN (hR.tr hT) (hK) (by rw [hT.2 224 (by decide)]; exact hY) (by decide)) (by decide) (fun v32 σ33 hOσ33 hT hqv32 => ?_)
      have hqv32 : (TOK σ33.1 ∧ ¬ σ33.1 218 14 = 0) ∧ (σ33.1 218 7 = σ0.1 218 7 ∧ σ33.1 218 9 = σ0.1 218 9 ∧ σ33.1 218 10 = σ0.1 218 10 ∧ σ33.1 218 11 = σ0.1 218 11 ∧ σ33.1 218 12 = σ0.1 218 12 ∧ σ33.1 218 13 = σ0.1 218 13 ∧ σ33.1 218 20 = σ0.1 218 20 ∧ σ33.1 218 22 = σ0.1 218 22 ∧ σ33.1 218 23 = σ0.1 218 23 ∧ σ33.1 218 24 = σ0.1 218 24 ∧ σ33.1 218 25 = σ0.1 218 25) := hqv32
      have hkv32 := hqv32
      have hqv32 := hqv32.1
      have hK : TOK σ33.1 := by first | exact hqv32.1 | exact TOK_p eσ33 (by decide) hK
      have hB : ZB σ33.1 := ZB.tr hOσ33 (by decide) hB
      have g7_σ33 : σ33.1 218 7 = (σ0.1 218 7) := hkv32.2.1
      have g9_σ33 : σ33.1 218 9 = (σ0.1 218 9) := hkv32.2.2.1
      have g10_σ33 : σ33.1 218 10 = (σ0.1 218 10) := hkv32.2.2.2.1
      have g11_σ33 : σ33.1 218 11 = (σ0.1 218 11) := hkv32.2.2.2.2.1
      have g12_σ33 : σ33.1 218 12 = (σ0.1 218 12) := hkv32.2.2.2.2.2.1
      have g13_σ33 : σ33.1 218 13 = (σ0.1 218 13) := hkv32.2.2.2.2.2.2.1
      have g20_σ33 : σ33.1 218 20 = (σ0.1 218 20) := hkv32.2.2.2.2.2.2.2.1
      have g22_σ33 : σ33.1 218 22 = (σ0.1 218 22) := hkv32.2.2.2.2.2.2.2.2.1
      have g23_σ33 : σ33.1 218 23 = (σ0.1 218 23) := hkv32.2.2.2.2.2.2.2.2.2.1
      have g24_σ33 : σ33.1 218 24 = (σ0.1 218 24) := hkv32.2.2.2.2.2.2.2.2.2.2.1
      have g25_σ33 : σ33.1 218 25 = (σ0.1 218 25) := hkv32.2.2.2.2.2.2.2.2.2.2.2
      have n50 := hqv32.2
      rw [J_X12_readsSet_53.eq_1]
      refine ok_gC rfl ?_
      refine ok_zbX (Q := fun V => (V = 0 → ¬ σ33.1 218 14 = 0) ∧ (¬ V = 0 → σ33.1 218 14 = 0)) (x_X12_good) (fun v34 hqv34 => ?_)
      have hqv34 : (v34 = 0 → ¬ σ33.1 218 14 = 0) ∧ (¬ v34 = 0 → σ33.1 218 14 = 0) := hqv34
      try simp only [g7_σ33, g9_σ33, g10_σ33, g11_σ33, g12_σ33, g13_σ33, g20_σ33, g22_σ33, g23_σ33, g24_σ33, g25_σ33, hT.2 224 (by decide)] at hqv34
      refine ok_if (fun hc36 => ?_) (fun hc36 => ?_)
      · have qhc36 := hqv34.1 hc36
        have n57 := qhc36
        exact ok_some ⟨hT, (show (TOK σ33.1 ∧ (σ0.1 218 11).toInt ≤ (σ33.1 218 11).toInt ∧ (σ33.1 218 14 = 0 → σ0.1 218 14 = 0 ∧ (σ0.1 218 11).toInt < (σ33.1 218 11).toInt) ∧ ZB σ33.1) ∧ (σ33.1 218 7 = σ0.1 218 7 ∧ σ33.1 218 9 = σ0.1 218 9 ∧ σ33.1 218 20 = σ0.1 218 20 ∧ σ33.1 218 22 = σ0.1 218 22 ∧ σ33.1 218 23 = σ0.1 218 23 ∧ σ33.1 218 24 = σ0.1 218 24 ∧ σ33.1 218 25 = σ0.1 218 25) from ⟨by first | exact ⟨hK, by (try simp only [g7_σ33, g9_σ33, g10_σ33, g11_σ33, g12_σ33, g13_σ33, g20_σ33, g22_σ33, g23_σ33, g24_σ33, g25_σ33]); omega, fun q => absurd q (by (try simp only [g7_σ33, g9_σ33, g10_σ33, g11_σ33, g12_σ33, g13_σ33, g20_σ33, g22_σ33, g23_σ33, g24_σ33, g25_σ33]); exact n57), hB⟩ | exact ⟨hK, by (try simp only [g7_σ33, g9_σ33, g10_σ33, g11_σ33, g12_σ33, g13_σ33, g20_σ33, g22_σ33, g23_σ33, g24_σ33, g25_σ33]); omega, fun _ => ⟨(u13 y57).1.1, by (try simp only [g7_σ33, g9_σ33, g10_σ33, g11_σ33, g12_σ33, g13_σ33, g20_σ33, g22_σ33, g23_σ33, g24_σ33, g25_σ33]); exact (u13 y57).1.2⟩, hB⟩ | exact ⟨hK, by (try simp only [g7_σ33, g9_σ33, g10_σ33, g11_σ33, g12_σ33, g13_σ33, g20_σ33, g22_σ33, g23_σ33, g24_σ33, g25_σ33]); omega, fun _ => ⟨y30 y38, by (try simp only [g7_σ33, g9_σ33, g10_σ33, g11_σ33, g12_σ33, g13_σ33, g20_σ33, g22_σ33, g23_σ33, g24_σ33, g25_σ33]); omega⟩, hB⟩ | exact absurd y57 n50 | exact absurd y57 n38, g7_σ33, g9_σ33, g20_σ33, g22_σ33, g23_σ33, g24_σ33, g25_σ33⟩)⟩
      · have qhc36 := hqv34.2 hc36
        have y57 := qhc36
        refine ok_gR (v := 226) hT rfl (hR 218 16 rfl) ?_
        refine ok_gIv rfl g23_σ33 ?_
        refine ok_s16 hT rfl (by decide) (by rw [ti_add, m1]; first | omega | (simp only [Int32.reduceToInt]; omega)) (by rw [ti_add, m1]; first | omega | (simp only [Int32.reduceToInt]; omega)) (fun σ39 eσ39 hOσ39 hT => ?_)
        have hK : TOK σ39.1 := TOK_tr hOσ39 (by decide) (by decide) hK
        have hB : ZB σ39.1 := ZB_s eσ39 hB
        have g7_σ39 : σ39.1 218 7 = (σ0.1 218 7) := (congrFun (hOσ39.2 218 (by decide)) 7).trans g7_σ33
        have g9_σ39 : σ39.1 218 9 = (σ0.1 218 9) := (congrFun (hOσ39.2 218 (by decide)) 9).trans g9_σ33
        have g10_σ39 : σ39.1 218 10 = (σ0.1 218 10) := (congrFun (hOσ39.2 218 (by decide)) 10).trans g10_σ33
        have g11_σ39 : σ39.1 218 11 = (σ0.1 218 11) := (congrFun (hOσ39.2 218 (by decide)) 11).trans g11_σ33
        have g12_σ39 : σ39.1 218 12 = (σ0.1 218 12) := (congrFun (hOσ39.2 218 (by decide)) 12).trans g12_σ33
        have g13_σ39 : σ39.1 218 13 = (σ0.1 218 13) := (congrFun (hOσ39.2 218 (by decide)) 13).trans g13_σ33
        have g14_σ39 : σ39.1 218 14 = (σ33.1 218 14) := congrFun (hOσ39.2 218 (by decide)) 14
        have g15_σ39 : σ39.1 218 15 = (σ33.1 218 15) := congrFun (hOσ39.2 218 (by decide)) 15
        have g20_σ39 : σ39.1 218 20 = (σ0.1 218 20) := (congrFun (hOσ39.2 218 (by decide)) 20).trans g20_σ33
        have g22_σ39 : σ39.1 218 22 = (σ0.1 218 22) := (congrFun (hOσ39.2 218 (by decide)) 22).trans g22_σ33
        have g23_σ39 : σ39.1 218 23 = (σ0.1 218 23) := (congrFun (hOσ39.2 218 (by decide)) 23).trans g23_σ33
        have g24_σ39 : σ39.1 218 24 = (σ0.1 218 24) := (congrFun (hOσ39.2 218 (by decide)) 24).trans g24_σ33
        have g25_σ39 : σ39.1 218 25 = (σ0.1 218 25) := (congrFun (hOσ39.2 218 (by decide)) 25).trans g25_σ33
        exact ok_some ⟨hT, (show (TOK σ39.1 ∧ (σ0.1 218 11).toInt ≤ (σ39.1 218 11).toInt ∧ (σ39.1 218 14 = 0 → σ0.1 218 14 = 0 ∧ (σ0.1 218 11).toInt < (σ39.1 218 11).toInt) ∧ ZB σ39.1) ∧ (σ39.1 218 7 = σ0.1 218 7 ∧ σ39.1 218 9 = σ0.1 218 9 ∧ σ39.1 218 20 = σ0.1 218 20 ∧ σ39.1 218 22 = σ0.1 218 22 ∧ σ39.1 218 23 = σ0.1 218 23 ∧ σ39.1 218 24 = σ0.1 218 24 ∧ σ39.1 218 25 = σ0.1 218 25) from ⟨by first | exact ⟨hK, by (try simp only [g7_σ39, g9_σ39, g10_σ39, g11_σ39, g12_σ39, g13_σ39, g14_σ39, g15_σ39, g20_σ39, g22_σ39, g23_σ39, g24_σ39, g25_σ39]); omega, fun q => absurd q (by (try simp only [g7_σ39, g9_σ39, g10_σ39, g11_σ39, g12_σ39, g13_σ39, g14_σ39, g15_σ39, g20_σ39, g22_σ39, g23_σ39, g24_σ39, g25_σ39]); exact n57), hB⟩ | exact ⟨hK, by (try simp only [g7_σ39, g9_σ39, g10_σ39, g11_σ39, g12_σ39, g13_σ39, g14_σ39, g15_σ39, g20_σ39, g22_σ39, g23_σ39, g24_σ39, g25_σ39]); omega, fun _ => ⟨(u13 y57).1.1, by (try simp only [g7_σ39, g9_σ39, g10_σ39, g11_σ39, g12_σ39, g13_σ39, g14_σ39, g15_σ39, g20_σ39, g22_σ39, g23_σ39, g24_σ39, g25_σ39]); exact (u13 y57).1.2⟩, hB⟩ | exact ⟨hK, by (try simp only [g7_σ39, g9_σ39, g10_σ39, g11_σ39, g12_σ39, g13_σ39, g14_σ39, g15_σ39, g20_σ39, g22_σ39, g23_σ39, g24_σ39, g25_σ39]); omega, fun _ => ⟨y30 y38, by (try simp only [g7_σ39, g9_σ39, g10_σ39, g11_σ39, g12_σ39, g13_σ39, g14_σ39, g15_σ39, g20_σ39, g22_σ39, g23_σ39, g24_σ39, g25_σ39]); omega⟩, hB⟩ | exact absurd y57 n50 | exact absurd y57 n38, g7_σ39, g9_σ39, g20_σ39, g22_σ39, g23_σ39, g24_σ39, g25_σ39⟩)⟩

set_option maxHeartbeats 4000000 in
set_option maxRecDepth 100000 in
theorem s_X12_pushesEmpty {N : Nat} (hN : 1048576 ≤ N)  {σ0 : zS}  (hR : RF σ0.2.2) (hK : TOK σ0.1) (hY : BYT (σ0.1 224)) (hB : ZB σ0.1) (hp : 0 ≤ (σ0.1 218 23).toInt ∧ (σ0.1 218 23).toInt ≤ 17) : Ok (f_X12_pushesEmpty N 218 σ0) (fun r => Tr [218, 226] σ0 r.2 ∧ ((TOK r.2.1 ∧ ZB r.2.1 ∧ r.2.1 218 23 = σ0.1 218 23 + 1) ∧ (r.2.1 218 7 = σ0.1 218 7 ∧ r.2.1 218 9 = σ0.1 218 9 ∧ r.2.1 218 10 = σ0.1 218 10 ∧ r.2.1 218 11 = σ0.1 218 11 ∧ r.2.1 218 12 = σ0.1 218 12 ∧ r.2.1 218 13 = σ0.1 218 13 ∧ r.2.1 218 14 = σ0.1 218 14 ∧ r.2.1 218 15 = σ0.1 218 15 ∧ r.2.1 218 20 = σ0.1 218 20 ∧ r.2.1 218 22 = σ0.1 218 22 ∧ r.2.1 218 24 = σ0.1 218 24 ∧ r.2.1 218 25 = σ0.1 218 25))) := by
  have hT : Tr [218, 226] σ0 σ0 := Tr.rf
  have hK1 := hK.1
  have m1 := p1024 (p := σ0.1 218 23) rfl hp.1 hp.2
  rw [f_X12_pushesEmpty.eq_1]
  refine ok_lp (fun t : Int32 × zS => Tr [218, 226] σ0 (t.2) ∧ (0 ≤ (t.1).toInt) ∧ (TOK (t.2).1) ∧ (ZB (t.2).1) ∧ ((t.2).1 218 7 = (σ0.1 218 7)) ∧ ((t.2).1 218 9 = (σ0.1 218 9)) ∧ ((t.2).1 218 10 = (σ0.1 218 10)) ∧ ((t.2).1 218 11 = (σ0.1 218 11)) ∧ ((t.2).1 218 12 = (σ0.1 218 12)) ∧ ((t.2).1 218 13 = (σ0.1 218 13)) ∧ ((t.2).1 218 14 = (σ0.1 218 14)) ∧ ((t.2).1 218 15 = (σ0.1 218 15)) ∧ ((t.2).1 218 20 = (σ0.1 218 20)) ∧ ((t.2).1 218 22 = (σ0.1 218 22)) ∧ ((t.2).1 218 23 = (σ0.1 218 23)) ∧ ((t.2).1 218 24 = (σ0.1 218 24)) ∧ ((t.2).1 218 25 = (σ0.1 218 25))) (fun t : Int32 × zS => (1024 - (t.1).toInt).toNat) (fun again1 t hI ih2_1 => ?_) N _ (show Tr [218, 226] σ0 σ0 ∧ (0 ≤ (0 : Int32).toInt) ∧ (TOK σ0.1) ∧ (ZB σ0.1) ∧ (σ0.1 218 7 = (σ0.1 218 7)) ∧ (σ0.1 218 9 = (σ0.1 218 9)) ∧ (σ0.1 218 10 = (σ0.1 218 10)) ∧ (σ0.1 218 11 = (σ0.1 218 11)) ∧ (σ0.1 218 12 = (σ0.1 218 12)) ∧ (σ0.1 218 13 = (σ0.1 218 13)) ∧ (σ0.1 218 14 = (σ0.1 218 14)) ∧ (σ0.1 218 15 = (σ0.1 218 15)) ∧ (σ0.1 218 20 = (σ0.1 218 20)) ∧ (σ0.1 218 22 = (σ0.1 218 22)) ∧ (σ0.1 218 23 = (σ0.1 218 23)) ∧ (σ0.1 218 24 = (σ0.1 218 24)) ∧ (σ0.1 218 25 = (σ0.1 218 25)) from ⟨hT, (by decide), hK, hB, rfl, rfl, rfl, rfl, rfl, rfl, rfl, rfl, rfl, rfl, rfl, rfl, rfl⟩) (show (1024 - (0 : Int32).toInt).toNat < N from (by simp only [Int32.reduceToInt]; omega))
  obtain ⟨x1_1, σ1⟩ := t
  have hI : Tr [218, 226] σ0 σ1 ∧ (0 ≤ x1_1.toInt) ∧ (TOK σ1.1) ∧ (ZB σ1.1) ∧ (σ1.1 218 7 = (σ0.1 218 7)) ∧ (σ1.1 218 9 = (σ0.1 218 9)) ∧ (σ1.1 218 10 = (σ0.1 218 10)) ∧ (σ1.1 218 11 = (σ0.1 218 11)) ∧ (σ1.1 218 12 = (σ0.1 218 12)) ∧ (σ1.1 218 13 = (σ0.1 218 13)) ∧ (σ1.1 218 14 = (σ0.1 218 14)) ∧ (σ1.1 218 15 = (σ0.1 218 15)) ∧ (σ1.1 218 20 = (σ0.1 218 20)) ∧ (σ1.1 218 22 = (σ0.1 218 22)) ∧ (σ1.1 218 23 = (σ0.1 218 23)) ∧ (σ1.1 218 24 = (σ0.1 218 24)) ∧ (σ1.1 218 25 = (σ0.1 218 25)) := hI
  obtain ⟨hT, hI1, hK, hB, g7_σ1, g9_σ1, g10_σ1, g11_σ1, g12_σ1, g13_σ1, g14_σ1, g15_σ1, g20_σ1, g22_σ1, g23_σ1, g24_σ1, g25_σ1⟩ := hI
  rw [F_X12_pushesEmpty_2.eq_1]
  refine ok_if (fun hc2 => ?_) (fun hc2 => ?_)
  · refine ok_gIv rfl g23_σ1 ?_
    refine ok_pI hT rfl (by decide) (fun σ4 eσ4 hOσ4 hT => ?_)
    have hK : TOK σ4.1 := by first | exact HQ.1 | exact TOK_p eσ4 (by decide) hK
    have hB : ZB σ4.1 := ZB.tr hOσ4 (by decide) hB
    have g7_σ4 : σ4.1 218 7 = (σ0.1 218 7) := (zI_atN eσ4 (by decide)).trans g7_σ1
    have g9_σ4 : σ4.1 218 9 = (σ0.1 218 9) := (zI_atN eσ4 (by decide)).trans g9_σ1
    have g10_σ4 : σ4.1 218 10 = (σ0.1 218 10) := (zI_atN eσ4 (by decide)).trans g10_σ1
    have g11_σ4 : σ4.1 218 11 = (σ0.1 218 11) := (zI_atN eσ4 (by decide)).trans g11_σ1
    have g12_σ4 : σ4.1 218 12 = (σ0.1 218 12) := (zI_atN eσ4 (by decide)).trans g12_σ1
    have g13_σ4 : σ4.1 218 13 = (σ0.1 218 13) := (zI_atN eσ4 (by decide)).trans g13_σ1
    have g14_σ4 : σ4.1 218 14 = (σ0.1 218 14) := (zI_atN eσ4 (by decide)).trans g14_σ1
    have g15_σ4 : σ4.1 218 15 = (σ0.1 218 15) := (zI_atN eσ4 (by decide)).trans g15_σ1
    have g20_σ4 : σ4.1 218 20 = (σ0.1 218 20) := (zI_atN eσ4 (by decide)).trans g20_σ1
    have g22_σ4 : σ4.1 218 22 = (σ0.1 218 22) := (zI_atN eσ4 (by decide)).trans g22_σ1
    have g23_σ4 : σ4.1 218 23 = ((σ0.1 218 23) + 1) := zI_atI eσ4
    have g24_σ4 : σ4.1 218 24 = (σ0.1 218 24) := (zI_atN eσ4 (by decide)).trans g24_σ1
    have g25_σ4 : σ4.1 218 25 = (σ0.1 218 25) := (zI_atN eσ4 (by decide)).trans g25_σ1
    exact ok_some ⟨hT, (show (TOK σ4.1 ∧ ZB σ4.1 ∧ σ4.1 218 23 = σ0.1 218 23 + 1) ∧ (σ4.1 218 7 = σ0.1 218 7 ∧ σ4.1 218 9 = σ0.1 218 9 ∧ σ4.1 218 10 = σ0.1 218 10 ∧ σ4.1 218 11 = σ0.1 218 11 ∧ σ4.1 218 12 = σ0.1 218 12 ∧ σ4.1 218 13 = σ0.1 218 13 ∧ σ4.1 218 14 = σ0.1 218 14 ∧ σ4.1 218 15 = σ0.1 218 15 ∧ σ4.1 218 20 = σ0.1 218 20 ∧ σ4.1 218 22 = σ0.1 218 22 ∧ σ4.1 218 24 = σ0.1 218 24 ∧ σ4.1 218 25 = σ0.1 218 25) from ⟨by exact ⟨hK, hB, g23_σ4⟩, g7_σ4, g9_σ4, g10_σ4, g11_σ4, g12_σ4, g13_σ4, g14_σ4, g15_σ4, g20_σ4, g22_σ4, g24_σ4, g25_σ4⟩)⟩
  · have l6 := hc2
    rw [Int32.le_iff_toInt_le] at l6
    simp only [Int32.reduceToInt] at l6
    have s6 : (x1_1 + 1).toInt = x1_1.toInt + 1 := by rw [ti_add]; simp only [Int32.reduceToInt]; omega
    refine ok_gR (v := 226) hT rfl (hR 218 16 rfl) ?_
    refine ok_gIv rfl g23_σ1 ?_
    refine ok_s16 hT rfl (by decide) (by rw [ti_add, m1]; omega) (by rw [ti_add, m1]; omega) (fun σ7 eσ7 hOσ7 hT => ?_)
    have hK : TOK σ7.1 := TOK_tr hOσ7 (by decide) (by decide) hK
    have hB : ZB σ7.1 := ZB_s eσ7 hB
    have g7_σ7 : σ7.1 218 7 = (σ0.1 218 7) := (congrFun (hOσ7.2 218 (by decide)) 7).trans g7_σ1
    have g9_σ7 : σ7.1 218 9 = (σ0.1 218 9) := (congrFun (hOσ7.2 218 (by decide)) 9).trans g9_σ1
    have g10_σ7 : σ7.1 218 10 = (σ0.1 218 10) := (congrFun (hOσ7.2 218 (by decide)) 10).trans g10_σ1
    have g11_σ7 : σ7.1 218 11 = (σ0.1 218 11) := (congrFun (hOσ7.2 218 (by decide)) 11).trans g11_σ1
    have g12_σ7 : σ7.1 218 12 = (σ0.1 218 12) := (congrFun (hOσ7.2 218 (by decide)) 12).trans g12_σ1
    have g13_σ7 : σ7.1 218 13 = (σ0.1 218 13) := (congrFun (hOσ7.2 218 (by decide)) 13).trans g13_σ1
    have g14_σ7 : σ7.1 218 14 = (σ0.1 218 14) := (congrFun (hOσ7.2 218 (by decide)) 14).trans g14_σ1
    have g15_σ7 : σ7.1 218 15 = (σ0.1 218 15) := (congrFun (hOσ7.2 218 (by decide)) 15).trans g15_σ1
    have g20_σ7 : σ7.1 218 20 = (σ0.1 218 20) := (congrFun (hOσ7.2 218 (by decide)) 20).trans g20_σ1
    have g22_σ7 : σ7.1 218 22 = (σ0.1 218 22) := (congrFun (hOσ7.2 218 (by decide)) 22).trans g22_σ1
    have g23_σ7 : σ7.1 218 23 = (σ0.1 218 23) := (congrFun (hOσ7.2 218 (by decide)) 23).trans g23_σ1
    have g24_σ7 : σ7.1 218 24 = (σ0.1 218 24) := (congrFun (hOσ7.2 218 (by decide)) 24).trans g24_σ1
    have g25_σ7 : σ7.1 218 25 = (σ0.1 218 25) := (congrFun (hOσ7.2 218 (by decide)) 25).trans g25_σ1
    exact ih2_1 (x1_1 + 1, σ7) (show Tr [218, 226] σ0 σ7 ∧ (0 ≤ (x1_1 + 1).toInt) ∧ (TOK σ7.1) ∧ (ZB σ7.1) ∧ (σ7.1 218 7 = (σ0.1 218 7)) ∧ (σ7.1 218 9 = (σ0.1 218 9)) ∧ (σ7.1 218 10 = (σ0.1 218 10)) ∧ (σ7.1 218 11 = (σ0.1 218 11)) ∧ (σ7.1 218 12 = (σ0.1 218 12)) ∧ (σ7.1 218 13 = (σ0.1 218 13)) ∧ (σ7.1 218 14 = (σ0.1 218 14)) ∧ (σ7.1 218 15 = (σ0.1 218 15)) ∧ (σ7.1 218 20 = (σ0.1 218 20)) ∧ (σ7.1 218 22 = (σ0.1 218 22)) ∧ (σ7.1 218 23 = (σ0.1 218 23)) ∧ (σ7.1 218 24 = (σ0.1 218 24)) ∧ (σ7.1 218 25 = (σ0.1 218 25)) from ⟨hT, (by rw [s6]; omega), hK, hB, g7_σ7, g9_σ7, g10_σ7, g11_σ7, g12_σ7, g13_σ7, g14_σ7, g15_σ7, g20_σ7, g22_σ7, g23_σ7, g24_σ7, g25_σ7⟩) (show (1024 - (x1_1 + 1).toInt).toNat < (1024 - x1_1.toInt).toNat from (by rw [s6]; omega))

set_option maxHeartbeats 4000000 in
set_option maxRecDepth 100000 in
theorem s_X12_readsSets {N : Nat} (hN : 1048576 ≤ N) {x1 : Int32} {σ0 : zS}  (hR : RF σ0.2.2) (hK : TOK σ0.1) (hY : BYT (σ0.1 224)) (hB : ZB σ0.1) (hn : 0 ≤ x1.toInt ∧ x1.toInt ≤ 10) (hp : 0 ≤ (σ0.1 218 23).toInt ∧ (σ0.1 218 23).toInt ≤ 17) (h12 : ¬ σ0.1 218 12 = 0) : Ok (f_X12_readsSets N 218 x1 σ0) (fun r => Tr [218, 226] σ0 r.2 ∧ ((TOK r.2.1 ∧ (σ0.1 218 11).toInt ≤ (r.2.1 218 11).toInt ∧ (r.2.1 218 14 = 0 → σ0.1 218 14 = 0 ∧ (σ0.1 218 11).toInt < (r.2.1 218 11).toInt) ∧ ZB r.2.1 ∧ r.2.1 218 23 = σ0.1 218 23 + 1) ∧ (r.2.1 218 7 = σ0.1 218 7 ∧ r.2.1 218 9 = σ0.1 218 9 ∧ r.2.1 218 20 = σ0.1 218 20 ∧ r.2.1 218 22 = σ0.1 218 22 ∧ r.2.1 218 24 = σ0.1 218 24 ∧ r.2.1 218 25 = σ0.1 218 25))) := by
  have hT : Tr [218, 226] σ0 σ0 := Tr.rf
  have hK1 := hK.1
  have l12 := hK.2.1 h12
  rw [f_X12_readsSets.eq_1]
  refine ok_gC rfl ?_
  refine ok_zbT (Q := fun V σ => (TOK σ.1 ∧ (σ0.1 218 10).toInt ≤ (σ.1 218 11).toInt) ∧ (σ.1 218 7 = σ0.1 218 7 ∧ σ.1 218 9 = σ0.1 218 9 ∧ σ.1 218 14 = σ0.1 218 14 ∧ σ.1 218 15 = σ0.1 218 15 ∧ σ.1 218 20 = σ0.1 218 20 ∧ σ.1 218 22 = σ0.1 218 22 ∧ σ.1 218 23 = σ0.1 218 23 ∧ σ.1 218 24 = σ0.1 218 24 ∧ σ.1 218 25 = σ0.1 218 25)) hT (s_X12_advance hN (hR.tr hT) (TOK_A hK) (by rw [hT.2 224 (by decide)]; exact hY)) (by decide) (fun v1 σ2 hOσ2 hT hqv1 => ?_)
  have hqv1 : (TOK σ2.1 ∧ (σ0.1 218 10).toInt ≤ (σ2.1 218 11).toInt) ∧ (σ2.1 218 7 = σ0.1 218 7 ∧ σ2.1 218 9 = σ0.1 218 9 ∧ σ2.1 218 14 = σ0.1 218 14 ∧ σ2.1 218 15 = σ0.1 218 15 ∧ σ2.1 218 20 = σ0.1 218 20 ∧ σ2.1 218 22 = σ0.1 218 22 ∧ σ2.1 218 23 = σ0.1 218 23 ∧ σ2.1 218 24 = σ0.1 218 24 ∧ σ2.1 218 25 = σ0.1 218 25) := hqv1
  have hkv1 := hqv1
  have hqv1 := hqv1.1
  have hK : TOK σ2.1 := by first | exact hqv1.1 | exact TOK_p eσ2 (by decide) hK
  have hB : ZB σ2.1 := ZB.tr hOσ2 (by decide) hB
  have g7_σ2 : σ2.1 218 7 = (σ0.1 218 7) := hkv1.2.1
  have g9_σ2 : σ2.1 218 9 = (σ0.1 218 9) := hkv1.2.2.1
  have g14_σ2 : σ2.1 218 14 = (σ0.1 218 14) := hkv1.2.2.2.1
  have g15_σ2 : σ2.1 218 15 = (σ0.1 218 15) := hkv1.2.2.2.2.1
  have g20_σ2 : σ2.1 218 20 = (σ0.1 218 20) := hkv1.2.2.2.2.2.1
  have g22_σ2 : σ2.1 218 22 = (σ0.1 218 22) := hkv1.2.2.2.2.2.2.1
  have g23_σ2 : σ2.1 218 23 = (σ0.1 218 23) := hkv1.2.2.2.2.2.2.2.1
  have g24_σ2 : σ2.1 218 24 = (σ0.1 218 24) := hkv1.2.2.2.2.2.2.2.2.1
  have g25_σ2 : σ2.1 218 25 = (σ0.1 218 25) := hkv1.2.2.2.2.2.2.2.2.2
  have m1 := hqv1.2
  refine ok_gC rfl ?_
  refine ok_zbT (Q := fun V σ => (TOK σ.1 ∧ ZB σ.1 ∧ σ.1 218 23 = σ2.1 218 23 + 1) ∧ (σ.1 218 7 = σ2.1 218 7 ∧ σ.1 218 9 = σ2.1 218 9 ∧ σ.1 218 10 = σ2.1 218 10 ∧ σ.1 218 11 = σ2.1 218 11 ∧ σ.1 218 12 = σ2.1 218 12 ∧ σ.1 218 13 = σ2.1 218 13 ∧ σ.1 218 14 = σ2.1 218 14 ∧ σ.1 218 15 = σ2.1 218 15 ∧ σ.1 218 20 = σ2.1 218 20 ∧ σ.1 218 22 = σ2.1 218 22 ∧ σ.1 218 24 = σ2.1 218 24 ∧ σ.1 218 25 = σ2.1 218 25)) hT (s_X12_pushesEmpty hN (hR.tr hT) (hK) (by rw [hT.2 224 (by decide)]; exact hY) (hB) (by (try simp only [g7_σ2, g9_σ2, g14_σ2, g15_σ2, g20_σ2, g22_σ2, g23_σ2, g24_σ2, g25_σ2]); exact hp)) (by decide) (fun v3 σ4 hOσ4 hT hqv3 => ?_)
  have hqv3 : (TOK σ4.1 ∧ ZB σ4.1 ∧ σ4.1 218 23 = σ2.1 218 23 + 1) ∧ (σ4.1 218 7 = σ2.1 218 7 ∧ σ4.1 218 9 = σ2.1 218 9 ∧ σ4.1 218 10 = σ2.1 218 10 ∧ σ4.1 218 11 = σ2.1 218 11 ∧ σ4.1 218 12 = σ2.1 218 12 ∧ σ4.1 218 13 = σ2.1 218 13 ∧ σ4.1 218 14 = σ2.1 218 14 ∧ σ4.1 218 15 = σ2.1 218 15 ∧ σ4.1 218 20 = σ2.1 218 20 ∧ σ4.1 218 22 = σ2.1 218 22 ∧ σ4.1 218 24 = σ2.1 218 24 ∧ σ4.1 218 25 = σ2.1 218 25) := hqv3
  have hkv3 := hqv3
  have hqv3 := hqv3.1
  have hK : TOK σ4.1 := by first | exact hqv3.1 | exact TOK_p eσ4 (by decide) hK
  have hB : ZB σ4.1 := by first | exact hqv3.2.1 | exact hqv3.2.2.2
  try simp only [g7_σ2, g9_σ2, g14_σ2, g15_σ2, g20_σ2, g22_σ2, g23_σ2, g24_σ2, g25_σ2] at hqv3
  have g7_σ4 : σ4.1 218 7 = (σ0.1 218 7) := (hkv3.2.1).trans g7_σ2
  have g9_σ4 : σ4.1 218 9 = (σ0.1 218 9) := (hkv3.2.2.1).trans g9_σ2
  have g10_σ4 : σ4.1 218 10 = (σ2.1 218 10) := hkv3.2.2.2.1
  have g11_σ4 : σ4.1 218 11 = (σ2.1 218 11) := hkv3.2.2.2.2.1
  have g12_σ4 : σ4.1 218 12 = (σ2.1 218 12) := hkv3.2.2.2.2.2.1
  have g13_σ4 : σ4.1 218 13 = (σ2.1 218 13) := hkv3.2.2.2.2.2.2.1
  have g14_σ4 : σ4.1 218 14 = (σ0.1 218 14) := (hkv3.2.2.2.2.2.2.2.1).trans g14_σ2
  have g15_σ4 : σ4.1 218 15 = (σ0.1 218 15) := (hkv3.2.2.2.2.2.2.2.2.1).trans g15_σ2
  have g20_σ4 : σ4.1 218 20 = (σ0.1 218 20) := (hkv3.2.2.2.2.2.2.2.2.2.1).trans g20_σ2
  have g22_σ4 : σ4.1 218 22 = (σ0.1 218 22) := (hkv3.2.2.2.2.2.2.2.2.2.2.1).trans g22_σ2
  have g24_σ4 : σ4.1 218 24 = (σ0.1 218 24) := (hkv3.2.2.2.2.2.2.2.2.2.2.2.1).trans g24_σ2
  have g25_σ4 : σ4.1 218 25 = (σ0.1 218 25) := (hkv3.2.2.2.2.2.2.2.2.2.2.2.2).trans g25_σ2
  have g5 := hqv3.2.2
  have s5 : (σ4.1 218 23).toInt = (σ0.1 218 23).toInt + 1 := by rw [g5, ti_add]; simp only [Int32.reduceToInt]; omega
  refine ok_gIv rfl g12_σ4 ?_
  refine ok_if (fun hc6 => ?_) (fun hc6 => ?_)
  · refine ok_gC rfl ?_
    refine ok_zbT (Q := fun V σ => (TOK σ.1 ∧ (σ4.1 218 11).toInt ≤ (σ.1 218 11).toInt ∧ (σ.1 218 14 = 0 → σ4.1 218 14 = 0 ∧ (σ4.1 218 11).toInt < (σ.1 218 11).toInt)) ∧ (σ.1 218 7 = σ4.1 218 7 ∧ σ.1 218 9 = σ4.1 218 9 ∧ σ.1 218 20 = σ4.1 218 20 ∧ σ.1 218 22 = σ4.1 218 22 ∧ σ.1 218 23 = σ4.1 218 23 ∧ σ.1 218 24 = σ4.1 218 24 ∧ σ.1 218 25 = σ4.1 218 25)) hT (s_X12_needsSign hN (hR.tr hT) (hK) (by rw [hT.2 224 (by decide)]; exact hY) (by decide)) (by decide) (fun v7 σ8 hOσ8 hT hqv7 => ?_)
    have hqv7 : (TOK σ8.1 ∧ (σ4.1 218 11).toInt ≤ (σ8.1 218 11).toInt ∧ (σ8.1 218 14 = 0 → σ4.1 218 14 = 0 ∧ (σ4.1 218 11).toInt < (σ8.1 218 11).toInt)) ∧ (σ8.1 218 7 = σ4.1 218 7 ∧ σ8.1 218 9 = σ4.1 218 9 ∧ σ8.1 218 20 = σ4.1 218 20 ∧ σ8.1 218 22 = σ4.1 218 22 ∧ σ8.1 218 23 = σ4.1 218 23 ∧ σ8.1 218 24 = σ4.1 218 24 ∧ σ8.1 218 25 = σ4.1 218 25) := hqv7
    have hkv7 := hqv7
    have hqv7 := hqv7.1
    have hK : TOK σ8.1 := by first | exact hqv7.1 | exact TOK_p eσ8 (by decide) hK
    have hB : ZB σ8.1 := ZB.tr hOσ8 (by decide) hB
    try simp only [g7_σ4, g9_σ4, g10_σ4, g11_σ4, g12_σ4, g13_σ4, g14_σ4, g15_σ4, g20_σ4, g22_σ4, g24_σ4, g25_σ4] at hqv7
    have g7_σ8 : σ8.1 218 7 = (σ0.1 218 7) := (hkv7.2.1).trans g7_σ4
    have g9_σ8 : σ8.1 218 9 = (σ0.1 218 9) := (hkv7.2.2.1).trans g9_σ4
    have g20_σ8 : σ8.1 218 20 = (σ0.1 218 20) := (hkv7.2.2.2.1).trans g20_σ4
    have g22_σ8 : σ8.1 218 22 = (σ0.1 218 22) := (hkv7.2.2.2.2.1).trans g22_σ4
    have g23_σ8 : σ8.1 218 23 = (σ4.1 218 23) := hkv7.2.2.2.2.2.1
    have g24_σ8 : σ8.1 218 24 = (σ0.1 218 24) := (hkv7.2.2.2.2.2.2.1).trans g24_σ4
    have g25_σ8 : σ8.1 218 25 = (σ0.1 218 25) := (hkv7.2.2.2.2.2.2.2).trans g25_σ4
    have m53 := hqv7.2.1
    have u53 := hqv7.2.2
    exact ok_some ⟨hT, (show (TOK σ8.1 ∧ (σ0.1 218 11).toInt ≤ (σ8.1 218 11).toInt ∧ (σ8.1 218 14 = 0 → σ0.1 218 14 = 0 ∧ (σ0.1 218 11).toInt < (σ8.1 218 11).toInt) ∧ ZB σ8.1 ∧ σ8.1 218 23 = σ0.1 218 23 + 1) ∧ (σ8.1 218 7 = σ0.1 218 7 ∧ σ8.1 218 9 = σ0.1 218 9 ∧ σ8.1 218 20 = σ0.1 218 20 ∧ σ8.1 218 22 = σ0.1 218 22 ∧ σ8.1 218 24 = σ0.1 218 24 ∧ σ8.1 218 25 = σ0.1 218 25) from ⟨by first | exact ⟨hK, by (try simp only [g7_σ8, g9_σ8, g20_σ8, g22_σ8, g23_σ8, g24_σ8, g25_σ8]); omega, fun q => ⟨(u53 q).1, by (try simp only [g7_σ8, g9_σ8, g20_σ8, g22_σ8, g23_σ8, g24_σ8, g25_σ8]); omega⟩, hB, (g23_σ8).trans g5⟩ | exact ⟨hK, by (try simp only [g7_σ8, g9_σ8, g20_σ8, g22_σ8, g23_σ8, g24_σ8, g25_σ8]); omega, fun q => ⟨i2 (u53 q).1, by (try simp only [g7_σ8, g9_σ8, g20_σ8, g22_σ8, g23_σ8, g24_σ8, g25_σ8]); omega⟩, hB, (g23_σ8).trans g5⟩, g7_σ8, g9_σ8, g20_σ8, g22_σ8, g24_σ8, g25_σ8⟩)⟩
  · refine ok_gC rfl ?_
    refine ok_zbT (Q := fun V σ => (TOK σ.1 ∧ (σ4.1 218 11).toInt ≤ (σ.1 218 11).toInt ∧ (σ.1 218 14 = 0 → σ4.1 218 14 = 0 ∧ (σ4.1 218 11).toInt < (σ.1 218 11).toInt) ∧ ZB σ.1) ∧ (σ.1 218 7 = σ4.1 218 7 ∧ σ.1 218 9 = σ4.1 218 9 ∧ σ.1 218 20 = σ4.1 218 20 ∧ σ.1 218 22 = σ4.1 218 22 ∧ σ.1 218 23 = σ4.1 218 23 ∧ σ.1 218 24 = σ4.1 218 24 ∧ σ.1 218 25 = σ4.1 218 25)) hT (s_X12_readsSet hN (hR.tr hT) (hK) (by rw [hT.2 224 (by decide)]; exact hY) (hB) (hn) (by (try simp only [g7_σ4, g9_σ4, g10_σ4, g11_σ4, g12_σ4, g13_σ4, g14_σ4, g15_σ4, g20_σ4, g22_σ4, g24_σ4, g25_σ4]); omega)) (by decide) (fun v9 σ10 hOσ10 hT hqv9 => ?_)
    have hqv9 : (TOK σ10.1 ∧ (σ4.1 218 11).toInt ≤ (σ10.1 218 11).toInt ∧ (σ10.1 218 14 = 0 → σ4.1 218 14 = 0 ∧ (σ4.1 218 11).toInt < (σ10.1 218 11).toInt) ∧ ZB σ10.1) ∧ (σ10.1 218 7 = σ4.1 218 7 ∧ σ10.1 218 9 = σ4.1 218 9 ∧ σ10.1 218 20 = σ4.1 218 20 ∧ σ10.1 218 22 = σ4.1 218 22 ∧ σ10.1 218 23 = σ4.1 218 23 ∧ σ10.1 218 24 = σ4.1 218 24 ∧ σ10.1 218 25 = σ4.1 218 25) := hqv9
    have hkv9 := hqv9
    have hqv9 := hqv9.1
    have hK : TOK σ10.1 := by first | exact hqv9.1 | exact TOK_p eσ10 (by decide) hK
    have hB : ZB σ10.1 := by first | exact hqv9.2.1 | exact hqv9.2.2.2
    try simp only [g7_σ4, g9_σ4, g10_σ4, g11_σ4, g12_σ4, g13_σ4, g14_σ4, g15_σ4, g20_σ4, g22_σ4, g24_σ4, g25_σ4] at hqv9
    have g7_σ10 : σ10.1 218 7 = (σ0.1 218 7) := (hkv9.2.1).trans g7_σ4
    have g9_σ10 : σ10.1 218 9 = (σ0.1 218 9) := (hkv9.2.2.1).trans g9_σ4
    have g20_σ10 : σ10.1 218 20 = (σ0.1 218 20) := (hkv9.2.2.2.1).trans g20_σ4
    have g22_σ10 : σ10.1 218 22 = (σ0.1 218 22) := (hkv9.2.2.2.2.1).trans g22_σ4
    have g23_σ10 : σ10.1 218 23 = (σ4.1 218 23) := hkv9.2.2.2.2.2.1
    have g24_σ10 : σ10.1 218 24 = (σ0.1 218 24) := (hkv9.2.2.2.2.2.2.1).trans g24_σ4
    have g25_σ10 : σ10.1 218 25 = (σ0.1 218 25) := (hkv9.2.2.2.2.2.2.2).trans g25_σ4
    have m19 := hqv9.2.1
    have u19 := hqv9.2.2.1
    refine ok_lp (fun t : zS => Tr [218, 226] σ0 (t) ∧ ((σ0.1 218 11).toInt < ((t).1 218 11).toInt ∧ ((t).1 218 14 = 0 → σ0.1 218 14 = 0)) ∧ (TOK (t).1) ∧ (ZB (t).1) ∧ ((t).1 218 7 = (σ0.1 218 7)) ∧ ((t).1 218 9 = (σ0.1 218 9)) ∧ ((t).1 218 20 = (σ0.1 218 20)) ∧ ((t).1 218 22 = (σ0.1 218 22)) ∧ ((t).1 218 23 = (σ4.1 218 23)) ∧ ((t).1 218 24 = (σ0.1 218 24)) ∧ ((t).1 218 25 = (σ0.1 218 25))) (fun t : zS => (600 - ((t).1 218 11).toInt).toNat) (fun again11 t hI ih22_11 => ?_) N _ (show Tr [218, 226] σ0 σ10 ∧ ((σ0.1 218 11).toInt < (σ10.1 218 11).toInt ∧ (σ10.1 218 14 = 0 → σ0.1 218 14 = 0)) ∧ (TOK σ10.1) ∧ (ZB σ10.1) ∧ (σ10.1 218 7 = (σ0.1 218 7)) ∧ (σ10.1 218 9 = (σ0.1 218 9)) ∧ (σ10.1 218 20 = (σ0.1 218 20)) ∧ (σ10.1 218 22 = (σ0.1 218 22)) ∧ (σ10.1 218 23 = (σ4.1 218 23)) ∧ (σ10.1 218 24 = (σ0.1 218 24)) ∧ (σ10.1 218 25 = (σ0.1 218 25)) from ⟨hT, (by exact ⟨by (try simp only [g7_σ10, g9_σ10, g20_σ10, g22_σ10, g23_σ10, g24_σ10, g25_σ10]); omega, fun q => (u19 q).1⟩), hK, hB, g7_σ10, g9_σ10, g20_σ10, g22_σ10, g23_σ10, g24_σ10, g25_σ10⟩) (show (600 - (σ10.1 218 11).toInt).toNat < N from (by omega))
    obtain ⟨σ11, rfl⟩ : ∃ x, x = t := ⟨t, rfl⟩
    have hI : Tr [218, 226] σ0 σ11 ∧ ((σ0.1 218 11).toInt < (σ11.1 218 11).toInt ∧ (σ11.1 218 14 = 0 → σ0.1 218 14 = 0)) ∧ (TOK σ11.1) ∧ (ZB σ11.1) ∧ (σ11.1 218 7 = (σ0.1 218 7)) ∧ (σ11.1 218 9 = (σ0.1 218 9)) ∧ (σ11.1 218 20 = (σ0.1 218 20)) ∧ (σ11.1 218 22 = (σ0.1 218 22)) ∧ (σ11.1 218 23 = (σ4.1 218 23)) ∧ (σ11.1 218 24 = (σ0.1 218 24)) ∧ (σ11.1 218 25 = (σ0.1 218 25)) := hI
    obtain ⟨hT, hI11, hK, hB, g7_σ11, g9_σ11, g20_σ11, g22_σ11, g23_σ11, g24_σ11, g25_σ11⟩ := hI
    rw [F_X12_readsSets_22.eq_1]
    have i1 := hI11.1
    have i2 := hI11.2
    have hK9 := hK.1
    refine ok_gC rfl ?_
    refine ok_zbX (Q := fun V => (V = 0 → ¬ σ11.1 218 14 = 0) ∧ (¬ V = 0 → σ11.1 218 14 = 0)) (x_X12_good) (fun v12 hqv12 => ?_)
    have hqv12 : (v12 = 0 → ¬ σ11.1 218 14 = 0) ∧ (¬ v12 = 0 → σ11.1 218 14 = 0) := hqv12
    try simp only [g7_σ11, g9_σ11, g20_σ11, g22_σ11, g23_σ11, g24_σ11, g25_σ11, hT.2 224 (by decide)] at hqv12
    refine ok_if (fun hc14 => ?_) (fun hc14 => ?_)
    · have qhc14 := hqv12.1 hc14
      refine ok_gC rfl ?_
      refine ok_zbT (Q := fun V σ => (TOK σ.1 ∧ (σ11.1 218 11).toInt ≤ (σ.1 218 11).toInt ∧ (σ.1 218 14 = 0 → σ11.1 218 14 = 0 ∧ (σ11.1 218 11).toInt < (σ.1 218 11).toInt)) ∧ (σ.1 218 7 = σ11.1 218 7 ∧ σ.1 218 9 = σ11.1 218 9 ∧ σ.1 218 20 = σ11.1 218 20 ∧ σ.1 218 22 = σ11.1 218 22 ∧ σ.1 218 23 = σ11.1 218 23 ∧ σ.1 218 24 = σ11.1 218 24 ∧ σ.1 218 25 = σ11.1 218 25)) hT (s_X12_needsSign hN (hR.tr hT) (hK) (by rw [hT.2 224 (by decide)]; exact hY) (by decide)) (by decide) (fun v15 σ16 hOσ16 hT hqv15 => ?_)
      have hqv15 : (TOK σ16.1 ∧ (σ11.1 218 11).toInt ≤ (σ16.1 218 11).toInt ∧ (σ16.1 218 14 = 0 → σ11.1 218 14 = 0 ∧ (σ11.1 218 11).toInt < (σ16.1 218 11).toInt)) ∧ (σ16.1 218 7 = σ11.1 218 7 ∧ σ16.1 218 9 = σ11.1 218 9 ∧ σ16.1 218 20 = σ11.1 218 20 ∧ σ16.1 218 22 = σ11.1 218 22 ∧ σ16.1 218 23 = σ11.1 218 23 ∧ σ16.1 218 24 = σ11.1 218 24 ∧ σ16.1 218 25 = σ11.1 218 25) := hqv15
      have hkv15 := hqv15
      have hqv15 := hqv15.1
      have hK : TOK σ16.1 := by first | exact hqv15.1 | exact TOK_p eσ16 (by decide) hK
      have hB : ZB σ16.1 := ZB.tr hOσ16 (by decide) hB
      try simp only [g7_σ11, g9_σ11, g20_σ11, g22_σ11, g23_σ11, g24_σ11, g25_σ11] at hqv15
      have g7_σ16 : σ16.1 218 7 = (σ0.1 218 7) := (hkv15.2.1).trans g7_σ11
      have g9_σ16 : σ16.1 218 9 = (σ0.1 218 9) := (hkv15.2.2.1).trans g9_σ11
      have g20_σ16 : σ16.1 218 20 = (σ0.1 218 20) := (hkv15.2.2.2.1).trans g20_σ11
      have g22_σ16 : σ16.1 218 22 = (σ0.1 218 22) := (hkv15.2.2.2.2.1).trans g22_σ11
      have g23_σ16 : σ16.1 218 23 = (σ4.1 218 23) := (hkv15.2.2.2.2.2.1).trans g23_σ11
      have g24_σ16 : σ16.1 218 24 = (σ0.1 218 24) := (hkv15.2.2.2.2.2.2.1).trans g24_σ11
      have g25_σ16 : σ16.1 218 25 = (σ0.1 218 25) := (hkv15.2.2.2.2.2.2.2).trans g25_σ11
      have m53 := hqv15.2.1
      have u53 := hqv15.2.2
      exact ok_some ⟨hT, (show (TOK σ16.1 ∧ (σ0.1 218 11).toInt ≤ (σ16.1 218 11).toInt ∧ (σ16.1 218 14 = 0 → σ0.1 218 14 = 0 ∧ (σ0.1 218 11).toInt < (σ16.1 218 11).toInt) ∧ ZB σ16.1 ∧ σ16.1 218 23 = σ0.1 218 23 + 1) ∧ (σ16.1 218 7 = σ0.1 218 7 ∧ σ16.1 218 9 = σ0.1 218 9 ∧ σ16.1 218 20 = σ0.1 218 20 ∧ σ16.1 218 22 = σ0.1 218 22 ∧ σ16.1 218 24 = σ0.1 218 24 ∧ σ16.1 218 25 = σ0.1 218 25) from ⟨by first | exact ⟨hK, by (try simp only [g7_σ16, g9_σ16, g20_σ16, g22_σ16, g23_σ16, g24_σ16, g25_σ16]); omega, fun q => ⟨(u53 q).1, by (try simp only [g7_σ16, g9_σ16, g20_σ16, g22_σ16, g23_σ16, g24_σ16, g25_σ16]); omega⟩, hB, (g23_σ16).trans g5⟩ | exact ⟨hK, by (try simp only [g7_σ16, g9_σ16, g20_σ16, g22_σ16, g23_σ16, g24_σ16, g25_σ16]); omega, fun q => ⟨i2 (u53 q).1, by (try simp only [g7_σ16, g9_σ16, g20_σ16, g22_σ16, g23_σ16, g24_σ16, g25_σ16]); omega⟩, hB, (g23_σ16).trans g5⟩, g7_σ16, g9_σ16, g20_σ16, g22_σ16, g24_σ16, g25_σ16⟩)⟩
    · have qhc14 := hqv12.2 hc14
      have y26 := qhc14
      refine ok_gI rfl ?_
      refine ok_if (fun hc18 => ?_) (fun hc18 => ?_)
      · have l35 := hK.2.1 (by rw [hc18]; decide)
        refine ok_gC rfl ?_
        refine ok_zbT (Q := fun V σ => (TOK σ.1 ∧ (σ11.1 218 10).toInt ≤ (σ.1 218 11).toInt) ∧ (σ.1 218 7 = σ11.1 218 7 ∧ σ.1 218 9 = σ11.1 218 9 ∧ σ.1 218 14 = σ11.1 218 14 ∧ σ.1 218 15 = σ11.1 218 15 ∧ σ.1 218 20 = σ11.1 218 20 ∧ σ.1 218 22 = σ11.1 218 22 ∧ σ.1 218 23 = σ11.1 218 23 ∧ σ.1 218 24 = σ11.1 218 24 ∧ σ.1 218 25 = σ11.1 218 25)) hT (s_X12_advance hN (hR.tr hT) (TOK_A hK) (by rw [hT.2 224 (by decide)]; exact hY)) (by decide) (fun v19 σ20 hOσ20 hT hqv19 => ?_)
        have hqv19 : (TOK σ20.1 ∧ (σ11.1 218 10).toInt ≤ (σ20.1 218 11).toInt) ∧ (σ20.1 218 7 = σ11.1 218 7 ∧ σ20.1 218 9 = σ11.1 218 9 ∧ σ20.1 218 14 = σ11.1 218 14 ∧ σ20.1 218 15 = σ11.1 218 15 ∧ σ20.1 218 20 = σ11.1 218 20 ∧ σ20.1 218 22 = σ11.1 218 22 ∧ σ20.1 218 23 = σ11.1 218 23 ∧ σ20.1 218 24 = σ11.1 218 24 ∧ σ20.1 218 25 = σ11.1 218 25) := hqv19
        have hkv19 := hqv19
        have hqv19 := hqv19.1
        have hK : TOK σ20.1 := by first | exact hqv19.1 | exact TOK_p eσ20 (by decide) hK
        have hB : ZB σ20.1 := ZB.tr hOσ20 (by decide) hB
        try simp only [g7_σ11, g9_σ11, g20_σ11, g22_σ11, g23_σ11, g24_σ11, g25_σ11] at hqv19
        have g7_σ20 : σ20.1 218 7 = (σ0.1 218 7) := (hkv19.2.1).trans g7_σ11
        have g9_σ20 : σ20.1 218 9 = (σ0.1 218 9) := (hkv19.2.2.1).trans g9_σ11
        have g14_σ20 : σ20.1 218 14 = (σ11.1 218 14) := hkv19.2.2.2.1
        have g15_σ20 : σ20.1 218 15 = (σ11.1 218 15) := hkv19.2.2.2.2.1
        have g20_σ20 : σ20.1 218 20 = (σ0.1 218 20) := (hkv19.2.2.2.2.2.1).trans g20_σ11
        have g22_σ20 : σ20.1 218 22 = (σ0.1 218 22) := (hkv19.2.2.2.2.2.2.1).trans g22_σ11
        have g23_σ20 : σ20.1 218 23 = (σ4.1 218 23) := (hkv19.2.2.2.2.2.2.2.1).trans g23_σ11
        have g24_σ20 : σ20.1 218 24 = (σ0.1 218 24) := (hkv19.2.2.2.2.2.2.2.2.1).trans g24_σ11
        have g25_σ20 : σ20.1 218 25 = (σ0.1 218 25) := (hkv19.2.2.2.2.2.2.2.2.2).trans g25_σ11
        have m39 := hqv19.2
        refine ok_gC rfl ?_
        refine ok_zbT (Q := fun V σ => (TOK σ.1 ∧ (σ20.1 218 11).toInt ≤ (σ.1 218 11).toInt ∧ (σ.1 218 14 = 0 → σ20.1 218 14 = 0 ∧ (σ20.1 218 11).toInt < (σ.1 218 11).toInt) ∧ ZB σ.1) ∧ (σ.1 218 7 = σ20.1 218 7 ∧ σ.1 218 9 = σ20.1 218 9 ∧ σ.1 218 20 = σ20.1 218 20 ∧ σ.1 218 22 = σ20.1 218 22 ∧ σ.1 218 23 = σ20.1 218 23 ∧ σ.1 218 24 = σ20.1 218 24 ∧ σ.1 218 25 = σ20.1 218 25)) hT (s_X12_readsSet hN (hR.tr hT) (hK) (by rw [hT.2 224 (by decide)]; exact hY) (hB) (hn) (by (try simp only [g7_σ20, g9_σ20, g14_σ20, g15_σ20, g20_σ20, g22_σ20, g23_σ20, g24_σ20, g25_σ20]); omega)) (by decide) (fun v21 σ22 hOσ22 hT hqv21 => ?_)
        have hqv21 : (TOK σ22.1 ∧ (σ20.1 218 11).toInt ≤ (σ22.1 218 11).toInt ∧ (σ22.1 218 14 = 0 → σ20.1 218 14 = 0 ∧ (σ20.1 218 11).toInt < (σ22.1 218 11).toInt) ∧ ZB σ22.1) ∧ (σ22.1 218 7 = σ20.1 218 7 ∧ σ22.1 218 9 = σ20.1 218 9 ∧ σ22.1 218 20 = σ20.1 218 20 ∧ σ22.1 218 22 = σ20.1 218 22 ∧ σ22.1 218 23 = σ20.1 218 23 ∧ σ22.1 218 24 = σ20.1 218 24 ∧ σ22.1 218 25 = σ20.1 218 25) := hqv21
        have hkv21 := hqv21
        have hqv21 := hqv21.1
        have hK : TOK σ22.1 := by first | exact hqv21.1 | exact TOK_p eσ22 (by decide) hK
        have hB : ZB σ22.1 := by first | exact hqv21.2.1 | exact hqv21.2.2.2
        try simp only [g7_σ20, g9_σ20, g14_σ20, g15_σ20, g20_σ20, g22_σ20, g23_σ20, g24_σ20, g25_σ20] at hqv21
        have g7_σ22 : σ22.1 218 7 = (σ0.1 218 7) := (hkv21.2.1).trans g7_σ20
        have g9_σ22 : σ22.1 218 9 = (σ0.1 218 9) := (hkv21.2.2.1).trans g9_σ20
        have g20_σ22 : σ22.1 218 20 = (σ0.1 218 20) := (hkv21.2.2.2.1).trans g20_σ20
        have g22_σ22 : σ22.1 218 22 = (σ0.1 218 22) := (hkv21.2.2.2.2.1).trans g22_σ20
        have g23_σ22 : σ22.1 218 23 = (σ4.1 218 23) := (hkv21.2.2.2.2.2.1).trans g23_σ20
        have g24_σ22 : σ22.1 218 24 = (σ0.1 218 24) := (hkv21.2.2.2.2.2.2.1).trans g24_σ20
        have g25_σ22 : σ22.1 218 25 = (σ0.1 218 25) := (hkv21.2.2.2.2.2.2.2).trans g25_σ20
        have m44 := hqv21.2.1
        exact ih22_11 σ22 (show Tr [218, 226] σ0 σ22 ∧ ((σ0.1 218 11).toInt < (σ22.1 218 11).toInt ∧ (σ22.1 218 14 = 0 → σ0.1 218 14 = 0)) ∧ (TOK σ22.1) ∧ (ZB σ22.1) ∧ (σ22.1 218 7 = (σ0.1 218 7)) ∧ (σ22.1 218 9 = (σ0.1 218 9)) ∧ (σ22.1 218 20 = (σ0.1 218 20)) ∧ (σ22.1 218 22 = (σ0.1 218 22)) ∧ (σ22.1 218 23 = (σ4.1 218 23)) ∧ (σ22.1 218 24 = (σ0.1 218 24)) ∧ (σ22.1 218 25 = (σ0.1 218 25)) from ⟨hT, (by exact ⟨by (try simp only [g7_σ22, g9_σ22, g20_σ22, g22_σ22, g23_σ22, g24_σ22, g25_σ22]); omega, fun _ => i2 y26⟩), hK, hB, g7_σ22, g9_σ22, g20_σ22, g22_σ22, g23_σ22, g24_σ22, g25_σ22⟩) (show (600 - (σ22.1 218 11).toInt).toNat < (600 - (σ11.1 218 11).toInt).toNat from (by (try simp only [g7_σ22, g9_σ22, g20_σ22, g22_σ22, g23_σ22, g24_σ22, g25_σ22]); omega))
      · refine ok_gC rfl ?_
        refine ok_zbT (Q := fun V σ => (TOK σ.1 ∧ (σ11.1 218 11).toInt ≤ (σ.1 218 11).toInt ∧ (σ.1 218 14 = 0 → σ11.1 218 14 = 0 ∧ (σ11.1 218 11).toInt < (σ.1 218 11).toInt)) ∧ (σ.1 218 7 = σ11.1 218 7 ∧ σ.1 218 9 = σ11.1 218 9 ∧ σ.1 218 20 = σ11.1 218 20 ∧ σ.1 218 22 = σ11.1 218 22 ∧ σ.1 218 23 = σ11.1 218 23 ∧ σ.1 218 24 = σ11.1 218 24 ∧ σ.1 218 25 = σ11.1 218 25)) hT (s_X12_needsSign hN (hR.tr hT) (hK) (by rw [hT.2 224 (by decide)]; exact hY) (by decide)) (by decide) (fun v23 σ24 hOσ24 hT hqv23 => ?_)
        have hqv23 : (TOK σ24.1 ∧ (σ11.1 218 11).toInt ≤ (σ24.1 218 11).toInt ∧ (σ24.1 218 14 = 0 → σ11.1 218 14 = 0 ∧ (σ11.1 218 11).toInt < (σ24.1 218 11).toInt)) ∧ (σ24.1 218 7 = σ11.1 218 7 ∧ σ24.1 218 9 = σ11.1 218 9 ∧ σ24.1 218 20 = σ11.1 218 20 ∧ σ24.1 218 22 = σ11.1 218 22 ∧ σ24.1 218 23 = σ11.1 218 23 ∧ σ24.1 218 24 = σ11.1 218 24 ∧ σ24.1 218 25 = σ11.1 218 25) := hqv23
        have hkv23 := hqv23
        have hqv23 := hqv23.1
        have hK : TOK σ24.1 := by first | exact hqv23.1 | exact TOK_p eσ24 (by decide) hK
        have hB : ZB σ24.1 := ZB.tr hOσ24 (by decide) hB
        try simp only [g7_σ11, g9_σ11, g20_σ11, g22_σ11, g23_σ11, g24_σ11, g25_σ11] at hqv23
        have g7_σ24 : σ24.1 218 7 = (σ0.1 218 7) := (hkv23.2.1).trans g7_σ11
        have g9_σ24 : σ24.1 218 9 = (σ0.1 218 9) := (hkv23.2.2.1).trans g9_σ11
        have g20_σ24 : σ24.1 218 20 = (σ0.1 218 20) := (hkv23.2.2.2.1).trans g20_σ11
        have g22_σ24 : σ24.1 218 22 = (σ0.1 218 22) := (hkv23.2.2.2.2.1).trans g22_σ11
        have g23_σ24 : σ24.1 218 23 = (σ4.1 218 23) := (hkv23.2.2.2.2.2.1).trans g23_σ11
        have g24_σ24 : σ24.1 218 24 = (σ0.1 218 24) := (hkv23.2.2.2.2.2.2.1).trans g24_σ11
        have g25_σ24 : σ24.1 218 25 = (σ0.1 218 25) := (hkv23.2.2.2.2.2.2.2).trans g25_σ11
        have m53 := hqv23.2.1
        have u53 := hqv23.2.2
        exact ok_some ⟨hT, (show (TOK σ24.1 ∧ (σ0.1 218 11).toInt ≤ (σ24.1 218 11).toInt ∧ (σ24.1 218 14 = 0 → σ0.1 218 14 = 0 ∧ (σ0.1 218 11).toInt < (σ24.1 218 11).toInt) ∧ ZB σ24.1 ∧ σ24.1 218 23 = σ0.1 218 23 + 1) ∧ (σ24.1 218 7 = σ0.1 218 7 ∧ σ24.1 218 9 = σ0.1 218 9 ∧ σ24.1 218 20 = σ0.1 218 20 ∧ σ24.1 218 22 = σ0.1 218 22 ∧ σ24.1 218 24 = σ0.1 218 24 ∧ σ24.1 218 25 = σ0.1 218 25) from ⟨by first | exact ⟨hK, by (try simp only [g7_σ24, g9_σ24, g20_σ24, g22_σ24, g23_σ24, g24_σ24, g25_σ24]); omega, fun q => ⟨(u53 q).1, by (try simp only [g7_σ24, g9_σ24, g20_σ24, g22_σ24, g23_σ24, g24_σ24, g25_σ24]); omega⟩, hB, (g23_σ24).trans g5⟩ | exact ⟨hK, by (try simp only [g7_σ24, g9_σ24, g20_σ24, g22_σ24, g23_σ24, g24_σ24, g25_σ24]); omega, fun q => ⟨i2 (u53 q).1, by (try simp only [g7_σ24, g9_σ24, g20_σ24, g22_σ24, g23_σ24, g24_σ24, g25_σ24]); omega⟩, hB, (g23_σ24).trans g5⟩, g7_σ24, g9_σ24, g20_σ24, g22_σ24, g24_σ24, g25_σ24⟩)⟩
end Zq7_8

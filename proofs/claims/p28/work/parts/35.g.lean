section Zq4_0
set_option maxHeartbeats 4000000 in
set_option maxRecDepth 100000 in
theorem s_X11_isWorld_n2 {N : Nat} (hN : 1048576 ≤ N)  {σ0 : zS}  (hR : RF σ0.2.2) (hNw : σ0.2.2 0 4 = 2) (hn : 0 ≤ (σ0.1 2 0).toInt ∧ (σ0.1 2 0).toInt ≤ 10) : Ok (f_X11_isWorld N 0 σ0) (fun r => Tr [] σ0 r.2 ∧ ((r.1 = 0 ∨ r.1 = 1) ∧ (¬ r.1 = 0 → 0 < (σ0.1 2 0).toInt))) := by
  have hT : Tr [] σ0 σ0 := Tr.rf
  have q10 := ti_one10 (x := σ0.1 2 0) hn.1 hn.2
  rw [f_X11_isWorld.eq_1]
  refine ok_gR (v := 2) hT rfl hNw ?_
  refine ok_gI0 hT rfl (by decide) ?_
  refine ok_if (fun hc3 => ?_) (fun hc3 => ?_)
  · exact ok_rZ (Or.inl rfl) ⟨hT, (show ((0 : Int32) = 0 ∨ (0 : Int32) = 1) ∧ (¬ (0 : Int32) = 0 → 0 < (σ0.1 2 0).toInt) from by first | exact ⟨Or.inl rfl, fun h9 => absurd rfl h9⟩ | exact ⟨Or.inr rfl, fun _ => by simp only [Int32.le_iff_toInt_le, Int32.lt_iff_toInt_lt, ti_add, ti_sub, ti_mul, Int32.reduceToInt] at *; omega⟩)⟩
  · exact ok_rZ (Or.inr rfl) ⟨hT, (show ((1 : Int32) = 0 ∨ (1 : Int32) = 1) ∧ (¬ (1 : Int32) = 0 → 0 < (σ0.1 2 0).toInt) from by first | exact ⟨Or.inl rfl, fun h9 => absurd rfl h9⟩ | exact ⟨Or.inr rfl, fun _ => by simp only [Int32.le_iff_toInt_le, Int32.lt_iff_toInt_lt, ti_add, ti_sub, ti_mul, Int32.reduceToInt] at *; omega⟩)⟩

set_option maxHeartbeats 4000000 in
set_option maxRecDepth 100000 in
theorem s_X11_isRegister_n2 {N : Nat} (hN : 1048576 ≤ N) {x1 : Int32} {σ0 : zS}  (hR : RF σ0.2.2) (hNw : σ0.2.2 0 4 = 2) (hn : 0 ≤ (σ0.1 2 0).toInt ∧ (σ0.1 2 0).toInt ≤ 10) : Ok (f_X11_isRegister N 0 x1 σ0) (fun r => Tr [] σ0 r.2 ∧ ((r.1 = 0 ∨ r.1 = 1) ∧ (¬ r.1 = 0 → 0 ≤ x1.toInt ∧ x1.toInt ≤ 9))) := by
  have hT : Tr [] σ0 σ0 := Tr.rf
  have q10 := ti_one10 (x := σ0.1 2 0) hn.1 hn.2
  rw [f_X11_isRegister.eq_1]
  refine ok_gC rfl ?_
  refine ok_zbT (Q := fun V σ => (V = 0 ∨ V = 1) ∧ (¬ V = 0 → 0 < (σ0.1 2 0).toInt)) hT (s_X11_isWorld_n2 hN (hR.tr hT) ((hT.1.1 0 4 (by decide)).trans hNw) (by first | exact hn | (rw [hT.2 2 (by decide)]; exact hn))) (fun _ h9 => absurd h9 List.not_mem_nil) (fun v1 σ2 hOσ2 hT hqv1 => ?_)
  have hqv1 : (v1 = 0 ∨ v1 = 1) ∧ (¬ v1 = 0 → 0 < (σ0.1 2 0).toInt) := hqv1
  refine ok_if (fun hc3 => ?_) (fun hc3 => ?_)
  · exact ok_rZ (Or.inl rfl) ⟨hT, (show ((0 : Int32) = 0 ∨ (0 : Int32) = 1) ∧ (¬ (0 : Int32) = 0 → 0 ≤ x1.toInt ∧ x1.toInt ≤ 9) from by first | exact ⟨Or.inl rfl, fun h9 => absurd rfl h9⟩ | exact ⟨Or.inr rfl, fun _ => by simp only [Int32.le_iff_toInt_le, Int32.lt_iff_toInt_lt, ti_add, ti_sub, ti_mul, Int32.reduceToInt] at *; omega⟩)⟩
  · have qhc3 := hqv1.2 hc3
    refine ok_if (fun hc4 => ?_) (fun hc4 => ?_)
    · exact ok_rZ (Or.inl rfl) ⟨hT, (show ((0 : Int32) = 0 ∨ (0 : Int32) = 1) ∧ (¬ (0 : Int32) = 0 → 0 ≤ x1.toInt ∧ x1.toInt ≤ 9) from by first | exact ⟨Or.inl rfl, fun h9 => absurd rfl h9⟩ | exact ⟨Or.inr rfl, fun _ => by simp only [Int32.le_iff_toInt_le, Int32.lt_iff_toInt_lt, ti_add, ti_sub, ti_mul, Int32.reduceToInt] at *; omega⟩)⟩
    · refine ok_if (fun hc5 => ?_) (fun hc5 => ?_)
      · exact ok_rZ (Or.inl rfl) ⟨hT, (show ((0 : Int32) = 0 ∨ (0 : Int32) = 1) ∧ (¬ (0 : Int32) = 0 → 0 ≤ x1.toInt ∧ x1.toInt ≤ 9) from by first | exact ⟨Or.inl rfl, fun h9 => absurd rfl h9⟩ | exact ⟨Or.inr rfl, fun _ => by simp only [Int32.le_iff_toInt_le, Int32.lt_iff_toInt_lt, ti_add, ti_sub, ti_mul, Int32.reduceToInt] at *; omega⟩)⟩
      · exact ok_rZ (Or.inr rfl) ⟨hT, (show ((1 : Int32) = 0 ∨ (1 : Int32) = 1) ∧ (¬ (1 : Int32) = 0 → 0 ≤ x1.toInt ∧ x1.toInt ≤ 9) from by first | exact ⟨Or.inl rfl, fun h9 => absurd rfl h9⟩ | exact ⟨Or.inr rfl, fun _ => by simp only [Int32.le_iff_toInt_le, Int32.lt_iff_toInt_lt, ti_add, ti_sub, ti_mul, Int32.reduceToInt] at *; omega⟩)⟩

set_option maxHeartbeats 4000000 in
set_option maxRecDepth 100000 in
theorem s_X11_isSet_n2 {N : Nat} (hN : 1048576 ≤ N) {x1 : Int32} {σ0 : zS}  (hR : RF σ0.2.2) (hNw : σ0.2.2 0 4 = 2) (hn : 0 ≤ (σ0.1 2 0).toInt ∧ (σ0.1 2 0).toInt ≤ 10) : Ok (f_X11_isSet N 0 x1 σ0) (fun r => Tr [] σ0 r.2 ∧ ((r.1 = 0 ∨ r.1 = 1) ∧ (¬ r.1 = 0 → 0 ≤ x1.toInt ∧ x1.toInt ≤ 1023))) := by
  have hT : Tr [] σ0 σ0 := Tr.rf
  have q10 := ti_one10 (x := σ0.1 2 0) hn.1 hn.2
  rw [f_X11_isSet.eq_1]
  refine ok_gC rfl ?_
  refine ok_zbT (Q := fun V σ => (V = 0 ∨ V = 1) ∧ (¬ V = 0 → 0 < (σ0.1 2 0).toInt)) hT (s_X11_isWorld_n2 hN (hR.tr hT) ((hT.1.1 0 4 (by decide)).trans hNw) (by first | exact hn | (rw [hT.2 2 (by decide)]; exact hn))) (fun _ h9 => absurd h9 List.not_mem_nil) (fun v1 σ2 hOσ2 hT hqv1 => ?_)
  have hqv1 : (v1 = 0 ∨ v1 = 1) ∧ (¬ v1 = 0 → 0 < (σ0.1 2 0).toInt) := hqv1
  refine ok_if (fun hc3 => ?_) (fun hc3 => ?_)
  · exact ok_rZ (Or.inl rfl) ⟨hT, (show ((0 : Int32) = 0 ∨ (0 : Int32) = 1) ∧ (¬ (0 : Int32) = 0 → 0 ≤ x1.toInt ∧ x1.toInt ≤ 1023) from by first | exact ⟨Or.inl rfl, fun h9 => absurd rfl h9⟩ | exact ⟨Or.inr rfl, fun _ => by simp only [Int32.le_iff_toInt_le, Int32.lt_iff_toInt_lt, ti_add, ti_sub, ti_mul, Int32.reduceToInt] at *; omega⟩)⟩
  · have qhc3 := hqv1.2 hc3
    refine ok_if (fun hc4 => ?_) (fun hc4 => ?_)
    · exact ok_rZ (Or.inl rfl) ⟨hT, (show ((0 : Int32) = 0 ∨ (0 : Int32) = 1) ∧ (¬ (0 : Int32) = 0 → 0 ≤ x1.toInt ∧ x1.toInt ≤ 1023) from by first | exact ⟨Or.inl rfl, fun h9 => absurd rfl h9⟩ | exact ⟨Or.inr rfl, fun _ => by simp only [Int32.le_iff_toInt_le, Int32.lt_iff_toInt_lt, ti_add, ti_sub, ti_mul, Int32.reduceToInt] at *; omega⟩)⟩
    · refine ok_gR (v := 2) hT rfl hNw ?_
      refine ok_gI0 hT rfl (by decide) ?_
      refine ok_if (fun hc7 => ?_) (fun hc7 => ?_)
      · exact ok_rZ (Or.inl rfl) ⟨hT, (show ((0 : Int32) = 0 ∨ (0 : Int32) = 1) ∧ (¬ (0 : Int32) = 0 → 0 ≤ x1.toInt ∧ x1.toInt ≤ 1023) from by first | exact ⟨Or.inl rfl, fun h9 => absurd rfl h9⟩ | exact ⟨Or.inr rfl, fun _ => by simp only [Int32.le_iff_toInt_le, Int32.lt_iff_toInt_lt, ti_add, ti_sub, ti_mul, Int32.reduceToInt] at *; omega⟩)⟩
      · exact ok_rZ (Or.inr rfl) ⟨hT, (show ((1 : Int32) = 0 ∨ (1 : Int32) = 1) ∧ (¬ (1 : Int32) = 0 → 0 ≤ x1.toInt ∧ x1.toInt ≤ 1023) from by first | exact ⟨Or.inl rfl, fun h9 => absurd rfl h9⟩ | exact ⟨Or.inr rfl, fun _ => by simp only [Int32.le_iff_toInt_le, Int32.lt_iff_toInt_lt, ti_add, ti_sub, ti_mul, Int32.reduceToInt] at *; omega⟩)⟩

set_option maxHeartbeats 4000000 in
set_option maxRecDepth 100000 in
theorem s_X11_isName_n2 {N : Nat} (hN : 1048576 ≤ N) {x1 : Int32} {σ0 : zS}  (hR : RF σ0.2.2) (hNw : σ0.2.2 0 4 = 2) (hn : 0 ≤ (σ0.1 2 0).toInt ∧ (σ0.1 2 0).toInt ≤ 10) : Ok (f_X11_isName N 0 x1 σ0) (fun r => Tr [] σ0 r.2 ∧ ((r.1 = 0 ∨ r.1 = 1) ∧ (¬ r.1 = 0 → 0 ≤ x1.toInt ∧ x1.toInt < (σ0.1 2 0).toInt))) := by
  have hT : Tr [] σ0 σ0 := Tr.rf
  have q10 := ti_one10 (x := σ0.1 2 0) hn.1 hn.2
  rw [f_X11_isName.eq_1]
  refine ok_if (fun hc1 => ?_) (fun hc1 => ?_)
  · exact ok_rZ (Or.inl rfl) ⟨hT, (show ((0 : Int32) = 0 ∨ (0 : Int32) = 1) ∧ (¬ (0 : Int32) = 0 → 0 ≤ x1.toInt ∧ x1.toInt < (σ0.1 2 0).toInt) from by first | exact ⟨Or.inl rfl, fun h9 => absurd rfl h9⟩ | exact ⟨Or.inr rfl, fun _ => by simp only [Int32.le_iff_toInt_le, Int32.lt_iff_toInt_lt, ti_add, ti_sub, ti_mul, Int32.reduceToInt] at *; omega⟩)⟩
  · refine ok_gR (v := 2) hT rfl hNw ?_
    refine ok_gI0 hT rfl (by decide) ?_
    refine ok_if (fun hc4 => ?_) (fun hc4 => ?_)
    · exact ok_rZ (Or.inl rfl) ⟨hT, (show ((0 : Int32) = 0 ∨ (0 : Int32) = 1) ∧ (¬ (0 : Int32) = 0 → 0 ≤ x1.toInt ∧ x1.toInt < (σ0.1 2 0).toInt) from by first | exact ⟨Or.inl rfl, fun h9 => absurd rfl h9⟩ | exact ⟨Or.inr rfl, fun _ => by simp only [Int32.le_iff_toInt_le, Int32.lt_iff_toInt_lt, ti_add, ti_sub, ti_mul, Int32.reduceToInt] at *; omega⟩)⟩
    · exact ok_rZ (Or.inr rfl) ⟨hT, (show ((1 : Int32) = 0 ∨ (1 : Int32) = 1) ∧ (¬ (1 : Int32) = 0 → 0 ≤ x1.toInt ∧ x1.toInt < (σ0.1 2 0).toInt) from by first | exact ⟨Or.inl rfl, fun h9 => absurd rfl h9⟩ | exact ⟨Or.inr rfl, fun _ => by simp only [Int32.le_iff_toInt_le, Int32.lt_iff_toInt_lt, ti_add, ti_sub, ti_mul, Int32.reduceToInt] at *; omega⟩)⟩

set_option maxHeartbeats 4000000 in
set_option maxRecDepth 100000 in
theorem s_X11_isCrossing {N : Nat} (hN : 1048576 ≤ N) {x1 : Int32} {σ0 : zS}  (hR : RF σ0.2.2)  : Ok (f_X11_isCrossing N 0 x1 σ0) (fun r => Tr [] σ0 r.2 ∧ ((r.1 = 0 ∨ r.1 = 1) ∧ (¬ r.1 = 0 → 0 ≤ x1.toInt ∧ x1.toInt ≤ 7))) := by
  have hT : Tr [] σ0 σ0 := Tr.rf
  rw [f_X11_isCrossing.eq_1]
  refine ok_if (fun hc1 => ?_) (fun hc1 => ?_)
  · exact ok_rZ (Or.inl rfl) ⟨hT, (show ((0 : Int32) = 0 ∨ (0 : Int32) = 1) ∧ (¬ (0 : Int32) = 0 → 0 ≤ x1.toInt ∧ x1.toInt ≤ 7) from by first | exact ⟨Or.inl rfl, fun h9 => absurd rfl h9⟩ | exact ⟨Or.inr rfl, fun _ => by simp only [Int32.le_iff_toInt_le, Int32.lt_iff_toInt_lt, ti_add, ti_sub, ti_mul, Int32.reduceToInt] at *; omega⟩)⟩
  · refine ok_if (fun hc2 => ?_) (fun hc2 => ?_)
    · exact ok_rZ (Or.inl rfl) ⟨hT, (show ((0 : Int32) = 0 ∨ (0 : Int32) = 1) ∧ (¬ (0 : Int32) = 0 → 0 ≤ x1.toInt ∧ x1.toInt ≤ 7) from by first | exact ⟨Or.inl rfl, fun h9 => absurd rfl h9⟩ | exact ⟨Or.inr rfl, fun _ => by simp only [Int32.le_iff_toInt_le, Int32.lt_iff_toInt_lt, ti_add, ti_sub, ti_mul, Int32.reduceToInt] at *; omega⟩)⟩
    · exact ok_rZ (Or.inr rfl) ⟨hT, (show ((1 : Int32) = 0 ∨ (1 : Int32) = 1) ∧ (¬ (1 : Int32) = 0 → 0 ≤ x1.toInt ∧ x1.toInt ≤ 7) from by first | exact ⟨Or.inl rfl, fun h9 => absurd rfl h9⟩ | exact ⟨Or.inr rfl, fun _ => by simp only [Int32.le_iff_toInt_le, Int32.lt_iff_toInt_lt, ti_add, ti_sub, ti_mul, Int32.reduceToInt] at *; omega⟩)⟩

set_option maxHeartbeats 4000000 in
set_option maxRecDepth 100000 in
theorem s_X11_isSlot {N : Nat} (hN : 1048576 ≤ N) {x1 : Int32} {σ0 : zS}  (hR : RF σ0.2.2)  : Ok (f_X11_isSlot N 0 x1 σ0) (fun r => Tr [] σ0 r.2 ∧ ((r.1 = 0 ∨ r.1 = 1) ∧ (¬ r.1 = 0 → 0 ≤ x1.toInt ∧ x1.toInt ≤ 3))) := by
  have hT : Tr [] σ0 σ0 := Tr.rf
  rw [f_X11_isSlot.eq_1]
  refine ok_if (fun hc1 => ?_) (fun hc1 => ?_)
  · exact ok_rZ (Or.inl rfl) ⟨hT, (show ((0 : Int32) = 0 ∨ (0 : Int32) = 1) ∧ (¬ (0 : Int32) = 0 → 0 ≤ x1.toInt ∧ x1.toInt ≤ 3) from by first | exact ⟨Or.inl rfl, fun h9 => absurd rfl h9⟩ | exact ⟨Or.inr rfl, fun _ => by simp only [Int32.le_iff_toInt_le, Int32.lt_iff_toInt_lt, ti_add, ti_sub, ti_mul, Int32.reduceToInt] at *; omega⟩)⟩
  · refine ok_if (fun hc2 => ?_) (fun hc2 => ?_)
    · exact ok_rZ (Or.inl rfl) ⟨hT, (show ((0 : Int32) = 0 ∨ (0 : Int32) = 1) ∧ (¬ (0 : Int32) = 0 → 0 ≤ x1.toInt ∧ x1.toInt ≤ 3) from by first | exact ⟨Or.inl rfl, fun h9 => absurd rfl h9⟩ | exact ⟨Or.inr rfl, fun _ => by simp only [Int32.le_iff_toInt_le, Int32.lt_iff_toInt_lt, ti_add, ti_sub, ti_mul, Int32.reduceToInt] at *; omega⟩)⟩
    · exact ok_rZ (Or.inr rfl) ⟨hT, (show ((1 : Int32) = 0 ∨ (1 : Int32) = 1) ∧ (¬ (1 : Int32) = 0 → 0 ≤ x1.toInt ∧ x1.toInt ≤ 3) from by first | exact ⟨Or.inl rfl, fun h9 => absurd rfl h9⟩ | exact ⟨Or.inr rfl, fun _ => by simp only [Int32.le_iff_toInt_le, Int32.lt_iff_toInt_lt, ti_add, ti_sub, ti_mul, Int32.reduceToInt] at *; omega⟩)⟩

set_option maxHeartbeats 4000000 in
set_option maxRecDepth 100000 in
theorem s_X11_isFoundName {N : Nat} (hN : 1048576 ≤ N) {x1 : Nat} {x2 : Int32} {x3 : Int32} {σ0 : zS}  (hR : RF σ0.2.2) (h_x1 : (zKd x1).1 = 2) : Ok (f_X11_isFoundName N 0 x1 x2 x3 σ0) (fun r => Tr [] σ0 r.2 ∧ (r.1 = 0 ∨ r.1 = 1)) := by
  have hT : Tr [] σ0 σ0 := Tr.rf
  rw [f_X11_isFoundName.eq_1]
  refine ok_gR (v := 128) hT rfl (hR 0 17 rfl) ?_
  refine ok_gC rfl ?_
  refine ok_zbT (Q := fun V σ => True) hT (s_X2_copyFrom hN (hR.tr hT) rfl h_x1) (fun _ h9 => absurd h9 List.not_mem_nil) (fun v2 σ3 hOσ3 hT hqv2 => ?_)
  refine ok_if (fun hc4 => ?_) (fun hc4 => ?_)
  · refine ok_gR (v := 128) hT rfl (hR 0 17 rfl) ?_
    refine ok_gC rfl ?_
    refine ok_zbT (Q := fun V σ => True) hT (s_X2_flip hN (hR.tr hT) rfl) (fun _ h9 => absurd h9 List.not_mem_nil) (fun v6 σ7 hOσ7 hT hqv6 => ?_)
    refine ok_gR (v := 128) hT rfl (hR 0 17 rfl) ?_
    refine ok_gC rfl ?_
    refine ok_zbT (Q := fun V σ => V = 0 ∨ V = 1) hT (s_X2_sameAs hN (hR.tr hT) rfl h_x1) (fun _ h9 => absurd h9 List.not_mem_nil) (fun v9 σ10 hOσ10 hT hqv9 => ?_)
    have hqv9 : v9 = 0 ∨ v9 = 1 := hqv9
    exact ok_rZ (by assumption) ⟨hT, (show v9 = 0 ∨ v9 = 1 from by first | exact Or.inl rfl | exact Or.inr rfl | assumption)⟩
  · refine ok_gR (v := 128) hT rfl (hR 0 17 rfl) ?_
    refine ok_gC rfl ?_
    refine ok_zbT (Q := fun V σ => True) hT (s_X2_keepWithout hN (hR.tr hT) rfl) (fun _ h9 => absurd h9 List.not_mem_nil) (fun v12 σ13 hOσ13 hT hqv12 => ?_)
    refine ok_if (fun hc14 => ?_) (fun hc14 => ?_)
    · refine ok_gR (v := 128) hT rfl (hR 0 17 rfl) ?_
      refine ok_gC rfl ?_
      refine ok_zbT (Q := fun V σ => V = 0 ∨ V = 1) hT (s_X2_isEmpty hN (hR.tr hT) rfl) (fun _ h9 => absurd h9 List.not_mem_nil) (fun v16 σ17 hOσ17 hT hqv16 => ?_)
      have hqv16 : v16 = 0 ∨ v16 = 1 := hqv16
      exact ok_rZ (by assumption) ⟨hT, (show v16 = 0 ∨ v16 = 1 from by first | exact Or.inl rfl | exact Or.inr rfl | assumption)⟩
    · refine ok_gR (v := 128) hT rfl (hR 0 17 rfl) ?_
      refine ok_gC rfl ?_
      refine ok_zbT (Q := fun V σ => V = 0 ∨ V = 1) hT (s_X2_sameAs hN (hR.tr hT) rfl h_x1) (fun _ h9 => absurd h9 List.not_mem_nil) (fun v19 σ20 hOσ20 hT hqv19 => ?_)
      have hqv19 : v19 = 0 ∨ v19 = 1 := hqv19
      refine ok_if (fun hc21 => ?_) (fun hc21 => ?_)
      · exact ok_rZ (Or.inr rfl) ⟨hT, (show (1 : Int32) = 0 ∨ (1 : Int32) = 1 from by first | exact Or.inl rfl | exact Or.inr rfl | assumption)⟩
      · exact ok_rZ (Or.inl rfl) ⟨hT, (show (0 : Int32) = 0 ∨ (0 : Int32) = 1 from by first | exact Or.inl rfl | exact Or.inr rfl | assumption)⟩

set_option maxHeartbeats 4000000 in
set_option maxRecDepth 100000 in
theorem s_X11_rowsInSlots {N : Nat} (hN : 1048576 ≤ N)  {σ0 : zS}  (hR : RF σ0.2.2)  : Ok (f_X11_rowsInSlots N 0 σ0) (fun r => Tr [] σ0 r.2 ∧ (True)) := by
  have hT : Tr [] σ0 σ0 := Tr.rf
  rw [f_X11_rowsInSlots.eq_1]
  refine ok_lp (fun t : Int32 × Int32 × zS => Tr [] σ0 (t.2.2) ∧ (0 ≤ (t.2.1).toInt)) (fun t : Int32 × Int32 × zS => ((4 : Int32).toInt - (t.2.1).toInt).toNat) (fun again1 t hI ih4_1 => ?_) N _ (show Tr [] σ0 σ0 ∧ (0 ≤ (0 : Int32).toInt) from ⟨hT, (by first | omega | decide | (simp only [Int32.le_iff_toInt_le, Int32.lt_iff_toInt_lt, ti_add, ti_sub, ti_mul, Int32.reduceToInt] at *; omega))⟩) (show ((4 : Int32).toInt - (0 : Int32).toInt).toNat < N from (by first | omega | decide | (simp only [Int32.le_iff_toInt_le, Int32.lt_iff_toInt_lt, ti_add, ti_sub, ti_mul, Int32.reduceToInt] at *; omega)))
  obtain ⟨x1_1, x2_1, σ1⟩ := t
  have hI : Tr [] σ0 σ1 ∧ (0 ≤ x2_1.toInt) := hI
  obtain ⟨hT, hI1⟩ := hI
  rw [F_X11_rowsInSlots_4.eq_1]
  refine ok_if (fun hc2 => ?_) (fun hc2 => ?_)
  · exact ok_some ⟨hT, trivial⟩
  · refine ok_gR (v := 56) hT rfl (hR 0 8 rfl) ?_
    obtain ⟨q5, eq5, kq5⟩ := arrS hR (k := 56) (i := x2_1) rfl (by first | omega | decide | (simp only [Int32.le_iff_toInt_le, Int32.lt_iff_toInt_lt, ti_add, ti_sub, ti_mul, Int32.reduceToInt] at *; omega)) (by first | omega | decide | (simp only [Int32.le_iff_toInt_le, Int32.lt_iff_toInt_lt, ti_add, ti_sub, ti_mul, Int32.reduceToInt] at *; omega))
    refine ok_aR (v := q5) hT rfl (by first | omega | decide | (simp only [Int32.le_iff_toInt_le, Int32.lt_iff_toInt_lt, ti_add, ti_sub, ti_mul, Int32.reduceToInt] at *; omega)) (by first | omega | decide | (simp only [Int32.le_iff_toInt_le, Int32.lt_iff_toInt_lt, ti_add, ti_sub, ti_mul, Int32.reduceToInt] at *; omega)) eq5 ?_
    refine ok_gC kq5 ?_
    refine ok_zbT (Q := fun V σ => (V = 0 ∨ V = 1) ∧ (V = 0 → 0 ≤ (σ1.1 q5 2).toInt)) hT (s_X9_isBare hN (hR.tr hT) kq5) (fun _ h9 => absurd h9 List.not_mem_nil) (fun v6 σ7 hOσ7 hT hqv6 => ?_)
    have hqv6 : (v6 = 0 ∨ v6 = 1) ∧ (v6 = 0 → 0 ≤ (σ1.1 q5 2).toInt) := hqv6
    refine ok_if (fun hc8 => ?_) (fun hc8 => ?_)
    · exact ih4_1 (x1_1 + 1, x2_1 + 1, σ7) (show Tr [] σ0 σ7 ∧ (0 ≤ (x2_1 + 1).toInt) from ⟨hT, (by first | omega | decide | (simp only [Int32.le_iff_toInt_le, Int32.lt_iff_toInt_lt, ti_add, ti_sub, ti_mul, Int32.reduceToInt] at *; omega))⟩) (show ((4 : Int32).toInt - (x2_1 + 1).toInt).toNat < ((4 : Int32).toInt - x2_1.toInt).toNat from (by first | omega | decide | (simp only [Int32.le_iff_toInt_le, Int32.lt_iff_toInt_lt, ti_add, ti_sub, ti_mul, Int32.reduceToInt] at *; omega)))
    · exact ih4_1 (x1_1, x2_1 + 1, σ7) (show Tr [] σ0 σ7 ∧ (0 ≤ (x2_1 + 1).toInt) from ⟨hT, (by first | omega | decide | (simp only [Int32.le_iff_toInt_le, Int32.lt_iff_toInt_lt, ti_add, ti_sub, ti_mul, Int32.reduceToInt] at *; omega))⟩) (show ((4 : Int32).toInt - (x2_1 + 1).toInt).toNat < ((4 : Int32).toInt - x2_1.toInt).toNat from (by first | omega | decide | (simp only [Int32.le_iff_toInt_le, Int32.lt_iff_toInt_lt, ti_add, ti_sub, ti_mul, Int32.reduceToInt] at *; omega)))

set_option maxHeartbeats 4000000 in
set_option maxRecDepth 100000 in
theorem s_X11_tapeNumber {N : Nat} (hN : 1048576 ≤ N) {x1 : Int32} {x2 : Int32} {σ0 : zS}  (hR : RF σ0.2.2) (ha : x2.toInt ≤ 600) : Ok (f_X11_tapeNumber N 0 x1 x2 σ0) (fun r => Tr [1] σ0 r.2 ∧ (True)) := by
  have hT : Tr [1] σ0 σ0 := Tr.rf
  rw [f_X11_tapeNumber.eq_1]
  refine ok_lp (fun t : Int32 × zS => Tr [1] σ0 (t.2) ∧ (0 ≤ (t.1).toInt)) (fun t : Int32 × zS => ((4 : Int32).toInt - (t.1).toInt).toNat) (fun again1 t hI ih2_1 => ?_) N _ (show Tr [1] σ0 σ0 ∧ (0 ≤ (0 : Int32).toInt) from ⟨hT, (by first | omega | decide | (simp only [Int32.le_iff_toInt_le, Int32.lt_iff_toInt_lt, ti_add, ti_sub, ti_mul, Int32.reduceToInt] at *; omega))⟩) (show ((4 : Int32).toInt - (0 : Int32).toInt).toNat < N from (by first | omega | decide | (simp only [Int32.le_iff_toInt_le, Int32.lt_iff_toInt_lt, ti_add, ti_sub, ti_mul, Int32.reduceToInt] at *; omega)))
  obtain ⟨x3_1, σ1⟩ := t
  have hI : Tr [1] σ0 σ1 ∧ (0 ≤ x3_1.toInt) := hI
  obtain ⟨hT, hI1⟩ := hI
  rw [F_X11_tapeNumber_2.eq_1]
  refine ok_if (fun hc2 => ?_) (fun hc2 => ?_)
  · exact ok_some ⟨hT, trivial⟩
  · refine ok_if (fun hc3 => ?_) (fun hc3 => ?_)
    · exact ih2_1 (x3_1 + 1, σ1) (show Tr [1] σ0 σ1 ∧ (0 ≤ (x3_1 + 1).toInt) from ⟨hT, (by first | omega | decide | (simp only [Int32.le_iff_toInt_le, Int32.lt_iff_toInt_lt, ti_add, ti_sub, ti_mul, Int32.reduceToInt] at *; omega))⟩) (show ((4 : Int32).toInt - (x3_1 + 1).toInt).toNat < ((4 : Int32).toInt - x3_1.toInt).toNat from (by first | omega | decide | (simp only [Int32.le_iff_toInt_le, Int32.lt_iff_toInt_lt, ti_add, ti_sub, ti_mul, Int32.reduceToInt] at *; omega)))
    · refine ok_if (fun hc4 => ?_) (fun hc4 => ?_)
      · exact ih2_1 (x3_1 + 1, σ1) (show Tr [1] σ0 σ1 ∧ (0 ≤ (x3_1 + 1).toInt) from ⟨hT, (by first | omega | decide | (simp only [Int32.le_iff_toInt_le, Int32.lt_iff_toInt_lt, ti_add, ti_sub, ti_mul, Int32.reduceToInt] at *; omega))⟩) (show ((4 : Int32).toInt - (x3_1 + 1).toInt).toNat < ((4 : Int32).toInt - x3_1.toInt).toNat from (by first | omega | decide | (simp only [Int32.le_iff_toInt_le, Int32.lt_iff_toInt_lt, ti_add, ti_sub, ti_mul, Int32.reduceToInt] at *; omega)))
      · refine ok_gR (v := 1) hT rfl (hR 0 0 rfl) ?_
        refine ok_s13 hT rfl (by decide) (by first | omega | decide | (simp only [Int32.le_iff_toInt_le, Int32.lt_iff_toInt_lt, ti_add, ti_sub, ti_mul, Int32.reduceToInt] at *; omega)) (by first | omega | decide | (simp only [Int32.le_iff_toInt_le, Int32.lt_iff_toInt_lt, ti_add, ti_sub, ti_mul, Int32.reduceToInt] at *; omega)) (fun σ6 eσ6 hOσ6 hT => ?_)
        exact ih2_1 (x3_1 + 1, σ6) (show Tr [1] σ0 σ6 ∧ (0 ≤ (x3_1 + 1).toInt) from ⟨hT, (by first | omega | decide | (simp only [Int32.le_iff_toInt_le, Int32.lt_iff_toInt_lt, ti_add, ti_sub, ti_mul, Int32.reduceToInt] at *; omega))⟩) (show ((4 : Int32).toInt - (x3_1 + 1).toInt).toNat < ((4 : Int32).toInt - x3_1.toInt).toNat from (by first | omega | decide | (simp only [Int32.le_iff_toInt_le, Int32.lt_iff_toInt_lt, ti_add, ti_sub, ti_mul, Int32.reduceToInt] at *; omega)))

set_option maxHeartbeats 4000000 in
set_option maxRecDepth 100000 in
theorem s_X11_takeFault {N : Nat} (hN : 1048576 ≤ N)  {σ0 : zS}  (hR : RF σ0.2.2)  : Ok (f_X11_takeFault N 0 σ0) (fun r => Tr [0] σ0 r.2 ∧ (r.2.1 0 1 = 0)) := by
  have hT : Tr [0] σ0 σ0 := Tr.rf
  rw [f_X11_takeFault.eq_1]
  refine ok_pI hT rfl (by decide) (fun σ1 eσ1 hOσ1 hT => ?_)
  have hz := zI_atI eσ1
  refine ok_gR (v := 57) hT rfl (hR 0 9 rfl) ?_
  refine ok_gI0 hT rfl (by decide) ?_
  refine ok_pI hT rfl (by decide) (fun σ4 eσ4 hOσ4 hT => ?_)
  have hz := (zI_atN eσ4 (show 1 ≠ 2 by decide)).trans hz
  refine ok_gR (v := 57) hT rfl (hR 0 9 rfl) ?_
  refine ok_gI0 hT rfl (by decide) ?_
  refine ok_pI hT rfl (by decide) (fun σ7 eσ7 hOσ7 hT => ?_)
  have hz := (zI_atN eσ7 (show 1 ≠ 3 by decide)).trans hz
  exact ok_some ⟨hT, (show σ7.1 0 1 = 0 from by exact hz)⟩

set_option maxHeartbeats 4000000 in
set_option maxRecDepth 100000 in
theorem s_X11_store_n2 {N : Nat} (hN : 1048576 ≤ N) {x1 : Int32} {σ0 : zS}  (hR : RF σ0.2.2) (hNw : σ0.2.2 0 4 = 2) (hn : 0 ≤ (σ0.1 2 0).toInt ∧ (σ0.1 2 0).toInt ≤ 10) : Ok (f_X11_store N 0 x1 σ0) (fun r => Tr [] σ0 r.2 ∧ (True)) := by
  have hT : Tr [] σ0 σ0 := Tr.rf
  have q10 := ti_one10 (x := σ0.1 2 0) hn.1 hn.2
  rw [f_X11_store.eq_1]
  refine ok_gC rfl ?_
  refine ok_zbT (Q := fun V σ => (V = 0 ∨ V = 1) ∧ (¬ V = 0 → 0 ≤ x1.toInt ∧ x1.toInt ≤ 9)) hT (s_X11_isRegister_n2 hN (hR.tr hT) ((hT.1.1 0 4 (by decide)).trans hNw) (by first | exact hn | (rw [hT.2 2 (by decide)]; exact hn))) (fun _ h9 => absurd h9 List.not_mem_nil) (fun v1 σ2 hOσ2 hT hqv1 => ?_)
  have hqv1 : (v1 = 0 ∨ v1 = 1) ∧ (¬ v1 = 0 → 0 ≤ x1.toInt ∧ x1.toInt ≤ 9) := hqv1
  refine ok_if (fun hc3 => ?_) (fun hc3 => ?_)
  · exact ok_some ⟨hT, trivial⟩
  · have qhc3 := hqv1.2 hc3
    have qr5 := hqv1.2 hc3
    refine ok_gR (v := 2) hT rfl hNw ?_
    refine ok_gR (v := 7) hT rfl (hR 2 7 rfl) ?_
    obtain ⟨q7, eq7, kq7⟩ := arrF hR (k := 7) (i := x1) rfl (by first | omega | decide | (simp only [Int32.le_iff_toInt_le, Int32.lt_iff_toInt_lt, ti_add, ti_sub, ti_mul, Int32.reduceToInt] at *; omega)) (by first | omega | decide | (simp only [Int32.le_iff_toInt_le, Int32.lt_iff_toInt_lt, ti_add, ti_sub, ti_mul, Int32.reduceToInt] at *; omega))
    refine ok_aR (v := q7) hT rfl (by first | omega | decide | (simp only [Int32.le_iff_toInt_le, Int32.lt_iff_toInt_lt, ti_add, ti_sub, ti_mul, Int32.reduceToInt] at *; omega)) (by first | omega | decide | (simp only [Int32.le_iff_toInt_le, Int32.lt_iff_toInt_lt, ti_add, ti_sub, ti_mul, Int32.reduceToInt] at *; omega)) eq7 ?_
    refine ok_gR (v := 128) hT rfl (hR 0 17 rfl) ?_
    refine ok_gC kq7 ?_
    refine ok_zbT (Q := fun V σ => True) hT (s_X2_copyFrom hN (hR.tr hT) kq7 rfl) (fun _ h9 => absurd h9 List.not_mem_nil) (fun v9 σ10 hOσ10 hT hqv9 => ?_)
    refine ok_gR (v := 128) hT rfl (hR 0 17 rfl) ?_
    refine ok_gC rfl ?_
    refine ok_zbT (Q := fun V σ => True) hT (s_X2_tally hN (hR.tr hT) rfl) (fun _ h9 => absurd h9 List.not_mem_nil) (fun v12 σ13 hOσ13 hT hqv12 => ?_)
    exact ok_some ⟨hT, trivial⟩

set_option maxHeartbeats 4000000 in
set_option maxRecDepth 100000 in
theorem s_X11_fault_n2 {N : Nat} (hN : 1048576 ≤ N) {x1 : Int32} {σ0 : zS}  (hR : RF σ0.2.2) (hNw : σ0.2.2 0 4 = 2) (hPw : σ0.2.2 0 5 = 28) (hC : CF σ0.1) : Ok (f_X11_fault N 0 x1 σ0) (fun r => Tr [] σ0 r.2 ∧ (CF r.2.1)) := by
  have hT : Tr [] σ0 σ0 := Tr.rf
  obtain ⟨hW2, hW28, hW132, hW158, hW184, hL, hD, hu, ht⟩ := hC
  have hn := hW2.1
  have he := hW2.2.1
  have hD0 := hD
  have hL0 := hL
  have q10 := ti_one10 (x := σ0.1 2 0) hn.1 hn.2
  rw [f_X11_fault.eq_1]
  refine ok_if (fun hc1 => ?_) (fun hc1 => ?_)
  · refine ok_gI0 hT rfl (by decide) ?_
    exact ok_some ⟨hT, (show CF σ0.1 from by exact ⟨hW2, hW28, hW132, hW158, hW184, hL, hD, hu, ht⟩)⟩
  · refine ok_if (fun hc3 => ?_) (fun hc3 => ?_)
    · refine ok_gI0 hT rfl (by decide) ?_
      exact ok_some ⟨hT, (show CF σ0.1 from by exact ⟨hW2, hW28, hW132, hW158, hW184, hL, hD, hu, ht⟩)⟩
    · exact ok_some ⟨hT, (show CF σ0.1 from by exact ⟨hW2, hW28, hW132, hW158, hW184, hL, hD, hu, ht⟩)⟩

set_option maxHeartbeats 4000000 in
set_option maxRecDepth 100000 in
theorem s_X11_size_n2 {N : Nat} (hN : 1048576 ≤ N) {x1 : Int32} {σ0 : zS}  (hR : RF σ0.2.2) (hNw : σ0.2.2 0 4 = 2) (hPw : σ0.2.2 0 5 = 28) (hC : CF σ0.1) : Ok (f_X11_size N 0 x1 σ0) (fun r => Tr [] σ0 r.2 ∧ (CF r.2.1)) := by
  have hT : Tr [] σ0 σ0 := Tr.rf
  obtain ⟨hW2, hW28, hW132, hW158, hW184, hL, hD, hu, ht⟩ := hC
  have hn := hW2.1
  have he := hW2.2.1
  have hD0 := hD
  have hL0 := hL
  have q10 := ti_one10 (x := σ0.1 2 0) hn.1 hn.2
  rw [f_X11_size.eq_1]
  refine ok_gC rfl ?_
  refine ok_zbT (Q := fun V σ => (V = 0 ∨ V = 1) ∧ (¬ V = 0 → 0 ≤ x1.toInt ∧ x1.toInt ≤ 9)) hT (s_X11_isRegister_n2 hN (hR.tr hT) ((hT.1.1 0 4 (by decide)).trans hNw) (by first | exact hn | omega | (rw [hT.2 2 (by decide)]; exact hn))) (fun _ h9 => absurd h9 List.not_mem_nil) (fun v1 σ2 hOσ2 hT hqv1 => ?_)
  have hqv1 : (v1 = 0 ∨ v1 = 1) ∧ (¬ v1 = 0 → 0 ≤ x1.toInt ∧ x1.toInt ≤ 9) := hqv1
  have hW2 : WI 2 σ2.1 := WI.tr hOσ2 (by decide) (by decide) (by decide) hW2
  have hW28 : WI 28 σ2.1 := WI.tr hOσ2 (by decide) (by decide) (by decide) hW28
  have hW132 : WI 132 σ2.1 := WI.tr hOσ2 (by decide) (by decide) (by decide) hW132
  have hW158 : WI 158 σ2.1 := WI.tr hOσ2 (by decide) (by decide) (by decide) hW158
  have hW184 : WI 184 σ2.1 := WI.tr hOσ2 (by decide) (by decide) (by decide) hW184
  have hL : SI σ2.1 := SI.tr hOσ2 (by decide) (by decide) (by decide) (by decide) hL
  have hD : RD σ2.1 := RD.tr hOσ2 (by decide) (by decide) (by decide) (by decide) hD
  have hu : 2 ≤ (σ2.1 111 8).toInt ∧ (σ2.1 111 8).toInt ≤ 1600 := by rw [hOσ2.2 111 (by decide)] <;> exact hu
  have ht : 0 ≤ (σ2.1 0 1).toInt ∧ (σ2.1 0 1).toInt ≤ 600 := by rw [hOσ2.2 0 (by decide)] <;> exact ht
  refine ok_if (fun hc3 => ?_) (fun hc3 => ?_)
  · exact ok_some ⟨hT, (show CF σ2.1 from by exact ⟨hW2, hW28, hW132, hW158, hW184, hL, hD, hu, ht⟩)⟩
  · have qhc3 := hqv1.2 hc3
    refine ok_gR (v := 2) hT rfl hNw ?_
    refine ok_gR (v := 7) hT rfl (hR 2 7 rfl) ?_
    obtain ⟨q7, eq7, kq7⟩ := arrF hR (k := 7) (i := x1) rfl (by first | omega | decide | (have q1 := hD.1; have q2 := hD.2.1; simp only [Int32.le_iff_toInt_le, Int32.lt_iff_toInt_lt, ti_add, ti_sub, ti_mul, Int32.reduceToInt] at *; omega)) (by first | omega | decide | (have q1 := hD.1; have q2 := hD.2.1; simp only [Int32.le_iff_toInt_le, Int32.lt_iff_toInt_lt, ti_add, ti_sub, ti_mul, Int32.reduceToInt] at *; omega))
    refine ok_aR (v := q7) hT rfl (by first | omega | decide | (have q1 := hD.1; have q2 := hD.2.1; simp only [Int32.le_iff_toInt_le, Int32.lt_iff_toInt_lt, ti_add, ti_sub, ti_mul, Int32.reduceToInt] at *; omega)) (by first | omega | decide | (have q1 := hD.1; have q2 := hD.2.1; simp only [Int32.le_iff_toInt_le, Int32.lt_iff_toInt_lt, ti_add, ti_sub, ti_mul, Int32.reduceToInt] at *; omega)) eq7 ?_
    refine ok_gC kq7 ?_
    refine ok_zbT (Q := fun V σ => True) hT (s_X2_tally hN (hR.tr hT) kq7) (fun _ h9 => absurd h9 List.not_mem_nil) (fun v8 σ9 hOσ9 hT hqv8 => ?_)
    have hW2 : WI 2 σ9.1 := WI.tr hOσ9 (by decide) (by decide) (by decide) hW2
    have hW28 : WI 28 σ9.1 := WI.tr hOσ9 (by decide) (by decide) (by decide) hW28
    have hW132 : WI 132 σ9.1 := WI.tr hOσ9 (by decide) (by decide) (by decide) hW132
    have hW158 : WI 158 σ9.1 := WI.tr hOσ9 (by decide) (by decide) (by decide) hW158
    have hW184 : WI 184 σ9.1 := WI.tr hOσ9 (by decide) (by decide) (by decide) hW184
    have hL : SI σ9.1 := SI.tr hOσ9 (by decide) (by decide) (by decide) (by decide) hL
    have hD : RD σ9.1 := RD.tr hOσ9 (by decide) (by decide) (by decide) (by decide) hD
    have hu : 2 ≤ (σ9.1 111 8).toInt ∧ (σ9.1 111 8).toInt ≤ 1600 := by rw [hOσ9.2 111 (by decide)] <;> exact hu
    have ht : 0 ≤ (σ9.1 0 1).toInt ∧ (σ9.1 0 1).toInt ≤ 600 := by rw [hOσ9.2 0 (by decide)] <;> exact ht
    exact ok_some ⟨hT, (show CF σ9.1 from by exact ⟨hW2, hW28, hW132, hW158, hW184, hL, hD, hu, ht⟩)⟩

set_option maxHeartbeats 4000000 in
set_option maxRecDepth 100000 in
theorem s_X11_has_n2 {N : Nat} (hN : 1048576 ≤ N) {x1 : Int32} {x2 : Int32} {σ0 : zS}  (hR : RF σ0.2.2) (hNw : σ0.2.2 0 4 = 2) (hPw : σ0.2.2 0 5 = 28) (hC : CF σ0.1) : Ok (f_X11_has N 0 x1 x2 σ0) (fun r => Tr [] σ0 r.2 ∧ (CF r.2.1)) := by
  have hT : Tr [] σ0 σ0 := Tr.rf
  obtain ⟨hW2, hW28, hW132, hW158, hW184, hL, hD, hu, ht⟩ := hC
  have hn := hW2.1
  have he := hW2.2.1
  have hD0 := hD
  have hL0 := hL
  have q10 := ti_one10 (x := σ0.1 2 0) hn.1 hn.2
  rw [f_X11_has.eq_1]
  refine ok_gC rfl ?_
  refine ok_zbT (Q := fun V σ => (V = 0 ∨ V = 1) ∧ (¬ V = 0 → 0 ≤ x1.toInt ∧ x1.toInt ≤ 9)) hT (s_X11_isRegister_n2 hN (hR.tr hT) ((hT.1.1 0 4 (by decide)).trans hNw) (by first | exact hn | omega | (rw [hT.2 2 (by decide)]; exact hn))) (fun _ h9 => absurd h9 List.not_mem_nil) (fun v1 σ2 hOσ2 hT hqv1 => ?_)
  have hqv1 : (v1 = 0 ∨ v1 = 1) ∧ (¬ v1 = 0 → 0 ≤ x1.toInt ∧ x1.toInt ≤ 9) := hqv1
  have hW2 : WI 2 σ2.1 := WI.tr hOσ2 (by decide) (by decide) (by decide) hW2
  have hW28 : WI 28 σ2.1 := WI.tr hOσ2 (by decide) (by decide) (by decide) hW28
  have hW132 : WI 132 σ2.1 := WI.tr hOσ2 (by decide) (by decide) (by decide) hW132
  have hW158 : WI 158 σ2.1 := WI.tr hOσ2 (by decide) (by decide) (by decide) hW158
  have hW184 : WI 184 σ2.1 := WI.tr hOσ2 (by decide) (by decide) (by decide) hW184
  have hL : SI σ2.1 := SI.tr hOσ2 (by decide) (by decide) (by decide) (by decide) hL
  have hD : RD σ2.1 := RD.tr hOσ2 (by decide) (by decide) (by decide) (by decide) hD
  have hu : 2 ≤ (σ2.1 111 8).toInt ∧ (σ2.1 111 8).toInt ≤ 1600 := by rw [hOσ2.2 111 (by decide)] <;> exact hu
  have ht : 0 ≤ (σ2.1 0 1).toInt ∧ (σ2.1 0 1).toInt ≤ 600 := by rw [hOσ2.2 0 (by decide)] <;> exact ht
  refine ok_if (fun hc3 => ?_) (fun hc3 => ?_)
  · exact ok_some ⟨hT, (show CF σ2.1 from by exact ⟨hW2, hW28, hW132, hW158, hW184, hL, hD, hu, ht⟩)⟩
  · have qhc3 := hqv1.2 hc3
    refine ok_gC rfl ?_
    refine ok_zbT (Q := fun V σ => (V = 0 ∨ V = 1) ∧ (¬ V = 0 → 0 ≤ x2.toInt ∧ x2.toInt ≤ 1023)) hT (s_X11_isSet_n2 hN (hR.tr hT) ((hT.1.1 0 4 (by decide)).trans hNw) (by first | exact hn | omega | (rw [hT.2 2 (by decide)]; exact hn))) (fun _ h9 => absurd h9 List.not_mem_nil) (fun v4 σ5 hOσ5 hT hqv4 => ?_)
    have hqv4 : (v4 = 0 ∨ v4 = 1) ∧ (¬ v4 = 0 → 0 ≤ x2.toInt ∧ x2.toInt ≤ 1023) := hqv4
    have hW2 : WI 2 σ5.1 := WI.tr hOσ5 (by decide) (by decide) (by decide) hW2
    have hW28 : WI 28 σ5.1 := WI.tr hOσ5 (by decide) (by decide) (by decide) hW28
    have hW132 : WI 132 σ5.1 := WI.tr hOσ5 (by decide) (by decide) (by decide) hW132
    have hW158 : WI 158 σ5.1 := WI.tr hOσ5 (by decide) (by decide) (by decide) hW158
    have hW184 : WI 184 σ5.1 := WI.tr hOσ5 (by decide) (by decide) (by decide) hW184
    have hL : SI σ5.1 := SI.tr hOσ5 (by decide) (by decide) (by decide) (by decide) hL
    have hD : RD σ5.1 := RD.tr hOσ5 (by decide) (by decide) (by decide) (by decide) hD
    have hu : 2 ≤ (σ5.1 111 8).toInt ∧ (σ5.1 111 8).toInt ≤ 1600 := by rw [hOσ5.2 111 (by decide)] <;> exact hu
    have ht : 0 ≤ (σ5.1 0 1).toInt ∧ (σ5.1 0 1).toInt ≤ 600 := by rw [hOσ5.2 0 (by decide)] <;> exact ht
    refine ok_if (fun hc6 => ?_) (fun hc6 => ?_)
    · exact ok_some ⟨hT, (show CF σ5.1 from by exact ⟨hW2, hW28, hW132, hW158, hW184, hL, hD, hu, ht⟩)⟩
    · have qhc6 := hqv4.2 hc6
      refine ok_gR (v := 2) hT rfl hNw ?_
      refine ok_gR (v := 7) hT rfl (hR 2 7 rfl) ?_
      obtain ⟨q10, eq10, kq10⟩ := arrF hR (k := 7) (i := x1) rfl (by first | omega | decide | (have q1 := hD.1; have q2 := hD.2.1; simp only [Int32.le_iff_toInt_le, Int32.lt_iff_toInt_lt, ti_add, ti_sub, ti_mul, Int32.reduceToInt] at *; omega)) (by first | omega | decide | (have q1 := hD.1; have q2 := hD.2.1; simp only [Int32.le_iff_toInt_le, Int32.lt_iff_toInt_lt, ti_add, ti_sub, ti_mul, Int32.reduceToInt] at *; omega))
      refine ok_aR (v := q10) hT rfl (by first | omega | decide | (have q1 := hD.1; have q2 := hD.2.1; simp only [Int32.le_iff_toInt_le, Int32.lt_iff_toInt_lt, ti_add, ti_sub, ti_mul, Int32.reduceToInt] at *; omega)) (by first | omega | decide | (have q1 := hD.1; have q2 := hD.2.1; simp only [Int32.le_iff_toInt_le, Int32.lt_iff_toInt_lt, ti_add, ti_sub, ti_mul, Int32.reduceToInt] at *; omega)) eq10 ?_
      refine ok_gC kq10 ?_
      refine ok_zbT (Q := fun V σ => V = 0 ∨ V = 1) hT (s_X2_holds hN (hR.tr hT) kq10) (fun _ h9 => absurd h9 List.not_mem_nil) (fun v11 σ12 hOσ12 hT hqv11 => ?_)
      have hqv11 : v11 = 0 ∨ v11 = 1 := hqv11
      have hW2 : WI 2 σ12.1 := WI.tr hOσ12 (by decide) (by decide) (by decide) hW2
      have hW28 : WI 28 σ12.1 := WI.tr hOσ12 (by decide) (by decide) (by decide) hW28
      have hW132 : WI 132 σ12.1 := WI.tr hOσ12 (by decide) (by decide) (by decide) hW132
      have hW158 : WI 158 σ12.1 := WI.tr hOσ12 (by decide) (by decide) (by decide) hW158
      have hW184 : WI 184 σ12.1 := WI.tr hOσ12 (by decide) (by decide) (by decide) hW184
      have hL : SI σ12.1 := SI.tr hOσ12 (by decide) (by decide) (by decide) (by decide) hL
      have hD : RD σ12.1 := RD.tr hOσ12 (by decide) (by decide) (by decide) (by decide) hD
      have hu : 2 ≤ (σ12.1 111 8).toInt ∧ (σ12.1 111 8).toInt ≤ 1600 := by rw [hOσ12.2 111 (by decide)] <;> exact hu
      have ht : 0 ≤ (σ12.1 0 1).toInt ∧ (σ12.1 0 1).toInt ≤ 600 := by rw [hOσ12.2 0 (by decide)] <;> exact ht
      refine ok_if (fun hc13 => ?_) (fun hc13 => ?_)
      · exact ok_some ⟨hT, (show CF σ12.1 from by exact ⟨hW2, hW28, hW132, hW158, hW184, hL, hD, hu, ht⟩)⟩
      · exact ok_some ⟨hT, (show CF σ12.1 from by exact ⟨hW2, hW28, hW132, hW158, hW184, hL, hD, hu, ht⟩)⟩

set_option maxHeartbeats 4000000 in
set_option maxRecDepth 100000 in
theorem s_X11_makes_n2 {N : Nat} (hN : 1048576 ≤ N) {x1 : Int32} {x2 : Int32} {x3 : Int32} {x4 : Int32} {σ0 : zS}  (hR : RF σ0.2.2) (hNw : σ0.2.2 0 4 = 2) (hPw : σ0.2.2 0 5 = 28) (hC : CF σ0.1) : Ok (f_X11_makes N 0 x1 x2 x3 x4 σ0) (fun r => Tr [106, 107] σ0 r.2 ∧ (CF r.2.1)) := by
  have hT : Tr [106, 107] σ0 σ0 := Tr.rf
  obtain ⟨hW2, hW28, hW132, hW158, hW184, hL, hD, hu, ht⟩ := hC
  have hn := hW2.1
  have he := hW2.2.1
  have hD0 := hD
  have hL0 := hL
  have q10 := ti_one10 (x := σ0.1 2 0) hn.1 hn.2
  rw [f_X11_makes.eq_1]
  refine ok_gC rfl ?_
  refine ok_zbT (Q := fun V σ => (V = 0 ∨ V = 1) ∧ (¬ V = 0 → 0 ≤ x1.toInt ∧ x1.toInt ≤ 9)) hT (s_X11_isRegister_n2 hN (hR.tr hT) ((hT.1.1 0 4 (by decide)).trans hNw) (by first | exact hn | omega | (rw [hT.2 2 (by decide)]; exact hn))) (fun _ h9 => absurd h9 List.not_mem_nil) (fun v1 σ2 hOσ2 hT hqv1 => ?_)
  have hqv1 : (v1 = 0 ∨ v1 = 1) ∧ (¬ v1 = 0 → 0 ≤ x1.toInt ∧ x1.toInt ≤ 9) := hqv1
  have hW2 : WI 2 σ2.1 := WI.tr hOσ2 (by decide) (by decide) (by decide) hW2
  have hW28 : WI 28 σ2.1 := WI.tr hOσ2 (by decide) (by decide) (by decide) hW28
  have hW132 : WI 132 σ2.1 := WI.tr hOσ2 (by decide) (by decide) (by decide) hW132
  have hW158 : WI 158 σ2.1 := WI.tr hOσ2 (by decide) (by decide) (by decide) hW158
  have hW184 : WI 184 σ2.1 := WI.tr hOσ2 (by decide) (by decide) (by decide) hW184
  have hL : SI σ2.1 := SI.tr hOσ2 (by decide) (by decide) (by decide) (by decide) hL
  have hD : RD σ2.1 := RD.tr hOσ2 (by decide) (by decide) (by decide) (by decide) hD
  have hu : 2 ≤ (σ2.1 111 8).toInt ∧ (σ2.1 111 8).toInt ≤ 1600 := by rw [hOσ2.2 111 (by decide)] <;> exact hu
  have ht : 0 ≤ (σ2.1 0 1).toInt ∧ (σ2.1 0 1).toInt ≤ 600 := by rw [hOσ2.2 0 (by decide)] <;> exact ht
  refine ok_if (fun hc3 => ?_) (fun hc3 => ?_)
  · exact ok_some ⟨hT, (show CF σ2.1 from by exact ⟨hW2, hW28, hW132, hW158, hW184, hL, hD, hu, ht⟩)⟩
  · have qhc3 := hqv1.2 hc3
    refine ok_gC rfl ?_
    refine ok_zbT (Q := fun V σ => (V = 0 ∨ V = 1) ∧ (¬ V = 0 → 0 ≤ x3.toInt ∧ x3.toInt ≤ 9)) hT (s_X11_isRegister_n2 hN (hR.tr hT) ((hT.1.1 0 4 (by decide)).trans hNw) (by first | exact hn | omega | (rw [hT.2 2 (by decide)]; exact hn))) (fun _ h9 => absurd h9 List.not_mem_nil) (fun v4 σ5 hOσ5 hT hqv4 => ?_)
    have hqv4 : (v4 = 0 ∨ v4 = 1) ∧ (¬ v4 = 0 → 0 ≤ x3.toInt ∧ x3.toInt ≤ 9) := hqv4
    have hW2 : WI 2 σ5.1 := WI.tr hOσ5 (by decide) (by decide) (by decide) hW2
    have hW28 : WI 28 σ5.1 := WI.tr hOσ5 (by decide) (by decide) (by decide) hW28
    have hW132 : WI 132 σ5.1 := WI.tr hOσ5 (by decide) (by decide) (by decide) hW132
    have hW158 : WI 158 σ5.1 := WI.tr hOσ5 (by decide) (by decide) (by decide) hW158
    have hW184 : WI 184 σ5.1 := WI.tr hOσ5 (by decide) (by decide) (by decide) hW184
    have hL : SI σ5.1 := SI.tr hOσ5 (by decide) (by decide) (by decide) (by decide) hL
    have hD : RD σ5.1 := RD.tr hOσ5 (by decide) (by decide) (by decide) (by decide) hD
    have hu : 2 ≤ (σ5.1 111 8).toInt ∧ (σ5.1 111 8).toInt ≤ 1600 := by rw [hOσ5.2 111 (by decide)] <;> exact hu
    have ht : 0 ≤ (σ5.1 0 1).toInt ∧ (σ5.1 0 1).toInt ≤ 600 := by rw [hOσ5.2 0 (by decide)] <;> exact ht
    refine ok_if (fun hc6 => ?_) (fun hc6 => ?_)
    · exact ok_some ⟨hT, (show CF σ5.1 from by exact ⟨hW2, hW28, hW132, hW158, hW184, hL, hD, hu, ht⟩)⟩
    · have qhc6 := hqv4.2 hc6
      refine ok_gC rfl ?_
      refine ok_zbT (Q := fun V σ => (V = 0 ∨ V = 1) ∧ (¬ V = 0 → 0 ≤ x4.toInt ∧ x4.toInt ≤ 9)) hT (s_X11_isRegister_n2 hN (hR.tr hT) ((hT.1.1 0 4 (by decide)).trans hNw) (by first | exact hn | omega | (rw [hT.2 2 (by decide)]; exact hn))) (fun _ h9 => absurd h9 List.not_mem_nil) (fun v7 σ8 hOσ8 hT hqv7 => ?_)
      have hqv7 : (v7 = 0 ∨ v7 = 1) ∧ (¬ v7 = 0 → 0 ≤ x4.toInt ∧ x4.toInt ≤ 9) := hqv7
      have hW2 : WI 2 σ8.1 := WI.tr hOσ8 (by decide) (by decide) (by decide) hW2
      have hW28 : WI 28 σ8.1 := WI.tr hOσ8 (by decide) (by decide) (by decide) hW28
      have hW132 : WI 132 σ8.1 := WI.tr hOσ8 (by decide) (by decide) (by decide) hW132
      have hW158 : WI 158 σ8.1 := WI.tr hOσ8 (by decide) (by decide) (by decide) hW158
      have hW184 : WI 184 σ8.1 := WI.tr hOσ8 (by decide) (by decide) (by decide) hW184
      have hL : SI σ8.1 := SI.tr hOσ8 (by decide) (by decide) (by decide) (by decide) hL
      have hD : RD σ8.1 := RD.tr hOσ8 (by decide) (by decide) (by decide) (by decide) hD
      have hu : 2 ≤ (σ8.1 111 8).toInt ∧ (σ8.1 111 8).toInt ≤ 1600 := by rw [hOσ8.2 111 (by decide)] <;> exact hu
      have ht : 0 ≤ (σ8.1 0 1).toInt ∧ (σ8.1 0 1).toInt ≤ 600 := by rw [hOσ8.2 0 (by decide)] <;> exact ht
      refine ok_if (fun hc9 => ?_) (fun hc9 => ?_)
      · exact ok_some ⟨hT, (show CF σ8.1 from by exact ⟨hW2, hW28, hW132, hW158, hW184, hL, hD, hu, ht⟩)⟩
      · have qhc9 := hqv7.2 hc9
        refine ok_if (fun hc10 => ?_) (fun hc10 => ?_)
        · exact ok_some ⟨hT, (show CF σ8.1 from by exact ⟨hW2, hW28, hW132, hW158, hW184, hL, hD, hu, ht⟩)⟩
        · refine ok_if (fun hc11 => ?_) (fun hc11 => ?_)
          · refine ok_gR (v := 128) hT rfl (hR 0 17 rfl) ?_
            refine ok_gR (v := 2) hT rfl hNw ?_
            refine ok_gR (v := 7) hT rfl (hR 2 7 rfl) ?_
            obtain ⟨q16, eq16, kq16⟩ := arrF hR (k := 7) (i := x3) rfl (by first | omega | decide | (have q1 := hD.1; have q2 := hD.2.1; simp only [Int32.le_iff_toInt_le, Int32.lt_iff_toInt_lt, ti_add, ti_sub, ti_mul, Int32.reduceToInt] at *; omega)) (by first | omega | decide | (have q1 := hD.1; have q2 := hD.2.1; simp only [Int32.le_iff_toInt_le, Int32.lt_iff_toInt_lt, ti_add, ti_sub, ti_mul, Int32.reduceToInt] at *; omega))
            refine ok_aR (v := q16) hT rfl (by first | omega | decide | (have q1 := hD.1; have q2 := hD.2.1; simp only [Int32.le_iff_toInt_le, Int32.lt_iff_toInt_lt, ti_add, ti_sub, ti_mul, Int32.reduceToInt] at *; omega)) (by first | omega | decide | (have q1 := hD.1; have q2 := hD.2.1; simp only [Int32.le_iff_toInt_le, Int32.lt_iff_toInt_lt, ti_add, ti_sub, ti_mul, Int32.reduceToInt] at *; omega)) eq16 ?_
            refine ok_gC rfl ?_
            refine ok_zbT (Q := fun V σ => True) hT (s_X2_copyFrom hN (hR.tr hT) rfl kq16) (fun _ h9 => absurd h9 List.not_mem_nil) (fun v17 σ18 hOσ18 hT hqv17 => ?_)
            have hW2 : WI 2 σ18.1 := WI.tr hOσ18 (by decide) (by decide) (by decide) hW2
            have hW28 : WI 28 σ18.1 := WI.tr hOσ18 (by decide) (by decide) (by decide) hW28
            have hW132 : WI 132 σ18.1 := WI.tr hOσ18 (by decide) (by decide) (by decide) hW132
            have hW158 : WI 158 σ18.1 := WI.tr hOσ18 (by decide) (by decide) (by decide) hW158
            have hW184 : WI 184 σ18.1 := WI.tr hOσ18 (by decide) (by decide) (by decide) hW184
            have hL : SI σ18.1 := SI.tr hOσ18 (by decide) (by decide) (by decide) (by decide) hL
            have hD : RD σ18.1 := RD.tr hOσ18 (by decide) (by decide) (by decide) (by decide) hD
            have hu : 2 ≤ (σ18.1 111 8).toInt ∧ (σ18.1 111 8).toInt ≤ 1600 := by rw [hOσ18.2 111 (by decide)] <;> exact hu
            have ht : 0 ≤ (σ18.1 0 1).toInt ∧ (σ18.1 0 1).toInt ≤ 600 := by rw [hOσ18.2 0 (by decide)] <;> exact ht
            refine ok_gR (v := 99) hT rfl (hR 0 11 rfl) ?_
            refine ok_gR (v := 128) hT rfl (hR 0 17 rfl) ?_
            refine ok_gR (v := 2) hT rfl hNw ?_
            refine ok_gR (v := 7) hT rfl (hR 2 7 rfl) ?_
            obtain ⟨q24, eq24, kq24⟩ := arrF hR (k := 7) (i := x4) rfl (by first | omega | decide | (have q1 := hD.1; have q2 := hD.2.1; simp only [Int32.le_iff_toInt_le, Int32.lt_iff_toInt_lt, ti_add, ti_sub, ti_mul, Int32.reduceToInt] at *; omega)) (by first | omega | decide | (have q1 := hD.1; have q2 := hD.2.1; simp only [Int32.le_iff_toInt_le, Int32.lt_iff_toInt_lt, ti_add, ti_sub, ti_mul, Int32.reduceToInt] at *; omega))
            refine ok_aR (v := q24) hT rfl (by first | omega | decide | (have q1 := hD.1; have q2 := hD.2.1; simp only [Int32.le_iff_toInt_le, Int32.lt_iff_toInt_lt, ti_add, ti_sub, ti_mul, Int32.reduceToInt] at *; omega)) (by first | omega | decide | (have q1 := hD.1; have q2 := hD.2.1; simp only [Int32.le_iff_toInt_le, Int32.lt_iff_toInt_lt, ti_add, ti_sub, ti_mul, Int32.reduceToInt] at *; omega)) eq24 ?_
            refine ok_gR (v := 2) hT rfl hNw ?_
            refine ok_gI0 hT rfl (by decide) ?_
            refine ok_gC rfl ?_
            refine ok_zbT (Q := fun V σ => True) hT (s_X0_combine hN (hR.tr hT) rfl kq24 (by first | exact hn | omega | (rw [hT.2 2 (by decide)]; exact hn))) (by decide) (fun v27 σ28 hOσ28 hT hqv27 => ?_)
            have hW2 : WI 2 σ28.1 := WI.tr hOσ28 (by decide) (by decide) (by decide) hW2
            have hW28 : WI 28 σ28.1 := WI.tr hOσ28 (by decide) (by decide) (by decide) hW28
            have hW132 : WI 132 σ28.1 := WI.tr hOσ28 (by decide) (by decide) (by decide) hW132
            have hW158 : WI 158 σ28.1 := WI.tr hOσ28 (by decide) (by decide) (by decide) hW158
            have hW184 : WI 184 σ28.1 := WI.tr hOσ28 (by decide) (by decide) (by decide) hW184
            have hL : SI σ28.1 := SI.tr hOσ28 (by decide) (by decide) (by decide) (by decide) hL
            have hD : RD σ28.1 := RD.tr hOσ28 (by decide) (by decide) (by decide) (by decide) hD
            have hu : 2 ≤ (σ28.1 111 8).toInt ∧ (σ28.1 111 8).toInt ≤ 1600 := by rw [hOσ28.2 111 (by decide)] <;> exact hu
            have ht : 0 ≤ (σ28.1 0 1).toInt ∧ (σ28.1 0 1).toInt ≤ 600 := by rw [hOσ28.2 0 (by decide)] <;> exact ht
            refine ok_gC rfl ?_
            refine ok_zbT (Q := fun V σ => True) hT (s_X11_store_n2 hN (hR.tr hT) ((hT.1.1 0 4 (by decide)).trans hNw) (by first | exact hn | omega | (rw [hT.2 2 (by decide)]; exact hn))) (fun _ h9 => absurd h9 List.not_mem_nil) (fun v29 σ30 hOσ30 hT hqv29 => ?_)
            have hW2 : WI 2 σ30.1 := WI.tr hOσ30 (by decide) (by decide) (by decide) hW2
            have hW28 : WI 28 σ30.1 := WI.tr hOσ30 (by decide) (by decide) (by decide) hW28
            have hW132 : WI 132 σ30.1 := WI.tr hOσ30 (by decide) (by decide) (by decide) hW132
            have hW158 : WI 158 σ30.1 := WI.tr hOσ30 (by decide) (by decide) (by decide) hW158
            have hW184 : WI 184 σ30.1 := WI.tr hOσ30 (by decide) (by decide) (by decide) hW184
            have hL : SI σ30.1 := SI.tr hOσ30 (by decide) (by decide) (by decide) (by decide) hL
            have hD : RD σ30.1 := RD.tr hOσ30 (by decide) (by decide) (by decide) (by decide) hD
            have hu : 2 ≤ (σ30.1 111 8).toInt ∧ (σ30.1 111 8).toInt ≤ 1600 := by rw [hOσ30.2 111 (by decide)] <;> exact hu
            have ht : 0 ≤ (σ30.1 0 1).toInt ∧ (σ30.1 0 1).toInt ≤ 600 := by rw [hOσ30.2 0 (by decide)] <;> exact ht
            exact ok_some ⟨hT, (show CF σ30.1 from by exact ⟨hW2, hW28, hW132, hW158, hW184, hL, hD, hu, ht⟩)⟩
          · exact ok_some ⟨hT, (show CF σ8.1 from by exact ⟨hW2, hW28, hW132, hW158, hW184, hL, hD, hu, ht⟩)⟩

set_option maxHeartbeats 4000000 in
set_option maxRecDepth 100000 in
theorem s_X11_turn_n2 {N : Nat} (hN : 1048576 ≤ N) {x1 : Int32} {x2 : Int32} {x3 : Int32} {σ0 : zS}  (hR : RF σ0.2.2) (hNw : σ0.2.2 0 4 = 2) (hPw : σ0.2.2 0 5 = 28) (hC : CF σ0.1) : Ok (f_X11_turn N 0 x1 x2 x3 σ0) (fun r => Tr [] σ0 r.2 ∧ (CF r.2.1)) := by
  have hT : Tr [] σ0 σ0 := Tr.rf
  obtain ⟨hW2, hW28, hW132, hW158, hW184, hL, hD, hu, ht⟩ := hC
  have hn := hW2.1
  have he := hW2.2.1
  have hD0 := hD
  have hL0 := hL
  have q10 := ti_one10 (x := σ0.1 2 0) hn.1 hn.2
  rw [f_X11_turn.eq_1]
  refine ok_gC rfl ?_
  refine ok_zbT (Q := fun V σ => (V = 0 ∨ V = 1) ∧ (¬ V = 0 → 0 ≤ x1.toInt ∧ x1.toInt ≤ 9)) hT (s_X11_isRegister_n2 hN (hR.tr hT) ((hT.1.1 0 4 (by decide)).trans hNw) (by first | exact hn | omega | (rw [hT.2 2 (by decide)]; exact hn))) (fun _ h9 => absurd h9 List.not_mem_nil) (fun v1 σ2 hOσ2 hT hqv1 => ?_)
  have hqv1 : (v1 = 0 ∨ v1 = 1) ∧ (¬ v1 = 0 → 0 ≤ x1.toInt ∧ x1.toInt ≤ 9) := hqv1
  have hW2 : WI 2 σ2.1 := WI.tr hOσ2 (by decide) (by decide) (by decide) hW2
  have hW28 : WI 28 σ2.1 := WI.tr hOσ2 (by decide) (by decide) (by decide) hW28
  have hW132 : WI 132 σ2.1 := WI.tr hOσ2 (by decide) (by decide) (by decide) hW132
  have hW158 : WI 158 σ2.1 := WI.tr hOσ2 (by decide) (by decide) (by decide) hW158
  have hW184 : WI 184 σ2.1 := WI.tr hOσ2 (by decide) (by decide) (by decide) hW184
  have hL : SI σ2.1 := SI.tr hOσ2 (by decide) (by decide) (by decide) (by decide) hL
  have hD : RD σ2.1 := RD.tr hOσ2 (by decide) (by decide) (by decide) (by decide) hD
  have hu : 2 ≤ (σ2.1 111 8).toInt ∧ (σ2.1 111 8).toInt ≤ 1600 := by rw [hOσ2.2 111 (by decide)] <;> exact hu
  have ht : 0 ≤ (σ2.1 0 1).toInt ∧ (σ2.1 0 1).toInt ≤ 600 := by rw [hOσ2.2 0 (by decide)] <;> exact ht
  refine ok_if (fun hc3 => ?_) (fun hc3 => ?_)
  · exact ok_some ⟨hT, (show CF σ2.1 from by exact ⟨hW2, hW28, hW132, hW158, hW184, hL, hD, hu, ht⟩)⟩
  · have qhc3 := hqv1.2 hc3
    refine ok_gC rfl ?_
    refine ok_zbT (Q := fun V σ => (V = 0 ∨ V = 1) ∧ (¬ V = 0 → 0 ≤ x3.toInt ∧ x3.toInt ≤ 9)) hT (s_X11_isRegister_n2 hN (hR.tr hT) ((hT.1.1 0 4 (by decide)).trans hNw) (by first | exact hn | omega | (rw [hT.2 2 (by decide)]; exact hn))) (fun _ h9 => absurd h9 List.not_mem_nil) (fun v4 σ5 hOσ5 hT hqv4 => ?_)
    have hqv4 : (v4 = 0 ∨ v4 = 1) ∧ (¬ v4 = 0 → 0 ≤ x3.toInt ∧ x3.toInt ≤ 9) := hqv4
    have hW2 : WI 2 σ5.1 := WI.tr hOσ5 (by decide) (by decide) (by decide) hW2
    have hW28 : WI 28 σ5.1 := WI.tr hOσ5 (by decide) (by decide) (by decide) hW28
    have hW132 : WI 132 σ5.1 := WI.tr hOσ5 (by decide) (by decide) (by decide) hW132
    have hW158 : WI 158 σ5.1 := WI.tr hOσ5 (by decide) (by decide) (by decide) hW158
    have hW184 : WI 184 σ5.1 := WI.tr hOσ5 (by decide) (by decide) (by decide) hW184
    have hL : SI σ5.1 := SI.tr hOσ5 (by decide) (by decide) (by decide) (by decide) hL
    have hD : RD σ5.1 := RD.tr hOσ5 (by decide) (by decide) (by decide) (by decide) hD
    have hu : 2 ≤ (σ5.1 111 8).toInt ∧ (σ5.1 111 8).toInt ≤ 1600 := by rw [hOσ5.2 111 (by decide)] <;> exact hu
    have ht : 0 ≤ (σ5.1 0 1).toInt ∧ (σ5.1 0 1).toInt ≤ 600 := by rw [hOσ5.2 0 (by decide)] <;> exact ht
    refine ok_if (fun hc6 => ?_) (fun hc6 => ?_)
    · exact ok_some ⟨hT, (show CF σ5.1 from by exact ⟨hW2, hW28, hW132, hW158, hW184, hL, hD, hu, ht⟩)⟩
    · have qhc6 := hqv4.2 hc6
      refine ok_if (fun hc7 => ?_) (fun hc7 => ?_)
      · exact ok_some ⟨hT, (show CF σ5.1 from by exact ⟨hW2, hW28, hW132, hW158, hW184, hL, hD, hu, ht⟩)⟩
      · refine ok_if (fun hc8 => ?_) (fun hc8 => ?_)
        · refine ok_gR (v := 128) hT rfl (hR 0 17 rfl) ?_
          refine ok_gR (v := 2) hT rfl hNw ?_
          refine ok_gR (v := 7) hT rfl (hR 2 7 rfl) ?_
          obtain ⟨q13, eq13, kq13⟩ := arrF hR (k := 7) (i := x3) rfl (by first | omega | decide | (have q1 := hD.1; have q2 := hD.2.1; simp only [Int32.le_iff_toInt_le, Int32.lt_iff_toInt_lt, ti_add, ti_sub, ti_mul, Int32.reduceToInt] at *; omega)) (by first | omega | decide | (have q1 := hD.1; have q2 := hD.2.1; simp only [Int32.le_iff_toInt_le, Int32.lt_iff_toInt_lt, ti_add, ti_sub, ti_mul, Int32.reduceToInt] at *; omega))
          refine ok_aR (v := q13) hT rfl (by first | omega | decide | (have q1 := hD.1; have q2 := hD.2.1; simp only [Int32.le_iff_toInt_le, Int32.lt_iff_toInt_lt, ti_add, ti_sub, ti_mul, Int32.reduceToInt] at *; omega)) (by first | omega | decide | (have q1 := hD.1; have q2 := hD.2.1; simp only [Int32.le_iff_toInt_le, Int32.lt_iff_toInt_lt, ti_add, ti_sub, ti_mul, Int32.reduceToInt] at *; omega)) eq13 ?_
          refine ok_gC rfl ?_
          refine ok_zbT (Q := fun V σ => True) hT (s_X2_copyFrom hN (hR.tr hT) rfl kq13) (fun _ h9 => absurd h9 List.not_mem_nil) (fun v14 σ15 hOσ15 hT hqv14 => ?_)
          have hW2 : WI 2 σ15.1 := WI.tr hOσ15 (by decide) (by decide) (by decide) hW2
          have hW28 : WI 28 σ15.1 := WI.tr hOσ15 (by decide) (by decide) (by decide) hW28
          have hW132 : WI 132 σ15.1 := WI.tr hOσ15 (by decide) (by decide) (by decide) hW132
          have hW158 : WI 158 σ15.1 := WI.tr hOσ15 (by decide) (by decide) (by decide) hW158
          have hW184 : WI 184 σ15.1 := WI.tr hOσ15 (by decide) (by decide) (by decide) hW184
          have hL : SI σ15.1 := SI.tr hOσ15 (by decide) (by decide) (by decide) (by decide) hL
          have hD : RD σ15.1 := RD.tr hOσ15 (by decide) (by decide) (by decide) (by decide) hD
          have hu : 2 ≤ (σ15.1 111 8).toInt ∧ (σ15.1 111 8).toInt ≤ 1600 := by rw [hOσ15.2 111 (by decide)] <;> exact hu
          have ht : 0 ≤ (σ15.1 0 1).toInt ∧ (σ15.1 0 1).toInt ≤ 600 := by rw [hOσ15.2 0 (by decide)] <;> exact ht
          refine ok_gR (v := 99) hT rfl (hR 0 11 rfl) ?_
          refine ok_gR (v := 128) hT rfl (hR 0 17 rfl) ?_
          refine ok_gR (v := 2) hT rfl hNw ?_
          refine ok_gI0 hT rfl (by decide) ?_
          refine ok_gC rfl ?_
          refine ok_zbT (Q := fun V σ => True) hT (s_X0_reshape hN (hR.tr hT) rfl (by first | exact hn | omega | (rw [hT.2 2 (by decide)]; exact hn))) (fun _ h9 => absurd h9 List.not_mem_nil) (fun v20 σ21 hOσ21 hT hqv20 => ?_)
          have hW2 : WI 2 σ21.1 := WI.tr hOσ21 (by decide) (by decide) (by decide) hW2
          have hW28 : WI 28 σ21.1 := WI.tr hOσ21 (by decide) (by decide) (by decide) hW28
          have hW132 : WI 132 σ21.1 := WI.tr hOσ21 (by decide) (by decide) (by decide) hW132
          have hW158 : WI 158 σ21.1 := WI.tr hOσ21 (by decide) (by decide) (by decide) hW158
          have hW184 : WI 184 σ21.1 := WI.tr hOσ21 (by decide) (by decide) (by decide) hW184
          have hL : SI σ21.1 := SI.tr hOσ21 (by decide) (by decide) (by decide) (by decide) hL
          have hD : RD σ21.1 := RD.tr hOσ21 (by decide) (by decide) (by decide) (by decide) hD
          have hu : 2 ≤ (σ21.1 111 8).toInt ∧ (σ21.1 111 8).toInt ≤ 1600 := by rw [hOσ21.2 111 (by decide)] <;> exact hu
          have ht : 0 ≤ (σ21.1 0 1).toInt ∧ (σ21.1 0 1).toInt ≤ 600 := by rw [hOσ21.2 0 (by decide)] <;> exact ht
          refine ok_gC rfl ?_
          refine ok_zbT (Q := fun V σ => True) hT (s_X11_store_n2 hN (hR.tr hT) ((hT.1.1 0 4 (by decide)).trans hNw) (by first | exact hn | omega | (rw [hT.2 2 (by decide)]; exact hn))) (fun _ h9 => absurd h9 List.not_mem_nil) (fun v22 σ23 hOσ23 hT hqv22 => ?_)
          have hW2 : WI 2 σ23.1 := WI.tr hOσ23 (by decide) (by decide) (by decide) hW2
          have hW28 : WI 28 σ23.1 := WI.tr hOσ23 (by decide) (by decide) (by decide) hW28
          have hW132 : WI 132 σ23.1 := WI.tr hOσ23 (by decide) (by decide) (by decide) hW132
          have hW158 : WI 158 σ23.1 := WI.tr hOσ23 (by decide) (by decide) (by decide) hW158
          have hW184 : WI 184 σ23.1 := WI.tr hOσ23 (by decide) (by decide) (by decide) hW184
          have hL : SI σ23.1 := SI.tr hOσ23 (by decide) (by decide) (by decide) (by decide) hL
          have hD : RD σ23.1 := RD.tr hOσ23 (by decide) (by decide) (by decide) (by decide) hD
          have hu : 2 ≤ (σ23.1 111 8).toInt ∧ (σ23.1 111 8).toInt ≤ 1600 := by rw [hOσ23.2 111 (by decide)] <;> exact hu
          have ht : 0 ≤ (σ23.1 0 1).toInt ∧ (σ23.1 0 1).toInt ≤ 600 := by rw [hOσ23.2 0 (by decide)] <;> exact ht
          exact ok_some ⟨hT, (show CF σ23.1 from by exact ⟨hW2, hW28, hW132, hW158, hW184, hL, hD, hu, ht⟩)⟩
        · exact ok_some ⟨hT, (show CF σ5.1 from by exact ⟨hW2, hW28, hW132, hW158, hW184, hL, hD, hu, ht⟩)⟩

set_option maxHeartbeats 4000000 in
set_option maxRecDepth 100000 in
theorem s_X11_sets_n2 {N : Nat} (hN : 1048576 ≤ N) {x1 : Int32} {x2 : Int32} {x3 : Int32} {σ0 : zS}  (hR : RF σ0.2.2) (hNw : σ0.2.2 0 4 = 2) (hPw : σ0.2.2 0 5 = 28) (hC : CF σ0.1) : Ok (f_X11_sets N 0 x1 x2 x3 σ0) (fun r => Tr [] σ0 r.2 ∧ (CF r.2.1)) := by
  have hT : Tr [] σ0 σ0 := Tr.rf
  obtain ⟨hW2, hW28, hW132, hW158, hW184, hL, hD, hu, ht⟩ := hC
  have hn := hW2.1
  have he := hW2.2.1
  have hD0 := hD
  have hL0 := hL
  have q10 := ti_one10 (x := σ0.1 2 0) hn.1 hn.2
  rw [f_X11_sets.eq_1]
  refine ok_gC rfl ?_
  refine ok_zbT (Q := fun V σ => (V = 0 ∨ V = 1) ∧ (¬ V = 0 → 0 ≤ x1.toInt ∧ x1.toInt ≤ 9)) hT (s_X11_isRegister_n2 hN (hR.tr hT) ((hT.1.1 0 4 (by decide)).trans hNw) (by first | exact hn | omega | (rw [hT.2 2 (by decide)]; exact hn))) (fun _ h9 => absurd h9 List.not_mem_nil) (fun v1 σ2 hOσ2 hT hqv1 => ?_)
  have hqv1 : (v1 = 0 ∨ v1 = 1) ∧ (¬ v1 = 0 → 0 ≤ x1.toInt ∧ x1.toInt ≤ 9) := hqv1
  have hW2 : WI 2 σ2.1 := WI.tr hOσ2 (by decide) (by decide) (by decide) hW2
  have hW28 : WI 28 σ2.1 := WI.tr hOσ2 (by decide) (by decide) (by decide) hW28
  have hW132 : WI 132 σ2.1 := WI.tr hOσ2 (by decide) (by decide) (by decide) hW132
  have hW158 : WI 158 σ2.1 := WI.tr hOσ2 (by decide) (by decide) (by decide) hW158
  have hW184 : WI 184 σ2.1 := WI.tr hOσ2 (by decide) (by decide) (by decide) hW184
  have hL : SI σ2.1 := SI.tr hOσ2 (by decide) (by decide) (by decide) (by decide) hL
  have hD : RD σ2.1 := RD.tr hOσ2 (by decide) (by decide) (by decide) (by decide) hD
  have hu : 2 ≤ (σ2.1 111 8).toInt ∧ (σ2.1 111 8).toInt ≤ 1600 := by rw [hOσ2.2 111 (by decide)] <;> exact hu
  have ht : 0 ≤ (σ2.1 0 1).toInt ∧ (σ2.1 0 1).toInt ≤ 600 := by rw [hOσ2.2 0 (by decide)] <;> exact ht
  refine ok_if (fun hc3 => ?_) (fun hc3 => ?_)
  · exact ok_some ⟨hT, (show CF σ2.1 from by exact ⟨hW2, hW28, hW132, hW158, hW184, hL, hD, hu, ht⟩)⟩
  · have qhc3 := hqv1.2 hc3
    refine ok_gC rfl ?_
    refine ok_zbT (Q := fun V σ => (V = 0 ∨ V = 1) ∧ (¬ V = 0 → 0 ≤ x2.toInt ∧ x2.toInt ≤ 1023)) hT (s_X11_isSet_n2 hN (hR.tr hT) ((hT.1.1 0 4 (by decide)).trans hNw) (by first | exact hn | omega | (rw [hT.2 2 (by decide)]; exact hn))) (fun _ h9 => absurd h9 List.not_mem_nil) (fun v4 σ5 hOσ5 hT hqv4 => ?_)
    have hqv4 : (v4 = 0 ∨ v4 = 1) ∧ (¬ v4 = 0 → 0 ≤ x2.toInt ∧ x2.toInt ≤ 1023) := hqv4
    have hW2 : WI 2 σ5.1 := WI.tr hOσ5 (by decide) (by decide) (by decide) hW2
    have hW28 : WI 28 σ5.1 := WI.tr hOσ5 (by decide) (by decide) (by decide) hW28
    have hW132 : WI 132 σ5.1 := WI.tr hOσ5 (by decide) (by decide) (by decide) hW132
    have hW158 : WI 158 σ5.1 := WI.tr hOσ5 (by decide) (by decide) (by decide) hW158
    have hW184 : WI 184 σ5.1 := WI.tr hOσ5 (by decide) (by decide) (by decide) hW184
    have hL : SI σ5.1 := SI.tr hOσ5 (by decide) (by decide) (by decide) (by decide) hL
    have hD : RD σ5.1 := RD.tr hOσ5 (by decide) (by decide) (by decide) (by decide) hD
    have hu : 2 ≤ (σ5.1 111 8).toInt ∧ (σ5.1 111 8).toInt ≤ 1600 := by rw [hOσ5.2 111 (by decide)] <;> exact hu
    have ht : 0 ≤ (σ5.1 0 1).toInt ∧ (σ5.1 0 1).toInt ≤ 600 := by rw [hOσ5.2 0 (by decide)] <;> exact ht
    refine ok_if (fun hc6 => ?_) (fun hc6 => ?_)
    · exact ok_some ⟨hT, (show CF σ5.1 from by exact ⟨hW2, hW28, hW132, hW158, hW184, hL, hD, hu, ht⟩)⟩
    · have qhc6 := hqv4.2 hc6
      refine ok_gR (v := 2) hT rfl hNw ?_
      refine ok_gR (v := 7) hT rfl (hR 2 7 rfl) ?_
      obtain ⟨q10, eq10, kq10⟩ := arrF hR (k := 7) (i := x1) rfl (by first | omega | decide | (have q1 := hD.1; have q2 := hD.2.1; simp only [Int32.le_iff_toInt_le, Int32.lt_iff_toInt_lt, ti_add, ti_sub, ti_mul, Int32.reduceToInt] at *; omega)) (by first | omega | decide | (have q1 := hD.1; have q2 := hD.2.1; simp only [Int32.le_iff_toInt_le, Int32.lt_iff_toInt_lt, ti_add, ti_sub, ti_mul, Int32.reduceToInt] at *; omega))
      refine ok_aR (v := q10) hT rfl (by first | omega | decide | (have q1 := hD.1; have q2 := hD.2.1; simp only [Int32.le_iff_toInt_le, Int32.lt_iff_toInt_lt, ti_add, ti_sub, ti_mul, Int32.reduceToInt] at *; omega)) (by first | omega | decide | (have q1 := hD.1; have q2 := hD.2.1; simp only [Int32.le_iff_toInt_le, Int32.lt_iff_toInt_lt, ti_add, ti_sub, ti_mul, Int32.reduceToInt] at *; omega)) eq10 ?_
      refine ok_gC kq10 ?_
      refine ok_zbT (Q := fun V σ => V = 0 ∨ V = 1) hT (s_X2_holds hN (hR.tr hT) kq10) (fun _ h9 => absurd h9 List.not_mem_nil) (fun v11 σ12 hOσ12 hT hqv11 => ?_)
      have hqv11 : v11 = 0 ∨ v11 = 1 := hqv11
      have hW2 : WI 2 σ12.1 := WI.tr hOσ12 (by decide) (by decide) (by decide) hW2
      have hW28 : WI 28 σ12.1 := WI.tr hOσ12 (by decide) (by decide) (by decide) hW28
      have hW132 : WI 132 σ12.1 := WI.tr hOσ12 (by decide) (by decide) (by decide) hW132
      have hW158 : WI 158 σ12.1 := WI.tr hOσ12 (by decide) (by decide) (by decide) hW158
      have hW184 : WI 184 σ12.1 := WI.tr hOσ12 (by decide) (by decide) (by decide) hW184
      have hL : SI σ12.1 := SI.tr hOσ12 (by decide) (by decide) (by decide) (by decide) hL
      have hD : RD σ12.1 := RD.tr hOσ12 (by decide) (by decide) (by decide) (by decide) hD
      have hu : 2 ≤ (σ12.1 111 8).toInt ∧ (σ12.1 111 8).toInt ≤ 1600 := by rw [hOσ12.2 111 (by decide)] <;> exact hu
      have ht : 0 ≤ (σ12.1 0 1).toInt ∧ (σ12.1 0 1).toInt ≤ 600 := by rw [hOσ12.2 0 (by decide)] <;> exact ht
      refine ok_if (fun hc13 => ?_) (fun hc13 => ?_)
      · exact ok_some ⟨hT, (show CF σ12.1 from by exact ⟨hW2, hW28, hW132, hW158, hW184, hL, hD, hu, ht⟩)⟩
      · refine ok_if (fun hc14 => ?_) (fun hc14 => ?_)
        · refine ok_gC kq10 ?_
          refine ok_zbT (Q := fun V σ => True) hT (s_X2_exclude hN (hR.tr hT) kq10) (fun _ h9 => absurd h9 List.not_mem_nil) (fun v15 σ16 hOσ16 hT hqv15 => ?_)
          have hW2 : WI 2 σ16.1 := WI.tr hOσ16 (by decide) (by decide) (by decide) hW2
          have hW28 : WI 28 σ16.1 := WI.tr hOσ16 (by decide) (by decide) (by decide) hW28
          have hW132 : WI 132 σ16.1 := WI.tr hOσ16 (by decide) (by decide) (by decide) hW132
          have hW158 : WI 158 σ16.1 := WI.tr hOσ16 (by decide) (by decide) (by decide) hW158
          have hW184 : WI 184 σ16.1 := WI.tr hOσ16 (by decide) (by decide) (by decide) hW184
          have hL : SI σ16.1 := SI.tr hOσ16 (by decide) (by decide) (by decide) (by decide) hL
          have hD : RD σ16.1 := RD.tr hOσ16 (by decide) (by decide) (by decide) (by decide) hD
          have hu : 2 ≤ (σ16.1 111 8).toInt ∧ (σ16.1 111 8).toInt ≤ 1600 := by rw [hOσ16.2 111 (by decide)] <;> exact hu
          have ht : 0 ≤ (σ16.1 0 1).toInt ∧ (σ16.1 0 1).toInt ≤ 600 := by rw [hOσ16.2 0 (by decide)] <;> exact ht
          exact ok_some ⟨hT, (show CF σ16.1 from by exact ⟨hW2, hW28, hW132, hW158, hW184, hL, hD, hu, ht⟩)⟩
        · refine ok_gC kq10 ?_
          refine ok_zbT (Q := fun V σ => True) hT (s_X2_include hN (hR.tr hT) kq10) (fun _ h9 => absurd h9 List.not_mem_nil) (fun v17 σ18 hOσ18 hT hqv17 => ?_)
          have hW2 : WI 2 σ18.1 := WI.tr hOσ18 (by decide) (by decide) (by decide) hW2
          have hW28 : WI 28 σ18.1 := WI.tr hOσ18 (by decide) (by decide) (by decide) hW28
          have hW132 : WI 132 σ18.1 := WI.tr hOσ18 (by decide) (by decide) (by decide) hW132
          have hW158 : WI 158 σ18.1 := WI.tr hOσ18 (by decide) (by decide) (by decide) hW158
          have hW184 : WI 184 σ18.1 := WI.tr hOσ18 (by decide) (by decide) (by decide) hW184
          have hL : SI σ18.1 := SI.tr hOσ18 (by decide) (by decide) (by decide) (by decide) hL
          have hD : RD σ18.1 := RD.tr hOσ18 (by decide) (by decide) (by decide) (by decide) hD
          have hu : 2 ≤ (σ18.1 111 8).toInt ∧ (σ18.1 111 8).toInt ≤ 1600 := by rw [hOσ18.2 111 (by decide)] <;> exact hu
          have ht : 0 ≤ (σ18.1 0 1).toInt ∧ (σ18.1 0 1).toInt ≤ 600 := by rw [hOσ18.2 0 (by decide)] <;> exact ht
          exact ok_some ⟨hT, (show CF σ18.1 from by exact ⟨hW2, hW28, hW132, hW158, hW184, hL, hD, hu, ht⟩)⟩

set_option maxHeartbeats 4000000 in
set_option maxRecDepth 100000 in
theorem s_X11_change_n2 {N : Nat} (hN : 1048576 ≤ N) {x1 : Int32} {x2 : Int32} {x3 : Int32} {σ0 : zS}  (hR : RF σ0.2.2) (hNw : σ0.2.2 0 4 = 2) (hPw : σ0.2.2 0 5 = 28) (hC : CF σ0.1) : Ok (f_X11_change N 0 x1 x2 x3 σ0) (fun r => Tr [] σ0 r.2 ∧ (CF r.2.1)) := by
  have hT : Tr [] σ0 σ0 := Tr.rf
  obtain ⟨hW2, hW28, hW132, hW158, hW184, hL, hD, hu, ht⟩ := hC
  have hn := hW2.1
  have he := hW2.2.1
  have hD0 := hD
  have hL0 := hL
  have q10 := ti_one10 (x := σ0.1 2 0) hn.1 hn.2
  rw [f_X11_change.eq_1]
  refine ok_gC rfl ?_
  refine ok_zbT (Q := fun V σ => (V = 0 ∨ V = 1) ∧ (¬ V = 0 → 0 ≤ x1.toInt ∧ x1.toInt ≤ 9)) hT (s_X11_isRegister_n2 hN (hR.tr hT) ((hT.1.1 0 4 (by decide)).trans hNw) (by first | exact hn | omega | (rw [hT.2 2 (by decide)]; exact hn))) (fun _ h9 => absurd h9 List.not_mem_nil) (fun v1 σ2 hOσ2 hT hqv1 => ?_)
  have hqv1 : (v1 = 0 ∨ v1 = 1) ∧ (¬ v1 = 0 → 0 ≤ x1.toInt ∧ x1.toInt ≤ 9) := hqv1
  have hW2 : WI 2 σ2.1 := WI.tr hOσ2 (by decide) (by decide) (by decide) hW2
  have hW28 : WI 28 σ2.1 := WI.tr hOσ2 (by decide) (by decide) (by decide) hW28
  have hW132 : WI 132 σ2.1 := WI.tr hOσ2 (by decide) (by decide) (by decide) hW132
  have hW158 : WI 158 σ2.1 := WI.tr hOσ2 (by decide) (by decide) (by decide) hW158
  have hW184 : WI 184 σ2.1 := WI.tr hOσ2 (by decide) (by decide) (by decide) hW184
  have hL : SI σ2.1 := SI.tr hOσ2 (by decide) (by decide) (by decide) (by decide) hL
  have hD : RD σ2.1 := RD.tr hOσ2 (by decide) (by decide) (by decide) (by decide) hD
  have hu : 2 ≤ (σ2.1 111 8).toInt ∧ (σ2.1 111 8).toInt ≤ 1600 := by rw [hOσ2.2 111 (by decide)] <;> exact hu
  have ht : 0 ≤ (σ2.1 0 1).toInt ∧ (σ2.1 0 1).toInt ≤ 600 := by rw [hOσ2.2 0 (by decide)] <;> exact ht
  refine ok_if (fun hc3 => ?_) (fun hc3 => ?_)
  · exact ok_some ⟨hT, (show CF σ2.1 from by exact ⟨hW2, hW28, hW132, hW158, hW184, hL, hD, hu, ht⟩)⟩
  · have qhc3 := hqv1.2 hc3
    refine ok_gC rfl ?_
    refine ok_zbT (Q := fun V σ => (V = 0 ∨ V = 1) ∧ (¬ V = 0 → 0 ≤ x2.toInt ∧ x2.toInt ≤ 9)) hT (s_X11_isRegister_n2 hN (hR.tr hT) ((hT.1.1 0 4 (by decide)).trans hNw) (by first | exact hn | omega | (rw [hT.2 2 (by decide)]; exact hn))) (fun _ h9 => absurd h9 List.not_mem_nil) (fun v4 σ5 hOσ5 hT hqv4 => ?_)
    have hqv4 : (v4 = 0 ∨ v4 = 1) ∧ (¬ v4 = 0 → 0 ≤ x2.toInt ∧ x2.toInt ≤ 9) := hqv4
    have hW2 : WI 2 σ5.1 := WI.tr hOσ5 (by decide) (by decide) (by decide) hW2
    have hW28 : WI 28 σ5.1 := WI.tr hOσ5 (by decide) (by decide) (by decide) hW28
    have hW132 : WI 132 σ5.1 := WI.tr hOσ5 (by decide) (by decide) (by decide) hW132
    have hW158 : WI 158 σ5.1 := WI.tr hOσ5 (by decide) (by decide) (by decide) hW158
    have hW184 : WI 184 σ5.1 := WI.tr hOσ5 (by decide) (by decide) (by decide) hW184
    have hL : SI σ5.1 := SI.tr hOσ5 (by decide) (by decide) (by decide) (by decide) hL
    have hD : RD σ5.1 := RD.tr hOσ5 (by decide) (by decide) (by decide) (by decide) hD
    have hu : 2 ≤ (σ5.1 111 8).toInt ∧ (σ5.1 111 8).toInt ≤ 1600 := by rw [hOσ5.2 111 (by decide)] <;> exact hu
    have ht : 0 ≤ (σ5.1 0 1).toInt ∧ (σ5.1 0 1).toInt ≤ 600 := by rw [hOσ5.2 0 (by decide)] <;> exact ht
    refine ok_if (fun hc6 => ?_) (fun hc6 => ?_)
    · exact ok_some ⟨hT, (show CF σ5.1 from by exact ⟨hW2, hW28, hW132, hW158, hW184, hL, hD, hu, ht⟩)⟩
    · have qhc6 := hqv4.2 hc6
      refine ok_gC rfl ?_
      refine ok_zbT (Q := fun V σ => (V = 0 ∨ V = 1) ∧ (¬ V = 0 → 0 ≤ x3.toInt ∧ x3.toInt < (σ5.1 2 0).toInt)) hT (s_X11_isName_n2 hN (hR.tr hT) ((hT.1.1 0 4 (by decide)).trans hNw) (by first | exact hn | omega | (rw [hT.2 2 (by decide)]; exact hn))) (fun _ h9 => absurd h9 List.not_mem_nil) (fun v7 σ8 hOσ8 hT hqv7 => ?_)
      have hqv7 : (v7 = 0 ∨ v7 = 1) ∧ (¬ v7 = 0 → 0 ≤ x3.toInt ∧ x3.toInt < (σ5.1 2 0).toInt) := hqv7
      have hW2 : WI 2 σ8.1 := WI.tr hOσ8 (by decide) (by decide) (by decide) hW2
      have hW28 : WI 28 σ8.1 := WI.tr hOσ8 (by decide) (by decide) (by decide) hW28
      have hW132 : WI 132 σ8.1 := WI.tr hOσ8 (by decide) (by decide) (by decide) hW132
      have hW158 : WI 158 σ8.1 := WI.tr hOσ8 (by decide) (by decide) (by decide) hW158
      have hW184 : WI 184 σ8.1 := WI.tr hOσ8 (by decide) (by decide) (by decide) hW184
      have hL : SI σ8.1 := SI.tr hOσ8 (by decide) (by decide) (by decide) (by decide) hL
      have hD : RD σ8.1 := RD.tr hOσ8 (by decide) (by decide) (by decide) (by decide) hD
      have hu : 2 ≤ (σ8.1 111 8).toInt ∧ (σ8.1 111 8).toInt ≤ 1600 := by rw [hOσ8.2 111 (by decide)] <;> exact hu
      have ht : 0 ≤ (σ8.1 0 1).toInt ∧ (σ8.1 0 1).toInt ≤ 600 := by rw [hOσ8.2 0 (by decide)] <;> exact ht
      refine ok_if (fun hc9 => ?_) (fun hc9 => ?_)
      · exact ok_some ⟨hT, (show CF σ8.1 from by exact ⟨hW2, hW28, hW132, hW158, hW184, hL, hD, hu, ht⟩)⟩
      · have qhc9 := hqv7.2 hc9
        refine ok_gR (v := 128) hT rfl (hR 0 17 rfl) ?_
        refine ok_gR (v := 2) hT rfl hNw ?_
        refine ok_gR (v := 7) hT rfl (hR 2 7 rfl) ?_
        obtain ⟨q14, eq14, kq14⟩ := arrF hR (k := 7) (i := x2) rfl (by first | omega | decide | (have q1 := hD.1; have q2 := hD.2.1; simp only [Int32.le_iff_toInt_le, Int32.lt_iff_toInt_lt, ti_add, ti_sub, ti_mul, Int32.reduceToInt] at *; omega)) (by first | omega | decide | (have q1 := hD.1; have q2 := hD.2.1; simp only [Int32.le_iff_toInt_le, Int32.lt_iff_toInt_lt, ti_add, ti_sub, ti_mul, Int32.reduceToInt] at *; omega))
        refine ok_aR (v := q14) hT rfl (by first | omega | decide | (have q1 := hD.1; have q2 := hD.2.1; simp only [Int32.le_iff_toInt_le, Int32.lt_iff_toInt_lt, ti_add, ti_sub, ti_mul, Int32.reduceToInt] at *; omega)) (by first | omega | decide | (have q1 := hD.1; have q2 := hD.2.1; simp only [Int32.le_iff_toInt_le, Int32.lt_iff_toInt_lt, ti_add, ti_sub, ti_mul, Int32.reduceToInt] at *; omega)) eq14 ?_
        refine ok_gC rfl ?_
        refine ok_zbT (Q := fun V σ => True) hT (s_X2_copyFrom hN (hR.tr hT) rfl kq14) (fun _ h9 => absurd h9 List.not_mem_nil) (fun v15 σ16 hOσ16 hT hqv15 => ?_)
        have hW2 : WI 2 σ16.1 := WI.tr hOσ16 (by decide) (by decide) (by decide) hW2
        have hW28 : WI 28 σ16.1 := WI.tr hOσ16 (by decide) (by decide) (by decide) hW28
        have hW132 : WI 132 σ16.1 := WI.tr hOσ16 (by decide) (by decide) (by decide) hW132
        have hW158 : WI 158 σ16.1 := WI.tr hOσ16 (by decide) (by decide) (by decide) hW158
        have hW184 : WI 184 σ16.1 := WI.tr hOσ16 (by decide) (by decide) (by decide) hW184
        have hL : SI σ16.1 := SI.tr hOσ16 (by decide) (by decide) (by decide) (by decide) hL
        have hD : RD σ16.1 := RD.tr hOσ16 (by decide) (by decide) (by decide) (by decide) hD
        have hu : 2 ≤ (σ16.1 111 8).toInt ∧ (σ16.1 111 8).toInt ≤ 1600 := by rw [hOσ16.2 111 (by decide)] <;> exact hu
        have ht : 0 ≤ (σ16.1 0 1).toInt ∧ (σ16.1 0 1).toInt ≤ 600 := by rw [hOσ16.2 0 (by decide)] <;> exact ht
        refine ok_gR (v := 128) hT rfl (hR 0 17 rfl) ?_
        refine ok_gC rfl ?_
        refine ok_zbT (Q := fun V σ => True) hT (s_X2_flip hN (hR.tr hT) rfl) (fun _ h9 => absurd h9 List.not_mem_nil) (fun v18 σ19 hOσ19 hT hqv18 => ?_)
        have hW2 : WI 2 σ19.1 := WI.tr hOσ19 (by decide) (by decide) (by decide) hW2
        have hW28 : WI 28 σ19.1 := WI.tr hOσ19 (by decide) (by decide) (by decide) hW28
        have hW132 : WI 132 σ19.1 := WI.tr hOσ19 (by decide) (by decide) (by decide) hW132
        have hW158 : WI 158 σ19.1 := WI.tr hOσ19 (by decide) (by decide) (by decide) hW158
        have hW184 : WI 184 σ19.1 := WI.tr hOσ19 (by decide) (by decide) (by decide) hW184
        have hL : SI σ19.1 := SI.tr hOσ19 (by decide) (by decide) (by decide) (by decide) hL
        have hD : RD σ19.1 := RD.tr hOσ19 (by decide) (by decide) (by decide) (by decide) hD
        have hu : 2 ≤ (σ19.1 111 8).toInt ∧ (σ19.1 111 8).toInt ≤ 1600 := by rw [hOσ19.2 111 (by decide)] <;> exact hu
        have ht : 0 ≤ (σ19.1 0 1).toInt ∧ (σ19.1 0 1).toInt ≤ 600 := by rw [hOσ19.2 0 (by decide)] <;> exact ht
        refine ok_gC rfl ?_
        refine ok_zbT (Q := fun V σ => True) hT (s_X11_store_n2 hN (hR.tr hT) ((hT.1.1 0 4 (by decide)).trans hNw) (by first | exact hn | omega | (rw [hT.2 2 (by decide)]; exact hn))) (fun _ h9 => absurd h9 List.not_mem_nil) (fun v20 σ21 hOσ21 hT hqv20 => ?_)
        have hW2 : WI 2 σ21.1 := WI.tr hOσ21 (by decide) (by decide) (by decide) hW2
        have hW28 : WI 28 σ21.1 := WI.tr hOσ21 (by decide) (by decide) (by decide) hW28
        have hW132 : WI 132 σ21.1 := WI.tr hOσ21 (by decide) (by decide) (by decide) hW132
        have hW158 : WI 158 σ21.1 := WI.tr hOσ21 (by decide) (by decide) (by decide) hW158
        have hW184 : WI 184 σ21.1 := WI.tr hOσ21 (by decide) (by decide) (by decide) hW184
        have hL : SI σ21.1 := SI.tr hOσ21 (by decide) (by decide) (by decide) (by decide) hL
        have hD : RD σ21.1 := RD.tr hOσ21 (by decide) (by decide) (by decide) (by decide) hD
        have hu : 2 ≤ (σ21.1 111 8).toInt ∧ (σ21.1 111 8).toInt ≤ 1600 := by rw [hOσ21.2 111 (by decide)] <;> exact hu
        have ht : 0 ≤ (σ21.1 0 1).toInt ∧ (σ21.1 0 1).toInt ≤ 600 := by rw [hOσ21.2 0 (by decide)] <;> exact ht
        exact ok_some ⟨hT, (show CF σ21.1 from by exact ⟨hW2, hW28, hW132, hW158, hW184, hL, hD, hu, ht⟩)⟩

set_option maxHeartbeats 4000000 in
set_option maxRecDepth 100000 in
theorem s_X11_half_n2 {N : Nat} (hN : 1048576 ≤ N) {x1 : Int32} {x2 : Int32} {x3 : Int32} {x4 : Int32} {σ0 : zS}  (hR : RF σ0.2.2) (hNw : σ0.2.2 0 4 = 2) (hPw : σ0.2.2 0 5 = 28) (hC : CF σ0.1) : Ok (f_X11_half N 0 x1 x2 x3 x4 σ0) (fun r => Tr [] σ0 r.2 ∧ (CF r.2.1)) := by
  have hT : Tr [] σ0 σ0 := Tr.rf
  obtain ⟨hW2, hW28, hW132, hW158, hW184, hL, hD, hu, ht⟩ := hC
  have hn := hW2.1
  have he := hW2.2.1
  have hD0 := hD
  have hL0 := hL
  have q10 := ti_one10 (x := σ0.1 2 0) hn.1 hn.2
  rw [f_X11_half.eq_1]
  refine ok_gC rfl ?_
  refine ok_zbT (Q := fun V σ => (V = 0 ∨ V = 1) ∧ (¬ V = 0 → 0 ≤ x1.toInt ∧ x1.toInt ≤ 9)) hT (s_X11_isRegister_n2 hN (hR.tr hT) ((hT.1.1 0 4 (by decide)).trans hNw) (by first | exact hn | omega | (rw [hT.2 2 (by decide)]; exact hn))) (fun _ h9 => absurd h9 List.not_mem_nil) (fun v1 σ2 hOσ2 hT hqv1 => ?_)
  have hqv1 : (v1 = 0 ∨ v1 = 1) ∧ (¬ v1 = 0 → 0 ≤ x1.toInt ∧ x1.toInt ≤ 9) := hqv1
  have hW2 : WI 2 σ2.1 := WI.tr hOσ2 (by decide) (by decide) (by decide) hW2
  have hW28 : WI 28 σ2.1 := WI.tr hOσ2 (by decide) (by decide) (by decide) hW28
  have hW132 : WI 132 σ2.1 := WI.tr hOσ2 (by decide) (by decide) (by decide) hW132
  have hW158 : WI 158 σ2.1 := WI.tr hOσ2 (by decide) (by decide) (by decide) hW158
  have hW184 : WI 184 σ2.1 := WI.tr hOσ2 (by decide) (by decide) (by decide) hW184
  have hL : SI σ2.1 := SI.tr hOσ2 (by decide) (by decide) (by decide) (by decide) hL
  have hD : RD σ2.1 := RD.tr hOσ2 (by decide) (by decide) (by decide) (by decide) hD
  have hu : 2 ≤ (σ2.1 111 8).toInt ∧ (σ2.1 111 8).toInt ≤ 1600 := by rw [hOσ2.2 111 (by decide)] <;> exact hu
  have ht : 0 ≤ (σ2.1 0 1).toInt ∧ (σ2.1 0 1).toInt ≤ 600 := by rw [hOσ2.2 0 (by decide)] <;> exact ht
  refine ok_if (fun hc3 => ?_) (fun hc3 => ?_)
  · exact ok_some ⟨hT, (show CF σ2.1 from by exact ⟨hW2, hW28, hW132, hW158, hW184, hL, hD, hu, ht⟩)⟩
  · have qhc3 := hqv1.2 hc3
    refine ok_gC rfl ?_
    refine ok_zbT (Q := fun V σ => (V = 0 ∨ V = 1) ∧ (¬ V = 0 → 0 ≤ x2.toInt ∧ x2.toInt ≤ 9)) hT (s_X11_isRegister_n2 hN (hR.tr hT) ((hT.1.1 0 4 (by decide)).trans hNw) (by first | exact hn | omega | (rw [hT.2 2 (by decide)]; exact hn))) (fun _ h9 => absurd h9 List.not_mem_nil) (fun v4 σ5 hOσ5 hT hqv4 => ?_)
    have hqv4 : (v4 = 0 ∨ v4 = 1) ∧ (¬ v4 = 0 → 0 ≤ x2.toInt ∧ x2.toInt ≤ 9) := hqv4
    have hW2 : WI 2 σ5.1 := WI.tr hOσ5 (by decide) (by decide) (by decide) hW2
    have hW28 : WI 28 σ5.1 := WI.tr hOσ5 (by decide) (by decide) (by decide) hW28
    have hW132 : WI 132 σ5.1 := WI.tr hOσ5 (by decide) (by decide) (by decide) hW132
    have hW158 : WI 158 σ5.1 := WI.tr hOσ5 (by decide) (by decide) (by decide) hW158
    have hW184 : WI 184 σ5.1 := WI.tr hOσ5 (by decide) (by decide) (by decide) hW184
    have hL : SI σ5.1 := SI.tr hOσ5 (by decide) (by decide) (by decide) (by decide) hL
    have hD : RD σ5.1 := RD.tr hOσ5 (by decide) (by decide) (by decide) (by decide) hD
    have hu : 2 ≤ (σ5.1 111 8).toInt ∧ (σ5.1 111 8).toInt ≤ 1600 := by rw [hOσ5.2 111 (by decide)] <;> exact hu
    have ht : 0 ≤ (σ5.1 0 1).toInt ∧ (σ5.1 0 1).toInt ≤ 600 := by rw [hOσ5.2 0 (by decide)] <;> exact ht
    refine ok_if (fun hc6 => ?_) (fun hc6 => ?_)
    · exact ok_some ⟨hT, (show CF σ5.1 from by exact ⟨hW2, hW28, hW132, hW158, hW184, hL, hD, hu, ht⟩)⟩
    · have qhc6 := hqv4.2 hc6
      refine ok_gC rfl ?_
      refine ok_zbT (Q := fun V σ => (V = 0 ∨ V = 1) ∧ (¬ V = 0 → 0 ≤ x3.toInt ∧ x3.toInt < (σ5.1 2 0).toInt)) hT (s_X11_isName_n2 hN (hR.tr hT) ((hT.1.1 0 4 (by decide)).trans hNw) (by first | exact hn | omega | (rw [hT.2 2 (by decide)]; exact hn))) (fun _ h9 => absurd h9 List.not_mem_nil) (fun v7 σ8 hOσ8 hT hqv7 => ?_)
      have hqv7 : (v7 = 0 ∨ v7 = 1) ∧ (¬ v7 = 0 → 0 ≤ x3.toInt ∧ x3.toInt < (σ5.1 2 0).toInt) := hqv7
      have hW2 : WI 2 σ8.1 := WI.tr hOσ8 (by decide) (by decide) (by decide) hW2
      have hW28 : WI 28 σ8.1 := WI.tr hOσ8 (by decide) (by decide) (by decide) hW28
      have hW132 : WI 132 σ8.1 := WI.tr hOσ8 (by decide) (by decide) (by decide) hW132
      have hW158 : WI 158 σ8.1 := WI.tr hOσ8 (by decide) (by decide) (by decide) hW158
      have hW184 : WI 184 σ8.1 := WI.tr hOσ8 (by decide) (by decide) (by decide) hW184
      have hL : SI σ8.1 := SI.tr hOσ8 (by decide) (by decide) (by decide) (by decide) hL
      have hD : RD σ8.1 := RD.tr hOσ8 (by decide) (by decide) (by decide) (by decide) hD
      have hu : 2 ≤ (σ8.1 111 8).toInt ∧ (σ8.1 111 8).toInt ≤ 1600 := by rw [hOσ8.2 111 (by decide)] <;> exact hu
      have ht : 0 ≤ (σ8.1 0 1).toInt ∧ (σ8.1 0 1).toInt ≤ 600 := by rw [hOσ8.2 0 (by decide)] <;> exact ht
      refine ok_if (fun hc9 => ?_) (fun hc9 => ?_)
      · exact ok_some ⟨hT, (show CF σ8.1 from by exact ⟨hW2, hW28, hW132, hW158, hW184, hL, hD, hu, ht⟩)⟩
      · have qhc9 := hqv7.2 hc9
        refine ok_gR (v := 128) hT rfl (hR 0 17 rfl) ?_
        refine ok_gR (v := 2) hT rfl hNw ?_
        refine ok_gR (v := 7) hT rfl (hR 2 7 rfl) ?_
        obtain ⟨q14, eq14, kq14⟩ := arrF hR (k := 7) (i := x2) rfl (by first | omega | decide | (have q1 := hD.1; have q2 := hD.2.1; simp only [Int32.le_iff_toInt_le, Int32.lt_iff_toInt_lt, ti_add, ti_sub, ti_mul, Int32.reduceToInt] at *; omega)) (by first | omega | decide | (have q1 := hD.1; have q2 := hD.2.1; simp only [Int32.le_iff_toInt_le, Int32.lt_iff_toInt_lt, ti_add, ti_sub, ti_mul, Int32.reduceToInt] at *; omega))
        refine ok_aR (v := q14) hT rfl (by first | omega | decide | (have q1 := hD.1; have q2 := hD.2.1; simp only [Int32.le_iff_toInt_le, Int32.lt_iff_toInt_lt, ti_add, ti_sub, ti_mul, Int32.reduceToInt] at *; omega)) (by first | omega | decide | (have q1 := hD.1; have q2 := hD.2.1; simp only [Int32.le_iff_toInt_le, Int32.lt_iff_toInt_lt, ti_add, ti_sub, ti_mul, Int32.reduceToInt] at *; omega)) eq14 ?_
        refine ok_gC rfl ?_
        refine ok_zbT (Q := fun V σ => True) hT (s_X2_copyFrom hN (hR.tr hT) rfl kq14) (fun _ h9 => absurd h9 List.not_mem_nil) (fun v15 σ16 hOσ16 hT hqv15 => ?_)
        have hW2 : WI 2 σ16.1 := WI.tr hOσ16 (by decide) (by decide) (by decide) hW2
        have hW28 : WI 28 σ16.1 := WI.tr hOσ16 (by decide) (by decide) (by decide) hW28
        have hW132 : WI 132 σ16.1 := WI.tr hOσ16 (by decide) (by decide) (by decide) hW132
        have hW158 : WI 158 σ16.1 := WI.tr hOσ16 (by decide) (by decide) (by decide) hW158
        have hW184 : WI 184 σ16.1 := WI.tr hOσ16 (by decide) (by decide) (by decide) hW184
        have hL : SI σ16.1 := SI.tr hOσ16 (by decide) (by decide) (by decide) (by decide) hL
        have hD : RD σ16.1 := RD.tr hOσ16 (by decide) (by decide) (by decide) (by decide) hD
        have hu : 2 ≤ (σ16.1 111 8).toInt ∧ (σ16.1 111 8).toInt ≤ 1600 := by rw [hOσ16.2 111 (by decide)] <;> exact hu
        have ht : 0 ≤ (σ16.1 0 1).toInt ∧ (σ16.1 0 1).toInt ≤ 600 := by rw [hOσ16.2 0 (by decide)] <;> exact ht
        refine ok_if (fun hc17 => ?_) (fun hc17 => ?_)
        · refine ok_gR (v := 128) hT rfl (hR 0 17 rfl) ?_
          refine ok_gC rfl ?_
          refine ok_zbT (Q := fun V σ => True) hT (s_X2_keepWithout hN (hR.tr hT) rfl) (fun _ h9 => absurd h9 List.not_mem_nil) (fun v19 σ20 hOσ20 hT hqv19 => ?_)
          have hW2 : WI 2 σ20.1 := WI.tr hOσ20 (by decide) (by decide) (by decide) hW2
          have hW28 : WI 28 σ20.1 := WI.tr hOσ20 (by decide) (by decide) (by decide) hW28
          have hW132 : WI 132 σ20.1 := WI.tr hOσ20 (by decide) (by decide) (by decide) hW132
          have hW158 : WI 158 σ20.1 := WI.tr hOσ20 (by decide) (by decide) (by decide) hW158
          have hW184 : WI 184 σ20.1 := WI.tr hOσ20 (by decide) (by decide) (by decide) hW184
          have hL : SI σ20.1 := SI.tr hOσ20 (by decide) (by decide) (by decide) (by decide) hL
          have hD : RD σ20.1 := RD.tr hOσ20 (by decide) (by decide) (by decide) (by decide) hD
          have hu : 2 ≤ (σ20.1 111 8).toInt ∧ (σ20.1 111 8).toInt ≤ 1600 := by rw [hOσ20.2 111 (by decide)] <;> exact hu
          have ht : 0 ≤ (σ20.1 0 1).toInt ∧ (σ20.1 0 1).toInt ≤ 600 := by rw [hOσ20.2 0 (by decide)] <;> exact ht
          refine ok_gC rfl ?_
          refine ok_zbT (Q := fun V σ => True) hT (s_X11_store_n2 hN (hR.tr hT) ((hT.1.1 0 4 (by decide)).trans hNw) (by first | exact hn | omega | (rw [hT.2 2 (by decide)]; exact hn))) (fun _ h9 => absurd h9 List.not_mem_nil) (fun v21 σ22 hOσ22 hT hqv21 => ?_)
          have hW2 : WI 2 σ22.1 := WI.tr hOσ22 (by decide) (by decide) (by decide) hW2
          have hW28 : WI 28 σ22.1 := WI.tr hOσ22 (by decide) (by decide) (by decide) hW28
          have hW132 : WI 132 σ22.1 := WI.tr hOσ22 (by decide) (by decide) (by decide) hW132
          have hW158 : WI 158 σ22.1 := WI.tr hOσ22 (by decide) (by decide) (by decide) hW158
          have hW184 : WI 184 σ22.1 := WI.tr hOσ22 (by decide) (by decide) (by decide) hW184
          have hL : SI σ22.1 := SI.tr hOσ22 (by decide) (by decide) (by decide) (by decide) hL
          have hD : RD σ22.1 := RD.tr hOσ22 (by decide) (by decide) (by decide) (by decide) hD
          have hu : 2 ≤ (σ22.1 111 8).toInt ∧ (σ22.1 111 8).toInt ≤ 1600 := by rw [hOσ22.2 111 (by decide)] <;> exact hu
          have ht : 0 ≤ (σ22.1 0 1).toInt ∧ (σ22.1 0 1).toInt ≤ 600 := by rw [hOσ22.2 0 (by decide)] <;> exact ht
          exact ok_some ⟨hT, (show CF σ22.1 from by exact ⟨hW2, hW28, hW132, hW158, hW184, hL, hD, hu, ht⟩)⟩
        · refine ok_gR (v := 128) hT rfl (hR 0 17 rfl) ?_
          refine ok_gC rfl ?_
          refine ok_zbT (Q := fun V σ => True) hT (s_X2_flip hN (hR.tr hT) rfl) (fun _ h9 => absurd h9 List.not_mem_nil) (fun v24 σ25 hOσ25 hT hqv24 => ?_)
          have hW2 : WI 2 σ25.1 := WI.tr hOσ25 (by decide) (by decide) (by decide) hW2
          have hW28 : WI 28 σ25.1 := WI.tr hOσ25 (by decide) (by decide) (by decide) hW28
          have hW132 : WI 132 σ25.1 := WI.tr hOσ25 (by decide) (by decide) (by decide) hW132
          have hW158 : WI 158 σ25.1 := WI.tr hOσ25 (by decide) (by decide) (by decide) hW158
          have hW184 : WI 184 σ25.1 := WI.tr hOσ25 (by decide) (by decide) (by decide) hW184
          have hL : SI σ25.1 := SI.tr hOσ25 (by decide) (by decide) (by decide) (by decide) hL
          have hD : RD σ25.1 := RD.tr hOσ25 (by decide) (by decide) (by decide) (by decide) hD
          have hu : 2 ≤ (σ25.1 111 8).toInt ∧ (σ25.1 111 8).toInt ≤ 1600 := by rw [hOσ25.2 111 (by decide)] <;> exact hu
          have ht : 0 ≤ (σ25.1 0 1).toInt ∧ (σ25.1 0 1).toInt ≤ 600 := by rw [hOσ25.2 0 (by decide)] <;> exact ht
          refine ok_gR (v := 128) hT rfl (hR 0 17 rfl) ?_
          refine ok_gC rfl ?_
          refine ok_zbT (Q := fun V σ => True) hT (s_X2_keepWithout hN (hR.tr hT) rfl) (fun _ h9 => absurd h9 List.not_mem_nil) (fun v27 σ28 hOσ28 hT hqv27 => ?_)
          have hW2 : WI 2 σ28.1 := WI.tr hOσ28 (by decide) (by decide) (by decide) hW2
          have hW28 : WI 28 σ28.1 := WI.tr hOσ28 (by decide) (by decide) (by decide) hW28
          have hW132 : WI 132 σ28.1 := WI.tr hOσ28 (by decide) (by decide) (by decide) hW132
          have hW158 : WI 158 σ28.1 := WI.tr hOσ28 (by decide) (by decide) (by decide) hW158
          have hW184 : WI 184 σ28.1 := WI.tr hOσ28 (by decide) (by decide) (by decide) hW184
          have hL : SI σ28.1 := SI.tr hOσ28 (by decide) (by decide) (by decide) (by decide) hL
          have hD : RD σ28.1 := RD.tr hOσ28 (by decide) (by decide) (by decide) (by decide) hD
          have hu : 2 ≤ (σ28.1 111 8).toInt ∧ (σ28.1 111 8).toInt ≤ 1600 := by rw [hOσ28.2 111 (by decide)] <;> exact hu
          have ht : 0 ≤ (σ28.1 0 1).toInt ∧ (σ28.1 0 1).toInt ≤ 600 := by rw [hOσ28.2 0 (by decide)] <;> exact ht
          refine ok_gC rfl ?_
          refine ok_zbT (Q := fun V σ => True) hT (s_X11_store_n2 hN (hR.tr hT) ((hT.1.1 0 4 (by decide)).trans hNw) (by first | exact hn | omega | (rw [hT.2 2 (by decide)]; exact hn))) (fun _ h9 => absurd h9 List.not_mem_nil) (fun v29 σ30 hOσ30 hT hqv29 => ?_)
          have hW2 : WI 2 σ30.1 := WI.tr hOσ30 (by decide) (by decide) (by decide) hW2
          have hW28 : WI 28 σ30.1 := WI.tr hOσ30 (by decide) (by decide) (by decide) hW28
          have hW132 : WI 132 σ30.1 := WI.tr hOσ30 (by decide) (by decide) (by decide) hW132
          have hW158 : WI 158 σ30.1 := WI.tr hOσ30 (by decide) (by decide) (by decide) hW158
          have hW184 : WI 184 σ30.1 := WI.tr hOσ30 (by decide) (by decide) (by decide) hW184
          have hL : SI σ30.1 := SI.tr hOσ30 (by decide) (by decide) (by decide) (by decide) hL
          have hD : RD σ30.1 := RD.tr hOσ30 (by decide) (by decide) (by decide) (by decide) hD
          have hu : 2 ≤ (σ30.1 111 8).toInt ∧ (σ30.1 111 8).toInt ≤ 1600 := by rw [hOσ30.2 111 (by decide)] <;> exact hu
          have ht : 0 ≤ (σ30.1 0 1).toInt ∧ (σ30.1 0 1).toInt ≤ 600 := by rw [hOσ30.2 0 (by decide)] <;> exact ht
          exact ok_some ⟨hT, (show CF σ30.1 from by exact ⟨hW2, hW28, hW132, hW158, hW184, hL, hD, hu, ht⟩)⟩

set_option maxHeartbeats 4000000 in
set_option maxRecDepth 100000 in
theorem s_X11_nth_n2 {N : Nat} (hN : 1048576 ≤ N) {x1 : Int32} {x2 : Int32} {σ0 : zS}  (hR : RF σ0.2.2) (hNw : σ0.2.2 0 4 = 2) (hPw : σ0.2.2 0 5 = 28) (hC : CF σ0.1) : Ok (f_X11_nth N 0 x1 x2 σ0) (fun r => Tr [] σ0 r.2 ∧ (CF r.2.1)) := by
  have hT : Tr [] σ0 σ0 := Tr.rf
  obtain ⟨hW2, hW28, hW132, hW158, hW184, hL, hD, hu, ht⟩ := hC
  have hn := hW2.1
  have he := hW2.2.1
  have hD0 := hD
  have hL0 := hL
  have q10 := ti_one10 (x := σ0.1 2 0) hn.1 hn.2
  rw [f_X11_nth.eq_1]
  refine ok_gC rfl ?_
  refine ok_zbT (Q := fun V σ => (V = 0 ∨ V = 1) ∧ (¬ V = 0 → 0 ≤ x1.toInt ∧ x1.toInt ≤ 9)) hT (s_X11_isRegister_n2 hN (hR.tr hT) ((hT.1.1 0 4 (by decide)).trans hNw) (by first | exact hn | omega | (rw [hT.2 2 (by decide)]; exact hn))) (fun _ h9 => absurd h9 List.not_mem_nil) (fun v1 σ2 hOσ2 hT hqv1 => ?_)
  have hqv1 : (v1 = 0 ∨ v1 = 1) ∧ (¬ v1 = 0 → 0 ≤ x1.toInt ∧ x1.toInt ≤ 9) := hqv1
  have hW2 : WI 2 σ2.1 := WI.tr hOσ2 (by decide) (by decide) (by decide) hW2
  have hW28 : WI 28 σ2.1 := WI.tr hOσ2 (by decide) (by decide) (by decide) hW28
  have hW132 : WI 132 σ2.1 := WI.tr hOσ2 (by decide) (by decide) (by decide) hW132
  have hW158 : WI 158 σ2.1 := WI.tr hOσ2 (by decide) (by decide) (by decide) hW158
  have hW184 : WI 184 σ2.1 := WI.tr hOσ2 (by decide) (by decide) (by decide) hW184
  have hL : SI σ2.1 := SI.tr hOσ2 (by decide) (by decide) (by decide) (by decide) hL
  have hD : RD σ2.1 := RD.tr hOσ2 (by decide) (by decide) (by decide) (by decide) hD
  have hu : 2 ≤ (σ2.1 111 8).toInt ∧ (σ2.1 111 8).toInt ≤ 1600 := by rw [hOσ2.2 111 (by decide)] <;> exact hu
  have ht : 0 ≤ (σ2.1 0 1).toInt ∧ (σ2.1 0 1).toInt ≤ 600 := by rw [hOσ2.2 0 (by decide)] <;> exact ht
  refine ok_if (fun hc3 => ?_) (fun hc3 => ?_)
  · exact ok_some ⟨hT, (show CF σ2.1 from by exact ⟨hW2, hW28, hW132, hW158, hW184, hL, hD, hu, ht⟩)⟩
  · have qhc3 := hqv1.2 hc3
    refine ok_gR (v := 2) hT rfl hNw ?_
    refine ok_gR (v := 7) hT rfl (hR 2 7 rfl) ?_
    obtain ⟨q7, eq7, kq7⟩ := arrF hR (k := 7) (i := x1) rfl (by first | omega | decide | (have q1 := hD.1; have q2 := hD.2.1; simp only [Int32.le_iff_toInt_le, Int32.lt_iff_toInt_lt, ti_add, ti_sub, ti_mul, Int32.reduceToInt] at *; omega)) (by first | omega | decide | (have q1 := hD.1; have q2 := hD.2.1; simp only [Int32.le_iff_toInt_le, Int32.lt_iff_toInt_lt, ti_add, ti_sub, ti_mul, Int32.reduceToInt] at *; omega))
    refine ok_aR (v := q7) hT rfl (by first | omega | decide | (have q1 := hD.1; have q2 := hD.2.1; simp only [Int32.le_iff_toInt_le, Int32.lt_iff_toInt_lt, ti_add, ti_sub, ti_mul, Int32.reduceToInt] at *; omega)) (by first | omega | decide | (have q1 := hD.1; have q2 := hD.2.1; simp only [Int32.le_iff_toInt_le, Int32.lt_iff_toInt_lt, ti_add, ti_sub, ti_mul, Int32.reduceToInt] at *; omega)) eq7 ?_
    refine ok_gC kq7 ?_
    refine ok_zbT (Q := fun V σ => True) hT (s_X2_pick hN (hR.tr hT) kq7) (fun _ h9 => absurd h9 List.not_mem_nil) (fun v8 σ9 hOσ9 hT hqv8 => ?_)
    have hW2 : WI 2 σ9.1 := WI.tr hOσ9 (by decide) (by decide) (by decide) hW2
    have hW28 : WI 28 σ9.1 := WI.tr hOσ9 (by decide) (by decide) (by decide) hW28
    have hW132 : WI 132 σ9.1 := WI.tr hOσ9 (by decide) (by decide) (by decide) hW132
    have hW158 : WI 158 σ9.1 := WI.tr hOσ9 (by decide) (by decide) (by decide) hW158
    have hW184 : WI 184 σ9.1 := WI.tr hOσ9 (by decide) (by decide) (by decide) hW184
    have hL : SI σ9.1 := SI.tr hOσ9 (by decide) (by decide) (by decide) (by decide) hL
    have hD : RD σ9.1 := RD.tr hOσ9 (by decide) (by decide) (by decide) (by decide) hD
    have hu : 2 ≤ (σ9.1 111 8).toInt ∧ (σ9.1 111 8).toInt ≤ 1600 := by rw [hOσ9.2 111 (by decide)] <;> exact hu
    have ht : 0 ≤ (σ9.1 0 1).toInt ∧ (σ9.1 0 1).toInt ≤ 600 := by rw [hOσ9.2 0 (by decide)] <;> exact ht
    exact ok_some ⟨hT, (show CF σ9.1 from by exact ⟨hW2, hW28, hW132, hW158, hW184, hL, hD, hu, ht⟩)⟩

set_option maxHeartbeats 4000000 in
set_option maxRecDepth 100000 in
theorem s_X11_rank_n2 {N : Nat} (hN : 1048576 ≤ N) {x1 : Int32} {x2 : Int32} {σ0 : zS}  (hR : RF σ0.2.2) (hNw : σ0.2.2 0 4 = 2) (hPw : σ0.2.2 0 5 = 28) (hC : CF σ0.1) : Ok (f_X11_rank N 0 x1 x2 σ0) (fun r => Tr [] σ0 r.2 ∧ (CF r.2.1)) := by
  have hT : Tr [] σ0 σ0 := Tr.rf
  obtain ⟨hW2, hW28, hW132, hW158, hW184, hL, hD, hu, ht⟩ := hC
  have hn := hW2.1
  have he := hW2.2.1
  have hD0 := hD
  have hL0 := hL
  have q10 := ti_one10 (x := σ0.1 2 0) hn.1 hn.2
  rw [f_X11_rank.eq_1]
  refine ok_gC rfl ?_
  refine ok_zbT (Q := fun V σ => (V = 0 ∨ V = 1) ∧ (¬ V = 0 → 0 ≤ x1.toInt ∧ x1.toInt ≤ 9)) hT (s_X11_isRegister_n2 hN (hR.tr hT) ((hT.1.1 0 4 (by decide)).trans hNw) (by first | exact hn | omega | (rw [hT.2 2 (by decide)]; exact hn))) (fun _ h9 => absurd h9 List.not_mem_nil) (fun v1 σ2 hOσ2 hT hqv1 => ?_)
  have hqv1 : (v1 = 0 ∨ v1 = 1) ∧ (¬ v1 = 0 → 0 ≤ x1.toInt ∧ x1.toInt ≤ 9) := hqv1
  have hW2 : WI 2 σ2.1 := WI.tr hOσ2 (by decide) (by decide) (by decide) hW2
  have hW28 : WI 28 σ2.1 := WI.tr hOσ2 (by decide) (by decide) (by decide) hW28
  have hW132 : WI 132 σ2.1 := WI.tr hOσ2 (by decide) (by decide) (by decide) hW132
  have hW158 : WI 158 σ2.1 := WI.tr hOσ2 (by decide) (by decide) (by decide) hW158
  have hW184 : WI 184 σ2.1 := WI.tr hOσ2 (by decide) (by decide) (by decide) hW184
  have hL : SI σ2.1 := SI.tr hOσ2 (by decide) (by decide) (by decide) (by decide) hL
  have hD : RD σ2.1 := RD.tr hOσ2 (by decide) (by decide) (by decide) (by decide) hD
  have hu : 2 ≤ (σ2.1 111 8).toInt ∧ (σ2.1 111 8).toInt ≤ 1600 := by rw [hOσ2.2 111 (by decide)] <;> exact hu
  have ht : 0 ≤ (σ2.1 0 1).toInt ∧ (σ2.1 0 1).toInt ≤ 600 := by rw [hOσ2.2 0 (by decide)] <;> exact ht
  refine ok_if (fun hc3 => ?_) (fun hc3 => ?_)
  · exact ok_some ⟨hT, (show CF σ2.1 from by exact ⟨hW2, hW28, hW132, hW158, hW184, hL, hD, hu, ht⟩)⟩
  · have qhc3 := hqv1.2 hc3
    refine ok_gC rfl ?_
    refine ok_zbT (Q := fun V σ => (V = 0 ∨ V = 1) ∧ (¬ V = 0 → 0 ≤ x2.toInt ∧ x2.toInt ≤ 1023)) hT (s_X11_isSet_n2 hN (hR.tr hT) ((hT.1.1 0 4 (by decide)).trans hNw) (by first | exact hn | omega | (rw [hT.2 2 (by decide)]; exact hn))) (fun _ h9 => absurd h9 List.not_mem_nil) (fun v4 σ5 hOσ5 hT hqv4 => ?_)
    have hqv4 : (v4 = 0 ∨ v4 = 1) ∧ (¬ v4 = 0 → 0 ≤ x2.toInt ∧ x2.toInt ≤ 1023) := hqv4
    have hW2 : WI 2 σ5.1 := WI.tr hOσ5 (by decide) (by decide) (by decide) hW2
    have hW28 : WI 28 σ5.1 := WI.tr hOσ5 (by decide) (by decide) (by decide) hW28
    have hW132 : WI 132 σ5.1 := WI.tr hOσ5 (by decide) (by decide) (by decide) hW132
    have hW158 : WI 158 σ5.1 := WI.tr hOσ5 (by decide) (by decide) (by decide) hW158
    have hW184 : WI 184 σ5.1 := WI.tr hOσ5 (by decide) (by decide) (by decide) hW184
    have hL : SI σ5.1 := SI.tr hOσ5 (by decide) (by decide) (by decide) (by decide) hL
    have hD : RD σ5.1 := RD.tr hOσ5 (by decide) (by decide) (by decide) (by decide) hD
    have hu : 2 ≤ (σ5.1 111 8).toInt ∧ (σ5.1 111 8).toInt ≤ 1600 := by rw [hOσ5.2 111 (by decide)] <;> exact hu
    have ht : 0 ≤ (σ5.1 0 1).toInt ∧ (σ5.1 0 1).toInt ≤ 600 := by rw [hOσ5.2 0 (by decide)] <;> exact ht
    refine ok_if (fun hc6 => ?_) (fun hc6 => ?_)
    · exact ok_some ⟨hT, (show CF σ5.1 from by exact ⟨hW2, hW28, hW132, hW158, hW184, hL, hD, hu, ht⟩)⟩
    · have qhc6 := hqv4.2 hc6
      refine ok_gR (v := 2) hT rfl hNw ?_
      refine ok_gR (v := 7) hT rfl (hR 2 7 rfl) ?_
      obtain ⟨q10, eq10, kq10⟩ := arrF hR (k := 7) (i := x1) rfl (by first | omega | decide | (have q1 := hD.1; have q2 := hD.2.1; simp only [Int32.le_iff_toInt_le, Int32.lt_iff_toInt_lt, ti_add, ti_sub, ti_mul, Int32.reduceToInt] at *; omega)) (by first | omega | decide | (have q1 := hD.1; have q2 := hD.2.1; simp only [Int32.le_iff_toInt_le, Int32.lt_iff_toInt_lt, ti_add, ti_sub, ti_mul, Int32.reduceToInt] at *; omega))
      refine ok_aR (v := q10) hT rfl (by first | omega | decide | (have q1 := hD.1; have q2 := hD.2.1; simp only [Int32.le_iff_toInt_le, Int32.lt_iff_toInt_lt, ti_add, ti_sub, ti_mul, Int32.reduceToInt] at *; omega)) (by first | omega | decide | (have q1 := hD.1; have q2 := hD.2.1; simp only [Int32.le_iff_toInt_le, Int32.lt_iff_toInt_lt, ti_add, ti_sub, ti_mul, Int32.reduceToInt] at *; omega)) eq10 ?_
      refine ok_gC kq10 ?_
      refine ok_zbT (Q := fun V σ => True) hT (s_X2_tallyBelow hN (hR.tr hT) kq10) (fun _ h9 => absurd h9 List.not_mem_nil) (fun v11 σ12 hOσ12 hT hqv11 => ?_)
      have hW2 : WI 2 σ12.1 := WI.tr hOσ12 (by decide) (by decide) (by decide) hW2
      have hW28 : WI 28 σ12.1 := WI.tr hOσ12 (by decide) (by decide) (by decide) hW28
      have hW132 : WI 132 σ12.1 := WI.tr hOσ12 (by decide) (by decide) (by decide) hW132
      have hW158 : WI 158 σ12.1 := WI.tr hOσ12 (by decide) (by decide) (by decide) hW158
      have hW184 : WI 184 σ12.1 := WI.tr hOσ12 (by decide) (by decide) (by decide) hW184
      have hL : SI σ12.1 := SI.tr hOσ12 (by decide) (by decide) (by decide) (by decide) hL
      have hD : RD σ12.1 := RD.tr hOσ12 (by decide) (by decide) (by decide) (by decide) hD
      have hu : 2 ≤ (σ12.1 111 8).toInt ∧ (σ12.1 111 8).toInt ≤ 1600 := by rw [hOσ12.2 111 (by decide)] <;> exact hu
      have ht : 0 ≤ (σ12.1 0 1).toInt ∧ (σ12.1 0 1).toInt ≤ 600 := by rw [hOσ12.2 0 (by decide)] <;> exact ht
      exact ok_some ⟨hT, (show CF σ12.1 from by exact ⟨hW2, hW28, hW132, hW158, hW184, hL, hD, hu, ht⟩)⟩

set_option maxHeartbeats 4000000 in
set_option maxRecDepth 100000 in
theorem s_X11_light_n2 {N : Nat} (hN : 1048576 ≤ N) {x1 : Int32} {x2 : Int32} {σ0 : zS}  (hR : RF σ0.2.2) (hNw : σ0.2.2 0 4 = 2) (hPw : σ0.2.2 0 5 = 28) (hC : CF σ0.1) : Ok (f_X11_light N 0 x1 x2 σ0) (fun r => Tr [109, 110] σ0 r.2 ∧ (CF r.2.1)) := by
  have hT : Tr [109, 110] σ0 σ0 := Tr.rf
  obtain ⟨hW2, hW28, hW132, hW158, hW184, hL, hD, hu, ht⟩ := hC
  have hn := hW2.1
  have he := hW2.2.1
  have hD0 := hD
  have hL0 := hL
  have q10 := ti_one10 (x := σ0.1 2 0) hn.1 hn.2
  rw [f_X11_light.eq_1]
  refine ok_gC rfl ?_
  refine ok_zbT (Q := fun V σ => (V = 0 ∨ V = 1) ∧ (¬ V = 0 → 0 ≤ x1.toInt ∧ x1.toInt ≤ 9)) hT (s_X11_isRegister_n2 hN (hR.tr hT) ((hT.1.1 0 4 (by decide)).trans hNw) (by first | exact hn | omega | (rw [hT.2 2 (by decide)]; exact hn))) (fun _ h9 => absurd h9 List.not_mem_nil) (fun v1 σ2 hOσ2 hT hqv1 => ?_)
  have hqv1 : (v1 = 0 ∨ v1 = 1) ∧ (¬ v1 = 0 → 0 ≤ x1.toInt ∧ x1.toInt ≤ 9) := hqv1
  have hW2 : WI 2 σ2.1 := WI.tr hOσ2 (by decide) (by decide) (by decide) hW2
  have hW28 : WI 28 σ2.1 := WI.tr hOσ2 (by decide) (by decide) (by decide) hW28
  have hW132 : WI 132 σ2.1 := WI.tr hOσ2 (by decide) (by decide) (by decide) hW132
  have hW158 : WI 158 σ2.1 := WI.tr hOσ2 (by decide) (by decide) (by decide) hW158
  have hW184 : WI 184 σ2.1 := WI.tr hOσ2 (by decide) (by decide) (by decide) hW184
  have hL : SI σ2.1 := SI.tr hOσ2 (by decide) (by decide) (by decide) (by decide) hL
  have hD : RD σ2.1 := RD.tr hOσ2 (by decide) (by decide) (by decide) (by decide) hD
  have hu : 2 ≤ (σ2.1 111 8).toInt ∧ (σ2.1 111 8).toInt ≤ 1600 := by rw [hOσ2.2 111 (by decide)] <;> exact hu
  have ht : 0 ≤ (σ2.1 0 1).toInt ∧ (σ2.1 0 1).toInt ≤ 600 := by rw [hOσ2.2 0 (by decide)] <;> exact ht
  refine ok_if (fun hc3 => ?_) (fun hc3 => ?_)
  · exact ok_some ⟨hT, (show CF σ2.1 from by exact ⟨hW2, hW28, hW132, hW158, hW184, hL, hD, hu, ht⟩)⟩
  · have qhc3 := hqv1.2 hc3
    refine ok_gR (v := 108) hT rfl (hR 0 12 rfl) ?_
    refine ok_gR (v := 2) hT rfl hNw ?_
    refine ok_gR (v := 2) hT rfl hNw ?_
    refine ok_gR (v := 7) hT rfl (hR 2 7 rfl) ?_
    obtain ⟨q9, eq9, kq9⟩ := arrF hR (k := 7) (i := x1) rfl (by first | omega | decide | (have q1 := hD.1; have q2 := hD.2.1; simp only [Int32.le_iff_toInt_le, Int32.lt_iff_toInt_lt, ti_add, ti_sub, ti_mul, Int32.reduceToInt] at *; omega)) (by first | omega | decide | (have q1 := hD.1; have q2 := hD.2.1; simp only [Int32.le_iff_toInt_le, Int32.lt_iff_toInt_lt, ti_add, ti_sub, ti_mul, Int32.reduceToInt] at *; omega))
    refine ok_aR (v := q9) hT rfl (by first | omega | decide | (have q1 := hD.1; have q2 := hD.2.1; simp only [Int32.le_iff_toInt_le, Int32.lt_iff_toInt_lt, ti_add, ti_sub, ti_mul, Int32.reduceToInt] at *; omega)) (by first | omega | decide | (have q1 := hD.1; have q2 := hD.2.1; simp only [Int32.le_iff_toInt_le, Int32.lt_iff_toInt_lt, ti_add, ti_sub, ti_mul, Int32.reduceToInt] at *; omega)) eq9 ?_
    refine ok_gC rfl ?_
    refine ok_zbT (Q := fun V σ => True) hT (s_X8_pick_2 hN (hR.tr hT) kq9) (by decide) (fun v10 σ11 hOσ11 hT hqv10 => ?_)
    have hW2 : WI 2 σ11.1 := WI.tr hOσ11 (by decide) (by decide) (by decide) hW2
    have hW28 : WI 28 σ11.1 := WI.tr hOσ11 (by decide) (by decide) (by decide) hW28
    have hW132 : WI 132 σ11.1 := WI.tr hOσ11 (by decide) (by decide) (by decide) hW132
    have hW158 : WI 158 σ11.1 := WI.tr hOσ11 (by decide) (by decide) (by decide) hW158
    have hW184 : WI 184 σ11.1 := WI.tr hOσ11 (by decide) (by decide) (by decide) hW184
    have hL : SI σ11.1 := SI.tr hOσ11 (by decide) (by decide) (by decide) (by decide) hL
    have hD : RD σ11.1 := RD.tr hOσ11 (by decide) (by decide) (by decide) (by decide) hD
    have hu : 2 ≤ (σ11.1 111 8).toInt ∧ (σ11.1 111 8).toInt ≤ 1600 := by rw [hOσ11.2 111 (by decide)] <;> exact hu
    have ht : 0 ≤ (σ11.1 0 1).toInt ∧ (σ11.1 0 1).toInt ≤ 600 := by rw [hOσ11.2 0 (by decide)] <;> exact ht
    exact ok_some ⟨hT, (show CF σ11.1 from by exact ⟨hW2, hW28, hW132, hW158, hW184, hL, hD, hu, ht⟩)⟩

set_option maxHeartbeats 4000000 in
set_option maxRecDepth 100000 in
theorem s_X11_weight_n2 {N : Nat} (hN : 1048576 ≤ N) {x1 : Int32} {σ0 : zS}  (hR : RF σ0.2.2) (hNw : σ0.2.2 0 4 = 2) (hPw : σ0.2.2 0 5 = 28) (hC : CF σ0.1) : Ok (f_X11_weight N 0 x1 σ0) (fun r => Tr [] σ0 r.2 ∧ (CF r.2.1)) := by
  have hT : Tr [] σ0 σ0 := Tr.rf
  obtain ⟨hW2, hW28, hW132, hW158, hW184, hL, hD, hu, ht⟩ := hC
  have hn := hW2.1
  have he := hW2.2.1
  have hD0 := hD
  have hL0 := hL
  have q10 := ti_one10 (x := σ0.1 2 0) hn.1 hn.2
  rw [f_X11_weight.eq_1]
  refine ok_gC rfl ?_
  refine ok_zbT (Q := fun V σ => (V = 0 ∨ V = 1) ∧ (¬ V = 0 → 0 ≤ x1.toInt ∧ x1.toInt ≤ 1023)) hT (s_X11_isSet_n2 hN (hR.tr hT) ((hT.1.1 0 4 (by decide)).trans hNw) (by first | exact hn | omega | (rw [hT.2 2 (by decide)]; exact hn))) (fun _ h9 => absurd h9 List.not_mem_nil) (fun v1 σ2 hOσ2 hT hqv1 => ?_)
  have hqv1 : (v1 = 0 ∨ v1 = 1) ∧ (¬ v1 = 0 → 0 ≤ x1.toInt ∧ x1.toInt ≤ 1023) := hqv1
  have hW2 : WI 2 σ2.1 := WI.tr hOσ2 (by decide) (by decide) (by decide) hW2
  have hW28 : WI 28 σ2.1 := WI.tr hOσ2 (by decide) (by decide) (by decide) hW28
  have hW132 : WI 132 σ2.1 := WI.tr hOσ2 (by decide) (by decide) (by decide) hW132
  have hW158 : WI 158 σ2.1 := WI.tr hOσ2 (by decide) (by decide) (by decide) hW158
  have hW184 : WI 184 σ2.1 := WI.tr hOσ2 (by decide) (by decide) (by decide) hW184
  have hL : SI σ2.1 := SI.tr hOσ2 (by decide) (by decide) (by decide) (by decide) hL
  have hD : RD σ2.1 := RD.tr hOσ2 (by decide) (by decide) (by decide) (by decide) hD
  have hu : 2 ≤ (σ2.1 111 8).toInt ∧ (σ2.1 111 8).toInt ≤ 1600 := by rw [hOσ2.2 111 (by decide)] <;> exact hu
  have ht : 0 ≤ (σ2.1 0 1).toInt ∧ (σ2.1 0 1).toInt ≤ 600 := by rw [hOσ2.2 0 (by decide)] <;> exact ht
  refine ok_if (fun hc3 => ?_) (fun hc3 => ?_)
  · exact ok_some ⟨hT, (show CF σ2.1 from by exact ⟨hW2, hW28, hW132, hW158, hW184, hL, hD, hu, ht⟩)⟩
  · have qhc3 := hqv1.2 hc3
    refine ok_gR (v := 2) hT rfl hNw ?_
    refine ok_gC rfl ?_
    refine ok_zbT (Q := fun V σ => True) hT (s_X10_load_2 hN (hR.tr hT) ) (fun _ h9 => absurd h9 List.not_mem_nil) (fun v5 σ6 hOσ6 hT hqv5 => ?_)
    have hW2 : WI 2 σ6.1 := WI.tr hOσ6 (by decide) (by decide) (by decide) hW2
    have hW28 : WI 28 σ6.1 := WI.tr hOσ6 (by decide) (by decide) (by decide) hW28
    have hW132 : WI 132 σ6.1 := WI.tr hOσ6 (by decide) (by decide) (by decide) hW132
    have hW158 : WI 158 σ6.1 := WI.tr hOσ6 (by decide) (by decide) (by decide) hW158
    have hW184 : WI 184 σ6.1 := WI.tr hOσ6 (by decide) (by decide) (by decide) hW184
    have hL : SI σ6.1 := SI.tr hOσ6 (by decide) (by decide) (by decide) (by decide) hL
    have hD : RD σ6.1 := RD.tr hOσ6 (by decide) (by decide) (by decide) (by decide) hD
    have hu : 2 ≤ (σ6.1 111 8).toInt ∧ (σ6.1 111 8).toInt ≤ 1600 := by rw [hOσ6.2 111 (by decide)] <;> exact hu
    have ht : 0 ≤ (σ6.1 0 1).toInt ∧ (σ6.1 0 1).toInt ≤ 600 := by rw [hOσ6.2 0 (by decide)] <;> exact ht
    exact ok_some ⟨hT, (show CF σ6.1 from by exact ⟨hW2, hW28, hW132, hW158, hW184, hL, hD, hu, ht⟩)⟩

set_option maxHeartbeats 4000000 in
set_option maxRecDepth 100000 in
theorem s_X11_weighs_n2 {N : Nat} (hN : 1048576 ≤ N) {x1 : Int32} {x2 : Int32} {σ0 : zS}  (hR : RF σ0.2.2) (hNw : σ0.2.2 0 4 = 2) (hPw : σ0.2.2 0 5 = 28) (hC : CF σ0.1) : Ok (f_X11_weighs N 0 x1 x2 σ0) (fun r => Tr [109] σ0 r.2 ∧ (CF r.2.1)) := by
  have hT : Tr [109] σ0 σ0 := Tr.rf
  obtain ⟨hW2, hW28, hW132, hW158, hW184, hL, hD, hu, ht⟩ := hC
  have hn := hW2.1
  have he := hW2.2.1
  have hD0 := hD
  have hL0 := hL
  have q10 := ti_one10 (x := σ0.1 2 0) hn.1 hn.2
  rw [f_X11_weighs.eq_1]
  refine ok_gC rfl ?_
  refine ok_zbT (Q := fun V σ => (V = 0 ∨ V = 1) ∧ (¬ V = 0 → 0 ≤ x1.toInt ∧ x1.toInt ≤ 9)) hT (s_X11_isRegister_n2 hN (hR.tr hT) ((hT.1.1 0 4 (by decide)).trans hNw) (by first | exact hn | omega | (rw [hT.2 2 (by decide)]; exact hn))) (fun _ h9 => absurd h9 List.not_mem_nil) (fun v1 σ2 hOσ2 hT hqv1 => ?_)
  have hqv1 : (v1 = 0 ∨ v1 = 1) ∧ (¬ v1 = 0 → 0 ≤ x1.toInt ∧ x1.toInt ≤ 9) := hqv1
  have hW2 : WI 2 σ2.1 := WI.tr hOσ2 (by decide) (by decide) (by decide) hW2
  have hW28 : WI 28 σ2.1 := WI.tr hOσ2 (by decide) (by decide) (by decide) hW28
  have hW132 : WI 132 σ2.1 := WI.tr hOσ2 (by decide) (by decide) (by decide) hW132
  have hW158 : WI 158 σ2.1 := WI.tr hOσ2 (by decide) (by decide) (by decide) hW158
  have hW184 : WI 184 σ2.1 := WI.tr hOσ2 (by decide) (by decide) (by decide) hW184
  have hL : SI σ2.1 := SI.tr hOσ2 (by decide) (by decide) (by decide) (by decide) hL
  have hD : RD σ2.1 := RD.tr hOσ2 (by decide) (by decide) (by decide) (by decide) hD
  have hu : 2 ≤ (σ2.1 111 8).toInt ∧ (σ2.1 111 8).toInt ≤ 1600 := by rw [hOσ2.2 111 (by decide)] <;> exact hu
  have ht : 0 ≤ (σ2.1 0 1).toInt ∧ (σ2.1 0 1).toInt ≤ 600 := by rw [hOσ2.2 0 (by decide)] <;> exact ht
  refine ok_if (fun hc3 => ?_) (fun hc3 => ?_)
  · exact ok_some ⟨hT, (show CF σ2.1 from by exact ⟨hW2, hW28, hW132, hW158, hW184, hL, hD, hu, ht⟩)⟩
  · have qhc3 := hqv1.2 hc3
    refine ok_if (fun hc4 => ?_) (fun hc4 => ?_)
    · exact ok_some ⟨hT, (show CF σ2.1 from by exact ⟨hW2, hW28, hW132, hW158, hW184, hL, hD, hu, ht⟩)⟩
    · refine ok_if (fun hc5 => ?_) (fun hc5 => ?_)
      · refine ok_gR (v := 108) hT rfl (hR 0 12 rfl) ?_
        refine ok_gR (v := 2) hT rfl hNw ?_
        refine ok_gR (v := 2) hT rfl hNw ?_
        refine ok_gR (v := 7) hT rfl (hR 2 7 rfl) ?_
        obtain ⟨q11, eq11, kq11⟩ := arrF hR (k := 7) (i := x1) rfl (by first | omega | decide | (have q1 := hD.1; have q2 := hD.2.1; simp only [Int32.le_iff_toInt_le, Int32.lt_iff_toInt_lt, ti_add, ti_sub, ti_mul, Int32.reduceToInt] at *; omega)) (by first | omega | decide | (have q1 := hD.1; have q2 := hD.2.1; simp only [Int32.le_iff_toInt_le, Int32.lt_iff_toInt_lt, ti_add, ti_sub, ti_mul, Int32.reduceToInt] at *; omega))
        refine ok_aR (v := q11) hT rfl (by first | omega | decide | (have q1 := hD.1; have q2 := hD.2.1; simp only [Int32.le_iff_toInt_le, Int32.lt_iff_toInt_lt, ti_add, ti_sub, ti_mul, Int32.reduceToInt] at *; omega)) (by first | omega | decide | (have q1 := hD.1; have q2 := hD.2.1; simp only [Int32.le_iff_toInt_le, Int32.lt_iff_toInt_lt, ti_add, ti_sub, ti_mul, Int32.reduceToInt] at *; omega)) eq11 ?_
        refine ok_gC rfl ?_
        refine ok_zbT (Q := fun V σ => True) hT (s_X8_sum_2 hN (hR.tr hT) kq11) (by decide) (fun v12 σ13 hOσ13 hT hqv12 => ?_)
        have hW2 : WI 2 σ13.1 := WI.tr hOσ13 (by decide) (by decide) (by decide) hW2
        have hW28 : WI 28 σ13.1 := WI.tr hOσ13 (by decide) (by decide) (by decide) hW28
        have hW132 : WI 132 σ13.1 := WI.tr hOσ13 (by decide) (by decide) (by decide) hW132
        have hW158 : WI 158 σ13.1 := WI.tr hOσ13 (by decide) (by decide) (by decide) hW158
        have hW184 : WI 184 σ13.1 := WI.tr hOσ13 (by decide) (by decide) (by decide) hW184
        have hL : SI σ13.1 := SI.tr hOσ13 (by decide) (by decide) (by decide) (by decide) hL
        have hD : RD σ13.1 := RD.tr hOσ13 (by decide) (by decide) (by decide) (by decide) hD
        have hu : 2 ≤ (σ13.1 111 8).toInt ∧ (σ13.1 111 8).toInt ≤ 1600 := by rw [hOσ13.2 111 (by decide)] <;> exact hu
        have ht : 0 ≤ (σ13.1 0 1).toInt ∧ (σ13.1 0 1).toInt ≤ 600 := by rw [hOσ13.2 0 (by decide)] <;> exact ht
        exact ok_some ⟨hT, (show CF σ13.1 from by exact ⟨hW2, hW28, hW132, hW158, hW184, hL, hD, hu, ht⟩)⟩
      · exact ok_some ⟨hT, (show CF σ2.1 from by exact ⟨hW2, hW28, hW132, hW158, hW184, hL, hD, hu, ht⟩)⟩

set_option maxHeartbeats 4000000 in
set_option maxRecDepth 100000 in
theorem s_X11_each_n2 {N : Nat} (hN : 1048576 ≤ N) {x1 : Int32} {x2 : Int32} {σ0 : zS}  (hR : RF σ0.2.2) (hNw : σ0.2.2 0 4 = 2) (hPw : σ0.2.2 0 5 = 28) (hC : CF σ0.1) : Ok (f_X11_each N 0 x1 x2 σ0) (fun r => Tr [] σ0 r.2 ∧ (CF r.2.1)) := by
  have hT : Tr [] σ0 σ0 := Tr.rf
  obtain ⟨hW2, hW28, hW132, hW158, hW184, hL, hD, hu, ht⟩ := hC
  have hn := hW2.1
  have he := hW2.2.1
  have hD0 := hD
  have hL0 := hL
  have q10 := ti_one10 (x := σ0.1 2 0) hn.1 hn.2
  rw [f_X11_each.eq_1]
  refine ok_gC rfl ?_
  refine ok_zbT (Q := fun V σ => (V = 0 ∨ V = 1) ∧ (¬ V = 0 → 0 ≤ x1.toInt ∧ x1.toInt ≤ 9)) hT (s_X11_isRegister_n2 hN (hR.tr hT) ((hT.1.1 0 4 (by decide)).trans hNw) (by first | exact hn | omega | (rw [hT.2 2 (by decide)]; exact hn))) (fun _ h9 => absurd h9 List.not_mem_nil) (fun v1 σ2 hOσ2 hT hqv1 => ?_)
  have hqv1 : (v1 = 0 ∨ v1 = 1) ∧ (¬ v1 = 0 → 0 ≤ x1.toInt ∧ x1.toInt ≤ 9) := hqv1
  have hW2 : WI 2 σ2.1 := WI.tr hOσ2 (by decide) (by decide) (by decide) hW2
  have hW28 : WI 28 σ2.1 := WI.tr hOσ2 (by decide) (by decide) (by decide) hW28
  have hW132 : WI 132 σ2.1 := WI.tr hOσ2 (by decide) (by decide) (by decide) hW132
  have hW158 : WI 158 σ2.1 := WI.tr hOσ2 (by decide) (by decide) (by decide) hW158
  have hW184 : WI 184 σ2.1 := WI.tr hOσ2 (by decide) (by decide) (by decide) hW184
  have hL : SI σ2.1 := SI.tr hOσ2 (by decide) (by decide) (by decide) (by decide) hL
  have hD : RD σ2.1 := RD.tr hOσ2 (by decide) (by decide) (by decide) (by decide) hD
  have hu : 2 ≤ (σ2.1 111 8).toInt ∧ (σ2.1 111 8).toInt ≤ 1600 := by rw [hOσ2.2 111 (by decide)] <;> exact hu
  have ht : 0 ≤ (σ2.1 0 1).toInt ∧ (σ2.1 0 1).toInt ≤ 600 := by rw [hOσ2.2 0 (by decide)] <;> exact ht
  refine ok_if (fun hc3 => ?_) (fun hc3 => ?_)
  · exact ok_some ⟨hT, (show CF σ2.1 from by exact ⟨hW2, hW28, hW132, hW158, hW184, hL, hD, hu, ht⟩)⟩
  · have qhc3 := hqv1.2 hc3
    refine ok_gC rfl ?_
    refine ok_zbT (Q := fun V σ => (V = 0 ∨ V = 1) ∧ (¬ V = 0 → 0 ≤ x2.toInt ∧ x2.toInt < (σ2.1 2 0).toInt)) hT (s_X11_isName_n2 hN (hR.tr hT) ((hT.1.1 0 4 (by decide)).trans hNw) (by first | exact hn | omega | (rw [hT.2 2 (by decide)]; exact hn))) (fun _ h9 => absurd h9 List.not_mem_nil) (fun v4 σ5 hOσ5 hT hqv4 => ?_)
    have hqv4 : (v4 = 0 ∨ v4 = 1) ∧ (¬ v4 = 0 → 0 ≤ x2.toInt ∧ x2.toInt < (σ2.1 2 0).toInt) := hqv4
    have hW2 : WI 2 σ5.1 := WI.tr hOσ5 (by decide) (by decide) (by decide) hW2
    have hW28 : WI 28 σ5.1 := WI.tr hOσ5 (by decide) (by decide) (by decide) hW28
    have hW132 : WI 132 σ5.1 := WI.tr hOσ5 (by decide) (by decide) (by decide) hW132
    have hW158 : WI 158 σ5.1 := WI.tr hOσ5 (by decide) (by decide) (by decide) hW158
    have hW184 : WI 184 σ5.1 := WI.tr hOσ5 (by decide) (by decide) (by decide) hW184
    have hL : SI σ5.1 := SI.tr hOσ5 (by decide) (by decide) (by decide) (by decide) hL
    have hD : RD σ5.1 := RD.tr hOσ5 (by decide) (by decide) (by decide) (by decide) hD
    have hu : 2 ≤ (σ5.1 111 8).toInt ∧ (σ5.1 111 8).toInt ≤ 1600 := by rw [hOσ5.2 111 (by decide)] <;> exact hu
    have ht : 0 ≤ (σ5.1 0 1).toInt ∧ (σ5.1 0 1).toInt ≤ 600 := by rw [hOσ5.2 0 (by decide)] <;> exact ht
    refine ok_if (fun hc6 => ?_) (fun hc6 => ?_)
    · exact ok_some ⟨hT, (show CF σ5.1 from by exact ⟨hW2, hW28, hW132, hW158, hW184, hL, hD, hu, ht⟩)⟩
    · have qhc6 := hqv4.2 hc6
      refine ok_gR (v := 128) hT rfl (hR 0 17 rfl) ?_
      refine ok_gR (v := 2) hT rfl hNw ?_
      refine ok_gR (v := 7) hT rfl (hR 2 7 rfl) ?_
      obtain ⟨q11, eq11, kq11⟩ := arrF hR (k := 7) (i := x1) rfl (by first | omega | decide | (have q1 := hD.1; have q2 := hD.2.1; simp only [Int32.le_iff_toInt_le, Int32.lt_iff_toInt_lt, ti_add, ti_sub, ti_mul, Int32.reduceToInt] at *; omega)) (by first | omega | decide | (have q1 := hD.1; have q2 := hD.2.1; simp only [Int32.le_iff_toInt_le, Int32.lt_iff_toInt_lt, ti_add, ti_sub, ti_mul, Int32.reduceToInt] at *; omega))
      refine ok_aR (v := q11) hT rfl (by first | omega | decide | (have q1 := hD.1; have q2 := hD.2.1; simp only [Int32.le_iff_toInt_le, Int32.lt_iff_toInt_lt, ti_add, ti_sub, ti_mul, Int32.reduceToInt] at *; omega)) (by first | omega | decide | (have q1 := hD.1; have q2 := hD.2.1; simp only [Int32.le_iff_toInt_le, Int32.lt_iff_toInt_lt, ti_add, ti_sub, ti_mul, Int32.reduceToInt] at *; omega)) eq11 ?_
      refine ok_gC rfl ?_
      refine ok_zbT (Q := fun V σ => True) hT (s_X2_copyFrom hN (hR.tr hT) rfl kq11) (fun _ h9 => absurd h9 List.not_mem_nil) (fun v12 σ13 hOσ13 hT hqv12 => ?_)
      have hW2 : WI 2 σ13.1 := WI.tr hOσ13 (by decide) (by decide) (by decide) hW2
      have hW28 : WI 28 σ13.1 := WI.tr hOσ13 (by decide) (by decide) (by decide) hW28
      have hW132 : WI 132 σ13.1 := WI.tr hOσ13 (by decide) (by decide) (by decide) hW132
      have hW158 : WI 158 σ13.1 := WI.tr hOσ13 (by decide) (by decide) (by decide) hW158
      have hW184 : WI 184 σ13.1 := WI.tr hOσ13 (by decide) (by decide) (by decide) hW184
      have hL : SI σ13.1 := SI.tr hOσ13 (by decide) (by decide) (by decide) (by decide) hL
      have hD : RD σ13.1 := RD.tr hOσ13 (by decide) (by decide) (by decide) (by decide) hD
      have hu : 2 ≤ (σ13.1 111 8).toInt ∧ (σ13.1 111 8).toInt ≤ 1600 := by rw [hOσ13.2 111 (by decide)] <;> exact hu
      have ht : 0 ≤ (σ13.1 0 1).toInt ∧ (σ13.1 0 1).toInt ≤ 600 := by rw [hOσ13.2 0 (by decide)] <;> exact ht
      refine ok_gR (v := 128) hT rfl (hR 0 17 rfl) ?_
      refine ok_gC rfl ?_
      refine ok_zbT (Q := fun V σ => True) hT (s_X2_keepWithout hN (hR.tr hT) rfl) (fun _ h9 => absurd h9 List.not_mem_nil) (fun v15 σ16 hOσ16 hT hqv15 => ?_)
      have hW2 : WI 2 σ16.1 := WI.tr hOσ16 (by decide) (by decide) (by decide) hW2
      have hW28 : WI 28 σ16.1 := WI.tr hOσ16 (by decide) (by decide) (by decide) hW28
      have hW132 : WI 132 σ16.1 := WI.tr hOσ16 (by decide) (by decide) (by decide) hW132
      have hW158 : WI 158 σ16.1 := WI.tr hOσ16 (by decide) (by decide) (by decide) hW158
      have hW184 : WI 184 σ16.1 := WI.tr hOσ16 (by decide) (by decide) (by decide) hW184
      have hL : SI σ16.1 := SI.tr hOσ16 (by decide) (by decide) (by decide) (by decide) hL
      have hD : RD σ16.1 := RD.tr hOσ16 (by decide) (by decide) (by decide) (by decide) hD
      have hu : 2 ≤ (σ16.1 111 8).toInt ∧ (σ16.1 111 8).toInt ≤ 1600 := by rw [hOσ16.2 111 (by decide)] <;> exact hu
      have ht : 0 ≤ (σ16.1 0 1).toInt ∧ (σ16.1 0 1).toInt ≤ 600 := by rw [hOσ16.2 0 (by decide)] <;> exact ht
      refine ok_gR (v := 2) hT rfl hNw ?_
      refine ok_gR (v := 7) hT rfl (hR 2 7 rfl) ?_
      obtain ⟨q20, eq20, kq20⟩ := arrF hR (k := 7) (i := x1) rfl (by first | omega | decide | (have q1 := hD.1; have q2 := hD.2.1; simp only [Int32.le_iff_toInt_le, Int32.lt_iff_toInt_lt, ti_add, ti_sub, ti_mul, Int32.reduceToInt] at *; omega)) (by first | omega | decide | (have q1 := hD.1; have q2 := hD.2.1; simp only [Int32.le_iff_toInt_le, Int32.lt_iff_toInt_lt, ti_add, ti_sub, ti_mul, Int32.reduceToInt] at *; omega))
      refine ok_aR (v := q20) hT rfl (by first | omega | decide | (have q1 := hD.1; have q2 := hD.2.1; simp only [Int32.le_iff_toInt_le, Int32.lt_iff_toInt_lt, ti_add, ti_sub, ti_mul, Int32.reduceToInt] at *; omega)) (by first | omega | decide | (have q1 := hD.1; have q2 := hD.2.1; simp only [Int32.le_iff_toInt_le, Int32.lt_iff_toInt_lt, ti_add, ti_sub, ti_mul, Int32.reduceToInt] at *; omega)) eq20 ?_
      refine ok_gC kq20 ?_
      refine ok_zbT (Q := fun V σ => True) hT (s_X2_tally hN (hR.tr hT) kq20) (fun _ h9 => absurd h9 List.not_mem_nil) (fun v21 σ22 hOσ22 hT hqv21 => ?_)
      have hW2 : WI 2 σ22.1 := WI.tr hOσ22 (by decide) (by decide) (by decide) hW2
      have hW28 : WI 28 σ22.1 := WI.tr hOσ22 (by decide) (by decide) (by decide) hW28
      have hW132 : WI 132 σ22.1 := WI.tr hOσ22 (by decide) (by decide) (by decide) hW132
      have hW158 : WI 158 σ22.1 := WI.tr hOσ22 (by decide) (by decide) (by decide) hW158
      have hW184 : WI 184 σ22.1 := WI.tr hOσ22 (by decide) (by decide) (by decide) hW184
      have hL : SI σ22.1 := SI.tr hOσ22 (by decide) (by decide) (by decide) (by decide) hL
      have hD : RD σ22.1 := RD.tr hOσ22 (by decide) (by decide) (by decide) (by decide) hD
      have hu : 2 ≤ (σ22.1 111 8).toInt ∧ (σ22.1 111 8).toInt ≤ 1600 := by rw [hOσ22.2 111 (by decide)] <;> exact hu
      have ht : 0 ≤ (σ22.1 0 1).toInt ∧ (σ22.1 0 1).toInt ≤ 600 := by rw [hOσ22.2 0 (by decide)] <;> exact ht
      refine ok_gR (v := 128) hT rfl (hR 0 17 rfl) ?_
      refine ok_gC rfl ?_
      refine ok_zbT (Q := fun V σ => True) hT (s_X2_tally hN (hR.tr hT) rfl) (fun _ h9 => absurd h9 List.not_mem_nil) (fun v24 σ25 hOσ25 hT hqv24 => ?_)
      have hW2 : WI 2 σ25.1 := WI.tr hOσ25 (by decide) (by decide) (by decide) hW2
      have hW28 : WI 28 σ25.1 := WI.tr hOσ25 (by decide) (by decide) (by decide) hW28
      have hW132 : WI 132 σ25.1 := WI.tr hOσ25 (by decide) (by decide) (by decide) hW132
      have hW158 : WI 158 σ25.1 := WI.tr hOσ25 (by decide) (by decide) (by decide) hW158
      have hW184 : WI 184 σ25.1 := WI.tr hOσ25 (by decide) (by decide) (by decide) hW184
      have hL : SI σ25.1 := SI.tr hOσ25 (by decide) (by decide) (by decide) (by decide) hL
      have hD : RD σ25.1 := RD.tr hOσ25 (by decide) (by decide) (by decide) (by decide) hD
      have hu : 2 ≤ (σ25.1 111 8).toInt ∧ (σ25.1 111 8).toInt ≤ 1600 := by rw [hOσ25.2 111 (by decide)] <;> exact hu
      have ht : 0 ≤ (σ25.1 0 1).toInt ∧ (σ25.1 0 1).toInt ≤ 600 := by rw [hOσ25.2 0 (by decide)] <;> exact ht
      exact ok_some ⟨hT, (show CF σ25.1 from by exact ⟨hW2, hW28, hW132, hW158, hW184, hL, hD, hu, ht⟩)⟩

set_option maxHeartbeats 4000000 in
set_option maxRecDepth 100000 in
theorem s_X11_alike_n2 {N : Nat} (hN : 1048576 ≤ N) {x1 : Int32} {x2 : Int32} {σ0 : zS}  (hR : RF σ0.2.2) (hNw : σ0.2.2 0 4 = 2) (hPw : σ0.2.2 0 5 = 28) (hC : CF σ0.1) : Ok (f_X11_alike N 0 x1 x2 σ0) (fun r => Tr [] σ0 r.2 ∧ (CF r.2.1)) := by
  have hT : Tr [] σ0 σ0 := Tr.rf
  obtain ⟨hW2, hW28, hW132, hW158, hW184, hL, hD, hu, ht⟩ := hC
  have hn := hW2.1
  have he := hW2.2.1
  have hD0 := hD
  have hL0 := hL
  have q10 := ti_one10 (x := σ0.1 2 0) hn.1 hn.2
  rw [f_X11_alike.eq_1]
  refine ok_gC rfl ?_
  refine ok_zbT (Q := fun V σ => (V = 0 ∨ V = 1) ∧ (¬ V = 0 → 0 ≤ x1.toInt ∧ x1.toInt ≤ 9)) hT (s_X11_isRegister_n2 hN (hR.tr hT) ((hT.1.1 0 4 (by decide)).trans hNw) (by first | exact hn | omega | (rw [hT.2 2 (by decide)]; exact hn))) (fun _ h9 => absurd h9 List.not_mem_nil) (fun v1 σ2 hOσ2 hT hqv1 => ?_)
  have hqv1 : (v1 = 0 ∨ v1 = 1) ∧ (¬ v1 = 0 → 0 ≤ x1.toInt ∧ x1.toInt ≤ 9) := hqv1
  have hW2 : WI 2 σ2.1 := WI.tr hOσ2 (by decide) (by decide) (by decide) hW2
  have hW28 : WI 28 σ2.1 := WI.tr hOσ2 (by decide) (by decide) (by decide) hW28
  have hW132 : WI 132 σ2.1 := WI.tr hOσ2 (by decide) (by decide) (by decide) hW132
  have hW158 : WI 158 σ2.1 := WI.tr hOσ2 (by decide) (by decide) (by decide) hW158
  have hW184 : WI 184 σ2.1 := WI.tr hOσ2 (by decide) (by decide) (by decide) hW184
  have hL : SI σ2.1 := SI.tr hOσ2 (by decide) (by decide) (by decide) (by decide) hL
  have hD : RD σ2.1 := RD.tr hOσ2 (by decide) (by decide) (by decide) (by decide) hD
  have hu : 2 ≤ (σ2.1 111 8).toInt ∧ (σ2.1 111 8).toInt ≤ 1600 := by rw [hOσ2.2 111 (by decide)] <;> exact hu
  have ht : 0 ≤ (σ2.1 0 1).toInt ∧ (σ2.1 0 1).toInt ≤ 600 := by rw [hOσ2.2 0 (by decide)] <;> exact ht
  refine ok_if (fun hc3 => ?_) (fun hc3 => ?_)
  · exact ok_some ⟨hT, (show CF σ2.1 from by exact ⟨hW2, hW28, hW132, hW158, hW184, hL, hD, hu, ht⟩)⟩
  · have qhc3 := hqv1.2 hc3
    refine ok_gC rfl ?_
    refine ok_zbT (Q := fun V σ => (V = 0 ∨ V = 1) ∧ (¬ V = 0 → 0 ≤ x2.toInt ∧ x2.toInt ≤ 9)) hT (s_X11_isRegister_n2 hN (hR.tr hT) ((hT.1.1 0 4 (by decide)).trans hNw) (by first | exact hn | omega | (rw [hT.2 2 (by decide)]; exact hn))) (fun _ h9 => absurd h9 List.not_mem_nil) (fun v4 σ5 hOσ5 hT hqv4 => ?_)
    have hqv4 : (v4 = 0 ∨ v4 = 1) ∧ (¬ v4 = 0 → 0 ≤ x2.toInt ∧ x2.toInt ≤ 9) := hqv4
    have hW2 : WI 2 σ5.1 := WI.tr hOσ5 (by decide) (by decide) (by decide) hW2
    have hW28 : WI 28 σ5.1 := WI.tr hOσ5 (by decide) (by decide) (by decide) hW28
    have hW132 : WI 132 σ5.1 := WI.tr hOσ5 (by decide) (by decide) (by decide) hW132
    have hW158 : WI 158 σ5.1 := WI.tr hOσ5 (by decide) (by decide) (by decide) hW158
    have hW184 : WI 184 σ5.1 := WI.tr hOσ5 (by decide) (by decide) (by decide) hW184
    have hL : SI σ5.1 := SI.tr hOσ5 (by decide) (by decide) (by decide) (by decide) hL
    have hD : RD σ5.1 := RD.tr hOσ5 (by decide) (by decide) (by decide) (by decide) hD
    have hu : 2 ≤ (σ5.1 111 8).toInt ∧ (σ5.1 111 8).toInt ≤ 1600 := by rw [hOσ5.2 111 (by decide)] <;> exact hu
    have ht : 0 ≤ (σ5.1 0 1).toInt ∧ (σ5.1 0 1).toInt ≤ 600 := by rw [hOσ5.2 0 (by decide)] <;> exact ht
    refine ok_if (fun hc6 => ?_) (fun hc6 => ?_)
    · exact ok_some ⟨hT, (show CF σ5.1 from by exact ⟨hW2, hW28, hW132, hW158, hW184, hL, hD, hu, ht⟩)⟩
    · have qhc6 := hqv4.2 hc6
      refine ok_gR (v := 2) hT rfl hNw ?_
      refine ok_gR (v := 7) hT rfl (hR 2 7 rfl) ?_
      obtain ⟨q10, eq10, kq10⟩ := arrF hR (k := 7) (i := x1) rfl (by first | omega | decide | (have q1 := hD.1; have q2 := hD.2.1; simp only [Int32.le_iff_toInt_le, Int32.lt_iff_toInt_lt, ti_add, ti_sub, ti_mul, Int32.reduceToInt] at *; omega)) (by first | omega | decide | (have q1 := hD.1; have q2 := hD.2.1; simp only [Int32.le_iff_toInt_le, Int32.lt_iff_toInt_lt, ti_add, ti_sub, ti_mul, Int32.reduceToInt] at *; omega))
      refine ok_aR (v := q10) hT rfl (by first | omega | decide | (have q1 := hD.1; have q2 := hD.2.1; simp only [Int32.le_iff_toInt_le, Int32.lt_iff_toInt_lt, ti_add, ti_sub, ti_mul, Int32.reduceToInt] at *; omega)) (by first | omega | decide | (have q1 := hD.1; have q2 := hD.2.1; simp only [Int32.le_iff_toInt_le, Int32.lt_iff_toInt_lt, ti_add, ti_sub, ti_mul, Int32.reduceToInt] at *; omega)) eq10 ?_
      refine ok_gR (v := 2) hT rfl hNw ?_
      refine ok_gR (v := 7) hT rfl (hR 2 7 rfl) ?_
      obtain ⟨q14, eq14, kq14⟩ := arrF hR (k := 7) (i := x2) rfl (by first | omega | decide | (have q1 := hD.1; have q2 := hD.2.1; simp only [Int32.le_iff_toInt_le, Int32.lt_iff_toInt_lt, ti_add, ti_sub, ti_mul, Int32.reduceToInt] at *; omega)) (by first | omega | decide | (have q1 := hD.1; have q2 := hD.2.1; simp only [Int32.le_iff_toInt_le, Int32.lt_iff_toInt_lt, ti_add, ti_sub, ti_mul, Int32.reduceToInt] at *; omega))
      refine ok_aR (v := q14) hT rfl (by first | omega | decide | (have q1 := hD.1; have q2 := hD.2.1; simp only [Int32.le_iff_toInt_le, Int32.lt_iff_toInt_lt, ti_add, ti_sub, ti_mul, Int32.reduceToInt] at *; omega)) (by first | omega | decide | (have q1 := hD.1; have q2 := hD.2.1; simp only [Int32.le_iff_toInt_le, Int32.lt_iff_toInt_lt, ti_add, ti_sub, ti_mul, Int32.reduceToInt] at *; omega)) eq14 ?_
      refine ok_gC kq10 ?_
      refine ok_zbT (Q := fun V σ => V = 0 ∨ V = 1) hT (s_X2_sameAs hN (hR.tr hT) kq10 kq14) (fun _ h9 => absurd h9 List.not_mem_nil) (fun v15 σ16 hOσ16 hT hqv15 => ?_)
      have hqv15 : v15 = 0 ∨ v15 = 1 := hqv15
      have hW2 : WI 2 σ16.1 := WI.tr hOσ16 (by decide) (by decide) (by decide) hW2
      have hW28 : WI 28 σ16.1 := WI.tr hOσ16 (by decide) (by decide) (by decide) hW28
      have hW132 : WI 132 σ16.1 := WI.tr hOσ16 (by decide) (by decide) (by decide) hW132
      have hW158 : WI 158 σ16.1 := WI.tr hOσ16 (by decide) (by decide) (by decide) hW158
      have hW184 : WI 184 σ16.1 := WI.tr hOσ16 (by decide) (by decide) (by decide) hW184
      have hL : SI σ16.1 := SI.tr hOσ16 (by decide) (by decide) (by decide) (by decide) hL
      have hD : RD σ16.1 := RD.tr hOσ16 (by decide) (by decide) (by decide) (by decide) hD
      have hu : 2 ≤ (σ16.1 111 8).toInt ∧ (σ16.1 111 8).toInt ≤ 1600 := by rw [hOσ16.2 111 (by decide)] <;> exact hu
      have ht : 0 ≤ (σ16.1 0 1).toInt ∧ (σ16.1 0 1).toInt ≤ 600 := by rw [hOσ16.2 0 (by decide)] <;> exact ht
      refine ok_if (fun hc17 => ?_) (fun hc17 => ?_)
      · exact ok_some ⟨hT, (show CF σ16.1 from by exact ⟨hW2, hW28, hW132, hW158, hW184, hL, hD, hu, ht⟩)⟩
      · exact ok_some ⟨hT, (show CF σ16.1 from by exact ⟨hW2, hW28, hW132, hW158, hW184, hL, hD, hu, ht⟩)⟩

set_option maxHeartbeats 4000000 in
set_option maxRecDepth 100000 in
theorem s_X11_differ_n2 {N : Nat} (hN : 1048576 ≤ N) {x1 : Int32} {x2 : Int32} {σ0 : zS}  (hR : RF σ0.2.2) (hNw : σ0.2.2 0 4 = 2) (hPw : σ0.2.2 0 5 = 28) (hC : CF σ0.1) : Ok (f_X11_differ N 0 x1 x2 σ0) (fun r => Tr [] σ0 r.2 ∧ (CF r.2.1)) := by
  have hT : Tr [] σ0 σ0 := Tr.rf
  obtain ⟨hW2, hW28, hW132, hW158, hW184, hL, hD, hu, ht⟩ := hC
  have hn := hW2.1
  have he := hW2.2.1
  have hD0 := hD
  have hL0 := hL
  have q10 := ti_one10 (x := σ0.1 2 0) hn.1 hn.2
  rw [f_X11_differ.eq_1]
  refine ok_gC rfl ?_
  refine ok_zbT (Q := fun V σ => (V = 0 ∨ V = 1) ∧ (¬ V = 0 → 0 ≤ x1.toInt ∧ x1.toInt ≤ 9)) hT (s_X11_isRegister_n2 hN (hR.tr hT) ((hT.1.1 0 4 (by decide)).trans hNw) (by first | exact hn | omega | (rw [hT.2 2 (by decide)]; exact hn))) (fun _ h9 => absurd h9 List.not_mem_nil) (fun v1 σ2 hOσ2 hT hqv1 => ?_)
  have hqv1 : (v1 = 0 ∨ v1 = 1) ∧ (¬ v1 = 0 → 0 ≤ x1.toInt ∧ x1.toInt ≤ 9) := hqv1
  have hW2 : WI 2 σ2.1 := WI.tr hOσ2 (by decide) (by decide) (by decide) hW2
  have hW28 : WI 28 σ2.1 := WI.tr hOσ2 (by decide) (by decide) (by decide) hW28
  have hW132 : WI 132 σ2.1 := WI.tr hOσ2 (by decide) (by decide) (by decide) hW132
  have hW158 : WI 158 σ2.1 := WI.tr hOσ2 (by decide) (by decide) (by decide) hW158
  have hW184 : WI 184 σ2.1 := WI.tr hOσ2 (by decide) (by decide) (by decide) hW184
  have hL : SI σ2.1 := SI.tr hOσ2 (by decide) (by decide) (by decide) (by decide) hL
  have hD : RD σ2.1 := RD.tr hOσ2 (by decide) (by decide) (by decide) (by decide) hD
  have hu : 2 ≤ (σ2.1 111 8).toInt ∧ (σ2.1 111 8).toInt ≤ 1600 := by rw [hOσ2.2 111 (by decide)] <;> exact hu
  have ht : 0 ≤ (σ2.1 0 1).toInt ∧ (σ2.1 0 1).toInt ≤ 600 := by rw [hOσ2.2 0 (by decide)] <;> exact ht
  refine ok_if (fun hc3 => ?_) (fun hc3 => ?_)
  · exact ok_some ⟨hT, (show CF σ2.1 from by exact ⟨hW2, hW28, hW132, hW158, hW184, hL, hD, hu, ht⟩)⟩
  · have qhc3 := hqv1.2 hc3
    refine ok_gC rfl ?_
    refine ok_zbT (Q := fun V σ => (V = 0 ∨ V = 1) ∧ (¬ V = 0 → 0 ≤ x2.toInt ∧ x2.toInt ≤ 9)) hT (s_X11_isRegister_n2 hN (hR.tr hT) ((hT.1.1 0 4 (by decide)).trans hNw) (by first | exact hn | omega | (rw [hT.2 2 (by decide)]; exact hn))) (fun _ h9 => absurd h9 List.not_mem_nil) (fun v4 σ5 hOσ5 hT hqv4 => ?_)
    have hqv4 : (v4 = 0 ∨ v4 = 1) ∧ (¬ v4 = 0 → 0 ≤ x2.toInt ∧ x2.toInt ≤ 9) := hqv4
    have hW2 : WI 2 σ5.1 := WI.tr hOσ5 (by decide) (by decide) (by decide) hW2
    have hW28 : WI 28 σ5.1 := WI.tr hOσ5 (by decide) (by decide) (by decide) hW28
    have hW132 : WI 132 σ5.1 := WI.tr hOσ5 (by decide) (by decide) (by decide) hW132
    have hW158 : WI 158 σ5.1 := WI.tr hOσ5 (by decide) (by decide) (by decide) hW158
    have hW184 : WI 184 σ5.1 := WI.tr hOσ5 (by decide) (by decide) (by decide) hW184
    have hL : SI σ5.1 := SI.tr hOσ5 (by decide) (by decide) (by decide) (by decide) hL
    have hD : RD σ5.1 := RD.tr hOσ5 (by decide) (by decide) (by decide) (by decide) hD
    have hu : 2 ≤ (σ5.1 111 8).toInt ∧ (σ5.1 111 8).toInt ≤ 1600 := by rw [hOσ5.2 111 (by decide)] <;> exact hu
    have ht : 0 ≤ (σ5.1 0 1).toInt ∧ (σ5.1 0 1).toInt ≤ 600 := by rw [hOσ5.2 0 (by decide)] <;> exact ht
    refine ok_if (fun hc6 => ?_) (fun hc6 => ?_)
    · exact ok_some ⟨hT, (show CF σ5.1 from by exact ⟨hW2, hW28, hW132, hW158, hW184, hL, hD, hu, ht⟩)⟩
    · have qhc6 := hqv4.2 hc6
      refine ok_gR (v := 128) hT rfl (hR 0 17 rfl) ?_
      refine ok_gR (v := 2) hT rfl hNw ?_
      refine ok_gR (v := 7) hT rfl (hR 2 7 rfl) ?_
      obtain ⟨q11, eq11, kq11⟩ := arrF hR (k := 7) (i := x1) rfl (by first | omega | decide | (have q1 := hD.1; have q2 := hD.2.1; simp only [Int32.le_iff_toInt_le, Int32.lt_iff_toInt_lt, ti_add, ti_sub, ti_mul, Int32.reduceToInt] at *; omega)) (by first | omega | decide | (have q1 := hD.1; have q2 := hD.2.1; simp only [Int32.le_iff_toInt_le, Int32.lt_iff_toInt_lt, ti_add, ti_sub, ti_mul, Int32.reduceToInt] at *; omega))
      refine ok_aR (v := q11) hT rfl (by first | omega | decide | (have q1 := hD.1; have q2 := hD.2.1; simp only [Int32.le_iff_toInt_le, Int32.lt_iff_toInt_lt, ti_add, ti_sub, ti_mul, Int32.reduceToInt] at *; omega)) (by first | omega | decide | (have q1 := hD.1; have q2 := hD.2.1; simp only [Int32.le_iff_toInt_le, Int32.lt_iff_toInt_lt, ti_add, ti_sub, ti_mul, Int32.reduceToInt] at *; omega)) eq11 ?_
      refine ok_gC rfl ?_
      refine ok_zbT (Q := fun V σ => True) hT (s_X2_copyFrom hN (hR.tr hT) rfl kq11) (fun _ h9 => absurd h9 List.not_mem_nil) (fun v12 σ13 hOσ13 hT hqv12 => ?_)
      have hW2 : WI 2 σ13.1 := WI.tr hOσ13 (by decide) (by decide) (by decide) hW2
      have hW28 : WI 28 σ13.1 := WI.tr hOσ13 (by decide) (by decide) (by decide) hW28
      have hW132 : WI 132 σ13.1 := WI.tr hOσ13 (by decide) (by decide) (by decide) hW132
      have hW158 : WI 158 σ13.1 := WI.tr hOσ13 (by decide) (by decide) (by decide) hW158
      have hW184 : WI 184 σ13.1 := WI.tr hOσ13 (by decide) (by decide) (by decide) hW184
      have hL : SI σ13.1 := SI.tr hOσ13 (by decide) (by decide) (by decide) (by decide) hL
      have hD : RD σ13.1 := RD.tr hOσ13 (by decide) (by decide) (by decide) (by decide) hD
      have hu : 2 ≤ (σ13.1 111 8).toInt ∧ (σ13.1 111 8).toInt ≤ 1600 := by rw [hOσ13.2 111 (by decide)] <;> exact hu
      have ht : 0 ≤ (σ13.1 0 1).toInt ∧ (σ13.1 0 1).toInt ≤ 600 := by rw [hOσ13.2 0 (by decide)] <;> exact ht
      refine ok_gR (v := 128) hT rfl (hR 0 17 rfl) ?_
      refine ok_gR (v := 2) hT rfl hNw ?_
      refine ok_gR (v := 7) hT rfl (hR 2 7 rfl) ?_
      obtain ⟨q18, eq18, kq18⟩ := arrF hR (k := 7) (i := x2) rfl (by first | omega | decide | (have q1 := hD.1; have q2 := hD.2.1; simp only [Int32.le_iff_toInt_le, Int32.lt_iff_toInt_lt, ti_add, ti_sub, ti_mul, Int32.reduceToInt] at *; omega)) (by first | omega | decide | (have q1 := hD.1; have q2 := hD.2.1; simp only [Int32.le_iff_toInt_le, Int32.lt_iff_toInt_lt, ti_add, ti_sub, ti_mul, Int32.reduceToInt] at *; omega))
      refine ok_aR (v := q18) hT rfl (by first | omega | decide | (have q1 := hD.1; have q2 := hD.2.1; simp only [Int32.le_iff_toInt_le, Int32.lt_iff_toInt_lt, ti_add, ti_sub, ti_mul, Int32.reduceToInt] at *; omega)) (by first | omega | decide | (have q1 := hD.1; have q2 := hD.2.1; simp only [Int32.le_iff_toInt_le, Int32.lt_iff_toInt_lt, ti_add, ti_sub, ti_mul, Int32.reduceToInt] at *; omega)) eq18 ?_
      refine ok_gC rfl ?_
      refine ok_zbT (Q := fun V σ => True) hT (s_X2_takeAway hN (hR.tr hT) rfl kq18) (fun _ h9 => absurd h9 List.not_mem_nil) (fun v19 σ20 hOσ20 hT hqv19 => ?_)
      have hW2 : WI 2 σ20.1 := WI.tr hOσ20 (by decide) (by decide) (by decide) hW2
      have hW28 : WI 28 σ20.1 := WI.tr hOσ20 (by decide) (by decide) (by decide) hW28
      have hW132 : WI 132 σ20.1 := WI.tr hOσ20 (by decide) (by decide) (by decide) hW132
      have hW158 : WI 158 σ20.1 := WI.tr hOσ20 (by decide) (by decide) (by decide) hW158
      have hW184 : WI 184 σ20.1 := WI.tr hOσ20 (by decide) (by decide) (by decide) hW184
      have hL : SI σ20.1 := SI.tr hOσ20 (by decide) (by decide) (by decide) (by decide) hL
      have hD : RD σ20.1 := RD.tr hOσ20 (by decide) (by decide) (by decide) (by decide) hD
      have hu : 2 ≤ (σ20.1 111 8).toInt ∧ (σ20.1 111 8).toInt ≤ 1600 := by rw [hOσ20.2 111 (by decide)] <;> exact hu
      have ht : 0 ≤ (σ20.1 0 1).toInt ∧ (σ20.1 0 1).toInt ≤ 600 := by rw [hOσ20.2 0 (by decide)] <;> exact ht
      refine ok_gR (v := 130) hT rfl (hR 0 18 rfl) ?_
      refine ok_gR (v := 2) hT rfl hNw ?_
      refine ok_gR (v := 7) hT rfl (hR 2 7 rfl) ?_
      obtain ⟨q25, eq25, kq25⟩ := arrF hR (k := 7) (i := x2) rfl (by first | omega | decide | (have q1 := hD.1; have q2 := hD.2.1; simp only [Int32.le_iff_toInt_le, Int32.lt_iff_toInt_lt, ti_add, ti_sub, ti_mul, Int32.reduceToInt] at *; omega)) (by first | omega | decide | (have q1 := hD.1; have q2 := hD.2.1; simp only [Int32.le_iff_toInt_le, Int32.lt_iff_toInt_lt, ti_add, ti_sub, ti_mul, Int32.reduceToInt] at *; omega))
      refine ok_aR (v := q25) hT rfl (by first | omega | decide | (have q1 := hD.1; have q2 := hD.2.1; simp only [Int32.le_iff_toInt_le, Int32.lt_iff_toInt_lt, ti_add, ti_sub, ti_mul, Int32.reduceToInt] at *; omega)) (by first | omega | decide | (have q1 := hD.1; have q2 := hD.2.1; simp only [Int32.le_iff_toInt_le, Int32.lt_iff_toInt_lt, ti_add, ti_sub, ti_mul, Int32.reduceToInt] at *; omega)) eq25 ?_
      refine ok_gC rfl ?_
      refine ok_zbT (Q := fun V σ => True) hT (s_X2_copyFrom hN (hR.tr hT) rfl kq25) (fun _ h9 => absurd h9 List.not_mem_nil) (fun v26 σ27 hOσ27 hT hqv26 => ?_)
      have hW2 : WI 2 σ27.1 := WI.tr hOσ27 (by decide) (by decide) (by decide) hW2
      have hW28 : WI 28 σ27.1 := WI.tr hOσ27 (by decide) (by decide) (by decide) hW28
      have hW132 : WI 132 σ27.1 := WI.tr hOσ27 (by decide) (by decide) (by decide) hW132
      have hW158 : WI 158 σ27.1 := WI.tr hOσ27 (by decide) (by decide) (by decide) hW158
      have hW184 : WI 184 σ27.1 := WI.tr hOσ27 (by decide) (by decide) (by decide) hW184
      have hL : SI σ27.1 := SI.tr hOσ27 (by decide) (by decide) (by decide) (by decide) hL
      have hD : RD σ27.1 := RD.tr hOσ27 (by decide) (by decide) (by decide) (by decide) hD
      have hu : 2 ≤ (σ27.1 111 8).toInt ∧ (σ27.1 111 8).toInt ≤ 1600 := by rw [hOσ27.2 111 (by decide)] <;> exact hu
      have ht : 0 ≤ (σ27.1 0 1).toInt ∧ (σ27.1 0 1).toInt ≤ 600 := by rw [hOσ27.2 0 (by decide)] <;> exact ht
      refine ok_gR (v := 130) hT rfl (hR 0 18 rfl) ?_
      refine ok_gR (v := 2) hT rfl hNw ?_
      refine ok_gR (v := 7) hT rfl (hR 2 7 rfl) ?_
      obtain ⟨q32, eq32, kq32⟩ := arrF hR (k := 7) (i := x1) rfl (by first | omega | decide | (have q1 := hD.1; have q2 := hD.2.1; simp only [Int32.le_iff_toInt_le, Int32.lt_iff_toInt_lt, ti_add, ti_sub, ti_mul, Int32.reduceToInt] at *; omega)) (by first | omega | decide | (have q1 := hD.1; have q2 := hD.2.1; simp only [Int32.le_iff_toInt_le, Int32.lt_iff_toInt_lt, ti_add, ti_sub, ti_mul, Int32.reduceToInt] at *; omega))
      refine ok_aR (v := q32) hT rfl (by first | omega | decide | (have q1 := hD.1; have q2 := hD.2.1; simp only [Int32.le_iff_toInt_le, Int32.lt_iff_toInt_lt, ti_add, ti_sub, ti_mul, Int32.reduceToInt] at *; omega)) (by first | omega | decide | (have q1 := hD.1; have q2 := hD.2.1; simp only [Int32.le_iff_toInt_le, Int32.lt_iff_toInt_lt, ti_add, ti_sub, ti_mul, Int32.reduceToInt] at *; omega)) eq32 ?_
      refine ok_gC rfl ?_
      refine ok_zbT (Q := fun V σ => True) hT (s_X2_takeAway hN (hR.tr hT) rfl kq32) (fun _ h9 => absurd h9 List.not_mem_nil) (fun v33 σ34 hOσ34 hT hqv33 => ?_)
      have hW2 : WI 2 σ34.1 := WI.tr hOσ34 (by decide) (by decide) (by decide) hW2
      have hW28 : WI 28 σ34.1 := WI.tr hOσ34 (by decide) (by decide) (by decide) hW28
      have hW132 : WI 132 σ34.1 := WI.tr hOσ34 (by decide) (by decide) (by decide) hW132
      have hW158 : WI 158 σ34.1 := WI.tr hOσ34 (by decide) (by decide) (by decide) hW158
      have hW184 : WI 184 σ34.1 := WI.tr hOσ34 (by decide) (by decide) (by decide) hW184
      have hL : SI σ34.1 := SI.tr hOσ34 (by decide) (by decide) (by decide) (by decide) hL
      have hD : RD σ34.1 := RD.tr hOσ34 (by decide) (by decide) (by decide) (by decide) hD
      have hu : 2 ≤ (σ34.1 111 8).toInt ∧ (σ34.1 111 8).toInt ≤ 1600 := by rw [hOσ34.2 111 (by decide)] <;> exact hu
      have ht : 0 ≤ (σ34.1 0 1).toInt ∧ (σ34.1 0 1).toInt ≤ 600 := by rw [hOσ34.2 0 (by decide)] <;> exact ht
      refine ok_gR (v := 128) hT rfl (hR 0 17 rfl) ?_
      refine ok_gR (v := 130) hT rfl (hR 0 18 rfl) ?_
      refine ok_gC rfl ?_
      refine ok_zbT (Q := fun V σ => True) hT (s_X2_join hN (hR.tr hT) rfl rfl) (fun _ h9 => absurd h9 List.not_mem_nil) (fun v37 σ38 hOσ38 hT hqv37 => ?_)
      have hW2 : WI 2 σ38.1 := WI.tr hOσ38 (by decide) (by decide) (by decide) hW2
      have hW28 : WI 28 σ38.1 := WI.tr hOσ38 (by decide) (by decide) (by decide) hW28
      have hW132 : WI 132 σ38.1 := WI.tr hOσ38 (by decide) (by decide) (by decide) hW132
      have hW158 : WI 158 σ38.1 := WI.tr hOσ38 (by decide) (by decide) (by decide) hW158
      have hW184 : WI 184 σ38.1 := WI.tr hOσ38 (by decide) (by decide) (by decide) hW184
      have hL : SI σ38.1 := SI.tr hOσ38 (by decide) (by decide) (by decide) (by decide) hL
      have hD : RD σ38.1 := RD.tr hOσ38 (by decide) (by decide) (by decide) (by decide) hD
      have hu : 2 ≤ (σ38.1 111 8).toInt ∧ (σ38.1 111 8).toInt ≤ 1600 := by rw [hOσ38.2 111 (by decide)] <;> exact hu
      have ht : 0 ≤ (σ38.1 0 1).toInt ∧ (σ38.1 0 1).toInt ≤ 600 := by rw [hOσ38.2 0 (by decide)] <;> exact ht
      refine ok_gR (v := 128) hT rfl (hR 0 17 rfl) ?_
      refine ok_gC rfl ?_
      refine ok_zbT (Q := fun V σ => True) hT (s_X2_pick hN (hR.tr hT) rfl) (fun _ h9 => absurd h9 List.not_mem_nil) (fun v40 σ41 hOσ41 hT hqv40 => ?_)
      have hW2 : WI 2 σ41.1 := WI.tr hOσ41 (by decide) (by decide) (by decide) hW2
      have hW28 : WI 28 σ41.1 := WI.tr hOσ41 (by decide) (by decide) (by decide) hW28
      have hW132 : WI 132 σ41.1 := WI.tr hOσ41 (by decide) (by decide) (by decide) hW132
      have hW158 : WI 158 σ41.1 := WI.tr hOσ41 (by decide) (by decide) (by decide) hW158
      have hW184 : WI 184 σ41.1 := WI.tr hOσ41 (by decide) (by decide) (by decide) hW184
      have hL : SI σ41.1 := SI.tr hOσ41 (by decide) (by decide) (by decide) (by decide) hL
      have hD : RD σ41.1 := RD.tr hOσ41 (by decide) (by decide) (by decide) (by decide) hD
      have hu : 2 ≤ (σ41.1 111 8).toInt ∧ (σ41.1 111 8).toInt ≤ 1600 := by rw [hOσ41.2 111 (by decide)] <;> exact hu
      have ht : 0 ≤ (σ41.1 0 1).toInt ∧ (σ41.1 0 1).toInt ≤ 600 := by rw [hOσ41.2 0 (by decide)] <;> exact ht
      exact ok_some ⟨hT, (show CF σ41.1 from by exact ⟨hW2, hW28, hW132, hW158, hW184, hL, hD, hu, ht⟩)⟩

set_option maxHeartbeats 4000000 in
set_option maxRecDepth 100000 in
theorem s_X11_within_n2 {N : Nat} (hN : 1048576 ≤ N) {x1 : Int32} {x2 : Int32} {σ0 : zS}  (hR : RF σ0.2.2) (hNw : σ0.2.2 0 4 = 2) (hPw : σ0.2.2 0 5 = 28) (hC : CF σ0.1) : Ok (f_X11_within N 0 x1 x2 σ0) (fun r => Tr [] σ0 r.2 ∧ (CF r.2.1)) := by
  have hT : Tr [] σ0 σ0 := Tr.rf
  obtain ⟨hW2, hW28, hW132, hW158, hW184, hL, hD, hu, ht⟩ := hC
  have hn := hW2.1
  have he := hW2.2.1
  have hD0 := hD
  have hL0 := hL
  have q10 := ti_one10 (x := σ0.1 2 0) hn.1 hn.2
  rw [f_X11_within.eq_1]
  refine ok_gC rfl ?_
  refine ok_zbT (Q := fun V σ => (V = 0 ∨ V = 1) ∧ (¬ V = 0 → 0 ≤ x1.toInt ∧ x1.toInt ≤ 9)) hT (s_X11_isRegister_n2 hN (hR.tr hT) ((hT.1.1 0 4 (by decide)).trans hNw) (by first | exact hn | omega | (rw [hT.2 2 (by decide)]; exact hn))) (fun _ h9 => absurd h9 List.not_mem_nil) (fun v1 σ2 hOσ2 hT hqv1 => ?_)
  have hqv1 : (v1 = 0 ∨ v1 = 1) ∧ (¬ v1 = 0 → 0 ≤ x1.toInt ∧ x1.toInt ≤ 9) := hqv1
  have hW2 : WI 2 σ2.1 := WI.tr hOσ2 (by decide) (by decide) (by decide) hW2
  have hW28 : WI 28 σ2.1 := WI.tr hOσ2 (by decide) (by decide) (by decide) hW28
  have hW132 : WI 132 σ2.1 := WI.tr hOσ2 (by decide) (by decide) (by decide) hW132
  have hW158 : WI 158 σ2.1 := WI.tr hOσ2 (by decide) (by decide) (by decide) hW158
  have hW184 : WI 184 σ2.1 := WI.tr hOσ2 (by decide) (by decide) (by decide) hW184
  have hL : SI σ2.1 := SI.tr hOσ2 (by decide) (by decide) (by decide) (by decide) hL
  have hD : RD σ2.1 := RD.tr hOσ2 (by decide) (by decide) (by decide) (by decide) hD
  have hu : 2 ≤ (σ2.1 111 8).toInt ∧ (σ2.1 111 8).toInt ≤ 1600 := by rw [hOσ2.2 111 (by decide)] <;> exact hu
  have ht : 0 ≤ (σ2.1 0 1).toInt ∧ (σ2.1 0 1).toInt ≤ 600 := by rw [hOσ2.2 0 (by decide)] <;> exact ht
  refine ok_if (fun hc3 => ?_) (fun hc3 => ?_)
  · exact ok_some ⟨hT, (show CF σ2.1 from by exact ⟨hW2, hW28, hW132, hW158, hW184, hL, hD, hu, ht⟩)⟩
  · have qhc3 := hqv1.2 hc3
    refine ok_gC rfl ?_
    refine ok_zbT (Q := fun V σ => (V = 0 ∨ V = 1) ∧ (¬ V = 0 → 0 ≤ x2.toInt ∧ x2.toInt ≤ 9)) hT (s_X11_isRegister_n2 hN (hR.tr hT) ((hT.1.1 0 4 (by decide)).trans hNw) (by first | exact hn | omega | (rw [hT.2 2 (by decide)]; exact hn))) (fun _ h9 => absurd h9 List.not_mem_nil) (fun v4 σ5 hOσ5 hT hqv4 => ?_)
    have hqv4 : (v4 = 0 ∨ v4 = 1) ∧ (¬ v4 = 0 → 0 ≤ x2.toInt ∧ x2.toInt ≤ 9) := hqv4
    have hW2 : WI 2 σ5.1 := WI.tr hOσ5 (by decide) (by decide) (by decide) hW2
    have hW28 : WI 28 σ5.1 := WI.tr hOσ5 (by decide) (by decide) (by decide) hW28
    have hW132 : WI 132 σ5.1 := WI.tr hOσ5 (by decide) (by decide) (by decide) hW132
    have hW158 : WI 158 σ5.1 := WI.tr hOσ5 (by decide) (by decide) (by decide) hW158
    have hW184 : WI 184 σ5.1 := WI.tr hOσ5 (by decide) (by decide) (by decide) hW184
    have hL : SI σ5.1 := SI.tr hOσ5 (by decide) (by decide) (by decide) (by decide) hL
    have hD : RD σ5.1 := RD.tr hOσ5 (by decide) (by decide) (by decide) (by decide) hD
    have hu : 2 ≤ (σ5.1 111 8).toInt ∧ (σ5.1 111 8).toInt ≤ 1600 := by rw [hOσ5.2 111 (by decide)] <;> exact hu
    have ht : 0 ≤ (σ5.1 0 1).toInt ∧ (σ5.1 0 1).toInt ≤ 600 := by rw [hOσ5.2 0 (by decide)] <;> exact ht
    refine ok_if (fun hc6 => ?_) (fun hc6 => ?_)
    · exact ok_some ⟨hT, (show CF σ5.1 from by exact ⟨hW2, hW28, hW132, hW158, hW184, hL, hD, hu, ht⟩)⟩
    · have qhc6 := hqv4.2 hc6
      refine ok_gR (v := 128) hT rfl (hR 0 17 rfl) ?_
      refine ok_gR (v := 2) hT rfl hNw ?_
      refine ok_gR (v := 7) hT rfl (hR 2 7 rfl) ?_
      obtain ⟨q11, eq11, kq11⟩ := arrF hR (k := 7) (i := x1) rfl (by first | omega | decide | (have q1 := hD.1; have q2 := hD.2.1; simp only [Int32.le_iff_toInt_le, Int32.lt_iff_toInt_lt, ti_add, ti_sub, ti_mul, Int32.reduceToInt] at *; omega)) (by first | omega | decide | (have q1 := hD.1; have q2 := hD.2.1; simp only [Int32.le_iff_toInt_le, Int32.lt_iff_toInt_lt, ti_add, ti_sub, ti_mul, Int32.reduceToInt] at *; omega))
      refine ok_aR (v := q11) hT rfl (by first | omega | decide | (have q1 := hD.1; have q2 := hD.2.1; simp only [Int32.le_iff_toInt_le, Int32.lt_iff_toInt_lt, ti_add, ti_sub, ti_mul, Int32.reduceToInt] at *; omega)) (by first | omega | decide | (have q1 := hD.1; have q2 := hD.2.1; simp only [Int32.le_iff_toInt_le, Int32.lt_iff_toInt_lt, ti_add, ti_sub, ti_mul, Int32.reduceToInt] at *; omega)) eq11 ?_
      refine ok_gC rfl ?_
      refine ok_zbT (Q := fun V σ => True) hT (s_X2_copyFrom hN (hR.tr hT) rfl kq11) (fun _ h9 => absurd h9 List.not_mem_nil) (fun v12 σ13 hOσ13 hT hqv12 => ?_)
      have hW2 : WI 2 σ13.1 := WI.tr hOσ13 (by decide) (by decide) (by decide) hW2
      have hW28 : WI 28 σ13.1 := WI.tr hOσ13 (by decide) (by decide) (by decide) hW28
      have hW132 : WI 132 σ13.1 := WI.tr hOσ13 (by decide) (by decide) (by decide) hW132
      have hW158 : WI 158 σ13.1 := WI.tr hOσ13 (by decide) (by decide) (by decide) hW158
      have hW184 : WI 184 σ13.1 := WI.tr hOσ13 (by decide) (by decide) (by decide) hW184
      have hL : SI σ13.1 := SI.tr hOσ13 (by decide) (by decide) (by decide) (by decide) hL
      have hD : RD σ13.1 := RD.tr hOσ13 (by decide) (by decide) (by decide) (by decide) hD
      have hu : 2 ≤ (σ13.1 111 8).toInt ∧ (σ13.1 111 8).toInt ≤ 1600 := by rw [hOσ13.2 111 (by decide)] <;> exact hu
      have ht : 0 ≤ (σ13.1 0 1).toInt ∧ (σ13.1 0 1).toInt ≤ 600 := by rw [hOσ13.2 0 (by decide)] <;> exact ht
      refine ok_gR (v := 128) hT rfl (hR 0 17 rfl) ?_
      refine ok_gR (v := 2) hT rfl hNw ?_
      refine ok_gR (v := 7) hT rfl (hR 2 7 rfl) ?_
      obtain ⟨q18, eq18, kq18⟩ := arrF hR (k := 7) (i := x2) rfl (by first | omega | decide | (have q1 := hD.1; have q2 := hD.2.1; simp only [Int32.le_iff_toInt_le, Int32.lt_iff_toInt_lt, ti_add, ti_sub, ti_mul, Int32.reduceToInt] at *; omega)) (by first | omega | decide | (have q1 := hD.1; have q2 := hD.2.1; simp only [Int32.le_iff_toInt_le, Int32.lt_iff_toInt_lt, ti_add, ti_sub, ti_mul, Int32.reduceToInt] at *; omega))
      refine ok_aR (v := q18) hT rfl (by first | omega | decide | (have q1 := hD.1; have q2 := hD.2.1; simp only [Int32.le_iff_toInt_le, Int32.lt_iff_toInt_lt, ti_add, ti_sub, ti_mul, Int32.reduceToInt] at *; omega)) (by first | omega | decide | (have q1 := hD.1; have q2 := hD.2.1; simp only [Int32.le_iff_toInt_le, Int32.lt_iff_toInt_lt, ti_add, ti_sub, ti_mul, Int32.reduceToInt] at *; omega)) eq18 ?_
      refine ok_gC rfl ?_
      refine ok_zbT (Q := fun V σ => True) hT (s_X2_takeAway hN (hR.tr hT) rfl kq18) (fun _ h9 => absurd h9 List.not_mem_nil) (fun v19 σ20 hOσ20 hT hqv19 => ?_)
      have hW2 : WI 2 σ20.1 := WI.tr hOσ20 (by decide) (by decide) (by decide) hW2
      have hW28 : WI 28 σ20.1 := WI.tr hOσ20 (by decide) (by decide) (by decide) hW28
      have hW132 : WI 132 σ20.1 := WI.tr hOσ20 (by decide) (by decide) (by decide) hW132
      have hW158 : WI 158 σ20.1 := WI.tr hOσ20 (by decide) (by decide) (by decide) hW158
      have hW184 : WI 184 σ20.1 := WI.tr hOσ20 (by decide) (by decide) (by decide) hW184
      have hL : SI σ20.1 := SI.tr hOσ20 (by decide) (by decide) (by decide) (by decide) hL
      have hD : RD σ20.1 := RD.tr hOσ20 (by decide) (by decide) (by decide) (by decide) hD
      have hu : 2 ≤ (σ20.1 111 8).toInt ∧ (σ20.1 111 8).toInt ≤ 1600 := by rw [hOσ20.2 111 (by decide)] <;> exact hu
      have ht : 0 ≤ (σ20.1 0 1).toInt ∧ (σ20.1 0 1).toInt ≤ 600 := by rw [hOσ20.2 0 (by decide)] <;> exact ht
      refine ok_gR (v := 128) hT rfl (hR 0 17 rfl) ?_
      refine ok_gC rfl ?_
      refine ok_zbT (Q := fun V σ => V = 0 ∨ V = 1) hT (s_X2_isEmpty hN (hR.tr hT) rfl) (fun _ h9 => absurd h9 List.not_mem_nil) (fun v22 σ23 hOσ23 hT hqv22 => ?_)
      have hqv22 : v22 = 0 ∨ v22 = 1 := hqv22
      have hW2 : WI 2 σ23.1 := WI.tr hOσ23 (by decide) (by decide) (by decide) hW2
      have hW28 : WI 28 σ23.1 := WI.tr hOσ23 (by decide) (by decide) (by decide) hW28
      have hW132 : WI 132 σ23.1 := WI.tr hOσ23 (by decide) (by decide) (by decide) hW132
      have hW158 : WI 158 σ23.1 := WI.tr hOσ23 (by decide) (by decide) (by decide) hW158
      have hW184 : WI 184 σ23.1 := WI.tr hOσ23 (by decide) (by decide) (by decide) hW184
      have hL : SI σ23.1 := SI.tr hOσ23 (by decide) (by decide) (by decide) (by decide) hL
      have hD : RD σ23.1 := RD.tr hOσ23 (by decide) (by decide) (by decide) (by decide) hD
      have hu : 2 ≤ (σ23.1 111 8).toInt ∧ (σ23.1 111 8).toInt ≤ 1600 := by rw [hOσ23.2 111 (by decide)] <;> exact hu
      have ht : 0 ≤ (σ23.1 0 1).toInt ∧ (σ23.1 0 1).toInt ≤ 600 := by rw [hOσ23.2 0 (by decide)] <;> exact ht
      refine ok_if (fun hc24 => ?_) (fun hc24 => ?_)
      · exact ok_some ⟨hT, (show CF σ23.1 from by exact ⟨hW2, hW28, hW132, hW158, hW184, hL, hD, hu, ht⟩)⟩
      · exact ok_some ⟨hT, (show CF σ23.1 from by exact ⟨hW2, hW28, hW132, hW158, hW184, hL, hD, hu, ht⟩)⟩

set_option maxHeartbeats 4000000 in
set_option maxRecDepth 100000 in
theorem s_X11_dual_n2 {N : Nat} (hN : 1048576 ≤ N) {x1 : Int32} {x2 : Int32} {σ0 : zS}  (hR : RF σ0.2.2) (hNw : σ0.2.2 0 4 = 2) (hPw : σ0.2.2 0 5 = 28) (hC : CF σ0.1) : Ok (f_X11_dual N 0 x1 x2 σ0) (fun r => Tr [] σ0 r.2 ∧ (CF r.2.1)) := by
  have hT : Tr [] σ0 σ0 := Tr.rf
  obtain ⟨hW2, hW28, hW132, hW158, hW184, hL, hD, hu, ht⟩ := hC
  have hn := hW2.1
  have he := hW2.2.1
  have hD0 := hD
  have hL0 := hL
  have q10 := ti_one10 (x := σ0.1 2 0) hn.1 hn.2
  rw [f_X11_dual.eq_1]
  refine ok_gC rfl ?_
  refine ok_zbT (Q := fun V σ => (V = 0 ∨ V = 1) ∧ (¬ V = 0 → 0 ≤ x1.toInt ∧ x1.toInt ≤ 9)) hT (s_X11_isRegister_n2 hN (hR.tr hT) ((hT.1.1 0 4 (by decide)).trans hNw) (by first | exact hn | omega | (rw [hT.2 2 (by decide)]; exact hn))) (fun _ h9 => absurd h9 List.not_mem_nil) (fun v1 σ2 hOσ2 hT hqv1 => ?_)
  have hqv1 : (v1 = 0 ∨ v1 = 1) ∧ (¬ v1 = 0 → 0 ≤ x1.toInt ∧ x1.toInt ≤ 9) := hqv1
  have hW2 : WI 2 σ2.1 := WI.tr hOσ2 (by decide) (by decide) (by decide) hW2
  have hW28 : WI 28 σ2.1 := WI.tr hOσ2 (by decide) (by decide) (by decide) hW28
  have hW132 : WI 132 σ2.1 := WI.tr hOσ2 (by decide) (by decide) (by decide) hW132
  have hW158 : WI 158 σ2.1 := WI.tr hOσ2 (by decide) (by decide) (by decide) hW158
  have hW184 : WI 184 σ2.1 := WI.tr hOσ2 (by decide) (by decide) (by decide) hW184
  have hL : SI σ2.1 := SI.tr hOσ2 (by decide) (by decide) (by decide) (by decide) hL
  have hD : RD σ2.1 := RD.tr hOσ2 (by decide) (by decide) (by decide) (by decide) hD
  have hu : 2 ≤ (σ2.1 111 8).toInt ∧ (σ2.1 111 8).toInt ≤ 1600 := by rw [hOσ2.2 111 (by decide)] <;> exact hu
  have ht : 0 ≤ (σ2.1 0 1).toInt ∧ (σ2.1 0 1).toInt ≤ 600 := by rw [hOσ2.2 0 (by decide)] <;> exact ht
  refine ok_if (fun hc3 => ?_) (fun hc3 => ?_)
  · exact ok_some ⟨hT, (show CF σ2.1 from by exact ⟨hW2, hW28, hW132, hW158, hW184, hL, hD, hu, ht⟩)⟩
  · have qhc3 := hqv1.2 hc3
    refine ok_gC rfl ?_
    refine ok_zbT (Q := fun V σ => (V = 0 ∨ V = 1) ∧ (¬ V = 0 → 0 ≤ x2.toInt ∧ x2.toInt ≤ 9)) hT (s_X11_isRegister_n2 hN (hR.tr hT) ((hT.1.1 0 4 (by decide)).trans hNw) (by first | exact hn | omega | (rw [hT.2 2 (by decide)]; exact hn))) (fun _ h9 => absurd h9 List.not_mem_nil) (fun v4 σ5 hOσ5 hT hqv4 => ?_)
    have hqv4 : (v4 = 0 ∨ v4 = 1) ∧ (¬ v4 = 0 → 0 ≤ x2.toInt ∧ x2.toInt ≤ 9) := hqv4
    have hW2 : WI 2 σ5.1 := WI.tr hOσ5 (by decide) (by decide) (by decide) hW2
    have hW28 : WI 28 σ5.1 := WI.tr hOσ5 (by decide) (by decide) (by decide) hW28
    have hW132 : WI 132 σ5.1 := WI.tr hOσ5 (by decide) (by decide) (by decide) hW132
    have hW158 : WI 158 σ5.1 := WI.tr hOσ5 (by decide) (by decide) (by decide) hW158
    have hW184 : WI 184 σ5.1 := WI.tr hOσ5 (by decide) (by decide) (by decide) hW184
    have hL : SI σ5.1 := SI.tr hOσ5 (by decide) (by decide) (by decide) (by decide) hL
    have hD : RD σ5.1 := RD.tr hOσ5 (by decide) (by decide) (by decide) (by decide) hD
    have hu : 2 ≤ (σ5.1 111 8).toInt ∧ (σ5.1 111 8).toInt ≤ 1600 := by rw [hOσ5.2 111 (by decide)] <;> exact hu
    have ht : 0 ≤ (σ5.1 0 1).toInt ∧ (σ5.1 0 1).toInt ≤ 600 := by rw [hOσ5.2 0 (by decide)] <;> exact ht
    refine ok_if (fun hc6 => ?_) (fun hc6 => ?_)
    · exact ok_some ⟨hT, (show CF σ5.1 from by exact ⟨hW2, hW28, hW132, hW158, hW184, hL, hD, hu, ht⟩)⟩
    · have qhc6 := hqv4.2 hc6
      refine ok_gR (v := 128) hT rfl (hR 0 17 rfl) ?_
      refine ok_gR (v := 2) hT rfl hNw ?_
      refine ok_gR (v := 7) hT rfl (hR 2 7 rfl) ?_
      obtain ⟨q11, eq11, kq11⟩ := arrF hR (k := 7) (i := x2) rfl (by first | omega | decide | (have q1 := hD.1; have q2 := hD.2.1; simp only [Int32.le_iff_toInt_le, Int32.lt_iff_toInt_lt, ti_add, ti_sub, ti_mul, Int32.reduceToInt] at *; omega)) (by first | omega | decide | (have q1 := hD.1; have q2 := hD.2.1; simp only [Int32.le_iff_toInt_le, Int32.lt_iff_toInt_lt, ti_add, ti_sub, ti_mul, Int32.reduceToInt] at *; omega))
      refine ok_aR (v := q11) hT rfl (by first | omega | decide | (have q1 := hD.1; have q2 := hD.2.1; simp only [Int32.le_iff_toInt_le, Int32.lt_iff_toInt_lt, ti_add, ti_sub, ti_mul, Int32.reduceToInt] at *; omega)) (by first | omega | decide | (have q1 := hD.1; have q2 := hD.2.1; simp only [Int32.le_iff_toInt_le, Int32.lt_iff_toInt_lt, ti_add, ti_sub, ti_mul, Int32.reduceToInt] at *; omega)) eq11 ?_
      refine ok_gC rfl ?_
      refine ok_zbT (Q := fun V σ => True) hT (s_X2_copyFrom hN (hR.tr hT) rfl kq11) (fun _ h9 => absurd h9 List.not_mem_nil) (fun v12 σ13 hOσ13 hT hqv12 => ?_)
      have hW2 : WI 2 σ13.1 := WI.tr hOσ13 (by decide) (by decide) (by decide) hW2
      have hW28 : WI 28 σ13.1 := WI.tr hOσ13 (by decide) (by decide) (by decide) hW28
      have hW132 : WI 132 σ13.1 := WI.tr hOσ13 (by decide) (by decide) (by decide) hW132
      have hW158 : WI 158 σ13.1 := WI.tr hOσ13 (by decide) (by decide) (by decide) hW158
      have hW184 : WI 184 σ13.1 := WI.tr hOσ13 (by decide) (by decide) (by decide) hW184
      have hL : SI σ13.1 := SI.tr hOσ13 (by decide) (by decide) (by decide) (by decide) hL
      have hD : RD σ13.1 := RD.tr hOσ13 (by decide) (by decide) (by decide) (by decide) hD
      have hu : 2 ≤ (σ13.1 111 8).toInt ∧ (σ13.1 111 8).toInt ≤ 1600 := by rw [hOσ13.2 111 (by decide)] <;> exact hu
      have ht : 0 ≤ (σ13.1 0 1).toInt ∧ (σ13.1 0 1).toInt ≤ 600 := by rw [hOσ13.2 0 (by decide)] <;> exact ht
      refine ok_gR (v := 99) hT rfl (hR 0 11 rfl) ?_
      refine ok_gR (v := 128) hT rfl (hR 0 17 rfl) ?_
      refine ok_gR (v := 2) hT rfl hNw ?_
      refine ok_gI0 hT rfl (by decide) ?_
      refine ok_gC rfl ?_
      refine ok_zbT (Q := fun V σ => True) hT (s_X0_reshape hN (hR.tr hT) rfl (by first | exact hn | omega | (rw [hT.2 2 (by decide)]; exact hn))) (fun _ h9 => absurd h9 List.not_mem_nil) (fun v18 σ19 hOσ19 hT hqv18 => ?_)
      have hW2 : WI 2 σ19.1 := WI.tr hOσ19 (by decide) (by decide) (by decide) hW2
      have hW28 : WI 28 σ19.1 := WI.tr hOσ19 (by decide) (by decide) (by decide) hW28
      have hW132 : WI 132 σ19.1 := WI.tr hOσ19 (by decide) (by decide) (by decide) hW132
      have hW158 : WI 158 σ19.1 := WI.tr hOσ19 (by decide) (by decide) (by decide) hW158
      have hW184 : WI 184 σ19.1 := WI.tr hOσ19 (by decide) (by decide) (by decide) hW184
      have hL : SI σ19.1 := SI.tr hOσ19 (by decide) (by decide) (by decide) (by decide) hL
      have hD : RD σ19.1 := RD.tr hOσ19 (by decide) (by decide) (by decide) (by decide) hD
      have hu : 2 ≤ (σ19.1 111 8).toInt ∧ (σ19.1 111 8).toInt ≤ 1600 := by rw [hOσ19.2 111 (by decide)] <;> exact hu
      have ht : 0 ≤ (σ19.1 0 1).toInt ∧ (σ19.1 0 1).toInt ≤ 600 := by rw [hOσ19.2 0 (by decide)] <;> exact ht
      refine ok_gR (v := 130) hT rfl (hR 0 18 rfl) ?_
      refine ok_gR (v := 2) hT rfl hNw ?_
      refine ok_gR (v := 7) hT rfl (hR 2 7 rfl) ?_
      obtain ⟨q24, eq24, kq24⟩ := arrF hR (k := 7) (i := x1) rfl (by first | omega | decide | (have q1 := hD.1; have q2 := hD.2.1; simp only [Int32.le_iff_toInt_le, Int32.lt_iff_toInt_lt, ti_add, ti_sub, ti_mul, Int32.reduceToInt] at *; omega)) (by first | omega | decide | (have q1 := hD.1; have q2 := hD.2.1; simp only [Int32.le_iff_toInt_le, Int32.lt_iff_toInt_lt, ti_add, ti_sub, ti_mul, Int32.reduceToInt] at *; omega))
      refine ok_aR (v := q24) hT rfl (by first | omega | decide | (have q1 := hD.1; have q2 := hD.2.1; simp only [Int32.le_iff_toInt_le, Int32.lt_iff_toInt_lt, ti_add, ti_sub, ti_mul, Int32.reduceToInt] at *; omega)) (by first | omega | decide | (have q1 := hD.1; have q2 := hD.2.1; simp only [Int32.le_iff_toInt_le, Int32.lt_iff_toInt_lt, ti_add, ti_sub, ti_mul, Int32.reduceToInt] at *; omega)) eq24 ?_
      refine ok_gC rfl ?_
      refine ok_zbT (Q := fun V σ => True) hT (s_X2_copyFrom hN (hR.tr hT) rfl kq24) (fun _ h9 => absurd h9 List.not_mem_nil) (fun v25 σ26 hOσ26 hT hqv25 => ?_)
      have hW2 : WI 2 σ26.1 := WI.tr hOσ26 (by decide) (by decide) (by decide) hW2
      have hW28 : WI 28 σ26.1 := WI.tr hOσ26 (by decide) (by decide) (by decide) hW28
      have hW132 : WI 132 σ26.1 := WI.tr hOσ26 (by decide) (by decide) (by decide) hW132
      have hW158 : WI 158 σ26.1 := WI.tr hOσ26 (by decide) (by decide) (by decide) hW158
      have hW184 : WI 184 σ26.1 := WI.tr hOσ26 (by decide) (by decide) (by decide) hW184
      have hL : SI σ26.1 := SI.tr hOσ26 (by decide) (by decide) (by decide) (by decide) hL
      have hD : RD σ26.1 := RD.tr hOσ26 (by decide) (by decide) (by decide) (by decide) hD
      have hu : 2 ≤ (σ26.1 111 8).toInt ∧ (σ26.1 111 8).toInt ≤ 1600 := by rw [hOσ26.2 111 (by decide)] <;> exact hu
      have ht : 0 ≤ (σ26.1 0 1).toInt ∧ (σ26.1 0 1).toInt ≤ 600 := by rw [hOσ26.2 0 (by decide)] <;> exact ht
      refine ok_gR (v := 99) hT rfl (hR 0 11 rfl) ?_
      refine ok_gR (v := 130) hT rfl (hR 0 18 rfl) ?_
      refine ok_gR (v := 2) hT rfl hNw ?_
      refine ok_gI0 hT rfl (by decide) ?_
      refine ok_gC rfl ?_
      refine ok_zbT (Q := fun V σ => True) hT (s_X0_reshape hN (hR.tr hT) rfl (by first | exact hn | omega | (rw [hT.2 2 (by decide)]; exact hn))) (fun _ h9 => absurd h9 List.not_mem_nil) (fun v31 σ32 hOσ32 hT hqv31 => ?_)
      have hW2 : WI 2 σ32.1 := WI.tr hOσ32 (by decide) (by decide) (by decide) hW2
      have hW28 : WI 28 σ32.1 := WI.tr hOσ32 (by decide) (by decide) (by decide) hW28
      have hW132 : WI 132 σ32.1 := WI.tr hOσ32 (by decide) (by decide) (by decide) hW132
      have hW158 : WI 158 σ32.1 := WI.tr hOσ32 (by decide) (by decide) (by decide) hW158
      have hW184 : WI 184 σ32.1 := WI.tr hOσ32 (by decide) (by decide) (by decide) hW184
      have hL : SI σ32.1 := SI.tr hOσ32 (by decide) (by decide) (by decide) (by decide) hL
      have hD : RD σ32.1 := RD.tr hOσ32 (by decide) (by decide) (by decide) (by decide) hD
      have hu : 2 ≤ (σ32.1 111 8).toInt ∧ (σ32.1 111 8).toInt ≤ 1600 := by rw [hOσ32.2 111 (by decide)] <;> exact hu
      have ht : 0 ≤ (σ32.1 0 1).toInt ∧ (σ32.1 0 1).toInt ≤ 600 := by rw [hOσ32.2 0 (by decide)] <;> exact ht
      refine ok_gR (v := 128) hT rfl (hR 0 17 rfl) ?_
      refine ok_gR (v := 2) hT rfl hNw ?_
      refine ok_gR (v := 7) hT rfl (hR 2 7 rfl) ?_
      obtain ⟨q37, eq37, kq37⟩ := arrF hR (k := 7) (i := x1) rfl (by first | omega | decide | (have q1 := hD.1; have q2 := hD.2.1; simp only [Int32.le_iff_toInt_le, Int32.lt_iff_toInt_lt, ti_add, ti_sub, ti_mul, Int32.reduceToInt] at *; omega)) (by first | omega | decide | (have q1 := hD.1; have q2 := hD.2.1; simp only [Int32.le_iff_toInt_le, Int32.lt_iff_toInt_lt, ti_add, ti_sub, ti_mul, Int32.reduceToInt] at *; omega))
      refine ok_aR (v := q37) hT rfl (by first | omega | decide | (have q1 := hD.1; have q2 := hD.2.1; simp only [Int32.le_iff_toInt_le, Int32.lt_iff_toInt_lt, ti_add, ti_sub, ti_mul, Int32.reduceToInt] at *; omega)) (by first | omega | decide | (have q1 := hD.1; have q2 := hD.2.1; simp only [Int32.le_iff_toInt_le, Int32.lt_iff_toInt_lt, ti_add, ti_sub, ti_mul, Int32.reduceToInt] at *; omega)) eq37 ?_
      refine ok_gC rfl ?_
      refine ok_zbT (Q := fun V σ => V = 0 ∨ V = 1) hT (s_X2_sameAs hN (hR.tr hT) rfl kq37) (fun _ h9 => absurd h9 List.not_mem_nil) (fun v38 σ39 hOσ39 hT hqv38 => ?_)
      have hqv38 : v38 = 0 ∨ v38 = 1 := hqv38
      have hW2 : WI 2 σ39.1 := WI.tr hOσ39 (by decide) (by decide) (by decide) hW2
      have hW28 : WI 28 σ39.1 := WI.tr hOσ39 (by decide) (by decide) (by decide) hW28
      have hW132 : WI 132 σ39.1 := WI.tr hOσ39 (by decide) (by decide) (by decide) hW132
      have hW158 : WI 158 σ39.1 := WI.tr hOσ39 (by decide) (by decide) (by decide) hW158
      have hW184 : WI 184 σ39.1 := WI.tr hOσ39 (by decide) (by decide) (by decide) hW184
      have hL : SI σ39.1 := SI.tr hOσ39 (by decide) (by decide) (by decide) (by decide) hL
      have hD : RD σ39.1 := RD.tr hOσ39 (by decide) (by decide) (by decide) (by decide) hD
      have hu : 2 ≤ (σ39.1 111 8).toInt ∧ (σ39.1 111 8).toInt ≤ 1600 := by rw [hOσ39.2 111 (by decide)] <;> exact hu
      have ht : 0 ≤ (σ39.1 0 1).toInt ∧ (σ39.1 0 1).toInt ≤ 600 := by rw [hOσ39.2 0 (by decide)] <;> exact ht
      refine ok_if (fun hc40 => ?_) (fun hc40 => ?_)
      · exact ok_some ⟨hT, (show CF σ39.1 from by exact ⟨hW2, hW28, hW132, hW158, hW184, hL, hD, hu, ht⟩)⟩
      · refine ok_gR (v := 130) hT rfl (hR 0 18 rfl) ?_
        refine ok_gR (v := 2) hT rfl hNw ?_
        refine ok_gR (v := 7) hT rfl (hR 2 7 rfl) ?_
        obtain ⟨q45, eq45, kq45⟩ := arrF hR (k := 7) (i := x2) rfl (by first | omega | decide | (have q1 := hD.1; have q2 := hD.2.1; simp only [Int32.le_iff_toInt_le, Int32.lt_iff_toInt_lt, ti_add, ti_sub, ti_mul, Int32.reduceToInt] at *; omega)) (by first | omega | decide | (have q1 := hD.1; have q2 := hD.2.1; simp only [Int32.le_iff_toInt_le, Int32.lt_iff_toInt_lt, ti_add, ti_sub, ti_mul, Int32.reduceToInt] at *; omega))
        refine ok_aR (v := q45) hT rfl (by first | omega | decide | (have q1 := hD.1; have q2 := hD.2.1; simp only [Int32.le_iff_toInt_le, Int32.lt_iff_toInt_lt, ti_add, ti_sub, ti_mul, Int32.reduceToInt] at *; omega)) (by first | omega | decide | (have q1 := hD.1; have q2 := hD.2.1; simp only [Int32.le_iff_toInt_le, Int32.lt_iff_toInt_lt, ti_add, ti_sub, ti_mul, Int32.reduceToInt] at *; omega)) eq45 ?_
        refine ok_gC rfl ?_
        refine ok_zbT (Q := fun V σ => V = 0 ∨ V = 1) hT (s_X2_sameAs hN (hR.tr hT) rfl kq45) (fun _ h9 => absurd h9 List.not_mem_nil) (fun v46 σ47 hOσ47 hT hqv46 => ?_)
        have hqv46 : v46 = 0 ∨ v46 = 1 := hqv46
        have hW2 : WI 2 σ47.1 := WI.tr hOσ47 (by decide) (by decide) (by decide) hW2
        have hW28 : WI 28 σ47.1 := WI.tr hOσ47 (by decide) (by decide) (by decide) hW28
        have hW132 : WI 132 σ47.1 := WI.tr hOσ47 (by decide) (by decide) (by decide) hW132
        have hW158 : WI 158 σ47.1 := WI.tr hOσ47 (by decide) (by decide) (by decide) hW158
        have hW184 : WI 184 σ47.1 := WI.tr hOσ47 (by decide) (by decide) (by decide) hW184
        have hL : SI σ47.1 := SI.tr hOσ47 (by decide) (by decide) (by decide) (by decide) hL
        have hD : RD σ47.1 := RD.tr hOσ47 (by decide) (by decide) (by decide) (by decide) hD
        have hu : 2 ≤ (σ47.1 111 8).toInt ∧ (σ47.1 111 8).toInt ≤ 1600 := by rw [hOσ47.2 111 (by decide)] <;> exact hu
        have ht : 0 ≤ (σ47.1 0 1).toInt ∧ (σ47.1 0 1).toInt ≤ 600 := by rw [hOσ47.2 0 (by decide)] <;> exact ht
        refine ok_if (fun hc48 => ?_) (fun hc48 => ?_)
        · exact ok_some ⟨hT, (show CF σ47.1 from by exact ⟨hW2, hW28, hW132, hW158, hW184, hL, hD, hu, ht⟩)⟩
        · exact ok_some ⟨hT, (show CF σ47.1 from by exact ⟨hW2, hW28, hW132, hW158, hW184, hL, hD, hu, ht⟩)⟩

set_option maxHeartbeats 4000000 in
set_option maxRecDepth 100000 in
theorem s_X11_apart_n2 {N : Nat} (hN : 1048576 ≤ N) {x1 : Int32} {x2 : Int32} {σ0 : zS}  (hR : RF σ0.2.2) (hNw : σ0.2.2 0 4 = 2) (hPw : σ0.2.2 0 5 = 28) (hC : CF σ0.1) : Ok (f_X11_apart N 0 x1 x2 σ0) (fun r => Tr [107] σ0 r.2 ∧ (CF r.2.1)) := by
  have hT : Tr [107] σ0 σ0 := Tr.rf
  obtain ⟨hW2, hW28, hW132, hW158, hW184, hL, hD, hu, ht⟩ := hC
  have hn := hW2.1
  have he := hW2.2.1
  have hD0 := hD
  have hL0 := hL
  have q10 := ti_one10 (x := σ0.1 2 0) hn.1 hn.2
  rw [f_X11_apart.eq_1]
  refine ok_gC rfl ?_
  refine ok_zbT (Q := fun V σ => (V = 0 ∨ V = 1) ∧ (¬ V = 0 → 0 ≤ x1.toInt ∧ x1.toInt ≤ 9)) hT (s_X11_isRegister_n2 hN (hR.tr hT) ((hT.1.1 0 4 (by decide)).trans hNw) (by first | exact hn | omega | (rw [hT.2 2 (by decide)]; exact hn))) (fun _ h9 => absurd h9 List.not_mem_nil) (fun v1 σ2 hOσ2 hT hqv1 => ?_)
  have hqv1 : (v1 = 0 ∨ v1 = 1) ∧ (¬ v1 = 0 → 0 ≤ x1.toInt ∧ x1.toInt ≤ 9) := hqv1
  have hW2 : WI 2 σ2.1 := WI.tr hOσ2 (by decide) (by decide) (by decide) hW2
  have hW28 : WI 28 σ2.1 := WI.tr hOσ2 (by decide) (by decide) (by decide) hW28
  have hW132 : WI 132 σ2.1 := WI.tr hOσ2 (by decide) (by decide) (by decide) hW132
  have hW158 : WI 158 σ2.1 := WI.tr hOσ2 (by decide) (by decide) (by decide) hW158
  have hW184 : WI 184 σ2.1 := WI.tr hOσ2 (by decide) (by decide) (by decide) hW184
  have hL : SI σ2.1 := SI.tr hOσ2 (by decide) (by decide) (by decide) (by decide) hL
  have hD : RD σ2.1 := RD.tr hOσ2 (by decide) (by decide) (by decide) (by decide) hD
  have hu : 2 ≤ (σ2.1 111 8).toInt ∧ (σ2.1 111 8).toInt ≤ 1600 := by rw [hOσ2.2 111 (by decide)] <;> exact hu
  have ht : 0 ≤ (σ2.1 0 1).toInt ∧ (σ2.1 0 1).toInt ≤ 600 := by rw [hOσ2.2 0 (by decide)] <;> exact ht
  refine ok_if (fun hc3 => ?_) (fun hc3 => ?_)
  · exact ok_some ⟨hT, (show CF σ2.1 from by exact ⟨hW2, hW28, hW132, hW158, hW184, hL, hD, hu, ht⟩)⟩
  · have qhc3 := hqv1.2 hc3
    refine ok_gC rfl ?_
    refine ok_zbT (Q := fun V σ => (V = 0 ∨ V = 1) ∧ (¬ V = 0 → 0 ≤ x2.toInt ∧ x2.toInt ≤ 9)) hT (s_X11_isRegister_n2 hN (hR.tr hT) ((hT.1.1 0 4 (by decide)).trans hNw) (by first | exact hn | omega | (rw [hT.2 2 (by decide)]; exact hn))) (fun _ h9 => absurd h9 List.not_mem_nil) (fun v4 σ5 hOσ5 hT hqv4 => ?_)
    have hqv4 : (v4 = 0 ∨ v4 = 1) ∧ (¬ v4 = 0 → 0 ≤ x2.toInt ∧ x2.toInt ≤ 9) := hqv4
    have hW2 : WI 2 σ5.1 := WI.tr hOσ5 (by decide) (by decide) (by decide) hW2
    have hW28 : WI 28 σ5.1 := WI.tr hOσ5 (by decide) (by decide) (by decide) hW28
    have hW132 : WI 132 σ5.1 := WI.tr hOσ5 (by decide) (by decide) (by decide) hW132
    have hW158 : WI 158 σ5.1 := WI.tr hOσ5 (by decide) (by decide) (by decide) hW158
    have hW184 : WI 184 σ5.1 := WI.tr hOσ5 (by decide) (by decide) (by decide) hW184
    have hL : SI σ5.1 := SI.tr hOσ5 (by decide) (by decide) (by decide) (by decide) hL
    have hD : RD σ5.1 := RD.tr hOσ5 (by decide) (by decide) (by decide) (by decide) hD
    have hu : 2 ≤ (σ5.1 111 8).toInt ∧ (σ5.1 111 8).toInt ≤ 1600 := by rw [hOσ5.2 111 (by decide)] <;> exact hu
    have ht : 0 ≤ (σ5.1 0 1).toInt ∧ (σ5.1 0 1).toInt ≤ 600 := by rw [hOσ5.2 0 (by decide)] <;> exact ht
    refine ok_if (fun hc6 => ?_) (fun hc6 => ?_)
    · exact ok_some ⟨hT, (show CF σ5.1 from by exact ⟨hW2, hW28, hW132, hW158, hW184, hL, hD, hu, ht⟩)⟩
    · have qhc6 := hqv4.2 hc6
      refine ok_gR (v := 99) hT rfl (hR 0 11 rfl) ?_
      refine ok_gR (v := 2) hT rfl hNw ?_
      refine ok_gR (v := 7) hT rfl (hR 2 7 rfl) ?_
      obtain ⟨q11, eq11, kq11⟩ := arrF hR (k := 7) (i := x1) rfl (by first | omega | decide | (have q1 := hD.1; have q2 := hD.2.1; simp only [Int32.le_iff_toInt_le, Int32.lt_iff_toInt_lt, ti_add, ti_sub, ti_mul, Int32.reduceToInt] at *; omega)) (by first | omega | decide | (have q1 := hD.1; have q2 := hD.2.1; simp only [Int32.le_iff_toInt_le, Int32.lt_iff_toInt_lt, ti_add, ti_sub, ti_mul, Int32.reduceToInt] at *; omega))
      refine ok_aR (v := q11) hT rfl (by first | omega | decide | (have q1 := hD.1; have q2 := hD.2.1; simp only [Int32.le_iff_toInt_le, Int32.lt_iff_toInt_lt, ti_add, ti_sub, ti_mul, Int32.reduceToInt] at *; omega)) (by first | omega | decide | (have q1 := hD.1; have q2 := hD.2.1; simp only [Int32.le_iff_toInt_le, Int32.lt_iff_toInt_lt, ti_add, ti_sub, ti_mul, Int32.reduceToInt] at *; omega)) eq11 ?_
      refine ok_gR (v := 2) hT rfl hNw ?_
      refine ok_gR (v := 7) hT rfl (hR 2 7 rfl) ?_
      obtain ⟨q15, eq15, kq15⟩ := arrF hR (k := 7) (i := x2) rfl (by first | omega | decide | (have q1 := hD.1; have q2 := hD.2.1; simp only [Int32.le_iff_toInt_le, Int32.lt_iff_toInt_lt, ti_add, ti_sub, ti_mul, Int32.reduceToInt] at *; omega)) (by first | omega | decide | (have q1 := hD.1; have q2 := hD.2.1; simp only [Int32.le_iff_toInt_le, Int32.lt_iff_toInt_lt, ti_add, ti_sub, ti_mul, Int32.reduceToInt] at *; omega))
      refine ok_aR (v := q15) hT rfl (by first | omega | decide | (have q1 := hD.1; have q2 := hD.2.1; simp only [Int32.le_iff_toInt_le, Int32.lt_iff_toInt_lt, ti_add, ti_sub, ti_mul, Int32.reduceToInt] at *; omega)) (by first | omega | decide | (have q1 := hD.1; have q2 := hD.2.1; simp only [Int32.le_iff_toInt_le, Int32.lt_iff_toInt_lt, ti_add, ti_sub, ti_mul, Int32.reduceToInt] at *; omega)) eq15 ?_
      refine ok_gR (v := 2) hT rfl hNw ?_
      refine ok_gI0 hT rfl (by decide) ?_
      refine ok_gC rfl ?_
      refine ok_zbT (Q := fun V σ => True) hT (s_X0_disjointPairs hN (hR.tr hT) kq11 kq15) (by decide) (fun v18 σ19 hOσ19 hT hqv18 => ?_)
      have hW2 : WI 2 σ19.1 := WI.tr hOσ19 (by decide) (by decide) (by decide) hW2
      have hW28 : WI 28 σ19.1 := WI.tr hOσ19 (by decide) (by decide) (by decide) hW28
      have hW132 : WI 132 σ19.1 := WI.tr hOσ19 (by decide) (by decide) (by decide) hW132
      have hW158 : WI 158 σ19.1 := WI.tr hOσ19 (by decide) (by decide) (by decide) hW158
      have hW184 : WI 184 σ19.1 := WI.tr hOσ19 (by decide) (by decide) (by decide) hW184
      have hL : SI σ19.1 := SI.tr hOσ19 (by decide) (by decide) (by decide) (by decide) hL
      have hD : RD σ19.1 := RD.tr hOσ19 (by decide) (by decide) (by decide) (by decide) hD
      have hu : 2 ≤ (σ19.1 111 8).toInt ∧ (σ19.1 111 8).toInt ≤ 1600 := by rw [hOσ19.2 111 (by decide)] <;> exact hu
      have ht : 0 ≤ (σ19.1 0 1).toInt ∧ (σ19.1 0 1).toInt ≤ 600 := by rw [hOσ19.2 0 (by decide)] <;> exact ht
      exact ok_some ⟨hT, (show CF σ19.1 from by exact ⟨hW2, hW28, hW132, hW158, hW184, hL, hD, hu, ht⟩)⟩

set_option maxHeartbeats 4000000 in
set_option maxRecDepth 100000 in
theorem s_X11_packs_n2 {N : Nat} (hN : 1048576 ≤ N) {x1 : Int32} {x2 : Int32} {σ0 : zS}  (hR : RF σ0.2.2) (hNw : σ0.2.2 0 4 = 2) (hPw : σ0.2.2 0 5 = 28) (hC : CF σ0.1) : Ok (f_X11_packs N 0 x1 x2 σ0) (fun r => Tr [126, 127] σ0 r.2 ∧ (CF r.2.1)) := by
  have hT : Tr [126, 127] σ0 σ0 := Tr.rf
  obtain ⟨hW2, hW28, hW132, hW158, hW184, hL, hD, hu, ht⟩ := hC
  have hn := hW2.1
  have he := hW2.2.1
  have hD0 := hD
  have hL0 := hL
  have q10 := ti_one10 (x := σ0.1 2 0) hn.1 hn.2
  rw [f_X11_packs.eq_1]
  refine ok_gC rfl ?_
  refine ok_zbT (Q := fun V σ => (V = 0 ∨ V = 1) ∧ (¬ V = 0 → 0 ≤ x1.toInt ∧ x1.toInt ≤ 9)) hT (s_X11_isRegister_n2 hN (hR.tr hT) ((hT.1.1 0 4 (by decide)).trans hNw) (by first | exact hn | omega | (rw [hT.2 2 (by decide)]; exact hn))) (fun _ h9 => absurd h9 List.not_mem_nil) (fun v1 σ2 hOσ2 hT hqv1 => ?_)
  have hqv1 : (v1 = 0 ∨ v1 = 1) ∧ (¬ v1 = 0 → 0 ≤ x1.toInt ∧ x1.toInt ≤ 9) := hqv1
  have hW2 : WI 2 σ2.1 := WI.tr hOσ2 (by decide) (by decide) (by decide) hW2
  have hW28 : WI 28 σ2.1 := WI.tr hOσ2 (by decide) (by decide) (by decide) hW28
  have hW132 : WI 132 σ2.1 := WI.tr hOσ2 (by decide) (by decide) (by decide) hW132
  have hW158 : WI 158 σ2.1 := WI.tr hOσ2 (by decide) (by decide) (by decide) hW158
  have hW184 : WI 184 σ2.1 := WI.tr hOσ2 (by decide) (by decide) (by decide) hW184
  have hL : SI σ2.1 := SI.tr hOσ2 (by decide) (by decide) (by decide) (by decide) hL
  have hD : RD σ2.1 := RD.tr hOσ2 (by decide) (by decide) (by decide) (by decide) hD
  have hu : 2 ≤ (σ2.1 111 8).toInt ∧ (σ2.1 111 8).toInt ≤ 1600 := by rw [hOσ2.2 111 (by decide)] <;> exact hu
  have ht : 0 ≤ (σ2.1 0 1).toInt ∧ (σ2.1 0 1).toInt ≤ 600 := by rw [hOσ2.2 0 (by decide)] <;> exact ht
  refine ok_if (fun hc3 => ?_) (fun hc3 => ?_)
  · exact ok_some ⟨hT, (show CF σ2.1 from by exact ⟨hW2, hW28, hW132, hW158, hW184, hL, hD, hu, ht⟩)⟩
  · have qhc3 := hqv1.2 hc3
    refine ok_if (fun hc4 => ?_) (fun hc4 => ?_)
    · exact ok_some ⟨hT, (show CF σ2.1 from by exact ⟨hW2, hW28, hW132, hW158, hW184, hL, hD, hu, ht⟩)⟩
    · refine ok_if (fun hc5 => ?_) (fun hc5 => ?_)
      · refine ok_gR (v := 2) hT rfl hNw ?_
        refine ok_gR (v := 7) hT rfl (hR 2 7 rfl) ?_
        obtain ⟨q9, eq9, kq9⟩ := arrF hR (k := 7) (i := x1) rfl (by first | omega | decide | (have q1 := hD.1; have q2 := hD.2.1; simp only [Int32.le_iff_toInt_le, Int32.lt_iff_toInt_lt, ti_add, ti_sub, ti_mul, Int32.reduceToInt] at *; omega)) (by first | omega | decide | (have q1 := hD.1; have q2 := hD.2.1; simp only [Int32.le_iff_toInt_le, Int32.lt_iff_toInt_lt, ti_add, ti_sub, ti_mul, Int32.reduceToInt] at *; omega))
        refine ok_aR (v := q9) hT rfl (by first | omega | decide | (have q1 := hD.1; have q2 := hD.2.1; simp only [Int32.le_iff_toInt_le, Int32.lt_iff_toInt_lt, ti_add, ti_sub, ti_mul, Int32.reduceToInt] at *; omega)) (by first | omega | decide | (have q1 := hD.1; have q2 := hD.2.1; simp only [Int32.le_iff_toInt_le, Int32.lt_iff_toInt_lt, ti_add, ti_sub, ti_mul, Int32.reduceToInt] at *; omega)) eq9 ?_
        refine ok_gC kq9 ?_
        refine ok_zbT (Q := fun V σ => True) hT (s_X2_tally hN (hR.tr hT) kq9) (fun _ h9 => absurd h9 List.not_mem_nil) (fun v10 σ11 hOσ11 hT hqv10 => ?_)
        have hW2 : WI 2 σ11.1 := WI.tr hOσ11 (by decide) (by decide) (by decide) hW2
        have hW28 : WI 28 σ11.1 := WI.tr hOσ11 (by decide) (by decide) (by decide) hW28
        have hW132 : WI 132 σ11.1 := WI.tr hOσ11 (by decide) (by decide) (by decide) hW132
        have hW158 : WI 158 σ11.1 := WI.tr hOσ11 (by decide) (by decide) (by decide) hW158
        have hW184 : WI 184 σ11.1 := WI.tr hOσ11 (by decide) (by decide) (by decide) hW184
        have hL : SI σ11.1 := SI.tr hOσ11 (by decide) (by decide) (by decide) (by decide) hL
        have hD : RD σ11.1 := RD.tr hOσ11 (by decide) (by decide) (by decide) (by decide) hD
        have hu : 2 ≤ (σ11.1 111 8).toInt ∧ (σ11.1 111 8).toInt ≤ 1600 := by rw [hOσ11.2 111 (by decide)] <;> exact hu
        have ht : 0 ≤ (σ11.1 0 1).toInt ∧ (σ11.1 0 1).toInt ≤ 600 := by rw [hOσ11.2 0 (by decide)] <;> exact ht
        refine ok_if (fun hc12 => ?_) (fun hc12 => ?_)
        · exact ok_some ⟨hT, (show CF σ11.1 from by exact ⟨hW2, hW28, hW132, hW158, hW184, hL, hD, hu, ht⟩)⟩
        · refine ok_if (fun hc13 => ?_) (fun hc13 => ?_)
          · refine ok_gR (v := 126) hT rfl (hR 0 16 rfl) ?_
            refine ok_gC rfl ?_
            refine ok_zbT (Q := fun V σ => True) hT (s_X4_load hN (hR.tr hT) kq9) (by decide) (fun v15 σ16 hOσ16 hT hqv15 => ?_)
            have hW2 : WI 2 σ16.1 := WI.tr hOσ16 (by decide) (by decide) (by decide) hW2
            have hW28 : WI 28 σ16.1 := WI.tr hOσ16 (by decide) (by decide) (by decide) hW28
            have hW132 : WI 132 σ16.1 := WI.tr hOσ16 (by decide) (by decide) (by decide) hW132
            have hW158 : WI 158 σ16.1 := WI.tr hOσ16 (by decide) (by decide) (by decide) hW158
            have hW184 : WI 184 σ16.1 := WI.tr hOσ16 (by decide) (by decide) (by decide) hW184
            have hL : SI σ16.1 := SI.tr hOσ16 (by decide) (by decide) (by decide) (by decide) hL
            have hD : RD σ16.1 := RD.tr hOσ16 (by decide) (by decide) (by decide) (by decide) hD
            have hu : 2 ≤ (σ16.1 111 8).toInt ∧ (σ16.1 111 8).toInt ≤ 1600 := by rw [hOσ16.2 111 (by decide)] <;> exact hu
            have ht : 0 ≤ (σ16.1 0 1).toInt ∧ (σ16.1 0 1).toInt ≤ 600 := by rw [hOσ16.2 0 (by decide)] <;> exact ht
            refine ok_if (fun hc17 => ?_) (fun hc17 => ?_)
            · refine ok_gR (v := 126) hT rfl (hR 0 16 rfl) ?_
              refine ok_gC rfl ?_
              refine ok_zbT (Q := fun V σ => True) hT (s_X4_fewestForAll hN (hR.tr hT) ) (fun _ h9 => absurd h9 List.not_mem_nil) (fun v19 σ20 hOσ20 hT hqv19 => ?_)
              have hW2 : WI 2 σ20.1 := WI.tr hOσ20 (by decide) (by decide) (by decide) hW2
              have hW28 : WI 28 σ20.1 := WI.tr hOσ20 (by decide) (by decide) (by decide) hW28
              have hW132 : WI 132 σ20.1 := WI.tr hOσ20 (by decide) (by decide) (by decide) hW132
              have hW158 : WI 158 σ20.1 := WI.tr hOσ20 (by decide) (by decide) (by decide) hW158
              have hW184 : WI 184 σ20.1 := WI.tr hOσ20 (by decide) (by decide) (by decide) hW184
              have hL : SI σ20.1 := SI.tr hOσ20 (by decide) (by decide) (by decide) (by decide) hL
              have hD : RD σ20.1 := RD.tr hOσ20 (by decide) (by decide) (by decide) (by decide) hD
              have hu : 2 ≤ (σ20.1 111 8).toInt ∧ (σ20.1 111 8).toInt ≤ 1600 := by rw [hOσ20.2 111 (by decide)] <;> exact hu
              have ht : 0 ≤ (σ20.1 0 1).toInt ∧ (σ20.1 0 1).toInt ≤ 600 := by rw [hOσ20.2 0 (by decide)] <;> exact ht
              exact ok_some ⟨hT, (show CF σ20.1 from by exact ⟨hW2, hW28, hW132, hW158, hW184, hL, hD, hu, ht⟩)⟩
            · refine ok_gR (v := 126) hT rfl (hR 0 16 rfl) ?_
              refine ok_gC rfl ?_
              refine ok_zbT (Q := fun V σ => True) hT (s_X4_mostDisjoint hN (hR.tr hT) ) (fun _ h9 => absurd h9 List.not_mem_nil) (fun v22 σ23 hOσ23 hT hqv22 => ?_)
              have hW2 : WI 2 σ23.1 := WI.tr hOσ23 (by decide) (by decide) (by decide) hW2
              have hW28 : WI 28 σ23.1 := WI.tr hOσ23 (by decide) (by decide) (by decide) hW28
              have hW132 : WI 132 σ23.1 := WI.tr hOσ23 (by decide) (by decide) (by decide) hW132
              have hW158 : WI 158 σ23.1 := WI.tr hOσ23 (by decide) (by decide) (by decide) hW158
              have hW184 : WI 184 σ23.1 := WI.tr hOσ23 (by decide) (by decide) (by decide) hW184
              have hL : SI σ23.1 := SI.tr hOσ23 (by decide) (by decide) (by decide) (by decide) hL
              have hD : RD σ23.1 := RD.tr hOσ23 (by decide) (by decide) (by decide) (by decide) hD
              have hu : 2 ≤ (σ23.1 111 8).toInt ∧ (σ23.1 111 8).toInt ≤ 1600 := by rw [hOσ23.2 111 (by decide)] <;> exact hu
              have ht : 0 ≤ (σ23.1 0 1).toInt ∧ (σ23.1 0 1).toInt ≤ 600 := by rw [hOσ23.2 0 (by decide)] <;> exact ht
              exact ok_some ⟨hT, (show CF σ23.1 from by exact ⟨hW2, hW28, hW132, hW158, hW184, hL, hD, hu, ht⟩)⟩
          · exact ok_some ⟨hT, (show CF σ11.1 from by exact ⟨hW2, hW28, hW132, hW158, hW184, hL, hD, hu, ht⟩)⟩
      · exact ok_some ⟨hT, (show CF σ2.1 from by exact ⟨hW2, hW28, hW132, hW158, hW184, hL, hD, hu, ht⟩)⟩

set_option maxHeartbeats 4000000 in
set_option maxRecDepth 100000 in
theorem s_X11_nodes_n2 {N : Nat} (hN : 1048576 ≤ N) {x1 : Int32} {σ0 : zS}  (hR : RF σ0.2.2) (hNw : σ0.2.2 0 4 = 2) (hPw : σ0.2.2 0 5 = 28) (hC : CF σ0.1) : Ok (f_X11_nodes N 0 x1 σ0) (fun r => Tr [111, 112, 113, 114, 115, 116, 117, 118, 119] σ0 r.2 ∧ (CF r.2.1)) := by
  have hT : Tr [111, 112, 113, 114, 115, 116, 117, 118, 119] σ0 σ0 := Tr.rf
  obtain ⟨hW2, hW28, hW132, hW158, hW184, hL, hD, hu, ht⟩ := hC
  have hn := hW2.1
  have he := hW2.2.1
  have hD0 := hD
  have hL0 := hL
  have q10 := ti_one10 (x := σ0.1 2 0) hn.1 hn.2
  rw [f_X11_nodes.eq_1]
  refine ok_gC rfl ?_
  refine ok_zbT (Q := fun V σ => (V = 0 ∨ V = 1) ∧ (¬ V = 0 → 0 ≤ x1.toInt ∧ x1.toInt ≤ 9)) hT (s_X11_isRegister_n2 hN (hR.tr hT) ((hT.1.1 0 4 (by decide)).trans hNw) (by first | exact hn | omega | (rw [hT.2 2 (by decide)]; exact hn))) (fun _ h9 => absurd h9 List.not_mem_nil) (fun v1 σ2 hOσ2 hT hqv1 => ?_)
  have hqv1 : (v1 = 0 ∨ v1 = 1) ∧ (¬ v1 = 0 → 0 ≤ x1.toInt ∧ x1.toInt ≤ 9) := hqv1
  have hW2 : WI 2 σ2.1 := WI.tr hOσ2 (by decide) (by decide) (by decide) hW2
  have hW28 : WI 28 σ2.1 := WI.tr hOσ2 (by decide) (by decide) (by decide) hW28
  have hW132 : WI 132 σ2.1 := WI.tr hOσ2 (by decide) (by decide) (by decide) hW132
  have hW158 : WI 158 σ2.1 := WI.tr hOσ2 (by decide) (by decide) (by decide) hW158
  have hW184 : WI 184 σ2.1 := WI.tr hOσ2 (by decide) (by decide) (by decide) hW184
  have hL : SI σ2.1 := SI.tr hOσ2 (by decide) (by decide) (by decide) (by decide) hL
  have hD : RD σ2.1 := RD.tr hOσ2 (by decide) (by decide) (by decide) (by decide) hD
  have hu : 2 ≤ (σ2.1 111 8).toInt ∧ (σ2.1 111 8).toInt ≤ 1600 := by rw [hOσ2.2 111 (by decide)] <;> exact hu
  have ht : 0 ≤ (σ2.1 0 1).toInt ∧ (σ2.1 0 1).toInt ≤ 600 := by rw [hOσ2.2 0 (by decide)] <;> exact ht
  refine ok_if (fun hc3 => ?_) (fun hc3 => ?_)
  · exact ok_some ⟨hT, (show CF σ2.1 from by exact ⟨hW2, hW28, hW132, hW158, hW184, hL, hD, hu, ht⟩)⟩
  · have qhc3 := hqv1.2 hc3
    refine ok_gR (v := 111) hT rfl (hR 0 13 rfl) ?_
    refine ok_gR (v := 2) hT rfl hNw ?_
    refine ok_gR (v := 2) hT rfl hNw ?_
    refine ok_gR (v := 7) hT rfl (hR 2 7 rfl) ?_
    obtain ⟨q9, eq9, kq9⟩ := arrF hR (k := 7) (i := x1) rfl (by first | omega | decide | (have q1 := hD.1; have q2 := hD.2.1; simp only [Int32.le_iff_toInt_le, Int32.lt_iff_toInt_lt, ti_add, ti_sub, ti_mul, Int32.reduceToInt] at *; omega)) (by first | omega | decide | (have q1 := hD.1; have q2 := hD.2.1; simp only [Int32.le_iff_toInt_le, Int32.lt_iff_toInt_lt, ti_add, ti_sub, ti_mul, Int32.reduceToInt] at *; omega))
    refine ok_aR (v := q9) hT rfl (by first | omega | decide | (have q1 := hD.1; have q2 := hD.2.1; simp only [Int32.le_iff_toInt_le, Int32.lt_iff_toInt_lt, ti_add, ti_sub, ti_mul, Int32.reduceToInt] at *; omega)) (by first | omega | decide | (have q1 := hD.1; have q2 := hD.2.1; simp only [Int32.le_iff_toInt_le, Int32.lt_iff_toInt_lt, ti_add, ti_sub, ti_mul, Int32.reduceToInt] at *; omega)) eq9 ?_
    refine ok_gC rfl ?_
    refine ok_zbT (Q := fun V σ => 2 ≤ (σ.1 111 8).toInt ∧ (σ.1 111 8).toInt ≤ 1600) hT (s_X1_tallyOf_2 hN (hR.tr hT) kq9 (hu) (by first | exact hn | omega | (rw [hT.2 2 (by decide)]; exact hn))) (by decide) (fun v10 σ11 hOσ11 hT hqv10 => ?_)
    have hqv10 : 2 ≤ (σ11.1 111 8).toInt ∧ (σ11.1 111 8).toInt ≤ 1600 := hqv10
    have hW2 : WI 2 σ11.1 := WI.tr hOσ11 (by decide) (by decide) (by decide) hW2
    have hW28 : WI 28 σ11.1 := WI.tr hOσ11 (by decide) (by decide) (by decide) hW28
    have hW132 : WI 132 σ11.1 := WI.tr hOσ11 (by decide) (by decide) (by decide) hW132
    have hW158 : WI 158 σ11.1 := WI.tr hOσ11 (by decide) (by decide) (by decide) hW158
    have hW184 : WI 184 σ11.1 := WI.tr hOσ11 (by decide) (by decide) (by decide) hW184
    have hL : SI σ11.1 := SI.tr hOσ11 (by decide) (by decide) (by decide) (by decide) hL
    have hD : RD σ11.1 := RD.tr hOσ11 (by decide) (by decide) (by decide) (by decide) hD
    have hu : 2 ≤ (σ11.1 111 8).toInt ∧ (σ11.1 111 8).toInt ≤ 1600 := hqv10
    have ht : 0 ≤ (σ11.1 0 1).toInt ∧ (σ11.1 0 1).toInt ≤ 600 := by rw [hOσ11.2 0 (by decide)] <;> exact ht
    exact ok_some ⟨hT, (show CF σ11.1 from by exact ⟨hW2, hW28, hW132, hW158, hW184, hL, hD, hu, ht⟩)⟩

set_option maxHeartbeats 4000000 in
set_option maxRecDepth 100000 in
theorem s_X11_net_n2 {N : Nat} (hN : 1048576 ≤ N)  {σ0 : zS}  (hR : RF σ0.2.2) (hNw : σ0.2.2 0 4 = 2) (hPw : σ0.2.2 0 5 = 28) (hC : CF σ0.1) : Ok (f_X11_net N 0 σ0) (fun r => Tr [111, 112, 113, 114, 115, 116, 117, 118, 119] σ0 r.2 ∧ (CF r.2.1)) := by
  have hT : Tr [111, 112, 113, 114, 115, 116, 117, 118, 119] σ0 σ0 := Tr.rf
  obtain ⟨hW2, hW28, hW132, hW158, hW184, hL, hD, hu, ht⟩ := hC
  have hn := hW2.1
  have he := hW2.2.1
  have hD0 := hD
  have hL0 := hL
  have q10 := ti_one10 (x := σ0.1 2 0) hn.1 hn.2
  rw [f_X11_net.eq_1]
  refine ok_gC rfl ?_
  refine ok_zbT (Q := fun V σ => (V = 0 ∨ V = 1) ∧ (¬ V = 0 → 0 < (σ0.1 2 0).toInt)) hT (s_X11_isWorld_n2 hN (hR.tr hT) ((hT.1.1 0 4 (by decide)).trans hNw) (by first | exact hn | omega | (rw [hT.2 2 (by decide)]; exact hn))) (fun _ h9 => absurd h9 List.not_mem_nil) (fun v1 σ2 hOσ2 hT hqv1 => ?_)
  have hqv1 : (v1 = 0 ∨ v1 = 1) ∧ (¬ v1 = 0 → 0 < (σ0.1 2 0).toInt) := hqv1
  have hW2 : WI 2 σ2.1 := WI.tr hOσ2 (by decide) (by decide) (by decide) hW2
  have hW28 : WI 28 σ2.1 := WI.tr hOσ2 (by decide) (by decide) (by decide) hW28
  have hW132 : WI 132 σ2.1 := WI.tr hOσ2 (by decide) (by decide) (by decide) hW132
  have hW158 : WI 158 σ2.1 := WI.tr hOσ2 (by decide) (by decide) (by decide) hW158
  have hW184 : WI 184 σ2.1 := WI.tr hOσ2 (by decide) (by decide) (by decide) hW184
  have hL : SI σ2.1 := SI.tr hOσ2 (by decide) (by decide) (by decide) (by decide) hL
  have hD : RD σ2.1 := RD.tr hOσ2 (by decide) (by decide) (by decide) (by decide) hD
  have hu : 2 ≤ (σ2.1 111 8).toInt ∧ (σ2.1 111 8).toInt ≤ 1600 := by rw [hOσ2.2 111 (by decide)] <;> exact hu
  have ht : 0 ≤ (σ2.1 0 1).toInt ∧ (σ2.1 0 1).toInt ≤ 600 := by rw [hOσ2.2 0 (by decide)] <;> exact ht
  refine ok_if (fun hc3 => ?_) (fun hc3 => ?_)
  · exact ok_some ⟨hT, (show CF σ2.1 from by exact ⟨hW2, hW28, hW132, hW158, hW184, hL, hD, hu, ht⟩)⟩
  · have qhc3 := hqv1.2 hc3
    refine ok_gR (v := 111) hT rfl (hR 0 13 rfl) ?_
    refine ok_gR (v := 2) hT rfl hNw ?_
    refine ok_gC rfl ?_
    refine ok_zbT (Q := fun V σ => 2 ≤ (σ.1 111 8).toInt ∧ (σ.1 111 8).toInt ≤ 1600) hT (s_X1_tallyOfAll_2 hN (hR.tr hT) (hu) (by first | exact hn | omega | (rw [hT.2 2 (by decide)]; exact hn))) (by decide) (fun v6 σ7 hOσ7 hT hqv6 => ?_)
    have hqv6 : 2 ≤ (σ7.1 111 8).toInt ∧ (σ7.1 111 8).toInt ≤ 1600 := hqv6
    have hW2 : WI 2 σ7.1 := WI.tr hOσ7 (by decide) (by decide) (by decide) hW2
    have hW28 : WI 28 σ7.1 := WI.tr hOσ7 (by decide) (by decide) (by decide) hW28
    have hW132 : WI 132 σ7.1 := WI.tr hOσ7 (by decide) (by decide) (by decide) hW132
    have hW158 : WI 158 σ7.1 := WI.tr hOσ7 (by decide) (by decide) (by decide) hW158
    have hW184 : WI 184 σ7.1 := WI.tr hOσ7 (by decide) (by decide) (by decide) hW184
    have hL : SI σ7.1 := SI.tr hOσ7 (by decide) (by decide) (by decide) (by decide) hL
    have hD : RD σ7.1 := RD.tr hOσ7 (by decide) (by decide) (by decide) (by decide) hD
    have hu : 2 ≤ (σ7.1 111 8).toInt ∧ (σ7.1 111 8).toInt ≤ 1600 := hqv6
    have ht : 0 ≤ (σ7.1 0 1).toInt ∧ (σ7.1 0 1).toInt ≤ 600 := by rw [hOσ7.2 0 (by decide)] <;> exact ht
    exact ok_some ⟨hT, (show CF σ7.1 from by exact ⟨hW2, hW28, hW132, hW158, hW184, hL, hD, hu, ht⟩)⟩

set_option maxHeartbeats 4000000 in
set_option maxRecDepth 100000 in
theorem s_X11_wide_n2 {N : Nat} (hN : 1048576 ≤ N) {x1 : Int32} {x2 : Int32} {σ0 : zS}  (hR : RF σ0.2.2) (hNw : σ0.2.2 0 4 = 2) (hPw : σ0.2.2 0 5 = 28) (hC : CF σ0.1) : Ok (f_X11_wide N 0 x1 x2 σ0) (fun r => Tr [111, 112, 113, 114, 115, 116, 117, 118, 119] σ0 r.2 ∧ (CF r.2.1)) := by
  have hT : Tr [111, 112, 113, 114, 115, 116, 117, 118, 119] σ0 σ0 := Tr.rf
  obtain ⟨hW2, hW28, hW132, hW158, hW184, hL, hD, hu, ht⟩ := hC
  have hn := hW2.1
  have he := hW2.2.1
  have hD0 := hD
  have hL0 := hL
  have q10 := ti_one10 (x := σ0.1 2 0) hn.1 hn.2
  rw [f_X11_wide.eq_1]
  refine ok_gC rfl ?_
  refine ok_zbT (Q := fun V σ => (V = 0 ∨ V = 1) ∧ (¬ V = 0 → 0 ≤ x1.toInt ∧ x1.toInt ≤ 9)) hT (s_X11_isRegister_n2 hN (hR.tr hT) ((hT.1.1 0 4 (by decide)).trans hNw) (by first | exact hn | omega | (rw [hT.2 2 (by decide)]; exact hn))) (fun _ h9 => absurd h9 List.not_mem_nil) (fun v1 σ2 hOσ2 hT hqv1 => ?_)
  have hqv1 : (v1 = 0 ∨ v1 = 1) ∧ (¬ v1 = 0 → 0 ≤ x1.toInt ∧ x1.toInt ≤ 9) := hqv1
  have hW2 : WI 2 σ2.1 := WI.tr hOσ2 (by decide) (by decide) (by decide) hW2
  have hW28 : WI 28 σ2.1 := WI.tr hOσ2 (by decide) (by decide) (by decide) hW28
  have hW132 : WI 132 σ2.1 := WI.tr hOσ2 (by decide) (by decide) (by decide) hW132
  have hW158 : WI 158 σ2.1 := WI.tr hOσ2 (by decide) (by decide) (by decide) hW158
  have hW184 : WI 184 σ2.1 := WI.tr hOσ2 (by decide) (by decide) (by decide) hW184
  have hL : SI σ2.1 := SI.tr hOσ2 (by decide) (by decide) (by decide) (by decide) hL
  have hD : RD σ2.1 := RD.tr hOσ2 (by decide) (by decide) (by decide) (by decide) hD
  have hu : 2 ≤ (σ2.1 111 8).toInt ∧ (σ2.1 111 8).toInt ≤ 1600 := by rw [hOσ2.2 111 (by decide)] <;> exact hu
  have ht : 0 ≤ (σ2.1 0 1).toInt ∧ (σ2.1 0 1).toInt ≤ 600 := by rw [hOσ2.2 0 (by decide)] <;> exact ht
  refine ok_if (fun hc3 => ?_) (fun hc3 => ?_)
  · exact ok_some ⟨hT, (show CF σ2.1 from by exact ⟨hW2, hW28, hW132, hW158, hW184, hL, hD, hu, ht⟩)⟩
  · have qhc3 := hqv1.2 hc3
    refine ok_gC rfl ?_
    refine ok_zbT (Q := fun V σ => (V = 0 ∨ V = 1) ∧ (¬ V = 0 → 0 ≤ x2.toInt ∧ x2.toInt < (σ2.1 2 0).toInt)) hT (s_X11_isName_n2 hN (hR.tr hT) ((hT.1.1 0 4 (by decide)).trans hNw) (by first | exact hn | omega | (rw [hT.2 2 (by decide)]; exact hn))) (fun _ h9 => absurd h9 List.not_mem_nil) (fun v4 σ5 hOσ5 hT hqv4 => ?_)
    have hqv4 : (v4 = 0 ∨ v4 = 1) ∧ (¬ v4 = 0 → 0 ≤ x2.toInt ∧ x2.toInt < (σ2.1 2 0).toInt) := hqv4
    have hW2 : WI 2 σ5.1 := WI.tr hOσ5 (by decide) (by decide) (by decide) hW2
    have hW28 : WI 28 σ5.1 := WI.tr hOσ5 (by decide) (by decide) (by decide) hW28
    have hW132 : WI 132 σ5.1 := WI.tr hOσ5 (by decide) (by decide) (by decide) hW132
    have hW158 : WI 158 σ5.1 := WI.tr hOσ5 (by decide) (by decide) (by decide) hW158
    have hW184 : WI 184 σ5.1 := WI.tr hOσ5 (by decide) (by decide) (by decide) hW184
    have hL : SI σ5.1 := SI.tr hOσ5 (by decide) (by decide) (by decide) (by decide) hL
    have hD : RD σ5.1 := RD.tr hOσ5 (by decide) (by decide) (by decide) (by decide) hD
    have hu : 2 ≤ (σ5.1 111 8).toInt ∧ (σ5.1 111 8).toInt ≤ 1600 := by rw [hOσ5.2 111 (by decide)] <;> exact hu
    have ht : 0 ≤ (σ5.1 0 1).toInt ∧ (σ5.1 0 1).toInt ≤ 600 := by rw [hOσ5.2 0 (by decide)] <;> exact ht
    refine ok_if (fun hc6 => ?_) (fun hc6 => ?_)
    · exact ok_some ⟨hT, (show CF σ5.1 from by exact ⟨hW2, hW28, hW132, hW158, hW184, hL, hD, hu, ht⟩)⟩
    · have qhc6 := hqv4.2 hc6
      refine ok_gR (v := 111) hT rfl (hR 0 13 rfl) ?_
      refine ok_gR (v := 2) hT rfl hNw ?_
      refine ok_gR (v := 2) hT rfl hNw ?_
      refine ok_gR (v := 7) hT rfl (hR 2 7 rfl) ?_
      obtain ⟨q12, eq12, kq12⟩ := arrF hR (k := 7) (i := x1) rfl (by first | omega | decide | (have q1 := hD.1; have q2 := hD.2.1; simp only [Int32.le_iff_toInt_le, Int32.lt_iff_toInt_lt, ti_add, ti_sub, ti_mul, Int32.reduceToInt] at *; omega)) (by first | omega | decide | (have q1 := hD.1; have q2 := hD.2.1; simp only [Int32.le_iff_toInt_le, Int32.lt_iff_toInt_lt, ti_add, ti_sub, ti_mul, Int32.reduceToInt] at *; omega))
      refine ok_aR (v := q12) hT rfl (by first | omega | decide | (have q1 := hD.1; have q2 := hD.2.1; simp only [Int32.le_iff_toInt_le, Int32.lt_iff_toInt_lt, ti_add, ti_sub, ti_mul, Int32.reduceToInt] at *; omega)) (by first | omega | decide | (have q1 := hD.1; have q2 := hD.2.1; simp only [Int32.le_iff_toInt_le, Int32.lt_iff_toInt_lt, ti_add, ti_sub, ti_mul, Int32.reduceToInt] at *; omega)) eq12 ?_
      refine ok_gC rfl ?_
      refine ok_zbT (Q := fun V σ => 2 ≤ (σ.1 111 8).toInt ∧ (σ.1 111 8).toInt ≤ 1600) hT (s_X1_tallyOf_2 hN (hR.tr hT) kq12 (hu) (by first | exact hn | omega | (rw [hT.2 2 (by decide)]; exact hn))) (by decide) (fun v13 σ14 hOσ14 hT hqv13 => ?_)
      have hqv13 : 2 ≤ (σ14.1 111 8).toInt ∧ (σ14.1 111 8).toInt ≤ 1600 := hqv13
      have hW2 : WI 2 σ14.1 := WI.tr hOσ14 (by decide) (by decide) (by decide) hW2
      have hW28 : WI 28 σ14.1 := WI.tr hOσ14 (by decide) (by decide) (by decide) hW28
      have hW132 : WI 132 σ14.1 := WI.tr hOσ14 (by decide) (by decide) (by decide) hW132
      have hW158 : WI 158 σ14.1 := WI.tr hOσ14 (by decide) (by decide) (by decide) hW158
      have hW184 : WI 184 σ14.1 := WI.tr hOσ14 (by decide) (by decide) (by decide) hW184
      have hL : SI σ14.1 := SI.tr hOσ14 (by decide) (by decide) (by decide) (by decide) hL
      have hD : RD σ14.1 := RD.tr hOσ14 (by decide) (by decide) (by decide) (by decide) hD
      have hu : 2 ≤ (σ14.1 111 8).toInt ∧ (σ14.1 111 8).toInt ≤ 1600 := hqv13
      have ht : 0 ≤ (σ14.1 0 1).toInt ∧ (σ14.1 0 1).toInt ≤ 600 := by rw [hOσ14.2 0 (by decide)] <;> exact ht
      refine ok_gR (v := 111) hT rfl (hR 0 13 rfl) ?_
      refine ok_gC rfl ?_
      refine ok_zbT (Q := fun V σ => True) hT (s_X1_tallyAt hN (hR.tr hT) ) (fun _ h9 => absurd h9 List.not_mem_nil) (fun v16 σ17 hOσ17 hT hqv16 => ?_)
      have hW2 : WI 2 σ17.1 := WI.tr hOσ17 (by decide) (by decide) (by decide) hW2
      have hW28 : WI 28 σ17.1 := WI.tr hOσ17 (by decide) (by decide) (by decide) hW28
      have hW132 : WI 132 σ17.1 := WI.tr hOσ17 (by decide) (by decide) (by decide) hW132
      have hW158 : WI 158 σ17.1 := WI.tr hOσ17 (by decide) (by decide) (by decide) hW158
      have hW184 : WI 184 σ17.1 := WI.tr hOσ17 (by decide) (by decide) (by decide) hW184
      have hL : SI σ17.1 := SI.tr hOσ17 (by decide) (by decide) (by decide) (by decide) hL
      have hD : RD σ17.1 := RD.tr hOσ17 (by decide) (by decide) (by decide) (by decide) hD
      have hu : 2 ≤ (σ17.1 111 8).toInt ∧ (σ17.1 111 8).toInt ≤ 1600 := by rw [hOσ17.2 111 (by decide)] <;> exact hu
      have ht : 0 ≤ (σ17.1 0 1).toInt ∧ (σ17.1 0 1).toInt ≤ 600 := by rw [hOσ17.2 0 (by decide)] <;> exact ht
      exact ok_some ⟨hT, (show CF σ17.1 from by exact ⟨hW2, hW28, hW132, hW158, hW184, hL, hD, hu, ht⟩)⟩

set_option maxHeartbeats 4000000 in
set_option maxRecDepth 100000 in
theorem s_X11_order_n2 {N : Nat} (hN : 1048576 ≤ N) {x1 : Int32} {σ0 : zS}  (hR : RF σ0.2.2) (hNw : σ0.2.2 0 4 = 2) (hPw : σ0.2.2 0 5 = 28) (hC : CF σ0.1) : Ok (f_X11_order N 0 x1 σ0) (fun r => Tr [] σ0 r.2 ∧ (CF r.2.1)) := by
  have hT : Tr [] σ0 σ0 := Tr.rf
  obtain ⟨hW2, hW28, hW132, hW158, hW184, hL, hD, hu, ht⟩ := hC
  have hn := hW2.1
  have he := hW2.2.1
  have hD0 := hD
  have hL0 := hL
  have q10 := ti_one10 (x := σ0.1 2 0) hn.1 hn.2
  rw [f_X11_order.eq_1]
  refine ok_gC rfl ?_
  refine ok_zbT (Q := fun V σ => (V = 0 ∨ V = 1) ∧ (¬ V = 0 → 0 ≤ x1.toInt ∧ x1.toInt < (σ0.1 2 0).toInt)) hT (s_X11_isName_n2 hN (hR.tr hT) ((hT.1.1 0 4 (by decide)).trans hNw) (by first | exact hn | omega | (rw [hT.2 2 (by decide)]; exact hn))) (fun _ h9 => absurd h9 List.not_mem_nil) (fun v1 σ2 hOσ2 hT hqv1 => ?_)
  have hqv1 : (v1 = 0 ∨ v1 = 1) ∧ (¬ v1 = 0 → 0 ≤ x1.toInt ∧ x1.toInt < (σ0.1 2 0).toInt) := hqv1
  have hW2 : WI 2 σ2.1 := WI.tr hOσ2 (by decide) (by decide) (by decide) hW2
  have hW28 : WI 28 σ2.1 := WI.tr hOσ2 (by decide) (by decide) (by decide) hW28
  have hW132 : WI 132 σ2.1 := WI.tr hOσ2 (by decide) (by decide) (by decide) hW132
  have hW158 : WI 158 σ2.1 := WI.tr hOσ2 (by decide) (by decide) (by decide) hW158
  have hW184 : WI 184 σ2.1 := WI.tr hOσ2 (by decide) (by decide) (by decide) hW184
  have hL : SI σ2.1 := SI.tr hOσ2 (by decide) (by decide) (by decide) (by decide) hL
  have hD : RD σ2.1 := RD.tr hOσ2 (by decide) (by decide) (by decide) (by decide) hD
  have hu : 2 ≤ (σ2.1 111 8).toInt ∧ (σ2.1 111 8).toInt ≤ 1600 := by rw [hOσ2.2 111 (by decide)] <;> exact hu
  have ht : 0 ≤ (σ2.1 0 1).toInt ∧ (σ2.1 0 1).toInt ≤ 600 := by rw [hOσ2.2 0 (by decide)] <;> exact ht
  refine ok_if (fun hc3 => ?_) (fun hc3 => ?_)
  · exact ok_some ⟨hT, (show CF σ2.1 from by exact ⟨hW2, hW28, hW132, hW158, hW184, hL, hD, hu, ht⟩)⟩
  · have qhc3 := hqv1.2 hc3
    refine ok_gR (v := 2) hT rfl hNw ?_
    refine ok_gR (v := 6) hT rfl (hR 2 6 rfl) ?_
    refine ok_aIn rfl (by first | omega | decide | (have q1 := hD.1; have q2 := hD.2.1; simp only [Int32.le_iff_toInt_le, Int32.lt_iff_toInt_lt, ti_add, ti_sub, ti_mul, Int32.reduceToInt] at *; omega)) (by first | omega | decide | (have q1 := hD.1; have q2 := hD.2.1; simp only [Int32.le_iff_toInt_le, Int32.lt_iff_toInt_lt, ti_add, ti_sub, ti_mul, Int32.reduceToInt] at *; omega)) (fun v6 ev6 => ?_)
    exact ok_some ⟨hT, (show CF σ2.1 from by exact ⟨hW2, hW28, hW132, hW158, hW184, hL, hD, hu, ht⟩)⟩

set_option maxHeartbeats 4000000 in
set_option maxRecDepth 100000 in
theorem s_X11_best_n2 {N : Nat} (hN : 1048576 ≤ N) {x1 : Int32} {x2 : Int32} {σ0 : zS}  (hR : RF σ0.2.2) (hNw : σ0.2.2 0 4 = 2) (hPw : σ0.2.2 0 5 = 28) (hC : CF σ0.1) : Ok (f_X11_best N 0 x1 x2 σ0) (fun r => Tr [122, 123] σ0 r.2 ∧ (CF r.2.1)) := by
  have hT : Tr [122, 123] σ0 σ0 := Tr.rf
  obtain ⟨hW2, hW28, hW132, hW158, hW184, hL, hD, hu, ht⟩ := hC
  have hn := hW2.1
  have he := hW2.2.1
  have hD0 := hD
  have hL0 := hL
  have q10 := ti_one10 (x := σ0.1 2 0) hn.1 hn.2
  rw [f_X11_best.eq_1]
  refine ok_gC rfl ?_
  refine ok_zbT (Q := fun V σ => (V = 0 ∨ V = 1) ∧ (¬ V = 0 → 0 ≤ x1.toInt ∧ x1.toInt ≤ 9)) hT (s_X11_isRegister_n2 hN (hR.tr hT) ((hT.1.1 0 4 (by decide)).trans hNw) (by first | exact hn | omega | (rw [hT.2 2 (by decide)]; exact hn))) (fun _ h9 => absurd h9 List.not_mem_nil) (fun v1 σ2 hOσ2 hT hqv1 => ?_)
  have hqv1 : (v1 = 0 ∨ v1 = 1) ∧ (¬ v1 = 0 → 0 ≤ x1.toInt ∧ x1.toInt ≤ 9) := hqv1
  have hW2 : WI 2 σ2.1 := WI.tr hOσ2 (by decide) (by decide) (by decide) hW2
  have hW28 : WI 28 σ2.1 := WI.tr hOσ2 (by decide) (by decide) (by decide) hW28
  have hW132 : WI 132 σ2.1 := WI.tr hOσ2 (by decide) (by decide) (by decide) hW132
  have hW158 : WI 158 σ2.1 := WI.tr hOσ2 (by decide) (by decide) (by decide) hW158
  have hW184 : WI 184 σ2.1 := WI.tr hOσ2 (by decide) (by decide) (by decide) hW184
  have hL : SI σ2.1 := SI.tr hOσ2 (by decide) (by decide) (by decide) (by decide) hL
  have hD : RD σ2.1 := RD.tr hOσ2 (by decide) (by decide) (by decide) (by decide) hD
  have hu : 2 ≤ (σ2.1 111 8).toInt ∧ (σ2.1 111 8).toInt ≤ 1600 := by rw [hOσ2.2 111 (by decide)] <;> exact hu
  have ht : 0 ≤ (σ2.1 0 1).toInt ∧ (σ2.1 0 1).toInt ≤ 600 := by rw [hOσ2.2 0 (by decide)] <;> exact ht
  refine ok_if (fun hc3 => ?_) (fun hc3 => ?_)
  · exact ok_some ⟨hT, (show CF σ2.1 from by exact ⟨hW2, hW28, hW132, hW158, hW184, hL, hD, hu, ht⟩)⟩
  · have qhc3 := hqv1.2 hc3
    refine ok_if (fun hc4 => ?_) (fun hc4 => ?_)
    · exact ok_some ⟨hT, (show CF σ2.1 from by exact ⟨hW2, hW28, hW132, hW158, hW184, hL, hD, hu, ht⟩)⟩
    · refine ok_if (fun hc5 => ?_) (fun hc5 => ?_)
      · refine ok_gR (v := 2) hT rfl hNw ?_
        refine ok_gI0 hT rfl (by decide) ?_
        refine ok_if (fun hc8 => ?_) (fun hc8 => ?_)
        · refine ok_gR (v := 2) hT rfl hNw ?_
          refine ok_gI0 hT rfl (by decide) ?_
          refine ok_if (fun hc11 => ?_) (fun hc11 => ?_)
          · refine ok_gR (v := 120) hT rfl (hR 0 14 rfl) ?_
            refine ok_gR (v := 2) hT rfl hNw ?_
            refine ok_gR (v := 7) hT rfl (hR 2 7 rfl) ?_
            obtain ⟨q16, eq16, kq16⟩ := arrF hR (k := 7) (i := x1) rfl (by first | omega | decide | (have q1 := hD.1; have q2 := hD.2.1; simp only [Int32.le_iff_toInt_le, Int32.lt_iff_toInt_lt, ti_add, ti_sub, ti_mul, Int32.reduceToInt] at *; omega)) (by first | omega | decide | (have q1 := hD.1; have q2 := hD.2.1; simp only [Int32.le_iff_toInt_le, Int32.lt_iff_toInt_lt, ti_add, ti_sub, ti_mul, Int32.reduceToInt] at *; omega))
            refine ok_aR (v := q16) hT rfl (by first | omega | decide | (have q1 := hD.1; have q2 := hD.2.1; simp only [Int32.le_iff_toInt_le, Int32.lt_iff_toInt_lt, ti_add, ti_sub, ti_mul, Int32.reduceToInt] at *; omega)) (by first | omega | decide | (have q1 := hD.1; have q2 := hD.2.1; simp only [Int32.le_iff_toInt_le, Int32.lt_iff_toInt_lt, ti_add, ti_sub, ti_mul, Int32.reduceToInt] at *; omega)) eq16 ?_
            refine ok_gR (v := 2) hT rfl hNw ?_
            refine ok_gI0 hT rfl (by decide) ?_
            refine ok_gC rfl ?_
            refine ok_zbT (Q := fun V σ => True) hT (s_X3_weighAll hN (hR.tr hT) kq16) (by decide) (fun v19 σ20 hOσ20 hT hqv19 => ?_)
            have hW2 : WI 2 σ20.1 := WI.tr hOσ20 (by decide) (by decide) (by decide) hW2
            have hW28 : WI 28 σ20.1 := WI.tr hOσ20 (by decide) (by decide) (by decide) hW28
            have hW132 : WI 132 σ20.1 := WI.tr hOσ20 (by decide) (by decide) (by decide) hW132
            have hW158 : WI 158 σ20.1 := WI.tr hOσ20 (by decide) (by decide) (by decide) hW158
            have hW184 : WI 184 σ20.1 := WI.tr hOσ20 (by decide) (by decide) (by decide) hW184
            have hL : SI σ20.1 := SI.tr hOσ20 (by decide) (by decide) (by decide) (by decide) hL
            have hD : RD σ20.1 := RD.tr hOσ20 (by decide) (by decide) (by decide) (by decide) hD
            have hu : 2 ≤ (σ20.1 111 8).toInt ∧ (σ20.1 111 8).toInt ≤ 1600 := by rw [hOσ20.2 111 (by decide)] <;> exact hu
            have ht : 0 ≤ (σ20.1 0 1).toInt ∧ (σ20.1 0 1).toInt ≤ 600 := by rw [hOσ20.2 0 (by decide)] <;> exact ht
            refine ok_if (fun hc21 => ?_) (fun hc21 => ?_)
            · refine ok_gR (v := 120) hT rfl (hR 0 14 rfl) ?_
              refine ok_gC rfl ?_
              refine ok_zbT (Q := fun V σ => True) hT (s_X3_fewest hN (hR.tr hT) ) (fun _ h9 => absurd h9 List.not_mem_nil) (fun v23 σ24 hOσ24 hT hqv23 => ?_)
              have hW2 : WI 2 σ24.1 := WI.tr hOσ24 (by decide) (by decide) (by decide) hW2
              have hW28 : WI 28 σ24.1 := WI.tr hOσ24 (by decide) (by decide) (by decide) hW28
              have hW132 : WI 132 σ24.1 := WI.tr hOσ24 (by decide) (by decide) (by decide) hW132
              have hW158 : WI 158 σ24.1 := WI.tr hOσ24 (by decide) (by decide) (by decide) hW158
              have hW184 : WI 184 σ24.1 := WI.tr hOσ24 (by decide) (by decide) (by decide) hW184
              have hL : SI σ24.1 := SI.tr hOσ24 (by decide) (by decide) (by decide) (by decide) hL
              have hD : RD σ24.1 := RD.tr hOσ24 (by decide) (by decide) (by decide) (by decide) hD
              have hu : 2 ≤ (σ24.1 111 8).toInt ∧ (σ24.1 111 8).toInt ≤ 1600 := by rw [hOσ24.2 111 (by decide)] <;> exact hu
              have ht : 0 ≤ (σ24.1 0 1).toInt ∧ (σ24.1 0 1).toInt ≤ 600 := by rw [hOσ24.2 0 (by decide)] <;> exact ht
              exact ok_some ⟨hT, (show CF σ24.1 from by exact ⟨hW2, hW28, hW132, hW158, hW184, hL, hD, hu, ht⟩)⟩
            · refine ok_gR (v := 120) hT rfl (hR 0 14 rfl) ?_
              refine ok_gC rfl ?_
              refine ok_zbT (Q := fun V σ => True) hT (s_X3_nameAt hN (hR.tr hT) ) (fun _ h9 => absurd h9 List.not_mem_nil) (fun v26 σ27 hOσ27 hT hqv26 => ?_)
              have hW2 : WI 2 σ27.1 := WI.tr hOσ27 (by decide) (by decide) (by decide) hW2
              have hW28 : WI 28 σ27.1 := WI.tr hOσ27 (by decide) (by decide) (by decide) hW28
              have hW132 : WI 132 σ27.1 := WI.tr hOσ27 (by decide) (by decide) (by decide) hW132
              have hW158 : WI 158 σ27.1 := WI.tr hOσ27 (by decide) (by decide) (by decide) hW158
              have hW184 : WI 184 σ27.1 := WI.tr hOσ27 (by decide) (by decide) (by decide) hW184
              have hL : SI σ27.1 := SI.tr hOσ27 (by decide) (by decide) (by decide) (by decide) hL
              have hD : RD σ27.1 := RD.tr hOσ27 (by decide) (by decide) (by decide) (by decide) hD
              have hu : 2 ≤ (σ27.1 111 8).toInt ∧ (σ27.1 111 8).toInt ≤ 1600 := by rw [hOσ27.2 111 (by decide)] <;> exact hu
              have ht : 0 ≤ (σ27.1 0 1).toInt ∧ (σ27.1 0 1).toInt ≤ 600 := by rw [hOσ27.2 0 (by decide)] <;> exact ht
              exact ok_some ⟨hT, (show CF σ27.1 from by exact ⟨hW2, hW28, hW132, hW158, hW184, hL, hD, hu, ht⟩)⟩
          · exact ok_some ⟨hT, (show CF σ2.1 from by exact ⟨hW2, hW28, hW132, hW158, hW184, hL, hD, hu, ht⟩)⟩
        · exact ok_some ⟨hT, (show CF σ2.1 from by exact ⟨hW2, hW28, hW132, hW158, hW184, hL, hD, hu, ht⟩)⟩
      · exact ok_some ⟨hT, (show CF σ2.1 from by exact ⟨hW2, hW28, hW132, hW158, hW184, hL, hD, hu, ht⟩)⟩

set_option maxHeartbeats 4000000 in
set_option maxRecDepth 100000 in
theorem s_X11_sift_n2 {N : Nat} (hN : 1048576 ≤ N) {x1 : Int32} {σ0 : zS}  (hR : RF σ0.2.2) (hNw : σ0.2.2 0 4 = 2) (hPw : σ0.2.2 0 5 = 28) (hC : CF σ0.1) : Ok (f_X11_sift N 0 x1 σ0) (fun r => Tr [6, 111, 112, 113, 114, 115, 116, 117, 118, 119] σ0 r.2 ∧ (CF r.2.1)) := by
  have hT : Tr [6, 111, 112, 113, 114, 115, 116, 117, 118, 119] σ0 σ0 := Tr.rf
  obtain ⟨hW2, hW28, hW132, hW158, hW184, hL, hD, hu, ht⟩ := hC
  have hn := hW2.1
  have he := hW2.2.1
  have hD0 := hD
  have hL0 := hL
  have q10 := ti_one10 (x := σ0.1 2 0) hn.1 hn.2
  rw [f_X11_sift.eq_1]
  refine ok_gC rfl ?_
  refine ok_zbT (Q := fun V σ => (V = 0 ∨ V = 1) ∧ (¬ V = 0 → 0 ≤ x1.toInt ∧ x1.toInt ≤ 9)) hT (s_X11_isRegister_n2 hN (hR.tr hT) ((hT.1.1 0 4 (by decide)).trans hNw) (by first | exact hn | omega | (rw [hT.2 2 (by decide)]; exact hn))) (fun _ h9 => absurd h9 List.not_mem_nil) (fun v1 σ2 hOσ2 hT hqv1 => ?_)
  have hqv1 : (v1 = 0 ∨ v1 = 1) ∧ (¬ v1 = 0 → 0 ≤ x1.toInt ∧ x1.toInt ≤ 9) := hqv1
  have hW2 : WI 2 σ2.1 := WI.tr hOσ2 (by decide) (by decide) (by decide) hW2
  have hW28 : WI 28 σ2.1 := WI.tr hOσ2 (by decide) (by decide) (by decide) hW28
  have hW132 : WI 132 σ2.1 := WI.tr hOσ2 (by decide) (by decide) (by decide) hW132
  have hW158 : WI 158 σ2.1 := WI.tr hOσ2 (by decide) (by decide) (by decide) hW158
  have hW184 : WI 184 σ2.1 := WI.tr hOσ2 (by decide) (by decide) (by decide) hW184
  have hL : SI σ2.1 := SI.tr hOσ2 (by decide) (by decide) (by decide) (by decide) hL
  have hD : RD σ2.1 := RD.tr hOσ2 (by decide) (by decide) (by decide) (by decide) hD
  have hu : 2 ≤ (σ2.1 111 8).toInt ∧ (σ2.1 111 8).toInt ≤ 1600 := by rw [hOσ2.2 111 (by decide)] <;> exact hu
  have ht : 0 ≤ (σ2.1 0 1).toInt ∧ (σ2.1 0 1).toInt ≤ 600 := by rw [hOσ2.2 0 (by decide)] <;> exact ht
  refine ok_if (fun hc3 => ?_) (fun hc3 => ?_)
  · exact ok_some ⟨hT, (show CF σ2.1 from by exact ⟨hW2, hW28, hW132, hW158, hW184, hL, hD, hu, ht⟩)⟩
  · have qhc3 := hqv1.2 hc3
    refine ok_gR (v := 120) hT rfl (hR 0 14 rfl) ?_
    refine ok_gR (v := 2) hT rfl hNw ?_
    refine ok_gR (v := 2) hT rfl hNw ?_
    refine ok_gR (v := 7) hT rfl (hR 2 7 rfl) ?_
    obtain ⟨q9, eq9, kq9⟩ := arrF hR (k := 7) (i := x1) rfl (by first | omega | decide | (have q1 := hD.1; have q2 := hD.2.1; simp only [Int32.le_iff_toInt_le, Int32.lt_iff_toInt_lt, ti_add, ti_sub, ti_mul, Int32.reduceToInt] at *; omega)) (by first | omega | decide | (have q1 := hD.1; have q2 := hD.2.1; simp only [Int32.le_iff_toInt_le, Int32.lt_iff_toInt_lt, ti_add, ti_sub, ti_mul, Int32.reduceToInt] at *; omega))
    refine ok_aR (v := q9) hT rfl (by first | omega | decide | (have q1 := hD.1; have q2 := hD.2.1; simp only [Int32.le_iff_toInt_le, Int32.lt_iff_toInt_lt, ti_add, ti_sub, ti_mul, Int32.reduceToInt] at *; omega)) (by first | omega | decide | (have q1 := hD.1; have q2 := hD.2.1; simp only [Int32.le_iff_toInt_le, Int32.lt_iff_toInt_lt, ti_add, ti_sub, ti_mul, Int32.reduceToInt] at *; omega)) eq9 ?_
    refine ok_gR (v := 111) hT rfl (hR 0 13 rfl) ?_
    refine ok_gC rfl ?_
    refine ok_zbT (Q := fun V σ => 2 ≤ (σ.1 111 8).toInt ∧ (σ.1 111 8).toInt ≤ 1600) hT (s_X3_siftAll_2_111 hN (hR.tr hT) kq9 (hu) (by first | exact hn | omega | (rw [hT.2 2 (by decide)]; exact hn))) (by decide) (fun v11 σ12 hOσ12 hT hqv11 => ?_)
    have hqv11 : 2 ≤ (σ12.1 111 8).toInt ∧ (σ12.1 111 8).toInt ≤ 1600 := hqv11
    have hW2 : WI 2 σ12.1 := WI.tr hOσ12 (by decide) (by decide) (by decide) hW2
    have hW28 : WI 28 σ12.1 := WI.tr hOσ12 (by decide) (by decide) (by decide) hW28
    have hW132 : WI 132 σ12.1 := WI.tr hOσ12 (by decide) (by decide) (by decide) hW132
    have hW158 : WI 158 σ12.1 := WI.tr hOσ12 (by decide) (by decide) (by decide) hW158
    have hW184 : WI 184 σ12.1 := WI.tr hOσ12 (by decide) (by decide) (by decide) hW184
    have hL : SI σ12.1 := SI.tr hOσ12 (by decide) (by decide) (by decide) (by decide) hL
    have hD : RD σ12.1 := RD.tr hOσ12 (by decide) (by decide) (by decide) (by decide) hD
    have hu : 2 ≤ (σ12.1 111 8).toInt ∧ (σ12.1 111 8).toInt ≤ 1600 := hqv11
    have ht : 0 ≤ (σ12.1 0 1).toInt ∧ (σ12.1 0 1).toInt ≤ 600 := by rw [hOσ12.2 0 (by decide)] <;> exact ht
    exact ok_some ⟨hT, (show CF σ12.1 from by exact ⟨hW2, hW28, hW132, hW158, hW184, hL, hD, hu, ht⟩)⟩

set_option maxHeartbeats 4000000 in
set_option maxRecDepth 100000 in
theorem s_X11_map_n2 {N : Nat} (hN : 1048576 ≤ N) {x1 : Int32} {x2 : Int32} {σ0 : zS}  (hR : RF σ0.2.2) (hNw : σ0.2.2 0 4 = 2) (hPw : σ0.2.2 0 5 = 28) (hC : CF σ0.1) : Ok (f_X11_map N 0 x1 x2 σ0) (fun r => Tr [125] σ0 r.2 ∧ (CF r.2.1)) := by
  have hT : Tr [125] σ0 σ0 := Tr.rf
  obtain ⟨hW2, hW28, hW132, hW158, hW184, hL, hD, hu, ht⟩ := hC
  have hn := hW2.1
  have he := hW2.2.1
  have hD0 := hD
  have hL0 := hL
  have q10 := ti_one10 (x := σ0.1 2 0) hn.1 hn.2
  rw [f_X11_map.eq_1]
  refine ok_gC rfl ?_
  refine ok_zbT (Q := fun V σ => (V = 0 ∨ V = 1) ∧ (¬ V = 0 → 0 ≤ x1.toInt ∧ x1.toInt ≤ 9)) hT (s_X11_isRegister_n2 hN (hR.tr hT) ((hT.1.1 0 4 (by decide)).trans hNw) (by first | exact hn | omega | (rw [hT.2 2 (by decide)]; exact hn))) (fun _ h9 => absurd h9 List.not_mem_nil) (fun v1 σ2 hOσ2 hT hqv1 => ?_)
  have hqv1 : (v1 = 0 ∨ v1 = 1) ∧ (¬ v1 = 0 → 0 ≤ x1.toInt ∧ x1.toInt ≤ 9) := hqv1
  have hW2 : WI 2 σ2.1 := WI.tr hOσ2 (by decide) (by decide) (by decide) hW2
  have hW28 : WI 28 σ2.1 := WI.tr hOσ2 (by decide) (by decide) (by decide) hW28
  have hW132 : WI 132 σ2.1 := WI.tr hOσ2 (by decide) (by decide) (by decide) hW132
  have hW158 : WI 158 σ2.1 := WI.tr hOσ2 (by decide) (by decide) (by decide) hW158
  have hW184 : WI 184 σ2.1 := WI.tr hOσ2 (by decide) (by decide) (by decide) hW184
  have hL : SI σ2.1 := SI.tr hOσ2 (by decide) (by decide) (by decide) (by decide) hL
  have hD : RD σ2.1 := RD.tr hOσ2 (by decide) (by decide) (by decide) (by decide) hD
  have hu : 2 ≤ (σ2.1 111 8).toInt ∧ (σ2.1 111 8).toInt ≤ 1600 := by rw [hOσ2.2 111 (by decide)] <;> exact hu
  have ht : 0 ≤ (σ2.1 0 1).toInt ∧ (σ2.1 0 1).toInt ≤ 600 := by rw [hOσ2.2 0 (by decide)] <;> exact ht
  refine ok_if (fun hc3 => ?_) (fun hc3 => ?_)
  · exact ok_some ⟨hT, (show CF σ2.1 from by exact ⟨hW2, hW28, hW132, hW158, hW184, hL, hD, hu, ht⟩)⟩
  · have qhc3 := hqv1.2 hc3
    refine ok_if (fun hc4 => ?_) (fun hc4 => ?_)
    · exact ok_some ⟨hT, (show CF σ2.1 from by exact ⟨hW2, hW28, hW132, hW158, hW184, hL, hD, hu, ht⟩)⟩
    · refine ok_if (fun hc5 => ?_) (fun hc5 => ?_)
      · refine ok_gR (v := 124) hT rfl (hR 0 15 rfl) ?_
        refine ok_gR (v := 2) hT rfl hNw ?_
        refine ok_gR (v := 128) hT rfl (hR 0 17 rfl) ?_
        refine ok_gC rfl ?_
        refine ok_zbT (Q := fun V σ => True) hT (s_X6_findSets_2 hN (hR.tr hT) rfl) (by decide) (fun v9 σ10 hOσ10 hT hqv9 => ?_)
        have hW2 : WI 2 σ10.1 := WI.tr hOσ10 (by decide) (by decide) (by decide) hW2
        have hW28 : WI 28 σ10.1 := WI.tr hOσ10 (by decide) (by decide) (by decide) hW28
        have hW132 : WI 132 σ10.1 := WI.tr hOσ10 (by decide) (by decide) (by decide) hW132
        have hW158 : WI 158 σ10.1 := WI.tr hOσ10 (by decide) (by decide) (by decide) hW158
        have hW184 : WI 184 σ10.1 := WI.tr hOσ10 (by decide) (by decide) (by decide) hW184
        have hL : SI σ10.1 := SI.tr hOσ10 (by decide) (by decide) (by decide) (by decide) hL
        have hD : RD σ10.1 := RD.tr hOσ10 (by decide) (by decide) (by decide) (by decide) hD
        have hu : 2 ≤ (σ10.1 111 8).toInt ∧ (σ10.1 111 8).toInt ≤ 1600 := by rw [hOσ10.2 111 (by decide)] <;> exact hu
        have ht : 0 ≤ (σ10.1 0 1).toInt ∧ (σ10.1 0 1).toInt ≤ 600 := by rw [hOσ10.2 0 (by decide)] <;> exact ht
        refine ok_gC rfl ?_
        refine ok_zbT (Q := fun V σ => True) hT (s_X11_store_n2 hN (hR.tr hT) ((hT.1.1 0 4 (by decide)).trans hNw) (by first | exact hn | omega | (rw [hT.2 2 (by decide)]; exact hn))) (fun _ h9 => absurd h9 List.not_mem_nil) (fun v11 σ12 hOσ12 hT hqv11 => ?_)
        have hW2 : WI 2 σ12.1 := WI.tr hOσ12 (by decide) (by decide) (by decide) hW2
        have hW28 : WI 28 σ12.1 := WI.tr hOσ12 (by decide) (by decide) (by decide) hW28
        have hW132 : WI 132 σ12.1 := WI.tr hOσ12 (by decide) (by decide) (by decide) hW132
        have hW158 : WI 158 σ12.1 := WI.tr hOσ12 (by decide) (by decide) (by decide) hW158
        have hW184 : WI 184 σ12.1 := WI.tr hOσ12 (by decide) (by decide) (by decide) hW184
        have hL : SI σ12.1 := SI.tr hOσ12 (by decide) (by decide) (by decide) (by decide) hL
        have hD : RD σ12.1 := RD.tr hOσ12 (by decide) (by decide) (by decide) (by decide) hD
        have hu : 2 ≤ (σ12.1 111 8).toInt ∧ (σ12.1 111 8).toInt ≤ 1600 := by rw [hOσ12.2 111 (by decide)] <;> exact hu
        have ht : 0 ≤ (σ12.1 0 1).toInt ∧ (σ12.1 0 1).toInt ≤ 600 := by rw [hOσ12.2 0 (by decide)] <;> exact ht
        exact ok_some ⟨hT, (show CF σ12.1 from by exact ⟨hW2, hW28, hW132, hW158, hW184, hL, hD, hu, ht⟩)⟩
      · exact ok_some ⟨hT, (show CF σ2.1 from by exact ⟨hW2, hW28, hW132, hW158, hW184, hL, hD, hu, ht⟩)⟩

set_option maxHeartbeats 4000000 in
set_option maxRecDepth 100000 in
theorem s_X11_count_n2 {N : Nat} (hN : 1048576 ≤ N) {x1 : Int32} {σ0 : zS}  (hR : RF σ0.2.2) (hNw : σ0.2.2 0 4 = 2) (hPw : σ0.2.2 0 5 = 28) (hC : CF σ0.1) : Ok (f_X11_count N 0 x1 σ0) (fun r => Tr [] σ0 r.2 ∧ (CF r.2.1)) := by
  have hT : Tr [] σ0 σ0 := Tr.rf
  obtain ⟨hW2, hW28, hW132, hW158, hW184, hL, hD, hu, ht⟩ := hC
  have hn := hW2.1
  have he := hW2.2.1
  have hD0 := hD
  have hL0 := hL
  have q10 := ti_one10 (x := σ0.1 2 0) hn.1 hn.2
  rw [f_X11_count.eq_1]
  refine ok_if (fun hc1 => ?_) (fun hc1 => ?_)
  · refine ok_gR (v := 2) hT rfl hNw ?_
    refine ok_gI0 hT rfl (by decide) ?_
    exact ok_some ⟨hT, (show CF σ0.1 from by exact ⟨hW2, hW28, hW132, hW158, hW184, hL, hD, hu, ht⟩)⟩
  refine ok_if (fun hc4 => ?_) (fun hc4 => ?_)
  · refine ok_gR (v := 2) hT rfl hNw ?_
    refine ok_gI0 hT rfl (by decide) ?_
    exact ok_some ⟨hT, (show CF σ0.1 from by exact ⟨hW2, hW28, hW132, hW158, hW184, hL, hD, hu, ht⟩)⟩
  refine ok_if (fun hc7 => ?_) (fun hc7 => ?_)
  · refine ok_gR (v := 2) hT rfl hNw ?_
    refine ok_gI0 hT rfl (by decide) ?_
    exact ok_some ⟨hT, (show CF σ0.1 from by exact ⟨hW2, hW28, hW132, hW158, hW184, hL, hD, hu, ht⟩)⟩
  refine ok_if (fun hc10 => ?_) (fun hc10 => ?_)
  · refine ok_gI0 hT rfl (by decide) ?_
    exact ok_some ⟨hT, (show CF σ0.1 from by exact ⟨hW2, hW28, hW132, hW158, hW184, hL, hD, hu, ht⟩)⟩
  refine ok_if (fun hc12 => ?_) (fun hc12 => ?_)
  · refine ok_gR (v := 2) hT rfl hNw ?_
    refine ok_gC rfl ?_
    refine ok_zbT (Q := fun V σ => True) hT (s_X10_filledRegisters_2 hN (hR.tr hT) ) (fun _ h9 => absurd h9 List.not_mem_nil) (fun v14 σ15 hOσ15 hT hqv14 => ?_)
    have hW2 : WI 2 σ15.1 := WI.tr hOσ15 (by decide) (by decide) (by decide) hW2
    have hW28 : WI 28 σ15.1 := WI.tr hOσ15 (by decide) (by decide) (by decide) hW28
    have hW132 : WI 132 σ15.1 := WI.tr hOσ15 (by decide) (by decide) (by decide) hW132
    have hW158 : WI 158 σ15.1 := WI.tr hOσ15 (by decide) (by decide) (by decide) hW158
    have hW184 : WI 184 σ15.1 := WI.tr hOσ15 (by decide) (by decide) (by decide) hW184
    have hL : SI σ15.1 := SI.tr hOσ15 (by decide) (by decide) (by decide) (by decide) hL
    have hD : RD σ15.1 := RD.tr hOσ15 (by decide) (by decide) (by decide) (by decide) hD
    have hu : 2 ≤ (σ15.1 111 8).toInt ∧ (σ15.1 111 8).toInt ≤ 1600 := by rw [hOσ15.2 111 (by decide)] <;> exact hu
    have ht : 0 ≤ (σ15.1 0 1).toInt ∧ (σ15.1 0 1).toInt ≤ 600 := by rw [hOσ15.2 0 (by decide)] <;> exact ht
    exact ok_some ⟨hT, (show CF σ15.1 from by exact ⟨hW2, hW28, hW132, hW158, hW184, hL, hD, hu, ht⟩)⟩
  refine ok_if (fun hc16 => ?_) (fun hc16 => ?_)
  · refine ok_gC rfl ?_
    refine ok_zbT (Q := fun V σ => (V = 0 ∨ V = 1) ∧ (¬ V = 0 → 0 < (σ0.1 2 0).toInt)) hT (s_X11_isWorld_n2 hN (hR.tr hT) ((hT.1.1 0 4 (by decide)).trans hNw) (by first | exact hn | omega | (rw [hT.2 2 (by decide)]; exact hn))) (fun _ h9 => absurd h9 List.not_mem_nil) (fun v17 σ18 hOσ18 hT hqv17 => ?_)
    have hqv17 : (v17 = 0 ∨ v17 = 1) ∧ (¬ v17 = 0 → 0 < (σ0.1 2 0).toInt) := hqv17
    have hW2 : WI 2 σ18.1 := WI.tr hOσ18 (by decide) (by decide) (by decide) hW2
    have hW28 : WI 28 σ18.1 := WI.tr hOσ18 (by decide) (by decide) (by decide) hW28
    have hW132 : WI 132 σ18.1 := WI.tr hOσ18 (by decide) (by decide) (by decide) hW132
    have hW158 : WI 158 σ18.1 := WI.tr hOσ18 (by decide) (by decide) (by decide) hW158
    have hW184 : WI 184 σ18.1 := WI.tr hOσ18 (by decide) (by decide) (by decide) hW184
    have hL : SI σ18.1 := SI.tr hOσ18 (by decide) (by decide) (by decide) (by decide) hL
    have hD : RD σ18.1 := RD.tr hOσ18 (by decide) (by decide) (by decide) (by decide) hD
    have hu : 2 ≤ (σ18.1 111 8).toInt ∧ (σ18.1 111 8).toInt ≤ 1600 := by rw [hOσ18.2 111 (by decide)] <;> exact hu
    have ht : 0 ≤ (σ18.1 0 1).toInt ∧ (σ18.1 0 1).toInt ≤ 600 := by rw [hOσ18.2 0 (by decide)] <;> exact ht
    refine ok_if (fun hc19 => ?_) (fun hc19 => ?_)
    · exact ok_some ⟨hT, (show CF σ18.1 from by exact ⟨hW2, hW28, hW132, hW158, hW184, hL, hD, hu, ht⟩)⟩
    · have qhc19 := hqv17.2 hc19
      refine ok_gR (v := 2) hT rfl hNw ?_
      refine ok_gC rfl ?_
      refine ok_zbT (Q := fun V σ => True) hT (s_X10_unlikeFamilies_2 hN (hR.tr hT) ) (fun _ h9 => absurd h9 List.not_mem_nil) (fun v21 σ22 hOσ22 hT hqv21 => ?_)
      have hW2 : WI 2 σ22.1 := WI.tr hOσ22 (by decide) (by decide) (by decide) hW2
      have hW28 : WI 28 σ22.1 := WI.tr hOσ22 (by decide) (by decide) (by decide) hW28
      have hW132 : WI 132 σ22.1 := WI.tr hOσ22 (by decide) (by decide) (by decide) hW132
      have hW158 : WI 158 σ22.1 := WI.tr hOσ22 (by decide) (by decide) (by decide) hW158
      have hW184 : WI 184 σ22.1 := WI.tr hOσ22 (by decide) (by decide) (by decide) hW184
      have hL : SI σ22.1 := SI.tr hOσ22 (by decide) (by decide) (by decide) (by decide) hL
      have hD : RD σ22.1 := RD.tr hOσ22 (by decide) (by decide) (by decide) (by decide) hD
      have hu : 2 ≤ (σ22.1 111 8).toInt ∧ (σ22.1 111 8).toInt ≤ 1600 := by rw [hOσ22.2 111 (by decide)] <;> exact hu
      have ht : 0 ≤ (σ22.1 0 1).toInt ∧ (σ22.1 0 1).toInt ≤ 600 := by rw [hOσ22.2 0 (by decide)] <;> exact ht
      exact ok_some ⟨hT, (show CF σ22.1 from by exact ⟨hW2, hW28, hW132, hW158, hW184, hL, hD, hu, ht⟩)⟩
  refine ok_if (fun hc23 => ?_) (fun hc23 => ?_)
  · refine ok_gC rfl ?_
    refine ok_zbT (Q := fun V σ => True) hT (s_X11_rowsInSlots hN (hR.tr hT) ) (fun _ h9 => absurd h9 List.not_mem_nil) (fun v24 σ25 hOσ25 hT hqv24 => ?_)
    have hW2 : WI 2 σ25.1 := WI.tr hOσ25 (by decide) (by decide) (by decide) hW2
    have hW28 : WI 28 σ25.1 := WI.tr hOσ25 (by decide) (by decide) (by decide) hW28
    have hW132 : WI 132 σ25.1 := WI.tr hOσ25 (by decide) (by decide) (by decide) hW132
    have hW158 : WI 158 σ25.1 := WI.tr hOσ25 (by decide) (by decide) (by decide) hW158
    have hW184 : WI 184 σ25.1 := WI.tr hOσ25 (by decide) (by decide) (by decide) hW184
    have hL : SI σ25.1 := SI.tr hOσ25 (by decide) (by decide) (by decide) (by decide) hL
    have hD : RD σ25.1 := RD.tr hOσ25 (by decide) (by decide) (by decide) (by decide) hD
    have hu : 2 ≤ (σ25.1 111 8).toInt ∧ (σ25.1 111 8).toInt ≤ 1600 := by rw [hOσ25.2 111 (by decide)] <;> exact hu
    have ht : 0 ≤ (σ25.1 0 1).toInt ∧ (σ25.1 0 1).toInt ≤ 600 := by rw [hOσ25.2 0 (by decide)] <;> exact ht
    exact ok_some ⟨hT, (show CF σ25.1 from by exact ⟨hW2, hW28, hW132, hW158, hW184, hL, hD, hu, ht⟩)⟩
  exact ok_some ⟨hT, (show CF σ0.1 from by exact ⟨hW2, hW28, hW132, hW158, hW184, hL, hD, hu, ht⟩)⟩

set_option maxHeartbeats 4000000 in
set_option maxRecDepth 100000 in
theorem s_X11_level_n2 {N : Nat} (hN : 1048576 ≤ N) {x1 : Int32} {x2 : Int32} {x3 : Int32} {σ0 : zS}  (hR : RF σ0.2.2) (hNw : σ0.2.2 0 4 = 2) (hPw : σ0.2.2 0 5 = 28) (hC : CF σ0.1) : Ok (f_X11_level N 0 x1 x2 x3 σ0) (fun r => Tr [] σ0 r.2 ∧ (CF r.2.1)) := by
  have hT : Tr [] σ0 σ0 := Tr.rf
  obtain ⟨hW2, hW28, hW132, hW158, hW184, hL, hD, hu, ht⟩ := hC
  have hn := hW2.1
  have he := hW2.2.1
  have hD0 := hD
  have hL0 := hL
  have q10 := ti_one10 (x := σ0.1 2 0) hn.1 hn.2
  rw [f_X11_level.eq_1]
  refine ok_gC rfl ?_
  refine ok_zbT (Q := fun V σ => (V = 0 ∨ V = 1) ∧ (¬ V = 0 → 0 ≤ x1.toInt ∧ x1.toInt ≤ 9)) hT (s_X11_isRegister_n2 hN (hR.tr hT) ((hT.1.1 0 4 (by decide)).trans hNw) (by first | exact hn | omega | (rw [hT.2 2 (by decide)]; exact hn))) (fun _ h9 => absurd h9 List.not_mem_nil) (fun v1 σ2 hOσ2 hT hqv1 => ?_)
  have hqv1 : (v1 = 0 ∨ v1 = 1) ∧ (¬ v1 = 0 → 0 ≤ x1.toInt ∧ x1.toInt ≤ 9) := hqv1
  have hW2 : WI 2 σ2.1 := WI.tr hOσ2 (by decide) (by decide) (by decide) hW2
  have hW28 : WI 28 σ2.1 := WI.tr hOσ2 (by decide) (by decide) (by decide) hW28
  have hW132 : WI 132 σ2.1 := WI.tr hOσ2 (by decide) (by decide) (by decide) hW132
  have hW158 : WI 158 σ2.1 := WI.tr hOσ2 (by decide) (by decide) (by decide) hW158
  have hW184 : WI 184 σ2.1 := WI.tr hOσ2 (by decide) (by decide) (by decide) hW184
  have hL : SI σ2.1 := SI.tr hOσ2 (by decide) (by decide) (by decide) (by decide) hL
  have hD : RD σ2.1 := RD.tr hOσ2 (by decide) (by decide) (by decide) (by decide) hD
  have hu : 2 ≤ (σ2.1 111 8).toInt ∧ (σ2.1 111 8).toInt ≤ 1600 := by rw [hOσ2.2 111 (by decide)] <;> exact hu
  have ht : 0 ≤ (σ2.1 0 1).toInt ∧ (σ2.1 0 1).toInt ≤ 600 := by rw [hOσ2.2 0 (by decide)] <;> exact ht
  refine ok_if (fun hc3 => ?_) (fun hc3 => ?_)
  · exact ok_some ⟨hT, (show CF σ2.1 from by exact ⟨hW2, hW28, hW132, hW158, hW184, hL, hD, hu, ht⟩)⟩
  · have qhc3 := hqv1.2 hc3
    refine ok_gC rfl ?_
    refine ok_zbT (Q := fun V σ => (V = 0 ∨ V = 1) ∧ (¬ V = 0 → 0 ≤ x2.toInt ∧ x2.toInt ≤ 9)) hT (s_X11_isRegister_n2 hN (hR.tr hT) ((hT.1.1 0 4 (by decide)).trans hNw) (by first | exact hn | omega | (rw [hT.2 2 (by decide)]; exact hn))) (fun _ h9 => absurd h9 List.not_mem_nil) (fun v4 σ5 hOσ5 hT hqv4 => ?_)
    have hqv4 : (v4 = 0 ∨ v4 = 1) ∧ (¬ v4 = 0 → 0 ≤ x2.toInt ∧ x2.toInt ≤ 9) := hqv4
    have hW2 : WI 2 σ5.1 := WI.tr hOσ5 (by decide) (by decide) (by decide) hW2
    have hW28 : WI 28 σ5.1 := WI.tr hOσ5 (by decide) (by decide) (by decide) hW28
    have hW132 : WI 132 σ5.1 := WI.tr hOσ5 (by decide) (by decide) (by decide) hW132
    have hW158 : WI 158 σ5.1 := WI.tr hOσ5 (by decide) (by decide) (by decide) hW158
    have hW184 : WI 184 σ5.1 := WI.tr hOσ5 (by decide) (by decide) (by decide) hW184
    have hL : SI σ5.1 := SI.tr hOσ5 (by decide) (by decide) (by decide) (by decide) hL
    have hD : RD σ5.1 := RD.tr hOσ5 (by decide) (by decide) (by decide) (by decide) hD
    have hu : 2 ≤ (σ5.1 111 8).toInt ∧ (σ5.1 111 8).toInt ≤ 1600 := by rw [hOσ5.2 111 (by decide)] <;> exact hu
    have ht : 0 ≤ (σ5.1 0 1).toInt ∧ (σ5.1 0 1).toInt ≤ 600 := by rw [hOσ5.2 0 (by decide)] <;> exact ht
    refine ok_if (fun hc6 => ?_) (fun hc6 => ?_)
    · exact ok_some ⟨hT, (show CF σ5.1 from by exact ⟨hW2, hW28, hW132, hW158, hW184, hL, hD, hu, ht⟩)⟩
    · have qhc6 := hqv4.2 hc6
      refine ok_if (fun hc7 => ?_) (fun hc7 => ?_)
      · exact ok_some ⟨hT, (show CF σ5.1 from by exact ⟨hW2, hW28, hW132, hW158, hW184, hL, hD, hu, ht⟩)⟩
      · refine ok_if (fun hc8 => ?_) (fun hc8 => ?_)
        · refine ok_gR (v := 2) hT rfl hNw ?_
          refine ok_gR (v := 7) hT rfl (hR 2 7 rfl) ?_
          obtain ⟨q12, eq12, kq12⟩ := arrF hR (k := 7) (i := x2) rfl (by first | omega | decide | (have q1 := hD.1; have q2 := hD.2.1; simp only [Int32.le_iff_toInt_le, Int32.lt_iff_toInt_lt, ti_add, ti_sub, ti_mul, Int32.reduceToInt] at *; omega)) (by first | omega | decide | (have q1 := hD.1; have q2 := hD.2.1; simp only [Int32.le_iff_toInt_le, Int32.lt_iff_toInt_lt, ti_add, ti_sub, ti_mul, Int32.reduceToInt] at *; omega))
          refine ok_aR (v := q12) hT rfl (by first | omega | decide | (have q1 := hD.1; have q2 := hD.2.1; simp only [Int32.le_iff_toInt_le, Int32.lt_iff_toInt_lt, ti_add, ti_sub, ti_mul, Int32.reduceToInt] at *; omega)) (by first | omega | decide | (have q1 := hD.1; have q2 := hD.2.1; simp only [Int32.le_iff_toInt_le, Int32.lt_iff_toInt_lt, ti_add, ti_sub, ti_mul, Int32.reduceToInt] at *; omega)) eq12 ?_
          refine ok_gR (v := 128) hT rfl (hR 0 17 rfl) ?_
          refine ok_gC rfl ?_
          refine ok_zbT (Q := fun V σ => True) hT (s_X2_clear hN (hR.tr hT) rfl) (fun _ h9 => absurd h9 List.not_mem_nil) (fun v14 σ15 hOσ15 hT hqv14 => ?_)
          have hW2 : WI 2 σ15.1 := WI.tr hOσ15 (by decide) (by decide) (by decide) hW2
          have hW28 : WI 28 σ15.1 := WI.tr hOσ15 (by decide) (by decide) (by decide) hW28
          have hW132 : WI 132 σ15.1 := WI.tr hOσ15 (by decide) (by decide) (by decide) hW132
          have hW158 : WI 158 σ15.1 := WI.tr hOσ15 (by decide) (by decide) (by decide) hW158
          have hW184 : WI 184 σ15.1 := WI.tr hOσ15 (by decide) (by decide) (by decide) hW184
          have hL : SI σ15.1 := SI.tr hOσ15 (by decide) (by decide) (by decide) (by decide) hL
          have hD : RD σ15.1 := RD.tr hOσ15 (by decide) (by decide) (by decide) (by decide) hD
          have hu : 2 ≤ (σ15.1 111 8).toInt ∧ (σ15.1 111 8).toInt ≤ 1600 := by rw [hOσ15.2 111 (by decide)] <;> exact hu
          have ht : 0 ≤ (σ15.1 0 1).toInt ∧ (σ15.1 0 1).toInt ≤ 600 := by rw [hOσ15.2 0 (by decide)] <;> exact ht
          refine ok_lp (fun t : Int32 × zS => Tr [] σ0 (t.2) ∧ (0 ≤ (t.1).toInt) ∧ (WI 2 (t.2).1) ∧ (WI 28 (t.2).1) ∧ (WI 132 (t.2).1) ∧ (WI 158 (t.2).1) ∧ (WI 184 (t.2).1) ∧ (SI (t.2).1) ∧ (RD (t.2).1) ∧ (2 ≤ ((t.2).1 111 8).toInt ∧ ((t.2).1 111 8).toInt ≤ 1600) ∧ (0 ≤ ((t.2).1 0 1).toInt ∧ ((t.2).1 0 1).toInt ≤ 600)) (fun t : Int32 × zS => (((1 : Int32) <<< ((σ0.1 2 0) &&& 31)).toInt - (t.1).toInt).toNat) (fun again16 t hI ih50_16 => ?_) N _ (show Tr [] σ0 σ15 ∧ (0 ≤ (0 : Int32).toInt) ∧ (WI 2 σ15.1) ∧ (WI 28 σ15.1) ∧ (WI 132 σ15.1) ∧ (WI 158 σ15.1) ∧ (WI 184 σ15.1) ∧ (SI σ15.1) ∧ (RD σ15.1) ∧ (2 ≤ (σ15.1 111 8).toInt ∧ (σ15.1 111 8).toInt ≤ 1600) ∧ (0 ≤ (σ15.1 0 1).toInt ∧ (σ15.1 0 1).toInt ≤ 600) from ⟨hT, (by first | omega | decide | (have q1 := hD.1; have q2 := hD.2.1; simp only [Int32.le_iff_toInt_le, Int32.lt_iff_toInt_lt, ti_add, ti_sub, ti_mul, Int32.reduceToInt] at *; omega)), hW2, hW28, hW132, hW158, hW184, hL, hD, hu, ht⟩) (show (((1 : Int32) <<< ((σ0.1 2 0) &&& 31)).toInt - (0 : Int32).toInt).toNat < N from (by first | omega | decide | (have q1 := hD.1; have q2 := hD.2.1; simp only [Int32.le_iff_toInt_le, Int32.lt_iff_toInt_lt, ti_add, ti_sub, ti_mul, Int32.reduceToInt] at *; omega)))
          obtain ⟨x5_16, σ16⟩ := t
          have hI : Tr [] σ0 σ16 ∧ (0 ≤ x5_16.toInt) ∧ (WI 2 σ16.1) ∧ (WI 28 σ16.1) ∧ (WI 132 σ16.1) ∧ (WI 158 σ16.1) ∧ (WI 184 σ16.1) ∧ (SI σ16.1) ∧ (RD σ16.1) ∧ (2 ≤ (σ16.1 111 8).toInt ∧ (σ16.1 111 8).toInt ≤ 1600) ∧ (0 ≤ (σ16.1 0 1).toInt ∧ (σ16.1 0 1).toInt ≤ 600) := hI
          obtain ⟨hT, hI16, hW2, hW28, hW132, hW158, hW184, hL, hD, hu, ht⟩ := hI
          rw [F_X11_level_50.eq_1]
          refine ok_gR (v := 2) hT rfl hNw ?_
          refine ok_gI0 hT rfl (by decide) ?_
          refine ok_if (fun hc19 => ?_) (fun hc19 => ?_)
          · refine ok_gC rfl ?_
            refine ok_zbT (Q := fun V σ => True) hT (s_X11_store_n2 hN (hR.tr hT) ((hT.1.1 0 4 (by decide)).trans hNw) (by first | exact hn | omega | (rw [hT.2 2 (by decide)]; exact hn))) (fun _ h9 => absurd h9 List.not_mem_nil) (fun v20 σ21 hOσ21 hT hqv20 => ?_)
            have hW2 : WI 2 σ21.1 := WI.tr hOσ21 (by decide) (by decide) (by decide) hW2
            have hW28 : WI 28 σ21.1 := WI.tr hOσ21 (by decide) (by decide) (by decide) hW28
            have hW132 : WI 132 σ21.1 := WI.tr hOσ21 (by decide) (by decide) (by decide) hW132
            have hW158 : WI 158 σ21.1 := WI.tr hOσ21 (by decide) (by decide) (by decide) hW158
            have hW184 : WI 184 σ21.1 := WI.tr hOσ21 (by decide) (by decide) (by decide) hW184
            have hL : SI σ21.1 := SI.tr hOσ21 (by decide) (by decide) (by decide) (by decide) hL
            have hD : RD σ21.1 := RD.tr hOσ21 (by decide) (by decide) (by decide) (by decide) hD
            have hu : 2 ≤ (σ21.1 111 8).toInt ∧ (σ21.1 111 8).toInt ≤ 1600 := by rw [hOσ21.2 111 (by decide)] <;> exact hu
            have ht : 0 ≤ (σ21.1 0 1).toInt ∧ (σ21.1 0 1).toInt ≤ 600 := by rw [hOσ21.2 0 (by decide)] <;> exact ht
            exact ok_some ⟨hT, (show CF σ21.1 from by exact ⟨hW2, hW28, hW132, hW158, hW184, hL, hD, hu, ht⟩)⟩
          · refine ok_zbT (Q := fun V σ => True) hT (s_J6_bitCount_0f7a4 hN (hR.tr hT) ) (fun _ h9 => absurd h9 List.not_mem_nil) (fun v22 σ23 hOσ23 hT hqv22 => ?_)
            have hW2 : WI 2 σ23.1 := WI.tr hOσ23 (by decide) (by decide) (by decide) hW2
            have hW28 : WI 28 σ23.1 := WI.tr hOσ23 (by decide) (by decide) (by decide) hW28
            have hW132 : WI 132 σ23.1 := WI.tr hOσ23 (by decide) (by decide) (by decide) hW132
            have hW158 : WI 158 σ23.1 := WI.tr hOσ23 (by decide) (by decide) (by decide) hW158
            have hW184 : WI 184 σ23.1 := WI.tr hOσ23 (by decide) (by decide) (by decide) hW184
            have hL : SI σ23.1 := SI.tr hOσ23 (by decide) (by decide) (by decide) (by decide) hL
            have hD : RD σ23.1 := RD.tr hOσ23 (by decide) (by decide) (by decide) (by decide) hD
            have hu : 2 ≤ (σ23.1 111 8).toInt ∧ (σ23.1 111 8).toInt ≤ 1600 := by rw [hOσ23.2 111 (by decide)] <;> exact hu
            have ht : 0 ≤ (σ23.1 0 1).toInt ∧ (σ23.1 0 1).toInt ≤ 600 := by rw [hOσ23.2 0 (by decide)] <;> exact ht
            refine ok_if (fun hc24 => ?_) (fun hc24 => ?_)
            · refine ok_gC kq12 ?_
              refine ok_zbT (Q := fun V σ => V = 0 ∨ V = 1) hT (s_X2_holds hN (hR.tr hT) kq12) (fun _ h9 => absurd h9 List.not_mem_nil) (fun v25 σ26 hOσ26 hT hqv25 => ?_)
              have hqv25 : v25 = 0 ∨ v25 = 1 := hqv25
              have hW2 : WI 2 σ26.1 := WI.tr hOσ26 (by decide) (by decide) (by decide) hW2
              have hW28 : WI 28 σ26.1 := WI.tr hOσ26 (by decide) (by decide) (by decide) hW28
              have hW132 : WI 132 σ26.1 := WI.tr hOσ26 (by decide) (by decide) (by decide) hW132
              have hW158 : WI 158 σ26.1 := WI.tr hOσ26 (by decide) (by decide) (by decide) hW158
              have hW184 : WI 184 σ26.1 := WI.tr hOσ26 (by decide) (by decide) (by decide) hW184
              have hL : SI σ26.1 := SI.tr hOσ26 (by decide) (by decide) (by decide) (by decide) hL
              have hD : RD σ26.1 := RD.tr hOσ26 (by decide) (by decide) (by decide) (by decide) hD
              have hu : 2 ≤ (σ26.1 111 8).toInt ∧ (σ26.1 111 8).toInt ≤ 1600 := by rw [hOσ26.2 111 (by decide)] <;> exact hu
              have ht : 0 ≤ (σ26.1 0 1).toInt ∧ (σ26.1 0 1).toInt ≤ 600 := by rw [hOσ26.2 0 (by decide)] <;> exact ht
              refine ok_if (fun hc27 => ?_) (fun hc27 => ?_)
              · exact ih50_16 (x5_16 + 1, σ26) (show Tr [] σ0 σ26 ∧ (0 ≤ (x5_16 + 1).toInt) ∧ (WI 2 σ26.1) ∧ (WI 28 σ26.1) ∧ (WI 132 σ26.1) ∧ (WI 158 σ26.1) ∧ (WI 184 σ26.1) ∧ (SI σ26.1) ∧ (RD σ26.1) ∧ (2 ≤ (σ26.1 111 8).toInt ∧ (σ26.1 111 8).toInt ≤ 1600) ∧ (0 ≤ (σ26.1 0 1).toInt ∧ (σ26.1 0 1).toInt ≤ 600) from ⟨hT, (by first | omega | decide | (have q1 := hD.1; have q2 := hD.2.1; simp only [Int32.le_iff_toInt_le, Int32.lt_iff_toInt_lt, ti_add, ti_sub, ti_mul, Int32.reduceToInt] at *; omega)), hW2, hW28, hW132, hW158, hW184, hL, hD, hu, ht⟩) (show (((1 : Int32) <<< ((σ0.1 2 0) &&& 31)).toInt - (x5_16 + 1).toInt).toNat < (((1 : Int32) <<< ((σ0.1 2 0) &&& 31)).toInt - x5_16.toInt).toNat from (by first | omega | decide | (have q1 := hD.1; have q2 := hD.2.1; simp only [Int32.le_iff_toInt_le, Int32.lt_iff_toInt_lt, ti_add, ti_sub, ti_mul, Int32.reduceToInt] at *; omega)))
              · refine ok_gR (v := 128) hT rfl (hR 0 17 rfl) ?_
                refine ok_gC rfl ?_
                refine ok_zbT (Q := fun V σ => True) hT (s_X2_include hN (hR.tr hT) rfl) (fun _ h9 => absurd h9 List.not_mem_nil) (fun v29 σ30 hOσ30 hT hqv29 => ?_)
                have hW2 : WI 2 σ30.1 := WI.tr hOσ30 (by decide) (by decide) (by decide) hW2
                have hW28 : WI 28 σ30.1 := WI.tr hOσ30 (by decide) (by decide) (by decide) hW28
                have hW132 : WI 132 σ30.1 := WI.tr hOσ30 (by decide) (by decide) (by decide) hW132
                have hW158 : WI 158 σ30.1 := WI.tr hOσ30 (by decide) (by decide) (by decide) hW158
                have hW184 : WI 184 σ30.1 := WI.tr hOσ30 (by decide) (by decide) (by decide) hW184
                have hL : SI σ30.1 := SI.tr hOσ30 (by decide) (by decide) (by decide) (by decide) hL
                have hD : RD σ30.1 := RD.tr hOσ30 (by decide) (by decide) (by decide) (by decide) hD
                have hu : 2 ≤ (σ30.1 111 8).toInt ∧ (σ30.1 111 8).toInt ≤ 1600 := by rw [hOσ30.2 111 (by decide)] <;> exact hu
                have ht : 0 ≤ (σ30.1 0 1).toInt ∧ (σ30.1 0 1).toInt ≤ 600 := by rw [hOσ30.2 0 (by decide)] <;> exact ht
                exact ih50_16 (x5_16 + 1, σ30) (show Tr [] σ0 σ30 ∧ (0 ≤ (x5_16 + 1).toInt) ∧ (WI 2 σ30.1) ∧ (WI 28 σ30.1) ∧ (WI 132 σ30.1) ∧ (WI 158 σ30.1) ∧ (WI 184 σ30.1) ∧ (SI σ30.1) ∧ (RD σ30.1) ∧ (2 ≤ (σ30.1 111 8).toInt ∧ (σ30.1 111 8).toInt ≤ 1600) ∧ (0 ≤ (σ30.1 0 1).toInt ∧ (σ30.1 0 1).toInt ≤ 600) from ⟨hT, (by first | omega | decide | (have q1 := hD.1; have q2 := hD.2.1; simp only [Int32.le_iff_toInt_le, Int32.lt_iff_toInt_lt, ti_add, ti_sub, ti_mul, Int32.reduceToInt] at *; omega)), hW2, hW28, hW132, hW158, hW184, hL, hD, hu, ht⟩) (show (((1 : Int32) <<< ((σ0.1 2 0) &&& 31)).toInt - (x5_16 + 1).toInt).toNat < (((1 : Int32) <<< ((σ0.1 2 0) &&& 31)).toInt - x5_16.toInt).toNat from (by first | omega | decide | (have q1 := hD.1; have q2 := hD.2.1; simp only [Int32.le_iff_toInt_le, Int32.lt_iff_toInt_lt, ti_add, ti_sub, ti_mul, Int32.reduceToInt] at *; omega)))
            · exact ih50_16 (x5_16 + 1, σ23) (show Tr [] σ0 σ23 ∧ (0 ≤ (x5_16 + 1).toInt) ∧ (WI 2 σ23.1) ∧ (WI 28 σ23.1) ∧ (WI 132 σ23.1) ∧ (WI 158 σ23.1) ∧ (WI 184 σ23.1) ∧ (SI σ23.1) ∧ (RD σ23.1) ∧ (2 ≤ (σ23.1 111 8).toInt ∧ (σ23.1 111 8).toInt ≤ 1600) ∧ (0 ≤ (σ23.1 0 1).toInt ∧ (σ23.1 0 1).toInt ≤ 600) from ⟨hT, (by first | omega | decide | (have q1 := hD.1; have q2 := hD.2.1; simp only [Int32.le_iff_toInt_le, Int32.lt_iff_toInt_lt, ti_add, ti_sub, ti_mul, Int32.reduceToInt] at *; omega)), hW2, hW28, hW132, hW158, hW184, hL, hD, hu, ht⟩) (show (((1 : Int32) <<< ((σ0.1 2 0) &&& 31)).toInt - (x5_16 + 1).toInt).toNat < (((1 : Int32) <<< ((σ0.1 2 0) &&& 31)).toInt - x5_16.toInt).toNat from (by first | omega | decide | (have q1 := hD.1; have q2 := hD.2.1; simp only [Int32.le_iff_toInt_le, Int32.lt_iff_toInt_lt, ti_add, ti_sub, ti_mul, Int32.reduceToInt] at *; omega)))
        · exact ok_some ⟨hT, (show CF σ5.1 from by exact ⟨hW2, hW28, hW132, hW158, hW184, hL, hD, hu, ht⟩)⟩

set_option maxHeartbeats 4000000 in
set_option maxRecDepth 100000 in
theorem s_X11_names_n2 {N : Nat} (hN : 1048576 ≤ N) {x1 : Int32} {x2 : Int32} {σ0 : zS}  (hR : RF σ0.2.2) (hNw : σ0.2.2 0 4 = 2) (hPw : σ0.2.2 0 5 = 28) (hC : CF σ0.1) : Ok (f_X11_names N 0 x1 x2 σ0) (fun r => Tr [] σ0 r.2 ∧ (CF r.2.1)) := by
  have hT : Tr [] σ0 σ0 := Tr.rf
  obtain ⟨hW2, hW28, hW132, hW158, hW184, hL, hD, hu, ht⟩ := hC
  have hn := hW2.1
  have he := hW2.2.1
  have hD0 := hD
  have hL0 := hL
  have q10 := ti_one10 (x := σ0.1 2 0) hn.1 hn.2
  rw [f_X11_names.eq_1]
  refine ok_gC rfl ?_
  refine ok_zbT (Q := fun V σ => (V = 0 ∨ V = 1) ∧ (¬ V = 0 → 0 ≤ x1.toInt ∧ x1.toInt ≤ 9)) hT (s_X11_isRegister_n2 hN (hR.tr hT) ((hT.1.1 0 4 (by decide)).trans hNw) (by first | exact hn | omega | (rw [hT.2 2 (by decide)]; exact hn))) (fun _ h9 => absurd h9 List.not_mem_nil) (fun v1 σ2 hOσ2 hT hqv1 => ?_)
  have hqv1 : (v1 = 0 ∨ v1 = 1) ∧ (¬ v1 = 0 → 0 ≤ x1.toInt ∧ x1.toInt ≤ 9) := hqv1
  have hW2 : WI 2 σ2.1 := WI.tr hOσ2 (by decide) (by decide) (by decide) hW2
  have hW28 : WI 28 σ2.1 := WI.tr hOσ2 (by decide) (by decide) (by decide) hW28
  have hW132 : WI 132 σ2.1 := WI.tr hOσ2 (by decide) (by decide) (by decide) hW132
  have hW158 : WI 158 σ2.1 := WI.tr hOσ2 (by decide) (by decide) (by decide) hW158
  have hW184 : WI 184 σ2.1 := WI.tr hOσ2 (by decide) (by decide) (by decide) hW184
  have hL : SI σ2.1 := SI.tr hOσ2 (by decide) (by decide) (by decide) (by decide) hL
  have hD : RD σ2.1 := RD.tr hOσ2 (by decide) (by decide) (by decide) (by decide) hD
  have hu : 2 ≤ (σ2.1 111 8).toInt ∧ (σ2.1 111 8).toInt ≤ 1600 := by rw [hOσ2.2 111 (by decide)] <;> exact hu
  have ht : 0 ≤ (σ2.1 0 1).toInt ∧ (σ2.1 0 1).toInt ≤ 600 := by rw [hOσ2.2 0 (by decide)] <;> exact ht
  refine ok_if (fun hc3 => ?_) (fun hc3 => ?_)
  · exact ok_some ⟨hT, (show CF σ2.1 from by exact ⟨hW2, hW28, hW132, hW158, hW184, hL, hD, hu, ht⟩)⟩
  · have qhc3 := hqv1.2 hc3
    refine ok_if (fun hc4 => ?_) (fun hc4 => ?_)
    · exact ok_some ⟨hT, (show CF σ2.1 from by exact ⟨hW2, hW28, hW132, hW158, hW184, hL, hD, hu, ht⟩)⟩
    · refine ok_if (fun hc5 => ?_) (fun hc5 => ?_)
      · refine ok_gR (v := 2) hT rfl hNw ?_
        refine ok_gR (v := 7) hT rfl (hR 2 7 rfl) ?_
        obtain ⟨q9, eq9, kq9⟩ := arrF hR (k := 7) (i := x1) rfl (by first | omega | decide | (have q1 := hD.1; have q2 := hD.2.1; simp only [Int32.le_iff_toInt_le, Int32.lt_iff_toInt_lt, ti_add, ti_sub, ti_mul, Int32.reduceToInt] at *; omega)) (by first | omega | decide | (have q1 := hD.1; have q2 := hD.2.1; simp only [Int32.le_iff_toInt_le, Int32.lt_iff_toInt_lt, ti_add, ti_sub, ti_mul, Int32.reduceToInt] at *; omega))
        refine ok_aR (v := q9) hT rfl (by first | omega | decide | (have q1 := hD.1; have q2 := hD.2.1; simp only [Int32.le_iff_toInt_le, Int32.lt_iff_toInt_lt, ti_add, ti_sub, ti_mul, Int32.reduceToInt] at *; omega)) (by first | omega | decide | (have q1 := hD.1; have q2 := hD.2.1; simp only [Int32.le_iff_toInt_le, Int32.lt_iff_toInt_lt, ti_add, ti_sub, ti_mul, Int32.reduceToInt] at *; omega)) eq9 ?_
        refine ok_lp (fun t : Int32 × Int32 × zS => Tr [] σ0 (t.2.2) ∧ (0 ≤ (t.2.1).toInt) ∧ (WI 2 (t.2.2).1) ∧ (WI 28 (t.2.2).1) ∧ (WI 132 (t.2.2).1) ∧ (WI 158 (t.2.2).1) ∧ (WI 184 (t.2.2).1) ∧ (SI (t.2.2).1) ∧ (RD (t.2.2).1) ∧ (2 ≤ ((t.2.2).1 111 8).toInt ∧ ((t.2.2).1 111 8).toInt ≤ 1600) ∧ (0 ≤ ((t.2.2).1 0 1).toInt ∧ ((t.2.2).1 0 1).toInt ≤ 600)) (fun t : Int32 × Int32 × zS => ((σ0.1 2 0).toInt - (t.2.1).toInt).toNat) (fun again10 t hI ih36_10 => ?_) N _ (show Tr [] σ0 σ2 ∧ (0 ≤ (0 : Int32).toInt) ∧ (WI 2 σ2.1) ∧ (WI 28 σ2.1) ∧ (WI 132 σ2.1) ∧ (WI 158 σ2.1) ∧ (WI 184 σ2.1) ∧ (SI σ2.1) ∧ (RD σ2.1) ∧ (2 ≤ (σ2.1 111 8).toInt ∧ (σ2.1 111 8).toInt ≤ 1600) ∧ (0 ≤ (σ2.1 0 1).toInt ∧ (σ2.1 0 1).toInt ≤ 600) from ⟨hT, (by first | omega | decide | (have q1 := hD.1; have q2 := hD.2.1; simp only [Int32.le_iff_toInt_le, Int32.lt_iff_toInt_lt, ti_add, ti_sub, ti_mul, Int32.reduceToInt] at *; omega)), hW2, hW28, hW132, hW158, hW184, hL, hD, hu, ht⟩) (show ((σ0.1 2 0).toInt - (0 : Int32).toInt).toNat < N from (by first | omega | decide | (have q1 := hD.1; have q2 := hD.2.1; simp only [Int32.le_iff_toInt_le, Int32.lt_iff_toInt_lt, ti_add, ti_sub, ti_mul, Int32.reduceToInt] at *; omega)))
        obtain ⟨x4_10, x5_10, σ10⟩ := t
        have hI : Tr [] σ0 σ10 ∧ (0 ≤ x5_10.toInt) ∧ (WI 2 σ10.1) ∧ (WI 28 σ10.1) ∧ (WI 132 σ10.1) ∧ (WI 158 σ10.1) ∧ (WI 184 σ10.1) ∧ (SI σ10.1) ∧ (RD σ10.1) ∧ (2 ≤ (σ10.1 111 8).toInt ∧ (σ10.1 111 8).toInt ≤ 1600) ∧ (0 ≤ (σ10.1 0 1).toInt ∧ (σ10.1 0 1).toInt ≤ 600) := hI
        obtain ⟨hT, hI10, hW2, hW28, hW132, hW158, hW184, hL, hD, hu, ht⟩ := hI
        rw [F_X11_names_36.eq_1]
        refine ok_gR (v := 2) hT rfl hNw ?_
        refine ok_gI0 hT rfl (by decide) ?_
        refine ok_if (fun hc13 => ?_) (fun hc13 => ?_)
        · exact ok_some ⟨hT, (show CF σ10.1 from by exact ⟨hW2, hW28, hW132, hW158, hW184, hL, hD, hu, ht⟩)⟩
        · refine ok_gC rfl ?_
          refine ok_zbT (Q := fun V σ => V = 0 ∨ V = 1) hT (s_X11_isFoundName hN (hR.tr hT) kq9) (fun _ h9 => absurd h9 List.not_mem_nil) (fun v14 σ15 hOσ15 hT hqv14 => ?_)
          have hqv14 : v14 = 0 ∨ v14 = 1 := hqv14
          have hW2 : WI 2 σ15.1 := WI.tr hOσ15 (by decide) (by decide) (by decide) hW2
          have hW28 : WI 28 σ15.1 := WI.tr hOσ15 (by decide) (by decide) (by decide) hW28
          have hW132 : WI 132 σ15.1 := WI.tr hOσ15 (by decide) (by decide) (by decide) hW132
          have hW158 : WI 158 σ15.1 := WI.tr hOσ15 (by decide) (by decide) (by decide) hW158
          have hW184 : WI 184 σ15.1 := WI.tr hOσ15 (by decide) (by decide) (by decide) hW184
          have hL : SI σ15.1 := SI.tr hOσ15 (by decide) (by decide) (by decide) (by decide) hL
          have hD : RD σ15.1 := RD.tr hOσ15 (by decide) (by decide) (by decide) (by decide) hD
          have hu : 2 ≤ (σ15.1 111 8).toInt ∧ (σ15.1 111 8).toInt ≤ 1600 := by rw [hOσ15.2 111 (by decide)] <;> exact hu
          have ht : 0 ≤ (σ15.1 0 1).toInt ∧ (σ15.1 0 1).toInt ≤ 600 := by rw [hOσ15.2 0 (by decide)] <;> exact ht
          refine ok_if (fun hc16 => ?_) (fun hc16 => ?_)
          · exact ih36_10 (x4_10, x5_10 + 1, σ15) (show Tr [] σ0 σ15 ∧ (0 ≤ (x5_10 + 1).toInt) ∧ (WI 2 σ15.1) ∧ (WI 28 σ15.1) ∧ (WI 132 σ15.1) ∧ (WI 158 σ15.1) ∧ (WI 184 σ15.1) ∧ (SI σ15.1) ∧ (RD σ15.1) ∧ (2 ≤ (σ15.1 111 8).toInt ∧ (σ15.1 111 8).toInt ≤ 1600) ∧ (0 ≤ (σ15.1 0 1).toInt ∧ (σ15.1 0 1).toInt ≤ 600) from ⟨hT, (by first | omega | decide | (have q1 := hD.1; have q2 := hD.2.1; simp only [Int32.le_iff_toInt_le, Int32.lt_iff_toInt_lt, ti_add, ti_sub, ti_mul, Int32.reduceToInt] at *; omega)), hW2, hW28, hW132, hW158, hW184, hL, hD, hu, ht⟩) (show ((σ0.1 2 0).toInt - (x5_10 + 1).toInt).toNat < ((σ0.1 2 0).toInt - x5_10.toInt).toNat from (by first | omega | decide | (have q1 := hD.1; have q2 := hD.2.1; simp only [Int32.le_iff_toInt_le, Int32.lt_iff_toInt_lt, ti_add, ti_sub, ti_mul, Int32.reduceToInt] at *; omega)))
          · exact ih36_10 (x4_10 ||| ((1 : Int32) <<< (x5_10 &&& 31)), x5_10 + 1, σ15) (show Tr [] σ0 σ15 ∧ (0 ≤ (x5_10 + 1).toInt) ∧ (WI 2 σ15.1) ∧ (WI 28 σ15.1) ∧ (WI 132 σ15.1) ∧ (WI 158 σ15.1) ∧ (WI 184 σ15.1) ∧ (SI σ15.1) ∧ (RD σ15.1) ∧ (2 ≤ (σ15.1 111 8).toInt ∧ (σ15.1 111 8).toInt ≤ 1600) ∧ (0 ≤ (σ15.1 0 1).toInt ∧ (σ15.1 0 1).toInt ≤ 600) from ⟨hT, (by first | omega | decide | (have q1 := hD.1; have q2 := hD.2.1; simp only [Int32.le_iff_toInt_le, Int32.lt_iff_toInt_lt, ti_add, ti_sub, ti_mul, Int32.reduceToInt] at *; omega)), hW2, hW28, hW132, hW158, hW184, hL, hD, hu, ht⟩) (show ((σ0.1 2 0).toInt - (x5_10 + 1).toInt).toNat < ((σ0.1 2 0).toInt - x5_10.toInt).toNat from (by first | omega | decide | (have q1 := hD.1; have q2 := hD.2.1; simp only [Int32.le_iff_toInt_le, Int32.lt_iff_toInt_lt, ti_add, ti_sub, ti_mul, Int32.reduceToInt] at *; omega)))
      · exact ok_some ⟨hT, (show CF σ2.1 from by exact ⟨hW2, hW28, hW132, hW158, hW184, hL, hD, hu, ht⟩)⟩

set_option maxHeartbeats 4000000 in
set_option maxRecDepth 100000 in
theorem s_X11_draw_n2 {N : Nat} (hN : 1048576 ≤ N) {x1 : Int32} {x2 : Int32} {σ0 : zS}  (hR : RF σ0.2.2) (hNw : σ0.2.2 0 4 = 2) (hPw : σ0.2.2 0 5 = 28) (hC : CF σ0.1) : Ok (f_X11_draw N 0 x1 x2 σ0) (fun r => Tr [] σ0 r.2 ∧ (CF r.2.1)) := by
  have hT : Tr [] σ0 σ0 := Tr.rf
  obtain ⟨hW2, hW28, hW132, hW158, hW184, hL, hD, hu, ht⟩ := hC
  have hn := hW2.1
  have he := hW2.2.1
  have hD0 := hD
  have hL0 := hL
  have q10 := ti_one10 (x := σ0.1 2 0) hn.1 hn.2
  rw [f_X11_draw.eq_1]
  refine ok_gC rfl ?_
  refine ok_zbT (Q := fun V σ => (V = 0 ∨ V = 1) ∧ (¬ V = 0 → 0 ≤ x1.toInt ∧ x1.toInt ≤ 9)) hT (s_X11_isRegister_n2 hN (hR.tr hT) ((hT.1.1 0 4 (by decide)).trans hNw) (by first | exact hn | omega | (rw [hT.2 2 (by decide)]; exact hn))) (fun _ h9 => absurd h9 List.not_mem_nil) (fun v1 σ2 hOσ2 hT hqv1 => ?_)
  have hqv1 : (v1 = 0 ∨ v1 = 1) ∧ (¬ v1 = 0 → 0 ≤ x1.toInt ∧ x1.toInt ≤ 9) := hqv1
  have hW2 : WI 2 σ2.1 := WI.tr hOσ2 (by decide) (by decide) (by decide) hW2
  have hW28 : WI 28 σ2.1 := WI.tr hOσ2 (by decide) (by decide) (by decide) hW28
  have hW132 : WI 132 σ2.1 := WI.tr hOσ2 (by decide) (by decide) (by decide) hW132
  have hW158 : WI 158 σ2.1 := WI.tr hOσ2 (by decide) (by decide) (by decide) hW158
  have hW184 : WI 184 σ2.1 := WI.tr hOσ2 (by decide) (by decide) (by decide) hW184
  have hL : SI σ2.1 := SI.tr hOσ2 (by decide) (by decide) (by decide) (by decide) hL
  have hD : RD σ2.1 := RD.tr hOσ2 (by decide) (by decide) (by decide) (by decide) hD
  have hu : 2 ≤ (σ2.1 111 8).toInt ∧ (σ2.1 111 8).toInt ≤ 1600 := by rw [hOσ2.2 111 (by decide)] <;> exact hu
  have ht : 0 ≤ (σ2.1 0 1).toInt ∧ (σ2.1 0 1).toInt ≤ 600 := by rw [hOσ2.2 0 (by decide)] <;> exact ht
  refine ok_if (fun hc3 => ?_) (fun hc3 => ?_)
  · exact ok_some ⟨hT, (show CF σ2.1 from by exact ⟨hW2, hW28, hW132, hW158, hW184, hL, hD, hu, ht⟩)⟩
  · have qhc3 := hqv1.2 hc3
    refine ok_if (fun hc4 => ?_) (fun hc4 => ?_)
    · exact ok_some ⟨hT, (show CF σ2.1 from by exact ⟨hW2, hW28, hW132, hW158, hW184, hL, hD, hu, ht⟩)⟩
    · refine ok_if (fun hc5 => ?_) (fun hc5 => ?_)
      · refine ok_gR (v := 2) hT rfl hNw ?_
        refine ok_gR (v := 7) hT rfl (hR 2 7 rfl) ?_
        obtain ⟨q9, eq9, kq9⟩ := arrF hR (k := 7) (i := x1) rfl (by first | omega | decide | (have q1 := hD.1; have q2 := hD.2.1; simp only [Int32.le_iff_toInt_le, Int32.lt_iff_toInt_lt, ti_add, ti_sub, ti_mul, Int32.reduceToInt] at *; omega)) (by first | omega | decide | (have q1 := hD.1; have q2 := hD.2.1; simp only [Int32.le_iff_toInt_le, Int32.lt_iff_toInt_lt, ti_add, ti_sub, ti_mul, Int32.reduceToInt] at *; omega))
        refine ok_aR (v := q9) hT rfl (by first | omega | decide | (have q1 := hD.1; have q2 := hD.2.1; simp only [Int32.le_iff_toInt_le, Int32.lt_iff_toInt_lt, ti_add, ti_sub, ti_mul, Int32.reduceToInt] at *; omega)) (by first | omega | decide | (have q1 := hD.1; have q2 := hD.2.1; simp only [Int32.le_iff_toInt_le, Int32.lt_iff_toInt_lt, ti_add, ti_sub, ti_mul, Int32.reduceToInt] at *; omega)) eq9 ?_
        refine ok_gC kq9 ?_
        refine ok_zbT (Q := fun V σ => True) hT (s_X2_tally hN (hR.tr hT) kq9) (fun _ h9 => absurd h9 List.not_mem_nil) (fun v10 σ11 hOσ11 hT hqv10 => ?_)
        have hW2 : WI 2 σ11.1 := WI.tr hOσ11 (by decide) (by decide) (by decide) hW2
        have hW28 : WI 28 σ11.1 := WI.tr hOσ11 (by decide) (by decide) (by decide) hW28
        have hW132 : WI 132 σ11.1 := WI.tr hOσ11 (by decide) (by decide) (by decide) hW132
        have hW158 : WI 158 σ11.1 := WI.tr hOσ11 (by decide) (by decide) (by decide) hW158
        have hW184 : WI 184 σ11.1 := WI.tr hOσ11 (by decide) (by decide) (by decide) hW184
        have hL : SI σ11.1 := SI.tr hOσ11 (by decide) (by decide) (by decide) (by decide) hL
        have hD : RD σ11.1 := RD.tr hOσ11 (by decide) (by decide) (by decide) (by decide) hD
        have hu : 2 ≤ (σ11.1 111 8).toInt ∧ (σ11.1 111 8).toInt ≤ 1600 := by rw [hOσ11.2 111 (by decide)] <;> exact hu
        have ht : 0 ≤ (σ11.1 0 1).toInt ∧ (σ11.1 0 1).toInt ≤ 600 := by rw [hOσ11.2 0 (by decide)] <;> exact ht
        refine ok_if (fun hc12 => ?_) (fun hc12 => ?_)
        · refine ok_nzJ (by decide) ?_
          refine ok_gR (v := 2) hT rfl hNw ?_
          refine ok_gR (v := 7) hT rfl (hR 2 7 rfl) ?_
          obtain ⟨q16, eq16, kq16⟩ := arrF hR (k := 7) (i := x1) rfl (by first | omega | decide | (have q1 := hD.1; have q2 := hD.2.1; simp only [Int32.le_iff_toInt_le, Int32.lt_iff_toInt_lt, ti_add, ti_sub, ti_mul, Int32.reduceToInt] at *; omega)) (by first | omega | decide | (have q1 := hD.1; have q2 := hD.2.1; simp only [Int32.le_iff_toInt_le, Int32.lt_iff_toInt_lt, ti_add, ti_sub, ti_mul, Int32.reduceToInt] at *; omega))
          refine ok_aR (v := q16) hT rfl (by first | omega | decide | (have q1 := hD.1; have q2 := hD.2.1; simp only [Int32.le_iff_toInt_le, Int32.lt_iff_toInt_lt, ti_add, ti_sub, ti_mul, Int32.reduceToInt] at *; omega)) (by first | omega | decide | (have q1 := hD.1; have q2 := hD.2.1; simp only [Int32.le_iff_toInt_le, Int32.lt_iff_toInt_lt, ti_add, ti_sub, ti_mul, Int32.reduceToInt] at *; omega)) eq16 ?_
          refine ok_nzJ (by decide) ?_
          refine ok_nzJ (by exact nz64 (by simp only [Int32.lt_iff_toInt_lt, Int32.reduceToInt] at *; omega)) ?_
          refine ok_gC kq16 ?_
          refine ok_zbT (Q := fun V σ => True) hT (s_X2_pick hN (hR.tr hT) kq16) (fun _ h9 => absurd h9 List.not_mem_nil) (fun v17 σ18 hOσ18 hT hqv17 => ?_)
          have hW2 : WI 2 σ18.1 := WI.tr hOσ18 (by decide) (by decide) (by decide) hW2
          have hW28 : WI 28 σ18.1 := WI.tr hOσ18 (by decide) (by decide) (by decide) hW28
          have hW132 : WI 132 σ18.1 := WI.tr hOσ18 (by decide) (by decide) (by decide) hW132
          have hW158 : WI 158 σ18.1 := WI.tr hOσ18 (by decide) (by decide) (by decide) hW158
          have hW184 : WI 184 σ18.1 := WI.tr hOσ18 (by decide) (by decide) (by decide) hW184
          have hL : SI σ18.1 := SI.tr hOσ18 (by decide) (by decide) (by decide) (by decide) hL
          have hD : RD σ18.1 := RD.tr hOσ18 (by decide) (by decide) (by decide) (by decide) hD
          have hu : 2 ≤ (σ18.1 111 8).toInt ∧ (σ18.1 111 8).toInt ≤ 1600 := by rw [hOσ18.2 111 (by decide)] <;> exact hu
          have ht : 0 ≤ (σ18.1 0 1).toInt ∧ (σ18.1 0 1).toInt ≤ 600 := by rw [hOσ18.2 0 (by decide)] <;> exact ht
          exact ok_some ⟨hT, (show CF σ18.1 from by exact ⟨hW2, hW28, hW132, hW158, hW184, hL, hD, hu, ht⟩)⟩
        · exact ok_some ⟨hT, (show CF σ11.1 from by exact ⟨hW2, hW28, hW132, hW158, hW184, hL, hD, hu, ht⟩)⟩
      · exact ok_some ⟨hT, (show CF σ2.1 from by exact ⟨hW2, hW28, hW132, hW158, hW184, hL, hD, hu, ht⟩)⟩

set_option maxHeartbeats 4000000 in
set_option maxRecDepth 100000 in
theorem s_X11_ways_n2 {N : Nat} (hN : 1048576 ≤ N) {x1 : Int32} {x2 : Int32} {x3 : Int32} {σ0 : zS}  (hR : RF σ0.2.2) (hNw : σ0.2.2 0 4 = 2) (hPw : σ0.2.2 0 5 = 28) (hC : CF σ0.1) : Ok (f_X11_ways N 0 x1 x2 x3 σ0) (fun r => Tr [] σ0 r.2 ∧ (CF r.2.1)) := by
  have hT : Tr [] σ0 σ0 := Tr.rf
  obtain ⟨hW2, hW28, hW132, hW158, hW184, hL, hD, hu, ht⟩ := hC
  have hn := hW2.1
  have he := hW2.2.1
  have hD0 := hD
  have hL0 := hL
  have q10 := ti_one10 (x := σ0.1 2 0) hn.1 hn.2
  rw [f_X11_ways.eq_1]
  refine ok_gC rfl ?_
  refine ok_zbT (Q := fun V σ => (V = 0 ∨ V = 1) ∧ (¬ V = 0 → 0 ≤ x1.toInt ∧ x1.toInt ≤ 9)) hT (s_X11_isRegister_n2 hN (hR.tr hT) ((hT.1.1 0 4 (by decide)).trans hNw) (by first | exact hn | omega | (rw [hT.2 2 (by decide)]; exact hn))) (fun _ h9 => absurd h9 List.not_mem_nil) (fun v1 σ2 hOσ2 hT hqv1 => ?_)
  have hqv1 : (v1 = 0 ∨ v1 = 1) ∧ (¬ v1 = 0 → 0 ≤ x1.toInt ∧ x1.toInt ≤ 9) := hqv1
  have hW2 : WI 2 σ2.1 := WI.tr hOσ2 (by decide) (by decide) (by decide) hW2
  have hW28 : WI 28 σ2.1 := WI.tr hOσ2 (by decide) (by decide) (by decide) hW28
  have hW132 : WI 132 σ2.1 := WI.tr hOσ2 (by decide) (by decide) (by decide) hW132
  have hW158 : WI 158 σ2.1 := WI.tr hOσ2 (by decide) (by decide) (by decide) hW158
  have hW184 : WI 184 σ2.1 := WI.tr hOσ2 (by decide) (by decide) (by decide) hW184
  have hL : SI σ2.1 := SI.tr hOσ2 (by decide) (by decide) (by decide) (by decide) hL
  have hD : RD σ2.1 := RD.tr hOσ2 (by decide) (by decide) (by decide) (by decide) hD
  have hu : 2 ≤ (σ2.1 111 8).toInt ∧ (σ2.1 111 8).toInt ≤ 1600 := by rw [hOσ2.2 111 (by decide)] <;> exact hu
  have ht : 0 ≤ (σ2.1 0 1).toInt ∧ (σ2.1 0 1).toInt ≤ 600 := by rw [hOσ2.2 0 (by decide)] <;> exact ht
  refine ok_if (fun hc3 => ?_) (fun hc3 => ?_)
  · exact ok_some ⟨hT, (show CF σ2.1 from by exact ⟨hW2, hW28, hW132, hW158, hW184, hL, hD, hu, ht⟩)⟩
  · have qhc3 := hqv1.2 hc3
    refine ok_gC rfl ?_
    refine ok_zbT (Q := fun V σ => (V = 0 ∨ V = 1) ∧ (¬ V = 0 → 0 ≤ x2.toInt ∧ x2.toInt ≤ 7)) hT (s_X11_isCrossing hN (hR.tr hT) ) (fun _ h9 => absurd h9 List.not_mem_nil) (fun v4 σ5 hOσ5 hT hqv4 => ?_)
    have hqv4 : (v4 = 0 ∨ v4 = 1) ∧ (¬ v4 = 0 → 0 ≤ x2.toInt ∧ x2.toInt ≤ 7) := hqv4
    have hW2 : WI 2 σ5.1 := WI.tr hOσ5 (by decide) (by decide) (by decide) hW2
    have hW28 : WI 28 σ5.1 := WI.tr hOσ5 (by decide) (by decide) (by decide) hW28
    have hW132 : WI 132 σ5.1 := WI.tr hOσ5 (by decide) (by decide) (by decide) hW132
    have hW158 : WI 158 σ5.1 := WI.tr hOσ5 (by decide) (by decide) (by decide) hW158
    have hW184 : WI 184 σ5.1 := WI.tr hOσ5 (by decide) (by decide) (by decide) hW184
    have hL : SI σ5.1 := SI.tr hOσ5 (by decide) (by decide) (by decide) (by decide) hL
    have hD : RD σ5.1 := RD.tr hOσ5 (by decide) (by decide) (by decide) (by decide) hD
    have hu : 2 ≤ (σ5.1 111 8).toInt ∧ (σ5.1 111 8).toInt ≤ 1600 := by rw [hOσ5.2 111 (by decide)] <;> exact hu
    have ht : 0 ≤ (σ5.1 0 1).toInt ∧ (σ5.1 0 1).toInt ≤ 600 := by rw [hOσ5.2 0 (by decide)] <;> exact ht
    refine ok_if (fun hc6 => ?_) (fun hc6 => ?_)
    · exact ok_some ⟨hT, (show CF σ5.1 from by exact ⟨hW2, hW28, hW132, hW158, hW184, hL, hD, hu, ht⟩)⟩
    · have qhc6 := hqv4.2 hc6
      refine ok_gC rfl ?_
      refine ok_zbT (Q := fun V σ => (V = 0 ∨ V = 1) ∧ (¬ V = 0 → 0 ≤ x3.toInt ∧ x3.toInt ≤ 7)) hT (s_X11_isCrossing hN (hR.tr hT) ) (fun _ h9 => absurd h9 List.not_mem_nil) (fun v7 σ8 hOσ8 hT hqv7 => ?_)
      have hqv7 : (v7 = 0 ∨ v7 = 1) ∧ (¬ v7 = 0 → 0 ≤ x3.toInt ∧ x3.toInt ≤ 7) := hqv7
      have hW2 : WI 2 σ8.1 := WI.tr hOσ8 (by decide) (by decide) (by decide) hW2
      have hW28 : WI 28 σ8.1 := WI.tr hOσ8 (by decide) (by decide) (by decide) hW28
      have hW132 : WI 132 σ8.1 := WI.tr hOσ8 (by decide) (by decide) (by decide) hW132
      have hW158 : WI 158 σ8.1 := WI.tr hOσ8 (by decide) (by decide) (by decide) hW158
      have hW184 : WI 184 σ8.1 := WI.tr hOσ8 (by decide) (by decide) (by decide) hW184
      have hL : SI σ8.1 := SI.tr hOσ8 (by decide) (by decide) (by decide) (by decide) hL
      have hD : RD σ8.1 := RD.tr hOσ8 (by decide) (by decide) (by decide) (by decide) hD
      have hu : 2 ≤ (σ8.1 111 8).toInt ∧ (σ8.1 111 8).toInt ≤ 1600 := by rw [hOσ8.2 111 (by decide)] <;> exact hu
      have ht : 0 ≤ (σ8.1 0 1).toInt ∧ (σ8.1 0 1).toInt ≤ 600 := by rw [hOσ8.2 0 (by decide)] <;> exact ht
      refine ok_if (fun hc9 => ?_) (fun hc9 => ?_)
      · exact ok_some ⟨hT, (show CF σ8.1 from by exact ⟨hW2, hW28, hW132, hW158, hW184, hL, hD, hu, ht⟩)⟩
      · have qhc9 := hqv7.2 hc9
        refine ok_gR (v := 124) hT rfl (hR 0 15 rfl) ?_
        refine ok_gR (v := 2) hT rfl hNw ?_
        refine ok_gR (v := 128) hT rfl (hR 0 17 rfl) ?_
        refine ok_gC rfl ?_
        refine ok_zbT (Q := fun V σ => True) hT (s_X6_findWays_2 hN (hR.tr hT) rfl (by first | exact hW2 | exact hW28) (by first | omega | decide | (have q1 := hD.1; have q2 := hD.2.1; simp only [Int32.le_iff_toInt_le, Int32.lt_iff_toInt_lt, ti_add, ti_sub, ti_mul, Int32.reduceToInt] at *; omega))) (fun _ h9 => absurd h9 List.not_mem_nil) (fun v13 σ14 hOσ14 hT hqv13 => ?_)
        have hW2 : WI 2 σ14.1 := WI.tr hOσ14 (by decide) (by decide) (by decide) hW2
        have hW28 : WI 28 σ14.1 := WI.tr hOσ14 (by decide) (by decide) (by decide) hW28
        have hW132 : WI 132 σ14.1 := WI.tr hOσ14 (by decide) (by decide) (by decide) hW132
        have hW158 : WI 158 σ14.1 := WI.tr hOσ14 (by decide) (by decide) (by decide) hW158
        have hW184 : WI 184 σ14.1 := WI.tr hOσ14 (by decide) (by decide) (by decide) hW184
        have hL : SI σ14.1 := SI.tr hOσ14 (by decide) (by decide) (by decide) (by decide) hL
        have hD : RD σ14.1 := RD.tr hOσ14 (by decide) (by decide) (by decide) (by decide) hD
        have hu : 2 ≤ (σ14.1 111 8).toInt ∧ (σ14.1 111 8).toInt ≤ 1600 := by rw [hOσ14.2 111 (by decide)] <;> exact hu
        have ht : 0 ≤ (σ14.1 0 1).toInt ∧ (σ14.1 0 1).toInt ≤ 600 := by rw [hOσ14.2 0 (by decide)] <;> exact ht
        refine ok_gC rfl ?_
        refine ok_zbT (Q := fun V σ => True) hT (s_X11_store_n2 hN (hR.tr hT) ((hT.1.1 0 4 (by decide)).trans hNw) (by first | exact hn | omega | (rw [hT.2 2 (by decide)]; exact hn))) (fun _ h9 => absurd h9 List.not_mem_nil) (fun v15 σ16 hOσ16 hT hqv15 => ?_)
        have hW2 : WI 2 σ16.1 := WI.tr hOσ16 (by decide) (by decide) (by decide) hW2
        have hW28 : WI 28 σ16.1 := WI.tr hOσ16 (by decide) (by decide) (by decide) hW28
        have hW132 : WI 132 σ16.1 := WI.tr hOσ16 (by decide) (by decide) (by decide) hW132
        have hW158 : WI 158 σ16.1 := WI.tr hOσ16 (by decide) (by decide) (by decide) hW158
        have hW184 : WI 184 σ16.1 := WI.tr hOσ16 (by decide) (by decide) (by decide) hW184
        have hL : SI σ16.1 := SI.tr hOσ16 (by decide) (by decide) (by decide) (by decide) hL
        have hD : RD σ16.1 := RD.tr hOσ16 (by decide) (by decide) (by decide) (by decide) hD
        have hu : 2 ≤ (σ16.1 111 8).toInt ∧ (σ16.1 111 8).toInt ≤ 1600 := by rw [hOσ16.2 111 (by decide)] <;> exact hu
        have ht : 0 ≤ (σ16.1 0 1).toInt ∧ (σ16.1 0 1).toInt ≤ 600 := by rw [hOσ16.2 0 (by decide)] <;> exact ht
        exact ok_some ⟨hT, (show CF σ16.1 from by exact ⟨hW2, hW28, hW132, hW158, hW184, hL, hD, hu, ht⟩)⟩

set_option maxHeartbeats 4000000 in
set_option maxRecDepth 100000 in
theorem s_X11_cuts_n2 {N : Nat} (hN : 1048576 ≤ N) {x1 : Int32} {x2 : Int32} {x3 : Int32} {σ0 : zS}  (hR : RF σ0.2.2) (hNw : σ0.2.2 0 4 = 2) (hPw : σ0.2.2 0 5 = 28) (hC : CF σ0.1) : Ok (f_X11_cuts N 0 x1 x2 x3 σ0) (fun r => Tr [] σ0 r.2 ∧ (CF r.2.1)) := by
  have hT : Tr [] σ0 σ0 := Tr.rf
  obtain ⟨hW2, hW28, hW132, hW158, hW184, hL, hD, hu, ht⟩ := hC
  have hn := hW2.1
  have he := hW2.2.1
  have hD0 := hD
  have hL0 := hL
  have q10 := ti_one10 (x := σ0.1 2 0) hn.1 hn.2
  rw [f_X11_cuts.eq_1]
  refine ok_gC rfl ?_
  refine ok_zbT (Q := fun V σ => (V = 0 ∨ V = 1) ∧ (¬ V = 0 → 0 ≤ x1.toInt ∧ x1.toInt ≤ 9)) hT (s_X11_isRegister_n2 hN (hR.tr hT) ((hT.1.1 0 4 (by decide)).trans hNw) (by first | exact hn | omega | (rw [hT.2 2 (by decide)]; exact hn))) (fun _ h9 => absurd h9 List.not_mem_nil) (fun v1 σ2 hOσ2 hT hqv1 => ?_)
  have hqv1 : (v1 = 0 ∨ v1 = 1) ∧ (¬ v1 = 0 → 0 ≤ x1.toInt ∧ x1.toInt ≤ 9) := hqv1
  have hW2 : WI 2 σ2.1 := WI.tr hOσ2 (by decide) (by decide) (by decide) hW2
  have hW28 : WI 28 σ2.1 := WI.tr hOσ2 (by decide) (by decide) (by decide) hW28
  have hW132 : WI 132 σ2.1 := WI.tr hOσ2 (by decide) (by decide) (by decide) hW132
  have hW158 : WI 158 σ2.1 := WI.tr hOσ2 (by decide) (by decide) (by decide) hW158
  have hW184 : WI 184 σ2.1 := WI.tr hOσ2 (by decide) (by decide) (by decide) hW184
  have hL : SI σ2.1 := SI.tr hOσ2 (by decide) (by decide) (by decide) (by decide) hL
  have hD : RD σ2.1 := RD.tr hOσ2 (by decide) (by decide) (by decide) (by decide) hD
  have hu : 2 ≤ (σ2.1 111 8).toInt ∧ (σ2.1 111 8).toInt ≤ 1600 := by rw [hOσ2.2 111 (by decide)] <;> exact hu
  have ht : 0 ≤ (σ2.1 0 1).toInt ∧ (σ2.1 0 1).toInt ≤ 600 := by rw [hOσ2.2 0 (by decide)] <;> exact ht
  refine ok_if (fun hc3 => ?_) (fun hc3 => ?_)
  · exact ok_some ⟨hT, (show CF σ2.1 from by exact ⟨hW2, hW28, hW132, hW158, hW184, hL, hD, hu, ht⟩)⟩
  · have qhc3 := hqv1.2 hc3
    refine ok_gC rfl ?_
    refine ok_zbT (Q := fun V σ => (V = 0 ∨ V = 1) ∧ (¬ V = 0 → 0 ≤ x2.toInt ∧ x2.toInt ≤ 7)) hT (s_X11_isCrossing hN (hR.tr hT) ) (fun _ h9 => absurd h9 List.not_mem_nil) (fun v4 σ5 hOσ5 hT hqv4 => ?_)
    have hqv4 : (v4 = 0 ∨ v4 = 1) ∧ (¬ v4 = 0 → 0 ≤ x2.toInt ∧ x2.toInt ≤ 7) := hqv4
    have hW2 : WI 2 σ5.1 := WI.tr hOσ5 (by decide) (by decide) (by decide) hW2
    have hW28 : WI 28 σ5.1 := WI.tr hOσ5 (by decide) (by decide) (by decide) hW28
    have hW132 : WI 132 σ5.1 := WI.tr hOσ5 (by decide) (by decide) (by decide) hW132
    have hW158 : WI 158 σ5.1 := WI.tr hOσ5 (by decide) (by decide) (by decide) hW158
    have hW184 : WI 184 σ5.1 := WI.tr hOσ5 (by decide) (by decide) (by decide) hW184
    have hL : SI σ5.1 := SI.tr hOσ5 (by decide) (by decide) (by decide) (by decide) hL
    have hD : RD σ5.1 := RD.tr hOσ5 (by decide) (by decide) (by decide) (by decide) hD
    have hu : 2 ≤ (σ5.1 111 8).toInt ∧ (σ5.1 111 8).toInt ≤ 1600 := by rw [hOσ5.2 111 (by decide)] <;> exact hu
    have ht : 0 ≤ (σ5.1 0 1).toInt ∧ (σ5.1 0 1).toInt ≤ 600 := by rw [hOσ5.2 0 (by decide)] <;> exact ht
    refine ok_if (fun hc6 => ?_) (fun hc6 => ?_)
    · exact ok_some ⟨hT, (show CF σ5.1 from by exact ⟨hW2, hW28, hW132, hW158, hW184, hL, hD, hu, ht⟩)⟩
    · have qhc6 := hqv4.2 hc6
      refine ok_gC rfl ?_
      refine ok_zbT (Q := fun V σ => (V = 0 ∨ V = 1) ∧ (¬ V = 0 → 0 ≤ x3.toInt ∧ x3.toInt ≤ 7)) hT (s_X11_isCrossing hN (hR.tr hT) ) (fun _ h9 => absurd h9 List.not_mem_nil) (fun v7 σ8 hOσ8 hT hqv7 => ?_)
      have hqv7 : (v7 = 0 ∨ v7 = 1) ∧ (¬ v7 = 0 → 0 ≤ x3.toInt ∧ x3.toInt ≤ 7) := hqv7
      have hW2 : WI 2 σ8.1 := WI.tr hOσ8 (by decide) (by decide) (by decide) hW2
      have hW28 : WI 28 σ8.1 := WI.tr hOσ8 (by decide) (by decide) (by decide) hW28
      have hW132 : WI 132 σ8.1 := WI.tr hOσ8 (by decide) (by decide) (by decide) hW132
      have hW158 : WI 158 σ8.1 := WI.tr hOσ8 (by decide) (by decide) (by decide) hW158
      have hW184 : WI 184 σ8.1 := WI.tr hOσ8 (by decide) (by decide) (by decide) hW184
      have hL : SI σ8.1 := SI.tr hOσ8 (by decide) (by decide) (by decide) (by decide) hL
      have hD : RD σ8.1 := RD.tr hOσ8 (by decide) (by decide) (by decide) (by decide) hD
      have hu : 2 ≤ (σ8.1 111 8).toInt ∧ (σ8.1 111 8).toInt ≤ 1600 := by rw [hOσ8.2 111 (by decide)] <;> exact hu
      have ht : 0 ≤ (σ8.1 0 1).toInt ∧ (σ8.1 0 1).toInt ≤ 600 := by rw [hOσ8.2 0 (by decide)] <;> exact ht
      refine ok_if (fun hc9 => ?_) (fun hc9 => ?_)
      · exact ok_some ⟨hT, (show CF σ8.1 from by exact ⟨hW2, hW28, hW132, hW158, hW184, hL, hD, hu, ht⟩)⟩
      · have qhc9 := hqv7.2 hc9
        refine ok_gR (v := 124) hT rfl (hR 0 15 rfl) ?_
        refine ok_gR (v := 2) hT rfl hNw ?_
        refine ok_gR (v := 128) hT rfl (hR 0 17 rfl) ?_
        refine ok_gC rfl ?_
        refine ok_zbT (Q := fun V σ => True) hT (s_X6_findWays_2 hN (hR.tr hT) rfl (by first | exact hW2 | exact hW28) (by first | omega | decide | (have q1 := hD.1; have q2 := hD.2.1; simp only [Int32.le_iff_toInt_le, Int32.lt_iff_toInt_lt, ti_add, ti_sub, ti_mul, Int32.reduceToInt] at *; omega))) (fun _ h9 => absurd h9 List.not_mem_nil) (fun v13 σ14 hOσ14 hT hqv13 => ?_)
        have hW2 : WI 2 σ14.1 := WI.tr hOσ14 (by decide) (by decide) (by decide) hW2
        have hW28 : WI 28 σ14.1 := WI.tr hOσ14 (by decide) (by decide) (by decide) hW28
        have hW132 : WI 132 σ14.1 := WI.tr hOσ14 (by decide) (by decide) (by decide) hW132
        have hW158 : WI 158 σ14.1 := WI.tr hOσ14 (by decide) (by decide) (by decide) hW158
        have hW184 : WI 184 σ14.1 := WI.tr hOσ14 (by decide) (by decide) (by decide) hW184
        have hL : SI σ14.1 := SI.tr hOσ14 (by decide) (by decide) (by decide) (by decide) hL
        have hD : RD σ14.1 := RD.tr hOσ14 (by decide) (by decide) (by decide) (by decide) hD
        have hu : 2 ≤ (σ14.1 111 8).toInt ∧ (σ14.1 111 8).toInt ≤ 1600 := by rw [hOσ14.2 111 (by decide)] <;> exact hu
        have ht : 0 ≤ (σ14.1 0 1).toInt ∧ (σ14.1 0 1).toInt ≤ 600 := by rw [hOσ14.2 0 (by decide)] <;> exact ht
        refine ok_gR (v := 99) hT rfl (hR 0 11 rfl) ?_
        refine ok_gR (v := 128) hT rfl (hR 0 17 rfl) ?_
        refine ok_gR (v := 2) hT rfl hNw ?_
        refine ok_gI0 hT rfl (by decide) ?_
        refine ok_gC rfl ?_
        refine ok_zbT (Q := fun V σ => True) hT (s_X0_reshape hN (hR.tr hT) rfl (by first | exact hn | omega | (rw [hT.2 2 (by decide)]; exact hn))) (fun _ h9 => absurd h9 List.not_mem_nil) (fun v19 σ20 hOσ20 hT hqv19 => ?_)
        have hW2 : WI 2 σ20.1 := WI.tr hOσ20 (by decide) (by decide) (by decide) hW2
        have hW28 : WI 28 σ20.1 := WI.tr hOσ20 (by decide) (by decide) (by decide) hW28
        have hW132 : WI 132 σ20.1 := WI.tr hOσ20 (by decide) (by decide) (by decide) hW132
        have hW158 : WI 158 σ20.1 := WI.tr hOσ20 (by decide) (by decide) (by decide) hW158
        have hW184 : WI 184 σ20.1 := WI.tr hOσ20 (by decide) (by decide) (by decide) hW184
        have hL : SI σ20.1 := SI.tr hOσ20 (by decide) (by decide) (by decide) (by decide) hL
        have hD : RD σ20.1 := RD.tr hOσ20 (by decide) (by decide) (by decide) (by decide) hD
        have hu : 2 ≤ (σ20.1 111 8).toInt ∧ (σ20.1 111 8).toInt ≤ 1600 := by rw [hOσ20.2 111 (by decide)] <;> exact hu
        have ht : 0 ≤ (σ20.1 0 1).toInt ∧ (σ20.1 0 1).toInt ≤ 600 := by rw [hOσ20.2 0 (by decide)] <;> exact ht
        refine ok_gC rfl ?_
        refine ok_zbT (Q := fun V σ => True) hT (s_X11_store_n2 hN (hR.tr hT) ((hT.1.1 0 4 (by decide)).trans hNw) (by first | exact hn | omega | (rw [hT.2 2 (by decide)]; exact hn))) (fun _ h9 => absurd h9 List.not_mem_nil) (fun v21 σ22 hOσ22 hT hqv21 => ?_)
        have hW2 : WI 2 σ22.1 := WI.tr hOσ22 (by decide) (by decide) (by decide) hW2
        have hW28 : WI 28 σ22.1 := WI.tr hOσ22 (by decide) (by decide) (by decide) hW28
        have hW132 : WI 132 σ22.1 := WI.tr hOσ22 (by decide) (by decide) (by decide) hW132
        have hW158 : WI 158 σ22.1 := WI.tr hOσ22 (by decide) (by decide) (by decide) hW158
        have hW184 : WI 184 σ22.1 := WI.tr hOσ22 (by decide) (by decide) (by decide) hW184
        have hL : SI σ22.1 := SI.tr hOσ22 (by decide) (by decide) (by decide) (by decide) hL
        have hD : RD σ22.1 := RD.tr hOσ22 (by decide) (by decide) (by decide) (by decide) hD
        have hu : 2 ≤ (σ22.1 111 8).toInt ∧ (σ22.1 111 8).toInt ≤ 1600 := by rw [hOσ22.2 111 (by decide)] <;> exact hu
        have ht : 0 ≤ (σ22.1 0 1).toInt ∧ (σ22.1 0 1).toInt ≤ 600 := by rw [hOσ22.2 0 (by decide)] <;> exact ht
        exact ok_some ⟨hT, (show CF σ22.1 from by exact ⟨hW2, hW28, hW132, hW158, hW184, hL, hD, hu, ht⟩)⟩

set_option maxHeartbeats 4000000 in
set_option maxRecDepth 100000 in
theorem s_X11_move_n2 {N : Nat} (hN : 1048576 ≤ N) {x1 : Int32} {x2 : Int32} {σ0 : zS}  (hR : RF σ0.2.2) (hNw : σ0.2.2 0 4 = 2) (hPw : σ0.2.2 0 5 = 28) (hC : CF σ0.1) : Ok (f_X11_move N 0 x1 x2 σ0) (fun r => Tr [6] σ0 r.2 ∧ (CF r.2.1)) := by
  have hT : Tr [6] σ0 σ0 := Tr.rf
  obtain ⟨hW2, hW28, hW132, hW158, hW184, hL, hD, hu, ht⟩ := hC
  have hn := hW2.1
  have he := hW2.2.1
  have hD0 := hD
  have hL0 := hL
  have q10 := ti_one10 (x := σ0.1 2 0) hn.1 hn.2
  rw [f_X11_move.eq_1]
  refine ok_gC rfl ?_
  refine ok_zbT (Q := fun V σ => (V = 0 ∨ V = 1) ∧ (¬ V = 0 → 0 ≤ x1.toInt ∧ x1.toInt < (σ0.1 2 0).toInt)) hT (s_X11_isName_n2 hN (hR.tr hT) ((hT.1.1 0 4 (by decide)).trans hNw) (by first | exact hn | omega | (rw [hT.2 2 (by decide)]; exact hn))) (fun _ h9 => absurd h9 List.not_mem_nil) (fun v1 σ2 hOσ2 hT hqv1 => ?_)
  have hqv1 : (v1 = 0 ∨ v1 = 1) ∧ (¬ v1 = 0 → 0 ≤ x1.toInt ∧ x1.toInt < (σ0.1 2 0).toInt) := hqv1
  have hW2 : WI 2 σ2.1 := WI.tr hOσ2 (by decide) (by decide) (by decide) hW2
  have hW28 : WI 28 σ2.1 := WI.tr hOσ2 (by decide) (by decide) (by decide) hW28
  have hW132 : WI 132 σ2.1 := WI.tr hOσ2 (by decide) (by decide) (by decide) hW132
  have hW158 : WI 158 σ2.1 := WI.tr hOσ2 (by decide) (by decide) (by decide) hW158
  have hW184 : WI 184 σ2.1 := WI.tr hOσ2 (by decide) (by decide) (by decide) hW184
  have hL : SI σ2.1 := SI.tr hOσ2 (by decide) (by decide) (by decide) (by decide) hL
  have hD : RD σ2.1 := RD.tr hOσ2 (by decide) (by decide) (by decide) (by decide) hD
  have hu : 2 ≤ (σ2.1 111 8).toInt ∧ (σ2.1 111 8).toInt ≤ 1600 := by rw [hOσ2.2 111 (by decide)] <;> exact hu
  have ht : 0 ≤ (σ2.1 0 1).toInt ∧ (σ2.1 0 1).toInt ≤ 600 := by rw [hOσ2.2 0 (by decide)] <;> exact ht
  refine ok_if (fun hc3 => ?_) (fun hc3 => ?_)
  · exact ok_some ⟨hT, (show CF σ2.1 from by exact ⟨hW2, hW28, hW132, hW158, hW184, hL, hD, hu, ht⟩)⟩
  · have qhc3 := hqv1.2 hc3
    refine ok_gC rfl ?_
    refine ok_zbT (Q := fun V σ => (V = 0 ∨ V = 1) ∧ (¬ V = 0 → 0 ≤ x2.toInt ∧ x2.toInt < (σ2.1 2 0).toInt)) hT (s_X11_isName_n2 hN (hR.tr hT) ((hT.1.1 0 4 (by decide)).trans hNw) (by first | exact hn | omega | (rw [hT.2 2 (by decide)]; exact hn))) (fun _ h9 => absurd h9 List.not_mem_nil) (fun v4 σ5 hOσ5 hT hqv4 => ?_)
    have hqv4 : (v4 = 0 ∨ v4 = 1) ∧ (¬ v4 = 0 → 0 ≤ x2.toInt ∧ x2.toInt < (σ2.1 2 0).toInt) := hqv4
    have hW2 : WI 2 σ5.1 := WI.tr hOσ5 (by decide) (by decide) (by decide) hW2
    have hW28 : WI 28 σ5.1 := WI.tr hOσ5 (by decide) (by decide) (by decide) hW28
    have hW132 : WI 132 σ5.1 := WI.tr hOσ5 (by decide) (by decide) (by decide) hW132
    have hW158 : WI 158 σ5.1 := WI.tr hOσ5 (by decide) (by decide) (by decide) hW158
    have hW184 : WI 184 σ5.1 := WI.tr hOσ5 (by decide) (by decide) (by decide) hW184
    have hL : SI σ5.1 := SI.tr hOσ5 (by decide) (by decide) (by decide) (by decide) hL
    have hD : RD σ5.1 := RD.tr hOσ5 (by decide) (by decide) (by decide) (by decide) hD
    have hu : 2 ≤ (σ5.1 111 8).toInt ∧ (σ5.1 111 8).toInt ≤ 1600 := by rw [hOσ5.2 111 (by decide)] <;> exact hu
    have ht : 0 ≤ (σ5.1 0 1).toInt ∧ (σ5.1 0 1).toInt ≤ 600 := by rw [hOσ5.2 0 (by decide)] <;> exact ht
    refine ok_if (fun hc6 => ?_) (fun hc6 => ?_)
    · exact ok_some ⟨hT, (show CF σ5.1 from by exact ⟨hW2, hW28, hW132, hW158, hW184, hL, hD, hu, ht⟩)⟩
    · have qhc6 := hqv4.2 hc6
      refine ok_gR (v := 2) hT rfl hNw ?_
      refine ok_gC rfl ?_
      refine ok_zbT (Q := fun V σ => True) hT (s_X10_moveName_2 hN (hR.tr hT) ) (by decide) (fun v8 σ9 hOσ9 hT hqv8 => ?_)
      have hW2 : WI 2 σ9.1 := WI.tr hOσ9 (by decide) (by decide) (by decide) hW2
      have hW28 : WI 28 σ9.1 := WI.tr hOσ9 (by decide) (by decide) (by decide) hW28
      have hW132 : WI 132 σ9.1 := WI.tr hOσ9 (by decide) (by decide) (by decide) hW132
      have hW158 : WI 158 σ9.1 := WI.tr hOσ9 (by decide) (by decide) (by decide) hW158
      have hW184 : WI 184 σ9.1 := WI.tr hOσ9 (by decide) (by decide) (by decide) hW184
      have hL : SI σ9.1 := SI.tr hOσ9 (by decide) (by decide) (by decide) (by decide) hL
      have hD : RD σ9.1 := RD.tr hOσ9 (by decide) (by decide) (by decide) (by decide) hD
      have hu : 2 ≤ (σ9.1 111 8).toInt ∧ (σ9.1 111 8).toInt ≤ 1600 := by rw [hOσ9.2 111 (by decide)] <;> exact hu
      have ht : 0 ≤ (σ9.1 0 1).toInt ∧ (σ9.1 0 1).toInt ≤ 600 := by rw [hOσ9.2 0 (by decide)] <;> exact ht
      exact ok_some ⟨hT, (show CF σ9.1 from by exact ⟨hW2, hW28, hW132, hW158, hW184, hL, hD, hu, ht⟩)⟩

set_option maxHeartbeats 4000000 in
set_option maxRecDepth 100000 in
theorem s_X11_swap_n2 {N : Nat} (hN : 1048576 ≤ N) {x1 : Int32} {σ0 : zS}  (hR : RF σ0.2.2) (hNw : σ0.2.2 0 4 = 2) (hPw : σ0.2.2 0 5 = 28) (hC : CF σ0.1) : Ok (f_X11_swap N 0 x1 σ0) (fun r => Tr [6, 111, 112, 113, 114, 115, 116, 117, 118, 119] σ0 r.2 ∧ (CF r.2.1)) := by
  have hT : Tr [6, 111, 112, 113, 114, 115, 116, 117, 118, 119] σ0 σ0 := Tr.rf
  obtain ⟨hW2, hW28, hW132, hW158, hW184, hL, hD, hu, ht⟩ := hC
  have hn := hW2.1
  have he := hW2.2.1
  have hD0 := hD
  have hL0 := hL
  have q10 := ti_one10 (x := σ0.1 2 0) hn.1 hn.2
  rw [f_X11_swap.eq_1]
  refine ok_gC rfl ?_
  refine ok_zbT (Q := fun V σ => (V = 0 ∨ V = 1) ∧ (¬ V = 0 → 0 ≤ x1.toInt ∧ x1.toInt < (σ0.1 2 0).toInt)) hT (s_X11_isName_n2 hN (hR.tr hT) ((hT.1.1 0 4 (by decide)).trans hNw) (by first | exact hn | omega | (rw [hT.2 2 (by decide)]; exact hn))) (fun _ h9 => absurd h9 List.not_mem_nil) (fun v1 σ2 hOσ2 hT hqv1 => ?_)
  have hqv1 : (v1 = 0 ∨ v1 = 1) ∧ (¬ v1 = 0 → 0 ≤ x1.toInt ∧ x1.toInt < (σ0.1 2 0).toInt) := hqv1
  have hW2 : WI 2 σ2.1 := WI.tr hOσ2 (by decide) (by decide) (by decide) hW2
  have hW28 : WI 28 σ2.1 := WI.tr hOσ2 (by decide) (by decide) (by decide) hW28
  have hW132 : WI 132 σ2.1 := WI.tr hOσ2 (by decide) (by decide) (by decide) hW132
  have hW158 : WI 158 σ2.1 := WI.tr hOσ2 (by decide) (by decide) (by decide) hW158
  have hW184 : WI 184 σ2.1 := WI.tr hOσ2 (by decide) (by decide) (by decide) hW184
  have hL : SI σ2.1 := SI.tr hOσ2 (by decide) (by decide) (by decide) (by decide) hL
  have hD : RD σ2.1 := RD.tr hOσ2 (by decide) (by decide) (by decide) (by decide) hD
  have hu : 2 ≤ (σ2.1 111 8).toInt ∧ (σ2.1 111 8).toInt ≤ 1600 := by rw [hOσ2.2 111 (by decide)] <;> exact hu
  have ht : 0 ≤ (σ2.1 0 1).toInt ∧ (σ2.1 0 1).toInt ≤ 600 := by rw [hOσ2.2 0 (by decide)] <;> exact ht
  refine ok_if (fun hc3 => ?_) (fun hc3 => ?_)
  · exact ok_some ⟨hT, (show CF σ2.1 from by exact ⟨hW2, hW28, hW132, hW158, hW184, hL, hD, hu, ht⟩)⟩
  · have qhc3 := hqv1.2 hc3
    refine ok_gR (v := 2) hT rfl hNw ?_
    refine ok_gI0 hT rfl (by decide) ?_
    refine ok_if (fun hc6 => ?_) (fun hc6 => ?_)
    · refine ok_gR (v := 2) hT rfl hNw ?_
      refine ok_gR (v := 2) hT rfl hNw ?_
      refine ok_gR (v := 6) hT rfl (hR 2 6 rfl) ?_
      refine ok_aIn rfl (by first | omega | decide | (have q1 := hD.1; have q2 := hD.2.1; simp only [Int32.le_iff_toInt_le, Int32.lt_iff_toInt_lt, ti_add, ti_sub, ti_mul, Int32.reduceToInt] at *; omega)) (by first | omega | decide | (have q1 := hD.1; have q2 := hD.2.1; simp only [Int32.le_iff_toInt_le, Int32.lt_iff_toInt_lt, ti_add, ti_sub, ti_mul, Int32.reduceToInt] at *; omega)) (fun v10 ev10 => ?_)
      refine ok_gC rfl ?_
      refine ok_zbT (Q := fun V σ => True) hT (s_X10_moveName_2 hN (hR.tr hT) ) (by decide) (fun v11 σ12 hOσ12 hT hqv11 => ?_)
      have hW2 : WI 2 σ12.1 := WI.tr hOσ12 (by decide) (by decide) (by decide) hW2
      have hW28 : WI 28 σ12.1 := WI.tr hOσ12 (by decide) (by decide) (by decide) hW28
      have hW132 : WI 132 σ12.1 := WI.tr hOσ12 (by decide) (by decide) (by decide) hW132
      have hW158 : WI 158 σ12.1 := WI.tr hOσ12 (by decide) (by decide) (by decide) hW158
      have hW184 : WI 184 σ12.1 := WI.tr hOσ12 (by decide) (by decide) (by decide) hW184
      have hL : SI σ12.1 := SI.tr hOσ12 (by decide) (by decide) (by decide) (by decide) hL
      have hD : RD σ12.1 := RD.tr hOσ12 (by decide) (by decide) (by decide) (by decide) hD
      have hu : 2 ≤ (σ12.1 111 8).toInt ∧ (σ12.1 111 8).toInt ≤ 1600 := by rw [hOσ12.2 111 (by decide)] <;> exact hu
      have ht : 0 ≤ (σ12.1 0 1).toInt ∧ (σ12.1 0 1).toInt ≤ 600 := by rw [hOσ12.2 0 (by decide)] <;> exact ht
      refine ok_gR (v := 111) hT rfl (hR 0 13 rfl) ?_
      refine ok_gR (v := 2) hT rfl hNw ?_
      refine ok_gC rfl ?_
      refine ok_zbT (Q := fun V σ => 2 ≤ (σ.1 111 8).toInt ∧ (σ.1 111 8).toInt ≤ 1600) hT (s_X1_tallyOfAll_2 hN (hR.tr hT) (hu) (by first | exact hn | omega | (rw [hT.2 2 (by decide)]; exact hn))) (by decide) (fun v15 σ16 hOσ16 hT hqv15 => ?_)
      have hqv15 : 2 ≤ (σ16.1 111 8).toInt ∧ (σ16.1 111 8).toInt ≤ 1600 := hqv15
      have hW2 : WI 2 σ16.1 := WI.tr hOσ16 (by decide) (by decide) (by decide) hW2
      have hW28 : WI 28 σ16.1 := WI.tr hOσ16 (by decide) (by decide) (by decide) hW28
      have hW132 : WI 132 σ16.1 := WI.tr hOσ16 (by decide) (by decide) (by decide) hW132
      have hW158 : WI 158 σ16.1 := WI.tr hOσ16 (by decide) (by decide) (by decide) hW158
      have hW184 : WI 184 σ16.1 := WI.tr hOσ16 (by decide) (by decide) (by decide) hW184
      have hL : SI σ16.1 := SI.tr hOσ16 (by decide) (by decide) (by decide) (by decide) hL
      have hD : RD σ16.1 := RD.tr hOσ16 (by decide) (by decide) (by decide) (by decide) hD
      have hu : 2 ≤ (σ16.1 111 8).toInt ∧ (σ16.1 111 8).toInt ≤ 1600 := hqv15
      have ht : 0 ≤ (σ16.1 0 1).toInt ∧ (σ16.1 0 1).toInt ≤ 600 := by rw [hOσ16.2 0 (by decide)] <;> exact ht
      exact ok_some ⟨hT, (show CF σ16.1 from by exact ⟨hW2, hW28, hW132, hW158, hW184, hL, hD, hu, ht⟩)⟩
    · exact ok_some ⟨hT, (show CF σ2.1 from by exact ⟨hW2, hW28, hW132, hW158, hW184, hL, hD, hu, ht⟩)⟩

set_option maxHeartbeats 4000000 in
set_option maxRecDepth 100000 in
theorem s_X11_weigh_n2 {N : Nat} (hN : 1048576 ≤ N) {x1 : Int32} {x2 : Int32} {σ0 : zS}  (hR : RF σ0.2.2) (hNw : σ0.2.2 0 4 = 2) (hPw : σ0.2.2 0 5 = 28) (hC : CF σ0.1) : Ok (f_X11_weigh N 0 x1 x2 σ0) (fun r => Tr [5] σ0 r.2 ∧ (CF r.2.1)) := by
  have hT : Tr [5] σ0 σ0 := Tr.rf
  obtain ⟨hW2, hW28, hW132, hW158, hW184, hL, hD, hu, ht⟩ := hC
  have hn := hW2.1
  have he := hW2.2.1
  have hD0 := hD
  have hL0 := hL
  have q10 := ti_one10 (x := σ0.1 2 0) hn.1 hn.2
  rw [f_X11_weigh.eq_1]
  refine ok_gC rfl ?_
  refine ok_zbT (Q := fun V σ => (V = 0 ∨ V = 1) ∧ (¬ V = 0 → 0 ≤ x1.toInt ∧ x1.toInt < (σ0.1 2 0).toInt)) hT (s_X11_isName_n2 hN (hR.tr hT) ((hT.1.1 0 4 (by decide)).trans hNw) (by first | exact hn | omega | (rw [hT.2 2 (by decide)]; exact hn))) (fun _ h9 => absurd h9 List.not_mem_nil) (fun v1 σ2 hOσ2 hT hqv1 => ?_)
  have hqv1 : (v1 = 0 ∨ v1 = 1) ∧ (¬ v1 = 0 → 0 ≤ x1.toInt ∧ x1.toInt < (σ0.1 2 0).toInt) := hqv1
  have hW2 : WI 2 σ2.1 := WI.tr hOσ2 (by decide) (by decide) (by decide) hW2
  have hW28 : WI 28 σ2.1 := WI.tr hOσ2 (by decide) (by decide) (by decide) hW28
  have hW132 : WI 132 σ2.1 := WI.tr hOσ2 (by decide) (by decide) (by decide) hW132
  have hW158 : WI 158 σ2.1 := WI.tr hOσ2 (by decide) (by decide) (by decide) hW158
  have hW184 : WI 184 σ2.1 := WI.tr hOσ2 (by decide) (by decide) (by decide) hW184
  have hL : SI σ2.1 := SI.tr hOσ2 (by decide) (by decide) (by decide) (by decide) hL
  have hD : RD σ2.1 := RD.tr hOσ2 (by decide) (by decide) (by decide) (by decide) hD
  have hu : 2 ≤ (σ2.1 111 8).toInt ∧ (σ2.1 111 8).toInt ≤ 1600 := by rw [hOσ2.2 111 (by decide)] <;> exact hu
  have ht : 0 ≤ (σ2.1 0 1).toInt ∧ (σ2.1 0 1).toInt ≤ 600 := by rw [hOσ2.2 0 (by decide)] <;> exact ht
  refine ok_if (fun hc3 => ?_) (fun hc3 => ?_)
  · exact ok_some ⟨hT, (show CF σ2.1 from by exact ⟨hW2, hW28, hW132, hW158, hW184, hL, hD, hu, ht⟩)⟩
  · have qhc3 := hqv1.2 hc3
    refine ok_if (fun hc4 => ?_) (fun hc4 => ?_)
    · exact ok_some ⟨hT, (show CF σ2.1 from by exact ⟨hW2, hW28, hW132, hW158, hW184, hL, hD, hu, ht⟩)⟩
    · refine ok_if (fun hc5 => ?_) (fun hc5 => ?_)
      · refine ok_gR (v := 2) hT rfl hNw ?_
        refine ok_gR (v := 5) hT rfl (hR 2 5 rfl) ?_
        refine ok_aIn rfl (by first | omega | decide | (have q1 := hD.1; have q2 := hD.2.1; simp only [Int32.le_iff_toInt_le, Int32.lt_iff_toInt_lt, ti_add, ti_sub, ti_mul, Int32.reduceToInt] at *; omega)) (by first | omega | decide | (have q1 := hD.1; have q2 := hD.2.1; simp only [Int32.le_iff_toInt_le, Int32.lt_iff_toInt_lt, ti_add, ti_sub, ti_mul, Int32.reduceToInt] at *; omega)) (fun v8 ev8 => ?_)
        refine ok_gR (v := 2) hT rfl hNw ?_
        refine ok_gR (v := 5) hT rfl (hR 2 5 rfl) ?_
        refine ok_s14 hT rfl (by decide) (by first | omega | decide | (have q1 := hD.1; have q2 := hD.2.1; simp only [Int32.le_iff_toInt_le, Int32.lt_iff_toInt_lt, ti_add, ti_sub, ti_mul, Int32.reduceToInt] at *; omega)) (by first | omega | decide | (have q1 := hD.1; have q2 := hD.2.1; simp only [Int32.le_iff_toInt_le, Int32.lt_iff_toInt_lt, ti_add, ti_sub, ti_mul, Int32.reduceToInt] at *; omega)) (fun σ11 eσ11 hOσ11 hT => ?_)
        have hW2 : WI 2 σ11.1 := WI.tr hOσ11 (by decide) (by decide) (by decide) hW2
        have hW28 : WI 28 σ11.1 := WI.tr hOσ11 (by decide) (by decide) (by decide) hW28
        have hW132 : WI 132 σ11.1 := WI.tr hOσ11 (by decide) (by decide) (by decide) hW132
        have hW158 : WI 158 σ11.1 := WI.tr hOσ11 (by decide) (by decide) (by decide) hW158
        have hW184 : WI 184 σ11.1 := WI.tr hOσ11 (by decide) (by decide) (by decide) hW184
        have hL : SI σ11.1 := SI.tr hOσ11 (by decide) (by decide) (by decide) (by decide) hL
        have hD : RD σ11.1 := RD.tr hOσ11 (by decide) (by decide) (by decide) (by decide) hD
        have hu : 2 ≤ (σ11.1 111 8).toInt ∧ (σ11.1 111 8).toInt ≤ 1600 := by rw [hOσ11.2 111 (by decide)] <;> exact hu
        have ht : 0 ≤ (σ11.1 0 1).toInt ∧ (σ11.1 0 1).toInt ≤ 600 := by rw [hOσ11.2 0 (by decide)] <;> exact ht
        exact ok_some ⟨hT, (show CF σ11.1 from by exact ⟨hW2, hW28, hW132, hW158, hW184, hL, hD, hu, ht⟩)⟩
      · exact ok_some ⟨hT, (show CF σ2.1 from by exact ⟨hW2, hW28, hW132, hW158, hW184, hL, hD, hu, ht⟩)⟩

set_option maxHeartbeats 4000000 in
set_option maxRecDepth 100000 in
theorem s_X11_judge_n2 {N : Nat} (hN : 1048576 ≤ N) {x1 : Int32} {x2 : Int32} {σ0 : zS}  (hR : RF σ0.2.2) (hNw : σ0.2.2 0 4 = 2) (hPw : σ0.2.2 0 5 = 28) (hC : CF σ0.1) : Ok (f_X11_judge N 0 x1 x2 σ0) (fun r => Tr [] σ0 r.2 ∧ (CF r.2.1)) := by
  have hT : Tr [] σ0 σ0 := Tr.rf
  obtain ⟨hW2, hW28, hW132, hW158, hW184, hL, hD, hu, ht⟩ := hC
  have hn := hW2.1
  have he := hW2.2.1
  have hD0 := hD
  have hL0 := hL
  have q10 := ti_one10 (x := σ0.1 2 0) hn.1 hn.2
  rw [f_X11_judge.eq_1]
  refine ok_gC rfl ?_
  refine ok_zbT (Q := fun V σ => (V = 0 ∨ V = 1) ∧ (¬ V = 0 → 0 ≤ x1.toInt ∧ x1.toInt ≤ 3)) hT (s_X11_isSlot hN (hR.tr hT) ) (fun _ h9 => absurd h9 List.not_mem_nil) (fun v1 σ2 hOσ2 hT hqv1 => ?_)
  have hqv1 : (v1 = 0 ∨ v1 = 1) ∧ (¬ v1 = 0 → 0 ≤ x1.toInt ∧ x1.toInt ≤ 3) := hqv1
  have hW2 : WI 2 σ2.1 := WI.tr hOσ2 (by decide) (by decide) (by decide) hW2
  have hW28 : WI 28 σ2.1 := WI.tr hOσ2 (by decide) (by decide) (by decide) hW28
  have hW132 : WI 132 σ2.1 := WI.tr hOσ2 (by decide) (by decide) (by decide) hW132
  have hW158 : WI 158 σ2.1 := WI.tr hOσ2 (by decide) (by decide) (by decide) hW158
  have hW184 : WI 184 σ2.1 := WI.tr hOσ2 (by decide) (by decide) (by decide) hW184
  have hL : SI σ2.1 := SI.tr hOσ2 (by decide) (by decide) (by decide) (by decide) hL
  have hD : RD σ2.1 := RD.tr hOσ2 (by decide) (by decide) (by decide) (by decide) hD
  have hu : 2 ≤ (σ2.1 111 8).toInt ∧ (σ2.1 111 8).toInt ≤ 1600 := by rw [hOσ2.2 111 (by decide)] <;> exact hu
  have ht : 0 ≤ (σ2.1 0 1).toInt ∧ (σ2.1 0 1).toInt ≤ 600 := by rw [hOσ2.2 0 (by decide)] <;> exact ht
  refine ok_if (fun hc3 => ?_) (fun hc3 => ?_)
  · exact ok_some ⟨hT, (show CF σ2.1 from by exact ⟨hW2, hW28, hW132, hW158, hW184, hL, hD, hu, ht⟩)⟩
  · have qhc3 := hqv1.2 hc3
    refine ok_gC rfl ?_
    have hTc := hT
    refine ok_zbT (Q := fun V σ => (V = 0 ∨ V = 1) ∧ (¬ V = 0 → 0 ≤ x2.toInt ∧ x2.toInt ≤ 9)) hT (s_X11_isRegister_n2 hN (hR.tr hT) ((hT.1.1 0 4 (by decide)).trans hNw) (by first | exact hn | omega | (rw [hT.2 2 (by decide)]; exact hn))) (fun _ h9 => absurd h9 List.not_mem_nil) (fun v4 σ5 hOσ5 hT hqv4 => ?_)
    have hqv4 : (v4 = 0 ∨ v4 = 1) ∧ (¬ v4 = 0 → 0 ≤ x2.toInt ∧ x2.toInt ≤ 9) := hqv4
    try simp only [hTc.2 _ List.not_mem_nil] at hqv4
    have hW2 : WI 2 σ5.1 := WI.tr hOσ5 (by decide) (by decide) (by decide) hW2
    have hW28 : WI 28 σ5.1 := WI.tr hOσ5 (by decide) (by decide) (by decide) hW28
    have hW132 : WI 132 σ5.1 := WI.tr hOσ5 (by decide) (by decide) (by decide) hW132
    have hW158 : WI 158 σ5.1 := WI.tr hOσ5 (by decide) (by decide) (by decide) hW158
    have hW184 : WI 184 σ5.1 := WI.tr hOσ5 (by decide) (by decide) (by decide) hW184
    have hL : SI σ5.1 := SI.tr hOσ5 (by decide) (by decide) (by decide) (by decide) hL
    have hD : RD σ5.1 := RD.tr hOσ5 (by decide) (by decide) (by decide) (by decide) hD
    have hu : 2 ≤ (σ5.1 111 8).toInt ∧ (σ5.1 111 8).toInt ≤ 1600 := by rw [hOσ5.2 111 (by decide)] <;> exact hu
    have ht : 0 ≤ (σ5.1 0 1).toInt ∧ (σ5.1 0 1).toInt ≤ 600 := by rw [hOσ5.2 0 (by decide)] <;> exact ht
    refine ok_if (fun hc6 => ?_) (fun hc6 => ?_)
    · exact ok_some ⟨hT, (show CF σ5.1 from by exact ⟨hW2, hW28, hW132, hW158, hW184, hL, hD, hu, ht⟩)⟩
    · have qhc6 := hqv4.2 hc6
      refine ok_gR (v := 56) hT rfl (hR 0 8 rfl) ?_
      obtain ⟨q9, eq9, kq9⟩ := arrS hR (k := 56) (i := x1) rfl (by first | omega | decide | (have q1 := hD.1; have q2 := hD.2.1; simp only [Int32.le_iff_toInt_le, Int32.lt_iff_toInt_lt, ti_add, ti_sub, ti_mul, Int32.reduceToInt] at *; omega)) (by first | omega | decide | (have q1 := hD.1; have q2 := hD.2.1; simp only [Int32.le_iff_toInt_le, Int32.lt_iff_toInt_lt, ti_add, ti_sub, ti_mul, Int32.reduceToInt] at *; omega))
      refine ok_aR (v := q9) hT rfl (by first | omega | decide | (have q1 := hD.1; have q2 := hD.2.1; simp only [Int32.le_iff_toInt_le, Int32.lt_iff_toInt_lt, ti_add, ti_sub, ti_mul, Int32.reduceToInt] at *; omega)) (by first | omega | decide | (have q1 := hD.1; have q2 := hD.2.1; simp only [Int32.le_iff_toInt_le, Int32.lt_iff_toInt_lt, ti_add, ti_sub, ti_mul, Int32.reduceToInt] at *; omega)) eq9 ?_
      have hq24 := hL0 q9 kq9
      refine ok_gC kq9 ?_
      have hTc := hT
      refine ok_zbT (Q := fun V σ => (V = 0 ∨ V = 1) ∧ (V = 0 → 0 ≤ (σ5.1 q9 2).toInt)) hT (s_X9_isBare hN (hR.tr hT) kq9) (fun _ h9 => absurd h9 List.not_mem_nil) (fun v10 σ11 hOσ11 hT hqv10 => ?_)
      have hqv10 : (v10 = 0 ∨ v10 = 1) ∧ (v10 = 0 → 0 ≤ (σ5.1 q9 2).toInt) := hqv10
      try simp only [hTc.2 _ List.not_mem_nil] at hqv10
      have hW2 : WI 2 σ11.1 := WI.tr hOσ11 (by decide) (by decide) (by decide) hW2
      have hW28 : WI 28 σ11.1 := WI.tr hOσ11 (by decide) (by decide) (by decide) hW28
      have hW132 : WI 132 σ11.1 := WI.tr hOσ11 (by decide) (by decide) (by decide) hW132
      have hW158 : WI 158 σ11.1 := WI.tr hOσ11 (by decide) (by decide) (by decide) hW158
      have hW184 : WI 184 σ11.1 := WI.tr hOσ11 (by decide) (by decide) (by decide) hW184
      have hL : SI σ11.1 := SI.tr hOσ11 (by decide) (by decide) (by decide) (by decide) hL
      have hD : RD σ11.1 := RD.tr hOσ11 (by decide) (by decide) (by decide) (by decide) hD
      have hu : 2 ≤ (σ11.1 111 8).toInt ∧ (σ11.1 111 8).toInt ≤ 1600 := by rw [hOσ11.2 111 (by decide)] <;> exact hu
      have ht : 0 ≤ (σ11.1 0 1).toInt ∧ (σ11.1 0 1).toInt ≤ 600 := by rw [hOσ11.2 0 (by decide)] <;> exact ht
      refine ok_if (fun hc12 => ?_) (fun hc12 => ?_)
      · refine ok_gR (v := 2) hT rfl hNw ?_
        refine ok_gR (v := 7) hT rfl (hR 2 7 rfl) ?_
        obtain ⟨q16, eq16, kq16⟩ := arrF hR (k := 7) (i := x2) rfl (by first | omega | decide | (have q1 := hD.1; have q2 := hD.2.1; simp only [Int32.le_iff_toInt_le, Int32.lt_iff_toInt_lt, ti_add, ti_sub, ti_mul, Int32.reduceToInt] at *; omega)) (by first | omega | decide | (have q1 := hD.1; have q2 := hD.2.1; simp only [Int32.le_iff_toInt_le, Int32.lt_iff_toInt_lt, ti_add, ti_sub, ti_mul, Int32.reduceToInt] at *; omega))
        refine ok_aR (v := q16) hT rfl (by first | omega | decide | (have q1 := hD.1; have q2 := hD.2.1; simp only [Int32.le_iff_toInt_le, Int32.lt_iff_toInt_lt, ti_add, ti_sub, ti_mul, Int32.reduceToInt] at *; omega)) (by first | omega | decide | (have q1 := hD.1; have q2 := hD.2.1; simp only [Int32.le_iff_toInt_le, Int32.lt_iff_toInt_lt, ti_add, ti_sub, ti_mul, Int32.reduceToInt] at *; omega)) eq16 ?_
        refine ok_lp (fun t : Int32 × Int32 × zS => Tr [] σ0 (t.2.2) ∧ (0 ≤ (t.2.1).toInt) ∧ (WI 2 (t.2.2).1) ∧ (WI 28 (t.2.2).1) ∧ (WI 132 (t.2.2).1) ∧ (WI 158 (t.2.2).1) ∧ (WI 184 (t.2.2).1) ∧ (SI (t.2.2).1) ∧ (RD (t.2.2).1) ∧ (2 ≤ ((t.2.2).1 111 8).toInt ∧ ((t.2.2).1 111 8).toInt ≤ 1600) ∧ (0 ≤ ((t.2.2).1 0 1).toInt ∧ ((t.2.2).1 0 1).toInt ≤ 600)) (fun t : Int32 × Int32 × zS => (60 - (t.2.1).toInt).toNat) (fun again17 t hI ih53_17 => ?_) N _ (show Tr [] σ0 σ11 ∧ (0 ≤ (0 : Int32).toInt) ∧ (WI 2 σ11.1) ∧ (WI 28 σ11.1) ∧ (WI 132 σ11.1) ∧ (WI 158 σ11.1) ∧ (WI 184 σ11.1) ∧ (SI σ11.1) ∧ (RD σ11.1) ∧ (2 ≤ (σ11.1 111 8).toInt ∧ (σ11.1 111 8).toInt ≤ 1600) ∧ (0 ≤ (σ11.1 0 1).toInt ∧ (σ11.1 0 1).toInt ≤ 600) from ⟨hT, (by first | omega | decide | (have q1 := hD.1; have q2 := hD.2.1; simp only [Int32.le_iff_toInt_le, Int32.lt_iff_toInt_lt, ti_add, ti_sub, ti_mul, Int32.reduceToInt] at *; omega)), hW2, hW28, hW132, hW158, hW184, hL, hD, hu, ht⟩) (show (60 - (0 : Int32).toInt).toNat < N from (by first | omega | decide | (have q1 := hD.1; have q2 := hD.2.1; simp only [Int32.le_iff_toInt_le, Int32.lt_iff_toInt_lt, ti_add, ti_sub, ti_mul, Int32.reduceToInt] at *; omega)))
        obtain ⟨x5_17, x6_17, σ17⟩ := t
        have hI : Tr [] σ0 σ17 ∧ (0 ≤ x6_17.toInt) ∧ (WI 2 σ17.1) ∧ (WI 28 σ17.1) ∧ (WI 132 σ17.1) ∧ (WI 158 σ17.1) ∧ (WI 184 σ17.1) ∧ (SI σ17.1) ∧ (RD σ17.1) ∧ (2 ≤ (σ17.1 111 8).toInt ∧ (σ17.1 111 8).toInt ≤ 1600) ∧ (0 ≤ (σ17.1 0 1).toInt ∧ (σ17.1 0 1).toInt ≤ 600) := hI
        obtain ⟨hT, hI17, hW2, hW28, hW132, hW158, hW184, hL, hD, hu, ht⟩ := hI
        rw [F_X11_judge_53.eq_1]
        refine ok_gI0 hT kq9 List.not_mem_nil ?_
        refine ok_if (fun hc19 => ?_) (fun hc19 => ?_)
        · refine ok_gC kq16 ?_
          have hTc := hT
          refine ok_zbT (Q := fun V σ => -1 ≤ V.toInt ∧ V.toInt ≤ 1023) hT (s_X2_firstFrom hN (hR.tr hT) kq16) (fun _ h9 => absurd h9 List.not_mem_nil) (fun v20 σ21 hOσ21 hT hqv20 => ?_)
          have hqv20 : -1 ≤ v20.toInt ∧ v20.toInt ≤ 1023 := hqv20
          try simp only [hTc.2 _ List.not_mem_nil] at hqv20
          have hW2 : WI 2 σ21.1 := WI.tr hOσ21 (by decide) (by decide) (by decide) hW2
          have hW28 : WI 28 σ21.1 := WI.tr hOσ21 (by decide) (by decide) (by decide) hW28
          have hW132 : WI 132 σ21.1 := WI.tr hOσ21 (by decide) (by decide) (by decide) hW132
          have hW158 : WI 158 σ21.1 := WI.tr hOσ21 (by decide) (by decide) (by decide) hW158
          have hW184 : WI 184 σ21.1 := WI.tr hOσ21 (by decide) (by decide) (by decide) hW184
          have hL : SI σ21.1 := SI.tr hOσ21 (by decide) (by decide) (by decide) (by decide) hL
          have hD : RD σ21.1 := RD.tr hOσ21 (by decide) (by decide) (by decide) (by decide) hD
          have hu : 2 ≤ (σ21.1 111 8).toInt ∧ (σ21.1 111 8).toInt ≤ 1600 := by rw [hOσ21.2 111 (by decide)] <;> exact hu
          have ht : 0 ≤ (σ21.1 0 1).toInt ∧ (σ21.1 0 1).toInt ≤ 600 := by rw [hOσ21.2 0 (by decide)] <;> exact ht
          refine ok_if (fun hc22 => ?_) (fun hc22 => ?_)
          · refine ok_gI0 hT kq9 List.not_mem_nil ?_
            exact ok_some ⟨hT, (show CF σ21.1 from by exact ⟨hW2, hW28, hW132, hW158, hW184, hL, hD, hu, ht⟩)⟩
          · exact ok_some ⟨hT, (show CF σ21.1 from by exact ⟨hW2, hW28, hW132, hW158, hW184, hL, hD, hu, ht⟩)⟩
        · refine ok_gC kq16 ?_
          have hTc := hT
          refine ok_zbT (Q := fun V σ => -1 ≤ V.toInt ∧ V.toInt ≤ 1023) hT (s_X2_firstFrom hN (hR.tr hT) kq16) (fun _ h9 => absurd h9 List.not_mem_nil) (fun v24 σ25 hOσ25 hT hqv24 => ?_)
          have hqv24 : -1 ≤ v24.toInt ∧ v24.toInt ≤ 1023 := hqv24
          try simp only [hTc.2 _ List.not_mem_nil] at hqv24
          have hW2 : WI 2 σ25.1 := WI.tr hOσ25 (by decide) (by decide) (by decide) hW2
          have hW28 : WI 28 σ25.1 := WI.tr hOσ25 (by decide) (by decide) (by decide) hW28
          have hW132 : WI 132 σ25.1 := WI.tr hOσ25 (by decide) (by decide) (by decide) hW132
          have hW158 : WI 158 σ25.1 := WI.tr hOσ25 (by decide) (by decide) (by decide) hW158
          have hW184 : WI 184 σ25.1 := WI.tr hOσ25 (by decide) (by decide) (by decide) hW184
          have hL : SI σ25.1 := SI.tr hOσ25 (by decide) (by decide) (by decide) (by decide) hL
          have hD : RD σ25.1 := RD.tr hOσ25 (by decide) (by decide) (by decide) (by decide) hD
          have hu : 2 ≤ (σ25.1 111 8).toInt ∧ (σ25.1 111 8).toInt ≤ 1600 := by rw [hOσ25.2 111 (by decide)] <;> exact hu
          have ht : 0 ≤ (σ25.1 0 1).toInt ∧ (σ25.1 0 1).toInt ≤ 600 := by rw [hOσ25.2 0 (by decide)] <;> exact ht
          refine ok_if (fun hc26 => ?_) (fun hc26 => ?_)
          · exact ok_some ⟨hT, (show CF σ25.1 from by exact ⟨hW2, hW28, hW132, hW158, hW184, hL, hD, hu, ht⟩)⟩
          · refine ok_gR hT kq9 (slot_R hR kq9).1 ?_
            refine ok_aJ (slot_R hR kq9).2 (by first | omega | decide | (have q1 := hD.1; have q2 := hD.2.1; simp only [Int32.le_iff_toInt_le, Int32.lt_iff_toInt_lt, ti_add, ti_sub, ti_mul, Int32.reduceToInt] at *; omega)) (by first | omega | decide | (have q1 := hD.1; have q2 := hD.2.1; simp only [Int32.le_iff_toInt_le, Int32.lt_iff_toInt_lt, ti_add, ti_sub, ti_mul, Int32.reduceToInt] at *; omega)) ?_
            generalize σ25.2.1 (q9 + 1) (Int32.toNatClampNeg (x6_17)) = v28
            refine ok_if (fun hc29 => ?_) (fun hc29 => ?_)
            · exact ih53_17 (v24 + 1, x6_17 + 1, σ25) (show Tr [] σ0 σ25 ∧ (0 ≤ (x6_17 + 1).toInt) ∧ (WI 2 σ25.1) ∧ (WI 28 σ25.1) ∧ (WI 132 σ25.1) ∧ (WI 158 σ25.1) ∧ (WI 184 σ25.1) ∧ (SI σ25.1) ∧ (RD σ25.1) ∧ (2 ≤ (σ25.1 111 8).toInt ∧ (σ25.1 111 8).toInt ≤ 1600) ∧ (0 ≤ (σ25.1 0 1).toInt ∧ (σ25.1 0 1).toInt ≤ 600) from ⟨hT, (by first | omega | decide | (have q1 := hD.1; have q2 := hD.2.1; simp only [Int32.le_iff_toInt_le, Int32.lt_iff_toInt_lt, ti_add, ti_sub, ti_mul, Int32.reduceToInt] at *; omega)), hW2, hW28, hW132, hW158, hW184, hL, hD, hu, ht⟩) (show (60 - (x6_17 + 1).toInt).toNat < (60 - x6_17.toInt).toNat from (by first | omega | decide | (have q1 := hD.1; have q2 := hD.2.1; simp only [Int32.le_iff_toInt_le, Int32.lt_iff_toInt_lt, ti_add, ti_sub, ti_mul, Int32.reduceToInt] at *; omega)))
            · exact ok_some ⟨hT, (show CF σ25.1 from by exact ⟨hW2, hW28, hW132, hW158, hW184, hL, hD, hu, ht⟩)⟩
      · exact ok_some ⟨hT, (show CF σ11.1 from by exact ⟨hW2, hW28, hW132, hW158, hW184, hL, hD, hu, ht⟩)⟩

set_option maxHeartbeats 4000000 in
set_option maxRecDepth 100000 in
theorem s_X11_takes_n2 {N : Nat} (hN : 1048576 ≤ N) {x1 : Int32} {x2 : Int32} {σ0 : zS}  (hR : RF σ0.2.2) (hNw : σ0.2.2 0 4 = 2) (hPw : σ0.2.2 0 5 = 28) (hC : CF σ0.1) : Ok (f_X11_takes N 0 x1 x2 σ0) (fun r => Tr [] σ0 r.2 ∧ (CF r.2.1)) := by
  have hT : Tr [] σ0 σ0 := Tr.rf
  obtain ⟨hW2, hW28, hW132, hW158, hW184, hL, hD, hu, ht⟩ := hC
  have hn := hW2.1
  have he := hW2.2.1
  have hD0 := hD
  have hL0 := hL
  have q10 := ti_one10 (x := σ0.1 2 0) hn.1 hn.2
  rw [f_X11_takes.eq_1]
  refine ok_gC rfl ?_
  refine ok_zbT (Q := fun V σ => (V = 0 ∨ V = 1) ∧ (¬ V = 0 → 0 ≤ x1.toInt ∧ x1.toInt ≤ 9)) hT (s_X11_isRegister_n2 hN (hR.tr hT) ((hT.1.1 0 4 (by decide)).trans hNw) (by first | exact hn | omega | (rw [hT.2 2 (by decide)]; exact hn))) (fun _ h9 => absurd h9 List.not_mem_nil) (fun v1 σ2 hOσ2 hT hqv1 => ?_)
  have hqv1 : (v1 = 0 ∨ v1 = 1) ∧ (¬ v1 = 0 → 0 ≤ x1.toInt ∧ x1.toInt ≤ 9) := hqv1
  have hW2 : WI 2 σ2.1 := WI.tr hOσ2 (by decide) (by decide) (by decide) hW2
  have hW28 : WI 28 σ2.1 := WI.tr hOσ2 (by decide) (by decide) (by decide) hW28
  have hW132 : WI 132 σ2.1 := WI.tr hOσ2 (by decide) (by decide) (by decide) hW132
  have hW158 : WI 158 σ2.1 := WI.tr hOσ2 (by decide) (by decide) (by decide) hW158
  have hW184 : WI 184 σ2.1 := WI.tr hOσ2 (by decide) (by decide) (by decide) hW184
  have hL : SI σ2.1 := SI.tr hOσ2 (by decide) (by decide) (by decide) (by decide) hL
  have hD : RD σ2.1 := RD.tr hOσ2 (by decide) (by decide) (by decide) (by decide) hD
  have hu : 2 ≤ (σ2.1 111 8).toInt ∧ (σ2.1 111 8).toInt ≤ 1600 := by rw [hOσ2.2 111 (by decide)] <;> exact hu
  have ht : 0 ≤ (σ2.1 0 1).toInt ∧ (σ2.1 0 1).toInt ≤ 600 := by rw [hOσ2.2 0 (by decide)] <;> exact ht
  refine ok_if (fun hc3 => ?_) (fun hc3 => ?_)
  · exact ok_some ⟨hT, (show CF σ2.1 from by exact ⟨hW2, hW28, hW132, hW158, hW184, hL, hD, hu, ht⟩)⟩
  · have qhc3 := hqv1.2 hc3
    refine ok_gC rfl ?_
    have hTc := hT
    refine ok_zbT (Q := fun V σ => (V = 0 ∨ V = 1) ∧ (¬ V = 0 → 0 ≤ x2.toInt ∧ x2.toInt ≤ 3)) hT (s_X11_isSlot hN (hR.tr hT) ) (fun _ h9 => absurd h9 List.not_mem_nil) (fun v4 σ5 hOσ5 hT hqv4 => ?_)
    have hqv4 : (v4 = 0 ∨ v4 = 1) ∧ (¬ v4 = 0 → 0 ≤ x2.toInt ∧ x2.toInt ≤ 3) := hqv4
    try simp only [hTc.2 _ List.not_mem_nil] at hqv4
    have hW2 : WI 2 σ5.1 := WI.tr hOσ5 (by decide) (by decide) (by decide) hW2
    have hW28 : WI 28 σ5.1 := WI.tr hOσ5 (by decide) (by decide) (by decide) hW28
    have hW132 : WI 132 σ5.1 := WI.tr hOσ5 (by decide) (by decide) (by decide) hW132
    have hW158 : WI 158 σ5.1 := WI.tr hOσ5 (by decide) (by decide) (by decide) hW158
    have hW184 : WI 184 σ5.1 := WI.tr hOσ5 (by decide) (by decide) (by decide) hW184
    have hL : SI σ5.1 := SI.tr hOσ5 (by decide) (by decide) (by decide) (by decide) hL
    have hD : RD σ5.1 := RD.tr hOσ5 (by decide) (by decide) (by decide) (by decide) hD
    have hu : 2 ≤ (σ5.1 111 8).toInt ∧ (σ5.1 111 8).toInt ≤ 1600 := by rw [hOσ5.2 111 (by decide)] <;> exact hu
    have ht : 0 ≤ (σ5.1 0 1).toInt ∧ (σ5.1 0 1).toInt ≤ 600 := by rw [hOσ5.2 0 (by decide)] <;> exact ht
    refine ok_if (fun hc6 => ?_) (fun hc6 => ?_)
    · exact ok_some ⟨hT, (show CF σ5.1 from by exact ⟨hW2, hW28, hW132, hW158, hW184, hL, hD, hu, ht⟩)⟩
    · have qhc6 := hqv4.2 hc6
      refine ok_gR (v := 56) hT rfl (hR 0 8 rfl) ?_
      obtain ⟨q9, eq9, kq9⟩ := arrS hR (k := 56) (i := x2) rfl (by first | omega | decide | (have q1 := hD.1; have q2 := hD.2.1; simp only [Int32.le_iff_toInt_le, Int32.lt_iff_toInt_lt, ti_add, ti_sub, ti_mul, Int32.reduceToInt] at *; omega)) (by first | omega | decide | (have q1 := hD.1; have q2 := hD.2.1; simp only [Int32.le_iff_toInt_le, Int32.lt_iff_toInt_lt, ti_add, ti_sub, ti_mul, Int32.reduceToInt] at *; omega))
      refine ok_aR (v := q9) hT rfl (by first | omega | decide | (have q1 := hD.1; have q2 := hD.2.1; simp only [Int32.le_iff_toInt_le, Int32.lt_iff_toInt_lt, ti_add, ti_sub, ti_mul, Int32.reduceToInt] at *; omega)) (by first | omega | decide | (have q1 := hD.1; have q2 := hD.2.1; simp only [Int32.le_iff_toInt_le, Int32.lt_iff_toInt_lt, ti_add, ti_sub, ti_mul, Int32.reduceToInt] at *; omega)) eq9 ?_
      have hq24 := hL0 q9 kq9
      refine ok_gC kq9 ?_
      have hTc := hT
      refine ok_zbT (Q := fun V σ => (V = 0 ∨ V = 1) ∧ (V = 0 → 0 ≤ (σ5.1 q9 2).toInt)) hT (s_X9_isBare hN (hR.tr hT) kq9) (fun _ h9 => absurd h9 List.not_mem_nil) (fun v10 σ11 hOσ11 hT hqv10 => ?_)
      have hqv10 : (v10 = 0 ∨ v10 = 1) ∧ (v10 = 0 → 0 ≤ (σ5.1 q9 2).toInt) := hqv10
      try simp only [hTc.2 _ List.not_mem_nil] at hqv10
      have hW2 : WI 2 σ11.1 := WI.tr hOσ11 (by decide) (by decide) (by decide) hW2
      have hW28 : WI 28 σ11.1 := WI.tr hOσ11 (by decide) (by decide) (by decide) hW28
      have hW132 : WI 132 σ11.1 := WI.tr hOσ11 (by decide) (by decide) (by decide) hW132
      have hW158 : WI 158 σ11.1 := WI.tr hOσ11 (by decide) (by decide) (by decide) hW158
      have hW184 : WI 184 σ11.1 := WI.tr hOσ11 (by decide) (by decide) (by decide) hW184
      have hL : SI σ11.1 := SI.tr hOσ11 (by decide) (by decide) (by decide) (by decide) hL
      have hD : RD σ11.1 := RD.tr hOσ11 (by decide) (by decide) (by decide) (by decide) hD
      have hu : 2 ≤ (σ11.1 111 8).toInt ∧ (σ11.1 111 8).toInt ≤ 1600 := by rw [hOσ11.2 111 (by decide)] <;> exact hu
      have ht : 0 ≤ (σ11.1 0 1).toInt ∧ (σ11.1 0 1).toInt ≤ 600 := by rw [hOσ11.2 0 (by decide)] <;> exact ht
      refine ok_if (fun hc12 => ?_) (fun hc12 => ?_)
      · refine ok_gR (v := 128) hT rfl (hR 0 17 rfl) ?_
        refine ok_gC rfl ?_
        refine ok_zbT (Q := fun V σ => True) hT (s_X2_clear hN (hR.tr hT) rfl) (fun _ h9 => absurd h9 List.not_mem_nil) (fun v14 σ15 hOσ15 hT hqv14 => ?_)
        have hW2 : WI 2 σ15.1 := WI.tr hOσ15 (by decide) (by decide) (by decide) hW2
        have hW28 : WI 28 σ15.1 := WI.tr hOσ15 (by decide) (by decide) (by decide) hW28
        have hW132 : WI 132 σ15.1 := WI.tr hOσ15 (by decide) (by decide) (by decide) hW132
        have hW158 : WI 158 σ15.1 := WI.tr hOσ15 (by decide) (by decide) (by decide) hW158
        have hW184 : WI 184 σ15.1 := WI.tr hOσ15 (by decide) (by decide) (by decide) hW184
        have hL : SI σ15.1 := SI.tr hOσ15 (by decide) (by decide) (by decide) (by decide) hL
        have hD : RD σ15.1 := RD.tr hOσ15 (by decide) (by decide) (by decide) (by decide) hD
        have hu : 2 ≤ (σ15.1 111 8).toInt ∧ (σ15.1 111 8).toInt ≤ 1600 := by rw [hOσ15.2 111 (by decide)] <;> exact hu
        have ht : 0 ≤ (σ15.1 0 1).toInt ∧ (σ15.1 0 1).toInt ≤ 600 := by rw [hOσ15.2 0 (by decide)] <;> exact ht
        refine ok_lp (fun t : Int32 × zS => Tr [] σ0 (t.2) ∧ (0 ≤ (t.1).toInt) ∧ (WI 2 (t.2).1) ∧ (WI 28 (t.2).1) ∧ (WI 132 (t.2).1) ∧ (WI 158 (t.2).1) ∧ (WI 184 (t.2).1) ∧ (SI (t.2).1) ∧ (RD (t.2).1) ∧ (2 ≤ ((t.2).1 111 8).toInt ∧ ((t.2).1 111 8).toInt ≤ 1600) ∧ (0 ≤ ((t.2).1 0 1).toInt ∧ ((t.2).1 0 1).toInt ≤ 600)) (fun t : Int32 × zS => (60 - (t.1).toInt).toNat) (fun again16 t hI ih46_16 => ?_) N _ (show Tr [] σ0 σ15 ∧ (0 ≤ (0 : Int32).toInt) ∧ (WI 2 σ15.1) ∧ (WI 28 σ15.1) ∧ (WI 132 σ15.1) ∧ (WI 158 σ15.1) ∧ (WI 184 σ15.1) ∧ (SI σ15.1) ∧ (RD σ15.1) ∧ (2 ≤ (σ15.1 111 8).toInt ∧ (σ15.1 111 8).toInt ≤ 1600) ∧ (0 ≤ (σ15.1 0 1).toInt ∧ (σ15.1 0 1).toInt ≤ 600) from ⟨hT, (by first | omega | decide | (have q1 := hD.1; have q2 := hD.2.1; simp only [Int32.le_iff_toInt_le, Int32.lt_iff_toInt_lt, ti_add, ti_sub, ti_mul, Int32.reduceToInt] at *; omega)), hW2, hW28, hW132, hW158, hW184, hL, hD, hu, ht⟩) (show (60 - (0 : Int32).toInt).toNat < N from (by first | omega | decide | (have q1 := hD.1; have q2 := hD.2.1; simp only [Int32.le_iff_toInt_le, Int32.lt_iff_toInt_lt, ti_add, ti_sub, ti_mul, Int32.reduceToInt] at *; omega)))
        obtain ⟨x4_16, σ16⟩ := t
        have hI : Tr [] σ0 σ16 ∧ (0 ≤ x4_16.toInt) ∧ (WI 2 σ16.1) ∧ (WI 28 σ16.1) ∧ (WI 132 σ16.1) ∧ (WI 158 σ16.1) ∧ (WI 184 σ16.1) ∧ (SI σ16.1) ∧ (RD σ16.1) ∧ (2 ≤ (σ16.1 111 8).toInt ∧ (σ16.1 111 8).toInt ≤ 1600) ∧ (0 ≤ (σ16.1 0 1).toInt ∧ (σ16.1 0 1).toInt ≤ 600) := hI
        obtain ⟨hT, hI16, hW2, hW28, hW132, hW158, hW184, hL, hD, hu, ht⟩ := hI
        rw [F_X11_takes_46.eq_1]
        refine ok_gI0 hT kq9 List.not_mem_nil ?_
        refine ok_if (fun hc18 => ?_) (fun hc18 => ?_)
        · refine ok_gC rfl ?_
          refine ok_zbT (Q := fun V σ => True) hT (s_X11_store_n2 hN (hR.tr hT) ((hT.1.1 0 4 (by decide)).trans hNw) (by first | exact hn | omega | (rw [hT.2 2 (by decide)]; exact hn))) (fun _ h9 => absurd h9 List.not_mem_nil) (fun v19 σ20 hOσ20 hT hqv19 => ?_)
          have hW2 : WI 2 σ20.1 := WI.tr hOσ20 (by decide) (by decide) (by decide) hW2
          have hW28 : WI 28 σ20.1 := WI.tr hOσ20 (by decide) (by decide) (by decide) hW28
          have hW132 : WI 132 σ20.1 := WI.tr hOσ20 (by decide) (by decide) (by decide) hW132
          have hW158 : WI 158 σ20.1 := WI.tr hOσ20 (by decide) (by decide) (by decide) hW158
          have hW184 : WI 184 σ20.1 := WI.tr hOσ20 (by decide) (by decide) (by decide) hW184
          have hL : SI σ20.1 := SI.tr hOσ20 (by decide) (by decide) (by decide) (by decide) hL
          have hD : RD σ20.1 := RD.tr hOσ20 (by decide) (by decide) (by decide) (by decide) hD
          have hu : 2 ≤ (σ20.1 111 8).toInt ∧ (σ20.1 111 8).toInt ≤ 1600 := by rw [hOσ20.2 111 (by decide)] <;> exact hu
          have ht : 0 ≤ (σ20.1 0 1).toInt ∧ (σ20.1 0 1).toInt ≤ 600 := by rw [hOσ20.2 0 (by decide)] <;> exact ht
          exact ok_some ⟨hT, (show CF σ20.1 from by exact ⟨hW2, hW28, hW132, hW158, hW184, hL, hD, hu, ht⟩)⟩
        · refine ok_gR hT kq9 (slot_R hR kq9).1 ?_
          refine ok_aJ (slot_R hR kq9).2 (by first | omega | decide | (have q1 := hD.1; have q2 := hD.2.1; simp only [Int32.le_iff_toInt_le, Int32.lt_iff_toInt_lt, ti_add, ti_sub, ti_mul, Int32.reduceToInt] at *; omega)) (by first | omega | decide | (have q1 := hD.1; have q2 := hD.2.1; simp only [Int32.le_iff_toInt_le, Int32.lt_iff_toInt_lt, ti_add, ti_sub, ti_mul, Int32.reduceToInt] at *; omega)) ?_
          generalize σ16.2.1 (q9 + 1) (Int32.toNatClampNeg (x4_16)) = v22
          refine ok_if (fun hc23 => ?_) (fun hc23 => ?_)
          · exact ok_some ⟨hT, (show CF σ16.1 from by exact ⟨hW2, hW28, hW132, hW158, hW184, hL, hD, hu, ht⟩)⟩
          · refine ok_gR (v := 2) hT rfl hNw ?_
            refine ok_gI0 hT rfl (by decide) ?_
            refine ok_if (fun hc26 => ?_) (fun hc26 => ?_)
            · refine ok_gR (v := 128) hT rfl (hR 0 17 rfl) ?_
              refine ok_gC rfl ?_
              refine ok_zbT (Q := fun V σ => True) hT (s_X2_include hN (hR.tr hT) rfl) (fun _ h9 => absurd h9 List.not_mem_nil) (fun v28 σ29 hOσ29 hT hqv28 => ?_)
              have hW2 : WI 2 σ29.1 := WI.tr hOσ29 (by decide) (by decide) (by decide) hW2
              have hW28 : WI 28 σ29.1 := WI.tr hOσ29 (by decide) (by decide) (by decide) hW28
              have hW132 : WI 132 σ29.1 := WI.tr hOσ29 (by decide) (by decide) (by decide) hW132
              have hW158 : WI 158 σ29.1 := WI.tr hOσ29 (by decide) (by decide) (by decide) hW158
              have hW184 : WI 184 σ29.1 := WI.tr hOσ29 (by decide) (by decide) (by decide) hW184
              have hL : SI σ29.1 := SI.tr hOσ29 (by decide) (by decide) (by decide) (by decide) hL
              have hD : RD σ29.1 := RD.tr hOσ29 (by decide) (by decide) (by decide) (by decide) hD
              have hu : 2 ≤ (σ29.1 111 8).toInt ∧ (σ29.1 111 8).toInt ≤ 1600 := by rw [hOσ29.2 111 (by decide)] <;> exact hu
              have ht : 0 ≤ (σ29.1 0 1).toInt ∧ (σ29.1 0 1).toInt ≤ 600 := by rw [hOσ29.2 0 (by decide)] <;> exact ht
              exact ih46_16 (x4_16 + 1, σ29) (show Tr [] σ0 σ29 ∧ (0 ≤ (x4_16 + 1).toInt) ∧ (WI 2 σ29.1) ∧ (WI 28 σ29.1) ∧ (WI 132 σ29.1) ∧ (WI 158 σ29.1) ∧ (WI 184 σ29.1) ∧ (SI σ29.1) ∧ (RD σ29.1) ∧ (2 ≤ (σ29.1 111 8).toInt ∧ (σ29.1 111 8).toInt ≤ 1600) ∧ (0 ≤ (σ29.1 0 1).toInt ∧ (σ29.1 0 1).toInt ≤ 600) from ⟨hT, (by first | omega | decide | (have q1 := hD.1; have q2 := hD.2.1; simp only [Int32.le_iff_toInt_le, Int32.lt_iff_toInt_lt, ti_add, ti_sub, ti_mul, Int32.reduceToInt] at *; omega)), hW2, hW28, hW132, hW158, hW184, hL, hD, hu, ht⟩) (show (60 - (x4_16 + 1).toInt).toNat < (60 - x4_16.toInt).toNat from (by first | omega | decide | (have q1 := hD.1; have q2 := hD.2.1; simp only [Int32.le_iff_toInt_le, Int32.lt_iff_toInt_lt, ti_add, ti_sub, ti_mul, Int32.reduceToInt] at *; omega)))
            · exact ok_some ⟨hT, (show CF σ16.1 from by exact ⟨hW2, hW28, hW132, hW158, hW184, hL, hD, hu, ht⟩)⟩
      · exact ok_some ⟨hT, (show CF σ11.1 from by exact ⟨hW2, hW28, hW132, hW158, hW184, hL, hD, hu, ht⟩)⟩

set_option maxHeartbeats 4000000 in
set_option maxRecDepth 100000 in
theorem s_X11_write_n2 {N : Nat} (hN : 1048576 ≤ N) {x1 : Int32} {x2 : Int32} {x3 : Int64} {σ0 : zS}  (hR : RF σ0.2.2) (hNw : σ0.2.2 0 4 = 2) (hPw : σ0.2.2 0 5 = 28) (hC : CF σ0.1) : Ok (f_X11_write N 0 x1 x2 x3 σ0) (fun r => Tr [] σ0 r.2 ∧ (CF r.2.1)) := by
  have hT : Tr [] σ0 σ0 := Tr.rf
  obtain ⟨hW2, hW28, hW132, hW158, hW184, hL, hD, hu, ht⟩ := hC
  have hn := hW2.1
  have he := hW2.2.1
  have hD0 := hD
  have hL0 := hL
  have q10 := ti_one10 (x := σ0.1 2 0) hn.1 hn.2
  rw [f_X11_write.eq_1]
  refine ok_gC rfl ?_
  refine ok_zbT (Q := fun V σ => (V = 0 ∨ V = 1) ∧ (¬ V = 0 → 0 ≤ x1.toInt ∧ x1.toInt ≤ 3)) hT (s_X11_isSlot hN (hR.tr hT) ) (fun _ h9 => absurd h9 List.not_mem_nil) (fun v1 σ2 hOσ2 hT hqv1 => ?_)
  have hqv1 : (v1 = 0 ∨ v1 = 1) ∧ (¬ v1 = 0 → 0 ≤ x1.toInt ∧ x1.toInt ≤ 3) := hqv1
  have hW2 : WI 2 σ2.1 := WI.tr hOσ2 (by decide) (by decide) (by decide) hW2
  have hW28 : WI 28 σ2.1 := WI.tr hOσ2 (by decide) (by decide) (by decide) hW28
  have hW132 : WI 132 σ2.1 := WI.tr hOσ2 (by decide) (by decide) (by decide) hW132
  have hW158 : WI 158 σ2.1 := WI.tr hOσ2 (by decide) (by decide) (by decide) hW158
  have hW184 : WI 184 σ2.1 := WI.tr hOσ2 (by decide) (by decide) (by decide) hW184
  have hL : SI σ2.1 := SI.tr hOσ2 (by decide) (by decide) (by decide) (by decide) hL
  have hD : RD σ2.1 := RD.tr hOσ2 (by decide) (by decide) (by decide) (by decide) hD
  have hu : 2 ≤ (σ2.1 111 8).toInt ∧ (σ2.1 111 8).toInt ≤ 1600 := by rw [hOσ2.2 111 (by decide)] <;> exact hu
  have ht : 0 ≤ (σ2.1 0 1).toInt ∧ (σ2.1 0 1).toInt ≤ 600 := by rw [hOσ2.2 0 (by decide)] <;> exact ht
  refine ok_if (fun hc3 => ?_) (fun hc3 => ?_)
  · exact ok_some ⟨hT, (show CF σ2.1 from by exact ⟨hW2, hW28, hW132, hW158, hW184, hL, hD, hu, ht⟩)⟩
  · have qhc3 := hqv1.2 hc3
    refine ok_gR (v := 56) hT rfl (hR 0 8 rfl) ?_
    obtain ⟨q6, eq6, kq6⟩ := arrS hR (k := 56) (i := x1) rfl (by first | omega | decide | (have q1 := hD.1; have q2 := hD.2.1; simp only [Int32.le_iff_toInt_le, Int32.lt_iff_toInt_lt, ti_add, ti_sub, ti_mul, Int32.reduceToInt] at *; omega)) (by first | omega | decide | (have q1 := hD.1; have q2 := hD.2.1; simp only [Int32.le_iff_toInt_le, Int32.lt_iff_toInt_lt, ti_add, ti_sub, ti_mul, Int32.reduceToInt] at *; omega))
    refine ok_aR (v := q6) hT rfl (by first | omega | decide | (have q1 := hD.1; have q2 := hD.2.1; simp only [Int32.le_iff_toInt_le, Int32.lt_iff_toInt_lt, ti_add, ti_sub, ti_mul, Int32.reduceToInt] at *; omega)) (by first | omega | decide | (have q1 := hD.1; have q2 := hD.2.1; simp only [Int32.le_iff_toInt_le, Int32.lt_iff_toInt_lt, ti_add, ti_sub, ti_mul, Int32.reduceToInt] at *; omega)) eq6 ?_
    have hq16 := hL0 q6 kq6
    refine ok_gC kq6 ?_
    have hTc := hT
    refine ok_zbT (Q := fun V σ => (V = 0 ∨ V = 1) ∧ (V = 0 → 0 ≤ (σ2.1 q6 2).toInt)) hT (s_X9_isBare hN (hR.tr hT) kq6) (fun _ h9 => absurd h9 List.not_mem_nil) (fun v7 σ8 hOσ8 hT hqv7 => ?_)
    have hqv7 : (v7 = 0 ∨ v7 = 1) ∧ (v7 = 0 → 0 ≤ (σ2.1 q6 2).toInt) := hqv7
    try simp only [hTc.2 _ List.not_mem_nil] at hqv7
    have hW2 : WI 2 σ8.1 := WI.tr hOσ8 (by decide) (by decide) (by decide) hW2
    have hW28 : WI 28 σ8.1 := WI.tr hOσ8 (by decide) (by decide) (by decide) hW28
    have hW132 : WI 132 σ8.1 := WI.tr hOσ8 (by decide) (by decide) (by decide) hW132
    have hW158 : WI 158 σ8.1 := WI.tr hOσ8 (by decide) (by decide) (by decide) hW158
    have hW184 : WI 184 σ8.1 := WI.tr hOσ8 (by decide) (by decide) (by decide) hW184
    have hL : SI σ8.1 := SI.tr hOσ8 (by decide) (by decide) (by decide) (by decide) hL
    have hD : RD σ8.1 := RD.tr hOσ8 (by decide) (by decide) (by decide) (by decide) hD
    have hu : 2 ≤ (σ8.1 111 8).toInt ∧ (σ8.1 111 8).toInt ≤ 1600 := by rw [hOσ8.2 111 (by decide)] <;> exact hu
    have ht : 0 ≤ (σ8.1 0 1).toInt ∧ (σ8.1 0 1).toInt ≤ 600 := by rw [hOσ8.2 0 (by decide)] <;> exact ht
    refine ok_if (fun hc9 => ?_) (fun hc9 => ?_)
    · refine ok_if (fun hc10 => ?_) (fun hc10 => ?_)
      · exact ok_some ⟨hT, (show CF σ8.1 from by exact ⟨hW2, hW28, hW132, hW158, hW184, hL, hD, hu, ht⟩)⟩
      · refine ok_gI0 hT kq6 List.not_mem_nil ?_
        refine ok_if (fun hc12 => ?_) (fun hc12 => ?_)
        · refine ok_gR hT kq6 (slot_R hR kq6).1 ?_
          refine ok_gC kq6 ?_
          refine ok_zbT (Q := fun V σ => True) hT (s_X9_cut hN (hR.tr hT) kq6) (fun _ h9 => absurd h9 List.not_mem_nil) (fun v14 σ15 hOσ15 hT hqv14 => ?_)
          have hW2 : WI 2 σ15.1 := WI.tr hOσ15 (by decide) (by decide) (by decide) hW2
          have hW28 : WI 28 σ15.1 := WI.tr hOσ15 (by decide) (by decide) (by decide) hW28
          have hW132 : WI 132 σ15.1 := WI.tr hOσ15 (by decide) (by decide) (by decide) hW132
          have hW158 : WI 158 σ15.1 := WI.tr hOσ15 (by decide) (by decide) (by decide) hW158
          have hW184 : WI 184 σ15.1 := WI.tr hOσ15 (by decide) (by decide) (by decide) hW184
          have hL : SI σ15.1 := SI.tr hOσ15 (by decide) (by decide) (by decide) (by decide) hL
          have hD : RD σ15.1 := RD.tr hOσ15 (by decide) (by decide) (by decide) (by decide) hD
          have hu : 2 ≤ (σ15.1 111 8).toInt ∧ (σ15.1 111 8).toInt ≤ 1600 := by rw [hOσ15.2 111 (by decide)] <;> exact hu
          have ht : 0 ≤ (σ15.1 0 1).toInt ∧ (σ15.1 0 1).toInt ≤ 600 := by rw [hOσ15.2 0 (by decide)] <;> exact ht
          refine ok_sJ hT (slot_R hR kq6).2 (by first | omega | decide | (have q1 := hD.1; have q2 := hD.2.1; simp only [Int32.le_iff_toInt_le, Int32.lt_iff_toInt_lt, ti_add, ti_sub, ti_mul, Int32.reduceToInt] at *; omega)) (by first | omega | decide | (have q1 := hD.1; have q2 := hD.2.1; simp only [Int32.le_iff_toInt_le, Int32.lt_iff_toInt_lt, ti_add, ti_sub, ti_mul, Int32.reduceToInt] at *; omega)) (fun σ16 eσ16 hOσ16 hT => ?_)
          have hW2 : WI 2 σ16.1 := WI.tr hOσ16 (by decide) (by decide) (by decide) hW2
          have hW28 : WI 28 σ16.1 := WI.tr hOσ16 (by decide) (by decide) (by decide) hW28
          have hW132 : WI 132 σ16.1 := WI.tr hOσ16 (by decide) (by decide) (by decide) hW132
          have hW158 : WI 158 σ16.1 := WI.tr hOσ16 (by decide) (by decide) (by decide) hW158
          have hW184 : WI 184 σ16.1 := WI.tr hOσ16 (by decide) (by decide) (by decide) hW184
          have hL : SI σ16.1 := SI.tr hOσ16 (by decide) (by decide) (by decide) (by decide) hL
          have hD : RD σ16.1 := RD.tr hOσ16 (by decide) (by decide) (by decide) (by decide) hD
          have hu : 2 ≤ (σ16.1 111 8).toInt ∧ (σ16.1 111 8).toInt ≤ 1600 := by rw [hOσ16.2 111 (by decide)] <;> exact hu
          have ht : 0 ≤ (σ16.1 0 1).toInt ∧ (σ16.1 0 1).toInt ≤ 600 := by rw [hOσ16.2 0 (by decide)] <;> exact ht
          exact ok_some ⟨hT, (show CF σ16.1 from by exact ⟨hW2, hW28, hW132, hW158, hW184, hL, hD, hu, ht⟩)⟩
        · exact ok_some ⟨hT, (show CF σ8.1 from by exact ⟨hW2, hW28, hW132, hW158, hW184, hL, hD, hu, ht⟩)⟩
    · exact ok_some ⟨hT, (show CF σ8.1 from by exact ⟨hW2, hW28, hW132, hW158, hW184, hL, hD, hu, ht⟩)⟩

set_option maxHeartbeats 4000000 in
set_option maxRecDepth 100000 in
theorem s_X11_paste_n2 {N : Nat} (hN : 1048576 ≤ N) {x1 : Int32} {x2 : Int32} {x3 : Int32} {x4 : Int32} {x5 : Int32} {σ0 : zS}  (hR : RF σ0.2.2) (hNw : σ0.2.2 0 4 = 2) (hPw : σ0.2.2 0 5 = 28) (hC : CF σ0.1) : Ok (f_X11_paste N 0 x1 x2 x3 x4 x5 σ0) (fun r => Tr [] σ0 r.2 ∧ (CF r.2.1)) := by
  have hT : Tr [] σ0 σ0 := Tr.rf
  obtain ⟨hW2, hW28, hW132, hW158, hW184, hL, hD, hu, ht⟩ := hC
  have hn := hW2.1
  have he := hW2.2.1
  have hD0 := hD
  have hL0 := hL
  have q10 := ti_one10 (x := σ0.1 2 0) hn.1 hn.2
  rw [f_X11_paste.eq_1]
  refine ok_gC rfl ?_
  refine ok_zbT (Q := fun V σ => (V = 0 ∨ V = 1) ∧ (¬ V = 0 → 0 ≤ x1.toInt ∧ x1.toInt ≤ 3)) hT (s_X11_isSlot hN (hR.tr hT) ) (fun _ h9 => absurd h9 List.not_mem_nil) (fun v1 σ2 hOσ2 hT hqv1 => ?_)
  have hqv1 : (v1 = 0 ∨ v1 = 1) ∧ (¬ v1 = 0 → 0 ≤ x1.toInt ∧ x1.toInt ≤ 3) := hqv1
  have hW2 : WI 2 σ2.1 := WI.tr hOσ2 (by decide) (by decide) (by decide) hW2
  have hW28 : WI 28 σ2.1 := WI.tr hOσ2 (by decide) (by decide) (by decide) hW28
  have hW132 : WI 132 σ2.1 := WI.tr hOσ2 (by decide) (by decide) (by decide) hW132
  have hW158 : WI 158 σ2.1 := WI.tr hOσ2 (by decide) (by decide) (by decide) hW158
  have hW184 : WI 184 σ2.1 := WI.tr hOσ2 (by decide) (by decide) (by decide) hW184
  have hL : SI σ2.1 := SI.tr hOσ2 (by decide) (by decide) (by decide) (by decide) hL
  have hD : RD σ2.1 := RD.tr hOσ2 (by decide) (by decide) (by decide) (by decide) hD
  have hu : 2 ≤ (σ2.1 111 8).toInt ∧ (σ2.1 111 8).toInt ≤ 1600 := by rw [hOσ2.2 111 (by decide)] <;> exact hu
  have ht : 0 ≤ (σ2.1 0 1).toInt ∧ (σ2.1 0 1).toInt ≤ 600 := by rw [hOσ2.2 0 (by decide)] <;> exact ht
  refine ok_if (fun hc3 => ?_) (fun hc3 => ?_)
  · exact ok_some ⟨hT, (show CF σ2.1 from by exact ⟨hW2, hW28, hW132, hW158, hW184, hL, hD, hu, ht⟩)⟩
  · have qhc3 := hqv1.2 hc3
    refine ok_gC rfl ?_
    have hTc := hT
    refine ok_zbT (Q := fun V σ => (V = 0 ∨ V = 1) ∧ (¬ V = 0 → 0 ≤ x3.toInt ∧ x3.toInt ≤ 3)) hT (s_X11_isSlot hN (hR.tr hT) ) (fun _ h9 => absurd h9 List.not_mem_nil) (fun v4 σ5 hOσ5 hT hqv4 => ?_)
    have hqv4 : (v4 = 0 ∨ v4 = 1) ∧ (¬ v4 = 0 → 0 ≤ x3.toInt ∧ x3.toInt ≤ 3) := hqv4
    try simp only [hTc.2 _ List.not_mem_nil] at hqv4
    have hW2 : WI 2 σ5.1 := WI.tr hOσ5 (by decide) (by decide) (by decide) hW2
    have hW28 : WI 28 σ5.1 := WI.tr hOσ5 (by decide) (by decide) (by decide) hW28
    have hW132 : WI 132 σ5.1 := WI.tr hOσ5 (by decide) (by decide) (by decide) hW132
    have hW158 : WI 158 σ5.1 := WI.tr hOσ5 (by decide) (by decide) (by decide) hW158
    have hW184 : WI 184 σ5.1 := WI.tr hOσ5 (by decide) (by decide) (by decide) hW184
    have hL : SI σ5.1 := SI.tr hOσ5 (by decide) (by decide) (by decide) (by decide) hL
    have hD : RD σ5.1 := RD.tr hOσ5 (by decide) (by decide) (by decide) (by decide) hD
    have hu : 2 ≤ (σ5.1 111 8).toInt ∧ (σ5.1 111 8).toInt ≤ 1600 := by rw [hOσ5.2 111 (by decide)] <;> exact hu
    have ht : 0 ≤ (σ5.1 0 1).toInt ∧ (σ5.1 0 1).toInt ≤ 600 := by rw [hOσ5.2 0 (by decide)] <;> exact ht
    refine ok_if (fun hc6 => ?_) (fun hc6 => ?_)
    · exact ok_some ⟨hT, (show CF σ5.1 from by exact ⟨hW2, hW28, hW132, hW158, hW184, hL, hD, hu, ht⟩)⟩
    · have qhc6 := hqv4.2 hc6
      refine ok_gR (v := 56) hT rfl (hR 0 8 rfl) ?_
      obtain ⟨q9, eq9, kq9⟩ := arrS hR (k := 56) (i := x1) rfl (by first | omega | decide | (have q1 := hD.1; have q2 := hD.2.1; simp only [Int32.le_iff_toInt_le, Int32.lt_iff_toInt_lt, ti_add, ti_sub, ti_mul, Int32.reduceToInt] at *; omega)) (by first | omega | decide | (have q1 := hD.1; have q2 := hD.2.1; simp only [Int32.le_iff_toInt_le, Int32.lt_iff_toInt_lt, ti_add, ti_sub, ti_mul, Int32.reduceToInt] at *; omega))
      refine ok_aR (v := q9) hT rfl (by first | omega | decide | (have q1 := hD.1; have q2 := hD.2.1; simp only [Int32.le_iff_toInt_le, Int32.lt_iff_toInt_lt, ti_add, ti_sub, ti_mul, Int32.reduceToInt] at *; omega)) (by first | omega | decide | (have q1 := hD.1; have q2 := hD.2.1; simp only [Int32.le_iff_toInt_le, Int32.lt_iff_toInt_lt, ti_add, ti_sub, ti_mul, Int32.reduceToInt] at *; omega)) eq9 ?_
      have hq24 := hL0 q9 kq9
      refine ok_gR (v := 56) hT rfl (hR 0 8 rfl) ?_
      obtain ⟨q12, eq12, kq12⟩ := arrS hR (k := 56) (i := x3) rfl (by first | omega | decide | (have q1 := hD.1; have q2 := hD.2.1; simp only [Int32.le_iff_toInt_le, Int32.lt_iff_toInt_lt, ti_add, ti_sub, ti_mul, Int32.reduceToInt] at *; omega)) (by first | omega | decide | (have q1 := hD.1; have q2 := hD.2.1; simp only [Int32.le_iff_toInt_le, Int32.lt_iff_toInt_lt, ti_add, ti_sub, ti_mul, Int32.reduceToInt] at *; omega))
      refine ok_aR (v := q12) hT rfl (by first | omega | decide | (have q1 := hD.1; have q2 := hD.2.1; simp only [Int32.le_iff_toInt_le, Int32.lt_iff_toInt_lt, ti_add, ti_sub, ti_mul, Int32.reduceToInt] at *; omega)) (by first | omega | decide | (have q1 := hD.1; have q2 := hD.2.1; simp only [Int32.le_iff_toInt_le, Int32.lt_iff_toInt_lt, ti_add, ti_sub, ti_mul, Int32.reduceToInt] at *; omega)) eq12 ?_
      have hq32 := hL0 q12 kq12
      refine ok_gC kq9 ?_
      have hTc := hT
      refine ok_zbT (Q := fun V σ => (V = 0 ∨ V = 1) ∧ (V = 0 → 0 ≤ (σ5.1 q9 2).toInt)) hT (s_X9_isBare hN (hR.tr hT) kq9) (fun _ h9 => absurd h9 List.not_mem_nil) (fun v13 σ14 hOσ14 hT hqv13 => ?_)
      have hqv13 : (v13 = 0 ∨ v13 = 1) ∧ (v13 = 0 → 0 ≤ (σ5.1 q9 2).toInt) := hqv13
      try simp only [hTc.2 _ List.not_mem_nil] at hqv13
      have hW2 : WI 2 σ14.1 := WI.tr hOσ14 (by decide) (by decide) (by decide) hW2
      have hW28 : WI 28 σ14.1 := WI.tr hOσ14 (by decide) (by decide) (by decide) hW28
      have hW132 : WI 132 σ14.1 := WI.tr hOσ14 (by decide) (by decide) (by decide) hW132
      have hW158 : WI 158 σ14.1 := WI.tr hOσ14 (by decide) (by decide) (by decide) hW158
      have hW184 : WI 184 σ14.1 := WI.tr hOσ14 (by decide) (by decide) (by decide) hW184
      have hL : SI σ14.1 := SI.tr hOσ14 (by decide) (by decide) (by decide) (by decide) hL
      have hD : RD σ14.1 := RD.tr hOσ14 (by decide) (by decide) (by decide) (by decide) hD
      have hu : 2 ≤ (σ14.1 111 8).toInt ∧ (σ14.1 111 8).toInt ≤ 1600 := by rw [hOσ14.2 111 (by decide)] <;> exact hu
      have ht : 0 ≤ (σ14.1 0 1).toInt ∧ (σ14.1 0 1).toInt ≤ 600 := by rw [hOσ14.2 0 (by decide)] <;> exact ht
      refine ok_if (fun hc15 => ?_) (fun hc15 => ?_)
      · refine ok_gC kq12 ?_
        have hTc := hT
        refine ok_zbT (Q := fun V σ => (V = 0 ∨ V = 1) ∧ (V = 0 → 0 ≤ (σ14.1 q12 2).toInt)) hT (s_X9_isBare hN (hR.tr hT) kq12) (fun _ h9 => absurd h9 List.not_mem_nil) (fun v16 σ17 hOσ17 hT hqv16 => ?_)
        have hqv16 : (v16 = 0 ∨ v16 = 1) ∧ (v16 = 0 → 0 ≤ (σ14.1 q12 2).toInt) := hqv16
        try simp only [hTc.2 _ List.not_mem_nil] at hqv16
        have hW2 : WI 2 σ17.1 := WI.tr hOσ17 (by decide) (by decide) (by decide) hW2
        have hW28 : WI 28 σ17.1 := WI.tr hOσ17 (by decide) (by decide) (by decide) hW28
        have hW132 : WI 132 σ17.1 := WI.tr hOσ17 (by decide) (by decide) (by decide) hW132
        have hW158 : WI 158 σ17.1 := WI.tr hOσ17 (by decide) (by decide) (by decide) hW158
        have hW184 : WI 184 σ17.1 := WI.tr hOσ17 (by decide) (by decide) (by decide) hW184
        have hL : SI σ17.1 := SI.tr hOσ17 (by decide) (by decide) (by decide) (by decide) hL
        have hD : RD σ17.1 := RD.tr hOσ17 (by decide) (by decide) (by decide) (by decide) hD
        have hu : 2 ≤ (σ17.1 111 8).toInt ∧ (σ17.1 111 8).toInt ≤ 1600 := by rw [hOσ17.2 111 (by decide)] <;> exact hu
        have ht : 0 ≤ (σ17.1 0 1).toInt ∧ (σ17.1 0 1).toInt ≤ 600 := by rw [hOσ17.2 0 (by decide)] <;> exact ht
        refine ok_if (fun hc18 => ?_) (fun hc18 => ?_)
        · refine ok_gI0 hT kq9 List.not_mem_nil ?_
          refine ok_gI0 hT kq12 List.not_mem_nil ?_
          refine ok_if (fun hc21 => ?_) (fun hc21 => ?_)
          · refine ok_gC kq9 ?_
            have hTc := hT
            refine ok_zbT (Q := fun V σ => (V = 0 ∨ V = 1) ∧ (¬ V = 0 → 0 ≤ x2.toInt ∧ 0 ≤ x5.toInt ∧ x2.toInt + x5.toInt ≤ (σ17.1 q9 2).toInt)) hT (s_X9_spans hN (hR.tr hT) kq9) (fun _ h9 => absurd h9 List.not_mem_nil) (fun v22 σ23 hOσ23 hT hqv22 => ?_)
            have hqv22 : (v22 = 0 ∨ v22 = 1) ∧ (¬ v22 = 0 → 0 ≤ x2.toInt ∧ 0 ≤ x5.toInt ∧ x2.toInt + x5.toInt ≤ (σ17.1 q9 2).toInt) := hqv22
            try simp only [hTc.2 _ List.not_mem_nil] at hqv22
            have hW2 : WI 2 σ23.1 := WI.tr hOσ23 (by decide) (by decide) (by decide) hW2
            have hW28 : WI 28 σ23.1 := WI.tr hOσ23 (by decide) (by decide) (by decide) hW28
            have hW132 : WI 132 σ23.1 := WI.tr hOσ23 (by decide) (by decide) (by decide) hW132
            have hW158 : WI 158 σ23.1 := WI.tr hOσ23 (by decide) (by decide) (by decide) hW158
            have hW184 : WI 184 σ23.1 := WI.tr hOσ23 (by decide) (by decide) (by decide) hW184
            have hL : SI σ23.1 := SI.tr hOσ23 (by decide) (by decide) (by decide) (by decide) hL
            have hD : RD σ23.1 := RD.tr hOσ23 (by decide) (by decide) (by decide) (by decide) hD
            have hu : 2 ≤ (σ23.1 111 8).toInt ∧ (σ23.1 111 8).toInt ≤ 1600 := by rw [hOσ23.2 111 (by decide)] <;> exact hu
            have ht : 0 ≤ (σ23.1 0 1).toInt ∧ (σ23.1 0 1).toInt ≤ 600 := by rw [hOσ23.2 0 (by decide)] <;> exact ht
            refine ok_if (fun hc24 => ?_) (fun hc24 => ?_)
            · exact ok_some ⟨hT, (show CF σ23.1 from by exact ⟨hW2, hW28, hW132, hW158, hW184, hL, hD, hu, ht⟩)⟩
            · have qhc24 := hqv22.2 hc24
              refine ok_gC kq12 ?_
              have hTc := hT
              refine ok_zbT (Q := fun V σ => (V = 0 ∨ V = 1) ∧ (¬ V = 0 → 0 ≤ x4.toInt ∧ 0 ≤ x5.toInt ∧ x4.toInt + x5.toInt ≤ (σ23.1 q12 2).toInt)) hT (s_X9_spans hN (hR.tr hT) kq12) (fun _ h9 => absurd h9 List.not_mem_nil) (fun v25 σ26 hOσ26 hT hqv25 => ?_)
              have hqv25 : (v25 = 0 ∨ v25 = 1) ∧ (¬ v25 = 0 → 0 ≤ x4.toInt ∧ 0 ≤ x5.toInt ∧ x4.toInt + x5.toInt ≤ (σ23.1 q12 2).toInt) := hqv25
              try simp only [hTc.2 _ List.not_mem_nil] at hqv25
              have hW2 : WI 2 σ26.1 := WI.tr hOσ26 (by decide) (by decide) (by decide) hW2
              have hW28 : WI 28 σ26.1 := WI.tr hOσ26 (by decide) (by decide) (by decide) hW28
              have hW132 : WI 132 σ26.1 := WI.tr hOσ26 (by decide) (by decide) (by decide) hW132
              have hW158 : WI 158 σ26.1 := WI.tr hOσ26 (by decide) (by decide) (by decide) hW158
              have hW184 : WI 184 σ26.1 := WI.tr hOσ26 (by decide) (by decide) (by decide) hW184
              have hL : SI σ26.1 := SI.tr hOσ26 (by decide) (by decide) (by decide) (by decide) hL
              have hD : RD σ26.1 := RD.tr hOσ26 (by decide) (by decide) (by decide) (by decide) hD
              have hu : 2 ≤ (σ26.1 111 8).toInt ∧ (σ26.1 111 8).toInt ≤ 1600 := by rw [hOσ26.2 111 (by decide)] <;> exact hu
              have ht : 0 ≤ (σ26.1 0 1).toInt ∧ (σ26.1 0 1).toInt ≤ 600 := by rw [hOσ26.2 0 (by decide)] <;> exact ht
              refine ok_if (fun hc27 => ?_) (fun hc27 => ?_)
              · exact ok_some ⟨hT, (show CF σ26.1 from by exact ⟨hW2, hW28, hW132, hW158, hW184, hL, hD, hu, ht⟩)⟩
              · have qhc27 := hqv25.2 hc27
                refine ok_gR hT kq9 (slot_R hR kq9).1 ?_
                refine ok_gR hT kq12 (slot_R hR kq12).1 ?_
                refine ok_cpJ hT (slot_R hR kq9).2 (slot_R hR kq12).2 (by first | omega | decide | (have q1 := hD.1; have q2 := hD.2.1; simp only [Int32.le_iff_toInt_le, Int32.lt_iff_toInt_lt, ti_add, ti_sub, ti_mul, Int32.reduceToInt] at *; omega)) (by first | omega | decide | (have q1 := hD.1; have q2 := hD.2.1; simp only [Int32.le_iff_toInt_le, Int32.lt_iff_toInt_lt, ti_add, ti_sub, ti_mul, Int32.reduceToInt] at *; omega)) (by first | omega | decide | (have q1 := hD.1; have q2 := hD.2.1; simp only [Int32.le_iff_toInt_le, Int32.lt_iff_toInt_lt, ti_add, ti_sub, ti_mul, Int32.reduceToInt] at *; omega)) (by first | omega | decide | (have q1 := hD.1; have q2 := hD.2.1; simp only [Int32.le_iff_toInt_le, Int32.lt_iff_toInt_lt, ti_add, ti_sub, ti_mul, Int32.reduceToInt] at *; omega)) (by first | omega | decide | (have q1 := hD.1; have q2 := hD.2.1; simp only [Int32.le_iff_toInt_le, Int32.lt_iff_toInt_lt, ti_add, ti_sub, ti_mul, Int32.reduceToInt] at *; omega)) (fun σ30 eσ30 hOσ30 hT => ?_)
                have hW2 : WI 2 σ30.1 := WI.tr hOσ30 (by decide) (by decide) (by decide) hW2
                have hW28 : WI 28 σ30.1 := WI.tr hOσ30 (by decide) (by decide) (by decide) hW28
                have hW132 : WI 132 σ30.1 := WI.tr hOσ30 (by decide) (by decide) (by decide) hW132
                have hW158 : WI 158 σ30.1 := WI.tr hOσ30 (by decide) (by decide) (by decide) hW158
                have hW184 : WI 184 σ30.1 := WI.tr hOσ30 (by decide) (by decide) (by decide) hW184
                have hL : SI σ30.1 := SI.tr hOσ30 (by decide) (by decide) (by decide) (by decide) hL
                have hD : RD σ30.1 := RD.tr hOσ30 (by decide) (by decide) (by decide) (by decide) hD
                have hu : 2 ≤ (σ30.1 111 8).toInt ∧ (σ30.1 111 8).toInt ≤ 1600 := by rw [hOσ30.2 111 (by decide)] <;> exact hu
                have ht : 0 ≤ (σ30.1 0 1).toInt ∧ (σ30.1 0 1).toInt ≤ 600 := by rw [hOσ30.2 0 (by decide)] <;> exact ht
                exact ok_some ⟨hT, (show CF σ30.1 from by exact ⟨hW2, hW28, hW132, hW158, hW184, hL, hD, hu, ht⟩)⟩
          · exact ok_some ⟨hT, (show CF σ17.1 from by exact ⟨hW2, hW28, hW132, hW158, hW184, hL, hD, hu, ht⟩)⟩
        · exact ok_some ⟨hT, (show CF σ17.1 from by exact ⟨hW2, hW28, hW132, hW158, hW184, hL, hD, hu, ht⟩)⟩
      · exact ok_some ⟨hT, (show CF σ14.1 from by exact ⟨hW2, hW28, hW132, hW158, hW184, hL, hD, hu, ht⟩)⟩

set_option maxHeartbeats 4000000 in
set_option maxRecDepth 100000 in
theorem s_X11_row_n2 {N : Nat} (hN : 1048576 ≤ N) {x1 : Int32} {x2 : Int32} {x3 : Int32} {σ0 : zS}  (hR : RF σ0.2.2) (hNw : σ0.2.2 0 4 = 2) (hPw : σ0.2.2 0 5 = 28) (hC : CF σ0.1) : Ok (f_X11_row N 0 x1 x2 x3 σ0) (fun r => Tr [210, 212, 214, 216] σ0 r.2 ∧ (CF r.2.1)) := by
  have hT : Tr [210, 212, 214, 216] σ0 σ0 := Tr.rf
  obtain ⟨hW2, hW28, hW132, hW158, hW184, hL, hD, hu, ht⟩ := hC
  have hn := hW2.1
  have he := hW2.2.1
  have hD0 := hD
  have hL0 := hL
  have q10 := ti_one10 (x := σ0.1 2 0) hn.1 hn.2
  rw [f_X11_row.eq_1]
  refine ok_gC rfl ?_
  refine ok_zbT (Q := fun V σ => (V = 0 ∨ V = 1) ∧ (¬ V = 0 → 0 ≤ x1.toInt ∧ x1.toInt ≤ 3)) hT (s_X11_isSlot hN (hR.tr hT) ) (fun _ h9 => absurd h9 List.not_mem_nil) (fun v1 σ2 hOσ2 hT hqv1 => ?_)
  have hqv1 : (v1 = 0 ∨ v1 = 1) ∧ (¬ v1 = 0 → 0 ≤ x1.toInt ∧ x1.toInt ≤ 3) := hqv1
  have hW2 : WI 2 σ2.1 := WI.tr hOσ2 (by decide) (by decide) (by decide) hW2
  have hW28 : WI 28 σ2.1 := WI.tr hOσ2 (by decide) (by decide) (by decide) hW28
  have hW132 : WI 132 σ2.1 := WI.tr hOσ2 (by decide) (by decide) (by decide) hW132
  have hW158 : WI 158 σ2.1 := WI.tr hOσ2 (by decide) (by decide) (by decide) hW158
  have hW184 : WI 184 σ2.1 := WI.tr hOσ2 (by decide) (by decide) (by decide) hW184
  have hL : SI σ2.1 := SI.tr hOσ2 (by decide) (by decide) (by decide) (by decide) hL
  have hD : RD σ2.1 := RD.tr hOσ2 (by decide) (by decide) (by decide) (by decide) hD
  have hu : 2 ≤ (σ2.1 111 8).toInt ∧ (σ2.1 111 8).toInt ≤ 1600 := by rw [hOσ2.2 111 (by decide)] <;> exact hu
  have ht : 0 ≤ (σ2.1 0 1).toInt ∧ (σ2.1 0 1).toInt ≤ 600 := by rw [hOσ2.2 0 (by decide)] <;> exact ht
  refine ok_if (fun hc3 => ?_) (fun hc3 => ?_)
  · exact ok_some ⟨hT, (show CF σ2.1 from by exact ⟨hW2, hW28, hW132, hW158, hW184, hL, hD, hu, ht⟩)⟩
  · have qhc3 := hqv1.2 hc3
    refine ok_if (fun hc4 => ?_) (fun hc4 => ?_)
    · exact ok_some ⟨hT, (show CF σ2.1 from by exact ⟨hW2, hW28, hW132, hW158, hW184, hL, hD, hu, ht⟩)⟩
    · refine ok_if (fun hc5 => ?_) (fun hc5 => ?_)
      · exact ok_some ⟨hT, (show CF σ2.1 from by exact ⟨hW2, hW28, hW132, hW158, hW184, hL, hD, hu, ht⟩)⟩
      · refine ok_if (fun hc6 => ?_) (fun hc6 => ?_)
        · refine ok_if (fun hc7 => ?_) (fun hc7 => ?_)
          · refine ok_gR (v := 56) hT rfl (hR 0 8 rfl) ?_
            obtain ⟨q10, eq10, kq10⟩ := arrS hR (k := 56) (i := x1) rfl (by first | omega | decide | (have q1 := hD.1; have q2 := hD.2.1; simp only [Int32.le_iff_toInt_le, Int32.lt_iff_toInt_lt, ti_add, ti_sub, ti_mul, Int32.reduceToInt] at *; omega)) (by first | omega | decide | (have q1 := hD.1; have q2 := hD.2.1; simp only [Int32.le_iff_toInt_le, Int32.lt_iff_toInt_lt, ti_add, ti_sub, ti_mul, Int32.reduceToInt] at *; omega))
            refine ok_aR (v := q10) hT rfl (by first | omega | decide | (have q1 := hD.1; have q2 := hD.2.1; simp only [Int32.le_iff_toInt_le, Int32.lt_iff_toInt_lt, ti_add, ti_sub, ti_mul, Int32.reduceToInt] at *; omega)) (by first | omega | decide | (have q1 := hD.1; have q2 := hD.2.1; simp only [Int32.le_iff_toInt_le, Int32.lt_iff_toInt_lt, ti_add, ti_sub, ti_mul, Int32.reduceToInt] at *; omega)) eq10 ?_
            refine ok_gC kq10 ?_
            refine ok_zbT (Q := fun V σ => SI σ.1) hT (s_X9_start hN (hR.tr hT) kq10 (hL)) (by decide) (fun v11 σ12 hOσ12 hT hqv11 => ?_)
            have hqv11 : SI σ12.1 := hqv11
            have hW2 : WI 2 σ12.1 := WI.tr hOσ12 (by decide) (by decide) (by decide) hW2
            have hW28 : WI 28 σ12.1 := WI.tr hOσ12 (by decide) (by decide) (by decide) hW28
            have hW132 : WI 132 σ12.1 := WI.tr hOσ12 (by decide) (by decide) (by decide) hW132
            have hW158 : WI 158 σ12.1 := WI.tr hOσ12 (by decide) (by decide) (by decide) hW158
            have hW184 : WI 184 σ12.1 := WI.tr hOσ12 (by decide) (by decide) (by decide) hW184
            have hL : SI σ12.1 := hqv11
            have hD : RD σ12.1 := RD.tr hOσ12 (by decide) (by decide) (by decide) (by decide) hD
            have hu : 2 ≤ (σ12.1 111 8).toInt ∧ (σ12.1 111 8).toInt ≤ 1600 := by rw [hOσ12.2 111 (by decide)] <;> exact hu
            have ht : 0 ≤ (σ12.1 0 1).toInt ∧ (σ12.1 0 1).toInt ≤ 600 := by rw [hOσ12.2 0 (by decide)] <;> exact ht
            exact ok_some ⟨hT, (show CF σ12.1 from by exact ⟨hW2, hW28, hW132, hW158, hW184, hL, hD, hu, ht⟩)⟩
          · exact ok_some ⟨hT, (show CF σ2.1 from by exact ⟨hW2, hW28, hW132, hW158, hW184, hL, hD, hu, ht⟩)⟩
        · exact ok_some ⟨hT, (show CF σ2.1 from by exact ⟨hW2, hW28, hW132, hW158, hW184, hL, hD, hu, ht⟩)⟩

set_option maxHeartbeats 4000000 in
set_option maxRecDepth 100000 in
theorem s_X11_end_n2 {N : Nat} (hN : 1048576 ≤ N) {x1 : Int32} {σ0 : zS}  (hR : RF σ0.2.2) (hNw : σ0.2.2 0 4 = 2) (hPw : σ0.2.2 0 5 = 28) (hC : CF σ0.1) : Ok (f_X11_end N 0 x1 σ0) (fun r => Tr [0] σ0 r.2 ∧ (CF r.2.1)) := by
  have hT : Tr [0] σ0 σ0 := Tr.rf
  obtain ⟨hW2, hW28, hW132, hW158, hW184, hL, hD, hu, ht⟩ := hC
  have hn := hW2.1
  have he := hW2.2.1
  have hD0 := hD
  have hL0 := hL
  have q10 := ti_one10 (x := σ0.1 2 0) hn.1 hn.2
  rw [f_X11_end.eq_1]
  refine ok_if (fun hc1 => ?_) (fun hc1 => ?_)
  · exact ok_some ⟨hT, (show CF σ0.1 from by exact ⟨hW2, hW28, hW132, hW158, hW184, hL, hD, hu, ht⟩)⟩
  · refine ok_gI rfl ?_
    refine ok_if (fun hc3 => ?_) (fun hc3 => ?_)
    · refine ok_pI hT rfl (by decide) (fun σ4 eσ4 hOσ4 hT => ?_)
      have hW2 : WI 2 σ4.1 := WI.tr hOσ4 (by decide) (by decide) (by decide) hW2
      have hW28 : WI 28 σ4.1 := WI.tr hOσ4 (by decide) (by decide) (by decide) hW28
      have hW132 : WI 132 σ4.1 := WI.tr hOσ4 (by decide) (by decide) (by decide) hW132
      have hW158 : WI 158 σ4.1 := WI.tr hOσ4 (by decide) (by decide) (by decide) hW158
      have hW184 : WI 184 σ4.1 := WI.tr hOσ4 (by decide) (by decide) (by decide) hW184
      have hL : SI σ4.1 := SI.tr hOσ4 (by decide) (by decide) (by decide) (by decide) hL
      have hD : RD σ4.1 := RD.tr hOσ4 (by decide) (by decide) (by decide) (by decide) hD
      have hu : 2 ≤ (σ4.1 111 8).toInt ∧ (σ4.1 111 8).toInt ≤ 1600 := by rw [hOσ4.2 111 (by decide)] <;> exact hu
      have ht : 0 ≤ (σ4.1 0 1).toInt ∧ (σ4.1 0 1).toInt ≤ 600 := by rw [zI_atI eσ4]; simp only [Int32.le_iff_toInt_le, Int32.lt_iff_toInt_lt, ti_add, ti_sub, ti_mul, Int32.reduceToInt] at *; omega
      exact ok_some ⟨hT, (show CF σ4.1 from by exact ⟨hW2, hW28, hW132, hW158, hW184, hL, hD, hu, ht⟩)⟩
    · exact ok_some ⟨hT, (show CF σ0.1 from by exact ⟨hW2, hW28, hW132, hW158, hW184, hL, hD, hu, ht⟩)⟩

set_option maxHeartbeats 4000000 in
set_option maxRecDepth 100000 in
theorem s_X11_feed_n2 {N : Nat} (hN : 1048576 ≤ N) {x1 : Int32} {x2 : Int32} {x3 : Int32} {x4 : Int32} {x5 : Int32} {σ0 : zS}  (hR : RF σ0.2.2) (hNw : σ0.2.2 0 4 = 2) (hPw : σ0.2.2 0 5 = 28) (hC : CF σ0.1) : Ok (f_X11_feed N 0 x1 x2 x3 x4 x5 σ0) (fun r => Tr [0, 1] σ0 r.2 ∧ (CF r.2.1)) := by
  have hT : Tr [0, 1] σ0 σ0 := Tr.rf
  obtain ⟨hW2, hW28, hW132, hW158, hW184, hL, hD, hu, ht⟩ := hC
  have hn := hW2.1
  have he := hW2.2.1
  have hD0 := hD
  have hL0 := hL
  have q10 := ti_one10 (x := σ0.1 2 0) hn.1 hn.2
  have h01 : σ0.1 0 1 = σ0.1 0 1 := rfl
  rw [f_X11_feed.eq_1]
  refine ok_gIv rfl h01 ?_
  refine ok_if (fun hc2 => ?_) (fun hc2 => ?_)
  · exact ok_some ⟨hT, (show CF σ0.1 from by exact ⟨hW2, hW28, hW132, hW158, hW184, hL, hD, hu, ht⟩)⟩
  · refine ok_gIv rfl h01 ?_
    refine ok_if (fun hc4 => ?_) (fun hc4 => ?_)
    · refine ok_gIv rfl h01 ?_
      refine ok_gC rfl ?_
      refine ok_zbT (Q := fun V σ => True) hT (s_X11_tapeNumber hN (hR.tr hT) (by first | omega | decide | (have q1 := hD.1; have q2 := hD.2.1; simp only [Int32.le_iff_toInt_le, Int32.lt_iff_toInt_lt, ti_add, ti_sub, ti_mul, Int32.reduceToInt] at *; omega))) (by decide) (fun v6 σ7 hOσ7 hT hqv6 => ?_)
      have hW2 : WI 2 σ7.1 := WI.tr hOσ7 (by decide) (by decide) (by decide) hW2
      have hW28 : WI 28 σ7.1 := WI.tr hOσ7 (by decide) (by decide) (by decide) hW28
      have hW132 : WI 132 σ7.1 := WI.tr hOσ7 (by decide) (by decide) (by decide) hW132
      have hW158 : WI 158 σ7.1 := WI.tr hOσ7 (by decide) (by decide) (by decide) hW158
      have hW184 : WI 184 σ7.1 := WI.tr hOσ7 (by decide) (by decide) (by decide) hW184
      have hL : SI σ7.1 := SI.tr hOσ7 (by decide) (by decide) (by decide) (by decide) hL
      have hD : RD σ7.1 := RD.tr hOσ7 (by decide) (by decide) (by decide) (by decide) hD
      have hu : 2 ≤ (σ7.1 111 8).toInt ∧ (σ7.1 111 8).toInt ≤ 1600 := by rw [hOσ7.2 111 (by decide)] <;> exact hu
      have ht : 0 ≤ (σ7.1 0 1).toInt ∧ (σ7.1 0 1).toInt ≤ 600 := by rw [hOσ7.2 0 (by decide)] <;> exact ht
      have h01 : σ7.1 0 1 = σ0.1 0 1 := by rw [hOσ7.2 0 (by decide)] <;> exact h01
      refine ok_gIv rfl h01 ?_
      refine ok_gC rfl ?_
      refine ok_zbT (Q := fun V σ => True) hT (s_X11_tapeNumber hN (hR.tr hT) (by first | omega | decide | (have q1 := hD.1; have q2 := hD.2.1; simp only [Int32.le_iff_toInt_le, Int32.lt_iff_toInt_lt, ti_add, ti_sub, ti_mul, Int32.reduceToInt] at *; omega))) (by decide) (fun v9 σ10 hOσ10 hT hqv9 => ?_)
      have hW2 : WI 2 σ10.1 := WI.tr hOσ10 (by decide) (by decide) (by decide) hW2
      have hW28 : WI 28 σ10.1 := WI.tr hOσ10 (by decide) (by decide) (by decide) hW28
      have hW132 : WI 132 σ10.1 := WI.tr hOσ10 (by decide) (by decide) (by decide) hW132
      have hW158 : WI 158 σ10.1 := WI.tr hOσ10 (by decide) (by decide) (by decide) hW158
      have hW184 : WI 184 σ10.1 := WI.tr hOσ10 (by decide) (by decide) (by decide) hW184
      have hL : SI σ10.1 := SI.tr hOσ10 (by decide) (by decide) (by decide) (by decide) hL
      have hD : RD σ10.1 := RD.tr hOσ10 (by decide) (by decide) (by decide) (by decide) hD
      have hu : 2 ≤ (σ10.1 111 8).toInt ∧ (σ10.1 111 8).toInt ≤ 1600 := by rw [hOσ10.2 111 (by decide)] <;> exact hu
      have ht : 0 ≤ (σ10.1 0 1).toInt ∧ (σ10.1 0 1).toInt ≤ 600 := by rw [hOσ10.2 0 (by decide)] <;> exact ht
      have h01 : σ10.1 0 1 = σ0.1 0 1 := by rw [hOσ10.2 0 (by decide)] <;> exact h01
      refine ok_gIv rfl h01 ?_
      refine ok_gC rfl ?_
      refine ok_zbT (Q := fun V σ => True) hT (s_X11_tapeNumber hN (hR.tr hT) (by first | omega | decide | (have q1 := hD.1; have q2 := hD.2.1; simp only [Int32.le_iff_toInt_le, Int32.lt_iff_toInt_lt, ti_add, ti_sub, ti_mul, Int32.reduceToInt] at *; omega))) (by decide) (fun v12 σ13 hOσ13 hT hqv12 => ?_)
      have hW2 : WI 2 σ13.1 := WI.tr hOσ13 (by decide) (by decide) (by decide) hW2
      have hW28 : WI 28 σ13.1 := WI.tr hOσ13 (by decide) (by decide) (by decide) hW28
      have hW132 : WI 132 σ13.1 := WI.tr hOσ13 (by decide) (by decide) (by decide) hW132
      have hW158 : WI 158 σ13.1 := WI.tr hOσ13 (by decide) (by decide) (by decide) hW158
      have hW184 : WI 184 σ13.1 := WI.tr hOσ13 (by decide) (by decide) (by decide) hW184
      have hL : SI σ13.1 := SI.tr hOσ13 (by decide) (by decide) (by decide) (by decide) hL
      have hD : RD σ13.1 := RD.tr hOσ13 (by decide) (by decide) (by decide) (by decide) hD
      have hu : 2 ≤ (σ13.1 111 8).toInt ∧ (σ13.1 111 8).toInt ≤ 1600 := by rw [hOσ13.2 111 (by decide)] <;> exact hu
      have ht : 0 ≤ (σ13.1 0 1).toInt ∧ (σ13.1 0 1).toInt ≤ 600 := by rw [hOσ13.2 0 (by decide)] <;> exact ht
      have h01 : σ13.1 0 1 = σ0.1 0 1 := by rw [hOσ13.2 0 (by decide)] <;> exact h01
      refine ok_gIv rfl h01 ?_
      refine ok_gC rfl ?_
      refine ok_zbT (Q := fun V σ => True) hT (s_X11_tapeNumber hN (hR.tr hT) (by first | omega | decide | (have q1 := hD.1; have q2 := hD.2.1; simp only [Int32.le_iff_toInt_le, Int32.lt_iff_toInt_lt, ti_add, ti_sub, ti_mul, Int32.reduceToInt] at *; omega))) (by decide) (fun v15 σ16 hOσ16 hT hqv15 => ?_)
      have hW2 : WI 2 σ16.1 := WI.tr hOσ16 (by decide) (by decide) (by decide) hW2
      have hW28 : WI 28 σ16.1 := WI.tr hOσ16 (by decide) (by decide) (by decide) hW28
      have hW132 : WI 132 σ16.1 := WI.tr hOσ16 (by decide) (by decide) (by decide) hW132
      have hW158 : WI 158 σ16.1 := WI.tr hOσ16 (by decide) (by decide) (by decide) hW158
      have hW184 : WI 184 σ16.1 := WI.tr hOσ16 (by decide) (by decide) (by decide) hW184
      have hL : SI σ16.1 := SI.tr hOσ16 (by decide) (by decide) (by decide) (by decide) hL
      have hD : RD σ16.1 := RD.tr hOσ16 (by decide) (by decide) (by decide) (by decide) hD
      have hu : 2 ≤ (σ16.1 111 8).toInt ∧ (σ16.1 111 8).toInt ≤ 1600 := by rw [hOσ16.2 111 (by decide)] <;> exact hu
      have ht : 0 ≤ (σ16.1 0 1).toInt ∧ (σ16.1 0 1).toInt ≤ 600 := by rw [hOσ16.2 0 (by decide)] <;> exact ht
      have h01 : σ16.1 0 1 = σ0.1 0 1 := by rw [hOσ16.2 0 (by decide)] <;> exact h01
      refine ok_gIv rfl h01 ?_
      refine ok_gC rfl ?_
      refine ok_zbT (Q := fun V σ => True) hT (s_X11_tapeNumber hN (hR.tr hT) (by first | omega | decide | (have q1 := hD.1; have q2 := hD.2.1; simp only [Int32.le_iff_toInt_le, Int32.lt_iff_toInt_lt, ti_add, ti_sub, ti_mul, Int32.reduceToInt] at *; omega))) (by decide) (fun v18 σ19 hOσ19 hT hqv18 => ?_)
      have hW2 : WI 2 σ19.1 := WI.tr hOσ19 (by decide) (by decide) (by decide) hW2
      have hW28 : WI 28 σ19.1 := WI.tr hOσ19 (by decide) (by decide) (by decide) hW28
      have hW132 : WI 132 σ19.1 := WI.tr hOσ19 (by decide) (by decide) (by decide) hW132
      have hW158 : WI 158 σ19.1 := WI.tr hOσ19 (by decide) (by decide) (by decide) hW158
      have hW184 : WI 184 σ19.1 := WI.tr hOσ19 (by decide) (by decide) (by decide) hW184
      have hL : SI σ19.1 := SI.tr hOσ19 (by decide) (by decide) (by decide) (by decide) hL
      have hD : RD σ19.1 := RD.tr hOσ19 (by decide) (by decide) (by decide) (by decide) hD
      have hu : 2 ≤ (σ19.1 111 8).toInt ∧ (σ19.1 111 8).toInt ≤ 1600 := by rw [hOσ19.2 111 (by decide)] <;> exact hu
      have ht : 0 ≤ (σ19.1 0 1).toInt ∧ (σ19.1 0 1).toInt ≤ 600 := by rw [hOσ19.2 0 (by decide)] <;> exact ht
      have h01 : σ19.1 0 1 = σ0.1 0 1 := by rw [hOσ19.2 0 (by decide)] <;> exact h01
      refine ok_gIv rfl h01 ?_
      refine ok_pI hT rfl (by decide) (fun σ21 eσ21 hOσ21 hT => ?_)
      have hW2 : WI 2 σ21.1 := WI.tr hOσ21 (by decide) (by decide) (by decide) hW2
      have hW28 : WI 28 σ21.1 := WI.tr hOσ21 (by decide) (by decide) (by decide) hW28
      have hW132 : WI 132 σ21.1 := WI.tr hOσ21 (by decide) (by decide) (by decide) hW132
      have hW158 : WI 158 σ21.1 := WI.tr hOσ21 (by decide) (by decide) (by decide) hW158
      have hW184 : WI 184 σ21.1 := WI.tr hOσ21 (by decide) (by decide) (by decide) hW184
      have hL : SI σ21.1 := SI.tr hOσ21 (by decide) (by decide) (by decide) (by decide) hL
      have hD : RD σ21.1 := RD.tr hOσ21 (by decide) (by decide) (by decide) (by decide) hD
      have hu : 2 ≤ (σ21.1 111 8).toInt ∧ (σ21.1 111 8).toInt ≤ 1600 := by rw [hOσ21.2 111 (by decide)] <;> exact hu
      have ht : 0 ≤ (σ21.1 0 1).toInt ∧ (σ21.1 0 1).toInt ≤ 600 := by rw [zI_atI eσ21]; simp only [Int32.le_iff_toInt_le, Int32.lt_iff_toInt_lt, ti_add, ti_sub, ti_mul, Int32.reduceToInt] at *; omega
      refine ok_gI rfl ?_
      exact ok_some ⟨hT, (show CF σ21.1 from by exact ⟨hW2, hW28, hW132, hW158, hW184, hL, hD, hu, ht⟩)⟩
    · exact ok_some ⟨hT, (show CF σ0.1 from by exact ⟨hW2, hW28, hW132, hW158, hW184, hL, hD, hu, ht⟩)⟩

set_option maxHeartbeats 4000000 in
set_option maxRecDepth 100000 in
theorem s_X11_put_n2 {N : Nat} (hN : 1048576 ≤ N) {x1 : Int32} {σ0 : zS}  (hR : RF σ0.2.2) (hNw : σ0.2.2 0 4 = 2) (hPw : σ0.2.2 0 5 = 28) (hC : CF σ0.1) : Ok (f_X11_put N 0 x1 σ0) (fun r => Tr [0, 57, 58, 59, 61, 62, 63, 64, 65, 106, 107] σ0 r.2 ∧ (CF r.2.1)) := by
  have hT : Tr [0, 57, 58, 59, 61, 62, 63, 64, 65, 106, 107] σ0 σ0 := Tr.rf
  obtain ⟨hW2, hW28, hW132, hW158, hW184, hL, hD, hu, ht⟩ := hC
  have hn := hW2.1
  have he := hW2.2.1
  have hD0 := hD
  have hL0 := hL
  have q10 := ti_one10 (x := σ0.1 2 0) hn.1 hn.2
  rw [f_X11_put.eq_1]
  refine ok_gC rfl ?_
  refine ok_zbT (Q := fun V σ => (V = 0 ∨ V = 1) ∧ (¬ V = 0 → 0 ≤ x1.toInt ∧ x1.toInt ≤ 9)) hT (s_X11_isRegister_n2 hN (hR.tr hT) ((hT.1.1 0 4 (by decide)).trans hNw) (by first | exact hn | omega | (rw [hT.2 2 (by decide)]; exact hn))) (fun _ h9 => absurd h9 List.not_mem_nil) (fun v1 σ2 hOσ2 hT hqv1 => ?_)
  have hqv1 : (v1 = 0 ∨ v1 = 1) ∧ (¬ v1 = 0 → 0 ≤ x1.toInt ∧ x1.toInt ≤ 9) := hqv1
  have hW2 : WI 2 σ2.1 := WI.tr hOσ2 (by decide) (by decide) (by decide) hW2
  have hW28 : WI 28 σ2.1 := WI.tr hOσ2 (by decide) (by decide) (by decide) hW28
  have hW132 : WI 132 σ2.1 := WI.tr hOσ2 (by decide) (by decide) (by decide) hW132
  have hW158 : WI 158 σ2.1 := WI.tr hOσ2 (by decide) (by decide) (by decide) hW158
  have hW184 : WI 184 σ2.1 := WI.tr hOσ2 (by decide) (by decide) (by decide) hW184
  have hL : SI σ2.1 := SI.tr hOσ2 (by decide) (by decide) (by decide) (by decide) hL
  have hD : RD σ2.1 := RD.tr hOσ2 (by decide) (by decide) (by decide) (by decide) hD
  have hu : 2 ≤ (σ2.1 111 8).toInt ∧ (σ2.1 111 8).toInt ≤ 1600 := by rw [hOσ2.2 111 (by decide)] <;> exact hu
  have ht : 0 ≤ (σ2.1 0 1).toInt ∧ (σ2.1 0 1).toInt ≤ 600 := by rw [hOσ2.2 0 (by decide)] <;> exact ht
  refine ok_if (fun hc3 => ?_) (fun hc3 => ?_)
  · refine ok_pI hT rfl (by decide) (fun σ4 eσ4 hOσ4 hT => ?_)
    have hW2 : WI 2 σ4.1 := WI.tr hOσ4 (by decide) (by decide) (by decide) hW2
    have hW28 : WI 28 σ4.1 := WI.tr hOσ4 (by decide) (by decide) (by decide) hW28
    have hW132 : WI 132 σ4.1 := WI.tr hOσ4 (by decide) (by decide) (by decide) hW132
    have hW158 : WI 158 σ4.1 := WI.tr hOσ4 (by decide) (by decide) (by decide) hW158
    have hW184 : WI 184 σ4.1 := WI.tr hOσ4 (by decide) (by decide) (by decide) hW184
    have hL : SI σ4.1 := SI.tr hOσ4 (by decide) (by decide) (by decide) (by decide) hL
    have hD : RD σ4.1 := RD.tr hOσ4 (by decide) (by decide) (by decide) (by decide) hD
    have hu : 2 ≤ (σ4.1 111 8).toInt ∧ (σ4.1 111 8).toInt ≤ 1600 := by rw [hOσ4.2 111 (by decide)] <;> exact hu
    have ht : 0 ≤ (σ4.1 0 1).toInt ∧ (σ4.1 0 1).toInt ≤ 600 := by first | (rw [zI_atI eσ4]; decide) | (rw [HQ]; decide)
    exact ok_some ⟨hT, (show CF σ4.1 from by exact ⟨hW2, hW28, hW132, hW158, hW184, hL, hD, hu, ht⟩)⟩
  · have qhc3 := hqv1.2 hc3
    refine ok_gR (v := 57) hT rfl (hR 0 9 rfl) ?_
    refine ok_gR (v := 1) hT rfl (hR 0 0 rfl) ?_
    refine ok_gI rfl ?_
    refine ok_gR (v := 2) hT rfl hNw ?_
    refine ok_gI0 hT rfl (by decide) ?_
    refine ok_gC rfl ?_
    refine ok_zbT (Q := fun V σ => (V = 0 ∨ V = 1) ∧ RD σ.1) hT (s_X5_readSum_1 hN (hR.tr hT) (hD)) (by decide) (fun v10 σ11 hOσ11 hT hqv10 => ?_)
    have hqv10 : (v10 = 0 ∨ v10 = 1) ∧ RD σ11.1 := hqv10
    have hW2 : WI 2 σ11.1 := WI.tr hOσ11 (by decide) (by decide) (by decide) hW2
    have hW28 : WI 28 σ11.1 := WI.tr hOσ11 (by decide) (by decide) (by decide) hW28
    have hW132 : WI 132 σ11.1 := WI.tr hOσ11 (by decide) (by decide) (by decide) hW132
    have hW158 : WI 158 σ11.1 := WI.tr hOσ11 (by decide) (by decide) (by decide) hW158
    have hW184 : WI 184 σ11.1 := WI.tr hOσ11 (by decide) (by decide) (by decide) hW184
    have hL : SI σ11.1 := SI.tr hOσ11 (by decide) (by decide) (by decide) (by decide) hL
    have hD : RD σ11.1 := hqv10.2
    have hu : 2 ≤ (σ11.1 111 8).toInt ∧ (σ11.1 111 8).toInt ≤ 1600 := by rw [hOσ11.2 111 (by decide)] <;> exact hu
    have ht : 0 ≤ (σ11.1 0 1).toInt ∧ (σ11.1 0 1).toInt ≤ 600 := by rw [hOσ11.2 0 (by decide)] <;> exact ht
    refine ok_gC rfl ?_
    refine ok_zbT (Q := fun V σ => σ.1 0 1 = 0) hT (s_X11_takeFault hN (hR.tr hT) ) (by decide) (fun v12 σ13 hOσ13 hT hqv12 => ?_)
    have hqv12 : σ13.1 0 1 = 0 := hqv12
    have hW2 : WI 2 σ13.1 := WI.tr hOσ13 (by decide) (by decide) (by decide) hW2
    have hW28 : WI 28 σ13.1 := WI.tr hOσ13 (by decide) (by decide) (by decide) hW28
    have hW132 : WI 132 σ13.1 := WI.tr hOσ13 (by decide) (by decide) (by decide) hW132
    have hW158 : WI 158 σ13.1 := WI.tr hOσ13 (by decide) (by decide) (by decide) hW158
    have hW184 : WI 184 σ13.1 := WI.tr hOσ13 (by decide) (by decide) (by decide) hW184
    have hL : SI σ13.1 := SI.tr hOσ13 (by decide) (by decide) (by decide) (by decide) hL
    have hD : RD σ13.1 := RD.tr hOσ13 (by decide) (by decide) (by decide) (by decide) hD
    have hu : 2 ≤ (σ13.1 111 8).toInt ∧ (σ13.1 111 8).toInt ≤ 1600 := by rw [hOσ13.2 111 (by decide)] <;> exact hu
    have ht : 0 ≤ (σ13.1 0 1).toInt ∧ (σ13.1 0 1).toInt ≤ 600 := by first | (rw [zI_atI eσ13]; decide) | (rw [hqv12]; decide)
    refine ok_if (fun hc14 => ?_) (fun hc14 => ?_)
    · exact ok_some ⟨hT, (show CF σ13.1 from by exact ⟨hW2, hW28, hW132, hW158, hW184, hL, hD, hu, ht⟩)⟩
    · refine ok_gR (v := 65) hT rfl (hR 0 10 rfl) ?_
      refine ok_gR (v := 57) hT rfl (hR 0 9 rfl) ?_
      refine ok_gR (v := 2) hT rfl hNw ?_
      refine ok_gR (v := 99) hT rfl (hR 0 11 rfl) ?_
      refine ok_gC rfl ?_
      refine ok_zbT (Q := fun V σ => True) hT (s_X7_run_57_2_99 hN (hR.tr hT) (by first | exact hn | omega | (rw [hT.2 2 (by decide)]; exact hn))) (by decide) (fun v19 σ20 hOσ20 hT hqv19 => ?_)
      have hW2 : WI 2 σ20.1 := WI.tr hOσ20 (by decide) (by decide) (by decide) hW2
      have hW28 : WI 28 σ20.1 := WI.tr hOσ20 (by decide) (by decide) (by decide) hW28
      have hW132 : WI 132 σ20.1 := WI.tr hOσ20 (by decide) (by decide) (by decide) hW132
      have hW158 : WI 158 σ20.1 := WI.tr hOσ20 (by decide) (by decide) (by decide) hW158
      have hW184 : WI 184 σ20.1 := WI.tr hOσ20 (by decide) (by decide) (by decide) hW184
      have hL : SI σ20.1 := SI.tr hOσ20 (by decide) (by decide) (by decide) (by decide) hL
      have hD : RD σ20.1 := RD.tr hOσ20 (by decide) (by decide) (by decide) (by decide) hD
      have hu : 2 ≤ (σ20.1 111 8).toInt ∧ (σ20.1 111 8).toInt ≤ 1600 := by rw [hOσ20.2 111 (by decide)] <;> exact hu
      have ht : 0 ≤ (σ20.1 0 1).toInt ∧ (σ20.1 0 1).toInt ≤ 600 := by rw [hOσ20.2 0 (by decide)] <;> exact ht
      refine ok_gR (v := 2) hT rfl hNw ?_
      refine ok_gR (v := 7) hT rfl (hR 2 7 rfl) ?_
      obtain ⟨q24, eq24, kq24⟩ := arrF hR (k := 7) (i := x1) rfl (by first | omega | decide | (have q1 := hD.1; have q2 := hD.2.1; simp only [Int32.le_iff_toInt_le, Int32.lt_iff_toInt_lt, ti_add, ti_sub, ti_mul, Int32.reduceToInt] at *; omega)) (by first | omega | decide | (have q1 := hD.1; have q2 := hD.2.1; simp only [Int32.le_iff_toInt_le, Int32.lt_iff_toInt_lt, ti_add, ti_sub, ti_mul, Int32.reduceToInt] at *; omega))
      refine ok_aR (v := q24) hT rfl (by first | omega | decide | (have q1 := hD.1; have q2 := hD.2.1; simp only [Int32.le_iff_toInt_le, Int32.lt_iff_toInt_lt, ti_add, ti_sub, ti_mul, Int32.reduceToInt] at *; omega)) (by first | omega | decide | (have q1 := hD.1; have q2 := hD.2.1; simp only [Int32.le_iff_toInt_le, Int32.lt_iff_toInt_lt, ti_add, ti_sub, ti_mul, Int32.reduceToInt] at *; omega)) eq24 ?_
      refine ok_gC kq24 ?_
      refine ok_zbT (Q := fun V σ => True) hT (s_X2_tally hN (hR.tr hT) kq24) (fun _ h9 => absurd h9 List.not_mem_nil) (fun v25 σ26 hOσ26 hT hqv25 => ?_)
      have hW2 : WI 2 σ26.1 := WI.tr hOσ26 (by decide) (by decide) (by decide) hW2
      have hW28 : WI 28 σ26.1 := WI.tr hOσ26 (by decide) (by decide) (by decide) hW28
      have hW132 : WI 132 σ26.1 := WI.tr hOσ26 (by decide) (by decide) (by decide) hW132
      have hW158 : WI 158 σ26.1 := WI.tr hOσ26 (by decide) (by decide) (by decide) hW158
      have hW184 : WI 184 σ26.1 := WI.tr hOσ26 (by decide) (by decide) (by decide) hW184
      have hL : SI σ26.1 := SI.tr hOσ26 (by decide) (by decide) (by decide) (by decide) hL
      have hD : RD σ26.1 := RD.tr hOσ26 (by decide) (by decide) (by decide) (by decide) hD
      have hu : 2 ≤ (σ26.1 111 8).toInt ∧ (σ26.1 111 8).toInt ≤ 1600 := by rw [hOσ26.2 111 (by decide)] <;> exact hu
      have ht : 0 ≤ (σ26.1 0 1).toInt ∧ (σ26.1 0 1).toInt ≤ 600 := by rw [hOσ26.2 0 (by decide)] <;> exact ht
      exact ok_some ⟨hT, (show CF σ26.1 from by exact ⟨hW2, hW28, hW132, hW158, hW184, hL, hD, hu, ht⟩)⟩

set_option maxHeartbeats 4000000 in
set_option maxRecDepth 100000 in
theorem s_X11_keep_n2_0 {N : Nat} (hN : 1048576 ≤ N)  {σ0 : zS}  (hR : RF σ0.2.2) (hNw : σ0.2.2 0 4 = 2) (hPw : σ0.2.2 0 5 = 28) (hC : CF σ0.1) : Ok (f_X11_keep N 0 0 σ0) (fun r => Tr [55, 132, 133, 134, 135, 136] σ0 r.2 ∧ (CF r.2.1)) := by
  have hT : Tr [55, 132, 133, 134, 135, 136] σ0 σ0 := Tr.rf
  obtain ⟨hW2, hW28, hW132, hW158, hW184, hL, hD, hu, ht⟩ := hC
  have hn := hW2.1
  have he := hW2.2.1
  have hD0 := hD
  have hL0 := hL
  have q10 := ti_one10 (x := σ0.1 2 0) hn.1 hn.2
  rw [f_X11_keep.eq_1]
  refine ok_if (fun hc1 => ?_) (fun hc1 => ?_)
  · exact ok_some ⟨hT, (show CF σ0.1 from by exact ⟨hW2, hW28, hW132, hW158, hW184, hL, hD, hu, ht⟩)⟩
  · refine ok_if (fun hc2 => ?_) (fun hc2 => ?_)
    · refine ok_gR (v := 54) hT rfl (hR 0 6 rfl) ?_
      refine ok_aR (v := 132) hT rfl (by first | omega | decide | (have q1 := hD.1; have q2 := hD.2.1; simp only [Int32.le_iff_toInt_le, Int32.lt_iff_toInt_lt, ti_add, ti_sub, ti_mul, Int32.reduceToInt] at *; omega)) (by first | omega | decide | (have q1 := hD.1; have q2 := hD.2.1; simp only [Int32.le_iff_toInt_le, Int32.lt_iff_toInt_lt, ti_add, ti_sub, ti_mul, Int32.reduceToInt] at *; omega)) (hR 54 0 rfl) ?_
      refine ok_gR (v := 2) hT rfl hNw ?_
      refine ok_gC rfl ?_
      refine ok_zbT (Q := fun V σ => WI 132 σ.1) hT (s_X10_copyFrom_132_2 hN (hR.tr hT) (hW132) (hW2)) (by decide) (fun v6 σ7 hOσ7 hT hqv6 => ?_)
      have hqv6 : WI 132 σ7.1 := hqv6
      have hW2 : WI 2 σ7.1 := WI.tr hOσ7 (by decide) (by decide) (by decide) hW2
      have hW28 : WI 28 σ7.1 := WI.tr hOσ7 (by decide) (by decide) (by decide) hW28
      have hW132 : WI 132 σ7.1 := hqv6
      have hW158 : WI 158 σ7.1 := WI.tr hOσ7 (by decide) (by decide) (by decide) hW158
      have hW184 : WI 184 σ7.1 := WI.tr hOσ7 (by decide) (by decide) (by decide) hW184
      have hL : SI σ7.1 := SI.tr hOσ7 (by decide) (by decide) (by decide) (by decide) hL
      have hD : RD σ7.1 := RD.tr hOσ7 (by decide) (by decide) (by decide) (by decide) hD
      have hu : 2 ≤ (σ7.1 111 8).toInt ∧ (σ7.1 111 8).toInt ≤ 1600 := by rw [hOσ7.2 111 (by decide)] <;> exact hu
      have ht : 0 ≤ (σ7.1 0 1).toInt ∧ (σ7.1 0 1).toInt ≤ 600 := by rw [hOσ7.2 0 (by decide)] <;> exact ht
      refine ok_gR (v := 55) hT rfl (hR 0 7 rfl) ?_
      refine ok_s16 hT rfl (by decide) (by first | omega | decide | (have q1 := hD.1; have q2 := hD.2.1; simp only [Int32.le_iff_toInt_le, Int32.lt_iff_toInt_lt, ti_add, ti_sub, ti_mul, Int32.reduceToInt] at *; omega)) (by first | omega | decide | (have q1 := hD.1; have q2 := hD.2.1; simp only [Int32.le_iff_toInt_le, Int32.lt_iff_toInt_lt, ti_add, ti_sub, ti_mul, Int32.reduceToInt] at *; omega)) (fun σ9 eσ9 hOσ9 hT => ?_)
      have hW2 : WI 2 σ9.1 := WI.tr hOσ9 (by decide) (by decide) (by decide) hW2
      have hW28 : WI 28 σ9.1 := WI.tr hOσ9 (by decide) (by decide) (by decide) hW28
      have hW132 : WI 132 σ9.1 := WI.tr hOσ9 (by decide) (by decide) (by decide) hW132
      have hW158 : WI 158 σ9.1 := WI.tr hOσ9 (by decide) (by decide) (by decide) hW158
      have hW184 : WI 184 σ9.1 := WI.tr hOσ9 (by decide) (by decide) (by decide) hW184
      have hL : SI σ9.1 := SI.tr hOσ9 (by decide) (by decide) (by decide) (by decide) hL
      have hD : RD σ9.1 := RD.tr hOσ9 (by decide) (by decide) (by decide) (by decide) hD
      have hu : 2 ≤ (σ9.1 111 8).toInt ∧ (σ9.1 111 8).toInt ≤ 1600 := by rw [hOσ9.2 111 (by decide)] <;> exact hu
      have ht : 0 ≤ (σ9.1 0 1).toInt ∧ (σ9.1 0 1).toInt ≤ 600 := by rw [hOσ9.2 0 (by decide)] <;> exact ht
      exact ok_some ⟨hT, (show CF σ9.1 from by exact ⟨hW2, hW28, hW132, hW158, hW184, hL, hD, hu, ht⟩)⟩
    · exact ok_some ⟨hT, (show CF σ0.1 from by exact ⟨hW2, hW28, hW132, hW158, hW184, hL, hD, hu, ht⟩)⟩

set_option maxHeartbeats 4000000 in
set_option maxRecDepth 100000 in
theorem s_X11_back_n2_0 {N : Nat} (hN : 1048576 ≤ N)  {σ0 : zS}  (hR : RF σ0.2.2) (hNw : σ0.2.2 0 4 = 2) (hPw : σ0.2.2 0 5 = 28) (hC : CF σ0.1) : Ok (f_X11_back N 0 0 σ0) (fun r => Tr [2, 3, 4, 5, 6] σ0 r.2 ∧ (CF r.2.1)) := by
  have hT : Tr [2, 3, 4, 5, 6] σ0 σ0 := Tr.rf
  obtain ⟨hW2, hW28, hW132, hW158, hW184, hL, hD, hu, ht⟩ := hC
  have hn := hW2.1
  have he := hW2.2.1
  have hD0 := hD
  have hL0 := hL
  have q10 := ti_one10 (x := σ0.1 2 0) hn.1 hn.2
  rw [f_X11_back.eq_1]
  refine ok_if (fun hc1 => ?_) (fun hc1 => ?_)
  · exact ok_some ⟨hT, (show CF σ0.1 from by exact ⟨hW2, hW28, hW132, hW158, hW184, hL, hD, hu, ht⟩)⟩
  · refine ok_if (fun hc2 => ?_) (fun hc2 => ?_)
    · refine ok_gR (v := 55) hT rfl (hR 0 7 rfl) ?_
      refine ok_aIn rfl (by first | omega | decide | (have q1 := hD.1; have q2 := hD.2.1; simp only [Int32.le_iff_toInt_le, Int32.lt_iff_toInt_lt, ti_add, ti_sub, ti_mul, Int32.reduceToInt] at *; omega)) (by first | omega | decide | (have q1 := hD.1; have q2 := hD.2.1; simp only [Int32.le_iff_toInt_le, Int32.lt_iff_toInt_lt, ti_add, ti_sub, ti_mul, Int32.reduceToInt] at *; omega)) (fun v4 ev4 => ?_)
      refine ok_if (fun hc5 => ?_) (fun hc5 => ?_)
      · exact ok_some ⟨hT, (show CF σ0.1 from by exact ⟨hW2, hW28, hW132, hW158, hW184, hL, hD, hu, ht⟩)⟩
      · refine ok_gR (v := 2) hT rfl hNw ?_
        refine ok_gR (v := 54) hT rfl (hR 0 6 rfl) ?_
        refine ok_aR (v := 132) hT rfl (by first | omega | decide | (have q1 := hD.1; have q2 := hD.2.1; simp only [Int32.le_iff_toInt_le, Int32.lt_iff_toInt_lt, ti_add, ti_sub, ti_mul, Int32.reduceToInt] at *; omega)) (by first | omega | decide | (have q1 := hD.1; have q2 := hD.2.1; simp only [Int32.le_iff_toInt_le, Int32.lt_iff_toInt_lt, ti_add, ti_sub, ti_mul, Int32.reduceToInt] at *; omega)) (hR 54 0 rfl) ?_
        refine ok_gC rfl ?_
        refine ok_zbT (Q := fun V σ => WI 2 σ.1) hT (s_X10_copyFrom_2_132 hN (hR.tr hT) (hW2) (hW132)) (by decide) (fun v9 σ10 hOσ10 hT hqv9 => ?_)
        have hqv9 : WI 2 σ10.1 := hqv9
        have hW2 : WI 2 σ10.1 := hqv9
        have hW28 : WI 28 σ10.1 := WI.tr hOσ10 (by decide) (by decide) (by decide) hW28
        have hW132 : WI 132 σ10.1 := WI.tr hOσ10 (by decide) (by decide) (by decide) hW132
        have hW158 : WI 158 σ10.1 := WI.tr hOσ10 (by decide) (by decide) (by decide) hW158
        have hW184 : WI 184 σ10.1 := WI.tr hOσ10 (by decide) (by decide) (by decide) hW184
        have hL : SI σ10.1 := SI.tr hOσ10 (by decide) (by decide) (by decide) (by decide) hL
        have hD : RD σ10.1 := RD.tr hOσ10 (by decide) (by decide) (by decide) (by decide) hD
        have hu : 2 ≤ (σ10.1 111 8).toInt ∧ (σ10.1 111 8).toInt ≤ 1600 := by rw [hOσ10.2 111 (by decide)] <;> exact hu
        have ht : 0 ≤ (σ10.1 0 1).toInt ∧ (σ10.1 0 1).toInt ≤ 600 := by rw [hOσ10.2 0 (by decide)] <;> exact ht
        exact ok_some ⟨hT, (show CF σ10.1 from by exact ⟨hW2, hW28, hW132, hW158, hW184, hL, hD, hu, ht⟩)⟩
    · exact ok_some ⟨hT, (show CF σ0.1 from by exact ⟨hW2, hW28, hW132, hW158, hW184, hL, hD, hu, ht⟩)⟩

set_option maxHeartbeats 4000000 in
set_option maxRecDepth 100000 in
theorem s_X11_keep_n2_1 {N : Nat} (hN : 1048576 ≤ N)  {σ0 : zS}  (hR : RF σ0.2.2) (hNw : σ0.2.2 0 4 = 2) (hPw : σ0.2.2 0 5 = 28) (hC : CF σ0.1) : Ok (f_X11_keep N 0 1 σ0) (fun r => Tr [55, 158, 159, 160, 161, 162] σ0 r.2 ∧ (CF r.2.1)) := by
  have hT : Tr [55, 158, 159, 160, 161, 162] σ0 σ0 := Tr.rf
  obtain ⟨hW2, hW28, hW132, hW158, hW184, hL, hD, hu, ht⟩ := hC
  have hn := hW2.1
  have he := hW2.2.1
  have hD0 := hD
  have hL0 := hL
  have q10 := ti_one10 (x := σ0.1 2 0) hn.1 hn.2
  rw [f_X11_keep.eq_1]
  refine ok_if (fun hc1 => ?_) (fun hc1 => ?_)
  · exact ok_some ⟨hT, (show CF σ0.1 from by exact ⟨hW2, hW28, hW132, hW158, hW184, hL, hD, hu, ht⟩)⟩
  · refine ok_if (fun hc2 => ?_) (fun hc2 => ?_)
    · refine ok_gR (v := 54) hT rfl (hR 0 6 rfl) ?_
      refine ok_aR (v := 158) hT rfl (by first | omega | decide | (have q1 := hD.1; have q2 := hD.2.1; simp only [Int32.le_iff_toInt_le, Int32.lt_iff_toInt_lt, ti_add, ti_sub, ti_mul, Int32.reduceToInt] at *; omega)) (by first | omega | decide | (have q1 := hD.1; have q2 := hD.2.1; simp only [Int32.le_iff_toInt_le, Int32.lt_iff_toInt_lt, ti_add, ti_sub, ti_mul, Int32.reduceToInt] at *; omega)) (hR 54 1 rfl) ?_
      refine ok_gR (v := 2) hT rfl hNw ?_
      refine ok_gC rfl ?_
      refine ok_zbT (Q := fun V σ => WI 158 σ.1) hT (s_X10_copyFrom_158_2 hN (hR.tr hT) (hW158) (hW2)) (by decide) (fun v6 σ7 hOσ7 hT hqv6 => ?_)
      have hqv6 : WI 158 σ7.1 := hqv6
      have hW2 : WI 2 σ7.1 := WI.tr hOσ7 (by decide) (by decide) (by decide) hW2
      have hW28 : WI 28 σ7.1 := WI.tr hOσ7 (by decide) (by decide) (by decide) hW28
      have hW132 : WI 132 σ7.1 := WI.tr hOσ7 (by decide) (by decide) (by decide) hW132
      have hW158 : WI 158 σ7.1 := hqv6
      have hW184 : WI 184 σ7.1 := WI.tr hOσ7 (by decide) (by decide) (by decide) hW184
      have hL : SI σ7.1 := SI.tr hOσ7 (by decide) (by decide) (by decide) (by decide) hL
      have hD : RD σ7.1 := RD.tr hOσ7 (by decide) (by decide) (by decide) (by decide) hD
      have hu : 2 ≤ (σ7.1 111 8).toInt ∧ (σ7.1 111 8).toInt ≤ 1600 := by rw [hOσ7.2 111 (by decide)] <;> exact hu
      have ht : 0 ≤ (σ7.1 0 1).toInt ∧ (σ7.1 0 1).toInt ≤ 600 := by rw [hOσ7.2 0 (by decide)] <;> exact ht
      refine ok_gR (v := 55) hT rfl (hR 0 7 rfl) ?_
      refine ok_s16 hT rfl (by decide) (by first | omega | decide | (have q1 := hD.1; have q2 := hD.2.1; simp only [Int32.le_iff_toInt_le, Int32.lt_iff_toInt_lt, ti_add, ti_sub, ti_mul, Int32.reduceToInt] at *; omega)) (by first | omega | decide | (have q1 := hD.1; have q2 := hD.2.1; simp only [Int32.le_iff_toInt_le, Int32.lt_iff_toInt_lt, ti_add, ti_sub, ti_mul, Int32.reduceToInt] at *; omega)) (fun σ9 eσ9 hOσ9 hT => ?_)
      have hW2 : WI 2 σ9.1 := WI.tr hOσ9 (by decide) (by decide) (by decide) hW2
      have hW28 : WI 28 σ9.1 := WI.tr hOσ9 (by decide) (by decide) (by decide) hW28
      have hW132 : WI 132 σ9.1 := WI.tr hOσ9 (by decide) (by decide) (by decide) hW132
      have hW158 : WI 158 σ9.1 := WI.tr hOσ9 (by decide) (by decide) (by decide) hW158
      have hW184 : WI 184 σ9.1 := WI.tr hOσ9 (by decide) (by decide) (by decide) hW184
      have hL : SI σ9.1 := SI.tr hOσ9 (by decide) (by decide) (by decide) (by decide) hL
      have hD : RD σ9.1 := RD.tr hOσ9 (by decide) (by decide) (by decide) (by decide) hD
      have hu : 2 ≤ (σ9.1 111 8).toInt ∧ (σ9.1 111 8).toInt ≤ 1600 := by rw [hOσ9.2 111 (by decide)] <;> exact hu
      have ht : 0 ≤ (σ9.1 0 1).toInt ∧ (σ9.1 0 1).toInt ≤ 600 := by rw [hOσ9.2 0 (by decide)] <;> exact ht
      exact ok_some ⟨hT, (show CF σ9.1 from by exact ⟨hW2, hW28, hW132, hW158, hW184, hL, hD, hu, ht⟩)⟩
    · exact ok_some ⟨hT, (show CF σ0.1 from by exact ⟨hW2, hW28, hW132, hW158, hW184, hL, hD, hu, ht⟩)⟩

set_option maxHeartbeats 4000000 in
set_option maxRecDepth 100000 in
theorem s_X11_back_n2_1 {N : Nat} (hN : 1048576 ≤ N)  {σ0 : zS}  (hR : RF σ0.2.2) (hNw : σ0.2.2 0 4 = 2) (hPw : σ0.2.2 0 5 = 28) (hC : CF σ0.1) : Ok (f_X11_back N 0 1 σ0) (fun r => Tr [2, 3, 4, 5, 6] σ0 r.2 ∧ (CF r.2.1)) := by
  have hT : Tr [2, 3, 4, 5, 6] σ0 σ0 := Tr.rf
  obtain ⟨hW2, hW28, hW132, hW158, hW184, hL, hD, hu, ht⟩ := hC
  have hn := hW2.1
  have he := hW2.2.1
  have hD0 := hD
  have hL0 := hL
  have q10 := ti_one10 (x := σ0.1 2 0) hn.1 hn.2
  rw [f_X11_back.eq_1]
  refine ok_if (fun hc1 => ?_) (fun hc1 => ?_)
  · exact ok_some ⟨hT, (show CF σ0.1 from by exact ⟨hW2, hW28, hW132, hW158, hW184, hL, hD, hu, ht⟩)⟩
  · refine ok_if (fun hc2 => ?_) (fun hc2 => ?_)
    · refine ok_gR (v := 55) hT rfl (hR 0 7 rfl) ?_
      refine ok_aIn rfl (by first | omega | decide | (have q1 := hD.1; have q2 := hD.2.1; simp only [Int32.le_iff_toInt_le, Int32.lt_iff_toInt_lt, ti_add, ti_sub, ti_mul, Int32.reduceToInt] at *; omega)) (by first | omega | decide | (have q1 := hD.1; have q2 := hD.2.1; simp only [Int32.le_iff_toInt_le, Int32.lt_iff_toInt_lt, ti_add, ti_sub, ti_mul, Int32.reduceToInt] at *; omega)) (fun v4 ev4 => ?_)
      refine ok_if (fun hc5 => ?_) (fun hc5 => ?_)
      · exact ok_some ⟨hT, (show CF σ0.1 from by exact ⟨hW2, hW28, hW132, hW158, hW184, hL, hD, hu, ht⟩)⟩
      · refine ok_gR (v := 2) hT rfl hNw ?_
        refine ok_gR (v := 54) hT rfl (hR 0 6 rfl) ?_
        refine ok_aR (v := 158) hT rfl (by first | omega | decide | (have q1 := hD.1; have q2 := hD.2.1; simp only [Int32.le_iff_toInt_le, Int32.lt_iff_toInt_lt, ti_add, ti_sub, ti_mul, Int32.reduceToInt] at *; omega)) (by first | omega | decide | (have q1 := hD.1; have q2 := hD.2.1; simp only [Int32.le_iff_toInt_le, Int32.lt_iff_toInt_lt, ti_add, ti_sub, ti_mul, Int32.reduceToInt] at *; omega)) (hR 54 1 rfl) ?_
        refine ok_gC rfl ?_
        refine ok_zbT (Q := fun V σ => WI 2 σ.1) hT (s_X10_copyFrom_2_158 hN (hR.tr hT) (hW2) (hW158)) (by decide) (fun v9 σ10 hOσ10 hT hqv9 => ?_)
        have hqv9 : WI 2 σ10.1 := hqv9
        have hW2 : WI 2 σ10.1 := hqv9
        have hW28 : WI 28 σ10.1 := WI.tr hOσ10 (by decide) (by decide) (by decide) hW28
        have hW132 : WI 132 σ10.1 := WI.tr hOσ10 (by decide) (by decide) (by decide) hW132
        have hW158 : WI 158 σ10.1 := WI.tr hOσ10 (by decide) (by decide) (by decide) hW158
        have hW184 : WI 184 σ10.1 := WI.tr hOσ10 (by decide) (by decide) (by decide) hW184
        have hL : SI σ10.1 := SI.tr hOσ10 (by decide) (by decide) (by decide) (by decide) hL
        have hD : RD σ10.1 := RD.tr hOσ10 (by decide) (by decide) (by decide) (by decide) hD
        have hu : 2 ≤ (σ10.1 111 8).toInt ∧ (σ10.1 111 8).toInt ≤ 1600 := by rw [hOσ10.2 111 (by decide)] <;> exact hu
        have ht : 0 ≤ (σ10.1 0 1).toInt ∧ (σ10.1 0 1).toInt ≤ 600 := by rw [hOσ10.2 0 (by decide)] <;> exact ht
        exact ok_some ⟨hT, (show CF σ10.1 from by exact ⟨hW2, hW28, hW132, hW158, hW184, hL, hD, hu, ht⟩)⟩
    · exact ok_some ⟨hT, (show CF σ0.1 from by exact ⟨hW2, hW28, hW132, hW158, hW184, hL, hD, hu, ht⟩)⟩

set_option maxHeartbeats 4000000 in
set_option maxRecDepth 100000 in
theorem s_X11_keep_n2_2 {N : Nat} (hN : 1048576 ≤ N)  {σ0 : zS}  (hR : RF σ0.2.2) (hNw : σ0.2.2 0 4 = 2) (hPw : σ0.2.2 0 5 = 28) (hC : CF σ0.1) : Ok (f_X11_keep N 0 2 σ0) (fun r => Tr [55, 184, 185, 186, 187, 188] σ0 r.2 ∧ (CF r.2.1)) := by
  have hT : Tr [55, 184, 185, 186, 187, 188] σ0 σ0 := Tr.rf
  obtain ⟨hW2, hW28, hW132, hW158, hW184, hL, hD, hu, ht⟩ := hC
  have hn := hW2.1
  have he := hW2.2.1
  have hD0 := hD
  have hL0 := hL
  have q10 := ti_one10 (x := σ0.1 2 0) hn.1 hn.2
  rw [f_X11_keep.eq_1]
  refine ok_if (fun hc1 => ?_) (fun hc1 => ?_)
  · exact ok_some ⟨hT, (show CF σ0.1 from by exact ⟨hW2, hW28, hW132, hW158, hW184, hL, hD, hu, ht⟩)⟩
  · refine ok_if (fun hc2 => ?_) (fun hc2 => ?_)
    · refine ok_gR (v := 54) hT rfl (hR 0 6 rfl) ?_
      refine ok_aR (v := 184) hT rfl (by first | omega | decide | (have q1 := hD.1; have q2 := hD.2.1; simp only [Int32.le_iff_toInt_le, Int32.lt_iff_toInt_lt, ti_add, ti_sub, ti_mul, Int32.reduceToInt] at *; omega)) (by first | omega | decide | (have q1 := hD.1; have q2 := hD.2.1; simp only [Int32.le_iff_toInt_le, Int32.lt_iff_toInt_lt, ti_add, ti_sub, ti_mul, Int32.reduceToInt] at *; omega)) (hR 54 2 rfl) ?_
      refine ok_gR (v := 2) hT rfl hNw ?_
      refine ok_gC rfl ?_
      refine ok_zbT (Q := fun V σ => WI 184 σ.1) hT (s_X10_copyFrom_184_2 hN (hR.tr hT) (hW184) (hW2)) (by decide) (fun v6 σ7 hOσ7 hT hqv6 => ?_)
      have hqv6 : WI 184 σ7.1 := hqv6
      have hW2 : WI 2 σ7.1 := WI.tr hOσ7 (by decide) (by decide) (by decide) hW2
      have hW28 : WI 28 σ7.1 := WI.tr hOσ7 (by decide) (by decide) (by decide) hW28
      have hW132 : WI 132 σ7.1 := WI.tr hOσ7 (by decide) (by decide) (by decide) hW132
      have hW158 : WI 158 σ7.1 := WI.tr hOσ7 (by decide) (by decide) (by decide) hW158
      have hW184 : WI 184 σ7.1 := hqv6
      have hL : SI σ7.1 := SI.tr hOσ7 (by decide) (by decide) (by decide) (by decide) hL
      have hD : RD σ7.1 := RD.tr hOσ7 (by decide) (by decide) (by decide) (by decide) hD
      have hu : 2 ≤ (σ7.1 111 8).toInt ∧ (σ7.1 111 8).toInt ≤ 1600 := by rw [hOσ7.2 111 (by decide)] <;> exact hu
      have ht : 0 ≤ (σ7.1 0 1).toInt ∧ (σ7.1 0 1).toInt ≤ 600 := by rw [hOσ7.2 0 (by decide)] <;> exact ht
      refine ok_gR (v := 55) hT rfl (hR 0 7 rfl) ?_
      refine ok_s16 hT rfl (by decide) (by first | omega | decide | (have q1 := hD.1; have q2 := hD.2.1; simp only [Int32.le_iff_toInt_le, Int32.lt_iff_toInt_lt, ti_add, ti_sub, ti_mul, Int32.reduceToInt] at *; omega)) (by first | omega | decide | (have q1 := hD.1; have q2 := hD.2.1; simp only [Int32.le_iff_toInt_le, Int32.lt_iff_toInt_lt, ti_add, ti_sub, ti_mul, Int32.reduceToInt] at *; omega)) (fun σ9 eσ9 hOσ9 hT => ?_)
      have hW2 : WI 2 σ9.1 := WI.tr hOσ9 (by decide) (by decide) (by decide) hW2
      have hW28 : WI 28 σ9.1 := WI.tr hOσ9 (by decide) (by decide) (by decide) hW28
      have hW132 : WI 132 σ9.1 := WI.tr hOσ9 (by decide) (by decide) (by decide) hW132
      have hW158 : WI 158 σ9.1 := WI.tr hOσ9 (by decide) (by decide) (by decide) hW158
      have hW184 : WI 184 σ9.1 := WI.tr hOσ9 (by decide) (by decide) (by decide) hW184
      have hL : SI σ9.1 := SI.tr hOσ9 (by decide) (by decide) (by decide) (by decide) hL
      have hD : RD σ9.1 := RD.tr hOσ9 (by decide) (by decide) (by decide) (by decide) hD
      have hu : 2 ≤ (σ9.1 111 8).toInt ∧ (σ9.1 111 8).toInt ≤ 1600 := by rw [hOσ9.2 111 (by decide)] <;> exact hu
      have ht : 0 ≤ (σ9.1 0 1).toInt ∧ (σ9.1 0 1).toInt ≤ 600 := by rw [hOσ9.2 0 (by decide)] <;> exact ht
      exact ok_some ⟨hT, (show CF σ9.1 from by exact ⟨hW2, hW28, hW132, hW158, hW184, hL, hD, hu, ht⟩)⟩
    · exact ok_some ⟨hT, (show CF σ0.1 from by exact ⟨hW2, hW28, hW132, hW158, hW184, hL, hD, hu, ht⟩)⟩

set_option maxHeartbeats 4000000 in
set_option maxRecDepth 100000 in
theorem s_X11_back_n2_2 {N : Nat} (hN : 1048576 ≤ N)  {σ0 : zS}  (hR : RF σ0.2.2) (hNw : σ0.2.2 0 4 = 2) (hPw : σ0.2.2 0 5 = 28) (hC : CF σ0.1) : Ok (f_X11_back N 0 2 σ0) (fun r => Tr [2, 3, 4, 5, 6] σ0 r.2 ∧ (CF r.2.1)) := by
  have hT : Tr [2, 3, 4, 5, 6] σ0 σ0 := Tr.rf
  obtain ⟨hW2, hW28, hW132, hW158, hW184, hL, hD, hu, ht⟩ := hC
  have hn := hW2.1
  have he := hW2.2.1
  have hD0 := hD
  have hL0 := hL
  have q10 := ti_one10 (x := σ0.1 2 0) hn.1 hn.2
  rw [f_X11_back.eq_1]
  refine ok_if (fun hc1 => ?_) (fun hc1 => ?_)
  · exact ok_some ⟨hT, (show CF σ0.1 from by exact ⟨hW2, hW28, hW132, hW158, hW184, hL, hD, hu, ht⟩)⟩
  · refine ok_if (fun hc2 => ?_) (fun hc2 => ?_)
    · refine ok_gR (v := 55) hT rfl (hR 0 7 rfl) ?_
      refine ok_aIn rfl (by first | omega | decide | (have q1 := hD.1; have q2 := hD.2.1; simp only [Int32.le_iff_toInt_le, Int32.lt_iff_toInt_lt, ti_add, ti_sub, ti_mul, Int32.reduceToInt] at *; omega)) (by first | omega | decide | (have q1 := hD.1; have q2 := hD.2.1; simp only [Int32.le_iff_toInt_le, Int32.lt_iff_toInt_lt, ti_add, ti_sub, ti_mul, Int32.reduceToInt] at *; omega)) (fun v4 ev4 => ?_)
      refine ok_if (fun hc5 => ?_) (fun hc5 => ?_)
      · exact ok_some ⟨hT, (show CF σ0.1 from by exact ⟨hW2, hW28, hW132, hW158, hW184, hL, hD, hu, ht⟩)⟩
      · refine ok_gR (v := 2) hT rfl hNw ?_
        refine ok_gR (v := 54) hT rfl (hR 0 6 rfl) ?_
        refine ok_aR (v := 184) hT rfl (by first | omega | decide | (have q1 := hD.1; have q2 := hD.2.1; simp only [Int32.le_iff_toInt_le, Int32.lt_iff_toInt_lt, ti_add, ti_sub, ti_mul, Int32.reduceToInt] at *; omega)) (by first | omega | decide | (have q1 := hD.1; have q2 := hD.2.1; simp only [Int32.le_iff_toInt_le, Int32.lt_iff_toInt_lt, ti_add, ti_sub, ti_mul, Int32.reduceToInt] at *; omega)) (hR 54 2 rfl) ?_
        refine ok_gC rfl ?_
        refine ok_zbT (Q := fun V σ => WI 2 σ.1) hT (s_X10_copyFrom_2_184 hN (hR.tr hT) (hW2) (hW184)) (by decide) (fun v9 σ10 hOσ10 hT hqv9 => ?_)
        have hqv9 : WI 2 σ10.1 := hqv9
        have hW2 : WI 2 σ10.1 := hqv9
        have hW28 : WI 28 σ10.1 := WI.tr hOσ10 (by decide) (by decide) (by decide) hW28
        have hW132 : WI 132 σ10.1 := WI.tr hOσ10 (by decide) (by decide) (by decide) hW132
        have hW158 : WI 158 σ10.1 := WI.tr hOσ10 (by decide) (by decide) (by decide) hW158
        have hW184 : WI 184 σ10.1 := WI.tr hOσ10 (by decide) (by decide) (by decide) hW184
        have hL : SI σ10.1 := SI.tr hOσ10 (by decide) (by decide) (by decide) (by decide) hL
        have hD : RD σ10.1 := RD.tr hOσ10 (by decide) (by decide) (by decide) (by decide) hD
        have hu : 2 ≤ (σ10.1 111 8).toInt ∧ (σ10.1 111 8).toInt ≤ 1600 := by rw [hOσ10.2 111 (by decide)] <;> exact hu
        have ht : 0 ≤ (σ10.1 0 1).toInt ∧ (σ10.1 0 1).toInt ≤ 600 := by rw [hOσ10.2 0 (by decide)] <;> exact ht
        exact ok_some ⟨hT, (show CF σ10.1 from by exact ⟨hW2, hW28, hW132, hW158, hW184, hL, hD, hu, ht⟩)⟩
    · exact ok_some ⟨hT, (show CF σ0.1 from by exact ⟨hW2, hW28, hW132, hW158, hW184, hL, hD, hu, ht⟩)⟩

set_option maxHeartbeats 4000000 in
set_option maxRecDepth 100000 in
theorem s_X11_isWorld_n28 {N : Nat} (hN : 1048576 ≤ N)  {σ0 : zS}  (hR : RF σ0.2.2) (hNw : σ0.2.2 0 4 = 28) (hn : 0 ≤ (σ0.1 28 0).toInt ∧ (σ0.1 28 0).toInt ≤ 10) : Ok (f_X11_isWorld N 0 σ0) (fun r => Tr [] σ0 r.2 ∧ ((r.1 = 0 ∨ r.1 = 1) ∧ (¬ r.1 = 0 → 0 < (σ0.1 28 0).toInt))) := by
  have hT : Tr [] σ0 σ0 := Tr.rf
  have q10 := ti_one10 (x := σ0.1 28 0) hn.1 hn.2
  rw [f_X11_isWorld.eq_1]
  refine ok_gR (v := 28) hT rfl hNw ?_
  refine ok_gI0 hT rfl (by decide) ?_
  refine ok_if (fun hc3 => ?_) (fun hc3 => ?_)
  · exact ok_rZ (Or.inl rfl) ⟨hT, (show ((0 : Int32) = 0 ∨ (0 : Int32) = 1) ∧ (¬ (0 : Int32) = 0 → 0 < (σ0.1 28 0).toInt) from by first | exact ⟨Or.inl rfl, fun h9 => absurd rfl h9⟩ | exact ⟨Or.inr rfl, fun _ => by simp only [Int32.le_iff_toInt_le, Int32.lt_iff_toInt_lt, ti_add, ti_sub, ti_mul, Int32.reduceToInt] at *; omega⟩)⟩
  · exact ok_rZ (Or.inr rfl) ⟨hT, (show ((1 : Int32) = 0 ∨ (1 : Int32) = 1) ∧ (¬ (1 : Int32) = 0 → 0 < (σ0.1 28 0).toInt) from by first | exact ⟨Or.inl rfl, fun h9 => absurd rfl h9⟩ | exact ⟨Or.inr rfl, fun _ => by simp only [Int32.le_iff_toInt_le, Int32.lt_iff_toInt_lt, ti_add, ti_sub, ti_mul, Int32.reduceToInt] at *; omega⟩)⟩

set_option maxHeartbeats 4000000 in
set_option maxRecDepth 100000 in
theorem s_X11_isRegister_n28 {N : Nat} (hN : 1048576 ≤ N) {x1 : Int32} {σ0 : zS}  (hR : RF σ0.2.2) (hNw : σ0.2.2 0 4 = 28) (hn : 0 ≤ (σ0.1 28 0).toInt ∧ (σ0.1 28 0).toInt ≤ 10) : Ok (f_X11_isRegister N 0 x1 σ0) (fun r => Tr [] σ0 r.2 ∧ ((r.1 = 0 ∨ r.1 = 1) ∧ (¬ r.1 = 0 → 0 ≤ x1.toInt ∧ x1.toInt ≤ 9))) := by
  have hT : Tr [] σ0 σ0 := Tr.rf
  have q10 := ti_one10 (x := σ0.1 28 0) hn.1 hn.2
  rw [f_X11_isRegister.eq_1]
  refine ok_gC rfl ?_
  refine ok_zbT (Q := fun V σ => (V = 0 ∨ V = 1) ∧ (¬ V = 0 → 0 < (σ0.1 28 0).toInt)) hT (s_X11_isWorld_n28 hN (hR.tr hT) ((hT.1.1 0 4 (by decide)).trans hNw) (by first | exact hn | (rw [hT.2 28 (by decide)]; exact hn))) (fun _ h9 => absurd h9 List.not_mem_nil) (fun v1 σ2 hOσ2 hT hqv1 => ?_)
  have hqv1 : (v1 = 0 ∨ v1 = 1) ∧ (¬ v1 = 0 → 0 < (σ0.1 28 0).toInt) := hqv1
  refine ok_if (fun hc3 => ?_) (fun hc3 => ?_)
  · exact ok_rZ (Or.inl rfl) ⟨hT, (show ((0 : Int32) = 0 ∨ (0 : Int32) = 1) ∧ (¬ (0 : Int32) = 0 → 0 ≤ x1.toInt ∧ x1.toInt ≤ 9) from by first | exact ⟨Or.inl rfl, fun h9 => absurd rfl h9⟩ | exact ⟨Or.inr rfl, fun _ => by simp only [Int32.le_iff_toInt_le, Int32.lt_iff_toInt_lt, ti_add, ti_sub, ti_mul, Int32.reduceToInt] at *; omega⟩)⟩
  · have qhc3 := hqv1.2 hc3
    refine ok_if (fun hc4 => ?_) (fun hc4 => ?_)
    · exact ok_rZ (Or.inl rfl) ⟨hT, (show ((0 : Int32) = 0 ∨ (0 : Int32) = 1) ∧ (¬ (0 : Int32) = 0 → 0 ≤ x1.toInt ∧ x1.toInt ≤ 9) from by first | exact ⟨Or.inl rfl, fun h9 => absurd rfl h9⟩ | exact ⟨Or.inr rfl, fun _ => by simp only [Int32.le_iff_toInt_le, Int32.lt_iff_toInt_lt, ti_add, ti_sub, ti_mul, Int32.reduceToInt] at *; omega⟩)⟩
    · refine ok_if (fun hc5 => ?_) (fun hc5 => ?_)
      · exact ok_rZ (Or.inl rfl) ⟨hT, (show ((0 : Int32) = 0 ∨ (0 : Int32) = 1) ∧ (¬ (0 : Int32) = 0 → 0 ≤ x1.toInt ∧ x1.toInt ≤ 9) from by first | exact ⟨Or.inl rfl, fun h9 => absurd rfl h9⟩ | exact ⟨Or.inr rfl, fun _ => by simp only [Int32.le_iff_toInt_le, Int32.lt_iff_toInt_lt, ti_add, ti_sub, ti_mul, Int32.reduceToInt] at *; omega⟩)⟩
      · exact ok_rZ (Or.inr rfl) ⟨hT, (show ((1 : Int32) = 0 ∨ (1 : Int32) = 1) ∧ (¬ (1 : Int32) = 0 → 0 ≤ x1.toInt ∧ x1.toInt ≤ 9) from by first | exact ⟨Or.inl rfl, fun h9 => absurd rfl h9⟩ | exact ⟨Or.inr rfl, fun _ => by simp only [Int32.le_iff_toInt_le, Int32.lt_iff_toInt_lt, ti_add, ti_sub, ti_mul, Int32.reduceToInt] at *; omega⟩)⟩

set_option maxHeartbeats 4000000 in
set_option maxRecDepth 100000 in
theorem s_X11_isSet_n28 {N : Nat} (hN : 1048576 ≤ N) {x1 : Int32} {σ0 : zS}  (hR : RF σ0.2.2) (hNw : σ0.2.2 0 4 = 28) (hn : 0 ≤ (σ0.1 28 0).toInt ∧ (σ0.1 28 0).toInt ≤ 10) : Ok (f_X11_isSet N 0 x1 σ0) (fun r => Tr [] σ0 r.2 ∧ ((r.1 = 0 ∨ r.1 = 1) ∧ (¬ r.1 = 0 → 0 ≤ x1.toInt ∧ x1.toInt ≤ 1023))) := by
  have hT : Tr [] σ0 σ0 := Tr.rf
  have q10 := ti_one10 (x := σ0.1 28 0) hn.1 hn.2
  rw [f_X11_isSet.eq_1]
  refine ok_gC rfl ?_
  refine ok_zbT (Q := fun V σ => (V = 0 ∨ V = 1) ∧ (¬ V = 0 → 0 < (σ0.1 28 0).toInt)) hT (s_X11_isWorld_n28 hN (hR.tr hT) ((hT.1.1 0 4 (by decide)).trans hNw) (by first | exact hn | (rw [hT.2 28 (by decide)]; exact hn))) (fun _ h9 => absurd h9 List.not_mem_nil) (fun v1 σ2 hOσ2 hT hqv1 => ?_)
  have hqv1 : (v1 = 0 ∨ v1 = 1) ∧ (¬ v1 = 0 → 0 < (σ0.1 28 0).toInt) := hqv1
  refine ok_if (fun hc3 => ?_) (fun hc3 => ?_)
  · exact ok_rZ (Or.inl rfl) ⟨hT, (show ((0 : Int32) = 0 ∨ (0 : Int32) = 1) ∧ (¬ (0 : Int32) = 0 → 0 ≤ x1.toInt ∧ x1.toInt ≤ 1023) from by first | exact ⟨Or.inl rfl, fun h9 => absurd rfl h9⟩ | exact ⟨Or.inr rfl, fun _ => by simp only [Int32.le_iff_toInt_le, Int32.lt_iff_toInt_lt, ti_add, ti_sub, ti_mul, Int32.reduceToInt] at *; omega⟩)⟩
  · have qhc3 := hqv1.2 hc3
    refine ok_if (fun hc4 => ?_) (fun hc4 => ?_)
    · exact ok_rZ (Or.inl rfl) ⟨hT, (show ((0 : Int32) = 0 ∨ (0 : Int32) = 1) ∧ (¬ (0 : Int32) = 0 → 0 ≤ x1.toInt ∧ x1.toInt ≤ 1023) from by first | exact ⟨Or.inl rfl, fun h9 => absurd rfl h9⟩ | exact ⟨Or.inr rfl, fun _ => by simp only [Int32.le_iff_toInt_le, Int32.lt_iff_toInt_lt, ti_add, ti_sub, ti_mul, Int32.reduceToInt] at *; omega⟩)⟩
    · refine ok_gR (v := 28) hT rfl hNw ?_
      refine ok_gI0 hT rfl (by decide) ?_
      refine ok_if (fun hc7 => ?_) (fun hc7 => ?_)
      · exact ok_rZ (Or.inl rfl) ⟨hT, (show ((0 : Int32) = 0 ∨ (0 : Int32) = 1) ∧ (¬ (0 : Int32) = 0 → 0 ≤ x1.toInt ∧ x1.toInt ≤ 1023) from by first | exact ⟨Or.inl rfl, fun h9 => absurd rfl h9⟩ | exact ⟨Or.inr rfl, fun _ => by simp only [Int32.le_iff_toInt_le, Int32.lt_iff_toInt_lt, ti_add, ti_sub, ti_mul, Int32.reduceToInt] at *; omega⟩)⟩
      · exact ok_rZ (Or.inr rfl) ⟨hT, (show ((1 : Int32) = 0 ∨ (1 : Int32) = 1) ∧ (¬ (1 : Int32) = 0 → 0 ≤ x1.toInt ∧ x1.toInt ≤ 1023) from by first | exact ⟨Or.inl rfl, fun h9 => absurd rfl h9⟩ | exact ⟨Or.inr rfl, fun _ => by simp only [Int32.le_iff_toInt_le, Int32.lt_iff_toInt_lt, ti_add, ti_sub, ti_mul, Int32.reduceToInt] at *; omega⟩)⟩

set_option maxHeartbeats 4000000 in
set_option maxRecDepth 100000 in
theorem s_X11_isName_n28 {N : Nat} (hN : 1048576 ≤ N) {x1 : Int32} {σ0 : zS}  (hR : RF σ0.2.2) (hNw : σ0.2.2 0 4 = 28) (hn : 0 ≤ (σ0.1 28 0).toInt ∧ (σ0.1 28 0).toInt ≤ 10) : Ok (f_X11_isName N 0 x1 σ0) (fun r => Tr [] σ0 r.2 ∧ ((r.1 = 0 ∨ r.1 = 1) ∧ (¬ r.1 = 0 → 0 ≤ x1.toInt ∧ x1.toInt < (σ0.1 28 0).toInt))) := by
  have hT : Tr [] σ0 σ0 := Tr.rf
  have q10 := ti_one10 (x := σ0.1 28 0) hn.1 hn.2
  rw [f_X11_isName.eq_1]
  refine ok_if (fun hc1 => ?_) (fun hc1 => ?_)
  · exact ok_rZ (Or.inl rfl) ⟨hT, (show ((0 : Int32) = 0 ∨ (0 : Int32) = 1) ∧ (¬ (0 : Int32) = 0 → 0 ≤ x1.toInt ∧ x1.toInt < (σ0.1 28 0).toInt) from by first | exact ⟨Or.inl rfl, fun h9 => absurd rfl h9⟩ | exact ⟨Or.inr rfl, fun _ => by simp only [Int32.le_iff_toInt_le, Int32.lt_iff_toInt_lt, ti_add, ti_sub, ti_mul, Int32.reduceToInt] at *; omega⟩)⟩
  · refine ok_gR (v := 28) hT rfl hNw ?_
    refine ok_gI0 hT rfl (by decide) ?_
    refine ok_if (fun hc4 => ?_) (fun hc4 => ?_)
    · exact ok_rZ (Or.inl rfl) ⟨hT, (show ((0 : Int32) = 0 ∨ (0 : Int32) = 1) ∧ (¬ (0 : Int32) = 0 → 0 ≤ x1.toInt ∧ x1.toInt < (σ0.1 28 0).toInt) from by first | exact ⟨Or.inl rfl, fun h9 => absurd rfl h9⟩ | exact ⟨Or.inr rfl, fun _ => by simp only [Int32.le_iff_toInt_le, Int32.lt_iff_toInt_lt, ti_add, ti_sub, ti_mul, Int32.reduceToInt] at *; omega⟩)⟩
    · exact ok_rZ (Or.inr rfl) ⟨hT, (show ((1 : Int32) = 0 ∨ (1 : Int32) = 1) ∧ (¬ (1 : Int32) = 0 → 0 ≤ x1.toInt ∧ x1.toInt < (σ0.1 28 0).toInt) from by first | exact ⟨Or.inl rfl, fun h9 => absurd rfl h9⟩ | exact ⟨Or.inr rfl, fun _ => by simp only [Int32.le_iff_toInt_le, Int32.lt_iff_toInt_lt, ti_add, ti_sub, ti_mul, Int32.reduceToInt] at *; omega⟩)⟩

set_option maxHeartbeats 4000000 in
set_option maxRecDepth 100000 in
theorem s_X11_store_n28 {N : Nat} (hN : 1048576 ≤ N) {x1 : Int32} {σ0 : zS}  (hR : RF σ0.2.2) (hNw : σ0.2.2 0 4 = 28) (hn : 0 ≤ (σ0.1 28 0).toInt ∧ (σ0.1 28 0).toInt ≤ 10) : Ok (f_X11_store N 0 x1 σ0) (fun r => Tr [] σ0 r.2 ∧ (True)) := by
  have hT : Tr [] σ0 σ0 := Tr.rf
  have q10 := ti_one10 (x := σ0.1 28 0) hn.1 hn.2
  rw [f_X11_store.eq_1]
  refine ok_gC rfl ?_
  refine ok_zbT (Q := fun V σ => (V = 0 ∨ V = 1) ∧ (¬ V = 0 → 0 ≤ x1.toInt ∧ x1.toInt ≤ 9)) hT (s_X11_isRegister_n28 hN (hR.tr hT) ((hT.1.1 0 4 (by decide)).trans hNw) (by first | exact hn | (rw [hT.2 28 (by decide)]; exact hn))) (fun _ h9 => absurd h9 List.not_mem_nil) (fun v1 σ2 hOσ2 hT hqv1 => ?_)
  have hqv1 : (v1 = 0 ∨ v1 = 1) ∧ (¬ v1 = 0 → 0 ≤ x1.toInt ∧ x1.toInt ≤ 9) := hqv1
  refine ok_if (fun hc3 => ?_) (fun hc3 => ?_)
  · exact ok_some ⟨hT, trivial⟩
  · have qhc3 := hqv1.2 hc3
    have qr5 := hqv1.2 hc3
    refine ok_gR (v := 28) hT rfl hNw ?_
    refine ok_gR (v := 33) hT rfl (hR 28 7 rfl) ?_
    obtain ⟨q7, eq7, kq7⟩ := arrF hR (k := 33) (i := x1) rfl (by first | omega | decide | (simp only [Int32.le_iff_toInt_le, Int32.lt_iff_toInt_lt, ti_add, ti_sub, ti_mul, Int32.reduceToInt] at *; omega)) (by first | omega | decide | (simp only [Int32.le_iff_toInt_le, Int32.lt_iff_toInt_lt, ti_add, ti_sub, ti_mul, Int32.reduceToInt] at *; omega))
    refine ok_aR (v := q7) hT rfl (by first | omega | decide | (simp only [Int32.le_iff_toInt_le, Int32.lt_iff_toInt_lt, ti_add, ti_sub, ti_mul, Int32.reduceToInt] at *; omega)) (by first | omega | decide | (simp only [Int32.le_iff_toInt_le, Int32.lt_iff_toInt_lt, ti_add, ti_sub, ti_mul, Int32.reduceToInt] at *; omega)) eq7 ?_
    refine ok_gR (v := 128) hT rfl (hR 0 17 rfl) ?_
    refine ok_gC kq7 ?_
    refine ok_zbT (Q := fun V σ => True) hT (s_X2_copyFrom hN (hR.tr hT) kq7 rfl) (fun _ h9 => absurd h9 List.not_mem_nil) (fun v9 σ10 hOσ10 hT hqv9 => ?_)
    refine ok_gR (v := 128) hT rfl (hR 0 17 rfl) ?_
    refine ok_gC rfl ?_
    refine ok_zbT (Q := fun V σ => True) hT (s_X2_tally hN (hR.tr hT) rfl) (fun _ h9 => absurd h9 List.not_mem_nil) (fun v12 σ13 hOσ13 hT hqv12 => ?_)
    exact ok_some ⟨hT, trivial⟩

set_option maxHeartbeats 4000000 in
set_option maxRecDepth 100000 in
theorem s_X11_fault_n28 {N : Nat} (hN : 1048576 ≤ N) {x1 : Int32} {σ0 : zS}  (hR : RF σ0.2.2) (hNw : σ0.2.2 0 4 = 28) (hPw : σ0.2.2 0 5 = 2) (hC : CF σ0.1) : Ok (f_X11_fault N 0 x1 σ0) (fun r => Tr [] σ0 r.2 ∧ (CF r.2.1)) := by
  have hT : Tr [] σ0 σ0 := Tr.rf
  obtain ⟨hW2, hW28, hW132, hW158, hW184, hL, hD, hu, ht⟩ := hC
  have hn := hW28.1
  have he := hW28.2.1
  have hD0 := hD
  have hL0 := hL
  have q10 := ti_one10 (x := σ0.1 28 0) hn.1 hn.2
  rw [f_X11_fault.eq_1]
  refine ok_if (fun hc1 => ?_) (fun hc1 => ?_)
  · refine ok_gI0 hT rfl (by decide) ?_
    exact ok_some ⟨hT, (show CF σ0.1 from by exact ⟨hW2, hW28, hW132, hW158, hW184, hL, hD, hu, ht⟩)⟩
  · refine ok_if (fun hc3 => ?_) (fun hc3 => ?_)
    · refine ok_gI0 hT rfl (by decide) ?_
      exact ok_some ⟨hT, (show CF σ0.1 from by exact ⟨hW2, hW28, hW132, hW158, hW184, hL, hD, hu, ht⟩)⟩
    · exact ok_some ⟨hT, (show CF σ0.1 from by exact ⟨hW2, hW28, hW132, hW158, hW184, hL, hD, hu, ht⟩)⟩

set_option maxHeartbeats 4000000 in
set_option maxRecDepth 100000 in
theorem s_X11_size_n28 {N : Nat} (hN : 1048576 ≤ N) {x1 : Int32} {σ0 : zS}  (hR : RF σ0.2.2) (hNw : σ0.2.2 0 4 = 28) (hPw : σ0.2.2 0 5 = 2) (hC : CF σ0.1) : Ok (f_X11_size N 0 x1 σ0) (fun r => Tr [] σ0 r.2 ∧ (CF r.2.1)) := by
  have hT : Tr [] σ0 σ0 := Tr.rf
  obtain ⟨hW2, hW28, hW132, hW158, hW184, hL, hD, hu, ht⟩ := hC
  have hn := hW28.1
  have he := hW28.2.1
  have hD0 := hD
  have hL0 := hL
  have q10 := ti_one10 (x := σ0.1 28 0) hn.1 hn.2
  rw [f_X11_size.eq_1]
  refine ok_gC rfl ?_
  refine ok_zbT (Q := fun V σ => (V = 0 ∨ V = 1) ∧ (¬ V = 0 → 0 ≤ x1.toInt ∧ x1.toInt ≤ 9)) hT (s_X11_isRegister_n28 hN (hR.tr hT) ((hT.1.1 0 4 (by decide)).trans hNw) (by first | exact hn | omega | (rw [hT.2 28 (by decide)]; exact hn))) (fun _ h9 => absurd h9 List.not_mem_nil) (fun v1 σ2 hOσ2 hT hqv1 => ?_)
  have hqv1 : (v1 = 0 ∨ v1 = 1) ∧ (¬ v1 = 0 → 0 ≤ x1.toInt ∧ x1.toInt ≤ 9) := hqv1
  have hW2 : WI 2 σ2.1 := WI.tr hOσ2 (by decide) (by decide) (by decide) hW2
  have hW28 : WI 28 σ2.1 := WI.tr hOσ2 (by decide) (by decide) (by decide) hW28
  have hW132 : WI 132 σ2.1 := WI.tr hOσ2 (by decide) (by decide) (by decide) hW132
  have hW158 : WI 158 σ2.1 := WI.tr hOσ2 (by decide) (by decide) (by decide) hW158
  have hW184 : WI 184 σ2.1 := WI.tr hOσ2 (by decide) (by decide) (by decide) hW184
  have hL : SI σ2.1 := SI.tr hOσ2 (by decide) (by decide) (by decide) (by decide) hL
  have hD : RD σ2.1 := RD.tr hOσ2 (by decide) (by decide) (by decide) (by decide) hD
  have hu : 2 ≤ (σ2.1 111 8).toInt ∧ (σ2.1 111 8).toInt ≤ 1600 := by rw [hOσ2.2 111 (by decide)] <;> exact hu
  have ht : 0 ≤ (σ2.1 0 1).toInt ∧ (σ2.1 0 1).toInt ≤ 600 := by rw [hOσ2.2 0 (by decide)] <;> exact ht
  refine ok_if (fun hc3 => ?_) (fun hc3 => ?_)
  · exact ok_some ⟨hT, (show CF σ2.1 from by exact ⟨hW2, hW28, hW132, hW158, hW184, hL, hD, hu, ht⟩)⟩
  · have qhc3 := hqv1.2 hc3
    refine ok_gR (v := 28) hT rfl hNw ?_
    refine ok_gR (v := 33) hT rfl (hR 28 7 rfl) ?_
    obtain ⟨q7, eq7, kq7⟩ := arrF hR (k := 33) (i := x1) rfl (by first | omega | decide | (have q1 := hD.1; have q2 := hD.2.1; simp only [Int32.le_iff_toInt_le, Int32.lt_iff_toInt_lt, ti_add, ti_sub, ti_mul, Int32.reduceToInt] at *; omega)) (by first | omega | decide | (have q1 := hD.1; have q2 := hD.2.1; simp only [Int32.le_iff_toInt_le, Int32.lt_iff_toInt_lt, ti_add, ti_sub, ti_mul, Int32.reduceToInt] at *; omega))
    refine ok_aR (v := q7) hT rfl (by first | omega | decide | (have q1 := hD.1; have q2 := hD.2.1; simp only [Int32.le_iff_toInt_le, Int32.lt_iff_toInt_lt, ti_add, ti_sub, ti_mul, Int32.reduceToInt] at *; omega)) (by first | omega | decide | (have q1 := hD.1; have q2 := hD.2.1; simp only [Int32.le_iff_toInt_le, Int32.lt_iff_toInt_lt, ti_add, ti_sub, ti_mul, Int32.reduceToInt] at *; omega)) eq7 ?_
    refine ok_gC kq7 ?_
    refine ok_zbT (Q := fun V σ => True) hT (s_X2_tally hN (hR.tr hT) kq7) (fun _ h9 => absurd h9 List.not_mem_nil) (fun v8 σ9 hOσ9 hT hqv8 => ?_)
    have hW2 : WI 2 σ9.1 := WI.tr hOσ9 (by decide) (by decide) (by decide) hW2
    have hW28 : WI 28 σ9.1 := WI.tr hOσ9 (by decide) (by decide) (by decide) hW28
    have hW132 : WI 132 σ9.1 := WI.tr hOσ9 (by decide) (by decide) (by decide) hW132
    have hW158 : WI 158 σ9.1 := WI.tr hOσ9 (by decide) (by decide) (by decide) hW158
    have hW184 : WI 184 σ9.1 := WI.tr hOσ9 (by decide) (by decide) (by decide) hW184
    have hL : SI σ9.1 := SI.tr hOσ9 (by decide) (by decide) (by decide) (by decide) hL
    have hD : RD σ9.1 := RD.tr hOσ9 (by decide) (by decide) (by decide) (by decide) hD
    have hu : 2 ≤ (σ9.1 111 8).toInt ∧ (σ9.1 111 8).toInt ≤ 1600 := by rw [hOσ9.2 111 (by decide)] <;> exact hu
    have ht : 0 ≤ (σ9.1 0 1).toInt ∧ (σ9.1 0 1).toInt ≤ 600 := by rw [hOσ9.2 0 (by decide)] <;> exact ht
    exact ok_some ⟨hT, (show CF σ9.1 from by exact ⟨hW2, hW28, hW132, hW158, hW184, hL, hD, hu, ht⟩)⟩

set_option maxHeartbeats 4000000 in
set_option maxRecDepth 100000 in
theorem s_X11_has_n28 {N : Nat} (hN : 1048576 ≤ N) {x1 : Int32} {x2 : Int32} {σ0 : zS}  (hR : RF σ0.2.2) (hNw : σ0.2.2 0 4 = 28) (hPw : σ0.2.2 0 5 = 2) (hC : CF σ0.1) : Ok (f_X11_has N 0 x1 x2 σ0) (fun r => Tr [] σ0 r.2 ∧ (CF r.2.1)) := by
  have hT : Tr [] σ0 σ0 := Tr.rf
  obtain ⟨hW2, hW28, hW132, hW158, hW184, hL, hD, hu, ht⟩ := hC
  have hn := hW28.1
  have he := hW28.2.1
  have hD0 := hD
  have hL0 := hL
  have q10 := ti_one10 (x := σ0.1 28 0) hn.1 hn.2
  rw [f_X11_has.eq_1]
  refine ok_gC rfl ?_
  refine ok_zbT (Q := fun V σ => (V = 0 ∨ V = 1) ∧ (¬ V = 0 → 0 ≤ x1.toInt ∧ x1.toInt ≤ 9)) hT (s_X11_isRegister_n28 hN (hR.tr hT) ((hT.1.1 0 4 (by decide)).trans hNw) (by first | exact hn | omega | (rw [hT.2 28 (by decide)]; exact hn))) (fun _ h9 => absurd h9 List.not_mem_nil) (fun v1 σ2 hOσ2 hT hqv1 => ?_)
  have hqv1 : (v1 = 0 ∨ v1 = 1) ∧ (¬ v1 = 0 → 0 ≤ x1.toInt ∧ x1.toInt ≤ 9) := hqv1
  have hW2 : WI 2 σ2.1 := WI.tr hOσ2 (by decide) (by decide) (by decide) hW2
  have hW28 : WI 28 σ2.1 := WI.tr hOσ2 (by decide) (by decide) (by decide) hW28
  have hW132 : WI 132 σ2.1 := WI.tr hOσ2 (by decide) (by decide) (by decide) hW132
  have hW158 : WI 158 σ2.1 := WI.tr hOσ2 (by decide) (by decide) (by decide) hW158
  have hW184 : WI 184 σ2.1 := WI.tr hOσ2 (by decide) (by decide) (by decide) hW184
  have hL : SI σ2.1 := SI.tr hOσ2 (by decide) (by decide) (by decide) (by decide) hL
  have hD : RD σ2.1 := RD.tr hOσ2 (by decide) (by decide) (by decide) (by decide) hD
  have hu : 2 ≤ (σ2.1 111 8).toInt ∧ (σ2.1 111 8).toInt ≤ 1600 := by rw [hOσ2.2 111 (by decide)] <;> exact hu
  have ht : 0 ≤ (σ2.1 0 1).toInt ∧ (σ2.1 0 1).toInt ≤ 600 := by rw [hOσ2.2 0 (by decide)] <;> exact ht
  refine ok_if (fun hc3 => ?_) (fun hc3 => ?_)
  · exact ok_some ⟨hT, (show CF σ2.1 from by exact ⟨hW2, hW28, hW132, hW158, hW184, hL, hD, hu, ht⟩)⟩
  · have qhc3 := hqv1.2 hc3
    refine ok_gC rfl ?_
    refine ok_zbT (Q := fun V σ => (V = 0 ∨ V = 1) ∧ (¬ V = 0 → 0 ≤ x2.toInt ∧ x2.toInt ≤ 1023)) hT (s_X11_isSet_n28 hN (hR.tr hT) ((hT.1.1 0 4 (by decide)).trans hNw) (by first | exact hn | omega | (rw [hT.2 28 (by decide)]; exact hn))) (fun _ h9 => absurd h9 List.not_mem_nil) (fun v4 σ5 hOσ5 hT hqv4 => ?_)
    have hqv4 : (v4 = 0 ∨ v4 = 1) ∧ (¬ v4 = 0 → 0 ≤ x2.toInt ∧ x2.toInt ≤ 1023) := hqv4
    have hW2 : WI 2 σ5.1 := WI.tr hOσ5 (by decide) (by decide) (by decide) hW2
    have hW28 : WI 28 σ5.1 := WI.tr hOσ5 (by decide) (by decide) (by decide) hW28
    have hW132 : WI 132 σ5.1 := WI.tr hOσ5 (by decide) (by decide) (by decide) hW132
    have hW158 : WI 158 σ5.1 := WI.tr hOσ5 (by decide) (by decide) (by decide) hW158
    have hW184 : WI 184 σ5.1 := WI.tr hOσ5 (by decide) (by decide) (by decide) hW184
    have hL : SI σ5.1 := SI.tr hOσ5 (by decide) (by decide) (by decide) (by decide) hL
    have hD : RD σ5.1 := RD.tr hOσ5 (by decide) (by decide) (by decide) (by decide) hD
    have hu : 2 ≤ (σ5.1 111 8).toInt ∧ (σ5.1 111 8).toInt ≤ 1600 := by rw [hOσ5.2 111 (by decide)] <;> exact hu
    have ht : 0 ≤ (σ5.1 0 1).toInt ∧ (σ5.1 0 1).toInt ≤ 600 := by rw [hOσ5.2 0 (by decide)] <;> exact ht
    refine ok_if (fun hc6 => ?_) (fun hc6 => ?_)
    · exact ok_some ⟨hT, (show CF σ5.1 from by exact ⟨hW2, hW28, hW132, hW158, hW184, hL, hD, hu, ht⟩)⟩
    · have qhc6 := hqv4.2 hc6
      refine ok_gR (v := 28) hT rfl hNw ?_
      refine ok_gR (v := 33) hT rfl (hR 28 7 rfl) ?_
      obtain ⟨q10, eq10, kq10⟩ := arrF hR (k := 33) (i := x1) rfl (by first | omega | decide | (have q1 := hD.1; have q2 := hD.2.1; simp only [Int32.le_iff_toInt_le, Int32.lt_iff_toInt_lt, ti_add, ti_sub, ti_mul, Int32.reduceToInt] at *; omega)) (by first | omega | decide | (have q1 := hD.1; have q2 := hD.2.1; simp only [Int32.le_iff_toInt_le, Int32.lt_iff_toInt_lt, ti_add, ti_sub, ti_mul, Int32.reduceToInt] at *; omega))
      refine ok_aR (v := q10) hT rfl (by first | omega | decide | (have q1 := hD.1; have q2 := hD.2.1; simp only [Int32.le_iff_toInt_le, Int32.lt_iff_toInt_lt, ti_add, ti_sub, ti_mul, Int32.reduceToInt] at *; omega)) (by first | omega | decide | (have q1 := hD.1; have q2 := hD.2.1; simp only [Int32.le_iff_toInt_le, Int32.lt_iff_toInt_lt, ti_add, ti_sub, ti_mul, Int32.reduceToInt] at *; omega)) eq10 ?_
      refine ok_gC kq10 ?_
      refine ok_zbT (Q := fun V σ => V = 0 ∨ V = 1) hT (s_X2_holds hN (hR.tr hT) kq10) (fun _ h9 => absurd h9 List.not_mem_nil) (fun v11 σ12 hOσ12 hT hqv11 => ?_)
      have hqv11 : v11 = 0 ∨ v11 = 1 := hqv11
      have hW2 : WI 2 σ12.1 := WI.tr hOσ12 (by decide) (by decide) (by decide) hW2
      have hW28 : WI 28 σ12.1 := WI.tr hOσ12 (by decide) (by decide) (by decide) hW28
      have hW132 : WI 132 σ12.1 := WI.tr hOσ12 (by decide) (by decide) (by decide) hW132
      have hW158 : WI 158 σ12.1 := WI.tr hOσ12 (by decide) (by decide) (by decide) hW158
      have hW184 : WI 184 σ12.1 := WI.tr hOσ12 (by decide) (by decide) (by decide) hW184
      have hL : SI σ12.1 := SI.tr hOσ12 (by decide) (by decide) (by decide) (by decide) hL
      have hD : RD σ12.1 := RD.tr hOσ12 (by decide) (by decide) (by decide) (by decide) hD
      have hu : 2 ≤ (σ12.1 111 8).toInt ∧ (σ12.1 111 8).toInt ≤ 1600 := by rw [hOσ12.2 111 (by decide)] <;> exact hu
      have ht : 0 ≤ (σ12.1 0 1).toInt ∧ (σ12.1 0 1).toInt ≤ 600 := by rw [hOσ12.2 0 (by decide)] <;> exact ht
      refine ok_if (fun hc13 => ?_) (fun hc13 => ?_)
      · exact ok_some ⟨hT, (show CF σ12.1 from by exact ⟨hW2, hW28, hW132, hW158, hW184, hL, hD, hu, ht⟩)⟩
      · exact ok_some ⟨hT, (show CF σ12.1 from by exact ⟨hW2, hW28, hW132, hW158, hW184, hL, hD, hu, ht⟩)⟩

set_option maxHeartbeats 4000000 in
set_option maxRecDepth 100000 in
theorem s_X11_makes_n28 {N : Nat} (hN : 1048576 ≤ N) {x1 : Int32} {x2 : Int32} {x3 : Int32} {x4 : Int32} {σ0 : zS}  (hR : RF σ0.2.2) (hNw : σ0.2.2 0 4 = 28) (hPw : σ0.2.2 0 5 = 2) (hC : CF σ0.1) : Ok (f_X11_makes N 0 x1 x2 x3 x4 σ0) (fun r => Tr [106, 107] σ0 r.2 ∧ (CF r.2.1)) := by
  have hT : Tr [106, 107] σ0 σ0 := Tr.rf
  obtain ⟨hW2, hW28, hW132, hW158, hW184, hL, hD, hu, ht⟩ := hC
  have hn := hW28.1
  have he := hW28.2.1
  have hD0 := hD
  have hL0 := hL
  have q10 := ti_one10 (x := σ0.1 28 0) hn.1 hn.2
  rw [f_X11_makes.eq_1]
  refine ok_gC rfl ?_
  refine ok_zbT (Q := fun V σ => (V = 0 ∨ V = 1) ∧ (¬ V = 0 → 0 ≤ x1.toInt ∧ x1.toInt ≤ 9)) hT (s_X11_isRegister_n28 hN (hR.tr hT) ((hT.1.1 0 4 (by decide)).trans hNw) (by first | exact hn | omega | (rw [hT.2 28 (by decide)]; exact hn))) (fun _ h9 => absurd h9 List.not_mem_nil) (fun v1 σ2 hOσ2 hT hqv1 => ?_)
  have hqv1 : (v1 = 0 ∨ v1 = 1) ∧ (¬ v1 = 0 → 0 ≤ x1.toInt ∧ x1.toInt ≤ 9) := hqv1
  have hW2 : WI 2 σ2.1 := WI.tr hOσ2 (by decide) (by decide) (by decide) hW2
  have hW28 : WI 28 σ2.1 := WI.tr hOσ2 (by decide) (by decide) (by decide) hW28
  have hW132 : WI 132 σ2.1 := WI.tr hOσ2 (by decide) (by decide) (by decide) hW132
  have hW158 : WI 158 σ2.1 := WI.tr hOσ2 (by decide) (by decide) (by decide) hW158
  have hW184 : WI 184 σ2.1 := WI.tr hOσ2 (by decide) (by decide) (by decide) hW184
  have hL : SI σ2.1 := SI.tr hOσ2 (by decide) (by decide) (by decide) (by decide) hL
  have hD : RD σ2.1 := RD.tr hOσ2 (by decide) (by decide) (by decide) (by decide) hD
  have hu : 2 ≤ (σ2.1 111 8).toInt ∧ (σ2.1 111 8).toInt ≤ 1600 := by rw [hOσ2.2 111 (by decide)] <;> exact hu
  have ht : 0 ≤ (σ2.1 0 1).toInt ∧ (σ2.1 0 1).toInt ≤ 600 := by rw [hOσ2.2 0 (by decide)] <;> exact ht
  refine ok_if (fun hc3 => ?_) (fun hc3 => ?_)
  · exact ok_some ⟨hT, (show CF σ2.1 from by exact ⟨hW2, hW28, hW132, hW158, hW184, hL, hD, hu, ht⟩)⟩
  · have qhc3 := hqv1.2 hc3
    refine ok_gC rfl ?_
    refine ok_zbT (Q := fun V σ => (V = 0 ∨ V = 1) ∧ (¬ V = 0 → 0 ≤ x3.toInt ∧ x3.toInt ≤ 9)) hT (s_X11_isRegister_n28 hN (hR.tr hT) ((hT.1.1 0 4 (by decide)).trans hNw) (by first | exact hn | omega | (rw [hT.2 28 (by decide)]; exact hn))) (fun _ h9 => absurd h9 List.not_mem_nil) (fun v4 σ5 hOσ5 hT hqv4 => ?_)
    have hqv4 : (v4 = 0 ∨ v4 = 1) ∧ (¬ v4 = 0 → 0 ≤ x3.toInt ∧ x3.toInt ≤ 9) := hqv4
    have hW2 : WI 2 σ5.1 := WI.tr hOσ5 (by decide) (by decide) (by decide) hW2
    have hW28 : WI 28 σ5.1 := WI.tr hOσ5 (by decide) (by decide) (by decide) hW28
    have hW132 : WI 132 σ5.1 := WI.tr hOσ5 (by decide) (by decide) (by decide) hW132
    have hW158 : WI 158 σ5.1 := WI.tr hOσ5 (by decide) (by decide) (by decide) hW158
    have hW184 : WI 184 σ5.1 := WI.tr hOσ5 (by decide) (by decide) (by decide) hW184
    have hL : SI σ5.1 := SI.tr hOσ5 (by decide) (by decide) (by decide) (by decide) hL
    have hD : RD σ5.1 := RD.tr hOσ5 (by decide) (by decide) (by decide) (by decide) hD
    have hu : 2 ≤ (σ5.1 111 8).toInt ∧ (σ5.1 111 8).toInt ≤ 1600 := by rw [hOσ5.2 111 (by decide)] <;> exact hu
    have ht : 0 ≤ (σ5.1 0 1).toInt ∧ (σ5.1 0 1).toInt ≤ 600 := by rw [hOσ5.2 0 (by decide)] <;> exact ht
    refine ok_if (fun hc6 => ?_) (fun hc6 => ?_)
    · exact ok_some ⟨hT, (show CF σ5.1 from by exact ⟨hW2, hW28, hW132, hW158, hW184, hL, hD, hu, ht⟩)⟩
    · have qhc6 := hqv4.2 hc6
      refine ok_gC rfl ?_
      refine ok_zbT (Q := fun V σ => (V = 0 ∨ V = 1) ∧ (¬ V = 0 → 0 ≤ x4.toInt ∧ x4.toInt ≤ 9)) hT (s_X11_isRegister_n28 hN (hR.tr hT) ((hT.1.1 0 4 (by decide)).trans hNw) (by first | exact hn | omega | (rw [hT.2 28 (by decide)]; exact hn))) (fun _ h9 => absurd h9 List.not_mem_nil) (fun v7 σ8 hOσ8 hT hqv7 => ?_)
      have hqv7 : (v7 = 0 ∨ v7 = 1) ∧ (¬ v7 = 0 → 0 ≤ x4.toInt ∧ x4.toInt ≤ 9) := hqv7
      have hW2 : WI 2 σ8.1 := WI.tr hOσ8 (by decide) (by decide) (by decide) hW2
      have hW28 : WI 28 σ8.1 := WI.tr hOσ8 (by decide) (by decide) (by decide) hW28
      have hW132 : WI 132 σ8.1 := WI.tr hOσ8 (by decide) (by decide) (by decide) hW132
      have hW158 : WI 158 σ8.1 := WI.tr hOσ8 (by decide) (by decide) (by decide) hW158
      have hW184 : WI 184 σ8.1 := WI.tr hOσ8 (by decide) (by decide) (by decide) hW184
      have hL : SI σ8.1 := SI.tr hOσ8 (by decide) (by decide) (by decide) (by decide) hL
      have hD : RD σ8.1 := RD.tr hOσ8 (by decide) (by decide) (by decide) (by decide) hD
      have hu : 2 ≤ (σ8.1 111 8).toInt ∧ (σ8.1 111 8).toInt ≤ 1600 := by rw [hOσ8.2 111 (by decide)] <;> exact hu
      have ht : 0 ≤ (σ8.1 0 1).toInt ∧ (σ8.1 0 1).toInt ≤ 600 := by rw [hOσ8.2 0 (by decide)] <;> exact ht
      refine ok_if (fun hc9 => ?_) (fun hc9 => ?_)
      · exact ok_some ⟨hT, (show CF σ8.1 from by exact ⟨hW2, hW28, hW132, hW158, hW184, hL, hD, hu, ht⟩)⟩
      · have qhc9 := hqv7.2 hc9
        refine ok_if (fun hc10 => ?_) (fun hc10 => ?_)
        · exact ok_some ⟨hT, (show CF σ8.1 from by exact ⟨hW2, hW28, hW132, hW158, hW184, hL, hD, hu, ht⟩)⟩
        · refine ok_if (fun hc11 => ?_) (fun hc11 => ?_)
          · refine ok_gR (v := 128) hT rfl (hR 0 17 rfl) ?_
            refine ok_gR (v := 28) hT rfl hNw ?_
            refine ok_gR (v := 33) hT rfl (hR 28 7 rfl) ?_
            obtain ⟨q16, eq16, kq16⟩ := arrF hR (k := 33) (i := x3) rfl (by first | omega | decide | (have q1 := hD.1; have q2 := hD.2.1; simp only [Int32.le_iff_toInt_le, Int32.lt_iff_toInt_lt, ti_add, ti_sub, ti_mul, Int32.reduceToInt] at *; omega)) (by first | omega | decide | (have q1 := hD.1; have q2 := hD.2.1; simp only [Int32.le_iff_toInt_le, Int32.lt_iff_toInt_lt, ti_add, ti_sub, ti_mul, Int32.reduceToInt] at *; omega))
            refine ok_aR (v := q16) hT rfl (by first | omega | decide | (have q1 := hD.1; have q2 := hD.2.1; simp only [Int32.le_iff_toInt_le, Int32.lt_iff_toInt_lt, ti_add, ti_sub, ti_mul, Int32.reduceToInt] at *; omega)) (by first | omega | decide | (have q1 := hD.1; have q2 := hD.2.1; simp only [Int32.le_iff_toInt_le, Int32.lt_iff_toInt_lt, ti_add, ti_sub, ti_mul, Int32.reduceToInt] at *; omega)) eq16 ?_
            refine ok_gC rfl ?_
            refine ok_zbT (Q := fun V σ => True) hT (s_X2_copyFrom hN (hR.tr hT) rfl kq16) (fun _ h9 => absurd h9 List.not_mem_nil) (fun v17 σ18 hOσ18 hT hqv17 => ?_)
            have hW2 : WI 2 σ18.1 := WI.tr hOσ18 (by decide) (by decide) (by decide) hW2
            have hW28 : WI 28 σ18.1 := WI.tr hOσ18 (by decide) (by decide) (by decide) hW28
            have hW132 : WI 132 σ18.1 := WI.tr hOσ18 (by decide) (by decide) (by decide) hW132
            have hW158 : WI 158 σ18.1 := WI.tr hOσ18 (by decide) (by decide) (by decide) hW158
            have hW184 : WI 184 σ18.1 := WI.tr hOσ18 (by decide) (by decide) (by decide) hW184
            have hL : SI σ18.1 := SI.tr hOσ18 (by decide) (by decide) (by decide) (by decide) hL
            have hD : RD σ18.1 := RD.tr hOσ18 (by decide) (by decide) (by decide) (by decide) hD
            have hu : 2 ≤ (σ18.1 111 8).toInt ∧ (σ18.1 111 8).toInt ≤ 1600 := by rw [hOσ18.2 111 (by decide)] <;> exact hu
            have ht : 0 ≤ (σ18.1 0 1).toInt ∧ (σ18.1 0 1).toInt ≤ 600 := by rw [hOσ18.2 0 (by decide)] <;> exact ht
            refine ok_gR (v := 99) hT rfl (hR 0 11 rfl) ?_
            refine ok_gR (v := 128) hT rfl (hR 0 17 rfl) ?_
            refine ok_gR (v := 28) hT rfl hNw ?_
            refine ok_gR (v := 33) hT rfl (hR 28 7 rfl) ?_
            obtain ⟨q24, eq24, kq24⟩ := arrF hR (k := 33) (i := x4) rfl (by first | omega | decide | (have q1 := hD.1; have q2 := hD.2.1; simp only [Int32.le_iff_toInt_le, Int32.lt_iff_toInt_lt, ti_add, ti_sub, ti_mul, Int32.reduceToInt] at *; omega)) (by first | omega | decide | (have q1 := hD.1; have q2 := hD.2.1; simp only [Int32.le_iff_toInt_le, Int32.lt_iff_toInt_lt, ti_add, ti_sub, ti_mul, Int32.reduceToInt] at *; omega))
            refine ok_aR (v := q24) hT rfl (by first | omega | decide | (have q1 := hD.1; have q2 := hD.2.1; simp only [Int32.le_iff_toInt_le, Int32.lt_iff_toInt_lt, ti_add, ti_sub, ti_mul, Int32.reduceToInt] at *; omega)) (by first | omega | decide | (have q1 := hD.1; have q2 := hD.2.1; simp only [Int32.le_iff_toInt_le, Int32.lt_iff_toInt_lt, ti_add, ti_sub, ti_mul, Int32.reduceToInt] at *; omega)) eq24 ?_
            refine ok_gR (v := 28) hT rfl hNw ?_
            refine ok_gI0 hT rfl (by decide) ?_
            refine ok_gC rfl ?_
            refine ok_zbT (Q := fun V σ => True) hT (s_X0_combine hN (hR.tr hT) rfl kq24 (by first | exact hn | omega | (rw [hT.2 28 (by decide)]; exact hn))) (by decide) (fun v27 σ28 hOσ28 hT hqv27 => ?_)
            have hW2 : WI 2 σ28.1 := WI.tr hOσ28 (by decide) (by decide) (by decide) hW2
            have hW28 : WI 28 σ28.1 := WI.tr hOσ28 (by decide) (by decide) (by decide) hW28
            have hW132 : WI 132 σ28.1 := WI.tr hOσ28 (by decide) (by decide) (by decide) hW132
            have hW158 : WI 158 σ28.1 := WI.tr hOσ28 (by decide) (by decide) (by decide) hW158
            have hW184 : WI 184 σ28.1 := WI.tr hOσ28 (by decide) (by decide) (by decide) hW184
            have hL : SI σ28.1 := SI.tr hOσ28 (by decide) (by decide) (by decide) (by decide) hL
            have hD : RD σ28.1 := RD.tr hOσ28 (by decide) (by decide) (by decide) (by decide) hD
            have hu : 2 ≤ (σ28.1 111 8).toInt ∧ (σ28.1 111 8).toInt ≤ 1600 := by rw [hOσ28.2 111 (by decide)] <;> exact hu
            have ht : 0 ≤ (σ28.1 0 1).toInt ∧ (σ28.1 0 1).toInt ≤ 600 := by rw [hOσ28.2 0 (by decide)] <;> exact ht
            refine ok_gC rfl ?_
            refine ok_zbT (Q := fun V σ => True) hT (s_X11_store_n28 hN (hR.tr hT) ((hT.1.1 0 4 (by decide)).trans hNw) (by first | exact hn | omega | (rw [hT.2 28 (by decide)]; exact hn))) (fun _ h9 => absurd h9 List.not_mem_nil) (fun v29 σ30 hOσ30 hT hqv29 => ?_)
            have hW2 : WI 2 σ30.1 := WI.tr hOσ30 (by decide) (by decide) (by decide) hW2
            have hW28 : WI 28 σ30.1 := WI.tr hOσ30 (by decide) (by decide) (by decide) hW28
            have hW132 : WI 132 σ30.1 := WI.tr hOσ30 (by decide) (by decide) (by decide) hW132
            have hW158 : WI 158 σ30.1 := WI.tr hOσ30 (by decide) (by decide) (by decide) hW158
            have hW184 : WI 184 σ30.1 := WI.tr hOσ30 (by decide) (by decide) (by decide) hW184
            have hL : SI σ30.1 := SI.tr hOσ30 (by decide) (by decide) (by decide) (by decide) hL
            have hD : RD σ30.1 := RD.tr hOσ30 (by decide) (by decide) (by decide) (by decide) hD
            have hu : 2 ≤ (σ30.1 111 8).toInt ∧ (σ30.1 111 8).toInt ≤ 1600 := by rw [hOσ30.2 111 (by decide)] <;> exact hu
            have ht : 0 ≤ (σ30.1 0 1).toInt ∧ (σ30.1 0 1).toInt ≤ 600 := by rw [hOσ30.2 0 (by decide)] <;> exact ht
            exact ok_some ⟨hT, (show CF σ30.1 from by exact ⟨hW2, hW28, hW132, hW158, hW184, hL, hD, hu, ht⟩)⟩
          · exact ok_some ⟨hT, (show CF σ8.1 from by exact ⟨hW2, hW28, hW132, hW158, hW184, hL, hD, hu, ht⟩)⟩

set_option maxHeartbeats 4000000 in
set_option maxRecDepth 100000 in
theorem s_X11_turn_n28 {N : Nat} (hN : 1048576 ≤ N) {x1 : Int32} {x2 : Int32} {x3 : Int32} {σ0 : zS}  (hR : RF σ0.2.2) (hNw : σ0.2.2 0 4 = 28) (hPw : σ0.2.2 0 5 = 2) (hC : CF σ0.1) : Ok (f_X11_turn N 0 x1 x2 x3 σ0) (fun r => Tr [] σ0 r.2 ∧ (CF r.2.1)) := by
  have hT : Tr [] σ0 σ0 := Tr.rf
  obtain ⟨hW2, hW28, hW132, hW158, hW184, hL, hD, hu, ht⟩ := hC
  have hn := hW28.1
  have he := hW28.2.1
  have hD0 := hD
  have hL0 := hL
  have q10 := ti_one10 (x := σ0.1 28 0) hn.1 hn.2
  rw [f_X11_turn.eq_1]
  refine ok_gC rfl ?_
  refine ok_zbT (Q := fun V σ => (V = 0 ∨ V = 1) ∧ (¬ V = 0 → 0 ≤ x1.toInt ∧ x1.toInt ≤ 9)) hT (s_X11_isRegister_n28 hN (hR.tr hT) ((hT.1.1 0 4 (by decide)).trans hNw) (by first | exact hn | omega | (rw [hT.2 28 (by decide)]; exact hn))) (fun _ h9 => absurd h9 List.not_mem_nil) (fun v1 σ2 hOσ2 hT hqv1 => ?_)
  have hqv1 : (v1 = 0 ∨ v1 = 1) ∧ (¬ v1 = 0 → 0 ≤ x1.toInt ∧ x1.toInt ≤ 9) := hqv1
  have hW2 : WI 2 σ2.1 := WI.tr hOσ2 (by decide) (by decide) (by decide) hW2
  have hW28 : WI 28 σ2.1 := WI.tr hOσ2 (by decide) (by decide) (by decide) hW28
  have hW132 : WI 132 σ2.1 := WI.tr hOσ2 (by decide) (by decide) (by decide) hW132
  have hW158 : WI 158 σ2.1 := WI.tr hOσ2 (by decide) (by decide) (by decide) hW158
  have hW184 : WI 184 σ2.1 := WI.tr hOσ2 (by decide) (by decide) (by decide) hW184
  have hL : SI σ2.1 := SI.tr hOσ2 (by decide) (by decide) (by decide) (by decide) hL
  have hD : RD σ2.1 := RD.tr hOσ2 (by decide) (by decide) (by decide) (by decide) hD
  have hu : 2 ≤ (σ2.1 111 8).toInt ∧ (σ2.1 111 8).toInt ≤ 1600 := by rw [hOσ2.2 111 (by decide)] <;> exact hu
  have ht : 0 ≤ (σ2.1 0 1).toInt ∧ (σ2.1 0 1).toInt ≤ 600 := by rw [hOσ2.2 0 (by decide)] <;> exact ht
  refine ok_if (fun hc3 => ?_) (fun hc3 => ?_)
  · exact ok_some ⟨hT, (show CF σ2.1 from by exact ⟨hW2, hW28, hW132, hW158, hW184, hL, hD, hu, ht⟩)⟩
  · have qhc3 := hqv1.2 hc3
    refine ok_gC rfl ?_
    refine ok_zbT (Q := fun V σ => (V = 0 ∨ V = 1) ∧ (¬ V = 0 → 0 ≤ x3.toInt ∧ x3.toInt ≤ 9)) hT (s_X11_isRegister_n28 hN (hR.tr hT) ((hT.1.1 0 4 (by decide)).trans hNw) (by first | exact hn | omega | (rw [hT.2 28 (by decide)]; exact hn))) (fun _ h9 => absurd h9 List.not_mem_nil) (fun v4 σ5 hOσ5 hT hqv4 => ?_)
    have hqv4 : (v4 = 0 ∨ v4 = 1) ∧ (¬ v4 = 0 → 0 ≤ x3.toInt ∧ x3.toInt ≤ 9) := hqv4
    have hW2 : WI 2 σ5.1 := WI.tr hOσ5 (by decide) (by decide) (by decide) hW2
    have hW28 : WI 28 σ5.1 := WI.tr hOσ5 (by decide) (by decide) (by decide) hW28
    have hW132 : WI 132 σ5.1 := WI.tr hOσ5 (by decide) (by decide) (by decide) hW132
    have hW158 : WI 158 σ5.1 := WI.tr hOσ5 (by decide) (by decide) (by decide) hW158
    have hW184 : WI 184 σ5.1 := WI.tr hOσ5 (by decide) (by decide) (by decide) hW184
    have hL : SI σ5.1 := SI.tr hOσ5 (by decide) (by decide) (by decide) (by decide) hL
    have hD : RD σ5.1 := RD.tr hOσ5 (by decide) (by decide) (by decide) (by decide) hD
    have hu : 2 ≤ (σ5.1 111 8).toInt ∧ (σ5.1 111 8).toInt ≤ 1600 := by rw [hOσ5.2 111 (by decide)] <;> exact hu
    have ht : 0 ≤ (σ5.1 0 1).toInt ∧ (σ5.1 0 1).toInt ≤ 600 := by rw [hOσ5.2 0 (by decide)] <;> exact ht
    refine ok_if (fun hc6 => ?_) (fun hc6 => ?_)
    · exact ok_some ⟨hT, (show CF σ5.1 from by exact ⟨hW2, hW28, hW132, hW158, hW184, hL, hD, hu, ht⟩)⟩
    · have qhc6 := hqv4.2 hc6
      refine ok_if (fun hc7 => ?_) (fun hc7 => ?_)
      · exact ok_some ⟨hT, (show CF σ5.1 from by exact ⟨hW2, hW28, hW132, hW158, hW184, hL, hD, hu, ht⟩)⟩
      · refine ok_if (fun hc8 => ?_) (fun hc8 => ?_)
        · refine ok_gR (v := 128) hT rfl (hR 0 17 rfl) ?_
          refine ok_gR (v := 28) hT rfl hNw ?_
          refine ok_gR (v := 33) hT rfl (hR 28 7 rfl) ?_
          obtain ⟨q13, eq13, kq13⟩ := arrF hR (k := 33) (i := x3) rfl (by first | omega | decide | (have q1 := hD.1; have q2 := hD.2.1; simp only [Int32.le_iff_toInt_le, Int32.lt_iff_toInt_lt, ti_add, ti_sub, ti_mul, Int32.reduceToInt] at *; omega)) (by first | omega | decide | (have q1 := hD.1; have q2 := hD.2.1; simp only [Int32.le_iff_toInt_le, Int32.lt_iff_toInt_lt, ti_add, ti_sub, ti_mul, Int32.reduceToInt] at *; omega))
          refine ok_aR (v := q13) hT rfl (by first | omega | decide | (have q1 := hD.1; have q2 := hD.2.1; simp only [Int32.le_iff_toInt_le, Int32.lt_iff_toInt_lt, ti_add, ti_sub, ti_mul, Int32.reduceToInt] at *; omega)) (by first | omega | decide | (have q1 := hD.1; have q2 := hD.2.1; simp only [Int32.le_iff_toInt_le, Int32.lt_iff_toInt_lt, ti_add, ti_sub, ti_mul, Int32.reduceToInt] at *; omega)) eq13 ?_
          refine ok_gC rfl ?_
          refine ok_zbT (Q := fun V σ => True) hT (s_X2_copyFrom hN (hR.tr hT) rfl kq13) (fun _ h9 => absurd h9 List.not_mem_nil) (fun v14 σ15 hOσ15 hT hqv14 => ?_)
          have hW2 : WI 2 σ15.1 := WI.tr hOσ15 (by decide) (by decide) (by decide) hW2
          have hW28 : WI 28 σ15.1 := WI.tr hOσ15 (by decide) (by decide) (by decide) hW28
          have hW132 : WI 132 σ15.1 := WI.tr hOσ15 (by decide) (by decide) (by decide) hW132
          have hW158 : WI 158 σ15.1 := WI.tr hOσ15 (by decide) (by decide) (by decide) hW158
          have hW184 : WI 184 σ15.1 := WI.tr hOσ15 (by decide) (by decide) (by decide) hW184
          have hL : SI σ15.1 := SI.tr hOσ15 (by decide) (by decide) (by decide) (by decide) hL
          have hD : RD σ15.1 := RD.tr hOσ15 (by decide) (by decide) (by decide) (by decide) hD
          have hu : 2 ≤ (σ15.1 111 8).toInt ∧ (σ15.1 111 8).toInt ≤ 1600 := by rw [hOσ15.2 111 (by decide)] <;> exact hu
          have ht : 0 ≤ (σ15.1 0 1).toInt ∧ (σ15.1 0 1).toInt ≤ 600 := by rw [hOσ15.2 0 (by decide)] <;> exact ht
          refine ok_gR (v := 99) hT rfl (hR 0 11 rfl) ?_
          refine ok_gR (v := 128) hT rfl (hR 0 17 rfl) ?_
          refine ok_gR (v := 28) hT rfl hNw ?_
          refine ok_gI0 hT rfl (by decide) ?_
          refine ok_gC rfl ?_
          refine ok_zbT (Q := fun V σ => True) hT (s_X0_reshape hN (hR.tr hT) rfl (by first | exact hn | omega | (rw [hT.2 28 (by decide)]; exact hn))) (fun _ h9 => absurd h9 List.not_mem_nil) (fun v20 σ21 hOσ21 hT hqv20 => ?_)
          have hW2 : WI 2 σ21.1 := WI.tr hOσ21 (by decide) (by decide) (by decide) hW2
          have hW28 : WI 28 σ21.1 := WI.tr hOσ21 (by decide) (by decide) (by decide) hW28
          have hW132 : WI 132 σ21.1 := WI.tr hOσ21 (by decide) (by decide) (by decide) hW132
          have hW158 : WI 158 σ21.1 := WI.tr hOσ21 (by decide) (by decide) (by decide) hW158
          have hW184 : WI 184 σ21.1 := WI.tr hOσ21 (by decide) (by decide) (by decide) hW184
          have hL : SI σ21.1 := SI.tr hOσ21 (by decide) (by decide) (by decide) (by decide) hL
          have hD : RD σ21.1 := RD.tr hOσ21 (by decide) (by decide) (by decide) (by decide) hD
          have hu : 2 ≤ (σ21.1 111 8).toInt ∧ (σ21.1 111 8).toInt ≤ 1600 := by rw [hOσ21.2 111 (by decide)] <;> exact hu
          have ht : 0 ≤ (σ21.1 0 1).toInt ∧ (σ21.1 0 1).toInt ≤ 600 := by rw [hOσ21.2 0 (by decide)] <;> exact ht
          refine ok_gC rfl ?_
          refine ok_zbT (Q := fun V σ => True) hT (s_X11_store_n28 hN (hR.tr hT) ((hT.1.1 0 4 (by decide)).trans hNw) (by first | exact hn | omega | (rw [hT.2 28 (by decide)]; exact hn))) (fun _ h9 => absurd h9 List.not_mem_nil) (fun v22 σ23 hOσ23 hT hqv22 => ?_)
          have hW2 : WI 2 σ23.1 := WI.tr hOσ23 (by decide) (by decide) (by decide) hW2
          have hW28 : WI 28 σ23.1 := WI.tr hOσ23 (by decide) (by decide) (by decide) hW28
          have hW132 : WI 132 σ23.1 := WI.tr hOσ23 (by decide) (by decide) (by decide) hW132
          have hW158 : WI 158 σ23.1 := WI.tr hOσ23 (by decide) (by decide) (by decide) hW158
          have hW184 : WI 184 σ23.1 := WI.tr hOσ23 (by decide) (by decide) (by decide) hW184
          have hL : SI σ23.1 := SI.tr hOσ23 (by decide) (by decide) (by decide) (by decide) hL
          have hD : RD σ23.1 := RD.tr hOσ23 (by decide) (by decide) (by decide) (by decide) hD
          have hu : 2 ≤ (σ23.1 111 8).toInt ∧ (σ23.1 111 8).toInt ≤ 1600 := by rw [hOσ23.2 111 (by decide)] <;> exact hu
          have ht : 0 ≤ (σ23.1 0 1).toInt ∧ (σ23.1 0 1).toInt ≤ 600 := by rw [hOσ23.2 0 (by decide)] <;> exact ht
          exact ok_some ⟨hT, (show CF σ23.1 from by exact ⟨hW2, hW28, hW132, hW158, hW184, hL, hD, hu, ht⟩)⟩
        · exact ok_some ⟨hT, (show CF σ5.1 from by exact ⟨hW2, hW28, hW132, hW158, hW184, hL, hD, hu, ht⟩)⟩

set_option maxHeartbeats 4000000 in
set_option maxRecDepth 100000 in
theorem s_X11_sets_n28 {N : Nat} (hN : 1048576 ≤ N) {x1 : Int32} {x2 : Int32} {x3 : Int32} {σ0 : zS}  (hR : RF σ0.2.2) (hNw : σ0.2.2 0 4 = 28) (hPw : σ0.2.2 0 5 = 2) (hC : CF σ0.1) : Ok (f_X11_sets N 0 x1 x2 x3 σ0) (fun r => Tr [] σ0 r.2 ∧ (CF r.2.1)) := by
  have hT : Tr [] σ0 σ0 := Tr.rf
  obtain ⟨hW2, hW28, hW132, hW158, hW184, hL, hD, hu, ht⟩ := hC
  have hn := hW28.1
  have he := hW28.2.1
  have hD0 := hD
  have hL0 := hL
  have q10 := ti_one10 (x := σ0.1 28 0) hn.1 hn.2
  rw [f_X11_sets.eq_1]
  refine ok_gC rfl ?_
  refine ok_zbT (Q := fun V σ => (V = 0 ∨ V = 1) ∧ (¬ V = 0 → 0 ≤ x1.toInt ∧ x1.toInt ≤ 9)) hT (s_X11_isRegister_n28 hN (hR.tr hT) ((hT.1.1 0 4 (by decide)).trans hNw) (by first | exact hn | omega | (rw [hT.2 28 (by decide)]; exact hn))) (fun _ h9 => absurd h9 List.not_mem_nil) (fun v1 σ2 hOσ2 hT hqv1 => ?_)
  have hqv1 : (v1 = 0 ∨ v1 = 1) ∧ (¬ v1 = 0 → 0 ≤ x1.toInt ∧ x1.toInt ≤ 9) := hqv1
  have hW2 : WI 2 σ2.1 := WI.tr hOσ2 (by decide) (by decide) (by decide) hW2
  have hW28 : WI 28 σ2.1 := WI.tr hOσ2 (by decide) (by decide) (by decide) hW28
  have hW132 : WI 132 σ2.1 := WI.tr hOσ2 (by decide) (by decide) (by decide) hW132
  have hW158 : WI 158 σ2.1 := WI.tr hOσ2 (by decide) (by decide) (by decide) hW158
  have hW184 : WI 184 σ2.1 := WI.tr hOσ2 (by decide) (by decide) (by decide) hW184
  have hL : SI σ2.1 := SI.tr hOσ2 (by decide) (by decide) (by decide) (by decide) hL
  have hD : RD σ2.1 := RD.tr hOσ2 (by decide) (by decide) (by decide) (by decide) hD
  have hu : 2 ≤ (σ2.1 111 8).toInt ∧ (σ2.1 111 8).toInt ≤ 1600 := by rw [hOσ2.2 111 (by decide)] <;> exact hu
  have ht : 0 ≤ (σ2.1 0 1).toInt ∧ (σ2.1 0 1).toInt ≤ 600 := by rw [hOσ2.2 0 (by decide)] <;> exact ht
  refine ok_if (fun hc3 => ?_) (fun hc3 => ?_)
  · exact ok_some ⟨hT, (show CF σ2.1 from by exact ⟨hW2, hW28, hW132, hW158, hW184, hL, hD, hu, ht⟩)⟩
  · have qhc3 := hqv1.2 hc3
    refine ok_gC rfl ?_
    refine ok_zbT (Q := fun V σ => (V = 0 ∨ V = 1) ∧ (¬ V = 0 → 0 ≤ x2.toInt ∧ x2.toInt ≤ 1023)) hT (s_X11_isSet_n28 hN (hR.tr hT) ((hT.1.1 0 4 (by decide)).trans hNw) (by first | exact hn | omega | (rw [hT.2 28 (by decide)]; exact hn))) (fun _ h9 => absurd h9 List.not_mem_nil) (fun v4 σ5 hOσ5 hT hqv4 => ?_)
    have hqv4 : (v4 = 0 ∨ v4 = 1) ∧ (¬ v4 = 0 → 0 ≤ x2.toInt ∧ x2.toInt ≤ 1023) := hqv4
    have hW2 : WI 2 σ5.1 := WI.tr hOσ5 (by decide) (by decide) (by decide) hW2
    have hW28 : WI 28 σ5.1 := WI.tr hOσ5 (by decide) (by decide) (by decide) hW28
    have hW132 : WI 132 σ5.1 := WI.tr hOσ5 (by decide) (by decide) (by decide) hW132
    have hW158 : WI 158 σ5.1 := WI.tr hOσ5 (by decide) (by decide) (by decide) hW158
    have hW184 : WI 184 σ5.1 := WI.tr hOσ5 (by decide) (by decide) (by decide) hW184
    have hL : SI σ5.1 := SI.tr hOσ5 (by decide) (by decide) (by decide) (by decide) hL
    have hD : RD σ5.1 := RD.tr hOσ5 (by decide) (by decide) (by decide) (by decide) hD
    have hu : 2 ≤ (σ5.1 111 8).toInt ∧ (σ5.1 111 8).toInt ≤ 1600 := by rw [hOσ5.2 111 (by decide)] <;> exact hu
    have ht : 0 ≤ (σ5.1 0 1).toInt ∧ (σ5.1 0 1).toInt ≤ 600 := by rw [hOσ5.2 0 (by decide)] <;> exact ht
    refine ok_if (fun hc6 => ?_) (fun hc6 => ?_)
    · exact ok_some ⟨hT, (show CF σ5.1 from by exact ⟨hW2, hW28, hW132, hW158, hW184, hL, hD, hu, ht⟩)⟩
    · have qhc6 := hqv4.2 hc6
      refine ok_gR (v := 28) hT rfl hNw ?_
      refine ok_gR (v := 33) hT rfl (hR 28 7 rfl) ?_
      obtain ⟨q10, eq10, kq10⟩ := arrF hR (k := 33) (i := x1) rfl (by first | omega | decide | (have q1 := hD.1; have q2 := hD.2.1; simp only [Int32.le_iff_toInt_le, Int32.lt_iff_toInt_lt, ti_add, ti_sub, ti_mul, Int32.reduceToInt] at *; omega)) (by first | omega | decide | (have q1 := hD.1; have q2 := hD.2.1; simp only [Int32.le_iff_toInt_le, Int32.lt_iff_toInt_lt, ti_add, ti_sub, ti_mul, Int32.reduceToInt] at *; omega))
      refine ok_aR (v := q10) hT rfl (by first | omega | decide | (have q1 := hD.1; have q2 := hD.2.1; simp only [Int32.le_iff_toInt_le, Int32.lt_iff_toInt_lt, ti_add, ti_sub, ti_mul, Int32.reduceToInt] at *; omega)) (by first | omega | decide | (have q1 := hD.1; have q2 := hD.2.1; simp only [Int32.le_iff_toInt_le, Int32.lt_iff_toInt_lt, ti_add, ti_sub, ti_mul, Int32.reduceToInt] at *; omega)) eq10 ?_
      refine ok_gC kq10 ?_
      refine ok_zbT (Q := fun V σ => V = 0 ∨ V = 1) hT (s_X2_holds hN (hR.tr hT) kq10) (fun _ h9 => absurd h9 List.not_mem_nil) (fun v11 σ12 hOσ12 hT hqv11 => ?_)
      have hqv11 : v11 = 0 ∨ v11 = 1 := hqv11
      have hW2 : WI 2 σ12.1 := WI.tr hOσ12 (by decide) (by decide) (by decide) hW2
      have hW28 : WI 28 σ12.1 := WI.tr hOσ12 (by decide) (by decide) (by decide) hW28
      have hW132 : WI 132 σ12.1 := WI.tr hOσ12 (by decide) (by decide) (by decide) hW132
      have hW158 : WI 158 σ12.1 := WI.tr hOσ12 (by decide) (by decide) (by decide) hW158
      have hW184 : WI 184 σ12.1 := WI.tr hOσ12 (by decide) (by decide) (by decide) hW184
      have hL : SI σ12.1 := SI.tr hOσ12 (by decide) (by decide) (by decide) (by decide) hL
      have hD : RD σ12.1 := RD.tr hOσ12 (by decide) (by decide) (by decide) (by decide) hD
      have hu : 2 ≤ (σ12.1 111 8).toInt ∧ (σ12.1 111 8).toInt ≤ 1600 := by rw [hOσ12.2 111 (by decide)] <;> exact hu
      have ht : 0 ≤ (σ12.1 0 1).toInt ∧ (σ12.1 0 1).toInt ≤ 600 := by rw [hOσ12.2 0 (by decide)] <;> exact ht
      refine ok_if (fun hc13 => ?_) (fun hc13 => ?_)
      · exact ok_some ⟨hT, (show CF σ12.1 from by exact ⟨hW2, hW28, hW132, hW158, hW184, hL, hD, hu, ht⟩)⟩
      · refine ok_if (fun hc14 => ?_) (fun hc14 => ?_)
        · refine ok_gC kq10 ?_
          refine ok_zbT (Q := fun V σ => True) hT (s_X2_exclude hN (hR.tr hT) kq10) (fun _ h9 => absurd h9 List.not_mem_nil) (fun v15 σ16 hOσ16 hT hqv15 => ?_)
          have hW2 : WI 2 σ16.1 := WI.tr hOσ16 (by decide) (by decide) (by decide) hW2
          have hW28 : WI 28 σ16.1 := WI.tr hOσ16 (by decide) (by decide) (by decide) hW28
          have hW132 : WI 132 σ16.1 := WI.tr hOσ16 (by decide) (by decide) (by decide) hW132
          have hW158 : WI 158 σ16.1 := WI.tr hOσ16 (by decide) (by decide) (by decide) hW158
          have hW184 : WI 184 σ16.1 := WI.tr hOσ16 (by decide) (by decide) (by decide) hW184
          have hL : SI σ16.1 := SI.tr hOσ16 (by decide) (by decide) (by decide) (by decide) hL
          have hD : RD σ16.1 := RD.tr hOσ16 (by decide) (by decide) (by decide) (by decide) hD
          have hu : 2 ≤ (σ16.1 111 8).toInt ∧ (σ16.1 111 8).toInt ≤ 1600 := by rw [hOσ16.2 111 (by decide)] <;> exact hu
          have ht : 0 ≤ (σ16.1 0 1).toInt ∧ (σ16.1 0 1).toInt ≤ 600 := by rw [hOσ16.2 0 (by decide)] <;> exact ht
          exact ok_some ⟨hT, (show CF σ16.1 from by exact ⟨hW2, hW28, hW132, hW158, hW184, hL, hD, hu, ht⟩)⟩
        · refine ok_gC kq10 ?_
          refine ok_zbT (Q := fun V σ => True) hT (s_X2_include hN (hR.tr hT) kq10) (fun _ h9 => absurd h9 List.not_mem_nil) (fun v17 σ18 hOσ18 hT hqv17 => ?_)
          have hW2 : WI 2 σ18.1 := WI.tr hOσ18 (by decide) (by decide) (by decide) hW2
          have hW28 : WI 28 σ18.1 := WI.tr hOσ18 (by decide) (by decide) (by decide) hW28
          have hW132 : WI 132 σ18.1 := WI.tr hOσ18 (by decide) (by decide) (by decide) hW132
          have hW158 : WI 158 σ18.1 := WI.tr hOσ18 (by decide) (by decide) (by decide) hW158
          have hW184 : WI 184 σ18.1 := WI.tr hOσ18 (by decide) (by decide) (by decide) hW184
          have hL : SI σ18.1 := SI.tr hOσ18 (by decide) (by decide) (by decide) (by decide) hL
          have hD : RD σ18.1 := RD.tr hOσ18 (by decide) (by decide) (by decide) (by decide) hD
          have hu : 2 ≤ (σ18.1 111 8).toInt ∧ (σ18.1 111 8).toInt ≤ 1600 := by rw [hOσ18.2 111 (by decide)] <;> exact hu
          have ht : 0 ≤ (σ18.1 0 1).toInt ∧ (σ18.1 0 1).toInt ≤ 600 := by rw [hOσ18.2 0 (by decide)] <;> exact ht
          exact ok_some ⟨hT, (show CF σ18.1 from by exact ⟨hW2, hW28, hW132, hW158, hW184, hL, hD, hu, ht⟩)⟩

set_option maxHeartbeats 4000000 in
set_option maxRecDepth 100000 in
theorem s_X11_change_n28 {N : Nat} (hN : 1048576 ≤ N) {x1 : Int32} {x2 : Int32} {x3 : Int32} {σ0 : zS}  (hR : RF σ0.2.2) (hNw : σ0.2.2 0 4 = 28) (hPw : σ0.2.2 0 5 = 2) (hC : CF σ0.1) : Ok (f_X11_change N 0 x1 x2 x3 σ0) (fun r => Tr [] σ0 r.2 ∧ (CF r.2.1)) := by
  have hT : Tr [] σ0 σ0 := Tr.rf
  obtain ⟨hW2, hW28, hW132, hW158, hW184, hL, hD, hu, ht⟩ := hC
  have hn := hW28.1
  have he := hW28.2.1
  have hD0 := hD
  have hL0 := hL
  have q10 := ti_one10 (x := σ0.1 28 0) hn.1 hn.2
  rw [f_X11_change.eq_1]
  refine ok_gC rfl ?_
  refine ok_zbT (Q := fun V σ => (V = 0 ∨ V = 1) ∧ (¬ V = 0 → 0 ≤ x1.toInt ∧ x1.toInt ≤ 9)) hT (s_X11_isRegister_n28 hN (hR.tr hT) ((hT.1.1 0 4 (by decide)).trans hNw) (by first | exact hn | omega | (rw [hT.2 28 (by decide)]; exact hn))) (fun _ h9 => absurd h9 List.not_mem_nil) (fun v1 σ2 hOσ2 hT hqv1 => ?_)
  have hqv1 : (v1 = 0 ∨ v1 = 1) ∧ (¬ v1 = 0 → 0 ≤ x1.toInt ∧ x1.toInt ≤ 9) := hqv1
  have hW2 : WI 2 σ2.1 := WI.tr hOσ2 (by decide) (by decide) (by decide) hW2
  have hW28 : WI 28 σ2.1 := WI.tr hOσ2 (by decide) (by decide) (by decide) hW28
  have hW132 : WI 132 σ2.1 := WI.tr hOσ2 (by decide) (by decide) (by decide) hW132
  have hW158 : WI 158 σ2.1 := WI.tr hOσ2 (by decide) (by decide) (by decide) hW158
  have hW184 : WI 184 σ2.1 := WI.tr hOσ2 (by decide) (by decide) (by decide) hW184
  have hL : SI σ2.1 := SI.tr hOσ2 (by decide) (by decide) (by decide) (by decide) hL
  have hD : RD σ2.1 := RD.tr hOσ2 (by decide) (by decide) (by decide) (by decide) hD
  have hu : 2 ≤ (σ2.1 111 8).toInt ∧ (σ2.1 111 8).toInt ≤ 1600 := by rw [hOσ2.2 111 (by decide)] <;> exact hu
  have ht : 0 ≤ (σ2.1 0 1).toInt ∧ (σ2.1 0 1).toInt ≤ 600 := by rw [hOσ2.2 0 (by decide)] <;> exact ht
  refine ok_if (fun hc3 => ?_) (fun hc3 => ?_)
  · exact ok_some ⟨hT, (show CF σ2.1 from by exact ⟨hW2, hW28, hW132, hW158, hW184, hL, hD, hu, ht⟩)⟩
  · have qhc3 := hqv1.2 hc3
    refine ok_gC rfl ?_
    refine ok_zbT (Q := fun V σ => (V = 0 ∨ V = 1) ∧ (¬ V = 0 → 0 ≤ x2.toInt ∧ x2.toInt ≤ 9)) hT (s_X11_isRegister_n28 hN (hR.tr hT) ((hT.1.1 0 4 (by decide)).trans hNw) (by first | exact hn | omega | (rw [hT.2 28 (by decide)]; exact hn))) (fun _ h9 => absurd h9 List.not_mem_nil) (fun v4 σ5 hOσ5 hT hqv4 => ?_)
    have hqv4 : (v4 = 0 ∨ v4 = 1) ∧ (¬ v4 = 0 → 0 ≤ x2.toInt ∧ x2.toInt ≤ 9) := hqv4
    have hW2 : WI 2 σ5.1 := WI.tr hOσ5 (by decide) (by decide) (by decide) hW2
    have hW28 : WI 28 σ5.1 := WI.tr hOσ5 (by decide) (by decide) (by decide) hW28
    have hW132 : WI 132 σ5.1 := WI.tr hOσ5 (by decide) (by decide) (by decide) hW132
    have hW158 : WI 158 σ5.1 := WI.tr hOσ5 (by decide) (by decide) (by decide) hW158
    have hW184 : WI 184 σ5.1 := WI.tr hOσ5 (by decide) (by decide) (by decide) hW184
    have hL : SI σ5.1 := SI.tr hOσ5 (by decide) (by decide) (by decide) (by decide) hL
    have hD : RD σ5.1 := RD.tr hOσ5 (by decide) (by decide) (by decide) (by decide) hD
    have hu : 2 ≤ (σ5.1 111 8).toInt ∧ (σ5.1 111 8).toInt ≤ 1600 := by rw [hOσ5.2 111 (by decide)] <;> exact hu
    have ht : 0 ≤ (σ5.1 0 1).toInt ∧ (σ5.1 0 1).toInt ≤ 600 := by rw [hOσ5.2 0 (by decide)] <;> exact ht
    refine ok_if (fun hc6 => ?_) (fun hc6 => ?_)
    · exact ok_some ⟨hT, (show CF σ5.1 from by exact ⟨hW2, hW28, hW132, hW158, hW184, hL, hD, hu, ht⟩)⟩
    · have qhc6 := hqv4.2 hc6
      refine ok_gC rfl ?_
      refine ok_zbT (Q := fun V σ => (V = 0 ∨ V = 1) ∧ (¬ V = 0 → 0 ≤ x3.toInt ∧ x3.toInt < (σ5.1 28 0).toInt)) hT (s_X11_isName_n28 hN (hR.tr hT) ((hT.1.1 0 4 (by decide)).trans hNw) (by first | exact hn | omega | (rw [hT.2 28 (by decide)]; exact hn))) (fun _ h9 => absurd h9 List.not_mem_nil) (fun v7 σ8 hOσ8 hT hqv7 => ?_)
      have hqv7 : (v7 = 0 ∨ v7 = 1) ∧ (¬ v7 = 0 → 0 ≤ x3.toInt ∧ x3.toInt < (σ5.1 28 0).toInt) := hqv7
      have hW2 : WI 2 σ8.1 := WI.tr hOσ8 (by decide) (by decide) (by decide) hW2
      have hW28 : WI 28 σ8.1 := WI.tr hOσ8 (by decide) (by decide) (by decide) hW28
      have hW132 : WI 132 σ8.1 := WI.tr hOσ8 (by decide) (by decide) (by decide) hW132
      have hW158 : WI 158 σ8.1 := WI.tr hOσ8 (by decide) (by decide) (by decide) hW158
      have hW184 : WI 184 σ8.1 := WI.tr hOσ8 (by decide) (by decide) (by decide) hW184
      have hL : SI σ8.1 := SI.tr hOσ8 (by decide) (by decide) (by decide) (by decide) hL
      have hD : RD σ8.1 := RD.tr hOσ8 (by decide) (by decide) (by decide) (by decide) hD
      have hu : 2 ≤ (σ8.1 111 8).toInt ∧ (σ8.1 111 8).toInt ≤ 1600 := by rw [hOσ8.2 111 (by decide)] <;> exact hu
      have ht : 0 ≤ (σ8.1 0 1).toInt ∧ (σ8.1 0 1).toInt ≤ 600 := by rw [hOσ8.2 0 (by decide)] <;> exact ht
      refine ok_if (fun hc9 => ?_) (fun hc9 => ?_)
      · exact ok_some ⟨hT, (show CF σ8.1 from by exact ⟨hW2, hW28, hW132, hW158, hW184, hL, hD, hu, ht⟩)⟩
      · have qhc9 := hqv7.2 hc9
        refine ok_gR (v := 128) hT rfl (hR 0 17 rfl) ?_
        refine ok_gR (v := 28) hT rfl hNw ?_
        refine ok_gR (v := 33) hT rfl (hR 28 7 rfl) ?_
        obtain ⟨q14, eq14, kq14⟩ := arrF hR (k := 33) (i := x2) rfl (by first | omega | decide | (have q1 := hD.1; have q2 := hD.2.1; simp only [Int32.le_iff_toInt_le, Int32.lt_iff_toInt_lt, ti_add, ti_sub, ti_mul, Int32.reduceToInt] at *; omega)) (by first | omega | decide | (have q1 := hD.1; have q2 := hD.2.1; simp only [Int32.le_iff_toInt_le, Int32.lt_iff_toInt_lt, ti_add, ti_sub, ti_mul, Int32.reduceToInt] at *; omega))
        refine ok_aR (v := q14) hT rfl (by first | omega | decide | (have q1 := hD.1; have q2 := hD.2.1; simp only [Int32.le_iff_toInt_le, Int32.lt_iff_toInt_lt, ti_add, ti_sub, ti_mul, Int32.reduceToInt] at *; omega)) (by first | omega | decide | (have q1 := hD.1; have q2 := hD.2.1; simp only [Int32.le_iff_toInt_le, Int32.lt_iff_toInt_lt, ti_add, ti_sub, ti_mul, Int32.reduceToInt] at *; omega)) eq14 ?_
        refine ok_gC rfl ?_
        refine ok_zbT (Q := fun V σ => True) hT (s_X2_copyFrom hN (hR.tr hT) rfl kq14) (fun _ h9 => absurd h9 List.not_mem_nil) (fun v15 σ16 hOσ16 hT hqv15 => ?_)
        have hW2 : WI 2 σ16.1 := WI.tr hOσ16 (by decide) (by decide) (by decide) hW2
        have hW28 : WI 28 σ16.1 := WI.tr hOσ16 (by decide) (by decide) (by decide) hW28
        have hW132 : WI 132 σ16.1 := WI.tr hOσ16 (by decide) (by decide) (by decide) hW132
        have hW158 : WI 158 σ16.1 := WI.tr hOσ16 (by decide) (by decide) (by decide) hW158
        have hW184 : WI 184 σ16.1 := WI.tr hOσ16 (by decide) (by decide) (by decide) hW184
        have hL : SI σ16.1 := SI.tr hOσ16 (by decide) (by decide) (by decide) (by decide) hL
        have hD : RD σ16.1 := RD.tr hOσ16 (by decide) (by decide) (by decide) (by decide) hD
        have hu : 2 ≤ (σ16.1 111 8).toInt ∧ (σ16.1 111 8).toInt ≤ 1600 := by rw [hOσ16.2 111 (by decide)] <;> exact hu
        have ht : 0 ≤ (σ16.1 0 1).toInt ∧ (σ16.1 0 1).toInt ≤ 600 := by rw [hOσ16.2 0 (by decide)] <;> exact ht
        refine ok_gR (v := 128) hT rfl (hR 0 17 rfl) ?_
        refine ok_gC rfl ?_
        refine ok_zbT (Q := fun V σ => True) hT (s_X2_flip hN (hR.tr hT) rfl) (fun _ h9 => absurd h9 List.not_mem_nil) (fun v18 σ19 hOσ19 hT hqv18 => ?_)
        have hW2 : WI 2 σ19.1 := WI.tr hOσ19 (by decide) (by decide) (by decide) hW2
        have hW28 : WI 28 σ19.1 := WI.tr hOσ19 (by decide) (by decide) (by decide) hW28
        have hW132 : WI 132 σ19.1 := WI.tr hOσ19 (by decide) (by decide) (by decide) hW132
        have hW158 : WI 158 σ19.1 := WI.tr hOσ19 (by decide) (by decide) (by decide) hW158
        have hW184 : WI 184 σ19.1 := WI.tr hOσ19 (by decide) (by decide) (by decide) hW184
        have hL : SI σ19.1 := SI.tr hOσ19 (by decide) (by decide) (by decide) (by decide) hL
        have hD : RD σ19.1 := RD.tr hOσ19 (by decide) (by decide) (by decide) (by decide) hD
        have hu : 2 ≤ (σ19.1 111 8).toInt ∧ (σ19.1 111 8).toInt ≤ 1600 := by rw [hOσ19.2 111 (by decide)] <;> exact hu
        have ht : 0 ≤ (σ19.1 0 1).toInt ∧ (σ19.1 0 1).toInt ≤ 600 := by rw [hOσ19.2 0 (by decide)] <;> exact ht
        refine ok_gC rfl ?_
        refine ok_zbT (Q := fun V σ => True) hT (s_X11_store_n28 hN (hR.tr hT) ((hT.1.1 0 4 (by decide)).trans hNw) (by first | exact hn | omega | (rw [hT.2 28 (by decide)]; exact hn))) (fun _ h9 => absurd h9 List.not_mem_nil) (fun v20 σ21 hOσ21 hT hqv20 => ?_)
        have hW2 : WI 2 σ21.1 := WI.tr hOσ21 (by decide) (by decide) (by decide) hW2
        have hW28 : WI 28 σ21.1 := WI.tr hOσ21 (by decide) (by decide) (by decide) hW28
        have hW132 : WI 132 σ21.1 := WI.tr hOσ21 (by decide) (by decide) (by decide) hW132
        have hW158 : WI 158 σ21.1 := WI.tr hOσ21 (by decide) (by decide) (by decide) hW158
        have hW184 : WI 184 σ21.1 := WI.tr hOσ21 (by decide) (by decide) (by decide) hW184
        have hL : SI σ21.1 := SI.tr hOσ21 (by decide) (by decide) (by decide) (by decide) hL
        have hD : RD σ21.1 := RD.tr hOσ21 (by decide) (by decide) (by decide) (by decide) hD
        have hu : 2 ≤ (σ21.1 111 8).toInt ∧ (σ21.1 111 8).toInt ≤ 1600 := by rw [hOσ21.2 111 (by decide)] <;> exact hu
        have ht : 0 ≤ (σ21.1 0 1).toInt ∧ (σ21.1 0 1).toInt ≤ 600 := by rw [hOσ21.2 0 (by decide)] <;> exact ht
        exact ok_some ⟨hT, (show CF σ21.1 from by exact ⟨hW2, hW28, hW132, hW158, hW184, hL, hD, hu, ht⟩)⟩

set_option maxHeartbeats 4000000 in
set_option maxRecDepth 100000 in
theorem s_X11_half_n28 {N : Nat} (hN : 1048576 ≤ N) {x1 : Int32} {x2 : Int32} {x3 : Int32} {x4 : Int32} {σ0 : zS}  (hR : RF σ0.2.2) (hNw : σ0.2.2 0 4 = 28) (hPw : σ0.2.2 0 5 = 2) (hC : CF σ0.1) : Ok (f_X11_half N 0 x1 x2 x3 x4 σ0) (fun r => Tr [] σ0 r.2 ∧ (CF r.2.1)) := by
  have hT : Tr [] σ0 σ0 := Tr.rf
  obtain ⟨hW2, hW28, hW132, hW158, hW184, hL, hD, hu, ht⟩ := hC
  have hn := hW28.1
  have he := hW28.2.1
  have hD0 := hD
  have hL0 := hL
  have q10 := ti_one10 (x := σ0.1 28 0) hn.1 hn.2
  rw [f_X11_half.eq_1]
  refine ok_gC rfl ?_
  refine ok_zbT (Q := fun V σ => (V = 0 ∨ V = 1) ∧ (¬ V = 0 → 0 ≤ x1.toInt ∧ x1.toInt ≤ 9)) hT (s_X11_isRegister_n28 hN (hR.tr hT) ((hT.1.1 0 4 (by decide)).trans hNw) (by first | exact hn | omega | (rw [hT.2 28 (by decide)]; exact hn))) (fun _ h9 => absurd h9 List.not_mem_nil) (fun v1 σ2 hOσ2 hT hqv1 => ?_)
  have hqv1 : (v1 = 0 ∨ v1 = 1) ∧ (¬ v1 = 0 → 0 ≤ x1.toInt ∧ x1.toInt ≤ 9) := hqv1
  have hW2 : WI 2 σ2.1 := WI.tr hOσ2 (by decide) (by decide) (by decide) hW2
  have hW28 : WI 28 σ2.1 := WI.tr hOσ2 (by decide) (by decide) (by decide) hW28
  have hW132 : WI 132 σ2.1 := WI.tr hOσ2 (by decide) (by decide) (by decide) hW132
  have hW158 : WI 158 σ2.1 := WI.tr hOσ2 (by decide) (by decide) (by decide) hW158
  have hW184 : WI 184 σ2.1 := WI.tr hOσ2 (by decide) (by decide) (by decide) hW184
  have hL : SI σ2.1 := SI.tr hOσ2 (by decide) (by decide) (by decide) (by decide) hL
  have hD : RD σ2.1 := RD.tr hOσ2 (by decide) (by decide) (by decide) (by decide) hD
  have hu : 2 ≤ (σ2.1 111 8).toInt ∧ (σ2.1 111 8).toInt ≤ 1600 := by rw [hOσ2.2 111 (by decide)] <;> exact hu
  have ht : 0 ≤ (σ2.1 0 1).toInt ∧ (σ2.1 0 1).toInt ≤ 600 := by rw [hOσ2.2 0 (by decide)] <;> exact ht
  refine ok_if (fun hc3 => ?_) (fun hc3 => ?_)
  · exact ok_some ⟨hT, (show CF σ2.1 from by exact ⟨hW2, hW28, hW132, hW158, hW184, hL, hD, hu, ht⟩)⟩
  · have qhc3 := hqv1.2 hc3
    refine ok_gC rfl ?_
    refine ok_zbT (Q := fun V σ => (V = 0 ∨ V = 1) ∧ (¬ V = 0 → 0 ≤ x2.toInt ∧ x2.toInt ≤ 9)) hT (s_X11_isRegister_n28 hN (hR.tr hT) ((hT.1.1 0 4 (by decide)).trans hNw) (by first | exact hn | omega | (rw [hT.2 28 (by decide)]; exact hn))) (fun _ h9 => absurd h9 List.not_mem_nil) (fun v4 σ5 hOσ5 hT hqv4 => ?_)
    have hqv4 : (v4 = 0 ∨ v4 = 1) ∧ (¬ v4 = 0 → 0 ≤ x2.toInt ∧ x2.toInt ≤ 9) := hqv4
    have hW2 : WI 2 σ5.1 := WI.tr hOσ5 (by decide) (by decide) (by decide) hW2
    have hW28 : WI 28 σ5.1 := WI.tr hOσ5 (by decide) (by decide) (by decide) hW28
    have hW132 : WI 132 σ5.1 := WI.tr hOσ5 (by decide) (by decide) (by decide) hW132
    have hW158 : WI 158 σ5.1 := WI.tr hOσ5 (by decide) (by decide) (by decide) hW158
    have hW184 : WI 184 σ5.1 := WI.tr hOσ5 (by decide) (by decide) (by decide) hW184
    have hL : SI σ5.1 := SI.tr hOσ5 (by decide) (by decide) (by decide) (by decide) hL
    have hD : RD σ5.1 := RD.tr hOσ5 (by decide) (by decide) (by decide) (by decide) hD
    have hu : 2 ≤ (σ5.1 111 8).toInt ∧ (σ5.1 111 8).toInt ≤ 1600 := by rw [hOσ5.2 111 (by decide)] <;> exact hu
    have ht : 0 ≤ (σ5.1 0 1).toInt ∧ (σ5.1 0 1).toInt ≤ 600 := by rw [hOσ5.2 0 (by decide)] <;> exact ht
    refine ok_if (fun hc6 => ?_) (fun hc6 => ?_)
    · exact ok_some ⟨hT, (show CF σ5.1 from by exact ⟨hW2, hW28, hW132, hW158, hW184, hL, hD, hu, ht⟩)⟩
    · have qhc6 := hqv4.2 hc6
      refine ok_gC rfl ?_
      refine ok_zbT (Q := fun V σ => (V = 0 ∨ V = 1) ∧ (¬ V = 0 → 0 ≤ x3.toInt ∧ x3.toInt < (σ5.1 28 0).toInt)) hT (s_X11_isName_n28 hN (hR.tr hT) ((hT.1.1 0 4 (by decide)).trans hNw) (by first | exact hn | omega | (rw [hT.2 28 (by decide)]; exact hn))) (fun _ h9 => absurd h9 List.not_mem_nil) (fun v7 σ8 hOσ8 hT hqv7 => ?_)
      have hqv7 : (v7 = 0 ∨ v7 = 1) ∧ (¬ v7 = 0 → 0 ≤ x3.toInt ∧ x3.toInt < (σ5.1 28 0).toInt) := hqv7
      have hW2 : WI 2 σ8.1 := WI.tr hOσ8 (by decide) (by decide) (by decide) hW2
      have hW28 : WI 28 σ8.1 := WI.tr hOσ8 (by decide) (by decide) (by decide) hW28
      have hW132 : WI 132 σ8.1 := WI.tr hOσ8 (by decide) (by decide) (by decide) hW132
      have hW158 : WI 158 σ8.1 := WI.tr hOσ8 (by decide) (by decide) (by decide) hW158
      have hW184 : WI 184 σ8.1 := WI.tr hOσ8 (by decide) (by decide) (by decide) hW184
      have hL : SI σ8.1 := SI.tr hOσ8 (by decide) (by decide) (by decide) (by decide) hL
      have hD : RD σ8.1 := RD.tr hOσ8 (by decide) (by decide) (by decide) (by decide) hD
      have hu : 2 ≤ (σ8.1 111 8).toInt ∧ (σ8.1 111 8).toInt ≤ 1600 := by rw [hOσ8.2 111 (by decide)] <;> exact hu
      have ht : 0 ≤ (σ8.1 0 1).toInt ∧ (σ8.1 0 1).toInt ≤ 600 := by rw [hOσ8.2 0 (by decide)] <;> exact ht
      refine ok_if (fun hc9 => ?_) (fun hc9 => ?_)
      · exact ok_some ⟨hT, (show CF σ8.1 from by exact ⟨hW2, hW28, hW132, hW158, hW184, hL, hD, hu, ht⟩)⟩
      · have qhc9 := hqv7.2 hc9
        refine ok_gR (v := 128) hT rfl (hR 0 17 rfl) ?_
        refine ok_gR (v := 28) hT rfl hNw ?_
        refine ok_gR (v := 33) hT rfl (hR 28 7 rfl) ?_
        obtain ⟨q14, eq14, kq14⟩ := arrF hR (k := 33) (i := x2) rfl (by first | omega | decide | (have q1 := hD.1; have q2 := hD.2.1; simp only [Int32.le_iff_toInt_le, Int32.lt_iff_toInt_lt, ti_add, ti_sub, ti_mul, Int32.reduceToInt] at *; omega)) (by first | omega | decide | (have q1 := hD.1; have q2 := hD.2.1; simp only [Int32.le_iff_toInt_le, Int32.lt_iff_toInt_lt, ti_add, ti_sub, ti_mul, Int32.reduceToInt] at *; omega))
        refine ok_aR (v := q14) hT rfl (by first | omega | decide | (have q1 := hD.1; have q2 := hD.2.1; simp only [Int32.le_iff_toInt_le, Int32.lt_iff_toInt_lt, ti_add, ti_sub, ti_mul, Int32.reduceToInt] at *; omega)) (by first | omega | decide | (have q1 := hD.1; have q2 := hD.2.1; simp only [Int32.le_iff_toInt_le, Int32.lt_iff_toInt_lt, ti_add, ti_sub, ti_mul, Int32.reduceToInt] at *; omega)) eq14 ?_
        refine ok_gC rfl ?_
        refine ok_zbT (Q := fun V σ => True) hT (s_X2_copyFrom hN (hR.tr hT) rfl kq14) (fun _ h9 => absurd h9 List.not_mem_nil) (fun v15 σ16 hOσ16 hT hqv15 => ?_)
        have hW2 : WI 2 σ16.1 := WI.tr hOσ16 (by decide) (by decide) (by decide) hW2
        have hW28 : WI 28 σ16.1 := WI.tr hOσ16 (by decide) (by decide) (by decide) hW28
        have hW132 : WI 132 σ16.1 := WI.tr hOσ16 (by decide) (by decide) (by decide) hW132
        have hW158 : WI 158 σ16.1 := WI.tr hOσ16 (by decide) (by decide) (by decide) hW158
        have hW184 : WI 184 σ16.1 := WI.tr hOσ16 (by decide) (by decide) (by decide) hW184
        have hL : SI σ16.1 := SI.tr hOσ16 (by decide) (by decide) (by decide) (by decide) hL
        have hD : RD σ16.1 := RD.tr hOσ16 (by decide) (by decide) (by decide) (by decide) hD
        have hu : 2 ≤ (σ16.1 111 8).toInt ∧ (σ16.1 111 8).toInt ≤ 1600 := by rw [hOσ16.2 111 (by decide)] <;> exact hu
        have ht : 0 ≤ (σ16.1 0 1).toInt ∧ (σ16.1 0 1).toInt ≤ 600 := by rw [hOσ16.2 0 (by decide)] <;> exact ht
        refine ok_if (fun hc17 => ?_) (fun hc17 => ?_)
        · refine ok_gR (v := 128) hT rfl (hR 0 17 rfl) ?_
          refine ok_gC rfl ?_
          refine ok_zbT (Q := fun V σ => True) hT (s_X2_keepWithout hN (hR.tr hT) rfl) (fun _ h9 => absurd h9 List.not_mem_nil) (fun v19 σ20 hOσ20 hT hqv19 => ?_)
          have hW2 : WI 2 σ20.1 := WI.tr hOσ20 (by decide) (by decide) (by decide) hW2
          have hW28 : WI 28 σ20.1 := WI.tr hOσ20 (by decide) (by decide) (by decide) hW28
          have hW132 : WI 132 σ20.1 := WI.tr hOσ20 (by decide) (by decide) (by decide) hW132
          have hW158 : WI 158 σ20.1 := WI.tr hOσ20 (by decide) (by decide) (by decide) hW158
          have hW184 : WI 184 σ20.1 := WI.tr hOσ20 (by decide) (by decide) (by decide) hW184
          have hL : SI σ20.1 := SI.tr hOσ20 (by decide) (by decide) (by decide) (by decide) hL
          have hD : RD σ20.1 := RD.tr hOσ20 (by decide) (by decide) (by decide) (by decide) hD
          have hu : 2 ≤ (σ20.1 111 8).toInt ∧ (σ20.1 111 8).toInt ≤ 1600 := by rw [hOσ20.2 111 (by decide)] <;> exact hu
          have ht : 0 ≤ (σ20.1 0 1).toInt ∧ (σ20.1 0 1).toInt ≤ 600 := by rw [hOσ20.2 0 (by decide)] <;> exact ht
          refine ok_gC rfl ?_
          refine ok_zbT (Q := fun V σ => True) hT (s_X11_store_n28 hN (hR.tr hT) ((hT.1.1 0 4 (by decide)).trans hNw) (by first | exact hn | omega | (rw [hT.2 28 (by decide)]; exact hn))) (fun _ h9 => absurd h9 List.not_mem_nil) (fun v21 σ22 hOσ22 hT hqv21 => ?_)
          have hW2 : WI 2 σ22.1 := WI.tr hOσ22 (by decide) (by decide) (by decide) hW2
          have hW28 : WI 28 σ22.1 := WI.tr hOσ22 (by decide) (by decide) (by decide) hW28
          have hW132 : WI 132 σ22.1 := WI.tr hOσ22 (by decide) (by decide) (by decide) hW132
          have hW158 : WI 158 σ22.1 := WI.tr hOσ22 (by decide) (by decide) (by decide) hW158
          have hW184 : WI 184 σ22.1 := WI.tr hOσ22 (by decide) (by decide) (by decide) hW184
          have hL : SI σ22.1 := SI.tr hOσ22 (by decide) (by decide) (by decide) (by decide) hL
          have hD : RD σ22.1 := RD.tr hOσ22 (by decide) (by decide) (by decide) (by decide) hD
          have hu : 2 ≤ (σ22.1 111 8).toInt ∧ (σ22.1 111 8).toInt ≤ 1600 := by rw [hOσ22.2 111 (by decide)] <;> exact hu
          have ht : 0 ≤ (σ22.1 0 1).toInt ∧ (σ22.1 0 1).toInt ≤ 600 := by rw [hOσ22.2 0 (by decide)] <;> exact ht
          exact ok_some ⟨hT, (show CF σ22.1 from by exact ⟨hW2, hW28, hW132, hW158, hW184, hL, hD, hu, ht⟩)⟩
        · refine ok_gR (v := 128) hT rfl (hR 0 17 rfl) ?_
          refine ok_gC rfl ?_
          refine ok_zbT (Q := fun V σ => True) hT (s_X2_flip hN (hR.tr hT) rfl) (fun _ h9 => absurd h9 List.not_mem_nil) (fun v24 σ25 hOσ25 hT hqv24 => ?_)
          have hW2 : WI 2 σ25.1 := WI.tr hOσ25 (by decide) (by decide) (by decide) hW2
          have hW28 : WI 28 σ25.1 := WI.tr hOσ25 (by decide) (by decide) (by decide) hW28
          have hW132 : WI 132 σ25.1 := WI.tr hOσ25 (by decide) (by decide) (by decide) hW132
          have hW158 : WI 158 σ25.1 := WI.tr hOσ25 (by decide) (by decide) (by decide) hW158
          have hW184 : WI 184 σ25.1 := WI.tr hOσ25 (by decide) (by decide) (by decide) hW184
          have hL : SI σ25.1 := SI.tr hOσ25 (by decide) (by decide) (by decide) (by decide) hL
          have hD : RD σ25.1 := RD.tr hOσ25 (by decide) (by decide) (by decide) (by decide) hD
          have hu : 2 ≤ (σ25.1 111 8).toInt ∧ (σ25.1 111 8).toInt ≤ 1600 := by rw [hOσ25.2 111 (by decide)] <;> exact hu
          have ht : 0 ≤ (σ25.1 0 1).toInt ∧ (σ25.1 0 1).toInt ≤ 600 := by rw [hOσ25.2 0 (by decide)] <;> exact ht
          refine ok_gR (v := 128) hT rfl (hR 0 17 rfl) ?_
          refine ok_gC rfl ?_
          refine ok_zbT (Q := fun V σ => True) hT (s_X2_keepWithout hN (hR.tr hT) rfl) (fun _ h9 => absurd h9 List.not_mem_nil) (fun v27 σ28 hOσ28 hT hqv27 => ?_)
          have hW2 : WI 2 σ28.1 := WI.tr hOσ28 (by decide) (by decide) (by decide) hW2
          have hW28 : WI 28 σ28.1 := WI.tr hOσ28 (by decide) (by decide) (by decide) hW28
          have hW132 : WI 132 σ28.1 := WI.tr hOσ28 (by decide) (by decide) (by decide) hW132
          have hW158 : WI 158 σ28.1 := WI.tr hOσ28 (by decide) (by decide) (by decide) hW158
          have hW184 : WI 184 σ28.1 := WI.tr hOσ28 (by decide) (by decide) (by decide) hW184
          have hL : SI σ28.1 := SI.tr hOσ28 (by decide) (by decide) (by decide) (by decide) hL
          have hD : RD σ28.1 := RD.tr hOσ28 (by decide) (by decide) (by decide) (by decide) hD
          have hu : 2 ≤ (σ28.1 111 8).toInt ∧ (σ28.1 111 8).toInt ≤ 1600 := by rw [hOσ28.2 111 (by decide)] <;> exact hu
          have ht : 0 ≤ (σ28.1 0 1).toInt ∧ (σ28.1 0 1).toInt ≤ 600 := by rw [hOσ28.2 0 (by decide)] <;> exact ht
          refine ok_gC rfl ?_
          refine ok_zbT (Q := fun V σ => True) hT (s_X11_store_n28 hN (hR.tr hT) ((hT.1.1 0 4 (by decide)).trans hNw) (by first | exact hn | omega | (rw [hT.2 28 (by decide)]; exact hn))) (fun _ h9 => absurd h9 List.not_mem_nil) (fun v29 σ30 hOσ30 hT hqv29 => ?_)
          have hW2 : WI 2 σ30.1 := WI.tr hOσ30 (by decide) (by decide) (by decide) hW2
          have hW28 : WI 28 σ30.1 := WI.tr hOσ30 (by decide) (by decide) (by decide) hW28
          have hW132 : WI 132 σ30.1 := WI.tr hOσ30 (by decide) (by decide) (by decide) hW132
          have hW158 : WI 158 σ30.1 := WI.tr hOσ30 (by decide) (by decide) (by decide) hW158
          have hW184 : WI 184 σ30.1 := WI.tr hOσ30 (by decide) (by decide) (by decide) hW184
          have hL : SI σ30.1 := SI.tr hOσ30 (by decide) (by decide) (by decide) (by decide) hL
          have hD : RD σ30.1 := RD.tr hOσ30 (by decide) (by decide) (by decide) (by decide) hD
          have hu : 2 ≤ (σ30.1 111 8).toInt ∧ (σ30.1 111 8).toInt ≤ 1600 := by rw [hOσ30.2 111 (by decide)] <;> exact hu
          have ht : 0 ≤ (σ30.1 0 1).toInt ∧ (σ30.1 0 1).toInt ≤ 600 := by rw [hOσ30.2 0 (by decide)] <;> exact ht
          exact ok_some ⟨hT, (show CF σ30.1 from by exact ⟨hW2, hW28, hW132, hW158, hW184, hL, hD, hu, ht⟩)⟩

set_option maxHeartbeats 4000000 in
set_option maxRecDepth 100000 in
theorem s_X11_nth_n28 {N : Nat} (hN : 1048576 ≤ N) {x1 : Int32} {x2 : Int32} {σ0 : zS}  (hR : RF σ0.2.2) (hNw : σ0.2.2 0 4 = 28) (hPw : σ0.2.2 0 5 = 2) (hC : CF σ0.1) : Ok (f_X11_nth N 0 x1 x2 σ0) (fun r => Tr [] σ0 r.2 ∧ (CF r.2.1)) := by
  have hT : Tr [] σ0 σ0 := Tr.rf
  obtain ⟨hW2, hW28, hW132, hW158, hW184, hL, hD, hu, ht⟩ := hC
  have hn := hW28.1
  have he := hW28.2.1
  have hD0 := hD
  have hL0 := hL
  have q10 := ti_one10 (x := σ0.1 28 0) hn.1 hn.2
  rw [f_X11_nth.eq_1]
  refine ok_gC rfl ?_
  refine ok_zbT (Q := fun V σ => (V = 0 ∨ V = 1) ∧ (¬ V = 0 → 0 ≤ x1.toInt ∧ x1.toInt ≤ 9)) hT (s_X11_isRegister_n28 hN (hR.tr hT) ((hT.1.1 0 4 (by decide)).trans hNw) (by first | exact hn | omega | (rw [hT.2 28 (by decide)]; exact hn))) (fun _ h9 => absurd h9 List.not_mem_nil) (fun v1 σ2 hOσ2 hT hqv1 => ?_)
  have hqv1 : (v1 = 0 ∨ v1 = 1) ∧ (¬ v1 = 0 → 0 ≤ x1.toInt ∧ x1.toInt ≤ 9) := hqv1
  have hW2 : WI 2 σ2.1 := WI.tr hOσ2 (by decide) (by decide) (by decide) hW2
  have hW28 : WI 28 σ2.1 := WI.tr hOσ2 (by decide) (by decide) (by decide) hW28
  have hW132 : WI 132 σ2.1 := WI.tr hOσ2 (by decide) (by decide) (by decide) hW132
  have hW158 : WI 158 σ2.1 := WI.tr hOσ2 (by decide) (by decide) (by decide) hW158
  have hW184 : WI 184 σ2.1 := WI.tr hOσ2 (by decide) (by decide) (by decide) hW184
  have hL : SI σ2.1 := SI.tr hOσ2 (by decide) (by decide) (by decide) (by decide) hL
  have hD : RD σ2.1 := RD.tr hOσ2 (by decide) (by decide) (by decide) (by decide) hD
  have hu : 2 ≤ (σ2.1 111 8).toInt ∧ (σ2.1 111 8).toInt ≤ 1600 := by rw [hOσ2.2 111 (by decide)] <;> exact hu
  have ht : 0 ≤ (σ2.1 0 1).toInt ∧ (σ2.1 0 1).toInt ≤ 600 := by rw [hOσ2.2 0 (by decide)] <;> exact ht
  refine ok_if (fun hc3 => ?_) (fun hc3 => ?_)
  · exact ok_some ⟨hT, (show CF σ2.1 from by exact ⟨hW2, hW28, hW132, hW158, hW184, hL, hD, hu, ht⟩)⟩
  · have qhc3 := hqv1.2 hc3
    refine ok_gR (v := 28) hT rfl hNw ?_
    refine ok_gR (v := 33) hT rfl (hR 28 7 rfl) ?_
    obtain ⟨q7, eq7, kq7⟩ := arrF hR (k := 33) (i := x1) rfl (by first | omega | decide | (have q1 := hD.1; have q2 := hD.2.1; simp only [Int32.le_iff_toInt_le, Int32.lt_iff_toInt_lt, ti_add, ti_sub, ti_mul, Int32.reduceToInt] at *; omega)) (by first | omega | decide | (have q1 := hD.1; have q2 := hD.2.1; simp only [Int32.le_iff_toInt_le, Int32.lt_iff_toInt_lt, ti_add, ti_sub, ti_mul, Int32.reduceToInt] at *; omega))
    refine ok_aR (v := q7) hT rfl (by first | omega | decide | (have q1 := hD.1; have q2 := hD.2.1; simp only [Int32.le_iff_toInt_le, Int32.lt_iff_toInt_lt, ti_add, ti_sub, ti_mul, Int32.reduceToInt] at *; omega)) (by first | omega | decide | (have q1 := hD.1; have q2 := hD.2.1; simp only [Int32.le_iff_toInt_le, Int32.lt_iff_toInt_lt, ti_add, ti_sub, ti_mul, Int32.reduceToInt] at *; omega)) eq7 ?_
    refine ok_gC kq7 ?_
    refine ok_zbT (Q := fun V σ => True) hT (s_X2_pick hN (hR.tr hT) kq7) (fun _ h9 => absurd h9 List.not_mem_nil) (fun v8 σ9 hOσ9 hT hqv8 => ?_)
    have hW2 : WI 2 σ9.1 := WI.tr hOσ9 (by decide) (by decide) (by decide) hW2
    have hW28 : WI 28 σ9.1 := WI.tr hOσ9 (by decide) (by decide) (by decide) hW28
    have hW132 : WI 132 σ9.1 := WI.tr hOσ9 (by decide) (by decide) (by decide) hW132
    have hW158 : WI 158 σ9.1 := WI.tr hOσ9 (by decide) (by decide) (by decide) hW158
    have hW184 : WI 184 σ9.1 := WI.tr hOσ9 (by decide) (by decide) (by decide) hW184
    have hL : SI σ9.1 := SI.tr hOσ9 (by decide) (by decide) (by decide) (by decide) hL
    have hD : RD σ9.1 := RD.tr hOσ9 (by decide) (by decide) (by decide) (by decide) hD
    have hu : 2 ≤ (σ9.1 111 8).toInt ∧ (σ9.1 111 8).toInt ≤ 1600 := by rw [hOσ9.2 111 (by decide)] <;> exact hu
    have ht : 0 ≤ (σ9.1 0 1).toInt ∧ (σ9.1 0 1).toInt ≤ 600 := by rw [hOσ9.2 0 (by decide)] <;> exact ht
    exact ok_some ⟨hT, (show CF σ9.1 from by exact ⟨hW2, hW28, hW132, hW158, hW184, hL, hD, hu, ht⟩)⟩

set_option maxHeartbeats 4000000 in
set_option maxRecDepth 100000 in
theorem s_X11_rank_n28 {N : Nat} (hN : 1048576 ≤ N) {x1 : Int32} {x2 : Int32} {σ0 : zS}  (hR : RF σ0.2.2) (hNw : σ0.2.2 0 4 = 28) (hPw : σ0.2.2 0 5 = 2) (hC : CF σ0.1) : Ok (f_X11_rank N 0 x1 x2 σ0) (fun r => Tr [] σ0 r.2 ∧ (CF r.2.1)) := by
  have hT : Tr [] σ0 σ0 := Tr.rf
  obtain ⟨hW2, hW28, hW132, hW158, hW184, hL, hD, hu, ht⟩ := hC
  have hn := hW28.1
  have he := hW28.2.1
  have hD0 := hD
  have hL0 := hL
  have q10 := ti_one10 (x := σ0.1 28 0) hn.1 hn.2
  rw [f_X11_rank.eq_1]
  refine ok_gC rfl ?_
  refine ok_zbT (Q := fun V σ => (V = 0 ∨ V = 1) ∧ (¬ V = 0 → 0 ≤ x1.toInt ∧ x1.toInt ≤ 9)) hT (s_X11_isRegister_n28 hN (hR.tr hT) ((hT.1.1 0 4 (by decide)).trans hNw) (by first | exact hn | omega | (rw [hT.2 28 (by decide)]; exact hn))) (fun _ h9 => absurd h9 List.not_mem_nil) (fun v1 σ2 hOσ2 hT hqv1 => ?_)
  have hqv1 : (v1 = 0 ∨ v1 = 1) ∧ (¬ v1 = 0 → 0 ≤ x1.toInt ∧ x1.toInt ≤ 9) := hqv1
  have hW2 : WI 2 σ2.1 := WI.tr hOσ2 (by decide) (by decide) (by decide) hW2
  have hW28 : WI 28 σ2.1 := WI.tr hOσ2 (by decide) (by decide) (by decide) hW28
  have hW132 : WI 132 σ2.1 := WI.tr hOσ2 (by decide) (by decide) (by decide) hW132
  have hW158 : WI 158 σ2.1 := WI.tr hOσ2 (by decide) (by decide) (by decide) hW158
  have hW184 : WI 184 σ2.1 := WI.tr hOσ2 (by decide) (by decide) (by decide) hW184
  have hL : SI σ2.1 := SI.tr hOσ2 (by decide) (by decide) (by decide) (by decide) hL
  have hD : RD σ2.1 := RD.tr hOσ2 (by decide) (by decide) (by decide) (by decide) hD
  have hu : 2 ≤ (σ2.1 111 8).toInt ∧ (σ2.1 111 8).toInt ≤ 1600 := by rw [hOσ2.2 111 (by decide)] <;> exact hu
  have ht : 0 ≤ (σ2.1 0 1).toInt ∧ (σ2.1 0 1).toInt ≤ 600 := by rw [hOσ2.2 0 (by decide)] <;> exact ht
  refine ok_if (fun hc3 => ?_) (fun hc3 => ?_)
  · exact ok_some ⟨hT, (show CF σ2.1 from by exact ⟨hW2, hW28, hW132, hW158, hW184, hL, hD, hu, ht⟩)⟩
  · have qhc3 := hqv1.2 hc3
    refine ok_gC rfl ?_
    refine ok_zbT (Q := fun V σ => (V = 0 ∨ V = 1) ∧ (¬ V = 0 → 0 ≤ x2.toInt ∧ x2.toInt ≤ 1023)) hT (s_X11_isSet_n28 hN (hR.tr hT) ((hT.1.1 0 4 (by decide)).trans hNw) (by first | exact hn | omega | (rw [hT.2 28 (by decide)]; exact hn))) (fun _ h9 => absurd h9 List.not_mem_nil) (fun v4 σ5 hOσ5 hT hqv4 => ?_)
    have hqv4 : (v4 = 0 ∨ v4 = 1) ∧ (¬ v4 = 0 → 0 ≤ x2.toInt ∧ x2.toInt ≤ 1023) := hqv4
    have hW2 : WI 2 σ5.1 := WI.tr hOσ5 (by decide) (by decide) (by decide) hW2
    have hW28 : WI 28 σ5.1 := WI.tr hOσ5 (by decide) (by decide) (by decide) hW28
    have hW132 : WI 132 σ5.1 := WI.tr hOσ5 (by decide) (by decide) (by decide) hW132
    have hW158 : WI 158 σ5.1 := WI.tr hOσ5 (by decide) (by decide) (by decide) hW158
    have hW184 : WI 184 σ5.1 := WI.tr hOσ5 (by decide) (by decide) (by decide) hW184
    have hL : SI σ5.1 := SI.tr hOσ5 (by decide) (by decide) (by decide) (by decide) hL
    have hD : RD σ5.1 := RD.tr hOσ5 (by decide) (by decide) (by decide) (by decide) hD
    have hu : 2 ≤ (σ5.1 111 8).toInt ∧ (σ5.1 111 8).toInt ≤ 1600 := by rw [hOσ5.2 111 (by decide)] <;> exact hu
    have ht : 0 ≤ (σ5.1 0 1).toInt ∧ (σ5.1 0 1).toInt ≤ 600 := by rw [hOσ5.2 0 (by decide)] <;> exact ht
    refine ok_if (fun hc6 => ?_) (fun hc6 => ?_)
    · exact ok_some ⟨hT, (show CF σ5.1 from by exact ⟨hW2, hW28, hW132, hW158, hW184, hL, hD, hu, ht⟩)⟩
    · have qhc6 := hqv4.2 hc6
      refine ok_gR (v := 28) hT rfl hNw ?_
      refine ok_gR (v := 33) hT rfl (hR 28 7 rfl) ?_
      obtain ⟨q10, eq10, kq10⟩ := arrF hR (k := 33) (i := x1) rfl (by first | omega | decide | (have q1 := hD.1; have q2 := hD.2.1; simp only [Int32.le_iff_toInt_le, Int32.lt_iff_toInt_lt, ti_add, ti_sub, ti_mul, Int32.reduceToInt] at *; omega)) (by first | omega | decide | (have q1 := hD.1; have q2 := hD.2.1; simp only [Int32.le_iff_toInt_le, Int32.lt_iff_toInt_lt, ti_add, ti_sub, ti_mul, Int32.reduceToInt] at *; omega))
      refine ok_aR (v := q10) hT rfl (by first | omega | decide | (have q1 := hD.1; have q2 := hD.2.1; simp only [Int32.le_iff_toInt_le, Int32.lt_iff_toInt_lt, ti_add, ti_sub, ti_mul, Int32.reduceToInt] at *; omega)) (by first | omega | decide | (have q1 := hD.1; have q2 := hD.2.1; simp only [Int32.le_iff_toInt_le, Int32.lt_iff_toInt_lt, ti_add, ti_sub, ti_mul, Int32.reduceToInt] at *; omega)) eq10 ?_
      refine ok_gC kq10 ?_
      refine ok_zbT (Q := fun V σ => True) hT (s_X2_tallyBelow hN (hR.tr hT) kq10) (fun _ h9 => absurd h9 List.not_mem_nil) (fun v11 σ12 hOσ12 hT hqv11 => ?_)
      have hW2 : WI 2 σ12.1 := WI.tr hOσ12 (by decide) (by decide) (by decide) hW2
      have hW28 : WI 28 σ12.1 := WI.tr hOσ12 (by decide) (by decide) (by decide) hW28
      have hW132 : WI 132 σ12.1 := WI.tr hOσ12 (by decide) (by decide) (by decide) hW132
      have hW158 : WI 158 σ12.1 := WI.tr hOσ12 (by decide) (by decide) (by decide) hW158
      have hW184 : WI 184 σ12.1 := WI.tr hOσ12 (by decide) (by decide) (by decide) hW184
      have hL : SI σ12.1 := SI.tr hOσ12 (by decide) (by decide) (by decide) (by decide) hL
      have hD : RD σ12.1 := RD.tr hOσ12 (by decide) (by decide) (by decide) (by decide) hD
      have hu : 2 ≤ (σ12.1 111 8).toInt ∧ (σ12.1 111 8).toInt ≤ 1600 := by rw [hOσ12.2 111 (by decide)] <;> exact hu
      have ht : 0 ≤ (σ12.1 0 1).toInt ∧ (σ12.1 0 1).toInt ≤ 600 := by rw [hOσ12.2 0 (by decide)] <;> exact ht
      exact ok_some ⟨hT, (show CF σ12.1 from by exact ⟨hW2, hW28, hW132, hW158, hW184, hL, hD, hu, ht⟩)⟩

set_option maxHeartbeats 4000000 in
set_option maxRecDepth 100000 in
theorem s_X11_light_n28 {N : Nat} (hN : 1048576 ≤ N) {x1 : Int32} {x2 : Int32} {σ0 : zS}  (hR : RF σ0.2.2) (hNw : σ0.2.2 0 4 = 28) (hPw : σ0.2.2 0 5 = 2) (hC : CF σ0.1) : Ok (f_X11_light N 0 x1 x2 σ0) (fun r => Tr [109, 110] σ0 r.2 ∧ (CF r.2.1)) := by
  have hT : Tr [109, 110] σ0 σ0 := Tr.rf
  obtain ⟨hW2, hW28, hW132, hW158, hW184, hL, hD, hu, ht⟩ := hC
  have hn := hW28.1
  have he := hW28.2.1
  have hD0 := hD
  have hL0 := hL
  have q10 := ti_one10 (x := σ0.1 28 0) hn.1 hn.2
  rw [f_X11_light.eq_1]
  refine ok_gC rfl ?_
  refine ok_zbT (Q := fun V σ => (V = 0 ∨ V = 1) ∧ (¬ V = 0 → 0 ≤ x1.toInt ∧ x1.toInt ≤ 9)) hT (s_X11_isRegister_n28 hN (hR.tr hT) ((hT.1.1 0 4 (by decide)).trans hNw) (by first | exact hn | omega | (rw [hT.2 28 (by decide)]; exact hn))) (fun _ h9 => absurd h9 List.not_mem_nil) (fun v1 σ2 hOσ2 hT hqv1 => ?_)
  have hqv1 : (v1 = 0 ∨ v1 = 1) ∧ (¬ v1 = 0 → 0 ≤ x1.toInt ∧ x1.toInt ≤ 9) := hqv1
  have hW2 : WI 2 σ2.1 := WI.tr hOσ2 (by decide) (by decide) (by decide) hW2
  have hW28 : WI 28 σ2.1 := WI.tr hOσ2 (by decide) (by decide) (by decide) hW28
  have hW132 : WI 132 σ2.1 := WI.tr hOσ2 (by decide) (by decide) (by decide) hW132
  have hW158 : WI 158 σ2.1 := WI.tr hOσ2 (by decide) (by decide) (by decide) hW158
  have hW184 : WI 184 σ2.1 := WI.tr hOσ2 (by decide) (by decide) (by decide) hW184
  have hL : SI σ2.1 := SI.tr hOσ2 (by decide) (by decide) (by decide) (by decide) hL
  have hD : RD σ2.1 := RD.tr hOσ2 (by decide) (by decide) (by decide) (by decide) hD
  have hu : 2 ≤ (σ2.1 111 8).toInt ∧ (σ2.1 111 8).toInt ≤ 1600 := by rw [hOσ2.2 111 (by decide)] <;> exact hu
  have ht : 0 ≤ (σ2.1 0 1).toInt ∧ (σ2.1 0 1).toInt ≤ 600 := by rw [hOσ2.2 0 (by decide)] <;> exact ht
  refine ok_if (fun hc3 => ?_) (fun hc3 => ?_)
  · exact ok_some ⟨hT, (show CF σ2.1 from by exact ⟨hW2, hW28, hW132, hW158, hW184, hL, hD, hu, ht⟩)⟩
  · have qhc3 := hqv1.2 hc3
    refine ok_gR (v := 108) hT rfl (hR 0 12 rfl) ?_
    refine ok_gR (v := 28) hT rfl hNw ?_
    refine ok_gR (v := 28) hT rfl hNw ?_
    refine ok_gR (v := 33) hT rfl (hR 28 7 rfl) ?_
    obtain ⟨q9, eq9, kq9⟩ := arrF hR (k := 33) (i := x1) rfl (by first | omega | decide | (have q1 := hD.1; have q2 := hD.2.1; simp only [Int32.le_iff_toInt_le, Int32.lt_iff_toInt_lt, ti_add, ti_sub, ti_mul, Int32.reduceToInt] at *; omega)) (by first | omega | decide | (have q1 := hD.1; have q2 := hD.2.1; simp only [Int32.le_iff_toInt_le, Int32.lt_iff_toInt_lt, ti_add, ti_sub, ti_mul, Int32.reduceToInt] at *; omega))
    refine ok_aR (v := q9) hT rfl (by first | omega | decide | (have q1 := hD.1; have q2 := hD.2.1; simp only [Int32.le_iff_toInt_le, Int32.lt_iff_toInt_lt, ti_add, ti_sub, ti_mul, Int32.reduceToInt] at *; omega)) (by first | omega | decide | (have q1 := hD.1; have q2 := hD.2.1; simp only [Int32.le_iff_toInt_le, Int32.lt_iff_toInt_lt, ti_add, ti_sub, ti_mul, Int32.reduceToInt] at *; omega)) eq9 ?_
    refine ok_gC rfl ?_
    refine ok_zbT (Q := fun V σ => True) hT (s_X8_pick_28 hN (hR.tr hT) kq9) (by decide) (fun v10 σ11 hOσ11 hT hqv10 => ?_)
    have hW2 : WI 2 σ11.1 := WI.tr hOσ11 (by decide) (by decide) (by decide) hW2
    have hW28 : WI 28 σ11.1 := WI.tr hOσ11 (by decide) (by decide) (by decide) hW28
    have hW132 : WI 132 σ11.1 := WI.tr hOσ11 (by decide) (by decide) (by decide) hW132
    have hW158 : WI 158 σ11.1 := WI.tr hOσ11 (by decide) (by decide) (by decide) hW158
    have hW184 : WI 184 σ11.1 := WI.tr hOσ11 (by decide) (by decide) (by decide) hW184
    have hL : SI σ11.1 := SI.tr hOσ11 (by decide) (by decide) (by decide) (by decide) hL
    have hD : RD σ11.1 := RD.tr hOσ11 (by decide) (by decide) (by decide) (by decide) hD
    have hu : 2 ≤ (σ11.1 111 8).toInt ∧ (σ11.1 111 8).toInt ≤ 1600 := by rw [hOσ11.2 111 (by decide)] <;> exact hu
    have ht : 0 ≤ (σ11.1 0 1).toInt ∧ (σ11.1 0 1).toInt ≤ 600 := by rw [hOσ11.2 0 (by decide)] <;> exact ht
    exact ok_some ⟨hT, (show CF σ11.1 from by exact ⟨hW2, hW28, hW132, hW158, hW184, hL, hD, hu, ht⟩)⟩

set_option maxHeartbeats 4000000 in
set_option maxRecDepth 100000 in
theorem s_X11_weight_n28 {N : Nat} (hN : 1048576 ≤ N) {x1 : Int32} {σ0 : zS}  (hR : RF σ0.2.2) (hNw : σ0.2.2 0 4 = 28) (hPw : σ0.2.2 0 5 = 2) (hC : CF σ0.1) : Ok (f_X11_weight N 0 x1 σ0) (fun r => Tr [] σ0 r.2 ∧ (CF r.2.1)) := by
  have hT : Tr [] σ0 σ0 := Tr.rf
  obtain ⟨hW2, hW28, hW132, hW158, hW184, hL, hD, hu, ht⟩ := hC
  have hn := hW28.1
  have he := hW28.2.1
  have hD0 := hD
  have hL0 := hL
  have q10 := ti_one10 (x := σ0.1 28 0) hn.1 hn.2
  rw [f_X11_weight.eq_1]
  refine ok_gC rfl ?_
  refine ok_zbT (Q := fun V σ => (V = 0 ∨ V = 1) ∧ (¬ V = 0 → 0 ≤ x1.toInt ∧ x1.toInt ≤ 1023)) hT (s_X11_isSet_n28 hN (hR.tr hT) ((hT.1.1 0 4 (by decide)).trans hNw) (by first | exact hn | omega | (rw [hT.2 28 (by decide)]; exact hn))) (fun _ h9 => absurd h9 List.not_mem_nil) (fun v1 σ2 hOσ2 hT hqv1 => ?_)
  have hqv1 : (v1 = 0 ∨ v1 = 1) ∧ (¬ v1 = 0 → 0 ≤ x1.toInt ∧ x1.toInt ≤ 1023) := hqv1
  have hW2 : WI 2 σ2.1 := WI.tr hOσ2 (by decide) (by decide) (by decide) hW2
  have hW28 : WI 28 σ2.1 := WI.tr hOσ2 (by decide) (by decide) (by decide) hW28
  have hW132 : WI 132 σ2.1 := WI.tr hOσ2 (by decide) (by decide) (by decide) hW132
  have hW158 : WI 158 σ2.1 := WI.tr hOσ2 (by decide) (by decide) (by decide) hW158
  have hW184 : WI 184 σ2.1 := WI.tr hOσ2 (by decide) (by decide) (by decide) hW184
  have hL : SI σ2.1 := SI.tr hOσ2 (by decide) (by decide) (by decide) (by decide) hL
  have hD : RD σ2.1 := RD.tr hOσ2 (by decide) (by decide) (by decide) (by decide) hD
  have hu : 2 ≤ (σ2.1 111 8).toInt ∧ (σ2.1 111 8).toInt ≤ 1600 := by rw [hOσ2.2 111 (by decide)] <;> exact hu
  have ht : 0 ≤ (σ2.1 0 1).toInt ∧ (σ2.1 0 1).toInt ≤ 600 := by rw [hOσ2.2 0 (by decide)] <;> exact ht
  refine ok_if (fun hc3 => ?_) (fun hc3 => ?_)
  · exact ok_some ⟨hT, (show CF σ2.1 from by exact ⟨hW2, hW28, hW132, hW158, hW184, hL, hD, hu, ht⟩)⟩
  · have qhc3 := hqv1.2 hc3
    refine ok_gR (v := 28) hT rfl hNw ?_
    refine ok_gC rfl ?_
    refine ok_zbT (Q := fun V σ => True) hT (s_X10_load_28 hN (hR.tr hT) ) (fun _ h9 => absurd h9 List.not_mem_nil) (fun v5 σ6 hOσ6 hT hqv5 => ?_)
    have hW2 : WI 2 σ6.1 := WI.tr hOσ6 (by decide) (by decide) (by decide) hW2
    have hW28 : WI 28 σ6.1 := WI.tr hOσ6 (by decide) (by decide) (by decide) hW28
    have hW132 : WI 132 σ6.1 := WI.tr hOσ6 (by decide) (by decide) (by decide) hW132
    have hW158 : WI 158 σ6.1 := WI.tr hOσ6 (by decide) (by decide) (by decide) hW158
    have hW184 : WI 184 σ6.1 := WI.tr hOσ6 (by decide) (by decide) (by decide) hW184
    have hL : SI σ6.1 := SI.tr hOσ6 (by decide) (by decide) (by decide) (by decide) hL
    have hD : RD σ6.1 := RD.tr hOσ6 (by decide) (by decide) (by decide) (by decide) hD
    have hu : 2 ≤ (σ6.1 111 8).toInt ∧ (σ6.1 111 8).toInt ≤ 1600 := by rw [hOσ6.2 111 (by decide)] <;> exact hu
    have ht : 0 ≤ (σ6.1 0 1).toInt ∧ (σ6.1 0 1).toInt ≤ 600 := by rw [hOσ6.2 0 (by decide)] <;> exact ht
    exact ok_some ⟨hT, (show CF σ6.1 from by exact ⟨hW2, hW28, hW132, hW158, hW184, hL, hD, hu, ht⟩)⟩

set_option maxHeartbeats 4000000 in
set_option maxRecDepth 100000 in
theorem s_X11_weighs_n28 {N : Nat} (hN : 1048576 ≤ N) {x1 : Int32} {x2 : Int32} {σ0 : zS}  (hR : RF σ0.2.2) (hNw : σ0.2.2 0 4 = 28) (hPw : σ0.2.2 0 5 = 2) (hC : CF σ0.1) : Ok (f_X11_weighs N 0 x1 x2 σ0) (fun r => Tr [109] σ0 r.2 ∧ (CF r.2.1)) := by
  have hT : Tr [109] σ0 σ0 := Tr.rf
  obtain ⟨hW2, hW28, hW132, hW158, hW184, hL, hD, hu, ht⟩ := hC
  have hn := hW28.1
  have he := hW28.2.1
  have hD0 := hD
  have hL0 := hL
  have q10 := ti_one10 (x := σ0.1 28 0) hn.1 hn.2
  rw [f_X11_weighs.eq_1]
  refine ok_gC rfl ?_
  refine ok_zbT (Q := fun V σ => (V = 0 ∨ V = 1) ∧ (¬ V = 0 → 0 ≤ x1.toInt ∧ x1.toInt ≤ 9)) hT (s_X11_isRegister_n28 hN (hR.tr hT) ((hT.1.1 0 4 (by decide)).trans hNw) (by first | exact hn | omega | (rw [hT.2 28 (by decide)]; exact hn))) (fun _ h9 => absurd h9 List.not_mem_nil) (fun v1 σ2 hOσ2 hT hqv1 => ?_)
  have hqv1 : (v1 = 0 ∨ v1 = 1) ∧ (¬ v1 = 0 → 0 ≤ x1.toInt ∧ x1.toInt ≤ 9) := hqv1
  have hW2 : WI 2 σ2.1 := WI.tr hOσ2 (by decide) (by decide) (by decide) hW2
  have hW28 : WI 28 σ2.1 := WI.tr hOσ2 (by decide) (by decide) (by decide) hW28
  have hW132 : WI 132 σ2.1 := WI.tr hOσ2 (by decide) (by decide) (by decide) hW132
  have hW158 : WI 158 σ2.1 := WI.tr hOσ2 (by decide) (by decide) (by decide) hW158
  have hW184 : WI 184 σ2.1 := WI.tr hOσ2 (by decide) (by decide) (by decide) hW184
  have hL : SI σ2.1 := SI.tr hOσ2 (by decide) (by decide) (by decide) (by decide) hL
  have hD : RD σ2.1 := RD.tr hOσ2 (by decide) (by decide) (by decide) (by decide) hD
  have hu : 2 ≤ (σ2.1 111 8).toInt ∧ (σ2.1 111 8).toInt ≤ 1600 := by rw [hOσ2.2 111 (by decide)] <;> exact hu
  have ht : 0 ≤ (σ2.1 0 1).toInt ∧ (σ2.1 0 1).toInt ≤ 600 := by rw [hOσ2.2 0 (by decide)] <;> exact ht
  refine ok_if (fun hc3 => ?_) (fun hc3 => ?_)
  · exact ok_some ⟨hT, (show CF σ2.1 from by exact ⟨hW2, hW28, hW132, hW158, hW184, hL, hD, hu, ht⟩)⟩
  · have qhc3 := hqv1.2 hc3
    refine ok_if (fun hc4 => ?_) (fun hc4 => ?_)
    · exact ok_some ⟨hT, (show CF σ2.1 from by exact ⟨hW2, hW28, hW132, hW158, hW184, hL, hD, hu, ht⟩)⟩
    · refine ok_if (fun hc5 => ?_) (fun hc5 => ?_)
      · refine ok_gR (v := 108) hT rfl (hR 0 12 rfl) ?_
        refine ok_gR (v := 28) hT rfl hNw ?_
        refine ok_gR (v := 28) hT rfl hNw ?_
        refine ok_gR (v := 33) hT rfl (hR 28 7 rfl) ?_
        obtain ⟨q11, eq11, kq11⟩ := arrF hR (k := 33) (i := x1) rfl (by first | omega | decide | (have q1 := hD.1; have q2 := hD.2.1; simp only [Int32.le_iff_toInt_le, Int32.lt_iff_toInt_lt, ti_add, ti_sub, ti_mul, Int32.reduceToInt] at *; omega)) (by first | omega | decide | (have q1 := hD.1; have q2 := hD.2.1; simp only [Int32.le_iff_toInt_le, Int32.lt_iff_toInt_lt, ti_add, ti_sub, ti_mul, Int32.reduceToInt] at *; omega))
        refine ok_aR (v := q11) hT rfl (by first | omega | decide | (have q1 := hD.1; have q2 := hD.2.1; simp only [Int32.le_iff_toInt_le, Int32.lt_iff_toInt_lt, ti_add, ti_sub, ti_mul, Int32.reduceToInt] at *; omega)) (by first | omega | decide | (have q1 := hD.1; have q2 := hD.2.1; simp only [Int32.le_iff_toInt_le, Int32.lt_iff_toInt_lt, ti_add, ti_sub, ti_mul, Int32.reduceToInt] at *; omega)) eq11 ?_
        refine ok_gC rfl ?_
        refine ok_zbT (Q := fun V σ => True) hT (s_X8_sum_28 hN (hR.tr hT) kq11) (by decide) (fun v12 σ13 hOσ13 hT hqv12 => ?_)
        have hW2 : WI 2 σ13.1 := WI.tr hOσ13 (by decide) (by decide) (by decide) hW2
        have hW28 : WI 28 σ13.1 := WI.tr hOσ13 (by decide) (by decide) (by decide) hW28
        have hW132 : WI 132 σ13.1 := WI.tr hOσ13 (by decide) (by decide) (by decide) hW132
        have hW158 : WI 158 σ13.1 := WI.tr hOσ13 (by decide) (by decide) (by decide) hW158
        have hW184 : WI 184 σ13.1 := WI.tr hOσ13 (by decide) (by decide) (by decide) hW184
        have hL : SI σ13.1 := SI.tr hOσ13 (by decide) (by decide) (by decide) (by decide) hL
        have hD : RD σ13.1 := RD.tr hOσ13 (by decide) (by decide) (by decide) (by decide) hD
        have hu : 2 ≤ (σ13.1 111 8).toInt ∧ (σ13.1 111 8).toInt ≤ 1600 := by rw [hOσ13.2 111 (by decide)] <;> exact hu
        have ht : 0 ≤ (σ13.1 0 1).toInt ∧ (σ13.1 0 1).toInt ≤ 600 := by rw [hOσ13.2 0 (by decide)] <;> exact ht
        exact ok_some ⟨hT, (show CF σ13.1 from by exact ⟨hW2, hW28, hW132, hW158, hW184, hL, hD, hu, ht⟩)⟩
      · exact ok_some ⟨hT, (show CF σ2.1 from by exact ⟨hW2, hW28, hW132, hW158, hW184, hL, hD, hu, ht⟩)⟩

set_option maxHeartbeats 4000000 in
set_option maxRecDepth 100000 in
theorem s_X11_each_n28 {N : Nat} (hN : 1048576 ≤ N) {x1 : Int32} {x2 : Int32} {σ0 : zS}  (hR : RF σ0.2.2) (hNw : σ0.2.2 0 4 = 28) (hPw : σ0.2.2 0 5 = 2) (hC : CF σ0.1) : Ok (f_X11_each N 0 x1 x2 σ0) (fun r => Tr [] σ0 r.2 ∧ (CF r.2.1)) := by
  have hT : Tr [] σ0 σ0 := Tr.rf
  obtain ⟨hW2, hW28, hW132, hW158, hW184, hL, hD, hu, ht⟩ := hC
  have hn := hW28.1
  have he := hW28.2.1
  have hD0 := hD
  have hL0 := hL
  have q10 := ti_one10 (x := σ0.1 28 0) hn.1 hn.2
  rw [f_X11_each.eq_1]
  refine ok_gC rfl ?_
  refine ok_zbT (Q := fun V σ => (V = 0 ∨ V = 1) ∧ (¬ V = 0 → 0 ≤ x1.toInt ∧ x1.toInt ≤ 9)) hT (s_X11_isRegister_n28 hN (hR.tr hT) ((hT.1.1 0 4 (by decide)).trans hNw) (by first | exact hn | omega | (rw [hT.2 28 (by decide)]; exact hn))) (fun _ h9 => absurd h9 List.not_mem_nil) (fun v1 σ2 hOσ2 hT hqv1 => ?_)
  have hqv1 : (v1 = 0 ∨ v1 = 1) ∧ (¬ v1 = 0 → 0 ≤ x1.toInt ∧ x1.toInt ≤ 9) := hqv1
  have hW2 : WI 2 σ2.1 := WI.tr hOσ2 (by decide) (by decide) (by decide) hW2
  have hW28 : WI 28 σ2.1 := WI.tr hOσ2 (by decide) (by decide) (by decide) hW28
  have hW132 : WI 132 σ2.1 := WI.tr hOσ2 (by decide) (by decide) (by decide) hW132
  have hW158 : WI 158 σ2.1 := WI.tr hOσ2 (by decide) (by decide) (by decide) hW158
  have hW184 : WI 184 σ2.1 := WI.tr hOσ2 (by decide) (by decide) (by decide) hW184
  have hL : SI σ2.1 := SI.tr hOσ2 (by decide) (by decide) (by decide) (by decide) hL
  have hD : RD σ2.1 := RD.tr hOσ2 (by decide) (by decide) (by decide) (by decide) hD
  have hu : 2 ≤ (σ2.1 111 8).toInt ∧ (σ2.1 111 8).toInt ≤ 1600 := by rw [hOσ2.2 111 (by decide)] <;> exact hu
  have ht : 0 ≤ (σ2.1 0 1).toInt ∧ (σ2.1 0 1).toInt ≤ 600 := by rw [hOσ2.2 0 (by decide)] <;> exact ht
  refine ok_if (fun hc3 => ?_) (fun hc3 => ?_)
  · exact ok_some ⟨hT, (show CF σ2.1 from by exact ⟨hW2, hW28, hW132, hW158, hW184, hL, hD, hu, ht⟩)⟩
  · have qhc3 := hqv1.2 hc3
    refine ok_gC rfl ?_
    refine ok_zbT (Q := fun V σ => (V = 0 ∨ V = 1) ∧ (¬ V = 0 → 0 ≤ x2.toInt ∧ x2.toInt < (σ2.1 28 0).toInt)) hT (s_X11_isName_n28 hN (hR.tr hT) ((hT.1.1 0 4 (by decide)).trans hNw) (by first | exact hn | omega | (rw [hT.2 28 (by decide)]; exact hn))) (fun _ h9 => absurd h9 List.not_mem_nil) (fun v4 σ5 hOσ5 hT hqv4 => ?_)
    have hqv4 : (v4 = 0 ∨ v4 = 1) ∧ (¬ v4 = 0 → 0 ≤ x2.toInt ∧ x2.toInt < (σ2.1 28 0).toInt) := hqv4
    have hW2 : WI 2 σ5.1 := WI.tr hOσ5 (by decide) (by decide) (by decide) hW2
    have hW28 : WI 28 σ5.1 := WI.tr hOσ5 (by decide) (by decide) (by decide) hW28
    have hW132 : WI 132 σ5.1 := WI.tr hOσ5 (by decide) (by decide) (by decide) hW132
    have hW158 : WI 158 σ5.1 := WI.tr hOσ5 (by decide) (by decide) (by decide) hW158
    have hW184 : WI 184 σ5.1 := WI.tr hOσ5 (by decide) (by decide) (by decide) hW184
    have hL : SI σ5.1 := SI.tr hOσ5 (by decide) (by decide) (by decide) (by decide) hL
    have hD : RD σ5.1 := RD.tr hOσ5 (by decide) (by decide) (by decide) (by decide) hD
    have hu : 2 ≤ (σ5.1 111 8).toInt ∧ (σ5.1 111 8).toInt ≤ 1600 := by rw [hOσ5.2 111 (by decide)] <;> exact hu
    have ht : 0 ≤ (σ5.1 0 1).toInt ∧ (σ5.1 0 1).toInt ≤ 600 := by rw [hOσ5.2 0 (by decide)] <;> exact ht
    refine ok_if (fun hc6 => ?_) (fun hc6 => ?_)
    · exact ok_some ⟨hT, (show CF σ5.1 from by exact ⟨hW2, hW28, hW132, hW158, hW184, hL, hD, hu, ht⟩)⟩
    · have qhc6 := hqv4.2 hc6
      refine ok_gR (v := 128) hT rfl (hR 0 17 rfl) ?_
      refine ok_gR (v := 28) hT rfl hNw ?_
      refine ok_gR (v := 33) hT rfl (hR 28 7 rfl) ?_
      obtain ⟨q11, eq11, kq11⟩ := arrF hR (k := 33) (i := x1) rfl (by first | omega | decide | (have q1 := hD.1; have q2 := hD.2.1; simp only [Int32.le_iff_toInt_le, Int32.lt_iff_toInt_lt, ti_add, ti_sub, ti_mul, Int32.reduceToInt] at *; omega)) (by first | omega | decide | (have q1 := hD.1; have q2 := hD.2.1; simp only [Int32.le_iff_toInt_le, Int32.lt_iff_toInt_lt, ti_add, ti_sub, ti_mul, Int32.reduceToInt] at *; omega))
      refine ok_aR (v := q11) hT rfl (by first | omega | decide | (have q1 := hD.1; have q2 := hD.2.1; simp only [Int32.le_iff_toInt_le, Int32.lt_iff_toInt_lt, ti_add, ti_sub, ti_mul, Int32.reduceToInt] at *; omega)) (by first | omega | decide | (have q1 := hD.1; have q2 := hD.2.1; simp only [Int32.le_iff_toInt_le, Int32.lt_iff_toInt_lt, ti_add, ti_sub, ti_mul, Int32.reduceToInt] at *; omega)) eq11 ?_
      refine ok_gC rfl ?_
      refine ok_zbT (Q := fun V σ => True) hT (s_X2_copyFrom hN (hR.tr hT) rfl kq11) (fun _ h9 => absurd h9 List.not_mem_nil) (fun v12 σ13 hOσ13 hT hqv12 => ?_)
      have hW2 : WI 2 σ13.1 := WI.tr hOσ13 (by decide) (by decide) (by decide) hW2
      have hW28 : WI 28 σ13.1 := WI.tr hOσ13 (by decide) (by decide) (by decide) hW28
      have hW132 : WI 132 σ13.1 := WI.tr hOσ13 (by decide) (by decide) (by decide) hW132
      have hW158 : WI 158 σ13.1 := WI.tr hOσ13 (by decide) (by decide) (by decide) hW158
      have hW184 : WI 184 σ13.1 := WI.tr hOσ13 (by decide) (by decide) (by decide) hW184
      have hL : SI σ13.1 := SI.tr hOσ13 (by decide) (by decide) (by decide) (by decide) hL
      have hD : RD σ13.1 := RD.tr hOσ13 (by decide) (by decide) (by decide) (by decide) hD
      have hu : 2 ≤ (σ13.1 111 8).toInt ∧ (σ13.1 111 8).toInt ≤ 1600 := by rw [hOσ13.2 111 (by decide)] <;> exact hu
      have ht : 0 ≤ (σ13.1 0 1).toInt ∧ (σ13.1 0 1).toInt ≤ 600 := by rw [hOσ13.2 0 (by decide)] <;> exact ht
      refine ok_gR (v := 128) hT rfl (hR 0 17 rfl) ?_
      refine ok_gC rfl ?_
      refine ok_zbT (Q := fun V σ => True) hT (s_X2_keepWithout hN (hR.tr hT) rfl) (fun _ h9 => absurd h9 List.not_mem_nil) (fun v15 σ16 hOσ16 hT hqv15 => ?_)
      have hW2 : WI 2 σ16.1 := WI.tr hOσ16 (by decide) (by decide) (by decide) hW2
      have hW28 : WI 28 σ16.1 := WI.tr hOσ16 (by decide) (by decide) (by decide) hW28
      have hW132 : WI 132 σ16.1 := WI.tr hOσ16 (by decide) (by decide) (by decide) hW132
      have hW158 : WI 158 σ16.1 := WI.tr hOσ16 (by decide) (by decide) (by decide) hW158
      have hW184 : WI 184 σ16.1 := WI.tr hOσ16 (by decide) (by decide) (by decide) hW184
      have hL : SI σ16.1 := SI.tr hOσ16 (by decide) (by decide) (by decide) (by decide) hL
      have hD : RD σ16.1 := RD.tr hOσ16 (by decide) (by decide) (by decide) (by decide) hD
      have hu : 2 ≤ (σ16.1 111 8).toInt ∧ (σ16.1 111 8).toInt ≤ 1600 := by rw [hOσ16.2 111 (by decide)] <;> exact hu
      have ht : 0 ≤ (σ16.1 0 1).toInt ∧ (σ16.1 0 1).toInt ≤ 600 := by rw [hOσ16.2 0 (by decide)] <;> exact ht
      refine ok_gR (v := 28) hT rfl hNw ?_
      refine ok_gR (v := 33) hT rfl (hR 28 7 rfl) ?_
      obtain ⟨q20, eq20, kq20⟩ := arrF hR (k := 33) (i := x1) rfl (by first | omega | decide | (have q1 := hD.1; have q2 := hD.2.1; simp only [Int32.le_iff_toInt_le, Int32.lt_iff_toInt_lt, ti_add, ti_sub, ti_mul, Int32.reduceToInt] at *; omega)) (by first | omega | decide | (have q1 := hD.1; have q2 := hD.2.1; simp only [Int32.le_iff_toInt_le, Int32.lt_iff_toInt_lt, ti_add, ti_sub, ti_mul, Int32.reduceToInt] at *; omega))
      refine ok_aR (v := q20) hT rfl (by first | omega | decide | (have q1 := hD.1; have q2 := hD.2.1; simp only [Int32.le_iff_toInt_le, Int32.lt_iff_toInt_lt, ti_add, ti_sub, ti_mul, Int32.reduceToInt] at *; omega)) (by first | omega | decide | (have q1 := hD.1; have q2 := hD.2.1; simp only [Int32.le_iff_toInt_le, Int32.lt_iff_toInt_lt, ti_add, ti_sub, ti_mul, Int32.reduceToInt] at *; omega)) eq20 ?_
      refine ok_gC kq20 ?_
      refine ok_zbT (Q := fun V σ => True) hT (s_X2_tally hN (hR.tr hT) kq20) (fun _ h9 => absurd h9 List.not_mem_nil) (fun v21 σ22 hOσ22 hT hqv21 => ?_)
      have hW2 : WI 2 σ22.1 := WI.tr hOσ22 (by decide) (by decide) (by decide) hW2
      have hW28 : WI 28 σ22.1 := WI.tr hOσ22 (by decide) (by decide) (by decide) hW28
      have hW132 : WI 132 σ22.1 := WI.tr hOσ22 (by decide) (by decide) (by decide) hW132
      have hW158 : WI 158 σ22.1 := WI.tr hOσ22 (by decide) (by decide) (by decide) hW158
      have hW184 : WI 184 σ22.1 := WI.tr hOσ22 (by decide) (by decide) (by decide) hW184
      have hL : SI σ22.1 := SI.tr hOσ22 (by decide) (by decide) (by decide) (by decide) hL
      have hD : RD σ22.1 := RD.tr hOσ22 (by decide) (by decide) (by decide) (by decide) hD
      have hu : 2 ≤ (σ22.1 111 8).toInt ∧ (σ22.1 111 8).toInt ≤ 1600 := by rw [hOσ22.2 111 (by decide)] <;> exact hu
      have ht : 0 ≤ (σ22.1 0 1).toInt ∧ (σ22.1 0 1).toInt ≤ 600 := by rw [hOσ22.2 0 (by decide)] <;> exact ht
      refine ok_gR (v := 128) hT rfl (hR 0 17 rfl) ?_
      refine ok_gC rfl ?_
      refine ok_zbT (Q := fun V σ => True) hT (s_X2_tally hN (hR.tr hT) rfl) (fun _ h9 => absurd h9 List.not_mem_nil) (fun v24 σ25 hOσ25 hT hqv24 => ?_)
      have hW2 : WI 2 σ25.1 := WI.tr hOσ25 (by decide) (by decide) (by decide) hW2
      have hW28 : WI 28 σ25.1 := WI.tr hOσ25 (by decide) (by decide) (by decide) hW28
      have hW132 : WI 132 σ25.1 := WI.tr hOσ25 (by decide) (by decide) (by decide) hW132
      have hW158 : WI 158 σ25.1 := WI.tr hOσ25 (by decide) (by decide) (by decide) hW158
      have hW184 : WI 184 σ25.1 := WI.tr hOσ25 (by decide) (by decide) (by decide) hW184
      have hL : SI σ25.1 := SI.tr hOσ25 (by decide) (by decide) (by decide) (by decide) hL
      have hD : RD σ25.1 := RD.tr hOσ25 (by decide) (by decide) (by decide) (by decide) hD
      have hu : 2 ≤ (σ25.1 111 8).toInt ∧ (σ25.1 111 8).toInt ≤ 1600 := by rw [hOσ25.2 111 (by decide)] <;> exact hu
      have ht : 0 ≤ (σ25.1 0 1).toInt ∧ (σ25.1 0 1).toInt ≤ 600 := by rw [hOσ25.2 0 (by decide)] <;> exact ht
      exact ok_some ⟨hT, (show CF σ25.1 from by exact ⟨hW2, hW28, hW132, hW158, hW184, hL, hD, hu, ht⟩)⟩

set_option maxHeartbeats 4000000 in
set_option maxRecDepth 100000 in
theorem s_X11_alike_n28 {N : Nat} (hN : 1048576 ≤ N) {x1 : Int32} {x2 : Int32} {σ0 : zS}  (hR : RF σ0.2.2) (hNw : σ0.2.2 0 4 = 28) (hPw : σ0.2.2 0 5 = 2) (hC : CF σ0.1) : Ok (f_X11_alike N 0 x1 x2 σ0) (fun r => Tr [] σ0 r.2 ∧ (CF r.2.1)) := by
  have hT : Tr [] σ0 σ0 := Tr.rf
  obtain ⟨hW2, hW28, hW132, hW158, hW184, hL, hD, hu, ht⟩ := hC
  have hn := hW28.1
  have he := hW28.2.1
  have hD0 := hD
  have hL0 := hL
  have q10 := ti_one10 (x := σ0.1 28 0) hn.1 hn.2
  rw [f_X11_alike.eq_1]
  refine ok_gC rfl ?_
  refine ok_zbT (Q := fun V σ => (V = 0 ∨ V = 1) ∧ (¬ V = 0 → 0 ≤ x1.toInt ∧ x1.toInt ≤ 9)) hT (s_X11_isRegister_n28 hN (hR.tr hT) ((hT.1.1 0 4 (by decide)).trans hNw) (by first | exact hn | omega | (rw [hT.2 28 (by decide)]; exact hn))) (fun _ h9 => absurd h9 List.not_mem_nil) (fun v1 σ2 hOσ2 hT hqv1 => ?_)
  have hqv1 : (v1 = 0 ∨ v1 = 1) ∧ (¬ v1 = 0 → 0 ≤ x1.toInt ∧ x1.toInt ≤ 9) := hqv1
  have hW2 : WI 2 σ2.1 := WI.tr hOσ2 (by decide) (by decide) (by decide) hW2
  have hW28 : WI 28 σ2.1 := WI.tr hOσ2 (by decide) (by decide) (by decide) hW28
  have hW132 : WI 132 σ2.1 := WI.tr hOσ2 (by decide) (by decide) (by decide) hW132
  have hW158 : WI 158 σ2.1 := WI.tr hOσ2 (by decide) (by decide) (by decide) hW158
  have hW184 : WI 184 σ2.1 := WI.tr hOσ2 (by decide) (by decide) (by decide) hW184
  have hL : SI σ2.1 := SI.tr hOσ2 (by decide) (by decide) (by decide) (by decide) hL
  have hD : RD σ2.1 := RD.tr hOσ2 (by decide) (by decide) (by decide) (by decide) hD
  have hu : 2 ≤ (σ2.1 111 8).toInt ∧ (σ2.1 111 8).toInt ≤ 1600 := by rw [hOσ2.2 111 (by decide)] <;> exact hu
  have ht : 0 ≤ (σ2.1 0 1).toInt ∧ (σ2.1 0 1).toInt ≤ 600 := by rw [hOσ2.2 0 (by decide)] <;> exact ht
  refine ok_if (fun hc3 => ?_) (fun hc3 => ?_)
  · exact ok_some ⟨hT, (show CF σ2.1 from by exact ⟨hW2, hW28, hW132, hW158, hW184, hL, hD, hu, ht⟩)⟩
  · have qhc3 := hqv1.2 hc3
    refine ok_gC rfl ?_
    refine ok_zbT (Q := fun V σ => (V = 0 ∨ V = 1) ∧ (¬ V = 0 → 0 ≤ x2.toInt ∧ x2.toInt ≤ 9)) hT (s_X11_isRegister_n28 hN (hR.tr hT) ((hT.1.1 0 4 (by decide)).trans hNw) (by first | exact hn | omega | (rw [hT.2 28 (by decide)]; exact hn))) (fun _ h9 => absurd h9 List.not_mem_nil) (fun v4 σ5 hOσ5 hT hqv4 => ?_)
    have hqv4 : (v4 = 0 ∨ v4 = 1) ∧ (¬ v4 = 0 → 0 ≤ x2.toInt ∧ x2.toInt ≤ 9) := hqv4
    have hW2 : WI 2 σ5.1 := WI.tr hOσ5 (by decide) (by decide) (by decide) hW2
    have hW28 : WI 28 σ5.1 := WI.tr hOσ5 (by decide) (by decide) (by decide) hW28
    have hW132 : WI 132 σ5.1 := WI.tr hOσ5 (by decide) (by decide) (by decide) hW132
    have hW158 : WI 158 σ5.1 := WI.tr hOσ5 (by decide) (by decide) (by decide) hW158
    have hW184 : WI 184 σ5.1 := WI.tr hOσ5 (by decide) (by decide) (by decide) hW184
    have hL : SI σ5.1 := SI.tr hOσ5 (by decide) (by decide) (by decide) (by decide) hL
    have hD : RD σ5.1 := RD.tr hOσ5 (by decide) (by decide) (by decide) (by decide) hD
    have hu : 2 ≤ (σ5.1 111 8).toInt ∧ (σ5.1 111 8).toInt ≤ 1600 := by rw [hOσ5.2 111 (by decide)] <;> exact hu
    have ht : 0 ≤ (σ5.1 0 1).toInt ∧ (σ5.1 0 1).toInt ≤ 600 := by rw [hOσ5.2 0 (by decide)] <;> exact ht
    refine ok_if (fun hc6 => ?_) (fun hc6 => ?_)
    · exact ok_some ⟨hT, (show CF σ5.1 from by exact ⟨hW2, hW28, hW132, hW158, hW184, hL, hD, hu, ht⟩)⟩
    · have qhc6 := hqv4.2 hc6
      refine ok_gR (v := 28) hT rfl hNw ?_
      refine ok_gR (v := 33) hT rfl (hR 28 7 rfl) ?_
      obtain ⟨q10, eq10, kq10⟩ := arrF hR (k := 33) (i := x1) rfl (by first | omega | decide | (have q1 := hD.1; have q2 := hD.2.1; simp only [Int32.le_iff_toInt_le, Int32.lt_iff_toInt_lt, ti_add, ti_sub, ti_mul, Int32.reduceToInt] at *; omega)) (by first | omega | decide | (have q1 := hD.1; have q2 := hD.2.1; simp only [Int32.le_iff_toInt_le, Int32.lt_iff_toInt_lt, ti_add, ti_sub, ti_mul, Int32.reduceToInt] at *; omega))
      refine ok_aR (v := q10) hT rfl (by first | omega | decide | (have q1 := hD.1; have q2 := hD.2.1; simp only [Int32.le_iff_toInt_le, Int32.lt_iff_toInt_lt, ti_add, ti_sub, ti_mul, Int32.reduceToInt] at *; omega)) (by first | omega | decide | (have q1 := hD.1; have q2 := hD.2.1; simp only [Int32.le_iff_toInt_le, Int32.lt_iff_toInt_lt, ti_add, ti_sub, ti_mul, Int32.reduceToInt] at *; omega)) eq10 ?_
      refine ok_gR (v := 28) hT rfl hNw ?_
      refine ok_gR (v := 33) hT rfl (hR 28 7 rfl) ?_
      obtain ⟨q14, eq14, kq14⟩ := arrF hR (k := 33) (i := x2) rfl (by first | omega | decide | (have q1 := hD.1; have q2 := hD.2.1; simp only [Int32.le_iff_toInt_le, Int32.lt_iff_toInt_lt, ti_add, ti_sub, ti_mul, Int32.reduceToInt] at *; omega)) (by first | omega | decide | (have q1 := hD.1; have q2 := hD.2.1; simp only [Int32.le_iff_toInt_le, Int32.lt_iff_toInt_lt, ti_add, ti_sub, ti_mul, Int32.reduceToInt] at *; omega))
      refine ok_aR (v := q14) hT rfl (by first | omega | decide | (have q1 := hD.1; have q2 := hD.2.1; simp only [Int32.le_iff_toInt_le, Int32.lt_iff_toInt_lt, ti_add, ti_sub, ti_mul, Int32.reduceToInt] at *; omega)) (by first | omega | decide | (have q1 := hD.1; have q2 := hD.2.1; simp only [Int32.le_iff_toInt_le, Int32.lt_iff_toInt_lt, ti_add, ti_sub, ti_mul, Int32.reduceToInt] at *; omega)) eq14 ?_
      refine ok_gC kq10 ?_
      refine ok_zbT (Q := fun V σ => V = 0 ∨ V = 1) hT (s_X2_sameAs hN (hR.tr hT) kq10 kq14) (fun _ h9 => absurd h9 List.not_mem_nil) (fun v15 σ16 hOσ16 hT hqv15 => ?_)
      have hqv15 : v15 = 0 ∨ v15 = 1 := hqv15
      have hW2 : WI 2 σ16.1 := WI.tr hOσ16 (by decide) (by decide) (by decide) hW2
      have hW28 : WI 28 σ16.1 := WI.tr hOσ16 (by decide) (by decide) (by decide) hW28
      have hW132 : WI 132 σ16.1 := WI.tr hOσ16 (by decide) (by decide) (by decide) hW132
      have hW158 : WI 158 σ16.1 := WI.tr hOσ16 (by decide) (by decide) (by decide) hW158
      have hW184 : WI 184 σ16.1 := WI.tr hOσ16 (by decide) (by decide) (by decide) hW184
      have hL : SI σ16.1 := SI.tr hOσ16 (by decide) (by decide) (by decide) (by decide) hL
      have hD : RD σ16.1 := RD.tr hOσ16 (by decide) (by decide) (by decide) (by decide) hD
      have hu : 2 ≤ (σ16.1 111 8).toInt ∧ (σ16.1 111 8).toInt ≤ 1600 := by rw [hOσ16.2 111 (by decide)] <;> exact hu
      have ht : 0 ≤ (σ16.1 0 1).toInt ∧ (σ16.1 0 1).toInt ≤ 600 := by rw [hOσ16.2 0 (by decide)] <;> exact ht
      refine ok_if (fun hc17 => ?_) (fun hc17 => ?_)
      · exact ok_some ⟨hT, (show CF σ16.1 from by exact ⟨hW2, hW28, hW132, hW158, hW184, hL, hD, hu, ht⟩)⟩
      · exact ok_some ⟨hT, (show CF σ16.1 from by exact ⟨hW2, hW28, hW132, hW158, hW184, hL, hD, hu, ht⟩)⟩

set_option maxHeartbeats 4000000 in
set_option maxRecDepth 100000 in
theorem s_X11_differ_n28 {N : Nat} (hN : 1048576 ≤ N) {x1 : Int32} {x2 : Int32} {σ0 : zS}  (hR : RF σ0.2.2) (hNw : σ0.2.2 0 4 = 28) (hPw : σ0.2.2 0 5 = 2) (hC : CF σ0.1) : Ok (f_X11_differ N 0 x1 x2 σ0) (fun r => Tr [] σ0 r.2 ∧ (CF r.2.1)) := by
  have hT : Tr [] σ0 σ0 := Tr.rf
  obtain ⟨hW2, hW28, hW132, hW158, hW184, hL, hD, hu, ht⟩ := hC
  have hn := hW28.1
  have he := hW28.2.1
  have hD0 := hD
  have hL0 := hL
  have q10 := ti_one10 (x := σ0.1 28 0) hn.1 hn.2
  rw [f_X11_differ.eq_1]
  refine ok_gC rfl ?_
  refine ok_zbT (Q := fun V σ => (V = 0 ∨ V = 1) ∧ (¬ V = 0 → 0 ≤ x1.toInt ∧ x1.toInt ≤ 9)) hT (s_X11_isRegister_n28 hN (hR.tr hT) ((hT.1.1 0 4 (by decide)).trans hNw) (by first | exact hn | omega | (rw [hT.2 28 (by decide)]; exact hn))) (fun _ h9 => absurd h9 List.not_mem_nil) (fun v1 σ2 hOσ2 hT hqv1 => ?_)
  have hqv1 : (v1 = 0 ∨ v1 = 1) ∧ (¬ v1 = 0 → 0 ≤ x1.toInt ∧ x1.toInt ≤ 9) := hqv1
  have hW2 : WI 2 σ2.1 := WI.tr hOσ2 (by decide) (by decide) (by decide) hW2
  have hW28 : WI 28 σ2.1 := WI.tr hOσ2 (by decide) (by decide) (by decide) hW28
  have hW132 : WI 132 σ2.1 := WI.tr hOσ2 (by decide) (by decide) (by decide) hW132
  have hW158 : WI 158 σ2.1 := WI.tr hOσ2 (by decide) (by decide) (by decide) hW158
  have hW184 : WI 184 σ2.1 := WI.tr hOσ2 (by decide) (by decide) (by decide) hW184
  have hL : SI σ2.1 := SI.tr hOσ2 (by decide) (by decide) (by decide) (by decide) hL
  have hD : RD σ2.1 := RD.tr hOσ2 (by decide) (by decide) (by decide) (by decide) hD
  have hu : 2 ≤ (σ2.1 111 8).toInt ∧ (σ2.1 111 8).toInt ≤ 1600 := by rw [hOσ2.2 111 (by decide)] <;> exact hu
  have ht : 0 ≤ (σ2.1 0 1).toInt ∧ (σ2.1 0 1).toInt ≤ 600 := by rw [hOσ2.2 0 (by decide)] <;> exact ht
  refine ok_if (fun hc3 => ?_) (fun hc3 => ?_)
  · exact ok_some ⟨hT, (show CF σ2.1 from by exact ⟨hW2, hW28, hW132, hW158, hW184, hL, hD, hu, ht⟩)⟩
  · have qhc3 := hqv1.2 hc3
    refine ok_gC rfl ?_
    refine ok_zbT (Q := fun V σ => (V = 0 ∨ V = 1) ∧ (¬ V = 0 → 0 ≤ x2.toInt ∧ x2.toInt ≤ 9)) hT (s_X11_isRegister_n28 hN (hR.tr hT) ((hT.1.1 0 4 (by decide)).trans hNw) (by first | exact hn | omega | (rw [hT.2 28 (by decide)]; exact hn))) (fun _ h9 => absurd h9 List.not_mem_nil) (fun v4 σ5 hOσ5 hT hqv4 => ?_)
    have hqv4 : (v4 = 0 ∨ v4 = 1) ∧ (¬ v4 = 0 → 0 ≤ x2.toInt ∧ x2.toInt ≤ 9) := hqv4
    have hW2 : WI 2 σ5.1 := WI.tr hOσ5 (by decide) (by decide) (by decide) hW2
    have hW28 : WI 28 σ5.1 := WI.tr hOσ5 (by decide) (by decide) (by decide) hW28
    have hW132 : WI 132 σ5.1 := WI.tr hOσ5 (by decide) (by decide) (by decide) hW132
    have hW158 : WI 158 σ5.1 := WI.tr hOσ5 (by decide) (by decide) (by decide) hW158
    have hW184 : WI 184 σ5.1 := WI.tr hOσ5 (by decide) (by decide) (by decide) hW184
    have hL : SI σ5.1 := SI.tr hOσ5 (by decide) (by decide) (by decide) (by decide) hL
    have hD : RD σ5.1 := RD.tr hOσ5 (by decide) (by decide) (by decide) (by decide) hD
    have hu : 2 ≤ (σ5.1 111 8).toInt ∧ (σ5.1 111 8).toInt ≤ 1600 := by rw [hOσ5.2 111 (by decide)] <;> exact hu
    have ht : 0 ≤ (σ5.1 0 1).toInt ∧ (σ5.1 0 1).toInt ≤ 600 := by rw [hOσ5.2 0 (by decide)] <;> exact ht
    refine ok_if (fun hc6 => ?_) (fun hc6 => ?_)
    · exact ok_some ⟨hT, (show CF σ5.1 from by exact ⟨hW2, hW28, hW132, hW158, hW184, hL, hD, hu, ht⟩)⟩
    · have qhc6 := hqv4.2 hc6
      refine ok_gR (v := 128) hT rfl (hR 0 17 rfl) ?_
      refine ok_gR (v := 28) hT rfl hNw ?_
      refine ok_gR (v := 33) hT rfl (hR 28 7 rfl) ?_
      obtain ⟨q11, eq11, kq11⟩ := arrF hR (k := 33) (i := x1) rfl (by first | omega | decide | (have q1 := hD.1; have q2 := hD.2.1; simp only [Int32.le_iff_toInt_le, Int32.lt_iff_toInt_lt, ti_add, ti_sub, ti_mul, Int32.reduceToInt] at *; omega)) (by first | omega | decide | (have q1 := hD.1; have q2 := hD.2.1; simp only [Int32.le_iff_toInt_le, Int32.lt_iff_toInt_lt, ti_add, ti_sub, ti_mul, Int32.reduceToInt] at *; omega))
      refine ok_aR (v := q11) hT rfl (by first | omega | decide | (have q1 := hD.1; have q2 := hD.2.1; simp only [Int32.le_iff_toInt_le, Int32.lt_iff_toInt_lt, ti_add, ti_sub, ti_mul, Int32.reduceToInt] at *; omega)) (by first | omega | decide | (have q1 := hD.1; have q2 := hD.2.1; simp only [Int32.le_iff_toInt_le, Int32.lt_iff_toInt_lt, ti_add, ti_sub, ti_mul, Int32.reduceToInt] at *; omega)) eq11 ?_
      refine ok_gC rfl ?_
      refine ok_zbT (Q := fun V σ => True) hT (s_X2_copyFrom hN (hR.tr hT) rfl kq11) (fun _ h9 => absurd h9 List.not_mem_nil) (fun v12 σ13 hOσ13 hT hqv12 => ?_)
      have hW2 : WI 2 σ13.1 := WI.tr hOσ13 (by decide) (by decide) (by decide) hW2
      have hW28 : WI 28 σ13.1 := WI.tr hOσ13 (by decide) (by decide) (by decide) hW28
      have hW132 : WI 132 σ13.1 := WI.tr hOσ13 (by decide) (by decide) (by decide) hW132
      have hW158 : WI 158 σ13.1 := WI.tr hOσ13 (by decide) (by decide) (by decide) hW158
      have hW184 : WI 184 σ13.1 := WI.tr hOσ13 (by decide) (by decide) (by decide) hW184
      have hL : SI σ13.1 := SI.tr hOσ13 (by decide) (by decide) (by decide) (by decide) hL
      have hD : RD σ13.1 := RD.tr hOσ13 (by decide) (by decide) (by decide) (by decide) hD
      have hu : 2 ≤ (σ13.1 111 8).toInt ∧ (σ13.1 111 8).toInt ≤ 1600 := by rw [hOσ13.2 111 (by decide)] <;> exact hu
      have ht : 0 ≤ (σ13.1 0 1).toInt ∧ (σ13.1 0 1).toInt ≤ 600 := by rw [hOσ13.2 0 (by decide)] <;> exact ht
      refine ok_gR (v := 128) hT rfl (hR 0 17 rfl) ?_
      refine ok_gR (v := 28) hT rfl hNw ?_
      refine ok_gR (v := 33) hT rfl (hR 28 7 rfl) ?_
      obtain ⟨q18, eq18, kq18⟩ := arrF hR (k := 33) (i := x2) rfl (by first | omega | decide | (have q1 := hD.1; have q2 := hD.2.1; simp only [Int32.le_iff_toInt_le, Int32.lt_iff_toInt_lt, ti_add, ti_sub, ti_mul, Int32.reduceToInt] at *; omega)) (by first | omega | decide | (have q1 := hD.1; have q2 := hD.2.1; simp only [Int32.le_iff_toInt_le, Int32.lt_iff_toInt_lt, ti_add, ti_sub, ti_mul, Int32.reduceToInt] at *; omega))
      refine ok_aR (v := q18) hT rfl (by first | omega | decide | (have q1 := hD.1; have q2 := hD.2.1; simp only [Int32.le_iff_toInt_le, Int32.lt_iff_toInt_lt, ti_add, ti_sub, ti_mul, Int32.reduceToInt] at *; omega)) (by first | omega | decide | (have q1 := hD.1; have q2 := hD.2.1; simp only [Int32.le_iff_toInt_le, Int32.lt_iff_toInt_lt, ti_add, ti_sub, ti_mul, Int32.reduceToInt] at *; omega)) eq18 ?_
      refine ok_gC rfl ?_
      refine ok_zbT (Q := fun V σ => True) hT (s_X2_takeAway hN (hR.tr hT) rfl kq18) (fun _ h9 => absurd h9 List.not_mem_nil) (fun v19 σ20 hOσ20 hT hqv19 => ?_)
      have hW2 : WI 2 σ20.1 := WI.tr hOσ20 (by decide) (by decide) (by decide) hW2
      have hW28 : WI 28 σ20.1 := WI.tr hOσ20 (by decide) (by decide) (by decide) hW28
      have hW132 : WI 132 σ20.1 := WI.tr hOσ20 (by decide) (by decide) (by decide) hW132
      have hW158 : WI 158 σ20.1 := WI.tr hOσ20 (by decide) (by decide) (by decide) hW158
      have hW184 : WI 184 σ20.1 := WI.tr hOσ20 (by decide) (by decide) (by decide) hW184
      have hL : SI σ20.1 := SI.tr hOσ20 (by decide) (by decide) (by decide) (by decide) hL
      have hD : RD σ20.1 := RD.tr hOσ20 (by decide) (by decide) (by decide) (by decide) hD
      have hu : 2 ≤ (σ20.1 111 8).toInt ∧ (σ20.1 111 8).toInt ≤ 1600 := by rw [hOσ20.2 111 (by decide)] <;> exact hu
      have ht : 0 ≤ (σ20.1 0 1).toInt ∧ (σ20.1 0 1).toInt ≤ 600 := by rw [hOσ20.2 0 (by decide)] <;> exact ht
      refine ok_gR (v := 130) hT rfl (hR 0 18 rfl) ?_
      refine ok_gR (v := 28) hT rfl hNw ?_
      refine ok_gR (v := 33) hT rfl (hR 28 7 rfl) ?_
      obtain ⟨q25, eq25, kq25⟩ := arrF hR (k := 33) (i := x2) rfl (by first | omega | decide | (have q1 := hD.1; have q2 := hD.2.1; simp only [Int32.le_iff_toInt_le, Int32.lt_iff_toInt_lt, ti_add, ti_sub, ti_mul, Int32.reduceToInt] at *; omega)) (by first | omega | decide | (have q1 := hD.1; have q2 := hD.2.1; simp only [Int32.le_iff_toInt_le, Int32.lt_iff_toInt_lt, ti_add, ti_sub, ti_mul, Int32.reduceToInt] at *; omega))
      refine ok_aR (v := q25) hT rfl (by first | omega | decide | (have q1 := hD.1; have q2 := hD.2.1; simp only [Int32.le_iff_toInt_le, Int32.lt_iff_toInt_lt, ti_add, ti_sub, ti_mul, Int32.reduceToInt] at *; omega)) (by first | omega | decide | (have q1 := hD.1; have q2 := hD.2.1; simp only [Int32.le_iff_toInt_le, Int32.lt_iff_toInt_lt, ti_add, ti_sub, ti_mul, Int32.reduceToInt] at *; omega)) eq25 ?_
      refine ok_gC rfl ?_
      refine ok_zbT (Q := fun V σ => True) hT (s_X2_copyFrom hN (hR.tr hT) rfl kq25) (fun _ h9 => absurd h9 List.not_mem_nil) (fun v26 σ27 hOσ27 hT hqv26 => ?_)
      have hW2 : WI 2 σ27.1 := WI.tr hOσ27 (by decide) (by decide) (by decide) hW2
      have hW28 : WI 28 σ27.1 := WI.tr hOσ27 (by decide) (by decide) (by decide) hW28
      have hW132 : WI 132 σ27.1 := WI.tr hOσ27 (by decide) (by decide) (by decide) hW132
      have hW158 : WI 158 σ27.1 := WI.tr hOσ27 (by decide) (by decide) (by decide) hW158
      have hW184 : WI 184 σ27.1 := WI.tr hOσ27 (by decide) (by decide) (by decide) hW184
      have hL : SI σ27.1 := SI.tr hOσ27 (by decide) (by decide) (by decide) (by decide) hL
      have hD : RD σ27.1 := RD.tr hOσ27 (by decide) (by decide) (by decide) (by decide) hD
      have hu : 2 ≤ (σ27.1 111 8).toInt ∧ (σ27.1 111 8).toInt ≤ 1600 := by rw [hOσ27.2 111 (by decide)] <;> exact hu
      have ht : 0 ≤ (σ27.1 0 1).toInt ∧ (σ27.1 0 1).toInt ≤ 600 := by rw [hOσ27.2 0 (by decide)] <;> exact ht
      refine ok_gR (v := 130) hT rfl (hR 0 18 rfl) ?_
      refine ok_gR (v := 28) hT rfl hNw ?_
      refine ok_gR (v := 33) hT rfl (hR 28 7 rfl) ?_
      obtain ⟨q32, eq32, kq32⟩ := arrF hR (k := 33) (i := x1) rfl (by first | omega | decide | (have q1 := hD.1; have q2 := hD.2.1; simp only [Int32.le_iff_toInt_le, Int32.lt_iff_toInt_lt, ti_add, ti_sub, ti_mul, Int32.reduceToInt] at *; omega)) (by first | omega | decide | (have q1 := hD.1; have q2 := hD.2.1; simp only [Int32.le_iff_toInt_le, Int32.lt_iff_toInt_lt, ti_add, ti_sub, ti_mul, Int32.reduceToInt] at *; omega))
      refine ok_aR (v := q32) hT rfl (by first | omega | decide | (have q1 := hD.1; have q2 := hD.2.1; simp only [Int32.le_iff_toInt_le, Int32.lt_iff_toInt_lt, ti_add, ti_sub, ti_mul, Int32.reduceToInt] at *; omega)) (by first | omega | decide | (have q1 := hD.1; have q2 := hD.2.1; simp only [Int32.le_iff_toInt_le, Int32.lt_iff_toInt_lt, ti_add, ti_sub, ti_mul, Int32.reduceToInt] at *; omega)) eq32 ?_
      refine ok_gC rfl ?_
      refine ok_zbT (Q := fun V σ => True) hT (s_X2_takeAway hN (hR.tr hT) rfl kq32) (fun _ h9 => absurd h9 List.not_mem_nil) (fun v33 σ34 hOσ34 hT hqv33 => ?_)
      have hW2 : WI 2 σ34.1 := WI.tr hOσ34 (by decide) (by decide) (by decide) hW2
      have hW28 : WI 28 σ34.1 := WI.tr hOσ34 (by decide) (by decide) (by decide) hW28
      have hW132 : WI 132 σ34.1 := WI.tr hOσ34 (by decide) (by decide) (by decide) hW132
      have hW158 : WI 158 σ34.1 := WI.tr hOσ34 (by decide) (by decide) (by decide) hW158
      have hW184 : WI 184 σ34.1 := WI.tr hOσ34 (by decide) (by decide) (by decide) hW184
      have hL : SI σ34.1 := SI.tr hOσ34 (by decide) (by decide) (by decide) (by decide) hL
      have hD : RD σ34.1 := RD.tr hOσ34 (by decide) (by decide) (by decide) (by decide) hD
      have hu : 2 ≤ (σ34.1 111 8).toInt ∧ (σ34.1 111 8).toInt ≤ 1600 := by rw [hOσ34.2 111 (by decide)] <;> exact hu
      have ht : 0 ≤ (σ34.1 0 1).toInt ∧ (σ34.1 0 1).toInt ≤ 600 := by rw [hOσ34.2 0 (by decide)] <;> exact ht
      refine ok_gR (v := 128) hT rfl (hR 0 17 rfl) ?_
      refine ok_gR (v := 130) hT rfl (hR 0 18 rfl) ?_
      refine ok_gC rfl ?_
      refine ok_zbT (Q := fun V σ => True) hT (s_X2_join hN (hR.tr hT) rfl rfl) (fun _ h9 => absurd h9 List.not_mem_nil) (fun v37 σ38 hOσ38 hT hqv37 => ?_)
      have hW2 : WI 2 σ38.1 := WI.tr hOσ38 (by decide) (by decide) (by decide) hW2
      have hW28 : WI 28 σ38.1 := WI.tr hOσ38 (by decide) (by decide) (by decide) hW28
      have hW132 : WI 132 σ38.1 := WI.tr hOσ38 (by decide) (by decide) (by decide) hW132
      have hW158 : WI 158 σ38.1 := WI.tr hOσ38 (by decide) (by decide) (by decide) hW158
      have hW184 : WI 184 σ38.1 := WI.tr hOσ38 (by decide) (by decide) (by decide) hW184
      have hL : SI σ38.1 := SI.tr hOσ38 (by decide) (by decide) (by decide) (by decide) hL
      have hD : RD σ38.1 := RD.tr hOσ38 (by decide) (by decide) (by decide) (by decide) hD
      have hu : 2 ≤ (σ38.1 111 8).toInt ∧ (σ38.1 111 8).toInt ≤ 1600 := by rw [hOσ38.2 111 (by decide)] <;> exact hu
      have ht : 0 ≤ (σ38.1 0 1).toInt ∧ (σ38.1 0 1).toInt ≤ 600 := by rw [hOσ38.2 0 (by decide)] <;> exact ht
      refine ok_gR (v := 128) hT rfl (hR 0 17 rfl) ?_
      refine ok_gC rfl ?_
      refine ok_zbT (Q := fun V σ => True) hT (s_X2_pick hN (hR.tr hT) rfl) (fun _ h9 => absurd h9 List.not_mem_nil) (fun v40 σ41 hOσ41 hT hqv40 => ?_)
      have hW2 : WI 2 σ41.1 := WI.tr hOσ41 (by decide) (by decide) (by decide) hW2
      have hW28 : WI 28 σ41.1 := WI.tr hOσ41 (by decide) (by decide) (by decide) hW28
      have hW132 : WI 132 σ41.1 := WI.tr hOσ41 (by decide) (by decide) (by decide) hW132
      have hW158 : WI 158 σ41.1 := WI.tr hOσ41 (by decide) (by decide) (by decide) hW158
      have hW184 : WI 184 σ41.1 := WI.tr hOσ41 (by decide) (by decide) (by decide) hW184
      have hL : SI σ41.1 := SI.tr hOσ41 (by decide) (by decide) (by decide) (by decide) hL
      have hD : RD σ41.1 := RD.tr hOσ41 (by decide) (by decide) (by decide) (by decide) hD
      have hu : 2 ≤ (σ41.1 111 8).toInt ∧ (σ41.1 111 8).toInt ≤ 1600 := by rw [hOσ41.2 111 (by decide)] <;> exact hu
      have ht : 0 ≤ (σ41.1 0 1).toInt ∧ (σ41.1 0 1).toInt ≤ 600 := by rw [hOσ41.2 0 (by decide)] <;> exact ht
      exact ok_some ⟨hT, (show CF σ41.1 from by exact ⟨hW2, hW28, hW132, hW158, hW184, hL, hD, hu, ht⟩)⟩

set_option maxHeartbeats 4000000 in
set_option maxRecDepth 100000 in
theorem s_X11_within_n28 {N : Nat} (hN : 1048576 ≤ N) {x1 : Int32} {x2 : Int32} {σ0 : zS}  (hR : RF σ0.2.2) (hNw : σ0.2.2 0 4 = 28) (hPw : σ0.2.2 0 5 = 2) (hC : CF σ0.1) : Ok (f_X11_within N 0 x1 x2 σ0) (fun r => Tr [] σ0 r.2 ∧ (CF r.2.1)) := by
  have hT : Tr [] σ0 σ0 := Tr.rf
  obtain ⟨hW2, hW28, hW132, hW158, hW184, hL, hD, hu, ht⟩ := hC
  have hn := hW28.1
  have he := hW28.2.1
  have hD0 := hD
  have hL0 := hL
  have q10 := ti_one10 (x := σ0.1 28 0) hn.1 hn.2
  rw [f_X11_within.eq_1]
  refine ok_gC rfl ?_
  refine ok_zbT (Q := fun V σ => (V = 0 ∨ V = 1) ∧ (¬ V = 0 → 0 ≤ x1.toInt ∧ x1.toInt ≤ 9)) hT (s_X11_isRegister_n28 hN (hR.tr hT) ((hT.1.1 0 4 (by decide)).trans hNw) (by first | exact hn | omega | (rw [hT.2 28 (by decide)]; exact hn))) (fun _ h9 => absurd h9 List.not_mem_nil) (fun v1 σ2 hOσ2 hT hqv1 => ?_)
  have hqv1 : (v1 = 0 ∨ v1 = 1) ∧ (¬ v1 = 0 → 0 ≤ x1.toInt ∧ x1.toInt ≤ 9) := hqv1
  have hW2 : WI 2 σ2.1 := WI.tr hOσ2 (by decide) (by decide) (by decide) hW2
  have hW28 : WI 28 σ2.1 := WI.tr hOσ2 (by decide) (by decide) (by decide) hW28
  have hW132 : WI 132 σ2.1 := WI.tr hOσ2 (by decide) (by decide) (by decide) hW132
  have hW158 : WI 158 σ2.1 := WI.tr hOσ2 (by decide) (by decide) (by decide) hW158
  have hW184 : WI 184 σ2.1 := WI.tr hOσ2 (by decide) (by decide) (by decide) hW184
  have hL : SI σ2.1 := SI.tr hOσ2 (by decide) (by decide) (by decide) (by decide) hL
  have hD : RD σ2.1 := RD.tr hOσ2 (by decide) (by decide) (by decide) (by decide) hD
  have hu : 2 ≤ (σ2.1 111 8).toInt ∧ (σ2.1 111 8).toInt ≤ 1600 := by rw [hOσ2.2 111 (by decide)] <;> exact hu
  have ht : 0 ≤ (σ2.1 0 1).toInt ∧ (σ2.1 0 1).toInt ≤ 600 := by rw [hOσ2.2 0 (by decide)] <;> exact ht
  refine ok_if (fun hc3 => ?_) (fun hc3 => ?_)
  · exact ok_some ⟨hT, (show CF σ2.1 from by exact ⟨hW2, hW28, hW132, hW158, hW184, hL, hD, hu, ht⟩)⟩
  · have qhc3 := hqv1.2 hc3
    refine ok_gC rfl ?_
    refine ok_zbT (Q := fun V σ => (V = 0 ∨ V = 1) ∧ (¬ V = 0 → 0 ≤ x2.toInt ∧ x2.toInt ≤ 9)) hT (s_X11_isRegister_n28 hN (hR.tr hT) ((hT.1.1 0 4 (by decide)).trans hNw) (by first | exact hn | omega | (rw [hT.2 28 (by decide)]; exact hn))) (fun _ h9 => absurd h9 List.not_mem_nil) (fun v4 σ5 hOσ5 hT hqv4 => ?_)
    have hqv4 : (v4 = 0 ∨ v4 = 1) ∧ (¬ v4 = 0 → 0 ≤ x2.toInt ∧ x2.toInt ≤ 9) := hqv4
    have hW2 : WI 2 σ5.1 := WI.tr hOσ5 (by decide) (by decide) (by decide) hW2
    have hW28 : WI 28 σ5.1 := WI.tr hOσ5 (by decide) (by decide) (by decide) hW28
    have hW132 : WI 132 σ5.1 := WI.tr hOσ5 (by decide) (by decide) (by decide) hW132
    have hW158 : WI 158 σ5.1 := WI.tr hOσ5 (by decide) (by decide) (by decide) hW158
    have hW184 : WI 184 σ5.1 := WI.tr hOσ5 (by decide) (by decide) (by decide) hW184
    have hL : SI σ5.1 := SI.tr hOσ5 (by decide) (by decide) (by decide) (by decide) hL
    have hD : RD σ5.1 := RD.tr hOσ5 (by decide) (by decide) (by decide) (by decide) hD
    have hu : 2 ≤ (σ5.1 111 8).toInt ∧ (σ5.1 111 8).toInt ≤ 1600 := by rw [hOσ5.2 111 (by decide)] <;> exact hu
    have ht : 0 ≤ (σ5.1 0 1).toInt ∧ (σ5.1 0 1).toInt ≤ 600 := by rw [hOσ5.2 0 (by decide)] <;> exact ht
    refine ok_if (fun hc6 => ?_) (fun hc6 => ?_)
    · exact ok_some ⟨hT, (show CF σ5.1 from by exact ⟨hW2, hW28, hW132, hW158, hW184, hL, hD, hu, ht⟩)⟩
    · have qhc6 := hqv4.2 hc6
      refine ok_gR (v := 128) hT rfl (hR 0 17 rfl) ?_
      refine ok_gR (v := 28) hT rfl hNw ?_
      refine ok_gR (v := 33) hT rfl (hR 28 7 rfl) ?_
      obtain ⟨q11, eq11, kq11⟩ := arrF hR (k := 33) (i := x1) rfl (by first | omega | decide | (have q1 := hD.1; have q2 := hD.2.1; simp only [Int32.le_iff_toInt_le, Int32.lt_iff_toInt_lt, ti_add, ti_sub, ti_mul, Int32.reduceToInt] at *; omega)) (by first | omega | decide | (have q1 := hD.1; have q2 := hD.2.1; simp only [Int32.le_iff_toInt_le, Int32.lt_iff_toInt_lt, ti_add, ti_sub, ti_mul, Int32.reduceToInt] at *; omega))
      refine ok_aR (v := q11) hT rfl (by first | omega | decide | (have q1 := hD.1; have q2 := hD.2.1; simp only [Int32.le_iff_toInt_le, Int32.lt_iff_toInt_lt, ti_add, ti_sub, ti_mul, Int32.reduceToInt] at *; omega)) (by first | omega | decide | (have q1 := hD.1; have q2 := hD.2.1; simp only [Int32.le_iff_toInt_le, Int32.lt_iff_toInt_lt, ti_add, ti_sub, ti_mul, Int32.reduceToInt] at *; omega)) eq11 ?_
      refine ok_gC rfl ?_
      refine ok_zbT (Q := fun V σ => True) hT (s_X2_copyFrom hN (hR.tr hT) rfl kq11) (fun _ h9 => absurd h9 List.not_mem_nil) (fun v12 σ13 hOσ13 hT hqv12 => ?_)
      have hW2 : WI 2 σ13.1 := WI.tr hOσ13 (by decide) (by decide) (by decide) hW2
      have hW28 : WI 28 σ13.1 := WI.tr hOσ13 (by decide) (by decide) (by decide) hW28
      have hW132 : WI 132 σ13.1 := WI.tr hOσ13 (by decide) (by decide) (by decide) hW132
      have hW158 : WI 158 σ13.1 := WI.tr hOσ13 (by decide) (by decide) (by decide) hW158
      have hW184 : WI 184 σ13.1 := WI.tr hOσ13 (by decide) (by decide) (by decide) hW184
      have hL : SI σ13.1 := SI.tr hOσ13 (by decide) (by decide) (by decide) (by decide) hL
      have hD : RD σ13.1 := RD.tr hOσ13 (by decide) (by decide) (by decide) (by decide) hD
      have hu : 2 ≤ (σ13.1 111 8).toInt ∧ (σ13.1 111 8).toInt ≤ 1600 := by rw [hOσ13.2 111 (by decide)] <;> exact hu
      have ht : 0 ≤ (σ13.1 0 1).toInt ∧ (σ13.1 0 1).toInt ≤ 600 := by rw [hOσ13.2 0 (by decide)] <;> exact ht
      refine ok_gR (v := 128) hT rfl (hR 0 17 rfl) ?_
      refine ok_gR (v := 28) hT rfl hNw ?_
      refine ok_gR (v := 33) hT rfl (hR 28 7 rfl) ?_
      obtain ⟨q18, eq18, kq18⟩ := arrF hR (k := 33) (i := x2) rfl (by first | omega | decide | (have q1 := hD.1; have q2 := hD.2.1; simp only [Int32.le_iff_toInt_le, Int32.lt_iff_toInt_lt, ti_add, ti_sub, ti_mul, Int32.reduceToInt] at *; omega)) (by first | omega | decide | (have q1 := hD.1; have q2 := hD.2.1; simp only [Int32.le_iff_toInt_le, Int32.lt_iff_toInt_lt, ti_add, ti_sub, ti_mul, Int32.reduceToInt] at *; omega))
      refine ok_aR (v := q18) hT rfl (by first | omega | decide | (have q1 := hD.1; have q2 := hD.2.1; simp only [Int32.le_iff_toInt_le, Int32.lt_iff_toInt_lt, ti_add, ti_sub, ti_mul, Int32.reduceToInt] at *; omega)) (by first | omega | decide | (have q1 := hD.1; have q2 := hD.2.1; simp only [Int32.le_iff_toInt_le, Int32.lt_iff_toInt_lt, ti_add, ti_sub, ti_mul, Int32.reduceToInt] at *; omega)) eq18 ?_
      refine ok_gC rfl ?_
      refine ok_zbT (Q := fun V σ => True) hT (s_X2_takeAway hN (hR.tr hT) rfl kq18) (fun _ h9 => absurd h9 List.not_mem_nil) (fun v19 σ20 hOσ20 hT hqv19 => ?_)
      have hW2 : WI 2 σ20.1 := WI.tr hOσ20 (by decide) (by decide) (by decide) hW2
      have hW28 : WI 28 σ20.1 := WI.tr hOσ20 (by decide) (by decide) (by decide) hW28
      have hW132 : WI 132 σ20.1 := WI.tr hOσ20 (by decide) (by decide) (by decide) hW132
      have hW158 : WI 158 σ20.1 := WI.tr hOσ20 (by decide) (by decide) (by decide) hW158
      have hW184 : WI 184 σ20.1 := WI.tr hOσ20 (by decide) (by decide) (by decide) hW184
      have hL : SI σ20.1 := SI.tr hOσ20 (by decide) (by decide) (by decide) (by decide) hL
      have hD : RD σ20.1 := RD.tr hOσ20 (by decide) (by decide) (by decide) (by decide) hD
      have hu : 2 ≤ (σ20.1 111 8).toInt ∧ (σ20.1 111 8).toInt ≤ 1600 := by rw [hOσ20.2 111 (by decide)] <;> exact hu
      have ht : 0 ≤ (σ20.1 0 1).toInt ∧ (σ20.1 0 1).toInt ≤ 600 := by rw [hOσ20.2 0 (by decide)] <;> exact ht
      refine ok_gR (v := 128) hT rfl (hR 0 17 rfl) ?_
      refine ok_gC rfl ?_
      refine ok_zbT (Q := fun V σ => V = 0 ∨ V = 1) hT (s_X2_isEmpty hN (hR.tr hT) rfl) (fun _ h9 => absurd h9 List.not_mem_nil) (fun v22 σ23 hOσ23 hT hqv22 => ?_)
      have hqv22 : v22 = 0 ∨ v22 = 1 := hqv22
      have hW2 : WI 2 σ23.1 := WI.tr hOσ23 (by decide) (by decide) (by decide) hW2
      have hW28 : WI 28 σ23.1 := WI.tr hOσ23 (by decide) (by decide) (by decide) hW28
      have hW132 : WI 132 σ23.1 := WI.tr hOσ23 (by decide) (by decide) (by decide) hW132
      have hW158 : WI 158 σ23.1 := WI.tr hOσ23 (by decide) (by decide) (by decide) hW158
      have hW184 : WI 184 σ23.1 := WI.tr hOσ23 (by decide) (by decide) (by decide) hW184
      have hL : SI σ23.1 := SI.tr hOσ23 (by decide) (by decide) (by decide) (by decide) hL
      have hD : RD σ23.1 := RD.tr hOσ23 (by decide) (by decide) (by decide) (by decide) hD
      have hu : 2 ≤ (σ23.1 111 8).toInt ∧ (σ23.1 111 8).toInt ≤ 1600 := by rw [hOσ23.2 111 (by decide)] <;> exact hu
      have ht : 0 ≤ (σ23.1 0 1).toInt ∧ (σ23.1 0 1).toInt ≤ 600 := by rw [hOσ23.2 0 (by decide)] <;> exact ht
      refine ok_if (fun hc24 => ?_) (fun hc24 => ?_)
      · exact ok_some ⟨hT, (show CF σ23.1 from by exact ⟨hW2, hW28, hW132, hW158, hW184, hL, hD, hu, ht⟩)⟩
      · exact ok_some ⟨hT, (show CF σ23.1 from by exact ⟨hW2, hW28, hW132, hW158, hW184, hL, hD, hu, ht⟩)⟩

set_option maxHeartbeats 4000000 in
set_option maxRecDepth 100000 in
theorem s_X11_dual_n28 {N : Nat} (hN : 1048576 ≤ N) {x1 : Int32} {x2 : Int32} {σ0 : zS}  (hR : RF σ0.2.2) (hNw : σ0.2.2 0 4 = 28) (hPw : σ0.2.2 0 5 = 2) (hC : CF σ0.1) : Ok (f_X11_dual N 0 x1 x2 σ0) (fun r => Tr [] σ0 r.2 ∧ (CF r.2.1)) := by
  have hT : Tr [] σ0 σ0 := Tr.rf
  obtain ⟨hW2, hW28, hW132, hW158, hW184, hL, hD, hu, ht⟩ := hC
  have hn := hW28.1
  have he := hW28.2.1
  have hD0 := hD
  have hL0 := hL
  have q10 := ti_one10 (x := σ0.1 28 0) hn.1 hn.2
  rw [f_X11_dual.eq_1]
  refine ok_gC rfl ?_
  refine ok_zbT (Q := fun V σ => (V = 0 ∨ V = 1) ∧ (¬ V = 0 → 0 ≤ x1.toInt ∧ x1.toInt ≤ 9)) hT (s_X11_isRegister_n28 hN (hR.tr hT) ((hT.1.1 0 4 (by decide)).trans hNw) (by first | exact hn | omega | (rw [hT.2 28 (by decide)]; exact hn))) (fun _ h9 => absurd h9 List.not_mem_nil) (fun v1 σ2 hOσ2 hT hqv1 => ?_)
  have hqv1 : (v1 = 0 ∨ v1 = 1) ∧ (¬ v1 = 0 → 0 ≤ x1.toInt ∧ x1.toInt ≤ 9) := hqv1
  have hW2 : WI 2 σ2.1 := WI.tr hOσ2 (by decide) (by decide) (by decide) hW2
  have hW28 : WI 28 σ2.1 := WI.tr hOσ2 (by decide) (by decide) (by decide) hW28
  have hW132 : WI 132 σ2.1 := WI.tr hOσ2 (by decide) (by decide) (by decide) hW132
  have hW158 : WI 158 σ2.1 := WI.tr hOσ2 (by decide) (by decide) (by decide) hW158
  have hW184 : WI 184 σ2.1 := WI.tr hOσ2 (by decide) (by decide) (by decide) hW184
  have hL : SI σ2.1 := SI.tr hOσ2 (by decide) (by decide) (by decide) (by decide) hL
  have hD : RD σ2.1 := RD.tr hOσ2 (by decide) (by decide) (by decide) (by decide) hD
  have hu : 2 ≤ (σ2.1 111 8).toInt ∧ (σ2.1 111 8).toInt ≤ 1600 := by rw [hOσ2.2 111 (by decide)] <;> exact hu
  have ht : 0 ≤ (σ2.1 0 1).toInt ∧ (σ2.1 0 1).toInt ≤ 600 := by rw [hOσ2.2 0 (by decide)] <;> exact ht
  refine ok_if (fun hc3 => ?_) (fun hc3 => ?_)
  · exact ok_some ⟨hT, (show CF σ2.1 from by exact ⟨hW2, hW28, hW132, hW158, hW184, hL, hD, hu, ht⟩)⟩
  · have qhc3 := hqv1.2 hc3
    refine ok_gC rfl ?_
    refine ok_zbT (Q := fun V σ => (V = 0 ∨ V = 1) ∧ (¬ V = 0 → 0 ≤ x2.toInt ∧ x2.toInt ≤ 9)) hT (s_X11_isRegister_n28 hN (hR.tr hT) ((hT.1.1 0 4 (by decide)).trans hNw) (by first | exact hn | omega | (rw [hT.2 28 (by decide)]; exact hn))) (fun _ h9 => absurd h9 List.not_mem_nil) (fun v4 σ5 hOσ5 hT hqv4 => ?_)
    have hqv4 : (v4 = 0 ∨ v4 = 1) ∧ (¬ v4 = 0 → 0 ≤ x2.toInt ∧ x2.toInt ≤ 9) := hqv4
    have hW2 : WI 2 σ5.1 := WI.tr hOσ5 (by decide) (by decide) (by decide) hW2
    have hW28 : WI 28 σ5.1 := WI.tr hOσ5 (by decide) (by decide) (by decide) hW28
    have hW132 : WI 132 σ5.1 := WI.tr hOσ5 (by decide) (by decide) (by decide) hW132
    have hW158 : WI 158 σ5.1 := WI.tr hOσ5 (by decide) (by decide) (by decide) hW158
    have hW184 : WI 184 σ5.1 := WI.tr hOσ5 (by decide) (by decide) (by decide) hW184
    have hL : SI σ5.1 := SI.tr hOσ5 (by decide) (by decide) (by decide) (by decide) hL
    have hD : RD σ5.1 := RD.tr hOσ5 (by decide) (by decide) (by decide) (by decide) hD
    have hu : 2 ≤ (σ5.1 111 8).toInt ∧ (σ5.1 111 8).toInt ≤ 1600 := by rw [hOσ5.2 111 (by decide)] <;> exact hu
    have ht : 0 ≤ (σ5.1 0 1).toInt ∧ (σ5.1 0 1).toInt ≤ 600 := by rw [hOσ5.2 0 (by decide)] <;> exact ht
    refine ok_if (fun hc6 => ?_) (fun hc6 => ?_)
    · exact ok_some ⟨hT, (show CF σ5.1 from by exact ⟨hW2, hW28, hW132, hW158, hW184, hL, hD, hu, ht⟩)⟩
    · have qhc6 := hqv4.2 hc6
      refine ok_gR (v := 128) hT rfl (hR 0 17 rfl) ?_
      refine ok_gR (v := 28) hT rfl hNw ?_
      refine ok_gR (v := 33) hT rfl (hR 28 7 rfl) ?_
      obtain ⟨q11, eq11, kq11⟩ := arrF hR (k := 33) (i := x2) rfl (by first | omega | decide | (have q1 := hD.1; have q2 := hD.2.1; simp only [Int32.le_iff_toInt_le, Int32.lt_iff_toInt_lt, ti_add, ti_sub, ti_mul, Int32.reduceToInt] at *; omega)) (by first | omega | decide | (have q1 := hD.1; have q2 := hD.2.1; simp only [Int32.le_iff_toInt_le, Int32.lt_iff_toInt_lt, ti_add, ti_sub, ti_mul, Int32.reduceToInt] at *; omega))
      refine ok_aR (v := q11) hT rfl (by first | omega | decide | (have q1 := hD.1; have q2 := hD.2.1; simp only [Int32.le_iff_toInt_le, Int32.lt_iff_toInt_lt, ti_add, ti_sub, ti_mul, Int32.reduceToInt] at *; omega)) (by first | omega | decide | (have q1 := hD.1; have q2 := hD.2.1; simp only [Int32.le_iff_toInt_le, Int32.lt_iff_toInt_lt, ti_add, ti_sub, ti_mul, Int32.reduceToInt] at *; omega)) eq11 ?_
      refine ok_gC rfl ?_
      refine ok_zbT (Q := fun V σ => True) hT (s_X2_copyFrom hN (hR.tr hT) rfl kq11) (fun _ h9 => absurd h9 List.not_mem_nil) (fun v12 σ13 hOσ13 hT hqv12 => ?_)
      have hW2 : WI 2 σ13.1 := WI.tr hOσ13 (by decide) (by decide) (by decide) hW2
      have hW28 : WI 28 σ13.1 := WI.tr hOσ13 (by decide) (by decide) (by decide) hW28
      have hW132 : WI 132 σ13.1 := WI.tr hOσ13 (by decide) (by decide) (by decide) hW132
      have hW158 : WI 158 σ13.1 := WI.tr hOσ13 (by decide) (by decide) (by decide) hW158
      have hW184 : WI 184 σ13.1 := WI.tr hOσ13 (by decide) (by decide) (by decide) hW184
      have hL : SI σ13.1 := SI.tr hOσ13 (by decide) (by decide) (by decide) (by decide) hL
      have hD : RD σ13.1 := RD.tr hOσ13 (by decide) (by decide) (by decide) (by decide) hD
      have hu : 2 ≤ (σ13.1 111 8).toInt ∧ (σ13.1 111 8).toInt ≤ 1600 := by rw [hOσ13.2 111 (by decide)] <;> exact hu
      have ht : 0 ≤ (σ13.1 0 1).toInt ∧ (σ13.1 0 1).toInt ≤ 600 := by rw [hOσ13.2 0 (by decide)] <;> exact ht
      refine ok_gR (v := 99) hT rfl (hR 0 11 rfl) ?_
      refine ok_gR (v := 128) hT rfl (hR 0 17 rfl) ?_
      refine ok_gR (v := 28) hT rfl hNw ?_
      refine ok_gI0 hT rfl (by decide) ?_
      refine ok_gC rfl ?_
      refine ok_zbT (Q := fun V σ => True) hT (s_X0_reshape hN (hR.tr hT) rfl (by first | exact hn | omega | (rw [hT.2 28 (by decide)]; exact hn))) (fun _ h9 => absurd h9 List.not_mem_nil) (fun v18 σ19 hOσ19 hT hqv18 => ?_)
      have hW2 : WI 2 σ19.1 := WI.tr hOσ19 (by decide) (by decide) (by decide) hW2
      have hW28 : WI 28 σ19.1 := WI.tr hOσ19 (by decide) (by decide) (by decide) hW28
      have hW132 : WI 132 σ19.1 := WI.tr hOσ19 (by decide) (by decide) (by decide) hW132
      have hW158 : WI 158 σ19.1 := WI.tr hOσ19 (by decide) (by decide) (by decide) hW158
      have hW184 : WI 184 σ19.1 := WI.tr hOσ19 (by decide) (by decide) (by decide) hW184
      have hL : SI σ19.1 := SI.tr hOσ19 (by decide) (by decide) (by decide) (by decide) hL
      have hD : RD σ19.1 := RD.tr hOσ19 (by decide) (by decide) (by decide) (by decide) hD
      have hu : 2 ≤ (σ19.1 111 8).toInt ∧ (σ19.1 111 8).toInt ≤ 1600 := by rw [hOσ19.2 111 (by decide)] <;> exact hu
      have ht : 0 ≤ (σ19.1 0 1).toInt ∧ (σ19.1 0 1).toInt ≤ 600 := by rw [hOσ19.2 0 (by decide)] <;> exact ht
      refine ok_gR (v := 130) hT rfl (hR 0 18 rfl) ?_
      refine ok_gR (v := 28) hT rfl hNw ?_
      refine ok_gR (v := 33) hT rfl (hR 28 7 rfl) ?_
      obtain ⟨q24, eq24, kq24⟩ := arrF hR (k := 33) (i := x1) rfl (by first | omega | decide | (have q1 := hD.1; have q2 := hD.2.1; simp only [Int32.le_iff_toInt_le, Int32.lt_iff_toInt_lt, ti_add, ti_sub, ti_mul, Int32.reduceToInt] at *; omega)) (by first | omega | decide | (have q1 := hD.1; have q2 := hD.2.1; simp only [Int32.le_iff_toInt_le, Int32.lt_iff_toInt_lt, ti_add, ti_sub, ti_mul, Int32.reduceToInt] at *; omega))
      refine ok_aR (v := q24) hT rfl (by first | omega | decide | (have q1 := hD.1; have q2 := hD.2.1; simp only [Int32.le_iff_toInt_le, Int32.lt_iff_toInt_lt, ti_add, ti_sub, ti_mul, Int32.reduceToInt] at *; omega)) (by first | omega | decide | (have q1 := hD.1; have q2 := hD.2.1; simp only [Int32.le_iff_toInt_le, Int32.lt_iff_toInt_lt, ti_add, ti_sub, ti_mul, Int32.reduceToInt] at *; omega)) eq24 ?_
      refine ok_gC rfl ?_
      refine ok_zbT (Q := fun V σ => True) hT (s_X2_copyFrom hN (hR.tr hT) rfl kq24) (fun _ h9 => absurd h9 List.not_mem_nil) (fun v25 σ26 hOσ26 hT hqv25 => ?_)
      have hW2 : WI 2 σ26.1 := WI.tr hOσ26 (by decide) (by decide) (by decide) hW2
      have hW28 : WI 28 σ26.1 := WI.tr hOσ26 (by decide) (by decide) (by decide) hW28
      have hW132 : WI 132 σ26.1 := WI.tr hOσ26 (by decide) (by decide) (by decide) hW132
      have hW158 : WI 158 σ26.1 := WI.tr hOσ26 (by decide) (by decide) (by decide) hW158
      have hW184 : WI 184 σ26.1 := WI.tr hOσ26 (by decide) (by decide) (by decide) hW184
      have hL : SI σ26.1 := SI.tr hOσ26 (by decide) (by decide) (by decide) (by decide) hL
      have hD : RD σ26.1 := RD.tr hOσ26 (by decide) (by decide) (by decide) (by decide) hD
      have hu : 2 ≤ (σ26.1 111 8).toInt ∧ (σ26.1 111 8).toInt ≤ 1600 := by rw [hOσ26.2 111 (by decide)] <;> exact hu
      have ht : 0 ≤ (σ26.1 0 1).toInt ∧ (σ26.1 0 1).toInt ≤ 600 := by rw [hOσ26.2 0 (by decide)] <;> exact ht
      refine ok_gR (v := 99) hT rfl (hR 0 11 rfl) ?_
      refine ok_gR (v := 130) hT rfl (hR 0 18 rfl) ?_
      refine ok_gR (v := 28) hT rfl hNw ?_
      refine ok_gI0 hT rfl (by decide) ?_
      refine ok_gC rfl ?_
      refine ok_zbT (Q := fun V σ => True) hT (s_X0_reshape hN (hR.tr hT) rfl (by first | exact hn | omega | (rw [hT.2 28 (by decide)]; exact hn))) (fun _ h9 => absurd h9 List.not_mem_nil) (fun v31 σ32 hOσ32 hT hqv31 => ?_)
      have hW2 : WI 2 σ32.1 := WI.tr hOσ32 (by decide) (by decide) (by decide) hW2
      have hW28 : WI 28 σ32.1 := WI.tr hOσ32 (by decide) (by decide) (by decide) hW28
      have hW132 : WI 132 σ32.1 := WI.tr hOσ32 (by decide) (by decide) (by decide) hW132
      have hW158 : WI 158 σ32.1 := WI.tr hOσ32 (by decide) (by decide) (by decide) hW158
      have hW184 : WI 184 σ32.1 := WI.tr hOσ32 (by decide) (by decide) (by decide) hW184
      have hL : SI σ32.1 := SI.tr hOσ32 (by decide) (by decide) (by decide) (by decide) hL
      have hD : RD σ32.1 := RD.tr hOσ32 (by decide) (by decide) (by decide) (by decide) hD
      have hu : 2 ≤ (σ32.1 111 8).toInt ∧ (σ32.1 111 8).toInt ≤ 1600 := by rw [hOσ32.2 111 (by decide)] <;> exact hu
      have ht : 0 ≤ (σ32.1 0 1).toInt ∧ (σ32.1 0 1).toInt ≤ 600 := by rw [hOσ32.2 0 (by decide)] <;> exact ht
      refine ok_gR (v := 128) hT rfl (hR 0 17 rfl) ?_
      refine ok_gR (v := 28) hT rfl hNw ?_
      refine ok_gR (v := 33) hT rfl (hR 28 7 rfl) ?_
      obtain ⟨q37, eq37, kq37⟩ := arrF hR (k := 33) (i := x1) rfl (by first | omega | decide | (have q1 := hD.1; have q2 := hD.2.1; simp only [Int32.le_iff_toInt_le, Int32.lt_iff_toInt_lt, ti_add, ti_sub, ti_mul, Int32.reduceToInt] at *; omega)) (by first | omega | decide | (have q1 := hD.1; have q2 := hD.2.1; simp only [Int32.le_iff_toInt_le, Int32.lt_iff_toInt_lt, ti_add, ti_sub, ti_mul, Int32.reduceToInt] at *; omega))
      refine ok_aR (v := q37) hT rfl (by first | omega | decide | (have q1 := hD.1; have q2 := hD.2.1; simp only [Int32.le_iff_toInt_le, Int32.lt_iff_toInt_lt, ti_add, ti_sub, ti_mul, Int32.reduceToInt] at *; omega)) (by first | omega | decide | (have q1 := hD.1; have q2 := hD.2.1; simp only [Int32.le_iff_toInt_le, Int32.lt_iff_toInt_lt, ti_add, ti_sub, ti_mul, Int32.reduceToInt] at *; omega)) eq37 ?_
      refine ok_gC rfl ?_
      refine ok_zbT (Q := fun V σ => V = 0 ∨ V = 1) hT (s_X2_sameAs hN (hR.tr hT) rfl kq37) (fun _ h9 => absurd h9 List.not_mem_nil) (fun v38 σ39 hOσ39 hT hqv38 => ?_)
      have hqv38 : v38 = 0 ∨ v38 = 1 := hqv38
      have hW2 : WI 2 σ39.1 := WI.tr hOσ39 (by decide) (by decide) (by decide) hW2
      have hW28 : WI 28 σ39.1 := WI.tr hOσ39 (by decide) (by decide) (by decide) hW28
      have hW132 : WI 132 σ39.1 := WI.tr hOσ39 (by decide) (by decide) (by decide) hW132
      have hW158 : WI 158 σ39.1 := WI.tr hOσ39 (by decide) (by decide) (by decide) hW158
      have hW184 : WI 184 σ39.1 := WI.tr hOσ39 (by decide) (by decide) (by decide) hW184
      have hL : SI σ39.1 := SI.tr hOσ39 (by decide) (by decide) (by decide) (by decide) hL
      have hD : RD σ39.1 := RD.tr hOσ39 (by decide) (by decide) (by decide) (by decide) hD
      have hu : 2 ≤ (σ39.1 111 8).toInt ∧ (σ39.1 111 8).toInt ≤ 1600 := by rw [hOσ39.2 111 (by decide)] <;> exact hu
      have ht : 0 ≤ (σ39.1 0 1).toInt ∧ (σ39.1 0 1).toInt ≤ 600 := by rw [hOσ39.2 0 (by decide)] <;> exact ht
      refine ok_if (fun hc40 => ?_) (fun hc40 => ?_)
      · exact ok_some ⟨hT, (show CF σ39.1 from by exact ⟨hW2, hW28, hW132, hW158, hW184, hL, hD, hu, ht⟩)⟩
      · refine ok_gR (v := 130) hT rfl (hR 0 18 rfl) ?_
        refine ok_gR (v := 28) hT rfl hNw ?_
        refine ok_gR (v := 33) hT rfl (hR 28 7 rfl) ?_
        obtain ⟨q45, eq45, kq45⟩ := arrF hR (k := 33) (i := x2) rfl (by first | omega | decide | (have q1 := hD.1; have q2 := hD.2.1; simp only [Int32.le_iff_toInt_le, Int32.lt_iff_toInt_lt, ti_add, ti_sub, ti_mul, Int32.reduceToInt] at *; omega)) (by first | omega | decide | (have q1 := hD.1; have q2 := hD.2.1; simp only [Int32.le_iff_toInt_le, Int32.lt_iff_toInt_lt, ti_add, ti_sub, ti_mul, Int32.reduceToInt] at *; omega))
        refine ok_aR (v := q45) hT rfl (by first | omega | decide | (have q1 := hD.1; have q2 := hD.2.1; simp only [Int32.le_iff_toInt_le, Int32.lt_iff_toInt_lt, ti_add, ti_sub, ti_mul, Int32.reduceToInt] at *; omega)) (by first | omega | decide | (have q1 := hD.1; have q2 := hD.2.1; simp only [Int32.le_iff_toInt_le, Int32.lt_iff_toInt_lt, ti_add, ti_sub, ti_mul, Int32.reduceToInt] at *; omega)) eq45 ?_
        refine ok_gC rfl ?_
        refine ok_zbT (Q := fun V σ => V = 0 ∨ V = 1) hT (s_X2_sameAs hN (hR.tr hT) rfl kq45) (fun _ h9 => absurd h9 List.not_mem_nil) (fun v46 σ47 hOσ47 hT hqv46 => ?_)
        have hqv46 : v46 = 0 ∨ v46 = 1 := hqv46
        have hW2 : WI 2 σ47.1 := WI.tr hOσ47 (by decide) (by decide) (by decide) hW2
        have hW28 : WI 28 σ47.1 := WI.tr hOσ47 (by decide) (by decide) (by decide) hW28
        have hW132 : WI 132 σ47.1 := WI.tr hOσ47 (by decide) (by decide) (by decide) hW132
        have hW158 : WI 158 σ47.1 := WI.tr hOσ47 (by decide) (by decide) (by decide) hW158
        have hW184 : WI 184 σ47.1 := WI.tr hOσ47 (by decide) (by decide) (by decide) hW184
        have hL : SI σ47.1 := SI.tr hOσ47 (by decide) (by decide) (by decide) (by decide) hL
        have hD : RD σ47.1 := RD.tr hOσ47 (by decide) (by decide) (by decide) (by decide) hD
        have hu : 2 ≤ (σ47.1 111 8).toInt ∧ (σ47.1 111 8).toInt ≤ 1600 := by rw [hOσ47.2 111 (by decide)] <;> exact hu
        have ht : 0 ≤ (σ47.1 0 1).toInt ∧ (σ47.1 0 1).toInt ≤ 600 := by rw [hOσ47.2 0 (by decide)] <;> exact ht
        refine ok_if (fun hc48 => ?_) (fun hc48 => ?_)
        · exact ok_some ⟨hT, (show CF σ47.1 from by exact ⟨hW2, hW28, hW132, hW158, hW184, hL, hD, hu, ht⟩)⟩
        · exact ok_some ⟨hT, (show CF σ47.1 from by exact ⟨hW2, hW28, hW132, hW158, hW184, hL, hD, hu, ht⟩)⟩

set_option maxHeartbeats 4000000 in
set_option maxRecDepth 100000 in
theorem s_X11_apart_n28 {N : Nat} (hN : 1048576 ≤ N) {x1 : Int32} {x2 : Int32} {σ0 : zS}  (hR : RF σ0.2.2) (hNw : σ0.2.2 0 4 = 28) (hPw : σ0.2.2 0 5 = 2) (hC : CF σ0.1) : Ok (f_X11_apart N 0 x1 x2 σ0) (fun r => Tr [107] σ0 r.2 ∧ (CF r.2.1)) := by
  have hT : Tr [107] σ0 σ0 := Tr.rf
  obtain ⟨hW2, hW28, hW132, hW158, hW184, hL, hD, hu, ht⟩ := hC
  have hn := hW28.1
  have he := hW28.2.1
  have hD0 := hD
  have hL0 := hL
  have q10 := ti_one10 (x := σ0.1 28 0) hn.1 hn.2
  rw [f_X11_apart.eq_1]
  refine ok_gC rfl ?_
  refine ok_zbT (Q := fun V σ => (V = 0 ∨ V = 1) ∧ (¬ V = 0 → 0 ≤ x1.toInt ∧ x1.toInt ≤ 9)) hT (s_X11_isRegister_n28 hN (hR.tr hT) ((hT.1.1 0 4 (by decide)).trans hNw) (by first | exact hn | omega | (rw [hT.2 28 (by decide)]; exact hn))) (fun _ h9 => absurd h9 List.not_mem_nil) (fun v1 σ2 hOσ2 hT hqv1 => ?_)
  have hqv1 : (v1 = 0 ∨ v1 = 1) ∧ (¬ v1 = 0 → 0 ≤ x1.toInt ∧ x1.toInt ≤ 9) := hqv1
  have hW2 : WI 2 σ2.1 := WI.tr hOσ2 (by decide) (by decide) (by decide) hW2
  have hW28 : WI 28 σ2.1 := WI.tr hOσ2 (by decide) (by decide) (by decide) hW28
  have hW132 : WI 132 σ2.1 := WI.tr hOσ2 (by decide) (by decide) (by decide) hW132
  have hW158 : WI 158 σ2.1 := WI.tr hOσ2 (by decide) (by decide) (by decide) hW158
  have hW184 : WI 184 σ2.1 := WI.tr hOσ2 (by decide) (by decide) (by decide) hW184
  have hL : SI σ2.1 := SI.tr hOσ2 (by decide) (by decide) (by decide) (by decide) hL
  have hD : RD σ2.1 := RD.tr hOσ2 (by decide) (by decide) (by decide) (by decide) hD
  have hu : 2 ≤ (σ2.1 111 8).toInt ∧ (σ2.1 111 8).toInt ≤ 1600 := by rw [hOσ2.2 111 (by decide)] <;> exact hu
  have ht : 0 ≤ (σ2.1 0 1).toInt ∧ (σ2.1 0 1).toInt ≤ 600 := by rw [hOσ2.2 0 (by decide)] <;> exact ht
  refine ok_if (fun hc3 => ?_) (fun hc3 => ?_)
  · exact ok_some ⟨hT, (show CF σ2.1 from by exact ⟨hW2, hW28, hW132, hW158, hW184, hL, hD, hu, ht⟩)⟩
  · have qhc3 := hqv1.2 hc3
    refine ok_gC rfl ?_
    refine ok_zbT (Q := fun V σ => (V = 0 ∨ V = 1) ∧ (¬ V = 0 → 0 ≤ x2.toInt ∧ x2.toInt ≤ 9)) hT (s_X11_isRegister_n28 hN (hR.tr hT) ((hT.1.1 0 4 (by decide)).trans hNw) (by first | exact hn | omega | (rw [hT.2 28 (by decide)]; exact hn))) (fun _ h9 => absurd h9 List.not_mem_nil) (fun v4 σ5 hOσ5 hT hqv4 => ?_)
    have hqv4 : (v4 = 0 ∨ v4 = 1) ∧ (¬ v4 = 0 → 0 ≤ x2.toInt ∧ x2.toInt ≤ 9) := hqv4
    have hW2 : WI 2 σ5.1 := WI.tr hOσ5 (by decide) (by decide) (by decide) hW2
    have hW28 : WI 28 σ5.1 := WI.tr hOσ5 (by decide) (by decide) (by decide) hW28
    have hW132 : WI 132 σ5.1 := WI.tr hOσ5 (by decide) (by decide) (by decide) hW132
    have hW158 : WI 158 σ5.1 := WI.tr hOσ5 (by decide) (by decide) (by decide) hW158
    have hW184 : WI 184 σ5.1 := WI.tr hOσ5 (by decide) (by decide) (by decide) hW184
    have hL : SI σ5.1 := SI.tr hOσ5 (by decide) (by decide) (by decide) (by decide) hL
    have hD : RD σ5.1 := RD.tr hOσ5 (by decide) (by decide) (by decide) (by decide) hD
    have hu : 2 ≤ (σ5.1 111 8).toInt ∧ (σ5.1 111 8).toInt ≤ 1600 := by rw [hOσ5.2 111 (by decide)] <;> exact hu
    have ht : 0 ≤ (σ5.1 0 1).toInt ∧ (σ5.1 0 1).toInt ≤ 600 := by rw [hOσ5.2 0 (by decide)] <;> exact ht
    refine ok_if (fun hc6 => ?_) (fun hc6 => ?_)
    · exact ok_some ⟨hT, (show CF σ5.1 from by exact ⟨hW2, hW28, hW132, hW158, hW184, hL, hD, hu, ht⟩)⟩
    · have qhc6 := hqv4.2 hc6
      refine ok_gR (v := 99) hT rfl (hR 0 11 rfl) ?_
      refine ok_gR (v := 28) hT rfl hNw ?_
      refine ok_gR (v := 33) hT rfl (hR 28 7 rfl) ?_
      obtain ⟨q11, eq11, kq11⟩ := arrF hR (k := 33) (i := x1) rfl (by first | omega | decide | (have q1 := hD.1; have q2 := hD.2.1; simp only [Int32.le_iff_toInt_le, Int32.lt_iff_toInt_lt, ti_add, ti_sub, ti_mul, Int32.reduceToInt] at *; omega)) (by first | omega | decide | (have q1 := hD.1; have q2 := hD.2.1; simp only [Int32.le_iff_toInt_le, Int32.lt_iff_toInt_lt, ti_add, ti_sub, ti_mul, Int32.reduceToInt] at *; omega))
      refine ok_aR (v := q11) hT rfl (by first | omega | decide | (have q1 := hD.1; have q2 := hD.2.1; simp only [Int32.le_iff_toInt_le, Int32.lt_iff_toInt_lt, ti_add, ti_sub, ti_mul, Int32.reduceToInt] at *; omega)) (by first | omega | decide | (have q1 := hD.1; have q2 := hD.2.1; simp only [Int32.le_iff_toInt_le, Int32.lt_iff_toInt_lt, ti_add, ti_sub, ti_mul, Int32.reduceToInt] at *; omega)) eq11 ?_
      refine ok_gR (v := 28) hT rfl hNw ?_
      refine ok_gR (v := 33) hT rfl (hR 28 7 rfl) ?_
      obtain ⟨q15, eq15, kq15⟩ := arrF hR (k := 33) (i := x2) rfl (by first | omega | decide | (have q1 := hD.1; have q2 := hD.2.1; simp only [Int32.le_iff_toInt_le, Int32.lt_iff_toInt_lt, ti_add, ti_sub, ti_mul, Int32.reduceToInt] at *; omega)) (by first | omega | decide | (have q1 := hD.1; have q2 := hD.2.1; simp only [Int32.le_iff_toInt_le, Int32.lt_iff_toInt_lt, ti_add, ti_sub, ti_mul, Int32.reduceToInt] at *; omega))
      refine ok_aR (v := q15) hT rfl (by first | omega | decide | (have q1 := hD.1; have q2 := hD.2.1; simp only [Int32.le_iff_toInt_le, Int32.lt_iff_toInt_lt, ti_add, ti_sub, ti_mul, Int32.reduceToInt] at *; omega)) (by first | omega | decide | (have q1 := hD.1; have q2 := hD.2.1; simp only [Int32.le_iff_toInt_le, Int32.lt_iff_toInt_lt, ti_add, ti_sub, ti_mul, Int32.reduceToInt] at *; omega)) eq15 ?_
      refine ok_gR (v := 28) hT rfl hNw ?_
      refine ok_gI0 hT rfl (by decide) ?_
      refine ok_gC rfl ?_
      refine ok_zbT (Q := fun V σ => True) hT (s_X0_disjointPairs hN (hR.tr hT) kq11 kq15) (by decide) (fun v18 σ19 hOσ19 hT hqv18 => ?_)
      have hW2 : WI 2 σ19.1 := WI.tr hOσ19 (by decide) (by decide) (by decide) hW2
      have hW28 : WI 28 σ19.1 := WI.tr hOσ19 (by decide) (by decide) (by decide) hW28
      have hW132 : WI 132 σ19.1 := WI.tr hOσ19 (by decide) (by decide) (by decide) hW132
      have hW158 : WI 158 σ19.1 := WI.tr hOσ19 (by decide) (by decide) (by decide) hW158
      have hW184 : WI 184 σ19.1 := WI.tr hOσ19 (by decide) (by decide) (by decide) hW184
      have hL : SI σ19.1 := SI.tr hOσ19 (by decide) (by decide) (by decide) (by decide) hL
      have hD : RD σ19.1 := RD.tr hOσ19 (by decide) (by decide) (by decide) (by decide) hD
      have hu : 2 ≤ (σ19.1 111 8).toInt ∧ (σ19.1 111 8).toInt ≤ 1600 := by rw [hOσ19.2 111 (by decide)] <;> exact hu
      have ht : 0 ≤ (σ19.1 0 1).toInt ∧ (σ19.1 0 1).toInt ≤ 600 := by rw [hOσ19.2 0 (by decide)] <;> exact ht
      exact ok_some ⟨hT, (show CF σ19.1 from by exact ⟨hW2, hW28, hW132, hW158, hW184, hL, hD, hu, ht⟩)⟩

set_option maxHeartbeats 4000000 in
set_option maxRecDepth 100000 in
theorem s_X11_packs_n28 {N : Nat} (hN : 1048576 ≤ N) {x1 : Int32} {x2 : Int32} {σ0 : zS}  (hR : RF σ0.2.2) (hNw : σ0.2.2 0 4 = 28) (hPw : σ0.2.2 0 5 = 2) (hC : CF σ0.1) : Ok (f_X11_packs N 0 x1 x2 σ0) (fun r => Tr [126, 127] σ0 r.2 ∧ (CF r.2.1)) := by
  have hT : Tr [126, 127] σ0 σ0 := Tr.rf
  obtain ⟨hW2, hW28, hW132, hW158, hW184, hL, hD, hu, ht⟩ := hC
  have hn := hW28.1
  have he := hW28.2.1
  have hD0 := hD
  have hL0 := hL
  have q10 := ti_one10 (x := σ0.1 28 0) hn.1 hn.2
  rw [f_X11_packs.eq_1]
  refine ok_gC rfl ?_
  refine ok_zbT (Q := fun V σ => (V = 0 ∨ V = 1) ∧ (¬ V = 0 → 0 ≤ x1.toInt ∧ x1.toInt ≤ 9)) hT (s_X11_isRegister_n28 hN (hR.tr hT) ((hT.1.1 0 4 (by decide)).trans hNw) (by first | exact hn | omega | (rw [hT.2 28 (by decide)]; exact hn))) (fun _ h9 => absurd h9 List.not_mem_nil) (fun v1 σ2 hOσ2 hT hqv1 => ?_)
  have hqv1 : (v1 = 0 ∨ v1 = 1) ∧ (¬ v1 = 0 → 0 ≤ x1.toInt ∧ x1.toInt ≤ 9) := hqv1
  have hW2 : WI 2 σ2.1 := WI.tr hOσ2 (by decide) (by decide) (by decide) hW2
  have hW28 : WI 28 σ2.1 := WI.tr hOσ2 (by decide) (by decide) (by decide) hW28
  have hW132 : WI 132 σ2.1 := WI.tr hOσ2 (by decide) (by decide) (by decide) hW132
  have hW158 : WI 158 σ2.1 := WI.tr hOσ2 (by decide) (by decide) (by decide) hW158
  have hW184 : WI 184 σ2.1 := WI.tr hOσ2 (by decide) (by decide) (by decide) hW184
  have hL : SI σ2.1 := SI.tr hOσ2 (by decide) (by decide) (by decide) (by decide) hL
  have hD : RD σ2.1 := RD.tr hOσ2 (by decide) (by decide) (by decide) (by decide) hD
  have hu : 2 ≤ (σ2.1 111 8).toInt ∧ (σ2.1 111 8).toInt ≤ 1600 := by rw [hOσ2.2 111 (by decide)] <;> exact hu
  have ht : 0 ≤ (σ2.1 0 1).toInt ∧ (σ2.1 0 1).toInt ≤ 600 := by rw [hOσ2.2 0 (by decide)] <;> exact ht
  refine ok_if (fun hc3 => ?_) (fun hc3 => ?_)
  · exact ok_some ⟨hT, (show CF σ2.1 from by exact ⟨hW2, hW28, hW132, hW158, hW184, hL, hD, hu, ht⟩)⟩
  · have qhc3 := hqv1.2 hc3
    refine ok_if (fun hc4 => ?_) (fun hc4 => ?_)
    · exact ok_some ⟨hT, (show CF σ2.1 from by exact ⟨hW2, hW28, hW132, hW158, hW184, hL, hD, hu, ht⟩)⟩
    · refine ok_if (fun hc5 => ?_) (fun hc5 => ?_)
      · refine ok_gR (v := 28) hT rfl hNw ?_
        refine ok_gR (v := 33) hT rfl (hR 28 7 rfl) ?_
        obtain ⟨q9, eq9, kq9⟩ := arrF hR (k := 33) (i := x1) rfl (by first | omega | decide | (have q1 := hD.1; have q2 := hD.2.1; simp only [Int32.le_iff_toInt_le, Int32.lt_iff_toInt_lt, ti_add, ti_sub, ti_mul, Int32.reduceToInt] at *; omega)) (by first | omega | decide | (have q1 := hD.1; have q2 := hD.2.1; simp only [Int32.le_iff_toInt_le, Int32.lt_iff_toInt_lt, ti_add, ti_sub, ti_mul, Int32.reduceToInt] at *; omega))
        refine ok_aR (v := q9) hT rfl (by first | omega | decide | (have q1 := hD.1; have q2 := hD.2.1; simp only [Int32.le_iff_toInt_le, Int32.lt_iff_toInt_lt, ti_add, ti_sub, ti_mul, Int32.reduceToInt] at *; omega)) (by first | omega | decide | (have q1 := hD.1; have q2 := hD.2.1; simp only [Int32.le_iff_toInt_le, Int32.lt_iff_toInt_lt, ti_add, ti_sub, ti_mul, Int32.reduceToInt] at *; omega)) eq9 ?_
        refine ok_gC kq9 ?_
        refine ok_zbT (Q := fun V σ => True) hT (s_X2_tally hN (hR.tr hT) kq9) (fun _ h9 => absurd h9 List.not_mem_nil) (fun v10 σ11 hOσ11 hT hqv10 => ?_)
        have hW2 : WI 2 σ11.1 := WI.tr hOσ11 (by decide) (by decide) (by decide) hW2
        have hW28 : WI 28 σ11.1 := WI.tr hOσ11 (by decide) (by decide) (by decide) hW28
        have hW132 : WI 132 σ11.1 := WI.tr hOσ11 (by decide) (by decide) (by decide) hW132
        have hW158 : WI 158 σ11.1 := WI.tr hOσ11 (by decide) (by decide) (by decide) hW158
        have hW184 : WI 184 σ11.1 := WI.tr hOσ11 (by decide) (by decide) (by decide) hW184
        have hL : SI σ11.1 := SI.tr hOσ11 (by decide) (by decide) (by decide) (by decide) hL
        have hD : RD σ11.1 := RD.tr hOσ11 (by decide) (by decide) (by decide) (by decide) hD
        have hu : 2 ≤ (σ11.1 111 8).toInt ∧ (σ11.1 111 8).toInt ≤ 1600 := by rw [hOσ11.2 111 (by decide)] <;> exact hu
        have ht : 0 ≤ (σ11.1 0 1).toInt ∧ (σ11.1 0 1).toInt ≤ 600 := by rw [hOσ11.2 0 (by decide)] <;> exact ht
        refine ok_if (fun hc12 => ?_) (fun hc12 => ?_)
        · exact ok_some ⟨hT, (show CF σ11.1 from by exact ⟨hW2, hW28, hW132, hW158, hW184, hL, hD, hu, ht⟩)⟩
        · refine ok_if (fun hc13 => ?_) (fun hc13 => ?_)
          · refine ok_gR (v := 126) hT rfl (hR 0 16 rfl) ?_
            refine ok_gC rfl ?_
            refine ok_zbT (Q := fun V σ => True) hT (s_X4_load hN (hR.tr hT) kq9) (by decide) (fun v15 σ16 hOσ16 hT hqv15 => ?_)
            have hW2 : WI 2 σ16.1 := WI.tr hOσ16 (by decide) (by decide) (by decide) hW2
            have hW28 : WI 28 σ16.1 := WI.tr hOσ16 (by decide) (by decide) (by decide) hW28
            have hW132 : WI 132 σ16.1 := WI.tr hOσ16 (by decide) (by decide) (by decide) hW132
            have hW158 : WI 158 σ16.1 := WI.tr hOσ16 (by decide) (by decide) (by decide) hW158
            have hW184 : WI 184 σ16.1 := WI.tr hOσ16 (by decide) (by decide) (by decide) hW184
            have hL : SI σ16.1 := SI.tr hOσ16 (by decide) (by decide) (by decide) (by decide) hL
            have hD : RD σ16.1 := RD.tr hOσ16 (by decide) (by decide) (by decide) (by decide) hD
            have hu : 2 ≤ (σ16.1 111 8).toInt ∧ (σ16.1 111 8).toInt ≤ 1600 := by rw [hOσ16.2 111 (by decide)] <;> exact hu
            have ht : 0 ≤ (σ16.1 0 1).toInt ∧ (σ16.1 0 1).toInt ≤ 600 := by rw [hOσ16.2 0 (by decide)] <;> exact ht
            refine ok_if (fun hc17 => ?_) (fun hc17 => ?_)
            · refine ok_gR (v := 126) hT rfl (hR 0 16 rfl) ?_
              refine ok_gC rfl ?_
              refine ok_zbT (Q := fun V σ => True) hT (s_X4_fewestForAll hN (hR.tr hT) ) (fun _ h9 => absurd h9 List.not_mem_nil) (fun v19 σ20 hOσ20 hT hqv19 => ?_)
              have hW2 : WI 2 σ20.1 := WI.tr hOσ20 (by decide) (by decide) (by decide) hW2
              have hW28 : WI 28 σ20.1 := WI.tr hOσ20 (by decide) (by decide) (by decide) hW28
              have hW132 : WI 132 σ20.1 := WI.tr hOσ20 (by decide) (by decide) (by decide) hW132
              have hW158 : WI 158 σ20.1 := WI.tr hOσ20 (by decide) (by decide) (by decide) hW158
              have hW184 : WI 184 σ20.1 := WI.tr hOσ20 (by decide) (by decide) (by decide) hW184
              have hL : SI σ20.1 := SI.tr hOσ20 (by decide) (by decide) (by decide) (by decide) hL
              have hD : RD σ20.1 := RD.tr hOσ20 (by decide) (by decide) (by decide) (by decide) hD
              have hu : 2 ≤ (σ20.1 111 8).toInt ∧ (σ20.1 111 8).toInt ≤ 1600 := by rw [hOσ20.2 111 (by decide)] <;> exact hu
              have ht : 0 ≤ (σ20.1 0 1).toInt ∧ (σ20.1 0 1).toInt ≤ 600 := by rw [hOσ20.2 0 (by decide)] <;> exact ht
              exact ok_some ⟨hT, (show CF σ20.1 from by exact ⟨hW2, hW28, hW132, hW158, hW184, hL, hD, hu, ht⟩)⟩
            · refine ok_gR (v := 126) hT rfl (hR 0 16 rfl) ?_
              refine ok_gC rfl ?_
              refine ok_zbT (Q := fun V σ => True) hT (s_X4_mostDisjoint hN (hR.tr hT) ) (fun _ h9 => absurd h9 List.not_mem_nil) (fun v22 σ23 hOσ23 hT hqv22 => ?_)
              have hW2 : WI 2 σ23.1 := WI.tr hOσ23 (by decide) (by decide) (by decide) hW2
              have hW28 : WI 28 σ23.1 := WI.tr hOσ23 (by decide) (by decide) (by decide) hW28
              have hW132 : WI 132 σ23.1 := WI.tr hOσ23 (by decide) (by decide) (by decide) hW132
              have hW158 : WI 158 σ23.1 := WI.tr hOσ23 (by decide) (by decide) (by decide) hW158
              have hW184 : WI 184 σ23.1 := WI.tr hOσ23 (by decide) (by decide) (by decide) hW184
              have hL : SI σ23.1 := SI.tr hOσ23 (by decide) (by decide) (by decide) (by decide) hL
              have hD : RD σ23.1 := RD.tr hOσ23 (by decide) (by decide) (by decide) (by decide) hD
              have hu : 2 ≤ (σ23.1 111 8).toInt ∧ (σ23.1 111 8).toInt ≤ 1600 := by rw [hOσ23.2 111 (by decide)] <;> exact hu
              have ht : 0 ≤ (σ23.1 0 1).toInt ∧ (σ23.1 0 1).toInt ≤ 600 := by rw [hOσ23.2 0 (by decide)] <;> exact ht
              exact ok_some ⟨hT, (show CF σ23.1 from by exact ⟨hW2, hW28, hW132, hW158, hW184, hL, hD, hu, ht⟩)⟩
          · exact ok_some ⟨hT, (show CF σ11.1 from by exact ⟨hW2, hW28, hW132, hW158, hW184, hL, hD, hu, ht⟩)⟩
      · exact ok_some ⟨hT, (show CF σ2.1 from by exact ⟨hW2, hW28, hW132, hW158, hW184, hL, hD, hu, ht⟩)⟩

set_option maxHeartbeats 4000000 in
set_option maxRecDepth 100000 in
theorem s_X11_nodes_n28 {N : Nat} (hN : 1048576 ≤ N) {x1 : Int32} {σ0 : zS}  (hR : RF σ0.2.2) (hNw : σ0.2.2 0 4 = 28) (hPw : σ0.2.2 0 5 = 2) (hC : CF σ0.1) : Ok (f_X11_nodes N 0 x1 σ0) (fun r => Tr [111, 112, 113, 114, 115, 116, 117, 118, 119] σ0 r.2 ∧ (CF r.2.1)) := by
  have hT : Tr [111, 112, 113, 114, 115, 116, 117, 118, 119] σ0 σ0 := Tr.rf
  obtain ⟨hW2, hW28, hW132, hW158, hW184, hL, hD, hu, ht⟩ := hC
  have hn := hW28.1
  have he := hW28.2.1
  have hD0 := hD
  have hL0 := hL
  have q10 := ti_one10 (x := σ0.1 28 0) hn.1 hn.2
  rw [f_X11_nodes.eq_1]
  refine ok_gC rfl ?_
  refine ok_zbT (Q := fun V σ => (V = 0 ∨ V = 1) ∧ (¬ V = 0 → 0 ≤ x1.toInt ∧ x1.toInt ≤ 9)) hT (s_X11_isRegister_n28 hN (hR.tr hT) ((hT.1.1 0 4 (by decide)).trans hNw) (by first | exact hn | omega | (rw [hT.2 28 (by decide)]; exact hn))) (fun _ h9 => absurd h9 List.not_mem_nil) (fun v1 σ2 hOσ2 hT hqv1 => ?_)
  have hqv1 : (v1 = 0 ∨ v1 = 1) ∧ (¬ v1 = 0 → 0 ≤ x1.toInt ∧ x1.toInt ≤ 9) := hqv1
  have hW2 : WI 2 σ2.1 := WI.tr hOσ2 (by decide) (by decide) (by decide) hW2
  have hW28 : WI 28 σ2.1 := WI.tr hOσ2 (by decide) (by decide) (by decide) hW28
  have hW132 : WI 132 σ2.1 := WI.tr hOσ2 (by decide) (by decide) (by decide) hW132
  have hW158 : WI 158 σ2.1 := WI.tr hOσ2 (by decide) (by decide) (by decide) hW158
  have hW184 : WI 184 σ2.1 := WI.tr hOσ2 (by decide) (by decide) (by decide) hW184
  have hL : SI σ2.1 := SI.tr hOσ2 (by decide) (by decide) (by decide) (by decide) hL
  have hD : RD σ2.1 := RD.tr hOσ2 (by decide) (by decide) (by decide) (by decide) hD
  have hu : 2 ≤ (σ2.1 111 8).toInt ∧ (σ2.1 111 8).toInt ≤ 1600 := by rw [hOσ2.2 111 (by decide)] <;> exact hu
  have ht : 0 ≤ (σ2.1 0 1).toInt ∧ (σ2.1 0 1).toInt ≤ 600 := by rw [hOσ2.2 0 (by decide)] <;> exact ht
  refine ok_if (fun hc3 => ?_) (fun hc3 => ?_)
  · exact ok_some ⟨hT, (show CF σ2.1 from by exact ⟨hW2, hW28, hW132, hW158, hW184, hL, hD, hu, ht⟩)⟩
  · have qhc3 := hqv1.2 hc3
    refine ok_gR (v := 111) hT rfl (hR 0 13 rfl) ?_
    refine ok_gR (v := 28) hT rfl hNw ?_
    refine ok_gR (v := 28) hT rfl hNw ?_
    refine ok_gR (v := 33) hT rfl (hR 28 7 rfl) ?_
    obtain ⟨q9, eq9, kq9⟩ := arrF hR (k := 33) (i := x1) rfl (by first | omega | decide | (have q1 := hD.1; have q2 := hD.2.1; simp only [Int32.le_iff_toInt_le, Int32.lt_iff_toInt_lt, ti_add, ti_sub, ti_mul, Int32.reduceToInt] at *; omega)) (by first | omega | decide | (have q1 := hD.1; have q2 := hD.2.1; simp only [Int32.le_iff_toInt_le, Int32.lt_iff_toInt_lt, ti_add, ti_sub, ti_mul, Int32.reduceToInt] at *; omega))
    refine ok_aR (v := q9) hT rfl (by first | omega | decide | (have q1 := hD.1; have q2 := hD.2.1; simp only [Int32.le_iff_toInt_le, Int32.lt_iff_toInt_lt, ti_add, ti_sub, ti_mul, Int32.reduceToInt] at *; omega)) (by first | omega | decide | (have q1 := hD.1; have q2 := hD.2.1; simp only [Int32.le_iff_toInt_le, Int32.lt_iff_toInt_lt, ti_add, ti_sub, ti_mul, Int32.reduceToInt] at *; omega)) eq9 ?_
    refine ok_gC rfl ?_
    refine ok_zbT (Q := fun V σ => 2 ≤ (σ.1 111 8).toInt ∧ (σ.1 111 8).toInt ≤ 1600) hT (s_X1_tallyOf_28 hN (hR.tr hT) kq9 (hu) (by first | exact hn | omega | (rw [hT.2 28 (by decide)]; exact hn))) (by decide) (fun v10 σ11 hOσ11 hT hqv10 => ?_)
    have hqv10 : 2 ≤ (σ11.1 111 8).toInt ∧ (σ11.1 111 8).toInt ≤ 1600 := hqv10
    have hW2 : WI 2 σ11.1 := WI.tr hOσ11 (by decide) (by decide) (by decide) hW2
    have hW28 : WI 28 σ11.1 := WI.tr hOσ11 (by decide) (by decide) (by decide) hW28
    have hW132 : WI 132 σ11.1 := WI.tr hOσ11 (by decide) (by decide) (by decide) hW132
    have hW158 : WI 158 σ11.1 := WI.tr hOσ11 (by decide) (by decide) (by decide) hW158
    have hW184 : WI 184 σ11.1 := WI.tr hOσ11 (by decide) (by decide) (by decide) hW184
    have hL : SI σ11.1 := SI.tr hOσ11 (by decide) (by decide) (by decide) (by decide) hL
    have hD : RD σ11.1 := RD.tr hOσ11 (by decide) (by decide) (by decide) (by decide) hD
    have hu : 2 ≤ (σ11.1 111 8).toInt ∧ (σ11.1 111 8).toInt ≤ 1600 := hqv10
    have ht : 0 ≤ (σ11.1 0 1).toInt ∧ (σ11.1 0 1).toInt ≤ 600 := by rw [hOσ11.2 0 (by decide)] <;> exact ht
    exact ok_some ⟨hT, (show CF σ11.1 from by exact ⟨hW2, hW28, hW132, hW158, hW184, hL, hD, hu, ht⟩)⟩

set_option maxHeartbeats 4000000 in
set_option maxRecDepth 100000 in
theorem s_X11_net_n28 {N : Nat} (hN : 1048576 ≤ N)  {σ0 : zS}  (hR : RF σ0.2.2) (hNw : σ0.2.2 0 4 = 28) (hPw : σ0.2.2 0 5 = 2) (hC : CF σ0.1) : Ok (f_X11_net N 0 σ0) (fun r => Tr [111, 112, 113, 114, 115, 116, 117, 118, 119] σ0 r.2 ∧ (CF r.2.1)) := by
  have hT : Tr [111, 112, 113, 114, 115, 116, 117, 118, 119] σ0 σ0 := Tr.rf
  obtain ⟨hW2, hW28, hW132, hW158, hW184, hL, hD, hu, ht⟩ := hC
  have hn := hW28.1
  have he := hW28.2.1
  have hD0 := hD
  have hL0 := hL
  have q10 := ti_one10 (x := σ0.1 28 0) hn.1 hn.2
  rw [f_X11_net.eq_1]
  refine ok_gC rfl ?_
  refine ok_zbT (Q := fun V σ => (V = 0 ∨ V = 1) ∧ (¬ V = 0 → 0 < (σ0.1 28 0).toInt)) hT (s_X11_isWorld_n28 hN (hR.tr hT) ((hT.1.1 0 4 (by decide)).trans hNw) (by first | exact hn | omega | (rw [hT.2 28 (by decide)]; exact hn))) (fun _ h9 => absurd h9 List.not_mem_nil) (fun v1 σ2 hOσ2 hT hqv1 => ?_)
  have hqv1 : (v1 = 0 ∨ v1 = 1) ∧ (¬ v1 = 0 → 0 < (σ0.1 28 0).toInt) := hqv1
  have hW2 : WI 2 σ2.1 := WI.tr hOσ2 (by decide) (by decide) (by decide) hW2
  have hW28 : WI 28 σ2.1 := WI.tr hOσ2 (by decide) (by decide) (by decide) hW28
  have hW132 : WI 132 σ2.1 := WI.tr hOσ2 (by decide) (by decide) (by decide) hW132
  have hW158 : WI 158 σ2.1 := WI.tr hOσ2 (by decide) (by decide) (by decide) hW158
  have hW184 : WI 184 σ2.1 := WI.tr hOσ2 (by decide) (by decide) (by decide) hW184
  have hL : SI σ2.1 := SI.tr hOσ2 (by decide) (by decide) (by decide) (by decide) hL
  have hD : RD σ2.1 := RD.tr hOσ2 (by decide) (by decide) (by decide) (by decide) hD
  have hu : 2 ≤ (σ2.1 111 8).toInt ∧ (σ2.1 111 8).toInt ≤ 1600 := by rw [hOσ2.2 111 (by decide)] <;> exact hu
  have ht : 0 ≤ (σ2.1 0 1).toInt ∧ (σ2.1 0 1).toInt ≤ 600 := by rw [hOσ2.2 0 (by decide)] <;> exact ht
  refine ok_if (fun hc3 => ?_) (fun hc3 => ?_)
  · exact ok_some ⟨hT, (show CF σ2.1 from by exact ⟨hW2, hW28, hW132, hW158, hW184, hL, hD, hu, ht⟩)⟩
  · have qhc3 := hqv1.2 hc3
    refine ok_gR (v := 111) hT rfl (hR 0 13 rfl) ?_
    refine ok_gR (v := 28) hT rfl hNw ?_
    refine ok_gC rfl ?_
    refine ok_zbT (Q := fun V σ => 2 ≤ (σ.1 111 8).toInt ∧ (σ.1 111 8).toInt ≤ 1600) hT (s_X1_tallyOfAll_28 hN (hR.tr hT) (hu) (by first | exact hn | omega | (rw [hT.2 28 (by decide)]; exact hn))) (by decide) (fun v6 σ7 hOσ7 hT hqv6 => ?_)
    have hqv6 : 2 ≤ (σ7.1 111 8).toInt ∧ (σ7.1 111 8).toInt ≤ 1600 := hqv6
    have hW2 : WI 2 σ7.1 := WI.tr hOσ7 (by decide) (by decide) (by decide) hW2
    have hW28 : WI 28 σ7.1 := WI.tr hOσ7 (by decide) (by decide) (by decide) hW28
    have hW132 : WI 132 σ7.1 := WI.tr hOσ7 (by decide) (by decide) (by decide) hW132
    have hW158 : WI 158 σ7.1 := WI.tr hOσ7 (by decide) (by decide) (by decide) hW158
    have hW184 : WI 184 σ7.1 := WI.tr hOσ7 (by decide) (by decide) (by decide) hW184
    have hL : SI σ7.1 := SI.tr hOσ7 (by decide) (by decide) (by decide) (by decide) hL
    have hD : RD σ7.1 := RD.tr hOσ7 (by decide) (by decide) (by decide) (by decide) hD
    have hu : 2 ≤ (σ7.1 111 8).toInt ∧ (σ7.1 111 8).toInt ≤ 1600 := hqv6
    have ht : 0 ≤ (σ7.1 0 1).toInt ∧ (σ7.1 0 1).toInt ≤ 600 := by rw [hOσ7.2 0 (by decide)] <;> exact ht
    exact ok_some ⟨hT, (show CF σ7.1 from by exact ⟨hW2, hW28, hW132, hW158, hW184, hL, hD, hu, ht⟩)⟩

set_option maxHeartbeats 4000000 in
set_option maxRecDepth 100000 in
theorem s_X11_wide_n28 {N : Nat} (hN : 1048576 ≤ N) {x1 : Int32} {x2 : Int32} {σ0 : zS}  (hR : RF σ0.2.2) (hNw : σ0.2.2 0 4 = 28) (hPw : σ0.2.2 0 5 = 2) (hC : CF σ0.1) : Ok (f_X11_wide N 0 x1 x2 σ0) (fun r => Tr [111, 112, 113, 114, 115, 116, 117, 118, 119] σ0 r.2 ∧ (CF r.2.1)) := by
  have hT : Tr [111, 112, 113, 114, 115, 116, 117, 118, 119] σ0 σ0 := Tr.rf
  obtain ⟨hW2, hW28, hW132, hW158, hW184, hL, hD, hu, ht⟩ := hC
  have hn := hW28.1
  have he := hW28.2.1
  have hD0 := hD
  have hL0 := hL
  have q10 := ti_one10 (x := σ0.1 28 0) hn.1 hn.2
  rw [f_X11_wide.eq_1]
  refine ok_gC rfl ?_
  refine ok_zbT (Q := fun V σ => (V = 0 ∨ V = 1) ∧ (¬ V = 0 → 0 ≤ x1.toInt ∧ x1.toInt ≤ 9)) hT (s_X11_isRegister_n28 hN (hR.tr hT) ((hT.1.1 0 4 (by decide)).trans hNw) (by first | exact hn | omega | (rw [hT.2 28 (by decide)]; exact hn))) (fun _ h9 => absurd h9 List.not_mem_nil) (fun v1 σ2 hOσ2 hT hqv1 => ?_)
  have hqv1 : (v1 = 0 ∨ v1 = 1) ∧ (¬ v1 = 0 → 0 ≤ x1.toInt ∧ x1.toInt ≤ 9) := hqv1
  have hW2 : WI 2 σ2.1 := WI.tr hOσ2 (by decide) (by decide) (by decide) hW2
  have hW28 : WI 28 σ2.1 := WI.tr hOσ2 (by decide) (by decide) (by decide) hW28
  have hW132 : WI 132 σ2.1 := WI.tr hOσ2 (by decide) (by decide) (by decide) hW132
  have hW158 : WI 158 σ2.1 := WI.tr hOσ2 (by decide) (by decide) (by decide) hW158
  have hW184 : WI 184 σ2.1 := WI.tr hOσ2 (by decide) (by decide) (by decide) hW184
  have hL : SI σ2.1 := SI.tr hOσ2 (by decide) (by decide) (by decide) (by decide) hL
  have hD : RD σ2.1 := RD.tr hOσ2 (by decide) (by decide) (by decide) (by decide) hD
  have hu : 2 ≤ (σ2.1 111 8).toInt ∧ (σ2.1 111 8).toInt ≤ 1600 := by rw [hOσ2.2 111 (by decide)] <;> exact hu
  have ht : 0 ≤ (σ2.1 0 1).toInt ∧ (σ2.1 0 1).toInt ≤ 600 := by rw [hOσ2.2 0 (by decide)] <;> exact ht
  refine ok_if (fun hc3 => ?_) (fun hc3 => ?_)
  · exact ok_some ⟨hT, (show CF σ2.1 from by exact ⟨hW2, hW28, hW132, hW158, hW184, hL, hD, hu, ht⟩)⟩
  · have qhc3 := hqv1.2 hc3
    refine ok_gC rfl ?_
    refine ok_zbT (Q := fun V σ => (V = 0 ∨ V = 1) ∧ (¬ V = 0 → 0 ≤ x2.toInt ∧ x2.toInt < (σ2.1 28 0).toInt)) hT (s_X11_isName_n28 hN (hR.tr hT) ((hT.1.1 0 4 (by decide)).trans hNw) (by first | exact hn | omega | (rw [hT.2 28 (by decide)]; exact hn))) (fun _ h9 => absurd h9 List.not_mem_nil) (fun v4 σ5 hOσ5 hT hqv4 => ?_)
    have hqv4 : (v4 = 0 ∨ v4 = 1) ∧ (¬ v4 = 0 → 0 ≤ x2.toInt ∧ x2.toInt < (σ2.1 28 0).toInt) := hqv4
    have hW2 : WI 2 σ5.1 := WI.tr hOσ5 (by decide) (by decide) (by decide) hW2
    have hW28 : WI 28 σ5.1 := WI.tr hOσ5 (by decide) (by decide) (by decide) hW28
    have hW132 : WI 132 σ5.1 := WI.tr hOσ5 (by decide) (by decide) (by decide) hW132
    have hW158 : WI 158 σ5.1 := WI.tr hOσ5 (by decide) (by decide) (by decide) hW158
    have hW184 : WI 184 σ5.1 := WI.tr hOσ5 (by decide) (by decide) (by decide) hW184
    have hL : SI σ5.1 := SI.tr hOσ5 (by decide) (by decide) (by decide) (by decide) hL
    have hD : RD σ5.1 := RD.tr hOσ5 (by decide) (by decide) (by decide) (by decide) hD
    have hu : 2 ≤ (σ5.1 111 8).toInt ∧ (σ5.1 111 8).toInt ≤ 1600 := by rw [hOσ5.2 111 (by decide)] <;> exact hu
    have ht : 0 ≤ (σ5.1 0 1).toInt ∧ (σ5.1 0 1).toInt ≤ 600 := by rw [hOσ5.2 0 (by decide)] <;> exact ht
    refine ok_if (fun hc6 => ?_) (fun hc6 => ?_)
    · exact ok_some ⟨hT, (show CF σ5.1 from by exact ⟨hW2, hW28, hW132, hW158, hW184, hL, hD, hu, ht⟩)⟩
    · have qhc6 := hqv4.2 hc6
      refine ok_gR (v := 111) hT rfl (hR 0 13 rfl) ?_
      refine ok_gR (v := 28) hT rfl hNw ?_
      refine ok_gR (v := 28) hT rfl hNw ?_
      refine ok_gR (v := 33) hT rfl (hR 28 7 rfl) ?_
      obtain ⟨q12, eq12, kq12⟩ := arrF hR (k := 33) (i := x1) rfl (by first | omega | decide | (have q1 := hD.1; have q2 := hD.2.1; simp only [Int32.le_iff_toInt_le, Int32.lt_iff_toInt_lt, ti_add, ti_sub, ti_mul, Int32.reduceToInt] at *; omega)) (by first | omega | decide | (have q1 := hD.1; have q2 := hD.2.1; simp only [Int32.le_iff_toInt_le, Int32.lt_iff_toInt_lt, ti_add, ti_sub, ti_mul, Int32.reduceToInt] at *; omega))
      refine ok_aR (v := q12) hT rfl (by first | omega | decide | (have q1 := hD.1; have q2 := hD.2.1; simp only [Int32.le_iff_toInt_le, Int32.lt_iff_toInt_lt, ti_add, ti_sub, ti_mul, Int32.reduceToInt] at *; omega)) (by first | omega | decide | (have q1 := hD.1; have q2 := hD.2.1; simp only [Int32.le_iff_toInt_le, Int32.lt_iff_toInt_lt, ti_add, ti_sub, ti_mul, Int32.reduceToInt] at *; omega)) eq12 ?_
      refine ok_gC rfl ?_
      refine ok_zbT (Q := fun V σ => 2 ≤ (σ.1 111 8).toInt ∧ (σ.1 111 8).toInt ≤ 1600) hT (s_X1_tallyOf_28 hN (hR.tr hT) kq12 (hu) (by first | exact hn | omega | (rw [hT.2 28 (by decide)]; exact hn))) (by decide) (fun v13 σ14 hOσ14 hT hqv13 => ?_)
      have hqv13 : 2 ≤ (σ14.1 111 8).toInt ∧ (σ14.1 111 8).toInt ≤ 1600 := hqv13
      have hW2 : WI 2 σ14.1 := WI.tr hOσ14 (by decide) (by decide) (by decide) hW2
      have hW28 : WI 28 σ14.1 := WI.tr hOσ14 (by decide) (by decide) (by decide) hW28
      have hW132 : WI 132 σ14.1 := WI.tr hOσ14 (by decide) (by decide) (by decide) hW132
      have hW158 : WI 158 σ14.1 := WI.tr hOσ14 (by decide) (by decide) (by decide) hW158
      have hW184 : WI 184 σ14.1 := WI.tr hOσ14 (by decide) (by decide) (by decide) hW184
      have hL : SI σ14.1 := SI.tr hOσ14 (by decide) (by decide) (by decide) (by decide) hL
      have hD : RD σ14.1 := RD.tr hOσ14 (by decide) (by decide) (by decide) (by decide) hD
      have hu : 2 ≤ (σ14.1 111 8).toInt ∧ (σ14.1 111 8).toInt ≤ 1600 := hqv13
      have ht : 0 ≤ (σ14.1 0 1).toInt ∧ (σ14.1 0 1).toInt ≤ 600 := by rw [hOσ14.2 0 (by decide)] <;> exact ht
      refine ok_gR (v := 111) hT rfl (hR 0 13 rfl) ?_
      refine ok_gC rfl ?_
      refine ok_zbT (Q := fun V σ => True) hT (s_X1_tallyAt hN (hR.tr hT) ) (fun _ h9 => absurd h9 List.not_mem_nil) (fun v16 σ17 hOσ17 hT hqv16 => ?_)
      have hW2 : WI 2 σ17.1 := WI.tr hOσ17 (by decide) (by decide) (by decide) hW2
      have hW28 : WI 28 σ17.1 := WI.tr hOσ17 (by decide) (by decide) (by decide) hW28
      have hW132 : WI 132 σ17.1 := WI.tr hOσ17 (by decide) (by decide) (by decide) hW132
      have hW158 : WI 158 σ17.1 := WI.tr hOσ17 (by decide) (by decide) (by decide) hW158
      have hW184 : WI 184 σ17.1 := WI.tr hOσ17 (by decide) (by decide) (by decide) hW184
      have hL : SI σ17.1 := SI.tr hOσ17 (by decide) (by decide) (by decide) (by decide) hL
      have hD : RD σ17.1 := RD.tr hOσ17 (by decide) (by decide) (by decide) (by decide) hD
      have hu : 2 ≤ (σ17.1 111 8).toInt ∧ (σ17.1 111 8).toInt ≤ 1600 := by rw [hOσ17.2 111 (by decide)] <;> exact hu
      have ht : 0 ≤ (σ17.1 0 1).toInt ∧ (σ17.1 0 1).toInt ≤ 600 := by rw [hOσ17.2 0 (by decide)] <;> exact ht
      exact ok_some ⟨hT, (show CF σ17.1 from by exact ⟨hW2, hW28, hW132, hW158, hW184, hL, hD, hu, ht⟩)⟩

set_option maxHeartbeats 4000000 in
set_option maxRecDepth 100000 in
theorem s_X11_order_n28 {N : Nat} (hN : 1048576 ≤ N) {x1 : Int32} {σ0 : zS}  (hR : RF σ0.2.2) (hNw : σ0.2.2 0 4 = 28) (hPw : σ0.2.2 0 5 = 2) (hC : CF σ0.1) : Ok (f_X11_order N 0 x1 σ0) (fun r => Tr [] σ0 r.2 ∧ (CF r.2.1)) := by
  have hT : Tr [] σ0 σ0 := Tr.rf
  obtain ⟨hW2, hW28, hW132, hW158, hW184, hL, hD, hu, ht⟩ := hC
  have hn := hW28.1
  have he := hW28.2.1
  have hD0 := hD
  have hL0 := hL
  have q10 := ti_one10 (x := σ0.1 28 0) hn.1 hn.2
  rw [f_X11_order.eq_1]
  refine ok_gC rfl ?_
  refine ok_zbT (Q := fun V σ => (V = 0 ∨ V = 1) ∧ (¬ V = 0 → 0 ≤ x1.toInt ∧ x1.toInt < (σ0.1 28 0).toInt)) hT (s_X11_isName_n28 hN (hR.tr hT) ((hT.1.1 0 4 (by decide)).trans hNw) (by first | exact hn | omega | (rw [hT.2 28 (by decide)]; exact hn))) (fun _ h9 => absurd h9 List.not_mem_nil) (fun v1 σ2 hOσ2 hT hqv1 => ?_)
  have hqv1 : (v1 = 0 ∨ v1 = 1) ∧ (¬ v1 = 0 → 0 ≤ x1.toInt ∧ x1.toInt < (σ0.1 28 0).toInt) := hqv1
  have hW2 : WI 2 σ2.1 := WI.tr hOσ2 (by decide) (by decide) (by decide) hW2
  have hW28 : WI 28 σ2.1 := WI.tr hOσ2 (by decide) (by decide) (by decide) hW28
  have hW132 : WI 132 σ2.1 := WI.tr hOσ2 (by decide) (by decide) (by decide) hW132
  have hW158 : WI 158 σ2.1 := WI.tr hOσ2 (by decide) (by decide) (by decide) hW158
  have hW184 : WI 184 σ2.1 := WI.tr hOσ2 (by decide) (by decide) (by decide) hW184
  have hL : SI σ2.1 := SI.tr hOσ2 (by decide) (by decide) (by decide) (by decide) hL
  have hD : RD σ2.1 := RD.tr hOσ2 (by decide) (by decide) (by decide) (by decide) hD
  have hu : 2 ≤ (σ2.1 111 8).toInt ∧ (σ2.1 111 8).toInt ≤ 1600 := by rw [hOσ2.2 111 (by decide)] <;> exact hu
  have ht : 0 ≤ (σ2.1 0 1).toInt ∧ (σ2.1 0 1).toInt ≤ 600 := by rw [hOσ2.2 0 (by decide)] <;> exact ht
  refine ok_if (fun hc3 => ?_) (fun hc3 => ?_)
  · exact ok_some ⟨hT, (show CF σ2.1 from by exact ⟨hW2, hW28, hW132, hW158, hW184, hL, hD, hu, ht⟩)⟩
  · have qhc3 := hqv1.2 hc3
    refine ok_gR (v := 28) hT rfl hNw ?_
    refine ok_gR (v := 32) hT rfl (hR 28 6 rfl) ?_
    refine ok_aIn rfl (by first | omega | decide | (have q1 := hD.1; have q2 := hD.2.1; simp only [Int32.le_iff_toInt_le, Int32.lt_iff_toInt_lt, ti_add, ti_sub, ti_mul, Int32.reduceToInt] at *; omega)) (by first | omega | decide | (have q1 := hD.1; have q2 := hD.2.1; simp only [Int32.le_iff_toInt_le, Int32.lt_iff_toInt_lt, ti_add, ti_sub, ti_mul, Int32.reduceToInt] at *; omega)) (fun v6 ev6 => ?_)
    exact ok_some ⟨hT, (show CF σ2.1 from by exact ⟨hW2, hW28, hW132, hW158, hW184, hL, hD, hu, ht⟩)⟩

set_option maxHeartbeats 4000000 in
set_option maxRecDepth 100000 in
theorem s_X11_best_n28 {N : Nat} (hN : 1048576 ≤ N) {x1 : Int32} {x2 : Int32} {σ0 : zS}  (hR : RF σ0.2.2) (hNw : σ0.2.2 0 4 = 28) (hPw : σ0.2.2 0 5 = 2) (hC : CF σ0.1) : Ok (f_X11_best N 0 x1 x2 σ0) (fun r => Tr [122, 123] σ0 r.2 ∧ (CF r.2.1)) := by
  have hT : Tr [122, 123] σ0 σ0 := Tr.rf
  obtain ⟨hW2, hW28, hW132, hW158, hW184, hL, hD, hu, ht⟩ := hC
  have hn := hW28.1
  have he := hW28.2.1
  have hD0 := hD
  have hL0 := hL
  have q10 := ti_one10 (x := σ0.1 28 0) hn.1 hn.2
  rw [f_X11_best.eq_1]
  refine ok_gC rfl ?_
  refine ok_zbT (Q := fun V σ => (V = 0 ∨ V = 1) ∧ (¬ V = 0 → 0 ≤ x1.toInt ∧ x1.toInt ≤ 9)) hT (s_X11_isRegister_n28 hN (hR.tr hT) ((hT.1.1 0 4 (by decide)).trans hNw) (by first | exact hn | omega | (rw [hT.2 28 (by decide)]; exact hn))) (fun _ h9 => absurd h9 List.not_mem_nil) (fun v1 σ2 hOσ2 hT hqv1 => ?_)
  have hqv1 : (v1 = 0 ∨ v1 = 1) ∧ (¬ v1 = 0 → 0 ≤ x1.toInt ∧ x1.toInt ≤ 9) := hqv1
  have hW2 : WI 2 σ2.1 := WI.tr hOσ2 (by decide) (by decide) (by decide) hW2
  have hW28 : WI 28 σ2.1 := WI.tr hOσ2 (by decide) (by decide) (by decide) hW28
  have hW132 : WI 132 σ2.1 := WI.tr hOσ2 (by decide) (by decide) (by decide) hW132
  have hW158 : WI 158 σ2.1 := WI.tr hOσ2 (by decide) (by decide) (by decide) hW158
  have hW184 : WI 184 σ2.1 := WI.tr hOσ2 (by decide) (by decide) (by decide) hW184
  have hL : SI σ2.1 := SI.tr hOσ2 (by decide) (by decide) (by decide) (by decide) hL
  have hD : RD σ2.1 := RD.tr hOσ2 (by decide) (by decide) (by decide) (by decide) hD
  have hu : 2 ≤ (σ2.1 111 8).toInt ∧ (σ2.1 111 8).toInt ≤ 1600 := by rw [hOσ2.2 111 (by decide)] <;> exact hu
  have ht : 0 ≤ (σ2.1 0 1).toInt ∧ (σ2.1 0 1).toInt ≤ 600 := by rw [hOσ2.2 0 (by decide)] <;> exact ht
  refine ok_if (fun hc3 => ?_) (fun hc3 => ?_)
  · exact ok_some ⟨hT, (show CF σ2.1 from by exact ⟨hW2, hW28, hW132, hW158, hW184, hL, hD, hu, ht⟩)⟩
  · have qhc3 := hqv1.2 hc3
    refine ok_if (fun hc4 => ?_) (fun hc4 => ?_)
    · exact ok_some ⟨hT, (show CF σ2.1 from by exact ⟨hW2, hW28, hW132, hW158, hW184, hL, hD, hu, ht⟩)⟩
    · refine ok_if (fun hc5 => ?_) (fun hc5 => ?_)
      · refine ok_gR (v := 28) hT rfl hNw ?_
        refine ok_gI0 hT rfl (by decide) ?_
        refine ok_if (fun hc8 => ?_) (fun hc8 => ?_)
        · refine ok_gR (v := 28) hT rfl hNw ?_
          refine ok_gI0 hT rfl (by decide) ?_
          refine ok_if (fun hc11 => ?_) (fun hc11 => ?_)
          · refine ok_gR (v := 120) hT rfl (hR 0 14 rfl) ?_
            refine ok_gR (v := 28) hT rfl hNw ?_
            refine ok_gR (v := 33) hT rfl (hR 28 7 rfl) ?_
            obtain ⟨q16, eq16, kq16⟩ := arrF hR (k := 33) (i := x1) rfl (by first | omega | decide | (have q1 := hD.1; have q2 := hD.2.1; simp only [Int32.le_iff_toInt_le, Int32.lt_iff_toInt_lt, ti_add, ti_sub, ti_mul, Int32.reduceToInt] at *; omega)) (by first | omega | decide | (have q1 := hD.1; have q2 := hD.2.1; simp only [Int32.le_iff_toInt_le, Int32.lt_iff_toInt_lt, ti_add, ti_sub, ti_mul, Int32.reduceToInt] at *; omega))
            refine ok_aR (v := q16) hT rfl (by first | omega | decide | (have q1 := hD.1; have q2 := hD.2.1; simp only [Int32.le_iff_toInt_le, Int32.lt_iff_toInt_lt, ti_add, ti_sub, ti_mul, Int32.reduceToInt] at *; omega)) (by first | omega | decide | (have q1 := hD.1; have q2 := hD.2.1; simp only [Int32.le_iff_toInt_le, Int32.lt_iff_toInt_lt, ti_add, ti_sub, ti_mul, Int32.reduceToInt] at *; omega)) eq16 ?_
            refine ok_gR (v := 28) hT rfl hNw ?_
            refine ok_gI0 hT rfl (by decide) ?_
            refine ok_gC rfl ?_
            refine ok_zbT (Q := fun V σ => True) hT (s_X3_weighAll hN (hR.tr hT) kq16) (by decide) (fun v19 σ20 hOσ20 hT hqv19 => ?_)
            have hW2 : WI 2 σ20.1 := WI.tr hOσ20 (by decide) (by decide) (by decide) hW2
            have hW28 : WI 28 σ20.1 := WI.tr hOσ20 (by decide) (by decide) (by decide) hW28
            have hW132 : WI 132 σ20.1 := WI.tr hOσ20 (by decide) (by decide) (by decide) hW132
            have hW158 : WI 158 σ20.1 := WI.tr hOσ20 (by decide) (by decide) (by decide) hW158
            have hW184 : WI 184 σ20.1 := WI.tr hOσ20 (by decide) (by decide) (by decide) hW184
            have hL : SI σ20.1 := SI.tr hOσ20 (by decide) (by decide) (by decide) (by decide) hL
            have hD : RD σ20.1 := RD.tr hOσ20 (by decide) (by decide) (by decide) (by decide) hD
            have hu : 2 ≤ (σ20.1 111 8).toInt ∧ (σ20.1 111 8).toInt ≤ 1600 := by rw [hOσ20.2 111 (by decide)] <;> exact hu
            have ht : 0 ≤ (σ20.1 0 1).toInt ∧ (σ20.1 0 1).toInt ≤ 600 := by rw [hOσ20.2 0 (by decide)] <;> exact ht
            refine ok_if (fun hc21 => ?_) (fun hc21 => ?_)
            · refine ok_gR (v := 120) hT rfl (hR 0 14 rfl) ?_
              refine ok_gC rfl ?_
              refine ok_zbT (Q := fun V σ => True) hT (s_X3_fewest hN (hR.tr hT) ) (fun _ h9 => absurd h9 List.not_mem_nil) (fun v23 σ24 hOσ24 hT hqv23 => ?_)
              have hW2 : WI 2 σ24.1 := WI.tr hOσ24 (by decide) (by decide) (by decide) hW2
              have hW28 : WI 28 σ24.1 := WI.tr hOσ24 (by decide) (by decide) (by decide) hW28
              have hW132 : WI 132 σ24.1 := WI.tr hOσ24 (by decide) (by decide) (by decide) hW132
              have hW158 : WI 158 σ24.1 := WI.tr hOσ24 (by decide) (by decide) (by decide) hW158
              have hW184 : WI 184 σ24.1 := WI.tr hOσ24 (by decide) (by decide) (by decide) hW184
              have hL : SI σ24.1 := SI.tr hOσ24 (by decide) (by decide) (by decide) (by decide) hL
              have hD : RD σ24.1 := RD.tr hOσ24 (by decide) (by decide) (by decide) (by decide) hD
              have hu : 2 ≤ (σ24.1 111 8).toInt ∧ (σ24.1 111 8).toInt ≤ 1600 := by rw [hOσ24.2 111 (by decide)] <;> exact hu
              have ht : 0 ≤ (σ24.1 0 1).toInt ∧ (σ24.1 0 1).toInt ≤ 600 := by rw [hOσ24.2 0 (by decide)] <;> exact ht
              exact ok_some ⟨hT, (show CF σ24.1 from by exact ⟨hW2, hW28, hW132, hW158, hW184, hL, hD, hu, ht⟩)⟩
            · refine ok_gR (v := 120) hT rfl (hR 0 14 rfl) ?_
              refine ok_gC rfl ?_
              refine ok_zbT (Q := fun V σ => True) hT (s_X3_nameAt hN (hR.tr hT) ) (fun _ h9 => absurd h9 List.not_mem_nil) (fun v26 σ27 hOσ27 hT hqv26 => ?_)
              have hW2 : WI 2 σ27.1 := WI.tr hOσ27 (by decide) (by decide) (by decide) hW2
              have hW28 : WI 28 σ27.1 := WI.tr hOσ27 (by decide) (by decide) (by decide) hW28
              have hW132 : WI 132 σ27.1 := WI.tr hOσ27 (by decide) (by decide) (by decide) hW132
              have hW158 : WI 158 σ27.1 := WI.tr hOσ27 (by decide) (by decide) (by decide) hW158
              have hW184 : WI 184 σ27.1 := WI.tr hOσ27 (by decide) (by decide) (by decide) hW184
              have hL : SI σ27.1 := SI.tr hOσ27 (by decide) (by decide) (by decide) (by decide) hL
              have hD : RD σ27.1 := RD.tr hOσ27 (by decide) (by decide) (by decide) (by decide) hD
              have hu : 2 ≤ (σ27.1 111 8).toInt ∧ (σ27.1 111 8).toInt ≤ 1600 := by rw [hOσ27.2 111 (by decide)] <;> exact hu
              have ht : 0 ≤ (σ27.1 0 1).toInt ∧ (σ27.1 0 1).toInt ≤ 600 := by rw [hOσ27.2 0 (by decide)] <;> exact ht
              exact ok_some ⟨hT, (show CF σ27.1 from by exact ⟨hW2, hW28, hW132, hW158, hW184, hL, hD, hu, ht⟩)⟩
          · exact ok_some ⟨hT, (show CF σ2.1 from by exact ⟨hW2, hW28, hW132, hW158, hW184, hL, hD, hu, ht⟩)⟩
        · exact ok_some ⟨hT, (show CF σ2.1 from by exact ⟨hW2, hW28, hW132, hW158, hW184, hL, hD, hu, ht⟩)⟩
      · exact ok_some ⟨hT, (show CF σ2.1 from by exact ⟨hW2, hW28, hW132, hW158, hW184, hL, hD, hu, ht⟩)⟩

set_option maxHeartbeats 4000000 in
set_option maxRecDepth 100000 in
theorem s_X11_sift_n28 {N : Nat} (hN : 1048576 ≤ N) {x1 : Int32} {σ0 : zS}  (hR : RF σ0.2.2) (hNw : σ0.2.2 0 4 = 28) (hPw : σ0.2.2 0 5 = 2) (hC : CF σ0.1) : Ok (f_X11_sift N 0 x1 σ0) (fun r => Tr [32, 111, 112, 113, 114, 115, 116, 117, 118, 119] σ0 r.2 ∧ (CF r.2.1)) := by
  have hT : Tr [32, 111, 112, 113, 114, 115, 116, 117, 118, 119] σ0 σ0 := Tr.rf
  obtain ⟨hW2, hW28, hW132, hW158, hW184, hL, hD, hu, ht⟩ := hC
  have hn := hW28.1
  have he := hW28.2.1
  have hD0 := hD
  have hL0 := hL
  have q10 := ti_one10 (x := σ0.1 28 0) hn.1 hn.2
  rw [f_X11_sift.eq_1]
  refine ok_gC rfl ?_
  refine ok_zbT (Q := fun V σ => (V = 0 ∨ V = 1) ∧ (¬ V = 0 → 0 ≤ x1.toInt ∧ x1.toInt ≤ 9)) hT (s_X11_isRegister_n28 hN (hR.tr hT) ((hT.1.1 0 4 (by decide)).trans hNw) (by first | exact hn | omega | (rw [hT.2 28 (by decide)]; exact hn))) (fun _ h9 => absurd h9 List.not_mem_nil) (fun v1 σ2 hOσ2 hT hqv1 => ?_)
  have hqv1 : (v1 = 0 ∨ v1 = 1) ∧ (¬ v1 = 0 → 0 ≤ x1.toInt ∧ x1.toInt ≤ 9) := hqv1
  have hW2 : WI 2 σ2.1 := WI.tr hOσ2 (by decide) (by decide) (by decide) hW2
  have hW28 : WI 28 σ2.1 := WI.tr hOσ2 (by decide) (by decide) (by decide) hW28
  have hW132 : WI 132 σ2.1 := WI.tr hOσ2 (by decide) (by decide) (by decide) hW132
  have hW158 : WI 158 σ2.1 := WI.tr hOσ2 (by decide) (by decide) (by decide) hW158
  have hW184 : WI 184 σ2.1 := WI.tr hOσ2 (by decide) (by decide) (by decide) hW184
  have hL : SI σ2.1 := SI.tr hOσ2 (by decide) (by decide) (by decide) (by decide) hL
  have hD : RD σ2.1 := RD.tr hOσ2 (by decide) (by decide) (by decide) (by decide) hD
  have hu : 2 ≤ (σ2.1 111 8).toInt ∧ (σ2.1 111 8).toInt ≤ 1600 := by rw [hOσ2.2 111 (by decide)] <;> exact hu
  have ht : 0 ≤ (σ2.1 0 1).toInt ∧ (σ2.1 0 1).toInt ≤ 600 := by rw [hOσ2.2 0 (by decide)] <;> exact ht
  refine ok_if (fun hc3 => ?_) (fun hc3 => ?_)
  · exact ok_some ⟨hT, (show CF σ2.1 from by exact ⟨hW2, hW28, hW132, hW158, hW184, hL, hD, hu, ht⟩)⟩
  · have qhc3 := hqv1.2 hc3
    refine ok_gR (v := 120) hT rfl (hR 0 14 rfl) ?_
    refine ok_gR (v := 28) hT rfl hNw ?_
    refine ok_gR (v := 28) hT rfl hNw ?_
    refine ok_gR (v := 33) hT rfl (hR 28 7 rfl) ?_
    obtain ⟨q9, eq9, kq9⟩ := arrF hR (k := 33) (i := x1) rfl (by first | omega | decide | (have q1 := hD.1; have q2 := hD.2.1; simp only [Int32.le_iff_toInt_le, Int32.lt_iff_toInt_lt, ti_add, ti_sub, ti_mul, Int32.reduceToInt] at *; omega)) (by first | omega | decide | (have q1 := hD.1; have q2 := hD.2.1; simp only [Int32.le_iff_toInt_le, Int32.lt_iff_toInt_lt, ti_add, ti_sub, ti_mul, Int32.reduceToInt] at *; omega))
    refine ok_aR (v := q9) hT rfl (by first | omega | decide | (have q1 := hD.1; have q2 := hD.2.1; simp only [Int32.le_iff_toInt_le, Int32.lt_iff_toInt_lt, ti_add, ti_sub, ti_mul, Int32.reduceToInt] at *; omega)) (by first | omega | decide | (have q1 := hD.1; have q2 := hD.2.1; simp only [Int32.le_iff_toInt_le, Int32.lt_iff_toInt_lt, ti_add, ti_sub, ti_mul, Int32.reduceToInt] at *; omega)) eq9 ?_
    refine ok_gR (v := 111) hT rfl (hR 0 13 rfl) ?_
    refine ok_gC rfl ?_
    refine ok_zbT (Q := fun V σ => 2 ≤ (σ.1 111 8).toInt ∧ (σ.1 111 8).toInt ≤ 1600) hT (s_X3_siftAll_28_111 hN (hR.tr hT) kq9 (hu) (by first | exact hn | omega | (rw [hT.2 28 (by decide)]; exact hn))) (by decide) (fun v11 σ12 hOσ12 hT hqv11 => ?_)
    have hqv11 : 2 ≤ (σ12.1 111 8).toInt ∧ (σ12.1 111 8).toInt ≤ 1600 := hqv11
    have hW2 : WI 2 σ12.1 := WI.tr hOσ12 (by decide) (by decide) (by decide) hW2
    have hW28 : WI 28 σ12.1 := WI.tr hOσ12 (by decide) (by decide) (by decide) hW28
    have hW132 : WI 132 σ12.1 := WI.tr hOσ12 (by decide) (by decide) (by decide) hW132
    have hW158 : WI 158 σ12.1 := WI.tr hOσ12 (by decide) (by decide) (by decide) hW158
    have hW184 : WI 184 σ12.1 := WI.tr hOσ12 (by decide) (by decide) (by decide) hW184
    have hL : SI σ12.1 := SI.tr hOσ12 (by decide) (by decide) (by decide) (by decide) hL
    have hD : RD σ12.1 := RD.tr hOσ12 (by decide) (by decide) (by decide) (by decide) hD
    have hu : 2 ≤ (σ12.1 111 8).toInt ∧ (σ12.1 111 8).toInt ≤ 1600 := hqv11
    have ht : 0 ≤ (σ12.1 0 1).toInt ∧ (σ12.1 0 1).toInt ≤ 600 := by rw [hOσ12.2 0 (by decide)] <;> exact ht
    exact ok_some ⟨hT, (show CF σ12.1 from by exact ⟨hW2, hW28, hW132, hW158, hW184, hL, hD, hu, ht⟩)⟩

set_option maxHeartbeats 4000000 in
set_option maxRecDepth 100000 in
theorem s_X11_map_n28 {N : Nat} (hN : 1048576 ≤ N) {x1 : Int32} {x2 : Int32} {σ0 : zS}  (hR : RF σ0.2.2) (hNw : σ0.2.2 0 4 = 28) (hPw : σ0.2.2 0 5 = 2) (hC : CF σ0.1) : Ok (f_X11_map N 0 x1 x2 σ0) (fun r => Tr [125] σ0 r.2 ∧ (CF r.2.1)) := by
  have hT : Tr [125] σ0 σ0 := Tr.rf
  obtain ⟨hW2, hW28, hW132, hW158, hW184, hL, hD, hu, ht⟩ := hC
  have hn := hW28.1
  have he := hW28.2.1
  have hD0 := hD
  have hL0 := hL
  have q10 := ti_one10 (x := σ0.1 28 0) hn.1 hn.2
  rw [f_X11_map.eq_1]
  refine ok_gC rfl ?_
  refine ok_zbT (Q := fun V σ => (V = 0 ∨ V = 1) ∧ (¬ V = 0 → 0 ≤ x1.toInt ∧ x1.toInt ≤ 9)) hT (s_X11_isRegister_n28 hN (hR.tr hT) ((hT.1.1 0 4 (by decide)).trans hNw) (by first | exact hn | omega | (rw [hT.2 28 (by decide)]; exact hn))) (fun _ h9 => absurd h9 List.not_mem_nil) (fun v1 σ2 hOσ2 hT hqv1 => ?_)
  have hqv1 : (v1 = 0 ∨ v1 = 1) ∧ (¬ v1 = 0 → 0 ≤ x1.toInt ∧ x1.toInt ≤ 9) := hqv1
  have hW2 : WI 2 σ2.1 := WI.tr hOσ2 (by decide) (by decide) (by decide) hW2
  have hW28 : WI 28 σ2.1 := WI.tr hOσ2 (by decide) (by decide) (by decide) hW28
  have hW132 : WI 132 σ2.1 := WI.tr hOσ2 (by decide) (by decide) (by decide) hW132
  have hW158 : WI 158 σ2.1 := WI.tr hOσ2 (by decide) (by decide) (by decide) hW158
  have hW184 : WI 184 σ2.1 := WI.tr hOσ2 (by decide) (by decide) (by decide) hW184
  have hL : SI σ2.1 := SI.tr hOσ2 (by decide) (by decide) (by decide) (by decide) hL
  have hD : RD σ2.1 := RD.tr hOσ2 (by decide) (by decide) (by decide) (by decide) hD
  have hu : 2 ≤ (σ2.1 111 8).toInt ∧ (σ2.1 111 8).toInt ≤ 1600 := by rw [hOσ2.2 111 (by decide)] <;> exact hu
  have ht : 0 ≤ (σ2.1 0 1).toInt ∧ (σ2.1 0 1).toInt ≤ 600 := by rw [hOσ2.2 0 (by decide)] <;> exact ht
  refine ok_if (fun hc3 => ?_) (fun hc3 => ?_)
  · exact ok_some ⟨hT, (show CF σ2.1 from by exact ⟨hW2, hW28, hW132, hW158, hW184, hL, hD, hu, ht⟩)⟩
  · have qhc3 := hqv1.2 hc3
    refine ok_if (fun hc4 => ?_) (fun hc4 => ?_)
    · exact ok_some ⟨hT, (show CF σ2.1 from by exact ⟨hW2, hW28, hW132, hW158, hW184, hL, hD, hu, ht⟩)⟩
    · refine ok_if (fun hc5 => ?_) (fun hc5 => ?_)
      · refine ok_gR (v := 124) hT rfl (hR 0 15 rfl) ?_
        refine ok_gR (v := 28) hT rfl hNw ?_
        refine ok_gR (v := 128) hT rfl (hR 0 17 rfl) ?_
        refine ok_gC rfl ?_
        refine ok_zbT (Q := fun V σ => True) hT (s_X6_findSets_28 hN (hR.tr hT) rfl) (by decide) (fun v9 σ10 hOσ10 hT hqv9 => ?_)
        have hW2 : WI 2 σ10.1 := WI.tr hOσ10 (by decide) (by decide) (by decide) hW2
        have hW28 : WI 28 σ10.1 := WI.tr hOσ10 (by decide) (by decide) (by decide) hW28
        have hW132 : WI 132 σ10.1 := WI.tr hOσ10 (by decide) (by decide) (by decide) hW132
        have hW158 : WI 158 σ10.1 := WI.tr hOσ10 (by decide) (by decide) (by decide) hW158
        have hW184 : WI 184 σ10.1 := WI.tr hOσ10 (by decide) (by decide) (by decide) hW184
        have hL : SI σ10.1 := SI.tr hOσ10 (by decide) (by decide) (by decide) (by decide) hL
        have hD : RD σ10.1 := RD.tr hOσ10 (by decide) (by decide) (by decide) (by decide) hD
        have hu : 2 ≤ (σ10.1 111 8).toInt ∧ (σ10.1 111 8).toInt ≤ 1600 := by rw [hOσ10.2 111 (by decide)] <;> exact hu
        have ht : 0 ≤ (σ10.1 0 1).toInt ∧ (σ10.1 0 1).toInt ≤ 600 := by rw [hOσ10.2 0 (by decide)] <;> exact ht
        refine ok_gC rfl ?_
        refine ok_zbT (Q := fun V σ => True) hT (s_X11_store_n28 hN (hR.tr hT) ((hT.1.1 0 4 (by decide)).trans hNw) (by first | exact hn | omega | (rw [hT.2 28 (by decide)]; exact hn))) (fun _ h9 => absurd h9 List.not_mem_nil) (fun v11 σ12 hOσ12 hT hqv11 => ?_)
        have hW2 : WI 2 σ12.1 := WI.tr hOσ12 (by decide) (by decide) (by decide) hW2
        have hW28 : WI 28 σ12.1 := WI.tr hOσ12 (by decide) (by decide) (by decide) hW28
        have hW132 : WI 132 σ12.1 := WI.tr hOσ12 (by decide) (by decide) (by decide) hW132
        have hW158 : WI 158 σ12.1 := WI.tr hOσ12 (by decide) (by decide) (by decide) hW158
        have hW184 : WI 184 σ12.1 := WI.tr hOσ12 (by decide) (by decide) (by decide) hW184
        have hL : SI σ12.1 := SI.tr hOσ12 (by decide) (by decide) (by decide) (by decide) hL
        have hD : RD σ12.1 := RD.tr hOσ12 (by decide) (by decide) (by decide) (by decide) hD
        have hu : 2 ≤ (σ12.1 111 8).toInt ∧ (σ12.1 111 8).toInt ≤ 1600 := by rw [hOσ12.2 111 (by decide)] <;> exact hu
        have ht : 0 ≤ (σ12.1 0 1).toInt ∧ (σ12.1 0 1).toInt ≤ 600 := by rw [hOσ12.2 0 (by decide)] <;> exact ht
        exact ok_some ⟨hT, (show CF σ12.1 from by exact ⟨hW2, hW28, hW132, hW158, hW184, hL, hD, hu, ht⟩)⟩
      · exact ok_some ⟨hT, (show CF σ2.1 from by exact ⟨hW2, hW28, hW132, hW158, hW184, hL, hD, hu, ht⟩)⟩

set_option maxHeartbeats 4000000 in
set_option maxRecDepth 100000 in
theorem s_X11_count_n28 {N : Nat} (hN : 1048576 ≤ N) {x1 : Int32} {σ0 : zS}  (hR : RF σ0.2.2) (hNw : σ0.2.2 0 4 = 28) (hPw : σ0.2.2 0 5 = 2) (hC : CF σ0.1) : Ok (f_X11_count N 0 x1 σ0) (fun r => Tr [] σ0 r.2 ∧ (CF r.2.1)) := by
  have hT : Tr [] σ0 σ0 := Tr.rf
  obtain ⟨hW2, hW28, hW132, hW158, hW184, hL, hD, hu, ht⟩ := hC
  have hn := hW28.1
  have he := hW28.2.1
  have hD0 := hD
  have hL0 := hL
  have q10 := ti_one10 (x := σ0.1 28 0) hn.1 hn.2
  rw [f_X11_count.eq_1]
  refine ok_if (fun hc1 => ?_) (fun hc1 => ?_)
  · refine ok_gR (v := 28) hT rfl hNw ?_
    refine ok_gI0 hT rfl (by decide) ?_
    exact ok_some ⟨hT, (show CF σ0.1 from by exact ⟨hW2, hW28, hW132, hW158, hW184, hL, hD, hu, ht⟩)⟩
  refine ok_if (fun hc4 => ?_) (fun hc4 => ?_)
  · refine ok_gR (v := 28) hT rfl hNw ?_
    refine ok_gI0 hT rfl (by decide) ?_
    exact ok_some ⟨hT, (show CF σ0.1 from by exact ⟨hW2, hW28, hW132, hW158, hW184, hL, hD, hu, ht⟩)⟩
  refine ok_if (fun hc7 => ?_) (fun hc7 => ?_)
  · refine ok_gR (v := 28) hT rfl hNw ?_
    refine ok_gI0 hT rfl (by decide) ?_
    exact ok_some ⟨hT, (show CF σ0.1 from by exact ⟨hW2, hW28, hW132, hW158, hW184, hL, hD, hu, ht⟩)⟩
  refine ok_if (fun hc10 => ?_) (fun hc10 => ?_)
  · refine ok_gI0 hT rfl (by decide) ?_
    exact ok_some ⟨hT, (show CF σ0.1 from by exact ⟨hW2, hW28, hW132, hW158, hW184, hL, hD, hu, ht⟩)⟩
  refine ok_if (fun hc12 => ?_) (fun hc12 => ?_)
  · refine ok_gR (v := 28) hT rfl hNw ?_
    refine ok_gC rfl ?_
    refine ok_zbT (Q := fun V σ => True) hT (s_X10_filledRegisters_28 hN (hR.tr hT) ) (fun _ h9 => absurd h9 List.not_mem_nil) (fun v14 σ15 hOσ15 hT hqv14 => ?_)
    have hW2 : WI 2 σ15.1 := WI.tr hOσ15 (by decide) (by decide) (by decide) hW2
    have hW28 : WI 28 σ15.1 := WI.tr hOσ15 (by decide) (by decide) (by decide) hW28
    have hW132 : WI 132 σ15.1 := WI.tr hOσ15 (by decide) (by decide) (by decide) hW132
    have hW158 : WI 158 σ15.1 := WI.tr hOσ15 (by decide) (by decide) (by decide) hW158
    have hW184 : WI 184 σ15.1 := WI.tr hOσ15 (by decide) (by decide) (by decide) hW184
    have hL : SI σ15.1 := SI.tr hOσ15 (by decide) (by decide) (by decide) (by decide) hL
    have hD : RD σ15.1 := RD.tr hOσ15 (by decide) (by decide) (by decide) (by decide) hD
    have hu : 2 ≤ (σ15.1 111 8).toInt ∧ (σ15.1 111 8).toInt ≤ 1600 := by rw [hOσ15.2 111 (by decide)] <;> exact hu
    have ht : 0 ≤ (σ15.1 0 1).toInt ∧ (σ15.1 0 1).toInt ≤ 600 := by rw [hOσ15.2 0 (by decide)] <;> exact ht
    exact ok_some ⟨hT, (show CF σ15.1 from by exact ⟨hW2, hW28, hW132, hW158, hW184, hL, hD, hu, ht⟩)⟩
  refine ok_if (fun hc16 => ?_) (fun hc16 => ?_)
  · refine ok_gC rfl ?_
    refine ok_zbT (Q := fun V σ => (V = 0 ∨ V = 1) ∧ (¬ V = 0 → 0 < (σ0.1 28 0).toInt)) hT (s_X11_isWorld_n28 hN (hR.tr hT) ((hT.1.1 0 4 (by decide)).trans hNw) (by first | exact hn | omega | (rw [hT.2 28 (by decide)]; exact hn))) (fun _ h9 => absurd h9 List.not_mem_nil) (fun v17 σ18 hOσ18 hT hqv17 => ?_)
    have hqv17 : (v17 = 0 ∨ v17 = 1) ∧ (¬ v17 = 0 → 0 < (σ0.1 28 0).toInt) := hqv17
    have hW2 : WI 2 σ18.1 := WI.tr hOσ18 (by decide) (by decide) (by decide) hW2
    have hW28 : WI 28 σ18.1 := WI.tr hOσ18 (by decide) (by decide) (by decide) hW28
    have hW132 : WI 132 σ18.1 := WI.tr hOσ18 (by decide) (by decide) (by decide) hW132
    have hW158 : WI 158 σ18.1 := WI.tr hOσ18 (by decide) (by decide) (by decide) hW158
    have hW184 : WI 184 σ18.1 := WI.tr hOσ18 (by decide) (by decide) (by decide) hW184
    have hL : SI σ18.1 := SI.tr hOσ18 (by decide) (by decide) (by decide) (by decide) hL
    have hD : RD σ18.1 := RD.tr hOσ18 (by decide) (by decide) (by decide) (by decide) hD
    have hu : 2 ≤ (σ18.1 111 8).toInt ∧ (σ18.1 111 8).toInt ≤ 1600 := by rw [hOσ18.2 111 (by decide)] <;> exact hu
    have ht : 0 ≤ (σ18.1 0 1).toInt ∧ (σ18.1 0 1).toInt ≤ 600 := by rw [hOσ18.2 0 (by decide)] <;> exact ht
    refine ok_if (fun hc19 => ?_) (fun hc19 => ?_)
    · exact ok_some ⟨hT, (show CF σ18.1 from by exact ⟨hW2, hW28, hW132, hW158, hW184, hL, hD, hu, ht⟩)⟩
    · have qhc19 := hqv17.2 hc19
      refine ok_gR (v := 28) hT rfl hNw ?_
      refine ok_gC rfl ?_
      refine ok_zbT (Q := fun V σ => True) hT (s_X10_unlikeFamilies_28 hN (hR.tr hT) ) (fun _ h9 => absurd h9 List.not_mem_nil) (fun v21 σ22 hOσ22 hT hqv21 => ?_)
      have hW2 : WI 2 σ22.1 := WI.tr hOσ22 (by decide) (by decide) (by decide) hW2
      have hW28 : WI 28 σ22.1 := WI.tr hOσ22 (by decide) (by decide) (by decide) hW28
      have hW132 : WI 132 σ22.1 := WI.tr hOσ22 (by decide) (by decide) (by decide) hW132
      have hW158 : WI 158 σ22.1 := WI.tr hOσ22 (by decide) (by decide) (by decide) hW158
      have hW184 : WI 184 σ22.1 := WI.tr hOσ22 (by decide) (by decide) (by decide) hW184
      have hL : SI σ22.1 := SI.tr hOσ22 (by decide) (by decide) (by decide) (by decide) hL
      have hD : RD σ22.1 := RD.tr hOσ22 (by decide) (by decide) (by decide) (by decide) hD
      have hu : 2 ≤ (σ22.1 111 8).toInt ∧ (σ22.1 111 8).toInt ≤ 1600 := by rw [hOσ22.2 111 (by decide)] <;> exact hu
      have ht : 0 ≤ (σ22.1 0 1).toInt ∧ (σ22.1 0 1).toInt ≤ 600 := by rw [hOσ22.2 0 (by decide)] <;> exact ht
      exact ok_some ⟨hT, (show CF σ22.1 from by exact ⟨hW2, hW28, hW132, hW158, hW184, hL, hD, hu, ht⟩)⟩
  refine ok_if (fun hc23 => ?_) (fun hc23 => ?_)
  · refine ok_gC rfl ?_
    refine ok_zbT (Q := fun V σ => True) hT (s_X11_rowsInSlots hN (hR.tr hT) ) (fun _ h9 => absurd h9 List.not_mem_nil) (fun v24 σ25 hOσ25 hT hqv24 => ?_)
    have hW2 : WI 2 σ25.1 := WI.tr hOσ25 (by decide) (by decide) (by decide) hW2
    have hW28 : WI 28 σ25.1 := WI.tr hOσ25 (by decide) (by decide) (by decide) hW28
    have hW132 : WI 132 σ25.1 := WI.tr hOσ25 (by decide) (by decide) (by decide) hW132
    have hW158 : WI 158 σ25.1 := WI.tr hOσ25 (by decide) (by decide) (by decide) hW158
    have hW184 : WI 184 σ25.1 := WI.tr hOσ25 (by decide) (by decide) (by decide) hW184
    have hL : SI σ25.1 := SI.tr hOσ25 (by decide) (by decide) (by decide) (by decide) hL
    have hD : RD σ25.1 := RD.tr hOσ25 (by decide) (by decide) (by decide) (by decide) hD
    have hu : 2 ≤ (σ25.1 111 8).toInt ∧ (σ25.1 111 8).toInt ≤ 1600 := by rw [hOσ25.2 111 (by decide)] <;> exact hu
    have ht : 0 ≤ (σ25.1 0 1).toInt ∧ (σ25.1 0 1).toInt ≤ 600 := by rw [hOσ25.2 0 (by decide)] <;> exact ht
    exact ok_some ⟨hT, (show CF σ25.1 from by exact ⟨hW2, hW28, hW132, hW158, hW184, hL, hD, hu, ht⟩)⟩
  exact ok_some ⟨hT, (show CF σ0.1 from by exact ⟨hW2, hW28, hW132, hW158, hW184, hL, hD, hu, ht⟩)⟩

set_option maxHeartbeats 4000000 in
set_option maxRecDepth 100000 in
theorem s_X11_level_n28 {N : Nat} (hN : 1048576 ≤ N) {x1 : Int32} {x2 : Int32} {x3 : Int32} {σ0 : zS}  (hR : RF σ0.2.2) (hNw : σ0.2.2 0 4 = 28) (hPw : σ0.2.2 0 5 = 2) (hC : CF σ0.1) : Ok (f_X11_level N 0 x1 x2 x3 σ0) (fun r => Tr [] σ0 r.2 ∧ (CF r.2.1)) := by
  have hT : Tr [] σ0 σ0 := Tr.rf
  obtain ⟨hW2, hW28, hW132, hW158, hW184, hL, hD, hu, ht⟩ := hC
  have hn := hW28.1
  have he := hW28.2.1
  have hD0 := hD
  have hL0 := hL
  have q10 := ti_one10 (x := σ0.1 28 0) hn.1 hn.2
  rw [f_X11_level.eq_1]
  refine ok_gC rfl ?_
  refine ok_zbT (Q := fun V σ => (V = 0 ∨ V = 1) ∧ (¬ V = 0 → 0 ≤ x1.toInt ∧ x1.toInt ≤ 9)) hT (s_X11_isRegister_n28 hN (hR.tr hT) ((hT.1.1 0 4 (by decide)).trans hNw) (by first | exact hn | omega | (rw [hT.2 28 (by decide)]; exact hn))) (fun _ h9 => absurd h9 List.not_mem_nil) (fun v1 σ2 hOσ2 hT hqv1 => ?_)
  have hqv1 : (v1 = 0 ∨ v1 = 1) ∧ (¬ v1 = 0 → 0 ≤ x1.toInt ∧ x1.toInt ≤ 9) := hqv1
  have hW2 : WI 2 σ2.1 := WI.tr hOσ2 (by decide) (by decide) (by decide) hW2
  have hW28 : WI 28 σ2.1 := WI.tr hOσ2 (by decide) (by decide) (by decide) hW28
  have hW132 : WI 132 σ2.1 := WI.tr hOσ2 (by decide) (by decide) (by decide) hW132
  have hW158 : WI 158 σ2.1 := WI.tr hOσ2 (by decide) (by decide) (by decide) hW158
  have hW184 : WI 184 σ2.1 := WI.tr hOσ2 (by decide) (by decide) (by decide) hW184
  have hL : SI σ2.1 := SI.tr hOσ2 (by decide) (by decide) (by decide) (by decide) hL
  have hD : RD σ2.1 := RD.tr hOσ2 (by decide) (by decide) (by decide) (by decide) hD
  have hu : 2 ≤ (σ2.1 111 8).toInt ∧ (σ2.1 111 8).toInt ≤ 1600 := by rw [hOσ2.2 111 (by decide)] <;> exact hu
  have ht : 0 ≤ (σ2.1 0 1).toInt ∧ (σ2.1 0 1).toInt ≤ 600 := by rw [hOσ2.2 0 (by decide)] <;> exact ht
  refine ok_if (fun hc3 => ?_) (fun hc3 => ?_)
  · exact ok_some ⟨hT, (show CF σ2.1 from by exact ⟨hW2, hW28, hW132, hW158, hW184, hL, hD, hu, ht⟩)⟩
  · have qhc3 := hqv1.2 hc3
    refine ok_gC rfl ?_
    refine ok_zbT (Q := fun V σ => (V = 0 ∨ V = 1) ∧ (¬ V = 0 → 0 ≤ x2.toInt ∧ x2.toInt ≤ 9)) hT (s_X11_isRegister_n28 hN (hR.tr hT) ((hT.1.1 0 4 (by decide)).trans hNw) (by first | exact hn | omega | (rw [hT.2 28 (by decide)]; exact hn))) (fun _ h9 => absurd h9 List.not_mem_nil) (fun v4 σ5 hOσ5 hT hqv4 => ?_)
    have hqv4 : (v4 = 0 ∨ v4 = 1) ∧ (¬ v4 = 0 → 0 ≤ x2.toInt ∧ x2.toInt ≤ 9) := hqv4
    have hW2 : WI 2 σ5.1 := WI.tr hOσ5 (by decide) (by decide) (by decide) hW2
    have hW28 : WI 28 σ5.1 := WI.tr hOσ5 (by decide) (by decide) (by decide) hW28
    have hW132 : WI 132 σ5.1 := WI.tr hOσ5 (by decide) (by decide) (by decide) hW132
    have hW158 : WI 158 σ5.1 := WI.tr hOσ5 (by decide) (by decide) (by decide) hW158
    have hW184 : WI 184 σ5.1 := WI.tr hOσ5 (by decide) (by decide) (by decide) hW184
    have hL : SI σ5.1 := SI.tr hOσ5 (by decide) (by decide) (by decide) (by decide) hL
    have hD : RD σ5.1 := RD.tr hOσ5 (by decide) (by decide) (by decide) (by decide) hD
    have hu : 2 ≤ (σ5.1 111 8).toInt ∧ (σ5.1 111 8).toInt ≤ 1600 := by rw [hOσ5.2 111 (by decide)] <;> exact hu
    have ht : 0 ≤ (σ5.1 0 1).toInt ∧ (σ5.1 0 1).toInt ≤ 600 := by rw [hOσ5.2 0 (by decide)] <;> exact ht
    refine ok_if (fun hc6 => ?_) (fun hc6 => ?_)
    · exact ok_some ⟨hT, (show CF σ5.1 from by exact ⟨hW2, hW28, hW132, hW158, hW184, hL, hD, hu, ht⟩)⟩
    · have qhc6 := hqv4.2 hc6
      refine ok_if (fun hc7 => ?_) (fun hc7 => ?_)
      · exact ok_some ⟨hT, (show CF σ5.1 from by exact ⟨hW2, hW28, hW132, hW158, hW184, hL, hD, hu, ht⟩)⟩
      · refine ok_if (fun hc8 => ?_) (fun hc8 => ?_)
        · refine ok_gR (v := 28) hT rfl hNw ?_
          refine ok_gR (v := 33) hT rfl (hR 28 7 rfl) ?_
          obtain ⟨q12, eq12, kq12⟩ := arrF hR (k := 33) (i := x2) rfl (by first | omega | decide | (have q1 := hD.1; have q2 := hD.2.1; simp only [Int32.le_iff_toInt_le, Int32.lt_iff_toInt_lt, ti_add, ti_sub, ti_mul, Int32.reduceToInt] at *; omega)) (by first | omega | decide | (have q1 := hD.1; have q2 := hD.2.1; simp only [Int32.le_iff_toInt_le, Int32.lt_iff_toInt_lt, ti_add, ti_sub, ti_mul, Int32.reduceToInt] at *; omega))
          refine ok_aR (v := q12) hT rfl (by first | omega | decide | (have q1 := hD.1; have q2 := hD.2.1; simp only [Int32.le_iff_toInt_le, Int32.lt_iff_toInt_lt, ti_add, ti_sub, ti_mul, Int32.reduceToInt] at *; omega)) (by first | omega | decide | (have q1 := hD.1; have q2 := hD.2.1; simp only [Int32.le_iff_toInt_le, Int32.lt_iff_toInt_lt, ti_add, ti_sub, ti_mul, Int32.reduceToInt] at *; omega)) eq12 ?_
          refine ok_gR (v := 128) hT rfl (hR 0 17 rfl) ?_
          refine ok_gC rfl ?_
          refine ok_zbT (Q := fun V σ => True) hT (s_X2_clear hN (hR.tr hT) rfl) (fun _ h9 => absurd h9 List.not_mem_nil) (fun v14 σ15 hOσ15 hT hqv14 => ?_)
          have hW2 : WI 2 σ15.1 := WI.tr hOσ15 (by decide) (by decide) (by decide) hW2
          have hW28 : WI 28 σ15.1 := WI.tr hOσ15 (by decide) (by decide) (by decide) hW28
          have hW132 : WI 132 σ15.1 := WI.tr hOσ15 (by decide) (by decide) (by decide) hW132
          have hW158 : WI 158 σ15.1 := WI.tr hOσ15 (by decide) (by decide) (by decide) hW158
          have hW184 : WI 184 σ15.1 := WI.tr hOσ15 (by decide) (by decide) (by decide) hW184
          have hL : SI σ15.1 := SI.tr hOσ15 (by decide) (by decide) (by decide) (by decide) hL
          have hD : RD σ15.1 := RD.tr hOσ15 (by decide) (by decide) (by decide) (by decide) hD
          have hu : 2 ≤ (σ15.1 111 8).toInt ∧ (σ15.1 111 8).toInt ≤ 1600 := by rw [hOσ15.2 111 (by decide)] <;> exact hu
          have ht : 0 ≤ (σ15.1 0 1).toInt ∧ (σ15.1 0 1).toInt ≤ 600 := by rw [hOσ15.2 0 (by decide)] <;> exact ht
          refine ok_lp (fun t : Int32 × zS => Tr [] σ0 (t.2) ∧ (0 ≤ (t.1).toInt) ∧ (WI 2 (t.2).1) ∧ (WI 28 (t.2).1) ∧ (WI 132 (t.2).1) ∧ (WI 158 (t.2).1) ∧ (WI 184 (t.2).1) ∧ (SI (t.2).1) ∧ (RD (t.2).1) ∧ (2 ≤ ((t.2).1 111 8).toInt ∧ ((t.2).1 111 8).toInt ≤ 1600) ∧ (0 ≤ ((t.2).1 0 1).toInt ∧ ((t.2).1 0 1).toInt ≤ 600)) (fun t : Int32 × zS => (((1 : Int32) <<< ((σ0.1 28 0) &&& 31)).toInt - (t.1).toInt).toNat) (fun again16 t hI ih50_16 => ?_) N _ (show Tr [] σ0 σ15 ∧ (0 ≤ (0 : Int32).toInt) ∧ (WI 2 σ15.1) ∧ (WI 28 σ15.1) ∧ (WI 132 σ15.1) ∧ (WI 158 σ15.1) ∧ (WI 184 σ15.1) ∧ (SI σ15.1) ∧ (RD σ15.1) ∧ (2 ≤ (σ15.1 111 8).toInt ∧ (σ15.1 111 8).toInt ≤ 1600) ∧ (0 ≤ (σ15.1 0 1).toInt ∧ (σ15.1 0 1).toInt ≤ 600) from ⟨hT, (by first | omega | decide | (have q1 := hD.1; have q2 := hD.2.1; simp only [Int32.le_iff_toInt_le, Int32.lt_iff_toInt_lt, ti_add, ti_sub, ti_mul, Int32.reduceToInt] at *; omega)), hW2, hW28, hW132, hW158, hW184, hL, hD, hu, ht⟩) (show (((1 : Int32) <<< ((σ0.1 28 0) &&& 31)).toInt - (0 : Int32).toInt).toNat < N from (by first | omega | decide | (have q1 := hD.1; have q2 := hD.2.1; simp only [Int32.le_iff_toInt_le, Int32.lt_iff_toInt_lt, ti_add, ti_sub, ti_mul, Int32.reduceToInt] at *; omega)))
          obtain ⟨x5_16, σ16⟩ := t
          have hI : Tr [] σ0 σ16 ∧ (0 ≤ x5_16.toInt) ∧ (WI 2 σ16.1) ∧ (WI 28 σ16.1) ∧ (WI 132 σ16.1) ∧ (WI 158 σ16.1) ∧ (WI 184 σ16.1) ∧ (SI σ16.1) ∧ (RD σ16.1) ∧ (2 ≤ (σ16.1 111 8).toInt ∧ (σ16.1 111 8).toInt ≤ 1600) ∧ (0 ≤ (σ16.1 0 1).toInt ∧ (σ16.1 0 1).toInt ≤ 600) := hI
          obtain ⟨hT, hI16, hW2, hW28, hW132, hW158, hW184, hL, hD, hu, ht⟩ := hI
          rw [F_X11_level_50.eq_1]
          refine ok_gR (v := 28) hT rfl hNw ?_
          refine ok_gI0 hT rfl (by decide) ?_
          refine ok_if (fun hc19 => ?_) (fun hc19 => ?_)
          · refine ok_gC rfl ?_
            refine ok_zbT (Q := fun V σ => True) hT (s_X11_store_n28 hN (hR.tr hT) ((hT.1.1 0 4 (by decide)).trans hNw) (by first | exact hn | omega | (rw [hT.2 28 (by decide)]; exact hn))) (fun _ h9 => absurd h9 List.not_mem_nil) (fun v20 σ21 hOσ21 hT hqv20 => ?_)
            have hW2 : WI 2 σ21.1 := WI.tr hOσ21 (by decide) (by decide) (by decide) hW2
            have hW28 : WI 28 σ21.1 := WI.tr hOσ21 (by decide) (by decide) (by decide) hW28
            have hW132 : WI 132 σ21.1 := WI.tr hOσ21 (by decide) (by decide) (by decide) hW132
            have hW158 : WI 158 σ21.1 := WI.tr hOσ21 (by decide) (by decide) (by decide) hW158
            have hW184 : WI 184 σ21.1 := WI.tr hOσ21 (by decide) (by decide) (by decide) hW184
            have hL : SI σ21.1 := SI.tr hOσ21 (by decide) (by decide) (by decide) (by decide) hL
            have hD : RD σ21.1 := RD.tr hOσ21 (by decide) (by decide) (by decide) (by decide) hD
            have hu : 2 ≤ (σ21.1 111 8).toInt ∧ (σ21.1 111 8).toInt ≤ 1600 := by rw [hOσ21.2 111 (by decide)] <;> exact hu
            have ht : 0 ≤ (σ21.1 0 1).toInt ∧ (σ21.1 0 1).toInt ≤ 600 := by rw [hOσ21.2 0 (by decide)] <;> exact ht
            exact ok_some ⟨hT, (show CF σ21.1 from by exact ⟨hW2, hW28, hW132, hW158, hW184, hL, hD, hu, ht⟩)⟩
          · refine ok_zbT (Q := fun V σ => True) hT (s_J6_bitCount_0f7a4 hN (hR.tr hT) ) (fun _ h9 => absurd h9 List.not_mem_nil) (fun v22 σ23 hOσ23 hT hqv22 => ?_)
            have hW2 : WI 2 σ23.1 := WI.tr hOσ23 (by decide) (by decide) (by decide) hW2
            have hW28 : WI 28 σ23.1 := WI.tr hOσ23 (by decide) (by decide) (by decide) hW28
            have hW132 : WI 132 σ23.1 := WI.tr hOσ23 (by decide) (by decide) (by decide) hW132
            have hW158 : WI 158 σ23.1 := WI.tr hOσ23 (by decide) (by decide) (by decide) hW158
            have hW184 : WI 184 σ23.1 := WI.tr hOσ23 (by decide) (by decide) (by decide) hW184
            have hL : SI σ23.1 := SI.tr hOσ23 (by decide) (by decide) (by decide) (by decide) hL
            have hD : RD σ23.1 := RD.tr hOσ23 (by decide) (by decide) (by decide) (by decide) hD
            have hu : 2 ≤ (σ23.1 111 8).toInt ∧ (σ23.1 111 8).toInt ≤ 1600 := by rw [hOσ23.2 111 (by decide)] <;> exact hu
            have ht : 0 ≤ (σ23.1 0 1).toInt ∧ (σ23.1 0 1).toInt ≤ 600 := by rw [hOσ23.2 0 (by decide)] <;> exact ht
            refine ok_if (fun hc24 => ?_) (fun hc24 => ?_)
            · refine ok_gC kq12 ?_
              refine ok_zbT (Q := fun V σ => V = 0 ∨ V = 1) hT (s_X2_holds hN (hR.tr hT) kq12) (fun _ h9 => absurd h9 List.not_mem_nil) (fun v25 σ26 hOσ26 hT hqv25 => ?_)
              have hqv25 : v25 = 0 ∨ v25 = 1 := hqv25
              have hW2 : WI 2 σ26.1 := WI.tr hOσ26 (by decide) (by decide) (by decide) hW2
              have hW28 : WI 28 σ26.1 := WI.tr hOσ26 (by decide) (by decide) (by decide) hW28
              have hW132 : WI 132 σ26.1 := WI.tr hOσ26 (by decide) (by decide) (by decide) hW132
              have hW158 : WI 158 σ26.1 := WI.tr hOσ26 (by decide) (by decide) (by decide) hW158
              have hW184 : WI 184 σ26.1 := WI.tr hOσ26 (by decide) (by decide) (by decide) hW184
              have hL : SI σ26.1 := SI.tr hOσ26 (by decide) (by decide) (by decide) (by decide) hL
              have hD : RD σ26.1 := RD.tr hOσ26 (by decide) (by decide) (by decide) (by decide) hD
              have hu : 2 ≤ (σ26.1 111 8).toInt ∧ (σ26.1 111 8).toInt ≤ 1600 := by rw [hOσ26.2 111 (by decide)] <;> exact hu
              have ht : 0 ≤ (σ26.1 0 1).toInt ∧ (σ26.1 0 1).toInt ≤ 600 := by rw [hOσ26.2 0 (by decide)] <;> exact ht
              refine ok_if (fun hc27 => ?_) (fun hc27 => ?_)
              · exact ih50_16 (x5_16 + 1, σ26) (show Tr [] σ0 σ26 ∧ (0 ≤ (x5_16 + 1).toInt) ∧ (WI 2 σ26.1) ∧ (WI 28 σ26.1) ∧ (WI 132 σ26.1) ∧ (WI 158 σ26.1) ∧ (WI 184 σ26.1) ∧ (SI σ26.1) ∧ (RD σ26.1) ∧ (2 ≤ (σ26.1 111 8).toInt ∧ (σ26.1 111 8).toInt ≤ 1600) ∧ (0 ≤ (σ26.1 0 1).toInt ∧ (σ26.1 0 1).toInt ≤ 600) from ⟨hT, (by first | omega | decide | (have q1 := hD.1; have q2 := hD.2.1; simp only [Int32.le_iff_toInt_le, Int32.lt_iff_toInt_lt, ti_add, ti_sub, ti_mul, Int32.reduceToInt] at *; omega)), hW2, hW28, hW132, hW158, hW184, hL, hD, hu, ht⟩) (show (((1 : Int32) <<< ((σ0.1 28 0) &&& 31)).toInt - (x5_16 + 1).toInt).toNat < (((1 : Int32) <<< ((σ0.1 28 0) &&& 31)).toInt - x5_16.toInt).toNat from (by first | omega | decide | (have q1 := hD.1; have q2 := hD.2.1; simp only [Int32.le_iff_toInt_le, Int32.lt_iff_toInt_lt, ti_add, ti_sub, ti_mul, Int32.reduceToInt] at *; omega)))
              · refine ok_gR (v := 128) hT rfl (hR 0 17 rfl) ?_
                refine ok_gC rfl ?_
                refine ok_zbT (Q := fun V σ => True) hT (s_X2_include hN (hR.tr hT) rfl) (fun _ h9 => absurd h9 List.not_mem_nil) (fun v29 σ30 hOσ30 hT hqv29 => ?_)
                have hW2 : WI 2 σ30.1 := WI.tr hOσ30 (by decide) (by decide) (by decide) hW2
                have hW28 : WI 28 σ30.1 := WI.tr hOσ30 (by decide) (by decide) (by decide) hW28
                have hW132 : WI 132 σ30.1 := WI.tr hOσ30 (by decide) (by decide) (by decide) hW132
                have hW158 : WI 158 σ30.1 := WI.tr hOσ30 (by decide) (by decide) (by decide) hW158
                have hW184 : WI 184 σ30.1 := WI.tr hOσ30 (by decide) (by decide) (by decide) hW184
                have hL : SI σ30.1 := SI.tr hOσ30 (by decide) (by decide) (by decide) (by decide) hL
                have hD : RD σ30.1 := RD.tr hOσ30 (by decide) (by decide) (by decide) (by decide) hD
                have hu : 2 ≤ (σ30.1 111 8).toInt ∧ (σ30.1 111 8).toInt ≤ 1600 := by rw [hOσ30.2 111 (by decide)] <;> exact hu
                have ht : 0 ≤ (σ30.1 0 1).toInt ∧ (σ30.1 0 1).toInt ≤ 600 := by rw [hOσ30.2 0 (by decide)] <;> exact ht
                exact ih50_16 (x5_16 + 1, σ30) (show Tr [] σ0 σ30 ∧ (0 ≤ (x5_16 + 1).toInt) ∧ (WI 2 σ30.1) ∧ (WI 28 σ30.1) ∧ (WI 132 σ30.1) ∧ (WI 158 σ30.1) ∧ (WI 184 σ30.1) ∧ (SI σ30.1) ∧ (RD σ30.1) ∧ (2 ≤ (σ30.1 111 8).toInt ∧ (σ30.1 111 8).toInt ≤ 1600) ∧ (0 ≤ (σ30.1 0 1).toInt ∧ (σ30.1 0 1).toInt ≤ 600) from ⟨hT, (by first | omega | decide | (have q1 := hD.1; have q2 := hD.2.1; simp only [Int32.le_iff_toInt_le, Int32.lt_iff_toInt_lt, ti_add, ti_sub, ti_mul, Int32.reduceToInt] at *; omega)), hW2, hW28, hW132, hW158, hW184, hL, hD, hu, ht⟩) (show (((1 : Int32) <<< ((σ0.1 28 0) &&& 31)).toInt - (x5_16 + 1).toInt).toNat < (((1 : Int32) <<< ((σ0.1 28 0) &&& 31)).toInt - x5_16.toInt).toNat from (by first | omega | decide | (have q1 := hD.1; have q2 := hD.2.1; simp only [Int32.le_iff_toInt_le, Int32.lt_iff_toInt_lt, ti_add, ti_sub, ti_mul, Int32.reduceToInt] at *; omega)))
            · exact ih50_16 (x5_16 + 1, σ23) (show Tr [] σ0 σ23 ∧ (0 ≤ (x5_16 + 1).toInt) ∧ (WI 2 σ23.1) ∧ (WI 28 σ23.1) ∧ (WI 132 σ23.1) ∧ (WI 158 σ23.1) ∧ (WI 184 σ23.1) ∧ (SI σ23.1) ∧ (RD σ23.1) ∧ (2 ≤ (σ23.1 111 8).toInt ∧ (σ23.1 111 8).toInt ≤ 1600) ∧ (0 ≤ (σ23.1 0 1).toInt ∧ (σ23.1 0 1).toInt ≤ 600) from ⟨hT, (by first | omega | decide | (have q1 := hD.1; have q2 := hD.2.1; simp only [Int32.le_iff_toInt_le, Int32.lt_iff_toInt_lt, ti_add, ti_sub, ti_mul, Int32.reduceToInt] at *; omega)), hW2, hW28, hW132, hW158, hW184, hL, hD, hu, ht⟩) (show (((1 : Int32) <<< ((σ0.1 28 0) &&& 31)).toInt - (x5_16 + 1).toInt).toNat < (((1 : Int32) <<< ((σ0.1 28 0) &&& 31)).toInt - x5_16.toInt).toNat from (by first | omega | decide | (have q1 := hD.1; have q2 := hD.2.1; simp only [Int32.le_iff_toInt_le, Int32.lt_iff_toInt_lt, ti_add, ti_sub, ti_mul, Int32.reduceToInt] at *; omega)))
        · exact ok_some ⟨hT, (show CF σ5.1 from by exact ⟨hW2, hW28, hW132, hW158, hW184, hL, hD, hu, ht⟩)⟩

set_option maxHeartbeats 4000000 in
set_option maxRecDepth 100000 in
theorem s_X11_names_n28 {N : Nat} (hN : 1048576 ≤ N) {x1 : Int32} {x2 : Int32} {σ0 : zS}  (hR : RF σ0.2.2) (hNw : σ0.2.2 0 4 = 28) (hPw : σ0.2.2 0 5 = 2) (hC : CF σ0.1) : Ok (f_X11_names N 0 x1 x2 σ0) (fun r => Tr [] σ0 r.2 ∧ (CF r.2.1)) := by
  have hT : Tr [] σ0 σ0 := Tr.rf
  obtain ⟨hW2, hW28, hW132, hW158, hW184, hL, hD, hu, ht⟩ := hC
  have hn := hW28.1
  have he := hW28.2.1
  have hD0 := hD
  have hL0 := hL
  have q10 := ti_one10 (x := σ0.1 28 0) hn.1 hn.2
  rw [f_X11_names.eq_1]
  refine ok_gC rfl ?_
  refine ok_zbT (Q := fun V σ => (V = 0 ∨ V = 1) ∧ (¬ V = 0 → 0 ≤ x1.toInt ∧ x1.toInt ≤ 9)) hT (s_X11_isRegister_n28 hN (hR.tr hT) ((hT.1.1 0 4 (by decide)).trans hNw) (by first | exact hn | omega | (rw [hT.2 28 (by decide)]; exact hn))) (fun _ h9 => absurd h9 List.not_mem_nil) (fun v1 σ2 hOσ2 hT hqv1 => ?_)
  have hqv1 : (v1 = 0 ∨ v1 = 1) ∧ (¬ v1 = 0 → 0 ≤ x1.toInt ∧ x1.toInt ≤ 9) := hqv1
  have hW2 : WI 2 σ2.1 := WI.tr hOσ2 (by decide) (by decide) (by decide) hW2
  have hW28 : WI 28 σ2.1 := WI.tr hOσ2 (by decide) (by decide) (by decide) hW28
  have hW132 : WI 132 σ2.1 := WI.tr hOσ2 (by decide) (by decide) (by decide) hW132
  have hW158 : WI 158 σ2.1 := WI.tr hOσ2 (by decide) (by decide) (by decide) hW158
  have hW184 : WI 184 σ2.1 := WI.tr hOσ2 (by decide) (by decide) (by decide) hW184
  have hL : SI σ2.1 := SI.tr hOσ2 (by decide) (by decide) (by decide) (by decide) hL
  have hD : RD σ2.1 := RD.tr hOσ2 (by decide) (by decide) (by decide) (by decide) hD
  have hu : 2 ≤ (σ2.1 111 8).toInt ∧ (σ2.1 111 8).toInt ≤ 1600 := by rw [hOσ2.2 111 (by decide)] <;> exact hu
  have ht : 0 ≤ (σ2.1 0 1).toInt ∧ (σ2.1 0 1).toInt ≤ 600 := by rw [hOσ2.2 0 (by decide)] <;> exact ht
  refine ok_if (fun hc3 => ?_) (fun hc3 => ?_)
  · exact ok_some ⟨hT, (show CF σ2.1 from by exact ⟨hW2, hW28, hW132, hW158, hW184, hL, hD, hu, ht⟩)⟩
  · have qhc3 := hqv1.2 hc3
    refine ok_if (fun hc4 => ?_) (fun hc4 => ?_)
    · exact ok_some ⟨hT, (show CF σ2.1 from by exact ⟨hW2, hW28, hW132, hW158, hW184, hL, hD, hu, ht⟩)⟩
    · refine ok_if (fun hc5 => ?_) (fun hc5 => ?_)
      · refine ok_gR (v := 28) hT rfl hNw ?_
        refine ok_gR (v := 33) hT rfl (hR 28 7 rfl) ?_
        obtain ⟨q9, eq9, kq9⟩ := arrF hR (k := 33) (i := x1) rfl (by first | omega | decide | (have q1 := hD.1; have q2 := hD.2.1; simp only [Int32.le_iff_toInt_le, Int32.lt_iff_toInt_lt, ti_add, ti_sub, ti_mul, Int32.reduceToInt] at *; omega)) (by first | omega | decide | (have q1 := hD.1; have q2 := hD.2.1; simp only [Int32.le_iff_toInt_le, Int32.lt_iff_toInt_lt, ti_add, ti_sub, ti_mul, Int32.reduceToInt] at *; omega))
        refine ok_aR (v := q9) hT rfl (by first | omega | decide | (have q1 := hD.1; have q2 := hD.2.1; simp only [Int32.le_iff_toInt_le, Int32.lt_iff_toInt_lt, ti_add, ti_sub, ti_mul, Int32.reduceToInt] at *; omega)) (by first | omega | decide | (have q1 := hD.1; have q2 := hD.2.1; simp only [Int32.le_iff_toInt_le, Int32.lt_iff_toInt_lt, ti_add, ti_sub, ti_mul, Int32.reduceToInt] at *; omega)) eq9 ?_
        refine ok_lp (fun t : Int32 × Int32 × zS => Tr [] σ0 (t.2.2) ∧ (0 ≤ (t.2.1).toInt) ∧ (WI 2 (t.2.2).1) ∧ (WI 28 (t.2.2).1) ∧ (WI 132 (t.2.2).1) ∧ (WI 158 (t.2.2).1) ∧ (WI 184 (t.2.2).1) ∧ (SI (t.2.2).1) ∧ (RD (t.2.2).1) ∧ (2 ≤ ((t.2.2).1 111 8).toInt ∧ ((t.2.2).1 111 8).toInt ≤ 1600) ∧ (0 ≤ ((t.2.2).1 0 1).toInt ∧ ((t.2.2).1 0 1).toInt ≤ 600)) (fun t : Int32 × Int32 × zS => ((σ0.1 28 0).toInt - (t.2.1).toInt).toNat) (fun again10 t hI ih36_10 => ?_) N _ (show Tr [] σ0 σ2 ∧ (0 ≤ (0 : Int32).toInt) ∧ (WI 2 σ2.1) ∧ (WI 28 σ2.1) ∧ (WI 132 σ2.1) ∧ (WI 158 σ2.1) ∧ (WI 184 σ2.1) ∧ (SI σ2.1) ∧ (RD σ2.1) ∧ (2 ≤ (σ2.1 111 8).toInt ∧ (σ2.1 111 8).toInt ≤ 1600) ∧ (0 ≤ (σ2.1 0 1).toInt ∧ (σ2.1 0 1).toInt ≤ 600) from ⟨hT, (by first | omega | decide | (have q1 := hD.1; have q2 := hD.2.1; simp only [Int32.le_iff_toInt_le, Int32.lt_iff_toInt_lt, ti_add, ti_sub, ti_mul, Int32.reduceToInt] at *; omega)), hW2, hW28, hW132, hW158, hW184, hL, hD, hu, ht⟩) (show ((σ0.1 28 0).toInt - (0 : Int32).toInt).toNat < N from (by first | omega | decide | (have q1 := hD.1; have q2 := hD.2.1; simp only [Int32.le_iff_toInt_le, Int32.lt_iff_toInt_lt, ti_add, ti_sub, ti_mul, Int32.reduceToInt] at *; omega)))
        obtain ⟨x4_10, x5_10, σ10⟩ := t
        have hI : Tr [] σ0 σ10 ∧ (0 ≤ x5_10.toInt) ∧ (WI 2 σ10.1) ∧ (WI 28 σ10.1) ∧ (WI 132 σ10.1) ∧ (WI 158 σ10.1) ∧ (WI 184 σ10.1) ∧ (SI σ10.1) ∧ (RD σ10.1) ∧ (2 ≤ (σ10.1 111 8).toInt ∧ (σ10.1 111 8).toInt ≤ 1600) ∧ (0 ≤ (σ10.1 0 1).toInt ∧ (σ10.1 0 1).toInt ≤ 600) := hI
        obtain ⟨hT, hI10, hW2, hW28, hW132, hW158, hW184, hL, hD, hu, ht⟩ := hI
        rw [F_X11_names_36.eq_1]
        refine ok_gR (v := 28) hT rfl hNw ?_
        refine ok_gI0 hT rfl (by decide) ?_
        refine ok_if (fun hc13 => ?_) (fun hc13 => ?_)
        · exact ok_some ⟨hT, (show CF σ10.1 from by exact ⟨hW2, hW28, hW132, hW158, hW184, hL, hD, hu, ht⟩)⟩
        · refine ok_gC rfl ?_
          refine ok_zbT (Q := fun V σ => V = 0 ∨ V = 1) hT (s_X11_isFoundName hN (hR.tr hT) kq9) (fun _ h9 => absurd h9 List.not_mem_nil) (fun v14 σ15 hOσ15 hT hqv14 => ?_)
          have hqv14 : v14 = 0 ∨ v14 = 1 := hqv14
          have hW2 : WI 2 σ15.1 := WI.tr hOσ15 (by decide) (by decide) (by decide) hW2
          have hW28 : WI 28 σ15.1 := WI.tr hOσ15 (by decide) (by decide) (by decide) hW28
          have hW132 : WI 132 σ15.1 := WI.tr hOσ15 (by decide) (by decide) (by decide) hW132
          have hW158 : WI 158 σ15.1 := WI.tr hOσ15 (by decide) (by decide) (by decide) hW158
          have hW184 : WI 184 σ15.1 := WI.tr hOσ15 (by decide) (by decide) (by decide) hW184
          have hL : SI σ15.1 := SI.tr hOσ15 (by decide) (by decide) (by decide) (by decide) hL
          have hD : RD σ15.1 := RD.tr hOσ15 (by decide) (by decide) (by decide) (by decide) hD
          have hu : 2 ≤ (σ15.1 111 8).toInt ∧ (σ15.1 111 8).toInt ≤ 1600 := by rw [hOσ15.2 111 (by decide)] <;> exact hu
          have ht : 0 ≤ (σ15.1 0 1).toInt ∧ (σ15.1 0 1).toInt ≤ 600 := by rw [hOσ15.2 0 (by decide)] <;> exact ht
          refine ok_if (fun hc16 => ?_) (fun hc16 => ?_)
          · exact ih36_10 (x4_10, x5_10 + 1, σ15) (show Tr [] σ0 σ15 ∧ (0 ≤ (x5_10 + 1).toInt) ∧ (WI 2 σ15.1) ∧ (WI 28 σ15.1) ∧ (WI 132 σ15.1) ∧ (WI 158 σ15.1) ∧ (WI 184 σ15.1) ∧ (SI σ15.1) ∧ (RD σ15.1) ∧ (2 ≤ (σ15.1 111 8).toInt ∧ (σ15.1 111 8).toInt ≤ 1600) ∧ (0 ≤ (σ15.1 0 1).toInt ∧ (σ15.1 0 1).toInt ≤ 600) from ⟨hT, (by first | omega | decide | (have q1 := hD.1; have q2 := hD.2.1; simp only [Int32.le_iff_toInt_le, Int32.lt_iff_toInt_lt, ti_add, ti_sub, ti_mul, Int32.reduceToInt] at *; omega)), hW2, hW28, hW132, hW158, hW184, hL, hD, hu, ht⟩) (show ((σ0.1 28 0).toInt - (x5_10 + 1).toInt).toNat < ((σ0.1 28 0).toInt - x5_10.toInt).toNat from (by first | omega | decide | (have q1 := hD.1; have q2 := hD.2.1; simp only [Int32.le_iff_toInt_le, Int32.lt_iff_toInt_lt, ti_add, ti_sub, ti_mul, Int32.reduceToInt] at *; omega)))
          · exact ih36_10 (x4_10 ||| ((1 : Int32) <<< (x5_10 &&& 31)), x5_10 + 1, σ15) (show Tr [] σ0 σ15 ∧ (0 ≤ (x5_10 + 1).toInt) ∧ (WI 2 σ15.1) ∧ (WI 28 σ15.1) ∧ (WI 132 σ15.1) ∧ (WI 158 σ15.1) ∧ (WI 184 σ15.1) ∧ (SI σ15.1) ∧ (RD σ15.1) ∧ (2 ≤ (σ15.1 111 8).toInt ∧ (σ15.1 111 8).toInt ≤ 1600) ∧ (0 ≤ (σ15.1 0 1).toInt ∧ (σ15.1 0 1).toInt ≤ 600) from ⟨hT, (by first | omega | decide | (have q1 := hD.1; have q2 := hD.2.1; simp only [Int32.le_iff_toInt_le, Int32.lt_iff_toInt_lt, ti_add, ti_sub, ti_mul, Int32.reduceToInt] at *; omega)), hW2, hW28, hW132, hW158, hW184, hL, hD, hu, ht⟩) (show ((σ0.1 28 0).toInt - (x5_10 + 1).toInt).toNat < ((σ0.1 28 0).toInt - x5_10.toInt).toNat from (by first | omega | decide | (have q1 := hD.1; have q2 := hD.2.1; simp only [Int32.le_iff_toInt_le, Int32.lt_iff_toInt_lt, ti_add, ti_sub, ti_mul, Int32.reduceToInt] at *; omega)))
      · exact ok_some ⟨hT, (show CF σ2.1 from by exact ⟨hW2, hW28, hW132, hW158, hW184, hL, hD, hu, ht⟩)⟩

set_option maxHeartbeats 4000000 in
set_option maxRecDepth 100000 in
theorem s_X11_draw_n28 {N : Nat} (hN : 1048576 ≤ N) {x1 : Int32} {x2 : Int32} {σ0 : zS}  (hR : RF σ0.2.2) (hNw : σ0.2.2 0 4 = 28) (hPw : σ0.2.2 0 5 = 2) (hC : CF σ0.1) : Ok (f_X11_draw N 0 x1 x2 σ0) (fun r => Tr [] σ0 r.2 ∧ (CF r.2.1)) := by
  have hT : Tr [] σ0 σ0 := Tr.rf
  obtain ⟨hW2, hW28, hW132, hW158, hW184, hL, hD, hu, ht⟩ := hC
  have hn := hW28.1
  have he := hW28.2.1
  have hD0 := hD
  have hL0 := hL
  have q10 := ti_one10 (x := σ0.1 28 0) hn.1 hn.2
  rw [f_X11_draw.eq_1]
  refine ok_gC rfl ?_
  refine ok_zbT (Q := fun V σ => (V = 0 ∨ V = 1) ∧ (¬ V = 0 → 0 ≤ x1.toInt ∧ x1.toInt ≤ 9)) hT (s_X11_isRegister_n28 hN (hR.tr hT) ((hT.1.1 0 4 (by decide)).trans hNw) (by first | exact hn | omega | (rw [hT.2 28 (by decide)]; exact hn))) (fun _ h9 => absurd h9 List.not_mem_nil) (fun v1 σ2 hOσ2 hT hqv1 => ?_)
  have hqv1 : (v1 = 0 ∨ v1 = 1) ∧ (¬ v1 = 0 → 0 ≤ x1.toInt ∧ x1.toInt ≤ 9) := hqv1
  have hW2 : WI 2 σ2.1 := WI.tr hOσ2 (by decide) (by decide) (by decide) hW2
  have hW28 : WI 28 σ2.1 := WI.tr hOσ2 (by decide) (by decide) (by decide) hW28
  have hW132 : WI 132 σ2.1 := WI.tr hOσ2 (by decide) (by decide) (by decide) hW132
  have hW158 : WI 158 σ2.1 := WI.tr hOσ2 (by decide) (by decide) (by decide) hW158
  have hW184 : WI 184 σ2.1 := WI.tr hOσ2 (by decide) (by decide) (by decide) hW184
  have hL : SI σ2.1 := SI.tr hOσ2 (by decide) (by decide) (by decide) (by decide) hL
  have hD : RD σ2.1 := RD.tr hOσ2 (by decide) (by decide) (by decide) (by decide) hD
  have hu : 2 ≤ (σ2.1 111 8).toInt ∧ (σ2.1 111 8).toInt ≤ 1600 := by rw [hOσ2.2 111 (by decide)] <;> exact hu
  have ht : 0 ≤ (σ2.1 0 1).toInt ∧ (σ2.1 0 1).toInt ≤ 600 := by rw [hOσ2.2 0 (by decide)] <;> exact ht
  refine ok_if (fun hc3 => ?_) (fun hc3 => ?_)
  · exact ok_some ⟨hT, (show CF σ2.1 from by exact ⟨hW2, hW28, hW132, hW158, hW184, hL, hD, hu, ht⟩)⟩
  · have qhc3 := hqv1.2 hc3
    refine ok_if (fun hc4 => ?_) (fun hc4 => ?_)
    · exact ok_some ⟨hT, (show CF σ2.1 from by exact ⟨hW2, hW28, hW132, hW158, hW184, hL, hD, hu, ht⟩)⟩
    · refine ok_if (fun hc5 => ?_) (fun hc5 => ?_)
      · refine ok_gR (v := 28) hT rfl hNw ?_
        refine ok_gR (v := 33) hT rfl (hR 28 7 rfl) ?_
        obtain ⟨q9, eq9, kq9⟩ := arrF hR (k := 33) (i := x1) rfl (by first | omega | decide | (have q1 := hD.1; have q2 := hD.2.1; simp only [Int32.le_iff_toInt_le, Int32.lt_iff_toInt_lt, ti_add, ti_sub, ti_mul, Int32.reduceToInt] at *; omega)) (by first | omega | decide | (have q1 := hD.1; have q2 := hD.2.1; simp only [Int32.le_iff_toInt_le, Int32.lt_iff_toInt_lt, ti_add, ti_sub, ti_mul, Int32.reduceToInt] at *; omega))
        refine ok_aR (v := q9) hT rfl (by first | omega | decide | (have q1 := hD.1; have q2 := hD.2.1; simp only [Int32.le_iff_toInt_le, Int32.lt_iff_toInt_lt, ti_add, ti_sub, ti_mul, Int32.reduceToInt] at *; omega)) (by first | omega | decide | (have q1 := hD.1; have q2 := hD.2.1; simp only [Int32.le_iff_toInt_le, Int32.lt_iff_toInt_lt, ti_add, ti_sub, ti_mul, Int32.reduceToInt] at *; omega)) eq9 ?_
        refine ok_gC kq9 ?_
        refine ok_zbT (Q := fun V σ => True) hT (s_X2_tally hN (hR.tr hT) kq9) (fun _ h9 => absurd h9 List.not_mem_nil) (fun v10 σ11 hOσ11 hT hqv10 => ?_)
        have hW2 : WI 2 σ11.1 := WI.tr hOσ11 (by decide) (by decide) (by decide) hW2
        have hW28 : WI 28 σ11.1 := WI.tr hOσ11 (by decide) (by decide) (by decide) hW28
        have hW132 : WI 132 σ11.1 := WI.tr hOσ11 (by decide) (by decide) (by decide) hW132
        have hW158 : WI 158 σ11.1 := WI.tr hOσ11 (by decide) (by decide) (by decide) hW158
        have hW184 : WI 184 σ11.1 := WI.tr hOσ11 (by decide) (by decide) (by decide) hW184
        have hL : SI σ11.1 := SI.tr hOσ11 (by decide) (by decide) (by decide) (by decide) hL
        have hD : RD σ11.1 := RD.tr hOσ11 (by decide) (by decide) (by decide) (by decide) hD
        have hu : 2 ≤ (σ11.1 111 8).toInt ∧ (σ11.1 111 8).toInt ≤ 1600 := by rw [hOσ11.2 111 (by decide)] <;> exact hu
        have ht : 0 ≤ (σ11.1 0 1).toInt ∧ (σ11.1 0 1).toInt ≤ 600 := by rw [hOσ11.2 0 (by decide)] <;> exact ht
        refine ok_if (fun hc12 => ?_) (fun hc12 => ?_)
        · refine ok_nzJ (by decide) ?_
          refine ok_gR (v := 28) hT rfl hNw ?_
          refine ok_gR (v := 33) hT rfl (hR 28 7 rfl) ?_
          obtain ⟨q16, eq16, kq16⟩ := arrF hR (k := 33) (i := x1) rfl (by first | omega | decide | (have q1 := hD.1; have q2 := hD.2.1; simp only [Int32.le_iff_toInt_le, Int32.lt_iff_toInt_lt, ti_add, ti_sub, ti_mul, Int32.reduceToInt] at *; omega)) (by first | omega | decide | (have q1 := hD.1; have q2 := hD.2.1; simp only [Int32.le_iff_toInt_le, Int32.lt_iff_toInt_lt, ti_add, ti_sub, ti_mul, Int32.reduceToInt] at *; omega))
          refine ok_aR (v := q16) hT rfl (by first | omega | decide | (have q1 := hD.1; have q2 := hD.2.1; simp only [Int32.le_iff_toInt_le, Int32.lt_iff_toInt_lt, ti_add, ti_sub, ti_mul, Int32.reduceToInt] at *; omega)) (by first | omega | decide | (have q1 := hD.1; have q2 := hD.2.1; simp only [Int32.le_iff_toInt_le, Int32.lt_iff_toInt_lt, ti_add, ti_sub, ti_mul, Int32.reduceToInt] at *; omega)) eq16 ?_
          refine ok_nzJ (by decide) ?_
          refine ok_nzJ (by exact nz64 (by simp only [Int32.lt_iff_toInt_lt, Int32.reduceToInt] at *; omega)) ?_
          refine ok_gC kq16 ?_
          refine ok_zbT (Q := fun V σ => True) hT (s_X2_pick hN (hR.tr hT) kq16) (fun _ h9 => absurd h9 List.not_mem_nil) (fun v17 σ18 hOσ18 hT hqv17 => ?_)
          have hW2 : WI 2 σ18.1 := WI.tr hOσ18 (by decide) (by decide) (by decide) hW2
          have hW28 : WI 28 σ18.1 := WI.tr hOσ18 (by decide) (by decide) (by decide) hW28
          have hW132 : WI 132 σ18.1 := WI.tr hOσ18 (by decide) (by decide) (by decide) hW132
          have hW158 : WI 158 σ18.1 := WI.tr hOσ18 (by decide) (by decide) (by decide) hW158
          have hW184 : WI 184 σ18.1 := WI.tr hOσ18 (by decide) (by decide) (by decide) hW184
          have hL : SI σ18.1 := SI.tr hOσ18 (by decide) (by decide) (by decide) (by decide) hL
          have hD : RD σ18.1 := RD.tr hOσ18 (by decide) (by decide) (by decide) (by decide) hD
          have hu : 2 ≤ (σ18.1 111 8).toInt ∧ (σ18.1 111 8).toInt ≤ 1600 := by rw [hOσ18.2 111 (by decide)] <;> exact hu
          have ht : 0 ≤ (σ18.1 0 1).toInt ∧ (σ18.1 0 1).toInt ≤ 600 := by rw [hOσ18.2 0 (by decide)] <;> exact ht
          exact ok_some ⟨hT, (show CF σ18.1 from by exact ⟨hW2, hW28, hW132, hW158, hW184, hL, hD, hu, ht⟩)⟩
        · exact ok_some ⟨hT, (show CF σ11.1 from by exact ⟨hW2, hW28, hW132, hW158, hW184, hL, hD, hu, ht⟩)⟩
      · exact ok_some ⟨hT, (show CF σ2.1 from by exact ⟨hW2, hW28, hW132, hW158, hW184, hL, hD, hu, ht⟩)⟩

set_option maxHeartbeats 4000000 in
set_option maxRecDepth 100000 in
theorem s_X11_ways_n28 {N : Nat} (hN : 1048576 ≤ N) {x1 : Int32} {x2 : Int32} {x3 : Int32} {σ0 : zS}  (hR : RF σ0.2.2) (hNw : σ0.2.2 0 4 = 28) (hPw : σ0.2.2 0 5 = 2) (hC : CF σ0.1) : Ok (f_X11_ways N 0 x1 x2 x3 σ0) (fun r => Tr [] σ0 r.2 ∧ (CF r.2.1)) := by
  have hT : Tr [] σ0 σ0 := Tr.rf
  obtain ⟨hW2, hW28, hW132, hW158, hW184, hL, hD, hu, ht⟩ := hC
  have hn := hW28.1
  have he := hW28.2.1
  have hD0 := hD
  have hL0 := hL
  have q10 := ti_one10 (x := σ0.1 28 0) hn.1 hn.2
  rw [f_X11_ways.eq_1]
  refine ok_gC rfl ?_
  refine ok_zbT (Q := fun V σ => (V = 0 ∨ V = 1) ∧ (¬ V = 0 → 0 ≤ x1.toInt ∧ x1.toInt ≤ 9)) hT (s_X11_isRegister_n28 hN (hR.tr hT) ((hT.1.1 0 4 (by decide)).trans hNw) (by first | exact hn | omega | (rw [hT.2 28 (by decide)]; exact hn))) (fun _ h9 => absurd h9 List.not_mem_nil) (fun v1 σ2 hOσ2 hT hqv1 => ?_)
  have hqv1 : (v1 = 0 ∨ v1 = 1) ∧ (¬ v1 = 0 → 0 ≤ x1.toInt ∧ x1.toInt ≤ 9) := hqv1
  have hW2 : WI 2 σ2.1 := WI.tr hOσ2 (by decide) (by decide) (by decide) hW2
  have hW28 : WI 28 σ2.1 := WI.tr hOσ2 (by decide) (by decide) (by decide) hW28
  have hW132 : WI 132 σ2.1 := WI.tr hOσ2 (by decide) (by decide) (by decide) hW132
  have hW158 : WI 158 σ2.1 := WI.tr hOσ2 (by decide) (by decide) (by decide) hW158
  have hW184 : WI 184 σ2.1 := WI.tr hOσ2 (by decide) (by decide) (by decide) hW184
  have hL : SI σ2.1 := SI.tr hOσ2 (by decide) (by decide) (by decide) (by decide) hL
  have hD : RD σ2.1 := RD.tr hOσ2 (by decide) (by decide) (by decide) (by decide) hD
  have hu : 2 ≤ (σ2.1 111 8).toInt ∧ (σ2.1 111 8).toInt ≤ 1600 := by rw [hOσ2.2 111 (by decide)] <;> exact hu
  have ht : 0 ≤ (σ2.1 0 1).toInt ∧ (σ2.1 0 1).toInt ≤ 600 := by rw [hOσ2.2 0 (by decide)] <;> exact ht
  refine ok_if (fun hc3 => ?_) (fun hc3 => ?_)
  · exact ok_some ⟨hT, (show CF σ2.1 from by exact ⟨hW2, hW28, hW132, hW158, hW184, hL, hD, hu, ht⟩)⟩
  · have qhc3 := hqv1.2 hc3
    refine ok_gC rfl ?_
    refine ok_zbT (Q := fun V σ => (V = 0 ∨ V = 1) ∧ (¬ V = 0 → 0 ≤ x2.toInt ∧ x2.toInt ≤ 7)) hT (s_X11_isCrossing hN (hR.tr hT) ) (fun _ h9 => absurd h9 List.not_mem_nil) (fun v4 σ5 hOσ5 hT hqv4 => ?_)
    have hqv4 : (v4 = 0 ∨ v4 = 1) ∧ (¬ v4 = 0 → 0 ≤ x2.toInt ∧ x2.toInt ≤ 7) := hqv4
    have hW2 : WI 2 σ5.1 := WI.tr hOσ5 (by decide) (by decide) (by decide) hW2
    have hW28 : WI 28 σ5.1 := WI.tr hOσ5 (by decide) (by decide) (by decide) hW28
    have hW132 : WI 132 σ5.1 := WI.tr hOσ5 (by decide) (by decide) (by decide) hW132
    have hW158 : WI 158 σ5.1 := WI.tr hOσ5 (by decide) (by decide) (by decide) hW158
    have hW184 : WI 184 σ5.1 := WI.tr hOσ5 (by decide) (by decide) (by decide) hW184
    have hL : SI σ5.1 := SI.tr hOσ5 (by decide) (by decide) (by decide) (by decide) hL
    have hD : RD σ5.1 := RD.tr hOσ5 (by decide) (by decide) (by decide) (by decide) hD
    have hu : 2 ≤ (σ5.1 111 8).toInt ∧ (σ5.1 111 8).toInt ≤ 1600 := by rw [hOσ5.2 111 (by decide)] <;> exact hu
    have ht : 0 ≤ (σ5.1 0 1).toInt ∧ (σ5.1 0 1).toInt ≤ 600 := by rw [hOσ5.2 0 (by decide)] <;> exact ht
    refine ok_if (fun hc6 => ?_) (fun hc6 => ?_)
    · exact ok_some ⟨hT, (show CF σ5.1 from by exact ⟨hW2, hW28, hW132, hW158, hW184, hL, hD, hu, ht⟩)⟩
    · have qhc6 := hqv4.2 hc6
      refine ok_gC rfl ?_
      refine ok_zbT (Q := fun V σ => (V = 0 ∨ V = 1) ∧ (¬ V = 0 → 0 ≤ x3.toInt ∧ x3.toInt ≤ 7)) hT (s_X11_isCrossing hN (hR.tr hT) ) (fun _ h9 => absurd h9 List.not_mem_nil) (fun v7 σ8 hOσ8 hT hqv7 => ?_)
      have hqv7 : (v7 = 0 ∨ v7 = 1) ∧ (¬ v7 = 0 → 0 ≤ x3.toInt ∧ x3.toInt ≤ 7) := hqv7
      have hW2 : WI 2 σ8.1 := WI.tr hOσ8 (by decide) (by decide) (by decide) hW2
      have hW28 : WI 28 σ8.1 := WI.tr hOσ8 (by decide) (by decide) (by decide) hW28
      have hW132 : WI 132 σ8.1 := WI.tr hOσ8 (by decide) (by decide) (by decide) hW132
      have hW158 : WI 158 σ8.1 := WI.tr hOσ8 (by decide) (by decide) (by decide) hW158
      have hW184 : WI 184 σ8.1 := WI.tr hOσ8 (by decide) (by decide) (by decide) hW184
      have hL : SI σ8.1 := SI.tr hOσ8 (by decide) (by decide) (by decide) (by decide) hL
      have hD : RD σ8.1 := RD.tr hOσ8 (by decide) (by decide) (by decide) (by decide) hD
      have hu : 2 ≤ (σ8.1 111 8).toInt ∧ (σ8.1 111 8).toInt ≤ 1600 := by rw [hOσ8.2 111 (by decide)] <;> exact hu
      have ht : 0 ≤ (σ8.1 0 1).toInt ∧ (σ8.1 0 1).toInt ≤ 600 := by rw [hOσ8.2 0 (by decide)] <;> exact ht
      refine ok_if (fun hc9 => ?_) (fun hc9 => ?_)
      · exact ok_some ⟨hT, (show CF σ8.1 from by exact ⟨hW2, hW28, hW132, hW158, hW184, hL, hD, hu, ht⟩)⟩
      · have qhc9 := hqv7.2 hc9
        refine ok_gR (v := 124) hT rfl (hR 0 15 rfl) ?_
        refine ok_gR (v := 28) hT rfl hNw ?_
        refine ok_gR (v := 128) hT rfl (hR 0 17 rfl) ?_
        refine ok_gC rfl ?_
        refine ok_zbT (Q := fun V σ => True) hT (s_X6_findWays_28 hN (hR.tr hT) rfl (by first | exact hW28 | exact hW2) (by first | omega | decide | (have q1 := hD.1; have q2 := hD.2.1; simp only [Int32.le_iff_toInt_le, Int32.lt_iff_toInt_lt, ti_add, ti_sub, ti_mul, Int32.reduceToInt] at *; omega))) (fun _ h9 => absurd h9 List.not_mem_nil) (fun v13 σ14 hOσ14 hT hqv13 => ?_)
        have hW2 : WI 2 σ14.1 := WI.tr hOσ14 (by decide) (by decide) (by decide) hW2
        have hW28 : WI 28 σ14.1 := WI.tr hOσ14 (by decide) (by decide) (by decide) hW28
        have hW132 : WI 132 σ14.1 := WI.tr hOσ14 (by decide) (by decide) (by decide) hW132
        have hW158 : WI 158 σ14.1 := WI.tr hOσ14 (by decide) (by decide) (by decide) hW158
        have hW184 : WI 184 σ14.1 := WI.tr hOσ14 (by decide) (by decide) (by decide) hW184
        have hL : SI σ14.1 := SI.tr hOσ14 (by decide) (by decide) (by decide) (by decide) hL
        have hD : RD σ14.1 := RD.tr hOσ14 (by decide) (by decide) (by decide) (by decide) hD
        have hu : 2 ≤ (σ14.1 111 8).toInt ∧ (σ14.1 111 8).toInt ≤ 1600 := by rw [hOσ14.2 111 (by decide)] <;> exact hu
        have ht : 0 ≤ (σ14.1 0 1).toInt ∧ (σ14.1 0 1).toInt ≤ 600 := by rw [hOσ14.2 0 (by decide)] <;> exact ht
        refine ok_gC rfl ?_
        refine ok_zbT (Q := fun V σ => True) hT (s_X11_store_n28 hN (hR.tr hT) ((hT.1.1 0 4 (by decide)).trans hNw) (by first | exact hn | omega | (rw [hT.2 28 (by decide)]; exact hn))) (fun _ h9 => absurd h9 List.not_mem_nil) (fun v15 σ16 hOσ16 hT hqv15 => ?_)
        have hW2 : WI 2 σ16.1 := WI.tr hOσ16 (by decide) (by decide) (by decide) hW2
        have hW28 : WI 28 σ16.1 := WI.tr hOσ16 (by decide) (by decide) (by decide) hW28
        have hW132 : WI 132 σ16.1 := WI.tr hOσ16 (by decide) (by decide) (by decide) hW132
        have hW158 : WI 158 σ16.1 := WI.tr hOσ16 (by decide) (by decide) (by decide) hW158
        have hW184 : WI 184 σ16.1 := WI.tr hOσ16 (by decide) (by decide) (by decide) hW184
        have hL : SI σ16.1 := SI.tr hOσ16 (by decide) (by decide) (by decide) (by decide) hL
        have hD : RD σ16.1 := RD.tr hOσ16 (by decide) (by decide) (by decide) (by decide) hD
        have hu : 2 ≤ (σ16.1 111 8).toInt ∧ (σ16.1 111 8).toInt ≤ 1600 := by rw [hOσ16.2 111 (by decide)] <;> exact hu
        have ht : 0 ≤ (σ16.1 0 1).toInt ∧ (σ16.1 0 1).toInt ≤ 600 := by rw [hOσ16.2 0 (by decide)] <;> exact ht
        exact ok_some ⟨hT, (show CF σ16.1 from by exact ⟨hW2, hW28, hW132, hW158, hW184, hL, hD, hu, ht⟩)⟩

set_option maxHeartbeats 4000000 in
set_option maxRecDepth 100000 in
theorem s_X11_cuts_n28 {N : Nat} (hN : 1048576 ≤ N) {x1 : Int32} {x2 : Int32} {x3 : Int32} {σ0 : zS}  (hR : RF σ0.2.2) (hNw : σ0.2.2 0 4 = 28) (hPw : σ0.2.2 0 5 = 2) (hC : CF σ0.1) : Ok (f_X11_cuts N 0 x1 x2 x3 σ0) (fun r => Tr [] σ0 r.2 ∧ (CF r.2.1)) := by
  have hT : Tr [] σ0 σ0 := Tr.rf
  obtain ⟨hW2, hW28, hW132, hW158, hW184, hL, hD, hu, ht⟩ := hC
  have hn := hW28.1
  have he := hW28.2.1
  have hD0 := hD
  have hL0 := hL
  have q10 := ti_one10 (x := σ0.1 28 0) hn.1 hn.2
  rw [f_X11_cuts.eq_1]
  refine ok_gC rfl ?_
  refine ok_zbT (Q := fun V σ => (V = 0 ∨ V = 1) ∧ (¬ V = 0 → 0 ≤ x1.toInt ∧ x1.toInt ≤ 9)) hT (s_X11_isRegister_n28 hN (hR.tr hT) ((hT.1.1 0 4 (by decide)).trans hNw) (by first | exact hn | omega | (rw [hT.2 28 (by decide)]; exact hn))) (fun _ h9 => absurd h9 List.not_mem_nil) (fun v1 σ2 hOσ2 hT hqv1 => ?_)
  have hqv1 : (v1 = 0 ∨ v1 = 1) ∧ (¬ v1 = 0 → 0 ≤ x1.toInt ∧ x1.toInt ≤ 9) := hqv1
  have hW2 : WI 2 σ2.1 := WI.tr hOσ2 (by decide) (by decide) (by decide) hW2
  have hW28 : WI 28 σ2.1 := WI.tr hOσ2 (by decide) (by decide) (by decide) hW28
  have hW132 : WI 132 σ2.1 := WI.tr hOσ2 (by decide) (by decide) (by decide) hW132
  have hW158 : WI 158 σ2.1 := WI.tr hOσ2 (by decide) (by decide) (by decide) hW158
  have hW184 : WI 184 σ2.1 := WI.tr hOσ2 (by decide) (by decide) (by decide) hW184
  have hL : SI σ2.1 := SI.tr hOσ2 (by decide) (by decide) (by decide) (by decide) hL
  have hD : RD σ2.1 := RD.tr hOσ2 (by decide) (by decide) (by decide) (by decide) hD
  have hu : 2 ≤ (σ2.1 111 8).toInt ∧ (σ2.1 111 8).toInt ≤ 1600 := by rw [hOσ2.2 111 (by decide)] <;> exact hu
  have ht : 0 ≤ (σ2.1 0 1).toInt ∧ (σ2.1 0 1).toInt ≤ 600 := by rw [hOσ2.2 0 (by decide)] <;> exact ht
  refine ok_if (fun hc3 => ?_) (fun hc3 => ?_)
  · exact ok_some ⟨hT, (show CF σ2.1 from by exact ⟨hW2, hW28, hW132, hW158, hW184, hL, hD, hu, ht⟩)⟩
  · have qhc3 := hqv1.2 hc3
    refine ok_gC rfl ?_
    refine ok_zbT (Q := fun V σ => (V = 0 ∨ V = 1) ∧ (¬ V = 0 → 0 ≤ x2.toInt ∧ x2.toInt ≤ 7)) hT (s_X11_isCrossing hN (hR.tr hT) ) (fun _ h9 => absurd h9 List.not_mem_nil) (fun v4 σ5 hOσ5 hT hqv4 => ?_)
    have hqv4 : (v4 = 0 ∨ v4 = 1) ∧ (¬ v4 = 0 → 0 ≤ x2.toInt ∧ x2.toInt ≤ 7) := hqv4
    have hW2 : WI 2 σ5.1 := WI.tr hOσ5 (by decide) (by decide) (by decide) hW2
    have hW28 : WI 28 σ5.1 := WI.tr hOσ5 (by decide) (by decide) (by decide) hW28
    have hW132 : WI 132 σ5.1 := WI.tr hOσ5 (by decide) (by decide) (by decide) hW132
    have hW158 : WI 158 σ5.1 := WI.tr hOσ5 (by decide) (by decide) (by decide) hW158
    have hW184 : WI 184 σ5.1 := WI.tr hOσ5 (by decide) (by decide) (by decide) hW184
    have hL : SI σ5.1 := SI.tr hOσ5 (by decide) (by decide) (by decide) (by decide) hL
    have hD : RD σ5.1 := RD.tr hOσ5 (by decide) (by decide) (by decide) (by decide) hD
    have hu : 2 ≤ (σ5.1 111 8).toInt ∧ (σ5.1 111 8).toInt ≤ 1600 := by rw [hOσ5.2 111 (by decide)] <;> exact hu
    have ht : 0 ≤ (σ5.1 0 1).toInt ∧ (σ5.1 0 1).toInt ≤ 600 := by rw [hOσ5.2 0 (by decide)] <;> exact ht
    refine ok_if (fun hc6 => ?_) (fun hc6 => ?_)
    · exact ok_some ⟨hT, (show CF σ5.1 from by exact ⟨hW2, hW28, hW132, hW158, hW184, hL, hD, hu, ht⟩)⟩
    · have qhc6 := hqv4.2 hc6
      refine ok_gC rfl ?_
      refine ok_zbT (Q := fun V σ => (V = 0 ∨ V = 1) ∧ (¬ V = 0 → 0 ≤ x3.toInt ∧ x3.toInt ≤ 7)) hT (s_X11_isCrossing hN (hR.tr hT) ) (fun _ h9 => absurd h9 List.not_mem_nil) (fun v7 σ8 hOσ8 hT hqv7 => ?_)
      have hqv7 : (v7 = 0 ∨ v7 = 1) ∧ (¬ v7 = 0 → 0 ≤ x3.toInt ∧ x3.toInt ≤ 7) := hqv7
      have hW2 : WI 2 σ8.1 := WI.tr hOσ8 (by decide) (by decide) (by decide) hW2
      have hW28 : WI 28 σ8.1 := WI.tr hOσ8 (by decide) (by decide) (by decide) hW28
      have hW132 : WI 132 σ8.1 := WI.tr hOσ8 (by decide) (by decide) (by decide) hW132
      have hW158 : WI 158 σ8.1 := WI.tr hOσ8 (by decide) (by decide) (by decide) hW158
      have hW184 : WI 184 σ8.1 := WI.tr hOσ8 (by decide) (by decide) (by decide) hW184
      have hL : SI σ8.1 := SI.tr hOσ8 (by decide) (by decide) (by decide) (by decide) hL
      have hD : RD σ8.1 := RD.tr hOσ8 (by decide) (by decide) (by decide) (by decide) hD
      have hu : 2 ≤ (σ8.1 111 8).toInt ∧ (σ8.1 111 8).toInt ≤ 1600 := by rw [hOσ8.2 111 (by decide)] <;> exact hu
      have ht : 0 ≤ (σ8.1 0 1).toInt ∧ (σ8.1 0 1).toInt ≤ 600 := by rw [hOσ8.2 0 (by decide)] <;> exact ht
      refine ok_if (fun hc9 => ?_) (fun hc9 => ?_)
      · exact ok_some ⟨hT, (show CF σ8.1 from by exact ⟨hW2, hW28, hW132, hW158, hW184, hL, hD, hu, ht⟩)⟩
      · have qhc9 := hqv7.2 hc9
        refine ok_gR (v := 124) hT rfl (hR 0 15 rfl) ?_
        refine ok_gR (v := 28) hT rfl hNw ?_
        refine ok_gR (v := 128) hT rfl (hR 0 17 rfl) ?_
        refine ok_gC rfl ?_
        refine ok_zbT (Q := fun V σ => True) hT (s_X6_findWays_28 hN (hR.tr hT) rfl (by first | exact hW28 | exact hW2) (by first | omega | decide | (have q1 := hD.1; have q2 := hD.2.1; simp only [Int32.le_iff_toInt_le, Int32.lt_iff_toInt_lt, ti_add, ti_sub, ti_mul, Int32.reduceToInt] at *; omega))) (fun _ h9 => absurd h9 List.not_mem_nil) (fun v13 σ14 hOσ14 hT hqv13 => ?_)
        have hW2 : WI 2 σ14.1 := WI.tr hOσ14 (by decide) (by decide) (by decide) hW2
        have hW28 : WI 28 σ14.1 := WI.tr hOσ14 (by decide) (by decide) (by decide) hW28
        have hW132 : WI 132 σ14.1 := WI.tr hOσ14 (by decide) (by decide) (by decide) hW132
        have hW158 : WI 158 σ14.1 := WI.tr hOσ14 (by decide) (by decide) (by decide) hW158
        have hW184 : WI 184 σ14.1 := WI.tr hOσ14 (by decide) (by decide) (by decide) hW184
        have hL : SI σ14.1 := SI.tr hOσ14 (by decide) (by decide) (by decide) (by decide) hL
        have hD : RD σ14.1 := RD.tr hOσ14 (by decide) (by decide) (by decide) (by decide) hD
        have hu : 2 ≤ (σ14.1 111 8).toInt ∧ (σ14.1 111 8).toInt ≤ 1600 := by rw [hOσ14.2 111 (by decide)] <;> exact hu
        have ht : 0 ≤ (σ14.1 0 1).toInt ∧ (σ14.1 0 1).toInt ≤ 600 := by rw [hOσ14.2 0 (by decide)] <;> exact ht
        refine ok_gR (v := 99) hT rfl (hR 0 11 rfl) ?_
        refine ok_gR (v := 128) hT rfl (hR 0 17 rfl) ?_
        refine ok_gR (v := 28) hT rfl hNw ?_
        refine ok_gI0 hT rfl (by decide) ?_
        refine ok_gC rfl ?_
        refine ok_zbT (Q := fun V σ => True) hT (s_X0_reshape hN (hR.tr hT) rfl (by first | exact hn | omega | (rw [hT.2 28 (by decide)]; exact hn))) (fun _ h9 => absurd h9 List.not_mem_nil) (fun v19 σ20 hOσ20 hT hqv19 => ?_)
        have hW2 : WI 2 σ20.1 := WI.tr hOσ20 (by decide) (by decide) (by decide) hW2
        have hW28 : WI 28 σ20.1 := WI.tr hOσ20 (by decide) (by decide) (by decide) hW28
        have hW132 : WI 132 σ20.1 := WI.tr hOσ20 (by decide) (by decide) (by decide) hW132
        have hW158 : WI 158 σ20.1 := WI.tr hOσ20 (by decide) (by decide) (by decide) hW158
        have hW184 : WI 184 σ20.1 := WI.tr hOσ20 (by decide) (by decide) (by decide) hW184
        have hL : SI σ20.1 := SI.tr hOσ20 (by decide) (by decide) (by decide) (by decide) hL
        have hD : RD σ20.1 := RD.tr hOσ20 (by decide) (by decide) (by decide) (by decide) hD
        have hu : 2 ≤ (σ20.1 111 8).toInt ∧ (σ20.1 111 8).toInt ≤ 1600 := by rw [hOσ20.2 111 (by decide)] <;> exact hu
        have ht : 0 ≤ (σ20.1 0 1).toInt ∧ (σ20.1 0 1).toInt ≤ 600 := by rw [hOσ20.2 0 (by decide)] <;> exact ht
        refine ok_gC rfl ?_
        refine ok_zbT (Q := fun V σ => True) hT (s_X11_store_n28 hN (hR.tr hT) ((hT.1.1 0 4 (by decide)).trans hNw) (by first | exact hn | omega | (rw [hT.2 28 (by decide)]; exact hn))) (fun _ h9 => absurd h9 List.not_mem_nil) (fun v21 σ22 hOσ22 hT hqv21 => ?_)
        have hW2 : WI 2 σ22.1 := WI.tr hOσ22 (by decide) (by decide) (by decide) hW2
        have hW28 : WI 28 σ22.1 := WI.tr hOσ22 (by decide) (by decide) (by decide) hW28
        have hW132 : WI 132 σ22.1 := WI.tr hOσ22 (by decide) (by decide) (by decide) hW132
        have hW158 : WI 158 σ22.1 := WI.tr hOσ22 (by decide) (by decide) (by decide) hW158
        have hW184 : WI 184 σ22.1 := WI.tr hOσ22 (by decide) (by decide) (by decide) hW184
        have hL : SI σ22.1 := SI.tr hOσ22 (by decide) (by decide) (by decide) (by decide) hL
        have hD : RD σ22.1 := RD.tr hOσ22 (by decide) (by decide) (by decide) (by decide) hD
        have hu : 2 ≤ (σ22.1 111 8).toInt ∧ (σ22.1 111 8).toInt ≤ 1600 := by rw [hOσ22.2 111 (by decide)] <;> exact hu
        have ht : 0 ≤ (σ22.1 0 1).toInt ∧ (σ22.1 0 1).toInt ≤ 600 := by rw [hOσ22.2 0 (by decide)] <;> exact ht
        exact ok_some ⟨hT, (show CF σ22.1 from by exact ⟨hW2, hW28, hW132, hW158, hW184, hL, hD, hu, ht⟩)⟩

set_option maxHeartbeats 4000000 in
set_option maxRecDepth 100000 in
theorem s_X11_move_n28 {N : Nat} (hN : 1048576 ≤ N) {x1 : Int32} {x2 : Int32} {σ0 : zS}  (hR : RF σ0.2.2) (hNw : σ0.2.2 0 4 = 28) (hPw : σ0.2.2 0 5 = 2) (hC : CF σ0.1) : Ok (f_X11_move N 0 x1 x2 σ0) (fun r => Tr [32] σ0 r.2 ∧ (CF r.2.1)) := by
  have hT : Tr [32] σ0 σ0 := Tr.rf
  obtain ⟨hW2, hW28, hW132, hW158, hW184, hL, hD, hu, ht⟩ := hC
  have hn := hW28.1
  have he := hW28.2.1
  have hD0 := hD
  have hL0 := hL
  have q10 := ti_one10 (x := σ0.1 28 0) hn.1 hn.2
  rw [f_X11_move.eq_1]
  refine ok_gC rfl ?_
  refine ok_zbT (Q := fun V σ => (V = 0 ∨ V = 1) ∧ (¬ V = 0 → 0 ≤ x1.toInt ∧ x1.toInt < (σ0.1 28 0).toInt)) hT (s_X11_isName_n28 hN (hR.tr hT) ((hT.1.1 0 4 (by decide)).trans hNw) (by first | exact hn | omega | (rw [hT.2 28 (by decide)]; exact hn))) (fun _ h9 => absurd h9 List.not_mem_nil) (fun v1 σ2 hOσ2 hT hqv1 => ?_)
  have hqv1 : (v1 = 0 ∨ v1 = 1) ∧ (¬ v1 = 0 → 0 ≤ x1.toInt ∧ x1.toInt < (σ0.1 28 0).toInt) := hqv1
  have hW2 : WI 2 σ2.1 := WI.tr hOσ2 (by decide) (by decide) (by decide) hW2
  have hW28 : WI 28 σ2.1 := WI.tr hOσ2 (by decide) (by decide) (by decide) hW28
  have hW132 : WI 132 σ2.1 := WI.tr hOσ2 (by decide) (by decide) (by decide) hW132
  have hW158 : WI 158 σ2.1 := WI.tr hOσ2 (by decide) (by decide) (by decide) hW158
  have hW184 : WI 184 σ2.1 := WI.tr hOσ2 (by decide) (by decide) (by decide) hW184
  have hL : SI σ2.1 := SI.tr hOσ2 (by decide) (by decide) (by decide) (by decide) hL
  have hD : RD σ2.1 := RD.tr hOσ2 (by decide) (by decide) (by decide) (by decide) hD
  have hu : 2 ≤ (σ2.1 111 8).toInt ∧ (σ2.1 111 8).toInt ≤ 1600 := by rw [hOσ2.2 111 (by decide)] <;> exact hu
  have ht : 0 ≤ (σ2.1 0 1).toInt ∧ (σ2.1 0 1).toInt ≤ 600 := by rw [hOσ2.2 0 (by decide)] <;> exact ht
  refine ok_if (fun hc3 => ?_) (fun hc3 => ?_)
  · exact ok_some ⟨hT, (show CF σ2.1 from by exact ⟨hW2, hW28, hW132, hW158, hW184, hL, hD, hu, ht⟩)⟩
  · have qhc3 := hqv1.2 hc3
    refine ok_gC rfl ?_
    refine ok_zbT (Q := fun V σ => (V = 0 ∨ V = 1) ∧ (¬ V = 0 → 0 ≤ x2.toInt ∧ x2.toInt < (σ2.1 28 0).toInt)) hT (s_X11_isName_n28 hN (hR.tr hT) ((hT.1.1 0 4 (by decide)).trans hNw) (by first | exact hn | omega | (rw [hT.2 28 (by decide)]; exact hn))) (fun _ h9 => absurd h9 List.not_mem_nil) (fun v4 σ5 hOσ5 hT hqv4 => ?_)
    have hqv4 : (v4 = 0 ∨ v4 = 1) ∧ (¬ v4 = 0 → 0 ≤ x2.toInt ∧ x2.toInt < (σ2.1 28 0).toInt) := hqv4
    have hW2 : WI 2 σ5.1 := WI.tr hOσ5 (by decide) (by decide) (by decide) hW2
    have hW28 : WI 28 σ5.1 := WI.tr hOσ5 (by decide) (by decide) (by decide) hW28
    have hW132 : WI 132 σ5.1 := WI.tr hOσ5 (by decide) (by decide) (by decide) hW132
    have hW158 : WI 158 σ5.1 := WI.tr hOσ5 (by decide) (by decide) (by decide) hW158
    have hW184 : WI 184 σ5.1 := WI.tr hOσ5 (by decide) (by decide) (by decide) hW184
    have hL : SI σ5.1 := SI.tr hOσ5 (by decide) (by decide) (by decide) (by decide) hL
    have hD : RD σ5.1 := RD.tr hOσ5 (by decide) (by decide) (by decide) (by decide) hD
    have hu : 2 ≤ (σ5.1 111 8).toInt ∧ (σ5.1 111 8).toInt ≤ 1600 := by rw [hOσ5.2 111 (by decide)] <;> exact hu
    have ht : 0 ≤ (σ5.1 0 1).toInt ∧ (σ5.1 0 1).toInt ≤ 600 := by rw [hOσ5.2 0 (by decide)] <;> exact ht
    refine ok_if (fun hc6 => ?_) (fun hc6 => ?_)
    · exact ok_some ⟨hT, (show CF σ5.1 from by exact ⟨hW2, hW28, hW132, hW158, hW184, hL, hD, hu, ht⟩)⟩
    · have qhc6 := hqv4.2 hc6
      refine ok_gR (v := 28) hT rfl hNw ?_
      refine ok_gC rfl ?_
      refine ok_zbT (Q := fun V σ => True) hT (s_X10_moveName_28 hN (hR.tr hT) ) (by decide) (fun v8 σ9 hOσ9 hT hqv8 => ?_)
      have hW2 : WI 2 σ9.1 := WI.tr hOσ9 (by decide) (by decide) (by decide) hW2
      have hW28 : WI 28 σ9.1 := WI.tr hOσ9 (by decide) (by decide) (by decide) hW28
      have hW132 : WI 132 σ9.1 := WI.tr hOσ9 (by decide) (by decide) (by decide) hW132
      have hW158 : WI 158 σ9.1 := WI.tr hOσ9 (by decide) (by decide) (by decide) hW158
      have hW184 : WI 184 σ9.1 := WI.tr hOσ9 (by decide) (by decide) (by decide) hW184
      have hL : SI σ9.1 := SI.tr hOσ9 (by decide) (by decide) (by decide) (by decide) hL
      have hD : RD σ9.1 := RD.tr hOσ9 (by decide) (by decide) (by decide) (by decide) hD
      have hu : 2 ≤ (σ9.1 111 8).toInt ∧ (σ9.1 111 8).toInt ≤ 1600 := by rw [hOσ9.2 111 (by decide)] <;> exact hu
      have ht : 0 ≤ (σ9.1 0 1).toInt ∧ (σ9.1 0 1).toInt ≤ 600 := by rw [hOσ9.2 0 (by decide)] <;> exact ht
      exact ok_some ⟨hT, (show CF σ9.1 from by exact ⟨hW2, hW28, hW132, hW158, hW184, hL, hD, hu, ht⟩)⟩

set_option maxHeartbeats 4000000 in
set_option maxRecDepth 100000 in
theorem s_X11_swap_n28 {N : Nat} (hN : 1048576 ≤ N) {x1 : Int32} {σ0 : zS}  (hR : RF σ0.2.2) (hNw : σ0.2.2 0 4 = 28) (hPw : σ0.2.2 0 5 = 2) (hC : CF σ0.1) : Ok (f_X11_swap N 0 x1 σ0) (fun r => Tr [32, 111, 112, 113, 114, 115, 116, 117, 118, 119] σ0 r.2 ∧ (CF r.2.1)) := by
  have hT : Tr [32, 111, 112, 113, 114, 115, 116, 117, 118, 119] σ0 σ0 := Tr.rf
  obtain ⟨hW2, hW28, hW132, hW158, hW184, hL, hD, hu, ht⟩ := hC
  have hn := hW28.1
  have he := hW28.2.1
  have hD0 := hD
  have hL0 := hL
  have q10 := ti_one10 (x := σ0.1 28 0) hn.1 hn.2
  rw [f_X11_swap.eq_1]
  refine ok_gC rfl ?_
  refine ok_zbT (Q := fun V σ => (V = 0 ∨ V = 1) ∧ (¬ V = 0 → 0 ≤ x1.toInt ∧ x1.toInt < (σ0.1 28 0).toInt)) hT (s_X11_isName_n28 hN (hR.tr hT) ((hT.1.1 0 4 (by decide)).trans hNw) (by first | exact hn | omega | (rw [hT.2 28 (by decide)]; exact hn))) (fun _ h9 => absurd h9 List.not_mem_nil) (fun v1 σ2 hOσ2 hT hqv1 => ?_)
  have hqv1 : (v1 = 0 ∨ v1 = 1) ∧ (¬ v1 = 0 → 0 ≤ x1.toInt ∧ x1.toInt < (σ0.1 28 0).toInt) := hqv1
  have hW2 : WI 2 σ2.1 := WI.tr hOσ2 (by decide) (by decide) (by decide) hW2
  have hW28 : WI 28 σ2.1 := WI.tr hOσ2 (by decide) (by decide) (by decide) hW28
  have hW132 : WI 132 σ2.1 := WI.tr hOσ2 (by decide) (by decide) (by decide) hW132
  have hW158 : WI 158 σ2.1 := WI.tr hOσ2 (by decide) (by decide) (by decide) hW158
  have hW184 : WI 184 σ2.1 := WI.tr hOσ2 (by decide) (by decide) (by decide) hW184
  have hL : SI σ2.1 := SI.tr hOσ2 (by decide) (by decide) (by decide) (by decide) hL
  have hD : RD σ2.1 := RD.tr hOσ2 (by decide) (by decide) (by decide) (by decide) hD
  have hu : 2 ≤ (σ2.1 111 8).toInt ∧ (σ2.1 111 8).toInt ≤ 1600 := by rw [hOσ2.2 111 (by decide)] <;> exact hu
  have ht : 0 ≤ (σ2.1 0 1).toInt ∧ (σ2.1 0 1).toInt ≤ 600 := by rw [hOσ2.2 0 (by decide)] <;> exact ht
  refine ok_if (fun hc3 => ?_) (fun hc3 => ?_)
  · exact ok_some ⟨hT, (show CF σ2.1 from by exact ⟨hW2, hW28, hW132, hW158, hW184, hL, hD, hu, ht⟩)⟩
  · have qhc3 := hqv1.2 hc3
    refine ok_gR (v := 28) hT rfl hNw ?_
    refine ok_gI0 hT rfl (by decide) ?_
    refine ok_if (fun hc6 => ?_) (fun hc6 => ?_)
    · refine ok_gR (v := 28) hT rfl hNw ?_
      refine ok_gR (v := 28) hT rfl hNw ?_
      refine ok_gR (v := 32) hT rfl (hR 28 6 rfl) ?_
      refine ok_aIn rfl (by first | omega | decide | (have q1 := hD.1; have q2 := hD.2.1; simp only [Int32.le_iff_toInt_le, Int32.lt_iff_toInt_lt, ti_add, ti_sub, ti_mul, Int32.reduceToInt] at *; omega)) (by first | omega | decide | (have q1 := hD.1; have q2 := hD.2.1; simp only [Int32.le_iff_toInt_le, Int32.lt_iff_toInt_lt, ti_add, ti_sub, ti_mul, Int32.reduceToInt] at *; omega)) (fun v10 ev10 => ?_)
      refine ok_gC rfl ?_
      refine ok_zbT (Q := fun V σ => True) hT (s_X10_moveName_28 hN (hR.tr hT) ) (by decide) (fun v11 σ12 hOσ12 hT hqv11 => ?_)
      have hW2 : WI 2 σ12.1 := WI.tr hOσ12 (by decide) (by decide) (by decide) hW2
      have hW28 : WI 28 σ12.1 := WI.tr hOσ12 (by decide) (by decide) (by decide) hW28
      have hW132 : WI 132 σ12.1 := WI.tr hOσ12 (by decide) (by decide) (by decide) hW132
      have hW158 : WI 158 σ12.1 := WI.tr hOσ12 (by decide) (by decide) (by decide) hW158
      have hW184 : WI 184 σ12.1 := WI.tr hOσ12 (by decide) (by decide) (by decide) hW184
      have hL : SI σ12.1 := SI.tr hOσ12 (by decide) (by decide) (by decide) (by decide) hL
      have hD : RD σ12.1 := RD.tr hOσ12 (by decide) (by decide) (by decide) (by decide) hD
      have hu : 2 ≤ (σ12.1 111 8).toInt ∧ (σ12.1 111 8).toInt ≤ 1600 := by rw [hOσ12.2 111 (by decide)] <;> exact hu
      have ht : 0 ≤ (σ12.1 0 1).toInt ∧ (σ12.1 0 1).toInt ≤ 600 := by rw [hOσ12.2 0 (by decide)] <;> exact ht
      refine ok_gR (v := 111) hT rfl (hR 0 13 rfl) ?_
      refine ok_gR (v := 28) hT rfl hNw ?_
      refine ok_gC rfl ?_
      refine ok_zbT (Q := fun V σ => 2 ≤ (σ.1 111 8).toInt ∧ (σ.1 111 8).toInt ≤ 1600) hT (s_X1_tallyOfAll_28 hN (hR.tr hT) (hu) (by first | exact hn | omega | (rw [hT.2 28 (by decide)]; exact hn))) (by decide) (fun v15 σ16 hOσ16 hT hqv15 => ?_)
      have hqv15 : 2 ≤ (σ16.1 111 8).toInt ∧ (σ16.1 111 8).toInt ≤ 1600 := hqv15
      have hW2 : WI 2 σ16.1 := WI.tr hOσ16 (by decide) (by decide) (by decide) hW2
      have hW28 : WI 28 σ16.1 := WI.tr hOσ16 (by decide) (by decide) (by decide) hW28
      have hW132 : WI 132 σ16.1 := WI.tr hOσ16 (by decide) (by decide) (by decide) hW132
      have hW158 : WI 158 σ16.1 := WI.tr hOσ16 (by decide) (by decide) (by decide) hW158
      have hW184 : WI 184 σ16.1 := WI.tr hOσ16 (by decide) (by decide) (by decide) hW184
      have hL : SI σ16.1 := SI.tr hOσ16 (by decide) (by decide) (by decide) (by decide) hL
      have hD : RD σ16.1 := RD.tr hOσ16 (by decide) (by decide) (by decide) (by decide) hD
      have hu : 2 ≤ (σ16.1 111 8).toInt ∧ (σ16.1 111 8).toInt ≤ 1600 := hqv15
      have ht : 0 ≤ (σ16.1 0 1).toInt ∧ (σ16.1 0 1).toInt ≤ 600 := by rw [hOσ16.2 0 (by decide)] <;> exact ht
      exact ok_some ⟨hT, (show CF σ16.1 from by exact ⟨hW2, hW28, hW132, hW158, hW184, hL, hD, hu, ht⟩)⟩
    · exact ok_some ⟨hT, (show CF σ2.1 from by exact ⟨hW2, hW28, hW132, hW158, hW184, hL, hD, hu, ht⟩)⟩

set_option maxHeartbeats 4000000 in
set_option maxRecDepth 100000 in
theorem s_X11_weigh_n28 {N : Nat} (hN : 1048576 ≤ N) {x1 : Int32} {x2 : Int32} {σ0 : zS}  (hR : RF σ0.2.2) (hNw : σ0.2.2 0 4 = 28) (hPw : σ0.2.2 0 5 = 2) (hC : CF σ0.1) : Ok (f_X11_weigh N 0 x1 x2 σ0) (fun r => Tr [31] σ0 r.2 ∧ (CF r.2.1)) := by
  have hT : Tr [31] σ0 σ0 := Tr.rf
  obtain ⟨hW2, hW28, hW132, hW158, hW184, hL, hD, hu, ht⟩ := hC
  have hn := hW28.1
  have he := hW28.2.1
  have hD0 := hD
  have hL0 := hL
  have q10 := ti_one10 (x := σ0.1 28 0) hn.1 hn.2
  rw [f_X11_weigh.eq_1]
  refine ok_gC rfl ?_
  refine ok_zbT (Q := fun V σ => (V = 0 ∨ V = 1) ∧ (¬ V = 0 → 0 ≤ x1.toInt ∧ x1.toInt < (σ0.1 28 0).toInt)) hT (s_X11_isName_n28 hN (hR.tr hT) ((hT.1.1 0 4 (by decide)).trans hNw) (by first | exact hn | omega | (rw [hT.2 28 (by decide)]; exact hn))) (fun _ h9 => absurd h9 List.not_mem_nil) (fun v1 σ2 hOσ2 hT hqv1 => ?_)
  have hqv1 : (v1 = 0 ∨ v1 = 1) ∧ (¬ v1 = 0 → 0 ≤ x1.toInt ∧ x1.toInt < (σ0.1 28 0).toInt) := hqv1
  have hW2 : WI 2 σ2.1 := WI.tr hOσ2 (by decide) (by decide) (by decide) hW2
  have hW28 : WI 28 σ2.1 := WI.tr hOσ2 (by decide) (by decide) (by decide) hW28
  have hW132 : WI 132 σ2.1 := WI.tr hOσ2 (by decide) (by decide) (by decide) hW132
  have hW158 : WI 158 σ2.1 := WI.tr hOσ2 (by decide) (by decide) (by decide) hW158
  have hW184 : WI 184 σ2.1 := WI.tr hOσ2 (by decide) (by decide) (by decide) hW184
  have hL : SI σ2.1 := SI.tr hOσ2 (by decide) (by decide) (by decide) (by decide) hL
  have hD : RD σ2.1 := RD.tr hOσ2 (by decide) (by decide) (by decide) (by decide) hD
  have hu : 2 ≤ (σ2.1 111 8).toInt ∧ (σ2.1 111 8).toInt ≤ 1600 := by rw [hOσ2.2 111 (by decide)] <;> exact hu
  have ht : 0 ≤ (σ2.1 0 1).toInt ∧ (σ2.1 0 1).toInt ≤ 600 := by rw [hOσ2.2 0 (by decide)] <;> exact ht
  refine ok_if (fun hc3 => ?_) (fun hc3 => ?_)
  · exact ok_some ⟨hT, (show CF σ2.1 from by exact ⟨hW2, hW28, hW132, hW158, hW184, hL, hD, hu, ht⟩)⟩
  · have qhc3 := hqv1.2 hc3
    refine ok_if (fun hc4 => ?_) (fun hc4 => ?_)
    · exact ok_some ⟨hT, (show CF σ2.1 from by exact ⟨hW2, hW28, hW132, hW158, hW184, hL, hD, hu, ht⟩)⟩
    · refine ok_if (fun hc5 => ?_) (fun hc5 => ?_)
      · refine ok_gR (v := 28) hT rfl hNw ?_
        refine ok_gR (v := 31) hT rfl (hR 28 5 rfl) ?_
        refine ok_aIn rfl (by first | omega | decide | (have q1 := hD.1; have q2 := hD.2.1; simp only [Int32.le_iff_toInt_le, Int32.lt_iff_toInt_lt, ti_add, ti_sub, ti_mul, Int32.reduceToInt] at *; omega)) (by first | omega | decide | (have q1 := hD.1; have q2 := hD.2.1; simp only [Int32.le_iff_toInt_le, Int32.lt_iff_toInt_lt, ti_add, ti_sub, ti_mul, Int32.reduceToInt] at *; omega)) (fun v8 ev8 => ?_)
        refine ok_gR (v := 28) hT rfl hNw ?_
        refine ok_gR (v := 31) hT rfl (hR 28 5 rfl) ?_
        refine ok_s14 hT rfl (by decide) (by first | omega | decide | (have q1 := hD.1; have q2 := hD.2.1; simp only [Int32.le_iff_toInt_le, Int32.lt_iff_toInt_lt, ti_add, ti_sub, ti_mul, Int32.reduceToInt] at *; omega)) (by first | omega | decide | (have q1 := hD.1; have q2 := hD.2.1; simp only [Int32.le_iff_toInt_le, Int32.lt_iff_toInt_lt, ti_add, ti_sub, ti_mul, Int32.reduceToInt] at *; omega)) (fun σ11 eσ11 hOσ11 hT => ?_)
        have hW2 : WI 2 σ11.1 := WI.tr hOσ11 (by decide) (by decide) (by decide) hW2
        have hW28 : WI 28 σ11.1 := WI.tr hOσ11 (by decide) (by decide) (by decide) hW28
        have hW132 : WI 132 σ11.1 := WI.tr hOσ11 (by decide) (by decide) (by decide) hW132
        have hW158 : WI 158 σ11.1 := WI.tr hOσ11 (by decide) (by decide) (by decide) hW158
        have hW184 : WI 184 σ11.1 := WI.tr hOσ11 (by decide) (by decide) (by decide) hW184
        have hL : SI σ11.1 := SI.tr hOσ11 (by decide) (by decide) (by decide) (by decide) hL
        have hD : RD σ11.1 := RD.tr hOσ11 (by decide) (by decide) (by decide) (by decide) hD
        have hu : 2 ≤ (σ11.1 111 8).toInt ∧ (σ11.1 111 8).toInt ≤ 1600 := by rw [hOσ11.2 111 (by decide)] <;> exact hu
        have ht : 0 ≤ (σ11.1 0 1).toInt ∧ (σ11.1 0 1).toInt ≤ 600 := by rw [hOσ11.2 0 (by decide)] <;> exact ht
        exact ok_some ⟨hT, (show CF σ11.1 from by exact ⟨hW2, hW28, hW132, hW158, hW184, hL, hD, hu, ht⟩)⟩
      · exact ok_some ⟨hT, (show CF σ2.1 from by exact ⟨hW2, hW28, hW132, hW158, hW184, hL, hD, hu, ht⟩)⟩

set_option maxHeartbeats 4000000 in
set_option maxRecDepth 100000 in
theorem s_X11_judge_n28 {N : Nat} (hN : 1048576 ≤ N) {x1 : Int32} {x2 : Int32} {σ0 : zS}  (hR : RF σ0.2.2) (hNw : σ0.2.2 0 4 = 28) (hPw : σ0.2.2 0 5 = 2) (hC : CF σ0.1) : Ok (f_X11_judge N 0 x1 x2 σ0) (fun r => Tr [] σ0 r.2 ∧ (CF r.2.1)) := by
  have hT : Tr [] σ0 σ0 := Tr.rf
  obtain ⟨hW2, hW28, hW132, hW158, hW184, hL, hD, hu, ht⟩ := hC
  have hn := hW28.1
  have he := hW28.2.1
  have hD0 := hD
  have hL0 := hL
  have q10 := ti_one10 (x := σ0.1 28 0) hn.1 hn.2
  rw [f_X11_judge.eq_1]
  refine ok_gC rfl ?_
  refine ok_zbT (Q := fun V σ => (V = 0 ∨ V = 1) ∧ (¬ V = 0 → 0 ≤ x1.toInt ∧ x1.toInt ≤ 3)) hT (s_X11_isSlot hN (hR.tr hT) ) (fun _ h9 => absurd h9 List.not_mem_nil) (fun v1 σ2 hOσ2 hT hqv1 => ?_)
  have hqv1 : (v1 = 0 ∨ v1 = 1) ∧ (¬ v1 = 0 → 0 ≤ x1.toInt ∧ x1.toInt ≤ 3) := hqv1
  have hW2 : WI 2 σ2.1 := WI.tr hOσ2 (by decide) (by decide) (by decide) hW2
  have hW28 : WI 28 σ2.1 := WI.tr hOσ2 (by decide) (by decide) (by decide) hW28
  have hW132 : WI 132 σ2.1 := WI.tr hOσ2 (by decide) (by decide) (by decide) hW132
  have hW158 : WI 158 σ2.1 := WI.tr hOσ2 (by decide) (by decide) (by decide) hW158
  have hW184 : WI 184 σ2.1 := WI.tr hOσ2 (by decide) (by decide) (by decide) hW184
  have hL : SI σ2.1 := SI.tr hOσ2 (by decide) (by decide) (by decide) (by decide) hL
  have hD : RD σ2.1 := RD.tr hOσ2 (by decide) (by decide) (by decide) (by decide) hD
  have hu : 2 ≤ (σ2.1 111 8).toInt ∧ (σ2.1 111 8).toInt ≤ 1600 := by rw [hOσ2.2 111 (by decide)] <;> exact hu
  have ht : 0 ≤ (σ2.1 0 1).toInt ∧ (σ2.1 0 1).toInt ≤ 600 := by rw [hOσ2.2 0 (by decide)] <;> exact ht
  refine ok_if (fun hc3 => ?_) (fun hc3 => ?_)
  · exact ok_some ⟨hT, (show CF σ2.1 from by exact ⟨hW2, hW28, hW132, hW158, hW184, hL, hD, hu, ht⟩)⟩
  · have qhc3 := hqv1.2 hc3
    refine ok_gC rfl ?_
    have hTc := hT
    refine ok_zbT (Q := fun V σ => (V = 0 ∨ V = 1) ∧ (¬ V = 0 → 0 ≤ x2.toInt ∧ x2.toInt ≤ 9)) hT (s_X11_isRegister_n28 hN (hR.tr hT) ((hT.1.1 0 4 (by decide)).trans hNw) (by first | exact hn | omega | (rw [hT.2 28 (by decide)]; exact hn))) (fun _ h9 => absurd h9 List.not_mem_nil) (fun v4 σ5 hOσ5 hT hqv4 => ?_)
    have hqv4 : (v4 = 0 ∨ v4 = 1) ∧ (¬ v4 = 0 → 0 ≤ x2.toInt ∧ x2.toInt ≤ 9) := hqv4
    try simp only [hTc.2 _ List.not_mem_nil] at hqv4
    have hW2 : WI 2 σ5.1 := WI.tr hOσ5 (by decide) (by decide) (by decide) hW2
    have hW28 : WI 28 σ5.1 := WI.tr hOσ5 (by decide) (by decide) (by decide) hW28
    have hW132 : WI 132 σ5.1 := WI.tr hOσ5 (by decide) (by decide) (by decide) hW132
    have hW158 : WI 158 σ5.1 := WI.tr hOσ5 (by decide) (by decide) (by decide) hW158
    have hW184 : WI 184 σ5.1 := WI.tr hOσ5 (by decide) (by decide) (by decide) hW184
    have hL : SI σ5.1 := SI.tr hOσ5 (by decide) (by decide) (by decide) (by decide) hL
    have hD : RD σ5.1 := RD.tr hOσ5 (by decide) (by decide) (by decide) (by decide) hD
    have hu : 2 ≤ (σ5.1 111 8).toInt ∧ (σ5.1 111 8).toInt ≤ 1600 := by rw [hOσ5.2 111 (by decide)] <;> exact hu
    have ht : 0 ≤ (σ5.1 0 1).toInt ∧ (σ5.1 0 1).toInt ≤ 600 := by rw [hOσ5.2 0 (by decide)] <;> exact ht
    refine ok_if (fun hc6 => ?_) (fun hc6 => ?_)
    · exact ok_some ⟨hT, (show CF σ5.1 from by exact ⟨hW2, hW28, hW132, hW158, hW184, hL, hD, hu, ht⟩)⟩
    · have qhc6 := hqv4.2 hc6
      refine ok_gR (v := 56) hT rfl (hR 0 8 rfl) ?_
      obtain ⟨q9, eq9, kq9⟩ := arrS hR (k := 56) (i := x1) rfl (by first | omega | decide | (have q1 := hD.1; have q2 := hD.2.1; simp only [Int32.le_iff_toInt_le, Int32.lt_iff_toInt_lt, ti_add, ti_sub, ti_mul, Int32.reduceToInt] at *; omega)) (by first | omega | decide | (have q1 := hD.1; have q2 := hD.2.1; simp only [Int32.le_iff_toInt_le, Int32.lt_iff_toInt_lt, ti_add, ti_sub, ti_mul, Int32.reduceToInt] at *; omega))
      refine ok_aR (v := q9) hT rfl (by first | omega | decide | (have q1 := hD.1; have q2 := hD.2.1; simp only [Int32.le_iff_toInt_le, Int32.lt_iff_toInt_lt, ti_add, ti_sub, ti_mul, Int32.reduceToInt] at *; omega)) (by first | omega | decide | (have q1 := hD.1; have q2 := hD.2.1; simp only [Int32.le_iff_toInt_le, Int32.lt_iff_toInt_lt, ti_add, ti_sub, ti_mul, Int32.reduceToInt] at *; omega)) eq9 ?_
      have hq24 := hL0 q9 kq9
      refine ok_gC kq9 ?_
      have hTc := hT
      refine ok_zbT (Q := fun V σ => (V = 0 ∨ V = 1) ∧ (V = 0 → 0 ≤ (σ5.1 q9 2).toInt)) hT (s_X9_isBare hN (hR.tr hT) kq9) (fun _ h9 => absurd h9 List.not_mem_nil) (fun v10 σ11 hOσ11 hT hqv10 => ?_)
      have hqv10 : (v10 = 0 ∨ v10 = 1) ∧ (v10 = 0 → 0 ≤ (σ5.1 q9 2).toInt) := hqv10
      try simp only [hTc.2 _ List.not_mem_nil] at hqv10
      have hW2 : WI 2 σ11.1 := WI.tr hOσ11 (by decide) (by decide) (by decide) hW2
      have hW28 : WI 28 σ11.1 := WI.tr hOσ11 (by decide) (by decide) (by decide) hW28
      have hW132 : WI 132 σ11.1 := WI.tr hOσ11 (by decide) (by decide) (by decide) hW132
      have hW158 : WI 158 σ11.1 := WI.tr hOσ11 (by decide) (by decide) (by decide) hW158
      have hW184 : WI 184 σ11.1 := WI.tr hOσ11 (by decide) (by decide) (by decide) hW184
      have hL : SI σ11.1 := SI.tr hOσ11 (by decide) (by decide) (by decide) (by decide) hL
      have hD : RD σ11.1 := RD.tr hOσ11 (by decide) (by decide) (by decide) (by decide) hD
      have hu : 2 ≤ (σ11.1 111 8).toInt ∧ (σ11.1 111 8).toInt ≤ 1600 := by rw [hOσ11.2 111 (by decide)] <;> exact hu
      have ht : 0 ≤ (σ11.1 0 1).toInt ∧ (σ11.1 0 1).toInt ≤ 600 := by rw [hOσ11.2 0 (by decide)] <;> exact ht
      refine ok_if (fun hc12 => ?_) (fun hc12 => ?_)
      · refine ok_gR (v := 28) hT rfl hNw ?_
        refine ok_gR (v := 33) hT rfl (hR 28 7 rfl) ?_
        obtain ⟨q16, eq16, kq16⟩ := arrF hR (k := 33) (i := x2) rfl (by first | omega | decide | (have q1 := hD.1; have q2 := hD.2.1; simp only [Int32.le_iff_toInt_le, Int32.lt_iff_toInt_lt, ti_add, ti_sub, ti_mul, Int32.reduceToInt] at *; omega)) (by first | omega | decide | (have q1 := hD.1; have q2 := hD.2.1; simp only [Int32.le_iff_toInt_le, Int32.lt_iff_toInt_lt, ti_add, ti_sub, ti_mul, Int32.reduceToInt] at *; omega))
        refine ok_aR (v := q16) hT rfl (by first | omega | decide | (have q1 := hD.1; have q2 := hD.2.1; simp only [Int32.le_iff_toInt_le, Int32.lt_iff_toInt_lt, ti_add, ti_sub, ti_mul, Int32.reduceToInt] at *; omega)) (by first | omega | decide | (have q1 := hD.1; have q2 := hD.2.1; simp only [Int32.le_iff_toInt_le, Int32.lt_iff_toInt_lt, ti_add, ti_sub, ti_mul, Int32.reduceToInt] at *; omega)) eq16 ?_
        refine ok_lp (fun t : Int32 × Int32 × zS => Tr [] σ0 (t.2.2) ∧ (0 ≤ (t.2.1).toInt) ∧ (WI 2 (t.2.2).1) ∧ (WI 28 (t.2.2).1) ∧ (WI 132 (t.2.2).1) ∧ (WI 158 (t.2.2).1) ∧ (WI 184 (t.2.2).1) ∧ (SI (t.2.2).1) ∧ (RD (t.2.2).1) ∧ (2 ≤ ((t.2.2).1 111 8).toInt ∧ ((t.2.2).1 111 8).toInt ≤ 1600) ∧ (0 ≤ ((t.2.2).1 0 1).toInt ∧ ((t.2.2).1 0 1).toInt ≤ 600)) (fun t : Int32 × Int32 × zS => (60 - (t.2.1).toInt).toNat) (fun again17 t hI ih53_17 => ?_) N _ (show Tr [] σ0 σ11 ∧ (0 ≤ (0 : Int32).toInt) ∧ (WI 2 σ11.1) ∧ (WI 28 σ11.1) ∧ (WI 132 σ11.1) ∧ (WI 158 σ11.1) ∧ (WI 184 σ11.1) ∧ (SI σ11.1) ∧ (RD σ11.1) ∧ (2 ≤ (σ11.1 111 8).toInt ∧ (σ11.1 111 8).toInt ≤ 1600) ∧ (0 ≤ (σ11.1 0 1).toInt ∧ (σ11.1 0 1).toInt ≤ 600) from ⟨hT, (by first | omega | decide | (have q1 := hD.1; have q2 := hD.2.1; simp only [Int32.le_iff_toInt_le, Int32.lt_iff_toInt_lt, ti_add, ti_sub, ti_mul, Int32.reduceToInt] at *; omega)), hW2, hW28, hW132, hW158, hW184, hL, hD, hu, ht⟩) (show (60 - (0 : Int32).toInt).toNat < N from (by first | omega | decide | (have q1 := hD.1; have q2 := hD.2.1; simp only [Int32.le_iff_toInt_le, Int32.lt_iff_toInt_lt, ti_add, ti_sub, ti_mul, Int32.reduceToInt] at *; omega)))
        obtain ⟨x5_17, x6_17, σ17⟩ := t
        have hI : Tr [] σ0 σ17 ∧ (0 ≤ x6_17.toInt) ∧ (WI 2 σ17.1) ∧ (WI 28 σ17.1) ∧ (WI 132 σ17.1) ∧ (WI 158 σ17.1) ∧ (WI 184 σ17.1) ∧ (SI σ17.1) ∧ (RD σ17.1) ∧ (2 ≤ (σ17.1 111 8).toInt ∧ (σ17.1 111 8).toInt ≤ 1600) ∧ (0 ≤ (σ17.1 0 1).toInt ∧ (σ17.1 0 1).toInt ≤ 600) := hI
        obtain ⟨hT, hI17, hW2, hW28, hW132, hW158, hW184, hL, hD, hu, ht⟩ := hI
        rw [F_X11_judge_53.eq_1]
        refine ok_gI0 hT kq9 List.not_mem_nil ?_
        refine ok_if (fun hc19 => ?_) (fun hc19 => ?_)
        · refine ok_gC kq16 ?_
          have hTc := hT
          refine ok_zbT (Q := fun V σ => -1 ≤ V.toInt ∧ V.toInt ≤ 1023) hT (s_X2_firstFrom hN (hR.tr hT) kq16) (fun _ h9 => absurd h9 List.not_mem_nil) (fun v20 σ21 hOσ21 hT hqv20 => ?_)
          have hqv20 : -1 ≤ v20.toInt ∧ v20.toInt ≤ 1023 := hqv20
          try simp only [hTc.2 _ List.not_mem_nil] at hqv20
          have hW2 : WI 2 σ21.1 := WI.tr hOσ21 (by decide) (by decide) (by decide) hW2
          have hW28 : WI 28 σ21.1 := WI.tr hOσ21 (by decide) (by decide) (by decide) hW28
          have hW132 : WI 132 σ21.1 := WI.tr hOσ21 (by decide) (by decide) (by decide) hW132
          have hW158 : WI 158 σ21.1 := WI.tr hOσ21 (by decide) (by decide) (by decide) hW158
          have hW184 : WI 184 σ21.1 := WI.tr hOσ21 (by decide) (by decide) (by decide) hW184
          have hL : SI σ21.1 := SI.tr hOσ21 (by decide) (by decide) (by decide) (by decide) hL
          have hD : RD σ21.1 := RD.tr hOσ21 (by decide) (by decide) (by decide) (by decide) hD
          have hu : 2 ≤ (σ21.1 111 8).toInt ∧ (σ21.1 111 8).toInt ≤ 1600 := by rw [hOσ21.2 111 (by decide)] <;> exact hu
          have ht : 0 ≤ (σ21.1 0 1).toInt ∧ (σ21.1 0 1).toInt ≤ 600 := by rw [hOσ21.2 0 (by decide)] <;> exact ht
          refine ok_if (fun hc22 => ?_) (fun hc22 => ?_)
          · refine ok_gI0 hT kq9 List.not_mem_nil ?_
            exact ok_some ⟨hT, (show CF σ21.1 from by exact ⟨hW2, hW28, hW132, hW158, hW184, hL, hD, hu, ht⟩)⟩
          · exact ok_some ⟨hT, (show CF σ21.1 from by exact ⟨hW2, hW28, hW132, hW158, hW184, hL, hD, hu, ht⟩)⟩
        · refine ok_gC kq16 ?_
          have hTc := hT
          refine ok_zbT (Q := fun V σ => -1 ≤ V.toInt ∧ V.toInt ≤ 1023) hT (s_X2_firstFrom hN (hR.tr hT) kq16) (fun _ h9 => absurd h9 List.not_mem_nil) (fun v24 σ25 hOσ25 hT hqv24 => ?_)
          have hqv24 : -1 ≤ v24.toInt ∧ v24.toInt ≤ 1023 := hqv24
          try simp only [hTc.2 _ List.not_mem_nil] at hqv24
          have hW2 : WI 2 σ25.1 := WI.tr hOσ25 (by decide) (by decide) (by decide) hW2
          have hW28 : WI 28 σ25.1 := WI.tr hOσ25 (by decide) (by decide) (by decide) hW28
          have hW132 : WI 132 σ25.1 := WI.tr hOσ25 (by decide) (by decide) (by decide) hW132
          have hW158 : WI 158 σ25.1 := WI.tr hOσ25 (by decide) (by decide) (by decide) hW158
          have hW184 : WI 184 σ25.1 := WI.tr hOσ25 (by decide) (by decide) (by decide) hW184
          have hL : SI σ25.1 := SI.tr hOσ25 (by decide) (by decide) (by decide) (by decide) hL
          have hD : RD σ25.1 := RD.tr hOσ25 (by decide) (by decide) (by decide) (by decide) hD
          have hu : 2 ≤ (σ25.1 111 8).toInt ∧ (σ25.1 111 8).toInt ≤ 1600 := by rw [hOσ25.2 111 (by decide)] <;> exact hu
          have ht : 0 ≤ (σ25.1 0 1).toInt ∧ (σ25.1 0 1).toInt ≤ 600 := by rw [hOσ25.2 0 (by decide)] <;> exact ht
          refine ok_if (fun hc26 => ?_) (fun hc26 => ?_)
          · exact ok_some ⟨hT, (show CF σ25.1 from by exact ⟨hW2, hW28, hW132, hW158, hW184, hL, hD, hu, ht⟩)⟩
          · refine ok_gR hT kq9 (slot_R hR kq9).1 ?_
            refine ok_aJ (slot_R hR kq9).2 (by first | omega | decide | (have q1 := hD.1; have q2 := hD.2.1; simp only [Int32.le_iff_toInt_le, Int32.lt_iff_toInt_lt, ti_add, ti_sub, ti_mul, Int32.reduceToInt] at *; omega)) (by first | omega | decide | (have q1 := hD.1; have q2 := hD.2.1; simp only [Int32.le_iff_toInt_le, Int32.lt_iff_toInt_lt, ti_add, ti_sub, ti_mul, Int32.reduceToInt] at *; omega)) ?_
            generalize σ25.2.1 (q9 + 1) (Int32.toNatClampNeg (x6_17)) = v28
            refine ok_if (fun hc29 => ?_) (fun hc29 => ?_)
            · exact ih53_17 (v24 + 1, x6_17 + 1, σ25) (show Tr [] σ0 σ25 ∧ (0 ≤ (x6_17 + 1).toInt) ∧ (WI 2 σ25.1) ∧ (WI 28 σ25.1) ∧ (WI 132 σ25.1) ∧ (WI 158 σ25.1) ∧ (WI 184 σ25.1) ∧ (SI σ25.1) ∧ (RD σ25.1) ∧ (2 ≤ (σ25.1 111 8).toInt ∧ (σ25.1 111 8).toInt ≤ 1600) ∧ (0 ≤ (σ25.1 0 1).toInt ∧ (σ25.1 0 1).toInt ≤ 600) from ⟨hT, (by first | omega | decide | (have q1 := hD.1; have q2 := hD.2.1; simp only [Int32.le_iff_toInt_le, Int32.lt_iff_toInt_lt, ti_add, ti_sub, ti_mul, Int32.reduceToInt] at *; omega)), hW2, hW28, hW132, hW158, hW184, hL, hD, hu, ht⟩) (show (60 - (x6_17 + 1).toInt).toNat < (60 - x6_17.toInt).toNat from (by first | omega | decide | (have q1 := hD.1; have q2 := hD.2.1; simp only [Int32.le_iff_toInt_le, Int32.lt_iff_toInt_lt, ti_add, ti_sub, ti_mul, Int32.reduceToInt] at *; omega)))
            · exact ok_some ⟨hT, (show CF σ25.1 from by exact ⟨hW2, hW28, hW132, hW158, hW184, hL, hD, hu, ht⟩)⟩
      · exact ok_some ⟨hT, (show CF σ11.1 from by exact ⟨hW2, hW28, hW132, hW158, hW184, hL, hD, hu, ht⟩)⟩

set_option maxHeartbeats 4000000 in
set_option maxRecDepth 100000 in
theorem s_X11_takes_n28 {N : Nat} (hN : 1048576 ≤ N) {x1 : Int32} {x2 : Int32} {σ0 : zS}  (hR : RF σ0.2.2) (hNw : σ0.2.2 0 4 = 28) (hPw : σ0.2.2 0 5 = 2) (hC : CF σ0.1) : Ok (f_X11_takes N 0 x1 x2 σ0) (fun r => Tr [] σ0 r.2 ∧ (CF r.2.1)) := by
  have hT : Tr [] σ0 σ0 := Tr.rf
  obtain ⟨hW2, hW28, hW132, hW158, hW184, hL, hD, hu, ht⟩ := hC
  have hn := hW28.1
  have he := hW28.2.1
  have hD0 := hD
  have hL0 := hL
  have q10 := ti_one10 (x := σ0.1 28 0) hn.1 hn.2
  rw [f_X11_takes.eq_1]
  refine ok_gC rfl ?_
  refine ok_zbT (Q := fun V σ => (V = 0 ∨ V = 1) ∧ (¬ V = 0 → 0 ≤ x1.toInt ∧ x1.toInt ≤ 9)) hT (s_X11_isRegister_n28 hN (hR.tr hT) ((hT.1.1 0 4 (by decide)).trans hNw) (by first | exact hn | omega | (rw [hT.2 28 (by decide)]; exact hn))) (fun _ h9 => absurd h9 List.not_mem_nil) (fun v1 σ2 hOσ2 hT hqv1 => ?_)
  have hqv1 : (v1 = 0 ∨ v1 = 1) ∧ (¬ v1 = 0 → 0 ≤ x1.toInt ∧ x1.toInt ≤ 9) := hqv1
  have hW2 : WI 2 σ2.1 := WI.tr hOσ2 (by decide) (by decide) (by decide) hW2
  have hW28 : WI 28 σ2.1 := WI.tr hOσ2 (by decide) (by decide) (by decide) hW28
  have hW132 : WI 132 σ2.1 := WI.tr hOσ2 (by decide) (by decide) (by decide) hW132
  have hW158 : WI 158 σ2.1 := WI.tr hOσ2 (by decide) (by decide) (by decide) hW158
  have hW184 : WI 184 σ2.1 := WI.tr hOσ2 (by decide) (by decide) (by decide) hW184
  have hL : SI σ2.1 := SI.tr hOσ2 (by decide) (by decide) (by decide) (by decide) hL
  have hD : RD σ2.1 := RD.tr hOσ2 (by decide) (by decide) (by decide) (by decide) hD
  have hu : 2 ≤ (σ2.1 111 8).toInt ∧ (σ2.1 111 8).toInt ≤ 1600 := by rw [hOσ2.2 111 (by decide)] <;> exact hu
  have ht : 0 ≤ (σ2.1 0 1).toInt ∧ (σ2.1 0 1).toInt ≤ 600 := by rw [hOσ2.2 0 (by decide)] <;> exact ht
  refine ok_if (fun hc3 => ?_) (fun hc3 => ?_)
  · exact ok_some ⟨hT, (show CF σ2.1 from by exact ⟨hW2, hW28, hW132, hW158, hW184, hL, hD, hu, ht⟩)⟩
  · have qhc3 := hqv1.2 hc3
    refine ok_gC rfl ?_
    have hTc := hT
    refine ok_zbT (Q := fun V σ => (V = 0 ∨ V = 1) ∧ (¬ V = 0 → 0 ≤ x2.toInt ∧ x2.toInt ≤ 3)) hT (s_X11_isSlot hN (hR.tr hT) ) (fun _ h9 => absurd h9 List.not_mem_nil) (fun v4 σ5 hOσ5 hT hqv4 => ?_)
    have hqv4 : (v4 = 0 ∨ v4 = 1) ∧ (¬ v4 = 0 → 0 ≤ x2.toInt ∧ x2.toInt ≤ 3) := hqv4
    try simp only [hTc.2 _ List.not_mem_nil] at hqv4
    have hW2 : WI 2 σ5.1 := WI.tr hOσ5 (by decide) (by decide) (by decide) hW2
    have hW28 : WI 28 σ5.1 := WI.tr hOσ5 (by decide) (by decide) (by decide) hW28
    have hW132 : WI 132 σ5.1 := WI.tr hOσ5 (by decide) (by decide) (by decide) hW132
    have hW158 : WI 158 σ5.1 := WI.tr hOσ5 (by decide) (by decide) (by decide) hW158
    have hW184 : WI 184 σ5.1 := WI.tr hOσ5 (by decide) (by decide) (by decide) hW184
    have hL : SI σ5.1 := SI.tr hOσ5 (by decide) (by decide) (by decide) (by decide) hL
    have hD : RD σ5.1 := RD.tr hOσ5 (by decide) (by decide) (by decide) (by decide) hD
    have hu : 2 ≤ (σ5.1 111 8).toInt ∧ (σ5.1 111 8).toInt ≤ 1600 := by rw [hOσ5.2 111 (by decide)] <;> exact hu
    have ht : 0 ≤ (σ5.1 0 1).toInt ∧ (σ5.1 0 1).toInt ≤ 600 := by rw [hOσ5.2 0 (by decide)] <;> exact ht
    refine ok_if (fun hc6 => ?_) (fun hc6 => ?_)
    · exact ok_some ⟨hT, (show CF σ5.1 from by exact ⟨hW2, hW28, hW132, hW158, hW184, hL, hD, hu, ht⟩)⟩
    · have qhc6 := hqv4.2 hc6
      refine ok_gR (v := 56) hT rfl (hR 0 8 rfl) ?_
      obtain ⟨q9, eq9, kq9⟩ := arrS hR (k := 56) (i := x2) rfl (by first | omega | decide | (have q1 := hD.1; have q2 := hD.2.1; simp only [Int32.le_iff_toInt_le, Int32.lt_iff_toInt_lt, ti_add, ti_sub, ti_mul, Int32.reduceToInt] at *; omega)) (by first | omega | decide | (have q1 := hD.1; have q2 := hD.2.1; simp only [Int32.le_iff_toInt_le, Int32.lt_iff_toInt_lt, ti_add, ti_sub, ti_mul, Int32.reduceToInt] at *; omega))
      refine ok_aR (v := q9) hT rfl (by first | omega | decide | (have q1 := hD.1; have q2 := hD.2.1; simp only [Int32.le_iff_toInt_le, Int32.lt_iff_toInt_lt, ti_add, ti_sub, ti_mul, Int32.reduceToInt] at *; omega)) (by first | omega | decide | (have q1 := hD.1; have q2 := hD.2.1; simp only [Int32.le_iff_toInt_le, Int32.lt_iff_toInt_lt, ti_add, ti_sub, ti_mul, Int32.reduceToInt] at *; omega)) eq9 ?_
      have hq24 := hL0 q9 kq9
      refine ok_gC kq9 ?_
      have hTc := hT
      refine ok_zbT (Q := fun V σ => (V = 0 ∨ V = 1) ∧ (V = 0 → 0 ≤ (σ5.1 q9 2).toInt)) hT (s_X9_isBare hN (hR.tr hT) kq9) (fun _ h9 => absurd h9 List.not_mem_nil) (fun v10 σ11 hOσ11 hT hqv10 => ?_)
      have hqv10 : (v10 = 0 ∨ v10 = 1) ∧ (v10 = 0 → 0 ≤ (σ5.1 q9 2).toInt) := hqv10
      try simp only [hTc.2 _ List.not_mem_nil] at hqv10
      have hW2 : WI 2 σ11.1 := WI.tr hOσ11 (by decide) (by decide) (by decide) hW2
      have hW28 : WI 28 σ11.1 := WI.tr hOσ11 (by decide) (by decide) (by decide) hW28
      have hW132 : WI 132 σ11.1 := WI.tr hOσ11 (by decide) (by decide) (by decide) hW132
      have hW158 : WI 158 σ11.1 := WI.tr hOσ11 (by decide) (by decide) (by decide) hW158
      have hW184 : WI 184 σ11.1 := WI.tr hOσ11 (by decide) (by decide) (by decide) hW184
      have hL : SI σ11.1 := SI.tr hOσ11 (by decide) (by decide) (by decide) (by decide) hL
      have hD : RD σ11.1 := RD.tr hOσ11 (by decide) (by decide) (by decide) (by decide) hD
      have hu : 2 ≤ (σ11.1 111 8).toInt ∧ (σ11.1 111 8).toInt ≤ 1600 := by rw [hOσ11.2 111 (by decide)] <;> exact hu
      have ht : 0 ≤ (σ11.1 0 1).toInt ∧ (σ11.1 0 1).toInt ≤ 600 := by rw [hOσ11.2 0 (by decide)] <;> exact ht
      refine ok_if (fun hc12 => ?_) (fun hc12 => ?_)
      · refine ok_gR (v := 128) hT rfl (hR 0 17 rfl) ?_
        refine ok_gC rfl ?_
        refine ok_zbT (Q := fun V σ => True) hT (s_X2_clear hN (hR.tr hT) rfl) (fun _ h9 => absurd h9 List.not_mem_nil) (fun v14 σ15 hOσ15 hT hqv14 => ?_)
        have hW2 : WI 2 σ15.1 := WI.tr hOσ15 (by decide) (by decide) (by decide) hW2
        have hW28 : WI 28 σ15.1 := WI.tr hOσ15 (by decide) (by decide) (by decide) hW28
        have hW132 : WI 132 σ15.1 := WI.tr hOσ15 (by decide) (by decide) (by decide) hW132
        have hW158 : WI 158 σ15.1 := WI.tr hOσ15 (by decide) (by decide) (by decide) hW158
        have hW184 : WI 184 σ15.1 := WI.tr hOσ15 (by decide) (by decide) (by decide) hW184
        have hL : SI σ15.1 := SI.tr hOσ15 (by decide) (by decide) (by decide) (by decide) hL
        have hD : RD σ15.1 := RD.tr hOσ15 (by decide) (by decide) (by decide) (by decide) hD
        have hu : 2 ≤ (σ15.1 111 8).toInt ∧ (σ15.1 111 8).toInt ≤ 1600 := by rw [hOσ15.2 111 (by decide)] <;> exact hu
        have ht : 0 ≤ (σ15.1 0 1).toInt ∧ (σ15.1 0 1).toInt ≤ 600 := by rw [hOσ15.2 0 (by decide)] <;> exact ht
        refine ok_lp (fun t : Int32 × zS => Tr [] σ0 (t.2) ∧ (0 ≤ (t.1).toInt) ∧ (WI 2 (t.2).1) ∧ (WI 28 (t.2).1) ∧ (WI 132 (t.2).1) ∧ (WI 158 (t.2).1) ∧ (WI 184 (t.2).1) ∧ (SI (t.2).1) ∧ (RD (t.2).1) ∧ (2 ≤ ((t.2).1 111 8).toInt ∧ ((t.2).1 111 8).toInt ≤ 1600) ∧ (0 ≤ ((t.2).1 0 1).toInt ∧ ((t.2).1 0 1).toInt ≤ 600)) (fun t : Int32 × zS => (60 - (t.1).toInt).toNat) (fun again16 t hI ih46_16 => ?_) N _ (show Tr [] σ0 σ15 ∧ (0 ≤ (0 : Int32).toInt) ∧ (WI 2 σ15.1) ∧ (WI 28 σ15.1) ∧ (WI 132 σ15.1) ∧ (WI 158 σ15.1) ∧ (WI 184 σ15.1) ∧ (SI σ15.1) ∧ (RD σ15.1) ∧ (2 ≤ (σ15.1 111 8).toInt ∧ (σ15.1 111 8).toInt ≤ 1600) ∧ (0 ≤ (σ15.1 0 1).toInt ∧ (σ15.1 0 1).toInt ≤ 600) from ⟨hT, (by first | omega | decide | (have q1 := hD.1; have q2 := hD.2.1; simp only [Int32.le_iff_toInt_le, Int32.lt_iff_toInt_lt, ti_add, ti_sub, ti_mul, Int32.reduceToInt] at *; omega)), hW2, hW28, hW132, hW158, hW184, hL, hD, hu, ht⟩) (show (60 - (0 : Int32).toInt).toNat < N from (by first | omega | decide | (have q1 := hD.1; have q2 := hD.2.1; simp only [Int32.le_iff_toInt_le, Int32.lt_iff_toInt_lt, ti_add, ti_sub, ti_mul, Int32.reduceToInt] at *; omega)))
        obtain ⟨x4_16, σ16⟩ := t
        have hI : Tr [] σ0 σ16 ∧ (0 ≤ x4_16.toInt) ∧ (WI 2 σ16.1) ∧ (WI 28 σ16.1) ∧ (WI 132 σ16.1) ∧ (WI 158 σ16.1) ∧ (WI 184 σ16.1) ∧ (SI σ16.1) ∧ (RD σ16.1) ∧ (2 ≤ (σ16.1 111 8).toInt ∧ (σ16.1 111 8).toInt ≤ 1600) ∧ (0 ≤ (σ16.1 0 1).toInt ∧ (σ16.1 0 1).toInt ≤ 600) := hI
        obtain ⟨hT, hI16, hW2, hW28, hW132, hW158, hW184, hL, hD, hu, ht⟩ := hI
        rw [F_X11_takes_46.eq_1]
        refine ok_gI0 hT kq9 List.not_mem_nil ?_
        refine ok_if (fun hc18 => ?_) (fun hc18 => ?_)
        · refine ok_gC rfl ?_
          refine ok_zbT (Q := fun V σ => True) hT (s_X11_store_n28 hN (hR.tr hT) ((hT.1.1 0 4 (by decide)).trans hNw) (by first | exact hn | omega | (rw [hT.2 28 (by decide)]; exact hn))) (fun _ h9 => absurd h9 List.not_mem_nil) (fun v19 σ20 hOσ20 hT hqv19 => ?_)
          have hW2 : WI 2 σ20.1 := WI.tr hOσ20 (by decide) (by decide) (by decide) hW2
          have hW28 : WI 28 σ20.1 := WI.tr hOσ20 (by decide) (by decide) (by decide) hW28
          have hW132 : WI 132 σ20.1 := WI.tr hOσ20 (by decide) (by decide) (by decide) hW132
          have hW158 : WI 158 σ20.1 := WI.tr hOσ20 (by decide) (by decide) (by decide) hW158
          have hW184 : WI 184 σ20.1 := WI.tr hOσ20 (by decide) (by decide) (by decide) hW184
          have hL : SI σ20.1 := SI.tr hOσ20 (by decide) (by decide) (by decide) (by decide) hL
          have hD : RD σ20.1 := RD.tr hOσ20 (by decide) (by decide) (by decide) (by decide) hD
          have hu : 2 ≤ (σ20.1 111 8).toInt ∧ (σ20.1 111 8).toInt ≤ 1600 := by rw [hOσ20.2 111 (by decide)] <;> exact hu
          have ht : 0 ≤ (σ20.1 0 1).toInt ∧ (σ20.1 0 1).toInt ≤ 600 := by rw [hOσ20.2 0 (by decide)] <;> exact ht
          exact ok_some ⟨hT, (show CF σ20.1 from by exact ⟨hW2, hW28, hW132, hW158, hW184, hL, hD, hu, ht⟩)⟩
        · refine ok_gR hT kq9 (slot_R hR kq9).1 ?_
          refine ok_aJ (slot_R hR kq9).2 (by first | omega | decide | (have q1 := hD.1; have q2 := hD.2.1; simp only [Int32.le_iff_toInt_le, Int32.lt_iff_toInt_lt, ti_add, ti_sub, ti_mul, Int32.reduceToInt] at *; omega)) (by first | omega | decide | (have q1 := hD.1; have q2 := hD.2.1; simp only [Int32.le_iff_toInt_le, Int32.lt_iff_toInt_lt, ti_add, ti_sub, ti_mul, Int32.reduceToInt] at *; omega)) ?_
          generalize σ16.2.1 (q9 + 1) (Int32.toNatClampNeg (x4_16)) = v22
          refine ok_if (fun hc23 => ?_) (fun hc23 => ?_)
          · exact ok_some ⟨hT, (show CF σ16.1 from by exact ⟨hW2, hW28, hW132, hW158, hW184, hL, hD, hu, ht⟩)⟩
          · refine ok_gR (v := 28) hT rfl hNw ?_
            refine ok_gI0 hT rfl (by decide) ?_
            refine ok_if (fun hc26 => ?_) (fun hc26 => ?_)
            · refine ok_gR (v := 128) hT rfl (hR 0 17 rfl) ?_
              refine ok_gC rfl ?_
              refine ok_zbT (Q := fun V σ => True) hT (s_X2_include hN (hR.tr hT) rfl) (fun _ h9 => absurd h9 List.not_mem_nil) (fun v28 σ29 hOσ29 hT hqv28 => ?_)
              have hW2 : WI 2 σ29.1 := WI.tr hOσ29 (by decide) (by decide) (by decide) hW2
              have hW28 : WI 28 σ29.1 := WI.tr hOσ29 (by decide) (by decide) (by decide) hW28
              have hW132 : WI 132 σ29.1 := WI.tr hOσ29 (by decide) (by decide) (by decide) hW132
              have hW158 : WI 158 σ29.1 := WI.tr hOσ29 (by decide) (by decide) (by decide) hW158
              have hW184 : WI 184 σ29.1 := WI.tr hOσ29 (by decide) (by decide) (by decide) hW184
              have hL : SI σ29.1 := SI.tr hOσ29 (by decide) (by decide) (by decide) (by decide) hL
              have hD : RD σ29.1 := RD.tr hOσ29 (by decide) (by decide) (by decide) (by decide) hD
              have hu : 2 ≤ (σ29.1 111 8).toInt ∧ (σ29.1 111 8).toInt ≤ 1600 := by rw [hOσ29.2 111 (by decide)] <;> exact hu
              have ht : 0 ≤ (σ29.1 0 1).toInt ∧ (σ29.1 0 1).toInt ≤ 600 := by rw [hOσ29.2 0 (by decide)] <;> exact ht
              exact ih46_16 (x4_16 + 1, σ29) (show Tr [] σ0 σ29 ∧ (0 ≤ (x4_16 + 1).toInt) ∧ (WI 2 σ29.1) ∧ (WI 28 σ29.1) ∧ (WI 132 σ29.1) ∧ (WI 158 σ29.1) ∧ (WI 184 σ29.1) ∧ (SI σ29.1) ∧ (RD σ29.1) ∧ (2 ≤ (σ29.1 111 8).toInt ∧ (σ29.1 111 8).toInt ≤ 1600) ∧ (0 ≤ (σ29.1 0 1).toInt ∧ (σ29.1 0 1).toInt ≤ 600) from ⟨hT, (by first | omega | decide | (have q1 := hD.1; have q2 := hD.2.1; simp only [Int32.le_iff_toInt_le, Int32.lt_iff_toInt_lt, ti_add, ti_sub, ti_mul, Int32.reduceToInt] at *; omega)), hW2, hW28, hW132, hW158, hW184, hL, hD, hu, ht⟩) (show (60 - (x4_16 + 1).toInt).toNat < (60 - x4_16.toInt).toNat from (by first | omega | decide | (have q1 := hD.1; have q2 := hD.2.1; simp only [Int32.le_iff_toInt_le, Int32.lt_iff_toInt_lt, ti_add, ti_sub, ti_mul, Int32.reduceToInt] at *; omega)))
            · exact ok_some ⟨hT, (show CF σ16.1 from by exact ⟨hW2, hW28, hW132, hW158, hW184, hL, hD, hu, ht⟩)⟩
      · exact ok_some ⟨hT, (show CF σ11.1 from by exact ⟨hW2, hW28, hW132, hW158, hW184, hL, hD, hu, ht⟩)⟩

set_option maxHeartbeats 4000000 in
set_option maxRecDepth 100000 in
theorem s_X11_write_n28 {N : Nat} (hN : 1048576 ≤ N) {x1 : Int32} {x2 : Int32} {x3 : Int64} {σ0 : zS}  (hR : RF σ0.2.2) (hNw : σ0.2.2 0 4 = 28) (hPw : σ0.2.2 0 5 = 2) (hC : CF σ0.1) : Ok (f_X11_write N 0 x1 x2 x3 σ0) (fun r => Tr [] σ0 r.2 ∧ (CF r.2.1)) := by
  have hT : Tr [] σ0 σ0 := Tr.rf
  obtain ⟨hW2, hW28, hW132, hW158, hW184, hL, hD, hu, ht⟩ := hC
  have hn := hW28.1
  have he := hW28.2.1
  have hD0 := hD
  have hL0 := hL
  have q10 := ti_one10 (x := σ0.1 28 0) hn.1 hn.2
  rw [f_X11_write.eq_1]
  refine ok_gC rfl ?_
  refine ok_zbT (Q := fun V σ => (V = 0 ∨ V = 1) ∧ (¬ V = 0 → 0 ≤ x1.toInt ∧ x1.toInt ≤ 3)) hT (s_X11_isSlot hN (hR.tr hT) ) (fun _ h9 => absurd h9 List.not_mem_nil) (fun v1 σ2 hOσ2 hT hqv1 => ?_)
  have hqv1 : (v1 = 0 ∨ v1 = 1) ∧ (¬ v1 = 0 → 0 ≤ x1.toInt ∧ x1.toInt ≤ 3) := hqv1
  have hW2 : WI 2 σ2.1 := WI.tr hOσ2 (by decide) (by decide) (by decide) hW2
  have hW28 : WI 28 σ2.1 := WI.tr hOσ2 (by decide) (by decide) (by decide) hW28
  have hW132 : WI 132 σ2.1 := WI.tr hOσ2 (by decide) (by decide) (by decide) hW132
  have hW158 : WI 158 σ2.1 := WI.tr hOσ2 (by decide) (by decide) (by decide) hW158
  have hW184 : WI 184 σ2.1 := WI.tr hOσ2 (by decide) (by decide) (by decide) hW184
  have hL : SI σ2.1 := SI.tr hOσ2 (by decide) (by decide) (by decide) (by decide) hL
  have hD : RD σ2.1 := RD.tr hOσ2 (by decide) (by decide) (by decide) (by decide) hD
  have hu : 2 ≤ (σ2.1 111 8).toInt ∧ (σ2.1 111 8).toInt ≤ 1600 := by rw [hOσ2.2 111 (by decide)] <;> exact hu
  have ht : 0 ≤ (σ2.1 0 1).toInt ∧ (σ2.1 0 1).toInt ≤ 600 := by rw [hOσ2.2 0 (by decide)] <;> exact ht
  refine ok_if (fun hc3 => ?_) (fun hc3 => ?_)
  · exact ok_some ⟨hT, (show CF σ2.1 from by exact ⟨hW2, hW28, hW132, hW158, hW184, hL, hD, hu, ht⟩)⟩
  · have qhc3 := hqv1.2 hc3
    refine ok_gR (v := 56) hT rfl (hR 0 8 rfl) ?_
    obtain ⟨q6, eq6, kq6⟩ := arrS hR (k := 56) (i := x1) rfl (by first | omega | decide | (have q1 := hD.1; have q2 := hD.2.1; simp only [Int32.le_iff_toInt_le, Int32.lt_iff_toInt_lt, ti_add, ti_sub, ti_mul, Int32.reduceToInt] at *; omega)) (by first | omega | decide | (have q1 := hD.1; have q2 := hD.2.1; simp only [Int32.le_iff_toInt_le, Int32.lt_iff_toInt_lt, ti_add, ti_sub, ti_mul, Int32.reduceToInt] at *; omega))
    refine ok_aR (v := q6) hT rfl (by first | omega | decide | (have q1 := hD.1; have q2 := hD.2.1; simp only [Int32.le_iff_toInt_le, Int32.lt_iff_toInt_lt, ti_add, ti_sub, ti_mul, Int32.reduceToInt] at *; omega)) (by first | omega | decide | (have q1 := hD.1; have q2 := hD.2.1; simp only [Int32.le_iff_toInt_le, Int32.lt_iff_toInt_lt, ti_add, ti_sub, ti_mul, Int32.reduceToInt] at *; omega)) eq6 ?_
    have hq16 := hL0 q6 kq6
    refine ok_gC kq6 ?_
    have hTc := hT
    refine ok_zbT (Q := fun V σ => (V = 0 ∨ V = 1) ∧ (V = 0 → 0 ≤ (σ2.1 q6 2).toInt)) hT (s_X9_isBare hN (hR.tr hT) kq6) (fun _ h9 => absurd h9 List.not_mem_nil) (fun v7 σ8 hOσ8 hT hqv7 => ?_)
    have hqv7 : (v7 = 0 ∨ v7 = 1) ∧ (v7 = 0 → 0 ≤ (σ2.1 q6 2).toInt) := hqv7
    try simp only [hTc.2 _ List.not_mem_nil] at hqv7
    have hW2 : WI 2 σ8.1 := WI.tr hOσ8 (by decide) (by decide) (by decide) hW2
    have hW28 : WI 28 σ8.1 := WI.tr hOσ8 (by decide) (by decide) (by decide) hW28
    have hW132 : WI 132 σ8.1 := WI.tr hOσ8 (by decide) (by decide) (by decide) hW132
    have hW158 : WI 158 σ8.1 := WI.tr hOσ8 (by decide) (by decide) (by decide) hW158
    have hW184 : WI 184 σ8.1 := WI.tr hOσ8 (by decide) (by decide) (by decide) hW184
    have hL : SI σ8.1 := SI.tr hOσ8 (by decide) (by decide) (by decide) (by decide) hL
    have hD : RD σ8.1 := RD.tr hOσ8 (by decide) (by decide) (by decide) (by decide) hD
    have hu : 2 ≤ (σ8.1 111 8).toInt ∧ (σ8.1 111 8).toInt ≤ 1600 := by rw [hOσ8.2 111 (by decide)] <;> exact hu
    have ht : 0 ≤ (σ8.1 0 1).toInt ∧ (σ8.1 0 1).toInt ≤ 600 := by rw [hOσ8.2 0 (by decide)] <;> exact ht
    refine ok_if (fun hc9 => ?_) (fun hc9 => ?_)
    · refine ok_if (fun hc10 => ?_) (fun hc10 => ?_)
      · exact ok_some ⟨hT, (show CF σ8.1 from by exact ⟨hW2, hW28, hW132, hW158, hW184, hL, hD, hu, ht⟩)⟩
      · refine ok_gI0 hT kq6 List.not_mem_nil ?_
        refine ok_if (fun hc12 => ?_) (fun hc12 => ?_)
        · refine ok_gR hT kq6 (slot_R hR kq6).1 ?_
          refine ok_gC kq6 ?_
          refine ok_zbT (Q := fun V σ => True) hT (s_X9_cut hN (hR.tr hT) kq6) (fun _ h9 => absurd h9 List.not_mem_nil) (fun v14 σ15 hOσ15 hT hqv14 => ?_)
          have hW2 : WI 2 σ15.1 := WI.tr hOσ15 (by decide) (by decide) (by decide) hW2
          have hW28 : WI 28 σ15.1 := WI.tr hOσ15 (by decide) (by decide) (by decide) hW28
          have hW132 : WI 132 σ15.1 := WI.tr hOσ15 (by decide) (by decide) (by decide) hW132
          have hW158 : WI 158 σ15.1 := WI.tr hOσ15 (by decide) (by decide) (by decide) hW158
          have hW184 : WI 184 σ15.1 := WI.tr hOσ15 (by decide) (by decide) (by decide) hW184
          have hL : SI σ15.1 := SI.tr hOσ15 (by decide) (by decide) (by decide) (by decide) hL
          have hD : RD σ15.1 := RD.tr hOσ15 (by decide) (by decide) (by decide) (by decide) hD
          have hu : 2 ≤ (σ15.1 111 8).toInt ∧ (σ15.1 111 8).toInt ≤ 1600 := by rw [hOσ15.2 111 (by decide)] <;> exact hu
          have ht : 0 ≤ (σ15.1 0 1).toInt ∧ (σ15.1 0 1).toInt ≤ 600 := by rw [hOσ15.2 0 (by decide)] <;> exact ht
          refine ok_sJ hT (slot_R hR kq6).2 (by first | omega | decide | (have q1 := hD.1; have q2 := hD.2.1; simp only [Int32.le_iff_toInt_le, Int32.lt_iff_toInt_lt, ti_add, ti_sub, ti_mul, Int32.reduceToInt] at *; omega)) (by first | omega | decide | (have q1 := hD.1; have q2 := hD.2.1; simp only [Int32.le_iff_toInt_le, Int32.lt_iff_toInt_lt, ti_add, ti_sub, ti_mul, Int32.reduceToInt] at *; omega)) (fun σ16 eσ16 hOσ16 hT => ?_)
          have hW2 : WI 2 σ16.1 := WI.tr hOσ16 (by decide) (by decide) (by decide) hW2
          have hW28 : WI 28 σ16.1 := WI.tr hOσ16 (by decide) (by decide) (by decide) hW28
          have hW132 : WI 132 σ16.1 := WI.tr hOσ16 (by decide) (by decide) (by decide) hW132
          have hW158 : WI 158 σ16.1 := WI.tr hOσ16 (by decide) (by decide) (by decide) hW158
          have hW184 : WI 184 σ16.1 := WI.tr hOσ16 (by decide) (by decide) (by decide) hW184
          have hL : SI σ16.1 := SI.tr hOσ16 (by decide) (by decide) (by decide) (by decide) hL
          have hD : RD σ16.1 := RD.tr hOσ16 (by decide) (by decide) (by decide) (by decide) hD
          have hu : 2 ≤ (σ16.1 111 8).toInt ∧ (σ16.1 111 8).toInt ≤ 1600 := by rw [hOσ16.2 111 (by decide)] <;> exact hu
          have ht : 0 ≤ (σ16.1 0 1).toInt ∧ (σ16.1 0 1).toInt ≤ 600 := by rw [hOσ16.2 0 (by decide)] <;> exact ht
          exact ok_some ⟨hT, (show CF σ16.1 from by exact ⟨hW2, hW28, hW132, hW158, hW184, hL, hD, hu, ht⟩)⟩
        · exact ok_some ⟨hT, (show CF σ8.1 from by exact ⟨hW2, hW28, hW132, hW158, hW184, hL, hD, hu, ht⟩)⟩
    · exact ok_some ⟨hT, (show CF σ8.1 from by exact ⟨hW2, hW28, hW132, hW158, hW184, hL, hD, hu, ht⟩)⟩

set_option maxHeartbeats 4000000 in
set_option maxRecDepth 100000 in
theorem s_X11_paste_n28 {N : Nat} (hN : 1048576 ≤ N) {x1 : Int32} {x2 : Int32} {x3 : Int32} {x4 : Int32} {x5 : Int32} {σ0 : zS}  (hR : RF σ0.2.2) (hNw : σ0.2.2 0 4 = 28) (hPw : σ0.2.2 0 5 = 2) (hC : CF σ0.1) : Ok (f_X11_paste N 0 x1 x2 x3 x4 x5 σ0) (fun r => Tr [] σ0 r.2 ∧ (CF r.2.1)) := by
  have hT : Tr [] σ0 σ0 := Tr.rf
  obtain ⟨hW2, hW28, hW132, hW158, hW184, hL, hD, hu, ht⟩ := hC
  have hn := hW28.1
  have he := hW28.2.1
  have hD0 := hD
  have hL0 := hL
  have q10 := ti_one10 (x := σ0.1 28 0) hn.1 hn.2
  rw [f_X11_paste.eq_1]
  refine ok_gC rfl ?_
  refine ok_zbT (Q := fun V σ => (V = 0 ∨ V = 1) ∧ (¬ V = 0 → 0 ≤ x1.toInt ∧ x1.toInt ≤ 3)) hT (s_X11_isSlot hN (hR.tr hT) ) (fun _ h9 => absurd h9 List.not_mem_nil) (fun v1 σ2 hOσ2 hT hqv1 => ?_)
  have hqv1 : (v1 = 0 ∨ v1 = 1) ∧ (¬ v1 = 0 → 0 ≤ x1.toInt ∧ x1.toInt ≤ 3) := hqv1
  have hW2 : WI 2 σ2.1 := WI.tr hOσ2 (by decide) (by decide) (by decide) hW2
  have hW28 : WI 28 σ2.1 := WI.tr hOσ2 (by decide) (by decide) (by decide) hW28
  have hW132 : WI 132 σ2.1 := WI.tr hOσ2 (by decide) (by decide) (by decide) hW132
  have hW158 : WI 158 σ2.1 := WI.tr hOσ2 (by decide) (by decide) (by decide) hW158
  have hW184 : WI 184 σ2.1 := WI.tr hOσ2 (by decide) (by decide) (by decide) hW184
  have hL : SI σ2.1 := SI.tr hOσ2 (by decide) (by decide) (by decide) (by decide) hL
  have hD : RD σ2.1 := RD.tr hOσ2 (by decide) (by decide) (by decide) (by decide) hD
  have hu : 2 ≤ (σ2.1 111 8).toInt ∧ (σ2.1 111 8).toInt ≤ 1600 := by rw [hOσ2.2 111 (by decide)] <;> exact hu
  have ht : 0 ≤ (σ2.1 0 1).toInt ∧ (σ2.1 0 1).toInt ≤ 600 := by rw [hOσ2.2 0 (by decide)] <;> exact ht
  refine ok_if (fun hc3 => ?_) (fun hc3 => ?_)
  · exact ok_some ⟨hT, (show CF σ2.1 from by exact ⟨hW2, hW28, hW132, hW158, hW184, hL, hD, hu, ht⟩)⟩
  · have qhc3 := hqv1.2 hc3
    refine ok_gC rfl ?_
    have hTc := hT
    refine ok_zbT (Q := fun V σ => (V = 0 ∨ V = 1) ∧ (¬ V = 0 → 0 ≤ x3.toInt ∧ x3.toInt ≤ 3)) hT (s_X11_isSlot hN (hR.tr hT) ) (fun _ h9 => absurd h9 List.not_mem_nil) (fun v4 σ5 hOσ5 hT hqv4 => ?_)
    have hqv4 : (v4 = 0 ∨ v4 = 1) ∧ (¬ v4 = 0 → 0 ≤ x3.toInt ∧ x3.toInt ≤ 3) := hqv4
    try simp only [hTc.2 _ List.not_mem_nil] at hqv4
    have hW2 : WI 2 σ5.1 := WI.tr hOσ5 (by decide) (by decide) (by decide) hW2
    have hW28 : WI 28 σ5.1 := WI.tr hOσ5 (by decide) (by decide) (by decide) hW28
    have hW132 : WI 132 σ5.1 := WI.tr hOσ5 (by decide) (by decide) (by decide) hW132
    have hW158 : WI 158 σ5.1 := WI.tr hOσ5 (by decide) (by decide) (by decide) hW158
    have hW184 : WI 184 σ5.1 := WI.tr hOσ5 (by decide) (by decide) (by decide) hW184
    have hL : SI σ5.1 := SI.tr hOσ5 (by decide) (by decide) (by decide) (by decide) hL
    have hD : RD σ5.1 := RD.tr hOσ5 (by decide) (by decide) (by decide) (by decide) hD
    have hu : 2 ≤ (σ5.1 111 8).toInt ∧ (σ5.1 111 8).toInt ≤ 1600 := by rw [hOσ5.2 111 (by decide)] <;> exact hu
    have ht : 0 ≤ (σ5.1 0 1).toInt ∧ (σ5.1 0 1).toInt ≤ 600 := by rw [hOσ5.2 0 (by decide)] <;> exact ht
    refine ok_if (fun hc6 => ?_) (fun hc6 => ?_)
    · exact ok_some ⟨hT, (show CF σ5.1 from by exact ⟨hW2, hW28, hW132, hW158, hW184, hL, hD, hu, ht⟩)⟩
    · have qhc6 := hqv4.2 hc6
      refine ok_gR (v := 56) hT rfl (hR 0 8 rfl) ?_
      obtain ⟨q9, eq9, kq9⟩ := arrS hR (k := 56) (i := x1) rfl (by first | omega | decide | (have q1 := hD.1; have q2 := hD.2.1; simp only [Int32.le_iff_toInt_le, Int32.lt_iff_toInt_lt, ti_add, ti_sub, ti_mul, Int32.reduceToInt] at *; omega)) (by first | omega | decide | (have q1 := hD.1; have q2 := hD.2.1; simp only [Int32.le_iff_toInt_le, Int32.lt_iff_toInt_lt, ti_add, ti_sub, ti_mul, Int32.reduceToInt] at *; omega))
      refine ok_aR (v := q9) hT rfl (by first | omega | decide | (have q1 := hD.1; have q2 := hD.2.1; simp only [Int32.le_iff_toInt_le, Int32.lt_iff_toInt_lt, ti_add, ti_sub, ti_mul, Int32.reduceToInt] at *; omega)) (by first | omega | decide | (have q1 := hD.1; have q2 := hD.2.1; simp only [Int32.le_iff_toInt_le, Int32.lt_iff_toInt_lt, ti_add, ti_sub, ti_mul, Int32.reduceToInt] at *; omega)) eq9 ?_
      have hq24 := hL0 q9 kq9
      refine ok_gR (v := 56) hT rfl (hR 0 8 rfl) ?_
      obtain ⟨q12, eq12, kq12⟩ := arrS hR (k := 56) (i := x3) rfl (by first | omega | decide | (have q1 := hD.1; have q2 := hD.2.1; simp only [Int32.le_iff_toInt_le, Int32.lt_iff_toInt_lt, ti_add, ti_sub, ti_mul, Int32.reduceToInt] at *; omega)) (by first | omega | decide | (have q1 := hD.1; have q2 := hD.2.1; simp only [Int32.le_iff_toInt_le, Int32.lt_iff_toInt_lt, ti_add, ti_sub, ti_mul, Int32.reduceToInt] at *; omega))
      refine ok_aR (v := q12) hT rfl (by first | omega | decide | (have q1 := hD.1; have q2 := hD.2.1; simp only [Int32.le_iff_toInt_le, Int32.lt_iff_toInt_lt, ti_add, ti_sub, ti_mul, Int32.reduceToInt] at *; omega)) (by first | omega | decide | (have q1 := hD.1; have q2 := hD.2.1; simp only [Int32.le_iff_toInt_le, Int32.lt_iff_toInt_lt, ti_add, ti_sub, ti_mul, Int32.reduceToInt] at *; omega)) eq12 ?_
      have hq32 := hL0 q12 kq12
      refine ok_gC kq9 ?_
      have hTc := hT
      refine ok_zbT (Q := fun V σ => (V = 0 ∨ V = 1) ∧ (V = 0 → 0 ≤ (σ5.1 q9 2).toInt)) hT (s_X9_isBare hN (hR.tr hT) kq9) (fun _ h9 => absurd h9 List.not_mem_nil) (fun v13 σ14 hOσ14 hT hqv13 => ?_)
      have hqv13 : (v13 = 0 ∨ v13 = 1) ∧ (v13 = 0 → 0 ≤ (σ5.1 q9 2).toInt) := hqv13
      try simp only [hTc.2 _ List.not_mem_nil] at hqv13
      have hW2 : WI 2 σ14.1 := WI.tr hOσ14 (by decide) (by decide) (by decide) hW2
      have hW28 : WI 28 σ14.1 := WI.tr hOσ14 (by decide) (by decide) (by decide) hW28
      have hW132 : WI 132 σ14.1 := WI.tr hOσ14 (by decide) (by decide) (by decide) hW132
      have hW158 : WI 158 σ14.1 := WI.tr hOσ14 (by decide) (by decide) (by decide) hW158
      have hW184 : WI 184 σ14.1 := WI.tr hOσ14 (by decide) (by decide) (by decide) hW184
      have hL : SI σ14.1 := SI.tr hOσ14 (by decide) (by decide) (by decide) (by decide) hL
      have hD : RD σ14.1 := RD.tr hOσ14 (by decide) (by decide) (by decide) (by decide) hD
      have hu : 2 ≤ (σ14.1 111 8).toInt ∧ (σ14.1 111 8).toInt ≤ 1600 := by rw [hOσ14.2 111 (by decide)] <;> exact hu
      have ht : 0 ≤ (σ14.1 0 1).toInt ∧ (σ14.1 0 1).toInt ≤ 600 := by rw [hOσ14.2 0 (by decide)] <;> exact ht
      refine ok_if (fun hc15 => ?_) (fun hc15 => ?_)
      · refine ok_gC kq12 ?_
        have hTc := hT
        refine ok_zbT (Q := fun V σ => (V = 0 ∨ V = 1) ∧ (V = 0 → 0 ≤ (σ14.1 q12 2).toInt)) hT (s_X9_isBare hN (hR.tr hT) kq12) (fun _ h9 => absurd h9 List.not_mem_nil) (fun v16 σ17 hOσ17 hT hqv16 => ?_)
        have hqv16 : (v16 = 0 ∨ v16 = 1) ∧ (v16 = 0 → 0 ≤ (σ14.1 q12 2).toInt) := hqv16
        try simp only [hTc.2 _ List.not_mem_nil] at hqv16
        have hW2 : WI 2 σ17.1 := WI.tr hOσ17 (by decide) (by decide) (by decide) hW2
        have hW28 : WI 28 σ17.1 := WI.tr hOσ17 (by decide) (by decide) (by decide) hW28
        have hW132 : WI 132 σ17.1 := WI.tr hOσ17 (by decide) (by decide) (by decide) hW132
        have hW158 : WI 158 σ17.1 := WI.tr hOσ17 (by decide) (by decide) (by decide) hW158
        have hW184 : WI 184 σ17.1 := WI.tr hOσ17 (by decide) (by decide) (by decide) hW184
        have hL : SI σ17.1 := SI.tr hOσ17 (by decide) (by decide) (by decide) (by decide) hL
        have hD : RD σ17.1 := RD.tr hOσ17 (by decide) (by decide) (by decide) (by decide) hD
        have hu : 2 ≤ (σ17.1 111 8).toInt ∧ (σ17.1 111 8).toInt ≤ 1600 := by rw [hOσ17.2 111 (by decide)] <;> exact hu
        have ht : 0 ≤ (σ17.1 0 1).toInt ∧ (σ17.1 0 1).toInt ≤ 600 := by rw [hOσ17.2 0 (by decide)] <;> exact ht
        refine ok_if (fun hc18 => ?_) (fun hc18 => ?_)
        · refine ok_gI0 hT kq9 List.not_mem_nil ?_
          refine ok_gI0 hT kq12 List.not_mem_nil ?_
          refine ok_if (fun hc21 => ?_) (fun hc21 => ?_)
          · refine ok_gC kq9 ?_
            have hTc := hT
            refine ok_zbT (Q := fun V σ => (V = 0 ∨ V = 1) ∧ (¬ V = 0 → 0 ≤ x2.toInt ∧ 0 ≤ x5.toInt ∧ x2.toInt + x5.toInt ≤ (σ17.1 q9 2).toInt)) hT (s_X9_spans hN (hR.tr hT) kq9) (fun _ h9 => absurd h9 List.not_mem_nil) (fun v22 σ23 hOσ23 hT hqv22 => ?_)
            have hqv22 : (v22 = 0 ∨ v22 = 1) ∧ (¬ v22 = 0 → 0 ≤ x2.toInt ∧ 0 ≤ x5.toInt ∧ x2.toInt + x5.toInt ≤ (σ17.1 q9 2).toInt) := hqv22
            try simp only [hTc.2 _ List.not_mem_nil] at hqv22
            have hW2 : WI 2 σ23.1 := WI.tr hOσ23 (by decide) (by decide) (by decide) hW2
            have hW28 : WI 28 σ23.1 := WI.tr hOσ23 (by decide) (by decide) (by decide) hW28
            have hW132 : WI 132 σ23.1 := WI.tr hOσ23 (by decide) (by decide) (by decide) hW132
            have hW158 : WI 158 σ23.1 := WI.tr hOσ23 (by decide) (by decide) (by decide) hW158
            have hW184 : WI 184 σ23.1 := WI.tr hOσ23 (by decide) (by decide) (by decide) hW184
            have hL : SI σ23.1 := SI.tr hOσ23 (by decide) (by decide) (by decide) (by decide) hL
            have hD : RD σ23.1 := RD.tr hOσ23 (by decide) (by decide) (by decide) (by decide) hD
            have hu : 2 ≤ (σ23.1 111 8).toInt ∧ (σ23.1 111 8).toInt ≤ 1600 := by rw [hOσ23.2 111 (by decide)] <;> exact hu
            have ht : 0 ≤ (σ23.1 0 1).toInt ∧ (σ23.1 0 1).toInt ≤ 600 := by rw [hOσ23.2 0 (by decide)] <;> exact ht
            refine ok_if (fun hc24 => ?_) (fun hc24 => ?_)
            · exact ok_some ⟨hT, (show CF σ23.1 from by exact ⟨hW2, hW28, hW132, hW158, hW184, hL, hD, hu, ht⟩)⟩
            · have qhc24 := hqv22.2 hc24
              refine ok_gC kq12 ?_
              have hTc := hT
              refine ok_zbT (Q := fun V σ => (V = 0 ∨ V = 1) ∧ (¬ V = 0 → 0 ≤ x4.toInt ∧ 0 ≤ x5.toInt ∧ x4.toInt + x5.toInt ≤ (σ23.1 q12 2).toInt)) hT (s_X9_spans hN (hR.tr hT) kq12) (fun _ h9 => absurd h9 List.not_mem_nil) (fun v25 σ26 hOσ26 hT hqv25 => ?_)
              have hqv25 : (v25 = 0 ∨ v25 = 1) ∧ (¬ v25 = 0 → 0 ≤ x4.toInt ∧ 0 ≤ x5.toInt ∧ x4.toInt + x5.toInt ≤ (σ23.1 q12 2).toInt) := hqv25
              try simp only [hTc.2 _ List.not_mem_nil] at hqv25
              have hW2 : WI 2 σ26.1 := WI.tr hOσ26 (by decide) (by decide) (by decide) hW2
              have hW28 : WI 28 σ26.1 := WI.tr hOσ26 (by decide) (by decide) (by decide) hW28
              have hW132 : WI 132 σ26.1 := WI.tr hOσ26 (by decide) (by decide) (by decide) hW132
              have hW158 : WI 158 σ26.1 := WI.tr hOσ26 (by decide) (by decide) (by decide) hW158
              have hW184 : WI 184 σ26.1 := WI.tr hOσ26 (by decide) (by decide) (by decide) hW184
              have hL : SI σ26.1 := SI.tr hOσ26 (by decide) (by decide) (by decide) (by decide) hL
              have hD : RD σ26.1 := RD.tr hOσ26 (by decide) (by decide) (by decide) (by decide) hD
              have hu : 2 ≤ (σ26.1 111 8).toInt ∧ (σ26.1 111 8).toInt ≤ 1600 := by rw [hOσ26.2 111 (by decide)] <;> exact hu
              have ht : 0 ≤ (σ26.1 0 1).toInt ∧ (σ26.1 0 1).toInt ≤ 600 := by rw [hOσ26.2 0 (by decide)] <;> exact ht
              refine ok_if (fun hc27 => ?_) (fun hc27 => ?_)
              · exact ok_some ⟨hT, (show CF σ26.1 from by exact ⟨hW2, hW28, hW132, hW158, hW184, hL, hD, hu, ht⟩)⟩
              · have qhc27 := hqv25.2 hc27
                refine ok_gR hT kq9 (slot_R hR kq9).1 ?_
                refine ok_gR hT kq12 (slot_R hR kq12).1 ?_
                refine ok_cpJ hT (slot_R hR kq9).2 (slot_R hR kq12).2 (by first | omega | decide | (have q1 := hD.1; have q2 := hD.2.1; simp only [Int32.le_iff_toInt_le, Int32.lt_iff_toInt_lt, ti_add, ti_sub, ti_mul, Int32.reduceToInt] at *; omega)) (by first | omega | decide | (have q1 := hD.1; have q2 := hD.2.1; simp only [Int32.le_iff_toInt_le, Int32.lt_iff_toInt_lt, ti_add, ti_sub, ti_mul, Int32.reduceToInt] at *; omega)) (by first | omega | decide | (have q1 := hD.1; have q2 := hD.2.1; simp only [Int32.le_iff_toInt_le, Int32.lt_iff_toInt_lt, ti_add, ti_sub, ti_mul, Int32.reduceToInt] at *; omega)) (by first | omega | decide | (have q1 := hD.1; have q2 := hD.2.1; simp only [Int32.le_iff_toInt_le, Int32.lt_iff_toInt_lt, ti_add, ti_sub, ti_mul, Int32.reduceToInt] at *; omega)) (by first | omega | decide | (have q1 := hD.1; have q2 := hD.2.1; simp only [Int32.le_iff_toInt_le, Int32.lt_iff_toInt_lt, ti_add, ti_sub, ti_mul, Int32.reduceToInt] at *; omega)) (fun σ30 eσ30 hOσ30 hT => ?_)
                have hW2 : WI 2 σ30.1 := WI.tr hOσ30 (by decide) (by decide) (by decide) hW2
                have hW28 : WI 28 σ30.1 := WI.tr hOσ30 (by decide) (by decide) (by decide) hW28
                have hW132 : WI 132 σ30.1 := WI.tr hOσ30 (by decide) (by decide) (by decide) hW132
                have hW158 : WI 158 σ30.1 := WI.tr hOσ30 (by decide) (by decide) (by decide) hW158
                have hW184 : WI 184 σ30.1 := WI.tr hOσ30 (by decide) (by decide) (by decide) hW184
                have hL : SI σ30.1 := SI.tr hOσ30 (by decide) (by decide) (by decide) (by decide) hL
                have hD : RD σ30.1 := RD.tr hOσ30 (by decide) (by decide) (by decide) (by decide) hD
                have hu : 2 ≤ (σ30.1 111 8).toInt ∧ (σ30.1 111 8).toInt ≤ 1600 := by rw [hOσ30.2 111 (by decide)] <;> exact hu
                have ht : 0 ≤ (σ30.1 0 1).toInt ∧ (σ30.1 0 1).toInt ≤ 600 := by rw [hOσ30.2 0 (by decide)] <;> exact ht
                exact ok_some ⟨hT, (show CF σ30.1 from by exact ⟨hW2, hW28, hW132, hW158, hW184, hL, hD, hu, ht⟩)⟩
          · exact ok_some ⟨hT, (show CF σ17.1 from by exact ⟨hW2, hW28, hW132, hW158, hW184, hL, hD, hu, ht⟩)⟩
        · exact ok_some ⟨hT, (show CF σ17.1 from by exact ⟨hW2, hW28, hW132, hW158, hW184, hL, hD, hu, ht⟩)⟩
      · exact ok_some ⟨hT, (show CF σ14.1 from by exact ⟨hW2, hW28, hW132, hW158, hW184, hL, hD, hu, ht⟩)⟩

set_option maxHeartbeats 4000000 in
set_option maxRecDepth 100000 in
theorem s_X11_row_n28 {N : Nat} (hN : 1048576 ≤ N) {x1 : Int32} {x2 : Int32} {x3 : Int32} {σ0 : zS}  (hR : RF σ0.2.2) (hNw : σ0.2.2 0 4 = 28) (hPw : σ0.2.2 0 5 = 2) (hC : CF σ0.1) : Ok (f_X11_row N 0 x1 x2 x3 σ0) (fun r => Tr [210, 212, 214, 216] σ0 r.2 ∧ (CF r.2.1)) := by
  have hT : Tr [210, 212, 214, 216] σ0 σ0 := Tr.rf
  obtain ⟨hW2, hW28, hW132, hW158, hW184, hL, hD, hu, ht⟩ := hC
  have hn := hW28.1
  have he := hW28.2.1
  have hD0 := hD
  have hL0 := hL
  have q10 := ti_one10 (x := σ0.1 28 0) hn.1 hn.2
  rw [f_X11_row.eq_1]
  refine ok_gC rfl ?_
  refine ok_zbT (Q := fun V σ => (V = 0 ∨ V = 1) ∧ (¬ V = 0 → 0 ≤ x1.toInt ∧ x1.toInt ≤ 3)) hT (s_X11_isSlot hN (hR.tr hT) ) (fun _ h9 => absurd h9 List.not_mem_nil) (fun v1 σ2 hOσ2 hT hqv1 => ?_)
  have hqv1 : (v1 = 0 ∨ v1 = 1) ∧ (¬ v1 = 0 → 0 ≤ x1.toInt ∧ x1.toInt ≤ 3) := hqv1
  have hW2 : WI 2 σ2.1 := WI.tr hOσ2 (by decide) (by decide) (by decide) hW2
  have hW28 : WI 28 σ2.1 := WI.tr hOσ2 (by decide) (by decide) (by decide) hW28
  have hW132 : WI 132 σ2.1 := WI.tr hOσ2 (by decide) (by decide) (by decide) hW132
  have hW158 : WI 158 σ2.1 := WI.tr hOσ2 (by decide) (by decide) (by decide) hW158
  have hW184 : WI 184 σ2.1 := WI.tr hOσ2 (by decide) (by decide) (by decide) hW184
  have hL : SI σ2.1 := SI.tr hOσ2 (by decide) (by decide) (by decide) (by decide) hL
  have hD : RD σ2.1 := RD.tr hOσ2 (by decide) (by decide) (by decide) (by decide) hD
  have hu : 2 ≤ (σ2.1 111 8).toInt ∧ (σ2.1 111 8).toInt ≤ 1600 := by rw [hOσ2.2 111 (by decide)] <;> exact hu
  have ht : 0 ≤ (σ2.1 0 1).toInt ∧ (σ2.1 0 1).toInt ≤ 600 := by rw [hOσ2.2 0 (by decide)] <;> exact ht
  refine ok_if (fun hc3 => ?_) (fun hc3 => ?_)
  · exact ok_some ⟨hT, (show CF σ2.1 from by exact ⟨hW2, hW28, hW132, hW158, hW184, hL, hD, hu, ht⟩)⟩
  · have qhc3 := hqv1.2 hc3
    refine ok_if (fun hc4 => ?_) (fun hc4 => ?_)
    · exact ok_some ⟨hT, (show CF σ2.1 from by exact ⟨hW2, hW28, hW132, hW158, hW184, hL, hD, hu, ht⟩)⟩
    · refine ok_if (fun hc5 => ?_) (fun hc5 => ?_)
      · exact ok_some ⟨hT, (show CF σ2.1 from by exact ⟨hW2, hW28, hW132, hW158, hW184, hL, hD, hu, ht⟩)⟩
      · refine ok_if (fun hc6 => ?_) (fun hc6 => ?_)
        · refine ok_if (fun hc7 => ?_) (fun hc7 => ?_)
          · refine ok_gR (v := 56) hT rfl (hR 0 8 rfl) ?_
            obtain ⟨q10, eq10, kq10⟩ := arrS hR (k := 56) (i := x1) rfl (by first | omega | decide | (have q1 := hD.1; have q2 := hD.2.1; simp only [Int32.le_iff_toInt_le, Int32.lt_iff_toInt_lt, ti_add, ti_sub, ti_mul, Int32.reduceToInt] at *; omega)) (by first | omega | decide | (have q1 := hD.1; have q2 := hD.2.1; simp only [Int32.le_iff_toInt_le, Int32.lt_iff_toInt_lt, ti_add, ti_sub, ti_mul, Int32.reduceToInt] at *; omega))
            refine ok_aR (v := q10) hT rfl (by first | omega | decide | (have q1 := hD.1; have q2 := hD.2.1; simp only [Int32.le_iff_toInt_le, Int32.lt_iff_toInt_lt, ti_add, ti_sub, ti_mul, Int32.reduceToInt] at *; omega)) (by first | omega | decide | (have q1 := hD.1; have q2 := hD.2.1; simp only [Int32.le_iff_toInt_le, Int32.lt_iff_toInt_lt, ti_add, ti_sub, ti_mul, Int32.reduceToInt] at *; omega)) eq10 ?_
            refine ok_gC kq10 ?_
            refine ok_zbT (Q := fun V σ => SI σ.1) hT (s_X9_start hN (hR.tr hT) kq10 (hL)) (by decide) (fun v11 σ12 hOσ12 hT hqv11 => ?_)
            have hqv11 : SI σ12.1 := hqv11
            have hW2 : WI 2 σ12.1 := WI.tr hOσ12 (by decide) (by decide) (by decide) hW2
            have hW28 : WI 28 σ12.1 := WI.tr hOσ12 (by decide) (by decide) (by decide) hW28
            have hW132 : WI 132 σ12.1 := WI.tr hOσ12 (by decide) (by decide) (by decide) hW132
            have hW158 : WI 158 σ12.1 := WI.tr hOσ12 (by decide) (by decide) (by decide) hW158
            have hW184 : WI 184 σ12.1 := WI.tr hOσ12 (by decide) (by decide) (by decide) hW184
            have hL : SI σ12.1 := hqv11
            have hD : RD σ12.1 := RD.tr hOσ12 (by decide) (by decide) (by decide) (by decide) hD
            have hu : 2 ≤ (σ12.1 111 8).toInt ∧ (σ12.1 111 8).toInt ≤ 1600 := by rw [hOσ12.2 111 (by decide)] <;> exact hu
            have ht : 0 ≤ (σ12.1 0 1).toInt ∧ (σ12.1 0 1).toInt ≤ 600 := by rw [hOσ12.2 0 (by decide)] <;> exact ht
            exact ok_some ⟨hT, (show CF σ12.1 from by exact ⟨hW2, hW28, hW132, hW158, hW184, hL, hD, hu, ht⟩)⟩
          · exact ok_some ⟨hT, (show CF σ2.1 from by exact ⟨hW2, hW28, hW132, hW158, hW184, hL, hD, hu, ht⟩)⟩
        · exact ok_some ⟨hT, (show CF σ2.1 from by exact ⟨hW2, hW28, hW132, hW158, hW184, hL, hD, hu, ht⟩)⟩

set_option maxHeartbeats 4000000 in
set_option maxRecDepth 100000 in
theorem s_X11_end_n28 {N : Nat} (hN : 1048576 ≤ N) {x1 : Int32} {σ0 : zS}  (hR : RF σ0.2.2) (hNw : σ0.2.2 0 4 = 28) (hPw : σ0.2.2 0 5 = 2) (hC : CF σ0.1) : Ok (f_X11_end N 0 x1 σ0) (fun r => Tr [0] σ0 r.2 ∧ (CF r.2.1)) := by
  have hT : Tr [0] σ0 σ0 := Tr.rf
  obtain ⟨hW2, hW28, hW132, hW158, hW184, hL, hD, hu, ht⟩ := hC
  have hn := hW28.1
  have he := hW28.2.1
  have hD0 := hD
  have hL0 := hL
  have q10 := ti_one10 (x := σ0.1 28 0) hn.1 hn.2
  rw [f_X11_end.eq_1]
  refine ok_if (fun hc1 => ?_) (fun hc1 => ?_)
  · exact ok_some ⟨hT, (show CF σ0.1 from by exact ⟨hW2, hW28, hW132, hW158, hW184, hL, hD, hu, ht⟩)⟩
  · refine ok_gI rfl ?_
    refine ok_if (fun hc3 => ?_) (fun hc3 => ?_)
    · refine ok_pI hT rfl (by decide) (fun σ4 eσ4 hOσ4 hT => ?_)
      have hW2 : WI 2 σ4.1 := WI.tr hOσ4 (by decide) (by decide) (by decide) hW2
      have hW28 : WI 28 σ4.1 := WI.tr hOσ4 (by decide) (by decide) (by decide) hW28
      have hW132 : WI 132 σ4.1 := WI.tr hOσ4 (by decide) (by decide) (by decide) hW132
      have hW158 : WI 158 σ4.1 := WI.tr hOσ4 (by decide) (by decide) (by decide) hW158
      have hW184 : WI 184 σ4.1 := WI.tr hOσ4 (by decide) (by decide) (by decide) hW184
      have hL : SI σ4.1 := SI.tr hOσ4 (by decide) (by decide) (by decide) (by decide) hL
      have hD : RD σ4.1 := RD.tr hOσ4 (by decide) (by decide) (by decide) (by decide) hD
      have hu : 2 ≤ (σ4.1 111 8).toInt ∧ (σ4.1 111 8).toInt ≤ 1600 := by rw [hOσ4.2 111 (by decide)] <;> exact hu
      have ht : 0 ≤ (σ4.1 0 1).toInt ∧ (σ4.1 0 1).toInt ≤ 600 := by rw [zI_atI eσ4]; simp only [Int32.le_iff_toInt_le, Int32.lt_iff_toInt_lt, ti_add, ti_sub, ti_mul, Int32.reduceToInt] at *; omega
      exact ok_some ⟨hT, (show CF σ4.1 from by exact ⟨hW2, hW28, hW132, hW158, hW184, hL, hD, hu, ht⟩)⟩
    · exact ok_some ⟨hT, (show CF σ0.1 from by exact ⟨hW2, hW28, hW132, hW158, hW184, hL, hD, hu, ht⟩)⟩

set_option maxHeartbeats 4000000 in
set_option maxRecDepth 100000 in
theorem s_X11_feed_n28 {N : Nat} (hN : 1048576 ≤ N) {x1 : Int32} {x2 : Int32} {x3 : Int32} {x4 : Int32} {x5 : Int32} {σ0 : zS}  (hR : RF σ0.2.2) (hNw : σ0.2.2 0 4 = 28) (hPw : σ0.2.2 0 5 = 2) (hC : CF σ0.1) : Ok (f_X11_feed N 0 x1 x2 x3 x4 x5 σ0) (fun r => Tr [0, 1] σ0 r.2 ∧ (CF r.2.1)) := by
  have hT : Tr [0, 1] σ0 σ0 := Tr.rf
  obtain ⟨hW2, hW28, hW132, hW158, hW184, hL, hD, hu, ht⟩ := hC
  have hn := hW28.1
  have he := hW28.2.1
  have hD0 := hD
  have hL0 := hL
  have q10 := ti_one10 (x := σ0.1 28 0) hn.1 hn.2
  have h01 : σ0.1 0 1 = σ0.1 0 1 := rfl
  rw [f_X11_feed.eq_1]
  refine ok_gIv rfl h01 ?_
  refine ok_if (fun hc2 => ?_) (fun hc2 => ?_)
  · exact ok_some ⟨hT, (show CF σ0.1 from by exact ⟨hW2, hW28, hW132, hW158, hW184, hL, hD, hu, ht⟩)⟩
  · refine ok_gIv rfl h01 ?_
    refine ok_if (fun hc4 => ?_) (fun hc4 => ?_)
    · refine ok_gIv rfl h01 ?_
      refine ok_gC rfl ?_
      refine ok_zbT (Q := fun V σ => True) hT (s_X11_tapeNumber hN (hR.tr hT) (by first | omega | decide | (have q1 := hD.1; have q2 := hD.2.1; simp only [Int32.le_iff_toInt_le, Int32.lt_iff_toInt_lt, ti_add, ti_sub, ti_mul, Int32.reduceToInt] at *; omega))) (by decide) (fun v6 σ7 hOσ7 hT hqv6 => ?_)
      have hW2 : WI 2 σ7.1 := WI.tr hOσ7 (by decide) (by decide) (by decide) hW2
      have hW28 : WI 28 σ7.1 := WI.tr hOσ7 (by decide) (by decide) (by decide) hW28
      have hW132 : WI 132 σ7.1 := WI.tr hOσ7 (by decide) (by decide) (by decide) hW132
      have hW158 : WI 158 σ7.1 := WI.tr hOσ7 (by decide) (by decide) (by decide) hW158
      have hW184 : WI 184 σ7.1 := WI.tr hOσ7 (by decide) (by decide) (by decide) hW184
      have hL : SI σ7.1 := SI.tr hOσ7 (by decide) (by decide) (by decide) (by decide) hL
      have hD : RD σ7.1 := RD.tr hOσ7 (by decide) (by decide) (by decide) (by decide) hD
      have hu : 2 ≤ (σ7.1 111 8).toInt ∧ (σ7.1 111 8).toInt ≤ 1600 := by rw [hOσ7.2 111 (by decide)] <;> exact hu
      have ht : 0 ≤ (σ7.1 0 1).toInt ∧ (σ7.1 0 1).toInt ≤ 600 := by rw [hOσ7.2 0 (by decide)] <;> exact ht
      have h01 : σ7.1 0 1 = σ0.1 0 1 := by rw [hOσ7.2 0 (by decide)] <;> exact h01
      refine ok_gIv rfl h01 ?_
      refine ok_gC rfl ?_
      refine ok_zbT (Q := fun V σ => True) hT (s_X11_tapeNumber hN (hR.tr hT) (by first | omega | decide | (have q1 := hD.1; have q2 := hD.2.1; simp only [Int32.le_iff_toInt_le, Int32.lt_iff_toInt_lt, ti_add, ti_sub, ti_mul, Int32.reduceToInt] at *; omega))) (by decide) (fun v9 σ10 hOσ10 hT hqv9 => ?_)
      have hW2 : WI 2 σ10.1 := WI.tr hOσ10 (by decide) (by decide) (by decide) hW2
      have hW28 : WI 28 σ10.1 := WI.tr hOσ10 (by decide) (by decide) (by decide) hW28
      have hW132 : WI 132 σ10.1 := WI.tr hOσ10 (by decide) (by decide) (by decide) hW132
      have hW158 : WI 158 σ10.1 := WI.tr hOσ10 (by decide) (by decide) (by decide) hW158
      have hW184 : WI 184 σ10.1 := WI.tr hOσ10 (by decide) (by decide) (by decide) hW184
      have hL : SI σ10.1 := SI.tr hOσ10 (by decide) (by decide) (by decide) (by decide) hL
      have hD : RD σ10.1 := RD.tr hOσ10 (by decide) (by decide) (by decide) (by decide) hD
      have hu : 2 ≤ (σ10.1 111 8).toInt ∧ (σ10.1 111 8).toInt ≤ 1600 := by rw [hOσ10.2 111 (by decide)] <;> exact hu
      have ht : 0 ≤ (σ10.1 0 1).toInt ∧ (σ10.1 0 1).toInt ≤ 600 := by rw [hOσ10.2 0 (by decide)] <;> exact ht
      have h01 : σ10.1 0 1 = σ0.1 0 1 := by rw [hOσ10.2 0 (by decide)] <;> exact h01
      refine ok_gIv rfl h01 ?_
      refine ok_gC rfl ?_
      refine ok_zbT (Q := fun V σ => True) hT (s_X11_tapeNumber hN (hR.tr hT) (by first | omega | decide | (have q1 := hD.1; have q2 := hD.2.1; simp only [Int32.le_iff_toInt_le, Int32.lt_iff_toInt_lt, ti_add, ti_sub, ti_mul, Int32.reduceToInt] at *; omega))) (by decide) (fun v12 σ13 hOσ13 hT hqv12 => ?_)
      have hW2 : WI 2 σ13.1 := WI.tr hOσ13 (by decide) (by decide) (by decide) hW2
      have hW28 : WI 28 σ13.1 := WI.tr hOσ13 (by decide) (by decide) (by decide) hW28
      have hW132 : WI 132 σ13.1 := WI.tr hOσ13 (by decide) (by decide) (by decide) hW132
      have hW158 : WI 158 σ13.1 := WI.tr hOσ13 (by decide) (by decide) (by decide) hW158
      have hW184 : WI 184 σ13.1 := WI.tr hOσ13 (by decide) (by decide) (by decide) hW184
      have hL : SI σ13.1 := SI.tr hOσ13 (by decide) (by decide) (by decide) (by decide) hL
      have hD : RD σ13.1 := RD.tr hOσ13 (by decide) (by decide) (by decide) (by decide) hD
      have hu : 2 ≤ (σ13.1 111 8).toInt ∧ (σ13.1 111 8).toInt ≤ 1600 := by rw [hOσ13.2 111 (by decide)] <;> exact hu
      have ht : 0 ≤ (σ13.1 0 1).toInt ∧ (σ13.1 0 1).toInt ≤ 600 := by rw [hOσ13.2 0 (by decide)] <;> exact ht
      have h01 : σ13.1 0 1 = σ0.1 0 1 := by rw [hOσ13.2 0 (by decide)] <;> exact h01
      refine ok_gIv rfl h01 ?_
      refine ok_gC rfl ?_
      refine ok_zbT (Q := fun V σ => True) hT (s_X11_tapeNumber hN (hR.tr hT) (by first | omega | decide | (have q1 := hD.1; have q2 := hD.2.1; simp only [Int32.le_iff_toInt_le, Int32.lt_iff_toInt_lt, ti_add, ti_sub, ti_mul, Int32.reduceToInt] at *; omega))) (by decide) (fun v15 σ16 hOσ16 hT hqv15 => ?_)
      have hW2 : WI 2 σ16.1 := WI.tr hOσ16 (by decide) (by decide) (by decide) hW2
      have hW28 : WI 28 σ16.1 := WI.tr hOσ16 (by decide) (by decide) (by decide) hW28
      have hW132 : WI 132 σ16.1 := WI.tr hOσ16 (by decide) (by decide) (by decide) hW132
      have hW158 : WI 158 σ16.1 := WI.tr hOσ16 (by decide) (by decide) (by decide) hW158
      have hW184 : WI 184 σ16.1 := WI.tr hOσ16 (by decide) (by decide) (by decide) hW184
      have hL : SI σ16.1 := SI.tr hOσ16 (by decide) (by decide) (by decide) (by decide) hL
      have hD : RD σ16.1 := RD.tr hOσ16 (by decide) (by decide) (by decide) (by decide) hD
      have hu : 2 ≤ (σ16.1 111 8).toInt ∧ (σ16.1 111 8).toInt ≤ 1600 := by rw [hOσ16.2 111 (by decide)] <;> exact hu
      have ht : 0 ≤ (σ16.1 0 1).toInt ∧ (σ16.1 0 1).toInt ≤ 600 := by rw [hOσ16.2 0 (by decide)] <;> exact ht
      have h01 : σ16.1 0 1 = σ0.1 0 1 := by rw [hOσ16.2 0 (by decide)] <;> exact h01
      refine ok_gIv rfl h01 ?_
      refine ok_gC rfl ?_
      refine ok_zbT (Q := fun V σ => True) hT (s_X11_tapeNumber hN (hR.tr hT) (by first | omega | decide | (have q1 := hD.1; have q2 := hD.2.1; simp only [Int32.le_iff_toInt_le, Int32.lt_iff_toInt_lt, ti_add, ti_sub, ti_mul, Int32.reduceToInt] at *; omega))) (by decide) (fun v18 σ19 hOσ19 hT hqv18 => ?_)
      have hW2 : WI 2 σ19.1 := WI.tr hOσ19 (by decide) (by decide) (by decide) hW2
      have hW28 : WI 28 σ19.1 := WI.tr hOσ19 (by decide) (by decide) (by decide) hW28
      have hW132 : WI 132 σ19.1 := WI.tr hOσ19 (by decide) (by decide) (by decide) hW132
      have hW158 : WI 158 σ19.1 := WI.tr hOσ19 (by decide) (by decide) (by decide) hW158
      have hW184 : WI 184 σ19.1 := WI.tr hOσ19 (by decide) (by decide) (by decide) hW184
      have hL : SI σ19.1 := SI.tr hOσ19 (by decide) (by decide) (by decide) (by decide) hL
      have hD : RD σ19.1 := RD.tr hOσ19 (by decide) (by decide) (by decide) (by decide) hD
      have hu : 2 ≤ (σ19.1 111 8).toInt ∧ (σ19.1 111 8).toInt ≤ 1600 := by rw [hOσ19.2 111 (by decide)] <;> exact hu
      have ht : 0 ≤ (σ19.1 0 1).toInt ∧ (σ19.1 0 1).toInt ≤ 600 := by rw [hOσ19.2 0 (by decide)] <;> exact ht
      have h01 : σ19.1 0 1 = σ0.1 0 1 := by rw [hOσ19.2 0 (by decide)] <;> exact h01
      refine ok_gIv rfl h01 ?_
      refine ok_pI hT rfl (by decide) (fun σ21 eσ21 hOσ21 hT => ?_)
      have hW2 : WI 2 σ21.1 := WI.tr hOσ21 (by decide) (by decide) (by decide) hW2
      have hW28 : WI 28 σ21.1 := WI.tr hOσ21 (by decide) (by decide) (by decide) hW28
      have hW132 : WI 132 σ21.1 := WI.tr hOσ21 (by decide) (by decide) (by decide) hW132
      have hW158 : WI 158 σ21.1 := WI.tr hOσ21 (by decide) (by decide) (by decide) hW158
      have hW184 : WI 184 σ21.1 := WI.tr hOσ21 (by decide) (by decide) (by decide) hW184
      have hL : SI σ21.1 := SI.tr hOσ21 (by decide) (by decide) (by decide) (by decide) hL
      have hD : RD σ21.1 := RD.tr hOσ21 (by decide) (by decide) (by decide) (by decide) hD
      have hu : 2 ≤ (σ21.1 111 8).toInt ∧ (σ21.1 111 8).toInt ≤ 1600 := by rw [hOσ21.2 111 (by decide)] <;> exact hu
      have ht : 0 ≤ (σ21.1 0 1).toInt ∧ (σ21.1 0 1).toInt ≤ 600 := by rw [zI_atI eσ21]; simp only [Int32.le_iff_toInt_le, Int32.lt_iff_toInt_lt, ti_add, ti_sub, ti_mul, Int32.reduceToInt] at *; omega
      refine ok_gI rfl ?_
      exact ok_some ⟨hT, (show CF σ21.1 from by exact ⟨hW2, hW28, hW132, hW158, hW184, hL, hD, hu, ht⟩)⟩
    · exact ok_some ⟨hT, (show CF σ0.1 from by exact ⟨hW2, hW28, hW132, hW158, hW184, hL, hD, hu, ht⟩)⟩

set_option maxHeartbeats 4000000 in
set_option maxRecDepth 100000 in
theorem s_X11_put_n28 {N : Nat} (hN : 1048576 ≤ N) {x1 : Int32} {σ0 : zS}  (hR : RF σ0.2.2) (hNw : σ0.2.2 0 4 = 28) (hPw : σ0.2.2 0 5 = 2) (hC : CF σ0.1) : Ok (f_X11_put N 0 x1 σ0) (fun r => Tr [0, 57, 58, 59, 61, 62, 63, 64, 65, 106, 107] σ0 r.2 ∧ (CF r.2.1)) := by
  have hT : Tr [0, 57, 58, 59, 61, 62, 63, 64, 65, 106, 107] σ0 σ0 := Tr.rf
  obtain ⟨hW2, hW28, hW132, hW158, hW184, hL, hD, hu, ht⟩ := hC
  have hn := hW28.1
  have he := hW28.2.1
  have hD0 := hD
  have hL0 := hL
  have q10 := ti_one10 (x := σ0.1 28 0) hn.1 hn.2
  rw [f_X11_put.eq_1]
  refine ok_gC rfl ?_
  refine ok_zbT (Q := fun V σ => (V = 0 ∨ V = 1) ∧ (¬ V = 0 → 0 ≤ x1.toInt ∧ x1.toInt ≤ 9)) hT (s_X11_isRegister_n28 hN (hR.tr hT) ((hT.1.1 0 4 (by decide)).trans hNw) (by first | exact hn | omega | (rw [hT.2 28 (by decide)]; exact hn))) (fun _ h9 => absurd h9 List.not_mem_nil) (fun v1 σ2 hOσ2 hT hqv1 => ?_)
  have hqv1 : (v1 = 0 ∨ v1 = 1) ∧ (¬ v1 = 0 → 0 ≤ x1.toInt ∧ x1.toInt ≤ 9) := hqv1
  have hW2 : WI 2 σ2.1 := WI.tr hOσ2 (by decide) (by decide) (by decide) hW2
  have hW28 : WI 28 σ2.1 := WI.tr hOσ2 (by decide) (by decide) (by decide) hW28
  have hW132 : WI 132 σ2.1 := WI.tr hOσ2 (by decide) (by decide) (by decide) hW132
  have hW158 : WI 158 σ2.1 := WI.tr hOσ2 (by decide) (by decide) (by decide) hW158
  have hW184 : WI 184 σ2.1 := WI.tr hOσ2 (by decide) (by decide) (by decide) hW184
  have hL : SI σ2.1 := SI.tr hOσ2 (by decide) (by decide) (by decide) (by decide) hL
  have hD : RD σ2.1 := RD.tr hOσ2 (by decide) (by decide) (by decide) (by decide) hD
  have hu : 2 ≤ (σ2.1 111 8).toInt ∧ (σ2.1 111 8).toInt ≤ 1600 := by rw [hOσ2.2 111 (by decide)] <;> exact hu
  have ht : 0 ≤ (σ2.1 0 1).toInt ∧ (σ2.1 0 1).toInt ≤ 600 := by rw [hOσ2.2 0 (by decide)] <;> exact ht
  refine ok_if (fun hc3 => ?_) (fun hc3 => ?_)
  · refine ok_pI hT rfl (by decide) (fun σ4 eσ4 hOσ4 hT => ?_)
    have hW2 : WI 2 σ4.1 := WI.tr hOσ4 (by decide) (by decide) (by decide) hW2
    have hW28 : WI 28 σ4.1 := WI.tr hOσ4 (by decide) (by decide) (by decide) hW28
    have hW132 : WI 132 σ4.1 := WI.tr hOσ4 (by decide) (by decide) (by decide) hW132
    have hW158 : WI 158 σ4.1 := WI.tr hOσ4 (by decide) (by decide) (by decide) hW158
    have hW184 : WI 184 σ4.1 := WI.tr hOσ4 (by decide) (by decide) (by decide) hW184
    have hL : SI σ4.1 := SI.tr hOσ4 (by decide) (by decide) (by decide) (by decide) hL
    have hD : RD σ4.1 := RD.tr hOσ4 (by decide) (by decide) (by decide) (by decide) hD
    have hu : 2 ≤ (σ4.1 111 8).toInt ∧ (σ4.1 111 8).toInt ≤ 1600 := by rw [hOσ4.2 111 (by decide)] <;> exact hu
    have ht : 0 ≤ (σ4.1 0 1).toInt ∧ (σ4.1 0 1).toInt ≤ 600 := by first | (rw [zI_atI eσ4]; decide) | (rw [HQ]; decide)
    exact ok_some ⟨hT, (show CF σ4.1 from by exact ⟨hW2, hW28, hW132, hW158, hW184, hL, hD, hu, ht⟩)⟩
  · have qhc3 := hqv1.2 hc3
    refine ok_gR (v := 57) hT rfl (hR 0 9 rfl) ?_
    refine ok_gR (v := 1) hT rfl (hR 0 0 rfl) ?_
    refine ok_gI rfl ?_
    refine ok_gR (v := 28) hT rfl hNw ?_
    refine ok_gI0 hT rfl (by decide) ?_
    refine ok_gC rfl ?_
    refine ok_zbT (Q := fun V σ => (V = 0 ∨ V = 1) ∧ RD σ.1) hT (s_X5_readSum_1 hN (hR.tr hT) (hD)) (by decide) (fun v10 σ11 hOσ11 hT hqv10 => ?_)
    have hqv10 : (v10 = 0 ∨ v10 = 1) ∧ RD σ11.1 := hqv10
    have hW2 : WI 2 σ11.1 := WI.tr hOσ11 (by decide) (by decide) (by decide) hW2
    have hW28 : WI 28 σ11.1 := WI.tr hOσ11 (by decide) (by decide) (by decide) hW28
    have hW132 : WI 132 σ11.1 := WI.tr hOσ11 (by decide) (by decide) (by decide) hW132
    have hW158 : WI 158 σ11.1 := WI.tr hOσ11 (by decide) (by decide) (by decide) hW158
    have hW184 : WI 184 σ11.1 := WI.tr hOσ11 (by decide) (by decide) (by decide) hW184
    have hL : SI σ11.1 := SI.tr hOσ11 (by decide) (by decide) (by decide) (by decide) hL
    have hD : RD σ11.1 := hqv10.2
    have hu : 2 ≤ (σ11.1 111 8).toInt ∧ (σ11.1 111 8).toInt ≤ 1600 := by rw [hOσ11.2 111 (by decide)] <;> exact hu
    have ht : 0 ≤ (σ11.1 0 1).toInt ∧ (σ11.1 0 1).toInt ≤ 600 := by rw [hOσ11.2 0 (by decide)] <;> exact ht
    refine ok_gC rfl ?_
    refine ok_zbT (Q := fun V σ => σ.1 0 1 = 0) hT (s_X11_takeFault hN (hR.tr hT) ) (by decide) (fun v12 σ13 hOσ13 hT hqv12 => ?_)
    have hqv12 : σ13.1 0 1 = 0 := hqv12
    have hW2 : WI 2 σ13.1 := WI.tr hOσ13 (by decide) (by decide) (by decide) hW2
    have hW28 : WI 28 σ13.1 := WI.tr hOσ13 (by decide) (by decide) (by decide) hW28
    have hW132 : WI 132 σ13.1 := WI.tr hOσ13 (by decide) (by decide) (by decide) hW132
    have hW158 : WI 158 σ13.1 := WI.tr hOσ13 (by decide) (by decide) (by decide) hW158
    have hW184 : WI 184 σ13.1 := WI.tr hOσ13 (by decide) (by decide) (by decide) hW184
    have hL : SI σ13.1 := SI.tr hOσ13 (by decide) (by decide) (by decide) (by decide) hL
    have hD : RD σ13.1 := RD.tr hOσ13 (by decide) (by decide) (by decide) (by decide) hD
    have hu : 2 ≤ (σ13.1 111 8).toInt ∧ (σ13.1 111 8).toInt ≤ 1600 := by rw [hOσ13.2 111 (by decide)] <;> exact hu
    have ht : 0 ≤ (σ13.1 0 1).toInt ∧ (σ13.1 0 1).toInt ≤ 600 := by first | (rw [zI_atI eσ13]; decide) | (rw [hqv12]; decide)
    refine ok_if (fun hc14 => ?_) (fun hc14 => ?_)
    · exact ok_some ⟨hT, (show CF σ13.1 from by exact ⟨hW2, hW28, hW132, hW158, hW184, hL, hD, hu, ht⟩)⟩
    · refine ok_gR (v := 65) hT rfl (hR 0 10 rfl) ?_
      refine ok_gR (v := 57) hT rfl (hR 0 9 rfl) ?_
      refine ok_gR (v := 28) hT rfl hNw ?_
      refine ok_gR (v := 99) hT rfl (hR 0 11 rfl) ?_
      refine ok_gC rfl ?_
      refine ok_zbT (Q := fun V σ => True) hT (s_X7_run_57_28_99 hN (hR.tr hT) (by first | exact hn | omega | (rw [hT.2 28 (by decide)]; exact hn))) (by decide) (fun v19 σ20 hOσ20 hT hqv19 => ?_)
      have hW2 : WI 2 σ20.1 := WI.tr hOσ20 (by decide) (by decide) (by decide) hW2
      have hW28 : WI 28 σ20.1 := WI.tr hOσ20 (by decide) (by decide) (by decide) hW28
      have hW132 : WI 132 σ20.1 := WI.tr hOσ20 (by decide) (by decide) (by decide) hW132
      have hW158 : WI 158 σ20.1 := WI.tr hOσ20 (by decide) (by decide) (by decide) hW158
      have hW184 : WI 184 σ20.1 := WI.tr hOσ20 (by decide) (by decide) (by decide) hW184
      have hL : SI σ20.1 := SI.tr hOσ20 (by decide) (by decide) (by decide) (by decide) hL
      have hD : RD σ20.1 := RD.tr hOσ20 (by decide) (by decide) (by decide) (by decide) hD
      have hu : 2 ≤ (σ20.1 111 8).toInt ∧ (σ20.1 111 8).toInt ≤ 1600 := by rw [hOσ20.2 111 (by decide)] <;> exact hu
      have ht : 0 ≤ (σ20.1 0 1).toInt ∧ (σ20.1 0 1).toInt ≤ 600 := by rw [hOσ20.2 0 (by decide)] <;> exact ht
      refine ok_gR (v := 28) hT rfl hNw ?_
      refine ok_gR (v := 33) hT rfl (hR 28 7 rfl) ?_
      obtain ⟨q24, eq24, kq24⟩ := arrF hR (k := 33) (i := x1) rfl (by first | omega | decide | (have q1 := hD.1; have q2 := hD.2.1; simp only [Int32.le_iff_toInt_le, Int32.lt_iff_toInt_lt, ti_add, ti_sub, ti_mul, Int32.reduceToInt] at *; omega)) (by first | omega | decide | (have q1 := hD.1; have q2 := hD.2.1; simp only [Int32.le_iff_toInt_le, Int32.lt_iff_toInt_lt, ti_add, ti_sub, ti_mul, Int32.reduceToInt] at *; omega))
      refine ok_aR (v := q24) hT rfl (by first | omega | decide | (have q1 := hD.1; have q2 := hD.2.1; simp only [Int32.le_iff_toInt_le, Int32.lt_iff_toInt_lt, ti_add, ti_sub, ti_mul, Int32.reduceToInt] at *; omega)) (by first | omega | decide | (have q1 := hD.1; have q2 := hD.2.1; simp only [Int32.le_iff_toInt_le, Int32.lt_iff_toInt_lt, ti_add, ti_sub, ti_mul, Int32.reduceToInt] at *; omega)) eq24 ?_
      refine ok_gC kq24 ?_
      refine ok_zbT (Q := fun V σ => True) hT (s_X2_tally hN (hR.tr hT) kq24) (fun _ h9 => absurd h9 List.not_mem_nil) (fun v25 σ26 hOσ26 hT hqv25 => ?_)
      have hW2 : WI 2 σ26.1 := WI.tr hOσ26 (by decide) (by decide) (by decide) hW2
      have hW28 : WI 28 σ26.1 := WI.tr hOσ26 (by decide) (by decide) (by decide) hW28
      have hW132 : WI 132 σ26.1 := WI.tr hOσ26 (by decide) (by decide) (by decide) hW132
      have hW158 : WI 158 σ26.1 := WI.tr hOσ26 (by decide) (by decide) (by decide) hW158
      have hW184 : WI 184 σ26.1 := WI.tr hOσ26 (by decide) (by decide) (by decide) hW184
      have hL : SI σ26.1 := SI.tr hOσ26 (by decide) (by decide) (by decide) (by decide) hL
      have hD : RD σ26.1 := RD.tr hOσ26 (by decide) (by decide) (by decide) (by decide) hD
      have hu : 2 ≤ (σ26.1 111 8).toInt ∧ (σ26.1 111 8).toInt ≤ 1600 := by rw [hOσ26.2 111 (by decide)] <;> exact hu
      have ht : 0 ≤ (σ26.1 0 1).toInt ∧ (σ26.1 0 1).toInt ≤ 600 := by rw [hOσ26.2 0 (by decide)] <;> exact ht
      exact ok_some ⟨hT, (show CF σ26.1 from by exact ⟨hW2, hW28, hW132, hW158, hW184, hL, hD, hu, ht⟩)⟩

set_option maxHeartbeats 4000000 in
set_option maxRecDepth 100000 in
theorem s_X11_keep_n28_0 {N : Nat} (hN : 1048576 ≤ N)  {σ0 : zS}  (hR : RF σ0.2.2) (hNw : σ0.2.2 0 4 = 28) (hPw : σ0.2.2 0 5 = 2) (hC : CF σ0.1) : Ok (f_X11_keep N 0 0 σ0) (fun r => Tr [55, 132, 133, 134, 135, 136] σ0 r.2 ∧ (CF r.2.1)) := by
  have hT : Tr [55, 132, 133, 134, 135, 136] σ0 σ0 := Tr.rf
  obtain ⟨hW2, hW28, hW132, hW158, hW184, hL, hD, hu, ht⟩ := hC
  have hn := hW28.1
  have he := hW28.2.1
  have hD0 := hD
  have hL0 := hL
  have q10 := ti_one10 (x := σ0.1 28 0) hn.1 hn.2
  rw [f_X11_keep.eq_1]
  refine ok_if (fun hc1 => ?_) (fun hc1 => ?_)
  · exact ok_some ⟨hT, (show CF σ0.1 from by exact ⟨hW2, hW28, hW132, hW158, hW184, hL, hD, hu, ht⟩)⟩
  · refine ok_if (fun hc2 => ?_) (fun hc2 => ?_)
    · refine ok_gR (v := 54) hT rfl (hR 0 6 rfl) ?_
      refine ok_aR (v := 132) hT rfl (by first | omega | decide | (have q1 := hD.1; have q2 := hD.2.1; simp only [Int32.le_iff_toInt_le, Int32.lt_iff_toInt_lt, ti_add, ti_sub, ti_mul, Int32.reduceToInt] at *; omega)) (by first | omega | decide | (have q1 := hD.1; have q2 := hD.2.1; simp only [Int32.le_iff_toInt_le, Int32.lt_iff_toInt_lt, ti_add, ti_sub, ti_mul, Int32.reduceToInt] at *; omega)) (hR 54 0 rfl) ?_
      refine ok_gR (v := 28) hT rfl hNw ?_
      refine ok_gC rfl ?_
      refine ok_zbT (Q := fun V σ => WI 132 σ.1) hT (s_X10_copyFrom_132_28 hN (hR.tr hT) (hW132) (hW28)) (by decide) (fun v6 σ7 hOσ7 hT hqv6 => ?_)
      have hqv6 : WI 132 σ7.1 := hqv6
      have hW2 : WI 2 σ7.1 := WI.tr hOσ7 (by decide) (by decide) (by decide) hW2
      have hW28 : WI 28 σ7.1 := WI.tr hOσ7 (by decide) (by decide) (by decide) hW28
      have hW132 : WI 132 σ7.1 := hqv6
      have hW158 : WI 158 σ7.1 := WI.tr hOσ7 (by decide) (by decide) (by decide) hW158
      have hW184 : WI 184 σ7.1 := WI.tr hOσ7 (by decide) (by decide) (by decide) hW184
      have hL : SI σ7.1 := SI.tr hOσ7 (by decide) (by decide) (by decide) (by decide) hL
      have hD : RD σ7.1 := RD.tr hOσ7 (by decide) (by decide) (by decide) (by decide) hD
      have hu : 2 ≤ (σ7.1 111 8).toInt ∧ (σ7.1 111 8).toInt ≤ 1600 := by rw [hOσ7.2 111 (by decide)] <;> exact hu
      have ht : 0 ≤ (σ7.1 0 1).toInt ∧ (σ7.1 0 1).toInt ≤ 600 := by rw [hOσ7.2 0 (by decide)] <;> exact ht
      refine ok_gR (v := 55) hT rfl (hR 0 7 rfl) ?_
      refine ok_s16 hT rfl (by decide) (by first | omega | decide | (have q1 := hD.1; have q2 := hD.2.1; simp only [Int32.le_iff_toInt_le, Int32.lt_iff_toInt_lt, ti_add, ti_sub, ti_mul, Int32.reduceToInt] at *; omega)) (by first | omega | decide | (have q1 := hD.1; have q2 := hD.2.1; simp only [Int32.le_iff_toInt_le, Int32.lt_iff_toInt_lt, ti_add, ti_sub, ti_mul, Int32.reduceToInt] at *; omega)) (fun σ9 eσ9 hOσ9 hT => ?_)
      have hW2 : WI 2 σ9.1 := WI.tr hOσ9 (by decide) (by decide) (by decide) hW2
      have hW28 : WI 28 σ9.1 := WI.tr hOσ9 (by decide) (by decide) (by decide) hW28
      have hW132 : WI 132 σ9.1 := WI.tr hOσ9 (by decide) (by decide) (by decide) hW132
      have hW158 : WI 158 σ9.1 := WI.tr hOσ9 (by decide) (by decide) (by decide) hW158
      have hW184 : WI 184 σ9.1 := WI.tr hOσ9 (by decide) (by decide) (by decide) hW184
      have hL : SI σ9.1 := SI.tr hOσ9 (by decide) (by decide) (by decide) (by decide) hL
      have hD : RD σ9.1 := RD.tr hOσ9 (by decide) (by decide) (by decide) (by decide) hD
      have hu : 2 ≤ (σ9.1 111 8).toInt ∧ (σ9.1 111 8).toInt ≤ 1600 := by rw [hOσ9.2 111 (by decide)] <;> exact hu
      have ht : 0 ≤ (σ9.1 0 1).toInt ∧ (σ9.1 0 1).toInt ≤ 600 := by rw [hOσ9.2 0 (by decide)] <;> exact ht
      exact ok_some ⟨hT, (show CF σ9.1 from by exact ⟨hW2, hW28, hW132, hW158, hW184, hL, hD, hu, ht⟩)⟩
    · exact ok_some ⟨hT, (show CF σ0.1 from by exact ⟨hW2, hW28, hW132, hW158, hW184, hL, hD, hu, ht⟩)⟩

set_option maxHeartbeats 4000000 in
set_option maxRecDepth 100000 in
theorem s_X11_back_n28_0 {N : Nat} (hN : 1048576 ≤ N)  {σ0 : zS}  (hR : RF σ0.2.2) (hNw : σ0.2.2 0 4 = 28) (hPw : σ0.2.2 0 5 = 2) (hC : CF σ0.1) : Ok (f_X11_back N 0 0 σ0) (fun r => Tr [28, 29, 30, 31, 32] σ0 r.2 ∧ (CF r.2.1)) := by
  have hT : Tr [28, 29, 30, 31, 32] σ0 σ0 := Tr.rf
  obtain ⟨hW2, hW28, hW132, hW158, hW184, hL, hD, hu, ht⟩ := hC
  have hn := hW28.1
  have he := hW28.2.1
  have hD0 := hD
  have hL0 := hL
  have q10 := ti_one10 (x := σ0.1 28 0) hn.1 hn.2
  rw [f_X11_back.eq_1]
  refine ok_if (fun hc1 => ?_) (fun hc1 => ?_)
  · exact ok_some ⟨hT, (show CF σ0.1 from by exact ⟨hW2, hW28, hW132, hW158, hW184, hL, hD, hu, ht⟩)⟩
  · refine ok_if (fun hc2 => ?_) (fun hc2 => ?_)
    · refine ok_gR (v := 55) hT rfl (hR 0 7 rfl) ?_
      refine ok_aIn rfl (by first | omega | decide | (have q1 := hD.1; have q2 := hD.2.1; simp only [Int32.le_iff_toInt_le, Int32.lt_iff_toInt_lt, ti_add, ti_sub, ti_mul, Int32.reduceToInt] at *; omega)) (by first | omega | decide | (have q1 := hD.1; have q2 := hD.2.1; simp only [Int32.le_iff_toInt_le, Int32.lt_iff_toInt_lt, ti_add, ti_sub, ti_mul, Int32.reduceToInt] at *; omega)) (fun v4 ev4 => ?_)
      refine ok_if (fun hc5 => ?_) (fun hc5 => ?_)
      · exact ok_some ⟨hT, (show CF σ0.1 from by exact ⟨hW2, hW28, hW132, hW158, hW184, hL, hD, hu, ht⟩)⟩
      · refine ok_gR (v := 28) hT rfl hNw ?_
        refine ok_gR (v := 54) hT rfl (hR 0 6 rfl) ?_
        refine ok_aR (v := 132) hT rfl (by first | omega | decide | (have q1 := hD.1; have q2 := hD.2.1; simp only [Int32.le_iff_toInt_le, Int32.lt_iff_toInt_lt, ti_add, ti_sub, ti_mul, Int32.reduceToInt] at *; omega)) (by first | omega | decide | (have q1 := hD.1; have q2 := hD.2.1; simp only [Int32.le_iff_toInt_le, Int32.lt_iff_toInt_lt, ti_add, ti_sub, ti_mul, Int32.reduceToInt] at *; omega)) (hR 54 0 rfl) ?_
        refine ok_gC rfl ?_
        refine ok_zbT (Q := fun V σ => WI 28 σ.1) hT (s_X10_copyFrom_28_132 hN (hR.tr hT) (hW28) (hW132)) (by decide) (fun v9 σ10 hOσ10 hT hqv9 => ?_)
        have hqv9 : WI 28 σ10.1 := hqv9
        have hW2 : WI 2 σ10.1 := WI.tr hOσ10 (by decide) (by decide) (by decide) hW2
        have hW28 : WI 28 σ10.1 := hqv9
        have hW132 : WI 132 σ10.1 := WI.tr hOσ10 (by decide) (by decide) (by decide) hW132
        have hW158 : WI 158 σ10.1 := WI.tr hOσ10 (by decide) (by decide) (by decide) hW158
        have hW184 : WI 184 σ10.1 := WI.tr hOσ10 (by decide) (by decide) (by decide) hW184
        have hL : SI σ10.1 := SI.tr hOσ10 (by decide) (by decide) (by decide) (by decide) hL
        have hD : RD σ10.1 := RD.tr hOσ10 (by decide) (by decide) (by decide) (by decide) hD
        have hu : 2 ≤ (σ10.1 111 8).toInt ∧ (σ10.1 111 8).toInt ≤ 1600 := by rw [hOσ10.2 111 (by decide)] <;> exact hu
        have ht : 0 ≤ (σ10.1 0 1).toInt ∧ (σ10.1 0 1).toInt ≤ 600 := by rw [hOσ10.2 0 (by decide)] <;> exact ht
        exact ok_some ⟨hT, (show CF σ10.1 from by exact ⟨hW2, hW28, hW132, hW158, hW184, hL, hD, hu, ht⟩)⟩
    · exact ok_some ⟨hT, (show CF σ0.1 from by exact ⟨hW2, hW28, hW132, hW158, hW184, hL, hD, hu, ht⟩)⟩

set_option maxHeartbeats 4000000 in
set_option maxRecDepth 100000 in
theorem s_X11_keep_n28_1 {N : Nat} (hN : 1048576 ≤ N)  {σ0 : zS}  (hR : RF σ0.2.2) (hNw : σ0.2.2 0 4 = 28) (hPw : σ0.2.2 0 5 = 2) (hC : CF σ0.1) : Ok (f_X11_keep N 0 1 σ0) (fun r => Tr [55, 158, 159, 160, 161, 162] σ0 r.2 ∧ (CF r.2.1)) := by
  have hT : Tr [55, 158, 159, 160, 161, 162] σ0 σ0 := Tr.rf
  obtain ⟨hW2, hW28, hW132, hW158, hW184, hL, hD, hu, ht⟩ := hC
  have hn := hW28.1
  have he := hW28.2.1
  have hD0 := hD
  have hL0 := hL
  have q10 := ti_one10 (x := σ0.1 28 0) hn.1 hn.2
  rw [f_X11_keep.eq_1]
  refine ok_if (fun hc1 => ?_) (fun hc1 => ?_)
  · exact ok_some ⟨hT, (show CF σ0.1 from by exact ⟨hW2, hW28, hW132, hW158, hW184, hL, hD, hu, ht⟩)⟩
  · refine ok_if (fun hc2 => ?_) (fun hc2 => ?_)
    · refine ok_gR (v := 54) hT rfl (hR 0 6 rfl) ?_
      refine ok_aR (v := 158) hT rfl (by first | omega | decide | (have q1 := hD.1; have q2 := hD.2.1; simp only [Int32.le_iff_toInt_le, Int32.lt_iff_toInt_lt, ti_add, ti_sub, ti_mul, Int32.reduceToInt] at *; omega)) (by first | omega | decide | (have q1 := hD.1; have q2 := hD.2.1; simp only [Int32.le_iff_toInt_le, Int32.lt_iff_toInt_lt, ti_add, ti_sub, ti_mul, Int32.reduceToInt] at *; omega)) (hR 54 1 rfl) ?_
      refine ok_gR (v := 28) hT rfl hNw ?_
      refine ok_gC rfl ?_
      refine ok_zbT (Q := fun V σ => WI 158 σ.1) hT (s_X10_copyFrom_158_28 hN (hR.tr hT) (hW158) (hW28)) (by decide) (fun v6 σ7 hOσ7 hT hqv6 => ?_)
      have hqv6 : WI 158 σ7.1 := hqv6
      have hW2 : WI 2 σ7.1 := WI.tr hOσ7 (by decide) (by decide) (by decide) hW2
      have hW28 : WI 28 σ7.1 := WI.tr hOσ7 (by decide) (by decide) (by decide) hW28
      have hW132 : WI 132 σ7.1 := WI.tr hOσ7 (by decide) (by decide) (by decide) hW132
      have hW158 : WI 158 σ7.1 := hqv6
      have hW184 : WI 184 σ7.1 := WI.tr hOσ7 (by decide) (by decide) (by decide) hW184
      have hL : SI σ7.1 := SI.tr hOσ7 (by decide) (by decide) (by decide) (by decide) hL
      have hD : RD σ7.1 := RD.tr hOσ7 (by decide) (by decide) (by decide) (by decide) hD
      have hu : 2 ≤ (σ7.1 111 8).toInt ∧ (σ7.1 111 8).toInt ≤ 1600 := by rw [hOσ7.2 111 (by decide)] <;> exact hu
      have ht : 0 ≤ (σ7.1 0 1).toInt ∧ (σ7.1 0 1).toInt ≤ 600 := by rw [hOσ7.2 0 (by decide)] <;> exact ht
      refine ok_gR (v := 55) hT rfl (hR 0 7 rfl) ?_
      refine ok_s16 hT rfl (by decide) (by first | omega | decide | (have q1 := hD.1; have q2 := hD.2.1; simp only [Int32.le_iff_toInt_le, Int32.lt_iff_toInt_lt, ti_add, ti_sub, ti_mul, Int32.reduceToInt] at *; omega)) (by first | omega | decide | (have q1 := hD.1; have q2 := hD.2.1; simp only [Int32.le_iff_toInt_le, Int32.lt_iff_toInt_lt, ti_add, ti_sub, ti_mul, Int32.reduceToInt] at *; omega)) (fun σ9 eσ9 hOσ9 hT => ?_)
      have hW2 : WI 2 σ9.1 := WI.tr hOσ9 (by decide) (by decide) (by decide) hW2
      have hW28 : WI 28 σ9.1 := WI.tr hOσ9 (by decide) (by decide) (by decide) hW28
      have hW132 : WI 132 σ9.1 := WI.tr hOσ9 (by decide) (by decide) (by decide) hW132
      have hW158 : WI 158 σ9.1 := WI.tr hOσ9 (by decide) (by decide) (by decide) hW158
      have hW184 : WI 184 σ9.1 := WI.tr hOσ9 (by decide) (by decide) (by decide) hW184
      have hL : SI σ9.1 := SI.tr hOσ9 (by decide) (by decide) (by decide) (by decide) hL
      have hD : RD σ9.1 := RD.tr hOσ9 (by decide) (by decide) (by decide) (by decide) hD
      have hu : 2 ≤ (σ9.1 111 8).toInt ∧ (σ9.1 111 8).toInt ≤ 1600 := by rw [hOσ9.2 111 (by decide)] <;> exact hu
      have ht : 0 ≤ (σ9.1 0 1).toInt ∧ (σ9.1 0 1).toInt ≤ 600 := by rw [hOσ9.2 0 (by decide)] <;> exact ht
      exact ok_some ⟨hT, (show CF σ9.1 from by exact ⟨hW2, hW28, hW132, hW158, hW184, hL, hD, hu, ht⟩)⟩
    · exact ok_some ⟨hT, (show CF σ0.1 from by exact ⟨hW2, hW28, hW132, hW158, hW184, hL, hD, hu, ht⟩)⟩

set_option maxHeartbeats 4000000 in
set_option maxRecDepth 100000 in
theorem s_X11_back_n28_1 {N : Nat} (hN : 1048576 ≤ N)  {σ0 : zS}  (hR : RF σ0.2.2) (hNw : σ0.2.2 0 4 = 28) (hPw : σ0.2.2 0 5 = 2) (hC : CF σ0.1) : Ok (f_X11_back N 0 1 σ0) (fun r => Tr [28, 29, 30, 31, 32] σ0 r.2 ∧ (CF r.2.1)) := by
  have hT : Tr [28, 29, 30, 31, 32] σ0 σ0 := Tr.rf
  obtain ⟨hW2, hW28, hW132, hW158, hW184, hL, hD, hu, ht⟩ := hC
  have hn := hW28.1
  have he := hW28.2.1
  have hD0 := hD
  have hL0 := hL
  have q10 := ti_one10 (x := σ0.1 28 0) hn.1 hn.2
  rw [f_X11_back.eq_1]
  refine ok_if (fun hc1 => ?_) (fun hc1 => ?_)
  · exact ok_some ⟨hT, (show CF σ0.1 from by exact ⟨hW2, hW28, hW132, hW158, hW184, hL, hD, hu, ht⟩)⟩
  · refine ok_if (fun hc2 => ?_) (fun hc2 => ?_)
    · refine ok_gR (v := 55) hT rfl (hR 0 7 rfl) ?_
      refine ok_aIn rfl (by first | omega | decide | (have q1 := hD.1; have q2 := hD.2.1; simp only [Int32.le_iff_toInt_le, Int32.lt_iff_toInt_lt, ti_add, ti_sub, ti_mul, Int32.reduceToInt] at *; omega)) (by first | omega | decide | (have q1 := hD.1; have q2 := hD.2.1; simp only [Int32.le_iff_toInt_le, Int32.lt_iff_toInt_lt, ti_add, ti_sub, ti_mul, Int32.reduceToInt] at *; omega)) (fun v4 ev4 => ?_)
      refine ok_if (fun hc5 => ?_) (fun hc5 => ?_)
      · exact ok_some ⟨hT, (show CF σ0.1 from by exact ⟨hW2, hW28, hW132, hW158, hW184, hL, hD, hu, ht⟩)⟩
      · refine ok_gR (v := 28) hT rfl hNw ?_
        refine ok_gR (v := 54) hT rfl (hR 0 6 rfl) ?_
        refine ok_aR (v := 158) hT rfl (by first | omega | decide | (have q1 := hD.1; have q2 := hD.2.1; simp only [Int32.le_iff_toInt_le, Int32.lt_iff_toInt_lt, ti_add, ti_sub, ti_mul, Int32.reduceToInt] at *; omega)) (by first | omega | decide | (have q1 := hD.1; have q2 := hD.2.1; simp only [Int32.le_iff_toInt_le, Int32.lt_iff_toInt_lt, ti_add, ti_sub, ti_mul, Int32.reduceToInt] at *; omega)) (hR 54 1 rfl) ?_
        refine ok_gC rfl ?_
        refine ok_zbT (Q := fun V σ => WI 28 σ.1) hT (s_X10_copyFrom_28_158 hN (hR.tr hT) (hW28) (hW158)) (by decide) (fun v9 σ10 hOσ10 hT hqv9 => ?_)
        have hqv9 : WI 28 σ10.1 := hqv9
        have hW2 : WI 2 σ10.1 := WI.tr hOσ10 (by decide) (by decide) (by decide) hW2
        have hW28 : WI 28 σ10.1 := hqv9
        have hW132 : WI 132 σ10.1 := WI.tr hOσ10 (by decide) (by decide) (by decide) hW132
        have hW158 : WI 158 σ10.1 := WI.tr hOσ10 (by decide) (by decide) (by decide) hW158
        have hW184 : WI 184 σ10.1 := WI.tr hOσ10 (by decide) (by decide) (by decide) hW184
        have hL : SI σ10.1 := SI.tr hOσ10 (by decide) (by decide) (by decide) (by decide) hL
        have hD : RD σ10.1 := RD.tr hOσ10 (by decide) (by decide) (by decide) (by decide) hD
        have hu : 2 ≤ (σ10.1 111 8).toInt ∧ (σ10.1 111 8).toInt ≤ 1600 := by rw [hOσ10.2 111 (by decide)] <;> exact hu
        have ht : 0 ≤ (σ10.1 0 1).toInt ∧ (σ10.1 0 1).toInt ≤ 600 := by rw [hOσ10.2 0 (by decide)] <;> exact ht
        exact ok_some ⟨hT, (show CF σ10.1 from by exact ⟨hW2, hW28, hW132, hW158, hW184, hL, hD, hu, ht⟩)⟩
    · exact ok_some ⟨hT, (show CF σ0.1 from by exact ⟨hW2, hW28, hW132, hW158, hW184, hL, hD, hu, ht⟩)⟩

set_option maxHeartbeats 4000000 in
set_option maxRecDepth 100000 in
theorem s_X11_keep_n28_2 {N : Nat} (hN : 1048576 ≤ N)  {σ0 : zS}  (hR : RF σ0.2.2) (hNw : σ0.2.2 0 4 = 28) (hPw : σ0.2.2 0 5 = 2) (hC : CF σ0.1) : Ok (f_X11_keep N 0 2 σ0) (fun r => Tr [55, 184, 185, 186, 187, 188] σ0 r.2 ∧ (CF r.2.1)) := by
  have hT : Tr [55, 184, 185, 186, 187, 188] σ0 σ0 := Tr.rf
  obtain ⟨hW2, hW28, hW132, hW158, hW184, hL, hD, hu, ht⟩ := hC
  have hn := hW28.1
  have he := hW28.2.1
  have hD0 := hD
  have hL0 := hL
  have q10 := ti_one10 (x := σ0.1 28 0) hn.1 hn.2
  rw [f_X11_keep.eq_1]
  refine ok_if (fun hc1 => ?_) (fun hc1 => ?_)
  · exact ok_some ⟨hT, (show CF σ0.1 from by exact ⟨hW2, hW28, hW132, hW158, hW184, hL, hD, hu, ht⟩)⟩
  · refine ok_if (fun hc2 => ?_) (fun hc2 => ?_)
    · refine ok_gR (v := 54) hT rfl (hR 0 6 rfl) ?_
      refine ok_aR (v := 184) hT rfl (by first | omega | decide | (have q1 := hD.1; have q2 := hD.2.1; simp only [Int32.le_iff_toInt_le, Int32.lt_iff_toInt_lt, ti_add, ti_sub, ti_mul, Int32.reduceToInt] at *; omega)) (by first | omega | decide | (have q1 := hD.1; have q2 := hD.2.1; simp only [Int32.le_iff_toInt_le, Int32.lt_iff_toInt_lt, ti_add, ti_sub, ti_mul, Int32.reduceToInt] at *; omega)) (hR 54 2 rfl) ?_
      refine ok_gR (v := 28) hT rfl hNw ?_
      refine ok_gC rfl ?_
      refine ok_zbT (Q := fun V σ => WI 184 σ.1) hT (s_X10_copyFrom_184_28 hN (hR.tr hT) (hW184) (hW28)) (by decide) (fun v6 σ7 hOσ7 hT hqv6 => ?_)
      have hqv6 : WI 184 σ7.1 := hqv6
      have hW2 : WI 2 σ7.1 := WI.tr hOσ7 (by decide) (by decide) (by decide) hW2
      have hW28 : WI 28 σ7.1 := WI.tr hOσ7 (by decide) (by decide) (by decide) hW28
      have hW132 : WI 132 σ7.1 := WI.tr hOσ7 (by decide) (by decide) (by decide) hW132
      have hW158 : WI 158 σ7.1 := WI.tr hOσ7 (by decide) (by decide) (by decide) hW158
      have hW184 : WI 184 σ7.1 := hqv6
      have hL : SI σ7.1 := SI.tr hOσ7 (by decide) (by decide) (by decide) (by decide) hL
      have hD : RD σ7.1 := RD.tr hOσ7 (by decide) (by decide) (by decide) (by decide) hD
      have hu : 2 ≤ (σ7.1 111 8).toInt ∧ (σ7.1 111 8).toInt ≤ 1600 := by rw [hOσ7.2 111 (by decide)] <;> exact hu
      have ht : 0 ≤ (σ7.1 0 1).toInt ∧ (σ7.1 0 1).toInt ≤ 600 := by rw [hOσ7.2 0 (by decide)] <;> exact ht
      refine ok_gR (v := 55) hT rfl (hR 0 7 rfl) ?_
      refine ok_s16 hT rfl (by decide) (by first | omega | decide | (have q1 := hD.1; have q2 := hD.2.1; simp only [Int32.le_iff_toInt_le, Int32.lt_iff_toInt_lt, ti_add, ti_sub, ti_mul, Int32.reduceToInt] at *; omega)) (by first | omega | decide | (have q1 := hD.1; have q2 := hD.2.1; simp only [Int32.le_iff_toInt_le, Int32.lt_iff_toInt_lt, ti_add, ti_sub, ti_mul, Int32.reduceToInt] at *; omega)) (fun σ9 eσ9 hOσ9 hT => ?_)
      have hW2 : WI 2 σ9.1 := WI.tr hOσ9 (by decide) (by decide) (by decide) hW2
      have hW28 : WI 28 σ9.1 := WI.tr hOσ9 (by decide) (by decide) (by decide) hW28
      have hW132 : WI 132 σ9.1 := WI.tr hOσ9 (by decide) (by decide) (by decide) hW132
      have hW158 : WI 158 σ9.1 := WI.tr hOσ9 (by decide) (by decide) (by decide) hW158
      have hW184 : WI 184 σ9.1 := WI.tr hOσ9 (by decide) (by decide) (by decide) hW184
      have hL : SI σ9.1 := SI.tr hOσ9 (by decide) (by decide) (by decide) (by decide) hL
      have hD : RD σ9.1 := RD.tr hOσ9 (by decide) (by decide) (by decide) (by decide) hD
      have hu : 2 ≤ (σ9.1 111 8).toInt ∧ (σ9.1 111 8).toInt ≤ 1600 := by rw [hOσ9.2 111 (by decide)] <;> exact hu
      have ht : 0 ≤ (σ9.1 0 1).toInt ∧ (σ9.1 0 1).toInt ≤ 600 := by rw [hOσ9.2 0 (by decide)] <;> exact ht
      exact ok_some ⟨hT, (show CF σ9.1 from by exact ⟨hW2, hW28, hW132, hW158, hW184, hL, hD, hu, ht⟩)⟩
    · exact ok_some ⟨hT, (show CF σ0.1 from by exact ⟨hW2, hW28, hW132, hW158, hW184, hL, hD, hu, ht⟩)⟩

set_option maxHeartbeats 4000000 in
set_option maxRecDepth 100000 in
theorem s_X11_back_n28_2 {N : Nat} (hN : 1048576 ≤ N)  {σ0 : zS}  (hR : RF σ0.2.2) (hNw : σ0.2.2 0 4 = 28) (hPw : σ0.2.2 0 5 = 2) (hC : CF σ0.1) : Ok (f_X11_back N 0 2 σ0) (fun r => Tr [28, 29, 30, 31, 32] σ0 r.2 ∧ (CF r.2.1)) := by
  have hT : Tr [28, 29, 30, 31, 32] σ0 σ0 := Tr.rf
  obtain ⟨hW2, hW28, hW132, hW158, hW184, hL, hD, hu, ht⟩ := hC
  have hn := hW28.1
  have he := hW28.2.1
  have hD0 := hD
  have hL0 := hL
  have q10 := ti_one10 (x := σ0.1 28 0) hn.1 hn.2
  rw [f_X11_back.eq_1]
  refine ok_if (fun hc1 => ?_) (fun hc1 => ?_)
  · exact ok_some ⟨hT, (show CF σ0.1 from by exact ⟨hW2, hW28, hW132, hW158, hW184, hL, hD, hu, ht⟩)⟩
  · refine ok_if (fun hc2 => ?_) (fun hc2 => ?_)
    · refine ok_gR (v := 55) hT rfl (hR 0 7 rfl) ?_
      refine ok_aIn rfl (by first | omega | decide | (have q1 := hD.1; have q2 := hD.2.1; simp only [Int32.le_iff_toInt_le, Int32.lt_iff_toInt_lt, ti_add, ti_sub, ti_mul, Int32.reduceToInt] at *; omega)) (by first | omega | decide | (have q1 := hD.1; have q2 := hD.2.1; simp only [Int32.le_iff_toInt_le, Int32.lt_iff_toInt_lt, ti_add, ti_sub, ti_mul, Int32.reduceToInt] at *; omega)) (fun v4 ev4 => ?_)
      refine ok_if (fun hc5 => ?_) (fun hc5 => ?_)
      · exact ok_some ⟨hT, (show CF σ0.1 from by exact ⟨hW2, hW28, hW132, hW158, hW184, hL, hD, hu, ht⟩)⟩
      · refine ok_gR (v := 28) hT rfl hNw ?_
        refine ok_gR (v := 54) hT rfl (hR 0 6 rfl) ?_
        refine ok_aR (v := 184) hT rfl (by first | omega | decide | (have q1 := hD.1; have q2 := hD.2.1; simp only [Int32.le_iff_toInt_le, Int32.lt_iff_toInt_lt, ti_add, ti_sub, ti_mul, Int32.reduceToInt] at *; omega)) (by first | omega | decide | (have q1 := hD.1; have q2 := hD.2.1; simp only [Int32.le_iff_toInt_le, Int32.lt_iff_toInt_lt, ti_add, ti_sub, ti_mul, Int32.reduceToInt] at *; omega)) (hR 54 2 rfl) ?_
        refine ok_gC rfl ?_
        refine ok_zbT (Q := fun V σ => WI 28 σ.1) hT (s_X10_copyFrom_28_184 hN (hR.tr hT) (hW28) (hW184)) (by decide) (fun v9 σ10 hOσ10 hT hqv9 => ?_)
        have hqv9 : WI 28 σ10.1 := hqv9
        have hW2 : WI 2 σ10.1 := WI.tr hOσ10 (by decide) (by decide) (by decide) hW2
        have hW28 : WI 28 σ10.1 := hqv9
        have hW132 : WI 132 σ10.1 := WI.tr hOσ10 (by decide) (by decide) (by decide) hW132
        have hW158 : WI 158 σ10.1 := WI.tr hOσ10 (by decide) (by decide) (by decide) hW158
        have hW184 : WI 184 σ10.1 := WI.tr hOσ10 (by decide) (by decide) (by decide) hW184
        have hL : SI σ10.1 := SI.tr hOσ10 (by decide) (by decide) (by decide) (by decide) hL
        have hD : RD σ10.1 := RD.tr hOσ10 (by decide) (by decide) (by decide) (by decide) hD
        have hu : 2 ≤ (σ10.1 111 8).toInt ∧ (σ10.1 111 8).toInt ≤ 1600 := by rw [hOσ10.2 111 (by decide)] <;> exact hu
        have ht : 0 ≤ (σ10.1 0 1).toInt ∧ (σ10.1 0 1).toInt ≤ 600 := by rw [hOσ10.2 0 (by decide)] <;> exact ht
        exact ok_some ⟨hT, (show CF σ10.1 from by exact ⟨hW2, hW28, hW132, hW158, hW184, hL, hD, hu, ht⟩)⟩
    · exact ok_some ⟨hT, (show CF σ0.1 from by exact ⟨hW2, hW28, hW132, hW158, hW184, hL, hD, hu, ht⟩)⟩
end Zq4_0

/-- behind world(): as before, or the two worlds have changed places -/
def Pw (B C : Nat) (S : List Nat) (σ0 : zS) : Int32 × zS → Prop := fun r => (Tr S σ0 r.2 ∧ CF r.2.1 ∧ r.2.1 0 1 = 0) ∨ (RF r.2.2.2 ∧ r.2.2.2 0 4 = C ∧ r.2.2.2 0 5 = B ∧ CF r.2.1 ∧ r.2.1 0 1 = 0 ∧ ∀ k, k ∉ S → r.2.1 k = σ0.1 k)
theorem world_tail {B C : Nat} {S : List Nat} {σ0 σ : zS} (hB : (zKd C).1 = 10) (hR : RF σ.2.2) (hC : CF σ.1) (hz : σ.1 0 1 = 0) (hS : ∀ k, k ∉ S → σ.1 k = σ0.1 k) : Ok (zl (pR 11 4 0 C σ) fun σ20 => zl (pR 11 5 0 B σ20) fun σ21 => zl (gR 11 4 0 σ21) fun v22 => zl (gI 10 1 v22 σ21) fun v23 => some (v23, σ21)) (Pw B C S σ0) := by
  refine ok_zl (if_pos rfl) ?_
  refine ok_zl (if_pos rfl) ?_
  obtain ⟨τ, e⟩ : ∃ x : zS, x = zR (zR σ 0 (va_up (σ.2.2 0) 4 C)) 0 (va_up ((zR σ 0 (va_up (σ.2.2 0) 4 C)).2.2 0) 5 B) := ⟨_, rfl⟩
  rw [← e]
  have r0 : ∀ j, τ.2.2 0 j = va_up (va_up (σ.2.2 0) 4 C) 5 B j := by
    intro j
    subst e
    show va_up (va_up σ.2.2 0 (va_up (σ.2.2 0) 4 C)) 0 (va_up (va_up σ.2.2 0 (va_up (σ.2.2 0) 4 C) 0) 5 B) 0 j = _
    rw [va_up_self, va_up_self]
  have rk : ∀ k j, k ≠ 0 → τ.2.2 k j = σ.2.2 k j := by
    intro k j hk
    subst e
    show va_up (va_up σ.2.2 0 (va_up (σ.2.2 0) 4 C)) 0 (va_up (va_up σ.2.2 0 (va_up (σ.2.2 0) 4 C) 0) 5 B) k j = _
    rw [va_up_ne _ _ hk, va_up_ne _ _ hk]
  have e1 : τ.1 = σ.1 := by subst e; rfl
  have h4 : τ.2.2 0 4 = C := by rw [r0, va_up_ne _ _ (by decide), va_up_self]
  have h5 : τ.2.2 0 5 = B := by rw [r0, va_up_self]
  refine ok_zl (v := C) (by rw [gR, if_pos (show (zKd 0).1 = 11 from rfl), h4]) ?_
  refine ok_zl (if_pos hB) ?_
  refine ok_some (Or.inr ⟨?_, h4, h5, by rw [e1]; exact hC, by rw [e1]; exact hz, by rw [e1]; exact hS⟩)
  intro k j q
  by_cases hk : k = 0
  · subst hk
    have q4 : j ≠ 4 := fun q2 => by subst q2; exact absurd q (by decide)
    have q5 : j ≠ 5 := fun q2 => by subst q2; exact absurd q (by decide)
    show τ.2.2 0 j = _
    rw [r0, va_up_ne _ _ q5, va_up_ne _ _ q4]
    exact hR 0 j q
  · show τ.2.2 k j = _
    rw [rk k j hk]
    exact hR k j q

set_option maxHeartbeats 4000000 in
set_option maxRecDepth 100000 in
theorem s_X11_world_n2 {N : Nat} (hN : 1048576 ≤ N)  {σ0 : zS}  (hR : RF σ0.2.2) (hNw : σ0.2.2 0 4 = 2) (hPw : σ0.2.2 0 5 = 28) (hC : CF σ0.1) : Ok (f_X11_world N 0 σ0) (Pw 2 28 [0, 28, 29, 30, 31, 32, 57, 58, 59, 61, 62, 63, 64, 65, 106, 107] σ0) := by
  have hT : Tr [0, 28, 29, 30, 31, 32, 57, 58, 59, 61, 62, 63, 64, 65, 106, 107] σ0 σ0 := Tr.rf
  obtain ⟨hW2, hW28, hW132, hW158, hW184, hL, hD, hu, ht⟩ := hC
  have hD0 := hD
  rw [f_X11_world.eq_1]
  refine ok_gR (v := 28) hT rfl hPw ?_
  refine ok_gC rfl ?_
  refine ok_zbT (Q := fun V σ => WI 28 σ.1) hT (s_X10_clear_28 hN (hR.tr hT) (hW28)) (by decide) (fun v2 σ3 hOσ3 hT hqv2 => ?_)
  have hqv2 : WI 28 σ3.1 := hqv2
  have hW2 : WI 2 σ3.1 := WI.tr hOσ3 (by decide) (by decide) (by decide) hW2
  have hW28 : WI 28 σ3.1 := by first | exact hqv2 | exact hqv2.2.2
  have hW132 : WI 132 σ3.1 := WI.tr hOσ3 (by decide) (by decide) (by decide) hW132
  have hW158 : WI 158 σ3.1 := WI.tr hOσ3 (by decide) (by decide) (by decide) hW158
  have hW184 : WI 184 σ3.1 := WI.tr hOσ3 (by decide) (by decide) (by decide) hW184
  have hL : SI σ3.1 := SI.tr hOσ3 (by decide) (by decide) (by decide) (by decide) hL
  have hD : RD σ3.1 := RD.tr hOσ3 (by decide) (by decide) (by decide) (by decide) hD
  have hu : 2 ≤ (σ3.1 111 8).toInt ∧ (σ3.1 111 8).toInt ≤ 1600 := by rw [hOσ3.2 111 (by decide)] <;> exact hu
  have ht : 0 ≤ (σ3.1 0 1).toInt ∧ (σ3.1 0 1).toInt ≤ 600 := by rw [hOσ3.2 0 (by decide)] <;> exact ht
  refine ok_gR (v := 57) hT rfl (hR 0 9 rfl) ?_
  refine ok_gR (v := 1) hT rfl (hR 0 0 rfl) ?_
  refine ok_gI rfl ?_
  refine ok_gR (v := 28) hT rfl hPw ?_
  refine ok_gC rfl ?_
  refine ok_zbT (Q := fun V σ => (V = 0 ∨ V = 1) ∧ RD σ.1 ∧ WI 28 σ.1) hT (s_X5_readWorld_1_28 hN (hR.tr hT) (hD) (hW28)) (by decide) (fun v8 σ9 hOσ9 hT hqv8 => ?_)
  have hqv8 : (v8 = 0 ∨ v8 = 1) ∧ RD σ9.1 ∧ WI 28 σ9.1 := hqv8
  have hW2 : WI 2 σ9.1 := WI.tr hOσ9 (by decide) (by decide) (by decide) hW2
  have hW28 : WI 28 σ9.1 := by first | exact hqv8 | exact hqv8.2.2
  have hW132 : WI 132 σ9.1 := WI.tr hOσ9 (by decide) (by decide) (by decide) hW132
  have hW158 : WI 158 σ9.1 := WI.tr hOσ9 (by decide) (by decide) (by decide) hW158
  have hW184 : WI 184 σ9.1 := WI.tr hOσ9 (by decide) (by decide) (by decide) hW184
  have hL : SI σ9.1 := SI.tr hOσ9 (by decide) (by decide) (by decide) (by decide) hL
  have hD : RD σ9.1 := by first | exact hqv8.2.1 | exact hqv8.2
  have hu : 2 ≤ (σ9.1 111 8).toInt ∧ (σ9.1 111 8).toInt ≤ 1600 := by rw [hOσ9.2 111 (by decide)] <;> exact hu
  have ht : 0 ≤ (σ9.1 0 1).toInt ∧ (σ9.1 0 1).toInt ≤ 600 := by rw [hOσ9.2 0 (by decide)] <;> exact ht
  refine ok_gC rfl ?_
  refine ok_zbT (Q := fun V σ => σ.1 0 1 = 0) hT (s_X11_takeFault hN (hR.tr hT) ) (by decide) (fun v10 σ11 hOσ11 hT hqv10 => ?_)
  have hqv10 : σ11.1 0 1 = 0 := hqv10
  have hW2 : WI 2 σ11.1 := WI.tr hOσ11 (by decide) (by decide) (by decide) hW2
  have hW28 : WI 28 σ11.1 := WI.tr hOσ11 (by decide) (by decide) (by decide) hW28
  have hW132 : WI 132 σ11.1 := WI.tr hOσ11 (by decide) (by decide) (by decide) hW132
  have hW158 : WI 158 σ11.1 := WI.tr hOσ11 (by decide) (by decide) (by decide) hW158
  have hW184 : WI 184 σ11.1 := WI.tr hOσ11 (by decide) (by decide) (by decide) hW184
  have hL : SI σ11.1 := SI.tr hOσ11 (by decide) (by decide) (by decide) (by decide) hL
  have hD : RD σ11.1 := RD.tr hOσ11 (by decide) (by decide) (by decide) (by decide) hD
  have hu : 2 ≤ (σ11.1 111 8).toInt ∧ (σ11.1 111 8).toInt ≤ 1600 := by rw [hOσ11.2 111 (by decide)] <;> exact hu
  have ht : 0 ≤ (σ11.1 0 1).toInt ∧ (σ11.1 0 1).toInt ≤ 600 := by rw [hqv10]; decide
  have hz := hqv10
  refine ok_if (fun hc12 => ?_) (fun hc12 => ?_)
  · exact ok_some (Or.inl ⟨hT, ⟨hW2, hW28, hW132, hW158, hW184, hL, hD, hu, ht⟩, hz⟩)
  · refine ok_gR (v := 65) hT rfl (hR 0 10 rfl) ?_
    refine ok_gR (v := 57) hT rfl (hR 0 9 rfl) ?_
    refine ok_gR (v := 28) hT rfl hPw ?_
    refine ok_gR (v := 99) hT rfl (hR 0 11 rfl) ?_
    refine ok_gC rfl ?_
    refine ok_zbT (Q := fun V σ => True) hT (s_X7_run_57_28_99 hN (hR.tr hT) (hW28.1)) (by decide) (fun v17 σ18 hOσ18 hT hqv17 => ?_)
    have hW2 : WI 2 σ18.1 := WI.tr hOσ18 (by decide) (by decide) (by decide) hW2
    have hW28 : WI 28 σ18.1 := WI.tr hOσ18 (by decide) (by decide) (by decide) hW28
    have hW132 : WI 132 σ18.1 := WI.tr hOσ18 (by decide) (by decide) (by decide) hW132
    have hW158 : WI 158 σ18.1 := WI.tr hOσ18 (by decide) (by decide) (by decide) hW158
    have hW184 : WI 184 σ18.1 := WI.tr hOσ18 (by decide) (by decide) (by decide) hW184
    have hL : SI σ18.1 := SI.tr hOσ18 (by decide) (by decide) (by decide) (by decide) hL
    have hD : RD σ18.1 := RD.tr hOσ18 (by decide) (by decide) (by decide) (by decide) hD
    have hu : 2 ≤ (σ18.1 111 8).toInt ∧ (σ18.1 111 8).toInt ≤ 1600 := by rw [hOσ18.2 111 (by decide)] <;> exact hu
    have ht : 0 ≤ (σ18.1 0 1).toInt ∧ (σ18.1 0 1).toInt ≤ 600 := by rw [hOσ18.2 0 (by decide)] <;> exact ht
    have hz := (congrFun (hOσ18.2 0 (by decide)) 1).trans hz
    refine ok_gR (v := 2) hT rfl hNw ?_
    refine ok_gR (v := 28) hT rfl hPw ?_
    exact world_tail rfl (hR.tr hT) ⟨hW2, hW28, hW132, hW158, hW184, hL, hD, hu, ht⟩ hz hT.2

set_option maxHeartbeats 4000000 in
set_option maxRecDepth 100000 in
theorem s_X11_world_n28 {N : Nat} (hN : 1048576 ≤ N)  {σ0 : zS}  (hR : RF σ0.2.2) (hNw : σ0.2.2 0 4 = 28) (hPw : σ0.2.2 0 5 = 2) (hC : CF σ0.1) : Ok (f_X11_world N 0 σ0) (Pw 28 2 [0, 2, 3, 4, 5, 6, 57, 58, 59, 61, 62, 63, 64, 65, 106, 107] σ0) := by
  have hT : Tr [0, 2, 3, 4, 5, 6, 57, 58, 59, 61, 62, 63, 64, 65, 106, 107] σ0 σ0 := Tr.rf
  obtain ⟨hW2, hW28, hW132, hW158, hW184, hL, hD, hu, ht⟩ := hC
  have hD0 := hD
  rw [f_X11_world.eq_1]
  refine ok_gR (v := 2) hT rfl hPw ?_
  refine ok_gC rfl ?_
  refine ok_zbT (Q := fun V σ => WI 2 σ.1) hT (s_X10_clear_2 hN (hR.tr hT) (hW2)) (by decide) (fun v2 σ3 hOσ3 hT hqv2 => ?_)
  have hqv2 : WI 2 σ3.1 := hqv2
  have hW2 : WI 2 σ3.1 := by first | exact hqv2 | exact hqv2.2.2
  have hW28 : WI 28 σ3.1 := WI.tr hOσ3 (by decide) (by decide) (by decide) hW28
  have hW132 : WI 132 σ3.1 := WI.tr hOσ3 (by decide) (by decide) (by decide) hW132
  have hW158 : WI 158 σ3.1 := WI.tr hOσ3 (by decide) (by decide) (by decide) hW158
  have hW184 : WI 184 σ3.1 := WI.tr hOσ3 (by decide) (by decide) (by decide) hW184
  have hL : SI σ3.1 := SI.tr hOσ3 (by decide) (by decide) (by decide) (by decide) hL
  have hD : RD σ3.1 := RD.tr hOσ3 (by decide) (by decide) (by decide) (by decide) hD
  have hu : 2 ≤ (σ3.1 111 8).toInt ∧ (σ3.1 111 8).toInt ≤ 1600 := by rw [hOσ3.2 111 (by decide)] <;> exact hu
  have ht : 0 ≤ (σ3.1 0 1).toInt ∧ (σ3.1 0 1).toInt ≤ 600 := by rw [hOσ3.2 0 (by decide)] <;> exact ht
  refine ok_gR (v := 57) hT rfl (hR 0 9 rfl) ?_
  refine ok_gR (v := 1) hT rfl (hR 0 0 rfl) ?_
  refine ok_gI rfl ?_
  refine ok_gR (v := 2) hT rfl hPw ?_
  refine ok_gC rfl ?_
  refine ok_zbT (Q := fun V σ => (V = 0 ∨ V = 1) ∧ RD σ.1 ∧ WI 2 σ.1) hT (s_X5_readWorld_1_2 hN (hR.tr hT) (hD) (hW2)) (by decide) (fun v8 σ9 hOσ9 hT hqv8 => ?_)
  have hqv8 : (v8 = 0 ∨ v8 = 1) ∧ RD σ9.1 ∧ WI 2 σ9.1 := hqv8
  have hW2 : WI 2 σ9.1 := by first | exact hqv8 | exact hqv8.2.2
  have hW28 : WI 28 σ9.1 := WI.tr hOσ9 (by decide) (by decide) (by decide) hW28
  have hW132 : WI 132 σ9.1 := WI.tr hOσ9 (by decide) (by decide) (by decide) hW132
  have hW158 : WI 158 σ9.1 := WI.tr hOσ9 (by decide) (by decide) (by decide) hW158
  have hW184 : WI 184 σ9.1 := WI.tr hOσ9 (by decide) (by decide) (by decide) hW184
  have hL : SI σ9.1 := SI.tr hOσ9 (by decide) (by decide) (by decide) (by decide) hL
  have hD : RD σ9.1 := by first | exact hqv8.2.1 | exact hqv8.2
  have hu : 2 ≤ (σ9.1 111 8).toInt ∧ (σ9.1 111 8).toInt ≤ 1600 := by rw [hOσ9.2 111 (by decide)] <;> exact hu
  have ht : 0 ≤ (σ9.1 0 1).toInt ∧ (σ9.1 0 1).toInt ≤ 600 := by rw [hOσ9.2 0 (by decide)] <;> exact ht
  refine ok_gC rfl ?_
  refine ok_zbT (Q := fun V σ => σ.1 0 1 = 0) hT (s_X11_takeFault hN (hR.tr hT) ) (by decide) (fun v10 σ11 hOσ11 hT hqv10 => ?_)
  have hqv10 : σ11.1 0 1 = 0 := hqv10
  have hW2 : WI 2 σ11.1 := WI.tr hOσ11 (by decide) (by decide) (by decide) hW2
  have hW28 : WI 28 σ11.1 := WI.tr hOσ11 (by decide) (by decide) (by decide) hW28
  have hW132 : WI 132 σ11.1 := WI.tr hOσ11 (by decide) (by decide) (by decide) hW132
  have hW158 : WI 158 σ11.1 := WI.tr hOσ11 (by decide) (by decide) (by decide) hW158
  have hW184 : WI 184 σ11.1 := WI.tr hOσ11 (by decide) (by decide) (by decide) hW184
  have hL : SI σ11.1 := SI.tr hOσ11 (by decide) (by decide) (by decide) (by decide) hL
  have hD : RD σ11.1 := RD.tr hOσ11 (by decide) (by decide) (by decide) (by decide) hD
  have hu : 2 ≤ (σ11.1 111 8).toInt ∧ (σ11.1 111 8).toInt ≤ 1600 := by rw [hOσ11.2 111 (by decide)] <;> exact hu
  have ht : 0 ≤ (σ11.1 0 1).toInt ∧ (σ11.1 0 1).toInt ≤ 600 := by rw [hqv10]; decide
  have hz := hqv10
  refine ok_if (fun hc12 => ?_) (fun hc12 => ?_)
  · exact ok_some (Or.inl ⟨hT, ⟨hW2, hW28, hW132, hW158, hW184, hL, hD, hu, ht⟩, hz⟩)
  · refine ok_gR (v := 65) hT rfl (hR 0 10 rfl) ?_
    refine ok_gR (v := 57) hT rfl (hR 0 9 rfl) ?_
    refine ok_gR (v := 2) hT rfl hPw ?_
    refine ok_gR (v := 99) hT rfl (hR 0 11 rfl) ?_
    refine ok_gC rfl ?_
    refine ok_zbT (Q := fun V σ => True) hT (s_X7_run_57_2_99 hN (hR.tr hT) (hW2.1)) (by decide) (fun v17 σ18 hOσ18 hT hqv17 => ?_)
    have hW2 : WI 2 σ18.1 := WI.tr hOσ18 (by decide) (by decide) (by decide) hW2
    have hW28 : WI 28 σ18.1 := WI.tr hOσ18 (by decide) (by decide) (by decide) hW28
    have hW132 : WI 132 σ18.1 := WI.tr hOσ18 (by decide) (by decide) (by decide) hW132
    have hW158 : WI 158 σ18.1 := WI.tr hOσ18 (by decide) (by decide) (by decide) hW158
    have hW184 : WI 184 σ18.1 := WI.tr hOσ18 (by decide) (by decide) (by decide) hW184
    have hL : SI σ18.1 := SI.tr hOσ18 (by decide) (by decide) (by decide) (by decide) hL
    have hD : RD σ18.1 := RD.tr hOσ18 (by decide) (by decide) (by decide) (by decide) hD
    have hu : 2 ≤ (σ18.1 111 8).toInt ∧ (σ18.1 111 8).toInt ≤ 1600 := by rw [hOσ18.2 111 (by decide)] <;> exact hu
    have ht : 0 ≤ (σ18.1 0 1).toInt ∧ (σ18.1 0 1).toInt ≤ 600 := by rw [hOσ18.2 0 (by decide)] <;> exact ht
    have hz := (congrFun (hOσ18.2 0 (by decide)) 1).trans hz
    refine ok_gR (v := 28) hT rfl hNw ?_
    refine ok_gR (v := 2) hT rfl hPw ?_
    exact world_tail rfl (hR.tr hT) ⟨hW2, hW28, hW132, hW158, hW184, hL, hD, hu, ht⟩ hz hT.2

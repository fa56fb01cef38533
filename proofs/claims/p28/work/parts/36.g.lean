section Zq5_0
/-- behind world(): as before, or the two worlds have changed places -/
def Pw (B C : Nat) (S : List Nat) (σ0 : zS) : Int32 × zS → Prop := fun r => (Tr S σ0 r.2 ∧ CF r.2.1 ∧ r.2.1 0 1 = 0) ∨ (RF r.2.2.2 ∧ r.2.2.2 0 4 = C ∧ r.2.2.2 0 5 = B ∧ CF r.2.1 ∧ r.2.1 0 1 = 0 ∧ ∀ k, k ∉ S → r.2.1 k = σ0.1 k)
theorem world_tail {B C : Nat} {S : List Nat} {σ0 σ : zS} (hB : (zKd C).1 = 10) (hR : RF σ.2.2) (hC : CF σ.1) (hz : σ.1 0 1 = 0) (hS : ∀ k, k ∉ S → σ.1 k = σ0.1 k) : Ok (zl (pR 11 4 0 C σ) fun σ20 => zl (pR 11 5 0 B σ20) fun σ21 => zl (gR 11 4 0 σ21) fun v22 => zl (gI 10 1 v22 σ21) fun v23 => some (v23, σ21)) (Pw B C S σ0) := by
  refine ok_zl (if_pos rfl) ?_
  refine ok_zl (if_pos rfl) ?_
  obtain ⟨τ, e⟩ : ∃ x : zS, x = zR (zR σ 0 (va_up (σ.2.2 0) 4 C)) 0 (va_up ((zR σ 0 (va_up (σ.2.2 0) 4 C)).2.2 0) 5 B) := ⟨_, rfl⟩
  rw [← e]
  have r0 : ∀ j, τ.2.2 0 j = va_up (va_up (σ.2.2 0) 4 C) 5 B j := by
    intro j
    subst e
    show va_up (va_up σ.2.2 0 (va_up (σ.2.2 0) 4 C)) 0 (va_up (va_up σ.2.2 0 (va_up (σ.2.2 0) 4 C) 0) 5 B) 0 j = _
    rw [va_up_self, va_up_self]
  have rk : ∀ k j, k ≠ 0 → τ.2.2 k j = σ.2.2 k j := by
    intro k j hk
    subst e
    show va_up (va_up σ.2.2 0 (va_up (σ.2.2 0) 4 C)) 0 (va_up (va_up σ.2.2 0 (va_up (σ.2.2 0) 4 C) 0) 5 B) k j = _
    rw [va_up_ne _ _ hk, va_up_ne _ _ hk]
  have e1 : τ.1 = σ.1 := by subst e; rfl
  have h4 : τ.2.2 0 4 = C := by rw [r0, va_up_ne _ _ (by decide), va_up_self]
  have h5 : τ.2.2 0 5 = B := by rw [r0, va_up_self]
  refine ok_zl (v := C) (by rw [gR, if_pos (show (zKd 0).1 = 11 from rfl), h4]) ?_
  refine ok_zl (if_pos hB) ?_
  refine ok_some (Or.inr ⟨?_, h4, h5, by rw [e1]; exact hC, by rw [e1]; exact hz, by rw [e1]; exact hS⟩)
  intro k j q
  by_cases hk : k = 0
  · subst hk
    have q4 : j ≠ 4 := fun q2 => by subst q2; exact absurd q (by decide)
    have q5 : j ≠ 5 := fun q2 => by subst q2; exact absurd q (by decide)
    show τ.2.2 0 j = _
    rw [r0, va_up_ne _ _ q5, va_up_ne _ _ q4]
    exact hR 0 j q
  · show τ.2.2 k j = _
    rw [rk k j hk]
    exact hR k j q

set_option maxHeartbeats 4000000 in
set_option maxRecDepth 100000 in
theorem s_X11_world_n2 {N : Nat} (hN : 1048576 ≤ N)  {σ0 : zS}  (hR : RF σ0.2.2) (hNw : σ0.2.2 0 4 = 2) (hPw : σ0.2.2 0 5 = 28) (hC : CF σ0.1) : Ok (f_X11_world N 0 σ0) (Pw 2 28 [0, 28, 29, 30, 31, 32, 57, 58, 59, 61, 62, 63, 64, 65, 106, 107] σ0) := by
  have hT : Tr [0, 28, 29, 30, 31, 32, 57, 58, 59, 61, 62, 63, 64, 65, 106, 107] σ0 σ0 := Tr.rf
  obtain ⟨hW2, hW28, hW132, hW158, hW184, hL, hD, hu, ht⟩ := hC
  have hD0 := hD
  rw [f_X11_world.eq_1]
  refine ok_gR (v := 28) hT rfl hPw ?_
  refine ok_gC rfl ?_
  refine ok_zbT (Q := fun V σ => WI 28 σ.1) hT (s_X10_clear_28 hN (hR.tr hT) (hW28)) (by decide) (fun v2 σ3 hOσ3 hT hqv2 => ?_)
  have hqv2 : WI 28 σ3.1 := hqv2
  have hW2 : WI 2 σ3.1 := WI.tr hOσ3 (by decide) (by decide) (by decide) hW2
  have hW28 : WI 28 σ3.1 := by first | exact hqv2 | exact hqv2.2.2
  have hW132 : WI 132 σ3.1 := WI.tr hOσ3 (by decide) (by decide) (by decide) hW132
  have hW158 : WI 158 σ3.1 := WI.tr hOσ3 (by decide) (by decide) (by decide) hW158
  have hW184 : WI 184 σ3.1 := WI.tr hOσ3 (by decide) (by decide) (by decide) hW184
  have hL : SI σ3.1 := SI.tr hOσ3 (by decide) (by decide) (by decide) (by decide) hL
  have hD : RD σ3.1 := RD.tr hOσ3 (by decide) (by decide) (by decide) (by decide) hD
  have hu : 2 ≤ (σ3.1 111 8).toInt ∧ (σ3.1 111 8).toInt ≤ 1600 := by rw [hOσ3.2 111 (by decide)] <;> exact hu
  have ht : 0 ≤ (σ3.1 0 1).toInt ∧ (σ3.1 0 1).toInt ≤ 600 := by rw [hOσ3.2 0 (by decide)] <;> exact ht
  refine ok_gR (v := 57) hT rfl (hR 0 9 rfl) ?_
  refine ok_gR (v := 1) hT rfl (hR 0 0 rfl) ?_
  refine ok_gI rfl ?_
  refine ok_gR (v := 28) hT rfl hPw ?_
  refine ok_gC rfl ?_
  refine ok_zbT (Q := fun V σ => (V = 0 ∨ V = 1) ∧ RD σ.1 ∧ WI 28 σ.1) hT (s_X5_readWorld_1_28 hN (hR.tr hT) (hD) (hW28)) (by decide) (fun v8 σ9 hOσ9 hT hqv8 => ?_)
  have hqv8 : (v8 = 0 ∨ v8 = 1) ∧ RD σ9.1 ∧ WI 28 σ9.1 := hqv8
  have hW2 : WI 2 σ9.1 := WI.tr hOσ9 (by decide) (by decide) (by decide) hW2
  have hW28 : WI 28 σ9.1 := by first | exact hqv8 | exact hqv8.2.2
  have hW132 : WI 132 σ9.1 := WI.tr hOσ9 (by decide) (by decide) (by decide) hW132
  have hW158 : WI 158 σ9.1 := WI.tr hOσ9 (by decide) (by decide) (by decide) hW158
  have hW184 : WI 184 σ9.1 := WI.tr hOσ9 (by decide) (by decide) (by decide) hW184
  have hL : SI σ9.1 := SI.tr hOσ9 (by decide) (by decide) (by decide) (by decide) hL
  have hD : RD σ9.1 := by first | exact hqv8.2.1 | exact hqv8.2
  have hu : 2 ≤ (σ9.1 111 8).toInt ∧ (σ9.1 111 8).toInt ≤ 1600 := by rw [hOσ9.2 111 (by decide)] <;> exact hu
  have ht : 0 ≤ (σ9.1 0 1).toInt ∧ (σ9.1 0 1).toInt ≤ 600 := by rw [hOσ9.2 0 (by decide)] <;> exact ht
  refine ok_gC rfl ?_
  refine ok_zbT (Q := fun V σ => σ.1 0 1 = 0) hT (s_X11_takeFault hN (hR.tr hT) ) (by decide) (fun v10 σ11 hOσ11 hT hqv10 => ?_)
  have hqv10 : σ11.1 0 1 = 0 := hqv10
  have hW2 : WI 2 σ11.1 := WI.tr hOσ11 (by decide) (by decide) (by decide) hW2
  have hW28 : WI 28 σ11.1 := WI.tr hOσ11 (by decide) (by decide) (by decide) hW28
  have hW132 : WI 132 σ11.1 := WI.tr hOσ11 (by decide) (by decide) (by decide) hW132
  have hW158 : WI 158 σ11.1 := WI.tr hOσ11 (by decide) (by decide) (by decide) hW158
  have hW184 : WI 184 σ11.1 := WI.tr hOσ11 (by decide) (by decide) (by decide) hW184
  have hL : SI σ11.1 := SI.tr hOσ11 (by decide) (by decide) (by decide) (by decide) hL
  have hD : RD σ11.1 := RD.tr hOσ11 (by decide) (by decide) (by decide) (by decide) hD
  have hu : 2 ≤ (σ11.1 111 8).toInt ∧ (σ11.1 111 8).toInt ≤ 1600 := by rw [hOσ11.2 111 (by decide)] <;> exact hu
  have ht : 0 ≤ (σ11.1 0 1).toInt ∧ (σ11.1 0 1).toInt ≤ 600 := by rw [hqv10]; decide
  have hz := hqv10
  refine ok_if (fun hc12 => ?_) (fun hc12 => ?_)
  · exact ok_some (Or.inl ⟨hT, ⟨hW2, hW28, hW132, hW158, hW184, hL, hD, hu, ht⟩, hz⟩)
  · refine ok_gR (v := 65) hT rfl (hR 0 10 rfl) ?_
    refine ok_gR (v := 57) hT rfl (hR 0 9 rfl) ?_
    refine ok_gR (v := 28) hT rfl hPw ?_
    refine ok_gR (v := 99) hT rfl (hR 0 11 rfl) ?_
    refine ok_gC rfl ?_
    refine ok_zbT (Q := fun V σ => True) hT (s_X7_run_57_28_99 hN (hR.tr hT) (hW28.1)) (by decide) (fun v17 σ18 hOσ18 hT hqv17 => ?_)
    have hW2 : WI 2 σ18.1 := WI.tr hOσ18 (by decide) (by decide) (by decide) hW2
    have hW28 : WI 28 σ18.1 := WI.tr hOσ18 (by decide) (by decide) (by decide) hW28
    have hW132 : WI 132 σ18.1 := WI.tr hOσ18 (by decide) (by decide) (by decide) hW132
    have hW158 : WI 158 σ18.1 := WI.tr hOσ18 (by decide) (by decide) (by decide) hW158
    have hW184 : WI 184 σ18.1 := WI.tr hOσ18 (by decide) (by decide) (by decide) hW184
    have hL : SI σ18.1 := SI.tr hOσ18 (by decide) (by decide) (by decide) (by decide) hL
    have hD : RD σ18.1 := RD.tr hOσ18 (by decide) (by decide) (by decide) (by decide) hD
    have hu : 2 ≤ (σ18.1 111 8).toInt ∧ (σ18.1 111 8).toInt ≤ 1600 := by rw [hOσ18.2 111 (by decide)] <;> exact hu
    have ht : 0 ≤ (σ18.1 0 1).toInt ∧ (σ18.1 0 1).toInt ≤ 600 := by rw [hOσ18.2 0 (by decide)] <;> exact ht
    have hz := (congrFun (hOσ18.2 0 (by decide)) 1).trans hz
    refine ok_gR (v := 2) hT rfl hNw ?_
    refine ok_gR (v := 28) hT rfl hPw ?_
    exact world_tail rfl (hR.tr hT) ⟨hW2, hW28, hW132, hW158, hW184, hL, hD, hu, ht⟩ hz hT.2

set_option maxHeartbeats 4000000 in
set_option maxRecDepth 100000 in
theorem s_X11_world_n28 {N : Nat} (hN : 1048576 ≤ N)  {σ0 : zS}  (hR : RF σ0.2.2) (hNw : σ0.2.2 0 4 = 28) (hPw : σ0.2.2 0 5 = 2) (hC : CF σ0.1) : Ok (f_X11_world N 0 σ0) (Pw 28 2 [0, 2, 3, 4, 5, 6, 57, 58, 59, 61, 62, 63, 64, 65, 106, 107] σ0) := by
  have hT : Tr [0, 2, 3, 4, 5, 6, 57, 58, 59, 61, 62, 63, 64, 65, 106, 107] σ0 σ0 := Tr.rf
  obtain ⟨hW2, hW28, hW132, hW158, hW184, hL, hD, hu, ht⟩ := hC
  have hD0 := hD
  rw [f_X11_world.eq_1]
  refine ok_gR (v := 2) hT rfl hPw ?_
  refine ok_gC rfl ?_
  refine ok_zbT (Q := fun V σ => WI 2 σ.1) hT (s_X10_clear_2 hN (hR.tr hT) (hW2)) (by decide) (fun v2 σ3 hOσ3 hT hqv2 => ?_)
  have hqv2 : WI 2 σ3.1 := hqv2
  have hW2 : WI 2 σ3.1 := by first | exact hqv2 | exact hqv2.2.2
  have hW28 : WI 28 σ3.1 := WI.tr hOσ3 (by decide) (by decide) (by decide) hW28
  have hW132 : WI 132 σ3.1 := WI.tr hOσ3 (by decide) (by decide) (by decide) hW132
  have hW158 : WI 158 σ3.1 := WI.tr hOσ3 (by decide) (by decide) (by decide) hW158
  have hW184 : WI 184 σ3.1 := WI.tr hOσ3 (by decide) (by decide) (by decide) hW184
  have hL : SI σ3.1 := SI.tr hOσ3 (by decide) (by decide) (by decide) (by decide) hL
  have hD : RD σ3.1 := RD.tr hOσ3 (by decide) (by decide) (by decide) (by decide) hD
  have hu : 2 ≤ (σ3.1 111 8).toInt ∧ (σ3.1 111 8).toInt ≤ 1600 := by rw [hOσ3.2 111 (by decide)] <;> exact hu
  have ht : 0 ≤ (σ3.1 0 1).toInt ∧ (σ3.1 0 1).toInt ≤ 600 := by rw [hOσ3.2 0 (by decide)] <;> exact ht
  refine ok_gR (v := 57) hT rfl (hR 0 9 rfl) ?_
  refine ok_gR (v := 1) hT rfl (hR 0 0 rfl) ?_
  refine ok_gI rfl ?_
  refine ok_gR (v := 2) hT rfl hPw ?_
  refine ok_gC rfl ?_
  refine ok_zbT (Q := fun V σ => (V = 0 ∨ V = 1) ∧ RD σ.1 ∧ WI 2 σ.1) hT (s_X5_readWorld_1_2 hN (hR.tr hT) (hD) (hW2)) (by decide) (fun v8 σ9 hOσ9 hT hqv8 => ?_)
  have hqv8 : (v8 = 0 ∨ v8 = 1) ∧ RD σ9.1 ∧ WI 2 σ9.1 := hqv8
  have hW2 : WI 2 σ9.1 := by first | exact hqv8 | exact hqv8.2.2
  have hW28 : WI 28 σ9.1 := WI.tr hOσ9 (by decide) (by decide) (by decide) hW28
  have hW132 : WI 132 σ9.1 := WI.tr hOσ9 (by decide) (by decide) (by decide) hW132
  have hW158 : WI 158 σ9.1 := WI.tr hOσ9 (by decide) (by decide) (by decide) hW158
  have hW184 : WI 184 σ9.1 := WI.tr hOσ9 (by decide) (by decide) (by decide) hW184
  have hL : SI σ9.1 := SI.tr hOσ9 (by decide) (by decide) (by decide) (by decide) hL
  have hD : RD σ9.1 := by first | exact hqv8.2.1 | exact hqv8.2
  have hu : 2 ≤ (σ9.1 111 8).toInt ∧ (σ9.1 111 8).toInt ≤ 1600 := by rw [hOσ9.2 111 (by decide)] <;> exact hu
  have ht : 0 ≤ (σ9.1 0 1).toInt ∧ (σ9.1 0 1).toInt ≤ 600 := by rw [hOσ9.2 0 (by decide)] <;> exact ht
  refine ok_gC rfl ?_
  refine ok_zbT (Q := fun V σ => σ.1 0 1 = 0) hT (s_X11_takeFault hN (hR.tr hT) ) (by decide) (fun v10 σ11 hOσ11 hT hqv10 => ?_)
  have hqv10 : σ11.1 0 1 = 0 := hqv10
  have hW2 : WI 2 σ11.1 := WI.tr hOσ11 (by decide) (by decide) (by decide) hW2
  have hW28 : WI 28 σ11.1 := WI.tr hOσ11 (by decide) (by decide) (by decide) hW28
  have hW132 : WI 132 σ11.1 := WI.tr hOσ11 (by decide) (by decide) (by decide) hW132
  have hW158 : WI 158 σ11.1 := WI.tr hOσ11 (by decide) (by decide) (by decide) hW158
  have hW184 : WI 184 σ11.1 := WI.tr hOσ11 (by decide) (by decide) (by decide) hW184
  have hL : SI σ11.1 := SI.tr hOσ11 (by decide) (by decide) (by decide) (by decide) hL
  have hD : RD σ11.1 := RD.tr hOσ11 (by decide) (by decide) (by decide) (by decide) hD
  have hu : 2 ≤ (σ11.1 111 8).toInt ∧ (σ11.1 111 8).toInt ≤ 1600 := by rw [hOσ11.2 111 (by decide)] <;> exact hu
  have ht : 0 ≤ (σ11.1 0 1).toInt ∧ (σ11.1 0 1).toInt ≤ 600 := by rw [hqv10]; decide
  have hz := hqv10
  refine ok_if (fun hc12 => ?_) (fun hc12 => ?_)
  · exact ok_some (Or.inl ⟨hT, ⟨hW2, hW28, hW132, hW158, hW184, hL, hD, hu, ht⟩, hz⟩)
  · refine ok_gR (v := 65) hT rfl (hR 0 10 rfl) ?_
    refine ok_gR (v := 57) hT rfl (hR 0 9 rfl) ?_
    refine ok_gR (v := 2) hT rfl hPw ?_
    refine ok_gR (v := 99) hT rfl (hR 0 11 rfl) ?_
    refine ok_gC rfl ?_
    refine ok_zbT (Q := fun V σ => True) hT (s_X7_run_57_2_99 hN (hR.tr hT) (hW2.1)) (by decide) (fun v17 σ18 hOσ18 hT hqv17 => ?_)
    have hW2 : WI 2 σ18.1 := WI.tr hOσ18 (by decide) (by decide) (by decide) hW2
    have hW28 : WI 28 σ18.1 := WI.tr hOσ18 (by decide) (by decide) (by decide) hW28
    have hW132 : WI 132 σ18.1 := WI.tr hOσ18 (by decide) (by decide) (by decide) hW132
    have hW158 : WI 158 σ18.1 := WI.tr hOσ18 (by decide) (by decide) (by decide) hW158
    have hW184 : WI 184 σ18.1 := WI.tr hOσ18 (by decide) (by decide) (by decide) hW184
    have hL : SI σ18.1 := SI.tr hOσ18 (by decide) (by decide) (by decide) (by decide) hL
    have hD : RD σ18.1 := RD.tr hOσ18 (by decide) (by decide) (by decide) (by decide) hD
    have hu : 2 ≤ (σ18.1 111 8).toInt ∧ (σ18.1 111 8).toInt ≤ 1600 := by rw [hOσ18.2 111 (by decide)] <;> exact hu
    have ht : 0 ≤ (σ18.1 0 1).toInt ∧ (σ18.1 0 1).toInt ≤ 600 := by rw [hOσ18.2 0 (by decide)] <;> exact ht
    have hz := (congrFun (hOσ18.2 0 (by decide)) 1).trans hz
    refine ok_gR (v := 28) hT rfl hNw ?_
    refine ok_gR (v := 2) hT rfl hPw ?_
    exact world_tail rfl (hR.tr hT) ⟨hW2, hW28, hW132, hW158, hW184, hL, hD, hu, ht⟩ hz hT.2
end Zq5_0
section Zq5_1
/-! ===== the reference: what always holds of its numbers ===== -/
/-- rows of booleans hold 0 and 1 -/
def ZB (f : Nat → Nat → Int32) : Prop := ∀ k, (zKd k).1 = 16 → ∀ j, f k j = 0 ∨ f k j = 1
theorem nar01 (v : Int32) : vp_nar .boolean v = 0 ∨ vp_nar .boolean v = 1 := by
  have e : vp_nar .boolean v = v &&& 1 := rfl
  rw [e]
  have h := ti_and0 v (m := 1) (by decide)
  rw [show Int32.ofNat 1 = 1 from rfl] at h
  rcases (show (v &&& 1).toInt = 0 ∨ (v &&& 1).toInt = 1 by omega) with q | q
  · exact Or.inl (Int32.toInt_inj.mp q)
  · exact Or.inr (Int32.toInt_inj.mp q)
theorem zbc : ∀ k, k < 243 → (zKd k).1 = 16 → k = 55 ∨ k = 220 ∨ k = 222 ∨ k = 223 ∨ k = 226 ∨ k = 227 ∨ k = 228 ∨ k = 229 ∨ k = 232 ∨ k = 234 ∨ k = 236 := by decide +kernel
theorem ZB.tr {S : List Nat} {σ τ : zS} (hT : Tr S σ τ) (hs : ∀ k ∈ [55, 220, 222, 223, 226, 227, 228, 229, 232, 234, 236], k ∉ S) (h : ZB σ.1) : ZB τ.1 := by
  intro k hk j
  have : k ∉ S := by
    apply hs
    rcases zbc k (zKd_lt hk (by decide)) hk with rfl | rfl | rfl | rfl | rfl | rfl | rfl | rfl | rfl | rfl | rfl <;> decide
  rw [hT.2 k this]; exact h k hk j
theorem ZB_s {σ τ : zS} {a i : Nat} {v : Int32} (e : τ = zI σ a (upd (σ.1 a) i (vp_nar .boolean v))) (h : ZB σ.1) : ZB τ.1 := by
  intro k hk j
  by_cases q : k = a
  · subst q
    by_cases q2 : j = i
    · subst q2; rw [zI_atI e]; exact nar01 v
    · rw [zI_atN e q2]; exact h k hk j
  · have : τ.1 k = σ.1 k := by subst e; exact va_up_ne _ _ q
    rw [this]; exact h k hk j
/-- how many sets there are, by the number of names -/
def mny (n : Int32) : Int32 := if 0 < n then (1 : Int32) <<< (n &&& 31) else 0
theorem mny_b {n : Int32} (h0 : 0 ≤ n.toInt) (h1 : n.toInt ≤ 10) : 0 ≤ (mny n).toInt ∧ (mny n).toInt ≤ 1024 := by
  have := ti_one10 h0 h1
  unfold mny
  split
  · omega
  · decide
/-- a world's row from b on: names, edges, ends, and each name has a place -/
def MW (g : Nat → Int32) (b : Nat) : Prop := (0 ≤ (g b).toInt ∧ (g b).toInt ≤ 10) ∧ (0 ≤ (g (b + 2)).toInt ∧ (g (b + 2)).toInt ≤ 10) ∧ (∀ j, j < 10 → (0 ≤ (g (b + 13 + j)).toInt ∧ (g (b + 13 + j)).toInt ≤ 7) ∧ (0 ≤ (g (b + 23 + j)).toInt ∧ (g (b + 23 + j)).toInt ≤ 7)) ∧ ∀ v : Nat, (v : Int) < (g b).toInt → ∃ k : Nat, (k : Int) < (g b).toInt ∧ g (b + 33 + k) = nI v
theorem ok_aIc {β : Type} {P : β → Prop} {Sx : List Nat} {σ0 σ : zS} {ti n k j : Nat} {i : Int32} {f : Int32 → Option β} (hT : Tr Sx σ0 σ) (hk : zKd k = (ti, n)) (hS : k ∉ Sx) (hj : i.toNatClampNeg = j) (h1 : 0 ≤ i.toInt) (h2 : i.toInt < (n : Int)) (h : Ok (f (σ0.1 k j)) P) : Ok (zl (aI ti k i σ) f) P := by
  refine ok_aI hk h1 h2 ?_
  rw [hT.2 k hS, hj]; exact h
theorem in_ok {a b : Int64} (h : ¬ lg_cmp a b < 0) : b.toInt ≤ a.toInt := by
  rw [zcmp_lt] at h; omega
theorem in_ok2 {a b : Int64} (h : ¬ 0 < lg_cmp a b) : a.toInt ≤ b.toInt := by
  rw [zcmp_gt] at h; omega
end Zq5_1
section Zq5_2
set_option maxHeartbeats 4000000 in
set_option maxRecDepth 100000 in
theorem s_X12_in {N : Nat} (hN : 1048576 ≤ N) {x0 : Int64} {x2 : Int64} {x4 : Int64} {σ0 : zS}  (hR : RF σ0.2.2)  : Ok (f_X12_in N x0 x2 x4 σ0) (fun r => Tr [] σ0 r.2 ∧ ((r.1 = 0 ∨ r.1 = 1) ∧ (¬ r.1 = 0 → x2.toInt ≤ x0.toInt ∧ x0.toInt ≤ x4.toInt))) := by
  have hT : Tr [] σ0 σ0 := Tr.rf
  rw [f_X12_in.eq_1]
  refine ok_if (fun hc1 => ?_) (fun hc1 => ?_)
  · exact ok_rZ (Or.inl rfl) ⟨hT, (show ((0 : Int32) = 0 ∨ (0 : Int32) = 1) ∧ (¬ (0 : Int32) = 0 → x2.toInt ≤ x0.toInt ∧ x0.toInt ≤ x4.toInt) from by first | exact ⟨Or.inl rfl, fun h9 => absurd rfl h9⟩ | exact ⟨Or.inr rfl, fun _ => ⟨h1, h2⟩⟩)⟩
  · have h1 := in_ok hc1
    refine ok_if (fun hc2 => ?_) (fun hc2 => ?_)
    · exact ok_rZ (Or.inl rfl) ⟨hT, (show ((0 : Int32) = 0 ∨ (0 : Int32) = 1) ∧ (¬ (0 : Int32) = 0 → x2.toInt ≤ x0.toInt ∧ x0.toInt ≤ x4.toInt) from by first | exact ⟨Or.inl rfl, fun h9 => absurd rfl h9⟩ | exact ⟨Or.inr rfl, fun _ => ⟨h1, h2⟩⟩)⟩
    · have h2 := in_ok2 hc2
      exact ok_rZ (Or.inr rfl) ⟨hT, (show ((1 : Int32) = 0 ∨ (1 : Int32) = 1) ∧ (¬ (1 : Int32) = 0 → x2.toInt ≤ x0.toInt ∧ x0.toInt ≤ x4.toInt) from by first | exact ⟨Or.inl rfl, fun h9 => absurd rfl h9⟩ | exact ⟨Or.inr rfl, fun _ => ⟨h1, h2⟩⟩)⟩

set_option maxHeartbeats 4000000 in
set_option maxRecDepth 100000 in
theorem s_X12_isWorld {N : Nat} (hN : 1048576 ≤ N)  {σ0 : zS}  (hR : RF σ0.2.2) (hM : MW (σ0.1 219) 0) : Ok (f_X12_isWorld N 218 σ0) (fun r => Tr [] σ0 r.2 ∧ ((r.1 = 0 ∨ r.1 = 1) ∧ (¬ r.1 = 0 → 0 < (σ0.1 219 0).toInt) ∧ (r.1 = 0 → (σ0.1 219 0).toInt ≤ 0))) := by
  have hT : Tr [] σ0 σ0 := Tr.rf
  have hn := hM.1
  have he : 0 ≤ (σ0.1 219 2).toInt ∧ (σ0.1 219 2).toInt ≤ 10 := hM.2.1
  have qm := mny_b hn.1 hn.2
  rw [f_X12_isWorld.eq_1]
  refine ok_gR (v := 219) hT rfl (hR 218 1 rfl) ?_
  refine ok_aIc (j := 0) hT rfl (by decide) rfl (by decide) (by decide) ?_
  refine ok_if (fun hc3 => ?_) (fun hc3 => ?_)
  · exact ok_rZ (Or.inl rfl) ⟨hT, (show ((0 : Int32) = 0 ∨ (0 : Int32) = 1) ∧ (¬ (0 : Int32) = 0 → 0 < (σ0.1 219 0).toInt) ∧ ((0 : Int32) = 0 → (σ0.1 219 0).toInt ≤ 0) from by first | exact ⟨Or.inl rfl, fun h9 => absurd rfl h9, fun _ => by first | omega | (simp only [Int32.le_iff_toInt_le, Int32.lt_iff_toInt_lt, ti_add, ti_sub, ti_mul, Int32.reduceToInt] at *; omega)⟩ | exact ⟨Or.inr rfl, fun _ => by first | omega | (simp only [Int32.le_iff_toInt_le, Int32.lt_iff_toInt_lt, ti_add, ti_sub, ti_mul, Int32.reduceToInt] at *; omega), fun h9 => absurd h9 (by decide)⟩)⟩
  · exact ok_rZ (Or.inr rfl) ⟨hT, (show ((1 : Int32) = 0 ∨ (1 : Int32) = 1) ∧ (¬ (1 : Int32) = 0 → 0 < (σ0.1 219 0).toInt) ∧ ((1 : Int32) = 0 → (σ0.1 219 0).toInt ≤ 0) from by first | exact ⟨Or.inl rfl, fun h9 => absurd rfl h9, fun _ => by first | omega | (simp only [Int32.le_iff_toInt_le, Int32.lt_iff_toInt_lt, ti_add, ti_sub, ti_mul, Int32.reduceToInt] at *; omega)⟩ | exact ⟨Or.inr rfl, fun _ => by first | omega | (simp only [Int32.le_iff_toInt_le, Int32.lt_iff_toInt_lt, ti_add, ti_sub, ti_mul, Int32.reduceToInt] at *; omega), fun h9 => absurd h9 (by decide)⟩)⟩

set_option maxHeartbeats 4000000 in
set_option maxRecDepth 100000 in
theorem s_X12_isRegister {N : Nat} (hN : 1048576 ≤ N) {x1 : Int32} {σ0 : zS}  (hR : RF σ0.2.2) (hM : MW (σ0.1 219) 0) : Ok (f_X12_isRegister N 218 x1 σ0) (fun r => Tr [] σ0 r.2 ∧ ((r.1 = 0 ∨ r.1 = 1) ∧ (¬ r.1 = 0 → 0 ≤ x1.toInt ∧ x1.toInt ≤ 9))) := by
  have hT : Tr [] σ0 σ0 := Tr.rf
  have hn := hM.1
  have he : 0 ≤ (σ0.1 219 2).toInt ∧ (σ0.1 219 2).toInt ≤ 10 := hM.2.1
  have qm := mny_b hn.1 hn.2
  rw [f_X12_isRegister.eq_1]
  refine ok_gC rfl ?_
  refine ok_zbT (Q := fun V σ => (V = 0 ∨ V = 1) ∧ (¬ V = 0 → 0 < (σ0.1 219 0).toInt) ∧ (V = 0 → (σ0.1 219 0).toInt ≤ 0)) hT (s_X12_isWorld hN (hR.tr hT) (by first | exact hM | (rw [hT.2 219 (by decide)]; exact hM))) (fun _ h9 => absurd h9 List.not_mem_nil) (fun v1 σ2 hOσ2 hT hqv1 => ?_)
  have hqv1 : (v1 = 0 ∨ v1 = 1) ∧ (¬ v1 = 0 → 0 < (σ0.1 219 0).toInt) ∧ (v1 = 0 → (σ0.1 219 0).toInt ≤ 0) := hqv1
  refine ok_if (fun hc3 => ?_) (fun hc3 => ?_)
  · have qhc3 := hqv1.2.2 hc3
    exact ok_rZ (Or.inl rfl) ⟨hT, (show ((0 : Int32) = 0 ∨ (0 : Int32) = 1) ∧ (¬ (0 : Int32) = 0 → 0 ≤ x1.toInt ∧ x1.toInt ≤ 9) from by first | exact ⟨Or.inl rfl, fun h9 => absurd rfl h9⟩ | exact ⟨Or.inr rfl, fun _ => by first | omega | (simp only [Int32.le_iff_toInt_le, Int32.lt_iff_toInt_lt, ti_add, ti_sub, ti_mul, Int32.reduceToInt] at *; omega)⟩ | exact ⟨hqv1.1, fun h9 => by have q9 := hqv1.2 h9; first | omega | (simp only [Int32.le_iff_toInt_le, Int32.lt_iff_toInt_lt, ti_add, ti_sub, ti_mul, Int32.reduceToInt] at *; omega)⟩)⟩
  · have qhc3 := hqv1.2.1 hc3
    refine ok_zbT (Q := fun V σ => (V = 0 ∨ V = 1) ∧ (¬ V = 0 → (0 : Int64).toInt ≤ (Int32.toInt64 x1).toInt ∧ (Int32.toInt64 x1).toInt ≤ (9 : Int64).toInt)) hT (s_X12_in hN (hR.tr hT) ) (fun _ h9 => absurd h9 List.not_mem_nil) (fun v4 σ5 hOσ5 hT hqv4 => ?_)
    have hqv4 : (v4 = 0 ∨ v4 = 1) ∧ (¬ v4 = 0 → (0 : Int64).toInt ≤ (Int32.toInt64 x1).toInt ∧ (Int32.toInt64 x1).toInt ≤ (9 : Int64).toInt) := hqv4
    simp only [i64_of, Int64.reduceToInt] at hqv4
    refine ok_if (fun hc6 => ?_) (fun hc6 => ?_)
    · exact ok_rZ (Or.inl rfl) ⟨hT, (show ((0 : Int32) = 0 ∨ (0 : Int32) = 1) ∧ (¬ (0 : Int32) = 0 → 0 ≤ x1.toInt ∧ x1.toInt ≤ 9) from by first | exact ⟨Or.inl rfl, fun h9 => absurd rfl h9⟩ | exact ⟨Or.inr rfl, fun _ => by first | omega | (simp only [Int32.le_iff_toInt_le, Int32.lt_iff_toInt_lt, ti_add, ti_sub, ti_mul, Int32.reduceToInt] at *; omega)⟩ | exact ⟨hqv4.1, fun h9 => by have q9 := hqv4.2 h9; first | omega | (simp only [Int32.le_iff_toInt_le, Int32.lt_iff_toInt_lt, ti_add, ti_sub, ti_mul, Int32.reduceToInt] at *; omega)⟩)⟩
    · have qhc6 := hqv4.2 hc6
      exact ok_rZ (Or.inr rfl) ⟨hT, (show ((1 : Int32) = 0 ∨ (1 : Int32) = 1) ∧ (¬ (1 : Int32) = 0 → 0 ≤ x1.toInt ∧ x1.toInt ≤ 9) from by first | exact ⟨Or.inl rfl, fun h9 => absurd rfl h9⟩ | exact ⟨Or.inr rfl, fun _ => by first | omega | (simp only [Int32.le_iff_toInt_le, Int32.lt_iff_toInt_lt, ti_add, ti_sub, ti_mul, Int32.reduceToInt] at *; omega)⟩ | exact ⟨hqv4.1, fun h9 => by have q9 := hqv4.2 h9; first | omega | (simp only [Int32.le_iff_toInt_le, Int32.lt_iff_toInt_lt, ti_add, ti_sub, ti_mul, Int32.reduceToInt] at *; omega)⟩)⟩

set_option maxHeartbeats 4000000 in
set_option maxRecDepth 100000 in
theorem s_X12_many {N : Nat} (hN : 1048576 ≤ N)  {σ0 : zS}  (hR : RF σ0.2.2) (hM : MW (σ0.1 219) 0) : Ok (f_X12_many N 218 σ0) (fun r => Tr [] σ0 r.2 ∧ (r.1 = mny (σ0.1 219 0))) := by
  have hT : Tr [] σ0 σ0 := Tr.rf
  have hn := hM.1
  have he : 0 ≤ (σ0.1 219 2).toInt ∧ (σ0.1 219 2).toInt ≤ 10 := hM.2.1
  have qm := mny_b hn.1 hn.2
  rw [f_X12_many.eq_1]
  refine ok_gC rfl ?_
  refine ok_zbT (Q := fun V σ => (V = 0 ∨ V = 1) ∧ (¬ V = 0 → 0 < (σ0.1 219 0).toInt) ∧ (V = 0 → (σ0.1 219 0).toInt ≤ 0)) hT (s_X12_isWorld hN (hR.tr hT) (by first | exact hM | (rw [hT.2 219 (by decide)]; exact hM))) (fun _ h9 => absurd h9 List.not_mem_nil) (fun v1 σ2 hOσ2 hT hqv1 => ?_)
  have hqv1 : (v1 = 0 ∨ v1 = 1) ∧ (¬ v1 = 0 → 0 < (σ0.1 219 0).toInt) ∧ (v1 = 0 → (σ0.1 219 0).toInt ≤ 0) := hqv1
  refine ok_if (fun hc3 => ?_) (fun hc3 => ?_)
  · have qhc3 := hqv1.2.2 hc3
    exact ok_some ⟨hT, (show (0 : Int32) = mny (σ0.1 219 0) from by first | exact (if_pos (Int32.lt_iff_toInt_lt.mpr (by simp only [Int32.reduceToInt]; omega))).symm | exact (if_neg (fun h9 => by rw [Int32.lt_iff_toInt_lt] at h9; simp only [Int32.reduceToInt] at h9; omega)).symm)⟩
  · have qhc3 := hqv1.2.1 hc3
    refine ok_gR (v := 219) hT rfl (hR 218 1 rfl) ?_
    refine ok_aIc (j := 0) hT rfl (by decide) rfl (by decide) (by decide) ?_
    exact ok_some ⟨hT, (show ((1 : Int32) <<< ((σ0.1 219 0) &&& 31)) = mny (σ0.1 219 0) from by first | exact (if_pos (Int32.lt_iff_toInt_lt.mpr (by simp only [Int32.reduceToInt]; omega))).symm | exact (if_neg (fun h9 => by rw [Int32.lt_iff_toInt_lt] at h9; simp only [Int32.reduceToInt] at h9; omega)).symm)⟩

set_option maxHeartbeats 4000000 in
set_option maxRecDepth 100000 in
theorem s_X12_isSet {N : Nat} (hN : 1048576 ≤ N) {x1 : Int32} {σ0 : zS}  (hR : RF σ0.2.2) (hM : MW (σ0.1 219) 0) : Ok (f_X12_isSet N 218 x1 σ0) (fun r => Tr [] σ0 r.2 ∧ ((r.1 = 0 ∨ r.1 = 1) ∧ (¬ r.1 = 0 → 0 ≤ x1.toInt ∧ x1.toInt < (mny (σ0.1 219 0)).toInt))) := by
  have hT : Tr [] σ0 σ0 := Tr.rf
  have hn := hM.1
  have he : 0 ≤ (σ0.1 219 2).toInt ∧ (σ0.1 219 2).toInt ≤ 10 := hM.2.1
  have qm := mny_b hn.1 hn.2
  rw [f_X12_isSet.eq_1]
  refine ok_gC rfl ?_
  refine ok_zbT (Q := fun V σ => V = mny (σ0.1 219 0)) hT (s_X12_many hN (hR.tr hT) (by first | exact hM | (rw [hT.2 219 (by decide)]; exact hM))) (fun _ h9 => absurd h9 List.not_mem_nil) (fun v1 σ2 hOσ2 hT hqv1 => ?_)
  have hqv1 : v1 = mny (σ0.1 219 0) := hqv1
  obtain rfl : v1 = (mny (σ0.1 219 0)) := hqv1
  refine ok_zbT (Q := fun V σ => (V = 0 ∨ V = 1) ∧ (¬ V = 0 → (0 : Int64).toInt ≤ (Int32.toInt64 x1).toInt ∧ (Int32.toInt64 x1).toInt ≤ (Int32.toInt64 (((mny (σ0.1 219 0))) - 1)).toInt)) hT (s_X12_in hN (hR.tr hT) ) (fun _ h9 => absurd h9 List.not_mem_nil) (fun v3 σ4 hOσ4 hT hqv3 => ?_)
  have hqv3 : (v3 = 0 ∨ v3 = 1) ∧ (¬ v3 = 0 → (0 : Int64).toInt ≤ (Int32.toInt64 x1).toInt ∧ (Int32.toInt64 x1).toInt ≤ (Int32.toInt64 (((mny (σ0.1 219 0))) - 1)).toInt) := hqv3
  simp only [i64_of, Int64.reduceToInt] at hqv3
  exact ok_rZ (hqv3.1) ⟨hT, (show (v3 = 0 ∨ v3 = 1) ∧ (¬ v3 = 0 → 0 ≤ x1.toInt ∧ x1.toInt < (mny (σ0.1 219 0)).toInt) from by first | exact ⟨Or.inl rfl, fun h9 => absurd rfl h9⟩ | exact ⟨Or.inr rfl, fun _ => by first | omega | (simp only [Int32.le_iff_toInt_le, Int32.lt_iff_toInt_lt, ti_add, ti_sub, ti_mul, Int32.reduceToInt] at *; omega)⟩ | exact ⟨hqv3.1, fun h9 => by have q9 := hqv3.2 h9; first | omega | (simp only [Int32.le_iff_toInt_le, Int32.lt_iff_toInt_lt, ti_add, ti_sub, ti_mul, Int32.reduceToInt] at *; omega)⟩)⟩

set_option maxHeartbeats 4000000 in
set_option maxRecDepth 100000 in
theorem s_X12_isName {N : Nat} (hN : 1048576 ≤ N) {x1 : Int32} {σ0 : zS}  (hR : RF σ0.2.2) (hM : MW (σ0.1 219) 0) : Ok (f_X12_isName N 218 x1 σ0) (fun r => Tr [] σ0 r.2 ∧ ((r.1 = 0 ∨ r.1 = 1) ∧ (¬ r.1 = 0 → 0 ≤ x1.toInt ∧ x1.toInt < (σ0.1 219 0).toInt))) := by
  have hT : Tr [] σ0 σ0 := Tr.rf
  have hn := hM.1
  have he : 0 ≤ (σ0.1 219 2).toInt ∧ (σ0.1 219 2).toInt ≤ 10 := hM.2.1
  have qm := mny_b hn.1 hn.2
  rw [f_X12_isName.eq_1]
  refine ok_gR (v := 219) hT rfl (hR 218 1 rfl) ?_
  refine ok_aIc (j := 0) hT rfl (by decide) rfl (by decide) (by decide) ?_
  refine ok_zbT (Q := fun V σ => (V = 0 ∨ V = 1) ∧ (¬ V = 0 → (0 : Int64).toInt ≤ (Int32.toInt64 x1).toInt ∧ (Int32.toInt64 x1).toInt ≤ (Int32.toInt64 ((σ0.1 219 0) - 1)).toInt)) hT (s_X12_in hN (hR.tr hT) ) (fun _ h9 => absurd h9 List.not_mem_nil) (fun v3 σ4 hOσ4 hT hqv3 => ?_)
  have hqv3 : (v3 = 0 ∨ v3 = 1) ∧ (¬ v3 = 0 → (0 : Int64).toInt ≤ (Int32.toInt64 x1).toInt ∧ (Int32.toInt64 x1).toInt ≤ (Int32.toInt64 ((σ0.1 219 0) - 1)).toInt) := hqv3
  simp only [i64_of, Int64.reduceToInt] at hqv3
  exact ok_rZ (hqv3.1) ⟨hT, (show (v3 = 0 ∨ v3 = 1) ∧ (¬ v3 = 0 → 0 ≤ x1.toInt ∧ x1.toInt < (σ0.1 219 0).toInt) from by first | exact ⟨Or.inl rfl, fun h9 => absurd rfl h9⟩ | exact ⟨Or.inr rfl, fun _ => by first | omega | (simp only [Int32.le_iff_toInt_le, Int32.lt_iff_toInt_lt, ti_add, ti_sub, ti_mul, Int32.reduceToInt] at *; omega)⟩ | exact ⟨hqv3.1, fun h9 => by have q9 := hqv3.2 h9; first | omega | (simp only [Int32.le_iff_toInt_le, Int32.lt_iff_toInt_lt, ti_add, ti_sub, ti_mul, Int32.reduceToInt] at *; omega)⟩)⟩

set_option maxHeartbeats 4000000 in
set_option maxRecDepth 100000 in
theorem s_X12_of {N : Nat} (hN : 1048576 ≤ N) {x1 : Int32} {x2 : Int32} {σ0 : zS}  (hR : RF σ0.2.2) (hM : MW (σ0.1 219) 0) (hB : ZB σ0.1) (hp : 0 ≤ x1.toInt ∧ x1.toInt ≤ 9) (hs : 0 ≤ x2.toInt ∧ x2.toInt ≤ 1023) : Ok (f_X12_of N 218 x1 x2 σ0) (fun r => Tr [] σ0 r.2 ∧ (r.1 = 0 ∨ r.1 = 1)) := by
  have hT : Tr [] σ0 σ0 := Tr.rf
  have hn := hM.1
  have he : 0 ≤ (σ0.1 219 2).toInt ∧ (σ0.1 219 2).toInt ≤ 10 := hM.2.1
  have qm := mny_b hn.1 hn.2
  rw [f_X12_of.eq_1]
  refine ok_gR (v := 220) hT rfl (hR 218 2 rfl) ?_
  refine ok_aIn rfl (by first | omega | decide | (simp only [Int32.le_iff_toInt_le, Int32.lt_iff_toInt_lt, ti_add, ti_sub, ti_mul, Int32.reduceToInt] at *; omega)) (by first | omega | decide | (simp only [Int32.le_iff_toInt_le, Int32.lt_iff_toInt_lt, ti_add, ti_sub, ti_mul, Int32.reduceToInt] at *; omega)) (fun v2 ev2 => ?_)
  have zv2 : v2 = 0 ∨ v2 = 1 := by rw [ev2]; exact hB 220 rfl _
  exact ok_rZ (by assumption) ⟨hT, (show v2 = 0 ∨ v2 = 1 from by assumption)⟩

set_option maxHeartbeats 4000000 in
set_option maxRecDepth 100000 in
theorem s_X12_namesOf {N : Nat} (hN : 1048576 ≤ N) {x0 : Int32} {σ0 : zS}  (hR : RF σ0.2.2)  : Ok (f_X12_namesOf N x0 σ0) (fun r => Tr [] σ0 r.2 ∧ (True)) := by
  have hT : Tr [] σ0 σ0 := Tr.rf
  rw [f_X12_namesOf.eq_1]
  refine ok_lp (fun t : Int32 × Int32 × zS => Tr [] σ0 (t.2.2) ∧ (0 ≤ (t.2.1).toInt)) (fun t : Int32 × Int32 × zS => ((10 : Int32).toInt - (t.2.1).toInt).toNat) (fun again1 t hI ih4_1 => ?_) N _ (show Tr [] σ0 σ0 ∧ (0 ≤ (0 : Int32).toInt) from ⟨hT, (by first | omega | decide | (simp only [Int32.le_iff_toInt_le, Int32.lt_iff_toInt_lt, ti_add, ti_sub, ti_mul, Int32.reduceToInt] at *; omega))⟩) (show ((10 : Int32).toInt - (0 : Int32).toInt).toNat < N from (by first | omega | decide | (simp only [Int32.le_iff_toInt_le, Int32.lt_iff_toInt_lt, ti_add, ti_sub, ti_mul, Int32.reduceToInt] at *; omega)))
  obtain ⟨x1_1, x2_1, σ1⟩ := t
  have hI : Tr [] σ0 σ1 ∧ (0 ≤ x2_1.toInt) := hI
  obtain ⟨hT, hI1⟩ := hI
  rw [F_X12_namesOf_4.eq_1]
  refine ok_if (fun hc2 => ?_) (fun hc2 => ?_)
  · exact ok_some ⟨hT, trivial⟩
  · exact ih4_1 (x1_1 + (((x0 : Int32) >>> (x2_1 &&& 31)) &&& 1), x2_1 + 1, σ1) (show Tr [] σ0 σ1 ∧ (0 ≤ (x2_1 + 1).toInt) from ⟨hT, (by first | omega | decide | (simp only [Int32.le_iff_toInt_le, Int32.lt_iff_toInt_lt, ti_add, ti_sub, ti_mul, Int32.reduceToInt] at *; omega))⟩) (show ((10 : Int32).toInt - (x2_1 + 1).toInt).toNat < ((10 : Int32).toInt - x2_1.toInt).toNat from (by first | omega | decide | (simp only [Int32.le_iff_toInt_le, Int32.lt_iff_toInt_lt, ti_add, ti_sub, ti_mul, Int32.reduceToInt] at *; omega)))

set_option maxHeartbeats 4000000 in
set_option maxRecDepth 100000 in
theorem s_X12_sizeOf {N : Nat} (hN : 1048576 ≤ N) {x1 : Int32} {σ0 : zS}  (hR : RF σ0.2.2) (hM : MW (σ0.1 219) 0) (hB : ZB σ0.1) (hp : 0 ≤ x1.toInt ∧ x1.toInt ≤ 9) : Ok (f_X12_sizeOf N 218 x1 σ0) (fun r => Tr [] σ0 r.2 ∧ (0 ≤ r.1.toInt ∧ r.1.toInt ≤ 1024)) := by
  have hT : Tr [] σ0 σ0 := Tr.rf
  have hn := hM.1
  have he : 0 ≤ (σ0.1 219 2).toInt ∧ (σ0.1 219 2).toInt ≤ 10 := hM.2.1
  have qm := mny_b hn.1 hn.2
  rw [f_X12_sizeOf.eq_1]
  refine ok_lp (fun t : Int32 × Int32 × zS => Tr [] σ0 (t.2.2) ∧ ((0 ≤ (t.1).toInt ∧ (t.1).toInt ≤ (t.2.1).toInt) ∧ 0 ≤ (t.2.1).toInt ∧ (t.2.1).toInt ≤ 1024) ∧ (ZB (t.2.2).1)) (fun t : Int32 × Int32 × zS => (1024 - (t.2.1).toInt).toNat) (fun again1 t hI ih4_1 => ?_) N _ (show Tr [] σ0 σ0 ∧ ((0 ≤ (0 : Int32).toInt ∧ (0 : Int32).toInt ≤ (0 : Int32).toInt) ∧ 0 ≤ (0 : Int32).toInt ∧ (0 : Int32).toInt ≤ 1024) ∧ (ZB σ0.1) from ⟨hT, (by first | omega | decide | (simp only [Int32.le_iff_toInt_le, Int32.lt_iff_toInt_lt, ti_add, ti_sub, ti_mul, Int32.reduceToInt] at *; omega)), hB⟩) (show (1024 - (0 : Int32).toInt).toNat < N from (by first | omega | decide | (simp only [Int32.le_iff_toInt_le, Int32.lt_iff_toInt_lt, ti_add, ti_sub, ti_mul, Int32.reduceToInt] at *; omega)))
  obtain ⟨x2_1, x3_1, σ1⟩ := t
  have hI : Tr [] σ0 σ1 ∧ ((0 ≤ x2_1.toInt ∧ x2_1.toInt ≤ x3_1.toInt) ∧ 0 ≤ x3_1.toInt ∧ x3_1.toInt ≤ 1024) ∧ (ZB σ1.1) := hI
  obtain ⟨hT, hI1, hB⟩ := hI
  rw [F_X12_sizeOf_4.eq_1]
  refine ok_gC rfl ?_
  have hTc := hT
  refine ok_zbT (Q := fun V σ => V = mny (σ1.1 219 0)) hT (s_X12_many hN (hR.tr hT) (by first | exact hM | (rw [hT.2 219 (by decide)]; exact hM))) (fun _ h9 => absurd h9 List.not_mem_nil) (fun v2 σ3 hOσ3 hT hqv2 => ?_)
  have hqv2 : v2 = mny (σ1.1 219 0) := hqv2
  rw [hTc.2 219 (by decide)] at hqv2
  obtain rfl : v2 = (mny (σ0.1 219 0)) := hqv2
  have hB : ZB σ3.1 := ZB.tr hOσ3 (by decide) hB
  refine ok_if (fun hc4 => ?_) (fun hc4 => ?_)
  · exact ok_some ⟨hT, (show 0 ≤ x2_1.toInt ∧ x2_1.toInt ≤ 1024 from by first | omega | decide | (simp only [Int32.le_iff_toInt_le, Int32.lt_iff_toInt_lt, ti_add, ti_sub, ti_mul, Int32.reduceToInt] at *; omega))⟩
  · refine ok_gC rfl ?_
    refine ok_zbT (Q := fun V σ => V = 0 ∨ V = 1) hT (s_X12_of hN (hR.tr hT) (by first | exact hM | (rw [hT.2 219 (by decide)]; exact hM)) (hB) (by first | omega | decide | (simp only [Int32.le_iff_toInt_le, Int32.lt_iff_toInt_lt, ti_add, ti_sub, ti_mul, Int32.reduceToInt] at *; omega)) (by first | omega | decide | (simp only [Int32.le_iff_toInt_le, Int32.lt_iff_toInt_lt, ti_add, ti_sub, ti_mul, Int32.reduceToInt] at *; omega))) (fun _ h9 => absurd h9 List.not_mem_nil) (fun v5 σ6 hOσ6 hT hqv5 => ?_)
    have hqv5 : v5 = 0 ∨ v5 = 1 := hqv5
    have hB : ZB σ6.1 := ZB.tr hOσ6 (by decide) hB
    refine ok_if (fun hc7 => ?_) (fun hc7 => ?_)
    · exact ih4_1 (x2_1 + 0, x3_1 + 1, σ6) (show Tr [] σ0 σ6 ∧ ((0 ≤ (x2_1 + 0).toInt ∧ (x2_1 + 0).toInt ≤ (x3_1 + 1).toInt) ∧ 0 ≤ (x3_1 + 1).toInt ∧ (x3_1 + 1).toInt ≤ 1024) ∧ (ZB σ6.1) from ⟨hT, (by first | omega | decide | (simp only [Int32.le_iff_toInt_le, Int32.lt_iff_toInt_lt, ti_add, ti_sub, ti_mul, Int32.reduceToInt] at *; omega)), hB⟩) (show (1024 - (x3_1 + 1).toInt).toNat < (1024 - x3_1.toInt).toNat from (by first | omega | decide | (simp only [Int32.le_iff_toInt_le, Int32.lt_iff_toInt_lt, ti_add, ti_sub, ti_mul, Int32.reduceToInt] at *; omega)))
    · exact ih4_1 (x2_1 + 1, x3_1 + 1, σ6) (show Tr [] σ0 σ6 ∧ ((0 ≤ (x2_1 + 1).toInt ∧ (x2_1 + 1).toInt ≤ (x3_1 + 1).toInt) ∧ 0 ≤ (x3_1 + 1).toInt ∧ (x3_1 + 1).toInt ≤ 1024) ∧ (ZB σ6.1) from ⟨hT, (by first | omega | decide | (simp only [Int32.le_iff_toInt_le, Int32.lt_iff_toInt_lt, ti_add, ti_sub, ti_mul, Int32.reduceToInt] at *; omega)), hB⟩) (show (1024 - (x3_1 + 1).toInt).toNat < (1024 - x3_1.toInt).toNat from (by first | omega | decide | (simp only [Int32.le_iff_toInt_le, Int32.lt_iff_toInt_lt, ti_add, ti_sub, ti_mul, Int32.reduceToInt] at *; omega)))

set_option maxHeartbeats 4000000 in
set_option maxRecDepth 100000 in
theorem s_X12_nthOf {N : Nat} (hN : 1048576 ≤ N) {x1 : Int32} {x2 : Int32} {σ0 : zS}  (hR : RF σ0.2.2) (hM : MW (σ0.1 219) 0) (hB : ZB σ0.1) (hp : 0 ≤ x1.toInt ∧ x1.toInt ≤ 9) : Ok (f_X12_nthOf N 218 x1 x2 σ0) (fun r => Tr [] σ0 r.2 ∧ (-1 ≤ r.1.toInt ∧ r.1.toInt ≤ 1023)) := by
  have hT : Tr [] σ0 σ0 := Tr.rf
  have hn := hM.1
  have he : 0 ≤ (σ0.1 219 2).toInt ∧ (σ0.1 219 2).toInt ≤ 10 := hM.2.1
  have qm := mny_b hn.1 hn.2
  rw [f_X12_nthOf.eq_1]
  refine ok_lp (fun t : Int32 × Int32 × zS => Tr [] σ0 (t.2.2) ∧ (0 ≤ (t.2.1).toInt) ∧ (ZB (t.2.2).1)) (fun t : Int32 × Int32 × zS => (1024 - (t.2.1).toInt).toNat) (fun again1 t hI ih5_1 => ?_) N _ (show Tr [] σ0 σ0 ∧ (0 ≤ (0 : Int32).toInt) ∧ (ZB σ0.1) from ⟨hT, (by first | omega | decide | (simp only [Int32.le_iff_toInt_le, Int32.lt_iff_toInt_lt, ti_add, ti_sub, ti_mul, Int32.reduceToInt] at *; omega)), hB⟩) (show (1024 - (0 : Int32).toInt).toNat < N from (by first | omega | decide | (simp only [Int32.le_iff_toInt_le, Int32.lt_iff_toInt_lt, ti_add, ti_sub, ti_mul, Int32.reduceToInt] at *; omega)))
  obtain ⟨x3_1, x4_1, σ1⟩ := t
  have hI : Tr [] σ0 σ1 ∧ (0 ≤ x4_1.toInt) ∧ (ZB σ1.1) := hI
  obtain ⟨hT, hI1, hB⟩ := hI
  rw [F_X12_nthOf_5.eq_1]
  refine ok_gC rfl ?_
  have hTc := hT
  refine ok_zbT (Q := fun V σ => V = mny (σ1.1 219 0)) hT (s_X12_many hN (hR.tr hT) (by first | exact hM | (rw [hT.2 219 (by decide)]; exact hM))) (fun _ h9 => absurd h9 List.not_mem_nil) (fun v2 σ3 hOσ3 hT hqv2 => ?_)
  have hqv2 : v2 = mny (σ1.1 219 0) := hqv2
  rw [hTc.2 219 (by decide)] at hqv2
  obtain rfl : v2 = (mny (σ0.1 219 0)) := hqv2
  have hB : ZB σ3.1 := ZB.tr hOσ3 (by decide) hB
  refine ok_if (fun hc4 => ?_) (fun hc4 => ?_)
  · exact ok_some ⟨hT, (show -1 ≤ (-1 : Int32).toInt ∧ (-1 : Int32).toInt ≤ 1023 from by first | omega | decide | (simp only [Int32.le_iff_toInt_le, Int32.lt_iff_toInt_lt, ti_add, ti_sub, ti_mul, Int32.reduceToInt] at *; omega))⟩
  · refine ok_gC rfl ?_
    refine ok_zbT (Q := fun V σ => V = 0 ∨ V = 1) hT (s_X12_of hN (hR.tr hT) (by first | exact hM | (rw [hT.2 219 (by decide)]; exact hM)) (hB) (by first | omega | decide | (simp only [Int32.le_iff_toInt_le, Int32.lt_iff_toInt_lt, ti_add, ti_sub, ti_mul, Int32.reduceToInt] at *; omega)) (by first | omega | decide | (simp only [Int32.le_iff_toInt_le, Int32.lt_iff_toInt_lt, ti_add, ti_sub, ti_mul, Int32.reduceToInt] at *; omega))) (fun _ h9 => absurd h9 List.not_mem_nil) (fun v5 σ6 hOσ6 hT hqv5 => ?_)
    have hqv5 : v5 = 0 ∨ v5 = 1 := hqv5
    have hB : ZB σ6.1 := ZB.tr hOσ6 (by decide) hB
    refine ok_if (fun hc7 => ?_) (fun hc7 => ?_)
    · exact ih5_1 (x3_1, x4_1 + 1, σ6) (show Tr [] σ0 σ6 ∧ (0 ≤ (x4_1 + 1).toInt) ∧ (ZB σ6.1) from ⟨hT, (by first | omega | decide | (simp only [Int32.le_iff_toInt_le, Int32.lt_iff_toInt_lt, ti_add, ti_sub, ti_mul, Int32.reduceToInt] at *; omega)), hB⟩) (show (1024 - (x4_1 + 1).toInt).toNat < (1024 - x4_1.toInt).toNat from (by first | omega | decide | (simp only [Int32.le_iff_toInt_le, Int32.lt_iff_toInt_lt, ti_add, ti_sub, ti_mul, Int32.reduceToInt] at *; omega)))
    · refine ok_if (fun hc8 => ?_) (fun hc8 => ?_)
      · exact ok_some ⟨hT, (show -1 ≤ x4_1.toInt ∧ x4_1.toInt ≤ 1023 from by first | omega | decide | (simp only [Int32.le_iff_toInt_le, Int32.lt_iff_toInt_lt, ti_add, ti_sub, ti_mul, Int32.reduceToInt] at *; omega))⟩
      · exact ih5_1 (x3_1 + 1, x4_1 + 1, σ6) (show Tr [] σ0 σ6 ∧ (0 ≤ (x4_1 + 1).toInt) ∧ (ZB σ6.1) from ⟨hT, (by first | omega | decide | (simp only [Int32.le_iff_toInt_le, Int32.lt_iff_toInt_lt, ti_add, ti_sub, ti_mul, Int32.reduceToInt] at *; omega)), hB⟩) (show (1024 - (x4_1 + 1).toInt).toNat < (1024 - x4_1.toInt).toNat from (by first | omega | decide | (simp only [Int32.le_iff_toInt_le, Int32.lt_iff_toInt_lt, ti_add, ti_sub, ti_mul, Int32.reduceToInt] at *; omega)))

set_option maxHeartbeats 4000000 in
set_option maxRecDepth 100000 in
theorem s_X12_lays {N : Nat} (hN : 1048576 ≤ N) {x1 : Int32} {σ0 : zS}  (hR : RF σ0.2.2) (hM : MW (σ0.1 219) 0) (hB : ZB σ0.1) (hp : 0 ≤ x1.toInt ∧ x1.toInt ≤ 9) : Ok (f_X12_lays N 218 x1 σ0) (fun r => Tr [220] σ0 r.2 ∧ (ZB r.2.1)) := by
  have hT : Tr [220] σ0 σ0 := Tr.rf
  have hn := hM.1
  have he : 0 ≤ (σ0.1 219 2).toInt ∧ (σ0.1 219 2).toInt ≤ 10 := hM.2.1
  have qm := mny_b hn.1 hn.2
  rw [f_X12_lays.eq_1]
  refine ok_lp (fun t : Int32 × zS => Tr [220] σ0 (t.2) ∧ (0 ≤ (t.1).toInt) ∧ (ZB (t.2).1)) (fun t : Int32 × zS => ((1024 : Int32).toInt - (t.1).toInt).toNat) (fun again1 t hI ih2_1 => ?_) N _ (show Tr [220] σ0 σ0 ∧ (0 ≤ (0 : Int32).toInt) ∧ (ZB σ0.1) from ⟨hT, (by first | omega | decide | (simp only [Int32.le_iff_toInt_le, Int32.lt_iff_toInt_lt, ti_add, ti_sub, ti_mul, Int32.reduceToInt] at *; omega)), hB⟩) (show ((1024 : Int32).toInt - (0 : Int32).toInt).toNat < N from (by first | omega | decide | (simp only [Int32.le_iff_toInt_le, Int32.lt_iff_toInt_lt, ti_add, ti_sub, ti_mul, Int32.reduceToInt] at *; omega)))
  obtain ⟨x2_1, σ1⟩ := t
  have hI : Tr [220] σ0 σ1 ∧ (0 ≤ x2_1.toInt) ∧ (ZB σ1.1) := hI
  obtain ⟨hT, hI1, hB⟩ := hI
  rw [F_X12_lays_2.eq_1]
  refine ok_if (fun hc2 => ?_) (fun hc2 => ?_)
  · refine ok_gC rfl ?_
    refine ok_zbT (Q := fun V σ => 0 ≤ V.toInt ∧ V.toInt ≤ 1024) hT (s_X12_sizeOf hN (hR.tr hT) (by first | exact hM | (rw [hT.2 219 (by decide)]; exact hM)) (hB) (by first | omega | decide | (simp only [Int32.le_iff_toInt_le, Int32.lt_iff_toInt_lt, ti_add, ti_sub, ti_mul, Int32.reduceToInt] at *; omega))) (fun _ h9 => absurd h9 List.not_mem_nil) (fun v3 σ4 hOσ4 hT hqv3 => ?_)
    have hqv3 : 0 ≤ v3.toInt ∧ v3.toInt ≤ 1024 := hqv3
    have hB : ZB σ4.1 := ZB.tr hOσ4 (by decide) hB
    exact ok_some ⟨hT, (show ZB σ4.1 from by exact hB)⟩
  · refine ok_gR (v := 220) hT rfl (hR 218 2 rfl) ?_
    refine ok_gR (v := 227) hT rfl (hR 218 17 rfl) ?_
    refine ok_aIn rfl (by first | omega | decide | (simp only [Int32.le_iff_toInt_le, Int32.lt_iff_toInt_lt, ti_add, ti_sub, ti_mul, Int32.reduceToInt] at *; omega)) (by first | omega | decide | (simp only [Int32.le_iff_toInt_le, Int32.lt_iff_toInt_lt, ti_add, ti_sub, ti_mul, Int32.reduceToInt] at *; omega)) (fun v7 ev7 => ?_)
    have zv7 : v7 = 0 ∨ v7 = 1 := by rw [ev7]; exact hB 227 rfl _
    refine ok_s16 hT rfl (by decide) (by first | omega | decide | (simp only [Int32.le_iff_toInt_le, Int32.lt_iff_toInt_lt, ti_add, ti_sub, ti_mul, Int32.reduceToInt] at *; omega)) (by first | omega | decide | (simp only [Int32.le_iff_toInt_le, Int32.lt_iff_toInt_lt, ti_add, ti_sub, ti_mul, Int32.reduceToInt] at *; omega)) (fun σ8 eσ8 hOσ8 hT => ?_)
    have hB : ZB σ8.1 := ZB_s eσ8 hB
    exact ih2_1 (x2_1 + 1, σ8) (show Tr [220] σ0 σ8 ∧ (0 ≤ (x2_1 + 1).toInt) ∧ (ZB σ8.1) from ⟨hT, (by first | omega | decide | (simp only [Int32.le_iff_toInt_le, Int32.lt_iff_toInt_lt, ti_add, ti_sub, ti_mul, Int32.reduceToInt] at *; omega)), hB⟩) (show ((1024 : Int32).toInt - (x2_1 + 1).toInt).toNat < ((1024 : Int32).toInt - x2_1.toInt).toNat from (by first | omega | decide | (simp only [Int32.le_iff_toInt_le, Int32.lt_iff_toInt_lt, ti_add, ti_sub, ti_mul, Int32.reduceToInt] at *; omega)))

set_option maxHeartbeats 4000000 in
set_option maxRecDepth 100000 in
theorem s_X12_size {N : Nat} (hN : 1048576 ≤ N) {x1 : Int32} {σ0 : zS}  (hR : RF σ0.2.2) (hM : MW (σ0.1 219) 0) (hB : ZB σ0.1) : Ok (f_X12_size N 218 x1 σ0) (fun r => Tr [] σ0 r.2 ∧ (True)) := by
  have hT : Tr [] σ0 σ0 := Tr.rf
  have hn := hM.1
  have he : 0 ≤ (σ0.1 219 2).toInt ∧ (σ0.1 219 2).toInt ≤ 10 := hM.2.1
  have qm := mny_b hn.1 hn.2
  rw [f_X12_size.eq_1]
  refine ok_gC rfl ?_
  refine ok_zbT (Q := fun V σ => (V = 0 ∨ V = 1) ∧ (¬ V = 0 → 0 ≤ x1.toInt ∧ x1.toInt ≤ 9)) hT (s_X12_isRegister hN (hR.tr hT) (by first | exact hM | (rw [hT.2 219 (by decide)]; exact hM))) (fun _ h9 => absurd h9 List.not_mem_nil) (fun v1 σ2 hOσ2 hT hqv1 => ?_)
  have hqv1 : (v1 = 0 ∨ v1 = 1) ∧ (¬ v1 = 0 → 0 ≤ x1.toInt ∧ x1.toInt ≤ 9) := hqv1
  have hB : ZB σ2.1 := ZB.tr hOσ2 (by decide) hB
  refine ok_if (fun hc3 => ?_) (fun hc3 => ?_)
  · exact ok_some ⟨hT, trivial⟩
  · have qhc3 := hqv1.2 hc3
    refine ok_gC rfl ?_
    refine ok_zbT (Q := fun V σ => 0 ≤ V.toInt ∧ V.toInt ≤ 1024) hT (s_X12_sizeOf hN (hR.tr hT) (by first | exact hM | (rw [hT.2 219 (by decide)]; exact hM)) (hB) (by first | omega | decide | (simp only [Int32.le_iff_toInt_le, Int32.lt_iff_toInt_lt, ti_add, ti_sub, ti_mul, Int32.reduceToInt] at *; omega))) (fun _ h9 => absurd h9 List.not_mem_nil) (fun v4 σ5 hOσ5 hT hqv4 => ?_)
    have hqv4 : 0 ≤ v4.toInt ∧ v4.toInt ≤ 1024 := hqv4
    have hB : ZB σ5.1 := ZB.tr hOσ5 (by decide) hB
    exact ok_some ⟨hT, trivial⟩

set_option maxHeartbeats 4000000 in
set_option maxRecDepth 100000 in
theorem s_X12_has {N : Nat} (hN : 1048576 ≤ N) {x1 : Int32} {x2 : Int32} {σ0 : zS}  (hR : RF σ0.2.2) (hM : MW (σ0.1 219) 0) (hB : ZB σ0.1) : Ok (f_X12_has N 218 x1 x2 σ0) (fun r => Tr [] σ0 r.2 ∧ (True)) := by
  have hT : Tr [] σ0 σ0 := Tr.rf
  have hn := hM.1
  have he : 0 ≤ (σ0.1 219 2).toInt ∧ (σ0.1 219 2).toInt ≤ 10 := hM.2.1
  have qm := mny_b hn.1 hn.2
  rw [f_X12_has.eq_1]
  refine ok_gC rfl ?_
  refine ok_zbT (Q := fun V σ => (V = 0 ∨ V = 1) ∧ (¬ V = 0 → 0 ≤ x1.toInt ∧ x1.toInt ≤ 9)) hT (s_X12_isRegister hN (hR.tr hT) (by first | exact hM | (rw [hT.2 219 (by decide)]; exact hM))) (fun _ h9 => absurd h9 List.not_mem_nil) (fun v1 σ2 hOσ2 hT hqv1 => ?_)
  have hqv1 : (v1 = 0 ∨ v1 = 1) ∧ (¬ v1 = 0 → 0 ≤ x1.toInt ∧ x1.toInt ≤ 9) := hqv1
  have hB : ZB σ2.1 := ZB.tr hOσ2 (by decide) hB
  refine ok_if (fun hc3 => ?_) (fun hc3 => ?_)
  · exact ok_some ⟨hT, trivial⟩
  · have qhc3 := hqv1.2 hc3
    refine ok_gC rfl ?_
    have hTc := hT
    refine ok_zbT (Q := fun V σ => (V = 0 ∨ V = 1) ∧ (¬ V = 0 → 0 ≤ x2.toInt ∧ x2.toInt < (mny (σ2.1 219 0)).toInt)) hT (s_X12_isSet hN (hR.tr hT) (by first | exact hM | (rw [hT.2 219 (by decide)]; exact hM))) (fun _ h9 => absurd h9 List.not_mem_nil) (fun v4 σ5 hOσ5 hT hqv4 => ?_)
    have hqv4 : (v4 = 0 ∨ v4 = 1) ∧ (¬ v4 = 0 → 0 ≤ x2.toInt ∧ x2.toInt < (mny (σ2.1 219 0)).toInt) := hqv4
    rw [hTc.2 219 (by decide)] at hqv4
    have hB : ZB σ5.1 := ZB.tr hOσ5 (by decide) hB
    refine ok_if (fun hc6 => ?_) (fun hc6 => ?_)
    · exact ok_some ⟨hT, trivial⟩
    · have qhc6 := hqv4.2 hc6
      refine ok_gC rfl ?_
      refine ok_zbT (Q := fun V σ => V = 0 ∨ V = 1) hT (s_X12_of hN (hR.tr hT) (by first | exact hM | (rw [hT.2 219 (by decide)]; exact hM)) (hB) (by first | omega | decide | (simp only [Int32.le_iff_toInt_le, Int32.lt_iff_toInt_lt, ti_add, ti_sub, ti_mul, Int32.reduceToInt] at *; omega)) (by first | omega | decide | (simp only [Int32.le_iff_toInt_le, Int32.lt_iff_toInt_lt, ti_add, ti_sub, ti_mul, Int32.reduceToInt] at *; omega))) (fun _ h9 => absurd h9 List.not_mem_nil) (fun v7 σ8 hOσ8 hT hqv7 => ?_)
      have hqv7 : v7 = 0 ∨ v7 = 1 := hqv7
      have hB : ZB σ8.1 := ZB.tr hOσ8 (by decide) hB
      refine ok_if (fun hc9 => ?_) (fun hc9 => ?_)
      · exact ok_some ⟨hT, trivial⟩
      · exact ok_some ⟨hT, trivial⟩

set_option maxHeartbeats 4000000 in
set_option maxRecDepth 100000 in
theorem s_X12_nth {N : Nat} (hN : 1048576 ≤ N) {x1 : Int32} {x2 : Int32} {σ0 : zS}  (hR : RF σ0.2.2) (hM : MW (σ0.1 219) 0) (hB : ZB σ0.1) : Ok (f_X12_nth N 218 x1 x2 σ0) (fun r => Tr [] σ0 r.2 ∧ (True)) := by
  have hT : Tr [] σ0 σ0 := Tr.rf
  have hn := hM.1
  have he : 0 ≤ (σ0.1 219 2).toInt ∧ (σ0.1 219 2).toInt ≤ 10 := hM.2.1
  have qm := mny_b hn.1 hn.2
  rw [f_X12_nth.eq_1]
  refine ok_gC rfl ?_
  refine ok_zbT (Q := fun V σ => (V = 0 ∨ V = 1) ∧ (¬ V = 0 → 0 ≤ x1.toInt ∧ x1.toInt ≤ 9)) hT (s_X12_isRegister hN (hR.tr hT) (by first | exact hM | (rw [hT.2 219 (by decide)]; exact hM))) (fun _ h9 => absurd h9 List.not_mem_nil) (fun v1 σ2 hOσ2 hT hqv1 => ?_)
  have hqv1 : (v1 = 0 ∨ v1 = 1) ∧ (¬ v1 = 0 → 0 ≤ x1.toInt ∧ x1.toInt ≤ 9) := hqv1
  have hB : ZB σ2.1 := ZB.tr hOσ2 (by decide) hB
  refine ok_if (fun hc3 => ?_) (fun hc3 => ?_)
  · exact ok_some ⟨hT, trivial⟩
  · have qhc3 := hqv1.2 hc3
    refine ok_gC rfl ?_
    refine ok_zbT (Q := fun V σ => -1 ≤ V.toInt ∧ V.toInt ≤ 1023) hT (s_X12_nthOf hN (hR.tr hT) (by first | exact hM | (rw [hT.2 219 (by decide)]; exact hM)) (hB) (by first | omega | decide | (simp only [Int32.le_iff_toInt_le, Int32.lt_iff_toInt_lt, ti_add, ti_sub, ti_mul, Int32.reduceToInt] at *; omega))) (fun _ h9 => absurd h9 List.not_mem_nil) (fun v4 σ5 hOσ5 hT hqv4 => ?_)
    have hqv4 : -1 ≤ v4.toInt ∧ v4.toInt ≤ 1023 := hqv4
    have hB : ZB σ5.1 := ZB.tr hOσ5 (by decide) hB
    exact ok_some ⟨hT, trivial⟩

set_option maxHeartbeats 4000000 in
set_option maxRecDepth 100000 in
theorem s_X12_sets {N : Nat} (hN : 1048576 ≤ N) {x1 : Int32} {x2 : Int32} {x3 : Int32} {σ0 : zS}  (hR : RF σ0.2.2) (hM : MW (σ0.1 219) 0) (hB : ZB σ0.1) : Ok (f_X12_sets N 218 x1 x2 x3 σ0) (fun r => Tr [220] σ0 r.2 ∧ (ZB r.2.1)) := by
  have hT : Tr [220] σ0 σ0 := Tr.rf
  have hn := hM.1
  have he : 0 ≤ (σ0.1 219 2).toInt ∧ (σ0.1 219 2).toInt ≤ 10 := hM.2.1
  have qm := mny_b hn.1 hn.2
  rw [f_X12_sets.eq_1]
  refine ok_gC rfl ?_
  refine ok_zbT (Q := fun V σ => (V = 0 ∨ V = 1) ∧ (¬ V = 0 → 0 ≤ x1.toInt ∧ x1.toInt ≤ 9)) hT (s_X12_isRegister hN (hR.tr hT) (by first | exact hM | (rw [hT.2 219 (by decide)]; exact hM))) (fun _ h9 => absurd h9 List.not_mem_nil) (fun v1 σ2 hOσ2 hT hqv1 => ?_)
  have hqv1 : (v1 = 0 ∨ v1 = 1) ∧ (¬ v1 = 0 → 0 ≤ x1.toInt ∧ x1.toInt ≤ 9) := hqv1
  have hB : ZB σ2.1 := ZB.tr hOσ2 (by decide) hB
  refine ok_if (fun hc3 => ?_) (fun hc3 => ?_)
  · exact ok_some ⟨hT, (show ZB σ2.1 from by exact hB)⟩
  · have qhc3 := hqv1.2 hc3
    refine ok_gC rfl ?_
    have hTc := hT
    refine ok_zbT (Q := fun V σ => (V = 0 ∨ V = 1) ∧ (¬ V = 0 → 0 ≤ x2.toInt ∧ x2.toInt < (mny (σ2.1 219 0)).toInt)) hT (s_X12_isSet hN (hR.tr hT) (by first | exact hM | (rw [hT.2 219 (by decide)]; exact hM))) (fun _ h9 => absurd h9 List.not_mem_nil) (fun v4 σ5 hOσ5 hT hqv4 => ?_)
    have hqv4 : (v4 = 0 ∨ v4 = 1) ∧ (¬ v4 = 0 → 0 ≤ x2.toInt ∧ x2.toInt < (mny (σ2.1 219 0)).toInt) := hqv4
    rw [hTc.2 219 (by decide)] at hqv4
    have hB : ZB σ5.1 := ZB.tr hOσ5 (by decide) hB
    refine ok_if (fun hc6 => ?_) (fun hc6 => ?_)
    · exact ok_some ⟨hT, (show ZB σ5.1 from by exact hB)⟩
    · have qhc6 := hqv4.2 hc6
      refine ok_gC rfl ?_
      refine ok_zbT (Q := fun V σ => V = 0 ∨ V = 1) hT (s_X12_of hN (hR.tr hT) (by first | exact hM | (rw [hT.2 219 (by decide)]; exact hM)) (hB) (by first | omega | decide | (simp only [Int32.le_iff_toInt_le, Int32.lt_iff_toInt_lt, ti_add, ti_sub, ti_mul, Int32.reduceToInt] at *; omega)) (by first | omega | decide | (simp only [Int32.le_iff_toInt_le, Int32.lt_iff_toInt_lt, ti_add, ti_sub, ti_mul, Int32.reduceToInt] at *; omega))) (fun _ h9 => absurd h9 List.not_mem_nil) (fun v7 σ8 hOσ8 hT hqv7 => ?_)
      have hqv7 : v7 = 0 ∨ v7 = 1 := hqv7
      have hB : ZB σ8.1 := ZB.tr hOσ8 (by decide) hB
      refine ok_gR (v := 220) hT rfl (hR 218 2 rfl) ?_
      refine ok_s16 hT rfl (by decide) (by first | omega | decide | (simp only [Int32.le_iff_toInt_le, Int32.lt_iff_toInt_lt, ti_add, ti_sub, ti_mul, Int32.reduceToInt] at *; omega)) (by first | omega | decide | (simp only [Int32.le_iff_toInt_le, Int32.lt_iff_toInt_lt, ti_add, ti_sub, ti_mul, Int32.reduceToInt] at *; omega)) (fun σ10 eσ10 hOσ10 hT => ?_)
      have hB : ZB σ10.1 := ZB_s eσ10 hB
      refine ok_if (fun hc11 => ?_) (fun hc11 => ?_)
      · exact ok_some ⟨hT, (show ZB σ10.1 from by exact hB)⟩
      · exact ok_some ⟨hT, (show ZB σ10.1 from by exact hB)⟩

set_option maxHeartbeats 4000000 in
set_option maxRecDepth 100000 in
theorem s_X12_rank_ {N : Nat} (hN : 1048576 ≤ N) {x1 : Int32} {x2 : Int32} {σ0 : zS}  (hR : RF σ0.2.2) (hM : MW (σ0.1 219) 0) (hB : ZB σ0.1) : Ok (f_X12_rank_ N 218 x1 x2 σ0) (fun r => Tr [] σ0 r.2 ∧ (True)) := by
  have hT : Tr [] σ0 σ0 := Tr.rf
  have hn := hM.1
  have he : 0 ≤ (σ0.1 219 2).toInt ∧ (σ0.1 219 2).toInt ≤ 10 := hM.2.1
  have qm := mny_b hn.1 hn.2
  rw [f_X12_rank_.eq_1]
  refine ok_gC rfl ?_
  refine ok_zbT (Q := fun V σ => (V = 0 ∨ V = 1) ∧ (¬ V = 0 → 0 ≤ x1.toInt ∧ x1.toInt ≤ 9)) hT (s_X12_isRegister hN (hR.tr hT) (by first | exact hM | (rw [hT.2 219 (by decide)]; exact hM))) (fun _ h9 => absurd h9 List.not_mem_nil) (fun v1 σ2 hOσ2 hT hqv1 => ?_)
  have hqv1 : (v1 = 0 ∨ v1 = 1) ∧ (¬ v1 = 0 → 0 ≤ x1.toInt ∧ x1.toInt ≤ 9) := hqv1
  have hB : ZB σ2.1 := ZB.tr hOσ2 (by decide) hB
  refine ok_if (fun hc3 => ?_) (fun hc3 => ?_)
  · exact ok_some ⟨hT, trivial⟩
  · have qhc3 := hqv1.2 hc3
    refine ok_gC rfl ?_
    have hTc := hT
    refine ok_zbT (Q := fun V σ => (V = 0 ∨ V = 1) ∧ (¬ V = 0 → 0 ≤ x2.toInt ∧ x2.toInt < (mny (σ2.1 219 0)).toInt)) hT (s_X12_isSet hN (hR.tr hT) (by first | exact hM | (rw [hT.2 219 (by decide)]; exact hM))) (fun _ h9 => absurd h9 List.not_mem_nil) (fun v4 σ5 hOσ5 hT hqv4 => ?_)
    have hqv4 : (v4 = 0 ∨ v4 = 1) ∧ (¬ v4 = 0 → 0 ≤ x2.toInt ∧ x2.toInt < (mny (σ2.1 219 0)).toInt) := hqv4
    rw [hTc.2 219 (by decide)] at hqv4
    have hB : ZB σ5.1 := ZB.tr hOσ5 (by decide) hB
    refine ok_if (fun hc6 => ?_) (fun hc6 => ?_)
    · exact ok_some ⟨hT, trivial⟩
    · have qhc6 := hqv4.2 hc6
      refine ok_lp (fun t : Int32 × Int32 × zS => Tr [] σ0 (t.2.2) ∧ (0 ≤ (t.2.1).toInt) ∧ (ZB (t.2.2).1)) (fun t : Int32 × Int32 × zS => (1024 - (t.2.1).toInt).toNat) (fun again7 t hI ih24_7 => ?_) N _ (show Tr [] σ0 σ5 ∧ (0 ≤ (0 : Int32).toInt) ∧ (ZB σ5.1) from ⟨hT, (by first | omega | decide | (simp only [Int32.le_iff_toInt_le, Int32.lt_iff_toInt_lt, ti_add, ti_sub, ti_mul, Int32.reduceToInt] at *; omega)), hB⟩) (show (1024 - (0 : Int32).toInt).toNat < N from (by first | omega | decide | (simp only [Int32.le_iff_toInt_le, Int32.lt_iff_toInt_lt, ti_add, ti_sub, ti_mul, Int32.reduceToInt] at *; omega)))
      obtain ⟨x3_7, x4_7, σ7⟩ := t
      have hI : Tr [] σ0 σ7 ∧ (0 ≤ x4_7.toInt) ∧ (ZB σ7.1) := hI
      obtain ⟨hT, hI7, hB⟩ := hI
      rw [F_X12_rank__24.eq_1]
      refine ok_if (fun hc8 => ?_) (fun hc8 => ?_)
      · exact ok_some ⟨hT, trivial⟩
      · refine ok_gC rfl ?_
        refine ok_zbT (Q := fun V σ => V = 0 ∨ V = 1) hT (s_X12_of hN (hR.tr hT) (by first | exact hM | (rw [hT.2 219 (by decide)]; exact hM)) (hB) (by first | omega | decide | (simp only [Int32.le_iff_toInt_le, Int32.lt_iff_toInt_lt, ti_add, ti_sub, ti_mul, Int32.reduceToInt] at *; omega)) (by first | omega | decide | (simp only [Int32.le_iff_toInt_le, Int32.lt_iff_toInt_lt, ti_add, ti_sub, ti_mul, Int32.reduceToInt] at *; omega))) (fun _ h9 => absurd h9 List.not_mem_nil) (fun v9 σ10 hOσ10 hT hqv9 => ?_)
        have hqv9 : v9 = 0 ∨ v9 = 1 := hqv9
        have hB : ZB σ10.1 := ZB.tr hOσ10 (by decide) hB
        refine ok_if (fun hc11 => ?_) (fun hc11 => ?_)
        · exact ih24_7 (x3_7 + 0, x4_7 + 1, σ10) (show Tr [] σ0 σ10 ∧ (0 ≤ (x4_7 + 1).toInt) ∧ (ZB σ10.1) from ⟨hT, (by first | omega | decide | (simp only [Int32.le_iff_toInt_le, Int32.lt_iff_toInt_lt, ti_add, ti_sub, ti_mul, Int32.reduceToInt] at *; omega)), hB⟩) (show (1024 - (x4_7 + 1).toInt).toNat < (1024 - x4_7.toInt).toNat from (by first | omega | decide | (simp only [Int32.le_iff_toInt_le, Int32.lt_iff_toInt_lt, ti_add, ti_sub, ti_mul, Int32.reduceToInt] at *; omega)))
        · exact ih24_7 (x3_7 + 1, x4_7 + 1, σ10) (show Tr [] σ0 σ10 ∧ (0 ≤ (x4_7 + 1).toInt) ∧ (ZB σ10.1) from ⟨hT, (by first | omega | decide | (simp only [Int32.le_iff_toInt_le, Int32.lt_iff_toInt_lt, ti_add, ti_sub, ti_mul, Int32.reduceToInt] at *; omega)), hB⟩) (show (1024 - (x4_7 + 1).toInt).toNat < (1024 - x4_7.toInt).toNat from (by first | omega | decide | (simp only [Int32.le_iff_toInt_le, Int32.lt_iff_toInt_lt, ti_add, ti_sub, ti_mul, Int32.reduceToInt] at *; omega)))
end Zq5_2
section Zq5_3
theorem ti_xor {a b : Int32} {n : Nat} (hn : n ≤ 31) (ha : 0 ≤ a.toInt) (ha2 : a.toInt < ((2 ^ n : Nat) : Int)) (hb : 0 ≤ b.toInt) (hb2 : b.toInt < ((2 ^ n : Nat) : Int)) : 0 ≤ (a ^^^ b).toInt ∧ (a ^^^ b).toInt < ((2 ^ n : Nat) : Int) := by
  have hp : 2 ^ n ≤ 2147483648 := Nat.pow_le_pow_right (show 0 < 2 by decide) hn
  have nn : ∀ x : Int32, 0 ≤ x.toInt → x.toInt = (x.toBitVec.toNat : Int) := by
    intro x hx
    have := ti_cond x
    split at this
    · exact this
    · have := x.toBitVec.isLt; omega
  have e : (a ^^^ b).toBitVec.toNat < 2 ^ n := by
    rw [Int32.toBitVec_xor, BitVec.toNat_xor]
    exact Nat.xor_lt_two_pow (by rw [nn a ha] at ha2; omega) (by rw [nn b hb] at hb2; omega)
  rw [ti_toNat (by omega)]
  omega
theorem or10 {a b : Int32} (ha : 0 ≤ a.toInt) (ha2 : a.toInt < 1024) (hb : 0 ≤ b.toInt) (hb2 : b.toInt < 1024) : 0 ≤ (a ||| b).toInt ∧ (a ||| b).toInt ≤ 1023 := by
  have := ti_or (a := a) (b := b) (n := 10) (by decide) ha (by simpa using ha2) hb (by simpa using hb2)
  have e : ((2 ^ 10 : Nat) : Int) = 1024 := rfl
  omega
theorem xor10 {a b : Int32} (ha : 0 ≤ a.toInt) (ha2 : a.toInt < 1024) (hb : 0 ≤ b.toInt) (hb2 : b.toInt < 1024) : 0 ≤ (a ^^^ b).toInt ∧ (a ^^^ b).toInt ≤ 1023 := by
  have := ti_xor (a := a) (b := b) (n := 10) (by decide) ha (by simpa using ha2) hb (by simpa using hb2)
  have e : ((2 ^ 10 : Nat) : Int) = 1024 := rfl
  omega
theorem nz64n {v : Int32} (h : ¬ v = 0) : ¬ Int32.toInt64 v = 0 := by
  intro q
  have q2 := congrArg Int64.toInt q
  rw [i64_of] at q2
  exact h (Int32.toInt_inj.mp q2)
theorem ti_one12 {x : Int32} (h0 : 0 ≤ x.toInt) (h1 : x.toInt ≤ 12) : 1 ≤ ((1 : Int32) <<< (x &&& 31)).toInt ∧ ((1 : Int32) <<< (x &&& 31)).toInt ≤ 4096 := by
  rw [ti_one h0 (by omega)]
  have : x.toInt.toNat ≤ 12 := by omega
  have h2 := Nat.pow_le_pow_right (show 0 < 2 by decide) this
  have h3 := Nat.pow_pos (n := x.toInt.toNat) (show 0 < 2 by decide)
  omega
theorem MW_w {σ τ : zS} {i : Nat} {v : Int32} (e : τ = zI σ 219 (upd (σ.1 219) i v)) (h1 : 3 ≤ i) (h2 : i < 13) (h : MW (σ.1 219) 0) : MW (τ.1 219) 0 := by
  have o : ∀ j, j ≠ i → τ.1 219 j = σ.1 219 j := fun j hj => zI_atN e hj
  unfold MW at h ⊢
  rw [o 0 (by omega), o (0 + 2) (by omega)]
  refine ⟨h.1, h.2.1, fun j hj => ?_, fun w hw => ?_⟩
  · rw [o _ (by omega), o _ (by omega)]; exact h.2.2.1 j hj
  · obtain ⟨k, hk, hq⟩ := h.2.2.2 w hw
    exact ⟨k, hk, by rw [o _ (by omega)]; exact hq⟩

set_option maxHeartbeats 4000000 in
set_option maxRecDepth 100000 in
theorem s_X12_change {N : Nat} (hN : 1048576 ≤ N) {x1 : Int32} {x2 : Int32} {x3 : Int32} {σ0 : zS}  (hR : RF σ0.2.2) (hM : MW (σ0.1 219) 0) (hB : ZB σ0.1) : Ok (f_X12_change N 218 x1 x2 x3 σ0) (fun r => Tr [220, 227] σ0 r.2 ∧ (ZB r.2.1)) := by
  have hT : Tr [220, 227] σ0 σ0 := Tr.rf
  have hn := hM.1
  have he : 0 ≤ (σ0.1 219 2).toInt ∧ (σ0.1 219 2).toInt ≤ 10 := hM.2.1
  have qm := mny_b hn.1 hn.2
  rw [f_X12_change.eq_1]
  refine ok_gC rfl ?_
  refine ok_zbT (Q := fun V σ => (V = 0 ∨ V = 1) ∧ (¬ V = 0 → 0 ≤ x1.toInt ∧ x1.toInt ≤ 9)) hT (s_X12_isRegister hN (hR.tr hT) (by first | exact hM | (rw [hT.2 219 (by decide)]; exact hM))) (fun _ h9 => absurd h9 List.not_mem_nil) (fun v1 σ2 hOσ2 hT hqv1 => ?_)
  have hqv1 : (v1 = 0 ∨ v1 = 1) ∧ (¬ v1 = 0 → 0 ≤ x1.toInt ∧ x1.toInt ≤ 9) := hqv1
  have hB : ZB σ2.1 := ZB.tr hOσ2 (by decide) hB
  refine ok_if (fun hc3 => ?_) (fun hc3 => ?_)
  · exact ok_some ⟨hT, (show ZB σ2.1 from by exact hB)⟩
  · have qhc3 := hqv1.2 hc3
    refine ok_gC rfl ?_
    refine ok_zbT (Q := fun V σ => (V = 0 ∨ V = 1) ∧ (¬ V = 0 → 0 ≤ x2.toInt ∧ x2.toInt ≤ 9)) hT (s_X12_isRegister hN (hR.tr hT) (by first | exact hM | (rw [hT.2 219 (by decide)]; exact hM))) (fun _ h9 => absurd h9 List.not_mem_nil) (fun v4 σ5 hOσ5 hT hqv4 => ?_)
    have hqv4 : (v4 = 0 ∨ v4 = 1) ∧ (¬ v4 = 0 → 0 ≤ x2.toInt ∧ x2.toInt ≤ 9) := hqv4
    have hB : ZB σ5.1 := ZB.tr hOσ5 (by decide) hB
    refine ok_if (fun hc6 => ?_) (fun hc6 => ?_)
    · exact ok_some ⟨hT, (show ZB σ5.1 from by exact hB)⟩
    · have qhc6 := hqv4.2 hc6
      refine ok_gC rfl ?_
      have hTc := hT
      refine ok_zbT (Q := fun V σ => (V = 0 ∨ V = 1) ∧ (¬ V = 0 → 0 ≤ x3.toInt ∧ x3.toInt < (σ5.1 219 0).toInt)) hT (s_X12_isName hN (hR.tr hT) (by first | exact hM | (rw [hT.2 219 (by decide)]; exact hM))) (fun _ h9 => absurd h9 List.not_mem_nil) (fun v7 σ8 hOσ8 hT hqv7 => ?_)
      have hqv7 : (v7 = 0 ∨ v7 = 1) ∧ (¬ v7 = 0 → 0 ≤ x3.toInt ∧ x3.toInt < (σ5.1 219 0).toInt) := hqv7
      rw [hTc.2 219 (by decide)] at hqv7
      have hB : ZB σ8.1 := ZB.tr hOσ8 (by decide) hB
      refine ok_if (fun hc9 => ?_) (fun hc9 => ?_)
      · exact ok_some ⟨hT, (show ZB σ8.1 from by exact hB)⟩
      · have qhc9 := hqv7.2 hc9
        refine ok_lp (fun t : Int32 × zS => Tr [220, 227] σ0 (t.2) ∧ (0 ≤ (t.1).toInt) ∧ (ZB (t.2).1)) (fun t : Int32 × zS => ((1024 : Int32).toInt - (t.1).toInt).toNat) (fun again10 t hI ih30_10 => ?_) N _ (show Tr [220, 227] σ0 σ8 ∧ (0 ≤ (0 : Int32).toInt) ∧ (ZB σ8.1) from ⟨hT, (by first | omega | decide | (simp only [Int32.le_iff_toInt_le, Int32.lt_iff_toInt_lt, ti_add, ti_sub, ti_mul, Int32.reduceToInt] at *; omega)), hB⟩) (show ((1024 : Int32).toInt - (0 : Int32).toInt).toNat < N from (by first | omega | decide | (simp only [Int32.le_iff_toInt_le, Int32.lt_iff_toInt_lt, ti_add, ti_sub, ti_mul, Int32.reduceToInt] at *; omega)))
        obtain ⟨x4_10, σ10⟩ := t
        have hI : Tr [220, 227] σ0 σ10 ∧ (0 ≤ x4_10.toInt) ∧ (ZB σ10.1) := hI
        obtain ⟨hT, hI10, hB⟩ := hI
        rw [F_X12_change_30.eq_1]
        refine ok_if (fun hc11 => ?_) (fun hc11 => ?_)
        · refine ok_gC rfl ?_
          refine ok_zbT (Q := fun V σ => ZB σ.1) hT (s_X12_lays hN (hR.tr hT) (by first | exact hM | (rw [hT.2 219 (by decide)]; exact hM)) (hB) (by first | omega | decide | (simp only [Int32.le_iff_toInt_le, Int32.lt_iff_toInt_lt, ti_add, ti_sub, ti_mul, Int32.reduceToInt] at *; omega))) (by decide) (fun v12 σ13 hOσ13 hT hqv12 => ?_)
          have hqv12 : ZB σ13.1 := hqv12
          have hB : ZB σ13.1 := by first | exact hqv12 | exact ZB_s eσ13 hB
          exact ok_some ⟨hT, (show ZB σ13.1 from by exact hB)⟩
        · refine ok_gR (v := 227) hT rfl (hR 218 17 rfl) ?_
          refine ok_gC rfl ?_
          have hTc := hT
          refine ok_zbT (Q := fun V σ => V = mny (σ10.1 219 0)) hT (s_X12_many hN (hR.tr hT) (by first | exact hM | (rw [hT.2 219 (by decide)]; exact hM))) (fun _ h9 => absurd h9 List.not_mem_nil) (fun v15 σ16 hOσ16 hT hqv15 => ?_)
          have hqv15 : v15 = mny (σ10.1 219 0) := hqv15
          rw [hTc.2 219 (by decide)] at hqv15
          obtain rfl : v15 = (mny (σ0.1 219 0)) := hqv15
          have hB : ZB σ16.1 := ZB.tr hOσ16 (by decide) hB
          refine ok_if (fun hc17 => ?_) (fun hc17 => ?_)
          · refine ok_s16 hT rfl (by decide) (by first | omega | decide | (simp only [Int32.le_iff_toInt_le, Int32.lt_iff_toInt_lt, ti_add, ti_sub, ti_mul, Int32.reduceToInt] at *; omega)) (by first | omega | decide | (simp only [Int32.le_iff_toInt_le, Int32.lt_iff_toInt_lt, ti_add, ti_sub, ti_mul, Int32.reduceToInt] at *; omega)) (fun σ18 eσ18 hOσ18 hT => ?_)
            have hB : ZB σ18.1 := by first | exact HQ | exact ZB_s eσ18 hB
            exact ih30_10 (x4_10 + 1, σ18) (show Tr [220, 227] σ0 σ18 ∧ (0 ≤ (x4_10 + 1).toInt) ∧ (ZB σ18.1) from ⟨hT, (by first | omega | decide | (simp only [Int32.le_iff_toInt_le, Int32.lt_iff_toInt_lt, ti_add, ti_sub, ti_mul, Int32.reduceToInt] at *; omega)), hB⟩) (show ((1024 : Int32).toInt - (x4_10 + 1).toInt).toNat < ((1024 : Int32).toInt - x4_10.toInt).toNat from (by first | omega | decide | (simp only [Int32.le_iff_toInt_le, Int32.lt_iff_toInt_lt, ti_add, ti_sub, ti_mul, Int32.reduceToInt] at *; omega)))
          · have q9 := ti_one9 (x := x3) (by first | omega | (simp only [Int32.le_iff_toInt_le, Int32.lt_iff_toInt_lt, ti_add, ti_sub, ti_mul, Int32.reduceToInt] at *; omega)) (by first | omega | (simp only [Int32.le_iff_toInt_le, Int32.lt_iff_toInt_lt, ti_add, ti_sub, ti_mul, Int32.reduceToInt] at *; omega))
            have q8 := xor10 (a := x4_10) (b := (1 : Int32) <<< (x3 &&& 31)) (by first | omega | (simp only [Int32.le_iff_toInt_le, Int32.lt_iff_toInt_lt, ti_add, ti_sub, ti_mul, Int32.reduceToInt] at *; omega)) (by first | omega | (simp only [Int32.le_iff_toInt_le, Int32.lt_iff_toInt_lt, ti_add, ti_sub, ti_mul, Int32.reduceToInt] at *; omega)) (by omega) (by omega)
            refine ok_gC rfl ?_
            refine ok_zbT (Q := fun V σ => V = 0 ∨ V = 1) hT (s_X12_of hN (hR.tr hT) (by first | exact hM | (rw [hT.2 219 (by decide)]; exact hM)) (hB) (by first | omega | decide | (simp only [Int32.le_iff_toInt_le, Int32.lt_iff_toInt_lt, ti_add, ti_sub, ti_mul, Int32.reduceToInt] at *; omega)) (by first | omega | decide | (simp only [Int32.le_iff_toInt_le, Int32.lt_iff_toInt_lt, ti_add, ti_sub, ti_mul, Int32.reduceToInt] at *; omega))) (fun _ h9 => absurd h9 List.not_mem_nil) (fun v19 σ20 hOσ20 hT hqv19 => ?_)
            have hqv19 : v19 = 0 ∨ v19 = 1 := hqv19
            have hB : ZB σ20.1 := ZB.tr hOσ20 (by decide) hB
            refine ok_if (fun hc21 => ?_) (fun hc21 => ?_)
            · refine ok_s16 hT rfl (by decide) (by first | omega | decide | (simp only [Int32.le_iff_toInt_le, Int32.lt_iff_toInt_lt, ti_add, ti_sub, ti_mul, Int32.reduceToInt] at *; omega)) (by first | omega | decide | (simp only [Int32.le_iff_toInt_le, Int32.lt_iff_toInt_lt, ti_add, ti_sub, ti_mul, Int32.reduceToInt] at *; omega)) (fun σ22 eσ22 hOσ22 hT => ?_)
              have hB : ZB σ22.1 := by first | exact HQ | exact ZB_s eσ22 hB
              exact ih30_10 (x4_10 + 1, σ22) (show Tr [220, 227] σ0 σ22 ∧ (0 ≤ (x4_10 + 1).toInt) ∧ (ZB σ22.1) from ⟨hT, (by first | omega | decide | (simp only [Int32.le_iff_toInt_le, Int32.lt_iff_toInt_lt, ti_add, ti_sub, ti_mul, Int32.reduceToInt] at *; omega)), hB⟩) (show ((1024 : Int32).toInt - (x4_10 + 1).toInt).toNat < ((1024 : Int32).toInt - x4_10.toInt).toNat from (by first | omega | decide | (simp only [Int32.le_iff_toInt_le, Int32.lt_iff_toInt_lt, ti_add, ti_sub, ti_mul, Int32.reduceToInt] at *; omega)))
            · refine ok_s16 hT rfl (by decide) (by first | omega | decide | (simp only [Int32.le_iff_toInt_le, Int32.lt_iff_toInt_lt, ti_add, ti_sub, ti_mul, Int32.reduceToInt] at *; omega)) (by first | omega | decide | (simp only [Int32.le_iff_toInt_le, Int32.lt_iff_toInt_lt, ti_add, ti_sub, ti_mul, Int32.reduceToInt] at *; omega)) (fun σ23 eσ23 hOσ23 hT => ?_)
              have hB : ZB σ23.1 := by first | exact HQ | exact ZB_s eσ23 hB
              exact ih30_10 (x4_10 + 1, σ23) (show Tr [220, 227] σ0 σ23 ∧ (0 ≤ (x4_10 + 1).toInt) ∧ (ZB σ23.1) from ⟨hT, (by first | omega | decide | (simp only [Int32.le_iff_toInt_le, Int32.lt_iff_toInt_lt, ti_add, ti_sub, ti_mul, Int32.reduceToInt] at *; omega)), hB⟩) (show ((1024 : Int32).toInt - (x4_10 + 1).toInt).toNat < ((1024 : Int32).toInt - x4_10.toInt).toNat from (by first | omega | decide | (simp only [Int32.le_iff_toInt_le, Int32.lt_iff_toInt_lt, ti_add, ti_sub, ti_mul, Int32.reduceToInt] at *; omega)))

set_option maxHeartbeats 4000000 in
set_option maxRecDepth 100000 in
theorem s_X12_half {N : Nat} (hN : 1048576 ≤ N) {x1 : Int32} {x2 : Int32} {x3 : Int32} {x4 : Int32} {σ0 : zS}  (hR : RF σ0.2.2) (hM : MW (σ0.1 219) 0) (hB : ZB σ0.1) : Ok (f_X12_half N 218 x1 x2 x3 x4 σ0) (fun r => Tr [220, 227] σ0 r.2 ∧ (ZB r.2.1)) := by
  have hT : Tr [220, 227] σ0 σ0 := Tr.rf
  have hn := hM.1
  have he : 0 ≤ (σ0.1 219 2).toInt ∧ (σ0.1 219 2).toInt ≤ 10 := hM.2.1
  have qm := mny_b hn.1 hn.2
  rw [f_X12_half.eq_1]
  refine ok_gC rfl ?_
  refine ok_zbT (Q := fun V σ => (V = 0 ∨ V = 1) ∧ (¬ V = 0 → 0 ≤ x1.toInt ∧ x1.toInt ≤ 9)) hT (s_X12_isRegister hN (hR.tr hT) (by first | exact hM | (rw [hT.2 219 (by decide)]; exact hM))) (fun _ h9 => absurd h9 List.not_mem_nil) (fun v1 σ2 hOσ2 hT hqv1 => ?_)
  have hqv1 : (v1 = 0 ∨ v1 = 1) ∧ (¬ v1 = 0 → 0 ≤ x1.toInt ∧ x1.toInt ≤ 9) := hqv1
  have hB : ZB σ2.1 := ZB.tr hOσ2 (by decide) hB
  refine ok_if (fun hc3 => ?_) (fun hc3 => ?_)
  · exact ok_some ⟨hT, (show ZB σ2.1 from by exact hB)⟩
  · have qhc3 := hqv1.2 hc3
    refine ok_gC rfl ?_
    refine ok_zbT (Q := fun V σ => (V = 0 ∨ V = 1) ∧ (¬ V = 0 → 0 ≤ x2.toInt ∧ x2.toInt ≤ 9)) hT (s_X12_isRegister hN (hR.tr hT) (by first | exact hM | (rw [hT.2 219 (by decide)]; exact hM))) (fun _ h9 => absurd h9 List.not_mem_nil) (fun v4 σ5 hOσ5 hT hqv4 => ?_)
    have hqv4 : (v4 = 0 ∨ v4 = 1) ∧ (¬ v4 = 0 → 0 ≤ x2.toInt ∧ x2.toInt ≤ 9) := hqv4
    have hB : ZB σ5.1 := ZB.tr hOσ5 (by decide) hB
    refine ok_if (fun hc6 => ?_) (fun hc6 => ?_)
    · exact ok_some ⟨hT, (show ZB σ5.1 from by exact hB)⟩
    · have qhc6 := hqv4.2 hc6
      refine ok_gC rfl ?_
      have hTc := hT
      refine ok_zbT (Q := fun V σ => (V = 0 ∨ V = 1) ∧ (¬ V = 0 → 0 ≤ x3.toInt ∧ x3.toInt < (σ5.1 219 0).toInt)) hT (s_X12_isName hN (hR.tr hT) (by first | exact hM | (rw [hT.2 219 (by decide)]; exact hM))) (fun _ h9 => absurd h9 List.not_mem_nil) (fun v7 σ8 hOσ8 hT hqv7 => ?_)
      have hqv7 : (v7 = 0 ∨ v7 = 1) ∧ (¬ v7 = 0 → 0 ≤ x3.toInt ∧ x3.toInt < (σ5.1 219 0).toInt) := hqv7
      rw [hTc.2 219 (by decide)] at hqv7
      have hB : ZB σ8.1 := ZB.tr hOσ8 (by decide) hB
      refine ok_if (fun hc9 => ?_) (fun hc9 => ?_)
      · exact ok_some ⟨hT, (show ZB σ8.1 from by exact hB)⟩
      · have qhc9 := hqv7.2 hc9
        refine ok_lp (fun t : Int32 × zS => Tr [220, 227] σ0 (t.2) ∧ (0 ≤ (t.1).toInt) ∧ (ZB (t.2).1)) (fun t : Int32 × zS => ((1024 : Int32).toInt - (t.1).toInt).toNat) (fun again10 t hI ih35_10 => ?_) N _ (show Tr [220, 227] σ0 σ8 ∧ (0 ≤ (0 : Int32).toInt) ∧ (ZB σ8.1) from ⟨hT, (by first | omega | decide | (simp only [Int32.le_iff_toInt_le, Int32.lt_iff_toInt_lt, ti_add, ti_sub, ti_mul, Int32.reduceToInt] at *; omega)), hB⟩) (show ((1024 : Int32).toInt - (0 : Int32).toInt).toNat < N from (by first | omega | decide | (simp only [Int32.le_iff_toInt_le, Int32.lt_iff_toInt_lt, ti_add, ti_sub, ti_mul, Int32.reduceToInt] at *; omega)))
        obtain ⟨x6_10, σ10⟩ := t
        have hI : Tr [220, 227] σ0 σ10 ∧ (0 ≤ x6_10.toInt) ∧ (ZB σ10.1) := hI
        obtain ⟨hT, hI10, hB⟩ := hI
        rw [F_X12_half_35.eq_1]
        refine ok_if (fun hc11 => ?_) (fun hc11 => ?_)
        · refine ok_gC rfl ?_
          refine ok_zbT (Q := fun V σ => ZB σ.1) hT (s_X12_lays hN (hR.tr hT) (by first | exact hM | (rw [hT.2 219 (by decide)]; exact hM)) (hB) (by first | omega | decide | (simp only [Int32.le_iff_toInt_le, Int32.lt_iff_toInt_lt, ti_add, ti_sub, ti_mul, Int32.reduceToInt] at *; omega))) (by decide) (fun v12 σ13 hOσ13 hT hqv12 => ?_)
          have hqv12 : ZB σ13.1 := hqv12
          have hB : ZB σ13.1 := by first | exact hqv12 | exact ZB_s eσ13 hB
          exact ok_some ⟨hT, (show ZB σ13.1 from by exact hB)⟩
        · refine ok_gR (v := 227) hT rfl (hR 218 17 rfl) ?_
          refine ok_gC rfl ?_
          have hTc := hT
          refine ok_zbT (Q := fun V σ => V = mny (σ10.1 219 0)) hT (s_X12_many hN (hR.tr hT) (by first | exact hM | (rw [hT.2 219 (by decide)]; exact hM))) (fun _ h9 => absurd h9 List.not_mem_nil) (fun v15 σ16 hOσ16 hT hqv15 => ?_)
          have hqv15 : v15 = mny (σ10.1 219 0) := hqv15
          rw [hTc.2 219 (by decide)] at hqv15
          obtain rfl : v15 = (mny (σ0.1 219 0)) := hqv15
          have hB : ZB σ16.1 := ZB.tr hOσ16 (by decide) hB
          refine ok_if (fun hc17 => ?_) (fun hc17 => ?_)
          · refine ok_s16 hT rfl (by decide) (by first | omega | decide | (simp only [Int32.le_iff_toInt_le, Int32.lt_iff_toInt_lt, ti_add, ti_sub, ti_mul, Int32.reduceToInt] at *; omega)) (by first | omega | decide | (simp only [Int32.le_iff_toInt_le, Int32.lt_iff_toInt_lt, ti_add, ti_sub, ti_mul, Int32.reduceToInt] at *; omega)) (fun σ18 eσ18 hOσ18 hT => ?_)
            have hB : ZB σ18.1 := by first | exact HQ | exact ZB_s eσ18 hB
            exact ih35_10 (x6_10 + 1, σ18) (show Tr [220, 227] σ0 σ18 ∧ (0 ≤ (x6_10 + 1).toInt) ∧ (ZB σ18.1) from ⟨hT, (by first | omega | decide | (simp only [Int32.le_iff_toInt_le, Int32.lt_iff_toInt_lt, ti_add, ti_sub, ti_mul, Int32.reduceToInt] at *; omega)), hB⟩) (show ((1024 : Int32).toInt - (x6_10 + 1).toInt).toNat < ((1024 : Int32).toInt - x6_10.toInt).toNat from (by first | omega | decide | (simp only [Int32.le_iff_toInt_le, Int32.lt_iff_toInt_lt, ti_add, ti_sub, ti_mul, Int32.reduceToInt] at *; omega)))
          · refine ok_if (fun hc19 => ?_) (fun hc19 => ?_)
            · have q9 := ti_one9 (x := x3) (by first | omega | (simp only [Int32.le_iff_toInt_le, Int32.lt_iff_toInt_lt, ti_add, ti_sub, ti_mul, Int32.reduceToInt] at *; omega)) (by first | omega | (simp only [Int32.le_iff_toInt_le, Int32.lt_iff_toInt_lt, ti_add, ti_sub, ti_mul, Int32.reduceToInt] at *; omega))
              have q8 := or10 (a := x6_10) (b := (1 : Int32) <<< (x3 &&& 31)) (by first | omega | (simp only [Int32.le_iff_toInt_le, Int32.lt_iff_toInt_lt, ti_add, ti_sub, ti_mul, Int32.reduceToInt] at *; omega)) (by first | omega | (simp only [Int32.le_iff_toInt_le, Int32.lt_iff_toInt_lt, ti_add, ti_sub, ti_mul, Int32.reduceToInt] at *; omega)) (by omega) (by omega)
              refine ok_if (fun hc20 => ?_) (fun hc20 => ?_)
              · rw [J_X12_half_83.eq_1]
                refine ok_gC rfl ?_
                refine ok_zbT (Q := fun V σ => V = 0 ∨ V = 1) hT (s_X12_of hN (hR.tr hT) (by first | exact hM | (rw [hT.2 219 (by decide)]; exact hM)) (hB) (by first | omega | decide | (simp only [Int32.le_iff_toInt_le, Int32.lt_iff_toInt_lt, ti_add, ti_sub, ti_mul, Int32.reduceToInt] at *; omega)) (by first | omega | decide | (simp only [Int32.le_iff_toInt_le, Int32.lt_iff_toInt_lt, ti_add, ti_sub, ti_mul, Int32.reduceToInt] at *; omega))) (fun _ h9 => absurd h9 List.not_mem_nil) (fun v21 σ22 hOσ22 hT hqv21 => ?_)
                have hqv21 : v21 = 0 ∨ v21 = 1 := hqv21
                have hB : ZB σ22.1 := ZB.tr hOσ22 (by decide) hB
                refine ok_if (fun hc23 => ?_) (fun hc23 => ?_)
                · refine ok_s16 hT rfl (by decide) (by first | omega | decide | (simp only [Int32.le_iff_toInt_le, Int32.lt_iff_toInt_lt, ti_add, ti_sub, ti_mul, Int32.reduceToInt] at *; omega)) (by first | omega | decide | (simp only [Int32.le_iff_toInt_le, Int32.lt_iff_toInt_lt, ti_add, ti_sub, ti_mul, Int32.reduceToInt] at *; omega)) (fun σ24 eσ24 hOσ24 hT => ?_)
                  have hB : ZB σ24.1 := by first | exact HQ | exact ZB_s eσ24 hB
                  exact ih35_10 (x6_10 + 1, σ24) (show Tr [220, 227] σ0 σ24 ∧ (0 ≤ (x6_10 + 1).toInt) ∧ (ZB σ24.1) from ⟨hT, (by first | omega | decide | (simp only [Int32.le_iff_toInt_le, Int32.lt_iff_toInt_lt, ti_add, ti_sub, ti_mul, Int32.reduceToInt] at *; omega)), hB⟩) (show ((1024 : Int32).toInt - (x6_10 + 1).toInt).toNat < ((1024 : Int32).toInt - x6_10.toInt).toNat from (by first | omega | decide | (simp only [Int32.le_iff_toInt_le, Int32.lt_iff_toInt_lt, ti_add, ti_sub, ti_mul, Int32.reduceToInt] at *; omega)))
                · refine ok_s16 hT rfl (by decide) (by first | omega | decide | (simp only [Int32.le_iff_toInt_le, Int32.lt_iff_toInt_lt, ti_add, ti_sub, ti_mul, Int32.reduceToInt] at *; omega)) (by first | omega | decide | (simp only [Int32.le_iff_toInt_le, Int32.lt_iff_toInt_lt, ti_add, ti_sub, ti_mul, Int32.reduceToInt] at *; omega)) (fun σ25 eσ25 hOσ25 hT => ?_)
                  have hB : ZB σ25.1 := by first | exact HQ | exact ZB_s eσ25 hB
                  exact ih35_10 (x6_10 + 1, σ25) (show Tr [220, 227] σ0 σ25 ∧ (0 ≤ (x6_10 + 1).toInt) ∧ (ZB σ25.1) from ⟨hT, (by first | omega | decide | (simp only [Int32.le_iff_toInt_le, Int32.lt_iff_toInt_lt, ti_add, ti_sub, ti_mul, Int32.reduceToInt] at *; omega)), hB⟩) (show ((1024 : Int32).toInt - (x6_10 + 1).toInt).toNat < ((1024 : Int32).toInt - x6_10.toInt).toNat from (by first | omega | decide | (simp only [Int32.le_iff_toInt_le, Int32.lt_iff_toInt_lt, ti_add, ti_sub, ti_mul, Int32.reduceToInt] at *; omega)))
              · rw [J_X12_half_83.eq_1]
                refine ok_gC rfl ?_
                refine ok_zbT (Q := fun V σ => V = 0 ∨ V = 1) hT (s_X12_of hN (hR.tr hT) (by first | exact hM | (rw [hT.2 219 (by decide)]; exact hM)) (hB) (by first | omega | decide | (simp only [Int32.le_iff_toInt_le, Int32.lt_iff_toInt_lt, ti_add, ti_sub, ti_mul, Int32.reduceToInt] at *; omega)) (by first | omega | decide | (simp only [Int32.le_iff_toInt_le, Int32.lt_iff_toInt_lt, ti_add, ti_sub, ti_mul, Int32.reduceToInt] at *; omega))) (fun _ h9 => absurd h9 List.not_mem_nil) (fun v26 σ27 hOσ27 hT hqv26 => ?_)
                have hqv26 : v26 = 0 ∨ v26 = 1 := hqv26
                have hB : ZB σ27.1 := ZB.tr hOσ27 (by decide) hB
                refine ok_if (fun hc28 => ?_) (fun hc28 => ?_)
                · refine ok_s16 hT rfl (by decide) (by first | omega | decide | (simp only [Int32.le_iff_toInt_le, Int32.lt_iff_toInt_lt, ti_add, ti_sub, ti_mul, Int32.reduceToInt] at *; omega)) (by first | omega | decide | (simp only [Int32.le_iff_toInt_le, Int32.lt_iff_toInt_lt, ti_add, ti_sub, ti_mul, Int32.reduceToInt] at *; omega)) (fun σ29 eσ29 hOσ29 hT => ?_)
                  have hB : ZB σ29.1 := by first | exact HQ | exact ZB_s eσ29 hB
                  exact ih35_10 (x6_10 + 1, σ29) (show Tr [220, 227] σ0 σ29 ∧ (0 ≤ (x6_10 + 1).toInt) ∧ (ZB σ29.1) from ⟨hT, (by first | omega | decide | (simp only [Int32.le_iff_toInt_le, Int32.lt_iff_toInt_lt, ti_add, ti_sub, ti_mul, Int32.reduceToInt] at *; omega)), hB⟩) (show ((1024 : Int32).toInt - (x6_10 + 1).toInt).toNat < ((1024 : Int32).toInt - x6_10.toInt).toNat from (by first | omega | decide | (simp only [Int32.le_iff_toInt_le, Int32.lt_iff_toInt_lt, ti_add, ti_sub, ti_mul, Int32.reduceToInt] at *; omega)))
                · refine ok_s16 hT rfl (by decide) (by first | omega | decide | (simp only [Int32.le_iff_toInt_le, Int32.lt_iff_toInt_lt, ti_add, ti_sub, ti_mul, Int32.reduceToInt] at *; omega)) (by first | omega | decide | (simp only [Int32.le_iff_toInt_le, Int32.lt_iff_toInt_lt, ti_add, ti_sub, ti_mul, Int32.reduceToInt] at *; omega)) (fun σ30 eσ30 hOσ30 hT => ?_)
                  have hB : ZB σ30.1 := by first | exact HQ | exact ZB_s eσ30 hB
                  exact ih35_10 (x6_10 + 1, σ30) (show Tr [220, 227] σ0 σ30 ∧ (0 ≤ (x6_10 + 1).toInt) ∧ (ZB σ30.1) from ⟨hT, (by first | omega | decide | (simp only [Int32.le_iff_toInt_le, Int32.lt_iff_toInt_lt, ti_add, ti_sub, ti_mul, Int32.reduceToInt] at *; omega)), hB⟩) (show ((1024 : Int32).toInt - (x6_10 + 1).toInt).toNat < ((1024 : Int32).toInt - x6_10.toInt).toNat from (by first | omega | decide | (simp only [Int32.le_iff_toInt_le, Int32.lt_iff_toInt_lt, ti_add, ti_sub, ti_mul, Int32.reduceToInt] at *; omega)))
            · refine ok_s16 hT rfl (by decide) (by first | omega | decide | (simp only [Int32.le_iff_toInt_le, Int32.lt_iff_toInt_lt, ti_add, ti_sub, ti_mul, Int32.reduceToInt] at *; omega)) (by first | omega | decide | (simp only [Int32.le_iff_toInt_le, Int32.lt_iff_toInt_lt, ti_add, ti_sub, ti_mul, Int32.reduceToInt] at *; omega)) (fun σ31 eσ31 hOσ31 hT => ?_)
              have hB : ZB σ31.1 := by first | exact HQ | exact ZB_s eσ31 hB
              exact ih35_10 (x6_10 + 1, σ31) (show Tr [220, 227] σ0 σ31 ∧ (0 ≤ (x6_10 + 1).toInt) ∧ (ZB σ31.1) from ⟨hT, (by first | omega | decide | (simp only [Int32.le_iff_toInt_le, Int32.lt_iff_toInt_lt, ti_add, ti_sub, ti_mul, Int32.reduceToInt] at *; omega)), hB⟩) (show ((1024 : Int32).toInt - (x6_10 + 1).toInt).toNat < ((1024 : Int32).toInt - x6_10.toInt).toNat from (by first | omega | decide | (simp only [Int32.le_iff_toInt_le, Int32.lt_iff_toInt_lt, ti_add, ti_sub, ti_mul, Int32.reduceToInt] at *; omega)))

set_option maxHeartbeats 4000000 in
set_option maxRecDepth 100000 in
theorem s_X12_level {N : Nat} (hN : 1048576 ≤ N) {x1 : Int32} {x2 : Int32} {x3 : Int32} {σ0 : zS}  (hR : RF σ0.2.2) (hM : MW (σ0.1 219) 0) (hB : ZB σ0.1) : Ok (f_X12_level N 218 x1 x2 x3 σ0) (fun r => Tr [220, 227] σ0 r.2 ∧ (ZB r.2.1)) := by
  have hT : Tr [220, 227] σ0 σ0 := Tr.rf
  have hn := hM.1
  have he : 0 ≤ (σ0.1 219 2).toInt ∧ (σ0.1 219 2).toInt ≤ 10 := hM.2.1
  have qm := mny_b hn.1 hn.2
  rw [f_X12_level.eq_1]
  refine ok_gC rfl ?_
  refine ok_zbT (Q := fun V σ => (V = 0 ∨ V = 1) ∧ (¬ V = 0 → 0 ≤ x1.toInt ∧ x1.toInt ≤ 9)) hT (s_X12_isRegister hN (hR.tr hT) (by first | exact hM | (rw [hT.2 219 (by decide)]; exact hM))) (fun _ h9 => absurd h9 List.not_mem_nil) (fun v1 σ2 hOσ2 hT hqv1 => ?_)
  have hqv1 : (v1 = 0 ∨ v1 = 1) ∧ (¬ v1 = 0 → 0 ≤ x1.toInt ∧ x1.toInt ≤ 9) := hqv1
  have hB : ZB σ2.1 := ZB.tr hOσ2 (by decide) hB
  refine ok_if (fun hc3 => ?_) (fun hc3 => ?_)
  · exact ok_some ⟨hT, (show ZB σ2.1 from by exact hB)⟩
  · have qhc3 := hqv1.2 hc3
    refine ok_gC rfl ?_
    refine ok_zbT (Q := fun V σ => (V = 0 ∨ V = 1) ∧ (¬ V = 0 → 0 ≤ x2.toInt ∧ x2.toInt ≤ 9)) hT (s_X12_isRegister hN (hR.tr hT) (by first | exact hM | (rw [hT.2 219 (by decide)]; exact hM))) (fun _ h9 => absurd h9 List.not_mem_nil) (fun v4 σ5 hOσ5 hT hqv4 => ?_)
    have hqv4 : (v4 = 0 ∨ v4 = 1) ∧ (¬ v4 = 0 → 0 ≤ x2.toInt ∧ x2.toInt ≤ 9) := hqv4
    have hB : ZB σ5.1 := ZB.tr hOσ5 (by decide) hB
    refine ok_if (fun hc6 => ?_) (fun hc6 => ?_)
    · exact ok_some ⟨hT, (show ZB σ5.1 from by exact hB)⟩
    · have qhc6 := hqv4.2 hc6
      refine ok_zbT (Q := fun V σ => (V = 0 ∨ V = 1) ∧ (¬ V = 0 → (0 : Int64).toInt ≤ (Int32.toInt64 x3).toInt ∧ (Int32.toInt64 x3).toInt ≤ (10 : Int64).toInt)) hT (s_X12_in hN (hR.tr hT) ) (fun _ h9 => absurd h9 List.not_mem_nil) (fun v7 σ8 hOσ8 hT hqv7 => ?_)
      have hqv7 : (v7 = 0 ∨ v7 = 1) ∧ (¬ v7 = 0 → (0 : Int64).toInt ≤ (Int32.toInt64 x3).toInt ∧ (Int32.toInt64 x3).toInt ≤ (10 : Int64).toInt) := hqv7
      simp only [i64_of, Int64.reduceToInt] at hqv7
      have hB : ZB σ8.1 := ZB.tr hOσ8 (by decide) hB
      refine ok_if (fun hc9 => ?_) (fun hc9 => ?_)
      · exact ok_some ⟨hT, (show ZB σ8.1 from by exact hB)⟩
      · have qhc9 := hqv7.2 hc9
        refine ok_lp (fun t : Int32 × zS => Tr [220, 227] σ0 (t.2) ∧ (0 ≤ (t.1).toInt) ∧ (ZB (t.2).1)) (fun t : Int32 × zS => ((1024 : Int32).toInt - (t.1).toInt).toNat) (fun again10 t hI ih34_10 => ?_) N _ (show Tr [220, 227] σ0 σ8 ∧ (0 ≤ (0 : Int32).toInt) ∧ (ZB σ8.1) from ⟨hT, (by first | omega | decide | (simp only [Int32.le_iff_toInt_le, Int32.lt_iff_toInt_lt, ti_add, ti_sub, ti_mul, Int32.reduceToInt] at *; omega)), hB⟩) (show ((1024 : Int32).toInt - (0 : Int32).toInt).toNat < N from (by first | omega | decide | (simp only [Int32.le_iff_toInt_le, Int32.lt_iff_toInt_lt, ti_add, ti_sub, ti_mul, Int32.reduceToInt] at *; omega)))
        obtain ⟨x4_10, σ10⟩ := t
        have hI : Tr [220, 227] σ0 σ10 ∧ (0 ≤ x4_10.toInt) ∧ (ZB σ10.1) := hI
        obtain ⟨hT, hI10, hB⟩ := hI
        rw [F_X12_level_34.eq_1]
        refine ok_if (fun hc11 => ?_) (fun hc11 => ?_)
        · refine ok_gC rfl ?_
          refine ok_zbT (Q := fun V σ => ZB σ.1) hT (s_X12_lays hN (hR.tr hT) (by first | exact hM | (rw [hT.2 219 (by decide)]; exact hM)) (hB) (by first | omega | decide | (simp only [Int32.le_iff_toInt_le, Int32.lt_iff_toInt_lt, ti_add, ti_sub, ti_mul, Int32.reduceToInt] at *; omega))) (by decide) (fun v12 σ13 hOσ13 hT hqv12 => ?_)
          have hqv12 : ZB σ13.1 := hqv12
          have hB : ZB σ13.1 := by first | exact hqv12 | exact ZB_s eσ13 hB
          exact ok_some ⟨hT, (show ZB σ13.1 from by exact hB)⟩
        · refine ok_gR (v := 227) hT rfl (hR 218 17 rfl) ?_
          refine ok_gC rfl ?_
          have hTc := hT
          refine ok_zbT (Q := fun V σ => V = mny (σ10.1 219 0)) hT (s_X12_many hN (hR.tr hT) (by first | exact hM | (rw [hT.2 219 (by decide)]; exact hM))) (fun _ h9 => absurd h9 List.not_mem_nil) (fun v15 σ16 hOσ16 hT hqv15 => ?_)
          have hqv15 : v15 = mny (σ10.1 219 0) := hqv15
          rw [hTc.2 219 (by decide)] at hqv15
          obtain rfl : v15 = (mny (σ0.1 219 0)) := hqv15
          have hB : ZB σ16.1 := ZB.tr hOσ16 (by decide) hB
          refine ok_if (fun hc17 => ?_) (fun hc17 => ?_)
          · refine ok_s16 hT rfl (by decide) (by first | omega | decide | (simp only [Int32.le_iff_toInt_le, Int32.lt_iff_toInt_lt, ti_add, ti_sub, ti_mul, Int32.reduceToInt] at *; omega)) (by first | omega | decide | (simp only [Int32.le_iff_toInt_le, Int32.lt_iff_toInt_lt, ti_add, ti_sub, ti_mul, Int32.reduceToInt] at *; omega)) (fun σ18 eσ18 hOσ18 hT => ?_)
            have hB : ZB σ18.1 := by first | exact HQ | exact ZB_s eσ18 hB
            exact ih34_10 (x4_10 + 1, σ18) (show Tr [220, 227] σ0 σ18 ∧ (0 ≤ (x4_10 + 1).toInt) ∧ (ZB σ18.1) from ⟨hT, (by first | omega | decide | (simp only [Int32.le_iff_toInt_le, Int32.lt_iff_toInt_lt, ti_add, ti_sub, ti_mul, Int32.reduceToInt] at *; omega)), hB⟩) (show ((1024 : Int32).toInt - (x4_10 + 1).toInt).toNat < ((1024 : Int32).toInt - x4_10.toInt).toNat from (by first | omega | decide | (simp only [Int32.le_iff_toInt_le, Int32.lt_iff_toInt_lt, ti_add, ti_sub, ti_mul, Int32.reduceToInt] at *; omega)))
          · refine ok_gC rfl ?_
            refine ok_zbT (Q := fun V σ => V = 0 ∨ V = 1) hT (s_X12_of hN (hR.tr hT) (by first | exact hM | (rw [hT.2 219 (by decide)]; exact hM)) (hB) (by first | omega | decide | (simp only [Int32.le_iff_toInt_le, Int32.lt_iff_toInt_lt, ti_add, ti_sub, ti_mul, Int32.reduceToInt] at *; omega)) (by first | omega | decide | (simp only [Int32.le_iff_toInt_le, Int32.lt_iff_toInt_lt, ti_add, ti_sub, ti_mul, Int32.reduceToInt] at *; omega))) (fun _ h9 => absurd h9 List.not_mem_nil) (fun v19 σ20 hOσ20 hT hqv19 => ?_)
            have hqv19 : v19 = 0 ∨ v19 = 1 := hqv19
            have hB : ZB σ20.1 := ZB.tr hOσ20 (by decide) hB
            refine ok_if (fun hc21 => ?_) (fun hc21 => ?_)
            · refine ok_s16 hT rfl (by decide) (by first | omega | decide | (simp only [Int32.le_iff_toInt_le, Int32.lt_iff_toInt_lt, ti_add, ti_sub, ti_mul, Int32.reduceToInt] at *; omega)) (by first | omega | decide | (simp only [Int32.le_iff_toInt_le, Int32.lt_iff_toInt_lt, ti_add, ti_sub, ti_mul, Int32.reduceToInt] at *; omega)) (fun σ22 eσ22 hOσ22 hT => ?_)
              have hB : ZB σ22.1 := by first | exact HQ | exact ZB_s eσ22 hB
              exact ih34_10 (x4_10 + 1, σ22) (show Tr [220, 227] σ0 σ22 ∧ (0 ≤ (x4_10 + 1).toInt) ∧ (ZB σ22.1) from ⟨hT, (by first | omega | decide | (simp only [Int32.le_iff_toInt_le, Int32.lt_iff_toInt_lt, ti_add, ti_sub, ti_mul, Int32.reduceToInt] at *; omega)), hB⟩) (show ((1024 : Int32).toInt - (x4_10 + 1).toInt).toNat < ((1024 : Int32).toInt - x4_10.toInt).toNat from (by first | omega | decide | (simp only [Int32.le_iff_toInt_le, Int32.lt_iff_toInt_lt, ti_add, ti_sub, ti_mul, Int32.reduceToInt] at *; omega)))
            · refine ok_zbT (Q := fun V σ => True) hT (s_X12_namesOf hN (hR.tr hT) ) (fun _ h9 => absurd h9 List.not_mem_nil) (fun v23 σ24 hOσ24 hT hqv23 => ?_)
              have hB : ZB σ24.1 := ZB.tr hOσ24 (by decide) hB
              refine ok_if (fun hc25 => ?_) (fun hc25 => ?_)
              · refine ok_s16 hT rfl (by decide) (by first | omega | decide | (simp only [Int32.le_iff_toInt_le, Int32.lt_iff_toInt_lt, ti_add, ti_sub, ti_mul, Int32.reduceToInt] at *; omega)) (by first | omega | decide | (simp only [Int32.le_iff_toInt_le, Int32.lt_iff_toInt_lt, ti_add, ti_sub, ti_mul, Int32.reduceToInt] at *; omega)) (fun σ26 eσ26 hOσ26 hT => ?_)
                have hB : ZB σ26.1 := by first | exact HQ | exact ZB_s eσ26 hB
                exact ih34_10 (x4_10 + 1, σ26) (show Tr [220, 227] σ0 σ26 ∧ (0 ≤ (x4_10 + 1).toInt) ∧ (ZB σ26.1) from ⟨hT, (by first | omega | decide | (simp only [Int32.le_iff_toInt_le, Int32.lt_iff_toInt_lt, ti_add, ti_sub, ti_mul, Int32.reduceToInt] at *; omega)), hB⟩) (show ((1024 : Int32).toInt - (x4_10 + 1).toInt).toNat < ((1024 : Int32).toInt - x4_10.toInt).toNat from (by first | omega | decide | (simp only [Int32.le_iff_toInt_le, Int32.lt_iff_toInt_lt, ti_add, ti_sub, ti_mul, Int32.reduceToInt] at *; omega)))
              · refine ok_s16 hT rfl (by decide) (by first | omega | decide | (simp only [Int32.le_iff_toInt_le, Int32.lt_iff_toInt_lt, ti_add, ti_sub, ti_mul, Int32.reduceToInt] at *; omega)) (by first | omega | decide | (simp only [Int32.le_iff_toInt_le, Int32.lt_iff_toInt_lt, ti_add, ti_sub, ti_mul, Int32.reduceToInt] at *; omega)) (fun σ27 eσ27 hOσ27 hT => ?_)
                have hB : ZB σ27.1 := by first | exact HQ | exact ZB_s eσ27 hB
                exact ih34_10 (x4_10 + 1, σ27) (show Tr [220, 227] σ0 σ27 ∧ (0 ≤ (x4_10 + 1).toInt) ∧ (ZB σ27.1) from ⟨hT, (by first | omega | decide | (simp only [Int32.le_iff_toInt_le, Int32.lt_iff_toInt_lt, ti_add, ti_sub, ti_mul, Int32.reduceToInt] at *; omega)), hB⟩) (show ((1024 : Int32).toInt - (x4_10 + 1).toInt).toNat < ((1024 : Int32).toInt - x4_10.toInt).toNat from (by first | omega | decide | (simp only [Int32.le_iff_toInt_le, Int32.lt_iff_toInt_lt, ti_add, ti_sub, ti_mul, Int32.reduceToInt] at *; omega)))

set_option maxHeartbeats 4000000 in
set_option maxRecDepth 100000 in
theorem s_X12_weightOf {N : Nat} (hN : 1048576 ≤ N) {x1 : Int32} {σ0 : zS}  (hR : RF σ0.2.2) (hM : MW (σ0.1 219) 0) : Ok (f_X12_weightOf N 218 x1 σ0) (fun r => Tr [] σ0 r.2 ∧ (True)) := by
  have hT : Tr [] σ0 σ0 := Tr.rf
  have hn := hM.1
  have he : 0 ≤ (σ0.1 219 2).toInt ∧ (σ0.1 219 2).toInt ≤ 10 := hM.2.1
  have qm := mny_b hn.1 hn.2
  rw [f_X12_weightOf.eq_1]
  refine ok_lp (fun t : Int32 × Int32 × zS => Tr [] σ0 (t.2.2) ∧ (0 ≤ (t.2.1).toInt)) (fun t : Int32 × Int32 × zS => ((10 : Int32).toInt - (t.2.1).toInt).toNat) (fun again1 t hI ih4_1 => ?_) N _ (show Tr [] σ0 σ0 ∧ (0 ≤ (0 : Int32).toInt) from ⟨hT, (by first | omega | decide | (simp only [Int32.le_iff_toInt_le, Int32.lt_iff_toInt_lt, ti_add, ti_sub, ti_mul, Int32.reduceToInt] at *; omega))⟩) (show ((10 : Int32).toInt - (0 : Int32).toInt).toNat < N from (by first | omega | decide | (simp only [Int32.le_iff_toInt_le, Int32.lt_iff_toInt_lt, ti_add, ti_sub, ti_mul, Int32.reduceToInt] at *; omega)))
  obtain ⟨x2_1, x3_1, σ1⟩ := t
  have hI : Tr [] σ0 σ1 ∧ (0 ≤ x3_1.toInt) := hI
  obtain ⟨hT, hI1⟩ := hI
  rw [F_X12_weightOf_4.eq_1]
  refine ok_if (fun hc2 => ?_) (fun hc2 => ?_)
  · exact ok_some ⟨hT, trivial⟩
  · refine ok_gR (v := 219) hT rfl (hR 218 1 rfl) ?_
    refine ok_aIn rfl (by first | omega | decide | (simp only [Int32.le_iff_toInt_le, Int32.lt_iff_toInt_lt, ti_add, ti_sub, ti_mul, Int32.reduceToInt] at *; omega)) (by first | omega | decide | (simp only [Int32.le_iff_toInt_le, Int32.lt_iff_toInt_lt, ti_add, ti_sub, ti_mul, Int32.reduceToInt] at *; omega)) (fun v4 ev4 => ?_)
    exact ih4_1 (x2_1 + ((((x1 : Int32) >>> (x3_1 &&& 31)) &&& 1) * v4), x3_1 + 1, σ1) (show Tr [] σ0 σ1 ∧ (0 ≤ (x3_1 + 1).toInt) from ⟨hT, (by first | omega | decide | (simp only [Int32.le_iff_toInt_le, Int32.lt_iff_toInt_lt, ti_add, ti_sub, ti_mul, Int32.reduceToInt] at *; omega))⟩) (show ((10 : Int32).toInt - (x3_1 + 1).toInt).toNat < ((10 : Int32).toInt - x3_1.toInt).toNat from (by first | omega | decide | (simp only [Int32.le_iff_toInt_le, Int32.lt_iff_toInt_lt, ti_add, ti_sub, ti_mul, Int32.reduceToInt] at *; omega)))

set_option maxHeartbeats 4000000 in
set_option maxRecDepth 100000 in
theorem s_X12_weight {N : Nat} (hN : 1048576 ≤ N) {x1 : Int32} {σ0 : zS}  (hR : RF σ0.2.2) (hM : MW (σ0.1 219) 0) : Ok (f_X12_weight N 218 x1 σ0) (fun r => Tr [] σ0 r.2 ∧ (True)) := by
  have hT : Tr [] σ0 σ0 := Tr.rf
  have hn := hM.1
  have he : 0 ≤ (σ0.1 219 2).toInt ∧ (σ0.1 219 2).toInt ≤ 10 := hM.2.1
  have qm := mny_b hn.1 hn.2
  rw [f_X12_weight.eq_1]
  refine ok_gC rfl ?_
  refine ok_zbT (Q := fun V σ => (V = 0 ∨ V = 1) ∧ (¬ V = 0 → 0 ≤ x1.toInt ∧ x1.toInt < (mny (σ0.1 219 0)).toInt)) hT (s_X12_isSet hN (hR.tr hT) (by first | exact hM | (rw [hT.2 219 (by decide)]; exact hM))) (fun _ h9 => absurd h9 List.not_mem_nil) (fun v1 σ2 hOσ2 hT hqv1 => ?_)
  have hqv1 : (v1 = 0 ∨ v1 = 1) ∧ (¬ v1 = 0 → 0 ≤ x1.toInt ∧ x1.toInt < (mny (σ0.1 219 0)).toInt) := hqv1
  refine ok_if (fun hc3 => ?_) (fun hc3 => ?_)
  · exact ok_some ⟨hT, trivial⟩
  · have qhc3 := hqv1.2 hc3
    refine ok_gC rfl ?_
    refine ok_zbT (Q := fun V σ => True) hT (s_X12_weightOf hN (hR.tr hT) (by first | exact hM | (rw [hT.2 219 (by decide)]; exact hM))) (fun _ h9 => absurd h9 List.not_mem_nil) (fun v4 σ5 hOσ5 hT hqv4 => ?_)
    exact ok_some ⟨hT, trivial⟩

set_option maxHeartbeats 4000000 in
set_option maxRecDepth 100000 in
theorem s_X12_light {N : Nat} (hN : 1048576 ≤ N) {x1 : Int32} {x2 : Int32} {σ0 : zS}  (hR : RF σ0.2.2) (hM : MW (σ0.1 219) 0) (hB : ZB σ0.1) : Ok (f_X12_light N 218 x1 x2 σ0) (fun r => Tr [] σ0 r.2 ∧ (True)) := by
  have hT : Tr [] σ0 σ0 := Tr.rf
  have hn := hM.1
  have he : 0 ≤ (σ0.1 219 2).toInt ∧ (σ0.1 219 2).toInt ≤ 10 := hM.2.1
  have qm := mny_b hn.1 hn.2
  rw [f_X12_light.eq_1]
  refine ok_gC rfl ?_
  refine ok_zbT (Q := fun V σ => (V = 0 ∨ V = 1) ∧ (¬ V = 0 → 0 ≤ x1.toInt ∧ x1.toInt ≤ 9)) hT (s_X12_isRegister hN (hR.tr hT) (by first | exact hM | (rw [hT.2 219 (by decide)]; exact hM))) (fun _ h9 => absurd h9 List.not_mem_nil) (fun v1 σ2 hOσ2 hT hqv1 => ?_)
  have hqv1 : (v1 = 0 ∨ v1 = 1) ∧ (¬ v1 = 0 → 0 ≤ x1.toInt ∧ x1.toInt ≤ 9) := hqv1
  have hB : ZB σ2.1 := ZB.tr hOσ2 (by decide) hB
  refine ok_if (fun hc3 => ?_) (fun hc3 => ?_)
  · exact ok_some ⟨hT, trivial⟩
  · have qhc3 := hqv1.2 hc3
    refine ok_lp (fun t : Int32 × Int32 × zS => Tr [] σ0 (t.2.2) ∧ (0 ≤ (t.2.1).toInt) ∧ (ZB (t.2.2).1)) (fun t : Int32 × Int32 × zS => (991 - (t.2.1).toInt).toNat) (fun again4 t hI ih16_4 => ?_) N _ (show Tr [] σ0 σ2 ∧ (0 ≤ (0 : Int32).toInt) ∧ (ZB σ2.1) from ⟨hT, (by first | omega | decide | (simp only [Int32.le_iff_toInt_le, Int32.lt_iff_toInt_lt, ti_add, ti_sub, ti_mul, Int32.reduceToInt] at *; omega)), hB⟩) (show (991 - (0 : Int32).toInt).toNat < N from (by first | omega | decide | (simp only [Int32.le_iff_toInt_le, Int32.lt_iff_toInt_lt, ti_add, ti_sub, ti_mul, Int32.reduceToInt] at *; omega)))
    obtain ⟨x3_4, x4_4, σ4⟩ := t
    have hI : Tr [] σ0 σ4 ∧ (0 ≤ x4_4.toInt) ∧ (ZB σ4.1) := hI
    obtain ⟨hT, hI4, hB⟩ := hI
    rw [F_X12_light_16.eq_1]
    refine ok_if (fun hc5 => ?_) (fun hc5 => ?_)
    · exact ok_some ⟨hT, trivial⟩
    · refine ok_lp (fun t : Int32 × Int32 × zS => Tr [] σ0 (t.2.2) ∧ (0 ≤ (t.2.1).toInt) ∧ (ZB (t.2.2).1)) (fun t : Int32 × Int32 × zS => (1024 - (t.2.1).toInt).toNat) (fun again6 t hI ih27_6 => ?_) N _ (show Tr [] σ0 σ4 ∧ (0 ≤ (0 : Int32).toInt) ∧ (ZB σ4.1) from ⟨hT, (by first | omega | decide | (simp only [Int32.le_iff_toInt_le, Int32.lt_iff_toInt_lt, ti_add, ti_sub, ti_mul, Int32.reduceToInt] at *; omega)), hB⟩) (show (1024 - (0 : Int32).toInt).toNat < N from (by first | omega | decide | (simp only [Int32.le_iff_toInt_le, Int32.lt_iff_toInt_lt, ti_add, ti_sub, ti_mul, Int32.reduceToInt] at *; omega)))
      obtain ⟨x3_6, x5_6, σ6⟩ := t
      have hI : Tr [] σ0 σ6 ∧ (0 ≤ x5_6.toInt) ∧ (ZB σ6.1) := hI
      obtain ⟨hT, hI6, hB⟩ := hI
      rw [F_X12_light_27.eq_1]
      refine ok_gC rfl ?_
      have hTc := hT
      refine ok_zbT (Q := fun V σ => V = mny (σ6.1 219 0)) hT (s_X12_many hN (hR.tr hT) (by first | exact hM | (rw [hT.2 219 (by decide)]; exact hM))) (fun _ h9 => absurd h9 List.not_mem_nil) (fun v7 σ8 hOσ8 hT hqv7 => ?_)
      have hqv7 : v7 = mny (σ6.1 219 0) := hqv7
      rw [hTc.2 219 (by decide)] at hqv7
      obtain rfl : v7 = (mny (σ0.1 219 0)) := hqv7
      have hB : ZB σ8.1 := ZB.tr hOσ8 (by decide) hB
      refine ok_if (fun hc9 => ?_) (fun hc9 => ?_)
      · exact ih16_4 (x3_6, x4_4 + 1, σ8) (show Tr [] σ0 σ8 ∧ (0 ≤ (x4_4 + 1).toInt) ∧ (ZB σ8.1) from ⟨hT, (by first | omega | decide | (simp only [Int32.le_iff_toInt_le, Int32.lt_iff_toInt_lt, ti_add, ti_sub, ti_mul, Int32.reduceToInt] at *; omega)), hB⟩) (show (991 - (x4_4 + 1).toInt).toNat < (991 - x4_4.toInt).toNat from (by first | omega | decide | (simp only [Int32.le_iff_toInt_le, Int32.lt_iff_toInt_lt, ti_add, ti_sub, ti_mul, Int32.reduceToInt] at *; omega)))
      · refine ok_gC rfl ?_
        refine ok_zbT (Q := fun V σ => V = 0 ∨ V = 1) hT (s_X12_of hN (hR.tr hT) (by first | exact hM | (rw [hT.2 219 (by decide)]; exact hM)) (hB) (by first | omega | decide | (simp only [Int32.le_iff_toInt_le, Int32.lt_iff_toInt_lt, ti_add, ti_sub, ti_mul, Int32.reduceToInt] at *; omega)) (by first | omega | decide | (simp only [Int32.le_iff_toInt_le, Int32.lt_iff_toInt_lt, ti_add, ti_sub, ti_mul, Int32.reduceToInt] at *; omega))) (fun _ h9 => absurd h9 List.not_mem_nil) (fun v10 σ11 hOσ11 hT hqv10 => ?_)
        have hqv10 : v10 = 0 ∨ v10 = 1 := hqv10
        have hB : ZB σ11.1 := ZB.tr hOσ11 (by decide) hB
        refine ok_if (fun hc12 => ?_) (fun hc12 => ?_)
        · exact ih27_6 (x3_6, x5_6 + 1, σ11) (show Tr [] σ0 σ11 ∧ (0 ≤ (x5_6 + 1).toInt) ∧ (ZB σ11.1) from ⟨hT, (by first | omega | decide | (simp only [Int32.le_iff_toInt_le, Int32.lt_iff_toInt_lt, ti_add, ti_sub, ti_mul, Int32.reduceToInt] at *; omega)), hB⟩) (show (1024 - (x5_6 + 1).toInt).toNat < (1024 - x5_6.toInt).toNat from (by first | omega | decide | (simp only [Int32.le_iff_toInt_le, Int32.lt_iff_toInt_lt, ti_add, ti_sub, ti_mul, Int32.reduceToInt] at *; omega)))
        · refine ok_gC rfl ?_
          refine ok_zbT (Q := fun V σ => True) hT (s_X12_weightOf hN (hR.tr hT) (by first | exact hM | (rw [hT.2 219 (by decide)]; exact hM))) (fun _ h9 => absurd h9 List.not_mem_nil) (fun v13 σ14 hOσ14 hT hqv13 => ?_)
          have hB : ZB σ14.1 := ZB.tr hOσ14 (by decide) hB
          refine ok_if (fun hc15 => ?_) (fun hc15 => ?_)
          · refine ok_if (fun hc16 => ?_) (fun hc16 => ?_)
            · exact ok_some ⟨hT, trivial⟩
            · exact ih27_6 (x3_6 + 1, x5_6 + 1, σ14) (show Tr [] σ0 σ14 ∧ (0 ≤ (x5_6 + 1).toInt) ∧ (ZB σ14.1) from ⟨hT, (by first | omega | decide | (simp only [Int32.le_iff_toInt_le, Int32.lt_iff_toInt_lt, ti_add, ti_sub, ti_mul, Int32.reduceToInt] at *; omega)), hB⟩) (show (1024 - (x5_6 + 1).toInt).toNat < (1024 - x5_6.toInt).toNat from (by first | omega | decide | (simp only [Int32.le_iff_toInt_le, Int32.lt_iff_toInt_lt, ti_add, ti_sub, ti_mul, Int32.reduceToInt] at *; omega)))
          · exact ih27_6 (x3_6, x5_6 + 1, σ14) (show Tr [] σ0 σ14 ∧ (0 ≤ (x5_6 + 1).toInt) ∧ (ZB σ14.1) from ⟨hT, (by first | omega | decide | (simp only [Int32.le_iff_toInt_le, Int32.lt_iff_toInt_lt, ti_add, ti_sub, ti_mul, Int32.reduceToInt] at *; omega)), hB⟩) (show (1024 - (x5_6 + 1).toInt).toNat < (1024 - x5_6.toInt).toNat from (by first | omega | decide | (simp only [Int32.le_iff_toInt_le, Int32.lt_iff_toInt_lt, ti_add, ti_sub, ti_mul, Int32.reduceToInt] at *; omega)))

set_option maxHeartbeats 4000000 in
set_option maxRecDepth 100000 in
theorem s_X12_weighs {N : Nat} (hN : 1048576 ≤ N) {x1 : Int32} {x2 : Int32} {σ0 : zS}  (hR : RF σ0.2.2) (hM : MW (σ0.1 219) 0) (hB : ZB σ0.1) : Ok (f_X12_weighs N 218 x1 x2 σ0) (fun r => Tr [] σ0 r.2 ∧ (True)) := by
  have hT : Tr [] σ0 σ0 := Tr.rf
  have hn := hM.1
  have he : 0 ≤ (σ0.1 219 2).toInt ∧ (σ0.1 219 2).toInt ≤ 10 := hM.2.1
  have qm := mny_b hn.1 hn.2
  rw [f_X12_weighs.eq_1]
  refine ok_gC rfl ?_
  refine ok_zbT (Q := fun V σ => (V = 0 ∨ V = 1) ∧ (¬ V = 0 → 0 ≤ x1.toInt ∧ x1.toInt ≤ 9)) hT (s_X12_isRegister hN (hR.tr hT) (by first | exact hM | (rw [hT.2 219 (by decide)]; exact hM))) (fun _ h9 => absurd h9 List.not_mem_nil) (fun v1 σ2 hOσ2 hT hqv1 => ?_)
  have hqv1 : (v1 = 0 ∨ v1 = 1) ∧ (¬ v1 = 0 → 0 ≤ x1.toInt ∧ x1.toInt ≤ 9) := hqv1
  have hB : ZB σ2.1 := ZB.tr hOσ2 (by decide) hB
  refine ok_if (fun hc3 => ?_) (fun hc3 => ?_)
  · exact ok_some ⟨hT, trivial⟩
  · have qhc3 := hqv1.2 hc3
    refine ok_zbT (Q := fun V σ => (V = 0 ∨ V = 1) ∧ (¬ V = 0 → (0 : Int64).toInt ≤ (Int32.toInt64 x2).toInt ∧ (Int32.toInt64 x2).toInt ≤ (2 : Int64).toInt)) hT (s_X12_in hN (hR.tr hT) ) (fun _ h9 => absurd h9 List.not_mem_nil) (fun v4 σ5 hOσ5 hT hqv4 => ?_)
    have hqv4 : (v4 = 0 ∨ v4 = 1) ∧ (¬ v4 = 0 → (0 : Int64).toInt ≤ (Int32.toInt64 x2).toInt ∧ (Int32.toInt64 x2).toInt ≤ (2 : Int64).toInt) := hqv4
    simp only [i64_of, Int64.reduceToInt] at hqv4
    have hB : ZB σ5.1 := ZB.tr hOσ5 (by decide) hB
    refine ok_if (fun hc6 => ?_) (fun hc6 => ?_)
    · exact ok_some ⟨hT, trivial⟩
    · have qhc6 := hqv4.2 hc6
      refine ok_lp (fun t : Int32 × Int32 × Int32 × Int32 × zS => Tr [] σ0 (t.2.2.2.2) ∧ (0 ≤ (t.2.2.2.1).toInt) ∧ (ZB (t.2.2.2.2).1)) (fun t : Int32 × Int32 × Int32 × Int32 × zS => (((mny (σ0.1 219 0))).toInt - (t.2.2.2.1).toInt).toNat) (fun again7 t hI ih34_7 => ?_) N _ (show Tr [] σ0 σ5 ∧ (0 ≤ (0 : Int32).toInt) ∧ (ZB σ5.1) from ⟨hT, (by first | omega | decide | (simp only [Int32.le_iff_toInt_le, Int32.lt_iff_toInt_lt, ti_add, ti_sub, ti_mul, Int32.reduceToInt] at *; omega)), hB⟩) (show (((mny (σ0.1 219 0))).toInt - (0 : Int32).toInt).toNat < N from (by first | omega | decide | (simp only [Int32.le_iff_toInt_le, Int32.lt_iff_toInt_lt, ti_add, ti_sub, ti_mul, Int32.reduceToInt] at *; omega)))
      obtain ⟨x3_7, x4_7, x5_7, x6_7, σ7⟩ := t
      have hI : Tr [] σ0 σ7 ∧ (0 ≤ x6_7.toInt) ∧ (ZB σ7.1) := hI
      obtain ⟨hT, hI7, hB⟩ := hI
      rw [F_X12_weighs_34.eq_1]
      refine ok_gC rfl ?_
      have hTc := hT
      refine ok_zbT (Q := fun V σ => V = mny (σ7.1 219 0)) hT (s_X12_many hN (hR.tr hT) (by first | exact hM | (rw [hT.2 219 (by decide)]; exact hM))) (fun _ h9 => absurd h9 List.not_mem_nil) (fun v8 σ9 hOσ9 hT hqv8 => ?_)
      have hqv8 : v8 = mny (σ7.1 219 0) := hqv8
      rw [hTc.2 219 (by decide)] at hqv8
      obtain rfl : v8 = (mny (σ0.1 219 0)) := hqv8
      have hB : ZB σ9.1 := ZB.tr hOσ9 (by decide) hB
      refine ok_if (fun hc10 => ?_) (fun hc10 => ?_)
      · refine ok_if (fun hc11 => ?_) (fun hc11 => ?_)
        · exact ok_some ⟨hT, trivial⟩
        · refine ok_if (fun hc12 => ?_) (fun hc12 => ?_)
          · exact ok_some ⟨hT, trivial⟩
          · exact ok_some ⟨hT, trivial⟩
      · refine ok_gC rfl ?_
        refine ok_zbT (Q := fun V σ => V = 0 ∨ V = 1) hT (s_X12_of hN (hR.tr hT) (by first | exact hM | (rw [hT.2 219 (by decide)]; exact hM)) (hB) (by first | omega | decide | (simp only [Int32.le_iff_toInt_le, Int32.lt_iff_toInt_lt, ti_add, ti_sub, ti_mul, Int32.reduceToInt] at *; omega)) (by first | omega | decide | (simp only [Int32.le_iff_toInt_le, Int32.lt_iff_toInt_lt, ti_add, ti_sub, ti_mul, Int32.reduceToInt] at *; omega))) (fun _ h9 => absurd h9 List.not_mem_nil) (fun v13 σ14 hOσ14 hT hqv13 => ?_)
        have hqv13 : v13 = 0 ∨ v13 = 1 := hqv13
        have hB : ZB σ14.1 := ZB.tr hOσ14 (by decide) hB
        refine ok_if (fun hc15 => ?_) (fun hc15 => ?_)
        · exact ih34_7 (x3_7, x4_7, x5_7, x6_7 + 1, σ14) (show Tr [] σ0 σ14 ∧ (0 ≤ (x6_7 + 1).toInt) ∧ (ZB σ14.1) from ⟨hT, (by first | omega | decide | (simp only [Int32.le_iff_toInt_le, Int32.lt_iff_toInt_lt, ti_add, ti_sub, ti_mul, Int32.reduceToInt] at *; omega)), hB⟩) (show (((mny (σ0.1 219 0))).toInt - (x6_7 + 1).toInt).toNat < (((mny (σ0.1 219 0))).toInt - x6_7.toInt).toNat from (by first | omega | decide | (simp only [Int32.le_iff_toInt_le, Int32.lt_iff_toInt_lt, ti_add, ti_sub, ti_mul, Int32.reduceToInt] at *; omega)))
        · refine ok_gC rfl ?_
          refine ok_zbT (Q := fun V σ => True) hT (s_X12_weightOf hN (hR.tr hT) (by first | exact hM | (rw [hT.2 219 (by decide)]; exact hM))) (fun _ h9 => absurd h9 List.not_mem_nil) (fun v16 σ17 hOσ17 hT hqv16 => ?_)
          have hB : ZB σ17.1 := ZB.tr hOσ17 (by decide) hB
          refine ok_if (fun hc18 => ?_) (fun hc18 => ?_)
          · exact ih34_7 (v16, zmax x4_7 v16, x5_7 + v16, x6_7 + 1, σ17) (show Tr [] σ0 σ17 ∧ (0 ≤ (x6_7 + 1).toInt) ∧ (ZB σ17.1) from ⟨hT, (by first | omega | decide | (simp only [Int32.le_iff_toInt_le, Int32.lt_iff_toInt_lt, ti_add, ti_sub, ti_mul, Int32.reduceToInt] at *; omega)), hB⟩) (show (((mny (σ0.1 219 0))).toInt - (x6_7 + 1).toInt).toNat < (((mny (σ0.1 219 0))).toInt - x6_7.toInt).toNat from (by first | omega | decide | (simp only [Int32.le_iff_toInt_le, Int32.lt_iff_toInt_lt, ti_add, ti_sub, ti_mul, Int32.reduceToInt] at *; omega)))
          · exact ih34_7 (zmin x3_7 v16, zmax x4_7 v16, x5_7 + v16, x6_7 + 1, σ17) (show Tr [] σ0 σ17 ∧ (0 ≤ (x6_7 + 1).toInt) ∧ (ZB σ17.1) from ⟨hT, (by first | omega | decide | (simp only [Int32.le_iff_toInt_le, Int32.lt_iff_toInt_lt, ti_add, ti_sub, ti_mul, Int32.reduceToInt] at *; omega)), hB⟩) (show (((mny (σ0.1 219 0))).toInt - (x6_7 + 1).toInt).toNat < (((mny (σ0.1 219 0))).toInt - x6_7.toInt).toNat from (by first | omega | decide | (simp only [Int32.le_iff_toInt_le, Int32.lt_iff_toInt_lt, ti_add, ti_sub, ti_mul, Int32.reduceToInt] at *; omega)))

set_option maxHeartbeats 4000000 in
set_option maxRecDepth 100000 in
theorem s_X12_each {N : Nat} (hN : 1048576 ≤ N) {x1 : Int32} {x2 : Int32} {σ0 : zS}  (hR : RF σ0.2.2) (hM : MW (σ0.1 219) 0) (hB : ZB σ0.1) : Ok (f_X12_each N 218 x1 x2 σ0) (fun r => Tr [] σ0 r.2 ∧ (True)) := by
  have hT : Tr [] σ0 σ0 := Tr.rf
  have hn := hM.1
  have he : 0 ≤ (σ0.1 219 2).toInt ∧ (σ0.1 219 2).toInt ≤ 10 := hM.2.1
  have qm := mny_b hn.1 hn.2
  rw [f_X12_each.eq_1]
  refine ok_gC rfl ?_
  refine ok_zbT (Q := fun V σ => (V = 0 ∨ V = 1) ∧ (¬ V = 0 → 0 ≤ x1.toInt ∧ x1.toInt ≤ 9)) hT (s_X12_isRegister hN (hR.tr hT) (by first | exact hM | (rw [hT.2 219 (by decide)]; exact hM))) (fun _ h9 => absurd h9 List.not_mem_nil) (fun v1 σ2 hOσ2 hT hqv1 => ?_)
  have hqv1 : (v1 = 0 ∨ v1 = 1) ∧ (¬ v1 = 0 → 0 ≤ x1.toInt ∧ x1.toInt ≤ 9) := hqv1
  have hB : ZB σ2.1 := ZB.tr hOσ2 (by decide) hB
  refine ok_if (fun hc3 => ?_) (fun hc3 => ?_)
  · exact ok_some ⟨hT, trivial⟩
  · have qhc3 := hqv1.2 hc3
    refine ok_gC rfl ?_
    have hTc := hT
    refine ok_zbT (Q := fun V σ => (V = 0 ∨ V = 1) ∧ (¬ V = 0 → 0 ≤ x2.toInt ∧ x2.toInt < (σ2.1 219 0).toInt)) hT (s_X12_isName hN (hR.tr hT) (by first | exact hM | (rw [hT.2 219 (by decide)]; exact hM))) (fun _ h9 => absurd h9 List.not_mem_nil) (fun v4 σ5 hOσ5 hT hqv4 => ?_)
    have hqv4 : (v4 = 0 ∨ v4 = 1) ∧ (¬ v4 = 0 → 0 ≤ x2.toInt ∧ x2.toInt < (σ2.1 219 0).toInt) := hqv4
    rw [hTc.2 219 (by decide)] at hqv4
    have hB : ZB σ5.1 := ZB.tr hOσ5 (by decide) hB
    refine ok_if (fun hc6 => ?_) (fun hc6 => ?_)
    · exact ok_some ⟨hT, trivial⟩
    · have qhc6 := hqv4.2 hc6
      refine ok_lp (fun t : Int32 × Int32 × zS => Tr [] σ0 (t.2.2) ∧ (0 ≤ (t.2.1).toInt) ∧ (ZB (t.2.2).1)) (fun t : Int32 × Int32 × zS => (((mny (σ0.1 219 0))).toInt - (t.2.1).toInt).toNat) (fun again7 t hI ih24_7 => ?_) N _ (show Tr [] σ0 σ5 ∧ (0 ≤ (0 : Int32).toInt) ∧ (ZB σ5.1) from ⟨hT, (by first | omega | decide | (simp only [Int32.le_iff_toInt_le, Int32.lt_iff_toInt_lt, ti_add, ti_sub, ti_mul, Int32.reduceToInt] at *; omega)), hB⟩) (show (((mny (σ0.1 219 0))).toInt - (0 : Int32).toInt).toNat < N from (by first | omega | decide | (simp only [Int32.le_iff_toInt_le, Int32.lt_iff_toInt_lt, ti_add, ti_sub, ti_mul, Int32.reduceToInt] at *; omega)))
      obtain ⟨x3_7, x4_7, σ7⟩ := t
      have hI : Tr [] σ0 σ7 ∧ (0 ≤ x4_7.toInt) ∧ (ZB σ7.1) := hI
      obtain ⟨hT, hI7, hB⟩ := hI
      rw [F_X12_each_24.eq_1]
      refine ok_gC rfl ?_
      have hTc := hT
      refine ok_zbT (Q := fun V σ => V = mny (σ7.1 219 0)) hT (s_X12_many hN (hR.tr hT) (by first | exact hM | (rw [hT.2 219 (by decide)]; exact hM))) (fun _ h9 => absurd h9 List.not_mem_nil) (fun v8 σ9 hOσ9 hT hqv8 => ?_)
      have hqv8 : v8 = mny (σ7.1 219 0) := hqv8
      rw [hTc.2 219 (by decide)] at hqv8
      obtain rfl : v8 = (mny (σ0.1 219 0)) := hqv8
      have hB : ZB σ9.1 := ZB.tr hOσ9 (by decide) hB
      refine ok_if (fun hc10 => ?_) (fun hc10 => ?_)
      · exact ok_some ⟨hT, trivial⟩
      · refine ok_gC rfl ?_
        refine ok_zbT (Q := fun V σ => V = 0 ∨ V = 1) hT (s_X12_of hN (hR.tr hT) (by first | exact hM | (rw [hT.2 219 (by decide)]; exact hM)) (hB) (by first | omega | decide | (simp only [Int32.le_iff_toInt_le, Int32.lt_iff_toInt_lt, ti_add, ti_sub, ti_mul, Int32.reduceToInt] at *; omega)) (by first | omega | decide | (simp only [Int32.le_iff_toInt_le, Int32.lt_iff_toInt_lt, ti_add, ti_sub, ti_mul, Int32.reduceToInt] at *; omega))) (fun _ h9 => absurd h9 List.not_mem_nil) (fun v11 σ12 hOσ12 hT hqv11 => ?_)
        have hqv11 : v11 = 0 ∨ v11 = 1 := hqv11
        have hB : ZB σ12.1 := ZB.tr hOσ12 (by decide) hB
        refine ok_if (fun hc13 => ?_) (fun hc13 => ?_)
        · exact ih24_7 (x3_7 + 0, x4_7 + 1, σ12) (show Tr [] σ0 σ12 ∧ (0 ≤ (x4_7 + 1).toInt) ∧ (ZB σ12.1) from ⟨hT, (by first | omega | decide | (simp only [Int32.le_iff_toInt_le, Int32.lt_iff_toInt_lt, ti_add, ti_sub, ti_mul, Int32.reduceToInt] at *; omega)), hB⟩) (show (((mny (σ0.1 219 0))).toInt - (x4_7 + 1).toInt).toNat < (((mny (σ0.1 219 0))).toInt - x4_7.toInt).toNat from (by first | omega | decide | (simp only [Int32.le_iff_toInt_le, Int32.lt_iff_toInt_lt, ti_add, ti_sub, ti_mul, Int32.reduceToInt] at *; omega)))
        · exact ih24_7 (x3_7 + (((x4_7 : Int32) >>> (x2 &&& 31)) &&& 1), x4_7 + 1, σ12) (show Tr [] σ0 σ12 ∧ (0 ≤ (x4_7 + 1).toInt) ∧ (ZB σ12.1) from ⟨hT, (by first | omega | decide | (simp only [Int32.le_iff_toInt_le, Int32.lt_iff_toInt_lt, ti_add, ti_sub, ti_mul, Int32.reduceToInt] at *; omega)), hB⟩) (show (((mny (σ0.1 219 0))).toInt - (x4_7 + 1).toInt).toNat < (((mny (σ0.1 219 0))).toInt - x4_7.toInt).toNat from (by first | omega | decide | (simp only [Int32.le_iff_toInt_le, Int32.lt_iff_toInt_lt, ti_add, ti_sub, ti_mul, Int32.reduceToInt] at *; omega)))

set_option maxHeartbeats 4000000 in
set_option maxRecDepth 100000 in
theorem s_X12_names {N : Nat} (hN : 1048576 ≤ N) {x1 : Int32} {x2 : Int32} {σ0 : zS}  (hR : RF σ0.2.2) (hM : MW (σ0.1 219) 0) (hB : ZB σ0.1) : Ok (f_X12_names N 218 x1 x2 σ0) (fun r => Tr [] σ0 r.2 ∧ (True)) := by
  have hT : Tr [] σ0 σ0 := Tr.rf
  have hn := hM.1
  have he : 0 ≤ (σ0.1 219 2).toInt ∧ (σ0.1 219 2).toInt ≤ 10 := hM.2.1
  have qm := mny_b hn.1 hn.2
  rw [f_X12_names.eq_1]
  refine ok_gC rfl ?_
  refine ok_zbT (Q := fun V σ => (V = 0 ∨ V = 1) ∧ (¬ V = 0 → 0 ≤ x1.toInt ∧ x1.toInt ≤ 9)) hT (s_X12_isRegister hN (hR.tr hT) (by first | exact hM | (rw [hT.2 219 (by decide)]; exact hM))) (fun _ h9 => absurd h9 List.not_mem_nil) (fun v1 σ2 hOσ2 hT hqv1 => ?_)
  have hqv1 : (v1 = 0 ∨ v1 = 1) ∧ (¬ v1 = 0 → 0 ≤ x1.toInt ∧ x1.toInt ≤ 9) := hqv1
  have hB : ZB σ2.1 := ZB.tr hOσ2 (by decide) hB
  refine ok_if (fun hc3 => ?_) (fun hc3 => ?_)
  · exact ok_some ⟨hT, trivial⟩
  · have qhc3 := hqv1.2 hc3
    refine ok_zbT (Q := fun V σ => (V = 0 ∨ V = 1) ∧ (¬ V = 0 → (0 : Int64).toInt ≤ (Int32.toInt64 x2).toInt ∧ (Int32.toInt64 x2).toInt ≤ (2 : Int64).toInt)) hT (s_X12_in hN (hR.tr hT) ) (fun _ h9 => absurd h9 List.not_mem_nil) (fun v4 σ5 hOσ5 hT hqv4 => ?_)
    have hqv4 : (v4 = 0 ∨ v4 = 1) ∧ (¬ v4 = 0 → (0 : Int64).toInt ≤ (Int32.toInt64 x2).toInt ∧ (Int32.toInt64 x2).toInt ≤ (2 : Int64).toInt) := hqv4
    simp only [i64_of, Int64.reduceToInt] at hqv4
    have hB : ZB σ5.1 := ZB.tr hOσ5 (by decide) hB
    refine ok_if (fun hc6 => ?_) (fun hc6 => ?_)
    · exact ok_some ⟨hT, trivial⟩
    · have qhc6 := hqv4.2 hc6
      refine ok_gC rfl ?_
      have hTc := hT
      refine ok_zbT (Q := fun V σ => V = mny (σ5.1 219 0)) hT (s_X12_many hN (hR.tr hT) (by first | exact hM | (rw [hT.2 219 (by decide)]; exact hM))) (fun _ h9 => absurd h9 List.not_mem_nil) (fun v7 σ8 hOσ8 hT hqv7 => ?_)
      have hqv7 : v7 = mny (σ5.1 219 0) := hqv7
      rw [hTc.2 219 (by decide)] at hqv7
      obtain rfl : v7 = (mny (σ0.1 219 0)) := hqv7
      have hB : ZB σ8.1 := ZB.tr hOσ8 (by decide) hB
      refine ok_gC rfl ?_
      have hTc := hT
      refine ok_zbT (Q := fun V σ => V = mny (σ8.1 219 0)) hT (s_X12_many hN (hR.tr hT) (by first | exact hM | (rw [hT.2 219 (by decide)]; exact hM))) (fun _ h9 => absurd h9 List.not_mem_nil) (fun v9 σ10 hOσ10 hT hqv9 => ?_)
      have hqv9 : v9 = mny (σ8.1 219 0) := hqv9
      rw [hTc.2 219 (by decide)] at hqv9
      obtain rfl : v9 = (mny (σ0.1 219 0)) := hqv9
      have hB : ZB σ10.1 := ZB.tr hOσ10 (by decide) hB
      refine ok_lp (fun t : Int32 × Int32 × Int32 × Int32 × zS => Tr [] σ0 (t.2.2.2.2) ∧ (0 ≤ (t.2.2.2.1).toInt) ∧ (ZB (t.2.2.2.2).1)) (fun t : Int32 × Int32 × Int32 × Int32 × zS => (1024 - (t.2.2.2.1).toInt).toNat) (fun again11 t hI ih44_11 => ?_) N _ (show Tr [] σ0 σ10 ∧ (0 ≤ (0 : Int32).toInt) ∧ (ZB σ10.1) from ⟨hT, (by first | omega | decide | (simp only [Int32.le_iff_toInt_le, Int32.lt_iff_toInt_lt, ti_add, ti_sub, ti_mul, Int32.reduceToInt] at *; omega)), hB⟩) (show (1024 - (0 : Int32).toInt).toNat < N from (by first | omega | decide | (simp only [Int32.le_iff_toInt_le, Int32.lt_iff_toInt_lt, ti_add, ti_sub, ti_mul, Int32.reduceToInt] at *; omega)))
      obtain ⟨x3_11, x4_11, x5_11, x6_11, σ11⟩ := t
      have hI : Tr [] σ0 σ11 ∧ (0 ≤ x6_11.toInt) ∧ (ZB σ11.1) := hI
      obtain ⟨hT, hI11, hB⟩ := hI
      rw [F_X12_names_44.eq_1]
      refine ok_gC rfl ?_
      have hTc := hT
      refine ok_zbT (Q := fun V σ => V = mny (σ11.1 219 0)) hT (s_X12_many hN (hR.tr hT) (by first | exact hM | (rw [hT.2 219 (by decide)]; exact hM))) (fun _ h9 => absurd h9 List.not_mem_nil) (fun v12 σ13 hOσ13 hT hqv12 => ?_)
      have hqv12 : v12 = mny (σ11.1 219 0) := hqv12
      rw [hTc.2 219 (by decide)] at hqv12
      obtain rfl : v12 = (mny (σ0.1 219 0)) := hqv12
      have hB : ZB σ13.1 := ZB.tr hOσ13 (by decide) hB
      refine ok_if (fun hc14 => ?_) (fun hc14 => ?_)
      · refine ok_if (fun hc15 => ?_) (fun hc15 => ?_)
        · exact ok_some ⟨hT, trivial⟩
        · refine ok_if (fun hc16 => ?_) (fun hc16 => ?_)
          · exact ok_some ⟨hT, trivial⟩
          · exact ok_some ⟨hT, trivial⟩
      · refine ok_gC rfl ?_
        refine ok_zbT (Q := fun V σ => V = 0 ∨ V = 1) hT (s_X12_of hN (hR.tr hT) (by first | exact hM | (rw [hT.2 219 (by decide)]; exact hM)) (hB) (by first | omega | decide | (simp only [Int32.le_iff_toInt_le, Int32.lt_iff_toInt_lt, ti_add, ti_sub, ti_mul, Int32.reduceToInt] at *; omega)) (by first | omega | decide | (simp only [Int32.le_iff_toInt_le, Int32.lt_iff_toInt_lt, ti_add, ti_sub, ti_mul, Int32.reduceToInt] at *; omega))) (fun _ h9 => absurd h9 List.not_mem_nil) (fun v17 σ18 hOσ18 hT hqv17 => ?_)
        have hqv17 : v17 = 0 ∨ v17 = 1 := hqv17
        have hB : ZB σ18.1 := ZB.tr hOσ18 (by decide) hB
        refine ok_if (fun hc19 => ?_) (fun hc19 => ?_)
        · rw [J_X12_names_70.eq_1]
          refine ok_gC rfl ?_
          refine ok_zbT (Q := fun V σ => V = 0 ∨ V = 1) hT (s_X12_of hN (hR.tr hT) (by first | exact hM | (rw [hT.2 219 (by decide)]; exact hM)) (hB) (by first | omega | decide | (simp only [Int32.le_iff_toInt_le, Int32.lt_iff_toInt_lt, ti_add, ti_sub, ti_mul, Int32.reduceToInt] at *; omega)) (by first | omega | decide | (simp only [Int32.le_iff_toInt_le, Int32.lt_iff_toInt_lt, ti_add, ti_sub, ti_mul, Int32.reduceToInt] at *; omega))) (fun _ h9 => absurd h9 List.not_mem_nil) (fun v20 σ21 hOσ21 hT hqv20 => ?_)
          have hqv20 : v20 = 0 ∨ v20 = 1 := hqv20
          have hB : ZB σ21.1 := ZB.tr hOσ21 (by decide) hB
          refine ok_if (fun hc22 => ?_) (fun hc22 => ?_)
          · rw [J_X12_names_90.eq_1]
            refine ok_lp (fun t : Int32 × Int32 × zS => Tr [] σ0 (t.2.2) ∧ (0 ≤ (t.2.1).toInt) ∧ (ZB (t.2.2).1)) (fun t : Int32 × Int32 × zS => (10 - (t.2.1).toInt).toNat) (fun again23 t hI ih96_23 => ?_) N _ (show Tr [] σ0 σ21 ∧ (0 ≤ (0 : Int32).toInt) ∧ (ZB σ21.1) from ⟨hT, (by first | omega | decide | (simp only [Int32.le_iff_toInt_le, Int32.lt_iff_toInt_lt, ti_add, ti_sub, ti_mul, Int32.reduceToInt] at *; omega)), hB⟩) (show (10 - (0 : Int32).toInt).toNat < N from (by first | omega | decide | (simp only [Int32.le_iff_toInt_le, Int32.lt_iff_toInt_lt, ti_add, ti_sub, ti_mul, Int32.reduceToInt] at *; omega)))
            obtain ⟨x5_23, x7_23, σ23⟩ := t
            have hI : Tr [] σ0 σ23 ∧ (0 ≤ x7_23.toInt) ∧ (ZB σ23.1) := hI
            obtain ⟨hT, hI23, hB⟩ := hI
            rw [F_X12_names_96.eq_1]
            refine ok_gR (v := 219) hT rfl (hR 218 1 rfl) ?_
            refine ok_aIc (j := 0) hT rfl (by decide) rfl (by decide) (by decide) ?_
            refine ok_if (fun hc26 => ?_) (fun hc26 => ?_)
            · exact ih44_11 (x3_11 &&& (-1), x4_11 ||| 0, x5_23, x6_11 + 1, σ23) (show Tr [] σ0 σ23 ∧ (0 ≤ (x6_11 + 1).toInt) ∧ (ZB σ23.1) from ⟨hT, (by first | omega | decide | (simp only [Int32.le_iff_toInt_le, Int32.lt_iff_toInt_lt, ti_add, ti_sub, ti_mul, Int32.reduceToInt] at *; omega)), hB⟩) (show (1024 - (x6_11 + 1).toInt).toNat < (1024 - x6_11.toInt).toNat from (by first | omega | decide | (simp only [Int32.le_iff_toInt_le, Int32.lt_iff_toInt_lt, ti_add, ti_sub, ti_mul, Int32.reduceToInt] at *; omega)))
            · have q9 := ti_one9 (x := x7_23) (by first | omega | (simp only [Int32.le_iff_toInt_le, Int32.lt_iff_toInt_lt, ti_add, ti_sub, ti_mul, Int32.reduceToInt] at *; omega)) (by first | omega | (simp only [Int32.le_iff_toInt_le, Int32.lt_iff_toInt_lt, ti_add, ti_sub, ti_mul, Int32.reduceToInt] at *; omega))
              have q8 := xor10 (a := x6_11) (b := (1 : Int32) <<< (x7_23 &&& 31)) (by first | omega | (simp only [Int32.le_iff_toInt_le, Int32.lt_iff_toInt_lt, ti_add, ti_sub, ti_mul, Int32.reduceToInt] at *; omega)) (by first | omega | (simp only [Int32.le_iff_toInt_le, Int32.lt_iff_toInt_lt, ti_add, ti_sub, ti_mul, Int32.reduceToInt] at *; omega)) (by omega) (by omega)
              refine ok_gC rfl ?_
              refine ok_zbT (Q := fun V σ => V = 0 ∨ V = 1) hT (s_X12_of hN (hR.tr hT) (by first | exact hM | (rw [hT.2 219 (by decide)]; exact hM)) (hB) (by first | omega | decide | (simp only [Int32.le_iff_toInt_le, Int32.lt_iff_toInt_lt, ti_add, ti_sub, ti_mul, Int32.reduceToInt] at *; omega)) (by first | omega | decide | (simp only [Int32.le_iff_toInt_le, Int32.lt_iff_toInt_lt, ti_add, ti_sub, ti_mul, Int32.reduceToInt] at *; omega))) (fun _ h9 => absurd h9 List.not_mem_nil) (fun v27 σ28 hOσ28 hT hqv27 => ?_)
              have hqv27 : v27 = 0 ∨ v27 = 1 := hqv27
              have hB : ZB σ28.1 := ZB.tr hOσ28 (by decide) hB
              refine ok_gC rfl ?_
              refine ok_zbT (Q := fun V σ => V = 0 ∨ V = 1) hT (s_X12_of hN (hR.tr hT) (by first | exact hM | (rw [hT.2 219 (by decide)]; exact hM)) (hB) (by first | omega | decide | (simp only [Int32.le_iff_toInt_le, Int32.lt_iff_toInt_lt, ti_add, ti_sub, ti_mul, Int32.reduceToInt] at *; omega)) (by first | omega | decide | (simp only [Int32.le_iff_toInt_le, Int32.lt_iff_toInt_lt, ti_add, ti_sub, ti_mul, Int32.reduceToInt] at *; omega))) (fun _ h9 => absurd h9 List.not_mem_nil) (fun v29 σ30 hOσ30 hT hqv29 => ?_)
              have hqv29 : v29 = 0 ∨ v29 = 1 := hqv29
              have hB : ZB σ30.1 := ZB.tr hOσ30 (by decide) hB
              refine ok_if (fun hc31 => ?_) (fun hc31 => ?_)
              · exact ih96_23 (x5_23 &&& (-1), x7_23 + 1, σ30) (show Tr [] σ0 σ30 ∧ (0 ≤ (x7_23 + 1).toInt) ∧ (ZB σ30.1) from ⟨hT, (by first | omega | decide | (simp only [Int32.le_iff_toInt_le, Int32.lt_iff_toInt_lt, ti_add, ti_sub, ti_mul, Int32.reduceToInt] at *; omega)), hB⟩) (show (10 - (x7_23 + 1).toInt).toNat < (10 - x7_23.toInt).toNat from (by first | omega | decide | (simp only [Int32.le_iff_toInt_le, Int32.lt_iff_toInt_lt, ti_add, ti_sub, ti_mul, Int32.reduceToInt] at *; omega)))
              · exact ih96_23 (x5_23 &&& (((1 : Int32) <<< (x7_23 &&& 31)) ^^^ (-1)), x7_23 + 1, σ30) (show Tr [] σ0 σ30 ∧ (0 ≤ (x7_23 + 1).toInt) ∧ (ZB σ30.1) from ⟨hT, (by first | omega | decide | (simp only [Int32.le_iff_toInt_le, Int32.lt_iff_toInt_lt, ti_add, ti_sub, ti_mul, Int32.reduceToInt] at *; omega)), hB⟩) (show (10 - (x7_23 + 1).toInt).toNat < (10 - x7_23.toInt).toNat from (by first | omega | decide | (simp only [Int32.le_iff_toInt_le, Int32.lt_iff_toInt_lt, ti_add, ti_sub, ti_mul, Int32.reduceToInt] at *; omega)))
          · rw [J_X12_names_90.eq_1]
            refine ok_lp (fun t : Int32 × Int32 × zS => Tr [] σ0 (t.2.2) ∧ (0 ≤ (t.2.1).toInt) ∧ (ZB (t.2.2).1)) (fun t : Int32 × Int32 × zS => (10 - (t.2.1).toInt).toNat) (fun again32 t hI ih96_32 => ?_) N _ (show Tr [] σ0 σ21 ∧ (0 ≤ (0 : Int32).toInt) ∧ (ZB σ21.1) from ⟨hT, (by first | omega | decide | (simp only [Int32.le_iff_toInt_le, Int32.lt_iff_toInt_lt, ti_add, ti_sub, ti_mul, Int32.reduceToInt] at *; omega)), hB⟩) (show (10 - (0 : Int32).toInt).toNat < N from (by first | omega | decide | (simp only [Int32.le_iff_toInt_le, Int32.lt_iff_toInt_lt, ti_add, ti_sub, ti_mul, Int32.reduceToInt] at *; omega)))
            obtain ⟨x5_32, x7_32, σ32⟩ := t
            have hI : Tr [] σ0 σ32 ∧ (0 ≤ x7_32.toInt) ∧ (ZB σ32.1) := hI
            obtain ⟨hT, hI32, hB⟩ := hI
            rw [F_X12_names_96.eq_1]
            refine ok_gR (v := 219) hT rfl (hR 218 1 rfl) ?_
            refine ok_aIc (j := 0) hT rfl (by decide) rfl (by decide) (by decide) ?_
            refine ok_if (fun hc35 => ?_) (fun hc35 => ?_)
            · exact ih44_11 (x3_11 &&& (-1), x4_11 ||| x6_11, x5_32, x6_11 + 1, σ32) (show Tr [] σ0 σ32 ∧ (0 ≤ (x6_11 + 1).toInt) ∧ (ZB σ32.1) from ⟨hT, (by first | omega | decide | (simp only [Int32.le_iff_toInt_le, Int32.lt_iff_toInt_lt, ti_add, ti_sub, ti_mul, Int32.reduceToInt] at *; omega)), hB⟩) (show (1024 - (x6_11 + 1).toInt).toNat < (1024 - x6_11.toInt).toNat from (by first | omega | decide | (simp only [Int32.le_iff_toInt_le, Int32.lt_iff_toInt_lt, ti_add, ti_sub, ti_mul, Int32.reduceToInt] at *; omega)))
            · have q9 := ti_one9 (x := x7_32) (by first | omega | (simp only [Int32.le_iff_toInt_le, Int32.lt_iff_toInt_lt, ti_add, ti_sub, ti_mul, Int32.reduceToInt] at *; omega)) (by first | omega | (simp only [Int32.le_iff_toInt_le, Int32.lt_iff_toInt_lt, ti_add, ti_sub, ti_mul, Int32.reduceToInt] at *; omega))
              have q8 := xor10 (a := x6_11) (b := (1 : Int32) <<< (x7_32 &&& 31)) (by first | omega | (simp only [Int32.le_iff_toInt_le, Int32.lt_iff_toInt_lt, ti_add, ti_sub, ti_mul, Int32.reduceToInt] at *; omega)) (by first | omega | (simp only [Int32.le_iff_toInt_le, Int32.lt_iff_toInt_lt, ti_add, ti_sub, ti_mul, Int32.reduceToInt] at *; omega)) (by omega) (by omega)
              refine ok_gC rfl ?_
              refine ok_zbT (Q := fun V σ => V = 0 ∨ V = 1) hT (s_X12_of hN (hR.tr hT) (by first | exact hM | (rw [hT.2 219 (by decide)]; exact hM)) (hB) (by first | omega | decide | (simp only [Int32.le_iff_toInt_le, Int32.lt_iff_toInt_lt, ti_add, ti_sub, ti_mul, Int32.reduceToInt] at *; omega)) (by first | omega | decide | (simp only [Int32.le_iff_toInt_le, Int32.lt_iff_toInt_lt, ti_add, ti_sub, ti_mul, Int32.reduceToInt] at *; omega))) (fun _ h9 => absurd h9 List.not_mem_nil) (fun v36 σ37 hOσ37 hT hqv36 => ?_)
              have hqv36 : v36 = 0 ∨ v36 = 1 := hqv36
              have hB : ZB σ37.1 := ZB.tr hOσ37 (by decide) hB
              refine ok_gC rfl ?_
              refine ok_zbT (Q := fun V σ => V = 0 ∨ V = 1) hT (s_X12_of hN (hR.tr hT) (by first | exact hM | (rw [hT.2 219 (by decide)]; exact hM)) (hB) (by first | omega | decide | (simp only [Int32.le_iff_toInt_le, Int32.lt_iff_toInt_lt, ti_add, ti_sub, ti_mul, Int32.reduceToInt] at *; omega)) (by first | omega | decide | (simp only [Int32.le_iff_toInt_le, Int32.lt_iff_toInt_lt, ti_add, ti_sub, ti_mul, Int32.reduceToInt] at *; omega))) (fun _ h9 => absurd h9 List.not_mem_nil) (fun v38 σ39 hOσ39 hT hqv38 => ?_)
              have hqv38 : v38 = 0 ∨ v38 = 1 := hqv38
              have hB : ZB σ39.1 := ZB.tr hOσ39 (by decide) hB
              refine ok_if (fun hc40 => ?_) (fun hc40 => ?_)
              · exact ih96_32 (x5_32 &&& (-1), x7_32 + 1, σ39) (show Tr [] σ0 σ39 ∧ (0 ≤ (x7_32 + 1).toInt) ∧ (ZB σ39.1) from ⟨hT, (by first | omega | decide | (simp only [Int32.le_iff_toInt_le, Int32.lt_iff_toInt_lt, ti_add, ti_sub, ti_mul, Int32.reduceToInt] at *; omega)), hB⟩) (show (10 - (x7_32 + 1).toInt).toNat < (10 - x7_32.toInt).toNat from (by first | omega | decide | (simp only [Int32.le_iff_toInt_le, Int32.lt_iff_toInt_lt, ti_add, ti_sub, ti_mul, Int32.reduceToInt] at *; omega)))
              · exact ih96_32 (x5_32 &&& (((1 : Int32) <<< (x7_32 &&& 31)) ^^^ (-1)), x7_32 + 1, σ39) (show Tr [] σ0 σ39 ∧ (0 ≤ (x7_32 + 1).toInt) ∧ (ZB σ39.1) from ⟨hT, (by first | omega | decide | (simp only [Int32.le_iff_toInt_le, Int32.lt_iff_toInt_lt, ti_add, ti_sub, ti_mul, Int32.reduceToInt] at *; omega)), hB⟩) (show (10 - (x7_32 + 1).toInt).toNat < (10 - x7_32.toInt).toNat from (by first | omega | decide | (simp only [Int32.le_iff_toInt_le, Int32.lt_iff_toInt_lt, ti_add, ti_sub, ti_mul, Int32.reduceToInt] at *; omega)))
        · rw [J_X12_names_70.eq_1]
          refine ok_gC rfl ?_
          refine ok_zbT (Q := fun V σ => V = 0 ∨ V = 1) hT (s_X12_of hN (hR.tr hT) (by first | exact hM | (rw [hT.2 219 (by decide)]; exact hM)) (hB) (by first | omega | decide | (simp only [Int32.le_iff_toInt_le, Int32.lt_iff_toInt_lt, ti_add, ti_sub, ti_mul, Int32.reduceToInt] at *; omega)) (by first | omega | decide | (simp only [Int32.le_iff_toInt_le, Int32.lt_iff_toInt_lt, ti_add, ti_sub, ti_mul, Int32.reduceToInt] at *; omega))) (fun _ h9 => absurd h9 List.not_mem_nil) (fun v41 σ42 hOσ42 hT hqv41 => ?_)
          have hqv41 : v41 = 0 ∨ v41 = 1 := hqv41
          have hB : ZB σ42.1 := ZB.tr hOσ42 (by decide) hB
          refine ok_if (fun hc43 => ?_) (fun hc43 => ?_)
          · rw [J_X12_names_90.eq_1]
            refine ok_lp (fun t : Int32 × Int32 × zS => Tr [] σ0 (t.2.2) ∧ (0 ≤ (t.2.1).toInt) ∧ (ZB (t.2.2).1)) (fun t : Int32 × Int32 × zS => (10 - (t.2.1).toInt).toNat) (fun again44 t hI ih96_44 => ?_) N _ (show Tr [] σ0 σ42 ∧ (0 ≤ (0 : Int32).toInt) ∧ (ZB σ42.1) from ⟨hT, (by first | omega | decide | (simp only [Int32.le_iff_toInt_le, Int32.lt_iff_toInt_lt, ti_add, ti_sub, ti_mul, Int32.reduceToInt] at *; omega)), hB⟩) (show (10 - (0 : Int32).toInt).toNat < N from (by first | omega | decide | (simp only [Int32.le_iff_toInt_le, Int32.lt_iff_toInt_lt, ti_add, ti_sub, ti_mul, Int32.reduceToInt] at *; omega)))
            obtain ⟨x5_44, x7_44, σ44⟩ := t
            have hI : Tr [] σ0 σ44 ∧ (0 ≤ x7_44.toInt) ∧ (ZB σ44.1) := hI
            obtain ⟨hT, hI44, hB⟩ := hI
            rw [F_X12_names_96.eq_1]
            refine ok_gR (v := 219) hT rfl (hR 218 1 rfl) ?_
            refine ok_aIc (j := 0) hT rfl (by decide) rfl (by decide) (by decide) ?_
            refine ok_if (fun hc47 => ?_) (fun hc47 => ?_)
            · exact ih44_11 (x3_11 &&& x6_11, x4_11 ||| 0, x5_44, x6_11 + 1, σ44) (show Tr [] σ0 σ44 ∧ (0 ≤ (x6_11 + 1).toInt) ∧ (ZB σ44.1) from ⟨hT, (by first | omega | decide | (simp only [Int32.le_iff_toInt_le, Int32.lt_iff_toInt_lt, ti_add, ti_sub, ti_mul, Int32.reduceToInt] at *; omega)), hB⟩) (show (1024 - (x6_11 + 1).toInt).toNat < (1024 - x6_11.toInt).toNat from (by first | omega | decide | (simp only [Int32.le_iff_toInt_le, Int32.lt_iff_toInt_lt, ti_add, ti_sub, ti_mul, Int32.reduceToInt] at *; omega)))
            · have q9 := ti_one9 (x := x7_44) (by first | omega | (simp only [Int32.le_iff_toInt_le, Int32.lt_iff_toInt_lt, ti_add, ti_sub, ti_mul, Int32.reduceToInt] at *; omega)) (by first | omega | (simp only [Int32.le_iff_toInt_le, Int32.lt_iff_toInt_lt, ti_add, ti_sub, ti_mul, Int32.reduceToInt] at *; omega))
              have q8 := xor10 (a := x6_11) (b := (1 : Int32) <<< (x7_44 &&& 31)) (by first | omega | (simp only [Int32.le_iff_toInt_le, Int32.lt_iff_toInt_lt, ti_add, ti_sub, ti_mul, Int32.reduceToInt] at *; omega)) (by first | omega | (simp only [Int32.le_iff_toInt_le, Int32.lt_iff_toInt_lt, ti_add, ti_sub, ti_mul, Int32.reduceToInt] at *; omega)) (by omega) (by omega)
              refine ok_gC rfl ?_
              refine ok_zbT (Q := fun V σ => V = 0 ∨ V = 1) hT (s_X12_of hN (hR.tr hT) (by first | exact hM | (rw [hT.2 219 (by decide)]; exact hM)) (hB) (by first | omega | decide | (simp only [Int32.le_iff_toInt_le, Int32.lt_iff_toInt_lt, ti_add, ti_sub, ti_mul, Int32.reduceToInt] at *; omega)) (by first | omega | decide | (simp only [Int32.le_iff_toInt_le, Int32.lt_iff_toInt_lt, ti_add, ti_sub, ti_mul, Int32.reduceToInt] at *; omega))) (fun _ h9 => absurd h9 List.not_mem_nil) (fun v48 σ49 hOσ49 hT hqv48 => ?_)
              have hqv48 : v48 = 0 ∨ v48 = 1 := hqv48
              have hB : ZB σ49.1 := ZB.tr hOσ49 (by decide) hB
              refine ok_gC rfl ?_
              refine ok_zbT (Q := fun V σ => V = 0 ∨ V = 1) hT (s_X12_of hN (hR.tr hT) (by first | exact hM | (rw [hT.2 219 (by decide)]; exact hM)) (hB) (by first | omega | decide | (simp only [Int32.le_iff_toInt_le, Int32.lt_iff_toInt_lt, ti_add, ti_sub, ti_mul, Int32.reduceToInt] at *; omega)) (by first | omega | decide | (simp only [Int32.le_iff_toInt_le, Int32.lt_iff_toInt_lt, ti_add, ti_sub, ti_mul, Int32.reduceToInt] at *; omega))) (fun _ h9 => absurd h9 List.not_mem_nil) (fun v50 σ51 hOσ51 hT hqv50 => ?_)
              have hqv50 : v50 = 0 ∨ v50 = 1 := hqv50
              have hB : ZB σ51.1 := ZB.tr hOσ51 (by decide) hB
              refine ok_if (fun hc52 => ?_) (fun hc52 => ?_)
              · exact ih96_44 (x5_44 &&& (-1), x7_44 + 1, σ51) (show Tr [] σ0 σ51 ∧ (0 ≤ (x7_44 + 1).toInt) ∧ (ZB σ51.1) from ⟨hT, (by first | omega | decide | (simp only [Int32.le_iff_toInt_le, Int32.lt_iff_toInt_lt, ti_add, ti_sub, ti_mul, Int32.reduceToInt] at *; omega)), hB⟩) (show (10 - (x7_44 + 1).toInt).toNat < (10 - x7_44.toInt).toNat from (by first | omega | decide | (simp only [Int32.le_iff_toInt_le, Int32.lt_iff_toInt_lt, ti_add, ti_sub, ti_mul, Int32.reduceToInt] at *; omega)))
              · exact ih96_44 (x5_44 &&& (((1 : Int32) <<< (x7_44 &&& 31)) ^^^ (-1)), x7_44 + 1, σ51) (show Tr [] σ0 σ51 ∧ (0 ≤ (x7_44 + 1).toInt) ∧ (ZB σ51.1) from ⟨hT, (by first | omega | decide | (simp only [Int32.le_iff_toInt_le, Int32.lt_iff_toInt_lt, ti_add, ti_sub, ti_mul, Int32.reduceToInt] at *; omega)), hB⟩) (show (10 - (x7_44 + 1).toInt).toNat < (10 - x7_44.toInt).toNat from (by first | omega | decide | (simp only [Int32.le_iff_toInt_le, Int32.lt_iff_toInt_lt, ti_add, ti_sub, ti_mul, Int32.reduceToInt] at *; omega)))
          · rw [J_X12_names_90.eq_1]
            refine ok_lp (fun t : Int32 × Int32 × zS => Tr [] σ0 (t.2.2) ∧ (0 ≤ (t.2.1).toInt) ∧ (ZB (t.2.2).1)) (fun t : Int32 × Int32 × zS => (10 - (t.2.1).toInt).toNat) (fun again53 t hI ih96_53 => ?_) N _ (show Tr [] σ0 σ42 ∧ (0 ≤ (0 : Int32).toInt) ∧ (ZB σ42.1) from ⟨hT, (by first | omega | decide | (simp only [Int32.le_iff_toInt_le, Int32.lt_iff_toInt_lt, ti_add, ti_sub, ti_mul, Int32.reduceToInt] at *; omega)), hB⟩) (show (10 - (0 : Int32).toInt).toNat < N from (by first | omega | decide | (simp only [Int32.le_iff_toInt_le, Int32.lt_iff_toInt_lt, ti_add, ti_sub, ti_mul, Int32.reduceToInt] at *; omega)))
            obtain ⟨x5_53, x7_53, σ53⟩ := t
            have hI : Tr [] σ0 σ53 ∧ (0 ≤ x7_53.toInt) ∧ (ZB σ53.1) := hI
            obtain ⟨hT, hI53, hB⟩ := hI
            rw [F_X12_names_96.eq_1]
            refine ok_gR (v := 219) hT rfl (hR 218 1 rfl) ?_
            refine ok_aIc (j := 0) hT rfl (by decide) rfl (by decide) (by decide) ?_
            refine ok_if (fun hc56 => ?_) (fun hc56 => ?_)
            · exact ih44_11 (x3_11 &&& x6_11, x4_11 ||| x6_11, x5_53, x6_11 + 1, σ53) (show Tr [] σ0 σ53 ∧ (0 ≤ (x6_11 + 1).toInt) ∧ (ZB σ53.1) from ⟨hT, (by first | omega | decide | (simp only [Int32.le_iff_toInt_le, Int32.lt_iff_toInt_lt, ti_add, ti_sub, ti_mul, Int32.reduceToInt] at *; omega)), hB⟩) (show (1024 - (x6_11 + 1).toInt).toNat < (1024 - x6_11.toInt).toNat from (by first | omega | decide | (simp only [Int32.le_iff_toInt_le, Int32.lt_iff_toInt_lt, ti_add, ti_sub, ti_mul, Int32.reduceToInt] at *; omega)))
            · have q9 := ti_one9 (x := x7_53) (by first | omega | (simp only [Int32.le_iff_toInt_le, Int32.lt_iff_toInt_lt, ti_add, ti_sub, ti_mul, Int32.reduceToInt] at *; omega)) (by first | omega | (simp only [Int32.le_iff_toInt_le, Int32.lt_iff_toInt_lt, ti_add, ti_sub, ti_mul, Int32.reduceToInt] at *; omega))
              have q8 := xor10 (a := x6_11) (b := (1 : Int32) <<< (x7_53 &&& 31)) (by first | omega | (simp only [Int32.le_iff_toInt_le, Int32.lt_iff_toInt_lt, ti_add, ti_sub, ti_mul, Int32.reduceToInt] at *; omega)) (by first | omega | (simp only [Int32.le_iff_toInt_le, Int32.lt_iff_toInt_lt, ti_add, ti_sub, ti_mul, Int32.reduceToInt] at *; omega)) (by omega) (by omega)
              refine ok_gC rfl ?_
              refine ok_zbT (Q := fun V σ => V = 0 ∨ V = 1) hT (s_X12_of hN (hR.tr hT) (by first | exact hM | (rw [hT.2 219 (by decide)]; exact hM)) (hB) (by first | omega | decide | (simp only [Int32.le_iff_toInt_le, Int32.lt_iff_toInt_lt, ti_add, ti_sub, ti_mul, Int32.reduceToInt] at *; omega)) (by first | omega | decide | (simp only [Int32.le_iff_toInt_le, Int32.lt_iff_toInt_lt, ti_add, ti_sub, ti_mul, Int32.reduceToInt] at *; omega))) (fun _ h9 => absurd h9 List.not_mem_nil) (fun v57 σ58 hOσ58 hT hqv57 => ?_)
              have hqv57 : v57 = 0 ∨ v57 = 1 := hqv57
              have hB : ZB σ58.1 := ZB.tr hOσ58 (by decide) hB
              refine ok_gC rfl ?_
              refine ok_zbT (Q := fun V σ => V = 0 ∨ V = 1) hT (s_X12_of hN (hR.tr hT) (by first | exact hM | (rw [hT.2 219 (by decide)]; exact hM)) (hB) (by first | omega | decide | (simp only [Int32.le_iff_toInt_le, Int32.lt_iff_toInt_lt, ti_add, ti_sub, ti_mul, Int32.reduceToInt] at *; omega)) (by first | omega | decide | (simp only [Int32.le_iff_toInt_le, Int32.lt_iff_toInt_lt, ti_add, ti_sub, ti_mul, Int32.reduceToInt] at *; omega))) (fun _ h9 => absurd h9 List.not_mem_nil) (fun v59 σ60 hOσ60 hT hqv59 => ?_)
              have hqv59 : v59 = 0 ∨ v59 = 1 := hqv59
              have hB : ZB σ60.1 := ZB.tr hOσ60 (by decide) hB
              refine ok_if (fun hc61 => ?_) (fun hc61 => ?_)
              · exact ih96_53 (x5_53 &&& (-1), x7_53 + 1, σ60) (show Tr [] σ0 σ60 ∧ (0 ≤ (x7_53 + 1).toInt) ∧ (ZB σ60.1) from ⟨hT, (by first | omega | decide | (simp only [Int32.le_iff_toInt_le, Int32.lt_iff_toInt_lt, ti_add, ti_sub, ti_mul, Int32.reduceToInt] at *; omega)), hB⟩) (show (10 - (x7_53 + 1).toInt).toNat < (10 - x7_53.toInt).toNat from (by first | omega | decide | (simp only [Int32.le_iff_toInt_le, Int32.lt_iff_toInt_lt, ti_add, ti_sub, ti_mul, Int32.reduceToInt] at *; omega)))
              · exact ih96_53 (x5_53 &&& (((1 : Int32) <<< (x7_53 &&& 31)) ^^^ (-1)), x7_53 + 1, σ60) (show Tr [] σ0 σ60 ∧ (0 ≤ (x7_53 + 1).toInt) ∧ (ZB σ60.1) from ⟨hT, (by first | omega | decide | (simp only [Int32.le_iff_toInt_le, Int32.lt_iff_toInt_lt, ti_add, ti_sub, ti_mul, Int32.reduceToInt] at *; omega)), hB⟩) (show (10 - (x7_53 + 1).toInt).toNat < (10 - x7_53.toInt).toNat from (by first | omega | decide | (simp only [Int32.le_iff_toInt_le, Int32.lt_iff_toInt_lt, ti_add, ti_sub, ti_mul, Int32.reduceToInt] at *; omega)))

set_option maxHeartbeats 4000000 in
set_option maxRecDepth 100000 in
theorem s_X12_draw {N : Nat} (hN : 1048576 ≤ N) {x1 : Int32} {x2 : Int32} {σ0 : zS}  (hR : RF σ0.2.2) (hM : MW (σ0.1 219) 0) (hB : ZB σ0.1) : Ok (f_X12_draw N 218 x1 x2 σ0) (fun r => Tr [] σ0 r.2 ∧ (True)) := by
  have hT : Tr [] σ0 σ0 := Tr.rf
  have hn := hM.1
  have he : 0 ≤ (σ0.1 219 2).toInt ∧ (σ0.1 219 2).toInt ≤ 10 := hM.2.1
  have qm := mny_b hn.1 hn.2
  rw [f_X12_draw.eq_1]
  refine ok_gC rfl ?_
  refine ok_zbT (Q := fun V σ => (V = 0 ∨ V = 1) ∧ (¬ V = 0 → 0 ≤ x1.toInt ∧ x1.toInt ≤ 9)) hT (s_X12_isRegister hN (hR.tr hT) (by first | exact hM | (rw [hT.2 219 (by decide)]; exact hM))) (fun _ h9 => absurd h9 List.not_mem_nil) (fun v1 σ2 hOσ2 hT hqv1 => ?_)
  have hqv1 : (v1 = 0 ∨ v1 = 1) ∧ (¬ v1 = 0 → 0 ≤ x1.toInt ∧ x1.toInt ≤ 9) := hqv1
  have hB : ZB σ2.1 := ZB.tr hOσ2 (by decide) hB
  refine ok_if (fun hc3 => ?_) (fun hc3 => ?_)
  · exact ok_some ⟨hT, trivial⟩
  · have qhc3 := hqv1.2 hc3
    refine ok_zbT (Q := fun V σ => (V = 0 ∨ V = 1) ∧ (¬ V = 0 → (0 : Int64).toInt ≤ (Int32.toInt64 x2).toInt ∧ (Int32.toInt64 x2).toInt ≤ (2000000000 : Int64).toInt)) hT (s_X12_in hN (hR.tr hT) ) (fun _ h9 => absurd h9 List.not_mem_nil) (fun v4 σ5 hOσ5 hT hqv4 => ?_)
    have hqv4 : (v4 = 0 ∨ v4 = 1) ∧ (¬ v4 = 0 → (0 : Int64).toInt ≤ (Int32.toInt64 x2).toInt ∧ (Int32.toInt64 x2).toInt ≤ (2000000000 : Int64).toInt) := hqv4
    simp only [i64_of, Int64.reduceToInt] at hqv4
    have hB : ZB σ5.1 := ZB.tr hOσ5 (by decide) hB
    refine ok_if (fun hc6 => ?_) (fun hc6 => ?_)
    · exact ok_some ⟨hT, trivial⟩
    · have qhc6 := hqv4.2 hc6
      refine ok_gC rfl ?_
      refine ok_zbT (Q := fun V σ => 0 ≤ V.toInt ∧ V.toInt ≤ 1024) hT (s_X12_sizeOf hN (hR.tr hT) (by first | exact hM | (rw [hT.2 219 (by decide)]; exact hM)) (hB) (by first | omega | decide | (simp only [Int32.le_iff_toInt_le, Int32.lt_iff_toInt_lt, ti_add, ti_sub, ti_mul, Int32.reduceToInt] at *; omega))) (fun _ h9 => absurd h9 List.not_mem_nil) (fun v7 σ8 hOσ8 hT hqv7 => ?_)
      have hqv7 : 0 ≤ v7.toInt ∧ v7.toInt ≤ 1024 := hqv7
      have hB : ZB σ8.1 := ZB.tr hOσ8 (by decide) hB
      refine ok_nzJ (by decide) ?_
      refine ok_if (fun hc9 => ?_) (fun hc9 => ?_)
      · exact ok_some ⟨hT, trivial⟩
      · refine ok_nzJ (by decide) ?_
        refine ok_nzJ (by exact nz64n (by assumption)) ?_
        refine ok_gC rfl ?_
        refine ok_zbT (Q := fun V σ => -1 ≤ V.toInt ∧ V.toInt ≤ 1023) hT (s_X12_nthOf hN (hR.tr hT) (by first | exact hM | (rw [hT.2 219 (by decide)]; exact hM)) (hB) (by first | omega | decide | (simp only [Int32.le_iff_toInt_le, Int32.lt_iff_toInt_lt, ti_add, ti_sub, ti_mul, Int32.reduceToInt] at *; omega))) (fun _ h9 => absurd h9 List.not_mem_nil) (fun v10 σ11 hOσ11 hT hqv10 => ?_)
        have hqv10 : -1 ≤ v10.toInt ∧ v10.toInt ≤ 1023 := hqv10
        have hB : ZB σ11.1 := ZB.tr hOσ11 (by decide) hB
        exact ok_some ⟨hT, trivial⟩

set_option maxHeartbeats 4000000 in
set_option maxRecDepth 100000 in
theorem s_X12_areRegisters {N : Nat} (hN : 1048576 ≤ N) {x1 : Int32} {x2 : Int32} {σ0 : zS}  (hR : RF σ0.2.2) (hM : MW (σ0.1 219) 0) (hB : ZB σ0.1) : Ok (f_X12_areRegisters N 218 x1 x2 σ0) (fun r => Tr [] σ0 r.2 ∧ ((r.1 = 0 ∨ r.1 = 1) ∧ (¬ r.1 = 0 → (0 ≤ x1.toInt ∧ x1.toInt ≤ 9) ∧ 0 ≤ x2.toInt ∧ x2.toInt ≤ 9))) := by
  have hT : Tr [] σ0 σ0 := Tr.rf
  have hn := hM.1
  have he : 0 ≤ (σ0.1 219 2).toInt ∧ (σ0.1 219 2).toInt ≤ 10 := hM.2.1
  have qm := mny_b hn.1 hn.2
  rw [f_X12_areRegisters.eq_1]
  refine ok_gC rfl ?_
  refine ok_zbT (Q := fun V σ => (V = 0 ∨ V = 1) ∧ (¬ V = 0 → 0 ≤ x1.toInt ∧ x1.toInt ≤ 9)) hT (s_X12_isRegister hN (hR.tr hT) (by first | exact hM | (rw [hT.2 219 (by decide)]; exact hM))) (fun _ h9 => absurd h9 List.not_mem_nil) (fun v1 σ2 hOσ2 hT hqv1 => ?_)
  have hqv1 : (v1 = 0 ∨ v1 = 1) ∧ (¬ v1 = 0 → 0 ≤ x1.toInt ∧ x1.toInt ≤ 9) := hqv1
  have hB : ZB σ2.1 := ZB.tr hOσ2 (by decide) hB
  refine ok_if (fun hc3 => ?_) (fun hc3 => ?_)
  · exact ok_rZ (Or.inl rfl) ⟨hT, (show ((0 : Int32) = 0 ∨ (0 : Int32) = 1) ∧ (¬ (0 : Int32) = 0 → (0 ≤ x1.toInt ∧ x1.toInt ≤ 9) ∧ 0 ≤ x2.toInt ∧ x2.toInt ≤ 9) from by first | exact ⟨Or.inl rfl, fun h9 => absurd rfl h9⟩ | exact ⟨Or.inr rfl, fun _ => by first | omega | (simp only [Int32.le_iff_toInt_le, Int32.lt_iff_toInt_lt, ti_add, ti_sub, ti_mul, Int32.reduceToInt] at *; omega)⟩)⟩
  · have qhc3 := hqv1.2 hc3
    refine ok_gC rfl ?_
    refine ok_zbT (Q := fun V σ => (V = 0 ∨ V = 1) ∧ (¬ V = 0 → 0 ≤ x2.toInt ∧ x2.toInt ≤ 9)) hT (s_X12_isRegister hN (hR.tr hT) (by first | exact hM | (rw [hT.2 219 (by decide)]; exact hM))) (fun _ h9 => absurd h9 List.not_mem_nil) (fun v4 σ5 hOσ5 hT hqv4 => ?_)
    have hqv4 : (v4 = 0 ∨ v4 = 1) ∧ (¬ v4 = 0 → 0 ≤ x2.toInt ∧ x2.toInt ≤ 9) := hqv4
    have hB : ZB σ5.1 := ZB.tr hOσ5 (by decide) hB
    refine ok_if (fun hc6 => ?_) (fun hc6 => ?_)
    · exact ok_rZ (Or.inl rfl) ⟨hT, (show ((0 : Int32) = 0 ∨ (0 : Int32) = 1) ∧ (¬ (0 : Int32) = 0 → (0 ≤ x1.toInt ∧ x1.toInt ≤ 9) ∧ 0 ≤ x2.toInt ∧ x2.toInt ≤ 9) from by first | exact ⟨Or.inl rfl, fun h9 => absurd rfl h9⟩ | exact ⟨Or.inr rfl, fun _ => by first | omega | (simp only [Int32.le_iff_toInt_le, Int32.lt_iff_toInt_lt, ti_add, ti_sub, ti_mul, Int32.reduceToInt] at *; omega)⟩)⟩
    · have qhc6 := hqv4.2 hc6
      exact ok_rZ (Or.inr rfl) ⟨hT, (show ((1 : Int32) = 0 ∨ (1 : Int32) = 1) ∧ (¬ (1 : Int32) = 0 → (0 ≤ x1.toInt ∧ x1.toInt ≤ 9) ∧ 0 ≤ x2.toInt ∧ x2.toInt ≤ 9) from by first | exact ⟨Or.inl rfl, fun h9 => absurd rfl h9⟩ | exact ⟨Or.inr rfl, fun _ => by first | omega | (simp only [Int32.le_iff_toInt_le, Int32.lt_iff_toInt_lt, ti_add, ti_sub, ti_mul, Int32.reduceToInt] at *; omega)⟩)⟩

set_option maxHeartbeats 4000000 in
set_option maxRecDepth 100000 in
theorem s_X12_differOf {N : Nat} (hN : 1048576 ≤ N) {x1 : Int32} {x2 : Int32} {σ0 : zS}  (hR : RF σ0.2.2) (hM : MW (σ0.1 219) 0) (hB : ZB σ0.1) (hp : 0 ≤ x1.toInt ∧ x1.toInt ≤ 9) (hq : 0 ≤ x2.toInt ∧ x2.toInt ≤ 9) : Ok (f_X12_differOf N 218 x1 x2 σ0) (fun r => Tr [] σ0 r.2 ∧ (True)) := by
  have hT : Tr [] σ0 σ0 := Tr.rf
  have hn := hM.1
  have he : 0 ≤ (σ0.1 219 2).toInt ∧ (σ0.1 219 2).toInt ≤ 10 := hM.2.1
  have qm := mny_b hn.1 hn.2
  rw [f_X12_differOf.eq_1]
  refine ok_lp (fun t : Int32 × zS => Tr [] σ0 (t.2) ∧ (0 ≤ (t.1).toInt) ∧ (ZB (t.2).1)) (fun t : Int32 × zS => (1024 - (t.1).toInt).toNat) (fun again1 t hI ih2_1 => ?_) N _ (show Tr [] σ0 σ0 ∧ (0 ≤ (0 : Int32).toInt) ∧ (ZB σ0.1) from ⟨hT, (by first | omega | decide | (simp only [Int32.le_iff_toInt_le, Int32.lt_iff_toInt_lt, ti_add, ti_sub, ti_mul, Int32.reduceToInt] at *; omega)), hB⟩) (show (1024 - (0 : Int32).toInt).toNat < N from (by first | omega | decide | (simp only [Int32.le_iff_toInt_le, Int32.lt_iff_toInt_lt, ti_add, ti_sub, ti_mul, Int32.reduceToInt] at *; omega)))
  obtain ⟨x3_1, σ1⟩ := t
  have hI : Tr [] σ0 σ1 ∧ (0 ≤ x3_1.toInt) ∧ (ZB σ1.1) := hI
  obtain ⟨hT, hI1, hB⟩ := hI
  rw [F_X12_differOf_2.eq_1]
  refine ok_gC rfl ?_
  have hTc := hT
  refine ok_zbT (Q := fun V σ => V = mny (σ1.1 219 0)) hT (s_X12_many hN (hR.tr hT) (by first | exact hM | (rw [hT.2 219 (by decide)]; exact hM))) (fun _ h9 => absurd h9 List.not_mem_nil) (fun v2 σ3 hOσ3 hT hqv2 => ?_)
  have hqv2 : v2 = mny (σ1.1 219 0) := hqv2
  rw [hTc.2 219 (by decide)] at hqv2
  obtain rfl : v2 = (mny (σ0.1 219 0)) := hqv2
  have hB : ZB σ3.1 := ZB.tr hOσ3 (by decide) hB
  refine ok_if (fun hc4 => ?_) (fun hc4 => ?_)
  · exact ok_some ⟨hT, trivial⟩
  · refine ok_gC rfl ?_
    refine ok_zbT (Q := fun V σ => V = 0 ∨ V = 1) hT (s_X12_of hN (hR.tr hT) (by first | exact hM | (rw [hT.2 219 (by decide)]; exact hM)) (hB) (by first | omega | decide | (simp only [Int32.le_iff_toInt_le, Int32.lt_iff_toInt_lt, ti_add, ti_sub, ti_mul, Int32.reduceToInt] at *; omega)) (by first | omega | decide | (simp only [Int32.le_iff_toInt_le, Int32.lt_iff_toInt_lt, ti_add, ti_sub, ti_mul, Int32.reduceToInt] at *; omega))) (fun _ h9 => absurd h9 List.not_mem_nil) (fun v5 σ6 hOσ6 hT hqv5 => ?_)
    have hqv5 : v5 = 0 ∨ v5 = 1 := hqv5
    have hB : ZB σ6.1 := ZB.tr hOσ6 (by decide) hB
    refine ok_gC rfl ?_
    refine ok_zbT (Q := fun V σ => V = 0 ∨ V = 1) hT (s_X12_of hN (hR.tr hT) (by first | exact hM | (rw [hT.2 219 (by decide)]; exact hM)) (hB) (by first | omega | decide | (simp only [Int32.le_iff_toInt_le, Int32.lt_iff_toInt_lt, ti_add, ti_sub, ti_mul, Int32.reduceToInt] at *; omega)) (by first | omega | decide | (simp only [Int32.le_iff_toInt_le, Int32.lt_iff_toInt_lt, ti_add, ti_sub, ti_mul, Int32.reduceToInt] at *; omega))) (fun _ h9 => absurd h9 List.not_mem_nil) (fun v7 σ8 hOσ8 hT hqv7 => ?_)
    have hqv7 : v7 = 0 ∨ v7 = 1 := hqv7
    have hB : ZB σ8.1 := ZB.tr hOσ8 (by decide) hB
    refine ok_if (fun hc9 => ?_) (fun hc9 => ?_)
    · exact ih2_1 (x3_1 + 1, σ8) (show Tr [] σ0 σ8 ∧ (0 ≤ (x3_1 + 1).toInt) ∧ (ZB σ8.1) from ⟨hT, (by first | omega | decide | (simp only [Int32.le_iff_toInt_le, Int32.lt_iff_toInt_lt, ti_add, ti_sub, ti_mul, Int32.reduceToInt] at *; omega)), hB⟩) (show (1024 - (x3_1 + 1).toInt).toNat < (1024 - x3_1.toInt).toNat from (by first | omega | decide | (simp only [Int32.le_iff_toInt_le, Int32.lt_iff_toInt_lt, ti_add, ti_sub, ti_mul, Int32.reduceToInt] at *; omega)))
    · exact ok_some ⟨hT, trivial⟩

set_option maxHeartbeats 4000000 in
set_option maxRecDepth 100000 in
theorem s_X12_alike {N : Nat} (hN : 1048576 ≤ N) {x1 : Int32} {x2 : Int32} {σ0 : zS}  (hR : RF σ0.2.2) (hM : MW (σ0.1 219) 0) (hB : ZB σ0.1) : Ok (f_X12_alike N 218 x1 x2 σ0) (fun r => Tr [] σ0 r.2 ∧ (True)) := by
  have hT : Tr [] σ0 σ0 := Tr.rf
  have hn := hM.1
  have he : 0 ≤ (σ0.1 219 2).toInt ∧ (σ0.1 219 2).toInt ≤ 10 := hM.2.1
  have qm := mny_b hn.1 hn.2
  rw [f_X12_alike.eq_1]
  refine ok_gC rfl ?_
  refine ok_zbT (Q := fun V σ => (V = 0 ∨ V = 1) ∧ (¬ V = 0 → (0 ≤ x1.toInt ∧ x1.toInt ≤ 9) ∧ 0 ≤ x2.toInt ∧ x2.toInt ≤ 9)) hT (s_X12_areRegisters hN (hR.tr hT) (by first | exact hM | (rw [hT.2 219 (by decide)]; exact hM)) (hB)) (fun _ h9 => absurd h9 List.not_mem_nil) (fun v1 σ2 hOσ2 hT hqv1 => ?_)
  have hqv1 : (v1 = 0 ∨ v1 = 1) ∧ (¬ v1 = 0 → (0 ≤ x1.toInt ∧ x1.toInt ≤ 9) ∧ 0 ≤ x2.toInt ∧ x2.toInt ≤ 9) := hqv1
  have hB : ZB σ2.1 := ZB.tr hOσ2 (by decide) hB
  refine ok_if (fun hc3 => ?_) (fun hc3 => ?_)
  · exact ok_some ⟨hT, trivial⟩
  · have qhc3 := hqv1.2 hc3
    refine ok_gC rfl ?_
    refine ok_zbT (Q := fun V σ => True) hT (s_X12_differOf hN (hR.tr hT) (by first | exact hM | (rw [hT.2 219 (by decide)]; exact hM)) (hB) (by first | omega | decide | (simp only [Int32.le_iff_toInt_le, Int32.lt_iff_toInt_lt, ti_add, ti_sub, ti_mul, Int32.reduceToInt] at *; omega)) (by first | omega | decide | (simp only [Int32.le_iff_toInt_le, Int32.lt_iff_toInt_lt, ti_add, ti_sub, ti_mul, Int32.reduceToInt] at *; omega))) (fun _ h9 => absurd h9 List.not_mem_nil) (fun v4 σ5 hOσ5 hT hqv4 => ?_)
    have hB : ZB σ5.1 := ZB.tr hOσ5 (by decide) hB
    refine ok_if (fun hc6 => ?_) (fun hc6 => ?_)
    · exact ok_some ⟨hT, trivial⟩
    · exact ok_some ⟨hT, trivial⟩

set_option maxHeartbeats 4000000 in
set_option maxRecDepth 100000 in
theorem s_X12_differ {N : Nat} (hN : 1048576 ≤ N) {x1 : Int32} {x2 : Int32} {σ0 : zS}  (hR : RF σ0.2.2) (hM : MW (σ0.1 219) 0) (hB : ZB σ0.1) : Ok (f_X12_differ N 218 x1 x2 σ0) (fun r => Tr [] σ0 r.2 ∧ (True)) := by
  have hT : Tr [] σ0 σ0 := Tr.rf
  have hn := hM.1
  have he : 0 ≤ (σ0.1 219 2).toInt ∧ (σ0.1 219 2).toInt ≤ 10 := hM.2.1
  have qm := mny_b hn.1 hn.2
  rw [f_X12_differ.eq_1]
  refine ok_gC rfl ?_
  refine ok_zbT (Q := fun V σ => (V = 0 ∨ V = 1) ∧ (¬ V = 0 → (0 ≤ x1.toInt ∧ x1.toInt ≤ 9) ∧ 0 ≤ x2.toInt ∧ x2.toInt ≤ 9)) hT (s_X12_areRegisters hN (hR.tr hT) (by first | exact hM | (rw [hT.2 219 (by decide)]; exact hM)) (hB)) (fun _ h9 => absurd h9 List.not_mem_nil) (fun v1 σ2 hOσ2 hT hqv1 => ?_)
  have hqv1 : (v1 = 0 ∨ v1 = 1) ∧ (¬ v1 = 0 → (0 ≤ x1.toInt ∧ x1.toInt ≤ 9) ∧ 0 ≤ x2.toInt ∧ x2.toInt ≤ 9) := hqv1
  have hB : ZB σ2.1 := ZB.tr hOσ2 (by decide) hB
  refine ok_if (fun hc3 => ?_) (fun hc3 => ?_)
  · exact ok_some ⟨hT, trivial⟩
  · have qhc3 := hqv1.2 hc3
    refine ok_gC rfl ?_
    refine ok_zbT (Q := fun V σ => True) hT (s_X12_differOf hN (hR.tr hT) (by first | exact hM | (rw [hT.2 219 (by decide)]; exact hM)) (hB) (by first | omega | decide | (simp only [Int32.le_iff_toInt_le, Int32.lt_iff_toInt_lt, ti_add, ti_sub, ti_mul, Int32.reduceToInt] at *; omega)) (by first | omega | decide | (simp only [Int32.le_iff_toInt_le, Int32.lt_iff_toInt_lt, ti_add, ti_sub, ti_mul, Int32.reduceToInt] at *; omega))) (fun _ h9 => absurd h9 List.not_mem_nil) (fun v4 σ5 hOσ5 hT hqv4 => ?_)
    have hB : ZB σ5.1 := ZB.tr hOσ5 (by decide) hB
    exact ok_some ⟨hT, trivial⟩

set_option maxHeartbeats 4000000 in
set_option maxRecDepth 100000 in
theorem s_X12_within {N : Nat} (hN : 1048576 ≤ N) {x1 : Int32} {x2 : Int32} {σ0 : zS}  (hR : RF σ0.2.2) (hM : MW (σ0.1 219) 0) (hB : ZB σ0.1) : Ok (f_X12_within N 218 x1 x2 σ0) (fun r => Tr [] σ0 r.2 ∧ (True)) := by
  have hT : Tr [] σ0 σ0 := Tr.rf
  have hn := hM.1
  have he : 0 ≤ (σ0.1 219 2).toInt ∧ (σ0.1 219 2).toInt ≤ 10 := hM.2.1
  have qm := mny_b hn.1 hn.2
  rw [f_X12_within.eq_1]
  refine ok_gC rfl ?_
  refine ok_zbT (Q := fun V σ => (V = 0 ∨ V = 1) ∧ (¬ V = 0 → (0 ≤ x1.toInt ∧ x1.toInt ≤ 9) ∧ 0 ≤ x2.toInt ∧ x2.toInt ≤ 9)) hT (s_X12_areRegisters hN (hR.tr hT) (by first | exact hM | (rw [hT.2 219 (by decide)]; exact hM)) (hB)) (fun _ h9 => absurd h9 List.not_mem_nil) (fun v1 σ2 hOσ2 hT hqv1 => ?_)
  have hqv1 : (v1 = 0 ∨ v1 = 1) ∧ (¬ v1 = 0 → (0 ≤ x1.toInt ∧ x1.toInt ≤ 9) ∧ 0 ≤ x2.toInt ∧ x2.toInt ≤ 9) := hqv1
  have hB : ZB σ2.1 := ZB.tr hOσ2 (by decide) hB
  refine ok_if (fun hc3 => ?_) (fun hc3 => ?_)
  · exact ok_some ⟨hT, trivial⟩
  · have qhc3 := hqv1.2 hc3
    refine ok_lp (fun t : Int32 × zS => Tr [] σ0 (t.2) ∧ (0 ≤ (t.1).toInt) ∧ (ZB (t.2).1)) (fun t : Int32 × zS => (((mny (σ0.1 219 0))).toInt - (t.1).toInt).toNat) (fun again4 t hI ih14_4 => ?_) N _ (show Tr [] σ0 σ2 ∧ (0 ≤ (0 : Int32).toInt) ∧ (ZB σ2.1) from ⟨hT, (by first | omega | decide | (simp only [Int32.le_iff_toInt_le, Int32.lt_iff_toInt_lt, ti_add, ti_sub, ti_mul, Int32.reduceToInt] at *; omega)), hB⟩) (show (((mny (σ0.1 219 0))).toInt - (0 : Int32).toInt).toNat < N from (by first | omega | decide | (simp only [Int32.le_iff_toInt_le, Int32.lt_iff_toInt_lt, ti_add, ti_sub, ti_mul, Int32.reduceToInt] at *; omega)))
    obtain ⟨x3_4, σ4⟩ := t
    have hI : Tr [] σ0 σ4 ∧ (0 ≤ x3_4.toInt) ∧ (ZB σ4.1) := hI
    obtain ⟨hT, hI4, hB⟩ := hI
    rw [F_X12_within_14.eq_1]
    refine ok_gC rfl ?_
    have hTc := hT
    refine ok_zbT (Q := fun V σ => V = mny (σ4.1 219 0)) hT (s_X12_many hN (hR.tr hT) (by first | exact hM | (rw [hT.2 219 (by decide)]; exact hM))) (fun _ h9 => absurd h9 List.not_mem_nil) (fun v5 σ6 hOσ6 hT hqv5 => ?_)
    have hqv5 : v5 = mny (σ4.1 219 0) := hqv5
    rw [hTc.2 219 (by decide)] at hqv5
    obtain rfl : v5 = (mny (σ0.1 219 0)) := hqv5
    have hB : ZB σ6.1 := ZB.tr hOσ6 (by decide) hB
    refine ok_if (fun hc7 => ?_) (fun hc7 => ?_)
    · exact ok_some ⟨hT, trivial⟩
    · refine ok_gC rfl ?_
      refine ok_zbT (Q := fun V σ => V = 0 ∨ V = 1) hT (s_X12_of hN (hR.tr hT) (by first | exact hM | (rw [hT.2 219 (by decide)]; exact hM)) (hB) (by first | omega | decide | (simp only [Int32.le_iff_toInt_le, Int32.lt_iff_toInt_lt, ti_add, ti_sub, ti_mul, Int32.reduceToInt] at *; omega)) (by first | omega | decide | (simp only [Int32.le_iff_toInt_le, Int32.lt_iff_toInt_lt, ti_add, ti_sub, ti_mul, Int32.reduceToInt] at *; omega))) (fun _ h9 => absurd h9 List.not_mem_nil) (fun v8 σ9 hOσ9 hT hqv8 => ?_)
      have hqv8 : v8 = 0 ∨ v8 = 1 := hqv8
      have hB : ZB σ9.1 := ZB.tr hOσ9 (by decide) hB
      refine ok_if (fun hc10 => ?_) (fun hc10 => ?_)
      · exact ih14_4 (x3_4 + 1, σ9) (show Tr [] σ0 σ9 ∧ (0 ≤ (x3_4 + 1).toInt) ∧ (ZB σ9.1) from ⟨hT, (by first | omega | decide | (simp only [Int32.le_iff_toInt_le, Int32.lt_iff_toInt_lt, ti_add, ti_sub, ti_mul, Int32.reduceToInt] at *; omega)), hB⟩) (show (((mny (σ0.1 219 0))).toInt - (x3_4 + 1).toInt).toNat < (((mny (σ0.1 219 0))).toInt - x3_4.toInt).toNat from (by first | omega | decide | (simp only [Int32.le_iff_toInt_le, Int32.lt_iff_toInt_lt, ti_add, ti_sub, ti_mul, Int32.reduceToInt] at *; omega)))
      · refine ok_gC rfl ?_
        refine ok_zbT (Q := fun V σ => V = 0 ∨ V = 1) hT (s_X12_of hN (hR.tr hT) (by first | exact hM | (rw [hT.2 219 (by decide)]; exact hM)) (hB) (by first | omega | decide | (simp only [Int32.le_iff_toInt_le, Int32.lt_iff_toInt_lt, ti_add, ti_sub, ti_mul, Int32.reduceToInt] at *; omega)) (by first | omega | decide | (simp only [Int32.le_iff_toInt_le, Int32.lt_iff_toInt_lt, ti_add, ti_sub, ti_mul, Int32.reduceToInt] at *; omega))) (fun _ h9 => absurd h9 List.not_mem_nil) (fun v11 σ12 hOσ12 hT hqv11 => ?_)
        have hqv11 : v11 = 0 ∨ v11 = 1 := hqv11
        have hB : ZB σ12.1 := ZB.tr hOσ12 (by decide) hB
        refine ok_if (fun hc13 => ?_) (fun hc13 => ?_)
        · exact ok_some ⟨hT, trivial⟩
        · exact ih14_4 (x3_4 + 1, σ12) (show Tr [] σ0 σ12 ∧ (0 ≤ (x3_4 + 1).toInt) ∧ (ZB σ12.1) from ⟨hT, (by first | omega | decide | (simp only [Int32.le_iff_toInt_le, Int32.lt_iff_toInt_lt, ti_add, ti_sub, ti_mul, Int32.reduceToInt] at *; omega)), hB⟩) (show (((mny (σ0.1 219 0))).toInt - (x3_4 + 1).toInt).toNat < (((mny (σ0.1 219 0))).toInt - x3_4.toInt).toNat from (by first | omega | decide | (simp only [Int32.le_iff_toInt_le, Int32.lt_iff_toInt_lt, ti_add, ti_sub, ti_mul, Int32.reduceToInt] at *; omega)))

set_option maxHeartbeats 4000000 in
set_option maxRecDepth 100000 in
theorem s_X12_apart {N : Nat} (hN : 1048576 ≤ N) {x1 : Int32} {x2 : Int32} {σ0 : zS}  (hR : RF σ0.2.2) (hM : MW (σ0.1 219) 0) (hB : ZB σ0.1) : Ok (f_X12_apart N 218 x1 x2 σ0) (fun r => Tr [] σ0 r.2 ∧ (True)) := by
  have hT : Tr [] σ0 σ0 := Tr.rf
  have hn := hM.1
  have he : 0 ≤ (σ0.1 219 2).toInt ∧ (σ0.1 219 2).toInt ≤ 10 := hM.2.1
  have qm := mny_b hn.1 hn.2
  rw [f_X12_apart.eq_1]
  refine ok_gC rfl ?_
  refine ok_zbT (Q := fun V σ => (V = 0 ∨ V = 1) ∧ (¬ V = 0 → (0 ≤ x1.toInt ∧ x1.toInt ≤ 9) ∧ 0 ≤ x2.toInt ∧ x2.toInt ≤ 9)) hT (s_X12_areRegisters hN (hR.tr hT) (by first | exact hM | (rw [hT.2 219 (by decide)]; exact hM)) (hB)) (fun _ h9 => absurd h9 List.not_mem_nil) (fun v1 σ2 hOσ2 hT hqv1 => ?_)
  have hqv1 : (v1 = 0 ∨ v1 = 1) ∧ (¬ v1 = 0 → (0 ≤ x1.toInt ∧ x1.toInt ≤ 9) ∧ 0 ≤ x2.toInt ∧ x2.toInt ≤ 9) := hqv1
  have hB : ZB σ2.1 := ZB.tr hOσ2 (by decide) hB
  refine ok_if (fun hc3 => ?_) (fun hc3 => ?_)
  · exact ok_some ⟨hT, trivial⟩
  · have qhc3 := hqv1.2 hc3
    refine ok_lp (fun t : Int32 × Int32 × zS => Tr [] σ0 (t.2.2) ∧ (0 ≤ (t.2.1).toInt) ∧ (ZB (t.2.2).1)) (fun t : Int32 × Int32 × zS => (1024 - (t.2.1).toInt).toNat) (fun again4 t hI ih17_4 => ?_) N _ (show Tr [] σ0 σ2 ∧ (0 ≤ (0 : Int32).toInt) ∧ (ZB σ2.1) from ⟨hT, (by first | omega | decide | (simp only [Int32.le_iff_toInt_le, Int32.lt_iff_toInt_lt, ti_add, ti_sub, ti_mul, Int32.reduceToInt] at *; omega)), hB⟩) (show (1024 - (0 : Int32).toInt).toNat < N from (by first | omega | decide | (simp only [Int32.le_iff_toInt_le, Int32.lt_iff_toInt_lt, ti_add, ti_sub, ti_mul, Int32.reduceToInt] at *; omega)))
    obtain ⟨x3_4, x4_4, σ4⟩ := t
    have hI : Tr [] σ0 σ4 ∧ (0 ≤ x4_4.toInt) ∧ (ZB σ4.1) := hI
    obtain ⟨hT, hI4, hB⟩ := hI
    rw [F_X12_apart_17.eq_1]
    refine ok_gC rfl ?_
    have hTc := hT
    refine ok_zbT (Q := fun V σ => V = mny (σ4.1 219 0)) hT (s_X12_many hN (hR.tr hT) (by first | exact hM | (rw [hT.2 219 (by decide)]; exact hM))) (fun _ h9 => absurd h9 List.not_mem_nil) (fun v5 σ6 hOσ6 hT hqv5 => ?_)
    have hqv5 : v5 = mny (σ4.1 219 0) := hqv5
    rw [hTc.2 219 (by decide)] at hqv5
    obtain rfl : v5 = (mny (σ0.1 219 0)) := hqv5
    have hB : ZB σ6.1 := ZB.tr hOσ6 (by decide) hB
    refine ok_if (fun hc7 => ?_) (fun hc7 => ?_)
    · exact ok_some ⟨hT, trivial⟩
    · refine ok_lp (fun t : Int32 × Int32 × zS => Tr [] σ0 (t.2.2) ∧ (0 ≤ (t.2.1).toInt) ∧ (ZB (t.2.2).1)) (fun t : Int32 × Int32 × zS => (1024 - (t.2.1).toInt).toNat) (fun again8 t hI ih29_8 => ?_) N _ (show Tr [] σ0 σ6 ∧ (0 ≤ (0 : Int32).toInt) ∧ (ZB σ6.1) from ⟨hT, (by first | omega | decide | (simp only [Int32.le_iff_toInt_le, Int32.lt_iff_toInt_lt, ti_add, ti_sub, ti_mul, Int32.reduceToInt] at *; omega)), hB⟩) (show (1024 - (0 : Int32).toInt).toNat < N from (by first | omega | decide | (simp only [Int32.le_iff_toInt_le, Int32.lt_iff_toInt_lt, ti_add, ti_sub, ti_mul, Int32.reduceToInt] at *; omega)))
      obtain ⟨x3_8, x5_8, σ8⟩ := t
      have hI : Tr [] σ0 σ8 ∧ (0 ≤ x5_8.toInt) ∧ (ZB σ8.1) := hI
      obtain ⟨hT, hI8, hB⟩ := hI
      rw [F_X12_apart_29.eq_1]
      refine ok_gC rfl ?_
      have hTc := hT
      refine ok_zbT (Q := fun V σ => V = mny (σ8.1 219 0)) hT (s_X12_many hN (hR.tr hT) (by first | exact hM | (rw [hT.2 219 (by decide)]; exact hM))) (fun _ h9 => absurd h9 List.not_mem_nil) (fun v9 σ10 hOσ10 hT hqv9 => ?_)
      have hqv9 : v9 = mny (σ8.1 219 0) := hqv9
      rw [hTc.2 219 (by decide)] at hqv9
      obtain rfl : v9 = (mny (σ0.1 219 0)) := hqv9
      have hB : ZB σ10.1 := ZB.tr hOσ10 (by decide) hB
      refine ok_if (fun hc11 => ?_) (fun hc11 => ?_)
      · exact ih17_4 (x3_8, x4_4 + 1, σ10) (show Tr [] σ0 σ10 ∧ (0 ≤ (x4_4 + 1).toInt) ∧ (ZB σ10.1) from ⟨hT, (by first | omega | decide | (simp only [Int32.le_iff_toInt_le, Int32.lt_iff_toInt_lt, ti_add, ti_sub, ti_mul, Int32.reduceToInt] at *; omega)), hB⟩) (show (1024 - (x4_4 + 1).toInt).toNat < (1024 - x4_4.toInt).toNat from (by first | omega | decide | (simp only [Int32.le_iff_toInt_le, Int32.lt_iff_toInt_lt, ti_add, ti_sub, ti_mul, Int32.reduceToInt] at *; omega)))
      · refine ok_gC rfl ?_
        refine ok_zbT (Q := fun V σ => V = 0 ∨ V = 1) hT (s_X12_of hN (hR.tr hT) (by first | exact hM | (rw [hT.2 219 (by decide)]; exact hM)) (hB) (by first | omega | decide | (simp only [Int32.le_iff_toInt_le, Int32.lt_iff_toInt_lt, ti_add, ti_sub, ti_mul, Int32.reduceToInt] at *; omega)) (by first | omega | decide | (simp only [Int32.le_iff_toInt_le, Int32.lt_iff_toInt_lt, ti_add, ti_sub, ti_mul, Int32.reduceToInt] at *; omega))) (fun _ h9 => absurd h9 List.not_mem_nil) (fun v12 σ13 hOσ13 hT hqv12 => ?_)
        have hqv12 : v12 = 0 ∨ v12 = 1 := hqv12
        have hB : ZB σ13.1 := ZB.tr hOσ13 (by decide) hB
        refine ok_if (fun hc14 => ?_) (fun hc14 => ?_)
        · exact ih17_4 (x3_8, x4_4 + 1, σ13) (show Tr [] σ0 σ13 ∧ (0 ≤ (x4_4 + 1).toInt) ∧ (ZB σ13.1) from ⟨hT, (by first | omega | decide | (simp only [Int32.le_iff_toInt_le, Int32.lt_iff_toInt_lt, ti_add, ti_sub, ti_mul, Int32.reduceToInt] at *; omega)), hB⟩) (show (1024 - (x4_4 + 1).toInt).toNat < (1024 - x4_4.toInt).toNat from (by first | omega | decide | (simp only [Int32.le_iff_toInt_le, Int32.lt_iff_toInt_lt, ti_add, ti_sub, ti_mul, Int32.reduceToInt] at *; omega)))
        · refine ok_gC rfl ?_
          refine ok_zbT (Q := fun V σ => V = 0 ∨ V = 1) hT (s_X12_of hN (hR.tr hT) (by first | exact hM | (rw [hT.2 219 (by decide)]; exact hM)) (hB) (by first | omega | decide | (simp only [Int32.le_iff_toInt_le, Int32.lt_iff_toInt_lt, ti_add, ti_sub, ti_mul, Int32.reduceToInt] at *; omega)) (by first | omega | decide | (simp only [Int32.le_iff_toInt_le, Int32.lt_iff_toInt_lt, ti_add, ti_sub, ti_mul, Int32.reduceToInt] at *; omega))) (fun _ h9 => absurd h9 List.not_mem_nil) (fun v15 σ16 hOσ16 hT hqv15 => ?_)
          have hqv15 : v15 = 0 ∨ v15 = 1 := hqv15
          have hB : ZB σ16.1 := ZB.tr hOσ16 (by decide) hB
          refine ok_if (fun hc17 => ?_) (fun hc17 => ?_)
          · exact ih29_8 (x3_8 + 0, x5_8 + 1, σ16) (show Tr [] σ0 σ16 ∧ (0 ≤ (x5_8 + 1).toInt) ∧ (ZB σ16.1) from ⟨hT, (by first | omega | decide | (simp only [Int32.le_iff_toInt_le, Int32.lt_iff_toInt_lt, ti_add, ti_sub, ti_mul, Int32.reduceToInt] at *; omega)), hB⟩) (show (1024 - (x5_8 + 1).toInt).toNat < (1024 - x5_8.toInt).toNat from (by first | omega | decide | (simp only [Int32.le_iff_toInt_le, Int32.lt_iff_toInt_lt, ti_add, ti_sub, ti_mul, Int32.reduceToInt] at *; omega)))
          · refine ok_if (fun hc18 => ?_) (fun hc18 => ?_)
            · exact ih29_8 (x3_8 + 1, x5_8 + 1, σ16) (show Tr [] σ0 σ16 ∧ (0 ≤ (x5_8 + 1).toInt) ∧ (ZB σ16.1) from ⟨hT, (by first | omega | decide | (simp only [Int32.le_iff_toInt_le, Int32.lt_iff_toInt_lt, ti_add, ti_sub, ti_mul, Int32.reduceToInt] at *; omega)), hB⟩) (show (1024 - (x5_8 + 1).toInt).toNat < (1024 - x5_8.toInt).toNat from (by first | omega | decide | (simp only [Int32.le_iff_toInt_le, Int32.lt_iff_toInt_lt, ti_add, ti_sub, ti_mul, Int32.reduceToInt] at *; omega)))
            · exact ih29_8 (x3_8 + 0, x5_8 + 1, σ16) (show Tr [] σ0 σ16 ∧ (0 ≤ (x5_8 + 1).toInt) ∧ (ZB σ16.1) from ⟨hT, (by first | omega | decide | (simp only [Int32.le_iff_toInt_le, Int32.lt_iff_toInt_lt, ti_add, ti_sub, ti_mul, Int32.reduceToInt] at *; omega)), hB⟩) (show (1024 - (x5_8 + 1).toInt).toNat < (1024 - x5_8.toInt).toNat from (by first | omega | decide | (simp only [Int32.le_iff_toInt_le, Int32.lt_iff_toInt_lt, ti_add, ti_sub, ti_mul, Int32.reduceToInt] at *; omega)))

set_option maxHeartbeats 4000000 in
set_option maxRecDepth 100000 in
theorem s_X12_packs {N : Nat} (hN : 1048576 ≤ N) {x1 : Int32} {x2 : Int32} {σ0 : zS}  (hR : RF σ0.2.2) (hM : MW (σ0.1 219) 0) (hB : ZB σ0.1) : Ok (f_X12_packs N 218 x1 x2 σ0) (fun r => Tr [233] σ0 r.2 ∧ (True)) := by
  have hT : Tr [233] σ0 σ0 := Tr.rf
  have hn := hM.1
  have he : 0 ≤ (σ0.1 219 2).toInt ∧ (σ0.1 219 2).toInt ≤ 10 := hM.2.1
  have qm := mny_b hn.1 hn.2
  rw [f_X12_packs.eq_1]
  refine ok_gC rfl ?_
  refine ok_zbT (Q := fun V σ => (V = 0 ∨ V = 1) ∧ (¬ V = 0 → 0 ≤ x1.toInt ∧ x1.toInt ≤ 9)) hT (s_X12_isRegister hN (hR.tr hT) (by first | exact hM | (rw [hT.2 219 (by decide)]; exact hM))) (fun _ h9 => absurd h9 List.not_mem_nil) (fun v1 σ2 hOσ2 hT hqv1 => ?_)
  have hqv1 : (v1 = 0 ∨ v1 = 1) ∧ (¬ v1 = 0 → 0 ≤ x1.toInt ∧ x1.toInt ≤ 9) := hqv1
  have hB : ZB σ2.1 := ZB.tr hOσ2 (by decide) hB
  refine ok_if (fun hc3 => ?_) (fun hc3 => ?_)
  · exact ok_some ⟨hT, trivial⟩
  · have qhc3 := hqv1.2 hc3
    refine ok_zbT (Q := fun V σ => (V = 0 ∨ V = 1) ∧ (¬ V = 0 → (0 : Int64).toInt ≤ (Int32.toInt64 x2).toInt ∧ (Int32.toInt64 x2).toInt ≤ (1 : Int64).toInt)) hT (s_X12_in hN (hR.tr hT) ) (fun _ h9 => absurd h9 List.not_mem_nil) (fun v4 σ5 hOσ5 hT hqv4 => ?_)
    have hqv4 : (v4 = 0 ∨ v4 = 1) ∧ (¬ v4 = 0 → (0 : Int64).toInt ≤ (Int32.toInt64 x2).toInt ∧ (Int32.toInt64 x2).toInt ≤ (1 : Int64).toInt) := hqv4
    simp only [i64_of, Int64.reduceToInt] at hqv4
    have hB : ZB σ5.1 := ZB.tr hOσ5 (by decide) hB
    refine ok_if (fun hc6 => ?_) (fun hc6 => ?_)
    · exact ok_some ⟨hT, trivial⟩
    · have qhc6 := hqv4.2 hc6
      refine ok_gC rfl ?_
      refine ok_zbT (Q := fun V σ => 0 ≤ V.toInt ∧ V.toInt ≤ 1024) hT (s_X12_sizeOf hN (hR.tr hT) (by first | exact hM | (rw [hT.2 219 (by decide)]; exact hM)) (hB) (by first | omega | decide | (simp only [Int32.le_iff_toInt_le, Int32.lt_iff_toInt_lt, ti_add, ti_sub, ti_mul, Int32.reduceToInt] at *; omega))) (fun _ h9 => absurd h9 List.not_mem_nil) (fun v7 σ8 hOσ8 hT hqv7 => ?_)
      have hqv7 : 0 ≤ v7.toInt ∧ v7.toInt ≤ 1024 := hqv7
      have hB : ZB σ8.1 := ZB.tr hOσ8 (by decide) hB
      refine ok_if (fun hc9 => ?_) (fun hc9 => ?_)
      · exact ok_some ⟨hT, trivial⟩
      · refine ok_if (fun hc10 => ?_) (fun hc10 => ?_)
        · have q12 := ti_one12 (x := v7) (by first | omega | (simp only [Int32.le_iff_toInt_le, Int32.lt_iff_toInt_lt, ti_add, ti_sub, ti_mul, Int32.reduceToInt] at *; omega)) (by first | omega | (simp only [Int32.le_iff_toInt_le, Int32.lt_iff_toInt_lt, ti_add, ti_sub, ti_mul, Int32.reduceToInt] at *; omega))
          refine ok_lp (fun t : Int32 × Int32 × zS => Tr [233] σ0 (t.2.2) ∧ (0 ≤ (t.2.1).toInt) ∧ (ZB (t.2.2).1)) (fun t : Int32 × Int32 × zS => (12 - (t.2.1).toInt).toNat) (fun again11 t hI ih48_11 => ?_) N _ (show Tr [233] σ0 σ8 ∧ (0 ≤ (0 : Int32).toInt) ∧ (ZB σ8.1) from ⟨hT, (by first | omega | decide | (simp only [Int32.le_iff_toInt_le, Int32.lt_iff_toInt_lt, ti_add, ti_sub, ti_mul, Int32.reduceToInt] at *; omega)), hB⟩) (show (12 - (0 : Int32).toInt).toNat < N from (by first | omega | decide | (simp only [Int32.le_iff_toInt_le, Int32.lt_iff_toInt_lt, ti_add, ti_sub, ti_mul, Int32.reduceToInt] at *; omega)))
          obtain ⟨x4_11, x5_11, σ11⟩ := t
          have hI : Tr [233] σ0 σ11 ∧ (0 ≤ x5_11.toInt) ∧ (ZB σ11.1) := hI
          obtain ⟨hT, hI11, hB⟩ := hI
          rw [F_X12_packs_48.eq_1]
          refine ok_if (fun hc12 => ?_) (fun hc12 => ?_)
          · refine ok_lp (fun t : Int32 × Int32 × Int32 × zS => Tr [233] σ0 (t.2.2.2) ∧ (0 ≤ (t.2.2.1).toInt) ∧ (ZB (t.2.2.2).1)) (fun t : Int32 × Int32 × Int32 × zS => (4096 - (t.2.2.1).toInt).toNat) (fun again13 t hI ih95_13 => ?_) N _ (show Tr [233] σ0 σ11 ∧ (0 ≤ (0 : Int32).toInt) ∧ (ZB σ11.1) from ⟨hT, (by first | omega | decide | (simp only [Int32.le_iff_toInt_le, Int32.lt_iff_toInt_lt, ti_add, ti_sub, ti_mul, Int32.reduceToInt] at *; omega)), hB⟩) (show (4096 - (0 : Int32).toInt).toNat < N from (by first | omega | decide | (simp only [Int32.le_iff_toInt_le, Int32.lt_iff_toInt_lt, ti_add, ti_sub, ti_mul, Int32.reduceToInt] at *; omega)))
            obtain ⟨x5_13, x6_13, x7_13, σ13⟩ := t
            have hI : Tr [233] σ0 σ13 ∧ (0 ≤ x7_13.toInt) ∧ (ZB σ13.1) := hI
            obtain ⟨hT, hI13, hB⟩ := hI
            rw [F_X12_packs_95.eq_1]
            refine ok_if (fun hc14 => ?_) (fun hc14 => ?_)
            · refine ok_if (fun hc15 => ?_) (fun hc15 => ?_)
              · exact ok_some ⟨hT, trivial⟩
              · exact ok_some ⟨hT, trivial⟩
            · refine ok_lp (fun t : Int32 × Int32 × Int32 × Int32 × zS => Tr [233] σ0 (t.2.2.2.2) ∧ (0 ≤ (t.2.2.2.1).toInt) ∧ (ZB (t.2.2.2.2).1)) (fun t : Int32 × Int32 × Int32 × Int32 × zS => (12 - (t.2.2.2.1).toInt).toNat) (fun again16 t hI ih115_16 => ?_) N _ (show Tr [233] σ0 σ13 ∧ (0 ≤ (0 : Int32).toInt) ∧ (ZB σ13.1) from ⟨hT, (by first | omega | decide | (simp only [Int32.le_iff_toInt_le, Int32.lt_iff_toInt_lt, ti_add, ti_sub, ti_mul, Int32.reduceToInt] at *; omega)), hB⟩) (show (12 - (0 : Int32).toInt).toNat < N from (by first | omega | decide | (simp only [Int32.le_iff_toInt_le, Int32.lt_iff_toInt_lt, ti_add, ti_sub, ti_mul, Int32.reduceToInt] at *; omega)))
              obtain ⟨x8_16, x9_16, x10_16, x11_16, σ16⟩ := t
              have hI : Tr [233] σ0 σ16 ∧ (0 ≤ x11_16.toInt) ∧ (ZB σ16.1) := hI
              obtain ⟨hT, hI16, hB⟩ := hI
              rw [F_X12_packs_115.eq_1]
              refine ok_if (fun hc17 => ?_) (fun hc17 => ?_)
              · refine ok_if (fun hc18 => ?_) (fun hc18 => ?_)
                · rw [J_X12_packs_199.eq_1]
                  refine ok_if (fun hc19 => ?_) (fun hc19 => ?_)
                  · exact ih95_13 (zmin x5_13 x9_16, x6_13, x7_13 + 1, σ16) (show Tr [233] σ0 σ16 ∧ (0 ≤ (x7_13 + 1).toInt) ∧ (ZB σ16.1) from ⟨hT, (by first | omega | decide | (simp only [Int32.le_iff_toInt_le, Int32.lt_iff_toInt_lt, ti_add, ti_sub, ti_mul, Int32.reduceToInt] at *; omega)), hB⟩) (show (4096 - (x7_13 + 1).toInt).toNat < (4096 - x7_13.toInt).toNat from (by first | omega | decide | (simp only [Int32.le_iff_toInt_le, Int32.lt_iff_toInt_lt, ti_add, ti_sub, ti_mul, Int32.reduceToInt] at *; omega)))
                  · exact ih95_13 (zmin x5_13 x9_16, zmax x6_13 x9_16, x7_13 + 1, σ16) (show Tr [233] σ0 σ16 ∧ (0 ≤ (x7_13 + 1).toInt) ∧ (ZB σ16.1) from ⟨hT, (by first | omega | decide | (simp only [Int32.le_iff_toInt_le, Int32.lt_iff_toInt_lt, ti_add, ti_sub, ti_mul, Int32.reduceToInt] at *; omega)), hB⟩) (show (4096 - (x7_13 + 1).toInt).toNat < (4096 - x7_13.toInt).toNat from (by first | omega | decide | (simp only [Int32.le_iff_toInt_le, Int32.lt_iff_toInt_lt, ti_add, ti_sub, ti_mul, Int32.reduceToInt] at *; omega)))
                · rw [J_X12_packs_199.eq_1]
                  refine ok_if (fun hc20 => ?_) (fun hc20 => ?_)
                  · exact ih95_13 (x5_13, x6_13, x7_13 + 1, σ16) (show Tr [233] σ0 σ16 ∧ (0 ≤ (x7_13 + 1).toInt) ∧ (ZB σ16.1) from ⟨hT, (by first | omega | decide | (simp only [Int32.le_iff_toInt_le, Int32.lt_iff_toInt_lt, ti_add, ti_sub, ti_mul, Int32.reduceToInt] at *; omega)), hB⟩) (show (4096 - (x7_13 + 1).toInt).toNat < (4096 - x7_13.toInt).toNat from (by first | omega | decide | (simp only [Int32.le_iff_toInt_le, Int32.lt_iff_toInt_lt, ti_add, ti_sub, ti_mul, Int32.reduceToInt] at *; omega)))
                  · exact ih95_13 (x5_13, zmax x6_13 x9_16, x7_13 + 1, σ16) (show Tr [233] σ0 σ16 ∧ (0 ≤ (x7_13 + 1).toInt) ∧ (ZB σ16.1) from ⟨hT, (by first | omega | decide | (simp only [Int32.le_iff_toInt_le, Int32.lt_iff_toInt_lt, ti_add, ti_sub, ti_mul, Int32.reduceToInt] at *; omega)), hB⟩) (show (4096 - (x7_13 + 1).toInt).toNat < (4096 - x7_13.toInt).toNat from (by first | omega | decide | (simp only [Int32.le_iff_toInt_le, Int32.lt_iff_toInt_lt, ti_add, ti_sub, ti_mul, Int32.reduceToInt] at *; omega)))
              · refine ok_if (fun hc21 => ?_) (fun hc21 => ?_)
                · exact ih115_16 (x8_16, x9_16, x10_16, x11_16 + 1, σ16) (show Tr [233] σ0 σ16 ∧ (0 ≤ (x11_16 + 1).toInt) ∧ (ZB σ16.1) from ⟨hT, (by first | omega | decide | (simp only [Int32.le_iff_toInt_le, Int32.lt_iff_toInt_lt, ti_add, ti_sub, ti_mul, Int32.reduceToInt] at *; omega)), hB⟩) (show (12 - (x11_16 + 1).toInt).toNat < (12 - x11_16.toInt).toNat from (by first | omega | decide | (simp only [Int32.le_iff_toInt_le, Int32.lt_iff_toInt_lt, ti_add, ti_sub, ti_mul, Int32.reduceToInt] at *; omega)))
                · refine ok_if (fun hc22 => ?_) (fun hc22 => ?_)
                  · refine ok_gR (v := 233) hT rfl (hR 218 28 rfl) ?_
                    refine ok_aIn rfl (by first | omega | decide | (simp only [Int32.le_iff_toInt_le, Int32.lt_iff_toInt_lt, ti_add, ti_sub, ti_mul, Int32.reduceToInt] at *; omega)) (by first | omega | decide | (simp only [Int32.le_iff_toInt_le, Int32.lt_iff_toInt_lt, ti_add, ti_sub, ti_mul, Int32.reduceToInt] at *; omega)) (fun v24 ev24 => ?_)
                    exact ih115_16 (x8_16 ||| v24, x9_16 + 1, 0, x11_16 + 1, σ16) (show Tr [233] σ0 σ16 ∧ (0 ≤ (x11_16 + 1).toInt) ∧ (ZB σ16.1) from ⟨hT, (by first | omega | decide | (simp only [Int32.le_iff_toInt_le, Int32.lt_iff_toInt_lt, ti_add, ti_sub, ti_mul, Int32.reduceToInt] at *; omega)), hB⟩) (show (12 - (x11_16 + 1).toInt).toNat < (12 - x11_16.toInt).toNat from (by first | omega | decide | (simp only [Int32.le_iff_toInt_le, Int32.lt_iff_toInt_lt, ti_add, ti_sub, ti_mul, Int32.reduceToInt] at *; omega)))
                  · refine ok_gR (v := 233) hT rfl (hR 218 28 rfl) ?_
                    refine ok_aIn rfl (by first | omega | decide | (simp only [Int32.le_iff_toInt_le, Int32.lt_iff_toInt_lt, ti_add, ti_sub, ti_mul, Int32.reduceToInt] at *; omega)) (by first | omega | decide | (simp only [Int32.le_iff_toInt_le, Int32.lt_iff_toInt_lt, ti_add, ti_sub, ti_mul, Int32.reduceToInt] at *; omega)) (fun v26 ev26 => ?_)
                    refine ok_if (fun hc27 => ?_) (fun hc27 => ?_)
                    · refine ok_gR (v := 233) hT rfl (hR 218 28 rfl) ?_
                      refine ok_aIn rfl (by first | omega | decide | (simp only [Int32.le_iff_toInt_le, Int32.lt_iff_toInt_lt, ti_add, ti_sub, ti_mul, Int32.reduceToInt] at *; omega)) (by first | omega | decide | (simp only [Int32.le_iff_toInt_le, Int32.lt_iff_toInt_lt, ti_add, ti_sub, ti_mul, Int32.reduceToInt] at *; omega)) (fun v29 ev29 => ?_)
                      exact ih115_16 (x8_16 ||| v29, x9_16 + 1, 1, x11_16 + 1, σ16) (show Tr [233] σ0 σ16 ∧ (0 ≤ (x11_16 + 1).toInt) ∧ (ZB σ16.1) from ⟨hT, (by first | omega | decide | (simp only [Int32.le_iff_toInt_le, Int32.lt_iff_toInt_lt, ti_add, ti_sub, ti_mul, Int32.reduceToInt] at *; omega)), hB⟩) (show (12 - (x11_16 + 1).toInt).toNat < (12 - x11_16.toInt).toNat from (by first | omega | decide | (simp only [Int32.le_iff_toInt_le, Int32.lt_iff_toInt_lt, ti_add, ti_sub, ti_mul, Int32.reduceToInt] at *; omega)))
                    · refine ok_gR (v := 233) hT rfl (hR 218 28 rfl) ?_
                      refine ok_aIn rfl (by first | omega | decide | (simp only [Int32.le_iff_toInt_le, Int32.lt_iff_toInt_lt, ti_add, ti_sub, ti_mul, Int32.reduceToInt] at *; omega)) (by first | omega | decide | (simp only [Int32.le_iff_toInt_le, Int32.lt_iff_toInt_lt, ti_add, ti_sub, ti_mul, Int32.reduceToInt] at *; omega)) (fun v31 ev31 => ?_)
                      exact ih115_16 (x8_16 ||| v31, x9_16 + 1, 0, x11_16 + 1, σ16) (show Tr [233] σ0 σ16 ∧ (0 ≤ (x11_16 + 1).toInt) ∧ (ZB σ16.1) from ⟨hT, (by first | omega | decide | (simp only [Int32.le_iff_toInt_le, Int32.lt_iff_toInt_lt, ti_add, ti_sub, ti_mul, Int32.reduceToInt] at *; omega)), hB⟩) (show (12 - (x11_16 + 1).toInt).toNat < (12 - x11_16.toInt).toNat from (by first | omega | decide | (simp only [Int32.le_iff_toInt_le, Int32.lt_iff_toInt_lt, ti_add, ti_sub, ti_mul, Int32.reduceToInt] at *; omega)))
          · refine ok_gR (v := 233) hT rfl (hR 218 28 rfl) ?_
            refine ok_gC rfl ?_
            refine ok_zbT (Q := fun V σ => -1 ≤ V.toInt ∧ V.toInt ≤ 1023) hT (s_X12_nthOf hN (hR.tr hT) (by first | exact hM | (rw [hT.2 219 (by decide)]; exact hM)) (hB) (by first | omega | decide | (simp only [Int32.le_iff_toInt_le, Int32.lt_iff_toInt_lt, ti_add, ti_sub, ti_mul, Int32.reduceToInt] at *; omega))) (fun _ h9 => absurd h9 List.not_mem_nil) (fun v33 σ34 hOσ34 hT hqv33 => ?_)
            have hqv33 : -1 ≤ v33.toInt ∧ v33.toInt ≤ 1023 := hqv33
            have hB : ZB σ34.1 := ZB.tr hOσ34 (by decide) hB
            refine ok_s14 hT rfl (by decide) (by first | omega | decide | (simp only [Int32.le_iff_toInt_le, Int32.lt_iff_toInt_lt, ti_add, ti_sub, ti_mul, Int32.reduceToInt] at *; omega)) (by first | omega | decide | (simp only [Int32.le_iff_toInt_le, Int32.lt_iff_toInt_lt, ti_add, ti_sub, ti_mul, Int32.reduceToInt] at *; omega)) (fun σ35 eσ35 hOσ35 hT => ?_)
            have hB : ZB σ35.1 := ZB.tr hOσ35 (by decide) hB
            refine ok_gR (v := 233) hT rfl (hR 218 28 rfl) ?_
            refine ok_aIn rfl (by first | omega | decide | (simp only [Int32.le_iff_toInt_le, Int32.lt_iff_toInt_lt, ti_add, ti_sub, ti_mul, Int32.reduceToInt] at *; omega)) (by first | omega | decide | (simp only [Int32.le_iff_toInt_le, Int32.lt_iff_toInt_lt, ti_add, ti_sub, ti_mul, Int32.reduceToInt] at *; omega)) (fun v37 ev37 => ?_)
            exact ih48_11 (x4_11 ||| v37, x5_11 + 1, σ35) (show Tr [233] σ0 σ35 ∧ (0 ≤ (x5_11 + 1).toInt) ∧ (ZB σ35.1) from ⟨hT, (by first | omega | decide | (simp only [Int32.le_iff_toInt_le, Int32.lt_iff_toInt_lt, ti_add, ti_sub, ti_mul, Int32.reduceToInt] at *; omega)), hB⟩) (show (12 - (x5_11 + 1).toInt).toNat < (12 - x5_11.toInt).toNat from (by first | omega | decide | (simp only [Int32.le_iff_toInt_le, Int32.lt_iff_toInt_lt, ti_add, ti_sub, ti_mul, Int32.reduceToInt] at *; omega)))
        · exact ok_some ⟨hT, trivial⟩

set_option maxHeartbeats 4000000 in
set_option maxRecDepth 100000 in
theorem s_X12_weigh {N : Nat} (hN : 1048576 ≤ N) {x1 : Int32} {x2 : Int32} {σ0 : zS}  (hR : RF σ0.2.2) (hM : MW (σ0.1 219) 0) : Ok (f_X12_weigh N 218 x1 x2 σ0) (fun r => Tr [219] σ0 r.2 ∧ (MW (r.2.1 219) 0)) := by
  have hT : Tr [219] σ0 σ0 := Tr.rf
  have hn := hM.1
  have he : 0 ≤ (σ0.1 219 2).toInt ∧ (σ0.1 219 2).toInt ≤ 10 := hM.2.1
  have qm := mny_b hn.1 hn.2
  rw [f_X12_weigh.eq_1]
  refine ok_gC rfl ?_
  refine ok_zbT (Q := fun V σ => (V = 0 ∨ V = 1) ∧ (¬ V = 0 → 0 ≤ x1.toInt ∧ x1.toInt < (σ0.1 219 0).toInt)) hT (s_X12_isName hN (hR.tr hT) (hM)) (fun _ h9 => absurd h9 List.not_mem_nil) (fun v1 σ2 hOσ2 hT hqv1 => ?_)
  have hqv1 : (v1 = 0 ∨ v1 = 1) ∧ (¬ v1 = 0 → 0 ≤ x1.toInt ∧ x1.toInt < (σ0.1 219 0).toInt) := hqv1
  have hM : MW (σ2.1 219) 0 := by rw [hOσ2.2 219 (by decide)] <;> exact hM
  refine ok_if (fun hc3 => ?_) (fun hc3 => ?_)
  · exact ok_some ⟨hT, (show MW (σ2.1 219) 0 from by exact hM)⟩
  · have qhc3 := hqv1.2 hc3
    refine ok_zbT (Q := fun V σ => (V = 0 ∨ V = 1) ∧ (¬ V = 0 → (0 : Int64).toInt ≤ (Int32.toInt64 x2).toInt ∧ (Int32.toInt64 x2).toInt ≤ (99 : Int64).toInt)) hT (s_X12_in hN (hR.tr hT) ) (fun _ h9 => absurd h9 List.not_mem_nil) (fun v4 σ5 hOσ5 hT hqv4 => ?_)
    have hqv4 : (v4 = 0 ∨ v4 = 1) ∧ (¬ v4 = 0 → (0 : Int64).toInt ≤ (Int32.toInt64 x2).toInt ∧ (Int32.toInt64 x2).toInt ≤ (99 : Int64).toInt) := hqv4
    simp only [i64_of, Int64.reduceToInt] at hqv4
    have hM : MW (σ5.1 219) 0 := by rw [hOσ5.2 219 (by decide)] <;> exact hM
    refine ok_if (fun hc6 => ?_) (fun hc6 => ?_)
    · exact ok_some ⟨hT, (show MW (σ5.1 219) 0 from by exact hM)⟩
    · have qhc6 := hqv4.2 hc6
      refine ok_gR (v := 219) hT rfl (hR 218 1 rfl) ?_
      refine ok_aIn rfl (by first | omega | decide | (simp only [Int32.le_iff_toInt_le, Int32.lt_iff_toInt_lt, ti_add, ti_sub, ti_mul, Int32.reduceToInt] at *; omega)) (by first | omega | decide | (simp only [Int32.le_iff_toInt_le, Int32.lt_iff_toInt_lt, ti_add, ti_sub, ti_mul, Int32.reduceToInt] at *; omega)) (fun v8 ev8 => ?_)
      refine ok_gR (v := 219) hT rfl (hR 218 1 rfl) ?_
      refine ok_s14 hT rfl (by decide) (by first | omega | decide | (simp only [Int32.le_iff_toInt_le, Int32.lt_iff_toInt_lt, ti_add, ti_sub, ti_mul, Int32.reduceToInt] at *; omega)) (by first | omega | decide | (simp only [Int32.le_iff_toInt_le, Int32.lt_iff_toInt_lt, ti_add, ti_sub, ti_mul, Int32.reduceToInt] at *; omega)) (fun σ10 eσ10 hOσ10 hT => ?_)
      have hM : MW (σ10.1 219) 0 := MW_w eσ10 (by have e9 : Int32.toNatClampNeg (3 + x1) = (3 + x1).toInt.toNat := rfl; rw [e9]; simp only [Int32.le_iff_toInt_le, Int32.lt_iff_toInt_lt, ti_add, ti_sub, ti_mul, Int32.reduceToInt] at *; omega) (by have e9 : Int32.toNatClampNeg (3 + x1) = (3 + x1).toInt.toNat := rfl; rw [e9]; simp only [Int32.le_iff_toInt_le, Int32.lt_iff_toInt_lt, ti_add, ti_sub, ti_mul, Int32.reduceToInt] at *; omega) hM
      exact ok_some ⟨hT, (show MW (σ10.1 219) 0 from by exact hM)⟩
end Zq5_3

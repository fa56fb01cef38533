/-! ===== what changes a register: makes, turn, sets, change, half, level ===== -/
section CONG
variable {X X' Y Y' : Nat → Bool} {n u : Nat} {w : Int32}
theorem OV_c (hX : ∀ k, k < 1024 → X k = X' k) (hY : ∀ k, k < 1024 → Y k = Y' k) (hn : n ≤ 1024) (hu : u < 1024) (h : OV X Y n u) : OV X' Y' n u := by
  obtain ⟨⟨t, a, b⟩, c⟩ := h
  refine ⟨⟨t, a, by rw [← hY t (by omega)]; exact b⟩, fun t a b => ?_⟩
  have := c t a (by rw [hY t (by omega)]; exact b)
  exact ⟨this.1, by rw [← hX _ (or_1024 hu (by omega))]; exact this.2⟩
theorem CS_c (hX : ∀ k, k < 1024 → X k = X' k) (hY : ∀ k, k < 1024 → Y k = Y' k) (hn : n ≤ 1024) (hu : u < 1024) (h : CS w X Y n u) : CS w X' Y' n u := by
  unfold CS at h ⊢
  by_cases w3 : w = 3
  · rw [if_pos w3] at h ⊢
    obtain ⟨s, t, ⟨a1, a2⟩, ⟨b1, b2⟩, c⟩ := h
    exact ⟨s, t, ⟨a1, by rw [← hX s (by omega)]; exact a2⟩, ⟨b1, by rw [← hY t (by omega)]; exact b2⟩, c⟩
  · rw [if_neg w3] at h ⊢
    by_cases w5 : w = 5
    · rw [if_pos w5] at h ⊢
      exact ⟨h.1, by rw [← hX u hu]; exact h.2.1, fun ⟨s, t, ⟨a1, a2⟩, ⟨b1, b2⟩, c⟩ => h.2.2 ⟨s, t, ⟨a1, by rw [hY s (by omega)]; exact a2⟩, ⟨b1, OV_c (fun k q => (hX k q).symm) (fun k q => (hY k q).symm) hn (by omega) b2⟩, c⟩⟩
    · rw [if_neg w5] at h ⊢
      unfold GS at h ⊢
      refine ⟨h.1, ?_⟩
      have h2 := h.2
      by_cases w0 : w = 0
      · rw [if_pos w0] at h2 ⊢
        rw [← hX u hu, ← hY u hu]; exact h2
      rw [if_neg w0] at h2 ⊢
      by_cases w1 : w = 1
      · rw [if_pos w1] at h2 ⊢
        rw [← hX u hu, ← hY u hu]; exact h2
      rw [if_neg w1] at h2 ⊢
      by_cases w2 : w = 2
      · rw [if_pos w2] at h2 ⊢
        rw [← hX u hu, ← hY u hu]; exact h2
      rw [if_neg w2] at h2 ⊢
      by_cases w4 : w = 4
      · rw [if_pos w4] at h2 ⊢
        exact OV_c hX hY hn hu h2
      rw [if_neg w4] at h2 ⊢
      exact ⟨by rw [← hX u hu]; exact h2.1, fun t a b => h2.2 t a (by rw [hY t (by omega)]; exact b)⟩
theorem HT_c (hX : ∀ k, k < 1024 → X k = X' k) (hn : n ≤ 1024) (h : HT X n u) : HT X' n u := ⟨h.1, fun t a b => h.2 t a (by rw [hX t (by omega)]; exact b)⟩
theorem TS_c (hX : ∀ k, k < 1024 → X k = X' k) (hn : n ≤ 1024) (hu : u < 1024) (h : TS w X n u) : TS w X' n u := by
  unfold TS at h ⊢
  refine ⟨h.1, ?_⟩
  have h2 := h.2
  by_cases w0 : w = 0
  · rw [if_pos w0] at h2 ⊢
    exact ⟨by rw [← hX u hu]; exact h2.1, fun ⟨t, a, b, c, d⟩ => h2.2 ⟨t, a, b, by rw [hX t (by omega)]; exact c, d⟩⟩
  rw [if_neg w0] at h2 ⊢
  by_cases w1 : w = 1
  · rw [if_pos w1] at h2 ⊢
    exact ⟨by rw [← hX u hu]; exact h2.1, fun ⟨t, a, b, c, d⟩ => h2.2 ⟨t, a, b, by rw [hX t (by omega)]; exact c, d⟩⟩
  rw [if_neg w1] at h2 ⊢
  by_cases w3 : w = 3
  · rw [if_pos w3] at h2 ⊢
    rw [← hX u hu]; exact h2
  rw [if_neg w3] at h2 ⊢
  by_cases w4 : w = 4
  · rw [if_pos w4] at h2 ⊢
    exact h2.imp (fun q => by rw [← hX u hu]; exact q) (fun ⟨t, a, b, c, d⟩ => ⟨t, a, b, by rw [← hX t (by omega)]; exact c, d⟩)
  rw [if_neg w4] at h2 ⊢
  by_cases w5 : w = 5
  · rw [if_pos w5] at h2 ⊢
    exact h2.imp (fun q => by rw [← hX u hu]; exact q) (fun ⟨t, a, b, c, d⟩ => ⟨t, a, b, by rw [← hX t (by omega)]; exact c, d⟩)
  rw [if_neg w5] at h2 ⊢
  rw [← hX u hu]; exact h2
theorem RS_c (hX : ∀ k, k < 1024 → X k = X' k) (hn : n ≤ 1024) (hu : u < 1024) (h : RS w X n u) : RS w X' n u := by
  unfold RS at h ⊢
  by_cases w2 : w = 2
  · rw [if_pos w2] at h ⊢
    exact ⟨HT_c hX hn h.1, fun ⟨t, a, b, c⟩ => h.2 ⟨t, a, HT_c (fun k q => (hX k q).symm) hn b, c⟩⟩
  · rw [if_neg w2] at h ⊢
    exact TS_c hX hn hu h
end CONG
section OPS
variable {N B : Nat} {σ : zS} {x1 x2 x3 x4 : Int32}
/-- the class's world: what its numbers and families are -/
def FI (σ : zS) (B : Nat) : Prop := ∀ p, p < 10 → ∀ u, u < 1024 → bt (σ.2.1 (B + 6 + 2 * p + 1)) u = true → u < mn (σ.1 B 0)
def mkC (m x1 x2 x3 x4 : Int32) : Prop := (isR m x1 ∧ isR m x3 ∧ isR m x4) ∧ 0 ≤ x2.toInt ∧ x2.toInt ≤ 6
theorem FI_in {n p : Nat} (h : FI σ B) (hp : p < 10) (e : σ.1 B 0 = nI n) (h0 : 0 < n) (hn : n ≤ 10) : inN (bt (σ.2.1 (B + 6 + 2 * p + 1))) n := fun u hu hb => by
  have := h p hp u hu hb
  rw [e, mn_p (by rw [nI_toInt (by omega)]; omega), nI_toInt (by omega)] at this
  exact this
theorem mnn {n : Nat} (h0 : 0 < n) (hn : n ≤ 10) : mn (nI n) = 2 ^ n := by
  rw [mn_p (by rw [nI_toInt (by omega)]; omega), nI_toInt (by omega)]; rfl
theorem world_n (h0 : 0 < (σ.1 B 0).toInt) (h10 : (σ.1 B 0).toInt ≤ 10) : ∃ n, σ.1 B 0 = nI n ∧ 0 < n ∧ n ≤ 10 := by
  obtain ⟨n, hn, e⟩ := znI (x := σ.1 B 0) (m := 11) (by omega) (by omega)
  rw [e, nI_toInt (by omega)] at h0
  exact ⟨n, e, by omega, by omega⟩
theorem lw_no {a : Nat} (h : WR a) : a ∉ [129, 101, 103, 105] ∧ a ≠ 129 ∧ a ≠ 131 := by
  unfold WR at h
  simp only [List.mem_cons, List.not_mem_nil, or_false]
  omega
theorem vl_makes (hB : isWc B) (hR : RF σ.2.2) (h4 : σ.2.2 0 4 = B) (hn : 0 ≤ (σ.1 B 0).toInt ∧ (σ.1 B 0).toInt ≤ 10) (hF : FI σ B) : Pt (f_X11_makes N 0 x1 x2 x3 x4 σ) (fun r => (mkC (σ.1 B 0) x1 x2 x3 x4 → CM σ r.2 r.1 B x1.toInt.toNat (CS x2 (bt (σ.2.1 (B + 6 + 2 * x3.toInt.toNat + 1))) (bt (σ.2.1 (B + 6 + 2 * x4.toInt.toNat + 1))) (mn (σ.1 B 0)))) ∧ (¬ mkC (σ.1 B 0) x1 x2 x3 x4 → r.1 = -2 ∧ LW σ r.2)) := by
  have no : ∀ {τ : zS}, τ = σ → ¬ mkC (σ.1 B 0) x1 x2 x3 x4 → Pt (some ((-2 : Int32), τ)) (fun r => (mkC (σ.1 B 0) x1 x2 x3 x4 → CM σ r.2 r.1 B x1.toInt.toNat (CS x2 (bt (σ.2.1 (B + 6 + 2 * x3.toInt.toNat + 1))) (bt (σ.2.1 (B + 6 + 2 * x4.toInt.toNat + 1))) (mn (σ.1 B 0)))) ∧ (¬ mkC (σ.1 B 0) x1 x2 x3 x4 → r.1 = -2 ∧ LW σ r.2)) := fun e q => pt_some ⟨fun z => absurd z q, fun _ => ⟨rfl, fun a _ => by rw [e]⟩⟩
  rw [f_X11_makes.eq_1]
  refine pt_gC (pt_zbq (vl_isRegister h4) (fun v hv => pt_if (fun q => no rfl (fun z => hv.1 q z.1.1)) (fun q1 => ?_)))
  refine pt_gC (pt_zbq (vl_isRegister h4) (fun v3 hv3 => pt_if (fun q => no rfl (fun z => hv3.1 q z.1.2.1)) (fun q3 => ?_)))
  refine pt_gC (pt_zbq (vl_isRegister h4) (fun v5 hv5 => pt_if (fun q => no rfl (fun z => hv5.1 q z.1.2.2)) (fun q5 => ?_)))
  refine pt_if (fun q => no rfl (fun z => ?_)) (fun qa => pt_if (fun qb => ?_) (fun q => no rfl (fun z => ?_)))
  · rw [Int32.lt_iff_toInt_lt] at q
    simp only [Int32.reduceToInt] at q
    have := z.2; omega
  · have r1 := hv.2 q1
    have r3 := hv3.2 q3
    have r5 := hv5.2 q5
    have hm : mkC (σ.1 B 0) x1 x2 x3 x4 := by
      rw [Int32.lt_iff_toInt_lt] at qa
      rw [Int32.le_iff_toInt_le] at qb
      simp only [Int32.reduceToInt] at qa qb
      exact ⟨⟨r1, r3, r5⟩, by omega, qb⟩
    obtain ⟨p, hp, rfl⟩ := isR_n r1
    obtain ⟨k, hk, rfl⟩ := isR_n r3
    obtain ⟨l, hl, rfl⟩ := isR_n r5
    obtain ⟨n, en, n0, n10⟩ := world_n r1.1 hn.2
    rw [iN (m := p) (by omega), iN (m := k) (by omega), iN (m := l) (by omega)]
    refine pt_gR (v := 128) (hR 0 17 rfl) (pt_reg hB hR h4 hk (pt_gC (pt_zb (v_copyFrom hR k128.1 (rgW hB hR hk).2) (fun _ σ1 h => ?_))))
    obtain ⟨l1, e1⟩ := h
    have l1 : LF 129 σ σ1 := l1
    have e1 : ∀ u, u < 1024 → bt (σ1.2.1 129) u = bt (σ.2.1 (B + 6 + 2 * k + 1)) u := e1
    have R1 := l1.R hR
    have h41 : σ1.2.2 0 4 = B := by rw [l1.2.1]; exact h4
    refine pt_gR (v := 99) (R1 0 11 rfl) (pt_gR (v := 128) (R1 0 17 rfl) (pt_reg hB R1 h41 hl (pt_gR (v := B) h41 (pt_gI ?_))))
    have n1 : σ1.1 B 0 = nI n := by rw [l1.1]; exact en
    rw [n1]
    have el : σ1.2.1 (B + 6 + 2 * l + 1) = σ.2.1 (B + 6 + 2 * l + 1) := l1.2.2 _ (by unfold isWc at hB; omega)
    have I1 : inN (bt (σ1.2.1 (128 + 1))) n := fun u hu hb => FI_in hF hk en n0 n10 u hu (by rw [← e1 u hu]; exact hb)
    have I2 : inN (bt (σ1.2.1 (B + 6 + 2 * l + 1))) n := by rw [el]; exact FI_in hF hl en n0 n10
    refine pt_gC (pt_zb (v_combine R1 iF128.1 (rg_iF hB hl R1) (by unfold isWc at hB; omega) n10 I1 I2) (fun _ σ2 h => ?_))
    obtain ⟨a2, e2⟩ := h
    have a2 : AG [106, 107] [129, 101, 103, 105] σ1 σ2 := a2
    have R2 := a2.R R1
    have h42 : σ2.2.2 0 4 = B := by rw [a2.2.1]; exact h41
    have n2 : σ2.1 B 0 = nI n := by rw [a2.1 B (by unfold isWc at hB; simp only [List.mem_cons, List.not_mem_nil, or_false]; omega)]; exact n1
    refine pt_gC (pt_zb (vl_store hB R2 h42 hp (by rw [n2, nI_toInt (by omega)]; omega)) (fun v σ3 h => pt_some ⟨fun _ => ?_, fun z => absurd hm z⟩))
    refine CM_st hB hp (fun a ha => (a2.2.2 a (lw_no ha).1).trans (l1.2.2 a (lw_no ha).2.1)) (fun u hu => ?_) h
    rw [en, mnn n0 n10]
    refine (e2 u hu).trans ?_
    rw [el]
    exact ⟨CS_c e1 (fun _ _ => rfl) (p2le n10).1 hu, CS_c (fun k q => (e1 k q).symm) (fun _ _ => rfl) (p2le n10).1 hu⟩
  · rw [Int32.le_iff_toInt_le] at q
    simp only [Int32.reduceToInt] at q
    have := z.2; omega
def tuC (m x1 x2 x3 : Int32) : Prop := (isR m x1 ∧ isR m x3) ∧ 0 ≤ x2.toInt ∧ x2.toInt ≤ 6
theorem vl_turn (hB : isWc B) (hR : RF σ.2.2) (h4 : σ.2.2 0 4 = B) (hn : 0 ≤ (σ.1 B 0).toInt ∧ (σ.1 B 0).toInt ≤ 10) (hF : FI σ B) : Pt (f_X11_turn N 0 x1 x2 x3 σ) (fun r => (tuC (σ.1 B 0) x1 x2 x3 → CM σ r.2 r.1 B x1.toInt.toNat (RS x2 (bt (σ.2.1 (B + 6 + 2 * x3.toInt.toNat + 1))) (mn (σ.1 B 0)))) ∧ (¬ tuC (σ.1 B 0) x1 x2 x3 → r.1 = -2 ∧ LW σ r.2)) := by
  have no : ∀ {τ : zS}, τ = σ → ¬ tuC (σ.1 B 0) x1 x2 x3 → Pt (some ((-2 : Int32), τ)) (fun r => (tuC (σ.1 B 0) x1 x2 x3 → CM σ r.2 r.1 B x1.toInt.toNat (RS x2 (bt (σ.2.1 (B + 6 + 2 * x3.toInt.toNat + 1))) (mn (σ.1 B 0)))) ∧ (¬ tuC (σ.1 B 0) x1 x2 x3 → r.1 = -2 ∧ LW σ r.2)) := fun e q => pt_some ⟨fun z => absurd z q, fun _ => ⟨rfl, fun a _ => by rw [e]⟩⟩
  rw [f_X11_turn.eq_1]
  refine pt_gC (pt_zbq (vl_isRegister h4) (fun v hv => pt_if (fun q => no rfl (fun z => hv.1 q z.1.1)) (fun q1 => ?_)))
  refine pt_gC (pt_zbq (vl_isRegister h4) (fun v3 hv3 => pt_if (fun q => no rfl (fun z => hv3.1 q z.1.2)) (fun q3 => ?_)))
  refine pt_if (fun q => no rfl (fun z => ?_)) (fun qa => pt_if (fun qb => ?_) (fun q => no rfl (fun z => ?_)))
  · rw [Int32.lt_iff_toInt_lt] at q
    simp only [Int32.reduceToInt] at q
    have := z.2; omega
  · have r1 := hv.2 q1
    have r3 := hv3.2 q3
    have hm : tuC (σ.1 B 0) x1 x2 x3 := by
      rw [Int32.lt_iff_toInt_lt] at qa
      rw [Int32.le_iff_toInt_le] at qb
      simp only [Int32.reduceToInt] at qa qb
      exact ⟨⟨r1, r3⟩, by omega, qb⟩
    obtain ⟨p, hp, rfl⟩ := isR_n r1
    obtain ⟨k, hk, rfl⟩ := isR_n r3
    obtain ⟨n, en, n0, n10⟩ := world_n r1.1 hn.2
    rw [iN (m := p) (by omega), iN (m := k) (by omega)]
    refine pt_gR (v := 128) (hR 0 17 rfl) (pt_reg hB hR h4 hk (pt_gC (pt_zb (v_copyFrom hR k128.1 (rgW hB hR hk).2) (fun _ σ1 h => ?_))))
    obtain ⟨l1, e1⟩ := h
    have l1 : LF 129 σ σ1 := l1
    have e1 : ∀ u, u < 1024 → bt (σ1.2.1 129) u = bt (σ.2.1 (B + 6 + 2 * k + 1)) u := e1
    have R1 := l1.R hR
    have h41 : σ1.2.2 0 4 = B := by rw [l1.2.1]; exact h4
    refine pt_gR (v := 99) (R1 0 11 rfl) (pt_gR (v := 128) (R1 0 17 rfl) (pt_gR (v := B) h41 (pt_gI ?_)))
    have n1 : σ1.1 B 0 = nI n := by rw [l1.1]; exact en
    rw [n1]
    have I1 : inN (bt (σ1.2.1 (128 + 1))) n := fun u hu hb => FI_in hF hk en n0 n10 u hu (by rw [← e1 u hu]; exact hb)
    refine pt_gC (pt_zb (v_reshape R1 iF128.1 n10 I1) (fun _ σ2 h => ?_))
    obtain ⟨a2, e2⟩ := h
    have a2 : LG [129, 101, 103] σ1 σ2 := a2
    have R2 := a2.R R1
    have h42 : σ2.2.2 0 4 = B := by rw [a2.2.1]; exact h41
    have n2 : σ2.1 B 0 = nI n := by rw [a2.1]; exact n1
    refine pt_gC (pt_zb (vl_store hB R2 h42 hp (by rw [n2, nI_toInt (by omega)]; omega)) (fun v σ3 h => pt_some ⟨fun _ => ?_, fun z => absurd hm z⟩))
    refine CM_st hB hp (fun a ha => (a2.2.2 a (fun z => (lw_no ha).1 ?_)).trans (l1.2.2 a (lw_no ha).2.1)) (fun u hu => ?_) h
    · simp only [List.mem_cons, List.not_mem_nil, or_false] at z ⊢; omega
    rw [en, mnn n0 n10]
    exact (e2 u hu).trans ⟨RS_c e1 (p2le n10).1 hu, RS_c (fun k q => (e1 k q).symm) (p2le n10).1 hu⟩
  · rw [Int32.le_iff_toInt_le] at q
    simp only [Int32.reduceToInt] at q
    have := z.2; omega
/-- a set comes or goes -/
def seC (m x1 x2 : Int32) : Prop := isR m x1 ∧ isS m x2
theorem isS_i {m : Int32} {s : Nat} (hm : m.toInt ≤ 10) (h : isS m (nI s)) (hs : s < 1024) : s < mn m := by
  obtain ⟨t, e, ht⟩ := isS_n hm h
  have := mn_le hm
  rwa [(nI_inj (by omega) (by omega)).mp e]
theorem vl_sets (hB : isWc B) (hR : RF σ.2.2) (h4 : σ.2.2 0 4 = B) (hn : 0 ≤ (σ.1 B 0).toInt ∧ (σ.1 B 0).toInt ≤ 10) (h01 : x3 = 0 ∨ x3 = 1) : Pt (f_X11_sets N 0 x1 x2 x3 σ) (fun r => (seC (σ.1 B 0) x1 x2 → ((∀ u, u < 1024 → (bt (r.2.2.1 (B + 6 + 2 * x1.toInt.toNat + 1)) u = true ↔ if u = x2.toInt.toNat then x3 = 1 else bt (σ.2.1 (B + 6 + 2 * x1.toInt.toNat + 1)) u = true)) ∧ (∀ a, WR a → a ≠ B + 6 + 2 * x1.toInt.toNat + 1 → r.2.2.1 a = σ.2.1 a)) ∧ (r.1 = 0 ∨ r.1 = 1) ∧ (r.1 = 0 ↔ (bt (σ.2.1 (B + 6 + 2 * x1.toInt.toNat + 1)) x2.toInt.toNat = true ↔ x3 = 1))) ∧ (¬ seC (σ.1 B 0) x1 x2 → r.1 = -2 ∧ LW σ r.2)) := by
  rw [f_X11_sets.eq_1]
  refine pt_gC (pt_zbq (vl_isRegister h4) (fun v hv => pt_if (fun q => pt_some ⟨fun z => absurd z.1 (hv.1 q), fun _ => ⟨rfl, fun _ _ => rfl⟩⟩) (fun q1 => ?_)))
  refine pt_gC (pt_zbq (vl_isSet h4) (fun v3 hv3 => pt_if (fun q => pt_some ⟨fun z => absurd z.2 (hv3.1 q), fun _ => ⟨rfl, fun _ _ => rfl⟩⟩) (fun q3 => ?_)))
  have r1 := hv.2 q1
  have r3 := hv3.2 q3
  have hm : seC (σ.1 B 0) x1 x2 := ⟨r1, r3⟩
  have mb := mn_le hn.2
  obtain ⟨p, hp, rfl⟩ := isR_n r1
  obtain ⟨s, rfl, hs⟩ := isS_n hn.2 r3
  rw [iN (m := p) (by omega), iN (m := s) (by omega)]
  refine pt_reg hB hR h4 hp (pt_gC (pt_zbq (v_holds hR (rgW hB hR hp).2 (by omega)) (fun v hv => ?_)))
  refine pt_if (fun q => pt_some ⟨fun _ => ⟨⟨fun u hu => ?_, fun _ _ _ => rfl⟩, Or.inl rfl, fun _ => ?_, fun _ => rfl⟩, fun z => absurd hm z⟩) (fun q => pt_if (fun q0 => ?_) (fun q0 => ?_))
  · by_cases e : u = s
    · rw [if_pos e, e, ← hv.2, q]
    · rw [if_neg e]
  · rw [← hv.2, q]
  · refine pt_gC (pt_zb (v_exclude hR (rgW hB hR hp).2 (by omega)) (fun _ σ1 h => pt_some ⟨fun _ => ⟨⟨fun u hu => ?_, fun a _ ne => h.1.2.2 a ne⟩, Or.inr rfl, fun z => absurd (show (1 : Int32) = 0 from z) (by decide), fun z => ?_⟩, fun z => absurd hm z⟩))
    · have h2 : bt (σ1.2.1 (B + 6 + 2 * p + 1)) u = _ := h.2 u hu
      show bt (σ1.2.1 (B + 6 + 2 * p + 1)) u = true ↔ _
      rw [h2]
      by_cases e : u = s
      · rw [if_pos e, e, q0]; simp
      · rw [if_neg e]; simp [e]
    · exact absurd (by
        rcases hv.1 with y | y
        · rw [y, q0]
        · have := z.mp (hv.2.mp y)
          rw [y, this]) q
  · have x31 := h01.resolve_left q0
    refine pt_gC (pt_zb (v_include hR (rgW hB hR hp).2 (by omega)) (fun _ σ1 h => pt_some ⟨fun _ => ⟨⟨fun u hu => ?_, fun a _ ne => h.1.2.2 a ne⟩, Or.inr rfl, fun z => absurd (show (1 : Int32) = 0 from z) (by decide), fun z => ?_⟩, fun z => absurd hm z⟩))
    · have h2 : bt (σ1.2.1 (B + 6 + 2 * p + 1)) u = _ := h.2 u hu
      show bt (σ1.2.1 (B + 6 + 2 * p + 1)) u = true ↔ _
      rw [h2]
      by_cases e : u = s
      · rw [if_pos e, e, x31]; simp
      · rw [if_neg e]; simp [e]
    · exact absurd ((hv.2.mpr (z.mpr x31)).trans x31.symm) q
end OPS

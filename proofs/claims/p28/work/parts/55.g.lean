section Zq9_0
theorem ti3 {x : Int32} (h0 : 0 ≤ x.toInt) (h1 : x.toInt ≤ 10) : (3 + x).toInt = 3 + x.toInt ∧ (3 + x).toNatClampNeg = 3 + x.toInt.toNat := by
  have e9 : (3 + x).toNatClampNeg = (3 + x).toInt.toNat := rfl
  rw [e9, ti_add]; simp only [Int32.reduceToInt]; omega
theorem ti13 {x : Int32} (h0 : 0 ≤ x.toInt) (h1 : x.toInt ≤ 10) : (13 + x).toInt = 13 + x.toInt ∧ (13 + x).toNatClampNeg = 13 + x.toInt.toNat := by
  have e9 : (13 + x).toNatClampNeg = (13 + x).toInt.toNat := rfl
  rw [e9, ti_add]; simp only [Int32.reduceToInt]; omega
theorem ti23 {x : Int32} (h0 : 0 ≤ x.toInt) (h1 : x.toInt ≤ 10) : (23 + x).toInt = 23 + x.toInt ∧ (23 + x).toNatClampNeg = 23 + x.toInt.toNat := by
  have e9 : (23 + x).toNatClampNeg = (23 + x).toInt.toNat := rfl
  rw [e9, ti_add]; simp only [Int32.reduceToInt]; omega
/-- the fresh world -/
def FW (g : Nat → Int32) : Prop := ((0 ≤ (g 0).toInt ∧ (g 0).toInt ≤ 10) ∧ 0 ≤ (g 2).toInt ∧ (g 2).toInt ≤ (g 0).toInt) ∧ (∀ j, j < 10 → (0 ≤ (g (13 + j)).toInt ∧ (g (13 + j)).toInt ≤ 7) ∧ 0 ≤ (g (23 + j)).toInt ∧ (g (23 + j)).toInt ≤ 7) ∧ ((g 0).toInt = 0 ∨ ∀ k, k < 10 → g (33 + k) = nI k)
theorem FW_MW {g : Nat → Int32} (h : FW g) : MW g 0 := by
  refine ⟨h.1.1, ⟨h.1.2.1, ?_⟩, fun j hj => ?_, fun v hv => ?_⟩
  · have h1 := h.1.2.2
    have h2 := h.1.1.2
    show (g 2).toInt ≤ 10
    omega
  · have q := h.2.1 j hj
    rw [show 0 + 13 + j = 13 + j by omega, show 0 + 23 + j = 23 + j by omega]
    exact ⟨q.1, q.2⟩
  · rcases h.2.2 with q | q
    · omega
    · have := h.1.1.2
      refine ⟨v, hv, ?_⟩
      rw [show 0 + 33 + v = 33 + v by omega]
      exact q v (by omega)
theorem FW_0 {g : Nat → Int32} (h : ∀ j, j < 43 → g j = 0) : FW g := by
  have h0 := h 0 (by decide)
  have h2 := h 2 (by decide)
  refine ⟨?_, fun j hj => ?_, Or.inl (by rw [h0]; rfl)⟩
  · rw [h0, h2]; decide
  · rw [h (13 + j) (by omega), h (23 + j) (by omega)]; decide
def RN (g0 g : Nat → Int32) (k : Nat) : Prop := ((0 ≤ (g 0).toInt ∧ (g 0).toInt ≤ 10) ∧ ∀ j, 0 < j → j < 3 ∨ (13 ≤ j ∧ j < 33) → g j = g0 j) ∧ ∀ j, j < k → g (33 + j) = nI j
theorem RN_0 {σ τ : zS} {g0 : Nat → Int32} {i : Nat} {v : Int32} (e : τ = zI σ 231 (upd (σ.1 231) i v)) (hi : i = 0) (hr : σ.1 231 = g0) (hv : 0 ≤ v.toInt ∧ v.toInt ≤ 10) : RN g0 (τ.1 231) 0 := by
  subst hi
  refine ⟨⟨by rw [zI_atI e]; exact hv, fun j hj _ => by rw [zI_atN e (by omega), hr]⟩, fun j hj => absurd hj (by omega)⟩
theorem RN_w {σ τ : zS} {g0 : Nat → Int32} {i k : Nat} {v : Int32} (e : τ = zI σ 231 (upd (σ.1 231) i v)) (h3 : 3 ≤ i) (h13 : i < 13) (h : RN g0 (σ.1 231) k) : RN g0 (τ.1 231) k := by
  refine ⟨⟨by rw [zI_atN e (by omega)]; exact h.1.1, fun j hj hq => by rw [zI_atN e (by omega)]; exact h.1.2 j hj hq⟩, fun j hj => by rw [zI_atN e (by omega)]; exact h.2 j hj⟩
theorem RN_o {σ τ : zS} {g0 : Nat → Int32} {i k : Nat} {v : Int32} (e : τ = zI σ 231 (upd (σ.1 231) i v)) (hi : i = 33 + k) (hv : v = nI k) (h : RN g0 (σ.1 231) k) : RN g0 (τ.1 231) (k + 1) := by
  subst hi
  refine ⟨⟨by rw [zI_atN e (by omega)]; exact h.1.1, fun j hj hq => by rw [zI_atN e (by omega)]; exact h.1.2 j hj hq⟩, fun j hj => ?_⟩
  by_cases q : j = k
  · subst q; rw [zI_atI e, hv]
  · rw [zI_atN e (by omega)]; exact h.2 j (by omega)
theorem RN_e {g0 g : Nat → Int32} {k : Nat} (h : RN g0 g k) (hk : 10 ≤ k) (hF : FW g0) (h2 : (g0 2).toInt = 0) : FW g := by
  have e2 := h.1.2 2 (by decide) (Or.inl (by decide))
  have h0 := h.1.1
  refine ⟨⟨h0, by rw [e2]; omega⟩, fun j hj => ?_, Or.inr (fun j hj => h.2 j (by omega))⟩
  rw [h.1.2 (13 + j) (by omega) (Or.inr (by omega)), h.1.2 (23 + j) (by omega) (Or.inr (by omega))]
  exact hF.2.1 j hj
theorem FW_w {σ τ : zS} {i : Nat} {v : Int32} (e : τ = zI σ 231 (upd (σ.1 231) i v)) (h3 : 3 ≤ i) (h13 : i < 13) (h : FW (σ.1 231)) : FW (τ.1 231) ∧ τ.1 231 1 = σ.1 231 1 := by
  refine ⟨?_, zI_atN e (by omega)⟩
  unfold FW at h ⊢
  rw [zI_atN e (show 0 ≠ i by omega), zI_atN e (show 2 ≠ i by omega)]
  refine ⟨h.1, fun j hj => ?_, ?_⟩
  · rw [zI_atN e (by omega), zI_atN e (by omega)]; exact h.2.1 j hj
  · rcases h.2.2 with q | q
    · exact Or.inl q
    · exact Or.inr (fun k hk => by rw [zI_atN e (by omega)]; exact q k hk)
theorem FW_1 {σ τ : zS} {i : Nat} {v : Int32} (e : τ = zI σ 231 (upd (σ.1 231) i v)) (hi : i = 1) (h : FW (σ.1 231)) : FW (τ.1 231) ∧ τ.1 231 1 = v := by
  subst hi
  refine ⟨?_, zI_atI e⟩
  unfold FW at h ⊢
  rw [zI_atN e (show 0 ≠ 1 by omega), zI_atN e (show 2 ≠ 1 by omega)]
  refine ⟨h.1, fun j hj => ?_, ?_⟩
  · rw [zI_atN e (by omega), zI_atN e (by omega)]; exact h.2.1 j hj
  · rcases h.2.2 with q | q
    · exact Or.inl q
    · exact Or.inr (fun k hk => by rw [zI_atN e (by omega)]; exact q k hk)
theorem FW_edge {σ1 σ2 σ3 σ4 : zS} {g : Nat → Int32} {i j k : Nat} {a b c : Int32} (hr : σ1.1 231 = g) (e1 : σ2 = zI σ1 231 (upd (σ1.1 231) i a)) (e2 : σ3 = zI σ2 231 (upd (σ2.1 231) j b)) (e3 : σ4 = zI σ3 231 (upd (σ3.1 231) k c)) (hi : i = 13 + (g 2).toInt.toNat) (hj : j = 23 + (g 2).toInt.toNat) (hk : k = 2) (ha : 0 ≤ a.toInt ∧ a.toInt ≤ 7) (hb : 0 ≤ b.toInt ∧ b.toInt ≤ 7) (hc : c.toInt = (g 2).toInt + 1) (hF : FW g) (h2 : (g 2).toInt < (g 0).toInt) : FW (σ4.1 231) ∧ σ4.1 231 1 = g 1 := by
  have g2 := hF.1.2.1
  have g0 := hF.1.1
  have o : ∀ m, m ≠ i → m ≠ j → m ≠ k → σ4.1 231 m = g m := fun m q1 q2 q3 => by rw [zI_atN e3 q3, zI_atN e2 q2, zI_atN e1 q1, hr]
  have oi : σ4.1 231 i = a := by rw [zI_atN e3 (by omega), zI_atN e2 (by omega), zI_atI e1]
  have oj : σ4.1 231 j = b := by rw [zI_atN e3 (by omega), zI_atI e2]
  have o2 : σ4.1 231 2 = c := by rw [← hk]; exact zI_atI e3
  refine ⟨?_, o 1 (by omega) (by omega) (by omega)⟩
  unfold FW
  rw [o 0 (by omega) (by omega) (by omega), o2]
  refine ⟨⟨g0, by omega, by omega⟩, fun m hm => ⟨?_, ?_⟩, ?_⟩
  · by_cases q : 13 + m = i
    · rw [q, oi]; exact ha
    · rw [o _ q (by omega) (by omega)]; exact (hF.2.1 m hm).1
  · by_cases q : 23 + m = j
    · rw [q, oj]; exact hb
    · rw [o _ (by omega) q (by omega)]; exact (hF.2.1 m hm).2
  · rcases hF.2.2 with q | q
    · exact Or.inl q
    · exact Or.inr (fun m hm => by rw [o _ (by omega) (by omega) (by omega)]; exact q m hm)
theorem is_ne {N w : Nat} {σ τ : zS} (h0 : f_X12_is N 218 w σ = some (0, σ)) (h1 : f_X12_is N 218 w τ = some (1, τ)) (e : τ = σ) : False := by
  subst e
  rw [h0] at h1
  injection h1 with h1
  injection h1 with h1 _
  exact absurd h1 (by decide)

set_option maxHeartbeats 4000000 in
set_option maxRecDepth 100000 in
theorem s_X12_readsNames {N : Nat} (hN : 1048576 ≤ N)  {σ0 : zS}  (hR : RF σ0.2.2) (hK : TOK σ0.1) (hY : BYT (σ0.1 224)) (hF : FW (σ0.1 231)) (h2 : (σ0.1 231 2).toInt = 0) : Ok (f_X12_readsNames N 218 σ0) (fun r => Tr [218, 231] σ0 r.2 ∧ ((TOK r.2.1 ∧ (σ0.1 218 11).toInt ≤ (r.2.1 218 11).toInt ∧ (r.2.1 218 14 = 0 → σ0.1 218 14 = 0) ∧ FW (r.2.1 231) ∧ r.2.1 231 1 = σ0.1 231 1) ∧ (r.2.1 218 7 = σ0.1 218 7 ∧ r.2.1 218 9 = σ0.1 218 9 ∧ r.2.1 218 20 = σ0.1 218 20 ∧ r.2.1 218 22 = σ0.1 218 22 ∧ r.2.1 218 23 = σ0.1 218 23 ∧ r.2.1 218 24 = σ0.1 218 24 ∧ r.2.1 218 25 = σ0.1 218 25))) := by
  have hT : Tr [218, 231] σ0 σ0 := Tr.rf
  have hK1 := hK.1
  rw [f_X12_readsNames.eq_1]
  refine ok_gC rfl ?_
  refine ok_zbT (Q := fun V σ => (TOK σ.1 ∧ (σ0.1 218 11).toInt ≤ (σ.1 218 11).toInt ∧ (σ.1 218 14 = 0 → σ0.1 218 14 = 0)) ∧ (σ.1 218 7 = σ0.1 218 7 ∧ σ.1 218 9 = σ0.1 218 9 ∧ σ.1 218 20 = σ0.1 218 20 ∧ σ.1 218 22 = σ0.1 218 22 ∧ σ.1 218 23 = σ0.1 218 23 ∧ σ.1 218 24 = σ0.1 218 24 ∧ σ.1 218 25 = σ0.1 218 25)) hT (s_X12_needs hN (hR.tr hT) (hK) (by rw [hT.2 224 (by decide)]; exact hY) (by decide)) (by decide) (fun v1 σ2 hOσ2 hT hqv1 => ?_)
  have hqv1 : (TOK σ2.1 ∧ (σ0.1 218 11).toInt ≤ (σ2.1 218 11).toInt ∧ (σ2.1 218 14 = 0 → σ0.1 218 14 = 0)) ∧ (σ2.1 218 7 = σ0.1 218 7 ∧ σ2.1 218 9 = σ0.1 218 9 ∧ σ2.1 218 20 = σ0.1 218 20 ∧ σ2.1 218 22 = σ0.1 218 22 ∧ σ2.1 218 23 = σ0.1 218 23 ∧ σ2.1 218 24 = σ0.1 218 24 ∧ σ2.1 218 25 = σ0.1 218 25) := hqv1
  have hkv1 := hqv1
  have hqv1 := hqv1.1
  have r231_σ2 : σ2.1 231 = σ0.1 231 := hOσ2.2 231 (by decide)
  have hK : TOK σ2.1 := by first | exact hqv1.1 | exact TOK_p eσ2 (by decide) hK
  have g7_σ2 : σ2.1 218 7 = (σ0.1 218 7) := hkv1.2.1
  have g9_σ2 : σ2.1 218 9 = (σ0.1 218 9) := hkv1.2.2.1
  have g20_σ2 : σ2.1 218 20 = (σ0.1 218 20) := hkv1.2.2.2.1
  have g22_σ2 : σ2.1 218 22 = (σ0.1 218 22) := hkv1.2.2.2.2.1
  have g23_σ2 : σ2.1 218 23 = (σ0.1 218 23) := hkv1.2.2.2.2.2.1
  have g24_σ2 : σ2.1 218 24 = (σ0.1 218 24) := hkv1.2.2.2.2.2.2.1
  have g25_σ2 : σ2.1 218 25 = (σ0.1 218 25) := hkv1.2.2.2.2.2.2.2
  have m4 := hqv1.2.1
  have u4 := hqv1.2.2
  refine ok_gR (v := 231) hT rfl (hR 218 26 rfl) ?_
  refine ok_gC rfl ?_
  refine ok_zbT (Q := fun V σ => (TOK σ.1 ∧ (σ2.1 218 11).toInt ≤ (σ.1 218 11).toInt ∧ (σ.1 218 14 = 0 → (σ2.1 218 14 = 0 ∧ (σ2.1 218 11).toInt < (σ.1 218 11).toInt) ∧ (1 : Int32).toInt ≤ V.toInt ∧ V.toInt ≤ (10 : Int32).toInt) ∧ (¬ σ.1 218 14 = 0 → V = 0)) ∧ (σ.1 218 7 = σ2.1 218 7 ∧ σ.1 218 9 = σ2.1 218 9 ∧ σ.1 218 20 = σ2.1 218 20 ∧ σ.1 218 22 = σ2.1 218 22 ∧ σ.1 218 23 = σ2.1 218 23 ∧ σ.1 218 24 = σ2.1 218 24 ∧ σ.1 218 25 = σ2.1 218 25)) hT (s_X12_number hN (hR.tr hT) (hK) (by rw [hT.2 224 (by decide)]; exact hY)) (by decide) (fun v4 σ5 hOσ5 hT hqv4 => ?_)
  have hqv4 : (TOK σ5.1 ∧ (σ2.1 218 11).toInt ≤ (σ5.1 218 11).toInt ∧ (σ5.1 218 14 = 0 → (σ2.1 218 14 = 0 ∧ (σ2.1 218 11).toInt < (σ5.1 218 11).toInt) ∧ (1 : Int32).toInt ≤ v4.toInt ∧ v4.toInt ≤ (10 : Int32).toInt) ∧ (¬ σ5.1 218 14 = 0 → v4 = 0)) ∧ (σ5.1 218 7 = σ2.1 218 7 ∧ σ5.1 218 9 = σ2.1 218 9 ∧ σ5.1 218 20 = σ2.1 218 20 ∧ σ5.1 218 22 = σ2.1 218 22 ∧ σ5.1 218 23 = σ2.1 218 23 ∧ σ5.1 218 24 = σ2.1 218 24 ∧ σ5.1 218 25 = σ2.1 218 25) := hqv4
  have hkv4 := hqv4
  have hqv4 := hqv4.1
  have r231_σ5 : σ5.1 231 = σ0.1 231 := (hOσ5.2 231 (by decide)).trans r231_σ2
  have hK : TOK σ5.1 := by first | exact hqv4.1 | exact TOK_p eσ5 (by decide) hK
  try simp only [g7_σ2, g9_σ2, g20_σ2, g22_σ2, g23_σ2, g24_σ2, g25_σ2] at hqv4
  have g7_σ5 : σ5.1 218 7 = (σ0.1 218 7) := (hkv4.2.1).trans g7_σ2
  have g9_σ5 : σ5.1 218 9 = (σ0.1 218 9) := (hkv4.2.2.1).trans g9_σ2
  have g20_σ5 : σ5.1 218 20 = (σ0.1 218 20) := (hkv4.2.2.2.1).trans g20_σ2
  have g22_σ5 : σ5.1 218 22 = (σ0.1 218 22) := (hkv4.2.2.2.2.1).trans g22_σ2
  have g23_σ5 : σ5.1 218 23 = (σ0.1 218 23) := (hkv4.2.2.2.2.2.1).trans g23_σ2
  have g24_σ5 : σ5.1 218 24 = (σ0.1 218 24) := (hkv4.2.2.2.2.2.2.1).trans g24_σ2
  have g25_σ5 : σ5.1 218 25 = (σ0.1 218 25) := (hkv4.2.2.2.2.2.2.2).trans g25_σ2
  have m16 := hqv4.2.1
  have u16 := hqv4.2.2.1
  have b16 : 0 ≤ v4.toInt ∧ v4.toInt ≤ 10 := by by_cases h9 : σ5.1 218 14 = 0; have h8 := (hqv4.2.2.1 h9).2; simp only [Int32.reduceToInt] at h8; omega; rw [hqv4.2.2.2 h9]; decide
  refine ok_s14 hT rfl (by decide) (by ((try simp only [g7_σ5, g9_σ5, g20_σ5, g22_σ5, g23_σ5, g24_σ5, g25_σ5])); first | omega | decide | (simp only [Int32.le_iff_toInt_le, Int32.lt_iff_toInt_lt, ti_add, ti_sub, ti_mul, Int32.reduceToInt] at *; omega)) (by ((try simp only [g7_σ5, g9_σ5, g20_σ5, g22_σ5, g23_σ5, g24_σ5, g25_σ5])); first | omega | decide | (simp only [Int32.le_iff_toInt_le, Int32.lt_iff_toInt_lt, ti_add, ti_sub, ti_mul, Int32.reduceToInt] at *; omega)) (fun σ6 eσ6 hOσ6 hT => ?_)
  have k19 := RN_0 eσ6 rfl r231_σ5 b16
  have hK : TOK σ6.1 := TOK_tr hOσ6 (by decide) (by decide) hK
  have g7_σ6 : σ6.1 218 7 = (σ0.1 218 7) := (congrFun (hOσ6.2 218 (by decide)) 7).trans g7_σ5
  have g9_σ6 : σ6.1 218 9 = (σ0.1 218 9) := (congrFun (hOσ6.2 218 (by decide)) 9).trans g9_σ5
  have g10_σ6 : σ6.1 218 10 = (σ5.1 218 10) := congrFun (hOσ6.2 218 (by decide)) 10
  have g11_σ6 : σ6.1 218 11 = (σ5.1 218 11) := congrFun (hOσ6.2 218 (by decide)) 11
  have g12_σ6 : σ6.1 218 12 = (σ5.1 218 12) := congrFun (hOσ6.2 218 (by decide)) 12
  have g13_σ6 : σ6.1 218 13 = (σ5.1 218 13) := congrFun (hOσ6.2 218 (by decide)) 13
  have g14_σ6 : σ6.1 218 14 = (σ5.1 218 14) := congrFun (hOσ6.2 218 (by decide)) 14
  have g15_σ6 : σ6.1 218 15 = (σ5.1 218 15) := congrFun (hOσ6.2 218 (by decide)) 15
  have g20_σ6 : σ6.1 218 20 = (σ0.1 218 20) := (congrFun (hOσ6.2 218 (by decide)) 20).trans g20_σ5
  have g22_σ6 : σ6.1 218 22 = (σ0.1 218 22) := (congrFun (hOσ6.2 218 (by decide)) 22).trans g22_σ5
  have g23_σ6 : σ6.1 218 23 = (σ0.1 218 23) := (congrFun (hOσ6.2 218 (by decide)) 23).trans g23_σ5
  have g24_σ6 : σ6.1 218 24 = (σ0.1 218 24) := (congrFun (hOσ6.2 218 (by decide)) 24).trans g24_σ5
  have g25_σ6 : σ6.1 218 25 = (σ0.1 218 25) := (congrFun (hOσ6.2 218 (by decide)) 25).trans g25_σ5
  refine ok_lp (fun t : Int32 × zS => Tr [218, 231] σ0 (t.2) ∧ ((0 ≤ (t.1).toInt ∧ (t.1).toInt ≤ 10) ∧ RN (σ0.1 231) ((t.2).1 231) (t.1).toInt.toNat) ∧ (TOK (t.2).1) ∧ ((t.2).1 218 7 = (σ0.1 218 7)) ∧ ((t.2).1 218 9 = (σ0.1 218 9)) ∧ ((t.2).1 218 10 = (σ5.1 218 10)) ∧ ((t.2).1 218 11 = (σ5.1 218 11)) ∧ ((t.2).1 218 12 = (σ5.1 218 12)) ∧ ((t.2).1 218 13 = (σ5.1 218 13)) ∧ ((t.2).1 218 14 = (σ5.1 218 14)) ∧ ((t.2).1 218 15 = (σ5.1 218 15)) ∧ ((t.2).1 218 20 = (σ0.1 218 20)) ∧ ((t.2).1 218 22 = (σ0.1 218 22)) ∧ ((t.2).1 218 23 = (σ0.1 218 23)) ∧ ((t.2).1 218 24 = (σ0.1 218 24)) ∧ ((t.2).1 218 25 = (σ0.1 218 25))) (fun t : Int32 × zS => (10 - (t.1).toInt).toNat) (fun again7 t hI ih22_7 => ?_) N _ (show Tr [218, 231] σ0 σ6 ∧ ((0 ≤ (0 : Int32).toInt ∧ (0 : Int32).toInt ≤ 10) ∧ RN (σ0.1 231) (σ6.1 231) (0 : Int32).toInt.toNat) ∧ (TOK σ6.1) ∧ (σ6.1 218 7 = (σ0.1 218 7)) ∧ (σ6.1 218 9 = (σ0.1 218 9)) ∧ (σ6.1 218 10 = (σ5.1 218 10)) ∧ (σ6.1 218 11 = (σ5.1 218 11)) ∧ (σ6.1 218 12 = (σ5.1 218 12)) ∧ (σ6.1 218 13 = (σ5.1 218 13)) ∧ (σ6.1 218 14 = (σ5.1 218 14)) ∧ (σ6.1 218 15 = (σ5.1 218 15)) ∧ (σ6.1 218 20 = (σ0.1 218 20)) ∧ (σ6.1 218 22 = (σ0.1 218 22)) ∧ (σ6.1 218 23 = (σ0.1 218 23)) ∧ (σ6.1 218 24 = (σ0.1 218 24)) ∧ (σ6.1 218 25 = (σ0.1 218 25)) from ⟨hT, (by exact ⟨by decide, k19⟩), hK, g7_σ6, g9_σ6, g10_σ6, g11_σ6, g12_σ6, g13_σ6, g14_σ6, g15_σ6, g20_σ6, g22_σ6, g23_σ6, g24_σ6, g25_σ6⟩) (show (10 - (0 : Int32).toInt).toNat < N from (by simp only [Int32.reduceToInt]; omega))
  obtain ⟨x1_7, σ7⟩ := t
  have hI : Tr [218, 231] σ0 σ7 ∧ ((0 ≤ x1_7.toInt ∧ x1_7.toInt ≤ 10) ∧ RN (σ0.1 231) (σ7.1 231) x1_7.toInt.toNat) ∧ (TOK σ7.1) ∧ (σ7.1 218 7 = (σ0.1 218 7)) ∧ (σ7.1 218 9 = (σ0.1 218 9)) ∧ (σ7.1 218 10 = (σ5.1 218 10)) ∧ (σ7.1 218 11 = (σ5.1 218 11)) ∧ (σ7.1 218 12 = (σ5.1 218 12)) ∧ (σ7.1 218 13 = (σ5.1 218 13)) ∧ (σ7.1 218 14 = (σ5.1 218 14)) ∧ (σ7.1 218 15 = (σ5.1 218 15)) ∧ (σ7.1 218 20 = (σ0.1 218 20)) ∧ (σ7.1 218 22 = (σ0.1 218 22)) ∧ (σ7.1 218 23 = (σ0.1 218 23)) ∧ (σ7.1 218 24 = (σ0.1 218 24)) ∧ (σ7.1 218 25 = (σ0.1 218 25)) := hI
  obtain ⟨hT, hI7, hK, g7_σ7, g9_σ7, g10_σ7, g11_σ7, g12_σ7, g13_σ7, g14_σ7, g15_σ7, g20_σ7, g22_σ7, g23_σ7, g24_σ7, g25_σ7⟩ := hI
  rw [F_X12_readsNames_22.eq_1]
  have h1 := hI7.1
  have hRN := hI7.2
  refine ok_if (fun hc8 => ?_) (fun hc8 => ?_)
  · have l25 := hc8
    rw [Int32.le_iff_toInt_le] at l25
    simp only [Int32.reduceToInt] at l25
    exact ok_some ⟨hT, (show (TOK σ7.1 ∧ (σ0.1 218 11).toInt ≤ (σ7.1 218 11).toInt ∧ (σ7.1 218 14 = 0 → σ0.1 218 14 = 0) ∧ FW (σ7.1 231) ∧ σ7.1 231 1 = σ0.1 231 1) ∧ (σ7.1 218 7 = σ0.1 218 7 ∧ σ7.1 218 9 = σ0.1 218 9 ∧ σ7.1 218 20 = σ0.1 218 20 ∧ σ7.1 218 22 = σ0.1 218 22 ∧ σ7.1 218 23 = σ0.1 218 23 ∧ σ7.1 218 24 = σ0.1 218 24 ∧ σ7.1 218 25 = σ0.1 218 25) from ⟨by exact ⟨hK, by (try simp only [g7_σ7, g9_σ7, g10_σ7, g11_σ7, g12_σ7, g13_σ7, g14_σ7, g15_σ7, g20_σ7, g22_σ7, g23_σ7, g24_σ7, g25_σ7]); omega, fun q => u4 (u16 ((g14_σ7).symm.trans q)).1.1, RN_e hRN (by omega) hF h2, hRN.1.2 1 (by decide) (Or.inl (by decide))⟩, g7_σ7, g9_σ7, g20_σ7, g22_σ7, g23_σ7, g24_σ7, g25_σ7⟩)⟩
  · have l25 := hc8
    rw [Int32.le_iff_toInt_le] at l25
    simp only [Int32.reduceToInt] at l25
    have s25 : (x1_7 + 1).toInt = x1_7.toInt + 1 := by rw [ti_add]; simp only [Int32.reduceToInt]; omega
    have j25 : (x1_7 + 1).toInt.toNat = x1_7.toInt.toNat + 1 := by rw [s25]; omega
    have i3 := ti3 (x := x1_7) h1.1 h1.2
    have i33 := ti33 (x := x1_7) h1.1 h1.2
    refine ok_gR (v := 231) hT rfl (hR 218 26 rfl) ?_
    refine ok_s14 hT rfl (by decide) (by rw [i3.1]; omega) (by rw [i3.1]; omega) (fun σ10 eσ10 hOσ10 hT => ?_)
    have r36 := RN_w eσ10 (by rw [i3.2]; omega) (by rw [i3.2]; omega) hRN
    have hK : TOK σ10.1 := TOK_tr hOσ10 (by decide) (by decide) hK
    have g7_σ10 : σ10.1 218 7 = (σ0.1 218 7) := (congrFun (hOσ10.2 218 (by decide)) 7).trans g7_σ7
    have g9_σ10 : σ10.1 218 9 = (σ0.1 218 9) := (congrFun (hOσ10.2 218 (by decide)) 9).trans g9_σ7
    have g10_σ10 : σ10.1 218 10 = (σ5.1 218 10) := (congrFun (hOσ10.2 218 (by decide)) 10).trans g10_σ7
    have g11_σ10 : σ10.1 218 11 = (σ5.1 218 11) := (congrFun (hOσ10.2 218 (by decide)) 11).trans g11_σ7
    have g12_σ10 : σ10.1 218 12 = (σ5.1 218 12) := (congrFun (hOσ10.2 218 (by decide)) 12).trans g12_σ7
    have g13_σ10 : σ10.1 218 13 = (σ5.1 218 13) := (congrFun (hOσ10.2 218 (by decide)) 13).trans g13_σ7
    have g14_σ10 : σ10.1 218 14 = (σ5.1 218 14) := (congrFun (hOσ10.2 218 (by decide)) 14).trans g14_σ7
    have g15_σ10 : σ10.1 218 15 = (σ5.1 218 15) := (congrFun (hOσ10.2 218 (by decide)) 15).trans g15_σ7
    have g20_σ10 : σ10.1 218 20 = (σ0.1 218 20) := (congrFun (hOσ10.2 218 (by decide)) 20).trans g20_σ7
    have g22_σ10 : σ10.1 218 22 = (σ0.1 218 22) := (congrFun (hOσ10.2 218 (by decide)) 22).trans g22_σ7
    have g23_σ10 : σ10.1 218 23 = (σ0.1 218 23) := (congrFun (hOσ10.2 218 (by decide)) 23).trans g23_σ7
    have g24_σ10 : σ10.1 218 24 = (σ0.1 218 24) := (congrFun (hOσ10.2 218 (by decide)) 24).trans g24_σ7
    have g25_σ10 : σ10.1 218 25 = (σ0.1 218 25) := (congrFun (hOσ10.2 218 (by decide)) 25).trans g25_σ7
    refine ok_gR (v := 231) hT rfl (hR 218 26 rfl) ?_
    refine ok_s14 hT rfl (by decide) (by rw [i33.1]; omega) (by rw [i33.1]; omega) (fun σ12 eσ12 hOσ12 hT => ?_)
    have r46 := RN_o eσ12 i33.2 (nI_ofm h1.1 h1.2).symm r36
    have hK : TOK σ12.1 := TOK_tr hOσ12 (by decide) (by decide) hK
    have g7_σ12 : σ12.1 218 7 = (σ0.1 218 7) := (congrFun (hOσ12.2 218 (by decide)) 7).trans g7_σ10
    have g9_σ12 : σ12.1 218 9 = (σ0.1 218 9) := (congrFun (hOσ12.2 218 (by decide)) 9).trans g9_σ10
    have g10_σ12 : σ12.1 218 10 = (σ5.1 218 10) := (congrFun (hOσ12.2 218 (by decide)) 10).trans g10_σ10
    have g11_σ12 : σ12.1 218 11 = (σ5.1 218 11) := (congrFun (hOσ12.2 218 (by decide)) 11).trans g11_σ10
    have g12_σ12 : σ12.1 218 12 = (σ5.1 218 12) := (congrFun (hOσ12.2 218 (by decide)) 12).trans g12_σ10
    have g13_σ12 : σ12.1 218 13 = (σ5.1 218 13) := (congrFun (hOσ12.2 218 (by decide)) 13).trans g13_σ10
    have g14_σ12 : σ12.1 218 14 = (σ5.1 218 14) := (congrFun (hOσ12.2 218 (by decide)) 14).trans g14_σ10
    have g15_σ12 : σ12.1 218 15 = (σ5.1 218 15) := (congrFun (hOσ12.2 218 (by decide)) 15).trans g15_σ10
    have g20_σ12 : σ12.1 218 20 = (σ0.1 218 20) := (congrFun (hOσ12.2 218 (by decide)) 20).trans g20_σ10
    have g22_σ12 : σ12.1 218 22 = (σ0.1 218 22) := (congrFun (hOσ12.2 218 (by decide)) 22).trans g22_σ10
    have g23_σ12 : σ12.1 218 23 = (σ0.1 218 23) := (congrFun (hOσ12.2 218 (by decide)) 23).trans g23_σ10
    have g24_σ12 : σ12.1 218 24 = (σ0.1 218 24) := (congrFun (hOσ12.2 218 (by decide)) 24).trans g24_σ10
    have g25_σ12 : σ12.1 218 25 = (σ0.1 218 25) := (congrFun (hOσ12.2 218 (by decide)) 25).trans g25_σ10
    exact ih22_7 (x1_7 + 1, σ12) (show Tr [218, 231] σ0 σ12 ∧ ((0 ≤ (x1_7 + 1).toInt ∧ (x1_7 + 1).toInt ≤ 10) ∧ RN (σ0.1 231) (σ12.1 231) (x1_7 + 1).toInt.toNat) ∧ (TOK σ12.1) ∧ (σ12.1 218 7 = (σ0.1 218 7)) ∧ (σ12.1 218 9 = (σ0.1 218 9)) ∧ (σ12.1 218 10 = (σ5.1 218 10)) ∧ (σ12.1 218 11 = (σ5.1 218 11)) ∧ (σ12.1 218 12 = (σ5.1 218 12)) ∧ (σ12.1 218 13 = (σ5.1 218 13)) ∧ (σ12.1 218 14 = (σ5.1 218 14)) ∧ (σ12.1 218 15 = (σ5.1 218 15)) ∧ (σ12.1 218 20 = (σ0.1 218 20)) ∧ (σ12.1 218 22 = (σ0.1 218 22)) ∧ (σ12.1 218 23 = (σ0.1 218 23)) ∧ (σ12.1 218 24 = (σ0.1 218 24)) ∧ (σ12.1 218 25 = (σ0.1 218 25)) from ⟨hT, (by exact ⟨⟨by rw [s25]; omega, by rw [s25]; omega⟩, by rw [j25]; exact r46⟩), hK, g7_σ12, g9_σ12, g10_σ12, g11_σ12, g12_σ12, g13_σ12, g14_σ12, g15_σ12, g20_σ12, g22_σ12, g23_σ12, g24_σ12, g25_σ12⟩) (show (10 - (x1_7 + 1).toInt).toNat < (10 - x1_7.toInt).toNat from (by rw [s25]; omega))

set_option maxHeartbeats 4000000 in
set_option maxRecDepth 100000 in
theorem s_X12_readsName {N : Nat} (hN : 1048576 ≤ N)  {σ0 : zS}  (hR : RF σ0.2.2) (hK : TOK σ0.1) (hY : BYT (σ0.1 224)) (hF : FW (σ0.1 231)) : Ok (f_X12_readsName N 218 σ0) (fun r => Tr [218] σ0 r.2 ∧ ((TOK r.2.1 ∧ (σ0.1 218 11).toInt ≤ (r.2.1 218 11).toInt ∧ (r.2.1 218 14 = 0 → σ0.1 218 14 = 0) ∧ 0 ≤ r.1.toInt ∧ r.1.toInt ≤ 9) ∧ (r.2.1 218 7 = σ0.1 218 7 ∧ r.2.1 218 9 = σ0.1 218 9 ∧ r.2.1 218 20 = σ0.1 218 20 ∧ r.2.1 218 22 = σ0.1 218 22 ∧ r.2.1 218 23 = σ0.1 218 23 ∧ r.2.1 218 24 = σ0.1 218 24 ∧ r.2.1 218 25 = σ0.1 218 25))) := by
  have hT : Tr [218] σ0 σ0 := Tr.rf
  have hK1 := hK.1
  rw [f_X12_readsName.eq_1]
  refine ok_gC rfl ?_
  refine ok_zbX (Q := fun V => (V = 0 → ¬ σ0.1 218 14 = 0) ∧ (¬ V = 0 → σ0.1 218 14 = 0)) (x_X12_good) (fun v1 hqv1 => ?_)
  have hqv1 : (v1 = 0 → ¬ σ0.1 218 14 = 0) ∧ (¬ v1 = 0 → σ0.1 218 14 = 0) := hqv1
  refine ok_if (fun hc3 => ?_) (fun hc3 => ?_)
  · have qhc3 := hqv1.1 hc3
    have n4 := qhc3
    rw [J_X12_readsName_20.eq_1]
    refine ok_gC rfl ?_
    refine ok_zbX (Q := fun V => (V = 0 → ¬ σ0.1 218 14 = 0) ∧ (¬ V = 0 → σ0.1 218 14 = 0)) (x_X12_good) (fun v4 hqv4 => ?_)
    have hqv4 : (v4 = 0 → ¬ σ0.1 218 14 = 0) ∧ (¬ v4 = 0 → σ0.1 218 14 = 0) := hqv4
    refine ok_if (fun hc6 => ?_) (fun hc6 => ?_)
    · have qhc6 := hqv4.1 hc6
      have n24 := qhc6
      rw [J_X12_readsName_66.eq_1]
      refine ok_gC rfl ?_
      refine ok_zbX (Q := fun V => (V = 0 → ¬ σ0.1 218 14 = 0) ∧ (¬ V = 0 → σ0.1 218 14 = 0)) (x_X12_good) (fun v7 hqv7 => ?_)
      have hqv7 : (v7 = 0 → ¬ σ0.1 218 14 = 0) ∧ (¬ v7 = 0 → σ0.1 218 14 = 0) := hqv7
      refine ok_if (fun hc9 => ?_) (fun hc9 => ?_)
      · have qhc9 := hqv7.1 hc9
        have n70 := qhc9
        rw [J_X12_readsName_89.eq_1]
        refine ok_gC rfl ?_
        refine ok_zbX (Q := fun V => (V = 0 → ¬ σ0.1 218 14 = 0) ∧ (¬ V = 0 → σ0.1 218 14 = 0)) (x_X12_good) (fun v10 hqv10 => ?_)
        have hqv10 : (v10 = 0 → ¬ σ0.1 218 14 = 0) ∧ (¬ v10 = 0 → σ0.1 218 14 = 0) := hqv10
        refine ok_if (fun hc12 => ?_) (fun hc12 => ?_)
        · have qhc12 := hqv10.1 hc12
          have n94 := qhc12
          exact ok_some ⟨hT, (show (TOK σ0.1 ∧ (σ0.1 218 11).toInt ≤ (σ0.1 218 11).toInt ∧ (σ0.1 218 14 = 0 → σ0.1 218 14 = 0) ∧ 0 ≤ (0 : Int32).toInt ∧ (0 : Int32).toInt ≤ 9) ∧ (σ0.1 218 7 = σ0.1 218 7 ∧ σ0.1 218 9 = σ0.1 218 9 ∧ σ0.1 218 20 = σ0.1 218 20 ∧ σ0.1 218 22 = σ0.1 218 22 ∧ σ0.1 218 23 = σ0.1 218 23 ∧ σ0.1 218 24 = σ0.1 218 24 ∧ σ0.1 218 25 = σ0.1 218 25) from ⟨by first | exact ⟨hK, by skip; omega, fun q => absurd q (by skip; exact n94), by first | decide | omega⟩ | exact ⟨hK, by skip; omega, fun _ => y4, by first | decide | omega⟩ | exact absurd y94 n70 | exact absurd y94 n63 | exact absurd y94 n24 | exact absurd y94 n17 | exact absurd y94 n4 | exact absurd y70 n94, rfl, rfl, rfl, rfl, rfl, rfl, rfl⟩)⟩
        · have qhc12 := hqv10.2 hc12
          have y94 := qhc12
          refine ok_gC rfl ?_
          refine ok_zbT (Q := fun V σ => (TOK σ.1 ∧ (σ0.1 218 10).toInt ≤ (σ.1 218 11).toInt) ∧ (σ.1 218 7 = σ0.1 218 7 ∧ σ.1 218 9 = σ0.1 218 9 ∧ σ.1 218 14 = σ0.1 218 14 ∧ σ.1 218 15 = σ0.1 218 15 ∧ σ.1 218 20 = σ0.1 218 20 ∧ σ.1 218 22 = σ0.1 218 22 ∧ σ.1 218 23 = σ0.1 218 23 ∧ σ.1 218 24 = σ0.1 218 24 ∧ σ.1 218 25 = σ0.1 218 25)) hT (s_X12_advance hN (hR.tr hT) (TOK_A hK) (by rw [hT.2 224 (by decide)]; exact hY)) (by decide) (fun v13 σ14 hOσ14 hT hqv13 => ?_)
          have hqv13 : (TOK σ14.1 ∧ (σ0.1 218 10).toInt ≤ (σ14.1 218 11).toInt) ∧ (σ14.1 218 7 = σ0.1 218 7 ∧ σ14.1 218 9 = σ0.1 218 9 ∧ σ14.1 218 14 = σ0.1 218 14 ∧ σ14.1 218 15 = σ0.1 218 15 ∧ σ14.1 218 20 = σ0.1 218 20 ∧ σ14.1 218 22 = σ0.1 218 22 ∧ σ14.1 218 23 = σ0.1 218 23 ∧ σ14.1 218 24 = σ0.1 218 24 ∧ σ14.1 218 25 = σ0.1 218 25) := hqv13
          have hkv13 := hqv13
          have hqv13 := hqv13.1
          have hK : TOK σ14.1 := by first | exact hqv13.1 | exact TOK_p eσ14 (by decide) hK
          have g7_σ14 : σ14.1 218 7 = (σ0.1 218 7) := hkv13.2.1
          have g9_σ14 : σ14.1 218 9 = (σ0.1 218 9) := hkv13.2.2.1
          have g14_σ14 : σ14.1 218 14 = (σ0.1 218 14) := hkv13.2.2.2.1
          have g15_σ14 : σ14.1 218 15 = (σ0.1 218 15) := hkv13.2.2.2.2.1
          have g20_σ14 : σ14.1 218 20 = (σ0.1 218 20) := hkv13.2.2.2.2.2.1
          have g22_σ14 : σ14.1 218 22 = (σ0.1 218 22) := hkv13.2.2.2.2.2.2.1
          have g23_σ14 : σ14.1 218 23 = (σ0.1 218 23) := hkv13.2.2.2.2.2.2.2.1
          have g24_σ14 : σ14.1 218 24 = (σ0.1 218 24) := hkv13.2.2.2.2.2.2.2.2.1
          have g25_σ14 : σ14.1 218 25 = (σ0.1 218 25) := hkv13.2.2.2.2.2.2.2.2.2
          have m98 := hqv13.2
          exact ok_some ⟨hT, (show (TOK σ14.1 ∧ (σ0.1 218 11).toInt ≤ (σ14.1 218 11).toInt ∧ (σ14.1 218 14 = 0 → σ0.1 218 14 = 0) ∧ 0 ≤ (0 : Int32).toInt ∧ (0 : Int32).toInt ≤ 9) ∧ (σ14.1 218 7 = σ0.1 218 7 ∧ σ14.1 218 9 = σ0.1 218 9 ∧ σ14.1 218 20 = σ0.1 218 20 ∧ σ14.1 218 22 = σ0.1 218 22 ∧ σ14.1 218 23 = σ0.1 218 23 ∧ σ14.1 218 24 = σ0.1 218 24 ∧ σ14.1 218 25 = σ0.1 218 25) from ⟨by first | exact ⟨hK, by (try simp only [g7_σ14, g9_σ14, g14_σ14, g15_σ14, g20_σ14, g22_σ14, g23_σ14, g24_σ14, g25_σ14]); omega, fun q => absurd q (by (try simp only [g7_σ14, g9_σ14, g14_σ14, g15_σ14, g20_σ14, g22_σ14, g23_σ14, g24_σ14, g25_σ14]); exact n94), by first | decide | omega⟩ | exact ⟨hK, by (try simp only [g7_σ14, g9_σ14, g14_σ14, g15_σ14, g20_σ14, g22_σ14, g23_σ14, g24_σ14, g25_σ14]); omega, fun _ => y4, by first | decide | omega⟩ | exact absurd y94 n70 | exact absurd y94 n63 | exact absurd y94 n24 | exact absurd y94 n17 | exact absurd y94 n4 | exact absurd y70 n94, g7_σ14, g9_σ14, g20_σ14, g22_σ14, g23_σ14, g24_σ14, g25_σ14⟩)⟩
      · have qhc9 := hqv7.2 hc9
        have y70 := qhc9
        refine ok_gR (v := 224) hT rfl (hR 218 6 rfl) ?_
        refine ok_gI rfl ?_
        refine ok_aIn rfl (by (skip); first | omega | decide | (simp only [Int32.le_iff_toInt_le, Int32.lt_iff_toInt_lt, ti_add, ti_sub, ti_mul, Int32.reduceToInt] at *; omega)) (by first | omega | exact absurd y70 n63 | exact absurd y70 n24 | exact absurd y70 n17 | exact absurd y70 n4) (fun v17 ev17 => ?_)
        have ev81 := ev17
        rw [hT.2 224 (by decide)] at ev81
        have t81 : 97 ≤ v17.toInt ∧ v17.toInt ≤ 122 := by first | (rw [ev81]; exact w12 (σ0.1 218 11).toInt.toNat (by omega) (by omega)) | exact absurd y70 n63 | exact absurd y70 n24 | exact absurd y70 n17 | exact absurd y70 n4
        have s81 : (v17 - 97).toInt = v17.toInt - 97 := by rw [ti_sub]; simp only [Int32.reduceToInt]; omega
        have b81 : (v17 - 97).toInt ≤ 9 := by first | (rw [ev81.trans ev48.symm]; have h0 := hF.1.1; omega) | exact absurd y70 n63 | exact absurd y70 n24 | exact absurd y70 n17 | exact absurd y70 n4
        rw [J_X12_readsName_89.eq_1]
        refine ok_gC rfl ?_
        refine ok_zbX (Q := fun V => (V = 0 → ¬ σ0.1 218 14 = 0) ∧ (¬ V = 0 → σ0.1 218 14 = 0)) (x_X12_good) (fun v18 hqv18 => ?_)
        have hqv18 : (v18 = 0 → ¬ σ0.1 218 14 = 0) ∧ (¬ v18 = 0 → σ0.1 218 14 = 0) := hqv18
        refine ok_if (fun hc20 => ?_) (fun hc20 => ?_)
        · have qhc20 := hqv18.1 hc20
          have n94 := qhc20
          exact ok_some ⟨hT, (show (TOK σ0.1 ∧ (σ0.1 218 11).toInt ≤ (σ0.1 218 11).toInt ∧ (σ0.1 218 14 = 0 → σ0.1 218 14 = 0) ∧ 0 ≤ (v17 - 97).toInt ∧ (v17 - 97).toInt ≤ 9) ∧ (σ0.1 218 7 = σ0.1 218 7 ∧ σ0.1 218 9 = σ0.1 218 9 ∧ σ0.1 218 20 = σ0.1 218 20 ∧ σ0.1 218 22 = σ0.1 218 22 ∧ σ0.1 218 23 = σ0.1 218 23 ∧ σ0.1 218 24 = σ0.1 218 24 ∧ σ0.1 218 25 = σ0.1 218 25) from ⟨by first | exact ⟨hK, by skip; omega, fun q => absurd q (by skip; exact n94), by first | decide | omega⟩ | exact ⟨hK, by skip; omega, fun _ => y4, by first | decide | omega⟩ | exact absurd y94 n70 | exact absurd y94 n63 | exact absurd y94 n24 | exact absurd y94 n17 | exact absurd y94 n4 | exact absurd y70 n94, rfl, rfl, rfl, rfl, rfl, rfl, rfl⟩)⟩
        · have qhc20 := hqv18.2 hc20
          have y94 := qhc20
          refine ok_gC rfl ?_
          refine ok_zbT (Q := fun V σ => (TOK σ.1 ∧ (σ0.1 218 10).toInt ≤ (σ.1 218 11).toInt) ∧ (σ.1 218 7 = σ0.1 218 7 ∧ σ.1 218 9 = σ0.1 218 9 ∧ σ.1 218 14 = σ0.1 218 14 ∧ σ.1 218 15 = σ0.1 218 15 ∧ σ.1 218 20 = σ0.1 218 20 ∧ σ.1 218 22 = σ0.1 218 22 ∧ σ.1 218 23 = σ0.1 218 23 ∧ σ.1 218 24 = σ0.1 218 24 ∧ σ.1 218 25 = σ0.1 218 25)) hT (s_X12_advance hN (hR.tr hT) (TOK_A hK) (by rw [hT.2 224 (by decide)]; exact hY)) (by decide) (fun v21 σ22 hOσ22 hT hqv21 => ?_)
          have hqv21 : (TOK σ22.1 ∧ (σ0.1 218 10).toInt ≤ (σ22.1 218 11).toInt) ∧ (σ22.1 218 7 = σ0.1 218 7 ∧ σ22.1 218 9 = σ0.1 218 9 ∧ σ22.1 218 14 = σ0.1 218 14 ∧ σ22.1 218 15 = σ0.1 218 15 ∧ σ22.1 218 20 = σ0.1 218 20 ∧ σ22.1 218 22 = σ0.1 218 22 ∧ σ22.1 218 23 = σ0.1 218 23 ∧ σ22.1 218 24 = σ0.1 218 24 ∧ σ22.1 218 25 = σ0.1 218 25) := hqv21
          have hkv21 := hqv21
          have hqv21 := hqv21.1
          have hK : TOK σ22.1 := by first | exact hqv21.1 | exact TOK_p eσ22 (by decide) hK
          have g7_σ22 : σ22.1 218 7 = (σ0.1 218 7) := hkv21.2.1
          have g9_σ22 : σ22.1 218 9 = (σ0.1 218 9) := hkv21.2.2.1
          have g14_σ22 : σ22.1 218 14 = (σ0.1 218 14) := hkv21.2.2.2.1
          have g15_σ22 : σ22.1 218 15 = (σ0.1 218 15) := hkv21.2.2.2.2.1
          have g20_σ22 : σ22.1 218 20 = (σ0.1 218 20) := hkv21.2.2.2.2.2.1
          have g22_σ22 : σ22.1 218 22 = (σ0.1 218 22) := hkv21.2.2.2.2.2.2.1
          have g23_σ22 : σ22.1 218 23 = (σ0.1 218 23) := hkv21.2.2.2.2.2.2.2.1
          have g24_σ22 : σ22.1 218 24 = (σ0.1 218 24) := hkv21.2.2.2.2.2.2.2.2.1
          have g25_σ22 : σ22.1 218 25 = (σ0.1 218 25) := hkv21.2.2.2.2.2.2.2.2.2
          have m98 := hqv21.2
          exact ok_some ⟨hT, (show (TOK σ22.1 ∧ (σ0.1 218 11).toInt ≤ (σ22.1 218 11).toInt ∧ (σ22.1 218 14 = 0 → σ0.1 218 14 = 0) ∧ 0 ≤ (v17 - 97).toInt ∧ (v17 - 97).toInt ≤ 9) ∧ (σ22.1 218 7 = σ0.1 218 7 ∧ σ22.1 218 9 = σ0.1 218 9 ∧ σ22.1 218 20 = σ0.1 218 20 ∧ σ22.1 218 22 = σ0.1 218 22 ∧ σ22.1 218 23 = σ0.1 218 23 ∧ σ22.1 218 24 = σ0.1 218 24 ∧ σ22.1 218 25 = σ0.1 218 25) from ⟨by first | exact ⟨hK, by (try simp only [g7_σ22, g9_σ22, g14_σ22, g15_σ22, g20_σ22, g22_σ22, g23_σ22, g24_σ22, g25_σ22]); omega, fun q => absurd q (by (try simp only [g7_σ22, g9_σ22, g14_σ22, g15_σ22, g20_σ22, g22_σ22, g23_σ22, g24_σ22, g25_σ22]); exact n94), by first | decide | omega⟩ | exact ⟨hK, by (try simp only [g7_σ22, g9_σ22, g14_σ22, g15_σ22, g20_σ22, g22_σ22, g23_σ22, g24_σ22, g25_σ22]); omega, fun _ => y4, by first | decide | omega⟩ | exact absurd y94 n70 | exact absurd y94 n63 | exact absurd y94 n24 | exact absurd y94 n17 | exact absurd y94 n4 | exact absurd y70 n94, g7_σ22, g9_σ22, g20_σ22, g22_σ22, g23_σ22, g24_σ22, g25_σ22⟩)⟩
    · have qhc6 := hqv4.2 hc6
      have y24 := qhc6
      refine ok_gI rfl ?_
      refine ok_gI rfl ?_
      refine ok_if (fun hc25 => ?_) (fun hc25 => ?_)
      · refine ok_gC rfl ?_
        refine ok_zbT (Q := fun V σ => (TOK σ.1 ∧ ¬ σ.1 218 14 = 0) ∧ (σ.1 218 7 = σ0.1 218 7 ∧ σ.1 218 9 = σ0.1 218 9 ∧ σ.1 218 10 = σ0.1 218 10 ∧ σ.1 218 11 = σ0.1 218 11 ∧ σ.1 218 12 = σ0.1 218 12 ∧ σ.1 218 13 = σ0.1 218 13 ∧ σ.1 218 20 = σ0.1 218 20 ∧ σ.1 218 22 = σ0.1 218 22 ∧ σ.1 218 23 = σ0.1 218 23 ∧ σ.1 218 24 = σ0.1 218 24 ∧ σ.1 218 25 = σ0.1 218 25)) hT (s_X12_errs hN (hR.tr hT) (hK) (by rw [hT.2 224 (by decide)]; exact hY) (by decide)) (by decide) (fun v26 σ27 hOσ27 hT hqv26 => ?_)
        have hqv26 : (TOK σ27.1 ∧ ¬ σ27.1 218 14 = 0) ∧ (σ27.1 218 7 = σ0.1 218 7 ∧ σ27.1 218 9 = σ0.1 218 9 ∧ σ27.1 218 10 = σ0.1 218 10 ∧ σ27.1 218 11 = σ0.1 218 11 ∧ σ27.1 218 12 = σ0.1 218 12 ∧ σ27.1 218 13 = σ0.1 218 13 ∧ σ27.1 218 20 = σ0.1 218 20 ∧ σ27.1 218 22 = σ0.1 218 22 ∧ σ27.1 218 23 = σ0.1 218 23 ∧ σ27.1 218 24 = σ0.1 218 24 ∧ σ27.1 218 25 = σ0.1 218 25) := hqv26
        have hkv26 := hqv26
        have hqv26 := hqv26.1
        have hK : TOK σ27.1 := by first | exact hqv26.1 | exact TOK_p eσ27 (by decide) hK
        have g7_σ27 : σ27.1 218 7 = (σ0.1 218 7) := hkv26.2.1
        have g9_σ27 : σ27.1 218 9 = (σ0.1 218 9) := hkv26.2.2.1
        have g10_σ27 : σ27.1 218 10 = (σ0.1 218 10) := hkv26.2.2.2.1
        have g11_σ27 : σ27.1 218 11 = (σ0.1 218 11) := hkv26.2.2.2.2.1
        have g12_σ27 : σ27.1 218 12 = (σ0.1 218 12) := hkv26.2.2.2.2.2.1
        have g13_σ27 : σ27.1 218 13 = (σ0.1 218 13) := hkv26.2.2.2.2.2.2.1
        have g20_σ27 : σ27.1 218 20 = (σ0.1 218 20) := hkv26.2.2.2.2.2.2.2.1
        have g22_σ27 : σ27.1 218 22 = (σ0.1 218 22) := hkv26.2.2.2.2.2.2.2.2.1
        have g23_σ27 : σ27.1 218 23 = (σ0.1 218 23) := hkv26.2.2.2.2.2.2.2.2.2.1
        have g24_σ27 : σ27.1 218 24 = (σ0.1 218 24) := hkv26.2.2.2.2.2.2.2.2.2.2.1
        have g25_σ27 : σ27.1 218 25 = (σ0.1 218 25) := hkv26.2.2.2.2.2.2.2.2.2.2.2
        have n63 := hqv26.2
        rw [J_X12_readsName_66.eq_1]
        refine ok_gC rfl ?_
        refine ok_zbX (Q := fun V => (V = 0 → ¬ σ27.1 218 14 = 0) ∧ (¬ V = 0 → σ27.1 218 14 = 0)) (x_X12_good) (fun v28 hqv28 => ?_)
        have hqv28 : (v28 = 0 → ¬ σ27.1 218 14 = 0) ∧ (¬ v28 = 0 → σ27.1 218 14 = 0) := hqv28
        try simp only [g7_σ27, g9_σ27, g10_σ27, g11_σ27, g12_σ27, g13_σ27, g20_σ27, g22_σ27, g23_σ27, g24_σ27, g25_σ27, hT.2 224 (by decide)] at hqv28
        refine ok_if (fun hc30 => ?_) (fun hc30 => ?_)
        · have qhc30 := hqv28.1 hc30
          have n70 := qhc30
          rw [J_X12_readsName_89.eq_1]
          refine ok_gC rfl ?_
          refine ok_zbX (Q := fun V => (V = 0 → ¬ σ27.1 218 14 = 0) ∧ (¬ V = 0 → σ27.1 218 14 = 0)) (x_X12_good) (fun v31 hqv31 => ?_)
          have hqv31 : (v31 = 0 → ¬ σ27.1 218 14 = 0) ∧ (¬ v31 = 0 → σ27.1 218 14 = 0) := hqv31
          try simp only [g7_σ27, g9_σ27, g10_σ27, g11_σ27, g12_σ27, g13_σ27, g20_σ27, g22_σ27, g23_σ27, g24_σ27, g25_σ27, hT.2 224 (by decide)] at hqv31
          refine ok_if (fun hc33 => ?_) (fun hc33 => ?_)
          · have qhc33 := hqv31.1 hc33
            have n94 := qhc33
            exact ok_some ⟨hT, (show (TOK σ27.1 ∧ (σ0.1 218 11).toInt ≤ (σ27.1 218 11).toInt ∧ (σ27.1 218 14 = 0 → σ0.1 218 14 = 0) ∧ 0 ≤ (0 : Int32).toInt ∧ (0 : Int32).toInt ≤ 9) ∧ (σ27.1 218 7 = σ0.1 218 7 ∧ σ27.1 218 9 = σ0.1 218 9 ∧ σ27.1 218 20 = σ0.1 218 20 ∧ σ27.1 218 22 = σ0.1 218 22 ∧ σ27.1 218 23 = σ0.1 218 23 ∧ σ27.1 218 24 = σ0.1 218 24 ∧ σ27.1 218 25 = σ0.1 218 25) from ⟨by first | exact ⟨hK, by (try simp only [g7_σ27, g9_σ27, g10_σ27, g11_σ27, g12_σ27, g13_σ27, g20_σ27, g22_σ27, g23_σ27, g24_σ27, g25_σ27]); omega, fun q => absurd q (by (try simp only [g7_σ27, g9_σ27, g10_σ27, g11_σ27, g12_σ27, g13_σ27, g20_σ27, g22_σ27, g23_σ27, g24_σ27, g25_σ27]); exact n94), by first | decide | omega⟩ | exact ⟨hK, by (try simp only [g7_σ27, g9_σ27, g10_σ27, g11_σ27, g12_σ27, g13_σ27, g20_σ27, g22_σ27, g23_σ27, g24_σ27, g25_σ27]); omega, fun _ => y4, by first | decide | omega⟩ | exact absurd y94 n70 | exact absurd y94 n63 | exact absurd y94 n24 | exact absurd y94 n17 | exact absurd y94 n4 | exact absurd y70 n94, g7_σ27, g9_σ27, g20_σ27, g22_σ27, g23_σ27, g24_σ27, g25_σ27⟩)⟩
          · have qhc33 := hqv31.2 hc33
            have y94 := qhc33
            refine ok_gC rfl ?_
            refine ok_zbT (Q := fun V σ => (TOK σ.1 ∧ (σ27.1 218 10).toInt ≤ (σ.1 218 11).toInt) ∧ (σ.1 218 7 = σ27.1 218 7 ∧ σ.1 218 9 = σ27.1 218 9 ∧ σ.1 218 14 = σ27.1 218 14 ∧ σ.1 218 15 = σ27.1 218 15 ∧ σ.1 218 20 = σ27.1 218 20 ∧ σ.1 218 22 = σ27.1 218 22 ∧ σ.1 218 23 = σ27.1 218 23 ∧ σ.1 218 24 = σ27.1 218 24 ∧ σ.1 218 25 = σ27.1 218 25)) hT (s_X12_advance hN (hR.tr hT) (TOK_A hK) (by rw [hT.2 224 (by decide)]; exact hY)) (by decide) (fun v34 σ35 hOσ35 hT hqv34 => ?_)
            have hqv34 : (TOK σ35.1 ∧ (σ27.1 218 10).toInt ≤ (σ35.1 218 11).toInt) ∧ (σ35.1 218 7 = σ27.1 218 7 ∧ σ35.1 218 9 = σ27.1 218 9 ∧ σ35.1 218 14 = σ27.1 218 14 ∧ σ35.1 218 15 = σ27.1 218 15 ∧ σ35.1 218 20 = σ27.1 218 20 ∧ σ35.1 218 22 = σ27.1 218 22 ∧ σ35.1 218 23 = σ27.1 218 23 ∧ σ35.1 218 24 = σ27.1 218 24 ∧ σ35.1 218 25 = σ27.1 218 25) := hqv34
            have hkv34 := hqv34
            have hqv34 := hqv34.1
            have hK : TOK σ35.1 := by first | exact hqv34.1 | exact TOK_p eσ35 (by decide) hK
            try simp only [g7_σ27, g9_σ27, g10_σ27, g11_σ27, g12_σ27, g13_σ27, g20_σ27, g22_σ27, g23_σ27, g24_σ27, g25_σ27] at hqv34
            have g7_σ35 : σ35.1 218 7 = (σ0.1 218 7) := (hkv34.2.1).trans g7_σ27
            have g9_σ35 : σ35.1 218 9 = (σ0.1 218 9) := (hkv34.2.2.1).trans g9_σ27
            have g14_σ35 : σ35.1 218 14 = (σ27.1 218 14) := hkv34.2.2.2.1
            have g15_σ35 : σ35.1 218 15 = (σ27.1 218 15) := hkv34.2.2.2.2.1
            have g20_σ35 : σ35.1 218 20 = (σ0.1 218 20) := (hkv34.2.2.2.2.2.1).trans g20_σ27
            have g22_σ35 : σ35.1 218 22 = (σ0.1 218 22) := (hkv34.2.2.2.2.2.2.1).trans g22_σ27
            have g23_σ35 : σ35.1 218 23 = (σ0.1 218 23) := (hkv34.2.2.2.2.2.2.2.1).trans g23_σ27
            have g24_σ35 : σ35.1 218 24 = (σ0.1 218 24) := (hkv34.2.2.2.2.2.2.2.2.1).trans g24_σ27
            have g25_σ35 : σ35.1 218 25 = (σ0.1 218 25) := (hkv34.2.2.2.2.2.2.2.2.2).trans g25_σ27
            have m98 := hqv34.2
            exact ok_some ⟨hT, (show (TOK σ35.1 ∧ (σ0.1 218 11).toInt ≤ (σ35.1 218 11).toInt ∧ (σ35.1 218 14 = 0 → σ0.1 218 14 = 0) ∧ 0 ≤ (0 : Int32).toInt ∧ (0 : Int32).toInt ≤ 9) ∧ (σ35.1 218 7 = σ0.1 218 7 ∧ σ35.1 218 9 = σ0.1 218 9 ∧ σ35.1 218 20 = σ0.1 218 20 ∧ σ35.1 218 22 = σ0.1 218 22 ∧ σ35.1 218 23 = σ0.1 218 23 ∧ σ35.1 218 24 = σ0.1 218 24 ∧ σ35.1 218 25 = σ0.1 218 25) from ⟨by first | exact ⟨hK, by (try simp only [g7_σ35, g9_σ35, g14_σ35, g15_σ35, g20_σ35, g22_σ35, g23_σ35, g24_σ35, g25_σ35]); omega, fun q => absurd q (by (try simp only [g7_σ35, g9_σ35, g14_σ35, g15_σ35, g20_σ35, g22_σ35, g23_σ35, g24_σ35, g25_σ35]); exact n94), by first | decide | omega⟩ | exact ⟨hK, by (try simp only [g7_σ35, g9_σ35, g14_σ35, g15_σ35, g20_σ35, g22_σ35, g23_σ35, g24_σ35, g25_σ35]); omega, fun _ => y4, by first | decide | omega⟩ | exact absurd y94 n70 | exact absurd y94 n63 | exact absurd y94 n24 | exact absurd y94 n17 | exact absurd y94 n4 | exact absurd y70 n94, g7_σ35, g9_σ35, g20_σ35, g22_σ35, g23_σ35, g24_σ35, g25_σ35⟩)⟩
        · have qhc30 := hqv28.2 hc30
          have y70 := qhc30
          refine ok_gR (v := 224) hT rfl (hR 218 6 rfl) ?_
          refine ok_gIv rfl g11_σ27 ?_
          refine ok_aIn rfl (by ((try simp only [g7_σ27, g9_σ27, g10_σ27, g11_σ27, g12_σ27, g13_σ27, g20_σ27, g22_σ27, g23_σ27, g24_σ27, g25_σ27])); first | omega | decide | (simp only [Int32.le_iff_toInt_le, Int32.lt_iff_toInt_lt, ti_add, ti_sub, ti_mul, Int32.reduceToInt] at *; omega)) (by first | omega | exact absurd y70 n63 | exact absurd y70 n24 | exact absurd y70 n17 | exact absurd y70 n4) (fun v38 ev38 => ?_)
          have ev81 := ev38
          rw [hT.2 224 (by decide)] at ev81
          have t81 : 97 ≤ v38.toInt ∧ v38.toInt ≤ 122 := by first | (rw [ev81]; exact w12 (σ0.1 218 11).toInt.toNat (by omega) (by omega)) | exact absurd y70 n63 | exact absurd y70 n24 | exact absurd y70 n17 | exact absurd y70 n4
          have s81 : (v38 - 97).toInt = v38.toInt - 97 := by rw [ti_sub]; simp only [Int32.reduceToInt]; omega
          have b81 : (v38 - 97).toInt ≤ 9 := by first | (rw [ev81.trans ev48.symm]; have h0 := hF.1.1; omega) | exact absurd y70 n63 | exact absurd y70 n24 | exact absurd y70 n17 | exact absurd y70 n4
          rw [J_X12_readsName_89.eq_1]
          refine ok_gC rfl ?_
          refine ok_zbX (Q := fun V => (V = 0 → ¬ σ27.1 218 14 = 0) ∧ (¬ V = 0 → σ27.1 218 14 = 0)) (x_X12_good) (fun v39 hqv39 => ?_)
          have hqv39 : (v39 = 0 → ¬ σ27.1 218 14 = 0) ∧ (¬ v39 = 0 → σ27.1 218 14 = 0) := hqv39
          try simp only [g7_σ27, g9_σ27, g10_σ27, g11_σ27, g12_σ27, g13_σ27, g20_σ27, g22_σ27, g23_σ27, g24_σ27, g25_σ27, hT.2 224 (by decide)] at hqv39
          refine ok_if (fun hc41 => ?_) (fun hc41 => ?_)
          · have qhc41 := hqv39.1 hc41
            have n94 := qhc41
            exact ok_some ⟨hT, (show (TOK σ27.1 ∧ (σ0.1 218 11).toInt ≤ (σ27.1 218 11).toInt ∧ (σ27.1 218 14 = 0 → σ0.1 218 14 = 0) ∧ 0 ≤ (v38 - 97).toInt ∧ (v38 - 97).toInt ≤ 9) ∧ (σ27.1 218 7 = σ0.1 218 7 ∧ σ27.1 218 9 = σ0.1 218 9 ∧ σ27.1 218 20 = σ0.1 218 20 ∧ σ27.1 218 22 = σ0.1 218 22 ∧ σ27.1 218 23 = σ0.1 218 23 ∧ σ27.1 218 24 = σ0.1 218 24 ∧ σ27.1 218 25 = σ0.1 218 25) from ⟨by first | exact ⟨hK, by (try simp only [g7_σ27, g9_σ27, g10_σ27, g11_σ27, g12_σ27, g13_σ27, g20_σ27, g22_σ27, g23_σ27, g24_σ27, g25_σ27]); omega, fun q => absurd q (by (try simp only [g7_σ27, g9_σ27, g10_σ27, g11_σ27, g12_σ27, g13_σ27, g20_σ27, g22_σ27, g23_σ27, g24_σ27, g25_σ27]); exact n94), by first | decide | omega⟩ | exact ⟨hK, by (try simp only [g7_σ27, g9_σ27, g10_σ27, g11_σ27, g12_σ27, g13_σ27, g20_σ27, g22_σ27, g23_σ27, g24_σ27, g25_σ27]); omega, fun _ => y4, by first | decide | omega⟩ | exact absurd y94 n70 | exact absurd y94 n63 | exact absurd y94 n24 | exact absurd y94 n17 | exact absurd y94 n4 | exact absurd y70 n94, g7_σ27, g9_σ27, g20_σ27, g22_σ27, g23_σ27, g24_σ27, g25_σ27⟩)⟩
          · have qhc41 := hqv39.2 hc41
            have y94 := qhc41
            refine ok_gC rfl ?_
            refine ok_zbT (Q := fun V σ => (TOK σ.1 ∧ (σ27.1 218 10).toInt ≤ (σ.1 218 11).toInt) ∧ (σ.1 218 7 = σ27.1 218 7 ∧ σ.1 218 9 = σ27.1 218 9 ∧ σ.1 218 14 = σ27.1 218 14 ∧ σ.1 218 15 = σ27.1 218 15 ∧ σ.1 218 20 = σ27.1 218 20 ∧ σ.1 218 22 = σ27.1 218 22 ∧ σ.1 218 23 = σ27.1 218 23 ∧ σ.1 218 24 = σ27.1 218 24 ∧ σ.1 218 25 = σ27.1 218 25)) hT (s_X12_advance hN (hR.tr hT) (TOK_A hK) (by rw [hT.2 224 (by decide)]; exact hY)) (by decide) (fun v42 σ43 hOσ43 hT hqv42 => ?_)
            have hqv42 : (TOK σ43.1 ∧ (σ27.1 218 10).toInt ≤ (σ43.1 218 11).toInt) ∧ (σ43.1 218 7 = σ27.1 218 7 ∧ σ43.1 218 9 = σ27.1 218 9 ∧ σ43.1 218 14 = σ27.1 218 14 ∧ σ43.1 218 15 = σ27.1 218 15 ∧ σ43.1 218 20 = σ27.1 218 20 ∧ σ43.1 218 22 = σ27.1 218 22 ∧ σ43.1 218 23 = σ27.1 218 23 ∧ σ43.1 218 24 = σ27.1 218 24 ∧ σ43.1 218 25 = σ27.1 218 25) := hqv42
            have hkv42 := hqv42
            have hqv42 := hqv42.1
            have hK : TOK σ43.1 := by first | exact hqv42.1 | exact TOK_p eσ43 (by decide) hK
            try simp only [g7_σ27, g9_σ27, g10_σ27, g11_σ27, g12_σ27, g13_σ27, g20_σ27, g22_σ27, g23_σ27, g24_σ27, g25_σ27] at hqv42
            have g7_σ43 : σ43.1 218 7 = (σ0.1 218 7) := (hkv42.2.1).trans g7_σ27
            have g9_σ43 : σ43.1 218 9 = (σ0.1 218 9) := (hkv42.2.2.1).trans g9_σ27
            have g14_σ43 : σ43.1 218 14 = (σ27.1 218 14) := hkv42.2.2.2.1
            have g15_σ43 : σ43.1 218 15 = (σ27.1 218 15) := hkv42.2.2.2.2.1
            have g20_σ43 : σ43.1 218 20 = (σ0.1 218 20) := (hkv42.2.2.2.2.2.1).trans g20_σ27
            have g22_σ43 : σ43.1 218 22 = (σ0.1 218 22) := (hkv42.2.2.2.2.2.2.1).trans g22_σ27
            have g23_σ43 : σ43.1 218 23 = (σ0.1 218 23) := (hkv42.2.2.2.2.2.2.2.1).trans g23_σ27
            have g24_σ43 : σ43.1 218 24 = (σ0.1 218 24) := (hkv42.2.2.2.2.2.2.2.2.1).trans g24_σ27
            have g25_σ43 : σ43.1 218 25 = (σ0.1 218 25) := (hkv42.2.2.2.2.2.2.2.2.2).trans g25_σ27
            have m98 := hqv42.2
            exact ok_some ⟨hT, (show (TOK σ43.1 ∧ (σ0.1 218 11).toInt ≤ (σ43.1 218 11).toInt ∧ (σ43.1 218 14 = 0 → σ0.1 218 14 = 0) ∧ 0 ≤ (v38 - 97).toInt ∧ (v38 - 97).toInt ≤ 9) ∧ (σ43.1 218 7 = σ0.1 218 7 ∧ σ43.1 218 9 = σ0.1 218 9 ∧ σ43.1 218 20 = σ0.1 218 20 ∧ σ43.1 218 22 = σ0.1 218 22 ∧ σ43.1 218 23 = σ0.1 218 23 ∧ σ43.1 218 24 = σ0.1 218 24 ∧ σ43.1 218 25 = σ0.1 218 25) from ⟨by first | exact ⟨hK, by (try simp only [g7_σ43, g9_σ43, g14_σ43, g15_σ43, g20_σ43, g22_σ43, g23_σ43, g24_σ43, g25_σ43]); omega, fun q => absurd q (by (try simp only [g7_σ43, g9_σ43, g14_σ43, g15_σ43, g20_σ43, g22_σ43, g23_σ43, g24_σ43, g25_σ43]); exact n94), by first | decide | omega⟩ | exact ⟨hK, by (try simp only [g7_σ43, g9_σ43, g14_σ43, g15_σ43, g20_σ43, g22_σ43, g23_σ43, g24_σ43, g25_σ43]); omega, fun _ => y4, by first | decide | omega⟩ | exact absurd y94 n70 | exact absurd y94 n63 | exact absurd y94 n24 | exact absurd y94 n17 | exact absurd y94 n4 | exact absurd y70 n94, g7_σ43, g9_σ43, g20_σ43, g22_σ43, g23_σ43, g24_σ43, g25_σ43⟩)⟩
      · refine ok_gR (v := 224) hT rfl (hR 218 6 rfl) ?_
        refine ok_gI rfl ?_
        refine ok_aIn rfl (by (skip); first | omega | decide | (simp only [Int32.le_iff_toInt_le, Int32.lt_iff_toInt_lt, ti_add, ti_sub, ti_mul, Int32.reduceToInt] at *; omega)) (by first | omega | exact absurd y24 n4 | exact absurd y24 n17) (fun v46 ev46 => ?_)
        have ev48 := ev46
        rw [hT.2 224 (by decide)] at ev48
        refine ok_gR (v := 231) hT rfl (hR 218 26 rfl) ?_
        refine ok_aIc (j := 0) hT rfl (by decide) rfl (by decide) (by decide) ?_
        refine ok_if (fun hc49 => ?_) (fun hc49 => ?_)
        · have l58 := hc49
          rw [Int32.lt_iff_toInt_lt] at l58
          rw [J_X12_readsName_66.eq_1]
          refine ok_gC rfl ?_
          refine ok_zbX (Q := fun V => (V = 0 → ¬ σ0.1 218 14 = 0) ∧ (¬ V = 0 → σ0.1 218 14 = 0)) (x_X12_good) (fun v50 hqv50 => ?_)
          have hqv50 : (v50 = 0 → ¬ σ0.1 218 14 = 0) ∧ (¬ v50 = 0 → σ0.1 218 14 = 0) := hqv50
          refine ok_if (fun hc52 => ?_) (fun hc52 => ?_)
          · have qhc52 := hqv50.1 hc52
            have n70 := qhc52
            rw [J_X12_readsName_89.eq_1]
            refine ok_gC rfl ?_
            refine ok_zbX (Q := fun V => (V = 0 → ¬ σ0.1 218 14 = 0) ∧ (¬ V = 0 → σ0.1 218 14 = 0)) (x_X12_good) (fun v53 hqv53 => ?_)
            have hqv53 : (v53 = 0 → ¬ σ0.1 218 14 = 0) ∧ (¬ v53 = 0 → σ0.1 218 14 = 0) := hqv53
            refine ok_if (fun hc55 => ?_) (fun hc55 => ?_)
            · have qhc55 := hqv53.1 hc55
              have n94 := qhc55
              exact ok_some ⟨hT, (show (TOK σ0.1 ∧ (σ0.1 218 11).toInt ≤ (σ0.1 218 11).toInt ∧ (σ0.1 218 14 = 0 → σ0.1 218 14 = 0) ∧ 0 ≤ (0 : Int32).toInt ∧ (0 : Int32).toInt ≤ 9) ∧ (σ0.1 218 7 = σ0.1 218 7 ∧ σ0.1 218 9 = σ0.1 218 9 ∧ σ0.1 218 20 = σ0.1 218 20 ∧ σ0.1 218 22 = σ0.1 218 22 ∧ σ0.1 218 23 = σ0.1 218 23 ∧ σ0.1 218 24 = σ0.1 218 24 ∧ σ0.1 218 25 = σ0.1 218 25) from ⟨by first | exact ⟨hK, by skip; omega, fun q => absurd q (by skip; exact n94), by first | decide | omega⟩ | exact ⟨hK, by skip; omega, fun _ => y4, by first | decide | omega⟩ | exact absurd y94 n70 | exact absurd y94 n63 | exact absurd y94 n24 | exact absurd y94 n17 | exact absurd y94 n4 | exact absurd y70 n94, rfl, rfl, rfl, rfl, rfl, rfl, rfl⟩)⟩
            · have qhc55 := hqv53.2 hc55
              have y94 := qhc55
              refine ok_gC rfl ?_
              refine ok_zbT (Q := fun V σ => (TOK σ.1 ∧ (σ0.1 218 10).toInt ≤ (σ.1 218 11).toInt) ∧ (σ.1 218 7 = σ0.1 218 7 ∧ σ.1 218 9 = σ0.1 218 9 ∧ σ.1 218 14 = σ0.1 218 14 ∧ σ.1 218 15 = σ0.1 218 15 ∧ σ.1 218 20 = σ0.1 218 20 ∧ σ.1 218 22 = σ0.1 218 22 ∧ σ.1 218 23 = σ0.1 218 23 ∧ σ.1 218 24 = σ0.1 218 24 ∧ σ.1 218 25 = σ0.1 218 25)) hT (s_X12_advance hN (hR.tr hT) (TOK_A hK) (by rw [hT.2 224 (by decide)]; exact hY)) (by decide) (fun v56 σ57 hOσ57 hT hqv56 => ?_)
              have hqv56 : (TOK σ57.1 ∧ (σ0.1 218 10).toInt ≤ (σ57.1 218 11).toInt) ∧ (σ57.1 218 7 = σ0.1 218 7 ∧ σ57.1 218 9 = σ0.1 218 9 ∧ σ57.1 218 14 = σ0.1 218 14 ∧ σ57.1 218 15 = σ0.1 218 15 ∧ σ57.1 218 20 = σ0.1 218 20 ∧ σ57.1 218 22 = σ0.1 218 22 ∧ σ57.1 218 23 = σ0.1 218 23 ∧ σ57.1 218 24 = σ0.1 218 24 ∧ σ57.1 218 25 = σ0.1 218 25) := hqv56
              have hkv56 := hqv56
              have hqv56 := hqv56.1
              have hK : TOK σ57.1 := by first | exact hqv56.1 | exact TOK_p eσ57 (by decide) hK
              have g7_σ57 : σ57.1 218 7 = (σ0.1 218 7) := hkv56.2.1
              have g9_σ57 : σ57.1 218 9 = (σ0.1 218 9) := hkv56.2.2.1
              have g14_σ57 : σ57.1 218 14 = (σ0.1 218 14) := hkv56.2.2.2.1
              have g15_σ57 : σ57.1 218 15 = (σ0.1 218 15) := hkv56.2.2.2.2.1
              have g20_σ57 : σ57.1 218 20 = (σ0.1 218 20) := hkv56.2.2.2.2.2.1
              have g22_σ57 : σ57.1 218 22 = (σ0.1 218 22) := hkv56.2.2.2.2.2.2.1
              have g23_σ57 : σ57.1 218 23 = (σ0.1 218 23) := hkv56.2.2.2.2.2.2.2.1
              have g24_σ57 : σ57.1 218 24 = (σ0.1 218 24) := hkv56.2.2.2.2.2.2.2.2.1
              have g25_σ57 : σ57.1 218 25 = (σ0.1 218 25) := hkv56.2.2.2.2.2.2.2.2.2
              have m98 := hqv56.2
              exact ok_some ⟨hT, (show (TOK σ57.1 ∧ (σ0.1 218 11).toInt ≤ (σ57.1 218 11).toInt ∧ (σ57.1 218 14 = 0 → σ0.1 218 14 = 0) ∧ 0 ≤ (0 : Int32).toInt ∧ (0 : Int32).toInt ≤ 9) ∧ (σ57.1 218 7 = σ0.1 218 7 ∧ σ57.1 218 9 = σ0.1 218 9 ∧ σ57.1 218 20 = σ0.1 218 20 ∧ σ57.1 218 22 = σ0.1 218 22 ∧ σ57.1 218 23 = σ0.1 218 23 ∧ σ57.1 218 24 = σ0.1 218 24 ∧ σ57.1 218 25 = σ0.1 218 25) from ⟨by first | exact ⟨hK, by (try simp only [g7_σ57, g9_σ57, g14_σ57, g15_σ57, g20_σ57, g22_σ57, g23_σ57, g24_σ57, g25_σ57]); omega, fun q => absurd q (by (try simp only [g7_σ57, g9_σ57, g14_σ57, g15_σ57, g20_σ57, g22_σ57, g23_σ57, g24_σ57, g25_σ57]); exact n94), by first | decide | omega⟩ | exact ⟨hK, by (try simp only [g7_σ57, g9_σ57, g14_σ57, g15_σ57, g20_σ57, g22_σ57, g23_σ57, g24_σ57, g25_σ57]); omega, fun _ => y4, by first | decide | omega⟩ | exact absurd y94 n70 | exact absurd y94 n63 | exact absurd y94 n24 | exact absurd y94 n17 | exact absurd y94 n4 | exact absurd y70 n94, g7_σ57, g9_σ57, g20_σ57, g22_σ57, g23_σ57, g24_σ57, g25_σ57⟩)⟩
          · have qhc52 := hqv50.2 hc52
            have y70 := qhc52
            refine ok_gR (v := 224) hT rfl (hR 218 6 rfl) ?_
            refine ok_gI rfl ?_
            refine ok_aIn rfl (by (skip); first | omega | decide | (simp only [Int32.le_iff_toInt_le, Int32.lt_iff_toInt_lt, ti_add, ti_sub, ti_mul, Int32.reduceToInt] at *; omega)) (by first | omega | exact absurd y70 n63 | exact absurd y70 n24 | exact absurd y70 n17 | exact absurd y70 n4) (fun v60 ev60 => ?_)
            have ev81 := ev60
            rw [hT.2 224 (by decide)] at ev81
            have t81 : 97 ≤ v60.toInt ∧ v60.toInt ≤ 122 := by first | (rw [ev81]; exact w12 (σ0.1 218 11).toInt.toNat (by omega) (by omega)) | exact absurd y70 n63 | exact absurd y70 n24 | exact absurd y70 n17 | exact absurd y70 n4
            have s81 : (v60 - 97).toInt = v60.toInt - 97 := by rw [ti_sub]; simp only [Int32.reduceToInt]; omega
            have b81 : (v60 - 97).toInt ≤ 9 := by first | (rw [ev81.trans ev48.symm]; have h0 := hF.1.1; omega) | exact absurd y70 n63 | exact absurd y70 n24 | exact absurd y70 n17 | exact absurd y70 n4
            rw [J_X12_readsName_89.eq_1]
            refine ok_gC rfl ?_
            refine ok_zbX (Q := fun V => (V = 0 → ¬ σ0.1 218 14 = 0) ∧ (¬ V = 0 → σ0.1 218 14 = 0)) (x_X12_good) (fun v61 hqv61 => ?_)
            have hqv61 : (v61 = 0 → ¬ σ0.1 218 14 = 0) ∧ (¬ v61 = 0 → σ0.1 218 14 = 0) := hqv61
            refine ok_if (fun hc63 => ?_) (fun hc63 => ?_)
            · have qhc63 := hqv61.1 hc63
              have n94 := qhc63
              exact ok_some ⟨hT, (show (TOK σ0.1 ∧ (σ0.1 218 11).toInt ≤ (σ0.1 218 11).toInt ∧ (σ0.1 218 14 = 0 → σ0.1 218 14 = 0) ∧ 0 ≤ (v60 - 97).toInt ∧ (v60 - 97).toInt ≤ 9) ∧ (σ0.1 218 7 = σ0.1 218 7 ∧ σ0.1 218 9 = σ0.1 218 9 ∧ σ0.1 218 20 = σ0.1 218 20 ∧ σ0.1 218 22 = σ0.1 218 22 ∧ σ0.1 218 23 = σ0.1 218 23 ∧ σ0.1 218 24 = σ0.1 218 24 ∧ σ0.1 218 25 = σ0.1 218 25) from ⟨by first | exact ⟨hK, by skip; omega, fun q => absurd q (by skip; exact n94), by first | decide | omega⟩ | exact ⟨hK, by skip; omega, fun _ => y4, by first | decide | omega⟩ | exact absurd y94 n70 | exact absurd y94 n63 | exact absurd y94 n24 | exact absurd y94 n17 | exact absurd y94 n4 | exact absurd y70 n94, rfl, rfl, rfl, rfl, rfl, rfl, rfl⟩)⟩
            · have qhc63 := hqv61.2 hc63
              have y94 := qhc63
              refine ok_gC rfl ?_
              refine ok_zbT (Q := fun V σ => (TOK σ.1 ∧ (σ0.1 218 10).toInt ≤ (σ.1 218 11).toInt) ∧ (σ.1 218 7 = σ0.1 218 7 ∧ σ.1 218 9 = σ0.1 218 9 ∧ σ.1 218 14 = σ0.1 218 14 ∧ σ.1 218 15 = σ0.1 218 15 ∧ σ.1 218 20 = σ0.1 218 20 ∧ σ.1 218 22 = σ0.1 218 22 ∧ σ.1 218 23 = σ0.1 218 23 ∧ σ.1 218 24 = σ0.1 218 24 ∧ σ.1 218 25 = σ0.1 218 25)) hT (s_X12_advance hN (hR.tr hT) (TOK_A hK) (by rw [hT.2 224 (by decide)]; exact hY)) (by decide) (fun v64 σ65 hOσ65 hT hqv64 => ?_)
              have hqv64 : (TOK σ65.1 ∧ (σ0.1 218 10).toInt ≤ (σ65.1 218 11).toInt) ∧ (σ65.1 218 7 = σ0.1 218 7 ∧ σ65.1 218 9 = σ0.1 218 9 ∧ σ65.1 218 14 = σ0.1 218 14 ∧ σ65.1 218 15 = σ0.1 218 15 ∧ σ65.1 218 20 = σ0.1 218 20 ∧ σ65.1 218 22 = σ0.1 218 22 ∧ σ65.1 218 23 = σ0.1 218 23 ∧ σ65.1 218 24 = σ0.1 218 24 ∧ σ65.1 218 25 = σ0.1 218 25) := hqv64
              have hkv64 := hqv64
              have hqv64 := hqv64.1
              have hK : TOK σ65.1 := by first | exact hqv64.1 | exact TOK_p eσ65 (by decide) hK
              have g7_σ65 : σ65.1 218 7 = (σ0.1 218 7) := hkv64.2.1
              have g9_σ65 : σ65.1 218 9 = (σ0.1 218 9) := hkv64.2.2.1
              have g14_σ65 : σ65.1 218 14 = (σ0.1 218 14) := hkv64.2.2.2.1
              have g15_σ65 : σ65.1 218 15 = (σ0.1 218 15) := hkv64.2.2.2.2.1
              have g20_σ65 : σ65.1 218 20 = (σ0.1 218 20) := hkv64.2.2.2.2.2.1
              have g22_σ65 : σ65.1 218 22 = (σ0.1 218 22) := hkv64.2.2.2.2.2.2.1
              have g23_σ65 : σ65.1 218 23 = (σ0.1 218 23) := hkv64.2.2.2.2.2.2.2.1
              have g24_σ65 : σ65.1 218 24 = (σ0.1 218 24) := hkv64.2.2.2.2.2.2.2.2.1
              have g25_σ65 : σ65.1 218 25 = (σ0.1 218 25) := hkv64.2.2.2.2.2.2.2.2.2
              have m98 := hqv64.2
              exact ok_some ⟨hT, (show (TOK σ65.1 ∧ (σ0.1 218 11).toInt ≤ (σ65.1 218 11).toInt ∧ (σ65.1 218 14 = 0 → σ0.1 218 14 = 0) ∧ 0 ≤ (v60 - 97).toInt ∧ (v60 - 97).toInt ≤ 9) ∧ (σ65.1 218 7 = σ0.1 218 7 ∧ σ65.1 218 9 = σ0.1 218 9 ∧ σ65.1 218 20 = σ0.1 218 20 ∧ σ65.1 218 22 = σ0.1 218 22 ∧ σ65.1 218 23 = σ0.1 218 23 ∧ σ65.1 218 24 = σ0.1 218 24 ∧ σ65.1 218 25 = σ0.1 218 25) from ⟨by first | exact ⟨hK, by (try simp only [g7_σ65, g9_σ65, g14_σ65, g15_σ65, g20_σ65, g22_σ65, g23_σ65, g24_σ65, g25_σ65]); omega, fun q => absurd q (by (try simp only [g7_σ65, g9_σ65, g14_σ65, g15_σ65, g20_σ65, g22_σ65, g23_σ65, g24_σ65, g25_σ65]); exact n94), by first | decide | omega⟩ | exact ⟨hK, by (try simp only [g7_σ65, g9_σ65, g14_σ65, g15_σ65, g20_σ65, g22_σ65, g23_σ65, g24_σ65, g25_σ65]); omega, fun _ => y4, by first | decide | omega⟩ | exact absurd y94 n70 | exact absurd y94 n63 | exact absurd y94 n24 | exact absurd y94 n17 | exact absurd y94 n4 | exact absurd y70 n94, g7_σ65, g9_σ65, g20_σ65, g22_σ65, g23_σ65, g24_σ65, g25_σ65⟩)⟩
        · refine ok_gC rfl ?_
          refine ok_zbT (Q := fun V σ => (TOK σ.1 ∧ ¬ σ.1 218 14 = 0) ∧ (σ.1 218 7 = σ0.1 218 7 ∧ σ.1 218 9 = σ0.1 218 9 ∧ σ.1 218 10 = σ0.1 218 10 ∧ σ.1 218 11 = σ0.1 218 11 ∧ σ.1 218 12 = σ0.1 218 12 ∧ σ.1 218 13 = σ0.1 218 13 ∧ σ.1 218 20 = σ0.1 218 20 ∧ σ.1 218 22 = σ0.1 218 22 ∧ σ.1 218 23 = σ0.1 218 23 ∧ σ.1 218 24 = σ0.1 218 24 ∧ σ.1 218 25 = σ0.1 218 25)) hT (s_X12_errs hN (hR.tr hT) (hK) (by rw [hT.2 224 (by decide)]; exact hY) (by decide)) (by decide) (fun v66 σ67 hOσ67 hT hqv66 => ?_)
          have hqv66 : (TOK σ67.1 ∧ ¬ σ67.1 218 14 = 0) ∧ (σ67.1 218 7 = σ0.1 218 7 ∧ σ67.1 218 9 = σ0.1 218 9 ∧ σ67.1 218 10 = σ0.1 218 10 ∧ σ67.1 218 11 = σ0.1 218 11 ∧ σ67.1 218 12 = σ0.1 218 12 ∧ σ67.1 218 13 = σ0.1 218 13 ∧ σ67.1 218 20 = σ0.1 218 20 ∧ σ67.1 218 22 = σ0.1 218 22 ∧ σ67.1 218 23 = σ0.1 218 23 ∧ σ67.1 218 24 = σ0.1 218 24 ∧ σ67.1 218 25 = σ0.1 218 25) := hqv66
          have hkv66 := hqv66
          have hqv66 := hqv66.1
          have hK : TOK σ67.1 := by first | exact hqv66.1 | exact TOK_p eσ67 (by decide) hK
          have g7_σ67 : σ67.1 218 7 = (σ0.1 218 7) := hkv66.2.1
          have g9_σ67 : σ67.1 218 9 = (σ0.1 218 9) := hkv66.2.2.1
          have g10_σ67 : σ67.1 218 10 = (σ0.1 218 10) := hkv66.2.2.2.1
          have g11_σ67 : σ67.1 218 11 = (σ0.1 218 11) := hkv66.2.2.2.2.1
          have g12_σ67 : σ67.1 218 12 = (σ0.1 218 12) := hkv66.2.2.2.2.2.1
          have g13_σ67 : σ67.1 218 13 = (σ0.1 218 13) := hkv66.2.2.2.2.2.2.1
          have g20_σ67 : σ67.1 218 20 = (σ0.1 218 20) := hkv66.2.2.2.2.2.2.2.1
          have g22_σ67 : σ67.1 218 22 = (σ0.1 218 22) := hkv66.2.2.2.2.2.2.2.2.1
          have g23_σ67 : σ67.1 218 23 = (σ0.1 218 23) := hkv66.2.2.2.2.2.2.2.2.2.1
          have g24_σ67 : σ67.1 218 24 = (σ0.1 218 24) := hkv66.2.2.2.2.2.2.2.2.2.2.1
          have g25_σ67 : σ67.1 218 25 = (σ0.1 218 25) := hkv66.2.2.2.2.2.2.2.2.2.2.2
          have n63 := hqv66.2
          rw [J_X12_readsName_66.eq_1]
          refine ok_gC rfl ?_
          refine ok_zbX (Q := fun V => (V = 0 → ¬ σ67.1 218 14 = 0) ∧ (¬ V = 0 → σ67.1 218 14 = 0)) (x_X12_good) (fun v68 hqv68 => ?_)
          have hqv68 : (v68 = 0 → ¬ σ67.1 218 14 = 0) ∧ (¬ v68 = 0 → σ67.1 218 14 = 0) := hqv68
          try simp only [g7_σ67, g9_σ67, g10_σ67, g11_σ67, g12_σ67, g13_σ67, g20_σ67, g22_σ67, g23_σ67, g24_σ67, g25_σ67, hT.2 224 (by decide)] at hqv68
          refine ok_if (fun hc70 => ?_) (fun hc70 => ?_)
          · have qhc70 := hqv68.1 hc70
            have n70 := qhc70
            rw [J_X12_readsName_89.eq_1]
            refine ok_gC rfl ?_
            refine ok_zbX (Q := fun V => (V = 0 → ¬ σ67.1 218 14 = 0) ∧ (¬ V = 0 → σ67.1 218 14 = 0)) (x_X12_good) (fun v71 hqv71 => ?_)
            have hqv71 : (v71 = 0 → ¬ σ67.1 218 14 = 0) ∧ (¬ v71 = 0 → σ67.1 218 14 = 0) := hqv71
            try simp only [g7_σ67, g9_σ67, g10_σ67, g11_σ67, g12_σ67, g13_σ67, g20_σ67, g22_σ67, g23_σ67, g24_σ67, g25_σ67, hT.2 224 (by decide)] at hqv71
            refine ok_if (fun hc73 => ?_) (fun hc73 => ?_)
            · have qhc73 := hqv71.1 hc73
              have n94 := qhc73
              exact ok_some ⟨hT, (show (TOK σ67.1 ∧ (σ0.1 218 11).toInt ≤ (σ67.1 218 11).toInt ∧ (σ67.1 218 14 = 0 → σ0.1 218 14 = 0) ∧ 0 ≤ (0 : Int32).toInt ∧ (0 : Int32).toInt ≤ 9) ∧ (σ67.1 218 7 = σ0.1 218 7 ∧ σ67.1 218 9 = σ0.1 218 9 ∧ σ67.1 218 20 = σ0.1 218 20 ∧ σ67.1 218 22 = σ0.1 218 22 ∧ σ67.1 218 23 = σ0.1 218 23 ∧ σ67.1 218 24 = σ0.1 218 24 ∧ σ67.1 218 25 = σ0.1 218 25) from ⟨by first | exact ⟨hK, by (try simp only [g7_σ67, g9_σ67, g10_σ67, g11_σ67, g12_σ67, g13_σ67, g20_σ67, g22_σ67, g23_σ67, g24_σ67, g25_σ67]); omega, fun q => absurd q (by (try simp only [g7_σ67, g9_σ67, g10_σ67, g11_σ67, g12_σ67, g13_σ67, g20_σ67, g22_σ67, g23_σ67, g24_σ67, g25_σ67]); exact n94), by first | decide | omega⟩ | exact ⟨hK, by (try simp only [g7_σ67, g9_σ67, g10_σ67, g11_σ67, g12_σ67, g13_σ67, g20_σ67, g22_σ67, g23_σ67, g24_σ67, g25_σ67]); omega, fun _ => y4, by first | decide | omega⟩ | exact absurd y94 n70 | exact absurd y94 n63 | exact absurd y94 n24 | exact absurd y94 n17 | exact absurd y94 n4 | exact absurd y70 n94, g7_σ67, g9_σ67, g20_σ67, g22_σ67, g23_σ67, g24_σ67, g25_σ67⟩)⟩
            · have qhc73 := hqv71.2 hc73
              have y94 := qhc73
              refine ok_gC rfl ?_
              refine ok_zbT (Q := fun V σ => (TOK σ.1 ∧ (σ67.1 218 10).toInt ≤ (σ.1 218 11).toInt) ∧ (σ.1 218 7 = σ67.1 218 7 ∧ σ.1 218 9 = σ67.1 218 9 ∧ σ.1 218 14 = σ67.1 218 14 ∧ σ.1 218 15 = σ67.1 218 15 ∧ σ.1 218 20 = σ67.1 218 20 ∧ σ.1 218 22 = σ67.1 218 22 ∧ σ.1 218 23 = σ67.1 218 23 ∧ σ.1 218 24 = σ67.1 218 24 ∧ σ.1 218 25 = σ67.1 218 25)) hT (s_X12_advance hN (hR.tr hT) (TOK_A hK) (by rw [hT.2 224 (by decide)]; exact hY)) (by decide) (fun v74 σ75 hOσ75 hT hqv74 => ?_)
              have hqv74 : (TOK σ75.1 ∧ (σ67.1 218 10).toInt ≤ (σ75.1 218 11).toInt) ∧ (σ75.1 218 7 = σ67.1 218 7 ∧ σ75.1 218 9 = σ67.1 218 9 ∧ σ75.1 218 14 = σ67.1 218 14 ∧ σ75.1 218 15 = σ67.1 218 15 ∧ σ75.1 218 20 = σ67.1 218 20 ∧ σ75.1 218 22 = σ67.1 218 22 ∧ σ75.1 218 23 = σ67.1 218 23 ∧ σ75.1 218 24 = σ67.1 218 24 ∧ σ75.1 218 25 = σ67.1 218 25) := hqv74
              have hkv74 := hqv74
              have hqv74 := hqv74.1
              have hK : TOK σ75.1 := by first | exact hqv74.1 | exact TOK_p eσ75 (by decide) hK
              try simp only [g7_σ67, g9_σ67, g10_σ67, g11_σ67, g12_σ67, g13_σ67, g20_σ67, g22_σ67, g23_σ67, g24_σ67, g25_σ67] at hqv74
              have g7_σ75 : σ75.1 218 7 = (σ0.1 218 7) := (hkv74.2.1).trans g7_σ67
              have g9_σ75 : σ75.1 218 9 = (σ0.1 218 9) := (hkv74.2.2.1).trans g9_σ67
              have g14_σ75 : σ75.1 218 14 = (σ67.1 218 14) := hkv74.2.2.2.1
              have g15_σ75 : σ75.1 218 15 = (σ67.1 218 15) := hkv74.2.2.2.2.1
              have g20_σ75 : σ75.1 218 20 = (σ0.1 218 20) := (hkv74.2.2.2.2.2.1).trans g20_σ67
              have g22_σ75 : σ75.1 218 22 = (σ0.1 218 22) := (hkv74.2.2.2.2.2.2.1).trans g22_σ67
              have g23_σ75 : σ75.1 218 23 = (σ0.1 218 23) := (hkv74.2.2.2.2.2.2.2.1).trans g23_σ67
              have g24_σ75 : σ75.1 218 24 = (σ0.1 218 24) := (hkv74.2.2.2.2.2.2.2.2.1).trans g24_σ67
              have g25_σ75 : σ75.1 218 25 = (σ0.1 218 25) := (hkv74.2.2.2.2.2.2.2.2.2).trans g25_σ67
              have m98 := hqv74.2
              exact ok_some ⟨hT, (show (TOK σ75.1 ∧ (σ0.1 218 11).toInt ≤ (σ75.1 218 11).toInt ∧ (σ75.1 218 14 = 0 → σ0.1 218 14 = 0) ∧ 0 ≤ (0 : Int32).toInt ∧ (0 : Int32).toInt ≤ 9) ∧ (σ75.1 218 7 = σ0.1 218 7 ∧ σ75.1 218 9 = σ0.1 218 9 ∧ σ75.1 218 20 = σ0.1 218 20 ∧ σ75.1 218 22 = σ0.1 218 22 ∧ σ75.1 218 23 = σ0.1 218 23 ∧ σ75.1 218 24 = σ0.1 218 24 ∧ σ75.1 218 25 = σ0.1 218 25) from ⟨by first | exact ⟨hK, by (try simp only [g7_σ75, g9_σ75, g14_σ75, g15_σ75, g20_σ75, g22_σ75, g23_σ75, g24_σ75, g25_σ75]); omega, fun q => absurd q (by (try simp only [g7_σ75, g9_σ75, g14_σ75, g15_σ75, g20_σ75, g22_σ75, g23_σ75, g24_σ75, g25_σ75]); exact n94), by first | decide | omega⟩ | exact ⟨hK, by (try simp only [g7_σ75, g9_σ75, g14_σ75, g15_σ75, g20_σ75, g22_σ75, g23_σ75, g24_σ75, g25_σ75]); omega, fun _ => y4, by first | decide | omega⟩ | exact absurd y94 n70 | exact absurd y94 n63 | exact absurd y94 n24 | exact absurd y94 n17 | exact absurd y94 n4 | exact absurd y70 n94, g7_σ75, g9_σ75, g20_σ75, g22_σ75, g23_σ75, g24_σ75, g25_σ75⟩)⟩
          · have qhc70 := hqv68.2 hc70
            have y70 := qhc70
            refine ok_gR (v := 224) hT rfl (hR 218 6 rfl) ?_
            refine ok_gIv rfl g11_σ67 ?_
            refine ok_aIn rfl (by ((try simp only [g7_σ67, g9_σ67, g10_σ67, g11_σ67, g12_σ67, g13_σ67, g20_σ67, g22_σ67, g23_σ67, g24_σ67, g25_σ67])); first | omega | decide | (simp only [Int32.le_iff_toInt_le, Int32.lt_iff_toInt_lt, ti_add, ti_sub, ti_mul, Int32.reduceToInt] at *; omega)) (by first | omega | exact absurd y70 n63 | exact absurd y70 n24 | exact absurd y70 n17 | exact absurd y70 n4) (fun v78 ev78 => ?_)
            have ev81 := ev78
            rw [hT.2 224 (by decide)] at ev81
            have t81 : 97 ≤ v78.toInt ∧ v78.toInt ≤ 122 := by first | (rw [ev81]; exact w12 (σ0.1 218 11).toInt.toNat (by omega) (by omega)) | exact absurd y70 n63 | exact absurd y70 n24 | exact absurd y70 n17 | exact absurd y70 n4
            have s81 : (v78 - 97).toInt = v78.toInt - 97 := by rw [ti_sub]; simp only [Int32.reduceToInt]; omega
            have b81 : (v78 - 97).toInt ≤ 9 := by first | (rw [ev81.trans ev48.symm]; have h0 := hF.1.1; omega) | exact absurd y70 n63 | exact absurd y70 n24 | exact absurd y70 n17 | exact absurd y70 n4
            rw [J_X12_readsName_89.eq_1]
            refine ok_gC rfl ?_
            refine ok_zbX (Q := fun V => (V = 0 → ¬ σ67.1 218 14 = 0) ∧ (¬ V = 0 → σ67.1 218 14 = 0)) (x_X12_good) (fun v79 hqv79 => ?_)
            have hqv79 : (v79 = 0 → ¬ σ67.1 218 14 = 0) ∧ (¬ v79 = 0 → σ67.1 218 14 = 0) := hqv79
            try simp only [g7_σ67, g9_σ67, g10_σ67, g11_σ67, g12_σ67, g13_σ67, g20_σ67, g22_σ67, g23_σ67, g24_σ67, g25_σ67, hT.2 224 (by decide)] at hqv79
            refine ok_if (fun hc81 => ?_) (fun hc81 => ?_)
            · have qhc81 := hqv79.1 hc81
              have n94 := qhc81
              exact ok_some ⟨hT, (show (TOK σ67.1 ∧ (σ0.1 218 11).toInt ≤ (σ67.1 218 11).toInt ∧ (σ67.1 218 14 = 0 → σ0.1 218 14 = 0) ∧ 0 ≤ (v78 - 97).toInt ∧ (v78 - 97).toInt ≤ 9) ∧ (σ67.1 218 7 = σ0.1 218 7 ∧ σ67.1 218 9 = σ0.1 218 9 ∧ σ67.1 218 20 = σ0.1 218 20 ∧ σ67.1 218 22 = σ0.1 218 22 ∧ σ67.1 218 23 = σ0.1 218 23 ∧ σ67.1 218 24 = σ0.1 218 24 ∧ σ67.1 218 25 = σ0.1 218 25) from ⟨by first | exact ⟨hK, by (try simp only [g7_σ67, g9_σ67, g10_σ67, g11_σ67, g12_σ67, g13_σ67, g20_σ67, g22_σ67, g23_σ67, g24_σ67, g25_σ67]); omega, fun q => absurd q (by (try simp only [g7_σ67, g9_σ67, g10_σ67, g11_σ67, g12_σ67, g13_σ67, g20_σ67, g22_σ67, g23_σ67, g24_σ67, g25_σ67]); exact n94), by first | decide | omega⟩ | exact ⟨hK, by (try simp only [g7_σ67, g9_σ67, g10_σ67, g11_σ67, g12_σ67, g13_σ67, g20_σ67, g22_σ67, g23_σ67, g24_σ67, g25_σ67]); omega, fun _ => y4, by first | decide | omega⟩ | exact absurd y94 n70 | exact absurd y94 n63 | exact absurd y94 n24 | exact absurd y94 n17 | exact absurd y94 n4 | exact absurd y70 n94, g7_σ67, g9_σ67, g20_σ67, g22_σ67, g23_σ67, g24_σ67, g25_σ67⟩)⟩
            · have qhc81 := hqv79.2 hc81
              have y94 := qhc81
              refine ok_gC rfl ?_
              refine ok_zbT (Q := fun V σ => (TOK σ.1 ∧ (σ67.1 218 10).toInt ≤ (σ.1 218 11).toInt) ∧ (σ.1 218 7 = σ67.1 218 7 ∧ σ.1 218 9 = σ67.1 218 9 ∧ σ.1 218 14 = σ67.1 218 14 ∧ σ.1 218 15 = σ67.1 218 15 ∧ σ.1 218 20 = σ67.1 218 20 ∧ σ.1 218 22 = σ67.1 218 22 ∧ σ.1 218 23 = σ67.1 218 23 ∧ σ.1 218 24 = σ67.1 218 24 ∧ σ.1 218 25 = σ67.1 218 25)) hT (s_X12_advance hN (hR.tr hT) (TOK_A hK) (by rw [hT.2 224 (by decide)]; exact hY)) (by decide) (fun v82 σ83 hOσ83 hT hqv82 => ?_)
              have hqv82 : (TOK σ83.1 ∧ (σ67.1 218 10).toInt ≤ (σ83.1 218 11).toInt) ∧ (σ83.1 218 7 = σ67.1 218 7 ∧ σ83.1 218 9 = σ67.1 218 9 ∧ σ83.1 218 14 = σ67.1 218 14 ∧ σ83.1 218 15 = σ67.1 218 15 ∧ σ83.1 218 20 = σ67.1 218 20 ∧ σ83.1 218 22 = σ67.1 218 22 ∧ σ83.1 218 23 = σ67.1 218 23 ∧ σ83.1 218 24 = σ67.1 218 24 ∧ σ83.1 218 25 = σ67.1 218 25) := hqv82
              have hkv82 := hqv82
              have hqv82 := hqv82.1
              have hK : TOK σ83.1 := by first | exact hqv82.1 | exact TOK_p eσ83 (by decide) hK
              try simp only [g7_σ67, g9_σ67, g10_σ67, g11_σ67, g12_σ67, g13_σ67, g20_σ67, g22_σ67, g23_σ67, g24_σ67, g25_σ67] at hqv82
              have g7_σ83 : σ83.1 218 7 = (σ0.1 218 7) := (hkv82.2.1).trans g7_σ67
              have g9_σ83 : σ83.1 218 9 = (σ0.1 218 9) := (hkv82.2.2.1).trans g9_σ67
              have g14_σ83 : σ83.1 218 14 = (σ67.1 218 14) := hkv82.2.2.2.1
              have g15_σ83 : σ83.1 218 15 = (σ67.1 218 15) := hkv82.2.2.2.2.1
              have g20_σ83 : σ83.1 218 20 = (σ0.1 218 20) := (hkv82.2.2.2.2.2.1).trans g20_σ67
              have g22_σ83 : σ83.1 218 22 = (σ0.1 218 22) := (hkv82.2.2.2.2.2.2.1).trans g22_σ67
              have g23_σ83 : σ83.1 218 23 = (σ0.1 218 23) := (hkv82.2.2.2.2.2.2.2.1).trans g23_σ67
              have g24_σ83 : σ83.1 218 24 = (σ0.1 218 24) := (hkv82.2.2.2.2.2.2.2.2.1).trans g24_σ67
              have g25_σ83 : σ83.1 218 25 = (σ0.1 218 25) := (hkv82.2.2.2.2.2.2.2.2.2).trans g25_σ67
              have m98 := hqv82.2
              exact ok_some ⟨hT, (show (TOK σ83.1 ∧ (σ0.1 218 11).toInt ≤ (σ83.1 218 11).toInt ∧ (σ83.1 218 14 = 0 → σ0.1 218 14 = 0) ∧ 0 ≤ (v78 - 97).toInt ∧ (v78 - 97).toInt ≤ 9) ∧ (σ83.1 218 7 = σ0.1 218 7 ∧ σ83.1 218 9 = σ0.1 218 9 ∧ σ83.1 218 20 = σ0.1 218 20 ∧ σ83.1 218 22 = σ0.1 218 22 ∧ σ83.1 218 23 = σ0.1 218 23 ∧ σ83.1 218 24 = σ0.1 218 24 ∧ σ83.1 218 25 = σ0.1 218 25) from ⟨by first | exact ⟨hK, by (try simp only [g7_σ83, g9_σ83, g14_σ83, g15_σ83, g20_σ83, g22_σ83, g23_σ83, g24_σ83, g25_σ83]); omega, fun q => absurd q (by (try simp only [g7_σ83, g9_σ83, g14_σ83, g15_σ83, g20_σ83, g22_σ83, g23_σ83, g24_σ83, g25_σ83]); exact n94), by first | decide | omega⟩ | exact ⟨hK, by (try simp only [g7_σ83, g9_σ83, g14_σ83, g15_σ83, g20_σ83, g22_σ83, g23_σ83, g24_σ83, g25_σ83]); omega, fun _ => y4, by first | decide | omega⟩ | exact absurd y94 n70 | exact absurd y94 n63 | exact absurd y94 n24 | exact absurd y94 n17 | exact absurd y94 n4 | exact absurd y70 n94, g7_σ83, g9_σ83, g20_σ83, g22_σ83, g23_σ83, g24_σ83, g25_σ83⟩)⟩
  · have qhc3 := hqv1.2 hc3
    have y4 := qhc3
    refine ok_gI rfl ?_
    refine ok_if (fun hc85 => ?_) (fun hc85 => ?_)
    · have l12 := hK.2.1 (by rw [hc85]; decide)
      have w12 := hK.2.2 hc85
      rw [J_X12_readsName_20.eq_1]
      refine ok_gC rfl ?_
      refine ok_zbX (Q := fun V => (V = 0 → ¬ σ0.1 218 14 = 0) ∧ (¬ V = 0 → σ0.1 218 14 = 0)) (x_X12_good) (fun v86 hqv86 => ?_)
      have hqv86 : (v86 = 0 → ¬ σ0.1 218 14 = 0) ∧ (¬ v86 = 0 → σ0.1 218 14 = 0) := hqv86
      refine ok_if (fun hc88 => ?_) (fun hc88 => ?_)
      · have qhc88 := hqv86.1 hc88
        have n24 := qhc88
        rw [J_X12_readsName_66.eq_1]
        refine ok_gC rfl ?_
        refine ok_zbX (Q := fun V => (V = 0 → ¬ σ0.1 218 14 = 0) ∧ (¬ V = 0 → σ0.1 218 14 = 0)) (x_X12_good) (fun v89 hqv89 => ?_)
        have hqv89 : (v89 = 0 → ¬ σ0.1 218 14 = 0) ∧ (¬ v89 = 0 → σ0.1 218 14 = 0) := hqv89
        refine ok_if (fun hc91 => ?_) (fun hc91 => ?_)
        · have qhc91 := hqv89.1 hc91
          have n70 := qhc91
          rw [J_X12_readsName_89.eq_1]
          refine ok_gC rfl ?_
          refine ok_zbX (Q := fun V => (V = 0 → ¬ σ0.1 218 14 = 0) ∧ (¬ V = 0 → σ0.1 218 14 = 0)) (x_X12_good) (fun v92 hqv92 => ?_)
          have hqv92 : (v92 = 0 → ¬ σ0.1 218 14 = 0) ∧ (¬ v92 = 0 → σ0.1 218 14 = 0) := hqv92
          refine ok_if (fun hc94 => ?_) (fun hc94 => ?_)
          · have qhc94 := hqv92.1 hc94
            have n94 := qhc94
            exact ok_some ⟨hT, (show (TOK σ0.1 ∧ (σ0.1 218 11).toInt ≤ (σ0.1 218 11).toInt ∧ (σ0.1 218 14 = 0 → σ0.1 218 14 = 0) ∧ 0 ≤ (0 : Int32).toInt ∧ (0 : Int32).toInt ≤ 9) ∧ (σ0.1 218 7 = σ0.1 218 7 ∧ σ0.1 218 9 = σ0.1 218 9 ∧ σ0.1 218 20 = σ0.1 218 20 ∧ σ0.1 218 22 = σ0.1 218 22 ∧ σ0.1 218 23 = σ0.1 218 23 ∧ σ0.1 218 24 = σ0.1 218 24 ∧ σ0.1 218 25 = σ0.1 218 25) from ⟨by first | exact ⟨hK, by skip; omega, fun q => absurd q (by skip; exact n94), by first | decide | omega⟩ | exact ⟨hK, by skip; omega, fun _ => y4, by first | decide | omega⟩ | exact absurd y94 n70 | exact absurd y94 n63 | exact absurd y94 n24 | exact absurd y94 n17 | exact absurd y94 n4 | exact absurd y70 n94, rfl, rfl, rfl, rfl, rfl, rfl, rfl⟩)⟩
          · have qhc94 := hqv92.2 hc94
            have y94 := qhc94
            refine ok_gC rfl ?_
            refine ok_zbT (Q := fun V σ => (TOK σ.1 ∧ (σ0.1 218 10).toInt ≤ (σ.1 218 11).toInt) ∧ (σ.1 218 7 = σ0.1 218 7 ∧ σ.1 218 9 = σ0.1 218 9 ∧ σ.1 218 14 = σ0.1 218 14 ∧ σ.1 218 15 = σ0.1 218 15 ∧ σ.1 218 20 = σ0.1 218 20 ∧ σ.1 218 22 = σ0.1 218 22 ∧ σ.1 218 23 = σ0.1 218 23 ∧ σ.1 218 24 = σ0.1 218 24 ∧ σ.1 218 25 = σ0.1 218 25)) hT (s_X12_advance hN (hR.tr hT) (TOK_A hK) (by rw [hT.2 224 (by decide)]; exact hY)) (by decide) (fun v95 σ96 hOσ96 hT hqv95 => ?_)
            have hqv95 : (TOK σ96.1 ∧ (σ0.1 218 10).toInt ≤ (σ96.1 218 11).toInt) ∧ (σ96.1 218 7 = σ0.1 218 7 ∧ σ96.1 218 9 = σ0.1 218 9 ∧ σ96.1 218 14 = σ0.1 218 14 ∧ σ96.1 218 15 = σ0.1 218 15 ∧ σ96.1 218 20 = σ0.1 218 20 ∧ σ96.1 218 22 = σ0.1 218 22 ∧ σ96.1 218 23 = σ0.1 218 23 ∧ σ96.1 218 24 = σ0.1 218 24 ∧ σ96.1 218 25 = σ0.1 218 25) := hqv95
            have hkv95 := hqv95
            have hqv95 := hqv95.1
            have hK : TOK σ96.1 := by first | exact hqv95.1 | exact TOK_p eσ96 (by decide) hK
            have g7_σ96 : σ96.1 218 7 = (σ0.1 218 7) := hkv95.2.1
            have g9_σ96 : σ96.1 218 9 = (σ0.1 218 9) := hkv95.2.2.1
            have g14_σ96 : σ96.1 218 14 = (σ0.1 218 14) := hkv95.2.2.2.1
            have g15_σ96 : σ96.1 218 15 = (σ0.1 218 15) := hkv95.2.2.2.2.1
            have g20_σ96 : σ96.1 218 20 = (σ0.1 218 20) := hkv95.2.2.2.2.2.1
            have g22_σ96 : σ96.1 218 22 = (σ0.1 218 22) := hkv95.2.2.2.2.2.2.1
            have g23_σ96 : σ96.1 218 23 = (σ0.1 218 23) := hkv95.2.2.2.2.2.2.2.1
            have g24_σ96 : σ96.1 218 24 = (σ0.1 218 24) := hkv95.2.2.2.2.2.2.2.2.1
            have g25_σ96 : σ96.1 218 25 = (σ0.1 218 25) := hkv95.2.2.2.2.2.2.2.2.2
            have m98 := hqv95.2
            exact ok_some ⟨hT, (show (TOK σ96.1 ∧ (σ0.1 218 11).toInt ≤ (σ96.1 218 11).toInt ∧ (σ96.1 218 14 = 0 → σ0.1 218 14 = 0) ∧ 0 ≤ (0 : Int32).toInt ∧ (0 : Int32).toInt ≤ 9) ∧ (σ96.1 218 7 = σ0.1 218 7 ∧ σ96.1 218 9 = σ0.1 218 9 ∧ σ96.1 218 20 = σ0.1 218 20 ∧ σ96.1 218 22 = σ0.1 218 22 ∧ σ96.1 218 23 = σ0.1 218 23 ∧ σ96.1 218 24 = σ0.1 218 24 ∧ σ96.1 218 25 = σ0.1 218 25) from ⟨by first | exact ⟨hK, by (try simp only [g7_σ96, g9_σ96, g14_σ96, g15_σ96, g20_σ96, g22_σ96, g23_σ96, g24_σ96, g25_σ96]); omega, fun q => absurd q (by (try simp only [g7_σ96, g9_σ96, g14_σ96, g15_σ96, g20_σ96, g22_σ96, g23_σ96, g24_σ96, g25_σ96]); exact n94), by first | decide | omega⟩ | exact ⟨hK, by (try simp only [g7_σ96, g9_σ96, g14_σ96, g15_σ96, g20_σ96, g22_σ96, g23_σ96, g24_σ96, g25_σ96]); omega, fun _ => y4, by first | decide | omega⟩ | exact absurd y94 n70 | exact absurd y94 n63 | exact absurd y94 n24 | exact absurd y94 n17 | exact absurd y94 n4 | exact absurd y70 n94, g7_σ96, g9_σ96, g20_σ96, g22_σ96, g23_σ96, g24_σ96, g25_σ96⟩)⟩
        · have qhc91 := hqv89.2 hc91
          have y70 := qhc91
          refine ok_gR (v := 224) hT rfl (hR 218 6 rfl) ?_
          refine ok_gI rfl ?_
          refine ok_aIn rfl (by (skip); first | omega | decide | (simp only [Int32.le_iff_toInt_le, Int32.lt_iff_toInt_lt, ti_add, ti_sub, ti_mul, Int32.reduceToInt] at *; omega)) (by first | omega | exact absurd y70 n63 | exact absurd y70 n24 | exact absurd y70 n17 | exact absurd y70 n4) (fun v99 ev99 => ?_)
          have ev81 := ev99
          rw [hT.2 224 (by decide)] at ev81
          have t81 : 97 ≤ v99.toInt ∧ v99.toInt ≤ 122 := by first | (rw [ev81]; exact w12 (σ0.1 218 11).toInt.toNat (by omega) (by omega)) | exact absurd y70 n63 | exact absurd y70 n24 | exact absurd y70 n17 | exact absurd y70 n4
          have s81 : (v99 - 97).toInt = v99.toInt - 97 := by rw [ti_sub]; simp only [Int32.reduceToInt]; omega
          have b81 : (v99 - 97).toInt ≤ 9 := by first | (rw [ev81.trans ev48.symm]; have h0 := hF.1.1; omega) | exact absurd y70 n63 | exact absurd y70 n24 | exact absurd y70 n17 | exact absurd y70 n4
          rw [J_X12_readsName_89.eq_1]
          refine ok_gC rfl ?_
          refine ok_zbX (Q := fun V => (V = 0 → ¬ σ0.1 218 14 = 0) ∧ (¬ V = 0 → σ0.1 218 14 = 0)) (x_X12_good) (fun v100 hqv100 => ?_)
          have hqv100 : (v100 = 0 → ¬ σ0.1 218 14 = 0) ∧ (¬ v100 = 0 → σ0.1 218 14 = 0) := hqv100
          refine ok_if (fun hc102 => ?_) (fun hc102 => ?_)
          · have qhc102 := hqv100.1 hc102
            have n94 := qhc102
            exact ok_some ⟨hT, (show (TOK σ0.1 ∧ (σ0.1 218 11).toInt ≤ (σ0.1 218 11).toInt ∧ (σ0.1 218 14 = 0 → σ0.1 218 14 = 0) ∧ 0 ≤ (v99 - 97).toInt ∧ (v99 - 97).toInt ≤ 9) ∧ (σ0.1 218 7 = σ0.1 218 7 ∧ σ0.1 218 9 = σ0.1 218 9 ∧ σ0.1 218 20 = σ0.1 218 20 ∧ σ0.1 218 22 = σ0.1 218 22 ∧ σ0.1 218 23 = σ0.1 218 23 ∧ σ0.1 218 24 = σ0.1 218 24 ∧ σ0.1 218 25 = σ0.1 218 25) from ⟨by first | exact ⟨hK, by skip; omega, fun q => absurd q (by skip; exact n94), by first | decide | omega⟩ | exact ⟨hK, by skip; omega, fun _ => y4, by first | decide | omega⟩ | exact absurd y94 n70 | exact absurd y94 n63 | exact absurd y94 n24 | exact absurd y94 n17 | exact absurd y94 n4 | exact absurd y70 n94, rfl, rfl, rfl, rfl, rfl, rfl, rfl⟩)⟩
          · have qhc102 := hqv100.2 hc102
            have y94 := qhc102
            refine ok_gC rfl ?_
            refine ok_zbT (Q := fun V σ => (TOK σ.1 ∧ (σ0.1 218 10).toInt ≤ (σ.1 218 11).toInt) ∧ (σ.1 218 7 = σ0.1 218 7 ∧ σ.1 218 9 = σ0.1 218 9 ∧ σ.1 218 14 = σ0.1 218 14 ∧ σ.1 218 15 = σ0.1 218 15 ∧ σ.1 218 20 = σ0.1 218 20 ∧ σ.1 218 22 = σ0.1 218 22 ∧ σ.1 218 23 = σ0.1 218 23 ∧ σ.1 218 24 = σ0.1 218 24 ∧ σ.1 218 25 = σ0.1 218 25)) hT (s_X12_advance hN (hR.tr hT) (TOK_A hK) (by rw [hT.2 224 (by decide)]; exact hY)) (by decide) (fun v103 σ104 hOσ104 hT hqv103 => ?_)
            have hqv103 : (TOK σ104.1 ∧ (σ0.1 218 10).toInt ≤ (σ104.1 218 11).toInt) ∧ (σ104.1 218 7 = σ0.1 218 7 ∧ σ104.1 218 9 = σ0.1 218 9 ∧ σ104.1 218 14 = σ0.1 218 14 ∧ σ104.1 218 15 = σ0.1 218 15 ∧ σ104.1 218 20 = σ0.1 218 20 ∧ σ104.1 218 22 = σ0.1 218 22 ∧ σ104.1 218 23 = σ0.1 218 23 ∧ σ104.1 218 24 = σ0.1 218 24 ∧ σ104.1 218 25 = σ0.1 218 25) := hqv103
            have hkv103 := hqv103
            have hqv103 := hqv103.1
            have hK : TOK σ104.1 := by first | exact hqv103.1 | exact TOK_p eσ104 (by decide) hK
            have g7_σ104 : σ104.1 218 7 = (σ0.1 218 7) := hkv103.2.1
            have g9_σ104 : σ104.1 218 9 = (σ0.1 218 9) := hkv103.2.2.1
            have g14_σ104 : σ104.1 218 14 = (σ0.1 218 14) := hkv103.2.2.2.1
            have g15_σ104 : σ104.1 218 15 = (σ0.1 218 15) := hkv103.2.2.2.2.1
            have g20_σ104 : σ104.1 218 20 = (σ0.1 218 20) := hkv103.2.2.2.2.2.1
            have g22_σ104 : σ104.1 218 22 = (σ0.1 218 22) := hkv103.2.2.2.2.2.2.1
            have g23_σ104 : σ104.1 218 23 = (σ0.1 218 23) := hkv103.2.2.2.2.2.2.2.1
            have g24_σ104 : σ104.1 218 24 = (σ0.1 218 24) := hkv103.2.2.2.2.2.2.2.2.1
            have g25_σ104 : σ104.1 218 25 = (σ0.1 218 25) := hkv103.2.2.2.2.2.2.2.2.2
            have m98 := hqv103.2
            exact ok_some ⟨hT, (show (TOK σ104.1 ∧ (σ0.1 218 11).toInt ≤ (σ104.1 218 11).toInt ∧ (σ104.1 218 14 = 0 → σ0.1 218 14 = 0) ∧ 0 ≤ (v99 - 97).toInt ∧ (v99 - 97).toInt ≤ 9) ∧ (σ104.1 218 7 = σ0.1 218 7 ∧ σ104.1 218 9 = σ0.1 218 9 ∧ σ104.1 218 20 = σ0.1 218 20 ∧ σ104.1 218 22 = σ0.1 218 22 ∧ σ104.1 218 23 = σ0.1 218 23 ∧ σ104.1 218 24 = σ0.1 218 24 ∧ σ104.1 218 25 = σ0.1 218 25) from ⟨by first | exact ⟨hK, by (try simp only [g7_σ104, g9_σ104, g14_σ104, g15_σ104, g20_σ104, g22_σ104, g23_σ104, g24_σ104, g25_σ104]); omega, fun q => absurd q (by (try simp only [g7_σ104, g9_σ104, g14_σ104, g15_σ104, g20_σ104, g22_σ104, g23_σ104, g24_σ104, g25_σ104]); exact n94), by first | decide | omega⟩ | exact ⟨hK, by (try simp only [g7_σ104, g9_σ104, g14_σ104, g15_σ104, g20_σ104, g22_σ104, g23_σ104, g24_σ104, g25_σ104]); omega, fun _ => y4, by first | decide | omega⟩ | exact absurd y94 n70 | exact absurd y94 n63 | exact absurd y94 n24 | exact absurd y94 n17 | exact absurd y94 n4 | exact absurd y70 n94, g7_σ104, g9_σ104, g20_σ104, g22_σ104, g23_σ104, g24_σ104, g25_σ104⟩)⟩
      · have qhc88 := hqv86.2 hc88
        have y24 := qhc88
        refine ok_gI rfl ?_
        refine ok_gI rfl ?_
        refine ok_if (fun hc107 => ?_) (fun hc107 => ?_)
        · refine ok_gC rfl ?_
          refine ok_zbT (Q := fun V σ => (TOK σ.1 ∧ ¬ σ.1 218 14 = 0) ∧ (σ.1 218 7 = σ0.1 218 7 ∧ σ.1 218 9 = σ0.1 218 9 ∧ σ.1 218 10 = σ0.1 218 10 ∧ σ.1 218 11 = σ0.1 218 11 ∧ σ.1 218 12 = σ0.1 218 12 ∧ σ.1 218 13 = σ0.1 218 13 ∧ σ.1 218 20 = σ0.1 218 20 ∧ σ.1 218 22 = σ0.1 218 22 ∧ σ.1 218 23 = σ0.1 218 23 ∧ σ.1 218 24 = σ0.1 218 24 ∧ σ.1 218 25 = σ0.1 218 25)) hT (s_X12_errs hN (hR.tr hT) (hK) (by rw [hT.2 224 (by decide)]; exact hY) (by decide)) (by decide) (fun v108 σ109 hOσ109 hT hqv108 => ?_)
          have hqv108 : (TOK σ109.1 ∧ ¬ σ109.1 218 14 = 0) ∧ (σ109.1 218 7 = σ0.1 218 7 ∧ σ109.1 218 9 = σ0.1 218 9 ∧ σ109.1 218 10 = σ0.1 218 10 ∧ σ109.1 218 11 = σ0.1 218 11 ∧ σ109.1 218 12 = σ0.1 218 12 ∧ σ109.1 218 13 = σ0.1 218 13 ∧ σ109.1 218 20 = σ0.1 218 20 ∧ σ109.1 218 22 = σ0.1 218 22 ∧ σ109.1 218 23 = σ0.1 218 23 ∧ σ109.1 218 24 = σ0.1 218 24 ∧ σ109.1 218 25 = σ0.1 218 25) := hqv108
          have hkv108 := hqv108
          have hqv108 := hqv108.1
          have hK : TOK σ109.1 := by first | exact hqv108.1 | exact TOK_p eσ109 (by decide) hK
          have g7_σ109 : σ109.1 218 7 = (σ0.1 218 7) := hkv108.2.1
          have g9_σ109 : σ109.1 218 9 = (σ0.1 218 9) := hkv108.2.2.1
          have g10_σ109 : σ109.1 218 10 = (σ0.1 218 10) := hkv108.2.2.2.1
          have g11_σ109 : σ109.1 218 11 = (σ0.1 218 11) := hkv108.2.2.2.2.1
          have g12_σ109 : σ109.1 218 12 = (σ0.1 218 12) := hkv108.2.2.2.2.2.1
          have g13_σ109 : σ109.1 218 13 = (σ0.1 218 13) := hkv108.2.2.2.2.2.2.1
          have g20_σ109 : σ109.1 218 20 = (σ0.1 218 20) := hkv108.2.2.2.2.2.2.2.1
          have g22_σ109 : σ109.1 218 22 = (σ0.1 218 22) := hkv108.2.2.2.2.2.2.2.2.1
          have g23_σ109 : σ109.1 218 23 = (σ0.1 218 23) := hkv108.2.2.2.2.2.2.2.2.2.1
          have g24_σ109 : σ109.1 218 24 = (σ0.1 218 24) := hkv108.2.2.2.2.2.2.2.2.2.2.1
          have g25_σ109 : σ109.1 218 25 = (σ0.1 218 25) := hkv108.2.2.2.2.2.2.2.2.2.2.2
          have n63 := hqv108.2
          rw [J_X12_readsName_66.eq_1]
          refine ok_gC rfl ?_
          refine ok_zbX (Q := fun V => (V = 0 → ¬ σ109.1 218 14 = 0) ∧ (¬ V = 0 → σ109.1 218 14 = 0)) (x_X12_good) (fun v110 hqv110 => ?_)
          have hqv110 : (v110 = 0 → ¬ σ109.1 218 14 = 0) ∧ (¬ v110 = 0 → σ109.1 218 14 = 0) := hqv110
          try simp only [g7_σ109, g9_σ109, g10_σ109, g11_σ109, g12_σ109, g13_σ109, g20_σ109, g22_σ109, g23_σ109, g24_σ109, g25_σ109, hT.2 224 (by decide)] at hqv110
          refine ok_if (fun hc112 => ?_) (fun hc112 => ?_)
          · have qhc112 := hqv110.1 hc112
            have n70 := qhc112
            rw [J_X12_readsName_89.eq_1]
            refine ok_gC rfl ?_
            refine ok_zbX (Q := fun V => (V = 0 → ¬ σ109.1 218 14 = 0) ∧ (¬ V = 0 → σ109.1 218 14 = 0)) (x_X12_good) (fun v113 hqv113 => ?_)
            have hqv113 : (v113 = 0 → ¬ σ109.1 218 14 = 0) ∧ (¬ v113 = 0 → σ109.1 218 14 = 0) := hqv113
            try simp only [g7_σ109, g9_σ109, g10_σ109, g11_σ109, g12_σ109, g13_σ109, g20_σ109, g22_σ109, g23_σ109, g24_σ109, g25_σ109, hT.2 224 (by decide)] at hqv113
            refine ok_if (fun hc115 => ?_) (fun hc115 => ?_)
            · have qhc115 := hqv113.1 hc115
              have n94 := qhc115
              exact ok_some ⟨hT, (show (TOK σ109.1 ∧ (σ0.1 218 11).toInt ≤ (σ109.1 218 11).toInt ∧ (σ109.1 218 14 = 0 → σ0.1 218 14 = 0) ∧ 0 ≤ (0 : Int32).toInt ∧ (0 : Int32).toInt ≤ 9) ∧ (σ109.1 218 7 = σ0.1 218 7 ∧ σ109.1 218 9 = σ0.1 218 9 ∧ σ109.1 218 20 = σ0.1 218 20 ∧ σ109.1 218 22 = σ0.1 218 22 ∧ σ109.1 218 23 = σ0.1 218 23 ∧ σ109.1 218 24 = σ0.1 218 24 ∧ σ109.1 218 25 = σ0.1 218 25) from ⟨by first | exact ⟨hK, by (try simp only [g7_σ109, g9_σ109, g10_σ109, g11_σ109, g12_σ109, g13_σ109, g20_σ109, g22_σ109, g23_σ109, g24_σ109, g25_σ109]); omega, fun q => absurd q (by (try simp only [g7_σ109, g9_σ109, g10_σ109, g11_σ109, g12_σ109, g13_σ109, g20_σ109, g22_σ109, g23_σ109, g24_σ109, g25_σ109]); exact n94), by first | decide | omega⟩ | exact ⟨hK, by (try simp only [g7_σ109, g9_σ109, g10_σ109, g11_σ109, g12_σ109, g13_σ109, g20_σ109, g22_σ109, g23_σ109, g24_σ109, g25_σ109]); omega, fun _ => y4, by first | decide | omega⟩ | exact absurd y94 n70 | exact absurd y94 n63 | exact absurd y94 n24 | exact absurd y94 n17 | exact absurd y94 n4 | exact absurd y70 n94, g7_σ109, g9_σ109, g20_σ109, g22_σ109, g23_σ109, g24_σ109, g25_σ109⟩)⟩
            · have qhc115 := hqv113.2 hc115
              have y94 := qhc115
              refine ok_gC rfl ?_
              refine ok_zbT (Q := fun V σ => (TOK σ.1 ∧ (σ109.1 218 10).toInt ≤ (σ.1 218 11).toInt) ∧ (σ.1 218 7 = σ109.1 218 7 ∧ σ.1 218 9 = σ109.1 218 9 ∧ σ.1 218 14 = σ109.1 218 14 ∧ σ.1 218 15 = σ109.1 218 15 ∧ σ.1 218 20 = σ109.1 218 20 ∧ σ.1 218 22 = σ109.1 218 22 ∧ σ.1 218 23 = σ109.1 218 23 ∧ σ.1 218 24 = σ109.1 218 24 ∧ σ.1 218 25 = σ109.1 218 25)) hT (s_X12_advance hN (hR.tr hT) (TOK_A hK) (by rw [hT.2 224 (by decide)]; exact hY)) (by decide) (fun v116 σ117 hOσ117 hT hqv116 => ?_)
              have hqv116 : (TOK σ117.1 ∧ (σ109.1 218 10).toInt ≤ (σ117.1 218 11).toInt) ∧ (σ117.1 218 7 = σ109.1 218 7 ∧ σ117.1 218 9 = σ109.1 218 9 ∧ σ117.1 218 14 = σ109.1 218 14 ∧ σ117.1 218 15 = σ109.1 218 15 ∧ σ117.1 218 20 = σ109.1 218 20 ∧ σ117.1 218 22 = σ109.1 218 22 ∧ σ117.1 218 23 = σ109.1 218 23 ∧ σ117.1 218 24 = σ109.1 218 24 ∧ σ117.1 218 25 = σ109.1 218 25) := hqv116
              have hkv116 := hqv116
              have hqv116 := hqv116.1
              have hK : TOK σ117.1 := by first | exact hqv116.1 | exact TOK_p eσ117 (by decide) hK
              try simp only [g7_σ109, g9_σ109, g10_σ109, g11_σ109, g12_σ109, g13_σ109, g20_σ109, g22_σ109, g23_σ109, g24_σ109, g25_σ109] at hqv116
              have g7_σ117 : σ117.1 218 7 = (σ0.1 218 7) := (hkv116.2.1).trans g7_σ109
              have g9_σ117 : σ117.1 218 9 = (σ0.1 218 9) := (hkv116.2.2.1).trans g9_σ109
              have g14_σ117 : σ117.1 218 14 = (σ109.1 218 14) := hkv116.2.2.2.1
              have g15_σ117 : σ117.1 218 15 = (σ109.1 218 15) := hkv116.2.2.2.2.1
              have g20_σ117 : σ117.1 218 20 = (σ0.1 218 20) := (hkv116.2.2.2.2.2.1).trans g20_σ109
              have g22_σ117 : σ117.1 218 22 = (σ0.1 218 22) := (hkv116.2.2.2.2.2.2.1).trans g22_σ109
              have g23_σ117 : σ117.1 218 23 = (σ0.1 218 23) := (hkv116.2.2.2.2.2.2.2.1).trans g23_σ109
              have g24_σ117 : σ117.1 218 24 = (σ0.1 218 24) := (hkv116.2.2.2.2.2.2.2.2.1).trans g24_σ109
              have g25_σ117 : σ117.1 218 25 = (σ0.1 218 25) := (hkv116.2.2.2.2.2.2.2.2.2).trans g25_σ109
              have m98 := hqv116.2
              exact ok_some ⟨hT, (show (TOK σ117.1 ∧ (σ0.1 218 11).toInt ≤ (σ117.1 218 11).toInt ∧ (σ117.1 218 14 = 0 → σ0.1 218 14 = 0) ∧ 0 ≤ (0 : Int32).toInt ∧ (0 : Int32).toInt ≤ 9) ∧ (σ117.1 218 7 = σ0.1 218 7 ∧ σ117.1 218 9 = σ0.1 218 9 ∧ σ117.1 218 20 = σ0.1 218 20 ∧ σ117.1 218 22 = σ0.1 218 22 ∧ σ117.1 218 23 = σ0.1 218 23 ∧ σ117.1 218 24 = σ0.1 218 24 ∧ σ117.1 218 25 = σ0.1 218 25) from ⟨by first | exact ⟨hK, by (try simp only [g7_σ117, g9_σ117, g14_σ117, g15_σ117, g20_σ117, g22_σ117, g23_σ117, g24_σ117, g25_σ117]); omega, fun q => absurd q (by (try simp only [g7_σ117, g9_σ117, g14_σ117, g15_σ117, g20_σ117, g22_σ117, g23_σ117, g24_σ117, g25_σ117]); exact n94), by first | decide | omega⟩ | exact ⟨hK, by (try simp only [g7_σ117, g9_σ117, g14_σ117, g15_σ117, g20_σ117, g22_σ117, g23_σ117, g24_σ117, g25_σ117]); omega, fun _ => y4, by first | decide | omega⟩ | exact absurd y94 n70 | exact absurd y94 n63 | exact absurd y94 n24 | exact absurd y94 n17 | exact absurd y94 n4 | exact absurd y70 n94, g7_σ117, g9_σ117, g20_σ117, g22_σ117, g23_σ117, g24_σ117, g25_σ117⟩)⟩
          · have qhc112 := hqv110.2 hc112
            have y70 := qhc112
            refine ok_gR (v := 224) hT rfl (hR 218 6 rfl) ?_
            refine ok_gIv rfl g11_σ109 ?_
            refine ok_aIn rfl (by ((try simp only [g7_σ109, g9_σ109, g10_σ109, g11_σ109, g12_σ109, g13_σ109, g20_σ109, g22_σ109, g23_σ109, g24_σ109, g25_σ109])); first | omega | decide | (simp only [Int32.le_iff_toInt_le, Int32.lt_iff_toInt_lt, ti_add, ti_sub, ti_mul, Int32.reduceToInt] at *; omega)) (by first | omega | exact absurd y70 n63 | exact absurd y70 n24 | exact absurd y70 n17 | exact absurd y70 n4) (fun v120 ev120 => ?_)
            have ev81 := ev120
            rw [hT.2 224 (by decide)] at ev81
            have t81 : 97 ≤ v120.toInt ∧ v120.toInt ≤ 122 := by first | (rw [ev81]; exact w12 (σ0.1 218 11).toInt.toNat (by omega) (by omega)) | exact absurd y70 n63 | exact absurd y70 n24 | exact absurd y70 n17 | exact absurd y70 n4
            have s81 : (v120 - 97).toInt = v120.toInt - 97 := by rw [ti_sub]; simp only [Int32.reduceToInt]; omega
            have b81 : (v120 - 97).toInt ≤ 9 := by first | (rw [ev81.trans ev48.symm]; have h0 := hF.1.1; omega) | exact absurd y70 n63 | exact absurd y70 n24 | exact absurd y70 n17 | exact absurd y70 n4
            rw [J_X12_readsName_89.eq_1]
            refine ok_gC rfl ?_
            refine ok_zbX (Q := fun V => (V = 0 → ¬ σ109.1 218 14 = 0) ∧ (¬ V = 0 → σ109.1 218 14 = 0)) (x_X12_good) (fun v121 hqv121 => ?_)
            have hqv121 : (v121 = 0 → ¬ σ109.1 218 14 = 0) ∧ (¬ v121 = 0 → σ109.1 218 14 = 0) := hqv121
            try simp only [g7_σ109, g9_σ109, g10_σ109, g11_σ109, g12_σ109, g13_σ109, g20_σ109, g22_σ109, g23_σ109, g24_σ109, g25_σ109, hT.2 224 (by decide)] at hqv121
            refine ok_if (fun hc123 => ?_) (fun hc123 => ?_)
            · have qhc123 := hqv121.1 hc123
              have n94 := qhc123
              exact ok_some ⟨hT, (show (TOK σ109.1 ∧ (σ0.1 218 11).toInt ≤ (σ109.1 218 11).toInt ∧ (σ109.1 218 14 = 0 → σ0.1 218 14 = 0) ∧ 0 ≤ (v120 - 97).toInt ∧ (v120 - 97).toInt ≤ 9) ∧ (σ109.1 218 7 = σ0.1 218 7 ∧ σ109.1 218 9 = σ0.1 218 9 ∧ σ109.1 218 20 = σ0.1 218 20 ∧ σ109.1 218 22 = σ0.1 218 22 ∧ σ109.1 218 23 = σ0.1 218 23 ∧ σ109.1 218 24 = σ0.1 218 24 ∧ σ109.1 218 25 = σ0.1 218 25) from ⟨by first | exact ⟨hK, by (try simp only [g7_σ109, g9_σ109, g10_σ109, g11_σ109, g12_σ109, g13_σ109, g20_σ109, g22_σ109, g23_σ109, g24_σ109, g25_σ109]); omega, fun q => absurd q (by (try simp only [g7_σ109, g9_σ109, g10_σ109, g11_σ109, g12_σ109, g13_σ109, g20_σ109, g22_σ109, g23_σ109, g24_σ109, g25_σ109]); exact n94), by first | decide | omega⟩ | exact ⟨hK, by (try simp only [g7_σ109, g9_σ109, g10_σ109, g11_σ109, g12_σ109, g13_σ109, g20_σ109, g22_σ109, g23_σ109, g24_σ109, g25_σ109]); omega, fun _ => y4, by first | decide | omega⟩ | exact absurd y94 n70 | exact absurd y94 n63 | exact absurd y94 n24 | exact absurd y94 n17 | exact absurd y94 n4 | exact absurd y70 n94, g7_σ109, g9_σ109, g20_σ109, g22_σ109, g23_σ109, g24_σ109, g25_σ109⟩)⟩
            · have qhc123 := hqv121.2 hc123
              have y94 := qhc123
              refine ok_gC rfl ?_
              refine ok_zbT (Q := fun V σ => (TOK σ.1 ∧ (σ109.1 218 10).toInt ≤ (σ.1 218 11).toInt) ∧ (σ.1 218 7 = σ109.1 218 7 ∧ σ.1 218 9 = σ109.1 218 9 ∧ σ.1 218 14 = σ109.1 218 14 ∧ σ.1 218 15 = σ109.1 218 15 ∧ σ.1 218 20 = σ109.1 218 20 ∧ σ.1 218 22 = σ109.1 218 22 ∧ σ.1 218 23 = σ109.1 218 23 ∧ σ.1 218 24 = σ109.1 218 24 ∧ σ.1 218 25 = σ109.1 218 25)) hT (s_X12_advance hN (hR.tr hT) (TOK_A hK) (by rw [hT.2 224 (by decide)]; exact hY)) (by decide) (fun v124 σ125 hOσ125 hT hqv124 => ?_)
              have hqv124 : (TOK σ125.1 ∧ (σ109.1 218 10).toInt ≤ (σ125.1 218 11).toInt) ∧ (σ125.1 218 7 = σ109.1 218 7 ∧ σ125.1 218 9 = σ109.1 218 9 ∧ σ125.1 218 14 = σ109.1 218 14 ∧ σ125.1 218 15 = σ109.1 218 15 ∧ σ125.1 218 20 = σ109.1 218 20 ∧ σ125.1 218 22 = σ109.1 218 22 ∧ σ125.1 218 23 = σ109.1 218 23 ∧ σ125.1 218 24 = σ109.1 218 24 ∧ σ125.1 218 25 = σ109.1 218 25) := hqv124
              have hkv124 := hqv124
              have hqv124 := hqv124.1
              have hK : TOK σ125.1 := by first | exact hqv124.1 | exact TOK_p eσ125 (by decide) hK
              try simp only [g7_σ109, g9_σ109, g10_σ109, g11_σ109, g12_σ109, g13_σ109, g20_σ109, g22_σ109, g23_σ109, g24_σ109, g25_σ109] at hqv124
              have g7_σ125 : σ125.1 218 7 = (σ0.1 218 7) := (hkv124.2.1).trans g7_σ109
              have g9_σ125 : σ125.1 218 9 = (σ0.1 218 9) := (hkv124.2.2.1).trans g9_σ109
              have g14_σ125 : σ125.1 218 14 = (σ109.1 218 14) := hkv124.2.2.2.1
              have g15_σ125 : σ125.1 218 15 = (σ109.1 218 15) := hkv124.2.2.2.2.1
              have g20_σ125 : σ125.1 218 20 = (σ0.1 218 20) := (hkv124.2.2.2.2.2.1).trans g20_σ109
              have g22_σ125 : σ125.1 218 22 = (σ0.1 218 22) := (hkv124.2.2.2.2.2.2.1).trans g22_σ109
              have g23_σ125 : σ125.1 218 23 = (σ0.1 218 23) := (hkv124.2.2.2.2.2.2.2.1).trans g23_σ109
              have g24_σ125 : σ125.1 218 24 = (σ0.1 218 24) := (hkv124.2.2.2.2.2.2.2.2.1).trans g24_σ109
              have g25_σ125 : σ125.1 218 25 = (σ0.1 218 25) := (hkv124.2.2.2.2.2.2.2.2.2).trans g25_σ109
              have m98 := hqv124.2
              exact ok_some ⟨hT, (show (TOK σ125.1 ∧ (σ0.1 218 11).toInt ≤ (σ125.1 218 11).toInt ∧ (σ125.1 218 14 = 0 → σ0.1 218 14 = 0) ∧ 0 ≤ (v120 - 97).toInt ∧ (v120 - 97).toInt ≤ 9) ∧ (σ125.1 218 7 = σ0.1 218 7 ∧ σ125.1 218 9 = σ0.1 218 9 ∧ σ125.1 218 20 = σ0.1 218 20 ∧ σ125.1 218 22 = σ0.1 218 22 ∧ σ125.1 218 23 = σ0.1 218 23 ∧ σ125.1 218 24 = σ0.1 218 24 ∧ σ125.1 218 25 = σ0.1 218 25) from ⟨by first | exact ⟨hK, by (try simp only [g7_σ125, g9_σ125, g14_σ125, g15_σ125, g20_σ125, g22_σ125, g23_σ125, g24_σ125, g25_σ125]); omega, fun q => absurd q (by (try simp only [g7_σ125, g9_σ125, g14_σ125, g15_σ125, g20_σ125, g22_σ125, g23_σ125, g24_σ125, g25_σ125]); exact n94), by first | decide | omega⟩ | exact ⟨hK, by (try simp only [g7_σ125, g9_σ125, g14_σ125, g15_σ125, g20_σ125, g22_σ125, g23_σ125, g24_σ125, g25_σ125]); omega, fun _ => y4, by first | decide | omega⟩ | exact absurd y94 n70 | exact absurd y94 n63 | exact absurd y94 n24 | exact absurd y94 n17 | exact absurd y94 n4 | exact absurd y70 n94, g7_σ125, g9_σ125, g20_σ125, g22_σ125, g23_σ125, g24_σ125, g25_σ125⟩)⟩
        · refine ok_gR (v := 224) hT rfl (hR 218 6 rfl) ?_
          refine ok_gI rfl ?_
          refine ok_aIn rfl (by (skip); first | omega | decide | (simp only [Int32.le_iff_toInt_le, Int32.lt_iff_toInt_lt, ti_add, ti_sub, ti_mul, Int32.reduceToInt] at *; omega)) (by first | omega | exact absurd y24 n4 | exact absurd y24 n17) (fun v128 ev128 => ?_)
          have ev48 := ev128
          rw [hT.2 224 (by decide)] at ev48
          refine ok_gR (v := 231) hT rfl (hR 218 26 rfl) ?_
          refine ok_aIc (j := 0) hT rfl (by decide) rfl (by decide) (by decide) ?_
          refine ok_if (fun hc131 => ?_) (fun hc131 => ?_)
          · have l58 := hc131
            rw [Int32.lt_iff_toInt_lt] at l58
            rw [J_X12_readsName_66.eq_1]
            refine ok_gC rfl ?_
            refine ok_zbX (Q := fun V => (V = 0 → ¬ σ0.1 218 14 = 0) ∧ (¬ V = 0 → σ0.1 218 14 = 0)) (x_X12_good) (fun v132 hqv132 => ?_)
            have hqv132 : (v132 = 0 → ¬ σ0.1 218 14 = 0) ∧ (¬ v132 = 0 → σ0.1 218 14 = 0) := hqv132
            refine ok_if (fun hc134 => ?_) (fun hc134 => ?_)
            · have qhc134 := hqv132.1 hc134
              have n70 := qhc134
              rw [J_X12_readsName_89.eq_1]
              refine ok_gC rfl ?_
              refine ok_zbX (Q := fun V => (V = 0 → ¬ σ0.1 218 14 = 0) ∧ (¬ V = 0 → σ0.1 218 14 = 0)) (x_X12_good) (fun v135 hqv135 => ?_)
              have hqv135 : (v135 = 0 → ¬ σ0.1 218 14 = 0) ∧ (¬ v135 = 0 → σ0.1 218 14 = 0) := hqv135
              refine ok_if (fun hc137 => ?_) (fun hc137 => ?_)
              · have qhc137 := hqv135.1 hc137
                have n94 := qhc137
                exact ok_some ⟨hT, (show (TOK σ0.1 ∧ (σ0.1 218 11).toInt ≤ (σ0.1 218 11).toInt ∧ (σ0.1 218 14 = 0 → σ0.1 218 14 = 0) ∧ 0 ≤ (0 : Int32).toInt ∧ (0 : Int32).toInt ≤ 9) ∧ (σ0.1 218 7 = σ0.1 218 7 ∧ σ0.1 218 9 = σ0.1 218 9 ∧ σ0.1 218 20 = σ0.1 218 20 ∧ σ0.1 218 22 = σ0.1 218 22 ∧ σ0.1 218 23 = σ0.1 218 23 ∧ σ0.1 218 24 = σ0.1 218 24 ∧ σ0.1 218 25 = σ0.1 218 25) from ⟨by first | exact ⟨hK, by skip; omega, fun q => absurd q (by skip; exact n94), by first | decide | omega⟩ | exact ⟨hK, by skip; omega, fun _ => y4, by first | decide | omega⟩ | exact absurd y94 n70 | exact absurd y94 n63 | exact absurd y94 n24 | exact absurd y94 n17 | exact absurd y94 n4 | exact absurd y70 n94, rfl, rfl, rfl, rfl, rfl, rfl, rfl⟩)⟩
              · have qhc137 := hqv135.2 hc137
                have y94 := qhc137
                refine ok_gC rfl ?_
                refine ok_zbT (Q := fun V σ => (TOK σ.1 ∧ (σ0.1 218 10).toInt ≤ (σ.1 218 11).toInt) ∧ (σ.1 218 7 = σ0.1 218 7 ∧ σ.1 218 9 = σ0.1 218 9 ∧ σ.1 218 14 = σ0.1 218 14 ∧ σ.1 218 15 = σ0.1 218 15 ∧ σ.1 218 20 = σ0.1 218 20 ∧ σ.1 218 22 = σ0.1 218 22 ∧ σ.1 218 23 = σ0.1 218 23 ∧ σ.1 218 24 = σ0.1 218 24 ∧ σ.1 218 25 = σ0.1 218 25)) hT (s_X12_advance hN (hR.tr hT) (TOK_A hK) (by rw [hT.2 224 (by decide)]; exact hY)) (by decide) (fun v138 σ139 hOσ139 hT hqv138 => ?_)
                have hqv138 : (TOK σ139.1 ∧ (σ0.1 218 10).toInt ≤ (σ139.1 218 11).toInt) ∧ (σ139.1 218 7 = σ0.1 218 7 ∧ σ139.1 218 9 = σ0.1 218 9 ∧ σ139.1 218 14 = σ0.1 218 14 ∧ σ139.1 218 15 = σ0.1 218 15 ∧ σ139.1 218 20 = σ0.1 218 20 ∧ σ139.1 218 22 = σ0.1 218 22 ∧ σ139.1 218 23 = σ0.1 218 23 ∧ σ139.1 218 24 = σ0.1 218 24 ∧ σ139.1 218 25 = σ0.1 218 25) := hqv138
                have hkv138 := hqv138
                have hqv138 := hqv138.1
                have hK : TOK σ139.1 := by first | exact hqv138.1 | exact TOK_p eσ139 (by decide) hK
                have g7_σ139 : σ139.1 218 7 = (σ0.1 218 7) := hkv138.2.1
                have g9_σ139 : σ139.1 218 9 = (σ0.1 218 9) := hkv138.2.2.1
                have g14_σ139 : σ139.1 218 14 = (σ0.1 218 14) := hkv138.2.2.2.1
                have g15_σ139 : σ139.1 218 15 = (σ0.1 218 15) := hkv138.2.2.2.2.1
                have g20_σ139 : σ139.1 218 20 = (σ0.1 218 20) := hkv138.2.2.2.2.2.1
                have g22_σ139 : σ139.1 218 22 = (σ0.1 218 22) := hkv138.2.2.2.2.2.2.1
                have g23_σ139 : σ139.1 218 23 = (σ0.1 218 23) := hkv138.2.2.2.2.2.2.2.1
                have g24_σ139 : σ139.1 218 24 = (σ0.1 218 24) := hkv138.2.2.2.2.2.2.2.2.1
                have g25_σ139 : σ139.1 218 25 = (σ0.1 218 25) := hkv138.2.2.2.2.2.2.2.2.2
                have m98 := hqv138.2
                exact ok_some ⟨hT, (show (TOK σ139.1 ∧ (σ0.1 218 11).toInt ≤ (σ139.1 218 11).toInt ∧ (σ139.1 218 14 = 0 → σ0.1 218 14 = 0) ∧ 0 ≤ (0 : Int32).toInt ∧ (0 : Int32).toInt ≤ 9) ∧ (σ139.1 218 7 = σ0.1 218 7 ∧ σ139.1 218 9 = σ0.1 218 9 ∧ σ139.1 218 20 = σ0.1 218 20 ∧ σ139.1 218 22 = σ0.1 218 22 ∧ σ139.1 218 23 = σ0.1 218 23 ∧ σ139.1 218 24 = σ0.1 218 24 ∧ σ139.1 218 25 = σ0.1 218 25) from ⟨by first | exact ⟨hK, by (try simp only [g7_σ139, g9_σ139, g14_σ139, g15_σ139, g20_σ139, g22_σ139, g23_σ139, g24_σ139, g25_σ139]); omega, fun q => absurd q (by (try simp only [g7_σ139, g9_σ139, g14_σ139, g15_σ139, g20_σ139, g22_σ139, g23_σ139, g24_σ139, g25_σ139]); exact n94), by first | decide | omega⟩ | exact ⟨hK, by (try simp only [g7_σ139, g9_σ139, g14_σ139, g15_σ139, g20_σ139, g22_σ139, g23_σ139, g24_σ139, g25_σ139]); omega, fun _ => y4, by first | decide | omega⟩ | exact absurd y94 n70 | exact absurd y94 n63 | exact absurd y94 n24 | exact absurd y94 n17 | exact absurd y94 n4 | exact absurd y70 n94, g7_σ139, g9_σ139, g20_σ139, g22_σ139, g23_σ139, g24_σ139, g25_σ139⟩)⟩
            · have qhc134 := hqv132.2 hc134
              have y70 := qhc134
              refine ok_gR (v := 224) hT rfl (hR 218 6 rfl) ?_
              refine ok_gI rfl ?_
              refine ok_aIn rfl (by (skip); first | omega | decide | (simp only [Int32.le_iff_toInt_le, Int32.lt_iff_toInt_lt, ti_add, ti_sub, ti_mul, Int32.reduceToInt] at *; omega)) (by first | omega | exact absurd y70 n63 | exact absurd y70 n24 | exact absurd y70 n17 | exact absurd y70 n4) (fun v142 ev142 => ?_)
              have ev81 := ev142
              rw [hT.2 224 (by decide)] at ev81
              have t81 : 97 ≤ v142.toInt ∧ v142.toInt ≤ 122 := by first | (rw [ev81]; exact w12 (σ0.1 218 11).toInt.toNat (by omega) (by omega)) | exact absurd y70 n63 | exact absurd y70 n24 | exact absurd y70 n17 | exact absurd y70 n4
              have s81 : (v142 - 97).toInt = v142.toInt - 97 := by rw [ti_sub]; simp only [Int32.reduceToInt]; omega
              have b81 : (v142 - 97).toInt ≤ 9 := by first | (rw [ev81.trans ev48.symm]; have h0 := hF.1.1; omega) | exact absurd y70 n63 | exact absurd y70 n24 | exact absurd y70 n17 | exact absurd y70 n4
              rw [J_X12_readsName_89.eq_1]
              refine ok_gC rfl ?_
              refine ok_zbX (Q := fun V => (V = 0 → ¬ σ0.1 218 14 = 0) ∧ (¬ V = 0 → σ0.1 218 14 = 0)) (x_X12_good) (fun v143 hqv143 => ?_)
              have hqv143 : (v143 = 0 → ¬ σ0.1 218 14 = 0) ∧ (¬ v143 = 0 → σ0.1 218 14 = 0) := hqv143
              refine ok_if (fun hc145 => ?_) (fun hc145 => ?_)
              · have qhc145 := hqv143.1 hc145
                have n94 := qhc145
                exact ok_some ⟨hT, (show (TOK σ0.1 ∧ (σ0.1 218 11).toInt ≤ (σ0.1 218 11).toInt ∧ (σ0.1 218 14 = 0 → σ0.1 218 14 = 0) ∧ 0 ≤ (v142 - 97).toInt ∧ (v142 - 97).toInt ≤ 9) ∧ (σ0.1 218 7 = σ0.1 218 7 ∧ σ0.1 218 9 = σ0.1 218 9 ∧ σ0.1 218 20 = σ0.1 218 20 ∧ σ0.1 218 22 = σ0.1 218 22 ∧ σ0.1 218 23 = σ0.1 218 23 ∧ σ0.1 218 24 = σ0.1 218 24 ∧ σ0.1 218 25 = σ0.1 218 25) from ⟨by first | exact ⟨hK, by skip; omega, fun q => absurd q (by skip; exact n94), by first | decide | omega⟩ | exact ⟨hK, by skip; omega, fun _ => y4, by first | decide | omega⟩ | exact absurd y94 n70 | exact absurd y94 n63 | exact absurd y94 n24 | exact absurd y94 n17 | exact absurd y94 n4 | exact absurd y70 n94, rfl, rfl, rfl, rfl, rfl, rfl, rfl⟩)⟩
              · have qhc145 := hqv143.2 hc145
                have y94 := qhc145
                refine ok_gC rfl ?_
                refine ok_zbT (Q := fun V σ => (TOK σ.1 ∧ (σ0.1 218 10).toInt ≤ (σ.1 218 11).toInt) ∧ (σ.1 218 7 = σ0.1 218 7 ∧ σ.1 218 9 = σ0.1 218 9 ∧ σ.1 218 14 = σ0.1 218 14 ∧ σ.1 218 15 = σ0.1 218 15 ∧ σ.1 218 20 = σ0.1 218 20 ∧ σ.1 218 22 = σ0.1 218 22 ∧ σ.1 218 23 = σ0.1 218 23 ∧ σ.1 218 24 = σ0.1 218 24 ∧ σ.1 218 25 = σ0.1 218 25)) hT (s_X12_advance hN (hR.tr hT) (TOK_A hK) (by rw [hT.2 224 (by decide)]; exact hY)) (by decide) (fun v146 σ147 hOσ147 hT hqv146 => ?_)
                have hqv146 : (TOK σ147.1 ∧ (σ0.1 218 10).toInt ≤ (σ147.1 218 11).toInt) ∧ (σ147.1 218 7 = σ0.1 218 7 ∧ σ147.1 218 9 = σ0.1 218 9 ∧ σ147.1 218 14 = σ0.1 218 14 ∧ σ147.1 218 15 = σ0.1 218 15 ∧ σ147.1 218 20 = σ0.1 218 20 ∧ σ147.1 218 22 = σ0.1 218 22 ∧ σ147.1 218 23 = σ0.1 218 23 ∧ σ147.1 218 24 = σ0.1 218 24 ∧ σ147.1 218 25 = σ0.1 218 25) := hqv146
                have hkv146 := hqv146
                have hqv146 := hqv146.1
                have hK : TOK σ147.1 := by first | exact hqv146.1 | exact TOK_p eσ147 (by decide) hK
                have g7_σ147 : σ147.1 218 7 = (σ0.1 218 7) := hkv146.2.1
                have g9_σ147 : σ147.1 218 9 = (σ0.1 218 9) := hkv146.2.2.1
                have g14_σ147 : σ147.1 218 14 = (σ0.1 218 14) := hkv146.2.2.2.1
                have g15_σ147 : σ147.1 218 15 = (σ0.1 218 15) := hkv146.2.2.2.2.1
                have g20_σ147 : σ147.1 218 20 = (σ0.1 218 20) := hkv146.2.2.2.2.2.1
                have g22_σ147 : σ147.1 218 22 = (σ0.1 218 22) := hkv146.2.2.2.2.2.2.1
                have g23_σ147 : σ147.1 218 23 = (σ0.1 218 23) := hkv146.2.2.2.2.2.2.2.1
                have g24_σ147 : σ147.1 218 24 = (σ0.1 218 24) := hkv146.2.2.2.2.2.2.2.2.1
                have g25_σ147 : σ147.1 218 25 = (σ0.1 218 25) := hkv146.2.2.2.2.2.2.2.2.2
                have m98 := hqv146.2
                exact ok_some ⟨hT, (show (TOK σ147.1 ∧ (σ0.1 218 11).toInt ≤ (σ147.1 218 11).toInt ∧ (σ147.1 218 14 = 0 → σ0.1 218 14 = 0) ∧ 0 ≤ (v142 - 97).toInt ∧ (v142 - 97).toInt ≤ 9) ∧ (σ147.1 218 7 = σ0.1 218 7 ∧ σ147.1 218 9 = σ0.1 218 9 ∧ σ147.1 218 20 = σ0.1 218 20 ∧ σ147.1 218 22 = σ0.1 218 22 ∧ σ147.1 218 23 = σ0.1 218 23 ∧ σ147.1 218 24 = σ0.1 218 24 ∧ σ147.1 218 25 = σ0.1 218 25) from ⟨by first | exact ⟨hK, by (try simp only [g7_σ147, g9_σ147, g14_σ147, g15_σ147, g20_σ147, g22_σ147, g23_σ147, g24_σ147, g25_σ147]); omega, fun q => absurd q (by (try simp only [g7_σ147, g9_σ147, g14_σ147, g15_σ147, g20_σ147, g22_σ147, g23_σ147, g24_σ147, g25_σ147]); exact n94), by first | decide | omega⟩ | exact ⟨hK, by (try simp only [g7_σ147, g9_σ147, g14_σ147, g15_σ147, g20_σ147, g22_σ147, g23_σ147, g24_σ147, g25_σ147]); omega, fun _ => y4, by first | decide | omega⟩ | exact absurd y94 n70 | exact absurd y94 n63 | exact absurd y94 n24 | exact absurd y94 n17 | exact absurd y94 n4 | exact absurd y70 n94, g7_σ147, g9_σ147, g20_σ147, g22_σ147, g23_σ147, g24_σ147, g25_σ147⟩)⟩
          · refine ok_gC rfl ?_
            refine ok_zbT (Q := fun V σ => (TOK σ.1 ∧ ¬ σ.1 218 14 = 0) ∧ (σ.1 218 7 = σ0.1 218 7 ∧ σ.1 218 9 = σ0.1 218 9 ∧ σ.1 218 10 = σ0.1 218 10 ∧ σ.1 218 11 = σ0.1 218 11 ∧ σ.1 218 12 = σ0.1 218 12 ∧ σ.1 218 13 = σ0.1 218 13 ∧ σ.1 218 20 = σ0.1 218 20 ∧ σ.1 218 22 = σ0.1 218 22 ∧ σ.1 218 23 = σ0.1 218 23 ∧ σ.1 218 24 = σ0.1 218 24 ∧ σ.1 218 25 = σ0.1 218 25)) hT (s_X12_errs hN (hR.tr hT) (hK) (by rw [hT.2 224 (by decide)]; exact hY) (by decide)) (by decide) (fun v148 σ149 hOσ149 hT hqv148 => ?_)
            have hqv148 : (TOK σ149.1 ∧ ¬ σ149.1 218 14 = 0) ∧ (σ149.1 218 7 = σ0.1 218 7 ∧ σ149.1 218 9 = σ0.1 218 9 ∧ σ149.1 218 10 = σ0.1 218 10 ∧ σ149.1 218 11 = σ0.1 218 11 ∧ σ149.1 218 12 = σ0.1 218 12 ∧ σ149.1 218 13 = σ0.1 218 13 ∧ σ149.1 218 20 = σ0.1 218 20 ∧ σ149.1 218 22 = σ0.1 218 22 ∧ σ149.1 218 23 = σ0.1 218 23 ∧ σ149.1 218 24 = σ0.1 218 24 ∧ σ149.1 218 25 = σ0.1 218 25) := hqv148
            have hkv148 := hqv148
            have hqv148 := hqv148.1
            have hK : TOK σ149.1 := by first | exact hqv148.1 | exact TOK_p eσ149 (by decide) hK
            have g7_σ149 : σ149.1 218 7 = (σ0.1 218 7) := hkv148.2.1
            have g9_σ149 : σ149.1 218 9 = (σ0.1 218 9) := hkv148.2.2.1
            have g10_σ149 : σ149.1 218 10 = (σ0.1 218 10) := hkv148.2.2.2.1
            have g11_σ149 : σ149.1 218 11 = (σ0.1 218 11) := hkv148.2.2.2.2.1
            have g12_σ149 : σ149.1 218 12 = (σ0.1 218 12) := hkv148.2.2.2.2.2.1
            have g13_σ149 : σ149.1 218 13 = (σ0.1 218 13) := hkv148.2.2.2.2.2.2.1
            have g20_σ149 : σ149.1 218 20 = (σ0.1 218 20) := hkv148.2.2.2.2.2.2.2.1
            have g22_σ149 : σ149.1 218 22 = (σ0.1 218 22) := hkv148.2.2.2.2.2.2.2.2.1
            have g23_σ149 : σ149.1 218 23 = (σ0.1 218 23) := hkv148.2.2.2.2.2.2.2.2.2.1
            have g24_σ149 : σ149.1 218 24 = (σ0.1 218 24) := hkv148.2.2.2.2.2.2.2.2.2.2.1
            have g25_σ149 : σ149.1 218 25 = (σ0.1 218 25) := hkv148.2.2.2.2.2.2.2.2.2.2.2
            have n63 := hqv148.2
            rw [J_X12_readsName_66.eq_1]
            refine ok_gC rfl ?_
            refine ok_zbX (Q := fun V => (V = 0 → ¬ σ149.1 218 14 = 0) ∧ (¬ V = 0 → σ149.1 218 14 = 0)) (x_X12_good) (fun v150 hqv150 => ?_)
            have hqv150 : (v150 = 0 → ¬ σ149.1 218 14 = 0) ∧ (¬ v150 = 0 → σ149.1 218 14 = 0) := hqv150
            try simp only [g7_σ149, g9_σ149, g10_σ149, g11_σ149, g12_σ149, g13_σ149, g20_σ149, g22_σ149, g23_σ149, g24_σ149, g25_σ149, hT.2 224 (by decide)] at hqv150
            refine ok_if (fun hc152 => ?_) (fun hc152 => ?_)
            · have qhc152 := hqv150.1 hc152
              have n70 := qhc152
              rw [J_X12_readsName_89.eq_1]
              refine ok_gC rfl ?_
              refine ok_zbX (Q := fun V => (V = 0 → ¬ σ149.1 218 14 = 0) ∧ (¬ V = 0 → σ149.1 218 14 = 0)) (x_X12_good) (fun v153 hqv153 => ?_)
              have hqv153 : (v153 = 0 → ¬ σ149.1 218 14 = 0) ∧ (¬ v153 = 0 → σ149.1 218 14 = 0) := hqv153
              try simp only [g7_σ149, g9_σ149, g10_σ149, g11_σ149, g12_σ149, g13_σ149, g20_σ149, g22_σ149, g23_σ149, g24_σ149, g25_σ149, hT.2 224 (by decide)] at hqv153
              refine ok_if (fun hc155 => ?_) (fun hc155 => ?_)
              · have qhc155 := hqv153.1 hc155
                have n94 := qhc155
                exact ok_some ⟨hT, (show (TOK σ149.1 ∧ (σ0.1 218 11).toInt ≤ (σ149.1 218 11).toInt ∧ (σ149.1 218 14 = 0 → σ0.1 218 14 = 0) ∧ 0 ≤ (0 : Int32).toInt ∧ (0 : Int32).toInt ≤ 9) ∧ (σ149.1 218 7 = σ0.1 218 7 ∧ σ149.1 218 9 = σ0.1 218 9 ∧ σ149.1 218 20 = σ0.1 218 20 ∧ σ149.1 218 22 = σ0.1 218 22 ∧ σ149.1 218 23 = σ0.1 218 23 ∧ σ149.1 218 24 = σ0.1 218 24 ∧ σ149.1 218 25 = σ0.1 218 25) from ⟨by first | exact ⟨hK, by (try simp only [g7_σ149, g9_σ149, g10_σ149, g11_σ149, g12_σ149, g13_σ149, g20_σ149, g22_σ149, g23_σ149, g24_σ149, g25_σ149]); omega, fun q => absurd q (by (try simp only [g7_σ149, g9_σ149, g10_σ149, g11_σ149, g12_σ149, g13_σ149, g20_σ149, g22_σ149, g23_σ149, g24_σ149, g25_σ149]); exact n94), by first | decide | omega⟩ | exact ⟨hK, by (try simp only [g7_σ149, g9_σ149, g10_σ149, g11_σ149, g12_σ149, g13_σ149, g20_σ149, g22_σ149, g23_σ149, g24_σ149, g25_σ149]); omega, fun _ => y4, by first | decide | omega⟩ | exact absurd y94 n70 | exact absurd y94 n63 | exact absurd y94 n24 | exact absurd y94 n17 | exact absurd y94 n4 | exact absurd y70 n94, g7_σ149, g9_σ149, g20_σ149, g22_σ149, g23_σ149, g24_σ149, g25_σ149⟩)⟩
              · have qhc155 := hqv153.2 hc155
                have y94 := qhc155
                refine ok_gC rfl ?_
                refine ok_zbT (Q := fun V σ => (TOK σ.1 ∧ (σ149.1 218 10).toInt ≤ (σ.1 218 11).toInt) ∧ (σ.1 218 7 = σ149.1 218 7 ∧ σ.1 218 9 = σ149.1 218 9 ∧ σ.1 218 14 = σ149.1 218 14 ∧ σ.1 218 15 = σ149.1 218 15 ∧ σ.1 218 20 = σ149.1 218 20 ∧ σ.1 218 22 = σ149.1 218 22 ∧ σ.1 218 23 = σ149.1 218 23 ∧ σ.1 218 24 = σ149.1 218 24 ∧ σ.1 218 25 = σ149.1 218 25)) hT (s_X12_advance hN (hR.tr hT) (TOK_A hK) (by rw [hT.2 224 (by decide)]; exact hY)) (by decide) (fun v156 σ157 hOσ157 hT hqv156 => ?_)
                have hqv156 : (TOK σ157.1 ∧ (σ149.1 218 10).toInt ≤ (σ157.1 218 11).toInt) ∧ (σ157.1 218 7 = σ149.1 218 7 ∧ σ157.1 218 9 = σ149.1 218 9 ∧ σ157.1 218 14 = σ149.1 218 14 ∧ σ157.1 218 15 = σ149.1 218 15 ∧ σ157.1 218 20 = σ149.1 218 20 ∧ σ157.1 218 22 = σ149.1 218 22 ∧ σ157.1 218 23 = σ149.1 218 23 ∧ σ157.1 218 24 = σ149.1 218 24 ∧ σ157.1 218 25 = σ149.1 218 25) := hqv156
                have hkv156 := hqv156
                have hqv156 := hqv156.1
                have hK : TOK σ157.1 := by first | exact hqv156.1 | exact TOK_p eσ157 (by decide) hK
                try simp only [g7_σ149, g9_σ149, g10_σ149, g11_σ149, g12_σ149, g13_σ149, g20_σ149, g22_σ149, g23_σ149, g24_σ149, g25_σ149] at hqv156
                have g7_σ157 : σ157.1 218 7 = (σ0.1 218 7) := (hkv156.2.1).trans g7_σ149
                have g9_σ157 : σ157.1 218 9 = (σ0.1 218 9) := (hkv156.2.2.1).trans g9_σ149
                have g14_σ157 : σ157.1 218 14 = (σ149.1 218 14) := hkv156.2.2.2.1
                have g15_σ157 : σ157.1 218 15 = (σ149.1 218 15) := hkv156.2.2.2.2.1
                have g20_σ157 : σ157.1 218 20 = (σ0.1 218 20) := (hkv156.2.2.2.2.2.1).trans g20_σ149
                have g22_σ157 : σ157.1 218 22 = (σ0.1 218 22) := (hkv156.2.2.2.2.2.2.1).trans g22_σ149
                have g23_σ157 : σ157.1 218 23 = (σ0.1 218 23) := (hkv156.2.2.2.2.2.2.2.1).trans g23_σ149
                have g24_σ157 : σ157.1 218 24 = (σ0.1 218 24) := (hkv156.2.2.2.2.2.2.2.2.1).trans g24_σ149
                have g25_σ157 : σ157.1 218 25 = (σ0.1 218 25) := (hkv156.2.2.2.2.2.2.2.2.2).trans g25_σ149
                have m98 := hqv156.2
                exact ok_some ⟨hT, (show (TOK σ157.1 ∧ (σ0.1 218 11).toInt ≤ (σ157.1 218 11).toInt ∧ (σ157.1 218 14 = 0 → σ0.1 218 14 = 0) ∧ 0 ≤ (0 : Int32).toInt ∧ (0 : Int32).toInt ≤ 9) ∧ (σ157.1 218 7 = σ0.1 218 7 ∧ σ157.1 218 9 = σ0.1 218 9 ∧ σ157.1 218 20 = σ0.1 218 20 ∧ σ157.1 218 22 = σ0.1 218 22 ∧ σ157.1 218 23 = σ0.1 218 23 ∧ σ157.1 218 24 = σ0.1 218 24 ∧ σ157.1 218 25 = σ0.1 218 25) from ⟨by first | exact ⟨hK, by (try simp only [g7_σ157, g9_σ157, g14_σ157, g15_σ157, g20_σ157, g22_σ157, g23_σ157, g24_σ157, g25_σ157]); omega, fun q => absurd q (by (try simp only [g7_σ157, g9_σ157, g14_σ157, g15_σ157, g20_σ157, g22_σ157, g23_σ157, g24_σ157, g25_σ157]); exact n94), by first | decide | omega⟩ | exact ⟨hK, by (try simp only [g7_σ157, g9_σ157, g14_σ157, g15_σ157, g20_σ157, g22_σ157, g23_σ157, g24_σ157, g25_σ157]); omega, fun _ => y4, by first | decide | omega⟩ | exact absurd y94 n70 | exact absurd y94 n63 | exact absurd y94 n24 | exact absurd y94 n17 | exact absurd y94 n4 | exact absurd y70 n94, g7_σ157, g9_σ157, g20_σ157, g22_σ157, g23_σ157, g24_σ157, g25_σ157⟩)⟩
            · have qhc152 := hqv150.2 hc152
              have y70 := qhc152
              refine ok_gR (v := 224) hT rfl (hR 218 6 rfl) ?_
              refine ok_gIv rfl g11_σ149 ?_
              refine ok_aIn rfl (by ((try simp only [g7_σ149, g9_σ149, g10_σ149, g11_σ149, g12_σ149, g13_σ149, g20_σ149, g22_σ149, g23_σ149, g24_σ149, g25_σ149])); first | omega | decide | (simp only [Int32.le_iff_toInt_le, Int32.lt_iff_toInt_lt, ti_add, ti_sub, ti_mul, Int32.reduceToInt] at *; omega)) (by first | omega | exact absurd y70 n63 | exact absurd y70 n24 | exact absurd y70 n17 | exact absurd y70 n4) (fun v160 ev160 => ?_)
              have ev81 := ev160
              rw [hT.2 224 (by decide)] at ev81
              have t81 : 97 ≤ v160.toInt ∧ v160.toInt ≤ 122 := by first | (rw [ev81]; exact w12 (σ0.1 218 11).toInt.toNat (by omega) (by omega)) | exact absurd y70 n63 | exact absurd y70 n24 | exact absurd y70 n17 | exact absurd y70 n4
              have s81 : (v160 - 97).toInt = v160.toInt - 97 := by rw [ti_sub]; simp only [Int32.reduceToInt]; omega
              have b81 : (v160 - 97).toInt ≤ 9 := by first | (rw [ev81.trans ev48.symm]; have h0 := hF.1.1; omega) | exact absurd y70 n63 | exact absurd y70 n24 | exact absurd y70 n17 | exact absurd y70 n4
              rw [J_X12_readsName_89.eq_1]
              refine ok_gC rfl ?_
              refine ok_zbX (Q := fun V => (V = 0 → ¬ σ149.1 218 14 = 0) ∧ (¬ V = 0 → σ149.1 218 14 = 0)) (x_X12_good) (fun v161 hqv161 => ?_)
              have hqv161 : (v161 = 0 → ¬ σ149.1 218 14 = 0) ∧ (¬ v161 = 0 → σ149.1 218 14 = 0) := hqv161
              try simp only [g7_σ149, g9_σ149, g10_σ149, g11_σ149, g12_σ149, g13_σ149, g20_σ149, g22_σ149, g23_σ149, g24_σ149, g25_σ149, hT.2 224 (by decide)] at hqv161
              refine ok_if (fun hc163 => ?_) (fun hc163 => ?_)
              · have qhc163 := hqv161.1 hc163
                have n94 := qhc163
                exact ok_some ⟨hT, (show (TOK σ149.1 ∧ (σ0.1 218 11).toInt ≤ (σ149.1 218 11).toInt ∧ (σ149.1 218 14 = 0 → σ0.1 218 14 = 0) ∧ 0 ≤ (v160 - 97).toInt ∧ (v160 - 97).toInt ≤ 9) ∧ (σ149.1 218 7 = σ0.1 218 7 ∧ σ149.1 218 9 = σ0.1 218 9 ∧ σ149.1 218 20 = σ0.1 218 20 ∧ σ149.1 218 22 = σ0.1 218 22 ∧ σ149.1 218 23 = σ0.1 218 23 ∧ σ149.1 218 24 = σ0.1 218 24 ∧ σ149.1 218 25 = σ0.1 218 25) from ⟨by first | exact ⟨hK, by (try simp only [g7_σ149, g9_σ149, g10_σ149, g11_σ149, g12_σ149, g13_σ149, g20_σ149, g22_σ149, g23_σ149, g24_σ149, g25_σ149]); omega, fun q => absurd q (by (try simp only [g7_σ149, g9_σ149, g10_σ149, g11_σ149, g12_σ149, g13_σ149, g20_σ149, g22_σ149, g23_σ149, g24_σ149, g25_σ149]); exact n94), by first | decide | omega⟩ | exact ⟨hK, by (try simp only [g7_σ149, g9_σ149, g10_σ149, g11_σ149, g12_σ149, g13_σ149, g20_σ149, g22_σ149, g23_σ149, g24_σ149, g25_σ149]); omega, fun _ => y4, by first | decide | omega⟩ | exact absurd y94 n70 | exact absurd y94 n63 | exact absurd y94 n24 | exact absurd y94 n17 | exact absurd y94 n4 | exact absurd y70 n94, g7_σ149, g9_σ149, g20_σ149, g22_σ149, g23_σ149, g24_σ149, g25_σ149⟩)⟩
              · have qhc163 := hqv161.2 hc163
                have y94 := qhc163
                refine ok_gC rfl ?_
                refine ok_zbT (Q := fun V σ => (TOK σ.1 ∧ (σ149.1 218 10).toInt ≤ (σ.1 218 11).toInt) ∧ (σ.1 218 7 = σ149.1 218 7 ∧ σ.1 218 9 = σ149.1 218 9 ∧ σ.1 218 14 = σ149.1 218 14 ∧ σ.1 218 15 = σ149.1 218 15 ∧ σ.1 218 20 = σ149.1 218 20 ∧ σ.1 218 22 = σ149.1 218 22 ∧ σ.1 218 23 = σ149.1 218 23 ∧ σ.1 218 24 = σ149.1 218 24 ∧ σ.1 218 25 = σ149.1 218 25)) hT (s_X12_advance hN (hR.tr hT) (TOK_A hK) (by rw [hT.2 224 (by decide)]; exact hY)) (by decide) (fun v164 σ165 hOσ165 hT hqv164 => ?_)
                have hqv164 : (TOK σ165.1 ∧ (σ149.1 218 10).toInt ≤ (σ165.1 218 11).toInt) ∧ (σ165.1 218 7 = σ149.1 218 7 ∧ σ165.1 218 9 = σ149.1 218 9 ∧ σ165.1 218 14 = σ149.1 218 14 ∧ σ165.1 218 15 = σ149.1 218 15 ∧ σ165.1 218 20 = σ149.1 218 20 ∧ σ165.1 218 22 = σ149.1 218 22 ∧ σ165.1 218 23 = σ149.1 218 23 ∧ σ165.1 218 24 = σ149.1 218 24 ∧ σ165.1 218 25 = σ149.1 218 25) := hqv164
                have hkv164 := hqv164
                have hqv164 := hqv164.1
                have hK : TOK σ165.1 := by first | exact hqv164.1 | exact TOK_p eσ165 (by decide) hK
                try simp only [g7_σ149, g9_σ149, g10_σ149, g11_σ149, g12_σ149, g13_σ149, g20_σ149, g22_σ149, g23_σ149, g24_σ149, g25_σ149] at hqv164
                have g7_σ165 : σ165.1 218 7 = (σ0.1 218 7) := (hkv164.2.1).trans g7_σ149
                have g9_σ165 : σ165.1 218 9 = (σ0.1 218 9) := (hkv164.2.2.1).trans g9_σ149
                have g14_σ165 : σ165.1 218 14 = (σ149.1 218 14) := hkv164.2.2.2.1
                have g15_σ165 : σ165.1 218 15 = (σ149.1 218 15) := hkv164.2.2.2.2.1
                have g20_σ165 : σ165.1 218 20 = (σ0.1 218 20) := (hkv164.2.2.2.2.2.1).trans g20_σ149
                have g22_σ165 : σ165.1 218 22 = (σ0.1 218 22) := (hkv164.2.2.2.2.2.2.1).trans g22_σ149
                have g23_σ165 : σ165.1 218 23 = (σ0.1 218 23) := (hkv164.2.2.2.2.2.2.2.1).trans g23_σ149
                have g24_σ165 : σ165.1 218 24 = (σ0.1 218 24) := (hkv164.2.2.2.2.2.2.2.2.1).trans g24_σ149
                have g25_σ165 : σ165.1 218 25 = (σ0.1 218 25) := (hkv164.2.2.2.2.2.2.2.2.2).trans g25_σ149
                have m98 := hqv164.2
                exact ok_some ⟨hT, (show (TOK σ165.1 ∧ (σ0.1 218 11).toInt ≤ (σ165.1 218 11).toInt ∧ (σ165.1 218 14 = 0 → σ0.1 218 14 = 0) ∧ 0 ≤ (v160 - 97).toInt ∧ (v160 - 97).toInt ≤ 9) ∧ (σ165.1 218 7 = σ0.1 218 7 ∧ σ165.1 218 9 = σ0.1 218 9 ∧ σ165.1 218 20 = σ0.1 218 20 ∧ σ165.1 218 22 = σ0.1 218 22 ∧ σ165.1 218 23 = σ0.1 218 23 ∧ σ165.1 218 24 = σ0.1 218 24 ∧ σ165.1 218 25 = σ0.1 218 25) from ⟨by first | exact ⟨hK, by (try simp only [g7_σ165, g9_σ165, g14_σ165, g15_σ165, g20_σ165, g22_σ165, g23_σ165, g24_σ165, g25_σ165]); omega, fun q => absurd q (by (try simp only [g7_σ165, g9_σ165, g14_σ165, g15_σ165, g20_σ165, g22_σ165, g23_σ165, g24_σ165, g25_σ165]); exact n94), by first | decide | omega⟩ | exact ⟨hK, by (try simp only [g7_σ165, g9_σ165, g14_σ165, g15_σ165, g20_σ165, g22_σ165, g23_σ165, g24_σ165, g25_σ165]); omega, fun _ => y4, by first | decide | omega⟩ | exact absurd y94 n70 | exact absurd y94 n63 | exact absurd y94 n24 | exact absurd y94 n17 | exact absurd y94 n4 | exact absurd y70 n94, g7_σ165, g9_σ165, g20_σ165, g22_σ165, g23_σ165, g24_σ165, g25_σ165⟩)⟩
    · refine ok_gC rfl ?_
      refine ok_zbT (Q := fun V σ => (TOK σ.1 ∧ ¬ σ.1 218 14 = 0) ∧ (σ.1 218 7 = σ0.1 218 7 ∧ σ.1 218 9 = σ0.1 218 9 ∧ σ.1 218 10 = σ0.1 218 10 ∧ σ.1 218 11 = σ0.1 218 11 ∧ σ.1 218 12 = σ0.1 218 12 ∧ σ.1 218 13 = σ0.1 218 13 ∧ σ.1 218 20 = σ0.1 218 20 ∧ σ.1 218 22 = σ0.1 218 22 ∧ σ.1 218 23 = σ0.1 218 23 ∧ σ.1 218 24 = σ0.1 218 24 ∧ σ.1 218 25 = σ0.1 218 25)) hT (s_X12_errs hN (hR.tr hT) (hK) (by rw [hT.2 224 (by decide)]; exact hY) (by decide)) (by decide) (fun v166 σ167 hOσ167 hT hqv166 => ?_)
      have hqv166 : (TOK σ167.1 ∧ ¬ σ167.1 218 14 = 0) ∧ (σ167.1 218 7 = σ0.1 218 7 ∧ σ167.1 218 9 = σ0.1 218 9 ∧ σ167.1 218 10 = σ0.1 218 10 ∧ σ167.1 218 11 = σ0.1 218 11 ∧ σ167.1 218 12 = σ0.1 218 12 ∧ σ167.1 218 13 = σ0.1 218 13 ∧ σ167.1 218 20 = σ0.1 218 20 ∧ σ167.1 218 22 = σ0.1 218 22 ∧ σ167.1 218 23 = σ0.1 218 23 ∧ σ167.1 218 24 = σ0.1 218 24 ∧ σ167.1 218 25 = σ0.1 218 25) := hqv166
      have hkv166 := hqv166
      have hqv166 := hqv166.1
      have hK : TOK σ167.1 := by first | exact hqv166.1 | exact TOK_p eσ167 (by decide) hK
      have g7_σ167 : σ167.1 218 7 = (σ0.1 218 7) := hkv166.2.1
      have g9_σ167 : σ167.1 218 9 = (σ0.1 218 9) := hkv166.2.2.1
      have g10_σ167 : σ167.1 218 10 = (σ0.1 218 10) := hkv166.2.2.2.1
      have g11_σ167 : σ167.1 218 11 = (σ0.1 218 11) := hkv166.2.2.2.2.1
      have g12_σ167 : σ167.1 218 12 = (σ0.1 218 12) := hkv166.2.2.2.2.2.1
      have g13_σ167 : σ167.1 218 13 = (σ0.1 218 13) := hkv166.2.2.2.2.2.2.1
      have g20_σ167 : σ167.1 218 20 = (σ0.1 218 20) := hkv166.2.2.2.2.2.2.2.1
      have g22_σ167 : σ167.1 218 22 = (σ0.1 218 22) := hkv166.2.2.2.2.2.2.2.2.1
      have g23_σ167 : σ167.1 218 23 = (σ0.1 218 23) := hkv166.2.2.2.2.2.2.2.2.2.1
      have g24_σ167 : σ167.1 218 24 = (σ0.1 218 24) := hkv166.2.2.2.2.2.2.2.2.2.2.1
      have g25_σ167 : σ167.1 218 25 = (σ0.1 218 25) := hkv166.2.2.2.2.2.2.2.2.2.2.2
      have n17 := hqv166.2
      rw [J_X12_readsName_20.eq_1]
      refine ok_gC rfl ?_
      refine ok_zbX (Q := fun V => (V = 0 → ¬ σ167.1 218 14 = 0) ∧ (¬ V = 0 → σ167.1 218 14 = 0)) (x_X12_good) (fun v168 hqv168 => ?_)
      have hqv168 : (v168 = 0 → ¬ σ167.1 218 14 = 0) ∧ (¬ v168 = 0 → σ167.1 218 14 = 0) := hqv168
      try simp only [g7_σ167, g9_σ167, g10_σ167, g11_σ167, g12_σ167, g13_σ167, g20_σ167, g22_σ167, g23_σ167, g24_σ167, g25_σ167, hT.2 224 (by decide)] at hqv168
      refine ok_if (fun hc170 => ?_) (fun hc170 => ?_)
      · have qhc170 := hqv168.1 hc170
        have n24 := qhc170
        rw [J_X12_readsName_66.eq_1]
        refine ok_gC rfl ?_
        refine ok_zbX (Q := fun V => (V = 0 → ¬ σ167.1 218 14 = 0) ∧ (¬ V = 0 → σ167.1 218 14 = 0)) (x_X12_good) (fun v171 hqv171 => ?_)
        have hqv171 : (v171 = 0 → ¬ σ167.1 218 14 = 0) ∧ (¬ v171 = 0 → σ167.1 218 14 = 0) := hqv171
        try simp only [g7_σ167, g9_σ167, g10_σ167, g11_σ167, g12_σ167, g13_σ167, g20_σ167, g22_σ167, g23_σ167, g24_σ167, g25_σ167, hT.2 224 (by decide)] at hqv171
        refine ok_if (fun hc173 => ?_) (fun hc173 => ?_)
        · have qhc173 := hqv171.1 hc173
          have n70 := qhc173
          rw [J_X12_readsName_89.eq_1]
          refine ok_gC rfl ?_
          refine ok_zbX (Q := fun V => (V = 0 → ¬ σ167.1 218 14 = 0) ∧ (¬ V = 0 → σ167.1 218 14 = 0)) (x_X12_good) (fun v174 hqv174 => ?_)
          have hqv174 : (v174 = 0 → ¬ σ167.1 218 14 = 0) ∧ (¬ v174 = 0 → σ167.1 218 14 = 0) := hqv174
          try simp only [g7_σ167, g9_σ167, g10_σ167, g11_σ167, g12_σ167, g13_σ167, g20_σ167, g22_σ167, g23_σ167, g24_σ167, g25_σ167, hT.2 224 (by decide)] at hqv174
          refine ok_if (fun hc176 => ?_) (fun hc176 => ?_)
          · have qhc176 := hqv174.1 hc176
            have n94 := qhc176
            exact ok_some ⟨hT, (show (TOK σ167.1 ∧ (σ0.1 218 11).toInt ≤ (σ167.1 218 11).toInt ∧ (σ167.1 218 14 = 0 → σ0.1 218 14 = 0) ∧ 0 ≤ (0 : Int32).toInt ∧ (0 : Int32).toInt ≤ 9) ∧ (σ167.1 218 7 = σ0.1 218 7 ∧ σ167.1 218 9 = σ0.1 218 9 ∧ σ167.1 218 20 = σ0.1 218 20 ∧ σ167.1 218 22 = σ0.1 218 22 ∧ σ167.1 218 23 = σ0.1 218 23 ∧ σ167.1 218 24 = σ0.1 218 24 ∧ σ167.1 218 25 = σ0.1 218 25) from ⟨by first | exact ⟨hK, by (try simp only [g7_σ167, g9_σ167, g10_σ167, g11_σ167, g12_σ167, g13_σ167, g20_σ167, g22_σ167, g23_σ167, g24_σ167, g25_σ167]); omega, fun q => absurd q (by (try simp only [g7_σ167, g9_σ167, g10_σ167, g11_σ167, g12_σ167, g13_σ167, g20_σ167, g22_σ167, g23_σ167, g24_σ167, g25_σ167]); exact n94), by first | decide | omega⟩ | exact ⟨hK, by (try simp only [g7_σ167, g9_σ167, g10_σ167, g11_σ167, g12_σ167, g13_σ167, g20_σ167, g22_σ167, g23_σ167, g24_σ167, g25_σ167]); omega, fun _ => y4, by first | decide | omega⟩ | exact absurd y94 n70 | exact absurd y94 n63 | exact absurd y94 n24 | exact absurd y94 n17 | exact absurd y94 n4 | exact absurd y70 n94, g7_σ167, g9_σ167, g20_σ167, g22_σ167, g23_σ167, g24_σ167, g25_σ167⟩)⟩
          · have qhc176 := hqv174.2 hc176
            have y94 := qhc176
            refine ok_gC rfl ?_
            refine ok_zbT (Q := fun V σ => (TOK σ.1 ∧ (σ167.1 218 10).toInt ≤ (σ.1 218 11).toInt) ∧ (σ.1 218 7 = σ167.1 218 7 ∧ σ.1 218 9 = σ167.1 218 9 ∧ σ.1 218 14 = σ167.1 218 14 ∧ σ.1 218 15 = σ167.1 218 15 ∧ σ.1 218 20 = σ167.1 218 20 ∧ σ.1 218 22 = σ167.1 218 22 ∧ σ.1 218 23 = σ167.1 218 23 ∧ σ.1 218 24 = σ167.1 218 24 ∧ σ.1 218 25 = σ167.1 218 25)) hT (s_X12_advance hN (hR.tr hT) (TOK_A hK) (by rw [hT.2 224 (by decide)]; exact hY)) (by decide) (fun v177 σ178 hOσ178 hT hqv177 => ?_)
            have hqv177 : (TOK σ178.1 ∧ (σ167.1 218 10).toInt ≤ (σ178.1 218 11).toInt) ∧ (σ178.1 218 7 = σ167.1 218 7 ∧ σ178.1 218 9 = σ167.1 218 9 ∧ σ178.1 218 14 = σ167.1 218 14 ∧ σ178.1 218 15 = σ167.1 218 15 ∧ σ178.1 218 20 = σ167.1 218 20 ∧ σ178.1 218 22 = σ167.1 218 22 ∧ σ178.1 218 23 = σ167.1 218 23 ∧ σ178.1 218 24 = σ167.1 218 24 ∧ σ178.1 218 25 = σ167.1 218 25) := hqv177
            have hkv177 := hqv177
            have hqv177 := hqv177.1
            have hK : TOK σ178.1 := by first | exact hqv177.1 | exact TOK_p eσ178 (by decide) hK
            try simp only [g7_σ167, g9_σ167, g10_σ167, g11_σ167, g12_σ167, g13_σ167, g20_σ167, g22_σ167, g23_σ167, g24_σ167, g25_σ167] at hqv177
            have g7_σ178 : σ178.1 218 7 = (σ0.1 218 7) := (hkv177.2.1).trans g7_σ167
            have g9_σ178 : σ178.1 218 9 = (σ0.1 218 9) := (hkv177.2.2.1).trans g9_σ167
            have g14_σ178 : σ178.1 218 14 = (σ167.1 218 14) := hkv177.2.2.2.1
            have g15_σ178 : σ178.1 218 15 = (σ167.1 218 15) := hkv177.2.2.2.2.1
            have g20_σ178 : σ178.1 218 20 = (σ0.1 218 20) := (hkv177.2.2.2.2.2.1).trans g20_σ167
            have g22_σ178 : σ178.1 218 22 = (σ0.1 218 22) := (hkv177.2.2.2.2.2.2.1).trans g22_σ167
            have g23_σ178 : σ178.1 218 23 = (σ0.1 218 23) := (hkv177.2.2.2.2.2.2.2.1).trans g23_σ167
            have g24_σ178 : σ178.1 218 24 = (σ0.1 218 24) := (hkv177.2.2.2.2.2.2.2.2.1).trans g24_σ167
            have g25_σ178 : σ178.1 218 25 = (σ0.1 218 25) := (hkv177.2.2.2.2.2.2.2.2.2).trans g25_σ167
            have m98 := hqv177.2
            exact ok_some ⟨hT, (show (TOK σ178.1 ∧ (σ0.1 218 11).toInt ≤ (σ178.1 218 11).toInt ∧ (σ178.1 218 14 = 0 → σ0.1 218 14 = 0) ∧ 0 ≤ (0 : Int32).toInt ∧ (0 : Int32).toInt ≤ 9) ∧ (σ178.1 218 7 = σ0.1 218 7 ∧ σ178.1 218 9 = σ0.1 218 9 ∧ σ178.1 218 20 = σ0.1 218 20 ∧ σ178.1 218 22 = σ0.1 218 22 ∧ σ178.1 218 23 = σ0.1 218 23 ∧ σ178.1 218 24 = σ0.1 218 24 ∧ σ178.1 218 25 = σ0.1 218 25) from ⟨by first | exact ⟨hK, by (try simp only [g7_σ178, g9_σ178, g14_σ178, g15_σ178, g20_σ178, g22_σ178, g23_σ178, g24_σ178, g25_σ178]); omega, fun q => absurd q (by (try simp only [g7_σ178, g9_σ178, g14_σ178, g15_σ178, g20_σ178, g22_σ178, g23_σ178, g24_σ178, g25_σ178]); exact n94), by first | decide | omega⟩ | exact ⟨hK, by (try simp only [g7_σ178, g9_σ178, g14_σ178, g15_σ178, g20_σ178, g22_σ178, g23_σ178, g24_σ178, g25_σ178]); omega, fun _ => y4, by first | decide | omega⟩ | exact absurd y94 n70 | exact absurd y94 n63 | exact absurd y94 n24 | exact absurd y94 n17 | exact absurd y94 n4 | exact absurd y70 n94, g7_σ178, g9_σ178, g20_σ178, g22_σ178, g23_σ178, g24_σ178, g25_σ178⟩)⟩
        · have qhc173 := hqv171.2 hc173
          have y70 := qhc173
          refine ok_gR (v := 224) hT rfl (hR 218 6 rfl) ?_
          refine ok_gIv rfl g11_σ167 ?_
          refine ok_aIn rfl (by ((try simp only [g7_σ167, g9_σ167, g10_σ167, g11_σ167, g12_σ167, g13_σ167, g20_σ167, g22_σ167, g23_σ167, g24_σ167, g25_σ167])); first | omega | decide | (simp only [Int32.le_iff_toInt_le, Int32.lt_iff_toInt_lt, ti_add, ti_sub, ti_mul, Int32.reduceToInt] at *; omega)) (by first | omega | exact absurd y70 n63 | exact absurd y70 n24 | exact absurd y70 n17 | exact absurd y70 n4) (fun v181 ev181 => ?_)
          have ev81 := ev181
          rw [hT.2 224 (by decide)] at ev81
          have t81 : 97 ≤ v181.toInt ∧ v181.toInt ≤ 122 := by first | (rw [ev81]; exact w12 (σ0.1 218 11).toInt.toNat (by omega) (by omega)) | exact absurd y70 n63 | exact absurd y70 n24 | exact absurd y70 n17 | exact absurd y70 n4
          have s81 : (v181 - 97).toInt = v181.toInt - 97 := by rw [ti_sub]; simp only [Int32.reduceToInt]; omega
          have b81 : (v181 - 97).toInt ≤ 9 := by first | (rw [ev81.trans ev48.symm]; have h0 := hF.1.1; omega) | exact absurd y70 n63 | exact absurd y70 n24 | exact absurd y70 n17 | exact absurd y70 n4
          rw [J_X12_readsName_89.eq_1]
          refine ok_gC rfl ?_
          refine ok_zbX (Q := fun V => (V = 0 → ¬ σ167.1 218 14 = 0) ∧ (¬ V = 0 → σ167.1 218 14 = 0)) (x_X12_good) (fun v182 hqv182 => ?_)
          have hqv182 : (v182 = 0 → ¬ σ167.1 218 14 = 0) ∧ (¬ v182 = 0 → σ167.1 218 14 = 0) := hqv182
          try simp only [g7_σ167, g9_σ167, g10_σ167, g11_σ167, g12_σ167, g13_σ167, g20_σ167, g22_σ167, g23_σ167, g24_σ167, g25_σ167, hT.2 224 (by decide)] at hqv182
          refine ok_if (fun hc184 => ?_) (fun hc184 => ?_)
          · have qhc184 := hqv182.1 hc184
            have n94 := qhc184
            exact ok_some ⟨hT, (show (TOK σ167.1 ∧ (σ0.1 218 11).toInt ≤ (σ167.1 218 11).toInt ∧ (σ167.1 218 14 = 0 → σ0.1 218 14 = 0) ∧ 0 ≤ (v181 - 97).toInt ∧ (v181 - 97).toInt ≤ 9) ∧ (σ167.1 218 7 = σ0.1 218 7 ∧ σ167.1 218 9 = σ0.1 218 9 ∧ σ167.1 218 20 = σ0.1 218 20 ∧ σ167.1 218 22 = σ0.1 218 22 ∧ σ167.1 218 23 = σ0.1 218 23 ∧ σ167.1 218 24 = σ0.1 218 24 ∧ σ167.1 218 25 = σ0.1 218 25) from ⟨by first | exact ⟨hK, by (try simp only [g7_σ167, g9_σ167, g10_σ167, g11_σ167, g12_σ167, g13_σ167, g20_σ167, g22_σ167, g23_σ167, g24_σ167, g25_σ167]); omega, fun q => absurd q (by (try simp only [g7_σ167, g9_σ167, g10_σ167, g11_σ167, g12_σ167, g13_σ167, g20_σ167, g22_σ167, g23_σ167, g24_σ167, g25_σ167]); exact n94), by first | decide | omega⟩ | exact ⟨hK, by (try simp only [g7_σ167, g9_σ167, g10_σ167, g11_σ167, g12_σ167, g13_σ167, g20_σ167, g22_σ167, g23_σ167, g24_σ167, g25_σ167]); omega, fun _ => y4, by first | decide | omega⟩ | exact absurd y94 n70 | exact absurd y94 n63 | exact absurd y94 n24 | exact absurd y94 n17 | exact absurd y94 n4 | exact absurd y70 n94, g7_σ167, g9_σ167, g20_σ167, g22_σ167, g23_σ167, g24_σ167, g25_σ167⟩)⟩
          · have qhc184 := hqv182.2 hc184
            have y94 := qhc184
            refine ok_gC rfl ?_
            refine ok_zbT (Q := fun V σ => (TOK σ.1 ∧ (σ167.1 218 10).toInt ≤ (σ.1 218 11).toInt) ∧ (σ.1 218 7 = σ167.1 218 7 ∧ σ.1 218 9 = σ167.1 218 9 ∧ σ.1 218 14 = σ167.1 218 14 ∧ σ.1 218 15 = σ167.1 218 15 ∧ σ.1 218 20 = σ167.1 218 20 ∧ σ.1 218 22 = σ167.1 218 22 ∧ σ.1 218 23 = σ167.1 218 23 ∧ σ.1 218 24 = σ167.1 218 24 ∧ σ.1 218 25 = σ167.1 218 25)) hT (s_X12_advance hN (hR.tr hT) (TOK_A hK) (by rw [hT.2 224 (by decide)]; exact hY)) (by decide) (fun v185 σ186 hOσ186 hT hqv185 => ?_)
            have hqv185 : (TOK σ186.1 ∧ (σ167.1 218 10).toInt ≤ (σ186.1 218 11).toInt) ∧ (σ186.1 218 7 = σ167.1 218 7 ∧ σ186.1 218 9 = σ167.1 218 9 ∧ σ186.1 218 14 = σ167.1 218 14 ∧ σ186.1 218 15 = σ167.1 218 15 ∧ σ186.1 218 20 = σ167.1 218 20 ∧ σ186.1 218 22 = σ167.1 218 22 ∧ σ186.1 218 23 = σ167.1 218 23 ∧ σ186.1 218 24 = σ167.1 218 24 ∧ σ186.1 218 25 = σ167.1 218 25) := hqv185
            have hkv185 := hqv185
            have hqv185 := hqv185.1
            have hK : TOK σ186.1 := by first | exact hqv185.1 | exact TOK_p eσ186 (by decide) hK
            try simp only [g7_σ167, g9_σ167, g10_σ167, g11_σ167, g12_σ167, g13_σ167, g20_σ167, g22_σ167, g23_σ167, g24_σ167, g25_σ167] at hqv185
            have g7_σ186 : σ186.1 218 7 = (σ0.1 218 7) := (hkv185.2.1).trans g7_σ167
            have g9_σ186 : σ186.1 218 9 = (σ0.1 218 9) := (hkv185.2.2.1).trans g9_σ167
            have g14_σ186 : σ186.1 218 14 = (σ167.1 218 14) := hkv185.2.2.2.1
            have g15_σ186 : σ186.1 218 15 = (σ167.1 218 15) := hkv185.2.2.2.2.1
            have g20_σ186 : σ186.1 218 20 = (σ0.1 218 20) := (hkv185.2.2.2.2.2.1).trans g20_σ167
            have g22_σ186 : σ186.1 218 22 = (σ0.1 218 22) := (hkv185.2.2.2.2.2.2.1).trans g22_σ167
            have g23_σ186 : σ186.1 218 23 = (σ0.1 218 23) := (hkv185.2.2.2.2.2.2.2.1).trans g23_σ167
            have g24_σ186 : σ186.1 218 24 = (σ0.1 218 24) := (hkv185.2.2.2.2.2.2.2.2.1).trans g24_σ167
            have g25_σ186 : σ186.1 218 25 = (σ0.1 218 25) := (hkv185.2.2.2.2.2.2.2.2.2).trans g25_σ167
            have m98 := hqv185.2
            exact ok_some ⟨hT, (show (TOK σ186.1 ∧ (σ0.1 218 11).toInt ≤ (σ186.1 218 11).toInt ∧ (σ186.1 218 14 = 0 → σ0.1 218 14 = 0) ∧ 0 ≤ (v181 - 97).toInt ∧ (v181 - 97).toInt ≤ 9) ∧ (σ186.1 218 7 = σ0.1 218 7 ∧ σ186.1 218 9 = σ0.1 218 9 ∧ σ186.1 218 20 = σ0.1 218 20 ∧ σ186.1 218 22 = σ0.1 218 22 ∧ σ186.1 218 23 = σ0.1 218 23 ∧ σ186.1 218 24 = σ0.1 218 24 ∧ σ186.1 218 25 = σ0.1 218 25) from ⟨by first | exact ⟨hK, by (try simp only [g7_σ186, g9_σ186, g14_σ186, g15_σ186, g20_σ186, g22_σ186, g23_σ186, g24_σ186, g25_σ186]); omega, fun q => absurd q (by (try simp only [g7_σ186, g9_σ186, g14_σ186, g15_σ186, g20_σ186, g22_σ186, g23_σ186, g24_σ186, g25_σ186]); exact n94), by first | decide | omega⟩ | exact ⟨hK, by (try simp only [g7_σ186, g9_σ186, g14_σ186, g15_σ186, g20_σ186, g22_σ186, g23_σ186, g24_σ186, g25_σ186]); omega, fun _ => y4, by first | decide | omega⟩ | exact absurd y94 n70 | exact absurd y94 n63 | exact absurd y94 n24 | exact absurd y94 n17 | exact absurd y94 n4 | exact absurd y70 n94, g7_σ186, g9_σ186, g20_σ186, g22_σ186, g23_σ186, g24_σ186, g25_σ186⟩)⟩
      · have qhc170 := hqv168.2 hc170
        have y24 := qhc170
        refine ok_gIv rfl g10_σ167 ?_
        refine ok_gIv rfl g11_σ167 ?_
        refine ok_if (fun hc189 => ?_) (fun hc189 => ?_)
        · refine ok_gC rfl ?_
          refine ok_zbT (Q := fun V σ => (TOK σ.1 ∧ ¬ σ.1 218 14 = 0) ∧ (σ.1 218 7 = σ167.1 218 7 ∧ σ.1 218 9 = σ167.1 218 9 ∧ σ.1 218 10 = σ167.1 218 10 ∧ σ.1 218 11 = σ167.1 218 11 ∧ σ.1 218 12 = σ167.1 218 12 ∧ σ.1 218 13 = σ167.1 218 13 ∧ σ.1 218 20 = σ167.1 218 20 ∧ σ.1 218 22 = σ167.1 218 22 ∧ σ.1 218 23 = σ167.1 218 23 ∧ σ.1 218 24 = σ167.1 218 24 ∧ σ.1 218 25 = σ167.1 218 25)) hT (s_X12_errs hN (hR.tr hT) (hK) (by rw [hT.2 224 (by decide)]; exact hY) (by decide)) (by decide) (fun v190 σ191 hOσ191 hT hqv190 => ?_)
          have hqv190 : (TOK σ191.1 ∧ ¬ σ191.1 218 14 = 0) ∧ (σ191.1 218 7 = σ167.1 218 7 ∧ σ191.1 218 9 = σ167.1 218 9 ∧ σ191.1 218 10 = σ167.1 218 10 ∧ σ191.1 218 11 = σ167.1 218 11 ∧ σ191.1 218 12 = σ167.1 218 12 ∧ σ191.1 218 13 = σ167.1 218 13 ∧ σ191.1 218 20 = σ167.1 218 20 ∧ σ191.1 218 22 = σ167.1 218 22 ∧ σ191.1 218 23 = σ167.1 218 23 ∧ σ191.1 218 24 = σ167.1 218 24 ∧ σ191.1 218 25 = σ167.1 218 25) := hqv190
          have hkv190 := hqv190
          have hqv190 := hqv190.1
          have hK : TOK σ191.1 := by first | exact hqv190.1 | exact TOK_p eσ191 (by decide) hK
          try simp only [g7_σ167, g9_σ167, g10_σ167, g11_σ167, g12_σ167, g13_σ167, g20_σ167, g22_σ167, g23_σ167, g24_σ167, g25_σ167] at hqv190
          have g7_σ191 : σ191.1 218 7 = (σ0.1 218 7) := (hkv190.2.1).trans g7_σ167
          have g9_σ191 : σ191.1 218 9 = (σ0.1 218 9) := (hkv190.2.2.1).trans g9_σ167
          have g10_σ191 : σ191.1 218 10 = (σ0.1 218 10) := (hkv190.2.2.2.1).trans g10_σ167
          have g11_σ191 : σ191.1 218 11 = (σ0.1 218 11) := (hkv190.2.2.2.2.1).trans g11_σ167
          have g12_σ191 : σ191.1 218 12 = (σ0.1 218 12) := (hkv190.2.2.2.2.2.1).trans g12_σ167
          have g13_σ191 : σ191.1 218 13 = (σ0.1 218 13) := (hkv190.2.2.2.2.2.2.1).trans g13_σ167
          have g20_σ191 : σ191.1 218 20 = (σ0.1 218 20) := (hkv190.2.2.2.2.2.2.2.1).trans g20_σ167
          have g22_σ191 : σ191.1 218 22 = (σ0.1 218 22) := (hkv190.2.2.2.2.2.2.2.2.1).trans g22_σ167
          have g23_σ191 : σ191.1 218 23 = (σ0.1 218 23) := (hkv190.2.2.2.2.2.2.2.2.2.1).trans g23_σ167
          have g24_σ191 : σ191.1 218 24 = (σ0.1 218 24) := (hkv190.2.2.2.2.2.2.2.2.2.2.1).trans g24_σ167
          have g25_σ191 : σ191.1 218 25 = (σ0.1 218 25) := (hkv190.2.2.2.2.2.2.2.2.2.2.2).trans g25_σ167
          have n63 := hqv190.2
          rw [J_X12_readsName_66.eq_1]
          refine ok_gC rfl ?_
          refine ok_zbX (Q := fun V => (V = 0 → ¬ σ191.1 218 14 = 0) ∧ (¬ V = 0 → σ191.1 218 14 = 0)) (x_X12_good) (fun v192 hqv192 => ?_)
          have hqv192 : (v192 = 0 → ¬ σ191.1 218 14 = 0) ∧ (¬ v192 = 0 → σ191.1 218 14 = 0) := hqv192
          try simp only [g7_σ191, g9_σ191, g10_σ191, g11_σ191, g12_σ191, g13_σ191, g20_σ191, g22_σ191, g23_σ191, g24_σ191, g25_σ191, hT.2 224 (by decide)] at hqv192
          refine ok_if (fun hc194 => ?_) (fun hc194 => ?_)
          · have qhc194 := hqv192.1 hc194
            have n70 := qhc194
            rw [J_X12_readsName_89.eq_1]
            refine ok_gC rfl ?_
            refine ok_zbX (Q := fun V => (V = 0 → ¬ σ191.1 218 14 = 0) ∧ (¬ V = 0 → σ191.1 218 14 = 0)) (x_X12_good) (fun v195 hqv195 => ?_)
            have hqv195 : (v195 = 0 → ¬ σ191.1 218 14 = 0) ∧ (¬ v195 = 0 → σ191.1 218 14 = 0) := hqv195
            try simp only [g7_σ191, g9_σ191, g10_σ191, g11_σ191, g12_σ191, g13_σ191, g20_σ191, g22_σ191, g23_σ191, g24_σ191, g25_σ191, hT.2 224 (by decide)] at hqv195
            refine ok_if (fun hc197 => ?_) (fun hc197 => ?_)
            · have qhc197 := hqv195.1 hc197
              have n94 := qhc197
              exact ok_some ⟨hT, (show (TOK σ191.1 ∧ (σ0.1 218 11).toInt ≤ (σ191.1 218 11).toInt ∧ (σ191.1 218 14 = 0 → σ0.1 218 14 = 0) ∧ 0 ≤ (0 : Int32).toInt ∧ (0 : Int32).toInt ≤ 9) ∧ (σ191.1 218 7 = σ0.1 218 7 ∧ σ191.1 218 9 = σ0.1 218 9 ∧ σ191.1 218 20 = σ0.1 218 20 ∧ σ191.1 218 22 = σ0.1 218 22 ∧ σ191.1 218 23 = σ0.1 218 23 ∧ σ191.1 218 24 = σ0.1 218 24 ∧ σ191.1 218 25 = σ0.1 218 25) from ⟨by first | exact ⟨hK, by (try simp only [g7_σ191, g9_σ191, g10_σ191, g11_σ191, g12_σ191, g13_σ191, g20_σ191, g22_σ191, g23_σ191, g24_σ191, g25_σ191]); omega, fun q => absurd q (by (try simp only [g7_σ191, g9_σ191, g10_σ191, g11_σ191, g12_σ191, g13_σ191, g20_σ191, g22_σ191, g23_σ191, g24_σ191, g25_σ191]); exact n94), by first | decide | omega⟩ | exact ⟨hK, by (try simp only [g7_σ191, g9_σ191, g10_σ191, g11_σ191, g12_σ191, g13_σ191, g20_σ191, g22_σ191, g23_σ191, g24_σ191, g25_σ191]); omega, fun _ => y4, by first | decide | omega⟩ | exact absurd y94 n70 | exact absurd y94 n63 | exact absurd y94 n24 | exact absurd y94 n17 | exact absurd y94 n4 | exact absurd y70 n94, g7_σ191, g9_σ191, g20_σ191, g22_σ191, g23_σ191, g24_σ191, g25_σ191⟩)⟩
            · have qhc197 := hqv195.2 hc197
              have y94 := qhc197
              refine ok_gC rfl ?_
              refine ok_zbT (Q := fun V σ => (TOK σ.1 ∧ (σ191.1 218 10).toInt ≤ (σ.1 218 11).toInt) ∧ (σ.1 218 7 = σ191.1 218 7 ∧ σ.1 218 9 = σ191.1 218 9 ∧ σ.1 218 14 = σ191.1 218 14 ∧ σ.1 218 15 = σ191.1 218 15 ∧ σ.1 218 20 = σ191.1 218 20 ∧ σ.1 218 22 = σ191.1 218 22 ∧ σ.1 218 23 = σ191.1 218 23 ∧ σ.1 218 24 = σ191.1 218 24 ∧ σ.1 218 25 = σ191.1 218 25)) hT (s_X12_advance hN (hR.tr hT) (TOK_A hK) (by rw [hT.2 224 (by decide)]; exact hY)) (by decide) (fun v198 σ199 hOσ199 hT hqv198 => ?_)
              have hqv198 : (TOK σ199.1 ∧ (σ191.1 218 10).toInt ≤ (σ199.1 218 11).toInt) ∧ (σ199.1 218 7 = σ191.1 218 7 ∧ σ199.1 218 9 = σ191.1 218 9 ∧ σ199.1 218 14 = σ191.1 218 14 ∧ σ199.1 218 15 = σ191.1 218 15 ∧ σ199.1 218 20 = σ191.1 218 20 ∧ σ199.1 218 22 = σ191.1 218 22 ∧ σ199.1 218 23 = σ191.1 218 23 ∧ σ199.1 218 24 = σ191.1 218 24 ∧ σ199.1 218 25 = σ191.1 218 25) := hqv198
              have hkv198 := hqv198
              have hqv198 := hqv198.1
              have hK : TOK σ199.1 := by first | exact hqv198.1 | exact TOK_p eσ199 (by decide) hK
              try simp only [g7_σ191, g9_σ191, g10_σ191, g11_σ191, g12_σ191, g13_σ191, g20_σ191, g22_σ191, g23_σ191, g24_σ191, g25_σ191] at hqv198
              have g7_σ199 : σ199.1 218 7 = (σ0.1 218 7) := (hkv198.2.1).trans g7_σ191
              have g9_σ199 : σ199.1 218 9 = (σ0.1 218 9) := (hkv198.2.2.1).trans g9_σ191
              have g14_σ199 : σ199.1 218 14 = (σ191.1 218 14) := hkv198.2.2.2.1
              have g15_σ199 : σ199.1 218 15 = (σ191.1 218 15) := hkv198.2.2.2.2.1
              have g20_σ199 : σ199.1 218 20 = (σ0.1 218 20) := (hkv198.2.2.2.2.2.1).trans g20_σ191
              have g22_σ199 : σ199.1 218 22 = (σ0.1 218 22) := (hkv198.2.2.2.2.2.2.1).trans g22_σ191
              have g23_σ199 : σ199.1 218 23 = (σ0.1 218 23) := (hkv198.2.2.2.2.2.2.2.1).trans g23_σ191
              have g24_σ199 : σ199.1 218 24 = (σ0.1 218 24) := (hkv198.2.2.2.2.2.2.2.2.1).trans g24_σ191
              have g25_σ199 : σ199.1 218 25 = (σ0.1 218 25) := (hkv198.2.2.2.2.2.2.2.2.2).trans g25_σ191
              have m98 := hqv198.2
              exact ok_some ⟨hT, (show (TOK σ199.1 ∧ (σ0.1 218 11).toInt ≤ (σ199.1 218 11).toInt ∧ (σ199.1 218 14 = 0 → σ0.1 218 14 = 0) ∧ 0 ≤ (0 : Int32).toInt ∧ (0 : Int32).toInt ≤ 9) ∧ (σ199.1 218 7 = σ0.1 218 7 ∧ σ199.1 218 9 = σ0.1 218 9 ∧ σ199.1 218 20 = σ0.1 218 20 ∧ σ199.1 218 22 = σ0.1 218 22 ∧ σ199.1 218 23 = σ0.1 218 23 ∧ σ199.1 218 24 = σ0.1 218 24 ∧ σ199.1 218 25 = σ0.1 218 25) from ⟨by first | exact ⟨hK, by (try simp only [g7_σ199, g9_σ199, g14_σ199, g15_σ199, g20_σ199, g22_σ199, g23_σ199, g24_σ199, g25_σ199]); omega, fun q => absurd q (by (try simp only [g7_σ199, g9_σ199, g14_σ199, g15_σ199, g20_σ199, g22_σ199, g23_σ199, g24_σ199, g25_σ199]); exact n94), by first | decide | omega⟩ | exact ⟨hK, by (try simp only [g7_σ199, g9_σ199, g14_σ199, g15_σ199, g20_σ199, g22_σ199, g23_σ199, g24_σ199, g25_σ199]); omega, fun _ => y4, by first | decide | omega⟩ | exact absurd y94 n70 | exact absurd y94 n63 | exact absurd y94 n24 | exact absurd y94 n17 | exact absurd y94 n4 | exact absurd y70 n94, g7_σ199, g9_σ199, g20_σ199, g22_σ199, g23_σ199, g24_σ199, g25_σ199⟩)⟩
          · have qhc194 := hqv192.2 hc194
            have y70 := qhc194
            refine ok_gR (v := 224) hT rfl (hR 218 6 rfl) ?_
            refine ok_gIv rfl g11_σ191 ?_
            refine ok_aIn rfl (by ((try simp only [g7_σ191, g9_σ191, g10_σ191, g11_σ191, g12_σ191, g13_σ191, g20_σ191, g22_σ191, g23_σ191, g24_σ191, g25_σ191])); first | omega | decide | (simp only [Int32.le_iff_toInt_le, Int32.lt_iff_toInt_lt, ti_add, ti_sub, ti_mul, Int32.reduceToInt] at *; omega)) (by first | omega | exact absurd y70 n63 | exact absurd y70 n24 | exact absurd y70 n17 | exact absurd y70 n4) (fun v202 ev202 => ?_)
            have ev81 := ev202
            rw [hT.2 224 (by decide)] at ev81
            have t81 : 97 ≤ v202.toInt ∧ v202.toInt ≤ 122 := by first | (rw [ev81]; exact w12 (σ0.1 218 11).toInt.toNat (by omega) (by omega)) | exact absurd y70 n63 | exact absurd y70 n24 | exact absurd y70 n17 | exact absurd y70 n4
            have s81 : (v202 - 97).toInt = v202.toInt - 97 := by rw [ti_sub]; simp only [Int32.reduceToInt]; omega
            have b81 : (v202 - 97).toInt ≤ 9 := by first | (rw [ev81.trans ev48.symm]; have h0 := hF.1.1; omega) | exact absurd y70 n63 | exact absurd y70 n24 | exact absurd y70 n17 | exact absurd y70 n4
            rw [J_X12_readsName_89.eq_1]
            refine ok_gC rfl ?_
            refine ok_zbX (Q := fun V => (V = 0 → ¬ σ191.1 218 14 = 0) ∧ (¬ V = 0 → σ191.1 218 14 = 0)) (x_X12_good) (fun v203 hqv203 => ?_)
            have hqv203 : (v203 = 0 → ¬ σ191.1 218 14 = 0) ∧ (¬ v203 = 0 → σ191.1 218 14 = 0) := hqv203
            try simp only [g7_σ191, g9_σ191, g10_σ191, g11_σ191, g12_σ191, g13_σ191, g20_σ191, g22_σ191, g23_σ191, g24_σ191, g25_σ191, hT.2 224 (by decide)] at hqv203
            refine ok_if (fun hc205 => ?_) (fun hc205 => ?_)
            · have qhc205 := hqv203.1 hc205
              have n94 := qhc205
              exact ok_some ⟨hT, (show (TOK σ191.1 ∧ (σ0.1 218 11).toInt ≤ (σ191.1 218 11).toInt ∧ (σ191.1 218 14 = 0 → σ0.1 218 14 = 0) ∧ 0 ≤ (v202 - 97).toInt ∧ (v202 - 97).toInt ≤ 9) ∧ (σ191.1 218 7 = σ0.1 218 7 ∧ σ191.1 218 9 = σ0.1 218 9 ∧ σ191.1 218 20 = σ0.1 218 20 ∧ σ191.1 218 22 = σ0.1 218 22 ∧ σ191.1 218 23 = σ0.1 218 23 ∧ σ191.1 218 24 = σ0.1 218 24 ∧ σ191.1 218 25 = σ0.1 218 25) from ⟨by first | exact ⟨hK, by (try simp only [g7_σ191, g9_σ191, g10_σ191, g11_σ191, g12_σ191, g13_σ191, g20_σ191, g22_σ191, g23_σ191, g24_σ191, g25_σ191]); omega, fun q => absurd q (by (try simp only [g7_σ191, g9_σ191, g10_σ191, g11_σ191, g12_σ191, g13_σ191, g20_σ191, g22_σ191, g23_σ191, g24_σ191, g25_σ191]); exact n94), by first | decide | omega⟩ | exact ⟨hK, by (try simp only [g7_σ191, g9_σ191, g10_σ191, g11_σ191, g12_σ191, g13_σ191, g20_σ191, g22_σ191, g23_σ191, g24_σ191, g25_σ191]); omega, fun _ => y4, by first | decide | omega⟩ | exact absurd y94 n70 | exact absurd y94 n63 | exact absurd y94 n24 | exact absurd y94 n17 | exact absurd y94 n4 | exact absurd y70 n94, g7_σ191, g9_σ191, g20_σ191, g22_σ191, g23_σ191, g24_σ191, g25_σ191⟩)⟩
            · have qhc205 := hqv203.2 hc205
              have y94 := qhc205
              refine ok_gC rfl ?_
              refine ok_zbT (Q := fun V σ => (TOK σ.1 ∧ (σ191.1 218 10).toInt ≤ (σ.1 218 11).toInt) ∧ (σ.1 218 7 = σ191.1 218 7 ∧ σ.1 218 9 = σ191.1 218 9 ∧ σ.1 218 14 = σ191.1 218 14 ∧ σ.1 218 15 = σ191.1 218 15 ∧ σ.1 218 20 = σ191.1 218 20 ∧ σ.1 218 22 = σ191.1 218 22 ∧ σ.1 218 23 = σ191.1 218 23 ∧ σ.1 218 24 = σ191.1 218 24 ∧ σ.1 218 25 = σ191.1 218 25)) hT (s_X12_advance hN (hR.tr hT) (TOK_A hK) (by rw [hT.2 224 (by decide)]; exact hY)) (by decide) (fun v206 σ207 hOσ207 hT hqv206 => ?_)
              have hqv206 : (TOK σ207.1 ∧ (σ191.1 218 10).toInt ≤ (σ207.1 218 11).toInt) ∧ (σ207.1 218 7 = σ191.1 218 7 ∧ σ207.1 218 9 = σ191.1 218 9 ∧ σ207.1 218 14 = σ191.1 218 14 ∧ σ207.1 218 15 = σ191.1 218 15 ∧ σ207.1 218 20 = σ191.1 218 20 ∧ σ207.1 218 22 = σ191.1 218 22 ∧ σ207.1 218 23 = σ191.1 218 23 ∧ σ207.1 218 24 = σ191.1 218 24 ∧ σ207.1 218 25 = σ191.1 218 25) := hqv206
              have hkv206 := hqv206
              have hqv206 := hqv206.1
              have hK : TOK σ207.1 := by first | exact hqv206.1 | exact TOK_p eσ207 (by decide) hK
              try simp only [g7_σ191, g9_σ191, g10_σ191, g11_σ191, g12_σ191, g13_σ191, g20_σ191, g22_σ191, g23_σ191, g24_σ191, g25_σ191] at hqv206
              have g7_σ207 : σ207.1 218 7 = (σ0.1 218 7) := (hkv206.2.1).trans g7_σ191
              have g9_σ207 : σ207.1 218 9 = (σ0.1 218 9) := (hkv206.2.2.1).trans g9_σ191
              have g14_σ207 : σ207.1 218 14 = (σ191.1 218 14) := hkv206.2.2.2.1
              have g15_σ207 : σ207.1 218 15 = (σ191.1 218 15) := hkv206.2.2.2.2.1
              have g20_σ207 : σ207.1 218 20 = (σ0.1 218 20) := (hkv206.2.2.2.2.2.1).trans g20_σ191
              have g22_σ207 : σ207.1 218 22 = (σ0.1 218 22) := (hkv206.2.2.2.2.2.2.1).trans g22_σ191
              have g23_σ207 : σ207.1 218 23 = (σ0.1 218 23) := (hkv206.2.2.2.2.2.2.2.1).trans g23_σ191
              have g24_σ207 : σ207.1 218 24 = (σ0.1 218 24) := (hkv206.2.2.2.2.2.2.2.2.1).trans g24_σ191
              have g25_σ207 : σ207.1 218 25 = (σ0.1 218 25) := (hkv206.2.2.2.2.2.2.2.2.2).trans g25_σ191
              have m98 := hqv206.2
              exact ok_some ⟨hT, (show (TOK σ207.1 ∧ (σ0.1 218 11).toInt ≤ (σ207.1 218 11).toInt ∧ (σ207.1 218 14 = 0 → σ0.1 218 14 = 0) ∧ 0 ≤ (v202 - 97).toInt ∧ (v202 - 97).toInt ≤ 9) ∧ (σ207.1 218 7 = σ0.1 218 7 ∧ σ207.1 218 9 = σ0.1 218 9 ∧ σ207.1 218 20 = σ0.1 218 20 ∧ σ207.1 218 22 = σ0.1 218 22 ∧ σ207.1 218 23 = σ0.1 218 23 ∧ σ207.1 218 24 = σ0.1 218 24 ∧ σ207.1 218 25 = σ0.1 218 25) from ⟨by first | exact ⟨hK, by (try simp only [g7_σ207, g9_σ207, g14_σ207, g15_σ207, g20_σ207, g22_σ207, g23_σ207, g24_σ207, g25_σ207]); omega, fun q => absurd q (by (try simp only [g7_σ207, g9_σ207, g14_σ207, g15_σ207, g20_σ207, g22_σ207, g23_σ207, g24_σ207, g25_σ207]); exact n94), by first | decide | omega⟩ | exact ⟨hK, by (try simp only [g7_σ207, g9_σ207, g14_σ207, g15_σ207, g20_σ207, g22_σ207, g23_σ207, g24_σ207, g25_σ207]); omega, fun _ => y4, by first | decide | omega⟩ | exact absurd y94 n70 | exact absurd y94 n63 | exact absurd y94 n24 | exact absurd y94 n17 | exact absurd y94 n4 | exact absurd y70 n94, g7_σ207, g9_σ207, g20_σ207, g22_σ207, g23_σ207, g24_σ207, g25_σ207⟩)⟩
        · refine ok_gR (v := 224) hT rfl (hR 218 6 rfl) ?_
          refine ok_gIv rfl g11_σ167 ?_
          refine ok_aIn rfl (by ((try simp only [g7_σ167, g9_σ167, g10_σ167, g11_σ167, g12_σ167, g13_σ167, g20_σ167, g22_σ167, g23_σ167, g24_σ167, g25_σ167])); first | omega | decide | (simp only [Int32.le_iff_toInt_le, Int32.lt_iff_toInt_lt, ti_add, ti_sub, ti_mul, Int32.reduceToInt] at *; omega)) (by first | omega | exact absurd y24 n4 | exact absurd y24 n17) (fun v210 ev210 => ?_)
          have ev48 := ev210
          rw [hT.2 224 (by decide)] at ev48
          refine ok_gR (v := 231) hT rfl (hR 218 26 rfl) ?_
          refine ok_aIc (j := 0) hT rfl (by decide) rfl (by decide) (by decide) ?_
          refine ok_if (fun hc213 => ?_) (fun hc213 => ?_)
          · have l58 := hc213
            rw [Int32.lt_iff_toInt_lt] at l58
            rw [J_X12_readsName_66.eq_1]
            refine ok_gC rfl ?_
            refine ok_zbX (Q := fun V => (V = 0 → ¬ σ167.1 218 14 = 0) ∧ (¬ V = 0 → σ167.1 218 14 = 0)) (x_X12_good) (fun v214 hqv214 => ?_)
            have hqv214 : (v214 = 0 → ¬ σ167.1 218 14 = 0) ∧ (¬ v214 = 0 → σ167.1 218 14 = 0) := hqv214
            try simp only [g7_σ167, g9_σ167, g10_σ167, g11_σ167, g12_σ167, g13_σ167, g20_σ167, g22_σ167, g23_σ167, g24_σ167, g25_σ167, hT.2 224 (by decide)] at hqv214
            refine ok_if (fun hc216 => ?_) (fun hc216 => ?_)
            · have qhc216 := hqv214.1 hc216
              have n70 := qhc216
              rw [J_X12_readsName_89.eq_1]
              refine ok_gC rfl ?_
              refine ok_zbX (Q := fun V => (V = 0 → ¬ σ167.1 218 14 = 0) ∧ (¬ V = 0 → σ167.1 218 14 = 0)) (x_X12_good) (fun v217 hqv217 => ?_)
              have hqv217 : (v217 = 0 → ¬ σ167.1 218 14 = 0) ∧ (¬ v217 = 0 → σ167.1 218 14 = 0) := hqv217
              try simp only [g7_σ167, g9_σ167, g10_σ167, g11_σ167, g12_σ167, g13_σ167, g20_σ167, g22_σ167, g23_σ167, g24_σ167, g25_σ167, hT.2 224 (by decide)] at hqv217
              refine ok_if (fun hc219 => ?_) (fun hc219 => ?_)
              · have qhc219 := hqv217.1 hc219
                have n94 := qhc219
                exact ok_some ⟨hT, (show (TOK σ167.1 ∧ (σ0.1 218 11).toInt ≤ (σ167.1 218 11).toInt ∧ (σ167.1 218 14 = 0 → σ0.1 218 14 = 0) ∧ 0 ≤ (0 : Int32).toInt ∧ (0 : Int32).toInt ≤ 9) ∧ (σ167.1 218 7 = σ0.1 218 7 ∧ σ167.1 218 9 = σ0.1 218 9 ∧ σ167.1 218 20 = σ0.1 218 20 ∧ σ167.1 218 22 = σ0.1 218 22 ∧ σ167.1 218 23 = σ0.1 218 23 ∧ σ167.1 218 24 = σ0.1 218 24 ∧ σ167.1 218 25 = σ0.1 218 25) from ⟨by first | exact ⟨hK, by (try simp only [g7_σ167, g9_σ167, g10_σ167, g11_σ167, g12_σ167, g13_σ167, g20_σ167, g22_σ167, g23_σ167, g24_σ167, g25_σ167]); omega, fun q => absurd q (by (try simp only [g7_σ167, g9_σ167, g10_σ167, g11_σ167, g12_σ167, g13_σ167, g20_σ167, g22_σ167, g23_σ167, g24_σ167, g25_σ167]); exact n94), by first | decide | omega⟩ | exact ⟨hK, by (try simp only [g7_σ167, g9_σ167, g10_σ167, g11_σ167, g12_σ167, g13_σ167, g20_σ167, g22_σ167, g23_σ167, g24_σ167, g25_σ167]); omega, fun _ => y4, by first | decide | omega⟩ | exact absurd y94 n70 | exact absurd y94 n63 | exact absurd y94 n24 | exact absurd y94 n17 | exact absurd y94 n4 | exact absurd y70 n94, g7_σ167, g9_σ167, g20_σ167, g22_σ167, g23_σ167, g24_σ167, g25_σ167⟩)⟩
              · have qhc219 := hqv217.2 hc219
                have y94 := qhc219
                refine ok_gC rfl ?_
                refine ok_zbT (Q := fun V σ => (TOK σ.1 ∧ (σ167.1 218 10).toInt ≤ (σ.1 218 11).toInt) ∧ (σ.1 218 7 = σ167.1 218 7 ∧ σ.1 218 9 = σ167.1 218 9 ∧ σ.1 218 14 = σ167.1 218 14 ∧ σ.1 218 15 = σ167.1 218 15 ∧ σ.1 218 20 = σ167.1 218 20 ∧ σ.1 218 22 = σ167.1 218 22 ∧ σ.1 218 23 = σ167.1 218 23 ∧ σ.1 218 24 = σ167.1 218 24 ∧ σ.1 218 25 = σ167.1 218 25)) hT (s_X12_advance hN (hR.tr hT) (TOK_A hK) (by rw [hT.2 224 (by decide)]; exact hY)) (by decide) (fun v220 σ221 hOσ221 hT hqv220 => ?_)
                have hqv220 : (TOK σ221.1 ∧ (σ167.1 218 10).toInt ≤ (σ221.1 218 11).toInt) ∧ (σ221.1 218 7 = σ167.1 218 7 ∧ σ221.1 218 9 = σ167.1 218 9 ∧ σ221.1 218 14 = σ167.1 218 14 ∧ σ221.1 218 15 = σ167.1 218 15 ∧ σ221.1 218 20 = σ167.1 218 20 ∧ σ221.1 218 22 = σ167.1 218 22 ∧ σ221.1 218 23 = σ167.1 218 23 ∧ σ221.1 218 24 = σ167.1 218 24 ∧ σ221.1 218 25 = σ167.1 218 25) := hqv220
                have hkv220 := hqv220
                have hqv220 := hqv220.1
                have hK : TOK σ221.1 := by first | exact hqv220.1 | exact TOK_p eσ221 (by decide) hK
                try simp only [g7_σ167, g9_σ167, g10_σ167, g11_σ167, g12_σ167, g13_σ167, g20_σ167, g22_σ167, g23_σ167, g24_σ167, g25_σ167] at hqv220
                have g7_σ221 : σ221.1 218 7 = (σ0.1 218 7) := (hkv220.2.1).trans g7_σ167
                have g9_σ221 : σ221.1 218 9 = (σ0.1 218 9) := (hkv220.2.2.1).trans g9_σ167
                have g14_σ221 : σ221.1 218 14 = (σ167.1 218 14) := hkv220.2.2.2.1
                have g15_σ221 : σ221.1 218 15 = (σ167.1 218 15) := hkv220.2.2.2.2.1
                have g20_σ221 : σ221.1 218 20 = (σ0.1 218 20) := (hkv220.2.2.2.2.2.1).trans g20_σ167
                have g22_σ221 : σ221.1 218 22 = (σ0.1 218 22) := (hkv220.2.2.2.2.2.2.1).trans g22_σ167
                have g23_σ221 : σ221.1 218 23 = (σ0.1 218 23) := (hkv220.2.2.2.2.2.2.2.1).trans g23_σ167
                have g24_σ221 : σ221.1 218 24 = (σ0.1 218 24) := (hkv220.2.2.2.2.2.2.2.2.1).trans g24_σ167
                have g25_σ221 : σ221.1 218 25 = (σ0.1 218 25) := (hkv220.2.2.2.2.2.2.2.2.2).trans g25_σ167
                have m98 := hqv220.2
                exact ok_some ⟨hT, (show (TOK σ221.1 ∧ (σ0.1 218 11).toInt ≤ (σ221.1 218 11).toInt ∧ (σ221.1 218 14 = 0 → σ0.1 218 14 = 0) ∧ 0 ≤ (0 : Int32).toInt ∧ (0 : Int32).toInt ≤ 9) ∧ (σ221.1 218 7 = σ0.1 218 7 ∧ σ221.1 218 9 = σ0.1 218 9 ∧ σ221.1 218 20 = σ0.1 218 20 ∧ σ221.1 218 22 = σ0.1 218 22 ∧ σ221.1 218 23 = σ0.1 218 23 ∧ σ221.1 218 24 = σ0.1 218 24 ∧ σ221.1 218 25 = σ0.1 218 25) from ⟨by first | exact ⟨hK, by (try simp only [g7_σ221, g9_σ221, g14_σ221, g15_σ221, g20_σ221, g22_σ221, g23_σ221, g24_σ221, g25_σ221]); omega, fun q => absurd q (by (try simp only [g7_σ221, g9_σ221, g14_σ221, g15_σ221, g20_σ221, g22_σ221, g23_σ221, g24_σ221, g25_σ221]); exact n94), by first | decide | omega⟩ | exact ⟨hK, by (try simp only [g7_σ221, g9_σ221, g14_σ221, g15_σ221, g20_σ221, g22_σ221, g23_σ221, g24_σ221, g25_σ221]); omega, fun _ => y4, by first | decide | omega⟩ | exact absurd y94 n70 | exact absurd y94 n63 | exact absurd y94 n24 | exact absurd y94 n17 | exact absurd y94 n4 | exact absurd y70 n94, g7_σ221, g9_σ221, g20_σ221, g22_σ221, g23_σ221, g24_σ221, g25_σ221⟩)⟩
            · have qhc216 := hqv214.2 hc216
              have y70 := qhc216
              refine ok_gR (v := 224) hT rfl (hR 218 6 rfl) ?_
              refine ok_gIv rfl g11_σ167 ?_
              refine ok_aIn rfl (by ((try simp only [g7_σ167, g9_σ167, g10_σ167, g11_σ167, g12_σ167, g13_σ167, g20_σ167, g22_σ167, g23_σ167, g24_σ167, g25_σ167])); first | omega | decide | (simp only [Int32.le_iff_toInt_le, Int32.lt_iff_toInt_lt, ti_add, ti_sub, ti_mul, Int32.reduceToInt] at *; omega)) (by first | omega | exact absurd y70 n63 | exact absurd y70 n24 | exact absurd y70 n17 | exact absurd y70 n4) (fun v224 ev224 => ?_)
              have ev81 := ev224
              rw [hT.2 224 (by decide)] at ev81
              have t81 : 97 ≤ v224.toInt ∧ v224.toInt ≤ 122 := by first | (rw [ev81]; exact w12 (σ0.1 218 11).toInt.toNat (by omega) (by omega)) | exact absurd y70 n63 | exact absurd y70 n24 | exact absurd y70 n17 | exact absurd y70 n4
              have s81 : (v224 - 97).toInt = v224.toInt - 97 := by rw [ti_sub]; simp only [Int32.reduceToInt]; omega
              have b81 : (v224 - 97).toInt ≤ 9 := by first | (rw [ev81.trans ev48.symm]; have h0 := hF.1.1; omega) | exact absurd y70 n63 | exact absurd y70 n24 | exact absurd y70 n17 | exact absurd y70 n4
              rw [J_X12_readsName_89.eq_1]
              refine ok_gC rfl ?_
              refine ok_zbX (Q := fun V => (V = 0 → ¬ σ167.1 218 14 = 0) ∧ (¬ V = 0 → σ167.1 218 14 = 0)) (x_X12_good) (fun v225 hqv225 => ?_)
              have hqv225 : (v225 = 0 → ¬ σ167.1 218 14 = 0) ∧ (¬ v225 = 0 → σ167.1 218 14 = 0) := hqv225
              try simp only [g7_σ167, g9_σ167, g10_σ167, g11_σ167, g12_σ167, g13_σ167, g20_σ167, g22_σ167, g23_σ167, g24_σ167, g25_σ167, hT.2 224 (by decide)] at hqv225
              refine ok_if (fun hc227 => ?_) (fun hc227 => ?_)
              · have qhc227 := hqv225.1 hc227
                have n94 := qhc227
                exact ok_some ⟨hT, (show (TOK σ167.1 ∧ (σ0.1 218 11).toInt ≤ (σ167.1 218 11).toInt ∧ (σ167.1 218 14 = 0 → σ0.1 218 14 = 0) ∧ 0 ≤ (v224 - 97).toInt ∧ (v224 - 97).toInt ≤ 9) ∧ (σ167.1 218 7 = σ0.1 218 7 ∧ σ167.1 218 9 = σ0.1 218 9 ∧ σ167.1 218 20 = σ0.1 218 20 ∧ σ167.1 218 22 = σ0.1 218 22 ∧ σ167.1 218 23 = σ0.1 218 23 ∧ σ167.1 218 24 = σ0.1 218 24 ∧ σ167.1 218 25 = σ0.1 218 25) from ⟨by first | exact ⟨hK, by (try simp only [g7_σ167, g9_σ167, g10_σ167, g11_σ167, g12_σ167, g13_σ167, g20_σ167, g22_σ167, g23_σ167, g24_σ167, g25_σ167]); omega, fun q => absurd q (by (try simp only [g7_σ167, g9_σ167, g10_σ167, g11_σ167, g12_σ167, g13_σ167, g20_σ167, g22_σ167, g23_σ167, g24_σ167, g25_σ167]); exact n94), by first | decide | omega⟩ | exact ⟨hK, by (try simp only [g7_σ167, g9_σ167, g10_σ167, g11_σ167, g12_σ167, g13_σ167, g20_σ167, g22_σ167, g23_σ167, g24_σ167, g25_σ167]); omega, fun _ => y4, by first | decide | omega⟩ | exact absurd y94 n70 | exact absurd y94 n63 | exact absurd y94 n24 | exact absurd y94 n17 | exact absurd y94 n4 | exact absurd y70 n94, g7_σ167, g9_σ167, g20_σ167, g22_σ167, g23_σ167, g24_σ167, g25_σ167⟩)⟩
              · have qhc227 := hqv225.2 hc227
                have y94 := qhc227
                refine ok_gC rfl ?_
                refine ok_zbT (Q := fun V σ => (TOK σ.1 ∧ (σ167.1 218 10).toInt ≤ (σ.1 218 11).toInt) ∧ (σ.1 218 7 = σ167.1 218 7 ∧ σ.1 218 9 = σ167.1 218 9 ∧ σ.1 218 14 = σ167.1 218 14 ∧ σ.1 218 15 = σ167.1 218 15 ∧ σ.1 218 20 = σ167.1 218 20 ∧ σ.1 218 22 = σ167.1 218 22 ∧ σ.1 218 23 = σ167.1 218 23 ∧ σ.1 218 24 = σ167.1 218 24 ∧ σ.1 218 25 = σ167.1 218 25)) hT (s_X12_advance hN (hR.tr hT) (TOK_A hK) (by rw [hT.2 224 (by decide)]; exact hY)) (by decide) (fun v228 σ229 hOσ229 hT hqv228 => ?_)
                have hqv228 : (TOK σ229.1 ∧ (σ167.1 218 10).toInt ≤ (σ229.1 218 11).toInt) ∧ (σ229.1 218 7 = σ167.1 218 7 ∧ σ229.1 218 9 = σ167.1 218 9 ∧ σ229.1 218 14 = σ167.1 218 14 ∧ σ229.1 218 15 = σ167.1 218 15 ∧ σ229.1 218 20 = σ167.1 218 20 ∧ σ229.1 218 22 = σ167.1 218 22 ∧ σ229.1 218 23 = σ167.1 218 23 ∧ σ229.1 218 24 = σ167.1 218 24 ∧ σ229.1 218 25 = σ167.1 218 25) := hqv228
                have hkv228 := hqv228
                have hqv228 := hqv228.1
                have hK : TOK σ229.1 := by first | exact hqv228.1 | exact TOK_p eσ229 (by decide) hK
                try simp only [g7_σ167, g9_σ167, g10_σ167, g11_σ167, g12_σ167, g13_σ167, g20_σ167, g22_σ167, g23_σ167, g24_σ167, g25_σ167] at hqv228
                have g7_σ229 : σ229.1 218 7 = (σ0.1 218 7) := (hkv228.2.1).trans g7_σ167
                have g9_σ229 : σ229.1 218 9 = (σ0.1 218 9) := (hkv228.2.2.1).trans g9_σ167
                have g14_σ229 : σ229.1 218 14 = (σ167.1 218 14) := hkv228.2.2.2.1
                have g15_σ229 : σ229.1 218 15 = (σ167.1 218 15) := hkv228.2.2.2.2.1
                have g20_σ229 : σ229.1 218 20 = (σ0.1 218 20) := (hkv228.2.2.2.2.2.1).trans g20_σ167
                have g22_σ229 : σ229.1 218 22 = (σ0.1 218 22) := (hkv228.2.2.2.2.2.2.1).trans g22_σ167
                have g23_σ229 : σ229.1 218 23 = (σ0.1 218 23) := (hkv228.2.2.2.2.2.2.2.1).trans g23_σ167
                have g24_σ229 : σ229.1 218 24 = (σ0.1 218 24) := (hkv228.2.2.2.2.2.2.2.2.1).trans g24_σ167
                have g25_σ229 : σ229.1 218 25 = (σ0.1 218 25) := (hkv228.2.2.2.2.2.2.2.2.2).trans g25_σ167
                have m98 := hqv228.2
                exact ok_some ⟨hT, (show (TOK σ229.1 ∧ (σ0.1 218 11).toInt ≤ (σ229.1 218 11).toInt ∧ (σ229.1 218 14 = 0 → σ0.1 218 14 = 0) ∧ 0 ≤ (v224 - 97).toInt ∧ (v224 - 97).toInt ≤ 9) ∧ (σ229.1 218 7 = σ0.1 218 7 ∧ σ229.1 218 9 = σ0.1 218 9 ∧ σ229.1 218 20 = σ0.1 218 20 ∧ σ229.1 218 22 = σ0.1 218 22 ∧ σ229.1 218 23 = σ0.1 218 23 ∧ σ229.1 218 24 = σ0.1 218 24 ∧ σ229.1 218 25 = σ0.1 218 25) from ⟨by first | exact ⟨hK, by (try simp only [g7_σ229, g9_σ229, g14_σ229, g15_σ229, g20_σ229, g22_σ229, g23_σ229, g24_σ229, g25_σ229]); omega, fun q => absurd q (by (try simp only [g7_σ229, g9_σ229, g14_σ229, g15_σ229, g20_σ229, g22_σ229, g23_σ229, g24_σ229, g25_σ229]); exact n94), by first | decide | omega⟩ | exact ⟨hK, by (try simp only [g7_σ229, g9_σ229, g14_σ229, g15_σ229, g20_σ229, g22_σ229, g23_σ229, g24_σ229, g25_σ229]); omega, fun _ => y4, by first | decide | omega⟩ | exact absurd y94 n70 | exact absurd y94 n63 | exact absurd y94 n24 | exact absurd y94 n17 | exact absurd y94 n4 | exact absurd y70 n94, g7_σ229, g9_σ229, g20_σ229, g22_σ229, g23_σ229, g24_σ229, g25_σ229⟩)⟩
          · refine ok_gC rfl ?_
            refine ok_zbT (Q := fun V σ => (TOK σ.1 ∧ ¬ σ.1 218 14 = 0) ∧ (σ.1 218 7 = σ167.1 218 7 ∧ σ.1 218 9 = σ167.1 218 9 ∧ σ.1 218 10 = σ167.1 218 10 ∧ σ.1 218 11 = σ167.1 218 11 ∧ σ.1 218 12 = σ167.1 218 12 ∧ σ.1 218 13 = σ167.1 218 13 ∧ σ.1 218 20 = σ167.1 218 20 ∧ σ.1 218 22 = σ167.1 218 22 ∧ σ.1 218 23 = σ167.1 218 23 ∧ σ.1 218 24 = σ167.1 218 24 ∧ σ.1 218 25 = σ167.1 218 25)) hT (s_X12_errs hN (hR.tr hT) (hK) (by rw [hT.2 224 (by decide)]; exact hY) (by decide)) (by decide) (fun v230 σ231 hOσ231 hT hqv230 => ?_)
            have hqv230 : (TOK σ231.1 ∧ ¬ σ231.1 218 14 = 0) ∧ (σ231.1 218 7 = σ167.1 218 7 ∧ σ231.1 218 9 = σ167.1 218 9 ∧ σ231.1 218 10 = σ167.1 218 10 ∧ σ231.1 218 11 = σ167.1 218 11 ∧ σ231.1 218 12 = σ167.1 218 12 ∧ σ231.1 218 13 = σ167.1 218 13 ∧ σ231.1 218 20 = σ167.1 218 20 ∧ σ231.1 218 22 = σ167.1 218 22 ∧ σ231.1 218 23 = σ167.1 218 23 ∧ σ231.1 218 24 = σ167.1 218 24 ∧ σ231.1 218 25 = σ167.1 218 25) := hqv230
            have hkv230 := hqv230
            have hqv230 := hqv230.1
            have hK : TOK σ231.1 := by first | exact hqv230.1 | exact TOK_p eσ231 (by decide) hK
            try simp only [g7_σ167, g9_σ167, g10_σ167, g11_σ167, g12_σ167, g13_σ167, g20_σ167, g22_σ167, g23_σ167, g24_σ167, g25_σ167] at hqv230
            have g7_σ231 : σ231.1 218 7 = (σ0.1 218 7) := (hkv230.2.1).trans g7_σ167
            have g9_σ231 : σ231.1 218 9 = (σ0.1 218 9) := (hkv230.2.2.1).trans g9_σ167
            have g10_σ231 : σ231.1 218 10 = (σ0.1 218 10) := (hkv230.2.2.2.1).trans g10_σ167
            have g11_σ231 : σ231.1 218 11 = (σ0.1 218 11) := (hkv230.2.2.2.2.1).trans g11_σ167
            have g12_σ231 : σ231.1 218 12 = (σ0.1 218 12) := (hkv230.2.2.2.2.2.1).trans g12_σ167
            have g13_σ231 : σ231.1 218 13 = (σ0.1 218 13) := (hkv230.2.2.2.2.2.2.1).trans g13_σ167
            have g20_σ231 : σ231.1 218 20 = (σ0.1 218 20) := (hkv230.2.2.2.2.2.2.2.1).trans g20_σ167
            have g22_σ231 : σ231.1 218 22 = (σ0.1 218 22) := (hkv230.2.2.2.2.2.2.2.2.1).trans g22_σ167
            have g23_σ231 : σ231.1 218 23 = (σ0.1 218 23) := (hkv230.2.2.2.2.2.2.2.2.2.1).trans g23_σ167
            have g24_σ231 : σ231.1 218 24 = (σ0.1 218 24) := (hkv230.2.2.2.2.2.2.2.2.2.2.1).trans g24_σ167
            have g25_σ231 : σ231.1 218 25 = (σ0.1 218 25) := (hkv230.2.2.2.2.2.2.2.2.2.2.2).trans g25_σ167
            have n63 := hqv230.2
            rw [J_X12_readsName_66.eq_1]
            refine ok_gC rfl ?_
            refine ok_zbX (Q := fun V => (V = 0 → ¬ σ231.1 218 14 = 0) ∧ (¬ V = 0 → σ231.1 218 14 = 0)) (x_X12_good) (fun v232 hqv232 => ?_)
            have hqv232 : (v232 = 0 → ¬ σ231.1 218 14 = 0) ∧ (¬ v232 = 0 → σ231.1 218 14 = 0) := hqv232
            try simp only [g7_σ231, g9_σ231, g10_σ231, g11_σ231, g12_σ231, g13_σ231, g20_σ231, g22_σ231, g23_σ231, g24_σ231, g25_σ231, hT.2 224 (by decide)] at hqv232
            refine ok_if (fun hc234 => ?_) (fun hc234 => ?_)
            · have qhc234 := hqv232.1 hc234
              have n70 := qhc234
              rw [J_X12_readsName_89.eq_1]
              refine ok_gC rfl ?_
              refine ok_zbX (Q := fun V => (V = 0 → ¬ σ231.1 218 14 = 0) ∧ (¬ V = 0 → σ231.1 218 14 = 0)) (x_X12_good) (fun v235 hqv235 => ?_)
              have hqv235 : (v235 = 0 → ¬ σ231.1 218 14 = 0) ∧ (¬ v235 = 0 → σ231.1 218 14 = 0) := hqv235
              try simp only [g7_σ231, g9_σ231, g10_σ231, g11_σ231, g12_σ231, g13_σ231, g20_σ231, g22_σ231, g23_σ231, g24_σ231, g25_σ231, hT.2 224 (by decide)] at hqv235
              refine ok_if (fun hc237 => ?_) (fun hc237 => ?_)
              · have qhc237 := hqv235.1 hc237
                have n94 := qhc237
                exact ok_some ⟨hT, (show (TOK σ231.1 ∧ (σ0.1 218 11).toInt ≤ (σ231.1 218 11).toInt ∧ (σ231.1 218 14 = 0 → σ0.1 218 14 = 0) ∧ 0 ≤ (0 : Int32).toInt ∧ (0 : Int32).toInt ≤ 9) ∧ (σ231.1 218 7 = σ0.1 218 7 ∧ σ231.1 218 9 = σ0.1 218 9 ∧ σ231.1 218 20 = σ0.1 218 20 ∧ σ231.1 218 22 = σ0.1 218 22 ∧ σ231.1 218 23 = σ0.1 218 23 ∧ σ231.1 218 24 = σ0.1 218 24 ∧ σ231.1 218 25 = σ0.1 218 25) from ⟨by first | exact ⟨hK, by (try simp only [g7_σ231, g9_σ231, g10_σ231, g11_σ231, g12_σ231, g13_σ231, g20_σ231, g22_σ231, g23_σ231, g24_σ231, g25_σ231]); omega, fun q => absurd q (by (try simp only [g7_σ231, g9_σ231, g10_σ231, g11_σ231, g12_σ231, g13_σ231, g20_σ231, g22_σ231, g23_σ231, g24_σ231, g25_σ231]); exact n94), by first | decide | omega⟩ | exact ⟨hK, by (try simp only [g7_σ231, g9_σ231, g10_σ231, g11_σ231, g12_σ231, g13_σ231, g20_σ231, g22_σ231, g23_σ231, g24_σ231, g25_σ231]); omega, fun _ => y4, by first | decide | omega⟩ | exact absurd y94 n70 | exact absurd y94 n63 | exact absurd y94 n24 | exact absurd y94 n17 | exact absurd y94 n4 | exact absurd y70 n94, g7_σ231, g9_σ231, g20_σ231, g22_σ231, g23_σ231, g24_σ231, g25_σ231⟩)⟩
              · have qhc237 := hqv235.2 hc237
                have y94 := qhc237
                refine ok_gC rfl ?_
                refine ok_zbT (Q := fun V σ => (TOK σ.1 ∧ (σ231.1 218 10).toInt ≤ (σ.1 218 11).toInt) ∧ (σ.1 218 7 = σ231.1 218 7 ∧ σ.1 218 9 = σ231.1 218 9 ∧ σ.1 218 14 = σ231.1 218 14 ∧ σ.1 218 15 = σ231.1 218 15 ∧ σ.1 218 20 = σ231.1 218 20 ∧ σ.1 218 22 = σ231.1 218 22 ∧ σ.1 218 23 = σ231.1 218 23 ∧ σ.1 218 24 = σ231.1 218 24 ∧ σ.1 218 25 = σ231.1 218 25)) hT (s_X12_advance hN (hR.tr hT) (TOK_A hK) (by rw [hT.2 224 (by decide)]; exact hY)) (by decide) (fun v238 σ239 hOσ239 hT hqv238 => ?_)
                have hqv238 : (TOK σ239.1 ∧ (σ231.1 218 10).toInt ≤ (σ239.1 218 11).toInt) ∧ (σ239.1 218 7 = σ231.1 218 7 ∧ σ239.1 218 9 = σ231.1 218 9 ∧ σ239.1 218 14 = σ231.1 218 14 ∧ σ239.1 218 15 = σ231.1 218 15 ∧ σ239.1 218 20 = σ231.1 218 20 ∧ σ239.1 218 22 = σ231.1 218 22 ∧ σ239.1 218 23 = σ231.1 218 23 ∧ σ239.1 218 24 = σ231.1 218 24 ∧ σ239.1 218 25 = σ231.1 218 25) := hqv238
                have hkv238 := hqv238
                have hqv238 := hqv238.1
                have hK : TOK σ239.1 := by first | exact hqv238.1 | exact TOK_p eσ239 (by decide) hK
                try simp only [g7_σ231, g9_σ231, g10_σ231, g11_σ231, g12_σ231, g13_σ231, g20_σ231, g22_σ231, g23_σ231, g24_σ231, g25_σ231] at hqv238
                have g7_σ239 : σ239.1 218 7 = (σ0.1 218 7) := (hkv238.2.1).trans g7_σ231
                have g9_σ239 : σ239.1 218 9 = (σ0.1 218 9) := (hkv238.2.2.1).trans g9_σ231
                have g14_σ239 : σ239.1 218 14 = (σ231.1 218 14) := hkv238.2.2.2.1
                have g15_σ239 : σ239.1 218 15 = (σ231.1 218 15) := hkv238.2.2.2.2.1
                have g20_σ239 : σ239.1 218 20 = (σ0.1 218 20) := (hkv238.2.2.2.2.2.1).trans g20_σ231
                have g22_σ239 : σ239.1 218 22 = (σ0.1 218 22) := (hkv238.2.2.2.2.2.2.1).trans g22_σ231
                have g23_σ239 : σ239.1 218 23 = (σ0.1 218 23) := (hkv238.2.2.2.2.2.2.2.1).trans g23_σ231
                have g24_σ239 : σ239.1 218 24 = (σ0.1 218 24) := (hkv238.2.2.2.2.2.2.2.2.1).trans g24_σ231
                have g25_σ239 : σ239.1 218 25 = (σ0.1 218 25) := (hkv238.2.2.2.2.2.2.2.2.2).trans g25_σ231
                have m98 := hqv238.2
                exact ok_some ⟨hT, (show (TOK σ239.1 ∧ (σ0.1 218 11).toInt ≤ (σ239.1 218 11).toInt ∧ (σ239.1 218 14 = 0 → σ0.1 218 14 = 0) ∧ 0 ≤ (0 : Int32).toInt ∧ (0 : Int32).toInt ≤ 9) ∧ (σ239.1 218 7 = σ0.1 218 7 ∧ σ239.1 218 9 = σ0.1 218 9 ∧ σ239.1 218 20 = σ0.1 218 20 ∧ σ239.1 218 22 = σ0.1 218 22 ∧ σ239.1 218 23 = σ0.1 218 23 ∧ σ239.1 218 24 = σ0.1 218 24 ∧ σ239.1 218 25 = σ0.1 218 25) from ⟨by first | exact ⟨hK, by (try simp only [g7_σ239, g9_σ239, g14_σ239, g15_σ239, g20_σ239, g22_σ239, g23_σ239, g24_σ239, g25_σ239]); omega, fun q => absurd q (by (try simp only [g7_σ239, g9_σ239, g14_σ239, g15_σ239, g20_σ239, g22_σ239, g23_σ239, g24_σ239, g25_σ239]); exact n94), by first | decide | omega⟩ | exact ⟨hK, by (try simp only [g7_σ239, g9_σ239, g14_σ239, g15_σ239, g20_σ239, g22_σ239, g23_σ239, g24_σ239, g25_σ239]); omega, fun _ => y4, by first | decide | omega⟩ | exact absurd y94 n70 | exact absurd y94 n63 | exact absurd y94 n24 | exact absurd y94 n17 | exact absurd y94 n4 | exact absurd y70 n94, g7_σ239, g9_σ239, g20_σ239, g22_σ239, g23_σ239, g24_σ239, g25_σ239⟩)⟩
            · have qhc234 := hqv232.2 hc234
              have y70 := qhc234
              refine ok_gR (v := 224) hT rfl (hR 218 6 rfl) ?_
              refine ok_gIv rfl g11_σ231 ?_
              refine ok_aIn rfl (by ((try simp only [g7_σ231, g9_σ231, g10_σ231, g11_σ231, g12_σ231, g13_σ231, g20_σ231, g22_σ231, g23_σ231, g24_σ231, g25_σ231])); first | omega | decide | (simp only [Int32.le_iff_toInt_le, Int32.lt_iff_toInt_lt, ti_add, ti_sub, ti_mul, Int32.reduceToInt] at *; omega)) (by first | omega | exact absurd y70 n63 | exact absurd y70 n24 | exact absurd y70 n17 | exact absurd y70 n4) (fun v242 ev242 => ?_)
              have ev81 := ev242
              rw [hT.2 224 (by decide)] at ev81
              have t81 : 97 ≤ v242.toInt ∧ v242.toInt ≤ 122 := by first | (rw [ev81]; exact w12 (σ0.1 218 11).toInt.toNat (by omega) (by omega)) | exact absurd y70 n63 | exact absurd y70 n24 | exact absurd y70 n17 | exact absurd y70 n4
              have s81 : (v242 - 97).toInt = v242.toInt - 97 := by rw [ti_sub]; simp only [Int32.reduceToInt]; omega
              have b81 : (v242 - 97).toInt ≤ 9 := by first | (rw [ev81.trans ev48.symm]; have h0 := hF.1.1; omega) | exact absurd y70 n63 | exact absurd y70 n24 | exact absurd y70 n17 | exact absurd y70 n4
              rw [J_X12_readsName_89.eq_1]
              refine ok_gC rfl ?_
              refine ok_zbX (Q := fun V => (V = 0 → ¬ σ231.1 218 14 = 0) ∧ (¬ V = 0 → σ231.1 218 14 = 0)) (x_X12_good) (fun v243 hqv243 => ?_)
              have hqv243 : (v243 = 0 → ¬ σ231.1 218 14 = 0) ∧ (¬ v243 = 0 → σ231.1 218 14 = 0) := hqv243
              try simp only [g7_σ231, g9_σ231, g10_σ231, g11_σ231, g12_σ231, g13_σ231, g20_σ231, g22_σ231, g23_σ231, g24_σ231, g25_σ231, hT.2 224 (by decide)] at hqv243
              refine ok_if (fun hc245 => ?_) (fun hc245 => ?_)
              · have qhc245 := hqv243.1 hc245
                have n94 := qhc245
                exact ok_some ⟨hT, (show (TOK σ231.1 ∧ (σ0.1 218 11).toInt ≤ (σ231.1 218 11).toInt ∧ (σ231.1 218 14 = 0 → σ0.1 218 14 = 0) ∧ 0 ≤ (v242 - 97).toInt ∧ (v242 - 97).toInt ≤ 9) ∧ (σ231.1 218 7 = σ0.1 218 7 ∧ σ231.1 218 9 = σ0.1 218 9 ∧ σ231.1 218 20 = σ0.1 218 20 ∧ σ231.1 218 22 = σ0.1 218 22 ∧ σ231.1 218 23 = σ0.1 218 23 ∧ σ231.1 218 24 = σ0.1 218 24 ∧ σ231.1 218 25 = σ0.1 218 25) from ⟨by first | exact ⟨hK, by (try simp only [g7_σ231, g9_σ231, g10_σ231, g11_σ231, g12_σ231, g13_σ231, g20_σ231, g22_σ231, g23_σ231, g24_σ231, g25_σ231]); omega, fun q => absurd q (by (try simp only [g7_σ231, g9_σ231, g10_σ231, g11_σ231, g12_σ231, g13_σ231, g20_σ231, g22_σ231, g23_σ231, g24_σ231, g25_σ231]); exact n94), by first | decide | omega⟩ | exact ⟨hK, by (try simp only [g7_σ231, g9_σ231, g10_σ231, g11_σ231, g12_σ231, g13_σ231, g20_σ231, g22_σ231, g23_σ231, g24_σ231, g25_σ231]); omega, fun _ => y4, by first | decide | omega⟩ | exact absurd y94 n70 | exact absurd y94 n63 | exact absurd y94 n24 | exact absurd y94 n17 | exact absurd y94 n4 | exact absurd y70 n94, g7_σ231, g9_σ231, g20_σ231, g22_σ231, g23_σ231, g24_σ231, g25_σ231⟩)⟩
              · have qhc245 := hqv243.2 hc245
                have y94 := qhc245
                refine ok_gC rfl ?_
                refine ok_zbT (Q := fun V σ => (TOK σ.1 ∧ (σ231.1 218 10).toInt ≤ (σ.1 218 11).toInt) ∧ (σ.1 218 7 = σ231.1 218 7 ∧ σ.1 218 9 = σ231.1 218 9 ∧ σ.1 218 14 = σ231.1 218 14 ∧ σ.1 218 15 = σ231.1 218 15 ∧ σ.1 218 20 = σ231.1 218 20 ∧ σ.1 218 22 = σ231.1 218 22 ∧ σ.1 218 23 = σ231.1 218 23 ∧ σ.1 218 24 = σ231.1 218 24 ∧ σ.1 218 25 = σ231.1 218 25)) hT (s_X12_advance hN (hR.tr hT) (TOK_A hK) (by rw [hT.2 224 (by decide)]; exact hY)) (by decide) (fun v246 σ247 hOσ247 hT hqv246 => ?_)
                have hqv246 : (TOK σ247.1 ∧ (σ231.1 218 10).toInt ≤ (σ247.1 218 11).toInt) ∧ (σ247.1 218 7 = σ231.1 218 7 ∧ σ247.1 218 9 = σ231.1 218 9 ∧ σ247.1 218 14 = σ231.1 218 14 ∧ σ247.1 218 15 = σ231.1 218 15 ∧ σ247.1 218 20 = σ231.1 218 20 ∧ σ247.1 218 22 = σ231.1 218 22 ∧ σ247.1 218 23 = σ231.1 218 23 ∧ σ247.1 218 24 = σ231.1 218 24 ∧ σ247.1 218 25 = σ231.1 218 25) := hqv246
                have hkv246 := hqv246
                have hqv246 := hqv246.1
                have hK : TOK σ247.1 := by first | exact hqv246.1 | exact TOK_p eσ247 (by decide) hK
                try simp only [g7_σ231, g9_σ231, g10_σ231, g11_σ231, g12_σ231, g13_σ231, g20_σ231, g22_σ231, g23_σ231, g24_σ231, g25_σ231] at hqv246
                have g7_σ247 : σ247.1 218 7 = (σ0.1 218 7) := (hkv246.2.1).trans g7_σ231
                have g9_σ247 : σ247.1 218 9 = (σ0.1 218 9) := (hkv246.2.2.1).trans g9_σ231
                have g14_σ247 : σ247.1 218 14 = (σ231.1 218 14) := hkv246.2.2.2.1
                have g15_σ247 : σ247.1 218 15 = (σ231.1 218 15) := hkv246.2.2.2.2.1
                have g20_σ247 : σ247.1 218 20 = (σ0.1 218 20) := (hkv246.2.2.2.2.2.1).trans g20_σ231
                have g22_σ247 : σ247.1 218 22 = (σ0.1 218 22) := (hkv246.2.2.2.2.2.2.1).trans g22_σ231
                have g23_σ247 : σ247.1 218 23 = (σ0.1 218 23) := (hkv246.2.2.2.2.2.2.2.1).trans g23_σ231
                have g24_σ247 : σ247.1 218 24 = (σ0.1 218 24) := (hkv246.2.2.2.2.2.2.2.2.1).trans g24_σ231
                have g25_σ247 : σ247.1 218 25 = (σ0.1 218 25) := (hkv246.2.2.2.2.2.2.2.2.2).trans g25_σ231
                have m98 := hqv246.2
                exact ok_some ⟨hT, (show (TOK σ247.1 ∧ (σ0.1 218 11).toInt ≤ (σ247.1 218 11).toInt ∧ (σ247.1 218 14 = 0 → σ0.1 218 14 = 0) ∧ 0 ≤ (v242 - 97).toInt ∧ (v242 - 97).toInt ≤ 9) ∧ (σ247.1 218 7 = σ0.1 218 7 ∧ σ247.1 218 9 = σ0.1 218 9 ∧ σ247.1 218 20 = σ0.1 218 20 ∧ σ247.1 218 22 = σ0.1 218 22 ∧ σ247.1 218 23 = σ0.1 218 23 ∧ σ247.1 218 24 = σ0.1 218 24 ∧ σ247.1 218 25 = σ0.1 218 25) from ⟨by first | exact ⟨hK, by (try simp only [g7_σ247, g9_σ247, g14_σ247, g15_σ247, g20_σ247, g22_σ247, g23_σ247, g24_σ247, g25_σ247]); omega, fun q => absurd q (by (try simp only [g7_σ247, g9_σ247, g14_σ247, g15_σ247, g20_σ247, g22_σ247, g23_σ247, g24_σ247, g25_σ247]); exact n94), by first | decide | omega⟩ | exact ⟨hK, by (try simp only [g7_σ247, g9_σ247, g14_σ247, g15_σ247, g20_σ247, g22_σ247, g23_σ247, g24_σ247, g25_σ247]); omega, fun _ => y4, by first | decide | omega⟩ | exact absurd y94 n70 | exact absurd y94 n63 | exact absurd y94 n24 | exact absurd y94 n17 | exact absurd y94 n4 | exact absurd y70 n94, g7_σ247, g9_σ247, g20_σ247, g22_σ247, g23_σ247, g24_σ247, g25_σ247⟩)⟩

set_option maxHeartbeats 4000000 in
set_option maxRecDepth 100000 in
theorem s_X12_readsEdge {N : Nat} (hN : 1048576 ≤ N)  {σ0 : zS}  (hR : RF σ0.2.2) (hK : TOK σ0.1) (hY : BYT (σ0.1 224)) (hF : FW (σ0.1 231)) (h2 : (σ0.1 231 2).toInt < (σ0.1 231 0).toInt) : Ok (f_X12_readsEdge N 218 σ0) (fun r => Tr [218, 231] σ0 r.2 ∧ ((TOK r.2.1 ∧ (σ0.1 218 11).toInt ≤ (r.2.1 218 11).toInt ∧ (r.2.1 218 14 = 0 → σ0.1 218 14 = 0) ∧ FW (r.2.1 231) ∧ r.2.1 231 1 = σ0.1 231 1) ∧ (r.2.1 218 7 = σ0.1 218 7 ∧ r.2.1 218 9 = σ0.1 218 9 ∧ r.2.1 218 20 = σ0.1 218 20 ∧ r.2.1 218 22 = σ0.1 218 22 ∧ r.2.1 218 23 = σ0.1 218 23 ∧ r.2.1 218 24 = σ0.1 218 24 ∧ r.2.1 218 25 = σ0.1 218 25))) := by
  have hT : Tr [218, 231] σ0 σ0 := Tr.rf
  have hK1 := hK.1
  have f0 := hF.1.1
  have f2 := hF.1.2
  rw [f_X12_readsEdge.eq_1]
  refine ok_gC rfl ?_
  refine ok_zbT (Q := fun V σ => (TOK σ.1 ∧ (σ0.1 218 11).toInt ≤ (σ.1 218 11).toInt ∧ (σ.1 218 14 = 0 → (σ0.1 218 14 = 0 ∧ (σ0.1 218 11).toInt < (σ.1 218 11).toInt) ∧ (0 : Int32).toInt ≤ V.toInt ∧ V.toInt ≤ (7 : Int32).toInt) ∧ (¬ σ.1 218 14 = 0 → V = 0)) ∧ (σ.1 218 7 = σ0.1 218 7 ∧ σ.1 218 9 = σ0.1 218 9 ∧ σ.1 218 20 = σ0.1 218 20 ∧ σ.1 218 22 = σ0.1 218 22 ∧ σ.1 218 23 = σ0.1 218 23 ∧ σ.1 218 24 = σ0.1 218 24 ∧ σ.1 218 25 = σ0.1 218 25)) hT (s_X12_number hN (hR.tr hT) (hK) (by rw [hT.2 224 (by decide)]; exact hY)) (by decide) (fun v1 σ2 hOσ2 hT hqv1 => ?_)
  have hqv1 : (TOK σ2.1 ∧ (σ0.1 218 11).toInt ≤ (σ2.1 218 11).toInt ∧ (σ2.1 218 14 = 0 → (σ0.1 218 14 = 0 ∧ (σ0.1 218 11).toInt < (σ2.1 218 11).toInt) ∧ (0 : Int32).toInt ≤ v1.toInt ∧ v1.toInt ≤ (7 : Int32).toInt) ∧ (¬ σ2.1 218 14 = 0 → v1 = 0)) ∧ (σ2.1 218 7 = σ0.1 218 7 ∧ σ2.1 218 9 = σ0.1 218 9 ∧ σ2.1 218 20 = σ0.1 218 20 ∧ σ2.1 218 22 = σ0.1 218 22 ∧ σ2.1 218 23 = σ0.1 218 23 ∧ σ2.1 218 24 = σ0.1 218 24 ∧ σ2.1 218 25 = σ0.1 218 25) := hqv1
  have hkv1 := hqv1
  have hqv1 := hqv1.1
  have r231_σ2 : σ2.1 231 = σ0.1 231 := hOσ2.2 231 (by decide)
  have hK : TOK σ2.1 := by first | exact hqv1.1 | exact TOK_p eσ2 (by decide) hK
  have g7_σ2 : σ2.1 218 7 = (σ0.1 218 7) := hkv1.2.1
  have g9_σ2 : σ2.1 218 9 = (σ0.1 218 9) := hkv1.2.2.1
  have g20_σ2 : σ2.1 218 20 = (σ0.1 218 20) := hkv1.2.2.2.1
  have g22_σ2 : σ2.1 218 22 = (σ0.1 218 22) := hkv1.2.2.2.2.1
  have g23_σ2 : σ2.1 218 23 = (σ0.1 218 23) := hkv1.2.2.2.2.2.1
  have g24_σ2 : σ2.1 218 24 = (σ0.1 218 24) := hkv1.2.2.2.2.2.2.1
  have g25_σ2 : σ2.1 218 25 = (σ0.1 218 25) := hkv1.2.2.2.2.2.2.2
  have m4 := hqv1.2.1
  have u4 := hqv1.2.2.1
  have b4 : 0 ≤ v1.toInt ∧ v1.toInt ≤ 7 := by by_cases h9 : σ2.1 218 14 = 0; have h8 := (hqv1.2.2.1 h9).2; simp only [Int32.reduceToInt] at h8; omega; rw [hqv1.2.2.2 h9]; decide
  refine ok_gC rfl ?_
  refine ok_zbX (Q := fun V => (V = 0 → ¬ σ2.1 218 14 = 0) ∧ (¬ V = 0 → σ2.1 218 14 = 0)) (x_X12_good) (fun v3 hqv3 => ?_)
  have hqv3 : (v3 = 0 → ¬ σ2.1 218 14 = 0) ∧ (¬ v3 = 0 → σ2.1 218 14 = 0) := hqv3
  try simp only [g7_σ2, g9_σ2, g20_σ2, g22_σ2, g23_σ2, g24_σ2, g25_σ2, hT.2 224 (by decide)] at hqv3
  refine ok_if (fun hc5 => ?_) (fun hc5 => ?_)
  · have qhc5 := hqv3.1 hc5
    rw [J_X12_readsEdge_36.eq_1]
    refine ok_gC rfl ?_
    refine ok_zbT (Q := fun V σ => (TOK σ.1 ∧ (σ2.1 218 11).toInt ≤ (σ.1 218 11).toInt ∧ (σ.1 218 14 = 0 → (σ2.1 218 14 = 0 ∧ (σ2.1 218 11).toInt < (σ.1 218 11).toInt) ∧ (0 : Int32).toInt ≤ V.toInt ∧ V.toInt ≤ (7 : Int32).toInt) ∧ (¬ σ.1 218 14 = 0 → V = 0)) ∧ (σ.1 218 7 = σ2.1 218 7 ∧ σ.1 218 9 = σ2.1 218 9 ∧ σ.1 218 20 = σ2.1 218 20 ∧ σ.1 218 22 = σ2.1 218 22 ∧ σ.1 218 23 = σ2.1 218 23 ∧ σ.1 218 24 = σ2.1 218 24 ∧ σ.1 218 25 = σ2.1 218 25)) hT (s_X12_number hN (hR.tr hT) (hK) (by rw [hT.2 224 (by decide)]; exact hY)) (by decide) (fun v6 σ7 hOσ7 hT hqv6 => ?_)
    have hqv6 : (TOK σ7.1 ∧ (σ2.1 218 11).toInt ≤ (σ7.1 218 11).toInt ∧ (σ7.1 218 14 = 0 → (σ2.1 218 14 = 0 ∧ (σ2.1 218 11).toInt < (σ7.1 218 11).toInt) ∧ (0 : Int32).toInt ≤ v6.toInt ∧ v6.toInt ≤ (7 : Int32).toInt) ∧ (¬ σ7.1 218 14 = 0 → v6 = 0)) ∧ (σ7.1 218 7 = σ2.1 218 7 ∧ σ7.1 218 9 = σ2.1 218 9 ∧ σ7.1 218 20 = σ2.1 218 20 ∧ σ7.1 218 22 = σ2.1 218 22 ∧ σ7.1 218 23 = σ2.1 218 23 ∧ σ7.1 218 24 = σ2.1 218 24 ∧ σ7.1 218 25 = σ2.1 218 25) := hqv6
    have hkv6 := hqv6
    have hqv6 := hqv6.1
    have r231_σ7 : σ7.1 231 = σ0.1 231 := (hOσ7.2 231 (by decide)).trans r231_σ2
    have hK : TOK σ7.1 := by first | exact hqv6.1 | exact TOK_p eσ7 (by decide) hK
    try simp only [g7_σ2, g9_σ2, g20_σ2, g22_σ2, g23_σ2, g24_σ2, g25_σ2] at hqv6
    have g7_σ7 : σ7.1 218 7 = (σ0.1 218 7) := (hkv6.2.1).trans g7_σ2
    have g9_σ7 : σ7.1 218 9 = (σ0.1 218 9) := (hkv6.2.2.1).trans g9_σ2
    have g20_σ7 : σ7.1 218 20 = (σ0.1 218 20) := (hkv6.2.2.2.1).trans g20_σ2
    have g22_σ7 : σ7.1 218 22 = (σ0.1 218 22) := (hkv6.2.2.2.2.1).trans g22_σ2
    have g23_σ7 : σ7.1 218 23 = (σ0.1 218 23) := (hkv6.2.2.2.2.2.1).trans g23_σ2
    have g24_σ7 : σ7.1 218 24 = (σ0.1 218 24) := (hkv6.2.2.2.2.2.2.1).trans g24_σ2
    have g25_σ7 : σ7.1 218 25 = (σ0.1 218 25) := (hkv6.2.2.2.2.2.2.2).trans g25_σ2
    have m40 := hqv6.2.1
    have u40 := hqv6.2.2.1
    have b40 : 0 ≤ v6.toInt ∧ v6.toInt ≤ 7 := by by_cases h9 : σ7.1 218 14 = 0; have h8 := (hqv6.2.2.1 h9).2; simp only [Int32.reduceToInt] at h8; omega; rw [hqv6.2.2.2 h9]; decide
    refine ok_gC rfl ?_
    refine ok_zbX (Q := fun V => (V = 0 → ¬ σ7.1 218 14 = 0) ∧ (¬ V = 0 → σ7.1 218 14 = 0)) (x_X12_good) (fun v8 hqv8 => ?_)
    have hqv8 : (v8 = 0 → ¬ σ7.1 218 14 = 0) ∧ (¬ v8 = 0 → σ7.1 218 14 = 0) := hqv8
    try simp only [g7_σ7, g9_σ7, g20_σ7, g22_σ7, g23_σ7, g24_σ7, g25_σ7, hT.2 224 (by decide)] at hqv8
    refine ok_if (fun hc10 => ?_) (fun hc10 => ?_)
    · have qhc10 := hqv8.1 hc10
      have n48 := qhc10
      exact ok_some ⟨hT, (show (TOK σ7.1 ∧ (σ0.1 218 11).toInt ≤ (σ7.1 218 11).toInt ∧ (σ7.1 218 14 = 0 → σ0.1 218 14 = 0) ∧ FW (σ7.1 231) ∧ σ7.1 231 1 = σ0.1 231 1) ∧ (σ7.1 218 7 = σ0.1 218 7 ∧ σ7.1 218 9 = σ0.1 218 9 ∧ σ7.1 218 20 = σ0.1 218 20 ∧ σ7.1 218 22 = σ0.1 218 22 ∧ σ7.1 218 23 = σ0.1 218 23 ∧ σ7.1 218 24 = σ0.1 218 24 ∧ σ7.1 218 25 = σ0.1 218 25) from ⟨by first | exact ⟨hK, by (try simp only [g7_σ7, g9_σ7, g20_σ7, g22_σ7, g23_σ7, g24_σ7, g25_σ7]); omega, fun q => absurd q (by (try simp only [g7_σ7, g9_σ7, g20_σ7, g22_σ7, g23_σ7, g24_σ7, g25_σ7]); exact n48), by (first | rw [r231_σ7] | skip); exact hF, congrFun r231_σ7 1⟩ | exact ⟨hK, by (try simp only [g7_σ7, g9_σ7, g20_σ7, g22_σ7, g23_σ7, g24_σ7, g25_σ7]); omega, fun _ => (u4 (u40 y48).1.1).1.1, k91.1, k91.2⟩ | exact absurd (u40 y48).1.1 n33, g7_σ7, g9_σ7, g20_σ7, g22_σ7, g23_σ7, g24_σ7, g25_σ7⟩)⟩
    · have qhc10 := hqv8.2 hc10
      have y48 := qhc10
      refine ok_gR (v := 231) hT rfl (hR 218 26 rfl) ?_
      refine ok_gR (v := 231) hT rfl (hR 218 26 rfl) ?_
      refine ok_aIn rfl (by ((try simp only [g7_σ7, g9_σ7, g20_σ7, g22_σ7, g23_σ7, g24_σ7, g25_σ7])); first | omega | decide | (simp only [Int32.le_iff_toInt_le, Int32.lt_iff_toInt_lt, ti_add, ti_sub, ti_mul, Int32.reduceToInt] at *; omega)) (by ((try simp only [g7_σ7, g9_σ7, g20_σ7, g22_σ7, g23_σ7, g24_σ7, g25_σ7])); first | omega | decide | (simp only [Int32.le_iff_toInt_le, Int32.lt_iff_toInt_lt, ti_add, ti_sub, ti_mul, Int32.reduceToInt] at *; omega)) (fun v13 ev13 => ?_)
      have r63 : σ7.1 231 = σ0.1 231 := r231_σ7
      have ev63 : v13 = σ0.1 231 2 := by rw [ev13, r63]; rfl
      have i63 := ti13 (x := v13) (by rw [ev63]; omega) (by rw [ev63]; omega)
      refine ok_s14 hT rfl (by decide) (by rw [i63.1, ev63]; omega) (by rw [i63.1, ev63]; omega) (fun σ14 eσ14 hOσ14 hT => ?_)
      have e66 := eσ14
      have hK : TOK σ14.1 := TOK_tr hOσ14 (by decide) (by decide) hK
      have g7_σ14 : σ14.1 218 7 = (σ0.1 218 7) := (congrFun (hOσ14.2 218 (by decide)) 7).trans g7_σ7
      have g9_σ14 : σ14.1 218 9 = (σ0.1 218 9) := (congrFun (hOσ14.2 218 (by decide)) 9).trans g9_σ7
      have g10_σ14 : σ14.1 218 10 = (σ7.1 218 10) := congrFun (hOσ14.2 218 (by decide)) 10
      have g11_σ14 : σ14.1 218 11 = (σ7.1 218 11) := congrFun (hOσ14.2 218 (by decide)) 11
      have g12_σ14 : σ14.1 218 12 = (σ7.1 218 12) := congrFun (hOσ14.2 218 (by decide)) 12
      have g13_σ14 : σ14.1 218 13 = (σ7.1 218 13) := congrFun (hOσ14.2 218 (by decide)) 13
      have g14_σ14 : σ14.1 218 14 = (σ7.1 218 14) := congrFun (hOσ14.2 218 (by decide)) 14
      have g15_σ14 : σ14.1 218 15 = (σ7.1 218 15) := congrFun (hOσ14.2 218 (by decide)) 15
      have g20_σ14 : σ14.1 218 20 = (σ0.1 218 20) := (congrFun (hOσ14.2 218 (by decide)) 20).trans g20_σ7
      have g22_σ14 : σ14.1 218 22 = (σ0.1 218 22) := (congrFun (hOσ14.2 218 (by decide)) 22).trans g22_σ7
      have g23_σ14 : σ14.1 218 23 = (σ0.1 218 23) := (congrFun (hOσ14.2 218 (by decide)) 23).trans g23_σ7
      have g24_σ14 : σ14.1 218 24 = (σ0.1 218 24) := (congrFun (hOσ14.2 218 (by decide)) 24).trans g24_σ7
      have g25_σ14 : σ14.1 218 25 = (σ0.1 218 25) := (congrFun (hOσ14.2 218 (by decide)) 25).trans g25_σ7
      refine ok_gR (v := 231) hT rfl (hR 218 26 rfl) ?_
      refine ok_gR (v := 231) hT rfl (hR 218 26 rfl) ?_
      refine ok_aIn rfl (by ((try simp only [g7_σ14, g9_σ14, g10_σ14, g11_σ14, g12_σ14, g13_σ14, g14_σ14, g15_σ14, g20_σ14, g22_σ14, g23_σ14, g24_σ14, g25_σ14])); first | omega | decide | (simp only [Int32.le_iff_toInt_le, Int32.lt_iff_toInt_lt, ti_add, ti_sub, ti_mul, Int32.reduceToInt] at *; omega)) (by ((try simp only [g7_σ14, g9_σ14, g10_σ14, g11_σ14, g12_σ14, g13_σ14, g14_σ14, g15_σ14, g20_σ14, g22_σ14, g23_σ14, g24_σ14, g25_σ14])); first | omega | decide | (simp only [Int32.le_iff_toInt_le, Int32.lt_iff_toInt_lt, ti_add, ti_sub, ti_mul, Int32.reduceToInt] at *; omega)) (fun v17 ev17 => ?_)
      have ev78 : v17 = σ0.1 231 2 := by rw [ev17]; refine (zI_atN e66 (by rw [i63.2]; show 2 ≠ _; omega)).trans (congrFun r63 2)
      have i78 := ti23 (x := v17) (by rw [ev78]; omega) (by rw [ev78]; omega)
      refine ok_s14 hT rfl (by decide) (by rw [i78.1, ev78]; omega) (by rw [i78.1, ev78]; omega) (fun σ18 eσ18 hOσ18 hT => ?_)
      have e81 := eσ18
      have hK : TOK σ18.1 := TOK_tr hOσ18 (by decide) (by decide) hK
      have g7_σ18 : σ18.1 218 7 = (σ0.1 218 7) := (congrFun (hOσ18.2 218 (by decide)) 7).trans g7_σ14
      have g9_σ18 : σ18.1 218 9 = (σ0.1 218 9) := (congrFun (hOσ18.2 218 (by decide)) 9).trans g9_σ14
      have g10_σ18 : σ18.1 218 10 = (σ7.1 218 10) := (congrFun (hOσ18.2 218 (by decide)) 10).trans g10_σ14
      have g11_σ18 : σ18.1 218 11 = (σ7.1 218 11) := (congrFun (hOσ18.2 218 (by decide)) 11).trans g11_σ14
      have g12_σ18 : σ18.1 218 12 = (σ7.1 218 12) := (congrFun (hOσ18.2 218 (by decide)) 12).trans g12_σ14
      have g13_σ18 : σ18.1 218 13 = (σ7.1 218 13) := (congrFun (hOσ18.2 218 (by decide)) 13).trans g13_σ14
      have g14_σ18 : σ18.1 218 14 = (σ7.1 218 14) := (congrFun (hOσ18.2 218 (by decide)) 14).trans g14_σ14
      have g15_σ18 : σ18.1 218 15 = (σ7.1 218 15) := (congrFun (hOσ18.2 218 (by decide)) 15).trans g15_σ14
      have g20_σ18 : σ18.1 218 20 = (σ0.1 218 20) := (congrFun (hOσ18.2 218 (by decide)) 20).trans g20_σ14
      have g22_σ18 : σ18.1 218 22 = (σ0.1 218 22) := (congrFun (hOσ18.2 218 (by decide)) 22).trans g22_σ14
      have g23_σ18 : σ18.1 218 23 = (σ0.1 218 23) := (congrFun (hOσ18.2 218 (by decide)) 23).trans g23_σ14
      have g24_σ18 : σ18.1 218 24 = (σ0.1 218 24) := (congrFun (hOσ18.2 218 (by decide)) 24).trans g24_σ14
      have g25_σ18 : σ18.1 218 25 = (σ0.1 218 25) := (congrFun (hOσ18.2 218 (by decide)) 25).trans g25_σ14
      refine ok_gR (v := 231) hT rfl (hR 218 26 rfl) ?_
      refine ok_aIn rfl (by ((try simp only [g7_σ18, g9_σ18, g10_σ18, g11_σ18, g12_σ18, g13_σ18, g14_σ18, g15_σ18, g20_σ18, g22_σ18, g23_σ18, g24_σ18, g25_σ18])); first | omega | decide | (simp only [Int32.le_iff_toInt_le, Int32.lt_iff_toInt_lt, ti_add, ti_sub, ti_mul, Int32.reduceToInt] at *; omega)) (by ((try simp only [g7_σ18, g9_σ18, g10_σ18, g11_σ18, g12_σ18, g13_σ18, g14_σ18, g15_σ18, g20_σ18, g22_σ18, g23_σ18, g24_σ18, g25_σ18])); first | omega | decide | (simp only [Int32.le_iff_toInt_le, Int32.lt_iff_toInt_lt, ti_add, ti_sub, ti_mul, Int32.reduceToInt] at *; omega)) (fun v20 ev20 => ?_)
      have ev88 : v20 = σ0.1 231 2 := by rw [ev20]; refine (zI_atN e81 (by rw [i78.2]; show 2 ≠ _; omega)).trans ((zI_atN e66 (by rw [i63.2]; show 2 ≠ _; omega)).trans (congrFun r63 2))
      have s88 : (v20 + 1).toInt = (σ0.1 231 2).toInt + 1 := by rw [ti_add, ev88]; simp only [Int32.reduceToInt]; omega
      refine ok_s14 hT rfl (by decide) (by ((try simp only [g7_σ18, g9_σ18, g10_σ18, g11_σ18, g12_σ18, g13_σ18, g14_σ18, g15_σ18, g20_σ18, g22_σ18, g23_σ18, g24_σ18, g25_σ18])); first | omega | decide | (simp only [Int32.le_iff_toInt_le, Int32.lt_iff_toInt_lt, ti_add, ti_sub, ti_mul, Int32.reduceToInt] at *; omega)) (by ((try simp only [g7_σ18, g9_σ18, g10_σ18, g11_σ18, g12_σ18, g13_σ18, g14_σ18, g15_σ18, g20_σ18, g22_σ18, g23_σ18, g24_σ18, g25_σ18])); first | omega | decide | (simp only [Int32.le_iff_toInt_le, Int32.lt_iff_toInt_lt, ti_add, ti_sub, ti_mul, Int32.reduceToInt] at *; omega)) (fun σ21 eσ21 hOσ21 hT => ?_)
      have k91 := FW_edge r63 e66 e81 eσ21 (by rw [i63.2, ev63]) (by rw [i78.2, ev78]) rfl b4 b40 s88 hF h2
      have hK : TOK σ21.1 := TOK_tr hOσ21 (by decide) (by decide) hK
      have g7_σ21 : σ21.1 218 7 = (σ0.1 218 7) := (congrFun (hOσ21.2 218 (by decide)) 7).trans g7_σ18
      have g9_σ21 : σ21.1 218 9 = (σ0.1 218 9) := (congrFun (hOσ21.2 218 (by decide)) 9).trans g9_σ18
      have g10_σ21 : σ21.1 218 10 = (σ7.1 218 10) := (congrFun (hOσ21.2 218 (by decide)) 10).trans g10_σ18
      have g11_σ21 : σ21.1 218 11 = (σ7.1 218 11) := (congrFun (hOσ21.2 218 (by decide)) 11).trans g11_σ18
      have g12_σ21 : σ21.1 218 12 = (σ7.1 218 12) := (congrFun (hOσ21.2 218 (by decide)) 12).trans g12_σ18
      have g13_σ21 : σ21.1 218 13 = (σ7.1 218 13) := (congrFun (hOσ21.2 218 (by decide)) 13).trans g13_σ18
      have g14_σ21 : σ21.1 218 14 = (σ7.1 218 14) := (congrFun (hOσ21.2 218 (by decide)) 14).trans g14_σ18
      have g15_σ21 : σ21.1 218 15 = (σ7.1 218 15) := (congrFun (hOσ21.2 218 (by decide)) 15).trans g15_σ18
      have g20_σ21 : σ21.1 218 20 = (σ0.1 218 20) := (congrFun (hOσ21.2 218 (by decide)) 20).trans g20_σ18
      have g22_σ21 : σ21.1 218 22 = (σ0.1 218 22) := (congrFun (hOσ21.2 218 (by decide)) 22).trans g22_σ18
      have g23_σ21 : σ21.1 218 23 = (σ0.1 218 23) := (congrFun (hOσ21.2 218 (by decide)) 23).trans g23_σ18
      have g24_σ21 : σ21.1 218 24 = (σ0.1 218 24) := (congrFun (hOσ21.2 218 (by decide)) 24).trans g24_σ18
      have g25_σ21 : σ21.1 218 25 = (σ0.1 218 25) := (congrFun (hOσ21.2 218 (by decide)) 25).trans g25_σ18
      exact ok_some ⟨hT, (show (TOK σ21.1 ∧ (σ0.1 218 11).toInt ≤ (σ21.1 218 11).toInt ∧ (σ21.1 218 14 = 0 → σ0.1 218 14 = 0) ∧ FW (σ21.1 231) ∧ σ21.1 231 1 = σ0.1 231 1) ∧ (σ21.1 218 7 = σ0.1 218 7 ∧ σ21.1 218 9 = σ0.1 218 9 ∧ σ21.1 218 20 = σ0.1 218 20 ∧ σ21.1 218 22 = σ0.1 218 22 ∧ σ21.1 218 23 = σ0.1 218 23 ∧ σ21.1 218 24 = σ0.1 218 24 ∧ σ21.1 218 25 = σ0.1 218 25) from ⟨by first | exact ⟨hK, by (try simp only [g7_σ21, g9_σ21, g10_σ21, g11_σ21, g12_σ21, g13_σ21, g14_σ21, g15_σ21, g20_σ21, g22_σ21, g23_σ21, g24_σ21, g25_σ21]); omega, fun q => absurd q (by (try simp only [g7_σ21, g9_σ21, g10_σ21, g11_σ21, g12_σ21, g13_σ21, g14_σ21, g15_σ21, g20_σ21, g22_σ21, g23_σ21, g24_σ21, g25_σ21]); exact n48), by (first | rw [rfl] | skip); exact hF, congrFun rfl 1⟩ | exact ⟨hK, by (try simp only [g7_σ21, g9_σ21, g10_σ21, g11_σ21, g12_σ21, g13_σ21, g14_σ21, g15_σ21, g20_σ21, g22_σ21, g23_σ21, g24_σ21, g25_σ21]); omega, fun _ => (u4 (u40 y48).1.1).1.1, k91.1, k91.2⟩ | exact absurd (u40 y48).1.1 n33, g7_σ21, g9_σ21, g20_σ21, g22_σ21, g23_σ21, g24_σ21, g25_σ21⟩)⟩
  · have qhc5 := hqv3.2 hc5
    refine ok_gI rfl ?_
    refine ok_if (fun hc23 => ?_) (fun hc23 => ?_)
    · refine ok_gI rfl ?_
      refine ok_if (fun hc25 => ?_) (fun hc25 => ?_)
      · refine ok_gC rfl ?_
        refine ok_zbT (Q := fun V σ => (TOK σ.1 ∧ ¬ σ.1 218 14 = 0) ∧ (σ.1 218 7 = σ2.1 218 7 ∧ σ.1 218 9 = σ2.1 218 9 ∧ σ.1 218 10 = σ2.1 218 10 ∧ σ.1 218 11 = σ2.1 218 11 ∧ σ.1 218 12 = σ2.1 218 12 ∧ σ.1 218 13 = σ2.1 218 13 ∧ σ.1 218 20 = σ2.1 218 20 ∧ σ.1 218 22 = σ2.1 218 22 ∧ σ.1 218 23 = σ2.1 218 23 ∧ σ.1 218 24 = σ2.1 218 24 ∧ σ.1 218 25 = σ2.1 218 25)) hT (s_X12_errs hN (hR.tr hT) (hK) (by rw [hT.2 224 (by decide)]; exact hY) (by decide)) (by decide) (fun v26 σ27 hOσ27 hT hqv26 => ?_)
        have hqv26 : (TOK σ27.1 ∧ ¬ σ27.1 218 14 = 0) ∧ (σ27.1 218 7 = σ2.1 218 7 ∧ σ27.1 218 9 = σ2.1 218 9 ∧ σ27.1 218 10 = σ2.1 218 10 ∧ σ27.1 218 11 = σ2.1 218 11 ∧ σ27.1 218 12 = σ2.1 218 12 ∧ σ27.1 218 13 = σ2.1 218 13 ∧ σ27.1 218 20 = σ2.1 218 20 ∧ σ27.1 218 22 = σ2.1 218 22 ∧ σ27.1 218 23 = σ2.1 218 23 ∧ σ27.1 218 24 = σ2.1 218 24 ∧ σ27.1 218 25 = σ2.1 218 25) := hqv26
        have hkv26 := hqv26
        have hqv26 := hqv26.1
        have r231_σ27 : σ27.1 231 = σ0.1 231 := (hOσ27.2 231 (by decide)).trans r231_σ2
        have hK : TOK σ27.1 := by first | exact hqv26.1 | exact TOK_p eσ27 (by decide) hK
        try simp only [g7_σ2, g9_σ2, g20_σ2, g22_σ2, g23_σ2, g24_σ2, g25_σ2] at hqv26
        have g7_σ27 : σ27.1 218 7 = (σ0.1 218 7) := (hkv26.2.1).trans g7_σ2
        have g9_σ27 : σ27.1 218 9 = (σ0.1 218 9) := (hkv26.2.2.1).trans g9_σ2
        have g10_σ27 : σ27.1 218 10 = (σ2.1 218 10) := hkv26.2.2.2.1
        have g11_σ27 : σ27.1 218 11 = (σ2.1 218 11) := hkv26.2.2.2.2.1
        have g12_σ27 : σ27.1 218 12 = (σ2.1 218 12) := hkv26.2.2.2.2.2.1
        have g13_σ27 : σ27.1 218 13 = (σ2.1 218 13) := hkv26.2.2.2.2.2.2.1
        have g20_σ27 : σ27.1 218 20 = (σ0.1 218 20) := (hkv26.2.2.2.2.2.2.2.1).trans g20_σ2
        have g22_σ27 : σ27.1 218 22 = (σ0.1 218 22) := (hkv26.2.2.2.2.2.2.2.2.1).trans g22_σ2
        have g23_σ27 : σ27.1 218 23 = (σ0.1 218 23) := (hkv26.2.2.2.2.2.2.2.2.2.1).trans g23_σ2
        have g24_σ27 : σ27.1 218 24 = (σ0.1 218 24) := (hkv26.2.2.2.2.2.2.2.2.2.2.1).trans g24_σ2
        have g25_σ27 : σ27.1 218 25 = (σ0.1 218 25) := (hkv26.2.2.2.2.2.2.2.2.2.2.2).trans g25_σ2
        have n33 := hqv26.2
        rw [J_X12_readsEdge_36.eq_1]
        refine ok_gC rfl ?_
        refine ok_zbT (Q := fun V σ => (TOK σ.1 ∧ (σ27.1 218 11).toInt ≤ (σ.1 218 11).toInt ∧ (σ.1 218 14 = 0 → (σ27.1 218 14 = 0 ∧ (σ27.1 218 11).toInt < (σ.1 218 11).toInt) ∧ (0 : Int32).toInt ≤ V.toInt ∧ V.toInt ≤ (7 : Int32).toInt) ∧ (¬ σ.1 218 14 = 0 → V = 0)) ∧ (σ.1 218 7 = σ27.1 218 7 ∧ σ.1 218 9 = σ27.1 218 9 ∧ σ.1 218 20 = σ27.1 218 20 ∧ σ.1 218 22 = σ27.1 218 22 ∧ σ.1 218 23 = σ27.1 218 23 ∧ σ.1 218 24 = σ27.1 218 24 ∧ σ.1 218 25 = σ27.1 218 25)) hT (s_X12_number hN (hR.tr hT) (hK) (by rw [hT.2 224 (by decide)]; exact hY)) (by decide) (fun v28 σ29 hOσ29 hT hqv28 => ?_)
        have hqv28 : (TOK σ29.1 ∧ (σ27.1 218 11).toInt ≤ (σ29.1 218 11).toInt ∧ (σ29.1 218 14 = 0 → (σ27.1 218 14 = 0 ∧ (σ27.1 218 11).toInt < (σ29.1 218 11).toInt) ∧ (0 : Int32).toInt ≤ v28.toInt ∧ v28.toInt ≤ (7 : Int32).toInt) ∧ (¬ σ29.1 218 14 = 0 → v28 = 0)) ∧ (σ29.1 218 7 = σ27.1 218 7 ∧ σ29.1 218 9 = σ27.1 218 9 ∧ σ29.1 218 20 = σ27.1 218 20 ∧ σ29.1 218 22 = σ27.1 218 22 ∧ σ29.1 218 23 = σ27.1 218 23 ∧ σ29.1 218 24 = σ27.1 218 24 ∧ σ29.1 218 25 = σ27.1 218 25) := hqv28
        have hkv28 := hqv28
        have hqv28 := hqv28.1
        have r231_σ29 : σ29.1 231 = σ0.1 231 := (hOσ29.2 231 (by decide)).trans r231_σ27
        have hK : TOK σ29.1 := by first | exact hqv28.1 | exact TOK_p eσ29 (by decide) hK
        try simp only [g7_σ27, g9_σ27, g10_σ27, g11_σ27, g12_σ27, g13_σ27, g20_σ27, g22_σ27, g23_σ27, g24_σ27, g25_σ27] at hqv28
        have g7_σ29 : σ29.1 218 7 = (σ0.1 218 7) := (hkv28.2.1).trans g7_σ27
        have g9_σ29 : σ29.1 218 9 = (σ0.1 218 9) := (hkv28.2.2.1).trans g9_σ27
        have g20_σ29 : σ29.1 218 20 = (σ0.1 218 20) := (hkv28.2.2.2.1).trans g20_σ27
        have g22_σ29 : σ29.1 218 22 = (σ0.1 218 22) := (hkv28.2.2.2.2.1).trans g22_σ27
        have g23_σ29 : σ29.1 218 23 = (σ0.1 218 23) := (hkv28.2.2.2.2.2.1).trans g23_σ27
        have g24_σ29 : σ29.1 218 24 = (σ0.1 218 24) := (hkv28.2.2.2.2.2.2.1).trans g24_σ27
        have g25_σ29 : σ29.1 218 25 = (σ0.1 218 25) := (hkv28.2.2.2.2.2.2.2).trans g25_σ27
        have m40 := hqv28.2.1
        have u40 := hqv28.2.2.1
        have b40 : 0 ≤ v28.toInt ∧ v28.toInt ≤ 7 := by by_cases h9 : σ29.1 218 14 = 0; have h8 := (hqv28.2.2.1 h9).2; simp only [Int32.reduceToInt] at h8; omega; rw [hqv28.2.2.2 h9]; decide
        refine ok_gC rfl ?_
        refine ok_zbX (Q := fun V => (V = 0 → ¬ σ29.1 218 14 = 0) ∧ (¬ V = 0 → σ29.1 218 14 = 0)) (x_X12_good) (fun v30 hqv30 => ?_)
        have hqv30 : (v30 = 0 → ¬ σ29.1 218 14 = 0) ∧ (¬ v30 = 0 → σ29.1 218 14 = 0) := hqv30
        try simp only [g7_σ29, g9_σ29, g20_σ29, g22_σ29, g23_σ29, g24_σ29, g25_σ29, hT.2 224 (by decide)] at hqv30
        refine ok_if (fun hc32 => ?_) (fun hc32 => ?_)
        · have qhc32 := hqv30.1 hc32
          have n48 := qhc32
          exact ok_some ⟨hT, (show (TOK σ29.1 ∧ (σ0.1 218 11).toInt ≤ (σ29.1 218 11).toInt ∧ (σ29.1 218 14 = 0 → σ0.1 218 14 = 0) ∧ FW (σ29.1 231) ∧ σ29.1 231 1 = σ0.1 231 1) ∧ (σ29.1 218 7 = σ0.1 218 7 ∧ σ29.1 218 9 = σ0.1 218 9 ∧ σ29.1 218 20 = σ0.1 218 20 ∧ σ29.1 218 22 = σ0.1 218 22 ∧ σ29.1 218 23 = σ0.1 218 23 ∧ σ29.1 218 24 = σ0.1 218 24 ∧ σ29.1 218 25 = σ0.1 218 25) from ⟨by first | exact ⟨hK, by (try simp only [g7_σ29, g9_σ29, g20_σ29, g22_σ29, g23_σ29, g24_σ29, g25_σ29]); omega, fun q => absurd q (by (try simp only [g7_σ29, g9_σ29, g20_σ29, g22_σ29, g23_σ29, g24_σ29, g25_σ29]); exact n48), by (first | rw [r231_σ29] | skip); exact hF, congrFun r231_σ29 1⟩ | exact ⟨hK, by (try simp only [g7_σ29, g9_σ29, g20_σ29, g22_σ29, g23_σ29, g24_σ29, g25_σ29]); omega, fun _ => (u4 (u40 y48).1.1).1.1, k91.1, k91.2⟩ | exact absurd (u40 y48).1.1 n33, g7_σ29, g9_σ29, g20_σ29, g22_σ29, g23_σ29, g24_σ29, g25_σ29⟩)⟩
        · have qhc32 := hqv30.2 hc32
          have y48 := qhc32
          refine ok_gR (v := 231) hT rfl (hR 218 26 rfl) ?_
          refine ok_gR (v := 231) hT rfl (hR 218 26 rfl) ?_
          refine ok_aIn rfl (by ((try simp only [g7_σ29, g9_σ29, g20_σ29, g22_σ29, g23_σ29, g24_σ29, g25_σ29])); first | omega | decide | (simp only [Int32.le_iff_toInt_le, Int32.lt_iff_toInt_lt, ti_add, ti_sub, ti_mul, Int32.reduceToInt] at *; omega)) (by ((try simp only [g7_σ29, g9_σ29, g20_σ29, g22_σ29, g23_σ29, g24_σ29, g25_σ29])); first | omega | decide | (simp only [Int32.le_iff_toInt_le, Int32.lt_iff_toInt_lt, ti_add, ti_sub, ti_mul, Int32.reduceToInt] at *; omega)) (fun v35 ev35 => ?_)
          have r63 : σ29.1 231 = σ0.1 231 := r231_σ29
          have ev63 : v35 = σ0.1 231 2 := by rw [ev35, r63]; rfl
          have i63 := ti13 (x := v35) (by rw [ev63]; omega) (by rw [ev63]; omega)
          refine ok_s14 hT rfl (by decide) (by rw [i63.1, ev63]; omega) (by rw [i63.1, ev63]; omega) (fun σ36 eσ36 hOσ36 hT => ?_)
          have e66 := eσ36
          have hK : TOK σ36.1 := TOK_tr hOσ36 (by decide) (by decide) hK
          have g7_σ36 : σ36.1 218 7 = (σ0.1 218 7) := (congrFun (hOσ36.2 218 (by decide)) 7).trans g7_σ29
          have g9_σ36 : σ36.1 218 9 = (σ0.1 218 9) := (congrFun (hOσ36.2 218 (by decide)) 9).trans g9_σ29
          have g10_σ36 : σ36.1 218 10 = (σ29.1 218 10) := congrFun (hOσ36.2 218 (by decide)) 10
          have g11_σ36 : σ36.1 218 11 = (σ29.1 218 11) := congrFun (hOσ36.2 218 (by decide)) 11
          have g12_σ36 : σ36.1 218 12 = (σ29.1 218 12) := congrFun (hOσ36.2 218 (by decide)) 12
          have g13_σ36 : σ36.1 218 13 = (σ29.1 218 13) := congrFun (hOσ36.2 218 (by decide)) 13
          have g14_σ36 : σ36.1 218 14 = (σ29.1 218 14) := congrFun (hOσ36.2 218 (by decide)) 14
          have g15_σ36 : σ36.1 218 15 = (σ29.1 218 15) := congrFun (hOσ36.2 218 (by decide)) 15
          have g20_σ36 : σ36.1 218 20 = (σ0.1 218 20) := (congrFun (hOσ36.2 218 (by decide)) 20).trans g20_σ29
          have g22_σ36 : σ36.1 218 22 = (σ0.1 218 22) := (congrFun (hOσ36.2 218 (by decide)) 22).trans g22_σ29
          have g23_σ36 : σ36.1 218 23 = (σ0.1 218 23) := (congrFun (hOσ36.2 218 (by decide)) 23).trans g23_σ29
          have g24_σ36 : σ36.1 218 24 = (σ0.1 218 24) := (congrFun (hOσ36.2 218 (by decide)) 24).trans g24_σ29
          have g25_σ36 : σ36.1 218 25 = (σ0.1 218 25) := (congrFun (hOσ36.2 218 (by decide)) 25).trans g25_σ29
          refine ok_gR (v := 231) hT rfl (hR 218 26 rfl) ?_
          refine ok_gR (v := 231) hT rfl (hR 218 26 rfl) ?_
          refine ok_aIn rfl (by ((try simp only [g7_σ36, g9_σ36, g10_σ36, g11_σ36, g12_σ36, g13_σ36, g14_σ36, g15_σ36, g20_σ36, g22_σ36, g23_σ36, g24_σ36, g25_σ36])); first | omega | decide | (simp only [Int32.le_iff_toInt_le, Int32.lt_iff_toInt_lt, ti_add, ti_sub, ti_mul, Int32.reduceToInt] at *; omega)) (by ((try simp only [g7_σ36, g9_σ36, g10_σ36, g11_σ36, g12_σ36, g13_σ36, g14_σ36, g15_σ36, g20_σ36, g22_σ36, g23_σ36, g24_σ36, g25_σ36])); first | omega | decide | (simp only [Int32.le_iff_toInt_le, Int32.lt_iff_toInt_lt, ti_add, ti_sub, ti_mul, Int32.reduceToInt] at *; omega)) (fun v39 ev39 => ?_)
          have ev78 : v39 = σ0.1 231 2 := by rw [ev39]; refine (zI_atN e66 (by rw [i63.2]; show 2 ≠ _; omega)).trans (congrFun r63 2)
          have i78 := ti23 (x := v39) (by rw [ev78]; omega) (by rw [ev78]; omega)
          refine ok_s14 hT rfl (by decide) (by rw [i78.1, ev78]; omega) (by rw [i78.1, ev78]; omega) (fun σ40 eσ40 hOσ40 hT => ?_)
          have e81 := eσ40
          have hK : TOK σ40.1 := TOK_tr hOσ40 (by decide) (by decide) hK
          have g7_σ40 : σ40.1 218 7 = (σ0.1 218 7) := (congrFun (hOσ40.2 218 (by decide)) 7).trans g7_σ36
          have g9_σ40 : σ40.1 218 9 = (σ0.1 218 9) := (congrFun (hOσ40.2 218 (by decide)) 9).trans g9_σ36
          have g10_σ40 : σ40.1 218 10 = (σ29.1 218 10) := (congrFun (hOσ40.2 218 (by decide)) 10).trans g10_σ36
          have g11_σ40 : σ40.1 218 11 = (σ29.1 218 11) := (congrFun (hOσ40.2 218 (by decide)) 11).trans g11_σ36
          have g12_σ40 : σ40.1 218 12 = (σ29.1 218 12) := (congrFun (hOσ40.2 218 (by decide)) 12).trans g12_σ36
          have g13_σ40 : σ40.1 218 13 = (σ29.1 218 13) := (congrFun (hOσ40.2 218 (by decide)) 13).trans g13_σ36
          have g14_σ40 : σ40.1 218 14 = (σ29.1 218 14) := (congrFun (hOσ40.2 218 (by decide)) 14).trans g14_σ36
          have g15_σ40 : σ40.1 218 15 = (σ29.1 218 15) := (congrFun (hOσ40.2 218 (by decide)) 15).trans g15_σ36
          have g20_σ40 : σ40.1 218 20 = (σ0.1 218 20) := (congrFun (hOσ40.2 218 (by decide)) 20).trans g20_σ36
          have g22_σ40 : σ40.1 218 22 = (σ0.1 218 22) := (congrFun (hOσ40.2 218 (by decide)) 22).trans g22_σ36
          have g23_σ40 : σ40.1 218 23 = (σ0.1 218 23) := (congrFun (hOσ40.2 218 (by decide)) 23).trans g23_σ36
          have g24_σ40 : σ40.1 218 24 = (σ0.1 218 24) := (congrFun (hOσ40.2 218 (by decide)) 24).trans g24_σ36
          have g25_σ40 : σ40.1 218 25 = (σ0.1 218 25) := (congrFun (hOσ40.2 218 (by decide)) 25).trans g25_σ36
          refine ok_gR (v := 231) hT rfl (hR 218 26 rfl) ?_
          refine ok_aIn rfl (by ((try simp only [g7_σ40, g9_σ40, g10_σ40, g11_σ40, g12_σ40, g13_σ40, g14_σ40, g15_σ40, g20_σ40, g22_σ40, g23_σ40, g24_σ40, g25_σ40])); first | omega | decide | (simp only [Int32.le_iff_toInt_le, Int32.lt_iff_toInt_lt, ti_add, ti_sub, ti_mul, Int32.reduceToInt] at *; omega)) (by ((try simp only [g7_σ40, g9_σ40, g10_σ40, g11_σ40, g12_σ40, g13_σ40, g14_σ40, g15_σ40, g20_σ40, g22_σ40, g23_σ40, g24_σ40, g25_σ40])); first | omega | decide | (simp only [Int32.le_iff_toInt_le, Int32.lt_iff_toInt_lt, ti_add, ti_sub, ti_mul, Int32.reduceToInt] at *; omega)) (fun v42 ev42 => ?_)
          have ev88 : v42 = σ0.1 231 2 := by rw [ev42]; refine (zI_atN e81 (by rw [i78.2]; show 2 ≠ _; omega)).trans ((zI_atN e66 (by rw [i63.2]; show 2 ≠ _; omega)).trans (congrFun r63 2))
          have s88 : (v42 + 1).toInt = (σ0.1 231 2).toInt + 1 := by rw [ti_add, ev88]; simp only [Int32.reduceToInt]; omega
          refine ok_s14 hT rfl (by decide) (by ((try simp only [g7_σ40, g9_σ40, g10_σ40, g11_σ40, g12_σ40, g13_σ40, g14_σ40, g15_σ40, g20_σ40, g22_σ40, g23_σ40, g24_σ40, g25_σ40])); first | omega | decide | (simp only [Int32.le_iff_toInt_le, Int32.lt_iff_toInt_lt, ti_add, ti_sub, ti_mul, Int32.reduceToInt] at *; omega)) (by ((try simp only [g7_σ40, g9_σ40, g10_σ40, g11_σ40, g12_σ40, g13_σ40, g14_σ40, g15_σ40, g20_σ40, g22_σ40, g23_σ40, g24_σ40, g25_σ40])); first | omega | decide | (simp only [Int32.le_iff_toInt_le, Int32.lt_iff_toInt_lt, ti_add, ti_sub, ti_mul, Int32.reduceToInt] at *; omega)) (fun σ43 eσ43 hOσ43 hT => ?_)
          have k91 := FW_edge r63 e66 e81 eσ43 (by rw [i63.2, ev63]) (by rw [i78.2, ev78]) rfl b4 b40 s88 hF h2
          have hK : TOK σ43.1 := TOK_tr hOσ43 (by decide) (by decide) hK
          have g7_σ43 : σ43.1 218 7 = (σ0.1 218 7) := (congrFun (hOσ43.2 218 (by decide)) 7).trans g7_σ40
          have g9_σ43 : σ43.1 218 9 = (σ0.1 218 9) := (congrFun (hOσ43.2 218 (by decide)) 9).trans g9_σ40
          have g10_σ43 : σ43.1 218 10 = (σ29.1 218 10) := (congrFun (hOσ43.2 218 (by decide)) 10).trans g10_σ40
          have g11_σ43 : σ43.1 218 11 = (σ29.1 218 11) := (congrFun (hOσ43.2 218 (by decide)) 11).trans g11_σ40
          have g12_σ43 : σ43.1 218 12 = (σ29.1 218 12) := (congrFun (hOσ43.2 218 (by decide)) 12).trans g12_σ40
          have g13_σ43 : σ43.1 218 13 = (σ29.1 218 13) := (congrFun (hOσ43.2 218 (by decide)) 13).trans g13_σ40
          have g14_σ43 : σ43.1 218 14 = (σ29.1 218 14) := (congrFun (hOσ43.2 218 (by decide)) 14).trans g14_σ40
          have g15_σ43 : σ43.1 218 15 = (σ29.1 218 15) := (congrFun (hOσ43.2 218 (by decide)) 15).trans g15_σ40
          have g20_σ43 : σ43.1 218 20 = (σ0.1 218 20) := (congrFun (hOσ43.2 218 (by decide)) 20).trans g20_σ40
          have g22_σ43 : σ43.1 218 22 = (σ0.1 218 22) := (congrFun (hOσ43.2 218 (by decide)) 22).trans g22_σ40
          have g23_σ43 : σ43.1 218 23 = (σ0.1 218 23) := (congrFun (hOσ43.2 218 (by decide)) 23).trans g23_σ40
          have g24_σ43 : σ43.1 218 24 = (σ0.1 218 24) := (congrFun (hOσ43.2 218 (by decide)) 24).trans g24_σ40
          have g25_σ43 : σ43.1 218 25 = (σ0.1 218 25) := (congrFun (hOσ43.2 218 (by decide)) 25).trans g25_σ40
          exact ok_some ⟨hT, (show (TOK σ43.1 ∧ (σ0.1 218 11).toInt ≤ (σ43.1 218 11).toInt ∧ (σ43.1 218 14 = 0 → σ0.1 218 14 = 0) ∧ FW (σ43.1 231) ∧ σ43.1 231 1 = σ0.1 231 1) ∧ (σ43.1 218 7 = σ0.1 218 7 ∧ σ43.1 218 9 = σ0.1 218 9 ∧ σ43.1 218 20 = σ0.1 218 20 ∧ σ43.1 218 22 = σ0.1 218 22 ∧ σ43.1 218 23 = σ0.1 218 23 ∧ σ43.1 218 24 = σ0.1 218 24 ∧ σ43.1 218 25 = σ0.1 218 25) from ⟨by first | exact ⟨hK, by (try simp only [g7_σ43, g9_σ43, g10_σ43, g11_σ43, g12_σ43, g13_σ43, g14_σ43, g15_σ43, g20_σ43, g22_σ43, g23_σ43, g24_σ43, g25_σ43]); omega, fun q => absurd q (by (try simp only [g7_σ43, g9_σ43, g10_σ43, g11_σ43, g12_σ43, g13_σ43, g14_σ43, g15_σ43, g20_σ43, g22_σ43, g23_σ43, g24_σ43, g25_σ43]); exact n48), by (first | rw [rfl] | skip); exact hF, congrFun rfl 1⟩ | exact ⟨hK, by (try simp only [g7_σ43, g9_σ43, g10_σ43, g11_σ43, g12_σ43, g13_σ43, g14_σ43, g15_σ43, g20_σ43, g22_σ43, g23_σ43, g24_σ43, g25_σ43]); omega, fun _ => (u4 (u40 y48).1.1).1.1, k91.1, k91.2⟩ | exact absurd (u40 y48).1.1 n33, g7_σ43, g9_σ43, g20_σ43, g22_σ43, g23_σ43, g24_σ43, g25_σ43⟩)⟩
      · rw [J_X12_readsEdge_36.eq_1]
        refine ok_gC rfl ?_
        refine ok_zbT (Q := fun V σ => (TOK σ.1 ∧ (σ2.1 218 11).toInt ≤ (σ.1 218 11).toInt ∧ (σ.1 218 14 = 0 → (σ2.1 218 14 = 0 ∧ (σ2.1 218 11).toInt < (σ.1 218 11).toInt) ∧ (0 : Int32).toInt ≤ V.toInt ∧ V.toInt ≤ (7 : Int32).toInt) ∧ (¬ σ.1 218 14 = 0 → V = 0)) ∧ (σ.1 218 7 = σ2.1 218 7 ∧ σ.1 218 9 = σ2.1 218 9 ∧ σ.1 218 20 = σ2.1 218 20 ∧ σ.1 218 22 = σ2.1 218 22 ∧ σ.1 218 23 = σ2.1 218 23 ∧ σ.1 218 24 = σ2.1 218 24 ∧ σ.1 218 25 = σ2.1 218 25)) hT (s_X12_number hN (hR.tr hT) (hK) (by rw [hT.2 224 (by decide)]; exact hY)) (by decide) (fun v44 σ45 hOσ45 hT hqv44 => ?_)
        have hqv44 : (TOK σ45.1 ∧ (σ2.1 218 11).toInt ≤ (σ45.1 218 11).toInt ∧ (σ45.1 218 14 = 0 → (σ2.1 218 14 = 0 ∧ (σ2.1 218 11).toInt < (σ45.1 218 11).toInt) ∧ (0 : Int32).toInt ≤ v44.toInt ∧ v44.toInt ≤ (7 : Int32).toInt) ∧ (¬ σ45.1 218 14 = 0 → v44 = 0)) ∧ (σ45.1 218 7 = σ2.1 218 7 ∧ σ45.1 218 9 = σ2.1 218 9 ∧ σ45.1 218 20 = σ2.1 218 20 ∧ σ45.1 218 22 = σ2.1 218 22 ∧ σ45.1 218 23 = σ2.1 218 23 ∧ σ45.1 218 24 = σ2.1 218 24 ∧ σ45.1 218 25 = σ2.1 218 25) := hqv44
        have hkv44 := hqv44
        have hqv44 := hqv44.1
        have r231_σ45 : σ45.1 231 = σ0.1 231 := (hOσ45.2 231 (by decide)).trans r231_σ2
        have hK : TOK σ45.1 := by first | exact hqv44.1 | exact TOK_p eσ45 (by decide) hK
        try simp only [g7_σ2, g9_σ2, g20_σ2, g22_σ2, g23_σ2, g24_σ2, g25_σ2] at hqv44
        have g7_σ45 : σ45.1 218 7 = (σ0.1 218 7) := (hkv44.2.1).trans g7_σ2
        have g9_σ45 : σ45.1 218 9 = (σ0.1 218 9) := (hkv44.2.2.1).trans g9_σ2
        have g20_σ45 : σ45.1 218 20 = (σ0.1 218 20) := (hkv44.2.2.2.1).trans g20_σ2
        have g22_σ45 : σ45.1 218 22 = (σ0.1 218 22) := (hkv44.2.2.2.2.1).trans g22_σ2
        have g23_σ45 : σ45.1 218 23 = (σ0.1 218 23) := (hkv44.2.2.2.2.2.1).trans g23_σ2
        have g24_σ45 : σ45.1 218 24 = (σ0.1 218 24) := (hkv44.2.2.2.2.2.2.1).trans g24_σ2
        have g25_σ45 : σ45.1 218 25 = (σ0.1 218 25) := (hkv44.2.2.2.2.2.2.2).trans g25_σ2
        have m40 := hqv44.2.1
        have u40 := hqv44.2.2.1
        have b40 : 0 ≤ v44.toInt ∧ v44.toInt ≤ 7 := by by_cases h9 : σ45.1 218 14 = 0; have h8 := (hqv44.2.2.1 h9).2; simp only [Int32.reduceToInt] at h8; omega; rw [hqv44.2.2.2 h9]; decide
        refine ok_gC rfl ?_
        refine ok_zbX (Q := fun V => (V = 0 → ¬ σ45.1 218 14 = 0) ∧ (¬ V = 0 → σ45.1 218 14 = 0)) (x_X12_good) (fun v46 hqv46 => ?_)
        have hqv46 : (v46 = 0 → ¬ σ45.1 218 14 = 0) ∧ (¬ v46 = 0 → σ45.1 218 14 = 0) := hqv46
        try simp only [g7_σ45, g9_σ45, g20_σ45, g22_σ45, g23_σ45, g24_σ45, g25_σ45, hT.2 224 (by decide)] at hqv46
        refine ok_if (fun hc48 => ?_) (fun hc48 => ?_)
        · have qhc48 := hqv46.1 hc48
          have n48 := qhc48
          exact ok_some ⟨hT, (show (TOK σ45.1 ∧ (σ0.1 218 11).toInt ≤ (σ45.1 218 11).toInt ∧ (σ45.1 218 14 = 0 → σ0.1 218 14 = 0) ∧ FW (σ45.1 231) ∧ σ45.1 231 1 = σ0.1 231 1) ∧ (σ45.1 218 7 = σ0.1 218 7 ∧ σ45.1 218 9 = σ0.1 218 9 ∧ σ45.1 218 20 = σ0.1 218 20 ∧ σ45.1 218 22 = σ0.1 218 22 ∧ σ45.1 218 23 = σ0.1 218 23 ∧ σ45.1 218 24 = σ0.1 218 24 ∧ σ45.1 218 25 = σ0.1 218 25) from ⟨by first | exact ⟨hK, by (try simp only [g7_σ45, g9_σ45, g20_σ45, g22_σ45, g23_σ45, g24_σ45, g25_σ45]); omega, fun q => absurd q (by (try simp only [g7_σ45, g9_σ45, g20_σ45, g22_σ45, g23_σ45, g24_σ45, g25_σ45]); exact n48), by (first | rw [r231_σ45] | skip); exact hF, congrFun r231_σ45 1⟩ | exact ⟨hK, by (try simp only [g7_σ45, g9_σ45, g20_σ45, g22_σ45, g23_σ45, g24_σ45, g25_σ45]); omega, fun _ => (u4 (u40 y48).1.1).1.1, k91.1, k91.2⟩ | exact absurd (u40 y48).1.1 n33, g7_σ45, g9_σ45, g20_σ45, g22_σ45, g23_σ45, g24_σ45, g25_σ45⟩)⟩
        · have qhc48 := hqv46.2 hc48
          have y48 := qhc48
          refine ok_gR (v := 231) hT rfl (hR 218 26 rfl) ?_
          refine ok_gR (v := 231) hT rfl (hR 218 26 rfl) ?_
          refine ok_aIn rfl (by ((try simp only [g7_σ45, g9_σ45, g20_σ45, g22_σ45, g23_σ45, g24_σ45, g25_σ45])); first | omega | decide | (simp only [Int32.le_iff_toInt_le, Int32.lt_iff_toInt_lt, ti_add, ti_sub, ti_mul, Int32.reduceToInt] at *; omega)) (by ((try simp only [g7_σ45, g9_σ45, g20_σ45, g22_σ45, g23_σ45, g24_σ45, g25_σ45])); first | omega | decide | (simp only [Int32.le_iff_toInt_le, Int32.lt_iff_toInt_lt, ti_add, ti_sub, ti_mul, Int32.reduceToInt] at *; omega)) (fun v51 ev51 => ?_)
          have r63 : σ45.1 231 = σ0.1 231 := r231_σ45
          have ev63 : v51 = σ0.1 231 2 := by rw [ev51, r63]; rfl
          have i63 := ti13 (x := v51) (by rw [ev63]; omega) (by rw [ev63]; omega)
          refine ok_s14 hT rfl (by decide) (by rw [i63.1, ev63]; omega) (by rw [i63.1, ev63]; omega) (fun σ52 eσ52 hOσ52 hT => ?_)
          have e66 := eσ52
          have hK : TOK σ52.1 := TOK_tr hOσ52 (by decide) (by decide) hK
          have g7_σ52 : σ52.1 218 7 = (σ0.1 218 7) := (congrFun (hOσ52.2 218 (by decide)) 7).trans g7_σ45
          have g9_σ52 : σ52.1 218 9 = (σ0.1 218 9) := (congrFun (hOσ52.2 218 (by decide)) 9).trans g9_σ45
          have g10_σ52 : σ52.1 218 10 = (σ45.1 218 10) := congrFun (hOσ52.2 218 (by decide)) 10
          have g11_σ52 : σ52.1 218 11 = (σ45.1 218 11) := congrFun (hOσ52.2 218 (by decide)) 11
          have g12_σ52 : σ52.1 218 12 = (σ45.1 218 12) := congrFun (hOσ52.2 218 (by decide)) 12
          have g13_σ52 : σ52.1 218 13 = (σ45.1 218 13) := congrFun (hOσ52.2 218 (by decide)) 13
          have g14_σ52 : σ52.1 218 14 = (σ45.1 218 14) := congrFun (hOσ52.2 218 (by decide)) 14
          have g15_σ52 : σ52.1 218 15 = (σ45.1 218 15) := congrFun (hOσ52.2 218 (by decide)) 15
          have g20_σ52 : σ52.1 218 20 = (σ0.1 218 20) := (congrFun (hOσ52.2 218 (by decide)) 20).trans g20_σ45
          have g22_σ52 : σ52.1 218 22 = (σ0.1 218 22) := (congrFun (hOσ52.2 218 (by decide)) 22).trans g22_σ45
          have g23_σ52 : σ52.1 218 23 = (σ0.1 218 23) := (congrFun (hOσ52.2 218 (by decide)) 23).trans g23_σ45
          have g24_σ52 : σ52.1 218 24 = (σ0.1 218 24) := (congrFun (hOσ52.2 218 (by decide)) 24).trans g24_σ45
          have g25_σ52 : σ52.1 218 25 = (σ0.1 218 25) := (congrFun (hOσ52.2 218 (by decide)) 25).trans g25_σ45
          refine ok_gR (v := 231) hT rfl (hR 218 26 rfl) ?_
          refine ok_gR (v := 231) hT rfl (hR 218 26 rfl) ?_
          refine ok_aIn rfl (by ((try simp only [g7_σ52, g9_σ52, g10_σ52, g11_σ52, g12_σ52, g13_σ52, g14_σ52, g15_σ52, g20_σ52, g22_σ52, g23_σ52, g24_σ52, g25_σ52])); first | omega | decide | (simp only [Int32.le_iff_toInt_le, Int32.lt_iff_toInt_lt, ti_add, ti_sub, ti_mul, Int32.reduceToInt] at *; omega)) (by ((try simp only [g7_σ52, g9_σ52, g10_σ52, g11_σ52, g12_σ52, g13_σ52, g14_σ52, g15_σ52, g20_σ52, g22_σ52, g23_σ52, g24_σ52, g25_σ52])); first | omega | decide | (simp only [Int32.le_iff_toInt_le, Int32.lt_iff_toInt_lt, ti_add, ti_sub, ti_mul, Int32.reduceToInt] at *; omega)) (fun v55 ev55 => ?_)
          have ev78 : v55 = σ0.1 231 2 := by rw [ev55]; refine (zI_atN e66 (by rw [i63.2]; show 2 ≠ _; omega)).trans (congrFun r63 2)
          have i78 := ti23 (x := v55) (by rw [ev78]; omega) (by rw [ev78]; omega)
          refine ok_s14 hT rfl (by decide) (by rw [i78.1, ev78]; omega) (by rw [i78.1, ev78]; omega) (fun σ56 eσ56 hOσ56 hT => ?_)
          have e81 := eσ56
          have hK : TOK σ56.1 := TOK_tr hOσ56 (by decide) (by decide) hK
          have g7_σ56 : σ56.1 218 7 = (σ0.1 218 7) := (congrFun (hOσ56.2 218 (by decide)) 7).trans g7_σ52
          have g9_σ56 : σ56.1 218 9 = (σ0.1 218 9) := (congrFun (hOσ56.2 218 (by decide)) 9).trans g9_σ52
          have g10_σ56 : σ56.1 218 10 = (σ45.1 218 10) := (congrFun (hOσ56.2 218 (by decide)) 10).trans g10_σ52
          have g11_σ56 : σ56.1 218 11 = (σ45.1 218 11) := (congrFun (hOσ56.2 218 (by decide)) 11).trans g11_σ52
          have g12_σ56 : σ56.1 218 12 = (σ45.1 218 12) := (congrFun (hOσ56.2 218 (by decide)) 12).trans g12_σ52
          have g13_σ56 : σ56.1 218 13 = (σ45.1 218 13) := (congrFun (hOσ56.2 218 (by decide)) 13).trans g13_σ52
          have g14_σ56 : σ56.1 218 14 = (σ45.1 218 14) := (congrFun (hOσ56.2 218 (by decide)) 14).trans g14_σ52
          have g15_σ56 : σ56.1 218 15 = (σ45.1 218 15) := (congrFun (hOσ56.2 218 (by decide)) 15).trans g15_σ52
          have g20_σ56 : σ56.1 218 20 = (σ0.1 218 20) := (congrFun (hOσ56.2 218 (by decide)) 20).trans g20_σ52
          have g22_σ56 : σ56.1 218 22 = (σ0.1 218 22) := (congrFun (hOσ56.2 218 (by decide)) 22).trans g22_σ52
          have g23_σ56 : σ56.1 218 23 = (σ0.1 218 23) := (congrFun (hOσ56.2 218 (by decide)) 23).trans g23_σ52
          have g24_σ56 : σ56.1 218 24 = (σ0.1 218 24) := (congrFun (hOσ56.2 218 (by decide)) 24).trans g24_σ52
          have g25_σ56 : σ56.1 218 25 = (σ0.1 218 25) := (congrFun (hOσ56.2 218 (by decide)) 25).trans g25_σ52
          refine ok_gR (v := 231) hT rfl (hR 218 26 rfl) ?_
          refine ok_aIn rfl (by ((try simp only [g7_σ56, g9_σ56, g10_σ56, g11_σ56, g12_σ56, g13_σ56, g14_σ56, g15_σ56, g20_σ56, g22_σ56, g23_σ56, g24_σ56, g25_σ56])); first | omega | decide | (simp only [Int32.le_iff_toInt_le, Int32.lt_iff_toInt_lt, ti_add, ti_sub, ti_mul, Int32.reduceToInt] at *; omega)) (by ((try simp only [g7_σ56, g9_σ56, g10_σ56, g11_σ56, g12_σ56, g13_σ56, g14_σ56, g15_σ56, g20_σ56, g22_σ56, g23_σ56, g24_σ56, g25_σ56])); first | omega | decide | (simp only [Int32.le_iff_toInt_le, Int32.lt_iff_toInt_lt, ti_add, ti_sub, ti_mul, Int32.reduceToInt] at *; omega)) (fun v58 ev58 => ?_)
          have ev88 : v58 = σ0.1 231 2 := by rw [ev58]; refine (zI_atN e81 (by rw [i78.2]; show 2 ≠ _; omega)).trans ((zI_atN e66 (by rw [i63.2]; show 2 ≠ _; omega)).trans (congrFun r63 2))
          have s88 : (v58 + 1).toInt = (σ0.1 231 2).toInt + 1 := by rw [ti_add, ev88]; simp only [Int32.reduceToInt]; omega
          refine ok_s14 hT rfl (by decide) (by ((try simp only [g7_σ56, g9_σ56, g10_σ56, g11_σ56, g12_σ56, g13_σ56, g14_σ56, g15_σ56, g20_σ56, g22_σ56, g23_σ56, g24_σ56, g25_σ56])); first | omega | decide | (simp only [Int32.le_iff_toInt_le, Int32.lt_iff_toInt_lt, ti_add, ti_sub, ti_mul, Int32.reduceToInt] at *; omega)) (by ((try simp only [g7_σ56, g9_σ56, g10_σ56, g11_σ56, g12_σ56, g13_σ56, g14_σ56, g15_σ56, g20_σ56, g22_σ56, g23_σ56, g24_σ56, g25_σ56])); first | omega | decide | (simp only [Int32.le_iff_toInt_le, Int32.lt_iff_toInt_lt, ti_add, ti_sub, ti_mul, Int32.reduceToInt] at *; omega)) (fun σ59 eσ59 hOσ59 hT => ?_)
          have k91 := FW_edge r63 e66 e81 eσ59 (by rw [i63.2, ev63]) (by rw [i78.2, ev78]) rfl b4 b40 s88 hF h2
          have hK : TOK σ59.1 := TOK_tr hOσ59 (by decide) (by decide) hK
          have g7_σ59 : σ59.1 218 7 = (σ0.1 218 7) := (congrFun (hOσ59.2 218 (by decide)) 7).trans g7_σ56
          have g9_σ59 : σ59.1 218 9 = (σ0.1 218 9) := (congrFun (hOσ59.2 218 (by decide)) 9).trans g9_σ56
          have g10_σ59 : σ59.1 218 10 = (σ45.1 218 10) := (congrFun (hOσ59.2 218 (by decide)) 10).trans g10_σ56
          have g11_σ59 : σ59.1 218 11 = (σ45.1 218 11) := (congrFun (hOσ59.2 218 (by decide)) 11).trans g11_σ56
          have g12_σ59 : σ59.1 218 12 = (σ45.1 218 12) := (congrFun (hOσ59.2 218 (by decide)) 12).trans g12_σ56
          have g13_σ59 : σ59.1 218 13 = (σ45.1 218 13) := (congrFun (hOσ59.2 218 (by decide)) 13).trans g13_σ56
          have g14_σ59 : σ59.1 218 14 = (σ45.1 218 14) := (congrFun (hOσ59.2 218 (by decide)) 14).trans g14_σ56
          have g15_σ59 : σ59.1 218 15 = (σ45.1 218 15) := (congrFun (hOσ59.2 218 (by decide)) 15).trans g15_σ56
          have g20_σ59 : σ59.1 218 20 = (σ0.1 218 20) := (congrFun (hOσ59.2 218 (by decide)) 20).trans g20_σ56
          have g22_σ59 : σ59.1 218 22 = (σ0.1 218 22) := (congrFun (hOσ59.2 218 (by decide)) 22).trans g22_σ56
          have g23_σ59 : σ59.1 218 23 = (σ0.1 218 23) := (congrFun (hOσ59.2 218 (by decide)) 23).trans g23_σ56
          have g24_σ59 : σ59.1 218 24 = (σ0.1 218 24) := (congrFun (hOσ59.2 218 (by decide)) 24).trans g24_σ56
          have g25_σ59 : σ59.1 218 25 = (σ0.1 218 25) := (congrFun (hOσ59.2 218 (by decide)) 25).trans g25_σ56
          exact ok_some ⟨hT, (show (TOK σ59.1 ∧ (σ0.1 218 11).toInt ≤ (σ59.1 218 11).toInt ∧ (σ59.1 218 14 = 0 → σ0.1 218 14 = 0) ∧ FW (σ59.1 231) ∧ σ59.1 231 1 = σ0.1 231 1) ∧ (σ59.1 218 7 = σ0.1 218 7 ∧ σ59.1 218 9 = σ0.1 218 9 ∧ σ59.1 218 20 = σ0.1 218 20 ∧ σ59.1 218 22 = σ0.1 218 22 ∧ σ59.1 218 23 = σ0.1 218 23 ∧ σ59.1 218 24 = σ0.1 218 24 ∧ σ59.1 218 25 = σ0.1 218 25) from ⟨by first | exact ⟨hK, by (try simp only [g7_σ59, g9_σ59, g10_σ59, g11_σ59, g12_σ59, g13_σ59, g14_σ59, g15_σ59, g20_σ59, g22_σ59, g23_σ59, g24_σ59, g25_σ59]); omega, fun q => absurd q (by (try simp only [g7_σ59, g9_σ59, g10_σ59, g11_σ59, g12_σ59, g13_σ59, g14_σ59, g15_σ59, g20_σ59, g22_σ59, g23_σ59, g24_σ59, g25_σ59]); exact n48), by (first | rw [rfl] | skip); exact hF, congrFun rfl 1⟩ | exact ⟨hK, by (try simp only [g7_σ59, g9_σ59, g10_σ59, g11_σ59, g12_σ59, g13_σ59, g14_σ59, g15_σ59, g20_σ59, g22_σ59, g23_σ59, g24_σ59, g25_σ59]); omega, fun _ => (u4 (u40 y48).1.1).1.1, k91.1, k91.2⟩ | exact absurd (u40 y48).1.1 n33, g7_σ59, g9_σ59, g20_σ59, g22_σ59, g23_σ59, g24_σ59, g25_σ59⟩)⟩
    · rw [J_X12_readsEdge_36.eq_1]
      refine ok_gC rfl ?_
      refine ok_zbT (Q := fun V σ => (TOK σ.1 ∧ (σ2.1 218 11).toInt ≤ (σ.1 218 11).toInt ∧ (σ.1 218 14 = 0 → (σ2.1 218 14 = 0 ∧ (σ2.1 218 11).toInt < (σ.1 218 11).toInt) ∧ (0 : Int32).toInt ≤ V.toInt ∧ V.toInt ≤ (7 : Int32).toInt) ∧ (¬ σ.1 218 14 = 0 → V = 0)) ∧ (σ.1 218 7 = σ2.1 218 7 ∧ σ.1 218 9 = σ2.1 218 9 ∧ σ.1 218 20 = σ2.1 218 20 ∧ σ.1 218 22 = σ2.1 218 22 ∧ σ.1 218 23 = σ2.1 218 23 ∧ σ.1 218 24 = σ2.1 218 24 ∧ σ.1 218 25 = σ2.1 218 25)) hT (s_X12_number hN (hR.tr hT) (hK) (by rw [hT.2 224 (by decide)]; exact hY)) (by decide) (fun v60 σ61 hOσ61 hT hqv60 => ?_)
      have hqv60 : (TOK σ61.1 ∧ (σ2.1 218 11).toInt ≤ (σ61.1 218 11).toInt ∧ (σ61.1 218 14 = 0 → (σ2.1 218 14 = 0 ∧ (σ2.1 218 11).toInt < (σ61.1 218 11).toInt) ∧ (0 : Int32).toInt ≤ v60.toInt ∧ v60.toInt ≤ (7 : Int32).toInt) ∧ (¬ σ61.1 218 14 = 0 → v60 = 0)) ∧ (σ61.1 218 7 = σ2.1 218 7 ∧ σ61.1 218 9 = σ2.1 218 9 ∧ σ61.1 218 20 = σ2.1 218 20 ∧ σ61.1 218 22 = σ2.1 218 22 ∧ σ61.1 218 23 = σ2.1 218 23 ∧ σ61.1 218 24 = σ2.1 218 24 ∧ σ61.1 218 25 = σ2.1 218 25) := hqv60
      have hkv60 := hqv60
      have hqv60 := hqv60.1
      have r231_σ61 : σ61.1 231 = σ0.1 231 := (hOσ61.2 231 (by decide)).trans r231_σ2
      have hK : TOK σ61.1 := by first | exact hqv60.1 | exact TOK_p eσ61 (by decide) hK
      try simp only [g7_σ2, g9_σ2, g20_σ2, g22_σ2, g23_σ2, g24_σ2, g25_σ2] at hqv60
      have g7_σ61 : σ61.1 218 7 = (σ0.1 218 7) := (hkv60.2.1).trans g7_σ2
      have g9_σ61 : σ61.1 218 9 = (σ0.1 218 9) := (hkv60.2.2.1).trans g9_σ2
      have g20_σ61 : σ61.1 218 20 = (σ0.1 218 20) := (hkv60.2.2.2.1).trans g20_σ2
      have g22_σ61 : σ61.1 218 22 = (σ0.1 218 22) := (hkv60.2.2.2.2.1).trans g22_σ2
      have g23_σ61 : σ61.1 218 23 = (σ0.1 218 23) := (hkv60.2.2.2.2.2.1).trans g23_σ2
      have g24_σ61 : σ61.1 218 24 = (σ0.1 218 24) := (hkv60.2.2.2.2.2.2.1).trans g24_σ2
      have g25_σ61 : σ61.1 218 25 = (σ0.1 218 25) := (hkv60.2.2.2.2.2.2.2).trans g25_σ2
      have m40 := hqv60.2.1
      have u40 := hqv60.2.2.1
      have b40 : 0 ≤ v60.toInt ∧ v60.toInt ≤ 7 := by by_cases h9 : σ61.1 218 14 = 0; have h8 := (hqv60.2.2.1 h9).2; simp only [Int32.reduceToInt] at h8; omega; rw [hqv60.2.2.2 h9]; decide
      refine ok_gC rfl ?_
      refine ok_zbX (Q := fun V => (V = 0 → ¬ σ61.1 218 14 = 0) ∧ (¬ V = 0 → σ61.1 218 14 = 0)) (x_X12_good) (fun v62 hqv62 => ?_)
      have hqv62 : (v62 = 0 → ¬ σ61.1 218 14 = 0) ∧ (¬ v62 = 0 → σ61.1 218 14 = 0) := hqv62
      try simp only [g7_σ61, g9_σ61, g20_σ61, g22_σ61, g23_σ61, g24_σ61, g25_σ61, hT.2 224 (by decide)] at hqv62
      refine ok_if (fun hc64 => ?_) (fun hc64 => ?_)
      · have qhc64 := hqv62.1 hc64
        have n48 := qhc64
        exact ok_some ⟨hT, (show (TOK σ61.1 ∧ (σ0.1 218 11).toInt ≤ (σ61.1 218 11).toInt ∧ (σ61.1 218 14 = 0 → σ0.1 218 14 = 0) ∧ FW (σ61.1 231) ∧ σ61.1 231 1 = σ0.1 231 1) ∧ (σ61.1 218 7 = σ0.1 218 7 ∧ σ61.1 218 9 = σ0.1 218 9 ∧ σ61.1 218 20 = σ0.1 218 20 ∧ σ61.1 218 22 = σ0.1 218 22 ∧ σ61.1 218 23 = σ0.1 218 23 ∧ σ61.1 218 24 = σ0.1 218 24 ∧ σ61.1 218 25 = σ0.1 218 25) from ⟨by first | exact ⟨hK, by (try simp only [g7_σ61, g9_σ61, g20_σ61, g22_σ61, g23_σ61, g24_σ61, g25_σ61]); omega, fun q => absurd q (by (try simp only [g7_σ61, g9_σ61, g20_σ61, g22_σ61, g23_σ61, g24_σ61, g25_σ61]); exact n48), by (first | rw [r231_σ61] | skip); exact hF, congrFun r231_σ61 1⟩ | exact ⟨hK, by (try simp only [g7_σ61, g9_σ61, g20_σ61, g22_σ61, g23_σ61, g24_σ61, g25_σ61]); omega, fun _ => (u4 (u40 y48).1.1).1.1, k91.1, k91.2⟩ | exact absurd (u40 y48).1.1 n33, g7_σ61, g9_σ61, g20_σ61, g22_σ61, g23_σ61, g24_σ61, g25_σ61⟩)⟩
      · have qhc64 := hqv62.2 hc64
        have y48 := qhc64
        refine ok_gR (v := 231) hT rfl (hR 218 26 rfl) ?_
        refine ok_gR (v := 231) hT rfl (hR 218 26 rfl) ?_
        refine ok_aIn rfl (by ((try simp only [g7_σ61, g9_σ61, g20_σ61, g22_σ61, g23_σ61, g24_σ61, g25_σ61])); first | omega | decide | (simp only [Int32.le_iff_toInt_le, Int32.lt_iff_toInt_lt, ti_add, ti_sub, ti_mul, Int32.reduceToInt] at *; omega)) (by ((try simp only [g7_σ61, g9_σ61, g20_σ61, g22_σ61, g23_σ61, g24_σ61, g25_σ61])); first | omega | decide | (simp only [Int32.le_iff_toInt_le, Int32.lt_iff_toInt_lt, ti_add, ti_sub, ti_mul, Int32.reduceToInt] at *; omega)) (fun v67 ev67 => ?_)
        have r63 : σ61.1 231 = σ0.1 231 := r231_σ61
        have ev63 : v67 = σ0.1 231 2 := by rw [ev67, r63]; rfl
        have i63 := ti13 (x := v67) (by rw [ev63]; omega) (by rw [ev63]; omega)
        refine ok_s14 hT rfl (by decide) (by rw [i63.1, ev63]; omega) (by rw [i63.1, ev63]; omega) (fun σ68 eσ68 hOσ68 hT => ?_)
        have e66 := eσ68
        have hK : TOK σ68.1 := TOK_tr hOσ68 (by decide) (by decide) hK
        have g7_σ68 : σ68.1 218 7 = (σ0.1 218 7) := (congrFun (hOσ68.2 218 (by decide)) 7).trans g7_σ61
        have g9_σ68 : σ68.1 218 9 = (σ0.1 218 9) := (congrFun (hOσ68.2 218 (by decide)) 9).trans g9_σ61
        have g10_σ68 : σ68.1 218 10 = (σ61.1 218 10) := congrFun (hOσ68.2 218 (by decide)) 10
        have g11_σ68 : σ68.1 218 11 = (σ61.1 218 11) := congrFun (hOσ68.2 218 (by decide)) 11
        have g12_σ68 : σ68.1 218 12 = (σ61.1 218 12) := congrFun (hOσ68.2 218 (by decide)) 12
        have g13_σ68 : σ68.1 218 13 = (σ61.1 218 13) := congrFun (hOσ68.2 218 (by decide)) 13
        have g14_σ68 : σ68.1 218 14 = (σ61.1 218 14) := congrFun (hOσ68.2 218 (by decide)) 14
        have g15_σ68 : σ68.1 218 15 = (σ61.1 218 15) := congrFun (hOσ68.2 218 (by decide)) 15
        have g20_σ68 : σ68.1 218 20 = (σ0.1 218 20) := (congrFun (hOσ68.2 218 (by decide)) 20).trans g20_σ61
        have g22_σ68 : σ68.1 218 22 = (σ0.1 218 22) := (congrFun (hOσ68.2 218 (by decide)) 22).trans g22_σ61
        have g23_σ68 : σ68.1 218 23 = (σ0.1 218 23) := (congrFun (hOσ68.2 218 (by decide)) 23).trans g23_σ61
        have g24_σ68 : σ68.1 218 24 = (σ0.1 218 24) := (congrFun (hOσ68.2 218 (by decide)) 24).trans g24_σ61
        have g25_σ68 : σ68.1 218 25 = (σ0.1 218 25) := (congrFun (hOσ68.2 218 (by decide)) 25).trans g25_σ61
        refine ok_gR (v := 231) hT rfl (hR 218 26 rfl) ?_
        refine ok_gR (v := 231) hT rfl (hR 218 26 rfl) ?_
        refine ok_aIn rfl (by ((try simp only [g7_σ68, g9_σ68, g10_σ68, g11_σ68, g12_σ68, g13_σ68, g14_σ68, g15_σ68, g20_σ68, g22_σ68, g23_σ68, g24_σ68, g25_σ68])); first | omega | decide | (simp only [Int32.le_iff_toInt_le, Int32.lt_iff_toInt_lt, ti_add, ti_sub, ti_mul, Int32.reduceToInt] at *; omega)) (by ((try simp only [g7_σ68, g9_σ68, g10_σ68, g11_σ68, g12_σ68, g13_σ68, g14_σ68, g15_σ68, g20_σ68, g22_σ68, g23_σ68, g24_σ68, g25_σ68])); first | omega | decide | (simp only [Int32.le_iff_toInt_le, Int32.lt_iff_toInt_lt, ti_add, ti_sub, ti_mul, Int32.reduceToInt] at *; omega)) (fun v71 ev71 => ?_)
        have ev78 : v71 = σ0.1 231 2 := by rw [ev71]; refine (zI_atN e66 (by rw [i63.2]; show 2 ≠ _; omega)).trans (congrFun r63 2)
        have i78 := ti23 (x := v71) (by rw [ev78]; omega) (by rw [ev78]; omega)
        refine ok_s14 hT rfl (by decide) (by rw [i78.1, ev78]; omega) (by rw [i78.1, ev78]; omega) (fun σ72 eσ72 hOσ72 hT => ?_)
        have e81 := eσ72
        have hK : TOK σ72.1 := TOK_tr hOσ72 (by decide) (by decide) hK
        have g7_σ72 : σ72.1 218 7 = (σ0.1 218 7) := (congrFun (hOσ72.2 218 (by decide)) 7).trans g7_σ68
        have g9_σ72 : σ72.1 218 9 = (σ0.1 218 9) := (congrFun (hOσ72.2 218 (by decide)) 9).trans g9_σ68
        have g10_σ72 : σ72.1 218 10 = (σ61.1 218 10) := (congrFun (hOσ72.2 218 (by decide)) 10).trans g10_σ68
        have g11_σ72 : σ72.1 218 11 = (σ61.1 218 11) := (congrFun (hOσ72.2 218 (by decide)) 11).trans g11_σ68
        have g12_σ72 : σ72.1 218 12 = (σ61.1 218 12) := (congrFun (hOσ72.2 218 (by decide)) 12).trans g12_σ68
        have g13_σ72 : σ72.1 218 13 = (σ61.1 218 13) := (congrFun (hOσ72.2 218 (by decide)) 13).trans g13_σ68
        have g14_σ72 : σ72.1 218 14 = (σ61.1 218 14) := (congrFun (hOσ72.2 218 (by decide)) 14).trans g14_σ68
        have g15_σ72 : σ72.1 218 15 = (σ61.1 218 15) := (congrFun (hOσ72.2 218 (by decide)) 15).trans g15_σ68
        have g20_σ72 : σ72.1 218 20 = (σ0.1 218 20) := (congrFun (hOσ72.2 218 (by decide)) 20).trans g20_σ68
        have g22_σ72 : σ72.1 218 22 = (σ0.1 218 22) := (congrFun (hOσ72.2 218 (by decide)) 22).trans g22_σ68
        have g23_σ72 : σ72.1 218 23 = (σ0.1 218 23) := (congrFun (hOσ72.2 218 (by decide)) 23).trans g23_σ68
        have g24_σ72 : σ72.1 218 24 = (σ0.1 218 24) := (congrFun (hOσ72.2 218 (by decide)) 24).trans g24_σ68
        have g25_σ72 : σ72.1 218 25 = (σ0.1 218 25) := (congrFun (hOσ72.2 218 (by decide)) 25).trans g25_σ68
        refine ok_gR (v := 231) hT rfl (hR 218 26 rfl) ?_
        refine ok_aIn rfl (by ((try simp only [g7_σ72, g9_σ72, g10_σ72, g11_σ72, g12_σ72, g13_σ72, g14_σ72, g15_σ72, g20_σ72, g22_σ72, g23_σ72, g24_σ72, g25_σ72])); first | omega | decide | (simp only [Int32.le_iff_toInt_le, Int32.lt_iff_toInt_lt, ti_add, ti_sub, ti_mul, Int32.reduceToInt] at *; omega)) (by ((try simp only [g7_σ72, g9_σ72, g10_σ72, g11_σ72, g12_σ72, g13_σ72, g14_σ72, g15_σ72, g20_σ72, g22_σ72, g23_σ72, g24_σ72, g25_σ72])); first | omega | decide | (simp only [Int32.le_iff_toInt_le, Int32.lt_iff_toInt_lt, ti_add, ti_sub, ti_mul, Int32.reduceToInt] at *; omega)) (fun v74 ev74 => ?_)
        have ev88 : v74 = σ0.1 231 2 := by rw [ev74]; refine (zI_atN e81 (by rw [i78.2]; show 2 ≠ _; omega)).trans ((zI_atN e66 (by rw [i63.2]; show 2 ≠ _; omega)).trans (congrFun r63 2))
        have s88 : (v74 + 1).toInt = (σ0.1 231 2).toInt + 1 := by rw [ti_add, ev88]; simp only [Int32.reduceToInt]; omega
        refine ok_s14 hT rfl (by decide) (by ((try simp only [g7_σ72, g9_σ72, g10_σ72, g11_σ72, g12_σ72, g13_σ72, g14_σ72, g15_σ72, g20_σ72, g22_σ72, g23_σ72, g24_σ72, g25_σ72])); first | omega | decide | (simp only [Int32.le_iff_toInt_le, Int32.lt_iff_toInt_lt, ti_add, ti_sub, ti_mul, Int32.reduceToInt] at *; omega)) (by ((try simp only [g7_σ72, g9_σ72, g10_σ72, g11_σ72, g12_σ72, g13_σ72, g14_σ72, g15_σ72, g20_σ72, g22_σ72, g23_σ72, g24_σ72, g25_σ72])); first | omega | decide | (simp only [Int32.le_iff_toInt_le, Int32.lt_iff_toInt_lt, ti_add, ti_sub, ti_mul, Int32.reduceToInt] at *; omega)) (fun σ75 eσ75 hOσ75 hT => ?_)
        have k91 := FW_edge r63 e66 e81 eσ75 (by rw [i63.2, ev63]) (by rw [i78.2, ev78]) rfl b4 b40 s88 hF h2
        have hK : TOK σ75.1 := TOK_tr hOσ75 (by decide) (by decide) hK
        have g7_σ75 : σ75.1 218 7 = (σ0.1 218 7) := (congrFun (hOσ75.2 218 (by decide)) 7).trans g7_σ72
        have g9_σ75 : σ75.1 218 9 = (σ0.1 218 9) := (congrFun (hOσ75.2 218 (by decide)) 9).trans g9_σ72
        have g10_σ75 : σ75.1 218 10 = (σ61.1 218 10) := (congrFun (hOσ75.2 218 (by decide)) 10).trans g10_σ72
        have g11_σ75 : σ75.1 218 11 = (σ61.1 218 11) := (congrFun (hOσ75.2 218 (by decide)) 11).trans g11_σ72
        have g12_σ75 : σ75.1 218 12 = (σ61.1 218 12) := (congrFun (hOσ75.2 218 (by decide)) 12).trans g12_σ72
        have g13_σ75 : σ75.1 218 13 = (σ61.1 218 13) := (congrFun (hOσ75.2 218 (by decide)) 13).trans g13_σ72
        have g14_σ75 : σ75.1 218 14 = (σ61.1 218 14) := (congrFun (hOσ75.2 218 (by decide)) 14).trans g14_σ72
        have g15_σ75 : σ75.1 218 15 = (σ61.1 218 15) := (congrFun (hOσ75.2 218 (by decide)) 15).trans g15_σ72
        have g20_σ75 : σ75.1 218 20 = (σ0.1 218 20) := (congrFun (hOσ75.2 218 (by decide)) 20).trans g20_σ72
        have g22_σ75 : σ75.1 218 22 = (σ0.1 218 22) := (congrFun (hOσ75.2 218 (by decide)) 22).trans g22_σ72
        have g23_σ75 : σ75.1 218 23 = (σ0.1 218 23) := (congrFun (hOσ75.2 218 (by decide)) 23).trans g23_σ72
        have g24_σ75 : σ75.1 218 24 = (σ0.1 218 24) := (congrFun (hOσ75.2 218 (by decide)) 24).trans g24_σ72
        have g25_σ75 : σ75.1 218 25 = (σ0.1 218 25) := (congrFun (hOσ75.2 218 (by decide)) 25).trans g25_σ72
        exact ok_some ⟨hT, (show (TOK σ75.1 ∧ (σ0.1 218 11).toInt ≤ (σ75.1 218 11).toInt ∧ (σ75.1 218 14 = 0 → σ0.1 218 14 = 0) ∧ FW (σ75.1 231) ∧ σ75.1 231 1 = σ0.1 231 1) ∧ (σ75.1 218 7 = σ0.1 218 7 ∧ σ75.1 218 9 = σ0.1 218 9 ∧ σ75.1 218 20 = σ0.1 218 20 ∧ σ75.1 218 22 = σ0.1 218 22 ∧ σ75.1 218 23 = σ0.1 218 23 ∧ σ75.1 218 24 = σ0.1 218 24 ∧ σ75.1 218 25 = σ0.1 218 25) from ⟨by first | exact ⟨hK, by (try simp only [g7_σ75, g9_σ75, g10_σ75, g11_σ75, g12_σ75, g13_σ75, g14_σ75, g15_σ75, g20_σ75, g22_σ75, g23_σ75, g24_σ75, g25_σ75]); omega, fun q => absurd q (by (try simp only [g7_σ75, g9_σ75, g10_σ75, g11_σ75, g12_σ75, g13_σ75, g14_σ75, g15_σ75, g20_σ75, g22_σ75, g23_σ75, g24_σ75, g25_σ75]); exact n48), by (first | rw [rfl] | skip); exact hF, congrFun rfl 1⟩ | exact ⟨hK, by (try simp only [g7_σ75, g9_σ75, g10_σ75, g11_σ75, g12_σ75, g13_σ75, g14_σ75, g15_σ75, g20_σ75, g22_σ75, g23_σ75, g24_σ75, g25_σ75]); omega, fun _ => (u4 (u40 y48).1.1).1.1, k91.1, k91.2⟩ | exact absurd (u40 y48).1.1 n33, g7_σ75, g9_σ75, g20_σ75, g22_σ75, g23_σ75, g24_σ75, g25_σ75⟩)⟩

set_option maxHeartbeats 4000000 in
set_option maxRecDepth 100000 in
theorem s_X12_readsLet {N : Nat} (hN : 1048576 ≤ N)  {σ0 : zS}  (hR : RF σ0.2.2) (hK : TOK σ0.1) (hY : BYT (σ0.1 224)) (hB : ZB σ0.1) (hF : FW (σ0.1 231)) : Ok (f_X12_readsLet N 218 σ0) (fun r => Tr [218, 226, 227, 228, 229, 230, 232] σ0 r.2 ∧ ((TOK r.2.1 ∧ (σ0.1 218 11).toInt ≤ (r.2.1 218 11).toInt ∧ (r.2.1 218 14 = 0 → σ0.1 218 14 = 0) ∧ ZB r.2.1) ∧ (r.2.1 218 7 = σ0.1 218 7 ∧ r.2.1 218 9 = σ0.1 218 9))) := by
  have hT : Tr [218, 226, 227, 228, 229, 230, 232] σ0 σ0 := Tr.rf
  have hK1 := hK.1
  rw [f_X12_readsLet.eq_1]
  refine ok_gC rfl ?_
  refine ok_zbT (Q := fun V σ => (TOK σ.1 ∧ (σ0.1 218 11).toInt ≤ (σ.1 218 11).toInt ∧ (σ.1 218 14 = 0 → (σ0.1 218 14 = 0 ∧ (σ0.1 218 11).toInt < (σ.1 218 11).toInt) ∧ (0 : Int32).toInt ≤ V.toInt ∧ V.toInt ≤ (9 : Int32).toInt) ∧ (¬ σ.1 218 14 = 0 → V = 0)) ∧ (σ.1 218 7 = σ0.1 218 7 ∧ σ.1 218 9 = σ0.1 218 9 ∧ σ.1 218 20 = σ0.1 218 20 ∧ σ.1 218 22 = σ0.1 218 22 ∧ σ.1 218 23 = σ0.1 218 23 ∧ σ.1 218 24 = σ0.1 218 24 ∧ σ.1 218 25 = σ0.1 218 25)) hT (s_X12_number hN (hR.tr hT) (hK) (by rw [hT.2 224 (by decide)]; exact hY)) (by decide) (fun v1 σ2 hOσ2 hT hqv1 => ?_)
  have hqv1 : (TOK σ2.1 ∧ (σ0.1 218 11).toInt ≤ (σ2.1 218 11).toInt ∧ (σ2.1 218 14 = 0 → (σ0.1 218 14 = 0 ∧ (σ0.1 218 11).toInt < (σ2.1 218 11).toInt) ∧ (0 : Int32).toInt ≤ v1.toInt ∧ v1.toInt ≤ (9 : Int32).toInt) ∧ (¬ σ2.1 218 14 = 0 → v1 = 0)) ∧ (σ2.1 218 7 = σ0.1 218 7 ∧ σ2.1 218 9 = σ0.1 218 9 ∧ σ2.1 218 20 = σ0.1 218 20 ∧ σ2.1 218 22 = σ0.1 218 22 ∧ σ2.1 218 23 = σ0.1 218 23 ∧ σ2.1 218 24 = σ0.1 218 24 ∧ σ2.1 218 25 = σ0.1 218 25) := hqv1
  have hkv1 := hqv1
  have hqv1 := hqv1.1
  have hK : TOK σ2.1 := by first | exact hqv1.1 | exact TOK_p eσ2 (by decide) hK
  have hB : ZB σ2.1 := ZB.tr hOσ2 (by decide) hB
  have g7_σ2 : σ2.1 218 7 = (σ0.1 218 7) := hkv1.2.1
  have g9_σ2 : σ2.1 218 9 = (σ0.1 218 9) := hkv1.2.2.1
  have g20_σ2 : σ2.1 218 20 = (σ0.1 218 20) := hkv1.2.2.2.1
  have g22_σ2 : σ2.1 218 22 = (σ0.1 218 22) := hkv1.2.2.2.2.1
  have g23_σ2 : σ2.1 218 23 = (σ0.1 218 23) := hkv1.2.2.2.2.2.1
  have g24_σ2 : σ2.1 218 24 = (σ0.1 218 24) := hkv1.2.2.2.2.2.2.1
  have g25_σ2 : σ2.1 218 25 = (σ0.1 218 25) := hkv1.2.2.2.2.2.2.2
  have m4 := hqv1.2.1
  have u4 := hqv1.2.2.1
  have b4 : 0 ≤ v1.toInt ∧ v1.toInt ≤ 9 := by by_cases h9 : σ2.1 218 14 = 0; have h8 := (hqv1.2.2.1 h9).2; simp only [Int32.reduceToInt] at h8; omega; rw [hqv1.2.2.2 h9]; decide
  have q4 := p1024 (p := v1) rfl b4.1 (by omega)
  refine ok_gC rfl ?_
  refine ok_zbT (Q := fun V σ => (TOK σ.1 ∧ (σ2.1 218 11).toInt ≤ (σ.1 218 11).toInt ∧ (σ.1 218 14 = 0 → σ2.1 218 14 = 0 ∧ (σ2.1 218 11).toInt < (σ.1 218 11).toInt)) ∧ (σ.1 218 7 = σ2.1 218 7 ∧ σ.1 218 9 = σ2.1 218 9 ∧ σ.1 218 20 = σ2.1 218 20 ∧ σ.1 218 22 = σ2.1 218 22 ∧ σ.1 218 23 = σ2.1 218 23 ∧ σ.1 218 24 = σ2.1 218 24 ∧ σ.1 218 25 = σ2.1 218 25)) hT (s_X12_needsSign hN (hR.tr hT) (hK) (by rw [hT.2 224 (by decide)]; exact hY) (by decide)) (by decide) (fun v3 σ4 hOσ4 hT hqv3 => ?_)
  have hqv3 : (TOK σ4.1 ∧ (σ2.1 218 11).toInt ≤ (σ4.1 218 11).toInt ∧ (σ4.1 218 14 = 0 → σ2.1 218 14 = 0 ∧ (σ2.1 218 11).toInt < (σ4.1 218 11).toInt)) ∧ (σ4.1 218 7 = σ2.1 218 7 ∧ σ4.1 218 9 = σ2.1 218 9 ∧ σ4.1 218 20 = σ2.1 218 20 ∧ σ4.1 218 22 = σ2.1 218 22 ∧ σ4.1 218 23 = σ2.1 218 23 ∧ σ4.1 218 24 = σ2.1 218 24 ∧ σ4.1 218 25 = σ2.1 218 25) := hqv3
  have hkv3 := hqv3
  have hqv3 := hqv3.1
  have hK : TOK σ4.1 := by first | exact hqv3.1 | exact TOK_p eσ4 (by decide) hK
  have hB : ZB σ4.1 := ZB.tr hOσ4 (by decide) hB
  try simp only [g7_σ2, g9_σ2, g20_σ2, g22_σ2, g23_σ2, g24_σ2, g25_σ2] at hqv3
  have g7_σ4 : σ4.1 218 7 = (σ0.1 218 7) := (hkv3.2.1).trans g7_σ2
  have g9_σ4 : σ4.1 218 9 = (σ0.1 218 9) := (hkv3.2.2.1).trans g9_σ2
  have g20_σ4 : σ4.1 218 20 = (σ0.1 218 20) := (hkv3.2.2.2.1).trans g20_σ2
  have g22_σ4 : σ4.1 218 22 = (σ0.1 218 22) := (hkv3.2.2.2.2.1).trans g22_σ2
  have g23_σ4 : σ4.1 218 23 = (σ0.1 218 23) := (hkv3.2.2.2.2.2.1).trans g23_σ2
  have g24_σ4 : σ4.1 218 24 = (σ0.1 218 24) := (hkv3.2.2.2.2.2.2.1).trans g24_σ2
  have g25_σ4 : σ4.1 218 25 = (σ0.1 218 25) := (hkv3.2.2.2.2.2.2.2).trans g25_σ2
  have m11 := hqv3.2.1
  have u11 := hqv3.2.2
  refine ok_gC rfl ?_
  refine ok_zbX (Q := fun V => (V = 0 → ¬ σ4.1 218 14 = 0) ∧ (¬ V = 0 → σ4.1 218 14 = 0)) (x_X12_good) (fun v5 hqv5 => ?_)
  have hqv5 : (v5 = 0 → ¬ σ4.1 218 14 = 0) ∧ (¬ v5 = 0 → σ4.1 218 14 = 0) := hqv5
  try simp only [g7_σ4, g9_σ4, g20_σ4, g22_σ4, g23_σ4, g24_σ4, g25_σ4, hT.2 224 (by decide)] at hqv5
  refine ok_if (fun hc7 => ?_) (fun hc7 => ?_)
  · have qhc7 := hqv5.1 hc7
    have n18 := qhc7
    rw [J_X12_readsLet_35.eq_1]
    refine ok_lp (fun t : Int32 × zS => Tr [218, 226, 227, 228, 229, 230, 232] σ0 (t.2) ∧ (0 ≤ (t.1).toInt) ∧ (TOK (t.2).1) ∧ (ZB (t.2).1) ∧ ((t.2).1 218 7 = (σ0.1 218 7)) ∧ ((t.2).1 218 9 = (σ0.1 218 9)) ∧ ((t.2).1 218 10 = (σ4.1 218 10)) ∧ ((t.2).1 218 11 = (σ4.1 218 11)) ∧ ((t.2).1 218 12 = (σ4.1 218 12)) ∧ ((t.2).1 218 13 = (σ4.1 218 13)) ∧ ((t.2).1 218 14 = (σ4.1 218 14)) ∧ ((t.2).1 218 15 = (σ4.1 218 15)) ∧ ((t.2).1 218 20 = (σ0.1 218 20)) ∧ ((t.2).1 218 22 = (σ0.1 218 22)) ∧ ((t.2).1 218 23 = (σ0.1 218 23)) ∧ ((t.2).1 218 24 = (σ0.1 218 24)) ∧ ((t.2).1 218 25 = (σ0.1 218 25))) (fun t : Int32 × zS => (1024 - (t.1).toInt).toNat) (fun again8 t hI ih37_8 => ?_) N _ (show Tr [218, 226, 227, 228, 229, 230, 232] σ0 σ4 ∧ (0 ≤ (0 : Int32).toInt) ∧ (TOK σ4.1) ∧ (ZB σ4.1) ∧ (σ4.1 218 7 = (σ0.1 218 7)) ∧ (σ4.1 218 9 = (σ0.1 218 9)) ∧ (σ4.1 218 10 = (σ4.1 218 10)) ∧ (σ4.1 218 11 = (σ4.1 218 11)) ∧ (σ4.1 218 12 = (σ4.1 218 12)) ∧ (σ4.1 218 13 = (σ4.1 218 13)) ∧ (σ4.1 218 14 = (σ4.1 218 14)) ∧ (σ4.1 218 15 = (σ4.1 218 15)) ∧ (σ4.1 218 20 = (σ0.1 218 20)) ∧ (σ4.1 218 22 = (σ0.1 218 22)) ∧ (σ4.1 218 23 = (σ0.1 218 23)) ∧ (σ4.1 218 24 = (σ0.1 218 24)) ∧ (σ4.1 218 25 = (σ0.1 218 25)) from ⟨hT, (by decide), hK, hB, g7_σ4, g9_σ4, rfl, rfl, rfl, rfl, rfl, rfl, g20_σ4, g22_σ4, g23_σ4, g24_σ4, g25_σ4⟩) (show (1024 - (0 : Int32).toInt).toNat < N from (by simp only [Int32.reduceToInt]; omega))
    obtain ⟨x2_8, σ8⟩ := t
    have hI : Tr [218, 226, 227, 228, 229, 230, 232] σ0 σ8 ∧ (0 ≤ x2_8.toInt) ∧ (TOK σ8.1) ∧ (ZB σ8.1) ∧ (σ8.1 218 7 = (σ0.1 218 7)) ∧ (σ8.1 218 9 = (σ0.1 218 9)) ∧ (σ8.1 218 10 = (σ4.1 218 10)) ∧ (σ8.1 218 11 = (σ4.1 218 11)) ∧ (σ8.1 218 12 = (σ4.1 218 12)) ∧ (σ8.1 218 13 = (σ4.1 218 13)) ∧ (σ8.1 218 14 = (σ4.1 218 14)) ∧ (σ8.1 218 15 = (σ4.1 218 15)) ∧ (σ8.1 218 20 = (σ0.1 218 20)) ∧ (σ8.1 218 22 = (σ0.1 218 22)) ∧ (σ8.1 218 23 = (σ0.1 218 23)) ∧ (σ8.1 218 24 = (σ0.1 218 24)) ∧ (σ8.1 218 25 = (σ0.1 218 25)) := hI
    obtain ⟨hT, hI8, hK, hB, g7_σ8, g9_σ8, g10_σ8, g11_σ8, g12_σ8, g13_σ8, g14_σ8, g15_σ8, g20_σ8, g22_σ8, g23_σ8, g24_σ8, g25_σ8⟩ := hI
    rw [F_X12_readsLet_37.eq_1]
    refine ok_if (fun hc9 => ?_) (fun hc9 => ?_)
    · exact ok_some ⟨hT, (show (TOK σ8.1 ∧ (σ0.1 218 11).toInt ≤ (σ8.1 218 11).toInt ∧ (σ8.1 218 14 = 0 → σ0.1 218 14 = 0) ∧ ZB σ8.1) ∧ (σ8.1 218 7 = σ0.1 218 7 ∧ σ8.1 218 9 = σ0.1 218 9) from ⟨by first | exact ⟨hK, by (try simp only [g7_σ8, g9_σ8, g10_σ8, g11_σ8, g12_σ8, g13_σ8, g14_σ8, g15_σ8, g20_σ8, g22_σ8, g23_σ8, g24_σ8, g25_σ8]); omega, fun q => (u4 (u11 (u32 ((g14_σ8).symm.trans q))).1).1.1, hB⟩ | exact ⟨hK, by (try simp only [g7_σ8, g9_σ8, g10_σ8, g11_σ8, g12_σ8, g13_σ8, g14_σ8, g15_σ8, g20_σ8, g22_σ8, g23_σ8, g24_σ8, g25_σ8]); omega, fun q => absurd ((g14_σ8).symm.trans q) n18, hB⟩, g7_σ8, g9_σ8⟩)⟩
    · have l68 := hc9
      rw [Int32.le_iff_toInt_le] at l68
      try simp only [Int32.reduceToInt] at l68
      have s68 : (x2_8 + 1).toInt = x2_8.toInt + 1 := by rw [ti_add]; simp only [Int32.reduceToInt]; omega
      refine ok_gC rfl ?_
      refine ok_zbX (Q := fun V => (V = 0 → ¬ σ8.1 218 14 = 0) ∧ (¬ V = 0 → σ8.1 218 14 = 0)) (x_X12_good) (fun v10 hqv10 => ?_)
      have hqv10 : (v10 = 0 → ¬ σ8.1 218 14 = 0) ∧ (¬ v10 = 0 → σ8.1 218 14 = 0) := hqv10
      try simp only [g7_σ8, g9_σ8, g10_σ8, g11_σ8, g12_σ8, g13_σ8, g14_σ8, g15_σ8, g20_σ8, g22_σ8, g23_σ8, g24_σ8, g25_σ8, hT.2 224 (by decide)] at hqv10
      refine ok_if (fun hc12 => ?_) (fun hc12 => ?_)
      · have qhc12 := hqv10.1 hc12
        exact ok_some ⟨hT, (show (TOK σ8.1 ∧ (σ0.1 218 11).toInt ≤ (σ8.1 218 11).toInt ∧ (σ8.1 218 14 = 0 → σ0.1 218 14 = 0) ∧ ZB σ8.1) ∧ (σ8.1 218 7 = σ0.1 218 7 ∧ σ8.1 218 9 = σ0.1 218 9) from ⟨by first | exact ⟨hK, by (try simp only [g7_σ8, g9_σ8, g10_σ8, g11_σ8, g12_σ8, g13_σ8, g14_σ8, g15_σ8, g20_σ8, g22_σ8, g23_σ8, g24_σ8, g25_σ8]); omega, fun q => (u4 (u11 (u32 ((g14_σ8).symm.trans q))).1).1.1, hB⟩ | exact ⟨hK, by (try simp only [g7_σ8, g9_σ8, g10_σ8, g11_σ8, g12_σ8, g13_σ8, g14_σ8, g15_σ8, g20_σ8, g22_σ8, g23_σ8, g24_σ8, g25_σ8]); omega, fun q => absurd ((g14_σ8).symm.trans q) n18, hB⟩, g7_σ8, g9_σ8⟩)⟩
      · have qhc12 := hqv10.2 hc12
        refine ok_gR (v := 232) hT rfl (hR 218 27 rfl) ?_
        refine ok_gR (v := 226) hT rfl (hR 218 16 rfl) ?_
        refine ok_aIn rfl (by ((try simp only [g7_σ8, g9_σ8, g10_σ8, g11_σ8, g12_σ8, g13_σ8, g14_σ8, g15_σ8, g20_σ8, g22_σ8, g23_σ8, g24_σ8, g25_σ8])); first | omega | decide | (simp only [Int32.le_iff_toInt_le, Int32.lt_iff_toInt_lt, ti_add, ti_sub, ti_mul, Int32.reduceToInt] at *; omega)) (by ((try simp only [g7_σ8, g9_σ8, g10_σ8, g11_σ8, g12_σ8, g13_σ8, g14_σ8, g15_σ8, g20_σ8, g22_σ8, g23_σ8, g24_σ8, g25_σ8])); first | omega | decide | (simp only [Int32.le_iff_toInt_le, Int32.lt_iff_toInt_lt, ti_add, ti_sub, ti_mul, Int32.reduceToInt] at *; omega)) (fun v15 ev15 => ?_)
        have zv15 : v15 = 0 ∨ v15 = 1 := by rw [ev15]; exact hB 226 rfl _
        refine ok_s16 hT rfl (by decide) (by rw [ti_add, q4]; omega) (by rw [ti_add, q4]; omega) (fun σ16 eσ16 hOσ16 hT => ?_)
        have hK : TOK σ16.1 := TOK_tr hOσ16 (by decide) (by decide) hK
        have hB : ZB σ16.1 := by first | exact HQ.2.2.2 | exact ZB_s eσ16 hB
        have g7_σ16 : σ16.1 218 7 = (σ0.1 218 7) := (congrFun (hOσ16.2 218 (by decide)) 7).trans g7_σ8
        have g9_σ16 : σ16.1 218 9 = (σ0.1 218 9) := (congrFun (hOσ16.2 218 (by decide)) 9).trans g9_σ8
        have g10_σ16 : σ16.1 218 10 = (σ4.1 218 10) := (congrFun (hOσ16.2 218 (by decide)) 10).trans g10_σ8
        have g11_σ16 : σ16.1 218 11 = (σ4.1 218 11) := (congrFun (hOσ16.2 218 (by decide)) 11).trans g11_σ8
        have g12_σ16 : σ16.1 218 12 = (σ4.1 218 12) := (congrFun (hOσ16.2 218 (by decide)) 12).trans g12_σ8
        have g13_σ16 : σ16.1 218 13 = (σ4.1 218 13) := (congrFun (hOσ16.2 218 (by decide)) 13).trans g13_σ8
        have g14_σ16 : σ16.1 218 14 = (σ4.1 218 14) := (congrFun (hOσ16.2 218 (by decide)) 14).trans g14_σ8
        have g15_σ16 : σ16.1 218 15 = (σ4.1 218 15) := (congrFun (hOσ16.2 218 (by decide)) 15).trans g15_σ8
        have g20_σ16 : σ16.1 218 20 = (σ0.1 218 20) := (congrFun (hOσ16.2 218 (by decide)) 20).trans g20_σ8
        have g22_σ16 : σ16.1 218 22 = (σ0.1 218 22) := (congrFun (hOσ16.2 218 (by decide)) 22).trans g22_σ8
        have g23_σ16 : σ16.1 218 23 = (σ0.1 218 23) := (congrFun (hOσ16.2 218 (by decide)) 23).trans g23_σ8
        have g24_σ16 : σ16.1 218 24 = (σ0.1 218 24) := (congrFun (hOσ16.2 218 (by decide)) 24).trans g24_σ8
        have g25_σ16 : σ16.1 218 25 = (σ0.1 218 25) := (congrFun (hOσ16.2 218 (by decide)) 25).trans g25_σ8
        exact ih37_8 (x2_8 + 1, σ16) (show Tr [218, 226, 227, 228, 229, 230, 232] σ0 σ16 ∧ (0 ≤ (x2_8 + 1).toInt) ∧ (TOK σ16.1) ∧ (ZB σ16.1) ∧ (σ16.1 218 7 = (σ0.1 218 7)) ∧ (σ16.1 218 9 = (σ0.1 218 9)) ∧ (σ16.1 218 10 = (σ4.1 218 10)) ∧ (σ16.1 218 11 = (σ4.1 218 11)) ∧ (σ16.1 218 12 = (σ4.1 218 12)) ∧ (σ16.1 218 13 = (σ4.1 218 13)) ∧ (σ16.1 218 14 = (σ4.1 218 14)) ∧ (σ16.1 218 15 = (σ4.1 218 15)) ∧ (σ16.1 218 20 = (σ0.1 218 20)) ∧ (σ16.1 218 22 = (σ0.1 218 22)) ∧ (σ16.1 218 23 = (σ0.1 218 23)) ∧ (σ16.1 218 24 = (σ0.1 218 24)) ∧ (σ16.1 218 25 = (σ0.1 218 25)) from ⟨hT, (by rw [s68]; omega), hK, hB, g7_σ16, g9_σ16, g10_σ16, g11_σ16, g12_σ16, g13_σ16, g14_σ16, g15_σ16, g20_σ16, g22_σ16, g23_σ16, g24_σ16, g25_σ16⟩) (show (1024 - (x2_8 + 1).toInt).toNat < (1024 - x2_8.toInt).toNat from (by rw [s68]; omega))
  · have qhc7 := hqv5.2 hc7
    refine ok_gR (v := 231) hT rfl (hR 218 26 rfl) ?_
    refine ok_aIc (j := 0) hT rfl (by decide) rfl (by decide) (by decide) ?_
    refine ok_gR (v := 232) hT rfl (hR 218 27 rfl) ?_
    refine ok_gC rfl ?_
    refine ok_zbT (Q := fun V σ => (TOK σ.1 ∧ (σ4.1 218 11).toInt ≤ (σ.1 218 11).toInt ∧ (σ.1 218 14 = 0 → σ4.1 218 14 = 0) ∧ ZB σ.1) ∧ (σ.1 218 7 = σ4.1 218 7 ∧ σ.1 218 9 = σ4.1 218 9)) hT (s_X12_readsSum_232 hN (hR.tr hT) (hK) (by rw [hT.2 224 (by decide)]; exact hY) (hB) (hF.1.1)) (by decide) (fun v20 σ21 hOσ21 hT hqv20 => ?_)
    have hqv20 : (TOK σ21.1 ∧ (σ4.1 218 11).toInt ≤ (σ21.1 218 11).toInt ∧ (σ21.1 218 14 = 0 → σ4.1 218 14 = 0) ∧ ZB σ21.1) ∧ (σ21.1 218 7 = σ4.1 218 7 ∧ σ21.1 218 9 = σ4.1 218 9) := hqv20
    have hkv20 := hqv20
    have hqv20 := hqv20.1
    have hK : TOK σ21.1 := by first | exact hqv20.1 | exact TOK_p eσ21 (by decide) hK
    have hB : ZB σ21.1 := by first | exact hqv20.2.2.2 | exact ZB_s eσ21 hB
    try simp only [g7_σ4, g9_σ4, g20_σ4, g22_σ4, g23_σ4, g24_σ4, g25_σ4] at hqv20
    have g7_σ21 : σ21.1 218 7 = (σ0.1 218 7) := (hkv20.2.1).trans g7_σ4
    have g9_σ21 : σ21.1 218 9 = (σ0.1 218 9) := (hkv20.2.2).trans g9_σ4
    have m32 := hqv20.2.1
    have u32 := hqv20.2.2.1
    rw [J_X12_readsLet_35.eq_1]
    refine ok_lp (fun t : Int32 × zS => Tr [218, 226, 227, 228, 229, 230, 232] σ0 (t.2) ∧ (0 ≤ (t.1).toInt) ∧ (TOK (t.2).1) ∧ (ZB (t.2).1) ∧ ((t.2).1 218 7 = (σ0.1 218 7)) ∧ ((t.2).1 218 9 = (σ0.1 218 9)) ∧ ((t.2).1 218 10 = (σ21.1 218 10)) ∧ ((t.2).1 218 11 = (σ21.1 218 11)) ∧ ((t.2).1 218 12 = (σ21.1 218 12)) ∧ ((t.2).1 218 13 = (σ21.1 218 13)) ∧ ((t.2).1 218 14 = (σ21.1 218 14)) ∧ ((t.2).1 218 15 = (σ21.1 218 15)) ∧ ((t.2).1 218 20 = (σ21.1 218 20)) ∧ ((t.2).1 218 22 = (σ21.1 218 22)) ∧ ((t.2).1 218 23 = (σ21.1 218 23)) ∧ ((t.2).1 218 24 = (σ21.1 218 24)) ∧ ((t.2).1 218 25 = (σ21.1 218 25))) (fun t : Int32 × zS => (1024 - (t.1).toInt).toNat) (fun again22 t hI ih37_22 => ?_) N _ (show Tr [218, 226, 227, 228, 229, 230, 232] σ0 σ21 ∧ (0 ≤ (0 : Int32).toInt) ∧ (TOK σ21.1) ∧ (ZB σ21.1) ∧ (σ21.1 218 7 = (σ0.1 218 7)) ∧ (σ21.1 218 9 = (σ0.1 218 9)) ∧ (σ21.1 218 10 = (σ21.1 218 10)) ∧ (σ21.1 218 11 = (σ21.1 218 11)) ∧ (σ21.1 218 12 = (σ21.1 218 12)) ∧ (σ21.1 218 13 = (σ21.1 218 13)) ∧ (σ21.1 218 14 = (σ21.1 218 14)) ∧ (σ21.1 218 15 = (σ21.1 218 15)) ∧ (σ21.1 218 20 = (σ21.1 218 20)) ∧ (σ21.1 218 22 = (σ21.1 218 22)) ∧ (σ21.1 218 23 = (σ21.1 218 23)) ∧ (σ21.1 218 24 = (σ21.1 218 24)) ∧ (σ21.1 218 25 = (σ21.1 218 25)) from ⟨hT, (by decide), hK, hB, g7_σ21, g9_σ21, rfl, rfl, rfl, rfl, rfl, rfl, rfl, rfl, rfl, rfl, rfl⟩) (show (1024 - (0 : Int32).toInt).toNat < N from (by simp only [Int32.reduceToInt]; omega))
    obtain ⟨x2_22, σ22⟩ := t
    have hI : Tr [218, 226, 227, 228, 229, 230, 232] σ0 σ22 ∧ (0 ≤ x2_22.toInt) ∧ (TOK σ22.1) ∧ (ZB σ22.1) ∧ (σ22.1 218 7 = (σ0.1 218 7)) ∧ (σ22.1 218 9 = (σ0.1 218 9)) ∧ (σ22.1 218 10 = (σ21.1 218 10)) ∧ (σ22.1 218 11 = (σ21.1 218 11)) ∧ (σ22.1 218 12 = (σ21.1 218 12)) ∧ (σ22.1 218 13 = (σ21.1 218 13)) ∧ (σ22.1 218 14 = (σ21.1 218 14)) ∧ (σ22.1 218 15 = (σ21.1 218 15)) ∧ (σ22.1 218 20 = (σ21.1 218 20)) ∧ (σ22.1 218 22 = (σ21.1 218 22)) ∧ (σ22.1 218 23 = (σ21.1 218 23)) ∧ (σ22.1 218 24 = (σ21.1 218 24)) ∧ (σ22.1 218 25 = (σ21.1 218 25)) := hI
    obtain ⟨hT, hI22, hK, hB, g7_σ22, g9_σ22, g10_σ22, g11_σ22, g12_σ22, g13_σ22, g14_σ22, g15_σ22, g20_σ22, g22_σ22, g23_σ22, g24_σ22, g25_σ22⟩ := hI
    rw [F_X12_readsLet_37.eq_1]
    refine ok_if (fun hc23 => ?_) (fun hc23 => ?_)
    · exact ok_some ⟨hT, (show (TOK σ22.1 ∧ (σ0.1 218 11).toInt ≤ (σ22.1 218 11).toInt ∧ (σ22.1 218 14 = 0 → σ0.1 218 14 = 0) ∧ ZB σ22.1) ∧ (σ22.1 218 7 = σ0.1 218 7 ∧ σ22.1 218 9 = σ0.1 218 9) from ⟨by first | exact ⟨hK, by (try simp only [g7_σ22, g9_σ22, g10_σ22, g11_σ22, g12_σ22, g13_σ22, g14_σ22, g15_σ22, g20_σ22, g22_σ22, g23_σ22, g24_σ22, g25_σ22]); omega, fun q => (u4 (u11 (u32 ((g14_σ22).symm.trans q))).1).1.1, hB⟩ | exact ⟨hK, by (try simp only [g7_σ22, g9_σ22, g10_σ22, g11_σ22, g12_σ22, g13_σ22, g14_σ22, g15_σ22, g20_σ22, g22_σ22, g23_σ22, g24_σ22, g25_σ22]); omega, fun q => absurd ((g14_σ22).symm.trans q) n18, hB⟩, g7_σ22, g9_σ22⟩)⟩
    · have l68 := hc23
      rw [Int32.le_iff_toInt_le] at l68
      try simp only [Int32.reduceToInt] at l68
      have s68 : (x2_22 + 1).toInt = x2_22.toInt + 1 := by rw [ti_add]; simp only [Int32.reduceToInt]; omega
      refine ok_gC rfl ?_
      refine ok_zbX (Q := fun V => (V = 0 → ¬ σ22.1 218 14 = 0) ∧ (¬ V = 0 → σ22.1 218 14 = 0)) (x_X12_good) (fun v24 hqv24 => ?_)
      have hqv24 : (v24 = 0 → ¬ σ22.1 218 14 = 0) ∧ (¬ v24 = 0 → σ22.1 218 14 = 0) := hqv24
      try simp only [g7_σ22, g9_σ22, g10_σ22, g11_σ22, g12_σ22, g13_σ22, g14_σ22, g15_σ22, g20_σ22, g22_σ22, g23_σ22, g24_σ22, g25_σ22, hT.2 224 (by decide)] at hqv24
      refine ok_if (fun hc26 => ?_) (fun hc26 => ?_)
      · have qhc26 := hqv24.1 hc26
        exact ok_some ⟨hT, (show (TOK σ22.1 ∧ (σ0.1 218 11).toInt ≤ (σ22.1 218 11).toInt ∧ (σ22.1 218 14 = 0 → σ0.1 218 14 = 0) ∧ ZB σ22.1) ∧ (σ22.1 218 7 = σ0.1 218 7 ∧ σ22.1 218 9 = σ0.1 218 9) from ⟨by first | exact ⟨hK, by (try simp only [g7_σ22, g9_σ22, g10_σ22, g11_σ22, g12_σ22, g13_σ22, g14_σ22, g15_σ22, g20_σ22, g22_σ22, g23_σ22, g24_σ22, g25_σ22]); omega, fun q => (u4 (u11 (u32 ((g14_σ22).symm.trans q))).1).1.1, hB⟩ | exact ⟨hK, by (try simp only [g7_σ22, g9_σ22, g10_σ22, g11_σ22, g12_σ22, g13_σ22, g14_σ22, g15_σ22, g20_σ22, g22_σ22, g23_σ22, g24_σ22, g25_σ22]); omega, fun q => absurd ((g14_σ22).symm.trans q) n18, hB⟩, g7_σ22, g9_σ22⟩)⟩
      · have qhc26 := hqv24.2 hc26
        refine ok_gR (v := 232) hT rfl (hR 218 27 rfl) ?_
        refine ok_gR (v := 226) hT rfl (hR 218 16 rfl) ?_
        refine ok_aIn rfl (by ((try simp only [g7_σ22, g9_σ22, g10_σ22, g11_σ22, g12_σ22, g13_σ22, g14_σ22, g15_σ22, g20_σ22, g22_σ22, g23_σ22, g24_σ22, g25_σ22])); first | omega | decide | (simp only [Int32.le_iff_toInt_le, Int32.lt_iff_toInt_lt, ti_add, ti_sub, ti_mul, Int32.reduceToInt] at *; omega)) (by ((try simp only [g7_σ22, g9_σ22, g10_σ22, g11_σ22, g12_σ22, g13_σ22, g14_σ22, g15_σ22, g20_σ22, g22_σ22, g23_σ22, g24_σ22, g25_σ22])); first | omega | decide | (simp only [Int32.le_iff_toInt_le, Int32.lt_iff_toInt_lt, ti_add, ti_sub, ti_mul, Int32.reduceToInt] at *; omega)) (fun v29 ev29 => ?_)
        have zv29 : v29 = 0 ∨ v29 = 1 := by rw [ev29]; exact hB 226 rfl _
        refine ok_s16 hT rfl (by decide) (by rw [ti_add, q4]; omega) (by rw [ti_add, q4]; omega) (fun σ30 eσ30 hOσ30 hT => ?_)
        have hK : TOK σ30.1 := TOK_tr hOσ30 (by decide) (by decide) hK
        have hB : ZB σ30.1 := by first | exact HQ.2.2.2 | exact ZB_s eσ30 hB
        have g7_σ30 : σ30.1 218 7 = (σ0.1 218 7) := (congrFun (hOσ30.2 218 (by decide)) 7).trans g7_σ22
        have g9_σ30 : σ30.1 218 9 = (σ0.1 218 9) := (congrFun (hOσ30.2 218 (by decide)) 9).trans g9_σ22
        have g10_σ30 : σ30.1 218 10 = (σ21.1 218 10) := (congrFun (hOσ30.2 218 (by decide)) 10).trans g10_σ22
        have g11_σ30 : σ30.1 218 11 = (σ21.1 218 11) := (congrFun (hOσ30.2 218 (by decide)) 11).trans g11_σ22
        have g12_σ30 : σ30.1 218 12 = (σ21.1 218 12) := (congrFun (hOσ30.2 218 (by decide)) 12).trans g12_σ22
        have g13_σ30 : σ30.1 218 13 = (σ21.1 218 13) := (congrFun (hOσ30.2 218 (by decide)) 13).trans g13_σ22
        have g14_σ30 : σ30.1 218 14 = (σ21.1 218 14) := (congrFun (hOσ30.2 218 (by decide)) 14).trans g14_σ22
        have g15_σ30 : σ30.1 218 15 = (σ21.1 218 15) := (congrFun (hOσ30.2 218 (by decide)) 15).trans g15_σ22
        have g20_σ30 : σ30.1 218 20 = (σ21.1 218 20) := (congrFun (hOσ30.2 218 (by decide)) 20).trans g20_σ22
        have g22_σ30 : σ30.1 218 22 = (σ21.1 218 22) := (congrFun (hOσ30.2 218 (by decide)) 22).trans g22_σ22
        have g23_σ30 : σ30.1 218 23 = (σ21.1 218 23) := (congrFun (hOσ30.2 218 (by decide)) 23).trans g23_σ22
        have g24_σ30 : σ30.1 218 24 = (σ21.1 218 24) := (congrFun (hOσ30.2 218 (by decide)) 24).trans g24_σ22
        have g25_σ30 : σ30.1 218 25 = (σ21.1 218 25) := (congrFun (hOσ30.2 218 (by decide)) 25).trans g25_σ22
        exact ih37_22 (x2_22 + 1, σ30) (show Tr [218, 226, 227, 228, 229, 230, 232] σ0 σ30 ∧ (0 ≤ (x2_22 + 1).toInt) ∧ (TOK σ30.1) ∧ (ZB σ30.1) ∧ (σ30.1 218 7 = (σ0.1 218 7)) ∧ (σ30.1 218 9 = (σ0.1 218 9)) ∧ (σ30.1 218 10 = (σ21.1 218 10)) ∧ (σ30.1 218 11 = (σ21.1 218 11)) ∧ (σ30.1 218 12 = (σ21.1 218 12)) ∧ (σ30.1 218 13 = (σ21.1 218 13)) ∧ (σ30.1 218 14 = (σ21.1 218 14)) ∧ (σ30.1 218 15 = (σ21.1 218 15)) ∧ (σ30.1 218 20 = (σ21.1 218 20)) ∧ (σ30.1 218 22 = (σ21.1 218 22)) ∧ (σ30.1 218 23 = (σ21.1 218 23)) ∧ (σ30.1 218 24 = (σ21.1 218 24)) ∧ (σ30.1 218 25 = (σ21.1 218 25)) from ⟨hT, (by rw [s68]; omega), hK, hB, g7_σ30, g9_σ30, g10_σ30, g11_σ30, g12_σ30, g13_σ30, g14_σ30, g15_σ30, g20_σ30, g22_σ30, g23_σ30, g24_σ30, g25_σ30⟩) (show (1024 - (x2_22 + 1).toInt).toNat < (1024 - x2_22.toInt).toNat from (by rw [s68]; omega))

set_option maxHeartbeats 4000000 in
set_option maxRecDepth 100000 in
theorem s_X12_readsLine {N : Nat} (hN : 1048576 ≤ N)  {σ0 : zS}  (hR : RF σ0.2.2) (hK : TOK σ0.1) (hY : BYT (σ0.1 224)) (hB : ZB σ0.1) (hF : FW (σ0.1 231)) (hg : σ0.1 218 14 = 0) : Ok (f_X12_readsLine N 218 σ0) (fun r => Tr [218, 226, 227, 228, 229, 230, 231, 232] σ0 r.2 ∧ ((TOK r.2.1 ∧ (σ0.1 218 11).toInt ≤ (r.2.1 218 11).toInt ∧ FW (r.2.1 231) ∧ r.2.1 231 1 = σ0.1 231 1 ∧ ZB r.2.1) ∧ (r.2.1 218 7 = σ0.1 218 7 ∧ r.2.1 218 9 = σ0.1 218 9))) := by
  have hT : Tr [218, 226, 227, 228, 229, 230, 231, 232] σ0 σ0 := Tr.rf
  have hK1 := hK.1
  have f0 := hF.1.1
  rw [f_X12_readsLine.eq_1]
  refine ok_gC rfl ?_
  refine ok_zbX (Q := fun V => (V = 0 → f_X12_is N 218 12 σ0 = some (0, σ0)) ∧ (¬ V = 0 → (σ0.1 218 14 = 0 ∧ σ0.1 218 12 = 1) ∧ V = 1 ∧ f_X12_is N 218 12 σ0 = some (1, σ0))) (x_X12_is hN (hR.tr hT) (by decide) hK) (fun v1 hqv1 => ?_)
  have hqv1 : (v1 = 0 → f_X12_is N 218 12 σ0 = some (0, σ0)) ∧ (¬ v1 = 0 → (σ0.1 218 14 = 0 ∧ σ0.1 218 12 = 1) ∧ v1 = 1 ∧ f_X12_is N 218 12 σ0 = some (1, σ0)) := hqv1
  refine ok_if (fun hc3 => ?_) (fun hc3 => ?_)
  · have qhc3 := hqv1.1 hc3
    refine ok_gC rfl ?_
    refine ok_zbX (Q := fun V => (V = 0 → f_X12_is N 218 13 σ0 = some (0, σ0)) ∧ (¬ V = 0 → (σ0.1 218 14 = 0 ∧ σ0.1 218 12 = 1) ∧ V = 1 ∧ f_X12_is N 218 13 σ0 = some (1, σ0))) (x_X12_is hN (hR.tr hT) (by decide) hK) (fun v4 hqv4 => ?_)
    have hqv4 : (v4 = 0 → f_X12_is N 218 13 σ0 = some (0, σ0)) ∧ (¬ v4 = 0 → (σ0.1 218 14 = 0 ∧ σ0.1 218 12 = 1) ∧ v4 = 1 ∧ f_X12_is N 218 13 σ0 = some (1, σ0)) := hqv4
    refine ok_if (fun hc6 => ?_) (fun hc6 => ?_)
    · have qhc6 := hqv4.1 hc6
      refine ok_gC rfl ?_
      refine ok_zbX (Q := fun V => (V = 0 → f_X12_is N 218 14 σ0 = some (0, σ0)) ∧ (¬ V = 0 → (σ0.1 218 14 = 0 ∧ σ0.1 218 12 = 1) ∧ V = 1 ∧ f_X12_is N 218 14 σ0 = some (1, σ0))) (x_X12_is hN (hR.tr hT) (by decide) hK) (fun v7 hqv7 => ?_)
      have hqv7 : (v7 = 0 → f_X12_is N 218 14 σ0 = some (0, σ0)) ∧ (¬ v7 = 0 → (σ0.1 218 14 = 0 ∧ σ0.1 218 12 = 1) ∧ v7 = 1 ∧ f_X12_is N 218 14 σ0 = some (1, σ0)) := hqv7
      refine ok_if (fun hc9 => ?_) (fun hc9 => ?_)
      · have qhc9 := hqv7.1 hc9
        refine ok_gC rfl ?_
        refine ok_zbT (Q := fun V σ => (TOK σ.1 ∧ ¬ σ.1 218 14 = 0) ∧ (σ.1 218 7 = σ0.1 218 7 ∧ σ.1 218 9 = σ0.1 218 9 ∧ σ.1 218 10 = σ0.1 218 10 ∧ σ.1 218 11 = σ0.1 218 11 ∧ σ.1 218 12 = σ0.1 218 12 ∧ σ.1 218 13 = σ0.1 218 13 ∧ σ.1 218 20 = σ0.1 218 20 ∧ σ.1 218 22 = σ0.1 218 22 ∧ σ.1 218 23 = σ0.1 218 23 ∧ σ.1 218 24 = σ0.1 218 24 ∧ σ.1 218 25 = σ0.1 218 25)) hT (s_X12_errs hN (hR.tr hT) (hK) (by rw [hT.2 224 (by decide)]; exact hY) (by decide)) (by decide) (fun v10 σ11 hOσ11 hT hqv10 => ?_)
        have hqv10 : (TOK σ11.1 ∧ ¬ σ11.1 218 14 = 0) ∧ (σ11.1 218 7 = σ0.1 218 7 ∧ σ11.1 218 9 = σ0.1 218 9 ∧ σ11.1 218 10 = σ0.1 218 10 ∧ σ11.1 218 11 = σ0.1 218 11 ∧ σ11.1 218 12 = σ0.1 218 12 ∧ σ11.1 218 13 = σ0.1 218 13 ∧ σ11.1 218 20 = σ0.1 218 20 ∧ σ11.1 218 22 = σ0.1 218 22 ∧ σ11.1 218 23 = σ0.1 218 23 ∧ σ11.1 218 24 = σ0.1 218 24 ∧ σ11.1 218 25 = σ0.1 218 25) := hqv10
        have hkv10 := hqv10
        have hqv10 := hqv10.1
        have r231_σ11 : σ11.1 231 = σ0.1 231 := hOσ11.2 231 (by decide)
        have hK : TOK σ11.1 := by first | exact hqv10.1 | exact TOK_p eσ11 (by decide) hK
        have hB : ZB σ11.1 := ZB.tr hOσ11 (by decide) hB
        have g7_σ11 : σ11.1 218 7 = (σ0.1 218 7) := hkv10.2.1
        have g9_σ11 : σ11.1 218 9 = (σ0.1 218 9) := hkv10.2.2.1
        have g10_σ11 : σ11.1 218 10 = (σ0.1 218 10) := hkv10.2.2.2.1
        have g11_σ11 : σ11.1 218 11 = (σ0.1 218 11) := hkv10.2.2.2.2.1
        have g12_σ11 : σ11.1 218 12 = (σ0.1 218 12) := hkv10.2.2.2.2.2.1
        have g13_σ11 : σ11.1 218 13 = (σ0.1 218 13) := hkv10.2.2.2.2.2.2.1
        have g20_σ11 : σ11.1 218 20 = (σ0.1 218 20) := hkv10.2.2.2.2.2.2.2.1
        have g22_σ11 : σ11.1 218 22 = (σ0.1 218 22) := hkv10.2.2.2.2.2.2.2.2.1
        have g23_σ11 : σ11.1 218 23 = (σ0.1 218 23) := hkv10.2.2.2.2.2.2.2.2.2.1
        have g24_σ11 : σ11.1 218 24 = (σ0.1 218 24) := hkv10.2.2.2.2.2.2.2.2.2.2.1
        have g25_σ11 : σ11.1 218 25 = (σ0.1 218 25) := hkv10.2.2.2.2.2.2.2.2.2.2.2
        have n32 := hqv10.2
        rw [J_X12_readsLine_35.eq_1]
        refine ok_gC rfl ?_
        refine ok_zbX (Q := fun V => (V = 0 → f_X12_is N 218 13 σ11 = some (0, σ11)) ∧ (¬ V = 0 → (σ11.1 218 14 = 0 ∧ σ11.1 218 12 = 1) ∧ V = 1 ∧ f_X12_is N 218 13 σ11 = some (1, σ11))) (x_X12_is hN (hR.tr hT) (by decide) hK) (fun v12 hqv12 => ?_)
        have hqv12 : (v12 = 0 → f_X12_is N 218 13 σ11 = some (0, σ11)) ∧ (¬ v12 = 0 → (σ11.1 218 14 = 0 ∧ σ11.1 218 12 = 1) ∧ v12 = 1 ∧ f_X12_is N 218 13 σ11 = some (1, σ11)) := hqv12
        try simp only [g7_σ11, g9_σ11, g10_σ11, g11_σ11, g12_σ11, g13_σ11, g20_σ11, g22_σ11, g23_σ11, g24_σ11, g25_σ11, hT.2 224 (by decide)] at hqv12
        refine ok_if (fun hc14 => ?_) (fun hc14 => ?_)
        · have qhc14 := hqv12.1 hc14
          have f42 := qhc14
          rw [J_X12_readsLine_65.eq_1]
          refine ok_gC rfl ?_
          refine ok_zbX (Q := fun V => (V = 0 → ¬ σ11.1 218 14 = 0) ∧ (¬ V = 0 → σ11.1 218 14 = 0)) (x_X12_good) (fun v15 hqv15 => ?_)
          have hqv15 : (v15 = 0 → ¬ σ11.1 218 14 = 0) ∧ (¬ v15 = 0 → σ11.1 218 14 = 0) := hqv15
          try simp only [g7_σ11, g9_σ11, g10_σ11, g11_σ11, g12_σ11, g13_σ11, g20_σ11, g22_σ11, g23_σ11, g24_σ11, g25_σ11, hT.2 224 (by decide)] at hqv15
          refine ok_if (fun hc17 => ?_) (fun hc17 => ?_)
          · have qhc17 := hqv15.1 hc17
            exact ok_some ⟨hT, (show (TOK σ11.1 ∧ (σ0.1 218 11).toInt ≤ (σ11.1 218 11).toInt ∧ FW (σ11.1 231) ∧ σ11.1 231 1 = σ0.1 231 1 ∧ ZB σ11.1) ∧ (σ11.1 218 7 = σ0.1 218 7 ∧ σ11.1 218 9 = σ0.1 218 9) from ⟨by first | exact ⟨hK, by (try simp only [g7_σ11, g9_σ11, g10_σ11, g11_σ11, g12_σ11, g13_σ11, g20_σ11, g22_σ11, g23_σ11, g24_σ11, g25_σ11]); omega, by (first | rw [r231_σ11] | skip); exact hF, congrFun r231_σ11 1, hB⟩ | exact ⟨hK, by (try simp only [g7_σ11, g9_σ11, g10_σ11, g11_σ11, g12_σ11, g13_σ11, g20_σ11, g22_σ11, g23_σ11, g24_σ11, g25_σ11]); omega, k102.1, q102, hB⟩ | exact ⟨hK, by (try simp only [g7_σ11, g9_σ11, g10_σ11, g11_σ11, g12_σ11, g13_σ11, g20_σ11, g22_σ11, g23_σ11, g24_σ11, g25_σ11]); omega, f117, q117, hB⟩, g7_σ11, g9_σ11⟩)⟩
          · have qhc17 := hqv15.2 hc17
            have y69 := qhc17
            refine ok_gC rfl ?_
            refine ok_zbT (Q := fun V σ => (TOK σ.1 ∧ (σ11.1 218 11).toInt ≤ (σ.1 218 11).toInt ∧ (V = 0 → σ = σ11 ∧ f_X12_is N 218 12 σ11 = some (0, σ11)) ∧ (¬ V = 0 → ((σ11.1 218 14 = 0 ∧ σ11.1 218 12 = 1) ∧ f_X12_is N 218 12 σ11 = some (1, σ11)) ∧ (σ11.1 218 11).toInt < (σ.1 218 11).toInt)) ∧ (σ.1 218 7 = σ11.1 218 7 ∧ σ.1 218 9 = σ11.1 218 9 ∧ σ.1 218 14 = σ11.1 218 14 ∧ σ.1 218 15 = σ11.1 218 15 ∧ σ.1 218 20 = σ11.1 218 20 ∧ σ.1 218 22 = σ11.1 218 22 ∧ σ.1 218 23 = σ11.1 218 23 ∧ σ.1 218 24 = σ11.1 218 24 ∧ σ.1 218 25 = σ11.1 218 25)) hT (s_X12_takes hN (hR.tr hT) (hK) (by rw [hT.2 224 (by decide)]; exact hY) (by decide)) (by decide) (fun v18 σ19 hOσ19 hT hqv18 => ?_)
            have hqv18 : (TOK σ19.1 ∧ (σ11.1 218 11).toInt ≤ (σ19.1 218 11).toInt ∧ (v18 = 0 → σ19 = σ11 ∧ f_X12_is N 218 12 σ11 = some (0, σ11)) ∧ (¬ v18 = 0 → ((σ11.1 218 14 = 0 ∧ σ11.1 218 12 = 1) ∧ f_X12_is N 218 12 σ11 = some (1, σ11)) ∧ (σ11.1 218 11).toInt < (σ19.1 218 11).toInt)) ∧ (σ19.1 218 7 = σ11.1 218 7 ∧ σ19.1 218 9 = σ11.1 218 9 ∧ σ19.1 218 14 = σ11.1 218 14 ∧ σ19.1 218 15 = σ11.1 218 15 ∧ σ19.1 218 20 = σ11.1 218 20 ∧ σ19.1 218 22 = σ11.1 218 22 ∧ σ19.1 218 23 = σ11.1 218 23 ∧ σ19.1 218 24 = σ11.1 218 24 ∧ σ19.1 218 25 = σ11.1 218 25) := hqv18
            have hkv18 := hqv18
            have hqv18 := hqv18.1
            have r231_σ19 : σ19.1 231 = σ0.1 231 := (hOσ19.2 231 (by decide)).trans r231_σ11
            have hK : TOK σ19.1 := by first | exact hqv18.1 | exact TOK_p eσ19 (by decide) hK
            have hB : ZB σ19.1 := ZB.tr hOσ19 (by decide) hB
            try simp only [g7_σ11, g9_σ11, g10_σ11, g11_σ11, g12_σ11, g13_σ11, g20_σ11, g22_σ11, g23_σ11, g24_σ11, g25_σ11] at hqv18
            have g7_σ19 : σ19.1 218 7 = (σ0.1 218 7) := (hkv18.2.1).trans g7_σ11
            have g9_σ19 : σ19.1 218 9 = (σ0.1 218 9) := (hkv18.2.2.1).trans g9_σ11
            have g14_σ19 : σ19.1 218 14 = (σ11.1 218 14) := hkv18.2.2.2.1
            have g15_σ19 : σ19.1 218 15 = (σ11.1 218 15) := hkv18.2.2.2.2.1
            have g20_σ19 : σ19.1 218 20 = (σ0.1 218 20) := (hkv18.2.2.2.2.2.1).trans g20_σ11
            have g22_σ19 : σ19.1 218 22 = (σ0.1 218 22) := (hkv18.2.2.2.2.2.2.1).trans g22_σ11
            have g23_σ19 : σ19.1 218 23 = (σ0.1 218 23) := (hkv18.2.2.2.2.2.2.2.1).trans g23_σ11
            have g24_σ19 : σ19.1 218 24 = (σ0.1 218 24) := (hkv18.2.2.2.2.2.2.2.2.1).trans g24_σ11
            have g25_σ19 : σ19.1 218 25 = (σ0.1 218 25) := (hkv18.2.2.2.2.2.2.2.2.2).trans g25_σ11
            have m77 := hqv18.2.1
            refine ok_if (fun hc20 => ?_) (fun hc20 => ?_)
            · have s77 := hqv18.2.2.1 hc20
              refine ok_gC rfl ?_
              refine ok_zbT (Q := fun V σ => (TOK σ.1 ∧ (σ19.1 218 11).toInt ≤ (σ.1 218 11).toInt ∧ (V = 0 → σ = σ19 ∧ f_X12_is N 218 13 σ19 = some (0, σ19)) ∧ (¬ V = 0 → ((σ19.1 218 14 = 0 ∧ σ19.1 218 12 = 1) ∧ f_X12_is N 218 13 σ19 = some (1, σ19)) ∧ (σ19.1 218 11).toInt < (σ.1 218 11).toInt)) ∧ (σ.1 218 7 = σ19.1 218 7 ∧ σ.1 218 9 = σ19.1 218 9 ∧ σ.1 218 14 = σ19.1 218 14 ∧ σ.1 218 15 = σ19.1 218 15 ∧ σ.1 218 20 = σ19.1 218 20 ∧ σ.1 218 22 = σ19.1 218 22 ∧ σ.1 218 23 = σ19.1 218 23 ∧ σ.1 218 24 = σ19.1 218 24 ∧ σ.1 218 25 = σ19.1 218 25)) hT (s_X12_takes hN (hR.tr hT) (hK) (by rw [hT.2 224 (by decide)]; exact hY) (by decide)) (by decide) (fun v21 σ22 hOσ22 hT hqv21 => ?_)
              have hqv21 : (TOK σ22.1 ∧ (σ19.1 218 11).toInt ≤ (σ22.1 218 11).toInt ∧ (v21 = 0 → σ22 = σ19 ∧ f_X12_is N 218 13 σ19 = some (0, σ19)) ∧ (¬ v21 = 0 → ((σ19.1 218 14 = 0 ∧ σ19.1 218 12 = 1) ∧ f_X12_is N 218 13 σ19 = some (1, σ19)) ∧ (σ19.1 218 11).toInt < (σ22.1 218 11).toInt)) ∧ (σ22.1 218 7 = σ19.1 218 7 ∧ σ22.1 218 9 = σ19.1 218 9 ∧ σ22.1 218 14 = σ19.1 218 14 ∧ σ22.1 218 15 = σ19.1 218 15 ∧ σ22.1 218 20 = σ19.1 218 20 ∧ σ22.1 218 22 = σ19.1 218 22 ∧ σ22.1 218 23 = σ19.1 218 23 ∧ σ22.1 218 24 = σ19.1 218 24 ∧ σ22.1 218 25 = σ19.1 218 25) := hqv21
              have hkv21 := hqv21
              have hqv21 := hqv21.1
              have r231_σ22 : σ22.1 231 = σ0.1 231 := (hOσ22.2 231 (by decide)).trans r231_σ19
              have hK : TOK σ22.1 := by first | exact hqv21.1 | exact TOK_p eσ22 (by decide) hK
              have hB : ZB σ22.1 := ZB.tr hOσ22 (by decide) hB
              try simp only [g7_σ19, g9_σ19, g14_σ19, g15_σ19, g20_σ19, g22_σ19, g23_σ19, g24_σ19, g25_σ19] at hqv21
              have g7_σ22 : σ22.1 218 7 = (σ0.1 218 7) := (hkv21.2.1).trans g7_σ19
              have g9_σ22 : σ22.1 218 9 = (σ0.1 218 9) := (hkv21.2.2.1).trans g9_σ19
              have g14_σ22 : σ22.1 218 14 = (σ11.1 218 14) := (hkv21.2.2.2.1).trans g14_σ19
              have g15_σ22 : σ22.1 218 15 = (σ11.1 218 15) := (hkv21.2.2.2.2.1).trans g15_σ19
              have g20_σ22 : σ22.1 218 20 = (σ0.1 218 20) := (hkv21.2.2.2.2.2.1).trans g20_σ19
              have g22_σ22 : σ22.1 218 22 = (σ0.1 218 22) := (hkv21.2.2.2.2.2.2.1).trans g22_σ19
              have g23_σ22 : σ22.1 218 23 = (σ0.1 218 23) := (hkv21.2.2.2.2.2.2.2.1).trans g23_σ19
              have g24_σ22 : σ22.1 218 24 = (σ0.1 218 24) := (hkv21.2.2.2.2.2.2.2.2.1).trans g24_σ19
              have g25_σ22 : σ22.1 218 25 = (σ0.1 218 25) := (hkv21.2.2.2.2.2.2.2.2.2).trans g25_σ19
              have k110 := hK.1
              have m110 := hqv21.2.1
              have r110 : σ22.1 231 = σ0.1 231 := r231_σ22
              refine ok_if (fun hc23 => ?_) (fun hc23 => ?_)
              · refine ok_gC rfl ?_
                refine ok_zbT (Q := fun V σ => (TOK σ.1 ∧ (σ22.1 218 10).toInt ≤ (σ.1 218 11).toInt) ∧ (σ.1 218 7 = σ22.1 218 7 ∧ σ.1 218 9 = σ22.1 218 9 ∧ σ.1 218 14 = σ22.1 218 14 ∧ σ.1 218 15 = σ22.1 218 15 ∧ σ.1 218 20 = σ22.1 218 20 ∧ σ.1 218 22 = σ22.1 218 22 ∧ σ.1 218 23 = σ22.1 218 23 ∧ σ.1 218 24 = σ22.1 218 24 ∧ σ.1 218 25 = σ22.1 218 25)) hT (s_X12_advance hN (hR.tr hT) (TOK_A hK) (by rw [hT.2 224 (by decide)]; exact hY)) (by decide) (fun v24 σ25 hOσ25 hT hqv24 => ?_)
                have hqv24 : (TOK σ25.1 ∧ (σ22.1 218 10).toInt ≤ (σ25.1 218 11).toInt) ∧ (σ25.1 218 7 = σ22.1 218 7 ∧ σ25.1 218 9 = σ22.1 218 9 ∧ σ25.1 218 14 = σ22.1 218 14 ∧ σ25.1 218 15 = σ22.1 218 15 ∧ σ25.1 218 20 = σ22.1 218 20 ∧ σ25.1 218 22 = σ22.1 218 22 ∧ σ25.1 218 23 = σ22.1 218 23 ∧ σ25.1 218 24 = σ22.1 218 24 ∧ σ25.1 218 25 = σ22.1 218 25) := hqv24
                have hkv24 := hqv24
                have hqv24 := hqv24.1
                have r231_σ25 : σ25.1 231 = σ0.1 231 := (hOσ25.2 231 (by decide)).trans r231_σ22
                have hK : TOK σ25.1 := by first | exact hqv24.1 | exact TOK_p eσ25 (by decide) hK
                have hB : ZB σ25.1 := ZB.tr hOσ25 (by decide) hB
                try simp only [g7_σ22, g9_σ22, g14_σ22, g15_σ22, g20_σ22, g22_σ22, g23_σ22, g24_σ22, g25_σ22] at hqv24
                have g7_σ25 : σ25.1 218 7 = (σ0.1 218 7) := (hkv24.2.1).trans g7_σ22
                have g9_σ25 : σ25.1 218 9 = (σ0.1 218 9) := (hkv24.2.2.1).trans g9_σ22
                have g14_σ25 : σ25.1 218 14 = (σ11.1 218 14) := (hkv24.2.2.2.1).trans g14_σ22
                have g15_σ25 : σ25.1 218 15 = (σ11.1 218 15) := (hkv24.2.2.2.2.1).trans g15_σ22
                have g20_σ25 : σ25.1 218 20 = (σ0.1 218 20) := (hkv24.2.2.2.2.2.1).trans g20_σ22
                have g22_σ25 : σ25.1 218 22 = (σ0.1 218 22) := (hkv24.2.2.2.2.2.2.1).trans g22_σ22
                have g23_σ25 : σ25.1 218 23 = (σ0.1 218 23) := (hkv24.2.2.2.2.2.2.2.1).trans g23_σ22
                have g24_σ25 : σ25.1 218 24 = (σ0.1 218 24) := (hkv24.2.2.2.2.2.2.2.2.1).trans g24_σ22
                have g25_σ25 : σ25.1 218 25 = (σ0.1 218 25) := (hkv24.2.2.2.2.2.2.2.2.2).trans g25_σ22
                have m124 := hqv24.2
                refine ok_gC rfl ?_
                refine ok_zbT (Q := fun V σ => (TOK σ.1 ∧ (σ25.1 218 11).toInt ≤ (σ.1 218 11).toInt ∧ (σ.1 218 14 = 0 → σ25.1 218 14 = 0) ∧ ZB σ.1) ∧ (σ.1 218 7 = σ25.1 218 7 ∧ σ.1 218 9 = σ25.1 218 9)) hT (s_X12_readsLet hN (hR.tr hT) (hK) (by rw [hT.2 224 (by decide)]; exact hY) (hB) (by (first | rw [r231_σ25] | skip); exact hF)) (by decide) (fun v26 σ27 hOσ27 hT hqv26 => ?_)
                have hqv26 : (TOK σ27.1 ∧ (σ25.1 218 11).toInt ≤ (σ27.1 218 11).toInt ∧ (σ27.1 218 14 = 0 → σ25.1 218 14 = 0) ∧ ZB σ27.1) ∧ (σ27.1 218 7 = σ25.1 218 7 ∧ σ27.1 218 9 = σ25.1 218 9) := hqv26
                have hkv26 := hqv26
                have hqv26 := hqv26.1
                have r231_σ27 : σ27.1 231 = σ0.1 231 := (hOσ27.2 231 (by decide)).trans r231_σ25
                have hK : TOK σ27.1 := by first | exact hqv26.1 | exact TOK_p eσ27 (by decide) hK
                have hB : ZB σ27.1 := hqv26.2.2.2
                try simp only [g7_σ25, g9_σ25, g14_σ25, g15_σ25, g20_σ25, g22_σ25, g23_σ25, g24_σ25, g25_σ25] at hqv26
                have g7_σ27 : σ27.1 218 7 = (σ0.1 218 7) := (hkv26.2.1).trans g7_σ25
                have g9_σ27 : σ27.1 218 9 = (σ0.1 218 9) := (hkv26.2.2).trans g9_σ25
                have m128 := hqv26.2.1
                exact ok_some ⟨hT, (show (TOK σ27.1 ∧ (σ0.1 218 11).toInt ≤ (σ27.1 218 11).toInt ∧ FW (σ27.1 231) ∧ σ27.1 231 1 = σ0.1 231 1 ∧ ZB σ27.1) ∧ (σ27.1 218 7 = σ0.1 218 7 ∧ σ27.1 218 9 = σ0.1 218 9) from ⟨by first | exact ⟨hK, by (try simp only [g7_σ27, g9_σ27]); omega, by (first | rw [r231_σ27] | skip); exact hF, congrFun r231_σ27 1, hB⟩ | exact ⟨hK, by (try simp only [g7_σ27, g9_σ27]); omega, k102.1, q102, hB⟩ | exact ⟨hK, by (try simp only [g7_σ27, g9_σ27]); omega, f117, q117, hB⟩, g7_σ27, g9_σ27⟩)⟩
              · have t113 := (hqv21.2.2.2 hc23).1.2
                refine ok_gC rfl ?_
                refine ok_zbT (Q := fun V σ => (TOK σ.1 ∧ (σ22.1 218 11).toInt ≤ (σ.1 218 11).toInt ∧ (σ.1 218 14 = 0 → σ22.1 218 14 = 0) ∧ FW (σ.1 231) ∧ σ.1 231 1 = σ22.1 231 1) ∧ (σ.1 218 7 = σ22.1 218 7 ∧ σ.1 218 9 = σ22.1 218 9 ∧ σ.1 218 20 = σ22.1 218 20 ∧ σ.1 218 22 = σ22.1 218 22 ∧ σ.1 218 23 = σ22.1 218 23 ∧ σ.1 218 24 = σ22.1 218 24 ∧ σ.1 218 25 = σ22.1 218 25)) hT (s_X12_readsEdge hN (hR.tr hT) (hK) (by rw [hT.2 224 (by decide)]; exact hY) (by (first | rw [r231_σ22] | skip); exact hF) (by (first | rw [r231_σ22] | skip); first | exact k57 | exact (is_ne f42 t113 s77.1).elim | exact absurd y69 n62 | exact absurd y69 n32)) (by decide) (fun v28 σ29 hOσ29 hT hqv28 => ?_)
                have hqv28 : (TOK σ29.1 ∧ (σ22.1 218 11).toInt ≤ (σ29.1 218 11).toInt ∧ (σ29.1 218 14 = 0 → σ22.1 218 14 = 0) ∧ FW (σ29.1 231) ∧ σ29.1 231 1 = σ22.1 231 1) ∧ (σ29.1 218 7 = σ22.1 218 7 ∧ σ29.1 218 9 = σ22.1 218 9 ∧ σ29.1 218 20 = σ22.1 218 20 ∧ σ29.1 218 22 = σ22.1 218 22 ∧ σ29.1 218 23 = σ22.1 218 23 ∧ σ29.1 218 24 = σ22.1 218 24 ∧ σ29.1 218 25 = σ22.1 218 25) := hqv28
                have hkv28 := hqv28
                have hqv28 := hqv28.1
                have hK : TOK σ29.1 := by first | exact hqv28.1 | exact TOK_p eσ29 (by decide) hK
                have hB : ZB σ29.1 := ZB.tr hOσ29 (by decide) hB
                try simp only [g7_σ22, g9_σ22, g14_σ22, g15_σ22, g20_σ22, g22_σ22, g23_σ22, g24_σ22, g25_σ22] at hqv28
                have g7_σ29 : σ29.1 218 7 = (σ0.1 218 7) := (hkv28.2.1).trans g7_σ22
                have g9_σ29 : σ29.1 218 9 = (σ0.1 218 9) := (hkv28.2.2.1).trans g9_σ22
                have g20_σ29 : σ29.1 218 20 = (σ0.1 218 20) := (hkv28.2.2.2.1).trans g20_σ22
                have g22_σ29 : σ29.1 218 22 = (σ0.1 218 22) := (hkv28.2.2.2.2.1).trans g22_σ22
                have g23_σ29 : σ29.1 218 23 = (σ0.1 218 23) := (hkv28.2.2.2.2.2.1).trans g23_σ22
                have g24_σ29 : σ29.1 218 24 = (σ0.1 218 24) := (hkv28.2.2.2.2.2.2.1).trans g24_σ22
                have g25_σ29 : σ29.1 218 25 = (σ0.1 218 25) := (hkv28.2.2.2.2.2.2.2).trans g25_σ22
                have m117 := hqv28.2.1
                have f117 := hqv28.2.2.2.1
                have q117 : σ29.1 231 1 = σ0.1 231 1 := hqv28.2.2.2.2.trans (congrFun r110 1)
                exact ok_some ⟨hT, (show (TOK σ29.1 ∧ (σ0.1 218 11).toInt ≤ (σ29.1 218 11).toInt ∧ FW (σ29.1 231) ∧ σ29.1 231 1 = σ0.1 231 1 ∧ ZB σ29.1) ∧ (σ29.1 218 7 = σ0.1 218 7 ∧ σ29.1 218 9 = σ0.1 218 9) from ⟨by first | exact ⟨hK, by (try simp only [g7_σ29, g9_σ29, g20_σ29, g22_σ29, g23_σ29, g24_σ29, g25_σ29]); omega, by (first | rw [rfl] | skip); exact hF, congrFun rfl 1, hB⟩ | exact ⟨hK, by (try simp only [g7_σ29, g9_σ29, g20_σ29, g22_σ29, g23_σ29, g24_σ29, g25_σ29]); omega, k102.1, q102, hB⟩ | exact ⟨hK, by (try simp only [g7_σ29, g9_σ29, g20_σ29, g22_σ29, g23_σ29, g24_σ29, g25_σ29]); omega, f117, q117, hB⟩, g7_σ29, g9_σ29⟩)⟩
            · refine ok_gC rfl ?_
              refine ok_zbT (Q := fun V σ => (TOK σ.1 ∧ (σ19.1 218 11).toInt ≤ (σ.1 218 11).toInt ∧ (σ.1 218 14 = 0 → σ19.1 218 14 = 0) ∧ 0 ≤ V.toInt ∧ V.toInt ≤ 9) ∧ (σ.1 218 7 = σ19.1 218 7 ∧ σ.1 218 9 = σ19.1 218 9 ∧ σ.1 218 20 = σ19.1 218 20 ∧ σ.1 218 22 = σ19.1 218 22 ∧ σ.1 218 23 = σ19.1 218 23 ∧ σ.1 218 24 = σ19.1 218 24 ∧ σ.1 218 25 = σ19.1 218 25)) hT (s_X12_readsName hN (hR.tr hT) (hK) (by rw [hT.2 224 (by decide)]; exact hY) (by (first | rw [r231_σ19] | skip); exact hF)) (by decide) (fun v30 σ31 hOσ31 hT hqv30 => ?_)
              have hqv30 : (TOK σ31.1 ∧ (σ19.1 218 11).toInt ≤ (σ31.1 218 11).toInt ∧ (σ31.1 218 14 = 0 → σ19.1 218 14 = 0) ∧ 0 ≤ v30.toInt ∧ v30.toInt ≤ 9) ∧ (σ31.1 218 7 = σ19.1 218 7 ∧ σ31.1 218 9 = σ19.1 218 9 ∧ σ31.1 218 20 = σ19.1 218 20 ∧ σ31.1 218 22 = σ19.1 218 22 ∧ σ31.1 218 23 = σ19.1 218 23 ∧ σ31.1 218 24 = σ19.1 218 24 ∧ σ31.1 218 25 = σ19.1 218 25) := hqv30
              have hkv30 := hqv30
              have hqv30 := hqv30.1
              have r231_σ31 : σ31.1 231 = σ0.1 231 := (hOσ31.2 231 (by decide)).trans r231_σ19
              have hK : TOK σ31.1 := by first | exact hqv30.1 | exact TOK_p eσ31 (by decide) hK
              have hB : ZB σ31.1 := ZB.tr hOσ31 (by decide) hB
              try simp only [g7_σ19, g9_σ19, g14_σ19, g15_σ19, g20_σ19, g22_σ19, g23_σ19, g24_σ19, g25_σ19] at hqv30
              have g7_σ31 : σ31.1 218 7 = (σ0.1 218 7) := (hkv30.2.1).trans g7_σ19
              have g9_σ31 : σ31.1 218 9 = (σ0.1 218 9) := (hkv30.2.2.1).trans g9_σ19
              have g20_σ31 : σ31.1 218 20 = (σ0.1 218 20) := (hkv30.2.2.2.1).trans g20_σ19
              have g22_σ31 : σ31.1 218 22 = (σ0.1 218 22) := (hkv30.2.2.2.2.1).trans g22_σ19
              have g23_σ31 : σ31.1 218 23 = (σ0.1 218 23) := (hkv30.2.2.2.2.2.1).trans g23_σ19
              have g24_σ31 : σ31.1 218 24 = (σ0.1 218 24) := (hkv30.2.2.2.2.2.2.1).trans g24_σ19
              have g25_σ31 : σ31.1 218 25 = (σ0.1 218 25) := (hkv30.2.2.2.2.2.2.2).trans g25_σ19
              have m84 := hqv30.2.1
              have b84 := hqv30.2.2.2
              have i84 := ti3 (x := v30) (by omega) (by omega)
              refine ok_gR (v := 231) hT rfl (hR 218 26 rfl) ?_
              refine ok_gC rfl ?_
              refine ok_zbT (Q := fun V σ => (TOK σ.1 ∧ (σ31.1 218 11).toInt ≤ (σ.1 218 11).toInt ∧ (σ.1 218 14 = 0 → (σ31.1 218 14 = 0 ∧ (σ31.1 218 11).toInt < (σ.1 218 11).toInt) ∧ (0 : Int32).toInt ≤ V.toInt ∧ V.toInt ≤ (99 : Int32).toInt) ∧ (¬ σ.1 218 14 = 0 → V = 0)) ∧ (σ.1 218 7 = σ31.1 218 7 ∧ σ.1 218 9 = σ31.1 218 9 ∧ σ.1 218 20 = σ31.1 218 20 ∧ σ.1 218 22 = σ31.1 218 22 ∧ σ.1 218 23 = σ31.1 218 23 ∧ σ.1 218 24 = σ31.1 218 24 ∧ σ.1 218 25 = σ31.1 218 25)) hT (s_X12_number hN (hR.tr hT) (hK) (by rw [hT.2 224 (by decide)]; exact hY)) (by decide) (fun v33 σ34 hOσ34 hT hqv33 => ?_)
              have hqv33 : (TOK σ34.1 ∧ (σ31.1 218 11).toInt ≤ (σ34.1 218 11).toInt ∧ (σ34.1 218 14 = 0 → (σ31.1 218 14 = 0 ∧ (σ31.1 218 11).toInt < (σ34.1 218 11).toInt) ∧ (0 : Int32).toInt ≤ v33.toInt ∧ v33.toInt ≤ (99 : Int32).toInt) ∧ (¬ σ34.1 218 14 = 0 → v33 = 0)) ∧ (σ34.1 218 7 = σ31.1 218 7 ∧ σ34.1 218 9 = σ31.1 218 9 ∧ σ34.1 218 20 = σ31.1 218 20 ∧ σ34.1 218 22 = σ31.1 218 22 ∧ σ34.1 218 23 = σ31.1 218 23 ∧ σ34.1 218 24 = σ31.1 218 24 ∧ σ34.1 218 25 = σ31.1 218 25) := hqv33
              have hkv33 := hqv33
              have hqv33 := hqv33.1
              have r231_σ34 : σ34.1 231 = σ0.1 231 := (hOσ34.2 231 (by decide)).trans r231_σ31
              have hK : TOK σ34.1 := by first | exact hqv33.1 | exact TOK_p eσ34 (by decide) hK
              have hB : ZB σ34.1 := ZB.tr hOσ34 (by decide) hB
              try simp only [g7_σ31, g9_σ31, g20_σ31, g22_σ31, g23_σ31, g24_σ31, g25_σ31] at hqv33
              have g7_σ34 : σ34.1 218 7 = (σ0.1 218 7) := (hkv33.2.1).trans g7_σ31
              have g9_σ34 : σ34.1 218 9 = (σ0.1 218 9) := (hkv33.2.2.1).trans g9_σ31
              have g20_σ34 : σ34.1 218 20 = (σ0.1 218 20) := (hkv33.2.2.2.1).trans g20_σ31
              have g22_σ34 : σ34.1 218 22 = (σ0.1 218 22) := (hkv33.2.2.2.2.1).trans g22_σ31
              have g23_σ34 : σ34.1 218 23 = (σ0.1 218 23) := (hkv33.2.2.2.2.2.1).trans g23_σ31
              have g24_σ34 : σ34.1 218 24 = (σ0.1 218 24) := (hkv33.2.2.2.2.2.2.1).trans g24_σ31
              have g25_σ34 : σ34.1 218 25 = (σ0.1 218 25) := (hkv33.2.2.2.2.2.2.2).trans g25_σ31
              have m99 := hqv33.2.1
              refine ok_s14 hT rfl (by decide) (by rw [i84.1]; omega) (by rw [i84.1]; omega) (fun σ35 eσ35 hOσ35 hT => ?_)
              have k102 := FW_w eσ35 (by rw [i84.2]; omega) (by rw [i84.2]; omega) (by (first | rw [r231_σ34] | skip); exact hF)
              have q102 : σ35.1 231 1 = σ0.1 231 1 := k102.2.trans (congrFun r231_σ34 1)
              have hK : TOK σ35.1 := TOK_tr hOσ35 (by decide) (by decide) hK
              have hB : ZB σ35.1 := ZB.tr hOσ35 (by decide) hB
              have g7_σ35 : σ35.1 218 7 = (σ0.1 218 7) := (congrFun (hOσ35.2 218 (by decide)) 7).trans g7_σ34
              have g9_σ35 : σ35.1 218 9 = (σ0.1 218 9) := (congrFun (hOσ35.2 218 (by decide)) 9).trans g9_σ34
              have g10_σ35 : σ35.1 218 10 = (σ34.1 218 10) := congrFun (hOσ35.2 218 (by decide)) 10
              have g11_σ35 : σ35.1 218 11 = (σ34.1 218 11) := congrFun (hOσ35.2 218 (by decide)) 11
              have g12_σ35 : σ35.1 218 12 = (σ34.1 218 12) := congrFun (hOσ35.2 218 (by decide)) 12
              have g13_σ35 : σ35.1 218 13 = (σ34.1 218 13) := congrFun (hOσ35.2 218 (by decide)) 13
              have g14_σ35 : σ35.1 218 14 = (σ34.1 218 14) := congrFun (hOσ35.2 218 (by decide)) 14
              have g15_σ35 : σ35.1 218 15 = (σ34.1 218 15) := congrFun (hOσ35.2 218 (by decide)) 15
              have g20_σ35 : σ35.1 218 20 = (σ0.1 218 20) := (congrFun (hOσ35.2 218 (by decide)) 20).trans g20_σ34
              have g22_σ35 : σ35.1 218 22 = (σ0.1 218 22) := (congrFun (hOσ35.2 218 (by decide)) 22).trans g22_σ34
              have g23_σ35 : σ35.1 218 23 = (σ0.1 218 23) := (congrFun (hOσ35.2 218 (by decide)) 23).trans g23_σ34
              have g24_σ35 : σ35.1 218 24 = (σ0.1 218 24) := (congrFun (hOσ35.2 218 (by decide)) 24).trans g24_σ34
              have g25_σ35 : σ35.1 218 25 = (σ0.1 218 25) := (congrFun (hOσ35.2 218 (by decide)) 25).trans g25_σ34
              exact ok_some ⟨hT, (show (TOK σ35.1 ∧ (σ0.1 218 11).toInt ≤ (σ35.1 218 11).toInt ∧ FW (σ35.1 231) ∧ σ35.1 231 1 = σ0.1 231 1 ∧ ZB σ35.1) ∧ (σ35.1 218 7 = σ0.1 218 7 ∧ σ35.1 218 9 = σ0.1 218 9) from ⟨by first | exact ⟨hK, by (try simp only [g7_σ35, g9_σ35, g10_σ35, g11_σ35, g12_σ35, g13_σ35, g14_σ35, g15_σ35, g20_σ35, g22_σ35, g23_σ35, g24_σ35, g25_σ35]); omega, by (first | rw [rfl] | skip); exact hF, congrFun rfl 1, hB⟩ | exact ⟨hK, by (try simp only [g7_σ35, g9_σ35, g10_σ35, g11_σ35, g12_σ35, g13_σ35, g14_σ35, g15_σ35, g20_σ35, g22_σ35, g23_σ35, g24_σ35, g25_σ35]); omega, k102.1, q102, hB⟩ | exact ⟨hK, by (try simp only [g7_σ35, g9_σ35, g10_σ35, g11_σ35, g12_σ35, g13_σ35, g14_σ35, g15_σ35, g20_σ35, g22_σ35, g23_σ35, g24_σ35, g25_σ35]); omega, f117, q117, hB⟩, g7_σ35, g9_σ35⟩)⟩
        · have qhc14 := hqv12.2 hc14
          refine ok_gR (v := 231) hT rfl (hR 218 26 rfl) ?_
          refine ok_aIn rfl (by ((try simp only [g7_σ11, g9_σ11, g10_σ11, g11_σ11, g12_σ11, g13_σ11, g20_σ11, g22_σ11, g23_σ11, g24_σ11, g25_σ11])); first | omega | decide | (simp only [Int32.le_iff_toInt_le, Int32.lt_iff_toInt_lt, ti_add, ti_sub, ti_mul, Int32.reduceToInt] at *; omega)) (by ((try simp only [g7_σ11, g9_σ11, g10_σ11, g11_σ11, g12_σ11, g13_σ11, g20_σ11, g22_σ11, g23_σ11, g24_σ11, g25_σ11])); first | omega | decide | (simp only [Int32.le_iff_toInt_le, Int32.lt_iff_toInt_lt, ti_add, ti_sub, ti_mul, Int32.reduceToInt] at *; omega)) (fun v37 ev37 => ?_)
          have ev50 : v37 = σ0.1 231 2 := by rw [ev37]; (first | rw [r231_σ11] | skip); rfl
          refine ok_gR (v := 231) hT rfl (hR 218 26 rfl) ?_
          refine ok_aIn rfl (by ((try simp only [g7_σ11, g9_σ11, g10_σ11, g11_σ11, g12_σ11, g13_σ11, g20_σ11, g22_σ11, g23_σ11, g24_σ11, g25_σ11])); first | omega | decide | (simp only [Int32.le_iff_toInt_le, Int32.lt_iff_toInt_lt, ti_add, ti_sub, ti_mul, Int32.reduceToInt] at *; omega)) (by ((try simp only [g7_σ11, g9_σ11, g10_σ11, g11_σ11, g12_σ11, g13_σ11, g20_σ11, g22_σ11, g23_σ11, g24_σ11, g25_σ11])); first | omega | decide | (simp only [Int32.le_iff_toInt_le, Int32.lt_iff_toInt_lt, ti_add, ti_sub, ti_mul, Int32.reduceToInt] at *; omega)) (fun v39 ev39 => ?_)
          have ev56 : v39 = σ0.1 231 0 := by rw [ev39]; (first | rw [r231_σ11] | skip); rfl
          refine ok_if (fun hc40 => ?_) (fun hc40 => ?_)
          · refine ok_gC rfl ?_
            refine ok_zbT (Q := fun V σ => (TOK σ.1 ∧ ¬ σ.1 218 14 = 0) ∧ (σ.1 218 7 = σ11.1 218 7 ∧ σ.1 218 9 = σ11.1 218 9 ∧ σ.1 218 10 = σ11.1 218 10 ∧ σ.1 218 11 = σ11.1 218 11 ∧ σ.1 218 12 = σ11.1 218 12 ∧ σ.1 218 13 = σ11.1 218 13 ∧ σ.1 218 20 = σ11.1 218 20 ∧ σ.1 218 22 = σ11.1 218 22 ∧ σ.1 218 23 = σ11.1 218 23 ∧ σ.1 218 24 = σ11.1 218 24 ∧ σ.1 218 25 = σ11.1 218 25)) hT (s_X12_errs hN (hR.tr hT) (hK) (by rw [hT.2 224 (by decide)]; exact hY) (by decide)) (by decide) (fun v41 σ42 hOσ42 hT hqv41 => ?_)
            have hqv41 : (TOK σ42.1 ∧ ¬ σ42.1 218 14 = 0) ∧ (σ42.1 218 7 = σ11.1 218 7 ∧ σ42.1 218 9 = σ11.1 218 9 ∧ σ42.1 218 10 = σ11.1 218 10 ∧ σ42.1 218 11 = σ11.1 218 11 ∧ σ42.1 218 12 = σ11.1 218 12 ∧ σ42.1 218 13 = σ11.1 218 13 ∧ σ42.1 218 20 = σ11.1 218 20 ∧ σ42.1 218 22 = σ11.1 218 22 ∧ σ42.1 218 23 = σ11.1 218 23 ∧ σ42.1 218 24 = σ11.1 218 24 ∧ σ42.1 218 25 = σ11.1 218 25) := hqv41
            have hkv41 := hqv41
            have hqv41 := hqv41.1
            have r231_σ42 : σ42.1 231 = σ0.1 231 := (hOσ42.2 231 (by decide)).trans r231_σ11
            have hK : TOK σ42.1 := by first | exact hqv41.1 | exact TOK_p eσ42 (by decide) hK
            have hB : ZB σ42.1 := ZB.tr hOσ42 (by decide) hB
            try simp only [g7_σ11, g9_σ11, g10_σ11, g11_σ11, g12_σ11, g13_σ11, g20_σ11, g22_σ11, g23_σ11, g24_σ11, g25_σ11] at hqv41
            have g7_σ42 : σ42.1 218 7 = (σ0.1 218 7) := (hkv41.2.1).trans g7_σ11
            have g9_σ42 : σ42.1 218 9 = (σ0.1 218 9) := (hkv41.2.2.1).trans g9_σ11
            have g10_σ42 : σ42.1 218 10 = (σ0.1 218 10) := (hkv41.2.2.2.1).trans g10_σ11
            have g11_σ42 : σ42.1 218 11 = (σ0.1 218 11) := (hkv41.2.2.2.2.1).trans g11_σ11
            have g12_σ42 : σ42.1 218 12 = (σ0.1 218 12) := (hkv41.2.2.2.2.2.1).trans g12_σ11
            have g13_σ42 : σ42.1 218 13 = (σ0.1 218 13) := (hkv41.2.2.2.2.2.2.1).trans g13_σ11
            have g20_σ42 : σ42.1 218 20 = (σ0.1 218 20) := (hkv41.2.2.2.2.2.2.2.1).trans g20_σ11
            have g22_σ42 : σ42.1 218 22 = (σ0.1 218 22) := (hkv41.2.2.2.2.2.2.2.2.1).trans g22_σ11
            have g23_σ42 : σ42.1 218 23 = (σ0.1 218 23) := (hkv41.2.2.2.2.2.2.2.2.2.1).trans g23_σ11
            have g24_σ42 : σ42.1 218 24 = (σ0.1 218 24) := (hkv41.2.2.2.2.2.2.2.2.2.2.1).trans g24_σ11
            have g25_σ42 : σ42.1 218 25 = (σ0.1 218 25) := (hkv41.2.2.2.2.2.2.2.2.2.2.2).trans g25_σ11
            have n62 := hqv41.2
            rw [J_X12_readsLine_65.eq_1]
            refine ok_gC rfl ?_
            refine ok_zbX (Q := fun V => (V = 0 → ¬ σ42.1 218 14 = 0) ∧ (¬ V = 0 → σ42.1 218 14 = 0)) (x_X12_good) (fun v43 hqv43 => ?_)
            have hqv43 : (v43 = 0 → ¬ σ42.1 218 14 = 0) ∧ (¬ v43 = 0 → σ42.1 218 14 = 0) := hqv43
            try simp only [g7_σ42, g9_σ42, g10_σ42, g11_σ42, g12_σ42, g13_σ42, g20_σ42, g22_σ42, g23_σ42, g24_σ42, g25_σ42, hT.2 224 (by decide)] at hqv43
            refine ok_if (fun hc45 => ?_) (fun hc45 => ?_)
            · have qhc45 := hqv43.1 hc45
              exact ok_some ⟨hT, (show (TOK σ42.1 ∧ (σ0.1 218 11).toInt ≤ (σ42.1 218 11).toInt ∧ FW (σ42.1 231) ∧ σ42.1 231 1 = σ0.1 231 1 ∧ ZB σ42.1) ∧ (σ42.1 218 7 = σ0.1 218 7 ∧ σ42.1 218 9 = σ0.1 218 9) from ⟨by first | exact ⟨hK, by (try simp only [g7_σ42, g9_σ42, g10_σ42, g11_σ42, g12_σ42, g13_σ42, g20_σ42, g22_σ42, g23_σ42, g24_σ42, g25_σ42]); omega, by (first | rw [r231_σ42] | skip); exact hF, congrFun r231_σ42 1, hB⟩ | exact ⟨hK, by (try simp only [g7_σ42, g9_σ42, g10_σ42, g11_σ42, g12_σ42, g13_σ42, g20_σ42, g22_σ42, g23_σ42, g24_σ42, g25_σ42]); omega, k102.1, q102, hB⟩ | exact ⟨hK, by (try simp only [g7_σ42, g9_σ42, g10_σ42, g11_σ42, g12_σ42, g13_σ42, g20_σ42, g22_σ42, g23_σ42, g24_σ42, g25_σ42]); omega, f117, q117, hB⟩, g7_σ42, g9_σ42⟩)⟩
            · have qhc45 := hqv43.2 hc45
              have y69 := qhc45
              refine ok_gC rfl ?_
              refine ok_zbT (Q := fun V σ => (TOK σ.1 ∧ (σ42.1 218 11).toInt ≤ (σ.1 218 11).toInt ∧ (V = 0 → σ = σ42 ∧ f_X12_is N 218 12 σ42 = some (0, σ42)) ∧ (¬ V = 0 → ((σ42.1 218 14 = 0 ∧ σ42.1 218 12 = 1) ∧ f_X12_is N 218 12 σ42 = some (1, σ42)) ∧ (σ42.1 218 11).toInt < (σ.1 218 11).toInt)) ∧ (σ.1 218 7 = σ42.1 218 7 ∧ σ.1 218 9 = σ42.1 218 9 ∧ σ.1 218 14 = σ42.1 218 14 ∧ σ.1 218 15 = σ42.1 218 15 ∧ σ.1 218 20 = σ42.1 218 20 ∧ σ.1 218 22 = σ42.1 218 22 ∧ σ.1 218 23 = σ42.1 218 23 ∧ σ.1 218 24 = σ42.1 218 24 ∧ σ.1 218 25 = σ42.1 218 25)) hT (s_X12_takes hN (hR.tr hT) (hK) (by rw [hT.2 224 (by decide)]; exact hY) (by decide)) (by decide) (fun v46 σ47 hOσ47 hT hqv46 => ?_)
              have hqv46 : (TOK σ47.1 ∧ (σ42.1 218 11).toInt ≤ (σ47.1 218 11).toInt ∧ (v46 = 0 → σ47 = σ42 ∧ f_X12_is N 218 12 σ42 = some (0, σ42)) ∧ (¬ v46 = 0 → ((σ42.1 218 14 = 0 ∧ σ42.1 218 12 = 1) ∧ f_X12_is N 218 12 σ42 = some (1, σ42)) ∧ (σ42.1 218 11).toInt < (σ47.1 218 11).toInt)) ∧ (σ47.1 218 7 = σ42.1 218 7 ∧ σ47.1 218 9 = σ42.1 218 9 ∧ σ47.1 218 14 = σ42.1 218 14 ∧ σ47.1 218 15 = σ42.1 218 15 ∧ σ47.1 218 20 = σ42.1 218 20 ∧ σ47.1 218 22 = σ42.1 218 22 ∧ σ47.1 218 23 = σ42.1 218 23 ∧ σ47.1 218 24 = σ42.1 218 24 ∧ σ47.1 218 25 = σ42.1 218 25) := hqv46
              have hkv46 := hqv46
              have hqv46 := hqv46.1
              have r231_σ47 : σ47.1 231 = σ0.1 231 := (hOσ47.2 231 (by decide)).trans r231_σ42
              have hK : TOK σ47.1 := by first | exact hqv46.1 | exact TOK_p eσ47 (by decide) hK
              have hB : ZB σ47.1 := ZB.tr hOσ47 (by decide) hB
              try simp only [g7_σ42, g9_σ42, g10_σ42, g11_σ42, g12_σ42, g13_σ42, g20_σ42, g22_σ42, g23_σ42, g24_σ42, g25_σ42] at hqv46
              have g7_σ47 : σ47.1 218 7 = (σ0.1 218 7) := (hkv46.2.1).trans g7_σ42
              have g9_σ47 : σ47.1 218 9 = (σ0.1 218 9) := (hkv46.2.2.1).trans g9_σ42
              have g14_σ47 : σ47.1 218 14 = (σ42.1 218 14) := hkv46.2.2.2.1
              have g15_σ47 : σ47.1 218 15 = (σ42.1 218 15) := hkv46.2.2.2.2.1
              have g20_σ47 : σ47.1 218 20 = (σ0.1 218 20) := (hkv46.2.2.2.2.2.1).trans g20_σ42
              have g22_σ47 : σ47.1 218 22 = (σ0.1 218 22) := (hkv46.2.2.2.2.2.2.1).trans g22_σ42
              have g23_σ47 : σ47.1 218 23 = (σ0.1 218 23) := (hkv46.2.2.2.2.2.2.2.1).trans g23_σ42
              have g24_σ47 : σ47.1 218 24 = (σ0.1 218 24) := (hkv46.2.2.2.2.2.2.2.2.1).trans g24_σ42
              have g25_σ47 : σ47.1 218 25 = (σ0.1 218 25) := (hkv46.2.2.2.2.2.2.2.2.2).trans g25_σ42
              have m77 := hqv46.2.1
              refine ok_if (fun hc48 => ?_) (fun hc48 => ?_)
              · have s77 := hqv46.2.2.1 hc48
                refine ok_gC rfl ?_
                refine ok_zbT (Q := fun V σ => (TOK σ.1 ∧ (σ47.1 218 11).toInt ≤ (σ.1 218 11).toInt ∧ (V = 0 → σ = σ47 ∧ f_X12_is N 218 13 σ47 = some (0, σ47)) ∧ (¬ V = 0 → ((σ47.1 218 14 = 0 ∧ σ47.1 218 12 = 1) ∧ f_X12_is N 218 13 σ47 = some (1, σ47)) ∧ (σ47.1 218 11).toInt < (σ.1 218 11).toInt)) ∧ (σ.1 218 7 = σ47.1 218 7 ∧ σ.1 218 9 = σ47.1 218 9 ∧ σ.1 218 14 = σ47.1 218 14 ∧ σ.1 218 15 = σ47.1 218 15 ∧ σ.1 218 20 = σ47.1 218 20 ∧ σ.1 218 22 = σ47.1 218 22 ∧ σ.1 218 23 = σ47.1 218 23 ∧ σ.1 218 24 = σ47.1 218 24 ∧ σ.1 218 25 = σ47.1 218 25)) hT (s_X12_takes hN (hR.tr hT) (hK) (by rw [hT.2 224 (by decide)]; exact hY) (by decide)) (by decide) (fun v49 σ50 hOσ50 hT hqv49 => ?_)
                have hqv49 : (TOK σ50.1 ∧ (σ47.1 218 11).toInt ≤ (σ50.1 218 11).toInt ∧ (v49 = 0 → σ50 = σ47 ∧ f_X12_is N 218 13 σ47 = some (0, σ47)) ∧ (¬ v49 = 0 → ((σ47.1 218 14 = 0 ∧ σ47.1 218 12 = 1) ∧ f_X12_is N 218 13 σ47 = some (1, σ47)) ∧ (σ47.1 218 11).toInt < (σ50.1 218 11).toInt)) ∧ (σ50.1 218 7 = σ47.1 218 7 ∧ σ50.1 218 9 = σ47.1 218 9 ∧ σ50.1 218 14 = σ47.1 218 14 ∧ σ50.1 218 15 = σ47.1 218 15 ∧ σ50.1 218 20 = σ47.1 218 20 ∧ σ50.1 218 22 = σ47.1 218 22 ∧ σ50.1 218 23 = σ47.1 218 23 ∧ σ50.1 218 24 = σ47.1 218 24 ∧ σ50.1 218 25 = σ47.1 218 25) := hqv49
                have hkv49 := hqv49
                have hqv49 := hqv49.1
                have r231_σ50 : σ50.1 231 = σ0.1 231 := (hOσ50.2 231 (by decide)).trans r231_σ47
                have hK : TOK σ50.1 := by first | exact hqv49.1 | exact TOK_p eσ50 (by decide) hK
                have hB : ZB σ50.1 := ZB.tr hOσ50 (by decide) hB
                try simp only [g7_σ47, g9_σ47, g14_σ47, g15_σ47, g20_σ47, g22_σ47, g23_σ47, g24_σ47, g25_σ47] at hqv49
                have g7_σ50 : σ50.1 218 7 = (σ0.1 218 7) := (hkv49.2.1).trans g7_σ47
                have g9_σ50 : σ50.1 218 9 = (σ0.1 218 9) := (hkv49.2.2.1).trans g9_σ47
                have g14_σ50 : σ50.1 218 14 = (σ42.1 218 14) := (hkv49.2.2.2.1).trans g14_σ47
                have g15_σ50 : σ50.1 218 15 = (σ42.1 218 15) := (hkv49.2.2.2.2.1).trans g15_σ47
                have g20_σ50 : σ50.1 218 20 = (σ0.1 218 20) := (hkv49.2.2.2.2.2.1).trans g20_σ47
                have g22_σ50 : σ50.1 218 22 = (σ0.1 218 22) := (hkv49.2.2.2.2.2.2.1).trans g22_σ47
                have g23_σ50 : σ50.1 218 23 = (σ0.1 218 23) := (hkv49.2.2.2.2.2.2.2.1).trans g23_σ47
                have g24_σ50 : σ50.1 218 24 = (σ0.1 218 24) := (hkv49.2.2.2.2.2.2.2.2.1).trans g24_σ47
                have g25_σ50 : σ50.1 218 25 = (σ0.1 218 25) := (hkv49.2.2.2.2.2.2.2.2.2).trans g25_σ47
                have k110 := hK.1
                have m110 := hqv49.2.1
                have r110 : σ50.1 231 = σ0.1 231 := r231_σ50
                refine ok_if (fun hc51 => ?_) (fun hc51 => ?_)
                · refine ok_gC rfl ?_
                  refine ok_zbT (Q := fun V σ => (TOK σ.1 ∧ (σ50.1 218 10).toInt ≤ (σ.1 218 11).toInt) ∧ (σ.1 218 7 = σ50.1 218 7 ∧ σ.1 218 9 = σ50.1 218 9 ∧ σ.1 218 14 = σ50.1 218 14 ∧ σ.1 218 15 = σ50.1 218 15 ∧ σ.1 218 20 = σ50.1 218 20 ∧ σ.1 218 22 = σ50.1 218 22 ∧ σ.1 218 23 = σ50.1 218 23 ∧ σ.1 218 24 = σ50.1 218 24 ∧ σ.1 218 25 = σ50.1 218 25)) hT (s_X12_advance hN (hR.tr hT) (TOK_A hK) (by rw [hT.2 224 (by decide)]; exact hY)) (by decide) (fun v52 σ53 hOσ53 hT hqv52 => ?_)
                  have hqv52 : (TOK σ53.1 ∧ (σ50.1 218 10).toInt ≤ (σ53.1 218 11).toInt) ∧ (σ53.1 218 7 = σ50.1 218 7 ∧ σ53.1 218 9 = σ50.1 218 9 ∧ σ53.1 218 14 = σ50.1 218 14 ∧ σ53.1 218 15 = σ50.1 218 15 ∧ σ53.1 218 20 = σ50.1 218 20 ∧ σ53.1 218 22 = σ50.1 218 22 ∧ σ53.1 218 23 = σ50.1 218 23 ∧ σ53.1 218 24 = σ50.1 218 24 ∧ σ53.1 218 25 = σ50.1 218 25) := hqv52
                  have hkv52 := hqv52
                  have hqv52 := hqv52.1
                  have r231_σ53 : σ53.1 231 = σ0.1 231 := (hOσ53.2 231 (by decide)).trans r231_σ50
                  have hK : TOK σ53.1 := by first | exact hqv52.1 | exact TOK_p eσ53 (by decide) hK
                  have hB : ZB σ53.1 := ZB.tr hOσ53 (by decide) hB
                  try simp only [g7_σ50, g9_σ50, g14_σ50, g15_σ50, g20_σ50, g22_σ50, g23_σ50, g24_σ50, g25_σ50] at hqv52
                  have g7_σ53 : σ53.1 218 7 = (σ0.1 218 7) := (hkv52.2.1).trans g7_σ50
                  have g9_σ53 : σ53.1 218 9 = (σ0.1 218 9) := (hkv52.2.2.1).trans g9_σ50
                  have g14_σ53 : σ53.1 218 14 = (σ42.1 218 14) := (hkv52.2.2.2.1).trans g14_σ50
                  have g15_σ53 : σ53.1 218 15 = (σ42.1 218 15) := (hkv52.2.2.2.2.1).trans g15_σ50
                  have g20_σ53 : σ53.1 218 20 = (σ0.1 218 20) := (hkv52.2.2.2.2.2.1).trans g20_σ50
                  have g22_σ53 : σ53.1 218 22 = (σ0.1 218 22) := (hkv52.2.2.2.2.2.2.1).trans g22_σ50
                  have g23_σ53 : σ53.1 218 23 = (σ0.1 218 23) := (hkv52.2.2.2.2.2.2.2.1).trans g23_σ50
                  have g24_σ53 : σ53.1 218 24 = (σ0.1 218 24) := (hkv52.2.2.2.2.2.2.2.2.1).trans g24_σ50
                  have g25_σ53 : σ53.1 218 25 = (σ0.1 218 25) := (hkv52.2.2.2.2.2.2.2.2.2).trans g25_σ50
                  have m124 := hqv52.2
                  refine ok_gC rfl ?_
                  refine ok_zbT (Q := fun V σ => (TOK σ.1 ∧ (σ53.1 218 11).toInt ≤ (σ.1 218 11).toInt ∧ (σ.1 218 14 = 0 → σ53.1 218 14 = 0) ∧ ZB σ.1) ∧ (σ.1 218 7 = σ53.1 218 7 ∧ σ.1 218 9 = σ53.1 218 9)) hT (s_X12_readsLet hN (hR.tr hT) (hK) (by rw [hT.2 224 (by decide)]; exact hY) (hB) (by (first | rw [r231_σ53] | skip); exact hF)) (by decide) (fun v54 σ55 hOσ55 hT hqv54 => ?_)
                  have hqv54 : (TOK σ55.1 ∧ (σ53.1 218 11).toInt ≤ (σ55.1 218 11).toInt ∧ (σ55.1 218 14 = 0 → σ53.1 218 14 = 0) ∧ ZB σ55.1) ∧ (σ55.1 218 7 = σ53.1 218 7 ∧ σ55.1 218 9 = σ53.1 218 9) := hqv54
                  have hkv54 := hqv54
                  have hqv54 := hqv54.1
                  have r231_σ55 : σ55.1 231 = σ0.1 231 := (hOσ55.2 231 (by decide)).trans r231_σ53
                  have hK : TOK σ55.1 := by first | exact hqv54.1 | exact TOK_p eσ55 (by decide) hK
                  have hB : ZB σ55.1 := hqv54.2.2.2
                  try simp only [g7_σ53, g9_σ53, g14_σ53, g15_σ53, g20_σ53, g22_σ53, g23_σ53, g24_σ53, g25_σ53] at hqv54
                  have g7_σ55 : σ55.1 218 7 = (σ0.1 218 7) := (hkv54.2.1).trans g7_σ53
                  have g9_σ55 : σ55.1 218 9 = (σ0.1 218 9) := (hkv54.2.2).trans g9_σ53
                  have m128 := hqv54.2.1
                  exact ok_some ⟨hT, (show (TOK σ55.1 ∧ (σ0.1 218 11).toInt ≤ (σ55.1 218 11).toInt ∧ FW (σ55.1 231) ∧ σ55.1 231 1 = σ0.1 231 1 ∧ ZB σ55.1) ∧ (σ55.1 218 7 = σ0.1 218 7 ∧ σ55.1 218 9 = σ0.1 218 9) from ⟨by first | exact ⟨hK, by (try simp only [g7_σ55, g9_σ55]); omega, by (first | rw [r231_σ55] | skip); exact hF, congrFun r231_σ55 1, hB⟩ | exact ⟨hK, by (try simp only [g7_σ55, g9_σ55]); omega, k102.1, q102, hB⟩ | exact ⟨hK, by (try simp only [g7_σ55, g9_σ55]); omega, f117, q117, hB⟩, g7_σ55, g9_σ55⟩)⟩
                · have t113 := (hqv49.2.2.2 hc51).1.2
                  refine ok_gC rfl ?_
                  refine ok_zbT (Q := fun V σ => (TOK σ.1 ∧ (σ50.1 218 11).toInt ≤ (σ.1 218 11).toInt ∧ (σ.1 218 14 = 0 → σ50.1 218 14 = 0) ∧ FW (σ.1 231) ∧ σ.1 231 1 = σ50.1 231 1) ∧ (σ.1 218 7 = σ50.1 218 7 ∧ σ.1 218 9 = σ50.1 218 9 ∧ σ.1 218 20 = σ50.1 218 20 ∧ σ.1 218 22 = σ50.1 218 22 ∧ σ.1 218 23 = σ50.1 218 23 ∧ σ.1 218 24 = σ50.1 218 24 ∧ σ.1 218 25 = σ50.1 218 25)) hT (s_X12_readsEdge hN (hR.tr hT) (hK) (by rw [hT.2 224 (by decide)]; exact hY) (by (first | rw [r231_σ50] | skip); exact hF) (by (first | rw [r231_σ50] | skip); first | exact k57 | exact (is_ne f42 t113 s77.1).elim | exact absurd y69 n62 | exact absurd y69 n32)) (by decide) (fun v56 σ57 hOσ57 hT hqv56 => ?_)
                  have hqv56 : (TOK σ57.1 ∧ (σ50.1 218 11).toInt ≤ (σ57.1 218 11).toInt ∧ (σ57.1 218 14 = 0 → σ50.1 218 14 = 0) ∧ FW (σ57.1 231) ∧ σ57.1 231 1 = σ50.1 231 1) ∧ (σ57.1 218 7 = σ50.1 218 7 ∧ σ57.1 218 9 = σ50.1 218 9 ∧ σ57.1 218 20 = σ50.1 218 20 ∧ σ57.1 218 22 = σ50.1 218 22 ∧ σ57.1 218 23 = σ50.1 218 23 ∧ σ57.1 218 24 = σ50.1 218 24 ∧ σ57.1 218 25 = σ50.1 218 25) := hqv56
                  have hkv56 := hqv56
                  have hqv56 := hqv56.1
                  have hK : TOK σ57.1 := by first | exact hqv56.1 | exact TOK_p eσ57 (by decide) hK
                  have hB : ZB σ57.1 := ZB.tr hOσ57 (by decide) hB
                  try simp only [g7_σ50, g9_σ50, g14_σ50, g15_σ50, g20_σ50, g22_σ50, g23_σ50, g24_σ50, g25_σ50] at hqv56
                  have g7_σ57 : σ57.1 218 7 = (σ0.1 218 7) := (hkv56.2.1).trans g7_σ50
                  have g9_σ57 : σ57.1 218 9 = (σ0.1 218 9) := (hkv56.2.2.1).trans g9_σ50
                  have g20_σ57 : σ57.1 218 20 = (σ0.1 218 20) := (hkv56.2.2.2.1).trans g20_σ50
                  have g22_σ57 : σ57.1 218 22 = (σ0.1 218 22) := (hkv56.2.2.2.2.1).trans g22_σ50
                  have g23_σ57 : σ57.1 218 23 = (σ0.1 218 23) := (hkv56.2.2.2.2.2.1).trans g23_σ50
                  have g24_σ57 : σ57.1 218 24 = (σ0.1 218 24) := (hkv56.2.2.2.2.2.2.1).trans g24_σ50
                  have g25_σ57 : σ57.1 218 25 = (σ0.1 218 25) := (hkv56.2.2.2.2.2.2.2).trans g25_σ50
                  have m117 := hqv56.2.1
                  have f117 := hqv56.2.2.2.1
                  have q117 : σ57.1 231 1 = σ0.1 231 1 := hqv56.2.2.2.2.trans (congrFun r110 1)
                  exact ok_some ⟨hT, (show (TOK σ57.1 ∧ (σ0.1 218 11).toInt ≤ (σ57.1 218 11).toInt ∧ FW (σ57.1 231) ∧ σ57.1 231 1 = σ0.1 231 1 ∧ ZB σ57.1) ∧ (σ57.1 218 7 = σ0.1 218 7 ∧ σ57.1 218 9 = σ0.1 218 9) from ⟨by first | exact ⟨hK, by (try simp only [g7_σ57, g9_σ57, g20_σ57, g22_σ57, g23_σ57, g24_σ57, g25_σ57]); omega, by (first | rw [rfl] | skip); exact hF, congrFun rfl 1, hB⟩ | exact ⟨hK, by (try simp only [g7_σ57, g9_σ57, g20_σ57, g22_σ57, g23_σ57, g24_σ57, g25_σ57]); omega, k102.1, q102, hB⟩ | exact ⟨hK, by (try simp only [g7_σ57, g9_σ57, g20_σ57, g22_σ57, g23_σ57, g24_σ57, g25_σ57]); omega, f117, q117, hB⟩, g7_σ57, g9_σ57⟩)⟩
              · refine ok_gC rfl ?_
                refine ok_zbT (Q := fun V σ => (TOK σ.1 ∧ (σ47.1 218 11).toInt ≤ (σ.1 218 11).toInt ∧ (σ.1 218 14 = 0 → σ47.1 218 14 = 0) ∧ 0 ≤ V.toInt ∧ V.toInt ≤ 9) ∧ (σ.1 218 7 = σ47.1 218 7 ∧ σ.1 218 9 = σ47.1 218 9 ∧ σ.1 218 20 = σ47.1 218 20 ∧ σ.1 218 22 = σ47.1 218 22 ∧ σ.1 218 23 = σ47.1 218 23 ∧ σ.1 218 24 = σ47.1 218 24 ∧ σ.1 218 25 = σ47.1 218 25)) hT (s_X12_readsName hN (hR.tr hT) (hK) (by rw [hT.2 224 (by decide)]; exact hY) (by (first | rw [r231_σ47] | skip); exact hF)) (by decide) (fun v58 σ59 hOσ59 hT hqv58 => ?_)
                have hqv58 : (TOK σ59.1 ∧ (σ47.1 218 11).toInt ≤ (σ59.1 218 11).toInt ∧ (σ59.1 218 14 = 0 → σ47.1 218 14 = 0) ∧ 0 ≤ v58.toInt ∧ v58.toInt ≤ 9) ∧ (σ59.1 218 7 = σ47.1 218 7 ∧ σ59.1 218 9 = σ47.1 218 9 ∧ σ59.1 218 20 = σ47.1 218 20 ∧ σ59.1 218 22 = σ47.1 218 22 ∧ σ59.1 218 23 = σ47.1 218 23 ∧ σ59.1 218 24 = σ47.1 218 24 ∧ σ59.1 218 25 = σ47.1 218 25) := hqv58
                have hkv58 := hqv58
                have hqv58 := hqv58.1
                have r231_σ59 : σ59.1 231 = σ0.1 231 := (hOσ59.2 231 (by decide)).trans r231_σ47
                have hK : TOK σ59.1 := by first | exact hqv58.1 | exact TOK_p eσ59 (by decide) hK
                have hB : ZB σ59.1 := ZB.tr hOσ59 (by decide) hB
                try simp only [g7_σ47, g9_σ47, g14_σ47, g15_σ47, g20_σ47, g22_σ47, g23_σ47, g24_σ47, g25_σ47] at hqv58
                have g7_σ59 : σ59.1 218 7 = (σ0.1 218 7) := (hkv58.2.1).trans g7_σ47
                have g9_σ59 : σ59.1 218 9 = (σ0.1 218 9) := (hkv58.2.2.1).trans g9_σ47
                have g20_σ59 : σ59.1 218 20 = (σ0.1 218 20) := (hkv58.2.2.2.1).trans g20_σ47
                have g22_σ59 : σ59.1 218 22 = (σ0.1 218 22) := (hkv58.2.2.2.2.1).trans g22_σ47
                have g23_σ59 : σ59.1 218 23 = (σ0.1 218 23) := (hkv58.2.2.2.2.2.1).trans g23_σ47
                have g24_σ59 : σ59.1 218 24 = (σ0.1 218 24) := (hkv58.2.2.2.2.2.2.1).trans g24_σ47
                have g25_σ59 : σ59.1 218 25 = (σ0.1 218 25) := (hkv58.2.2.2.2.2.2.2).trans g25_σ47
                have m84 := hqv58.2.1
                have b84 := hqv58.2.2.2
                have i84 := ti3 (x := v58) (by omega) (by omega)
                refine ok_gR (v := 231) hT rfl (hR 218 26 rfl) ?_
                refine ok_gC rfl ?_
                refine ok_zbT (Q := fun V σ => (TOK σ.1 ∧ (σ59.1 218 11).toInt ≤ (σ.1 218 11).toInt ∧ (σ.1 218 14 = 0 → (σ59.1 218 14 = 0 ∧ (σ59.1 218 11).toInt < (σ.1 218 11).toInt) ∧ (0 : Int32).toInt ≤ V.toInt ∧ V.toInt ≤ (99 : Int32).toInt) ∧ (¬ σ.1 218 14 = 0 → V = 0)) ∧ (σ.1 218 7 = σ59.1 218 7 ∧ σ.1 218 9 = σ59.1 218 9 ∧ σ.1 218 20 = σ59.1 218 20 ∧ σ.1 218 22 = σ59.1 218 22 ∧ σ.1 218 23 = σ59.1 218 23 ∧ σ.1 218 24 = σ59.1 218 24 ∧ σ.1 218 25 = σ59.1 218 25)) hT (s_X12_number hN (hR.tr hT) (hK) (by rw [hT.2 224 (by decide)]; exact hY)) (by decide) (fun v61 σ62 hOσ62 hT hqv61 => ?_)
                have hqv61 : (TOK σ62.1 ∧ (σ59.1 218 11).toInt ≤ (σ62.1 218 11).toInt ∧ (σ62.1 218 14 = 0 → (σ59.1 218 14 = 0 ∧ (σ59.1 218 11).toInt < (σ62.1 218 11).toInt) ∧ (0 : Int32).toInt ≤ v61.toInt ∧ v61.toInt ≤ (99 : Int32).toInt) ∧ (¬ σ62.1 218 14 = 0 → v61 = 0)) ∧ (σ62.1 218 7 = σ59.1 218 7 ∧ σ62.1 218 9 = σ59.1 218 9 ∧ σ62.1 218 20 = σ59.1 218 20 ∧ σ62.1 218 22 = σ59.1 218 22 ∧ σ62.1 218 23 = σ59.1 218 23 ∧ σ62.1 218 24 = σ59.1 218 24 ∧ σ62.1 218 25 = σ59.1 218 25) := hqv61
                have hkv61 := hqv61
                have hqv61 := hqv61.1
                have r231_σ62 : σ62.1 231 = σ0.1 231 := (hOσ62.2 231 (by decide)).trans r231_σ59
                have hK : TOK σ62.1 := by first | exact hqv61.1 | exact TOK_p eσ62 (by decide) hK
                have hB : ZB σ62.1 := ZB.tr hOσ62 (by decide) hB
                try simp only [g7_σ59, g9_σ59, g20_σ59, g22_σ59, g23_σ59, g24_σ59, g25_σ59] at hqv61
                have g7_σ62 : σ62.1 218 7 = (σ0.1 218 7) := (hkv61.2.1).trans g7_σ59
                have g9_σ62 : σ62.1 218 9 = (σ0.1 218 9) := (hkv61.2.2.1).trans g9_σ59
                have g20_σ62 : σ62.1 218 20 = (σ0.1 218 20) := (hkv61.2.2.2.1).trans g20_σ59
                have g22_σ62 : σ62.1 218 22 = (σ0.1 218 22) := (hkv61.2.2.2.2.1).trans g22_σ59
                have g23_σ62 : σ62.1 218 23 = (σ0.1 218 23) := (hkv61.2.2.2.2.2.1).trans g23_σ59
                have g24_σ62 : σ62.1 218 24 = (σ0.1 218 24) := (hkv61.2.2.2.2.2.2.1).trans g24_σ59
                have g25_σ62 : σ62.1 218 25 = (σ0.1 218 25) := (hkv61.2.2.2.2.2.2.2).trans g25_σ59
                have m99 := hqv61.2.1
                refine ok_s14 hT rfl (by decide) (by rw [i84.1]; omega) (by rw [i84.1]; omega) (fun σ63 eσ63 hOσ63 hT => ?_)
                have k102 := FW_w eσ63 (by rw [i84.2]; omega) (by rw [i84.2]; omega) (by (first | rw [r231_σ62] | skip); exact hF)
                have q102 : σ63.1 231 1 = σ0.1 231 1 := k102.2.trans (congrFun r231_σ62 1)
                have hK : TOK σ63.1 := TOK_tr hOσ63 (by decide) (by decide) hK
                have hB : ZB σ63.1 := ZB.tr hOσ63 (by decide) hB
                have g7_σ63 : σ63.1 218 7 = (σ0.1 218 7) := (congrFun (hOσ63.2 218 (by decide)) 7).trans g7_σ62
                have g9_σ63 : σ63.1 218 9 = (σ0.1 218 9) := (congrFun (hOσ63.2 218 (by decide)) 9).trans g9_σ62
                have g10_σ63 : σ63.1 218 10 = (σ62.1 218 10) := congrFun (hOσ63.2 218 (by decide)) 10
                have g11_σ63 : σ63.1 218 11 = (σ62.1 218 11) := congrFun (hOσ63.2 218 (by decide)) 11
                have g12_σ63 : σ63.1 218 12 = (σ62.1 218 12) := congrFun (hOσ63.2 218 (by decide)) 12
                have g13_σ63 : σ63.1 218 13 = (σ62.1 218 13) := congrFun (hOσ63.2 218 (by decide)) 13
                have g14_σ63 : σ63.1 218 14 = (σ62.1 218 14) := congrFun (hOσ63.2 218 (by decide)) 14
                have g15_σ63 : σ63.1 218 15 = (σ62.1 218 15) := congrFun (hOσ63.2 218 (by decide)) 15
                have g20_σ63 : σ63.1 218 20 = (σ0.1 218 20) := (congrFun (hOσ63.2 218 (by decide)) 20).trans g20_σ62
                have g22_σ63 : σ63.1 218 22 = (σ0.1 218 22) := (congrFun (hOσ63.2 218 (by decide)) 22).trans g22_σ62
                have g23_σ63 : σ63.1 218 23 = (σ0.1 218 23) := (congrFun (hOσ63.2 218 (by decide)) 23).trans g23_σ62
                have g24_σ63 : σ63.1 218 24 = (σ0.1 218 24) := (congrFun (hOσ63.2 218 (by decide)) 24).trans g24_σ62
                have g25_σ63 : σ63.1 218 25 = (σ0.1 218 25) := (congrFun (hOσ63.2 218 (by decide)) 25).trans g25_σ62
                exact ok_some ⟨hT, (show (TOK σ63.1 ∧ (σ0.1 218 11).toInt ≤ (σ63.1 218 11).toInt ∧ FW (σ63.1 231) ∧ σ63.1 231 1 = σ0.1 231 1 ∧ ZB σ63.1) ∧ (σ63.1 218 7 = σ0.1 218 7 ∧ σ63.1 218 9 = σ0.1 218 9) from ⟨by first | exact ⟨hK, by (try simp only [g7_σ63, g9_σ63, g10_σ63, g11_σ63, g12_σ63, g13_σ63, g14_σ63, g15_σ63, g20_σ63, g22_σ63, g23_σ63, g24_σ63, g25_σ63]); omega, by (first | rw [rfl] | skip); exact hF, congrFun rfl 1, hB⟩ | exact ⟨hK, by (try simp only [g7_σ63, g9_σ63, g10_σ63, g11_σ63, g12_σ63, g13_σ63, g14_σ63, g15_σ63, g20_σ63, g22_σ63, g23_σ63, g24_σ63, g25_σ63]); omega, k102.1, q102, hB⟩ | exact ⟨hK, by (try simp only [g7_σ63, g9_σ63, g10_σ63, g11_σ63, g12_σ63, g13_σ63, g14_σ63, g15_σ63, g20_σ63, g22_σ63, g23_σ63, g24_σ63, g25_σ63]); omega, f117, q117, hB⟩, g7_σ63, g9_σ63⟩)⟩
          · have n57 := hc40
            rw [ev50, ev56] at n57
            have k57 : (σ0.1 231 2).toInt < (σ0.1 231 0).toInt := by rcases Int.lt_or_eq_of_le hF.1.2.2 with q | q; exact q; exact absurd (Int32.toInt_inj.mp q) n57
            rw [J_X12_readsLine_65.eq_1]
            refine ok_gC rfl ?_
            refine ok_zbX (Q := fun V => (V = 0 → ¬ σ11.1 218 14 = 0) ∧ (¬ V = 0 → σ11.1 218 14 = 0)) (x_X12_good) (fun v64 hqv64 => ?_)
            have hqv64 : (v64 = 0 → ¬ σ11.1 218 14 = 0) ∧ (¬ v64 = 0 → σ11.1 218 14 = 0) := hqv64
            try simp only [g7_σ11, g9_σ11, g10_σ11, g11_σ11, g12_σ11, g13_σ11, g20_σ11, g22_σ11, g23_σ11, g24_σ11, g25_σ11, hT.2 224 (by decide)] at hqv64
            refine ok_if (fun hc66 => ?_) (fun hc66 => ?_)
            · have qhc66 := hqv64.1 hc66
              exact ok_some ⟨hT, (show (TOK σ11.1 ∧ (σ0.1 218 11).toInt ≤ (σ11.1 218 11).toInt ∧ FW (σ11.1 231) ∧ σ11.1 231 1 = σ0.1 231 1 ∧ ZB σ11.1) ∧ (σ11.1 218 7 = σ0.1 218 7 ∧ σ11.1 218 9 = σ0.1 218 9) from ⟨by first | exact ⟨hK, by (try simp only [g7_σ11, g9_σ11, g10_σ11, g11_σ11, g12_σ11, g13_σ11, g20_σ11, g22_σ11, g23_σ11, g24_σ11, g25_σ11]); omega, by (first | rw [r231_σ11] | skip); exact hF, congrFun r231_σ11 1, hB⟩ | exact ⟨hK, by (try simp only [g7_σ11, g9_σ11, g10_σ11, g11_σ11, g12_σ11, g13_σ11, g20_σ11, g22_σ11, g23_σ11, g24_σ11, g25_σ11]); omega, k102.1, q102, hB⟩ | exact ⟨hK, by (try simp only [g7_σ11, g9_σ11, g10_σ11, g11_σ11, g12_σ11, g13_σ11, g20_σ11, g22_σ11, g23_σ11, g24_σ11, g25_σ11]); omega, f117, q117, hB⟩, g7_σ11, g9_σ11⟩)⟩
            · have qhc66 := hqv64.2 hc66
              have y69 := qhc66
              refine ok_gC rfl ?_
              refine ok_zbT (Q := fun V σ => (TOK σ.1 ∧ (σ11.1 218 11).toInt ≤ (σ.1 218 11).toInt ∧ (V = 0 → σ = σ11 ∧ f_X12_is N 218 12 σ11 = some (0, σ11)) ∧ (¬ V = 0 → ((σ11.1 218 14 = 0 ∧ σ11.1 218 12 = 1) ∧ f_X12_is N 218 12 σ11 = some (1, σ11)) ∧ (σ11.1 218 11).toInt < (σ.1 218 11).toInt)) ∧ (σ.1 218 7 = σ11.1 218 7 ∧ σ.1 218 9 = σ11.1 218 9 ∧ σ.1 218 14 = σ11.1 218 14 ∧ σ.1 218 15 = σ11.1 218 15 ∧ σ.1 218 20 = σ11.1 218 20 ∧ σ.1 218 22 = σ11.1 218 22 ∧ σ.1 218 23 = σ11.1 218 23 ∧ σ.1 218 24 = σ11.1 218 24 ∧ σ.1 218 25 = σ11.1 218 25)) hT (s_X12_takes hN (hR.tr hT) (hK) (by rw [hT.2 224 (by decide)]; exact hY) (by decide)) (by decide) (fun v67 σ68 hOσ68 hT hqv67 => ?_)
              have hqv67 : (TOK σ68.1 ∧ (σ11.1 218 11).toInt ≤ (σ68.1 218 11).toInt ∧ (v67 = 0 → σ68 = σ11 ∧ f_X12_is N 218 12 σ11 = some (0, σ11)) ∧ (¬ v67 = 0 → ((σ11.1 218 14 = 0 ∧ σ11.1 218 12 = 1) ∧ f_X12_is N 218 12 σ11 = some (1, σ11)) ∧ (σ11.1 218 11).toInt < (σ68.1 218 11).toInt)) ∧ (σ68.1 218 7 = σ11.1 218 7 ∧ σ68.1 218 9 = σ11.1 218 9 ∧ σ68.1 218 14 = σ11.1 218 14 ∧ σ68.1 218 15 = σ11.1 218 15 ∧ σ68.1 218 20 = σ11.1 218 20 ∧ σ68.1 218 22 = σ11.1 218 22 ∧ σ68.1 218 23 = σ11.1 218 23 ∧ σ68.1 218 24 = σ11.1 218 24 ∧ σ68.1 218 25 = σ11.1 218 25) := hqv67
              have hkv67 := hqv67
              have hqv67 := hqv67.1
              have r231_σ68 : σ68.1 231 = σ0.1 231 := (hOσ68.2 231 (by decide)).trans r231_σ11
              have hK : TOK σ68.1 := by first | exact hqv67.1 | exact TOK_p eσ68 (by decide) hK
              have hB : ZB σ68.1 := ZB.tr hOσ68 (by decide) hB
              try simp only [g7_σ11, g9_σ11, g10_σ11, g11_σ11, g12_σ11, g13_σ11, g20_σ11, g22_σ11, g23_σ11, g24_σ11, g25_σ11] at hqv67
              have g7_σ68 : σ68.1 218 7 = (σ0.1 218 7) := (hkv67.2.1).trans g7_σ11
              have g9_σ68 : σ68.1 218 9 = (σ0.1 218 9) := (hkv67.2.2.1).trans g9_σ11
              have g14_σ68 : σ68.1 218 14 = (σ11.1 218 14) := hkv67.2.2.2.1
              have g15_σ68 : σ68.1 218 15 = (σ11.1 218 15) := hkv67.2.2.2.2.1
              have g20_σ68 : σ68.1 218 20 = (σ0.1 218 20) := (hkv67.2.2.2.2.2.1).trans g20_σ11
              have g22_σ68 : σ68.1 218 22 = (σ0.1 218 22) := (hkv67.2.2.2.2.2.2.1).trans g22_σ11
              have g23_σ68 : σ68.1 218 23 = (σ0.1 218 23) := (hkv67.2.2.2.2.2.2.2.1).trans g23_σ11
              have g24_σ68 : σ68.1 218 24 = (σ0.1 218 24) := (hkv67.2.2.2.2.2.2.2.2.1).trans g24_σ11
              have g25_σ68 : σ68.1 218 25 = (σ0.1 218 25) := (hkv67.2.2.2.2.2.2.2.2.2).trans g25_σ11
              have m77 := hqv67.2.1
              refine ok_if (fun hc69 => ?_) (fun hc69 => ?_)
              · have s77 := hqv67.2.2.1 hc69
                refine ok_gC rfl ?_
                refine ok_zbT (Q := fun V σ => (TOK σ.1 ∧ (σ68.1 218 11).toInt ≤ (σ.1 218 11).toInt ∧ (V = 0 → σ = σ68 ∧ f_X12_is N 218 13 σ68 = some (0, σ68)) ∧ (¬ V = 0 → ((σ68.1 218 14 = 0 ∧ σ68.1 218 12 = 1) ∧ f_X12_is N 218 13 σ68 = some (1, σ68)) ∧ (σ68.1 218 11).toInt < (σ.1 218 11).toInt)) ∧ (σ.1 218 7 = σ68.1 218 7 ∧ σ.1 218 9 = σ68.1 218 9 ∧ σ.1 218 14 = σ68.1 218 14 ∧ σ.1 218 15 = σ68.1 218 15 ∧ σ.1 218 20 = σ68.1 218 20 ∧ σ.1 218 22 = σ68.1 218 22 ∧ σ.1 218 23 = σ68.1 218 23 ∧ σ.1 218 24 = σ68.1 218 24 ∧ σ.1 218 25 = σ68.1 218 25)) hT (s_X12_takes hN (hR.tr hT) (hK) (by rw [hT.2 224 (by decide)]; exact hY) (by decide)) (by decide) (fun v70 σ71 hOσ71 hT hqv70 => ?_)
                have hqv70 : (TOK σ71.1 ∧ (σ68.1 218 11).toInt ≤ (σ71.1 218 11).toInt ∧ (v70 = 0 → σ71 = σ68 ∧ f_X12_is N 218 13 σ68 = some (0, σ68)) ∧ (¬ v70 = 0 → ((σ68.1 218 14 = 0 ∧ σ68.1 218 12 = 1) ∧ f_X12_is N 218 13 σ68 = some (1, σ68)) ∧ (σ68.1 218 11).toInt < (σ71.1 218 11).toInt)) ∧ (σ71.1 218 7 = σ68.1 218 7 ∧ σ71.1 218 9 = σ68.1 218 9 ∧ σ71.1 218 14 = σ68.1 218 14 ∧ σ71.1 218 15 = σ68.1 218 15 ∧ σ71.1 218 20 = σ68.1 218 20 ∧ σ71.1 218 22 = σ68.1 218 22 ∧ σ71.1 218 23 = σ68.1 218 23 ∧ σ71.1 218 24 = σ68.1 218 24 ∧ σ71.1 218 25 = σ68.1 218 25) := hqv70
                have hkv70 := hqv70
                have hqv70 := hqv70.1
                have r231_σ71 : σ71.1 231 = σ0.1 231 := (hOσ71.2 231 (by decide)).trans r231_σ68
                have hK : TOK σ71.1 := by first | exact hqv70.1 | exact TOK_p eσ71 (by decide) hK
                have hB : ZB σ71.1 := ZB.tr hOσ71 (by decide) hB
                try simp only [g7_σ68, g9_σ68, g14_σ68, g15_σ68, g20_σ68, g22_σ68, g23_σ68, g24_σ68, g25_σ68] at hqv70
                have g7_σ71 : σ71.1 218 7 = (σ0.1 218 7) := (hkv70.2.1).trans g7_σ68
                have g9_σ71 : σ71.1 218 9 = (σ0.1 218 9) := (hkv70.2.2.1).trans g9_σ68
                have g14_σ71 : σ71.1 218 14 = (σ11.1 218 14) := (hkv70.2.2.2.1).trans g14_σ68
                have g15_σ71 : σ71.1 218 15 = (σ11.1 218 15) := (hkv70.2.2.2.2.1).trans g15_σ68
                have g20_σ71 : σ71.1 218 20 = (σ0.1 218 20) := (hkv70.2.2.2.2.2.1).trans g20_σ68
                have g22_σ71 : σ71.1 218 22 = (σ0.1 218 22) := (hkv70.2.2.2.2.2.2.1).trans g22_σ68
                have g23_σ71 : σ71.1 218 23 = (σ0.1 218 23) := (hkv70.2.2.2.2.2.2.2.1).trans g23_σ68
                have g24_σ71 : σ71.1 218 24 = (σ0.1 218 24) := (hkv70.2.2.2.2.2.2.2.2.1).trans g24_σ68
                have g25_σ71 : σ71.1 218 25 = (σ0.1 218 25) := (hkv70.2.2.2.2.2.2.2.2.2).trans g25_σ68
                have k110 := hK.1
                have m110 := hqv70.2.1
                have r110 : σ71.1 231 = σ0.1 231 := r231_σ71
                refine ok_if (fun hc72 => ?_) (fun hc72 => ?_)
                · refine ok_gC rfl ?_
                  refine ok_zbT (Q := fun V σ => (TOK σ.1 ∧ (σ71.1 218 10).toInt ≤ (σ.1 218 11).toInt) ∧ (σ.1 218 7 = σ71.1 218 7 ∧ σ.1 218 9 = σ71.1 218 9 ∧ σ.1 218 14 = σ71.1 218 14 ∧ σ.1 218 15 = σ71.1 218 15 ∧ σ.1 218 20 = σ71.1 218 20 ∧ σ.1 218 22 = σ71.1 218 22 ∧ σ.1 218 23 = σ71.1 218 23 ∧ σ.1 218 24 = σ71.1 218 24 ∧ σ.1 218 25 = σ71.1 218 25)) hT (s_X12_advance hN (hR.tr hT) (TOK_A hK) (by rw [hT.2 224 (by decide)]; exact hY)) (by decide) (fun v73 σ74 hOσ74 hT hqv73 => ?_)
                  have hqv73 : (TOK σ74.1 ∧ (σ71.1 218 10).toInt ≤ (σ74.1 218 11).toInt) ∧ (σ74.1 218 7 = σ71.1 218 7 ∧ σ74.1 218 9 = σ71.1 218 9 ∧ σ74.1 218 14 = σ71.1 218 14 ∧ σ74.1 218 15 = σ71.1 218 15 ∧ σ74.1 218 20 = σ71.1 218 20 ∧ σ74.1 218 22 = σ71.1 218 22 ∧ σ74.1 218 23 = σ71.1 218 23 ∧ σ74.1 218 24 = σ71.1 218 24 ∧ σ74.1 218 25 = σ71.1 218 25) := hqv73
                  have hkv73 := hqv73
                  have hqv73 := hqv73.1
                  have r231_σ74 : σ74.1 231 = σ0.1 231 := (hOσ74.2 231 (by decide)).trans r231_σ71
                  have hK : TOK σ74.1 := by first | exact hqv73.1 | exact TOK_p eσ74 (by decide) hK
                  have hB : ZB σ74.1 := ZB.tr hOσ74 (by decide) hB
                  try simp only [g7_σ71, g9_σ71, g14_σ71, g15_σ71, g20_σ71, g22_σ71, g23_σ71, g24_σ71, g25_σ71] at hqv73
                  have g7_σ74 : σ74.1 218 7 = (σ0.1 218 7) := (hkv73.2.1).trans g7_σ71
                  have g9_σ74 : σ74.1 218 9 = (σ0.1 218 9) := (hkv73.2.2.1).trans g9_σ71
                  have g14_σ74 : σ74.1 218 14 = (σ11.1 218 14) := (hkv73.2.2.2.1).trans g14_σ71
                  have g15_σ74 : σ74.1 218 15 = (σ11.1 218 15) := (hkv73.2.2.2.2.1).trans g15_σ71
                  have g20_σ74 : σ74.1 218 20 = (σ0.1 218 20) := (hkv73.2.2.2.2.2.1).trans g20_σ71
                  have g22_σ74 : σ74.1 218 22 = (σ0.1 218 22) := (hkv73.2.2.2.2.2.2.1).trans g22_σ71
                  have g23_σ74 : σ74.1 218 23 = (σ0.1 218 23) := (hkv73.2.2.2.2.2.2.2.1).trans g23_σ71
                  have g24_σ74 : σ74.1 218 24 = (σ0.1 218 24) := (hkv73.2.2.2.2.2.2.2.2.1).trans g24_σ71
                  have g25_σ74 : σ74.1 218 25 = (σ0.1 218 25) := (hkv73.2.2.2.2.2.2.2.2.2).trans g25_σ71
                  have m124 := hqv73.2
                  refine ok_gC rfl ?_
                  refine ok_zbT (Q := fun V σ => (TOK σ.1 ∧ (σ74.1 218 11).toInt ≤ (σ.1 218 11).toInt ∧ (σ.1 218 14 = 0 → σ74.1 218 14 = 0) ∧ ZB σ.1) ∧ (σ.1 218 7 = σ74.1 218 7 ∧ σ.1 218 9 = σ74.1 218 9)) hT (s_X12_readsLet hN (hR.tr hT) (hK) (by rw [hT.2 224 (by decide)]; exact hY) (hB) (by (first | rw [r231_σ74] | skip); exact hF)) (by decide) (fun v75 σ76 hOσ76 hT hqv75 => ?_)
                  have hqv75 : (TOK σ76.1 ∧ (σ74.1 218 11).toInt ≤ (σ76.1 218 11).toInt ∧ (σ76.1 218 14 = 0 → σ74.1 218 14 = 0) ∧ ZB σ76.1) ∧ (σ76.1 218 7 = σ74.1 218 7 ∧ σ76.1 218 9 = σ74.1 218 9) := hqv75
                  have hkv75 := hqv75
                  have hqv75 := hqv75.1
                  have r231_σ76 : σ76.1 231 = σ0.1 231 := (hOσ76.2 231 (by decide)).trans r231_σ74
                  have hK : TOK σ76.1 := by first | exact hqv75.1 | exact TOK_p eσ76 (by decide) hK
                  have hB : ZB σ76.1 := hqv75.2.2.2
                  try simp only [g7_σ74, g9_σ74, g14_σ74, g15_σ74, g20_σ74, g22_σ74, g23_σ74, g24_σ74, g25_σ74] at hqv75
                  have g7_σ76 : σ76.1 218 7 = (σ0.1 218 7) := (hkv75.2.1).trans g7_σ74
                  have g9_σ76 : σ76.1 218 9 = (σ0.1 218 9) := (hkv75.2.2).trans g9_σ74
                  have m128 := hqv75.2.1
                  exact ok_some ⟨hT, (show (TOK σ76.1 ∧ (σ0.1 218 11).toInt ≤ (σ76.1 218 11).toInt ∧ FW (σ76.1 231) ∧ σ76.1 231 1 = σ0.1 231 1 ∧ ZB σ76.1) ∧ (σ76.1 218 7 = σ0.1 218 7 ∧ σ76.1 218 9 = σ0.1 218 9) from ⟨by first | exact ⟨hK, by (try simp only [g7_σ76, g9_σ76]); omega, by (first | rw [r231_σ76] | skip); exact hF, congrFun r231_σ76 1, hB⟩ | exact ⟨hK, by (try simp only [g7_σ76, g9_σ76]); omega, k102.1, q102, hB⟩ | exact ⟨hK, by (try simp only [g7_σ76, g9_σ76]); omega, f117, q117, hB⟩, g7_σ76, g9_σ76⟩)⟩
                · have t113 := (hqv70.2.2.2 hc72).1.2
                  refine ok_gC rfl ?_
                  refine ok_zbT (Q := fun V σ => (TOK σ.1 ∧ (σ71.1 218 11).toInt ≤ (σ.1 218 11).toInt ∧ (σ.1 218 14 = 0 → σ71.1 218 14 = 0) ∧ FW (σ.1 231) ∧ σ.1 231 1 = σ71.1 231 1) ∧ (σ.1 218 7 = σ71.1 218 7 ∧ σ.1 218 9 = σ71.1 218 9 ∧ σ.1 218 20 = σ71.1 218 20 ∧ σ.1 218 22 = σ71.1 218 22 ∧ σ.1 218 23 = σ71.1 218 23 ∧ σ.1 218 24 = σ71.1 218 24 ∧ σ.1 218 25 = σ71.1 218 25)) hT (s_X12_readsEdge hN (hR.tr hT) (hK) (by rw [hT.2 224 (by decide)]; exact hY) (by (first | rw [r231_σ71] | skip); exact hF) (by (first | rw [r231_σ71] | skip); first | exact k57 | exact (is_ne f42 t113 s77.1).elim | exact absurd y69 n62 | exact absurd y69 n32)) (by decide) (fun v77 σ78 hOσ78 hT hqv77 => ?_)
                  have hqv77 : (TOK σ78.1 ∧ (σ71.1 218 11).toInt ≤ (σ78.1 218 11).toInt ∧ (σ78.1 218 14 = 0 → σ71.1 218 14 = 0) ∧ FW (σ78.1 231) ∧ σ78.1 231 1 = σ71.1 231 1) ∧ (σ78.1 218 7 = σ71.1 218 7 ∧ σ78.1 218 9 = σ71.1 218 9 ∧ σ78.1 218 20 = σ71.1 218 20 ∧ σ78.1 218 22 = σ71.1 218 22 ∧ σ78.1 218 23 = σ71.1 218 23 ∧ σ78.1 218 24 = σ71.1 218 24 ∧ σ78.1 218 25 = σ71.1 218 25) := hqv77
                  have hkv77 := hqv77
                  have hqv77 := hqv77.1
                  have hK : TOK σ78.1 := by first | exact hqv77.1 | exact TOK_p eσ78 (by decide) hK
                  have hB : ZB σ78.1 := ZB.tr hOσ78 (by decide) hB
                  try simp only [g7_σ71, g9_σ71, g14_σ71, g15_σ71, g20_σ71, g22_σ71, g23_σ71, g24_σ71, g25_σ71] at hqv77
                  have g7_σ78 : σ78.1 218 7 = (σ0.1 218 7) := (hkv77.2.1).trans g7_σ71
                  have g9_σ78 : σ78.1 218 9 = (σ0.1 218 9) := (hkv77.2.2.1).trans g9_σ71
                  have g20_σ78 : σ78.1 218 20 = (σ0.1 218 20) := (hkv77.2.2.2.1).trans g20_σ71
                  have g22_σ78 : σ78.1 218 22 = (σ0.1 218 22) := (hkv77.2.2.2.2.1).trans g22_σ71
                  have g23_σ78 : σ78.1 218 23 = (σ0.1 218 23) := (hkv77.2.2.2.2.2.1).trans g23_σ71
                  have g24_σ78 : σ78.1 218 24 = (σ0.1 218 24) := (hkv77.2.2.2.2.2.2.1).trans g24_σ71
                  have g25_σ78 : σ78.1 218 25 = (σ0.1 218 25) := (hkv77.2.2.2.2.2.2.2).trans g25_σ71
                  have m117 := hqv77.2.1
                  have f117 := hqv77.2.2.2.1
                  have q117 : σ78.1 231 1 = σ0.1 231 1 := hqv77.2.2.2.2.trans (congrFun r110 1)
                  exact ok_some ⟨hT, (show (TOK σ78.1 ∧ (σ0.1 218 11).toInt ≤ (σ78.1 218 11).toInt ∧ FW (σ78.1 231) ∧ σ78.1 231 1 = σ0.1 231 1 ∧ ZB σ78.1) ∧ (σ78.1 218 7 = σ0.1 218 7 ∧ σ78.1 218 9 = σ0.1 218 9) from ⟨by first | exact ⟨hK, by (try simp only [g7_σ78, g9_σ78, g20_σ78, g22_σ78, g23_σ78, g24_σ78, g25_σ78]); omega, by (first | rw [rfl] | skip); exact hF, congrFun rfl 1, hB⟩ | exact ⟨hK, by (try simp only [g7_σ78, g9_σ78, g20_σ78, g22_σ78, g23_σ78, g24_σ78, g25_σ78]); omega, k102.1, q102, hB⟩ | exact ⟨hK, by (try simp only [g7_σ78, g9_σ78, g20_σ78, g22_σ78, g23_σ78, g24_σ78, g25_σ78]); omega, f117, q117, hB⟩, g7_σ78, g9_σ78⟩)⟩
              · refine ok_gC rfl ?_
                refine ok_zbT (Q := fun V σ => (TOK σ.1 ∧ (σ68.1 218 11).toInt ≤ (σ.1 218 11).toInt ∧ (σ.1 218 14 = 0 → σ68.1 218 14 = 0) ∧ 0 ≤ V.toInt ∧ V.toInt ≤ 9) ∧ (σ.1 218 7 = σ68.1 218 7 ∧ σ.1 218 9 = σ68.1 218 9 ∧ σ.1 218 20 = σ68.1 218 20 ∧ σ.1 218 22 = σ68.1 218 22 ∧ σ.1 218 23 = σ68.1 218 23 ∧ σ.1 218 24 = σ68.1 218 24 ∧ σ.1 218 25 = σ68.1 218 25)) hT (s_X12_readsName hN (hR.tr hT) (hK) (by rw [hT.2 224 (by decide)]; exact hY) (by (first | rw [r231_σ68] | skip); exact hF)) (by decide) (fun v79 σ80 hOσ80 hT hqv79 => ?_)
                have hqv79 : (TOK σ80.1 ∧ (σ68.1 218 11).toInt ≤ (σ80.1 218 11).toInt ∧ (σ80.1 218 14 = 0 → σ68.1 218 14 = 0) ∧ 0 ≤ v79.toInt ∧ v79.toInt ≤ 9) ∧ (σ80.1 218 7 = σ68.1 218 7 ∧ σ80.1 218 9 = σ68.1 218 9 ∧ σ80.1 218 20 = σ68.1 218 20 ∧ σ80.1 218 22 = σ68.1 218 22 ∧ σ80.1 218 23 = σ68.1 218 23 ∧ σ80.1 218 24 = σ68.1 218 24 ∧ σ80.1 218 25 = σ68.1 218 25) := hqv79
                have hkv79 := hqv79
                have hqv79 := hqv79.1
                have r231_σ80 : σ80.1 231 = σ0.1 231 := (hOσ80.2 231 (by decide)).trans r231_σ68
                have hK : TOK σ80.1 := by first | exact hqv79.1 | exact TOK_p eσ80 (by decide) hK
                have hB : ZB σ80.1 := ZB.tr hOσ80 (by decide) hB
                try simp only [g7_σ68, g9_σ68, g14_σ68, g15_σ68, g20_σ68, g22_σ68, g23_σ68, g24_σ68, g25_σ68] at hqv79
                have g7_σ80 : σ80.1 218 7 = (σ0.1 218 7) := (hkv79.2.1).trans g7_σ68
                have g9_σ80 : σ80.1 218 9 = (σ0.1 218 9) := (hkv79.2.2.1).trans g9_σ68
                have g20_σ80 : σ80.1 218 20 = (σ0.1 218 20) := (hkv79.2.2.2.1).trans g20_σ68
                have g22_σ80 : σ80.1 218 22 = (σ0.1 218 22) := (hkv79.2.2.2.2.1).trans g22_σ68
                have g23_σ80 : σ80.1 218 23 = (σ0.1 218 23) := (hkv79.2.2.2.2.2.1).trans g23_σ68
                have g24_σ80 : σ80.1 218 24 = (σ0.1 218 24) := (hkv79.2.2.2.2.2.2.1).trans g24_σ68
                have g25_σ80 : σ80.1 218 25 = (σ0.1 218 25) := (hkv79.2.2.2.2.2.2.2).trans g25_σ68
                have m84 := hqv79.2.1
                have b84 := hqv79.2.2.2
                have i84 := ti3 (x := v79) (by omega) (by omega)
                refine ok_gR (v := 231) hT rfl (hR 218 26 rfl) ?_
                refine ok_gC rfl ?_
                refine ok_zbT (Q := fun V σ => (TOK σ.1 ∧ (σ80.1 218 11).toInt ≤ (σ.1 218 11).toInt ∧ (σ.1 218 14 = 0 → (σ80.1 218 14 = 0 ∧ (σ80.1 218 11).toInt < (σ.1 218 11).toInt) ∧ (0 : Int32).toInt ≤ V.toInt ∧ V.toInt ≤ (99 : Int32).toInt) ∧ (¬ σ.1 218 14 = 0 → V = 0)) ∧ (σ.1 218 7 = σ80.1 218 7 ∧ σ.1 218 9 = σ80.1 218 9 ∧ σ.1 218 20 = σ80.1 218 20 ∧ σ.1 218 22 = σ80.1 218 22 ∧ σ.1 218 23 = σ80.1 218 23 ∧ σ.1 218 24 = σ80.1 218 24 ∧ σ.1 218 25 = σ80.1 218 25)) hT (s_X12_number hN (hR.tr hT) (hK) (by rw [hT.2 224 (by decide)]; exact hY)) (by decide) (fun v82 σ83 hOσ83 hT hqv82 => ?_)
                have hqv82 : (TOK σ83.1 ∧ (σ80.1 218 11).toInt ≤ (σ83.1 218 11).toInt ∧ (σ83.1 218 14 = 0 → (σ80.1 218 14 = 0 ∧ (σ80.1 218 11).toInt < (σ83.1 218 11).toInt) ∧ (0 : Int32).toInt ≤ v82.toInt ∧ v82.toInt ≤ (99 : Int32).toInt) ∧ (¬ σ83.1 218 14 = 0 → v82 = 0)) ∧ (σ83.1 218 7 = σ80.1 218 7 ∧ σ83.1 218 9 = σ80.1 218 9 ∧ σ83.1 218 20 = σ80.1 218 20 ∧ σ83.1 218 22 = σ80.1 218 22 ∧ σ83.1 218 23 = σ80.1 218 23 ∧ σ83.1 218 24 = σ80.1 218 24 ∧ σ83.1 218 25 = σ80.1 218 25) := hqv82
                have hkv82 := hqv82
                have hqv82 := hqv82.1
                have r231_σ83 : σ83.1 231 = σ0.1 231 := (hOσ83.2 231 (by decide)).trans r231_σ80
                have hK : TOK σ83.1 := by first | exact hqv82.1 | exact TOK_p eσ83 (by decide) hK
                have hB : ZB σ83.1 := ZB.tr hOσ83 (by decide) hB
                try simp only [g7_σ80, g9_σ80, g20_σ80, g22_σ80, g23_σ80, g24_σ80, g25_σ80] at hqv82
                have g7_σ83 : σ83.1 218 7 = (σ0.1 218 7) := (hkv82.2.1).trans g7_σ80
                have g9_σ83 : σ83.1 218 9 = (σ0.1 218 9) := (hkv82.2.2.1).trans g9_σ80
                have g20_σ83 : σ83.1 218 20 = (σ0.1 218 20) := (hkv82.2.2.2.1).trans g20_σ80
                have g22_σ83 : σ83.1 218 22 = (σ0.1 218 22) := (hkv82.2.2.2.2.1).trans g22_σ80
                have g23_σ83 : σ83.1 218 23 = (σ0.1 218 23) := (hkv82.2.2.2.2.2.1).trans g23_σ80
                have g24_σ83 : σ83.1 218 24 = (σ0.1 218 24) := (hkv82.2.2.2.2.2.2.1).trans g24_σ80
                have g25_σ83 : σ83.1 218 25 = (σ0.1 218 25) := (hkv82.2.2.2.2.2.2.2).trans g25_σ80
                have m99 := hqv82.2.1
                refine ok_s14 hT rfl (by decide) (by rw [i84.1]; omega) (by rw [i84.1]; omega) (fun σ84 eσ84 hOσ84 hT => ?_)
                have k102 := FW_w eσ84 (by rw [i84.2]; omega) (by rw [i84.2]; omega) (by (first | rw [r231_σ83] | skip); exact hF)
                have q102 : σ84.1 231 1 = σ0.1 231 1 := k102.2.trans (congrFun r231_σ83 1)
                have hK : TOK σ84.1 := TOK_tr hOσ84 (by decide) (by decide) hK
                have hB : ZB σ84.1 := ZB.tr hOσ84 (by decide) hB
                have g7_σ84 : σ84.1 218 7 = (σ0.1 218 7) := (congrFun (hOσ84.2 218 (by decide)) 7).trans g7_σ83
                have g9_σ84 : σ84.1 218 9 = (σ0.1 218 9) := (congrFun (hOσ84.2 218 (by decide)) 9).trans g9_σ83
                have g10_σ84 : σ84.1 218 10 = (σ83.1 218 10) := congrFun (hOσ84.2 218 (by decide)) 10
                have g11_σ84 : σ84.1 218 11 = (σ83.1 218 11) := congrFun (hOσ84.2 218 (by decide)) 11
                have g12_σ84 : σ84.1 218 12 = (σ83.1 218 12) := congrFun (hOσ84.2 218 (by decide)) 12
                have g13_σ84 : σ84.1 218 13 = (σ83.1 218 13) := congrFun (hOσ84.2 218 (by decide)) 13
                have g14_σ84 : σ84.1 218 14 = (σ83.1 218 14) := congrFun (hOσ84.2 218 (by decide)) 14
                have g15_σ84 : σ84.1 218 15 = (σ83.1 218 15) := congrFun (hOσ84.2 218 (by decide)) 15
                have g20_σ84 : σ84.1 218 20 = (σ0.1 218 20) := (congrFun (hOσ84.2 218 (by decide)) 20).trans g20_σ83
                have g22_σ84 : σ84.1 218 22 = (σ0.1 218 22) := (congrFun (hOσ84.2 218 (by decide)) 22).trans g22_σ83
                have g23_σ84 : σ84.1 218 23 = (σ0.1 218 23) := (congrFun (hOσ84.2 218 (by decide)) 23).trans g23_σ83
                have g24_σ84 : σ84.1 218 24 = (σ0.1 218 24) := (congrFun (hOσ84.2 218 (by decide)) 24).trans g24_σ83
                have g25_σ84 : σ84.1 218 25 = (σ0.1 218 25) := (congrFun (hOσ84.2 218 (by decide)) 25).trans g25_σ83
                exact ok_some ⟨hT, (show (TOK σ84.1 ∧ (σ0.1 218 11).toInt ≤ (σ84.1 218 11).toInt ∧ FW (σ84.1 231) ∧ σ84.1 231 1 = σ0.1 231 1 ∧ ZB σ84.1) ∧ (σ84.1 218 7 = σ0.1 218 7 ∧ σ84.1 218 9 = σ0.1 218 9) from ⟨by first | exact ⟨hK, by (try simp only [g7_σ84, g9_σ84, g10_σ84, g11_σ84, g12_σ84, g13_σ84, g14_σ84, g15_σ84, g20_σ84, g22_σ84, g23_σ84, g24_σ84, g25_σ84]); omega, by (first | rw [rfl] | skip); exact hF, congrFun rfl 1, hB⟩ | exact ⟨hK, by (try simp only [g7_σ84, g9_σ84, g10_σ84, g11_σ84, g12_σ84, g13_σ84, g14_σ84, g15_σ84, g20_σ84, g22_σ84, g23_σ84, g24_σ84, g25_σ84]); omega, k102.1, q102, hB⟩ | exact ⟨hK, by (try simp only [g7_σ84, g9_σ84, g10_σ84, g11_σ84, g12_σ84, g13_σ84, g14_σ84, g15_σ84, g20_σ84, g22_σ84, g23_σ84, g24_σ84, g25_σ84]); omega, f117, q117, hB⟩, g7_σ84, g9_σ84⟩)⟩
      · have qhc9 := hqv7.2 hc9
        rw [J_X12_readsLine_35.eq_1]
        refine ok_gC rfl ?_
        refine ok_zbX (Q := fun V => (V = 0 → f_X12_is N 218 13 σ0 = some (0, σ0)) ∧ (¬ V = 0 → (σ0.1 218 14 = 0 ∧ σ0.1 218 12 = 1) ∧ V = 1 ∧ f_X12_is N 218 13 σ0 = some (1, σ0))) (x_X12_is hN (hR.tr hT) (by decide) hK) (fun v85 hqv85 => ?_)
        have hqv85 : (v85 = 0 → f_X12_is N 218 13 σ0 = some (0, σ0)) ∧ (¬ v85 = 0 → (σ0.1 218 14 = 0 ∧ σ0.1 218 12 = 1) ∧ v85 = 1 ∧ f_X12_is N 218 13 σ0 = some (1, σ0)) := hqv85
        refine ok_if (fun hc87 => ?_) (fun hc87 => ?_)
        · have qhc87 := hqv85.1 hc87
          have f42 := qhc87
          rw [J_X12_readsLine_65.eq_1]
          refine ok_gC rfl ?_
          refine ok_zbX (Q := fun V => (V = 0 → ¬ σ0.1 218 14 = 0) ∧ (¬ V = 0 → σ0.1 218 14 = 0)) (x_X12_good) (fun v88 hqv88 => ?_)
          have hqv88 : (v88 = 0 → ¬ σ0.1 218 14 = 0) ∧ (¬ v88 = 0 → σ0.1 218 14 = 0) := hqv88
          refine ok_if (fun hc90 => ?_) (fun hc90 => ?_)
          · have qhc90 := hqv88.1 hc90
            exact ok_some ⟨hT, (show (TOK σ0.1 ∧ (σ0.1 218 11).toInt ≤ (σ0.1 218 11).toInt ∧ FW (σ0.1 231) ∧ σ0.1 231 1 = σ0.1 231 1 ∧ ZB σ0.1) ∧ (σ0.1 218 7 = σ0.1 218 7 ∧ σ0.1 218 9 = σ0.1 218 9) from ⟨by first | exact ⟨hK, by skip; omega, by (first | rw [rfl] | skip); exact hF, congrFun rfl 1, hB⟩ | exact ⟨hK, by skip; omega, k102.1, q102, hB⟩ | exact ⟨hK, by skip; omega, f117, q117, hB⟩, rfl, rfl⟩)⟩
          · have qhc90 := hqv88.2 hc90
            have y69 := qhc90
            refine ok_gC rfl ?_
            refine ok_zbT (Q := fun V σ => (TOK σ.1 ∧ (σ0.1 218 11).toInt ≤ (σ.1 218 11).toInt ∧ (V = 0 → σ = σ0 ∧ f_X12_is N 218 12 σ0 = some (0, σ0)) ∧ (¬ V = 0 → ((σ0.1 218 14 = 0 ∧ σ0.1 218 12 = 1) ∧ f_X12_is N 218 12 σ0 = some (1, σ0)) ∧ (σ0.1 218 11).toInt < (σ.1 218 11).toInt)) ∧ (σ.1 218 7 = σ0.1 218 7 ∧ σ.1 218 9 = σ0.1 218 9 ∧ σ.1 218 14 = σ0.1 218 14 ∧ σ.1 218 15 = σ0.1 218 15 ∧ σ.1 218 20 = σ0.1 218 20 ∧ σ.1 218 22 = σ0.1 218 22 ∧ σ.1 218 23 = σ0.1 218 23 ∧ σ.1 218 24 = σ0.1 218 24 ∧ σ.1 218 25 = σ0.1 218 25)) hT (s_X12_takes hN (hR.tr hT) (hK) (by rw [hT.2 224 (by decide)]; exact hY) (by decide)) (by decide) (fun v91 σ92 hOσ92 hT hqv91 => ?_)
            have hqv91 : (TOK σ92.1 ∧ (σ0.1 218 11).toInt ≤ (σ92.1 218 11).toInt ∧ (v91 = 0 → σ92 = σ0 ∧ f_X12_is N 218 12 σ0 = some (0, σ0)) ∧ (¬ v91 = 0 → ((σ0.1 218 14 = 0 ∧ σ0.1 218 12 = 1) ∧ f_X12_is N 218 12 σ0 = some (1, σ0)) ∧ (σ0.1 218 11).toInt < (σ92.1 218 11).toInt)) ∧ (σ92.1 218 7 = σ0.1 218 7 ∧ σ92.1 218 9 = σ0.1 218 9 ∧ σ92.1 218 14 = σ0.1 218 14 ∧ σ92.1 218 15 = σ0.1 218 15 ∧ σ92.1 218 20 = σ0.1 218 20 ∧ σ92.1 218 22 = σ0.1 218 22 ∧ σ92.1 218 23 = σ0.1 218 23 ∧ σ92.1 218 24 = σ0.1 218 24 ∧ σ92.1 218 25 = σ0.1 218 25) := hqv91
            have hkv91 := hqv91
            have hqv91 := hqv91.1
            have r231_σ92 : σ92.1 231 = σ0.1 231 := hOσ92.2 231 (by decide)
            have hK : TOK σ92.1 := by first | exact hqv91.1 | exact TOK_p eσ92 (by decide) hK
            have hB : ZB σ92.1 := ZB.tr hOσ92 (by decide) hB
            have g7_σ92 : σ92.1 218 7 = (σ0.1 218 7) := hkv91.2.1
            have g9_σ92 : σ92.1 218 9 = (σ0.1 218 9) := hkv91.2.2.1
            have g14_σ92 : σ92.1 218 14 = (σ0.1 218 14) := hkv91.2.2.2.1
            have g15_σ92 : σ92.1 218 15 = (σ0.1 218 15) := hkv91.2.2.2.2.1
            have g20_σ92 : σ92.1 218 20 = (σ0.1 218 20) := hkv91.2.2.2.2.2.1
            have g22_σ92 : σ92.1 218 22 = (σ0.1 218 22) := hkv91.2.2.2.2.2.2.1
            have g23_σ92 : σ92.1 218 23 = (σ0.1 218 23) := hkv91.2.2.2.2.2.2.2.1
            have g24_σ92 : σ92.1 218 24 = (σ0.1 218 24) := hkv91.2.2.2.2.2.2.2.2.1
            have g25_σ92 : σ92.1 218 25 = (σ0.1 218 25) := hkv91.2.2.2.2.2.2.2.2.2
            have m77 := hqv91.2.1
            refine ok_if (fun hc93 => ?_) (fun hc93 => ?_)
            · have s77 := hqv91.2.2.1 hc93
              refine ok_gC rfl ?_
              refine ok_zbT (Q := fun V σ => (TOK σ.1 ∧ (σ92.1 218 11).toInt ≤ (σ.1 218 11).toInt ∧ (V = 0 → σ = σ92 ∧ f_X12_is N 218 13 σ92 = some (0, σ92)) ∧ (¬ V = 0 → ((σ92.1 218 14 = 0 ∧ σ92.1 218 12 = 1) ∧ f_X12_is N 218 13 σ92 = some (1, σ92)) ∧ (σ92.1 218 11).toInt < (σ.1 218 11).toInt)) ∧ (σ.1 218 7 = σ92.1 218 7 ∧ σ.1 218 9 = σ92.1 218 9 ∧ σ.1 218 14 = σ92.1 218 14 ∧ σ.1 218 15 = σ92.1 218 15 ∧ σ.1 218 20 = σ92.1 218 20 ∧ σ.1 218 22 = σ92.1 218 22 ∧ σ.1 218 23 = σ92.1 218 23 ∧ σ.1 218 24 = σ92.1 218 24 ∧ σ.1 218 25 = σ92.1 218 25)) hT (s_X12_takes hN (hR.tr hT) (hK) (by rw [hT.2 224 (by decide)]; exact hY) (by decide)) (by decide) (fun v94 σ95 hOσ95 hT hqv94 => ?_)
              have hqv94 : (TOK σ95.1 ∧ (σ92.1 218 11).toInt ≤ (σ95.1 218 11).toInt ∧ (v94 = 0 → σ95 = σ92 ∧ f_X12_is N 218 13 σ92 = some (0, σ92)) ∧ (¬ v94 = 0 → ((σ92.1 218 14 = 0 ∧ σ92.1 218 12 = 1) ∧ f_X12_is N 218 13 σ92 = some (1, σ92)) ∧ (σ92.1 218 11).toInt < (σ95.1 218 11).toInt)) ∧ (σ95.1 218 7 = σ92.1 218 7 ∧ σ95.1 218 9 = σ92.1 218 9 ∧ σ95.1 218 14 = σ92.1 218 14 ∧ σ95.1 218 15 = σ92.1 218 15 ∧ σ95.1 218 20 = σ92.1 218 20 ∧ σ95.1 218 22 = σ92.1 218 22 ∧ σ95.1 218 23 = σ92.1 218 23 ∧ σ95.1 218 24 = σ92.1 218 24 ∧ σ95.1 218 25 = σ92.1 218 25) := hqv94
              have hkv94 := hqv94
              have hqv94 := hqv94.1
              have r231_σ95 : σ95.1 231 = σ0.1 231 := (hOσ95.2 231 (by decide)).trans r231_σ92
              have hK : TOK σ95.1 := by first | exact hqv94.1 | exact TOK_p eσ95 (by decide) hK
              have hB : ZB σ95.1 := ZB.tr hOσ95 (by decide) hB
              try simp only [g7_σ92, g9_σ92, g14_σ92, g15_σ92, g20_σ92, g22_σ92, g23_σ92, g24_σ92, g25_σ92] at hqv94
              have g7_σ95 : σ95.1 218 7 = (σ0.1 218 7) := (hkv94.2.1).trans g7_σ92
              have g9_σ95 : σ95.1 218 9 = (σ0.1 218 9) := (hkv94.2.2.1).trans g9_σ92
              have g14_σ95 : σ95.1 218 14 = (σ0.1 218 14) := (hkv94.2.2.2.1).trans g14_σ92
              have g15_σ95 : σ95.1 218 15 = (σ0.1 218 15) := (hkv94.2.2.2.2.1).trans g15_σ92
              have g20_σ95 : σ95.1 218 20 = (σ0.1 218 20) := (hkv94.2.2.2.2.2.1).trans g20_σ92
              have g22_σ95 : σ95.1 218 22 = (σ0.1 218 22) := (hkv94.2.2.2.2.2.2.1).trans g22_σ92
              have g23_σ95 : σ95.1 218 23 = (σ0.1 218 23) := (hkv94.2.2.2.2.2.2.2.1).trans g23_σ92
              have g24_σ95 : σ95.1 218 24 = (σ0.1 218 24) := (hkv94.2.2.2.2.2.2.2.2.1).trans g24_σ92
              have g25_σ95 : σ95.1 218 25 = (σ0.1 218 25) := (hkv94.2.2.2.2.2.2.2.2.2).trans g25_σ92
              have k110 := hK.1
              have m110 := hqv94.2.1
              have r110 : σ95.1 231 = σ0.1 231 := r231_σ95
              refine ok_if (fun hc96 => ?_) (fun hc96 => ?_)
              · refine ok_gC rfl ?_
                refine ok_zbT (Q := fun V σ => (TOK σ.1 ∧ (σ95.1 218 10).toInt ≤ (σ.1 218 11).toInt) ∧ (σ.1 218 7 = σ95.1 218 7 ∧ σ.1 218 9 = σ95.1 218 9 ∧ σ.1 218 14 = σ95.1 218 14 ∧ σ.1 218 15 = σ95.1 218 15 ∧ σ.1 218 20 = σ95.1 218 20 ∧ σ.1 218 22 = σ95.1 218 22 ∧ σ.1 218 23 = σ95.1 218 23 ∧ σ.1 218 24 = σ95.1 218 24 ∧ σ.1 218 25 = σ95.1 218 25)) hT (s_X12_advance hN (hR.tr hT) (TOK_A hK) (by rw [hT.2 224 (by decide)]; exact hY)) (by decide) (fun v97 σ98 hOσ98 hT hqv97 => ?_)
                have hqv97 : (TOK σ98.1 ∧ (σ95.1 218 10).toInt ≤ (σ98.1 218 11).toInt) ∧ (σ98.1 218 7 = σ95.1 218 7 ∧ σ98.1 218 9 = σ95.1 218 9 ∧ σ98.1 218 14 = σ95.1 218 14 ∧ σ98.1 218 15 = σ95.1 218 15 ∧ σ98.1 218 20 = σ95.1 218 20 ∧ σ98.1 218 22 = σ95.1 218 22 ∧ σ98.1 218 23 = σ95.1 218 23 ∧ σ98.1 218 24 = σ95.1 218 24 ∧ σ98.1 218 25 = σ95.1 218 25) := hqv97
                have hkv97 := hqv97
                have hqv97 := hqv97.1
                have r231_σ98 : σ98.1 231 = σ0.1 231 := (hOσ98.2 231 (by decide)).trans r231_σ95
                have hK : TOK σ98.1 := by first | exact hqv97.1 | exact TOK_p eσ98 (by decide) hK
                have hB : ZB σ98.1 := ZB.tr hOσ98 (by decide) hB
                try simp only [g7_σ95, g9_σ95, g14_σ95, g15_σ95, g20_σ95, g22_σ95, g23_σ95, g24_σ95, g25_σ95] at hqv97
                have g7_σ98 : σ98.1 218 7 = (σ0.1 218 7) := (hkv97.2.1).trans g7_σ95
                have g9_σ98 : σ98.1 218 9 = (σ0.1 218 9) := (hkv97.2.2.1).trans g9_σ95
                have g14_σ98 : σ98.1 218 14 = (σ0.1 218 14) := (hkv97.2.2.2.1).trans g14_σ95
                have g15_σ98 : σ98.1 218 15 = (σ0.1 218 15) := (hkv97.2.2.2.2.1).trans g15_σ95
                have g20_σ98 : σ98.1 218 20 = (σ0.1 218 20) := (hkv97.2.2.2.2.2.1).trans g20_σ95
                have g22_σ98 : σ98.1 218 22 = (σ0.1 218 22) := (hkv97.2.2.2.2.2.2.1).trans g22_σ95
                have g23_σ98 : σ98.1 218 23 = (σ0.1 218 23) := (hkv97.2.2.2.2.2.2.2.1).trans g23_σ95
                have g24_σ98 : σ98.1 218 24 = (σ0.1 218 24) := (hkv97.2.2.2.2.2.2.2.2.1).trans g24_σ95
                have g25_σ98 : σ98.1 218 25 = (σ0.1 218 25) := (hkv97.2.2.2.2.2.2.2.2.2).trans g25_σ95
                have m124 := hqv97.2
                refine ok_gC rfl ?_
                refine ok_zbT (Q := fun V σ => (TOK σ.1 ∧ (σ98.1 218 11).toInt ≤ (σ.1 218 11).toInt ∧ (σ.1 218 14 = 0 → σ98.1 218 14 = 0) ∧ ZB σ.1) ∧ (σ.1 218 7 = σ98.1 218 7 ∧ σ.1 218 9 = σ98.1 218 9)) hT (s_X12_readsLet hN (hR.tr hT) (hK) (by rw [hT.2 224 (by decide)]; exact hY) (hB) (by (first | rw [r231_σ98] | skip); exact hF)) (by decide) (fun v99 σ100 hOσ100 hT hqv99 => ?_)
                have hqv99 : (TOK σ100.1 ∧ (σ98.1 218 11).toInt ≤ (σ100.1 218 11).toInt ∧ (σ100.1 218 14 = 0 → σ98.1 218 14 = 0) ∧ ZB σ100.1) ∧ (σ100.1 218 7 = σ98.1 218 7 ∧ σ100.1 218 9 = σ98.1 218 9) := hqv99
                have hkv99 := hqv99
                have hqv99 := hqv99.1
                have r231_σ100 : σ100.1 231 = σ0.1 231 := (hOσ100.2 231 (by decide)).trans r231_σ98
                have hK : TOK σ100.1 := by first | exact hqv99.1 | exact TOK_p eσ100 (by decide) hK
                have hB : ZB σ100.1 := hqv99.2.2.2
                try simp only [g7_σ98, g9_σ98, g14_σ98, g15_σ98, g20_σ98, g22_σ98, g23_σ98, g24_σ98, g25_σ98] at hqv99
                have g7_σ100 : σ100.1 218 7 = (σ0.1 218 7) := (hkv99.2.1).trans g7_σ98
                have g9_σ100 : σ100.1 218 9 = (σ0.1 218 9) := (hkv99.2.2).trans g9_σ98
                have m128 := hqv99.2.1
                exact ok_some ⟨hT, (show (TOK σ100.1 ∧ (σ0.1 218 11).toInt ≤ (σ100.1 218 11).toInt ∧ FW (σ100.1 231) ∧ σ100.1 231 1 = σ0.1 231 1 ∧ ZB σ100.1) ∧ (σ100.1 218 7 = σ0.1 218 7 ∧ σ100.1 218 9 = σ0.1 218 9) from ⟨by first | exact ⟨hK, by (try simp only [g7_σ100, g9_σ100]); omega, by (first | rw [r231_σ100] | skip); exact hF, congrFun r231_σ100 1, hB⟩ | exact ⟨hK, by (try simp only [g7_σ100, g9_σ100]); omega, k102.1, q102, hB⟩ | exact ⟨hK, by (try simp only [g7_σ100, g9_σ100]); omega, f117, q117, hB⟩, g7_σ100, g9_σ100⟩)⟩
              · have t113 := (hqv94.2.2.2 hc96).1.2
                refine ok_gC rfl ?_
                refine ok_zbT (Q := fun V σ => (TOK σ.1 ∧ (σ95.1 218 11).toInt ≤ (σ.1 218 11).toInt ∧ (σ.1 218 14 = 0 → σ95.1 218 14 = 0) ∧ FW (σ.1 231) ∧ σ.1 231 1 = σ95.1 231 1) ∧ (σ.1 218 7 = σ95.1 218 7 ∧ σ.1 218 9 = σ95.1 218 9 ∧ σ.1 218 20 = σ95.1 218 20 ∧ σ.1 218 22 = σ95.1 218 22 ∧ σ.1 218 23 = σ95.1 218 23 ∧ σ.1 218 24 = σ95.1 218 24 ∧ σ.1 218 25 = σ95.1 218 25)) hT (s_X12_readsEdge hN (hR.tr hT) (hK) (by rw [hT.2 224 (by decide)]; exact hY) (by (first | rw [r231_σ95] | skip); exact hF) (by (first | rw [r231_σ95] | skip); first | exact k57 | exact (is_ne f42 t113 s77.1).elim | exact absurd y69 n62 | exact absurd y69 n32)) (by decide) (fun v101 σ102 hOσ102 hT hqv101 => ?_)
                have hqv101 : (TOK σ102.1 ∧ (σ95.1 218 11).toInt ≤ (σ102.1 218 11).toInt ∧ (σ102.1 218 14 = 0 → σ95.1 218 14 = 0) ∧ FW (σ102.1 231) ∧ σ102.1 231 1 = σ95.1 231 1) ∧ (σ102.1 218 7 = σ95.1 218 7 ∧ σ102.1 218 9 = σ95.1 218 9 ∧ σ102.1 218 20 = σ95.1 218 20 ∧ σ102.1 218 22 = σ95.1 218 22 ∧ σ102.1 218 23 = σ95.1 218 23 ∧ σ102.1 218 24 = σ95.1 218 24 ∧ σ102.1 218 25 = σ95.1 218 25) := hqv101
                have hkv101 := hqv101
                have hqv101 := hqv101.1
                have hK : TOK σ102.1 := by first | exact hqv101.1 | exact TOK_p eσ102 (by decide) hK
                have hB : ZB σ102.1 := ZB.tr hOσ102 (by decide) hB
                try simp only [g7_σ95, g9_σ95, g14_σ95, g15_σ95, g20_σ95, g22_σ95, g23_σ95, g24_σ95, g25_σ95] at hqv101
                have g7_σ102 : σ102.1 218 7 = (σ0.1 218 7) := (hkv101.2.1).trans g7_σ95
                have g9_σ102 : σ102.1 218 9 = (σ0.1 218 9) := (hkv101.2.2.1).trans g9_σ95
                have g20_σ102 : σ102.1 218 20 = (σ0.1 218 20) := (hkv101.2.2.2.1).trans g20_σ95
                have g22_σ102 : σ102.1 218 22 = (σ0.1 218 22) := (hkv101.2.2.2.2.1).trans g22_σ95
                have g23_σ102 : σ102.1 218 23 = (σ0.1 218 23) := (hkv101.2.2.2.2.2.1).trans g23_σ95
                have g24_σ102 : σ102.1 218 24 = (σ0.1 218 24) := (hkv101.2.2.2.2.2.2.1).trans g24_σ95
                have g25_σ102 : σ102.1 218 25 = (σ0.1 218 25) := (hkv101.2.2.2.2.2.2.2).trans g25_σ95
                have m117 := hqv101.2.1
                have f117 := hqv101.2.2.2.1
                have q117 : σ102.1 231 1 = σ0.1 231 1 := hqv101.2.2.2.2.trans (congrFun r110 1)
                exact ok_some ⟨hT, (show (TOK σ102.1 ∧ (σ0.1 218 11).toInt ≤ (σ102.1 218 11).toInt ∧ FW (σ102.1 231) ∧ σ102.1 231 1 = σ0.1 231 1 ∧ ZB σ102.1) ∧ (σ102.1 218 7 = σ0.1 218 7 ∧ σ102.1 218 9 = σ0.1 218 9) from ⟨by first | exact ⟨hK, by (try simp only [g7_σ102, g9_σ102, g20_σ102, g22_σ102, g23_σ102, g24_σ102, g25_σ102]); omega, by (first | rw [rfl] | skip); exact hF, congrFun rfl 1, hB⟩ | exact ⟨hK, by (try simp only [g7_σ102, g9_σ102, g20_σ102, g22_σ102, g23_σ102, g24_σ102, g25_σ102]); omega, k102.1, q102, hB⟩ | exact ⟨hK, by (try simp only [g7_σ102, g9_σ102, g20_σ102, g22_σ102, g23_σ102, g24_σ102, g25_σ102]); omega, f117, q117, hB⟩, g7_σ102, g9_σ102⟩)⟩
            · refine ok_gC rfl ?_
              refine ok_zbT (Q := fun V σ => (TOK σ.1 ∧ (σ92.1 218 11).toInt ≤ (σ.1 218 11).toInt ∧ (σ.1 218 14 = 0 → σ92.1 218 14 = 0) ∧ 0 ≤ V.toInt ∧ V.toInt ≤ 9) ∧ (σ.1 218 7 = σ92.1 218 7 ∧ σ.1 218 9 = σ92.1 218 9 ∧ σ.1 218 20 = σ92.1 218 20 ∧ σ.1 218 22 = σ92.1 218 22 ∧ σ.1 218 23 = σ92.1 218 23 ∧ σ.1 218 24 = σ92.1 218 24 ∧ σ.1 218 25 = σ92.1 218 25)) hT (s_X12_readsName hN (hR.tr hT) (hK) (by rw [hT.2 224 (by decide)]; exact hY) (by (first | rw [r231_σ92] | skip); exact hF)) (by decide) (fun v103 σ104 hOσ104 hT hqv103 => ?_)
              have hqv103 : (TOK σ104.1 ∧ (σ92.1 218 11).toInt ≤ (σ104.1 218 11).toInt ∧ (σ104.1 218 14 = 0 → σ92.1 218 14 = 0) ∧ 0 ≤ v103.toInt ∧ v103.toInt ≤ 9) ∧ (σ104.1 218 7 = σ92.1 218 7 ∧ σ104.1 218 9 = σ92.1 218 9 ∧ σ104.1 218 20 = σ92.1 218 20 ∧ σ104.1 218 22 = σ92.1 218 22 ∧ σ104.1 218 23 = σ92.1 218 23 ∧ σ104.1 218 24 = σ92.1 218 24 ∧ σ104.1 218 25 = σ92.1 218 25) := hqv103
              have hkv103 := hqv103
              have hqv103 := hqv103.1
              have r231_σ104 : σ104.1 231 = σ0.1 231 := (hOσ104.2 231 (by decide)).trans r231_σ92
              have hK : TOK σ104.1 := by first | exact hqv103.1 | exact TOK_p eσ104 (by decide) hK
              have hB : ZB σ104.1 := ZB.tr hOσ104 (by decide) hB
              try simp only [g7_σ92, g9_σ92, g14_σ92, g15_σ92, g20_σ92, g22_σ92, g23_σ92, g24_σ92, g25_σ92] at hqv103
              have g7_σ104 : σ104.1 218 7 = (σ0.1 218 7) := (hkv103.2.1).trans g7_σ92
              have g9_σ104 : σ104.1 218 9 = (σ0.1 218 9) := (hkv103.2.2.1).trans g9_σ92
              have g20_σ104 : σ104.1 218 20 = (σ0.1 218 20) := (hkv103.2.2.2.1).trans g20_σ92
              have g22_σ104 : σ104.1 218 22 = (σ0.1 218 22) := (hkv103.2.2.2.2.1).trans g22_σ92
              have g23_σ104 : σ104.1 218 23 = (σ0.1 218 23) := (hkv103.2.2.2.2.2.1).trans g23_σ92
              have g24_σ104 : σ104.1 218 24 = (σ0.1 218 24) := (hkv103.2.2.2.2.2.2.1).trans g24_σ92
              have g25_σ104 : σ104.1 218 25 = (σ0.1 218 25) := (hkv103.2.2.2.2.2.2.2).trans g25_σ92
              have m84 := hqv103.2.1
              have b84 := hqv103.2.2.2
              have i84 := ti3 (x := v103) (by omega) (by omega)
              refine ok_gR (v := 231) hT rfl (hR 218 26 rfl) ?_
              refine ok_gC rfl ?_
              refine ok_zbT (Q := fun V σ => (TOK σ.1 ∧ (σ104.1 218 11).toInt ≤ (σ.1 218 11).toInt ∧ (σ.1 218 14 = 0 → (σ104.1 218 14 = 0 ∧ (σ104.1 218 11).toInt < (σ.1 218 11).toInt) ∧ (0 : Int32).toInt ≤ V.toInt ∧ V.toInt ≤ (99 : Int32).toInt) ∧ (¬ σ.1 218 14 = 0 → V = 0)) ∧ (σ.1 218 7 = σ104.1 218 7 ∧ σ.1 218 9 = σ104.1 218 9 ∧ σ.1 218 20 = σ104.1 218 20 ∧ σ.1 218 22 = σ104.1 218 22 ∧ σ.1 218 23 = σ104.1 218 23 ∧ σ.1 218 24 = σ104.1 218 24 ∧ σ.1 218 25 = σ104.1 218 25)) hT (s_X12_number hN (hR.tr hT) (hK) (by rw [hT.2 224 (by decide)]; exact hY)) (by decide) (fun v106 σ107 hOσ107 hT hqv106 => ?_)
              have hqv106 : (TOK σ107.1 ∧ (σ104.1 218 11).toInt ≤ (σ107.1 218 11).toInt ∧ (σ107.1 218 14 = 0 → (σ104.1 218 14 = 0 ∧ (σ104.1 218 11).toInt < (σ107.1 218 11).toInt) ∧ (0 : Int32).toInt ≤ v106.toInt ∧ v106.toInt ≤ (99 : Int32).toInt) ∧ (¬ σ107.1 218 14 = 0 → v106 = 0)) ∧ (σ107.1 218 7 = σ104.1 218 7 ∧ σ107.1 218 9 = σ104.1 218 9 ∧ σ107.1 218 20 = σ104.1 218 20 ∧ σ107.1 218 22 = σ104.1 218 22 ∧ σ107.1 218 23 = σ104.1 218 23 ∧ σ107.1 218 24 = σ104.1 218 24 ∧ σ107.1 218 25 = σ104.1 218 25) := hqv106
              have hkv106 := hqv106
              have hqv106 := hqv106.1
              have r231_σ107 : σ107.1 231 = σ0.1 231 := (hOσ107.2 231 (by decide)).trans r231_σ104
              have hK : TOK σ107.1 := by first | exact hqv106.1 | exact TOK_p eσ107 (by decide) hK
              have hB : ZB σ107.1 := ZB.tr hOσ107 (by decide) hB
              try simp only [g7_σ104, g9_σ104, g20_σ104, g22_σ104, g23_σ104, g24_σ104, g25_σ104] at hqv106
              have g7_σ107 : σ107.1 218 7 = (σ0.1 218 7) := (hkv106.2.1).trans g7_σ104
              have g9_σ107 : σ107.1 218 9 = (σ0.1 218 9) := (hkv106.2.2.1).trans g9_σ104
              have g20_σ107 : σ107.1 218 20 = (σ0.1 218 20) := (hkv106.2.2.2.1).trans g20_σ104
              have g22_σ107 : σ107.1 218 22 = (σ0.1 218 22) := (hkv106.2.2.2.2.1).trans g22_σ104
              have g23_σ107 : σ107.1 218 23 = (σ0.1 218 23) := (hkv106.2.2.2.2.2.1).trans g23_σ104
              have g24_σ107 : σ107.1 218 24 = (σ0.1 218 24) := (hkv106.2.2.2.2.2.2.1).trans g24_σ104
              have g25_σ107 : σ107.1 218 25 = (σ0.1 218 25) := (hkv106.2.2.2.2.2.2.2).trans g25_σ104
              have m99 := hqv106.2.1
              refine ok_s14 hT rfl (by decide) (by rw [i84.1]; omega) (by rw [i84.1]; omega) (fun σ108 eσ108 hOσ108 hT => ?_)
              have k102 := FW_w eσ108 (by rw [i84.2]; omega) (by rw [i84.2]; omega) (by (first | rw [r231_σ107] | skip); exact hF)
              have q102 : σ108.1 231 1 = σ0.1 231 1 := k102.2.trans (congrFun r231_σ107 1)
              have hK : TOK σ108.1 := TOK_tr hOσ108 (by decide) (by decide) hK
              have hB : ZB σ108.1 := ZB.tr hOσ108 (by decide) hB
              have g7_σ108 : σ108.1 218 7 = (σ0.1 218 7) := (congrFun (hOσ108.2 218 (by decide)) 7).trans g7_σ107
              have g9_σ108 : σ108.1 218 9 = (σ0.1 218 9) := (congrFun (hOσ108.2 218 (by decide)) 9).trans g9_σ107
              have g10_σ108 : σ108.1 218 10 = (σ107.1 218 10) := congrFun (hOσ108.2 218 (by decide)) 10
              have g11_σ108 : σ108.1 218 11 = (σ107.1 218 11) := congrFun (hOσ108.2 218 (by decide)) 11
              have g12_σ108 : σ108.1 218 12 = (σ107.1 218 12) := congrFun (hOσ108.2 218 (by decide)) 12
              have g13_σ108 : σ108.1 218 13 = (σ107.1 218 13) := congrFun (hOσ108.2 218 (by decide)) 13
              have g14_σ108 : σ108.1 218 14 = (σ107.1 218 14) := congrFun (hOσ108.2 218 (by decide)) 14
              have g15_σ108 : σ108.1 218 15 = (σ107.1 218 15) := congrFun (hOσ108.2 218 (by decide)) 15
              have g20_σ108 : σ108.1 218 20 = (σ0.1 218 20) := (congrFun (hOσ108.2 218 (by decide)) 20).trans g20_σ107
              have g22_σ108 : σ108.1 218 22 = (σ0.1 218 22) := (congrFun (hOσ108.2 218 (by decide)) 22).trans g22_σ107
              have g23_σ108 : σ108.1 218 23 = (σ0.1 218 23) := (congrFun (hOσ108.2 218 (by decide)) 23).trans g23_σ107
              have g24_σ108 : σ108.1 218 24 = (σ0.1 218 24) := (congrFun (hOσ108.2 218 (by decide)) 24).trans g24_σ107
              have g25_σ108 : σ108.1 218 25 = (σ0.1 218 25) := (congrFun (hOσ108.2 218 (by decide)) 25).trans g25_σ107
              exact ok_some ⟨hT, (show (TOK σ108.1 ∧ (σ0.1 218 11).toInt ≤ (σ108.1 218 11).toInt ∧ FW (σ108.1 231) ∧ σ108.1 231 1 = σ0.1 231 1 ∧ ZB σ108.1) ∧ (σ108.1 218 7 = σ0.1 218 7 ∧ σ108.1 218 9 = σ0.1 218 9) from ⟨by first | exact ⟨hK, by (try simp only [g7_σ108, g9_σ108, g10_σ108, g11_σ108, g12_σ108, g13_σ108, g14_σ108, g15_σ108, g20_σ108, g22_σ108, g23_σ108, g24_σ108, g25_σ108]); omega, by (first | rw [rfl] | skip); exact hF, congrFun rfl 1, hB⟩ | exact ⟨hK, by (try simp only [g7_σ108, g9_σ108, g10_σ108, g11_σ108, g12_σ108, g13_σ108, g14_σ108, g15_σ108, g20_σ108, g22_σ108, g23_σ108, g24_σ108, g25_σ108]); omega, k102.1, q102, hB⟩ | exact ⟨hK, by (try simp only [g7_σ108, g9_σ108, g10_σ108, g11_σ108, g12_σ108, g13_σ108, g14_σ108, g15_σ108, g20_σ108, g22_σ108, g23_σ108, g24_σ108, g25_σ108]); omega, f117, q117, hB⟩, g7_σ108, g9_σ108⟩)⟩
        · have qhc87 := hqv85.2 hc87
          refine ok_gR (v := 231) hT rfl (hR 218 26 rfl) ?_
          refine ok_aIn rfl (by (skip); first | omega | decide | (simp only [Int32.le_iff_toInt_le, Int32.lt_iff_toInt_lt, ti_add, ti_sub, ti_mul, Int32.reduceToInt] at *; omega)) (by (skip); first | omega | decide | (simp only [Int32.le_iff_toInt_le, Int32.lt_iff_toInt_lt, ti_add, ti_sub, ti_mul, Int32.reduceToInt] at *; omega)) (fun v110 ev110 => ?_)
          have ev50 : v110 = σ0.1 231 2 := by rw [ev110]; (first | rw [rfl] | skip); rfl
          refine ok_gR (v := 231) hT rfl (hR 218 26 rfl) ?_
          refine ok_aIn rfl (by (skip); first | omega | decide | (simp only [Int32.le_iff_toInt_le, Int32.lt_iff_toInt_lt, ti_add, ti_sub, ti_mul, Int32.reduceToInt] at *; omega)) (by (skip); first | omega | decide | (simp only [Int32.le_iff_toInt_le, Int32.lt_iff_toInt_lt, ti_add, ti_sub, ti_mul, Int32.reduceToInt] at *; omega)) (fun v112 ev112 => ?_)
          have ev56 : v112 = σ0.1 231 0 := by rw [ev112]; (first | rw [rfl] | skip); rfl
          refine ok_if (fun hc113 => ?_) (fun hc113 => ?_)
          · refine ok_gC rfl ?_
            refine ok_zbT (Q := fun V σ => (TOK σ.1 ∧ ¬ σ.1 218 14 = 0) ∧ (σ.1 218 7 = σ0.1 218 7 ∧ σ.1 218 9 = σ0.1 218 9 ∧ σ.1 218 10 = σ0.1 218 10 ∧ σ.1 218 11 = σ0.1 218 11 ∧ σ.1 218 12 = σ0.1 218 12 ∧ σ.1 218 13 = σ0.1 218 13 ∧ σ.1 218 20 = σ0.1 218 20 ∧ σ.1 218 22 = σ0.1 218 22 ∧ σ.1 218 23 = σ0.1 218 23 ∧ σ.1 218 24 = σ0.1 218 24 ∧ σ.1 218 25 = σ0.1 218 25)) hT (s_X12_errs hN (hR.tr hT) (hK) (by rw [hT.2 224 (by decide)]; exact hY) (by decide)) (by decide) (fun v114 σ115 hOσ115 hT hqv114 => ?_)
            have hqv114 : (TOK σ115.1 ∧ ¬ σ115.1 218 14 = 0) ∧ (σ115.1 218 7 = σ0.1 218 7 ∧ σ115.1 218 9 = σ0.1 218 9 ∧ σ115.1 218 10 = σ0.1 218 10 ∧ σ115.1 218 11 = σ0.1 218 11 ∧ σ115.1 218 12 = σ0.1 218 12 ∧ σ115.1 218 13 = σ0.1 218 13 ∧ σ115.1 218 20 = σ0.1 218 20 ∧ σ115.1 218 22 = σ0.1 218 22 ∧ σ115.1 218 23 = σ0.1 218 23 ∧ σ115.1 218 24 = σ0.1 218 24 ∧ σ115.1 218 25 = σ0.1 218 25) := hqv114
            have hkv114 := hqv114
            have hqv114 := hqv114.1
            have r231_σ115 : σ115.1 231 = σ0.1 231 := hOσ115.2 231 (by decide)
            have hK : TOK σ115.1 := by first | exact hqv114.1 | exact TOK_p eσ115 (by decide) hK
            have hB : ZB σ115.1 := ZB.tr hOσ115 (by decide) hB
            have g7_σ115 : σ115.1 218 7 = (σ0.1 218 7) := hkv114.2.1
            have g9_σ115 : σ115.1 218 9 = (σ0.1 218 9) := hkv114.2.2.1
            have g10_σ115 : σ115.1 218 10 = (σ0.1 218 10) := hkv114.2.2.2.1
            have g11_σ115 : σ115.1 218 11 = (σ0.1 218 11) := hkv114.2.2.2.2.1
            have g12_σ115 : σ115.1 218 12 = (σ0.1 218 12) := hkv114.2.2.2.2.2.1
            have g13_σ115 : σ115.1 218 13 = (σ0.1 218 13) := hkv114.2.2.2.2.2.2.1
            have g20_σ115 : σ115.1 218 20 = (σ0.1 218 20) := hkv114.2.2.2.2.2.2.2.1
            have g22_σ115 : σ115.1 218 22 = (σ0.1 218 22) := hkv114.2.2.2.2.2.2.2.2.1
            have g23_σ115 : σ115.1 218 23 = (σ0.1 218 23) := hkv114.2.2.2.2.2.2.2.2.2.1
            have g24_σ115 : σ115.1 218 24 = (σ0.1 218 24) := hkv114.2.2.2.2.2.2.2.2.2.2.1
            have g25_σ115 : σ115.1 218 25 = (σ0.1 218 25) := hkv114.2.2.2.2.2.2.2.2.2.2.2
            have n62 := hqv114.2
            rw [J_X12_readsLine_65.eq_1]
            refine ok_gC rfl ?_
            refine ok_zbX (Q := fun V => (V = 0 → ¬ σ115.1 218 14 = 0) ∧ (¬ V = 0 → σ115.1 218 14 = 0)) (x_X12_good) (fun v116 hqv116 => ?_)
            have hqv116 : (v116 = 0 → ¬ σ115.1 218 14 = 0) ∧ (¬ v116 = 0 → σ115.1 218 14 = 0) := hqv116
            try simp only [g7_σ115, g9_σ115, g10_σ115, g11_σ115, g12_σ115, g13_σ115, g20_σ115, g22_σ115, g23_σ115, g24_σ115, g25_σ115, hT.2 224 (by decide)] at hqv116
            refine ok_if (fun hc118 => ?_) (fun hc118 => ?_)
            · have qhc118 := hqv116.1 hc118
              exact ok_some ⟨hT, (show (TOK σ115.1 ∧ (σ0.1 218 11).toInt ≤ (σ115.1 218 11).toInt ∧ FW (σ115.1 231) ∧ σ115.1 231 1 = σ0.1 231 1 ∧ ZB σ115.1) ∧ (σ115.1 218 7 = σ0.1 218 7 ∧ σ115.1 218 9 = σ0.1 218 9) from ⟨by first | exact ⟨hK, by (try simp only [g7_σ115, g9_σ115, g10_σ115, g11_σ115, g12_σ115, g13_σ115, g20_σ115, g22_σ115, g23_σ115, g24_σ115, g25_σ115]); omega, by (first | rw [r231_σ115] | skip); exact hF, congrFun r231_σ115 1, hB⟩ | exact ⟨hK, by (try simp only [g7_σ115, g9_σ115, g10_σ115, g11_σ115, g12_σ115, g13_σ115, g20_σ115, g22_σ115, g23_σ115, g24_σ115, g25_σ115]); omega, k102.1, q102, hB⟩ | exact ⟨hK, by (try simp only [g7_σ115, g9_σ115, g10_σ115, g11_σ115, g12_σ115, g13_σ115, g20_σ115, g22_σ115, g23_σ115, g24_σ115, g25_σ115]); omega, f117, q117, hB⟩, g7_σ115, g9_σ115⟩)⟩
            · have qhc118 := hqv116.2 hc118
              have y69 := qhc118
              refine ok_gC rfl ?_
              refine ok_zbT (Q := fun V σ => (TOK σ.1 ∧ (σ115.1 218 11).toInt ≤ (σ.1 218 11).toInt ∧ (V = 0 → σ = σ115 ∧ f_X12_is N 218 12 σ115 = some (0, σ115)) ∧ (¬ V = 0 → ((σ115.1 218 14 = 0 ∧ σ115.1 218 12 = 1) ∧ f_X12_is N 218 12 σ115 = some (1, σ115)) ∧ (σ115.1 218 11).toInt < (σ.1 218 11).toInt)) ∧ (σ.1 218 7 = σ115.1 218 7 ∧ σ.1 218 9 = σ115.1 218 9 ∧ σ.1 218 14 = σ115.1 218 14 ∧ σ.1 218 15 = σ115.1 218 15 ∧ σ.1 218 20 = σ115.1 218 20 ∧ σ.1 218 22 = σ115.1 218 22 ∧ σ.1 218 23 = σ115.1 218 23 ∧ σ.1 218 24 = σ115.1 218 24 ∧ σ.1 218 25 = σ115.1 218 25)) hT (s_X12_takes hN (hR.tr hT) (hK) (by rw [hT.2 224 (by decide)]; exact hY) (by decide)) (by decide) (fun v119 σ120 hOσ120 hT hqv119 => ?_)
              have hqv119 : (TOK σ120.1 ∧ (σ115.1 218 11).toInt ≤ (σ120.1 218 11).toInt ∧ (v119 = 0 → σ120 = σ115 ∧ f_X12_is N 218 12 σ115 = some (0, σ115)) ∧ (¬ v119 = 0 → ((σ115.1 218 14 = 0 ∧ σ115.1 218 12 = 1) ∧ f_X12_is N 218 12 σ115 = some (1, σ115)) ∧ (σ115.1 218 11).toInt < (σ120.1 218 11).toInt)) ∧ (σ120.1 218 7 = σ115.1 218 7 ∧ σ120.1 218 9 = σ115.1 218 9 ∧ σ120.1 218 14 = σ115.1 218 14 ∧ σ120.1 218 15 = σ115.1 218 15 ∧ σ120.1 218 20 = σ115.1 218 20 ∧ σ120.1 218 22 = σ115.1 218 22 ∧ σ120.1 218 23 = σ115.1 218 23 ∧ σ120.1 218 24 = σ115.1 218 24 ∧ σ120.1 218 25 = σ115.1 218 25) := hqv119
              have hkv119 := hqv119
              have hqv119 := hqv119.1
              have r231_σ120 : σ120.1 231 = σ0.1 231 := (hOσ120.2 231 (by decide)).trans r231_σ115
              have hK : TOK σ120.1 := by first | exact hqv119.1 | exact TOK_p eσ120 (by decide) hK
              have hB : ZB σ120.1 := ZB.tr hOσ120 (by decide) hB
              try simp only [g7_σ115, g9_σ115, g10_σ115, g11_σ115, g12_σ115, g13_σ115, g20_σ115, g22_σ115, g23_σ115, g24_σ115, g25_σ115] at hqv119
              have g7_σ120 : σ120.1 218 7 = (σ0.1 218 7) := (hkv119.2.1).trans g7_σ115
              have g9_σ120 : σ120.1 218 9 = (σ0.1 218 9) := (hkv119.2.2.1).trans g9_σ115
              have g14_σ120 : σ120.1 218 14 = (σ115.1 218 14) := hkv119.2.2.2.1
              have g15_σ120 : σ120.1 218 15 = (σ115.1 218 15) := hkv119.2.2.2.2.1
              have g20_σ120 : σ120.1 218 20 = (σ0.1 218 20) := (hkv119.2.2.2.2.2.1).trans g20_σ115
              have g22_σ120 : σ120.1 218 22 = (σ0.1 218 22) := (hkv119.2.2.2.2.2.2.1).trans g22_σ115
              have g23_σ120 : σ120.1 218 23 = (σ0.1 218 23) := (hkv119.2.2.2.2.2.2.2.1).trans g23_σ115
              have g24_σ120 : σ120.1 218 24 = (σ0.1 218 24) := (hkv119.2.2.2.2.2.2.2.2.1).trans g24_σ115
              have g25_σ120 : σ120.1 218 25 = (σ0.1 218 25) := (hkv119.2.2.2.2.2.2.2.2.2).trans g25_σ115
              have m77 := hqv119.2.1
              refine ok_if (fun hc121 => ?_) (fun hc121 => ?_)
              · have s77 := hqv119.2.2.1 hc121
                refine ok_gC rfl ?_
                refine ok_zbT (Q := fun V σ => (TOK σ.1 ∧ (σ120.1 218 11).toInt ≤ (σ.1 218 11).toInt ∧ (V = 0 → σ = σ120 ∧ f_X12_is N 218 13 σ120 = some (0, σ120)) ∧ (¬ V = 0 → ((σ120.1 218 14 = 0 ∧ σ120.1 218 12 = 1) ∧ f_X12_is N 218 13 σ120 = some (1, σ120)) ∧ (σ120.1 218 11).toInt < (σ.1 218 11).toInt)) ∧ (σ.1 218 7 = σ120.1 218 7 ∧ σ.1 218 9 = σ120.1 218 9 ∧ σ.1 218 14 = σ120.1 218 14 ∧ σ.1 218 15 = σ120.1 218 15 ∧ σ.1 218 20 = σ120.1 218 20 ∧ σ.1 218 22 = σ120.1 218 22 ∧ σ.1 218 23 = σ120.1 218 23 ∧ σ.1 218 24 = σ120.1 218 24 ∧ σ.1 218 25 = σ120.1 218 25)) hT (s_X12_takes hN (hR.tr hT) (hK) (by rw [hT.2 224 (by decide)]; exact hY) (by decide)) (by decide) (fun v122 σ123 hOσ123 hT hqv122 => ?_)
                have hqv122 : (TOK σ123.1 ∧ (σ120.1 218 11).toInt ≤ (σ123.1 218 11).toInt ∧ (v122 = 0 → σ123 = σ120 ∧ f_X12_is N 218 13 σ120 = some (0, σ120)) ∧ (¬ v122 = 0 → ((σ120.1 218 14 = 0 ∧ σ120.1 218 12 = 1) ∧ f_X12_is N 218 13 σ120 = some (1, σ120)) ∧ (σ120.1 218 11).toInt < (σ123.1 218 11).toInt)) ∧ (σ123.1 218 7 = σ120.1 218 7 ∧ σ123.1 218 9 = σ120.1 218 9 ∧ σ123.1 218 14 = σ120.1 218 14 ∧ σ123.1 218 15 = σ120.1 218 15 ∧ σ123.1 218 20 = σ120.1 218 20 ∧ σ123.1 218 22 = σ120.1 218 22 ∧ σ123.1 218 23 = σ120.1 218 23 ∧ σ123.1 218 24 = σ120.1 218 24 ∧ σ123.1 218 25 = σ120.1 218 25) := hqv122
                have hkv122 := hqv122
                have hqv122 := hqv122.1
                have r231_σ123 : σ123.1 231 = σ0.1 231 := (hOσ123.2 231 (by decide)).trans r231_σ120
                have hK : TOK σ123.1 := by first | exact hqv122.1 | exact TOK_p eσ123 (by decide) hK
                have hB : ZB σ123.1 := ZB.tr hOσ123 (by decide) hB
                try simp only [g7_σ120, g9_σ120, g14_σ120, g15_σ120, g20_σ120, g22_σ120, g23_σ120, g24_σ120, g25_σ120] at hqv122
                have g7_σ123 : σ123.1 218 7 = (σ0.1 218 7) := (hkv122.2.1).trans g7_σ120
                have g9_σ123 : σ123.1 218 9 = (σ0.1 218 9) := (hkv122.2.2.1).trans g9_σ120
                have g14_σ123 : σ123.1 218 14 = (σ115.1 218 14) := (hkv122.2.2.2.1).trans g14_σ120
                have g15_σ123 : σ123.1 218 15 = (σ115.1 218 15) := (hkv122.2.2.2.2.1).trans g15_σ120
                have g20_σ123 : σ123.1 218 20 = (σ0.1 218 20) := (hkv122.2.2.2.2.2.1).trans g20_σ120
                have g22_σ123 : σ123.1 218 22 = (σ0.1 218 22) := (hkv122.2.2.2.2.2.2.1).trans g22_σ120
                have g23_σ123 : σ123.1 218 23 = (σ0.1 218 23) := (hkv122.2.2.2.2.2.2.2.1).trans g23_σ120
                have g24_σ123 : σ123.1 218 24 = (σ0.1 218 24) := (hkv122.2.2.2.2.2.2.2.2.1).trans g24_σ120
                have g25_σ123 : σ123.1 218 25 = (σ0.1 218 25) := (hkv122.2.2.2.2.2.2.2.2.2).trans g25_σ120
                have k110 := hK.1
                have m110 := hqv122.2.1
                have r110 : σ123.1 231 = σ0.1 231 := r231_σ123
                refine ok_if (fun hc124 => ?_) (fun hc124 => ?_)
                · refine ok_gC rfl ?_
                  refine ok_zbT (Q := fun V σ => (TOK σ.1 ∧ (σ123.1 218 10).toInt ≤ (σ.1 218 11).toInt) ∧ (σ.1 218 7 = σ123.1 218 7 ∧ σ.1 218 9 = σ123.1 218 9 ∧ σ.1 218 14 = σ123.1 218 14 ∧ σ.1 218 15 = σ123.1 218 15 ∧ σ.1 218 20 = σ123.1 218 20 ∧ σ.1 218 22 = σ123.1 218 22 ∧ σ.1 218 23 = σ123.1 218 23 ∧ σ.1 218 24 = σ123.1 218 24 ∧ σ.1 218 25 = σ123.1 218 25)) hT (s_X12_advance hN (hR.tr hT) (TOK_A hK) (by rw [hT.2 224 (by decide)]; exact hY)) (by decide) (fun v125 σ126 hOσ126 hT hqv125 => ?_)
                  have hqv125 : (TOK σ126.1 ∧ (σ123.1 218 10).toInt ≤ (σ126.1 218 11).toInt) ∧ (σ126.1 218 7 = σ123.1 218 7 ∧ σ126.1 218 9 = σ123.1 218 9 ∧ σ126.1 218 14 = σ123.1 218 14 ∧ σ126.1 218 15 = σ123.1 218 15 ∧ σ126.1 218 20 = σ123.1 218 20 ∧ σ126.1 218 22 = σ123.1 218 22 ∧ σ126.1 218 23 = σ123.1 218 23 ∧ σ126.1 218 24 = σ123.1 218 24 ∧ σ126.1 218 25 = σ123.1 218 25) := hqv125
                  have hkv125 := hqv125
                  have hqv125 := hqv125.1
                  have r231_σ126 : σ126.1 231 = σ0.1 231 := (hOσ126.2 231 (by decide)).trans r231_σ123
                  have hK : TOK σ126.1 := by first | exact hqv125.1 | exact TOK_p eσ126 (by decide) hK
                  have hB : ZB σ126.1 := ZB.tr hOσ126 (by decide) hB
                  try simp only [g7_σ123, g9_σ123, g14_σ123, g15_σ123, g20_σ123, g22_σ123, g23_σ123, g24_σ123, g25_σ123] at hqv125
                  have g7_σ126 : σ126.1 218 7 = (σ0.1 218 7) := (hkv125.2.1).trans g7_σ123
                  have g9_σ126 : σ126.1 218 9 = (σ0.1 218 9) := (hkv125.2.2.1).trans g9_σ123
                  have g14_σ126 : σ126.1 218 14 = (σ115.1 218 14) := (hkv125.2.2.2.1).trans g14_σ123
                  have g15_σ126 : σ126.1 218 15 = (σ115.1 218 15) := (hkv125.2.2.2.2.1).trans g15_σ123
                  have g20_σ126 : σ126.1 218 20 = (σ0.1 218 20) := (hkv125.2.2.2.2.2.1).trans g20_σ123
                  have g22_σ126 : σ126.1 218 22 = (σ0.1 218 22) := (hkv125.2.2.2.2.2.2.1).trans g22_σ123
                  have g23_σ126 : σ126.1 218 23 = (σ0.1 218 23) := (hkv125.2.2.2.2.2.2.2.1).trans g23_σ123
                  have g24_σ126 : σ126.1 218 24 = (σ0.1 218 24) := (hkv125.2.2.2.2.2.2.2.2.1).trans g24_σ123
                  have g25_σ126 : σ126.1 218 25 = (σ0.1 218 25) := (hkv125.2.2.2.2.2.2.2.2.2).trans g25_σ123
                  have m124 := hqv125.2
                  refine ok_gC rfl ?_
                  refine ok_zbT (Q := fun V σ => (TOK σ.1 ∧ (σ126.1 218 11).toInt ≤ (σ.1 218 11).toInt ∧ (σ.1 218 14 = 0 → σ126.1 218 14 = 0) ∧ ZB σ.1) ∧ (σ.1 218 7 = σ126.1 218 7 ∧ σ.1 218 9 = σ126.1 218 9)) hT (s_X12_readsLet hN (hR.tr hT) (hK) (by rw [hT.2 224 (by decide)]; exact hY) (hB) (by (first | rw [r231_σ126] | skip); exact hF)) (by decide) (fun v127 σ128 hOσ128 hT hqv127 => ?_)
                  have hqv127 : (TOK σ128.1 ∧ (σ126.1 218 11).toInt ≤ (σ128.1 218 11).toInt ∧ (σ128.1 218 14 = 0 → σ126.1 218 14 = 0) ∧ ZB σ128.1) ∧ (σ128.1 218 7 = σ126.1 218 7 ∧ σ128.1 218 9 = σ126.1 218 9) := hqv127
                  have hkv127 := hqv127
                  have hqv127 := hqv127.1
                  have r231_σ128 : σ128.1 231 = σ0.1 231 := (hOσ128.2 231 (by decide)).trans r231_σ126
                  have hK : TOK σ128.1 := by first | exact hqv127.1 | exact TOK_p eσ128 (by decide) hK
                  have hB : ZB σ128.1 := hqv127.2.2.2
                  try simp only [g7_σ126, g9_σ126, g14_σ126, g15_σ126, g20_σ126, g22_σ126, g23_σ126, g24_σ126, g25_σ126] at hqv127
                  have g7_σ128 : σ128.1 218 7 = (σ0.1 218 7) := (hkv127.2.1).trans g7_σ126
                  have g9_σ128 : σ128.1 218 9 = (σ0.1 218 9) := (hkv127.2.2).trans g9_σ126
                  have m128 := hqv127.2.1
                  exact ok_some ⟨hT, (show (TOK σ128.1 ∧ (σ0.1 218 11).toInt ≤ (σ128.1 218 11).toInt ∧ FW (σ128.1 231) ∧ σ128.1 231 1 = σ0.1 231 1 ∧ ZB σ128.1) ∧ (σ128.1 218 7 = σ0.1 218 7 ∧ σ128.1 218 9 = σ0.1 218 9) from ⟨by first | exact ⟨hK, by (try simp only [g7_σ128, g9_σ128]); omega, by (first | rw [r231_σ128] | skip); exact hF, congrFun r231_σ128 1, hB⟩ | exact ⟨hK, by (try simp only [g7_σ128, g9_σ128]); omega, k102.1, q102, hB⟩ | exact ⟨hK, by (try simp only [g7_σ128, g9_σ128]); omega, f117, q117, hB⟩, g7_σ128, g9_σ128⟩)⟩
                · have t113 := (hqv122.2.2.2 hc124).1.2
                  refine ok_gC rfl ?_
                  refine ok_zbT (Q := fun V σ => (TOK σ.1 ∧ (σ123.1 218 11).toInt ≤ (σ.1 218 11).toInt ∧ (σ.1 218 14 = 0 → σ123.1 218 14 = 0) ∧ FW (σ.1 231) ∧ σ.1 231 1 = σ123.1 231 1) ∧ (σ.1 218 7 = σ123.1 218 7 ∧ σ.1 218 9 = σ123.1 218 9 ∧ σ.1 218 20 = σ123.1 218 20 ∧ σ.1 218 22 = σ123.1 218 22 ∧ σ.1 218 23 = σ123.1 218 23 ∧ σ.1 218 24 = σ123.1 218 24 ∧ σ.1 218 25 = σ123.1 218 25)) hT (s_X12_readsEdge hN (hR.tr hT) (hK) (by rw [hT.2 224 (by decide)]; exact hY) (by (first | rw [r231_σ123] | skip); exact hF) (by (first | rw [r231_σ123] | skip); first | exact k57 | exact (is_ne f42 t113 s77.1).elim | exact absurd y69 n62 | exact absurd y69 n32)) (by decide) (fun v129 σ130 hOσ130 hT hqv129 => ?_)
                  have hqv129 : (TOK σ130.1 ∧ (σ123.1 218 11).toInt ≤ (σ130.1 218 11).toInt ∧ (σ130.1 218 14 = 0 → σ123.1 218 14 = 0) ∧ FW (σ130.1 231) ∧ σ130.1 231 1 = σ123.1 231 1) ∧ (σ130.1 218 7 = σ123.1 218 7 ∧ σ130.1 218 9 = σ123.1 218 9 ∧ σ130.1 218 20 = σ123.1 218 20 ∧ σ130.1 218 22 = σ123.1 218 22 ∧ σ130.1 218 23 = σ123.1 218 23 ∧ σ130.1 218 24 = σ123.1 218 24 ∧ σ130.1 218 25 = σ123.1 218 25) := hqv129
                  have hkv129 := hqv129
                  have hqv129 := hqv129.1
                  have hK : TOK σ130.1 := by first | exact hqv129.1 | exact TOK_p eσ130 (by decide) hK
                  have hB : ZB σ130.1 := ZB.tr hOσ130 (by decide) hB
                  try simp only [g7_σ123, g9_σ123, g14_σ123, g15_σ123, g20_σ123, g22_σ123, g23_σ123, g24_σ123, g25_σ123] at hqv129
                  have g7_σ130 : σ130.1 218 7 = (σ0.1 218 7) := (hkv129.2.1).trans g7_σ123
                  have g9_σ130 : σ130.1 218 9 = (σ0.1 218 9) := (hkv129.2.2.1).trans g9_σ123
                  have g20_σ130 : σ130.1 218 20 = (σ0.1 218 20) := (hkv129.2.2.2.1).trans g20_σ123
                  have g22_σ130 : σ130.1 218 22 = (σ0.1 218 22) := (hkv129.2.2.2.2.1).trans g22_σ123
                  have g23_σ130 : σ130.1 218 23 = (σ0.1 218 23) := (hkv129.2.2.2.2.2.1).trans g23_σ123
                  have g24_σ130 : σ130.1 218 24 = (σ0.1 218 24) := (hkv129.2.2.2.2.2.2.1).trans g24_σ123
                  have g25_σ130 : σ130.1 218 25 = (σ0.1 218 25) := (hkv129.2.2.2.2.2.2.2).trans g25_σ123
                  have m117 := hqv129.2.1
                  have f117 := hqv129.2.2.2.1
                  have q117 : σ130.1 231 1 = σ0.1 231 1 := hqv129.2.2.2.2.trans (congrFun r110 1)
                  exact ok_some ⟨hT, (show (TOK σ130.1 ∧ (σ0.1 218 11).toInt ≤ (σ130.1 218 11).toInt ∧ FW (σ130.1 231) ∧ σ130.1 231 1 = σ0.1 231 1 ∧ ZB σ130.1) ∧ (σ130.1 218 7 = σ0.1 218 7 ∧ σ130.1 218 9 = σ0.1 218 9) from ⟨by first | exact ⟨hK, by (try simp only [g7_σ130, g9_σ130, g20_σ130, g22_σ130, g23_σ130, g24_σ130, g25_σ130]); omega, by (first | rw [rfl] | skip); exact hF, congrFun rfl 1, hB⟩ | exact ⟨hK, by (try simp only [g7_σ130, g9_σ130, g20_σ130, g22_σ130, g23_σ130, g24_σ130, g25_σ130]); omega, k102.1, q102, hB⟩ | exact ⟨hK, by (try simp only [g7_σ130, g9_σ130, g20_σ130, g22_σ130, g23_σ130, g24_σ130, g25_σ130]); omega, f117, q117, hB⟩, g7_σ130, g9_σ130⟩)⟩
              · refine ok_gC rfl ?_
                refine ok_zbT (Q := fun V σ => (TOK σ.1 ∧ (σ120.1 218 11).toInt ≤ (σ.1 218 11).toInt ∧ (σ.1 218 14 = 0 → σ120.1 218 14 = 0) ∧ 0 ≤ V.toInt ∧ V.toInt ≤ 9) ∧ (σ.1 218 7 = σ120.1 218 7 ∧ σ.1 218 9 = σ120.1 218 9 ∧ σ.1 218 20 = σ120.1 218 20 ∧ σ.1 218 22 = σ120.1 218 22 ∧ σ.1 218 23 = σ120.1 218 23 ∧ σ.1 218 24 = σ120.1 218 24 ∧ σ.1 218 25 = σ120.1 218 25)) hT (s_X12_readsName hN (hR.tr hT) (hK) (by rw [hT.2 224 (by decide)]; exact hY) (by (first | rw [r231_σ120] | skip); exact hF)) (by decide) (fun v131 σ132 hOσ132 hT hqv131 => ?_)
                have hqv131 : (TOK σ132.1 ∧ (σ120.1 218 11).toInt ≤ (σ132.1 218 11).toInt ∧ (σ132.1 218 14 = 0 → σ120.1 218 14 = 0) ∧ 0 ≤ v131.toInt ∧ v131.toInt ≤ 9) ∧ (σ132.1 218 7 = σ120.1 218 7 ∧ σ132.1 218 9 = σ120.1 218 9 ∧ σ132.1 218 20 = σ120.1 218 20 ∧ σ132.1 218 22 = σ120.1 218 22 ∧ σ132.1 218 23 = σ120.1 218 23 ∧ σ132.1 218 24 = σ120.1 218 24 ∧ σ132.1 218 25 = σ120.1 218 25) := hqv131
                have hkv131 := hqv131
                have hqv131 := hqv131.1
                have r231_σ132 : σ132.1 231 = σ0.1 231 := (hOσ132.2 231 (by decide)).trans r231_σ120
                have hK : TOK σ132.1 := by first | exact hqv131.1 | exact TOK_p eσ132 (by decide) hK
                have hB : ZB σ132.1 := ZB.tr hOσ132 (by decide) hB
                try simp only [g7_σ120, g9_σ120, g14_σ120, g15_σ120, g20_σ120, g22_σ120, g23_σ120, g24_σ120, g25_σ120] at hqv131
                have g7_σ132 : σ132.1 218 7 = (σ0.1 218 7) := (hkv131.2.1).trans g7_σ120
                have g9_σ132 : σ132.1 218 9 = (σ0.1 218 9) := (hkv131.2.2.1).trans g9_σ120
                have g20_σ132 : σ132.1 218 20 = (σ0.1 218 20) := (hkv131.2.2.2.1).trans g20_σ120
                have g22_σ132 : σ132.1 218 22 = (σ0.1 218 22) := (hkv131.2.2.2.2.1).trans g22_σ120
                have g23_σ132 : σ132.1 218 23 = (σ0.1 218 23) := (hkv131.2.2.2.2.2.1).trans g23_σ120
                have g24_σ132 : σ132.1 218 24 = (σ0.1 218 24) := (hkv131.2.2.2.2.2.2.1).trans g24_σ120
                have g25_σ132 : σ132.1 218 25 = (σ0.1 218 25) := (hkv131.2.2.2.2.2.2.2).trans g25_σ120
                have m84 := hqv131.2.1
                have b84 := hqv131.2.2.2
                have i84 := ti3 (x := v131) (by omega) (by omega)
                refine ok_gR (v := 231) hT rfl (hR 218 26 rfl) ?_
                refine ok_gC rfl ?_
                refine ok_zbT (Q := fun V σ => (TOK σ.1 ∧ (σ132.1 218 11).toInt ≤ (σ.1 218 11).toInt ∧ (σ.1 218 14 = 0 → (σ132.1 218 14 = 0 ∧ (σ132.1 218 11).toInt < (σ.1 218 11).toInt) ∧ (0 : Int32).toInt ≤ V.toInt ∧ V.toInt ≤ (99 : Int32).toInt) ∧ (¬ σ.1 218 14 = 0 → V = 0)) ∧ (σ.1 218 7 = σ132.1 218 7 ∧ σ.1 218 9 = σ132.1 218 9 ∧ σ.1 218 20 = σ132.1 218 20 ∧ σ.1 218 22 = σ132.1 218 22 ∧ σ.1 218 23 = σ132.1 218 23 ∧ σ.1 218 24 = σ132.1 218 24 ∧ σ.1 218 25 = σ132.1 218 25)) hT (s_X12_number hN (hR.tr hT) (hK) (by rw [hT.2 224 (by decide)]; exact hY)) (by decide) (fun v134 σ135 hOσ135 hT hqv134 => ?_)
                have hqv134 : (TOK σ135.1 ∧ (σ132.1 218 11).toInt ≤ (σ135.1 218 11).toInt ∧ (σ135.1 218 14 = 0 → (σ132.1 218 14 = 0 ∧ (σ132.1 218 11).toInt < (σ135.1 218 11).toInt) ∧ (0 : Int32).toInt ≤ v134.toInt ∧ v134.toInt ≤ (99 : Int32).toInt) ∧ (¬ σ135.1 218 14 = 0 → v134 = 0)) ∧ (σ135.1 218 7 = σ132.1 218 7 ∧ σ135.1 218 9 = σ132.1 218 9 ∧ σ135.1 218 20 = σ132.1 218 20 ∧ σ135.1 218 22 = σ132.1 218 22 ∧ σ135.1 218 23 = σ132.1 218 23 ∧ σ135.1 218 24 = σ132.1 218 24 ∧ σ135.1 218 25 = σ132.1 218 25) := hqv134
                have hkv134 := hqv134
                have hqv134 := hqv134.1
                have r231_σ135 : σ135.1 231 = σ0.1 231 := (hOσ135.2 231 (by decide)).trans r231_σ132
                have hK : TOK σ135.1 := by first | exact hqv134.1 | exact TOK_p eσ135 (by decide) hK
                have hB : ZB σ135.1 := ZB.tr hOσ135 (by decide) hB
                try simp only [g7_σ132, g9_σ132, g20_σ132, g22_σ132, g23_σ132, g24_σ132, g25_σ132] at hqv134
                have g7_σ135 : σ135.1 218 7 = (σ0.1 218 7) := (hkv134.2.1).trans g7_σ132
                have g9_σ135 : σ135.1 218 9 = (σ0.1 218 9) := (hkv134.2.2.1).trans g9_σ132
                have g20_σ135 : σ135.1 218 20 = (σ0.1 218 20) := (hkv134.2.2.2.1).trans g20_σ132
                have g22_σ135 : σ135.1 218 22 = (σ0.1 218 22) := (hkv134.2.2.2.2.1).trans g22_σ132
                have g23_σ135 : σ135.1 218 23 = (σ0.1 218 23) := (hkv134.2.2.2.2.2.1).trans g23_σ132
                have g24_σ135 : σ135.1 218 24 = (σ0.1 218 24) := (hkv134.2.2.2.2.2.2.1).trans g24_σ132
                have g25_σ135 : σ135.1 218 25 = (σ0.1 218 25) := (hkv134.2.2.2.2.2.2.2).trans g25_σ132
                have m99 := hqv134.2.1
                refine ok_s14 hT rfl (by decide) (by rw [i84.1]; omega) (by rw [i84.1]; omega) (fun σ136 eσ136 hOσ136 hT => ?_)
                have k102 := FW_w eσ136 (by rw [i84.2]; omega) (by rw [i84.2]; omega) (by (first | rw [r231_σ135] | skip); exact hF)
                have q102 : σ136.1 231 1 = σ0.1 231 1 := k102.2.trans (congrFun r231_σ135 1)
                have hK : TOK σ136.1 := TOK_tr hOσ136 (by decide) (by decide) hK
                have hB : ZB σ136.1 := ZB.tr hOσ136 (by decide) hB
                have g7_σ136 : σ136.1 218 7 = (σ0.1 218 7) := (congrFun (hOσ136.2 218 (by decide)) 7).trans g7_σ135
                have g9_σ136 : σ136.1 218 9 = (σ0.1 218 9) := (congrFun (hOσ136.2 218 (by decide)) 9).trans g9_σ135
                have g10_σ136 : σ136.1 218 10 = (σ135.1 218 10) := congrFun (hOσ136.2 218 (by decide)) 10
                have g11_σ136 : σ136.1 218 11 = (σ135.1 218 11) := congrFun (hOσ136.2 218 (by decide)) 11
                have g12_σ136 : σ136.1 218 12 = (σ135.1 218 12) := congrFun (hOσ136.2 218 (by decide)) 12
                have g13_σ136 : σ136.1 218 13 = (σ135.1 218 13) := congrFun (hOσ136.2 218 (by decide)) 13
                have g14_σ136 : σ136.1 218 14 = (σ135.1 218 14) := congrFun (hOσ136.2 218 (by decide)) 14
                have g15_σ136 : σ136.1 218 15 = (σ135.1 218 15) := congrFun (hOσ136.2 218 (by decide)) 15
                have g20_σ136 : σ136.1 218 20 = (σ0.1 218 20) := (congrFun (hOσ136.2 218 (by decide)) 20).trans g20_σ135
                have g22_σ136 : σ136.1 218 22 = (σ0.1 218 22) := (congrFun (hOσ136.2 218 (by decide)) 22).trans g22_σ135
                have g23_σ136 : σ136.1 218 23 = (σ0.1 218 23) := (congrFun (hOσ136.2 218 (by decide)) 23).trans g23_σ135
                have g24_σ136 : σ136.1 218 24 = (σ0.1 218 24) := (congrFun (hOσ136.2 218 (by decide)) 24).trans g24_σ135
                have g25_σ136 : σ136.1 218 25 = (σ0.1 218 25) := (congrFun (hOσ136.2 218 (by decide)) 25).trans g25_σ135
                exact ok_some ⟨hT, (show (TOK σ136.1 ∧ (σ0.1 218 11).toInt ≤ (σ136.1 218 11).toInt ∧ FW (σ136.1 231) ∧ σ136.1 231 1 = σ0.1 231 1 ∧ ZB σ136.1) ∧ (σ136.1 218 7 = σ0.1 218 7 ∧ σ136.1 218 9 = σ0.1 218 9) from ⟨by first | exact ⟨hK, by (try simp only [g7_σ136, g9_σ136, g10_σ136, g11_σ136, g12_σ136, g13_σ136, g14_σ136, g15_σ136, g20_σ136, g22_σ136, g23_σ136, g24_σ136, g25_σ136]); omega, by (first | rw [rfl] | skip); exact hF, congrFun rfl 1, hB⟩ | exact ⟨hK, by (try simp only [g7_σ136, g9_σ136, g10_σ136, g11_σ136, g12_σ136, g13_σ136, g14_σ136, g15_σ136, g20_σ136, g22_σ136, g23_σ136, g24_σ136, g25_σ136]); omega, k102.1, q102, hB⟩ | exact ⟨hK, by (try simp only [g7_σ136, g9_σ136, g10_σ136, g11_σ136, g12_σ136, g13_σ136, g14_σ136, g15_σ136, g20_σ136, g22_σ136, g23_σ136, g24_σ136, g25_σ136]); omega, f117, q117, hB⟩, g7_σ136, g9_σ136⟩)⟩
          · have n57 := hc113
            rw [ev50, ev56] at n57
            have k57 : (σ0.1 231 2).toInt < (σ0.1 231 0).toInt := by rcases Int.lt_or_eq_of_le hF.1.2.2 with q | q; exact q; exact absurd (Int32.toInt_inj.mp q) n57
            rw [J_X12_readsLine_65.eq_1]
            refine ok_gC rfl ?_
            refine ok_zbX (Q := fun V => (V = 0 → ¬ σ0.1 218 14 = 0) ∧ (¬ V = 0 → σ0.1 218 14 = 0)) (x_X12_good) (fun v137 hqv137 => ?_)
            have hqv137 : (v137 = 0 → ¬ σ0.1 218 14 = 0) ∧ (¬ v137 = 0 → σ0.1 218 14 = 0) := hqv137
            refine ok_if (fun hc139 => ?_) (fun hc139 => ?_)
            · have qhc139 := hqv137.1 hc139
              exact ok_some ⟨hT, (show (TOK σ0.1 ∧ (σ0.1 218 11).toInt ≤ (σ0.1 218 11).toInt ∧ FW (σ0.1 231) ∧ σ0.1 231 1 = σ0.1 231 1 ∧ ZB σ0.1) ∧ (σ0.1 218 7 = σ0.1 218 7 ∧ σ0.1 218 9 = σ0.1 218 9) from ⟨by first | exact ⟨hK, by skip; omega, by (first | rw [rfl] | skip); exact hF, congrFun rfl 1, hB⟩ | exact ⟨hK, by skip; omega, k102.1, q102, hB⟩ | exact ⟨hK, by skip; omega, f117, q117, hB⟩, rfl, rfl⟩)⟩
            · have qhc139 := hqv137.2 hc139
              have y69 := qhc139
              refine ok_gC rfl ?_
              refine ok_zbT (Q := fun V σ => (TOK σ.1 ∧ (σ0.1 218 11).toInt ≤ (σ.1 218 11).toInt ∧ (V = 0 → σ = σ0 ∧ f_X12_is N 218 12 σ0 = some (0, σ0)) ∧ (¬ V = 0 → ((σ0.1 218 14 = 0 ∧ σ0.1 218 12 = 1) ∧ f_X12_is N 218 12 σ0 = some (1, σ0)) ∧ (σ0.1 218 11).toInt < (σ.1 218 11).toInt)) ∧ (σ.1 218 7 = σ0.1 218 7 ∧ σ.1 218 9 = σ0.1 218 9 ∧ σ.1 218 14 = σ0.1 218 14 ∧ σ.1 218 15 = σ0.1 218 15 ∧ σ.1 218 20 = σ0.1 218 20 ∧ σ.1 218 22 = σ0.1 218 22 ∧ σ.1 218 23 = σ0.1 218 23 ∧ σ.1 218 24 = σ0.1 218 24 ∧ σ.1 218 25 = σ0.1 218 25)) hT (s_X12_takes hN (hR.tr hT) (hK) (by rw [hT.2 224 (by decide)]; exact hY) (by decide)) (by decide) (fun v140 σ141 hOσ141 hT hqv140 => ?_)
              have hqv140 : (TOK σ141.1 ∧ (σ0.1 218 11).toInt ≤ (σ141.1 218 11).toInt ∧ (v140 = 0 → σ141 = σ0 ∧ f_X12_is N 218 12 σ0 = some (0, σ0)) ∧ (¬ v140 = 0 → ((σ0.1 218 14 = 0 ∧ σ0.1 218 12 = 1) ∧ f_X12_is N 218 12 σ0 = some (1, σ0)) ∧ (σ0.1 218 11).toInt < (σ141.1 218 11).toInt)) ∧ (σ141.1 218 7 = σ0.1 218 7 ∧ σ141.1 218 9 = σ0.1 218 9 ∧ σ141.1 218 14 = σ0.1 218 14 ∧ σ141.1 218 15 = σ0.1 218 15 ∧ σ141.1 218 20 = σ0.1 218 20 ∧ σ141.1 218 22 = σ0.1 218 22 ∧ σ141.1 218 23 = σ0.1 218 23 ∧ σ141.1 218 24 = σ0.1 218 24 ∧ σ141.1 218 25 = σ0.1 218 25) := hqv140
              have hkv140 := hqv140
              have hqv140 := hqv140.1
              have r231_σ141 : σ141.1 231 = σ0.1 231 := hOσ141.2 231 (by decide)
              have hK : TOK σ141.1 := by first | exact hqv140.1 | exact TOK_p eσ141 (by decide) hK
              have hB : ZB σ141.1 := ZB.tr hOσ141 (by decide) hB
              have g7_σ141 : σ141.1 218 7 = (σ0.1 218 7) := hkv140.2.1
              have g9_σ141 : σ141.1 218 9 = (σ0.1 218 9) := hkv140.2.2.1
              have g14_σ141 : σ141.1 218 14 = (σ0.1 218 14) := hkv140.2.2.2.1
              have g15_σ141 : σ141.1 218 15 = (σ0.1 218 15) := hkv140.2.2.2.2.1
              have g20_σ141 : σ141.1 218 20 = (σ0.1 218 20) := hkv140.2.2.2.2.2.1
              have g22_σ141 : σ141.1 218 22 = (σ0.1 218 22) := hkv140.2.2.2.2.2.2.1
              have g23_σ141 : σ141.1 218 23 = (σ0.1 218 23) := hkv140.2.2.2.2.2.2.2.1
              have g24_σ141 : σ141.1 218 24 = (σ0.1 218 24) := hkv140.2.2.2.2.2.2.2.2.1
              have g25_σ141 : σ141.1 218 25 = (σ0.1 218 25) := hkv140.2.2.2.2.2.2.2.2.2
              have m77 := hqv140.2.1
              refine ok_if (fun hc142 => ?_) (fun hc142 => ?_)
              · have s77 := hqv140.2.2.1 hc142
                refine ok_gC rfl ?_
                refine ok_zbT (Q := fun V σ => (TOK σ.1 ∧ (σ141.1 218 11).toInt ≤ (σ.1 218 11).toInt ∧ (V = 0 → σ = σ141 ∧ f_X12_is N 218 13 σ141 = some (0, σ141)) ∧ (¬ V = 0 → ((σ141.1 218 14 = 0 ∧ σ141.1 218 12 = 1) ∧ f_X12_is N 218 13 σ141 = some (1, σ141)) ∧ (σ141.1 218 11).toInt < (σ.1 218 11).toInt)) ∧ (σ.1 218 7 = σ141.1 218 7 ∧ σ.1 218 9 = σ141.1 218 9 ∧ σ.1 218 14 = σ141.1 218 14 ∧ σ.1 218 15 = σ141.1 218 15 ∧ σ.1 218 20 = σ141.1 218 20 ∧ σ.1 218 22 = σ141.1 218 22 ∧ σ.1 218 23 = σ141.1 218 23 ∧ σ.1 218 24 = σ141.1 218 24 ∧ σ.1 218 25 = σ141.1 218 25)) hT (s_X12_takes hN (hR.tr hT) (hK) (by rw [hT.2 224 (by decide)]; exact hY) (by decide)) (by decide) (fun v143 σ144 hOσ144 hT hqv143 => ?_)
                have hqv143 : (TOK σ144.1 ∧ (σ141.1 218 11).toInt ≤ (σ144.1 218 11).toInt ∧ (v143 = 0 → σ144 = σ141 ∧ f_X12_is N 218 13 σ141 = some (0, σ141)) ∧ (¬ v143 = 0 → ((σ141.1 218 14 = 0 ∧ σ141.1 218 12 = 1) ∧ f_X12_is N 218 13 σ141 = some (1, σ141)) ∧ (σ141.1 218 11).toInt < (σ144.1 218 11).toInt)) ∧ (σ144.1 218 7 = σ141.1 218 7 ∧ σ144.1 218 9 = σ141.1 218 9 ∧ σ144.1 218 14 = σ141.1 218 14 ∧ σ144.1 218 15 = σ141.1 218 15 ∧ σ144.1 218 20 = σ141.1 218 20 ∧ σ144.1 218 22 = σ141.1 218 22 ∧ σ144.1 218 23 = σ141.1 218 23 ∧ σ144.1 218 24 = σ141.1 218 24 ∧ σ144.1 218 25 = σ141.1 218 25) := hqv143
                have hkv143 := hqv143
                have hqv143 := hqv143.1
                have r231_σ144 : σ144.1 231 = σ0.1 231 := (hOσ144.2 231 (by decide)).trans r231_σ141
                have hK : TOK σ144.1 := by first | exact hqv143.1 | exact TOK_p eσ144 (by decide) hK
                have hB : ZB σ144.1 := ZB.tr hOσ144 (by decide) hB
                try simp only [g7_σ141, g9_σ141, g14_σ141, g15_σ141, g20_σ141, g22_σ141, g23_σ141, g24_σ141, g25_σ141] at hqv143
                have g7_σ144 : σ144.1 218 7 = (σ0.1 218 7) := (hkv143.2.1).trans g7_σ141
                have g9_σ144 : σ144.1 218 9 = (σ0.1 218 9) := (hkv143.2.2.1).trans g9_σ141
                have g14_σ144 : σ144.1 218 14 = (σ0.1 218 14) := (hkv143.2.2.2.1).trans g14_σ141
                have g15_σ144 : σ144.1 218 15 = (σ0.1 218 15) := (hkv143.2.2.2.2.1).trans g15_σ141
                have g20_σ144 : σ144.1 218 20 = (σ0.1 218 20) := (hkv143.2.2.2.2.2.1).trans g20_σ141
                have g22_σ144 : σ144.1 218 22 = (σ0.1 218 22) := (hkv143.2.2.2.2.2.2.1).trans g22_σ141
                have g23_σ144 : σ144.1 218 23 = (σ0.1 218 23) := (hkv143.2.2.2.2.2.2.2.1).trans g23_σ141
                have g24_σ144 : σ144.1 218 24 = (σ0.1 218 24) := (hkv143.2.2.2.2.2.2.2.2.1).trans g24_σ141
                have g25_σ144 : σ144.1 218 25 = (σ0.1 218 25) := (hkv143.2.2.2.2.2.2.2.2.2).trans g25_σ141
                have k110 := hK.1
                have m110 := hqv143.2.1
                have r110 : σ144.1 231 = σ0.1 231 := r231_σ144
                refine ok_if (fun hc145 => ?_) (fun hc145 => ?_)
                · refine ok_gC rfl ?_
                  refine ok_zbT (Q := fun V σ => (TOK σ.1 ∧ (σ144.1 218 10).toInt ≤ (σ.1 218 11).toInt) ∧ (σ.1 218 7 = σ144.1 218 7 ∧ σ.1 218 9 = σ144.1 218 9 ∧ σ.1 218 14 = σ144.1 218 14 ∧ σ.1 218 15 = σ144.1 218 15 ∧ σ.1 218 20 = σ144.1 218 20 ∧ σ.1 218 22 = σ144.1 218 22 ∧ σ.1 218 23 = σ144.1 218 23 ∧ σ.1 218 24 = σ144.1 218 24 ∧ σ.1 218 25 = σ144.1 218 25)) hT (s_X12_advance hN (hR.tr hT) (TOK_A hK) (by rw [hT.2 224 (by decide)]; exact hY)) (by decide) (fun v146 σ147 hOσ147 hT hqv146 => ?_)
                  have hqv146 : (TOK σ147.1 ∧ (σ144.1 218 10).toInt ≤ (σ147.1 218 11).toInt) ∧ (σ147.1 218 7 = σ144.1 218 7 ∧ σ147.1 218 9 = σ144.1 218 9 ∧ σ147.1 218 14 = σ144.1 218 14 ∧ σ147.1 218 15 = σ144.1 218 15 ∧ σ147.1 218 20 = σ144.1 218 20 ∧ σ147.1 218 22 = σ144.1 218 22 ∧ σ147.1 218 23 = σ144.1 218 23 ∧ σ147.1 218 24 = σ144.1 218 24 ∧ σ147.1 218 25 = σ144.1 218 25) := hqv146
                  have hkv146 := hqv146
                  have hqv146 := hqv146.1
                  have r231_σ147 : σ147.1 231 = σ0.1 231 := (hOσ147.2 231 (by decide)).trans r231_σ144
                  have hK : TOK σ147.1 := by first | exact hqv146.1 | exact TOK_p eσ147 (by decide) hK
                  have hB : ZB σ147.1 := ZB.tr hOσ147 (by decide) hB
                  try simp only [g7_σ144, g9_σ144, g14_σ144, g15_σ144, g20_σ144, g22_σ144, g23_σ144, g24_σ144, g25_σ144] at hqv146
                  have g7_σ147 : σ147.1 218 7 = (σ0.1 218 7) := (hkv146.2.1).trans g7_σ144
                  have g9_σ147 : σ147.1 218 9 = (σ0.1 218 9) := (hkv146.2.2.1).trans g9_σ144
                  have g14_σ147 : σ147.1 218 14 = (σ0.1 218 14) := (hkv146.2.2.2.1).trans g14_σ144
                  have g15_σ147 : σ147.1 218 15 = (σ0.1 218 15) := (hkv146.2.2.2.2.1).trans g15_σ144
                  have g20_σ147 : σ147.1 218 20 = (σ0.1 218 20) := (hkv146.2.2.2.2.2.1).trans g20_σ144
                  have g22_σ147 : σ147.1 218 22 = (σ0.1 218 22) := (hkv146.2.2.2.2.2.2.1).trans g22_σ144
                  have g23_σ147 : σ147.1 218 23 = (σ0.1 218 23) := (hkv146.2.2.2.2.2.2.2.1).trans g23_σ144
                  have g24_σ147 : σ147.1 218 24 = (σ0.1 218 24) := (hkv146.2.2.2.2.2.2.2.2.1).trans g24_σ144
                  have g25_σ147 : σ147.1 218 25 = (σ0.1 218 25) := (hkv146.2.2.2.2.2.2.2.2.2).trans g25_σ144
                  have m124 := hqv146.2
                  refine ok_gC rfl ?_
                  refine ok_zbT (Q := fun V σ => (TOK σ.1 ∧ (σ147.1 218 11).toInt ≤ (σ.1 218 11).toInt ∧ (σ.1 218 14 = 0 → σ147.1 218 14 = 0) ∧ ZB σ.1) ∧ (σ.1 218 7 = σ147.1 218 7 ∧ σ.1 218 9 = σ147.1 218 9)) hT (s_X12_readsLet hN (hR.tr hT) (hK) (by rw [hT.2 224 (by decide)]; exact hY) (hB) (by (first | rw [r231_σ147] | skip); exact hF)) (by decide) (fun v148 σ149 hOσ149 hT hqv148 => ?_)
                  have hqv148 : (TOK σ149.1 ∧ (σ147.1 218 11).toInt ≤ (σ149.1 218 11).toInt ∧ (σ149.1 218 14 = 0 → σ147.1 218 14 = 0) ∧ ZB σ149.1) ∧ (σ149.1 218 7 = σ147.1 218 7 ∧ σ149.1 218 9 = σ147.1 218 9) := hqv148
                  have hkv148 := hqv148
                  have hqv148 := hqv148.1
                  have r231_σ149 : σ149.1 231 = σ0.1 231 := (hOσ149.2 231 (by decide)).trans r231_σ147
                  have hK : TOK σ149.1 := by first | exact hqv148.1 | exact TOK_p eσ149 (by decide) hK
                  have hB : ZB σ149.1 := hqv148.2.2.2
                  try simp only [g7_σ147, g9_σ147, g14_σ147, g15_σ147, g20_σ147, g22_σ147, g23_σ147, g24_σ147, g25_σ147] at hqv148
                  have g7_σ149 : σ149.1 218 7 = (σ0.1 218 7) := (hkv148.2.1).trans g7_σ147
                  have g9_σ149 : σ149.1 218 9 = (σ0.1 218 9) := (hkv148.2.2).trans g9_σ147
                  have m128 := hqv148.2.1
                  exact ok_some ⟨hT, (show (TOK σ149.1 ∧ (σ0.1 218 11).toInt ≤ (σ149.1 218 11).toInt ∧ FW (σ149.1 231) ∧ σ149.1 231 1 = σ0.1 231 1 ∧ ZB σ149.1) ∧ (σ149.1 218 7 = σ0.1 218 7 ∧ σ149.1 218 9 = σ0.1 218 9) from ⟨by first | exact ⟨hK, by (try simp only [g7_σ149, g9_σ149]); omega, by (first | rw [r231_σ149] | skip); exact hF, congrFun r231_σ149 1, hB⟩ | exact ⟨hK, by (try simp only [g7_σ149, g9_σ149]); omega, k102.1, q102, hB⟩ | exact ⟨hK, by (try simp only [g7_σ149, g9_σ149]); omega, f117, q117, hB⟩, g7_σ149, g9_σ149⟩)⟩
                · have t113 := (hqv143.2.2.2 hc145).1.2
                  refine ok_gC rfl ?_
                  refine ok_zbT (Q := fun V σ => (TOK σ.1 ∧ (σ144.1 218 11).toInt ≤ (σ.1 218 11).toInt ∧ (σ.1 218 14 = 0 → σ144.1 218 14 = 0) ∧ FW (σ.1 231) ∧ σ.1 231 1 = σ144.1 231 1) ∧ (σ.1 218 7 = σ144.1 218 7 ∧ σ.1 218 9 = σ144.1 218 9 ∧ σ.1 218 20 = σ144.1 218 20 ∧ σ.1 218 22 = σ144.1 218 22 ∧ σ.1 218 23 = σ144.1 218 23 ∧ σ.1 218 24 = σ144.1 218 24 ∧ σ.1 218 25 = σ144.1 218 25)) hT (s_X12_readsEdge hN (hR.tr hT) (hK) (by rw [hT.2 224 (by decide)]; exact hY) (by (first | rw [r231_σ144] | skip); exact hF) (by (first | rw [r231_σ144] | skip); first | exact k57 | exact (is_ne f42 t113 s77.1).elim | exact absurd y69 n62 | exact absurd y69 n32)) (by decide) (fun v150 σ151 hOσ151 hT hqv150 => ?_)
                  have hqv150 : (TOK σ151.1 ∧ (σ144.1 218 11).toInt ≤ (σ151.1 218 11).toInt ∧ (σ151.1 218 14 = 0 → σ144.1 218 14 = 0) ∧ FW (σ151.1 231) ∧ σ151.1 231 1 = σ144.1 231 1) ∧ (σ151.1 218 7 = σ144.1 218 7 ∧ σ151.1 218 9 = σ144.1 218 9 ∧ σ151.1 218 20 = σ144.1 218 20 ∧ σ151.1 218 22 = σ144.1 218 22 ∧ σ151.1 218 23 = σ144.1 218 23 ∧ σ151.1 218 24 = σ144.1 218 24 ∧ σ151.1 218 25 = σ144.1 218 25) := hqv150
                  have hkv150 := hqv150
                  have hqv150 := hqv150.1
                  have hK : TOK σ151.1 := by first | exact hqv150.1 | exact TOK_p eσ151 (by decide) hK
                  have hB : ZB σ151.1 := ZB.tr hOσ151 (by decide) hB
                  try simp only [g7_σ144, g9_σ144, g14_σ144, g15_σ144, g20_σ144, g22_σ144, g23_σ144, g24_σ144, g25_σ144] at hqv150
                  have g7_σ151 : σ151.1 218 7 = (σ0.1 218 7) := (hkv150.2.1).trans g7_σ144
                  have g9_σ151 : σ151.1 218 9 = (σ0.1 218 9) := (hkv150.2.2.1).trans g9_σ144
                  have g20_σ151 : σ151.1 218 20 = (σ0.1 218 20) := (hkv150.2.2.2.1).trans g20_σ144
                  have g22_σ151 : σ151.1 218 22 = (σ0.1 218 22) := (hkv150.2.2.2.2.1).trans g22_σ144
                  have g23_σ151 : σ151.1 218 23 = (σ0.1 218 23) := (hkv150.2.2.2.2.2.1).trans g23_σ144
                  have g24_σ151 : σ151.1 218 24 = (σ0.1 218 24) := (hkv150.2.2.2.2.2.2.1).trans g24_σ144
                  have g25_σ151 : σ151.1 218 25 = (σ0.1 218 25) := (hkv150.2.2.2.2.2.2.2).trans g25_σ144
                  have m117 := hqv150.2.1
                  have f117 := hqv150.2.2.2.1
                  have q117 : σ151.1 231 1 = σ0.1 231 1 := hqv150.2.2.2.2.trans (congrFun r110 1)
                  exact ok_some ⟨hT, (show (TOK σ151.1 ∧ (σ0.1 218 11).toInt ≤ (σ151.1 218 11).toInt ∧ FW (σ151.1 231) ∧ σ151.1 231 1 = σ0.1 231 1 ∧ ZB σ151.1) ∧ (σ151.1 218 7 = σ0.1 218 7 ∧ σ151.1 218 9 = σ0.1 218 9) from ⟨by first | exact ⟨hK, by (try simp only [g7_σ151, g9_σ151, g20_σ151, g22_σ151, g23_σ151, g24_σ151, g25_σ151]); omega, by (first | rw [rfl] | skip); exact hF, congrFun rfl 1, hB⟩ | exact ⟨hK, by (try simp only [g7_σ151, g9_σ151, g20_σ151, g22_σ151, g23_σ151, g24_σ151, g25_σ151]); omega, k102.1, q102, hB⟩ | exact ⟨hK, by (try simp only [g7_σ151, g9_σ151, g20_σ151, g22_σ151, g23_σ151, g24_σ151, g25_σ151]); omega, f117, q117, hB⟩, g7_σ151, g9_σ151⟩)⟩
              · refine ok_gC rfl ?_
                refine ok_zbT (Q := fun V σ => (TOK σ.1 ∧ (σ141.1 218 11).toInt ≤ (σ.1 218 11).toInt ∧ (σ.1 218 14 = 0 → σ141.1 218 14 = 0) ∧ 0 ≤ V.toInt ∧ V.toInt ≤ 9) ∧ (σ.1 218 7 = σ141.1 218 7 ∧ σ.1 218 9 = σ141.1 218 9 ∧ σ.1 218 20 = σ141.1 218 20 ∧ σ.1 218 22 = σ141.1 218 22 ∧ σ.1 218 23 = σ141.1 218 23 ∧ σ.1 218 24 = σ141.1 218 24 ∧ σ.1 218 25 = σ141.1 218 25)) hT (s_X12_readsName hN (hR.tr hT) (hK) (by rw [hT.2 224 (by decide)]; exact hY) (by (first | rw [r231_σ141] | skip); exact hF)) (by decide) (fun v152 σ153 hOσ153 hT hqv152 => ?_)
                have hqv152 : (TOK σ153.1 ∧ (σ141.1 218 11).toInt ≤ (σ153.1 218 11).toInt ∧ (σ153.1 218 14 = 0 → σ141.1 218 14 = 0) ∧ 0 ≤ v152.toInt ∧ v152.toInt ≤ 9) ∧ (σ153.1 218 7 = σ141.1 218 7 ∧ σ153.1 218 9 = σ141.1 218 9 ∧ σ153.1 218 20 = σ141.1 218 20 ∧ σ153.1 218 22 = σ141.1 218 22 ∧ σ153.1 218 23 = σ141.1 218 23 ∧ σ153.1 218 24 = σ141.1 218 24 ∧ σ153.1 218 25 = σ141.1 218 25) := hqv152
                have hkv152 := hqv152
                have hqv152 := hqv152.1
                have r231_σ153 : σ153.1 231 = σ0.1 231 := (hOσ153.2 231 (by decide)).trans r231_σ141
                have hK : TOK σ153.1 := by first | exact hqv152.1 | exact TOK_p eσ153 (by decide) hK
                have hB : ZB σ153.1 := ZB.tr hOσ153 (by decide) hB
                try simp only [g7_σ141, g9_σ141, g14_σ141, g15_σ141, g20_σ141, g22_σ141, g23_σ141, g24_σ141, g25_σ141] at hqv152
                have g7_σ153 : σ153.1 218 7 = (σ0.1 218 7) := (hkv152.2.1).trans g7_σ141
                have g9_σ153 : σ153.1 218 9 = (σ0.1 218 9) := (hkv152.2.2.1).trans g9_σ141
                have g20_σ153 : σ153.1 218 20 = (σ0.1 218 20) := (hkv152.2.2.2.1).trans g20_σ141
                have g22_σ153 : σ153.1 218 22 = (σ0.1 218 22) := (hkv152.2.2.2.2.1).trans g22_σ141
                have g23_σ153 : σ153.1 218 23 = (σ0.1 218 23) := (hkv152.2.2.2.2.2.1).trans g23_σ141
                have g24_σ153 : σ153.1 218 24 = (σ0.1 218 24) := (hkv152.2.2.2.2.2.2.1).trans g24_σ141
                have g25_σ153 : σ153.1 218 25 = (σ0.1 218 25) := (hkv152.2.2.2.2.2.2.2).trans g25_σ141
                have m84 := hqv152.2.1
                have b84 := hqv152.2.2.2
                have i84 := ti3 (x := v152) (by omega) (by omega)
                refine ok_gR (v := 231) hT rfl (hR 218 26 rfl) ?_
                refine ok_gC rfl ?_
                refine ok_zbT (Q := fun V σ => (TOK σ.1 ∧ (σ153.1 218 11).toInt ≤ (σ.1 218 11).toInt ∧ (σ.1 218 14 = 0 → (σ153.1 218 14 = 0 ∧ (σ153.1 218 11).toInt < (σ.1 218 11).toInt) ∧ (0 : Int32).toInt ≤ V.toInt ∧ V.toInt ≤ (99 : Int32).toInt) ∧ (¬ σ.1 218 14 = 0 → V = 0)) ∧ (σ.1 218 7 = σ153.1 218 7 ∧ σ.1 218 9 = σ153.1 218 9 ∧ σ.1 218 20 = σ153.1 218 20 ∧ σ.1 218 22 = σ153.1 218 22 ∧ σ.1 218 23 = σ153.1 218 23 ∧ σ.1 218 24 = σ153.1 218 24 ∧ σ.1 218 25 = σ153.1 218 25)) hT (s_X12_number hN (hR.tr hT) (hK) (by rw [hT.2 224 (by decide)]; exact hY)) (by decide) (fun v155 σ156 hOσ156 hT hqv155 => ?_)
                have hqv155 : (TOK σ156.1 ∧ (σ153.1 218 11).toInt ≤ (σ156.1 218 11).toInt ∧ (σ156.1 218 14 = 0 → (σ153.1 218 14 = 0 ∧ (σ153.1 218 11).toInt < (σ156.1 218 11).toInt) ∧ (0 : Int32).toInt ≤ v155.toInt ∧ v155.toInt ≤ (99 : Int32).toInt) ∧ (¬ σ156.1 218 14 = 0 → v155 = 0)) ∧ (σ156.1 218 7 = σ153.1 218 7 ∧ σ156.1 218 9 = σ153.1 218 9 ∧ σ156.1 218 20 = σ153.1 218 20 ∧ σ156.1 218 22 = σ153.1 218 22 ∧ σ156.1 218 23 = σ153.1 218 23 ∧ σ156.1 218 24 = σ153.1 218 24 ∧ σ156.1 218 25 = σ153.1 218 25) := hqv155
                have hkv155 := hqv155
                have hqv155 := hqv155.1
                have r231_σ156 : σ156.1 231 = σ0.1 231 := (hOσ156.2 231 (by decide)).trans r231_σ153
                have hK : TOK σ156.1 := by first | exact hqv155.1 | exact TOK_p eσ156 (by decide) hK
                have hB : ZB σ156.1 := ZB.tr hOσ156 (by decide) hB
                try simp only [g7_σ153, g9_σ153, g20_σ153, g22_σ153, g23_σ153, g24_σ153, g25_σ153] at hqv155
                have g7_σ156 : σ156.1 218 7 = (σ0.1 218 7) := (hkv155.2.1).trans g7_σ153
                have g9_σ156 : σ156.1 218 9 = (σ0.1 218 9) := (hkv155.2.2.1).trans g9_σ153
                have g20_σ156 : σ156.1 218 20 = (σ0.1 218 20) := (hkv155.2.2.2.1).trans g20_σ153
                have g22_σ156 : σ156.1 218 22 = (σ0.1 218 22) := (hkv155.2.2.2.2.1).trans g22_σ153
                have g23_σ156 : σ156.1 218 23 = (σ0.1 218 23) := (hkv155.2.2.2.2.2.1).trans g23_σ153
                have g24_σ156 : σ156.1 218 24 = (σ0.1 218 24) := (hkv155.2.2.2.2.2.2.1).trans g24_σ153
                have g25_σ156 : σ156.1 218 25 = (σ0.1 218 25) := (hkv155.2.2.2.2.2.2.2).trans g25_σ153
                have m99 := hqv155.2.1
                refine ok_s14 hT rfl (by decide) (by rw [i84.1]; omega) (by rw [i84.1]; omega) (fun σ157 eσ157 hOσ157 hT => ?_)
                have k102 := FW_w eσ157 (by rw [i84.2]; omega) (by rw [i84.2]; omega) (by (first | rw [r231_σ156] | skip); exact hF)
                have q102 : σ157.1 231 1 = σ0.1 231 1 := k102.2.trans (congrFun r231_σ156 1)
                have hK : TOK σ157.1 := TOK_tr hOσ157 (by decide) (by decide) hK
                have hB : ZB σ157.1 := ZB.tr hOσ157 (by decide) hB
                have g7_σ157 : σ157.1 218 7 = (σ0.1 218 7) := (congrFun (hOσ157.2 218 (by decide)) 7).trans g7_σ156
                have g9_σ157 : σ157.1 218 9 = (σ0.1 218 9) := (congrFun (hOσ157.2 218 (by decide)) 9).trans g9_σ156
                have g10_σ157 : σ157.1 218 10 = (σ156.1 218 10) := congrFun (hOσ157.2 218 (by decide)) 10
                have g11_σ157 : σ157.1 218 11 = (σ156.1 218 11) := congrFun (hOσ157.2 218 (by decide)) 11
                have g12_σ157 : σ157.1 218 12 = (σ156.1 218 12) := congrFun (hOσ157.2 218 (by decide)) 12
                have g13_σ157 : σ157.1 218 13 = (σ156.1 218 13) := congrFun (hOσ157.2 218 (by decide)) 13
                have g14_σ157 : σ157.1 218 14 = (σ156.1 218 14) := congrFun (hOσ157.2 218 (by decide)) 14
                have g15_σ157 : σ157.1 218 15 = (σ156.1 218 15) := congrFun (hOσ157.2 218 (by decide)) 15
                have g20_σ157 : σ157.1 218 20 = (σ0.1 218 20) := (congrFun (hOσ157.2 218 (by decide)) 20).trans g20_σ156
                have g22_σ157 : σ157.1 218 22 = (σ0.1 218 22) := (congrFun (hOσ157.2 218 (by decide)) 22).trans g22_σ156
                have g23_σ157 : σ157.1 218 23 = (σ0.1 218 23) := (congrFun (hOσ157.2 218 (by decide)) 23).trans g23_σ156
                have g24_σ157 : σ157.1 218 24 = (σ0.1 218 24) := (congrFun (hOσ157.2 218 (by decide)) 24).trans g24_σ156
                have g25_σ157 : σ157.1 218 25 = (σ0.1 218 25) := (congrFun (hOσ157.2 218 (by decide)) 25).trans g25_σ156
                exact ok_some ⟨hT, (show (TOK σ157.1 ∧ (σ0.1 218 11).toInt ≤ (σ157.1 218 11).toInt ∧ FW (σ157.1 231) ∧ σ157.1 231 1 = σ0.1 231 1 ∧ ZB σ157.1) ∧ (σ157.1 218 7 = σ0.1 218 7 ∧ σ157.1 218 9 = σ0.1 218 9) from ⟨by first | exact ⟨hK, by (try simp only [g7_σ157, g9_σ157, g10_σ157, g11_σ157, g12_σ157, g13_σ157, g14_σ157, g15_σ157, g20_σ157, g22_σ157, g23_σ157, g24_σ157, g25_σ157]); omega, by (first | rw [rfl] | skip); exact hF, congrFun rfl 1, hB⟩ | exact ⟨hK, by (try simp only [g7_σ157, g9_σ157, g10_σ157, g11_σ157, g12_σ157, g13_σ157, g14_σ157, g15_σ157, g20_σ157, g22_σ157, g23_σ157, g24_σ157, g25_σ157]); omega, k102.1, q102, hB⟩ | exact ⟨hK, by (try simp only [g7_σ157, g9_σ157, g10_σ157, g11_σ157, g12_σ157, g13_σ157, g14_σ157, g15_σ157, g20_σ157, g22_σ157, g23_σ157, g24_σ157, g25_σ157]); omega, f117, q117, hB⟩, g7_σ157, g9_σ157⟩)⟩
    · have qhc6 := hqv4.2 hc6
      rw [J_X12_readsLine_35.eq_1]
      refine ok_gC rfl ?_
      refine ok_zbX (Q := fun V => (V = 0 → f_X12_is N 218 13 σ0 = some (0, σ0)) ∧ (¬ V = 0 → (σ0.1 218 14 = 0 ∧ σ0.1 218 12 = 1) ∧ V = 1 ∧ f_X12_is N 218 13 σ0 = some (1, σ0))) (x_X12_is hN (hR.tr hT) (by decide) hK) (fun v158 hqv158 => ?_)
      have hqv158 : (v158 = 0 → f_X12_is N 218 13 σ0 = some (0, σ0)) ∧ (¬ v158 = 0 → (σ0.1 218 14 = 0 ∧ σ0.1 218 12 = 1) ∧ v158 = 1 ∧ f_X12_is N 218 13 σ0 = some (1, σ0)) := hqv158
      refine ok_if (fun hc160 => ?_) (fun hc160 => ?_)
      · have qhc160 := hqv158.1 hc160
        have f42 := qhc160
        rw [J_X12_readsLine_65.eq_1]
        refine ok_gC rfl ?_
        refine ok_zbX (Q := fun V => (V = 0 → ¬ σ0.1 218 14 = 0) ∧ (¬ V = 0 → σ0.1 218 14 = 0)) (x_X12_good) (fun v161 hqv161 => ?_)
        have hqv161 : (v161 = 0 → ¬ σ0.1 218 14 = 0) ∧ (¬ v161 = 0 → σ0.1 218 14 = 0) := hqv161
        refine ok_if (fun hc163 => ?_) (fun hc163 => ?_)
        · have qhc163 := hqv161.1 hc163
          exact ok_some ⟨hT, (show (TOK σ0.1 ∧ (σ0.1 218 11).toInt ≤ (σ0.1 218 11).toInt ∧ FW (σ0.1 231) ∧ σ0.1 231 1 = σ0.1 231 1 ∧ ZB σ0.1) ∧ (σ0.1 218 7 = σ0.1 218 7 ∧ σ0.1 218 9 = σ0.1 218 9) from ⟨by first | exact ⟨hK, by skip; omega, by (first | rw [rfl] | skip); exact hF, congrFun rfl 1, hB⟩ | exact ⟨hK, by skip; omega, k102.1, q102, hB⟩ | exact ⟨hK, by skip; omega, f117, q117, hB⟩, rfl, rfl⟩)⟩
        · have qhc163 := hqv161.2 hc163
          have y69 := qhc163
          refine ok_gC rfl ?_
          refine ok_zbT (Q := fun V σ => (TOK σ.1 ∧ (σ0.1 218 11).toInt ≤ (σ.1 218 11).toInt ∧ (V = 0 → σ = σ0 ∧ f_X12_is N 218 12 σ0 = some (0, σ0)) ∧ (¬ V = 0 → ((σ0.1 218 14 = 0 ∧ σ0.1 218 12 = 1) ∧ f_X12_is N 218 12 σ0 = some (1, σ0)) ∧ (σ0.1 218 11).toInt < (σ.1 218 11).toInt)) ∧ (σ.1 218 7 = σ0.1 218 7 ∧ σ.1 218 9 = σ0.1 218 9 ∧ σ.1 218 14 = σ0.1 218 14 ∧ σ.1 218 15 = σ0.1 218 15 ∧ σ.1 218 20 = σ0.1 218 20 ∧ σ.1 218 22 = σ0.1 218 22 ∧ σ.1 218 23 = σ0.1 218 23 ∧ σ.1 218 24 = σ0.1 218 24 ∧ σ.1 218 25 = σ0.1 218 25)) hT (s_X12_takes hN (hR.tr hT) (hK) (by rw [hT.2 224 (by decide)]; exact hY) (by decide)) (by decide) (fun v164 σ165 hOσ165 hT hqv164 => ?_)
          have hqv164 : (TOK σ165.1 ∧ (σ0.1 218 11).toInt ≤ (σ165.1 218 11).toInt ∧ (v164 = 0 → σ165 = σ0 ∧ f_X12_is N 218 12 σ0 = some (0, σ0)) ∧ (¬ v164 = 0 → ((σ0.1 218 14 = 0 ∧ σ0.1 218 12 = 1) ∧ f_X12_is N 218 12 σ0 = some (1, σ0)) ∧ (σ0.1 218 11).toInt < (σ165.1 218 11).toInt)) ∧ (σ165.1 218 7 = σ0.1 218 7 ∧ σ165.1 218 9 = σ0.1 218 9 ∧ σ165.1 218 14 = σ0.1 218 14 ∧ σ165.1 218 15 = σ0.1 218 15 ∧ σ165.1 218 20 = σ0.1 218 20 ∧ σ165.1 218 22 = σ0.1 218 22 ∧ σ165.1 218 23 = σ0.1 218 23 ∧ σ165.1 218 24 = σ0.1 218 24 ∧ σ165.1 218 25 = σ0.1 218 25) := hqv164
          have hkv164 := hqv164
          have hqv164 := hqv164.1
          have r231_σ165 : σ165.1 231 = σ0.1 231 := hOσ165.2 231 (by decide)
          have hK : TOK σ165.1 := by first | exact hqv164.1 | exact TOK_p eσ165 (by decide) hK
          have hB : ZB σ165.1 := ZB.tr hOσ165 (by decide) hB
          have g7_σ165 : σ165.1 218 7 = (σ0.1 218 7) := hkv164.2.1
          have g9_σ165 : σ165.1 218 9 = (σ0.1 218 9) := hkv164.2.2.1
          have g14_σ165 : σ165.1 218 14 = (σ0.1 218 14) := hkv164.2.2.2.1
          have g15_σ165 : σ165.1 218 15 = (σ0.1 218 15) := hkv164.2.2.2.2.1
          have g20_σ165 : σ165.1 218 20 = (σ0.1 218 20) := hkv164.2.2.2.2.2.1
          have g22_σ165 : σ165.1 218 22 = (σ0.1 218 22) := hkv164.2.2.2.2.2.2.1
          have g23_σ165 : σ165.1 218 23 = (σ0.1 218 23) := hkv164.2.2.2.2.2.2.2.1
          have g24_σ165 : σ165.1 218 24 = (σ0.1 218 24) := hkv164.2.2.2.2.2.2.2.2.1
          have g25_σ165 : σ165.1 218 25 = (σ0.1 218 25) := hkv164.2.2.2.2.2.2.2.2.2
          have m77 := hqv164.2.1
          refine ok_if (fun hc166 => ?_) (fun hc166 => ?_)
          · have s77 := hqv164.2.2.1 hc166
            refine ok_gC rfl ?_
            refine ok_zbT (Q := fun V σ => (TOK σ.1 ∧ (σ165.1 218 11).toInt ≤ (σ.1 218 11).toInt ∧ (V = 0 → σ = σ165 ∧ f_X12_is N 218 13 σ165 = some (0, σ165)) ∧ (¬ V = 0 → ((σ165.1 218 14 = 0 ∧ σ165.1 218 12 = 1) ∧ f_X12_is N 218 13 σ165 = some (1, σ165)) ∧ (σ165.1 218 11).toInt < (σ.1 218 11).toInt)) ∧ (σ.1 218 7 = σ165.1 218 7 ∧ σ.1 218 9 = σ165.1 218 9 ∧ σ.1 218 14 = σ165.1 218 14 ∧ σ.1 218 15 = σ165.1 218 15 ∧ σ.1 218 20 = σ165.1 218 20 ∧ σ.1 218 22 = σ165.1 218 22 ∧ σ.1 218 23 = σ165.1 218 23 ∧ σ.1 218 24 = σ165.1 218 24 ∧ σ.1 218 25 = σ165.1 218 25)) hT (s_X12_takes hN (hR.tr hT) (hK) (by rw [hT.2 224 (by decide)]; exact hY) (by decide)) (by decide) (fun v167 σ168 hOσ168 hT hqv167 => ?_)
            have hqv167 : (TOK σ168.1 ∧ (σ165.1 218 11).toInt ≤ (σ168.1 218 11).toInt ∧ (v167 = 0 → σ168 = σ165 ∧ f_X12_is N 218 13 σ165 = some (0, σ165)) ∧ (¬ v167 = 0 → ((σ165.1 218 14 = 0 ∧ σ165.1 218 12 = 1) ∧ f_X12_is N 218 13 σ165 = some (1, σ165)) ∧ (σ165.1 218 11).toInt < (σ168.1 218 11).toInt)) ∧ (σ168.1 218 7 = σ165.1 218 7 ∧ σ168.1 218 9 = σ165.1 218 9 ∧ σ168.1 218 14 = σ165.1 218 14 ∧ σ168.1 218 15 = σ165.1 218 15 ∧ σ168.1 218 20 = σ165.1 218 20 ∧ σ168.1 218 22 = σ165.1 218 22 ∧ σ168.1 218 23 = σ165.1 218 23 ∧ σ168.1 218 24 = σ165.1 218 24 ∧ σ168.1 218 25 = σ165.1 218 25) := hqv167
            have hkv167 := hqv167
            have hqv167 := hqv167.1
            have r231_σ168 : σ168.1 231 = σ0.1 231 := (hOσ168.2 231 (by decide)).trans r231_σ165
            have hK : TOK σ168.1 := by first | exact hqv167.1 | exact TOK_p eσ168 (by decide) hK
            have hB : ZB σ168.1 := ZB.tr hOσ168 (by decide) hB
            try simp only [g7_σ165, g9_σ165, g14_σ165, g15_σ165, g20_σ165, g22_σ165, g23_σ165, g24_σ165, g25_σ165] at hqv167
            have g7_σ168 : σ168.1 218 7 = (σ0.1 218 7) := (hkv167.2.1).trans g7_σ165
            have g9_σ168 : σ168.1 218 9 = (σ0.1 218 9) := (hkv167.2.2.1).trans g9_σ165
            have g14_σ168 : σ168.1 218 14 = (σ0.1 218 14) := (hkv167.2.2.2.1).trans g14_σ165
            have g15_σ168 : σ168.1 218 15 = (σ0.1 218 15) := (hkv167.2.2.2.2.1).trans g15_σ165
            have g20_σ168 : σ168.1 218 20 = (σ0.1 218 20) := (hkv167.2.2.2.2.2.1).trans g20_σ165
            have g22_σ168 : σ168.1 218 22 = (σ0.1 218 22) := (hkv167.2.2.2.2.2.2.1).trans g22_σ165
            have g23_σ168 : σ168.1 218 23 = (σ0.1 218 23) := (hkv167.2.2.2.2.2.2.2.1).trans g23_σ165
            have g24_σ168 : σ168.1 218 24 = (σ0.1 218 24) := (hkv167.2.2.2.2.2.2.2.2.1).trans g24_σ165
            have g25_σ168 : σ168.1 218 25 = (σ0.1 218 25) := (hkv167.2.2.2.2.2.2.2.2.2).trans g25_σ165
            have k110 := hK.1
            have m110 := hqv167.2.1
            have r110 : σ168.1 231 = σ0.1 231 := r231_σ168
            refine ok_if (fun hc169 => ?_) (fun hc169 => ?_)
            · refine ok_gC rfl ?_
              refine ok_zbT (Q := fun V σ => (TOK σ.1 ∧ (σ168.1 218 10).toInt ≤ (σ.1 218 11).toInt) ∧ (σ.1 218 7 = σ168.1 218 7 ∧ σ.1 218 9 = σ168.1 218 9 ∧ σ.1 218 14 = σ168.1 218 14 ∧ σ.1 218 15 = σ168.1 218 15 ∧ σ.1 218 20 = σ168.1 218 20 ∧ σ.1 218 22 = σ168.1 218 22 ∧ σ.1 218 23 = σ168.1 218 23 ∧ σ.1 218 24 = σ168.1 218 24 ∧ σ.1 218 25 = σ168.1 218 25)) hT (s_X12_advance hN (hR.tr hT) (TOK_A hK) (by rw [hT.2 224 (by decide)]; exact hY)) (by decide) (fun v170 σ171 hOσ171 hT hqv170 => ?_)
              have hqv170 : (TOK σ171.1 ∧ (σ168.1 218 10).toInt ≤ (σ171.1 218 11).toInt) ∧ (σ171.1 218 7 = σ168.1 218 7 ∧ σ171.1 218 9 = σ168.1 218 9 ∧ σ171.1 218 14 = σ168.1 218 14 ∧ σ171.1 218 15 = σ168.1 218 15 ∧ σ171.1 218 20 = σ168.1 218 20 ∧ σ171.1 218 22 = σ168.1 218 22 ∧ σ171.1 218 23 = σ168.1 218 23 ∧ σ171.1 218 24 = σ168.1 218 24 ∧ σ171.1 218 25 = σ168.1 218 25) := hqv170
              have hkv170 := hqv170
              have hqv170 := hqv170.1
              have r231_σ171 : σ171.1 231 = σ0.1 231 := (hOσ171.2 231 (by decide)).trans r231_σ168
              have hK : TOK σ171.1 := by first | exact hqv170.1 | exact TOK_p eσ171 (by decide) hK
              have hB : ZB σ171.1 := ZB.tr hOσ171 (by decide) hB
              try simp only [g7_σ168, g9_σ168, g14_σ168, g15_σ168, g20_σ168, g22_σ168, g23_σ168, g24_σ168, g25_σ168] at hqv170
              have g7_σ171 : σ171.1 218 7 = (σ0.1 218 7) := (hkv170.2.1).trans g7_σ168
              have g9_σ171 : σ171.1 218 9 = (σ0.1 218 9) := (hkv170.2.2.1).trans g9_σ168
              have g14_σ171 : σ171.1 218 14 = (σ0.1 218 14) := (hkv170.2.2.2.1).trans g14_σ168
              have g15_σ171 : σ171.1 218 15 = (σ0.1 218 15) := (hkv170.2.2.2.2.1).trans g15_σ168
              have g20_σ171 : σ171.1 218 20 = (σ0.1 218 20) := (hkv170.2.2.2.2.2.1).trans g20_σ168
              have g22_σ171 : σ171.1 218 22 = (σ0.1 218 22) := (hkv170.2.2.2.2.2.2.1).trans g22_σ168
              have g23_σ171 : σ171.1 218 23 = (σ0.1 218 23) := (hkv170.2.2.2.2.2.2.2.1).trans g23_σ168
              have g24_σ171 : σ171.1 218 24 = (σ0.1 218 24) := (hkv170.2.2.2.2.2.2.2.2.1).trans g24_σ168
              have g25_σ171 : σ171.1 218 25 = (σ0.1 218 25) := (hkv170.2.2.2.2.2.2.2.2.2).trans g25_σ168
              have m124 := hqv170.2
              refine ok_gC rfl ?_
              refine ok_zbT (Q := fun V σ => (TOK σ.1 ∧ (σ171.1 218 11).toInt ≤ (σ.1 218 11).toInt ∧ (σ.1 218 14 = 0 → σ171.1 218 14 = 0) ∧ ZB σ.1) ∧ (σ.1 218 7 = σ171.1 218 7 ∧ σ.1 218 9 = σ171.1 218 9)) hT (s_X12_readsLet hN (hR.tr hT) (hK) (by rw [hT.2 224 (by decide)]; exact hY) (hB) (by (first | rw [r231_σ171] | skip); exact hF)) (by decide) (fun v172 σ173 hOσ173 hT hqv172 => ?_)
              have hqv172 : (TOK σ173.1 ∧ (σ171.1 218 11).toInt ≤ (σ173.1 218 11).toInt ∧ (σ173.1 218 14 = 0 → σ171.1 218 14 = 0) ∧ ZB σ173.1) ∧ (σ173.1 218 7 = σ171.1 218 7 ∧ σ173.1 218 9 = σ171.1 218 9) := hqv172
              have hkv172 := hqv172
              have hqv172 := hqv172.1
              have r231_σ173 : σ173.1 231 = σ0.1 231 := (hOσ173.2 231 (by decide)).trans r231_σ171
              have hK : TOK σ173.1 := by first | exact hqv172.1 | exact TOK_p eσ173 (by decide) hK
              have hB : ZB σ173.1 := hqv172.2.2.2
              try simp only [g7_σ171, g9_σ171, g14_σ171, g15_σ171, g20_σ171, g22_σ171, g23_σ171, g24_σ171, g25_σ171] at hqv172
              have g7_σ173 : σ173.1 218 7 = (σ0.1 218 7) := (hkv172.2.1).trans g7_σ171
              have g9_σ173 : σ173.1 218 9 = (σ0.1 218 9) := (hkv172.2.2).trans g9_σ171
              have m128 := hqv172.2.1
              exact ok_some ⟨hT, (show (TOK σ173.1 ∧ (σ0.1 218 11).toInt ≤ (σ173.1 218 11).toInt ∧ FW (σ173.1 231) ∧ σ173.1 231 1 = σ0.1 231 1 ∧ ZB σ173.1) ∧ (σ173.1 218 7 = σ0.1 218 7 ∧ σ173.1 218 9 = σ0.1 218 9) from ⟨by first | exact ⟨hK, by (try simp only [g7_σ173, g9_σ173]); omega, by (first | rw [r231_σ173] | skip); exact hF, congrFun r231_σ173 1, hB⟩ | exact ⟨hK, by (try simp only [g7_σ173, g9_σ173]); omega, k102.1, q102, hB⟩ | exact ⟨hK, by (try simp only [g7_σ173, g9_σ173]); omega, f117, q117, hB⟩, g7_σ173, g9_σ173⟩)⟩
            · have t113 := (hqv167.2.2.2 hc169).1.2
              refine ok_gC rfl ?_
              refine ok_zbT (Q := fun V σ => (TOK σ.1 ∧ (σ168.1 218 11).toInt ≤ (σ.1 218 11).toInt ∧ (σ.1 218 14 = 0 → σ168.1 218 14 = 0) ∧ FW (σ.1 231) ∧ σ.1 231 1 = σ168.1 231 1) ∧ (σ.1 218 7 = σ168.1 218 7 ∧ σ.1 218 9 = σ168.1 218 9 ∧ σ.1 218 20 = σ168.1 218 20 ∧ σ.1 218 22 = σ168.1 218 22 ∧ σ.1 218 23 = σ168.1 218 23 ∧ σ.1 218 24 = σ168.1 218 24 ∧ σ.1 218 25 = σ168.1 218 25)) hT (s_X12_readsEdge hN (hR.tr hT) (hK) (by rw [hT.2 224 (by decide)]; exact hY) (by (first | rw [r231_σ168] | skip); exact hF) (by (first | rw [r231_σ168] | skip); first | exact k57 | exact (is_ne f42 t113 s77.1).elim | exact absurd y69 n62 | exact absurd y69 n32)) (by decide) (fun v174 σ175 hOσ175 hT hqv174 => ?_)
              have hqv174 : (TOK σ175.1 ∧ (σ168.1 218 11).toInt ≤ (σ175.1 218 11).toInt ∧ (σ175.1 218 14 = 0 → σ168.1 218 14 = 0) ∧ FW (σ175.1 231) ∧ σ175.1 231 1 = σ168.1 231 1) ∧ (σ175.1 218 7 = σ168.1 218 7 ∧ σ175.1 218 9 = σ168.1 218 9 ∧ σ175.1 218 20 = σ168.1 218 20 ∧ σ175.1 218 22 = σ168.1 218 22 ∧ σ175.1 218 23 = σ168.1 218 23 ∧ σ175.1 218 24 = σ168.1 218 24 ∧ σ175.1 218 25 = σ168.1 218 25) := hqv174
              have hkv174 := hqv174
              have hqv174 := hqv174.1
              have hK : TOK σ175.1 := by first | exact hqv174.1 | exact TOK_p eσ175 (by decide) hK
              have hB : ZB σ175.1 := ZB.tr hOσ175 (by decide) hB
              try simp only [g7_σ168, g9_σ168, g14_σ168, g15_σ168, g20_σ168, g22_σ168, g23_σ168, g24_σ168, g25_σ168] at hqv174
              have g7_σ175 : σ175.1 218 7 = (σ0.1 218 7) := (hkv174.2.1).trans g7_σ168
              have g9_σ175 : σ175.1 218 9 = (σ0.1 218 9) := (hkv174.2.2.1).trans g9_σ168
              have g20_σ175 : σ175.1 218 20 = (σ0.1 218 20) := (hkv174.2.2.2.1).trans g20_σ168
              have g22_σ175 : σ175.1 218 22 = (σ0.1 218 22) := (hkv174.2.2.2.2.1).trans g22_σ168
              have g23_σ175 : σ175.1 218 23 = (σ0.1 218 23) := (hkv174.2.2.2.2.2.1).trans g23_σ168
              have g24_σ175 : σ175.1 218 24 = (σ0.1 218 24) := (hkv174.2.2.2.2.2.2.1).trans g24_σ168
              have g25_σ175 : σ175.1 218 25 = (σ0.1 218 25) := (hkv174.2.2.2.2.2.2.2).trans g25_σ168
              have m117 := hqv174.2.1
              have f117 := hqv174.2.2.2.1
              have q117 : σ175.1 231 1 = σ0.1 231 1 := hqv174.2.2.2.2.trans (congrFun r110 1)
              exact ok_some ⟨hT, (show (TOK σ175.1 ∧ (σ0.1 218 11).toInt ≤ (σ175.1 218 11).toInt ∧ FW (σ175.1 231) ∧ σ175.1 231 1 = σ0.1 231 1 ∧ ZB σ175.1) ∧ (σ175.1 218 7 = σ0.1 218 7 ∧ σ175.1 218 9 = σ0.1 218 9) from ⟨by first | exact ⟨hK, by (try simp only [g7_σ175, g9_σ175, g20_σ175, g22_σ175, g23_σ175, g24_σ175, g25_σ175]); omega, by (first | rw [rfl] | skip); exact hF, congrFun rfl 1, hB⟩ | exact ⟨hK, by (try simp only [g7_σ175, g9_σ175, g20_σ175, g22_σ175, g23_σ175, g24_σ175, g25_σ175]); omega, k102.1, q102, hB⟩ | exact ⟨hK, by (try simp only [g7_σ175, g9_σ175, g20_σ175, g22_σ175, g23_σ175, g24_σ175, g25_σ175]); omega, f117, q117, hB⟩, g7_σ175, g9_σ175⟩)⟩
          · refine ok_gC rfl ?_
            refine ok_zbT (Q := fun V σ => (TOK σ.1 ∧ (σ165.1 218 11).toInt ≤ (σ.1 218 11).toInt ∧ (σ.1 218 14 = 0 → σ165.1 218 14 = 0) ∧ 0 ≤ V.toInt ∧ V.toInt ≤ 9) ∧ (σ.1 218 7 = σ165.1 218 7 ∧ σ.1 218 9 = σ165.1 218 9 ∧ σ.1 218 20 = σ165.1 218 20 ∧ σ.1 218 22 = σ165.1 218 22 ∧ σ.1 218 23 = σ165.1 218 23 ∧ σ.1 218 24 = σ165.1 218 24 ∧ σ.1 218 25 = σ165.1 218 25)) hT (s_X12_readsName hN (hR.tr hT) (hK) (by rw [hT.2 224 (by decide)]; exact hY) (by (first | rw [r231_σ165] | skip); exact hF)) (by decide) (fun v176 σ177 hOσ177 hT hqv176 => ?_)
            have hqv176 : (TOK σ177.1 ∧ (σ165.1 218 11).toInt ≤ (σ177.1 218 11).toInt ∧ (σ177.1 218 14 = 0 → σ165.1 218 14 = 0) ∧ 0 ≤ v176.toInt ∧ v176.toInt ≤ 9) ∧ (σ177.1 218 7 = σ165.1 218 7 ∧ σ177.1 218 9 = σ165.1 218 9 ∧ σ177.1 218 20 = σ165.1 218 20 ∧ σ177.1 218 22 = σ165.1 218 22 ∧ σ177.1 218 23 = σ165.1 218 23 ∧ σ177.1 218 24 = σ165.1 218 24 ∧ σ177.1 218 25 = σ165.1 218 25) := hqv176
            have hkv176 := hqv176
            have hqv176 := hqv176.1
            have r231_σ177 : σ177.1 231 = σ0.1 231 := (hOσ177.2 231 (by decide)).trans r231_σ165
            have hK : TOK σ177.1 := by first | exact hqv176.1 | exact TOK_p eσ177 (by decide) hK
            have hB : ZB σ177.1 := ZB.tr hOσ177 (by decide) hB
            try simp only [g7_σ165, g9_σ165, g14_σ165, g15_σ165, g20_σ165, g22_σ165, g23_σ165, g24_σ165, g25_σ165] at hqv176
            have g7_σ177 : σ177.1 218 7 = (σ0.1 218 7) := (hkv176.2.1).trans g7_σ165
            have g9_σ177 : σ177.1 218 9 = (σ0.1 218 9) := (hkv176.2.2.1).trans g9_σ165
            have g20_σ177 : σ177.1 218 20 = (σ0.1 218 20) := (hkv176.2.2.2.1).trans g20_σ165
            have g22_σ177 : σ177.1 218 22 = (σ0.1 218 22) := (hkv176.2.2.2.2.1).trans g22_σ165
            have g23_σ177 : σ177.1 218 23 = (σ0.1 218 23) := (hkv176.2.2.2.2.2.1).trans g23_σ165
            have g24_σ177 : σ177.1 218 24 = (σ0.1 218 24) := (hkv176.2.2.2.2.2.2.1).trans g24_σ165
            have g25_σ177 : σ177.1 218 25 = (σ0.1 218 25) := (hkv176.2.2.2.2.2.2.2).trans g25_σ165
            have m84 := hqv176.2.1
            have b84 := hqv176.2.2.2
            have i84 := ti3 (x := v176) (by omega) (by omega)
            refine ok_gR (v := 231) hT rfl (hR 218 26 rfl) ?_
            refine ok_gC rfl ?_
            refine ok_zbT (Q := fun V σ => (TOK σ.1 ∧ (σ177.1 218 11).toInt ≤ (σ.1 218 11).toInt ∧ (σ.1 218 14 = 0 → (σ177.1 218 14 = 0 ∧ (σ177.1 218 11).toInt < (σ.1 218 11).toInt) ∧ (0 : Int32).toInt ≤ V.toInt ∧ V.toInt ≤ (99 : Int32).toInt) ∧ (¬ σ.1 218 14 = 0 → V = 0)) ∧ (σ.1 218 7 = σ177.1 218 7 ∧ σ.1 218 9 = σ177.1 218 9 ∧ σ.1 218 20 = σ177.1 218 20 ∧ σ.1 218 22 = σ177.1 218 22 ∧ σ.1 218 23 = σ177.1 218 23 ∧ σ.1 218 24 = σ177.1 218 24 ∧ σ.1 218 25 = σ177.1 218 25)) hT (s_X12_number hN (hR.tr hT) (hK) (by rw [hT.2 224 (by decide)]; exact hY)) (by decide) (fun v179 σ180 hOσ180 hT hqv179 => ?_)
            have hqv179 : (TOK σ180.1 ∧ (σ177.1 218 11).toInt ≤ (σ180.1 218 11).toInt ∧ (σ180.1 218 14 = 0 → (σ177.1 218 14 = 0 ∧ (σ177.1 218 11).toInt < (σ180.1 218 11).toInt) ∧ (0 : Int32).toInt ≤ v179.toInt ∧ v179.toInt ≤ (99 : Int32).toInt) ∧ (¬ σ180.1 218 14 = 0 → v179 = 0)) ∧ (σ180.1 218 7 = σ177.1 218 7 ∧ σ180.1 218 9 = σ177.1 218 9 ∧ σ180.1 218 20 = σ177.1 218 20 ∧ σ180.1 218 22 = σ177.1 218 22 ∧ σ180.1 218 23 = σ177.1 218 23 ∧ σ180.1 218 24 = σ177.1 218 24 ∧ σ180.1 218 25 = σ177.1 218 25) := hqv179
            have hkv179 := hqv179
            have hqv179 := hqv179.1
            have r231_σ180 : σ180.1 231 = σ0.1 231 := (hOσ180.2 231 (by decide)).trans r231_σ177
            have hK : TOK σ180.1 := by first | exact hqv179.1 | exact TOK_p eσ180 (by decide) hK
            have hB : ZB σ180.1 := ZB.tr hOσ180 (by decide) hB
            try simp only [g7_σ177, g9_σ177, g20_σ177, g22_σ177, g23_σ177, g24_σ177, g25_σ177] at hqv179
            have g7_σ180 : σ180.1 218 7 = (σ0.1 218 7) := (hkv179.2.1).trans g7_σ177
            have g9_σ180 : σ180.1 218 9 = (σ0.1 218 9) := (hkv179.2.2.1).trans g9_σ177
            have g20_σ180 : σ180.1 218 20 = (σ0.1 218 20) := (hkv179.2.2.2.1).trans g20_σ177
            have g22_σ180 : σ180.1 218 22 = (σ0.1 218 22) := (hkv179.2.2.2.2.1).trans g22_σ177
            have g23_σ180 : σ180.1 218 23 = (σ0.1 218 23) := (hkv179.2.2.2.2.2.1).trans g23_σ177
            have g24_σ180 : σ180.1 218 24 = (σ0.1 218 24) := (hkv179.2.2.2.2.2.2.1).trans g24_σ177
            have g25_σ180 : σ180.1 218 25 = (σ0.1 218 25) := (hkv179.2.2.2.2.2.2.2).trans g25_σ177
            have m99 := hqv179.2.1
            refine ok_s14 hT rfl (by decide) (by rw [i84.1]; omega) (by rw [i84.1]; omega) (fun σ181 eσ181 hOσ181 hT => ?_)
            have k102 := FW_w eσ181 (by rw [i84.2]; omega) (by rw [i84.2]; omega) (by (first | rw [r231_σ180] | skip); exact hF)
            have q102 : σ181.1 231 1 = σ0.1 231 1 := k102.2.trans (congrFun r231_σ180 1)
            have hK : TOK σ181.1 := TOK_tr hOσ181 (by decide) (by decide) hK
            have hB : ZB σ181.1 := ZB.tr hOσ181 (by decide) hB
            have g7_σ181 : σ181.1 218 7 = (σ0.1 218 7) := (congrFun (hOσ181.2 218 (by decide)) 7).trans g7_σ180
            have g9_σ181 : σ181.1 218 9 = (σ0.1 218 9) := (congrFun (hOσ181.2 218 (by decide)) 9).trans g9_σ180
            have g10_σ181 : σ181.1 218 10 = (σ180.1 218 10) := congrFun (hOσ181.2 218 (by decide)) 10
            have g11_σ181 : σ181.1 218 11 = (σ180.1 218 11) := congrFun (hOσ181.2 218 (by decide)) 11
            have g12_σ181 : σ181.1 218 12 = (σ180.1 218 12) := congrFun (hOσ181.2 218 (by decide)) 12
            have g13_σ181 : σ181.1 218 13 = (σ180.1 218 13) := congrFun (hOσ181.2 218 (by decide)) 13
            have g14_σ181 : σ181.1 218 14 = (σ180.1 218 14) := congrFun (hOσ181.2 218 (by decide)) 14
            have g15_σ181 : σ181.1 218 15 = (σ180.1 218 15) := congrFun (hOσ181.2 218 (by decide)) 15
            have g20_σ181 : σ181.1 218 20 = (σ0.1 218 20) := (congrFun (hOσ181.2 218 (by decide)) 20).trans g20_σ180
            have g22_σ181 : σ181.1 218 22 = (σ0.1 218 22) := (congrFun (hOσ181.2 218 (by decide)) 22).trans g22_σ180
            have g23_σ181 : σ181.1 218 23 = (σ0.1 218 23) := (congrFun (hOσ181.2 218 (by decide)) 23).trans g23_σ180
            have g24_σ181 : σ181.1 218 24 = (σ0.1 218 24) := (congrFun (hOσ181.2 218 (by decide)) 24).trans g24_σ180
            have g25_σ181 : σ181.1 218 25 = (σ0.1 218 25) := (congrFun (hOσ181.2 218 (by decide)) 25).trans g25_σ180
            exact ok_some ⟨hT, (show (TOK σ181.1 ∧ (σ0.1 218 11).toInt ≤ (σ181.1 218 11).toInt ∧ FW (σ181.1 231) ∧ σ181.1 231 1 = σ0.1 231 1 ∧ ZB σ181.1) ∧ (σ181.1 218 7 = σ0.1 218 7 ∧ σ181.1 218 9 = σ0.1 218 9) from ⟨by first | exact ⟨hK, by (try simp only [g7_σ181, g9_σ181, g10_σ181, g11_σ181, g12_σ181, g13_σ181, g14_σ181, g15_σ181, g20_σ181, g22_σ181, g23_σ181, g24_σ181, g25_σ181]); omega, by (first | rw [rfl] | skip); exact hF, congrFun rfl 1, hB⟩ | exact ⟨hK, by (try simp only [g7_σ181, g9_σ181, g10_σ181, g11_σ181, g12_σ181, g13_σ181, g14_σ181, g15_σ181, g20_σ181, g22_σ181, g23_σ181, g24_σ181, g25_σ181]); omega, k102.1, q102, hB⟩ | exact ⟨hK, by (try simp only [g7_σ181, g9_σ181, g10_σ181, g11_σ181, g12_σ181, g13_σ181, g14_σ181, g15_σ181, g20_σ181, g22_σ181, g23_σ181, g24_σ181, g25_σ181]); omega, f117, q117, hB⟩, g7_σ181, g9_σ181⟩)⟩
      · have qhc160 := hqv158.2 hc160
        refine ok_gR (v := 231) hT rfl (hR 218 26 rfl) ?_
        refine ok_aIn rfl (by (skip); first | omega | decide | (simp only [Int32.le_iff_toInt_le, Int32.lt_iff_toInt_lt, ti_add, ti_sub, ti_mul, Int32.reduceToInt] at *; omega)) (by (skip); first | omega | decide | (simp only [Int32.le_iff_toInt_le, Int32.lt_iff_toInt_lt, ti_add, ti_sub, ti_mul, Int32.reduceToInt] at *; omega)) (fun v183 ev183 => ?_)
        have ev50 : v183 = σ0.1 231 2 := by rw [ev183]; (first | rw [rfl] | skip); rfl
        refine ok_gR (v := 231) hT rfl (hR 218 26 rfl) ?_
        refine ok_aIn rfl (by (skip); first | omega | decide | (simp only [Int32.le_iff_toInt_le, Int32.lt_iff_toInt_lt, ti_add, ti_sub, ti_mul, Int32.reduceToInt] at *; omega)) (by (skip); first | omega | decide | (simp only [Int32.le_iff_toInt_le, Int32.lt_iff_toInt_lt, ti_add, ti_sub, ti_mul, Int32.reduceToInt] at *; omega)) (fun v185 ev185 => ?_)
        have ev56 : v185 = σ0.1 231 0 := by rw [ev185]; (first | rw [rfl] | skip); rfl
        refine ok_if (fun hc186 => ?_) (fun hc186 => ?_)
        · refine ok_gC rfl ?_
          refine ok_zbT (Q := fun V σ => (TOK σ.1 ∧ ¬ σ.1 218 14 = 0) ∧ (σ.1 218 7 = σ0.1 218 7 ∧ σ.1 218 9 = σ0.1 218 9 ∧ σ.1 218 10 = σ0.1 218 10 ∧ σ.1 218 11 = σ0.1 218 11 ∧ σ.1 218 12 = σ0.1 218 12 ∧ σ.1 218 13 = σ0.1 218 13 ∧ σ.1 218 20 = σ0.1 218 20 ∧ σ.1 218 22 = σ0.1 218 22 ∧ σ.1 218 23 = σ0.1 218 23 ∧ σ.1 218 24 = σ0.1 218 24 ∧ σ.1 218 25 = σ0.1 218 25)) hT (s_X12_errs hN (hR.tr hT) (hK) (by rw [hT.2 224 (by decide)]; exact hY) (by decide)) (by decide) (fun v187 σ188 hOσ188 hT hqv187 => ?_)
          have hqv187 : (TOK σ188.1 ∧ ¬ σ188.1 218 14 = 0) ∧ (σ188.1 218 7 = σ0.1 218 7 ∧ σ188.1 218 9 = σ0.1 218 9 ∧ σ188.1 218 10 = σ0.1 218 10 ∧ σ188.1 218 11 = σ0.1 218 11 ∧ σ188.1 218 12 = σ0.1 218 12 ∧ σ188.1 218 13 = σ0.1 218 13 ∧ σ188.1 218 20 = σ0.1 218 20 ∧ σ188.1 218 22 = σ0.1 218 22 ∧ σ188.1 218 23 = σ0.1 218 23 ∧ σ188.1 218 24 = σ0.1 218 24 ∧ σ188.1 218 25 = σ0.1 218 25) := hqv187
          have hkv187 := hqv187
          have hqv187 := hqv187.1
          have r231_σ188 : σ188.1 231 = σ0.1 231 := hOσ188.2 231 (by decide)
          have hK : TOK σ188.1 := by first | exact hqv187.1 | exact TOK_p eσ188 (by decide) hK
          have hB : ZB σ188.1 := ZB.tr hOσ188 (by decide) hB
          have g7_σ188 : σ188.1 218 7 = (σ0.1 218 7) := hkv187.2.1
          have g9_σ188 : σ188.1 218 9 = (σ0.1 218 9) := hkv187.2.2.1
          have g10_σ188 : σ188.1 218 10 = (σ0.1 218 10) := hkv187.2.2.2.1
          have g11_σ188 : σ188.1 218 11 = (σ0.1 218 11) := hkv187.2.2.2.2.1
          have g12_σ188 : σ188.1 218 12 = (σ0.1 218 12) := hkv187.2.2.2.2.2.1
          have g13_σ188 : σ188.1 218 13 = (σ0.1 218 13) := hkv187.2.2.2.2.2.2.1
          have g20_σ188 : σ188.1 218 20 = (σ0.1 218 20) := hkv187.2.2.2.2.2.2.2.1
          have g22_σ188 : σ188.1 218 22 = (σ0.1 218 22) := hkv187.2.2.2.2.2.2.2.2.1
          have g23_σ188 : σ188.1 218 23 = (σ0.1 218 23) := hkv187.2.2.2.2.2.2.2.2.2.1
          have g24_σ188 : σ188.1 218 24 = (σ0.1 218 24) := hkv187.2.2.2.2.2.2.2.2.2.2.1
          have g25_σ188 : σ188.1 218 25 = (σ0.1 218 25) := hkv187.2.2.2.2.2.2.2.2.2.2.2
          have n62 := hqv187.2
          rw [J_X12_readsLine_65.eq_1]
          refine ok_gC rfl ?_
          refine ok_zbX (Q := fun V => (V = 0 → ¬ σ188.1 218 14 = 0) ∧ (¬ V = 0 → σ188.1 218 14 = 0)) (x_X12_good) (fun v189 hqv189 => ?_)
          have hqv189 : (v189 = 0 → ¬ σ188.1 218 14 = 0) ∧ (¬ v189 = 0 → σ188.1 218 14 = 0) := hqv189
          try simp only [g7_σ188, g9_σ188, g10_σ188, g11_σ188, g12_σ188, g13_σ188, g20_σ188, g22_σ188, g23_σ188, g24_σ188, g25_σ188, hT.2 224 (by decide)] at hqv189
          refine ok_if (fun hc191 => ?_) (fun hc191 => ?_)
          · have qhc191 := hqv189.1 hc191
            exact ok_some ⟨hT, (show (TOK σ188.1 ∧ (σ0.1 218 11).toInt ≤ (σ188.1 218 11).toInt ∧ FW (σ188.1 231) ∧ σ188.1 231 1 = σ0.1 231 1 ∧ ZB σ188.1) ∧ (σ188.1 218 7 = σ0.1 218 7 ∧ σ188.1 218 9 = σ0.1 218 9) from ⟨by first | exact ⟨hK, by (try simp only [g7_σ188, g9_σ188, g10_σ188, g11_σ188, g12_σ188, g13_σ188, g20_σ188, g22_σ188, g23_σ188, g24_σ188, g25_σ188]); omega, by (first | rw [r231_σ188] | skip); exact hF, congrFun r231_σ188 1, hB⟩ | exact ⟨hK, by (try simp only [g7_σ188, g9_σ188, g10_σ188, g11_σ188, g12_σ188, g13_σ188, g20_σ188, g22_σ188, g23_σ188, g24_σ188, g25_σ188]); omega, k102.1, q102, hB⟩ | exact ⟨hK, by (try simp only [g7_σ188, g9_σ188, g10_σ188, g11_σ188, g12_σ188, g13_σ188, g20_σ188, g22_σ188, g23_σ188, g24_σ188, g25_σ188]); omega, f117, q117, hB⟩, g7_σ188, g9_σ188⟩)⟩
          · have qhc191 := hqv189.2 hc191
            have y69 := qhc191
            refine ok_gC rfl ?_
            refine ok_zbT (Q := fun V σ => (TOK σ.1 ∧ (σ188.1 218 11).toInt ≤ (σ.1 218 11).toInt ∧ (V = 0 → σ = σ188 ∧ f_X12_is N 218 12 σ188 = some (0, σ188)) ∧ (¬ V = 0 → ((σ188.1 218 14 = 0 ∧ σ188.1 218 12 = 1) ∧ f_X12_is N 218 12 σ188 = some (1, σ188)) ∧ (σ188.1 218 11).toInt < (σ.1 218 11).toInt)) ∧ (σ.1 218 7 = σ188.1 218 7 ∧ σ.1 218 9 = σ188.1 218 9 ∧ σ.1 218 14 = σ188.1 218 14 ∧ σ.1 218 15 = σ188.1 218 15 ∧ σ.1 218 20 = σ188.1 218 20 ∧ σ.1 218 22 = σ188.1 218 22 ∧ σ.1 218 23 = σ188.1 218 23 ∧ σ.1 218 24 = σ188.1 218 24 ∧ σ.1 218 25 = σ188.1 218 25)) hT (s_X12_takes hN (hR.tr hT) (hK) (by rw [hT.2 224 (by decide)]; exact hY) (by decide)) (by decide) (fun v192 σ193 hOσ193 hT hqv192 => ?_)
            have hqv192 : (TOK σ193.1 ∧ (σ188.1 218 11).toInt ≤ (σ193.1 218 11).toInt ∧ (v192 = 0 → σ193 = σ188 ∧ f_X12_is N 218 12 σ188 = some (0, σ188)) ∧ (¬ v192 = 0 → ((σ188.1 218 14 = 0 ∧ σ188.1 218 12 = 1) ∧ f_X12_is N 218 12 σ188 = some (1, σ188)) ∧ (σ188.1 218 11).toInt < (σ193.1 218 11).toInt)) ∧ (σ193.1 218 7 = σ188.1 218 7 ∧ σ193.1 218 9 = σ188.1 218 9 ∧ σ193.1 218 14 = σ188.1 218 14 ∧ σ193.1 218 15 = σ188.1 218 15 ∧ σ193.1 218 20 = σ188.1 218 20 ∧ σ193.1 218 22 = σ188.1 218 22 ∧ σ193.1 218 23 = σ188.1 218 23 ∧ σ193.1 218 24 = σ188.1 218 24 ∧ σ193.1 218 25 = σ188.1 218 25) := hqv192
            have hkv192 := hqv192
            have hqv192 := hqv192.1
            have r231_σ193 : σ193.1 231 = σ0.1 231 := (hOσ193.2 231 (by decide)).trans r231_σ188
            have hK : TOK σ193.1 := by first | exact hqv192.1 | exact TOK_p eσ193 (by decide) hK
            have hB : ZB σ193.1 := ZB.tr hOσ193 (by decide) hB
            try simp only [g7_σ188, g9_σ188, g10_σ188, g11_σ188, g12_σ188, g13_σ188, g20_σ188, g22_σ188, g23_σ188, g24_σ188, g25_σ188] at hqv192
            have g7_σ193 : σ193.1 218 7 = (σ0.1 218 7) := (hkv192.2.1).trans g7_σ188
            have g9_σ193 : σ193.1 218 9 = (σ0.1 218 9) := (hkv192.2.2.1).trans g9_σ188
            have g14_σ193 : σ193.1 218 14 = (σ188.1 218 14) := hkv192.2.2.2.1
            have g15_σ193 : σ193.1 218 15 = (σ188.1 218 15) := hkv192.2.2.2.2.1
            have g20_σ193 : σ193.1 218 20 = (σ0.1 218 20) := (hkv192.2.2.2.2.2.1).trans g20_σ188
            have g22_σ193 : σ193.1 218 22 = (σ0.1 218 22) := (hkv192.2.2.2.2.2.2.1).trans g22_σ188
            have g23_σ193 : σ193.1 218 23 = (σ0.1 218 23) := (hkv192.2.2.2.2.2.2.2.1).trans g23_σ188
            have g24_σ193 : σ193.1 218 24 = (σ0.1 218 24) := (hkv192.2.2.2.2.2.2.2.2.1).trans g24_σ188
            have g25_σ193 : σ193.1 218 25 = (σ0.1 218 25) := (hkv192.2.2.2.2.2.2.2.2.2).trans g25_σ188
            have m77 := hqv192.2.1
            refine ok_if (fun hc194 => ?_) (fun hc194 => ?_)
            · have s77 := hqv192.2.2.1 hc194
              refine ok_gC rfl ?_
              refine ok_zbT (Q := fun V σ => (TOK σ.1 ∧ (σ193.1 218 11).toInt ≤ (σ.1 218 11).toInt ∧ (V = 0 → σ = σ193 ∧ f_X12_is N 218 13 σ193 = some (0, σ193)) ∧ (¬ V = 0 → ((σ193.1 218 14 = 0 ∧ σ193.1 218 12 = 1) ∧ f_X12_is N 218 13 σ193 = some (1, σ193)) ∧ (σ193.1 218 11).toInt < (σ.1 218 11).toInt)) ∧ (σ.1 218 7 = σ193.1 218 7 ∧ σ.1 218 9 = σ193.1 218 9 ∧ σ.1 218 14 = σ193.1 218 14 ∧ σ.1 218 15 = σ193.1 218 15 ∧ σ.1 218 20 = σ193.1 218 20 ∧ σ.1 218 22 = σ193.1 218 22 ∧ σ.1 218 23 = σ193.1 218 23 ∧ σ.1 218 24 = σ193.1 218 24 ∧ σ.1 218 25 = σ193.1 218 25)) hT (s_X12_takes hN (hR.tr hT) (hK) (by rw [hT.2 224 (by decide)]; exact hY) (by decide)) (by decide) (fun v195 σ196 hOσ196 hT hqv195 => ?_)
              have hqv195 : (TOK σ196.1 ∧ (σ193.1 218 11).toInt ≤ (σ196.1 218 11).toInt ∧ (v195 = 0 → σ196 = σ193 ∧ f_X12_is N 218 13 σ193 = some (0, σ193)) ∧ (¬ v195 = 0 → ((σ193.1 218 14 = 0 ∧ σ193.1 218 12 = 1) ∧ f_X12_is N 218 13 σ193 = some (1, σ193)) ∧ (σ193.1 218 11).toInt < (σ196.1 218 11).toInt)) ∧ (σ196.1 218 7 = σ193.1 218 7 ∧ σ196.1 218 9 = σ193.1 218 9 ∧ σ196.1 218 14 = σ193.1 218 14 ∧ σ196.1 218 15 = σ193.1 218 15 ∧ σ196.1 218 20 = σ193.1 218 20 ∧ σ196.1 218 22 = σ193.1 218 22 ∧ σ196.1 218 23 = σ193.1 218 23 ∧ σ196.1 218 24 = σ193.1 218 24 ∧ σ196.1 218 25 = σ193.1 218 25) := hqv195
              have hkv195 := hqv195
              have hqv195 := hqv195.1
              have r231_σ196 : σ196.1 231 = σ0.1 231 := (hOσ196.2 231 (by decide)).trans r231_σ193
              have hK : TOK σ196.1 := by first | exact hqv195.1 | exact TOK_p eσ196 (by decide) hK
              have hB : ZB σ196.1 := ZB.tr hOσ196 (by decide) hB
              try simp only [g7_σ193, g9_σ193, g14_σ193, g15_σ193, g20_σ193, g22_σ193, g23_σ193, g24_σ193, g25_σ193] at hqv195
              have g7_σ196 : σ196.1 218 7 = (σ0.1 218 7) := (hkv195.2.1).trans g7_σ193
              have g9_σ196 : σ196.1 218 9 = (σ0.1 218 9) := (hkv195.2.2.1).trans g9_σ193
              have g14_σ196 : σ196.1 218 14 = (σ188.1 218 14) := (hkv195.2.2.2.1).trans g14_σ193
              have g15_σ196 : σ196.1 218 15 = (σ188.1 218 15) := (hkv195.2.2.2.2.1).trans g15_σ193
              have g20_σ196 : σ196.1 218 20 = (σ0.1 218 20) := (hkv195.2.2.2.2.2.1).trans g20_σ193
              have g22_σ196 : σ196.1 218 22 = (σ0.1 218 22) := (hkv195.2.2.2.2.2.2.1).trans g22_σ193
              have g23_σ196 : σ196.1 218 23 = (σ0.1 218 23) := (hkv195.2.2.2.2.2.2.2.1).trans g23_σ193
              have g24_σ196 : σ196.1 218 24 = (σ0.1 218 24) := (hkv195.2.2.2.2.2.2.2.2.1).trans g24_σ193
              have g25_σ196 : σ196.1 218 25 = (σ0.1 218 25) := (hkv195.2.2.2.2.2.2.2.2.2).trans g25_σ193
              have k110 := hK.1
              have m110 := hqv195.2.1
              have r110 : σ196.1 231 = σ0.1 231 := r231_σ196
              refine ok_if (fun hc197 => ?_) (fun hc197 => ?_)
              · refine ok_gC rfl ?_
                refine ok_zbT (Q := fun V σ => (TOK σ.1 ∧ (σ196.1 218 10).toInt ≤ (σ.1 218 11).toInt) ∧ (σ.1 218 7 = σ196.1 218 7 ∧ σ.1 218 9 = σ196.1 218 9 ∧ σ.1 218 14 = σ196.1 218 14 ∧ σ.1 218 15 = σ196.1 218 15 ∧ σ.1 218 20 = σ196.1 218 20 ∧ σ.1 218 22 = σ196.1 218 22 ∧ σ.1 218 23 = σ196.1 218 23 ∧ σ.1 218 24 = σ196.1 218 24 ∧ σ.1 218 25 = σ196.1 218 25)) hT (s_X12_advance hN (hR.tr hT) (TOK_A hK) (by rw [hT.2 224 (by decide)]; exact hY)) (by decide) (fun v198 σ199 hOσ199 hT hqv198 => ?_)
                have hqv198 : (TOK σ199.1 ∧ (σ196.1 218 10).toInt ≤ (σ199.1 218 11).toInt) ∧ (σ199.1 218 7 = σ196.1 218 7 ∧ σ199.1 218 9 = σ196.1 218 9 ∧ σ199.1 218 14 = σ196.1 218 14 ∧ σ199.1 218 15 = σ196.1 218 15 ∧ σ199.1 218 20 = σ196.1 218 20 ∧ σ199.1 218 22 = σ196.1 218 22 ∧ σ199.1 218 23 = σ196.1 218 23 ∧ σ199.1 218 24 = σ196.1 218 24 ∧ σ199.1 218 25 = σ196.1 218 25) := hqv198
                have hkv198 := hqv198
                have hqv198 := hqv198.1
                have r231_σ199 : σ199.1 231 = σ0.1 231 := (hOσ199.2 231 (by decide)).trans r231_σ196
                have hK : TOK σ199.1 := by first | exact hqv198.1 | exact TOK_p eσ199 (by decide) hK
                have hB : ZB σ199.1 := ZB.tr hOσ199 (by decide) hB
                try simp only [g7_σ196, g9_σ196, g14_σ196, g15_σ196, g20_σ196, g22_σ196, g23_σ196, g24_σ196, g25_σ196] at hqv198
                have g7_σ199 : σ199.1 218 7 = (σ0.1 218 7) := (hkv198.2.1).trans g7_σ196
                have g9_σ199 : σ199.1 218 9 = (σ0.1 218 9) := (hkv198.2.2.1).trans g9_σ196
                have g14_σ199 : σ199.1 218 14 = (σ188.1 218 14) := (hkv198.2.2.2.1).trans g14_σ196
                have g15_σ199 : σ199.1 218 15 = (σ188.1 218 15) := (hkv198.2.2.2.2.1).trans g15_σ196
                have g20_σ199 : σ199.1 218 20 = (σ0.1 218 20) := (hkv198.2.2.2.2.2.1).trans g20_σ196
                have g22_σ199 : σ199.1 218 22 = (σ0.1 218 22) := (hkv198.2.2.2.2.2.2.1).trans g22_σ196
                have g23_σ199 : σ199.1 218 23 = (σ0.1 218 23) := (hkv198.2.2.2.2.2.2.2.1).trans g23_σ196
                have g24_σ199 : σ199.1 218 24 = (σ0.1 218 24) := (hkv198.2.2.2.2.2.2.2.2.1).trans g24_σ196
                have g25_σ199 : σ199.1 218 25 = (σ0.1 218 25) := (hkv198.2.2.2.2.2.2.2.2.2).trans g25_σ196
                have m124 := hqv198.2
                refine ok_gC rfl ?_
                refine ok_zbT (Q := fun V σ => (TOK σ.1 ∧ (σ199.1 218 11).toInt ≤ (σ.1 218 11).toInt ∧ (σ.1 218 14 = 0 → σ199.1 218 14 = 0) ∧ ZB σ.1) ∧ (σ.1 218 7 = σ199.1 218 7 ∧ σ.1 218 9 = σ199.1 218 9)) hT (s_X12_readsLet hN (hR.tr hT) (hK) (by rw [hT.2 224 (by decide)]; exact hY) (hB) (by (first | rw [r231_σ199] | skip); exact hF)) (by decide) (fun v200 σ201 hOσ201 hT hqv200 => ?_)
                have hqv200 : (TOK σ201.1 ∧ (σ199.1 218 11).toInt ≤ (σ201.1 218 11).toInt ∧ (σ201.1 218 14 = 0 → σ199.1 218 14 = 0) ∧ ZB σ201.1) ∧ (σ201.1 218 7 = σ199.1 218 7 ∧ σ201.1 218 9 = σ199.1 218 9) := hqv200
                have hkv200 := hqv200
                have hqv200 := hqv200.1
                have r231_σ201 : σ201.1 231 = σ0.1 231 := (hOσ201.2 231 (by decide)).trans r231_σ199
                have hK : TOK σ201.1 := by first | exact hqv200.1 | exact TOK_p eσ201 (by decide) hK
                have hB : ZB σ201.1 := hqv200.2.2.2
                try simp only [g7_σ199, g9_σ199, g14_σ199, g15_σ199, g20_σ199, g22_σ199, g23_σ199, g24_σ199, g25_σ199] at hqv200
                have g7_σ201 : σ201.1 218 7 = (σ0.1 218 7) := (hkv200.2.1).trans g7_σ199
                have g9_σ201 : σ201.1 218 9 = (σ0.1 218 9) := (hkv200.2.2).trans g9_σ199
                have m128 := hqv200.2.1
                exact ok_some ⟨hT, (show (TOK σ201.1 ∧ (σ0.1 218 11).toInt ≤ (σ201.1 218 11).toInt ∧ FW (σ201.1 231) ∧ σ201.1 231 1 = σ0.1 231 1 ∧ ZB σ201.1) ∧ (σ201.1 218 7 = σ0.1 218 7 ∧ σ201.1 218 9 = σ0.1 218 9) from ⟨by first | exact ⟨hK, by (try simp only [g7_σ201, g9_σ201]); omega, by (first | rw [r231_σ201] | skip); exact hF, congrFun r231_σ201 1, hB⟩ | exact ⟨hK, by (try simp only [g7_σ201, g9_σ201]); omega, k102.1, q102, hB⟩ | exact ⟨hK, by (try simp only [g7_σ201, g9_σ201]); omega, f117, q117, hB⟩, g7_σ201, g9_σ201⟩)⟩
              · have t113 := (hqv195.2.2.2 hc197).1.2
                refine ok_gC rfl ?_
                refine ok_zbT (Q := fun V σ => (TOK σ.1 ∧ (σ196.1 218 11).toInt ≤ (σ.1 218 11).toInt ∧ (σ.1 218 14 = 0 → σ196.1 218 14 = 0) ∧ FW (σ.1 231) ∧ σ.1 231 1 = σ196.1 231 1) ∧ (σ.1 218 7 = σ196.1 218 7 ∧ σ.1 218 9 = σ196.1 218 9 ∧ σ.1 218 20 = σ196.1 218 20 ∧ σ.1 218 22 = σ196.1 218 22 ∧ σ.1 218 23 = σ196.1 218 23 ∧ σ.1 218 24 = σ196.1 218 24 ∧ σ.1 218 25 = σ196.1 218 25)) hT (s_X12_readsEdge hN (hR.tr hT) (hK) (by rw [hT.2 224 (by decide)]; exact hY) (by (first | rw [r231_σ196] | skip); exact hF) (by (first | rw [r231_σ196] | skip); first | exact k57 | exact (is_ne f42 t113 s77.1).elim | exact absurd y69 n62 | exact absurd y69 n32)) (by decide) (fun v202 σ203 hOσ203 hT hqv202 => ?_)
                have hqv202 : (TOK σ203.1 ∧ (σ196.1 218 11).toInt ≤ (σ203.1 218 11).toInt ∧ (σ203.1 218 14 = 0 → σ196.1 218 14 = 0) ∧ FW (σ203.1 231) ∧ σ203.1 231 1 = σ196.1 231 1) ∧ (σ203.1 218 7 = σ196.1 218 7 ∧ σ203.1 218 9 = σ196.1 218 9 ∧ σ203.1 218 20 = σ196.1 218 20 ∧ σ203.1 218 22 = σ196.1 218 22 ∧ σ203.1 218 23 = σ196.1 218 23 ∧ σ203.1 218 24 = σ196.1 218 24 ∧ σ203.1 218 25 = σ196.1 218 25) := hqv202
                have hkv202 := hqv202
                have hqv202 := hqv202.1
                have hK : TOK σ203.1 := by first | exact hqv202.1 | exact TOK_p eσ203 (by decide) hK
                have hB : ZB σ203.1 := ZB.tr hOσ203 (by decide) hB
                try simp only [g7_σ196, g9_σ196, g14_σ196, g15_σ196, g20_σ196, g22_σ196, g23_σ196, g24_σ196, g25_σ196] at hqv202
                have g7_σ203 : σ203.1 218 7 = (σ0.1 218 7) := (hkv202.2.1).trans g7_σ196
                have g9_σ203 : σ203.1 218 9 = (σ0.1 218 9) := (hkv202.2.2.1).trans g9_σ196
                have g20_σ203 : σ203.1 218 20 = (σ0.1 218 20) := (hkv202.2.2.2.1).trans g20_σ196
                have g22_σ203 : σ203.1 218 22 = (σ0.1 218 22) := (hkv202.2.2.2.2.1).trans g22_σ196
                have g23_σ203 : σ203.1 218 23 = (σ0.1 218 23) := (hkv202.2.2.2.2.2.1).trans g23_σ196
                have g24_σ203 : σ203.1 218 24 = (σ0.1 218 24) := (hkv202.2.2.2.2.2.2.1).trans g24_σ196
                have g25_σ203 : σ203.1 218 25 = (σ0.1 218 25) := (hkv202.2.2.2.2.2.2.2).trans g25_σ196
                have m117 := hqv202.2.1
                have f117 := hqv202.2.2.2.1
                have q117 : σ203.1 231 1 = σ0.1 231 1 := hqv202.2.2.2.2.trans (congrFun r110 1)
                exact ok_some ⟨hT, (show (TOK σ203.1 ∧ (σ0.1 218 11).toInt ≤ (σ203.1 218 11).toInt ∧ FW (σ203.1 231) ∧ σ203.1 231 1 = σ0.1 231 1 ∧ ZB σ203.1) ∧ (σ203.1 218 7 = σ0.1 218 7 ∧ σ203.1 218 9 = σ0.1 218 9) from ⟨by first | exact ⟨hK, by (try simp only [g7_σ203, g9_σ203, g20_σ203, g22_σ203, g23_σ203, g24_σ203, g25_σ203]); omega, by (first | rw [rfl] | skip); exact hF, congrFun rfl 1, hB⟩ | exact ⟨hK, by (try simp only [g7_σ203, g9_σ203, g20_σ203, g22_σ203, g23_σ203, g24_σ203, g25_σ203]); omega, k102.1, q102, hB⟩ | exact ⟨hK, by (try simp only [g7_σ203, g9_σ203, g20_σ203, g22_σ203, g23_σ203, g24_σ203, g25_σ203]); omega, f117, q117, hB⟩, g7_σ203, g9_σ203⟩)⟩
            · refine ok_gC rfl ?_
              refine ok_zbT (Q := fun V σ => (TOK σ.1 ∧ (σ193.1 218 11).toInt ≤ (σ.1 218 11).toInt ∧ (σ.1 218 14 = 0 → σ193.1 218 14 = 0) ∧ 0 ≤ V.toInt ∧ V.toInt ≤ 9) ∧ (σ.1 218 7 = σ193.1 218 7 ∧ σ.1 218 9 = σ193.1 218 9 ∧ σ.1 218 20 = σ193.1 218 20 ∧ σ.1 218 22 = σ193.1 218 22 ∧ σ.1 218 23 = σ193.1 218 23 ∧ σ.1 218 24 = σ193.1 218 24 ∧ σ.1 218 25 = σ193.1 218 25)) hT (s_X12_readsName hN (hR.tr hT) (hK) (by rw [hT.2 224 (by decide)]; exact hY) (by (first | rw [r231_σ193] | skip); exact hF)) (by decide) (fun v204 σ205 hOσ205 hT hqv204 => ?_)
              have hqv204 : (TOK σ205.1 ∧ (σ193.1 218 11).toInt ≤ (σ205.1 218 11).toInt ∧ (σ205.1 218 14 = 0 → σ193.1 218 14 = 0) ∧ 0 ≤ v204.toInt ∧ v204.toInt ≤ 9) ∧ (σ205.1 218 7 = σ193.1 218 7 ∧ σ205.1 218 9 = σ193.1 218 9 ∧ σ205.1 218 20 = σ193.1 218 20 ∧ σ205.1 218 22 = σ193.1 218 22 ∧ σ205.1 218 23 = σ193.1 218 23 ∧ σ205.1 218 24 = σ193.1 218 24 ∧ σ205.1 218 25 = σ193.1 218 25) := hqv204
              have hkv204 := hqv204
              have hqv204 := hqv204.1
              have r231_σ205 : σ205.1 231 = σ0.1 231 := (hOσ205.2 231 (by decide)).trans r231_σ193
              have hK : TOK σ205.1 := by first | exact hqv204.1 | exact TOK_p eσ205 (by decide) hK
              have hB : ZB σ205.1 := ZB.tr hOσ205 (by decide) hB
              try simp only [g7_σ193, g9_σ193, g14_σ193, g15_σ193, g20_σ193, g22_σ193, g23_σ193, g24_σ193, g25_σ193] at hqv204
              have g7_σ205 : σ205.1 218 7 = (σ0.1 218 7) := (hkv204.2.1).trans g7_σ193
              have g9_σ205 : σ205.1 218 9 = (σ0.1 218 9) := (hkv204.2.2.1).trans g9_σ193
              have g20_σ205 : σ205.1 218 20 = (σ0.1 218 20) := (hkv204.2.2.2.1).trans g20_σ193
              have g22_σ205 : σ205.1 218 22 = (σ0.1 218 22) := (hkv204.2.2.2.2.1).trans g22_σ193
              have g23_σ205 : σ205.1 218 23 = (σ0.1 218 23) := (hkv204.2.2.2.2.2.1).trans g23_σ193
              have g24_σ205 : σ205.1 218 24 = (σ0.1 218 24) := (hkv204.2.2.2.2.2.2.1).trans g24_σ193
              have g25_σ205 : σ205.1 218 25 = (σ0.1 218 25) := (hkv204.2.2.2.2.2.2.2).trans g25_σ193
              have m84 := hqv204.2.1
              have b84 := hqv204.2.2.2
              have i84 := ti3 (x := v204) (by omega) (by omega)
              refine ok_gR (v := 231) hT rfl (hR 218 26 rfl) ?_
              refine ok_gC rfl ?_
              refine ok_zbT (Q := fun V σ => (TOK σ.1 ∧ (σ205.1 218 11).toInt ≤ (σ.1 218 11).toInt ∧ (σ.1 218 14 = 0 → (σ205.1 218 14 = 0 ∧ (σ205.1 218 11).toInt < (σ.1 218 11).toInt) ∧ (0 : Int32).toInt ≤ V.toInt ∧ V.toInt ≤ (99 : Int32).toInt) ∧ (¬ σ.1 218 14 = 0 → V = 0)) ∧ (σ.1 218 7 = σ205.1 218 7 ∧ σ.1 218 9 = σ205.1 218 9 ∧ σ.1 218 20 = σ205.1 218 20 ∧ σ.1 218 22 = σ205.1 218 22 ∧ σ.1 218 23 = σ205.1 218 23 ∧ σ.1 218 24 = σ205.1 218 24 ∧ σ.1 218 25 = σ205.1 218 25)) hT (s_X12_number hN (hR.tr hT) (hK) (by rw [hT.2 224 (by decide)]; exact hY)) (by decide) (fun v207 σ208 hOσ208 hT hqv207 => ?_)
              have hqv207 : (TOK σ208.1 ∧ (σ205.1 218 11).toInt ≤ (σ208.1 218 11).toInt ∧ (σ208.1 218 14 = 0 → (σ205.1 218 14 = 0 ∧ (σ205.1 218 11).toInt < (σ208.1 218 11).toInt) ∧ (0 : Int32).toInt ≤ v207.toInt ∧ v207.toInt ≤ (99 : Int32).toInt) ∧ (¬ σ208.1 218 14 = 0 → v207 = 0)) ∧ (σ208.1 218 7 = σ205.1 218 7 ∧ σ208.1 218 9 = σ205.1 218 9 ∧ σ208.1 218 20 = σ205.1 218 20 ∧ σ208.1 218 22 = σ205.1 218 22 ∧ σ208.1 218 23 = σ205.1 218 23 ∧ σ208.1 218 24 = σ205.1 218 24 ∧ σ208.1 218 25 = σ205.1 218 25) := hqv207
              have hkv207 := hqv207
              have hqv207 := hqv207.1
              have r231_σ208 : σ208.1 231 = σ0.1 231 := (hOσ208.2 231 (by decide)).trans r231_σ205
              have hK : TOK σ208.1 := by first | exact hqv207.1 | exact TOK_p eσ208 (by decide) hK
              have hB : ZB σ208.1 := ZB.tr hOσ208 (by decide) hB
              try simp only [g7_σ205, g9_σ205, g20_σ205, g22_σ205, g23_σ205, g24_σ205, g25_σ205] at hqv207
              have g7_σ208 : σ208.1 218 7 = (σ0.1 218 7) := (hkv207.2.1).trans g7_σ205
              have g9_σ208 : σ208.1 218 9 = (σ0.1 218 9) := (hkv207.2.2.1).trans g9_σ205
              have g20_σ208 : σ208.1 218 20 = (σ0.1 218 20) := (hkv207.2.2.2.1).trans g20_σ205
              have g22_σ208 : σ208.1 218 22 = (σ0.1 218 22) := (hkv207.2.2.2.2.1).trans g22_σ205
              have g23_σ208 : σ208.1 218 23 = (σ0.1 218 23) := (hkv207.2.2.2.2.2.1).trans g23_σ205
              have g24_σ208 : σ208.1 218 24 = (σ0.1 218 24) := (hkv207.2.2.2.2.2.2.1).trans g24_σ205
              have g25_σ208 : σ208.1 218 25 = (σ0.1 218 25) := (hkv207.2.2.2.2.2.2.2).trans g25_σ205
              have m99 := hqv207.2.1
              refine ok_s14 hT rfl (by decide) (by rw [i84.1]; omega) (by rw [i84.1]; omega) (fun σ209 eσ209 hOσ209 hT => ?_)
              have k102 := FW_w eσ209 (by rw [i84.2]; omega) (by rw [i84.2]; omega) (by (first | rw [r231_σ208] | skip); exact hF)
              have q102 : σ209.1 231 1 = σ0.1 231 1 := k102.2.trans (congrFun r231_σ208 1)
              have hK : TOK σ209.1 := TOK_tr hOσ209 (by decide) (by decide) hK
              have hB : ZB σ209.1 := ZB.tr hOσ209 (by decide) hB
              have g7_σ209 : σ209.1 218 7 = (σ0.1 218 7) := (congrFun (hOσ209.2 218 (by decide)) 7).trans g7_σ208
              have g9_σ209 : σ209.1 218 9 = (σ0.1 218 9) := (congrFun (hOσ209.2 218 (by decide)) 9).trans g9_σ208
              have g10_σ209 : σ209.1 218 10 = (σ208.1 218 10) := congrFun (hOσ209.2 218 (by decide)) 10
              have g11_σ209 : σ209.1 218 11 = (σ208.1 218 11) := congrFun (hOσ209.2 218 (by decide)) 11
              have g12_σ209 : σ209.1 218 12 = (σ208.1 218 12) := congrFun (hOσ209.2 218 (by decide)) 12
              have g13_σ209 : σ209.1 218 13 = (σ208.1 218 13) := congrFun (hOσ209.2 218 (by decide)) 13
              have g14_σ209 : σ209.1 218 14 = (σ208.1 218 14) := congrFun (hOσ209.2 218 (by decide)) 14
              have g15_σ209 : σ209.1 218 15 = (σ208.1 218 15) := congrFun (hOσ209.2 218 (by decide)) 15
              have g20_σ209 : σ209.1 218 20 = (σ0.1 218 20) := (congrFun (hOσ209.2 218 (by decide)) 20).trans g20_σ208
              have g22_σ209 : σ209.1 218 22 = (σ0.1 218 22) := (congrFun (hOσ209.2 218 (by decide)) 22).trans g22_σ208
              have g23_σ209 : σ209.1 218 23 = (σ0.1 218 23) := (congrFun (hOσ209.2 218 (by decide)) 23).trans g23_σ208
              have g24_σ209 : σ209.1 218 24 = (σ0.1 218 24) := (congrFun (hOσ209.2 218 (by decide)) 24).trans g24_σ208
              have g25_σ209 : σ209.1 218 25 = (σ0.1 218 25) := (congrFun (hOσ209.2 218 (by decide)) 25).trans g25_σ208
              exact ok_some ⟨hT, (show (TOK σ209.1 ∧ (σ0.1 218 11).toInt ≤ (σ209.1 218 11).toInt ∧ FW (σ209.1 231) ∧ σ209.1 231 1 = σ0.1 231 1 ∧ ZB σ209.1) ∧ (σ209.1 218 7 = σ0.1 218 7 ∧ σ209.1 218 9 = σ0.1 218 9) from ⟨by first | exact ⟨hK, by (try simp only [g7_σ209, g9_σ209, g10_σ209, g11_σ209, g12_σ209, g13_σ209, g14_σ209, g15_σ209, g20_σ209, g22_σ209, g23_σ209, g24_σ209, g25_σ209]); omega, by (first | rw [rfl] | skip); exact hF, congrFun rfl 1, hB⟩ | exact ⟨hK, by (try simp only [g7_σ209, g9_σ209, g10_σ209, g11_σ209, g12_σ209, g13_σ209, g14_σ209, g15_σ209, g20_σ209, g22_σ209, g23_σ209, g24_σ209, g25_σ209]); omega, k102.1, q102, hB⟩ | exact ⟨hK, by (try simp only [g7_σ209, g9_σ209, g10_σ209, g11_σ209, g12_σ209, g13_σ209, g14_σ209, g15_σ209, g20_σ209, g22_σ209, g23_σ209, g24_σ209, g25_σ209]); omega, f117, q117, hB⟩, g7_σ209, g9_σ209⟩)⟩
        · have n57 := hc186
          rw [ev50, ev56] at n57
          have k57 : (σ0.1 231 2).toInt < (σ0.1 231 0).toInt := by rcases Int.lt_or_eq_of_le hF.1.2.2 with q | q; exact q; exact absurd (Int32.toInt_inj.mp q) n57
          rw [J_X12_readsLine_65.eq_1]
          refine ok_gC rfl ?_
          refine ok_zbX (Q := fun V => (V = 0 → ¬ σ0.1 218 14 = 0) ∧ (¬ V = 0 → σ0.1 218 14 = 0)) (x_X12_good) (fun v210 hqv210 => ?_)
          have hqv210 : (v210 = 0 → ¬ σ0.1 218 14 = 0) ∧ (¬ v210 = 0 → σ0.1 218 14 = 0) := hqv210
          refine ok_if (fun hc212 => ?_) (fun hc212 => ?_)
          · have qhc212 := hqv210.1 hc212
            exact ok_some ⟨hT, (show (TOK σ0.1 ∧ (σ0.1 218 11).toInt ≤ (σ0.1 218 11).toInt ∧ FW (σ0.1 231) ∧ σ0.1 231 1 = σ0.1 231 1 ∧ ZB σ0.1) ∧ (σ0.1 218 7 = σ0.1 218 7 ∧ σ0.1 218 9 = σ0.1 218 9) from ⟨by first | exact ⟨hK, by skip; omega, by (first | rw [rfl] | skip); exact hF, congrFun rfl 1, hB⟩ | exact ⟨hK, by skip; omega, k102.1, q102, hB⟩ | exact ⟨hK, by skip; omega, f117, q117, hB⟩, rfl, rfl⟩)⟩
          · have qhc212 := hqv210.2 hc212
            have y69 := qhc212
            refine ok_gC rfl ?_
            refine ok_zbT (Q := fun V σ => (TOK σ.1 ∧ (σ0.1 218 11).toInt ≤ (σ.1 218 11).toInt ∧ (V = 0 → σ = σ0 ∧ f_X12_is N 218 12 σ0 = some (0, σ0)) ∧ (¬ V = 0 → ((σ0.1 218 14 = 0 ∧ σ0.1 218 12 = 1) ∧ f_X12_is N 218 12 σ0 = some (1, σ0)) ∧ (σ0.1 218 11).toInt < (σ.1 218 11).toInt)) ∧ (σ.1 218 7 = σ0.1 218 7 ∧ σ.1 218 9 = σ0.1 218 9 ∧ σ.1 218 14 = σ0.1 218 14 ∧ σ.1 218 15 = σ0.1 218 15 ∧ σ.1 218 20 = σ0.1 218 20 ∧ σ.1 218 22 = σ0.1 218 22 ∧ σ.1 218 23 = σ0.1 218 23 ∧ σ.1 218 24 = σ0.1 218 24 ∧ σ.1 218 25 = σ0.1 218 25)) hT (s_X12_takes hN (hR.tr hT) (hK) (by rw [hT.2 224 (by decide)]; exact hY) (by decide)) (by decide) (fun v213 σ214 hOσ214 hT hqv213 => ?_)
            have hqv213 : (TOK σ214.1 ∧ (σ0.1 218 11).toInt ≤ (σ214.1 218 11).toInt ∧ (v213 = 0 → σ214 = σ0 ∧ f_X12_is N 218 12 σ0 = some (0, σ0)) ∧ (¬ v213 = 0 → ((σ0.1 218 14 = 0 ∧ σ0.1 218 12 = 1) ∧ f_X12_is N 218 12 σ0 = some (1, σ0)) ∧ (σ0.1 218 11).toInt < (σ214.1 218 11).toInt)) ∧ (σ214.1 218 7 = σ0.1 218 7 ∧ σ214.1 218 9 = σ0.1 218 9 ∧ σ214.1 218 14 = σ0.1 218 14 ∧ σ214.1 218 15 = σ0.1 218 15 ∧ σ214.1 218 20 = σ0.1 218 20 ∧ σ214.1 218 22 = σ0.1 218 22 ∧ σ214.1 218 23 = σ0.1 218 23 ∧ σ214.1 218 24 = σ0.1 218 24 ∧ σ214.1 218 25 = σ0.1 218 25) := hqv213
            have hkv213 := hqv213
            have hqv213 := hqv213.1
            have r231_σ214 : σ214.1 231 = σ0.1 231 := hOσ214.2 231 (by decide)
            have hK : TOK σ214.1 := by first | exact hqv213.1 | exact TOK_p eσ214 (by decide) hK
            have hB : ZB σ214.1 := ZB.tr hOσ214 (by decide) hB
            have g7_σ214 : σ214.1 218 7 = (σ0.1 218 7) := hkv213.2.1
            have g9_σ214 : σ214.1 218 9 = (σ0.1 218 9) := hkv213.2.2.1
            have g14_σ214 : σ214.1 218 14 = (σ0.1 218 14) := hkv213.2.2.2.1
            have g15_σ214 : σ214.1 218 15 = (σ0.1 218 15) := hkv213.2.2.2.2.1
            have g20_σ214 : σ214.1 218 20 = (σ0.1 218 20) := hkv213.2.2.2.2.2.1
            have g22_σ214 : σ214.1 218 22 = (σ0.1 218 22) := hkv213.2.2.2.2.2.2.1
            have g23_σ214 : σ214.1 218 23 = (σ0.1 218 23) := hkv213.2.2.2.2.2.2.2.1
            have g24_σ214 : σ214.1 218 24 = (σ0.1 218 24) := hkv213.2.2.2.2.2.2.2.2.1
            have g25_σ214 : σ214.1 218 25 = (σ0.1 218 25) := hkv213.2.2.2.2.2.2.2.2.2
            have m77 := hqv213.2.1
            refine ok_if (fun hc215 => ?_) (fun hc215 => ?_)
            · have s77 := hqv213.2.2.1 hc215
              refine ok_gC rfl ?_
              refine ok_zbT (Q := fun V σ => (TOK σ.1 ∧ (σ214.1 218 11).toInt ≤ (σ.1 218 11).toInt ∧ (V = 0 → σ = σ214 ∧ f_X12_is N 218 13 σ214 = some (0, σ214)) ∧ (¬ V = 0 → ((σ214.1 218 14 = 0 ∧ σ214.1 218 12 = 1) ∧ f_X12_is N 218 13 σ214 = some (1, σ214)) ∧ (σ214.1 218 11).toInt < (σ.1 218 11).toInt)) ∧ (σ.1 218 7 = σ214.1 218 7 ∧ σ.1 218 9 = σ214.1 218 9 ∧ σ.1 218 14 = σ214.1 218 14 ∧ σ.1 218 15 = σ214.1 218 15 ∧ σ.1 218 20 = σ214.1 218 20 ∧ σ.1 218 22 = σ214.1 218 22 ∧ σ.1 218 23 = σ214.1 218 23 ∧ σ.1 218 24 = σ214.1 218 24 ∧ σ.1 218 25 = σ214.1 218 25)) hT (s_X12_takes hN (hR.tr hT) (hK) (by rw [hT.2 224 (by decide)]; exact hY) (by decide)) (by decide) (fun v216 σ217 hOσ217 hT hqv216 => ?_)
              have hqv216 : (TOK σ217.1 ∧ (σ214.1 218 11).toInt ≤ (σ217.1 218 11).toInt ∧ (v216 = 0 → σ217 = σ214 ∧ f_X12_is N 218 13 σ214 = some (0, σ214)) ∧ (¬ v216 = 0 → ((σ214.1 218 14 = 0 ∧ σ214.1 218 12 = 1) ∧ f_X12_is N 218 13 σ214 = some (1, σ214)) ∧ (σ214.1 218 11).toInt < (σ217.1 218 11).toInt)) ∧ (σ217.1 218 7 = σ214.1 218 7 ∧ σ217.1 218 9 = σ214.1 218 9 ∧ σ217.1 218 14 = σ214.1 218 14 ∧ σ217.1 218 15 = σ214.1 218 15 ∧ σ217.1 218 20 = σ214.1 218 20 ∧ σ217.1 218 22 = σ214.1 218 22 ∧ σ217.1 218 23 = σ214.1 218 23 ∧ σ217.1 218 24 = σ214.1 218 24 ∧ σ217.1 218 25 = σ214.1 218 25) := hqv216
              have hkv216 := hqv216
              have hqv216 := hqv216.1
              have r231_σ217 : σ217.1 231 = σ0.1 231 := (hOσ217.2 231 (by decide)).trans r231_σ214
              have hK : TOK σ217.1 := by first | exact hqv216.1 | exact TOK_p eσ217 (by decide) hK
              have hB : ZB σ217.1 := ZB.tr hOσ217 (by decide) hB
              try simp only [g7_σ214, g9_σ214, g14_σ214, g15_σ214, g20_σ214, g22_σ214, g23_σ214, g24_σ214, g25_σ214] at hqv216
              have g7_σ217 : σ217.1 218 7 = (σ0.1 218 7) := (hkv216.2.1).trans g7_σ214
              have g9_σ217 : σ217.1 218 9 = (σ0.1 218 9) := (hkv216.2.2.1).trans g9_σ214
              have g14_σ217 : σ217.1 218 14 = (σ0.1 218 14) := (hkv216.2.2.2.1).trans g14_σ214
              have g15_σ217 : σ217.1 218 15 = (σ0.1 218 15) := (hkv216.2.2.2.2.1).trans g15_σ214
              have g20_σ217 : σ217.1 218 20 = (σ0.1 218 20) := (hkv216.2.2.2.2.2.1).trans g20_σ214
              have g22_σ217 : σ217.1 218 22 = (σ0.1 218 22) := (hkv216.2.2.2.2.2.2.1).trans g22_σ214
              have g23_σ217 : σ217.1 218 23 = (σ0.1 218 23) := (hkv216.2.2.2.2.2.2.2.1).trans g23_σ214
              have g24_σ217 : σ217.1 218 24 = (σ0.1 218 24) := (hkv216.2.2.2.2.2.2.2.2.1).trans g24_σ214
              have g25_σ217 : σ217.1 218 25 = (σ0.1 218 25) := (hkv216.2.2.2.2.2.2.2.2.2).trans g25_σ214
              have k110 := hK.1
              have m110 := hqv216.2.1
              have r110 : σ217.1 231 = σ0.1 231 := r231_σ217
              refine ok_if (fun hc218 => ?_) (fun hc218 => ?_)
              · refine ok_gC rfl ?_
                refine ok_zbT (Q := fun V σ => (TOK σ.1 ∧ (σ217.1 218 10).toInt ≤ (σ.1 218 11).toInt) ∧ (σ.1 218 7 = σ217.1 218 7 ∧ σ.1 218 9 = σ217.1 218 9 ∧ σ.1 218 14 = σ217.1 218 14 ∧ σ.1 218 15 = σ217.1 218 15 ∧ σ.1 218 20 = σ217.1 218 20 ∧ σ.1 218 22 = σ217.1 218 22 ∧ σ.1 218 23 = σ217.1 218 23 ∧ σ.1 218 24 = σ217.1 218 24 ∧ σ.1 218 25 = σ217.1 218 25)) hT (s_X12_advance hN (hR.tr hT) (TOK_A hK) (by rw [hT.2 224 (by decide)]; exact hY)) (by decide) (fun v219 σ220 hOσ220 hT hqv219 => ?_)
                have hqv219 : (TOK σ220.1 ∧ (σ217.1 218 10).toInt ≤ (σ220.1 218 11).toInt) ∧ (σ220.1 218 7 = σ217.1 218 7 ∧ σ220.1 218 9 = σ217.1 218 9 ∧ σ220.1 218 14 = σ217.1 218 14 ∧ σ220.1 218 15 = σ217.1 218 15 ∧ σ220.1 218 20 = σ217.1 218 20 ∧ σ220.1 218 22 = σ217.1 218 22 ∧ σ220.1 218 23 = σ217.1 218 23 ∧ σ220.1 218 24 = σ217.1 218 24 ∧ σ220.1 218 25 = σ217.1 218 25) := hqv219
                have hkv219 := hqv219
                have hqv219 := hqv219.1
                have r231_σ220 : σ220.1 231 = σ0.1 231 := (hOσ220.2 231 (by decide)).trans r231_σ217
                have hK : TOK σ220.1 := by first | exact hqv219.1 | exact TOK_p eσ220 (by decide) hK
                have hB : ZB σ220.1 := ZB.tr hOσ220 (by decide) hB
                try simp only [g7_σ217, g9_σ217, g14_σ217, g15_σ217, g20_σ217, g22_σ217, g23_σ217, g24_σ217, g25_σ217] at hqv219
                have g7_σ220 : σ220.1 218 7 = (σ0.1 218 7) := (hkv219.2.1).trans g7_σ217
                have g9_σ220 : σ220.1 218 9 = (σ0.1 218 9) := (hkv219.2.2.1).trans g9_σ217
                have g14_σ220 : σ220.1 218 14 = (σ0.1 218 14) := (hkv219.2.2.2.1).trans g14_σ217
                have g15_σ220 : σ220.1 218 15 = (σ0.1 218 15) := (hkv219.2.2.2.2.1).trans g15_σ217
                have g20_σ220 : σ220.1 218 20 = (σ0.1 218 20) := (hkv219.2.2.2.2.2.1).trans g20_σ217
                have g22_σ220 : σ220.1 218 22 = (σ0.1 218 22) := (hkv219.2.2.2.2.2.2.1).trans g22_σ217
                have g23_σ220 : σ220.1 218 23 = (σ0.1 218 23) := (hkv219.2.2.2.2.2.2.2.1).trans g23_σ217
                have g24_σ220 : σ220.1 218 24 = (σ0.1 218 24) := (hkv219.2.2.2.2.2.2.2.2.1).trans g24_σ217
                have g25_σ220 : σ220.1 218 25 = (σ0.1 218 25) := (hkv219.2.2.2.2.2.2.2.2.2).trans g25_σ217
                have m124 := hqv219.2
                refine ok_gC rfl ?_
                refine ok_zbT (Q := fun V σ => (TOK σ.1 ∧ (σ220.1 218 11).toInt ≤ (σ.1 218 11).toInt ∧ (σ.1 218 14 = 0 → σ220.1 218 14 = 0) ∧ ZB σ.1) ∧ (σ.1 218 7 = σ220.1 218 7 ∧ σ.1 218 9 = σ220.1 218 9)) hT (s_X12_readsLet hN (hR.tr hT) (hK) (by rw [hT.2 224 (by decide)]; exact hY) (hB) (by (first | rw [r231_σ220] | skip); exact hF)) (by decide) (fun v221 σ222 hOσ222 hT hqv221 => ?_)
                have hqv221 : (TOK σ222.1 ∧ (σ220.1 218 11).toInt ≤ (σ222.1 218 11).toInt ∧ (σ222.1 218 14 = 0 → σ220.1 218 14 = 0) ∧ ZB σ222.1) ∧ (σ222.1 218 7 = σ220.1 218 7 ∧ σ222.1 218 9 = σ220.1 218 9) := hqv221
                have hkv221 := hqv221
                have hqv221 := hqv221.1
                have r231_σ222 : σ222.1 231 = σ0.1 231 := (hOσ222.2 231 (by decide)).trans r231_σ220
                have hK : TOK σ222.1 := by first | exact hqv221.1 | exact TOK_p eσ222 (by decide) hK
                have hB : ZB σ222.1 := hqv221.2.2.2
                try simp only [g7_σ220, g9_σ220, g14_σ220, g15_σ220, g20_σ220, g22_σ220, g23_σ220, g24_σ220, g25_σ220] at hqv221
                have g7_σ222 : σ222.1 218 7 = (σ0.1 218 7) := (hkv221.2.1).trans g7_σ220
                have g9_σ222 : σ222.1 218 9 = (σ0.1 218 9) := (hkv221.2.2).trans g9_σ220
                have m128 := hqv221.2.1
                exact ok_some ⟨hT, (show (TOK σ222.1 ∧ (σ0.1 218 11).toInt ≤ (σ222.1 218 11).toInt ∧ FW (σ222.1 231) ∧ σ222.1 231 1 = σ0.1 231 1 ∧ ZB σ222.1) ∧ (σ222.1 218 7 = σ0.1 218 7 ∧ σ222.1 218 9 = σ0.1 218 9) from ⟨by first | exact ⟨hK, by (try simp only [g7_σ222, g9_σ222]); omega, by (first | rw [r231_σ222] | skip); exact hF, congrFun r231_σ222 1, hB⟩ | exact ⟨hK, by (try simp only [g7_σ222, g9_σ222]); omega, k102.1, q102, hB⟩ | exact ⟨hK, by (try simp only [g7_σ222, g9_σ222]); omega, f117, q117, hB⟩, g7_σ222, g9_σ222⟩)⟩
              · have t113 := (hqv216.2.2.2 hc218).1.2
                refine ok_gC rfl ?_
                refine ok_zbT (Q := fun V σ => (TOK σ.1 ∧ (σ217.1 218 11).toInt ≤ (σ.1 218 11).toInt ∧ (σ.1 218 14 = 0 → σ217.1 218 14 = 0) ∧ FW (σ.1 231) ∧ σ.1 231 1 = σ217.1 231 1) ∧ (σ.1 218 7 = σ217.1 218 7 ∧ σ.1 218 9 = σ217.1 218 9 ∧ σ.1 218 20 = σ217.1 218 20 ∧ σ.1 218 22 = σ217.1 218 22 ∧ σ.1 218 23 = σ217.1 218 23 ∧ σ.1 218 24 = σ217.1 218 24 ∧ σ.1 218 25 = σ217.1 218 25)) hT (s_X12_readsEdge hN (hR.tr hT) (hK) (by rw [hT.2 224 (by decide)]; exact hY) (by (first | rw [r231_σ217] | skip); exact hF) (by (first | rw [r231_σ217] | skip); first | exact k57 | exact (is_ne f42 t113 s77.1).elim | exact absurd y69 n62 | exact absurd y69 n32)) (by decide) (fun v223 σ224 hOσ224 hT hqv223 => ?_)
                have hqv223 : (TOK σ224.1 ∧ (σ217.1 218 11).toInt ≤ (σ224.1 218 11).toInt ∧ (σ224.1 218 14 = 0 → σ217.1 218 14 = 0) ∧ FW (σ224.1 231) ∧ σ224.1 231 1 = σ217.1 231 1) ∧ (σ224.1 218 7 = σ217.1 218 7 ∧ σ224.1 218 9 = σ217.1 218 9 ∧ σ224.1 218 20 = σ217.1 218 20 ∧ σ224.1 218 22 = σ217.1 218 22 ∧ σ224.1 218 23 = σ217.1 218 23 ∧ σ224.1 218 24 = σ217.1 218 24 ∧ σ224.1 218 25 = σ217.1 218 25) := hqv223
                have hkv223 := hqv223
                have hqv223 := hqv223.1
                have hK : TOK σ224.1 := by first | exact hqv223.1 | exact TOK_p eσ224 (by decide) hK
                have hB : ZB σ224.1 := ZB.tr hOσ224 (by decide) hB
                try simp only [g7_σ217, g9_σ217, g14_σ217, g15_σ217, g20_σ217, g22_σ217, g23_σ217, g24_σ217, g25_σ217] at hqv223
                have g7_σ224 : σ224.1 218 7 = (σ0.1 218 7) := (hkv223.2.1).trans g7_σ217
                have g9_σ224 : σ224.1 218 9 = (σ0.1 218 9) := (hkv223.2.2.1).trans g9_σ217
                have g20_σ224 : σ224.1 218 20 = (σ0.1 218 20) := (hkv223.2.2.2.1).trans g20_σ217
                have g22_σ224 : σ224.1 218 22 = (σ0.1 218 22) := (hkv223.2.2.2.2.1).trans g22_σ217
                have g23_σ224 : σ224.1 218 23 = (σ0.1 218 23) := (hkv223.2.2.2.2.2.1).trans g23_σ217
                have g24_σ224 : σ224.1 218 24 = (σ0.1 218 24) := (hkv223.2.2.2.2.2.2.1).trans g24_σ217
                have g25_σ224 : σ224.1 218 25 = (σ0.1 218 25) := (hkv223.2.2.2.2.2.2.2).trans g25_σ217
                have m117 := hqv223.2.1
                have f117 := hqv223.2.2.2.1
                have q117 : σ224.1 231 1 = σ0.1 231 1 := hqv223.2.2.2.2.trans (congrFun r110 1)
                exact ok_some ⟨hT, (show (TOK σ224.1 ∧ (σ0.1 218 11).toInt ≤ (σ224.1 218 11).toInt ∧ FW (σ224.1 231) ∧ σ224.1 231 1 = σ0.1 231 1 ∧ ZB σ224.1) ∧ (σ224.1 218 7 = σ0.1 218 7 ∧ σ224.1 218 9 = σ0.1 218 9) from ⟨by first | exact ⟨hK, by (try simp only [g7_σ224, g9_σ224, g20_σ224, g22_σ224, g23_σ224, g24_σ224, g25_σ224]); omega, by (first | rw [rfl] | skip); exact hF, congrFun rfl 1, hB⟩ | exact ⟨hK, by (try simp only [g7_σ224, g9_σ224, g20_σ224, g22_σ224, g23_σ224, g24_σ224, g25_σ224]); omega, k102.1, q102, hB⟩ | exact ⟨hK, by (try simp only [g7_σ224, g9_σ224, g20_σ224, g22_σ224, g23_σ224, g24_σ224, g25_σ224]); omega, f117, q117, hB⟩, g7_σ224, g9_σ224⟩)⟩
            · refine ok_gC rfl ?_
              refine ok_zbT (Q := fun V σ => (TOK σ.1 ∧ (σ214.1 218 11).toInt ≤ (σ.1 218 11).toInt ∧ (σ.1 218 14 = 0 → σ214.1 218 14 = 0) ∧ 0 ≤ V.toInt ∧ V.toInt ≤ 9) ∧ (σ.1 218 7 = σ214.1 218 7 ∧ σ.1 218 9 = σ214.1 218 9 ∧ σ.1 218 20 = σ214.1 218 20 ∧ σ.1 218 22 = σ214.1 218 22 ∧ σ.1 218 23 = σ214.1 218 23 ∧ σ.1 218 24 = σ214.1 218 24 ∧ σ.1 218 25 = σ214.1 218 25)) hT (s_X12_readsName hN (hR.tr hT) (hK) (by rw [hT.2 224 (by decide)]; exact hY) (by (first | rw [r231_σ214] | skip); exact hF)) (by decide) (fun v225 σ226 hOσ226 hT hqv225 => ?_)
              have hqv225 : (TOK σ226.1 ∧ (σ214.1 218 11).toInt ≤ (σ226.1 218 11).toInt ∧ (σ226.1 218 14 = 0 → σ214.1 218 14 = 0) ∧ 0 ≤ v225.toInt ∧ v225.toInt ≤ 9) ∧ (σ226.1 218 7 = σ214.1 218 7 ∧ σ226.1 218 9 = σ214.1 218 9 ∧ σ226.1 218 20 = σ214.1 218 20 ∧ σ226.1 218 22 = σ214.1 218 22 ∧ σ226.1 218 23 = σ214.1 218 23 ∧ σ226.1 218 24 = σ214.1 218 24 ∧ σ226.1 218 25 = σ214.1 218 25) := hqv225
              have hkv225 := hqv225
              have hqv225 := hqv225.1
              have r231_σ226 : σ226.1 231 = σ0.1 231 := (hOσ226.2 231 (by decide)).trans r231_σ214
              have hK : TOK σ226.1 := by first | exact hqv225.1 | exact TOK_p eσ226 (by decide) hK
              have hB : ZB σ226.1 := ZB.tr hOσ226 (by decide) hB
              try simp only [g7_σ214, g9_σ214, g14_σ214, g15_σ214, g20_σ214, g22_σ214, g23_σ214, g24_σ214, g25_σ214] at hqv225
              have g7_σ226 : σ226.1 218 7 = (σ0.1 218 7) := (hkv225.2.1).trans g7_σ214
              have g9_σ226 : σ226.1 218 9 = (σ0.1 218 9) := (hkv225.2.2.1).trans g9_σ214
              have g20_σ226 : σ226.1 218 20 = (σ0.1 218 20) := (hkv225.2.2.2.1).trans g20_σ214
              have g22_σ226 : σ226.1 218 22 = (σ0.1 218 22) := (hkv225.2.2.2.2.1).trans g22_σ214
              have g23_σ226 : σ226.1 218 23 = (σ0.1 218 23) := (hkv225.2.2.2.2.2.1).trans g23_σ214
              have g24_σ226 : σ226.1 218 24 = (σ0.1 218 24) := (hkv225.2.2.2.2.2.2.1).trans g24_σ214
              have g25_σ226 : σ226.1 218 25 = (σ0.1 218 25) := (hkv225.2.2.2.2.2.2.2).trans g25_σ214
              have m84 := hqv225.2.1
              have b84 := hqv225.2.2.2
              have i84 := ti3 (x := v225) (by omega) (by omega)
              refine ok_gR (v := 231) hT rfl (hR 218 26 rfl) ?_
              refine ok_gC rfl ?_
              refine ok_zbT (Q := fun V σ => (TOK σ.1 ∧ (σ226.1 218 11).toInt ≤ (σ.1 218 11).toInt ∧ (σ.1 218 14 = 0 → (σ226.1 218 14 = 0 ∧ (σ226.1 218 11).toInt < (σ.1 218 11).toInt) ∧ (0 : Int32).toInt ≤ V.toInt ∧ V.toInt ≤ (99 : Int32).toInt) ∧ (¬ σ.1 218 14 = 0 → V = 0)) ∧ (σ.1 218 7 = σ226.1 218 7 ∧ σ.1 218 9 = σ226.1 218 9 ∧ σ.1 218 20 = σ226.1 218 20 ∧ σ.1 218 22 = σ226.1 218 22 ∧ σ.1 218 23 = σ226.1 218 23 ∧ σ.1 218 24 = σ226.1 218 24 ∧ σ.1 218 25 = σ226.1 218 25)) hT (s_X12_number hN (hR.tr hT) (hK) (by rw [hT.2 224 (by decide)]; exact hY)) (by decide) (fun v228 σ229 hOσ229 hT hqv228 => ?_)
              have hqv228 : (TOK σ229.1 ∧ (σ226.1 218 11).toInt ≤ (σ229.1 218 11).toInt ∧ (σ229.1 218 14 = 0 → (σ226.1 218 14 = 0 ∧ (σ226.1 218 11).toInt < (σ229.1 218 11).toInt) ∧ (0 : Int32).toInt ≤ v228.toInt ∧ v228.toInt ≤ (99 : Int32).toInt) ∧ (¬ σ229.1 218 14 = 0 → v228 = 0)) ∧ (σ229.1 218 7 = σ226.1 218 7 ∧ σ229.1 218 9 = σ226.1 218 9 ∧ σ229.1 218 20 = σ226.1 218 20 ∧ σ229.1 218 22 = σ226.1 218 22 ∧ σ229.1 218 23 = σ226.1 218 23 ∧ σ229.1 218 24 = σ226.1 218 24 ∧ σ229.1 218 25 = σ226.1 218 25) := hqv228
              have hkv228 := hqv228
              have hqv228 := hqv228.1
              have r231_σ229 : σ229.1 231 = σ0.1 231 := (hOσ229.2 231 (by decide)).trans r231_σ226
              have hK : TOK σ229.1 := by first | exact hqv228.1 | exact TOK_p eσ229 (by decide) hK
              have hB : ZB σ229.1 := ZB.tr hOσ229 (by decide) hB
              try simp only [g7_σ226, g9_σ226, g20_σ226, g22_σ226, g23_σ226, g24_σ226, g25_σ226] at hqv228
              have g7_σ229 : σ229.1 218 7 = (σ0.1 218 7) := (hkv228.2.1).trans g7_σ226
              have g9_σ229 : σ229.1 218 9 = (σ0.1 218 9) := (hkv228.2.2.1).trans g9_σ226
              have g20_σ229 : σ229.1 218 20 = (σ0.1 218 20) := (hkv228.2.2.2.1).trans g20_σ226
              have g22_σ229 : σ229.1 218 22 = (σ0.1 218 22) := (hkv228.2.2.2.2.1).trans g22_σ226
              have g23_σ229 : σ229.1 218 23 = (σ0.1 218 23) := (hkv228.2.2.2.2.2.1).trans g23_σ226
              have g24_σ229 : σ229.1 218 24 = (σ0.1 218 24) := (hkv228.2.2.2.2.2.2.1).trans g24_σ226
              have g25_σ229 : σ229.1 218 25 = (σ0.1 218 25) := (hkv228.2.2.2.2.2.2.2).trans g25_σ226
              have m99 := hqv228.2.1
              refine ok_s14 hT rfl (by decide) (by rw [i84.1]; omega) (by rw [i84.1]; omega) (fun σ230 eσ230 hOσ230 hT => ?_)
              have k102 := FW_w eσ230 (by rw [i84.2]; omega) (by rw [i84.2]; omega) (by (first | rw [r231_σ229] | skip); exact hF)
              have q102 : σ230.1 231 1 = σ0.1 231 1 := k102.2.trans (congrFun r231_σ229 1)
              have hK : TOK σ230.1 := TOK_tr hOσ230 (by decide) (by decide) hK
              have hB : ZB σ230.1 := ZB.tr hOσ230 (by decide) hB
              have g7_σ230 : σ230.1 218 7 = (σ0.1 218 7) := (congrFun (hOσ230.2 218 (by decide)) 7).trans g7_σ229
              have g9_σ230 : σ230.1 218 9 = (σ0.1 218 9) := (congrFun (hOσ230.2 218 (by decide)) 9).trans g9_σ229
              have g10_σ230 : σ230.1 218 10 = (σ229.1 218 10) := congrFun (hOσ230.2 218 (by decide)) 10
              have g11_σ230 : σ230.1 218 11 = (σ229.1 218 11) := congrFun (hOσ230.2 218 (by decide)) 11
              have g12_σ230 : σ230.1 218 12 = (σ229.1 218 12) := congrFun (hOσ230.2 218 (by decide)) 12
              have g13_σ230 : σ230.1 218 13 = (σ229.1 218 13) := congrFun (hOσ230.2 218 (by decide)) 13
              have g14_σ230 : σ230.1 218 14 = (σ229.1 218 14) := congrFun (hOσ230.2 218 (by decide)) 14
              have g15_σ230 : σ230.1 218 15 = (σ229.1 218 15) := congrFun (hOσ230.2 218 (by decide)) 15
              have g20_σ230 : σ230.1 218 20 = (σ0.1 218 20) := (congrFun (hOσ230.2 218 (by decide)) 20).trans g20_σ229
              have g22_σ230 : σ230.1 218 22 = (σ0.1 218 22) := (congrFun (hOσ230.2 218 (by decide)) 22).trans g22_σ229
              have g23_σ230 : σ230.1 218 23 = (σ0.1 218 23) := (congrFun (hOσ230.2 218 (by decide)) 23).trans g23_σ229
              have g24_σ230 : σ230.1 218 24 = (σ0.1 218 24) := (congrFun (hOσ230.2 218 (by decide)) 24).trans g24_σ229
              have g25_σ230 : σ230.1 218 25 = (σ0.1 218 25) := (congrFun (hOσ230.2 218 (by decide)) 25).trans g25_σ229
              exact ok_some ⟨hT, (show (TOK σ230.1 ∧ (σ0.1 218 11).toInt ≤ (σ230.1 218 11).toInt ∧ FW (σ230.1 231) ∧ σ230.1 231 1 = σ0.1 231 1 ∧ ZB σ230.1) ∧ (σ230.1 218 7 = σ0.1 218 7 ∧ σ230.1 218 9 = σ0.1 218 9) from ⟨by first | exact ⟨hK, by (try simp only [g7_σ230, g9_σ230, g10_σ230, g11_σ230, g12_σ230, g13_σ230, g14_σ230, g15_σ230, g20_σ230, g22_σ230, g23_σ230, g24_σ230, g25_σ230]); omega, by (first | rw [rfl] | skip); exact hF, congrFun rfl 1, hB⟩ | exact ⟨hK, by (try simp only [g7_σ230, g9_σ230, g10_σ230, g11_σ230, g12_σ230, g13_σ230, g14_σ230, g15_σ230, g20_σ230, g22_σ230, g23_σ230, g24_σ230, g25_σ230]); omega, k102.1, q102, hB⟩ | exact ⟨hK, by (try simp only [g7_σ230, g9_σ230, g10_σ230, g11_σ230, g12_σ230, g13_σ230, g14_σ230, g15_σ230, g20_σ230, g22_σ230, g23_σ230, g24_σ230, g25_σ230]); omega, f117, q117, hB⟩, g7_σ230, g9_σ230⟩)⟩
  · have qhc3 := hqv1.2 hc3
    rw [J_X12_readsLine_35.eq_1]
    refine ok_gC rfl ?_
    refine ok_zbX (Q := fun V => (V = 0 → f_X12_is N 218 13 σ0 = some (0, σ0)) ∧ (¬ V = 0 → (σ0.1 218 14 = 0 ∧ σ0.1 218 12 = 1) ∧ V = 1 ∧ f_X12_is N 218 13 σ0 = some (1, σ0))) (x_X12_is hN (hR.tr hT) (by decide) hK) (fun v231 hqv231 => ?_)
    have hqv231 : (v231 = 0 → f_X12_is N 218 13 σ0 = some (0, σ0)) ∧ (¬ v231 = 0 → (σ0.1 218 14 = 0 ∧ σ0.1 218 12 = 1) ∧ v231 = 1 ∧ f_X12_is N 218 13 σ0 = some (1, σ0)) := hqv231
    refine ok_if (fun hc233 => ?_) (fun hc233 => ?_)
    · have qhc233 := hqv231.1 hc233
      have f42 := qhc233
      rw [J_X12_readsLine_65.eq_1]
      refine ok_gC rfl ?_
      refine ok_zbX (Q := fun V => (V = 0 → ¬ σ0.1 218 14 = 0) ∧ (¬ V = 0 → σ0.1 218 14 = 0)) (x_X12_good) (fun v234 hqv234 => ?_)
      have hqv234 : (v234 = 0 → ¬ σ0.1 218 14 = 0) ∧ (¬ v234 = 0 → σ0.1 218 14 = 0) := hqv234
      refine ok_if (fun hc236 => ?_) (fun hc236 => ?_)
      · have qhc236 := hqv234.1 hc236
        exact ok_some ⟨hT, (show (TOK σ0.1 ∧ (σ0.1 218 11).toInt ≤ (σ0.1 218 11).toInt ∧ FW (σ0.1 231) ∧ σ0.1 231 1 = σ0.1 231 1 ∧ ZB σ0.1) ∧ (σ0.1 218 7 = σ0.1 218 7 ∧ σ0.1 218 9 = σ0.1 218 9) from ⟨by first | exact ⟨hK, by skip; omega, by (first | rw [rfl] | skip); exact hF, congrFun rfl 1, hB⟩ | exact ⟨hK, by skip; omega, k102.1, q102, hB⟩ | exact ⟨hK, by skip; omega, f117, q117, hB⟩, rfl, rfl⟩)⟩
      · have qhc236 := hqv234.2 hc236
        have y69 := qhc236
        refine ok_gC rfl ?_
        refine ok_zbT (Q := fun V σ => (TOK σ.1 ∧ (σ0.1 218 11).toInt ≤ (σ.1 218 11).toInt ∧ (V = 0 → σ = σ0 ∧ f_X12_is N 218 12 σ0 = some (0, σ0)) ∧ (¬ V = 0 → ((σ0.1 218 14 = 0 ∧ σ0.1 218 12 = 1) ∧ f_X12_is N 218 12 σ0 = some (1, σ0)) ∧ (σ0.1 218 11).toInt < (σ.1 218 11).toInt)) ∧ (σ.1 218 7 = σ0.1 218 7 ∧ σ.1 218 9 = σ0.1 218 9 ∧ σ.1 218 14 = σ0.1 218 14 ∧ σ.1 218 15 = σ0.1 218 15 ∧ σ.1 218 20 = σ0.1 218 20 ∧ σ.1 218 22 = σ0.1 218 22 ∧ σ.1 218 23 = σ0.1 218 23 ∧ σ.1 218 24 = σ0.1 218 24 ∧ σ.1 218 25 = σ0.1 218 25)) hT (s_X12_takes hN (hR.tr hT) (hK) (by rw [hT.2 224 (by decide)]; exact hY) (by decide)) (by decide) (fun v237 σ238 hOσ238 hT hqv237 => ?_)
        have hqv237 : (TOK σ238.1 ∧ (σ0.1 218 11).toInt ≤ (σ238.1 218 11).toInt ∧ (v237 = 0 → σ238 = σ0 ∧ f_X12_is N 218 12 σ0 = some (0, σ0)) ∧ (¬ v237 = 0 → ((σ0.1 218 14 = 0 ∧ σ0.1 218 12 = 1) ∧ f_X12_is N 218 12 σ0 = some (1, σ0)) ∧ (σ0.1 218 11).toInt < (σ238.1 218 11).toInt)) ∧ (σ238.1 218 7 = σ0.1 218 7 ∧ σ238.1 218 9 = σ0.1 218 9 ∧ σ238.1 218 14 = σ0.1 218 14 ∧ σ238.1 218 15 = σ0.1 218 15 ∧ σ238.1 218 20 = σ0.1 218 20 ∧ σ238.1 218 22 = σ0.1 218 22 ∧ σ238.1 218 23 = σ0.1 218 23 ∧ σ238.1 218 24 = σ0.1 218 24 ∧ σ238.1 218 25 = σ0.1 218 25) := hqv237
        have hkv237 := hqv237
        have hqv237 := hqv237.1
        have r231_σ238 : σ238.1 231 = σ0.1 231 := hOσ238.2 231 (by decide)
        have hK : TOK σ238.1 := by first | exact hqv237.1 | exact TOK_p eσ238 (by decide) hK
        have hB : ZB σ238.1 := ZB.tr hOσ238 (by decide) hB
        have g7_σ238 : σ238.1 218 7 = (σ0.1 218 7) := hkv237.2.1
        have g9_σ238 : σ238.1 218 9 = (σ0.1 218 9) := hkv237.2.2.1
        have g14_σ238 : σ238.1 218 14 = (σ0.1 218 14) := hkv237.2.2.2.1
        have g15_σ238 : σ238.1 218 15 = (σ0.1 218 15) := hkv237.2.2.2.2.1
        have g20_σ238 : σ238.1 218 20 = (σ0.1 218 20) := hkv237.2.2.2.2.2.1
        have g22_σ238 : σ238.1 218 22 = (σ0.1 218 22) := hkv237.2.2.2.2.2.2.1
        have g23_σ238 : σ238.1 218 23 = (σ0.1 218 23) := hkv237.2.2.2.2.2.2.2.1
        have g24_σ238 : σ238.1 218 24 = (σ0.1 218 24) := hkv237.2.2.2.2.2.2.2.2.1
        have g25_σ238 : σ238.1 218 25 = (σ0.1 218 25) := hkv237.2.2.2.2.2.2.2.2.2
        have m77 := hqv237.2.1
        refine ok_if (fun hc239 => ?_) (fun hc239 => ?_)
        · have s77 := hqv237.2.2.1 hc239
          refine ok_gC rfl ?_
          refine ok_zbT (Q := fun V σ => (TOK σ.1 ∧ (σ238.1 218 11).toInt ≤ (σ.1 218 11).toInt ∧ (V = 0 → σ = σ238 ∧ f_X12_is N 218 13 σ238 = some (0, σ238)) ∧ (¬ V = 0 → ((σ238.1 218 14 = 0 ∧ σ238.1 218 12 = 1) ∧ f_X12_is N 218 13 σ238 = some (1, σ238)) ∧ (σ238.1 218 11).toInt < (σ.1 218 11).toInt)) ∧ (σ.1 218 7 = σ238.1 218 7 ∧ σ.1 218 9 = σ238.1 218 9 ∧ σ.1 218 14 = σ238.1 218 14 ∧ σ.1 218 15 = σ238.1 218 15 ∧ σ.1 218 20 = σ238.1 218 20 ∧ σ.1 218 22 = σ238.1 218 22 ∧ σ.1 218 23 = σ238.1 218 23 ∧ σ.1 218 24 = σ238.1 218 24 ∧ σ.1 218 25 = σ238.1 218 25)) hT (s_X12_takes hN (hR.tr hT) (hK) (by rw [hT.2 224 (by decide)]; exact hY) (by decide)) (by decide) (fun v240 σ241 hOσ241 hT hqv240 => ?_)
          have hqv240 : (TOK σ241.1 ∧ (σ238.1 218 11).toInt ≤ (σ241.1 218 11).toInt ∧ (v240 = 0 → σ241 = σ238 ∧ f_X12_is N 218 13 σ238 = some (0, σ238)) ∧ (¬ v240 = 0 → ((σ238.1 218 14 = 0 ∧ σ238.1 218 12 = 1) ∧ f_X12_is N 218 13 σ238 = some (1, σ238)) ∧ (σ238.1 218 11).toInt < (σ241.1 218 11).toInt)) ∧ (σ241.1 218 7 = σ238.1 218 7 ∧ σ241.1 218 9 = σ238.1 218 9 ∧ σ241.1 218 14 = σ238.1 218 14 ∧ σ241.1 218 15 = σ238.1 218 15 ∧ σ241.1 218 20 = σ238.1 218 20 ∧ σ241.1 218 22 = σ238.1 218 22 ∧ σ241.1 218 23 = σ238.1 218 23 ∧ σ241.1 218 24 = σ238.1 218 24 ∧ σ241.1 218 25 = σ238.1 218 25) := hqv240
          have hkv240 := hqv240
          have hqv240 := hqv240.1
          have r231_σ241 : σ241.1 231 = σ0.1 231 := (hOσ241.2 231 (by decide)).trans r231_σ238
          have hK : TOK σ241.1 := by first | exact hqv240.1 | exact TOK_p eσ241 (by decide) hK
          have hB : ZB σ241.1 := ZB.tr hOσ241 (by decide) hB
          try simp only [g7_σ238, g9_σ238, g14_σ238, g15_σ238, g20_σ238, g22_σ238, g23_σ238, g24_σ238, g25_σ238] at hqv240
          have g7_σ241 : σ241.1 218 7 = (σ0.1 218 7) := (hkv240.2.1).trans g7_σ238
          have g9_σ241 : σ241.1 218 9 = (σ0.1 218 9) := (hkv240.2.2.1).trans g9_σ238
          have g14_σ241 : σ241.1 218 14 = (σ0.1 218 14) := (hkv240.2.2.2.1).trans g14_σ238
          have g15_σ241 : σ241.1 218 15 = (σ0.1 218 15) := (hkv240.2.2.2.2.1).trans g15_σ238
          have g20_σ241 : σ241.1 218 20 = (σ0.1 218 20) := (hkv240.2.2.2.2.2.1).trans g20_σ238
          have g22_σ241 : σ241.1 218 22 = (σ0.1 218 22) := (hkv240.2.2.2.2.2.2.1).trans g22_σ238
          have g23_σ241 : σ241.1 218 23 = (σ0.1 218 23) := (hkv240.2.2.2.2.2.2.2.1).trans g23_σ238
          have g24_σ241 : σ241.1 218 24 = (σ0.1 218 24) := (hkv240.2.2.2.2.2.2.2.2.1).trans g24_σ238
          have g25_σ241 : σ241.1 218 25 = (σ0.1 218 25) := (hkv240.2.2.2.2.2.2.2.2.2).trans g25_σ238
          have k110 := hK.1
          have m110 := hqv240.2.1
          have r110 : σ241.1 231 = σ0.1 231 := r231_σ241
          refine ok_if (fun hc242 => ?_) (fun hc242 => ?_)
          · refine ok_gC rfl ?_
            refine ok_zbT (Q := fun V σ => (TOK σ.1 ∧ (σ241.1 218 10).toInt ≤ (σ.1 218 11).toInt) ∧ (σ.1 218 7 = σ241.1 218 7 ∧ σ.1 218 9 = σ241.1 218 9 ∧ σ.1 218 14 = σ241.1 218 14 ∧ σ.1 218 15 = σ241.1 218 15 ∧ σ.1 218 20 = σ241.1 218 20 ∧ σ.1 218 22 = σ241.1 218 22 ∧ σ.1 218 23 = σ241.1 218 23 ∧ σ.1 218 24 = σ241.1 218 24 ∧ σ.1 218 25 = σ241.1 218 25)) hT (s_X12_advance hN (hR.tr hT) (TOK_A hK) (by rw [hT.2 224 (by decide)]; exact hY)) (by decide) (fun v243 σ244 hOσ244 hT hqv243 => ?_)
            have hqv243 : (TOK σ244.1 ∧ (σ241.1 218 10).toInt ≤ (σ244.1 218 11).toInt) ∧ (σ244.1 218 7 = σ241.1 218 7 ∧ σ244.1 218 9 = σ241.1 218 9 ∧ σ244.1 218 14 = σ241.1 218 14 ∧ σ244.1 218 15 = σ241.1 218 15 ∧ σ244.1 218 20 = σ241.1 218 20 ∧ σ244.1 218 22 = σ241.1 218 22 ∧ σ244.1 218 23 = σ241.1 218 23 ∧ σ244.1 218 24 = σ241.1 218 24 ∧ σ244.1 218 25 = σ241.1 218 25) := hqv243
            have hkv243 := hqv243
            have hqv243 := hqv243.1
            have r231_σ244 : σ244.1 231 = σ0.1 231 := (hOσ244.2 231 (by decide)).trans r231_σ241
            have hK : TOK σ244.1 := by first | exact hqv243.1 | exact TOK_p eσ244 (by decide) hK
            have hB : ZB σ244.1 := ZB.tr hOσ244 (by decide) hB
            try simp only [g7_σ241, g9_σ241, g14_σ241, g15_σ241, g20_σ241, g22_σ241, g23_σ241, g24_σ241, g25_σ241] at hqv243
            have g7_σ244 : σ244.1 218 7 = (σ0.1 218 7) := (hkv243.2.1).trans g7_σ241
            have g9_σ244 : σ244.1 218 9 = (σ0.1 218 9) := (hkv243.2.2.1).trans g9_σ241
            have g14_σ244 : σ244.1 218 14 = (σ0.1 218 14) := (hkv243.2.2.2.1).trans g14_σ241
            have g15_σ244 : σ244.1 218 15 = (σ0.1 218 15) := (hkv243.2.2.2.2.1).trans g15_σ241
            have g20_σ244 : σ244.1 218 20 = (σ0.1 218 20) := (hkv243.2.2.2.2.2.1).trans g20_σ241
            have g22_σ244 : σ244.1 218 22 = (σ0.1 218 22) := (hkv243.2.2.2.2.2.2.1).trans g22_σ241
            have g23_σ244 : σ244.1 218 23 = (σ0.1 218 23) := (hkv243.2.2.2.2.2.2.2.1).trans g23_σ241
            have g24_σ244 : σ244.1 218 24 = (σ0.1 218 24) := (hkv243.2.2.2.2.2.2.2.2.1).trans g24_σ241
            have g25_σ244 : σ244.1 218 25 = (σ0.1 218 25) := (hkv243.2.2.2.2.2.2.2.2.2).trans g25_σ241
            have m124 := hqv243.2
            refine ok_gC rfl ?_
            refine ok_zbT (Q := fun V σ => (TOK σ.1 ∧ (σ244.1 218 11).toInt ≤ (σ.1 218 11).toInt ∧ (σ.1 218 14 = 0 → σ244.1 218 14 = 0) ∧ ZB σ.1) ∧ (σ.1 218 7 = σ244.1 218 7 ∧ σ.1 218 9 = σ244.1 218 9)) hT (s_X12_readsLet hN (hR.tr hT) (hK) (by rw [hT.2 224 (by decide)]; exact hY) (hB) (by (first | rw [r231_σ244] | skip); exact hF)) (by decide) (fun v245 σ246 hOσ246 hT hqv245 => ?_)
            have hqv245 : (TOK σ246.1 ∧ (σ244.1 218 11).toInt ≤ (σ246.1 218 11).toInt ∧ (σ246.1 218 14 = 0 → σ244.1 218 14 = 0) ∧ ZB σ246.1) ∧ (σ246.1 218 7 = σ244.1 218 7 ∧ σ246.1 218 9 = σ244.1 218 9) := hqv245
            have hkv245 := hqv245
            have hqv245 := hqv245.1
            have r231_σ246 : σ246.1 231 = σ0.1 231 := (hOσ246.2 231 (by decide)).trans r231_σ244
            have hK : TOK σ246.1 := by first | exact hqv245.1 | exact TOK_p eσ246 (by decide) hK
            have hB : ZB σ246.1 := hqv245.2.2.2
            try simp only [g7_σ244, g9_σ244, g14_σ244, g15_σ244, g20_σ244, g22_σ244, g23_σ244, g24_σ244, g25_σ244] at hqv245
            have g7_σ246 : σ246.1 218 7 = (σ0.1 218 7) := (hkv245.2.1).trans g7_σ244
            have g9_σ246 : σ246.1 218 9 = (σ0.1 218 9) := (hkv245.2.2).trans g9_σ244
            have m128 := hqv245.2.1
            exact ok_some ⟨hT, (show (TOK σ246.1 ∧ (σ0.1 218 11).toInt ≤ (σ246.1 218 11).toInt ∧ FW (σ246.1 231) ∧ σ246.1 231 1 = σ0.1 231 1 ∧ ZB σ246.1) ∧ (σ246.1 218 7 = σ0.1 218 7 ∧ σ246.1 218 9 = σ0.1 218 9) from ⟨by first | exact ⟨hK, by (try simp only [g7_σ246, g9_σ246]); omega, by (first | rw [r231_σ246] | skip); exact hF, congrFun r231_σ246 1, hB⟩ | exact ⟨hK, by (try simp only [g7_σ246, g9_σ246]); omega, k102.1, q102, hB⟩ | exact ⟨hK, by (try simp only [g7_σ246, g9_σ246]); omega, f117, q117, hB⟩, g7_σ246, g9_σ246⟩)⟩
          · have t113 := (hqv240.2.2.2 hc242).1.2
            refine ok_gC rfl ?_
            refine ok_zbT (Q := fun V σ => (TOK σ.1 ∧ (σ241.1 218 11).toInt ≤ (σ.1 218 11).toInt ∧ (σ.1 218 14 = 0 → σ241.1 218 14 = 0) ∧ FW (σ.1 231) ∧ σ.1 231 1 = σ241.1 231 1) ∧ (σ.1 218 7 = σ241.1 218 7 ∧ σ.1 218 9 = σ241.1 218 9 ∧ σ.1 218 20 = σ241.1 218 20 ∧ σ.1 218 22 = σ241.1 218 22 ∧ σ.1 218 23 = σ241.1 218 23 ∧ σ.1 218 24 = σ241.1 218 24 ∧ σ.1 218 25 = σ241.1 218 25)) hT (s_X12_readsEdge hN (hR.tr hT) (hK) (by rw [hT.2 224 (by decide)]; exact hY) (by (first | rw [r231_σ241] | skip); exact hF) (by (first | rw [r231_σ241] | skip); first | exact k57 | exact (is_ne f42 t113 s77.1).elim | exact absurd y69 n62 | exact absurd y69 n32)) (by decide) (fun v247 σ248 hOσ248 hT hqv247 => ?_)
            have hqv247 : (TOK σ248.1 ∧ (σ241.1 218 11).toInt ≤ (σ248.1 218 11).toInt ∧ (σ248.1 218 14 = 0 → σ241.1 218 14 = 0) ∧ FW (σ248.1 231) ∧ σ248.1 231 1 = σ241.1 231 1) ∧ (σ248.1 218 7 = σ241.1 218 7 ∧ σ248.1 218 9 = σ241.1 218 9 ∧ σ248.1 218 20 = σ241.1 218 20 ∧ σ248.1 218 22 = σ241.1 218 22 ∧ σ248.1 218 23 = σ241.1 218 23 ∧ σ248.1 218 24 = σ241.1 218 24 ∧ σ248.1 218 25 = σ241.1 218 25) := hqv247
            have hkv247 := hqv247
            have hqv247 := hqv247.1
            have hK : TOK σ248.1 := by first | exact hqv247.1 | exact TOK_p eσ248 (by decide) hK
            have hB : ZB σ248.1 := ZB.tr hOσ248 (by decide) hB
            try simp only [g7_σ241, g9_σ241, g14_σ241, g15_σ241, g20_σ241, g22_σ241, g23_σ241, g24_σ241, g25_σ241] at hqv247
            have g7_σ248 : σ248.1 218 7 = (σ0.1 218 7) := (hkv247.2.1).trans g7_σ241
            have g9_σ248 : σ248.1 218 9 = (σ0.1 218 9) := (hkv247.2.2.1).trans g9_σ241
            have g20_σ248 : σ248.1 218 20 = (σ0.1 218 20) := (hkv247.2.2.2.1).trans g20_σ241
            have g22_σ248 : σ248.1 218 22 = (σ0.1 218 22) := (hkv247.2.2.2.2.1).trans g22_σ241
            have g23_σ248 : σ248.1 218 23 = (σ0.1 218 23) := (hkv247.2.2.2.2.2.1).trans g23_σ241
            have g24_σ248 : σ248.1 218 24 = (σ0.1 218 24) := (hkv247.2.2.2.2.2.2.1).trans g24_σ241
            have g25_σ248 : σ248.1 218 25 = (σ0.1 218 25) := (hkv247.2.2.2.2.2.2.2).trans g25_σ241
            have m117 := hqv247.2.1
            have f117 := hqv247.2.2.2.1
            have q117 : σ248.1 231 1 = σ0.1 231 1 := hqv247.2.2.2.2.trans (congrFun r110 1)
            exact ok_some ⟨hT, (show (TOK σ248.1 ∧ (σ0.1 218 11).toInt ≤ (σ248.1 218 11).toInt ∧ FW (σ248.1 231) ∧ σ248.1 231 1 = σ0.1 231 1 ∧ ZB σ248.1) ∧ (σ248.1 218 7 = σ0.1 218 7 ∧ σ248.1 218 9 = σ0.1 218 9) from ⟨by first | exact ⟨hK, by (try simp only [g7_σ248, g9_σ248, g20_σ248, g22_σ248, g23_σ248, g24_σ248, g25_σ248]); omega, by (first | rw [rfl] | skip); exact hF, congrFun rfl 1, hB⟩ | exact ⟨hK, by (try simp only [g7_σ248, g9_σ248, g20_σ248, g22_σ248, g23_σ248, g24_σ248, g25_σ248]); omega, k102.1, q102, hB⟩ | exact ⟨hK, by (try simp only [g7_σ248, g9_σ248, g20_σ248, g22_σ248, g23_σ248, g24_σ248, g25_σ248]); omega, f117, q117, hB⟩, g7_σ248, g9_σ248⟩)⟩
        · refine ok_gC rfl ?_
          refine ok_zbT (Q := fun V σ => (TOK σ.1 ∧ (σ238.1 218 11).toInt ≤ (σ.1 218 11).toInt ∧ (σ.1 218 14 = 0 → σ238.1 218 14 = 0) ∧ 0 ≤ V.toInt ∧ V.toInt ≤ 9) ∧ (σ.1 218 7 = σ238.1 218 7 ∧ σ.1 218 9 = σ238.1 218 9 ∧ σ.1 218 20 = σ238.1 218 20 ∧ σ.1 218 22 = σ238.1 218 22 ∧ σ.1 218 23 = σ238.1 218 23 ∧ σ.1 218 24 = σ238.1 218 24 ∧ σ.1 218 25 = σ238.1 218 25)) hT (s_X12_readsName hN (hR.tr hT) (hK) (by rw [hT.2 224 (by decide)]; exact hY) (by (first | rw [r231_σ238] | skip); exact hF)) (by decide) (fun v249 σ250 hOσ250 hT hqv249 => ?_)
          have hqv249 : (TOK σ250.1 ∧ (σ238.1 218 11).toInt ≤ (σ250.1 218 11).toInt ∧ (σ250.1 218 14 = 0 → σ238.1 218 14 = 0) ∧ 0 ≤ v249.toInt ∧ v249.toInt ≤ 9) ∧ (σ250.1 218 7 = σ238.1 218 7 ∧ σ250.1 218 9 = σ238.1 218 9 ∧ σ250.1 218 20 = σ238.1 218 20 ∧ σ250.1 218 22 = σ238.1 218 22 ∧ σ250.1 218 23 = σ238.1 218 23 ∧ σ250.1 218 24 = σ238.1 218 24 ∧ σ250.1 218 25 = σ238.1 218 25) := hqv249
          have hkv249 := hqv249
          have hqv249 := hqv249.1
          have r231_σ250 : σ250.1 231 = σ0.1 231 := (hOσ250.2 231 (by decide)).trans r231_σ238
          have hK : TOK σ250.1 := by first | exact hqv249.1 | exact TOK_p eσ250 (by decide) hK
          have hB : ZB σ250.1 := ZB.tr hOσ250 (by decide) hB
          try simp only [g7_σ238, g9_σ238, g14_σ238, g15_σ238, g20_σ238, g22_σ238, g23_σ238, g24_σ238, g25_σ238] at hqv249
          have g7_σ250 : σ250.1 218 7 = (σ0.1 218 7) := (hkv249.2.1).trans g7_σ238
          have g9_σ250 : σ250.1 218 9 = (σ0.1 218 9) := (hkv249.2.2.1).trans g9_σ238
          have g20_σ250 : σ250.1 218 20 = (σ0.1 218 20) := (hkv249.2.2.2.1).trans g20_σ238
          have g22_σ250 : σ250.1 218 22 = (σ0.1 218 22) := (hkv249.2.2.2.2.1).trans g22_σ238
          have g23_σ250 : σ250.1 218 23 = (σ0.1 218 23) := (hkv249.2.2.2.2.2.1).trans g23_σ238
          have g24_σ250 : σ250.1 218 24 = (σ0.1 218 24) := (hkv249.2.2.2.2.2.2.1).trans g24_σ238
          have g25_σ250 : σ250.1 218 25 = (σ0.1 218 25) := (hkv249.2.2.2.2.2.2.2).trans g25_σ238
          have m84 := hqv249.2.1
          have b84 := hqv249.2.2.2
          have i84 := ti3 (x := v249) (by omega) (by omega)
          refine ok_gR (v := 231) hT rfl (hR 218 26 rfl) ?_
          refine ok_gC rfl ?_
          refine ok_zbT (Q := fun V σ => (TOK σ.1 ∧ (σ250.1 218 11).toInt ≤ (σ.1 218 11).toInt ∧ (σ.1 218 14 = 0 → (σ250.1 218 14 = 0 ∧ (σ250.1 218 11).toInt < (σ.1 218 11).toInt) ∧ (0 : Int32).toInt ≤ V.toInt ∧ V.toInt ≤ (99 : Int32).toInt) ∧ (¬ σ.1 218 14 = 0 → V = 0)) ∧ (σ.1 218 7 = σ250.1 218 7 ∧ σ.1 218 9 = σ250.1 218 9 ∧ σ.1 218 20 = σ250.1 218 20 ∧ σ.1 218 22 = σ250.1 218 22 ∧ σ.1 218 23 = σ250.1 218 23 ∧ σ.1 218 24 = σ250.1 218 24 ∧ σ.1 218 25 = σ250.1 218 25)) hT (s_X12_number hN (hR.tr hT) (hK) (by rw [hT.2 224 (by decide)]; exact hY)) (by decide) (fun v252 σ253 hOσ253 hT hqv252 => ?_)
          have hqv252 : (TOK σ253.1 ∧ (σ250.1 218 11).toInt ≤ (σ253.1 218 11).toInt ∧ (σ253.1 218 14 = 0 → (σ250.1 218 14 = 0 ∧ (σ250.1 218 11).toInt < (σ253.1 218 11).toInt) ∧ (0 : Int32).toInt ≤ v252.toInt ∧ v252.toInt ≤ (99 : Int32).toInt) ∧ (¬ σ253.1 218 14 = 0 → v252 = 0)) ∧ (σ253.1 218 7 = σ250.1 218 7 ∧ σ253.1 218 9 = σ250.1 218 9 ∧ σ253.1 218 20 = σ250.1 218 20 ∧ σ253.1 218 22 = σ250.1 218 22 ∧ σ253.1 218 23 = σ250.1 218 23 ∧ σ253.1 218 24 = σ250.1 218 24 ∧ σ253.1 218 25 = σ250.1 218 25) := hqv252
          have hkv252 := hqv252
          have hqv252 := hqv252.1
          have r231_σ253 : σ253.1 231 = σ0.1 231 := (hOσ253.2 231 (by decide)).trans r231_σ250
          have hK : TOK σ253.1 := by first | exact hqv252.1 | exact TOK_p eσ253 (by decide) hK
          have hB : ZB σ253.1 := ZB.tr hOσ253 (by decide) hB
          try simp only [g7_σ250, g9_σ250, g20_σ250, g22_σ250, g23_σ250, g24_σ250, g25_σ250] at hqv252
          have g7_σ253 : σ253.1 218 7 = (σ0.1 218 7) := (hkv252.2.1).trans g7_σ250
          have g9_σ253 : σ253.1 218 9 = (σ0.1 218 9) := (hkv252.2.2.1).trans g9_σ250
          have g20_σ253 : σ253.1 218 20 = (σ0.1 218 20) := (hkv252.2.2.2.1).trans g20_σ250
          have g22_σ253 : σ253.1 218 22 = (σ0.1 218 22) := (hkv252.2.2.2.2.1).trans g22_σ250
          have g23_σ253 : σ253.1 218 23 = (σ0.1 218 23) := (hkv252.2.2.2.2.2.1).trans g23_σ250
          have g24_σ253 : σ253.1 218 24 = (σ0.1 218 24) := (hkv252.2.2.2.2.2.2.1).trans g24_σ250
          have g25_σ253 : σ253.1 218 25 = (σ0.1 218 25) := (hkv252.2.2.2.2.2.2.2).trans g25_σ250
          have m99 := hqv252.2.1
          refine ok_s14 hT rfl (by decide) (by rw [i84.1]; omega) (by rw [i84.1]; omega) (fun σ254 eσ254 hOσ254 hT => ?_)
          have k102 := FW_w eσ254 (by rw [i84.2]; omega) (by rw [i84.2]; omega) (by (first | rw [r231_σ253] | skip); exact hF)
          have q102 : σ254.1 231 1 = σ0.1 231 1 := k102.2.trans (congrFun r231_σ253 1)
          have hK : TOK σ254.1 := TOK_tr hOσ254 (by decide) (by decide) hK
          have hB : ZB σ254.1 := ZB.tr hOσ254 (by decide) hB
          have g7_σ254 : σ254.1 218 7 = (σ0.1 218 7) := (congrFun (hOσ254.2 218 (by decide)) 7).trans g7_σ253
          have g9_σ254 : σ254.1 218 9 = (σ0.1 218 9) := (congrFun (hOσ254.2 218 (by decide)) 9).trans g9_σ253
          have g10_σ254 : σ254.1 218 10 = (σ253.1 218 10) := congrFun (hOσ254.2 218 (by decide)) 10
          have g11_σ254 : σ254.1 218 11 = (σ253.1 218 11) := congrFun (hOσ254.2 218 (by decide)) 11
          have g12_σ254 : σ254.1 218 12 = (σ253.1 218 12) := congrFun (hOσ254.2 218 (by decide)) 12
          have g13_σ254 : σ254.1 218 13 = (σ253.1 218 13) := congrFun (hOσ254.2 218 (by decide)) 13
          have g14_σ254 : σ254.1 218 14 = (σ253.1 218 14) := congrFun (hOσ254.2 218 (by decide)) 14
          have g15_σ254 : σ254.1 218 15 = (σ253.1 218 15) := congrFun (hOσ254.2 218 (by decide)) 15
          have g20_σ254 : σ254.1 218 20 = (σ0.1 218 20) := (congrFun (hOσ254.2 218 (by decide)) 20).trans g20_σ253
          have g22_σ254 : σ254.1 218 22 = (σ0.1 218 22) := (congrFun (hOσ254.2 218 (by decide)) 22).trans g22_σ253
          have g23_σ254 : σ254.1 218 23 = (σ0.1 218 23) := (congrFun (hOσ254.2 218 (by decide)) 23).trans g23_σ253
          have g24_σ254 : σ254.1 218 24 = (σ0.1 218 24) := (congrFun (hOσ254.2 218 (by decide)) 24).trans g24_σ253
          have g25_σ254 : σ254.1 218 25 = (σ0.1 218 25) := (congrFun (hOσ254.2 218 (by decide)) 25).trans g25_σ253
          exact ok_some ⟨hT, (show (TOK σ254.1 ∧ (σ0.1 218 11).toInt ≤ (σ254.1 218 11).toInt ∧ FW (σ254.1 231) ∧ σ254.1 231 1 = σ0.1 231 1 ∧ ZB σ254.1) ∧ (σ254.1 218 7 = σ0.1 218 7 ∧ σ254.1 218 9 = σ0.1 218 9) from ⟨by first | exact ⟨hK, by (try simp only [g7_σ254, g9_σ254, g10_σ254, g11_σ254, g12_σ254, g13_σ254, g14_σ254, g15_σ254, g20_σ254, g22_σ254, g23_σ254, g24_σ254, g25_σ254]); omega, by (first | rw [rfl] | skip); exact hF, congrFun rfl 1, hB⟩ | exact ⟨hK, by (try simp only [g7_σ254, g9_σ254, g10_σ254, g11_σ254, g12_σ254, g13_σ254, g14_σ254, g15_σ254, g20_σ254, g22_σ254, g23_σ254, g24_σ254, g25_σ254]); omega, k102.1, q102, hB⟩ | exact ⟨hK, by (try simp only [g7_σ254, g9_σ254, g10_σ254, g11_σ254, g12_σ254, g13_σ254, g14_σ254, g15_σ254, g20_σ254, g22_σ254, g23_σ254, g24_σ254, g25_σ254]); omega, f117, q117, hB⟩, g7_σ254, g9_σ254⟩)⟩
    · have qhc233 := hqv231.2 hc233
      refine ok_gR (v := 231) hT rfl (hR 218 26 rfl) ?_
      refine ok_aIn rfl (by (skip); first | omega | decide | (simp only [Int32.le_iff_toInt_le, Int32.lt_iff_toInt_lt, ti_add, ti_sub, ti_mul, Int32.reduceToInt] at *; omega)) (by (skip); first | omega | decide | (simp only [Int32.le_iff_toInt_le, Int32.lt_iff_toInt_lt, ti_add, ti_sub, ti_mul, Int32.reduceToInt] at *; omega)) (fun v256 ev256 => ?_)
      have ev50 : v256 = σ0.1 231 2 := by rw [ev256]; (first | rw [rfl] | skip); rfl
      refine ok_gR (v := 231) hT rfl (hR 218 26 rfl) ?_
      refine ok_aIn rfl (by (skip); first | omega | decide | (simp only [Int32.le_iff_toInt_le, Int32.lt_iff_toInt_lt, ti_add, ti_sub, ti_mul, Int32.reduceToInt] at *; omega)) (by (skip); first | omega | decide | (simp only [Int32.le_iff_toInt_le, Int32.lt_iff_toInt_lt, ti_add, ti_sub, ti_mul, Int32.reduceToInt] at *; omega)) (fun v258 ev258 => ?_)
      have ev56 : v258 = σ0.1 231 0 := by rw [ev258]; (first | rw [rfl] | skip); rfl
      refine ok_if (fun hc259 => ?_) (fun hc259 => ?_)
      · refine ok_gC rfl ?_
        refine ok_zbT (Q := fun V σ => (TOK σ.1 ∧ ¬ σ.1 218 14 = 0) ∧ (σ.1 218 7 = σ0.1 218 7 ∧ σ.1 218 9 = σ0.1 218 9 ∧ σ.1 218 10 = σ0.1 218 10 ∧ σ.1 218 11 = σ0.1 218 11 ∧ σ.1 218 12 = σ0.1 218 12 ∧ σ.1 218 13 = σ0.1 218 13 ∧ σ.1 218 20 = σ0.1 218 20 ∧ σ.1 218 22 = σ0.1 218 22 ∧ σ.1 218 23 = σ0.1 218 23 ∧ σ.1 218 24 = σ0.1 218 24 ∧ σ.1 218 25 = σ0.1 218 25)) hT (s_X12_errs hN (hR.tr hT) (hK) (by rw [hT.2 224 (by decide)]; exact hY) (by decide)) (by decide) (fun v260 σ261 hOσ261 hT hqv260 => ?_)
        have hqv260 : (TOK σ261.1 ∧ ¬ σ261.1 218 14 = 0) ∧ (σ261.1 218 7 = σ0.1 218 7 ∧ σ261.1 218 9 = σ0.1 218 9 ∧ σ261.1 218 10 = σ0.1 218 10 ∧ σ261.1 218 11 = σ0.1 218 11 ∧ σ261.1 218 12 = σ0.1 218 12 ∧ σ261.1 218 13 = σ0.1 218 13 ∧ σ261.1 218 20 = σ0.1 218 20 ∧ σ261.1 218 22 = σ0.1 218 22 ∧ σ261.1 218 23 = σ0.1 218 23 ∧ σ261.1 218 24 = σ0.1 218 24 ∧ σ261.1 218 25 = σ0.1 218 25) := hqv260
        have hkv260 := hqv260
        have hqv260 := hqv260.1
        have r231_σ261 : σ261.1 231 = σ0.1 231 := hOσ261.2 231 (by decide)
        have hK : TOK σ261.1 := by first | exact hqv260.1 | exact TOK_p eσ261 (by decide) hK
        have hB : ZB σ261.1 := ZB.tr hOσ261 (by decide) hB
        have g7_σ261 : σ261.1 218 7 = (σ0.1 218 7) := hkv260.2.1
        have g9_σ261 : σ261.1 218 9 = (σ0.1 218 9) := hkv260.2.2.1
        have g10_σ261 : σ261.1 218 10 = (σ0.1 218 10) := hkv260.2.2.2.1
        have g11_σ261 : σ261.1 218 11 = (σ0.1 218 11) := hkv260.2.2.2.2.1
        have g12_σ261 : σ261.1 218 12 = (σ0.1 218 12) := hkv260.2.2.2.2.2.1
        have g13_σ261 : σ261.1 218 13 = (σ0.1 218 13) := hkv260.2.2.2.2.2.2.1
        have g20_σ261 : σ261.1 218 20 = (σ0.1 218 20) := hkv260.2.2.2.2.2.2.2.1
        have g22_σ261 : σ261.1 218 22 = (σ0.1 218 22) := hkv260.2.2.2.2.2.2.2.2.1
        have g23_σ261 : σ261.1 218 23 = (σ0.1 218 23) := hkv260.2.2.2.2.2.2.2.2.2.1
        have g24_σ261 : σ261.1 218 24 = (σ0.1 218 24) := hkv260.2.2.2.2.2.2.2.2.2.2.1
        have g25_σ261 : σ261.1 218 25 = (σ0.1 218 25) := hkv260.2.2.2.2.2.2.2.2.2.2.2
        have n62 := hqv260.2
        rw [J_X12_readsLine_65.eq_1]
        refine ok_gC rfl ?_
        refine ok_zbX (Q := fun V => (V = 0 → ¬ σ261.1 218 14 = 0) ∧ (¬ V = 0 → σ261.1 218 14 = 0)) (x_X12_good) (fun v262 hqv262 => ?_)
        have hqv262 : (v262 = 0 → ¬ σ261.1 218 14 = 0) ∧ (¬ v262 = 0 → σ261.1 218 14 = 0) := hqv262
        try simp only [g7_σ261, g9_σ261, g10_σ261, g11_σ261, g12_σ261, g13_σ261, g20_σ261, g22_σ261, g23_σ261, g24_σ261, g25_σ261, hT.2 224 (by decide)] at hqv262
        refine ok_if (fun hc264 => ?_) (fun hc264 => ?_)
        · have qhc264 := hqv262.1 hc264
          exact ok_some ⟨hT, (show (TOK σ261.1 ∧ (σ0.1 218 11).toInt ≤ (σ261.1 218 11).toInt ∧ FW (σ261.1 231) ∧ σ261.1 231 1 = σ0.1 231 1 ∧ ZB σ261.1) ∧ (σ261.1 218 7 = σ0.1 218 7 ∧ σ261.1 218 9 = σ0.1 218 9) from ⟨by first | exact ⟨hK, by (try simp only [g7_σ261, g9_σ261, g10_σ261, g11_σ261, g12_σ261, g13_σ261, g20_σ261, g22_σ261, g23_σ261, g24_σ261, g25_σ261]); omega, by (first | rw [r231_σ261] | skip); exact hF, congrFun r231_σ261 1, hB⟩ | exact ⟨hK, by (try simp only [g7_σ261, g9_σ261, g10_σ261, g11_σ261, g12_σ261, g13_σ261, g20_σ261, g22_σ261, g23_σ261, g24_σ261, g25_σ261]); omega, k102.1, q102, hB⟩ | exact ⟨hK, by (try simp only [g7_σ261, g9_σ261, g10_σ261, g11_σ261, g12_σ261, g13_σ261, g20_σ261, g22_σ261, g23_σ261, g24_σ261, g25_σ261]); omega, f117, q117, hB⟩, g7_σ261, g9_σ261⟩)⟩
        · have qhc264 := hqv262.2 hc264
          have y69 := qhc264
          refine ok_gC rfl ?_
          refine ok_zbT (Q := fun V σ => (TOK σ.1 ∧ (σ261.1 218 11).toInt ≤ (σ.1 218 11).toInt ∧ (V = 0 → σ = σ261 ∧ f_X12_is N 218 12 σ261 = some (0, σ261)) ∧ (¬ V = 0 → ((σ261.1 218 14 = 0 ∧ σ261.1 218 12 = 1) ∧ f_X12_is N 218 12 σ261 = some (1, σ261)) ∧ (σ261.1 218 11).toInt < (σ.1 218 11).toInt)) ∧ (σ.1 218 7 = σ261.1 218 7 ∧ σ.1 218 9 = σ261.1 218 9 ∧ σ.1 218 14 = σ261.1 218 14 ∧ σ.1 218 15 = σ261.1 218 15 ∧ σ.1 218 20 = σ261.1 218 20 ∧ σ.1 218 22 = σ261.1 218 22 ∧ σ.1 218 23 = σ261.1 218 23 ∧ σ.1 218 24 = σ261.1 218 24 ∧ σ.1 218 25 = σ261.1 218 25)) hT (s_X12_takes hN (hR.tr hT) (hK) (by rw [hT.2 224 (by decide)]; exact hY) (by decide)) (by decide) (fun v265 σ266 hOσ266 hT hqv265 => ?_)
          have hqv265 : (TOK σ266.1 ∧ (σ261.1 218 11).toInt ≤ (σ266.1 218 11).toInt ∧ (v265 = 0 → σ266 = σ261 ∧ f_X12_is N 218 12 σ261 = some (0, σ261)) ∧ (¬ v265 = 0 → ((σ261.1 218 14 = 0 ∧ σ261.1 218 12 = 1) ∧ f_X12_is N 218 12 σ261 = some (1, σ261)) ∧ (σ261.1 218 11).toInt < (σ266.1 218 11).toInt)) ∧ (σ266.1 218 7 = σ261.1 218 7 ∧ σ266.1 218 9 = σ261.1 218 9 ∧ σ266.1 218 14 = σ261.1 218 14 ∧ σ266.1 218 15 = σ261.1 218 15 ∧ σ266.1 218 20 = σ261.1 218 20 ∧ σ266.1 218 22 = σ261.1 218 22 ∧ σ266.1 218 23 = σ261.1 218 23 ∧ σ266.1 218 24 = σ261.1 218 24 ∧ σ266.1 218 25 = σ261.1 218 25) := hqv265
          have hkv265 := hqv265
          have hqv265 := hqv265.1
          have r231_σ266 : σ266.1 231 = σ0.1 231 := (hOσ266.2 231 (by decide)).trans r231_σ261
          have hK : TOK σ266.1 := by first | exact hqv265.1 | exact TOK_p eσ266 (by decide) hK
          have hB : ZB σ266.1 := ZB.tr hOσ266 (by decide) hB
          try simp only [g7_σ261, g9_σ261, g10_σ261, g11_σ261, g12_σ261, g13_σ261, g20_σ261, g22_σ261, g23_σ261, g24_σ261, g25_σ261] at hqv265
          have g7_σ266 : σ266.1 218 7 = (σ0.1 218 7) := (hkv265.2.1).trans g7_σ261
          have g9_σ266 : σ266.1 218 9 = (σ0.1 218 9) := (hkv265.2.2.1).trans g9_σ261
          have g14_σ266 : σ266.1 218 14 = (σ261.1 218 14) := hkv265.2.2.2.1
          have g15_σ266 : σ266.1 218 15 = (σ261.1 218 15) := hkv265.2.2.2.2.1
          have g20_σ266 : σ266.1 218 20 = (σ0.1 218 20) := (hkv265.2.2.2.2.2.1).trans g20_σ261
          have g22_σ266 : σ266.1 218 22 = (σ0.1 218 22) := (hkv265.2.2.2.2.2.2.1).trans g22_σ261
          have g23_σ266 : σ266.1 218 23 = (σ0.1 218 23) := (hkv265.2.2.2.2.2.2.2.1).trans g23_σ261
          have g24_σ266 : σ266.1 218 24 = (σ0.1 218 24) := (hkv265.2.2.2.2.2.2.2.2.1).trans g24_σ261
          have g25_σ266 : σ266.1 218 25 = (σ0.1 218 25) := (hkv265.2.2.2.2.2.2.2.2.2).trans g25_σ261
          have m77 := hqv265.2.1
          refine ok_if (fun hc267 => ?_) (fun hc267 => ?_)
          · have s77 := hqv265.2.2.1 hc267
            refine ok_gC rfl ?_
            refine ok_zbT (Q := fun V σ => (TOK σ.1 ∧ (σ266.1 218 11).toInt ≤ (σ.1 218 11).toInt ∧ (V = 0 → σ = σ266 ∧ f_X12_is N 218 13 σ266 = some (0, σ266)) ∧ (¬ V = 0 → ((σ266.1 218 14 = 0 ∧ σ266.1 218 12 = 1) ∧ f_X12_is N 218 13 σ266 = some (1, σ266)) ∧ (σ266.1 218 11).toInt < (σ.1 218 11).toInt)) ∧ (σ.1 218 7 = σ266.1 218 7 ∧ σ.1 218 9 = σ266.1 218 9 ∧ σ.1 218 14 = σ266.1 218 14 ∧ σ.1 218 15 = σ266.1 218 15 ∧ σ.1 218 20 = σ266.1 218 20 ∧ σ.1 218 22 = σ266.1 218 22 ∧ σ.1 218 23 = σ266.1 218 23 ∧ σ.1 218 24 = σ266.1 218 24 ∧ σ.1 218 25 = σ266.1 218 25)) hT (s_X12_takes hN (hR.tr hT) (hK) (by rw [hT.2 224 (by decide)]; exact hY) (by decide)) (by decide) (fun v268 σ269 hOσ269 hT hqv268 => ?_)
            have hqv268 : (TOK σ269.1 ∧ (σ266.1 218 11).toInt ≤ (σ269.1 218 11).toInt ∧ (v268 = 0 → σ269 = σ266 ∧ f_X12_is N 218 13 σ266 = some (0, σ266)) ∧ (¬ v268 = 0 → ((σ266.1 218 14 = 0 ∧ σ266.1 218 12 = 1) ∧ f_X12_is N 218 13 σ266 = some (1, σ266)) ∧ (σ266.1 218 11).toInt < (σ269.1 218 11).toInt)) ∧ (σ269.1 218 7 = σ266.1 218 7 ∧ σ269.1 218 9 = σ266.1 218 9 ∧ σ269.1 218 14 = σ266.1 218 14 ∧ σ269.1 218 15 = σ266.1 218 15 ∧ σ269.1 218 20 = σ266.1 218 20 ∧ σ269.1 218 22 = σ266.1 218 22 ∧ σ269.1 218 23 = σ266.1 218 23 ∧ σ269.1 218 24 = σ266.1 218 24 ∧ σ269.1 218 25 = σ266.1 218 25) := hqv268
            have hkv268 := hqv268
            have hqv268 := hqv268.1
            have r231_σ269 : σ269.1 231 = σ0.1 231 := (hOσ269.2 231 (by decide)).trans r231_σ266
            have hK : TOK σ269.1 := by first | exact hqv268.1 | exact TOK_p eσ269 (by decide) hK
            have hB : ZB σ269.1 := ZB.tr hOσ269 (by decide) hB
            try simp only [g7_σ266, g9_σ266, g14_σ266, g15_σ266, g20_σ266, g22_σ266, g23_σ266, g24_σ266, g25_σ266] at hqv268
            have g7_σ269 : σ269.1 218 7 = (σ0.1 218 7) := (hkv268.2.1).trans g7_σ266
            have g9_σ269 : σ269.1 218 9 = (σ0.1 218 9) := (hkv268.2.2.1).trans g9_σ266
            have g14_σ269 : σ269.1 218 14 = (σ261.1 218 14) := (hkv268.2.2.2.1).trans g14_σ266
            have g15_σ269 : σ269.1 218 15 = (σ261.1 218 15) := (hkv268.2.2.2.2.1).trans g15_σ266
            have g20_σ269 : σ269.1 218 20 = (σ0.1 218 20) := (hkv268.2.2.2.2.2.1).trans g20_σ266
            have g22_σ269 : σ269.1 218 22 = (σ0.1 218 22) := (hkv268.2.2.2.2.2.2.1).trans g22_σ266
            have g23_σ269 : σ269.1 218 23 = (σ0.1 218 23) := (hkv268.2.2.2.2.2.2.2.1).trans g23_σ266
            have g24_σ269 : σ269.1 218 24 = (σ0.1 218 24) := (hkv268.2.2.2.2.2.2.2.2.1).trans g24_σ266
            have g25_σ269 : σ269.1 218 25 = (σ0.1 218 25) := (hkv268.2.2.2.2.2.2.2.2.2).trans g25_σ266
            have k110 := hK.1
            have m110 := hqv268.2.1
            have r110 : σ269.1 231 = σ0.1 231 := r231_σ269
            refine ok_if (fun hc270 => ?_) (fun hc270 => ?_)
            · refine ok_gC rfl ?_
              refine ok_zbT (Q := fun V σ => (TOK σ.1 ∧ (σ269.1 218 10).toInt ≤ (σ.1 218 11).toInt) ∧ (σ.1 218 7 = σ269.1 218 7 ∧ σ.1 218 9 = σ269.1 218 9 ∧ σ.1 218 14 = σ269.1 218 14 ∧ σ.1 218 15 = σ269.1 218 15 ∧ σ.1 218 20 = σ269.1 218 20 ∧ σ.1 218 22 = σ269.1 218 22 ∧ σ.1 218 23 = σ269.1 218 23 ∧ σ.1 218 24 = σ269.1 218 24 ∧ σ.1 218 25 = σ269.1 218 25)) hT (s_X12_advance hN (hR.tr hT) (TOK_A hK) (by rw [hT.2 224 (by decide)]; exact hY)) (by decide) (fun v271 σ272 hOσ272 hT hqv271 => ?_)
              have hqv271 : (TOK σ272.1 ∧ (σ269.1 218 10).toInt ≤ (σ272.1 218 11).toInt) ∧ (σ272.1 218 7 = σ269.1 218 7 ∧ σ272.1 218 9 = σ269.1 218 9 ∧ σ272.1 218 14 = σ269.1 218 14 ∧ σ272.1 218 15 = σ269.1 218 15 ∧ σ272.1 218 20 = σ269.1 218 20 ∧ σ272.1 218 22 = σ269.1 218 22 ∧ σ272.1 218 23 = σ269.1 218 23 ∧ σ272.1 218 24 = σ269.1 218 24 ∧ σ272.1 218 25 = σ269.1 218 25) := hqv271
              have hkv271 := hqv271
              have hqv271 := hqv271.1
              have r231_σ272 : σ272.1 231 = σ0.1 231 := (hOσ272.2 231 (by decide)).trans r231_σ269
              have hK : TOK σ272.1 := by first | exact hqv271.1 | exact TOK_p eσ272 (by decide) hK
              have hB : ZB σ272.1 := ZB.tr hOσ272 (by decide) hB
              try simp only [g7_σ269, g9_σ269, g14_σ269, g15_σ269, g20_σ269, g22_σ269, g23_σ269, g24_σ269, g25_σ269] at hqv271
              have g7_σ272 : σ272.1 218 7 = (σ0.1 218 7) := (hkv271.2.1).trans g7_σ269
              have g9_σ272 : σ272.1 218 9 = (σ0.1 218 9) := (hkv271.2.2.1).trans g9_σ269
              have g14_σ272 : σ272.1 218 14 = (σ261.1 218 14) := (hkv271.2.2.2.1).trans g14_σ269
              have g15_σ272 : σ272.1 218 15 = (σ261.1 218 15) := (hkv271.2.2.2.2.1).trans g15_σ269
              have g20_σ272 : σ272.1 218 20 = (σ0.1 218 20) := (hkv271.2.2.2.2.2.1).trans g20_σ269
              have g22_σ272 : σ272.1 218 22 = (σ0.1 218 22) := (hkv271.2.2.2.2.2.2.1).trans g22_σ269
              have g23_σ272 : σ272.1 218 23 = (σ0.1 218 23) := (hkv271.2.2.2.2.2.2.2.1).trans g23_σ269
              have g24_σ272 : σ272.1 218 24 = (σ0.1 218 24) := (hkv271.2.2.2.2.2.2.2.2.1).trans g24_σ269
              have g25_σ272 : σ272.1 218 25 = (σ0.1 218 25) := (hkv271.2.2.2.2.2.2.2.2.2).trans g25_σ269
              have m124 := hqv271.2
              refine ok_gC rfl ?_
              refine ok_zbT (Q := fun V σ => (TOK σ.1 ∧ (σ272.1 218 11).toInt ≤ (σ.1 218 11).toInt ∧ (σ.1 218 14 = 0 → σ272.1 218 14 = 0) ∧ ZB σ.1) ∧ (σ.1 218 7 = σ272.1 218 7 ∧ σ.1 218 9 = σ272.1 218 9)) hT (s_X12_readsLet hN (hR.tr hT) (hK) (by rw [hT.2 224 (by decide)]; exact hY) (hB) (by (first | rw [r231_σ272] | skip); exact hF)) (by decide) (fun v273 σ274 hOσ274 hT hqv273 => ?_)
              have hqv273 : (TOK σ274.1 ∧ (σ272.1 218 11).toInt ≤ (σ274.1 218 11).toInt ∧ (σ274.1 218 14 = 0 → σ272.1 218 14 = 0) ∧ ZB σ274.1) ∧ (σ274.1 218 7 = σ272.1 218 7 ∧ σ274.1 218 9 = σ272.1 218 9) := hqv273
              have hkv273 := hqv273
              have hqv273 := hqv273.1
              have r231_σ274 : σ274.1 231 = σ0.1 231 := (hOσ274.2 231 (by decide)).trans r231_σ272
              have hK : TOK σ274.1 := by first | exact hqv273.1 | exact TOK_p eσ274 (by decide) hK
              have hB : ZB σ274.1 := hqv273.2.2.2
              try simp only [g7_σ272, g9_σ272, g14_σ272, g15_σ272, g20_σ272, g22_σ272, g23_σ272, g24_σ272, g25_σ272] at hqv273
              have g7_σ274 : σ274.1 218 7 = (σ0.1 218 7) := (hkv273.2.1).trans g7_σ272
              have g9_σ274 : σ274.1 218 9 = (σ0.1 218 9) := (hkv273.2.2).trans g9_σ272
              have m128 := hqv273.2.1
              exact ok_some ⟨hT, (show (TOK σ274.1 ∧ (σ0.1 218 11).toInt ≤ (σ274.1 218 11).toInt ∧ FW (σ274.1 231) ∧ σ274.1 231 1 = σ0.1 231 1 ∧ ZB σ274.1) ∧ (σ274.1 218 7 = σ0.1 218 7 ∧ σ274.1 218 9 = σ0.1 218 9) from ⟨by first | exact ⟨hK, by (try simp only [g7_σ274, g9_σ274]); omega, by (first | rw [r231_σ274] | skip); exact hF, congrFun r231_σ274 1, hB⟩ | exact ⟨hK, by (try simp only [g7_σ274, g9_σ274]); omega, k102.1, q102, hB⟩ | exact ⟨hK, by (try simp only [g7_σ274, g9_σ274]); omega, f117, q117, hB⟩, g7_σ274, g9_σ274⟩)⟩
            · have t113 := (hqv268.2.2.2 hc270).1.2
              refine ok_gC rfl ?_
              refine ok_zbT (Q := fun V σ => (TOK σ.1 ∧ (σ269.1 218 11).toInt ≤ (σ.1 218 11).toInt ∧ (σ.1 218 14 = 0 → σ269.1 218 14 = 0) ∧ FW (σ.1 231) ∧ σ.1 231 1 = σ269.1 231 1) ∧ (σ.1 218 7 = σ269.1 218 7 ∧ σ.1 218 9 = σ269.1 218 9 ∧ σ.1 218 20 = σ269.1 218 20 ∧ σ.1 218 22 = σ269.1 218 22 ∧ σ.1 218 23 = σ269.1 218 23 ∧ σ.1 218 24 = σ269.1 218 24 ∧ σ.1 218 25 = σ269.1 218 25)) hT (s_X12_readsEdge hN (hR.tr hT) (hK) (by rw [hT.2 224 (by decide)]; exact hY) (by (first | rw [r231_σ269] | skip); exact hF) (by (first | rw [r231_σ269] | skip); first | exact k57 | exact (is_ne f42 t113 s77.1).elim | exact absurd y69 n62 | exact absurd y69 n32)) (by decide) (fun v275 σ276 hOσ276 hT hqv275 => ?_)
              have hqv275 : (TOK σ276.1 ∧ (σ269.1 218 11).toInt ≤ (σ276.1 218 11).toInt ∧ (σ276.1 218 14 = 0 → σ269.1 218 14 = 0) ∧ FW (σ276.1 231) ∧ σ276.1 231 1 = σ269.1 231 1) ∧ (σ276.1 218 7 = σ269.1 218 7 ∧ σ276.1 218 9 = σ269.1 218 9 ∧ σ276.1 218 20 = σ269.1 218 20 ∧ σ276.1 218 22 = σ269.1 218 22 ∧ σ276.1 218 23 = σ269.1 218 23 ∧ σ276.1 218 24 = σ269.1 218 24 ∧ σ276.1 218 25 = σ269.1 218 25) := hqv275
              have hkv275 := hqv275
              have hqv275 := hqv275.1
              have hK : TOK σ276.1 := by first | exact hqv275.1 | exact TOK_p eσ276 (by decide) hK
              have hB : ZB σ276.1 := ZB.tr hOσ276 (by decide) hB
              try simp only [g7_σ269, g9_σ269, g14_σ269, g15_σ269, g20_σ269, g22_σ269, g23_σ269, g24_σ269, g25_σ269] at hqv275
              have g7_σ276 : σ276.1 218 7 = (σ0.1 218 7) := (hkv275.2.1).trans g7_σ269
              have g9_σ276 : σ276.1 218 9 = (σ0.1 218 9) := (hkv275.2.2.1).trans g9_σ269
              have g20_σ276 : σ276.1 218 20 = (σ0.1 218 20) := (hkv275.2.2.2.1).trans g20_σ269
              have g22_σ276 : σ276.1 218 22 = (σ0.1 218 22) := (hkv275.2.2.2.2.1).trans g22_σ269
              have g23_σ276 : σ276.1 218 23 = (σ0.1 218 23) := (hkv275.2.2.2.2.2.1).trans g23_σ269
              have g24_σ276 : σ276.1 218 24 = (σ0.1 218 24) := (hkv275.2.2.2.2.2.2.1).trans g24_σ269
              have g25_σ276 : σ276.1 218 25 = (σ0.1 218 25) := (hkv275.2.2.2.2.2.2.2).trans g25_σ269
              have m117 := hqv275.2.1
              have f117 := hqv275.2.2.2.1
              have q117 : σ276.1 231 1 = σ0.1 231 1 := hqv275.2.2.2.2.trans (congrFun r110 1)
              exact ok_some ⟨hT, (show (TOK σ276.1 ∧ (σ0.1 218 11).toInt ≤ (σ276.1 218 11).toInt ∧ FW (σ276.1 231) ∧ σ276.1 231 1 = σ0.1 231 1 ∧ ZB σ276.1) ∧ (σ276.1 218 7 = σ0.1 218 7 ∧ σ276.1 218 9 = σ0.1 218 9) from ⟨by first | exact ⟨hK, by (try simp only [g7_σ276, g9_σ276, g20_σ276, g22_σ276, g23_σ276, g24_σ276, g25_σ276]); omega, by (first | rw [rfl] | skip); exact hF, congrFun rfl 1, hB⟩ | exact ⟨hK, by (try simp only [g7_σ276, g9_σ276, g20_σ276, g22_σ276, g23_σ276, g24_σ276, g25_σ276]); omega, k102.1, q102, hB⟩ | exact ⟨hK, by (try simp only [g7_σ276, g9_σ276, g20_σ276, g22_σ276, g23_σ276, g24_σ276, g25_σ276]); omega, f117, q117, hB⟩, g7_σ276, g9_σ276⟩)⟩
          · refine ok_gC rfl ?_
            refine ok_zbT (Q := fun V σ => (TOK σ.1 ∧ (σ266.1 218 11).toInt ≤ (σ.1 218 11).toInt ∧ (σ.1 218 14 = 0 → σ266.1 218 14 = 0) ∧ 0 ≤ V.toInt ∧ V.toInt ≤ 9) ∧ (σ.1 218 7 = σ266.1 218 7 ∧ σ.1 218 9 = σ266.1 218 9 ∧ σ.1 218 20 = σ266.1 218 20 ∧ σ.1 218 22 = σ266.1 218 22 ∧ σ.1 218 23 = σ266.1 218 23 ∧ σ.1 218 24 = σ266.1 218 24 ∧ σ.1 218 25 = σ266.1 218 25)) hT (s_X12_readsName hN (hR.tr hT) (hK) (by rw [hT.2 224 (by decide)]; exact hY) (by (first | rw [r231_σ266] | skip); exact hF)) (by decide) (fun v277 σ278 hOσ278 hT hqv277 => ?_)
            have hqv277 : (TOK σ278.1 ∧ (σ266.1 218 11).toInt ≤ (σ278.1 218 11).toInt ∧ (σ278.1 218 14 = 0 → σ266.1 218 14 = 0) ∧ 0 ≤ v277.toInt ∧ v277.toInt ≤ 9) ∧ (σ278.1 218 7 = σ266.1 218 7 ∧ σ278.1 218 9 = σ266.1 218 9 ∧ σ278.1 218 20 = σ266.1 218 20 ∧ σ278.1 218 22 = σ266.1 218 22 ∧ σ278.1 218 23 = σ266.1 218 23 ∧ σ278.1 218 24 = σ266.1 218 24 ∧ σ278.1 218 25 = σ266.1 218 25) := hqv277
            have hkv277 := hqv277
            have hqv277 := hqv277.1
            have r231_σ278 : σ278.1 231 = σ0.1 231 := (hOσ278.2 231 (by decide)).trans r231_σ266
            have hK : TOK σ278.1 := by first | exact hqv277.1 | exact TOK_p eσ278 (by decide) hK
            have hB : ZB σ278.1 := ZB.tr hOσ278 (by decide) hB
            try simp only [g7_σ266, g9_σ266, g14_σ266, g15_σ266, g20_σ266, g22_σ266, g23_σ266, g24_σ266, g25_σ266] at hqv277
            have g7_σ278 : σ278.1 218 7 = (σ0.1 218 7) := (hkv277.2.1).trans g7_σ266
            have g9_σ278 : σ278.1 218 9 = (σ0.1 218 9) := (hkv277.2.2.1).trans g9_σ266
            have g20_σ278 : σ278.1 218 20 = (σ0.1 218 20) := (hkv277.2.2.2.1).trans g20_σ266
            have g22_σ278 : σ278.1 218 22 = (σ0.1 218 22) := (hkv277.2.2.2.2.1).trans g22_σ266
            have g23_σ278 : σ278.1 218 23 = (σ0.1 218 23) := (hkv277.2.2.2.2.2.1).trans g23_σ266
            have g24_σ278 : σ278.1 218 24 = (σ0.1 218 24) := (hkv277.2.2.2.2.2.2.1).trans g24_σ266
            have g25_σ278 : σ278.1 218 25 = (σ0.1 218 25) := (hkv277.2.2.2.2.2.2.2).trans g25_σ266
            have m84 := hqv277.2.1
            have b84 := hqv277.2.2.2
            have i84 := ti3 (x := v277) (by omega) (by omega)
            refine ok_gR (v := 231) hT rfl (hR 218 26 rfl) ?_
            refine ok_gC rfl ?_
            refine ok_zbT (Q := fun V σ => (TOK σ.1 ∧ (σ278.1 218 11).toInt ≤ (σ.1 218 11).toInt ∧ (σ.1 218 14 = 0 → (σ278.1 218 14 = 0 ∧ (σ278.1 218 11).toInt < (σ.1 218 11).toInt) ∧ (0 : Int32).toInt ≤ V.toInt ∧ V.toInt ≤ (99 : Int32).toInt) ∧ (¬ σ.1 218 14 = 0 → V = 0)) ∧ (σ.1 218 7 = σ278.1 218 7 ∧ σ.1 218 9 = σ278.1 218 9 ∧ σ.1 218 20 = σ278.1 218 20 ∧ σ.1 218 22 = σ278.1 218 22 ∧ σ.1 218 23 = σ278.1 218 23 ∧ σ.1 218 24 = σ278.1 218 24 ∧ σ.1 218 25 = σ278.1 218 25)) hT (s_X12_number hN (hR.tr hT) (hK) (by rw [hT.2 224 (by decide)]; exact hY)) (by decide) (fun v280 σ281 hOσ281 hT hqv280 => ?_)
            have hqv280 : (TOK σ281.1 ∧ (σ278.1 218 11).toInt ≤ (σ281.1 218 11).toInt ∧ (σ281.1 218 14 = 0 → (σ278.1 218 14 = 0 ∧ (σ278.1 218 11).toInt < (σ281.1 218 11).toInt) ∧ (0 : Int32).toInt ≤ v280.toInt ∧ v280.toInt ≤ (99 : Int32).toInt) ∧ (¬ σ281.1 218 14 = 0 → v280 = 0)) ∧ (σ281.1 218 7 = σ278.1 218 7 ∧ σ281.1 218 9 = σ278.1 218 9 ∧ σ281.1 218 20 = σ278.1 218 20 ∧ σ281.1 218 22 = σ278.1 218 22 ∧ σ281.1 218 23 = σ278.1 218 23 ∧ σ281.1 218 24 = σ278.1 218 24 ∧ σ281.1 218 25 = σ278.1 218 25) := hqv280
            have hkv280 := hqv280
            have hqv280 := hqv280.1
            have r231_σ281 : σ281.1 231 = σ0.1 231 := (hOσ281.2 231 (by decide)).trans r231_σ278
            have hK : TOK σ281.1 := by first | exact hqv280.1 | exact TOK_p eσ281 (by decide) hK
            have hB : ZB σ281.1 := ZB.tr hOσ281 (by decide) hB
            try simp only [g7_σ278, g9_σ278, g20_σ278, g22_σ278, g23_σ278, g24_σ278, g25_σ278] at hqv280
            have g7_σ281 : σ281.1 218 7 = (σ0.1 218 7) := (hkv280.2.1).trans g7_σ278
            have g9_σ281 : σ281.1 218 9 = (σ0.1 218 9) := (hkv280.2.2.1).trans g9_σ278
            have g20_σ281 : σ281.1 218 20 = (σ0.1 218 20) := (hkv280.2.2.2.1).trans g20_σ278
            have g22_σ281 : σ281.1 218 22 = (σ0.1 218 22) := (hkv280.2.2.2.2.1).trans g22_σ278
            have g23_σ281 : σ281.1 218 23 = (σ0.1 218 23) := (hkv280.2.2.2.2.2.1).trans g23_σ278
            have g24_σ281 : σ281.1 218 24 = (σ0.1 218 24) := (hkv280.2.2.2.2.2.2.1).trans g24_σ278
            have g25_σ281 : σ281.1 218 25 = (σ0.1 218 25) := (hkv280.2.2.2.2.2.2.2).trans g25_σ278
            have m99 := hqv280.2.1
            refine ok_s14 hT rfl (by decide) (by rw [i84.1]; omega) (by rw [i84.1]; omega) (fun σ282 eσ282 hOσ282 hT => ?_)
            have k102 := FW_w eσ282 (by rw [i84.2]; omega) (by rw [i84.2]; omega) (by (first | rw [r231_σ281] | skip); exact hF)
            have q102 : σ282.1 231 1 = σ0.1 231 1 := k102.2.trans (congrFun r231_σ281 1)
            have hK : TOK σ282.1 := TOK_tr hOσ282 (by decide) (by decide) hK
            have hB : ZB σ282.1 := ZB.tr hOσ282 (by decide) hB
            have g7_σ282 : σ282.1 218 7 = (σ0.1 218 7) := (congrFun (hOσ282.2 218 (by decide)) 7).trans g7_σ281
            have g9_σ282 : σ282.1 218 9 = (σ0.1 218 9) := (congrFun (hOσ282.2 218 (by decide)) 9).trans g9_σ281
            have g10_σ282 : σ282.1 218 10 = (σ281.1 218 10) := congrFun (hOσ282.2 218 (by decide)) 10
            have g11_σ282 : σ282.1 218 11 = (σ281.1 218 11) := congrFun (hOσ282.2 218 (by decide)) 11
            have g12_σ282 : σ282.1 218 12 = (σ281.1 218 12) := congrFun (hOσ282.2 218 (by decide)) 12
            have g13_σ282 : σ282.1 218 13 = (σ281.1 218 13) := congrFun (hOσ282.2 218 (by decide)) 13
            have g14_σ282 : σ282.1 218 14 = (σ281.1 218 14) := congrFun (hOσ282.2 218 (by decide)) 14
            have g15_σ282 : σ282.1 218 15 = (σ281.1 218 15) := congrFun (hOσ282.2 218 (by decide)) 15
            have g20_σ282 : σ282.1 218 20 = (σ0.1 218 20) := (congrFun (hOσ282.2 218 (by decide)) 20).trans g20_σ281
            have g22_σ282 : σ282.1 218 22 = (σ0.1 218 22) := (congrFun (hOσ282.2 218 (by decide)) 22).trans g22_σ281
            have g23_σ282 : σ282.1 218 23 = (σ0.1 218 23) := (congrFun (hOσ282.2 218 (by decide)) 23).trans g23_σ281
            have g24_σ282 : σ282.1 218 24 = (σ0.1 218 24) := (congrFun (hOσ282.2 218 (by decide)) 24).trans g24_σ281
            have g25_σ282 : σ282.1 218 25 = (σ0.1 218 25) := (congrFun (hOσ282.2 218 (by decide)) 25).trans g25_σ281
            exact ok_some ⟨hT, (show (TOK σ282.1 ∧ (σ0.1 218 11).toInt ≤ (σ282.1 218 11).toInt ∧ FW (σ282.1 231) ∧ σ282.1 231 1 = σ0.1 231 1 ∧ ZB σ282.1) ∧ (σ282.1 218 7 = σ0.1 218 7 ∧ σ282.1 218 9 = σ0.1 218 9) from ⟨by first | exact ⟨hK, by (try simp only [g7_σ282, g9_σ282, g10_σ282, g11_σ282, g12_σ282, g13_σ282, g14_σ282, g15_σ282, g20_σ282, g22_σ282, g23_σ282, g24_σ282, g25_σ282]); omega, by (first | rw [rfl] | skip); exact hF, congrFun rfl 1, hB⟩ | exact ⟨hK, by (try simp only [g7_σ282, g9_σ282, g10_σ282, g11_σ282, g12_σ282, g13_σ282, g14_σ282, g15_σ282, g20_σ282, g22_σ282, g23_σ282, g24_σ282, g25_σ282]); omega, k102.1, q102, hB⟩ | exact ⟨hK, by (try simp only [g7_σ282, g9_σ282, g10_σ282, g11_σ282, g12_σ282, g13_σ282, g14_σ282, g15_σ282, g20_σ282, g22_σ282, g23_σ282, g24_σ282, g25_σ282]); omega, f117, q117, hB⟩, g7_σ282, g9_σ282⟩)⟩
      · have n57 := hc259
        rw [ev50, ev56] at n57
        have k57 : (σ0.1 231 2).toInt < (σ0.1 231 0).toInt := by rcases Int.lt_or_eq_of_le hF.1.2.2 with q | q; exact q; exact absurd (Int32.toInt_inj.mp q) n57
        rw [J_X12_readsLine_65.eq_1]
        refine ok_gC rfl ?_
        refine ok_zbX (Q := fun V => (V = 0 → ¬ σ0.1 218 14 = 0) ∧ (¬ V = 0 → σ0.1 218 14 = 0)) (x_X12_good) (fun v283 hqv283 => ?_)
        have hqv283 : (v283 = 0 → ¬ σ0.1 218 14 = 0) ∧ (¬ v283 = 0 → σ0.1 218 14 = 0) := hqv283
        refine ok_if (fun hc285 => ?_) (fun hc285 => ?_)
        · have qhc285 := hqv283.1 hc285
          exact ok_some ⟨hT, (show (TOK σ0.1 ∧ (σ0.1 218 11).toInt ≤ (σ0.1 218 11).toInt ∧ FW (σ0.1 231) ∧ σ0.1 231 1 = σ0.1 231 1 ∧ ZB σ0.1) ∧ (σ0.1 218 7 = σ0.1 218 7 ∧ σ0.1 218 9 = σ0.1 218 9) from ⟨by first | exact ⟨hK, by skip; omega, by (first | rw [rfl] | skip); exact hF, congrFun rfl 1, hB⟩ | exact ⟨hK, by skip; omega, k102.1, q102, hB⟩ | exact ⟨hK, by skip; omega, f117, q117, hB⟩, rfl, rfl⟩)⟩
        · have qhc285 := hqv283.2 hc285
          have y69 := qhc285
          refine ok_gC rfl ?_
          refine ok_zbT (Q := fun V σ => (TOK σ.1 ∧ (σ0.1 218 11).toInt ≤ (σ.1 218 11).toInt ∧ (V = 0 → σ = σ0 ∧ f_X12_is N 218 12 σ0 = some (0, σ0)) ∧ (¬ V = 0 → ((σ0.1 218 14 = 0 ∧ σ0.1 218 12 = 1) ∧ f_X12_is N 218 12 σ0 = some (1, σ0)) ∧ (σ0.1 218 11).toInt < (σ.1 218 11).toInt)) ∧ (σ.1 218 7 = σ0.1 218 7 ∧ σ.1 218 9 = σ0.1 218 9 ∧ σ.1 218 14 = σ0.1 218 14 ∧ σ.1 218 15 = σ0.1 218 15 ∧ σ.1 218 20 = σ0.1 218 20 ∧ σ.1 218 22 = σ0.1 218 22 ∧ σ.1 218 23 = σ0.1 218 23 ∧ σ.1 218 24 = σ0.1 218 24 ∧ σ.1 218 25 = σ0.1 218 25)) hT (s_X12_takes hN (hR.tr hT) (hK) (by rw [hT.2 224 (by decide)]; exact hY) (by decide)) (by decide) (fun v286 σ287 hOσ287 hT hqv286 => ?_)
          have hqv286 : (TOK σ287.1 ∧ (σ0.1 218 11).toInt ≤ (σ287.1 218 11).toInt ∧ (v286 = 0 → σ287 = σ0 ∧ f_X12_is N 218 12 σ0 = some (0, σ0)) ∧ (¬ v286 = 0 → ((σ0.1 218 14 = 0 ∧ σ0.1 218 12 = 1) ∧ f_X12_is N 218 12 σ0 = some (1, σ0)) ∧ (σ0.1 218 11).toInt < (σ287.1 218 11).toInt)) ∧ (σ287.1 218 7 = σ0.1 218 7 ∧ σ287.1 218 9 = σ0.1 218 9 ∧ σ287.1 218 14 = σ0.1 218 14 ∧ σ287.1 218 15 = σ0.1 218 15 ∧ σ287.1 218 20 = σ0.1 218 20 ∧ σ287.1 218 22 = σ0.1 218 22 ∧ σ287.1 218 23 = σ0.1 218 23 ∧ σ287.1 218 24 = σ0.1 218 24 ∧ σ287.1 218 25 = σ0.1 218 25) := hqv286
          have hkv286 := hqv286
          have hqv286 := hqv286.1
          have r231_σ287 : σ287.1 231 = σ0.1 231 := hOσ287.2 231 (by decide)
          have hK : TOK σ287.1 := by first | exact hqv286.1 | exact TOK_p eσ287 (by decide) hK
          have hB : ZB σ287.1 := ZB.tr hOσ287 (by decide) hB
          have g7_σ287 : σ287.1 218 7 = (σ0.1 218 7) := hkv286.2.1
          have g9_σ287 : σ287.1 218 9 = (σ0.1 218 9) := hkv286.2.2.1
          have g14_σ287 : σ287.1 218 14 = (σ0.1 218 14) := hkv286.2.2.2.1
          have g15_σ287 : σ287.1 218 15 = (σ0.1 218 15) := hkv286.2.2.2.2.1
          have g20_σ287 : σ287.1 218 20 = (σ0.1 218 20) := hkv286.2.2.2.2.2.1
          have g22_σ287 : σ287.1 218 22 = (σ0.1 218 22) := hkv286.2.2.2.2.2.2.1
          have g23_σ287 : σ287.1 218 23 = (σ0.1 218 23) := hkv286.2.2.2.2.2.2.2.1
          have g24_σ287 : σ287.1 218 24 = (σ0.1 218 24) := hkv286.2.2.2.2.2.2.2.2.1
          have g25_σ287 : σ287.1 218 25 = (σ0.1 218 25) := hkv286.2.2.2.2.2.2.2.2.2
          have m77 := hqv286.2.1
          refine ok_if (fun hc288 => ?_) (fun hc288 => ?_)
          · have s77 := hqv286.2.2.1 hc288
            refine ok_gC rfl ?_
            refine ok_zbT (Q := fun V σ => (TOK σ.1 ∧ (σ287.1 218 11).toInt ≤ (σ.1 218 11).toInt ∧ (V = 0 → σ = σ287 ∧ f_X12_is N 218 13 σ287 = some (0, σ287)) ∧ (¬ V = 0 → ((σ287.1 218 14 = 0 ∧ σ287.1 218 12 = 1) ∧ f_X12_is N 218 13 σ287 = some (1, σ287)) ∧ (σ287.1 218 11).toInt < (σ.1 218 11).toInt)) ∧ (σ.1 218 7 = σ287.1 218 7 ∧ σ.1 218 9 = σ287.1 218 9 ∧ σ.1 218 14 = σ287.1 218 14 ∧ σ.1 218 15 = σ287.1 218 15 ∧ σ.1 218 20 = σ287.1 218 20 ∧ σ.1 218 22 = σ287.1 218 22 ∧ σ.1 218 23 = σ287.1 218 23 ∧ σ.1 218 24 = σ287.1 218 24 ∧ σ.1 218 25 = σ287.1 218 25)) hT (s_X12_takes hN (hR.tr hT) (hK) (by rw [hT.2 224 (by decide)]; exact hY) (by decide)) (by decide) (fun v289 σ290 hOσ290 hT hqv289 => ?_)
            have hqv289 : (TOK σ290.1 ∧ (σ287.1 218 11).toInt ≤ (σ290.1 218 11).toInt ∧ (v289 = 0 → σ290 = σ287 ∧ f_X12_is N 218 13 σ287 = some (0, σ287)) ∧ (¬ v289 = 0 → ((σ287.1 218 14 = 0 ∧ σ287.1 218 12 = 1) ∧ f_X12_is N 218 13 σ287 = some (1, σ287)) ∧ (σ287.1 218 11).toInt < (σ290.1 218 11).toInt)) ∧ (σ290.1 218 7 = σ287.1 218 7 ∧ σ290.1 218 9 = σ287.1 218 9 ∧ σ290.1 218 14 = σ287.1 218 14 ∧ σ290.1 218 15 = σ287.1 218 15 ∧ σ290.1 218 20 = σ287.1 218 20 ∧ σ290.1 218 22 = σ287.1 218 22 ∧ σ290.1 218 23 = σ287.1 218 23 ∧ σ290.1 218 24 = σ287.1 218 24 ∧ σ290.1 218 25 = σ287.1 218 25) := hqv289
            have hkv289 := hqv289
            have hqv289 := hqv289.1
            have r231_σ290 : σ290.1 231 = σ0.1 231 := (hOσ290.2 231 (by decide)).trans r231_σ287
            have hK : TOK σ290.1 := by first | exact hqv289.1 | exact TOK_p eσ290 (by decide) hK
            have hB : ZB σ290.1 := ZB.tr hOσ290 (by decide) hB
            try simp only [g7_σ287, g9_σ287, g14_σ287, g15_σ287, g20_σ287, g22_σ287, g23_σ287, g24_σ287, g25_σ287] at hqv289
            have g7_σ290 : σ290.1 218 7 = (σ0.1 218 7) := (hkv289.2.1).trans g7_σ287
            have g9_σ290 : σ290.1 218 9 = (σ0.1 218 9) := (hkv289.2.2.1).trans g9_σ287
            have g14_σ290 : σ290.1 218 14 = (σ0.1 218 14) := (hkv289.2.2.2.1).trans g14_σ287
            have g15_σ290 : σ290.1 218 15 = (σ0.1 218 15) := (hkv289.2.2.2.2.1).trans g15_σ287
            have g20_σ290 : σ290.1 218 20 = (σ0.1 218 20) := (hkv289.2.2.2.2.2.1).trans g20_σ287
            have g22_σ290 : σ290.1 218 22 = (σ0.1 218 22) := (hkv289.2.2.2.2.2.2.1).trans g22_σ287
            have g23_σ290 : σ290.1 218 23 = (σ0.1 218 23) := (hkv289.2.2.2.2.2.2.2.1).trans g23_σ287
            have g24_σ290 : σ290.1 218 24 = (σ0.1 218 24) := (hkv289.2.2.2.2.2.2.2.2.1).trans g24_σ287
            have g25_σ290 : σ290.1 218 25 = (σ0.1 218 25) := (hkv289.2.2.2.2.2.2.2.2.2).trans g25_σ287
            have k110 := hK.1
            have m110 := hqv289.2.1
            have r110 : σ290.1 231 = σ0.1 231 := r231_σ290
            refine ok_if (fun hc291 => ?_) (fun hc291 => ?_)
            · refine ok_gC rfl ?_
              refine ok_zbT (Q := fun V σ => (TOK σ.1 ∧ (σ290.1 218 10).toInt ≤ (σ.1 218 11).toInt) ∧ (σ.1 218 7 = σ290.1 218 7 ∧ σ.1 218 9 = σ290.1 218 9 ∧ σ.1 218 14 = σ290.1 218 14 ∧ σ.1 218 15 = σ290.1 218 15 ∧ σ.1 218 20 = σ290.1 218 20 ∧ σ.1 218 22 = σ290.1 218 22 ∧ σ.1 218 23 = σ290.1 218 23 ∧ σ.1 218 24 = σ290.1 218 24 ∧ σ.1 218 25 = σ290.1 218 25)) hT (s_X12_advance hN (hR.tr hT) (TOK_A hK) (by rw [hT.2 224 (by decide)]; exact hY)) (by decide) (fun v292 σ293 hOσ293 hT hqv292 => ?_)
              have hqv292 : (TOK σ293.1 ∧ (σ290.1 218 10).toInt ≤ (σ293.1 218 11).toInt) ∧ (σ293.1 218 7 = σ290.1 218 7 ∧ σ293.1 218 9 = σ290.1 218 9 ∧ σ293.1 218 14 = σ290.1 218 14 ∧ σ293.1 218 15 = σ290.1 218 15 ∧ σ293.1 218 20 = σ290.1 218 20 ∧ σ293.1 218 22 = σ290.1 218 22 ∧ σ293.1 218 23 = σ290.1 218 23 ∧ σ293.1 218 24 = σ290.1 218 24 ∧ σ293.1 218 25 = σ290.1 218 25) := hqv292
              have hkv292 := hqv292
              have hqv292 := hqv292.1
              have r231_σ293 : σ293.1 231 = σ0.1 231 := (hOσ293.2 231 (by decide)).trans r231_σ290
              have hK : TOK σ293.1 := by first | exact hqv292.1 | exact TOK_p eσ293 (by decide) hK
              have hB : ZB σ293.1 := ZB.tr hOσ293 (by decide) hB
              try simp only [g7_σ290, g9_σ290, g14_σ290, g15_σ290, g20_σ290, g22_σ290, g23_σ290, g24_σ290, g25_σ290] at hqv292
              have g7_σ293 : σ293.1 218 7 = (σ0.1 218 7) := (hkv292.2.1).trans g7_σ290
              have g9_σ293 : σ293.1 218 9 = (σ0.1 218 9) := (hkv292.2.2.1).trans g9_σ290
              have g14_σ293 : σ293.1 218 14 = (σ0.1 218 14) := (hkv292.2.2.2.1).trans g14_σ290
              have g15_σ293 : σ293.1 218 15 = (σ0.1 218 15) := (hkv292.2.2.2.2.1).trans g15_σ290
              have g20_σ293 : σ293.1 218 20 = (σ0.1 218 20) := (hkv292.2.2.2.2.2.1).trans g20_σ290
              have g22_σ293 : σ293.1 218 22 = (σ0.1 218 22) := (hkv292.2.2.2.2.2.2.1).trans g22_σ290
              have g23_σ293 : σ293.1 218 23 = (σ0.1 218 23) := (hkv292.2.2.2.2.2.2.2.1).trans g23_σ290
              have g24_σ293 : σ293.1 218 24 = (σ0.1 218 24) := (hkv292.2.2.2.2.2.2.2.2.1).trans g24_σ290
              have g25_σ293 : σ293.1 218 25 = (σ0.1 218 25) := (hkv292.2.2.2.2.2.2.2.2.2).trans g25_σ290
              have m124 := hqv292.2
              refine ok_gC rfl ?_
              refine ok_zbT (Q := fun V σ => (TOK σ.1 ∧ (σ293.1 218 11).toInt ≤ (σ.1 218 11).toInt ∧ (σ.1 218 14 = 0 → σ293.1 218 14 = 0) ∧ ZB σ.1) ∧ (σ.1 218 7 = σ293.1 218 7 ∧ σ.1 218 9 = σ293.1 218 9)) hT (s_X12_readsLet hN (hR.tr hT) (hK) (by rw [hT.2 224 (by decide)]; exact hY) (hB) (by (first | rw [r231_σ293] | skip); exact hF)) (by decide) (fun v294 σ295 hOσ295 hT hqv294 => ?_)
              have hqv294 : (TOK σ295.1 ∧ (σ293.1 218 11).toInt ≤ (σ295.1 218 11).toInt ∧ (σ295.1 218 14 = 0 → σ293.1 218 14 = 0) ∧ ZB σ295.1) ∧ (σ295.1 218 7 = σ293.1 218 7 ∧ σ295.1 218 9 = σ293.1 218 9) := hqv294
              have hkv294 := hqv294
              have hqv294 := hqv294.1
              have r231_σ295 : σ295.1 231 = σ0.1 231 := (hOσ295.2 231 (by decide)).trans r231_σ293
              have hK : TOK σ295.1 := by first | exact hqv294.1 | exact TOK_p eσ295 (by decide) hK
              have hB : ZB σ295.1 := hqv294.2.2.2
              try simp only [g7_σ293, g9_σ293, g14_σ293, g15_σ293, g20_σ293, g22_σ293, g23_σ293, g24_σ293, g25_σ293] at hqv294
              have g7_σ295 : σ295.1 218 7 = (σ0.1 218 7) := (hkv294.2.1).trans g7_σ293
              have g9_σ295 : σ295.1 218 9 = (σ0.1 218 9) := (hkv294.2.2).trans g9_σ293
              have m128 := hqv294.2.1
              exact ok_some ⟨hT, (show (TOK σ295.1 ∧ (σ0.1 218 11).toInt ≤ (σ295.1 218 11).toInt ∧ FW (σ295.1 231) ∧ σ295.1 231 1 = σ0.1 231 1 ∧ ZB σ295.1) ∧ (σ295.1 218 7 = σ0.1 218 7 ∧ σ295.1 218 9 = σ0.1 218 9) from ⟨by first | exact ⟨hK, by (try simp only [g7_σ295, g9_σ295]); omega, by (first | rw [r231_σ295] | skip); exact hF, congrFun r231_σ295 1, hB⟩ | exact ⟨hK, by (try simp only [g7_σ295, g9_σ295]); omega, k102.1, q102, hB⟩ | exact ⟨hK, by (try simp only [g7_σ295, g9_σ295]); omega, f117, q117, hB⟩, g7_σ295, g9_σ295⟩)⟩
            · have t113 := (hqv289.2.2.2 hc291).1.2
              refine ok_gC rfl ?_
              refine ok_zbT (Q := fun V σ => (TOK σ.1 ∧ (σ290.1 218 11).toInt ≤ (σ.1 218 11).toInt ∧ (σ.1 218 14 = 0 → σ290.1 218 14 = 0) ∧ FW (σ.1 231) ∧ σ.1 231 1 = σ290.1 231 1) ∧ (σ.1 218 7 = σ290.1 218 7 ∧ σ.1 218 9 = σ290.1 218 9 ∧ σ.1 218 20 = σ290.1 218 20 ∧ σ.1 218 22 = σ290.1 218 22 ∧ σ.1 218 23 = σ290.1 218 23 ∧ σ.1 218 24 = σ290.1 218 24 ∧ σ.1 218 25 = σ290.1 218 25)) hT (s_X12_readsEdge hN (hR.tr hT) (hK) (by rw [hT.2 224 (by decide)]; exact hY) (by (first | rw [r231_σ290] | skip); exact hF) (by (first | rw [r231_σ290] | skip); first | exact k57 | exact (is_ne f42 t113 s77.1).elim | exact absurd y69 n62 | exact absurd y69 n32)) (by decide) (fun v296 σ297 hOσ297 hT hqv296 => ?_)
              have hqv296 : (TOK σ297.1 ∧ (σ290.1 218 11).toInt ≤ (σ297.1 218 11).toInt ∧ (σ297.1 218 14 = 0 → σ290.1 218 14 = 0) ∧ FW (σ297.1 231) ∧ σ297.1 231 1 = σ290.1 231 1) ∧ (σ297.1 218 7 = σ290.1 218 7 ∧ σ297.1 218 9 = σ290.1 218 9 ∧ σ297.1 218 20 = σ290.1 218 20 ∧ σ297.1 218 22 = σ290.1 218 22 ∧ σ297.1 218 23 = σ290.1 218 23 ∧ σ297.1 218 24 = σ290.1 218 24 ∧ σ297.1 218 25 = σ290.1 218 25) := hqv296
              have hkv296 := hqv296
              have hqv296 := hqv296.1
              have hK : TOK σ297.1 := by first | exact hqv296.1 | exact TOK_p eσ297 (by decide) hK
              have hB : ZB σ297.1 := ZB.tr hOσ297 (by decide) hB
              try simp only [g7_σ290, g9_σ290, g14_σ290, g15_σ290, g20_σ290, g22_σ290, g23_σ290, g24_σ290, g25_σ290] at hqv296
              have g7_σ297 : σ297.1 218 7 = (σ0.1 218 7) := (hkv296.2.1).trans g7_σ290
              have g9_σ297 : σ297.1 218 9 = (σ0.1 218 9) := (hkv296.2.2.1).trans g9_σ290
              have g20_σ297 : σ297.1 218 20 = (σ0.1 218 20) := (hkv296.2.2.2.1).trans g20_σ290
              have g22_σ297 : σ297.1 218 22 = (σ0.1 218 22) := (hkv296.2.2.2.2.1).trans g22_σ290
              have g23_σ297 : σ297.1 218 23 = (σ0.1 218 23) := (hkv296.2.2.2.2.2.1).trans g23_σ290
              have g24_σ297 : σ297.1 218 24 = (σ0.1 218 24) := (hkv296.2.2.2.2.2.2.1).trans g24_σ290
              have g25_σ297 : σ297.1 218 25 = (σ0.1 218 25) := (hkv296.2.2.2.2.2.2.2).trans g25_σ290
              have m117 := hqv296.2.1
              have f117 := hqv296.2.2.2.1
              have q117 : σ297.1 231 1 = σ0.1 231 1 := hqv296.2.2.2.2.trans (congrFun r110 1)
              exact ok_some ⟨hT, (show (TOK σ297.1 ∧ (σ0.1 218 11).toInt ≤ (σ297.1 218 11).toInt ∧ FW (σ297.1 231) ∧ σ297.1 231 1 = σ0.1 231 1 ∧ ZB σ297.1) ∧ (σ297.1 218 7 = σ0.1 218 7 ∧ σ297.1 218 9 = σ0.1 218 9) from ⟨by first | exact ⟨hK, by (try simp only [g7_σ297, g9_σ297, g20_σ297, g22_σ297, g23_σ297, g24_σ297, g25_σ297]); omega, by (first | rw [rfl] | skip); exact hF, congrFun rfl 1, hB⟩ | exact ⟨hK, by (try simp only [g7_σ297, g9_σ297, g20_σ297, g22_σ297, g23_σ297, g24_σ297, g25_σ297]); omega, k102.1, q102, hB⟩ | exact ⟨hK, by (try simp only [g7_σ297, g9_σ297, g20_σ297, g22_σ297, g23_σ297, g24_σ297, g25_σ297]); omega, f117, q117, hB⟩, g7_σ297, g9_σ297⟩)⟩
          · refine ok_gC rfl ?_
            refine ok_zbT (Q := fun V σ => (TOK σ.1 ∧ (σ287.1 218 11).toInt ≤ (σ.1 218 11).toInt ∧ (σ.1 218 14 = 0 → σ287.1 218 14 = 0) ∧ 0 ≤ V.toInt ∧ V.toInt ≤ 9) ∧ (σ.1 218 7 = σ287.1 218 7 ∧ σ.1 218 9 = σ287.1 218 9 ∧ σ.1 218 20 = σ287.1 218 20 ∧ σ.1 218 22 = σ287.1 218 22 ∧ σ.1 218 23 = σ287.1 218 23 ∧ σ.1 218 24 = σ287.1 218 24 ∧ σ.1 218 25 = σ287.1 218 25)) hT (s_X12_readsName hN (hR.tr hT) (hK) (by rw [hT.2 224 (by decide)]; exact hY) (by (first | rw [r231_σ287] | skip); exact hF)) (by decide) (fun v298 σ299 hOσ299 hT hqv298 => ?_)
            have hqv298 : (TOK σ299.1 ∧ (σ287.1 218 11).toInt ≤ (σ299.1 218 11).toInt ∧ (σ299.1 218 14 = 0 → σ287.1 218 14 = 0) ∧ 0 ≤ v298.toInt ∧ v298.toInt ≤ 9) ∧ (σ299.1 218 7 = σ287.1 218 7 ∧ σ299.1 218 9 = σ287.1 218 9 ∧ σ299.1 218 20 = σ287.1 218 20 ∧ σ299.1 218 22 = σ287.1 218 22 ∧ σ299.1 218 23 = σ287.1 218 23 ∧ σ299.1 218 24 = σ287.1 218 24 ∧ σ299.1 218 25 = σ287.1 218 25) := hqv298
            have hkv298 := hqv298
            have hqv298 := hqv298.1
            have r231_σ299 : σ299.1 231 = σ0.1 231 := (hOσ299.2 231 (by decide)).trans r231_σ287
            have hK : TOK σ299.1 := by first | exact hqv298.1 | exact TOK_p eσ299 (by decide) hK
            have hB : ZB σ299.1 := ZB.tr hOσ299 (by decide) hB
            try simp only [g7_σ287, g9_σ287, g14_σ287, g15_σ287, g20_σ287, g22_σ287, g23_σ287, g24_σ287, g25_σ287] at hqv298
            have g7_σ299 : σ299.1 218 7 = (σ0.1 218 7) := (hkv298.2.1).trans g7_σ287
            have g9_σ299 : σ299.1 218 9 = (σ0.1 218 9) := (hkv298.2.2.1).trans g9_σ287
            have g20_σ299 : σ299.1 218 20 = (σ0.1 218 20) := (hkv298.2.2.2.1).trans g20_σ287
            have g22_σ299 : σ299.1 218 22 = (σ0.1 218 22) := (hkv298.2.2.2.2.1).trans g22_σ287
            have g23_σ299 : σ299.1 218 23 = (σ0.1 218 23) := (hkv298.2.2.2.2.2.1).trans g23_σ287
            have g24_σ299 : σ299.1 218 24 = (σ0.1 218 24) := (hkv298.2.2.2.2.2.2.1).trans g24_σ287
            have g25_σ299 : σ299.1 218 25 = (σ0.1 218 25) := (hkv298.2.2.2.2.2.2.2).trans g25_σ287
            have m84 := hqv298.2.1
            have b84 := hqv298.2.2.2
            have i84 := ti3 (x := v298) (by omega) (by omega)
            refine ok_gR (v := 231) hT rfl (hR 218 26 rfl) ?_
            refine ok_gC rfl ?_
            refine ok_zbT (Q := fun V σ => (TOK σ.1 ∧ (σ299.1 218 11).toInt ≤ (σ.1 218 11).toInt ∧ (σ.1 218 14 = 0 → (σ299.1 218 14 = 0 ∧ (σ299.1 218 11).toInt < (σ.1 218 11).toInt) ∧ (0 : Int32).toInt ≤ V.toInt ∧ V.toInt ≤ (99 : Int32).toInt) ∧ (¬ σ.1 218 14 = 0 → V = 0)) ∧ (σ.1 218 7 = σ299.1 218 7 ∧ σ.1 218 9 = σ299.1 218 9 ∧ σ.1 218 20 = σ299.1 218 20 ∧ σ.1 218 22 = σ299.1 218 22 ∧ σ.1 218 23 = σ299.1 218 23 ∧ σ.1 218 24 = σ299.1 218 24 ∧ σ.1 218 25 = σ299.1 218 25)) hT (s_X12_number hN (hR.tr hT) (hK) (by rw [hT.2 224 (by decide)]; exact hY)) (by decide) (fun v301 σ302 hOσ302 hT hqv301 => ?_)
            have hqv301 : (TOK σ302.1 ∧ (σ299.1 218 11).toInt ≤ (σ302.1 218 11).toInt ∧ (σ302.1 218 14 = 0 → (σ299.1 218 14 = 0 ∧ (σ299.1 218 11).toInt < (σ302.1 218 11).toInt) ∧ (0 : Int32).toInt ≤ v301.toInt ∧ v301.toInt ≤ (99 : Int32).toInt) ∧ (¬ σ302.1 218 14 = 0 → v301 = 0)) ∧ (σ302.1 218 7 = σ299.1 218 7 ∧ σ302.1 218 9 = σ299.1 218 9 ∧ σ302.1 218 20 = σ299.1 218 20 ∧ σ302.1 218 22 = σ299.1 218 22 ∧ σ302.1 218 23 = σ299.1 218 23 ∧ σ302.1 218 24 = σ299.1 218 24 ∧ σ302.1 218 25 = σ299.1 218 25) := hqv301
            have hkv301 := hqv301
            have hqv301 := hqv301.1
            have r231_σ302 : σ302.1 231 = σ0.1 231 := (hOσ302.2 231 (by decide)).trans r231_σ299
            have hK : TOK σ302.1 := by first | exact hqv301.1 | exact TOK_p eσ302 (by decide) hK
            have hB : ZB σ302.1 := ZB.tr hOσ302 (by decide) hB
            try simp only [g7_σ299, g9_σ299, g20_σ299, g22_σ299, g23_σ299, g24_σ299, g25_σ299] at hqv301
            have g7_σ302 : σ302.1 218 7 = (σ0.1 218 7) := (hkv301.2.1).trans g7_σ299
            have g9_σ302 : σ302.1 218 9 = (σ0.1 218 9) := (hkv301.2.2.1).trans g9_σ299
            have g20_σ302 : σ302.1 218 20 = (σ0.1 218 20) := (hkv301.2.2.2.1).trans g20_σ299
            have g22_σ302 : σ302.1 218 22 = (σ0.1 218 22) := (hkv301.2.2.2.2.1).trans g22_σ299
            have g23_σ302 : σ302.1 218 23 = (σ0.1 218 23) := (hkv301.2.2.2.2.2.1).trans g23_σ299
            have g24_σ302 : σ302.1 218 24 = (σ0.1 218 24) := (hkv301.2.2.2.2.2.2.1).trans g24_σ299
            have g25_σ302 : σ302.1 218 25 = (σ0.1 218 25) := (hkv301.2.2.2.2.2.2.2).trans g25_σ299
            have m99 := hqv301.2.1
            refine ok_s14 hT rfl (by decide) (by rw [i84.1]; omega) (by rw [i84.1]; omega) (fun σ303 eσ303 hOσ303 hT => ?_)
            have k102 := FW_w eσ303 (by rw [i84.2]; omega) (by rw [i84.2]; omega) (by (first | rw [r231_σ302] | skip); exact hF)
            have q102 : σ303.1 231 1 = σ0.1 231 1 := k102.2.trans (congrFun r231_σ302 1)
            have hK : TOK σ303.1 := TOK_tr hOσ303 (by decide) (by decide) hK
            have hB : ZB σ303.1 := ZB.tr hOσ303 (by decide) hB
            have g7_σ303 : σ303.1 218 7 = (σ0.1 218 7) := (congrFun (hOσ303.2 218 (by decide)) 7).trans g7_σ302
            have g9_σ303 : σ303.1 218 9 = (σ0.1 218 9) := (congrFun (hOσ303.2 218 (by decide)) 9).trans g9_σ302
            have g10_σ303 : σ303.1 218 10 = (σ302.1 218 10) := congrFun (hOσ303.2 218 (by decide)) 10
            have g11_σ303 : σ303.1 218 11 = (σ302.1 218 11) := congrFun (hOσ303.2 218 (by decide)) 11
            have g12_σ303 : σ303.1 218 12 = (σ302.1 218 12) := congrFun (hOσ303.2 218 (by decide)) 12
            have g13_σ303 : σ303.1 218 13 = (σ302.1 218 13) := congrFun (hOσ303.2 218 (by decide)) 13
            have g14_σ303 : σ303.1 218 14 = (σ302.1 218 14) := congrFun (hOσ303.2 218 (by decide)) 14
            have g15_σ303 : σ303.1 218 15 = (σ302.1 218 15) := congrFun (hOσ303.2 218 (by decide)) 15
            have g20_σ303 : σ303.1 218 20 = (σ0.1 218 20) := (congrFun (hOσ303.2 218 (by decide)) 20).trans g20_σ302
            have g22_σ303 : σ303.1 218 22 = (σ0.1 218 22) := (congrFun (hOσ303.2 218 (by decide)) 22).trans g22_σ302
            have g23_σ303 : σ303.1 218 23 = (σ0.1 218 23) := (congrFun (hOσ303.2 218 (by decide)) 23).trans g23_σ302
            have g24_σ303 : σ303.1 218 24 = (σ0.1 218 24) := (congrFun (hOσ303.2 218 (by decide)) 24).trans g24_σ302
            have g25_σ303 : σ303.1 218 25 = (σ0.1 218 25) := (congrFun (hOσ303.2 218 (by decide)) 25).trans g25_σ302
            exact ok_some ⟨hT, (show (TOK σ303.1 ∧ (σ0.1 218 11).toInt ≤ (σ303.1 218 11).toInt ∧ FW (σ303.1 231) ∧ σ303.1 231 1 = σ0.1 231 1 ∧ ZB σ303.1) ∧ (σ303.1 218 7 = σ0.1 218 7 ∧ σ303.1 218 9 = σ0.1 218 9) from ⟨by first | exact ⟨hK, by (try simp only [g7_σ303, g9_σ303, g10_σ303, g11_σ303, g12_σ303, g13_σ303, g14_σ303, g15_σ303, g20_σ303, g22_σ303, g23_σ303, g24_σ303, g25_σ303]); omega, by (first | rw [rfl] | skip); exact hF, congrFun rfl 1, hB⟩ | exact ⟨hK, by (try simp only [g7_σ303, g9_σ303, g10_σ303, g11_σ303, g12_σ303, g13_σ303, g14_σ303, g15_σ303, g20_σ303, g22_σ303, g23_σ303, g24_σ303, g25_σ303]); omega, k102.1, q102, hB⟩ | exact ⟨hK, by (try simp only [g7_σ303, g9_σ303, g10_σ303, g11_σ303, g12_σ303, g13_σ303, g14_σ303, g15_σ303, g20_σ303, g22_σ303, g23_σ303, g24_σ303, g25_σ303]); omega, f117, q117, hB⟩, g7_σ303, g9_σ303⟩)⟩
end Zq9_0

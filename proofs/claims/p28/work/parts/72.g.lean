section Zq11_0
def RX (s : Nat → Nat → Int32) (t : Nat → Int32) (n i : Nat) : Prop := (s 224 = t ∧ (s 218 9).toInt.toNat = n) ∧ TKS s t n i
/-- the same of the fields' values -/
def TKV (f a k v : Int32) (t : Nat → Int32) (n i : Nat) : Prop := (f.toInt = (tkF t n i : Int) ∧ a.toInt = (tkE t n i : Int)) ∧ k = tkK t n i ∧ (k = 2 → v.toInt = min 99999 (Nv t n (tkF t n i) 0 : Int))
theorem RX_i {s : Nat → Nat → Int32} {t : Nat → Int32} {n i : Nat} {z a f k v : Int32} (e9 : s 218 9 = z) (e10 : s 218 10 = a) (e11 : s 218 11 = f) (e12 : s 218 12 = k) (e13 : s 218 13 = v) (et : s 224 = t) (hz : z.toInt.toNat = n) (h : TKV f a k v t n i) : RX s t n i := by
  refine ⟨⟨et, by rw [e9]; exact hz⟩, ?_⟩
  unfold TKS
  rw [e10, e11, e12, e13]; exact h
theorem ok_wk {α : Type} {x : Option α} {P Q : α → Prop} (h : Ok x P) (f : ∀ a, P a → Q a) : Ok x Q := by
  obtain ⟨a, e, p⟩ := h
  exact ⟨a, e, f a p⟩
theorem ok_and {α : Type} {x : Option α} {P Q : α → Prop} (h1 : Ok x P) (h2 : Ok x Q) : Ok x (fun a => P a ∧ Q a) := by
  obtain ⟨a, e, p⟩ := h1
  obtain ⟨b, e2, q⟩ := h2
  rw [e] at e2
  injection e2 with e2
  subst e2
  exact ⟨a, e, p, q⟩

theorem s_X12_advance_r {N : Nat} (hN : 1048576 ≤ N) {σ0 : zS} {tx : Nat → Int32} {n i : Nat} (hR : RF σ0.2.2) (hA : (0 ≤ (σ0.1 218 10).toInt ∧ (σ0.1 218 10).toInt ≤ (σ0.1 218 9).toInt) ∧ (σ0.1 218 9).toInt ≤ 600) (hY : BYT (σ0.1 224)) (hG : RX σ0.1 tx n i) : Ok (f_X12_advance N 218 σ0) (fun r => Tr [218] σ0 r.2 ∧ (((TOK r.2.1 ∧ (σ0.1 218 10).toInt ≤ (r.2.1 218 11).toInt) ∧ RX r.2.1 tx n (tkE tx n i)) ∧ (r.2.1 218 7 = σ0.1 218 7 ∧ r.2.1 218 9 = σ0.1 218 9 ∧ r.2.1 218 14 = σ0.1 218 14 ∧ r.2.1 218 15 = σ0.1 218 15 ∧ r.2.1 218 20 = σ0.1 218 20 ∧ r.2.1 218 22 = σ0.1 218 22 ∧ r.2.1 218 23 = σ0.1 218 23 ∧ r.2.1 218 24 = σ0.1 218 24 ∧ r.2.1 218 25 = σ0.1 218 25))) := by
  refine ok_wk (ok_and (s_X12_advance hN hR hA hY) (s_X12_advance_x hN hR hA hY)) (fun r h => ⟨h.1.1, ⟨h.1.2.1, ?_⟩, h.1.2.2⟩)
  have e : (σ0.1 218 10).toInt.toNat = tkE tx n i := by have := hG.2.1.2; omega
  refine ⟨⟨(h.1.1.2 224 (by decide)).trans hG.1.1, by rw [h.1.2.2.2.1]; exact hG.1.2⟩, ?_⟩
  have q := h.2.2.1
  rw [hG.1.1, hG.1.2, e] at q
  exact q

/-- a number within bounds stands at i -/
abbrev nOK (t : Nat → Int32) (n i : Nat) (lo hi : Int32) : Prop := tkK t n i = 2 ∧ lo.toInt ≤ min 99999 (Nv t n (tkF t n i) 0 : Int) ∧ min 99999 (Nv t n (tkF t n i) 0 : Int) ≤ hi.toInt

set_option maxHeartbeats 4000000 in
set_option maxRecDepth 100000 in
theorem s_X12_number_r {N : Nat} (hN : 1048576 ≤ N) {x1 : Int32} {x2 : Int32} {σ0 : zS} {tx : Nat → Int32} {n i : Nat} (hR : RF σ0.2.2) (hK : TOK σ0.1) (hY : BYT (σ0.1 224)) (hG : RX σ0.1 tx n i) (hg : σ0.1 218 14 = 0) : Ok (f_X12_number N 218 x1 x2 σ0) (fun r => Tr [218] σ0 r.2 ∧ ((TOK r.2.1 ∧ (σ0.1 218 11).toInt ≤ (r.2.1 218 11).toInt ∧ (r.2.1 218 14 = 0 → ((σ0.1 218 11).toInt < (r.2.1 218 11).toInt ∧ nOK tx n i x1 x2) ∧ r.1.toInt = min 99999 (Nv tx n (tkF tx n i) 0 : Int) ∧ RX r.2.1 tx n (tkE tx n i)) ∧ (¬ r.2.1 218 14 = 0 → r.1 = 0 ∧ ¬ nOK tx n i x1 x2)) ∧ (r.2.1 218 7 = σ0.1 218 7 ∧ r.2.1 218 9 = σ0.1 218 9 ∧ r.2.1 218 20 = σ0.1 218 20 ∧ r.2.1 218 22 = σ0.1 218 22 ∧ r.2.1 218 23 = σ0.1 218 23 ∧ r.2.1 218 24 = σ0.1 218 24 ∧ r.2.1 218 25 = σ0.1 218 25))) := by
  have hT : Tr [218] σ0 σ0 := Tr.rf
  have hK1 := hK.1
  have tE : σ0.1 224 = tx := hG.1.1
  have nE : (σ0.1 218 9).toInt.toNat = n := hG.1.2
  have pK : TKV (σ0.1 218 11) (σ0.1 218 10) (σ0.1 218 12) (σ0.1 218 13) tx n i := hG.2
  rw [f_X12_number.eq_1]
  refine ok_gC rfl ?_
  refine ok_zbX (Q := fun V => (V = 0 → ¬ σ0.1 218 14 = 0) ∧ (¬ V = 0 → σ0.1 218 14 = 0)) (x_X12_good) (fun v1 hqv1 => ?_)
  have hqv1 : (v1 = 0 → ¬ σ0.1 218 14 = 0) ∧ (¬ v1 = 0 → σ0.1 218 14 = 0) := hqv1
  refine ok_if (fun hc3 => ?_) (fun hc3 => ?_)
  · have qhc3 := hqv1.1 hc3
    have n4 := qhc3
    rw [J_X12_number_20.eq_1]
    refine ok_gC rfl ?_
    refine ok_zbX (Q := fun V => (V = 0 → ¬ σ0.1 218 14 = 0) ∧ (¬ V = 0 → σ0.1 218 14 = 0)) (x_X12_good) (fun v4 hqv4 => ?_)
    have hqv4 : (v4 = 0 → ¬ σ0.1 218 14 = 0) ∧ (¬ v4 = 0 → σ0.1 218 14 = 0) := hqv4
    refine ok_if (fun hc6 => ?_) (fun hc6 => ?_)
    · have qhc6 := hqv4.1 hc6
      have n24 := qhc6
      rw [J_X12_number_47.eq_1]
      refine ok_gC rfl ?_
      refine ok_zbX (Q := fun V => (V = 0 → ¬ σ0.1 218 14 = 0) ∧ (¬ V = 0 → σ0.1 218 14 = 0)) (x_X12_good) (fun v7 hqv7 => ?_)
      have hqv7 : (v7 = 0 → ¬ σ0.1 218 14 = 0) ∧ (¬ v7 = 0 → σ0.1 218 14 = 0) := hqv7
      refine ok_if (fun hc9 => ?_) (fun hc9 => ?_)
      · have qhc9 := hqv7.1 hc9
        have n51 := qhc9
        exact ok_some ⟨hT, (show (TOK σ0.1 ∧ (σ0.1 218 11).toInt ≤ (σ0.1 218 11).toInt ∧ (σ0.1 218 14 = 0 → ((σ0.1 218 11).toInt < (σ0.1 218 11).toInt ∧ nOK tx n i x1 x2) ∧ (0 : Int32).toInt = min 99999 (Nv tx n (tkF tx n i) 0 : Int) ∧ RX σ0.1 tx n (tkE tx n i)) ∧ (¬ σ0.1 218 14 = 0 → (0 : Int32) = 0 ∧ ¬ nOK tx n i x1 x2)) ∧ (σ0.1 218 7 = σ0.1 218 7 ∧ σ0.1 218 9 = σ0.1 218 9 ∧ σ0.1 218 20 = σ0.1 218 20 ∧ σ0.1 218 22 = σ0.1 218 22 ∧ σ0.1 218 23 = σ0.1 218 23 ∧ σ0.1 218 24 = σ0.1 218 24 ∧ σ0.1 218 25 = σ0.1 218 25) from ⟨by first | exact ⟨hK, by skip; omega, fun q => absurd q (by skip; exact n51), fun _ => ⟨rfl, fun q => k12 q.1⟩⟩ | exact ⟨hK, by skip; omega, fun q => absurd q (by skip; exact n51), fun _ => ⟨rfl, fun q => by rw [v12] at r39; exact r39 q.2⟩⟩ | exact ⟨hK, by skip; omega, fun _ => ⟨⟨by skip; omega, k12, by rw [← v12]; exact r39⟩, v12, g62⟩, fun q => absurd (by skip; exact y51) q⟩ | exact absurd y51 n44 | exact absurd y51 n24 | exact absurd y51 n17 | exact absurd y51 n4 | exact absurd hg n4 | exact absurd hg n24 | exact absurd hg n51, rfl, rfl, rfl, rfl, rfl, rfl, rfl⟩)⟩
      · have qhc9 := hqv7.2 hc9
        have y51 := qhc9
        refine ok_gI rfl ?_
        refine ok_gC rfl ?_
        refine ok_zbT (Q := fun V σ => ((TOK σ.1 ∧ (σ0.1 218 10).toInt ≤ (σ.1 218 11).toInt) ∧ RX σ.1 tx n (tkE tx n i)) ∧ (σ.1 218 7 = σ0.1 218 7 ∧ σ.1 218 9 = σ0.1 218 9 ∧ σ.1 218 14 = σ0.1 218 14 ∧ σ.1 218 15 = σ0.1 218 15 ∧ σ.1 218 20 = σ0.1 218 20 ∧ σ.1 218 22 = σ0.1 218 22 ∧ σ.1 218 23 = σ0.1 218 23 ∧ σ.1 218 24 = σ0.1 218 24 ∧ σ.1 218 25 = σ0.1 218 25)) hT (s_X12_advance_r hN (hR.tr hT) (TOK_A hK) (by rw [hT.2 224 (by decide)]; exact hY) (RX_i rfl rfl rfl rfl rfl ((hT.2 224 (by decide)).trans tE) nE pK)) (by decide) (fun v11 σ12 hOσ12 hT hqv11 => ?_)
        have hqv11 : ((TOK σ12.1 ∧ (σ0.1 218 10).toInt ≤ (σ12.1 218 11).toInt) ∧ RX σ12.1 tx n (tkE tx n i)) ∧ (σ12.1 218 7 = σ0.1 218 7 ∧ σ12.1 218 9 = σ0.1 218 9 ∧ σ12.1 218 14 = σ0.1 218 14 ∧ σ12.1 218 15 = σ0.1 218 15 ∧ σ12.1 218 20 = σ0.1 218 20 ∧ σ12.1 218 22 = σ0.1 218 22 ∧ σ12.1 218 23 = σ0.1 218 23 ∧ σ12.1 218 24 = σ0.1 218 24 ∧ σ12.1 218 25 = σ0.1 218 25) := hqv11
        have hkv11 := hqv11
        have hqv11 := hqv11.1
        have hK : TOK σ12.1 := by first | exact hqv11.1 | exact hqv11.1.1 | exact TOK_p eσ12 (by decide) hK
        have g7_σ12 : σ12.1 218 7 = (σ0.1 218 7) := hkv11.2.1
        have g9_σ12 : σ12.1 218 9 = (σ0.1 218 9) := hkv11.2.2.1
        have g14_σ12 : σ12.1 218 14 = (σ0.1 218 14) := hkv11.2.2.2.1
        have g15_σ12 : σ12.1 218 15 = (σ0.1 218 15) := hkv11.2.2.2.2.1
        have g20_σ12 : σ12.1 218 20 = (σ0.1 218 20) := hkv11.2.2.2.2.2.1
        have g22_σ12 : σ12.1 218 22 = (σ0.1 218 22) := hkv11.2.2.2.2.2.2.1
        have g23_σ12 : σ12.1 218 23 = (σ0.1 218 23) := hkv11.2.2.2.2.2.2.2.1
        have g24_σ12 : σ12.1 218 24 = (σ0.1 218 24) := hkv11.2.2.2.2.2.2.2.2.1
        have g25_σ12 : σ12.1 218 25 = (σ0.1 218 25) := hkv11.2.2.2.2.2.2.2.2.2
        have g62 := hqv11.2
        exact ok_some ⟨hT, (show (TOK σ12.1 ∧ (σ0.1 218 11).toInt ≤ (σ12.1 218 11).toInt ∧ (σ12.1 218 14 = 0 → ((σ0.1 218 11).toInt < (σ12.1 218 11).toInt ∧ nOK tx n i x1 x2) ∧ ((σ0.1 218 13)).toInt = min 99999 (Nv tx n (tkF tx n i) 0 : Int) ∧ RX σ12.1 tx n (tkE tx n i)) ∧ (¬ σ12.1 218 14 = 0 → ((σ0.1 218 13)) = 0 ∧ ¬ nOK tx n i x1 x2)) ∧ (σ12.1 218 7 = σ0.1 218 7 ∧ σ12.1 218 9 = σ0.1 218 9 ∧ σ12.1 218 20 = σ0.1 218 20 ∧ σ12.1 218 22 = σ0.1 218 22 ∧ σ12.1 218 23 = σ0.1 218 23 ∧ σ12.1 218 24 = σ0.1 218 24 ∧ σ12.1 218 25 = σ0.1 218 25) from ⟨by first | exact ⟨hK, by (try simp only [g7_σ12, g9_σ12, g14_σ12, g15_σ12, g20_σ12, g22_σ12, g23_σ12, g24_σ12, g25_σ12]); omega, fun q => absurd q (by (try simp only [g7_σ12, g9_σ12, g14_σ12, g15_σ12, g20_σ12, g22_σ12, g23_σ12, g24_σ12, g25_σ12]); exact n51), fun _ => ⟨rfl, fun q => k12 q.1⟩⟩ | exact ⟨hK, by (try simp only [g7_σ12, g9_σ12, g14_σ12, g15_σ12, g20_σ12, g22_σ12, g23_σ12, g24_σ12, g25_σ12]); omega, fun q => absurd q (by (try simp only [g7_σ12, g9_σ12, g14_σ12, g15_σ12, g20_σ12, g22_σ12, g23_σ12, g24_σ12, g25_σ12]); exact n51), fun _ => ⟨rfl, fun q => by rw [v12] at r39; exact r39 q.2⟩⟩ | exact ⟨hK, by (try simp only [g7_σ12, g9_σ12, g14_σ12, g15_σ12, g20_σ12, g22_σ12, g23_σ12, g24_σ12, g25_σ12]); omega, fun _ => ⟨⟨by (try simp only [g7_σ12, g9_σ12, g14_σ12, g15_σ12, g20_σ12, g22_σ12, g23_σ12, g24_σ12, g25_σ12]); omega, k12, by rw [← v12]; exact r39⟩, v12, g62⟩, fun q => absurd (by (try simp only [g7_σ12, g9_σ12, g14_σ12, g15_σ12, g20_σ12, g22_σ12, g23_σ12, g24_σ12, g25_σ12]); exact y51) q⟩ | exact absurd y51 n44 | exact absurd y51 n24 | exact absurd y51 n17 | exact absurd y51 n4 | exact absurd hg n4 | exact absurd hg n24 | exact absurd hg n51, g7_σ12, g9_σ12, g20_σ12, g22_σ12, g23_σ12, g24_σ12, g25_σ12⟩)⟩
    · have qhc6 := hqv4.2 hc6
      have y24 := qhc6
      refine ok_gI rfl ?_
      refine ok_zbX (Q := fun V => (V = 0 → ¬ ((Int32.toInt64 x1).toInt ≤ (Int32.toInt64 (σ0.1 218 13)).toInt ∧ (Int32.toInt64 (σ0.1 218 13)).toInt ≤ (Int32.toInt64 x2).toInt)) ∧ (¬ V = 0 → (Int32.toInt64 x1).toInt ≤ (Int32.toInt64 (σ0.1 218 13)).toInt ∧ (Int32.toInt64 (σ0.1 218 13)).toInt ≤ (Int32.toInt64 x2).toInt)) (xi_X12_in) (fun v14 hqv14 => ?_)
      have hqv14 : (v14 = 0 → ¬ ((Int32.toInt64 x1).toInt ≤ (Int32.toInt64 (σ0.1 218 13)).toInt ∧ (Int32.toInt64 (σ0.1 218 13)).toInt ≤ (Int32.toInt64 x2).toInt)) ∧ (¬ v14 = 0 → (Int32.toInt64 x1).toInt ≤ (Int32.toInt64 (σ0.1 218 13)).toInt ∧ (Int32.toInt64 (σ0.1 218 13)).toInt ≤ (Int32.toInt64 x2).toInt) := hqv14
      simp only [i64_of, Int64.reduceToInt] at hqv14
      refine ok_if (fun hc16 => ?_) (fun hc16 => ?_)
      · have qhc16 := hqv14.1 hc16
        have r39 := qhc16
        refine ok_gC rfl ?_
        refine ok_zbT (Q := fun V σ => (TOK σ.1 ∧ ¬ σ.1 218 14 = 0) ∧ (σ.1 218 7 = σ0.1 218 7 ∧ σ.1 218 9 = σ0.1 218 9 ∧ σ.1 218 10 = σ0.1 218 10 ∧ σ.1 218 11 = σ0.1 218 11 ∧ σ.1 218 12 = σ0.1 218 12 ∧ σ.1 218 13 = σ0.1 218 13 ∧ σ.1 218 20 = σ0.1 218 20 ∧ σ.1 218 22 = σ0.1 218 22 ∧ σ.1 218 23 = σ0.1 218 23 ∧ σ.1 218 24 = σ0.1 218 24 ∧ σ.1 218 25 = σ0.1 218 25)) hT (s_X12_errs hN (hR.tr hT) (hK) (by rw [hT.2 224 (by decide)]; exact hY) (by decide)) (by decide) (fun v17 σ18 hOσ18 hT hqv17 => ?_)
        have hqv17 : (TOK σ18.1 ∧ ¬ σ18.1 218 14 = 0) ∧ (σ18.1 218 7 = σ0.1 218 7 ∧ σ18.1 218 9 = σ0.1 218 9 ∧ σ18.1 218 10 = σ0.1 218 10 ∧ σ18.1 218 11 = σ0.1 218 11 ∧ σ18.1 218 12 = σ0.1 218 12 ∧ σ18.1 218 13 = σ0.1 218 13 ∧ σ18.1 218 20 = σ0.1 218 20 ∧ σ18.1 218 22 = σ0.1 218 22 ∧ σ18.1 218 23 = σ0.1 218 23 ∧ σ18.1 218 24 = σ0.1 218 24 ∧ σ18.1 218 25 = σ0.1 218 25) := hqv17
        have hkv17 := hqv17
        have hqv17 := hqv17.1
        have hK : TOK σ18.1 := by first | exact hqv17.1 | exact hqv17.1.1 | exact TOK_p eσ18 (by decide) hK
        have g7_σ18 : σ18.1 218 7 = (σ0.1 218 7) := hkv17.2.1
        have g9_σ18 : σ18.1 218 9 = (σ0.1 218 9) := hkv17.2.2.1
        have g10_σ18 : σ18.1 218 10 = (σ0.1 218 10) := hkv17.2.2.2.1
        have g11_σ18 : σ18.1 218 11 = (σ0.1 218 11) := hkv17.2.2.2.2.1
        have g12_σ18 : σ18.1 218 12 = (σ0.1 218 12) := hkv17.2.2.2.2.2.1
        have g13_σ18 : σ18.1 218 13 = (σ0.1 218 13) := hkv17.2.2.2.2.2.2.1
        have g20_σ18 : σ18.1 218 20 = (σ0.1 218 20) := hkv17.2.2.2.2.2.2.2.1
        have g22_σ18 : σ18.1 218 22 = (σ0.1 218 22) := hkv17.2.2.2.2.2.2.2.2.1
        have g23_σ18 : σ18.1 218 23 = (σ0.1 218 23) := hkv17.2.2.2.2.2.2.2.2.2.1
        have g24_σ18 : σ18.1 218 24 = (σ0.1 218 24) := hkv17.2.2.2.2.2.2.2.2.2.2.1
        have g25_σ18 : σ18.1 218 25 = (σ0.1 218 25) := hkv17.2.2.2.2.2.2.2.2.2.2.2
        have n44 := hqv17.2
        rw [J_X12_number_47.eq_1]
        refine ok_gC rfl ?_
        refine ok_zbX (Q := fun V => (V = 0 → ¬ σ18.1 218 14 = 0) ∧ (¬ V = 0 → σ18.1 218 14 = 0)) (x_X12_good) (fun v19 hqv19 => ?_)
        have hqv19 : (v19 = 0 → ¬ σ18.1 218 14 = 0) ∧ (¬ v19 = 0 → σ18.1 218 14 = 0) := hqv19
        try simp only [g7_σ18, g9_σ18, g10_σ18, g11_σ18, g12_σ18, g13_σ18, g20_σ18, g22_σ18, g23_σ18, g24_σ18, g25_σ18, hT.2 224 (by decide)] at hqv19
        refine ok_if (fun hc21 => ?_) (fun hc21 => ?_)
        · have qhc21 := hqv19.1 hc21
          have n51 := qhc21
          exact ok_some ⟨hT, (show (TOK σ18.1 ∧ (σ0.1 218 11).toInt ≤ (σ18.1 218 11).toInt ∧ (σ18.1 218 14 = 0 → ((σ0.1 218 11).toInt < (σ18.1 218 11).toInt ∧ nOK tx n i x1 x2) ∧ (0 : Int32).toInt = min 99999 (Nv tx n (tkF tx n i) 0 : Int) ∧ RX σ18.1 tx n (tkE tx n i)) ∧ (¬ σ18.1 218 14 = 0 → (0 : Int32) = 0 ∧ ¬ nOK tx n i x1 x2)) ∧ (σ18.1 218 7 = σ0.1 218 7 ∧ σ18.1 218 9 = σ0.1 218 9 ∧ σ18.1 218 20 = σ0.1 218 20 ∧ σ18.1 218 22 = σ0.1 218 22 ∧ σ18.1 218 23 = σ0.1 218 23 ∧ σ18.1 218 24 = σ0.1 218 24 ∧ σ18.1 218 25 = σ0.1 218 25) from ⟨by first | exact ⟨hK, by (try simp only [g7_σ18, g9_σ18, g10_σ18, g11_σ18, g12_σ18, g13_σ18, g20_σ18, g22_σ18, g23_σ18, g24_σ18, g25_σ18]); omega, fun q => absurd q (by (try simp only [g7_σ18, g9_σ18, g10_σ18, g11_σ18, g12_σ18, g13_σ18, g20_σ18, g22_σ18, g23_σ18, g24_σ18, g25_σ18]); exact n51), fun _ => ⟨rfl, fun q => k12 q.1⟩⟩ | exact ⟨hK, by (try simp only [g7_σ18, g9_σ18, g10_σ18, g11_σ18, g12_σ18, g13_σ18, g20_σ18, g22_σ18, g23_σ18, g24_σ18, g25_σ18]); omega, fun q => absurd q (by (try simp only [g7_σ18, g9_σ18, g10_σ18, g11_σ18, g12_σ18, g13_σ18, g20_σ18, g22_σ18, g23_σ18, g24_σ18, g25_σ18]); exact n51), fun _ => ⟨rfl, fun q => by rw [v12] at r39; exact r39 q.2⟩⟩ | exact ⟨hK, by (try simp only [g7_σ18, g9_σ18, g10_σ18, g11_σ18, g12_σ18, g13_σ18, g20_σ18, g22_σ18, g23_σ18, g24_σ18, g25_σ18]); omega, fun _ => ⟨⟨by (try simp only [g7_σ18, g9_σ18, g10_σ18, g11_σ18, g12_σ18, g13_σ18, g20_σ18, g22_σ18, g23_σ18, g24_σ18, g25_σ18]); omega, k12, by rw [← v12]; exact r39⟩, v12, g62⟩, fun q => absurd (by (try simp only [g7_σ18, g9_σ18, g10_σ18, g11_σ18, g12_σ18, g13_σ18, g20_σ18, g22_σ18, g23_σ18, g24_σ18, g25_σ18]); exact y51) q⟩ | exact absurd y51 n44 | exact absurd y51 n24 | exact absurd y51 n17 | exact absurd y51 n4 | exact absurd hg n4 | exact absurd hg n24 | exact absurd hg n51, g7_σ18, g9_σ18, g20_σ18, g22_σ18, g23_σ18, g24_σ18, g25_σ18⟩)⟩
        · have qhc21 := hqv19.2 hc21
          have y51 := qhc21
          refine ok_gIv rfl g13_σ18 ?_
          refine ok_gC rfl ?_
          refine ok_zbT (Q := fun V σ => ((TOK σ.1 ∧ (σ18.1 218 10).toInt ≤ (σ.1 218 11).toInt) ∧ RX σ.1 tx n (tkE tx n i)) ∧ (σ.1 218 7 = σ18.1 218 7 ∧ σ.1 218 9 = σ18.1 218 9 ∧ σ.1 218 14 = σ18.1 218 14 ∧ σ.1 218 15 = σ18.1 218 15 ∧ σ.1 218 20 = σ18.1 218 20 ∧ σ.1 218 22 = σ18.1 218 22 ∧ σ.1 218 23 = σ18.1 218 23 ∧ σ.1 218 24 = σ18.1 218 24 ∧ σ.1 218 25 = σ18.1 218 25)) hT (s_X12_advance_r hN (hR.tr hT) (TOK_A hK) (by rw [hT.2 224 (by decide)]; exact hY) (RX_i g9_σ18 g10_σ18 g11_σ18 g12_σ18 g13_σ18 ((hT.2 224 (by decide)).trans tE) nE pK)) (by decide) (fun v23 σ24 hOσ24 hT hqv23 => ?_)
          have hqv23 : ((TOK σ24.1 ∧ (σ18.1 218 10).toInt ≤ (σ24.1 218 11).toInt) ∧ RX σ24.1 tx n (tkE tx n i)) ∧ (σ24.1 218 7 = σ18.1 218 7 ∧ σ24.1 218 9 = σ18.1 218 9 ∧ σ24.1 218 14 = σ18.1 218 14 ∧ σ24.1 218 15 = σ18.1 218 15 ∧ σ24.1 218 20 = σ18.1 218 20 ∧ σ24.1 218 22 = σ18.1 218 22 ∧ σ24.1 218 23 = σ18.1 218 23 ∧ σ24.1 218 24 = σ18.1 218 24 ∧ σ24.1 218 25 = σ18.1 218 25) := hqv23
          have hkv23 := hqv23
          have hqv23 := hqv23.1
          have hK : TOK σ24.1 := by first | exact hqv23.1 | exact hqv23.1.1 | exact TOK_p eσ24 (by decide) hK
          try simp only [g7_σ18, g9_σ18, g10_σ18, g11_σ18, g12_σ18, g13_σ18, g20_σ18, g22_σ18, g23_σ18, g24_σ18, g25_σ18] at hqv23
          have g7_σ24 : σ24.1 218 7 = (σ0.1 218 7) := (hkv23.2.1).trans g7_σ18
          have g9_σ24 : σ24.1 218 9 = (σ0.1 218 9) := (hkv23.2.2.1).trans g9_σ18
          have g14_σ24 : σ24.1 218 14 = (σ18.1 218 14) := hkv23.2.2.2.1
          have g15_σ24 : σ24.1 218 15 = (σ18.1 218 15) := hkv23.2.2.2.2.1
          have g20_σ24 : σ24.1 218 20 = (σ0.1 218 20) := (hkv23.2.2.2.2.2.1).trans g20_σ18
          have g22_σ24 : σ24.1 218 22 = (σ0.1 218 22) := (hkv23.2.2.2.2.2.2.1).trans g22_σ18
          have g23_σ24 : σ24.1 218 23 = (σ0.1 218 23) := (hkv23.2.2.2.2.2.2.2.1).trans g23_σ18
          have g24_σ24 : σ24.1 218 24 = (σ0.1 218 24) := (hkv23.2.2.2.2.2.2.2.2.1).trans g24_σ18
          have g25_σ24 : σ24.1 218 25 = (σ0.1 218 25) := (hkv23.2.2.2.2.2.2.2.2.2).trans g25_σ18
          have g62 := hqv23.2
          exact ok_some ⟨hT, (show (TOK σ24.1 ∧ (σ0.1 218 11).toInt ≤ (σ24.1 218 11).toInt ∧ (σ24.1 218 14 = 0 → ((σ0.1 218 11).toInt < (σ24.1 218 11).toInt ∧ nOK tx n i x1 x2) ∧ ((σ0.1 218 13)).toInt = min 99999 (Nv tx n (tkF tx n i) 0 : Int) ∧ RX σ24.1 tx n (tkE tx n i)) ∧ (¬ σ24.1 218 14 = 0 → ((σ0.1 218 13)) = 0 ∧ ¬ nOK tx n i x1 x2)) ∧ (σ24.1 218 7 = σ0.1 218 7 ∧ σ24.1 218 9 = σ0.1 218 9 ∧ σ24.1 218 20 = σ0.1 218 20 ∧ σ24.1 218 22 = σ0.1 218 22 ∧ σ24.1 218 23 = σ0.1 218 23 ∧ σ24.1 218 24 = σ0.1 218 24 ∧ σ24.1 218 25 = σ0.1 218 25) from ⟨by first | exact ⟨hK, by (try simp only [g7_σ24, g9_σ24, g14_σ24, g15_σ24, g20_σ24, g22_σ24, g23_σ24, g24_σ24, g25_σ24]); omega, fun q => absurd q (by (try simp only [g7_σ24, g9_σ24, g14_σ24, g15_σ24, g20_σ24, g22_σ24, g23_σ24, g24_σ24, g25_σ24]); exact n51), fun _ => ⟨rfl, fun q => k12 q.1⟩⟩ | exact ⟨hK, by (try simp only [g7_σ24, g9_σ24, g14_σ24, g15_σ24, g20_σ24, g22_σ24, g23_σ24, g24_σ24, g25_σ24]); omega, fun q => absurd q (by (try simp only [g7_σ24, g9_σ24, g14_σ24, g15_σ24, g20_σ24, g22_σ24, g23_σ24, g24_σ24, g25_σ24]); exact n51), fun _ => ⟨rfl, fun q => by rw [v12] at r39; exact r39 q.2⟩⟩ | exact ⟨hK, by (try simp only [g7_σ24, g9_σ24, g14_σ24, g15_σ24, g20_σ24, g22_σ24, g23_σ24, g24_σ24, g25_σ24]); omega, fun _ => ⟨⟨by (try simp only [g7_σ24, g9_σ24, g14_σ24, g15_σ24, g20_σ24, g22_σ24, g23_σ24, g24_σ24, g25_σ24]); omega, k12, by rw [← v12]; exact r39⟩, v12, g62⟩, fun q => absurd (by (try simp only [g7_σ24, g9_σ24, g14_σ24, g15_σ24, g20_σ24, g22_σ24, g23_σ24, g24_σ24, g25_σ24]); exact y51) q⟩ | exact absurd y51 n44 | exact absurd y51 n24 | exact absurd y51 n17 | exact absurd y51 n4 | exact absurd hg n4 | exact absurd hg n24 | exact absurd hg n51, g7_σ24, g9_σ24, g20_σ24, g22_σ24, g23_σ24, g24_σ24, g25_σ24⟩)⟩
      · have qhc16 := hqv14.2 hc16
        have r39 := qhc16
        rw [J_X12_number_47.eq_1]
        refine ok_gC rfl ?_
        refine ok_zbX (Q := fun V => (V = 0 → ¬ σ0.1 218 14 = 0) ∧ (¬ V = 0 → σ0.1 218 14 = 0)) (x_X12_good) (fun v25 hqv25 => ?_)
        have hqv25 : (v25 = 0 → ¬ σ0.1 218 14 = 0) ∧ (¬ v25 = 0 → σ0.1 218 14 = 0) := hqv25
        refine ok_if (fun hc27 => ?_) (fun hc27 => ?_)
        · have qhc27 := hqv25.1 hc27
          have n51 := qhc27
          exact ok_some ⟨hT, (show (TOK σ0.1 ∧ (σ0.1 218 11).toInt ≤ (σ0.1 218 11).toInt ∧ (σ0.1 218 14 = 0 → ((σ0.1 218 11).toInt < (σ0.1 218 11).toInt ∧ nOK tx n i x1 x2) ∧ (0 : Int32).toInt = min 99999 (Nv tx n (tkF tx n i) 0 : Int) ∧ RX σ0.1 tx n (tkE tx n i)) ∧ (¬ σ0.1 218 14 = 0 → (0 : Int32) = 0 ∧ ¬ nOK tx n i x1 x2)) ∧ (σ0.1 218 7 = σ0.1 218 7 ∧ σ0.1 218 9 = σ0.1 218 9 ∧ σ0.1 218 20 = σ0.1 218 20 ∧ σ0.1 218 22 = σ0.1 218 22 ∧ σ0.1 218 23 = σ0.1 218 23 ∧ σ0.1 218 24 = σ0.1 218 24 ∧ σ0.1 218 25 = σ0.1 218 25) from ⟨by first | exact ⟨hK, by skip; omega, fun q => absurd q (by skip; exact n51), fun _ => ⟨rfl, fun q => k12 q.1⟩⟩ | exact ⟨hK, by skip; omega, fun q => absurd q (by skip; exact n51), fun _ => ⟨rfl, fun q => by rw [v12] at r39; exact r39 q.2⟩⟩ | exact ⟨hK, by skip; omega, fun _ => ⟨⟨by skip; omega, k12, by rw [← v12]; exact r39⟩, v12, g62⟩, fun q => absurd (by skip; exact y51) q⟩ | exact absurd y51 n44 | exact absurd y51 n24 | exact absurd y51 n17 | exact absurd y51 n4 | exact absurd hg n4 | exact absurd hg n24 | exact absurd hg n51, rfl, rfl, rfl, rfl, rfl, rfl, rfl⟩)⟩
        · have qhc27 := hqv25.2 hc27
          have y51 := qhc27
          refine ok_gI rfl ?_
          refine ok_gC rfl ?_
          refine ok_zbT (Q := fun V σ => ((TOK σ.1 ∧ (σ0.1 218 10).toInt ≤ (σ.1 218 11).toInt) ∧ RX σ.1 tx n (tkE tx n i)) ∧ (σ.1 218 7 = σ0.1 218 7 ∧ σ.1 218 9 = σ0.1 218 9 ∧ σ.1 218 14 = σ0.1 218 14 ∧ σ.1 218 15 = σ0.1 218 15 ∧ σ.1 218 20 = σ0.1 218 20 ∧ σ.1 218 22 = σ0.1 218 22 ∧ σ.1 218 23 = σ0.1 218 23 ∧ σ.1 218 24 = σ0.1 218 24 ∧ σ.1 218 25 = σ0.1 218 25)) hT (s_X12_advance_r hN (hR.tr hT) (TOK_A hK) (by rw [hT.2 224 (by decide)]; exact hY) (RX_i rfl rfl rfl rfl rfl ((hT.2 224 (by decide)).trans tE) nE pK)) (by decide) (fun v29 σ30 hOσ30 hT hqv29 => ?_)
          have hqv29 : ((TOK σ30.1 ∧ (σ0.1 218 10).toInt ≤ (σ30.1 218 11).toInt) ∧ RX σ30.1 tx n (tkE tx n i)) ∧ (σ30.1 218 7 = σ0.1 218 7 ∧ σ30.1 218 9 = σ0.1 218 9 ∧ σ30.1 218 14 = σ0.1 218 14 ∧ σ30.1 218 15 = σ0.1 218 15 ∧ σ30.1 218 20 = σ0.1 218 20 ∧ σ30.1 218 22 = σ0.1 218 22 ∧ σ30.1 218 23 = σ0.1 218 23 ∧ σ30.1 218 24 = σ0.1 218 24 ∧ σ30.1 218 25 = σ0.1 218 25) := hqv29
          have hkv29 := hqv29
          have hqv29 := hqv29.1
          have hK : TOK σ30.1 := by first | exact hqv29.1 | exact hqv29.1.1 | exact TOK_p eσ30 (by decide) hK
          have g7_σ30 : σ30.1 218 7 = (σ0.1 218 7) := hkv29.2.1
          have g9_σ30 : σ30.1 218 9 = (σ0.1 218 9) := hkv29.2.2.1
          have g14_σ30 : σ30.1 218 14 = (σ0.1 218 14) := hkv29.2.2.2.1
          have g15_σ30 : σ30.1 218 15 = (σ0.1 218 15) := hkv29.2.2.2.2.1
          have g20_σ30 : σ30.1 218 20 = (σ0.1 218 20) := hkv29.2.2.2.2.2.1
          have g22_σ30 : σ30.1 218 22 = (σ0.1 218 22) := hkv29.2.2.2.2.2.2.1
          have g23_σ30 : σ30.1 218 23 = (σ0.1 218 23) := hkv29.2.2.2.2.2.2.2.1
          have g24_σ30 : σ30.1 218 24 = (σ0.1 218 24) := hkv29.2.2.2.2.2.2.2.2.1
          have g25_σ30 : σ30.1 218 25 = (σ0.1 218 25) := hkv29.2.2.2.2.2.2.2.2.2
          have g62 := hqv29.2
          exact ok_some ⟨hT, (show (TOK σ30.1 ∧ (σ0.1 218 11).toInt ≤ (σ30.1 218 11).toInt ∧ (σ30.1 218 14 = 0 → ((σ0.1 218 11).toInt < (σ30.1 218 11).toInt ∧ nOK tx n i x1 x2) ∧ ((σ0.1 218 13)).toInt = min 99999 (Nv tx n (tkF tx n i) 0 : Int) ∧ RX σ30.1 tx n (tkE tx n i)) ∧ (¬ σ30.1 218 14 = 0 → ((σ0.1 218 13)) = 0 ∧ ¬ nOK tx n i x1 x2)) ∧ (σ30.1 218 7 = σ0.1 218 7 ∧ σ30.1 218 9 = σ0.1 218 9 ∧ σ30.1 218 20 = σ0.1 218 20 ∧ σ30.1 218 22 = σ0.1 218 22 ∧ σ30.1 218 23 = σ0.1 218 23 ∧ σ30.1 218 24 = σ0.1 218 24 ∧ σ30.1 218 25 = σ0.1 218 25) from ⟨by first | exact ⟨hK, by (try simp only [g7_σ30, g9_σ30, g14_σ30, g15_σ30, g20_σ30, g22_σ30, g23_σ30, g24_σ30, g25_σ30]); omega, fun q => absurd q (by (try simp only [g7_σ30, g9_σ30, g14_σ30, g15_σ30, g20_σ30, g22_σ30, g23_σ30, g24_σ30, g25_σ30]); exact n51), fun _ => ⟨rfl, fun q => k12 q.1⟩⟩ | exact ⟨hK, by (try simp only [g7_σ30, g9_σ30, g14_σ30, g15_σ30, g20_σ30, g22_σ30, g23_σ30, g24_σ30, g25_σ30]); omega, fun q => absurd q (by (try simp only [g7_σ30, g9_σ30, g14_σ30, g15_σ30, g20_σ30, g22_σ30, g23_σ30, g24_σ30, g25_σ30]); exact n51), fun _ => ⟨rfl, fun q => by rw [v12] at r39; exact r39 q.2⟩⟩ | exact ⟨hK, by (try simp only [g7_σ30, g9_σ30, g14_σ30, g15_σ30, g20_σ30, g22_σ30, g23_σ30, g24_σ30, g25_σ30]); omega, fun _ => ⟨⟨by (try simp only [g7_σ30, g9_σ30, g14_σ30, g15_σ30, g20_σ30, g22_σ30, g23_σ30, g24_σ30, g25_σ30]); omega, k12, by rw [← v12]; exact r39⟩, v12, g62⟩, fun q => absurd (by (try simp only [g7_σ30, g9_σ30, g14_σ30, g15_σ30, g20_σ30, g22_σ30, g23_σ30, g24_σ30, g25_σ30]); exact y51) q⟩ | exact absurd y51 n44 | exact absurd y51 n24 | exact absurd y51 n17 | exact absurd y51 n4 | exact absurd hg n4 | exact absurd hg n24 | exact absurd hg n51, g7_σ30, g9_σ30, g20_σ30, g22_σ30, g23_σ30, g24_σ30, g25_σ30⟩)⟩
  · have qhc3 := hqv1.2 hc3
    have y4 := qhc3
    refine ok_gI rfl ?_
    refine ok_if (fun hc32 => ?_) (fun hc32 => ?_)
    · have l12 := hK.2.1 (by rw [hc32]; decide)
      have k12 := pK.2.1.symm.trans hc32
      have v12 := pK.2.2 hc32
      rw [J_X12_number_20.eq_1]
      refine ok_gC rfl ?_
      refine ok_zbX (Q := fun V => (V = 0 → ¬ σ0.1 218 14 = 0) ∧ (¬ V = 0 → σ0.1 218 14 = 0)) (x_X12_good) (fun v33 hqv33 => ?_)
      have hqv33 : (v33 = 0 → ¬ σ0.1 218 14 = 0) ∧ (¬ v33 = 0 → σ0.1 218 14 = 0) := hqv33
      refine ok_if (fun hc35 => ?_) (fun hc35 => ?_)
      · have qhc35 := hqv33.1 hc35
        have n24 := qhc35
        rw [J_X12_number_47.eq_1]
        refine ok_gC rfl ?_
        refine ok_zbX (Q := fun V => (V = 0 → ¬ σ0.1 218 14 = 0) ∧ (¬ V = 0 → σ0.1 218 14 = 0)) (x_X12_good) (fun v36 hqv36 => ?_)
        have hqv36 : (v36 = 0 → ¬ σ0.1 218 14 = 0) ∧ (¬ v36 = 0 → σ0.1 218 14 = 0) := hqv36
        refine ok_if (fun hc38 => ?_) (fun hc38 => ?_)
        · have qhc38 := hqv36.1 hc38
          have n51 := qhc38
          exact ok_some ⟨hT, (show (TOK σ0.1 ∧ (σ0.1 218 11).toInt ≤ (σ0.1 218 11).toInt ∧ (σ0.1 218 14 = 0 → ((σ0.1 218 11).toInt < (σ0.1 218 11).toInt ∧ nOK tx n i x1 x2) ∧ (0 : Int32).toInt = min 99999 (Nv tx n (tkF tx n i) 0 : Int) ∧ RX σ0.1 tx n (tkE tx n i)) ∧ (¬ σ0.1 218 14 = 0 → (0 : Int32) = 0 ∧ ¬ nOK tx n i x1 x2)) ∧ (σ0.1 218 7 = σ0.1 218 7 ∧ σ0.1 218 9 = σ0.1 218 9 ∧ σ0.1 218 20 = σ0.1 218 20 ∧ σ0.1 218 22 = σ0.1 218 22 ∧ σ0.1 218 23 = σ0.1 218 23 ∧ σ0.1 218 24 = σ0.1 218 24 ∧ σ0.1 218 25 = σ0.1 218 25) from ⟨by first | exact ⟨hK, by skip; omega, fun q => absurd q (by skip; exact n51), fun _ => ⟨rfl, fun q => k12 q.1⟩⟩ | exact ⟨hK, by skip; omega, fun q => absurd q (by skip; exact n51), fun _ => ⟨rfl, fun q => by rw [v12] at r39; exact r39 q.2⟩⟩ | exact ⟨hK, by skip; omega, fun _ => ⟨⟨by skip; omega, k12, by rw [← v12]; exact r39⟩, v12, g62⟩, fun q => absurd (by skip; exact y51) q⟩ | exact absurd y51 n44 | exact absurd y51 n24 | exact absurd y51 n17 | exact absurd y51 n4 | exact absurd hg n4 | exact absurd hg n24 | exact absurd hg n51, rfl, rfl, rfl, rfl, rfl, rfl, rfl⟩)⟩
        · have qhc38 := hqv36.2 hc38
          have y51 := qhc38
          refine ok_gI rfl ?_
          refine ok_gC rfl ?_
          refine ok_zbT (Q := fun V σ => ((TOK σ.1 ∧ (σ0.1 218 10).toInt ≤ (σ.1 218 11).toInt) ∧ RX σ.1 tx n (tkE tx n i)) ∧ (σ.1 218 7 = σ0.1 218 7 ∧ σ.1 218 9 = σ0.1 218 9 ∧ σ.1 218 14 = σ0.1 218 14 ∧ σ.1 218 15 = σ0.1 218 15 ∧ σ.1 218 20 = σ0.1 218 20 ∧ σ.1 218 22 = σ0.1 218 22 ∧ σ.1 218 23 = σ0.1 218 23 ∧ σ.1 218 24 = σ0.1 218 24 ∧ σ.1 218 25 = σ0.1 218 25)) hT (s_X12_advance_r hN (hR.tr hT) (TOK_A hK) (by rw [hT.2 224 (by decide)]; exact hY) (RX_i rfl rfl rfl rfl rfl ((hT.2 224 (by decide)).trans tE) nE pK)) (by decide) (fun v40 σ41 hOσ41 hT hqv40 => ?_)
          have hqv40 : ((TOK σ41.1 ∧ (σ0.1 218 10).toInt ≤ (σ41.1 218 11).toInt) ∧ RX σ41.1 tx n (tkE tx n i)) ∧ (σ41.1 218 7 = σ0.1 218 7 ∧ σ41.1 218 9 = σ0.1 218 9 ∧ σ41.1 218 14 = σ0.1 218 14 ∧ σ41.1 218 15 = σ0.1 218 15 ∧ σ41.1 218 20 = σ0.1 218 20 ∧ σ41.1 218 22 = σ0.1 218 22 ∧ σ41.1 218 23 = σ0.1 218 23 ∧ σ41.1 218 24 = σ0.1 218 24 ∧ σ41.1 218 25 = σ0.1 218 25) := hqv40
          have hkv40 := hqv40
          have hqv40 := hqv40.1
          have hK : TOK σ41.1 := by first | exact hqv40.1 | exact hqv40.1.1 | exact TOK_p eσ41 (by decide) hK
          have g7_σ41 : σ41.1 218 7 = (σ0.1 218 7) := hkv40.2.1
          have g9_σ41 : σ41.1 218 9 = (σ0.1 218 9) := hkv40.2.2.1
          have g14_σ41 : σ41.1 218 14 = (σ0.1 218 14) := hkv40.2.2.2.1
          have g15_σ41 : σ41.1 218 15 = (σ0.1 218 15) := hkv40.2.2.2.2.1
          have g20_σ41 : σ41.1 218 20 = (σ0.1 218 20) := hkv40.2.2.2.2.2.1
          have g22_σ41 : σ41.1 218 22 = (σ0.1 218 22) := hkv40.2.2.2.2.2.2.1
          have g23_σ41 : σ41.1 218 23 = (σ0.1 218 23) := hkv40.2.2.2.2.2.2.2.1
          have g24_σ41 : σ41.1 218 24 = (σ0.1 218 24) := hkv40.2.2.2.2.2.2.2.2.1
          have g25_σ41 : σ41.1 218 25 = (σ0.1 218 25) := hkv40.2.2.2.2.2.2.2.2.2
          have g62 := hqv40.2
          exact ok_some ⟨hT, (show (TOK σ41.1 ∧ (σ0.1 218 11).toInt ≤ (σ41.1 218 11).toInt ∧ (σ41.1 218 14 = 0 → ((σ0.1 218 11).toInt < (σ41.1 218 11).toInt ∧ nOK tx n i x1 x2) ∧ ((σ0.1 218 13)).toInt = min 99999 (Nv tx n (tkF tx n i) 0 : Int) ∧ RX σ41.1 tx n (tkE tx n i)) ∧ (¬ σ41.1 218 14 = 0 → ((σ0.1 218 13)) = 0 ∧ ¬ nOK tx n i x1 x2)) ∧ (σ41.1 218 7 = σ0.1 218 7 ∧ σ41.1 218 9 = σ0.1 218 9 ∧ σ41.1 218 20 = σ0.1 218 20 ∧ σ41.1 218 22 = σ0.1 218 22 ∧ σ41.1 218 23 = σ0.1 218 23 ∧ σ41.1 218 24 = σ0.1 218 24 ∧ σ41.1 218 25 = σ0.1 218 25) from ⟨by first | exact ⟨hK, by (try simp only [g7_σ41, g9_σ41, g14_σ41, g15_σ41, g20_σ41, g22_σ41, g23_σ41, g24_σ41, g25_σ41]); omega, fun q => absurd q (by (try simp only [g7_σ41, g9_σ41, g14_σ41, g15_σ41, g20_σ41, g22_σ41, g23_σ41, g24_σ41, g25_σ41]); exact n51), fun _ => ⟨rfl, fun q => k12 q.1⟩⟩ | exact ⟨hK, by (try simp only [g7_σ41, g9_σ41, g14_σ41, g15_σ41, g20_σ41, g22_σ41, g23_σ41, g24_σ41, g25_σ41]); omega, fun q => absurd q (by (try simp only [g7_σ41, g9_σ41, g14_σ41, g15_σ41, g20_σ41, g22_σ41, g23_σ41, g24_σ41, g25_σ41]); exact n51), fun _ => ⟨rfl, fun q => by rw [v12] at r39; exact r39 q.2⟩⟩ | exact ⟨hK, by (try simp only [g7_σ41, g9_σ41, g14_σ41, g15_σ41, g20_σ41, g22_σ41, g23_σ41, g24_σ41, g25_σ41]); omega, fun _ => ⟨⟨by (try simp only [g7_σ41, g9_σ41, g14_σ41, g15_σ41, g20_σ41, g22_σ41, g23_σ41, g24_σ41, g25_σ41]); omega, k12, by rw [← v12]; exact r39⟩, v12, g62⟩, fun q => absurd (by (try simp only [g7_σ41, g9_σ41, g14_σ41, g15_σ41, g20_σ41, g22_σ41, g23_σ41, g24_σ41, g25_σ41]); exact y51) q⟩ | exact absurd y51 n44 | exact absurd y51 n24 | exact absurd y51 n17 | exact absurd y51 n4 | exact absurd hg n4 | exact absurd hg n24 | exact absurd hg n51, g7_σ41, g9_σ41, g20_σ41, g22_σ41, g23_σ41, g24_σ41, g25_σ41⟩)⟩
      · have qhc35 := hqv33.2 hc35
        have y24 := qhc35
        refine ok_gI rfl ?_
        refine ok_zbX (Q := fun V => (V = 0 → ¬ ((Int32.toInt64 x1).toInt ≤ (Int32.toInt64 (σ0.1 218 13)).toInt ∧ (Int32.toInt64 (σ0.1 218 13)).toInt ≤ (Int32.toInt64 x2).toInt)) ∧ (¬ V = 0 → (Int32.toInt64 x1).toInt ≤ (Int32.toInt64 (σ0.1 218 13)).toInt ∧ (Int32.toInt64 (σ0.1 218 13)).toInt ≤ (Int32.toInt64 x2).toInt)) (xi_X12_in) (fun v43 hqv43 => ?_)
        have hqv43 : (v43 = 0 → ¬ ((Int32.toInt64 x1).toInt ≤ (Int32.toInt64 (σ0.1 218 13)).toInt ∧ (Int32.toInt64 (σ0.1 218 13)).toInt ≤ (Int32.toInt64 x2).toInt)) ∧ (¬ v43 = 0 → (Int32.toInt64 x1).toInt ≤ (Int32.toInt64 (σ0.1 218 13)).toInt ∧ (Int32.toInt64 (σ0.1 218 13)).toInt ≤ (Int32.toInt64 x2).toInt) := hqv43
        simp only [i64_of, Int64.reduceToInt] at hqv43
        refine ok_if (fun hc45 => ?_) (fun hc45 => ?_)
        · have qhc45 := hqv43.1 hc45
          have r39 := qhc45
          refine ok_gC rfl ?_
          refine ok_zbT (Q := fun V σ => (TOK σ.1 ∧ ¬ σ.1 218 14 = 0) ∧ (σ.1 218 7 = σ0.1 218 7 ∧ σ.1 218 9 = σ0.1 218 9 ∧ σ.1 218 10 = σ0.1 218 10 ∧ σ.1 218 11 = σ0.1 218 11 ∧ σ.1 218 12 = σ0.1 218 12 ∧ σ.1 218 13 = σ0.1 218 13 ∧ σ.1 218 20 = σ0.1 218 20 ∧ σ.1 218 22 = σ0.1 218 22 ∧ σ.1 218 23 = σ0.1 218 23 ∧ σ.1 218 24 = σ0.1 218 24 ∧ σ.1 218 25 = σ0.1 218 25)) hT (s_X12_errs hN (hR.tr hT) (hK) (by rw [hT.2 224 (by decide)]; exact hY) (by decide)) (by decide) (fun v46 σ47 hOσ47 hT hqv46 => ?_)
          have hqv46 : (TOK σ47.1 ∧ ¬ σ47.1 218 14 = 0) ∧ (σ47.1 218 7 = σ0.1 218 7 ∧ σ47.1 218 9 = σ0.1 218 9 ∧ σ47.1 218 10 = σ0.1 218 10 ∧ σ47.1 218 11 = σ0.1 218 11 ∧ σ47.1 218 12 = σ0.1 218 12 ∧ σ47.1 218 13 = σ0.1 218 13 ∧ σ47.1 218 20 = σ0.1 218 20 ∧ σ47.1 218 22 = σ0.1 218 22 ∧ σ47.1 218 23 = σ0.1 218 23 ∧ σ47.1 218 24 = σ0.1 218 24 ∧ σ47.1 218 25 = σ0.1 218 25) := hqv46
          have hkv46 := hqv46
          have hqv46 := hqv46.1
          have hK : TOK σ47.1 := by first | exact hqv46.1 | exact hqv46.1.1 | exact TOK_p eσ47 (by decide) hK
          have g7_σ47 : σ47.1 218 7 = (σ0.1 218 7) := hkv46.2.1
          have g9_σ47 : σ47.1 218 9 = (σ0.1 218 9) := hkv46.2.2.1
          have g10_σ47 : σ47.1 218 10 = (σ0.1 218 10) := hkv46.2.2.2.1
          have g11_σ47 : σ47.1 218 11 = (σ0.1 218 11) := hkv46.2.2.2.2.1
          have g12_σ47 : σ47.1 218 12 = (σ0.1 218 12) := hkv46.2.2.2.2.2.1
          have g13_σ47 : σ47.1 218 13 = (σ0.1 218 13) := hkv46.2.2.2.2.2.2.1
          have g20_σ47 : σ47.1 218 20 = (σ0.1 218 20) := hkv46.2.2.2.2.2.2.2.1
          have g22_σ47 : σ47.1 218 22 = (σ0.1 218 22) := hkv46.2.2.2.2.2.2.2.2.1
          have g23_σ47 : σ47.1 218 23 = (σ0.1 218 23) := hkv46.2.2.2.2.2.2.2.2.2.1
          have g24_σ47 : σ47.1 218 24 = (σ0.1 218 24) := hkv46.2.2.2.2.2.2.2.2.2.2.1
          have g25_σ47 : σ47.1 218 25 = (σ0.1 218 25) := hkv46.2.2.2.2.2.2.2.2.2.2.2
          have n44 := hqv46.2
          rw [J_X12_number_47.eq_1]
          refine ok_gC rfl ?_
          refine ok_zbX (Q := fun V => (V = 0 → ¬ σ47.1 218 14 = 0) ∧ (¬ V = 0 → σ47.1 218 14 = 0)) (x_X12_good) (fun v48 hqv48 => ?_)
          have hqv48 : (v48 = 0 → ¬ σ47.1 218 14 = 0) ∧ (¬ v48 = 0 → σ47.1 218 14 = 0) := hqv48
          try simp only [g7_σ47, g9_σ47, g10_σ47, g11_σ47, g12_σ47, g13_σ47, g20_σ47, g22_σ47, g23_σ47, g24_σ47, g25_σ47, hT.2 224 (by decide)] at hqv48
          refine ok_if (fun hc50 => ?_) (fun hc50 => ?_)
          · have qhc50 := hqv48.1 hc50
            have n51 := qhc50
            exact ok_some ⟨hT, (show (TOK σ47.1 ∧ (σ0.1 218 11).toInt ≤ (σ47.1 218 11).toInt ∧ (σ47.1 218 14 = 0 → ((σ0.1 218 11).toInt < (σ47.1 218 11).toInt ∧ nOK tx n i x1 x2) ∧ (0 : Int32).toInt = min 99999 (Nv tx n (tkF tx n i) 0 : Int) ∧ RX σ47.1 tx n (tkE tx n i)) ∧ (¬ σ47.1 218 14 = 0 → (0 : Int32) = 0 ∧ ¬ nOK tx n i x1 x2)) ∧ (σ47.1 218 7 = σ0.1 218 7 ∧ σ47.1 218 9 = σ0.1 218 9 ∧ σ47.1 218 20 = σ0.1 218 20 ∧ σ47.1 218 22 = σ0.1 218 22 ∧ σ47.1 218 23 = σ0.1 218 23 ∧ σ47.1 218 24 = σ0.1 218 24 ∧ σ47.1 218 25 = σ0.1 218 25) from ⟨by first | exact ⟨hK, by (try simp only [g7_σ47, g9_σ47, g10_σ47, g11_σ47, g12_σ47, g13_σ47, g20_σ47, g22_σ47, g23_σ47, g24_σ47, g25_σ47]); omega, fun q => absurd q (by (try simp only [g7_σ47, g9_σ47, g10_σ47, g11_σ47, g12_σ47, g13_σ47, g20_σ47, g22_σ47, g23_σ47, g24_σ47, g25_σ47]); exact n51), fun _ => ⟨rfl, fun q => k12 q.1⟩⟩ | exact ⟨hK, by (try simp only [g7_σ47, g9_σ47, g10_σ47, g11_σ47, g12_σ47, g13_σ47, g20_σ47, g22_σ47, g23_σ47, g24_σ47, g25_σ47]); omega, fun q => absurd q (by (try simp only [g7_σ47, g9_σ47, g10_σ47, g11_σ47, g12_σ47, g13_σ47, g20_σ47, g22_σ47, g23_σ47, g24_σ47, g25_σ47]); exact n51), fun _ => ⟨rfl, fun q => by rw [v12] at r39; exact r39 q.2⟩⟩ | exact ⟨hK, by (try simp only [g7_σ47, g9_σ47, g10_σ47, g11_σ47, g12_σ47, g13_σ47, g20_σ47, g22_σ47, g23_σ47, g24_σ47, g25_σ47]); omega, fun _ => ⟨⟨by (try simp only [g7_σ47, g9_σ47, g10_σ47, g11_σ47, g12_σ47, g13_σ47, g20_σ47, g22_σ47, g23_σ47, g24_σ47, g25_σ47]); omega, k12, by rw [← v12]; exact r39⟩, v12, g62⟩, fun q => absurd (by (try simp only [g7_σ47, g9_σ47, g10_σ47, g11_σ47, g12_σ47, g13_σ47, g20_σ47, g22_σ47, g23_σ47, g24_σ47, g25_σ47]); exact y51) q⟩ | exact absurd y51 n44 | exact absurd y51 n24 | exact absurd y51 n17 | exact absurd y51 n4 | exact absurd hg n4 | exact absurd hg n24 | exact absurd hg n51, g7_σ47, g9_σ47, g20_σ47, g22_σ47, g23_σ47, g24_σ47, g25_σ47⟩)⟩
          · have qhc50 := hqv48.2 hc50
            have y51 := qhc50
            refine ok_gIv rfl g13_σ47 ?_
            refine ok_gC rfl ?_
            refine ok_zbT (Q := fun V σ => ((TOK σ.1 ∧ (σ47.1 218 10).toInt ≤ (σ.1 218 11).toInt) ∧ RX σ.1 tx n (tkE tx n i)) ∧ (σ.1 218 7 = σ47.1 218 7 ∧ σ.1 218 9 = σ47.1 218 9 ∧ σ.1 218 14 = σ47.1 218 14 ∧ σ.1 218 15 = σ47.1 218 15 ∧ σ.1 218 20 = σ47.1 218 20 ∧ σ.1 218 22 = σ47.1 218 22 ∧ σ.1 218 23 = σ47.1 218 23 ∧ σ.1 218 24 = σ47.1 218 24 ∧ σ.1 218 25 = σ47.1 218 25)) hT (s_X12_advance_r hN (hR.tr hT) (TOK_A hK) (by rw [hT.2 224 (by decide)]; exact hY) (RX_i g9_σ47 g10_σ47 g11_σ47 g12_σ47 g13_σ47 ((hT.2 224 (by decide)).trans tE) nE pK)) (by decide) (fun v52 σ53 hOσ53 hT hqv52 => ?_)
            have hqv52 : ((TOK σ53.1 ∧ (σ47.1 218 10).toInt ≤ (σ53.1 218 11).toInt) ∧ RX σ53.1 tx n (tkE tx n i)) ∧ (σ53.1 218 7 = σ47.1 218 7 ∧ σ53.1 218 9 = σ47.1 218 9 ∧ σ53.1 218 14 = σ47.1 218 14 ∧ σ53.1 218 15 = σ47.1 218 15 ∧ σ53.1 218 20 = σ47.1 218 20 ∧ σ53.1 218 22 = σ47.1 218 22 ∧ σ53.1 218 23 = σ47.1 218 23 ∧ σ53.1 218 24 = σ47.1 218 24 ∧ σ53.1 218 25 = σ47.1 218 25) := hqv52
            have hkv52 := hqv52
            have hqv52 := hqv52.1
            have hK : TOK σ53.1 := by first | exact hqv52.1 | exact hqv52.1.1 | exact TOK_p eσ53 (by decide) hK
            try simp only [g7_σ47, g9_σ47, g10_σ47, g11_σ47, g12_σ47, g13_σ47, g20_σ47, g22_σ47, g23_σ47, g24_σ47, g25_σ47] at hqv52
            have g7_σ53 : σ53.1 218 7 = (σ0.1 218 7) := (hkv52.2.1).trans g7_σ47
            have g9_σ53 : σ53.1 218 9 = (σ0.1 218 9) := (hkv52.2.2.1).trans g9_σ47
            have g14_σ53 : σ53.1 218 14 = (σ47.1 218 14) := hkv52.2.2.2.1
            have g15_σ53 : σ53.1 218 15 = (σ47.1 218 15) := hkv52.2.2.2.2.1
            have g20_σ53 : σ53.1 218 20 = (σ0.1 218 20) := (hkv52.2.2.2.2.2.1).trans g20_σ47
            have g22_σ53 : σ53.1 218 22 = (σ0.1 218 22) := (hkv52.2.2.2.2.2.2.1).trans g22_σ47
            have g23_σ53 : σ53.1 218 23 = (σ0.1 218 23) := (hkv52.2.2.2.2.2.2.2.1).trans g23_σ47
            have g24_σ53 : σ53.1 218 24 = (σ0.1 218 24) := (hkv52.2.2.2.2.2.2.2.2.1).trans g24_σ47
            have g25_σ53 : σ53.1 218 25 = (σ0.1 218 25) := (hkv52.2.2.2.2.2.2.2.2.2).trans g25_σ47
            have g62 := hqv52.2
            exact ok_some ⟨hT, (show (TOK σ53.1 ∧ (σ0.1 218 11).toInt ≤ (σ53.1 218 11).toInt ∧ (σ53.1 218 14 = 0 → ((σ0.1 218 11).toInt < (σ53.1 218 11).toInt ∧ nOK tx n i x1 x2) ∧ ((σ0.1 218 13)).toInt = min 99999 (Nv tx n (tkF tx n i) 0 : Int) ∧ RX σ53.1 tx n (tkE tx n i)) ∧ (¬ σ53.1 218 14 = 0 → ((σ0.1 218 13)) = 0 ∧ ¬ nOK tx n i x1 x2)) ∧ (σ53.1 218 7 = σ0.1 218 7 ∧ σ53.1 218 9 = σ0.1 218 9 ∧ σ53.1 218 20 = σ0.1 218 20 ∧ σ53.1 218 22 = σ0.1 218 22 ∧ σ53.1 218 23 = σ0.1 218 23 ∧ σ53.1 218 24 = σ0.1 218 24 ∧ σ53.1 218 25 = σ0.1 218 25) from ⟨by first | exact ⟨hK, by (try simp only [g7_σ53, g9_σ53, g14_σ53, g15_σ53, g20_σ53, g22_σ53, g23_σ53, g24_σ53, g25_σ53]); omega, fun q => absurd q (by (try simp only [g7_σ53, g9_σ53, g14_σ53, g15_σ53, g20_σ53, g22_σ53, g23_σ53, g24_σ53, g25_σ53]); exact n51), fun _ => ⟨rfl, fun q => k12 q.1⟩⟩ | exact ⟨hK, by (try simp only [g7_σ53, g9_σ53, g14_σ53, g15_σ53, g20_σ53, g22_σ53, g23_σ53, g24_σ53, g25_σ53]); omega, fun q => absurd q (by (try simp only [g7_σ53, g9_σ53, g14_σ53, g15_σ53, g20_σ53, g22_σ53, g23_σ53, g24_σ53, g25_σ53]); exact n51), fun _ => ⟨rfl, fun q => by rw [v12] at r39; exact r39 q.2⟩⟩ | exact ⟨hK, by (try simp only [g7_σ53, g9_σ53, g14_σ53, g15_σ53, g20_σ53, g22_σ53, g23_σ53, g24_σ53, g25_σ53]); omega, fun _ => ⟨⟨by (try simp only [g7_σ53, g9_σ53, g14_σ53, g15_σ53, g20_σ53, g22_σ53, g23_σ53, g24_σ53, g25_σ53]); omega, k12, by rw [← v12]; exact r39⟩, v12, g62⟩, fun q => absurd (by (try simp only [g7_σ53, g9_σ53, g14_σ53, g15_σ53, g20_σ53, g22_σ53, g23_σ53, g24_σ53, g25_σ53]); exact y51) q⟩ | exact absurd y51 n44 | exact absurd y51 n24 | exact absurd y51 n17 | exact absurd y51 n4 | exact absurd hg n4 | exact absurd hg n24 | exact absurd hg n51, g7_σ53, g9_σ53, g20_σ53, g22_σ53, g23_σ53, g24_σ53, g25_σ53⟩)⟩
        · have qhc45 := hqv43.2 hc45
          have r39 := qhc45
          rw [J_X12_number_47.eq_1]
          refine ok_gC rfl ?_
          refine ok_zbX (Q := fun V => (V = 0 → ¬ σ0.1 218 14 = 0) ∧ (¬ V = 0 → σ0.1 218 14 = 0)) (x_X12_good) (fun v54 hqv54 => ?_)
          have hqv54 : (v54 = 0 → ¬ σ0.1 218 14 = 0) ∧ (¬ v54 = 0 → σ0.1 218 14 = 0) := hqv54
          refine ok_if (fun hc56 => ?_) (fun hc56 => ?_)
          · have qhc56 := hqv54.1 hc56
            have n51 := qhc56
            exact ok_some ⟨hT, (show (TOK σ0.1 ∧ (σ0.1 218 11).toInt ≤ (σ0.1 218 11).toInt ∧ (σ0.1 218 14 = 0 → ((σ0.1 218 11).toInt < (σ0.1 218 11).toInt ∧ nOK tx n i x1 x2) ∧ (0 : Int32).toInt = min 99999 (Nv tx n (tkF tx n i) 0 : Int) ∧ RX σ0.1 tx n (tkE tx n i)) ∧ (¬ σ0.1 218 14 = 0 → (0 : Int32) = 0 ∧ ¬ nOK tx n i x1 x2)) ∧ (σ0.1 218 7 = σ0.1 218 7 ∧ σ0.1 218 9 = σ0.1 218 9 ∧ σ0.1 218 20 = σ0.1 218 20 ∧ σ0.1 218 22 = σ0.1 218 22 ∧ σ0.1 218 23 = σ0.1 218 23 ∧ σ0.1 218 24 = σ0.1 218 24 ∧ σ0.1 218 25 = σ0.1 218 25) from ⟨by first | exact ⟨hK, by skip; omega, fun q => absurd q (by skip; exact n51), fun _ => ⟨rfl, fun q => k12 q.1⟩⟩ | exact ⟨hK, by skip; omega, fun q => absurd q (by skip; exact n51), fun _ => ⟨rfl, fun q => by rw [v12] at r39; exact r39 q.2⟩⟩ | exact ⟨hK, by skip; omega, fun _ => ⟨⟨by skip; omega, k12, by rw [← v12]; exact r39⟩, v12, g62⟩, fun q => absurd (by skip; exact y51) q⟩ | exact absurd y51 n44 | exact absurd y51 n24 | exact absurd y51 n17 | exact absurd y51 n4 | exact absurd hg n4 | exact absurd hg n24 | exact absurd hg n51, rfl, rfl, rfl, rfl, rfl, rfl, rfl⟩)⟩
          · have qhc56 := hqv54.2 hc56
            have y51 := qhc56
            refine ok_gI rfl ?_
            refine ok_gC rfl ?_
            refine ok_zbT (Q := fun V σ => ((TOK σ.1 ∧ (σ0.1 218 10).toInt ≤ (σ.1 218 11).toInt) ∧ RX σ.1 tx n (tkE tx n i)) ∧ (σ.1 218 7 = σ0.1 218 7 ∧ σ.1 218 9 = σ0.1 218 9 ∧ σ.1 218 14 = σ0.1 218 14 ∧ σ.1 218 15 = σ0.1 218 15 ∧ σ.1 218 20 = σ0.1 218 20 ∧ σ.1 218 22 = σ0.1 218 22 ∧ σ.1 218 23 = σ0.1 218 23 ∧ σ.1 218 24 = σ0.1 218 24 ∧ σ.1 218 25 = σ0.1 218 25)) hT (s_X12_advance_r hN (hR.tr hT) (TOK_A hK) (by rw [hT.2 224 (by decide)]; exact hY) (RX_i rfl rfl rfl rfl rfl ((hT.2 224 (by decide)).trans tE) nE pK)) (by decide) (fun v58 σ59 hOσ59 hT hqv58 => ?_)
            have hqv58 : ((TOK σ59.1 ∧ (σ0.1 218 10).toInt ≤ (σ59.1 218 11).toInt) ∧ RX σ59.1 tx n (tkE tx n i)) ∧ (σ59.1 218 7 = σ0.1 218 7 ∧ σ59.1 218 9 = σ0.1 218 9 ∧ σ59.1 218 14 = σ0.1 218 14 ∧ σ59.1 218 15 = σ0.1 218 15 ∧ σ59.1 218 20 = σ0.1 218 20 ∧ σ59.1 218 22 = σ0.1 218 22 ∧ σ59.1 218 23 = σ0.1 218 23 ∧ σ59.1 218 24 = σ0.1 218 24 ∧ σ59.1 218 25 = σ0.1 218 25) := hqv58
            have hkv58 := hqv58
            have hqv58 := hqv58.1
            have hK : TOK σ59.1 := by first | exact hqv58.1 | exact hqv58.1.1 | exact TOK_p eσ59 (by decide) hK
            have g7_σ59 : σ59.1 218 7 = (σ0.1 218 7) := hkv58.2.1
            have g9_σ59 : σ59.1 218 9 = (σ0.1 218 9) := hkv58.2.2.1
            have g14_σ59 : σ59.1 218 14 = (σ0.1 218 14) := hkv58.2.2.2.1
            have g15_σ59 : σ59.1 218 15 = (σ0.1 218 15) := hkv58.2.2.2.2.1
            have g20_σ59 : σ59.1 218 20 = (σ0.1 218 20) := hkv58.2.2.2.2.2.1
            have g22_σ59 : σ59.1 218 22 = (σ0.1 218 22) := hkv58.2.2.2.2.2.2.1
            have g23_σ59 : σ59.1 218 23 = (σ0.1 218 23) := hkv58.2.2.2.2.2.2.2.1
            have g24_σ59 : σ59.1 218 24 = (σ0.1 218 24) := hkv58.2.2.2.2.2.2.2.2.1
            have g25_σ59 : σ59.1 218 25 = (σ0.1 218 25) := hkv58.2.2.2.2.2.2.2.2.2
            have g62 := hqv58.2
            exact ok_some ⟨hT, (show (TOK σ59.1 ∧ (σ0.1 218 11).toInt ≤ (σ59.1 218 11).toInt ∧ (σ59.1 218 14 = 0 → ((σ0.1 218 11).toInt < (σ59.1 218 11).toInt ∧ nOK tx n i x1 x2) ∧ ((σ0.1 218 13)).toInt = min 99999 (Nv tx n (tkF tx n i) 0 : Int) ∧ RX σ59.1 tx n (tkE tx n i)) ∧ (¬ σ59.1 218 14 = 0 → ((σ0.1 218 13)) = 0 ∧ ¬ nOK tx n i x1 x2)) ∧ (σ59.1 218 7 = σ0.1 218 7 ∧ σ59.1 218 9 = σ0.1 218 9 ∧ σ59.1 218 20 = σ0.1 218 20 ∧ σ59.1 218 22 = σ0.1 218 22 ∧ σ59.1 218 23 = σ0.1 218 23 ∧ σ59.1 218 24 = σ0.1 218 24 ∧ σ59.1 218 25 = σ0.1 218 25) from ⟨by first | exact ⟨hK, by (try simp only [g7_σ59, g9_σ59, g14_σ59, g15_σ59, g20_σ59, g22_σ59, g23_σ59, g24_σ59, g25_σ59]); omega, fun q => absurd q (by (try simp only [g7_σ59, g9_σ59, g14_σ59, g15_σ59, g20_σ59, g22_σ59, g23_σ59, g24_σ59, g25_σ59]); exact n51), fun _ => ⟨rfl, fun q => k12 q.1⟩⟩ | exact ⟨hK, by (try simp only [g7_σ59, g9_σ59, g14_σ59, g15_σ59, g20_σ59, g22_σ59, g23_σ59, g24_σ59, g25_σ59]); omega, fun q => absurd q (by (try simp only [g7_σ59, g9_σ59, g14_σ59, g15_σ59, g20_σ59, g22_σ59, g23_σ59, g24_σ59, g25_σ59]); exact n51), fun _ => ⟨rfl, fun q => by rw [v12] at r39; exact r39 q.2⟩⟩ | exact ⟨hK, by (try simp only [g7_σ59, g9_σ59, g14_σ59, g15_σ59, g20_σ59, g22_σ59, g23_σ59, g24_σ59, g25_σ59]); omega, fun _ => ⟨⟨by (try simp only [g7_σ59, g9_σ59, g14_σ59, g15_σ59, g20_σ59, g22_σ59, g23_σ59, g24_σ59, g25_σ59]); omega, k12, by rw [← v12]; exact r39⟩, v12, g62⟩, fun q => absurd (by (try simp only [g7_σ59, g9_σ59, g14_σ59, g15_σ59, g20_σ59, g22_σ59, g23_σ59, g24_σ59, g25_σ59]); exact y51) q⟩ | exact absurd y51 n44 | exact absurd y51 n24 | exact absurd y51 n17 | exact absurd y51 n4 | exact absurd hg n4 | exact absurd hg n24 | exact absurd hg n51, g7_σ59, g9_σ59, g20_σ59, g22_σ59, g23_σ59, g24_σ59, g25_σ59⟩)⟩
    · have k12 : ¬ tkK tx n i = 2 := fun q => hc32 (pK.2.1.trans q)
      refine ok_gC rfl ?_
      refine ok_zbT (Q := fun V σ => (TOK σ.1 ∧ ¬ σ.1 218 14 = 0) ∧ (σ.1 218 7 = σ0.1 218 7 ∧ σ.1 218 9 = σ0.1 218 9 ∧ σ.1 218 10 = σ0.1 218 10 ∧ σ.1 218 11 = σ0.1 218 11 ∧ σ.1 218 12 = σ0.1 218 12 ∧ σ.1 218 13 = σ0.1 218 13 ∧ σ.1 218 20 = σ0.1 218 20 ∧ σ.1 218 22 = σ0.1 218 22 ∧ σ.1 218 23 = σ0.1 218 23 ∧ σ.1 218 24 = σ0.1 218 24 ∧ σ.1 218 25 = σ0.1 218 25)) hT (s_X12_errs hN (hR.tr hT) (hK) (by rw [hT.2 224 (by decide)]; exact hY) (by decide)) (by decide) (fun v60 σ61 hOσ61 hT hqv60 => ?_)
      have hqv60 : (TOK σ61.1 ∧ ¬ σ61.1 218 14 = 0) ∧ (σ61.1 218 7 = σ0.1 218 7 ∧ σ61.1 218 9 = σ0.1 218 9 ∧ σ61.1 218 10 = σ0.1 218 10 ∧ σ61.1 218 11 = σ0.1 218 11 ∧ σ61.1 218 12 = σ0.1 218 12 ∧ σ61.1 218 13 = σ0.1 218 13 ∧ σ61.1 218 20 = σ0.1 218 20 ∧ σ61.1 218 22 = σ0.1 218 22 ∧ σ61.1 218 23 = σ0.1 218 23 ∧ σ61.1 218 24 = σ0.1 218 24 ∧ σ61.1 218 25 = σ0.1 218 25) := hqv60
      have hkv60 := hqv60
      have hqv60 := hqv60.1
      have hK : TOK σ61.1 := by first | exact hqv60.1 | exact hqv60.1.1 | exact TOK_p eσ61 (by decide) hK
      have g7_σ61 : σ61.1 218 7 = (σ0.1 218 7) := hkv60.2.1
      have g9_σ61 : σ61.1 218 9 = (σ0.1 218 9) := hkv60.2.2.1
      have g10_σ61 : σ61.1 218 10 = (σ0.1 218 10) := hkv60.2.2.2.1
      have g11_σ61 : σ61.1 218 11 = (σ0.1 218 11) := hkv60.2.2.2.2.1
      have g12_σ61 : σ61.1 218 12 = (σ0.1 218 12) := hkv60.2.2.2.2.2.1
      have g13_σ61 : σ61.1 218 13 = (σ0.1 218 13) := hkv60.2.2.2.2.2.2.1
      have g20_σ61 : σ61.1 218 20 = (σ0.1 218 20) := hkv60.2.2.2.2.2.2.2.1
      have g22_σ61 : σ61.1 218 22 = (σ0.1 218 22) := hkv60.2.2.2.2.2.2.2.2.1
      have g23_σ61 : σ61.1 218 23 = (σ0.1 218 23) := hkv60.2.2.2.2.2.2.2.2.2.1
      have g24_σ61 : σ61.1 218 24 = (σ0.1 218 24) := hkv60.2.2.2.2.2.2.2.2.2.2.1
      have g25_σ61 : σ61.1 218 25 = (σ0.1 218 25) := hkv60.2.2.2.2.2.2.2.2.2.2.2
      have n17 := hqv60.2
      rw [J_X12_number_20.eq_1]
      refine ok_gC rfl ?_
      refine ok_zbX (Q := fun V => (V = 0 → ¬ σ61.1 218 14 = 0) ∧ (¬ V = 0 → σ61.1 218 14 = 0)) (x_X12_good) (fun v62 hqv62 => ?_)
      have hqv62 : (v62 = 0 → ¬ σ61.1 218 14 = 0) ∧ (¬ v62 = 0 → σ61.1 218 14 = 0) := hqv62
      try simp only [g7_σ61, g9_σ61, g10_σ61, g11_σ61, g12_σ61, g13_σ61, g20_σ61, g22_σ61, g23_σ61, g24_σ61, g25_σ61, hT.2 224 (by decide)] at hqv62
      refine ok_if (fun hc64 => ?_) (fun hc64 => ?_)
      · have qhc64 := hqv62.1 hc64
        have n24 := qhc64
        rw [J_X12_number_47.eq_1]
        refine ok_gC rfl ?_
        refine ok_zbX (Q := fun V => (V = 0 → ¬ σ61.1 218 14 = 0) ∧ (¬ V = 0 → σ61.1 218 14 = 0)) (x_X12_good) (fun v65 hqv65 => ?_)
        have hqv65 : (v65 = 0 → ¬ σ61.1 218 14 = 0) ∧ (¬ v65 = 0 → σ61.1 218 14 = 0) := hqv65
        try simp only [g7_σ61, g9_σ61, g10_σ61, g11_σ61, g12_σ61, g13_σ61, g20_σ61, g22_σ61, g23_σ61, g24_σ61, g25_σ61, hT.2 224 (by decide)] at hqv65
        refine ok_if (fun hc67 => ?_) (fun hc67 => ?_)
        · have qhc67 := hqv65.1 hc67
          have n51 := qhc67
          exact ok_some ⟨hT, (show (TOK σ61.1 ∧ (σ0.1 218 11).toInt ≤ (σ61.1 218 11).toInt ∧ (σ61.1 218 14 = 0 → ((σ0.1 218 11).toInt < (σ61.1 218 11).toInt ∧ nOK tx n i x1 x2) ∧ (0 : Int32).toInt = min 99999 (Nv tx n (tkF tx n i) 0 : Int) ∧ RX σ61.1 tx n (tkE tx n i)) ∧ (¬ σ61.1 218 14 = 0 → (0 : Int32) = 0 ∧ ¬ nOK tx n i x1 x2)) ∧ (σ61.1 218 7 = σ0.1 218 7 ∧ σ61.1 218 9 = σ0.1 218 9 ∧ σ61.1 218 20 = σ0.1 218 20 ∧ σ61.1 218 22 = σ0.1 218 22 ∧ σ61.1 218 23 = σ0.1 218 23 ∧ σ61.1 218 24 = σ0.1 218 24 ∧ σ61.1 218 25 = σ0.1 218 25) from ⟨by first | exact ⟨hK, by (try simp only [g7_σ61, g9_σ61, g10_σ61, g11_σ61, g12_σ61, g13_σ61, g20_σ61, g22_σ61, g23_σ61, g24_σ61, g25_σ61]); omega, fun q => absurd q (by (try simp only [g7_σ61, g9_σ61, g10_σ61, g11_σ61, g12_σ61, g13_σ61, g20_σ61, g22_σ61, g23_σ61, g24_σ61, g25_σ61]); exact n51), fun _ => ⟨rfl, fun q => k12 q.1⟩⟩ | exact ⟨hK, by (try simp only [g7_σ61, g9_σ61, g10_σ61, g11_σ61, g12_σ61, g13_σ61, g20_σ61, g22_σ61, g23_σ61, g24_σ61, g25_σ61]); omega, fun q => absurd q (by (try simp only [g7_σ61, g9_σ61, g10_σ61, g11_σ61, g12_σ61, g13_σ61, g20_σ61, g22_σ61, g23_σ61, g24_σ61, g25_σ61]); exact n51), fun _ => ⟨rfl, fun q => by rw [v12] at r39; exact r39 q.2⟩⟩ | exact ⟨hK, by (try simp only [g7_σ61, g9_σ61, g10_σ61, g11_σ61, g12_σ61, g13_σ61, g20_σ61, g22_σ61, g23_σ61, g24_σ61, g25_σ61]); omega, fun _ => ⟨⟨by (try simp only [g7_σ61, g9_σ61, g10_σ61, g11_σ61, g12_σ61, g13_σ61, g20_σ61, g22_σ61, g23_σ61, g24_σ61, g25_σ61]); omega, k12, by rw [← v12]; exact r39⟩, v12, g62⟩, fun q => absurd (by (try simp only [g7_σ61, g9_σ61, g10_σ61, g11_σ61, g12_σ61, g13_σ61, g20_σ61, g22_σ61, g23_σ61, g24_σ61, g25_σ61]); exact y51) q⟩ | exact absurd y51 n44 | exact absurd y51 n24 | exact absurd y51 n17 | exact absurd y51 n4 | exact absurd hg n4 | exact absurd hg n24 | exact absurd hg n51, g7_σ61, g9_σ61, g20_σ61, g22_σ61, g23_σ61, g24_σ61, g25_σ61⟩)⟩
        · have qhc67 := hqv65.2 hc67
          have y51 := qhc67
          refine ok_gIv rfl g13_σ61 ?_
          refine ok_gC rfl ?_
          refine ok_zbT (Q := fun V σ => ((TOK σ.1 ∧ (σ61.1 218 10).toInt ≤ (σ.1 218 11).toInt) ∧ RX σ.1 tx n (tkE tx n i)) ∧ (σ.1 218 7 = σ61.1 218 7 ∧ σ.1 218 9 = σ61.1 218 9 ∧ σ.1 218 14 = σ61.1 218 14 ∧ σ.1 218 15 = σ61.1 218 15 ∧ σ.1 218 20 = σ61.1 218 20 ∧ σ.1 218 22 = σ61.1 218 22 ∧ σ.1 218 23 = σ61.1 218 23 ∧ σ.1 218 24 = σ61.1 218 24 ∧ σ.1 218 25 = σ61.1 218 25)) hT (s_X12_advance_r hN (hR.tr hT) (TOK_A hK) (by rw [hT.2 224 (by decide)]; exact hY) (RX_i g9_σ61 g10_σ61 g11_σ61 g12_σ61 g13_σ61 ((hT.2 224 (by decide)).trans tE) nE pK)) (by decide) (fun v69 σ70 hOσ70 hT hqv69 => ?_)
          have hqv69 : ((TOK σ70.1 ∧ (σ61.1 218 10).toInt ≤ (σ70.1 218 11).toInt) ∧ RX σ70.1 tx n (tkE tx n i)) ∧ (σ70.1 218 7 = σ61.1 218 7 ∧ σ70.1 218 9 = σ61.1 218 9 ∧ σ70.1 218 14 = σ61.1 218 14 ∧ σ70.1 218 15 = σ61.1 218 15 ∧ σ70.1 218 20 = σ61.1 218 20 ∧ σ70.1 218 22 = σ61.1 218 22 ∧ σ70.1 218 23 = σ61.1 218 23 ∧ σ70.1 218 24 = σ61.1 218 24 ∧ σ70.1 218 25 = σ61.1 218 25) := hqv69
          have hkv69 := hqv69
          have hqv69 := hqv69.1
          have hK : TOK σ70.1 := by first | exact hqv69.1 | exact hqv69.1.1 | exact TOK_p eσ70 (by decide) hK
          try simp only [g7_σ61, g9_σ61, g10_σ61, g11_σ61, g12_σ61, g13_σ61, g20_σ61, g22_σ61, g23_σ61, g24_σ61, g25_σ61] at hqv69
          have g7_σ70 : σ70.1 218 7 = (σ0.1 218 7) := (hkv69.2.1).trans g7_σ61
          have g9_σ70 : σ70.1 218 9 = (σ0.1 218 9) := (hkv69.2.2.1).trans g9_σ61
          have g14_σ70 : σ70.1 218 14 = (σ61.1 218 14) := hkv69.2.2.2.1
          have g15_σ70 : σ70.1 218 15 = (σ61.1 218 15) := hkv69.2.2.2.2.1
          have g20_σ70 : σ70.1 218 20 = (σ0.1 218 20) := (hkv69.2.2.2.2.2.1).trans g20_σ61
          have g22_σ70 : σ70.1 218 22 = (σ0.1 218 22) := (hkv69.2.2.2.2.2.2.1).trans g22_σ61
          have g23_σ70 : σ70.1 218 23 = (σ0.1 218 23) := (hkv69.2.2.2.2.2.2.2.1).trans g23_σ61
          have g24_σ70 : σ70.1 218 24 = (σ0.1 218 24) := (hkv69.2.2.2.2.2.2.2.2.1).trans g24_σ61
          have g25_σ70 : σ70.1 218 25 = (σ0.1 218 25) := (hkv69.2.2.2.2.2.2.2.2.2).trans g25_σ61
          have g62 := hqv69.2
          exact ok_some ⟨hT, (show (TOK σ70.1 ∧ (σ0.1 218 11).toInt ≤ (σ70.1 218 11).toInt ∧ (σ70.1 218 14 = 0 → ((σ0.1 218 11).toInt < (σ70.1 218 11).toInt ∧ nOK tx n i x1 x2) ∧ ((σ0.1 218 13)).toInt = min 99999 (Nv tx n (tkF tx n i) 0 : Int) ∧ RX σ70.1 tx n (tkE tx n i)) ∧ (¬ σ70.1 218 14 = 0 → ((σ0.1 218 13)) = 0 ∧ ¬ nOK tx n i x1 x2)) ∧ (σ70.1 218 7 = σ0.1 218 7 ∧ σ70.1 218 9 = σ0.1 218 9 ∧ σ70.1 218 20 = σ0.1 218 20 ∧ σ70.1 218 22 = σ0.1 218 22 ∧ σ70.1 218 23 = σ0.1 218 23 ∧ σ70.1 218 24 = σ0.1 218 24 ∧ σ70.1 218 25 = σ0.1 218 25) from ⟨by first | exact ⟨hK, by (try simp only [g7_σ70, g9_σ70, g14_σ70, g15_σ70, g20_σ70, g22_σ70, g23_σ70, g24_σ70, g25_σ70]); omega, fun q => absurd q (by (try simp only [g7_σ70, g9_σ70, g14_σ70, g15_σ70, g20_σ70, g22_σ70, g23_σ70, g24_σ70, g25_σ70]); exact n51), fun _ => ⟨rfl, fun q => k12 q.1⟩⟩ | exact ⟨hK, by (try simp only [g7_σ70, g9_σ70, g14_σ70, g15_σ70, g20_σ70, g22_σ70, g23_σ70, g24_σ70, g25_σ70]); omega, fun q => absurd q (by (try simp only [g7_σ70, g9_σ70, g14_σ70, g15_σ70, g20_σ70, g22_σ70, g23_σ70, g24_σ70, g25_σ70]); exact n51), fun _ => ⟨rfl, fun q => by rw [v12] at r39; exact r39 q.2⟩⟩ | exact ⟨hK, by (try simp only [g7_σ70, g9_σ70, g14_σ70, g15_σ70, g20_σ70, g22_σ70, g23_σ70, g24_σ70, g25_σ70]); omega, fun _ => ⟨⟨by (try simp only [g7_σ70, g9_σ70, g14_σ70, g15_σ70, g20_σ70, g22_σ70, g23_σ70, g24_σ70, g25_σ70]); omega, k12, by rw [← v12]; exact r39⟩, v12, g62⟩, fun q => absurd (by (try simp only [g7_σ70, g9_σ70, g14_σ70, g15_σ70, g20_σ70, g22_σ70, g23_σ70, g24_σ70, g25_σ70]); exact y51) q⟩ | exact absurd y51 n44 | exact absurd y51 n24 | exact absurd y51 n17 | exact absurd y51 n4 | exact absurd hg n4 | exact absurd hg n24 | exact absurd hg n51, g7_σ70, g9_σ70, g20_σ70, g22_σ70, g23_σ70, g24_σ70, g25_σ70⟩)⟩
      · have qhc64 := hqv62.2 hc64
        have y24 := qhc64
        refine ok_gIv rfl g13_σ61 ?_
        refine ok_zbX (Q := fun V => (V = 0 → ¬ ((Int32.toInt64 x1).toInt ≤ (Int32.toInt64 (σ0.1 218 13)).toInt ∧ (Int32.toInt64 (σ0.1 218 13)).toInt ≤ (Int32.toInt64 x2).toInt)) ∧ (¬ V = 0 → (Int32.toInt64 x1).toInt ≤ (Int32.toInt64 (σ0.1 218 13)).toInt ∧ (Int32.toInt64 (σ0.1 218 13)).toInt ≤ (Int32.toInt64 x2).toInt)) (xi_X12_in) (fun v72 hqv72 => ?_)
        have hqv72 : (v72 = 0 → ¬ ((Int32.toInt64 x1).toInt ≤ (Int32.toInt64 (σ0.1 218 13)).toInt ∧ (Int32.toInt64 (σ0.1 218 13)).toInt ≤ (Int32.toInt64 x2).toInt)) ∧ (¬ v72 = 0 → (Int32.toInt64 x1).toInt ≤ (Int32.toInt64 (σ0.1 218 13)).toInt ∧ (Int32.toInt64 (σ0.1 218 13)).toInt ≤ (Int32.toInt64 x2).toInt) := hqv72
        try simp only [g7_σ61, g9_σ61, g10_σ61, g11_σ61, g12_σ61, g13_σ61, g20_σ61, g22_σ61, g23_σ61, g24_σ61, g25_σ61, hT.2 224 (by decide)] at hqv72
        simp only [i64_of, Int64.reduceToInt] at hqv72
        refine ok_if (fun hc74 => ?_) (fun hc74 => ?_)
        · have qhc74 := hqv72.1 hc74
          have r39 := qhc74
          refine ok_gC rfl ?_
          refine ok_zbT (Q := fun V σ => (TOK σ.1 ∧ ¬ σ.1 218 14 = 0) ∧ (σ.1 218 7 = σ61.1 218 7 ∧ σ.1 218 9 = σ61.1 218 9 ∧ σ.1 218 10 = σ61.1 218 10 ∧ σ.1 218 11 = σ61.1 218 11 ∧ σ.1 218 12 = σ61.1 218 12 ∧ σ.1 218 13 = σ61.1 218 13 ∧ σ.1 218 20 = σ61.1 218 20 ∧ σ.1 218 22 = σ61.1 218 22 ∧ σ.1 218 23 = σ61.1 218 23 ∧ σ.1 218 24 = σ61.1 218 24 ∧ σ.1 218 25 = σ61.1 218 25)) hT (s_X12_errs hN (hR.tr hT) (hK) (by rw [hT.2 224 (by decide)]; exact hY) (by decide)) (by decide) (fun v75 σ76 hOσ76 hT hqv75 => ?_)
          have hqv75 : (TOK σ76.1 ∧ ¬ σ76.1 218 14 = 0) ∧ (σ76.1 218 7 = σ61.1 218 7 ∧ σ76.1 218 9 = σ61.1 218 9 ∧ σ76.1 218 10 = σ61.1 218 10 ∧ σ76.1 218 11 = σ61.1 218 11 ∧ σ76.1 218 12 = σ61.1 218 12 ∧ σ76.1 218 13 = σ61.1 218 13 ∧ σ76.1 218 20 = σ61.1 218 20 ∧ σ76.1 218 22 = σ61.1 218 22 ∧ σ76.1 218 23 = σ61.1 218 23 ∧ σ76.1 218 24 = σ61.1 218 24 ∧ σ76.1 218 25 = σ61.1 218 25) := hqv75
          have hkv75 := hqv75
          have hqv75 := hqv75.1
          have hK : TOK σ76.1 := by first | exact hqv75.1 | exact hqv75.1.1 | exact TOK_p eσ76 (by decide) hK
          try simp only [g7_σ61, g9_σ61, g10_σ61, g11_σ61, g12_σ61, g13_σ61, g20_σ61, g22_σ61, g23_σ61, g24_σ61, g25_σ61] at hqv75
          have g7_σ76 : σ76.1 218 7 = (σ0.1 218 7) := (hkv75.2.1).trans g7_σ61
          have g9_σ76 : σ76.1 218 9 = (σ0.1 218 9) := (hkv75.2.2.1).trans g9_σ61
          have g10_σ76 : σ76.1 218 10 = (σ0.1 218 10) := (hkv75.2.2.2.1).trans g10_σ61
          have g11_σ76 : σ76.1 218 11 = (σ0.1 218 11) := (hkv75.2.2.2.2.1).trans g11_σ61
          have g12_σ76 : σ76.1 218 12 = (σ0.1 218 12) := (hkv75.2.2.2.2.2.1).trans g12_σ61
          have g13_σ76 : σ76.1 218 13 = (σ0.1 218 13) := (hkv75.2.2.2.2.2.2.1).trans g13_σ61
          have g20_σ76 : σ76.1 218 20 = (σ0.1 218 20) := (hkv75.2.2.2.2.2.2.2.1).trans g20_σ61
          have g22_σ76 : σ76.1 218 22 = (σ0.1 218 22) := (hkv75.2.2.2.2.2.2.2.2.1).trans g22_σ61
          have g23_σ76 : σ76.1 218 23 = (σ0.1 218 23) := (hkv75.2.2.2.2.2.2.2.2.2.1).trans g23_σ61
          have g24_σ76 : σ76.1 218 24 = (σ0.1 218 24) := (hkv75.2.2.2.2.2.2.2.2.2.2.1).trans g24_σ61
          have g25_σ76 : σ76.1 218 25 = (σ0.1 218 25) := (hkv75.2.2.2.2.2.2.2.2.2.2.2).trans g25_σ61
          have n44 := hqv75.2
          rw [J_X12_number_47.eq_1]
          refine ok_gC rfl ?_
          refine ok_zbX (Q := fun V => (V = 0 → ¬ σ76.1 218 14 = 0) ∧ (¬ V = 0 → σ76.1 218 14 = 0)) (x_X12_good) (fun v77 hqv77 => ?_)
          have hqv77 : (v77 = 0 → ¬ σ76.1 218 14 = 0) ∧ (¬ v77 = 0 → σ76.1 218 14 = 0) := hqv77
          try simp only [g7_σ76, g9_σ76, g10_σ76, g11_σ76, g12_σ76, g13_σ76, g20_σ76, g22_σ76, g23_σ76, g24_σ76, g25_σ76, hT.2 224 (by decide)] at hqv77
          refine ok_if (fun hc79 => ?_) (fun hc79 => ?_)
          · have qhc79 := hqv77.1 hc79
            have n51 := qhc79
            exact ok_some ⟨hT, (show (TOK σ76.1 ∧ (σ0.1 218 11).toInt ≤ (σ76.1 218 11).toInt ∧ (σ76.1 218 14 = 0 → ((σ0.1 218 11).toInt < (σ76.1 218 11).toInt ∧ nOK tx n i x1 x2) ∧ (0 : Int32).toInt = min 99999 (Nv tx n (tkF tx n i) 0 : Int) ∧ RX σ76.1 tx n (tkE tx n i)) ∧ (¬ σ76.1 218 14 = 0 → (0 : Int32) = 0 ∧ ¬ nOK tx n i x1 x2)) ∧ (σ76.1 218 7 = σ0.1 218 7 ∧ σ76.1 218 9 = σ0.1 218 9 ∧ σ76.1 218 20 = σ0.1 218 20 ∧ σ76.1 218 22 = σ0.1 218 22 ∧ σ76.1 218 23 = σ0.1 218 23 ∧ σ76.1 218 24 = σ0.1 218 24 ∧ σ76.1 218 25 = σ0.1 218 25) from ⟨by first | exact ⟨hK, by (try simp only [g7_σ76, g9_σ76, g10_σ76, g11_σ76, g12_σ76, g13_σ76, g20_σ76, g22_σ76, g23_σ76, g24_σ76, g25_σ76]); omega, fun q => absurd q (by (try simp only [g7_σ76, g9_σ76, g10_σ76, g11_σ76, g12_σ76, g13_σ76, g20_σ76, g22_σ76, g23_σ76, g24_σ76, g25_σ76]); exact n51), fun _ => ⟨rfl, fun q => k12 q.1⟩⟩ | exact ⟨hK, by (try simp only [g7_σ76, g9_σ76, g10_σ76, g11_σ76, g12_σ76, g13_σ76, g20_σ76, g22_σ76, g23_σ76, g24_σ76, g25_σ76]); omega, fun q => absurd q (by (try simp only [g7_σ76, g9_σ76, g10_σ76, g11_σ76, g12_σ76, g13_σ76, g20_σ76, g22_σ76, g23_σ76, g24_σ76, g25_σ76]); exact n51), fun _ => ⟨rfl, fun q => by rw [v12] at r39; exact r39 q.2⟩⟩ | exact ⟨hK, by (try simp only [g7_σ76, g9_σ76, g10_σ76, g11_σ76, g12_σ76, g13_σ76, g20_σ76, g22_σ76, g23_σ76, g24_σ76, g25_σ76]); omega, fun _ => ⟨⟨by (try simp only [g7_σ76, g9_σ76, g10_σ76, g11_σ76, g12_σ76, g13_σ76, g20_σ76, g22_σ76, g23_σ76, g24_σ76, g25_σ76]); omega, k12, by rw [← v12]; exact r39⟩, v12, g62⟩, fun q => absurd (by (try simp only [g7_σ76, g9_σ76, g10_σ76, g11_σ76, g12_σ76, g13_σ76, g20_σ76, g22_σ76, g23_σ76, g24_σ76, g25_σ76]); exact y51) q⟩ | exact absurd y51 n44 | exact absurd y51 n24 | exact absurd y51 n17 | exact absurd y51 n4 | exact absurd hg n4 | exact absurd hg n24 | exact absurd hg n51, g7_σ76, g9_σ76, g20_σ76, g22_σ76, g23_σ76, g24_σ76, g25_σ76⟩)⟩
          · have qhc79 := hqv77.2 hc79
            have y51 := qhc79
            refine ok_gIv rfl g13_σ76 ?_
            refine ok_gC rfl ?_
            refine ok_zbT (Q := fun V σ => ((TOK σ.1 ∧ (σ76.1 218 10).toInt ≤ (σ.1 218 11).toInt) ∧ RX σ.1 tx n (tkE tx n i)) ∧ (σ.1 218 7 = σ76.1 218 7 ∧ σ.1 218 9 = σ76.1 218 9 ∧ σ.1 218 14 = σ76.1 218 14 ∧ σ.1 218 15 = σ76.1 218 15 ∧ σ.1 218 20 = σ76.1 218 20 ∧ σ.1 218 22 = σ76.1 218 22 ∧ σ.1 218 23 = σ76.1 218 23 ∧ σ.1 218 24 = σ76.1 218 24 ∧ σ.1 218 25 = σ76.1 218 25)) hT (s_X12_advance_r hN (hR.tr hT) (TOK_A hK) (by rw [hT.2 224 (by decide)]; exact hY) (RX_i g9_σ76 g10_σ76 g11_σ76 g12_σ76 g13_σ76 ((hT.2 224 (by decide)).trans tE) nE pK)) (by decide) (fun v81 σ82 hOσ82 hT hqv81 => ?_)
            have hqv81 : ((TOK σ82.1 ∧ (σ76.1 218 10).toInt ≤ (σ82.1 218 11).toInt) ∧ RX σ82.1 tx n (tkE tx n i)) ∧ (σ82.1 218 7 = σ76.1 218 7 ∧ σ82.1 218 9 = σ76.1 218 9 ∧ σ82.1 218 14 = σ76.1 218 14 ∧ σ82.1 218 15 = σ76.1 218 15 ∧ σ82.1 218 20 = σ76.1 218 20 ∧ σ82.1 218 22 = σ76.1 218 22 ∧ σ82.1 218 23 = σ76.1 218 23 ∧ σ82.1 218 24 = σ76.1 218 24 ∧ σ82.1 218 25 = σ76.1 218 25) := hqv81
            have hkv81 := hqv81
            have hqv81 := hqv81.1
            have hK : TOK σ82.1 := by first | exact hqv81.1 | exact hqv81.1.1 | exact TOK_p eσ82 (by decide) hK
            try simp only [g7_σ76, g9_σ76, g10_σ76, g11_σ76, g12_σ76, g13_σ76, g20_σ76, g22_σ76, g23_σ76, g24_σ76, g25_σ76] at hqv81
            have g7_σ82 : σ82.1 218 7 = (σ0.1 218 7) := (hkv81.2.1).trans g7_σ76
            have g9_σ82 : σ82.1 218 9 = (σ0.1 218 9) := (hkv81.2.2.1).trans g9_σ76
            have g14_σ82 : σ82.1 218 14 = (σ76.1 218 14) := hkv81.2.2.2.1
            have g15_σ82 : σ82.1 218 15 = (σ76.1 218 15) := hkv81.2.2.2.2.1
            have g20_σ82 : σ82.1 218 20 = (σ0.1 218 20) := (hkv81.2.2.2.2.2.1).trans g20_σ76
            have g22_σ82 : σ82.1 218 22 = (σ0.1 218 22) := (hkv81.2.2.2.2.2.2.1).trans g22_σ76
            have g23_σ82 : σ82.1 218 23 = (σ0.1 218 23) := (hkv81.2.2.2.2.2.2.2.1).trans g23_σ76
            have g24_σ82 : σ82.1 218 24 = (σ0.1 218 24) := (hkv81.2.2.2.2.2.2.2.2.1).trans g24_σ76
            have g25_σ82 : σ82.1 218 25 = (σ0.1 218 25) := (hkv81.2.2.2.2.2.2.2.2.2).trans g25_σ76
            have g62 := hqv81.2
            exact ok_some ⟨hT, (show (TOK σ82.1 ∧ (σ0.1 218 11).toInt ≤ (σ82.1 218 11).toInt ∧ (σ82.1 218 14 = 0 → ((σ0.1 218 11).toInt < (σ82.1 218 11).toInt ∧ nOK tx n i x1 x2) ∧ ((σ0.1 218 13)).toInt = min 99999 (Nv tx n (tkF tx n i) 0 : Int) ∧ RX σ82.1 tx n (tkE tx n i)) ∧ (¬ σ82.1 218 14 = 0 → ((σ0.1 218 13)) = 0 ∧ ¬ nOK tx n i x1 x2)) ∧ (σ82.1 218 7 = σ0.1 218 7 ∧ σ82.1 218 9 = σ0.1 218 9 ∧ σ82.1 218 20 = σ0.1 218 20 ∧ σ82.1 218 22 = σ0.1 218 22 ∧ σ82.1 218 23 = σ0.1 218 23 ∧ σ82.1 218 24 = σ0.1 218 24 ∧ σ82.1 218 25 = σ0.1 218 25) from ⟨by first | exact ⟨hK, by (try simp only [g7_σ82, g9_σ82, g14_σ82, g15_σ82, g20_σ82, g22_σ82, g23_σ82, g24_σ82, g25_σ82]); omega, fun q => absurd q (by (try simp only [g7_σ82, g9_σ82, g14_σ82, g15_σ82, g20_σ82, g22_σ82, g23_σ82, g24_σ82, g25_σ82]); exact n51), fun _ => ⟨rfl, fun q => k12 q.1⟩⟩ | exact ⟨hK, by (try simp only [g7_σ82, g9_σ82, g14_σ82, g15_σ82, g20_σ82, g22_σ82, g23_σ82, g24_σ82, g25_σ82]); omega, fun q => absurd q (by (try simp only [g7_σ82, g9_σ82, g14_σ82, g15_σ82, g20_σ82, g22_σ82, g23_σ82, g24_σ82, g25_σ82]); exact n51), fun _ => ⟨rfl, fun q => by rw [v12] at r39; exact r39 q.2⟩⟩ | exact ⟨hK, by (try simp only [g7_σ82, g9_σ82, g14_σ82, g15_σ82, g20_σ82, g22_σ82, g23_σ82, g24_σ82, g25_σ82]); omega, fun _ => ⟨⟨by (try simp only [g7_σ82, g9_σ82, g14_σ82, g15_σ82, g20_σ82, g22_σ82, g23_σ82, g24_σ82, g25_σ82]); omega, k12, by rw [← v12]; exact r39⟩, v12, g62⟩, fun q => absurd (by (try simp only [g7_σ82, g9_σ82, g14_σ82, g15_σ82, g20_σ82, g22_σ82, g23_σ82, g24_σ82, g25_σ82]); exact y51) q⟩ | exact absurd y51 n44 | exact absurd y51 n24 | exact absurd y51 n17 | exact absurd y51 n4 | exact absurd hg n4 | exact absurd hg n24 | exact absurd hg n51, g7_σ82, g9_σ82, g20_σ82, g22_σ82, g23_σ82, g24_σ82, g25_σ82⟩)⟩
        · have qhc74 := hqv72.2 hc74
          have r39 := qhc74
          rw [J_X12_number_47.eq_1]
          refine ok_gC rfl ?_
          refine ok_zbX (Q := fun V => (V = 0 → ¬ σ61.1 218 14 = 0) ∧ (¬ V = 0 → σ61.1 218 14 = 0)) (x_X12_good) (fun v83 hqv83 => ?_)
          have hqv83 : (v83 = 0 → ¬ σ61.1 218 14 = 0) ∧ (¬ v83 = 0 → σ61.1 218 14 = 0) := hqv83
          try simp only [g7_σ61, g9_σ61, g10_σ61, g11_σ61, g12_σ61, g13_σ61, g20_σ61, g22_σ61, g23_σ61, g24_σ61, g25_σ61, hT.2 224 (by decide)] at hqv83
          refine ok_if (fun hc85 => ?_) (fun hc85 => ?_)
          · have qhc85 := hqv83.1 hc85
            have n51 := qhc85
            exact ok_some ⟨hT, (show (TOK σ61.1 ∧ (σ0.1 218 11).toInt ≤ (σ61.1 218 11).toInt ∧ (σ61.1 218 14 = 0 → ((σ0.1 218 11).toInt < (σ61.1 218 11).toInt ∧ nOK tx n i x1 x2) ∧ (0 : Int32).toInt = min 99999 (Nv tx n (tkF tx n i) 0 : Int) ∧ RX σ61.1 tx n (tkE tx n i)) ∧ (¬ σ61.1 218 14 = 0 → (0 : Int32) = 0 ∧ ¬ nOK tx n i x1 x2)) ∧ (σ61.1 218 7 = σ0.1 218 7 ∧ σ61.1 218 9 = σ0.1 218 9 ∧ σ61.1 218 20 = σ0.1 218 20 ∧ σ61.1 218 22 = σ0.1 218 22 ∧ σ61.1 218 23 = σ0.1 218 23 ∧ σ61.1 218 24 = σ0.1 218 24 ∧ σ61.1 218 25 = σ0.1 218 25) from ⟨by first | exact ⟨hK, by (try simp only [g7_σ61, g9_σ61, g10_σ61, g11_σ61, g12_σ61, g13_σ61, g20_σ61, g22_σ61, g23_σ61, g24_σ61, g25_σ61]); omega, fun q => absurd q (by (try simp only [g7_σ61, g9_σ61, g10_σ61, g11_σ61, g12_σ61, g13_σ61, g20_σ61, g22_σ61, g23_σ61, g24_σ61, g25_σ61]); exact n51), fun _ => ⟨rfl, fun q => k12 q.1⟩⟩ | exact ⟨hK, by (try simp only [g7_σ61, g9_σ61, g10_σ61, g11_σ61, g12_σ61, g13_σ61, g20_σ61, g22_σ61, g23_σ61, g24_σ61, g25_σ61]); omega, fun q => absurd q (by (try simp only [g7_σ61, g9_σ61, g10_σ61, g11_σ61, g12_σ61, g13_σ61, g20_σ61, g22_σ61, g23_σ61, g24_σ61, g25_σ61]); exact n51), fun _ => ⟨rfl, fun q => by rw [v12] at r39; exact r39 q.2⟩⟩ | exact ⟨hK, by (try simp only [g7_σ61, g9_σ61, g10_σ61, g11_σ61, g12_σ61, g13_σ61, g20_σ61, g22_σ61, g23_σ61, g24_σ61, g25_σ61]); omega, fun _ => ⟨⟨by (try simp only [g7_σ61, g9_σ61, g10_σ61, g11_σ61, g12_σ61, g13_σ61, g20_σ61, g22_σ61, g23_σ61, g24_σ61, g25_σ61]); omega, k12, by rw [← v12]; exact r39⟩, v12, g62⟩, fun q => absurd (by (try simp only [g7_σ61, g9_σ61, g10_σ61, g11_σ61, g12_σ61, g13_σ61, g20_σ61, g22_σ61, g23_σ61, g24_σ61, g25_σ61]); exact y51) q⟩ | exact absurd y51 n44 | exact absurd y51 n24 | exact absurd y51 n17 | exact absurd y51 n4 | exact absurd hg n4 | exact absurd hg n24 | exact absurd hg n51, g7_σ61, g9_σ61, g20_σ61, g22_σ61, g23_σ61, g24_σ61, g25_σ61⟩)⟩
          · have qhc85 := hqv83.2 hc85
            have y51 := qhc85
            refine ok_gIv rfl g13_σ61 ?_
            refine ok_gC rfl ?_
            refine ok_zbT (Q := fun V σ => ((TOK σ.1 ∧ (σ61.1 218 10).toInt ≤ (σ.1 218 11).toInt) ∧ RX σ.1 tx n (tkE tx n i)) ∧ (σ.1 218 7 = σ61.1 218 7 ∧ σ.1 218 9 = σ61.1 218 9 ∧ σ.1 218 14 = σ61.1 218 14 ∧ σ.1 218 15 = σ61.1 218 15 ∧ σ.1 218 20 = σ61.1 218 20 ∧ σ.1 218 22 = σ61.1 218 22 ∧ σ.1 218 23 = σ61.1 218 23 ∧ σ.1 218 24 = σ61.1 218 24 ∧ σ.1 218 25 = σ61.1 218 25)) hT (s_X12_advance_r hN (hR.tr hT) (TOK_A hK) (by rw [hT.2 224 (by decide)]; exact hY) (RX_i g9_σ61 g10_σ61 g11_σ61 g12_σ61 g13_σ61 ((hT.2 224 (by decide)).trans tE) nE pK)) (by decide) (fun v87 σ88 hOσ88 hT hqv87 => ?_)
            have hqv87 : ((TOK σ88.1 ∧ (σ61.1 218 10).toInt ≤ (σ88.1 218 11).toInt) ∧ RX σ88.1 tx n (tkE tx n i)) ∧ (σ88.1 218 7 = σ61.1 218 7 ∧ σ88.1 218 9 = σ61.1 218 9 ∧ σ88.1 218 14 = σ61.1 218 14 ∧ σ88.1 218 15 = σ61.1 218 15 ∧ σ88.1 218 20 = σ61.1 218 20 ∧ σ88.1 218 22 = σ61.1 218 22 ∧ σ88.1 218 23 = σ61.1 218 23 ∧ σ88.1 218 24 = σ61.1 218 24 ∧ σ88.1 218 25 = σ61.1 218 25) := hqv87
            have hkv87 := hqv87
            have hqv87 := hqv87.1
            have hK : TOK σ88.1 := by first | exact hqv87.1 | exact hqv87.1.1 | exact TOK_p eσ88 (by decide) hK
            try simp only [g7_σ61, g9_σ61, g10_σ61, g11_σ61, g12_σ61, g13_σ61, g20_σ61, g22_σ61, g23_σ61, g24_σ61, g25_σ61] at hqv87
            have g7_σ88 : σ88.1 218 7 = (σ0.1 218 7) := (hkv87.2.1).trans g7_σ61
            have g9_σ88 : σ88.1 218 9 = (σ0.1 218 9) := (hkv87.2.2.1).trans g9_σ61
            have g14_σ88 : σ88.1 218 14 = (σ61.1 218 14) := hkv87.2.2.2.1
            have g15_σ88 : σ88.1 218 15 = (σ61.1 218 15) := hkv87.2.2.2.2.1
            have g20_σ88 : σ88.1 218 20 = (σ0.1 218 20) := (hkv87.2.2.2.2.2.1).trans g20_σ61
            have g22_σ88 : σ88.1 218 22 = (σ0.1 218 22) := (hkv87.2.2.2.2.2.2.1).trans g22_σ61
            have g23_σ88 : σ88.1 218 23 = (σ0.1 218 23) := (hkv87.2.2.2.2.2.2.2.1).trans g23_σ61
            have g24_σ88 : σ88.1 218 24 = (σ0.1 218 24) := (hkv87.2.2.2.2.2.2.2.2.1).trans g24_σ61
            have g25_σ88 : σ88.1 218 25 = (σ0.1 218 25) := (hkv87.2.2.2.2.2.2.2.2.2).trans g25_σ61
            have g62 := hqv87.2
            exact ok_some ⟨hT, (show (TOK σ88.1 ∧ (σ0.1 218 11).toInt ≤ (σ88.1 218 11).toInt ∧ (σ88.1 218 14 = 0 → ((σ0.1 218 11).toInt < (σ88.1 218 11).toInt ∧ nOK tx n i x1 x2) ∧ ((σ0.1 218 13)).toInt = min 99999 (Nv tx n (tkF tx n i) 0 : Int) ∧ RX σ88.1 tx n (tkE tx n i)) ∧ (¬ σ88.1 218 14 = 0 → ((σ0.1 218 13)) = 0 ∧ ¬ nOK tx n i x1 x2)) ∧ (σ88.1 218 7 = σ0.1 218 7 ∧ σ88.1 218 9 = σ0.1 218 9 ∧ σ88.1 218 20 = σ0.1 218 20 ∧ σ88.1 218 22 = σ0.1 218 22 ∧ σ88.1 218 23 = σ0.1 218 23 ∧ σ88.1 218 24 = σ0.1 218 24 ∧ σ88.1 218 25 = σ0.1 218 25) from ⟨by first | exact ⟨hK, by (try simp only [g7_σ88, g9_σ88, g14_σ88, g15_σ88, g20_σ88, g22_σ88, g23_σ88, g24_σ88, g25_σ88]); omega, fun q => absurd q (by (try simp only [g7_σ88, g9_σ88, g14_σ88, g15_σ88, g20_σ88, g22_σ88, g23_σ88, g24_σ88, g25_σ88]); exact n51), fun _ => ⟨rfl, fun q => k12 q.1⟩⟩ | exact ⟨hK, by (try simp only [g7_σ88, g9_σ88, g14_σ88, g15_σ88, g20_σ88, g22_σ88, g23_σ88, g24_σ88, g25_σ88]); omega, fun q => absurd q (by (try simp only [g7_σ88, g9_σ88, g14_σ88, g15_σ88, g20_σ88, g22_σ88, g23_σ88, g24_σ88, g25_σ88]); exact n51), fun _ => ⟨rfl, fun q => by rw [v12] at r39; exact r39 q.2⟩⟩ | exact ⟨hK, by (try simp only [g7_σ88, g9_σ88, g14_σ88, g15_σ88, g20_σ88, g22_σ88, g23_σ88, g24_σ88, g25_σ88]); omega, fun _ => ⟨⟨by (try simp only [g7_σ88, g9_σ88, g14_σ88, g15_σ88, g20_σ88, g22_σ88, g23_σ88, g24_σ88, g25_σ88]); omega, k12, by rw [← v12]; exact r39⟩, v12, g62⟩, fun q => absurd (by (try simp only [g7_σ88, g9_σ88, g14_σ88, g15_σ88, g20_σ88, g22_σ88, g23_σ88, g24_σ88, g25_σ88]); exact y51) q⟩ | exact absurd y51 n44 | exact absurd y51 n24 | exact absurd y51 n17 | exact absurd y51 n4 | exact absurd hg n4 | exact absurd hg n24 | exact absurd hg n51, g7_σ88, g9_σ88, g20_σ88, g22_σ88, g23_σ88, g24_σ88, g25_σ88⟩)⟩
end Zq11_0
section Zq11_1
/-- the word w stands at i -/
def isW (t : Nat → Int32) (n i w : Nat) : Prop := tkK t n i = 1 ∧ tkE t n i = tkF t n i + zlen.getD w 0 ∧ ∀ k, k < zlen.getD w 0 → t (tkF t n i + k) = zch w (nI k)
theorem xe_is36 {N w : Nat} {σ : zS} (hN : 1048576 ≤ N) (hR : RF σ.2.2) (hw : w < zSn) (hK : TOK σ.1) {y0 : Int32} {C : Prop} (hy : y0 = 0 ∨ y0 = 1) (hA : ¬ y0 = 0 → σ.1 218 10 - σ.1 218 11 = nI (zlen.getD w 0)) (hC0 : y0 = 0 → ¬ C) (hC1 : ¬ y0 = 0 → (C ↔ ∀ k, k < zlen.getD w 0 → σ.1 224 ((σ.1 218 11).toInt.toNat + k) = zch w (nI k))) : Ok (J_X12_is_36 N 218 w y0 σ) (fun r => r.2 = σ ∧ ((r.1 = 0 → ¬ C) ∧ (¬ r.1 = 0 → C))) := by
  have hz := zlen_b w hw
  have hl : (nI (zlen.getD w 0)).toInt = (zlen.getD w 0 : Int) := nI_toInt (by omega)
  have hk := hK.1
  rw [J_X12_is_36.eq_1]
  refine ok_lp (fun t : Int32 × Int32 × zS => t.2.2 = σ ∧ (0 ≤ t.2.1.toInt ∧ t.2.1.toInt ≤ 20) ∧ ((t.1 = 0 ∧ ¬ C) ∨ (t.1 = 1 ∧ ¬ y0 = 0 ∧ ∀ k : Nat, (k : Int) < t.2.1.toInt → σ.1 224 ((σ.1 218 11).toInt.toNat + k) = zch w (nI k)))) (fun t => ((zlen.getD w 0 : Int) - t.2.1.toInt).toNat) (fun again t hI ih => ?_) N _ ⟨rfl, (by decide : 0 ≤ (0 : Int32).toInt ∧ (0 : Int32).toInt ≤ 20), ?_⟩ (by simp only [Int32.reduceToInt]; omega)
  · obtain ⟨x2, x3, σ'⟩ := t
    obtain ⟨e, h0, hz2⟩ := hI
    have e : σ' = σ := e
    have h0 : 0 ≤ x3.toInt ∧ x3.toInt ≤ 20 := h0
    have hz2 : (x2 = 0 ∧ ¬ C) ∨ (x2 = 1 ∧ ¬ y0 = 0 ∧ ∀ k : Nat, (k : Int) < x3.toInt → σ.1 224 ((σ.1 218 11).toInt.toNat + k) = zch w (nI k)) := hz2
    subst e
    have z2 : x2 = 0 ∨ x2 = 1 := hz2.elim (fun q => Or.inl q.1) (fun q => Or.inr q.1)
    rw [F_X12_is_39.eq_1]
    refine ok_zbX (σ := σ') (Q := fun v => v = nI (zlen.getD w 0)) ⟨_, if_pos hw, rfl, rfl⟩ (fun v hv => ?_)
    subst hv
    refine ok_if (fun h => ok_rZ z2 ⟨rfl, fun q => ?_, fun q => ?_⟩) (fun h => ok_if (fun h2 => ok_rZ z2 ⟨rfl, fun _ => ?_, fun q => absurd h2 q⟩) (fun h2 => ?_))
    · have q : x2 = 0 := q
      rcases hz2 with a | a
      · exact a.2
      · rw [a.1] at q; exact absurd q (by decide)
    · have q : ¬ x2 = 0 := q
      rcases hz2 with a | a
      · exact absurd a.1 q
      · rw [Int32.le_iff_toInt_le, hl] at h
        exact (hC1 a.2.1).mpr (fun k hk => a.2.2 k (by omega))
    · rcases hz2 with a | a
      · exact a.2
      · rw [a.1] at h2; exact absurd h2 (by decide)
    · have a := hz2.resolve_left (fun q => h2 q.1)
      rw [Int32.le_iff_toInt_le, hl] at h
      have hB := congrArg Int32.toInt (hA a.2.1)
      rw [ti_sub, hl] at hB
      have hs : (x3 + 1).toInt = x3.toInt + 1 := by rw [ti_add]; simp only [Int32.reduceToInt]; omega
      have ha : (σ'.1 218 11 + x3).toInt = (σ'.1 218 11).toInt + x3.toInt := by rw [ti_add]; omega
      refine ok_gR (Sx := []) (v := 224) Tr.rf rfl (hR 218 6 rfl) ?_
      refine ok_gI rfl ?_
      refine ok_aIn (n := 600) rfl (by rw [ha]; omega) (by rw [ha]; omega) (fun v7 e7 => ?_)
      have e7 : v7 = σ'.1 224 ((σ'.1 218 11).toInt.toNat + x3.toInt.toNat) := by
        rw [e7, show (σ'.1 218 11 + x3).toNatClampNeg = (σ'.1 218 11 + x3).toInt.toNat from rfl, ha, show ((σ'.1 218 11).toInt + x3.toInt).toNat = (σ'.1 218 11).toInt.toNat + x3.toInt.toNat by omega]
      refine ok_zbX (σ := σ') (Q := fun v => v = zch w x3) ⟨_, if_pos ⟨hw, h0.1, by omega⟩, rfl, rfl⟩ (fun v8 e8 => ?_)
      have hx : nI x3.toInt.toNat = x3 := Int32.toInt_inj.mp (by rw [nI_toInt (by omega)]; omega)
      have hm : ((zlen.getD w 0 : Int) - (x3 + 1).toInt).toNat < ((zlen.getD w 0 : Int) - x3.toInt).toNat := by rw [hs]; omega
      have hb : 0 ≤ (x3 + 1).toInt ∧ (x3 + 1).toInt ≤ 20 := by rw [hs]; omega
      refine ok_if (fun q => ih (1, x3 + 1, σ') ⟨rfl, hb, Or.inr ⟨rfl, a.2.1, fun k hk => ?_⟩⟩ hm) (fun q => ih (0, x3 + 1, σ') ⟨rfl, hb, Or.inl ⟨rfl, fun c => ?_⟩⟩ hm)
      · have hk : (k : Int) < (x3 + 1).toInt := hk
        rw [hs] at hk
        by_cases r : (k : Int) = x3.toInt
        · rw [show k = x3.toInt.toNat by omega, ← e7, hx, q, e8]
        · exact a.2.2 k (by omega)
      · apply q
        rw [e7, e8, ((hC1 a.2.1).mp c) x3.toInt.toNat (by omega), hx]
  · rcases hy with q | q
    · exact Or.inl ⟨q, hC0 q⟩
    · exact Or.inr ⟨q, by rw [q]; decide, fun k hk => absurd hk (by simp only [Int32.reduceToInt]; omega)⟩
theorem xe_X12_is {N w : Nat} {σ : zS} {t : Nat → Int32} {n i : Nat} (hN : 1048576 ≤ N) (hR : RF σ.2.2) (hw : w < zSn) (hK : TOK σ.1) (hg : σ.1 218 14 = 0) (hG : RX σ.1 t n i) : Ok (f_X12_is N 218 w σ) (fun r => r.2 = σ ∧ ((r.1 = 0 → ¬ isW t n i w) ∧ (¬ r.1 = 0 → isW t n i w))) := by
  have hk := hK.1
  have hz := zlen_b w hw
  have hl : (nI (zlen.getD w 0)).toInt = (zlen.getD w 0 : Int) := nI_toInt (by omega)
  have h11 := hG.2.1.1
  have h10 := hG.2.1.2
  have h12 := hG.2.2.1
  rw [f_X12_is.eq_1]
  refine ok_gC rfl ?_
  refine ok_zbX (Q := fun v => (v = 0 → ¬ σ.1 218 14 = 0) ∧ (¬ v = 0 → σ.1 218 14 = 0)) x_X12_good (fun v hv => ?_)
  refine ok_if (fun h => absurd hg (hv.1 h)) (fun h => ?_)
  refine ok_gI rfl ?_
  refine ok_if (fun h1 => ?_) (fun h1 => xe_is36 (y0 := 0) hN hR hw hK (Or.inl rfl) (fun q => absurd rfl q) (fun _ c => h1 (h12.trans c.1)) (fun q => absurd rfl q))
  refine ok_gI rfl ?_
  refine ok_gI rfl ?_
  refine ok_zbX (σ := σ) (Q := fun v => v = nI (zlen.getD w 0)) ⟨_, if_pos hw, rfl, rfl⟩ (fun v hv2 => ?_)
  subst hv2
  have es : (σ.1 218 10 - σ.1 218 11).toInt = (σ.1 218 10).toInt - (σ.1 218 11).toInt := by rw [ti_sub]; omega
  refine ok_if (fun h3 => xe_is36 (y0 := 1) hN hR hw hK (Or.inr rfl) (fun _ => h3) (fun q => absurd q (by decide)) (fun _ => ?_)) (fun h3 => xe_is36 (y0 := 0) hN hR hw hK (Or.inl rfl) (fun q => absurd rfl q) (fun _ c => h3 (Int32.toInt_inj.mp ?_)) (fun q => absurd rfl q))
  · have q := congrArg Int32.toInt h3
    rw [es, hl] at q
    have ef : (σ.1 218 11).toInt.toNat = tkF t n i := by omega
    rw [ef, hG.1.1]
    exact ⟨fun c => c.2.2, fun c => ⟨h12.symm.trans h1, by omega, c⟩⟩
  · rw [es, hl]
    have := c.2.1
    omega
end Zq11_1
section Zq11_2
/-- the set that a word of letters below m spells, each once -/
def wsF (t : Nat → Int32) (m : Int32) : Nat → Nat → Int32 → Option Int32
  | 0, _, s => some s
  | f + 1, p, s => if m ≤ t p - 97 ∨ ((s >>> ((t p - 97) &&& 31)) &&& 1) = 1 then none else wsF t m f (p + 1) (s ||| ((1 : Int32) <<< ((t p - 97) &&& 31)))
theorem wsF_s {t : Nat → Int32} {m s : Int32} {e p : Nat} (h : p < e) : wsF t m (e - p) p s = if m ≤ t p - 97 ∨ ((s >>> ((t p - 97) &&& 31)) &&& 1) = 1 then none else wsF t m (e - (p + 1)) (p + 1) (s ||| ((1 : Int32) <<< ((t p - 97) &&& 31))) := by
  rw [show e - p = (e - (p + 1)) + 1 by omega]
  rfl
theorem wsF_e {t : Nat → Int32} {m s : Int32} {e p : Nat} (h : e ≤ p) : wsF t m (e - p) p s = some s := by
  rw [show e - p = 0 by omega]
  rfl
def wS (t : Nat → Int32) (n i : Nat) (m : Int32) : Option Int32 := wsF t m (tkE t n i - tkF t n i) (tkF t n i) 0
/-- a set stands at i -/
abbrev mOK (t : Nat → Int32) (n i : Nat) (m : Int32) : Prop := nOK t n i 0 0 ∨ (tkK t n i = 1 ∧ (wS t n i m).isSome = true)

set_option maxHeartbeats 4000000 in
set_option maxRecDepth 100000 in
theorem s_X12_wordSet_r {N : Nat} (hN : 1048576 ≤ N) {x1 : Int32} {σ0 : zS} {tx : Nat → Int32} {n i : Nat} (hR : RF σ0.2.2) (hK : TOK σ0.1) (hY : BYT (σ0.1 224)) (hG : RX σ0.1 tx n i) (hg : σ0.1 218 14 = 0) (h12 : σ0.1 218 12 = 1) (hn : 0 ≤ x1.toInt ∧ x1.toInt ≤ 10) : Ok (f_X12_wordSet N 218 x1 σ0) (fun r => Tr [218] σ0 r.2 ∧ ((TOK r.2.1 ∧ (0 ≤ r.1.toInt ∧ r.1.toInt ≤ 1023) ∧ (r.2.1 218 14 = 0 → wS tx n i x1 = some r.1) ∧ (¬ r.2.1 218 14 = 0 → wS tx n i x1 = none)) ∧ (r.2.1 218 7 = σ0.1 218 7 ∧ r.2.1 218 9 = σ0.1 218 9 ∧ r.2.1 218 10 = σ0.1 218 10 ∧ r.2.1 218 11 = σ0.1 218 11 ∧ r.2.1 218 12 = σ0.1 218 12 ∧ r.2.1 218 13 = σ0.1 218 13 ∧ r.2.1 218 20 = σ0.1 218 20 ∧ r.2.1 218 22 = σ0.1 218 22 ∧ r.2.1 218 23 = σ0.1 218 23 ∧ r.2.1 218 24 = σ0.1 218 24 ∧ r.2.1 218 25 = σ0.1 218 25))) := by
  have hT : Tr [218] σ0 σ0 := Tr.rf
  have hK1 := hK.1
  have tE : σ0.1 224 = tx := hG.1.1
  have nE : (σ0.1 218 9).toInt.toNat = n := hG.1.2
  have pK : TKV (σ0.1 218 11) (σ0.1 218 10) (σ0.1 218 12) (σ0.1 218 13) tx n i := hG.2
  have w12 := hK.2.2 h12
  have h11 := pK.1.1
  have h10 := pK.1.2
  rw [tE] at w12
  rw [f_X12_wordSet.eq_1]
  refine ok_gI rfl ?_
  refine ok_lp (fun t : Int32 × Int32 × zS => Tr [218] σ0 (t.2.2) ∧ (((0 ≤ (t.1).toInt ∧ (t.1).toInt ≤ 1023) ∧ (σ0.1 218 11).toInt ≤ (t.2.1).toInt ∧ (t.2.1).toInt ≤ (σ0.1 218 10).toInt) ∧ wsF tx x1 (tkE tx n i - (t.2.1).toInt.toNat) (t.2.1).toInt.toNat (t.1) = wS tx n i x1) ∧ (TOK (t.2.2).1) ∧ ((t.2.2).1 218 7 = (σ0.1 218 7)) ∧ ((t.2.2).1 218 9 = (σ0.1 218 9)) ∧ ((t.2.2).1 218 10 = (σ0.1 218 10)) ∧ ((t.2.2).1 218 11 = (σ0.1 218 11)) ∧ ((t.2.2).1 218 12 = (σ0.1 218 12)) ∧ ((t.2.2).1 218 13 = (σ0.1 218 13)) ∧ ((t.2.2).1 218 14 = (σ0.1 218 14)) ∧ ((t.2.2).1 218 15 = (σ0.1 218 15)) ∧ ((t.2.2).1 218 20 = (σ0.1 218 20)) ∧ ((t.2.2).1 218 22 = (σ0.1 218 22)) ∧ ((t.2.2).1 218 23 = (σ0.1 218 23)) ∧ ((t.2.2).1 218 24 = (σ0.1 218 24)) ∧ ((t.2.2).1 218 25 = (σ0.1 218 25))) (fun t : Int32 × Int32 × zS => ((σ0.1 218 10).toInt - (t.2.1).toInt).toNat) (fun again2 t hI ih7_2 => ?_) N _ (show Tr [218] σ0 σ0 ∧ (((0 ≤ (0 : Int32).toInt ∧ (0 : Int32).toInt ≤ 1023) ∧ (σ0.1 218 11).toInt ≤ (σ0.1 218 11).toInt ∧ (σ0.1 218 11).toInt ≤ (σ0.1 218 10).toInt) ∧ wsF tx x1 (tkE tx n i - (σ0.1 218 11).toInt.toNat) (σ0.1 218 11).toInt.toNat (0 : Int32) = wS tx n i x1) ∧ (TOK σ0.1) ∧ (σ0.1 218 7 = (σ0.1 218 7)) ∧ (σ0.1 218 9 = (σ0.1 218 9)) ∧ (σ0.1 218 10 = (σ0.1 218 10)) ∧ (σ0.1 218 11 = (σ0.1 218 11)) ∧ (σ0.1 218 12 = (σ0.1 218 12)) ∧ (σ0.1 218 13 = (σ0.1 218 13)) ∧ (σ0.1 218 14 = (σ0.1 218 14)) ∧ (σ0.1 218 15 = (σ0.1 218 15)) ∧ (σ0.1 218 20 = (σ0.1 218 20)) ∧ (σ0.1 218 22 = (σ0.1 218 22)) ∧ (σ0.1 218 23 = (σ0.1 218 23)) ∧ (σ0.1 218 24 = (σ0.1 218 24)) ∧ (σ0.1 218 25 = (σ0.1 218 25)) from ⟨hT, (by exact ⟨⟨by decide, by omega, by omega⟩, by rw [show (σ0.1 218 11).toInt.toNat = tkF tx n i by omega]; rfl⟩), hK, rfl, rfl, rfl, rfl, rfl, rfl, rfl, rfl, rfl, rfl, rfl, rfl, rfl⟩) (show ((σ0.1 218 10).toInt - (σ0.1 218 11).toInt).toNat < N from (by omega))
  obtain ⟨x2_2, x3_2, σ2⟩ := t
  have hI : Tr [218] σ0 σ2 ∧ (((0 ≤ x2_2.toInt ∧ x2_2.toInt ≤ 1023) ∧ (σ0.1 218 11).toInt ≤ x3_2.toInt ∧ x3_2.toInt ≤ (σ0.1 218 10).toInt) ∧ wsF tx x1 (tkE tx n i - x3_2.toInt.toNat) x3_2.toInt.toNat x2_2 = wS tx n i x1) ∧ (TOK σ2.1) ∧ (σ2.1 218 7 = (σ0.1 218 7)) ∧ (σ2.1 218 9 = (σ0.1 218 9)) ∧ (σ2.1 218 10 = (σ0.1 218 10)) ∧ (σ2.1 218 11 = (σ0.1 218 11)) ∧ (σ2.1 218 12 = (σ0.1 218 12)) ∧ (σ2.1 218 13 = (σ0.1 218 13)) ∧ (σ2.1 218 14 = (σ0.1 218 14)) ∧ (σ2.1 218 15 = (σ0.1 218 15)) ∧ (σ2.1 218 20 = (σ0.1 218 20)) ∧ (σ2.1 218 22 = (σ0.1 218 22)) ∧ (σ2.1 218 23 = (σ0.1 218 23)) ∧ (σ2.1 218 24 = (σ0.1 218 24)) ∧ (σ2.1 218 25 = (σ0.1 218 25)) := hI
  obtain ⟨hT, hI2, hK, g7_σ2, g9_σ2, g10_σ2, g11_σ2, g12_σ2, g13_σ2, g14_σ2, g15_σ2, g20_σ2, g22_σ2, g23_σ2, g24_σ2, g25_σ2⟩ := hI
  rw [F_X12_wordSet_7.eq_1]
  have h2 := hI2.1.1
  have h3 := hI2.1.2
  have q7 := hI2.2
  refine ok_gIv rfl g10_σ2 ?_
  refine ok_if (fun hc4 => ?_) (fun hc4 => ?_)
  · have l12 := hc4
    rw [Int32.le_iff_toInt_le] at l12
    have z12 := q7.symm.trans (wsF_e (by omega))
    exact ok_some ⟨hT, (show (TOK σ2.1 ∧ (0 ≤ x2_2.toInt ∧ x2_2.toInt ≤ 1023) ∧ (σ2.1 218 14 = 0 → wS tx n i x1 = some x2_2) ∧ (¬ σ2.1 218 14 = 0 → wS tx n i x1 = none)) ∧ (σ2.1 218 7 = σ0.1 218 7 ∧ σ2.1 218 9 = σ0.1 218 9 ∧ σ2.1 218 10 = σ0.1 218 10 ∧ σ2.1 218 11 = σ0.1 218 11 ∧ σ2.1 218 12 = σ0.1 218 12 ∧ σ2.1 218 13 = σ0.1 218 13 ∧ σ2.1 218 20 = σ0.1 218 20 ∧ σ2.1 218 22 = σ0.1 218 22 ∧ σ2.1 218 23 = σ0.1 218 23 ∧ σ2.1 218 24 = σ0.1 218 24 ∧ σ2.1 218 25 = σ0.1 218 25) from ⟨by first | exact ⟨hK, h2, fun _ => z12, fun q => absurd (g14_σ2.trans hg) q⟩ | exact ⟨hK, by decide, fun q => absurd q HQ.2, fun _ => z29.symm⟩, g7_σ2, g9_σ2, g10_σ2, g11_σ2, g12_σ2, g13_σ2, g20_σ2, g22_σ2, g23_σ2, g24_σ2, g25_σ2⟩)⟩
  · have l12 := hc4
    rw [Int32.le_iff_toInt_le] at l12
    have s3 : (x3_2 + 1).toInt = x3_2.toInt + 1 := by rw [ti_add]; simp only [Int32.reduceToInt]; omega
    have j3 : (x3_2 + 1).toInt.toNat = x3_2.toInt.toNat + 1 := by rw [s3]; omega
    refine ok_gR (v := 224) hT rfl (hR 218 6 rfl) ?_
    refine ok_aIn rfl (by ((try simp only [g7_σ2, g9_σ2, g10_σ2, g11_σ2, g12_σ2, g13_σ2, g14_σ2, g15_σ2, g20_σ2, g22_σ2, g23_σ2, g24_σ2, g25_σ2])); first | omega | decide | (simp only [Int32.le_iff_toInt_le, Int32.lt_iff_toInt_lt, ti_add, ti_sub, ti_mul, Int32.reduceToInt] at *; omega)) (by ((try simp only [g7_σ2, g9_σ2, g10_σ2, g11_σ2, g12_σ2, g13_σ2, g14_σ2, g15_σ2, g20_σ2, g22_σ2, g23_σ2, g24_σ2, g25_σ2])); first | omega | decide | (simp only [Int32.le_iff_toInt_le, Int32.lt_iff_toInt_lt, ti_add, ti_sub, ti_mul, Int32.reduceToInt] at *; omega)) (fun v6 ev6 => ?_)
    have ev20 : v6 = tx x3_2.toInt.toNat := by rw [ev6, hT.2 224 (by decide), tE]; rfl
    have t20 : 97 ≤ (v6).toInt ∧ (v6).toInt ≤ 122 := by rw [ev20]; exact w12 x3_2.toInt.toNat (by omega) (by omega)
    have s20 : (v6 - 97).toInt = v6.toInt - 97 := by rw [ti_sub]; simp only [Int32.reduceToInt]; omega
    have o20 : (v6 - 97).toInt ≤ 9 → 1 ≤ ((1 : Int32) <<< ((v6 - 97) &&& 31)).toInt ∧ ((1 : Int32) <<< ((v6 - 97) &&& 31)).toInt ≤ 512 := fun h => ti_one9 (by omega) h
    refine ok_if (fun hc7 => ?_) (fun hc7 => ?_)
    · have z29 := (wsF_s (t := tx) (m := x1) (s := x2_2) (e := tkE tx n i) (p := x3_2.toInt.toNat) (by omega)).symm.trans q7
      rw [if_pos (Or.inl (ev20 ▸ hc7))] at z29
      refine ok_gC rfl ?_
      refine ok_zbT (Q := fun V σ => (TOK σ.1 ∧ ¬ σ.1 218 14 = 0) ∧ (σ.1 218 7 = σ2.1 218 7 ∧ σ.1 218 9 = σ2.1 218 9 ∧ σ.1 218 10 = σ2.1 218 10 ∧ σ.1 218 11 = σ2.1 218 11 ∧ σ.1 218 12 = σ2.1 218 12 ∧ σ.1 218 13 = σ2.1 218 13 ∧ σ.1 218 20 = σ2.1 218 20 ∧ σ.1 218 22 = σ2.1 218 22 ∧ σ.1 218 23 = σ2.1 218 23 ∧ σ.1 218 24 = σ2.1 218 24 ∧ σ.1 218 25 = σ2.1 218 25)) hT (s_X12_errs hN (hR.tr hT) (hK) (by rw [hT.2 224 (by decide)]; exact hY) (by decide)) (by decide) (fun v8 σ9 hOσ9 hT hqv8 => ?_)
      have hqv8 : (TOK σ9.1 ∧ ¬ σ9.1 218 14 = 0) ∧ (σ9.1 218 7 = σ2.1 218 7 ∧ σ9.1 218 9 = σ2.1 218 9 ∧ σ9.1 218 10 = σ2.1 218 10 ∧ σ9.1 218 11 = σ2.1 218 11 ∧ σ9.1 218 12 = σ2.1 218 12 ∧ σ9.1 218 13 = σ2.1 218 13 ∧ σ9.1 218 20 = σ2.1 218 20 ∧ σ9.1 218 22 = σ2.1 218 22 ∧ σ9.1 218 23 = σ2.1 218 23 ∧ σ9.1 218 24 = σ2.1 218 24 ∧ σ9.1 218 25 = σ2.1 218 25) := hqv8
      have hkv8 := hqv8
      have hqv8 := hqv8.1
      have hK : TOK σ9.1 := by first | exact hqv8.1 | exact hqv8.1.1 | exact TOK_p eσ9 (by decide) hK
      try simp only [g7_σ2, g9_σ2, g10_σ2, g11_σ2, g12_σ2, g13_σ2, g14_σ2, g15_σ2, g20_σ2, g22_σ2, g23_σ2, g24_σ2, g25_σ2] at hqv8
      have g7_σ9 : σ9.1 218 7 = (σ0.1 218 7) := (hkv8.2.1).trans g7_σ2
      have g9_σ9 : σ9.1 218 9 = (σ0.1 218 9) := (hkv8.2.2.1).trans g9_σ2
      have g10_σ9 : σ9.1 218 10 = (σ0.1 218 10) := (hkv8.2.2.2.1).trans g10_σ2
      have g11_σ9 : σ9.1 218 11 = (σ0.1 218 11) := (hkv8.2.2.2.2.1).trans g11_σ2
      have g12_σ9 : σ9.1 218 12 = (σ0.1 218 12) := (hkv8.2.2.2.2.2.1).trans g12_σ2
      have g13_σ9 : σ9.1 218 13 = (σ0.1 218 13) := (hkv8.2.2.2.2.2.2.1).trans g13_σ2
      have g20_σ9 : σ9.1 218 20 = (σ0.1 218 20) := (hkv8.2.2.2.2.2.2.2.1).trans g20_σ2
      have g22_σ9 : σ9.1 218 22 = (σ0.1 218 22) := (hkv8.2.2.2.2.2.2.2.2.1).trans g22_σ2
      have g23_σ9 : σ9.1 218 23 = (σ0.1 218 23) := (hkv8.2.2.2.2.2.2.2.2.2.1).trans g23_σ2
      have g24_σ9 : σ9.1 218 24 = (σ0.1 218 24) := (hkv8.2.2.2.2.2.2.2.2.2.2.1).trans g24_σ2
      have g25_σ9 : σ9.1 218 25 = (σ0.1 218 25) := (hkv8.2.2.2.2.2.2.2.2.2.2.2).trans g25_σ2
      exact ok_some ⟨hT, (show (TOK σ9.1 ∧ (0 ≤ (0 : Int32).toInt ∧ (0 : Int32).toInt ≤ 1023) ∧ (σ9.1 218 14 = 0 → wS tx n i x1 = some (0 : Int32)) ∧ (¬ σ9.1 218 14 = 0 → wS tx n i x1 = none)) ∧ (σ9.1 218 7 = σ0.1 218 7 ∧ σ9.1 218 9 = σ0.1 218 9 ∧ σ9.1 218 10 = σ0.1 218 10 ∧ σ9.1 218 11 = σ0.1 218 11 ∧ σ9.1 218 12 = σ0.1 218 12 ∧ σ9.1 218 13 = σ0.1 218 13 ∧ σ9.1 218 20 = σ0.1 218 20 ∧ σ9.1 218 22 = σ0.1 218 22 ∧ σ9.1 218 23 = σ0.1 218 23 ∧ σ9.1 218 24 = σ0.1 218 24 ∧ σ9.1 218 25 = σ0.1 218 25) from ⟨by first | exact ⟨hK, h2, fun _ => z12, fun q => absurd (rfl.trans hg) q⟩ | exact ⟨hK, by decide, fun q => absurd q hqv8.2, fun _ => z29.symm⟩, g7_σ9, g9_σ9, g10_σ9, g11_σ9, g12_σ9, g13_σ9, g20_σ9, g22_σ9, g23_σ9, g24_σ9, g25_σ9⟩)⟩
    · have n29 := hc7
      have c29 := hc7
      rw [Int32.le_iff_toInt_le, s20] at n29
      refine ok_if (fun hc10 => ?_) (fun hc10 => ?_)
      · have z29 := (wsF_s (t := tx) (m := x1) (s := x2_2) (e := tkE tx n i) (p := x3_2.toInt.toNat) (by omega)).symm.trans q7
        rw [if_pos (Or.inr (ev20 ▸ hc10))] at z29
        refine ok_gC rfl ?_
        refine ok_zbT (Q := fun V σ => (TOK σ.1 ∧ ¬ σ.1 218 14 = 0) ∧ (σ.1 218 7 = σ2.1 218 7 ∧ σ.1 218 9 = σ2.1 218 9 ∧ σ.1 218 10 = σ2.1 218 10 ∧ σ.1 218 11 = σ2.1 218 11 ∧ σ.1 218 12 = σ2.1 218 12 ∧ σ.1 218 13 = σ2.1 218 13 ∧ σ.1 218 20 = σ2.1 218 20 ∧ σ.1 218 22 = σ2.1 218 22 ∧ σ.1 218 23 = σ2.1 218 23 ∧ σ.1 218 24 = σ2.1 218 24 ∧ σ.1 218 25 = σ2.1 218 25)) hT (s_X12_errs hN (hR.tr hT) (hK) (by rw [hT.2 224 (by decide)]; exact hY) (by decide)) (by decide) (fun v11 σ12 hOσ12 hT hqv11 => ?_)
        have hqv11 : (TOK σ12.1 ∧ ¬ σ12.1 218 14 = 0) ∧ (σ12.1 218 7 = σ2.1 218 7 ∧ σ12.1 218 9 = σ2.1 218 9 ∧ σ12.1 218 10 = σ2.1 218 10 ∧ σ12.1 218 11 = σ2.1 218 11 ∧ σ12.1 218 12 = σ2.1 218 12 ∧ σ12.1 218 13 = σ2.1 218 13 ∧ σ12.1 218 20 = σ2.1 218 20 ∧ σ12.1 218 22 = σ2.1 218 22 ∧ σ12.1 218 23 = σ2.1 218 23 ∧ σ12.1 218 24 = σ2.1 218 24 ∧ σ12.1 218 25 = σ2.1 218 25) := hqv11
        have hkv11 := hqv11
        have hqv11 := hqv11.1
        have hK : TOK σ12.1 := by first | exact hqv11.1 | exact hqv11.1.1 | exact TOK_p eσ12 (by decide) hK
        try simp only [g7_σ2, g9_σ2, g10_σ2, g11_σ2, g12_σ2, g13_σ2, g14_σ2, g15_σ2, g20_σ2, g22_σ2, g23_σ2, g24_σ2, g25_σ2] at hqv11
        have g7_σ12 : σ12.1 218 7 = (σ0.1 218 7) := (hkv11.2.1).trans g7_σ2
        have g9_σ12 : σ12.1 218 9 = (σ0.1 218 9) := (hkv11.2.2.1).trans g9_σ2
        have g10_σ12 : σ12.1 218 10 = (σ0.1 218 10) := (hkv11.2.2.2.1).trans g10_σ2
        have g11_σ12 : σ12.1 218 11 = (σ0.1 218 11) := (hkv11.2.2.2.2.1).trans g11_σ2
        have g12_σ12 : σ12.1 218 12 = (σ0.1 218 12) := (hkv11.2.2.2.2.2.1).trans g12_σ2
        have g13_σ12 : σ12.1 218 13 = (σ0.1 218 13) := (hkv11.2.2.2.2.2.2.1).trans g13_σ2
        have g20_σ12 : σ12.1 218 20 = (σ0.1 218 20) := (hkv11.2.2.2.2.2.2.2.1).trans g20_σ2
        have g22_σ12 : σ12.1 218 22 = (σ0.1 218 22) := (hkv11.2.2.2.2.2.2.2.2.1).trans g22_σ2
        have g23_σ12 : σ12.1 218 23 = (σ0.1 218 23) := (hkv11.2.2.2.2.2.2.2.2.2.1).trans g23_σ2
        have g24_σ12 : σ12.1 218 24 = (σ0.1 218 24) := (hkv11.2.2.2.2.2.2.2.2.2.2.1).trans g24_σ2
        have g25_σ12 : σ12.1 218 25 = (σ0.1 218 25) := (hkv11.2.2.2.2.2.2.2.2.2.2.2).trans g25_σ2
        exact ok_some ⟨hT, (show (TOK σ12.1 ∧ (0 ≤ (0 : Int32).toInt ∧ (0 : Int32).toInt ≤ 1023) ∧ (σ12.1 218 14 = 0 → wS tx n i x1 = some (0 : Int32)) ∧ (¬ σ12.1 218 14 = 0 → wS tx n i x1 = none)) ∧ (σ12.1 218 7 = σ0.1 218 7 ∧ σ12.1 218 9 = σ0.1 218 9 ∧ σ12.1 218 10 = σ0.1 218 10 ∧ σ12.1 218 11 = σ0.1 218 11 ∧ σ12.1 218 12 = σ0.1 218 12 ∧ σ12.1 218 13 = σ0.1 218 13 ∧ σ12.1 218 20 = σ0.1 218 20 ∧ σ12.1 218 22 = σ0.1 218 22 ∧ σ12.1 218 23 = σ0.1 218 23 ∧ σ12.1 218 24 = σ0.1 218 24 ∧ σ12.1 218 25 = σ0.1 218 25) from ⟨by first | exact ⟨hK, h2, fun _ => z12, fun q => absurd (rfl.trans hg) q⟩ | exact ⟨hK, by decide, fun q => absurd q hqv11.2, fun _ => z29.symm⟩, g7_σ12, g9_σ12, g10_σ12, g11_σ12, g12_σ12, g13_σ12, g20_σ12, g22_σ12, g23_σ12, g24_σ12, g25_σ12⟩)⟩
      · have z39 := (wsF_s (t := tx) (m := x1) (s := x2_2) (e := tkE tx n i) (p := x3_2.toInt.toNat) (by omega)).symm.trans q7
        rw [if_neg (fun q => q.elim (fun q => c29 (ev20.symm ▸ q)) (fun q => hc10 (ev20.symm ▸ q)))] at z39
        exact ih7_2 (x2_2 ||| ((1 : Int32) <<< ((v6 - 97) &&& 31)), x3_2 + 1, σ2) (show Tr [218] σ0 σ2 ∧ (((0 ≤ (x2_2 ||| ((1 : Int32) <<< ((v6 - 97) &&& 31))).toInt ∧ (x2_2 ||| ((1 : Int32) <<< ((v6 - 97) &&& 31))).toInt ≤ 1023) ∧ (σ0.1 218 11).toInt ≤ (x3_2 + 1).toInt ∧ (x3_2 + 1).toInt ≤ (σ0.1 218 10).toInt) ∧ wsF tx x1 (tkE tx n i - (x3_2 + 1).toInt.toNat) (x3_2 + 1).toInt.toNat (x2_2 ||| ((1 : Int32) <<< ((v6 - 97) &&& 31))) = wS tx n i x1) ∧ (TOK σ2.1) ∧ (σ2.1 218 7 = (σ0.1 218 7)) ∧ (σ2.1 218 9 = (σ0.1 218 9)) ∧ (σ2.1 218 10 = (σ0.1 218 10)) ∧ (σ2.1 218 11 = (σ0.1 218 11)) ∧ (σ2.1 218 12 = (σ0.1 218 12)) ∧ (σ2.1 218 13 = (σ0.1 218 13)) ∧ (σ2.1 218 14 = (σ0.1 218 14)) ∧ (σ2.1 218 15 = (σ0.1 218 15)) ∧ (σ2.1 218 20 = (σ0.1 218 20)) ∧ (σ2.1 218 22 = (σ0.1 218 22)) ∧ (σ2.1 218 23 = (σ0.1 218 23)) ∧ (σ2.1 218 24 = (σ0.1 218 24)) ∧ (σ2.1 218 25 = (σ0.1 218 25)) from ⟨hT, (by have o9 := o20 (by omega); exact ⟨⟨or10 (by omega) (by omega) (by omega) (by omega), by rw [s3]; omega⟩, by rw [j3, ev20]; exact z39⟩), hK, g7_σ2, g9_σ2, g10_σ2, g11_σ2, g12_σ2, g13_σ2, g14_σ2, g15_σ2, g20_σ2, g22_σ2, g23_σ2, g24_σ2, g25_σ2⟩) (show ((σ0.1 218 10).toInt - (x3_2 + 1).toInt).toNat < ((σ0.1 218 10).toInt - x3_2.toInt).toNat from (by rw [s3]; omega))

set_option maxHeartbeats 4000000 in
set_option maxRecDepth 100000 in
theorem s_X12_readsSet_r {N : Nat} (hN : 1048576 ≤ N) {x1 : Int32} {σ0 : zS} {tx : Nat → Int32} {n i : Nat} (hR : RF σ0.2.2) (hK : TOK σ0.1) (hY : BYT (σ0.1 224)) (hG : RX σ0.1 tx n i) (hg : σ0.1 218 14 = 0) (hB : ZB σ0.1) (hn : 0 ≤ x1.toInt ∧ x1.toInt ≤ 10) (hp : 1 ≤ (σ0.1 218 23).toInt ∧ (σ0.1 218 23).toInt ≤ 18) : Ok (f_X12_readsSet N 218 x1 σ0) (fun r => Tr [218, 226] σ0 r.2 ∧ ((TOK r.2.1 ∧ (σ0.1 218 11).toInt ≤ (r.2.1 218 11).toInt ∧ (r.2.1 218 14 = 0 → ((σ0.1 218 11).toInt < (r.2.1 218 11).toInt ∧ mOK tx n i x1) ∧ RX r.2.1 tx n (tkE tx n i)) ∧ (¬ r.2.1 218 14 = 0 → ¬ mOK tx n i x1) ∧ ZB r.2.1) ∧ (r.2.1 218 7 = σ0.1 218 7 ∧ r.2.1 218 9 = σ0.1 218 9 ∧ r.2.1 218 20 = σ0.1 218 20 ∧ r.2.1 218 22 = σ0.1 218 22 ∧ r.2.1 218 23 = σ0.1 218 23 ∧ r.2.1 218 24 = σ0.1 218 24 ∧ r.2.1 218 25 = σ0.1 218 25))) := by
  have hT : Tr [218, 226] σ0 σ0 := Tr.rf
  have hK1 := hK.1
  have tE : σ0.1 224 = tx := hG.1.1
  have nE : (σ0.1 218 9).toInt.toNat = n := hG.1.2
  have pK : TKV (σ0.1 218 11) (σ0.1 218 10) (σ0.1 218 12) (σ0.1 218 13) tx n i := hG.2
  have p1 : ((σ0.1 218 23) - 1).toInt = (σ0.1 218 23).toInt - 1 := by rw [ti_sub]; simp only [Int32.reduceToInt]; omega
  have m1 := p1024 p1 (by omega) (by omega)
  rw [f_X12_readsSet.eq_1]
  refine ok_gI rfl ?_
  refine ok_if (fun hc2 => ?_) (fun hc2 => ?_)
  · have k7 : tkK tx n i = 2 := pK.2.1.symm.trans hc2
    refine ok_gC rfl ?_
    refine ok_zbT (Q := fun V σ => (TOK σ.1 ∧ (σ0.1 218 11).toInt ≤ (σ.1 218 11).toInt ∧ (σ.1 218 14 = 0 → ((σ0.1 218 11).toInt < (σ.1 218 11).toInt ∧ nOK tx n i (0 : Int32) (0 : Int32)) ∧ V.toInt = min 99999 (Nv tx n (tkF tx n i) 0 : Int) ∧ RX σ.1 tx n (tkE tx n i)) ∧ (¬ σ.1 218 14 = 0 → V = 0 ∧ ¬ nOK tx n i (0 : Int32) (0 : Int32))) ∧ (σ.1 218 7 = σ0.1 218 7 ∧ σ.1 218 9 = σ0.1 218 9 ∧ σ.1 218 20 = σ0.1 218 20 ∧ σ.1 218 22 = σ0.1 218 22 ∧ σ.1 218 23 = σ0.1 218 23 ∧ σ.1 218 24 = σ0.1 218 24 ∧ σ.1 218 25 = σ0.1 218 25)) hT (s_X12_number_r hN (hR.tr hT) (hK) (by rw [hT.2 224 (by decide)]; exact hY) (RX_i rfl rfl rfl rfl rfl ((hT.2 224 (by decide)).trans tE) nE pK) (hg)) (by decide) (fun v3 σ4 hOσ4 hT hqv3 => ?_)
    have hqv3 : (TOK σ4.1 ∧ (σ0.1 218 11).toInt ≤ (σ4.1 218 11).toInt ∧ (σ4.1 218 14 = 0 → ((σ0.1 218 11).toInt < (σ4.1 218 11).toInt ∧ nOK tx n i (0 : Int32) (0 : Int32)) ∧ v3.toInt = min 99999 (Nv tx n (tkF tx n i) 0 : Int) ∧ RX σ4.1 tx n (tkE tx n i)) ∧ (¬ σ4.1 218 14 = 0 → v3 = 0 ∧ ¬ nOK tx n i (0 : Int32) (0 : Int32))) ∧ (σ4.1 218 7 = σ0.1 218 7 ∧ σ4.1 218 9 = σ0.1 218 9 ∧ σ4.1 218 20 = σ0.1 218 20 ∧ σ4.1 218 22 = σ0.1 218 22 ∧ σ4.1 218 23 = σ0.1 218 23 ∧ σ4.1 218 24 = σ0.1 218 24 ∧ σ4.1 218 25 = σ0.1 218 25) := hqv3
    have hkv3 := hqv3
    have hqv3 := hqv3.1
    have hK : TOK σ4.1 := by first | exact hqv3.1 | exact hqv3.1.1 | exact TOK_p eσ4 (by decide) hK
    have hB : ZB σ4.1 := ZB.tr hOσ4 (by decide) hB
    have g7_σ4 : σ4.1 218 7 = (σ0.1 218 7) := hkv3.2.1
    have g9_σ4 : σ4.1 218 9 = (σ0.1 218 9) := hkv3.2.2.1
    have g20_σ4 : σ4.1 218 20 = (σ0.1 218 20) := hkv3.2.2.2.1
    have g22_σ4 : σ4.1 218 22 = (σ0.1 218 22) := hkv3.2.2.2.2.1
    have g23_σ4 : σ4.1 218 23 = (σ0.1 218 23) := hkv3.2.2.2.2.2.1
    have g24_σ4 : σ4.1 218 24 = (σ0.1 218 24) := hkv3.2.2.2.2.2.2.1
    have g25_σ4 : σ4.1 218 25 = (σ0.1 218 25) := hkv3.2.2.2.2.2.2.2
    have m13 := hqv3.2.1
    have u13 := hqv3.2.2.1
    have f13 := hqv3.2.2.2
    have b13 : 0 ≤ v3.toInt ∧ v3.toInt ≤ 1023 := by by_cases h9 : σ4.1 218 14 = 0; have h8 := (u13 h9).1.2.2.2; have h7 := (u13 h9).2.1; simp only [Int32.reduceToInt] at h8; omega; rw [(f13 h9).1]; decide
    rw [J_X12_readsSet_53.eq_1]
    refine ok_gC rfl ?_
    refine ok_zbX (Q := fun V => (V = 0 → ¬ σ4.1 218 14 = 0) ∧ (¬ V = 0 → σ4.1 218 14 = 0)) (x_X12_good) (fun v5 hqv5 => ?_)
    have hqv5 : (v5 = 0 → ¬ σ4.1 218 14 = 0) ∧ (¬ v5 = 0 → σ4.1 218 14 = 0) := hqv5
    try simp only [g7_σ4, g9_σ4, g20_σ4, g22_σ4, g23_σ4, g24_σ4, g25_σ4, hT.2 224 (by decide)] at hqv5
    refine ok_if (fun hc7 => ?_) (fun hc7 => ?_)
    · have qhc7 := hqv5.1 hc7
      have n57 := qhc7
      have nm : ¬ mOK tx n i x1 := by first | exact fun q => q.elim (f13 n57).2 (fun q => absurd (k7.symm.trans q.1) (by decide)) | exact fun q => q.elim (fun q => absurd (k25.symm.trans q.1) (by decide)) (fun q => by rw [f30 n38] at q; exact absurd q.2 (by decide)) | exact fun q => q.elim (fun q => m7 q.1) (fun q => m25 q.1) | exact absurd y38 n57
      exact ok_some ⟨hT, (show (TOK σ4.1 ∧ (σ0.1 218 11).toInt ≤ (σ4.1 218 11).toInt ∧ (σ4.1 218 14 = 0 → ((σ0.1 218 11).toInt < (σ4.1 218 11).toInt ∧ mOK tx n i x1) ∧ RX σ4.1 tx n (tkE tx n i)) ∧ (¬ σ4.1 218 14 = 0 → ¬ mOK tx n i x1) ∧ ZB σ4.1) ∧ (σ4.1 218 7 = σ0.1 218 7 ∧ σ4.1 218 9 = σ0.1 218 9 ∧ σ4.1 218 20 = σ0.1 218 20 ∧ σ4.1 218 22 = σ0.1 218 22 ∧ σ4.1 218 23 = σ0.1 218 23 ∧ σ4.1 218 24 = σ0.1 218 24 ∧ σ4.1 218 25 = σ0.1 218 25) from ⟨by first | exact ⟨hK, by (try simp only [g7_σ4, g9_σ4, g20_σ4, g22_σ4, g23_σ4, g24_σ4, g25_σ4]); omega, fun q => absurd q (by (try simp only [g7_σ4, g9_σ4, g20_σ4, g22_σ4, g23_σ4, g24_σ4, g25_σ4]); exact n57), fun _ => nm, hB⟩ | exact ⟨hK, by (try simp only [g7_σ4, g9_σ4, g20_σ4, g22_σ4, g23_σ4, g24_σ4, g25_σ4]); omega, fun _ => ⟨⟨by (try simp only [g7_σ4, g9_σ4, g20_σ4, g22_σ4, g23_σ4, g24_σ4, g25_σ4]); exact ga, ym⟩, RX_i g9_σ4 rfl rfl rfl rfl ((hT.2 224 (by decide)).trans tE) nE pK9⟩, fun q => absurd (by (try simp only [g7_σ4, g9_σ4, g20_σ4, g22_σ4, g23_σ4, g24_σ4, g25_σ4]); exact y57) q, hB⟩, g7_σ4, g9_σ4, g20_σ4, g22_σ4, g23_σ4, g24_σ4, g25_σ4⟩)⟩
    · have qhc7 := hqv5.2 hc7
      have y57 := qhc7
      have ym : mOK tx n i x1 := by first | exact Or.inl (u13 y57).1.2 | exact Or.inr ⟨k25, by rw [u30 y38]; rfl⟩ | exact absurd y57 n50 | exact absurd y57 n38
      have pK9 : TKV (σ4.1 218 11) (σ4.1 218 10) (σ4.1 218 12) (σ4.1 218 13) tx n (tkE tx n i) := by first | exact (u13 y57).2.2.2 | exact g42.2 | exact absurd y57 n50 | exact absurd y57 n38
      have ga : (σ0.1 218 11).toInt < (σ4.1 218 11).toInt := by first | exact (u13 y57).1.1 | omega | exact absurd y57 n50 | exact absurd y57 n38
      refine ok_gR (v := 226) hT rfl (hR 218 16 rfl) ?_
      refine ok_gIv rfl g23_σ4 ?_
      refine ok_s16 hT rfl (by decide) (by rw [ti_add, m1]; first | omega | (simp only [Int32.reduceToInt]; omega)) (by rw [ti_add, m1]; first | omega | (simp only [Int32.reduceToInt]; omega)) (fun σ10 eσ10 hOσ10 hT => ?_)
      have hK : TOK σ10.1 := TOK_tr hOσ10 (by decide) (by decide) hK
      have hB : ZB σ10.1 := ZB_s eσ10 hB
      have g7_σ10 : σ10.1 218 7 = (σ0.1 218 7) := (congrFun (hOσ10.2 218 (by decide)) 7).trans g7_σ4
      have g9_σ10 : σ10.1 218 9 = (σ0.1 218 9) := (congrFun (hOσ10.2 218 (by decide)) 9).trans g9_σ4
      have g10_σ10 : σ10.1 218 10 = (σ4.1 218 10) := congrFun (hOσ10.2 218 (by decide)) 10
      have g11_σ10 : σ10.1 218 11 = (σ4.1 218 11) := congrFun (hOσ10.2 218 (by decide)) 11
      have g12_σ10 : σ10.1 218 12 = (σ4.1 218 12) := congrFun (hOσ10.2 218 (by decide)) 12
      have g13_σ10 : σ10.1 218 13 = (σ4.1 218 13) := congrFun (hOσ10.2 218 (by decide)) 13
      have g14_σ10 : σ10.1 218 14 = (σ4.1 218 14) := congrFun (hOσ10.2 218 (by decide)) 14
      have g15_σ10 : σ10.1 218 15 = (σ4.1 218 15) := congrFun (hOσ10.2 218 (by decide)) 15
      have g20_σ10 : σ10.1 218 20 = (σ0.1 218 20) := (congrFun (hOσ10.2 218 (by decide)) 20).trans g20_σ4
      have g22_σ10 : σ10.1 218 22 = (σ0.1 218 22) := (congrFun (hOσ10.2 218 (by decide)) 22).trans g22_σ4
      have g23_σ10 : σ10.1 218 23 = (σ0.1 218 23) := (congrFun (hOσ10.2 218 (by decide)) 23).trans g23_σ4
      have g24_σ10 : σ10.1 218 24 = (σ0.1 218 24) := (congrFun (hOσ10.2 218 (by decide)) 24).trans g24_σ4
      have g25_σ10 : σ10.1 218 25 = (σ0.1 218 25) := (congrFun (hOσ10.2 218 (by decide)) 25).trans g25_σ4
      exact ok_some ⟨hT, (show (TOK σ10.1 ∧ (σ0.1 218 11).toInt ≤ (σ10.1 218 11).toInt ∧ (σ10.1 218 14 = 0 → ((σ0.1 218 11).toInt < (σ10.1 218 11).toInt ∧ mOK tx n i x1) ∧ RX σ10.1 tx n (tkE tx n i)) ∧ (¬ σ10.1 218 14 = 0 → ¬ mOK tx n i x1) ∧ ZB σ10.1) ∧ (σ10.1 218 7 = σ0.1 218 7 ∧ σ10.1 218 9 = σ0.1 218 9 ∧ σ10.1 218 20 = σ0.1 218 20 ∧ σ10.1 218 22 = σ0.1 218 22 ∧ σ10.1 218 23 = σ0.1 218 23 ∧ σ10.1 218 24 = σ0.1 218 24 ∧ σ10.1 218 25 = σ0.1 218 25) from ⟨by first | exact ⟨hK, by (try simp only [g7_σ10, g9_σ10, g10_σ10, g11_σ10, g12_σ10, g13_σ10, g14_σ10, g15_σ10, g20_σ10, g22_σ10, g23_σ10, g24_σ10, g25_σ10]); omega, fun q => absurd q (by (try simp only [g7_σ10, g9_σ10, g10_σ10, g11_σ10, g12_σ10, g13_σ10, g14_σ10, g15_σ10, g20_σ10, g22_σ10, g23_σ10, g24_σ10, g25_σ10]); exact n57), fun _ => nm, hB⟩ | exact ⟨hK, by (try simp only [g7_σ10, g9_σ10, g10_σ10, g11_σ10, g12_σ10, g13_σ10, g14_σ10, g15_σ10, g20_σ10, g22_σ10, g23_σ10, g24_σ10, g25_σ10]); omega, fun _ => ⟨⟨by (try simp only [g7_σ10, g9_σ10, g10_σ10, g11_σ10, g12_σ10, g13_σ10, g14_σ10, g15_σ10, g20_σ10, g22_σ10, g23_σ10, g24_σ10, g25_σ10]); exact ga, ym⟩, RX_i g9_σ10 g10_σ10 g11_σ10 g12_σ10 g13_σ10 ((hT.2 224 (by decide)).trans tE) nE pK9⟩, fun q => absurd (by (try simp only [g7_σ10, g9_σ10, g10_σ10, g11_σ10, g12_σ10, g13_σ10, g14_σ10, g15_σ10, g20_σ10, g22_σ10, g23_σ10, g24_σ10, g25_σ10]); exact y57) q, hB⟩, g7_σ10, g9_σ10, g20_σ10, g22_σ10, g23_σ10, g24_σ10, g25_σ10⟩)⟩
  · have m7 : ¬ tkK tx n i = 2 := fun q => hc2 (pK.2.1.trans q)
    refine ok_gI rfl ?_
    refine ok_if (fun hc12 => ?_) (fun hc12 => ?_)
    · have e25 := hc12
      have l25 := hK.2.1 (by rw [hc12]; decide)
      have k25 : tkK tx n i = 1 := pK.2.1.symm.trans hc12
      refine ok_gC rfl ?_
      refine ok_zbT (Q := fun V σ => (TOK σ.1 ∧ (0 ≤ V.toInt ∧ V.toInt ≤ 1023) ∧ (σ.1 218 14 = 0 → wS tx n i x1 = some V) ∧ (¬ σ.1 218 14 = 0 → wS tx n i x1 = none)) ∧ (σ.1 218 7 = σ0.1 218 7 ∧ σ.1 218 9 = σ0.1 218 9 ∧ σ.1 218 10 = σ0.1 218 10 ∧ σ.1 218 11 = σ0.1 218 11 ∧ σ.1 218 12 = σ0.1 218 12 ∧ σ.1 218 13 = σ0.1 218 13 ∧ σ.1 218 20 = σ0.1 218 20 ∧ σ.1 218 22 = σ0.1 218 22 ∧ σ.1 218 23 = σ0.1 218 23 ∧ σ.1 218 24 = σ0.1 218 24 ∧ σ.1 218 25 = σ0.1 218 25)) hT (s_X12_wordSet_r hN (hR.tr hT) (hK) (by rw [hT.2 224 (by decide)]; exact hY) (RX_i rfl rfl rfl rfl rfl ((hT.2 224 (by decide)).trans tE) nE pK) (hg) (e25) (hn)) (by decide) (fun v13 σ14 hOσ14 hT hqv13 => ?_)
      have hqv13 : (TOK σ14.1 ∧ (0 ≤ v13.toInt ∧ v13.toInt ≤ 1023) ∧ (σ14.1 218 14 = 0 → wS tx n i x1 = some v13) ∧ (¬ σ14.1 218 14 = 0 → wS tx n i x1 = none)) ∧ (σ14.1 218 7 = σ0.1 218 7 ∧ σ14.1 218 9 = σ0.1 218 9 ∧ σ14.1 218 10 = σ0.1 218 10 ∧ σ14.1 218 11 = σ0.1 218 11 ∧ σ14.1 218 12 = σ0.1 218 12 ∧ σ14.1 218 13 = σ0.1 218 13 ∧ σ14.1 218 20 = σ0.1 218 20 ∧ σ14.1 218 22 = σ0.1 218 22 ∧ σ14.1 218 23 = σ0.1 218 23 ∧ σ14.1 218 24 = σ0.1 218 24 ∧ σ14.1 218 25 = σ0.1 218 25) := hqv13
      have hkv13 := hqv13
      have hqv13 := hqv13.1
      have hK : TOK σ14.1 := by first | exact hqv13.1 | exact hqv13.1.1 | exact TOK_p eσ14 (by decide) hK
      have hB : ZB σ14.1 := ZB.tr hOσ14 (by decide) hB
      have g7_σ14 : σ14.1 218 7 = (σ0.1 218 7) := hkv13.2.1
      have g9_σ14 : σ14.1 218 9 = (σ0.1 218 9) := hkv13.2.2.1
      have g10_σ14 : σ14.1 218 10 = (σ0.1 218 10) := hkv13.2.2.2.1
      have g11_σ14 : σ14.1 218 11 = (σ0.1 218 11) := hkv13.2.2.2.2.1
      have g12_σ14 : σ14.1 218 12 = (σ0.1 218 12) := hkv13.2.2.2.2.2.1
      have g13_σ14 : σ14.1 218 13 = (σ0.1 218 13) := hkv13.2.2.2.2.2.2.1
      have g20_σ14 : σ14.1 218 20 = (σ0.1 218 20) := hkv13.2.2.2.2.2.2.2.1
      have g22_σ14 : σ14.1 218 22 = (σ0.1 218 22) := hkv13.2.2.2.2.2.2.2.2.1
      have g23_σ14 : σ14.1 218 23 = (σ0.1 218 23) := hkv13.2.2.2.2.2.2.2.2.2.1
      have g24_σ14 : σ14.1 218 24 = (σ0.1 218 24) := hkv13.2.2.2.2.2.2.2.2.2.2.1
      have g25_σ14 : σ14.1 218 25 = (σ0.1 218 25) := hkv13.2.2.2.2.2.2.2.2.2.2.2
      have b30 := hqv13.2.1
      have u30 := hqv13.2.2.1
      have f30 := hqv13.2.2.2
      refine ok_gC rfl ?_
      refine ok_zbX (Q := fun V => (V = 0 → ¬ σ14.1 218 14 = 0) ∧ (¬ V = 0 → σ14.1 218 14 = 0)) (x_X12_good) (fun v15 hqv15 => ?_)
      have hqv15 : (v15 = 0 → ¬ σ14.1 218 14 = 0) ∧ (¬ v15 = 0 → σ14.1 218 14 = 0) := hqv15
      try simp only [g7_σ14, g9_σ14, g10_σ14, g11_σ14, g12_σ14, g13_σ14, g20_σ14, g22_σ14, g23_σ14, g24_σ14, g25_σ14, hT.2 224 (by decide)] at hqv15
      refine ok_if (fun hc17 => ?_) (fun hc17 => ?_)
      · have qhc17 := hqv15.1 hc17
        have n38 := qhc17
        rw [J_X12_readsSet_53.eq_1]
        refine ok_gC rfl ?_
        refine ok_zbX (Q := fun V => (V = 0 → ¬ σ14.1 218 14 = 0) ∧ (¬ V = 0 → σ14.1 218 14 = 0)) (x_X12_good) (fun v18 hqv18 => ?_)
        have hqv18 : (v18 = 0 → ¬ σ14.1 218 14 = 0) ∧ (¬ v18 = 0 → σ14.1 218 14 = 0) := hqv18
        try simp only [g7_σ14, g9_σ14, g10_σ14, g11_σ14, g12_σ14, g13_σ14, g20_σ14, g22_σ14, g23_σ14, g24_σ14, g25_σ14, hT.2 224 (by decide)] at hqv18
        refine ok_if (fun hc20 => ?_) (fun hc20 => ?_)
        · have qhc20 := hqv18.1 hc20
          have n57 := qhc20
          have nm : ¬ mOK tx n i x1 := by first | exact fun q => q.elim (f13 n57).2 (fun q => absurd (k7.symm.trans q.1) (by decide)) | exact fun q => q.elim (fun q => absurd (k25.symm.trans q.1) (by decide)) (fun q => by rw [f30 n38] at q; exact absurd q.2 (by decide)) | exact fun q => q.elim (fun q => m7 q.1) (fun q => m25 q.1) | exact absurd y38 n57
          exact ok_some ⟨hT, (show (TOK σ14.1 ∧ (σ0.1 218 11).toInt ≤ (σ14.1 218 11).toInt ∧ (σ14.1 218 14 = 0 → ((σ0.1 218 11).toInt < (σ14.1 218 11).toInt ∧ mOK tx n i x1) ∧ RX σ14.1 tx n (tkE tx n i)) ∧ (¬ σ14.1 218 14 = 0 → ¬ mOK tx n i x1) ∧ ZB σ14.1) ∧ (σ14.1 218 7 = σ0.1 218 7 ∧ σ14.1 218 9 = σ0.1 218 9 ∧ σ14.1 218 20 = σ0.1 218 20 ∧ σ14.1 218 22 = σ0.1 218 22 ∧ σ14.1 218 23 = σ0.1 218 23 ∧ σ14.1 218 24 = σ0.1 218 24 ∧ σ14.1 218 25 = σ0.1 218 25) from ⟨by first | exact ⟨hK, by (try simp only [g7_σ14, g9_σ14, g10_σ14, g11_σ14, g12_σ14, g13_σ14, g20_σ14, g22_σ14, g23_σ14, g24_σ14, g25_σ14]); omega, fun q => absurd q (by (try simp only [g7_σ14, g9_σ14, g10_σ14, g11_σ14, g12_σ14, g13_σ14, g20_σ14, g22_σ14, g23_σ14, g24_σ14, g25_σ14]); exact n57), fun _ => nm, hB⟩ | exact ⟨hK, by (try simp only [g7_σ14, g9_σ14, g10_σ14, g11_σ14, g12_σ14, g13_σ14, g20_σ14, g22_σ14, g23_σ14, g24_σ14, g25_σ14]); omega, fun _ => ⟨⟨by (try simp only [g7_σ14, g9_σ14, g10_σ14, g11_σ14, g12_σ14, g13_σ14, g20_σ14, g22_σ14, g23_σ14, g24_σ14, g25_σ14]); exact ga, ym⟩, RX_i g9_σ14 g10_σ14 g11_σ14 g12_σ14 g13_σ14 ((hT.2 224 (by decide)).trans tE) nE pK9⟩, fun q => absurd (by (try simp only [g7_σ14, g9_σ14, g10_σ14, g11_σ14, g12_σ14, g13_σ14, g20_σ14, g22_σ14, g23_σ14, g24_σ14, g25_σ14]); exact y57) q, hB⟩, g7_σ14, g9_σ14, g20_σ14, g22_σ14, g23_σ14, g24_σ14, g25_σ14⟩)⟩
        · have qhc20 := hqv18.2 hc20
          have y57 := qhc20
          have ym : mOK tx n i x1 := by first | exact Or.inl (u13 y57).1.2 | exact Or.inr ⟨k25, by rw [u30 y38]; rfl⟩ | exact absurd y57 n50 | exact absurd y57 n38
          have pK9 : TKV (σ0.1 218 11) (σ0.1 218 10) (σ0.1 218 12) (σ0.1 218 13) tx n (tkE tx n i) := by first | exact (u13 y57).2.2.2 | exact g42.2 | exact absurd y57 n50 | exact absurd y57 n38
          have ga : (σ0.1 218 11).toInt < (σ0.1 218 11).toInt := by first | exact (u13 y57).1.1 | omega | exact absurd y57 n50 | exact absurd y57 n38
          refine ok_gR (v := 226) hT rfl (hR 218 16 rfl) ?_
          refine ok_gIv rfl g23_σ14 ?_
          refine ok_s16 hT rfl (by decide) (by rw [ti_add, m1]; first | omega | (simp only [Int32.reduceToInt]; omega)) (by rw [ti_add, m1]; first | omega | (simp only [Int32.reduceToInt]; omega)) (fun σ23 eσ23 hOσ23 hT => ?_)
          have hK : TOK σ23.1 := TOK_tr hOσ23 (by decide) (by decide) hK
          have hB : ZB σ23.1 := ZB_s eσ23 hB
          have g7_σ23 : σ23.1 218 7 = (σ0.1 218 7) := (congrFun (hOσ23.2 218 (by decide)) 7).trans g7_σ14
          have g9_σ23 : σ23.1 218 9 = (σ0.1 218 9) := (congrFun (hOσ23.2 218 (by decide)) 9).trans g9_σ14
          have g10_σ23 : σ23.1 218 10 = (σ0.1 218 10) := (congrFun (hOσ23.2 218 (by decide)) 10).trans g10_σ14
          have g11_σ23 : σ23.1 218 11 = (σ0.1 218 11) := (congrFun (hOσ23.2 218 (by decide)) 11).trans g11_σ14
          have g12_σ23 : σ23.1 218 12 = (σ0.1 218 12) := (congrFun (hOσ23.2 218 (by decide)) 12).trans g12_σ14
          have g13_σ23 : σ23.1 218 13 = (σ0.1 218 13) := (congrFun (hOσ23.2 218 (by decide)) 13).trans g13_σ14
          have g14_σ23 : σ23.1 218 14 = (σ14.1 218 14) := congrFun (hOσ23.2 218 (by decide)) 14
          have g15_σ23 : σ23.1 218 15 = (σ14.1 218 15) := congrFun (hOσ23.2 218 (by decide)) 15
          have g20_σ23 : σ23.1 218 20 = (σ0.1 218 20) := (congrFun (hOσ23.2 218 (by decide)) 20).trans g20_σ14
          have g22_σ23 : σ23.1 218 22 = (σ0.1 218 22) := (congrFun (hOσ23.2 218 (by decide)) 22).trans g22_σ14
          have g23_σ23 : σ23.1 218 23 = (σ0.1 218 23) := (congrFun (hOσ23.2 218 (by decide)) 23).trans g23_σ14
          have g24_σ23 : σ23.1 218 24 = (σ0.1 218 24) := (congrFun (hOσ23.2 218 (by decide)) 24).trans g24_σ14
          have g25_σ23 : σ23.1 218 25 = (σ0.1 218 25) := (congrFun (hOσ23.2 218 (by decide)) 25).trans g25_σ14
          exact ok_some ⟨hT, (show (TOK σ23.1 ∧ (σ0.1 218 11).toInt ≤ (σ23.1 218 11).toInt ∧ (σ23.1 218 14 = 0 → ((σ0.1 218 11).toInt < (σ23.1 218 11).toInt ∧ mOK tx n i x1) ∧ RX σ23.1 tx n (tkE tx n i)) ∧ (¬ σ23.1 218 14 = 0 → ¬ mOK tx n i x1) ∧ ZB σ23.1) ∧ (σ23.1 218 7 = σ0.1 218 7 ∧ σ23.1 218 9 = σ0.1 218 9 ∧ σ23.1 218 20 = σ0.1 218 20 ∧ σ23.1 218 22 = σ0.1 218 22 ∧ σ23.1 218 23 = σ0.1 218 23 ∧ σ23.1 218 24 = σ0.1 218 24 ∧ σ23.1 218 25 = σ0.1 218 25) from ⟨by first | exact ⟨hK, by (try simp only [g7_σ23, g9_σ23, g10_σ23, g11_σ23, g12_σ23, g13_σ23, g14_σ23, g15_σ23, g20_σ23, g22_σ23, g23_σ23, g24_σ23, g25_σ23]); omega, fun q => absurd q (by (try simp only [g7_σ23, g9_σ23, g10_σ23, g11_σ23, g12_σ23, g13_σ23, g14_σ23, g15_σ23, g20_σ23, g22_σ23, g23_σ23, g24_σ23, g25_σ23]); exact n57), fun _ => nm, hB⟩ | exact ⟨hK, by (try simp only [g7_σ23, g9_σ23, g10_σ23, g11_σ23, g12_σ23, g13_σ23, g14_σ23, g15_σ23, g20_σ23, g22_σ23, g23_σ23, g24_σ23, g25_σ23]); omega, fun _ => ⟨⟨by (try simp only [g7_σ23, g9_σ23, g10_σ23, g11_σ23, g12_σ23, g13_σ23, g14_σ23, g15_σ23, g20_σ23, g22_σ23, g23_σ23, g24_σ23, g25_σ23]); exact ga, ym⟩, RX_i g9_σ23 g10_σ23 g11_σ23 g12_σ23 g13_σ23 ((hT.2 224 (by decide)).trans tE) nE pK9⟩, fun q => absurd (by (try simp only [g7_σ23, g9_σ23, g10_σ23, g11_σ23, g12_σ23, g13_σ23, g14_σ23, g15_σ23, g20_σ23, g22_σ23, g23_σ23, g24_σ23, g25_σ23]); exact y57) q, hB⟩, g7_σ23, g9_σ23, g20_σ23, g22_σ23, g23_σ23, g24_σ23, g25_σ23⟩)⟩
      · have qhc17 := hqv15.2 hc17
        have y38 := qhc17
        refine ok_gC rfl ?_
        refine ok_zbT (Q := fun V σ => ((TOK σ.1 ∧ (σ14.1 218 10).toInt ≤ (σ.1 218 11).toInt) ∧ RX σ.1 tx n (tkE tx n i)) ∧ (σ.1 218 7 = σ14.1 218 7 ∧ σ.1 218 9 = σ14.1 218 9 ∧ σ.1 218 14 = σ14.1 218 14 ∧ σ.1 218 15 = σ14.1 218 15 ∧ σ.1 218 20 = σ14.1 218 20 ∧ σ.1 218 22 = σ14.1 218 22 ∧ σ.1 218 23 = σ14.1 218 23 ∧ σ.1 218 24 = σ14.1 218 24 ∧ σ.1 218 25 = σ14.1 218 25)) hT (s_X12_advance_r hN (hR.tr hT) (TOK_A hK) (by rw [hT.2 224 (by decide)]; exact hY) (RX_i g9_σ14 g10_σ14 g11_σ14 g12_σ14 g13_σ14 ((hT.2 224 (by decide)).trans tE) nE pK)) (by decide) (fun v24 σ25 hOσ25 hT hqv24 => ?_)
        have hqv24 : ((TOK σ25.1 ∧ (σ14.1 218 10).toInt ≤ (σ25.1 218 11).toInt) ∧ RX σ25.1 tx n (tkE tx n i)) ∧ (σ25.1 218 7 = σ14.1 218 7 ∧ σ25.1 218 9 = σ14.1 218 9 ∧ σ25.1 218 14 = σ14.1 218 14 ∧ σ25.1 218 15 = σ14.1 218 15 ∧ σ25.1 218 20 = σ14.1 218 20 ∧ σ25.1 218 22 = σ14.1 218 22 ∧ σ25.1 218 23 = σ14.1 218 23 ∧ σ25.1 218 24 = σ14.1 218 24 ∧ σ25.1 218 25 = σ14.1 218 25) := hqv24
        have hkv24 := hqv24
        have hqv24 := hqv24.1
        have hK : TOK σ25.1 := by first | exact hqv24.1 | exact hqv24.1.1 | exact TOK_p eσ25 (by decide) hK
        have hB : ZB σ25.1 := ZB.tr hOσ25 (by decide) hB
        try simp only [g7_σ14, g9_σ14, g10_σ14, g11_σ14, g12_σ14, g13_σ14, g20_σ14, g22_σ14, g23_σ14, g24_σ14, g25_σ14] at hqv24
        have g7_σ25 : σ25.1 218 7 = (σ0.1 218 7) := (hkv24.2.1).trans g7_σ14
        have g9_σ25 : σ25.1 218 9 = (σ0.1 218 9) := (hkv24.2.2.1).trans g9_σ14
        have g14_σ25 : σ25.1 218 14 = (σ14.1 218 14) := hkv24.2.2.2.1
        have g15_σ25 : σ25.1 218 15 = (σ14.1 218 15) := hkv24.2.2.2.2.1
        have g20_σ25 : σ25.1 218 20 = (σ0.1 218 20) := (hkv24.2.2.2.2.2.1).trans g20_σ14
        have g22_σ25 : σ25.1 218 22 = (σ0.1 218 22) := (hkv24.2.2.2.2.2.2.1).trans g22_σ14
        have g23_σ25 : σ25.1 218 23 = (σ0.1 218 23) := (hkv24.2.2.2.2.2.2.2.1).trans g23_σ14
        have g24_σ25 : σ25.1 218 24 = (σ0.1 218 24) := (hkv24.2.2.2.2.2.2.2.2.1).trans g24_σ14
        have g25_σ25 : σ25.1 218 25 = (σ0.1 218 25) := (hkv24.2.2.2.2.2.2.2.2.2).trans g25_σ14
        have m42 := hqv24.1.2
        have g42 := hqv24.2
        rw [J_X12_readsSet_53.eq_1]
        refine ok_gC rfl ?_
        refine ok_zbX (Q := fun V => (V = 0 → ¬ σ25.1 218 14 = 0) ∧ (¬ V = 0 → σ25.1 218 14 = 0)) (x_X12_good) (fun v26 hqv26 => ?_)
        have hqv26 : (v26 = 0 → ¬ σ25.1 218 14 = 0) ∧ (¬ v26 = 0 → σ25.1 218 14 = 0) := hqv26
        try simp only [g7_σ25, g9_σ25, g14_σ25, g15_σ25, g20_σ25, g22_σ25, g23_σ25, g24_σ25, g25_σ25, hT.2 224 (by decide)] at hqv26
        refine ok_if (fun hc28 => ?_) (fun hc28 => ?_)
        · have qhc28 := hqv26.1 hc28
          have n57 := qhc28
          have nm : ¬ mOK tx n i x1 := by first | exact fun q => q.elim (f13 n57).2 (fun q => absurd (k7.symm.trans q.1) (by decide)) | exact fun q => q.elim (fun q => absurd (k25.symm.trans q.1) (by decide)) (fun q => by rw [f30 n38] at q; exact absurd q.2 (by decide)) | exact fun q => q.elim (fun q => m7 q.1) (fun q => m25 q.1) | exact absurd y38 n57
          exact ok_some ⟨hT, (show (TOK σ25.1 ∧ (σ0.1 218 11).toInt ≤ (σ25.1 218 11).toInt ∧ (σ25.1 218 14 = 0 → ((σ0.1 218 11).toInt < (σ25.1 218 11).toInt ∧ mOK tx n i x1) ∧ RX σ25.1 tx n (tkE tx n i)) ∧ (¬ σ25.1 218 14 = 0 → ¬ mOK tx n i x1) ∧ ZB σ25.1) ∧ (σ25.1 218 7 = σ0.1 218 7 ∧ σ25.1 218 9 = σ0.1 218 9 ∧ σ25.1 218 20 = σ0.1 218 20 ∧ σ25.1 218 22 = σ0.1 218 22 ∧ σ25.1 218 23 = σ0.1 218 23 ∧ σ25.1 218 24 = σ0.1 218 24 ∧ σ25.1 218 25 = σ0.1 218 25) from ⟨by first | exact ⟨hK, by (try simp only [g7_σ25, g9_σ25, g14_σ25, g15_σ25, g20_σ25, g22_σ25, g23_σ25, g24_σ25, g25_σ25]); omega, fun q => absurd q (by (try simp only [g7_σ25, g9_σ25, g14_σ25, g15_σ25, g20_σ25, g22_σ25, g23_σ25, g24_σ25, g25_σ25]); exact n57), fun _ => nm, hB⟩ | exact ⟨hK, by (try simp only [g7_σ25, g9_σ25, g14_σ25, g15_σ25, g20_σ25, g22_σ25, g23_σ25, g24_σ25, g25_σ25]); omega, fun _ => ⟨⟨by (try simp only [g7_σ25, g9_σ25, g14_σ25, g15_σ25, g20_σ25, g22_σ25, g23_σ25, g24_σ25, g25_σ25]); exact ga, ym⟩, RX_i g9_σ25 rfl rfl rfl rfl ((hT.2 224 (by decide)).trans tE) nE pK9⟩, fun q => absurd (by (try simp only [g7_σ25, g9_σ25, g14_σ25, g15_σ25, g20_σ25, g22_σ25, g23_σ25, g24_σ25, g25_σ25]); exact y57) q, hB⟩, g7_σ25, g9_σ25, g20_σ25, g22_σ25, g23_σ25, g24_σ25, g25_σ25⟩)⟩
        · have qhc28 := hqv26.2 hc28
          have y57 := qhc28
          have ym : mOK tx n i x1 := by first | exact Or.inl (u13 y57).1.2 | exact Or.inr ⟨k25, by rw [u30 y38]; rfl⟩ | exact absurd y57 n50 | exact absurd y57 n38
          have pK9 : TKV (σ25.1 218 11) (σ25.1 218 10) (σ25.1 218 12) (σ25.1 218 13) tx n (tkE tx n i) := by first | exact (u13 y57).2.2.2 | exact g42.2 | exact absurd y57 n50 | exact absurd y57 n38
          have ga : (σ0.1 218 11).toInt < (σ25.1 218 11).toInt := by first | exact (u13 y57).1.1 | omega | exact absurd y57 n50 | exact absurd y57 n38
          refine ok_gR (v := 226) hT rfl (hR 218 16 rfl) ?_
          refine ok_gIv rfl g23_σ25 ?_
          refine ok_s16 hT rfl (by decide) (by rw [ti_add, m1]; first | omega | (simp only [Int32.reduceToInt]; omega)) (by rw [ti_add, m1]; first | omega | (simp only [Int32.reduceToInt]; omega)) (fun σ31 eσ31 hOσ31 hT => ?_)
          have hK : TOK σ31.1 := TOK_tr hOσ31 (by decide) (by decide) hK
          have hB : ZB σ31.1 := ZB_s eσ31 hB
          have g7_σ31 : σ31.1 218 7 = (σ0.1 218 7) := (congrFun (hOσ31.2 218 (by decide)) 7).trans g7_σ25
          have g9_σ31 : σ31.1 218 9 = (σ0.1 218 9) := (congrFun (hOσ31.2 218 (by decide)) 9).trans g9_σ25
          have g10_σ31 : σ31.1 218 10 = (σ25.1 218 10) := congrFun (hOσ31.2 218 (by decide)) 10
          have g11_σ31 : σ31.1 218 11 = (σ25.1 218 11) := congrFun (hOσ31.2 218 (by decide)) 11
          have g12_σ31 : σ31.1 218 12 = (σ25.1 218 12) := congrFun (hOσ31.2 218 (by decide)) 12
          have g13_σ31 : σ31.1 218 13 = (σ25.1 218 13) := congrFun (hOσ31.2 218 (by decide)) 13
          have g14_σ31 : σ31.1 218 14 = (σ14.1 218 14) := (congrFun (hOσ31.2 218 (by decide)) 14).trans g14_σ25
          have g15_σ31 : σ31.1 218 15 = (σ14.1 218 15) := (congrFun (hOσ31.2 218 (by decide)) 15).trans g15_σ25
          have g20_σ31 : σ31.1 218 20 = (σ0.1 218 20) := (congrFun (hOσ31.2 218 (by decide)) 20).trans g20_σ25
          have g22_σ31 : σ31.1 218 22 = (σ0.1 218 22) := (congrFun (hOσ31.2 218 (by decide)) 22).trans g22_σ25
          have g23_σ31 : σ31.1 218 23 = (σ0.1 218 23) := (congrFun (hOσ31.2 218 (by decide)) 23).trans g23_σ25
          have g24_σ31 : σ31.1 218 24 = (σ0.1 218 24) := (congrFun (hOσ31.2 218 (by decide)) 24).trans g24_σ25
          have g25_σ31 : σ31.1 218 25 = (σ0.1 218 25) := (congrFun (hOσ31.2 218 (by decide)) 25).trans g25_σ25
          exact ok_some ⟨hT, (show (TOK σ31.1 ∧ (σ0.1 218 11).toInt ≤ (σ31.1 218 11).toInt ∧ (σ31.1 218 14 = 0 → ((σ0.1 218 11).toInt < (σ31.1 218 11).toInt ∧ mOK tx n i x1) ∧ RX σ31.1 tx n (tkE tx n i)) ∧ (¬ σ31.1 218 14 = 0 → ¬ mOK tx n i x1) ∧ ZB σ31.1) ∧ (σ31.1 218 7 = σ0.1 218 7 ∧ σ31.1 218 9 = σ0.1 218 9 ∧ σ31.1 218 20 = σ0.1 218 20 ∧ σ31.1 218 22 = σ0.1 218 22 ∧ σ31.1 218 23 = σ0.1 218 23 ∧ σ31.1 218 24 = σ0.1 218 24 ∧ σ31.1 218 25 = σ0.1 218 25) from ⟨by first | exact ⟨hK, by (try simp only [g7_σ31, g9_σ31, g10_σ31, g11_σ31, g12_σ31, g13_σ31, g14_σ31, g15_σ31, g20_σ31, g22_σ31, g23_σ31, g24_σ31, g25_σ31]); omega, fun q => absurd q (by (try simp only [g7_σ31, g9_σ31, g10_σ31, g11_σ31, g12_σ31, g13_σ31, g14_σ31, g15_σ31, g20_σ31, g22_σ31, g23_σ31, g24_σ31, g25_σ31]); exact n57), fun _ => nm, hB⟩ | exact ⟨hK, by (try simp only [g7_σ31, g9_σ31, g10_σ31, g11_σ31, g12_σ31, g13_σ31, g14_σ31, g15_σ31, g20_σ31, g22_σ31, g23_σ31, g24_σ31, g25_σ31]); omega, fun _ => ⟨⟨by (try simp only [g7_σ31, g9_σ31, g10_σ31, g11_σ31, g12_σ31, g13_σ31, g14_σ31, g15_σ31, g20_σ31, g22_σ31, g23_σ31, g24_σ31, g25_σ31]); exact ga, ym⟩, RX_i g9_σ31 g10_σ31 g11_σ31 g12_σ31 g13_σ31 ((hT.2 224 (by decide)).trans tE) nE pK9⟩, fun q => absurd (by (try simp only [g7_σ31, g9_σ31, g10_σ31, g11_σ31, g12_σ31, g13_σ31, g14_σ31, g15_σ31, g20_σ31, g22_σ31, g23_σ31, g24_σ31, g25_σ31]); exact y57) q, hB⟩, g7_σ31, g9_σ31, g20_σ31, g22_σ31, g23_σ31, g24_σ31, g25_σ31⟩)⟩
    · have m25 : ¬ tkK tx n i = 1 := fun q => hc12 (pK.2.1.trans q)
      refine ok_gC rfl ?_
      refine ok_zbT (Q := fun V σ => (TOK σ.1 ∧ ¬ σ.1 218 14 = 0) ∧ (σ.1 218 7 = σ0.1 218 7 ∧ σ.1 218 9 = σ0.1 218 9 ∧ σ.1 218 10 = σ0.1 218 10 ∧ σ.1 218 11 = σ0.1 218 11 ∧ σ.1 218 12 = σ0.1 218 12 ∧ σ.1 218 13 = σ0.1 218 13 ∧ σ.1 218 20 = σ0.1 218 20 ∧ σ.1 218 22 = σ0.1 218 22 ∧ σ.1 218 23 = σ0.1 218 23 ∧ σ.1 218 24 = σ0.1 218 24 ∧ σ.1 218 25 = σ0.1 218 25)) hT (s_X12_errs hN (hR.tr hT) (hK) (by rw [hT.2 224 (by decide)]; exact hY) (by decide)) (by decide) (fun v32 σ33 hOσ33 hT hqv32 => ?_)
      have hqv32 : (TOK σ33.1 ∧ ¬ σ33.1 218 14 = 0) ∧ (σ33.1 218 7 = σ0.1 218 7 ∧ σ33.1 218 9 = σ0.1 218 9 ∧ σ33.1 218 10 = σ0.1 218 10 ∧ σ33.1 218 11 = σ0.1 218 11 ∧ σ33.1 218 12 = σ0.1 218 12 ∧ σ33.1 218 13 = σ0.1 218 13 ∧ σ33.1 218 20 = σ0.1 218 20 ∧ σ33.1 218 22 = σ0.1 218 22 ∧ σ33.1 218 23 = σ0.1 218 23 ∧ σ33.1 218 24 = σ0.1 218 24 ∧ σ33.1 218 25 = σ0.1 218 25) := hqv32
      have hkv32 := hqv32
      have hqv32 := hqv32.1
      have hK : TOK σ33.1 := by first | exact hqv32.1 | exact hqv32.1.1 | exact TOK_p eσ33 (by decide) hK
      have hB : ZB σ33.1 := ZB.tr hOσ33 (by decide) hB
      have g7_σ33 : σ33.1 218 7 = (σ0.1 218 7) := hkv32.2.1
      have g9_σ33 : σ33.1 218 9 = (σ0.1 218 9) := hkv32.2.2.1
      have g10_σ33 : σ33.1 218 10 = (σ0.1 218 10) := hkv32.2.2.2.1
      have g11_σ33 : σ33.1 218 11 = (σ0.1 218 11) := hkv32.2.2.2.2.1
      have g12_σ33 : σ33.1 218 12 = (σ0.1 218 12) := hkv32.2.2.2.2.2.1
      have g13_σ33 : σ33.1 218 13 = (σ0.1 218 13) := hkv32.2.2.2.2.2.2.1
      have g20_σ33 : σ33.1 218 20 = (σ0.1 218 20) := hkv32.2.2.2.2.2.2.2.1
      have g22_σ33 : σ33.1 218 22 = (σ0.1 218 22) := hkv32.2.2.2.2.2.2.2.2.1
      have g23_σ33 : σ33.1 218 23 = (σ0.1 218 23) := hkv32.2.2.2.2.2.2.2.2.2.1
      have g24_σ33 : σ33.1 218 24 = (σ0.1 218 24) := hkv32.2.2.2.2.2.2.2.2.2.2.1
      have g25_σ33 : σ33.1 218 25 = (σ0.1 218 25) := hkv32.2.2.2.2.2.2.2.2.2.2.2
      have n50 := hqv32.2
      rw [J_X12_readsSet_53.eq_1]
      refine ok_gC rfl ?_
      refine ok_zbX (Q := fun V => (V = 0 → ¬ σ33.1 218 14 = 0) ∧ (¬ V = 0 → σ33.1 218 14 = 0)) (x_X12_good) (fun v34 hqv34 => ?_)
      have hqv34 : (v34 = 0 → ¬ σ33.1 218 14 = 0) ∧ (¬ v34 = 0 → σ33.1 218 14 = 0) := hqv34
      try simp only [g7_σ33, g9_σ33, g10_σ33, g11_σ33, g12_σ33, g13_σ33, g20_σ33, g22_σ33, g23_σ33, g24_σ33, g25_σ33, hT.2 224 (by decide)] at hqv34
      refine ok_if (fun hc36 => ?_) (fun hc36 => ?_)
      · have qhc36 := hqv34.1 hc36
        have n57 := qhc36
        have nm : ¬ mOK tx n i x1 := by first | exact fun q => q.elim (f13 n57).2 (fun q => absurd (k7.symm.trans q.1) (by decide)) | exact fun q => q.elim (fun q => absurd (k25.symm.trans q.1) (by decide)) (fun q => by rw [f30 n38] at q; exact absurd q.2 (by decide)) | exact fun q => q.elim (fun q => m7 q.1) (fun q => m25 q.1) | exact absurd y38 n57
        exact ok_some ⟨hT, (show (TOK σ33.1 ∧ (σ0.1 218 11).toInt ≤ (σ33.1 218 11).toInt ∧ (σ33.1 218 14 = 0 → ((σ0.1 218 11).toInt < (σ33.1 218 11).toInt ∧ mOK tx n i x1) ∧ RX σ33.1 tx n (tkE tx n i)) ∧ (¬ σ33.1 218 14 = 0 → ¬ mOK tx n i x1) ∧ ZB σ33.1) ∧ (σ33.1 218 7 = σ0.1 218 7 ∧ σ33.1 218 9 = σ0.1 218 9 ∧ σ33.1 218 20 = σ0.1 218 20 ∧ σ33.1 218 22 = σ0.1 218 22 ∧ σ33.1 218 23 = σ0.1 218 23 ∧ σ33.1 218 24 = σ0.1 218 24 ∧ σ33.1 218 25 = σ0.1 218 25) from ⟨by first | exact ⟨hK, by (try simp only [g7_σ33, g9_σ33, g10_σ33, g11_σ33, g12_σ33, g13_σ33, g20_σ33, g22_σ33, g23_σ33, g24_σ33, g25_σ33]); omega, fun q => absurd q (by (try simp only [g7_σ33, g9_σ33, g10_σ33, g11_σ33, g12_σ33, g13_σ33, g20_σ33, g22_σ33, g23_σ33, g24_σ33, g25_σ33]); exact n57), fun _ => nm, hB⟩ | exact ⟨hK, by (try simp only [g7_σ33, g9_σ33, g10_σ33, g11_σ33, g12_σ33, g13_σ33, g20_σ33, g22_σ33, g23_σ33, g24_σ33, g25_σ33]); omega, fun _ => ⟨⟨by (try simp only [g7_σ33, g9_σ33, g10_σ33, g11_σ33, g12_σ33, g13_σ33, g20_σ33, g22_σ33, g23_σ33, g24_σ33, g25_σ33]); exact ga, ym⟩, RX_i g9_σ33 g10_σ33 g11_σ33 g12_σ33 g13_σ33 ((hT.2 224 (by decide)).trans tE) nE pK9⟩, fun q => absurd (by (try simp only [g7_σ33, g9_σ33, g10_σ33, g11_σ33, g12_σ33, g13_σ33, g20_σ33, g22_σ33, g23_σ33, g24_σ33, g25_σ33]); exact y57) q, hB⟩, g7_σ33, g9_σ33, g20_σ33, g22_σ33, g23_σ33, g24_σ33, g25_σ33⟩)⟩
      · have qhc36 := hqv34.2 hc36
        have y57 := qhc36
        have ym : mOK tx n i x1 := by first | exact Or.inl (u13 y57).1.2 | exact Or.inr ⟨k25, by rw [u30 y38]; rfl⟩ | exact absurd y57 n50 | exact absurd y57 n38
        have pK9 : TKV (σ0.1 218 11) (σ0.1 218 10) (σ0.1 218 12) (σ0.1 218 13) tx n (tkE tx n i) := by first | exact (u13 y57).2.2.2 | exact g42.2 | exact absurd y57 n50 | exact absurd y57 n38
        have ga : (σ0.1 218 11).toInt < (σ0.1 218 11).toInt := by first | exact (u13 y57).1.1 | omega | exact absurd y57 n50 | exact absurd y57 n38
        refine ok_gR (v := 226) hT rfl (hR 218 16 rfl) ?_
        refine ok_gIv rfl g23_σ33 ?_
        refine ok_s16 hT rfl (by decide) (by rw [ti_add, m1]; first | omega | (simp only [Int32.reduceToInt]; omega)) (by rw [ti_add, m1]; first | omega | (simp only [Int32.reduceToInt]; omega)) (fun σ39 eσ39 hOσ39 hT => ?_)
        have hK : TOK σ39.1 := TOK_tr hOσ39 (by decide) (by decide) hK
        have hB : ZB σ39.1 := ZB_s eσ39 hB
        have g7_σ39 : σ39.1 218 7 = (σ0.1 218 7) := (congrFun (hOσ39.2 218 (by decide)) 7).trans g7_σ33
        have g9_σ39 : σ39.1 218 9 = (σ0.1 218 9) := (congrFun (hOσ39.2 218 (by decide)) 9).trans g9_σ33
        have g10_σ39 : σ39.1 218 10 = (σ0.1 218 10) := (congrFun (hOσ39.2 218 (by decide)) 10).trans g10_σ33
        have g11_σ39 : σ39.1 218 11 = (σ0.1 218 11) := (congrFun (hOσ39.2 218 (by decide)) 11).trans g11_σ33
        have g12_σ39 : σ39.1 218 12 = (σ0.1 218 12) := (congrFun (hOσ39.2 218 (by decide)) 12).trans g12_σ33
        have g13_σ39 : σ39.1 218 13 = (σ0.1 218 13) := (congrFun (hOσ39.2 218 (by decide)) 13).trans g13_σ33
        have g14_σ39 : σ39.1 218 14 = (σ33.1 218 14) := congrFun (hOσ39.2 218 (by decide)) 14
        have g15_σ39 : σ39.1 218 15 = (σ33.1 218 15) := congrFun (hOσ39.2 218 (by decide)) 15
        have g20_σ39 : σ39.1 218 20 = (σ0.1 218 20) := (congrFun (hOσ39.2 218 (by decide)) 20).trans g20_σ33
        have g22_σ39 : σ39.1 218 22 = (σ0.1 218 22) := (congrFun (hOσ39.2 218 (by decide)) 22).trans g22_σ33
        have g23_σ39 : σ39.1 218 23 = (σ0.1 218 23) := (congrFun (hOσ39.2 218 (by decide)) 23).trans g23_σ33
        have g24_σ39 : σ39.1 218 24 = (σ0.1 218 24) := (congrFun (hOσ39.2 218 (by decide)) 24).trans g24_σ33
        have g25_σ39 : σ39.1 218 25 = (σ0.1 218 25) := (congrFun (hOσ39.2 218 (by decide)) 25).trans g25_σ33
        exact ok_some ⟨hT, (show (TOK σ39.1 ∧ (σ0.1 218 11).toInt ≤ (σ39.1 218 11).toInt ∧ (σ39.1 218 14 = 0 → ((σ0.1 218 11).toInt < (σ39.1 218 11).toInt ∧ mOK tx n i x1) ∧ RX σ39.1 tx n (tkE tx n i)) ∧ (¬ σ39.1 218 14 = 0 → ¬ mOK tx n i x1) ∧ ZB σ39.1) ∧ (σ39.1 218 7 = σ0.1 218 7 ∧ σ39.1 218 9 = σ0.1 218 9 ∧ σ39.1 218 20 = σ0.1 218 20 ∧ σ39.1 218 22 = σ0.1 218 22 ∧ σ39.1 218 23 = σ0.1 218 23 ∧ σ39.1 218 24 = σ0.1 218 24 ∧ σ39.1 218 25 = σ0.1 218 25) from ⟨by first | exact ⟨hK, by (try simp only [g7_σ39, g9_σ39, g10_σ39, g11_σ39, g12_σ39, g13_σ39, g14_σ39, g15_σ39, g20_σ39, g22_σ39, g23_σ39, g24_σ39, g25_σ39]); omega, fun q => absurd q (by (try simp only [g7_σ39, g9_σ39, g10_σ39, g11_σ39, g12_σ39, g13_σ39, g14_σ39, g15_σ39, g20_σ39, g22_σ39, g23_σ39, g24_σ39, g25_σ39]); exact n57), fun _ => nm, hB⟩ | exact ⟨hK, by (try simp only [g7_σ39, g9_σ39, g10_σ39, g11_σ39, g12_σ39, g13_σ39, g14_σ39, g15_σ39, g20_σ39, g22_σ39, g23_σ39, g24_σ39, g25_σ39]); omega, fun _ => ⟨⟨by (try simp only [g7_σ39, g9_σ39, g10_σ39, g11_σ39, g12_σ39, g13_σ39, g14_σ39, g15_σ39, g20_σ39, g22_σ39, g23_σ39, g24_σ39, g25_σ39]); exact ga, ym⟩, RX_i g9_σ39 g10_σ39 g11_σ39 g12_σ39 g13_σ39 ((hT.2 224 (by decide)).trans tE) nE pK9⟩, fun q => absurd (by (try simp only [g7_σ39, g9_σ39, g10_σ39, g11_σ39, g12_σ39, g13_σ39, g14_σ39, g15_σ39, g20_σ39, g22_σ39, g23_σ39, g24_σ39, g25_σ39]); exact y57) q, hB⟩, g7_σ39, g9_σ39, g20_σ39, g22_σ39, g23_σ39, g24_σ39, g25_σ39⟩)⟩

set_option maxHeartbeats 4000000 in
set_option maxRecDepth 100000 in
theorem s_X12_needsSign_r {N : Nat} (hN : 1048576 ≤ N) {x1 : Int32} {σ0 : zS} {tx : Nat → Int32} {n i : Nat} (hR : RF σ0.2.2) (hK : TOK σ0.1) (hY : BYT (σ0.1 224)) (hGc : σ0.1 218 14 = 0 → RX σ0.1 tx n i) (hs1 : ¬ x1 = 0) : Ok (f_X12_needsSign N 218 x1 σ0) (fun r => Tr [218] σ0 r.2 ∧ ((TOK r.2.1 ∧ (σ0.1 218 11).toInt ≤ (r.2.1 218 11).toInt ∧ (r.2.1 218 14 = 0 → (σ0.1 218 14 = 0 ∧ (σ0.1 218 11).toInt < (r.2.1 218 11).toInt) ∧ tkK tx n i = x1 ∧ RX r.2.1 tx n (tkE tx n i)) ∧ (¬ r.2.1 218 14 = 0 → σ0.1 218 14 = 0 → ¬ tkK tx n i = x1)) ∧ (r.2.1 218 7 = σ0.1 218 7 ∧ r.2.1 218 9 = σ0.1 218 9 ∧ r.2.1 218 20 = σ0.1 218 20 ∧ r.2.1 218 22 = σ0.1 218 22 ∧ r.2.1 218 23 = σ0.1 218 23 ∧ r.2.1 218 24 = σ0.1 218 24 ∧ r.2.1 218 25 = σ0.1 218 25))) := by
  have hT : Tr [218] σ0 σ0 := Tr.rf
  have hK1 := hK.1
  rw [f_X12_needsSign.eq_1]
  refine ok_gC rfl ?_
  refine ok_zbX (Q := fun V => (V = 0 → ¬ σ0.1 218 14 = 0) ∧ (¬ V = 0 → σ0.1 218 14 = 0)) (x_X12_good) (fun v1 hqv1 => ?_)
  have hqv1 : (v1 = 0 → ¬ σ0.1 218 14 = 0) ∧ (¬ v1 = 0 → σ0.1 218 14 = 0) := hqv1
  refine ok_if (fun hc3 => ?_) (fun hc3 => ?_)
  · have qhc3 := hqv1.1 hc3
    have n4 := qhc3
    rw [J_X12_needsSign_20.eq_1]
    refine ok_gC rfl ?_
    refine ok_zbX (Q := fun V => (V = 0 → ¬ σ0.1 218 14 = 0) ∧ (¬ V = 0 → σ0.1 218 14 = 0)) (x_X12_good) (fun v4 hqv4 => ?_)
    have hqv4 : (v4 = 0 → ¬ σ0.1 218 14 = 0) ∧ (¬ v4 = 0 → σ0.1 218 14 = 0) := hqv4
    refine ok_if (fun hc6 => ?_) (fun hc6 => ?_)
    · have qhc6 := hqv4.1 hc6
      have n24 := qhc6
      exact ok_some ⟨hT, (show (TOK σ0.1 ∧ (σ0.1 218 11).toInt ≤ (σ0.1 218 11).toInt ∧ (σ0.1 218 14 = 0 → (σ0.1 218 14 = 0 ∧ (σ0.1 218 11).toInt < (σ0.1 218 11).toInt) ∧ tkK tx n i = x1 ∧ RX σ0.1 tx n (tkE tx n i)) ∧ (¬ σ0.1 218 14 = 0 → σ0.1 218 14 = 0 → ¬ tkK tx n i = x1)) ∧ (σ0.1 218 7 = σ0.1 218 7 ∧ σ0.1 218 9 = σ0.1 218 9 ∧ σ0.1 218 20 = σ0.1 218 20 ∧ σ0.1 218 22 = σ0.1 218 22 ∧ σ0.1 218 23 = σ0.1 218 23 ∧ σ0.1 218 24 = σ0.1 218 24 ∧ σ0.1 218 25 = σ0.1 218 25) from ⟨by first | exact ⟨hK, by skip; omega, fun q => absurd q (by skip; exact n24), fun _ q => absurd q n4⟩ | exact ⟨hK, by skip; omega, fun q => absurd q (by skip; exact n24), fun _ _ => m12⟩ | exact ⟨hK, by skip; omega, fun _ => ⟨⟨y4, by skip; omega⟩, k12, g28⟩, fun q => absurd (by skip; exact y24) q⟩ | exact absurd y4 n24 | exact absurd y24 n4 | exact absurd y24 n17, rfl, rfl, rfl, rfl, rfl, rfl, rfl⟩)⟩
    · have qhc6 := hqv4.2 hc6
      have y24 := qhc6
      refine ok_gC rfl ?_
      refine ok_zbT (Q := fun V σ => ((TOK σ.1 ∧ (σ0.1 218 10).toInt ≤ (σ.1 218 11).toInt) ∧ RX σ.1 tx n (tkE tx n i)) ∧ (σ.1 218 7 = σ0.1 218 7 ∧ σ.1 218 9 = σ0.1 218 9 ∧ σ.1 218 14 = σ0.1 218 14 ∧ σ.1 218 15 = σ0.1 218 15 ∧ σ.1 218 20 = σ0.1 218 20 ∧ σ.1 218 22 = σ0.1 218 22 ∧ σ.1 218 23 = σ0.1 218 23 ∧ σ.1 218 24 = σ0.1 218 24 ∧ σ.1 218 25 = σ0.1 218 25)) hT (s_X12_advance_r hN (hR.tr hT) (TOK_A hK) (by rw [hT.2 224 (by decide)]; exact hY) (by first | exact RX_i rfl rfl rfl rfl rfl ((hT.2 224 (by decide)).trans tE) nE pK | exact absurd y24 n4 | exact absurd y24 n17)) (by decide) (fun v7 σ8 hOσ8 hT hqv7 => ?_)
      have hqv7 : ((TOK σ8.1 ∧ (σ0.1 218 10).toInt ≤ (σ8.1 218 11).toInt) ∧ RX σ8.1 tx n (tkE tx n i)) ∧ (σ8.1 218 7 = σ0.1 218 7 ∧ σ8.1 218 9 = σ0.1 218 9 ∧ σ8.1 218 14 = σ0.1 218 14 ∧ σ8.1 218 15 = σ0.1 218 15 ∧ σ8.1 218 20 = σ0.1 218 20 ∧ σ8.1 218 22 = σ0.1 218 22 ∧ σ8.1 218 23 = σ0.1 218 23 ∧ σ8.1 218 24 = σ0.1 218 24 ∧ σ8.1 218 25 = σ0.1 218 25) := hqv7
      have hkv7 := hqv7
      have hqv7 := hqv7.1
      have hK : TOK σ8.1 := by first | exact hqv7.1 | exact hqv7.1.1 | exact TOK_p eσ8 (by decide) hK
      have g7_σ8 : σ8.1 218 7 = (σ0.1 218 7) := hkv7.2.1
      have g9_σ8 : σ8.1 218 9 = (σ0.1 218 9) := hkv7.2.2.1
      have g14_σ8 : σ8.1 218 14 = (σ0.1 218 14) := hkv7.2.2.2.1
      have g15_σ8 : σ8.1 218 15 = (σ0.1 218 15) := hkv7.2.2.2.2.1
      have g20_σ8 : σ8.1 218 20 = (σ0.1 218 20) := hkv7.2.2.2.2.2.1
      have g22_σ8 : σ8.1 218 22 = (σ0.1 218 22) := hkv7.2.2.2.2.2.2.1
      have g23_σ8 : σ8.1 218 23 = (σ0.1 218 23) := hkv7.2.2.2.2.2.2.2.1
      have g24_σ8 : σ8.1 218 24 = (σ0.1 218 24) := hkv7.2.2.2.2.2.2.2.2.1
      have g25_σ8 : σ8.1 218 25 = (σ0.1 218 25) := hkv7.2.2.2.2.2.2.2.2.2
      have m28 := hqv7.1.2
      have g28 := hqv7.2
      exact ok_some ⟨hT, (show (TOK σ8.1 ∧ (σ0.1 218 11).toInt ≤ (σ8.1 218 11).toInt ∧ (σ8.1 218 14 = 0 → (σ0.1 218 14 = 0 ∧ (σ0.1 218 11).toInt < (σ8.1 218 11).toInt) ∧ tkK tx n i = x1 ∧ RX σ8.1 tx n (tkE tx n i)) ∧ (¬ σ8.1 218 14 = 0 → σ0.1 218 14 = 0 → ¬ tkK tx n i = x1)) ∧ (σ8.1 218 7 = σ0.1 218 7 ∧ σ8.1 218 9 = σ0.1 218 9 ∧ σ8.1 218 20 = σ0.1 218 20 ∧ σ8.1 218 22 = σ0.1 218 22 ∧ σ8.1 218 23 = σ0.1 218 23 ∧ σ8.1 218 24 = σ0.1 218 24 ∧ σ8.1 218 25 = σ0.1 218 25) from ⟨by first | exact ⟨hK, by (try simp only [g7_σ8, g9_σ8, g14_σ8, g15_σ8, g20_σ8, g22_σ8, g23_σ8, g24_σ8, g25_σ8]); omega, fun q => absurd q (by (try simp only [g7_σ8, g9_σ8, g14_σ8, g15_σ8, g20_σ8, g22_σ8, g23_σ8, g24_σ8, g25_σ8]); exact n24), fun _ q => absurd q n4⟩ | exact ⟨hK, by (try simp only [g7_σ8, g9_σ8, g14_σ8, g15_σ8, g20_σ8, g22_σ8, g23_σ8, g24_σ8, g25_σ8]); omega, fun q => absurd q (by (try simp only [g7_σ8, g9_σ8, g14_σ8, g15_σ8, g20_σ8, g22_σ8, g23_σ8, g24_σ8, g25_σ8]); exact n24), fun _ _ => m12⟩ | exact ⟨hK, by (try simp only [g7_σ8, g9_σ8, g14_σ8, g15_σ8, g20_σ8, g22_σ8, g23_σ8, g24_σ8, g25_σ8]); omega, fun _ => ⟨⟨y4, by (try simp only [g7_σ8, g9_σ8, g14_σ8, g15_σ8, g20_σ8, g22_σ8, g23_σ8, g24_σ8, g25_σ8]); omega⟩, k12, g28⟩, fun q => absurd (by (try simp only [g7_σ8, g9_σ8, g14_σ8, g15_σ8, g20_σ8, g22_σ8, g23_σ8, g24_σ8, g25_σ8]); exact y24) q⟩ | exact absurd y4 n24 | exact absurd y24 n4 | exact absurd y24 n17, g7_σ8, g9_σ8, g20_σ8, g22_σ8, g23_σ8, g24_σ8, g25_σ8⟩)⟩
  · have qhc3 := hqv1.2 hc3
    have y4 := qhc3
    have hG := hGc qhc3
    have tE : σ0.1 224 = tx := hG.1.1
    have nE : (σ0.1 218 9).toInt.toNat = n := hG.1.2
    have pK : TKV (σ0.1 218 11) (σ0.1 218 10) (σ0.1 218 12) (σ0.1 218 13) tx n i := hG.2
    refine ok_gI rfl ?_
    refine ok_if (fun hc10 => ?_) (fun hc10 => ?_)
    · have l12 := hK.2.1 (by rw [hc10]; exact hs1)
      have k12 : tkK tx n i = x1 := pK.2.1.symm.trans hc10
      rw [J_X12_needsSign_20.eq_1]
      refine ok_gC rfl ?_
      refine ok_zbX (Q := fun V => (V = 0 → ¬ σ0.1 218 14 = 0) ∧ (¬ V = 0 → σ0.1 218 14 = 0)) (x_X12_good) (fun v11 hqv11 => ?_)
      have hqv11 : (v11 = 0 → ¬ σ0.1 218 14 = 0) ∧ (¬ v11 = 0 → σ0.1 218 14 = 0) := hqv11
      refine ok_if (fun hc13 => ?_) (fun hc13 => ?_)
      · have qhc13 := hqv11.1 hc13
        have n24 := qhc13
        exact ok_some ⟨hT, (show (TOK σ0.1 ∧ (σ0.1 218 11).toInt ≤ (σ0.1 218 11).toInt ∧ (σ0.1 218 14 = 0 → (σ0.1 218 14 = 0 ∧ (σ0.1 218 11).toInt < (σ0.1 218 11).toInt) ∧ tkK tx n i = x1 ∧ RX σ0.1 tx n (tkE tx n i)) ∧ (¬ σ0.1 218 14 = 0 → σ0.1 218 14 = 0 → ¬ tkK tx n i = x1)) ∧ (σ0.1 218 7 = σ0.1 218 7 ∧ σ0.1 218 9 = σ0.1 218 9 ∧ σ0.1 218 20 = σ0.1 218 20 ∧ σ0.1 218 22 = σ0.1 218 22 ∧ σ0.1 218 23 = σ0.1 218 23 ∧ σ0.1 218 24 = σ0.1 218 24 ∧ σ0.1 218 25 = σ0.1 218 25) from ⟨by first | exact ⟨hK, by skip; omega, fun q => absurd q (by skip; exact n24), fun _ q => absurd q n4⟩ | exact ⟨hK, by skip; omega, fun q => absurd q (by skip; exact n24), fun _ _ => m12⟩ | exact ⟨hK, by skip; omega, fun _ => ⟨⟨y4, by skip; omega⟩, k12, g28⟩, fun q => absurd (by skip; exact y24) q⟩ | exact absurd y4 n24 | exact absurd y24 n4 | exact absurd y24 n17, rfl, rfl, rfl, rfl, rfl, rfl, rfl⟩)⟩
      · have qhc13 := hqv11.2 hc13
        have y24 := qhc13
        refine ok_gC rfl ?_
        refine ok_zbT (Q := fun V σ => ((TOK σ.1 ∧ (σ0.1 218 10).toInt ≤ (σ.1 218 11).toInt) ∧ RX σ.1 tx n (tkE tx n i)) ∧ (σ.1 218 7 = σ0.1 218 7 ∧ σ.1 218 9 = σ0.1 218 9 ∧ σ.1 218 14 = σ0.1 218 14 ∧ σ.1 218 15 = σ0.1 218 15 ∧ σ.1 218 20 = σ0.1 218 20 ∧ σ.1 218 22 = σ0.1 218 22 ∧ σ.1 218 23 = σ0.1 218 23 ∧ σ.1 218 24 = σ0.1 218 24 ∧ σ.1 218 25 = σ0.1 218 25)) hT (s_X12_advance_r hN (hR.tr hT) (TOK_A hK) (by rw [hT.2 224 (by decide)]; exact hY) (by first | exact RX_i rfl rfl rfl rfl rfl ((hT.2 224 (by decide)).trans tE) nE pK | exact absurd y24 n4 | exact absurd y24 n17)) (by decide) (fun v14 σ15 hOσ15 hT hqv14 => ?_)
        have hqv14 : ((TOK σ15.1 ∧ (σ0.1 218 10).toInt ≤ (σ15.1 218 11).toInt) ∧ RX σ15.1 tx n (tkE tx n i)) ∧ (σ15.1 218 7 = σ0.1 218 7 ∧ σ15.1 218 9 = σ0.1 218 9 ∧ σ15.1 218 14 = σ0.1 218 14 ∧ σ15.1 218 15 = σ0.1 218 15 ∧ σ15.1 218 20 = σ0.1 218 20 ∧ σ15.1 218 22 = σ0.1 218 22 ∧ σ15.1 218 23 = σ0.1 218 23 ∧ σ15.1 218 24 = σ0.1 218 24 ∧ σ15.1 218 25 = σ0.1 218 25) := hqv14
        have hkv14 := hqv14
        have hqv14 := hqv14.1
        have hK : TOK σ15.1 := by first | exact hqv14.1 | exact hqv14.1.1 | exact TOK_p eσ15 (by decide) hK
        have g7_σ15 : σ15.1 218 7 = (σ0.1 218 7) := hkv14.2.1
        have g9_σ15 : σ15.1 218 9 = (σ0.1 218 9) := hkv14.2.2.1
        have g14_σ15 : σ15.1 218 14 = (σ0.1 218 14) := hkv14.2.2.2.1
        have g15_σ15 : σ15.1 218 15 = (σ0.1 218 15) := hkv14.2.2.2.2.1
        have g20_σ15 : σ15.1 218 20 = (σ0.1 218 20) := hkv14.2.2.2.2.2.1
        have g22_σ15 : σ15.1 218 22 = (σ0.1 218 22) := hkv14.2.2.2.2.2.2.1
        have g23_σ15 : σ15.1 218 23 = (σ0.1 218 23) := hkv14.2.2.2.2.2.2.2.1
        have g24_σ15 : σ15.1 218 24 = (σ0.1 218 24) := hkv14.2.2.2.2.2.2.2.2.1
        have g25_σ15 : σ15.1 218 25 = (σ0.1 218 25) := hkv14.2.2.2.2.2.2.2.2.2
        have m28 := hqv14.1.2
        have g28 := hqv14.2
        exact ok_some ⟨hT, (show (TOK σ15.1 ∧ (σ0.1 218 11).toInt ≤ (σ15.1 218 11).toInt ∧ (σ15.1 218 14 = 0 → (σ0.1 218 14 = 0 ∧ (σ0.1 218 11).toInt < (σ15.1 218 11).toInt) ∧ tkK tx n i = x1 ∧ RX σ15.1 tx n (tkE tx n i)) ∧ (¬ σ15.1 218 14 = 0 → σ0.1 218 14 = 0 → ¬ tkK tx n i = x1)) ∧ (σ15.1 218 7 = σ0.1 218 7 ∧ σ15.1 218 9 = σ0.1 218 9 ∧ σ15.1 218 20 = σ0.1 218 20 ∧ σ15.1 218 22 = σ0.1 218 22 ∧ σ15.1 218 23 = σ0.1 218 23 ∧ σ15.1 218 24 = σ0.1 218 24 ∧ σ15.1 218 25 = σ0.1 218 25) from ⟨by first | exact ⟨hK, by (try simp only [g7_σ15, g9_σ15, g14_σ15, g15_σ15, g20_σ15, g22_σ15, g23_σ15, g24_σ15, g25_σ15]); omega, fun q => absurd q (by (try simp only [g7_σ15, g9_σ15, g14_σ15, g15_σ15, g20_σ15, g22_σ15, g23_σ15, g24_σ15, g25_σ15]); exact n24), fun _ q => absurd q n4⟩ | exact ⟨hK, by (try simp only [g7_σ15, g9_σ15, g14_σ15, g15_σ15, g20_σ15, g22_σ15, g23_σ15, g24_σ15, g25_σ15]); omega, fun q => absurd q (by (try simp only [g7_σ15, g9_σ15, g14_σ15, g15_σ15, g20_σ15, g22_σ15, g23_σ15, g24_σ15, g25_σ15]); exact n24), fun _ _ => m12⟩ | exact ⟨hK, by (try simp only [g7_σ15, g9_σ15, g14_σ15, g15_σ15, g20_σ15, g22_σ15, g23_σ15, g24_σ15, g25_σ15]); omega, fun _ => ⟨⟨y4, by (try simp only [g7_σ15, g9_σ15, g14_σ15, g15_σ15, g20_σ15, g22_σ15, g23_σ15, g24_σ15, g25_σ15]); omega⟩, k12, g28⟩, fun q => absurd (by (try simp only [g7_σ15, g9_σ15, g14_σ15, g15_σ15, g20_σ15, g22_σ15, g23_σ15, g24_σ15, g25_σ15]); exact y24) q⟩ | exact absurd y4 n24 | exact absurd y24 n4 | exact absurd y24 n17, g7_σ15, g9_σ15, g20_σ15, g22_σ15, g23_σ15, g24_σ15, g25_σ15⟩)⟩
    · have m12 : ¬ tkK tx n i = x1 := fun q => hc10 (pK.2.1.trans q)
      refine ok_gC rfl ?_
      refine ok_zbT (Q := fun V σ => (TOK σ.1 ∧ ¬ σ.1 218 14 = 0) ∧ (σ.1 218 7 = σ0.1 218 7 ∧ σ.1 218 9 = σ0.1 218 9 ∧ σ.1 218 10 = σ0.1 218 10 ∧ σ.1 218 11 = σ0.1 218 11 ∧ σ.1 218 12 = σ0.1 218 12 ∧ σ.1 218 13 = σ0.1 218 13 ∧ σ.1 218 20 = σ0.1 218 20 ∧ σ.1 218 22 = σ0.1 218 22 ∧ σ.1 218 23 = σ0.1 218 23 ∧ σ.1 218 24 = σ0.1 218 24 ∧ σ.1 218 25 = σ0.1 218 25)) hT (s_X12_errs hN (hR.tr hT) (hK) (by rw [hT.2 224 (by decide)]; exact hY) (by decide)) (by decide) (fun v16 σ17 hOσ17 hT hqv16 => ?_)
      have hqv16 : (TOK σ17.1 ∧ ¬ σ17.1 218 14 = 0) ∧ (σ17.1 218 7 = σ0.1 218 7 ∧ σ17.1 218 9 = σ0.1 218 9 ∧ σ17.1 218 10 = σ0.1 218 10 ∧ σ17.1 218 11 = σ0.1 218 11 ∧ σ17.1 218 12 = σ0.1 218 12 ∧ σ17.1 218 13 = σ0.1 218 13 ∧ σ17.1 218 20 = σ0.1 218 20 ∧ σ17.1 218 22 = σ0.1 218 22 ∧ σ17.1 218 23 = σ0.1 218 23 ∧ σ17.1 218 24 = σ0.1 218 24 ∧ σ17.1 218 25 = σ0.1 218 25) := hqv16
      have hkv16 := hqv16
      have hqv16 := hqv16.1
      have hK : TOK σ17.1 := by first | exact hqv16.1 | exact hqv16.1.1 | exact TOK_p eσ17 (by decide) hK
      have g7_σ17 : σ17.1 218 7 = (σ0.1 218 7) := hkv16.2.1
      have g9_σ17 : σ17.1 218 9 = (σ0.1 218 9) := hkv16.2.2.1
      have g10_σ17 : σ17.1 218 10 = (σ0.1 218 10) := hkv16.2.2.2.1
      have g11_σ17 : σ17.1 218 11 = (σ0.1 218 11) := hkv16.2.2.2.2.1
      have g12_σ17 : σ17.1 218 12 = (σ0.1 218 12) := hkv16.2.2.2.2.2.1
      have g13_σ17 : σ17.1 218 13 = (σ0.1 218 13) := hkv16.2.2.2.2.2.2.1
      have g20_σ17 : σ17.1 218 20 = (σ0.1 218 20) := hkv16.2.2.2.2.2.2.2.1
      have g22_σ17 : σ17.1 218 22 = (σ0.1 218 22) := hkv16.2.2.2.2.2.2.2.2.1
      have g23_σ17 : σ17.1 218 23 = (σ0.1 218 23) := hkv16.2.2.2.2.2.2.2.2.2.1
      have g24_σ17 : σ17.1 218 24 = (σ0.1 218 24) := hkv16.2.2.2.2.2.2.2.2.2.2.1
      have g25_σ17 : σ17.1 218 25 = (σ0.1 218 25) := hkv16.2.2.2.2.2.2.2.2.2.2.2
      have n17 := hqv16.2
      rw [J_X12_needsSign_20.eq_1]
      refine ok_gC rfl ?_
      refine ok_zbX (Q := fun V => (V = 0 → ¬ σ17.1 218 14 = 0) ∧ (¬ V = 0 → σ17.1 218 14 = 0)) (x_X12_good) (fun v18 hqv18 => ?_)
      have hqv18 : (v18 = 0 → ¬ σ17.1 218 14 = 0) ∧ (¬ v18 = 0 → σ17.1 218 14 = 0) := hqv18
      try simp only [g7_σ17, g9_σ17, g10_σ17, g11_σ17, g12_σ17, g13_σ17, g20_σ17, g22_σ17, g23_σ17, g24_σ17, g25_σ17, hT.2 224 (by decide)] at hqv18
      refine ok_if (fun hc20 => ?_) (fun hc20 => ?_)
      · have qhc20 := hqv18.1 hc20
        have n24 := qhc20
        exact ok_some ⟨hT, (show (TOK σ17.1 ∧ (σ0.1 218 11).toInt ≤ (σ17.1 218 11).toInt ∧ (σ17.1 218 14 = 0 → (σ0.1 218 14 = 0 ∧ (σ0.1 218 11).toInt < (σ17.1 218 11).toInt) ∧ tkK tx n i = x1 ∧ RX σ17.1 tx n (tkE tx n i)) ∧ (¬ σ17.1 218 14 = 0 → σ0.1 218 14 = 0 → ¬ tkK tx n i = x1)) ∧ (σ17.1 218 7 = σ0.1 218 7 ∧ σ17.1 218 9 = σ0.1 218 9 ∧ σ17.1 218 20 = σ0.1 218 20 ∧ σ17.1 218 22 = σ0.1 218 22 ∧ σ17.1 218 23 = σ0.1 218 23 ∧ σ17.1 218 24 = σ0.1 218 24 ∧ σ17.1 218 25 = σ0.1 218 25) from ⟨by first | exact ⟨hK, by (try simp only [g7_σ17, g9_σ17, g10_σ17, g11_σ17, g12_σ17, g13_σ17, g20_σ17, g22_σ17, g23_σ17, g24_σ17, g25_σ17]); omega, fun q => absurd q (by (try simp only [g7_σ17, g9_σ17, g10_σ17, g11_σ17, g12_σ17, g13_σ17, g20_σ17, g22_σ17, g23_σ17, g24_σ17, g25_σ17]); exact n24), fun _ q => absurd q n4⟩ | exact ⟨hK, by (try simp only [g7_σ17, g9_σ17, g10_σ17, g11_σ17, g12_σ17, g13_σ17, g20_σ17, g22_σ17, g23_σ17, g24_σ17, g25_σ17]); omega, fun q => absurd q (by (try simp only [g7_σ17, g9_σ17, g10_σ17, g11_σ17, g12_σ17, g13_σ17, g20_σ17, g22_σ17, g23_σ17, g24_σ17, g25_σ17]); exact n24), fun _ _ => m12⟩ | exact ⟨hK, by (try simp only [g7_σ17, g9_σ17, g10_σ17, g11_σ17, g12_σ17, g13_σ17, g20_σ17, g22_σ17, g23_σ17, g24_σ17, g25_σ17]); omega, fun _ => ⟨⟨y4, by (try simp only [g7_σ17, g9_σ17, g10_σ17, g11_σ17, g12_σ17, g13_σ17, g20_σ17, g22_σ17, g23_σ17, g24_σ17, g25_σ17]); omega⟩, k12, g28⟩, fun q => absurd (by (try simp only [g7_σ17, g9_σ17, g10_σ17, g11_σ17, g12_σ17, g13_σ17, g20_σ17, g22_σ17, g23_σ17, g24_σ17, g25_σ17]); exact y24) q⟩ | exact absurd y4 n24 | exact absurd y24 n4 | exact absurd y24 n17, g7_σ17, g9_σ17, g20_σ17, g22_σ17, g23_σ17, g24_σ17, g25_σ17⟩)⟩
      · have qhc20 := hqv18.2 hc20
        have y24 := qhc20
        refine ok_gC rfl ?_
        refine ok_zbT (Q := fun V σ => ((TOK σ.1 ∧ (σ17.1 218 10).toInt ≤ (σ.1 218 11).toInt) ∧ RX σ.1 tx n (tkE tx n i)) ∧ (σ.1 218 7 = σ17.1 218 7 ∧ σ.1 218 9 = σ17.1 218 9 ∧ σ.1 218 14 = σ17.1 218 14 ∧ σ.1 218 15 = σ17.1 218 15 ∧ σ.1 218 20 = σ17.1 218 20 ∧ σ.1 218 22 = σ17.1 218 22 ∧ σ.1 218 23 = σ17.1 218 23 ∧ σ.1 218 24 = σ17.1 218 24 ∧ σ.1 218 25 = σ17.1 218 25)) hT (s_X12_advance_r hN (hR.tr hT) (TOK_A hK) (by rw [hT.2 224 (by decide)]; exact hY) (by first | exact RX_i g9_σ17 g10_σ17 g11_σ17 g12_σ17 g13_σ17 ((hT.2 224 (by decide)).trans tE) nE pK | exact absurd y24 n4 | exact absurd y24 n17)) (by decide) (fun v21 σ22 hOσ22 hT hqv21 => ?_)
        have hqv21 : ((TOK σ22.1 ∧ (σ17.1 218 10).toInt ≤ (σ22.1 218 11).toInt) ∧ RX σ22.1 tx n (tkE tx n i)) ∧ (σ22.1 218 7 = σ17.1 218 7 ∧ σ22.1 218 9 = σ17.1 218 9 ∧ σ22.1 218 14 = σ17.1 218 14 ∧ σ22.1 218 15 = σ17.1 218 15 ∧ σ22.1 218 20 = σ17.1 218 20 ∧ σ22.1 218 22 = σ17.1 218 22 ∧ σ22.1 218 23 = σ17.1 218 23 ∧ σ22.1 218 24 = σ17.1 218 24 ∧ σ22.1 218 25 = σ17.1 218 25) := hqv21
        have hkv21 := hqv21
        have hqv21 := hqv21.1
        have hK : TOK σ22.1 := by first | exact hqv21.1 | exact hqv21.1.1 | exact TOK_p eσ22 (by decide) hK
        try simp only [g7_σ17, g9_σ17, g10_σ17, g11_σ17, g12_σ17, g13_σ17, g20_σ17, g22_σ17, g23_σ17, g24_σ17, g25_σ17] at hqv21
        have g7_σ22 : σ22.1 218 7 = (σ0.1 218 7) := (hkv21.2.1).trans g7_σ17
        have g9_σ22 : σ22.1 218 9 = (σ0.1 218 9) := (hkv21.2.2.1).trans g9_σ17
        have g14_σ22 : σ22.1 218 14 = (σ17.1 218 14) := hkv21.2.2.2.1
        have g15_σ22 : σ22.1 218 15 = (σ17.1 218 15) := hkv21.2.2.2.2.1
        have g20_σ22 : σ22.1 218 20 = (σ0.1 218 20) := (hkv21.2.2.2.2.2.1).trans g20_σ17
        have g22_σ22 : σ22.1 218 22 = (σ0.1 218 22) := (hkv21.2.2.2.2.2.2.1).trans g22_σ17
        have g23_σ22 : σ22.1 218 23 = (σ0.1 218 23) := (hkv21.2.2.2.2.2.2.2.1).trans g23_σ17
        have g24_σ22 : σ22.1 218 24 = (σ0.1 218 24) := (hkv21.2.2.2.2.2.2.2.2.1).trans g24_σ17
        have g25_σ22 : σ22.1 218 25 = (σ0.1 218 25) := (hkv21.2.2.2.2.2.2.2.2.2).trans g25_σ17
        have m28 := hqv21.1.2
        have g28 := hqv21.2
        exact ok_some ⟨hT, (show (TOK σ22.1 ∧ (σ0.1 218 11).toInt ≤ (σ22.1 218 11).toInt ∧ (σ22.1 218 14 = 0 → (σ0.1 218 14 = 0 ∧ (σ0.1 218 11).toInt < (σ22.1 218 11).toInt) ∧ tkK tx n i = x1 ∧ RX σ22.1 tx n (tkE tx n i)) ∧ (¬ σ22.1 218 14 = 0 → σ0.1 218 14 = 0 → ¬ tkK tx n i = x1)) ∧ (σ22.1 218 7 = σ0.1 218 7 ∧ σ22.1 218 9 = σ0.1 218 9 ∧ σ22.1 218 20 = σ0.1 218 20 ∧ σ22.1 218 22 = σ0.1 218 22 ∧ σ22.1 218 23 = σ0.1 218 23 ∧ σ22.1 218 24 = σ0.1 218 24 ∧ σ22.1 218 25 = σ0.1 218 25) from ⟨by first | exact ⟨hK, by (try simp only [g7_σ22, g9_σ22, g14_σ22, g15_σ22, g20_σ22, g22_σ22, g23_σ22, g24_σ22, g25_σ22]); omega, fun q => absurd q (by (try simp only [g7_σ22, g9_σ22, g14_σ22, g15_σ22, g20_σ22, g22_σ22, g23_σ22, g24_σ22, g25_σ22]); exact n24), fun _ q => absurd q n4⟩ | exact ⟨hK, by (try simp only [g7_σ22, g9_σ22, g14_σ22, g15_σ22, g20_σ22, g22_σ22, g23_σ22, g24_σ22, g25_σ22]); omega, fun q => absurd q (by (try simp only [g7_σ22, g9_σ22, g14_σ22, g15_σ22, g20_σ22, g22_σ22, g23_σ22, g24_σ22, g25_σ22]); exact n24), fun _ _ => m12⟩ | exact ⟨hK, by (try simp only [g7_σ22, g9_σ22, g14_σ22, g15_σ22, g20_σ22, g22_σ22, g23_σ22, g24_σ22, g25_σ22]); omega, fun _ => ⟨⟨y4, by (try simp only [g7_σ22, g9_σ22, g14_σ22, g15_σ22, g20_σ22, g22_σ22, g23_σ22, g24_σ22, g25_σ22]); omega⟩, k12, g28⟩, fun q => absurd (by (try simp only [g7_σ22, g9_σ22, g14_σ22, g15_σ22, g20_σ22, g22_σ22, g23_σ22, g24_σ22, g25_σ22]); exact y24) q⟩ | exact absurd y4 n24 | exact absurd y24 n4 | exact absurd y24 n17, g7_σ22, g9_σ22, g20_σ22, g22_σ22, g23_σ22, g24_σ22, g25_σ22⟩)⟩
end Zq11_2
section Zq11_3
theorem tk_le {t : Nat → Int32} {n i : Nat} (h : i ≤ n) : (i ≤ tkF t n i ∧ tkF t n i ≤ n) ∧ tkF t n i ≤ tkE t n i ∧ tkE t n i ≤ n := by
  have a := Rn_b (p := isSp) (t := t) h
  have a : i ≤ tkF t n i ∧ tkF t n i ≤ n := a
  refine ⟨a, ?_⟩
  unfold tkE
  simp only
  split
  · split
    · exact Rn_b a.2
    · split
      · exact Rn_b a.2
      · omega
  · omega
theorem tk_gt {t : Nat → Int32} {n i : Nat} (h : i ≤ n) (hk : ¬ tkK t n i = 0) : i < tkE t n i := by
  have a := (tk_le (t := t) h).1
  have q : tkF t n i < n := by
    by_cases q : tkF t n i < n
    · exact q
    · exact absurd (tk_0 rfl q).1 hk
  unfold tkE
  simp only [if_pos q]
  split
  · rename_i l
    have := Rn_b (p := isLt) (t := t) (n := n) (i := tkF t n i + 1) (by omega)
    rw [Rn_s q l]; omega
  · split
    · rename_i l
      have := Rn_b (p := isDg) (t := t) (n := n) (i := tkF t n i + 1) (by omega)
      rw [Rn_s q l]; omega
    · omega
theorem mOK_n {t : Nat → Int32} {n i : Nat} {m : Int32} (h : mOK t n i m) : ¬ tkK t n i = 0 := by
  rcases h with q | q
  · rw [q.1]; decide
  · rw [q.1]; decide
/-- the family whose first set is looked for at i: where it ends -/
def famF (t : Nat → Int32) (n : Nat) (m : Int32) : Nat → Nat → Option Nat
  | 0, _ => none
  | f + 1, i => if mOK t n i m then (if tkK t n (tkE t n i) = 44 then famF t n m f (tkE t n (tkE t n i)) else if tkK t n (tkE t n i) = 125 then some (tkE t n (tkE t n i)) else none) else none
theorem famF_any {t : Nat → Int32} {n : Nat} {m : Int32} : ∀ f g i, i ≤ n → n + 1 - i ≤ f → n + 1 - i ≤ g → famF t n m f i = famF t n m g i
  | 0, g, i, h, h1, _ => absurd h1 (by omega)
  | f + 1, 0, i, h, _, h2 => absurd h2 (by omega)
  | f + 1, g + 1, i, h, h1, h2 => by
    show (if mOK t n i m then _ else none) = (if mOK t n i m then _ else none)
    by_cases q : mOK t n i m
    · rw [if_pos q, if_pos q]
      by_cases r : tkK t n (tkE t n i) = 44
      · rw [if_pos r, if_pos r]
        have a := tk_gt h (mOK_n q)
        have b := (tk_le (t := t) h).2.2
        have c := tk_gt b (by rw [r]; decide)
        have d := (tk_le (t := t) b).2.2
        exact famF_any f g _ d (by omega) (by omega)
      · rw [if_neg r, if_neg r]
    · rw [if_neg q, if_neg q]
def fmE (t : Nat → Int32) (n : Nat) (m : Int32) (i : Nat) : Option Nat := famF t n m (n + 1 - i) i
/-- behind a set, at p -/
def fmC (t : Nat → Int32) (n : Nat) (m : Int32) (p : Nat) : Option Nat := if tkK t n p = 44 then fmE t n m (tkE t n p) else if tkK t n p = 125 then some (tkE t n p) else none
theorem fmE_t {t : Nat → Int32} {n : Nat} {m : Int32} {i : Nat} (h : i ≤ n) (q : mOK t n i m) : fmE t n m i = fmC t n m (tkE t n i) := by
  unfold fmE fmC
  rw [show n + 1 - i = (n - i) + 1 by omega]
  show (if mOK t n i m then _ else none) = _
  rw [if_pos q]
  by_cases r : tkK t n (tkE t n i) = 44
  · rw [if_pos r, if_pos r]
    have a := tk_gt h (mOK_n q)
    have b := (tk_le (t := t) h).2.2
    have c := tk_gt b (by rw [r]; decide)
    have d := (tk_le (t := t) b).2.2
    exact famF_any _ _ _ d (by omega) (by omega)
  · rw [if_neg r, if_neg r]
theorem fmE_f {t : Nat → Int32} {n : Nat} {m : Int32} {i : Nat} (h : i ≤ n) (q : ¬ mOK t n i m) : fmE t n m i = none := by
  unfold fmE
  rw [show n + 1 - i = (n - i) + 1 by omega]
  exact if_neg q
/-- the family that begins with the bracket at i -/
def fam (t : Nat → Int32) (n : Nat) (m : Int32) (i : Nat) : Option Nat := if tkK t n (tkE t n i) = 125 then some (tkE t n (tkE t n i)) else fmE t n m (tkE t n i)

set_option maxHeartbeats 4000000 in
set_option maxRecDepth 100000 in
theorem s_X12_readsSets_r {N : Nat} (hN : 1048576 ≤ N) {x1 : Int32} {σ0 : zS} {tx : Nat → Int32} {n i : Nat} (hR : RF σ0.2.2) (hK : TOK σ0.1) (hY : BYT (σ0.1 224)) (hG : RX σ0.1 tx n i) (hg : σ0.1 218 14 = 0) (hB : ZB σ0.1) (hn : 0 ≤ x1.toInt ∧ x1.toInt ≤ 10) (hp : 0 ≤ (σ0.1 218 23).toInt ∧ (σ0.1 218 23).toInt ≤ 17) (h12 : ¬ σ0.1 218 12 = 0) (hi : i ≤ n) : Ok (f_X12_readsSets N 218 x1 σ0) (fun r => Tr [218, 226] σ0 r.2 ∧ ((TOK r.2.1 ∧ (σ0.1 218 11).toInt ≤ (r.2.1 218 11).toInt ∧ (r.2.1 218 14 = 0 → (σ0.1 218 11).toInt < (r.2.1 218 11).toInt ∧ ∃ j, fam tx n x1 i = some j ∧ RX r.2.1 tx n j) ∧ (¬ r.2.1 218 14 = 0 → fam tx n x1 i = none) ∧ ZB r.2.1 ∧ r.2.1 218 23 = σ0.1 218 23 + 1) ∧ (r.2.1 218 7 = σ0.1 218 7 ∧ r.2.1 218 9 = σ0.1 218 9 ∧ r.2.1 218 20 = σ0.1 218 20 ∧ r.2.1 218 22 = σ0.1 218 22 ∧ r.2.1 218 24 = σ0.1 218 24 ∧ r.2.1 218 25 = σ0.1 218 25))) := by
  have hT : Tr [218, 226] σ0 σ0 := Tr.rf
  have hK1 := hK.1
  have tE : σ0.1 224 = tx := hG.1.1
  have nE : (σ0.1 218 9).toInt.toNat = n := hG.1.2
  have pK : TKV (σ0.1 218 11) (σ0.1 218 10) (σ0.1 218 12) (σ0.1 218 13) tx n i := hG.2
  have l12 := hK.2.1 h12
  have le1 := (tk_le (t := tx) hi).2.2
  rw [f_X12_readsSets.eq_1]
  refine ok_gC rfl ?_
  refine ok_zbT (Q := fun V σ => ((TOK σ.1 ∧ (σ0.1 218 10).toInt ≤ (σ.1 218 11).toInt) ∧ RX σ.1 tx n (tkE tx n i)) ∧ (σ.1 218 7 = σ0.1 218 7 ∧ σ.1 218 9 = σ0.1 218 9 ∧ σ.1 218 14 = σ0.1 218 14 ∧ σ.1 218 15 = σ0.1 218 15 ∧ σ.1 218 20 = σ0.1 218 20 ∧ σ.1 218 22 = σ0.1 218 22 ∧ σ.1 218 23 = σ0.1 218 23 ∧ σ.1 218 24 = σ0.1 218 24 ∧ σ.1 218 25 = σ0.1 218 25)) hT (s_X12_advance_r hN (hR.tr hT) (TOK_A hK) (by rw [hT.2 224 (by decide)]; exact hY) (RX_i rfl rfl rfl rfl rfl ((hT.2 224 (by decide)).trans tE) nE pK)) (by decide) (fun v1 σ2 hOσ2 hT hqv1 => ?_)
  have hqv1 : ((TOK σ2.1 ∧ (σ0.1 218 10).toInt ≤ (σ2.1 218 11).toInt) ∧ RX σ2.1 tx n (tkE tx n i)) ∧ (σ2.1 218 7 = σ0.1 218 7 ∧ σ2.1 218 9 = σ0.1 218 9 ∧ σ2.1 218 14 = σ0.1 218 14 ∧ σ2.1 218 15 = σ0.1 218 15 ∧ σ2.1 218 20 = σ0.1 218 20 ∧ σ2.1 218 22 = σ0.1 218 22 ∧ σ2.1 218 23 = σ0.1 218 23 ∧ σ2.1 218 24 = σ0.1 218 24 ∧ σ2.1 218 25 = σ0.1 218 25) := hqv1
  have hkv1 := hqv1
  have hqv1 := hqv1.1
  have hK : TOK σ2.1 := by first | exact hqv1.1 | exact hqv1.1.1 | exact TOK_p eσ2 (by decide) hK
  have hB : ZB σ2.1 := ZB.tr hOσ2 (by decide) hB
  have g7_σ2 : σ2.1 218 7 = (σ0.1 218 7) := hkv1.2.1
  have g9_σ2 : σ2.1 218 9 = (σ0.1 218 9) := hkv1.2.2.1
  have g14_σ2 : σ2.1 218 14 = (σ0.1 218 14) := hkv1.2.2.2.1
  have g15_σ2 : σ2.1 218 15 = (σ0.1 218 15) := hkv1.2.2.2.2.1
  have g20_σ2 : σ2.1 218 20 = (σ0.1 218 20) := hkv1.2.2.2.2.2.1
  have g22_σ2 : σ2.1 218 22 = (σ0.1 218 22) := hkv1.2.2.2.2.2.2.1
  have g23_σ2 : σ2.1 218 23 = (σ0.1 218 23) := hkv1.2.2.2.2.2.2.2.1
  have g24_σ2 : σ2.1 218 24 = (σ0.1 218 24) := hkv1.2.2.2.2.2.2.2.2.1
  have g25_σ2 : σ2.1 218 25 = (σ0.1 218 25) := hkv1.2.2.2.2.2.2.2.2.2
  have m1 := hqv1.1.2
  have pK : TKV (σ2.1 218 11) (σ2.1 218 10) (σ2.1 218 12) (σ2.1 218 13) tx n (tkE tx n i) := hqv1.2.2
  refine ok_gC rfl ?_
  refine ok_zbT (Q := fun V σ => (TOK σ.1 ∧ ZB σ.1 ∧ σ.1 218 23 = σ2.1 218 23 + 1) ∧ (σ.1 218 7 = σ2.1 218 7 ∧ σ.1 218 9 = σ2.1 218 9 ∧ σ.1 218 10 = σ2.1 218 10 ∧ σ.1 218 11 = σ2.1 218 11 ∧ σ.1 218 12 = σ2.1 218 12 ∧ σ.1 218 13 = σ2.1 218 13 ∧ σ.1 218 14 = σ2.1 218 14 ∧ σ.1 218 15 = σ2.1 218 15 ∧ σ.1 218 20 = σ2.1 218 20 ∧ σ.1 218 22 = σ2.1 218 22 ∧ σ.1 218 24 = σ2.1 218 24 ∧ σ.1 218 25 = σ2.1 218 25)) hT (s_X12_pushesEmpty hN (hR.tr hT) (hK) (by rw [hT.2 224 (by decide)]; exact hY) (hB) (by (try simp only [g7_σ2, g9_σ2, g14_σ2, g15_σ2, g20_σ2, g22_σ2, g23_σ2, g24_σ2, g25_σ2]); exact hp)) (by decide) (fun v3 σ4 hOσ4 hT hqv3 => ?_)
  have hqv3 : (TOK σ4.1 ∧ ZB σ4.1 ∧ σ4.1 218 23 = σ2.1 218 23 + 1) ∧ (σ4.1 218 7 = σ2.1 218 7 ∧ σ4.1 218 9 = σ2.1 218 9 ∧ σ4.1 218 10 = σ2.1 218 10 ∧ σ4.1 218 11 = σ2.1 218 11 ∧ σ4.1 218 12 = σ2.1 218 12 ∧ σ4.1 218 13 = σ2.1 218 13 ∧ σ4.1 218 14 = σ2.1 218 14 ∧ σ4.1 218 15 = σ2.1 218 15 ∧ σ4.1 218 20 = σ2.1 218 20 ∧ σ4.1 218 22 = σ2.1 218 22 ∧ σ4.1 218 24 = σ2.1 218 24 ∧ σ4.1 218 25 = σ2.1 218 25) := hqv3
  have hkv3 := hqv3
  have hqv3 := hqv3.1
  have hK : TOK σ4.1 := by first | exact hqv3.1 | exact hqv3.1.1 | exact TOK_p eσ4 (by decide) hK
  have hB : ZB σ4.1 := by first | exact hqv3.2.1 | exact hqv3.2.2.2.2
  try simp only [g7_σ2, g9_σ2, g14_σ2, g15_σ2, g20_σ2, g22_σ2, g23_σ2, g24_σ2, g25_σ2] at hqv3
  have g7_σ4 : σ4.1 218 7 = (σ0.1 218 7) := (hkv3.2.1).trans g7_σ2
  have g9_σ4 : σ4.1 218 9 = (σ0.1 218 9) := (hkv3.2.2.1).trans g9_σ2
  have g10_σ4 : σ4.1 218 10 = (σ2.1 218 10) := hkv3.2.2.2.1
  have g11_σ4 : σ4.1 218 11 = (σ2.1 218 11) := hkv3.2.2.2.2.1
  have g12_σ4 : σ4.1 218 12 = (σ2.1 218 12) := hkv3.2.2.2.2.2.1
  have g13_σ4 : σ4.1 218 13 = (σ2.1 218 13) := hkv3.2.2.2.2.2.2.1
  have g14_σ4 : σ4.1 218 14 = (σ0.1 218 14) := (hkv3.2.2.2.2.2.2.2.1).trans g14_σ2
  have g15_σ4 : σ4.1 218 15 = (σ0.1 218 15) := (hkv3.2.2.2.2.2.2.2.2.1).trans g15_σ2
  have g20_σ4 : σ4.1 218 20 = (σ0.1 218 20) := (hkv3.2.2.2.2.2.2.2.2.2.1).trans g20_σ2
  have g22_σ4 : σ4.1 218 22 = (σ0.1 218 22) := (hkv3.2.2.2.2.2.2.2.2.2.2.1).trans g22_σ2
  have g24_σ4 : σ4.1 218 24 = (σ0.1 218 24) := (hkv3.2.2.2.2.2.2.2.2.2.2.2.1).trans g24_σ2
  have g25_σ4 : σ4.1 218 25 = (σ0.1 218 25) := (hkv3.2.2.2.2.2.2.2.2.2.2.2.2).trans g25_σ2
  have g5 := hqv3.2.2
  have s5 : (σ4.1 218 23).toInt = (σ0.1 218 23).toInt + 1 := by rw [g5, ti_add]; simp only [Int32.reduceToInt]; omega
  refine ok_gIv rfl g12_σ4 ?_
  refine ok_if (fun hc6 => ?_) (fun hc6 => ?_)
  · have k14 : tkK tx n (tkE tx n i) = 125 := pK.2.1.symm.trans hc6
    obtain ⟨p9, hp9⟩ : ∃ p, p = tkE tx n i := ⟨_, rfl⟩
    rw [← hp9] at pK
    have k14p : tkK tx n p9 = 125 := by rw [hp9]; exact k14
    have fa14 : fam tx n x1 i = some (tkE tx n p9) := by rw [hp9]; exact if_pos k14
    refine ok_gC rfl ?_
    refine ok_zbT (Q := fun V σ => (TOK σ.1 ∧ (σ4.1 218 11).toInt ≤ (σ.1 218 11).toInt ∧ (σ.1 218 14 = 0 → (σ4.1 218 14 = 0 ∧ (σ4.1 218 11).toInt < (σ.1 218 11).toInt) ∧ tkK tx n p9 = (125 : Int32) ∧ RX σ.1 tx n (tkE tx n p9)) ∧ (¬ σ.1 218 14 = 0 → σ4.1 218 14 = 0 → ¬ tkK tx n p9 = (125 : Int32))) ∧ (σ.1 218 7 = σ4.1 218 7 ∧ σ.1 218 9 = σ4.1 218 9 ∧ σ.1 218 20 = σ4.1 218 20 ∧ σ.1 218 22 = σ4.1 218 22 ∧ σ.1 218 23 = σ4.1 218 23 ∧ σ.1 218 24 = σ4.1 218 24 ∧ σ.1 218 25 = σ4.1 218 25)) hT (s_X12_needsSign_r hN (hR.tr hT) (hK) (by rw [hT.2 224 (by decide)]; exact hY) (by first | exact fun _ => RX_i g9_σ4 g10_σ4 g11_σ4 g12_σ4 g13_σ4 ((hT.2 224 (by decide)).trans tE) nE pK | exact fun q => absurd q n26) (by decide)) (by decide) (fun v7 σ8 hOσ8 hT hqv7 => ?_)
    have hqv7 : (TOK σ8.1 ∧ (σ4.1 218 11).toInt ≤ (σ8.1 218 11).toInt ∧ (σ8.1 218 14 = 0 → (σ4.1 218 14 = 0 ∧ (σ4.1 218 11).toInt < (σ8.1 218 11).toInt) ∧ tkK tx n p9 = (125 : Int32) ∧ RX σ8.1 tx n (tkE tx n p9)) ∧ (¬ σ8.1 218 14 = 0 → σ4.1 218 14 = 0 → ¬ tkK tx n p9 = (125 : Int32))) ∧ (σ8.1 218 7 = σ4.1 218 7 ∧ σ8.1 218 9 = σ4.1 218 9 ∧ σ8.1 218 20 = σ4.1 218 20 ∧ σ8.1 218 22 = σ4.1 218 22 ∧ σ8.1 218 23 = σ4.1 218 23 ∧ σ8.1 218 24 = σ4.1 218 24 ∧ σ8.1 218 25 = σ4.1 218 25) := hqv7
    have hkv7 := hqv7
    have hqv7 := hqv7.1
    have hK : TOK σ8.1 := by first | exact hqv7.1 | exact hqv7.1.1 | exact TOK_p eσ8 (by decide) hK
    have hB : ZB σ8.1 := ZB.tr hOσ8 (by decide) hB
    try simp only [g7_σ4, g9_σ4, g10_σ4, g11_σ4, g12_σ4, g13_σ4, g14_σ4, g15_σ4, g20_σ4, g22_σ4, g24_σ4, g25_σ4] at hqv7
    have g7_σ8 : σ8.1 218 7 = (σ0.1 218 7) := (hkv7.2.1).trans g7_σ4
    have g9_σ8 : σ8.1 218 9 = (σ0.1 218 9) := (hkv7.2.2.1).trans g9_σ4
    have g20_σ8 : σ8.1 218 20 = (σ0.1 218 20) := (hkv7.2.2.2.1).trans g20_σ4
    have g22_σ8 : σ8.1 218 22 = (σ0.1 218 22) := (hkv7.2.2.2.2.1).trans g22_σ4
    have g23_σ8 : σ8.1 218 23 = (σ4.1 218 23) := hkv7.2.2.2.2.2.1
    have g24_σ8 : σ8.1 218 24 = (σ0.1 218 24) := (hkv7.2.2.2.2.2.2.1).trans g24_σ4
    have g25_σ8 : σ8.1 218 25 = (σ0.1 218 25) := (hkv7.2.2.2.2.2.2.2).trans g25_σ4
    have m53 := hqv7.2.1
    have u53 := hqv7.2.2.1
    have f53 := hqv7.2.2.2
    exact ok_some ⟨hT, (show (TOK σ8.1 ∧ (σ0.1 218 11).toInt ≤ (σ8.1 218 11).toInt ∧ (σ8.1 218 14 = 0 → (σ0.1 218 11).toInt < (σ8.1 218 11).toInt ∧ ∃ j, fam tx n x1 i = some j ∧ RX σ8.1 tx n j) ∧ (¬ σ8.1 218 14 = 0 → fam tx n x1 i = none) ∧ ZB σ8.1 ∧ σ8.1 218 23 = σ0.1 218 23 + 1) ∧ (σ8.1 218 7 = σ0.1 218 7 ∧ σ8.1 218 9 = σ0.1 218 9 ∧ σ8.1 218 20 = σ0.1 218 20 ∧ σ8.1 218 22 = σ0.1 218 22 ∧ σ8.1 218 24 = σ0.1 218 24 ∧ σ8.1 218 25 = σ0.1 218 25) from ⟨by first | exact ⟨hK, by (try simp only [g7_σ8, g9_σ8, g20_σ8, g22_σ8, g23_σ8, g24_σ8, g25_σ8]); omega, fun q => ⟨by (try simp only [g7_σ8, g9_σ8, g20_σ8, g22_σ8, g23_σ8, g24_σ8, g25_σ8]); omega, _, fa14, (u53 q).2.2⟩, fun q => absurd k14p (f53 q hg), hB, (g23_σ8).trans g5⟩ | exact ⟨hK, by (try simp only [g7_σ8, g9_σ8, g20_σ8, g22_σ8, g23_σ8, g24_σ8, g25_σ8]); omega, fun q => ⟨by (try simp only [g7_σ8, g9_σ8, g20_σ8, g22_σ8, g23_σ8, g24_σ8, g25_σ8]); omega, _, fc9.trans (if_pos (u53 q).2.1), (u53 q).2.2⟩, fun q => fc9.trans (if_neg (f53 q y26)), hB, (g23_σ8).trans g5⟩ | exact ⟨hK, by (try simp only [g7_σ8, g9_σ8, g20_σ8, g22_σ8, g23_σ8, g24_σ8, g25_σ8]); omega, fun q => absurd (u53 q).1.1 n26, fun _ => i4 n26, hB, (g23_σ8).trans g5⟩, g7_σ8, g9_σ8, g20_σ8, g22_σ8, g24_σ8, g25_σ8⟩)⟩
  · have hfam : fam tx n x1 i = fmE tx n x1 (tkE tx n i) := if_neg (fun q => hc6 (pK.2.1.trans q))
    refine ok_gC rfl ?_
    refine ok_zbT (Q := fun V σ => (TOK σ.1 ∧ (σ4.1 218 11).toInt ≤ (σ.1 218 11).toInt ∧ (σ.1 218 14 = 0 → ((σ4.1 218 11).toInt < (σ.1 218 11).toInt ∧ mOK tx n (tkE tx n i) x1) ∧ RX σ.1 tx n (tkE tx n (tkE tx n i))) ∧ (¬ σ.1 218 14 = 0 → ¬ mOK tx n (tkE tx n i) x1) ∧ ZB σ.1) ∧ (σ.1 218 7 = σ4.1 218 7 ∧ σ.1 218 9 = σ4.1 218 9 ∧ σ.1 218 20 = σ4.1 218 20 ∧ σ.1 218 22 = σ4.1 218 22 ∧ σ.1 218 23 = σ4.1 218 23 ∧ σ.1 218 24 = σ4.1 218 24 ∧ σ.1 218 25 = σ4.1 218 25)) hT (s_X12_readsSet_r hN (hR.tr hT) (hK) (by rw [hT.2 224 (by decide)]; exact hY) (RX_i g9_σ4 g10_σ4 g11_σ4 g12_σ4 g13_σ4 ((hT.2 224 (by decide)).trans tE) nE pK) (by first | exact (g14_σ4).trans hg | exact (g14_σ4).trans y26) (hB) (hn) (by (try simp only [g7_σ4, g9_σ4, g10_σ4, g11_σ4, g12_σ4, g13_σ4, g14_σ4, g15_σ4, g20_σ4, g22_σ4, g24_σ4, g25_σ4]); omega)) (by decide) (fun v9 σ10 hOσ10 hT hqv9 => ?_)
    have hqv9 : (TOK σ10.1 ∧ (σ4.1 218 11).toInt ≤ (σ10.1 218 11).toInt ∧ (σ10.1 218 14 = 0 → ((σ4.1 218 11).toInt < (σ10.1 218 11).toInt ∧ mOK tx n (tkE tx n i) x1) ∧ RX σ10.1 tx n (tkE tx n (tkE tx n i))) ∧ (¬ σ10.1 218 14 = 0 → ¬ mOK tx n (tkE tx n i) x1) ∧ ZB σ10.1) ∧ (σ10.1 218 7 = σ4.1 218 7 ∧ σ10.1 218 9 = σ4.1 218 9 ∧ σ10.1 218 20 = σ4.1 218 20 ∧ σ10.1 218 22 = σ4.1 218 22 ∧ σ10.1 218 23 = σ4.1 218 23 ∧ σ10.1 218 24 = σ4.1 218 24 ∧ σ10.1 218 25 = σ4.1 218 25) := hqv9
    have hkv9 := hqv9
    have hqv9 := hqv9.1
    have hK : TOK σ10.1 := by first | exact hqv9.1 | exact hqv9.1.1 | exact TOK_p eσ10 (by decide) hK
    have hB : ZB σ10.1 := by first | exact hqv9.2.1 | exact hqv9.2.2.2.2
    try simp only [g7_σ4, g9_σ4, g10_σ4, g11_σ4, g12_σ4, g13_σ4, g14_σ4, g15_σ4, g20_σ4, g22_σ4, g24_σ4, g25_σ4] at hqv9
    have g7_σ10 : σ10.1 218 7 = (σ0.1 218 7) := (hkv9.2.1).trans g7_σ4
    have g9_σ10 : σ10.1 218 9 = (σ0.1 218 9) := (hkv9.2.2.1).trans g9_σ4
    have g20_σ10 : σ10.1 218 20 = (σ0.1 218 20) := (hkv9.2.2.2.1).trans g20_σ4
    have g22_σ10 : σ10.1 218 22 = (σ0.1 218 22) := (hkv9.2.2.2.2.1).trans g22_σ4
    have g23_σ10 : σ10.1 218 23 = (σ4.1 218 23) := hkv9.2.2.2.2.2.1
    have g24_σ10 : σ10.1 218 24 = (σ0.1 218 24) := (hkv9.2.2.2.2.2.2.1).trans g24_σ4
    have g25_σ10 : σ10.1 218 25 = (σ0.1 218 25) := (hkv9.2.2.2.2.2.2.2).trans g25_σ4
    have m19 := hqv9.2.1
    have u19 := hqv9.2.2.1
    have f19 := hqv9.2.2.2.1
    refine ok_lp (fun t : zS => Tr [218, 226] σ0 (t) ∧ ((σ0.1 218 11).toInt < ((t).1 218 11).toInt ∧ (∃ p : Nat, ((t).1 218 14 = 0 → (RX (t).1 tx n p ∧ p ≤ n) ∧ fam tx n x1 i = fmC tx n x1 p)) ∧ (¬ (t).1 218 14 = 0 → fam tx n x1 i = none)) ∧ (TOK (t).1) ∧ (ZB (t).1) ∧ ((t).1 218 7 = (σ0.1 218 7)) ∧ ((t).1 218 9 = (σ0.1 218 9)) ∧ ((t).1 218 20 = (σ0.1 218 20)) ∧ ((t).1 218 22 = (σ0.1 218 22)) ∧ ((t).1 218 23 = (σ4.1 218 23)) ∧ ((t).1 218 24 = (σ0.1 218 24)) ∧ ((t).1 218 25 = (σ0.1 218 25))) (fun t : zS => (600 - ((t).1 218 11).toInt).toNat) (fun again11 t hI ih22_11 => ?_) N _ (show Tr [218, 226] σ0 σ10 ∧ ((σ0.1 218 11).toInt < (σ10.1 218 11).toInt ∧ (∃ p : Nat, (σ10.1 218 14 = 0 → (RX σ10.1 tx n p ∧ p ≤ n) ∧ fam tx n x1 i = fmC tx n x1 p)) ∧ (¬ σ10.1 218 14 = 0 → fam tx n x1 i = none)) ∧ (TOK σ10.1) ∧ (ZB σ10.1) ∧ (σ10.1 218 7 = (σ0.1 218 7)) ∧ (σ10.1 218 9 = (σ0.1 218 9)) ∧ (σ10.1 218 20 = (σ0.1 218 20)) ∧ (σ10.1 218 22 = (σ0.1 218 22)) ∧ (σ10.1 218 23 = (σ4.1 218 23)) ∧ (σ10.1 218 24 = (σ0.1 218 24)) ∧ (σ10.1 218 25 = (σ0.1 218 25)) from ⟨hT, (by exact ⟨by (try simp only [g7_σ10, g9_σ10, g20_σ10, g22_σ10, g23_σ10, g24_σ10, g25_σ10]); omega, ⟨tkE tx n (tkE tx n i), fun q => ⟨⟨(u19 q).2, (tk_le le1).2.2⟩, hfam.trans (fmE_t le1 (u19 q).1.2)⟩⟩, fun q => hfam.trans (fmE_f le1 (f19 q))⟩), hK, hB, g7_σ10, g9_σ10, g20_σ10, g22_σ10, g23_σ10, g24_σ10, g25_σ10⟩) (show (600 - (σ10.1 218 11).toInt).toNat < N from (by omega))
    obtain ⟨σ11, rfl⟩ : ∃ x, x = t := ⟨t, rfl⟩
    have hI : Tr [218, 226] σ0 σ11 ∧ ((σ0.1 218 11).toInt < (σ11.1 218 11).toInt ∧ (∃ p : Nat, (σ11.1 218 14 = 0 → (RX σ11.1 tx n p ∧ p ≤ n) ∧ fam tx n x1 i = fmC tx n x1 p)) ∧ (¬ σ11.1 218 14 = 0 → fam tx n x1 i = none)) ∧ (TOK σ11.1) ∧ (ZB σ11.1) ∧ (σ11.1 218 7 = (σ0.1 218 7)) ∧ (σ11.1 218 9 = (σ0.1 218 9)) ∧ (σ11.1 218 20 = (σ0.1 218 20)) ∧ (σ11.1 218 22 = (σ0.1 218 22)) ∧ (σ11.1 218 23 = (σ4.1 218 23)) ∧ (σ11.1 218 24 = (σ0.1 218 24)) ∧ (σ11.1 218 25 = (σ0.1 218 25)) := hI
    obtain ⟨hT, hI11, hK, hB, g7_σ11, g9_σ11, g20_σ11, g22_σ11, g23_σ11, g24_σ11, g25_σ11⟩ := hI
    rw [F_X12_readsSets_22.eq_1]
    have i1 := hI11.1
    obtain ⟨p9, i3⟩ := hI11.2.1
    have i4 := hI11.2.2
    have hK9 := hK.1
    refine ok_gC rfl ?_
    refine ok_zbX (Q := fun V => (V = 0 → ¬ σ11.1 218 14 = 0) ∧ (¬ V = 0 → σ11.1 218 14 = 0)) (x_X12_good) (fun v12 hqv12 => ?_)
    have hqv12 : (v12 = 0 → ¬ σ11.1 218 14 = 0) ∧ (¬ v12 = 0 → σ11.1 218 14 = 0) := hqv12
    try simp only [g7_σ11, g9_σ11, g20_σ11, g22_σ11, g23_σ11, g24_σ11, g25_σ11, hT.2 224 (by decide)] at hqv12
    refine ok_if (fun hc14 => ?_) (fun hc14 => ?_)
    · have qhc14 := hqv12.1 hc14
      have n26 := qhc14
      refine ok_gC rfl ?_
      refine ok_zbT (Q := fun V σ => (TOK σ.1 ∧ (σ11.1 218 11).toInt ≤ (σ.1 218 11).toInt ∧ (σ.1 218 14 = 0 → (σ11.1 218 14 = 0 ∧ (σ11.1 218 11).toInt < (σ.1 218 11).toInt) ∧ tkK tx n p9 = (125 : Int32) ∧ RX σ.1 tx n (tkE tx n p9)) ∧ (¬ σ.1 218 14 = 0 → σ11.1 218 14 = 0 → ¬ tkK tx n p9 = (125 : Int32))) ∧ (σ.1 218 7 = σ11.1 218 7 ∧ σ.1 218 9 = σ11.1 218 9 ∧ σ.1 218 20 = σ11.1 218 20 ∧ σ.1 218 22 = σ11.1 218 22 ∧ σ.1 218 23 = σ11.1 218 23 ∧ σ.1 218 24 = σ11.1 218 24 ∧ σ.1 218 25 = σ11.1 218 25)) hT (s_X12_needsSign_r hN (hR.tr hT) (hK) (by rw [hT.2 224 (by decide)]; exact hY) (by first | exact fun _ => RX_i g9_σ11 rfl rfl rfl rfl ((hT.2 224 (by decide)).trans tE) nE pK | exact fun q => absurd q n26) (by decide)) (by decide) (fun v15 σ16 hOσ16 hT hqv15 => ?_)
      have hqv15 : (TOK σ16.1 ∧ (σ11.1 218 11).toInt ≤ (σ16.1 218 11).toInt ∧ (σ16.1 218 14 = 0 → (σ11.1 218 14 = 0 ∧ (σ11.1 218 11).toInt < (σ16.1 218 11).toInt) ∧ tkK tx n p9 = (125 : Int32) ∧ RX σ16.1 tx n (tkE tx n p9)) ∧ (¬ σ16.1 218 14 = 0 → σ11.1 218 14 = 0 → ¬ tkK tx n p9 = (125 : Int32))) ∧ (σ16.1 218 7 = σ11.1 218 7 ∧ σ16.1 218 9 = σ11.1 218 9 ∧ σ16.1 218 20 = σ11.1 218 20 ∧ σ16.1 218 22 = σ11.1 218 22 ∧ σ16.1 218 23 = σ11.1 218 23 ∧ σ16.1 218 24 = σ11.1 218 24 ∧ σ16.1 218 25 = σ11.1 218 25) := hqv15
      have hkv15 := hqv15
      have hqv15 := hqv15.1
      have hK : TOK σ16.1 := by first | exact hqv15.1 | exact hqv15.1.1 | exact TOK_p eσ16 (by decide) hK
      have hB : ZB σ16.1 := ZB.tr hOσ16 (by decide) hB
      try simp only [g7_σ11, g9_σ11, g20_σ11, g22_σ11, g23_σ11, g24_σ11, g25_σ11] at hqv15
      have g7_σ16 : σ16.1 218 7 = (σ0.1 218 7) := (hkv15.2.1).trans g7_σ11
      have g9_σ16 : σ16.1 218 9 = (σ0.1 218 9) := (hkv15.2.2.1).trans g9_σ11
      have g20_σ16 : σ16.1 218 20 = (σ0.1 218 20) := (hkv15.2.2.2.1).trans g20_σ11
      have g22_σ16 : σ16.1 218 22 = (σ0.1 218 22) := (hkv15.2.2.2.2.1).trans g22_σ11
      have g23_σ16 : σ16.1 218 23 = (σ4.1 218 23) := (hkv15.2.2.2.2.2.1).trans g23_σ11
      have g24_σ16 : σ16.1 218 24 = (σ0.1 218 24) := (hkv15.2.2.2.2.2.2.1).trans g24_σ11
      have g25_σ16 : σ16.1 218 25 = (σ0.1 218 25) := (hkv15.2.2.2.2.2.2.2).trans g25_σ11
      have m53 := hqv15.2.1
      have u53 := hqv15.2.2.1
      have f53 := hqv15.2.2.2
      exact ok_some ⟨hT, (show (TOK σ16.1 ∧ (σ0.1 218 11).toInt ≤ (σ16.1 218 11).toInt ∧ (σ16.1 218 14 = 0 → (σ0.1 218 11).toInt < (σ16.1 218 11).toInt ∧ ∃ j, fam tx n x1 i = some j ∧ RX σ16.1 tx n j) ∧ (¬ σ16.1 218 14 = 0 → fam tx n x1 i = none) ∧ ZB σ16.1 ∧ σ16.1 218 23 = σ0.1 218 23 + 1) ∧ (σ16.1 218 7 = σ0.1 218 7 ∧ σ16.1 218 9 = σ0.1 218 9 ∧ σ16.1 218 20 = σ0.1 218 20 ∧ σ16.1 218 22 = σ0.1 218 22 ∧ σ16.1 218 24 = σ0.1 218 24 ∧ σ16.1 218 25 = σ0.1 218 25) from ⟨by first | exact ⟨hK, by (try simp only [g7_σ16, g9_σ16, g20_σ16, g22_σ16, g23_σ16, g24_σ16, g25_σ16]); omega, fun q => ⟨by (try simp only [g7_σ16, g9_σ16, g20_σ16, g22_σ16, g23_σ16, g24_σ16, g25_σ16]); omega, _, fa14, (u53 q).2.2⟩, fun q => absurd k14p (f53 q hg), hB, (g23_σ16).trans g5⟩ | exact ⟨hK, by (try simp only [g7_σ16, g9_σ16, g20_σ16, g22_σ16, g23_σ16, g24_σ16, g25_σ16]); omega, fun q => ⟨by (try simp only [g7_σ16, g9_σ16, g20_σ16, g22_σ16, g23_σ16, g24_σ16, g25_σ16]); omega, _, fc9.trans (if_pos (u53 q).2.1), (u53 q).2.2⟩, fun q => fc9.trans (if_neg (f53 q y26)), hB, (g23_σ16).trans g5⟩ | exact ⟨hK, by (try simp only [g7_σ16, g9_σ16, g20_σ16, g22_σ16, g23_σ16, g24_σ16, g25_σ16]); omega, fun q => absurd (u53 q).1.1 n26, fun _ => i4 n26, hB, (g23_σ16).trans g5⟩, g7_σ16, g9_σ16, g20_σ16, g22_σ16, g24_σ16, g25_σ16⟩)⟩
    · have qhc14 := hqv12.2 hc14
      have y26 := qhc14
      have rx9 := (i3 qhc14).1.1
      have lp9 := (i3 qhc14).1.2
      have fa9 := (i3 qhc14).2
      have pK : TKV (σ11.1 218 11) (σ11.1 218 10) (σ11.1 218 12) (σ11.1 218 13) tx n p9 := rx9.2
      refine ok_gI rfl ?_
      refine ok_if (fun hc18 => ?_) (fun hc18 => ?_)
      · have l35 := hK.2.1 (by rw [hc18]; decide)
        have k35 : tkK tx n p9 = 44 := pK.2.1.symm.trans hc18
        have fb9 : fam tx n x1 i = fmE tx n x1 (tkE tx n p9) := fa9.trans (if_pos k35)
        have le9 := (tk_le (t := tx) lp9).2.2
        refine ok_gC rfl ?_
        refine ok_zbT (Q := fun V σ => ((TOK σ.1 ∧ (σ11.1 218 10).toInt ≤ (σ.1 218 11).toInt) ∧ RX σ.1 tx n (tkE tx n p9)) ∧ (σ.1 218 7 = σ11.1 218 7 ∧ σ.1 218 9 = σ11.1 218 9 ∧ σ.1 218 14 = σ11.1 218 14 ∧ σ.1 218 15 = σ11.1 218 15 ∧ σ.1 218 20 = σ11.1 218 20 ∧ σ.1 218 22 = σ11.1 218 22 ∧ σ.1 218 23 = σ11.1 218 23 ∧ σ.1 218 24 = σ11.1 218 24 ∧ σ.1 218 25 = σ11.1 218 25)) hT (s_X12_advance_r hN (hR.tr hT) (TOK_A hK) (by rw [hT.2 224 (by decide)]; exact hY) (RX_i g9_σ11 rfl rfl rfl rfl ((hT.2 224 (by decide)).trans tE) nE pK)) (by decide) (fun v19 σ20 hOσ20 hT hqv19 => ?_)
        have hqv19 : ((TOK σ20.1 ∧ (σ11.1 218 10).toInt ≤ (σ20.1 218 11).toInt) ∧ RX σ20.1 tx n (tkE tx n p9)) ∧ (σ20.1 218 7 = σ11.1 218 7 ∧ σ20.1 218 9 = σ11.1 218 9 ∧ σ20.1 218 14 = σ11.1 218 14 ∧ σ20.1 218 15 = σ11.1 218 15 ∧ σ20.1 218 20 = σ11.1 218 20 ∧ σ20.1 218 22 = σ11.1 218 22 ∧ σ20.1 218 23 = σ11.1 218 23 ∧ σ20.1 218 24 = σ11.1 218 24 ∧ σ20.1 218 25 = σ11.1 218 25) := hqv19
        have hkv19 := hqv19
        have hqv19 := hqv19.1
        have hK : TOK σ20.1 := by first | exact hqv19.1 | exact hqv19.1.1 | exact TOK_p eσ20 (by decide) hK
        have hB : ZB σ20.1 := ZB.tr hOσ20 (by decide) hB
        try simp only [g7_σ11, g9_σ11, g20_σ11, g22_σ11, g23_σ11, g24_σ11, g25_σ11] at hqv19
        have g7_σ20 : σ20.1 218 7 = (σ0.1 218 7) := (hkv19.2.1).trans g7_σ11
        have g9_σ20 : σ20.1 218 9 = (σ0.1 218 9) := (hkv19.2.2.1).trans g9_σ11
        have g14_σ20 : σ20.1 218 14 = (σ11.1 218 14) := hkv19.2.2.2.1
        have g15_σ20 : σ20.1 218 15 = (σ11.1 218 15) := hkv19.2.2.2.2.1
        have g20_σ20 : σ20.1 218 20 = (σ0.1 218 20) := (hkv19.2.2.2.2.2.1).trans g20_σ11
        have g22_σ20 : σ20.1 218 22 = (σ0.1 218 22) := (hkv19.2.2.2.2.2.2.1).trans g22_σ11
        have g23_σ20 : σ20.1 218 23 = (σ4.1 218 23) := (hkv19.2.2.2.2.2.2.2.1).trans g23_σ11
        have g24_σ20 : σ20.1 218 24 = (σ0.1 218 24) := (hkv19.2.2.2.2.2.2.2.2.1).trans g24_σ11
        have g25_σ20 : σ20.1 218 25 = (σ0.1 218 25) := (hkv19.2.2.2.2.2.2.2.2.2).trans g25_σ11
        have m39 := hqv19.1.2
        have pK : TKV (σ20.1 218 11) (σ20.1 218 10) (σ20.1 218 12) (σ20.1 218 13) tx n (tkE tx n p9) := hqv19.2.2
        refine ok_gC rfl ?_
        refine ok_zbT (Q := fun V σ => (TOK σ.1 ∧ (σ20.1 218 11).toInt ≤ (σ.1 218 11).toInt ∧ (σ.1 218 14 = 0 → ((σ20.1 218 11).toInt < (σ.1 218 11).toInt ∧ mOK tx n (tkE tx n p9) x1) ∧ RX σ.1 tx n (tkE tx n (tkE tx n p9))) ∧ (¬ σ.1 218 14 = 0 → ¬ mOK tx n (tkE tx n p9) x1) ∧ ZB σ.1) ∧ (σ.1 218 7 = σ20.1 218 7 ∧ σ.1 218 9 = σ20.1 218 9 ∧ σ.1 218 20 = σ20.1 218 20 ∧ σ.1 218 22 = σ20.1 218 22 ∧ σ.1 218 23 = σ20.1 218 23 ∧ σ.1 218 24 = σ20.1 218 24 ∧ σ.1 218 25 = σ20.1 218 25)) hT (s_X12_readsSet_r hN (hR.tr hT) (hK) (by rw [hT.2 224 (by decide)]; exact hY) (RX_i g9_σ20 rfl rfl rfl rfl ((hT.2 224 (by decide)).trans tE) nE pK) (by first | exact (g14_σ20).trans hg | exact (g14_σ20).trans y26) (hB) (hn) (by (try simp only [g7_σ20, g9_σ20, g14_σ20, g15_σ20, g20_σ20, g22_σ20, g23_σ20, g24_σ20, g25_σ20]); omega)) (by decide) (fun v21 σ22 hOσ22 hT hqv21 => ?_)
        have hqv21 : (TOK σ22.1 ∧ (σ20.1 218 11).toInt ≤ (σ22.1 218 11).toInt ∧ (σ22.1 218 14 = 0 → ((σ20.1 218 11).toInt < (σ22.1 218 11).toInt ∧ mOK tx n (tkE tx n p9) x1) ∧ RX σ22.1 tx n (tkE tx n (tkE tx n p9))) ∧ (¬ σ22.1 218 14 = 0 → ¬ mOK tx n (tkE tx n p9) x1) ∧ ZB σ22.1) ∧ (σ22.1 218 7 = σ20.1 218 7 ∧ σ22.1 218 9 = σ20.1 218 9 ∧ σ22.1 218 20 = σ20.1 218 20 ∧ σ22.1 218 22 = σ20.1 218 22 ∧ σ22.1 218 23 = σ20.1 218 23 ∧ σ22.1 218 24 = σ20.1 218 24 ∧ σ22.1 218 25 = σ20.1 218 25) := hqv21
        have hkv21 := hqv21
        have hqv21 := hqv21.1
        have hK : TOK σ22.1 := by first | exact hqv21.1 | exact hqv21.1.1 | exact TOK_p eσ22 (by decide) hK
        have hB : ZB σ22.1 := by first | exact hqv21.2.1 | exact hqv21.2.2.2.2
        try simp only [g7_σ20, g9_σ20, g14_σ20, g15_σ20, g20_σ20, g22_σ20, g23_σ20, g24_σ20, g25_σ20] at hqv21
        have g7_σ22 : σ22.1 218 7 = (σ0.1 218 7) := (hkv21.2.1).trans g7_σ20
        have g9_σ22 : σ22.1 218 9 = (σ0.1 218 9) := (hkv21.2.2.1).trans g9_σ20
        have g20_σ22 : σ22.1 218 20 = (σ0.1 218 20) := (hkv21.2.2.2.1).trans g20_σ20
        have g22_σ22 : σ22.1 218 22 = (σ0.1 218 22) := (hkv21.2.2.2.2.1).trans g22_σ20
        have g23_σ22 : σ22.1 218 23 = (σ4.1 218 23) := (hkv21.2.2.2.2.2.1).trans g23_σ20
        have g24_σ22 : σ22.1 218 24 = (σ0.1 218 24) := (hkv21.2.2.2.2.2.2.1).trans g24_σ20
        have g25_σ22 : σ22.1 218 25 = (σ0.1 218 25) := (hkv21.2.2.2.2.2.2.2).trans g25_σ20
        have m44 := hqv21.2.1
        have u44 := hqv21.2.2.1
        have f44 := hqv21.2.2.2.1
        exact ih22_11 σ22 (show Tr [218, 226] σ0 σ22 ∧ ((σ0.1 218 11).toInt < (σ22.1 218 11).toInt ∧ (∃ p : Nat, (σ22.1 218 14 = 0 → (RX σ22.1 tx n p ∧ p ≤ n) ∧ fam tx n x1 i = fmC tx n x1 p)) ∧ (¬ σ22.1 218 14 = 0 → fam tx n x1 i = none)) ∧ (TOK σ22.1) ∧ (ZB σ22.1) ∧ (σ22.1 218 7 = (σ0.1 218 7)) ∧ (σ22.1 218 9 = (σ0.1 218 9)) ∧ (σ22.1 218 20 = (σ0.1 218 20)) ∧ (σ22.1 218 22 = (σ0.1 218 22)) ∧ (σ22.1 218 23 = (σ4.1 218 23)) ∧ (σ22.1 218 24 = (σ0.1 218 24)) ∧ (σ22.1 218 25 = (σ0.1 218 25)) from ⟨hT, (by exact ⟨by (try simp only [g7_σ22, g9_σ22, g20_σ22, g22_σ22, g23_σ22, g24_σ22, g25_σ22]); omega, ⟨tkE tx n (tkE tx n p9), fun q => ⟨⟨(u44 q).2, (tk_le le9).2.2⟩, fb9.trans (fmE_t le9 (u44 q).1.2)⟩⟩, fun q => fb9.trans (fmE_f le9 (f44 q))⟩), hK, hB, g7_σ22, g9_σ22, g20_σ22, g22_σ22, g23_σ22, g24_σ22, g25_σ22⟩) (show (600 - (σ22.1 218 11).toInt).toNat < (600 - (σ11.1 218 11).toInt).toNat from (by (try simp only [g7_σ22, g9_σ22, g20_σ22, g22_σ22, g23_σ22, g24_σ22, g25_σ22]); omega))
      · have fc9 := fa9.trans (if_neg (fun q => hc18 (pK.2.1.trans q)))
        refine ok_gC rfl ?_
        refine ok_zbT (Q := fun V σ => (TOK σ.1 ∧ (σ11.1 218 11).toInt ≤ (σ.1 218 11).toInt ∧ (σ.1 218 14 = 0 → (σ11.1 218 14 = 0 ∧ (σ11.1 218 11).toInt < (σ.1 218 11).toInt) ∧ tkK tx n p9 = (125 : Int32) ∧ RX σ.1 tx n (tkE tx n p9)) ∧ (¬ σ.1 218 14 = 0 → σ11.1 218 14 = 0 → ¬ tkK tx n p9 = (125 : Int32))) ∧ (σ.1 218 7 = σ11.1 218 7 ∧ σ.1 218 9 = σ11.1 218 9 ∧ σ.1 218 20 = σ11.1 218 20 ∧ σ.1 218 22 = σ11.1 218 22 ∧ σ.1 218 23 = σ11.1 218 23 ∧ σ.1 218 24 = σ11.1 218 24 ∧ σ.1 218 25 = σ11.1 218 25)) hT (s_X12_needsSign_r hN (hR.tr hT) (hK) (by rw [hT.2 224 (by decide)]; exact hY) (by first | exact fun _ => RX_i g9_σ11 rfl rfl rfl rfl ((hT.2 224 (by decide)).trans tE) nE pK | exact fun q => absurd q n26) (by decide)) (by decide) (fun v23 σ24 hOσ24 hT hqv23 => ?_)
        have hqv23 : (TOK σ24.1 ∧ (σ11.1 218 11).toInt ≤ (σ24.1 218 11).toInt ∧ (σ24.1 218 14 = 0 → (σ11.1 218 14 = 0 ∧ (σ11.1 218 11).toInt < (σ24.1 218 11).toInt) ∧ tkK tx n p9 = (125 : Int32) ∧ RX σ24.1 tx n (tkE tx n p9)) ∧ (¬ σ24.1 218 14 = 0 → σ11.1 218 14 = 0 → ¬ tkK tx n p9 = (125 : Int32))) ∧ (σ24.1 218 7 = σ11.1 218 7 ∧ σ24.1 218 9 = σ11.1 218 9 ∧ σ24.1 218 20 = σ11.1 218 20 ∧ σ24.1 218 22 = σ11.1 218 22 ∧ σ24.1 218 23 = σ11.1 218 23 ∧ σ24.1 218 24 = σ11.1 218 24 ∧ σ24.1 218 25 = σ11.1 218 25) := hqv23
        have hkv23 := hqv23
        have hqv23 := hqv23.1
        have hK : TOK σ24.1 := by first | exact hqv23.1 | exact hqv23.1.1 | exact TOK_p eσ24 (by decide) hK
        have hB : ZB σ24.1 := ZB.tr hOσ24 (by decide) hB
        try simp only [g7_σ11, g9_σ11, g20_σ11, g22_σ11, g23_σ11, g24_σ11, g25_σ11] at hqv23
        have g7_σ24 : σ24.1 218 7 = (σ0.1 218 7) := (hkv23.2.1).trans g7_σ11
        have g9_σ24 : σ24.1 218 9 = (σ0.1 218 9) := (hkv23.2.2.1).trans g9_σ11
        have g20_σ24 : σ24.1 218 20 = (σ0.1 218 20) := (hkv23.2.2.2.1).trans g20_σ11
        have g22_σ24 : σ24.1 218 22 = (σ0.1 218 22) := (hkv23.2.2.2.2.1).trans g22_σ11
        have g23_σ24 : σ24.1 218 23 = (σ4.1 218 23) := (hkv23.2.2.2.2.2.1).trans g23_σ11
        have g24_σ24 : σ24.1 218 24 = (σ0.1 218 24) := (hkv23.2.2.2.2.2.2.1).trans g24_σ11
        have g25_σ24 : σ24.1 218 25 = (σ0.1 218 25) := (hkv23.2.2.2.2.2.2.2).trans g25_σ11
        have m53 := hqv23.2.1
        have u53 := hqv23.2.2.1
        have f53 := hqv23.2.2.2
        exact ok_some ⟨hT, (show (TOK σ24.1 ∧ (σ0.1 218 11).toInt ≤ (σ24.1 218 11).toInt ∧ (σ24.1 218 14 = 0 → (σ0.1 218 11).toInt < (σ24.1 218 11).toInt ∧ ∃ j, fam tx n x1 i = some j ∧ RX σ24.1 tx n j) ∧ (¬ σ24.1 218 14 = 0 → fam tx n x1 i = none) ∧ ZB σ24.1 ∧ σ24.1 218 23 = σ0.1 218 23 + 1) ∧ (σ24.1 218 7 = σ0.1 218 7 ∧ σ24.1 218 9 = σ0.1 218 9 ∧ σ24.1 218 20 = σ0.1 218 20 ∧ σ24.1 218 22 = σ0.1 218 22 ∧ σ24.1 218 24 = σ0.1 218 24 ∧ σ24.1 218 25 = σ0.1 218 25) from ⟨by first | exact ⟨hK, by (try simp only [g7_σ24, g9_σ24, g20_σ24, g22_σ24, g23_σ24, g24_σ24, g25_σ24]); omega, fun q => ⟨by (try simp only [g7_σ24, g9_σ24, g20_σ24, g22_σ24, g23_σ24, g24_σ24, g25_σ24]); omega, _, fa14, (u53 q).2.2⟩, fun q => absurd k14p (f53 q hg), hB, (g23_σ24).trans g5⟩ | exact ⟨hK, by (try simp only [g7_σ24, g9_σ24, g20_σ24, g22_σ24, g23_σ24, g24_σ24, g25_σ24]); omega, fun q => ⟨by (try simp only [g7_σ24, g9_σ24, g20_σ24, g22_σ24, g23_σ24, g24_σ24, g25_σ24]); omega, _, fc9.trans (if_pos (u53 q).2.1), (u53 q).2.2⟩, fun q => fc9.trans (if_neg (f53 q y26)), hB, (g23_σ24).trans g5⟩ | exact ⟨hK, by (try simp only [g7_σ24, g9_σ24, g20_σ24, g22_σ24, g23_σ24, g24_σ24, g25_σ24]); omega, fun q => absurd (u53 q).1.1 n26, fun _ => i4 n26, hB, (g23_σ24).trans g5⟩, g7_σ24, g9_σ24, g20_σ24, g22_σ24, g24_σ24, g25_σ24⟩)⟩
end Zq11_3
section Zq11_4
/-- what stands unclosed, the last first: true a bracket, false a word -/
def lst (g : Nat → Int32) : Nat → List Bool
  | 0 => []
  | n + 1 => if (g n).toInt < 50 then lst g n else (decide (g n = 100)) :: lst g n
def popP : List Bool → List Bool
  | [] => []
  | true :: L => true :: L
  | false :: L => popP L
theorem popP_le : ∀ L : List Bool, (popP L).length ≤ L.length
  | [] => Nat.le_refl _
  | true :: L => Nat.le_refl _
  | false :: L => Nat.le_succ_of_le (popP_le L)
theorem popP_n {L : List Bool} (h : popP (false :: L) = false :: L) : False := by
  have a := popP_le L
  have b := congrArg List.length h
  have c : (popP (false :: L)).length = (popP L).length := rfl
  rw [c, List.length_cons] at b
  omega
/-- no sign waits on an unclosed word -/
def NP (g : Nat → Int32) : Nat → Prop
  | 0 => True
  | n + 1 => NP g n ∧ ((g n).toInt < 50 → popP (lst g n) = lst g n)
theorem NP_le {g : Nat → Int32} : ∀ {n m : Nat}, NP g n → m ≤ n → NP g m
  | 0, m, h, hm => by rw [show m = 0 by omega]; exact h
  | n + 1, m, h, hm => by
    by_cases q : m = n + 1
    · rw [q]; exact h
    · exact NP_le h.1 (by omega)
theorem lst_c {g g' : Nat → Int32} : ∀ {n : Nat}, (∀ k, k < n → g' k = g k) → lst g' n = lst g n
  | 0, _ => rfl
  | n + 1, e => by
    show (if (g' n).toInt < 50 then lst g' n else _ :: lst g' n) = (if (g n).toInt < 50 then lst g n else _ :: lst g n)
    rw [e n (by omega), lst_c (fun k hk => e k (by omega))]
theorem NP_c {g g' : Nat → Int32} : ∀ {n : Nat}, (∀ k, k < n → g' k = g k) → NP g n → NP g' n
  | 0, _, _ => trivial
  | n + 1, e, h => ⟨NP_c (fun k hk => e k (by omega)) h.1, by rw [e n (by omega), lst_c (fun k hk => e k (by omega))]; exact h.2⟩
theorem lst_len {g : Nat → Int32} : ∀ {n b d r : Nat}, Stk g n b d r → (lst g n).length = d
  | 0, b, d, r, h => h.2.1.symm
  | n + 1, b, d, r, h => by
    show (if (g n).toInt < 50 then lst g n else _ :: lst g n).length = d
    rcases h with ⟨hw, _, d', r', e, h⟩ | ⟨hw, _, b', r', e, _, h⟩
    · rw [if_neg (by omega), List.length_cons, lst_len h, e]
    · rw [if_pos (by omega), lst_len h]
theorem lst_s {g : Nat → Int32} {n : Nat} (h : (g n).toInt < 50) : lst g (n + 1) = lst g n := if_pos h
theorem lst_o {g : Nat → Int32} {n : Nat} (h : ¬ (g n).toInt < 50) : lst g (n + 1) = (decide (g n = 100)) :: lst g n := if_neg h
theorem rk3 {w : Int32} (h : ¬ w.toInt < 50) (h2 : ¬ w = 100) : (rkI w).toInt = 3 := by
  unfold rkI
  rw [if_neg h2, if_neg (by rw [Int32.lt_iff_toInt_lt]; simp only [Int32.reduceToInt]; exact h)]
  rfl
/-- one is settled -/
theorem set1 {g : Nat → Int32} {n : Nat} {x : Int} {L0 : List Bool} (hx : 1 ≤ x) (hr : x ≤ (rkI (g n)).toInt) (h1 : popP (lst g (n + 1)) = popP L0) (h2 : popP L0 = L0 → lst g (n + 1) = L0) : popP (lst g n) = popP L0 ∧ (popP L0 = L0 → lst g n = L0) := by
  by_cases a : (g n).toInt < 50
  · rw [lst_s a] at h1 h2; exact ⟨h1, h2⟩
  · have b : ¬ g n = 100 := fun q => by
      rw [q] at hr
      have : (rkI 100).toInt = 0 := by decide
      omega
    rw [lst_o a, decide_eq_false b] at h1 h2
    refine ⟨h1, fun q => ?_⟩
    have e := h2 q
    rw [← e] at q
    exact (popP_n q).elim
/-- none is left to settle -/
theorem set0 {g : Nat → Int32} {a : Int32} {x : Int32} {L0 : List Bool} (hN : NP g a.toInt.toNat) (h0 : 0 ≤ a.toInt) (hx : x.toInt = 3 ∨ popP L0 = L0) (hr : a.toInt ≤ 0 ∨ (rkI (g (a - 1).toNatClampNeg)).toInt < x.toInt) (h1 : popP (lst g a.toInt.toNat) = popP L0) (h2 : popP L0 = L0 → lst g a.toInt.toNat = L0) : lst g a.toInt.toNat = popP L0 := by
  rcases hx with hx | hx
  · rw [← h1]
    by_cases z : a.toInt ≤ 0
    · rw [show a.toInt.toNat = 0 by omega]; rfl
    · have hr := hr.resolve_left z
      obtain ⟨m, hm⟩ : ∃ m, a.toInt.toNat = m + 1 := ⟨a.toInt.toNat - 1, by omega⟩
      have e : (a - 1).toNatClampNeg = m := by
        show (a - 1).toInt.toNat = m
        have := a.toInt_lt
        rw [ti_sub]; simp only [Int32.reduceToInt]; omega
      rw [e] at hr
      rw [hm] at hN ⊢
      by_cases b : (g m).toInt < 50
      · rw [lst_s b]; exact (hN.2 b).symm
      · rw [lst_o b]
        by_cases c : g m = 100
        · rw [decide_eq_true c]; rfl
        · have := rk3 b c
          omega
  · rw [hx]; exact h2 hx
theorem lst_t {g : Nat → Int32} : ∀ {n : Nat}, true ∈ lst g n ↔ ∃ k, k < n ∧ g k = 100
  | 0 => ⟨fun h => absurd h List.not_mem_nil, fun ⟨k, hk, _⟩ => absurd hk (by omega)⟩
  | n + 1 => by
    have ih := lst_t (g := g) (n := n)
    constructor
    · intro h
      by_cases a : (g n).toInt < 50
      · rw [lst_s a] at h
        obtain ⟨k, hk, e⟩ := ih.mp h
        exact ⟨k, by omega, e⟩
      · rw [lst_o a] at h
        rcases List.mem_cons.mp h with q | q
        · exact ⟨n, by omega, of_decide_eq_true q.symm⟩
        · obtain ⟨k, hk, e⟩ := ih.mp q
          exact ⟨k, by omega, e⟩
    · rintro ⟨k, hk, e⟩
      by_cases a : (g n).toInt < 50
      · rw [lst_s a]
        refine ih.mpr ⟨k, ?_, e⟩
        by_cases q : k = n
        · rw [q] at e; rw [e] at a; exact absurd a (by decide)
        · omega
      · rw [lst_o a]
        by_cases q : k = n
        · rw [q] at e; rw [decide_eq_true e]; exact List.mem_cons_self
        · exact List.mem_cons_of_mem _ (ih.mpr ⟨k, by omega, e⟩)

set_option maxHeartbeats 4000000 in
set_option maxRecDepth 100000 in
theorem s_X12_settlesTo_r {N : Nat} (hN : 1048576 ≤ N) {x1 : Int32} {σ0 : zS}  (hR : RF σ0.2.2) (hK : TOK σ0.1) (hY : BYT (σ0.1 224)) (hB : ZB σ0.1) (ha : 0 ≤ (σ0.1 218 20).toInt ∧ (σ0.1 218 20).toInt ≤ 1024) (hP : PIL σ0.1 1) (h1 : 1 ≤ x1.toInt) (hNP : NP (σ0.1 230) (σ0.1 218 22).toInt.toNat) (hx3 : x1.toInt = 3 ∨ popP (lst (σ0.1 230) (σ0.1 218 22).toInt.toNat) = (lst (σ0.1 230) (σ0.1 218 22).toInt.toNat)) : Ok (f_X12_settlesTo N 218 x1 σ0) (fun r => Tr [218, 226, 227, 228, 229] σ0 r.2 ∧ ((TOK r.2.1 ∧ ZB r.2.1 ∧ PIL r.2.1 1 ∧ ((r.2.1 218 22).toInt.toNat ≤ (σ0.1 218 22).toInt.toNat ∧ lst (σ0.1 230) (r.2.1 218 22).toInt.toNat = popP (lst (σ0.1 230) (σ0.1 218 22).toInt.toNat)) ∧ ((r.2.1 218 22).toInt ≤ 0 ∨ (rkI (σ0.1 230 ((r.2.1 218 22) - 1).toNatClampNeg)).toInt < x1.toInt)) ∧ (r.2.1 218 7 = σ0.1 218 7 ∧ r.2.1 218 9 = σ0.1 218 9 ∧ r.2.1 218 10 = σ0.1 218 10 ∧ r.2.1 218 11 = σ0.1 218 11 ∧ r.2.1 218 12 = σ0.1 218 12 ∧ r.2.1 218 13 = σ0.1 218 13 ∧ r.2.1 218 14 = σ0.1 218 14 ∧ r.2.1 218 15 = σ0.1 218 15 ∧ r.2.1 218 20 = σ0.1 218 20 ∧ r.2.1 218 25 = σ0.1 218 25))) := by
  have hT : Tr [218, 226, 227, 228, 229] σ0 σ0 := Tr.rf
  have hK1 := hK.1
  have hb0 := PIL_b hP (by decide)
  rw [f_X12_settlesTo.eq_1]
  refine ok_lp (fun t : zS => Tr [218, 226, 227, 228, 229] σ0 (t) ∧ ((PIL (t).1 1 ∧ ((t).1 218 22).toInt.toNat ≤ (σ0.1 218 22).toInt.toNat) ∧ popP (lst (σ0.1 230) ((t).1 218 22).toInt.toNat) = popP (lst (σ0.1 230) (σ0.1 218 22).toInt.toNat) ∧ (popP (lst (σ0.1 230) (σ0.1 218 22).toInt.toNat) = (lst (σ0.1 230) (σ0.1 218 22).toInt.toNat) → lst (σ0.1 230) ((t).1 218 22).toInt.toNat = (lst (σ0.1 230) (σ0.1 218 22).toInt.toNat))) ∧ (TOK (t).1) ∧ (ZB (t).1) ∧ ((t).1 218 7 = (σ0.1 218 7)) ∧ ((t).1 218 9 = (σ0.1 218 9)) ∧ ((t).1 218 10 = (σ0.1 218 10)) ∧ ((t).1 218 11 = (σ0.1 218 11)) ∧ ((t).1 218 12 = (σ0.1 218 12)) ∧ ((t).1 218 13 = (σ0.1 218 13)) ∧ ((t).1 218 14 = (σ0.1 218 14)) ∧ ((t).1 218 15 = (σ0.1 218 15)) ∧ ((t).1 218 20 = (σ0.1 218 20)) ∧ ((t).1 218 25 = (σ0.1 218 25))) (fun t : zS => ((t).1 218 22).toInt.toNat) (fun again1 t hI ih0_1 => ?_) N _ (show Tr [218, 226, 227, 228, 229] σ0 σ0 ∧ ((PIL σ0.1 1 ∧ (σ0.1 218 22).toInt.toNat ≤ (σ0.1 218 22).toInt.toNat) ∧ popP (lst (σ0.1 230) (σ0.1 218 22).toInt.toNat) = popP (lst (σ0.1 230) (σ0.1 218 22).toInt.toNat) ∧ (popP (lst (σ0.1 230) (σ0.1 218 22).toInt.toNat) = (lst (σ0.1 230) (σ0.1 218 22).toInt.toNat) → lst (σ0.1 230) (σ0.1 218 22).toInt.toNat = (lst (σ0.1 230) (σ0.1 218 22).toInt.toNat))) ∧ (TOK σ0.1) ∧ (ZB σ0.1) ∧ (σ0.1 218 7 = (σ0.1 218 7)) ∧ (σ0.1 218 9 = (σ0.1 218 9)) ∧ (σ0.1 218 10 = (σ0.1 218 10)) ∧ (σ0.1 218 11 = (σ0.1 218 11)) ∧ (σ0.1 218 12 = (σ0.1 218 12)) ∧ (σ0.1 218 13 = (σ0.1 218 13)) ∧ (σ0.1 218 14 = (σ0.1 218 14)) ∧ (σ0.1 218 15 = (σ0.1 218 15)) ∧ (σ0.1 218 20 = (σ0.1 218 20)) ∧ (σ0.1 218 25 = (σ0.1 218 25)) from ⟨hT, (by exact ⟨⟨hP, Nat.le_refl _⟩, rfl, fun _ => rfl⟩), hK, hB, rfl, rfl, rfl, rfl, rfl, rfl, rfl, rfl, rfl, rfl⟩) (show (σ0.1 218 22).toInt.toNat < N from (by omega))
  obtain ⟨σ1, rfl⟩ : ∃ x, x = t := ⟨t, rfl⟩
  have hI : Tr [218, 226, 227, 228, 229] σ0 σ1 ∧ ((PIL σ1.1 1 ∧ (σ1.1 218 22).toInt.toNat ≤ (σ0.1 218 22).toInt.toNat) ∧ popP (lst (σ0.1 230) (σ1.1 218 22).toInt.toNat) = popP (lst (σ0.1 230) (σ0.1 218 22).toInt.toNat) ∧ (popP (lst (σ0.1 230) (σ0.1 218 22).toInt.toNat) = (lst (σ0.1 230) (σ0.1 218 22).toInt.toNat) → lst (σ0.1 230) (σ1.1 218 22).toInt.toNat = (lst (σ0.1 230) (σ0.1 218 22).toInt.toNat))) ∧ (TOK σ1.1) ∧ (ZB σ1.1) ∧ (σ1.1 218 7 = (σ0.1 218 7)) ∧ (σ1.1 218 9 = (σ0.1 218 9)) ∧ (σ1.1 218 10 = (σ0.1 218 10)) ∧ (σ1.1 218 11 = (σ0.1 218 11)) ∧ (σ1.1 218 12 = (σ0.1 218 12)) ∧ (σ1.1 218 13 = (σ0.1 218 13)) ∧ (σ1.1 218 14 = (σ0.1 218 14)) ∧ (σ1.1 218 15 = (σ0.1 218 15)) ∧ (σ1.1 218 20 = (σ0.1 218 20)) ∧ (σ1.1 218 25 = (σ0.1 218 25)) := hI
  obtain ⟨hT, hI1, hK, hB, g7_σ1, g9_σ1, g10_σ1, g11_σ1, g12_σ1, g13_σ1, g14_σ1, g15_σ1, g20_σ1, g25_σ1⟩ := hI
  rw [F_X12_settlesTo_0.eq_1]
  have hP := hI1.1.1
  have hle := hI1.1.2
  have p0 := hI1.2.1
  have p1 := hI1.2.2
  have hb9 := PIL_b hI1.1.1 (by decide)
  refine ok_gI rfl ?_
  refine ok_if (fun hc3 => ?_) (fun hc3 => ?_)
  · have w9 := hc3
    rw [Int32.le_iff_toInt_le] at w9
    simp only [Int32.reduceToInt] at w9
    exact ok_some ⟨hT, (show (TOK σ1.1 ∧ ZB σ1.1 ∧ PIL σ1.1 1 ∧ ((σ1.1 218 22).toInt.toNat ≤ (σ0.1 218 22).toInt.toNat ∧ lst (σ0.1 230) (σ1.1 218 22).toInt.toNat = popP (lst (σ0.1 230) (σ0.1 218 22).toInt.toNat)) ∧ ((σ1.1 218 22).toInt ≤ 0 ∨ (rkI (σ0.1 230 ((σ1.1 218 22) - 1).toNatClampNeg)).toInt < x1.toInt)) ∧ (σ1.1 218 7 = σ0.1 218 7 ∧ σ1.1 218 9 = σ0.1 218 9 ∧ σ1.1 218 10 = σ0.1 218 10 ∧ σ1.1 218 11 = σ0.1 218 11 ∧ σ1.1 218 12 = σ0.1 218 12 ∧ σ1.1 218 13 = σ0.1 218 13 ∧ σ1.1 218 14 = σ0.1 218 14 ∧ σ1.1 218 15 = σ0.1 218 15 ∧ σ1.1 218 20 = σ0.1 218 20 ∧ σ1.1 218 25 = σ0.1 218 25) from ⟨by first | exact ⟨hK, hB, hP, ⟨hle, set0 (NP_le hNP hle) (by omega) hx3 (Or.inl w9) p0 p1⟩, Or.inl w9⟩ | exact ⟨hK, hB, hP, ⟨hle, set0 (NP_le hNP hle) (by omega) hx3 (Or.inr x9) p0 p1⟩, Or.inr x9⟩, g7_σ1, g9_σ1, g10_σ1, g11_σ1, g12_σ1, g13_σ1, g14_σ1, g15_σ1, g20_σ1, g25_σ1⟩)⟩
  · have w9 := hc3
    rw [Int32.le_iff_toInt_le] at w9
    simp only [Int32.reduceToInt] at w9
    have s22 : ((σ1.1 218 22) - 1).toInt = (σ1.1 218 22).toInt - 1 := by rw [ti_sub]; simp only [Int32.reduceToInt]; omega
    obtain ⟨m9, hm9⟩ : ∃ m : Nat, (σ1.1 218 22).toInt.toNat = m + 1 := ⟨(σ1.1 218 22).toInt.toNat - 1, by omega⟩
    have i22 : ((σ1.1 218 22) - 1).toNatClampNeg = m9 := by show ((σ1.1 218 22) - 1).toInt.toNat = m9; rw [s22]; omega
    refine ok_gR (v := 230) hT rfl (hR 218 21 rfl) ?_
    refine ok_gI rfl ?_
    refine ok_aIn rfl (by rw [s22]; omega) (by rw [s22]; omega) (fun v6 ev6 => ?_)
    have ev17 := ev6
    rw [hT.2 230 (by decide)] at ev17
    refine ok_zbX (Q := fun V => V = rkI v6) (x_X12_rank) (fun v7 hqv7 => ?_)
    have hqv7 : v7 = rkI v6 := hqv7
    try simp only [g7_σ1, g9_σ1, g10_σ1, g11_σ1, g12_σ1, g13_σ1, g14_σ1, g15_σ1, g20_σ1, g25_σ1, hT.2 224 (by decide)] at hqv7
    refine ok_if (fun hc9 => ?_) (fun hc9 => ?_)
    · have x9 := hc9
      rw [hqv7, ev17, Int32.lt_iff_toInt_lt] at x9
      exact ok_some ⟨hT, (show (TOK σ1.1 ∧ ZB σ1.1 ∧ PIL σ1.1 1 ∧ ((σ1.1 218 22).toInt.toNat ≤ (σ0.1 218 22).toInt.toNat ∧ lst (σ0.1 230) (σ1.1 218 22).toInt.toNat = popP (lst (σ0.1 230) (σ0.1 218 22).toInt.toNat)) ∧ ((σ1.1 218 22).toInt ≤ 0 ∨ (rkI (σ0.1 230 ((σ1.1 218 22) - 1).toNatClampNeg)).toInt < x1.toInt)) ∧ (σ1.1 218 7 = σ0.1 218 7 ∧ σ1.1 218 9 = σ0.1 218 9 ∧ σ1.1 218 10 = σ0.1 218 10 ∧ σ1.1 218 11 = σ0.1 218 11 ∧ σ1.1 218 12 = σ0.1 218 12 ∧ σ1.1 218 13 = σ0.1 218 13 ∧ σ1.1 218 14 = σ0.1 218 14 ∧ σ1.1 218 15 = σ0.1 218 15 ∧ σ1.1 218 20 = σ0.1 218 20 ∧ σ1.1 218 25 = σ0.1 218 25) from ⟨by first | exact ⟨hK, hB, hP, ⟨hle, set0 (NP_le hNP hle) (by omega) hx3 (Or.inl w9) p0 p1⟩, Or.inl w9⟩ | exact ⟨hK, hB, hP, ⟨hle, set0 (NP_le hNP hle) (by omega) hx3 (Or.inr x9) p0 p1⟩, Or.inr x9⟩, g7_σ1, g9_σ1, g10_σ1, g11_σ1, g12_σ1, g13_σ1, g14_σ1, g15_σ1, g20_σ1, g25_σ1⟩)⟩
    · have x9 := hc9
      rw [hqv7, ev17, Int32.lt_iff_toInt_lt] at x9
      have x9 := Int.not_lt.mp x9
      rw [i22] at x9
      refine ok_gC rfl ?_
      refine ok_zbT (Q := fun V σ => (TOK σ.1 ∧ ZB σ.1 ∧ PIL σ.1 1 ∧ (σ.1 218 22).toInt = (σ1.1 218 22).toInt - 1) ∧ (σ.1 218 7 = σ1.1 218 7 ∧ σ.1 218 9 = σ1.1 218 9 ∧ σ.1 218 10 = σ1.1 218 10 ∧ σ.1 218 11 = σ1.1 218 11 ∧ σ.1 218 12 = σ1.1 218 12 ∧ σ.1 218 13 = σ1.1 218 13 ∧ σ.1 218 14 = σ1.1 218 14 ∧ σ.1 218 15 = σ1.1 218 15 ∧ σ.1 218 20 = σ1.1 218 20 ∧ σ.1 218 25 = σ1.1 218 25)) hT (s_X12_settles hN (hR.tr hT) (hK) (by rw [hT.2 224 (by decide)]; exact hY) (hB) (by (try simp only [g7_σ1, g9_σ1, g10_σ1, g11_σ1, g12_σ1, g13_σ1, g14_σ1, g15_σ1, g20_σ1, g25_σ1]); exact ha) (hP) (by omega)) (by decide) (fun v10 σ11 hOσ11 hT hqv10 => ?_)
      have hqv10 : (TOK σ11.1 ∧ ZB σ11.1 ∧ PIL σ11.1 1 ∧ (σ11.1 218 22).toInt = (σ1.1 218 22).toInt - 1) ∧ (σ11.1 218 7 = σ1.1 218 7 ∧ σ11.1 218 9 = σ1.1 218 9 ∧ σ11.1 218 10 = σ1.1 218 10 ∧ σ11.1 218 11 = σ1.1 218 11 ∧ σ11.1 218 12 = σ1.1 218 12 ∧ σ11.1 218 13 = σ1.1 218 13 ∧ σ11.1 218 14 = σ1.1 218 14 ∧ σ11.1 218 15 = σ1.1 218 15 ∧ σ11.1 218 20 = σ1.1 218 20 ∧ σ11.1 218 25 = σ1.1 218 25) := hqv10
      have hkv10 := hqv10
      have hqv10 := hqv10.1
      have hK : TOK σ11.1 := by first | exact hqv10.1 | exact TOK_p eσ11 (by decide) hK
      have hB : ZB σ11.1 := hqv10.2.1
      try simp only [g7_σ1, g9_σ1, g10_σ1, g11_σ1, g12_σ1, g13_σ1, g14_σ1, g15_σ1, g20_σ1, g25_σ1] at hqv10
      have g7_σ11 : σ11.1 218 7 = (σ0.1 218 7) := (hkv10.2.1).trans g7_σ1
      have g9_σ11 : σ11.1 218 9 = (σ0.1 218 9) := (hkv10.2.2.1).trans g9_σ1
      have g10_σ11 : σ11.1 218 10 = (σ0.1 218 10) := (hkv10.2.2.2.1).trans g10_σ1
      have g11_σ11 : σ11.1 218 11 = (σ0.1 218 11) := (hkv10.2.2.2.2.1).trans g11_σ1
      have g12_σ11 : σ11.1 218 12 = (σ0.1 218 12) := (hkv10.2.2.2.2.2.1).trans g12_σ1
      have g13_σ11 : σ11.1 218 13 = (σ0.1 218 13) := (hkv10.2.2.2.2.2.2.1).trans g13_σ1
      have g14_σ11 : σ11.1 218 14 = (σ0.1 218 14) := (hkv10.2.2.2.2.2.2.2.1).trans g14_σ1
      have g15_σ11 : σ11.1 218 15 = (σ0.1 218 15) := (hkv10.2.2.2.2.2.2.2.2.1).trans g15_σ1
      have g20_σ11 : σ11.1 218 20 = (σ0.1 218 20) := (hkv10.2.2.2.2.2.2.2.2.2.1).trans g20_σ1
      have g25_σ11 : σ11.1 218 25 = (σ0.1 218 25) := (hkv10.2.2.2.2.2.2.2.2.2.2).trans g25_σ1
      have hP := hqv10.2.2.1
      have w26 := hqv10.2.2.2
      have n26 : (σ11.1 218 22).toInt.toNat = m9 := by omega
      have hle : (σ11.1 218 22).toInt.toNat ≤ (σ0.1 218 22).toInt.toNat := by omega
      have s26 := set1 h1 x9 (hm9 ▸ p0) (fun q => hm9 ▸ p1 q)
      exact ih0_1 σ11 (show Tr [218, 226, 227, 228, 229] σ0 σ11 ∧ ((PIL σ11.1 1 ∧ (σ11.1 218 22).toInt.toNat ≤ (σ0.1 218 22).toInt.toNat) ∧ popP (lst (σ0.1 230) (σ11.1 218 22).toInt.toNat) = popP (lst (σ0.1 230) (σ0.1 218 22).toInt.toNat) ∧ (popP (lst (σ0.1 230) (σ0.1 218 22).toInt.toNat) = (lst (σ0.1 230) (σ0.1 218 22).toInt.toNat) → lst (σ0.1 230) (σ11.1 218 22).toInt.toNat = (lst (σ0.1 230) (σ0.1 218 22).toInt.toNat))) ∧ (TOK σ11.1) ∧ (ZB σ11.1) ∧ (σ11.1 218 7 = (σ0.1 218 7)) ∧ (σ11.1 218 9 = (σ0.1 218 9)) ∧ (σ11.1 218 10 = (σ0.1 218 10)) ∧ (σ11.1 218 11 = (σ0.1 218 11)) ∧ (σ11.1 218 12 = (σ0.1 218 12)) ∧ (σ11.1 218 13 = (σ0.1 218 13)) ∧ (σ11.1 218 14 = (σ0.1 218 14)) ∧ (σ11.1 218 15 = (σ0.1 218 15)) ∧ (σ11.1 218 20 = (σ0.1 218 20)) ∧ (σ11.1 218 25 = (σ0.1 218 25)) from ⟨hT, (by exact ⟨⟨hP, hle⟩, by rw [n26]; exact s26⟩), hK, hB, g7_σ11, g9_σ11, g10_σ11, g11_σ11, g12_σ11, g13_σ11, g14_σ11, g15_σ11, g20_σ11, g25_σ11⟩) (show (σ11.1 218 22).toInt.toNat < (σ1.1 218 22).toInt.toNat from (by omega))
end Zq11_4
section Zq11_5
/-- a word that opens stands at i -/
def isPx (t : Nat → Int32) (n i : Nat) : Prop := ∃ k, k < 6 ∧ isW t n i (16 + k)
theorem xe_X12_prefixOf {N : Nat} {σ : zS} {t : Nat → Int32} {n i : Nat} (hN : 1048576 ≤ N) (hR : RF σ.2.2) (hK : TOK σ.1) (hg : σ.1 218 14 = 0) (hG : RX σ.1 t n i) : Ok (f_X12_prefixOf N 218 σ) (fun r => r.2 = σ ∧ ((r.1 = -1 ∧ ¬ isPx t n i) ∨ ((0 ≤ r.1.toInt ∧ r.1.toInt ≤ 5) ∧ isPx t n i))) := by
  have z := fun w (hw : w < zSn) => xe_X12_is (w := w) hN hR hw hK hg hG
  rw [f_X12_prefixOf.eq_1]
  refine ok_gC rfl (ok_zbX (Q := fun v => (v = 0 → ¬ isW t n i 16) ∧ (¬ v = 0 → isW t n i 16)) (z 16 (by decide)) (fun v h0 => ok_if (fun e0 => ?_) (fun e0 => ok_some ⟨rfl, Or.inr ⟨(by decide : 0 ≤ (0 : Int32).toInt ∧ (0 : Int32).toInt ≤ 5), 0, by decide, h0.2 e0⟩⟩)))
  refine ok_gC rfl (ok_zbX (Q := fun v => (v = 0 → ¬ isW t n i 17) ∧ (¬ v = 0 → isW t n i 17)) (z 17 (by decide)) (fun v h1 => ok_if (fun e1 => ?_) (fun e1 => ok_some ⟨rfl, Or.inr ⟨(by decide : 0 ≤ (1 : Int32).toInt ∧ (1 : Int32).toInt ≤ 5), 1, by decide, h1.2 e1⟩⟩)))
  refine ok_gC rfl (ok_zbX (Q := fun v => (v = 0 → ¬ isW t n i 18) ∧ (¬ v = 0 → isW t n i 18)) (z 18 (by decide)) (fun v h2 => ok_if (fun e2 => ?_) (fun e2 => ok_some ⟨rfl, Or.inr ⟨(by decide : 0 ≤ (2 : Int32).toInt ∧ (2 : Int32).toInt ≤ 5), 2, by decide, h2.2 e2⟩⟩)))
  refine ok_gC rfl (ok_zbX (Q := fun v => (v = 0 → ¬ isW t n i 19) ∧ (¬ v = 0 → isW t n i 19)) (z 19 (by decide)) (fun v h3 => ok_if (fun e3 => ?_) (fun e3 => ok_some ⟨rfl, Or.inr ⟨(by decide : 0 ≤ (3 : Int32).toInt ∧ (3 : Int32).toInt ≤ 5), 3, by decide, h3.2 e3⟩⟩)))
  refine ok_gC rfl (ok_zbX (Q := fun v => (v = 0 → ¬ isW t n i 20) ∧ (¬ v = 0 → isW t n i 20)) (z 20 (by decide)) (fun v h4 => ok_if (fun e4 => ?_) (fun e4 => ok_some ⟨rfl, Or.inr ⟨(by decide : 0 ≤ (4 : Int32).toInt ∧ (4 : Int32).toInt ≤ 5), 4, by decide, h4.2 e4⟩⟩)))
  refine ok_gC rfl (ok_zbX (Q := fun v => (v = 0 → ¬ isW t n i 21) ∧ (¬ v = 0 → isW t n i 21)) (z 21 (by decide)) (fun v h5 => ok_if (fun e5 => ok_some ⟨rfl, Or.inl ⟨rfl, fun q => ?_⟩⟩) (fun e5 => ok_some ⟨rfl, Or.inr ⟨(by decide : 0 ≤ (5 : Int32).toInt ∧ (5 : Int32).toInt ≤ 5), 5, by decide, h5.2 e5⟩⟩)))
  obtain ⟨k, hk, hw⟩ := q
  rcases (show k = 0 ∨ k = 1 ∨ k = 2 ∨ k = 3 ∨ k = 4 ∨ k = 5 by omega) with rfl | rfl | rfl | rfl | rfl | rfl
  · exact h0.1 e0 hw
  · exact h1.1 e1 hw
  · exact h2.1 e2 hw
  · exact h3.1 e3 hw
  · exact h4.1 e4 hw
  · exact h5.1 e5 hw
/-- the seven signs -/
def isCb (c : Int32) : Prop := c = 43 ∨ c = 45 ∨ c = 38 ∨ c = 42 ∨ c = 47 ∨ c = 37 ∨ c = 35
theorem xe_X12_signOf {N : Nat} {x0 : Int32} {σ : zS} : Ok (f_X12_signOf N x0 σ) (fun r => r.2 = σ ∧ ((r.1 = -1 ∧ ¬ isCb x0) ∨ ((0 ≤ r.1.toInt ∧ r.1.toInt ≤ 6) ∧ isCb x0))) := by
  rw [f_X12_signOf.eq_1]
  unfold isCb
  refine ok_if (fun h => ok_some ⟨rfl, Or.inr ⟨(by decide : 0 ≤ (0 : Int32).toInt ∧ (0 : Int32).toInt ≤ 6), by simp only [h, true_or]⟩⟩) (fun h0 => ?_)
  refine ok_if (fun h => ok_some ⟨rfl, Or.inr ⟨(by decide : 0 ≤ (1 : Int32).toInt ∧ (1 : Int32).toInt ≤ 6), by simp only [h, true_or, or_true]⟩⟩) (fun h1 => ?_)
  refine ok_if (fun h => ok_some ⟨rfl, Or.inr ⟨(by decide : 0 ≤ (2 : Int32).toInt ∧ (2 : Int32).toInt ≤ 6), by simp only [h, true_or, or_true]⟩⟩) (fun h2 => ?_)
  refine ok_if (fun h => ok_some ⟨rfl, Or.inr ⟨(by decide : 0 ≤ (3 : Int32).toInt ∧ (3 : Int32).toInt ≤ 6), by simp only [h, true_or, or_true]⟩⟩) (fun h3 => ?_)
  refine ok_if (fun h => ok_some ⟨rfl, Or.inr ⟨(by decide : 0 ≤ (4 : Int32).toInt ∧ (4 : Int32).toInt ≤ 6), by simp only [h, true_or, or_true]⟩⟩) (fun h4 => ?_)
  refine ok_if (fun h => ok_some ⟨rfl, Or.inr ⟨(by decide : 0 ≤ (5 : Int32).toInt ∧ (5 : Int32).toInt ≤ 6), by simp only [h, true_or, or_true]⟩⟩) (fun h5 => ?_)
  exact ok_if (fun h => ok_some ⟨rfl, Or.inr ⟨(by decide : 0 ≤ (6 : Int32).toInt ∧ (6 : Int32).toInt ≤ 6), by simp only [h, or_true]⟩⟩) (fun h6 => ok_some ⟨rfl, Or.inl ⟨rfl, by simp only [h0, h1, h2, h3, h4, h5, h6, or_self, not_false_eq_true]⟩⟩)
abbrev Cf : Type := Nat × Bool × List Bool × Nat
/-- one step of the reading of a sum: none a fault, some none the end -/
noncomputable def stp (t : Nat → Int32) (n : Nat) (m : Int32) (c : Cf) : Option (Option Cf) := by
  classical exact (if c.2.1 = false then
    (if isPx t n c.1 ∨ tkK t n c.1 = 40 then (if c.2.2.1.length = 6 then none else some (some (tkE t n c.1, false, decide (tkK t n c.1 = 40) :: c.2.2.1, c.2.2.2)))
    else if tkK t n c.1 = 2 then (if nOK t n c.1 0 9 then some (some (tkE t n c.1, true, popP c.2.2.1, c.2.2.2)) else none)
    else if tkK t n c.1 = 123 then (fam t n m c.1).map (fun j => some (j, true, popP c.2.2.1, c.2.2.2))
    else if isW t n c.1 15 then some (some (tkE t n c.1, true, popP c.2.2.1, c.2.2.2)) else none)
  else (if isCb (tkK t n c.1) then (if c.2.2.2 = 24 then none else some (some (tkE t n c.1, false, c.2.2.1, c.2.2.2 + 1)))
    else if tkK t n c.1 = 41 ∧ true ∈ c.2.2.1 then some (some (tkE t n c.1, true, popP c.2.2.1.tail, c.2.2.2)) else some none))
noncomputable def itk (t : Nat → Int32) (n : Nat) (m : Int32) : Nat → Cf → Option Cf
  | 0, c => some c
  | k + 1, c => (stp t n m c).bind (fun o => o.bind (fun c1 => itk t n m k c1))
def Rch (t : Nat → Int32) (n : Nat) (m : Int32) (c d : Cf) : Prop := ∃ k, itk t n m k c = some d
theorem Rch.rf {t : Nat → Int32} {n : Nat} {m : Int32} {c : Cf} : Rch t n m c c := ⟨0, rfl⟩
theorem Rch.st {t : Nat → Int32} {n : Nat} {m : Int32} {c d e : Cf} (h : stp t n m c = some (some d)) (h2 : Rch t n m d e) : Rch t n m c e := by
  obtain ⟨k, hk⟩ := h2
  refine ⟨k + 1, ?_⟩
  show (stp t n m c).bind (fun o => o.bind (fun c1 => itk t n m k c1)) = some e
  rw [h]; exact hk
theorem itk_tr {t : Nat → Int32} {n : Nat} {m : Int32} : ∀ {k l : Nat} {c d e : Cf}, itk t n m k c = some d → itk t n m l d = some e → itk t n m (k + l) c = some e
  | 0, l, c, d, e, h, h2 => by
    have : c = d := Option.some.inj h
    rw [this, Nat.zero_add]; exact h2
  | k + 1, l, c, d, e, h, h2 => by
    have h : (stp t n m c).bind (fun o => o.bind (fun c1 => itk t n m k c1)) = some d := h
    obtain ⟨o, ho, h⟩ := Option.bind_eq_some_iff.mp h
    obtain ⟨c1, hc, h⟩ := Option.bind_eq_some_iff.mp h
    rw [show k + 1 + l = (k + l) + 1 by omega]
    show (stp t n m c).bind (fun o => o.bind (fun c1 => itk t n m (k + l) c1)) = some e
    rw [ho, hc]
    exact itk_tr h h2
theorem Rch.tr {t : Nat → Int32} {n : Nat} {m : Int32} {c d e : Cf} (h : Rch t n m c d) (h2 : Rch t n m d e) : Rch t n m c e := by
  obtain ⟨k, hk⟩ := h
  obtain ⟨l, hl⟩ := h2
  exact ⟨k + l, itk_tr hk hl⟩
theorem Rch.sn {t : Nat → Int32} {n : Nat} {m : Int32} {c d e : Cf} (h : Rch t n m c d) (h2 : stp t n m d = some (some e)) : Rch t n m c e := h.tr (Rch.st h2 Rch.rf)
/-- of two roads from one place one goes on the other -/
theorem itk_det {t : Nat → Int32} {n : Nat} {m : Int32} : ∀ {k l : Nat} {c d e : Cf}, itk t n m k c = some d → itk t n m l c = some e → Rch t n m d e ∨ Rch t n m e d
  | 0, l, c, d, e, h, h2 => by
    have : c = d := Option.some.inj h
    rw [← this]; exact Or.inl ⟨l, h2⟩
  | k + 1, 0, c, d, e, h, h2 => by
    have : c = e := Option.some.inj h2
    rw [← this]; exact Or.inr ⟨k + 1, h⟩
  | k + 1, l + 1, c, d, e, h, h2 => by
    have h : (stp t n m c).bind (fun o => o.bind (fun c1 => itk t n m k c1)) = some d := h
    have h2 : (stp t n m c).bind (fun o => o.bind (fun c1 => itk t n m l c1)) = some e := h2
    obtain ⟨o, ho, h⟩ := Option.bind_eq_some_iff.mp h
    obtain ⟨c1, hc, h⟩ := Option.bind_eq_some_iff.mp h
    rw [ho, hc] at h2
    exact itk_det h h2
theorem Rch.e1 {t : Nat → Int32} {n : Nat} {m : Int32} {c d : Cf} (h : Rch t n m c d) (h2 : ∀ e, ¬ stp t n m c = some (some e)) : d = c := by
  obtain ⟨k, hk⟩ := h
  cases k with
  | zero => exact (Option.some.inj hk).symm
  | succ k =>
    have hk : (stp t n m c).bind (fun o => o.bind (fun c1 => itk t n m k c1)) = some d := hk
    obtain ⟨o, ho, hk⟩ := Option.bind_eq_some_iff.mp hk
    obtain ⟨c1, hc, hk⟩ := Option.bind_eq_some_iff.mp hk
    rw [hc] at ho
    exact absurd ho (h2 c1)
/-- two ends of one road are one -/
theorem Rch.un {t : Nat → Int32} {n : Nat} {m : Int32} {c d e : Cf} (h : Rch t n m c d) (h2 : Rch t n m c e) (hd : ∀ x, ¬ stp t n m d = some (some x)) (he : ∀ x, ¬ stp t n m e = some (some x)) : d = e := by
  obtain ⟨k, hk⟩ := h
  obtain ⟨l, hl⟩ := h2
  rcases itk_det hk hl with q | q
  · exact (q.e1 hd).symm
  · exact q.e1 he
end Zq11_5
section Zq11_6
set_option maxHeartbeats 4000000 in
set_option maxRecDepth 100000 in
theorem s_X12_opens_r {N : Nat} (hN : 1048576 ≤ N) {x1 : Int32} {σ0 : zS} {tx : Nat → Int32} {n i : Nat} (hR : RF σ0.2.2) (hK : TOK σ0.1) (hY : BYT (σ0.1 224)) (hG : RX σ0.1 tx n i) (hg : σ0.1 218 14 = 0) (hP : PIL σ0.1 0) (hx : 50 ≤ x1.toInt ∧ x1.toInt ≤ 100) (h12 : ¬ σ0.1 218 12 = 0) (hNP : NP (σ0.1 230) (σ0.1 218 22).toInt.toNat) : Ok (f_X12_opens N 218 x1 σ0) (fun r => Tr [218, 230] σ0 r.2 ∧ ((TOK r.2.1 ∧ (σ0.1 218 11).toInt ≤ (r.2.1 218 11).toInt ∧ (0 ≤ (r.2.1 218 22).toInt ∧ (r.2.1 218 22).toInt ≤ 40) ∧ (r.2.1 218 14 = 0 → ((σ0.1 218 11).toInt < (r.2.1 218 11).toInt ∧ PIL r.2.1 0) ∧ (¬ (lst (σ0.1 230) (σ0.1 218 22).toInt.toNat).length = 6 ∧ RX r.2.1 tx n (tkE tx n i)) ∧ lst (r.2.1 230) (r.2.1 218 22).toInt.toNat = decide (x1 = 100) :: (lst (σ0.1 230) (σ0.1 218 22).toInt.toNat) ∧ NP (r.2.1 230) (r.2.1 218 22).toInt.toNat) ∧ (¬ r.2.1 218 14 = 0 → (lst (σ0.1 230) (σ0.1 218 22).toInt.toNat).length = 6)) ∧ (r.2.1 218 7 = σ0.1 218 7 ∧ r.2.1 218 9 = σ0.1 218 9 ∧ r.2.1 218 20 = σ0.1 218 20 ∧ r.2.1 218 23 = σ0.1 218 23 ∧ r.2.1 218 25 = σ0.1 218 25))) := by
  have hT : Tr [218, 230] σ0 σ0 := Tr.rf
  have hK1 := hK.1
  have tE : σ0.1 224 = tx := hG.1.1
  have nE : (σ0.1 218 9).toInt.toNat = n := hG.1.2
  have pK : TKV (σ0.1 218 11) (σ0.1 218 10) (σ0.1 218 12) (σ0.1 218 13) tx n i := hG.2
  have hb0 := PIL_b hP (by decide)
  have l12 := hK.2.1 h12
  obtain ⟨b8, d8, r8, hS, h22, hd, hd6, hp⟩ := hP
  have j22 : (σ0.1 218 22).toNatClampNeg = (σ0.1 218 22).toInt.toNat := rfl
  have s22 : ((σ0.1 218 22) + 1).toInt = (σ0.1 218 22).toInt + 1 := by rw [ti_add]; simp only [Int32.reduceToInt]; omega
  have s24 : ((σ0.1 218 24) + 1).toInt = ((d8 + 1 : Nat) : Int) := by rw [ti_add]; simp only [Int32.reduceToInt]; omega
  have hlen := lst_len hS
  have j53 : ((σ0.1 218 22) + 1).toInt.toNat = (σ0.1 218 22).toInt.toNat + 1 := by rw [s22]; omega
  rw [f_X12_opens.eq_1]
  refine ok_gI rfl ?_
  refine ok_if (fun hc2 => ?_) (fun hc2 => ?_)
  · have d6t : d8 = 6 := by have q := congrArg Int32.toInt hc2; simp only [Int32.reduceToInt] at q; omega
    refine ok_gC rfl ?_
    refine ok_zbT (Q := fun V σ => (TOK σ.1 ∧ ¬ σ.1 218 14 = 0) ∧ (σ.1 218 7 = σ0.1 218 7 ∧ σ.1 218 9 = σ0.1 218 9 ∧ σ.1 218 10 = σ0.1 218 10 ∧ σ.1 218 11 = σ0.1 218 11 ∧ σ.1 218 12 = σ0.1 218 12 ∧ σ.1 218 13 = σ0.1 218 13 ∧ σ.1 218 20 = σ0.1 218 20 ∧ σ.1 218 22 = σ0.1 218 22 ∧ σ.1 218 23 = σ0.1 218 23 ∧ σ.1 218 24 = σ0.1 218 24 ∧ σ.1 218 25 = σ0.1 218 25)) hT (s_X12_errs hN (hR.tr hT) (hK) (by rw [hT.2 224 (by decide)]; exact hY) (by decide)) (by decide) (fun v3 σ4 hOσ4 hT hqv3 => ?_)
    have hqv3 : (TOK σ4.1 ∧ ¬ σ4.1 218 14 = 0) ∧ (σ4.1 218 7 = σ0.1 218 7 ∧ σ4.1 218 9 = σ0.1 218 9 ∧ σ4.1 218 10 = σ0.1 218 10 ∧ σ4.1 218 11 = σ0.1 218 11 ∧ σ4.1 218 12 = σ0.1 218 12 ∧ σ4.1 218 13 = σ0.1 218 13 ∧ σ4.1 218 20 = σ0.1 218 20 ∧ σ4.1 218 22 = σ0.1 218 22 ∧ σ4.1 218 23 = σ0.1 218 23 ∧ σ4.1 218 24 = σ0.1 218 24 ∧ σ4.1 218 25 = σ0.1 218 25) := hqv3
    have hkv3 := hqv3
    have hqv3 := hqv3.1
    have r230_σ4 : σ4.1 230 = σ0.1 230 := hOσ4.2 230 (by decide)
    have hK : TOK σ4.1 := by first | exact hqv3.1 | exact hqv3.1.1 | exact TOK_p eσ4 (by decide) hK
    have g7_σ4 : σ4.1 218 7 = (σ0.1 218 7) := hkv3.2.1
    have g9_σ4 : σ4.1 218 9 = (σ0.1 218 9) := hkv3.2.2.1
    have g10_σ4 : σ4.1 218 10 = (σ0.1 218 10) := hkv3.2.2.2.1
    have g11_σ4 : σ4.1 218 11 = (σ0.1 218 11) := hkv3.2.2.2.2.1
    have g12_σ4 : σ4.1 218 12 = (σ0.1 218 12) := hkv3.2.2.2.2.2.1
    have g13_σ4 : σ4.1 218 13 = (σ0.1 218 13) := hkv3.2.2.2.2.2.2.1
    have g20_σ4 : σ4.1 218 20 = (σ0.1 218 20) := hkv3.2.2.2.2.2.2.2.1
    have g22_σ4 : σ4.1 218 22 = (σ0.1 218 22) := hkv3.2.2.2.2.2.2.2.2.1
    have g23_σ4 : σ4.1 218 23 = (σ0.1 218 23) := hkv3.2.2.2.2.2.2.2.2.2.1
    have g24_σ4 : σ4.1 218 24 = (σ0.1 218 24) := hkv3.2.2.2.2.2.2.2.2.2.2.1
    have g25_σ4 : σ4.1 218 25 = (σ0.1 218 25) := hkv3.2.2.2.2.2.2.2.2.2.2.2
    have n11 := hqv3.2
    rw [J_X12_opens_14.eq_1]
    refine ok_gC rfl ?_
    refine ok_zbX (Q := fun V => (V = 0 → ¬ σ4.1 218 14 = 0) ∧ (¬ V = 0 → σ4.1 218 14 = 0)) (x_X12_good) (fun v5 hqv5 => ?_)
    have hqv5 : (v5 = 0 → ¬ σ4.1 218 14 = 0) ∧ (¬ v5 = 0 → σ4.1 218 14 = 0) := hqv5
    try simp only [g7_σ4, g9_σ4, g10_σ4, g11_σ4, g12_σ4, g13_σ4, g20_σ4, g22_σ4, g23_σ4, g24_σ4, g25_σ4, hT.2 224 (by decide)] at hqv5
    refine ok_if (fun hc7 => ?_) (fun hc7 => ?_)
    · have qhc7 := hqv5.1 hc7
      have n18 := qhc7
      exact ok_some ⟨hT, (show (TOK σ4.1 ∧ (σ0.1 218 11).toInt ≤ (σ4.1 218 11).toInt ∧ (0 ≤ (σ4.1 218 22).toInt ∧ (σ4.1 218 22).toInt ≤ 40) ∧ (σ4.1 218 14 = 0 → ((σ0.1 218 11).toInt < (σ4.1 218 11).toInt ∧ PIL σ4.1 0) ∧ (¬ (lst (σ0.1 230) (σ0.1 218 22).toInt.toNat).length = 6 ∧ RX σ4.1 tx n (tkE tx n i)) ∧ lst (σ4.1 230) (σ4.1 218 22).toInt.toNat = decide (x1 = 100) :: (lst (σ0.1 230) (σ0.1 218 22).toInt.toNat) ∧ NP (σ4.1 230) (σ4.1 218 22).toInt.toNat) ∧ (¬ σ4.1 218 14 = 0 → (lst (σ0.1 230) (σ0.1 218 22).toInt.toNat).length = 6)) ∧ (σ4.1 218 7 = σ0.1 218 7 ∧ σ4.1 218 9 = σ0.1 218 9 ∧ σ4.1 218 20 = σ0.1 218 20 ∧ σ4.1 218 23 = σ0.1 218 23 ∧ σ4.1 218 25 = σ0.1 218 25) from ⟨by first | exact ⟨hK, by (try simp only [g7_σ4, g9_σ4, g10_σ4, g11_σ4, g12_σ4, g13_σ4, g20_σ4, g22_σ4, g23_σ4, g24_σ4, g25_σ4]); omega, by (try simp only [g7_σ4, g9_σ4, g10_σ4, g11_σ4, g12_σ4, g13_σ4, g20_σ4, g22_σ4, g23_σ4, g24_σ4, g25_σ4]); omega, fun q => absurd q (by (try simp only [g7_σ4, g9_σ4, g10_σ4, g11_σ4, g12_σ4, g13_σ4, g20_σ4, g22_σ4, g23_σ4, g24_σ4, g25_σ4]); exact n18), fun _ => hlen.trans d6t⟩ | exact ⟨hK, by (try simp only [g7_σ4, g9_σ4, g10_σ4, g11_σ4, g12_σ4, g13_σ4, g20_σ4, g22_σ4, g23_σ4, g24_σ4, g25_σ4]); omega, by (try simp only [g7_σ4, g9_σ4, g10_σ4, g11_σ4, g12_σ4, g13_σ4, g20_σ4, g22_σ4, g23_σ4, g24_σ4, g25_σ4]); rw [s22]; omega, fun _ => ⟨⟨by (try simp only [g7_σ4, g9_σ4, g10_σ4, g11_σ4, g12_σ4, g13_σ4, g20_σ4, g22_σ4, g23_σ4, g24_σ4, g25_σ4]); omega, PIL_i g22_σ4 g23_σ4 g24_σ4 r230_σ4 (by rw [j53]; exact k45) (by rw [s22]; omega) s24 (by omega) hp⟩, ⟨by rw [hlen]; exact d6, RX_i g9_σ4 g10_σ4 g11_σ4 g12_σ4 g13_σ4 ((hT.2 224 (by decide)).trans tE) nE pK⟩, by (try simp only [g7_σ4, g9_σ4, g10_σ4, g11_σ4, g12_σ4, g13_σ4, g20_σ4, g22_σ4, g23_σ4, g24_σ4, g25_σ4]); rw [r230_σ4, j53]; exact l45, by (try simp only [g7_σ4, g9_σ4, g10_σ4, g11_σ4, g12_σ4, g13_σ4, g20_σ4, g22_σ4, g23_σ4, g24_σ4, g25_σ4]); rw [r230_σ4, j53]; exact n45⟩, fun q => absurd (by (try simp only [g7_σ4, g9_σ4, g10_σ4, g11_σ4, g12_σ4, g13_σ4, g20_σ4, g22_σ4, g23_σ4, g24_σ4, g25_σ4]); exact y18) q⟩ | exact absurd y18 n11 | exact absurd hg n18, g7_σ4, g9_σ4, g20_σ4, g23_σ4, g25_σ4⟩)⟩
    · have qhc7 := hqv5.2 hc7
      have y18 := qhc7
      refine ok_gC rfl ?_
      refine ok_zbT (Q := fun V σ => ((TOK σ.1 ∧ (σ4.1 218 10).toInt ≤ (σ.1 218 11).toInt) ∧ RX σ.1 tx n (tkE tx n i)) ∧ (σ.1 218 7 = σ4.1 218 7 ∧ σ.1 218 9 = σ4.1 218 9 ∧ σ.1 218 14 = σ4.1 218 14 ∧ σ.1 218 15 = σ4.1 218 15 ∧ σ.1 218 20 = σ4.1 218 20 ∧ σ.1 218 22 = σ4.1 218 22 ∧ σ.1 218 23 = σ4.1 218 23 ∧ σ.1 218 24 = σ4.1 218 24 ∧ σ.1 218 25 = σ4.1 218 25)) hT (s_X12_advance_r hN (hR.tr hT) (TOK_A hK) (by rw [hT.2 224 (by decide)]; exact hY) (RX_i g9_σ4 g10_σ4 g11_σ4 g12_σ4 g13_σ4 ((hT.2 224 (by decide)).trans tE) nE pK)) (by decide) (fun v8 σ9 hOσ9 hT hqv8 => ?_)
      have hqv8 : ((TOK σ9.1 ∧ (σ4.1 218 10).toInt ≤ (σ9.1 218 11).toInt) ∧ RX σ9.1 tx n (tkE tx n i)) ∧ (σ9.1 218 7 = σ4.1 218 7 ∧ σ9.1 218 9 = σ4.1 218 9 ∧ σ9.1 218 14 = σ4.1 218 14 ∧ σ9.1 218 15 = σ4.1 218 15 ∧ σ9.1 218 20 = σ4.1 218 20 ∧ σ9.1 218 22 = σ4.1 218 22 ∧ σ9.1 218 23 = σ4.1 218 23 ∧ σ9.1 218 24 = σ4.1 218 24 ∧ σ9.1 218 25 = σ4.1 218 25) := hqv8
      have hkv8 := hqv8
      have hqv8 := hqv8.1
      have r230_σ9 : σ9.1 230 = σ0.1 230 := (hOσ9.2 230 (by decide)).trans r230_σ4
      have hK : TOK σ9.1 := by first | exact hqv8.1 | exact hqv8.1.1 | exact TOK_p eσ9 (by decide) hK
      try simp only [g7_σ4, g9_σ4, g10_σ4, g11_σ4, g12_σ4, g13_σ4, g20_σ4, g22_σ4, g23_σ4, g24_σ4, g25_σ4] at hqv8
      have g7_σ9 : σ9.1 218 7 = (σ0.1 218 7) := (hkv8.2.1).trans g7_σ4
      have g9_σ9 : σ9.1 218 9 = (σ0.1 218 9) := (hkv8.2.2.1).trans g9_σ4
      have g14_σ9 : σ9.1 218 14 = (σ4.1 218 14) := hkv8.2.2.2.1
      have g15_σ9 : σ9.1 218 15 = (σ4.1 218 15) := hkv8.2.2.2.2.1
      have g20_σ9 : σ9.1 218 20 = (σ0.1 218 20) := (hkv8.2.2.2.2.2.1).trans g20_σ4
      have g22_σ9 : σ9.1 218 22 = (σ0.1 218 22) := (hkv8.2.2.2.2.2.2.1).trans g22_σ4
      have g23_σ9 : σ9.1 218 23 = (σ0.1 218 23) := (hkv8.2.2.2.2.2.2.2.1).trans g23_σ4
      have g24_σ9 : σ9.1 218 24 = (σ0.1 218 24) := (hkv8.2.2.2.2.2.2.2.2.1).trans g24_σ4
      have g25_σ9 : σ9.1 218 25 = (σ0.1 218 25) := (hkv8.2.2.2.2.2.2.2.2.2).trans g25_σ4
      have m23 := hqv8.1.2
      have g23 := hqv8.2
      have pK : TKV (σ9.1 218 11) (σ9.1 218 10) (σ9.1 218 12) (σ9.1 218 13) tx n (tkE tx n i) := hqv8.2.2
      refine ok_gIv rfl g24_σ9 ?_
      refine ok_pI hT rfl (by decide) (fun σ11 eσ11 hOσ11 hT => ?_)
      have r230_σ11 : σ11.1 230 = σ0.1 230 := (hOσ11.2 230 (by decide)).trans r230_σ9
      have hK : TOK σ11.1 := by first | exact HQ.1 | exact HQ.1.1 | exact TOK_p eσ11 (by decide) hK
      have g7_σ11 : σ11.1 218 7 = (σ0.1 218 7) := (zI_atN eσ11 (by decide)).trans g7_σ9
      have g9_σ11 : σ11.1 218 9 = (σ0.1 218 9) := (zI_atN eσ11 (by decide)).trans g9_σ9
      have g10_σ11 : σ11.1 218 10 = (σ9.1 218 10) := zI_atN eσ11 (by decide)
      have g11_σ11 : σ11.1 218 11 = (σ9.1 218 11) := zI_atN eσ11 (by decide)
      have g12_σ11 : σ11.1 218 12 = (σ9.1 218 12) := zI_atN eσ11 (by decide)
      have g13_σ11 : σ11.1 218 13 = (σ9.1 218 13) := zI_atN eσ11 (by decide)
      have g14_σ11 : σ11.1 218 14 = (σ4.1 218 14) := (zI_atN eσ11 (by decide)).trans g14_σ9
      have g15_σ11 : σ11.1 218 15 = (σ4.1 218 15) := (zI_atN eσ11 (by decide)).trans g15_σ9
      have g20_σ11 : σ11.1 218 20 = (σ0.1 218 20) := (zI_atN eσ11 (by decide)).trans g20_σ9
      have g22_σ11 : σ11.1 218 22 = (σ0.1 218 22) := (zI_atN eσ11 (by decide)).trans g22_σ9
      have g23_σ11 : σ11.1 218 23 = (σ0.1 218 23) := (zI_atN eσ11 (by decide)).trans g23_σ9
      have g24_σ11 : σ11.1 218 24 = ((σ0.1 218 24) + 1) := zI_atI eσ11
      have g25_σ11 : σ11.1 218 25 = (σ0.1 218 25) := (zI_atN eσ11 (by decide)).trans g25_σ9
      refine ok_gR (v := 230) hT rfl (hR 218 21 rfl) ?_
      refine ok_gIv rfl g22_σ11 ?_
      refine ok_s14 hT rfl (by decide) (by ((try simp only [g7_σ11, g9_σ11, g10_σ11, g11_σ11, g12_σ11, g13_σ11, g14_σ11, g15_σ11, g20_σ11, g22_σ11, g23_σ11, g24_σ11, g25_σ11])); first | omega | decide | (simp only [Int32.le_iff_toInt_le, Int32.lt_iff_toInt_lt, ti_add, ti_sub, ti_mul, Int32.reduceToInt] at *; omega)) (by ((try simp only [g7_σ11, g9_σ11, g10_σ11, g11_σ11, g12_σ11, g13_σ11, g14_σ11, g15_σ11, g20_σ11, g22_σ11, g23_σ11, g24_σ11, g25_σ11])); first | omega | decide | (simp only [Int32.le_iff_toInt_le, Int32.lt_iff_toInt_lt, ti_add, ti_sub, ti_mul, Int32.reduceToInt] at *; omega)) (fun σ14 eσ14 hOσ14 hT => ?_)
      have a45 := zI_atI eσ14
      have k45 : Stk (σ14.1 230) ((σ0.1 218 22).toInt.toNat + 1) b8 (d8 + 1) 0 := Stk_open hS (fun k hk => by rw [zI_atN eσ14 (by rw [j22]; omega)]; exact congrFun r230_σ11 k) (by rw [← j22, a45]; exact hx)
      have e45 : σ14.1 230 (σ0.1 218 22).toInt.toNat = x1 := a45
      have c45 : ∀ k, k < (σ0.1 218 22).toInt.toNat → σ14.1 230 k = σ0.1 230 k := fun k hk => by rw [zI_atN eσ14 (by rw [j22]; omega)]; exact congrFun r230_σ11 k
      have l45 := lst_o (g := σ14.1 230) (n := (σ0.1 218 22).toInt.toNat) (by rw [e45]; omega)
      rw [e45, lst_c c45] at l45
      have n45 : NP (σ14.1 230) ((σ0.1 218 22).toInt.toNat + 1) := ⟨NP_c c45 hNP, fun q => absurd q (by rw [e45]; omega)⟩
      have hK : TOK σ14.1 := TOK_tr hOσ14 (by decide) (by decide) hK
      have g7_σ14 : σ14.1 218 7 = (σ0.1 218 7) := (congrFun (hOσ14.2 218 (by decide)) 7).trans g7_σ11
      have g9_σ14 : σ14.1 218 9 = (σ0.1 218 9) := (congrFun (hOσ14.2 218 (by decide)) 9).trans g9_σ11
      have g10_σ14 : σ14.1 218 10 = (σ9.1 218 10) := (congrFun (hOσ14.2 218 (by decide)) 10).trans g10_σ11
      have g11_σ14 : σ14.1 218 11 = (σ9.1 218 11) := (congrFun (hOσ14.2 218 (by decide)) 11).trans g11_σ11
      have g12_σ14 : σ14.1 218 12 = (σ9.1 218 12) := (congrFun (hOσ14.2 218 (by decide)) 12).trans g12_σ11
      have g13_σ14 : σ14.1 218 13 = (σ9.1 218 13) := (congrFun (hOσ14.2 218 (by decide)) 13).trans g13_σ11
      have g14_σ14 : σ14.1 218 14 = (σ4.1 218 14) := (congrFun (hOσ14.2 218 (by decide)) 14).trans g14_σ11
      have g15_σ14 : σ14.1 218 15 = (σ4.1 218 15) := (congrFun (hOσ14.2 218 (by decide)) 15).trans g15_σ11
      have g20_σ14 : σ14.1 218 20 = (σ0.1 218 20) := (congrFun (hOσ14.2 218 (by decide)) 20).trans g20_σ11
      have g22_σ14 : σ14.1 218 22 = (σ0.1 218 22) := (congrFun (hOσ14.2 218 (by decide)) 22).trans g22_σ11
      have g23_σ14 : σ14.1 218 23 = (σ0.1 218 23) := (congrFun (hOσ14.2 218 (by decide)) 23).trans g23_σ11
      have g24_σ14 : σ14.1 218 24 = ((σ0.1 218 24) + 1) := (congrFun (hOσ14.2 218 (by decide)) 24).trans g24_σ11
      have g25_σ14 : σ14.1 218 25 = (σ0.1 218 25) := (congrFun (hOσ14.2 218 (by decide)) 25).trans g25_σ11
      refine ok_gIv rfl g22_σ14 ?_
      refine ok_pI hT rfl (by decide) (fun σ16 eσ16 hOσ16 hT => ?_)
      have r230_σ16 : σ16.1 230 = σ14.1 230 := hOσ16.2 230 (by decide)
      have hK : TOK σ16.1 := by first | exact HQ.1 | exact HQ.1.1 | exact TOK_p eσ16 (by decide) hK
      have g7_σ16 : σ16.1 218 7 = (σ0.1 218 7) := (zI_atN eσ16 (by decide)).trans g7_σ14
      have g9_σ16 : σ16.1 218 9 = (σ0.1 218 9) := (zI_atN eσ16 (by decide)).trans g9_σ14
      have g10_σ16 : σ16.1 218 10 = (σ9.1 218 10) := (zI_atN eσ16 (by decide)).trans g10_σ14
      have g11_σ16 : σ16.1 218 11 = (σ9.1 218 11) := (zI_atN eσ16 (by decide)).trans g11_σ14
      have g12_σ16 : σ16.1 218 12 = (σ9.1 218 12) := (zI_atN eσ16 (by decide)).trans g12_σ14
      have g13_σ16 : σ16.1 218 13 = (σ9.1 218 13) := (zI_atN eσ16 (by decide)).trans g13_σ14
      have g14_σ16 : σ16.1 218 14 = (σ4.1 218 14) := (zI_atN eσ16 (by decide)).trans g14_σ14
      have g15_σ16 : σ16.1 218 15 = (σ4.1 218 15) := (zI_atN eσ16 (by decide)).trans g15_σ14
      have g20_σ16 : σ16.1 218 20 = (σ0.1 218 20) := (zI_atN eσ16 (by decide)).trans g20_σ14
      have g22_σ16 : σ16.1 218 22 = ((σ0.1 218 22) + 1) := zI_atI eσ16
      have g23_σ16 : σ16.1 218 23 = (σ0.1 218 23) := (zI_atN eσ16 (by decide)).trans g23_σ14
      have g24_σ16 : σ16.1 218 24 = ((σ0.1 218 24) + 1) := (zI_atN eσ16 (by decide)).trans g24_σ14
      have g25_σ16 : σ16.1 218 25 = (σ0.1 218 25) := (zI_atN eσ16 (by decide)).trans g25_σ14
      exact ok_some ⟨hT, (show (TOK σ16.1 ∧ (σ0.1 218 11).toInt ≤ (σ16.1 218 11).toInt ∧ (0 ≤ (σ16.1 218 22).toInt ∧ (σ16.1 218 22).toInt ≤ 40) ∧ (σ16.1 218 14 = 0 → ((σ0.1 218 11).toInt < (σ16.1 218 11).toInt ∧ PIL σ16.1 0) ∧ (¬ (lst (σ0.1 230) (σ0.1 218 22).toInt.toNat).length = 6 ∧ RX σ16.1 tx n (tkE tx n i)) ∧ lst (σ16.1 230) (σ16.1 218 22).toInt.toNat = decide (x1 = 100) :: (lst (σ0.1 230) (σ0.1 218 22).toInt.toNat) ∧ NP (σ16.1 230) (σ16.1 218 22).toInt.toNat) ∧ (¬ σ16.1 218 14 = 0 → (lst (σ0.1 230) (σ0.1 218 22).toInt.toNat).length = 6)) ∧ (σ16.1 218 7 = σ0.1 218 7 ∧ σ16.1 218 9 = σ0.1 218 9 ∧ σ16.1 218 20 = σ0.1 218 20 ∧ σ16.1 218 23 = σ0.1 218 23 ∧ σ16.1 218 25 = σ0.1 218 25) from ⟨by first | exact ⟨hK, by (try simp only [g7_σ16, g9_σ16, g10_σ16, g11_σ16, g12_σ16, g13_σ16, g14_σ16, g15_σ16, g20_σ16, g22_σ16, g23_σ16, g24_σ16, g25_σ16]); omega, by (try simp only [g7_σ16, g9_σ16, g10_σ16, g11_σ16, g12_σ16, g13_σ16, g14_σ16, g15_σ16, g20_σ16, g22_σ16, g23_σ16, g24_σ16, g25_σ16]); omega, fun q => absurd q (by (try simp only [g7_σ16, g9_σ16, g10_σ16, g11_σ16, g12_σ16, g13_σ16, g14_σ16, g15_σ16, g20_σ16, g22_σ16, g23_σ16, g24_σ16, g25_σ16]); exact n18), fun _ => hlen.trans d6t⟩ | exact ⟨hK, by (try simp only [g7_σ16, g9_σ16, g10_σ16, g11_σ16, g12_σ16, g13_σ16, g14_σ16, g15_σ16, g20_σ16, g22_σ16, g23_σ16, g24_σ16, g25_σ16]); omega, by (try simp only [g7_σ16, g9_σ16, g10_σ16, g11_σ16, g12_σ16, g13_σ16, g14_σ16, g15_σ16, g20_σ16, g22_σ16, g23_σ16, g24_σ16, g25_σ16]); rw [s22]; omega, fun _ => ⟨⟨by (try simp only [g7_σ16, g9_σ16, g10_σ16, g11_σ16, g12_σ16, g13_σ16, g14_σ16, g15_σ16, g20_σ16, g22_σ16, g23_σ16, g24_σ16, g25_σ16]); omega, PIL_i g22_σ16 g23_σ16 g24_σ16 r230_σ16 (by rw [j53]; exact k45) (by rw [s22]; omega) s24 (by omega) hp⟩, ⟨by rw [hlen]; exact d6, RX_i g9_σ16 g10_σ16 g11_σ16 g12_σ16 g13_σ16 ((hT.2 224 (by decide)).trans tE) nE pK⟩, by (try simp only [g7_σ16, g9_σ16, g10_σ16, g11_σ16, g12_σ16, g13_σ16, g14_σ16, g15_σ16, g20_σ16, g22_σ16, g23_σ16, g24_σ16, g25_σ16]); rw [r230_σ16, j53]; exact l45, by (try simp only [g7_σ16, g9_σ16, g10_σ16, g11_σ16, g12_σ16, g13_σ16, g14_σ16, g15_σ16, g20_σ16, g22_σ16, g23_σ16, g24_σ16, g25_σ16]); rw [r230_σ16, j53]; exact n45⟩, fun q => absurd (by (try simp only [g7_σ16, g9_σ16, g10_σ16, g11_σ16, g12_σ16, g13_σ16, g14_σ16, g15_σ16, g20_σ16, g22_σ16, g23_σ16, g24_σ16, g25_σ16]); exact y18) q⟩ | exact absurd y18 n11 | exact absurd hg n18, g7_σ16, g9_σ16, g20_σ16, g23_σ16, g25_σ16⟩)⟩
  · have n6 := hc2
    have d6 : d8 ≠ 6 := fun e => n6 (Int32.toInt_inj.mp (by rw [hd, e]; rfl))
    rw [J_X12_opens_14.eq_1]
    refine ok_gC rfl ?_
    refine ok_zbX (Q := fun V => (V = 0 → ¬ σ0.1 218 14 = 0) ∧ (¬ V = 0 → σ0.1 218 14 = 0)) (x_X12_good) (fun v17 hqv17 => ?_)
    have hqv17 : (v17 = 0 → ¬ σ0.1 218 14 = 0) ∧ (¬ v17 = 0 → σ0.1 218 14 = 0) := hqv17
    refine ok_if (fun hc19 => ?_) (fun hc19 => ?_)
    · have qhc19 := hqv17.1 hc19
      have n18 := qhc19
      exact ok_some ⟨hT, (show (TOK σ0.1 ∧ (σ0.1 218 11).toInt ≤ (σ0.1 218 11).toInt ∧ (0 ≤ (σ0.1 218 22).toInt ∧ (σ0.1 218 22).toInt ≤ 40) ∧ (σ0.1 218 14 = 0 → ((σ0.1 218 11).toInt < (σ0.1 218 11).toInt ∧ PIL σ0.1 0) ∧ (¬ (lst (σ0.1 230) (σ0.1 218 22).toInt.toNat).length = 6 ∧ RX σ0.1 tx n (tkE tx n i)) ∧ lst (σ0.1 230) (σ0.1 218 22).toInt.toNat = decide (x1 = 100) :: (lst (σ0.1 230) (σ0.1 218 22).toInt.toNat) ∧ NP (σ0.1 230) (σ0.1 218 22).toInt.toNat) ∧ (¬ σ0.1 218 14 = 0 → (lst (σ0.1 230) (σ0.1 218 22).toInt.toNat).length = 6)) ∧ (σ0.1 218 7 = σ0.1 218 7 ∧ σ0.1 218 9 = σ0.1 218 9 ∧ σ0.1 218 20 = σ0.1 218 20 ∧ σ0.1 218 23 = σ0.1 218 23 ∧ σ0.1 218 25 = σ0.1 218 25) from ⟨by first | exact ⟨hK, by skip; omega, by skip; omega, fun q => absurd q (by skip; exact n18), fun _ => hlen.trans d6t⟩ | exact ⟨hK, by skip; omega, by skip; rw [s22]; omega, fun _ => ⟨⟨by skip; omega, PIL_i rfl rfl rfl rfl (by rw [j53]; exact k45) (by rw [s22]; omega) s24 (by omega) hp⟩, ⟨by rw [hlen]; exact d6, RX_i rfl rfl rfl rfl rfl ((hT.2 224 (by decide)).trans tE) nE pK⟩, by skip; rw [rfl, j53]; exact l45, by skip; rw [rfl, j53]; exact n45⟩, fun q => absurd (by skip; exact y18) q⟩ | exact absurd y18 n11 | exact absurd hg n18, rfl, rfl, rfl, rfl, rfl⟩)⟩
    · have qhc19 := hqv17.2 hc19
      have y18 := qhc19
      refine ok_gC rfl ?_
      refine ok_zbT (Q := fun V σ => ((TOK σ.1 ∧ (σ0.1 218 10).toInt ≤ (σ.1 218 11).toInt) ∧ RX σ.1 tx n (tkE tx n i)) ∧ (σ.1 218 7 = σ0.1 218 7 ∧ σ.1 218 9 = σ0.1 218 9 ∧ σ.1 218 14 = σ0.1 218 14 ∧ σ.1 218 15 = σ0.1 218 15 ∧ σ.1 218 20 = σ0.1 218 20 ∧ σ.1 218 22 = σ0.1 218 22 ∧ σ.1 218 23 = σ0.1 218 23 ∧ σ.1 218 24 = σ0.1 218 24 ∧ σ.1 218 25 = σ0.1 218 25)) hT (s_X12_advance_r hN (hR.tr hT) (TOK_A hK) (by rw [hT.2 224 (by decide)]; exact hY) (RX_i rfl rfl rfl rfl rfl ((hT.2 224 (by decide)).trans tE) nE pK)) (by decide) (fun v20 σ21 hOσ21 hT hqv20 => ?_)
      have hqv20 : ((TOK σ21.1 ∧ (σ0.1 218 10).toInt ≤ (σ21.1 218 11).toInt) ∧ RX σ21.1 tx n (tkE tx n i)) ∧ (σ21.1 218 7 = σ0.1 218 7 ∧ σ21.1 218 9 = σ0.1 218 9 ∧ σ21.1 218 14 = σ0.1 218 14 ∧ σ21.1 218 15 = σ0.1 218 15 ∧ σ21.1 218 20 = σ0.1 218 20 ∧ σ21.1 218 22 = σ0.1 218 22 ∧ σ21.1 218 23 = σ0.1 218 23 ∧ σ21.1 218 24 = σ0.1 218 24 ∧ σ21.1 218 25 = σ0.1 218 25) := hqv20
      have hkv20 := hqv20
      have hqv20 := hqv20.1
      have r230_σ21 : σ21.1 230 = σ0.1 230 := hOσ21.2 230 (by decide)
      have hK : TOK σ21.1 := by first | exact hqv20.1 | exact hqv20.1.1 | exact TOK_p eσ21 (by decide) hK
      have g7_σ21 : σ21.1 218 7 = (σ0.1 218 7) := hkv20.2.1
      have g9_σ21 : σ21.1 218 9 = (σ0.1 218 9) := hkv20.2.2.1
      have g14_σ21 : σ21.1 218 14 = (σ0.1 218 14) := hkv20.2.2.2.1
      have g15_σ21 : σ21.1 218 15 = (σ0.1 218 15) := hkv20.2.2.2.2.1
      have g20_σ21 : σ21.1 218 20 = (σ0.1 218 20) := hkv20.2.2.2.2.2.1
      have g22_σ21 : σ21.1 218 22 = (σ0.1 218 22) := hkv20.2.2.2.2.2.2.1
      have g23_σ21 : σ21.1 218 23 = (σ0.1 218 23) := hkv20.2.2.2.2.2.2.2.1
      have g24_σ21 : σ21.1 218 24 = (σ0.1 218 24) := hkv20.2.2.2.2.2.2.2.2.1
      have g25_σ21 : σ21.1 218 25 = (σ0.1 218 25) := hkv20.2.2.2.2.2.2.2.2.2
      have m23 := hqv20.1.2
      have g23 := hqv20.2
      have pK : TKV (σ21.1 218 11) (σ21.1 218 10) (σ21.1 218 12) (σ21.1 218 13) tx n (tkE tx n i) := hqv20.2.2
      refine ok_gIv rfl g24_σ21 ?_
      refine ok_pI hT rfl (by decide) (fun σ23 eσ23 hOσ23 hT => ?_)
      have r230_σ23 : σ23.1 230 = σ0.1 230 := (hOσ23.2 230 (by decide)).trans r230_σ21
      have hK : TOK σ23.1 := by first | exact HQ.1 | exact HQ.1.1 | exact TOK_p eσ23 (by decide) hK
      have g7_σ23 : σ23.1 218 7 = (σ0.1 218 7) := (zI_atN eσ23 (by decide)).trans g7_σ21
      have g9_σ23 : σ23.1 218 9 = (σ0.1 218 9) := (zI_atN eσ23 (by decide)).trans g9_σ21
      have g10_σ23 : σ23.1 218 10 = (σ21.1 218 10) := zI_atN eσ23 (by decide)
      have g11_σ23 : σ23.1 218 11 = (σ21.1 218 11) := zI_atN eσ23 (by decide)
      have g12_σ23 : σ23.1 218 12 = (σ21.1 218 12) := zI_atN eσ23 (by decide)
      have g13_σ23 : σ23.1 218 13 = (σ21.1 218 13) := zI_atN eσ23 (by decide)
      have g14_σ23 : σ23.1 218 14 = (σ0.1 218 14) := (zI_atN eσ23 (by decide)).trans g14_σ21
      have g15_σ23 : σ23.1 218 15 = (σ0.1 218 15) := (zI_atN eσ23 (by decide)).trans g15_σ21
      have g20_σ23 : σ23.1 218 20 = (σ0.1 218 20) := (zI_atN eσ23 (by decide)).trans g20_σ21
      have g22_σ23 : σ23.1 218 22 = (σ0.1 218 22) := (zI_atN eσ23 (by decide)).trans g22_σ21
      have g23_σ23 : σ23.1 218 23 = (σ0.1 218 23) := (zI_atN eσ23 (by decide)).trans g23_σ21
      have g24_σ23 : σ23.1 218 24 = ((σ0.1 218 24) + 1) := zI_atI eσ23
      have g25_σ23 : σ23.1 218 25 = (σ0.1 218 25) := (zI_atN eσ23 (by decide)).trans g25_σ21
      refine ok_gR (v := 230) hT rfl (hR 218 21 rfl) ?_
      refine ok_gIv rfl g22_σ23 ?_
      refine ok_s14 hT rfl (by decide) (by ((try simp only [g7_σ23, g9_σ23, g10_σ23, g11_σ23, g12_σ23, g13_σ23, g14_σ23, g15_σ23, g20_σ23, g22_σ23, g23_σ23, g24_σ23, g25_σ23])); first | omega | decide | (simp only [Int32.le_iff_toInt_le, Int32.lt_iff_toInt_lt, ti_add, ti_sub, ti_mul, Int32.reduceToInt] at *; omega)) (by ((try simp only [g7_σ23, g9_σ23, g10_σ23, g11_σ23, g12_σ23, g13_σ23, g14_σ23, g15_σ23, g20_σ23, g22_σ23, g23_σ23, g24_σ23, g25_σ23])); first | omega | decide | (simp only [Int32.le_iff_toInt_le, Int32.lt_iff_toInt_lt, ti_add, ti_sub, ti_mul, Int32.reduceToInt] at *; omega)) (fun σ26 eσ26 hOσ26 hT => ?_)
      have a45 := zI_atI eσ26
      have k45 : Stk (σ26.1 230) ((σ0.1 218 22).toInt.toNat + 1) b8 (d8 + 1) 0 := Stk_open hS (fun k hk => by rw [zI_atN eσ26 (by rw [j22]; omega)]; exact congrFun r230_σ23 k) (by rw [← j22, a45]; exact hx)
      have e45 : σ26.1 230 (σ0.1 218 22).toInt.toNat = x1 := a45
      have c45 : ∀ k, k < (σ0.1 218 22).toInt.toNat → σ26.1 230 k = σ0.1 230 k := fun k hk => by rw [zI_atN eσ26 (by rw [j22]; omega)]; exact congrFun r230_σ23 k
      have l45 := lst_o (g := σ26.1 230) (n := (σ0.1 218 22).toInt.toNat) (by rw [e45]; omega)
      rw [e45, lst_c c45] at l45
      have n45 : NP (σ26.1 230) ((σ0.1 218 22).toInt.toNat + 1) := ⟨NP_c c45 hNP, fun q => absurd q (by rw [e45]; omega)⟩
      have hK : TOK σ26.1 := TOK_tr hOσ26 (by decide) (by decide) hK
      have g7_σ26 : σ26.1 218 7 = (σ0.1 218 7) := (congrFun (hOσ26.2 218 (by decide)) 7).trans g7_σ23
      have g9_σ26 : σ26.1 218 9 = (σ0.1 218 9) := (congrFun (hOσ26.2 218 (by decide)) 9).trans g9_σ23
      have g10_σ26 : σ26.1 218 10 = (σ21.1 218 10) := (congrFun (hOσ26.2 218 (by decide)) 10).trans g10_σ23
      have g11_σ26 : σ26.1 218 11 = (σ21.1 218 11) := (congrFun (hOσ26.2 218 (by decide)) 11).trans g11_σ23
      have g12_σ26 : σ26.1 218 12 = (σ21.1 218 12) := (congrFun (hOσ26.2 218 (by decide)) 12).trans g12_σ23
      have g13_σ26 : σ26.1 218 13 = (σ21.1 218 13) := (congrFun (hOσ26.2 218 (by decide)) 13).trans g13_σ23
      have g14_σ26 : σ26.1 218 14 = (σ0.1 218 14) := (congrFun (hOσ26.2 218 (by decide)) 14).trans g14_σ23
      have g15_σ26 : σ26.1 218 15 = (σ0.1 218 15) := (congrFun (hOσ26.2 218 (by decide)) 15).trans g15_σ23
      have g20_σ26 : σ26.1 218 20 = (σ0.1 218 20) := (congrFun (hOσ26.2 218 (by decide)) 20).trans g20_σ23
      have g22_σ26 : σ26.1 218 22 = (σ0.1 218 22) := (congrFun (hOσ26.2 218 (by decide)) 22).trans g22_σ23
      have g23_σ26 : σ26.1 218 23 = (σ0.1 218 23) := (congrFun (hOσ26.2 218 (by decide)) 23).trans g23_σ23
      have g24_σ26 : σ26.1 218 24 = ((σ0.1 218 24) + 1) := (congrFun (hOσ26.2 218 (by decide)) 24).trans g24_σ23
      have g25_σ26 : σ26.1 218 25 = (σ0.1 218 25) := (congrFun (hOσ26.2 218 (by decide)) 25).trans g25_σ23
      refine ok_gIv rfl g22_σ26 ?_
      refine ok_pI hT rfl (by decide) (fun σ28 eσ28 hOσ28 hT => ?_)
      have r230_σ28 : σ28.1 230 = σ26.1 230 := hOσ28.2 230 (by decide)
      have hK : TOK σ28.1 := by first | exact HQ.1 | exact HQ.1.1 | exact TOK_p eσ28 (by decide) hK
      have g7_σ28 : σ28.1 218 7 = (σ0.1 218 7) := (zI_atN eσ28 (by decide)).trans g7_σ26
      have g9_σ28 : σ28.1 218 9 = (σ0.1 218 9) := (zI_atN eσ28 (by decide)).trans g9_σ26
      have g10_σ28 : σ28.1 218 10 = (σ21.1 218 10) := (zI_atN eσ28 (by decide)).trans g10_σ26
      have g11_σ28 : σ28.1 218 11 = (σ21.1 218 11) := (zI_atN eσ28 (by decide)).trans g11_σ26
      have g12_σ28 : σ28.1 218 12 = (σ21.1 218 12) := (zI_atN eσ28 (by decide)).trans g12_σ26
      have g13_σ28 : σ28.1 218 13 = (σ21.1 218 13) := (zI_atN eσ28 (by decide)).trans g13_σ26
      have g14_σ28 : σ28.1 218 14 = (σ0.1 218 14) := (zI_atN eσ28 (by decide)).trans g14_σ26
      have g15_σ28 : σ28.1 218 15 = (σ0.1 218 15) := (zI_atN eσ28 (by decide)).trans g15_σ26
      have g20_σ28 : σ28.1 218 20 = (σ0.1 218 20) := (zI_atN eσ28 (by decide)).trans g20_σ26
      have g22_σ28 : σ28.1 218 22 = ((σ0.1 218 22) + 1) := zI_atI eσ28
      have g23_σ28 : σ28.1 218 23 = (σ0.1 218 23) := (zI_atN eσ28 (by decide)).trans g23_σ26
      have g24_σ28 : σ28.1 218 24 = ((σ0.1 218 24) + 1) := (zI_atN eσ28 (by decide)).trans g24_σ26
      have g25_σ28 : σ28.1 218 25 = (σ0.1 218 25) := (zI_atN eσ28 (by decide)).trans g25_σ26
      exact ok_some ⟨hT, (show (TOK σ28.1 ∧ (σ0.1 218 11).toInt ≤ (σ28.1 218 11).toInt ∧ (0 ≤ (σ28.1 218 22).toInt ∧ (σ28.1 218 22).toInt ≤ 40) ∧ (σ28.1 218 14 = 0 → ((σ0.1 218 11).toInt < (σ28.1 218 11).toInt ∧ PIL σ28.1 0) ∧ (¬ (lst (σ0.1 230) (σ0.1 218 22).toInt.toNat).length = 6 ∧ RX σ28.1 tx n (tkE tx n i)) ∧ lst (σ28.1 230) (σ28.1 218 22).toInt.toNat = decide (x1 = 100) :: (lst (σ0.1 230) (σ0.1 218 22).toInt.toNat) ∧ NP (σ28.1 230) (σ28.1 218 22).toInt.toNat) ∧ (¬ σ28.1 218 14 = 0 → (lst (σ0.1 230) (σ0.1 218 22).toInt.toNat).length = 6)) ∧ (σ28.1 218 7 = σ0.1 218 7 ∧ σ28.1 218 9 = σ0.1 218 9 ∧ σ28.1 218 20 = σ0.1 218 20 ∧ σ28.1 218 23 = σ0.1 218 23 ∧ σ28.1 218 25 = σ0.1 218 25) from ⟨by first | exact ⟨hK, by (try simp only [g7_σ28, g9_σ28, g10_σ28, g11_σ28, g12_σ28, g13_σ28, g14_σ28, g15_σ28, g20_σ28, g22_σ28, g23_σ28, g24_σ28, g25_σ28]); omega, by (try simp only [g7_σ28, g9_σ28, g10_σ28, g11_σ28, g12_σ28, g13_σ28, g14_σ28, g15_σ28, g20_σ28, g22_σ28, g23_σ28, g24_σ28, g25_σ28]); omega, fun q => absurd q (by (try simp only [g7_σ28, g9_σ28, g10_σ28, g11_σ28, g12_σ28, g13_σ28, g14_σ28, g15_σ28, g20_σ28, g22_σ28, g23_σ28, g24_σ28, g25_σ28]); exact n18), fun _ => hlen.trans d6t⟩ | exact ⟨hK, by (try simp only [g7_σ28, g9_σ28, g10_σ28, g11_σ28, g12_σ28, g13_σ28, g14_σ28, g15_σ28, g20_σ28, g22_σ28, g23_σ28, g24_σ28, g25_σ28]); omega, by (try simp only [g7_σ28, g9_σ28, g10_σ28, g11_σ28, g12_σ28, g13_σ28, g14_σ28, g15_σ28, g20_σ28, g22_σ28, g23_σ28, g24_σ28, g25_σ28]); rw [s22]; omega, fun _ => ⟨⟨by (try simp only [g7_σ28, g9_σ28, g10_σ28, g11_σ28, g12_σ28, g13_σ28, g14_σ28, g15_σ28, g20_σ28, g22_σ28, g23_σ28, g24_σ28, g25_σ28]); omega, PIL_i g22_σ28 g23_σ28 g24_σ28 r230_σ28 (by rw [j53]; exact k45) (by rw [s22]; omega) s24 (by omega) hp⟩, ⟨by rw [hlen]; exact d6, RX_i g9_σ28 g10_σ28 g11_σ28 g12_σ28 g13_σ28 ((hT.2 224 (by decide)).trans tE) nE pK⟩, by (try simp only [g7_σ28, g9_σ28, g10_σ28, g11_σ28, g12_σ28, g13_σ28, g14_σ28, g15_σ28, g20_σ28, g22_σ28, g23_σ28, g24_σ28, g25_σ28]); rw [r230_σ28, j53]; exact l45, by (try simp only [g7_σ28, g9_σ28, g10_σ28, g11_σ28, g12_σ28, g13_σ28, g14_σ28, g15_σ28, g20_σ28, g22_σ28, g23_σ28, g24_σ28, g25_σ28]); rw [r230_σ28, j53]; exact n45⟩, fun q => absurd (by (try simp only [g7_σ28, g9_σ28, g10_σ28, g11_σ28, g12_σ28, g13_σ28, g14_σ28, g15_σ28, g20_σ28, g22_σ28, g23_σ28, g24_σ28, g25_σ28]); exact y18) q⟩ | exact absurd y18 n11 | exact absurd hg n18, g7_σ28, g9_σ28, g20_σ28, g23_σ28, g25_σ28⟩)⟩

theorem xf_X12_is {N w : Nat} {σ : zS} {t : Nat → Int32} {n i : Nat} (hN : 1048576 ≤ N) (hR : RF σ.2.2) (hw : w < zSn) (hK : TOK σ.1) (hg : σ.1 218 14 = 0) (hG : RX σ.1 t n i) : Ok (f_X12_is N 218 w σ) (fun r => r.2 = σ ∧ ((r.1 = 0 ∨ r.1 = 1) ∧ (r.1 = 0 → ¬ isW t n i w) ∧ (¬ r.1 = 0 → isW t n i w))) :=
  ok_wk (ok_and (x0_X12_is hN hR hw hK) (xe_X12_is hN hR hw hK hg hG)) (fun r h => ⟨h.1.1, h.1.2.1, h.2.2⟩)

set_option maxHeartbeats 4000000 in
set_option maxRecDepth 100000 in
theorem s_X12_takes_r {N : Nat} (hN : 1048576 ≤ N) {x1 : Nat} {σ0 : zS} {tx : Nat → Int32} {n i : Nat} (hR : RF σ0.2.2) (hK : TOK σ0.1) (hY : BYT (σ0.1 224)) (hG : RX σ0.1 tx n i) (hg : σ0.1 218 14 = 0) (hw : x1 < zSn) : Ok (f_X12_takes N 218 x1 σ0) (fun r => Tr [218] σ0 r.2 ∧ ((TOK r.2.1 ∧ (σ0.1 218 11).toInt ≤ (r.2.1 218 11).toInt ∧ (r.1 = 0 → r.2 = σ0 ∧ ¬ isW tx n i x1) ∧ (¬ r.1 = 0 → (isW tx n i x1 ∧ (σ0.1 218 11).toInt < (r.2.1 218 11).toInt) ∧ RX r.2.1 tx n (tkE tx n i))) ∧ (r.2.1 218 7 = σ0.1 218 7 ∧ r.2.1 218 9 = σ0.1 218 9 ∧ r.2.1 218 14 = σ0.1 218 14 ∧ r.2.1 218 15 = σ0.1 218 15 ∧ r.2.1 218 20 = σ0.1 218 20 ∧ r.2.1 218 22 = σ0.1 218 22 ∧ r.2.1 218 23 = σ0.1 218 23 ∧ r.2.1 218 24 = σ0.1 218 24 ∧ r.2.1 218 25 = σ0.1 218 25))) := by
  have hT : Tr [218] σ0 σ0 := Tr.rf
  have hK1 := hK.1
  have tE : σ0.1 224 = tx := hG.1.1
  have nE : (σ0.1 218 9).toInt.toNat = n := hG.1.2
  have pK : TKV (σ0.1 218 11) (σ0.1 218 10) (σ0.1 218 12) (σ0.1 218 13) tx n i := hG.2
  rw [f_X12_takes.eq_1]
  refine ok_gC rfl ?_
  refine ok_zbX (Q := fun V => (V = 0 ∨ V = 1) ∧ (V = 0 → ¬ isW tx n i x1) ∧ (¬ V = 0 → isW tx n i x1)) (xf_X12_is hN (hR.tr hT) hw hK hg hG) (fun v1 hqv1 => ?_)
  have hqv1 : (v1 = 0 ∨ v1 = 1) ∧ (v1 = 0 → ¬ isW tx n i x1) ∧ (¬ v1 = 0 → isW tx n i x1) := hqv1
  have z2 : v1 = 0 ∨ v1 = 1 := hqv1.1
  refine ok_if (fun hc3 => ?_) (fun hc3 => ?_)
  · have w7 := hc3
    have y7 := hqv1.2.1 hc3
    exact ok_rZ (z2) ⟨hT, (show (TOK σ0.1 ∧ (σ0.1 218 11).toInt ≤ (σ0.1 218 11).toInt ∧ (v1 = 0 → σ0 = σ0 ∧ ¬ isW tx n i x1) ∧ (¬ v1 = 0 → (isW tx n i x1 ∧ (σ0.1 218 11).toInt < (σ0.1 218 11).toInt) ∧ RX σ0.1 tx n (tkE tx n i))) ∧ (σ0.1 218 7 = σ0.1 218 7 ∧ σ0.1 218 9 = σ0.1 218 9 ∧ σ0.1 218 14 = σ0.1 218 14 ∧ σ0.1 218 15 = σ0.1 218 15 ∧ σ0.1 218 20 = σ0.1 218 20 ∧ σ0.1 218 22 = σ0.1 218 22 ∧ σ0.1 218 23 = σ0.1 218 23 ∧ σ0.1 218 24 = σ0.1 218 24 ∧ σ0.1 218 25 = σ0.1 218 25) from ⟨by first | exact ⟨hK, by omega, fun _ => ⟨rfl, y7⟩, fun q => absurd w7 q⟩ | exact ⟨hK, by skip; omega, fun q => absurd q w7, fun _ => ⟨⟨y7, by skip; omega⟩, g11q⟩⟩, rfl, rfl, rfl, rfl, rfl, rfl, rfl, rfl, rfl⟩)⟩
  · have w7 := hc3
    have y7 := hqv1.2.2 hc3
    have l7 := hK.2.1 (by rw [pK.2.1, y7.1]; decide)
    refine ok_gC rfl ?_
    refine ok_zbT (Q := fun V σ => ((TOK σ.1 ∧ (σ0.1 218 10).toInt ≤ (σ.1 218 11).toInt) ∧ RX σ.1 tx n (tkE tx n i)) ∧ (σ.1 218 7 = σ0.1 218 7 ∧ σ.1 218 9 = σ0.1 218 9 ∧ σ.1 218 14 = σ0.1 218 14 ∧ σ.1 218 15 = σ0.1 218 15 ∧ σ.1 218 20 = σ0.1 218 20 ∧ σ.1 218 22 = σ0.1 218 22 ∧ σ.1 218 23 = σ0.1 218 23 ∧ σ.1 218 24 = σ0.1 218 24 ∧ σ.1 218 25 = σ0.1 218 25)) hT (s_X12_advance_r hN (hR.tr hT) (TOK_A hK) (by rw [hT.2 224 (by decide)]; exact hY) (RX_i rfl rfl rfl rfl rfl ((hT.2 224 (by decide)).trans tE) nE pK)) (by decide) (fun v4 σ5 hOσ5 hT hqv4 => ?_)
    have hqv4 : ((TOK σ5.1 ∧ (σ0.1 218 10).toInt ≤ (σ5.1 218 11).toInt) ∧ RX σ5.1 tx n (tkE tx n i)) ∧ (σ5.1 218 7 = σ0.1 218 7 ∧ σ5.1 218 9 = σ0.1 218 9 ∧ σ5.1 218 14 = σ0.1 218 14 ∧ σ5.1 218 15 = σ0.1 218 15 ∧ σ5.1 218 20 = σ0.1 218 20 ∧ σ5.1 218 22 = σ0.1 218 22 ∧ σ5.1 218 23 = σ0.1 218 23 ∧ σ5.1 218 24 = σ0.1 218 24 ∧ σ5.1 218 25 = σ0.1 218 25) := hqv4
    have hkv4 := hqv4
    have hqv4 := hqv4.1
    have hK : TOK σ5.1 := by first | exact hqv4.1 | exact hqv4.1.1 | exact TOK_p eσ5 (by decide) hK
    have g7_σ5 : σ5.1 218 7 = (σ0.1 218 7) := hkv4.2.1
    have g9_σ5 : σ5.1 218 9 = (σ0.1 218 9) := hkv4.2.2.1
    have g14_σ5 : σ5.1 218 14 = (σ0.1 218 14) := hkv4.2.2.2.1
    have g15_σ5 : σ5.1 218 15 = (σ0.1 218 15) := hkv4.2.2.2.2.1
    have g20_σ5 : σ5.1 218 20 = (σ0.1 218 20) := hkv4.2.2.2.2.2.1
    have g22_σ5 : σ5.1 218 22 = (σ0.1 218 22) := hkv4.2.2.2.2.2.2.1
    have g23_σ5 : σ5.1 218 23 = (σ0.1 218 23) := hkv4.2.2.2.2.2.2.2.1
    have g24_σ5 : σ5.1 218 24 = (σ0.1 218 24) := hkv4.2.2.2.2.2.2.2.2.1
    have g25_σ5 : σ5.1 218 25 = (σ0.1 218 25) := hkv4.2.2.2.2.2.2.2.2.2
    have m11 := hqv4.1.2
    have g11q := hqv4.2
    exact ok_rZ (z2) ⟨hT, (show (TOK σ5.1 ∧ (σ0.1 218 11).toInt ≤ (σ5.1 218 11).toInt ∧ (v1 = 0 → σ5 = σ0 ∧ ¬ isW tx n i x1) ∧ (¬ v1 = 0 → (isW tx n i x1 ∧ (σ0.1 218 11).toInt < (σ5.1 218 11).toInt) ∧ RX σ5.1 tx n (tkE tx n i))) ∧ (σ5.1 218 7 = σ0.1 218 7 ∧ σ5.1 218 9 = σ0.1 218 9 ∧ σ5.1 218 14 = σ0.1 218 14 ∧ σ5.1 218 15 = σ0.1 218 15 ∧ σ5.1 218 20 = σ0.1 218 20 ∧ σ5.1 218 22 = σ0.1 218 22 ∧ σ5.1 218 23 = σ0.1 218 23 ∧ σ5.1 218 24 = σ0.1 218 24 ∧ σ5.1 218 25 = σ0.1 218 25) from ⟨by first | exact ⟨hK, by omega, fun _ => ⟨rfl, y7⟩, fun q => absurd w7 q⟩ | exact ⟨hK, by (try simp only [g7_σ5, g9_σ5, g14_σ5, g15_σ5, g20_σ5, g22_σ5, g23_σ5, g24_σ5, g25_σ5]); omega, fun q => absurd q w7, fun _ => ⟨⟨y7, by (try simp only [g7_σ5, g9_σ5, g14_σ5, g15_σ5, g20_σ5, g22_σ5, g23_σ5, g24_σ5, g25_σ5]); omega⟩, g11q⟩⟩, g7_σ5, g9_σ5, g14_σ5, g15_σ5, g20_σ5, g22_σ5, g23_σ5, g24_σ5, g25_σ5⟩)⟩

section STP
variable {t : Nat → Int32} {n i : Nat} {m : Int32} {L : List Bool} {sg : Nat}
theorem stp_o (h : isPx t n i ∨ tkK t n i = 40) : stp t n m (i, false, L, sg) = if L.length = 6 then none else some (some (tkE t n i, false, decide (tkK t n i = 40) :: L, sg)) := (if_pos rfl).trans (if_pos h)
theorem ite_any {α : Type} {c : Prop} (d1 d2 : Decidable c) {a b : α} : @ite α c d1 a b = @ite α c d2 a b := by
  rw [Subsingleton.elim d1 d2]
theorem stp_n (h0 : ¬ (isPx t n i ∨ tkK t n i = 40)) (h : tkK t n i = 2) : stp t n m (i, false, L, sg) = if nOK t n i 0 9 then some (some (tkE t n i, true, popP L, sg)) else none := (if_pos rfl).trans ((if_neg h0).trans ((if_pos h).trans (ite_any _ _)))
theorem stp_f (h0 : ¬ (isPx t n i ∨ tkK t n i = 40)) (h : tkK t n i = 123) : stp t n m (i, false, L, sg) = (fam t n m i).map (fun j => some (j, true, popP L, sg)) := (if_pos rfl).trans ((if_neg h0).trans ((if_neg (by rw [h]; decide)).trans (if_pos h)))
theorem stp_a (h0 : ¬ (isPx t n i ∨ tkK t n i = 40)) (h : isW t n i 15) : stp t n m (i, false, L, sg) = some (some (tkE t n i, true, popP L, sg)) := (if_pos rfl).trans ((if_neg h0).trans ((if_neg (by rw [h.1]; decide)).trans ((if_neg (by rw [h.1]; decide)).trans (if_pos h))))
theorem stp_z (h0 : ¬ (isPx t n i ∨ tkK t n i = 40)) (h1 : ¬ tkK t n i = 2) (h2 : ¬ tkK t n i = 123) (h : ¬ isW t n i 15) : stp t n m (i, false, L, sg) = none := (if_pos rfl).trans ((if_neg h0).trans ((if_neg h1).trans ((if_neg h2).trans (if_neg h))))
theorem stp_c (h : isCb (tkK t n i)) : stp t n m (i, true, L, sg) = if sg = 24 then none else some (some (tkE t n i, false, L, sg + 1)) := (if_neg (fun q => Bool.noConfusion (show true = false from q))).trans (if_pos h)
theorem stp_p (h0 : ¬ isCb (tkK t n i)) (h : tkK t n i = 41 ∧ true ∈ L) : stp t n m (i, true, L, sg) = some (some (tkE t n i, true, popP L.tail, sg))     := (if_neg (fun q => Bool.noConfusion (show true = false from q))).trans ((if_neg h0).trans (if_pos h))
theorem stp_e (h0 : ¬ isCb (tkK t n i)) (h : ¬ (tkK t n i = 41 ∧ true ∈ L)) : stp t n m (i, true, L, sg) = some none     := (if_neg (fun q => Bool.noConfusion (show true = false from q))).trans ((if_neg h0).trans (if_neg h))
theorem popP_i : ∀ L : List Bool, popP (popP L) = popP L
  | [] => rfl
  | true :: L => rfl
  | false :: L => popP_i L
def REL (s : Nat → Nat → Int32) (t : Nat → Int32) (n : Nat) (c : Cf) : Prop := (RX s t n c.1 ∧ c.1 ≤ n) ∧ (c.2.2.1 = lst (s 230) (s 218 22).toInt.toNat ∧ NP (s 230) (s 218 22).toInt.toNat) ∧ c.2.2.2 = (s 218 25).toInt.toNat ∧ (c.2.1 = true → PIL s 1 ∧ popP c.2.2.1 = c.2.2.1) ∧ (c.2.1 = false → PIL s 0)
end STP
end Zq11_6
section Zq11_7
theorem z50 {v : Int32} (h : 0 ≤ v.toInt ∧ v.toInt ≤ 5) : ¬ 50 + v = 100 := fun q => by
  have := congrArg Int32.toInt q
  rw [ti_add] at this
  simp only [Int32.reduceToInt] at this
  omega
theorem famF_le {t : Nat → Int32} {n : Nat} {m : Int32} : ∀ {f i j : Nat}, i ≤ n → famF t n m f i = some j → j ≤ n
  | 0, i, j, _, h => by cases h
  | f + 1, i, j, hi, h => by
    have h : (if mOK t n i m then (if tkK t n (tkE t n i) = 44 then famF t n m f (tkE t n (tkE t n i)) else if tkK t n (tkE t n i) = 125 then some (tkE t n (tkE t n i)) else none) else none) = some j := h
    have b := (tk_le (t := t) hi).2.2
    have d := (tk_le (t := t) b).2.2
    split at h
    · split at h
      · exact famF_le d h
      · split at h
        · rw [← Option.some.inj h]; exact d
        · cases h
    · cases h
theorem fam_le {t : Nat → Int32} {n : Nat} {m : Int32} {i j : Nat} (hi : i ≤ n) (h : fam t n m i = some j) : j ≤ n := by
  have b := (tk_le (t := t) hi).2.2
  have d := (tk_le (t := t) b).2.2
  unfold fam at h
  split at h
  · rw [← Option.some.inj h]; exact d
  · exact famF_le b h

set_option maxHeartbeats 4000000 in
set_option maxRecDepth 100000 in
theorem s_X12_readsPart_220_r {N : Nat} (hN : 1048576 ≤ N) {x1 : Int32} {σ0 : zS} {tx : Nat → Int32} {n i : Nat} (hR : RF σ0.2.2) (hK : TOK σ0.1) (hY : BYT (σ0.1 224)) (hG : RX σ0.1 tx n i) (hg : σ0.1 218 14 = 0) (hB : ZB σ0.1) (hn : 0 ≤ x1.toInt ∧ x1.toInt ≤ 10) (ha : 0 ≤ (σ0.1 218 20).toInt ∧ (σ0.1 218 20).toInt ≤ 1024) (hP : PIL σ0.1 0) (hNP : NP (σ0.1 230) (σ0.1 218 22).toInt.toNat) (hi : i ≤ n) : Ok (f_X12_readsPart N 218 x1 220 σ0) (fun r => Tr [218, 226, 227, 228, 229, 230] σ0 r.2 ∧ ((TOK r.2.1 ∧ ((σ0.1 218 11).toInt ≤ (r.2.1 218 11).toInt ∧ 0 ≤ (r.2.1 218 22).toInt ∧ (r.2.1 218 22).toInt ≤ 40) ∧ (r.2.1 218 14 = 0 → (σ0.1 218 11).toInt < (r.2.1 218 11).toInt ∧ ∃ c, stp tx n x1 (i, false, (lst (σ0.1 230) (σ0.1 218 22).toInt.toNat), (σ0.1 218 25).toInt.toNat) = some (some c) ∧ REL r.2.1 tx n c ∧ (r.1 = 0 ↔ c.2.1 = false)) ∧ (¬ r.2.1 218 14 = 0 → stp tx n x1 (i, false, (lst (σ0.1 230) (σ0.1 218 22).toInt.toNat), (σ0.1 218 25).toInt.toNat) = none) ∧ ZB r.2.1) ∧ (r.2.1 218 7 = σ0.1 218 7 ∧ r.2.1 218 9 = σ0.1 218 9 ∧ r.2.1 218 20 = σ0.1 218 20 ∧ r.2.1 218 25 = σ0.1 218 25))) := by
  have hT : Tr [218, 226, 227, 228, 229, 230] σ0 σ0 := Tr.rf
  have hK1 := hK.1
  have tE : σ0.1 224 = tx := hG.1.1
  have nE : (σ0.1 218 9).toInt.toNat = n := hG.1.2
  have pK : TKV (σ0.1 218 11) (σ0.1 218 10) (σ0.1 218 12) (σ0.1 218 13) tx n i := hG.2
  have hb0 := PIL_b hP (by decide)
  have hP0 := hP
  obtain ⟨b8, d8, r8, hS, h22, hd, hd6, hp⟩ := hP0
  have hSb := Stk_b hS
  have le1 := (tk_le (t := tx) hi).2.2
  rw [f_X12_readsPart.eq_1]
  refine ok_gC rfl ?_
  refine ok_zbX (Q := fun V => (V = -1 ∧ ¬ isPx tx n i) ∨ ((0 ≤ V.toInt ∧ V.toInt ≤ 5) ∧ isPx tx n i)) (xe_X12_prefixOf hN (hR.tr hT) hK hg hG) (fun v1 hqv1 => ?_)
  have hqv1 : (v1 = -1 ∧ ¬ isPx tx n i) ∨ ((0 ≤ v1.toInt ∧ v1.toInt ≤ 5) ∧ isPx tx n i) := hqv1
  refine ok_if (fun hc3 => ?_) (fun hc3 => ?_)
  · have e7 := hc3
    have px : ¬ isPx tx n i := by rcases hqv1 with q | q; exact q.2; exact absurd (congrArg Int32.toInt hc3) (by rw [show (-1 : Int32).toInt = -1 by decide]; omega)
    refine ok_gI rfl ?_
    refine ok_if (fun hc5 => ?_) (fun hc5 => ?_)
    · have e16 := hc5
      have k16 : tkK tx n i = 40 := pK.2.1.symm.trans hc5
      rw [J_X12_readsPart_19.eq_1]
      refine ok_if (fun hc6 => ?_) (fun hc6 => ?_)
      · have e22 := hc6
        refine ok_gC rfl ?_
        refine ok_zbT (Q := fun V σ => (TOK σ.1 ∧ (σ0.1 218 11).toInt ≤ (σ.1 218 11).toInt ∧ (0 ≤ (σ.1 218 22).toInt ∧ (σ.1 218 22).toInt ≤ 40) ∧ (σ.1 218 14 = 0 → ((σ0.1 218 11).toInt < (σ.1 218 11).toInt ∧ PIL σ.1 0) ∧ (¬ (lst (σ0.1 230) (σ0.1 218 22).toInt.toNat).length = 6 ∧ RX σ.1 tx n (tkE tx n i)) ∧ lst (σ.1 230) (σ.1 218 22).toInt.toNat = decide ((100 : Int32) = 100) :: (lst (σ0.1 230) (σ0.1 218 22).toInt.toNat) ∧ NP (σ.1 230) (σ.1 218 22).toInt.toNat) ∧ (¬ σ.1 218 14 = 0 → (lst (σ0.1 230) (σ0.1 218 22).toInt.toNat).length = 6)) ∧ (σ.1 218 7 = σ0.1 218 7 ∧ σ.1 218 9 = σ0.1 218 9 ∧ σ.1 218 20 = σ0.1 218 20 ∧ σ.1 218 23 = σ0.1 218 23 ∧ σ.1 218 25 = σ0.1 218 25)) hT (s_X12_opens_r hN (hR.tr hT) (hK) (by rw [hT.2 224 (by decide)]; exact hY) (RX_i rfl rfl rfl rfl rfl ((hT.2 224 (by decide)).trans tE) nE pK) (hg) (hP) (by first | decide | (have w8 := w7.1; rw [ti_add]; simp only [Int32.reduceToInt]; omega) | exact absurd e7 n22) (by first | (rw [pK.2.1, k7]; decide) | (rw [e16]; decide)) (hNP)) (by decide) (fun v7 σ8 hOσ8 hT hqv7 => ?_)
        have hqv7 : (TOK σ8.1 ∧ (σ0.1 218 11).toInt ≤ (σ8.1 218 11).toInt ∧ (0 ≤ (σ8.1 218 22).toInt ∧ (σ8.1 218 22).toInt ≤ 40) ∧ (σ8.1 218 14 = 0 → ((σ0.1 218 11).toInt < (σ8.1 218 11).toInt ∧ PIL σ8.1 0) ∧ (¬ (lst (σ0.1 230) (σ0.1 218 22).toInt.toNat).length = 6 ∧ RX σ8.1 tx n (tkE tx n i)) ∧ lst (σ8.1 230) (σ8.1 218 22).toInt.toNat = decide ((100 : Int32) = 100) :: (lst (σ0.1 230) (σ0.1 218 22).toInt.toNat) ∧ NP (σ8.1 230) (σ8.1 218 22).toInt.toNat) ∧ (¬ σ8.1 218 14 = 0 → (lst (σ0.1 230) (σ0.1 218 22).toInt.toNat).length = 6)) ∧ (σ8.1 218 7 = σ0.1 218 7 ∧ σ8.1 218 9 = σ0.1 218 9 ∧ σ8.1 218 20 = σ0.1 218 20 ∧ σ8.1 218 23 = σ0.1 218 23 ∧ σ8.1 218 25 = σ0.1 218 25) := hqv7
        have hkv7 := hqv7
        have hqv7 := hqv7.1
        have hK : TOK σ8.1 := by first | exact hqv7.1 | exact hqv7.1.1 | exact TOK_p eσ8 (by decide) hK
        have hB : ZB σ8.1 := ZB.tr hOσ8 (by decide) hB
        have g7_σ8 : σ8.1 218 7 = (σ0.1 218 7) := hkv7.2.1
        have g9_σ8 : σ8.1 218 9 = (σ0.1 218 9) := hkv7.2.2.1
        have g20_σ8 : σ8.1 218 20 = (σ0.1 218 20) := hkv7.2.2.2.1
        have g23_σ8 : σ8.1 218 23 = (σ0.1 218 23) := hkv7.2.2.2.2.1
        have g25_σ8 : σ8.1 218 25 = (σ0.1 218 25) := hkv7.2.2.2.2.2
        have m34 := hqv7.2
        have hpx : isPx tx n i ∨ tkK tx n i = 40 := by first | exact Or.inl w7.2 | exact Or.inr k16
        exact ok_rZ (Or.inl rfl) ⟨hT, (show (TOK σ8.1 ∧ ((σ0.1 218 11).toInt ≤ (σ8.1 218 11).toInt ∧ 0 ≤ (σ8.1 218 22).toInt ∧ (σ8.1 218 22).toInt ≤ 40) ∧ (σ8.1 218 14 = 0 → (σ0.1 218 11).toInt < (σ8.1 218 11).toInt ∧ ∃ c, stp tx n x1 (i, false, (lst (σ0.1 230) (σ0.1 218 22).toInt.toNat), (σ0.1 218 25).toInt.toNat) = some (some c) ∧ REL σ8.1 tx n c ∧ ((0 : Int32) = 0 ↔ c.2.1 = false)) ∧ (¬ σ8.1 218 14 = 0 → stp tx n x1 (i, false, (lst (σ0.1 230) (σ0.1 218 22).toInt.toNat), (σ0.1 218 25).toInt.toNat) = none) ∧ ZB σ8.1) ∧ (σ8.1 218 7 = σ0.1 218 7 ∧ σ8.1 218 9 = σ0.1 218 9 ∧ σ8.1 218 20 = σ0.1 218 20 ∧ σ8.1 218 25 = σ0.1 218 25) from ⟨by first | exact ⟨hK, ⟨m34.1, m34.2.1⟩, fun q => ⟨(m34.2.2.1 q).1.1, (tkE tx n i, false, decide (tkK tx n i = 40) :: (lst (σ0.1 230) (σ0.1 218 22).toInt.toNat), (σ0.1 218 25).toInt.toNat), (stp_o hpx).trans (if_neg (m34.2.2.1 q).2.1.1), ⟨⟨(m34.2.2.1 q).2.1.2, le1⟩, ⟨by first | exact ((m34.2.2.1 q).2.2.1.trans (by rw [k16]; rfl)).symm | exact ((m34.2.2.1 q).2.2.1.trans (by rw [k7, decide_eq_false (z50 w7.1)]; rfl)).symm, (m34.2.2.1 q).2.2.2⟩, by rw [g25_σ8], fun h => Bool.noConfusion (show false = true from h), fun _ => (m34.2.2.1 q).1.2⟩, ⟨fun _ => rfl, fun _ => rfl⟩⟩, fun q => (stp_o hpx).trans (if_pos (m34.2.2.2 q)), hB⟩ | exact absurd e7 n22 | exact absurd e22 n7 | exact absurd y196 n189 | exact ⟨hK, ⟨by (try simp only [g7_σ8, g9_σ8, g20_σ8, g23_σ8, g25_σ8]); omega, by (try simp only [g7_σ8, g9_σ8, g20_σ8, g23_σ8, g25_σ8]); omega⟩, fun q => absurd q (by (try simp only [g7_σ8, g9_σ8, g20_σ8, g23_σ8, g25_σ8]); exact n196), fun _ => st9, hB⟩ | exact ⟨hK, ⟨by (try simp only [g7_σ8, g9_σ8, g20_σ8, g23_σ8, g25_σ8]); omega, by omega⟩, fun _ => ⟨by (try simp only [g7_σ8, g9_σ8, g20_σ8, g23_σ8, g25_σ8]); exact ga9, _, st9, ⟨⟨RX_i g9_σ8 rfl rfl rfl rfl ((hT.2 224 (by decide)).trans tE) nE pK9, le9⟩, ⟨by rw [rfl]; exact l201.2.symm, by rw [rfl]; exact NP_le hNP l201.1⟩, by rw [g25_σ8], fun _ => ⟨h201, popP_i _⟩, fun h => Bool.noConfusion (show true = false from h)⟩, ⟨fun h => absurd h (by decide), fun h => Bool.noConfusion (show true = false from h)⟩⟩, fun q => absurd (by (try simp only [g7_σ8, g9_σ8, g20_σ8, g23_σ8, g25_σ8]); exact y196) q, hB⟩, g7_σ8, g9_σ8, g20_σ8, g25_σ8⟩)⟩
      · have n22 := hc6
        refine ok_gC rfl ?_
        refine ok_zbT (Q := fun V σ => (TOK σ.1 ∧ (σ0.1 218 11).toInt ≤ (σ.1 218 11).toInt ∧ (0 ≤ (σ.1 218 22).toInt ∧ (σ.1 218 22).toInt ≤ 40) ∧ (σ.1 218 14 = 0 → ((σ0.1 218 11).toInt < (σ.1 218 11).toInt ∧ PIL σ.1 0) ∧ (¬ (lst (σ0.1 230) (σ0.1 218 22).toInt.toNat).length = 6 ∧ RX σ.1 tx n (tkE tx n i)) ∧ lst (σ.1 230) (σ.1 218 22).toInt.toNat = decide ((50 + v1) = 100) :: (lst (σ0.1 230) (σ0.1 218 22).toInt.toNat) ∧ NP (σ.1 230) (σ.1 218 22).toInt.toNat) ∧ (¬ σ.1 218 14 = 0 → (lst (σ0.1 230) (σ0.1 218 22).toInt.toNat).length = 6)) ∧ (σ.1 218 7 = σ0.1 218 7 ∧ σ.1 218 9 = σ0.1 218 9 ∧ σ.1 218 20 = σ0.1 218 20 ∧ σ.1 218 23 = σ0.1 218 23 ∧ σ.1 218 25 = σ0.1 218 25)) hT (s_X12_opens_r hN (hR.tr hT) (hK) (by rw [hT.2 224 (by decide)]; exact hY) (RX_i rfl rfl rfl rfl rfl ((hT.2 224 (by decide)).trans tE) nE pK) (hg) (hP) (by first | decide | (have w8 := w7.1; rw [ti_add]; simp only [Int32.reduceToInt]; omega) | exact absurd e7 n22) (by first | (rw [pK.2.1, k7]; decide) | (rw [e16]; decide)) (hNP)) (by decide) (fun v9 σ10 hOσ10 hT hqv9 => ?_)
        have hqv9 : (TOK σ10.1 ∧ (σ0.1 218 11).toInt ≤ (σ10.1 218 11).toInt ∧ (0 ≤ (σ10.1 218 22).toInt ∧ (σ10.1 218 22).toInt ≤ 40) ∧ (σ10.1 218 14 = 0 → ((σ0.1 218 11).toInt < (σ10.1 218 11).toInt ∧ PIL σ10.1 0) ∧ (¬ (lst (σ0.1 230) (σ0.1 218 22).toInt.toNat).length = 6 ∧ RX σ10.1 tx n (tkE tx n i)) ∧ lst (σ10.1 230) (σ10.1 218 22).toInt.toNat = decide ((50 + v1) = 100) :: (lst (σ0.1 230) (σ0.1 218 22).toInt.toNat) ∧ NP (σ10.1 230) (σ10.1 218 22).toInt.toNat) ∧ (¬ σ10.1 218 14 = 0 → (lst (σ0.1 230) (σ0.1 218 22).toInt.toNat).length = 6)) ∧ (σ10.1 218 7 = σ0.1 218 7 ∧ σ10.1 218 9 = σ0.1 218 9 ∧ σ10.1 218 20 = σ0.1 218 20 ∧ σ10.1 218 23 = σ0.1 218 23 ∧ σ10.1 218 25 = σ0.1 218 25) := hqv9
        have hkv9 := hqv9
        have hqv9 := hqv9.1
        have hK : TOK σ10.1 := by first | exact hqv9.1 | exact hqv9.1.1 | exact TOK_p eσ10 (by decide) hK
        have hB : ZB σ10.1 := ZB.tr hOσ10 (by decide) hB
        have g7_σ10 : σ10.1 218 7 = (σ0.1 218 7) := hkv9.2.1
        have g9_σ10 : σ10.1 218 9 = (σ0.1 218 9) := hkv9.2.2.1
        have g20_σ10 : σ10.1 218 20 = (σ0.1 218 20) := hkv9.2.2.2.1
        have g23_σ10 : σ10.1 218 23 = (σ0.1 218 23) := hkv9.2.2.2.2.1
        have g25_σ10 : σ10.1 218 25 = (σ0.1 218 25) := hkv9.2.2.2.2.2
        have m34 := hqv9.2
        have hpx : isPx tx n i ∨ tkK tx n i = 40 := by first | exact Or.inl w7.2 | exact Or.inr k16
        exact ok_rZ (Or.inl rfl) ⟨hT, (show (TOK σ10.1 ∧ ((σ0.1 218 11).toInt ≤ (σ10.1 218 11).toInt ∧ 0 ≤ (σ10.1 218 22).toInt ∧ (σ10.1 218 22).toInt ≤ 40) ∧ (σ10.1 218 14 = 0 → (σ0.1 218 11).toInt < (σ10.1 218 11).toInt ∧ ∃ c, stp tx n x1 (i, false, (lst (σ0.1 230) (σ0.1 218 22).toInt.toNat), (σ0.1 218 25).toInt.toNat) = some (some c) ∧ REL σ10.1 tx n c ∧ ((0 : Int32) = 0 ↔ c.2.1 = false)) ∧ (¬ σ10.1 218 14 = 0 → stp tx n x1 (i, false, (lst (σ0.1 230) (σ0.1 218 22).toInt.toNat), (σ0.1 218 25).toInt.toNat) = none) ∧ ZB σ10.1) ∧ (σ10.1 218 7 = σ0.1 218 7 ∧ σ10.1 218 9 = σ0.1 218 9 ∧ σ10.1 218 20 = σ0.1 218 20 ∧ σ10.1 218 25 = σ0.1 218 25) from ⟨by first | exact ⟨hK, ⟨m34.1, m34.2.1⟩, fun q => ⟨(m34.2.2.1 q).1.1, (tkE tx n i, false, decide (tkK tx n i = 40) :: (lst (σ0.1 230) (σ0.1 218 22).toInt.toNat), (σ0.1 218 25).toInt.toNat), (stp_o hpx).trans (if_neg (m34.2.2.1 q).2.1.1), ⟨⟨(m34.2.2.1 q).2.1.2, le1⟩, ⟨by first | exact ((m34.2.2.1 q).2.2.1.trans (by rw [k16]; rfl)).symm | exact ((m34.2.2.1 q).2.2.1.trans (by rw [k7, decide_eq_false (z50 w7.1)]; rfl)).symm, (m34.2.2.1 q).2.2.2⟩, by rw [g25_σ10], fun h => Bool.noConfusion (show false = true from h), fun _ => (m34.2.2.1 q).1.2⟩, ⟨fun _ => rfl, fun _ => rfl⟩⟩, fun q => (stp_o hpx).trans (if_pos (m34.2.2.2 q)), hB⟩ | exact absurd e7 n22 | exact absurd e22 n7 | exact absurd y196 n189 | exact ⟨hK, ⟨by (try simp only [g7_σ10, g9_σ10, g20_σ10, g23_σ10, g25_σ10]); omega, by (try simp only [g7_σ10, g9_σ10, g20_σ10, g23_σ10, g25_σ10]); omega⟩, fun q => absurd q (by (try simp only [g7_σ10, g9_σ10, g20_σ10, g23_σ10, g25_σ10]); exact n196), fun _ => st9, hB⟩ | exact ⟨hK, ⟨by (try simp only [g7_σ10, g9_σ10, g20_σ10, g23_σ10, g25_σ10]); omega, by omega⟩, fun _ => ⟨by (try simp only [g7_σ10, g9_σ10, g20_σ10, g23_σ10, g25_σ10]); exact ga9, _, st9, ⟨⟨RX_i g9_σ10 rfl rfl rfl rfl ((hT.2 224 (by decide)).trans tE) nE pK9, le9⟩, ⟨by rw [rfl]; exact l201.2.symm, by rw [rfl]; exact NP_le hNP l201.1⟩, by rw [g25_σ10], fun _ => ⟨h201, popP_i _⟩, fun h => Bool.noConfusion (show true = false from h)⟩, ⟨fun h => absurd h (by decide), fun h => Bool.noConfusion (show true = false from h)⟩⟩, fun q => absurd (by (try simp only [g7_σ10, g9_σ10, g20_σ10, g23_σ10, g25_σ10]); exact y196) q, hB⟩, g7_σ10, g9_σ10, g20_σ10, g25_σ10⟩)⟩
    · have h0q : ¬ (isPx tx n i ∨ tkK tx n i = 40) := fun q => q.elim px (fun q => hc5 (pK.2.1.trans q))
      refine ok_gI rfl ?_
      refine ok_if (fun hc12 => ?_) (fun hc12 => ?_)
      · have k44 : tkK tx n i = 2 := pK.2.1.symm.trans hc12
        refine ok_gC rfl ?_
        refine ok_zbT (Q := fun V σ => (TOK σ.1 ∧ (σ0.1 218 11).toInt ≤ (σ.1 218 11).toInt ∧ (σ.1 218 14 = 0 → ((σ0.1 218 11).toInt < (σ.1 218 11).toInt ∧ nOK tx n i (0 : Int32) (9 : Int32)) ∧ V.toInt = min 99999 (Nv tx n (tkF tx n i) 0 : Int) ∧ RX σ.1 tx n (tkE tx n i)) ∧ (¬ σ.1 218 14 = 0 → V = 0 ∧ ¬ nOK tx n i (0 : Int32) (9 : Int32))) ∧ (σ.1 218 7 = σ0.1 218 7 ∧ σ.1 218 9 = σ0.1 218 9 ∧ σ.1 218 20 = σ0.1 218 20 ∧ σ.1 218 22 = σ0.1 218 22 ∧ σ.1 218 23 = σ0.1 218 23 ∧ σ.1 218 24 = σ0.1 218 24 ∧ σ.1 218 25 = σ0.1 218 25)) hT (s_X12_number_r hN (hR.tr hT) (hK) (by rw [hT.2 224 (by decide)]; exact hY) (RX_i rfl rfl rfl rfl rfl ((hT.2 224 (by decide)).trans tE) nE pK) (hg)) (by decide) (fun v13 σ14 hOσ14 hT hqv13 => ?_)
        have hqv13 : (TOK σ14.1 ∧ (σ0.1 218 11).toInt ≤ (σ14.1 218 11).toInt ∧ (σ14.1 218 14 = 0 → ((σ0.1 218 11).toInt < (σ14.1 218 11).toInt ∧ nOK tx n i (0 : Int32) (9 : Int32)) ∧ v13.toInt = min 99999 (Nv tx n (tkF tx n i) 0 : Int) ∧ RX σ14.1 tx n (tkE tx n i)) ∧ (¬ σ14.1 218 14 = 0 → v13 = 0 ∧ ¬ nOK tx n i (0 : Int32) (9 : Int32))) ∧ (σ14.1 218 7 = σ0.1 218 7 ∧ σ14.1 218 9 = σ0.1 218 9 ∧ σ14.1 218 20 = σ0.1 218 20 ∧ σ14.1 218 22 = σ0.1 218 22 ∧ σ14.1 218 23 = σ0.1 218 23 ∧ σ14.1 218 24 = σ0.1 218 24 ∧ σ14.1 218 25 = σ0.1 218 25) := hqv13
        have hkv13 := hqv13
        have hqv13 := hqv13.1
        have r230_σ14 : σ14.1 230 = σ0.1 230 := hOσ14.2 230 (by decide)
        have hK : TOK σ14.1 := by first | exact hqv13.1 | exact hqv13.1.1 | exact TOK_p eσ14 (by decide) hK
        have hB : ZB σ14.1 := ZB.tr hOσ14 (by decide) hB
        have g7_σ14 : σ14.1 218 7 = (σ0.1 218 7) := hkv13.2.1
        have g9_σ14 : σ14.1 218 9 = (σ0.1 218 9) := hkv13.2.2.1
        have g20_σ14 : σ14.1 218 20 = (σ0.1 218 20) := hkv13.2.2.2.1
        have g22_σ14 : σ14.1 218 22 = (σ0.1 218 22) := hkv13.2.2.2.2.1
        have g23_σ14 : σ14.1 218 23 = (σ0.1 218 23) := hkv13.2.2.2.2.2.1
        have g24_σ14 : σ14.1 218 24 = (σ0.1 218 24) := hkv13.2.2.2.2.2.2.1
        have g25_σ14 : σ14.1 218 25 = (σ0.1 218 25) := hkv13.2.2.2.2.2.2.2
        have m51 := hqv13.2.1
        have u51 := hqv13.2.2.1
        have f51 := hqv13.2.2.2
        have b51 : 0 ≤ v13.toInt ∧ v13.toInt ≤ 9 := by by_cases h9 : σ14.1 218 14 = 0; have h8 := (u51 h9).1.2.2.2; have h7 := (u51 h9).2.1; simp only [Int32.reduceToInt] at h8; omega; rw [(f51 h9).1]; decide
        have q51 := p1024 (p := v13) rfl b51.1 (by omega)
        refine ok_gC rfl ?_
        refine ok_zbT (Q := fun V σ => (TOK σ.1 ∧ ZB σ.1 ∧ σ.1 218 23 = σ14.1 218 23 + 1) ∧ (σ.1 218 7 = σ14.1 218 7 ∧ σ.1 218 9 = σ14.1 218 9 ∧ σ.1 218 10 = σ14.1 218 10 ∧ σ.1 218 11 = σ14.1 218 11 ∧ σ.1 218 12 = σ14.1 218 12 ∧ σ.1 218 13 = σ14.1 218 13 ∧ σ.1 218 14 = σ14.1 218 14 ∧ σ.1 218 15 = σ14.1 218 15 ∧ σ.1 218 20 = σ14.1 218 20 ∧ σ.1 218 22 = σ14.1 218 22 ∧ σ.1 218 24 = σ14.1 218 24 ∧ σ.1 218 25 = σ14.1 218 25)) hT (s_X12_pushesEmpty hN (hR.tr hT) (hK) (by rw [hT.2 224 (by decide)]; exact hY) (hB) (by (try simp only [g7_σ14, g9_σ14, g20_σ14, g22_σ14, g23_σ14, g24_σ14, g25_σ14]); omega)) (by decide) (fun v15 σ16 hOσ16 hT hqv15 => ?_)
        have hqv15 : (TOK σ16.1 ∧ ZB σ16.1 ∧ σ16.1 218 23 = σ14.1 218 23 + 1) ∧ (σ16.1 218 7 = σ14.1 218 7 ∧ σ16.1 218 9 = σ14.1 218 9 ∧ σ16.1 218 10 = σ14.1 218 10 ∧ σ16.1 218 11 = σ14.1 218 11 ∧ σ16.1 218 12 = σ14.1 218 12 ∧ σ16.1 218 13 = σ14.1 218 13 ∧ σ16.1 218 14 = σ14.1 218 14 ∧ σ16.1 218 15 = σ14.1 218 15 ∧ σ16.1 218 20 = σ14.1 218 20 ∧ σ16.1 218 22 = σ14.1 218 22 ∧ σ16.1 218 24 = σ14.1 218 24 ∧ σ16.1 218 25 = σ14.1 218 25) := hqv15
        have hkv15 := hqv15
        have hqv15 := hqv15.1
        have r230_σ16 : σ16.1 230 = σ0.1 230 := (hOσ16.2 230 (by decide)).trans r230_σ14
        have hK : TOK σ16.1 := by first | exact hqv15.1 | exact hqv15.1.1 | exact TOK_p eσ16 (by decide) hK
        have hB : ZB σ16.1 := by first | exact hqv15.2.1 | exact hqv15.2.2.2.2.1 | exact ZB_s eσ16 hB
        try simp only [g7_σ14, g9_σ14, g20_σ14, g22_σ14, g23_σ14, g24_σ14, g25_σ14] at hqv15
        have g7_σ16 : σ16.1 218 7 = (σ0.1 218 7) := (hkv15.2.1).trans g7_σ14
        have g9_σ16 : σ16.1 218 9 = (σ0.1 218 9) := (hkv15.2.2.1).trans g9_σ14
        have g10_σ16 : σ16.1 218 10 = (σ14.1 218 10) := hkv15.2.2.2.1
        have g11_σ16 : σ16.1 218 11 = (σ14.1 218 11) := hkv15.2.2.2.2.1
        have g12_σ16 : σ16.1 218 12 = (σ14.1 218 12) := hkv15.2.2.2.2.2.1
        have g13_σ16 : σ16.1 218 13 = (σ14.1 218 13) := hkv15.2.2.2.2.2.2.1
        have g14_σ16 : σ16.1 218 14 = (σ14.1 218 14) := hkv15.2.2.2.2.2.2.2.1
        have g15_σ16 : σ16.1 218 15 = (σ14.1 218 15) := hkv15.2.2.2.2.2.2.2.2.1
        have g20_σ16 : σ16.1 218 20 = (σ0.1 218 20) := (hkv15.2.2.2.2.2.2.2.2.2.1).trans g20_σ14
        have g22_σ16 : σ16.1 218 22 = (σ0.1 218 22) := (hkv15.2.2.2.2.2.2.2.2.2.2.1).trans g22_σ14
        have g24_σ16 : σ16.1 218 24 = (σ0.1 218 24) := (hkv15.2.2.2.2.2.2.2.2.2.2.2.1).trans g24_σ14
        have g25_σ16 : σ16.1 218 25 = (σ0.1 218 25) := (hkv15.2.2.2.2.2.2.2.2.2.2.2.2).trans g25_σ14
        have g57 := hqv15.2.2
        have s57 : (σ16.1 218 23).toInt = ((b8 + 1 : Nat) : Int) := by rw [g57, ti_add]; simp only [Int32.reduceToInt]; omega
        have p57 : ((σ16.1 218 23) - 1).toInt = (b8 : Int) := by rw [ti_sub, s57]; simp only [Int32.reduceToInt]; omega
        have m57 := p1024 p57 (by omega) (by omega)
        refine ok_lp (fun t : Int32 × zS => Tr [218, 226, 227, 228, 229, 230] σ0 (t.2) ∧ (0 ≤ (t.1).toInt) ∧ (TOK (t.2).1) ∧ (ZB (t.2).1) ∧ ((t.2).1 218 7 = (σ0.1 218 7)) ∧ ((t.2).1 218 9 = (σ0.1 218 9)) ∧ ((t.2).1 218 10 = (σ14.1 218 10)) ∧ ((t.2).1 218 11 = (σ14.1 218 11)) ∧ ((t.2).1 218 12 = (σ14.1 218 12)) ∧ ((t.2).1 218 13 = (σ14.1 218 13)) ∧ ((t.2).1 218 14 = (σ14.1 218 14)) ∧ ((t.2).1 218 15 = (σ14.1 218 15)) ∧ ((t.2).1 218 20 = (σ0.1 218 20)) ∧ ((t.2).1 218 22 = (σ0.1 218 22)) ∧ ((t.2).1 218 23 = (σ16.1 218 23)) ∧ ((t.2).1 218 24 = (σ0.1 218 24)) ∧ ((t.2).1 218 25 = (σ0.1 218 25)) ∧ ((t.2).1 230 = σ0.1 230)) (fun t : Int32 × zS => (1024 - (t.1).toInt).toNat) (fun again17 t hI ih63_17 => ?_) N _ (show Tr [218, 226, 227, 228, 229, 230] σ0 σ16 ∧ (0 ≤ (0 : Int32).toInt) ∧ (TOK σ16.1) ∧ (ZB σ16.1) ∧ (σ16.1 218 7 = (σ0.1 218 7)) ∧ (σ16.1 218 9 = (σ0.1 218 9)) ∧ (σ16.1 218 10 = (σ14.1 218 10)) ∧ (σ16.1 218 11 = (σ14.1 218 11)) ∧ (σ16.1 218 12 = (σ14.1 218 12)) ∧ (σ16.1 218 13 = (σ14.1 218 13)) ∧ (σ16.1 218 14 = (σ14.1 218 14)) ∧ (σ16.1 218 15 = (σ14.1 218 15)) ∧ (σ16.1 218 20 = (σ0.1 218 20)) ∧ (σ16.1 218 22 = (σ0.1 218 22)) ∧ (σ16.1 218 23 = (σ16.1 218 23)) ∧ (σ16.1 218 24 = (σ0.1 218 24)) ∧ (σ16.1 218 25 = (σ0.1 218 25)) ∧ (σ16.1 230 = σ0.1 230) from ⟨hT, (by decide), hK, hB, g7_σ16, g9_σ16, g10_σ16, g11_σ16, g12_σ16, g13_σ16, g14_σ16, g15_σ16, g20_σ16, g22_σ16, rfl, g24_σ16, g25_σ16, r230_σ16⟩) (show (1024 - (0 : Int32).toInt).toNat < N from (by simp only [Int32.reduceToInt]; omega))
        obtain ⟨x5_17, σ17⟩ := t
        have hI : Tr [218, 226, 227, 228, 229, 230] σ0 σ17 ∧ (0 ≤ x5_17.toInt) ∧ (TOK σ17.1) ∧ (ZB σ17.1) ∧ (σ17.1 218 7 = (σ0.1 218 7)) ∧ (σ17.1 218 9 = (σ0.1 218 9)) ∧ (σ17.1 218 10 = (σ14.1 218 10)) ∧ (σ17.1 218 11 = (σ14.1 218 11)) ∧ (σ17.1 218 12 = (σ14.1 218 12)) ∧ (σ17.1 218 13 = (σ14.1 218 13)) ∧ (σ17.1 218 14 = (σ14.1 218 14)) ∧ (σ17.1 218 15 = (σ14.1 218 15)) ∧ (σ17.1 218 20 = (σ0.1 218 20)) ∧ (σ17.1 218 22 = (σ0.1 218 22)) ∧ (σ17.1 218 23 = (σ16.1 218 23)) ∧ (σ17.1 218 24 = (σ0.1 218 24)) ∧ (σ17.1 218 25 = (σ0.1 218 25)) ∧ (σ17.1 230 = σ0.1 230) := hI
        obtain ⟨hT, hI17, hK, hB, g7_σ17, g9_σ17, g10_σ17, g11_σ17, g12_σ17, g13_σ17, g14_σ17, g15_σ17, g20_σ17, g22_σ17, g23_σ17, g24_σ17, g25_σ17, r230_σ17⟩ := hI
        rw [F_X12_readsPart_63.eq_1]
        refine ok_if (fun hc18 => ?_) (fun hc18 => ?_)
        · rw [J_X12_readsPart_192.eq_1]
          refine ok_gC rfl ?_
          refine ok_zbX (Q := fun V => (V = 0 → ¬ σ17.1 218 14 = 0) ∧ (¬ V = 0 → σ17.1 218 14 = 0)) (x_X12_good) (fun v19 hqv19 => ?_)
          have hqv19 : (v19 = 0 → ¬ σ17.1 218 14 = 0) ∧ (¬ v19 = 0 → σ17.1 218 14 = 0) := hqv19
          try simp only [g7_σ17, g9_σ17, g10_σ17, g11_σ17, g12_σ17, g13_σ17, g14_σ17, g15_σ17, g20_σ17, g22_σ17, g23_σ17, g24_σ17, g25_σ17, hT.2 224 (by decide)] at hqv19
          refine ok_if (fun hc21 => ?_) (fun hc21 => ?_)
          · have qhc21 := hqv19.1 hc21
            have n196 := qhc21
            have st9 : stp tx n x1 (i, false, (lst (σ0.1 230) (σ0.1 218 22).toInt.toNat), (σ0.1 218 25).toInt.toNat) = none := by first | exact (stp_n h0q k44).trans (if_neg (f51 n196).2) | exact (stp_f h0q k122).trans (by rw [f127 n196]; rfl) | exact stp_z h0q m44 m122 i140.2 | exact absurd hg n196
            exact ok_rZ (Or.inr rfl) ⟨hT, (show (TOK σ17.1 ∧ ((σ0.1 218 11).toInt ≤ (σ17.1 218 11).toInt ∧ 0 ≤ (σ17.1 218 22).toInt ∧ (σ17.1 218 22).toInt ≤ 40) ∧ (σ17.1 218 14 = 0 → (σ0.1 218 11).toInt < (σ17.1 218 11).toInt ∧ ∃ c, stp tx n x1 (i, false, (lst (σ0.1 230) (σ0.1 218 22).toInt.toNat), (σ0.1 218 25).toInt.toNat) = some (some c) ∧ REL σ17.1 tx n c ∧ ((1 : Int32) = 0 ↔ c.2.1 = false)) ∧ (¬ σ17.1 218 14 = 0 → stp tx n x1 (i, false, (lst (σ0.1 230) (σ0.1 218 22).toInt.toNat), (σ0.1 218 25).toInt.toNat) = none) ∧ ZB σ17.1) ∧ (σ17.1 218 7 = σ0.1 218 7 ∧ σ17.1 218 9 = σ0.1 218 9 ∧ σ17.1 218 20 = σ0.1 218 20 ∧ σ17.1 218 25 = σ0.1 218 25) from ⟨by first | exact ⟨hK, ⟨m34.1, m34.2.1⟩, fun q => ⟨(m34.2.2.1 q).1.1, (tkE tx n i, false, decide (tkK tx n i = 40) :: (lst (σ0.1 230) (σ0.1 218 22).toInt.toNat), (σ0.1 218 25).toInt.toNat), (stp_o hpx).trans (if_neg (m34.2.2.1 q).2.1.1), ⟨⟨(m34.2.2.1 q).2.1.2, le1⟩, ⟨by first | exact ((m34.2.2.1 q).2.2.1.trans (by rw [k16]; rfl)).symm | exact ((m34.2.2.1 q).2.2.1.trans (by rw [k7, decide_eq_false (z50 w7.1)]; rfl)).symm, (m34.2.2.1 q).2.2.2⟩, by rw [g25_σ17], fun h => Bool.noConfusion (show false = true from h), fun _ => (m34.2.2.1 q).1.2⟩, ⟨fun _ => rfl, fun _ => rfl⟩⟩, fun q => (stp_o hpx).trans (if_pos (m34.2.2.2 q)), hB⟩ | exact absurd e7 n22 | exact absurd e22 n7 | exact absurd y196 n189 | exact ⟨hK, ⟨by (try simp only [g7_σ17, g9_σ17, g10_σ17, g11_σ17, g12_σ17, g13_σ17, g14_σ17, g15_σ17, g20_σ17, g22_σ17, g23_σ17, g24_σ17, g25_σ17]); omega, by (try simp only [g7_σ17, g9_σ17, g10_σ17, g11_σ17, g12_σ17, g13_σ17, g14_σ17, g15_σ17, g20_σ17, g22_σ17, g23_σ17, g24_σ17, g25_σ17]); omega⟩, fun q => absurd q (by (try simp only [g7_σ17, g9_σ17, g10_σ17, g11_σ17, g12_σ17, g13_σ17, g14_σ17, g15_σ17, g20_σ17, g22_σ17, g23_σ17, g24_σ17, g25_σ17]); exact n196), fun _ => st9, hB⟩ | exact ⟨hK, ⟨by (try simp only [g7_σ17, g9_σ17, g10_σ17, g11_σ17, g12_σ17, g13_σ17, g14_σ17, g15_σ17, g20_σ17, g22_σ17, g23_σ17, g24_σ17, g25_σ17]); omega, by omega⟩, fun _ => ⟨by (try simp only [g7_σ17, g9_σ17, g10_σ17, g11_σ17, g12_σ17, g13_σ17, g14_σ17, g15_σ17, g20_σ17, g22_σ17, g23_σ17, g24_σ17, g25_σ17]); exact ga9, _, st9, ⟨⟨RX_i g9_σ17 g10_σ17 g11_σ17 g12_σ17 g13_σ17 ((hT.2 224 (by decide)).trans tE) nE pK9, le9⟩, ⟨by rw [r230_σ17]; exact l201.2.symm, by rw [r230_σ17]; exact NP_le hNP l201.1⟩, by rw [g25_σ17], fun _ => ⟨h201, popP_i _⟩, fun h => Bool.noConfusion (show true = false from h)⟩, ⟨fun h => absurd h (by decide), fun h => Bool.noConfusion (show true = false from h)⟩⟩, fun q => absurd (by (try simp only [g7_σ17, g9_σ17, g10_σ17, g11_σ17, g12_σ17, g13_σ17, g14_σ17, g15_σ17, g20_σ17, g22_σ17, g23_σ17, g24_σ17, g25_σ17]); exact y196) q, hB⟩, g7_σ17, g9_σ17, g20_σ17, g25_σ17⟩)⟩
          · have qhc21 := hqv19.2 hc21
            have y196 := qhc21
            obtain ⟨P9, st9, pK9, ga9, le9⟩ : ∃ p, stp tx n x1 (i, false, (lst (σ0.1 230) (σ0.1 218 22).toInt.toNat), (σ0.1 218 25).toInt.toNat) = some (some (p, true, popP (lst (σ0.1 230) (σ0.1 218 22).toInt.toNat), (σ0.1 218 25).toInt.toNat)) ∧ TKV (σ14.1 218 11) (σ14.1 218 10) (σ14.1 218 12) (σ14.1 218 13) tx n p ∧ (σ0.1 218 11).toInt < (σ14.1 218 11).toInt ∧ p ≤ n := by first | exact ⟨_, (stp_n h0q k44).trans (if_pos (u51 y196).1.2), (u51 y196).2.2.2, (u51 y196).1.1, le1⟩ | (obtain ⟨j, fj, rj⟩ := (u127 y196).2; exact ⟨j, (stp_f h0q k122).trans (by rw [fj]; rfl), rj.2, (u127 y196).1, fam_le hi fj⟩) | exact ⟨_, stp_a h0q k137.1.1, k137.2.2, k137.1.2, le1⟩ | exact absurd y196 n189
            refine ok_gC rfl ?_
            refine ok_zbT (Q := fun V σ => (TOK σ.1 ∧ ZB σ.1 ∧ PIL σ.1 1 ∧ ((σ.1 218 22).toInt.toNat ≤ (σ17.1 218 22).toInt.toNat ∧ lst (σ17.1 230) (σ.1 218 22).toInt.toNat = popP (lst (σ17.1 230) (σ17.1 218 22).toInt.toNat)) ∧ ((σ.1 218 22).toInt ≤ 0 ∨ (rkI (σ17.1 230 ((σ.1 218 22) - 1).toNatClampNeg)).toInt < (3 : Int32).toInt)) ∧ (σ.1 218 7 = σ17.1 218 7 ∧ σ.1 218 9 = σ17.1 218 9 ∧ σ.1 218 10 = σ17.1 218 10 ∧ σ.1 218 11 = σ17.1 218 11 ∧ σ.1 218 12 = σ17.1 218 12 ∧ σ.1 218 13 = σ17.1 218 13 ∧ σ.1 218 14 = σ17.1 218 14 ∧ σ.1 218 15 = σ17.1 218 15 ∧ σ.1 218 20 = σ17.1 218 20 ∧ σ.1 218 25 = σ17.1 218 25)) hT (s_X12_settlesTo_r hN (hR.tr hT) (hK) (by rw [hT.2 224 (by decide)]; exact hY) (hB) (by (try simp only [g7_σ17, g9_σ17, g10_σ17, g11_σ17, g12_σ17, g13_σ17, g14_σ17, g15_σ17, g20_σ17, g22_σ17, g23_σ17, g24_σ17, g25_σ17]); exact ha) (by first | exact PIL_i g22_σ17 g23_σ17 g24_σ17 r230_σ17 hS h22 hd hd6 s57 | exact absurd y196 n189) (by decide) (by (try simp only [g7_σ17, g9_σ17, g10_σ17, g11_σ17, g12_σ17, g13_σ17, g14_σ17, g15_σ17, g20_σ17, g22_σ17, g23_σ17, g24_σ17, g25_σ17]); rw [r230_σ17]; exact hNP) (Or.inl (by decide))) (by decide) (fun v22 σ23 hOσ23 hT hqv22 => ?_)
            have hqv22 : (TOK σ23.1 ∧ ZB σ23.1 ∧ PIL σ23.1 1 ∧ ((σ23.1 218 22).toInt.toNat ≤ (σ17.1 218 22).toInt.toNat ∧ lst (σ17.1 230) (σ23.1 218 22).toInt.toNat = popP (lst (σ17.1 230) (σ17.1 218 22).toInt.toNat)) ∧ ((σ23.1 218 22).toInt ≤ 0 ∨ (rkI (σ17.1 230 ((σ23.1 218 22) - 1).toNatClampNeg)).toInt < (3 : Int32).toInt)) ∧ (σ23.1 218 7 = σ17.1 218 7 ∧ σ23.1 218 9 = σ17.1 218 9 ∧ σ23.1 218 10 = σ17.1 218 10 ∧ σ23.1 218 11 = σ17.1 218 11 ∧ σ23.1 218 12 = σ17.1 218 12 ∧ σ23.1 218 13 = σ17.1 218 13 ∧ σ23.1 218 14 = σ17.1 218 14 ∧ σ23.1 218 15 = σ17.1 218 15 ∧ σ23.1 218 20 = σ17.1 218 20 ∧ σ23.1 218 25 = σ17.1 218 25) := hqv22
            have hkv22 := hqv22
            have hqv22 := hqv22.1
            have r230_σ23 : σ23.1 230 = σ0.1 230 := (hOσ23.2 230 (by decide)).trans r230_σ17
            have hK : TOK σ23.1 := by first | exact hqv22.1 | exact hqv22.1.1 | exact TOK_p eσ23 (by decide) hK
            have hB : ZB σ23.1 := by first | exact hqv22.2.1 | exact hqv22.2.2.2.2.1 | exact ZB_s eσ23 hB
            try simp only [g7_σ17, g9_σ17, g10_σ17, g11_σ17, g12_σ17, g13_σ17, g14_σ17, g15_σ17, g20_σ17, g22_σ17, g23_σ17, g24_σ17, g25_σ17] at hqv22
            have g7_σ23 : σ23.1 218 7 = (σ0.1 218 7) := (hkv22.2.1).trans g7_σ17
            have g9_σ23 : σ23.1 218 9 = (σ0.1 218 9) := (hkv22.2.2.1).trans g9_σ17
            have g10_σ23 : σ23.1 218 10 = (σ14.1 218 10) := (hkv22.2.2.2.1).trans g10_σ17
            have g11_σ23 : σ23.1 218 11 = (σ14.1 218 11) := (hkv22.2.2.2.2.1).trans g11_σ17
            have g12_σ23 : σ23.1 218 12 = (σ14.1 218 12) := (hkv22.2.2.2.2.2.1).trans g12_σ17
            have g13_σ23 : σ23.1 218 13 = (σ14.1 218 13) := (hkv22.2.2.2.2.2.2.1).trans g13_σ17
            have g14_σ23 : σ23.1 218 14 = (σ14.1 218 14) := (hkv22.2.2.2.2.2.2.2.1).trans g14_σ17
            have g15_σ23 : σ23.1 218 15 = (σ14.1 218 15) := (hkv22.2.2.2.2.2.2.2.2.1).trans g15_σ17
            have g20_σ23 : σ23.1 218 20 = (σ0.1 218 20) := (hkv22.2.2.2.2.2.2.2.2.2.1).trans g20_σ17
            have g25_σ23 : σ23.1 218 25 = (σ0.1 218 25) := (hkv22.2.2.2.2.2.2.2.2.2.2).trans g25_σ17
            have h201 := hqv22.2.2.1
            have b201 := PIL_b hqv22.2.2.1 (by decide)
            have l201 := hqv22.2.2.2.1
            have o201 : σ17.1 230 = σ0.1 230 := (hOσ23.2 230 (by decide)).symm.trans r230_σ23
            rw [o201] at l201
            exact ok_rZ (Or.inr rfl) ⟨hT, (show (TOK σ23.1 ∧ ((σ0.1 218 11).toInt ≤ (σ23.1 218 11).toInt ∧ 0 ≤ (σ23.1 218 22).toInt ∧ (σ23.1 218 22).toInt ≤ 40) ∧ (σ23.1 218 14 = 0 → (σ0.1 218 11).toInt < (σ23.1 218 11).toInt ∧ ∃ c, stp tx n x1 (i, false, (lst (σ0.1 230) (σ0.1 218 22).toInt.toNat), (σ0.1 218 25).toInt.toNat) = some (some c) ∧ REL σ23.1 tx n c ∧ ((1 : Int32) = 0 ↔ c.2.1 = false)) ∧ (¬ σ23.1 218 14 = 0 → stp tx n x1 (i, false, (lst (σ0.1 230) (σ0.1 218 22).toInt.toNat), (σ0.1 218 25).toInt.toNat) = none) ∧ ZB σ23.1) ∧ (σ23.1 218 7 = σ0.1 218 7 ∧ σ23.1 218 9 = σ0.1 218 9 ∧ σ23.1 218 20 = σ0.1 218 20 ∧ σ23.1 218 25 = σ0.1 218 25) from ⟨by first | exact ⟨hK, ⟨m34.1, m34.2.1⟩, fun q => ⟨(m34.2.2.1 q).1.1, (tkE tx n i, false, decide (tkK tx n i = 40) :: (lst (σ0.1 230) (σ0.1 218 22).toInt.toNat), (σ0.1 218 25).toInt.toNat), (stp_o hpx).trans (if_neg (m34.2.2.1 q).2.1.1), ⟨⟨(m34.2.2.1 q).2.1.2, le1⟩, ⟨by first | exact ((m34.2.2.1 q).2.2.1.trans (by rw [k16]; rfl)).symm | exact ((m34.2.2.1 q).2.2.1.trans (by rw [k7, decide_eq_false (z50 w7.1)]; rfl)).symm, (m34.2.2.1 q).2.2.2⟩, by rw [g25_σ23], fun h => Bool.noConfusion (show false = true from h), fun _ => (m34.2.2.1 q).1.2⟩, ⟨fun _ => rfl, fun _ => rfl⟩⟩, fun q => (stp_o hpx).trans (if_pos (m34.2.2.2 q)), hB⟩ | exact absurd e7 n22 | exact absurd e22 n7 | exact absurd y196 n189 | exact ⟨hK, ⟨by (try simp only [g7_σ23, g9_σ23, g10_σ23, g11_σ23, g12_σ23, g13_σ23, g14_σ23, g15_σ23, g20_σ23, g25_σ23]); omega, by (try simp only [g7_σ23, g9_σ23, g10_σ23, g11_σ23, g12_σ23, g13_σ23, g14_σ23, g15_σ23, g20_σ23, g25_σ23]); omega⟩, fun q => absurd q (by (try simp only [g7_σ23, g9_σ23, g10_σ23, g11_σ23, g12_σ23, g13_σ23, g14_σ23, g15_σ23, g20_σ23, g25_σ23]); exact n196), fun _ => st9, hB⟩ | exact ⟨hK, ⟨by (try simp only [g7_σ23, g9_σ23, g10_σ23, g11_σ23, g12_σ23, g13_σ23, g14_σ23, g15_σ23, g20_σ23, g25_σ23]); omega, by omega⟩, fun _ => ⟨by (try simp only [g7_σ23, g9_σ23, g10_σ23, g11_σ23, g12_σ23, g13_σ23, g14_σ23, g15_σ23, g20_σ23, g25_σ23]); exact ga9, _, st9, ⟨⟨RX_i g9_σ23 g10_σ23 g11_σ23 g12_σ23 g13_σ23 ((hT.2 224 (by decide)).trans tE) nE pK9, le9⟩, ⟨by rw [r230_σ23]; exact l201.2.symm, by rw [r230_σ23]; exact NP_le hNP l201.1⟩, by rw [g25_σ23], fun _ => ⟨h201, popP_i _⟩, fun h => Bool.noConfusion (show true = false from h)⟩, ⟨fun h => absurd h (by decide), fun h => Bool.noConfusion (show true = false from h)⟩⟩, fun q => absurd (by (try simp only [g7_σ23, g9_σ23, g10_σ23, g11_σ23, g12_σ23, g13_σ23, g14_σ23, g15_σ23, g20_σ23, g25_σ23]); exact y196) q, hB⟩, g7_σ23, g9_σ23, g20_σ23, g25_σ23⟩)⟩
        · have l68 := hc18
          rw [Int32.le_iff_toInt_le] at l68
          try simp only [Int32.reduceToInt] at l68
          have s68 : (x5_17 + 1).toInt = x5_17.toInt + 1 := by rw [ti_add]; simp only [Int32.reduceToInt]; omega
          refine ok_gC rfl ?_
          refine ok_zbX (Q := fun V => (V = 0 → ¬ σ17.1 218 14 = 0) ∧ (¬ V = 0 → σ17.1 218 14 = 0)) (x_X12_good) (fun v24 hqv24 => ?_)
          have hqv24 : (v24 = 0 → ¬ σ17.1 218 14 = 0) ∧ (¬ v24 = 0 → σ17.1 218 14 = 0) := hqv24
          try simp only [g7_σ17, g9_σ17, g10_σ17, g11_σ17, g12_σ17, g13_σ17, g14_σ17, g15_σ17, g20_σ17, g22_σ17, g23_σ17, g24_σ17, g25_σ17, hT.2 224 (by decide)] at hqv24
          refine ok_if (fun hc26 => ?_) (fun hc26 => ?_)
          · have qhc26 := hqv24.1 hc26
            rw [J_X12_readsPart_192.eq_1]
            refine ok_gC rfl ?_
            refine ok_zbX (Q := fun V => (V = 0 → ¬ σ17.1 218 14 = 0) ∧ (¬ V = 0 → σ17.1 218 14 = 0)) (x_X12_good) (fun v27 hqv27 => ?_)
            have hqv27 : (v27 = 0 → ¬ σ17.1 218 14 = 0) ∧ (¬ v27 = 0 → σ17.1 218 14 = 0) := hqv27
            try simp only [g7_σ17, g9_σ17, g10_σ17, g11_σ17, g12_σ17, g13_σ17, g14_σ17, g15_σ17, g20_σ17, g22_σ17, g23_σ17, g24_σ17, g25_σ17, hT.2 224 (by decide)] at hqv27
            refine ok_if (fun hc29 => ?_) (fun hc29 => ?_)
            · have qhc29 := hqv27.1 hc29
              have n196 := qhc29
              have st9 : stp tx n x1 (i, false, (lst (σ0.1 230) (σ0.1 218 22).toInt.toNat), (σ0.1 218 25).toInt.toNat) = none := by first | exact (stp_n h0q k44).trans (if_neg (f51 n196).2) | exact (stp_f h0q k122).trans (by rw [f127 n196]; rfl) | exact stp_z h0q m44 m122 i140.2 | exact absurd hg n196
              exact ok_rZ (Or.inr rfl) ⟨hT, (show (TOK σ17.1 ∧ ((σ0.1 218 11).toInt ≤ (σ17.1 218 11).toInt ∧ 0 ≤ (σ17.1 218 22).toInt ∧ (σ17.1 218 22).toInt ≤ 40) ∧ (σ17.1 218 14 = 0 → (σ0.1 218 11).toInt < (σ17.1 218 11).toInt ∧ ∃ c, stp tx n x1 (i, false, (lst (σ0.1 230) (σ0.1 218 22).toInt.toNat), (σ0.1 218 25).toInt.toNat) = some (some c) ∧ REL σ17.1 tx n c ∧ ((1 : Int32) = 0 ↔ c.2.1 = false)) ∧ (¬ σ17.1 218 14 = 0 → stp tx n x1 (i, false, (lst (σ0.1 230) (σ0.1 218 22).toInt.toNat), (σ0.1 218 25).toInt.toNat) = none) ∧ ZB σ17.1) ∧ (σ17.1 218 7 = σ0.1 218 7 ∧ σ17.1 218 9 = σ0.1 218 9 ∧ σ17.1 218 20 = σ0.1 218 20 ∧ σ17.1 218 25 = σ0.1 218 25) from ⟨by first | exact ⟨hK, ⟨m34.1, m34.2.1⟩, fun q => ⟨(m34.2.2.1 q).1.1, (tkE tx n i, false, decide (tkK tx n i = 40) :: (lst (σ0.1 230) (σ0.1 218 22).toInt.toNat), (σ0.1 218 25).toInt.toNat), (stp_o hpx).trans (if_neg (m34.2.2.1 q).2.1.1), ⟨⟨(m34.2.2.1 q).2.1.2, le1⟩, ⟨by first | exact ((m34.2.2.1 q).2.2.1.trans (by rw [k16]; rfl)).symm | exact ((m34.2.2.1 q).2.2.1.trans (by rw [k7, decide_eq_false (z50 w7.1)]; rfl)).symm, (m34.2.2.1 q).2.2.2⟩, by rw [g25_σ17], fun h => Bool.noConfusion (show false = true from h), fun _ => (m34.2.2.1 q).1.2⟩, ⟨fun _ => rfl, fun _ => rfl⟩⟩, fun q => (stp_o hpx).trans (if_pos (m34.2.2.2 q)), hB⟩ | exact absurd e7 n22 | exact absurd e22 n7 | exact absurd y196 n189 | exact ⟨hK, ⟨by (try simp only [g7_σ17, g9_σ17, g10_σ17, g11_σ17, g12_σ17, g13_σ17, g14_σ17, g15_σ17, g20_σ17, g22_σ17, g23_σ17, g24_σ17, g25_σ17]); omega, by (try simp only [g7_σ17, g9_σ17, g10_σ17, g11_σ17, g12_σ17, g13_σ17, g14_σ17, g15_σ17, g20_σ17, g22_σ17, g23_σ17, g24_σ17, g25_σ17]); omega⟩, fun q => absurd q (by (try simp only [g7_σ17, g9_σ17, g10_σ17, g11_σ17, g12_σ17, g13_σ17, g14_σ17, g15_σ17, g20_σ17, g22_σ17, g23_σ17, g24_σ17, g25_σ17]); exact n196), fun _ => st9, hB⟩ | exact ⟨hK, ⟨by (try simp only [g7_σ17, g9_σ17, g10_σ17, g11_σ17, g12_σ17, g13_σ17, g14_σ17, g15_σ17, g20_σ17, g22_σ17, g23_σ17, g24_σ17, g25_σ17]); omega, by omega⟩, fun _ => ⟨by (try simp only [g7_σ17, g9_σ17, g10_σ17, g11_σ17, g12_σ17, g13_σ17, g14_σ17, g15_σ17, g20_σ17, g22_σ17, g23_σ17, g24_σ17, g25_σ17]); exact ga9, _, st9, ⟨⟨RX_i g9_σ17 g10_σ17 g11_σ17 g12_σ17 g13_σ17 ((hT.2 224 (by decide)).trans tE) nE pK9, le9⟩, ⟨by rw [r230_σ17]; exact l201.2.symm, by rw [r230_σ17]; exact NP_le hNP l201.1⟩, by rw [g25_σ17], fun _ => ⟨h201, popP_i _⟩, fun h => Bool.noConfusion (show true = false from h)⟩, ⟨fun h => absurd h (by decide), fun h => Bool.noConfusion (show true = false from h)⟩⟩, fun q => absurd (by (try simp only [g7_σ17, g9_σ17, g10_σ17, g11_σ17, g12_σ17, g13_σ17, g14_σ17, g15_σ17, g20_σ17, g22_σ17, g23_σ17, g24_σ17, g25_σ17]); exact y196) q, hB⟩, g7_σ17, g9_σ17, g20_σ17, g25_σ17⟩)⟩
            · have qhc29 := hqv27.2 hc29
              have y196 := qhc29
              obtain ⟨P9, st9, pK9, ga9, le9⟩ : ∃ p, stp tx n x1 (i, false, (lst (σ0.1 230) (σ0.1 218 22).toInt.toNat), (σ0.1 218 25).toInt.toNat) = some (some (p, true, popP (lst (σ0.1 230) (σ0.1 218 22).toInt.toNat), (σ0.1 218 25).toInt.toNat)) ∧ TKV (σ14.1 218 11) (σ14.1 218 10) (σ14.1 218 12) (σ14.1 218 13) tx n p ∧ (σ0.1 218 11).toInt < (σ14.1 218 11).toInt ∧ p ≤ n := by first | exact ⟨_, (stp_n h0q k44).trans (if_pos (u51 y196).1.2), (u51 y196).2.2.2, (u51 y196).1.1, le1⟩ | (obtain ⟨j, fj, rj⟩ := (u127 y196).2; exact ⟨j, (stp_f h0q k122).trans (by rw [fj]; rfl), rj.2, (u127 y196).1, fam_le hi fj⟩) | exact ⟨_, stp_a h0q k137.1.1, k137.2.2, k137.1.2, le1⟩ | exact absurd y196 n189
              refine ok_gC rfl ?_
              refine ok_zbT (Q := fun V σ => (TOK σ.1 ∧ ZB σ.1 ∧ PIL σ.1 1 ∧ ((σ.1 218 22).toInt.toNat ≤ (σ17.1 218 22).toInt.toNat ∧ lst (σ17.1 230) (σ.1 218 22).toInt.toNat = popP (lst (σ17.1 230) (σ17.1 218 22).toInt.toNat)) ∧ ((σ.1 218 22).toInt ≤ 0 ∨ (rkI (σ17.1 230 ((σ.1 218 22) - 1).toNatClampNeg)).toInt < (3 : Int32).toInt)) ∧ (σ.1 218 7 = σ17.1 218 7 ∧ σ.1 218 9 = σ17.1 218 9 ∧ σ.1 218 10 = σ17.1 218 10 ∧ σ.1 218 11 = σ17.1 218 11 ∧ σ.1 218 12 = σ17.1 218 12 ∧ σ.1 218 13 = σ17.1 218 13 ∧ σ.1 218 14 = σ17.1 218 14 ∧ σ.1 218 15 = σ17.1 218 15 ∧ σ.1 218 20 = σ17.1 218 20 ∧ σ.1 218 25 = σ17.1 218 25)) hT (s_X12_settlesTo_r hN (hR.tr hT) (hK) (by rw [hT.2 224 (by decide)]; exact hY) (hB) (by (try simp only [g7_σ17, g9_σ17, g10_σ17, g11_σ17, g12_σ17, g13_σ17, g14_σ17, g15_σ17, g20_σ17, g22_σ17, g23_σ17, g24_σ17, g25_σ17]); exact ha) (by first | exact PIL_i g22_σ17 g23_σ17 g24_σ17 r230_σ17 hS h22 hd hd6 s57 | exact absurd y196 n189) (by decide) (by (try simp only [g7_σ17, g9_σ17, g10_σ17, g11_σ17, g12_σ17, g13_σ17, g14_σ17, g15_σ17, g20_σ17, g22_σ17, g23_σ17, g24_σ17, g25_σ17]); rw [r230_σ17]; exact hNP) (Or.inl (by decide))) (by decide) (fun v30 σ31 hOσ31 hT hqv30 => ?_)
              have hqv30 : (TOK σ31.1 ∧ ZB σ31.1 ∧ PIL σ31.1 1 ∧ ((σ31.1 218 22).toInt.toNat ≤ (σ17.1 218 22).toInt.toNat ∧ lst (σ17.1 230) (σ31.1 218 22).toInt.toNat = popP (lst (σ17.1 230) (σ17.1 218 22).toInt.toNat)) ∧ ((σ31.1 218 22).toInt ≤ 0 ∨ (rkI (σ17.1 230 ((σ31.1 218 22) - 1).toNatClampNeg)).toInt < (3 : Int32).toInt)) ∧ (σ31.1 218 7 = σ17.1 218 7 ∧ σ31.1 218 9 = σ17.1 218 9 ∧ σ31.1 218 10 = σ17.1 218 10 ∧ σ31.1 218 11 = σ17.1 218 11 ∧ σ31.1 218 12 = σ17.1 218 12 ∧ σ31.1 218 13 = σ17.1 218 13 ∧ σ31.1 218 14 = σ17.1 218 14 ∧ σ31.1 218 15 = σ17.1 218 15 ∧ σ31.1 218 20 = σ17.1 218 20 ∧ σ31.1 218 25 = σ17.1 218 25) := hqv30
              have hkv30 := hqv30
              have hqv30 := hqv30.1
              have r230_σ31 : σ31.1 230 = σ0.1 230 := (hOσ31.2 230 (by decide)).trans r230_σ17
              have hK : TOK σ31.1 := by first | exact hqv30.1 | exact hqv30.1.1 | exact TOK_p eσ31 (by decide) hK
              have hB : ZB σ31.1 := by first | exact hqv30.2.1 | exact hqv30.2.2.2.2.1 | exact ZB_s eσ31 hB
              try simp only [g7_σ17, g9_σ17, g10_σ17, g11_σ17, g12_σ17, g13_σ17, g14_σ17, g15_σ17, g20_σ17, g22_σ17, g23_σ17, g24_σ17, g25_σ17] at hqv30
              have g7_σ31 : σ31.1 218 7 = (σ0.1 218 7) := (hkv30.2.1).trans g7_σ17
              have g9_σ31 : σ31.1 218 9 = (σ0.1 218 9) := (hkv30.2.2.1).trans g9_σ17
              have g10_σ31 : σ31.1 218 10 = (σ14.1 218 10) := (hkv30.2.2.2.1).trans g10_σ17
              have g11_σ31 : σ31.1 218 11 = (σ14.1 218 11) := (hkv30.2.2.2.2.1).trans g11_σ17
              have g12_σ31 : σ31.1 218 12 = (σ14.1 218 12) := (hkv30.2.2.2.2.2.1).trans g12_σ17
              have g13_σ31 : σ31.1 218 13 = (σ14.1 218 13) := (hkv30.2.2.2.2.2.2.1).trans g13_σ17
              have g14_σ31 : σ31.1 218 14 = (σ14.1 218 14) := (hkv30.2.2.2.2.2.2.2.1).trans g14_σ17
              have g15_σ31 : σ31.1 218 15 = (σ14.1 218 15) := (hkv30.2.2.2.2.2.2.2.2.1).trans g15_σ17
              have g20_σ31 : σ31.1 218 20 = (σ0.1 218 20) := (hkv30.2.2.2.2.2.2.2.2.2.1).trans g20_σ17
              have g25_σ31 : σ31.1 218 25 = (σ0.1 218 25) := (hkv30.2.2.2.2.2.2.2.2.2.2).trans g25_σ17
              have h201 := hqv30.2.2.1
              have b201 := PIL_b hqv30.2.2.1 (by decide)
              have l201 := hqv30.2.2.2.1
              have o201 : σ17.1 230 = σ0.1 230 := (hOσ31.2 230 (by decide)).symm.trans r230_σ31
              rw [o201] at l201
              exact ok_rZ (Or.inr rfl) ⟨hT, (show (TOK σ31.1 ∧ ((σ0.1 218 11).toInt ≤ (σ31.1 218 11).toInt ∧ 0 ≤ (σ31.1 218 22).toInt ∧ (σ31.1 218 22).toInt ≤ 40) ∧ (σ31.1 218 14 = 0 → (σ0.1 218 11).toInt < (σ31.1 218 11).toInt ∧ ∃ c, stp tx n x1 (i, false, (lst (σ0.1 230) (σ0.1 218 22).toInt.toNat), (σ0.1 218 25).toInt.toNat) = some (some c) ∧ REL σ31.1 tx n c ∧ ((1 : Int32) = 0 ↔ c.2.1 = false)) ∧ (¬ σ31.1 218 14 = 0 → stp tx n x1 (i, false, (lst (σ0.1 230) (σ0.1 218 22).toInt.toNat), (σ0.1 218 25).toInt.toNat) = none) ∧ ZB σ31.1) ∧ (σ31.1 218 7 = σ0.1 218 7 ∧ σ31.1 218 9 = σ0.1 218 9 ∧ σ31.1 218 20 = σ0.1 218 20 ∧ σ31.1 218 25 = σ0.1 218 25) from ⟨by first | exact ⟨hK, ⟨m34.1, m34.2.1⟩, fun q => ⟨(m34.2.2.1 q).1.1, (tkE tx n i, false, decide (tkK tx n i = 40) :: (lst (σ0.1 230) (σ0.1 218 22).toInt.toNat), (σ0.1 218 25).toInt.toNat), (stp_o hpx).trans (if_neg (m34.2.2.1 q).2.1.1), ⟨⟨(m34.2.2.1 q).2.1.2, le1⟩, ⟨by first | exact ((m34.2.2.1 q).2.2.1.trans (by rw [k16]; rfl)).symm | exact ((m34.2.2.1 q).2.2.1.trans (by rw [k7, decide_eq_false (z50 w7.1)]; rfl)).symm, (m34.2.2.1 q).2.2.2⟩, by rw [g25_σ31], fun h => Bool.noConfusion (show false = true from h), fun _ => (m34.2.2.1 q).1.2⟩, ⟨fun _ => rfl, fun _ => rfl⟩⟩, fun q => (stp_o hpx).trans (if_pos (m34.2.2.2 q)), hB⟩ | exact absurd e7 n22 | exact absurd e22 n7 | exact absurd y196 n189 | exact ⟨hK, ⟨by (try simp only [g7_σ31, g9_σ31, g10_σ31, g11_σ31, g12_σ31, g13_σ31, g14_σ31, g15_σ31, g20_σ31, g25_σ31]); omega, by (try simp only [g7_σ31, g9_σ31, g10_σ31, g11_σ31, g12_σ31, g13_σ31, g14_σ31, g15_σ31, g20_σ31, g25_σ31]); omega⟩, fun q => absurd q (by (try simp only [g7_σ31, g9_σ31, g10_σ31, g11_σ31, g12_σ31, g13_σ31, g14_σ31, g15_σ31, g20_σ31, g25_σ31]); exact n196), fun _ => st9, hB⟩ | exact ⟨hK, ⟨by (try simp only [g7_σ31, g9_σ31, g10_σ31, g11_σ31, g12_σ31, g13_σ31, g14_σ31, g15_σ31, g20_σ31, g25_σ31]); omega, by omega⟩, fun _ => ⟨by (try simp only [g7_σ31, g9_σ31, g10_σ31, g11_σ31, g12_σ31, g13_σ31, g14_σ31, g15_σ31, g20_σ31, g25_σ31]); exact ga9, _, st9, ⟨⟨RX_i g9_σ31 g10_σ31 g11_σ31 g12_σ31 g13_σ31 ((hT.2 224 (by decide)).trans tE) nE pK9, le9⟩, ⟨by rw [r230_σ31]; exact l201.2.symm, by rw [r230_σ31]; exact NP_le hNP l201.1⟩, by rw [g25_σ31], fun _ => ⟨h201, popP_i _⟩, fun h => Bool.noConfusion (show true = false from h)⟩, ⟨fun h => absurd h (by decide), fun h => Bool.noConfusion (show true = false from h)⟩⟩, fun q => absurd (by (try simp only [g7_σ31, g9_σ31, g10_σ31, g11_σ31, g12_σ31, g13_σ31, g14_σ31, g15_σ31, g20_σ31, g25_σ31]); exact y196) q, hB⟩, g7_σ31, g9_σ31, g20_σ31, g25_σ31⟩)⟩
          · have qhc26 := hqv24.2 hc26
            refine ok_gR (v := 226) hT rfl (hR 218 16 rfl) ?_
            refine ok_gIv rfl g23_σ17 ?_
            refine ok_aIn rfl (by rw [ti_add, q51]; omega) (by rw [ti_add, q51]; omega) (fun v34 ev34 => ?_)
            have zv34 : v34 = 0 ∨ v34 = 1 := by rw [ev34]; exact hB 220 rfl _
            refine ok_s16 hT rfl (by decide) (by rw [ti_add, m57]; omega) (by rw [ti_add, m57]; omega) (fun σ35 eσ35 hOσ35 hT => ?_)
            have r230_σ35 : σ35.1 230 = σ0.1 230 := (hOσ35.2 230 (by decide)).trans r230_σ17
            have hK : TOK σ35.1 := TOK_tr hOσ35 (by decide) (by decide) hK
            have hB : ZB σ35.1 := by first | exact HQ.2.1 | exact HQ.2.2.2.2.1 | exact ZB_s eσ35 hB
            have g7_σ35 : σ35.1 218 7 = (σ0.1 218 7) := (congrFun (hOσ35.2 218 (by decide)) 7).trans g7_σ17
            have g9_σ35 : σ35.1 218 9 = (σ0.1 218 9) := (congrFun (hOσ35.2 218 (by decide)) 9).trans g9_σ17
            have g10_σ35 : σ35.1 218 10 = (σ14.1 218 10) := (congrFun (hOσ35.2 218 (by decide)) 10).trans g10_σ17
            have g11_σ35 : σ35.1 218 11 = (σ14.1 218 11) := (congrFun (hOσ35.2 218 (by decide)) 11).trans g11_σ17
            have g12_σ35 : σ35.1 218 12 = (σ14.1 218 12) := (congrFun (hOσ35.2 218 (by decide)) 12).trans g12_σ17
            have g13_σ35 : σ35.1 218 13 = (σ14.1 218 13) := (congrFun (hOσ35.2 218 (by decide)) 13).trans g13_σ17
            have g14_σ35 : σ35.1 218 14 = (σ14.1 218 14) := (congrFun (hOσ35.2 218 (by decide)) 14).trans g14_σ17
            have g15_σ35 : σ35.1 218 15 = (σ14.1 218 15) := (congrFun (hOσ35.2 218 (by decide)) 15).trans g15_σ17
            have g20_σ35 : σ35.1 218 20 = (σ0.1 218 20) := (congrFun (hOσ35.2 218 (by decide)) 20).trans g20_σ17
            have g22_σ35 : σ35.1 218 22 = (σ0.1 218 22) := (congrFun (hOσ35.2 218 (by decide)) 22).trans g22_σ17
            have g23_σ35 : σ35.1 218 23 = (σ16.1 218 23) := (congrFun (hOσ35.2 218 (by decide)) 23).trans g23_σ17
            have g24_σ35 : σ35.1 218 24 = (σ0.1 218 24) := (congrFun (hOσ35.2 218 (by decide)) 24).trans g24_σ17
            have g25_σ35 : σ35.1 218 25 = (σ0.1 218 25) := (congrFun (hOσ35.2 218 (by decide)) 25).trans g25_σ17
            exact ih63_17 (x5_17 + 1, σ35) (show Tr [218, 226, 227, 228, 229, 230] σ0 σ35 ∧ (0 ≤ (x5_17 + 1).toInt) ∧ (TOK σ35.1) ∧ (ZB σ35.1) ∧ (σ35.1 218 7 = (σ0.1 218 7)) ∧ (σ35.1 218 9 = (σ0.1 218 9)) ∧ (σ35.1 218 10 = (σ14.1 218 10)) ∧ (σ35.1 218 11 = (σ14.1 218 11)) ∧ (σ35.1 218 12 = (σ14.1 218 12)) ∧ (σ35.1 218 13 = (σ14.1 218 13)) ∧ (σ35.1 218 14 = (σ14.1 218 14)) ∧ (σ35.1 218 15 = (σ14.1 218 15)) ∧ (σ35.1 218 20 = (σ0.1 218 20)) ∧ (σ35.1 218 22 = (σ0.1 218 22)) ∧ (σ35.1 218 23 = (σ16.1 218 23)) ∧ (σ35.1 218 24 = (σ0.1 218 24)) ∧ (σ35.1 218 25 = (σ0.1 218 25)) ∧ (σ35.1 230 = σ0.1 230) from ⟨hT, (by rw [s68]; omega), hK, hB, g7_σ35, g9_σ35, g10_σ35, g11_σ35, g12_σ35, g13_σ35, g14_σ35, g15_σ35, g20_σ35, g22_σ35, g23_σ35, g24_σ35, g25_σ35, r230_σ35⟩) (show (1024 - (x5_17 + 1).toInt).toNat < (1024 - x5_17.toInt).toNat from (by rw [s68]; omega))
      · have m44 : ¬ tkK tx n i = 2 := fun q => hc12 (pK.2.1.trans q)
        refine ok_gI rfl ?_
        refine ok_if (fun hc37 => ?_) (fun hc37 => ?_)
        · have e122 := hc37
          have k122 : tkK tx n i = 123 := pK.2.1.symm.trans hc37
          refine ok_gC rfl ?_
          refine ok_zbT (Q := fun V σ => (TOK σ.1 ∧ (σ0.1 218 11).toInt ≤ (σ.1 218 11).toInt ∧ (σ.1 218 14 = 0 → (σ0.1 218 11).toInt < (σ.1 218 11).toInt ∧ ∃ j, fam tx n x1 i = some j ∧ RX σ.1 tx n j) ∧ (¬ σ.1 218 14 = 0 → fam tx n x1 i = none) ∧ ZB σ.1 ∧ σ.1 218 23 = σ0.1 218 23 + 1) ∧ (σ.1 218 7 = σ0.1 218 7 ∧ σ.1 218 9 = σ0.1 218 9 ∧ σ.1 218 20 = σ0.1 218 20 ∧ σ.1 218 22 = σ0.1 218 22 ∧ σ.1 218 24 = σ0.1 218 24 ∧ σ.1 218 25 = σ0.1 218 25)) hT (s_X12_readsSets_r hN (hR.tr hT) (hK) (by rw [hT.2 224 (by decide)]; exact hY) (RX_i rfl rfl rfl rfl rfl ((hT.2 224 (by decide)).trans tE) nE pK) (hg) (hB) (hn) (by skip; omega) (by rw [e122]; decide) (hi)) (by decide) (fun v38 σ39 hOσ39 hT hqv38 => ?_)
          have hqv38 : (TOK σ39.1 ∧ (σ0.1 218 11).toInt ≤ (σ39.1 218 11).toInt ∧ (σ39.1 218 14 = 0 → (σ0.1 218 11).toInt < (σ39.1 218 11).toInt ∧ ∃ j, fam tx n x1 i = some j ∧ RX σ39.1 tx n j) ∧ (¬ σ39.1 218 14 = 0 → fam tx n x1 i = none) ∧ ZB σ39.1 ∧ σ39.1 218 23 = σ0.1 218 23 + 1) ∧ (σ39.1 218 7 = σ0.1 218 7 ∧ σ39.1 218 9 = σ0.1 218 9 ∧ σ39.1 218 20 = σ0.1 218 20 ∧ σ39.1 218 22 = σ0.1 218 22 ∧ σ39.1 218 24 = σ0.1 218 24 ∧ σ39.1 218 25 = σ0.1 218 25) := hqv38
          have hkv38 := hqv38
          have hqv38 := hqv38.1
          have r230_σ39 : σ39.1 230 = σ0.1 230 := hOσ39.2 230 (by decide)
          have hK : TOK σ39.1 := by first | exact hqv38.1 | exact hqv38.1.1 | exact TOK_p eσ39 (by decide) hK
          have hB : ZB σ39.1 := by first | exact hqv38.2.1 | exact hqv38.2.2.2.2.1 | exact ZB_s eσ39 hB
          have g7_σ39 : σ39.1 218 7 = (σ0.1 218 7) := hkv38.2.1
          have g9_σ39 : σ39.1 218 9 = (σ0.1 218 9) := hkv38.2.2.1
          have g20_σ39 : σ39.1 218 20 = (σ0.1 218 20) := hkv38.2.2.2.1
          have g22_σ39 : σ39.1 218 22 = (σ0.1 218 22) := hkv38.2.2.2.2.1
          have g24_σ39 : σ39.1 218 24 = (σ0.1 218 24) := hkv38.2.2.2.2.2.1
          have g25_σ39 : σ39.1 218 25 = (σ0.1 218 25) := hkv38.2.2.2.2.2.2
          have m127 := hqv38.2.1
          have u127 := hqv38.2.2.1
          have f127 := hqv38.2.2.2.1
          have g57 := hqv38.2.2.2.2.2
          have s57 : (σ39.1 218 23).toInt = ((b8 + 1 : Nat) : Int) := by rw [g57, ti_add]; simp only [Int32.reduceToInt]; omega
          have p57 : ((σ39.1 218 23) - 1).toInt = (b8 : Int) := by rw [ti_sub, s57]; simp only [Int32.reduceToInt]; omega
          have m57 := p1024 p57 (by omega) (by omega)
          rw [J_X12_readsPart_192.eq_1]
          refine ok_gC rfl ?_
          refine ok_zbX (Q := fun V => (V = 0 → ¬ σ39.1 218 14 = 0) ∧ (¬ V = 0 → σ39.1 218 14 = 0)) (x_X12_good) (fun v40 hqv40 => ?_)
          have hqv40 : (v40 = 0 → ¬ σ39.1 218 14 = 0) ∧ (¬ v40 = 0 → σ39.1 218 14 = 0) := hqv40
          try simp only [g7_σ39, g9_σ39, g20_σ39, g22_σ39, g24_σ39, g25_σ39, hT.2 224 (by decide)] at hqv40
          refine ok_if (fun hc42 => ?_) (fun hc42 => ?_)
          · have qhc42 := hqv40.1 hc42
            have n196 := qhc42
            have st9 : stp tx n x1 (i, false, (lst (σ0.1 230) (σ0.1 218 22).toInt.toNat), (σ0.1 218 25).toInt.toNat) = none := by first | exact (stp_n h0q k44).trans (if_neg (f51 n196).2) | exact (stp_f h0q k122).trans (by rw [f127 n196]; rfl) | exact stp_z h0q m44 m122 i140.2 | exact absurd hg n196
            exact ok_rZ (Or.inr rfl) ⟨hT, (show (TOK σ39.1 ∧ ((σ0.1 218 11).toInt ≤ (σ39.1 218 11).toInt ∧ 0 ≤ (σ39.1 218 22).toInt ∧ (σ39.1 218 22).toInt ≤ 40) ∧ (σ39.1 218 14 = 0 → (σ0.1 218 11).toInt < (σ39.1 218 11).toInt ∧ ∃ c, stp tx n x1 (i, false, (lst (σ0.1 230) (σ0.1 218 22).toInt.toNat), (σ0.1 218 25).toInt.toNat) = some (some c) ∧ REL σ39.1 tx n c ∧ ((1 : Int32) = 0 ↔ c.2.1 = false)) ∧ (¬ σ39.1 218 14 = 0 → stp tx n x1 (i, false, (lst (σ0.1 230) (σ0.1 218 22).toInt.toNat), (σ0.1 218 25).toInt.toNat) = none) ∧ ZB σ39.1) ∧ (σ39.1 218 7 = σ0.1 218 7 ∧ σ39.1 218 9 = σ0.1 218 9 ∧ σ39.1 218 20 = σ0.1 218 20 ∧ σ39.1 218 25 = σ0.1 218 25) from ⟨by first | exact ⟨hK, ⟨m34.1, m34.2.1⟩, fun q => ⟨(m34.2.2.1 q).1.1, (tkE tx n i, false, decide (tkK tx n i = 40) :: (lst (σ0.1 230) (σ0.1 218 22).toInt.toNat), (σ0.1 218 25).toInt.toNat), (stp_o hpx).trans (if_neg (m34.2.2.1 q).2.1.1), ⟨⟨(m34.2.2.1 q).2.1.2, le1⟩, ⟨by first | exact ((m34.2.2.1 q).2.2.1.trans (by rw [k16]; rfl)).symm | exact ((m34.2.2.1 q).2.2.1.trans (by rw [k7, decide_eq_false (z50 w7.1)]; rfl)).symm, (m34.2.2.1 q).2.2.2⟩, by rw [g25_σ39], fun h => Bool.noConfusion (show false = true from h), fun _ => (m34.2.2.1 q).1.2⟩, ⟨fun _ => rfl, fun _ => rfl⟩⟩, fun q => (stp_o hpx).trans (if_pos (m34.2.2.2 q)), hB⟩ | exact absurd e7 n22 | exact absurd e22 n7 | exact absurd y196 n189 | exact ⟨hK, ⟨by (try simp only [g7_σ39, g9_σ39, g20_σ39, g22_σ39, g24_σ39, g25_σ39]); omega, by (try simp only [g7_σ39, g9_σ39, g20_σ39, g22_σ39, g24_σ39, g25_σ39]); omega⟩, fun q => absurd q (by (try simp only [g7_σ39, g9_σ39, g20_σ39, g22_σ39, g24_σ39, g25_σ39]); exact n196), fun _ => st9, hB⟩ | exact ⟨hK, ⟨by (try simp only [g7_σ39, g9_σ39, g20_σ39, g22_σ39, g24_σ39, g25_σ39]); omega, by omega⟩, fun _ => ⟨by (try simp only [g7_σ39, g9_σ39, g20_σ39, g22_σ39, g24_σ39, g25_σ39]); exact ga9, _, st9, ⟨⟨RX_i g9_σ39 rfl rfl rfl rfl ((hT.2 224 (by decide)).trans tE) nE pK9, le9⟩, ⟨by rw [r230_σ39]; exact l201.2.symm, by rw [r230_σ39]; exact NP_le hNP l201.1⟩, by rw [g25_σ39], fun _ => ⟨h201, popP_i _⟩, fun h => Bool.noConfusion (show true = false from h)⟩, ⟨fun h => absurd h (by decide), fun h => Bool.noConfusion (show true = false from h)⟩⟩, fun q => absurd (by (try simp only [g7_σ39, g9_σ39, g20_σ39, g22_σ39, g24_σ39, g25_σ39]); exact y196) q, hB⟩, g7_σ39, g9_σ39, g20_σ39, g25_σ39⟩)⟩
          · have qhc42 := hqv40.2 hc42
            have y196 := qhc42
            obtain ⟨P9, st9, pK9, ga9, le9⟩ : ∃ p, stp tx n x1 (i, false, (lst (σ0.1 230) (σ0.1 218 22).toInt.toNat), (σ0.1 218 25).toInt.toNat) = some (some (p, true, popP (lst (σ0.1 230) (σ0.1 218 22).toInt.toNat), (σ0.1 218 25).toInt.toNat)) ∧ TKV (σ39.1 218 11) (σ39.1 218 10) (σ39.1 218 12) (σ39.1 218 13) tx n p ∧ (σ0.1 218 11).toInt < (σ39.1 218 11).toInt ∧ p ≤ n := by first | exact ⟨_, (stp_n h0q k44).trans (if_pos (u51 y196).1.2), (u51 y196).2.2.2, (u51 y196).1.1, le1⟩ | (obtain ⟨j, fj, rj⟩ := (u127 y196).2; exact ⟨j, (stp_f h0q k122).trans (by rw [fj]; rfl), rj.2, (u127 y196).1, fam_le hi fj⟩) | exact ⟨_, stp_a h0q k137.1.1, k137.2.2, k137.1.2, le1⟩ | exact absurd y196 n189
            refine ok_gC rfl ?_
            refine ok_zbT (Q := fun V σ => (TOK σ.1 ∧ ZB σ.1 ∧ PIL σ.1 1 ∧ ((σ.1 218 22).toInt.toNat ≤ (σ39.1 218 22).toInt.toNat ∧ lst (σ39.1 230) (σ.1 218 22).toInt.toNat = popP (lst (σ39.1 230) (σ39.1 218 22).toInt.toNat)) ∧ ((σ.1 218 22).toInt ≤ 0 ∨ (rkI (σ39.1 230 ((σ.1 218 22) - 1).toNatClampNeg)).toInt < (3 : Int32).toInt)) ∧ (σ.1 218 7 = σ39.1 218 7 ∧ σ.1 218 9 = σ39.1 218 9 ∧ σ.1 218 10 = σ39.1 218 10 ∧ σ.1 218 11 = σ39.1 218 11 ∧ σ.1 218 12 = σ39.1 218 12 ∧ σ.1 218 13 = σ39.1 218 13 ∧ σ.1 218 14 = σ39.1 218 14 ∧ σ.1 218 15 = σ39.1 218 15 ∧ σ.1 218 20 = σ39.1 218 20 ∧ σ.1 218 25 = σ39.1 218 25)) hT (s_X12_settlesTo_r hN (hR.tr hT) (hK) (by rw [hT.2 224 (by decide)]; exact hY) (hB) (by (try simp only [g7_σ39, g9_σ39, g20_σ39, g22_σ39, g24_σ39, g25_σ39]); exact ha) (by first | exact PIL_i g22_σ39 rfl g24_σ39 r230_σ39 hS h22 hd hd6 s57 | exact absurd y196 n189) (by decide) (by (try simp only [g7_σ39, g9_σ39, g20_σ39, g22_σ39, g24_σ39, g25_σ39]); rw [r230_σ39]; exact hNP) (Or.inl (by decide))) (by decide) (fun v43 σ44 hOσ44 hT hqv43 => ?_)
            have hqv43 : (TOK σ44.1 ∧ ZB σ44.1 ∧ PIL σ44.1 1 ∧ ((σ44.1 218 22).toInt.toNat ≤ (σ39.1 218 22).toInt.toNat ∧ lst (σ39.1 230) (σ44.1 218 22).toInt.toNat = popP (lst (σ39.1 230) (σ39.1 218 22).toInt.toNat)) ∧ ((σ44.1 218 22).toInt ≤ 0 ∨ (rkI (σ39.1 230 ((σ44.1 218 22) - 1).toNatClampNeg)).toInt < (3 : Int32).toInt)) ∧ (σ44.1 218 7 = σ39.1 218 7 ∧ σ44.1 218 9 = σ39.1 218 9 ∧ σ44.1 218 10 = σ39.1 218 10 ∧ σ44.1 218 11 = σ39.1 218 11 ∧ σ44.1 218 12 = σ39.1 218 12 ∧ σ44.1 218 13 = σ39.1 218 13 ∧ σ44.1 218 14 = σ39.1 218 14 ∧ σ44.1 218 15 = σ39.1 218 15 ∧ σ44.1 218 20 = σ39.1 218 20 ∧ σ44.1 218 25 = σ39.1 218 25) := hqv43
            have hkv43 := hqv43
            have hqv43 := hqv43.1
            have r230_σ44 : σ44.1 230 = σ0.1 230 := (hOσ44.2 230 (by decide)).trans r230_σ39
            have hK : TOK σ44.1 := by first | exact hqv43.1 | exact hqv43.1.1 | exact TOK_p eσ44 (by decide) hK
            have hB : ZB σ44.1 := by first | exact hqv43.2.1 | exact hqv43.2.2.2.2.1 | exact ZB_s eσ44 hB
            try simp only [g7_σ39, g9_σ39, g20_σ39, g22_σ39, g24_σ39, g25_σ39] at hqv43
            have g7_σ44 : σ44.1 218 7 = (σ0.1 218 7) := (hkv43.2.1).trans g7_σ39
            have g9_σ44 : σ44.1 218 9 = (σ0.1 218 9) := (hkv43.2.2.1).trans g9_σ39
            have g10_σ44 : σ44.1 218 10 = (σ39.1 218 10) := hkv43.2.2.2.1
            have g11_σ44 : σ44.1 218 11 = (σ39.1 218 11) := hkv43.2.2.2.2.1
            have g12_σ44 : σ44.1 218 12 = (σ39.1 218 12) := hkv43.2.2.2.2.2.1
            have g13_σ44 : σ44.1 218 13 = (σ39.1 218 13) := hkv43.2.2.2.2.2.2.1
            have g14_σ44 : σ44.1 218 14 = (σ39.1 218 14) := hkv43.2.2.2.2.2.2.2.1
            have g15_σ44 : σ44.1 218 15 = (σ39.1 218 15) := hkv43.2.2.2.2.2.2.2.2.1
            have g20_σ44 : σ44.1 218 20 = (σ0.1 218 20) := (hkv43.2.2.2.2.2.2.2.2.2.1).trans g20_σ39
            have g25_σ44 : σ44.1 218 25 = (σ0.1 218 25) := (hkv43.2.2.2.2.2.2.2.2.2.2).trans g25_σ39
            have h201 := hqv43.2.2.1
            have b201 := PIL_b hqv43.2.2.1 (by decide)
            have l201 := hqv43.2.2.2.1
            have o201 : σ39.1 230 = σ0.1 230 := (hOσ44.2 230 (by decide)).symm.trans r230_σ44
            rw [o201] at l201
            exact ok_rZ (Or.inr rfl) ⟨hT, (show (TOK σ44.1 ∧ ((σ0.1 218 11).toInt ≤ (σ44.1 218 11).toInt ∧ 0 ≤ (σ44.1 218 22).toInt ∧ (σ44.1 218 22).toInt ≤ 40) ∧ (σ44.1 218 14 = 0 → (σ0.1 218 11).toInt < (σ44.1 218 11).toInt ∧ ∃ c, stp tx n x1 (i, false, (lst (σ0.1 230) (σ0.1 218 22).toInt.toNat), (σ0.1 218 25).toInt.toNat) = some (some c) ∧ REL σ44.1 tx n c ∧ ((1 : Int32) = 0 ↔ c.2.1 = false)) ∧ (¬ σ44.1 218 14 = 0 → stp tx n x1 (i, false, (lst (σ0.1 230) (σ0.1 218 22).toInt.toNat), (σ0.1 218 25).toInt.toNat) = none) ∧ ZB σ44.1) ∧ (σ44.1 218 7 = σ0.1 218 7 ∧ σ44.1 218 9 = σ0.1 218 9 ∧ σ44.1 218 20 = σ0.1 218 20 ∧ σ44.1 218 25 = σ0.1 218 25) from ⟨by first | exact ⟨hK, ⟨m34.1, m34.2.1⟩, fun q => ⟨(m34.2.2.1 q).1.1, (tkE tx n i, false, decide (tkK tx n i = 40) :: (lst (σ0.1 230) (σ0.1 218 22).toInt.toNat), (σ0.1 218 25).toInt.toNat), (stp_o hpx).trans (if_neg (m34.2.2.1 q).2.1.1), ⟨⟨(m34.2.2.1 q).2.1.2, le1⟩, ⟨by first | exact ((m34.2.2.1 q).2.2.1.trans (by rw [k16]; rfl)).symm | exact ((m34.2.2.1 q).2.2.1.trans (by rw [k7, decide_eq_false (z50 w7.1)]; rfl)).symm, (m34.2.2.1 q).2.2.2⟩, by rw [g25_σ44], fun h => Bool.noConfusion (show false = true from h), fun _ => (m34.2.2.1 q).1.2⟩, ⟨fun _ => rfl, fun _ => rfl⟩⟩, fun q => (stp_o hpx).trans (if_pos (m34.2.2.2 q)), hB⟩ | exact absurd e7 n22 | exact absurd e22 n7 | exact absurd y196 n189 | exact ⟨hK, ⟨by (try simp only [g7_σ44, g9_σ44, g10_σ44, g11_σ44, g12_σ44, g13_σ44, g14_σ44, g15_σ44, g20_σ44, g25_σ44]); omega, by (try simp only [g7_σ44, g9_σ44, g10_σ44, g11_σ44, g12_σ44, g13_σ44, g14_σ44, g15_σ44, g20_σ44, g25_σ44]); omega⟩, fun q => absurd q (by (try simp only [g7_σ44, g9_σ44, g10_σ44, g11_σ44, g12_σ44, g13_σ44, g14_σ44, g15_σ44, g20_σ44, g25_σ44]); exact n196), fun _ => st9, hB⟩ | exact ⟨hK, ⟨by (try simp only [g7_σ44, g9_σ44, g10_σ44, g11_σ44, g12_σ44, g13_σ44, g14_σ44, g15_σ44, g20_σ44, g25_σ44]); omega, by omega⟩, fun _ => ⟨by (try simp only [g7_σ44, g9_σ44, g10_σ44, g11_σ44, g12_σ44, g13_σ44, g14_σ44, g15_σ44, g20_σ44, g25_σ44]); exact ga9, _, st9, ⟨⟨RX_i g9_σ44 g10_σ44 g11_σ44 g12_σ44 g13_σ44 ((hT.2 224 (by decide)).trans tE) nE pK9, le9⟩, ⟨by rw [r230_σ44]; exact l201.2.symm, by rw [r230_σ44]; exact NP_le hNP l201.1⟩, by rw [g25_σ44], fun _ => ⟨h201, popP_i _⟩, fun h => Bool.noConfusion (show true = false from h)⟩, ⟨fun h => absurd h (by decide), fun h => Bool.noConfusion (show true = false from h)⟩⟩, fun q => absurd (by (try simp only [g7_σ44, g9_σ44, g10_σ44, g11_σ44, g12_σ44, g13_σ44, g14_σ44, g15_σ44, g20_σ44, g25_σ44]); exact y196) q, hB⟩, g7_σ44, g9_σ44, g20_σ44, g25_σ44⟩)⟩
        · have m122 : ¬ tkK tx n i = 123 := fun q => hc37 (pK.2.1.trans q)
          refine ok_gC rfl ?_
          refine ok_zbT (Q := fun V σ => (TOK σ.1 ∧ (σ0.1 218 11).toInt ≤ (σ.1 218 11).toInt ∧ (V = 0 → σ = σ0 ∧ ¬ isW tx n i 15) ∧ (¬ V = 0 → (isW tx n i 15 ∧ (σ0.1 218 11).toInt < (σ.1 218 11).toInt) ∧ RX σ.1 tx n (tkE tx n i))) ∧ (σ.1 218 7 = σ0.1 218 7 ∧ σ.1 218 9 = σ0.1 218 9 ∧ σ.1 218 14 = σ0.1 218 14 ∧ σ.1 218 15 = σ0.1 218 15 ∧ σ.1 218 20 = σ0.1 218 20 ∧ σ.1 218 22 = σ0.1 218 22 ∧ σ.1 218 23 = σ0.1 218 23 ∧ σ.1 218 24 = σ0.1 218 24 ∧ σ.1 218 25 = σ0.1 218 25)) hT (s_X12_takes_r hN (hR.tr hT) (hK) (by rw [hT.2 224 (by decide)]; exact hY) (RX_i rfl rfl rfl rfl rfl ((hT.2 224 (by decide)).trans tE) nE pK) (hg) (by decide)) (by decide) (fun v45 σ46 hOσ46 hT hqv45 => ?_)
          have hqv45 : (TOK σ46.1 ∧ (σ0.1 218 11).toInt ≤ (σ46.1 218 11).toInt ∧ (v45 = 0 → σ46 = σ0 ∧ ¬ isW tx n i 15) ∧ (¬ v45 = 0 → (isW tx n i 15 ∧ (σ0.1 218 11).toInt < (σ46.1 218 11).toInt) ∧ RX σ46.1 tx n (tkE tx n i))) ∧ (σ46.1 218 7 = σ0.1 218 7 ∧ σ46.1 218 9 = σ0.1 218 9 ∧ σ46.1 218 14 = σ0.1 218 14 ∧ σ46.1 218 15 = σ0.1 218 15 ∧ σ46.1 218 20 = σ0.1 218 20 ∧ σ46.1 218 22 = σ0.1 218 22 ∧ σ46.1 218 23 = σ0.1 218 23 ∧ σ46.1 218 24 = σ0.1 218 24 ∧ σ46.1 218 25 = σ0.1 218 25) := hqv45
          have hkv45 := hqv45
          have hqv45 := hqv45.1
          have r230_σ46 : σ46.1 230 = σ0.1 230 := hOσ46.2 230 (by decide)
          have hK : TOK σ46.1 := by first | exact hqv45.1 | exact hqv45.1.1 | exact TOK_p eσ46 (by decide) hK
          have hB : ZB σ46.1 := ZB.tr hOσ46 (by decide) hB
          have g7_σ46 : σ46.1 218 7 = (σ0.1 218 7) := hkv45.2.1
          have g9_σ46 : σ46.1 218 9 = (σ0.1 218 9) := hkv45.2.2.1
          have g14_σ46 : σ46.1 218 14 = (σ0.1 218 14) := hkv45.2.2.2.1
          have g15_σ46 : σ46.1 218 15 = (σ0.1 218 15) := hkv45.2.2.2.2.1
          have g20_σ46 : σ46.1 218 20 = (σ0.1 218 20) := hkv45.2.2.2.2.2.1
          have g22_σ46 : σ46.1 218 22 = (σ0.1 218 22) := hkv45.2.2.2.2.2.2.1
          have g23_σ46 : σ46.1 218 23 = (σ0.1 218 23) := hkv45.2.2.2.2.2.2.2.1
          have g24_σ46 : σ46.1 218 24 = (σ0.1 218 24) := hkv45.2.2.2.2.2.2.2.2.1
          have g25_σ46 : σ46.1 218 25 = (σ0.1 218 25) := hkv45.2.2.2.2.2.2.2.2.2
          have m137 := hqv45.2.1
          have t137 := hqv45.2.2.2
          refine ok_if (fun hc47 => ?_) (fun hc47 => ?_)
          · have i140 := hqv45.2.2.1 hc47
            refine ok_gC rfl ?_
            refine ok_zbT (Q := fun V σ => (TOK σ.1 ∧ ¬ σ.1 218 14 = 0) ∧ (σ.1 218 7 = σ46.1 218 7 ∧ σ.1 218 9 = σ46.1 218 9 ∧ σ.1 218 10 = σ46.1 218 10 ∧ σ.1 218 11 = σ46.1 218 11 ∧ σ.1 218 12 = σ46.1 218 12 ∧ σ.1 218 13 = σ46.1 218 13 ∧ σ.1 218 20 = σ46.1 218 20 ∧ σ.1 218 22 = σ46.1 218 22 ∧ σ.1 218 23 = σ46.1 218 23 ∧ σ.1 218 24 = σ46.1 218 24 ∧ σ.1 218 25 = σ46.1 218 25)) hT (s_X12_errs hN (hR.tr hT) (hK) (by rw [hT.2 224 (by decide)]; exact hY) (by decide)) (by decide) (fun v48 σ49 hOσ49 hT hqv48 => ?_)
            have hqv48 : (TOK σ49.1 ∧ ¬ σ49.1 218 14 = 0) ∧ (σ49.1 218 7 = σ46.1 218 7 ∧ σ49.1 218 9 = σ46.1 218 9 ∧ σ49.1 218 10 = σ46.1 218 10 ∧ σ49.1 218 11 = σ46.1 218 11 ∧ σ49.1 218 12 = σ46.1 218 12 ∧ σ49.1 218 13 = σ46.1 218 13 ∧ σ49.1 218 20 = σ46.1 218 20 ∧ σ49.1 218 22 = σ46.1 218 22 ∧ σ49.1 218 23 = σ46.1 218 23 ∧ σ49.1 218 24 = σ46.1 218 24 ∧ σ49.1 218 25 = σ46.1 218 25) := hqv48
            have hkv48 := hqv48
            have hqv48 := hqv48.1
            have r230_σ49 : σ49.1 230 = σ0.1 230 := (hOσ49.2 230 (by decide)).trans r230_σ46
            have hK : TOK σ49.1 := by first | exact hqv48.1 | exact hqv48.1.1 | exact TOK_p eσ49 (by decide) hK
            have hB : ZB σ49.1 := ZB.tr hOσ49 (by decide) hB
            try simp only [g7_σ46, g9_σ46, g14_σ46, g15_σ46, g20_σ46, g22_σ46, g23_σ46, g24_σ46, g25_σ46] at hqv48
            have g7_σ49 : σ49.1 218 7 = (σ0.1 218 7) := (hkv48.2.1).trans g7_σ46
            have g9_σ49 : σ49.1 218 9 = (σ0.1 218 9) := (hkv48.2.2.1).trans g9_σ46
            have g10_σ49 : σ49.1 218 10 = (σ46.1 218 10) := hkv48.2.2.2.1
            have g11_σ49 : σ49.1 218 11 = (σ46.1 218 11) := hkv48.2.2.2.2.1
            have g12_σ49 : σ49.1 218 12 = (σ46.1 218 12) := hkv48.2.2.2.2.2.1
            have g13_σ49 : σ49.1 218 13 = (σ46.1 218 13) := hkv48.2.2.2.2.2.2.1
            have g20_σ49 : σ49.1 218 20 = (σ0.1 218 20) := (hkv48.2.2.2.2.2.2.2.1).trans g20_σ46
            have g22_σ49 : σ49.1 218 22 = (σ0.1 218 22) := (hkv48.2.2.2.2.2.2.2.2.1).trans g22_σ46
            have g23_σ49 : σ49.1 218 23 = (σ0.1 218 23) := (hkv48.2.2.2.2.2.2.2.2.2.1).trans g23_σ46
            have g24_σ49 : σ49.1 218 24 = (σ0.1 218 24) := (hkv48.2.2.2.2.2.2.2.2.2.2.1).trans g24_σ46
            have g25_σ49 : σ49.1 218 25 = (σ0.1 218 25) := (hkv48.2.2.2.2.2.2.2.2.2.2.2).trans g25_σ46
            have n189 := hqv48.2
            rw [J_X12_readsPart_192.eq_1]
            refine ok_gC rfl ?_
            refine ok_zbX (Q := fun V => (V = 0 → ¬ σ49.1 218 14 = 0) ∧ (¬ V = 0 → σ49.1 218 14 = 0)) (x_X12_good) (fun v50 hqv50 => ?_)
            have hqv50 : (v50 = 0 → ¬ σ49.1 218 14 = 0) ∧ (¬ v50 = 0 → σ49.1 218 14 = 0) := hqv50
            try simp only [g7_σ49, g9_σ49, g10_σ49, g11_σ49, g12_σ49, g13_σ49, g20_σ49, g22_σ49, g23_σ49, g24_σ49, g25_σ49, hT.2 224 (by decide)] at hqv50
            refine ok_if (fun hc52 => ?_) (fun hc52 => ?_)
            · have qhc52 := hqv50.1 hc52
              have n196 := qhc52
              have st9 : stp tx n x1 (i, false, (lst (σ0.1 230) (σ0.1 218 22).toInt.toNat), (σ0.1 218 25).toInt.toNat) = none := by first | exact (stp_n h0q k44).trans (if_neg (f51 n196).2) | exact (stp_f h0q k122).trans (by rw [f127 n196]; rfl) | exact stp_z h0q m44 m122 i140.2 | exact absurd hg n196
              exact ok_rZ (Or.inr rfl) ⟨hT, (show (TOK σ49.1 ∧ ((σ0.1 218 11).toInt ≤ (σ49.1 218 11).toInt ∧ 0 ≤ (σ49.1 218 22).toInt ∧ (σ49.1 218 22).toInt ≤ 40) ∧ (σ49.1 218 14 = 0 → (σ0.1 218 11).toInt < (σ49.1 218 11).toInt ∧ ∃ c, stp tx n x1 (i, false, (lst (σ0.1 230) (σ0.1 218 22).toInt.toNat), (σ0.1 218 25).toInt.toNat) = some (some c) ∧ REL σ49.1 tx n c ∧ ((1 : Int32) = 0 ↔ c.2.1 = false)) ∧ (¬ σ49.1 218 14 = 0 → stp tx n x1 (i, false, (lst (σ0.1 230) (σ0.1 218 22).toInt.toNat), (σ0.1 218 25).toInt.toNat) = none) ∧ ZB σ49.1) ∧ (σ49.1 218 7 = σ0.1 218 7 ∧ σ49.1 218 9 = σ0.1 218 9 ∧ σ49.1 218 20 = σ0.1 218 20 ∧ σ49.1 218 25 = σ0.1 218 25) from ⟨by first | exact ⟨hK, ⟨m34.1, m34.2.1⟩, fun q => ⟨(m34.2.2.1 q).1.1, (tkE tx n i, false, decide (tkK tx n i = 40) :: (lst (σ0.1 230) (σ0.1 218 22).toInt.toNat), (σ0.1 218 25).toInt.toNat), (stp_o hpx).trans (if_neg (m34.2.2.1 q).2.1.1), ⟨⟨(m34.2.2.1 q).2.1.2, le1⟩, ⟨by first | exact ((m34.2.2.1 q).2.2.1.trans (by rw [k16]; rfl)).symm | exact ((m34.2.2.1 q).2.2.1.trans (by rw [k7, decide_eq_false (z50 w7.1)]; rfl)).symm, (m34.2.2.1 q).2.2.2⟩, by rw [g25_σ49], fun h => Bool.noConfusion (show false = true from h), fun _ => (m34.2.2.1 q).1.2⟩, ⟨fun _ => rfl, fun _ => rfl⟩⟩, fun q => (stp_o hpx).trans (if_pos (m34.2.2.2 q)), hB⟩ | exact absurd e7 n22 | exact absurd e22 n7 | exact absurd y196 n189 | exact ⟨hK, ⟨by (try simp only [g7_σ49, g9_σ49, g10_σ49, g11_σ49, g12_σ49, g13_σ49, g20_σ49, g22_σ49, g23_σ49, g24_σ49, g25_σ49]); omega, by (try simp only [g7_σ49, g9_σ49, g10_σ49, g11_σ49, g12_σ49, g13_σ49, g20_σ49, g22_σ49, g23_σ49, g24_σ49, g25_σ49]); omega⟩, fun q => absurd q (by (try simp only [g7_σ49, g9_σ49, g10_σ49, g11_σ49, g12_σ49, g13_σ49, g20_σ49, g22_σ49, g23_σ49, g24_σ49, g25_σ49]); exact n196), fun _ => st9, hB⟩ | exact ⟨hK, ⟨by (try simp only [g7_σ49, g9_σ49, g10_σ49, g11_σ49, g12_σ49, g13_σ49, g20_σ49, g22_σ49, g23_σ49, g24_σ49, g25_σ49]); omega, by omega⟩, fun _ => ⟨by (try simp only [g7_σ49, g9_σ49, g10_σ49, g11_σ49, g12_σ49, g13_σ49, g20_σ49, g22_σ49, g23_σ49, g24_σ49, g25_σ49]); exact ga9, _, st9, ⟨⟨RX_i g9_σ49 g10_σ49 g11_σ49 g12_σ49 g13_σ49 ((hT.2 224 (by decide)).trans tE) nE pK9, le9⟩, ⟨by rw [r230_σ49]; exact l201.2.symm, by rw [r230_σ49]; exact NP_le hNP l201.1⟩, by rw [g25_σ49], fun _ => ⟨h201, popP_i _⟩, fun h => Bool.noConfusion (show true = false from h)⟩, ⟨fun h => absurd h (by decide), fun h => Bool.noConfusion (show true = false from h)⟩⟩, fun q => absurd (by (try simp only [g7_σ49, g9_σ49, g10_σ49, g11_σ49, g12_σ49, g13_σ49, g20_σ49, g22_σ49, g23_σ49, g24_σ49, g25_σ49]); exact y196) q, hB⟩, g7_σ49, g9_σ49, g20_σ49, g25_σ49⟩)⟩
            · have qhc52 := hqv50.2 hc52
              have y196 := qhc52
              obtain ⟨P9, st9, pK9, ga9, le9⟩ : ∃ p, stp tx n x1 (i, false, (lst (σ0.1 230) (σ0.1 218 22).toInt.toNat), (σ0.1 218 25).toInt.toNat) = some (some (p, true, popP (lst (σ0.1 230) (σ0.1 218 22).toInt.toNat), (σ0.1 218 25).toInt.toNat)) ∧ TKV (σ46.1 218 11) (σ46.1 218 10) (σ46.1 218 12) (σ46.1 218 13) tx n p ∧ (σ0.1 218 11).toInt < (σ46.1 218 11).toInt ∧ p ≤ n := by first | exact ⟨_, (stp_n h0q k44).trans (if_pos (u51 y196).1.2), (u51 y196).2.2.2, (u51 y196).1.1, le1⟩ | (obtain ⟨j, fj, rj⟩ := (u127 y196).2; exact ⟨j, (stp_f h0q k122).trans (by rw [fj]; rfl), rj.2, (u127 y196).1, fam_le hi fj⟩) | exact ⟨_, stp_a h0q k137.1.1, k137.2.2, k137.1.2, le1⟩ | exact absurd y196 n189
              refine ok_gC rfl ?_
              refine ok_zbT (Q := fun V σ => (TOK σ.1 ∧ ZB σ.1 ∧ PIL σ.1 1 ∧ ((σ.1 218 22).toInt.toNat ≤ (σ49.1 218 22).toInt.toNat ∧ lst (σ49.1 230) (σ.1 218 22).toInt.toNat = popP (lst (σ49.1 230) (σ49.1 218 22).toInt.toNat)) ∧ ((σ.1 218 22).toInt ≤ 0 ∨ (rkI (σ49.1 230 ((σ.1 218 22) - 1).toNatClampNeg)).toInt < (3 : Int32).toInt)) ∧ (σ.1 218 7 = σ49.1 218 7 ∧ σ.1 218 9 = σ49.1 218 9 ∧ σ.1 218 10 = σ49.1 218 10 ∧ σ.1 218 11 = σ49.1 218 11 ∧ σ.1 218 12 = σ49.1 218 12 ∧ σ.1 218 13 = σ49.1 218 13 ∧ σ.1 218 14 = σ49.1 218 14 ∧ σ.1 218 15 = σ49.1 218 15 ∧ σ.1 218 20 = σ49.1 218 20 ∧ σ.1 218 25 = σ49.1 218 25)) hT (s_X12_settlesTo_r hN (hR.tr hT) (hK) (by rw [hT.2 224 (by decide)]; exact hY) (hB) (by (try simp only [g7_σ49, g9_σ49, g10_σ49, g11_σ49, g12_σ49, g13_σ49, g20_σ49, g22_σ49, g23_σ49, g24_σ49, g25_σ49]); exact ha) (by first | exact PIL_i g22_σ49 g23_σ49 g24_σ49 r230_σ49 hS h22 hd hd6 s57 | exact absurd y196 n189) (by decide) (by (try simp only [g7_σ49, g9_σ49, g10_σ49, g11_σ49, g12_σ49, g13_σ49, g20_σ49, g22_σ49, g23_σ49, g24_σ49, g25_σ49]); rw [r230_σ49]; exact hNP) (Or.inl (by decide))) (by decide) (fun v53 σ54 hOσ54 hT hqv53 => ?_)
              have hqv53 : (TOK σ54.1 ∧ ZB σ54.1 ∧ PIL σ54.1 1 ∧ ((σ54.1 218 22).toInt.toNat ≤ (σ49.1 218 22).toInt.toNat ∧ lst (σ49.1 230) (σ54.1 218 22).toInt.toNat = popP (lst (σ49.1 230) (σ49.1 218 22).toInt.toNat)) ∧ ((σ54.1 218 22).toInt ≤ 0 ∨ (rkI (σ49.1 230 ((σ54.1 218 22) - 1).toNatClampNeg)).toInt < (3 : Int32).toInt)) ∧ (σ54.1 218 7 = σ49.1 218 7 ∧ σ54.1 218 9 = σ49.1 218 9 ∧ σ54.1 218 10 = σ49.1 218 10 ∧ σ54.1 218 11 = σ49.1 218 11 ∧ σ54.1 218 12 = σ49.1 218 12 ∧ σ54.1 218 13 = σ49.1 218 13 ∧ σ54.1 218 14 = σ49.1 218 14 ∧ σ54.1 218 15 = σ49.1 218 15 ∧ σ54.1 218 20 = σ49.1 218 20 ∧ σ54.1 218 25 = σ49.1 218 25) := hqv53
              have hkv53 := hqv53
              have hqv53 := hqv53.1
              have r230_σ54 : σ54.1 230 = σ0.1 230 := (hOσ54.2 230 (by decide)).trans r230_σ49
              have hK : TOK σ54.1 := by first | exact hqv53.1 | exact hqv53.1.1 | exact TOK_p eσ54 (by decide) hK
              have hB : ZB σ54.1 := by first | exact hqv53.2.1 | exact hqv53.2.2.2.2.1 | exact ZB_s eσ54 hB
              try simp only [g7_σ49, g9_σ49, g10_σ49, g11_σ49, g12_σ49, g13_σ49, g20_σ49, g22_σ49, g23_σ49, g24_σ49, g25_σ49] at hqv53
              have g7_σ54 : σ54.1 218 7 = (σ0.1 218 7) := (hkv53.2.1).trans g7_σ49
              have g9_σ54 : σ54.1 218 9 = (σ0.1 218 9) := (hkv53.2.2.1).trans g9_σ49
              have g10_σ54 : σ54.1 218 10 = (σ46.1 218 10) := (hkv53.2.2.2.1).trans g10_σ49
              have g11_σ54 : σ54.1 218 11 = (σ46.1 218 11) := (hkv53.2.2.2.2.1).trans g11_σ49
              have g12_σ54 : σ54.1 218 12 = (σ46.1 218 12) := (hkv53.2.2.2.2.2.1).trans g12_σ49
              have g13_σ54 : σ54.1 218 13 = (σ46.1 218 13) := (hkv53.2.2.2.2.2.2.1).trans g13_σ49
              have g14_σ54 : σ54.1 218 14 = (σ49.1 218 14) := hkv53.2.2.2.2.2.2.2.1
              have g15_σ54 : σ54.1 218 15 = (σ49.1 218 15) := hkv53.2.2.2.2.2.2.2.2.1
              have g20_σ54 : σ54.1 218 20 = (σ0.1 218 20) := (hkv53.2.2.2.2.2.2.2.2.2.1).trans g20_σ49
              have g25_σ54 : σ54.1 218 25 = (σ0.1 218 25) := (hkv53.2.2.2.2.2.2.2.2.2.2).trans g25_σ49
              have h201 := hqv53.2.2.1
              have b201 := PIL_b hqv53.2.2.1 (by decide)
              have l201 := hqv53.2.2.2.1
              have o201 : σ49.1 230 = σ0.1 230 := (hOσ54.2 230 (by decide)).symm.trans r230_σ54
              rw [o201] at l201
              exact ok_rZ (Or.inr rfl) ⟨hT, (show (TOK σ54.1 ∧ ((σ0.1 218 11).toInt ≤ (σ54.1 218 11).toInt ∧ 0 ≤ (σ54.1 218 22).toInt ∧ (σ54.1 218 22).toInt ≤ 40) ∧ (σ54.1 218 14 = 0 → (σ0.1 218 11).toInt < (σ54.1 218 11).toInt ∧ ∃ c, stp tx n x1 (i, false, (lst (σ0.1 230) (σ0.1 218 22).toInt.toNat), (σ0.1 218 25).toInt.toNat) = some (some c) ∧ REL σ54.1 tx n c ∧ ((1 : Int32) = 0 ↔ c.2.1 = false)) ∧ (¬ σ54.1 218 14 = 0 → stp tx n x1 (i, false, (lst (σ0.1 230) (σ0.1 218 22).toInt.toNat), (σ0.1 218 25).toInt.toNat) = none) ∧ ZB σ54.1) ∧ (σ54.1 218 7 = σ0.1 218 7 ∧ σ54.1 218 9 = σ0.1 218 9 ∧ σ54.1 218 20 = σ0.1 218 20 ∧ σ54.1 218 25 = σ0.1 218 25) from ⟨by first | exact ⟨hK, ⟨m34.1, m34.2.1⟩, fun q => ⟨(m34.2.2.1 q).1.1, (tkE tx n i, false, decide (tkK tx n i = 40) :: (lst (σ0.1 230) (σ0.1 218 22).toInt.toNat), (σ0.1 218 25).toInt.toNat), (stp_o hpx).trans (if_neg (m34.2.2.1 q).2.1.1), ⟨⟨(m34.2.2.1 q).2.1.2, le1⟩, ⟨by first | exact ((m34.2.2.1 q).2.2.1.trans (by rw [k16]; rfl)).symm | exact ((m34.2.2.1 q).2.2.1.trans (by rw [k7, decide_eq_false (z50 w7.1)]; rfl)).symm, (m34.2.2.1 q).2.2.2⟩, by rw [g25_σ54], fun h => Bool.noConfusion (show false = true from h), fun _ => (m34.2.2.1 q).1.2⟩, ⟨fun _ => rfl, fun _ => rfl⟩⟩, fun q => (stp_o hpx).trans (if_pos (m34.2.2.2 q)), hB⟩ | exact absurd e7 n22 | exact absurd e22 n7 | exact absurd y196 n189 | exact ⟨hK, ⟨by (try simp only [g7_σ54, g9_σ54, g10_σ54, g11_σ54, g12_σ54, g13_σ54, g14_σ54, g15_σ54, g20_σ54, g25_σ54]); omega, by (try simp only [g7_σ54, g9_σ54, g10_σ54, g11_σ54, g12_σ54, g13_σ54, g14_σ54, g15_σ54, g20_σ54, g25_σ54]); omega⟩, fun q => absurd q (by (try simp only [g7_σ54, g9_σ54, g10_σ54, g11_σ54, g12_σ54, g13_σ54, g14_σ54, g15_σ54, g20_σ54, g25_σ54]); exact n196), fun _ => st9, hB⟩ | exact ⟨hK, ⟨by (try simp only [g7_σ54, g9_σ54, g10_σ54, g11_σ54, g12_σ54, g13_σ54, g14_σ54, g15_σ54, g20_σ54, g25_σ54]); omega, by omega⟩, fun _ => ⟨by (try simp only [g7_σ54, g9_σ54, g10_σ54, g11_σ54, g12_σ54, g13_σ54, g14_σ54, g15_σ54, g20_σ54, g25_σ54]); exact ga9, _, st9, ⟨⟨RX_i g9_σ54 g10_σ54 g11_σ54 g12_σ54 g13_σ54 ((hT.2 224 (by decide)).trans tE) nE pK9, le9⟩, ⟨by rw [r230_σ54]; exact l201.2.symm, by rw [r230_σ54]; exact NP_le hNP l201.1⟩, by rw [g25_σ54], fun _ => ⟨h201, popP_i _⟩, fun h => Bool.noConfusion (show true = false from h)⟩, ⟨fun h => absurd h (by decide), fun h => Bool.noConfusion (show true = false from h)⟩⟩, fun q => absurd (by (try simp only [g7_σ54, g9_σ54, g10_σ54, g11_σ54, g12_σ54, g13_σ54, g14_σ54, g15_σ54, g20_σ54, g25_σ54]); exact y196) q, hB⟩, g7_σ54, g9_σ54, g20_σ54, g25_σ54⟩)⟩
          · have k137 := t137 hc47
            refine ok_gC rfl ?_
            refine ok_zbT (Q := fun V σ => (TOK σ.1 ∧ ZB σ.1 ∧ σ.1 218 23 = σ46.1 218 23 + 1) ∧ (σ.1 218 7 = σ46.1 218 7 ∧ σ.1 218 9 = σ46.1 218 9 ∧ σ.1 218 10 = σ46.1 218 10 ∧ σ.1 218 11 = σ46.1 218 11 ∧ σ.1 218 12 = σ46.1 218 12 ∧ σ.1 218 13 = σ46.1 218 13 ∧ σ.1 218 14 = σ46.1 218 14 ∧ σ.1 218 15 = σ46.1 218 15 ∧ σ.1 218 20 = σ46.1 218 20 ∧ σ.1 218 22 = σ46.1 218 22 ∧ σ.1 218 24 = σ46.1 218 24 ∧ σ.1 218 25 = σ46.1 218 25)) hT (s_X12_pushesEmpty hN (hR.tr hT) (hK) (by rw [hT.2 224 (by decide)]; exact hY) (hB) (by (try simp only [g7_σ46, g9_σ46, g14_σ46, g15_σ46, g20_σ46, g22_σ46, g23_σ46, g24_σ46, g25_σ46]); omega)) (by decide) (fun v55 σ56 hOσ56 hT hqv55 => ?_)
            have hqv55 : (TOK σ56.1 ∧ ZB σ56.1 ∧ σ56.1 218 23 = σ46.1 218 23 + 1) ∧ (σ56.1 218 7 = σ46.1 218 7 ∧ σ56.1 218 9 = σ46.1 218 9 ∧ σ56.1 218 10 = σ46.1 218 10 ∧ σ56.1 218 11 = σ46.1 218 11 ∧ σ56.1 218 12 = σ46.1 218 12 ∧ σ56.1 218 13 = σ46.1 218 13 ∧ σ56.1 218 14 = σ46.1 218 14 ∧ σ56.1 218 15 = σ46.1 218 15 ∧ σ56.1 218 20 = σ46.1 218 20 ∧ σ56.1 218 22 = σ46.1 218 22 ∧ σ56.1 218 24 = σ46.1 218 24 ∧ σ56.1 218 25 = σ46.1 218 25) := hqv55
            have hkv55 := hqv55
            have hqv55 := hqv55.1
            have r230_σ56 : σ56.1 230 = σ0.1 230 := (hOσ56.2 230 (by decide)).trans r230_σ46
            have hK : TOK σ56.1 := by first | exact hqv55.1 | exact hqv55.1.1 | exact TOK_p eσ56 (by decide) hK
            have hB : ZB σ56.1 := by first | exact hqv55.2.1 | exact hqv55.2.2.2.2.1 | exact ZB_s eσ56 hB
            try simp only [g7_σ46, g9_σ46, g14_σ46, g15_σ46, g20_σ46, g22_σ46, g23_σ46, g24_σ46, g25_σ46] at hqv55
            have g7_σ56 : σ56.1 218 7 = (σ0.1 218 7) := (hkv55.2.1).trans g7_σ46
            have g9_σ56 : σ56.1 218 9 = (σ0.1 218 9) := (hkv55.2.2.1).trans g9_σ46
            have g10_σ56 : σ56.1 218 10 = (σ46.1 218 10) := hkv55.2.2.2.1
            have g11_σ56 : σ56.1 218 11 = (σ46.1 218 11) := hkv55.2.2.2.2.1
            have g12_σ56 : σ56.1 218 12 = (σ46.1 218 12) := hkv55.2.2.2.2.2.1
            have g13_σ56 : σ56.1 218 13 = (σ46.1 218 13) := hkv55.2.2.2.2.2.2.1
            have g14_σ56 : σ56.1 218 14 = (σ0.1 218 14) := (hkv55.2.2.2.2.2.2.2.1).trans g14_σ46
            have g15_σ56 : σ56.1 218 15 = (σ0.1 218 15) := (hkv55.2.2.2.2.2.2.2.2.1).trans g15_σ46
            have g20_σ56 : σ56.1 218 20 = (σ0.1 218 20) := (hkv55.2.2.2.2.2.2.2.2.2.1).trans g20_σ46
            have g22_σ56 : σ56.1 218 22 = (σ0.1 218 22) := (hkv55.2.2.2.2.2.2.2.2.2.2.1).trans g22_σ46
            have g24_σ56 : σ56.1 218 24 = (σ0.1 218 24) := (hkv55.2.2.2.2.2.2.2.2.2.2.2.1).trans g24_σ46
            have g25_σ56 : σ56.1 218 25 = (σ0.1 218 25) := (hkv55.2.2.2.2.2.2.2.2.2.2.2.2).trans g25_σ46
            have g57 := hqv55.2.2
            have s57 : (σ56.1 218 23).toInt = ((b8 + 1 : Nat) : Int) := by rw [g57, ti_add]; simp only [Int32.reduceToInt]; omega
            have p57 : ((σ56.1 218 23) - 1).toInt = (b8 : Int) := by rw [ti_sub, s57]; simp only [Int32.reduceToInt]; omega
            have m57 := p1024 p57 (by omega) (by omega)
            refine ok_lp (fun t : Int32 × zS => Tr [218, 226, 227, 228, 229, 230] σ0 (t.2) ∧ (0 ≤ (t.1).toInt) ∧ (TOK (t.2).1) ∧ (ZB (t.2).1) ∧ ((t.2).1 218 7 = (σ0.1 218 7)) ∧ ((t.2).1 218 9 = (σ0.1 218 9)) ∧ ((t.2).1 218 10 = (σ46.1 218 10)) ∧ ((t.2).1 218 11 = (σ46.1 218 11)) ∧ ((t.2).1 218 12 = (σ46.1 218 12)) ∧ ((t.2).1 218 13 = (σ46.1 218 13)) ∧ ((t.2).1 218 14 = (σ0.1 218 14)) ∧ ((t.2).1 218 15 = (σ0.1 218 15)) ∧ ((t.2).1 218 20 = (σ0.1 218 20)) ∧ ((t.2).1 218 22 = (σ0.1 218 22)) ∧ ((t.2).1 218 23 = (σ56.1 218 23)) ∧ ((t.2).1 218 24 = (σ0.1 218 24)) ∧ ((t.2).1 218 25 = (σ0.1 218 25)) ∧ ((t.2).1 230 = σ0.1 230)) (fun t : Int32 × zS => (1024 - (t.1).toInt).toNat) (fun again57 t hI ih150_57 => ?_) N _ (show Tr [218, 226, 227, 228, 229, 230] σ0 σ56 ∧ (0 ≤ (0 : Int32).toInt) ∧ (TOK σ56.1) ∧ (ZB σ56.1) ∧ (σ56.1 218 7 = (σ0.1 218 7)) ∧ (σ56.1 218 9 = (σ0.1 218 9)) ∧ (σ56.1 218 10 = (σ46.1 218 10)) ∧ (σ56.1 218 11 = (σ46.1 218 11)) ∧ (σ56.1 218 12 = (σ46.1 218 12)) ∧ (σ56.1 218 13 = (σ46.1 218 13)) ∧ (σ56.1 218 14 = (σ0.1 218 14)) ∧ (σ56.1 218 15 = (σ0.1 218 15)) ∧ (σ56.1 218 20 = (σ0.1 218 20)) ∧ (σ56.1 218 22 = (σ0.1 218 22)) ∧ (σ56.1 218 23 = (σ56.1 218 23)) ∧ (σ56.1 218 24 = (σ0.1 218 24)) ∧ (σ56.1 218 25 = (σ0.1 218 25)) ∧ (σ56.1 230 = σ0.1 230) from ⟨hT, (by decide), hK, hB, g7_σ56, g9_σ56, g10_σ56, g11_σ56, g12_σ56, g13_σ56, g14_σ56, g15_σ56, g20_σ56, g22_σ56, rfl, g24_σ56, g25_σ56, r230_σ56⟩) (show (1024 - (0 : Int32).toInt).toNat < N from (by simp only [Int32.reduceToInt]; omega))
            obtain ⟨x4_57, σ57⟩ := t
            have hI : Tr [218, 226, 227, 228, 229, 230] σ0 σ57 ∧ (0 ≤ x4_57.toInt) ∧ (TOK σ57.1) ∧ (ZB σ57.1) ∧ (σ57.1 218 7 = (σ0.1 218 7)) ∧ (σ57.1 218 9 = (σ0.1 218 9)) ∧ (σ57.1 218 10 = (σ46.1 218 10)) ∧ (σ57.1 218 11 = (σ46.1 218 11)) ∧ (σ57.1 218 12 = (σ46.1 218 12)) ∧ (σ57.1 218 13 = (σ46.1 218 13)) ∧ (σ57.1 218 14 = (σ0.1 218 14)) ∧ (σ57.1 218 15 = (σ0.1 218 15)) ∧ (σ57.1 218 20 = (σ0.1 218 20)) ∧ (σ57.1 218 22 = (σ0.1 218 22)) ∧ (σ57.1 218 23 = (σ56.1 218 23)) ∧ (σ57.1 218 24 = (σ0.1 218 24)) ∧ (σ57.1 218 25 = (σ0.1 218 25)) ∧ (σ57.1 230 = σ0.1 230) := hI
            obtain ⟨hT, hI57, hK, hB, g7_σ57, g9_σ57, g10_σ57, g11_σ57, g12_σ57, g13_σ57, g14_σ57, g15_σ57, g20_σ57, g22_σ57, g23_σ57, g24_σ57, g25_σ57, r230_σ57⟩ := hI
            rw [F_X12_readsPart_150.eq_1]
            refine ok_gIv rfl g20_σ57 ?_
            refine ok_if (fun hc59 => ?_) (fun hc59 => ?_)
            · rw [J_X12_readsPart_192.eq_1]
              refine ok_gC rfl ?_
              refine ok_zbX (Q := fun V => (V = 0 → ¬ σ57.1 218 14 = 0) ∧ (¬ V = 0 → σ57.1 218 14 = 0)) (x_X12_good) (fun v60 hqv60 => ?_)
              have hqv60 : (v60 = 0 → ¬ σ57.1 218 14 = 0) ∧ (¬ v60 = 0 → σ57.1 218 14 = 0) := hqv60
              try simp only [g7_σ57, g9_σ57, g10_σ57, g11_σ57, g12_σ57, g13_σ57, g14_σ57, g15_σ57, g20_σ57, g22_σ57, g23_σ57, g24_σ57, g25_σ57, hT.2 224 (by decide)] at hqv60
              refine ok_if (fun hc62 => ?_) (fun hc62 => ?_)
              · have qhc62 := hqv60.1 hc62
                have n196 := qhc62
                have st9 : stp tx n x1 (i, false, (lst (σ0.1 230) (σ0.1 218 22).toInt.toNat), (σ0.1 218 25).toInt.toNat) = none := by first | exact (stp_n h0q k44).trans (if_neg (f51 n196).2) | exact (stp_f h0q k122).trans (by rw [f127 n196]; rfl) | exact stp_z h0q m44 m122 i140.2 | exact absurd hg n196
                exact ok_rZ (Or.inr rfl) ⟨hT, (show (TOK σ57.1 ∧ ((σ0.1 218 11).toInt ≤ (σ57.1 218 11).toInt ∧ 0 ≤ (σ57.1 218 22).toInt ∧ (σ57.1 218 22).toInt ≤ 40) ∧ (σ57.1 218 14 = 0 → (σ0.1 218 11).toInt < (σ57.1 218 11).toInt ∧ ∃ c, stp tx n x1 (i, false, (lst (σ0.1 230) (σ0.1 218 22).toInt.toNat), (σ0.1 218 25).toInt.toNat) = some (some c) ∧ REL σ57.1 tx n c ∧ ((1 : Int32) = 0 ↔ c.2.1 = false)) ∧ (¬ σ57.1 218 14 = 0 → stp tx n x1 (i, false, (lst (σ0.1 230) (σ0.1 218 22).toInt.toNat), (σ0.1 218 25).toInt.toNat) = none) ∧ ZB σ57.1) ∧ (σ57.1 218 7 = σ0.1 218 7 ∧ σ57.1 218 9 = σ0.1 218 9 ∧ σ57.1 218 20 = σ0.1 218 20 ∧ σ57.1 218 25 = σ0.1 218 25) from ⟨by first | exact ⟨hK, ⟨m34.1, m34.2.1⟩, fun q => ⟨(m34.2.2.1 q).1.1, (tkE tx n i, false, decide (tkK tx n i = 40) :: (lst (σ0.1 230) (σ0.1 218 22).toInt.toNat), (σ0.1 218 25).toInt.toNat), (stp_o hpx).trans (if_neg (m34.2.2.1 q).2.1.1), ⟨⟨(m34.2.2.1 q).2.1.2, le1⟩, ⟨by first | exact ((m34.2.2.1 q).2.2.1.trans (by rw [k16]; rfl)).symm | exact ((m34.2.2.1 q).2.2.1.trans (by rw [k7, decide_eq_false (z50 w7.1)]; rfl)).symm, (m34.2.2.1 q).2.2.2⟩, by rw [g25_σ57], fun h => Bool.noConfusion (show false = true from h), fun _ => (m34.2.2.1 q).1.2⟩, ⟨fun _ => rfl, fun _ => rfl⟩⟩, fun q => (stp_o hpx).trans (if_pos (m34.2.2.2 q)), hB⟩ | exact absurd e7 n22 | exact absurd e22 n7 | exact absurd y196 n189 | exact ⟨hK, ⟨by (try simp only [g7_σ57, g9_σ57, g10_σ57, g11_σ57, g12_σ57, g13_σ57, g14_σ57, g15_σ57, g20_σ57, g22_σ57, g23_σ57, g24_σ57, g25_σ57]); omega, by (try simp only [g7_σ57, g9_σ57, g10_σ57, g11_σ57, g12_σ57, g13_σ57, g14_σ57, g15_σ57, g20_σ57, g22_σ57, g23_σ57, g24_σ57, g25_σ57]); omega⟩, fun q => absurd q (by (try simp only [g7_σ57, g9_σ57, g10_σ57, g11_σ57, g12_σ57, g13_σ57, g14_σ57, g15_σ57, g20_σ57, g22_σ57, g23_σ57, g24_σ57, g25_σ57]); exact n196), fun _ => st9, hB⟩ | exact ⟨hK, ⟨by (try simp only [g7_σ57, g9_σ57, g10_σ57, g11_σ57, g12_σ57, g13_σ57, g14_σ57, g15_σ57, g20_σ57, g22_σ57, g23_σ57, g24_σ57, g25_σ57]); omega, by omega⟩, fun _ => ⟨by (try simp only [g7_σ57, g9_σ57, g10_σ57, g11_σ57, g12_σ57, g13_σ57, g14_σ57, g15_σ57, g20_σ57, g22_σ57, g23_σ57, g24_σ57, g25_σ57]); exact ga9, _, st9, ⟨⟨RX_i g9_σ57 g10_σ57 g11_σ57 g12_σ57 g13_σ57 ((hT.2 224 (by decide)).trans tE) nE pK9, le9⟩, ⟨by rw [r230_σ57]; exact l201.2.symm, by rw [r230_σ57]; exact NP_le hNP l201.1⟩, by rw [g25_σ57], fun _ => ⟨h201, popP_i _⟩, fun h => Bool.noConfusion (show true = false from h)⟩, ⟨fun h => absurd h (by decide), fun h => Bool.noConfusion (show true = false from h)⟩⟩, fun q => absurd (by (try simp only [g7_σ57, g9_σ57, g10_σ57, g11_σ57, g12_σ57, g13_σ57, g14_σ57, g15_σ57, g20_σ57, g22_σ57, g23_σ57, g24_σ57, g25_σ57]); exact y196) q, hB⟩, g7_σ57, g9_σ57, g20_σ57, g25_σ57⟩)⟩
              · have qhc62 := hqv60.2 hc62
                have y196 := qhc62
                obtain ⟨P9, st9, pK9, ga9, le9⟩ : ∃ p, stp tx n x1 (i, false, (lst (σ0.1 230) (σ0.1 218 22).toInt.toNat), (σ0.1 218 25).toInt.toNat) = some (some (p, true, popP (lst (σ0.1 230) (σ0.1 218 22).toInt.toNat), (σ0.1 218 25).toInt.toNat)) ∧ TKV (σ46.1 218 11) (σ46.1 218 10) (σ46.1 218 12) (σ46.1 218 13) tx n p ∧ (σ0.1 218 11).toInt < (σ46.1 218 11).toInt ∧ p ≤ n := by first | exact ⟨_, (stp_n h0q k44).trans (if_pos (u51 y196).1.2), (u51 y196).2.2.2, (u51 y196).1.1, le1⟩ | (obtain ⟨j, fj, rj⟩ := (u127 y196).2; exact ⟨j, (stp_f h0q k122).trans (by rw [fj]; rfl), rj.2, (u127 y196).1, fam_le hi fj⟩) | exact ⟨_, stp_a h0q k137.1.1, k137.2.2, k137.1.2, le1⟩ | exact absurd y196 n189
                refine ok_gC rfl ?_
                refine ok_zbT (Q := fun V σ => (TOK σ.1 ∧ ZB σ.1 ∧ PIL σ.1 1 ∧ ((σ.1 218 22).toInt.toNat ≤ (σ57.1 218 22).toInt.toNat ∧ lst (σ57.1 230) (σ.1 218 22).toInt.toNat = popP (lst (σ57.1 230) (σ57.1 218 22).toInt.toNat)) ∧ ((σ.1 218 22).toInt ≤ 0 ∨ (rkI (σ57.1 230 ((σ.1 218 22) - 1).toNatClampNeg)).toInt < (3 : Int32).toInt)) ∧ (σ.1 218 7 = σ57.1 218 7 ∧ σ.1 218 9 = σ57.1 218 9 ∧ σ.1 218 10 = σ57.1 218 10 ∧ σ.1 218 11 = σ57.1 218 11 ∧ σ.1 218 12 = σ57.1 218 12 ∧ σ.1 218 13 = σ57.1 218 13 ∧ σ.1 218 14 = σ57.1 218 14 ∧ σ.1 218 15 = σ57.1 218 15 ∧ σ.1 218 20 = σ57.1 218 20 ∧ σ.1 218 25 = σ57.1 218 25)) hT (s_X12_settlesTo_r hN (hR.tr hT) (hK) (by rw [hT.2 224 (by decide)]; exact hY) (hB) (by (try simp only [g7_σ57, g9_σ57, g10_σ57, g11_σ57, g12_σ57, g13_σ57, g14_σ57, g15_σ57, g20_σ57, g22_σ57, g23_σ57, g24_σ57, g25_σ57]); exact ha) (by first | exact PIL_i g22_σ57 g23_σ57 g24_σ57 r230_σ57 hS h22 hd hd6 s57 | exact absurd y196 n189) (by decide) (by (try simp only [g7_σ57, g9_σ57, g10_σ57, g11_σ57, g12_σ57, g13_σ57, g14_σ57, g15_σ57, g20_σ57, g22_σ57, g23_σ57, g24_σ57, g25_σ57]); rw [r230_σ57]; exact hNP) (Or.inl (by decide))) (by decide) (fun v63 σ64 hOσ64 hT hqv63 => ?_)
                have hqv63 : (TOK σ64.1 ∧ ZB σ64.1 ∧ PIL σ64.1 1 ∧ ((σ64.1 218 22).toInt.toNat ≤ (σ57.1 218 22).toInt.toNat ∧ lst (σ57.1 230) (σ64.1 218 22).toInt.toNat = popP (lst (σ57.1 230) (σ57.1 218 22).toInt.toNat)) ∧ ((σ64.1 218 22).toInt ≤ 0 ∨ (rkI (σ57.1 230 ((σ64.1 218 22) - 1).toNatClampNeg)).toInt < (3 : Int32).toInt)) ∧ (σ64.1 218 7 = σ57.1 218 7 ∧ σ64.1 218 9 = σ57.1 218 9 ∧ σ64.1 218 10 = σ57.1 218 10 ∧ σ64.1 218 11 = σ57.1 218 11 ∧ σ64.1 218 12 = σ57.1 218 12 ∧ σ64.1 218 13 = σ57.1 218 13 ∧ σ64.1 218 14 = σ57.1 218 14 ∧ σ64.1 218 15 = σ57.1 218 15 ∧ σ64.1 218 20 = σ57.1 218 20 ∧ σ64.1 218 25 = σ57.1 218 25) := hqv63
                have hkv63 := hqv63
                have hqv63 := hqv63.1
                have r230_σ64 : σ64.1 230 = σ0.1 230 := (hOσ64.2 230 (by decide)).trans r230_σ57
                have hK : TOK σ64.1 := by first | exact hqv63.1 | exact hqv63.1.1 | exact TOK_p eσ64 (by decide) hK
                have hB : ZB σ64.1 := by first | exact hqv63.2.1 | exact hqv63.2.2.2.2.1 | exact ZB_s eσ64 hB
                try simp only [g7_σ57, g9_σ57, g10_σ57, g11_σ57, g12_σ57, g13_σ57, g14_σ57, g15_σ57, g20_σ57, g22_σ57, g23_σ57, g24_σ57, g25_σ57] at hqv63
                have g7_σ64 : σ64.1 218 7 = (σ0.1 218 7) := (hkv63.2.1).trans g7_σ57
                have g9_σ64 : σ64.1 218 9 = (σ0.1 218 9) := (hkv63.2.2.1).trans g9_σ57
                have g10_σ64 : σ64.1 218 10 = (σ46.1 218 10) := (hkv63.2.2.2.1).trans g10_σ57
                have g11_σ64 : σ64.1 218 11 = (σ46.1 218 11) := (hkv63.2.2.2.2.1).trans g11_σ57
                have g12_σ64 : σ64.1 218 12 = (σ46.1 218 12) := (hkv63.2.2.2.2.2.1).trans g12_σ57
                have g13_σ64 : σ64.1 218 13 = (σ46.1 218 13) := (hkv63.2.2.2.2.2.2.1).trans g13_σ57
                have g14_σ64 : σ64.1 218 14 = (σ0.1 218 14) := (hkv63.2.2.2.2.2.2.2.1).trans g14_σ57
                have g15_σ64 : σ64.1 218 15 = (σ0.1 218 15) := (hkv63.2.2.2.2.2.2.2.2.1).trans g15_σ57
                have g20_σ64 : σ64.1 218 20 = (σ0.1 218 20) := (hkv63.2.2.2.2.2.2.2.2.2.1).trans g20_σ57
                have g25_σ64 : σ64.1 218 25 = (σ0.1 218 25) := (hkv63.2.2.2.2.2.2.2.2.2.2).trans g25_σ57
                have h201 := hqv63.2.2.1
                have b201 := PIL_b hqv63.2.2.1 (by decide)
                have l201 := hqv63.2.2.2.1
                have o201 : σ57.1 230 = σ0.1 230 := (hOσ64.2 230 (by decide)).symm.trans r230_σ64
                rw [o201] at l201
                exact ok_rZ (Or.inr rfl) ⟨hT, (show (TOK σ64.1 ∧ ((σ0.1 218 11).toInt ≤ (σ64.1 218 11).toInt ∧ 0 ≤ (σ64.1 218 22).toInt ∧ (σ64.1 218 22).toInt ≤ 40) ∧ (σ64.1 218 14 = 0 → (σ0.1 218 11).toInt < (σ64.1 218 11).toInt ∧ ∃ c, stp tx n x1 (i, false, (lst (σ0.1 230) (σ0.1 218 22).toInt.toNat), (σ0.1 218 25).toInt.toNat) = some (some c) ∧ REL σ64.1 tx n c ∧ ((1 : Int32) = 0 ↔ c.2.1 = false)) ∧ (¬ σ64.1 218 14 = 0 → stp tx n x1 (i, false, (lst (σ0.1 230) (σ0.1 218 22).toInt.toNat), (σ0.1 218 25).toInt.toNat) = none) ∧ ZB σ64.1) ∧ (σ64.1 218 7 = σ0.1 218 7 ∧ σ64.1 218 9 = σ0.1 218 9 ∧ σ64.1 218 20 = σ0.1 218 20 ∧ σ64.1 218 25 = σ0.1 218 25) from ⟨by first | exact ⟨hK, ⟨m34.1, m34.2.1⟩, fun q => ⟨(m34.2.2.1 q).1.1, (tkE tx n i, false, decide (tkK tx n i = 40) :: (lst (σ0.1 230) (σ0.1 218 22).toInt.toNat), (σ0.1 218 25).toInt.toNat), (stp_o hpx).trans (if_neg (m34.2.2.1 q).2.1.1), ⟨⟨(m34.2.2.1 q).2.1.2, le1⟩, ⟨by first | exact ((m34.2.2.1 q).2.2.1.trans (by rw [k16]; rfl)).symm | exact ((m34.2.2.1 q).2.2.1.trans (by rw [k7, decide_eq_false (z50 w7.1)]; rfl)).symm, (m34.2.2.1 q).2.2.2⟩, by rw [g25_σ64], fun h => Bool.noConfusion (show false = true from h), fun _ => (m34.2.2.1 q).1.2⟩, ⟨fun _ => rfl, fun _ => rfl⟩⟩, fun q => (stp_o hpx).trans (if_pos (m34.2.2.2 q)), hB⟩ | exact absurd e7 n22 | exact absurd e22 n7 | exact absurd y196 n189 | exact ⟨hK, ⟨by (try simp only [g7_σ64, g9_σ64, g10_σ64, g11_σ64, g12_σ64, g13_σ64, g14_σ64, g15_σ64, g20_σ64, g25_σ64]); omega, by (try simp only [g7_σ64, g9_σ64, g10_σ64, g11_σ64, g12_σ64, g13_σ64, g14_σ64, g15_σ64, g20_σ64, g25_σ64]); omega⟩, fun q => absurd q (by (try simp only [g7_σ64, g9_σ64, g10_σ64, g11_σ64, g12_σ64, g13_σ64, g14_σ64, g15_σ64, g20_σ64, g25_σ64]); exact n196), fun _ => st9, hB⟩ | exact ⟨hK, ⟨by (try simp only [g7_σ64, g9_σ64, g10_σ64, g11_σ64, g12_σ64, g13_σ64, g14_σ64, g15_σ64, g20_σ64, g25_σ64]); omega, by omega⟩, fun _ => ⟨by (try simp only [g7_σ64, g9_σ64, g10_σ64, g11_σ64, g12_σ64, g13_σ64, g14_σ64, g15_σ64, g20_σ64, g25_σ64]); exact ga9, _, st9, ⟨⟨RX_i g9_σ64 g10_σ64 g11_σ64 g12_σ64 g13_σ64 ((hT.2 224 (by decide)).trans tE) nE pK9, le9⟩, ⟨by rw [r230_σ64]; exact l201.2.symm, by rw [r230_σ64]; exact NP_le hNP l201.1⟩, by rw [g25_σ64], fun _ => ⟨h201, popP_i _⟩, fun h => Bool.noConfusion (show true = false from h)⟩, ⟨fun h => absurd h (by decide), fun h => Bool.noConfusion (show true = false from h)⟩⟩, fun q => absurd (by (try simp only [g7_σ64, g9_σ64, g10_σ64, g11_σ64, g12_σ64, g13_σ64, g14_σ64, g15_σ64, g20_σ64, g25_σ64]); exact y196) q, hB⟩, g7_σ64, g9_σ64, g20_σ64, g25_σ64⟩)⟩
            · have l68 := hc59
              rw [Int32.le_iff_toInt_le] at l68
              try simp only [Int32.reduceToInt] at l68
              have s68 : (x4_57 + 1).toInt = x4_57.toInt + 1 := by rw [ti_add]; simp only [Int32.reduceToInt]; omega
              refine ok_gR (v := 226) hT rfl (hR 218 16 rfl) ?_
              refine ok_gIv rfl g23_σ57 ?_
              refine ok_s16 hT rfl (by decide) (by rw [ti_add, m57]; omega) (by rw [ti_add, m57]; omega) (fun σ67 eσ67 hOσ67 hT => ?_)
              have r230_σ67 : σ67.1 230 = σ0.1 230 := (hOσ67.2 230 (by decide)).trans r230_σ57
              have hK : TOK σ67.1 := TOK_tr hOσ67 (by decide) (by decide) hK
              have hB : ZB σ67.1 := by first | exact HQ.2.1 | exact HQ.2.2.2.2.1 | exact ZB_s eσ67 hB
              have g7_σ67 : σ67.1 218 7 = (σ0.1 218 7) := (congrFun (hOσ67.2 218 (by decide)) 7).trans g7_σ57
              have g9_σ67 : σ67.1 218 9 = (σ0.1 218 9) := (congrFun (hOσ67.2 218 (by decide)) 9).trans g9_σ57
              have g10_σ67 : σ67.1 218 10 = (σ46.1 218 10) := (congrFun (hOσ67.2 218 (by decide)) 10).trans g10_σ57
              have g11_σ67 : σ67.1 218 11 = (σ46.1 218 11) := (congrFun (hOσ67.2 218 (by decide)) 11).trans g11_σ57
              have g12_σ67 : σ67.1 218 12 = (σ46.1 218 12) := (congrFun (hOσ67.2 218 (by decide)) 12).trans g12_σ57
              have g13_σ67 : σ67.1 218 13 = (σ46.1 218 13) := (congrFun (hOσ67.2 218 (by decide)) 13).trans g13_σ57
              have g14_σ67 : σ67.1 218 14 = (σ0.1 218 14) := (congrFun (hOσ67.2 218 (by decide)) 14).trans g14_σ57
              have g15_σ67 : σ67.1 218 15 = (σ0.1 218 15) := (congrFun (hOσ67.2 218 (by decide)) 15).trans g15_σ57
              have g20_σ67 : σ67.1 218 20 = (σ0.1 218 20) := (congrFun (hOσ67.2 218 (by decide)) 20).trans g20_σ57
              have g22_σ67 : σ67.1 218 22 = (σ0.1 218 22) := (congrFun (hOσ67.2 218 (by decide)) 22).trans g22_σ57
              have g23_σ67 : σ67.1 218 23 = (σ56.1 218 23) := (congrFun (hOσ67.2 218 (by decide)) 23).trans g23_σ57
              have g24_σ67 : σ67.1 218 24 = (σ0.1 218 24) := (congrFun (hOσ67.2 218 (by decide)) 24).trans g24_σ57
              have g25_σ67 : σ67.1 218 25 = (σ0.1 218 25) := (congrFun (hOσ67.2 218 (by decide)) 25).trans g25_σ57
              exact ih150_57 (x4_57 + 1, σ67) (show Tr [218, 226, 227, 228, 229, 230] σ0 σ67 ∧ (0 ≤ (x4_57 + 1).toInt) ∧ (TOK σ67.1) ∧ (ZB σ67.1) ∧ (σ67.1 218 7 = (σ0.1 218 7)) ∧ (σ67.1 218 9 = (σ0.1 218 9)) ∧ (σ67.1 218 10 = (σ46.1 218 10)) ∧ (σ67.1 218 11 = (σ46.1 218 11)) ∧ (σ67.1 218 12 = (σ46.1 218 12)) ∧ (σ67.1 218 13 = (σ46.1 218 13)) ∧ (σ67.1 218 14 = (σ0.1 218 14)) ∧ (σ67.1 218 15 = (σ0.1 218 15)) ∧ (σ67.1 218 20 = (σ0.1 218 20)) ∧ (σ67.1 218 22 = (σ0.1 218 22)) ∧ (σ67.1 218 23 = (σ56.1 218 23)) ∧ (σ67.1 218 24 = (σ0.1 218 24)) ∧ (σ67.1 218 25 = (σ0.1 218 25)) ∧ (σ67.1 230 = σ0.1 230) from ⟨hT, (by rw [s68]; omega), hK, hB, g7_σ67, g9_σ67, g10_σ67, g11_σ67, g12_σ67, g13_σ67, g14_σ67, g15_σ67, g20_σ67, g22_σ67, g23_σ67, g24_σ67, g25_σ67, r230_σ67⟩) (show (1024 - (x4_57 + 1).toInt).toNat < (1024 - x4_57.toInt).toNat from (by rw [s68]; omega))
  · have n7 := hc3
    have w7 := hqv1.resolve_left (fun q => hc3 q.1)
    have k7 : tkK tx n i = 1 := by obtain ⟨k, _, hw⟩ := w7.2; exact hw.1
    rw [J_X12_readsPart_19.eq_1]
    refine ok_if (fun hc68 => ?_) (fun hc68 => ?_)
    · have e22 := hc68
      refine ok_gC rfl ?_
      refine ok_zbT (Q := fun V σ => (TOK σ.1 ∧ (σ0.1 218 11).toInt ≤ (σ.1 218 11).toInt ∧ (0 ≤ (σ.1 218 22).toInt ∧ (σ.1 218 22).toInt ≤ 40) ∧ (σ.1 218 14 = 0 → ((σ0.1 218 11).toInt < (σ.1 218 11).toInt ∧ PIL σ.1 0) ∧ (¬ (lst (σ0.1 230) (σ0.1 218 22).toInt.toNat).length = 6 ∧ RX σ.1 tx n (tkE tx n i)) ∧ lst (σ.1 230) (σ.1 218 22).toInt.toNat = decide ((100 : Int32) = 100) :: (lst (σ0.1 230) (σ0.1 218 22).toInt.toNat) ∧ NP (σ.1 230) (σ.1 218 22).toInt.toNat) ∧ (¬ σ.1 218 14 = 0 → (lst (σ0.1 230) (σ0.1 218 22).toInt.toNat).length = 6)) ∧ (σ.1 218 7 = σ0.1 218 7 ∧ σ.1 218 9 = σ0.1 218 9 ∧ σ.1 218 20 = σ0.1 218 20 ∧ σ.1 218 23 = σ0.1 218 23 ∧ σ.1 218 25 = σ0.1 218 25)) hT (s_X12_opens_r hN (hR.tr hT) (hK) (by rw [hT.2 224 (by decide)]; exact hY) (RX_i rfl rfl rfl rfl rfl ((hT.2 224 (by decide)).trans tE) nE pK) (hg) (hP) (by first | decide | (have w8 := w7.1; rw [ti_add]; simp only [Int32.reduceToInt]; omega) | exact absurd e7 n22) (by first | (rw [pK.2.1, k7]; decide) | (rw [e16]; decide)) (hNP)) (by decide) (fun v69 σ70 hOσ70 hT hqv69 => ?_)
      have hqv69 : (TOK σ70.1 ∧ (σ0.1 218 11).toInt ≤ (σ70.1 218 11).toInt ∧ (0 ≤ (σ70.1 218 22).toInt ∧ (σ70.1 218 22).toInt ≤ 40) ∧ (σ70.1 218 14 = 0 → ((σ0.1 218 11).toInt < (σ70.1 218 11).toInt ∧ PIL σ70.1 0) ∧ (¬ (lst (σ0.1 230) (σ0.1 218 22).toInt.toNat).length = 6 ∧ RX σ70.1 tx n (tkE tx n i)) ∧ lst (σ70.1 230) (σ70.1 218 22).toInt.toNat = decide ((100 : Int32) = 100) :: (lst (σ0.1 230) (σ0.1 218 22).toInt.toNat) ∧ NP (σ70.1 230) (σ70.1 218 22).toInt.toNat) ∧ (¬ σ70.1 218 14 = 0 → (lst (σ0.1 230) (σ0.1 218 22).toInt.toNat).length = 6)) ∧ (σ70.1 218 7 = σ0.1 218 7 ∧ σ70.1 218 9 = σ0.1 218 9 ∧ σ70.1 218 20 = σ0.1 218 20 ∧ σ70.1 218 23 = σ0.1 218 23 ∧ σ70.1 218 25 = σ0.1 218 25) := hqv69
      have hkv69 := hqv69
      have hqv69 := hqv69.1
      have hK : TOK σ70.1 := by first | exact hqv69.1 | exact hqv69.1.1 | exact TOK_p eσ70 (by decide) hK
      have hB : ZB σ70.1 := ZB.tr hOσ70 (by decide) hB
      have g7_σ70 : σ70.1 218 7 = (σ0.1 218 7) := hkv69.2.1
      have g9_σ70 : σ70.1 218 9 = (σ0.1 218 9) := hkv69.2.2.1
      have g20_σ70 : σ70.1 218 20 = (σ0.1 218 20) := hkv69.2.2.2.1
      have g23_σ70 : σ70.1 218 23 = (σ0.1 218 23) := hkv69.2.2.2.2.1
      have g25_σ70 : σ70.1 218 25 = (σ0.1 218 25) := hkv69.2.2.2.2.2
      have m34 := hqv69.2
      have hpx : isPx tx n i ∨ tkK tx n i = 40 := by first | exact Or.inl w7.2 | exact Or.inr k16
      exact ok_rZ (Or.inl rfl) ⟨hT, (show (TOK σ70.1 ∧ ((σ0.1 218 11).toInt ≤ (σ70.1 218 11).toInt ∧ 0 ≤ (σ70.1 218 22).toInt ∧ (σ70.1 218 22).toInt ≤ 40) ∧ (σ70.1 218 14 = 0 → (σ0.1 218 11).toInt < (σ70.1 218 11).toInt ∧ ∃ c, stp tx n x1 (i, false, (lst (σ0.1 230) (σ0.1 218 22).toInt.toNat), (σ0.1 218 25).toInt.toNat) = some (some c) ∧ REL σ70.1 tx n c ∧ ((0 : Int32) = 0 ↔ c.2.1 = false)) ∧ (¬ σ70.1 218 14 = 0 → stp tx n x1 (i, false, (lst (σ0.1 230) (σ0.1 218 22).toInt.toNat), (σ0.1 218 25).toInt.toNat) = none) ∧ ZB σ70.1) ∧ (σ70.1 218 7 = σ0.1 218 7 ∧ σ70.1 218 9 = σ0.1 218 9 ∧ σ70.1 218 20 = σ0.1 218 20 ∧ σ70.1 218 25 = σ0.1 218 25) from ⟨by first | exact ⟨hK, ⟨m34.1, m34.2.1⟩, fun q => ⟨(m34.2.2.1 q).1.1, (tkE tx n i, false, decide (tkK tx n i = 40) :: (lst (σ0.1 230) (σ0.1 218 22).toInt.toNat), (σ0.1 218 25).toInt.toNat), (stp_o hpx).trans (if_neg (m34.2.2.1 q).2.1.1), ⟨⟨(m34.2.2.1 q).2.1.2, le1⟩, ⟨by first | exact ((m34.2.2.1 q).2.2.1.trans (by rw [k16]; rfl)).symm | exact ((m34.2.2.1 q).2.2.1.trans (by rw [k7, decide_eq_false (z50 w7.1)]; rfl)).symm, (m34.2.2.1 q).2.2.2⟩, by rw [g25_σ70], fun h => Bool.noConfusion (show false = true from h), fun _ => (m34.2.2.1 q).1.2⟩, ⟨fun _ => rfl, fun _ => rfl⟩⟩, fun q => (stp_o hpx).trans (if_pos (m34.2.2.2 q)), hB⟩ | exact absurd e7 n22 | exact absurd e22 n7 | exact absurd y196 n189 | exact ⟨hK, ⟨by (try simp only [g7_σ70, g9_σ70, g20_σ70, g23_σ70, g25_σ70]); omega, by (try simp only [g7_σ70, g9_σ70, g20_σ70, g23_σ70, g25_σ70]); omega⟩, fun q => absurd q (by (try simp only [g7_σ70, g9_σ70, g20_σ70, g23_σ70, g25_σ70]); exact n196), fun _ => st9, hB⟩ | exact ⟨hK, ⟨by (try simp only [g7_σ70, g9_σ70, g20_σ70, g23_σ70, g25_σ70]); omega, by omega⟩, fun _ => ⟨by (try simp only [g7_σ70, g9_σ70, g20_σ70, g23_σ70, g25_σ70]); exact ga9, _, st9, ⟨⟨RX_i g9_σ70 rfl rfl rfl rfl ((hT.2 224 (by decide)).trans tE) nE pK9, le9⟩, ⟨by rw [rfl]; exact l201.2.symm, by rw [rfl]; exact NP_le hNP l201.1⟩, by rw [g25_σ70], fun _ => ⟨h201, popP_i _⟩, fun h => Bool.noConfusion (show true = false from h)⟩, ⟨fun h => absurd h (by decide), fun h => Bool.noConfusion (show true = false from h)⟩⟩, fun q => absurd (by (try simp only [g7_σ70, g9_σ70, g20_σ70, g23_σ70, g25_σ70]); exact y196) q, hB⟩, g7_σ70, g9_σ70, g20_σ70, g25_σ70⟩)⟩
    · have n22 := hc68
      refine ok_gC rfl ?_
      refine ok_zbT (Q := fun V σ => (TOK σ.1 ∧ (σ0.1 218 11).toInt ≤ (σ.1 218 11).toInt ∧ (0 ≤ (σ.1 218 22).toInt ∧ (σ.1 218 22).toInt ≤ 40) ∧ (σ.1 218 14 = 0 → ((σ0.1 218 11).toInt < (σ.1 218 11).toInt ∧ PIL σ.1 0) ∧ (¬ (lst (σ0.1 230) (σ0.1 218 22).toInt.toNat).length = 6 ∧ RX σ.1 tx n (tkE tx n i)) ∧ lst (σ.1 230) (σ.1 218 22).toInt.toNat = decide ((50 + v1) = 100) :: (lst (σ0.1 230) (σ0.1 218 22).toInt.toNat) ∧ NP (σ.1 230) (σ.1 218 22).toInt.toNat) ∧ (¬ σ.1 218 14 = 0 → (lst (σ0.1 230) (σ0.1 218 22).toInt.toNat).length = 6)) ∧ (σ.1 218 7 = σ0.1 218 7 ∧ σ.1 218 9 = σ0.1 218 9 ∧ σ.1 218 20 = σ0.1 218 20 ∧ σ.1 218 23 = σ0.1 218 23 ∧ σ.1 218 25 = σ0.1 218 25)) hT (s_X12_opens_r hN (hR.tr hT) (hK) (by rw [hT.2 224 (by decide)]; exact hY) (RX_i rfl rfl rfl rfl rfl ((hT.2 224 (by decide)).trans tE) nE pK) (hg) (hP) (by first | decide | (have w8 := w7.1; rw [ti_add]; simp only [Int32.reduceToInt]; omega) | exact absurd e7 n22) (by first | (rw [pK.2.1, k7]; decide) | (rw [e16]; decide)) (hNP)) (by decide) (fun v71 σ72 hOσ72 hT hqv71 => ?_)
      have hqv71 : (TOK σ72.1 ∧ (σ0.1 218 11).toInt ≤ (σ72.1 218 11).toInt ∧ (0 ≤ (σ72.1 218 22).toInt ∧ (σ72.1 218 22).toInt ≤ 40) ∧ (σ72.1 218 14 = 0 → ((σ0.1 218 11).toInt < (σ72.1 218 11).toInt ∧ PIL σ72.1 0) ∧ (¬ (lst (σ0.1 230) (σ0.1 218 22).toInt.toNat).length = 6 ∧ RX σ72.1 tx n (tkE tx n i)) ∧ lst (σ72.1 230) (σ72.1 218 22).toInt.toNat = decide ((50 + v1) = 100) :: (lst (σ0.1 230) (σ0.1 218 22).toInt.toNat) ∧ NP (σ72.1 230) (σ72.1 218 22).toInt.toNat) ∧ (¬ σ72.1 218 14 = 0 → (lst (σ0.1 230) (σ0.1 218 22).toInt.toNat).length = 6)) ∧ (σ72.1 218 7 = σ0.1 218 7 ∧ σ72.1 218 9 = σ0.1 218 9 ∧ σ72.1 218 20 = σ0.1 218 20 ∧ σ72.1 218 23 = σ0.1 218 23 ∧ σ72.1 218 25 = σ0.1 218 25) := hqv71
      have hkv71 := hqv71
      have hqv71 := hqv71.1
      have hK : TOK σ72.1 := by first | exact hqv71.1 | exact hqv71.1.1 | exact TOK_p eσ72 (by decide) hK
      have hB : ZB σ72.1 := ZB.tr hOσ72 (by decide) hB
      have g7_σ72 : σ72.1 218 7 = (σ0.1 218 7) := hkv71.2.1
      have g9_σ72 : σ72.1 218 9 = (σ0.1 218 9) := hkv71.2.2.1
      have g20_σ72 : σ72.1 218 20 = (σ0.1 218 20) := hkv71.2.2.2.1
      have g23_σ72 : σ72.1 218 23 = (σ0.1 218 23) := hkv71.2.2.2.2.1
      have g25_σ72 : σ72.1 218 25 = (σ0.1 218 25) := hkv71.2.2.2.2.2
      have m34 := hqv71.2
      have hpx : isPx tx n i ∨ tkK tx n i = 40 := by first | exact Or.inl w7.2 | exact Or.inr k16
      exact ok_rZ (Or.inl rfl) ⟨hT, (show (TOK σ72.1 ∧ ((σ0.1 218 11).toInt ≤ (σ72.1 218 11).toInt ∧ 0 ≤ (σ72.1 218 22).toInt ∧ (σ72.1 218 22).toInt ≤ 40) ∧ (σ72.1 218 14 = 0 → (σ0.1 218 11).toInt < (σ72.1 218 11).toInt ∧ ∃ c, stp tx n x1 (i, false, (lst (σ0.1 230) (σ0.1 218 22).toInt.toNat), (σ0.1 218 25).toInt.toNat) = some (some c) ∧ REL σ72.1 tx n c ∧ ((0 : Int32) = 0 ↔ c.2.1 = false)) ∧ (¬ σ72.1 218 14 = 0 → stp tx n x1 (i, false, (lst (σ0.1 230) (σ0.1 218 22).toInt.toNat), (σ0.1 218 25).toInt.toNat) = none) ∧ ZB σ72.1) ∧ (σ72.1 218 7 = σ0.1 218 7 ∧ σ72.1 218 9 = σ0.1 218 9 ∧ σ72.1 218 20 = σ0.1 218 20 ∧ σ72.1 218 25 = σ0.1 218 25) from ⟨by first | exact ⟨hK, ⟨m34.1, m34.2.1⟩, fun q => ⟨(m34.2.2.1 q).1.1, (tkE tx n i, false, decide (tkK tx n i = 40) :: (lst (σ0.1 230) (σ0.1 218 22).toInt.toNat), (σ0.1 218 25).toInt.toNat), (stp_o hpx).trans (if_neg (m34.2.2.1 q).2.1.1), ⟨⟨(m34.2.2.1 q).2.1.2, le1⟩, ⟨by first | exact ((m34.2.2.1 q).2.2.1.trans (by rw [k16]; rfl)).symm | exact ((m34.2.2.1 q).2.2.1.trans (by rw [k7, decide_eq_false (z50 w7.1)]; rfl)).symm, (m34.2.2.1 q).2.2.2⟩, by rw [g25_σ72], fun h => Bool.noConfusion (show false = true from h), fun _ => (m34.2.2.1 q).1.2⟩, ⟨fun _ => rfl, fun _ => rfl⟩⟩, fun q => (stp_o hpx).trans (if_pos (m34.2.2.2 q)), hB⟩ | exact absurd e7 n22 | exact absurd e22 n7 | exact absurd y196 n189 | exact ⟨hK, ⟨by (try simp only [g7_σ72, g9_σ72, g20_σ72, g23_σ72, g25_σ72]); omega, by (try simp only [g7_σ72, g9_σ72, g20_σ72, g23_σ72, g25_σ72]); omega⟩, fun q => absurd q (by (try simp only [g7_σ72, g9_σ72, g20_σ72, g23_σ72, g25_σ72]); exact n196), fun _ => st9, hB⟩ | exact ⟨hK, ⟨by (try simp only [g7_σ72, g9_σ72, g20_σ72, g23_σ72, g25_σ72]); omega, by omega⟩, fun _ => ⟨by (try simp only [g7_σ72, g9_σ72, g20_σ72, g23_σ72, g25_σ72]); exact ga9, _, st9, ⟨⟨RX_i g9_σ72 rfl rfl rfl rfl ((hT.2 224 (by decide)).trans tE) nE pK9, le9⟩, ⟨by rw [rfl]; exact l201.2.symm, by rw [rfl]; exact NP_le hNP l201.1⟩, by rw [g25_σ72], fun _ => ⟨h201, popP_i _⟩, fun h => Bool.noConfusion (show true = false from h)⟩, ⟨fun h => absurd h (by decide), fun h => Bool.noConfusion (show true = false from h)⟩⟩, fun q => absurd (by (try simp only [g7_σ72, g9_σ72, g20_σ72, g23_σ72, g25_σ72]); exact y196) q, hB⟩, g7_σ72, g9_σ72, g20_σ72, g25_σ72⟩)⟩

set_option maxHeartbeats 4000000 in
set_option maxRecDepth 100000 in
theorem s_X12_readsPart_232_r {N : Nat} (hN : 1048576 ≤ N) {x1 : Int32} {σ0 : zS} {tx : Nat → Int32} {n i : Nat} (hR : RF σ0.2.2) (hK : TOK σ0.1) (hY : BYT (σ0.1 224)) (hG : RX σ0.1 tx n i) (hg : σ0.1 218 14 = 0) (hB : ZB σ0.1) (hn : 0 ≤ x1.toInt ∧ x1.toInt ≤ 10) (ha : 0 ≤ (σ0.1 218 20).toInt ∧ (σ0.1 218 20).toInt ≤ 1024) (hP : PIL σ0.1 0) (hNP : NP (σ0.1 230) (σ0.1 218 22).toInt.toNat) (hi : i ≤ n) : Ok (f_X12_readsPart N 218 x1 232 σ0) (fun r => Tr [218, 226, 227, 228, 229, 230] σ0 r.2 ∧ ((TOK r.2.1 ∧ ((σ0.1 218 11).toInt ≤ (r.2.1 218 11).toInt ∧ 0 ≤ (r.2.1 218 22).toInt ∧ (r.2.1 218 22).toInt ≤ 40) ∧ (r.2.1 218 14 = 0 → (σ0.1 218 11).toInt < (r.2.1 218 11).toInt ∧ ∃ c, stp tx n x1 (i, false, (lst (σ0.1 230) (σ0.1 218 22).toInt.toNat), (σ0.1 218 25).toInt.toNat) = some (some c) ∧ REL r.2.1 tx n c ∧ (r.1 = 0 ↔ c.2.1 = false)) ∧ (¬ r.2.1 218 14 = 0 → stp tx n x1 (i, false, (lst (σ0.1 230) (σ0.1 218 22).toInt.toNat), (σ0.1 218 25).toInt.toNat) = none) ∧ ZB r.2.1) ∧ (r.2.1 218 7 = σ0.1 218 7 ∧ r.2.1 218 9 = σ0.1 218 9 ∧ r.2.1 218 20 = σ0.1 218 20 ∧ r.2.1 218 25 = σ0.1 218 25))) := by
  have hT : Tr [218, 226, 227, 228, 229, 230] σ0 σ0 := Tr.rf
  have hK1 := hK.1
  have tE : σ0.1 224 = tx := hG.1.1
  have nE : (σ0.1 218 9).toInt.toNat = n := hG.1.2
  have pK : TKV (σ0.1 218 11) (σ0.1 218 10) (σ0.1 218 12) (σ0.1 218 13) tx n i := hG.2
  have hb0 := PIL_b hP (by decide)
  have hP0 := hP
  obtain ⟨b8, d8, r8, hS, h22, hd, hd6, hp⟩ := hP0
  have hSb := Stk_b hS
  have le1 := (tk_le (t := tx) hi).2.2
  rw [f_X12_readsPart.eq_1]
  refine ok_gC rfl ?_
  refine ok_zbX (Q := fun V => (V = -1 ∧ ¬ isPx tx n i) ∨ ((0 ≤ V.toInt ∧ V.toInt ≤ 5) ∧ isPx tx n i)) (xe_X12_prefixOf hN (hR.tr hT) hK hg hG) (fun v1 hqv1 => ?_)
  have hqv1 : (v1 = -1 ∧ ¬ isPx tx n i) ∨ ((0 ≤ v1.toInt ∧ v1.toInt ≤ 5) ∧ isPx tx n i) := hqv1
  refine ok_if (fun hc3 => ?_) (fun hc3 => ?_)
  · have e7 := hc3
    have px : ¬ isPx tx n i := by rcases hqv1 with q | q; exact q.2; exact absurd (congrArg Int32.toInt hc3) (by rw [show (-1 : Int32).toInt = -1 by decide]; omega)
    refine ok_gI rfl ?_
    refine ok_if (fun hc5 => ?_) (fun hc5 => ?_)
    · have e16 := hc5
      have k16 : tkK tx n i = 40 := pK.2.1.symm.trans hc5
      rw [J_X12_readsPart_19.eq_1]
      refine ok_if (fun hc6 => ?_) (fun hc6 => ?_)
      · have e22 := hc6
        refine ok_gC rfl ?_
        refine ok_zbT (Q := fun V σ => (TOK σ.1 ∧ (σ0.1 218 11).toInt ≤ (σ.1 218 11).toInt ∧ (0 ≤ (σ.1 218 22).toInt ∧ (σ.1 218 22).toInt ≤ 40) ∧ (σ.1 218 14 = 0 → ((σ0.1 218 11).toInt < (σ.1 218 11).toInt ∧ PIL σ.1 0) ∧ (¬ (lst (σ0.1 230) (σ0.1 218 22).toInt.toNat).length = 6 ∧ RX σ.1 tx n (tkE tx n i)) ∧ lst (σ.1 230) (σ.1 218 22).toInt.toNat = decide ((100 : Int32) = 100) :: (lst (σ0.1 230) (σ0.1 218 22).toInt.toNat) ∧ NP (σ.1 230) (σ.1 218 22).toInt.toNat) ∧ (¬ σ.1 218 14 = 0 → (lst (σ0.1 230) (σ0.1 218 22).toInt.toNat).length = 6)) ∧ (σ.1 218 7 = σ0.1 218 7 ∧ σ.1 218 9 = σ0.1 218 9 ∧ σ.1 218 20 = σ0.1 218 20 ∧ σ.1 218 23 = σ0.1 218 23 ∧ σ.1 218 25 = σ0.1 218 25)) hT (s_X12_opens_r hN (hR.tr hT) (hK) (by rw [hT.2 224 (by decide)]; exact hY) (RX_i rfl rfl rfl rfl rfl ((hT.2 224 (by decide)).trans tE) nE pK) (hg) (hP) (by first | decide | (have w8 := w7.1; rw [ti_add]; simp only [Int32.reduceToInt]; omega) | exact absurd e7 n22) (by first | (rw [pK.2.1, k7]; decide) | (rw [e16]; decide)) (hNP)) (by decide) (fun v7 σ8 hOσ8 hT hqv7 => ?_)
        have hqv7 : (TOK σ8.1 ∧ (σ0.1 218 11).toInt ≤ (σ8.1 218 11).toInt ∧ (0 ≤ (σ8.1 218 22).toInt ∧ (σ8.1 218 22).toInt ≤ 40) ∧ (σ8.1 218 14 = 0 → ((σ0.1 218 11).toInt < (σ8.1 218 11).toInt ∧ PIL σ8.1 0) ∧ (¬ (lst (σ0.1 230) (σ0.1 218 22).toInt.toNat).length = 6 ∧ RX σ8.1 tx n (tkE tx n i)) ∧ lst (σ8.1 230) (σ8.1 218 22).toInt.toNat = decide ((100 : Int32) = 100) :: (lst (σ0.1 230) (σ0.1 218 22).toInt.toNat) ∧ NP (σ8.1 230) (σ8.1 218 22).toInt.toNat) ∧ (¬ σ8.1 218 14 = 0 → (lst (σ0.1 230) (σ0.1 218 22).toInt.toNat).length = 6)) ∧ (σ8.1 218 7 = σ0.1 218 7 ∧ σ8.1 218 9 = σ0.1 218 9 ∧ σ8.1 218 20 = σ0.1 218 20 ∧ σ8.1 218 23 = σ0.1 218 23 ∧ σ8.1 218 25 = σ0.1 218 25) := hqv7
        have hkv7 := hqv7
        have hqv7 := hqv7.1
        have hK : TOK σ8.1 := by first | exact hqv7.1 | exact hqv7.1.1 | exact TOK_p eσ8 (by decide) hK
        have hB : ZB σ8.1 := ZB.tr hOσ8 (by decide) hB
        have g7_σ8 : σ8.1 218 7 = (σ0.1 218 7) := hkv7.2.1
        have g9_σ8 : σ8.1 218 9 = (σ0.1 218 9) := hkv7.2.2.1
        have g20_σ8 : σ8.1 218 20 = (σ0.1 218 20) := hkv7.2.2.2.1
        have g23_σ8 : σ8.1 218 23 = (σ0.1 218 23) := hkv7.2.2.2.2.1
        have g25_σ8 : σ8.1 218 25 = (σ0.1 218 25) := hkv7.2.2.2.2.2
        have m34 := hqv7.2
        have hpx : isPx tx n i ∨ tkK tx n i = 40 := by first | exact Or.inl w7.2 | exact Or.inr k16
        exact ok_rZ (Or.inl rfl) ⟨hT, (show (TOK σ8.1 ∧ ((σ0.1 218 11).toInt ≤ (σ8.1 218 11).toInt ∧ 0 ≤ (σ8.1 218 22).toInt ∧ (σ8.1 218 22).toInt ≤ 40) ∧ (σ8.1 218 14 = 0 → (σ0.1 218 11).toInt < (σ8.1 218 11).toInt ∧ ∃ c, stp tx n x1 (i, false, (lst (σ0.1 230) (σ0.1 218 22).toInt.toNat), (σ0.1 218 25).toInt.toNat) = some (some c) ∧ REL σ8.1 tx n c ∧ ((0 : Int32) = 0 ↔ c.2.1 = false)) ∧ (¬ σ8.1 218 14 = 0 → stp tx n x1 (i, false, (lst (σ0.1 230) (σ0.1 218 22).toInt.toNat), (σ0.1 218 25).toInt.toNat) = none) ∧ ZB σ8.1) ∧ (σ8.1 218 7 = σ0.1 218 7 ∧ σ8.1 218 9 = σ0.1 218 9 ∧ σ8.1 218 20 = σ0.1 218 20 ∧ σ8.1 218 25 = σ0.1 218 25) from ⟨by first | exact ⟨hK, ⟨m34.1, m34.2.1⟩, fun q => ⟨(m34.2.2.1 q).1.1, (tkE tx n i, false, decide (tkK tx n i = 40) :: (lst (σ0.1 230) (σ0.1 218 22).toInt.toNat), (σ0.1 218 25).toInt.toNat), (stp_o hpx).trans (if_neg (m34.2.2.1 q).2.1.1), ⟨⟨(m34.2.2.1 q).2.1.2, le1⟩, ⟨by first | exact ((m34.2.2.1 q).2.2.1.trans (by rw [k16]; rfl)).symm | exact ((m34.2.2.1 q).2.2.1.trans (by rw [k7, decide_eq_false (z50 w7.1)]; rfl)).symm, (m34.2.2.1 q).2.2.2⟩, by rw [g25_σ8], fun h => Bool.noConfusion (show false = true from h), fun _ => (m34.2.2.1 q).1.2⟩, ⟨fun _ => rfl, fun _ => rfl⟩⟩, fun q => (stp_o hpx).trans (if_pos (m34.2.2.2 q)), hB⟩ | exact absurd e7 n22 | exact absurd e22 n7 | exact absurd y196 n189 | exact ⟨hK, ⟨by (try simp only [g7_σ8, g9_σ8, g20_σ8, g23_σ8, g25_σ8]); omega, by (try simp only [g7_σ8, g9_σ8, g20_σ8, g23_σ8, g25_σ8]); omega⟩, fun q => absurd q (by (try simp only [g7_σ8, g9_σ8, g20_σ8, g23_σ8, g25_σ8]); exact n196), fun _ => st9, hB⟩ | exact ⟨hK, ⟨by (try simp only [g7_σ8, g9_σ8, g20_σ8, g23_σ8, g25_σ8]); omega, by omega⟩, fun _ => ⟨by (try simp only [g7_σ8, g9_σ8, g20_σ8, g23_σ8, g25_σ8]); exact ga9, _, st9, ⟨⟨RX_i g9_σ8 rfl rfl rfl rfl ((hT.2 224 (by decide)).trans tE) nE pK9, le9⟩, ⟨by rw [rfl]; exact l201.2.symm, by rw [rfl]; exact NP_le hNP l201.1⟩, by rw [g25_σ8], fun _ => ⟨h201, popP_i _⟩, fun h => Bool.noConfusion (show true = false from h)⟩, ⟨fun h => absurd h (by decide), fun h => Bool.noConfusion (show true = false from h)⟩⟩, fun q => absurd (by (try simp only [g7_σ8, g9_σ8, g20_σ8, g23_σ8, g25_σ8]); exact y196) q, hB⟩, g7_σ8, g9_σ8, g20_σ8, g25_σ8⟩)⟩
      · have n22 := hc6
        refine ok_gC rfl ?_
        refine ok_zbT (Q := fun V σ => (TOK σ.1 ∧ (σ0.1 218 11).toInt ≤ (σ.1 218 11).toInt ∧ (0 ≤ (σ.1 218 22).toInt ∧ (σ.1 218 22).toInt ≤ 40) ∧ (σ.1 218 14 = 0 → ((σ0.1 218 11).toInt < (σ.1 218 11).toInt ∧ PIL σ.1 0) ∧ (¬ (lst (σ0.1 230) (σ0.1 218 22).toInt.toNat).length = 6 ∧ RX σ.1 tx n (tkE tx n i)) ∧ lst (σ.1 230) (σ.1 218 22).toInt.toNat = decide ((50 + v1) = 100) :: (lst (σ0.1 230) (σ0.1 218 22).toInt.toNat) ∧ NP (σ.1 230) (σ.1 218 22).toInt.toNat) ∧ (¬ σ.1 218 14 = 0 → (lst (σ0.1 230) (σ0.1 218 22).toInt.toNat).length = 6)) ∧ (σ.1 218 7 = σ0.1 218 7 ∧ σ.1 218 9 = σ0.1 218 9 ∧ σ.1 218 20 = σ0.1 218 20 ∧ σ.1 218 23 = σ0.1 218 23 ∧ σ.1 218 25 = σ0.1 218 25)) hT (s_X12_opens_r hN (hR.tr hT) (hK) (by rw [hT.2 224 (by decide)]; exact hY) (RX_i rfl rfl rfl rfl rfl ((hT.2 224 (by decide)).trans tE) nE pK) (hg) (hP) (by first | decide | (have w8 := w7.1; rw [ti_add]; simp only [Int32.reduceToInt]; omega) | exact absurd e7 n22) (by first | (rw [pK.2.1, k7]; decide) | (rw [e16]; decide)) (hNP)) (by decide) (fun v9 σ10 hOσ10 hT hqv9 => ?_)
        have hqv9 : (TOK σ10.1 ∧ (σ0.1 218 11).toInt ≤ (σ10.1 218 11).toInt ∧ (0 ≤ (σ10.1 218 22).toInt ∧ (σ10.1 218 22).toInt ≤ 40) ∧ (σ10.1 218 14 = 0 → ((σ0.1 218 11).toInt < (σ10.1 218 11).toInt ∧ PIL σ10.1 0) ∧ (¬ (lst (σ0.1 230) (σ0.1 218 22).toInt.toNat).length = 6 ∧ RX σ10.1 tx n (tkE tx n i)) ∧ lst (σ10.1 230) (σ10.1 218 22).toInt.toNat = decide ((50 + v1) = 100) :: (lst (σ0.1 230) (σ0.1 218 22).toInt.toNat) ∧ NP (σ10.1 230) (σ10.1 218 22).toInt.toNat) ∧ (¬ σ10.1 218 14 = 0 → (lst (σ0.1 230) (σ0.1 218 22).toInt.toNat).length = 6)) ∧ (σ10.1 218 7 = σ0.1 218 7 ∧ σ10.1 218 9 = σ0.1 218 9 ∧ σ10.1 218 20 = σ0.1 218 20 ∧ σ10.1 218 23 = σ0.1 218 23 ∧ σ10.1 218 25 = σ0.1 218 25) := hqv9
        have hkv9 := hqv9
        have hqv9 := hqv9.1
        have hK : TOK σ10.1 := by first | exact hqv9.1 | exact hqv9.1.1 | exact TOK_p eσ10 (by decide) hK
        have hB : ZB σ10.1 := ZB.tr hOσ10 (by decide) hB
        have g7_σ10 : σ10.1 218 7 = (σ0.1 218 7) := hkv9.2.1
        have g9_σ10 : σ10.1 218 9 = (σ0.1 218 9) := hkv9.2.2.1
        have g20_σ10 : σ10.1 218 20 = (σ0.1 218 20) := hkv9.2.2.2.1
        have g23_σ10 : σ10.1 218 23 = (σ0.1 218 23) := hkv9.2.2.2.2.1
        have g25_σ10 : σ10.1 218 25 = (σ0.1 218 25) := hkv9.2.2.2.2.2
        have m34 := hqv9.2
        have hpx : isPx tx n i ∨ tkK tx n i = 40 := by first | exact Or.inl w7.2 | exact Or.inr k16
        exact ok_rZ (Or.inl rfl) ⟨hT, (show (TOK σ10.1 ∧ ((σ0.1 218 11).toInt ≤ (σ10.1 218 11).toInt ∧ 0 ≤ (σ10.1 218 22).toInt ∧ (σ10.1 218 22).toInt ≤ 40) ∧ (σ10.1 218 14 = 0 → (σ0.1 218 11).toInt < (σ10.1 218 11).toInt ∧ ∃ c, stp tx n x1 (i, false, (lst (σ0.1 230) (σ0.1 218 22).toInt.toNat), (σ0.1 218 25).toInt.toNat) = some (some c) ∧ REL σ10.1 tx n c ∧ ((0 : Int32) = 0 ↔ c.2.1 = false)) ∧ (¬ σ10.1 218 14 = 0 → stp tx n x1 (i, false, (lst (σ0.1 230) (σ0.1 218 22).toInt.toNat), (σ0.1 218 25).toInt.toNat) = none) ∧ ZB σ10.1) ∧ (σ10.1 218 7 = σ0.1 218 7 ∧ σ10.1 218 9 = σ0.1 218 9 ∧ σ10.1 218 20 = σ0.1 218 20 ∧ σ10.1 218 25 = σ0.1 218 25) from ⟨by first | exact ⟨hK, ⟨m34.1, m34.2.1⟩, fun q => ⟨(m34.2.2.1 q).1.1, (tkE tx n i, false, decide (tkK tx n i = 40) :: (lst (σ0.1 230) (σ0.1 218 22).toInt.toNat), (σ0.1 218 25).toInt.toNat), (stp_o hpx).trans (if_neg (m34.2.2.1 q).2.1.1), ⟨⟨(m34.2.2.1 q).2.1.2, le1⟩, ⟨by first | exact ((m34.2.2.1 q).2.2.1.trans (by rw [k16]; rfl)).symm | exact ((m34.2.2.1 q).2.2.1.trans (by rw [k7, decide_eq_false (z50 w7.1)]; rfl)).symm, (m34.2.2.1 q).2.2.2⟩, by rw [g25_σ10], fun h => Bool.noConfusion (show false = true from h), fun _ => (m34.2.2.1 q).1.2⟩, ⟨fun _ => rfl, fun _ => rfl⟩⟩, fun q => (stp_o hpx).trans (if_pos (m34.2.2.2 q)), hB⟩ | exact absurd e7 n22 | exact absurd e22 n7 | exact absurd y196 n189 | exact ⟨hK, ⟨by (try simp only [g7_σ10, g9_σ10, g20_σ10, g23_σ10, g25_σ10]); omega, by (try simp only [g7_σ10, g9_σ10, g20_σ10, g23_σ10, g25_σ10]); omega⟩, fun q => absurd q (by (try simp only [g7_σ10, g9_σ10, g20_σ10, g23_σ10, g25_σ10]); exact n196), fun _ => st9, hB⟩ | exact ⟨hK, ⟨by (try simp only [g7_σ10, g9_σ10, g20_σ10, g23_σ10, g25_σ10]); omega, by omega⟩, fun _ => ⟨by (try simp only [g7_σ10, g9_σ10, g20_σ10, g23_σ10, g25_σ10]); exact ga9, _, st9, ⟨⟨RX_i g9_σ10 rfl rfl rfl rfl ((hT.2 224 (by decide)).trans tE) nE pK9, le9⟩, ⟨by rw [rfl]; exact l201.2.symm, by rw [rfl]; exact NP_le hNP l201.1⟩, by rw [g25_σ10], fun _ => ⟨h201, popP_i _⟩, fun h => Bool.noConfusion (show true = false from h)⟩, ⟨fun h => absurd h (by decide), fun h => Bool.noConfusion (show true = false from h)⟩⟩, fun q => absurd (by (try simp only [g7_σ10, g9_σ10, g20_σ10, g23_σ10, g25_σ10]); exact y196) q, hB⟩, g7_σ10, g9_σ10, g20_σ10, g25_σ10⟩)⟩
    · have h0q : ¬ (isPx tx n i ∨ tkK tx n i = 40) := fun q => q.elim px (fun q => hc5 (pK.2.1.trans q))
      refine ok_gI rfl ?_
      refine ok_if (fun hc12 => ?_) (fun hc12 => ?_)
      · have k44 : tkK tx n i = 2 := pK.2.1.symm.trans hc12
        refine ok_gC rfl ?_
        refine ok_zbT (Q := fun V σ => (TOK σ.1 ∧ (σ0.1 218 11).toInt ≤ (σ.1 218 11).toInt ∧ (σ.1 218 14 = 0 → ((σ0.1 218 11).toInt < (σ.1 218 11).toInt ∧ nOK tx n i (0 : Int32) (9 : Int32)) ∧ V.toInt = min 99999 (Nv tx n (tkF tx n i) 0 : Int) ∧ RX σ.1 tx n (tkE tx n i)) ∧ (¬ σ.1 218 14 = 0 → V = 0 ∧ ¬ nOK tx n i (0 : Int32) (9 : Int32))) ∧ (σ.1 218 7 = σ0.1 218 7 ∧ σ.1 218 9 = σ0.1 218 9 ∧ σ.1 218 20 = σ0.1 218 20 ∧ σ.1 218 22 = σ0.1 218 22 ∧ σ.1 218 23 = σ0.1 218 23 ∧ σ.1 218 24 = σ0.1 218 24 ∧ σ.1 218 25 = σ0.1 218 25)) hT (s_X12_number_r hN (hR.tr hT) (hK) (by rw [hT.2 224 (by decide)]; exact hY) (RX_i rfl rfl rfl rfl rfl ((hT.2 224 (by decide)).trans tE) nE pK) (hg)) (by decide) (fun v13 σ14 hOσ14 hT hqv13 => ?_)
        have hqv13 : (TOK σ14.1 ∧ (σ0.1 218 11).toInt ≤ (σ14.1 218 11).toInt ∧ (σ14.1 218 14 = 0 → ((σ0.1 218 11).toInt < (σ14.1 218 11).toInt ∧ nOK tx n i (0 : Int32) (9 : Int32)) ∧ v13.toInt = min 99999 (Nv tx n (tkF tx n i) 0 : Int) ∧ RX σ14.1 tx n (tkE tx n i)) ∧ (¬ σ14.1 218 14 = 0 → v13 = 0 ∧ ¬ nOK tx n i (0 : Int32) (9 : Int32))) ∧ (σ14.1 218 7 = σ0.1 218 7 ∧ σ14.1 218 9 = σ0.1 218 9 ∧ σ14.1 218 20 = σ0.1 218 20 ∧ σ14.1 218 22 = σ0.1 218 22 ∧ σ14.1 218 23 = σ0.1 218 23 ∧ σ14.1 218 24 = σ0.1 218 24 ∧ σ14.1 218 25 = σ0.1 218 25) := hqv13
        have hkv13 := hqv13
        have hqv13 := hqv13.1
        have r230_σ14 : σ14.1 230 = σ0.1 230 := hOσ14.2 230 (by decide)
        have hK : TOK σ14.1 := by first | exact hqv13.1 | exact hqv13.1.1 | exact TOK_p eσ14 (by decide) hK
        have hB : ZB σ14.1 := ZB.tr hOσ14 (by decide) hB
        have g7_σ14 : σ14.1 218 7 = (σ0.1 218 7) := hkv13.2.1
        have g9_σ14 : σ14.1 218 9 = (σ0.1 218 9) := hkv13.2.2.1
        have g20_σ14 : σ14.1 218 20 = (σ0.1 218 20) := hkv13.2.2.2.1
        have g22_σ14 : σ14.1 218 22 = (σ0.1 218 22) := hkv13.2.2.2.2.1
        have g23_σ14 : σ14.1 218 23 = (σ0.1 218 23) := hkv13.2.2.2.2.2.1
        have g24_σ14 : σ14.1 218 24 = (σ0.1 218 24) := hkv13.2.2.2.2.2.2.1
        have g25_σ14 : σ14.1 218 25 = (σ0.1 218 25) := hkv13.2.2.2.2.2.2.2
        have m51 := hqv13.2.1
        have u51 := hqv13.2.2.1
        have f51 := hqv13.2.2.2
        have b51 : 0 ≤ v13.toInt ∧ v13.toInt ≤ 9 := by by_cases h9 : σ14.1 218 14 = 0; have h8 := (u51 h9).1.2.2.2; have h7 := (u51 h9).2.1; simp only [Int32.reduceToInt] at h8; omega; rw [(f51 h9).1]; decide
        have q51 := p1024 (p := v13) rfl b51.1 (by omega)
        refine ok_gC rfl ?_
        refine ok_zbT (Q := fun V σ => (TOK σ.1 ∧ ZB σ.1 ∧ σ.1 218 23 = σ14.1 218 23 + 1) ∧ (σ.1 218 7 = σ14.1 218 7 ∧ σ.1 218 9 = σ14.1 218 9 ∧ σ.1 218 10 = σ14.1 218 10 ∧ σ.1 218 11 = σ14.1 218 11 ∧ σ.1 218 12 = σ14.1 218 12 ∧ σ.1 218 13 = σ14.1 218 13 ∧ σ.1 218 14 = σ14.1 218 14 ∧ σ.1 218 15 = σ14.1 218 15 ∧ σ.1 218 20 = σ14.1 218 20 ∧ σ.1 218 22 = σ14.1 218 22 ∧ σ.1 218 24 = σ14.1 218 24 ∧ σ.1 218 25 = σ14.1 218 25)) hT (s_X12_pushesEmpty hN (hR.tr hT) (hK) (by rw [hT.2 224 (by decide)]; exact hY) (hB) (by (try simp only [g7_σ14, g9_σ14, g20_σ14, g22_σ14, g23_σ14, g24_σ14, g25_σ14]); omega)) (by decide) (fun v15 σ16 hOσ16 hT hqv15 => ?_)
        have hqv15 : (TOK σ16.1 ∧ ZB σ16.1 ∧ σ16.1 218 23 = σ14.1 218 23 + 1) ∧ (σ16.1 218 7 = σ14.1 218 7 ∧ σ16.1 218 9 = σ14.1 218 9 ∧ σ16.1 218 10 = σ14.1 218 10 ∧ σ16.1 218 11 = σ14.1 218 11 ∧ σ16.1 218 12 = σ14.1 218 12 ∧ σ16.1 218 13 = σ14.1 218 13 ∧ σ16.1 218 14 = σ14.1 218 14 ∧ σ16.1 218 15 = σ14.1 218 15 ∧ σ16.1 218 20 = σ14.1 218 20 ∧ σ16.1 218 22 = σ14.1 218 22 ∧ σ16.1 218 24 = σ14.1 218 24 ∧ σ16.1 218 25 = σ14.1 218 25) := hqv15
        have hkv15 := hqv15
        have hqv15 := hqv15.1
        have r230_σ16 : σ16.1 230 = σ0.1 230 := (hOσ16.2 230 (by decide)).trans r230_σ14
        have hK : TOK σ16.1 := by first | exact hqv15.1 | exact hqv15.1.1 | exact TOK_p eσ16 (by decide) hK
        have hB : ZB σ16.1 := by first | exact hqv15.2.1 | exact hqv15.2.2.2.2.1 | exact ZB_s eσ16 hB
        try simp only [g7_σ14, g9_σ14, g20_σ14, g22_σ14, g23_σ14, g24_σ14, g25_σ14] at hqv15
        have g7_σ16 : σ16.1 218 7 = (σ0.1 218 7) := (hkv15.2.1).trans g7_σ14
        have g9_σ16 : σ16.1 218 9 = (σ0.1 218 9) := (hkv15.2.2.1).trans g9_σ14
        have g10_σ16 : σ16.1 218 10 = (σ14.1 218 10) := hkv15.2.2.2.1
        have g11_σ16 : σ16.1 218 11 = (σ14.1 218 11) := hkv15.2.2.2.2.1
        have g12_σ16 : σ16.1 218 12 = (σ14.1 218 12) := hkv15.2.2.2.2.2.1
        have g13_σ16 : σ16.1 218 13 = (σ14.1 218 13) := hkv15.2.2.2.2.2.2.1
        have g14_σ16 : σ16.1 218 14 = (σ14.1 218 14) := hkv15.2.2.2.2.2.2.2.1
        have g15_σ16 : σ16.1 218 15 = (σ14.1 218 15) := hkv15.2.2.2.2.2.2.2.2.1
        have g20_σ16 : σ16.1 218 20 = (σ0.1 218 20) := (hkv15.2.2.2.2.2.2.2.2.2.1).trans g20_σ14
        have g22_σ16 : σ16.1 218 22 = (σ0.1 218 22) := (hkv15.2.2.2.2.2.2.2.2.2.2.1).trans g22_σ14
        have g24_σ16 : σ16.1 218 24 = (σ0.1 218 24) := (hkv15.2.2.2.2.2.2.2.2.2.2.2.1).trans g24_σ14
        have g25_σ16 : σ16.1 218 25 = (σ0.1 218 25) := (hkv15.2.2.2.2.2.2.2.2.2.2.2.2).trans g25_σ14
        have g57 := hqv15.2.2
        have s57 : (σ16.1 218 23).toInt = ((b8 + 1 : Nat) : Int) := by rw [g57, ti_add]; simp only [Int32.reduceToInt]; omega
        have p57 : ((σ16.1 218 23) - 1).toInt = (b8 : Int) := by rw [ti_sub, s57]; simp only [Int32.reduceToInt]; omega
        have m57 := p1024 p57 (by omega) (by omega)
        refine ok_lp (fun t : Int32 × zS => Tr [218, 226, 227, 228, 229, 230] σ0 (t.2) ∧ (0 ≤ (t.1).toInt) ∧ (TOK (t.2).1) ∧ (ZB (t.2).1) ∧ ((t.2).1 218 7 = (σ0.1 218 7)) ∧ ((t.2).1 218 9 = (σ0.1 218 9)) ∧ ((t.2).1 218 10 = (σ14.1 218 10)) ∧ ((t.2).1 218 11 = (σ14.1 218 11)) ∧ ((t.2).1 218 12 = (σ14.1 218 12)) ∧ ((t.2).1 218 13 = (σ14.1 218 13)) ∧ ((t.2).1 218 14 = (σ14.1 218 14)) ∧ ((t.2).1 218 15 = (σ14.1 218 15)) ∧ ((t.2).1 218 20 = (σ0.1 218 20)) ∧ ((t.2).1 218 22 = (σ0.1 218 22)) ∧ ((t.2).1 218 23 = (σ16.1 218 23)) ∧ ((t.2).1 218 24 = (σ0.1 218 24)) ∧ ((t.2).1 218 25 = (σ0.1 218 25)) ∧ ((t.2).1 230 = σ0.1 230)) (fun t : Int32 × zS => (1024 - (t.1).toInt).toNat) (fun again17 t hI ih63_17 => ?_) N _ (show Tr [218, 226, 227, 228, 229, 230] σ0 σ16 ∧ (0 ≤ (0 : Int32).toInt) ∧ (TOK σ16.1) ∧ (ZB σ16.1) ∧ (σ16.1 218 7 = (σ0.1 218 7)) ∧ (σ16.1 218 9 = (σ0.1 218 9)) ∧ (σ16.1 218 10 = (σ14.1 218 10)) ∧ (σ16.1 218 11 = (σ14.1 218 11)) ∧ (σ16.1 218 12 = (σ14.1 218 12)) ∧ (σ16.1 218 13 = (σ14.1 218 13)) ∧ (σ16.1 218 14 = (σ14.1 218 14)) ∧ (σ16.1 218 15 = (σ14.1 218 15)) ∧ (σ16.1 218 20 = (σ0.1 218 20)) ∧ (σ16.1 218 22 = (σ0.1 218 22)) ∧ (σ16.1 218 23 = (σ16.1 218 23)) ∧ (σ16.1 218 24 = (σ0.1 218 24)) ∧ (σ16.1 218 25 = (σ0.1 218 25)) ∧ (σ16.1 230 = σ0.1 230) from ⟨hT, (by decide), hK, hB, g7_σ16, g9_σ16, g10_σ16, g11_σ16, g12_σ16, g13_σ16, g14_σ16, g15_σ16, g20_σ16, g22_σ16, rfl, g24_σ16, g25_σ16, r230_σ16⟩) (show (1024 - (0 : Int32).toInt).toNat < N from (by simp only [Int32.reduceToInt]; omega))
        obtain ⟨x5_17, σ17⟩ := t
        have hI : Tr [218, 226, 227, 228, 229, 230] σ0 σ17 ∧ (0 ≤ x5_17.toInt) ∧ (TOK σ17.1) ∧ (ZB σ17.1) ∧ (σ17.1 218 7 = (σ0.1 218 7)) ∧ (σ17.1 218 9 = (σ0.1 218 9)) ∧ (σ17.1 218 10 = (σ14.1 218 10)) ∧ (σ17.1 218 11 = (σ14.1 218 11)) ∧ (σ17.1 218 12 = (σ14.1 218 12)) ∧ (σ17.1 218 13 = (σ14.1 218 13)) ∧ (σ17.1 218 14 = (σ14.1 218 14)) ∧ (σ17.1 218 15 = (σ14.1 218 15)) ∧ (σ17.1 218 20 = (σ0.1 218 20)) ∧ (σ17.1 218 22 = (σ0.1 218 22)) ∧ (σ17.1 218 23 = (σ16.1 218 23)) ∧ (σ17.1 218 24 = (σ0.1 218 24)) ∧ (σ17.1 218 25 = (σ0.1 218 25)) ∧ (σ17.1 230 = σ0.1 230) := hI
        obtain ⟨hT, hI17, hK, hB, g7_σ17, g9_σ17, g10_σ17, g11_σ17, g12_σ17, g13_σ17, g14_σ17, g15_σ17, g20_σ17, g22_σ17, g23_σ17, g24_σ17, g25_σ17, r230_σ17⟩ := hI
        rw [F_X12_readsPart_63.eq_1]
        refine ok_if (fun hc18 => ?_) (fun hc18 => ?_)
        · rw [J_X12_readsPart_192.eq_1]
          refine ok_gC rfl ?_
          refine ok_zbX (Q := fun V => (V = 0 → ¬ σ17.1 218 14 = 0) ∧ (¬ V = 0 → σ17.1 218 14 = 0)) (x_X12_good) (fun v19 hqv19 => ?_)
          have hqv19 : (v19 = 0 → ¬ σ17.1 218 14 = 0) ∧ (¬ v19 = 0 → σ17.1 218 14 = 0) := hqv19
          try simp only [g7_σ17, g9_σ17, g10_σ17, g11_σ17, g12_σ17, g13_σ17, g14_σ17, g15_σ17, g20_σ17, g22_σ17, g23_σ17, g24_σ17, g25_σ17, hT.2 224 (by decide)] at hqv19
          refine ok_if (fun hc21 => ?_) (fun hc21 => ?_)
          · have qhc21 := hqv19.1 hc21
            have n196 := qhc21
            have st9 : stp tx n x1 (i, false, (lst (σ0.1 230) (σ0.1 218 22).toInt.toNat), (σ0.1 218 25).toInt.toNat) = none := by first | exact (stp_n h0q k44).trans (if_neg (f51 n196).2) | exact (stp_f h0q k122).trans (by rw [f127 n196]; rfl) | exact stp_z h0q m44 m122 i140.2 | exact absurd hg n196
            exact ok_rZ (Or.inr rfl) ⟨hT, (show (TOK σ17.1 ∧ ((σ0.1 218 11).toInt ≤ (σ17.1 218 11).toInt ∧ 0 ≤ (σ17.1 218 22).toInt ∧ (σ17.1 218 22).toInt ≤ 40) ∧ (σ17.1 218 14 = 0 → (σ0.1 218 11).toInt < (σ17.1 218 11).toInt ∧ ∃ c, stp tx n x1 (i, false, (lst (σ0.1 230) (σ0.1 218 22).toInt.toNat), (σ0.1 218 25).toInt.toNat) = some (some c) ∧ REL σ17.1 tx n c ∧ ((1 : Int32) = 0 ↔ c.2.1 = false)) ∧ (¬ σ17.1 218 14 = 0 → stp tx n x1 (i, false, (lst (σ0.1 230) (σ0.1 218 22).toInt.toNat), (σ0.1 218 25).toInt.toNat) = none) ∧ ZB σ17.1) ∧ (σ17.1 218 7 = σ0.1 218 7 ∧ σ17.1 218 9 = σ0.1 218 9 ∧ σ17.1 218 20 = σ0.1 218 20 ∧ σ17.1 218 25 = σ0.1 218 25) from ⟨by first | exact ⟨hK, ⟨m34.1, m34.2.1⟩, fun q => ⟨(m34.2.2.1 q).1.1, (tkE tx n i, false, decide (tkK tx n i = 40) :: (lst (σ0.1 230) (σ0.1 218 22).toInt.toNat), (σ0.1 218 25).toInt.toNat), (stp_o hpx).trans (if_neg (m34.2.2.1 q).2.1.1), ⟨⟨(m34.2.2.1 q).2.1.2, le1⟩, ⟨by first | exact ((m34.2.2.1 q).2.2.1.trans (by rw [k16]; rfl)).symm | exact ((m34.2.2.1 q).2.2.1.trans (by rw [k7, decide_eq_false (z50 w7.1)]; rfl)).symm, (m34.2.2.1 q).2.2.2⟩, by rw [g25_σ17], fun h => Bool.noConfusion (show false = true from h), fun _ => (m34.2.2.1 q).1.2⟩, ⟨fun _ => rfl, fun _ => rfl⟩⟩, fun q => (stp_o hpx).trans (if_pos (m34.2.2.2 q)), hB⟩ | exact absurd e7 n22 | exact absurd e22 n7 | exact absurd y196 n189 | exact ⟨hK, ⟨by (try simp only [g7_σ17, g9_σ17, g10_σ17, g11_σ17, g12_σ17, g13_σ17, g14_σ17, g15_σ17, g20_σ17, g22_σ17, g23_σ17, g24_σ17, g25_σ17]); omega, by (try simp only [g7_σ17, g9_σ17, g10_σ17, g11_σ17, g12_σ17, g13_σ17, g14_σ17, g15_σ17, g20_σ17, g22_σ17, g23_σ17, g24_σ17, g25_σ17]); omega⟩, fun q => absurd q (by (try simp only [g7_σ17, g9_σ17, g10_σ17, g11_σ17, g12_σ17, g13_σ17, g14_σ17, g15_σ17, g20_σ17, g22_σ17, g23_σ17, g24_σ17, g25_σ17]); exact n196), fun _ => st9, hB⟩ | exact ⟨hK, ⟨by (try simp only [g7_σ17, g9_σ17, g10_σ17, g11_σ17, g12_σ17, g13_σ17, g14_σ17, g15_σ17, g20_σ17, g22_σ17, g23_σ17, g24_σ17, g25_σ17]); omega, by omega⟩, fun _ => ⟨by (try simp only [g7_σ17, g9_σ17, g10_σ17, g11_σ17, g12_σ17, g13_σ17, g14_σ17, g15_σ17, g20_σ17, g22_σ17, g23_σ17, g24_σ17, g25_σ17]); exact ga9, _, st9, ⟨⟨RX_i g9_σ17 g10_σ17 g11_σ17 g12_σ17 g13_σ17 ((hT.2 224 (by decide)).trans tE) nE pK9, le9⟩, ⟨by rw [r230_σ17]; exact l201.2.symm, by rw [r230_σ17]; exact NP_le hNP l201.1⟩, by rw [g25_σ17], fun _ => ⟨h201, popP_i _⟩, fun h => Bool.noConfusion (show true = false from h)⟩, ⟨fun h => absurd h (by decide), fun h => Bool.noConfusion (show true = false from h)⟩⟩, fun q => absurd (by (try simp only [g7_σ17, g9_σ17, g10_σ17, g11_σ17, g12_σ17, g13_σ17, g14_σ17, g15_σ17, g20_σ17, g22_σ17, g23_σ17, g24_σ17, g25_σ17]); exact y196) q, hB⟩, g7_σ17, g9_σ17, g20_σ17, g25_σ17⟩)⟩
          · have qhc21 := hqv19.2 hc21
            have y196 := qhc21
            obtain ⟨P9, st9, pK9, ga9, le9⟩ : ∃ p, stp tx n x1 (i, false, (lst (σ0.1 230) (σ0.1 218 22).toInt.toNat), (σ0.1 218 25).toInt.toNat) = some (some (p, true, popP (lst (σ0.1 230) (σ0.1 218 22).toInt.toNat), (σ0.1 218 25).toInt.toNat)) ∧ TKV (σ14.1 218 11) (σ14.1 218 10) (σ14.1 218 12) (σ14.1 218 13) tx n p ∧ (σ0.1 218 11).toInt < (σ14.1 218 11).toInt ∧ p ≤ n := by first | exact ⟨_, (stp_n h0q k44).trans (if_pos (u51 y196).1.2), (u51 y196).2.2.2, (u51 y196).1.1, le1⟩ | (obtain ⟨j, fj, rj⟩ := (u127 y196).2; exact ⟨j, (stp_f h0q k122).trans (by rw [fj]; rfl), rj.2, (u127 y196).1, fam_le hi fj⟩) | exact ⟨_, stp_a h0q k137.1.1, k137.2.2, k137.1.2, le1⟩ | exact absurd y196 n189
            refine ok_gC rfl ?_
            refine ok_zbT (Q := fun V σ => (TOK σ.1 ∧ ZB σ.1 ∧ PIL σ.1 1 ∧ ((σ.1 218 22).toInt.toNat ≤ (σ17.1 218 22).toInt.toNat ∧ lst (σ17.1 230) (σ.1 218 22).toInt.toNat = popP (lst (σ17.1 230) (σ17.1 218 22).toInt.toNat)) ∧ ((σ.1 218 22).toInt ≤ 0 ∨ (rkI (σ17.1 230 ((σ.1 218 22) - 1).toNatClampNeg)).toInt < (3 : Int32).toInt)) ∧ (σ.1 218 7 = σ17.1 218 7 ∧ σ.1 218 9 = σ17.1 218 9 ∧ σ.1 218 10 = σ17.1 218 10 ∧ σ.1 218 11 = σ17.1 218 11 ∧ σ.1 218 12 = σ17.1 218 12 ∧ σ.1 218 13 = σ17.1 218 13 ∧ σ.1 218 14 = σ17.1 218 14 ∧ σ.1 218 15 = σ17.1 218 15 ∧ σ.1 218 20 = σ17.1 218 20 ∧ σ.1 218 25 = σ17.1 218 25)) hT (s_X12_settlesTo_r hN (hR.tr hT) (hK) (by rw [hT.2 224 (by decide)]; exact hY) (hB) (by (try simp only [g7_σ17, g9_σ17, g10_σ17, g11_σ17, g12_σ17, g13_σ17, g14_σ17, g15_σ17, g20_σ17, g22_σ17, g23_σ17, g24_σ17, g25_σ17]); exact ha) (by first | exact PIL_i g22_σ17 g23_σ17 g24_σ17 r230_σ17 hS h22 hd hd6 s57 | exact absurd y196 n189) (by decide) (by (try simp only [g7_σ17, g9_σ17, g10_σ17, g11_σ17, g12_σ17, g13_σ17, g14_σ17, g15_σ17, g20_σ17, g22_σ17, g23_σ17, g24_σ17, g25_σ17]); rw [r230_σ17]; exact hNP) (Or.inl (by decide))) (by decide) (fun v22 σ23 hOσ23 hT hqv22 => ?_)
            have hqv22 : (TOK σ23.1 ∧ ZB σ23.1 ∧ PIL σ23.1 1 ∧ ((σ23.1 218 22).toInt.toNat ≤ (σ17.1 218 22).toInt.toNat ∧ lst (σ17.1 230) (σ23.1 218 22).toInt.toNat = popP (lst (σ17.1 230) (σ17.1 218 22).toInt.toNat)) ∧ ((σ23.1 218 22).toInt ≤ 0 ∨ (rkI (σ17.1 230 ((σ23.1 218 22) - 1).toNatClampNeg)).toInt < (3 : Int32).toInt)) ∧ (σ23.1 218 7 = σ17.1 218 7 ∧ σ23.1 218 9 = σ17.1 218 9 ∧ σ23.1 218 10 = σ17.1 218 10 ∧ σ23.1 218 11 = σ17.1 218 11 ∧ σ23.1 218 12 = σ17.1 218 12 ∧ σ23.1 218 13 = σ17.1 218 13 ∧ σ23.1 218 14 = σ17.1 218 14 ∧ σ23.1 218 15 = σ17.1 218 15 ∧ σ23.1 218 20 = σ17.1 218 20 ∧ σ23.1 218 25 = σ17.1 218 25) := hqv22
            have hkv22 := hqv22
            have hqv22 := hqv22.1
            have r230_σ23 : σ23.1 230 = σ0.1 230 := (hOσ23.2 230 (by decide)).trans r230_σ17
            have hK : TOK σ23.1 := by first | exact hqv22.1 | exact hqv22.1.1 | exact TOK_p eσ23 (by decide) hK
            have hB : ZB σ23.1 := by first | exact hqv22.2.1 | exact hqv22.2.2.2.2.1 | exact ZB_s eσ23 hB
            try simp only [g7_σ17, g9_σ17, g10_σ17, g11_σ17, g12_σ17, g13_σ17, g14_σ17, g15_σ17, g20_σ17, g22_σ17, g23_σ17, g24_σ17, g25_σ17] at hqv22
            have g7_σ23 : σ23.1 218 7 = (σ0.1 218 7) := (hkv22.2.1).trans g7_σ17
            have g9_σ23 : σ23.1 218 9 = (σ0.1 218 9) := (hkv22.2.2.1).trans g9_σ17
            have g10_σ23 : σ23.1 218 10 = (σ14.1 218 10) := (hkv22.2.2.2.1).trans g10_σ17
            have g11_σ23 : σ23.1 218 11 = (σ14.1 218 11) := (hkv22.2.2.2.2.1).trans g11_σ17
            have g12_σ23 : σ23.1 218 12 = (σ14.1 218 12) := (hkv22.2.2.2.2.2.1).trans g12_σ17
            have g13_σ23 : σ23.1 218 13 = (σ14.1 218 13) := (hkv22.2.2.2.2.2.2.1).trans g13_σ17
            have g14_σ23 : σ23.1 218 14 = (σ14.1 218 14) := (hkv22.2.2.2.2.2.2.2.1).trans g14_σ17
            have g15_σ23 : σ23.1 218 15 = (σ14.1 218 15) := (hkv22.2.2.2.2.2.2.2.2.1).trans g15_σ17
            have g20_σ23 : σ23.1 218 20 = (σ0.1 218 20) := (hkv22.2.2.2.2.2.2.2.2.2.1).trans g20_σ17
            have g25_σ23 : σ23.1 218 25 = (σ0.1 218 25) := (hkv22.2.2.2.2.2.2.2.2.2.2).trans g25_σ17
            have h201 := hqv22.2.2.1
            have b201 := PIL_b hqv22.2.2.1 (by decide)
            have l201 := hqv22.2.2.2.1
            have o201 : σ17.1 230 = σ0.1 230 := (hOσ23.2 230 (by decide)).symm.trans r230_σ23
            rw [o201] at l201
            exact ok_rZ (Or.inr rfl) ⟨hT, (show (TOK σ23.1 ∧ ((σ0.1 218 11).toInt ≤ (σ23.1 218 11).toInt ∧ 0 ≤ (σ23.1 218 22).toInt ∧ (σ23.1 218 22).toInt ≤ 40) ∧ (σ23.1 218 14 = 0 → (σ0.1 218 11).toInt < (σ23.1 218 11).toInt ∧ ∃ c, stp tx n x1 (i, false, (lst (σ0.1 230) (σ0.1 218 22).toInt.toNat), (σ0.1 218 25).toInt.toNat) = some (some c) ∧ REL σ23.1 tx n c ∧ ((1 : Int32) = 0 ↔ c.2.1 = false)) ∧ (¬ σ23.1 218 14 = 0 → stp tx n x1 (i, false, (lst (σ0.1 230) (σ0.1 218 22).toInt.toNat), (σ0.1 218 25).toInt.toNat) = none) ∧ ZB σ23.1) ∧ (σ23.1 218 7 = σ0.1 218 7 ∧ σ23.1 218 9 = σ0.1 218 9 ∧ σ23.1 218 20 = σ0.1 218 20 ∧ σ23.1 218 25 = σ0.1 218 25) from ⟨by first | exact ⟨hK, ⟨m34.1, m34.2.1⟩, fun q => ⟨(m34.2.2.1 q).1.1, (tkE tx n i, false, decide (tkK tx n i = 40) :: (lst (σ0.1 230) (σ0.1 218 22).toInt.toNat), (σ0.1 218 25).toInt.toNat), (stp_o hpx).trans (if_neg (m34.2.2.1 q).2.1.1), ⟨⟨(m34.2.2.1 q).2.1.2, le1⟩, ⟨by first | exact ((m34.2.2.1 q).2.2.1.trans (by rw [k16]; rfl)).symm | exact ((m34.2.2.1 q).2.2.1.trans (by rw [k7, decide_eq_false (z50 w7.1)]; rfl)).symm, (m34.2.2.1 q).2.2.2⟩, by rw [g25_σ23], fun h => Bool.noConfusion (show false = true from h), fun _ => (m34.2.2.1 q).1.2⟩, ⟨fun _ => rfl, fun _ => rfl⟩⟩, fun q => (stp_o hpx).trans (if_pos (m34.2.2.2 q)), hB⟩ | exact absurd e7 n22 | exact absurd e22 n7 | exact absurd y196 n189 | exact ⟨hK, ⟨by (try simp only [g7_σ23, g9_σ23, g10_σ23, g11_σ23, g12_σ23, g13_σ23, g14_σ23, g15_σ23, g20_σ23, g25_σ23]); omega, by (try simp only [g7_σ23, g9_σ23, g10_σ23, g11_σ23, g12_σ23, g13_σ23, g14_σ23, g15_σ23, g20_σ23, g25_σ23]); omega⟩, fun q => absurd q (by (try simp only [g7_σ23, g9_σ23, g10_σ23, g11_σ23, g12_σ23, g13_σ23, g14_σ23, g15_σ23, g20_σ23, g25_σ23]); exact n196), fun _ => st9, hB⟩ | exact ⟨hK, ⟨by (try simp only [g7_σ23, g9_σ23, g10_σ23, g11_σ23, g12_σ23, g13_σ23, g14_σ23, g15_σ23, g20_σ23, g25_σ23]); omega, by omega⟩, fun _ => ⟨by (try simp only [g7_σ23, g9_σ23, g10_σ23, g11_σ23, g12_σ23, g13_σ23, g14_σ23, g15_σ23, g20_σ23, g25_σ23]); exact ga9, _, st9, ⟨⟨RX_i g9_σ23 g10_σ23 g11_σ23 g12_σ23 g13_σ23 ((hT.2 224 (by decide)).trans tE) nE pK9, le9⟩, ⟨by rw [r230_σ23]; exact l201.2.symm, by rw [r230_σ23]; exact NP_le hNP l201.1⟩, by rw [g25_σ23], fun _ => ⟨h201, popP_i _⟩, fun h => Bool.noConfusion (show true = false from h)⟩, ⟨fun h => absurd h (by decide), fun h => Bool.noConfusion (show true = false from h)⟩⟩, fun q => absurd (by (try simp only [g7_σ23, g9_σ23, g10_σ23, g11_σ23, g12_σ23, g13_σ23, g14_σ23, g15_σ23, g20_σ23, g25_σ23]); exact y196) q, hB⟩, g7_σ23, g9_σ23, g20_σ23, g25_σ23⟩)⟩
        · have l68 := hc18
          rw [Int32.le_iff_toInt_le] at l68
          try simp only [Int32.reduceToInt] at l68
          have s68 : (x5_17 + 1).toInt = x5_17.toInt + 1 := by rw [ti_add]; simp only [Int32.reduceToInt]; omega
          refine ok_gC rfl ?_
          refine ok_zbX (Q := fun V => (V = 0 → ¬ σ17.1 218 14 = 0) ∧ (¬ V = 0 → σ17.1 218 14 = 0)) (x_X12_good) (fun v24 hqv24 => ?_)
          have hqv24 : (v24 = 0 → ¬ σ17.1 218 14 = 0) ∧ (¬ v24 = 0 → σ17.1 218 14 = 0) := hqv24
          try simp only [g7_σ17, g9_σ17, g10_σ17, g11_σ17, g12_σ17, g13_σ17, g14_σ17, g15_σ17, g20_σ17, g22_σ17, g23_σ17, g24_σ17, g25_σ17, hT.2 224 (by decide)] at hqv24
          refine ok_if (fun hc26 => ?_) (fun hc26 => ?_)
          · have qhc26 := hqv24.1 hc26
            rw [J_X12_readsPart_192.eq_1]
            refine ok_gC rfl ?_
            refine ok_zbX (Q := fun V => (V = 0 → ¬ σ17.1 218 14 = 0) ∧ (¬ V = 0 → σ17.1 218 14 = 0)) (x_X12_good) (fun v27 hqv27 => ?_)
            have hqv27 : (v27 = 0 → ¬ σ17.1 218 14 = 0) ∧ (¬ v27 = 0 → σ17.1 218 14 = 0) := hqv27
            try simp only [g7_σ17, g9_σ17, g10_σ17, g11_σ17, g12_σ17, g13_σ17, g14_σ17, g15_σ17, g20_σ17, g22_σ17, g23_σ17, g24_σ17, g25_σ17, hT.2 224 (by decide)] at hqv27
            refine ok_if (fun hc29 => ?_) (fun hc29 => ?_)
            · have qhc29 := hqv27.1 hc29
              have n196 := qhc29
              have st9 : stp tx n x1 (i, false, (lst (σ0.1 230) (σ0.1 218 22).toInt.toNat), (σ0.1 218 25).toInt.toNat) = none := by first | exact (stp_n h0q k44).trans (if_neg (f51 n196).2) | exact (stp_f h0q k122).trans (by rw [f127 n196]; rfl) | exact stp_z h0q m44 m122 i140.2 | exact absurd hg n196
              exact ok_rZ (Or.inr rfl) ⟨hT, (show (TOK σ17.1 ∧ ((σ0.1 218 11).toInt ≤ (σ17.1 218 11).toInt ∧ 0 ≤ (σ17.1 218 22).toInt ∧ (σ17.1 218 22).toInt ≤ 40) ∧ (σ17.1 218 14 = 0 → (σ0.1 218 11).toInt < (σ17.1 218 11).toInt ∧ ∃ c, stp tx n x1 (i, false, (lst (σ0.1 230) (σ0.1 218 22).toInt.toNat), (σ0.1 218 25).toInt.toNat) = some (some c) ∧ REL σ17.1 tx n c ∧ ((1 : Int32) = 0 ↔ c.2.1 = false)) ∧ (¬ σ17.1 218 14 = 0 → stp tx n x1 (i, false, (lst (σ0.1 230) (σ0.1 218 22).toInt.toNat), (σ0.1 218 25).toInt.toNat) = none) ∧ ZB σ17.1) ∧ (σ17.1 218 7 = σ0.1 218 7 ∧ σ17.1 218 9 = σ0.1 218 9 ∧ σ17.1 218 20 = σ0.1 218 20 ∧ σ17.1 218 25 = σ0.1 218 25) from ⟨by first | exact ⟨hK, ⟨m34.1, m34.2.1⟩, fun q => ⟨(m34.2.2.1 q).1.1, (tkE tx n i, false, decide (tkK tx n i = 40) :: (lst (σ0.1 230) (σ0.1 218 22).toInt.toNat), (σ0.1 218 25).toInt.toNat), (stp_o hpx).trans (if_neg (m34.2.2.1 q).2.1.1), ⟨⟨(m34.2.2.1 q).2.1.2, le1⟩, ⟨by first | exact ((m34.2.2.1 q).2.2.1.trans (by rw [k16]; rfl)).symm | exact ((m34.2.2.1 q).2.2.1.trans (by rw [k7, decide_eq_false (z50 w7.1)]; rfl)).symm, (m34.2.2.1 q).2.2.2⟩, by rw [g25_σ17], fun h => Bool.noConfusion (show false = true from h), fun _ => (m34.2.2.1 q).1.2⟩, ⟨fun _ => rfl, fun _ => rfl⟩⟩, fun q => (stp_o hpx).trans (if_pos (m34.2.2.2 q)), hB⟩ | exact absurd e7 n22 | exact absurd e22 n7 | exact absurd y196 n189 | exact ⟨hK, ⟨by (try simp only [g7_σ17, g9_σ17, g10_σ17, g11_σ17, g12_σ17, g13_σ17, g14_σ17, g15_σ17, g20_σ17, g22_σ17, g23_σ17, g24_σ17, g25_σ17]); omega, by (try simp only [g7_σ17, g9_σ17, g10_σ17, g11_σ17, g12_σ17, g13_σ17, g14_σ17, g15_σ17, g20_σ17, g22_σ17, g23_σ17, g24_σ17, g25_σ17]); omega⟩, fun q => absurd q (by (try simp only [g7_σ17, g9_σ17, g10_σ17, g11_σ17, g12_σ17, g13_σ17, g14_σ17, g15_σ17, g20_σ17, g22_σ17, g23_σ17, g24_σ17, g25_σ17]); exact n196), fun _ => st9, hB⟩ | exact ⟨hK, ⟨by (try simp only [g7_σ17, g9_σ17, g10_σ17, g11_σ17, g12_σ17, g13_σ17, g14_σ17, g15_σ17, g20_σ17, g22_σ17, g23_σ17, g24_σ17, g25_σ17]); omega, by omega⟩, fun _ => ⟨by (try simp only [g7_σ17, g9_σ17, g10_σ17, g11_σ17, g12_σ17, g13_σ17, g14_σ17, g15_σ17, g20_σ17, g22_σ17, g23_σ17, g24_σ17, g25_σ17]); exact ga9, _, st9, ⟨⟨RX_i g9_σ17 g10_σ17 g11_σ17 g12_σ17 g13_σ17 ((hT.2 224 (by decide)).trans tE) nE pK9, le9⟩, ⟨by rw [r230_σ17]; exact l201.2.symm, by rw [r230_σ17]; exact NP_le hNP l201.1⟩, by rw [g25_σ17], fun _ => ⟨h201, popP_i _⟩, fun h => Bool.noConfusion (show true = false from h)⟩, ⟨fun h => absurd h (by decide), fun h => Bool.noConfusion (show true = false from h)⟩⟩, fun q => absurd (by (try simp only [g7_σ17, g9_σ17, g10_σ17, g11_σ17, g12_σ17, g13_σ17, g14_σ17, g15_σ17, g20_σ17, g22_σ17, g23_σ17, g24_σ17, g25_σ17]); exact y196) q, hB⟩, g7_σ17, g9_σ17, g20_σ17, g25_σ17⟩)⟩
            · have qhc29 := hqv27.2 hc29
              have y196 := qhc29
              obtain ⟨P9, st9, pK9, ga9, le9⟩ : ∃ p, stp tx n x1 (i, false, (lst (σ0.1 230) (σ0.1 218 22).toInt.toNat), (σ0.1 218 25).toInt.toNat) = some (some (p, true, popP (lst (σ0.1 230) (σ0.1 218 22).toInt.toNat), (σ0.1 218 25).toInt.toNat)) ∧ TKV (σ14.1 218 11) (σ14.1 218 10) (σ14.1 218 12) (σ14.1 218 13) tx n p ∧ (σ0.1 218 11).toInt < (σ14.1 218 11).toInt ∧ p ≤ n := by first | exact ⟨_, (stp_n h0q k44).trans (if_pos (u51 y196).1.2), (u51 y196).2.2.2, (u51 y196).1.1, le1⟩ | (obtain ⟨j, fj, rj⟩ := (u127 y196).2; exact ⟨j, (stp_f h0q k122).trans (by rw [fj]; rfl), rj.2, (u127 y196).1, fam_le hi fj⟩) | exact ⟨_, stp_a h0q k137.1.1, k137.2.2, k137.1.2, le1⟩ | exact absurd y196 n189
              refine ok_gC rfl ?_
              refine ok_zbT (Q := fun V σ => (TOK σ.1 ∧ ZB σ.1 ∧ PIL σ.1 1 ∧ ((σ.1 218 22).toInt.toNat ≤ (σ17.1 218 22).toInt.toNat ∧ lst (σ17.1 230) (σ.1 218 22).toInt.toNat = popP (lst (σ17.1 230) (σ17.1 218 22).toInt.toNat)) ∧ ((σ.1 218 22).toInt ≤ 0 ∨ (rkI (σ17.1 230 ((σ.1 218 22) - 1).toNatClampNeg)).toInt < (3 : Int32).toInt)) ∧ (σ.1 218 7 = σ17.1 218 7 ∧ σ.1 218 9 = σ17.1 218 9 ∧ σ.1 218 10 = σ17.1 218 10 ∧ σ.1 218 11 = σ17.1 218 11 ∧ σ.1 218 12 = σ17.1 218 12 ∧ σ.1 218 13 = σ17.1 218 13 ∧ σ.1 218 14 = σ17.1 218 14 ∧ σ.1 218 15 = σ17.1 218 15 ∧ σ.1 218 20 = σ17.1 218 20 ∧ σ.1 218 25 = σ17.1 218 25)) hT (s_X12_settlesTo_r hN (hR.tr hT) (hK) (by rw [hT.2 224 (by decide)]; exact hY) (hB) (by (try simp only [g7_σ17, g9_σ17, g10_σ17, g11_σ17, g12_σ17, g13_σ17, g14_σ17, g15_σ17, g20_σ17, g22_σ17, g23_σ17, g24_σ17, g25_σ17]); exact ha) (by first | exact PIL_i g22_σ17 g23_σ17 g24_σ17 r230_σ17 hS h22 hd hd6 s57 | exact absurd y196 n189) (by decide) (by (try simp only [g7_σ17, g9_σ17, g10_σ17, g11_σ17, g12_σ17, g13_σ17, g14_σ17, g15_σ17, g20_σ17, g22_σ17, g23_σ17, g24_σ17, g25_σ17]); rw [r230_σ17]; exact hNP) (Or.inl (by decide))) (by decide) (fun v30 σ31 hOσ31 hT hqv30 => ?_)
              have hqv30 : (TOK σ31.1 ∧ ZB σ31.1 ∧ PIL σ31.1 1 ∧ ((σ31.1 218 22).toInt.toNat ≤ (σ17.1 218 22).toInt.toNat ∧ lst (σ17.1 230) (σ31.1 218 22).toInt.toNat = popP (lst (σ17.1 230) (σ17.1 218 22).toInt.toNat)) ∧ ((σ31.1 218 22).toInt ≤ 0 ∨ (rkI (σ17.1 230 ((σ31.1 218 22) - 1).toNatClampNeg)).toInt < (3 : Int32).toInt)) ∧ (σ31.1 218 7 = σ17.1 218 7 ∧ σ31.1 218 9 = σ17.1 218 9 ∧ σ31.1 218 10 = σ17.1 218 10 ∧ σ31.1 218 11 = σ17.1 218 11 ∧ σ31.1 218 12 = σ17.1 218 12 ∧ σ31.1 218 13 = σ17.1 218 13 ∧ σ31.1 218 14 = σ17.1 218 14 ∧ σ31.1 218 15 = σ17.1 218 15 ∧ σ31.1 218 20 = σ17.1 218 20 ∧ σ31.1 218 25 = σ17.1 218 25) := hqv30
              have hkv30 := hqv30
              have hqv30 := hqv30.1
              have r230_σ31 : σ31.1 230 = σ0.1 230 := (hOσ31.2 230 (by decide)).trans r230_σ17
              have hK : TOK σ31.1 := by first | exact hqv30.1 | exact hqv30.1.1 | exact TOK_p eσ31 (by decide) hK
              have hB : ZB σ31.1 := by first | exact hqv30.2.1 | exact hqv30.2.2.2.2.1 | exact ZB_s eσ31 hB
              try simp only [g7_σ17, g9_σ17, g10_σ17, g11_σ17, g12_σ17, g13_σ17, g14_σ17, g15_σ17, g20_σ17, g22_σ17, g23_σ17, g24_σ17, g25_σ17] at hqv30
              have g7_σ31 : σ31.1 218 7 = (σ0.1 218 7) := (hkv30.2.1).trans g7_σ17
              have g9_σ31 : σ31.1 218 9 = (σ0.1 218 9) := (hkv30.2.2.1).trans g9_σ17
              have g10_σ31 : σ31.1 218 10 = (σ14.1 218 10) := (hkv30.2.2.2.1).trans g10_σ17
              have g11_σ31 : σ31.1 218 11 = (σ14.1 218 11) := (hkv30.2.2.2.2.1).trans g11_σ17
              have g12_σ31 : σ31.1 218 12 = (σ14.1 218 12) := (hkv30.2.2.2.2.2.1).trans g12_σ17
              have g13_σ31 : σ31.1 218 13 = (σ14.1 218 13) := (hkv30.2.2.2.2.2.2.1).trans g13_σ17
              have g14_σ31 : σ31.1 218 14 = (σ14.1 218 14) := (hkv30.2.2.2.2.2.2.2.1).trans g14_σ17
              have g15_σ31 : σ31.1 218 15 = (σ14.1 218 15) := (hkv30.2.2.2.2.2.2.2.2.1).trans g15_σ17
              have g20_σ31 : σ31.1 218 20 = (σ0.1 218 20) := (hkv30.2.2.2.2.2.2.2.2.2.1).trans g20_σ17
              have g25_σ31 : σ31.1 218 25 = (σ0.1 218 25) := (hkv30.2.2.2.2.2.2.2.2.2.2).trans g25_σ17
              have h201 := hqv30.2.2.1
              have b201 := PIL_b hqv30.2.2.1 (by decide)
              have l201 := hqv30.2.2.2.1
              have o201 : σ17.1 230 = σ0.1 230 := (hOσ31.2 230 (by decide)).symm.trans r230_σ31
              rw [o201] at l201
              exact ok_rZ (Or.inr rfl) ⟨hT, (show (TOK σ31.1 ∧ ((σ0.1 218 11).toInt ≤ (σ31.1 218 11).toInt ∧ 0 ≤ (σ31.1 218 22).toInt ∧ (σ31.1 218 22).toInt ≤ 40) ∧ (σ31.1 218 14 = 0 → (σ0.1 218 11).toInt < (σ31.1 218 11).toInt ∧ ∃ c, stp tx n x1 (i, false, (lst (σ0.1 230) (σ0.1 218 22).toInt.toNat), (σ0.1 218 25).toInt.toNat) = some (some c) ∧ REL σ31.1 tx n c ∧ ((1 : Int32) = 0 ↔ c.2.1 = false)) ∧ (¬ σ31.1 218 14 = 0 → stp tx n x1 (i, false, (lst (σ0.1 230) (σ0.1 218 22).toInt.toNat), (σ0.1 218 25).toInt.toNat) = none) ∧ ZB σ31.1) ∧ (σ31.1 218 7 = σ0.1 218 7 ∧ σ31.1 218 9 = σ0.1 218 9 ∧ σ31.1 218 20 = σ0.1 218 20 ∧ σ31.1 218 25 = σ0.1 218 25) from ⟨by first | exact ⟨hK, ⟨m34.1, m34.2.1⟩, fun q => ⟨(m34.2.2.1 q).1.1, (tkE tx n i, false, decide (tkK tx n i = 40) :: (lst (σ0.1 230) (σ0.1 218 22).toInt.toNat), (σ0.1 218 25).toInt.toNat), (stp_o hpx).trans (if_neg (m34.2.2.1 q).2.1.1), ⟨⟨(m34.2.2.1 q).2.1.2, le1⟩, ⟨by first | exact ((m34.2.2.1 q).2.2.1.trans (by rw [k16]; rfl)).symm | exact ((m34.2.2.1 q).2.2.1.trans (by rw [k7, decide_eq_false (z50 w7.1)]; rfl)).symm, (m34.2.2.1 q).2.2.2⟩, by rw [g25_σ31], fun h => Bool.noConfusion (show false = true from h), fun _ => (m34.2.2.1 q).1.2⟩, ⟨fun _ => rfl, fun _ => rfl⟩⟩, fun q => (stp_o hpx).trans (if_pos (m34.2.2.2 q)), hB⟩ | exact absurd e7 n22 | exact absurd e22 n7 | exact absurd y196 n189 | exact ⟨hK, ⟨by (try simp only [g7_σ31, g9_σ31, g10_σ31, g11_σ31, g12_σ31, g13_σ31, g14_σ31, g15_σ31, g20_σ31, g25_σ31]); omega, by (try simp only [g7_σ31, g9_σ31, g10_σ31, g11_σ31, g12_σ31, g13_σ31, g14_σ31, g15_σ31, g20_σ31, g25_σ31]); omega⟩, fun q => absurd q (by (try simp only [g7_σ31, g9_σ31, g10_σ31, g11_σ31, g12_σ31, g13_σ31, g14_σ31, g15_σ31, g20_σ31, g25_σ31]); exact n196), fun _ => st9, hB⟩ | exact ⟨hK, ⟨by (try simp only [g7_σ31, g9_σ31, g10_σ31, g11_σ31, g12_σ31, g13_σ31, g14_σ31, g15_σ31, g20_σ31, g25_σ31]); omega, by omega⟩, fun _ => ⟨by (try simp only [g7_σ31, g9_σ31, g10_σ31, g11_σ31, g12_σ31, g13_σ31, g14_σ31, g15_σ31, g20_σ31, g25_σ31]); exact ga9, _, st9, ⟨⟨RX_i g9_σ31 g10_σ31 g11_σ31 g12_σ31 g13_σ31 ((hT.2 224 (by decide)).trans tE) nE pK9, le9⟩, ⟨by rw [r230_σ31]; exact l201.2.symm, by rw [r230_σ31]; exact NP_le hNP l201.1⟩, by rw [g25_σ31], fun _ => ⟨h201, popP_i _⟩, fun h => Bool.noConfusion (show true = false from h)⟩, ⟨fun h => absurd h (by decide), fun h => Bool.noConfusion (show true = false from h)⟩⟩, fun q => absurd (by (try simp only [g7_σ31, g9_σ31, g10_σ31, g11_σ31, g12_σ31, g13_σ31, g14_σ31, g15_σ31, g20_σ31, g25_σ31]); exact y196) q, hB⟩, g7_σ31, g9_σ31, g20_σ31, g25_σ31⟩)⟩
          · have qhc26 := hqv24.2 hc26
            refine ok_gR (v := 226) hT rfl (hR 218 16 rfl) ?_
            refine ok_gIv rfl g23_σ17 ?_
            refine ok_aIn rfl (by rw [ti_add, q51]; omega) (by rw [ti_add, q51]; omega) (fun v34 ev34 => ?_)
            have zv34 : v34 = 0 ∨ v34 = 1 := by rw [ev34]; exact hB 232 rfl _
            refine ok_s16 hT rfl (by decide) (by rw [ti_add, m57]; omega) (by rw [ti_add, m57]; omega) (fun σ35 eσ35 hOσ35 hT => ?_)
            have r230_σ35 : σ35.1 230 = σ0.1 230 := (hOσ35.2 230 (by decide)).trans r230_σ17
            have hK : TOK σ35.1 := TOK_tr hOσ35 (by decide) (by decide) hK
            have hB : ZB σ35.1 := by first | exact HQ.2.1 | exact HQ.2.2.2.2.1 | exact ZB_s eσ35 hB
            have g7_σ35 : σ35.1 218 7 = (σ0.1 218 7) := (congrFun (hOσ35.2 218 (by decide)) 7).trans g7_σ17
            have g9_σ35 : σ35.1 218 9 = (σ0.1 218 9) := (congrFun (hOσ35.2 218 (by decide)) 9).trans g9_σ17
            have g10_σ35 : σ35.1 218 10 = (σ14.1 218 10) := (congrFun (hOσ35.2 218 (by decide)) 10).trans g10_σ17
            have g11_σ35 : σ35.1 218 11 = (σ14.1 218 11) := (congrFun (hOσ35.2 218 (by decide)) 11).trans g11_σ17
            have g12_σ35 : σ35.1 218 12 = (σ14.1 218 12) := (congrFun (hOσ35.2 218 (by decide)) 12).trans g12_σ17
            have g13_σ35 : σ35.1 218 13 = (σ14.1 218 13) := (congrFun (hOσ35.2 218 (by decide)) 13).trans g13_σ17
            have g14_σ35 : σ35.1 218 14 = (σ14.1 218 14) := (congrFun (hOσ35.2 218 (by decide)) 14).trans g14_σ17
            have g15_σ35 : σ35.1 218 15 = (σ14.1 218 15) := (congrFun (hOσ35.2 218 (by decide)) 15).trans g15_σ17
            have g20_σ35 : σ35.1 218 20 = (σ0.1 218 20) := (congrFun (hOσ35.2 218 (by decide)) 20).trans g20_σ17
            have g22_σ35 : σ35.1 218 22 = (σ0.1 218 22) := (congrFun (hOσ35.2 218 (by decide)) 22).trans g22_σ17
            have g23_σ35 : σ35.1 218 23 = (σ16.1 218 23) := (congrFun (hOσ35.2 218 (by decide)) 23).trans g23_σ17
            have g24_σ35 : σ35.1 218 24 = (σ0.1 218 24) := (congrFun (hOσ35.2 218 (by decide)) 24).trans g24_σ17
            have g25_σ35 : σ35.1 218 25 = (σ0.1 218 25) := (congrFun (hOσ35.2 218 (by decide)) 25).trans g25_σ17
            exact ih63_17 (x5_17 + 1, σ35) (show Tr [218, 226, 227, 228, 229, 230] σ0 σ35 ∧ (0 ≤ (x5_17 + 1).toInt) ∧ (TOK σ35.1) ∧ (ZB σ35.1) ∧ (σ35.1 218 7 = (σ0.1 218 7)) ∧ (σ35.1 218 9 = (σ0.1 218 9)) ∧ (σ35.1 218 10 = (σ14.1 218 10)) ∧ (σ35.1 218 11 = (σ14.1 218 11)) ∧ (σ35.1 218 12 = (σ14.1 218 12)) ∧ (σ35.1 218 13 = (σ14.1 218 13)) ∧ (σ35.1 218 14 = (σ14.1 218 14)) ∧ (σ35.1 218 15 = (σ14.1 218 15)) ∧ (σ35.1 218 20 = (σ0.1 218 20)) ∧ (σ35.1 218 22 = (σ0.1 218 22)) ∧ (σ35.1 218 23 = (σ16.1 218 23)) ∧ (σ35.1 218 24 = (σ0.1 218 24)) ∧ (σ35.1 218 25 = (σ0.1 218 25)) ∧ (σ35.1 230 = σ0.1 230) from ⟨hT, (by rw [s68]; omega), hK, hB, g7_σ35, g9_σ35, g10_σ35, g11_σ35, g12_σ35, g13_σ35, g14_σ35, g15_σ35, g20_σ35, g22_σ35, g23_σ35, g24_σ35, g25_σ35, r230_σ35⟩) (show (1024 - (x5_17 + 1).toInt).toNat < (1024 - x5_17.toInt).toNat from (by rw [s68]; omega))
      · have m44 : ¬ tkK tx n i = 2 := fun q => hc12 (pK.2.1.trans q)
        refine ok_gI rfl ?_
        refine ok_if (fun hc37 => ?_) (fun hc37 => ?_)
        · have e122 := hc37
          have k122 : tkK tx n i = 123 := pK.2.1.symm.trans hc37
          refine ok_gC rfl ?_
          refine ok_zbT (Q := fun V σ => (TOK σ.1 ∧ (σ0.1 218 11).toInt ≤ (σ.1 218 11).toInt ∧ (σ.1 218 14 = 0 → (σ0.1 218 11).toInt < (σ.1 218 11).toInt ∧ ∃ j, fam tx n x1 i = some j ∧ RX σ.1 tx n j) ∧ (¬ σ.1 218 14 = 0 → fam tx n x1 i = none) ∧ ZB σ.1 ∧ σ.1 218 23 = σ0.1 218 23 + 1) ∧ (σ.1 218 7 = σ0.1 218 7 ∧ σ.1 218 9 = σ0.1 218 9 ∧ σ.1 218 20 = σ0.1 218 20 ∧ σ.1 218 22 = σ0.1 218 22 ∧ σ.1 218 24 = σ0.1 218 24 ∧ σ.1 218 25 = σ0.1 218 25)) hT (s_X12_readsSets_r hN (hR.tr hT) (hK) (by rw [hT.2 224 (by decide)]; exact hY) (RX_i rfl rfl rfl rfl rfl ((hT.2 224 (by decide)).trans tE) nE pK) (hg) (hB) (hn) (by skip; omega) (by rw [e122]; decide) (hi)) (by decide) (fun v38 σ39 hOσ39 hT hqv38 => ?_)
          have hqv38 : (TOK σ39.1 ∧ (σ0.1 218 11).toInt ≤ (σ39.1 218 11).toInt ∧ (σ39.1 218 14 = 0 → (σ0.1 218 11).toInt < (σ39.1 218 11).toInt ∧ ∃ j, fam tx n x1 i = some j ∧ RX σ39.1 tx n j) ∧ (¬ σ39.1 218 14 = 0 → fam tx n x1 i = none) ∧ ZB σ39.1 ∧ σ39.1 218 23 = σ0.1 218 23 + 1) ∧ (σ39.1 218 7 = σ0.1 218 7 ∧ σ39.1 218 9 = σ0.1 218 9 ∧ σ39.1 218 20 = σ0.1 218 20 ∧ σ39.1 218 22 = σ0.1 218 22 ∧ σ39.1 218 24 = σ0.1 218 24 ∧ σ39.1 218 25 = σ0.1 218 25) := hqv38
          have hkv38 := hqv38
          have hqv38 := hqv38.1
          have r230_σ39 : σ39.1 230 = σ0.1 230 := hOσ39.2 230 (by decide)
          have hK : TOK σ39.1 := by first | exact hqv38.1 | exact hqv38.1.1 | exact TOK_p eσ39 (by decide) hK
          have hB : ZB σ39.1 := by first | exact hqv38.2.1 | exact hqv38.2.2.2.2.1 | exact ZB_s eσ39 hB
          have g7_σ39 : σ39.1 218 7 = (σ0.1 218 7) := hkv38.2.1
          have g9_σ39 : σ39.1 218 9 = (σ0.1 218 9) := hkv38.2.2.1
          have g20_σ39 : σ39.1 218 20 = (σ0.1 218 20) := hkv38.2.2.2.1
          have g22_σ39 : σ39.1 218 22 = (σ0.1 218 22) := hkv38.2.2.2.2.1
          have g24_σ39 : σ39.1 218 24 = (σ0.1 218 24) := hkv38.2.2.2.2.2.1
          have g25_σ39 : σ39.1 218 25 = (σ0.1 218 25) := hkv38.2.2.2.2.2.2
          have m127 := hqv38.2.1
          have u127 := hqv38.2.2.1
          have f127 := hqv38.2.2.2.1
          have g57 := hqv38.2.2.2.2.2
          have s57 : (σ39.1 218 23).toInt = ((b8 + 1 : Nat) : Int) := by rw [g57, ti_add]; simp only [Int32.reduceToInt]; omega
          have p57 : ((σ39.1 218 23) - 1).toInt = (b8 : Int) := by rw [ti_sub, s57]; simp only [Int32.reduceToInt]; omega
          have m57 := p1024 p57 (by omega) (by omega)
          rw [J_X12_readsPart_192.eq_1]
          refine ok_gC rfl ?_
          refine ok_zbX (Q := fun V => (V = 0 → ¬ σ39.1 218 14 = 0) ∧ (¬ V = 0 → σ39.1 218 14 = 0)) (x_X12_good) (fun v40 hqv40 => ?_)
          have hqv40 : (v40 = 0 → ¬ σ39.1 218 14 = 0) ∧ (¬ v40 = 0 → σ39.1 218 14 = 0) := hqv40
          try simp only [g7_σ39, g9_σ39, g20_σ39, g22_σ39, g24_σ39, g25_σ39, hT.2 224 (by decide)] at hqv40
          refine ok_if (fun hc42 => ?_) (fun hc42 => ?_)
          · have qhc42 := hqv40.1 hc42
            have n196 := qhc42
            have st9 : stp tx n x1 (i, false, (lst (σ0.1 230) (σ0.1 218 22).toInt.toNat), (σ0.1 218 25).toInt.toNat) = none := by first | exact (stp_n h0q k44).trans (if_neg (f51 n196).2) | exact (stp_f h0q k122).trans (by rw [f127 n196]; rfl) | exact stp_z h0q m44 m122 i140.2 | exact absurd hg n196
            exact ok_rZ (Or.inr rfl) ⟨hT, (show (TOK σ39.1 ∧ ((σ0.1 218 11).toInt ≤ (σ39.1 218 11).toInt ∧ 0 ≤ (σ39.1 218 22).toInt ∧ (σ39.1 218 22).toInt ≤ 40) ∧ (σ39.1 218 14 = 0 → (σ0.1 218 11).toInt < (σ39.1 218 11).toInt ∧ ∃ c, stp tx n x1 (i, false, (lst (σ0.1 230) (σ0.1 218 22).toInt.toNat), (σ0.1 218 25).toInt.toNat) = some (some c) ∧ REL σ39.1 tx n c ∧ ((1 : Int32) = 0 ↔ c.2.1 = false)) ∧ (¬ σ39.1 218 14 = 0 → stp tx n x1 (i, false, (lst (σ0.1 230) (σ0.1 218 22).toInt.toNat), (σ0.1 218 25).toInt.toNat) = none) ∧ ZB σ39.1) ∧ (σ39.1 218 7 = σ0.1 218 7 ∧ σ39.1 218 9 = σ0.1 218 9 ∧ σ39.1 218 20 = σ0.1 218 20 ∧ σ39.1 218 25 = σ0.1 218 25) from ⟨by first | exact ⟨hK, ⟨m34.1, m34.2.1⟩, fun q => ⟨(m34.2.2.1 q).1.1, (tkE tx n i, false, decide (tkK tx n i = 40) :: (lst (σ0.1 230) (σ0.1 218 22).toInt.toNat), (σ0.1 218 25).toInt.toNat), (stp_o hpx).trans (if_neg (m34.2.2.1 q).2.1.1), ⟨⟨(m34.2.2.1 q).2.1.2, le1⟩, ⟨by first | exact ((m34.2.2.1 q).2.2.1.trans (by rw [k16]; rfl)).symm | exact ((m34.2.2.1 q).2.2.1.trans (by rw [k7, decide_eq_false (z50 w7.1)]; rfl)).symm, (m34.2.2.1 q).2.2.2⟩, by rw [g25_σ39], fun h => Bool.noConfusion (show false = true from h), fun _ => (m34.2.2.1 q).1.2⟩, ⟨fun _ => rfl, fun _ => rfl⟩⟩, fun q => (stp_o hpx).trans (if_pos (m34.2.2.2 q)), hB⟩ | exact absurd e7 n22 | exact absurd e22 n7 | exact absurd y196 n189 | exact ⟨hK, ⟨by (try simp only [g7_σ39, g9_σ39, g20_σ39, g22_σ39, g24_σ39, g25_σ39]); omega, by (try simp only [g7_σ39, g9_σ39, g20_σ39, g22_σ39, g24_σ39, g25_σ39]); omega⟩, fun q => absurd q (by (try simp only [g7_σ39, g9_σ39, g20_σ39, g22_σ39, g24_σ39, g25_σ39]); exact n196), fun _ => st9, hB⟩ | exact ⟨hK, ⟨by (try simp only [g7_σ39, g9_σ39, g20_σ39, g22_σ39, g24_σ39, g25_σ39]); omega, by omega⟩, fun _ => ⟨by (try simp only [g7_σ39, g9_σ39, g20_σ39, g22_σ39, g24_σ39, g25_σ39]); exact ga9, _, st9, ⟨⟨RX_i g9_σ39 rfl rfl rfl rfl ((hT.2 224 (by decide)).trans tE) nE pK9, le9⟩, ⟨by rw [r230_σ39]; exact l201.2.symm, by rw [r230_σ39]; exact NP_le hNP l201.1⟩, by rw [g25_σ39], fun _ => ⟨h201, popP_i _⟩, fun h => Bool.noConfusion (show true = false from h)⟩, ⟨fun h => absurd h (by decide), fun h => Bool.noConfusion (show true = false from h)⟩⟩, fun q => absurd (by (try simp only [g7_σ39, g9_σ39, g20_σ39, g22_σ39, g24_σ39, g25_σ39]); exact y196) q, hB⟩, g7_σ39, g9_σ39, g20_σ39, g25_σ39⟩)⟩
          · have qhc42 := hqv40.2 hc42
            have y196 := qhc42
            obtain ⟨P9, st9, pK9, ga9, le9⟩ : ∃ p, stp tx n x1 (i, false, (lst (σ0.1 230) (σ0.1 218 22).toInt.toNat), (σ0.1 218 25).toInt.toNat) = some (some (p, true, popP (lst (σ0.1 230) (σ0.1 218 22).toInt.toNat), (σ0.1 218 25).toInt.toNat)) ∧ TKV (σ39.1 218 11) (σ39.1 218 10) (σ39.1 218 12) (σ39.1 218 13) tx n p ∧ (σ0.1 218 11).toInt < (σ39.1 218 11).toInt ∧ p ≤ n := by first | exact ⟨_, (stp_n h0q k44).trans (if_pos (u51 y196).1.2), (u51 y196).2.2.2, (u51 y196).1.1, le1⟩ | (obtain ⟨j, fj, rj⟩ := (u127 y196).2; exact ⟨j, (stp_f h0q k122).trans (by rw [fj]; rfl), rj.2, (u127 y196).1, fam_le hi fj⟩) | exact ⟨_, stp_a h0q k137.1.1, k137.2.2, k137.1.2, le1⟩ | exact absurd y196 n189
            refine ok_gC rfl ?_
            refine ok_zbT (Q := fun V σ => (TOK σ.1 ∧ ZB σ.1 ∧ PIL σ.1 1 ∧ ((σ.1 218 22).toInt.toNat ≤ (σ39.1 218 22).toInt.toNat ∧ lst (σ39.1 230) (σ.1 218 22).toInt.toNat = popP (lst (σ39.1 230) (σ39.1 218 22).toInt.toNat)) ∧ ((σ.1 218 22).toInt ≤ 0 ∨ (rkI (σ39.1 230 ((σ.1 218 22) - 1).toNatClampNeg)).toInt < (3 : Int32).toInt)) ∧ (σ.1 218 7 = σ39.1 218 7 ∧ σ.1 218 9 = σ39.1 218 9 ∧ σ.1 218 10 = σ39.1 218 10 ∧ σ.1 218 11 = σ39.1 218 11 ∧ σ.1 218 12 = σ39.1 218 12 ∧ σ.1 218 13 = σ39.1 218 13 ∧ σ.1 218 14 = σ39.1 218 14 ∧ σ.1 218 15 = σ39.1 218 15 ∧ σ.1 218 20 = σ39.1 218 20 ∧ σ.1 218 25 = σ39.1 218 25)) hT (s_X12_settlesTo_r hN (hR.tr hT) (hK) (by rw [hT.2 224 (by decide)]; exact hY) (hB) (by (try simp only [g7_σ39, g9_σ39, g20_σ39, g22_σ39, g24_σ39, g25_σ39]); exact ha) (by first | exact PIL_i g22_σ39 rfl g24_σ39 r230_σ39 hS h22 hd hd6 s57 | exact absurd y196 n189) (by decide) (by (try simp only [g7_σ39, g9_σ39, g20_σ39, g22_σ39, g24_σ39, g25_σ39]); rw [r230_σ39]; exact hNP) (Or.inl (by decide))) (by decide) (fun v43 σ44 hOσ44 hT hqv43 => ?_)
            have hqv43 : (TOK σ44.1 ∧ ZB σ44.1 ∧ PIL σ44.1 1 ∧ ((σ44.1 218 22).toInt.toNat ≤ (σ39.1 218 22).toInt.toNat ∧ lst (σ39.1 230) (σ44.1 218 22).toInt.toNat = popP (lst (σ39.1 230) (σ39.1 218 22).toInt.toNat)) ∧ ((σ44.1 218 22).toInt ≤ 0 ∨ (rkI (σ39.1 230 ((σ44.1 218 22) - 1).toNatClampNeg)).toInt < (3 : Int32).toInt)) ∧ (σ44.1 218 7 = σ39.1 218 7 ∧ σ44.1 218 9 = σ39.1 218 9 ∧ σ44.1 218 10 = σ39.1 218 10 ∧ σ44.1 218 11 = σ39.1 218 11 ∧ σ44.1 218 12 = σ39.1 218 12 ∧ σ44.1 218 13 = σ39.1 218 13 ∧ σ44.1 218 14 = σ39.1 218 14 ∧ σ44.1 218 15 = σ39.1 218 15 ∧ σ44.1 218 20 = σ39.1 218 20 ∧ σ44.1 218 25 = σ39.1 218 25) := hqv43
            have hkv43 := hqv43
            have hqv43 := hqv43.1
            have r230_σ44 : σ44.1 230 = σ0.1 230 := (hOσ44.2 230 (by decide)).trans r230_σ39
            have hK : TOK σ44.1 := by first | exact hqv43.1 | exact hqv43.1.1 | exact TOK_p eσ44 (by decide) hK
            have hB : ZB σ44.1 := by first | exact hqv43.2.1 | exact hqv43.2.2.2.2.1 | exact ZB_s eσ44 hB
            try simp only [g7_σ39, g9_σ39, g20_σ39, g22_σ39, g24_σ39, g25_σ39] at hqv43
            have g7_σ44 : σ44.1 218 7 = (σ0.1 218 7) := (hkv43.2.1).trans g7_σ39
            have g9_σ44 : σ44.1 218 9 = (σ0.1 218 9) := (hkv43.2.2.1).trans g9_σ39
            have g10_σ44 : σ44.1 218 10 = (σ39.1 218 10) := hkv43.2.2.2.1
            have g11_σ44 : σ44.1 218 11 = (σ39.1 218 11) := hkv43.2.2.2.2.1
            have g12_σ44 : σ44.1 218 12 = (σ39.1 218 12) := hkv43.2.2.2.2.2.1
            have g13_σ44 : σ44.1 218 13 = (σ39.1 218 13) := hkv43.2.2.2.2.2.2.1
            have g14_σ44 : σ44.1 218 14 = (σ39.1 218 14) := hkv43.2.2.2.2.2.2.2.1
            have g15_σ44 : σ44.1 218 15 = (σ39.1 218 15) := hkv43.2.2.2.2.2.2.2.2.1
            have g20_σ44 : σ44.1 218 20 = (σ0.1 218 20) := (hkv43.2.2.2.2.2.2.2.2.2.1).trans g20_σ39
            have g25_σ44 : σ44.1 218 25 = (σ0.1 218 25) := (hkv43.2.2.2.2.2.2.2.2.2.2).trans g25_σ39
            have h201 := hqv43.2.2.1
            have b201 := PIL_b hqv43.2.2.1 (by decide)
            have l201 := hqv43.2.2.2.1
            have o201 : σ39.1 230 = σ0.1 230 := (hOσ44.2 230 (by decide)).symm.trans r230_σ44
            rw [o201] at l201
            exact ok_rZ (Or.inr rfl) ⟨hT, (show (TOK σ44.1 ∧ ((σ0.1 218 11).toInt ≤ (σ44.1 218 11).toInt ∧ 0 ≤ (σ44.1 218 22).toInt ∧ (σ44.1 218 22).toInt ≤ 40) ∧ (σ44.1 218 14 = 0 → (σ0.1 218 11).toInt < (σ44.1 218 11).toInt ∧ ∃ c, stp tx n x1 (i, false, (lst (σ0.1 230) (σ0.1 218 22).toInt.toNat), (σ0.1 218 25).toInt.toNat) = some (some c) ∧ REL σ44.1 tx n c ∧ ((1 : Int32) = 0 ↔ c.2.1 = false)) ∧ (¬ σ44.1 218 14 = 0 → stp tx n x1 (i, false, (lst (σ0.1 230) (σ0.1 218 22).toInt.toNat), (σ0.1 218 25).toInt.toNat) = none) ∧ ZB σ44.1) ∧ (σ44.1 218 7 = σ0.1 218 7 ∧ σ44.1 218 9 = σ0.1 218 9 ∧ σ44.1 218 20 = σ0.1 218 20 ∧ σ44.1 218 25 = σ0.1 218 25) from ⟨by first | exact ⟨hK, ⟨m34.1, m34.2.1⟩, fun q => ⟨(m34.2.2.1 q).1.1, (tkE tx n i, false, decide (tkK tx n i = 40) :: (lst (σ0.1 230) (σ0.1 218 22).toInt.toNat), (σ0.1 218 25).toInt.toNat), (stp_o hpx).trans (if_neg (m34.2.2.1 q).2.1.1), ⟨⟨(m34.2.2.1 q).2.1.2, le1⟩, ⟨by first | exact ((m34.2.2.1 q).2.2.1.trans (by rw [k16]; rfl)).symm | exact ((m34.2.2.1 q).2.2.1.trans (by rw [k7, decide_eq_false (z50 w7.1)]; rfl)).symm, (m34.2.2.1 q).2.2.2⟩, by rw [g25_σ44], fun h => Bool.noConfusion (show false = true from h), fun _ => (m34.2.2.1 q).1.2⟩, ⟨fun _ => rfl, fun _ => rfl⟩⟩, fun q => (stp_o hpx).trans (if_pos (m34.2.2.2 q)), hB⟩ | exact absurd e7 n22 | exact absurd e22 n7 | exact absurd y196 n189 | exact ⟨hK, ⟨by (try simp only [g7_σ44, g9_σ44, g10_σ44, g11_σ44, g12_σ44, g13_σ44, g14_σ44, g15_σ44, g20_σ44, g25_σ44]); omega, by (try simp only [g7_σ44, g9_σ44, g10_σ44, g11_σ44, g12_σ44, g13_σ44, g14_σ44, g15_σ44, g20_σ44, g25_σ44]); omega⟩, fun q => absurd q (by (try simp only [g7_σ44, g9_σ44, g10_σ44, g11_σ44, g12_σ44, g13_σ44, g14_σ44, g15_σ44, g20_σ44, g25_σ44]); exact n196), fun _ => st9, hB⟩ | exact ⟨hK, ⟨by (try simp only [g7_σ44, g9_σ44, g10_σ44, g11_σ44, g12_σ44, g13_σ44, g14_σ44, g15_σ44, g20_σ44, g25_σ44]); omega, by omega⟩, fun _ => ⟨by (try simp only [g7_σ44, g9_σ44, g10_σ44, g11_σ44, g12_σ44, g13_σ44, g14_σ44, g15_σ44, g20_σ44, g25_σ44]); exact ga9, _, st9, ⟨⟨RX_i g9_σ44 g10_σ44 g11_σ44 g12_σ44 g13_σ44 ((hT.2 224 (by decide)).trans tE) nE pK9, le9⟩, ⟨by rw [r230_σ44]; exact l201.2.symm, by rw [r230_σ44]; exact NP_le hNP l201.1⟩, by rw [g25_σ44], fun _ => ⟨h201, popP_i _⟩, fun h => Bool.noConfusion (show true = false from h)⟩, ⟨fun h => absurd h (by decide), fun h => Bool.noConfusion (show true = false from h)⟩⟩, fun q => absurd (by (try simp only [g7_σ44, g9_σ44, g10_σ44, g11_σ44, g12_σ44, g13_σ44, g14_σ44, g15_σ44, g20_σ44, g25_σ44]); exact y196) q, hB⟩, g7_σ44, g9_σ44, g20_σ44, g25_σ44⟩)⟩
        · have m122 : ¬ tkK tx n i = 123 := fun q => hc37 (pK.2.1.trans q)
          refine ok_gC rfl ?_
          refine ok_zbT (Q := fun V σ => (TOK σ.1 ∧ (σ0.1 218 11).toInt ≤ (σ.1 218 11).toInt ∧ (V = 0 → σ = σ0 ∧ ¬ isW tx n i 15) ∧ (¬ V = 0 → (isW tx n i 15 ∧ (σ0.1 218 11).toInt < (σ.1 218 11).toInt) ∧ RX σ.1 tx n (tkE tx n i))) ∧ (σ.1 218 7 = σ0.1 218 7 ∧ σ.1 218 9 = σ0.1 218 9 ∧ σ.1 218 14 = σ0.1 218 14 ∧ σ.1 218 15 = σ0.1 218 15 ∧ σ.1 218 20 = σ0.1 218 20 ∧ σ.1 218 22 = σ0.1 218 22 ∧ σ.1 218 23 = σ0.1 218 23 ∧ σ.1 218 24 = σ0.1 218 24 ∧ σ.1 218 25 = σ0.1 218 25)) hT (s_X12_takes_r hN (hR.tr hT) (hK) (by rw [hT.2 224 (by decide)]; exact hY) (RX_i rfl rfl rfl rfl rfl ((hT.2 224 (by decide)).trans tE) nE pK) (hg) (by decide)) (by decide) (fun v45 σ46 hOσ46 hT hqv45 => ?_)
          have hqv45 : (TOK σ46.1 ∧ (σ0.1 218 11).toInt ≤ (σ46.1 218 11).toInt ∧ (v45 = 0 → σ46 = σ0 ∧ ¬ isW tx n i 15) ∧ (¬ v45 = 0 → (isW tx n i 15 ∧ (σ0.1 218 11).toInt < (σ46.1 218 11).toInt) ∧ RX σ46.1 tx n (tkE tx n i))) ∧ (σ46.1 218 7 = σ0.1 218 7 ∧ σ46.1 218 9 = σ0.1 218 9 ∧ σ46.1 218 14 = σ0.1 218 14 ∧ σ46.1 218 15 = σ0.1 218 15 ∧ σ46.1 218 20 = σ0.1 218 20 ∧ σ46.1 218 22 = σ0.1 218 22 ∧ σ46.1 218 23 = σ0.1 218 23 ∧ σ46.1 218 24 = σ0.1 218 24 ∧ σ46.1 218 25 = σ0.1 218 25) := hqv45
          have hkv45 := hqv45
          have hqv45 := hqv45.1
          have r230_σ46 : σ46.1 230 = σ0.1 230 := hOσ46.2 230 (by decide)
          have hK : TOK σ46.1 := by first | exact hqv45.1 | exact hqv45.1.1 | exact TOK_p eσ46 (by decide) hK
          have hB : ZB σ46.1 := ZB.tr hOσ46 (by decide) hB
          have g7_σ46 : σ46.1 218 7 = (σ0.1 218 7) := hkv45.2.1
          have g9_σ46 : σ46.1 218 9 = (σ0.1 218 9) := hkv45.2.2.1
          have g14_σ46 : σ46.1 218 14 = (σ0.1 218 14) := hkv45.2.2.2.1
          have g15_σ46 : σ46.1 218 15 = (σ0.1 218 15) := hkv45.2.2.2.2.1
          have g20_σ46 : σ46.1 218 20 = (σ0.1 218 20) := hkv45.2.2.2.2.2.1
          have g22_σ46 : σ46.1 218 22 = (σ0.1 218 22) := hkv45.2.2.2.2.2.2.1
          have g23_σ46 : σ46.1 218 23 = (σ0.1 218 23) := hkv45.2.2.2.2.2.2.2.1
          have g24_σ46 : σ46.1 218 24 = (σ0.1 218 24) := hkv45.2.2.2.2.2.2.2.2.1
          have g25_σ46 : σ46.1 218 25 = (σ0.1 218 25) := hkv45.2.2.2.2.2.2.2.2.2
          have m137 := hqv45.2.1
          have t137 := hqv45.2.2.2
          refine ok_if (fun hc47 => ?_) (fun hc47 => ?_)
          · have i140 := hqv45.2.2.1 hc47
            refine ok_gC rfl ?_
            refine ok_zbT (Q := fun V σ => (TOK σ.1 ∧ ¬ σ.1 218 14 = 0) ∧ (σ.1 218 7 = σ46.1 218 7 ∧ σ.1 218 9 = σ46.1 218 9 ∧ σ.1 218 10 = σ46.1 218 10 ∧ σ.1 218 11 = σ46.1 218 11 ∧ σ.1 218 12 = σ46.1 218 12 ∧ σ.1 218 13 = σ46.1 218 13 ∧ σ.1 218 20 = σ46.1 218 20 ∧ σ.1 218 22 = σ46.1 218 22 ∧ σ.1 218 23 = σ46.1 218 23 ∧ σ.1 218 24 = σ46.1 218 24 ∧ σ.1 218 25 = σ46.1 218 25)) hT (s_X12_errs hN (hR.tr hT) (hK) (by rw [hT.2 224 (by decide)]; exact hY) (by decide)) (by decide) (fun v48 σ49 hOσ49 hT hqv48 => ?_)
            have hqv48 : (TOK σ49.1 ∧ ¬ σ49.1 218 14 = 0) ∧ (σ49.1 218 7 = σ46.1 218 7 ∧ σ49.1 218 9 = σ46.1 218 9 ∧ σ49.1 218 10 = σ46.1 218 10 ∧ σ49.1 218 11 = σ46.1 218 11 ∧ σ49.1 218 12 = σ46.1 218 12 ∧ σ49.1 218 13 = σ46.1 218 13 ∧ σ49.1 218 20 = σ46.1 218 20 ∧ σ49.1 218 22 = σ46.1 218 22 ∧ σ49.1 218 23 = σ46.1 218 23 ∧ σ49.1 218 24 = σ46.1 218 24 ∧ σ49.1 218 25 = σ46.1 218 25) := hqv48
            have hkv48 := hqv48
            have hqv48 := hqv48.1
            have r230_σ49 : σ49.1 230 = σ0.1 230 := (hOσ49.2 230 (by decide)).trans r230_σ46
            have hK : TOK σ49.1 := by first | exact hqv48.1 | exact hqv48.1.1 | exact TOK_p eσ49 (by decide) hK
            have hB : ZB σ49.1 := ZB.tr hOσ49 (by decide) hB
            try simp only [g7_σ46, g9_σ46, g14_σ46, g15_σ46, g20_σ46, g22_σ46, g23_σ46, g24_σ46, g25_σ46] at hqv48
            have g7_σ49 : σ49.1 218 7 = (σ0.1 218 7) := (hkv48.2.1).trans g7_σ46
            have g9_σ49 : σ49.1 218 9 = (σ0.1 218 9) := (hkv48.2.2.1).trans g9_σ46
            have g10_σ49 : σ49.1 218 10 = (σ46.1 218 10) := hkv48.2.2.2.1
            have g11_σ49 : σ49.1 218 11 = (σ46.1 218 11) := hkv48.2.2.2.2.1
            have g12_σ49 : σ49.1 218 12 = (σ46.1 218 12) := hkv48.2.2.2.2.2.1
            have g13_σ49 : σ49.1 218 13 = (σ46.1 218 13) := hkv48.2.2.2.2.2.2.1
            have g20_σ49 : σ49.1 218 20 = (σ0.1 218 20) := (hkv48.2.2.2.2.2.2.2.1).trans g20_σ46
            have g22_σ49 : σ49.1 218 22 = (σ0.1 218 22) := (hkv48.2.2.2.2.2.2.2.2.1).trans g22_σ46
            have g23_σ49 : σ49.1 218 23 = (σ0.1 218 23) := (hkv48.2.2.2.2.2.2.2.2.2.1).trans g23_σ46
            have g24_σ49 : σ49.1 218 24 = (σ0.1 218 24) := (hkv48.2.2.2.2.2.2.2.2.2.2.1).trans g24_σ46
            have g25_σ49 : σ49.1 218 25 = (σ0.1 218 25) := (hkv48.2.2.2.2.2.2.2.2.2.2.2).trans g25_σ46
            have n189 := hqv48.2
            rw [J_X12_readsPart_192.eq_1]
            refine ok_gC rfl ?_
            refine ok_zbX (Q := fun V => (V = 0 → ¬ σ49.1 218 14 = 0) ∧ (¬ V = 0 → σ49.1 218 14 = 0)) (x_X12_good) (fun v50 hqv50 => ?_)
            have hqv50 : (v50 = 0 → ¬ σ49.1 218 14 = 0) ∧ (¬ v50 = 0 → σ49.1 218 14 = 0) := hqv50
            try simp only [g7_σ49, g9_σ49, g10_σ49, g11_σ49, g12_σ49, g13_σ49, g20_σ49, g22_σ49, g23_σ49, g24_σ49, g25_σ49, hT.2 224 (by decide)] at hqv50
            refine ok_if (fun hc52 => ?_) (fun hc52 => ?_)
            · have qhc52 := hqv50.1 hc52
              have n196 := qhc52
              have st9 : stp tx n x1 (i, false, (lst (σ0.1 230) (σ0.1 218 22).toInt.toNat), (σ0.1 218 25).toInt.toNat) = none := by first | exact (stp_n h0q k44).trans (if_neg (f51 n196).2) | exact (stp_f h0q k122).trans (by rw [f127 n196]; rfl) | exact stp_z h0q m44 m122 i140.2 | exact absurd hg n196
              exact ok_rZ (Or.inr rfl) ⟨hT, (show (TOK σ49.1 ∧ ((σ0.1 218 11).toInt ≤ (σ49.1 218 11).toInt ∧ 0 ≤ (σ49.1 218 22).toInt ∧ (σ49.1 218 22).toInt ≤ 40) ∧ (σ49.1 218 14 = 0 → (σ0.1 218 11).toInt < (σ49.1 218 11).toInt ∧ ∃ c, stp tx n x1 (i, false, (lst (σ0.1 230) (σ0.1 218 22).toInt.toNat), (σ0.1 218 25).toInt.toNat) = some (some c) ∧ REL σ49.1 tx n c ∧ ((1 : Int32) = 0 ↔ c.2.1 = false)) ∧ (¬ σ49.1 218 14 = 0 → stp tx n x1 (i, false, (lst (σ0.1 230) (σ0.1 218 22).toInt.toNat), (σ0.1 218 25).toInt.toNat) = none) ∧ ZB σ49.1) ∧ (σ49.1 218 7 = σ0.1 218 7 ∧ σ49.1 218 9 = σ0.1 218 9 ∧ σ49.1 218 20 = σ0.1 218 20 ∧ σ49.1 218 25 = σ0.1 218 25) from ⟨by first | exact ⟨hK, ⟨m34.1, m34.2.1⟩, fun q => ⟨(m34.2.2.1 q).1.1, (tkE tx n i, false, decide (tkK tx n i = 40) :: (lst (σ0.1 230) (σ0.1 218 22).toInt.toNat), (σ0.1 218 25).toInt.toNat), (stp_o hpx).trans (if_neg (m34.2.2.1 q).2.1.1), ⟨⟨(m34.2.2.1 q).2.1.2, le1⟩, ⟨by first | exact ((m34.2.2.1 q).2.2.1.trans (by rw [k16]; rfl)).symm | exact ((m34.2.2.1 q).2.2.1.trans (by rw [k7, decide_eq_false (z50 w7.1)]; rfl)).symm, (m34.2.2.1 q).2.2.2⟩, by rw [g25_σ49], fun h => Bool.noConfusion (show false = true from h), fun _ => (m34.2.2.1 q).1.2⟩, ⟨fun _ => rfl, fun _ => rfl⟩⟩, fun q => (stp_o hpx).trans (if_pos (m34.2.2.2 q)), hB⟩ | exact absurd e7 n22 | exact absurd e22 n7 | exact absurd y196 n189 | exact ⟨hK, ⟨by (try simp only [g7_σ49, g9_σ49, g10_σ49, g11_σ49, g12_σ49, g13_σ49, g20_σ49, g22_σ49, g23_σ49, g24_σ49, g25_σ49]); omega, by (try simp only [g7_σ49, g9_σ49, g10_σ49, g11_σ49, g12_σ49, g13_σ49, g20_σ49, g22_σ49, g23_σ49, g24_σ49, g25_σ49]); omega⟩, fun q => absurd q (by (try simp only [g7_σ49, g9_σ49, g10_σ49, g11_σ49, g12_σ49, g13_σ49, g20_σ49, g22_σ49, g23_σ49, g24_σ49, g25_σ49]); exact n196), fun _ => st9, hB⟩ | exact ⟨hK, ⟨by (try simp only [g7_σ49, g9_σ49, g10_σ49, g11_σ49, g12_σ49, g13_σ49, g20_σ49, g22_σ49, g23_σ49, g24_σ49, g25_σ49]); omega, by omega⟩, fun _ => ⟨by (try simp only [g7_σ49, g9_σ49, g10_σ49, g11_σ49, g12_σ49, g13_σ49, g20_σ49, g22_σ49, g23_σ49, g24_σ49, g25_σ49]); exact ga9, _, st9, ⟨⟨RX_i g9_σ49 g10_σ49 g11_σ49 g12_σ49 g13_σ49 ((hT.2 224 (by decide)).trans tE) nE pK9, le9⟩, ⟨by rw [r230_σ49]; exact l201.2.symm, by rw [r230_σ49]; exact NP_le hNP l201.1⟩, by rw [g25_σ49], fun _ => ⟨h201, popP_i _⟩, fun h => Bool.noConfusion (show true = false from h)⟩, ⟨fun h => absurd h (by decide), fun h => Bool.noConfusion (show true = false from h)⟩⟩, fun q => absurd (by (try simp only [g7_σ49, g9_σ49, g10_σ49, g11_σ49, g12_σ49, g13_σ49, g20_σ49, g22_σ49, g23_σ49, g24_σ49, g25_σ49]); exact y196) q, hB⟩, g7_σ49, g9_σ49, g20_σ49, g25_σ49⟩)⟩
            · have qhc52 := hqv50.2 hc52
              have y196 := qhc52
              obtain ⟨P9, st9, pK9, ga9, le9⟩ : ∃ p, stp tx n x1 (i, false, (lst (σ0.1 230) (σ0.1 218 22).toInt.toNat), (σ0.1 218 25).toInt.toNat) = some (some (p, true, popP (lst (σ0.1 230) (σ0.1 218 22).toInt.toNat), (σ0.1 218 25).toInt.toNat)) ∧ TKV (σ46.1 218 11) (σ46.1 218 10) (σ46.1 218 12) (σ46.1 218 13) tx n p ∧ (σ0.1 218 11).toInt < (σ46.1 218 11).toInt ∧ p ≤ n := by first | exact ⟨_, (stp_n h0q k44).trans (if_pos (u51 y196).1.2), (u51 y196).2.2.2, (u51 y196).1.1, le1⟩ | (obtain ⟨j, fj, rj⟩ := (u127 y196).2; exact ⟨j, (stp_f h0q k122).trans (by rw [fj]; rfl), rj.2, (u127 y196).1, fam_le hi fj⟩) | exact ⟨_, stp_a h0q k137.1.1, k137.2.2, k137.1.2, le1⟩ | exact absurd y196 n189
              refine ok_gC rfl ?_
              refine ok_zbT (Q := fun V σ => (TOK σ.1 ∧ ZB σ.1 ∧ PIL σ.1 1 ∧ ((σ.1 218 22).toInt.toNat ≤ (σ49.1 218 22).toInt.toNat ∧ lst (σ49.1 230) (σ.1 218 22).toInt.toNat = popP (lst (σ49.1 230) (σ49.1 218 22).toInt.toNat)) ∧ ((σ.1 218 22).toInt ≤ 0 ∨ (rkI (σ49.1 230 ((σ.1 218 22) - 1).toNatClampNeg)).toInt < (3 : Int32).toInt)) ∧ (σ.1 218 7 = σ49.1 218 7 ∧ σ.1 218 9 = σ49.1 218 9 ∧ σ.1 218 10 = σ49.1 218 10 ∧ σ.1 218 11 = σ49.1 218 11 ∧ σ.1 218 12 = σ49.1 218 12 ∧ σ.1 218 13 = σ49.1 218 13 ∧ σ.1 218 14 = σ49.1 218 14 ∧ σ.1 218 15 = σ49.1 218 15 ∧ σ.1 218 20 = σ49.1 218 20 ∧ σ.1 218 25 = σ49.1 218 25)) hT (s_X12_settlesTo_r hN (hR.tr hT) (hK) (by rw [hT.2 224 (by decide)]; exact hY) (hB) (by (try simp only [g7_σ49, g9_σ49, g10_σ49, g11_σ49, g12_σ49, g13_σ49, g20_σ49, g22_σ49, g23_σ49, g24_σ49, g25_σ49]); exact ha) (by first | exact PIL_i g22_σ49 g23_σ49 g24_σ49 r230_σ49 hS h22 hd hd6 s57 | exact absurd y196 n189) (by decide) (by (try simp only [g7_σ49, g9_σ49, g10_σ49, g11_σ49, g12_σ49, g13_σ49, g20_σ49, g22_σ49, g23_σ49, g24_σ49, g25_σ49]); rw [r230_σ49]; exact hNP) (Or.inl (by decide))) (by decide) (fun v53 σ54 hOσ54 hT hqv53 => ?_)
              have hqv53 : (TOK σ54.1 ∧ ZB σ54.1 ∧ PIL σ54.1 1 ∧ ((σ54.1 218 22).toInt.toNat ≤ (σ49.1 218 22).toInt.toNat ∧ lst (σ49.1 230) (σ54.1 218 22).toInt.toNat = popP (lst (σ49.1 230) (σ49.1 218 22).toInt.toNat)) ∧ ((σ54.1 218 22).toInt ≤ 0 ∨ (rkI (σ49.1 230 ((σ54.1 218 22) - 1).toNatClampNeg)).toInt < (3 : Int32).toInt)) ∧ (σ54.1 218 7 = σ49.1 218 7 ∧ σ54.1 218 9 = σ49.1 218 9 ∧ σ54.1 218 10 = σ49.1 218 10 ∧ σ54.1 218 11 = σ49.1 218 11 ∧ σ54.1 218 12 = σ49.1 218 12 ∧ σ54.1 218 13 = σ49.1 218 13 ∧ σ54.1 218 14 = σ49.1 218 14 ∧ σ54.1 218 15 = σ49.1 218 15 ∧ σ54.1 218 20 = σ49.1 218 20 ∧ σ54.1 218 25 = σ49.1 218 25) := hqv53
              have hkv53 := hqv53
              have hqv53 := hqv53.1
              have r230_σ54 : σ54.1 230 = σ0.1 230 := (hOσ54.2 230 (by decide)).trans r230_σ49
              have hK : TOK σ54.1 := by first | exact hqv53.1 | exact hqv53.1.1 | exact TOK_p eσ54 (by decide) hK
              have hB : ZB σ54.1 := by first | exact hqv53.2.1 | exact hqv53.2.2.2.2.1 | exact ZB_s eσ54 hB
              try simp only [g7_σ49, g9_σ49, g10_σ49, g11_σ49, g12_σ49, g13_σ49, g20_σ49, g22_σ49, g23_σ49, g24_σ49, g25_σ49] at hqv53
              have g7_σ54 : σ54.1 218 7 = (σ0.1 218 7) := (hkv53.2.1).trans g7_σ49
              have g9_σ54 : σ54.1 218 9 = (σ0.1 218 9) := (hkv53.2.2.1).trans g9_σ49
              have g10_σ54 : σ54.1 218 10 = (σ46.1 218 10) := (hkv53.2.2.2.1).trans g10_σ49
              have g11_σ54 : σ54.1 218 11 = (σ46.1 218 11) := (hkv53.2.2.2.2.1).trans g11_σ49
              have g12_σ54 : σ54.1 218 12 = (σ46.1 218 12) := (hkv53.2.2.2.2.2.1).trans g12_σ49
              have g13_σ54 : σ54.1 218 13 = (σ46.1 218 13) := (hkv53.2.2.2.2.2.2.1).trans g13_σ49
              have g14_σ54 : σ54.1 218 14 = (σ49.1 218 14) := hkv53.2.2.2.2.2.2.2.1
              have g15_σ54 : σ54.1 218 15 = (σ49.1 218 15) := hkv53.2.2.2.2.2.2.2.2.1
              have g20_σ54 : σ54.1 218 20 = (σ0.1 218 20) := (hkv53.2.2.2.2.2.2.2.2.2.1).trans g20_σ49
              have g25_σ54 : σ54.1 218 25 = (σ0.1 218 25) := (hkv53.2.2.2.2.2.2.2.2.2.2).trans g25_σ49
              have h201 := hqv53.2.2.1
              have b201 := PIL_b hqv53.2.2.1 (by decide)
              have l201 := hqv53.2.2.2.1
              have o201 : σ49.1 230 = σ0.1 230 := (hOσ54.2 230 (by decide)).symm.trans r230_σ54
              rw [o201] at l201
              exact ok_rZ (Or.inr rfl) ⟨hT, (show (TOK σ54.1 ∧ ((σ0.1 218 11).toInt ≤ (σ54.1 218 11).toInt ∧ 0 ≤ (σ54.1 218 22).toInt ∧ (σ54.1 218 22).toInt ≤ 40) ∧ (σ54.1 218 14 = 0 → (σ0.1 218 11).toInt < (σ54.1 218 11).toInt ∧ ∃ c, stp tx n x1 (i, false, (lst (σ0.1 230) (σ0.1 218 22).toInt.toNat), (σ0.1 218 25).toInt.toNat) = some (some c) ∧ REL σ54.1 tx n c ∧ ((1 : Int32) = 0 ↔ c.2.1 = false)) ∧ (¬ σ54.1 218 14 = 0 → stp tx n x1 (i, false, (lst (σ0.1 230) (σ0.1 218 22).toInt.toNat), (σ0.1 218 25).toInt.toNat) = none) ∧ ZB σ54.1) ∧ (σ54.1 218 7 = σ0.1 218 7 ∧ σ54.1 218 9 = σ0.1 218 9 ∧ σ54.1 218 20 = σ0.1 218 20 ∧ σ54.1 218 25 = σ0.1 218 25) from ⟨by first | exact ⟨hK, ⟨m34.1, m34.2.1⟩, fun q => ⟨(m34.2.2.1 q).1.1, (tkE tx n i, false, decide (tkK tx n i = 40) :: (lst (σ0.1 230) (σ0.1 218 22).toInt.toNat), (σ0.1 218 25).toInt.toNat), (stp_o hpx).trans (if_neg (m34.2.2.1 q).2.1.1), ⟨⟨(m34.2.2.1 q).2.1.2, le1⟩, ⟨by first | exact ((m34.2.2.1 q).2.2.1.trans (by rw [k16]; rfl)).symm | exact ((m34.2.2.1 q).2.2.1.trans (by rw [k7, decide_eq_false (z50 w7.1)]; rfl)).symm, (m34.2.2.1 q).2.2.2⟩, by rw [g25_σ54], fun h => Bool.noConfusion (show false = true from h), fun _ => (m34.2.2.1 q).1.2⟩, ⟨fun _ => rfl, fun _ => rfl⟩⟩, fun q => (stp_o hpx).trans (if_pos (m34.2.2.2 q)), hB⟩ | exact absurd e7 n22 | exact absurd e22 n7 | exact absurd y196 n189 | exact ⟨hK, ⟨by (try simp only [g7_σ54, g9_σ54, g10_σ54, g11_σ54, g12_σ54, g13_σ54, g14_σ54, g15_σ54, g20_σ54, g25_σ54]); omega, by (try simp only [g7_σ54, g9_σ54, g10_σ54, g11_σ54, g12_σ54, g13_σ54, g14_σ54, g15_σ54, g20_σ54, g25_σ54]); omega⟩, fun q => absurd q (by (try simp only [g7_σ54, g9_σ54, g10_σ54, g11_σ54, g12_σ54, g13_σ54, g14_σ54, g15_σ54, g20_σ54, g25_σ54]); exact n196), fun _ => st9, hB⟩ | exact ⟨hK, ⟨by (try simp only [g7_σ54, g9_σ54, g10_σ54, g11_σ54, g12_σ54, g13_σ54, g14_σ54, g15_σ54, g20_σ54, g25_σ54]); omega, by omega⟩, fun _ => ⟨by (try simp only [g7_σ54, g9_σ54, g10_σ54, g11_σ54, g12_σ54, g13_σ54, g14_σ54, g15_σ54, g20_σ54, g25_σ54]); exact ga9, _, st9, ⟨⟨RX_i g9_σ54 g10_σ54 g11_σ54 g12_σ54 g13_σ54 ((hT.2 224 (by decide)).trans tE) nE pK9, le9⟩, ⟨by rw [r230_σ54]; exact l201.2.symm, by rw [r230_σ54]; exact NP_le hNP l201.1⟩, by rw [g25_σ54], fun _ => ⟨h201, popP_i _⟩, fun h => Bool.noConfusion (show true = false from h)⟩, ⟨fun h => absurd h (by decide), fun h => Bool.noConfusion (show true = false from h)⟩⟩, fun q => absurd (by (try simp only [g7_σ54, g9_σ54, g10_σ54, g11_σ54, g12_σ54, g13_σ54, g14_σ54, g15_σ54, g20_σ54, g25_σ54]); exact y196) q, hB⟩, g7_σ54, g9_σ54, g20_σ54, g25_σ54⟩)⟩
          · have k137 := t137 hc47
            refine ok_gC rfl ?_
            refine ok_zbT (Q := fun V σ => (TOK σ.1 ∧ ZB σ.1 ∧ σ.1 218 23 = σ46.1 218 23 + 1) ∧ (σ.1 218 7 = σ46.1 218 7 ∧ σ.1 218 9 = σ46.1 218 9 ∧ σ.1 218 10 = σ46.1 218 10 ∧ σ.1 218 11 = σ46.1 218 11 ∧ σ.1 218 12 = σ46.1 218 12 ∧ σ.1 218 13 = σ46.1 218 13 ∧ σ.1 218 14 = σ46.1 218 14 ∧ σ.1 218 15 = σ46.1 218 15 ∧ σ.1 218 20 = σ46.1 218 20 ∧ σ.1 218 22 = σ46.1 218 22 ∧ σ.1 218 24 = σ46.1 218 24 ∧ σ.1 218 25 = σ46.1 218 25)) hT (s_X12_pushesEmpty hN (hR.tr hT) (hK) (by rw [hT.2 224 (by decide)]; exact hY) (hB) (by (try simp only [g7_σ46, g9_σ46, g14_σ46, g15_σ46, g20_σ46, g22_σ46, g23_σ46, g24_σ46, g25_σ46]); omega)) (by decide) (fun v55 σ56 hOσ56 hT hqv55 => ?_)
            have hqv55 : (TOK σ56.1 ∧ ZB σ56.1 ∧ σ56.1 218 23 = σ46.1 218 23 + 1) ∧ (σ56.1 218 7 = σ46.1 218 7 ∧ σ56.1 218 9 = σ46.1 218 9 ∧ σ56.1 218 10 = σ46.1 218 10 ∧ σ56.1 218 11 = σ46.1 218 11 ∧ σ56.1 218 12 = σ46.1 218 12 ∧ σ56.1 218 13 = σ46.1 218 13 ∧ σ56.1 218 14 = σ46.1 218 14 ∧ σ56.1 218 15 = σ46.1 218 15 ∧ σ56.1 218 20 = σ46.1 218 20 ∧ σ56.1 218 22 = σ46.1 218 22 ∧ σ56.1 218 24 = σ46.1 218 24 ∧ σ56.1 218 25 = σ46.1 218 25) := hqv55
            have hkv55 := hqv55
            have hqv55 := hqv55.1
            have r230_σ56 : σ56.1 230 = σ0.1 230 := (hOσ56.2 230 (by decide)).trans r230_σ46
            have hK : TOK σ56.1 := by first | exact hqv55.1 | exact hqv55.1.1 | exact TOK_p eσ56 (by decide) hK
            have hB : ZB σ56.1 := by first | exact hqv55.2.1 | exact hqv55.2.2.2.2.1 | exact ZB_s eσ56 hB
            try simp only [g7_σ46, g9_σ46, g14_σ46, g15_σ46, g20_σ46, g22_σ46, g23_σ46, g24_σ46, g25_σ46] at hqv55
            have g7_σ56 : σ56.1 218 7 = (σ0.1 218 7) := (hkv55.2.1).trans g7_σ46
            have g9_σ56 : σ56.1 218 9 = (σ0.1 218 9) := (hkv55.2.2.1).trans g9_σ46
            have g10_σ56 : σ56.1 218 10 = (σ46.1 218 10) := hkv55.2.2.2.1
            have g11_σ56 : σ56.1 218 11 = (σ46.1 218 11) := hkv55.2.2.2.2.1
            have g12_σ56 : σ56.1 218 12 = (σ46.1 218 12) := hkv55.2.2.2.2.2.1
            have g13_σ56 : σ56.1 218 13 = (σ46.1 218 13) := hkv55.2.2.2.2.2.2.1
            have g14_σ56 : σ56.1 218 14 = (σ0.1 218 14) := (hkv55.2.2.2.2.2.2.2.1).trans g14_σ46
            have g15_σ56 : σ56.1 218 15 = (σ0.1 218 15) := (hkv55.2.2.2.2.2.2.2.2.1).trans g15_σ46
            have g20_σ56 : σ56.1 218 20 = (σ0.1 218 20) := (hkv55.2.2.2.2.2.2.2.2.2.1).trans g20_σ46
            have g22_σ56 : σ56.1 218 22 = (σ0.1 218 22) := (hkv55.2.2.2.2.2.2.2.2.2.2.1).trans g22_σ46
            have g24_σ56 : σ56.1 218 24 = (σ0.1 218 24) := (hkv55.2.2.2.2.2.2.2.2.2.2.2.1).trans g24_σ46
            have g25_σ56 : σ56.1 218 25 = (σ0.1 218 25) := (hkv55.2.2.2.2.2.2.2.2.2.2.2.2).trans g25_σ46
            have g57 := hqv55.2.2
            have s57 : (σ56.1 218 23).toInt = ((b8 + 1 : Nat) : Int) := by rw [g57, ti_add]; simp only [Int32.reduceToInt]; omega
            have p57 : ((σ56.1 218 23) - 1).toInt = (b8 : Int) := by rw [ti_sub, s57]; simp only [Int32.reduceToInt]; omega
            have m57 := p1024 p57 (by omega) (by omega)
            refine ok_lp (fun t : Int32 × zS => Tr [218, 226, 227, 228, 229, 230] σ0 (t.2) ∧ (0 ≤ (t.1).toInt) ∧ (TOK (t.2).1) ∧ (ZB (t.2).1) ∧ ((t.2).1 218 7 = (σ0.1 218 7)) ∧ ((t.2).1 218 9 = (σ0.1 218 9)) ∧ ((t.2).1 218 10 = (σ46.1 218 10)) ∧ ((t.2).1 218 11 = (σ46.1 218 11)) ∧ ((t.2).1 218 12 = (σ46.1 218 12)) ∧ ((t.2).1 218 13 = (σ46.1 218 13)) ∧ ((t.2).1 218 14 = (σ0.1 218 14)) ∧ ((t.2).1 218 15 = (σ0.1 218 15)) ∧ ((t.2).1 218 20 = (σ0.1 218 20)) ∧ ((t.2).1 218 22 = (σ0.1 218 22)) ∧ ((t.2).1 218 23 = (σ56.1 218 23)) ∧ ((t.2).1 218 24 = (σ0.1 218 24)) ∧ ((t.2).1 218 25 = (σ0.1 218 25)) ∧ ((t.2).1 230 = σ0.1 230)) (fun t : Int32 × zS => (1024 - (t.1).toInt).toNat) (fun again57 t hI ih150_57 => ?_) N _ (show Tr [218, 226, 227, 228, 229, 230] σ0 σ56 ∧ (0 ≤ (0 : Int32).toInt) ∧ (TOK σ56.1) ∧ (ZB σ56.1) ∧ (σ56.1 218 7 = (σ0.1 218 7)) ∧ (σ56.1 218 9 = (σ0.1 218 9)) ∧ (σ56.1 218 10 = (σ46.1 218 10)) ∧ (σ56.1 218 11 = (σ46.1 218 11)) ∧ (σ56.1 218 12 = (σ46.1 218 12)) ∧ (σ56.1 218 13 = (σ46.1 218 13)) ∧ (σ56.1 218 14 = (σ0.1 218 14)) ∧ (σ56.1 218 15 = (σ0.1 218 15)) ∧ (σ56.1 218 20 = (σ0.1 218 20)) ∧ (σ56.1 218 22 = (σ0.1 218 22)) ∧ (σ56.1 218 23 = (σ56.1 218 23)) ∧ (σ56.1 218 24 = (σ0.1 218 24)) ∧ (σ56.1 218 25 = (σ0.1 218 25)) ∧ (σ56.1 230 = σ0.1 230) from ⟨hT, (by decide), hK, hB, g7_σ56, g9_σ56, g10_σ56, g11_σ56, g12_σ56, g13_σ56, g14_σ56, g15_σ56, g20_σ56, g22_σ56, rfl, g24_σ56, g25_σ56, r230_σ56⟩) (show (1024 - (0 : Int32).toInt).toNat < N from (by simp only [Int32.reduceToInt]; omega))
            obtain ⟨x4_57, σ57⟩ := t
            have hI : Tr [218, 226, 227, 228, 229, 230] σ0 σ57 ∧ (0 ≤ x4_57.toInt) ∧ (TOK σ57.1) ∧ (ZB σ57.1) ∧ (σ57.1 218 7 = (σ0.1 218 7)) ∧ (σ57.1 218 9 = (σ0.1 218 9)) ∧ (σ57.1 218 10 = (σ46.1 218 10)) ∧ (σ57.1 218 11 = (σ46.1 218 11)) ∧ (σ57.1 218 12 = (σ46.1 218 12)) ∧ (σ57.1 218 13 = (σ46.1 218 13)) ∧ (σ57.1 218 14 = (σ0.1 218 14)) ∧ (σ57.1 218 15 = (σ0.1 218 15)) ∧ (σ57.1 218 20 = (σ0.1 218 20)) ∧ (σ57.1 218 22 = (σ0.1 218 22)) ∧ (σ57.1 218 23 = (σ56.1 218 23)) ∧ (σ57.1 218 24 = (σ0.1 218 24)) ∧ (σ57.1 218 25 = (σ0.1 218 25)) ∧ (σ57.1 230 = σ0.1 230) := hI
            obtain ⟨hT, hI57, hK, hB, g7_σ57, g9_σ57, g10_σ57, g11_σ57, g12_σ57, g13_σ57, g14_σ57, g15_σ57, g20_σ57, g22_σ57, g23_σ57, g24_σ57, g25_σ57, r230_σ57⟩ := hI
            rw [F_X12_readsPart_150.eq_1]
            refine ok_gIv rfl g20_σ57 ?_
            refine ok_if (fun hc59 => ?_) (fun hc59 => ?_)
            · rw [J_X12_readsPart_192.eq_1]
              refine ok_gC rfl ?_
              refine ok_zbX (Q := fun V => (V = 0 → ¬ σ57.1 218 14 = 0) ∧ (¬ V = 0 → σ57.1 218 14 = 0)) (x_X12_good) (fun v60 hqv60 => ?_)
              have hqv60 : (v60 = 0 → ¬ σ57.1 218 14 = 0) ∧ (¬ v60 = 0 → σ57.1 218 14 = 0) := hqv60
              try simp only [g7_σ57, g9_σ57, g10_σ57, g11_σ57, g12_σ57, g13_σ57, g14_σ57, g15_σ57, g20_σ57, g22_σ57, g23_σ57, g24_σ57, g25_σ57, hT.2 224 (by decide)] at hqv60
              refine ok_if (fun hc62 => ?_) (fun hc62 => ?_)
              · have qhc62 := hqv60.1 hc62
                have n196 := qhc62
                have st9 : stp tx n x1 (i, false, (lst (σ0.1 230) (σ0.1 218 22).toInt.toNat), (σ0.1 218 25).toInt.toNat) = none := by first | exact (stp_n h0q k44).trans (if_neg (f51 n196).2) | exact (stp_f h0q k122).trans (by rw [f127 n196]; rfl) | exact stp_z h0q m44 m122 i140.2 | exact absurd hg n196
                exact ok_rZ (Or.inr rfl) ⟨hT, (show (TOK σ57.1 ∧ ((σ0.1 218 11).toInt ≤ (σ57.1 218 11).toInt ∧ 0 ≤ (σ57.1 218 22).toInt ∧ (σ57.1 218 22).toInt ≤ 40) ∧ (σ57.1 218 14 = 0 → (σ0.1 218 11).toInt < (σ57.1 218 11).toInt ∧ ∃ c, stp tx n x1 (i, false, (lst (σ0.1 230) (σ0.1 218 22).toInt.toNat), (σ0.1 218 25).toInt.toNat) = some (some c) ∧ REL σ57.1 tx n c ∧ ((1 : Int32) = 0 ↔ c.2.1 = false)) ∧ (¬ σ57.1 218 14 = 0 → stp tx n x1 (i, false, (lst (σ0.1 230) (σ0.1 218 22).toInt.toNat), (σ0.1 218 25).toInt.toNat) = none) ∧ ZB σ57.1) ∧ (σ57.1 218 7 = σ0.1 218 7 ∧ σ57.1 218 9 = σ0.1 218 9 ∧ σ57.1 218 20 = σ0.1 218 20 ∧ σ57.1 218 25 = σ0.1 218 25) from ⟨by first | exact ⟨hK, ⟨m34.1, m34.2.1⟩, fun q => ⟨(m34.2.2.1 q).1.1, (tkE tx n i, false, decide (tkK tx n i = 40) :: (lst (σ0.1 230) (σ0.1 218 22).toInt.toNat), (σ0.1 218 25).toInt.toNat), (stp_o hpx).trans (if_neg (m34.2.2.1 q).2.1.1), ⟨⟨(m34.2.2.1 q).2.1.2, le1⟩, ⟨by first | exact ((m34.2.2.1 q).2.2.1.trans (by rw [k16]; rfl)).symm | exact ((m34.2.2.1 q).2.2.1.trans (by rw [k7, decide_eq_false (z50 w7.1)]; rfl)).symm, (m34.2.2.1 q).2.2.2⟩, by rw [g25_σ57], fun h => Bool.noConfusion (show false = true from h), fun _ => (m34.2.2.1 q).1.2⟩, ⟨fun _ => rfl, fun _ => rfl⟩⟩, fun q => (stp_o hpx).trans (if_pos (m34.2.2.2 q)), hB⟩ | exact absurd e7 n22 | exact absurd e22 n7 | exact absurd y196 n189 | exact ⟨hK, ⟨by (try simp only [g7_σ57, g9_σ57, g10_σ57, g11_σ57, g12_σ57, g13_σ57, g14_σ57, g15_σ57, g20_σ57, g22_σ57, g23_σ57, g24_σ57, g25_σ57]); omega, by (try simp only [g7_σ57, g9_σ57, g10_σ57, g11_σ57, g12_σ57, g13_σ57, g14_σ57, g15_σ57, g20_σ57, g22_σ57, g23_σ57, g24_σ57, g25_σ57]); omega⟩, fun q => absurd q (by (try simp only [g7_σ57, g9_σ57, g10_σ57, g11_σ57, g12_σ57, g13_σ57, g14_σ57, g15_σ57, g20_σ57, g22_σ57, g23_σ57, g24_σ57, g25_σ57]); exact n196), fun _ => st9, hB⟩ | exact ⟨hK, ⟨by (try simp only [g7_σ57, g9_σ57, g10_σ57, g11_σ57, g12_σ57, g13_σ57, g14_σ57, g15_σ57, g20_σ57, g22_σ57, g23_σ57, g24_σ57, g25_σ57]); omega, by omega⟩, fun _ => ⟨by (try simp only [g7_σ57, g9_σ57, g10_σ57, g11_σ57, g12_σ57, g13_σ57, g14_σ57, g15_σ57, g20_σ57, g22_σ57, g23_σ57, g24_σ57, g25_σ57]); exact ga9, _, st9, ⟨⟨RX_i g9_σ57 g10_σ57 g11_σ57 g12_σ57 g13_σ57 ((hT.2 224 (by decide)).trans tE) nE pK9, le9⟩, ⟨by rw [r230_σ57]; exact l201.2.symm, by rw [r230_σ57]; exact NP_le hNP l201.1⟩, by rw [g25_σ57], fun _ => ⟨h201, popP_i _⟩, fun h => Bool.noConfusion (show true = false from h)⟩, ⟨fun h => absurd h (by decide), fun h => Bool.noConfusion (show true = false from h)⟩⟩, fun q => absurd (by (try simp only [g7_σ57, g9_σ57, g10_σ57, g11_σ57, g12_σ57, g13_σ57, g14_σ57, g15_σ57, g20_σ57, g22_σ57, g23_σ57, g24_σ57, g25_σ57]); exact y196) q, hB⟩, g7_σ57, g9_σ57, g20_σ57, g25_σ57⟩)⟩
              · have qhc62 := hqv60.2 hc62
                have y196 := qhc62
                obtain ⟨P9, st9, pK9, ga9, le9⟩ : ∃ p, stp tx n x1 (i, false, (lst (σ0.1 230) (σ0.1 218 22).toInt.toNat), (σ0.1 218 25).toInt.toNat) = some (some (p, true, popP (lst (σ0.1 230) (σ0.1 218 22).toInt.toNat), (σ0.1 218 25).toInt.toNat)) ∧ TKV (σ46.1 218 11) (σ46.1 218 10) (σ46.1 218 12) (σ46.1 218 13) tx n p ∧ (σ0.1 218 11).toInt < (σ46.1 218 11).toInt ∧ p ≤ n := by first | exact ⟨_, (stp_n h0q k44).trans (if_pos (u51 y196).1.2), (u51 y196).2.2.2, (u51 y196).1.1, le1⟩ | (obtain ⟨j, fj, rj⟩ := (u127 y196).2; exact ⟨j, (stp_f h0q k122).trans (by rw [fj]; rfl), rj.2, (u127 y196).1, fam_le hi fj⟩) | exact ⟨_, stp_a h0q k137.1.1, k137.2.2, k137.1.2, le1⟩ | exact absurd y196 n189
                refine ok_gC rfl ?_
                refine ok_zbT (Q := fun V σ => (TOK σ.1 ∧ ZB σ.1 ∧ PIL σ.1 1 ∧ ((σ.1 218 22).toInt.toNat ≤ (σ57.1 218 22).toInt.toNat ∧ lst (σ57.1 230) (σ.1 218 22).toInt.toNat = popP (lst (σ57.1 230) (σ57.1 218 22).toInt.toNat)) ∧ ((σ.1 218 22).toInt ≤ 0 ∨ (rkI (σ57.1 230 ((σ.1 218 22) - 1).toNatClampNeg)).toInt < (3 : Int32).toInt)) ∧ (σ.1 218 7 = σ57.1 218 7 ∧ σ.1 218 9 = σ57.1 218 9 ∧ σ.1 218 10 = σ57.1 218 10 ∧ σ.1 218 11 = σ57.1 218 11 ∧ σ.1 218 12 = σ57.1 218 12 ∧ σ.1 218 13 = σ57.1 218 13 ∧ σ.1 218 14 = σ57.1 218 14 ∧ σ.1 218 15 = σ57.1 218 15 ∧ σ.1 218 20 = σ57.1 218 20 ∧ σ.1 218 25 = σ57.1 218 25)) hT (s_X12_settlesTo_r hN (hR.tr hT) (hK) (by rw [hT.2 224 (by decide)]; exact hY) (hB) (by (try simp only [g7_σ57, g9_σ57, g10_σ57, g11_σ57, g12_σ57, g13_σ57, g14_σ57, g15_σ57, g20_σ57, g22_σ57, g23_σ57, g24_σ57, g25_σ57]); exact ha) (by first | exact PIL_i g22_σ57 g23_σ57 g24_σ57 r230_σ57 hS h22 hd hd6 s57 | exact absurd y196 n189) (by decide) (by (try simp only [g7_σ57, g9_σ57, g10_σ57, g11_σ57, g12_σ57, g13_σ57, g14_σ57, g15_σ57, g20_σ57, g22_σ57, g23_σ57, g24_σ57, g25_σ57]); rw [r230_σ57]; exact hNP) (Or.inl (by decide))) (by decide) (fun v63 σ64 hOσ64 hT hqv63 => ?_)
                have hqv63 : (TOK σ64.1 ∧ ZB σ64.1 ∧ PIL σ64.1 1 ∧ ((σ64.1 218 22).toInt.toNat ≤ (σ57.1 218 22).toInt.toNat ∧ lst (σ57.1 230) (σ64.1 218 22).toInt.toNat = popP (lst (σ57.1 230) (σ57.1 218 22).toInt.toNat)) ∧ ((σ64.1 218 22).toInt ≤ 0 ∨ (rkI (σ57.1 230 ((σ64.1 218 22) - 1).toNatClampNeg)).toInt < (3 : Int32).toInt)) ∧ (σ64.1 218 7 = σ57.1 218 7 ∧ σ64.1 218 9 = σ57.1 218 9 ∧ σ64.1 218 10 = σ57.1 218 10 ∧ σ64.1 218 11 = σ57.1 218 11 ∧ σ64.1 218 12 = σ57.1 218 12 ∧ σ64.1 218 13 = σ57.1 218 13 ∧ σ64.1 218 14 = σ57.1 218 14 ∧ σ64.1 218 15 = σ57.1 218 15 ∧ σ64.1 218 20 = σ57.1 218 20 ∧ σ64.1 218 25 = σ57.1 218 25) := hqv63
                have hkv63 := hqv63
                have hqv63 := hqv63.1
                have r230_σ64 : σ64.1 230 = σ0.1 230 := (hOσ64.2 230 (by decide)).trans r230_σ57
                have hK : TOK σ64.1 := by first | exact hqv63.1 | exact hqv63.1.1 | exact TOK_p eσ64 (by decide) hK
                have hB : ZB σ64.1 := by first | exact hqv63.2.1 | exact hqv63.2.2.2.2.1 | exact ZB_s eσ64 hB
                try simp only [g7_σ57, g9_σ57, g10_σ57, g11_σ57, g12_σ57, g13_σ57, g14_σ57, g15_σ57, g20_σ57, g22_σ57, g23_σ57, g24_σ57, g25_σ57] at hqv63
                have g7_σ64 : σ64.1 218 7 = (σ0.1 218 7) := (hkv63.2.1).trans g7_σ57
                have g9_σ64 : σ64.1 218 9 = (σ0.1 218 9) := (hkv63.2.2.1).trans g9_σ57
                have g10_σ64 : σ64.1 218 10 = (σ46.1 218 10) := (hkv63.2.2.2.1).trans g10_σ57
                have g11_σ64 : σ64.1 218 11 = (σ46.1 218 11) := (hkv63.2.2.2.2.1).trans g11_σ57
                have g12_σ64 : σ64.1 218 12 = (σ46.1 218 12) := (hkv63.2.2.2.2.2.1).trans g12_σ57
                have g13_σ64 : σ64.1 218 13 = (σ46.1 218 13) := (hkv63.2.2.2.2.2.2.1).trans g13_σ57
                have g14_σ64 : σ64.1 218 14 = (σ0.1 218 14) := (hkv63.2.2.2.2.2.2.2.1).trans g14_σ57
                have g15_σ64 : σ64.1 218 15 = (σ0.1 218 15) := (hkv63.2.2.2.2.2.2.2.2.1).trans g15_σ57
                have g20_σ64 : σ64.1 218 20 = (σ0.1 218 20) := (hkv63.2.2.2.2.2.2.2.2.2.1).trans g20_σ57
                have g25_σ64 : σ64.1 218 25 = (σ0.1 218 25) := (hkv63.2.2.2.2.2.2.2.2.2.2).trans g25_σ57
                have h201 := hqv63.2.2.1
                have b201 := PIL_b hqv63.2.2.1 (by decide)
                have l201 := hqv63.2.2.2.1
                have o201 : σ57.1 230 = σ0.1 230 := (hOσ64.2 230 (by decide)).symm.trans r230_σ64
                rw [o201] at l201
                exact ok_rZ (Or.inr rfl) ⟨hT, (show (TOK σ64.1 ∧ ((σ0.1 218 11).toInt ≤ (σ64.1 218 11).toInt ∧ 0 ≤ (σ64.1 218 22).toInt ∧ (σ64.1 218 22).toInt ≤ 40) ∧ (σ64.1 218 14 = 0 → (σ0.1 218 11).toInt < (σ64.1 218 11).toInt ∧ ∃ c, stp tx n x1 (i, false, (lst (σ0.1 230) (σ0.1 218 22).toInt.toNat), (σ0.1 218 25).toInt.toNat) = some (some c) ∧ REL σ64.1 tx n c ∧ ((1 : Int32) = 0 ↔ c.2.1 = false)) ∧ (¬ σ64.1 218 14 = 0 → stp tx n x1 (i, false, (lst (σ0.1 230) (σ0.1 218 22).toInt.toNat), (σ0.1 218 25).toInt.toNat) = none) ∧ ZB σ64.1) ∧ (σ64.1 218 7 = σ0.1 218 7 ∧ σ64.1 218 9 = σ0.1 218 9 ∧ σ64.1 218 20 = σ0.1 218 20 ∧ σ64.1 218 25 = σ0.1 218 25) from ⟨by first | exact ⟨hK, ⟨m34.1, m34.2.1⟩, fun q => ⟨(m34.2.2.1 q).1.1, (tkE tx n i, false, decide (tkK tx n i = 40) :: (lst (σ0.1 230) (σ0.1 218 22).toInt.toNat), (σ0.1 218 25).toInt.toNat), (stp_o hpx).trans (if_neg (m34.2.2.1 q).2.1.1), ⟨⟨(m34.2.2.1 q).2.1.2, le1⟩, ⟨by first | exact ((m34.2.2.1 q).2.2.1.trans (by rw [k16]; rfl)).symm | exact ((m34.2.2.1 q).2.2.1.trans (by rw [k7, decide_eq_false (z50 w7.1)]; rfl)).symm, (m34.2.2.1 q).2.2.2⟩, by rw [g25_σ64], fun h => Bool.noConfusion (show false = true from h), fun _ => (m34.2.2.1 q).1.2⟩, ⟨fun _ => rfl, fun _ => rfl⟩⟩, fun q => (stp_o hpx).trans (if_pos (m34.2.2.2 q)), hB⟩ | exact absurd e7 n22 | exact absurd e22 n7 | exact absurd y196 n189 | exact ⟨hK, ⟨by (try simp only [g7_σ64, g9_σ64, g10_σ64, g11_σ64, g12_σ64, g13_σ64, g14_σ64, g15_σ64, g20_σ64, g25_σ64]); omega, by (try simp only [g7_σ64, g9_σ64, g10_σ64, g11_σ64, g12_σ64, g13_σ64, g14_σ64, g15_σ64, g20_σ64, g25_σ64]); omega⟩, fun q => absurd q (by (try simp only [g7_σ64, g9_σ64, g10_σ64, g11_σ64, g12_σ64, g13_σ64, g14_σ64, g15_σ64, g20_σ64, g25_σ64]); exact n196), fun _ => st9, hB⟩ | exact ⟨hK, ⟨by (try simp only [g7_σ64, g9_σ64, g10_σ64, g11_σ64, g12_σ64, g13_σ64, g14_σ64, g15_σ64, g20_σ64, g25_σ64]); omega, by omega⟩, fun _ => ⟨by (try simp only [g7_σ64, g9_σ64, g10_σ64, g11_σ64, g12_σ64, g13_σ64, g14_σ64, g15_σ64, g20_σ64, g25_σ64]); exact ga9, _, st9, ⟨⟨RX_i g9_σ64 g10_σ64 g11_σ64 g12_σ64 g13_σ64 ((hT.2 224 (by decide)).trans tE) nE pK9, le9⟩, ⟨by rw [r230_σ64]; exact l201.2.symm, by rw [r230_σ64]; exact NP_le hNP l201.1⟩, by rw [g25_σ64], fun _ => ⟨h201, popP_i _⟩, fun h => Bool.noConfusion (show true = false from h)⟩, ⟨fun h => absurd h (by decide), fun h => Bool.noConfusion (show true = false from h)⟩⟩, fun q => absurd (by (try simp only [g7_σ64, g9_σ64, g10_σ64, g11_σ64, g12_σ64, g13_σ64, g14_σ64, g15_σ64, g20_σ64, g25_σ64]); exact y196) q, hB⟩, g7_σ64, g9_σ64, g20_σ64, g25_σ64⟩)⟩
            · have l68 := hc59
              rw [Int32.le_iff_toInt_le] at l68
              try simp only [Int32.reduceToInt] at l68
              have s68 : (x4_57 + 1).toInt = x4_57.toInt + 1 := by rw [ti_add]; simp only [Int32.reduceToInt]; omega
              refine ok_gR (v := 226) hT rfl (hR 218 16 rfl) ?_
              refine ok_gIv rfl g23_σ57 ?_
              refine ok_s16 hT rfl (by decide) (by rw [ti_add, m57]; omega) (by rw [ti_add, m57]; omega) (fun σ67 eσ67 hOσ67 hT => ?_)
              have r230_σ67 : σ67.1 230 = σ0.1 230 := (hOσ67.2 230 (by decide)).trans r230_σ57
              have hK : TOK σ67.1 := TOK_tr hOσ67 (by decide) (by decide) hK
              have hB : ZB σ67.1 := by first | exact HQ.2.1 | exact HQ.2.2.2.2.1 | exact ZB_s eσ67 hB
              have g7_σ67 : σ67.1 218 7 = (σ0.1 218 7) := (congrFun (hOσ67.2 218 (by decide)) 7).trans g7_σ57
              have g9_σ67 : σ67.1 218 9 = (σ0.1 218 9) := (congrFun (hOσ67.2 218 (by decide)) 9).trans g9_σ57
              have g10_σ67 : σ67.1 218 10 = (σ46.1 218 10) := (congrFun (hOσ67.2 218 (by decide)) 10).trans g10_σ57
              have g11_σ67 : σ67.1 218 11 = (σ46.1 218 11) := (congrFun (hOσ67.2 218 (by decide)) 11).trans g11_σ57
              have g12_σ67 : σ67.1 218 12 = (σ46.1 218 12) := (congrFun (hOσ67.2 218 (by decide)) 12).trans g12_σ57
              have g13_σ67 : σ67.1 218 13 = (σ46.1 218 13) := (congrFun (hOσ67.2 218 (by decide)) 13).trans g13_σ57
              have g14_σ67 : σ67.1 218 14 = (σ0.1 218 14) := (congrFun (hOσ67.2 218 (by decide)) 14).trans g14_σ57
              have g15_σ67 : σ67.1 218 15 = (σ0.1 218 15) := (congrFun (hOσ67.2 218 (by decide)) 15).trans g15_σ57
              have g20_σ67 : σ67.1 218 20 = (σ0.1 218 20) := (congrFun (hOσ67.2 218 (by decide)) 20).trans g20_σ57
              have g22_σ67 : σ67.1 218 22 = (σ0.1 218 22) := (congrFun (hOσ67.2 218 (by decide)) 22).trans g22_σ57
              have g23_σ67 : σ67.1 218 23 = (σ56.1 218 23) := (congrFun (hOσ67.2 218 (by decide)) 23).trans g23_σ57
              have g24_σ67 : σ67.1 218 24 = (σ0.1 218 24) := (congrFun (hOσ67.2 218 (by decide)) 24).trans g24_σ57
              have g25_σ67 : σ67.1 218 25 = (σ0.1 218 25) := (congrFun (hOσ67.2 218 (by decide)) 25).trans g25_σ57
              exact ih150_57 (x4_57 + 1, σ67) (show Tr [218, 226, 227, 228, 229, 230] σ0 σ67 ∧ (0 ≤ (x4_57 + 1).toInt) ∧ (TOK σ67.1) ∧ (ZB σ67.1) ∧ (σ67.1 218 7 = (σ0.1 218 7)) ∧ (σ67.1 218 9 = (σ0.1 218 9)) ∧ (σ67.1 218 10 = (σ46.1 218 10)) ∧ (σ67.1 218 11 = (σ46.1 218 11)) ∧ (σ67.1 218 12 = (σ46.1 218 12)) ∧ (σ67.1 218 13 = (σ46.1 218 13)) ∧ (σ67.1 218 14 = (σ0.1 218 14)) ∧ (σ67.1 218 15 = (σ0.1 218 15)) ∧ (σ67.1 218 20 = (σ0.1 218 20)) ∧ (σ67.1 218 22 = (σ0.1 218 22)) ∧ (σ67.1 218 23 = (σ56.1 218 23)) ∧ (σ67.1 218 24 = (σ0.1 218 24)) ∧ (σ67.1 218 25 = (σ0.1 218 25)) ∧ (σ67.1 230 = σ0.1 230) from ⟨hT, (by rw [s68]; omega), hK, hB, g7_σ67, g9_σ67, g10_σ67, g11_σ67, g12_σ67, g13_σ67, g14_σ67, g15_σ67, g20_σ67, g22_σ67, g23_σ67, g24_σ67, g25_σ67, r230_σ67⟩) (show (1024 - (x4_57 + 1).toInt).toNat < (1024 - x4_57.toInt).toNat from (by rw [s68]; omega))
  · have n7 := hc3
    have w7 := hqv1.resolve_left (fun q => hc3 q.1)
    have k7 : tkK tx n i = 1 := by obtain ⟨k, _, hw⟩ := w7.2; exact hw.1
    rw [J_X12_readsPart_19.eq_1]
    refine ok_if (fun hc68 => ?_) (fun hc68 => ?_)
    · have e22 := hc68
      refine ok_gC rfl ?_
      refine ok_zbT (Q := fun V σ => (TOK σ.1 ∧ (σ0.1 218 11).toInt ≤ (σ.1 218 11).toInt ∧ (0 ≤ (σ.1 218 22).toInt ∧ (σ.1 218 22).toInt ≤ 40) ∧ (σ.1 218 14 = 0 → ((σ0.1 218 11).toInt < (σ.1 218 11).toInt ∧ PIL σ.1 0) ∧ (¬ (lst (σ0.1 230) (σ0.1 218 22).toInt.toNat).length = 6 ∧ RX σ.1 tx n (tkE tx n i)) ∧ lst (σ.1 230) (σ.1 218 22).toInt.toNat = decide ((100 : Int32) = 100) :: (lst (σ0.1 230) (σ0.1 218 22).toInt.toNat) ∧ NP (σ.1 230) (σ.1 218 22).toInt.toNat) ∧ (¬ σ.1 218 14 = 0 → (lst (σ0.1 230) (σ0.1 218 22).toInt.toNat).length = 6)) ∧ (σ.1 218 7 = σ0.1 218 7 ∧ σ.1 218 9 = σ0.1 218 9 ∧ σ.1 218 20 = σ0.1 218 20 ∧ σ.1 218 23 = σ0.1 218 23 ∧ σ.1 218 25 = σ0.1 218 25)) hT (s_X12_opens_r hN (hR.tr hT) (hK) (by rw [hT.2 224 (by decide)]; exact hY) (RX_i rfl rfl rfl rfl rfl ((hT.2 224 (by decide)).trans tE) nE pK) (hg) (hP) (by first | decide | (have w8 := w7.1; rw [ti_add]; simp only [Int32.reduceToInt]; omega) | exact absurd e7 n22) (by first | (rw [pK.2.1, k7]; decide) | (rw [e16]; decide)) (hNP)) (by decide) (fun v69 σ70 hOσ70 hT hqv69 => ?_)
      have hqv69 : (TOK σ70.1 ∧ (σ0.1 218 11).toInt ≤ (σ70.1 218 11).toInt ∧ (0 ≤ (σ70.1 218 22).toInt ∧ (σ70.1 218 22).toInt ≤ 40) ∧ (σ70.1 218 14 = 0 → ((σ0.1 218 11).toInt < (σ70.1 218 11).toInt ∧ PIL σ70.1 0) ∧ (¬ (lst (σ0.1 230) (σ0.1 218 22).toInt.toNat).length = 6 ∧ RX σ70.1 tx n (tkE tx n i)) ∧ lst (σ70.1 230) (σ70.1 218 22).toInt.toNat = decide ((100 : Int32) = 100) :: (lst (σ0.1 230) (σ0.1 218 22).toInt.toNat) ∧ NP (σ70.1 230) (σ70.1 218 22).toInt.toNat) ∧ (¬ σ70.1 218 14 = 0 → (lst (σ0.1 230) (σ0.1 218 22).toInt.toNat).length = 6)) ∧ (σ70.1 218 7 = σ0.1 218 7 ∧ σ70.1 218 9 = σ0.1 218 9 ∧ σ70.1 218 20 = σ0.1 218 20 ∧ σ70.1 218 23 = σ0.1 218 23 ∧ σ70.1 218 25 = σ0.1 218 25) := hqv69
      have hkv69 := hqv69
      have hqv69 := hqv69.1
      have hK : TOK σ70.1 := by first | exact hqv69.1 | exact hqv69.1.1 | exact TOK_p eσ70 (by decide) hK
      have hB : ZB σ70.1 := ZB.tr hOσ70 (by decide) hB
      have g7_σ70 : σ70.1 218 7 = (σ0.1 218 7) := hkv69.2.1
      have g9_σ70 : σ70.1 218 9 = (σ0.1 218 9) := hkv69.2.2.1
      have g20_σ70 : σ70.1 218 20 = (σ0.1 218 20) := hkv69.2.2.2.1
      have g23_σ70 : σ70.1 218 23 = (σ0.1 218 23) := hkv69.2.2.2.2.1
      have g25_σ70 : σ70.1 218 25 = (σ0.1 218 25) := hkv69.2.2.2.2.2
      have m34 := hqv69.2
      have hpx : isPx tx n i ∨ tkK tx n i = 40 := by first | exact Or.inl w7.2 | exact Or.inr k16
      exact ok_rZ (Or.inl rfl) ⟨hT, (show (TOK σ70.1 ∧ ((σ0.1 218 11).toInt ≤ (σ70.1 218 11).toInt ∧ 0 ≤ (σ70.1 218 22).toInt ∧ (σ70.1 218 22).toInt ≤ 40) ∧ (σ70.1 218 14 = 0 → (σ0.1 218 11).toInt < (σ70.1 218 11).toInt ∧ ∃ c, stp tx n x1 (i, false, (lst (σ0.1 230) (σ0.1 218 22).toInt.toNat), (σ0.1 218 25).toInt.toNat) = some (some c) ∧ REL σ70.1 tx n c ∧ ((0 : Int32) = 0 ↔ c.2.1 = false)) ∧ (¬ σ70.1 218 14 = 0 → stp tx n x1 (i, false, (lst (σ0.1 230) (σ0.1 218 22).toInt.toNat), (σ0.1 218 25).toInt.toNat) = none) ∧ ZB σ70.1) ∧ (σ70.1 218 7 = σ0.1 218 7 ∧ σ70.1 218 9 = σ0.1 218 9 ∧ σ70.1 218 20 = σ0.1 218 20 ∧ σ70.1 218 25 = σ0.1 218 25) from ⟨by first | exact ⟨hK, ⟨m34.1, m34.2.1⟩, fun q => ⟨(m34.2.2.1 q).1.1, (tkE tx n i, false, decide (tkK tx n i = 40) :: (lst (σ0.1 230) (σ0.1 218 22).toInt.toNat), (σ0.1 218 25).toInt.toNat), (stp_o hpx).trans (if_neg (m34.2.2.1 q).2.1.1), ⟨⟨(m34.2.2.1 q).2.1.2, le1⟩, ⟨by first | exact ((m34.2.2.1 q).2.2.1.trans (by rw [k16]; rfl)).symm | exact ((m34.2.2.1 q).2.2.1.trans (by rw [k7, decide_eq_false (z50 w7.1)]; rfl)).symm, (m34.2.2.1 q).2.2.2⟩, by rw [g25_σ70], fun h => Bool.noConfusion (show false = true from h), fun _ => (m34.2.2.1 q).1.2⟩, ⟨fun _ => rfl, fun _ => rfl⟩⟩, fun q => (stp_o hpx).trans (if_pos (m34.2.2.2 q)), hB⟩ | exact absurd e7 n22 | exact absurd e22 n7 | exact absurd y196 n189 | exact ⟨hK, ⟨by (try simp only [g7_σ70, g9_σ70, g20_σ70, g23_σ70, g25_σ70]); omega, by (try simp only [g7_σ70, g9_σ70, g20_σ70, g23_σ70, g25_σ70]); omega⟩, fun q => absurd q (by (try simp only [g7_σ70, g9_σ70, g20_σ70, g23_σ70, g25_σ70]); exact n196), fun _ => st9, hB⟩ | exact ⟨hK, ⟨by (try simp only [g7_σ70, g9_σ70, g20_σ70, g23_σ70, g25_σ70]); omega, by omega⟩, fun _ => ⟨by (try simp only [g7_σ70, g9_σ70, g20_σ70, g23_σ70, g25_σ70]); exact ga9, _, st9, ⟨⟨RX_i g9_σ70 rfl rfl rfl rfl ((hT.2 224 (by decide)).trans tE) nE pK9, le9⟩, ⟨by rw [rfl]; exact l201.2.symm, by rw [rfl]; exact NP_le hNP l201.1⟩, by rw [g25_σ70], fun _ => ⟨h201, popP_i _⟩, fun h => Bool.noConfusion (show true = false from h)⟩, ⟨fun h => absurd h (by decide), fun h => Bool.noConfusion (show true = false from h)⟩⟩, fun q => absurd (by (try simp only [g7_σ70, g9_σ70, g20_σ70, g23_σ70, g25_σ70]); exact y196) q, hB⟩, g7_σ70, g9_σ70, g20_σ70, g25_σ70⟩)⟩
    · have n22 := hc68
      refine ok_gC rfl ?_
      refine ok_zbT (Q := fun V σ => (TOK σ.1 ∧ (σ0.1 218 11).toInt ≤ (σ.1 218 11).toInt ∧ (0 ≤ (σ.1 218 22).toInt ∧ (σ.1 218 22).toInt ≤ 40) ∧ (σ.1 218 14 = 0 → ((σ0.1 218 11).toInt < (σ.1 218 11).toInt ∧ PIL σ.1 0) ∧ (¬ (lst (σ0.1 230) (σ0.1 218 22).toInt.toNat).length = 6 ∧ RX σ.1 tx n (tkE tx n i)) ∧ lst (σ.1 230) (σ.1 218 22).toInt.toNat = decide ((50 + v1) = 100) :: (lst (σ0.1 230) (σ0.1 218 22).toInt.toNat) ∧ NP (σ.1 230) (σ.1 218 22).toInt.toNat) ∧ (¬ σ.1 218 14 = 0 → (lst (σ0.1 230) (σ0.1 218 22).toInt.toNat).length = 6)) ∧ (σ.1 218 7 = σ0.1 218 7 ∧ σ.1 218 9 = σ0.1 218 9 ∧ σ.1 218 20 = σ0.1 218 20 ∧ σ.1 218 23 = σ0.1 218 23 ∧ σ.1 218 25 = σ0.1 218 25)) hT (s_X12_opens_r hN (hR.tr hT) (hK) (by rw [hT.2 224 (by decide)]; exact hY) (RX_i rfl rfl rfl rfl rfl ((hT.2 224 (by decide)).trans tE) nE pK) (hg) (hP) (by first | decide | (have w8 := w7.1; rw [ti_add]; simp only [Int32.reduceToInt]; omega) | exact absurd e7 n22) (by first | (rw [pK.2.1, k7]; decide) | (rw [e16]; decide)) (hNP)) (by decide) (fun v71 σ72 hOσ72 hT hqv71 => ?_)
      have hqv71 : (TOK σ72.1 ∧ (σ0.1 218 11).toInt ≤ (σ72.1 218 11).toInt ∧ (0 ≤ (σ72.1 218 22).toInt ∧ (σ72.1 218 22).toInt ≤ 40) ∧ (σ72.1 218 14 = 0 → ((σ0.1 218 11).toInt < (σ72.1 218 11).toInt ∧ PIL σ72.1 0) ∧ (¬ (lst (σ0.1 230) (σ0.1 218 22).toInt.toNat).length = 6 ∧ RX σ72.1 tx n (tkE tx n i)) ∧ lst (σ72.1 230) (σ72.1 218 22).toInt.toNat = decide ((50 + v1) = 100) :: (lst (σ0.1 230) (σ0.1 218 22).toInt.toNat) ∧ NP (σ72.1 230) (σ72.1 218 22).toInt.toNat) ∧ (¬ σ72.1 218 14 = 0 → (lst (σ0.1 230) (σ0.1 218 22).toInt.toNat).length = 6)) ∧ (σ72.1 218 7 = σ0.1 218 7 ∧ σ72.1 218 9 = σ0.1 218 9 ∧ σ72.1 218 20 = σ0.1 218 20 ∧ σ72.1 218 23 = σ0.1 218 23 ∧ σ72.1 218 25 = σ0.1 218 25) := hqv71
      have hkv71 := hqv71
      have hqv71 := hqv71.1
      have hK : TOK σ72.1 := by first | exact hqv71.1 | exact hqv71.1.1 | exact TOK_p eσ72 (by decide) hK
      have hB : ZB σ72.1 := ZB.tr hOσ72 (by decide) hB
      have g7_σ72 : σ72.1 218 7 = (σ0.1 218 7) := hkv71.2.1
      have g9_σ72 : σ72.1 218 9 = (σ0.1 218 9) := hkv71.2.2.1
      have g20_σ72 : σ72.1 218 20 = (σ0.1 218 20) := hkv71.2.2.2.1
      have g23_σ72 : σ72.1 218 23 = (σ0.1 218 23) := hkv71.2.2.2.2.1
      have g25_σ72 : σ72.1 218 25 = (σ0.1 218 25) := hkv71.2.2.2.2.2
      have m34 := hqv71.2
      have hpx : isPx tx n i ∨ tkK tx n i = 40 := by first | exact Or.inl w7.2 | exact Or.inr k16
      exact ok_rZ (Or.inl rfl) ⟨hT, (show (TOK σ72.1 ∧ ((σ0.1 218 11).toInt ≤ (σ72.1 218 11).toInt ∧ 0 ≤ (σ72.1 218 22).toInt ∧ (σ72.1 218 22).toInt ≤ 40) ∧ (σ72.1 218 14 = 0 → (σ0.1 218 11).toInt < (σ72.1 218 11).toInt ∧ ∃ c, stp tx n x1 (i, false, (lst (σ0.1 230) (σ0.1 218 22).toInt.toNat), (σ0.1 218 25).toInt.toNat) = some (some c) ∧ REL σ72.1 tx n c ∧ ((0 : Int32) = 0 ↔ c.2.1 = false)) ∧ (¬ σ72.1 218 14 = 0 → stp tx n x1 (i, false, (lst (σ0.1 230) (σ0.1 218 22).toInt.toNat), (σ0.1 218 25).toInt.toNat) = none) ∧ ZB σ72.1) ∧ (σ72.1 218 7 = σ0.1 218 7 ∧ σ72.1 218 9 = σ0.1 218 9 ∧ σ72.1 218 20 = σ0.1 218 20 ∧ σ72.1 218 25 = σ0.1 218 25) from ⟨by first | exact ⟨hK, ⟨m34.1, m34.2.1⟩, fun q => ⟨(m34.2.2.1 q).1.1, (tkE tx n i, false, decide (tkK tx n i = 40) :: (lst (σ0.1 230) (σ0.1 218 22).toInt.toNat), (σ0.1 218 25).toInt.toNat), (stp_o hpx).trans (if_neg (m34.2.2.1 q).2.1.1), ⟨⟨(m34.2.2.1 q).2.1.2, le1⟩, ⟨by first | exact ((m34.2.2.1 q).2.2.1.trans (by rw [k16]; rfl)).symm | exact ((m34.2.2.1 q).2.2.1.trans (by rw [k7, decide_eq_false (z50 w7.1)]; rfl)).symm, (m34.2.2.1 q).2.2.2⟩, by rw [g25_σ72], fun h => Bool.noConfusion (show false = true from h), fun _ => (m34.2.2.1 q).1.2⟩, ⟨fun _ => rfl, fun _ => rfl⟩⟩, fun q => (stp_o hpx).trans (if_pos (m34.2.2.2 q)), hB⟩ | exact absurd e7 n22 | exact absurd e22 n7 | exact absurd y196 n189 | exact ⟨hK, ⟨by (try simp only [g7_σ72, g9_σ72, g20_σ72, g23_σ72, g25_σ72]); omega, by (try simp only [g7_σ72, g9_σ72, g20_σ72, g23_σ72, g25_σ72]); omega⟩, fun q => absurd q (by (try simp only [g7_σ72, g9_σ72, g20_σ72, g23_σ72, g25_σ72]); exact n196), fun _ => st9, hB⟩ | exact ⟨hK, ⟨by (try simp only [g7_σ72, g9_σ72, g20_σ72, g23_σ72, g25_σ72]); omega, by omega⟩, fun _ => ⟨by (try simp only [g7_σ72, g9_σ72, g20_σ72, g23_σ72, g25_σ72]); exact ga9, _, st9, ⟨⟨RX_i g9_σ72 rfl rfl rfl rfl ((hT.2 224 (by decide)).trans tE) nE pK9, le9⟩, ⟨by rw [rfl]; exact l201.2.symm, by rw [rfl]; exact NP_le hNP l201.1⟩, by rw [g25_σ72], fun _ => ⟨h201, popP_i _⟩, fun h => Bool.noConfusion (show true = false from h)⟩, ⟨fun h => absurd h (by decide), fun h => Bool.noConfusion (show true = false from h)⟩⟩, fun q => absurd (by (try simp only [g7_σ72, g9_σ72, g20_σ72, g23_σ72, g25_σ72]); exact y196) q, hB⟩, g7_σ72, g9_σ72, g20_σ72, g25_σ72⟩)⟩
end Zq11_7
section Zq11_8
theorem xe_X12_isOpen {N : Nat} {σ : zS} (hN : 1048576 ≤ N) (hR : RF σ.2.2) (hW : WT σ.1) : Ok (f_X12_isOpen N 218 σ) (fun r => r.2 = σ ∧ ((r.1 = 0 → ¬ true ∈ lst (σ.1 230) (σ.1 218 22).toInt.toNat) ∧ (¬ r.1 = 0 → true ∈ lst (σ.1 230) (σ.1 218 22).toInt.toNat))) := by
  rw [f_X12_isOpen.eq_1]
  refine ok_lp (fun t : Int32 × zS => t.2 = σ ∧ 0 ≤ t.1.toInt ∧ ∀ k : Nat, (k : Int) < t.1.toInt → ¬ σ.1 230 k = 100) (fun t => (40 - t.1.toInt).toNat) (fun again t hI ih => ?_) N _ ⟨rfl, (by decide : 0 ≤ (0 : Int32).toInt), fun k hk => absurd hk (by simp only [Int32.reduceToInt]; omega)⟩ (by simp only [Int32.reduceToInt]; omega)
  obtain ⟨x1, σ'⟩ := t
  obtain ⟨e, h0, hA⟩ := hI
  have e : σ' = σ := e
  have h0 : 0 ≤ x1.toInt := h0
  have hA : ∀ k : Nat, (k : Int) < x1.toInt → ¬ σ.1 230 k = 100 := hA
  subst e
  rw [F_X12_isOpen_2.eq_1]
  refine ok_gI rfl ?_
  refine ok_if (fun h => ok_rZ (Or.inl rfl) ⟨rfl, fun _ q => ?_, fun q => absurd rfl q⟩) (fun h => ?_)
  · rw [Int32.le_iff_toInt_le] at h
    obtain ⟨k, hk, e⟩ := lst_t.mp q
    exact hA k (by omega) e
  rw [Int32.le_iff_toInt_le] at h
  have hs : (x1 + 1).toInt = x1.toInt + 1 := by rw [ti_add]; simp only [Int32.reduceToInt]; omega
  refine ok_gR (Sx := []) (v := 230) Tr.rf rfl (hR 218 21 rfl) ?_
  refine ok_aIn (n := 40) rfl h0 (by omega) (fun v e => ?_)
  have e : v = σ'.1 230 x1.toInt.toNat := e
  refine ok_if (fun h1 => ok_rZ (Or.inr rfl) ⟨rfl, fun q => absurd (show (1 : Int32) = 0 from q) (by decide), fun _ => lst_t.mpr ⟨x1.toInt.toNat, by omega, e.symm.trans h1⟩⟩) (fun h1 => ?_)
  refine ih (x1 + 1, σ') ⟨rfl, (by rw [hs]; omega : 0 ≤ (x1 + 1).toInt), fun k hk => ?_⟩ (by show (40 - (x1 + 1).toInt).toNat < (40 - x1.toInt).toNat; rw [hs]; omega)
  have hk : (k : Int) < (x1 + 1).toInt := hk
  rw [hs] at hk
  by_cases q : (k : Int) = x1.toInt
  · rw [show k = x1.toInt.toNat by omega, ← e]; exact h1
  · exact hA k (by omega)

set_option maxHeartbeats 4000000 in
set_option maxRecDepth 100000 in
theorem s_X12_goesBehind_r {N : Nat} (hN : 1048576 ≤ N)  {σ0 : zS} {tx : Nat → Int32} {n i : Nat} {mm : Int32} (hR : RF σ0.2.2) (hK : TOK σ0.1) (hY : BYT (σ0.1 224)) (hG : RX σ0.1 tx n i) (hg : σ0.1 218 14 = 0) (hB : ZB σ0.1) (ha : 0 ≤ (σ0.1 218 20).toInt ∧ (σ0.1 218 20).toInt ≤ 1024) (hP : PIL σ0.1 1) (hNP : NP (σ0.1 230) (σ0.1 218 22).toInt.toNat) (hpp : popP (lst (σ0.1 230) (σ0.1 218 22).toInt.toNat) = (lst (σ0.1 230) (σ0.1 218 22).toInt.toNat)) (hi : i ≤ n) (hs25 : 0 ≤ (σ0.1 218 25).toInt ∧ (σ0.1 218 25).toInt ≤ 24) : Ok (f_X12_goesBehind N 218 σ0) (fun r => Tr [218, 226, 227, 228, 229, 230] σ0 r.2 ∧ ((TOK r.2.1 ∧ ((σ0.1 218 11).toInt ≤ (r.2.1 218 11).toInt ∧ 0 ≤ (r.2.1 218 22).toInt ∧ (r.2.1 218 22).toInt ≤ 40) ∧ (r.2.1 218 14 = 0 → (r.1 = -1 ∧ stp tx n mm (i, true, (lst (σ0.1 230) (σ0.1 218 22).toInt.toNat), (σ0.1 218 25).toInt.toNat) = some none ∧ REL r.2.1 tx n (i, true, (lst (σ0.1 230) (σ0.1 218 22).toInt.toNat), (σ0.1 218 25).toInt.toNat)) ∨ (∃ c, stp tx n mm (i, true, (lst (σ0.1 230) (σ0.1 218 22).toInt.toNat), (σ0.1 218 25).toInt.toNat) = some (some c) ∧ REL r.2.1 tx n c ∧ (σ0.1 218 11).toInt < (r.2.1 218 11).toInt ∧ ((r.1 = 0 ∧ c.2.1 = true) ∨ (r.1 = 1 ∧ c.2.1 = false)))) ∧ (¬ r.2.1 218 14 = 0 → stp tx n mm (i, true, (lst (σ0.1 230) (σ0.1 218 22).toInt.toNat), (σ0.1 218 25).toInt.toNat) = none) ∧ (0 ≤ (r.2.1 218 25).toInt ∧ (r.2.1 218 25).toInt ≤ 24) ∧ ZB r.2.1) ∧ (r.2.1 218 7 = σ0.1 218 7 ∧ r.2.1 218 9 = σ0.1 218 9 ∧ r.2.1 218 20 = σ0.1 218 20))) := by
  have hT : Tr [218, 226, 227, 228, 229, 230] σ0 σ0 := Tr.rf
  have hK1 := hK.1
  have tE : σ0.1 224 = tx := hG.1.1
  have nE : (σ0.1 218 9).toInt.toNat = n := hG.1.2
  have pK : TKV (σ0.1 218 11) (σ0.1 218 10) (σ0.1 218 12) (σ0.1 218 13) tx n i := hG.2
  have hb0 := PIL_b hP (by decide)
  have hP0 := hP
  obtain ⟨b8, d8, r8, hS, h22, hd, hd6, hp⟩ := hP0
  have le1 := (tk_le (t := tx) hi).2.2
  rw [f_X12_goesBehind.eq_1]
  refine ok_gI rfl ?_
  refine ok_zbX (Q := fun V => (V = -1 ∧ ¬ isCb (σ0.1 218 12)) ∨ ((0 ≤ V.toInt ∧ V.toInt ≤ 6) ∧ isCb (σ0.1 218 12))) (xe_X12_signOf) (fun v2 hqv2 => ?_)
  have hqv2 : (v2 = -1 ∧ ¬ isCb (σ0.1 218 12)) ∨ ((0 ≤ v2.toInt ∧ v2.toInt ≤ 6) ∧ isCb (σ0.1 218 12)) := hqv2
  refine ok_if (fun hc4 => ?_) (fun hc4 => ?_)
  · have m10 : ¬ isCb (tkK tx n i) := by rcases hqv2 with q | q; exact pK.2.1 ▸ q.2; exact absurd (congrArg Int32.toInt hc4) (by rw [show (-1 : Int32).toInt = -1 by decide]; omega)
    refine ok_gI rfl ?_
    refine ok_if (fun hc6 => ?_) (fun hc6 => ?_)
    · have l86 := hK.2.1 (by rw [hc6]; decide)
      have k86 : tkK tx n i = 41 := pK.2.1.symm.trans hc6
      refine ok_gC rfl ?_
      refine ok_zbX (Q := fun V => (V = 0 → ¬ true ∈ lst (σ0.1 230) (σ0.1 218 22).toInt.toNat) ∧ (¬ V = 0 → true ∈ lst (σ0.1 230) (σ0.1 218 22).toInt.toNat)) (xe_X12_isOpen hN (hR.tr hT) ⟨by omega, by omega⟩) (fun v7 hqv7 => ?_)
      have hqv7 : (v7 = 0 → ¬ true ∈ lst (σ0.1 230) (σ0.1 218 22).toInt.toNat) ∧ (¬ v7 = 0 → true ∈ lst (σ0.1 230) (σ0.1 218 22).toInt.toNat) := hqv7
      refine ok_if (fun hc9 => ?_) (fun hc9 => ?_)
      · have qhc9 := hqv7.1 hc9
        have st1 : stp tx n mm (i, true, (lst (σ0.1 230) (σ0.1 218 22).toInt.toNat), (σ0.1 218 25).toInt.toNat) = some none := stp_e m10 (fun q => qhc9 q.2)
        exact ok_some ⟨hT, (show (TOK σ0.1 ∧ ((σ0.1 218 11).toInt ≤ (σ0.1 218 11).toInt ∧ 0 ≤ (σ0.1 218 22).toInt ∧ (σ0.1 218 22).toInt ≤ 40) ∧ (σ0.1 218 14 = 0 → ((-1 : Int32) = -1 ∧ stp tx n mm (i, true, (lst (σ0.1 230) (σ0.1 218 22).toInt.toNat), (σ0.1 218 25).toInt.toNat) = some none ∧ REL σ0.1 tx n (i, true, (lst (σ0.1 230) (σ0.1 218 22).toInt.toNat), (σ0.1 218 25).toInt.toNat)) ∨ (∃ c, stp tx n mm (i, true, (lst (σ0.1 230) (σ0.1 218 22).toInt.toNat), (σ0.1 218 25).toInt.toNat) = some (some c) ∧ REL σ0.1 tx n c ∧ (σ0.1 218 11).toInt < (σ0.1 218 11).toInt ∧ (((-1 : Int32) = 0 ∧ c.2.1 = true) ∨ ((-1 : Int32) = 1 ∧ c.2.1 = false)))) ∧ (¬ σ0.1 218 14 = 0 → stp tx n mm (i, true, (lst (σ0.1 230) (σ0.1 218 22).toInt.toNat), (σ0.1 218 25).toInt.toNat) = none) ∧ (0 ≤ (σ0.1 218 25).toInt ∧ (σ0.1 218 25).toInt ≤ 24) ∧ ZB σ0.1) ∧ (σ0.1 218 7 = σ0.1 218 7 ∧ σ0.1 218 9 = σ0.1 218 9 ∧ σ0.1 218 20 = σ0.1 218 20) from ⟨by first | exact absurd hg n31 | exact absurd y31 n24 | exact ⟨hK, ⟨by skip; omega, by skip; omega⟩, fun q => absurd q (by skip; exact n31), fun _ => (stp_c k10).trans (if_pos s19), by skip; omega, hB⟩ | exact ⟨hK, ⟨by skip; omega, by skip; omega⟩, fun _ => Or.inl ⟨rfl, st1, ⟨⟨hG, hi⟩, ⟨rfl, hNP⟩, rfl, fun _ => ⟨hP, hpp⟩, fun h => Bool.noConfusion (show true = false from h)⟩⟩, fun q => absurd (by skip; exact hg) q, by skip; omega, hB⟩ | exact ⟨hK, ⟨by skip; omega, by skip; rw [s22]; omega⟩, fun _ => Or.inr ⟨_, (stp_c k10).trans (if_neg m19), ⟨⟨g75, le1⟩, ⟨by skip; rw [rfl, j63]; exact l63.symm, by skip; rw [rfl, j63]; exact n63⟩, by skip; rw [s25]; omega, fun h => Bool.noConfusion (show false = true from h), fun _ => PIL_i rfl rfl rfl rfl (by rw [j63]; exact k63) (by rw [s22]; omega) hd9 hd69 (by omega)⟩, by skip; omega, Or.inr ⟨rfl, rfl⟩⟩, fun q => absurd (by skip; exact y31) q, by skip; rw [s25]; omega, hB⟩ | exact ⟨hK, ⟨by skip; omega, by omega⟩, fun _ => Or.inr ⟨_, stp_p m10 ⟨k86, t93⟩, ⟨⟨RX_i rfl rfl rfl rfl rfl ((hT.2 224 (by decide)).trans tE) nE pK, le1⟩, ⟨by rw [rfl]; exact l129.2.symm, by rw [rfl]; exact NP_le hNP (by omega)⟩, by skip, fun _ => ⟨h129, popP_i _⟩, fun h => Bool.noConfusion (show true = false from h)⟩, by skip; omega, Or.inl ⟨rfl, rfl⟩⟩, fun q => absurd (by skip; exact hg) q, by skip; omega, hB⟩, rfl, rfl, rfl⟩)⟩
      · have qhc9 := hqv7.2 hc9
        have t93 := qhc9
        refine ok_gC rfl ?_
        refine ok_zbT (Q := fun V σ => (TOK σ.1 ∧ ZB σ.1 ∧ PIL σ.1 1 ∧ ((σ.1 218 22).toInt.toNat ≤ (σ0.1 218 22).toInt.toNat ∧ lst (σ0.1 230) (σ.1 218 22).toInt.toNat = popP (lst (σ0.1 230) (σ0.1 218 22).toInt.toNat)) ∧ ((σ.1 218 22).toInt ≤ 0 ∨ (rkI (σ0.1 230 ((σ.1 218 22) - 1).toNatClampNeg)).toInt < (1 : Int32).toInt)) ∧ (σ.1 218 7 = σ0.1 218 7 ∧ σ.1 218 9 = σ0.1 218 9 ∧ σ.1 218 10 = σ0.1 218 10 ∧ σ.1 218 11 = σ0.1 218 11 ∧ σ.1 218 12 = σ0.1 218 12 ∧ σ.1 218 13 = σ0.1 218 13 ∧ σ.1 218 14 = σ0.1 218 14 ∧ σ.1 218 15 = σ0.1 218 15 ∧ σ.1 218 20 = σ0.1 218 20 ∧ σ.1 218 25 = σ0.1 218 25)) hT (s_X12_settlesTo_r hN (hR.tr hT) (hK) (by rw [hT.2 224 (by decide)]; exact hY) (hB) (by skip; exact ha) (hP) (by decide) (hNP) (Or.inr hpp)) (by decide) (fun v10 σ11 hOσ11 hT hqv10 => ?_)
        have hqv10 : (TOK σ11.1 ∧ ZB σ11.1 ∧ PIL σ11.1 1 ∧ ((σ11.1 218 22).toInt.toNat ≤ (σ0.1 218 22).toInt.toNat ∧ lst (σ0.1 230) (σ11.1 218 22).toInt.toNat = popP (lst (σ0.1 230) (σ0.1 218 22).toInt.toNat)) ∧ ((σ11.1 218 22).toInt ≤ 0 ∨ (rkI (σ0.1 230 ((σ11.1 218 22) - 1).toNatClampNeg)).toInt < (1 : Int32).toInt)) ∧ (σ11.1 218 7 = σ0.1 218 7 ∧ σ11.1 218 9 = σ0.1 218 9 ∧ σ11.1 218 10 = σ0.1 218 10 ∧ σ11.1 218 11 = σ0.1 218 11 ∧ σ11.1 218 12 = σ0.1 218 12 ∧ σ11.1 218 13 = σ0.1 218 13 ∧ σ11.1 218 14 = σ0.1 218 14 ∧ σ11.1 218 15 = σ0.1 218 15 ∧ σ11.1 218 20 = σ0.1 218 20 ∧ σ11.1 218 25 = σ0.1 218 25) := hqv10
        have hkv10 := hqv10
        have hqv10 := hqv10.1
        have r230_σ11 : σ11.1 230 = σ0.1 230 := hOσ11.2 230 (by decide)
        have hK : TOK σ11.1 := by first | exact hqv10.1 | exact hqv10.1.1 | exact TOK_p eσ11 (by decide) hK
        have hB : ZB σ11.1 := hqv10.2.1
        have g7_σ11 : σ11.1 218 7 = (σ0.1 218 7) := hkv10.2.1
        have g9_σ11 : σ11.1 218 9 = (σ0.1 218 9) := hkv10.2.2.1
        have g10_σ11 : σ11.1 218 10 = (σ0.1 218 10) := hkv10.2.2.2.1
        have g11_σ11 : σ11.1 218 11 = (σ0.1 218 11) := hkv10.2.2.2.2.1
        have g12_σ11 : σ11.1 218 12 = (σ0.1 218 12) := hkv10.2.2.2.2.2.1
        have g13_σ11 : σ11.1 218 13 = (σ0.1 218 13) := hkv10.2.2.2.2.2.2.1
        have g14_σ11 : σ11.1 218 14 = (σ0.1 218 14) := hkv10.2.2.2.2.2.2.2.1
        have g15_σ11 : σ11.1 218 15 = (σ0.1 218 15) := hkv10.2.2.2.2.2.2.2.2.1
        have g20_σ11 : σ11.1 218 20 = (σ0.1 218 20) := hkv10.2.2.2.2.2.2.2.2.2.1
        have g25_σ11 : σ11.1 218 25 = (σ0.1 218 25) := hkv10.2.2.2.2.2.2.2.2.2.2
        have h51 := hqv10.2.2.1
        have b51 := PIL_b h51 (by decide)
        have l51 := hqv10.2.2.2.1
        obtain ⟨b9, d9, r9, hS9, h9, hd9, hd69, hp9⟩ := h51
        rw [r230_σ11] at hS9
        have x51 := hqv10.2.2.2.2
        have w100 : 0 < (σ11.1 218 22).toInt := by by_cases z : 0 < (σ11.1 218 22).toInt; exact z; have l9 := l51.2; rw [hpp, show (σ11.1 218 22).toInt.toNat = 0 by omega] at l9; rw [← l9] at t93; exact absurd t93 List.not_mem_nil
        obtain ⟨n9, hn9⟩ : ∃ n : Nat, (σ11.1 218 22).toInt.toNat = n + 1 := ⟨(σ11.1 218 22).toInt.toNat - 1, by omega⟩
        rw [hn9] at hS9
        have s22 : ((σ11.1 218 22) - 1).toInt = (n9 : Int) := by rw [ti_sub]; simp only [Int32.reduceToInt]; omega
        have j22 : ((σ11.1 218 22) - 1).toInt.toNat = n9 := by rw [s22]; omega
        have i22 : ((σ11.1 218 22) - 1).toNatClampNeg = n9 := j22
        rw [i22] at x51
        have t9 : σ0.1 230 n9 = 100 := rk0 (by rcases x51 with q | q; omega; exact q)
        obtain ⟨d7, r7, e7, hS7⟩ := Stk_po hS9 (by rw [t9]; decide)
        have d24 : ((σ11.1 218 24) - 1).toInt = (d7 : Int) := by rw [ti_sub]; simp only [Int32.reduceToInt]; omega
        have tl9 : (lst (σ0.1 230) (σ0.1 218 22).toInt.toNat).tail = lst (σ0.1 230) n9 := by have l9 := l51.2; rw [hpp, hn9, lst_o (by rw [t9]; decide)] at l9; rw [← l9]; rfl
        have ln9 := l51.1
        refine ok_gI rfl ?_
        refine ok_pI hT rfl (by decide) (fun σ13 eσ13 hOσ13 hT => ?_)
        have r230_σ13 : σ13.1 230 = σ0.1 230 := (hOσ13.2 230 (by decide)).trans r230_σ11
        have hK : TOK σ13.1 := by first | exact HQ.1 | exact HQ.1.1 | exact TOK_p eσ13 (by decide) hK
        have hB : ZB σ13.1 := ZB.tr hOσ13 (by decide) hB
        have g7_σ13 : σ13.1 218 7 = (σ0.1 218 7) := (zI_atN eσ13 (by decide)).trans g7_σ11
        have g9_σ13 : σ13.1 218 9 = (σ0.1 218 9) := (zI_atN eσ13 (by decide)).trans g9_σ11
        have g10_σ13 : σ13.1 218 10 = (σ0.1 218 10) := (zI_atN eσ13 (by decide)).trans g10_σ11
        have g11_σ13 : σ13.1 218 11 = (σ0.1 218 11) := (zI_atN eσ13 (by decide)).trans g11_σ11
        have g12_σ13 : σ13.1 218 12 = (σ0.1 218 12) := (zI_atN eσ13 (by decide)).trans g12_σ11
        have g13_σ13 : σ13.1 218 13 = (σ0.1 218 13) := (zI_atN eσ13 (by decide)).trans g13_σ11
        have g14_σ13 : σ13.1 218 14 = (σ0.1 218 14) := (zI_atN eσ13 (by decide)).trans g14_σ11
        have g15_σ13 : σ13.1 218 15 = (σ0.1 218 15) := (zI_atN eσ13 (by decide)).trans g15_σ11
        have g20_σ13 : σ13.1 218 20 = (σ0.1 218 20) := (zI_atN eσ13 (by decide)).trans g20_σ11
        have g22_σ13 : σ13.1 218 22 = ((σ11.1 218 22) - 1) := zI_atI eσ13
        have g23_σ13 : σ13.1 218 23 = (σ11.1 218 23) := zI_atN eσ13 (by decide)
        have g24_σ13 : σ13.1 218 24 = (σ11.1 218 24) := zI_atN eσ13 (by decide)
        have g25_σ13 : σ13.1 218 25 = (σ0.1 218 25) := (zI_atN eσ13 (by decide)).trans g25_σ11
        refine ok_gIv rfl g24_σ13 ?_
        refine ok_pI hT rfl (by decide) (fun σ15 eσ15 hOσ15 hT => ?_)
        have r230_σ15 : σ15.1 230 = σ0.1 230 := (hOσ15.2 230 (by decide)).trans r230_σ13
        have hK : TOK σ15.1 := by first | exact HQ.1 | exact HQ.1.1 | exact TOK_p eσ15 (by decide) hK
        have hB : ZB σ15.1 := ZB.tr hOσ15 (by decide) hB
        have g7_σ15 : σ15.1 218 7 = (σ0.1 218 7) := (zI_atN eσ15 (by decide)).trans g7_σ13
        have g9_σ15 : σ15.1 218 9 = (σ0.1 218 9) := (zI_atN eσ15 (by decide)).trans g9_σ13
        have g10_σ15 : σ15.1 218 10 = (σ0.1 218 10) := (zI_atN eσ15 (by decide)).trans g10_σ13
        have g11_σ15 : σ15.1 218 11 = (σ0.1 218 11) := (zI_atN eσ15 (by decide)).trans g11_σ13
        have g12_σ15 : σ15.1 218 12 = (σ0.1 218 12) := (zI_atN eσ15 (by decide)).trans g12_σ13
        have g13_σ15 : σ15.1 218 13 = (σ0.1 218 13) := (zI_atN eσ15 (by decide)).trans g13_σ13
        have g14_σ15 : σ15.1 218 14 = (σ0.1 218 14) := (zI_atN eσ15 (by decide)).trans g14_σ13
        have g15_σ15 : σ15.1 218 15 = (σ0.1 218 15) := (zI_atN eσ15 (by decide)).trans g15_σ13
        have g20_σ15 : σ15.1 218 20 = (σ0.1 218 20) := (zI_atN eσ15 (by decide)).trans g20_σ13
        have g22_σ15 : σ15.1 218 22 = ((σ11.1 218 22) - 1) := (zI_atN eσ15 (by decide)).trans g22_σ13
        have g23_σ15 : σ15.1 218 23 = (σ11.1 218 23) := (zI_atN eσ15 (by decide)).trans g23_σ13
        have g24_σ15 : σ15.1 218 24 = ((σ11.1 218 24) - 1) := zI_atI eσ15
        have g25_σ15 : σ15.1 218 25 = (σ0.1 218 25) := (zI_atN eσ15 (by decide)).trans g25_σ13
        refine ok_gC rfl ?_
        refine ok_zbT (Q := fun V σ => ((TOK σ.1 ∧ (σ15.1 218 10).toInt ≤ (σ.1 218 11).toInt) ∧ RX σ.1 tx n (tkE tx n i)) ∧ (σ.1 218 7 = σ15.1 218 7 ∧ σ.1 218 9 = σ15.1 218 9 ∧ σ.1 218 14 = σ15.1 218 14 ∧ σ.1 218 15 = σ15.1 218 15 ∧ σ.1 218 20 = σ15.1 218 20 ∧ σ.1 218 22 = σ15.1 218 22 ∧ σ.1 218 23 = σ15.1 218 23 ∧ σ.1 218 24 = σ15.1 218 24 ∧ σ.1 218 25 = σ15.1 218 25)) hT (s_X12_advance_r hN (hR.tr hT) (TOK_A hK) (by rw [hT.2 224 (by decide)]; exact hY) (RX_i g9_σ15 g10_σ15 g11_σ15 g12_σ15 g13_σ15 ((hT.2 224 (by decide)).trans tE) nE pK)) (by decide) (fun v16 σ17 hOσ17 hT hqv16 => ?_)
        have hqv16 : ((TOK σ17.1 ∧ (σ15.1 218 10).toInt ≤ (σ17.1 218 11).toInt) ∧ RX σ17.1 tx n (tkE tx n i)) ∧ (σ17.1 218 7 = σ15.1 218 7 ∧ σ17.1 218 9 = σ15.1 218 9 ∧ σ17.1 218 14 = σ15.1 218 14 ∧ σ17.1 218 15 = σ15.1 218 15 ∧ σ17.1 218 20 = σ15.1 218 20 ∧ σ17.1 218 22 = σ15.1 218 22 ∧ σ17.1 218 23 = σ15.1 218 23 ∧ σ17.1 218 24 = σ15.1 218 24 ∧ σ17.1 218 25 = σ15.1 218 25) := hqv16
        have hkv16 := hqv16
        have hqv16 := hqv16.1
        have r230_σ17 : σ17.1 230 = σ0.1 230 := (hOσ17.2 230 (by decide)).trans r230_σ15
        have hK : TOK σ17.1 := by first | exact hqv16.1 | exact hqv16.1.1 | exact TOK_p eσ17 (by decide) hK
        have hB : ZB σ17.1 := ZB.tr hOσ17 (by decide) hB
        try simp only [g7_σ15, g9_σ15, g10_σ15, g11_σ15, g12_σ15, g13_σ15, g14_σ15, g15_σ15, g20_σ15, g22_σ15, g23_σ15, g24_σ15, g25_σ15] at hqv16
        have g7_σ17 : σ17.1 218 7 = (σ0.1 218 7) := (hkv16.2.1).trans g7_σ15
        have g9_σ17 : σ17.1 218 9 = (σ0.1 218 9) := (hkv16.2.2.1).trans g9_σ15
        have g14_σ17 : σ17.1 218 14 = (σ0.1 218 14) := (hkv16.2.2.2.1).trans g14_σ15
        have g15_σ17 : σ17.1 218 15 = (σ0.1 218 15) := (hkv16.2.2.2.2.1).trans g15_σ15
        have g20_σ17 : σ17.1 218 20 = (σ0.1 218 20) := (hkv16.2.2.2.2.2.1).trans g20_σ15
        have g22_σ17 : σ17.1 218 22 = ((σ11.1 218 22) - 1) := (hkv16.2.2.2.2.2.2.1).trans g22_σ15
        have g23_σ17 : σ17.1 218 23 = (σ11.1 218 23) := (hkv16.2.2.2.2.2.2.2.1).trans g23_σ15
        have g24_σ17 : σ17.1 218 24 = ((σ11.1 218 24) - 1) := (hkv16.2.2.2.2.2.2.2.2.1).trans g24_σ15
        have g25_σ17 : σ17.1 218 25 = (σ0.1 218 25) := (hkv16.2.2.2.2.2.2.2.2.2).trans g25_σ15
        have m75 := hqv16.1.2
        have pK : TKV (σ17.1 218 11) (σ17.1 218 10) (σ17.1 218 12) (σ17.1 218 13) tx n (tkE tx n i) := hqv16.2.2
        refine ok_gC rfl ?_
        refine ok_zbT (Q := fun V σ => (TOK σ.1 ∧ ZB σ.1 ∧ PIL σ.1 1 ∧ ((σ.1 218 22).toInt.toNat ≤ (σ17.1 218 22).toInt.toNat ∧ lst (σ17.1 230) (σ.1 218 22).toInt.toNat = popP (lst (σ17.1 230) (σ17.1 218 22).toInt.toNat)) ∧ ((σ.1 218 22).toInt ≤ 0 ∨ (rkI (σ17.1 230 ((σ.1 218 22) - 1).toNatClampNeg)).toInt < (3 : Int32).toInt)) ∧ (σ.1 218 7 = σ17.1 218 7 ∧ σ.1 218 9 = σ17.1 218 9 ∧ σ.1 218 10 = σ17.1 218 10 ∧ σ.1 218 11 = σ17.1 218 11 ∧ σ.1 218 12 = σ17.1 218 12 ∧ σ.1 218 13 = σ17.1 218 13 ∧ σ.1 218 14 = σ17.1 218 14 ∧ σ.1 218 15 = σ17.1 218 15 ∧ σ.1 218 20 = σ17.1 218 20 ∧ σ.1 218 25 = σ17.1 218 25)) hT (s_X12_settlesTo_r hN (hR.tr hT) (hK) (by rw [hT.2 224 (by decide)]; exact hY) (hB) (by (try simp only [g7_σ17, g9_σ17, g14_σ17, g15_σ17, g20_σ17, g22_σ17, g23_σ17, g24_σ17, g25_σ17]); exact ha) (PIL_i g22_σ17 g23_σ17 g24_σ17 r230_σ17 (by rw [j22]; exact hS7) (by omega) d24 (by omega) hp9) (by decide) (by (try simp only [g7_σ17, g9_σ17, g14_σ17, g15_σ17, g20_σ17, g22_σ17, g23_σ17, g24_σ17, g25_σ17]); rw [r230_σ17, j22]; exact NP_le hNP (by omega)) (Or.inl (by decide))) (by decide) (fun v18 σ19 hOσ19 hT hqv18 => ?_)
        have hqv18 : (TOK σ19.1 ∧ ZB σ19.1 ∧ PIL σ19.1 1 ∧ ((σ19.1 218 22).toInt.toNat ≤ (σ17.1 218 22).toInt.toNat ∧ lst (σ17.1 230) (σ19.1 218 22).toInt.toNat = popP (lst (σ17.1 230) (σ17.1 218 22).toInt.toNat)) ∧ ((σ19.1 218 22).toInt ≤ 0 ∨ (rkI (σ17.1 230 ((σ19.1 218 22) - 1).toNatClampNeg)).toInt < (3 : Int32).toInt)) ∧ (σ19.1 218 7 = σ17.1 218 7 ∧ σ19.1 218 9 = σ17.1 218 9 ∧ σ19.1 218 10 = σ17.1 218 10 ∧ σ19.1 218 11 = σ17.1 218 11 ∧ σ19.1 218 12 = σ17.1 218 12 ∧ σ19.1 218 13 = σ17.1 218 13 ∧ σ19.1 218 14 = σ17.1 218 14 ∧ σ19.1 218 15 = σ17.1 218 15 ∧ σ19.1 218 20 = σ17.1 218 20 ∧ σ19.1 218 25 = σ17.1 218 25) := hqv18
        have hkv18 := hqv18
        have hqv18 := hqv18.1
        have r230_σ19 : σ19.1 230 = σ0.1 230 := (hOσ19.2 230 (by decide)).trans r230_σ17
        have hK : TOK σ19.1 := by first | exact hqv18.1 | exact hqv18.1.1 | exact TOK_p eσ19 (by decide) hK
        have hB : ZB σ19.1 := hqv18.2.1
        try simp only [g7_σ17, g9_σ17, g14_σ17, g15_σ17, g20_σ17, g22_σ17, g23_σ17, g24_σ17, g25_σ17] at hqv18
        have g7_σ19 : σ19.1 218 7 = (σ0.1 218 7) := (hkv18.2.1).trans g7_σ17
        have g9_σ19 : σ19.1 218 9 = (σ0.1 218 9) := (hkv18.2.2.1).trans g9_σ17
        have g10_σ19 : σ19.1 218 10 = (σ17.1 218 10) := hkv18.2.2.2.1
        have g11_σ19 : σ19.1 218 11 = (σ17.1 218 11) := hkv18.2.2.2.2.1
        have g12_σ19 : σ19.1 218 12 = (σ17.1 218 12) := hkv18.2.2.2.2.2.1
        have g13_σ19 : σ19.1 218 13 = (σ17.1 218 13) := hkv18.2.2.2.2.2.2.1
        have g14_σ19 : σ19.1 218 14 = (σ0.1 218 14) := (hkv18.2.2.2.2.2.2.2.1).trans g14_σ17
        have g15_σ19 : σ19.1 218 15 = (σ0.1 218 15) := (hkv18.2.2.2.2.2.2.2.2.1).trans g15_σ17
        have g20_σ19 : σ19.1 218 20 = (σ0.1 218 20) := (hkv18.2.2.2.2.2.2.2.2.2.1).trans g20_σ17
        have g25_σ19 : σ19.1 218 25 = (σ0.1 218 25) := (hkv18.2.2.2.2.2.2.2.2.2.2).trans g25_σ17
        have h129 := hqv18.2.2.1
        have b129 := PIL_b h129 (by decide)
        have l129 := hqv18.2.2.2.1
        have o129 : σ17.1 230 = σ0.1 230 := (hOσ19.2 230 (by decide)).symm.trans r230_σ19
        rw [o129, j22, ← tl9] at l129
        exact ok_some ⟨hT, (show (TOK σ19.1 ∧ ((σ0.1 218 11).toInt ≤ (σ19.1 218 11).toInt ∧ 0 ≤ (σ19.1 218 22).toInt ∧ (σ19.1 218 22).toInt ≤ 40) ∧ (σ19.1 218 14 = 0 → ((0 : Int32) = -1 ∧ stp tx n mm (i, true, (lst (σ0.1 230) (σ0.1 218 22).toInt.toNat), (σ0.1 218 25).toInt.toNat) = some none ∧ REL σ19.1 tx n (i, true, (lst (σ0.1 230) (σ0.1 218 22).toInt.toNat), (σ0.1 218 25).toInt.toNat)) ∨ (∃ c, stp tx n mm (i, true, (lst (σ0.1 230) (σ0.1 218 22).toInt.toNat), (σ0.1 218 25).toInt.toNat) = some (some c) ∧ REL σ19.1 tx n c ∧ (σ0.1 218 11).toInt < (σ19.1 218 11).toInt ∧ (((0 : Int32) = 0 ∧ c.2.1 = true) ∨ ((0 : Int32) = 1 ∧ c.2.1 = false)))) ∧ (¬ σ19.1 218 14 = 0 → stp tx n mm (i, true, (lst (σ0.1 230) (σ0.1 218 22).toInt.toNat), (σ0.1 218 25).toInt.toNat) = none) ∧ (0 ≤ (σ19.1 218 25).toInt ∧ (σ19.1 218 25).toInt ≤ 24) ∧ ZB σ19.1) ∧ (σ19.1 218 7 = σ0.1 218 7 ∧ σ19.1 218 9 = σ0.1 218 9 ∧ σ19.1 218 20 = σ0.1 218 20) from ⟨by first | exact absurd hg n31 | exact absurd y31 n24 | exact ⟨hK, ⟨by (try simp only [g7_σ19, g9_σ19, g10_σ19, g11_σ19, g12_σ19, g13_σ19, g14_σ19, g15_σ19, g20_σ19, g25_σ19]); omega, by (try simp only [g7_σ19, g9_σ19, g10_σ19, g11_σ19, g12_σ19, g13_σ19, g14_σ19, g15_σ19, g20_σ19, g25_σ19]); omega⟩, fun q => absurd q (by (try simp only [g7_σ19, g9_σ19, g10_σ19, g11_σ19, g12_σ19, g13_σ19, g14_σ19, g15_σ19, g20_σ19, g25_σ19]); exact n31), fun _ => (stp_c k10).trans (if_pos s19), by (try simp only [g7_σ19, g9_σ19, g10_σ19, g11_σ19, g12_σ19, g13_σ19, g14_σ19, g15_σ19, g20_σ19, g25_σ19]); omega, hB⟩ | exact ⟨hK, ⟨by (try simp only [g7_σ19, g9_σ19, g10_σ19, g11_σ19, g12_σ19, g13_σ19, g14_σ19, g15_σ19, g20_σ19, g25_σ19]); omega, by (try simp only [g7_σ19, g9_σ19, g10_σ19, g11_σ19, g12_σ19, g13_σ19, g14_σ19, g15_σ19, g20_σ19, g25_σ19]); omega⟩, fun _ => Or.inl ⟨rfl, st1, ⟨⟨hG, hi⟩, ⟨rfl, hNP⟩, rfl, fun _ => ⟨hP, hpp⟩, fun h => Bool.noConfusion (show true = false from h)⟩⟩, fun q => absurd (by (try simp only [g7_σ19, g9_σ19, g10_σ19, g11_σ19, g12_σ19, g13_σ19, g14_σ19, g15_σ19, g20_σ19, g25_σ19]); exact hg) q, by (try simp only [g7_σ19, g9_σ19, g10_σ19, g11_σ19, g12_σ19, g13_σ19, g14_σ19, g15_σ19, g20_σ19, g25_σ19]); omega, hB⟩ | exact ⟨hK, ⟨by (try simp only [g7_σ19, g9_σ19, g10_σ19, g11_σ19, g12_σ19, g13_σ19, g14_σ19, g15_σ19, g20_σ19, g25_σ19]); omega, by (try simp only [g7_σ19, g9_σ19, g10_σ19, g11_σ19, g12_σ19, g13_σ19, g14_σ19, g15_σ19, g20_σ19, g25_σ19]); rw [s22]; omega⟩, fun _ => Or.inr ⟨_, (stp_c k10).trans (if_neg m19), ⟨⟨g75, le1⟩, ⟨by (try simp only [g7_σ19, g9_σ19, g10_σ19, g11_σ19, g12_σ19, g13_σ19, g14_σ19, g15_σ19, g20_σ19, g25_σ19]); rw [r230_σ19, j63]; exact l63.symm, by (try simp only [g7_σ19, g9_σ19, g10_σ19, g11_σ19, g12_σ19, g13_σ19, g14_σ19, g15_σ19, g20_σ19, g25_σ19]); rw [r230_σ19, j63]; exact n63⟩, by (try simp only [g7_σ19, g9_σ19, g10_σ19, g11_σ19, g12_σ19, g13_σ19, g14_σ19, g15_σ19, g20_σ19, g25_σ19]); rw [s25]; omega, fun h => Bool.noConfusion (show false = true from h), fun _ => PIL_i rfl rfl rfl r230_σ19 (by rw [j63]; exact k63) (by rw [s22]; omega) hd9 hd69 (by omega)⟩, by (try simp only [g7_σ19, g9_σ19, g10_σ19, g11_σ19, g12_σ19, g13_σ19, g14_σ19, g15_σ19, g20_σ19, g25_σ19]); omega, Or.inr ⟨rfl, rfl⟩⟩, fun q => absurd (by (try simp only [g7_σ19, g9_σ19, g10_σ19, g11_σ19, g12_σ19, g13_σ19, g14_σ19, g15_σ19, g20_σ19, g25_σ19]); exact y31) q, by (try simp only [g7_σ19, g9_σ19, g10_σ19, g11_σ19, g12_σ19, g13_σ19, g14_σ19, g15_σ19, g20_σ19, g25_σ19]); rw [s25]; omega, hB⟩ | exact ⟨hK, ⟨by (try simp only [g7_σ19, g9_σ19, g10_σ19, g11_σ19, g12_σ19, g13_σ19, g14_σ19, g15_σ19, g20_σ19, g25_σ19]); omega, by omega⟩, fun _ => Or.inr ⟨_, stp_p m10 ⟨k86, t93⟩, ⟨⟨RX_i g9_σ19 g10_σ19 g11_σ19 g12_σ19 g13_σ19 ((hT.2 224 (by decide)).trans tE) nE pK, le1⟩, ⟨by rw [r230_σ19]; exact l129.2.symm, by rw [r230_σ19]; exact NP_le hNP (by omega)⟩, by (try simp only [g7_σ19, g9_σ19, g10_σ19, g11_σ19, g12_σ19, g13_σ19, g14_σ19, g15_σ19, g20_σ19, g25_σ19]), fun _ => ⟨h129, popP_i _⟩, fun h => Bool.noConfusion (show true = false from h)⟩, by (try simp only [g7_σ19, g9_σ19, g10_σ19, g11_σ19, g12_σ19, g13_σ19, g14_σ19, g15_σ19, g20_σ19, g25_σ19]); omega, Or.inl ⟨rfl, rfl⟩⟩, fun q => absurd (by (try simp only [g7_σ19, g9_σ19, g10_σ19, g11_σ19, g12_σ19, g13_σ19, g14_σ19, g15_σ19, g20_σ19, g25_σ19]); exact hg) q, by (try simp only [g7_σ19, g9_σ19, g10_σ19, g11_σ19, g12_σ19, g13_σ19, g14_σ19, g15_σ19, g20_σ19, g25_σ19]); omega, hB⟩, g7_σ19, g9_σ19, g20_σ19⟩)⟩
    · have st1 : stp tx n mm (i, true, (lst (σ0.1 230) (σ0.1 218 22).toInt.toNat), (σ0.1 218 25).toInt.toNat) = some none := stp_e m10 (fun q => hc6 (pK.2.1.trans q.1))
      exact ok_some ⟨hT, (show (TOK σ0.1 ∧ ((σ0.1 218 11).toInt ≤ (σ0.1 218 11).toInt ∧ 0 ≤ (σ0.1 218 22).toInt ∧ (σ0.1 218 22).toInt ≤ 40) ∧ (σ0.1 218 14 = 0 → ((-1 : Int32) = -1 ∧ stp tx n mm (i, true, (lst (σ0.1 230) (σ0.1 218 22).toInt.toNat), (σ0.1 218 25).toInt.toNat) = some none ∧ REL σ0.1 tx n (i, true, (lst (σ0.1 230) (σ0.1 218 22).toInt.toNat), (σ0.1 218 25).toInt.toNat)) ∨ (∃ c, stp tx n mm (i, true, (lst (σ0.1 230) (σ0.1 218 22).toInt.toNat), (σ0.1 218 25).toInt.toNat) = some (some c) ∧ REL σ0.1 tx n c ∧ (σ0.1 218 11).toInt < (σ0.1 218 11).toInt ∧ (((-1 : Int32) = 0 ∧ c.2.1 = true) ∨ ((-1 : Int32) = 1 ∧ c.2.1 = false)))) ∧ (¬ σ0.1 218 14 = 0 → stp tx n mm (i, true, (lst (σ0.1 230) (σ0.1 218 22).toInt.toNat), (σ0.1 218 25).toInt.toNat) = none) ∧ (0 ≤ (σ0.1 218 25).toInt ∧ (σ0.1 218 25).toInt ≤ 24) ∧ ZB σ0.1) ∧ (σ0.1 218 7 = σ0.1 218 7 ∧ σ0.1 218 9 = σ0.1 218 9 ∧ σ0.1 218 20 = σ0.1 218 20) from ⟨by first | exact absurd hg n31 | exact absurd y31 n24 | exact ⟨hK, ⟨by skip; omega, by skip; omega⟩, fun q => absurd q (by skip; exact n31), fun _ => (stp_c k10).trans (if_pos s19), by skip; omega, hB⟩ | exact ⟨hK, ⟨by skip; omega, by skip; omega⟩, fun _ => Or.inl ⟨rfl, st1, ⟨⟨hG, hi⟩, ⟨rfl, hNP⟩, rfl, fun _ => ⟨hP, hpp⟩, fun h => Bool.noConfusion (show true = false from h)⟩⟩, fun q => absurd (by skip; exact hg) q, by skip; omega, hB⟩ | exact ⟨hK, ⟨by skip; omega, by skip; rw [s22]; omega⟩, fun _ => Or.inr ⟨_, (stp_c k10).trans (if_neg m19), ⟨⟨g75, le1⟩, ⟨by skip; rw [rfl, j63]; exact l63.symm, by skip; rw [rfl, j63]; exact n63⟩, by skip; rw [s25]; omega, fun h => Bool.noConfusion (show false = true from h), fun _ => PIL_i rfl rfl rfl rfl (by rw [j63]; exact k63) (by rw [s22]; omega) hd9 hd69 (by omega)⟩, by skip; omega, Or.inr ⟨rfl, rfl⟩⟩, fun q => absurd (by skip; exact y31) q, by skip; rw [s25]; omega, hB⟩ | exact ⟨hK, ⟨by skip; omega, by omega⟩, fun _ => Or.inr ⟨_, stp_p m10 ⟨k86, t93⟩, ⟨⟨RX_i rfl rfl rfl rfl rfl ((hT.2 224 (by decide)).trans tE) nE pK, le1⟩, ⟨by rw [rfl]; exact l129.2.symm, by rw [rfl]; exact NP_le hNP (by omega)⟩, by skip, fun _ => ⟨h129, popP_i _⟩, fun h => Bool.noConfusion (show true = false from h)⟩, by skip; omega, Or.inl ⟨rfl, rfl⟩⟩, fun q => absurd (by skip; exact hg) q, by skip; omega, hB⟩, rfl, rfl, rfl⟩)⟩
  · have w10 := hqv2.resolve_left (fun q => hc4 q.1)
    have k10 : isCb (tkK tx n i) := pK.2.1 ▸ w10.2
    have l12 := hK.2.1 (fun q => by have c9 := w10.2; rw [q] at c9; revert c9; unfold isCb; decide)
    have k48 := rk_s w10.1
    refine ok_gI rfl ?_
    refine ok_if (fun hc21 => ?_) (fun hc21 => ?_)
    · have s19 : (σ0.1 218 25).toInt.toNat = 24 := by rw [hc21]; rfl
      refine ok_gC rfl ?_
      refine ok_zbT (Q := fun V σ => (TOK σ.1 ∧ ¬ σ.1 218 14 = 0) ∧ (σ.1 218 7 = σ0.1 218 7 ∧ σ.1 218 9 = σ0.1 218 9 ∧ σ.1 218 10 = σ0.1 218 10 ∧ σ.1 218 11 = σ0.1 218 11 ∧ σ.1 218 12 = σ0.1 218 12 ∧ σ.1 218 13 = σ0.1 218 13 ∧ σ.1 218 20 = σ0.1 218 20 ∧ σ.1 218 22 = σ0.1 218 22 ∧ σ.1 218 23 = σ0.1 218 23 ∧ σ.1 218 24 = σ0.1 218 24 ∧ σ.1 218 25 = σ0.1 218 25)) hT (s_X12_errs hN (hR.tr hT) (hK) (by rw [hT.2 224 (by decide)]; exact hY) (by decide)) (by decide) (fun v22 σ23 hOσ23 hT hqv22 => ?_)
      have hqv22 : (TOK σ23.1 ∧ ¬ σ23.1 218 14 = 0) ∧ (σ23.1 218 7 = σ0.1 218 7 ∧ σ23.1 218 9 = σ0.1 218 9 ∧ σ23.1 218 10 = σ0.1 218 10 ∧ σ23.1 218 11 = σ0.1 218 11 ∧ σ23.1 218 12 = σ0.1 218 12 ∧ σ23.1 218 13 = σ0.1 218 13 ∧ σ23.1 218 20 = σ0.1 218 20 ∧ σ23.1 218 22 = σ0.1 218 22 ∧ σ23.1 218 23 = σ0.1 218 23 ∧ σ23.1 218 24 = σ0.1 218 24 ∧ σ23.1 218 25 = σ0.1 218 25) := hqv22
      have hkv22 := hqv22
      have hqv22 := hqv22.1
      have r230_σ23 : σ23.1 230 = σ0.1 230 := hOσ23.2 230 (by decide)
      have hK : TOK σ23.1 := by first | exact hqv22.1 | exact hqv22.1.1 | exact TOK_p eσ23 (by decide) hK
      have hB : ZB σ23.1 := ZB.tr hOσ23 (by decide) hB
      have g7_σ23 : σ23.1 218 7 = (σ0.1 218 7) := hkv22.2.1
      have g9_σ23 : σ23.1 218 9 = (σ0.1 218 9) := hkv22.2.2.1
      have g10_σ23 : σ23.1 218 10 = (σ0.1 218 10) := hkv22.2.2.2.1
      have g11_σ23 : σ23.1 218 11 = (σ0.1 218 11) := hkv22.2.2.2.2.1
      have g12_σ23 : σ23.1 218 12 = (σ0.1 218 12) := hkv22.2.2.2.2.2.1
      have g13_σ23 : σ23.1 218 13 = (σ0.1 218 13) := hkv22.2.2.2.2.2.2.1
      have g20_σ23 : σ23.1 218 20 = (σ0.1 218 20) := hkv22.2.2.2.2.2.2.2.1
      have g22_σ23 : σ23.1 218 22 = (σ0.1 218 22) := hkv22.2.2.2.2.2.2.2.2.1
      have g23_σ23 : σ23.1 218 23 = (σ0.1 218 23) := hkv22.2.2.2.2.2.2.2.2.2.1
      have g24_σ23 : σ23.1 218 24 = (σ0.1 218 24) := hkv22.2.2.2.2.2.2.2.2.2.2.1
      have g25_σ23 : σ23.1 218 25 = (σ0.1 218 25) := hkv22.2.2.2.2.2.2.2.2.2.2.2
      have n24 := hqv22.2
      rw [J_X12_goesBehind_27.eq_1]
      refine ok_gC rfl ?_
      refine ok_zbX (Q := fun V => (V = 0 → ¬ σ23.1 218 14 = 0) ∧ (¬ V = 0 → σ23.1 218 14 = 0)) (x_X12_good) (fun v24 hqv24 => ?_)
      have hqv24 : (v24 = 0 → ¬ σ23.1 218 14 = 0) ∧ (¬ v24 = 0 → σ23.1 218 14 = 0) := hqv24
      try simp only [g7_σ23, g9_σ23, g10_σ23, g11_σ23, g12_σ23, g13_σ23, g20_σ23, g22_σ23, g23_σ23, g24_σ23, g25_σ23, hT.2 224 (by decide)] at hqv24
      refine ok_if (fun hc26 => ?_) (fun hc26 => ?_)
      · have qhc26 := hqv24.1 hc26
        have n31 := qhc26
        exact ok_some ⟨hT, (show (TOK σ23.1 ∧ ((σ0.1 218 11).toInt ≤ (σ23.1 218 11).toInt ∧ 0 ≤ (σ23.1 218 22).toInt ∧ (σ23.1 218 22).toInt ≤ 40) ∧ (σ23.1 218 14 = 0 → ((-1 : Int32) = -1 ∧ stp tx n mm (i, true, (lst (σ0.1 230) (σ0.1 218 22).toInt.toNat), (σ0.1 218 25).toInt.toNat) = some none ∧ REL σ23.1 tx n (i, true, (lst (σ0.1 230) (σ0.1 218 22).toInt.toNat), (σ0.1 218 25).toInt.toNat)) ∨ (∃ c, stp tx n mm (i, true, (lst (σ0.1 230) (σ0.1 218 22).toInt.toNat), (σ0.1 218 25).toInt.toNat) = some (some c) ∧ REL σ23.1 tx n c ∧ (σ0.1 218 11).toInt < (σ23.1 218 11).toInt ∧ (((-1 : Int32) = 0 ∧ c.2.1 = true) ∨ ((-1 : Int32) = 1 ∧ c.2.1 = false)))) ∧ (¬ σ23.1 218 14 = 0 → stp tx n mm (i, true, (lst (σ0.1 230) (σ0.1 218 22).toInt.toNat), (σ0.1 218 25).toInt.toNat) = none) ∧ (0 ≤ (σ23.1 218 25).toInt ∧ (σ23.1 218 25).toInt ≤ 24) ∧ ZB σ23.1) ∧ (σ23.1 218 7 = σ0.1 218 7 ∧ σ23.1 218 9 = σ0.1 218 9 ∧ σ23.1 218 20 = σ0.1 218 20) from ⟨by first | exact absurd hg n31 | exact absurd y31 n24 | exact ⟨hK, ⟨by (try simp only [g7_σ23, g9_σ23, g10_σ23, g11_σ23, g12_σ23, g13_σ23, g20_σ23, g22_σ23, g23_σ23, g24_σ23, g25_σ23]); omega, by (try simp only [g7_σ23, g9_σ23, g10_σ23, g11_σ23, g12_σ23, g13_σ23, g20_σ23, g22_σ23, g23_σ23, g24_σ23, g25_σ23]); omega⟩, fun q => absurd q (by (try simp only [g7_σ23, g9_σ23, g10_σ23, g11_σ23, g12_σ23, g13_σ23, g20_σ23, g22_σ23, g23_σ23, g24_σ23, g25_σ23]); exact n31), fun _ => (stp_c k10).trans (if_pos s19), by (try simp only [g7_σ23, g9_σ23, g10_σ23, g11_σ23, g12_σ23, g13_σ23, g20_σ23, g22_σ23, g23_σ23, g24_σ23, g25_σ23]); omega, hB⟩ | exact ⟨hK, ⟨by (try simp only [g7_σ23, g9_σ23, g10_σ23, g11_σ23, g12_σ23, g13_σ23, g20_σ23, g22_σ23, g23_σ23, g24_σ23, g25_σ23]); omega, by (try simp only [g7_σ23, g9_σ23, g10_σ23, g11_σ23, g12_σ23, g13_σ23, g20_σ23, g22_σ23, g23_σ23, g24_σ23, g25_σ23]); omega⟩, fun _ => Or.inl ⟨rfl, st1, ⟨⟨hG, hi⟩, ⟨rfl, hNP⟩, rfl, fun _ => ⟨hP, hpp⟩, fun h => Bool.noConfusion (show true = false from h)⟩⟩, fun q => absurd (by (try simp only [g7_σ23, g9_σ23, g10_σ23, g11_σ23, g12_σ23, g13_σ23, g20_σ23, g22_σ23, g23_σ23, g24_σ23, g25_σ23]); exact hg) q, by (try simp only [g7_σ23, g9_σ23, g10_σ23, g11_σ23, g12_σ23, g13_σ23, g20_σ23, g22_σ23, g23_σ23, g24_σ23, g25_σ23]); omega, hB⟩ | exact ⟨hK, ⟨by (try simp only [g7_σ23, g9_σ23, g10_σ23, g11_σ23, g12_σ23, g13_σ23, g20_σ23, g22_σ23, g23_σ23, g24_σ23, g25_σ23]); omega, by (try simp only [g7_σ23, g9_σ23, g10_σ23, g11_σ23, g12_σ23, g13_σ23, g20_σ23, g22_σ23, g23_σ23, g24_σ23, g25_σ23]); rw [s22]; omega⟩, fun _ => Or.inr ⟨_, (stp_c k10).trans (if_neg m19), ⟨⟨g75, le1⟩, ⟨by (try simp only [g7_σ23, g9_σ23, g10_σ23, g11_σ23, g12_σ23, g13_σ23, g20_σ23, g22_σ23, g23_σ23, g24_σ23, g25_σ23]); rw [r230_σ23, j63]; exact l63.symm, by (try simp only [g7_σ23, g9_σ23, g10_σ23, g11_σ23, g12_σ23, g13_σ23, g20_σ23, g22_σ23, g23_σ23, g24_σ23, g25_σ23]); rw [r230_σ23, j63]; exact n63⟩, by (try simp only [g7_σ23, g9_σ23, g10_σ23, g11_σ23, g12_σ23, g13_σ23, g20_σ23, g22_σ23, g23_σ23, g24_σ23, g25_σ23]); rw [s25]; omega, fun h => Bool.noConfusion (show false = true from h), fun _ => PIL_i g22_σ23 g23_σ23 g24_σ23 r230_σ23 (by rw [j63]; exact k63) (by rw [s22]; omega) hd9 hd69 (by omega)⟩, by (try simp only [g7_σ23, g9_σ23, g10_σ23, g11_σ23, g12_σ23, g13_σ23, g20_σ23, g22_σ23, g23_σ23, g24_σ23, g25_σ23]); omega, Or.inr ⟨rfl, rfl⟩⟩, fun q => absurd (by (try simp only [g7_σ23, g9_σ23, g10_σ23, g11_σ23, g12_σ23, g13_σ23, g20_σ23, g22_σ23, g23_σ23, g24_σ23, g25_σ23]); exact y31) q, by (try simp only [g7_σ23, g9_σ23, g10_σ23, g11_σ23, g12_σ23, g13_σ23, g20_σ23, g22_σ23, g23_σ23, g24_σ23, g25_σ23]); rw [s25]; omega, hB⟩ | exact ⟨hK, ⟨by (try simp only [g7_σ23, g9_σ23, g10_σ23, g11_σ23, g12_σ23, g13_σ23, g20_σ23, g22_σ23, g23_σ23, g24_σ23, g25_σ23]); omega, by omega⟩, fun _ => Or.inr ⟨_, stp_p m10 ⟨k86, t93⟩, ⟨⟨RX_i g9_σ23 g10_σ23 g11_σ23 g12_σ23 g13_σ23 ((hT.2 224 (by decide)).trans tE) nE pK, le1⟩, ⟨by rw [r230_σ23]; exact l129.2.symm, by rw [r230_σ23]; exact NP_le hNP (by omega)⟩, by (try simp only [g7_σ23, g9_σ23, g10_σ23, g11_σ23, g12_σ23, g13_σ23, g20_σ23, g22_σ23, g23_σ23, g24_σ23, g25_σ23]), fun _ => ⟨h129, popP_i _⟩, fun h => Bool.noConfusion (show true = false from h)⟩, by (try simp only [g7_σ23, g9_σ23, g10_σ23, g11_σ23, g12_σ23, g13_σ23, g20_σ23, g22_σ23, g23_σ23, g24_σ23, g25_σ23]); omega, Or.inl ⟨rfl, rfl⟩⟩, fun q => absurd (by (try simp only [g7_σ23, g9_σ23, g10_σ23, g11_σ23, g12_σ23, g13_σ23, g20_σ23, g22_σ23, g23_σ23, g24_σ23, g25_σ23]); exact hg) q, by (try simp only [g7_σ23, g9_σ23, g10_σ23, g11_σ23, g12_σ23, g13_σ23, g20_σ23, g22_σ23, g23_σ23, g24_σ23, g25_σ23]); omega, hB⟩, g7_σ23, g9_σ23, g20_σ23⟩)⟩
      · have qhc26 := hqv24.2 hc26
        have y31 := qhc26
        refine ok_gIv rfl g25_σ23 ?_
        refine ok_pI hT rfl (by decide) (fun σ28 eσ28 hOσ28 hT => ?_)
        have r230_σ28 : σ28.1 230 = σ0.1 230 := (hOσ28.2 230 (by decide)).trans r230_σ23
        have hK : TOK σ28.1 := by first | exact HQ.1 | exact HQ.1.1 | exact TOK_p eσ28 (by decide) hK
        have hB : ZB σ28.1 := ZB.tr hOσ28 (by decide) hB
        have g7_σ28 : σ28.1 218 7 = (σ0.1 218 7) := (zI_atN eσ28 (by decide)).trans g7_σ23
        have g9_σ28 : σ28.1 218 9 = (σ0.1 218 9) := (zI_atN eσ28 (by decide)).trans g9_σ23
        have g10_σ28 : σ28.1 218 10 = (σ0.1 218 10) := (zI_atN eσ28 (by decide)).trans g10_σ23
        have g11_σ28 : σ28.1 218 11 = (σ0.1 218 11) := (zI_atN eσ28 (by decide)).trans g11_σ23
        have g12_σ28 : σ28.1 218 12 = (σ0.1 218 12) := (zI_atN eσ28 (by decide)).trans g12_σ23
        have g13_σ28 : σ28.1 218 13 = (σ0.1 218 13) := (zI_atN eσ28 (by decide)).trans g13_σ23
        have g14_σ28 : σ28.1 218 14 = (σ23.1 218 14) := zI_atN eσ28 (by decide)
        have g15_σ28 : σ28.1 218 15 = (σ23.1 218 15) := zI_atN eσ28 (by decide)
        have g20_σ28 : σ28.1 218 20 = (σ0.1 218 20) := (zI_atN eσ28 (by decide)).trans g20_σ23
        have g22_σ28 : σ28.1 218 22 = (σ0.1 218 22) := (zI_atN eσ28 (by decide)).trans g22_σ23
        have g23_σ28 : σ28.1 218 23 = (σ0.1 218 23) := (zI_atN eσ28 (by decide)).trans g23_σ23
        have g24_σ28 : σ28.1 218 24 = (σ0.1 218 24) := (zI_atN eσ28 (by decide)).trans g24_σ23
        have g25_σ28 : σ28.1 218 25 = ((σ0.1 218 25) + 1) := zI_atI eσ28
        refine ok_zbX (Q := fun V => V = rkI v2) (x_X12_rank) (fun v29 hqv29 => ?_)
        have hqv29 : v29 = rkI v2 := hqv29
        try simp only [g7_σ28, g9_σ28, g10_σ28, g11_σ28, g12_σ28, g13_σ28, g14_σ28, g15_σ28, g20_σ28, g22_σ28, g23_σ28, g24_σ28, g25_σ28, hT.2 224 (by decide)] at hqv29
        have e48 := hqv29
        refine ok_gC rfl ?_
        refine ok_zbT (Q := fun V σ => (TOK σ.1 ∧ ZB σ.1 ∧ PIL σ.1 1 ∧ ((σ.1 218 22).toInt.toNat ≤ (σ28.1 218 22).toInt.toNat ∧ lst (σ28.1 230) (σ.1 218 22).toInt.toNat = popP (lst (σ28.1 230) (σ28.1 218 22).toInt.toNat)) ∧ ((σ.1 218 22).toInt ≤ 0 ∨ (rkI (σ28.1 230 ((σ.1 218 22) - 1).toNatClampNeg)).toInt < v29.toInt)) ∧ (σ.1 218 7 = σ28.1 218 7 ∧ σ.1 218 9 = σ28.1 218 9 ∧ σ.1 218 10 = σ28.1 218 10 ∧ σ.1 218 11 = σ28.1 218 11 ∧ σ.1 218 12 = σ28.1 218 12 ∧ σ.1 218 13 = σ28.1 218 13 ∧ σ.1 218 14 = σ28.1 218 14 ∧ σ.1 218 15 = σ28.1 218 15 ∧ σ.1 218 20 = σ28.1 218 20 ∧ σ.1 218 25 = σ28.1 218 25)) hT (s_X12_settlesTo_r hN (hR.tr hT) (hK) (by rw [hT.2 224 (by decide)]; exact hY) (hB) (by (try simp only [g7_σ28, g9_σ28, g10_σ28, g11_σ28, g12_σ28, g13_σ28, g14_σ28, g15_σ28, g20_σ28, g22_σ28, g23_σ28, g24_σ28, g25_σ28]); exact ha) (PIL_i g22_σ28 g23_σ28 g24_σ28 r230_σ28 hS h22 hd hd6 hp) (by rw [e48]; exact k48.1) (by (try simp only [g7_σ28, g9_σ28, g10_σ28, g11_σ28, g12_σ28, g13_σ28, g14_σ28, g15_σ28, g20_σ28, g22_σ28, g23_σ28, g24_σ28, g25_σ28]); rw [r230_σ28]; exact hNP) (by (try simp only [g7_σ28, g9_σ28, g10_σ28, g11_σ28, g12_σ28, g13_σ28, g14_σ28, g15_σ28, g20_σ28, g22_σ28, g23_σ28, g24_σ28, g25_σ28]); rw [r230_σ28]; exact Or.inr hpp)) (by decide) (fun v31 σ32 hOσ32 hT hqv31 => ?_)
        have hqv31 : (TOK σ32.1 ∧ ZB σ32.1 ∧ PIL σ32.1 1 ∧ ((σ32.1 218 22).toInt.toNat ≤ (σ28.1 218 22).toInt.toNat ∧ lst (σ28.1 230) (σ32.1 218 22).toInt.toNat = popP (lst (σ28.1 230) (σ28.1 218 22).toInt.toNat)) ∧ ((σ32.1 218 22).toInt ≤ 0 ∨ (rkI (σ28.1 230 ((σ32.1 218 22) - 1).toNatClampNeg)).toInt < v29.toInt)) ∧ (σ32.1 218 7 = σ28.1 218 7 ∧ σ32.1 218 9 = σ28.1 218 9 ∧ σ32.1 218 10 = σ28.1 218 10 ∧ σ32.1 218 11 = σ28.1 218 11 ∧ σ32.1 218 12 = σ28.1 218 12 ∧ σ32.1 218 13 = σ28.1 218 13 ∧ σ32.1 218 14 = σ28.1 218 14 ∧ σ32.1 218 15 = σ28.1 218 15 ∧ σ32.1 218 20 = σ28.1 218 20 ∧ σ32.1 218 25 = σ28.1 218 25) := hqv31
        have hkv31 := hqv31
        have hqv31 := hqv31.1
        have r230_σ32 : σ32.1 230 = σ0.1 230 := (hOσ32.2 230 (by decide)).trans r230_σ28
        have hK : TOK σ32.1 := by first | exact hqv31.1 | exact hqv31.1.1 | exact TOK_p eσ32 (by decide) hK
        have hB : ZB σ32.1 := hqv31.2.1
        try simp only [g7_σ28, g9_σ28, g10_σ28, g11_σ28, g12_σ28, g13_σ28, g14_σ28, g15_σ28, g20_σ28, g22_σ28, g23_σ28, g24_σ28, g25_σ28] at hqv31
        have g7_σ32 : σ32.1 218 7 = (σ0.1 218 7) := (hkv31.2.1).trans g7_σ28
        have g9_σ32 : σ32.1 218 9 = (σ0.1 218 9) := (hkv31.2.2.1).trans g9_σ28
        have g10_σ32 : σ32.1 218 10 = (σ0.1 218 10) := (hkv31.2.2.2.1).trans g10_σ28
        have g11_σ32 : σ32.1 218 11 = (σ0.1 218 11) := (hkv31.2.2.2.2.1).trans g11_σ28
        have g12_σ32 : σ32.1 218 12 = (σ0.1 218 12) := (hkv31.2.2.2.2.2.1).trans g12_σ28
        have g13_σ32 : σ32.1 218 13 = (σ0.1 218 13) := (hkv31.2.2.2.2.2.2.1).trans g13_σ28
        have g14_σ32 : σ32.1 218 14 = (σ23.1 218 14) := (hkv31.2.2.2.2.2.2.2.1).trans g14_σ28
        have g15_σ32 : σ32.1 218 15 = (σ23.1 218 15) := (hkv31.2.2.2.2.2.2.2.2.1).trans g15_σ28
        have g20_σ32 : σ32.1 218 20 = (σ0.1 218 20) := (hkv31.2.2.2.2.2.2.2.2.2.1).trans g20_σ28
        have g25_σ32 : σ32.1 218 25 = ((σ0.1 218 25) + 1) := (hkv31.2.2.2.2.2.2.2.2.2.2).trans g25_σ28
        have h51 := hqv31.2.2.1
        have b51 := PIL_b h51 (by decide)
        obtain ⟨b9, d9, r9, hS9, h9, hd9, hd69, hp9⟩ := h51
        rw [r230_σ32] at hS9
        have x51 := hqv31.2.2.2.2
        have l51 := hqv31.2.2.2.1
        have o51 : σ28.1 230 = σ0.1 230 := (hOσ32.2 230 (by decide)).symm.trans r230_σ32
        rw [o51, e48] at x51
        rw [o51] at l51
        have t51 := Stk_top2 hS9 h9 k48.1 x51
        have s22 : ((σ32.1 218 22) + 1).toInt = (σ32.1 218 22).toInt + 1 := by rw [ti_add]; simp only [Int32.reduceToInt]; omega
        refine ok_gR (v := 230) hT rfl (hR 218 21 rfl) ?_
        refine ok_gI rfl ?_
        refine ok_s14 hT rfl (by decide) (by ((try simp only [g7_σ32, g9_σ32, g10_σ32, g11_σ32, g12_σ32, g13_σ32, g14_σ32, g15_σ32, g20_σ32, g25_σ32])); first | omega | decide | (simp only [Int32.le_iff_toInt_le, Int32.lt_iff_toInt_lt, ti_add, ti_sub, ti_mul, Int32.reduceToInt] at *; omega)) (by ((try simp only [g7_σ32, g9_σ32, g10_σ32, g11_σ32, g12_σ32, g13_σ32, g14_σ32, g15_σ32, g20_σ32, g25_σ32])); first | omega | decide | (simp only [Int32.le_iff_toInt_le, Int32.lt_iff_toInt_lt, ti_add, ti_sub, ti_mul, Int32.reduceToInt] at *; omega)) (fun σ35 eσ35 hOσ35 hT => ?_)
        have a63 := zI_atI eσ35
        have i63 : ((σ32.1 218 22)).toNatClampNeg = ((σ32.1 218 22)).toInt.toNat := rfl
        have k63 : Stk (σ35.1 230) (((σ32.1 218 22)).toInt.toNat + 1) (b9 + 1) d9 (rkI (v2)).toInt.toNat := Stk_sign hS9 (fun k hk => by rw [zI_atN eσ35 (by rw [i63]; omega)]; exact congrFun r230_σ32 k) (by rw [← i63, a63]; exact w10.1) (by rw [← i63, a63]; omega) (by omega)
        have j63 : ((σ32.1 218 22) + 1).toInt.toNat = ((σ32.1 218 22)).toInt.toNat + 1 := by rw [s22]; omega
        have e63 : (σ35.1 230 ((σ32.1 218 22)).toInt.toNat).toInt < 50 := by rw [show σ35.1 230 ((σ32.1 218 22)).toInt.toNat = (v2) from a63]; omega
        have c63 : ∀ k, k < ((σ32.1 218 22)).toInt.toNat → σ35.1 230 k = σ0.1 230 k := fun k hk => by rw [zI_atN eσ35 (by rw [i63]; omega)]; exact congrFun r230_σ32 k
        have l63 : lst (σ35.1 230) (((σ32.1 218 22)).toInt.toNat + 1) = (lst (σ0.1 230) (σ0.1 218 22).toInt.toNat) := by rw [lst_s e63, lst_c c63, l51.2, hpp]
        have n63 : NP (σ35.1 230) (((σ32.1 218 22)).toInt.toNat + 1) := ⟨NP_c c63 (NP_le hNP l51.1), fun _ => by rw [lst_c c63, l51.2]; exact popP_i _⟩
        have hK : TOK σ35.1 := TOK_tr hOσ35 (by decide) (by decide) hK
        have hB : ZB σ35.1 := ZB.tr hOσ35 (by decide) hB
        have g7_σ35 : σ35.1 218 7 = (σ0.1 218 7) := (congrFun (hOσ35.2 218 (by decide)) 7).trans g7_σ32
        have g9_σ35 : σ35.1 218 9 = (σ0.1 218 9) := (congrFun (hOσ35.2 218 (by decide)) 9).trans g9_σ32
        have g10_σ35 : σ35.1 218 10 = (σ0.1 218 10) := (congrFun (hOσ35.2 218 (by decide)) 10).trans g10_σ32
        have g11_σ35 : σ35.1 218 11 = (σ0.1 218 11) := (congrFun (hOσ35.2 218 (by decide)) 11).trans g11_σ32
        have g12_σ35 : σ35.1 218 12 = (σ0.1 218 12) := (congrFun (hOσ35.2 218 (by decide)) 12).trans g12_σ32
        have g13_σ35 : σ35.1 218 13 = (σ0.1 218 13) := (congrFun (hOσ35.2 218 (by decide)) 13).trans g13_σ32
        have g14_σ35 : σ35.1 218 14 = (σ23.1 218 14) := (congrFun (hOσ35.2 218 (by decide)) 14).trans g14_σ32
        have g15_σ35 : σ35.1 218 15 = (σ23.1 218 15) := (congrFun (hOσ35.2 218 (by decide)) 15).trans g15_σ32
        have g20_σ35 : σ35.1 218 20 = (σ0.1 218 20) := (congrFun (hOσ35.2 218 (by decide)) 20).trans g20_σ32
        have g22_σ35 : σ35.1 218 22 = (σ32.1 218 22) := congrFun (hOσ35.2 218 (by decide)) 22
        have g23_σ35 : σ35.1 218 23 = (σ32.1 218 23) := congrFun (hOσ35.2 218 (by decide)) 23
        have g24_σ35 : σ35.1 218 24 = (σ32.1 218 24) := congrFun (hOσ35.2 218 (by decide)) 24
        have g25_σ35 : σ35.1 218 25 = ((σ0.1 218 25) + 1) := (congrFun (hOσ35.2 218 (by decide)) 25).trans g25_σ32
        refine ok_gIv rfl g22_σ35 ?_
        refine ok_pI hT rfl (by decide) (fun σ37 eσ37 hOσ37 hT => ?_)
        have r230_σ37 : σ37.1 230 = σ35.1 230 := hOσ37.2 230 (by decide)
        have hK : TOK σ37.1 := by first | exact HQ.1 | exact HQ.1.1 | exact TOK_p eσ37 (by decide) hK
        have hB : ZB σ37.1 := ZB.tr hOσ37 (by decide) hB
        have g7_σ37 : σ37.1 218 7 = (σ0.1 218 7) := (zI_atN eσ37 (by decide)).trans g7_σ35
        have g9_σ37 : σ37.1 218 9 = (σ0.1 218 9) := (zI_atN eσ37 (by decide)).trans g9_σ35
        have g10_σ37 : σ37.1 218 10 = (σ0.1 218 10) := (zI_atN eσ37 (by decide)).trans g10_σ35
        have g11_σ37 : σ37.1 218 11 = (σ0.1 218 11) := (zI_atN eσ37 (by decide)).trans g11_σ35
        have g12_σ37 : σ37.1 218 12 = (σ0.1 218 12) := (zI_atN eσ37 (by decide)).trans g12_σ35
        have g13_σ37 : σ37.1 218 13 = (σ0.1 218 13) := (zI_atN eσ37 (by decide)).trans g13_σ35
        have g14_σ37 : σ37.1 218 14 = (σ23.1 218 14) := (zI_atN eσ37 (by decide)).trans g14_σ35
        have g15_σ37 : σ37.1 218 15 = (σ23.1 218 15) := (zI_atN eσ37 (by decide)).trans g15_σ35
        have g20_σ37 : σ37.1 218 20 = (σ0.1 218 20) := (zI_atN eσ37 (by decide)).trans g20_σ35
        have g22_σ37 : σ37.1 218 22 = ((σ32.1 218 22) + 1) := zI_atI eσ37
        have g23_σ37 : σ37.1 218 23 = (σ32.1 218 23) := (zI_atN eσ37 (by decide)).trans g23_σ35
        have g24_σ37 : σ37.1 218 24 = (σ32.1 218 24) := (zI_atN eσ37 (by decide)).trans g24_σ35
        have g25_σ37 : σ37.1 218 25 = ((σ0.1 218 25) + 1) := (zI_atN eσ37 (by decide)).trans g25_σ35
        refine ok_gC rfl ?_
        refine ok_zbT (Q := fun V σ => ((TOK σ.1 ∧ (σ37.1 218 10).toInt ≤ (σ.1 218 11).toInt) ∧ RX σ.1 tx n (tkE tx n i)) ∧ (σ.1 218 7 = σ37.1 218 7 ∧ σ.1 218 9 = σ37.1 218 9 ∧ σ.1 218 14 = σ37.1 218 14 ∧ σ.1 218 15 = σ37.1 218 15 ∧ σ.1 218 20 = σ37.1 218 20 ∧ σ.1 218 22 = σ37.1 218 22 ∧ σ.1 218 23 = σ37.1 218 23 ∧ σ.1 218 24 = σ37.1 218 24 ∧ σ.1 218 25 = σ37.1 218 25)) hT (s_X12_advance_r hN (hR.tr hT) (TOK_A hK) (by rw [hT.2 224 (by decide)]; exact hY) (RX_i g9_σ37 g10_σ37 g11_σ37 g12_σ37 g13_σ37 ((hT.2 224 (by decide)).trans tE) nE pK)) (by decide) (fun v38 σ39 hOσ39 hT hqv38 => ?_)
        have hqv38 : ((TOK σ39.1 ∧ (σ37.1 218 10).toInt ≤ (σ39.1 218 11).toInt) ∧ RX σ39.1 tx n (tkE tx n i)) ∧ (σ39.1 218 7 = σ37.1 218 7 ∧ σ39.1 218 9 = σ37.1 218 9 ∧ σ39.1 218 14 = σ37.1 218 14 ∧ σ39.1 218 15 = σ37.1 218 15 ∧ σ39.1 218 20 = σ37.1 218 20 ∧ σ39.1 218 22 = σ37.1 218 22 ∧ σ39.1 218 23 = σ37.1 218 23 ∧ σ39.1 218 24 = σ37.1 218 24 ∧ σ39.1 218 25 = σ37.1 218 25) := hqv38
        have hkv38 := hqv38
        have hqv38 := hqv38.1
        have r230_σ39 : σ39.1 230 = σ35.1 230 := (hOσ39.2 230 (by decide)).trans r230_σ37
        have hK : TOK σ39.1 := by first | exact hqv38.1 | exact hqv38.1.1 | exact TOK_p eσ39 (by decide) hK
        have hB : ZB σ39.1 := ZB.tr hOσ39 (by decide) hB
        try simp only [g7_σ37, g9_σ37, g10_σ37, g11_σ37, g12_σ37, g13_σ37, g14_σ37, g15_σ37, g20_σ37, g22_σ37, g23_σ37, g24_σ37, g25_σ37] at hqv38
        have g7_σ39 : σ39.1 218 7 = (σ0.1 218 7) := (hkv38.2.1).trans g7_σ37
        have g9_σ39 : σ39.1 218 9 = (σ0.1 218 9) := (hkv38.2.2.1).trans g9_σ37
        have g14_σ39 : σ39.1 218 14 = (σ23.1 218 14) := (hkv38.2.2.2.1).trans g14_σ37
        have g15_σ39 : σ39.1 218 15 = (σ23.1 218 15) := (hkv38.2.2.2.2.1).trans g15_σ37
        have g20_σ39 : σ39.1 218 20 = (σ0.1 218 20) := (hkv38.2.2.2.2.2.1).trans g20_σ37
        have g22_σ39 : σ39.1 218 22 = ((σ32.1 218 22) + 1) := (hkv38.2.2.2.2.2.2.1).trans g22_σ37
        have g23_σ39 : σ39.1 218 23 = (σ32.1 218 23) := (hkv38.2.2.2.2.2.2.2.1).trans g23_σ37
        have g24_σ39 : σ39.1 218 24 = (σ32.1 218 24) := (hkv38.2.2.2.2.2.2.2.2.1).trans g24_σ37
        have g25_σ39 : σ39.1 218 25 = ((σ0.1 218 25) + 1) := (hkv38.2.2.2.2.2.2.2.2.2).trans g25_σ37
        have m75 := hqv38.1.2
        have g75 := hqv38.2
        exact ok_some ⟨hT, (show (TOK σ39.1 ∧ ((σ0.1 218 11).toInt ≤ (σ39.1 218 11).toInt ∧ 0 ≤ (σ39.1 218 22).toInt ∧ (σ39.1 218 22).toInt ≤ 40) ∧ (σ39.1 218 14 = 0 → ((1 : Int32) = -1 ∧ stp tx n mm (i, true, (lst (σ0.1 230) (σ0.1 218 22).toInt.toNat), (σ0.1 218 25).toInt.toNat) = some none ∧ REL σ39.1 tx n (i, true, (lst (σ0.1 230) (σ0.1 218 22).toInt.toNat), (σ0.1 218 25).toInt.toNat)) ∨ (∃ c, stp tx n mm (i, true, (lst (σ0.1 230) (σ0.1 218 22).toInt.toNat), (σ0.1 218 25).toInt.toNat) = some (some c) ∧ REL σ39.1 tx n c ∧ (σ0.1 218 11).toInt < (σ39.1 218 11).toInt ∧ (((1 : Int32) = 0 ∧ c.2.1 = true) ∨ ((1 : Int32) = 1 ∧ c.2.1 = false)))) ∧ (¬ σ39.1 218 14 = 0 → stp tx n mm (i, true, (lst (σ0.1 230) (σ0.1 218 22).toInt.toNat), (σ0.1 218 25).toInt.toNat) = none) ∧ (0 ≤ (σ39.1 218 25).toInt ∧ (σ39.1 218 25).toInt ≤ 24) ∧ ZB σ39.1) ∧ (σ39.1 218 7 = σ0.1 218 7 ∧ σ39.1 218 9 = σ0.1 218 9 ∧ σ39.1 218 20 = σ0.1 218 20) from ⟨by first | exact absurd hg n31 | exact absurd y31 n24 | exact ⟨hK, ⟨by (try simp only [g7_σ39, g9_σ39, g14_σ39, g15_σ39, g20_σ39, g22_σ39, g23_σ39, g24_σ39, g25_σ39]); omega, by (try simp only [g7_σ39, g9_σ39, g14_σ39, g15_σ39, g20_σ39, g22_σ39, g23_σ39, g24_σ39, g25_σ39]); omega⟩, fun q => absurd q (by (try simp only [g7_σ39, g9_σ39, g14_σ39, g15_σ39, g20_σ39, g22_σ39, g23_σ39, g24_σ39, g25_σ39]); exact n31), fun _ => (stp_c k10).trans (if_pos s19), by (try simp only [g7_σ39, g9_σ39, g14_σ39, g15_σ39, g20_σ39, g22_σ39, g23_σ39, g24_σ39, g25_σ39]); omega, hB⟩ | exact ⟨hK, ⟨by (try simp only [g7_σ39, g9_σ39, g14_σ39, g15_σ39, g20_σ39, g22_σ39, g23_σ39, g24_σ39, g25_σ39]); omega, by (try simp only [g7_σ39, g9_σ39, g14_σ39, g15_σ39, g20_σ39, g22_σ39, g23_σ39, g24_σ39, g25_σ39]); omega⟩, fun _ => Or.inl ⟨rfl, st1, ⟨⟨hG, hi⟩, ⟨rfl, hNP⟩, rfl, fun _ => ⟨hP, hpp⟩, fun h => Bool.noConfusion (show true = false from h)⟩⟩, fun q => absurd (by (try simp only [g7_σ39, g9_σ39, g14_σ39, g15_σ39, g20_σ39, g22_σ39, g23_σ39, g24_σ39, g25_σ39]); exact hg) q, by (try simp only [g7_σ39, g9_σ39, g14_σ39, g15_σ39, g20_σ39, g22_σ39, g23_σ39, g24_σ39, g25_σ39]); omega, hB⟩ | exact ⟨hK, ⟨by (try simp only [g7_σ39, g9_σ39, g14_σ39, g15_σ39, g20_σ39, g22_σ39, g23_σ39, g24_σ39, g25_σ39]); omega, by (try simp only [g7_σ39, g9_σ39, g14_σ39, g15_σ39, g20_σ39, g22_σ39, g23_σ39, g24_σ39, g25_σ39]); rw [s22]; omega⟩, fun _ => Or.inr ⟨_, (stp_c k10).trans (if_neg m19), ⟨⟨g75, le1⟩, ⟨by (try simp only [g7_σ39, g9_σ39, g14_σ39, g15_σ39, g20_σ39, g22_σ39, g23_σ39, g24_σ39, g25_σ39]); rw [r230_σ39, j63]; exact l63.symm, by (try simp only [g7_σ39, g9_σ39, g14_σ39, g15_σ39, g20_σ39, g22_σ39, g23_σ39, g24_σ39, g25_σ39]); rw [r230_σ39, j63]; exact n63⟩, by (try simp only [g7_σ39, g9_σ39, g14_σ39, g15_σ39, g20_σ39, g22_σ39, g23_σ39, g24_σ39, g25_σ39]); rw [s25]; omega, fun h => Bool.noConfusion (show false = true from h), fun _ => PIL_i g22_σ39 g23_σ39 g24_σ39 r230_σ39 (by rw [j63]; exact k63) (by rw [s22]; omega) hd9 hd69 (by omega)⟩, by (try simp only [g7_σ39, g9_σ39, g14_σ39, g15_σ39, g20_σ39, g22_σ39, g23_σ39, g24_σ39, g25_σ39]); omega, Or.inr ⟨rfl, rfl⟩⟩, fun q => absurd (by (try simp only [g7_σ39, g9_σ39, g14_σ39, g15_σ39, g20_σ39, g22_σ39, g23_σ39, g24_σ39, g25_σ39]); exact y31) q, by (try simp only [g7_σ39, g9_σ39, g14_σ39, g15_σ39, g20_σ39, g22_σ39, g23_σ39, g24_σ39, g25_σ39]); rw [s25]; omega, hB⟩ | exact ⟨hK, ⟨by (try simp only [g7_σ39, g9_σ39, g14_σ39, g15_σ39, g20_σ39, g22_σ39, g23_σ39, g24_σ39, g25_σ39]); omega, by omega⟩, fun _ => Or.inr ⟨_, stp_p m10 ⟨k86, t93⟩, ⟨⟨RX_i g9_σ39 rfl rfl rfl rfl ((hT.2 224 (by decide)).trans tE) nE pK, le1⟩, ⟨by rw [r230_σ39]; exact l129.2.symm, by rw [r230_σ39]; exact NP_le hNP (by omega)⟩, by (try simp only [g7_σ39, g9_σ39, g14_σ39, g15_σ39, g20_σ39, g22_σ39, g23_σ39, g24_σ39, g25_σ39]), fun _ => ⟨h129, popP_i _⟩, fun h => Bool.noConfusion (show true = false from h)⟩, by (try simp only [g7_σ39, g9_σ39, g14_σ39, g15_σ39, g20_σ39, g22_σ39, g23_σ39, g24_σ39, g25_σ39]); omega, Or.inl ⟨rfl, rfl⟩⟩, fun q => absurd (by (try simp only [g7_σ39, g9_σ39, g14_σ39, g15_σ39, g20_σ39, g22_σ39, g23_σ39, g24_σ39, g25_σ39]); exact hg) q, by (try simp only [g7_σ39, g9_σ39, g14_σ39, g15_σ39, g20_σ39, g22_σ39, g23_σ39, g24_σ39, g25_σ39]); omega, hB⟩, g7_σ39, g9_σ39, g20_σ39⟩)⟩
    · have m19 : ¬ (σ0.1 218 25).toInt.toNat = 24 := fun q => hc21 (Int32.toInt_inj.mp (by show (σ0.1 218 25).toInt = 24; omega))
      have n19 : (σ0.1 218 25).toInt ≠ 24 := fun q => hc21 (Int32.toInt_inj.mp q)
      have s25 : ((σ0.1 218 25) + 1).toInt = (σ0.1 218 25).toInt + 1 := by rw [ti_add]; simp only [Int32.reduceToInt]; omega
      rw [J_X12_goesBehind_27.eq_1]
      refine ok_gC rfl ?_
      refine ok_zbX (Q := fun V => (V = 0 → ¬ σ0.1 218 14 = 0) ∧ (¬ V = 0 → σ0.1 218 14 = 0)) (x_X12_good) (fun v40 hqv40 => ?_)
      have hqv40 : (v40 = 0 → ¬ σ0.1 218 14 = 0) ∧ (¬ v40 = 0 → σ0.1 218 14 = 0) := hqv40
      refine ok_if (fun hc42 => ?_) (fun hc42 => ?_)
      · have qhc42 := hqv40.1 hc42
        have n31 := qhc42
        exact ok_some ⟨hT, (show (TOK σ0.1 ∧ ((σ0.1 218 11).toInt ≤ (σ0.1 218 11).toInt ∧ 0 ≤ (σ0.1 218 22).toInt ∧ (σ0.1 218 22).toInt ≤ 40) ∧ (σ0.1 218 14 = 0 → ((-1 : Int32) = -1 ∧ stp tx n mm (i, true, (lst (σ0.1 230) (σ0.1 218 22).toInt.toNat), (σ0.1 218 25).toInt.toNat) = some none ∧ REL σ0.1 tx n (i, true, (lst (σ0.1 230) (σ0.1 218 22).toInt.toNat), (σ0.1 218 25).toInt.toNat)) ∨ (∃ c, stp tx n mm (i, true, (lst (σ0.1 230) (σ0.1 218 22).toInt.toNat), (σ0.1 218 25).toInt.toNat) = some (some c) ∧ REL σ0.1 tx n c ∧ (σ0.1 218 11).toInt < (σ0.1 218 11).toInt ∧ (((-1 : Int32) = 0 ∧ c.2.1 = true) ∨ ((-1 : Int32) = 1 ∧ c.2.1 = false)))) ∧ (¬ σ0.1 218 14 = 0 → stp tx n mm (i, true, (lst (σ0.1 230) (σ0.1 218 22).toInt.toNat), (σ0.1 218 25).toInt.toNat) = none) ∧ (0 ≤ (σ0.1 218 25).toInt ∧ (σ0.1 218 25).toInt ≤ 24) ∧ ZB σ0.1) ∧ (σ0.1 218 7 = σ0.1 218 7 ∧ σ0.1 218 9 = σ0.1 218 9 ∧ σ0.1 218 20 = σ0.1 218 20) from ⟨by first | exact absurd hg n31 | exact absurd y31 n24 | exact ⟨hK, ⟨by skip; omega, by skip; omega⟩, fun q => absurd q (by skip; exact n31), fun _ => (stp_c k10).trans (if_pos s19), by skip; omega, hB⟩ | exact ⟨hK, ⟨by skip; omega, by skip; omega⟩, fun _ => Or.inl ⟨rfl, st1, ⟨⟨hG, hi⟩, ⟨rfl, hNP⟩, rfl, fun _ => ⟨hP, hpp⟩, fun h => Bool.noConfusion (show true = false from h)⟩⟩, fun q => absurd (by skip; exact hg) q, by skip; omega, hB⟩ | exact ⟨hK, ⟨by skip; omega, by skip; rw [s22]; omega⟩, fun _ => Or.inr ⟨_, (stp_c k10).trans (if_neg m19), ⟨⟨g75, le1⟩, ⟨by skip; rw [rfl, j63]; exact l63.symm, by skip; rw [rfl, j63]; exact n63⟩, by skip; rw [s25]; omega, fun h => Bool.noConfusion (show false = true from h), fun _ => PIL_i rfl rfl rfl rfl (by rw [j63]; exact k63) (by rw [s22]; omega) hd9 hd69 (by omega)⟩, by skip; omega, Or.inr ⟨rfl, rfl⟩⟩, fun q => absurd (by skip; exact y31) q, by skip; rw [s25]; omega, hB⟩ | exact ⟨hK, ⟨by skip; omega, by omega⟩, fun _ => Or.inr ⟨_, stp_p m10 ⟨k86, t93⟩, ⟨⟨RX_i rfl rfl rfl rfl rfl ((hT.2 224 (by decide)).trans tE) nE pK, le1⟩, ⟨by rw [rfl]; exact l129.2.symm, by rw [rfl]; exact NP_le hNP (by omega)⟩, by skip, fun _ => ⟨h129, popP_i _⟩, fun h => Bool.noConfusion (show true = false from h)⟩, by skip; omega, Or.inl ⟨rfl, rfl⟩⟩, fun q => absurd (by skip; exact hg) q, by skip; omega, hB⟩, rfl, rfl, rfl⟩)⟩
      · have qhc42 := hqv40.2 hc42
        have y31 := qhc42
        refine ok_gI rfl ?_
        refine ok_pI hT rfl (by decide) (fun σ44 eσ44 hOσ44 hT => ?_)
        have r230_σ44 : σ44.1 230 = σ0.1 230 := hOσ44.2 230 (by decide)
        have hK : TOK σ44.1 := by first | exact HQ.1 | exact HQ.1.1 | exact TOK_p eσ44 (by decide) hK
        have hB : ZB σ44.1 := ZB.tr hOσ44 (by decide) hB
        have g7_σ44 : σ44.1 218 7 = (σ0.1 218 7) := zI_atN eσ44 (by decide)
        have g9_σ44 : σ44.1 218 9 = (σ0.1 218 9) := zI_atN eσ44 (by decide)
        have g10_σ44 : σ44.1 218 10 = (σ0.1 218 10) := zI_atN eσ44 (by decide)
        have g11_σ44 : σ44.1 218 11 = (σ0.1 218 11) := zI_atN eσ44 (by decide)
        have g12_σ44 : σ44.1 218 12 = (σ0.1 218 12) := zI_atN eσ44 (by decide)
        have g13_σ44 : σ44.1 218 13 = (σ0.1 218 13) := zI_atN eσ44 (by decide)
        have g14_σ44 : σ44.1 218 14 = (σ0.1 218 14) := zI_atN eσ44 (by decide)
        have g15_σ44 : σ44.1 218 15 = (σ0.1 218 15) := zI_atN eσ44 (by decide)
        have g20_σ44 : σ44.1 218 20 = (σ0.1 218 20) := zI_atN eσ44 (by decide)
        have g22_σ44 : σ44.1 218 22 = (σ0.1 218 22) := zI_atN eσ44 (by decide)
        have g23_σ44 : σ44.1 218 23 = (σ0.1 218 23) := zI_atN eσ44 (by decide)
        have g24_σ44 : σ44.1 218 24 = (σ0.1 218 24) := zI_atN eσ44 (by decide)
        have g25_σ44 : σ44.1 218 25 = ((σ0.1 218 25) + 1) := zI_atI eσ44
        refine ok_zbX (Q := fun V => V = rkI v2) (x_X12_rank) (fun v45 hqv45 => ?_)
        have hqv45 : v45 = rkI v2 := hqv45
        try simp only [g7_σ44, g9_σ44, g10_σ44, g11_σ44, g12_σ44, g13_σ44, g14_σ44, g15_σ44, g20_σ44, g22_σ44, g23_σ44, g24_σ44, g25_σ44, hT.2 224 (by decide)] at hqv45
        have e48 := hqv45
        refine ok_gC rfl ?_
        refine ok_zbT (Q := fun V σ => (TOK σ.1 ∧ ZB σ.1 ∧ PIL σ.1 1 ∧ ((σ.1 218 22).toInt.toNat ≤ (σ44.1 218 22).toInt.toNat ∧ lst (σ44.1 230) (σ.1 218 22).toInt.toNat = popP (lst (σ44.1 230) (σ44.1 218 22).toInt.toNat)) ∧ ((σ.1 218 22).toInt ≤ 0 ∨ (rkI (σ44.1 230 ((σ.1 218 22) - 1).toNatClampNeg)).toInt < v45.toInt)) ∧ (σ.1 218 7 = σ44.1 218 7 ∧ σ.1 218 9 = σ44.1 218 9 ∧ σ.1 218 10 = σ44.1 218 10 ∧ σ.1 218 11 = σ44.1 218 11 ∧ σ.1 218 12 = σ44.1 218 12 ∧ σ.1 218 13 = σ44.1 218 13 ∧ σ.1 218 14 = σ44.1 218 14 ∧ σ.1 218 15 = σ44.1 218 15 ∧ σ.1 218 20 = σ44.1 218 20 ∧ σ.1 218 25 = σ44.1 218 25)) hT (s_X12_settlesTo_r hN (hR.tr hT) (hK) (by rw [hT.2 224 (by decide)]; exact hY) (hB) (by (try simp only [g7_σ44, g9_σ44, g10_σ44, g11_σ44, g12_σ44, g13_σ44, g14_σ44, g15_σ44, g20_σ44, g22_σ44, g23_σ44, g24_σ44, g25_σ44]); exact ha) (PIL_i g22_σ44 g23_σ44 g24_σ44 r230_σ44 hS h22 hd hd6 hp) (by rw [e48]; exact k48.1) (by (try simp only [g7_σ44, g9_σ44, g10_σ44, g11_σ44, g12_σ44, g13_σ44, g14_σ44, g15_σ44, g20_σ44, g22_σ44, g23_σ44, g24_σ44, g25_σ44]); rw [r230_σ44]; exact hNP) (by (try simp only [g7_σ44, g9_σ44, g10_σ44, g11_σ44, g12_σ44, g13_σ44, g14_σ44, g15_σ44, g20_σ44, g22_σ44, g23_σ44, g24_σ44, g25_σ44]); rw [r230_σ44]; exact Or.inr hpp)) (by decide) (fun v47 σ48 hOσ48 hT hqv47 => ?_)
        have hqv47 : (TOK σ48.1 ∧ ZB σ48.1 ∧ PIL σ48.1 1 ∧ ((σ48.1 218 22).toInt.toNat ≤ (σ44.1 218 22).toInt.toNat ∧ lst (σ44.1 230) (σ48.1 218 22).toInt.toNat = popP (lst (σ44.1 230) (σ44.1 218 22).toInt.toNat)) ∧ ((σ48.1 218 22).toInt ≤ 0 ∨ (rkI (σ44.1 230 ((σ48.1 218 22) - 1).toNatClampNeg)).toInt < v45.toInt)) ∧ (σ48.1 218 7 = σ44.1 218 7 ∧ σ48.1 218 9 = σ44.1 218 9 ∧ σ48.1 218 10 = σ44.1 218 10 ∧ σ48.1 218 11 = σ44.1 218 11 ∧ σ48.1 218 12 = σ44.1 218 12 ∧ σ48.1 218 13 = σ44.1 218 13 ∧ σ48.1 218 14 = σ44.1 218 14 ∧ σ48.1 218 15 = σ44.1 218 15 ∧ σ48.1 218 20 = σ44.1 218 20 ∧ σ48.1 218 25 = σ44.1 218 25) := hqv47
        have hkv47 := hqv47
        have hqv47 := hqv47.1
        have r230_σ48 : σ48.1 230 = σ0.1 230 := (hOσ48.2 230 (by decide)).trans r230_σ44
        have hK : TOK σ48.1 := by first | exact hqv47.1 | exact hqv47.1.1 | exact TOK_p eσ48 (by decide) hK
        have hB : ZB σ48.1 := hqv47.2.1
        try simp only [g7_σ44, g9_σ44, g10_σ44, g11_σ44, g12_σ44, g13_σ44, g14_σ44, g15_σ44, g20_σ44, g22_σ44, g23_σ44, g24_σ44, g25_σ44] at hqv47
        have g7_σ48 : σ48.1 218 7 = (σ0.1 218 7) := (hkv47.2.1).trans g7_σ44
        have g9_σ48 : σ48.1 218 9 = (σ0.1 218 9) := (hkv47.2.2.1).trans g9_σ44
        have g10_σ48 : σ48.1 218 10 = (σ0.1 218 10) := (hkv47.2.2.2.1).trans g10_σ44
        have g11_σ48 : σ48.1 218 11 = (σ0.1 218 11) := (hkv47.2.2.2.2.1).trans g11_σ44
        have g12_σ48 : σ48.1 218 12 = (σ0.1 218 12) := (hkv47.2.2.2.2.2.1).trans g12_σ44
        have g13_σ48 : σ48.1 218 13 = (σ0.1 218 13) := (hkv47.2.2.2.2.2.2.1).trans g13_σ44
        have g14_σ48 : σ48.1 218 14 = (σ0.1 218 14) := (hkv47.2.2.2.2.2.2.2.1).trans g14_σ44
        have g15_σ48 : σ48.1 218 15 = (σ0.1 218 15) := (hkv47.2.2.2.2.2.2.2.2.1).trans g15_σ44
        have g20_σ48 : σ48.1 218 20 = (σ0.1 218 20) := (hkv47.2.2.2.2.2.2.2.2.2.1).trans g20_σ44
        have g25_σ48 : σ48.1 218 25 = ((σ0.1 218 25) + 1) := (hkv47.2.2.2.2.2.2.2.2.2.2).trans g25_σ44
        have h51 := hqv47.2.2.1
        have b51 := PIL_b h51 (by decide)
        obtain ⟨b9, d9, r9, hS9, h9, hd9, hd69, hp9⟩ := h51
        rw [r230_σ48] at hS9
        have x51 := hqv47.2.2.2.2
        have l51 := hqv47.2.2.2.1
        have o51 : σ44.1 230 = σ0.1 230 := (hOσ48.2 230 (by decide)).symm.trans r230_σ48
        rw [o51, e48] at x51
        rw [o51] at l51
        have t51 := Stk_top2 hS9 h9 k48.1 x51
        have s22 : ((σ48.1 218 22) + 1).toInt = (σ48.1 218 22).toInt + 1 := by rw [ti_add]; simp only [Int32.reduceToInt]; omega
        refine ok_gR (v := 230) hT rfl (hR 218 21 rfl) ?_
        refine ok_gI rfl ?_
        refine ok_s14 hT rfl (by decide) (by ((try simp only [g7_σ48, g9_σ48, g10_σ48, g11_σ48, g12_σ48, g13_σ48, g14_σ48, g15_σ48, g20_σ48, g25_σ48])); first | omega | decide | (simp only [Int32.le_iff_toInt_le, Int32.lt_iff_toInt_lt, ti_add, ti_sub, ti_mul, Int32.reduceToInt] at *; omega)) (by ((try simp only [g7_σ48, g9_σ48, g10_σ48, g11_σ48, g12_σ48, g13_σ48, g14_σ48, g15_σ48, g20_σ48, g25_σ48])); first | omega | decide | (simp only [Int32.le_iff_toInt_le, Int32.lt_iff_toInt_lt, ti_add, ti_sub, ti_mul, Int32.reduceToInt] at *; omega)) (fun σ51 eσ51 hOσ51 hT => ?_)
        have a63 := zI_atI eσ51
        have i63 : ((σ48.1 218 22)).toNatClampNeg = ((σ48.1 218 22)).toInt.toNat := rfl
        have k63 : Stk (σ51.1 230) (((σ48.1 218 22)).toInt.toNat + 1) (b9 + 1) d9 (rkI (v2)).toInt.toNat := Stk_sign hS9 (fun k hk => by rw [zI_atN eσ51 (by rw [i63]; omega)]; exact congrFun r230_σ48 k) (by rw [← i63, a63]; exact w10.1) (by rw [← i63, a63]; omega) (by omega)
        have j63 : ((σ48.1 218 22) + 1).toInt.toNat = ((σ48.1 218 22)).toInt.toNat + 1 := by rw [s22]; omega
        have e63 : (σ51.1 230 ((σ48.1 218 22)).toInt.toNat).toInt < 50 := by rw [show σ51.1 230 ((σ48.1 218 22)).toInt.toNat = (v2) from a63]; omega
        have c63 : ∀ k, k < ((σ48.1 218 22)).toInt.toNat → σ51.1 230 k = σ0.1 230 k := fun k hk => by rw [zI_atN eσ51 (by rw [i63]; omega)]; exact congrFun r230_σ48 k
        have l63 : lst (σ51.1 230) (((σ48.1 218 22)).toInt.toNat + 1) = (lst (σ0.1 230) (σ0.1 218 22).toInt.toNat) := by rw [lst_s e63, lst_c c63, l51.2, hpp]
        have n63 : NP (σ51.1 230) (((σ48.1 218 22)).toInt.toNat + 1) := ⟨NP_c c63 (NP_le hNP l51.1), fun _ => by rw [lst_c c63, l51.2]; exact popP_i _⟩
        have hK : TOK σ51.1 := TOK_tr hOσ51 (by decide) (by decide) hK
        have hB : ZB σ51.1 := ZB.tr hOσ51 (by decide) hB
        have g7_σ51 : σ51.1 218 7 = (σ0.1 218 7) := (congrFun (hOσ51.2 218 (by decide)) 7).trans g7_σ48
        have g9_σ51 : σ51.1 218 9 = (σ0.1 218 9) := (congrFun (hOσ51.2 218 (by decide)) 9).trans g9_σ48
        have g10_σ51 : σ51.1 218 10 = (σ0.1 218 10) := (congrFun (hOσ51.2 218 (by decide)) 10).trans g10_σ48
        have g11_σ51 : σ51.1 218 11 = (σ0.1 218 11) := (congrFun (hOσ51.2 218 (by decide)) 11).trans g11_σ48
        have g12_σ51 : σ51.1 218 12 = (σ0.1 218 12) := (congrFun (hOσ51.2 218 (by decide)) 12).trans g12_σ48
        have g13_σ51 : σ51.1 218 13 = (σ0.1 218 13) := (congrFun (hOσ51.2 218 (by decide)) 13).trans g13_σ48
        have g14_σ51 : σ51.1 218 14 = (σ0.1 218 14) := (congrFun (hOσ51.2 218 (by decide)) 14).trans g14_σ48
        have g15_σ51 : σ51.1 218 15 = (σ0.1 218 15) := (congrFun (hOσ51.2 218 (by decide)) 15).trans g15_σ48
        have g20_σ51 : σ51.1 218 20 = (σ0.1 218 20) := (congrFun (hOσ51.2 218 (by decide)) 20).trans g20_σ48
        have g22_σ51 : σ51.1 218 22 = (σ48.1 218 22) := congrFun (hOσ51.2 218 (by decide)) 22
        have g23_σ51 : σ51.1 218 23 = (σ48.1 218 23) := congrFun (hOσ51.2 218 (by decide)) 23
        have g24_σ51 : σ51.1 218 24 = (σ48.1 218 24) := congrFun (hOσ51.2 218 (by decide)) 24
        have g25_σ51 : σ51.1 218 25 = ((σ0.1 218 25) + 1) := (congrFun (hOσ51.2 218 (by decide)) 25).trans g25_σ48
        refine ok_gIv rfl g22_σ51 ?_
        refine ok_pI hT rfl (by decide) (fun σ53 eσ53 hOσ53 hT => ?_)
        have r230_σ53 : σ53.1 230 = σ51.1 230 := hOσ53.2 230 (by decide)
        have hK : TOK σ53.1 := by first | exact HQ.1 | exact HQ.1.1 | exact TOK_p eσ53 (by decide) hK
        have hB : ZB σ53.1 := ZB.tr hOσ53 (by decide) hB
        have g7_σ53 : σ53.1 218 7 = (σ0.1 218 7) := (zI_atN eσ53 (by decide)).trans g7_σ51
        have g9_σ53 : σ53.1 218 9 = (σ0.1 218 9) := (zI_atN eσ53 (by decide)).trans g9_σ51
        have g10_σ53 : σ53.1 218 10 = (σ0.1 218 10) := (zI_atN eσ53 (by decide)).trans g10_σ51
        have g11_σ53 : σ53.1 218 11 = (σ0.1 218 11) := (zI_atN eσ53 (by decide)).trans g11_σ51
        have g12_σ53 : σ53.1 218 12 = (σ0.1 218 12) := (zI_atN eσ53 (by decide)).trans g12_σ51
        have g13_σ53 : σ53.1 218 13 = (σ0.1 218 13) := (zI_atN eσ53 (by decide)).trans g13_σ51
        have g14_σ53 : σ53.1 218 14 = (σ0.1 218 14) := (zI_atN eσ53 (by decide)).trans g14_σ51
        have g15_σ53 : σ53.1 218 15 = (σ0.1 218 15) := (zI_atN eσ53 (by decide)).trans g15_σ51
        have g20_σ53 : σ53.1 218 20 = (σ0.1 218 20) := (zI_atN eσ53 (by decide)).trans g20_σ51
        have g22_σ53 : σ53.1 218 22 = ((σ48.1 218 22) + 1) := zI_atI eσ53
        have g23_σ53 : σ53.1 218 23 = (σ48.1 218 23) := (zI_atN eσ53 (by decide)).trans g23_σ51
        have g24_σ53 : σ53.1 218 24 = (σ48.1 218 24) := (zI_atN eσ53 (by decide)).trans g24_σ51
        have g25_σ53 : σ53.1 218 25 = ((σ0.1 218 25) + 1) := (zI_atN eσ53 (by decide)).trans g25_σ51
        refine ok_gC rfl ?_
        refine ok_zbT (Q := fun V σ => ((TOK σ.1 ∧ (σ53.1 218 10).toInt ≤ (σ.1 218 11).toInt) ∧ RX σ.1 tx n (tkE tx n i)) ∧ (σ.1 218 7 = σ53.1 218 7 ∧ σ.1 218 9 = σ53.1 218 9 ∧ σ.1 218 14 = σ53.1 218 14 ∧ σ.1 218 15 = σ53.1 218 15 ∧ σ.1 218 20 = σ53.1 218 20 ∧ σ.1 218 22 = σ53.1 218 22 ∧ σ.1 218 23 = σ53.1 218 23 ∧ σ.1 218 24 = σ53.1 218 24 ∧ σ.1 218 25 = σ53.1 218 25)) hT (s_X12_advance_r hN (hR.tr hT) (TOK_A hK) (by rw [hT.2 224 (by decide)]; exact hY) (RX_i g9_σ53 g10_σ53 g11_σ53 g12_σ53 g13_σ53 ((hT.2 224 (by decide)).trans tE) nE pK)) (by decide) (fun v54 σ55 hOσ55 hT hqv54 => ?_)
        have hqv54 : ((TOK σ55.1 ∧ (σ53.1 218 10).toInt ≤ (σ55.1 218 11).toInt) ∧ RX σ55.1 tx n (tkE tx n i)) ∧ (σ55.1 218 7 = σ53.1 218 7 ∧ σ55.1 218 9 = σ53.1 218 9 ∧ σ55.1 218 14 = σ53.1 218 14 ∧ σ55.1 218 15 = σ53.1 218 15 ∧ σ55.1 218 20 = σ53.1 218 20 ∧ σ55.1 218 22 = σ53.1 218 22 ∧ σ55.1 218 23 = σ53.1 218 23 ∧ σ55.1 218 24 = σ53.1 218 24 ∧ σ55.1 218 25 = σ53.1 218 25) := hqv54
        have hkv54 := hqv54
        have hqv54 := hqv54.1
        have r230_σ55 : σ55.1 230 = σ51.1 230 := (hOσ55.2 230 (by decide)).trans r230_σ53
        have hK : TOK σ55.1 := by first | exact hqv54.1 | exact hqv54.1.1 | exact TOK_p eσ55 (by decide) hK
        have hB : ZB σ55.1 := ZB.tr hOσ55 (by decide) hB
        try simp only [g7_σ53, g9_σ53, g10_σ53, g11_σ53, g12_σ53, g13_σ53, g14_σ53, g15_σ53, g20_σ53, g22_σ53, g23_σ53, g24_σ53, g25_σ53] at hqv54
        have g7_σ55 : σ55.1 218 7 = (σ0.1 218 7) := (hkv54.2.1).trans g7_σ53
        have g9_σ55 : σ55.1 218 9 = (σ0.1 218 9) := (hkv54.2.2.1).trans g9_σ53
        have g14_σ55 : σ55.1 218 14 = (σ0.1 218 14) := (hkv54.2.2.2.1).trans g14_σ53
        have g15_σ55 : σ55.1 218 15 = (σ0.1 218 15) := (hkv54.2.2.2.2.1).trans g15_σ53
        have g20_σ55 : σ55.1 218 20 = (σ0.1 218 20) := (hkv54.2.2.2.2.2.1).trans g20_σ53
        have g22_σ55 : σ55.1 218 22 = ((σ48.1 218 22) + 1) := (hkv54.2.2.2.2.2.2.1).trans g22_σ53
        have g23_σ55 : σ55.1 218 23 = (σ48.1 218 23) := (hkv54.2.2.2.2.2.2.2.1).trans g23_σ53
        have g24_σ55 : σ55.1 218 24 = (σ48.1 218 24) := (hkv54.2.2.2.2.2.2.2.2.1).trans g24_σ53
        have g25_σ55 : σ55.1 218 25 = ((σ0.1 218 25) + 1) := (hkv54.2.2.2.2.2.2.2.2.2).trans g25_σ53
        have m75 := hqv54.1.2
        have g75 := hqv54.2
        exact ok_some ⟨hT, (show (TOK σ55.1 ∧ ((σ0.1 218 11).toInt ≤ (σ55.1 218 11).toInt ∧ 0 ≤ (σ55.1 218 22).toInt ∧ (σ55.1 218 22).toInt ≤ 40) ∧ (σ55.1 218 14 = 0 → ((1 : Int32) = -1 ∧ stp tx n mm (i, true, (lst (σ0.1 230) (σ0.1 218 22).toInt.toNat), (σ0.1 218 25).toInt.toNat) = some none ∧ REL σ55.1 tx n (i, true, (lst (σ0.1 230) (σ0.1 218 22).toInt.toNat), (σ0.1 218 25).toInt.toNat)) ∨ (∃ c, stp tx n mm (i, true, (lst (σ0.1 230) (σ0.1 218 22).toInt.toNat), (σ0.1 218 25).toInt.toNat) = some (some c) ∧ REL σ55.1 tx n c ∧ (σ0.1 218 11).toInt < (σ55.1 218 11).toInt ∧ (((1 : Int32) = 0 ∧ c.2.1 = true) ∨ ((1 : Int32) = 1 ∧ c.2.1 = false)))) ∧ (¬ σ55.1 218 14 = 0 → stp tx n mm (i, true, (lst (σ0.1 230) (σ0.1 218 22).toInt.toNat), (σ0.1 218 25).toInt.toNat) = none) ∧ (0 ≤ (σ55.1 218 25).toInt ∧ (σ55.1 218 25).toInt ≤ 24) ∧ ZB σ55.1) ∧ (σ55.1 218 7 = σ0.1 218 7 ∧ σ55.1 218 9 = σ0.1 218 9 ∧ σ55.1 218 20 = σ0.1 218 20) from ⟨by first | exact absurd hg n31 | exact absurd y31 n24 | exact ⟨hK, ⟨by (try simp only [g7_σ55, g9_σ55, g14_σ55, g15_σ55, g20_σ55, g22_σ55, g23_σ55, g24_σ55, g25_σ55]); omega, by (try simp only [g7_σ55, g9_σ55, g14_σ55, g15_σ55, g20_σ55, g22_σ55, g23_σ55, g24_σ55, g25_σ55]); omega⟩, fun q => absurd q (by (try simp only [g7_σ55, g9_σ55, g14_σ55, g15_σ55, g20_σ55, g22_σ55, g23_σ55, g24_σ55, g25_σ55]); exact n31), fun _ => (stp_c k10).trans (if_pos s19), by (try simp only [g7_σ55, g9_σ55, g14_σ55, g15_σ55, g20_σ55, g22_σ55, g23_σ55, g24_σ55, g25_σ55]); omega, hB⟩ | exact ⟨hK, ⟨by (try simp only [g7_σ55, g9_σ55, g14_σ55, g15_σ55, g20_σ55, g22_σ55, g23_σ55, g24_σ55, g25_σ55]); omega, by (try simp only [g7_σ55, g9_σ55, g14_σ55, g15_σ55, g20_σ55, g22_σ55, g23_σ55, g24_σ55, g25_σ55]); omega⟩, fun _ => Or.inl ⟨rfl, st1, ⟨⟨hG, hi⟩, ⟨rfl, hNP⟩, rfl, fun _ => ⟨hP, hpp⟩, fun h => Bool.noConfusion (show true = false from h)⟩⟩, fun q => absurd (by (try simp only [g7_σ55, g9_σ55, g14_σ55, g15_σ55, g20_σ55, g22_σ55, g23_σ55, g24_σ55, g25_σ55]); exact hg) q, by (try simp only [g7_σ55, g9_σ55, g14_σ55, g15_σ55, g20_σ55, g22_σ55, g23_σ55, g24_σ55, g25_σ55]); omega, hB⟩ | exact ⟨hK, ⟨by (try simp only [g7_σ55, g9_σ55, g14_σ55, g15_σ55, g20_σ55, g22_σ55, g23_σ55, g24_σ55, g25_σ55]); omega, by (try simp only [g7_σ55, g9_σ55, g14_σ55, g15_σ55, g20_σ55, g22_σ55, g23_σ55, g24_σ55, g25_σ55]); rw [s22]; omega⟩, fun _ => Or.inr ⟨_, (stp_c k10).trans (if_neg m19), ⟨⟨g75, le1⟩, ⟨by (try simp only [g7_σ55, g9_σ55, g14_σ55, g15_σ55, g20_σ55, g22_σ55, g23_σ55, g24_σ55, g25_σ55]); rw [r230_σ55, j63]; exact l63.symm, by (try simp only [g7_σ55, g9_σ55, g14_σ55, g15_σ55, g20_σ55, g22_σ55, g23_σ55, g24_σ55, g25_σ55]); rw [r230_σ55, j63]; exact n63⟩, by (try simp only [g7_σ55, g9_σ55, g14_σ55, g15_σ55, g20_σ55, g22_σ55, g23_σ55, g24_σ55, g25_σ55]); rw [s25]; omega, fun h => Bool.noConfusion (show false = true from h), fun _ => PIL_i g22_σ55 g23_σ55 g24_σ55 r230_σ55 (by rw [j63]; exact k63) (by rw [s22]; omega) hd9 hd69 (by omega)⟩, by (try simp only [g7_σ55, g9_σ55, g14_σ55, g15_σ55, g20_σ55, g22_σ55, g23_σ55, g24_σ55, g25_σ55]); omega, Or.inr ⟨rfl, rfl⟩⟩, fun q => absurd (by (try simp only [g7_σ55, g9_σ55, g14_σ55, g15_σ55, g20_σ55, g22_σ55, g23_σ55, g24_σ55, g25_σ55]); exact y31) q, by (try simp only [g7_σ55, g9_σ55, g14_σ55, g15_σ55, g20_σ55, g22_σ55, g23_σ55, g24_σ55, g25_σ55]); rw [s25]; omega, hB⟩ | exact ⟨hK, ⟨by (try simp only [g7_σ55, g9_σ55, g14_σ55, g15_σ55, g20_σ55, g22_σ55, g23_σ55, g24_σ55, g25_σ55]); omega, by omega⟩, fun _ => Or.inr ⟨_, stp_p m10 ⟨k86, t93⟩, ⟨⟨RX_i g9_σ55 rfl rfl rfl rfl ((hT.2 224 (by decide)).trans tE) nE pK, le1⟩, ⟨by rw [r230_σ55]; exact l129.2.symm, by rw [r230_σ55]; exact NP_le hNP (by omega)⟩, by (try simp only [g7_σ55, g9_σ55, g14_σ55, g15_σ55, g20_σ55, g22_σ55, g23_σ55, g24_σ55, g25_σ55]), fun _ => ⟨h129, popP_i _⟩, fun h => Bool.noConfusion (show true = false from h)⟩, by (try simp only [g7_σ55, g9_σ55, g14_σ55, g15_σ55, g20_σ55, g22_σ55, g23_σ55, g24_σ55, g25_σ55]); omega, Or.inl ⟨rfl, rfl⟩⟩, fun q => absurd (by (try simp only [g7_σ55, g9_σ55, g14_σ55, g15_σ55, g20_σ55, g22_σ55, g23_σ55, g24_σ55, g25_σ55]); exact hg) q, by (try simp only [g7_σ55, g9_σ55, g14_σ55, g15_σ55, g20_σ55, g22_σ55, g23_σ55, g24_σ55, g25_σ55]); omega, hB⟩, g7_σ55, g9_σ55, g20_σ55⟩)⟩
end Zq11_8

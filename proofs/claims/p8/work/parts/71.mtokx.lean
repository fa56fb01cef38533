theorem see_c {n x c : Int32} {t : Nat → Int32} (hb : BYT t) (h : seeV n t x = c) (h0 : 0 ≤ c.toInt) (h1 : c.toInt ≤ 127) : x.toInt < n.toInt ∧ (t x.toNatClampNeg).toInt = c.toInt := by
  have q : ¬ n ≤ x := by
    intro q
    unfold seeV at h
    rw [if_pos q] at h
    rw [← h] at h0
    exact absurd h0 (by decide)
  have e : seeV n t x = t x.toNatClampNeg &&& 255 := if_neg q
  rw [e] at h
  rw [Int32.le_iff_toInt_le] at q
  refine ⟨by omega, ?_⟩
  have hb := hb x.toNatClampNeg
  rw [← h] at h0 h1 ⊢
  generalize t x.toNatClampNeg = v at *
  obtain ⟨k, hk, rfl⟩ : ∃ k : Nat, k < 256 ∧ v = nI k - 128 := by
    refine ⟨(v.toInt + 128).toNat, by omega, Int32.toInt_inj.mp ?_⟩
    rw [(by255 _ (by omega)).2]; omega
  have := by255 k hk
  rw [this.1] at h0 h1 ⊢
  rw [this.2] at hb ⊢
  split at h1 <;> split <;> omega
theorem see_t {n x : Int32} {t : Nat → Int32} (hb : BYT t) (h : x.toInt < n.toInt) (h0 : 0 ≤ (t x.toNatClampNeg).toInt) : seeV n t x = t x.toNatClampNeg := by
  have q : ¬ n ≤ x := by rw [Int32.le_iff_toInt_le]; omega
  have e : seeV n t x = t x.toNatClampNeg &&& 255 := if_neg q
  rw [e]
  have hb := hb x.toNatClampNeg
  generalize t x.toNatClampNeg = v at *
  obtain ⟨k, hk, rfl⟩ : ∃ k : Nat, k < 256 ∧ v = nI k - 128 := by
    refine ⟨(v.toInt + 128).toNat, by omega, Int32.toInt_inj.mp ?_⟩
    rw [(by255 _ (by omega)).2]; omega
  have := by255 k hk
  apply Int32.toInt_inj.mp
  rw [this.2] at h0 ⊢
  rw [this.1]
  split <;> omega
theorem see_p {n x : Int32} {t : Nat → Int32} (hb : BYT t) (h : x.toInt < n.toInt) : ((t x.toNatClampNeg).toInt < 0 → 128 ≤ (seeV n t x).toInt ∧ (seeV n t x).toInt ≤ 255) ∧ (0 ≤ (t x.toNatClampNeg).toInt → (seeV n t x).toInt = (t x.toNatClampNeg).toInt) := by
  have q : ¬ n ≤ x := by rw [Int32.le_iff_toInt_le]; omega
  have e : seeV n t x = t x.toNatClampNeg &&& 255 := if_neg q
  rw [e]
  have hb := hb x.toNatClampNeg
  generalize t x.toNatClampNeg = v at *
  obtain ⟨k, hk, rfl⟩ : ∃ k : Nat, k < 256 ∧ v = nI k - 128 := by
    refine ⟨(v.toInt + 128).toNat, by omega, Int32.toInt_inj.mp ?_⟩
    rw [(by255 _ (by omega)).2]; omega
  have := by255 k hk
  rw [this.2, this.1]
  split <;> omega
/-- the object's token is the text's, found from i on -/
def TKS (s : Nat → Nat → Int32) (t : Nat → Int32) (n i : Nat) : Prop := ((s 218 11).toInt = (tkF t n i : Int) ∧ (s 218 10).toInt = (tkE t n i : Int)) ∧ s 218 12 = tkK t n i ∧ (s 218 12 = 2 → (s 218 13).toInt = min 99999 (Nv t n (tkF t n i) 0 : Int))
theorem tk_0 {t : Nat → Int32} {n i f : Nat} (hf : tkF t n i = f) (h : ¬ f < n) : tkK t n i = 0 ∧ tkE t n i = f := by
  unfold tkK tkE
  simp only [hf, if_neg h, and_self]
theorem tk_1 {t : Nat → Int32} {n i f : Nat} (hf : tkF t n i = f) (h : f < n) (hl : isLt (t f)) : tkK t n i = 1 ∧ tkE t n i = Rn isLt t n f := by
  unfold tkK tkE
  simp only [hf, if_pos h, if_pos hl, and_self]
theorem tk_2 {t : Nat → Int32} {n i f : Nat} (hf : tkF t n i = f) (h : f < n) (hl : isDg (t f)) : tkK t n i = 2 ∧ tkE t n i = Rn isDg t n f := by
  have hn : ¬ isLt (t f) := fun q => by have := q.1; have := hl.2; omega
  unfold tkK tkE
  simp only [hf, if_pos h, if_neg hn, if_pos hl, and_self]
theorem tk_3 {t : Nat → Int32} {n i f : Nat} (hf : tkF t n i = f) (h : f < n) (h1 : ¬ isLt (t f)) (h2 : ¬ isDg (t f)) : tkK t n i = (if sgn (t f) then t f else 3) ∧ tkE t n i = f + 1 := by
  unfold tkK tkE
  simp only [hf, if_pos h, if_neg h1, if_neg h2, and_self]
theorem x2_X12_isSign {N : Nat} {x0 : Int32} {σ : zS} : Ok (f_X12_isSign N x0 σ) (fun r => r.2 = σ ∧ ((r.1 = 0 → ¬ sgn x0) ∧ (¬ r.1 = 0 → sgn x0))) := by
  rw [f_X12_isSign.eq_1]
  repeat' first
    | exact ok_rZ (Or.inl rfl) ⟨rfl, fun _ => by unfold sgn; simp only [*, or_self, not_false_eq_true], fun q => absurd rfl q⟩
    | refine ok_if (fun h => ok_rZ (Or.inr rfl) ⟨rfl, fun q => absurd (show (1 : Int32) = 0 from q) (by decide), fun _ => by unfold sgn; simp only [h, true_or, or_true]⟩) (fun h => ?_)
    | refine ok_if (fun h => ?_) (fun h => ok_rZ (Or.inl rfl) ⟨rfl, fun _ => by unfold sgn; simp only [*, or_self, not_false_eq_true], fun q => absurd rfl q⟩)
theorem sg_b {c : Int32} (h : sgn c) : 35 ≤ c.toInt ∧ c.toInt ≤ 125 := by
  unfold sgn at h
  rcases h with rfl | rfl | rfl | rfl | rfl | rfl | rfl | rfl | rfl | rfl | rfl | rfl | rfl | rfl <;> decide
theorem TKS_i {s : Nat → Nat → Int32} {t : Nat → Int32} {n i : Nat} {f a k v : Int32} (e11 : s 218 11 = f) (e10 : s 218 10 = a) (e12 : s 218 12 = k) (e13 : s 218 13 = v) (h1 : f.toInt = (tkF t n i : Int)) (h2 : a.toInt = (tkE t n i : Int)) (h3 : k = tkK t n i) (h4 : k = 2 → v.toInt = min 99999 (Nv t n (tkF t n i) 0 : Int)) : TKS s t n i := by
  unfold TKS
  rw [e11, e10, e12, e13]
  exact ⟨⟨h1, h2⟩, h3, h4⟩
theorem zmin5 {v c : Int32} {r : Nat} (h : v.toInt = min 99999 (r : Int)) (hc : 48 ≤ c.toInt ∧ c.toInt ≤ 57) : (zmin 99999 (10 * v + c - 48)).toInt = min 99999 ((10 * r + (c.toInt - 48).toNat : Nat) : Int) := by
  have hv : 0 ≤ v.toInt ∧ v.toInt ≤ 99999 := by omega
  have m : (10 * v).toInt = 10 * v.toInt := by
    rw [ti_mul]; simp only [Int32.reduceToInt]
    obtain ⟨w, hw⟩ : ∃ w, w = 10 * v.toInt := ⟨_, rfl⟩
    rw [← hw]; omega
  have a : (10 * v + c).toInt = 10 * v.toInt + c.toInt := by
    rw [ti_add, m]
    obtain ⟨w, hw⟩ : ∃ w, w = 10 * v.toInt := ⟨_, rfl⟩
    rw [← hw]; omega
  have b : (10 * v + c - 48).toInt = 10 * v.toInt + c.toInt - 48 := by
    rw [ti_sub, a]; simp only [Int32.reduceToInt]
    obtain ⟨w, hw⟩ : ∃ w, w = 10 * v.toInt := ⟨_, rfl⟩
    rw [← hw]; omega
  rw [ti_zmin, b]
  simp only [Int32.reduceToInt]
  split <;> omega

set_option maxHeartbeats 4000000 in
set_option maxRecDepth 100000 in
theorem s_X12_advance_x {N : Nat} (hN : 1048576 ≤ N)  {σ0 : zS}  (hR : RF σ0.2.2) (hA : (0 ≤ (σ0.1 218 10).toInt ∧ (σ0.1 218 10).toInt ≤ (σ0.1 218 9).toInt) ∧ (σ0.1 218 9).toInt ≤ 600) (hY : BYT (σ0.1 224)) : Ok (f_X12_advance N 218 σ0) (fun r => Tr [218] σ0 r.2 ∧ ((TKS r.2.1 (σ0.1 224) (σ0.1 218 9).toInt.toNat (σ0.1 218 10).toInt.toNat) ∧ (r.2.1 218 7 = σ0.1 218 7 ∧ r.2.1 218 9 = σ0.1 218 9 ∧ r.2.1 218 14 = σ0.1 218 14 ∧ r.2.1 218 15 = σ0.1 218 15 ∧ r.2.1 218 20 = σ0.1 218 20 ∧ r.2.1 218 22 = σ0.1 218 22 ∧ r.2.1 218 23 = σ0.1 218 23 ∧ r.2.1 218 24 = σ0.1 218 24 ∧ r.2.1 218 25 = σ0.1 218 25))) := by
  have hT : Tr [218] σ0 σ0 := Tr.rf
  have hA1 := hA.1
  have hA2 := hA.2
  rw [f_X12_advance.eq_1]
  refine ok_lp (fun t : zS => Tr [218] σ0 (t) ∧ (((σ0.1 218 10).toInt ≤ ((t).1 218 10).toInt ∧ ((t).1 218 10).toInt ≤ (σ0.1 218 9).toInt) ∧ Rn isSp (σ0.1 224) (σ0.1 218 9).toInt.toNat (σ0.1 218 10).toInt.toNat = Rn isSp (σ0.1 224) (σ0.1 218 9).toInt.toNat ((t).1 218 10).toInt.toNat) ∧ ((t).1 218 7 = (σ0.1 218 7)) ∧ ((t).1 218 9 = (σ0.1 218 9)) ∧ ((t).1 218 11 = (σ0.1 218 11)) ∧ ((t).1 218 12 = (σ0.1 218 12)) ∧ ((t).1 218 13 = (σ0.1 218 13)) ∧ ((t).1 218 14 = (σ0.1 218 14)) ∧ ((t).1 218 15 = (σ0.1 218 15)) ∧ ((t).1 218 20 = (σ0.1 218 20)) ∧ ((t).1 218 22 = (σ0.1 218 22)) ∧ ((t).1 218 23 = (σ0.1 218 23)) ∧ ((t).1 218 24 = (σ0.1 218 24)) ∧ ((t).1 218 25 = (σ0.1 218 25))) (fun t : zS => (600 - ((t).1 218 10).toInt).toNat) (fun again1 t hI ih0_1 => ?_) N _ (show Tr [218] σ0 σ0 ∧ (((σ0.1 218 10).toInt ≤ (σ0.1 218 10).toInt ∧ (σ0.1 218 10).toInt ≤ (σ0.1 218 9).toInt) ∧ Rn isSp (σ0.1 224) (σ0.1 218 9).toInt.toNat (σ0.1 218 10).toInt.toNat = Rn isSp (σ0.1 224) (σ0.1 218 9).toInt.toNat (σ0.1 218 10).toInt.toNat) ∧ (σ0.1 218 7 = (σ0.1 218 7)) ∧ (σ0.1 218 9 = (σ0.1 218 9)) ∧ (σ0.1 218 11 = (σ0.1 218 11)) ∧ (σ0.1 218 12 = (σ0.1 218 12)) ∧ (σ0.1 218 13 = (σ0.1 218 13)) ∧ (σ0.1 218 14 = (σ0.1 218 14)) ∧ (σ0.1 218 15 = (σ0.1 218 15)) ∧ (σ0.1 218 20 = (σ0.1 218 20)) ∧ (σ0.1 218 22 = (σ0.1 218 22)) ∧ (σ0.1 218 23 = (σ0.1 218 23)) ∧ (σ0.1 218 24 = (σ0.1 218 24)) ∧ (σ0.1 218 25 = (σ0.1 218 25)) from ⟨hT, (by exact ⟨⟨Int.le_refl _, by omega⟩, rfl⟩), rfl, rfl, rfl, rfl, rfl, rfl, rfl, rfl, rfl, rfl, rfl, rfl⟩) (show (600 - (σ0.1 218 10).toInt).toNat < N from (by (skip); first | omega | decide | (simp only [Int32.le_iff_toInt_le, Int32.lt_iff_toInt_lt, ti_add, ti_sub, ti_mul, Int32.reduceToInt] at *; omega)))
  obtain ⟨σ1, rfl⟩ : ∃ x, x = t := ⟨t, rfl⟩
  have hI : Tr [218] σ0 σ1 ∧ (((σ0.1 218 10).toInt ≤ (σ1.1 218 10).toInt ∧ (σ1.1 218 10).toInt ≤ (σ0.1 218 9).toInt) ∧ Rn isSp (σ0.1 224) (σ0.1 218 9).toInt.toNat (σ0.1 218 10).toInt.toNat = Rn isSp (σ0.1 224) (σ0.1 218 9).toInt.toNat (σ1.1 218 10).toInt.toNat) ∧ (σ1.1 218 7 = (σ0.1 218 7)) ∧ (σ1.1 218 9 = (σ0.1 218 9)) ∧ (σ1.1 218 11 = (σ0.1 218 11)) ∧ (σ1.1 218 12 = (σ0.1 218 12)) ∧ (σ1.1 218 13 = (σ0.1 218 13)) ∧ (σ1.1 218 14 = (σ0.1 218 14)) ∧ (σ1.1 218 15 = (σ0.1 218 15)) ∧ (σ1.1 218 20 = (σ0.1 218 20)) ∧ (σ1.1 218 22 = (σ0.1 218 22)) ∧ (σ1.1 218 23 = (σ0.1 218 23)) ∧ (σ1.1 218 24 = (σ0.1 218 24)) ∧ (σ1.1 218 25 = (σ0.1 218 25)) := hI
  obtain ⟨hT, hI1, g7_σ1, g9_σ1, g11_σ1, g12_σ1, g13_σ1, g14_σ1, g15_σ1, g20_σ1, g22_σ1, g23_σ1, g24_σ1, g25_σ1⟩ := hI
  rw [F_X12_advance_0.eq_1]
  have hb0 := hI1.1
  have r0 := hI1.2
  refine ok_gI rfl ?_
  refine ok_gC rfl ?_
  refine ok_zbX (Q := fun V => V = seeV (σ1.1 218 9) (σ1.1 224) (σ1.1 218 10)) (x_X12_see (hR.tr hT) (by (try simp only [g7_σ1, g9_σ1, g11_σ1, g12_σ1, g13_σ1, g14_σ1, g15_σ1, g20_σ1, g22_σ1, g23_σ1, g24_σ1, g25_σ1]); omega) (by (try simp only [g7_σ1, g9_σ1, g11_σ1, g12_σ1, g13_σ1, g14_σ1, g15_σ1, g20_σ1, g22_σ1, g23_σ1, g24_σ1, g25_σ1]); omega)) (fun v3 hqv3 => ?_)
  have hqv3 : v3 = seeV (σ1.1 218 9) (σ1.1 224) (σ1.1 218 10) := hqv3
  try simp only [g7_σ1, g9_σ1, g11_σ1, g12_σ1, g13_σ1, g14_σ1, g15_σ1, g20_σ1, g22_σ1, g23_σ1, g24_σ1, g25_σ1, hT.2 224 (by decide)] at hqv3
  have see5 := hqv3
  refine ok_if (fun hc5 => ?_) (fun hc5 => ?_)
  · have c10 := see_c hY (see5.symm.trans hc5) (by decide) (by decide)
    have s9 : ((σ1.1 218 10) + 1).toInt = (σ1.1 218 10).toInt + 1 := by rw [ti_add]; simp only [Int32.reduceToInt]; omega
    have j9 : ((σ1.1 218 10) + 1).toInt.toNat = (σ1.1 218 10).toInt.toNat + 1 := by rw [s9]; omega
    have r1 := r0.trans (Rn_s (p := isSp) (t := (σ0.1 224)) (n := (σ0.1 218 9).toInt.toNat) (i := (σ1.1 218 10).toInt.toNat) (by omega) (Or.inl c10.2))
    refine ok_gI rfl ?_
    refine ok_pI hT rfl (by decide) (fun σ7 eσ7 hOσ7 hT => ?_)
    have g7_σ7 : σ7.1 218 7 = (σ0.1 218 7) := (zI_atN eσ7 (by decide)).trans g7_σ1
    have g9_σ7 : σ7.1 218 9 = (σ0.1 218 9) := (zI_atN eσ7 (by decide)).trans g9_σ1
    have g10_σ7 : σ7.1 218 10 = ((σ1.1 218 10) + 1) := zI_atI eσ7
    have g11_σ7 : σ7.1 218 11 = (σ0.1 218 11) := (zI_atN eσ7 (by decide)).trans g11_σ1
    have g12_σ7 : σ7.1 218 12 = (σ0.1 218 12) := (zI_atN eσ7 (by decide)).trans g12_σ1
    have g13_σ7 : σ7.1 218 13 = (σ0.1 218 13) := (zI_atN eσ7 (by decide)).trans g13_σ1
    have g14_σ7 : σ7.1 218 14 = (σ0.1 218 14) := (zI_atN eσ7 (by decide)).trans g14_σ1
    have g15_σ7 : σ7.1 218 15 = (σ0.1 218 15) := (zI_atN eσ7 (by decide)).trans g15_σ1
    have g20_σ7 : σ7.1 218 20 = (σ0.1 218 20) := (zI_atN eσ7 (by decide)).trans g20_σ1
    have g22_σ7 : σ7.1 218 22 = (σ0.1 218 22) := (zI_atN eσ7 (by decide)).trans g22_σ1
    have g23_σ7 : σ7.1 218 23 = (σ0.1 218 23) := (zI_atN eσ7 (by decide)).trans g23_σ1
    have g24_σ7 : σ7.1 218 24 = (σ0.1 218 24) := (zI_atN eσ7 (by decide)).trans g24_σ1
    have g25_σ7 : σ7.1 218 25 = (σ0.1 218 25) := (zI_atN eσ7 (by decide)).trans g25_σ1
    exact ih0_1 σ7 (show Tr [218] σ0 σ7 ∧ (((σ0.1 218 10).toInt ≤ (σ7.1 218 10).toInt ∧ (σ7.1 218 10).toInt ≤ (σ0.1 218 9).toInt) ∧ Rn isSp (σ0.1 224) (σ0.1 218 9).toInt.toNat (σ0.1 218 10).toInt.toNat = Rn isSp (σ0.1 224) (σ0.1 218 9).toInt.toNat (σ7.1 218 10).toInt.toNat) ∧ (σ7.1 218 7 = (σ0.1 218 7)) ∧ (σ7.1 218 9 = (σ0.1 218 9)) ∧ (σ7.1 218 11 = (σ0.1 218 11)) ∧ (σ7.1 218 12 = (σ0.1 218 12)) ∧ (σ7.1 218 13 = (σ0.1 218 13)) ∧ (σ7.1 218 14 = (σ0.1 218 14)) ∧ (σ7.1 218 15 = (σ0.1 218 15)) ∧ (σ7.1 218 20 = (σ0.1 218 20)) ∧ (σ7.1 218 22 = (σ0.1 218 22)) ∧ (σ7.1 218 23 = (σ0.1 218 23)) ∧ (σ7.1 218 24 = (σ0.1 218 24)) ∧ (σ7.1 218 25 = (σ0.1 218 25)) from ⟨hT, (by (try simp only [g7_σ7, g9_σ7, g10_σ7, g11_σ7, g12_σ7, g13_σ7, g14_σ7, g15_σ7, g20_σ7, g22_σ7, g23_σ7, g24_σ7, g25_σ7]); exact ⟨by rw [s9]; omega, by rw [j9]; exact r1⟩), g7_σ7, g9_σ7, g11_σ7, g12_σ7, g13_σ7, g14_σ7, g15_σ7, g20_σ7, g22_σ7, g23_σ7, g24_σ7, g25_σ7⟩) (show (600 - (σ7.1 218 10).toInt).toNat < (600 - (σ1.1 218 10).toInt).toNat from (by (try simp only [g7_σ7, g9_σ7, g10_σ7, g11_σ7, g12_σ7, g13_σ7, g14_σ7, g15_σ7, g20_σ7, g22_σ7, g23_σ7, g24_σ7, g25_σ7]); rw [s9]; omega))
  · have m10 := hc5
    refine ok_gI rfl ?_
    refine ok_gC rfl ?_
    refine ok_zbX (Q := fun V => V = seeV (σ1.1 218 9) (σ1.1 224) (σ1.1 218 10)) (x_X12_see (hR.tr hT) (by (try simp only [g7_σ1, g9_σ1, g11_σ1, g12_σ1, g13_σ1, g14_σ1, g15_σ1, g20_σ1, g22_σ1, g23_σ1, g24_σ1, g25_σ1]); omega) (by (try simp only [g7_σ1, g9_σ1, g11_σ1, g12_σ1, g13_σ1, g14_σ1, g15_σ1, g20_σ1, g22_σ1, g23_σ1, g24_σ1, g25_σ1]); omega)) (fun v9 hqv9 => ?_)
    have hqv9 : v9 = seeV (σ1.1 218 9) (σ1.1 224) (σ1.1 218 10) := hqv9
    try simp only [g7_σ1, g9_σ1, g11_σ1, g12_σ1, g13_σ1, g14_σ1, g15_σ1, g20_σ1, g22_σ1, g23_σ1, g24_σ1, g25_σ1, hT.2 224 (by decide)] at hqv9
    have see18 := hqv9
    refine ok_if (fun hc11 => ?_) (fun hc11 => ?_)
    · have c10 := see_c hY (see18.symm.trans hc11) (by decide) (by decide)
      have s9 : ((σ1.1 218 10) + 1).toInt = (σ1.1 218 10).toInt + 1 := by rw [ti_add]; simp only [Int32.reduceToInt]; omega
      have j9 : ((σ1.1 218 10) + 1).toInt.toNat = (σ1.1 218 10).toInt.toNat + 1 := by rw [s9]; omega
      have r1 := r0.trans (Rn_s (p := isSp) (t := (σ0.1 224)) (n := (σ0.1 218 9).toInt.toNat) (i := (σ1.1 218 10).toInt.toNat) (by omega) (Or.inr c10.2))
      refine ok_gI rfl ?_
      refine ok_pI hT rfl (by decide) (fun σ13 eσ13 hOσ13 hT => ?_)
      have g7_σ13 : σ13.1 218 7 = (σ0.1 218 7) := (zI_atN eσ13 (by decide)).trans g7_σ1
      have g9_σ13 : σ13.1 218 9 = (σ0.1 218 9) := (zI_atN eσ13 (by decide)).trans g9_σ1
      have g10_σ13 : σ13.1 218 10 = ((σ1.1 218 10) + 1) := zI_atI eσ13
      have g11_σ13 : σ13.1 218 11 = (σ0.1 218 11) := (zI_atN eσ13 (by decide)).trans g11_σ1
      have g12_σ13 : σ13.1 218 12 = (σ0.1 218 12) := (zI_atN eσ13 (by decide)).trans g12_σ1
      have g13_σ13 : σ13.1 218 13 = (σ0.1 218 13) := (zI_atN eσ13 (by decide)).trans g13_σ1
      have g14_σ13 : σ13.1 218 14 = (σ0.1 218 14) := (zI_atN eσ13 (by decide)).trans g14_σ1
      have g15_σ13 : σ13.1 218 15 = (σ0.1 218 15) := (zI_atN eσ13 (by decide)).trans g15_σ1
      have g20_σ13 : σ13.1 218 20 = (σ0.1 218 20) := (zI_atN eσ13 (by decide)).trans g20_σ1
      have g22_σ13 : σ13.1 218 22 = (σ0.1 218 22) := (zI_atN eσ13 (by decide)).trans g22_σ1
      have g23_σ13 : σ13.1 218 23 = (σ0.1 218 23) := (zI_atN eσ13 (by decide)).trans g23_σ1
      have g24_σ13 : σ13.1 218 24 = (σ0.1 218 24) := (zI_atN eσ13 (by decide)).trans g24_σ1
      have g25_σ13 : σ13.1 218 25 = (σ0.1 218 25) := (zI_atN eσ13 (by decide)).trans g25_σ1
      exact ih0_1 σ13 (show Tr [218] σ0 σ13 ∧ (((σ0.1 218 10).toInt ≤ (σ13.1 218 10).toInt ∧ (σ13.1 218 10).toInt ≤ (σ0.1 218 9).toInt) ∧ Rn isSp (σ0.1 224) (σ0.1 218 9).toInt.toNat (σ0.1 218 10).toInt.toNat = Rn isSp (σ0.1 224) (σ0.1 218 9).toInt.toNat (σ13.1 218 10).toInt.toNat) ∧ (σ13.1 218 7 = (σ0.1 218 7)) ∧ (σ13.1 218 9 = (σ0.1 218 9)) ∧ (σ13.1 218 11 = (σ0.1 218 11)) ∧ (σ13.1 218 12 = (σ0.1 218 12)) ∧ (σ13.1 218 13 = (σ0.1 218 13)) ∧ (σ13.1 218 14 = (σ0.1 218 14)) ∧ (σ13.1 218 15 = (σ0.1 218 15)) ∧ (σ13.1 218 20 = (σ0.1 218 20)) ∧ (σ13.1 218 22 = (σ0.1 218 22)) ∧ (σ13.1 218 23 = (σ0.1 218 23)) ∧ (σ13.1 218 24 = (σ0.1 218 24)) ∧ (σ13.1 218 25 = (σ0.1 218 25)) from ⟨hT, (by (try simp only [g7_σ13, g9_σ13, g10_σ13, g11_σ13, g12_σ13, g13_σ13, g14_σ13, g15_σ13, g20_σ13, g22_σ13, g23_σ13, g24_σ13, g25_σ13]); exact ⟨by rw [s9]; omega, by rw [j9]; exact r1⟩), g7_σ13, g9_σ13, g11_σ13, g12_σ13, g13_σ13, g14_σ13, g15_σ13, g20_σ13, g22_σ13, g23_σ13, g24_σ13, g25_σ13⟩) (show (600 - (σ13.1 218 10).toInt).toNat < (600 - (σ1.1 218 10).toInt).toNat from (by (try simp only [g7_σ13, g9_σ13, g10_σ13, g11_σ13, g12_σ13, g13_σ13, g14_σ13, g15_σ13, g20_σ13, g22_σ13, g23_σ13, g24_σ13, g25_σ13]); rw [s9]; omega))
    · have m23 := hc11
      have f0 : tkF (σ0.1 224) (σ0.1 218 9).toInt.toNat (σ0.1 218 10).toInt.toNat = (σ1.1 218 10).toInt.toNat := r0.trans (Rn_e (fun hl hs => by have l9 : (σ1.1 218 10).toInt < (σ0.1 218 9).toInt := (by omega); have p9 := (see_p hY l9).2; rcases hs with q | q; exact m10 (see5.trans (Int32.toInt_inj.mp ((p9 (by show 0 ≤ ((σ0.1 224) (σ1.1 218 10).toInt.toNat).toInt; omega)).trans q))); exact m23 (see18.trans (Int32.toInt_inj.mp ((p9 (by show 0 ≤ ((σ0.1 224) (σ1.1 218 10).toInt.toNat).toInt; omega)).trans q)))))
      refine ok_gI rfl ?_
      refine ok_pI hT rfl (by decide) (fun σ15 eσ15 hOσ15 hT => ?_)
      have g7_σ15 : σ15.1 218 7 = (σ0.1 218 7) := (zI_atN eσ15 (by decide)).trans g7_σ1
      have g9_σ15 : σ15.1 218 9 = (σ0.1 218 9) := (zI_atN eσ15 (by decide)).trans g9_σ1
      have g10_σ15 : σ15.1 218 10 = (σ1.1 218 10) := zI_atN eσ15 (by decide)
      have g11_σ15 : σ15.1 218 11 = (σ1.1 218 10) := zI_atI eσ15
      have g12_σ15 : σ15.1 218 12 = (σ0.1 218 12) := (zI_atN eσ15 (by decide)).trans g12_σ1
      have g13_σ15 : σ15.1 218 13 = (σ0.1 218 13) := (zI_atN eσ15 (by decide)).trans g13_σ1
      have g14_σ15 : σ15.1 218 14 = (σ0.1 218 14) := (zI_atN eσ15 (by decide)).trans g14_σ1
      have g15_σ15 : σ15.1 218 15 = (σ0.1 218 15) := (zI_atN eσ15 (by decide)).trans g15_σ1
      have g20_σ15 : σ15.1 218 20 = (σ0.1 218 20) := (zI_atN eσ15 (by decide)).trans g20_σ1
      have g22_σ15 : σ15.1 218 22 = (σ0.1 218 22) := (zI_atN eσ15 (by decide)).trans g22_σ1
      have g23_σ15 : σ15.1 218 23 = (σ0.1 218 23) := (zI_atN eσ15 (by decide)).trans g23_σ1
      have g24_σ15 : σ15.1 218 24 = (σ0.1 218 24) := (zI_atN eσ15 (by decide)).trans g24_σ1
      have g25_σ15 : σ15.1 218 25 = (σ0.1 218 25) := (zI_atN eσ15 (by decide)).trans g25_σ1
      refine ok_gIv rfl g10_σ15 ?_
      refine ok_gC rfl ?_
      refine ok_zbX (Q := fun V => V = seeV (σ15.1 218 9) (σ15.1 224) (σ1.1 218 10)) (x_X12_see (hR.tr hT) (by (try simp only [g7_σ15, g9_σ15, g10_σ15, g11_σ15, g12_σ15, g13_σ15, g14_σ15, g15_σ15, g20_σ15, g22_σ15, g23_σ15, g24_σ15, g25_σ15]); omega) (by (try simp only [g7_σ15, g9_σ15, g10_σ15, g11_σ15, g12_σ15, g13_σ15, g14_σ15, g15_σ15, g20_σ15, g22_σ15, g23_σ15, g24_σ15, g25_σ15]); omega)) (fun v17 hqv17 => ?_)
      have hqv17 : v17 = seeV (σ15.1 218 9) (σ15.1 224) (σ1.1 218 10) := hqv17
      try simp only [g7_σ15, g9_σ15, g10_σ15, g11_σ15, g12_σ15, g13_σ15, g14_σ15, g15_σ15, g20_σ15, g22_σ15, g23_σ15, g24_σ15, g25_σ15, hT.2 224 (by decide)] at hqv17
      have see52 := hqv17
      refine ok_if (fun hc19 => ?_) (fun hc19 => ?_)
      · have e58 : ¬ (σ1.1 218 10).toInt.toNat < (σ0.1 218 9).toInt.toNat := fun hl => by have l9 : (σ1.1 218 10).toInt < (σ0.1 218 9).toInt := (by omega); have p9 := see_p hY l9; rw [← see52, hc19] at p9; have d9 : (-1 : Int32).toInt = -1 := (by decide); rw [d9] at p9; omega
        refine ok_pI hT rfl (by decide) (fun σ20 eσ20 hOσ20 hT => ?_)
        have g7_σ20 : σ20.1 218 7 = (σ0.1 218 7) := (zI_atN eσ20 (by decide)).trans g7_σ15
        have g9_σ20 : σ20.1 218 9 = (σ0.1 218 9) := (zI_atN eσ20 (by decide)).trans g9_σ15
        have g10_σ20 : σ20.1 218 10 = (σ1.1 218 10) := (zI_atN eσ20 (by decide)).trans g10_σ15
        have g11_σ20 : σ20.1 218 11 = (σ1.1 218 10) := (zI_atN eσ20 (by decide)).trans g11_σ15
        have g12_σ20 : σ20.1 218 12 = (0 : Int32) := zI_atI eσ20
        have g13_σ20 : σ20.1 218 13 = (σ0.1 218 13) := (zI_atN eσ20 (by decide)).trans g13_σ15
        have g14_σ20 : σ20.1 218 14 = (σ0.1 218 14) := (zI_atN eσ20 (by decide)).trans g14_σ15
        have g15_σ20 : σ20.1 218 15 = (σ0.1 218 15) := (zI_atN eσ20 (by decide)).trans g15_σ15
        have g20_σ20 : σ20.1 218 20 = (σ0.1 218 20) := (zI_atN eσ20 (by decide)).trans g20_σ15
        have g22_σ20 : σ20.1 218 22 = (σ0.1 218 22) := (zI_atN eσ20 (by decide)).trans g22_σ15
        have g23_σ20 : σ20.1 218 23 = (σ0.1 218 23) := (zI_atN eσ20 (by decide)).trans g23_σ15
        have g24_σ20 : σ20.1 218 24 = (σ0.1 218 24) := (zI_atN eσ20 (by decide)).trans g24_σ15
        have g25_σ20 : σ20.1 218 25 = (σ0.1 218 25) := (zI_atN eσ20 (by decide)).trans g25_σ15
        exact ok_some ⟨hT, (show (TKS σ20.1 (σ0.1 224) (σ0.1 218 9).toInt.toNat (σ0.1 218 10).toInt.toNat) ∧ (σ20.1 218 7 = σ0.1 218 7 ∧ σ20.1 218 9 = σ0.1 218 9 ∧ σ20.1 218 14 = σ0.1 218 14 ∧ σ20.1 218 15 = σ0.1 218 15 ∧ σ20.1 218 20 = σ0.1 218 20 ∧ σ20.1 218 22 = σ0.1 218 22 ∧ σ20.1 218 23 = σ0.1 218 23 ∧ σ20.1 218 24 = σ0.1 218 24 ∧ σ20.1 218 25 = σ0.1 218 25) from ⟨by first | exact TKS_i g11_σ20 g10_σ20 g12_σ20 g13_σ20 (by rw [f0]; omega) (by rw [(tk_0 f0 e58).2]; omega) (tk_0 f0 e58).1.symm (fun q => absurd q (by decide)) | exact TKS_i g11_σ20 g10_σ20 g12_σ20 g13_σ20 (by rw [f0]; omega) (by rw [(tk_1 f0 (by omega) l80).2, r84]; omega) (tk_1 f0 (by omega) l80).1.symm (fun q => absurd q (by decide)) | exact TKS_i g11_σ20 g10_σ20 g12_σ20 g13_σ20 (by rw [f0]; omega) (by rw [(tk_2 f0 (by omega) l136).2, r84]; omega) (tk_2 f0 (by omega) l136).1.symm (fun _ => by rw [f0, ← n84]; exact v9r) | exact TKS_i g11_σ20 g10_σ20 g12_σ20 g13_σ20 (by rw [f0]; omega) (by rw [(tk_3 f0 (by omega) n80 n136).2, s9]; omega) (by rw [(tk_3 f0 (by omega) n80 n136).1, q219, if_pos (q219 ▸ s219)]) (fun q => absurd (congrArg Int32.toInt q) (by rw [show (2 : Int32).toInt = 2 by decide]; omega)) | exact TKS_i g11_σ20 g10_σ20 g12_σ20 g13_σ20 (by rw [f0]; omega) (by rw [(tk_3 f0 (by omega) n80 n136).2, s9]; omega) (by rw [(tk_3 f0 (by omega) n80 n136).1, if_neg s219]) (fun q => absurd q (by decide)), g7_σ20, g9_σ20, g14_σ20, g15_σ20, g20_σ20, g22_σ20, g23_σ20, g24_σ20, g25_σ20⟩)⟩
      · have lt52 := see_lt see52.symm hc19
        have p52 := see_p hY lt52
        rw [← see52] at p52
        have s9 : ((σ1.1 218 10) + 1).toInt = (σ1.1 218 10).toInt + 1 := by rw [ti_add]; simp only [Int32.reduceToInt]; omega
        have j9 : ((σ1.1 218 10) + 1).toInt.toNat = (σ1.1 218 10).toInt.toNat + 1 := by rw [s9]; omega
        have q52 : (σ0.1 224 (σ1.1 218 10).toNatClampNeg) = σ0.1 224 (σ1.1 218 10).toInt.toNat := rfl
        rw [q52] at p52
        refine ok_zbX (Q := fun V => (V = 0 → ¬ ((97 : Int64).toInt ≤ (Int32.toInt64 v17).toInt ∧ (Int32.toInt64 v17).toInt ≤ (122 : Int64).toInt)) ∧ (¬ V = 0 → (97 : Int64).toInt ≤ (Int32.toInt64 v17).toInt ∧ (Int32.toInt64 v17).toInt ≤ (122 : Int64).toInt)) (xi_X12_in) (fun v21 hqv21 => ?_)
        have hqv21 : (v21 = 0 → ¬ ((97 : Int64).toInt ≤ (Int32.toInt64 v17).toInt ∧ (Int32.toInt64 v17).toInt ≤ (122 : Int64).toInt)) ∧ (¬ v21 = 0 → (97 : Int64).toInt ≤ (Int32.toInt64 v17).toInt ∧ (Int32.toInt64 v17).toInt ≤ (122 : Int64).toInt) := hqv21
        try simp only [g7_σ15, g9_σ15, g10_σ15, g11_σ15, g12_σ15, g13_σ15, g14_σ15, g15_σ15, g20_σ15, g22_σ15, g23_σ15, g24_σ15, g25_σ15, hT.2 224 (by decide)] at hqv21
        simp only [i64_of, Int64.reduceToInt] at hqv21
        refine ok_if (fun hc23 => ?_) (fun hc23 => ?_)
        · have qhc23 := hqv21.1 hc23
          have w80 := qhc23
          have n80 : ¬ isLt ((σ0.1 224) (σ1.1 218 10).toInt.toNat) := by unfold isLt; omega
          refine ok_zbX (Q := fun V => (V = 0 → ¬ ((48 : Int64).toInt ≤ (Int32.toInt64 v17).toInt ∧ (Int32.toInt64 v17).toInt ≤ (57 : Int64).toInt)) ∧ (¬ V = 0 → (48 : Int64).toInt ≤ (Int32.toInt64 v17).toInt ∧ (Int32.toInt64 v17).toInt ≤ (57 : Int64).toInt)) (xi_X12_in) (fun v24 hqv24 => ?_)
          have hqv24 : (v24 = 0 → ¬ ((48 : Int64).toInt ≤ (Int32.toInt64 v17).toInt ∧ (Int32.toInt64 v17).toInt ≤ (57 : Int64).toInt)) ∧ (¬ v24 = 0 → (48 : Int64).toInt ≤ (Int32.toInt64 v17).toInt ∧ (Int32.toInt64 v17).toInt ≤ (57 : Int64).toInt) := hqv24
          try simp only [g7_σ15, g9_σ15, g10_σ15, g11_σ15, g12_σ15, g13_σ15, g14_σ15, g15_σ15, g20_σ15, g22_σ15, g23_σ15, g24_σ15, g25_σ15, hT.2 224 (by decide)] at hqv24
          simp only [i64_of, Int64.reduceToInt] at hqv24
          refine ok_if (fun hc26 => ?_) (fun hc26 => ?_)
          · have qhc26 := hqv24.1 hc26
            have w136 := qhc26
            have n136 : ¬ isDg ((σ0.1 224) (σ1.1 218 10).toInt.toNat) := by unfold isDg; omega
            refine ok_zbX (Q := fun V => (V = 0 → ¬ sgn v17) ∧ (¬ V = 0 → sgn v17)) (x2_X12_isSign) (fun v27 hqv27 => ?_)
            have hqv27 : (v27 = 0 → ¬ sgn v17) ∧ (¬ v27 = 0 → sgn v17) := hqv27
            try simp only [g7_σ15, g9_σ15, g10_σ15, g11_σ15, g12_σ15, g13_σ15, g14_σ15, g15_σ15, g20_σ15, g22_σ15, g23_σ15, g24_σ15, g25_σ15, hT.2 224 (by decide)] at hqv27
            refine ok_if (fun hc29 => ?_) (fun hc29 => ?_)
            · have qhc29 := hqv27.1 hc29
              have s219 : ¬ sgn (σ0.1 224 (σ1.1 218 10).toInt.toNat) := fun q => qhc29 ((show v17 = σ0.1 224 (σ1.1 218 10).toInt.toNat from Int32.toInt_inj.mp (p52.2 (by have b9 := sg_b q; omega))) ▸ q)
              refine ok_pI hT rfl (by decide) (fun σ30 eσ30 hOσ30 hT => ?_)
              have g7_σ30 : σ30.1 218 7 = (σ0.1 218 7) := (zI_atN eσ30 (by decide)).trans g7_σ15
              have g9_σ30 : σ30.1 218 9 = (σ0.1 218 9) := (zI_atN eσ30 (by decide)).trans g9_σ15
              have g10_σ30 : σ30.1 218 10 = (σ1.1 218 10) := (zI_atN eσ30 (by decide)).trans g10_σ15
              have g11_σ30 : σ30.1 218 11 = (σ1.1 218 10) := (zI_atN eσ30 (by decide)).trans g11_σ15
              have g12_σ30 : σ30.1 218 12 = (3 : Int32) := zI_atI eσ30
              have g13_σ30 : σ30.1 218 13 = (σ0.1 218 13) := (zI_atN eσ30 (by decide)).trans g13_σ15
              have g14_σ30 : σ30.1 218 14 = (σ0.1 218 14) := (zI_atN eσ30 (by decide)).trans g14_σ15
              have g15_σ30 : σ30.1 218 15 = (σ0.1 218 15) := (zI_atN eσ30 (by decide)).trans g15_σ15
              have g20_σ30 : σ30.1 218 20 = (σ0.1 218 20) := (zI_atN eσ30 (by decide)).trans g20_σ15
              have g22_σ30 : σ30.1 218 22 = (σ0.1 218 22) := (zI_atN eσ30 (by decide)).trans g22_σ15
              have g23_σ30 : σ30.1 218 23 = (σ0.1 218 23) := (zI_atN eσ30 (by decide)).trans g23_σ15
              have g24_σ30 : σ30.1 218 24 = (σ0.1 218 24) := (zI_atN eσ30 (by decide)).trans g24_σ15
              have g25_σ30 : σ30.1 218 25 = (σ0.1 218 25) := (zI_atN eσ30 (by decide)).trans g25_σ15
              refine ok_gIv rfl g10_σ30 ?_
              refine ok_pI hT rfl (by decide) (fun σ32 eσ32 hOσ32 hT => ?_)
              have g7_σ32 : σ32.1 218 7 = (σ0.1 218 7) := (zI_atN eσ32 (by decide)).trans g7_σ30
              have g9_σ32 : σ32.1 218 9 = (σ0.1 218 9) := (zI_atN eσ32 (by decide)).trans g9_σ30
              have g10_σ32 : σ32.1 218 10 = ((σ1.1 218 10) + 1) := zI_atI eσ32
              have g11_σ32 : σ32.1 218 11 = (σ1.1 218 10) := (zI_atN eσ32 (by decide)).trans g11_σ30
              have g12_σ32 : σ32.1 218 12 = (3 : Int32) := (zI_atN eσ32 (by decide)).trans g12_σ30
              have g13_σ32 : σ32.1 218 13 = (σ0.1 218 13) := (zI_atN eσ32 (by decide)).trans g13_σ30
              have g14_σ32 : σ32.1 218 14 = (σ0.1 218 14) := (zI_atN eσ32 (by decide)).trans g14_σ30
              have g15_σ32 : σ32.1 218 15 = (σ0.1 218 15) := (zI_atN eσ32 (by decide)).trans g15_σ30
              have g20_σ32 : σ32.1 218 20 = (σ0.1 218 20) := (zI_atN eσ32 (by decide)).trans g20_σ30
              have g22_σ32 : σ32.1 218 22 = (σ0.1 218 22) := (zI_atN eσ32 (by decide)).trans g22_σ30
              have g23_σ32 : σ32.1 218 23 = (σ0.1 218 23) := (zI_atN eσ32 (by decide)).trans g23_σ30
              have g24_σ32 : σ32.1 218 24 = (σ0.1 218 24) := (zI_atN eσ32 (by decide)).trans g24_σ30
              have g25_σ32 : σ32.1 218 25 = (σ0.1 218 25) := (zI_atN eσ32 (by decide)).trans g25_σ30
              exact ok_some ⟨hT, (show (TKS σ32.1 (σ0.1 224) (σ0.1 218 9).toInt.toNat (σ0.1 218 10).toInt.toNat) ∧ (σ32.1 218 7 = σ0.1 218 7 ∧ σ32.1 218 9 = σ0.1 218 9 ∧ σ32.1 218 14 = σ0.1 218 14 ∧ σ32.1 218 15 = σ0.1 218 15 ∧ σ32.1 218 20 = σ0.1 218 20 ∧ σ32.1 218 22 = σ0.1 218 22 ∧ σ32.1 218 23 = σ0.1 218 23 ∧ σ32.1 218 24 = σ0.1 218 24 ∧ σ32.1 218 25 = σ0.1 218 25) from ⟨by first | exact TKS_i g11_σ32 g10_σ32 g12_σ32 g13_σ32 (by rw [f0]; omega) (by rw [(tk_0 f0 e58).2]; omega) (tk_0 f0 e58).1.symm (fun q => absurd q (by decide)) | exact TKS_i g11_σ32 g10_σ32 g12_σ32 g13_σ32 (by rw [f0]; omega) (by rw [(tk_1 f0 (by omega) l80).2, r84]; omega) (tk_1 f0 (by omega) l80).1.symm (fun q => absurd q (by decide)) | exact TKS_i g11_σ32 g10_σ32 g12_σ32 g13_σ32 (by rw [f0]; omega) (by rw [(tk_2 f0 (by omega) l136).2, r84]; omega) (tk_2 f0 (by omega) l136).1.symm (fun _ => by rw [f0, ← n84]; exact v9r) | exact TKS_i g11_σ32 g10_σ32 g12_σ32 g13_σ32 (by rw [f0]; omega) (by rw [(tk_3 f0 (by omega) n80 n136).2, s9]; omega) (by rw [(tk_3 f0 (by omega) n80 n136).1, q219, if_pos (q219 ▸ s219)]) (fun q => absurd (congrArg Int32.toInt q) (by rw [show (2 : Int32).toInt = 2 by decide]; omega)) | exact TKS_i g11_σ32 g10_σ32 g12_σ32 g13_σ32 (by rw [f0]; omega) (by rw [(tk_3 f0 (by omega) n80 n136).2, s9]; omega) (by rw [(tk_3 f0 (by omega) n80 n136).1, if_neg s219]) (fun q => absurd q (by decide)), g7_σ32, g9_σ32, g14_σ32, g15_σ32, g20_σ32, g22_σ32, g23_σ32, g24_σ32, g25_σ32⟩)⟩
            · have qhc29 := hqv27.2 hc29
              have k219 := sg_b qhc29
              have s219 := qhc29
              have q219 : v17 = σ0.1 224 (σ1.1 218 10).toInt.toNat := Int32.toInt_inj.mp (p52.2 (by omega))
              refine ok_pI hT rfl (by decide) (fun σ33 eσ33 hOσ33 hT => ?_)
              have g7_σ33 : σ33.1 218 7 = (σ0.1 218 7) := (zI_atN eσ33 (by decide)).trans g7_σ15
              have g9_σ33 : σ33.1 218 9 = (σ0.1 218 9) := (zI_atN eσ33 (by decide)).trans g9_σ15
              have g10_σ33 : σ33.1 218 10 = (σ1.1 218 10) := (zI_atN eσ33 (by decide)).trans g10_σ15
              have g11_σ33 : σ33.1 218 11 = (σ1.1 218 10) := (zI_atN eσ33 (by decide)).trans g11_σ15
              have g12_σ33 : σ33.1 218 12 = (v17) := zI_atI eσ33
              have g13_σ33 : σ33.1 218 13 = (σ0.1 218 13) := (zI_atN eσ33 (by decide)).trans g13_σ15
              have g14_σ33 : σ33.1 218 14 = (σ0.1 218 14) := (zI_atN eσ33 (by decide)).trans g14_σ15
              have g15_σ33 : σ33.1 218 15 = (σ0.1 218 15) := (zI_atN eσ33 (by decide)).trans g15_σ15
              have g20_σ33 : σ33.1 218 20 = (σ0.1 218 20) := (zI_atN eσ33 (by decide)).trans g20_σ15
              have g22_σ33 : σ33.1 218 22 = (σ0.1 218 22) := (zI_atN eσ33 (by decide)).trans g22_σ15
              have g23_σ33 : σ33.1 218 23 = (σ0.1 218 23) := (zI_atN eσ33 (by decide)).trans g23_σ15
              have g24_σ33 : σ33.1 218 24 = (σ0.1 218 24) := (zI_atN eσ33 (by decide)).trans g24_σ15
              have g25_σ33 : σ33.1 218 25 = (σ0.1 218 25) := (zI_atN eσ33 (by decide)).trans g25_σ15
              refine ok_gIv rfl g10_σ33 ?_
              refine ok_pI hT rfl (by decide) (fun σ35 eσ35 hOσ35 hT => ?_)
              have g7_σ35 : σ35.1 218 7 = (σ0.1 218 7) := (zI_atN eσ35 (by decide)).trans g7_σ33
              have g9_σ35 : σ35.1 218 9 = (σ0.1 218 9) := (zI_atN eσ35 (by decide)).trans g9_σ33
              have g10_σ35 : σ35.1 218 10 = ((σ1.1 218 10) + 1) := zI_atI eσ35
              have g11_σ35 : σ35.1 218 11 = (σ1.1 218 10) := (zI_atN eσ35 (by decide)).trans g11_σ33
              have g12_σ35 : σ35.1 218 12 = (v17) := (zI_atN eσ35 (by decide)).trans g12_σ33
              have g13_σ35 : σ35.1 218 13 = (σ0.1 218 13) := (zI_atN eσ35 (by decide)).trans g13_σ33
              have g14_σ35 : σ35.1 218 14 = (σ0.1 218 14) := (zI_atN eσ35 (by decide)).trans g14_σ33
              have g15_σ35 : σ35.1 218 15 = (σ0.1 218 15) := (zI_atN eσ35 (by decide)).trans g15_σ33
              have g20_σ35 : σ35.1 218 20 = (σ0.1 218 20) := (zI_atN eσ35 (by decide)).trans g20_σ33
              have g22_σ35 : σ35.1 218 22 = (σ0.1 218 22) := (zI_atN eσ35 (by decide)).trans g22_σ33
              have g23_σ35 : σ35.1 218 23 = (σ0.1 218 23) := (zI_atN eσ35 (by decide)).trans g23_σ33
              have g24_σ35 : σ35.1 218 24 = (σ0.1 218 24) := (zI_atN eσ35 (by decide)).trans g24_σ33
              have g25_σ35 : σ35.1 218 25 = (σ0.1 218 25) := (zI_atN eσ35 (by decide)).trans g25_σ33
              exact ok_some ⟨hT, (show (TKS σ35.1 (σ0.1 224) (σ0.1 218 9).toInt.toNat (σ0.1 218 10).toInt.toNat) ∧ (σ35.1 218 7 = σ0.1 218 7 ∧ σ35.1 218 9 = σ0.1 218 9 ∧ σ35.1 218 14 = σ0.1 218 14 ∧ σ35.1 218 15 = σ0.1 218 15 ∧ σ35.1 218 20 = σ0.1 218 20 ∧ σ35.1 218 22 = σ0.1 218 22 ∧ σ35.1 218 23 = σ0.1 218 23 ∧ σ35.1 218 24 = σ0.1 218 24 ∧ σ35.1 218 25 = σ0.1 218 25) from ⟨by first | exact TKS_i g11_σ35 g10_σ35 g12_σ35 g13_σ35 (by rw [f0]; omega) (by rw [(tk_0 f0 e58).2]; omega) (tk_0 f0 e58).1.symm (fun q => absurd q (by decide)) | exact TKS_i g11_σ35 g10_σ35 g12_σ35 g13_σ35 (by rw [f0]; omega) (by rw [(tk_1 f0 (by omega) l80).2, r84]; omega) (tk_1 f0 (by omega) l80).1.symm (fun q => absurd q (by decide)) | exact TKS_i g11_σ35 g10_σ35 g12_σ35 g13_σ35 (by rw [f0]; omega) (by rw [(tk_2 f0 (by omega) l136).2, r84]; omega) (tk_2 f0 (by omega) l136).1.symm (fun _ => by rw [f0, ← n84]; exact v9r) | exact TKS_i g11_σ35 g10_σ35 g12_σ35 g13_σ35 (by rw [f0]; omega) (by rw [(tk_3 f0 (by omega) n80 n136).2, s9]; omega) (by rw [(tk_3 f0 (by omega) n80 n136).1, q219, if_pos (q219 ▸ s219)]) (fun q => absurd (congrArg Int32.toInt q) (by rw [show (2 : Int32).toInt = 2 by decide]; omega)) | exact TKS_i g11_σ35 g10_σ35 g12_σ35 g13_σ35 (by rw [f0]; omega) (by rw [(tk_3 f0 (by omega) n80 n136).2, s9]; omega) (by rw [(tk_3 f0 (by omega) n80 n136).1, if_neg s219]) (fun q => absurd q (by decide)), g7_σ35, g9_σ35, g14_σ35, g15_σ35, g20_σ35, g22_σ35, g23_σ35, g24_σ35, g25_σ35⟩)⟩
          · have qhc26 := hqv24.2 hc26
            have w136 := qhc26
            have l136 : isDg ((σ0.1 224) (σ1.1 218 10).toInt.toNat) := by unfold isDg; omega
            refine ok_pI hT rfl (by decide) (fun σ36 eσ36 hOσ36 hT => ?_)
            have g7_σ36 : σ36.1 218 7 = (σ0.1 218 7) := (zI_atN eσ36 (by decide)).trans g7_σ15
            have g9_σ36 : σ36.1 218 9 = (σ0.1 218 9) := (zI_atN eσ36 (by decide)).trans g9_σ15
            have g10_σ36 : σ36.1 218 10 = (σ1.1 218 10) := (zI_atN eσ36 (by decide)).trans g10_σ15
            have g11_σ36 : σ36.1 218 11 = (σ1.1 218 10) := (zI_atN eσ36 (by decide)).trans g11_σ15
            have g12_σ36 : σ36.1 218 12 = (σ0.1 218 12) := (zI_atN eσ36 (by decide)).trans g12_σ15
            have g13_σ36 : σ36.1 218 13 = (0 : Int32) := zI_atI eσ36
            have g14_σ36 : σ36.1 218 14 = (σ0.1 218 14) := (zI_atN eσ36 (by decide)).trans g14_σ15
            have g15_σ36 : σ36.1 218 15 = (σ0.1 218 15) := (zI_atN eσ36 (by decide)).trans g15_σ15
            have g20_σ36 : σ36.1 218 20 = (σ0.1 218 20) := (zI_atN eσ36 (by decide)).trans g20_σ15
            have g22_σ36 : σ36.1 218 22 = (σ0.1 218 22) := (zI_atN eσ36 (by decide)).trans g22_σ15
            have g23_σ36 : σ36.1 218 23 = (σ0.1 218 23) := (zI_atN eσ36 (by decide)).trans g23_σ15
            have g24_σ36 : σ36.1 218 24 = (σ0.1 218 24) := (zI_atN eσ36 (by decide)).trans g24_σ15
            have g25_σ36 : σ36.1 218 25 = (σ0.1 218 25) := (zI_atN eσ36 (by decide)).trans g25_σ15
            refine ok_lp (fun t : zS => Tr [218] σ0 (t) ∧ (((((t).1 218 11).toInt ≤ ((t).1 218 10).toInt ∧ ((t).1 218 10).toInt ≤ (σ0.1 218 9).toInt) ∧ Rn isDg (σ0.1 224) (σ0.1 218 9).toInt.toNat ((t).1 218 11).toInt.toNat = Rn isDg (σ0.1 224) (σ0.1 218 9).toInt.toNat ((t).1 218 10).toInt.toNat) ∧ ∃ r : Nat, ((t).1 218 13).toInt = min 99999 (r : Int) ∧ Nv (σ0.1 224) (σ0.1 218 9).toInt.toNat ((t).1 218 10).toInt.toNat r = Nv (σ0.1 224) (σ0.1 218 9).toInt.toNat ((t).1 218 11).toInt.toNat 0) ∧ ((t).1 218 7 = (σ0.1 218 7)) ∧ ((t).1 218 9 = (σ0.1 218 9)) ∧ ((t).1 218 11 = (σ1.1 218 10)) ∧ ((t).1 218 12 = (σ0.1 218 12)) ∧ ((t).1 218 14 = (σ0.1 218 14)) ∧ ((t).1 218 15 = (σ0.1 218 15)) ∧ ((t).1 218 20 = (σ0.1 218 20)) ∧ ((t).1 218 22 = (σ0.1 218 22)) ∧ ((t).1 218 23 = (σ0.1 218 23)) ∧ ((t).1 218 24 = (σ0.1 218 24)) ∧ ((t).1 218 25 = (σ0.1 218 25))) (fun t : zS => (600 - ((t).1 218 10).toInt).toNat) (fun again37 t hI ih144_37 => ?_) N _ (show Tr [218] σ0 σ36 ∧ ((((σ36.1 218 11).toInt ≤ (σ36.1 218 10).toInt ∧ (σ36.1 218 10).toInt ≤ (σ0.1 218 9).toInt) ∧ Rn isDg (σ0.1 224) (σ0.1 218 9).toInt.toNat (σ36.1 218 11).toInt.toNat = Rn isDg (σ0.1 224) (σ0.1 218 9).toInt.toNat (σ36.1 218 10).toInt.toNat) ∧ ∃ r : Nat, (σ36.1 218 13).toInt = min 99999 (r : Int) ∧ Nv (σ0.1 224) (σ0.1 218 9).toInt.toNat (σ36.1 218 10).toInt.toNat r = Nv (σ0.1 224) (σ0.1 218 9).toInt.toNat (σ36.1 218 11).toInt.toNat 0) ∧ (σ36.1 218 7 = (σ0.1 218 7)) ∧ (σ36.1 218 9 = (σ0.1 218 9)) ∧ (σ36.1 218 11 = (σ1.1 218 10)) ∧ (σ36.1 218 12 = (σ0.1 218 12)) ∧ (σ36.1 218 14 = (σ0.1 218 14)) ∧ (σ36.1 218 15 = (σ0.1 218 15)) ∧ (σ36.1 218 20 = (σ0.1 218 20)) ∧ (σ36.1 218 22 = (σ0.1 218 22)) ∧ (σ36.1 218 23 = (σ0.1 218 23)) ∧ (σ36.1 218 24 = (σ0.1 218 24)) ∧ (σ36.1 218 25 = (σ0.1 218 25)) from ⟨hT, (by (try simp only [g7_σ36, g9_σ36, g10_σ36, g11_σ36, g12_σ36, g13_σ36, g14_σ36, g15_σ36, g20_σ36, g22_σ36, g23_σ36, g24_σ36, g25_σ36]); first | exact ⟨⟨⟨by omega, by omega⟩, trivial⟩, 0, by decide, rfl⟩ | exact ⟨⟨⟨by omega, by omega⟩, rfl⟩, 0, by decide, rfl⟩), g7_σ36, g9_σ36, g11_σ36, g12_σ36, g14_σ36, g15_σ36, g20_σ36, g22_σ36, g23_σ36, g24_σ36, g25_σ36⟩) (show (600 - (σ36.1 218 10).toInt).toNat < N from (by ((try simp only [g7_σ36, g9_σ36, g10_σ36, g11_σ36, g12_σ36, g13_σ36, g14_σ36, g15_σ36, g20_σ36, g22_σ36, g23_σ36, g24_σ36, g25_σ36])); first | omega | decide | (simp only [Int32.le_iff_toInt_le, Int32.lt_iff_toInt_lt, ti_add, ti_sub, ti_mul, Int32.reduceToInt] at *; omega)))
            obtain ⟨σ37, rfl⟩ : ∃ x, x = t := ⟨t, rfl⟩
            have hI : Tr [218] σ0 σ37 ∧ ((((σ37.1 218 11).toInt ≤ (σ37.1 218 10).toInt ∧ (σ37.1 218 10).toInt ≤ (σ0.1 218 9).toInt) ∧ Rn isDg (σ0.1 224) (σ0.1 218 9).toInt.toNat (σ37.1 218 11).toInt.toNat = Rn isDg (σ0.1 224) (σ0.1 218 9).toInt.toNat (σ37.1 218 10).toInt.toNat) ∧ ∃ r : Nat, (σ37.1 218 13).toInt = min 99999 (r : Int) ∧ Nv (σ0.1 224) (σ0.1 218 9).toInt.toNat (σ37.1 218 10).toInt.toNat r = Nv (σ0.1 224) (σ0.1 218 9).toInt.toNat (σ37.1 218 11).toInt.toNat 0) ∧ (σ37.1 218 7 = (σ0.1 218 7)) ∧ (σ37.1 218 9 = (σ0.1 218 9)) ∧ (σ37.1 218 11 = (σ1.1 218 10)) ∧ (σ37.1 218 12 = (σ0.1 218 12)) ∧ (σ37.1 218 14 = (σ0.1 218 14)) ∧ (σ37.1 218 15 = (σ0.1 218 15)) ∧ (σ37.1 218 20 = (σ0.1 218 20)) ∧ (σ37.1 218 22 = (σ0.1 218 22)) ∧ (σ37.1 218 23 = (σ0.1 218 23)) ∧ (σ37.1 218 24 = (σ0.1 218 24)) ∧ (σ37.1 218 25 = (σ0.1 218 25)) := hI
            obtain ⟨hT, hI37, g7_σ37, g9_σ37, g11_σ37, g12_σ37, g14_σ37, g15_σ37, g20_σ37, g22_σ37, g23_σ37, g24_σ37, g25_σ37⟩ := hI
            rw [F_X12_advance_144.eq_1]
            rw [g11_σ37] at hI37
            have hb83 := hI37.1.1
            have r83 := hI37.1.2
            obtain ⟨r9, v9r, n9r⟩ := hI37.2
            refine ok_gI rfl ?_
            refine ok_gC rfl ?_
            refine ok_zbX (Q := fun V => V = seeV (σ37.1 218 9) (σ37.1 224) (σ37.1 218 10)) (x_X12_see (hR.tr hT) (by (try simp only [g7_σ37, g9_σ37, g11_σ37, g12_σ37, g14_σ37, g15_σ37, g20_σ37, g22_σ37, g23_σ37, g24_σ37, g25_σ37]); omega) (by (try simp only [g7_σ37, g9_σ37, g11_σ37, g12_σ37, g14_σ37, g15_σ37, g20_σ37, g22_σ37, g23_σ37, g24_σ37, g25_σ37]); omega)) (fun v39 hqv39 => ?_)
            have hqv39 : v39 = seeV (σ37.1 218 9) (σ37.1 224) (σ37.1 218 10) := hqv39
            try simp only [g7_σ37, g9_σ37, g11_σ37, g12_σ37, g14_σ37, g15_σ37, g20_σ37, g22_σ37, g23_σ37, g24_σ37, g25_σ37, hT.2 224 (by decide)] at hqv39
            have see88 := hqv39
            refine ok_zbX (Q := fun V => (V = 0 → ¬ ((48 : Int64).toInt ≤ (Int32.toInt64 v39).toInt ∧ (Int32.toInt64 v39).toInt ≤ (57 : Int64).toInt)) ∧ (¬ V = 0 → (48 : Int64).toInt ≤ (Int32.toInt64 v39).toInt ∧ (Int32.toInt64 v39).toInt ≤ (57 : Int64).toInt)) (xi_X12_in) (fun v41 hqv41 => ?_)
            have hqv41 : (v41 = 0 → ¬ ((48 : Int64).toInt ≤ (Int32.toInt64 v39).toInt ∧ (Int32.toInt64 v39).toInt ≤ (57 : Int64).toInt)) ∧ (¬ v41 = 0 → (48 : Int64).toInt ≤ (Int32.toInt64 v39).toInt ∧ (Int32.toInt64 v39).toInt ≤ (57 : Int64).toInt) := hqv41
            try simp only [g7_σ37, g9_σ37, g11_σ37, g12_σ37, g14_σ37, g15_σ37, g20_σ37, g22_σ37, g23_σ37, g24_σ37, g25_σ37, hT.2 224 (by decide)] at hqv41
            simp only [i64_of, Int64.reduceToInt] at hqv41
            refine ok_if (fun hc43 => ?_) (fun hc43 => ?_)
            · have qhc43 := hqv41.1 hc43
              have w101 := qhc43
              rw [see88] at w101
              have hn9 : (σ37.1 218 10).toInt.toNat < (σ0.1 218 9).toInt.toNat → ¬ isDg ((σ0.1 224) (σ37.1 218 10).toInt.toNat) := fun hl hs => by have l9 : (σ37.1 218 10).toInt < (σ0.1 218 9).toInt := (by omega); have p9 := (see_p hY l9).2; have e8 : (σ0.1 224 (σ37.1 218 10).toNatClampNeg) = σ0.1 224 (σ37.1 218 10).toInt.toNat := rfl; rw [e8] at p9; unfold isDg at hs; omega
              have r84 := r83.trans (Rn_e (p := isDg) hn9)
              have n84 := (Nv_e (a := r9) hn9).symm.trans n9r
              refine ok_pI hT rfl (by decide) (fun σ44 eσ44 hOσ44 hT => ?_)
              have g7_σ44 : σ44.1 218 7 = (σ0.1 218 7) := (zI_atN eσ44 (by decide)).trans g7_σ37
              have g9_σ44 : σ44.1 218 9 = (σ0.1 218 9) := (zI_atN eσ44 (by decide)).trans g9_σ37
              have g10_σ44 : σ44.1 218 10 = (σ37.1 218 10) := zI_atN eσ44 (by decide)
              have g11_σ44 : σ44.1 218 11 = (σ1.1 218 10) := (zI_atN eσ44 (by decide)).trans g11_σ37
              have g12_σ44 : σ44.1 218 12 = (2 : Int32) := zI_atI eσ44
              have g13_σ44 : σ44.1 218 13 = (σ37.1 218 13) := zI_atN eσ44 (by decide)
              have g14_σ44 : σ44.1 218 14 = (σ0.1 218 14) := (zI_atN eσ44 (by decide)).trans g14_σ37
              have g15_σ44 : σ44.1 218 15 = (σ0.1 218 15) := (zI_atN eσ44 (by decide)).trans g15_σ37
              have g20_σ44 : σ44.1 218 20 = (σ0.1 218 20) := (zI_atN eσ44 (by decide)).trans g20_σ37
              have g22_σ44 : σ44.1 218 22 = (σ0.1 218 22) := (zI_atN eσ44 (by decide)).trans g22_σ37
              have g23_σ44 : σ44.1 218 23 = (σ0.1 218 23) := (zI_atN eσ44 (by decide)).trans g23_σ37
              have g24_σ44 : σ44.1 218 24 = (σ0.1 218 24) := (zI_atN eσ44 (by decide)).trans g24_σ37
              have g25_σ44 : σ44.1 218 25 = (σ0.1 218 25) := (zI_atN eσ44 (by decide)).trans g25_σ37
              exact ok_some ⟨hT, (show (TKS σ44.1 (σ0.1 224) (σ0.1 218 9).toInt.toNat (σ0.1 218 10).toInt.toNat) ∧ (σ44.1 218 7 = σ0.1 218 7 ∧ σ44.1 218 9 = σ0.1 218 9 ∧ σ44.1 218 14 = σ0.1 218 14 ∧ σ44.1 218 15 = σ0.1 218 15 ∧ σ44.1 218 20 = σ0.1 218 20 ∧ σ44.1 218 22 = σ0.1 218 22 ∧ σ44.1 218 23 = σ0.1 218 23 ∧ σ44.1 218 24 = σ0.1 218 24 ∧ σ44.1 218 25 = σ0.1 218 25) from ⟨by first | exact TKS_i g11_σ44 g10_σ44 g12_σ44 g13_σ44 (by rw [f0]; omega) (by rw [(tk_0 f0 e58).2]; omega) (tk_0 f0 e58).1.symm (fun q => absurd q (by decide)) | exact TKS_i g11_σ44 g10_σ44 g12_σ44 g13_σ44 (by rw [f0]; omega) (by rw [(tk_1 f0 (by omega) l80).2, r84]; omega) (tk_1 f0 (by omega) l80).1.symm (fun q => absurd q (by decide)) | exact TKS_i g11_σ44 g10_σ44 g12_σ44 g13_σ44 (by rw [f0]; omega) (by rw [(tk_2 f0 (by omega) l136).2, r84]; omega) (tk_2 f0 (by omega) l136).1.symm (fun _ => by rw [f0, ← n84]; exact v9r) | exact TKS_i g11_σ44 g10_σ44 g12_σ44 g13_σ44 (by rw [f0]; omega) (by rw [(tk_3 f0 (by omega) n80 n136).2, s9]; omega) (by rw [(tk_3 f0 (by omega) n80 n136).1, q219, if_pos (q219 ▸ s219)]) (fun q => absurd (congrArg Int32.toInt q) (by rw [show (2 : Int32).toInt = 2 by decide]; omega)) | exact TKS_i g11_σ44 g10_σ44 g12_σ44 g13_σ44 (by rw [f0]; omega) (by rw [(tk_3 f0 (by omega) n80 n136).2, s9]; omega) (by rw [(tk_3 f0 (by omega) n80 n136).1, if_neg s219]) (fun q => absurd q (by decide)), g7_σ44, g9_σ44, g14_σ44, g15_σ44, g20_σ44, g22_σ44, g23_σ44, g24_σ44, g25_σ44⟩)⟩
            · have qhc43 := hqv41.2 hc43
              have w101 := qhc43
              rw [see88] at w101
              have c101 := see_c (n := σ0.1 218 9) (t := σ0.1 224) (x := (σ37.1 218 10)) hY rfl (by omega) (by omega)
              have s9 : ((σ37.1 218 10) + 1).toInt = (σ37.1 218 10).toInt + 1 := by rw [ti_add]; simp only [Int32.reduceToInt]; omega
              have j9 : ((σ37.1 218 10) + 1).toInt.toNat = (σ37.1 218 10).toInt.toNat + 1 := by rw [s9]; omega
              have e8 : (σ0.1 224 (σ37.1 218 10).toNatClampNeg) = σ0.1 224 (σ37.1 218 10).toInt.toNat := rfl
              rw [e8] at c101
              have d101 : isDg ((σ0.1 224) (σ37.1 218 10).toInt.toNat) := by unfold isDg; omega
              have r84 := r83.trans (Rn_s (p := isDg) (t := (σ0.1 224)) (n := (σ0.1 218 9).toInt.toNat) (i := (σ37.1 218 10).toInt.toNat) (by omega) d101)
              have n84 := (Nv_s (t := (σ0.1 224)) (n := (σ0.1 218 9).toInt.toNat) (i := (σ37.1 218 10).toInt.toNat) (a := r9) (by omega) d101).symm.trans n9r
              refine ok_gI rfl ?_
              refine ok_gI rfl ?_
              refine ok_gC rfl ?_
              refine ok_zbX (Q := fun V => V = seeV (σ37.1 218 9) (σ37.1 224) (σ37.1 218 10)) (x_X12_see (hR.tr hT) (by (try simp only [g7_σ37, g9_σ37, g11_σ37, g12_σ37, g14_σ37, g15_σ37, g20_σ37, g22_σ37, g23_σ37, g24_σ37, g25_σ37]); omega) (by (try simp only [g7_σ37, g9_σ37, g11_σ37, g12_σ37, g14_σ37, g15_σ37, g20_σ37, g22_σ37, g23_σ37, g24_σ37, g25_σ37]); omega)) (fun v47 hqv47 => ?_)
              have hqv47 : v47 = seeV (σ37.1 218 9) (σ37.1 224) (σ37.1 218 10) := hqv47
              try simp only [g7_σ37, g9_σ37, g11_σ37, g12_σ37, g14_σ37, g15_σ37, g20_σ37, g22_σ37, g23_σ37, g24_σ37, g25_σ37, hT.2 224 (by decide)] at hqv47
              have see180 := hqv47
              have h180 : 48 ≤ v47.toInt ∧ v47.toInt ≤ 57 := by rw [hqv47]; omega
              have z180 := zmin5 v9r h180
              have e180 : v47.toInt = (σ0.1 224 (σ37.1 218 10).toInt.toNat).toInt := by rw [hqv47]; exact c101.2.symm
              have y180 := And.intro z180 (show Nv (σ0.1 224) (σ0.1 218 9).toInt.toNat ((σ37.1 218 10).toInt.toNat + 1) (10 * r9 + (v47.toInt - 48).toNat) = Nv (σ0.1 224) (σ0.1 218 9).toInt.toNat (σ1.1 218 10).toInt.toNat 0 from by rw [e180]; exact n84)
              refine ok_pI hT rfl (by decide) (fun σ49 eσ49 hOσ49 hT => ?_)
              have g7_σ49 : σ49.1 218 7 = (σ0.1 218 7) := (zI_atN eσ49 (by decide)).trans g7_σ37
              have g9_σ49 : σ49.1 218 9 = (σ0.1 218 9) := (zI_atN eσ49 (by decide)).trans g9_σ37
              have g10_σ49 : σ49.1 218 10 = (σ37.1 218 10) := zI_atN eσ49 (by decide)
              have g11_σ49 : σ49.1 218 11 = (σ1.1 218 10) := (zI_atN eσ49 (by decide)).trans g11_σ37
              have g12_σ49 : σ49.1 218 12 = (σ0.1 218 12) := (zI_atN eσ49 (by decide)).trans g12_σ37
              have g13_σ49 : σ49.1 218 13 = (zmin 99999 (((10 * (σ37.1 218 13)) + v47) - 48)) := zI_atI eσ49
              have g14_σ49 : σ49.1 218 14 = (σ0.1 218 14) := (zI_atN eσ49 (by decide)).trans g14_σ37
              have g15_σ49 : σ49.1 218 15 = (σ0.1 218 15) := (zI_atN eσ49 (by decide)).trans g15_σ37
              have g20_σ49 : σ49.1 218 20 = (σ0.1 218 20) := (zI_atN eσ49 (by decide)).trans g20_σ37
              have g22_σ49 : σ49.1 218 22 = (σ0.1 218 22) := (zI_atN eσ49 (by decide)).trans g22_σ37
              have g23_σ49 : σ49.1 218 23 = (σ0.1 218 23) := (zI_atN eσ49 (by decide)).trans g23_σ37
              have g24_σ49 : σ49.1 218 24 = (σ0.1 218 24) := (zI_atN eσ49 (by decide)).trans g24_σ37
              have g25_σ49 : σ49.1 218 25 = (σ0.1 218 25) := (zI_atN eσ49 (by decide)).trans g25_σ37
              refine ok_gIv rfl g10_σ49 ?_
              refine ok_pI hT rfl (by decide) (fun σ51 eσ51 hOσ51 hT => ?_)
              have g7_σ51 : σ51.1 218 7 = (σ0.1 218 7) := (zI_atN eσ51 (by decide)).trans g7_σ49
              have g9_σ51 : σ51.1 218 9 = (σ0.1 218 9) := (zI_atN eσ51 (by decide)).trans g9_σ49
              have g10_σ51 : σ51.1 218 10 = ((σ37.1 218 10) + 1) := zI_atI eσ51
              have g11_σ51 : σ51.1 218 11 = (σ1.1 218 10) := (zI_atN eσ51 (by decide)).trans g11_σ49
              have g12_σ51 : σ51.1 218 12 = (σ0.1 218 12) := (zI_atN eσ51 (by decide)).trans g12_σ49
              have g13_σ51 : σ51.1 218 13 = (zmin 99999 (((10 * (σ37.1 218 13)) + v47) - 48)) := (zI_atN eσ51 (by decide)).trans g13_σ49
              have g14_σ51 : σ51.1 218 14 = (σ0.1 218 14) := (zI_atN eσ51 (by decide)).trans g14_σ49
              have g15_σ51 : σ51.1 218 15 = (σ0.1 218 15) := (zI_atN eσ51 (by decide)).trans g15_σ49
              have g20_σ51 : σ51.1 218 20 = (σ0.1 218 20) := (zI_atN eσ51 (by decide)).trans g20_σ49
              have g22_σ51 : σ51.1 218 22 = (σ0.1 218 22) := (zI_atN eσ51 (by decide)).trans g22_σ49
              have g23_σ51 : σ51.1 218 23 = (σ0.1 218 23) := (zI_atN eσ51 (by decide)).trans g23_σ49
              have g24_σ51 : σ51.1 218 24 = (σ0.1 218 24) := (zI_atN eσ51 (by decide)).trans g24_σ49
              have g25_σ51 : σ51.1 218 25 = (σ0.1 218 25) := (zI_atN eσ51 (by decide)).trans g25_σ49
              exact ih144_37 σ51 (show Tr [218] σ0 σ51 ∧ ((((σ51.1 218 11).toInt ≤ (σ51.1 218 10).toInt ∧ (σ51.1 218 10).toInt ≤ (σ0.1 218 9).toInt) ∧ Rn isDg (σ0.1 224) (σ0.1 218 9).toInt.toNat (σ51.1 218 11).toInt.toNat = Rn isDg (σ0.1 224) (σ0.1 218 9).toInt.toNat (σ51.1 218 10).toInt.toNat) ∧ ∃ r : Nat, (σ51.1 218 13).toInt = min 99999 (r : Int) ∧ Nv (σ0.1 224) (σ0.1 218 9).toInt.toNat (σ51.1 218 10).toInt.toNat r = Nv (σ0.1 224) (σ0.1 218 9).toInt.toNat (σ51.1 218 11).toInt.toNat 0) ∧ (σ51.1 218 7 = (σ0.1 218 7)) ∧ (σ51.1 218 9 = (σ0.1 218 9)) ∧ (σ51.1 218 11 = (σ1.1 218 10)) ∧ (σ51.1 218 12 = (σ0.1 218 12)) ∧ (σ51.1 218 14 = (σ0.1 218 14)) ∧ (σ51.1 218 15 = (σ0.1 218 15)) ∧ (σ51.1 218 20 = (σ0.1 218 20)) ∧ (σ51.1 218 22 = (σ0.1 218 22)) ∧ (σ51.1 218 23 = (σ0.1 218 23)) ∧ (σ51.1 218 24 = (σ0.1 218 24)) ∧ (σ51.1 218 25 = (σ0.1 218 25)) from ⟨hT, (by (try simp only [g7_σ51, g9_σ51, g10_σ51, g11_σ51, g12_σ51, g13_σ51, g14_σ51, g15_σ51, g20_σ51, g22_σ51, g23_σ51, g24_σ51, g25_σ51]); exact ⟨⟨by rw [s9]; omega, by rw [j9]; exact r84⟩, _, y180.1, by rw [j9]; exact y180.2⟩), g7_σ51, g9_σ51, g11_σ51, g12_σ51, g14_σ51, g15_σ51, g20_σ51, g22_σ51, g23_σ51, g24_σ51, g25_σ51⟩) (show (600 - (σ51.1 218 10).toInt).toNat < (600 - (σ37.1 218 10).toInt).toNat from (by (try simp only [g7_σ51, g9_σ51, g10_σ51, g11_σ51, g12_σ51, g13_σ51, g14_σ51, g15_σ51, g20_σ51, g22_σ51, g23_σ51, g24_σ51, g25_σ51]); rw [s9]; omega))
        · have qhc23 := hqv21.2 hc23
          have w80 := qhc23
          have l80 : isLt ((σ0.1 224) (σ1.1 218 10).toInt.toNat) := by unfold isLt; omega
          refine ok_lp (fun t : zS => Tr [218] σ0 (t) ∧ (((((t).1 218 11).toInt ≤ ((t).1 218 10).toInt ∧ ((t).1 218 10).toInt ≤ (σ0.1 218 9).toInt) ∧ Rn isLt (σ0.1 224) (σ0.1 218 9).toInt.toNat ((t).1 218 11).toInt.toNat = Rn isLt (σ0.1 224) (σ0.1 218 9).toInt.toNat ((t).1 218 10).toInt.toNat)) ∧ ((t).1 218 7 = (σ0.1 218 7)) ∧ ((t).1 218 9 = (σ0.1 218 9)) ∧ ((t).1 218 11 = (σ1.1 218 10)) ∧ ((t).1 218 12 = (σ0.1 218 12)) ∧ ((t).1 218 13 = (σ0.1 218 13)) ∧ ((t).1 218 14 = (σ0.1 218 14)) ∧ ((t).1 218 15 = (σ0.1 218 15)) ∧ ((t).1 218 20 = (σ0.1 218 20)) ∧ ((t).1 218 22 = (σ0.1 218 22)) ∧ ((t).1 218 23 = (σ0.1 218 23)) ∧ ((t).1 218 24 = (σ0.1 218 24)) ∧ ((t).1 218 25 = (σ0.1 218 25))) (fun t : zS => (600 - ((t).1 218 10).toInt).toNat) (fun again52 t hI ih83_52 => ?_) N _ (show Tr [218] σ0 σ15 ∧ ((((σ15.1 218 11).toInt ≤ (σ15.1 218 10).toInt ∧ (σ15.1 218 10).toInt ≤ (σ0.1 218 9).toInt) ∧ Rn isLt (σ0.1 224) (σ0.1 218 9).toInt.toNat (σ15.1 218 11).toInt.toNat = Rn isLt (σ0.1 224) (σ0.1 218 9).toInt.toNat (σ15.1 218 10).toInt.toNat)) ∧ (σ15.1 218 7 = (σ0.1 218 7)) ∧ (σ15.1 218 9 = (σ0.1 218 9)) ∧ (σ15.1 218 11 = (σ1.1 218 10)) ∧ (σ15.1 218 12 = (σ0.1 218 12)) ∧ (σ15.1 218 13 = (σ0.1 218 13)) ∧ (σ15.1 218 14 = (σ0.1 218 14)) ∧ (σ15.1 218 15 = (σ0.1 218 15)) ∧ (σ15.1 218 20 = (σ0.1 218 20)) ∧ (σ15.1 218 22 = (σ0.1 218 22)) ∧ (σ15.1 218 23 = (σ0.1 218 23)) ∧ (σ15.1 218 24 = (σ0.1 218 24)) ∧ (σ15.1 218 25 = (σ0.1 218 25)) from ⟨hT, (by (try simp only [g7_σ15, g9_σ15, g10_σ15, g11_σ15, g12_σ15, g13_σ15, g14_σ15, g15_σ15, g20_σ15, g22_σ15, g23_σ15, g24_σ15, g25_σ15]); first | exact ⟨⟨by omega, by omega⟩, trivial⟩ | exact ⟨⟨by omega, by omega⟩, rfl⟩), g7_σ15, g9_σ15, g11_σ15, g12_σ15, g13_σ15, g14_σ15, g15_σ15, g20_σ15, g22_σ15, g23_σ15, g24_σ15, g25_σ15⟩) (show (600 - (σ15.1 218 10).toInt).toNat < N from (by ((try simp only [g7_σ15, g9_σ15, g10_σ15, g11_σ15, g12_σ15, g13_σ15, g14_σ15, g15_σ15, g20_σ15, g22_σ15, g23_σ15, g24_σ15, g25_σ15])); first | omega | decide | (simp only [Int32.le_iff_toInt_le, Int32.lt_iff_toInt_lt, ti_add, ti_sub, ti_mul, Int32.reduceToInt] at *; omega)))
          obtain ⟨σ52, rfl⟩ : ∃ x, x = t := ⟨t, rfl⟩
          have hI : Tr [218] σ0 σ52 ∧ ((((σ52.1 218 11).toInt ≤ (σ52.1 218 10).toInt ∧ (σ52.1 218 10).toInt ≤ (σ0.1 218 9).toInt) ∧ Rn isLt (σ0.1 224) (σ0.1 218 9).toInt.toNat (σ52.1 218 11).toInt.toNat = Rn isLt (σ0.1 224) (σ0.1 218 9).toInt.toNat (σ52.1 218 10).toInt.toNat)) ∧ (σ52.1 218 7 = (σ0.1 218 7)) ∧ (σ52.1 218 9 = (σ0.1 218 9)) ∧ (σ52.1 218 11 = (σ1.1 218 10)) ∧ (σ52.1 218 12 = (σ0.1 218 12)) ∧ (σ52.1 218 13 = (σ0.1 218 13)) ∧ (σ52.1 218 14 = (σ0.1 218 14)) ∧ (σ52.1 218 15 = (σ0.1 218 15)) ∧ (σ52.1 218 20 = (σ0.1 218 20)) ∧ (σ52.1 218 22 = (σ0.1 218 22)) ∧ (σ52.1 218 23 = (σ0.1 218 23)) ∧ (σ52.1 218 24 = (σ0.1 218 24)) ∧ (σ52.1 218 25 = (σ0.1 218 25)) := hI
          obtain ⟨hT, hI52, g7_σ52, g9_σ52, g11_σ52, g12_σ52, g13_σ52, g14_σ52, g15_σ52, g20_σ52, g22_σ52, g23_σ52, g24_σ52, g25_σ52⟩ := hI
          rw [F_X12_advance_83.eq_1]
          rw [g11_σ52] at hI52
          have hb83 := hI52.1
          have r83 := hI52.2
          refine ok_gI rfl ?_
          refine ok_gC rfl ?_
          refine ok_zbX (Q := fun V => V = seeV (σ52.1 218 9) (σ52.1 224) (σ52.1 218 10)) (x_X12_see (hR.tr hT) (by (try simp only [g7_σ52, g9_σ52, g11_σ52, g12_σ52, g13_σ52, g14_σ52, g15_σ52, g20_σ52, g22_σ52, g23_σ52, g24_σ52, g25_σ52]); omega) (by (try simp only [g7_σ52, g9_σ52, g11_σ52, g12_σ52, g13_σ52, g14_σ52, g15_σ52, g20_σ52, g22_σ52, g23_σ52, g24_σ52, g25_σ52]); omega)) (fun v54 hqv54 => ?_)
          have hqv54 : v54 = seeV (σ52.1 218 9) (σ52.1 224) (σ52.1 218 10) := hqv54
          try simp only [g7_σ52, g9_σ52, g11_σ52, g12_σ52, g13_σ52, g14_σ52, g15_σ52, g20_σ52, g22_σ52, g23_σ52, g24_σ52, g25_σ52, hT.2 224 (by decide)] at hqv54
          have see88 := hqv54
          refine ok_zbX (Q := fun V => (V = 0 → ¬ ((97 : Int64).toInt ≤ (Int32.toInt64 v54).toInt ∧ (Int32.toInt64 v54).toInt ≤ (122 : Int64).toInt)) ∧ (¬ V = 0 → (97 : Int64).toInt ≤ (Int32.toInt64 v54).toInt ∧ (Int32.toInt64 v54).toInt ≤ (122 : Int64).toInt)) (xi_X12_in) (fun v56 hqv56 => ?_)
          have hqv56 : (v56 = 0 → ¬ ((97 : Int64).toInt ≤ (Int32.toInt64 v54).toInt ∧ (Int32.toInt64 v54).toInt ≤ (122 : Int64).toInt)) ∧ (¬ v56 = 0 → (97 : Int64).toInt ≤ (Int32.toInt64 v54).toInt ∧ (Int32.toInt64 v54).toInt ≤ (122 : Int64).toInt) := hqv56
          try simp only [g7_σ52, g9_σ52, g11_σ52, g12_σ52, g13_σ52, g14_σ52, g15_σ52, g20_σ52, g22_σ52, g23_σ52, g24_σ52, g25_σ52, hT.2 224 (by decide)] at hqv56
          simp only [i64_of, Int64.reduceToInt] at hqv56
          refine ok_if (fun hc58 => ?_) (fun hc58 => ?_)
          · have qhc58 := hqv56.1 hc58
            have w101 := qhc58
            rw [see88] at w101
            have r84 := r83.trans (Rn_e (p := isLt) (fun hl hs => by have l9 : (σ52.1 218 10).toInt < (σ0.1 218 9).toInt := (by omega); have p9 := (see_p hY l9).2; have e8 : (σ0.1 224 (σ52.1 218 10).toNatClampNeg) = σ0.1 224 (σ52.1 218 10).toInt.toNat := rfl; rw [e8] at p9; unfold isLt at hs; omega))
            refine ok_pI hT rfl (by decide) (fun σ59 eσ59 hOσ59 hT => ?_)
            have g7_σ59 : σ59.1 218 7 = (σ0.1 218 7) := (zI_atN eσ59 (by decide)).trans g7_σ52
            have g9_σ59 : σ59.1 218 9 = (σ0.1 218 9) := (zI_atN eσ59 (by decide)).trans g9_σ52
            have g10_σ59 : σ59.1 218 10 = (σ52.1 218 10) := zI_atN eσ59 (by decide)
            have g11_σ59 : σ59.1 218 11 = (σ1.1 218 10) := (zI_atN eσ59 (by decide)).trans g11_σ52
            have g12_σ59 : σ59.1 218 12 = (1 : Int32) := zI_atI eσ59
            have g13_σ59 : σ59.1 218 13 = (σ0.1 218 13) := (zI_atN eσ59 (by decide)).trans g13_σ52
            have g14_σ59 : σ59.1 218 14 = (σ0.1 218 14) := (zI_atN eσ59 (by decide)).trans g14_σ52
            have g15_σ59 : σ59.1 218 15 = (σ0.1 218 15) := (zI_atN eσ59 (by decide)).trans g15_σ52
            have g20_σ59 : σ59.1 218 20 = (σ0.1 218 20) := (zI_atN eσ59 (by decide)).trans g20_σ52
            have g22_σ59 : σ59.1 218 22 = (σ0.1 218 22) := (zI_atN eσ59 (by decide)).trans g22_σ52
            have g23_σ59 : σ59.1 218 23 = (σ0.1 218 23) := (zI_atN eσ59 (by decide)).trans g23_σ52
            have g24_σ59 : σ59.1 218 24 = (σ0.1 218 24) := (zI_atN eσ59 (by decide)).trans g24_σ52
            have g25_σ59 : σ59.1 218 25 = (σ0.1 218 25) := (zI_atN eσ59 (by decide)).trans g25_σ52
            exact ok_some ⟨hT, (show (TKS σ59.1 (σ0.1 224) (σ0.1 218 9).toInt.toNat (σ0.1 218 10).toInt.toNat) ∧ (σ59.1 218 7 = σ0.1 218 7 ∧ σ59.1 218 9 = σ0.1 218 9 ∧ σ59.1 218 14 = σ0.1 218 14 ∧ σ59.1 218 15 = σ0.1 218 15 ∧ σ59.1 218 20 = σ0.1 218 20 ∧ σ59.1 218 22 = σ0.1 218 22 ∧ σ59.1 218 23 = σ0.1 218 23 ∧ σ59.1 218 24 = σ0.1 218 24 ∧ σ59.1 218 25 = σ0.1 218 25) from ⟨by first | exact TKS_i g11_σ59 g10_σ59 g12_σ59 g13_σ59 (by rw [f0]; omega) (by rw [(tk_0 f0 e58).2]; omega) (tk_0 f0 e58).1.symm (fun q => absurd q (by decide)) | exact TKS_i g11_σ59 g10_σ59 g12_σ59 g13_σ59 (by rw [f0]; omega) (by rw [(tk_1 f0 (by omega) l80).2, r84]; omega) (tk_1 f0 (by omega) l80).1.symm (fun q => absurd q (by decide)) | exact TKS_i g11_σ59 g10_σ59 g12_σ59 g13_σ59 (by rw [f0]; omega) (by rw [(tk_2 f0 (by omega) l136).2, r84]; omega) (tk_2 f0 (by omega) l136).1.symm (fun _ => by rw [f0, ← n84]; exact v9r) | exact TKS_i g11_σ59 g10_σ59 g12_σ59 g13_σ59 (by rw [f0]; omega) (by rw [(tk_3 f0 (by omega) n80 n136).2, s9]; omega) (by rw [(tk_3 f0 (by omega) n80 n136).1, q219, if_pos (q219 ▸ s219)]) (fun q => absurd (congrArg Int32.toInt q) (by rw [show (2 : Int32).toInt = 2 by decide]; omega)) | exact TKS_i g11_σ59 g10_σ59 g12_σ59 g13_σ59 (by rw [f0]; omega) (by rw [(tk_3 f0 (by omega) n80 n136).2, s9]; omega) (by rw [(tk_3 f0 (by omega) n80 n136).1, if_neg s219]) (fun q => absurd q (by decide)), g7_σ59, g9_σ59, g14_σ59, g15_σ59, g20_σ59, g22_σ59, g23_σ59, g24_σ59, g25_σ59⟩)⟩
          · have qhc58 := hqv56.2 hc58
            have w101 := qhc58
            rw [see88] at w101
            have c101 := see_c (n := σ0.1 218 9) (t := σ0.1 224) (x := (σ52.1 218 10)) hY rfl (by omega) (by omega)
            have s9 : ((σ52.1 218 10) + 1).toInt = (σ52.1 218 10).toInt + 1 := by rw [ti_add]; simp only [Int32.reduceToInt]; omega
            have j9 : ((σ52.1 218 10) + 1).toInt.toNat = (σ52.1 218 10).toInt.toNat + 1 := by rw [s9]; omega
            have r84 := r83.trans (Rn_s (p := isLt) (t := (σ0.1 224)) (n := (σ0.1 218 9).toInt.toNat) (i := (σ52.1 218 10).toInt.toNat) (by omega) (show isLt _ from by unfold isLt; have e9 := c101.2; have e8 : (σ0.1 224 (σ52.1 218 10).toNatClampNeg) = σ0.1 224 (σ52.1 218 10).toInt.toNat := rfl; rw [e8] at e9; omega))
            refine ok_gI rfl ?_
            refine ok_pI hT rfl (by decide) (fun σ61 eσ61 hOσ61 hT => ?_)
            have g7_σ61 : σ61.1 218 7 = (σ0.1 218 7) := (zI_atN eσ61 (by decide)).trans g7_σ52
            have g9_σ61 : σ61.1 218 9 = (σ0.1 218 9) := (zI_atN eσ61 (by decide)).trans g9_σ52
            have g10_σ61 : σ61.1 218 10 = ((σ52.1 218 10) + 1) := zI_atI eσ61
            have g11_σ61 : σ61.1 218 11 = (σ1.1 218 10) := (zI_atN eσ61 (by decide)).trans g11_σ52
            have g12_σ61 : σ61.1 218 12 = (σ0.1 218 12) := (zI_atN eσ61 (by decide)).trans g12_σ52
            have g13_σ61 : σ61.1 218 13 = (σ0.1 218 13) := (zI_atN eσ61 (by decide)).trans g13_σ52
            have g14_σ61 : σ61.1 218 14 = (σ0.1 218 14) := (zI_atN eσ61 (by decide)).trans g14_σ52
            have g15_σ61 : σ61.1 218 15 = (σ0.1 218 15) := (zI_atN eσ61 (by decide)).trans g15_σ52
            have g20_σ61 : σ61.1 218 20 = (σ0.1 218 20) := (zI_atN eσ61 (by decide)).trans g20_σ52
            have g22_σ61 : σ61.1 218 22 = (σ0.1 218 22) := (zI_atN eσ61 (by decide)).trans g22_σ52
            have g23_σ61 : σ61.1 218 23 = (σ0.1 218 23) := (zI_atN eσ61 (by decide)).trans g23_σ52
            have g24_σ61 : σ61.1 218 24 = (σ0.1 218 24) := (zI_atN eσ61 (by decide)).trans g24_σ52
            have g25_σ61 : σ61.1 218 25 = (σ0.1 218 25) := (zI_atN eσ61 (by decide)).trans g25_σ52
            exact ih83_52 σ61 (show Tr [218] σ0 σ61 ∧ ((((σ61.1 218 11).toInt ≤ (σ61.1 218 10).toInt ∧ (σ61.1 218 10).toInt ≤ (σ0.1 218 9).toInt) ∧ Rn isLt (σ0.1 224) (σ0.1 218 9).toInt.toNat (σ61.1 218 11).toInt.toNat = Rn isLt (σ0.1 224) (σ0.1 218 9).toInt.toNat (σ61.1 218 10).toInt.toNat)) ∧ (σ61.1 218 7 = (σ0.1 218 7)) ∧ (σ61.1 218 9 = (σ0.1 218 9)) ∧ (σ61.1 218 11 = (σ1.1 218 10)) ∧ (σ61.1 218 12 = (σ0.1 218 12)) ∧ (σ61.1 218 13 = (σ0.1 218 13)) ∧ (σ61.1 218 14 = (σ0.1 218 14)) ∧ (σ61.1 218 15 = (σ0.1 218 15)) ∧ (σ61.1 218 20 = (σ0.1 218 20)) ∧ (σ61.1 218 22 = (σ0.1 218 22)) ∧ (σ61.1 218 23 = (σ0.1 218 23)) ∧ (σ61.1 218 24 = (σ0.1 218 24)) ∧ (σ61.1 218 25 = (σ0.1 218 25)) from ⟨hT, (by (try simp only [g7_σ61, g9_σ61, g10_σ61, g11_σ61, g12_σ61, g13_σ61, g14_σ61, g15_σ61, g20_σ61, g22_σ61, g23_σ61, g24_σ61, g25_σ61]); exact ⟨by rw [s9]; omega, by rw [j9]; exact r84⟩), g7_σ61, g9_σ61, g11_σ61, g12_σ61, g13_σ61, g14_σ61, g15_σ61, g20_σ61, g22_σ61, g23_σ61, g24_σ61, g25_σ61⟩) (show (600 - (σ61.1 218 10).toInt).toNat < (600 - (σ52.1 218 10).toInt).toNat from (by (try simp only [g7_σ61, g9_σ61, g10_σ61, g11_σ61, g12_σ61, g13_σ61, g14_σ61, g15_σ61, g20_σ61, g22_σ61, g23_σ61, g24_σ61, g25_σ61]); rw [s9]; omega))

/-! ===== the reference's tokens ===== -/
def TOK (s : Nat → Nat → Int32) : Prop := ((0 ≤ (s 218 11).toInt ∧ (s 218 11).toInt ≤ (s 218 10).toInt) ∧ (s 218 10).toInt ≤ (s 218 9).toInt ∧ (s 218 9).toInt ≤ 600) ∧ (¬ s 218 12 = 0 → (s 218 11).toInt < (s 218 10).toInt) ∧ (s 218 12 = 1 → ∀ k : Nat, (s 218 11).toInt ≤ (k : Int) → (k : Int) < (s 218 10).toInt → 97 ≤ (s 224 k).toInt ∧ (s 224 k).toInt ≤ 122)
def BYT (t : Nat → Int32) : Prop := ∀ k, -128 ≤ (t k).toInt ∧ (t k).toInt ≤ 127
theorem TOK_i {s : Nat → Nat → Int32} {n a f k : Int32} {t : Nat → Int32} (e9 : s 218 9 = n) (e10 : s 218 10 = a) (e11 : s 218 11 = f) (e12 : s 218 12 = k) (et : s 224 = t) (h0 : 0 ≤ f.toInt) (h1 : f.toInt ≤ a.toInt) (h2 : a.toInt ≤ n.toInt) (h3 : n.toInt ≤ 600) (h4 : ¬ k = 0 → f.toInt < a.toInt) (h5 : k = 1 → ∀ j : Nat, f.toInt ≤ (j : Int) → (j : Int) < a.toInt → 97 ≤ (t j).toInt ∧ (t j).toInt ≤ 122) : TOK s := by
  unfold TOK
  rw [e9, e10, e11, e12, et]
  exact ⟨⟨⟨h0, h1⟩, h2, h3⟩, h4, h5⟩
theorem TOK_c {s s' : Nat → Nat → Int32} (h : TOK s) (e9 : s' 218 9 = s 218 9) (e10 : s' 218 10 = s 218 10) (e11 : s' 218 11 = s 218 11) (e12 : s' 218 12 = s 218 12) (et : s' 224 = s 224) : TOK s' := by
  unfold TOK at h ⊢
  rw [e9, e10, e11, e12, et]; exact h
theorem TOK_p {σ τ : zS} {j : Nat} {v : Int32} (e : τ = zI σ 218 (upd (σ.1 218) j v)) (hj : j < 9 ∨ 12 < j) (h : TOK σ.1) : TOK τ.1 := by
  refine TOK_c h (zI_atN e (by omega)) (zI_atN e (by omega)) (zI_atN e (by omega)) (zI_atN e (by omega)) ?_
  subst e
  exact va_up_ne σ.1 (upd (σ.1 218) j v) (show (224 : Nat) ≠ 218 by decide)
theorem TOK_tr {S : List Nat} {σ τ : zS} (hT : Tr S σ τ) (h1 : 218 ∉ S) (h2 : 224 ∉ S) (h : TOK σ.1) : TOK τ.1 := by
  have e := hT.2 218 h1
  refine TOK_c h ?_ ?_ ?_ ?_ (hT.2 224 h2) <;> rw [e]
/-- what see answers -/
def seeV (n : Int32) (t : Nat → Int32) (x : Int32) : Int32 := if n ≤ x then -1 else t x.toNatClampNeg &&& 255
theorem and255 (v : Int32) : 0 ≤ (v &&& 255).toInt ∧ (v &&& 255).toInt ≤ 255 := by
  have h := ti_and0 v (m := 255) (by decide)
  rw [show Int32.ofNat 255 = 255 from rfl] at h
  omega
theorem see_lt {n x c : Int32} {t : Nat → Int32} (h : seeV n t x = c) (hc : ¬ c = -1) : x.toInt < n.toInt := by
  unfold seeV at h
  by_cases q : n ≤ x
  · rw [if_pos q] at h; exact absurd h.symm hc
  · rw [Int32.le_iff_toInt_le] at q; omega
theorem by255 : ∀ k, k < 256 → ((nI k - 128) &&& 255).toInt = (if k < 128 then (k : Int) + 128 else (k : Int) - 128) ∧ (nI k - 128).toInt = (k : Int) - 128 := by decide +kernel
theorem see_az {n x : Int32} {t : Nat → Int32} (hb : BYT t) (h : 32 ≤ (seeV n t x).toInt ∧ (seeV n t x).toInt ≤ 122) : x.toInt < n.toInt ∧ (t x.toNatClampNeg).toInt = (seeV n t x).toInt := by
  have q : ¬ n ≤ x := by
    intro q
    unfold seeV at h
    rw [if_pos q] at h
    exact absurd h.1 (by decide)
  have e : seeV n t x = t x.toNatClampNeg &&& 255 := if_neg q
  rw [e] at h ⊢
  rw [Int32.le_iff_toInt_le] at q
  refine ⟨by omega, ?_⟩
  have hb := hb x.toNatClampNeg
  generalize t x.toNatClampNeg = v at *
  obtain ⟨k, hk, rfl⟩ : ∃ k : Nat, k < 256 ∧ v = nI k - 128 := by
    refine ⟨(v.toInt + 128).toNat, by omega, Int32.toInt_inj.mp ?_⟩
    rw [(by255 _ (by omega)).2]; omega
  have := by255 k hk
  rw [this.1] at h ⊢
  rw [this.2] at hb ⊢
  split at h <;> split <;> omega
theorem x_X12_see {N : Nat} {x1 : Int32} {σ : zS} (hR : RF σ.2.2) (h0 : 0 ≤ x1.toInt) (h6 : (σ.1 218 9).toInt ≤ 600) : Ok (f_X12_see N 218 x1 σ) (fun r => r.2 = σ ∧ r.1 = seeV (σ.1 218 9) (σ.1 224) x1) := by
  rw [f_X12_see.eq_1]
  refine ok_gI rfl ?_
  refine ok_if (fun h => ok_some ⟨rfl, (if_pos h).symm⟩) (fun h => ?_)
  have h2 := h
  rw [Int32.le_iff_toInt_le] at h2
  refine ok_gR (Sx := []) (v := 224) Tr.rf rfl (hR 218 6 rfl) ?_
  refine ok_aIn (n := 600) rfl h0 (by omega) (fun v e => ?_)
  exact ok_some ⟨rfl, by rw [e]; exact (if_neg h).symm⟩
theorem xi_X12_in {N : Nat} {a b c : Int64} {σ : zS} : Ok (f_X12_in N a b c σ) (fun r => r.2 = σ ∧ ((r.1 = 0 → ¬ (b.toInt ≤ a.toInt ∧ a.toInt ≤ c.toInt)) ∧ (¬ r.1 = 0 → b.toInt ≤ a.toInt ∧ a.toInt ≤ c.toInt))) := by
  rw [f_X12_in.eq_1]
  refine ok_if (fun h => ok_rZ (Or.inl rfl) ⟨rfl, fun _ => ?_, fun q => absurd rfl q⟩) (fun h => ok_if (fun h2 => ok_rZ (Or.inl rfl) ⟨rfl, fun _ => ?_, fun q => absurd rfl q⟩) (fun h2 => ok_rZ (Or.inr rfl) ⟨rfl, fun q => absurd (show (1 : Int32) = 0 from q) (by decide), fun _ => ⟨in_ok h, in_ok2 h2⟩⟩))
  · rw [zcmp_lt] at h; omega
  · rw [zcmp_gt] at h2; omega
theorem x_X12_good {N : Nat} {σ : zS} : Ok (f_X12_good N 218 σ) (fun r => r.2 = σ ∧ ((r.1 = 0 → ¬ σ.1 218 14 = 0) ∧ (¬ r.1 = 0 → σ.1 218 14 = 0))) := by
  rw [f_X12_good.eq_1]
  refine ok_gI rfl ?_
  exact ok_if (fun h => ok_rZ (Or.inr rfl) ⟨rfl, fun q => absurd (show (1 : Int32) = 0 from q) (by decide), fun _ => h⟩) (fun h => ok_rZ (Or.inl rfl) ⟨rfl, fun _ => h, fun q => absurd rfl q⟩)
theorem x_X12_isSign {N : Nat} {x0 : Int32} {σ : zS} : Ok (f_X12_isSign N x0 σ) (fun r => r.2 = σ ∧ ((r.1 = 0 → True) ∧ (¬ r.1 = 0 → 35 ≤ x0.toInt))) := by
  rw [f_X12_isSign.eq_1]
  repeat' first
    | exact ok_rZ (Or.inl rfl) ⟨rfl, fun _ => trivial, fun q => absurd rfl q⟩
    | refine ok_if (fun h => ok_rZ (Or.inr rfl) ⟨rfl, fun _ => trivial, fun _ => by rw [h]; decide⟩) (fun h => ?_)
    | refine ok_if (fun h => ?_) (fun h => ok_rZ (Or.inl rfl) ⟨rfl, fun _ => trivial, fun q => absurd rfl q⟩)
    | refine ok_if (fun h => ok_rZ (Or.inr rfl) ⟨rfl, fun _ => trivial, fun _ => by rw [h]; decide⟩) (fun h => ok_rZ (Or.inl rfl) ⟨rfl, fun _ => trivial, fun q => absurd rfl q⟩)
theorem zlen_b : ∀ i, i < zSn → zlen.getD i 0 ≤ 20 := by decide +kernel
theorem x_is36 {N w : Nat} {σ : zS} (hN : 1048576 ≤ N) (hR : RF σ.2.2) (hw : w < zSn) (hK : TOK σ.1) {y0 : Int32} (hy : y0 = 0 ∨ y0 = 1) (hA : ¬ y0 = 0 → (σ.1 218 14 = 0 ∧ σ.1 218 12 = 1) ∧ σ.1 218 10 - σ.1 218 11 = nI (zlen.getD w 0)) : Ok (J_X12_is_36 N 218 w y0 σ) (fun r => r.2 = σ ∧ ((r.1 = 0 ∨ r.1 = 1) ∧ (¬ r.1 = 0 → σ.1 218 14 = 0 ∧ σ.1 218 12 = 1))) := by
  have hz := zlen_b w hw
  have hl : (nI (zlen.getD w 0)).toInt = (zlen.getD w 0 : Int) := nI_toInt (by omega)
  have hk := hK.1
  rw [J_X12_is_36.eq_1]
  refine ok_lp (fun t : Int32 × Int32 × zS => t.2.2 = σ ∧ 0 ≤ t.2.1.toInt ∧ (t.1 = 0 ∨ t.1 = 1) ∧ (¬ t.1 = 0 → (σ.1 218 14 = 0 ∧ σ.1 218 12 = 1) ∧ σ.1 218 10 - σ.1 218 11 = nI (zlen.getD w 0))) (fun t => ((zlen.getD w 0 : Int) - t.2.1.toInt).toNat) (fun again t hI ih => ?_) N _ ⟨rfl, (by decide : 0 ≤ (0 : Int32).toInt), hy, hA⟩ (by simp only [Int32.reduceToInt]; omega)
  obtain ⟨x2, x3, σ'⟩ := t
  obtain ⟨e, h0, hz2, hA⟩ := hI
  have e : σ' = σ := e
  have h0 : 0 ≤ x3.toInt := h0
  have hz2 : x2 = 0 ∨ x2 = 1 := hz2
  have hA : ¬ x2 = 0 → (σ.1 218 14 = 0 ∧ σ.1 218 12 = 1) ∧ σ.1 218 10 - σ.1 218 11 = nI (zlen.getD w 0) := hA
  subst e
  rw [F_X12_is_39.eq_1]
  refine ok_zbX (σ := σ') (Q := fun v => v = nI (zlen.getD w 0)) ⟨_, if_pos hw, rfl, rfl⟩ (fun v hv => ?_)
  subst hv
  refine ok_if (fun h => ok_rZ hz2 ⟨rfl, hz2, fun q => (hA q).1⟩) (fun h => ok_if (fun _ => ok_rZ hz2 ⟨rfl, hz2, fun q => (hA q).1⟩) (fun h2 => ?_))
  rw [Int32.le_iff_toInt_le, hl] at h
  have hB := congrArg Int32.toInt (hA h2).2
  rw [ti_sub, hl] at hB
  have hs : (x3 + 1).toInt = x3.toInt + 1 := by rw [ti_add]; simp only [Int32.reduceToInt]; omega
  refine ok_gR (Sx := []) (v := 224) Tr.rf rfl (hR 218 6 rfl) ?_
  refine ok_gI rfl ?_
  refine ok_aIn (n := 600) rfl (by rw [ti_add]; omega) (by rw [ti_add]; omega) (fun v7 e7 => ?_)
  refine ok_zbX (σ := σ') (Q := fun _ => True) ⟨_, if_pos ⟨hw, h0, by omega⟩, rfl, trivial⟩ (fun v8 _ => ?_)
  have hm : ((zlen.getD w 0 : Int) - (x3 + 1).toInt).toNat < ((zlen.getD w 0 : Int) - x3.toInt).toNat := by rw [hs]; omega
  exact ok_if (fun _ => ih (1, x3 + 1, σ') ⟨rfl, (by rw [hs]; omega : 0 ≤ (x3 + 1).toInt), Or.inr rfl, fun _ => hA h2⟩ hm) (fun _ => ih (0, x3 + 1, σ') ⟨rfl, (by rw [hs]; omega : 0 ≤ (x3 + 1).toInt), Or.inl rfl, fun q => absurd rfl q⟩ hm)
theorem x0_X12_is {N w : Nat} {σ : zS} (hN : 1048576 ≤ N) (hR : RF σ.2.2) (hw : w < zSn) (hK : TOK σ.1) : Ok (f_X12_is N 218 w σ) (fun r => r.2 = σ ∧ ((r.1 = 0 ∨ r.1 = 1) ∧ (¬ r.1 = 0 → σ.1 218 14 = 0 ∧ σ.1 218 12 = 1))) := by
  rw [f_X12_is.eq_1]
  have z := x_is36 (y0 := 0) hN hR hw hK (Or.inl rfl) (fun q => absurd rfl q)
  refine ok_gC rfl ?_
  refine ok_zbX (Q := fun v => (v = 0 → ¬ σ.1 218 14 = 0) ∧ (¬ v = 0 → σ.1 218 14 = 0)) x_X12_good (fun v hv => ?_)
  refine ok_if (fun _ => z) (fun h => ?_)
  refine ok_gI rfl ?_
  refine ok_if (fun h1 => ?_) (fun _ => z)
  refine ok_gI rfl ?_
  refine ok_gI rfl ?_
  refine ok_zbX (σ := σ) (Q := fun v => v = nI (zlen.getD w 0)) ⟨_, if_pos hw, rfl, rfl⟩ (fun v hv2 => ?_)
  subst hv2
  exact ok_if (fun h3 => x_is36 (y0 := 1) hN hR hw hK (Or.inr rfl) (fun _ => ⟨⟨hv.2 h, h1⟩, h3⟩)) (fun _ => z)
theorem x_X12_is {N w : Nat} {σ : zS} (hN : 1048576 ≤ N) (hR : RF σ.2.2) (hw : w < zSn) (hK : TOK σ.1) : Ok (f_X12_is N 218 w σ) (fun r => r.2 = σ ∧ ((r.1 = 0 → f_X12_is N 218 w σ = some (0, σ)) ∧ (¬ r.1 = 0 → (σ.1 218 14 = 0 ∧ σ.1 218 12 = 1) ∧ r.1 = 1 ∧ f_X12_is N 218 w σ = some (1, σ)))) := by
  obtain ⟨⟨v, τ⟩, h, e, q, q2⟩ := x0_X12_is hN hR hw hK
  have e : τ = σ := e
  have q : v = 0 ∨ v = 1 := q
  subst e
  refine ⟨(v, τ), h, rfl, fun h0 => ?_, fun h0 => ⟨q2 h0, q.resolve_left h0, ?_⟩⟩
  · have h0 : v = 0 := h0
    rw [h, h0]
  · have h0 : ¬ v = 0 := h0
    rw [h, q.resolve_left h0]

set_option maxHeartbeats 4000000 in
set_option maxRecDepth 100000 in
theorem s_X12_advance {N : Nat} (hN : 1048576 ≤ N)  {σ0 : zS}  (hR : RF σ0.2.2) (hA : (0 ≤ (σ0.1 218 10).toInt ∧ (σ0.1 218 10).toInt ≤ (σ0.1 218 9).toInt) ∧ (σ0.1 218 9).toInt ≤ 600) (hY : BYT (σ0.1 224)) : Ok (f_X12_advance N 218 σ0) (fun r => Tr [218] σ0 r.2 ∧ ((TOK r.2.1 ∧ (σ0.1 218 10).toInt ≤ (r.2.1 218 11).toInt) ∧ (r.2.1 218 7 = σ0.1 218 7 ∧ r.2.1 218 9 = σ0.1 218 9 ∧ r.2.1 218 14 = σ0.1 218 14 ∧ r.2.1 218 15 = σ0.1 218 15 ∧ r.2.1 218 20 = σ0.1 218 20 ∧ r.2.1 218 22 = σ0.1 218 22 ∧ r.2.1 218 23 = σ0.1 218 23 ∧ r.2.1 218 24 = σ0.1 218 24 ∧ r.2.1 218 25 = σ0.1 218 25))) := by
  have hT : Tr [218] σ0 σ0 := Tr.rf
  have hA1 := hA.1
  have hA2 := hA.2
  rw [f_X12_advance.eq_1]
  refine ok_lp (fun t : zS => Tr [218] σ0 (t) ∧ ((σ0.1 218 10).toInt ≤ ((t).1 218 10).toInt ∧ ((t).1 218 10).toInt ≤ (σ0.1 218 9).toInt) ∧ ((t).1 218 7 = (σ0.1 218 7)) ∧ ((t).1 218 9 = (σ0.1 218 9)) ∧ ((t).1 218 11 = (σ0.1 218 11)) ∧ ((t).1 218 12 = (σ0.1 218 12)) ∧ ((t).1 218 13 = (σ0.1 218 13)) ∧ ((t).1 218 14 = (σ0.1 218 14)) ∧ ((t).1 218 15 = (σ0.1 218 15)) ∧ ((t).1 218 20 = (σ0.1 218 20)) ∧ ((t).1 218 22 = (σ0.1 218 22)) ∧ ((t).1 218 23 = (σ0.1 218 23)) ∧ ((t).1 218 24 = (σ0.1 218 24)) ∧ ((t).1 218 25 = (σ0.1 218 25))) (fun t : zS => (600 - ((t).1 218 10).toInt).toNat) (fun again1 t hI ih0_1 => ?_) N _ (show Tr [218] σ0 σ0 ∧ ((σ0.1 218 10).toInt ≤ (σ0.1 218 10).toInt ∧ (σ0.1 218 10).toInt ≤ (σ0.1 218 9).toInt) ∧ (σ0.1 218 7 = (σ0.1 218 7)) ∧ (σ0.1 218 9 = (σ0.1 218 9)) ∧ (σ0.1 218 11 = (σ0.1 218 11)) ∧ (σ0.1 218 12 = (σ0.1 218 12)) ∧ (σ0.1 218 13 = (σ0.1 218 13)) ∧ (σ0.1 218 14 = (σ0.1 218 14)) ∧ (σ0.1 218 15 = (σ0.1 218 15)) ∧ (σ0.1 218 20 = (σ0.1 218 20)) ∧ (σ0.1 218 22 = (σ0.1 218 22)) ∧ (σ0.1 218 23 = (σ0.1 218 23)) ∧ (σ0.1 218 24 = (σ0.1 218 24)) ∧ (σ0.1 218 25 = (σ0.1 218 25)) from ⟨hT, (by exact ⟨Int.le_refl _, by omega⟩), rfl, rfl, rfl, rfl, rfl, rfl, rfl, rfl, rfl, rfl, rfl, rfl⟩) (show (600 - (σ0.1 218 10).toInt).toNat < N from (by (skip); first | omega | decide | (simp only [Int32.le_iff_toInt_le, Int32.lt_iff_toInt_lt, ti_add, ti_sub, ti_mul, Int32.reduceToInt] at *; omega)))
  obtain ⟨σ1, rfl⟩ : ∃ x, x = t := ⟨t, rfl⟩
  have hI : Tr [218] σ0 σ1 ∧ ((σ0.1 218 10).toInt ≤ (σ1.1 218 10).toInt ∧ (σ1.1 218 10).toInt ≤ (σ0.1 218 9).toInt) ∧ (σ1.1 218 7 = (σ0.1 218 7)) ∧ (σ1.1 218 9 = (σ0.1 218 9)) ∧ (σ1.1 218 11 = (σ0.1 218 11)) ∧ (σ1.1 218 12 = (σ0.1 218 12)) ∧ (σ1.1 218 13 = (σ0.1 218 13)) ∧ (σ1.1 218 14 = (σ0.1 218 14)) ∧ (σ1.1 218 15 = (σ0.1 218 15)) ∧ (σ1.1 218 20 = (σ0.1 218 20)) ∧ (σ1.1 218 22 = (σ0.1 218 22)) ∧ (σ1.1 218 23 = (σ0.1 218 23)) ∧ (σ1.1 218 24 = (σ0.1 218 24)) ∧ (σ1.1 218 25 = (σ0.1 218 25)) := hI
  obtain ⟨hT, hI1, g7_σ1, g9_σ1, g11_σ1, g12_σ1, g13_σ1, g14_σ1, g15_σ1, g20_σ1, g22_σ1, g23_σ1, g24_σ1, g25_σ1⟩ := hI
  rw [F_X12_advance_0.eq_1]
  refine ok_gI rfl ?_
  refine ok_gC rfl ?_
  refine ok_zbX (Q := fun V => V = seeV (σ1.1 218 9) (σ1.1 224) (σ1.1 218 10)) (x_X12_see (hR.tr hT) (by (try simp only [g7_σ1, g9_σ1, g11_σ1, g12_σ1, g13_σ1, g14_σ1, g15_σ1, g20_σ1, g22_σ1, g23_σ1, g24_σ1, g25_σ1]); omega) (by (try simp only [g7_σ1, g9_σ1, g11_σ1, g12_σ1, g13_σ1, g14_σ1, g15_σ1, g20_σ1, g22_σ1, g23_σ1, g24_σ1, g25_σ1]); omega)) (fun v3 hqv3 => ?_)
  have hqv3 : v3 = seeV (σ1.1 218 9) (σ1.1 224) (σ1.1 218 10) := hqv3
  try simp only [g7_σ1, g9_σ1, g11_σ1, g12_σ1, g13_σ1, g14_σ1, g15_σ1, g20_σ1, g22_σ1, g23_σ1, g24_σ1, g25_σ1, hT.2 224 (by decide)] at hqv3
  refine ok_if (fun hc5 => ?_) (fun hc5 => ?_)
  · have hs := see_lt (hqv3.symm.trans hc5) (by decide)
    have s9 : ((σ1.1 218 10) + 1).toInt = (σ1.1 218 10).toInt + 1 := by rw [ti_add]; simp only [Int32.reduceToInt]; omega
    refine ok_gI rfl ?_
    refine ok_pI hT rfl (by decide) (fun σ7 eσ7 hOσ7 hT => ?_)
    have g7_σ7 : σ7.1 218 7 = (σ0.1 218 7) := (zI_atN eσ7 (by decide)).trans g7_σ1
    have g9_σ7 : σ7.1 218 9 = (σ0.1 218 9) := (zI_atN eσ7 (by decide)).trans g9_σ1
    have g10_σ7 : σ7.1 218 10 = ((σ1.1 218 10) + 1) := zI_atI eσ7
    have g11_σ7 : σ7.1 218 11 = (σ0.1 218 11) := (zI_atN eσ7 (by decide)).trans g11_σ1
    have g12_σ7 : σ7.1 218 12 = (σ0.1 218 12) := (zI_atN eσ7 (by decide)).trans g12_σ1
    have g13_σ7 : σ7.1 218 13 = (σ0.1 218 13) := (zI_atN eσ7 (by decide)).trans g13_σ1
    have g14_σ7 : σ7.1 218 14 = (σ0.1 218 14) := (zI_atN eσ7 (by decide)).trans g14_σ1
    have g15_σ7 : σ7.1 218 15 = (σ0.1 218 15) := (zI_atN eσ7 (by decide)).trans g15_σ1
    have g20_σ7 : σ7.1 218 20 = (σ0.1 218 20) := (zI_atN eσ7 (by decide)).trans g20_σ1
    have g22_σ7 : σ7.1 218 22 = (σ0.1 218 22) := (zI_atN eσ7 (by decide)).trans g22_σ1
    have g23_σ7 : σ7.1 218 23 = (σ0.1 218 23) := (zI_atN eσ7 (by decide)).trans g23_σ1
    have g24_σ7 : σ7.1 218 24 = (σ0.1 218 24) := (zI_atN eσ7 (by decide)).trans g24_σ1
    have g25_σ7 : σ7.1 218 25 = (σ0.1 218 25) := (zI_atN eσ7 (by decide)).trans g25_σ1
    exact ih0_1 σ7 (show Tr [218] σ0 σ7 ∧ ((σ0.1 218 10).toInt ≤ (σ7.1 218 10).toInt ∧ (σ7.1 218 10).toInt ≤ (σ0.1 218 9).toInt) ∧ (σ7.1 218 7 = (σ0.1 218 7)) ∧ (σ7.1 218 9 = (σ0.1 218 9)) ∧ (σ7.1 218 11 = (σ0.1 218 11)) ∧ (σ7.1 218 12 = (σ0.1 218 12)) ∧ (σ7.1 218 13 = (σ0.1 218 13)) ∧ (σ7.1 218 14 = (σ0.1 218 14)) ∧ (σ7.1 218 15 = (σ0.1 218 15)) ∧ (σ7.1 218 20 = (σ0.1 218 20)) ∧ (σ7.1 218 22 = (σ0.1 218 22)) ∧ (σ7.1 218 23 = (σ0.1 218 23)) ∧ (σ7.1 218 24 = (σ0.1 218 24)) ∧ (σ7.1 218 25 = (σ0.1 218 25)) from ⟨hT, (by (try simp only [g7_σ7, g9_σ7, g10_σ7, g11_σ7, g12_σ7, g13_σ7, g14_σ7, g15_σ7, g20_σ7, g22_σ7, g23_σ7, g24_σ7, g25_σ7]); rw [s9]; omega), g7_σ7, g9_σ7, g11_σ7, g12_σ7, g13_σ7, g14_σ7, g15_σ7, g20_σ7, g22_σ7, g23_σ7, g24_σ7, g25_σ7⟩) (show (600 - (σ7.1 218 10).toInt).toNat < (600 - (σ1.1 218 10).toInt).toNat from (by (try simp only [g7_σ7, g9_σ7, g10_σ7, g11_σ7, g12_σ7, g13_σ7, g14_σ7, g15_σ7, g20_σ7, g22_σ7, g23_σ7, g24_σ7, g25_σ7]); rw [s9]; omega))
  · refine ok_gI rfl ?_
    refine ok_gC rfl ?_
    refine ok_zbX (Q := fun V => V = seeV (σ1.1 218 9) (σ1.1 224) (σ1.1 218 10)) (x_X12_see (hR.tr hT) (by (try simp only [g7_σ1, g9_σ1, g11_σ1, g12_σ1, g13_σ1, g14_σ1, g15_σ1, g20_σ1, g22_σ1, g23_σ1, g24_σ1, g25_σ1]); omega) (by (try simp only [g7_σ1, g9_σ1, g11_σ1, g12_σ1, g13_σ1, g14_σ1, g15_σ1, g20_σ1, g22_σ1, g23_σ1, g24_σ1, g25_σ1]); omega)) (fun v9 hqv9 => ?_)
    have hqv9 : v9 = seeV (σ1.1 218 9) (σ1.1 224) (σ1.1 218 10) := hqv9
    try simp only [g7_σ1, g9_σ1, g11_σ1, g12_σ1, g13_σ1, g14_σ1, g15_σ1, g20_σ1, g22_σ1, g23_σ1, g24_σ1, g25_σ1, hT.2 224 (by decide)] at hqv9
    refine ok_if (fun hc11 => ?_) (fun hc11 => ?_)
    · have hs := see_lt (hqv9.symm.trans hc11) (by decide)
      have s9 : ((σ1.1 218 10) + 1).toInt = (σ1.1 218 10).toInt + 1 := by rw [ti_add]; simp only [Int32.reduceToInt]; omega
      refine ok_gI rfl ?_
      refine ok_pI hT rfl (by decide) (fun σ13 eσ13 hOσ13 hT => ?_)
      have g7_σ13 : σ13.1 218 7 = (σ0.1 218 7) := (zI_atN eσ13 (by decide)).trans g7_σ1
      have g9_σ13 : σ13.1 218 9 = (σ0.1 218 9) := (zI_atN eσ13 (by decide)).trans g9_σ1
      have g10_σ13 : σ13.1 218 10 = ((σ1.1 218 10) + 1) := zI_atI eσ13
      have g11_σ13 : σ13.1 218 11 = (σ0.1 218 11) := (zI_atN eσ13 (by decide)).trans g11_σ1
      have g12_σ13 : σ13.1 218 12 = (σ0.1 218 12) := (zI_atN eσ13 (by decide)).trans g12_σ1
      have g13_σ13 : σ13.1 218 13 = (σ0.1 218 13) := (zI_atN eσ13 (by decide)).trans g13_σ1
      have g14_σ13 : σ13.1 218 14 = (σ0.1 218 14) := (zI_atN eσ13 (by decide)).trans g14_σ1
      have g15_σ13 : σ13.1 218 15 = (σ0.1 218 15) := (zI_atN eσ13 (by decide)).trans g15_σ1
      have g20_σ13 : σ13.1 218 20 = (σ0.1 218 20) := (zI_atN eσ13 (by decide)).trans g20_σ1
      have g22_σ13 : σ13.1 218 22 = (σ0.1 218 22) := (zI_atN eσ13 (by decide)).trans g22_σ1
      have g23_σ13 : σ13.1 218 23 = (σ0.1 218 23) := (zI_atN eσ13 (by decide)).trans g23_σ1
      have g24_σ13 : σ13.1 218 24 = (σ0.1 218 24) := (zI_atN eσ13 (by decide)).trans g24_σ1
      have g25_σ13 : σ13.1 218 25 = (σ0.1 218 25) := (zI_atN eσ13 (by decide)).trans g25_σ1
      exact ih0_1 σ13 (show Tr [218] σ0 σ13 ∧ ((σ0.1 218 10).toInt ≤ (σ13.1 218 10).toInt ∧ (σ13.1 218 10).toInt ≤ (σ0.1 218 9).toInt) ∧ (σ13.1 218 7 = (σ0.1 218 7)) ∧ (σ13.1 218 9 = (σ0.1 218 9)) ∧ (σ13.1 218 11 = (σ0.1 218 11)) ∧ (σ13.1 218 12 = (σ0.1 218 12)) ∧ (σ13.1 218 13 = (σ0.1 218 13)) ∧ (σ13.1 218 14 = (σ0.1 218 14)) ∧ (σ13.1 218 15 = (σ0.1 218 15)) ∧ (σ13.1 218 20 = (σ0.1 218 20)) ∧ (σ13.1 218 22 = (σ0.1 218 22)) ∧ (σ13.1 218 23 = (σ0.1 218 23)) ∧ (σ13.1 218 24 = (σ0.1 218 24)) ∧ (σ13.1 218 25 = (σ0.1 218 25)) from ⟨hT, (by (try simp only [g7_σ13, g9_σ13, g10_σ13, g11_σ13, g12_σ13, g13_σ13, g14_σ13, g15_σ13, g20_σ13, g22_σ13, g23_σ13, g24_σ13, g25_σ13]); rw [s9]; omega), g7_σ13, g9_σ13, g11_σ13, g12_σ13, g13_σ13, g14_σ13, g15_σ13, g20_σ13, g22_σ13, g23_σ13, g24_σ13, g25_σ13⟩) (show (600 - (σ13.1 218 10).toInt).toNat < (600 - (σ1.1 218 10).toInt).toNat from (by (try simp only [g7_σ13, g9_σ13, g10_σ13, g11_σ13, g12_σ13, g13_σ13, g14_σ13, g15_σ13, g20_σ13, g22_σ13, g23_σ13, g24_σ13, g25_σ13]); rw [s9]; omega))
    · refine ok_gI rfl ?_
      refine ok_pI hT rfl (by decide) (fun σ15 eσ15 hOσ15 hT => ?_)
      have g7_σ15 : σ15.1 218 7 = (σ0.1 218 7) := (zI_atN eσ15 (by decide)).trans g7_σ1
      have g9_σ15 : σ15.1 218 9 = (σ0.1 218 9) := (zI_atN eσ15 (by decide)).trans g9_σ1
      have g10_σ15 : σ15.1 218 10 = (σ1.1 218 10) := zI_atN eσ15 (by decide)
      have g11_σ15 : σ15.1 218 11 = (σ1.1 218 10) := zI_atI eσ15
      have g12_σ15 : σ15.1 218 12 = (σ0.1 218 12) := (zI_atN eσ15 (by decide)).trans g12_σ1
      have g13_σ15 : σ15.1 218 13 = (σ0.1 218 13) := (zI_atN eσ15 (by decide)).trans g13_σ1
      have g14_σ15 : σ15.1 218 14 = (σ0.1 218 14) := (zI_atN eσ15 (by decide)).trans g14_σ1
      have g15_σ15 : σ15.1 218 15 = (σ0.1 218 15) := (zI_atN eσ15 (by decide)).trans g15_σ1
      have g20_σ15 : σ15.1 218 20 = (σ0.1 218 20) := (zI_atN eσ15 (by decide)).trans g20_σ1
      have g22_σ15 : σ15.1 218 22 = (σ0.1 218 22) := (zI_atN eσ15 (by decide)).trans g22_σ1
      have g23_σ15 : σ15.1 218 23 = (σ0.1 218 23) := (zI_atN eσ15 (by decide)).trans g23_σ1
      have g24_σ15 : σ15.1 218 24 = (σ0.1 218 24) := (zI_atN eσ15 (by decide)).trans g24_σ1
      have g25_σ15 : σ15.1 218 25 = (σ0.1 218 25) := (zI_atN eσ15 (by decide)).trans g25_σ1
      refine ok_gIv rfl g10_σ15 ?_
      refine ok_gC rfl ?_
      refine ok_zbX (Q := fun V => V = seeV (σ15.1 218 9) (σ15.1 224) (σ1.1 218 10)) (x_X12_see (hR.tr hT) (by (try simp only [g7_σ15, g9_σ15, g10_σ15, g11_σ15, g12_σ15, g13_σ15, g14_σ15, g15_σ15, g20_σ15, g22_σ15, g23_σ15, g24_σ15, g25_σ15]); omega) (by (try simp only [g7_σ15, g9_σ15, g10_σ15, g11_σ15, g12_σ15, g13_σ15, g14_σ15, g15_σ15, g20_σ15, g22_σ15, g23_σ15, g24_σ15, g25_σ15]); omega)) (fun v17 hqv17 => ?_)
      have hqv17 : v17 = seeV (σ15.1 218 9) (σ15.1 224) (σ1.1 218 10) := hqv17
      try simp only [g7_σ15, g9_σ15, g10_σ15, g11_σ15, g12_σ15, g13_σ15, g14_σ15, g15_σ15, g20_σ15, g22_σ15, g23_σ15, g24_σ15, g25_σ15, hT.2 224 (by decide)] at hqv17
      have see52 := hqv17
      refine ok_if (fun hc19 => ?_) (fun hc19 => ?_)
      · refine ok_pI hT rfl (by decide) (fun σ20 eσ20 hOσ20 hT => ?_)
        have g7_σ20 : σ20.1 218 7 = (σ0.1 218 7) := (zI_atN eσ20 (by decide)).trans g7_σ15
        have g9_σ20 : σ20.1 218 9 = (σ0.1 218 9) := (zI_atN eσ20 (by decide)).trans g9_σ15
        have g10_σ20 : σ20.1 218 10 = (σ1.1 218 10) := (zI_atN eσ20 (by decide)).trans g10_σ15
        have g11_σ20 : σ20.1 218 11 = (σ1.1 218 10) := (zI_atN eσ20 (by decide)).trans g11_σ15
        have g12_σ20 : σ20.1 218 12 = (0 : Int32) := zI_atI eσ20
        have g13_σ20 : σ20.1 218 13 = (σ0.1 218 13) := (zI_atN eσ20 (by decide)).trans g13_σ15
        have g14_σ20 : σ20.1 218 14 = (σ0.1 218 14) := (zI_atN eσ20 (by decide)).trans g14_σ15
        have g15_σ20 : σ20.1 218 15 = (σ0.1 218 15) := (zI_atN eσ20 (by decide)).trans g15_σ15
        have g20_σ20 : σ20.1 218 20 = (σ0.1 218 20) := (zI_atN eσ20 (by decide)).trans g20_σ15
        have g22_σ20 : σ20.1 218 22 = (σ0.1 218 22) := (zI_atN eσ20 (by decide)).trans g22_σ15
        have g23_σ20 : σ20.1 218 23 = (σ0.1 218 23) := (zI_atN eσ20 (by decide)).trans g23_σ15
        have g24_σ20 : σ20.1 218 24 = (σ0.1 218 24) := (zI_atN eσ20 (by decide)).trans g24_σ15
        have g25_σ20 : σ20.1 218 25 = (σ0.1 218 25) := (zI_atN eσ20 (by decide)).trans g25_σ15
        exact ok_some ⟨hT, (show (TOK σ20.1 ∧ (σ0.1 218 10).toInt ≤ (σ20.1 218 11).toInt) ∧ (σ20.1 218 7 = σ0.1 218 7 ∧ σ20.1 218 9 = σ0.1 218 9 ∧ σ20.1 218 14 = σ0.1 218 14 ∧ σ20.1 218 15 = σ0.1 218 15 ∧ σ20.1 218 20 = σ0.1 218 20 ∧ σ20.1 218 22 = σ0.1 218 22 ∧ σ20.1 218 23 = σ0.1 218 23 ∧ σ20.1 218 24 = σ0.1 218 24 ∧ σ20.1 218 25 = σ0.1 218 25) from ⟨by first | exact ⟨TOK_i g9_σ20 g10_σ20 g11_σ20 g12_σ20 (hT.2 224 (by decide)) (by omega) (by omega) (by omega) (by omega) (fun q => absurd rfl q) (fun q => absurd q (by decide)), by (try simp only [g7_σ20, g9_σ20, g10_σ20, g11_σ20, g12_σ20, g13_σ20, g14_σ20, g15_σ20, g20_σ20, g22_σ20, g23_σ20, g24_σ20, g25_σ20]); omega⟩ | exact ⟨TOK_i g9_σ20 g10_σ20 g11_σ20 g12_σ20 (hT.2 224 (by decide)) (by omega) (by omega) (by omega) (by omega) (fun _ => n83) (fun _ => w83), by (try simp only [g7_σ20, g9_σ20, g10_σ20, g11_σ20, g12_σ20, g13_σ20, g14_σ20, g15_σ20, g20_σ20, g22_σ20, g23_σ20, g24_σ20, g25_σ20]); omega⟩ | exact ⟨TOK_i g9_σ20 g10_σ20 g11_σ20 g12_σ20 (hT.2 224 (by decide)) (by omega) (by omega) (by omega) (by omega) (fun _ => n83) (fun q => absurd q (by decide)), by (try simp only [g7_σ20, g9_σ20, g10_σ20, g11_σ20, g12_σ20, g13_σ20, g14_σ20, g15_σ20, g20_σ20, g22_σ20, g23_σ20, g24_σ20, g25_σ20]); omega⟩ | exact ⟨TOK_i g9_σ20 g10_σ20 g11_σ20 g12_σ20 (hT.2 224 (by decide)) (by omega) (by rw [s9]; omega) (by rw [s9]; omega) (by omega) (fun _ => by rw [s9]; omega) (fun q => by first | exact absurd q (by decide) | (exfalso; rw [q] at k35; revert k35; decide)), by (try simp only [g7_σ20, g9_σ20, g10_σ20, g11_σ20, g12_σ20, g13_σ20, g14_σ20, g15_σ20, g20_σ20, g22_σ20, g23_σ20, g24_σ20, g25_σ20]); omega⟩, g7_σ20, g9_σ20, g14_σ20, g15_σ20, g20_σ20, g22_σ20, g23_σ20, g24_σ20, g25_σ20⟩)⟩
      · have lt52 := see_lt see52.symm hc19
        have s9 : ((σ1.1 218 10) + 1).toInt = (σ1.1 218 10).toInt + 1 := by rw [ti_add]; simp only [Int32.reduceToInt]; omega
        refine ok_zbX (Q := fun V => (V = 0 → ¬ ((97 : Int64).toInt ≤ (Int32.toInt64 v17).toInt ∧ (Int32.toInt64 v17).toInt ≤ (122 : Int64).toInt)) ∧ (¬ V = 0 → (97 : Int64).toInt ≤ (Int32.toInt64 v17).toInt ∧ (Int32.toInt64 v17).toInt ≤ (122 : Int64).toInt)) (xi_X12_in) (fun v21 hqv21 => ?_)
        have hqv21 : (v21 = 0 → ¬ ((97 : Int64).toInt ≤ (Int32.toInt64 v17).toInt ∧ (Int32.toInt64 v17).toInt ≤ (122 : Int64).toInt)) ∧ (¬ v21 = 0 → (97 : Int64).toInt ≤ (Int32.toInt64 v17).toInt ∧ (Int32.toInt64 v17).toInt ≤ (122 : Int64).toInt) := hqv21
        try simp only [g7_σ15, g9_σ15, g10_σ15, g11_σ15, g12_σ15, g13_σ15, g14_σ15, g15_σ15, g20_σ15, g22_σ15, g23_σ15, g24_σ15, g25_σ15, hT.2 224 (by decide)] at hqv21
        simp only [i64_of, Int64.reduceToInt] at hqv21
        refine ok_if (fun hc23 => ?_) (fun hc23 => ?_)
        · have qhc23 := hqv21.1 hc23
          refine ok_zbX (Q := fun V => (V = 0 → ¬ ((48 : Int64).toInt ≤ (Int32.toInt64 v17).toInt ∧ (Int32.toInt64 v17).toInt ≤ (57 : Int64).toInt)) ∧ (¬ V = 0 → (48 : Int64).toInt ≤ (Int32.toInt64 v17).toInt ∧ (Int32.toInt64 v17).toInt ≤ (57 : Int64).toInt)) (xi_X12_in) (fun v24 hqv24 => ?_)
          have hqv24 : (v24 = 0 → ¬ ((48 : Int64).toInt ≤ (Int32.toInt64 v17).toInt ∧ (Int32.toInt64 v17).toInt ≤ (57 : Int64).toInt)) ∧ (¬ v24 = 0 → (48 : Int64).toInt ≤ (Int32.toInt64 v17).toInt ∧ (Int32.toInt64 v17).toInt ≤ (57 : Int64).toInt) := hqv24
          try simp only [g7_σ15, g9_σ15, g10_σ15, g11_σ15, g12_σ15, g13_σ15, g14_σ15, g15_σ15, g20_σ15, g22_σ15, g23_σ15, g24_σ15, g25_σ15, hT.2 224 (by decide)] at hqv24
          simp only [i64_of, Int64.reduceToInt] at hqv24
          refine ok_if (fun hc26 => ?_) (fun hc26 => ?_)
          · have qhc26 := hqv24.1 hc26
            refine ok_zbX (Q := fun V => (V = 0 → True) ∧ (¬ V = 0 → 35 ≤ v17.toInt)) (x_X12_isSign) (fun v27 hqv27 => ?_)
            have hqv27 : (v27 = 0 → True) ∧ (¬ v27 = 0 → 35 ≤ v17.toInt) := hqv27
            try simp only [g7_σ15, g9_σ15, g10_σ15, g11_σ15, g12_σ15, g13_σ15, g14_σ15, g15_σ15, g20_σ15, g22_σ15, g23_σ15, g24_σ15, g25_σ15, hT.2 224 (by decide)] at hqv27
            refine ok_if (fun hc29 => ?_) (fun hc29 => ?_)
            · have qhc29 := hqv27.1 hc29
              refine ok_pI hT rfl (by decide) (fun σ30 eσ30 hOσ30 hT => ?_)
              have g7_σ30 : σ30.1 218 7 = (σ0.1 218 7) := (zI_atN eσ30 (by decide)).trans g7_σ15
              have g9_σ30 : σ30.1 218 9 = (σ0.1 218 9) := (zI_atN eσ30 (by decide)).trans g9_σ15
              have g10_σ30 : σ30.1 218 10 = (σ1.1 218 10) := (zI_atN eσ30 (by decide)).trans g10_σ15
              have g11_σ30 : σ30.1 218 11 = (σ1.1 218 10) := (zI_atN eσ30 (by decide)).trans g11_σ15
              have g12_σ30 : σ30.1 218 12 = (3 : Int32) := zI_atI eσ30
              have g13_σ30 : σ30.1 218 13 = (σ0.1 218 13) := (zI_atN eσ30 (by decide)).trans g13_σ15
              have g14_σ30 : σ30.1 218 14 = (σ0.1 218 14) := (zI_atN eσ30 (by decide)).trans g14_σ15
              have g15_σ30 : σ30.1 218 15 = (σ0.1 218 15) := (zI_atN eσ30 (by decide)).trans g15_σ15
              have g20_σ30 : σ30.1 218 20 = (σ0.1 218 20) := (zI_atN eσ30 (by decide)).trans g20_σ15
              have g22_σ30 : σ30.1 218 22 = (σ0.1 218 22) := (zI_atN eσ30 (by decide)).trans g22_σ15
              have g23_σ30 : σ30.1 218 23 = (σ0.1 218 23) := (zI_atN eσ30 (by decide)).trans g23_σ15
              have g24_σ30 : σ30.1 218 24 = (σ0.1 218 24) := (zI_atN eσ30 (by decide)).trans g24_σ15
              have g25_σ30 : σ30.1 218 25 = (σ0.1 218 25) := (zI_atN eσ30 (by decide)).trans g25_σ15
              refine ok_gIv rfl g10_σ30 ?_
              refine ok_pI hT rfl (by decide) (fun σ32 eσ32 hOσ32 hT => ?_)
              have g7_σ32 : σ32.1 218 7 = (σ0.1 218 7) := (zI_atN eσ32 (by decide)).trans g7_σ30
              have g9_σ32 : σ32.1 218 9 = (σ0.1 218 9) := (zI_atN eσ32 (by decide)).trans g9_σ30
              have g10_σ32 : σ32.1 218 10 = ((σ1.1 218 10) + 1) := zI_atI eσ32
              have g11_σ32 : σ32.1 218 11 = (σ1.1 218 10) := (zI_atN eσ32 (by decide)).trans g11_σ30
              have g12_σ32 : σ32.1 218 12 = (3 : Int32) := (zI_atN eσ32 (by decide)).trans g12_σ30
              have g13_σ32 : σ32.1 218 13 = (σ0.1 218 13) := (zI_atN eσ32 (by decide)).trans g13_σ30
              have g14_σ32 : σ32.1 218 14 = (σ0.1 218 14) := (zI_atN eσ32 (by decide)).trans g14_σ30
              have g15_σ32 : σ32.1 218 15 = (σ0.1 218 15) := (zI_atN eσ32 (by decide)).trans g15_σ30
              have g20_σ32 : σ32.1 218 20 = (σ0.1 218 20) := (zI_atN eσ32 (by decide)).trans g20_σ30
              have g22_σ32 : σ32.1 218 22 = (σ0.1 218 22) := (zI_atN eσ32 (by decide)).trans g22_σ30
              have g23_σ32 : σ32.1 218 23 = (σ0.1 218 23) := (zI_atN eσ32 (by decide)).trans g23_σ30
              have g24_σ32 : σ32.1 218 24 = (σ0.1 218 24) := (zI_atN eσ32 (by decide)).trans g24_σ30
              have g25_σ32 : σ32.1 218 25 = (σ0.1 218 25) := (zI_atN eσ32 (by decide)).trans g25_σ30
              exact ok_some ⟨hT, (show (TOK σ32.1 ∧ (σ0.1 218 10).toInt ≤ (σ32.1 218 11).toInt) ∧ (σ32.1 218 7 = σ0.1 218 7 ∧ σ32.1 218 9 = σ0.1 218 9 ∧ σ32.1 218 14 = σ0.1 218 14 ∧ σ32.1 218 15 = σ0.1 218 15 ∧ σ32.1 218 20 = σ0.1 218 20 ∧ σ32.1 218 22 = σ0.1 218 22 ∧ σ32.1 218 23 = σ0.1 218 23 ∧ σ32.1 218 24 = σ0.1 218 24 ∧ σ32.1 218 25 = σ0.1 218 25) from ⟨by first | exact ⟨TOK_i g9_σ32 g10_σ32 g11_σ32 g12_σ32 (hT.2 224 (by decide)) (by omega) (by omega) (by omega) (by omega) (fun q => absurd rfl q) (fun q => absurd q (by decide)), by (try simp only [g7_σ32, g9_σ32, g10_σ32, g11_σ32, g12_σ32, g13_σ32, g14_σ32, g15_σ32, g20_σ32, g22_σ32, g23_σ32, g24_σ32, g25_σ32]); omega⟩ | exact ⟨TOK_i g9_σ32 g10_σ32 g11_σ32 g12_σ32 (hT.2 224 (by decide)) (by omega) (by omega) (by omega) (by omega) (fun _ => n83) (fun _ => w83), by (try simp only [g7_σ32, g9_σ32, g10_σ32, g11_σ32, g12_σ32, g13_σ32, g14_σ32, g15_σ32, g20_σ32, g22_σ32, g23_σ32, g24_σ32, g25_σ32]); omega⟩ | exact ⟨TOK_i g9_σ32 g10_σ32 g11_σ32 g12_σ32 (hT.2 224 (by decide)) (by omega) (by omega) (by omega) (by omega) (fun _ => n83) (fun q => absurd q (by decide)), by (try simp only [g7_σ32, g9_σ32, g10_σ32, g11_σ32, g12_σ32, g13_σ32, g14_σ32, g15_σ32, g20_σ32, g22_σ32, g23_σ32, g24_σ32, g25_σ32]); omega⟩ | exact ⟨TOK_i g9_σ32 g10_σ32 g11_σ32 g12_σ32 (hT.2 224 (by decide)) (by omega) (by rw [s9]; omega) (by rw [s9]; omega) (by omega) (fun _ => by rw [s9]; omega) (fun q => by first | exact absurd q (by decide) | (exfalso; rw [q] at k35; revert k35; decide)), by (try simp only [g7_σ32, g9_σ32, g10_σ32, g11_σ32, g12_σ32, g13_σ32, g14_σ32, g15_σ32, g20_σ32, g22_σ32, g23_σ32, g24_σ32, g25_σ32]); omega⟩, g7_σ32, g9_σ32, g14_σ32, g15_σ32, g20_σ32, g22_σ32, g23_σ32, g24_σ32, g25_σ32⟩)⟩
            · have qhc29 := hqv27.2 hc29
              have k35 := qhc29
              refine ok_pI hT rfl (by decide) (fun σ33 eσ33 hOσ33 hT => ?_)
              have g7_σ33 : σ33.1 218 7 = (σ0.1 218 7) := (zI_atN eσ33 (by decide)).trans g7_σ15
              have g9_σ33 : σ33.1 218 9 = (σ0.1 218 9) := (zI_atN eσ33 (by decide)).trans g9_σ15
              have g10_σ33 : σ33.1 218 10 = (σ1.1 218 10) := (zI_atN eσ33 (by decide)).trans g10_σ15
              have g11_σ33 : σ33.1 218 11 = (σ1.1 218 10) := (zI_atN eσ33 (by decide)).trans g11_σ15
              have g12_σ33 : σ33.1 218 12 = (v17) := zI_atI eσ33
              have g13_σ33 : σ33.1 218 13 = (σ0.1 218 13) := (zI_atN eσ33 (by decide)).trans g13_σ15
              have g14_σ33 : σ33.1 218 14 = (σ0.1 218 14) := (zI_atN eσ33 (by decide)).trans g14_σ15
              have g15_σ33 : σ33.1 218 15 = (σ0.1 218 15) := (zI_atN eσ33 (by decide)).trans g15_σ15
              have g20_σ33 : σ33.1 218 20 = (σ0.1 218 20) := (zI_atN eσ33 (by decide)).trans g20_σ15
              have g22_σ33 : σ33.1 218 22 = (σ0.1 218 22) := (zI_atN eσ33 (by decide)).trans g22_σ15
              have g23_σ33 : σ33.1 218 23 = (σ0.1 218 23) := (zI_atN eσ33 (by decide)).trans g23_σ15
              have g24_σ33 : σ33.1 218 24 = (σ0.1 218 24) := (zI_atN eσ33 (by decide)).trans g24_σ15
              have g25_σ33 : σ33.1 218 25 = (σ0.1 218 25) := (zI_atN eσ33 (by decide)).trans g25_σ15
              refine ok_gIv rfl g10_σ33 ?_
              refine ok_pI hT rfl (by decide) (fun σ35 eσ35 hOσ35 hT => ?_)
              have g7_σ35 : σ35.1 218 7 = (σ0.1 218 7) := (zI_atN eσ35 (by decide)).trans g7_σ33
              have g9_σ35 : σ35.1 218 9 = (σ0.1 218 9) := (zI_atN eσ35 (by decide)).trans g9_σ33
              have g10_σ35 : σ35.1 218 10 = ((σ1.1 218 10) + 1) := zI_atI eσ35
              have g11_σ35 : σ35.1 218 11 = (σ1.1 218 10) := (zI_atN eσ35 (by decide)).trans g11_σ33
              have g12_σ35 : σ35.1 218 12 = (v17) := (zI_atN eσ35 (by decide)).trans g12_σ33
              have g13_σ35 : σ35.1 218 13 = (σ0.1 218 13) := (zI_atN eσ35 (by decide)).trans g13_σ33
              have g14_σ35 : σ35.1 218 14 = (σ0.1 218 14) := (zI_atN eσ35 (by decide)).trans g14_σ33
              have g15_σ35 : σ35.1 218 15 = (σ0.1 218 15) := (zI_atN eσ35 (by decide)).trans g15_σ33
              have g20_σ35 : σ35.1 218 20 = (σ0.1 218 20) := (zI_atN eσ35 (by decide)).trans g20_σ33
              have g22_σ35 : σ35.1 218 22 = (σ0.1 218 22) := (zI_atN eσ35 (by decide)).trans g22_σ33
              have g23_σ35 : σ35.1 218 23 = (σ0.1 218 23) := (zI_atN eσ35 (by decide)).trans g23_σ33
              have g24_σ35 : σ35.1 218 24 = (σ0.1 218 24) := (zI_atN eσ35 (by decide)).trans g24_σ33
              have g25_σ35 : σ35.1 218 25 = (σ0.1 218 25) := (zI_atN eσ35 (by decide)).trans g25_σ33
              exact ok_some ⟨hT, (show (TOK σ35.1 ∧ (σ0.1 218 10).toInt ≤ (σ35.1 218 11).toInt) ∧ (σ35.1 218 7 = σ0.1 218 7 ∧ σ35.1 218 9 = σ0.1 218 9 ∧ σ35.1 218 14 = σ0.1 218 14 ∧ σ35.1 218 15 = σ0.1 218 15 ∧ σ35.1 218 20 = σ0.1 218 20 ∧ σ35.1 218 22 = σ0.1 218 22 ∧ σ35.1 218 23 = σ0.1 218 23 ∧ σ35.1 218 24 = σ0.1 218 24 ∧ σ35.1 218 25 = σ0.1 218 25) from ⟨by first | exact ⟨TOK_i g9_σ35 g10_σ35 g11_σ35 g12_σ35 (hT.2 224 (by decide)) (by omega) (by omega) (by omega) (by omega) (fun q => absurd rfl q) (fun q => absurd q (by decide)), by (try simp only [g7_σ35, g9_σ35, g10_σ35, g11_σ35, g12_σ35, g13_σ35, g14_σ35, g15_σ35, g20_σ35, g22_σ35, g23_σ35, g24_σ35, g25_σ35]); omega⟩ | exact ⟨TOK_i g9_σ35 g10_σ35 g11_σ35 g12_σ35 (hT.2 224 (by decide)) (by omega) (by omega) (by omega) (by omega) (fun _ => n83) (fun _ => w83), by (try simp only [g7_σ35, g9_σ35, g10_σ35, g11_σ35, g12_σ35, g13_σ35, g14_σ35, g15_σ35, g20_σ35, g22_σ35, g23_σ35, g24_σ35, g25_σ35]); omega⟩ | exact ⟨TOK_i g9_σ35 g10_σ35 g11_σ35 g12_σ35 (hT.2 224 (by decide)) (by omega) (by omega) (by omega) (by omega) (fun _ => n83) (fun q => absurd q (by decide)), by (try simp only [g7_σ35, g9_σ35, g10_σ35, g11_σ35, g12_σ35, g13_σ35, g14_σ35, g15_σ35, g20_σ35, g22_σ35, g23_σ35, g24_σ35, g25_σ35]); omega⟩ | exact ⟨TOK_i g9_σ35 g10_σ35 g11_σ35 g12_σ35 (hT.2 224 (by decide)) (by omega) (by rw [s9]; omega) (by rw [s9]; omega) (by omega) (fun _ => by rw [s9]; omega) (fun q => by first | exact absurd q (by decide) | (exfalso; rw [q] at k35; revert k35; decide)), by (try simp only [g7_σ35, g9_σ35, g10_σ35, g11_σ35, g12_σ35, g13_σ35, g14_σ35, g15_σ35, g20_σ35, g22_σ35, g23_σ35, g24_σ35, g25_σ35]); omega⟩, g7_σ35, g9_σ35, g14_σ35, g15_σ35, g20_σ35, g22_σ35, g23_σ35, g24_σ35, g25_σ35⟩)⟩
          · have qhc26 := hqv24.2 hc26
            refine ok_pI hT rfl (by decide) (fun σ36 eσ36 hOσ36 hT => ?_)
            have g7_σ36 : σ36.1 218 7 = (σ0.1 218 7) := (zI_atN eσ36 (by decide)).trans g7_σ15
            have g9_σ36 : σ36.1 218 9 = (σ0.1 218 9) := (zI_atN eσ36 (by decide)).trans g9_σ15
            have g10_σ36 : σ36.1 218 10 = (σ1.1 218 10) := (zI_atN eσ36 (by decide)).trans g10_σ15
            have g11_σ36 : σ36.1 218 11 = (σ1.1 218 10) := (zI_atN eσ36 (by decide)).trans g11_σ15
            have g12_σ36 : σ36.1 218 12 = (σ0.1 218 12) := (zI_atN eσ36 (by decide)).trans g12_σ15
            have g13_σ36 : σ36.1 218 13 = (0 : Int32) := zI_atI eσ36
            have g14_σ36 : σ36.1 218 14 = (σ0.1 218 14) := (zI_atN eσ36 (by decide)).trans g14_σ15
            have g15_σ36 : σ36.1 218 15 = (σ0.1 218 15) := (zI_atN eσ36 (by decide)).trans g15_σ15
            have g20_σ36 : σ36.1 218 20 = (σ0.1 218 20) := (zI_atN eσ36 (by decide)).trans g20_σ15
            have g22_σ36 : σ36.1 218 22 = (σ0.1 218 22) := (zI_atN eσ36 (by decide)).trans g22_σ15
            have g23_σ36 : σ36.1 218 23 = (σ0.1 218 23) := (zI_atN eσ36 (by decide)).trans g23_σ15
            have g24_σ36 : σ36.1 218 24 = (σ0.1 218 24) := (zI_atN eσ36 (by decide)).trans g24_σ15
            have g25_σ36 : σ36.1 218 25 = (σ0.1 218 25) := (zI_atN eσ36 (by decide)).trans g25_σ15
            refine ok_lp (fun t : zS => Tr [218] σ0 (t) ∧ ((((t).1 218 11).toInt ≤ ((t).1 218 10).toInt ∧ ((t).1 218 10).toInt ≤ (σ0.1 218 9).toInt) ∧ (((t).1 218 10).toInt = ((t).1 218 11).toInt → 48 ≤ (seeV (σ0.1 218 9) (σ0.1 224) ((t).1 218 10)).toInt ∧ (seeV (σ0.1 218 9) (σ0.1 224) ((t).1 218 10)).toInt ≤ 57)) ∧ ((t).1 218 7 = (σ0.1 218 7)) ∧ ((t).1 218 9 = (σ0.1 218 9)) ∧ ((t).1 218 11 = (σ1.1 218 10)) ∧ ((t).1 218 12 = (σ0.1 218 12)) ∧ ((t).1 218 14 = (σ0.1 218 14)) ∧ ((t).1 218 15 = (σ0.1 218 15)) ∧ ((t).1 218 20 = (σ0.1 218 20)) ∧ ((t).1 218 22 = (σ0.1 218 22)) ∧ ((t).1 218 23 = (σ0.1 218 23)) ∧ ((t).1 218 24 = (σ0.1 218 24)) ∧ ((t).1 218 25 = (σ0.1 218 25))) (fun t : zS => (600 - ((t).1 218 10).toInt).toNat) (fun again37 t hI ih144_37 => ?_) N _ (show Tr [218] σ0 σ36 ∧ (((σ36.1 218 11).toInt ≤ (σ36.1 218 10).toInt ∧ (σ36.1 218 10).toInt ≤ (σ0.1 218 9).toInt) ∧ ((σ36.1 218 10).toInt = (σ36.1 218 11).toInt → 48 ≤ (seeV (σ0.1 218 9) (σ0.1 224) (σ36.1 218 10)).toInt ∧ (seeV (σ0.1 218 9) (σ0.1 224) (σ36.1 218 10)).toInt ≤ 57)) ∧ (σ36.1 218 7 = (σ0.1 218 7)) ∧ (σ36.1 218 9 = (σ0.1 218 9)) ∧ (σ36.1 218 11 = (σ1.1 218 10)) ∧ (σ36.1 218 12 = (σ0.1 218 12)) ∧ (σ36.1 218 14 = (σ0.1 218 14)) ∧ (σ36.1 218 15 = (σ0.1 218 15)) ∧ (σ36.1 218 20 = (σ0.1 218 20)) ∧ (σ36.1 218 22 = (σ0.1 218 22)) ∧ (σ36.1 218 23 = (σ0.1 218 23)) ∧ (σ36.1 218 24 = (σ0.1 218 24)) ∧ (σ36.1 218 25 = (σ0.1 218 25)) from ⟨hT, (by (try simp only [g7_σ36, g9_σ36, g10_σ36, g11_σ36, g12_σ36, g13_σ36, g14_σ36, g15_σ36, g20_σ36, g22_σ36, g23_σ36, g24_σ36, g25_σ36]); exact ⟨⟨by omega, by omega⟩, fun _ => by rw [← see52]; omega⟩), g7_σ36, g9_σ36, g11_σ36, g12_σ36, g14_σ36, g15_σ36, g20_σ36, g22_σ36, g23_σ36, g24_σ36, g25_σ36⟩) (show (600 - (σ36.1 218 10).toInt).toNat < N from (by ((try simp only [g7_σ36, g9_σ36, g10_σ36, g11_σ36, g12_σ36, g13_σ36, g14_σ36, g15_σ36, g20_σ36, g22_σ36, g23_σ36, g24_σ36, g25_σ36])); first | omega | decide | (simp only [Int32.le_iff_toInt_le, Int32.lt_iff_toInt_lt, ti_add, ti_sub, ti_mul, Int32.reduceToInt] at *; omega)))
            obtain ⟨σ37, rfl⟩ : ∃ x, x = t := ⟨t, rfl⟩
            have hI : Tr [218] σ0 σ37 ∧ (((σ37.1 218 11).toInt ≤ (σ37.1 218 10).toInt ∧ (σ37.1 218 10).toInt ≤ (σ0.1 218 9).toInt) ∧ ((σ37.1 218 10).toInt = (σ37.1 218 11).toInt → 48 ≤ (seeV (σ0.1 218 9) (σ0.1 224) (σ37.1 218 10)).toInt ∧ (seeV (σ0.1 218 9) (σ0.1 224) (σ37.1 218 10)).toInt ≤ 57)) ∧ (σ37.1 218 7 = (σ0.1 218 7)) ∧ (σ37.1 218 9 = (σ0.1 218 9)) ∧ (σ37.1 218 11 = (σ1.1 218 10)) ∧ (σ37.1 218 12 = (σ0.1 218 12)) ∧ (σ37.1 218 14 = (σ0.1 218 14)) ∧ (σ37.1 218 15 = (σ0.1 218 15)) ∧ (σ37.1 218 20 = (σ0.1 218 20)) ∧ (σ37.1 218 22 = (σ0.1 218 22)) ∧ (σ37.1 218 23 = (σ0.1 218 23)) ∧ (σ37.1 218 24 = (σ0.1 218 24)) ∧ (σ37.1 218 25 = (σ0.1 218 25)) := hI
            obtain ⟨hT, hI37, g7_σ37, g9_σ37, g11_σ37, g12_σ37, g14_σ37, g15_σ37, g20_σ37, g22_σ37, g23_σ37, g24_σ37, g25_σ37⟩ := hI
            rw [F_X12_advance_144.eq_1]
            rw [g11_σ37] at hI37
            have hb83 := hI37.1
            have e83 := hI37.2
            refine ok_gI rfl ?_
            refine ok_gC rfl ?_
            refine ok_zbX (Q := fun V => V = seeV (σ37.1 218 9) (σ37.1 224) (σ37.1 218 10)) (x_X12_see (hR.tr hT) (by (try simp only [g7_σ37, g9_σ37, g11_σ37, g12_σ37, g14_σ37, g15_σ37, g20_σ37, g22_σ37, g23_σ37, g24_σ37, g25_σ37]); omega) (by (try simp only [g7_σ37, g9_σ37, g11_σ37, g12_σ37, g14_σ37, g15_σ37, g20_σ37, g22_σ37, g23_σ37, g24_σ37, g25_σ37]); omega)) (fun v39 hqv39 => ?_)
            have hqv39 : v39 = seeV (σ37.1 218 9) (σ37.1 224) (σ37.1 218 10) := hqv39
            try simp only [g7_σ37, g9_σ37, g11_σ37, g12_σ37, g14_σ37, g15_σ37, g20_σ37, g22_σ37, g23_σ37, g24_σ37, g25_σ37, hT.2 224 (by decide)] at hqv39
            have see88 := hqv39
            refine ok_zbX (Q := fun V => (V = 0 → ¬ ((48 : Int64).toInt ≤ (Int32.toInt64 v39).toInt ∧ (Int32.toInt64 v39).toInt ≤ (57 : Int64).toInt)) ∧ (¬ V = 0 → (48 : Int64).toInt ≤ (Int32.toInt64 v39).toInt ∧ (Int32.toInt64 v39).toInt ≤ (57 : Int64).toInt)) (xi_X12_in) (fun v41 hqv41 => ?_)
            have hqv41 : (v41 = 0 → ¬ ((48 : Int64).toInt ≤ (Int32.toInt64 v39).toInt ∧ (Int32.toInt64 v39).toInt ≤ (57 : Int64).toInt)) ∧ (¬ v41 = 0 → (48 : Int64).toInt ≤ (Int32.toInt64 v39).toInt ∧ (Int32.toInt64 v39).toInt ≤ (57 : Int64).toInt) := hqv41
            try simp only [g7_σ37, g9_σ37, g11_σ37, g12_σ37, g14_σ37, g15_σ37, g20_σ37, g22_σ37, g23_σ37, g24_σ37, g25_σ37, hT.2 224 (by decide)] at hqv41
            simp only [i64_of, Int64.reduceToInt] at hqv41
            refine ok_if (fun hc43 => ?_) (fun hc43 => ?_)
            · have qhc43 := hqv41.1 hc43
              have u9 := qhc43
              rw [see88] at u9
              have n83 : (σ1.1 218 10).toInt < (σ37.1 218 10).toInt := by omega
              refine ok_pI hT rfl (by decide) (fun σ44 eσ44 hOσ44 hT => ?_)
              have g7_σ44 : σ44.1 218 7 = (σ0.1 218 7) := (zI_atN eσ44 (by decide)).trans g7_σ37
              have g9_σ44 : σ44.1 218 9 = (σ0.1 218 9) := (zI_atN eσ44 (by decide)).trans g9_σ37
              have g10_σ44 : σ44.1 218 10 = (σ37.1 218 10) := zI_atN eσ44 (by decide)
              have g11_σ44 : σ44.1 218 11 = (σ1.1 218 10) := (zI_atN eσ44 (by decide)).trans g11_σ37
              have g12_σ44 : σ44.1 218 12 = (2 : Int32) := zI_atI eσ44
              have g13_σ44 : σ44.1 218 13 = (σ37.1 218 13) := zI_atN eσ44 (by decide)
              have g14_σ44 : σ44.1 218 14 = (σ0.1 218 14) := (zI_atN eσ44 (by decide)).trans g14_σ37
              have g15_σ44 : σ44.1 218 15 = (σ0.1 218 15) := (zI_atN eσ44 (by decide)).trans g15_σ37
              have g20_σ44 : σ44.1 218 20 = (σ0.1 218 20) := (zI_atN eσ44 (by decide)).trans g20_σ37
              have g22_σ44 : σ44.1 218 22 = (σ0.1 218 22) := (zI_atN eσ44 (by decide)).trans g22_σ37
              have g23_σ44 : σ44.1 218 23 = (σ0.1 218 23) := (zI_atN eσ44 (by decide)).trans g23_σ37
              have g24_σ44 : σ44.1 218 24 = (σ0.1 218 24) := (zI_atN eσ44 (by decide)).trans g24_σ37
              have g25_σ44 : σ44.1 218 25 = (σ0.1 218 25) := (zI_atN eσ44 (by decide)).trans g25_σ37
              exact ok_some ⟨hT, (show (TOK σ44.1 ∧ (σ0.1 218 10).toInt ≤ (σ44.1 218 11).toInt) ∧ (σ44.1 218 7 = σ0.1 218 7 ∧ σ44.1 218 9 = σ0.1 218 9 ∧ σ44.1 218 14 = σ0.1 218 14 ∧ σ44.1 218 15 = σ0.1 218 15 ∧ σ44.1 218 20 = σ0.1 218 20 ∧ σ44.1 218 22 = σ0.1 218 22 ∧ σ44.1 218 23 = σ0.1 218 23 ∧ σ44.1 218 24 = σ0.1 218 24 ∧ σ44.1 218 25 = σ0.1 218 25) from ⟨by first | exact ⟨TOK_i g9_σ44 g10_σ44 g11_σ44 g12_σ44 (hT.2 224 (by decide)) (by omega) (by omega) (by omega) (by omega) (fun q => absurd rfl q) (fun q => absurd q (by decide)), by (try simp only [g7_σ44, g9_σ44, g10_σ44, g11_σ44, g12_σ44, g13_σ44, g14_σ44, g15_σ44, g20_σ44, g22_σ44, g23_σ44, g24_σ44, g25_σ44]); omega⟩ | exact ⟨TOK_i g9_σ44 g10_σ44 g11_σ44 g12_σ44 (hT.2 224 (by decide)) (by omega) (by omega) (by omega) (by omega) (fun _ => n83) (fun _ => w83), by (try simp only [g7_σ44, g9_σ44, g10_σ44, g11_σ44, g12_σ44, g13_σ44, g14_σ44, g15_σ44, g20_σ44, g22_σ44, g23_σ44, g24_σ44, g25_σ44]); omega⟩ | exact ⟨TOK_i g9_σ44 g10_σ44 g11_σ44 g12_σ44 (hT.2 224 (by decide)) (by omega) (by omega) (by omega) (by omega) (fun _ => n83) (fun q => absurd q (by decide)), by (try simp only [g7_σ44, g9_σ44, g10_σ44, g11_σ44, g12_σ44, g13_σ44, g14_σ44, g15_σ44, g20_σ44, g22_σ44, g23_σ44, g24_σ44, g25_σ44]); omega⟩ | exact ⟨TOK_i g9_σ44 g10_σ44 g11_σ44 g12_σ44 (hT.2 224 (by decide)) (by omega) (by rw [s9]; omega) (by rw [s9]; omega) (by omega) (fun _ => by rw [s9]; omega) (fun q => by first | exact absurd q (by decide) | (exfalso; rw [q] at k35; revert k35; decide)), by (try simp only [g7_σ44, g9_σ44, g10_σ44, g11_σ44, g12_σ44, g13_σ44, g14_σ44, g15_σ44, g20_σ44, g22_σ44, g23_σ44, g24_σ44, g25_σ44]); omega⟩, g7_σ44, g9_σ44, g14_σ44, g15_σ44, g20_σ44, g22_σ44, g23_σ44, g24_σ44, g25_σ44⟩)⟩
            · have qhc43 := hqv41.2 hc43
              have r9 := see_az hY (by rw [← see88]; omega)
              have s9 : ((σ37.1 218 10) + 1).toInt = (σ37.1 218 10).toInt + 1 := by rw [ti_add]; simp only [Int32.reduceToInt]; omega
              refine ok_gI rfl ?_
              refine ok_gI rfl ?_
              refine ok_gC rfl ?_
              refine ok_zbX (Q := fun V => V = seeV (σ37.1 218 9) (σ37.1 224) (σ37.1 218 10)) (x_X12_see (hR.tr hT) (by (try simp only [g7_σ37, g9_σ37, g11_σ37, g12_σ37, g14_σ37, g15_σ37, g20_σ37, g22_σ37, g23_σ37, g24_σ37, g25_σ37]); omega) (by (try simp only [g7_σ37, g9_σ37, g11_σ37, g12_σ37, g14_σ37, g15_σ37, g20_σ37, g22_σ37, g23_σ37, g24_σ37, g25_σ37]); omega)) (fun v47 hqv47 => ?_)
              have hqv47 : v47 = seeV (σ37.1 218 9) (σ37.1 224) (σ37.1 218 10) := hqv47
              try simp only [g7_σ37, g9_σ37, g11_σ37, g12_σ37, g14_σ37, g15_σ37, g20_σ37, g22_σ37, g23_σ37, g24_σ37, g25_σ37, hT.2 224 (by decide)] at hqv47
              refine ok_pI hT rfl (by decide) (fun σ49 eσ49 hOσ49 hT => ?_)
              have g7_σ49 : σ49.1 218 7 = (σ0.1 218 7) := (zI_atN eσ49 (by decide)).trans g7_σ37
              have g9_σ49 : σ49.1 218 9 = (σ0.1 218 9) := (zI_atN eσ49 (by decide)).trans g9_σ37
              have g10_σ49 : σ49.1 218 10 = (σ37.1 218 10) := zI_atN eσ49 (by decide)
              have g11_σ49 : σ49.1 218 11 = (σ1.1 218 10) := (zI_atN eσ49 (by decide)).trans g11_σ37
              have g12_σ49 : σ49.1 218 12 = (σ0.1 218 12) := (zI_atN eσ49 (by decide)).trans g12_σ37
              have g13_σ49 : σ49.1 218 13 = (zmin 99999 (((10 * (σ37.1 218 13)) + v47) - 48)) := zI_atI eσ49
              have g14_σ49 : σ49.1 218 14 = (σ0.1 218 14) := (zI_atN eσ49 (by decide)).trans g14_σ37
              have g15_σ49 : σ49.1 218 15 = (σ0.1 218 15) := (zI_atN eσ49 (by decide)).trans g15_σ37
              have g20_σ49 : σ49.1 218 20 = (σ0.1 218 20) := (zI_atN eσ49 (by decide)).trans g20_σ37
              have g22_σ49 : σ49.1 218 22 = (σ0.1 218 22) := (zI_atN eσ49 (by decide)).trans g22_σ37
              have g23_σ49 : σ49.1 218 23 = (σ0.1 218 23) := (zI_atN eσ49 (by decide)).trans g23_σ37
              have g24_σ49 : σ49.1 218 24 = (σ0.1 218 24) := (zI_atN eσ49 (by decide)).trans g24_σ37
              have g25_σ49 : σ49.1 218 25 = (σ0.1 218 25) := (zI_atN eσ49 (by decide)).trans g25_σ37
              refine ok_gIv rfl g10_σ49 ?_
              refine ok_pI hT rfl (by decide) (fun σ51 eσ51 hOσ51 hT => ?_)
              have g7_σ51 : σ51.1 218 7 = (σ0.1 218 7) := (zI_atN eσ51 (by decide)).trans g7_σ49
              have g9_σ51 : σ51.1 218 9 = (σ0.1 218 9) := (zI_atN eσ51 (by decide)).trans g9_σ49
              have g10_σ51 : σ51.1 218 10 = ((σ37.1 218 10) + 1) := zI_atI eσ51
              have g11_σ51 : σ51.1 218 11 = (σ1.1 218 10) := (zI_atN eσ51 (by decide)).trans g11_σ49
              have g12_σ51 : σ51.1 218 12 = (σ0.1 218 12) := (zI_atN eσ51 (by decide)).trans g12_σ49
              have g13_σ51 : σ51.1 218 13 = (zmin 99999 (((10 * (σ37.1 218 13)) + v47) - 48)) := (zI_atN eσ51 (by decide)).trans g13_σ49
              have g14_σ51 : σ51.1 218 14 = (σ0.1 218 14) := (zI_atN eσ51 (by decide)).trans g14_σ49
              have g15_σ51 : σ51.1 218 15 = (σ0.1 218 15) := (zI_atN eσ51 (by decide)).trans g15_σ49
              have g20_σ51 : σ51.1 218 20 = (σ0.1 218 20) := (zI_atN eσ51 (by decide)).trans g20_σ49
              have g22_σ51 : σ51.1 218 22 = (σ0.1 218 22) := (zI_atN eσ51 (by decide)).trans g22_σ49
              have g23_σ51 : σ51.1 218 23 = (σ0.1 218 23) := (zI_atN eσ51 (by decide)).trans g23_σ49
              have g24_σ51 : σ51.1 218 24 = (σ0.1 218 24) := (zI_atN eσ51 (by decide)).trans g24_σ49
              have g25_σ51 : σ51.1 218 25 = (σ0.1 218 25) := (zI_atN eσ51 (by decide)).trans g25_σ49
              exact ih144_37 σ51 (show Tr [218] σ0 σ51 ∧ (((σ51.1 218 11).toInt ≤ (σ51.1 218 10).toInt ∧ (σ51.1 218 10).toInt ≤ (σ0.1 218 9).toInt) ∧ ((σ51.1 218 10).toInt = (σ51.1 218 11).toInt → 48 ≤ (seeV (σ0.1 218 9) (σ0.1 224) (σ51.1 218 10)).toInt ∧ (seeV (σ0.1 218 9) (σ0.1 224) (σ51.1 218 10)).toInt ≤ 57)) ∧ (σ51.1 218 7 = (σ0.1 218 7)) ∧ (σ51.1 218 9 = (σ0.1 218 9)) ∧ (σ51.1 218 11 = (σ1.1 218 10)) ∧ (σ51.1 218 12 = (σ0.1 218 12)) ∧ (σ51.1 218 14 = (σ0.1 218 14)) ∧ (σ51.1 218 15 = (σ0.1 218 15)) ∧ (σ51.1 218 20 = (σ0.1 218 20)) ∧ (σ51.1 218 22 = (σ0.1 218 22)) ∧ (σ51.1 218 23 = (σ0.1 218 23)) ∧ (σ51.1 218 24 = (σ0.1 218 24)) ∧ (σ51.1 218 25 = (σ0.1 218 25)) from ⟨hT, (by (try simp only [g7_σ51, g9_σ51, g10_σ51, g11_σ51, g12_σ51, g13_σ51, g14_σ51, g15_σ51, g20_σ51, g22_σ51, g23_σ51, g24_σ51, g25_σ51]); rw [s9]; exact ⟨⟨by omega, by omega⟩, fun h9 => by omega⟩), g7_σ51, g9_σ51, g11_σ51, g12_σ51, g14_σ51, g15_σ51, g20_σ51, g22_σ51, g23_σ51, g24_σ51, g25_σ51⟩) (show (600 - (σ51.1 218 10).toInt).toNat < (600 - (σ37.1 218 10).toInt).toNat from (by (try simp only [g7_σ51, g9_σ51, g10_σ51, g11_σ51, g12_σ51, g13_σ51, g14_σ51, g15_σ51, g20_σ51, g22_σ51, g23_σ51, g24_σ51, g25_σ51]); rw [s9]; omega))
        · have qhc23 := hqv21.2 hc23
          refine ok_lp (fun t : zS => Tr [218] σ0 (t) ∧ ((((t).1 218 11).toInt ≤ ((t).1 218 10).toInt ∧ ((t).1 218 10).toInt ≤ (σ0.1 218 9).toInt) ∧ (((t).1 218 10).toInt = ((t).1 218 11).toInt → 97 ≤ (seeV (σ0.1 218 9) (σ0.1 224) ((t).1 218 10)).toInt ∧ (seeV (σ0.1 218 9) (σ0.1 224) ((t).1 218 10)).toInt ≤ 122) ∧ ∀ k : Nat, ((t).1 218 11).toInt ≤ (k : Int) → (k : Int) < ((t).1 218 10).toInt → 97 ≤ (σ0.1 224 k).toInt ∧ (σ0.1 224 k).toInt ≤ 122) ∧ ((t).1 218 7 = (σ0.1 218 7)) ∧ ((t).1 218 9 = (σ0.1 218 9)) ∧ ((t).1 218 11 = (σ1.1 218 10)) ∧ ((t).1 218 12 = (σ0.1 218 12)) ∧ ((t).1 218 13 = (σ0.1 218 13)) ∧ ((t).1 218 14 = (σ0.1 218 14)) ∧ ((t).1 218 15 = (σ0.1 218 15)) ∧ ((t).1 218 20 = (σ0.1 218 20)) ∧ ((t).1 218 22 = (σ0.1 218 22)) ∧ ((t).1 218 23 = (σ0.1 218 23)) ∧ ((t).1 218 24 = (σ0.1 218 24)) ∧ ((t).1 218 25 = (σ0.1 218 25))) (fun t : zS => (600 - ((t).1 218 10).toInt).toNat) (fun again52 t hI ih83_52 => ?_) N _ (show Tr [218] σ0 σ15 ∧ (((σ15.1 218 11).toInt ≤ (σ15.1 218 10).toInt ∧ (σ15.1 218 10).toInt ≤ (σ0.1 218 9).toInt) ∧ ((σ15.1 218 10).toInt = (σ15.1 218 11).toInt → 97 ≤ (seeV (σ0.1 218 9) (σ0.1 224) (σ15.1 218 10)).toInt ∧ (seeV (σ0.1 218 9) (σ0.1 224) (σ15.1 218 10)).toInt ≤ 122) ∧ ∀ k : Nat, (σ15.1 218 11).toInt ≤ (k : Int) → (k : Int) < (σ15.1 218 10).toInt → 97 ≤ (σ0.1 224 k).toInt ∧ (σ0.1 224 k).toInt ≤ 122) ∧ (σ15.1 218 7 = (σ0.1 218 7)) ∧ (σ15.1 218 9 = (σ0.1 218 9)) ∧ (σ15.1 218 11 = (σ1.1 218 10)) ∧ (σ15.1 218 12 = (σ0.1 218 12)) ∧ (σ15.1 218 13 = (σ0.1 218 13)) ∧ (σ15.1 218 14 = (σ0.1 218 14)) ∧ (σ15.1 218 15 = (σ0.1 218 15)) ∧ (σ15.1 218 20 = (σ0.1 218 20)) ∧ (σ15.1 218 22 = (σ0.1 218 22)) ∧ (σ15.1 218 23 = (σ0.1 218 23)) ∧ (σ15.1 218 24 = (σ0.1 218 24)) ∧ (σ15.1 218 25 = (σ0.1 218 25)) from ⟨hT, (by (try simp only [g7_σ15, g9_σ15, g10_σ15, g11_σ15, g12_σ15, g13_σ15, g14_σ15, g15_σ15, g20_σ15, g22_σ15, g23_σ15, g24_σ15, g25_σ15]); exact ⟨⟨by omega, by omega⟩, fun _ => by rw [← see52]; omega, fun k h1 h2 => by omega⟩), g7_σ15, g9_σ15, g11_σ15, g12_σ15, g13_σ15, g14_σ15, g15_σ15, g20_σ15, g22_σ15, g23_σ15, g24_σ15, g25_σ15⟩) (show (600 - (σ15.1 218 10).toInt).toNat < N from (by ((try simp only [g7_σ15, g9_σ15, g10_σ15, g11_σ15, g12_σ15, g13_σ15, g14_σ15, g15_σ15, g20_σ15, g22_σ15, g23_σ15, g24_σ15, g25_σ15])); first | omega | decide | (simp only [Int32.le_iff_toInt_le, Int32.lt_iff_toInt_lt, ti_add, ti_sub, ti_mul, Int32.reduceToInt] at *; omega)))
          obtain ⟨σ52, rfl⟩ : ∃ x, x = t := ⟨t, rfl⟩
          have hI : Tr [218] σ0 σ52 ∧ (((σ52.1 218 11).toInt ≤ (σ52.1 218 10).toInt ∧ (σ52.1 218 10).toInt ≤ (σ0.1 218 9).toInt) ∧ ((σ52.1 218 10).toInt = (σ52.1 218 11).toInt → 97 ≤ (seeV (σ0.1 218 9) (σ0.1 224) (σ52.1 218 10)).toInt ∧ (seeV (σ0.1 218 9) (σ0.1 224) (σ52.1 218 10)).toInt ≤ 122) ∧ ∀ k : Nat, (σ52.1 218 11).toInt ≤ (k : Int) → (k : Int) < (σ52.1 218 10).toInt → 97 ≤ (σ0.1 224 k).toInt ∧ (σ0.1 224 k).toInt ≤ 122) ∧ (σ52.1 218 7 = (σ0.1 218 7)) ∧ (σ52.1 218 9 = (σ0.1 218 9)) ∧ (σ52.1 218 11 = (σ1.1 218 10)) ∧ (σ52.1 218 12 = (σ0.1 218 12)) ∧ (σ52.1 218 13 = (σ0.1 218 13)) ∧ (σ52.1 218 14 = (σ0.1 218 14)) ∧ (σ52.1 218 15 = (σ0.1 218 15)) ∧ (σ52.1 218 20 = (σ0.1 218 20)) ∧ (σ52.1 218 22 = (σ0.1 218 22)) ∧ (σ52.1 218 23 = (σ0.1 218 23)) ∧ (σ52.1 218 24 = (σ0.1 218 24)) ∧ (σ52.1 218 25 = (σ0.1 218 25)) := hI
          obtain ⟨hT, hI52, g7_σ52, g9_σ52, g11_σ52, g12_σ52, g13_σ52, g14_σ52, g15_σ52, g20_σ52, g22_σ52, g23_σ52, g24_σ52, g25_σ52⟩ := hI
          rw [F_X12_advance_83.eq_1]
          rw [g11_σ52] at hI52
          have hb83 := hI52.1
          have e83 := hI52.2.1
          have w83 := hI52.2.2
          refine ok_gI rfl ?_
          refine ok_gC rfl ?_
          refine ok_zbX (Q := fun V => V = seeV (σ52.1 218 9) (σ52.1 224) (σ52.1 218 10)) (x_X12_see (hR.tr hT) (by (try simp only [g7_σ52, g9_σ52, g11_σ52, g12_σ52, g13_σ52, g14_σ52, g15_σ52, g20_σ52, g22_σ52, g23_σ52, g24_σ52, g25_σ52]); omega) (by (try simp only [g7_σ52, g9_σ52, g11_σ52, g12_σ52, g13_σ52, g14_σ52, g15_σ52, g20_σ52, g22_σ52, g23_σ52, g24_σ52, g25_σ52]); omega)) (fun v54 hqv54 => ?_)
          have hqv54 : v54 = seeV (σ52.1 218 9) (σ52.1 224) (σ52.1 218 10) := hqv54
          try simp only [g7_σ52, g9_σ52, g11_σ52, g12_σ52, g13_σ52, g14_σ52, g15_σ52, g20_σ52, g22_σ52, g23_σ52, g24_σ52, g25_σ52, hT.2 224 (by decide)] at hqv54
          have see88 := hqv54
          refine ok_zbX (Q := fun V => (V = 0 → ¬ ((97 : Int64).toInt ≤ (Int32.toInt64 v54).toInt ∧ (Int32.toInt64 v54).toInt ≤ (122 : Int64).toInt)) ∧ (¬ V = 0 → (97 : Int64).toInt ≤ (Int32.toInt64 v54).toInt ∧ (Int32.toInt64 v54).toInt ≤ (122 : Int64).toInt)) (xi_X12_in) (fun v56 hqv56 => ?_)
          have hqv56 : (v56 = 0 → ¬ ((97 : Int64).toInt ≤ (Int32.toInt64 v54).toInt ∧ (Int32.toInt64 v54).toInt ≤ (122 : Int64).toInt)) ∧ (¬ v56 = 0 → (97 : Int64).toInt ≤ (Int32.toInt64 v54).toInt ∧ (Int32.toInt64 v54).toInt ≤ (122 : Int64).toInt) := hqv56
          try simp only [g7_σ52, g9_σ52, g11_σ52, g12_σ52, g13_σ52, g14_σ52, g15_σ52, g20_σ52, g22_σ52, g23_σ52, g24_σ52, g25_σ52, hT.2 224 (by decide)] at hqv56
          simp only [i64_of, Int64.reduceToInt] at hqv56
          refine ok_if (fun hc58 => ?_) (fun hc58 => ?_)
          · have qhc58 := hqv56.1 hc58
            have u9 := qhc58
            rw [see88] at u9
            have n83 : (σ1.1 218 10).toInt < (σ52.1 218 10).toInt := by omega
            refine ok_pI hT rfl (by decide) (fun σ59 eσ59 hOσ59 hT => ?_)
            have g7_σ59 : σ59.1 218 7 = (σ0.1 218 7) := (zI_atN eσ59 (by decide)).trans g7_σ52
            have g9_σ59 : σ59.1 218 9 = (σ0.1 218 9) := (zI_atN eσ59 (by decide)).trans g9_σ52
            have g10_σ59 : σ59.1 218 10 = (σ52.1 218 10) := zI_atN eσ59 (by decide)
            have g11_σ59 : σ59.1 218 11 = (σ1.1 218 10) := (zI_atN eσ59 (by decide)).trans g11_σ52
            have g12_σ59 : σ59.1 218 12 = (1 : Int32) := zI_atI eσ59
            have g13_σ59 : σ59.1 218 13 = (σ0.1 218 13) := (zI_atN eσ59 (by decide)).trans g13_σ52
            have g14_σ59 : σ59.1 218 14 = (σ0.1 218 14) := (zI_atN eσ59 (by decide)).trans g14_σ52
            have g15_σ59 : σ59.1 218 15 = (σ0.1 218 15) := (zI_atN eσ59 (by decide)).trans g15_σ52
            have g20_σ59 : σ59.1 218 20 = (σ0.1 218 20) := (zI_atN eσ59 (by decide)).trans g20_σ52
            have g22_σ59 : σ59.1 218 22 = (σ0.1 218 22) := (zI_atN eσ59 (by decide)).trans g22_σ52
            have g23_σ59 : σ59.1 218 23 = (σ0.1 218 23) := (zI_atN eσ59 (by decide)).trans g23_σ52
            have g24_σ59 : σ59.1 218 24 = (σ0.1 218 24) := (zI_atN eσ59 (by decide)).trans g24_σ52
            have g25_σ59 : σ59.1 218 25 = (σ0.1 218 25) := (zI_atN eσ59 (by decide)).trans g25_σ52
            exact ok_some ⟨hT, (show (TOK σ59.1 ∧ (σ0.1 218 10).toInt ≤ (σ59.1 218 11).toInt) ∧ (σ59.1 218 7 = σ0.1 218 7 ∧ σ59.1 218 9 = σ0.1 218 9 ∧ σ59.1 218 14 = σ0.1 218 14 ∧ σ59.1 218 15 = σ0.1 218 15 ∧ σ59.1 218 20 = σ0.1 218 20 ∧ σ59.1 218 22 = σ0.1 218 22 ∧ σ59.1 218 23 = σ0.1 218 23 ∧ σ59.1 218 24 = σ0.1 218 24 ∧ σ59.1 218 25 = σ0.1 218 25) from ⟨by first | exact ⟨TOK_i g9_σ59 g10_σ59 g11_σ59 g12_σ59 (hT.2 224 (by decide)) (by omega) (by omega) (by omega) (by omega) (fun q => absurd rfl q) (fun q => absurd q (by decide)), by (try simp only [g7_σ59, g9_σ59, g10_σ59, g11_σ59, g12_σ59, g13_σ59, g14_σ59, g15_σ59, g20_σ59, g22_σ59, g23_σ59, g24_σ59, g25_σ59]); omega⟩ | exact ⟨TOK_i g9_σ59 g10_σ59 g11_σ59 g12_σ59 (hT.2 224 (by decide)) (by omega) (by omega) (by omega) (by omega) (fun _ => n83) (fun _ => w83), by (try simp only [g7_σ59, g9_σ59, g10_σ59, g11_σ59, g12_σ59, g13_σ59, g14_σ59, g15_σ59, g20_σ59, g22_σ59, g23_σ59, g24_σ59, g25_σ59]); omega⟩ | exact ⟨TOK_i g9_σ59 g10_σ59 g11_σ59 g12_σ59 (hT.2 224 (by decide)) (by omega) (by omega) (by omega) (by omega) (fun _ => n83) (fun q => absurd q (by decide)), by (try simp only [g7_σ59, g9_σ59, g10_σ59, g11_σ59, g12_σ59, g13_σ59, g14_σ59, g15_σ59, g20_σ59, g22_σ59, g23_σ59, g24_σ59, g25_σ59]); omega⟩ | exact ⟨TOK_i g9_σ59 g10_σ59 g11_σ59 g12_σ59 (hT.2 224 (by decide)) (by omega) (by rw [s9]; omega) (by rw [s9]; omega) (by omega) (fun _ => by rw [s9]; omega) (fun q => by first | exact absurd q (by decide) | (exfalso; rw [q] at k35; revert k35; decide)), by (try simp only [g7_σ59, g9_σ59, g10_σ59, g11_σ59, g12_σ59, g13_σ59, g14_σ59, g15_σ59, g20_σ59, g22_σ59, g23_σ59, g24_σ59, g25_σ59]); omega⟩, g7_σ59, g9_σ59, g14_σ59, g15_σ59, g20_σ59, g22_σ59, g23_σ59, g24_σ59, g25_σ59⟩)⟩
          · have qhc58 := hqv56.2 hc58
            have r9 := see_az hY (by rw [← see88]; omega)
            have u9 := qhc58
            rw [see88] at u9
            have i9 : ((σ52.1 218 10)).toNatClampNeg = ((σ52.1 218 10)).toInt.toNat := rfl
            have w9 : ∀ k : Nat, (σ1.1 218 10).toInt ≤ (k : Int) → (k : Int) < (σ52.1 218 10).toInt + 1 → 97 ≤ (σ0.1 224 k).toInt ∧ (σ0.1 224 k).toInt ≤ 122 := by intro k h1 h2; by_cases q : (k : Int) < (σ52.1 218 10).toInt; exact w83 k h1 q; rw [show k = (σ52.1 218 10).toInt.toNat by omega, ← i9, r9.2]; omega
            have s9 : ((σ52.1 218 10) + 1).toInt = (σ52.1 218 10).toInt + 1 := by rw [ti_add]; simp only [Int32.reduceToInt]; omega
            refine ok_gI rfl ?_
            refine ok_pI hT rfl (by decide) (fun σ61 eσ61 hOσ61 hT => ?_)
            have g7_σ61 : σ61.1 218 7 = (σ0.1 218 7) := (zI_atN eσ61 (by decide)).trans g7_σ52
            have g9_σ61 : σ61.1 218 9 = (σ0.1 218 9) := (zI_atN eσ61 (by decide)).trans g9_σ52
            have g10_σ61 : σ61.1 218 10 = ((σ52.1 218 10) + 1) := zI_atI eσ61
            have g11_σ61 : σ61.1 218 11 = (σ1.1 218 10) := (zI_atN eσ61 (by decide)).trans g11_σ52
            have g12_σ61 : σ61.1 218 12 = (σ0.1 218 12) := (zI_atN eσ61 (by decide)).trans g12_σ52
            have g13_σ61 : σ61.1 218 13 = (σ0.1 218 13) := (zI_atN eσ61 (by decide)).trans g13_σ52
            have g14_σ61 : σ61.1 218 14 = (σ0.1 218 14) := (zI_atN eσ61 (by decide)).trans g14_σ52
            have g15_σ61 : σ61.1 218 15 = (σ0.1 218 15) := (zI_atN eσ61 (by decide)).trans g15_σ52
            have g20_σ61 : σ61.1 218 20 = (σ0.1 218 20) := (zI_atN eσ61 (by decide)).trans g20_σ52
            have g22_σ61 : σ61.1 218 22 = (σ0.1 218 22) := (zI_atN eσ61 (by decide)).trans g22_σ52
            have g23_σ61 : σ61.1 218 23 = (σ0.1 218 23) := (zI_atN eσ61 (by decide)).trans g23_σ52
            have g24_σ61 : σ61.1 218 24 = (σ0.1 218 24) := (zI_atN eσ61 (by decide)).trans g24_σ52
            have g25_σ61 : σ61.1 218 25 = (σ0.1 218 25) := (zI_atN eσ61 (by decide)).trans g25_σ52
            exact ih83_52 σ61 (show Tr [218] σ0 σ61 ∧ (((σ61.1 218 11).toInt ≤ (σ61.1 218 10).toInt ∧ (σ61.1 218 10).toInt ≤ (σ0.1 218 9).toInt) ∧ ((σ61.1 218 10).toInt = (σ61.1 218 11).toInt → 97 ≤ (seeV (σ0.1 218 9) (σ0.1 224) (σ61.1 218 10)).toInt ∧ (seeV (σ0.1 218 9) (σ0.1 224) (σ61.1 218 10)).toInt ≤ 122) ∧ ∀ k : Nat, (σ61.1 218 11).toInt ≤ (k : Int) → (k : Int) < (σ61.1 218 10).toInt → 97 ≤ (σ0.1 224 k).toInt ∧ (σ0.1 224 k).toInt ≤ 122) ∧ (σ61.1 218 7 = (σ0.1 218 7)) ∧ (σ61.1 218 9 = (σ0.1 218 9)) ∧ (σ61.1 218 11 = (σ1.1 218 10)) ∧ (σ61.1 218 12 = (σ0.1 218 12)) ∧ (σ61.1 218 13 = (σ0.1 218 13)) ∧ (σ61.1 218 14 = (σ0.1 218 14)) ∧ (σ61.1 218 15 = (σ0.1 218 15)) ∧ (σ61.1 218 20 = (σ0.1 218 20)) ∧ (σ61.1 218 22 = (σ0.1 218 22)) ∧ (σ61.1 218 23 = (σ0.1 218 23)) ∧ (σ61.1 218 24 = (σ0.1 218 24)) ∧ (σ61.1 218 25 = (σ0.1 218 25)) from ⟨hT, (by (try simp only [g7_σ61, g9_σ61, g10_σ61, g11_σ61, g12_σ61, g13_σ61, g14_σ61, g15_σ61, g20_σ61, g22_σ61, g23_σ61, g24_σ61, g25_σ61]); rw [s9]; exact ⟨⟨by omega, by omega⟩, fun h9 => by omega, w9⟩), g7_σ61, g9_σ61, g11_σ61, g12_σ61, g13_σ61, g14_σ61, g15_σ61, g20_σ61, g22_σ61, g23_σ61, g24_σ61, g25_σ61⟩) (show (600 - (σ61.1 218 10).toInt).toNat < (600 - (σ52.1 218 10).toInt).toNat from (by (try simp only [g7_σ61, g9_σ61, g10_σ61, g11_σ61, g12_σ61, g13_σ61, g14_σ61, g15_σ61, g20_σ61, g22_σ61, g23_σ61, g24_σ61, g25_σ61]); rw [s9]; omega))

/-! ===== the reference: what always holds of its numbers ===== -/
/-- rows of booleans hold 0 and 1 -/
def ZB (f : Nat → Nat → Int32) : Prop := ∀ k, (zKd k).1 = 16 → ∀ j, f k j = 0 ∨ f k j = 1
theorem nar01 (v : Int32) : vp_nar .boolean v = 0 ∨ vp_nar .boolean v = 1 := by
  have e : vp_nar .boolean v = v &&& 1 := rfl
  rw [e]
  have h := ti_and0 v (m := 1) (by decide)
  rw [show Int32.ofNat 1 = 1 from rfl] at h
  rcases (show (v &&& 1).toInt = 0 ∨ (v &&& 1).toInt = 1 by omega) with q | q
  · exact Or.inl (Int32.toInt_inj.mp q)
  · exact Or.inr (Int32.toInt_inj.mp q)
theorem zbc : ∀ k, k < 243 → (zKd k).1 = 16 → k = 55 ∨ k = 220 ∨ k = 222 ∨ k = 223 ∨ k = 226 ∨ k = 227 ∨ k = 228 ∨ k = 229 ∨ k = 232 ∨ k = 234 ∨ k = 236 := by decide +kernel
theorem ZB.tr {S : List Nat} {σ τ : zS} (hT : Tr S σ τ) (hs : ∀ k ∈ [55, 220, 222, 223, 226, 227, 228, 229, 232, 234, 236], k ∉ S) (h : ZB σ.1) : ZB τ.1 := by
  intro k hk j
  have : k ∉ S := by
    apply hs
    rcases zbc k (zKd_lt hk (by decide)) hk with rfl | rfl | rfl | rfl | rfl | rfl | rfl | rfl | rfl | rfl | rfl <;> decide
  rw [hT.2 k this]; exact h k hk j
theorem ZB_s {σ τ : zS} {a i : Nat} {v : Int32} (e : τ = zI σ a (upd (σ.1 a) i (vp_nar .boolean v))) (h : ZB σ.1) : ZB τ.1 := by
  intro k hk j
  by_cases q : k = a
  · subst q
    by_cases q2 : j = i
    · subst q2; rw [zI_atI e]; exact nar01 v
    · rw [zI_atN e q2]; exact h k hk j
  · have : τ.1 k = σ.1 k := by subst e; exact va_up_ne _ _ q
    rw [this]; exact h k hk j
/-- how many sets there are, by the number of names -/
def mny (n : Int32) : Int32 := if 0 < n then (1 : Int32) <<< (n &&& 31) else 0
theorem mny_b {n : Int32} (h0 : 0 ≤ n.toInt) (h1 : n.toInt ≤ 10) : 0 ≤ (mny n).toInt ∧ (mny n).toInt ≤ 1024 := by
  have := ti_one10 h0 h1
  unfold mny
  split
  · omega
  · decide
/-- a world's row from b on: names, edges, ends, and each name has a place -/
def MW (g : Nat → Int32) (b : Nat) : Prop := (0 ≤ (g b).toInt ∧ (g b).toInt ≤ 10) ∧ (0 ≤ (g (b + 2)).toInt ∧ (g (b + 2)).toInt ≤ 10) ∧ (∀ j, j < 10 → (0 ≤ (g (b + 13 + j)).toInt ∧ (g (b + 13 + j)).toInt ≤ 7) ∧ (0 ≤ (g (b + 23 + j)).toInt ∧ (g (b + 23 + j)).toInt ≤ 7)) ∧ ∀ v : Nat, (v : Int) < (g b).toInt → ∃ k : Nat, (k : Int) < (g b).toInt ∧ g (b + 33 + k) = nI v
theorem ok_aIc {β : Type} {P : β → Prop} {Sx : List Nat} {σ0 σ : zS} {ti n k j : Nat} {i : Int32} {f : Int32 → Option β} (hT : Tr Sx σ0 σ) (hk : zKd k = (ti, n)) (hS : k ∉ Sx) (hj : i.toNatClampNeg = j) (h1 : 0 ≤ i.toInt) (h2 : i.toInt < (n : Int)) (h : Ok (f (σ0.1 k j)) P) : Ok (zl (aI ti k i σ) f) P := by
  refine ok_aI hk h1 h2 ?_
  rw [hT.2 k hS, hj]; exact h
theorem in_ok {a b : Int64} (h : ¬ lg_cmp a b < 0) : b.toInt ≤ a.toInt := by
  rw [zcmp_lt] at h; omega
theorem in_ok2 {a b : Int64} (h : ¬ 0 < lg_cmp a b) : a.toInt ≤ b.toInt := by
  rw [zcmp_gt] at h; omega

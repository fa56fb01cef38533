section Zq0_0
/-! ===== what the functions answer: rules ===== -/
def Ok {α : Type} (x : Option α) (P : α → Prop) : Prop := ∃ a, x = some a ∧ P a
/-- only ints of the cells S may be other (and longs); references stay, but the reader's text, which may become the tape -/
def Tr (S : List Nat) (σ σ' : zS) : Prop := ((∀ k j, ¬ (k = 57 ∧ j = 5) → σ'.2.2 k j = σ.2.2 k j) ∧ (σ.2.2 57 5 = 1 → σ'.2.2 57 5 = 1)) ∧ ∀ k, k ∉ S → σ'.1 k = σ.1 k
theorem Tr.rf {S : List Nat} {σ : zS} : Tr S σ σ := ⟨⟨fun _ _ _ => rfl, id⟩, fun _ _ => rfl⟩
theorem Tr.of {S : List Nat} {σ τ : zS} (h : τ.2.2 = σ.2.2) (hi : ∀ k, k ∉ S → τ.1 k = σ.1 k) : Tr S σ τ := ⟨⟨fun _ _ _ => by rw [h], fun q => by rw [h]; exact q⟩, hi⟩
theorem Tr.up {S S' : List Nat} {σ τ υ : zS} (h : Tr S σ τ) (h' : Tr S' τ υ) (hs : ∀ k ∈ S', k ∈ S) : Tr S σ υ := ⟨⟨fun k j q => (h'.1.1 k j q).trans (h.1.1 k j q), fun q => h'.1.2 (h.1.2 q)⟩, fun k hk => (h'.2 k (fun q => hk (hs k q))).trans (h.2 k hk)⟩
theorem Tr.wk {S S' : List Nat} {σ τ : zS} (h : Tr S' σ τ) (hs : ∀ k ∈ S', k ∈ S) : Tr S σ τ := ⟨h.1, fun k hk => h.2 k (fun q => hk (hs k q))⟩
/-- the references that never change -/
def RF (R : Nat → Nat → Nat) : Prop := ∀ k j, zdyn k j = false → R k j = zT k j
theorem RF.tr {S : List Nat} {σ τ : zS} (hT : Tr S σ τ) (h : RF σ.2.2) : RF τ.2.2 := fun k j q => (hT.1.1 k j (fun e => by rw [e.1, e.2] at q; exact absurd q (by decide))).trans (h k j q)
section OKS
variable {α β S : Type} {P : β → Prop} {Sx S' : List Nat} {σ0 σ : zS}
theorem ok_some {a : β} (h : P a) : Ok (some a) P := ⟨a, rfl, h⟩
theorem ok_rZ {P : Int32 × zS → Prop} {v : Int32} (hv : v = 0 ∨ v = 1) (h : P (v, σ)) : Ok (rZ v σ) P := ⟨(v, σ), if_pos hv, h⟩
theorem ok_if {c : Prop} [Decidable c] {a b : Option β} (h1 : c → Ok a P) (h2 : ¬ c → Ok b P) : Ok (if c then a else b) P := by
  by_cases h : c
  · rw [if_pos h]; exact h1 h
  · rw [if_neg h]; exact h2 h
theorem ok_zl {x : Option α} {f : α → Option β} {v : α} (hx : x = some v) (h : Ok (f v) P) : Ok (zl x f) P := by
  subst hx; exact h
theorem ok_mono {x : Option β} {Q : β → Prop} (h : Ok x Q) (hq : ∀ a, Q a → P a) : Ok x P := by
  obtain ⟨a, h1, h2⟩ := h
  exact ⟨a, h1, hq a h2⟩
theorem ok_zb {x : Option (α × zS)} {f : α → zS → Option β} {Q : α × zS → Prop} (hx : Ok x Q) (h : ∀ v τ, Q (v, τ) → Ok (f v τ) P) : Ok (zb x f) P := by
  obtain ⟨⟨v, τ⟩, rfl, hq⟩ := hx
  exact h v τ hq
theorem ok_zbT {x : Option (α × zS)} {f : α → zS → Option β} {Q : α → zS → Prop} (hT : Tr Sx σ0 σ) (hx : Ok x (fun r => Tr S' σ r.2 ∧ Q r.1 r.2)) (hs : ∀ k ∈ S', k ∈ Sx) (h : ∀ v τ, Tr S' σ τ → Tr Sx σ0 τ → Q v τ → Ok (f v τ) P) : Ok (zb x f) P := by
  obtain ⟨⟨v, τ⟩, rfl, hq, hv⟩ := hx
  exact h v τ hq (hT.up hq hs) hv
theorem ok_gC {ci k : Nat} {f : Unit → Option β} (hk : (zKd k).1 = ci) (h : Ok (f ()) P) : Ok (zl (gC ci k) f) P := ok_zl (if_pos hk) h
theorem ok_gR {ci j k v : Nat} {f : Nat → Option β} (hT : Tr Sx σ0 σ) (hk : (zKd k).1 = ci) (hv : σ0.2.2 k j = v) (h : Ok (f v) P) (hne : ¬ (ci = 5 ∧ j = 5) := by decide) : Ok (zl (gR ci j k σ) f) P := by
  refine ok_zl (v := v) ?_ h
  rw [gR, if_pos hk, hT.1.1 k j (fun e => hne ⟨by rw [← hk, e.1]; rfl, e.2⟩), hv]
theorem ok_gRX {f : Nat → Option β} (hT : Tr Sx σ0 σ) (hX : σ0.2.2 57 5 = 1) (h : Ok (f 1) P) : Ok (zl (gR 5 5 57 σ) f) P := by
  refine ok_zl (v := 1) ?_ h
  rw [gR, if_pos (show (zKd 57).1 = 5 from rfl), hT.1.2 hX]
theorem ok_pRX {f : zS → Option β} (hT : Tr Sx σ0 σ) (h : ∀ τ : zS, τ.2.2 57 5 = 1 → τ.1 = σ.1 → Tr [] σ τ → Tr Sx σ0 τ → Ok (f τ) P) : Ok (zl (pR 5 5 57 1 σ) f) P := by
  have e : (zR σ 57 (va_up (σ.2.2 57) 5 1)).2.2 57 5 = 1 := by
    show va_up σ.2.2 57 (va_up (σ.2.2 57) 5 1) 57 5 = 1
    rw [va_up_self, va_up_self]
  have t : Tr [] σ (zR σ 57 (va_up (σ.2.2 57) 5 1)) := by
    refine ⟨⟨fun k j q => ?_, fun _ => e⟩, fun _ _ => rfl⟩
    show va_up σ.2.2 57 (va_up (σ.2.2 57) 5 1) k j = _
    by_cases hk : k = 57
    · subst hk
      rw [va_up_self, va_up_ne _ _ (fun q2 => q ⟨rfl, q2⟩)]
    · rw [va_up_ne _ _ hk]
  exact ok_zl (if_pos rfl) (h _ e rfl t (hT.up t (fun a ha => absurd ha List.not_mem_nil)))
theorem ok_gI {ci j k : Nat} {f : Int32 → Option β} (hk : (zKd k).1 = ci) (h : Ok (f (σ.1 k j)) P) : Ok (zl (gI ci j k σ) f) P := ok_zl (if_pos hk) h
theorem ok_gI0 {ci j k : Nat} {f : Int32 → Option β} (hT : Tr Sx σ0 σ) (hk : (zKd k).1 = ci) (hS : k ∉ Sx) (h : Ok (f (σ0.1 k j)) P) : Ok (zl (gI ci j k σ) f) P := by
  refine ok_gI hk ?_
  rw [hT.2 k hS]; exact h
theorem ok_gIv {ci j k : Nat} {f : Int32 → Option β} {v : Int32} (hk : (zKd k).1 = ci) (hv : σ.1 k j = v) (h : Ok (f v) P) : Ok (zl (gI ci j k σ) f) P := by
  refine ok_gI hk ?_
  rw [hv]; exact h
theorem ok_pI {ci j k : Nat} {v : Int32} {f : zS → Option β} (hT : Tr Sx σ0 σ) (hk : (zKd k).1 = ci) (hS : k ∈ Sx) (h : ∀ τ : zS, τ = zI σ k (upd (σ.1 k) j v) → Tr [k] σ τ → Tr Sx σ0 τ → Ok (f τ) P) : Ok (zl (pI ci j k v σ) f) P := by
  refine ok_zl (if_pos hk) (h _ rfl (Tr.of rfl (fun a ha => va_up_ne _ _ (fun q => ha (by rw [q]; exact List.mem_singleton.mpr rfl)))) (hT.up (S' := [k]) (Tr.of rfl (fun a ha => va_up_ne _ _ (fun q => ha (by rw [q]; exact List.mem_singleton.mpr rfl)))) (fun a ha => by rw [List.mem_singleton.mp ha]; exact hS)))
theorem ok_aI {ti n k : Nat} {i : Int32} {f : Int32 → Option β} (hk : zKd k = (ti, n)) (h1 : 0 ≤ i.toInt) (h2 : i.toInt < (n : Int)) (h : Ok (f (σ.1 k i.toNatClampNeg)) P) : Ok (zl (aI ti k i σ) f) P := by
  refine ok_zl (if_pos ⟨by rw [hk], h1, by rw [hk]; exact h2⟩) h
theorem ok_aIn {ti n k : Nat} {i : Int32} {f : Int32 → Option β} (hk : zKd k = (ti, n)) (h1 : 0 ≤ i.toInt) (h2 : i.toInt < (n : Int)) (h : ∀ v : Int32, v = σ.1 k i.toNatClampNeg → Ok (f v) P) : Ok (zl (aI ti k i σ) f) P := ok_aI hk h1 h2 (h _ rfl)
theorem ok_aJ {n k : Nat} {i : Int32} {f : Int64 → Option β} (hk : zKd k = (15, n)) (h1 : 0 ≤ i.toInt) (h2 : i.toInt < (n : Int)) (h : Ok (f (σ.2.1 k i.toNatClampNeg)) P) : Ok (zl (aJ k i σ) f) P := by
  refine ok_zl (if_pos ⟨by rw [hk], h1, by rw [hk]; exact h2⟩) h
theorem ok_aR {ti n k v : Nat} {i : Int32} {f : Nat → Option β} (hT : Tr Sx σ0 σ) (hk : zKd k = (ti, n)) (h1 : 0 ≤ i.toInt) (h2 : i.toInt < (n : Int)) (hv : σ0.2.2 k i.toNatClampNeg = v) (h : Ok (f v) P) (hne : ¬ ti = 5 := by decide) : Ok (zl (aR ti k i σ) f) P := by
  refine ok_zl (v := v) ?_ h
  rw [aR, if_pos ⟨by rw [hk], h1, by rw [hk]; exact h2⟩, hT.1.1 k _ (fun e => hne (by rw [e.1] at hk; exact (congrArg Prod.fst hk).symm)), hv]
theorem ok_sI {ti n k : Nat} {i v : Int32} {f : zS → Option β} (hT : Tr Sx σ0 σ) (hk : zKd k = (ti, n)) (hS : k ∈ Sx) (h1 : 0 ≤ i.toInt) (h2 : i.toInt < (n : Int)) (h : ∀ τ : zS, τ = zI σ k (upd (σ.1 k) i.toNatClampNeg (if ti = 13 then vp_nar .byte v else if ti = 16 then vp_nar .boolean v else v)) → Tr [k] σ τ → Tr Sx σ0 τ → Ok (f τ) P) : Ok (zl (sI ti k i v σ) f) P := by
  refine ok_zl (if_pos ⟨by rw [hk], h1, by rw [hk]; exact h2⟩) (h _ rfl (Tr.of rfl (fun a ha => va_up_ne _ _ (fun q => ha (by rw [q]; exact List.mem_singleton.mpr rfl)))) (hT.up (S' := [k]) (Tr.of rfl (fun a ha => va_up_ne _ _ (fun q => ha (by rw [q]; exact List.mem_singleton.mpr rfl)))) (fun a ha => by rw [List.mem_singleton.mp ha]; exact hS)))
theorem ok_sJ {n k : Nat} {i : Int32} {v : Int64} {f : zS → Option β} (hT : Tr Sx σ0 σ) (hk : zKd k = (15, n)) (h1 : 0 ≤ i.toInt) (h2 : i.toInt < (n : Int)) (h : ∀ τ : zS, τ = zJ σ k (vp_updL (σ.2.1 k) i.toNatClampNeg v) → Tr [] σ τ → Tr Sx σ0 τ → Ok (f τ) P) : Ok (zl (sJ k i v σ) f) P := by
  refine ok_zl (if_pos ⟨by rw [hk], h1, by rw [hk]; exact h2⟩) (h _ rfl (Tr.of rfl fun _ _ => rfl) (hT.up (S' := []) (Tr.of rfl fun _ _ => rfl) (fun a ha => absurd ha List.not_mem_nil)))
theorem ok_aL {ti n k : Nat} {f : Int32 → Option β} (hk : zKd k = (ti, n)) (h : Ok (f (Int32.ofNat n)) P) : Ok (zl (aL ti k) f) P := by
  refine ok_zl (v := Int32.ofNat n) ?_ h
  rw [aL, if_pos (by rw [hk]), hk]
theorem ok_cpI {n0 n1 k0 k1 : Nat} {sp dp n : Int32} {f : zS → Option β} (hT : Tr Sx σ0 σ) (hk0 : zKd k0 = (14, n0)) (hk1 : zKd k1 = (14, n1)) (hS : k1 ∈ Sx) (h1 : 0 ≤ sp.toInt) (h2 : 0 ≤ dp.toInt) (h3 : 0 ≤ n.toInt) (h4 : sp.toInt + n.toInt ≤ (n0 : Int)) (h5 : dp.toInt + n.toInt ≤ (n1 : Int)) (h : ∀ τ : zS, τ = zI σ k1 (va_cpy (σ.1 k0) (σ.1 k1) sp.toNatClampNeg dp.toNatClampNeg n.toNatClampNeg) → Tr [k1] σ τ → Tr Sx σ0 τ → Ok (f τ) P) : Ok (zl (cpI k0 sp k1 dp n σ) f) P := by
  refine ok_zl (if_pos ⟨by rw [hk0], by rw [hk1], h1, h2, h3, by rw [hk0]; exact h4, by rw [hk1]; exact h5⟩) (h _ rfl (Tr.of rfl (fun a ha => va_up_ne _ _ (fun q => ha (by rw [q]; exact List.mem_singleton.mpr rfl)))) (hT.up (S' := [k1]) (Tr.of rfl (fun a ha => va_up_ne _ _ (fun q => ha (by rw [q]; exact List.mem_singleton.mpr rfl)))) (fun a ha => by rw [List.mem_singleton.mp ha]; exact hS)))
theorem ok_cpJ {n0 n1 k0 k1 : Nat} {sp dp n : Int32} {f : zS → Option β} (hT : Tr Sx σ0 σ) (hk0 : zKd k0 = (15, n0)) (hk1 : zKd k1 = (15, n1)) (h1 : 0 ≤ sp.toInt) (h2 : 0 ≤ dp.toInt) (h3 : 0 ≤ n.toInt) (h4 : sp.toInt + n.toInt ≤ (n0 : Int)) (h5 : dp.toInt + n.toInt ≤ (n1 : Int)) (h : ∀ τ : zS, τ = zJ σ k1 (va_cpy (σ.2.1 k0) (σ.2.1 k1) sp.toNatClampNeg dp.toNatClampNeg n.toNatClampNeg) → Tr [] σ τ → Tr Sx σ0 τ → Ok (f τ) P) : Ok (zl (cpJ k0 sp k1 dp n σ) f) P := by
  refine ok_zl (if_pos ⟨by rw [hk0], by rw [hk1], h1, h2, h3, by rw [hk0]; exact h4, by rw [hk1]; exact h5⟩) (h _ rfl (Tr.of rfl fun _ _ => rfl) (hT.up (S' := []) (Tr.of rfl fun _ _ => rfl) (fun a ha => absurd ha List.not_mem_nil)))
theorem ok_aW {i : Int32} {f : Int64 → Option β} (h1 : 0 ≤ i.toInt) (h2 : i.toInt < 6) (h : Ok (f (zWo i.toNatClampNeg)) P) : Ok (zl (aW i) f) P := ok_zl (if_pos ⟨h1, h2⟩) h
theorem ok_nzI {y : Int32} {f : Unit → Option β} (hy : ¬ y = 0) (h : Ok (f ()) P) : Ok (zl (nzI y) f) P := ok_zl (if_neg hy) h
theorem ok_nzJ {y : Int64} {f : Unit → Option β} (hy : ¬ y = 0) (h : Ok (f ()) P) : Ok (zl (nzJ y) f) P := ok_zl (if_neg hy) h
theorem ok_lp {F : (S → Option β) → S → Option β} (Inv : S → Prop) (μ : S → Nat) (step : ∀ (again : S → Option β) (t : S), Inv t → (∀ t', Inv t' → μ t' < μ t → Ok (again t') P) → Ok (F again t) P) : ∀ (n : Nat) (t : S), Inv t → μ t < n → Ok (zlp F n t) P := by
  intro n
  induction n with
  | zero => intro t _ h; exact absurd h (Nat.not_lt_zero _)
  | succ n ih => intro t hi h; exact step (zlp F n) t hi (fun t' h1 h2 => ih t' h1 (by omega))
end OKS
/-! numbers: ints as integers -/
theorem ti_w (x : Int) : x.bmod (2 ^ 32) = (x + 2147483648) % 4294967296 - 2147483648 := by
  have e : ((2 ^ 32 : Nat) : Int) = 4294967296 := rfl
  rw [Int.bmod_def, e]
  split <;> omega
theorem ti_add (a b : Int32) : (a + b).toInt = (a.toInt + b.toInt + 2147483648) % 4294967296 - 2147483648 := by rw [Int32.toInt_add, ti_w]
theorem ti_sub (a b : Int32) : (a - b).toInt = (a.toInt - b.toInt + 2147483648) % 4294967296 - 2147483648 := by rw [Int32.toInt_sub, ti_w]
theorem ti_mul (a b : Int32) : (a * b).toInt = (a.toInt * b.toInt + 2147483648) % 4294967296 - 2147483648 := by rw [Int32.toInt_mul, ti_w]
theorem ti_ofNat {n : Nat} (h : n < 2147483648) : (Int32.ofNat n).toInt = (n : Int) := nI_toInt h
theorem ti_eq {a b : Int32} : a = b ↔ a.toInt = b.toInt := Int32.toInt_inj.symm
theorem ti_lo (a : Int32) : -2147483648 ≤ a.toInt := Int32.le_toInt a
theorem ti_hi (a : Int32) : a.toInt < 2147483648 := Int32.toInt_lt a
theorem ti_sl : ∀ n, n < 32 → ((Int32.ofNat n &&& 31).toBitVec.smod 32).toNat = n := by decide +kernel
theorem ti_shr (x : Int32) {n : Nat} (hn : n < 32) : (x >>> (Int32.ofNat n &&& 31)).toInt = x.toInt / ((2 ^ n : Nat) : Int) := by
  show (x >>> (Int32.ofNat n &&& 31)).toBitVec.toInt = x.toBitVec.toInt / _
  rw [Int32.toBitVec_shiftRight]
  show (x.toBitVec.sshiftRight ((Int32.ofNat n &&& 31).toBitVec.smod 32).toNat).toInt = _
  rw [ti_sl n hn, BitVec.toInt_sshiftRight, Int.shiftRight_eq_div_pow]
theorem ti_toNat {x : Int32} (h : x.toBitVec.toNat < 2147483648) : x.toInt = (x.toBitVec.toNat : Int) := by
  show x.toBitVec.toInt = _
  rw [BitVec.toInt_eq_toNat_of_lt (by omega)]
theorem ti_and0 (x : Int32) {m : Nat} (hm : m < 2147483648) : 0 ≤ (x &&& Int32.ofNat m).toInt ∧ (x &&& Int32.ofNat m).toInt ≤ (m : Int) := by
  have e : (x &&& Int32.ofNat m).toBitVec.toNat ≤ m := by
    rw [Int32.toBitVec_and, BitVec.toNat_and]
    refine Nat.le_trans Nat.and_le_right ?_
    show (BitVec.ofNat 32 m).toNat ≤ m
    rw [BitVec.toNat_ofNat]
    exact Nat.mod_le _ _
  rw [ti_toNat (by omega)]
  omega
/-- 1 << x, x from 0 to 10 -/
theorem ti_one {x : Int32} (h0 : 0 ≤ x.toInt) (h1 : x.toInt ≤ 30) : ((1 : Int32) <<< (x &&& 31)).toInt = ((2 ^ x.toInt.toNat : Nat) : Int) := by
  obtain ⟨n, hn, rfl⟩ : ∃ n, n < 31 ∧ x = nI n := ⟨x.toInt.toNat, by omega, Int32.toInt_inj.mp (by rw [nI_toInt (by omega)]; omega)⟩
  rw [nI_toInt (by omega)]
  exact (by decide +kernel : ∀ n, n < 31 → ((1 : Int32) <<< (nI n &&& 31)).toInt = ((2 ^ ((n : Int)).toNat : Nat) : Int)) n hn
theorem ti_one10 {x : Int32} (h0 : 0 ≤ x.toInt) (h1 : x.toInt ≤ 10) : 1 ≤ ((1 : Int32) <<< (x &&& 31)).toInt ∧ ((1 : Int32) <<< (x &&& 31)).toInt ≤ 1024 := by
  rw [ti_one h0 (by omega)]
  have : x.toInt.toNat ≤ 10 := by omega
  have h2 := Nat.pow_le_pow_right (show 0 < 2 by decide) this
  have h3 := Nat.pow_pos (n := x.toInt.toNat) (show 0 < 2 by decide)
  omega
theorem ti_cl (x : Int32) : ((x.toNatClampNeg : Nat) : Int) = if x.toInt < 0 then 0 else x.toInt := by
  have e1 : x.toNatClampNeg = x.toInt.toNat := rfl
  rw [e1]
  split <;> omega
/-- every cell of a family has its row -/
theorem zfam : ∀ k, k < 243 → (zKd k).1 = 2 → zdyn k 0 = false ∧ zT k 0 = k + 1 ∧ zKd (k + 1) = (15, 16) := by decide +kernel
theorem zKd_lt {k ci : Nat} (h : (zKd k).1 = ci) (hc : ci < 99) : k < 243 := (zKd_in h hc).1
theorem fam_R {R : Nat → Nat → Nat} {f : Nat} (hR : RF R) (hf : (zKd f).1 = 2) : R f 0 = f + 1 ∧ zKd (f + 1) = (15, 16) := by
  obtain ⟨h1, h2, h3⟩ := zfam f (zKd_lt hf (by decide)) hf
  exact ⟨(hR f 0 h1).trans h2, h3⟩
theorem zslot : ∀ k, k < 243 → (zKd k).1 = 9 → zdyn k 0 = false ∧ zT k 0 = k + 1 ∧ zKd (k + 1) = (15, 60) := by decide +kernel
theorem slot_R {R : Nat → Nat → Nat} {f : Nat} (hR : RF R) (hf : (zKd f).1 = 9) : R f 0 = f + 1 ∧ zKd (f + 1) = (15, 60) := by
  obtain ⟨h1, h2, h3⟩ := zslot f (zKd_lt hf (by decide)) hf
  exact ⟨(hR f 0 h1).trans h2, h3⟩
theorem zarF : ∀ k, k < 243 → (zKd k).1 = 17 → ∀ i, i < (zKd k).2 → zdyn k i = false ∧ (zKd (zT k i)).1 = 2 := by decide +kernel
theorem zarS : ∀ k, k < 243 → (zKd k).1 = 18 → ∀ i, i < (zKd k).2 → zdyn k i = false ∧ (zKd (zT k i)).1 = 9 := by decide +kernel
theorem arrF {R : Nat → Nat → Nat} (hR : RF R) {k n : Nat} {i : Int32} (hk : zKd k = (17, n)) (h0 : 0 ≤ i.toInt) (h1 : i.toInt < (n : Int)) : ∃ q, R k i.toNatClampNeg = q ∧ (zKd q).1 = 2 := by
  have e1 : i.toNatClampNeg = i.toInt.toNat := rfl
  obtain ⟨h2, h3⟩ := zarF k (zKd_lt (ci := 17) (by rw [hk]) (by decide)) (by rw [hk]) i.toNatClampNeg (by rw [hk, e1]; show _ < n; omega)
  exact ⟨_, rfl, by rw [hR k _ h2]; exact h3⟩
theorem arrS {R : Nat → Nat → Nat} (hR : RF R) {k n : Nat} {i : Int32} (hk : zKd k = (18, n)) (h0 : 0 ≤ i.toInt) (h1 : i.toInt < (n : Int)) : ∃ q, R k i.toNatClampNeg = q ∧ (zKd q).1 = 9 := by
  have e1 : i.toNatClampNeg = i.toInt.toNat := rfl
  obtain ⟨h2, h3⟩ := zarS k (zKd_lt (ci := 18) (by rw [hk]) (by decide)) (by rw [hk]) i.toNatClampNeg (by rw [hk, e1]; show _ < n; omega)
  exact ⟨_, rfl, by rw [hR k _ h2]; exact h3⟩
/-- what always holds of a world's numbers -/
def WI (B : Nat) (f : Nat → Nat → Int32) : Prop := (0 ≤ (f B 0).toInt ∧ (f B 0).toInt ≤ 10) ∧ (0 ≤ (f B 2).toInt ∧ (f B 2).toInt ≤ 10) ∧ ∀ j, j < 10 → (0 ≤ (f (B + 1) j).toInt ∧ (f (B + 1) j).toInt ≤ 7) ∧ (0 ≤ (f (B + 2) j).toInt ∧ (f (B + 2) j).toInt ≤ 7)
theorem WI.tr {S : List Nat} {σ τ : zS} {B : Nat} (hT : Tr S σ τ) (h0 : B ∉ S) (h1 : B + 1 ∉ S) (h2 : B + 2 ∉ S) (h : WI B σ.1) : WI B τ.1 := by
  unfold WI at h ⊢
  rw [hT.2 B h0, hT.2 (B + 1) h1, hT.2 (B + 2) h2]
  exact h
theorem zslm : ∀ k, k < 243 → (zKd k).1 = 9 → k = 210 ∨ k = 212 ∨ k = 214 ∨ k = 216 := by decide +kernel
theorem slotMem {S : List Nat} {k : Nat} (hk : (zKd k).1 = 9) (h0 : 210 ∈ S := by decide) (h1 : 212 ∈ S := by decide) (h2 : 214 ∈ S := by decide) (h3 : 216 ∈ S := by decide) : k ∈ S := by
  rcases zslm k (zKd_lt hk (by decide)) hk with rfl | rfl | rfl | rfl <;> assumption
theorem ti_shl1 {x : Int32} (h0 : 0 ≤ x.toInt) (h1 : x.toInt < 1073741824) : (x <<< ((1 : Int32) &&& 31)).toInt = 2 * x.toInt := by
  have e : x <<< ((1 : Int32) &&& 31) = x + x := by
    apply Int32.toBitVec_inj.1
    rw [Int32.toBitVec_shiftLeft, Int32.toBitVec_add]
    show x.toBitVec <<< ((Int32.ofNat 1 &&& 31).toBitVec.smod 32).toNat = _
    rw [ti_sl 1 (by decide)]
    apply BitVec.eq_of_toNat_eq
    rw [BitVec.toNat_shiftLeft, BitVec.toNat_add, Nat.shiftLeft_eq]
    congr 1
    omega
  rw [e, ti_add]
  omega
theorem ti_zmin (x y : Int32) : (zmin x y).toInt = if y.toInt < x.toInt then y.toInt else x.toInt := by
  unfold zmin
  simp only [Int32.lt_iff_toInt_lt]
  split <;> rfl
theorem ti_zmax (x y : Int32) : (zmax x y).toInt = if x.toInt < y.toInt then y.toInt else x.toInt := by
  unfold zmax
  simp only [Int32.lt_iff_toInt_lt]
  split <;> rfl
theorem lgc0 {x : Int64} (h : ¬ lg_cmp x 0 = 0) : ¬ x = 0 := fun q => h (by rw [q]; rfl)
theorem zI_atI {τ σ : zS} {k j : Nat} {v : Int32} (e : τ = zI σ k (upd (σ.1 k) j v)) : τ.1 k j = v := by
  subst e
  show va_up σ.1 k (upd (σ.1 k) j v) k j = v
  rw [va_up_self]
  exact if_pos rfl
theorem zI_atN {τ σ : zS} {k j i : Nat} {v : Int32} (e : τ = zI σ k (upd (σ.1 k) j v)) (h : i ≠ j) : τ.1 k i = σ.1 k i := by
  subst e
  show va_up σ.1 k (upd (σ.1 k) j v) k i = σ.1 k i
  rw [va_up_self]
  exact if_neg h
section OKS2
variable {β : Type} {P : β → Prop} {Sx : List Nat} {σ0 σ : zS}
theorem ok_s14 {n k : Nat} {i v : Int32} {f : zS → Option β} (hT : Tr Sx σ0 σ) (hk : zKd k = (14, n)) (hS : k ∈ Sx) (h1 : 0 ≤ i.toInt) (h2 : i.toInt < (n : Int)) (h : ∀ τ : zS, τ = zI σ k (upd (σ.1 k) i.toNatClampNeg v) → Tr [k] σ τ → Tr Sx σ0 τ → Ok (f τ) P) : Ok (zl (sI 14 k i v σ) f) P := ok_sI hT hk hS h1 h2 h
theorem ok_s13 {n k : Nat} {i v : Int32} {f : zS → Option β} (hT : Tr Sx σ0 σ) (hk : zKd k = (13, n)) (hS : k ∈ Sx) (h1 : 0 ≤ i.toInt) (h2 : i.toInt < (n : Int)) (h : ∀ τ : zS, τ = zI σ k (upd (σ.1 k) i.toNatClampNeg (vp_nar .byte v)) → Tr [k] σ τ → Tr Sx σ0 τ → Ok (f τ) P) : Ok (zl (sI 13 k i v σ) f) P := ok_sI hT hk hS h1 h2 h
theorem ok_s16 {n k : Nat} {i v : Int32} {f : zS → Option β} (hT : Tr Sx σ0 σ) (hk : zKd k = (16, n)) (hS : k ∈ Sx) (h1 : 0 ≤ i.toInt) (h2 : i.toInt < (n : Int)) (h : ∀ τ : zS, τ = zI σ k (upd (σ.1 k) i.toNatClampNeg (vp_nar .boolean v)) → Tr [k] σ τ → Tr Sx σ0 τ → Ok (f τ) P) : Ok (zl (sI 16 k i v σ) f) P := ok_sI hT hk hS h1 h2 h
end OKS2
/-- a row of small numbers stays one -/
theorem row_up {τ σ : zS} {k j : Nat} {v : Int32} {A : Int32 → Prop} {n : Nat} (e : τ = zI σ k (upd (σ.1 k) j v)) (hv : A v) (h : ∀ i, i < n → A (σ.1 k i)) : ∀ i, i < n → A (τ.1 k i) := by
  intro i hi
  by_cases q : i = j
  · subst q; rw [zI_atI e]; exact hv
  · rw [zI_atN e q]; exact h i hi
theorem WI_add {B : Nat} {σ σ1 σ2 σ3 : zS} {i1 i2 : Nat} {v w u : Int32} (hW : WI B σ.1) (e1 : σ1 = zI σ (B + 1) (upd (σ.1 (B + 1)) i1 v)) (e2 : σ2 = zI σ1 (B + 2) (upd (σ1.1 (B + 2)) i2 w)) (e3 : σ3 = zI σ2 B (upd (σ2.1 B) 2 u)) (hv : 0 ≤ v.toInt ∧ v.toInt ≤ 7) (hw : 0 ≤ w.toInt ∧ w.toInt ≤ 7) (hu : 0 ≤ u.toInt ∧ u.toInt ≤ 10) : WI B σ3.1 := by
  obtain ⟨h1, h2, h3⟩ := hW
  have o1 : ∀ a, a ≠ B + 1 → σ1.1 a = σ.1 a := fun a ha => by subst e1; exact va_up_ne _ _ ha
  have o2 : ∀ a, a ≠ B + 2 → σ2.1 a = σ1.1 a := fun a ha => by subst e2; exact va_up_ne _ _ ha
  have o3 : ∀ a, a ≠ B → σ3.1 a = σ2.1 a := fun a ha => by subst e3; exact va_up_ne _ _ ha
  have r1 := row_up (A := fun x => 0 ≤ x.toInt ∧ x.toInt ≤ 7) (n := 10) e1 hv (fun i hi => (h3 i hi).1)
  have r2 := row_up (A := fun x => 0 ≤ x.toInt ∧ x.toInt ≤ 7) (n := 10) e2 hw (fun i hi => by rw [o1 _ (by omega)]; exact (h3 i hi).2)
  refine ⟨?_, ?_, fun j hj => ⟨?_, ?_⟩⟩
  · rw [zI_atN e3 (by decide), o2 _ (by omega), o1 _ (by omega)]; exact h1
  · rw [zI_atI e3]; exact hu
  · rw [o3 _ (by omega), o2 _ (by omega)]; exact r1 j hj
  · rw [o3 _ (by omega)]; exact r2 j hj
theorem ti_one9 {x : Int32} (h0 : 0 ≤ x.toInt) (h1 : x.toInt ≤ 9) : 1 ≤ ((1 : Int32) <<< (x &&& 31)).toInt ∧ ((1 : Int32) <<< (x &&& 31)).toInt ≤ 512 := by
  rw [ti_one h0 (by omega)]
  have : x.toInt.toNat ≤ 9 := by omega
  have h2 := Nat.pow_le_pow_right (show 0 < 2 by decide) this
  have h3 := Nat.pow_pos (n := x.toInt.toNat) (show 0 < 2 by decide)
  omega
theorem ti_mm (x : Int32) : 0 ≤ (zmax 0 (zmin 10 x)).toInt ∧ (zmax 0 (zmin 10 x)).toInt ≤ 10 := by
  rw [ti_zmax, ti_zmin]
  simp only [Int32.reduceToInt]
  split <;> split <;> omega
theorem ti_or {a b : Int32} {n : Nat} (hn : n ≤ 31) (ha : 0 ≤ a.toInt) (ha2 : a.toInt < ((2 ^ n : Nat) : Int)) (hb : 0 ≤ b.toInt) (hb2 : b.toInt < ((2 ^ n : Nat) : Int)) : 0 ≤ (a ||| b).toInt ∧ (a ||| b).toInt < ((2 ^ n : Nat) : Int) := by
  have hp : 2 ^ n ≤ 2147483648 := Nat.pow_le_pow_right (show 0 < 2 by decide) hn
  have nn : ∀ x : Int32, 0 ≤ x.toInt → x.toInt = (x.toBitVec.toNat : Int) := by
    intro x hx
    have h1 : x.toInt = x.toBitVec.toInt := rfl
    rw [h1, BitVec.toInt_eq_toNat_cond] at hx ⊢
    have := x.toBitVec.isLt
    split at hx
    · rw [if_pos (by assumption)]
    · omega
  have e : (a ||| b).toBitVec.toNat < 2 ^ n := by
    rw [Int32.toBitVec_or, BitVec.toNat_or]
    exact Nat.or_lt_two_pow (by rw [nn a ha] at ha2; omega) (by rw [nn b hb] at hb2; omega)
  rw [ti_toNat (by omega)]
  omega
theorem ti_mm6 (x : Int32) : 0 ≤ (zmax 0 (zmin 6 x)).toInt ∧ (zmax 0 (zmin 6 x)).toInt ≤ 6 := by
  rw [ti_zmax, ti_zmin]
  simp only [Int32.reduceToInt]
  split <;> split <;> omega
theorem ti_one6 {x : Int32} (h0 : 0 ≤ x.toInt) (h1 : x.toInt ≤ 6) : 1 ≤ ((1 : Int32) <<< (x &&& 31)).toInt ∧ ((1 : Int32) <<< (x &&& 31)).toInt ≤ 64 := by
  rw [ti_one h0 (by omega)]
  have : x.toInt.toNat ≤ 6 := by omega
  have h2 := Nat.pow_le_pow_right (show 0 < 2 by decide) this
  have h3 := Nat.pow_pos (n := x.toInt.toNat) (show 0 < 2 by decide)
  omega
theorem ti_one5 {x : Int32} (h0 : 0 ≤ x.toInt) (h1 : x.toInt ≤ 5) : 0 ≤ ((1 : Int32) <<< (x &&& 31)).toInt ∧ ((1 : Int32) <<< (x &&& 31)).toInt < ((2 ^ 6 : Nat) : Int) := by
  rw [ti_one h0 (by omega)]
  have : x.toInt.toNat ≤ 5 := by omega
  have h2 := Nat.pow_le_pow_right (show 0 < 2 by decide) this
  have h3 := Nat.pow_pos (n := x.toInt.toNat) (show 0 < 2 by decide)
  omega
theorem i64_of (a : Int32) : (Int32.toInt64 a).toInt = a.toInt := Int32.toInt_toInt64 a
theorem spans_ok {a b c : Int32} (h0 : 0 ≤ a.toInt) (h1 : 0 ≤ b.toInt) (h : ¬ 0 < lg_cmp (Int32.toInt64 a + Int32.toInt64 b) (Int32.toInt64 c)) : a.toInt + b.toInt ≤ c.toInt := by
  rw [zcmp_gt, Int64.toInt_add, i64_of, i64_of, i64_of] at h
  have ha := ti_hi a
  have hb := ti_hi b
  have e : (a.toInt + b.toInt).bmod (2 ^ 64) = a.toInt + b.toInt := by
    have e2 : ((2 ^ 64 : Nat) : Int) = 18446744073709551616 := rfl
    rw [Int.bmod_def, e2]
    split <;> omega
  rw [e] at h
  omega
section WIS
variable {B : Nat} {σ τ : zS}
theorem WI_p0 {v : Int32} (e : τ = zI σ B (upd (σ.1 B) 0 v)) (hv : 0 ≤ v.toInt ∧ v.toInt ≤ 10) (h : WI B σ.1) : WI B τ.1 := by
  have o1 : ∀ a, a ≠ B → τ.1 a = σ.1 a := fun a ha => by subst e; exact va_up_ne _ _ ha
  refine ⟨by rw [zI_atI e]; exact hv, by rw [zI_atN e (by decide)]; exact h.2.1, fun j hj => ?_⟩
  rw [o1 _ (by omega), o1 _ (by omega)]; exact h.2.2 j hj
theorem WI_p1 {v : Int32} (e : τ = zI σ B (upd (σ.1 B) 1 v)) (h : WI B σ.1) : WI B τ.1 := by
  have o1 : ∀ a, a ≠ B → τ.1 a = σ.1 a := fun a ha => by subst e; exact va_up_ne _ _ ha
  refine ⟨by rw [zI_atN e (by decide)]; exact h.1, by rw [zI_atN e (by decide)]; exact h.2.1, fun j hj => ?_⟩
  rw [o1 _ (by omega), o1 _ (by omega)]; exact h.2.2 j hj
theorem WI_p2 {v : Int32} (e : τ = zI σ B (upd (σ.1 B) 2 v)) (hv : 0 ≤ v.toInt ∧ v.toInt ≤ 10) (h : WI B σ.1) : WI B τ.1 := by
  have o1 : ∀ a, a ≠ B → τ.1 a = σ.1 a := fun a ha => by subst e; exact va_up_ne _ _ ha
  refine ⟨by rw [zI_atN e (by decide)]; exact h.1, by rw [zI_atI e]; exact hv, fun j hj => ?_⟩
  rw [o1 _ (by omega), o1 _ (by omega)]; exact h.2.2 j hj
theorem zI_row {k : Nat} {f : Nat → Int32} (e : τ = zI σ k f) : τ.1 k = f := by
  subst e; exact va_up_self _ _ _
theorem WI_c1 {C : Nat} (e : τ = zI σ (B + 1) (va_cpy (σ.1 (C + 1)) (σ.1 (B + 1)) (Int32.toNatClampNeg 0) (Int32.toNatClampNeg 0) (Int32.toNatClampNeg 10))) (hC : WI C σ.1) (h : WI B σ.1) : WI B τ.1 := by
  have o1 : ∀ a, a ≠ B + 1 → τ.1 a = σ.1 a := fun a ha => by subst e; exact va_up_ne _ _ ha
  refine ⟨by rw [o1 _ (by omega)]; exact h.1, by rw [o1 _ (by omega)]; exact h.2.1, fun j hj => ?_⟩
  rw [o1 (B + 2) (by omega), zI_row e]
  refine ⟨?_, (h.2.2 j hj).2⟩
  show 0 ≤ (if 0 ≤ j ∧ j < 0 + 10 then σ.1 (C + 1) (0 + (j - 0)) else σ.1 (B + 1) j).toInt ∧ (if 0 ≤ j ∧ j < 0 + 10 then σ.1 (C + 1) (0 + (j - 0)) else σ.1 (B + 1) j).toInt ≤ 7
  rw [if_pos ⟨Nat.zero_le _, by omega⟩, show 0 + (j - 0) = j by omega]
  exact (hC.2.2 j hj).1
theorem WI_c2 {C : Nat} (e : τ = zI σ (B + 2) (va_cpy (σ.1 (C + 2)) (σ.1 (B + 2)) (Int32.toNatClampNeg 0) (Int32.toNatClampNeg 0) (Int32.toNatClampNeg 10))) (hC : WI C σ.1) (h : WI B σ.1) : WI B τ.1 := by
  have o1 : ∀ a, a ≠ B + 2 → τ.1 a = σ.1 a := fun a ha => by subst e; exact va_up_ne _ _ ha
  refine ⟨by rw [o1 _ (by omega)]; exact h.1, by rw [o1 _ (by omega)]; exact h.2.1, fun j hj => ?_⟩
  rw [o1 (B + 1) (by omega), zI_row e]
  refine ⟨(h.2.2 j hj).1, ?_⟩
  show 0 ≤ (if 0 ≤ j ∧ j < 0 + 10 then σ.1 (C + 2) (0 + (j - 0)) else σ.1 (B + 2) j).toInt ∧ (if 0 ≤ j ∧ j < 0 + 10 then σ.1 (C + 2) (0 + (j - 0)) else σ.1 (B + 2) j).toInt ≤ 7
  rw [if_pos ⟨Nat.zero_le _, by omega⟩, show 0 + (j - 0) = j by omega]
  exact (hC.2.2 j hj).2
theorem WI_from {S : List Nat} {σ0 : zS} {i : Int32} (hT : Tr S σ0 σ) (hS : B + 1 ∉ S) (hW : WI B σ0.1) (h0 : 0 ≤ i.toInt) (h1 : i.toInt < 10) : 0 ≤ (σ.1 (B + 1) i.toNatClampNeg).toInt ∧ (σ.1 (B + 1) i.toNatClampNeg).toInt ≤ 7 := by
  have e1 : i.toNatClampNeg = i.toInt.toNat := rfl
  rw [hT.2 _ hS]
  exact (hW.2.2 _ (by omega)).1
theorem WI_till {S : List Nat} {σ0 : zS} {i : Int32} (hT : Tr S σ0 σ) (hS : B + 2 ∉ S) (hW : WI B σ0.1) (h0 : 0 ≤ i.toInt) (h1 : i.toInt < 10) : 0 ≤ (σ.1 (B + 2) i.toNatClampNeg).toInt ∧ (σ.1 (B + 2) i.toNatClampNeg).toInt ≤ 7 := by
  have e1 : i.toNatClampNeg = i.toInt.toNat := rfl
  rw [hT.2 _ hS]
  exact (hW.2.2 _ (by omega)).2
end WIS
/-- crossings seen: bits among the first eight -/
def bc8 (x : Int32) : Nat := ((List.range 8).filter (fun i => x.toBitVec.getLsbD i)).length
theorem bc8_step : ∀ n, n < 256 → ∀ k, k < 8 → ((nI n >>> (nI k &&& 31)) &&& 1) = 0 → (0 ≤ (nI n ||| ((1 : Int32) <<< (nI k &&& 31))).toInt ∧ (nI n ||| ((1 : Int32) <<< (nI k &&& 31))).toInt ≤ 255 ∧ bc8 (nI n ||| ((1 : Int32) <<< (nI k &&& 31))) = bc8 (nI n) + 1 ∧ bc8 (nI n) < 8) := by decide +kernel
theorem znI {x : Int32} {m : Nat} (h0 : 0 ≤ x.toInt) (h1 : x.toInt < (m : Int)) : ∃ n, n < m ∧ x = nI n := by
  have := ti_hi x
  exact ⟨x.toInt.toNat, by omega, Int32.toInt_inj.mp (by rw [nI_toInt (by omega)]; omega)⟩
theorem bc8_up {x k : Int32} (h0 : 0 ≤ x.toInt) (h1 : x.toInt ≤ 255) (h2 : 0 ≤ k.toInt) (h3 : k.toInt ≤ 7) (h : ((x >>> (k &&& 31)) &&& 1) = 0) : 0 ≤ (x ||| ((1 : Int32) <<< (k &&& 31))).toInt ∧ (x ||| ((1 : Int32) <<< (k &&& 31))).toInt ≤ 255 ∧ bc8 (x ||| ((1 : Int32) <<< (k &&& 31))) = bc8 x + 1 ∧ bc8 x < 8 := by
  obtain ⟨n, hn, rfl⟩ := znI (m := 256) h0 (by omega)
  obtain ⟨q, hq, rfl⟩ := znI (m := 8) h2 (by omega)
  exact bc8_step _ hn _ hq h
theorem one7 {k : Int32} (h2 : 0 ≤ k.toInt) (h3 : k.toInt ≤ 7) : 0 ≤ ((1 : Int32) <<< (k &&& 31)).toInt ∧ ((1 : Int32) <<< (k &&& 31)).toInt ≤ 255 := by
  obtain ⟨q, hq, rfl⟩ := znI (m := 8) h2 (by omega)
  exact (by decide +kernel : ∀ n, n < 8 → 0 ≤ ((1 : Int32) <<< (nI n &&& 31)).toInt ∧ ((1 : Int32) <<< (nI n &&& 31)).toInt ≤ 255) _ hq
/-- no slot's row is longer than 60 -/
def SI (f : Nat → Nat → Int32) : Prop := ∀ k, (zKd k).1 = 9 → (f k 2).toInt ≤ 60
theorem SI.tr {S : List Nat} {σ τ : zS} (hT : Tr S σ τ) (h0 : 210 ∉ S) (h1 : 212 ∉ S) (h2 : 214 ∉ S) (h3 : 216 ∉ S) (h : SI σ.1) : SI τ.1 := by
  intro k hk
  have e : τ.1 k = σ.1 k := by rcases zslm k (zKd_lt hk (by decide)) hk with rfl | rfl | rfl | rfl <;> (apply hT.2; assumption)
  rw [e]; exact h k hk
theorem SI_p {σ τ : zS} {k j : Nat} {v : Int32} (e : τ = zI σ k (upd (σ.1 k) j v)) (hv : j = 2 → v.toInt ≤ 60) (h : SI σ.1) : SI τ.1 := by
  intro a ha
  by_cases q : a = k
  · subst q
    by_cases q2 : 2 = j
    · subst q2; rw [zI_atI e]; exact hv rfl
    · rw [zI_atN e q2]; exact h a ha
  · have : τ.1 a = σ.1 a := by subst e; exact va_up_ne _ _ q
    rw [this]; exact h a ha
/-- the reader's numbers: place 0 .. 600, length 0 .. 600, the last token is none, starts and ends 0 .. 600 -/
def RD (f : Nat → Nat → Int32) : Prop := (0 ≤ (f 57 9).toInt ∧ (f 57 9).toInt ≤ 600) ∧ (0 ≤ (f 57 6).toInt ∧ (f 57 6).toInt ≤ 600) ∧ f 61 600 = 0 ∧ (∀ j, j < 601 → 0 ≤ (f 63 j).toInt ∧ (f 63 j).toInt ≤ 600) ∧ ∀ j, j < 601 → 0 ≤ (f 64 j).toInt ∧ (f 64 j).toInt ≤ 600
theorem RD.tr {S : List Nat} {σ τ : zS} (hT : Tr S σ τ) (h0 : 57 ∉ S) (h1 : 61 ∉ S) (h2 : 63 ∉ S) (h3 : 64 ∉ S) (h : RD σ.1) : RD τ.1 := by
  unfold RD at h ⊢
  rw [hT.2 57 h0, hT.2 61 h1, hT.2 63 h2, hT.2 64 h3]
  exact h
theorem RD_p {σ τ : zS} {j : Nat} {v : Int32} (e : τ = zI σ 57 (upd (σ.1 57) j v)) (h9 : j = 9 → 0 ≤ v.toInt ∧ v.toInt ≤ 600) (h6 : j = 6 → 0 ≤ v.toInt ∧ v.toInt ≤ 600) (h : RD σ.1) : RD τ.1 := by
  have o1 : ∀ a, a ≠ 57 → τ.1 a = σ.1 a := fun a ha => by subst e; exact va_up_ne _ _ ha
  unfold RD
  rw [o1 61 (by decide), o1 63 (by decide), o1 64 (by decide)]
  refine ⟨?_, ?_, h.2.2⟩
  · by_cases q : 9 = j
    · subst q; rw [zI_atI e]; exact h9 rfl
    · rw [zI_atN e q]; exact h.1
  · by_cases q : 6 = j
    · subst q; rw [zI_atI e]; exact h6 rfl
    · rw [zI_atN e q]; exact h.2.1
theorem RD_k {σ τ : zS} {x v : Int32} (e : τ = zI σ 61 (upd (σ.1 61) x.toNatClampNeg v)) (h0 : x.toInt < 600 ∨ v = 0) (h : RD σ.1) : RD τ.1 := by
  have o1 : ∀ a, a ≠ 61 → τ.1 a = σ.1 a := fun a ha => by subst e; exact va_up_ne _ _ ha
  have e1 : x.toNatClampNeg = x.toInt.toNat := rfl
  unfold RD
  rw [o1 57 (by decide), o1 63 (by decide), o1 64 (by decide)]
  refine ⟨h.1, h.2.1, ?_, h.2.2.2⟩
  by_cases q : 600 = x.toNatClampNeg
  · rw [q, zI_atI e]
    rcases h0 with h0 | h0
    · omega
    · exact h0
  · rw [zI_atN e q]; exact h.2.2.1
theorem RD_s {σ τ : zS} {i : Nat} {v : Int32} (e : τ = zI σ 63 (upd (σ.1 63) i v)) (hv : 0 ≤ v.toInt ∧ v.toInt ≤ 600) (h : RD σ.1) : RD τ.1 := by
  have o1 : ∀ a, a ≠ 63 → τ.1 a = σ.1 a := fun a ha => by subst e; exact va_up_ne _ _ ha
  have r := row_up (A := fun x => 0 ≤ x.toInt ∧ x.toInt ≤ 600) (n := 601) e hv h.2.2.2.1
  unfold RD
  rw [o1 57 (by decide), o1 61 (by decide), o1 64 (by decide)]
  exact ⟨h.1, h.2.1, h.2.2.1, r, h.2.2.2.2⟩
theorem RD_e {σ τ : zS} {i : Nat} {v : Int32} (e : τ = zI σ 64 (upd (σ.1 64) i v)) (hv : 0 ≤ v.toInt ∧ v.toInt ≤ 600) (h : RD σ.1) : RD τ.1 := by
  have o1 : ∀ a, a ≠ 64 → τ.1 a = σ.1 a := fun a ha => by subst e; exact va_up_ne _ _ ha
  have r := row_up (A := fun x => 0 ≤ x.toInt ∧ x.toInt ≤ 600) (n := 601) e hv h.2.2.2.2
  unfold RD
  rw [o1 57 (by decide), o1 61 (by decide), o1 63 (by decide)]
  exact ⟨h.1, h.2.1, h.2.2.1, h.2.2.2.1, r⟩
theorem RD_st {σ : zS} {x : Int32} (h : RD σ.1) (h0 : 0 ≤ x.toInt) (h1 : x.toInt < 601) : 0 ≤ (σ.1 63 x.toNatClampNeg).toInt ∧ (σ.1 63 x.toNatClampNeg).toInt ≤ 600 := by
  have e1 : x.toNatClampNeg = x.toInt.toNat := rfl
  exact h.2.2.2.1 _ (by omega)
theorem RD_en {σ : zS} {x : Int32} (h : RD σ.1) (h0 : 0 ≤ x.toInt) (h1 : x.toInt < 601) : 0 ≤ (σ.1 64 x.toNatClampNeg).toInt ∧ (σ.1 64 x.toNatClampNeg).toInt ≤ 600 := by
  have e1 : x.toNatClampNeg = x.toInt.toNat := rfl
  exact h.2.2.2.2 _ (by omega)
theorem RD_lt {σ : zS} {x : Int32} (h : RD σ.1) (h0 : 0 ≤ x.toInt) (h1 : x.toInt ≤ 600) (hk : ¬ σ.1 61 x.toNatClampNeg = 0) : x.toInt ≤ 599 := by
  have e1 : x.toNatClampNeg = x.toInt.toNat := rfl
  rcases (show x.toInt ≤ 599 ∨ x.toInt = 600 by omega) with q | q
  · exact q
  · exact absurd (by rw [e1, q]; exact h.2.2.1) hk
/-- the value of the token that was passed last -/
def lastv (f : Nat → Nat → Int32) : Int32 := f 62 ((f 57 9).toInt - 1).toNat
theorem ti_mm15 (x : Int32) : 0 ≤ (zmax 0 (zmin 15 x)).toInt ∧ (zmax 0 (zmin 15 x)).toInt ≤ 15 := by
  rw [ti_zmax, ti_zmin]
  simp only [Int32.reduceToInt]
  split <;> split <;> omega
theorem zlen_6 : ∀ i, i < zSn → zlen.getD i 0 ≤ 6 := by decide +kernel
theorem s_J0_length_8abf5 {N : Nat} (hN : 1048576 ≤ N) {x0 : Nat} {σ0 : zS} (hR : RF σ0.2.2) (hi : x0 < zSn) : Ok (f_J0_length_8abf5 N x0 σ0) (fun r => Tr [] σ0 r.2 ∧ (r.1.toInt = ((zlen.getD x0 0 : Nat) : Int) ∧ r.1.toInt ≤ 6)) := by
  have h6 := zlen_6 x0 hi
  refine ⟨_, if_pos hi, Tr.rf, ?_⟩
  show (nI (zlen.getD x0 0)).toInt = _ ∧ _
  rw [nI_toInt (by omega)]
  omega
theorem s_J0_charAt_5068e {N : Nat} (hN : 1048576 ≤ N) {x0 : Nat} {x1 : Int32} {σ0 : zS} (hR : RF σ0.2.2) (hi : x0 < zSn) (h0 : 0 ≤ x1.toInt) (h1 : x1.toInt < ((zlen.getD x0 0 : Nat) : Int)) : Ok (f_J0_charAt_5068e N x0 x1 σ0) (fun r => Tr [] σ0 r.2 ∧ True) := ⟨_, if_pos ⟨hi, h0, h1⟩, Tr.rf, trivial⟩
theorem lastv_adv {σ τ : zS} (hO : Tr [57] σ τ) (h9 : 0 ≤ (σ.1 57 9).toInt) (h : (τ.1 57 9).toInt = (σ.1 57 9).toInt + 1) : lastv τ.1 = σ.1 62 (σ.1 57 9).toNatClampNeg := by
  have e1 : (σ.1 57 9).toNatClampNeg = (σ.1 57 9).toInt.toNat := rfl
  unfold lastv
  rw [h, hO.2 62 (by decide), e1, show (σ.1 57 9).toInt + 1 - 1 = (σ.1 57 9).toInt by omega]
theorem lastv_at {f : Nat → Nat → Int32} (h : 1 ≤ (f 57 9).toInt) : f 62 (f 57 9 - 1).toNatClampNeg = lastv f := by
  have e1 : (f 57 9 - 1).toNatClampNeg = (f 57 9 - 1).toInt.toNat := rfl
  have h2 := ti_hi (f 57 9)
  unfold lastv
  rw [e1, ti_sub]
  simp only [Int32.reduceToInt]
  rw [show ((f 57 9).toInt - 1 + 2147483648) % 4294967296 - 2147483648 = (f 57 9).toInt - 1 by omega]
theorem lastv_tr {S : List Nat} {σ τ : zS} (hO : Tr S σ τ) (h1 : 57 ∉ S) (h2 : 62 ∉ S) : lastv τ.1 = lastv σ.1 := by
  unfold lastv; rw [hO.2 57 h1, hO.2 62 h2]
theorem PN1 {σ τ : zS} {v3 v7 v13 x1 x2 : Int32} (hD0 : RD σ.1) (hO : Tr [57] σ τ) (e3 : v3 = σ.1 61 (σ.1 57 9).toNatClampNeg) (hc4 : v3 = 3) (e7 : v7 = σ.1 62 (σ.1 57 9).toNatClampNeg) (e13 : v13 = σ.1 62 (σ.1 57 9).toNatClampNeg) (h8 : ¬ v7 < x1) (h14 : ¬ x2 < v13) (ha : ¬ (1 : Int32) = 0 → ¬ σ.1 61 (σ.1 57 9).toNatClampNeg = 0 → (τ.1 57 9).toInt = (σ.1 57 9).toInt + 1) : 1 ≤ (τ.1 57 9).toInt ∧ x1.toInt ≤ (lastv τ.1).toInt ∧ (lastv τ.1).toInt ≤ x2.toInt := by
  have hk : ¬ σ.1 61 (σ.1 57 9).toNatClampNeg = 0 := by rw [← e3, hc4]; decide
  have ha := ha (by decide) hk
  have hl := lastv_adv hO hD0.1.1 ha
  have h1 := hD0.1.1
  rw [Int32.lt_iff_toInt_lt] at h8 h14
  refine ⟨by omega, ?_, ?_⟩
  · rw [hl, ← e7]; omega
  · rw [hl, ← e13]; omega
/-- what always holds of the class's numbers -/
def CF (f : Nat → Nat → Int32) : Prop := WI 2 f ∧ WI 28 f ∧ WI 132 f ∧ WI 158 f ∧ WI 184 f ∧ SI f ∧ RD f ∧ (2 ≤ (f 111 8).toInt ∧ (f 111 8).toInt ≤ 1600) ∧ 0 ≤ (f 0 1).toInt ∧ (f 0 1).toInt ≤ 600
theorem nz64 {v : Int32} (h : 0 < v.toInt) : ¬ Int32.toInt64 v = 0 := by
  intro q
  have q2 := congrArg Int64.toInt q
  rw [i64_of] at q2
  have z : (0 : Int64).toInt = 0 := rfl
  omega
end Zq0_0
section Zq0_1
theorem s_J6_bitCount_0f7a4 {N : Nat} (hN : 1048576 ≤ N) {x0 : Int32} {σ0 : zS} (hR : RF σ0.2.2) : Ok (f_J6_bitCount_0f7a4 N x0 σ0) (fun r => Tr [] σ0 r.2 ∧ True) := ok_some ⟨Tr.rf, trivial⟩

theorem s_J13_bitCount_95d88 {N : Nat} (hN : 1048576 ≤ N) {x0 : Int64} {σ0 : zS} (hR : RF σ0.2.2) : Ok (f_J13_bitCount_95d88 N x0 σ0) (fun r => Tr [] σ0 r.2 ∧ True) := ok_some ⟨Tr.rf, trivial⟩

set_option maxHeartbeats 4000000 in
set_option maxRecDepth 100000 in
theorem s_J7_fill_d0a16 {N : Nat} (hN : 1048576 ≤ N) {x0 : Nat} {x1 : Int64} {σ0 : zS} {n : Nat} (hR : RF σ0.2.2) (hk : zKd x0 = (15, n)) (hn : n < 10000) : Ok (f_J7_fill_d0a16 N x0 x1 σ0) (fun r => Tr [] σ0 r.2 ∧ (True)) := by
  have hT : Tr [] σ0 σ0 := Tr.rf
  have hnn := ti_ofNat (n := n) (by omega)
  rw [f_J7_fill_d0a16.eq_1]
  refine ok_aL (n := n) hk ?_
  refine ok_lp (fun t : Int32 × zS => Tr [] σ0 (t.2) ∧ (0 ≤ (t.1).toInt)) (fun t : Int32 × zS => ((n : Int) - (t.1).toInt).toNat) (fun again2 t hI ih6_2 => ?_) N _ (show Tr [] σ0 σ0 ∧ (0 ≤ (0 : Int32).toInt) from ⟨hT, (by first | omega | decide | (simp only [Int32.le_iff_toInt_le, Int32.lt_iff_toInt_lt, ti_add, ti_sub, ti_mul, Int32.reduceToInt] at *; omega))⟩) (show ((n : Int) - (0 : Int32).toInt).toNat < N from (by first | omega | decide | (simp only [Int32.le_iff_toInt_le, Int32.lt_iff_toInt_lt, ti_add, ti_sub, ti_mul, Int32.reduceToInt] at *; omega)))
  obtain ⟨x3_2, σ2⟩ := t
  have hI : Tr [] σ0 σ2 ∧ (0 ≤ x3_2.toInt) := hI
  obtain ⟨hT, hI2⟩ := hI
  rw [F_J7_fill_d0a16_6.eq_1]
  refine ok_if (fun hc3 => ?_) (fun hc3 => ?_)
  · exact ok_some ⟨hT, trivial⟩
  · refine ok_sJ hT hk (by first | omega | decide | (simp only [Int32.le_iff_toInt_le, Int32.lt_iff_toInt_lt, ti_add, ti_sub, ti_mul, Int32.reduceToInt] at *; omega)) (by first | omega | decide | (simp only [Int32.le_iff_toInt_le, Int32.lt_iff_toInt_lt, ti_add, ti_sub, ti_mul, Int32.reduceToInt] at *; omega)) (fun σ4 eσ4 hOσ4 hT => ?_)
    exact ih6_2 (x3_2 + 1, σ4) (show Tr [] σ0 σ4 ∧ (0 ≤ (x3_2 + 1).toInt) from ⟨hT, (by first | omega | decide | (simp only [Int32.le_iff_toInt_le, Int32.lt_iff_toInt_lt, ti_add, ti_sub, ti_mul, Int32.reduceToInt] at *; omega))⟩) (show ((n : Int) - (x3_2 + 1).toInt).toNat < ((n : Int) - x3_2.toInt).toNat from (by first | omega | decide | (simp only [Int32.le_iff_toInt_le, Int32.lt_iff_toInt_lt, ti_add, ti_sub, ti_mul, Int32.reduceToInt] at *; omega)))

theorem ti_su : ∀ n, n < 32 → (((Int32.ofNat n).toUInt32 &&& Int32.toUInt32 31).toBitVec % 32).toNat = n := by decide +kernel
theorem zus_bv (x : Int32) {n : Nat} (hn : n < 32) : (zus x (Int32.ofNat n)).toBitVec = x.toBitVec >>> n := by
  show (x.toUInt32 >>> ((Int32.ofNat n).toUInt32 &&& Int32.toUInt32 31)).toBitVec = _
  rw [UInt32.toBitVec_shiftRight]
  show x.toUInt32.toBitVec >>> (((Int32.ofNat n).toUInt32 &&& Int32.toUInt32 31).toBitVec % 32).toNat = _
  rw [ti_su n hn]
  rfl
theorem ti_cond (x : Int32) : x.toInt = if x.toBitVec.toNat < 2147483648 then (x.toBitVec.toNat : Int) else (x.toBitVec.toNat : Int) - 4294967296 := by
  show x.toBitVec.toInt = _
  rw [BitVec.toInt_eq_toNat_cond]
  have := x.toBitVec.isLt
  split <;> split <;> omega
theorem ti_zus (x : Int32) (n : Nat) (k : Int32) (m : Int) (hn : n < 32) (hk : Int32.ofNat n = k) (hm : ((2 ^ n : Nat) : Int) = m) (h : 0 ≤ x.toInt) : (zus x k).toInt = x.toInt / m := by
  subst hk hm
  have hx := ti_cond x
  have hl := x.toBitVec.isLt
  have e : (zus x (Int32.ofNat n)).toBitVec.toNat = x.toBitVec.toNat / 2 ^ n := by rw [zus_bv x hn, BitVec.toNat_ushiftRight, Nat.shiftRight_eq_div_pow]
  have h1 : x.toBitVec.toNat < 2147483648 := by
    split at hx
    · assumption
    · omega
  rw [if_pos h1] at hx
  have h2 : x.toBitVec.toNat / 2 ^ n ≤ x.toBitVec.toNat := Nat.div_le_self _ _
  rw [ti_toNat (by rw [e]; omega), e, hx]
  exact Int.natCast_ediv _ _
def n62 (y n : Int32) : Int32 := if y ≤ 4 then n + zus y 1 else (n + 2) + zus (zus y 2) 1
def n49 (y n : Int32) : Int32 := if y ≤ 16 then n62 y n else n62 (zus y 4) (n + 4)
def n34 (y n : Int32) : Int32 := if y ≤ 256 then n49 y n else n49 (zus y 8) (n + 8)
def ntz32 (x : Int32) : Int32 := if 0 < ((x ^^^ (-1)) &&& (x - 1)) then (if ((x ^^^ (-1)) &&& (x - 1)) ≤ 65536 then n34 ((x ^^^ (-1)) &&& (x - 1)) 1 else n34 (zus ((x ^^^ (-1)) &&& (x - 1)) 16) (1 + 16)) else ((x ^^^ (-1)) &&& (x - 1)) &&& 32
def ntz64 (x : Int64) : Int32 := if Int64.toInt32 x = 0 then 32 + ntz32 (Int64.toInt32 (zul x 32)) else ntz32 (Int64.toInt32 x)
theorem f_ntz32 (N : Nat) (x : Int32) (σ : zS) : f_J6_numberOfTrailingZeros_0f7a4 N x σ = some (ntz32 x, σ) := by
  have h62 : ∀ y n, J_J6_numberOfTrailingZeros_0f7a4_62 N y n σ = some (n62 y n, σ) := fun y n => by rw [J_J6_numberOfTrailingZeros_0f7a4_62.eq_1, n62]; split <;> rfl
  have h49 : ∀ y n, J_J6_numberOfTrailingZeros_0f7a4_49 N y n σ = some (n49 y n, σ) := fun y n => by rw [J_J6_numberOfTrailingZeros_0f7a4_49.eq_1, n49]; split <;> rw [h62]
  have h34 : ∀ y n, J_J6_numberOfTrailingZeros_0f7a4_34 N y n σ = some (n34 y n, σ) := fun y n => by rw [J_J6_numberOfTrailingZeros_0f7a4_34.eq_1, n34]; split <;> rw [h49]
  rw [f_J6_numberOfTrailingZeros_0f7a4.eq_1, ntz32]
  split
  · split <;> rw [h34]
  · rfl
theorem f_ntz64 (N : Nat) (x : Int64) (σ : zS) : f_J13_numberOfTrailingZeros_95d88 N x σ = some (ntz64 x, σ) := by
  rw [f_J13_numberOfTrailingZeros_95d88.eq_1, ntz64]
  split
  · rw [f_ntz32]; rfl
  · rw [f_ntz32]; rfl
theorem n62_ti {y n : Int32} (hy : 0 < y.toInt) (hn : 0 ≤ n.toInt) (hn2 : n.toInt ≤ 29) : (n62 y n).toInt = if y.toInt ≤ 4 then n.toInt + y.toInt / 2 else n.toInt + 2 + y.toInt / 4 / 2 := by
  have h1 := ti_zus y 1 1 2 (by decide) rfl rfl (by omega)
  have h2 := ti_zus y 2 2 4 (by decide) rfl rfl (by omega)
  have h3 := ti_zus (zus y 2) 1 1 2 (by decide) rfl rfl (by rw [h2]; omega)
  have hh := ti_hi y
  unfold n62
  simp only [Int32.le_iff_toInt_le, Int32.reduceToInt]
  split
  · rw [ti_add, h1]; omega
  · rw [ti_add, ti_add, h3, h2]; simp only [Int32.reduceToInt]; omega
theorem n34_ti {y n : Int32} (hy : 0 < y.toInt) (hn : 0 ≤ n.toInt) (hn2 : n.toInt ≤ 17) (hb : (n.toInt = 1 ∧ y.toInt ≤ 65536) ∨ (n.toInt = 17 ∧ y.toInt ≤ 32767)) : 0 ≤ (n34 y n).toInt ∧ (n34 y n).toInt ≤ 31 := by
  have h49 : ∀ y n : Int32, 0 < y.toInt → 0 ≤ n.toInt → n.toInt ≤ 25 → (n49 y n).toInt = if y.toInt ≤ 16 then (if y.toInt ≤ 4 then n.toInt + y.toInt / 2 else n.toInt + 2 + y.toInt / 4 / 2) else (if y.toInt / 16 ≤ 4 then n.toInt + 4 + y.toInt / 16 / 2 else n.toInt + 4 + 2 + y.toInt / 16 / 4 / 2) := by
    intro y n h1 h2 h3
    have h4 := ti_zus y 4 4 16 (by decide) rfl rfl (by omega)
    unfold n49
    simp only [Int32.le_iff_toInt_le, Int32.reduceToInt]
    split
    · rw [n62_ti h1 h2 (by omega)]
    · have e : (n + 4).toInt = n.toInt + 4 := by rw [ti_add]; simp only [Int32.reduceToInt]; omega
      rw [n62_ti (by rw [h4]; omega) (by rw [e]; omega) (by rw [e]; omega), h4, e]
  have h8 := ti_zus y 8 8 256 (by decide) rfl rfl (by omega)
  unfold n34
  simp only [Int32.le_iff_toInt_le, Int32.reduceToInt]
  split
  · rw [h49 y n hy hn (by omega)]
    split <;> split <;> omega
  · have e : (n + 8).toInt = n.toInt + 8 := by rw [ti_add]; simp only [Int32.reduceToInt]; omega
    rw [h49 _ _ (by rw [h8]; omega) (by rw [e]; omega) (by rw [e]; omega), h8, e]
    split <;> split <;> omega
theorem low_nn {x : Int32} (h : ¬ x = 0) : 0 ≤ ((x ^^^ (-1)) &&& (x - 1)).toInt := by
  have hx := ti_cond x
  have hl := x.toBitVec.isLt
  have hx0 : ¬ x.toInt = 0 := fun q => h (Int32.toInt_inj.mp q)
  have key : ((x ^^^ (-1)) &&& (x - 1)).toBitVec.toNat < 2147483648 := by
    rw [Int32.toBitVec_and, BitVec.toNat_and]
    by_cases hp : 0 < x.toInt
    · have e : (x - 1).toInt = x.toInt - 1 := by rw [ti_sub]; simp only [Int32.reduceToInt]; have := ti_hi x; omega
      have c := ti_cond (x - 1)
      refine Nat.lt_of_le_of_lt Nat.and_le_right ?_
      split at c
      · assumption
      · have := (x - 1).toBitVec.isLt; omega
    · refine Nat.lt_of_le_of_lt Nat.and_le_left ?_
      have e : (x ^^^ (-1)).toBitVec = ~~~ x.toBitVec := by
        rw [Int32.toBitVec_xor]
        show x.toBitVec ^^^ BitVec.allOnes 32 = _
        rw [BitVec.xor_allOnes]
      rw [e, BitVec.toNat_not]
      split at hx <;> omega
  rw [ti_toNat key]
  omega
theorem ntz32_b (x : Int32) : 0 ≤ (ntz32 x).toInt ∧ (ntz32 x).toInt ≤ 32 ∧ (¬ x = 0 → (ntz32 x).toInt ≤ 31) := by
  have hh := ti_hi ((x ^^^ (-1)) &&& (x - 1))
  have hnn := low_nn (x := x)
  unfold ntz32
  generalize (x ^^^ (-1)) &&& (x - 1) = y at *
  simp only [Int32.le_iff_toInt_le, Int32.lt_iff_toInt_lt, Int32.reduceToInt]
  split
  · rename_i hp
    have h16 := ti_zus y 16 16 65536 (by decide) rfl rfl (by omega)
    split
    · have := n34_ti (y := y) (n := 1) hp (by decide) (by decide) (Or.inl ⟨by decide, by assumption⟩)
      omega
    · have := n34_ti (y := zus y 16) (n := 1 + 16) (by rw [h16]; omega) (by decide) (by decide) (Or.inr ⟨by decide, by rw [h16]; omega⟩)
      omega
  · have := ti_and0 y (m := 32) (by decide)
    rw [show Int32.ofNat 32 = 32 from rfl] at this
    refine ⟨this.1, by omega, fun h0 => ?_⟩
    have e : y = 0 := Int32.toInt_inj.mp (by simp only [Int32.reduceToInt]; have := hnn h0; omega)
    rw [e]
    decide
theorem two_halves {x : Int64} (h1 : Int64.toInt32 x = 0) (h2 : Int64.toInt32 (zul x 32) = 0) : x = 0 := by
  have e0 : ∀ y : Int64, (Int64.toInt32 y).toBitVec.toNat = y.toBitVec.toNat % 4294967296 := by
    intro y
    rw [Int64.toBitVec_toInt32, BitVec.signExtend_eq_setWidth_of_le _ (by decide), BitVec.toNat_setWidth]
  have e1 : (zul x 32).toBitVec = x.toBitVec >>> 32 := by
    show (x.toUInt64 >>> ((32 : Int32).toInt64.toUInt64 &&& Int64.toUInt64 63)).toBitVec = _
    rw [UInt64.toBitVec_shiftRight]
    show x.toUInt64.toBitVec >>> (((32 : Int32).toInt64.toUInt64 &&& Int64.toUInt64 63).toBitVec % 64).toNat = _
    rw [show (((32 : Int32).toInt64.toUInt64 &&& Int64.toUInt64 63).toBitVec % 64).toNat = 32 by decide]
    rfl
  have a1 := e0 x
  have a2 := e0 (zul x 32)
  rw [h1] at a1
  rw [h2, e1, BitVec.toNat_ushiftRight, Nat.shiftRight_eq_div_pow] at a2
  have z : (0 : Int32).toBitVec.toNat = 0 := rfl
  rw [z] at a1 a2
  have hl := x.toBitVec.isLt
  apply Int64.toBitVec_inj.1
  apply BitVec.eq_of_toNat_eq
  show x.toBitVec.toNat = 0
  omega
theorem s_J13_numberOfTrailingZeros_95d88 {N : Nat} (hN : 1048576 ≤ N) {x0 : Int64} {σ0 : zS} (hR : RF σ0.2.2) : Ok (f_J13_numberOfTrailingZeros_95d88 N x0 σ0) (fun r => Tr [] σ0 r.2 ∧ (0 ≤ r.1.toInt ∧ r.1.toInt ≤ 64 ∧ (¬ x0 = 0 → r.1.toInt ≤ 63))) := by
  refine ⟨_, f_ntz64 N x0 σ0, Tr.rf, ?_⟩
  show 0 ≤ (ntz64 x0).toInt ∧ (ntz64 x0).toInt ≤ 64 ∧ (¬ x0 = 0 → (ntz64 x0).toInt ≤ 63)
  have a1 := ntz32_b (Int64.toInt32 (zul x0 32))
  have a2 := ntz32_b (Int64.toInt32 x0)
  unfold ntz64
  split
  · rename_i h0
    have e : (32 + ntz32 (Int64.toInt32 (zul x0 32))).toInt = 32 + (ntz32 (Int64.toInt32 (zul x0 32))).toInt := by rw [ti_add]; simp only [Int32.reduceToInt]; omega
    rw [e]
    refine ⟨by omega, by omega, fun hx => ?_⟩
    have := a1.2.2 (fun q => hx (two_halves h0 q))
    omega
  · rename_i h0
    have := a2.2.2 h0
    omega

set_option maxHeartbeats 4000000 in
set_option maxRecDepth 100000 in
theorem s_X2_copyFrom {N : Nat} (hN : 1048576 ≤ N) {x0 : Nat} {x1 : Nat} {σ0 : zS}  (hR : RF σ0.2.2) (h_x0 : (zKd x0).1 = 2) (h_x1 : (zKd x1).1 = 2) : Ok (f_X2_copyFrom N x0 x1 σ0) (fun r => Tr [] σ0 r.2 ∧ (True)) := by
  have hT : Tr [] σ0 σ0 := Tr.rf
  rw [f_X2_copyFrom.eq_1]
  refine ok_gR hT h_x1 (fam_R hR h_x1).1 ?_
  refine ok_gR hT h_x0 (fam_R hR h_x0).1 ?_
  refine ok_cpJ hT (fam_R hR h_x1).2 (fam_R hR h_x0).2 (by first | omega | decide | (simp only [Int32.le_iff_toInt_le, Int32.lt_iff_toInt_lt, ti_add, ti_sub, ti_mul, Int32.reduceToInt] at *; omega)) (by first | omega | decide | (simp only [Int32.le_iff_toInt_le, Int32.lt_iff_toInt_lt, ti_add, ti_sub, ti_mul, Int32.reduceToInt] at *; omega)) (by first | omega | decide | (simp only [Int32.le_iff_toInt_le, Int32.lt_iff_toInt_lt, ti_add, ti_sub, ti_mul, Int32.reduceToInt] at *; omega)) (by first | omega | decide | (simp only [Int32.le_iff_toInt_le, Int32.lt_iff_toInt_lt, ti_add, ti_sub, ti_mul, Int32.reduceToInt] at *; omega)) (by first | omega | decide | (simp only [Int32.le_iff_toInt_le, Int32.lt_iff_toInt_lt, ti_add, ti_sub, ti_mul, Int32.reduceToInt] at *; omega)) (fun σ3 eσ3 hOσ3 hT => ?_)
  exact ok_some ⟨hT, trivial⟩

set_option maxHeartbeats 4000000 in
set_option maxRecDepth 100000 in
theorem s_X2_clear {N : Nat} (hN : 1048576 ≤ N) {x0 : Nat} {σ0 : zS}  (hR : RF σ0.2.2) (h_x0 : (zKd x0).1 = 2) : Ok (f_X2_clear N x0 σ0) (fun r => Tr [] σ0 r.2 ∧ (True)) := by
  have hT : Tr [] σ0 σ0 := Tr.rf
  rw [f_X2_clear.eq_1]
  refine ok_gR hT h_x0 (fam_R hR h_x0).1 ?_
  refine ok_zbT (Q := fun V σ => True) hT (s_J7_fill_d0a16 hN (hR.tr hT) (fam_R hR h_x0).2 (by decide)) (fun _ h9 => absurd h9 List.not_mem_nil) (fun v2 σ3 hOσ3 hT hqv2 => ?_)
  exact ok_some ⟨hT, trivial⟩

set_option maxHeartbeats 4000000 in
set_option maxRecDepth 100000 in
theorem s_X2_join {N : Nat} (hN : 1048576 ≤ N) {x0 : Nat} {x1 : Nat} {σ0 : zS}  (hR : RF σ0.2.2) (h_x0 : (zKd x0).1 = 2) (h_x1 : (zKd x1).1 = 2) : Ok (f_X2_join N x0 x1 σ0) (fun r => Tr [] σ0 r.2 ∧ (True)) := by
  have hT : Tr [] σ0 σ0 := Tr.rf
  rw [f_X2_join.eq_1]
  refine ok_lp (fun t : Int32 × zS => Tr [] σ0 (t.2) ∧ (0 ≤ (t.1).toInt)) (fun t : Int32 × zS => ((16 : Int32).toInt - (t.1).toInt).toNat) (fun again1 t hI ih2_1 => ?_) N _ (show Tr [] σ0 σ0 ∧ (0 ≤ (0 : Int32).toInt) from ⟨hT, (by first | omega | decide | (simp only [Int32.le_iff_toInt_le, Int32.lt_iff_toInt_lt, ti_add, ti_sub, ti_mul, Int32.reduceToInt] at *; omega))⟩) (show ((16 : Int32).toInt - (0 : Int32).toInt).toNat < N from (by first | omega | decide | (simp only [Int32.le_iff_toInt_le, Int32.lt_iff_toInt_lt, ti_add, ti_sub, ti_mul, Int32.reduceToInt] at *; omega)))
  obtain ⟨x2_1, σ1⟩ := t
  have hI : Tr [] σ0 σ1 ∧ (0 ≤ x2_1.toInt) := hI
  obtain ⟨hT, hI1⟩ := hI
  rw [F_X2_join_2.eq_1]
  refine ok_if (fun hc2 => ?_) (fun hc2 => ?_)
  · exact ok_some ⟨hT, trivial⟩
  · refine ok_gR hT h_x0 (fam_R hR h_x0).1 ?_
    refine ok_aJ (fam_R hR h_x0).2 (by first | omega | decide | (simp only [Int32.le_iff_toInt_le, Int32.lt_iff_toInt_lt, ti_add, ti_sub, ti_mul, Int32.reduceToInt] at *; omega)) (by first | omega | decide | (simp only [Int32.le_iff_toInt_le, Int32.lt_iff_toInt_lt, ti_add, ti_sub, ti_mul, Int32.reduceToInt] at *; omega)) ?_
    generalize σ1.2.1 (x0 + 1) (Int32.toNatClampNeg (x2_1)) = v4
    refine ok_gR hT h_x1 (fam_R hR h_x1).1 ?_
    refine ok_aJ (fam_R hR h_x1).2 (by first | omega | decide | (simp only [Int32.le_iff_toInt_le, Int32.lt_iff_toInt_lt, ti_add, ti_sub, ti_mul, Int32.reduceToInt] at *; omega)) (by first | omega | decide | (simp only [Int32.le_iff_toInt_le, Int32.lt_iff_toInt_lt, ti_add, ti_sub, ti_mul, Int32.reduceToInt] at *; omega)) ?_
    generalize σ1.2.1 (x1 + 1) (Int32.toNatClampNeg (x2_1)) = v6
    refine ok_sJ hT (fam_R hR h_x0).2 (by first | omega | decide | (simp only [Int32.le_iff_toInt_le, Int32.lt_iff_toInt_lt, ti_add, ti_sub, ti_mul, Int32.reduceToInt] at *; omega)) (by first | omega | decide | (simp only [Int32.le_iff_toInt_le, Int32.lt_iff_toInt_lt, ti_add, ti_sub, ti_mul, Int32.reduceToInt] at *; omega)) (fun σ7 eσ7 hOσ7 hT => ?_)
    exact ih2_1 (x2_1 + 1, σ7) (show Tr [] σ0 σ7 ∧ (0 ≤ (x2_1 + 1).toInt) from ⟨hT, (by first | omega | decide | (simp only [Int32.le_iff_toInt_le, Int32.lt_iff_toInt_lt, ti_add, ti_sub, ti_mul, Int32.reduceToInt] at *; omega))⟩) (show ((16 : Int32).toInt - (x2_1 + 1).toInt).toNat < ((16 : Int32).toInt - x2_1.toInt).toNat from (by first | omega | decide | (simp only [Int32.le_iff_toInt_le, Int32.lt_iff_toInt_lt, ti_add, ti_sub, ti_mul, Int32.reduceToInt] at *; omega)))

set_option maxHeartbeats 4000000 in
set_option maxRecDepth 100000 in
theorem s_X2_cutBy {N : Nat} (hN : 1048576 ≤ N) {x0 : Nat} {x1 : Nat} {σ0 : zS}  (hR : RF σ0.2.2) (h_x0 : (zKd x0).1 = 2) (h_x1 : (zKd x1).1 = 2) : Ok (f_X2_cutBy N x0 x1 σ0) (fun r => Tr [] σ0 r.2 ∧ (True)) := by
  have hT : Tr [] σ0 σ0 := Tr.rf
  rw [f_X2_cutBy.eq_1]
  refine ok_lp (fun t : Int32 × zS => Tr [] σ0 (t.2) ∧ (0 ≤ (t.1).toInt)) (fun t : Int32 × zS => ((16 : Int32).toInt - (t.1).toInt).toNat) (fun again1 t hI ih2_1 => ?_) N _ (show Tr [] σ0 σ0 ∧ (0 ≤ (0 : Int32).toInt) from ⟨hT, (by first | omega | decide | (simp only [Int32.le_iff_toInt_le, Int32.lt_iff_toInt_lt, ti_add, ti_sub, ti_mul, Int32.reduceToInt] at *; omega))⟩) (show ((16 : Int32).toInt - (0 : Int32).toInt).toNat < N from (by first | omega | decide | (simp only [Int32.le_iff_toInt_le, Int32.lt_iff_toInt_lt, ti_add, ti_sub, ti_mul, Int32.reduceToInt] at *; omega)))
  obtain ⟨x2_1, σ1⟩ := t
  have hI : Tr [] σ0 σ1 ∧ (0 ≤ x2_1.toInt) := hI
  obtain ⟨hT, hI1⟩ := hI
  rw [F_X2_cutBy_2.eq_1]
  refine ok_if (fun hc2 => ?_) (fun hc2 => ?_)
  · exact ok_some ⟨hT, trivial⟩
  · refine ok_gR hT h_x0 (fam_R hR h_x0).1 ?_
    refine ok_aJ (fam_R hR h_x0).2 (by first | omega | decide | (simp only [Int32.le_iff_toInt_le, Int32.lt_iff_toInt_lt, ti_add, ti_sub, ti_mul, Int32.reduceToInt] at *; omega)) (by first | omega | decide | (simp only [Int32.le_iff_toInt_le, Int32.lt_iff_toInt_lt, ti_add, ti_sub, ti_mul, Int32.reduceToInt] at *; omega)) ?_
    generalize σ1.2.1 (x0 + 1) (Int32.toNatClampNeg (x2_1)) = v4
    refine ok_gR hT h_x1 (fam_R hR h_x1).1 ?_
    refine ok_aJ (fam_R hR h_x1).2 (by first | omega | decide | (simp only [Int32.le_iff_toInt_le, Int32.lt_iff_toInt_lt, ti_add, ti_sub, ti_mul, Int32.reduceToInt] at *; omega)) (by first | omega | decide | (simp only [Int32.le_iff_toInt_le, Int32.lt_iff_toInt_lt, ti_add, ti_sub, ti_mul, Int32.reduceToInt] at *; omega)) ?_
    generalize σ1.2.1 (x1 + 1) (Int32.toNatClampNeg (x2_1)) = v6
    refine ok_sJ hT (fam_R hR h_x0).2 (by first | omega | decide | (simp only [Int32.le_iff_toInt_le, Int32.lt_iff_toInt_lt, ti_add, ti_sub, ti_mul, Int32.reduceToInt] at *; omega)) (by first | omega | decide | (simp only [Int32.le_iff_toInt_le, Int32.lt_iff_toInt_lt, ti_add, ti_sub, ti_mul, Int32.reduceToInt] at *; omega)) (fun σ7 eσ7 hOσ7 hT => ?_)
    exact ih2_1 (x2_1 + 1, σ7) (show Tr [] σ0 σ7 ∧ (0 ≤ (x2_1 + 1).toInt) from ⟨hT, (by first | omega | decide | (simp only [Int32.le_iff_toInt_le, Int32.lt_iff_toInt_lt, ti_add, ti_sub, ti_mul, Int32.reduceToInt] at *; omega))⟩) (show ((16 : Int32).toInt - (x2_1 + 1).toInt).toNat < ((16 : Int32).toInt - x2_1.toInt).toNat from (by first | omega | decide | (simp only [Int32.le_iff_toInt_le, Int32.lt_iff_toInt_lt, ti_add, ti_sub, ti_mul, Int32.reduceToInt] at *; omega)))

set_option maxHeartbeats 4000000 in
set_option maxRecDepth 100000 in
theorem s_X2_takeAway {N : Nat} (hN : 1048576 ≤ N) {x0 : Nat} {x1 : Nat} {σ0 : zS}  (hR : RF σ0.2.2) (h_x0 : (zKd x0).1 = 2) (h_x1 : (zKd x1).1 = 2) : Ok (f_X2_takeAway N x0 x1 σ0) (fun r => Tr [] σ0 r.2 ∧ (True)) := by
  have hT : Tr [] σ0 σ0 := Tr.rf
  rw [f_X2_takeAway.eq_1]
  refine ok_lp (fun t : Int32 × zS => Tr [] σ0 (t.2) ∧ (0 ≤ (t.1).toInt)) (fun t : Int32 × zS => ((16 : Int32).toInt - (t.1).toInt).toNat) (fun again1 t hI ih2_1 => ?_) N _ (show Tr [] σ0 σ0 ∧ (0 ≤ (0 : Int32).toInt) from ⟨hT, (by first | omega | decide | (simp only [Int32.le_iff_toInt_le, Int32.lt_iff_toInt_lt, ti_add, ti_sub, ti_mul, Int32.reduceToInt] at *; omega))⟩) (show ((16 : Int32).toInt - (0 : Int32).toInt).toNat < N from (by first | omega | decide | (simp only [Int32.le_iff_toInt_le, Int32.lt_iff_toInt_lt, ti_add, ti_sub, ti_mul, Int32.reduceToInt] at *; omega)))
  obtain ⟨x2_1, σ1⟩ := t
  have hI : Tr [] σ0 σ1 ∧ (0 ≤ x2_1.toInt) := hI
  obtain ⟨hT, hI1⟩ := hI
  rw [F_X2_takeAway_2.eq_1]
  refine ok_if (fun hc2 => ?_) (fun hc2 => ?_)
  · exact ok_some ⟨hT, trivial⟩
  · refine ok_gR hT h_x0 (fam_R hR h_x0).1 ?_
    refine ok_aJ (fam_R hR h_x0).2 (by first | omega | decide | (simp only [Int32.le_iff_toInt_le, Int32.lt_iff_toInt_lt, ti_add, ti_sub, ti_mul, Int32.reduceToInt] at *; omega)) (by first | omega | decide | (simp only [Int32.le_iff_toInt_le, Int32.lt_iff_toInt_lt, ti_add, ti_sub, ti_mul, Int32.reduceToInt] at *; omega)) ?_
    generalize σ1.2.1 (x0 + 1) (Int32.toNatClampNeg (x2_1)) = v4
    refine ok_gR hT h_x1 (fam_R hR h_x1).1 ?_
    refine ok_aJ (fam_R hR h_x1).2 (by first | omega | decide | (simp only [Int32.le_iff_toInt_le, Int32.lt_iff_toInt_lt, ti_add, ti_sub, ti_mul, Int32.reduceToInt] at *; omega)) (by first | omega | decide | (simp only [Int32.le_iff_toInt_le, Int32.lt_iff_toInt_lt, ti_add, ti_sub, ti_mul, Int32.reduceToInt] at *; omega)) ?_
    generalize σ1.2.1 (x1 + 1) (Int32.toNatClampNeg (x2_1)) = v6
    refine ok_sJ hT (fam_R hR h_x0).2 (by first | omega | decide | (simp only [Int32.le_iff_toInt_le, Int32.lt_iff_toInt_lt, ti_add, ti_sub, ti_mul, Int32.reduceToInt] at *; omega)) (by first | omega | decide | (simp only [Int32.le_iff_toInt_le, Int32.lt_iff_toInt_lt, ti_add, ti_sub, ti_mul, Int32.reduceToInt] at *; omega)) (fun σ7 eσ7 hOσ7 hT => ?_)
    exact ih2_1 (x2_1 + 1, σ7) (show Tr [] σ0 σ7 ∧ (0 ≤ (x2_1 + 1).toInt) from ⟨hT, (by first | omega | decide | (simp only [Int32.le_iff_toInt_le, Int32.lt_iff_toInt_lt, ti_add, ti_sub, ti_mul, Int32.reduceToInt] at *; omega))⟩) (show ((16 : Int32).toInt - (x2_1 + 1).toInt).toNat < ((16 : Int32).toInt - x2_1.toInt).toNat from (by first | omega | decide | (simp only [Int32.le_iff_toInt_le, Int32.lt_iff_toInt_lt, ti_add, ti_sub, ti_mul, Int32.reduceToInt] at *; omega)))

set_option maxHeartbeats 4000000 in
set_option maxRecDepth 100000 in
theorem s_X2_holds {N : Nat} (hN : 1048576 ≤ N) {x0 : Nat} {x1 : Int32} {σ0 : zS}  (hR : RF σ0.2.2) (h_x0 : (zKd x0).1 = 2) : Ok (f_X2_holds N x0 x1 σ0) (fun r => Tr [] σ0 r.2 ∧ (r.1 = 0 ∨ r.1 = 1)) := by
  have hT : Tr [] σ0 σ0 := Tr.rf
  rw [f_X2_holds.eq_1]
  refine ok_if (fun hc1 => ?_) (fun hc1 => ?_)
  · exact ok_rZ (Or.inl rfl) ⟨hT, (show (0 : Int32) = 0 ∨ (0 : Int32) = 1 from by first | exact Or.inl rfl | exact Or.inr rfl)⟩
  · refine ok_if (fun hc2 => ?_) (fun hc2 => ?_)
    · exact ok_rZ (Or.inl rfl) ⟨hT, (show (0 : Int32) = 0 ∨ (0 : Int32) = 1 from by first | exact Or.inl rfl | exact Or.inr rfl)⟩
    · refine ok_gR hT h_x0 (fam_R hR h_x0).1 ?_
      refine ok_aJ (fam_R hR h_x0).2 (by have q9 := ti_shr x1 (n := 6) (by decide); rw [show Int32.ofNat 6 = 6 from rfl] at q9; simp only [Int32.le_iff_toInt_le, Int32.lt_iff_toInt_lt, ti_add, ti_sub, ti_mul, Int32.reduceToInt] at *; omega) (by have q9 := ti_shr x1 (n := 6) (by decide); rw [show Int32.ofNat 6 = 6 from rfl] at q9; simp only [Int32.le_iff_toInt_le, Int32.lt_iff_toInt_lt, ti_add, ti_sub, ti_mul, Int32.reduceToInt] at *; omega) ?_
      generalize σ0.2.1 (x0 + 1) (Int32.toNatClampNeg ((x1 : Int32) >>> (6 &&& 31))) = v4
      refine ok_if (fun hc5 => ?_) (fun hc5 => ?_)
      · exact ok_rZ (Or.inl rfl) ⟨hT, (show (0 : Int32) = 0 ∨ (0 : Int32) = 1 from by first | exact Or.inl rfl | exact Or.inr rfl)⟩
      · exact ok_rZ (Or.inr rfl) ⟨hT, (show (1 : Int32) = 0 ∨ (1 : Int32) = 1 from by first | exact Or.inl rfl | exact Or.inr rfl)⟩

set_option maxHeartbeats 4000000 in
set_option maxRecDepth 100000 in
theorem s_X2_include {N : Nat} (hN : 1048576 ≤ N) {x0 : Nat} {x1 : Int32} {σ0 : zS}  (hR : RF σ0.2.2) (h_x0 : (zKd x0).1 = 2) : Ok (f_X2_include N x0 x1 σ0) (fun r => Tr [] σ0 r.2 ∧ (True)) := by
  have hT : Tr [] σ0 σ0 := Tr.rf
  rw [f_X2_include.eq_1]
  refine ok_if (fun hc1 => ?_) (fun hc1 => ?_)
  · exact ok_some ⟨hT, trivial⟩
  · refine ok_if (fun hc2 => ?_) (fun hc2 => ?_)
    · exact ok_some ⟨hT, trivial⟩
    · refine ok_gR hT h_x0 (fam_R hR h_x0).1 ?_
      refine ok_aJ (fam_R hR h_x0).2 (by have q9 := ti_shr x1 (n := 6) (by decide); rw [show Int32.ofNat 6 = 6 from rfl] at q9; simp only [Int32.le_iff_toInt_le, Int32.lt_iff_toInt_lt, ti_add, ti_sub, ti_mul, Int32.reduceToInt] at *; omega) (by have q9 := ti_shr x1 (n := 6) (by decide); rw [show Int32.ofNat 6 = 6 from rfl] at q9; simp only [Int32.le_iff_toInt_le, Int32.lt_iff_toInt_lt, ti_add, ti_sub, ti_mul, Int32.reduceToInt] at *; omega) ?_
      generalize σ0.2.1 (x0 + 1) (Int32.toNatClampNeg ((x1 : Int32) >>> (6 &&& 31))) = v4
      refine ok_sJ hT (fam_R hR h_x0).2 (by have q9 := ti_shr x1 (n := 6) (by decide); rw [show Int32.ofNat 6 = 6 from rfl] at q9; simp only [Int32.le_iff_toInt_le, Int32.lt_iff_toInt_lt, ti_add, ti_sub, ti_mul, Int32.reduceToInt] at *; omega) (by have q9 := ti_shr x1 (n := 6) (by decide); rw [show Int32.ofNat 6 = 6 from rfl] at q9; simp only [Int32.le_iff_toInt_le, Int32.lt_iff_toInt_lt, ti_add, ti_sub, ti_mul, Int32.reduceToInt] at *; omega) (fun σ5 eσ5 hOσ5 hT => ?_)
      exact ok_some ⟨hT, trivial⟩

set_option maxHeartbeats 4000000 in
set_option maxRecDepth 100000 in
theorem s_X2_exclude {N : Nat} (hN : 1048576 ≤ N) {x0 : Nat} {x1 : Int32} {σ0 : zS}  (hR : RF σ0.2.2) (h_x0 : (zKd x0).1 = 2) : Ok (f_X2_exclude N x0 x1 σ0) (fun r => Tr [] σ0 r.2 ∧ (True)) := by
  have hT : Tr [] σ0 σ0 := Tr.rf
  rw [f_X2_exclude.eq_1]
  refine ok_if (fun hc1 => ?_) (fun hc1 => ?_)
  · exact ok_some ⟨hT, trivial⟩
  · refine ok_if (fun hc2 => ?_) (fun hc2 => ?_)
    · exact ok_some ⟨hT, trivial⟩
    · refine ok_gR hT h_x0 (fam_R hR h_x0).1 ?_
      refine ok_aJ (fam_R hR h_x0).2 (by have q9 := ti_shr x1 (n := 6) (by decide); rw [show Int32.ofNat 6 = 6 from rfl] at q9; simp only [Int32.le_iff_toInt_le, Int32.lt_iff_toInt_lt, ti_add, ti_sub, ti_mul, Int32.reduceToInt] at *; omega) (by have q9 := ti_shr x1 (n := 6) (by decide); rw [show Int32.ofNat 6 = 6 from rfl] at q9; simp only [Int32.le_iff_toInt_le, Int32.lt_iff_toInt_lt, ti_add, ti_sub, ti_mul, Int32.reduceToInt] at *; omega) ?_
      generalize σ0.2.1 (x0 + 1) (Int32.toNatClampNeg ((x1 : Int32) >>> (6 &&& 31))) = v4
      refine ok_sJ hT (fam_R hR h_x0).2 (by have q9 := ti_shr x1 (n := 6) (by decide); rw [show Int32.ofNat 6 = 6 from rfl] at q9; simp only [Int32.le_iff_toInt_le, Int32.lt_iff_toInt_lt, ti_add, ti_sub, ti_mul, Int32.reduceToInt] at *; omega) (by have q9 := ti_shr x1 (n := 6) (by decide); rw [show Int32.ofNat 6 = 6 from rfl] at q9; simp only [Int32.le_iff_toInt_le, Int32.lt_iff_toInt_lt, ti_add, ti_sub, ti_mul, Int32.reduceToInt] at *; omega) (fun σ5 eσ5 hOσ5 hT => ?_)
      exact ok_some ⟨hT, trivial⟩

set_option maxHeartbeats 4000000 in
set_option maxRecDepth 100000 in
theorem s_X2_isEmpty {N : Nat} (hN : 1048576 ≤ N) {x0 : Nat} {σ0 : zS}  (hR : RF σ0.2.2) (h_x0 : (zKd x0).1 = 2) : Ok (f_X2_isEmpty N x0 σ0) (fun r => Tr [] σ0 r.2 ∧ (r.1 = 0 ∨ r.1 = 1)) := by
  have hT : Tr [] σ0 σ0 := Tr.rf
  rw [f_X2_isEmpty.eq_1]
  refine ok_lp (fun t : Int32 × zS => Tr [] σ0 (t.2) ∧ (0 ≤ (t.1).toInt)) (fun t : Int32 × zS => ((16 : Int32).toInt - (t.1).toInt).toNat) (fun again1 t hI ih2_1 => ?_) N _ (show Tr [] σ0 σ0 ∧ (0 ≤ (0 : Int32).toInt) from ⟨hT, (by first | omega | decide | (simp only [Int32.le_iff_toInt_le, Int32.lt_iff_toInt_lt, ti_add, ti_sub, ti_mul, Int32.reduceToInt] at *; omega))⟩) (show ((16 : Int32).toInt - (0 : Int32).toInt).toNat < N from (by first | omega | decide | (simp only [Int32.le_iff_toInt_le, Int32.lt_iff_toInt_lt, ti_add, ti_sub, ti_mul, Int32.reduceToInt] at *; omega)))
  obtain ⟨x1_1, σ1⟩ := t
  have hI : Tr [] σ0 σ1 ∧ (0 ≤ x1_1.toInt) := hI
  obtain ⟨hT, hI1⟩ := hI
  rw [F_X2_isEmpty_2.eq_1]
  refine ok_if (fun hc2 => ?_) (fun hc2 => ?_)
  · exact ok_rZ (Or.inr rfl) ⟨hT, (show (1 : Int32) = 0 ∨ (1 : Int32) = 1 from by first | exact Or.inl rfl | exact Or.inr rfl)⟩
  · refine ok_gR hT h_x0 (fam_R hR h_x0).1 ?_
    refine ok_aJ (fam_R hR h_x0).2 (by first | omega | decide | (simp only [Int32.le_iff_toInt_le, Int32.lt_iff_toInt_lt, ti_add, ti_sub, ti_mul, Int32.reduceToInt] at *; omega)) (by first | omega | decide | (simp only [Int32.le_iff_toInt_le, Int32.lt_iff_toInt_lt, ti_add, ti_sub, ti_mul, Int32.reduceToInt] at *; omega)) ?_
    generalize σ1.2.1 (x0 + 1) (Int32.toNatClampNeg (x1_1)) = v4
    refine ok_if (fun hc5 => ?_) (fun hc5 => ?_)
    · exact ih2_1 (x1_1 + 1, σ1) (show Tr [] σ0 σ1 ∧ (0 ≤ (x1_1 + 1).toInt) from ⟨hT, (by first | omega | decide | (simp only [Int32.le_iff_toInt_le, Int32.lt_iff_toInt_lt, ti_add, ti_sub, ti_mul, Int32.reduceToInt] at *; omega))⟩) (show ((16 : Int32).toInt - (x1_1 + 1).toInt).toNat < ((16 : Int32).toInt - x1_1.toInt).toNat from (by first | omega | decide | (simp only [Int32.le_iff_toInt_le, Int32.lt_iff_toInt_lt, ti_add, ti_sub, ti_mul, Int32.reduceToInt] at *; omega)))
    · exact ok_rZ (Or.inl rfl) ⟨hT, (show (0 : Int32) = 0 ∨ (0 : Int32) = 1 from by first | exact Or.inl rfl | exact Or.inr rfl)⟩

set_option maxHeartbeats 4000000 in
set_option maxRecDepth 100000 in
theorem s_X2_sameAs {N : Nat} (hN : 1048576 ≤ N) {x0 : Nat} {x1 : Nat} {σ0 : zS}  (hR : RF σ0.2.2) (h_x0 : (zKd x0).1 = 2) (h_x1 : (zKd x1).1 = 2) : Ok (f_X2_sameAs N x0 x1 σ0) (fun r => Tr [] σ0 r.2 ∧ (r.1 = 0 ∨ r.1 = 1)) := by
  have hT : Tr [] σ0 σ0 := Tr.rf
  rw [f_X2_sameAs.eq_1]
  refine ok_lp (fun t : Int32 × zS => Tr [] σ0 (t.2) ∧ (0 ≤ (t.1).toInt)) (fun t : Int32 × zS => ((16 : Int32).toInt - (t.1).toInt).toNat) (fun again1 t hI ih2_1 => ?_) N _ (show Tr [] σ0 σ0 ∧ (0 ≤ (0 : Int32).toInt) from ⟨hT, (by first | omega | decide | (simp only [Int32.le_iff_toInt_le, Int32.lt_iff_toInt_lt, ti_add, ti_sub, ti_mul, Int32.reduceToInt] at *; omega))⟩) (show ((16 : Int32).toInt - (0 : Int32).toInt).toNat < N from (by first | omega | decide | (simp only [Int32.le_iff_toInt_le, Int32.lt_iff_toInt_lt, ti_add, ti_sub, ti_mul, Int32.reduceToInt] at *; omega)))
  obtain ⟨x2_1, σ1⟩ := t
  have hI : Tr [] σ0 σ1 ∧ (0 ≤ x2_1.toInt) := hI
  obtain ⟨hT, hI1⟩ := hI
  rw [F_X2_sameAs_2.eq_1]
  refine ok_if (fun hc2 => ?_) (fun hc2 => ?_)
  · exact ok_rZ (Or.inr rfl) ⟨hT, (show (1 : Int32) = 0 ∨ (1 : Int32) = 1 from by first | exact Or.inl rfl | exact Or.inr rfl)⟩
  · refine ok_gR hT h_x0 (fam_R hR h_x0).1 ?_
    refine ok_aJ (fam_R hR h_x0).2 (by first | omega | decide | (simp only [Int32.le_iff_toInt_le, Int32.lt_iff_toInt_lt, ti_add, ti_sub, ti_mul, Int32.reduceToInt] at *; omega)) (by first | omega | decide | (simp only [Int32.le_iff_toInt_le, Int32.lt_iff_toInt_lt, ti_add, ti_sub, ti_mul, Int32.reduceToInt] at *; omega)) ?_
    generalize σ1.2.1 (x0 + 1) (Int32.toNatClampNeg (x2_1)) = v4
    refine ok_gR hT h_x1 (fam_R hR h_x1).1 ?_
    refine ok_aJ (fam_R hR h_x1).2 (by first | omega | decide | (simp only [Int32.le_iff_toInt_le, Int32.lt_iff_toInt_lt, ti_add, ti_sub, ti_mul, Int32.reduceToInt] at *; omega)) (by first | omega | decide | (simp only [Int32.le_iff_toInt_le, Int32.lt_iff_toInt_lt, ti_add, ti_sub, ti_mul, Int32.reduceToInt] at *; omega)) ?_
    generalize σ1.2.1 (x1 + 1) (Int32.toNatClampNeg (x2_1)) = v6
    refine ok_if (fun hc7 => ?_) (fun hc7 => ?_)
    · exact ih2_1 (x2_1 + 1, σ1) (show Tr [] σ0 σ1 ∧ (0 ≤ (x2_1 + 1).toInt) from ⟨hT, (by first | omega | decide | (simp only [Int32.le_iff_toInt_le, Int32.lt_iff_toInt_lt, ti_add, ti_sub, ti_mul, Int32.reduceToInt] at *; omega))⟩) (show ((16 : Int32).toInt - (x2_1 + 1).toInt).toNat < ((16 : Int32).toInt - x2_1.toInt).toNat from (by first | omega | decide | (simp only [Int32.le_iff_toInt_le, Int32.lt_iff_toInt_lt, ti_add, ti_sub, ti_mul, Int32.reduceToInt] at *; omega)))
    · exact ok_rZ (Or.inl rfl) ⟨hT, (show (0 : Int32) = 0 ∨ (0 : Int32) = 1 from by first | exact Or.inl rfl | exact Or.inr rfl)⟩

set_option maxHeartbeats 4000000 in
set_option maxRecDepth 100000 in
theorem s_X2_tally {N : Nat} (hN : 1048576 ≤ N) {x0 : Nat} {σ0 : zS}  (hR : RF σ0.2.2) (h_x0 : (zKd x0).1 = 2) : Ok (f_X2_tally N x0 σ0) (fun r => Tr [] σ0 r.2 ∧ (True)) := by
  have hT : Tr [] σ0 σ0 := Tr.rf
  rw [f_X2_tally.eq_1]
  refine ok_lp (fun t : Int32 × Int32 × zS => Tr [] σ0 (t.2.2) ∧ (0 ≤ (t.2.1).toInt)) (fun t : Int32 × Int32 × zS => ((16 : Int32).toInt - (t.2.1).toInt).toNat) (fun again1 t hI ih4_1 => ?_) N _ (show Tr [] σ0 σ0 ∧ (0 ≤ (0 : Int32).toInt) from ⟨hT, (by first | omega | decide | (simp only [Int32.le_iff_toInt_le, Int32.lt_iff_toInt_lt, ti_add, ti_sub, ti_mul, Int32.reduceToInt] at *; omega))⟩) (show ((16 : Int32).toInt - (0 : Int32).toInt).toNat < N from (by first | omega | decide | (simp only [Int32.le_iff_toInt_le, Int32.lt_iff_toInt_lt, ti_add, ti_sub, ti_mul, Int32.reduceToInt] at *; omega)))
  obtain ⟨x1_1, x2_1, σ1⟩ := t
  have hI : Tr [] σ0 σ1 ∧ (0 ≤ x2_1.toInt) := hI
  obtain ⟨hT, hI1⟩ := hI
  rw [F_X2_tally_4.eq_1]
  refine ok_if (fun hc2 => ?_) (fun hc2 => ?_)
  · exact ok_some ⟨hT, trivial⟩
  · refine ok_gR hT h_x0 (fam_R hR h_x0).1 ?_
    refine ok_aJ (fam_R hR h_x0).2 (by first | omega | decide | (simp only [Int32.le_iff_toInt_le, Int32.lt_iff_toInt_lt, ti_add, ti_sub, ti_mul, Int32.reduceToInt] at *; omega)) (by first | omega | decide | (simp only [Int32.le_iff_toInt_le, Int32.lt_iff_toInt_lt, ti_add, ti_sub, ti_mul, Int32.reduceToInt] at *; omega)) ?_
    generalize σ1.2.1 (x0 + 1) (Int32.toNatClampNeg (x2_1)) = v4
    refine ok_zbT (Q := fun V σ => True) hT (s_J13_bitCount_95d88 hN (hR.tr hT) ) (fun _ h9 => absurd h9 List.not_mem_nil) (fun v5 σ6 hOσ6 hT hqv5 => ?_)
    exact ih4_1 (x1_1 + v5, x2_1 + 1, σ6) (show Tr [] σ0 σ6 ∧ (0 ≤ (x2_1 + 1).toInt) from ⟨hT, (by first | omega | decide | (simp only [Int32.le_iff_toInt_le, Int32.lt_iff_toInt_lt, ti_add, ti_sub, ti_mul, Int32.reduceToInt] at *; omega))⟩) (show ((16 : Int32).toInt - (x2_1 + 1).toInt).toNat < ((16 : Int32).toInt - x2_1.toInt).toNat from (by first | omega | decide | (simp only [Int32.le_iff_toInt_le, Int32.lt_iff_toInt_lt, ti_add, ti_sub, ti_mul, Int32.reduceToInt] at *; omega)))

set_option maxHeartbeats 4000000 in
set_option maxRecDepth 100000 in
theorem s_X2_becomeAll {N : Nat} (hN : 1048576 ≤ N) {x0 : Nat} {x1 : Int32} {σ0 : zS}  (hR : RF σ0.2.2) (h_x0 : (zKd x0).1 = 2) : Ok (f_X2_becomeAll N x0 x1 σ0) (fun r => Tr [] σ0 r.2 ∧ (True)) := by
  have hT : Tr [] σ0 σ0 := Tr.rf
  rw [f_X2_becomeAll.eq_1]
  refine ok_gC h_x0 ?_
  refine ok_zbT (Q := fun V σ => True) hT (s_X2_clear hN (hR.tr hT) h_x0) (fun _ h9 => absurd h9 List.not_mem_nil) (fun v1 σ2 hOσ2 hT hqv1 => ?_)
  refine ok_if (fun hc3 => ?_) (fun hc3 => ?_)
  · refine ok_lp (fun t : Int32 × zS => Tr [] σ0 (t.2) ∧ (0 ≤ (t.1).toInt)) (fun t : Int32 × zS => ((16 : Int32).toInt - (t.1).toInt).toNat) (fun again4 t hI ih26_4 => ?_) N _ (show Tr [] σ0 σ2 ∧ (0 ≤ (0 : Int32).toInt) from ⟨hT, (by first | omega | decide | (simp only [Int32.le_iff_toInt_le, Int32.lt_iff_toInt_lt, ti_add, ti_sub, ti_mul, Int32.reduceToInt] at *; omega))⟩) (show ((16 : Int32).toInt - (0 : Int32).toInt).toNat < N from (by first | omega | decide | (simp only [Int32.le_iff_toInt_le, Int32.lt_iff_toInt_lt, ti_add, ti_sub, ti_mul, Int32.reduceToInt] at *; omega)))
    obtain ⟨x2_4, σ4⟩ := t
    have hI : Tr [] σ0 σ4 ∧ (0 ≤ x2_4.toInt) := hI
    obtain ⟨hT, hI4⟩ := hI
    rw [F_X2_becomeAll_26.eq_1]
    refine ok_if (fun hc5 => ?_) (fun hc5 => ?_)
    · exact ok_some ⟨hT, trivial⟩
    · refine ok_if (fun hc6 => ?_) (fun hc6 => ?_)
      · exact ok_some ⟨hT, trivial⟩
      · refine ok_gR hT h_x0 (fam_R hR h_x0).1 ?_
        refine ok_sJ hT (fam_R hR h_x0).2 (by first | omega | decide | (simp only [Int32.le_iff_toInt_le, Int32.lt_iff_toInt_lt, ti_add, ti_sub, ti_mul, Int32.reduceToInt] at *; omega)) (by first | omega | decide | (simp only [Int32.le_iff_toInt_le, Int32.lt_iff_toInt_lt, ti_add, ti_sub, ti_mul, Int32.reduceToInt] at *; omega)) (fun σ8 eσ8 hOσ8 hT => ?_)
        exact ih26_4 (x2_4 + 1, σ8) (show Tr [] σ0 σ8 ∧ (0 ≤ (x2_4 + 1).toInt) from ⟨hT, (by first | omega | decide | (simp only [Int32.le_iff_toInt_le, Int32.lt_iff_toInt_lt, ti_add, ti_sub, ti_mul, Int32.reduceToInt] at *; omega))⟩) (show ((16 : Int32).toInt - (x2_4 + 1).toInt).toNat < ((16 : Int32).toInt - x2_4.toInt).toNat from (by first | omega | decide | (simp only [Int32.le_iff_toInt_le, Int32.lt_iff_toInt_lt, ti_add, ti_sub, ti_mul, Int32.reduceToInt] at *; omega)))
  · refine ok_gR hT h_x0 (fam_R hR h_x0).1 ?_
    refine ok_sJ hT (fam_R hR h_x0).2 (by first | omega | decide | (simp only [Int32.le_iff_toInt_le, Int32.lt_iff_toInt_lt, ti_add, ti_sub, ti_mul, Int32.reduceToInt] at *; omega)) (by first | omega | decide | (simp only [Int32.le_iff_toInt_le, Int32.lt_iff_toInt_lt, ti_add, ti_sub, ti_mul, Int32.reduceToInt] at *; omega)) (fun σ10 eσ10 hOσ10 hT => ?_)
    exact ok_some ⟨hT, trivial⟩

set_option maxHeartbeats 4000000 in
set_option maxRecDepth 100000 in
theorem s_X2_keepWithout {N : Nat} (hN : 1048576 ≤ N) {x0 : Nat} {x1 : Int32} {σ0 : zS}  (hR : RF σ0.2.2) (h_x0 : (zKd x0).1 = 2) : Ok (f_X2_keepWithout N x0 x1 σ0) (fun r => Tr [] σ0 r.2 ∧ (True)) := by
  have hT : Tr [] σ0 σ0 := Tr.rf
  rw [f_X2_keepWithout.eq_1]
  refine ok_if (fun hc1 => ?_) (fun hc1 => ?_)
  · exact ok_some ⟨hT, trivial⟩
  · refine ok_if (fun hc2 => ?_) (fun hc2 => ?_)
    · refine ok_lp (fun t : Int32 × zS => Tr [] σ0 (t.2) ∧ (0 ≤ (t.1).toInt)) (fun t : Int32 × zS => ((16 : Int32).toInt - (t.1).toInt).toNat) (fun again3 t hI ih13_3 => ?_) N _ (show Tr [] σ0 σ0 ∧ (0 ≤ (0 : Int32).toInt) from ⟨hT, (by first | omega | decide | (simp only [Int32.le_iff_toInt_le, Int32.lt_iff_toInt_lt, ti_add, ti_sub, ti_mul, Int32.reduceToInt] at *; omega))⟩) (show ((16 : Int32).toInt - (0 : Int32).toInt).toNat < N from (by first | omega | decide | (simp only [Int32.le_iff_toInt_le, Int32.lt_iff_toInt_lt, ti_add, ti_sub, ti_mul, Int32.reduceToInt] at *; omega)))
      obtain ⟨x2_3, σ3⟩ := t
      have hI : Tr [] σ0 σ3 ∧ (0 ≤ x2_3.toInt) := hI
      obtain ⟨hT, hI3⟩ := hI
      rw [F_X2_keepWithout_13.eq_1]
      refine ok_if (fun hc4 => ?_) (fun hc4 => ?_)
      · exact ok_some ⟨hT, trivial⟩
      · refine ok_if (fun hc5 => ?_) (fun hc5 => ?_)
        · refine ok_if (fun hc6 => ?_) (fun hc6 => ?_)
          · exact ih13_3 (x2_3 + 1, σ3) (show Tr [] σ0 σ3 ∧ (0 ≤ (x2_3 + 1).toInt) from ⟨hT, (by first | omega | decide | (simp only [Int32.le_iff_toInt_le, Int32.lt_iff_toInt_lt, ti_add, ti_sub, ti_mul, Int32.reduceToInt] at *; omega))⟩) (show ((16 : Int32).toInt - (x2_3 + 1).toInt).toNat < ((16 : Int32).toInt - x2_3.toInt).toNat from (by first | omega | decide | (simp only [Int32.le_iff_toInt_le, Int32.lt_iff_toInt_lt, ti_add, ti_sub, ti_mul, Int32.reduceToInt] at *; omega)))
          · refine ok_gR hT h_x0 (fam_R hR h_x0).1 ?_
            refine ok_sJ hT (fam_R hR h_x0).2 (by first | omega | decide | (simp only [Int32.le_iff_toInt_le, Int32.lt_iff_toInt_lt, ti_add, ti_sub, ti_mul, Int32.reduceToInt] at *; omega)) (by first | omega | decide | (simp only [Int32.le_iff_toInt_le, Int32.lt_iff_toInt_lt, ti_add, ti_sub, ti_mul, Int32.reduceToInt] at *; omega)) (fun σ8 eσ8 hOσ8 hT => ?_)
            exact ih13_3 (x2_3 + 1, σ8) (show Tr [] σ0 σ8 ∧ (0 ≤ (x2_3 + 1).toInt) from ⟨hT, (by first | omega | decide | (simp only [Int32.le_iff_toInt_le, Int32.lt_iff_toInt_lt, ti_add, ti_sub, ti_mul, Int32.reduceToInt] at *; omega))⟩) (show ((16 : Int32).toInt - (x2_3 + 1).toInt).toNat < ((16 : Int32).toInt - x2_3.toInt).toNat from (by first | omega | decide | (simp only [Int32.le_iff_toInt_le, Int32.lt_iff_toInt_lt, ti_add, ti_sub, ti_mul, Int32.reduceToInt] at *; omega)))
        · refine ok_gR hT h_x0 (fam_R hR h_x0).1 ?_
          refine ok_aJ (fam_R hR h_x0).2 (by first | omega | decide | (simp only [Int32.le_iff_toInt_le, Int32.lt_iff_toInt_lt, ti_add, ti_sub, ti_mul, Int32.reduceToInt] at *; omega)) (by first | omega | decide | (simp only [Int32.le_iff_toInt_le, Int32.lt_iff_toInt_lt, ti_add, ti_sub, ti_mul, Int32.reduceToInt] at *; omega)) ?_
          generalize σ3.2.1 (x0 + 1) (Int32.toNatClampNeg (x2_3)) = v10
          refine ok_aW (by first | omega | decide | (simp only [Int32.le_iff_toInt_le, Int32.lt_iff_toInt_lt, ti_add, ti_sub, ti_mul, Int32.reduceToInt] at *; omega)) (by first | omega | decide | (simp only [Int32.le_iff_toInt_le, Int32.lt_iff_toInt_lt, ti_add, ti_sub, ti_mul, Int32.reduceToInt] at *; omega)) ?_
          generalize zWo (Int32.toNatClampNeg (x1)) = v11
          refine ok_sJ hT (fam_R hR h_x0).2 (by first | omega | decide | (simp only [Int32.le_iff_toInt_le, Int32.lt_iff_toInt_lt, ti_add, ti_sub, ti_mul, Int32.reduceToInt] at *; omega)) (by first | omega | decide | (simp only [Int32.le_iff_toInt_le, Int32.lt_iff_toInt_lt, ti_add, ti_sub, ti_mul, Int32.reduceToInt] at *; omega)) (fun σ12 eσ12 hOσ12 hT => ?_)
          exact ih13_3 (x2_3 + 1, σ12) (show Tr [] σ0 σ12 ∧ (0 ≤ (x2_3 + 1).toInt) from ⟨hT, (by first | omega | decide | (simp only [Int32.le_iff_toInt_le, Int32.lt_iff_toInt_lt, ti_add, ti_sub, ti_mul, Int32.reduceToInt] at *; omega))⟩) (show ((16 : Int32).toInt - (x2_3 + 1).toInt).toNat < ((16 : Int32).toInt - x2_3.toInt).toNat from (by first | omega | decide | (simp only [Int32.le_iff_toInt_le, Int32.lt_iff_toInt_lt, ti_add, ti_sub, ti_mul, Int32.reduceToInt] at *; omega)))
    · exact ok_some ⟨hT, trivial⟩

set_option maxHeartbeats 4000000 in
set_option maxRecDepth 100000 in
theorem s_X2_raise {N : Nat} (hN : 1048576 ≤ N) {x0 : Nat} {x1 : Int32} {σ0 : zS}  (hR : RF σ0.2.2) (h_x0 : (zKd x0).1 = 2) : Ok (f_X2_raise N x0 x1 σ0) (fun r => Tr [] σ0 r.2 ∧ (True)) := by
  have hT : Tr [] σ0 σ0 := Tr.rf
  rw [f_X2_raise.eq_1]
  refine ok_if (fun hc1 => ?_) (fun hc1 => ?_)
  · exact ok_some ⟨hT, trivial⟩
  · refine ok_if (fun hc2 => ?_) (fun hc2 => ?_)
    · refine ok_if (fun hc3 => ?_) (fun hc3 => ?_)
      · have q1 := ti_one10 (x := x1 - 6) (by simp only [ti_sub, Int32.le_iff_toInt_le, Int32.lt_iff_toInt_lt, Int32.reduceToInt] at *; omega) (by simp only [ti_sub, Int32.le_iff_toInt_le, Int32.lt_iff_toInt_lt, Int32.reduceToInt] at *; omega)
        refine ok_lp (fun t : Int32 × zS => Tr [] σ0 (t.2) ∧ (0 ≤ (t.1).toInt ∧ (t.1).toInt ≤ 16 ∧ 1 ≤ ((1 : Int32) <<< ((x1 - 6) &&& 31)).toInt ∧ ((1 : Int32) <<< ((x1 - 6) &&& 31)).toInt ≤ 1024)) (fun t : Int32 × zS => (16 - (t.1).toInt).toNat) (fun again4 t hI ih66_4 => ?_) N _ (show Tr [] σ0 σ0 ∧ (0 ≤ (0 : Int32).toInt ∧ (0 : Int32).toInt ≤ 16 ∧ 1 ≤ ((1 : Int32) <<< ((x1 - 6) &&& 31)).toInt ∧ ((1 : Int32) <<< ((x1 - 6) &&& 31)).toInt ≤ 1024) from ⟨hT, (by first | omega | decide | (simp only [Int32.le_iff_toInt_le, Int32.lt_iff_toInt_lt, ti_add, ti_sub, ti_mul, Int32.reduceToInt] at *; omega))⟩) (show (16 - (0 : Int32).toInt).toNat < N from (by first | omega | decide | (simp only [Int32.le_iff_toInt_le, Int32.lt_iff_toInt_lt, ti_add, ti_sub, ti_mul, Int32.reduceToInt] at *; omega)))
        obtain ⟨x3_4, σ4⟩ := t
        have hI : Tr [] σ0 σ4 ∧ (0 ≤ x3_4.toInt ∧ x3_4.toInt ≤ 16 ∧ 1 ≤ ((1 : Int32) <<< ((x1 - 6) &&& 31)).toInt ∧ ((1 : Int32) <<< ((x1 - 6) &&& 31)).toInt ≤ 1024) := hI
        obtain ⟨hT, hI4⟩ := hI
        rw [F_X2_raise_66.eq_1]
        refine ok_if (fun hc5 => ?_) (fun hc5 => ?_)
        · exact ok_some ⟨hT, trivial⟩
        · refine ok_if (fun hc6 => ?_) (fun hc6 => ?_)
          · refine ok_gR hT h_x0 (fam_R hR h_x0).1 ?_
            refine ok_aJ (fam_R hR h_x0).2 (by first | omega | decide | (simp only [Int32.le_iff_toInt_le, Int32.lt_iff_toInt_lt, ti_add, ti_sub, ti_mul, Int32.reduceToInt] at *; omega)) (by first | omega | decide | (simp only [Int32.le_iff_toInt_le, Int32.lt_iff_toInt_lt, ti_add, ti_sub, ti_mul, Int32.reduceToInt] at *; omega)) ?_
            generalize σ4.2.1 (x0 + 1) (Int32.toNatClampNeg (x3_4 + ((1 : Int32) <<< ((x1 - 6) &&& 31)))) = v8
            refine ok_gR hT h_x0 (fam_R hR h_x0).1 ?_
            refine ok_aJ (fam_R hR h_x0).2 (by first | omega | decide | (simp only [Int32.le_iff_toInt_le, Int32.lt_iff_toInt_lt, ti_add, ti_sub, ti_mul, Int32.reduceToInt] at *; omega)) (by first | omega | decide | (simp only [Int32.le_iff_toInt_le, Int32.lt_iff_toInt_lt, ti_add, ti_sub, ti_mul, Int32.reduceToInt] at *; omega)) ?_
            generalize σ4.2.1 (x0 + 1) (Int32.toNatClampNeg (x3_4)) = v10
            refine ok_sJ hT (fam_R hR h_x0).2 (by first | omega | decide | (simp only [Int32.le_iff_toInt_le, Int32.lt_iff_toInt_lt, ti_add, ti_sub, ti_mul, Int32.reduceToInt] at *; omega)) (by first | omega | decide | (simp only [Int32.le_iff_toInt_le, Int32.lt_iff_toInt_lt, ti_add, ti_sub, ti_mul, Int32.reduceToInt] at *; omega)) (fun σ11 eσ11 hOσ11 hT => ?_)
            exact ih66_4 (x3_4 + 1, σ11) (show Tr [] σ0 σ11 ∧ (0 ≤ (x3_4 + 1).toInt ∧ (x3_4 + 1).toInt ≤ 16 ∧ 1 ≤ ((1 : Int32) <<< ((x1 - 6) &&& 31)).toInt ∧ ((1 : Int32) <<< ((x1 - 6) &&& 31)).toInt ≤ 1024) from ⟨hT, (by first | omega | decide | (simp only [Int32.le_iff_toInt_le, Int32.lt_iff_toInt_lt, ti_add, ti_sub, ti_mul, Int32.reduceToInt] at *; omega))⟩) (show (16 - (x3_4 + 1).toInt).toNat < (16 - x3_4.toInt).toNat from (by first | omega | decide | (simp only [Int32.le_iff_toInt_le, Int32.lt_iff_toInt_lt, ti_add, ti_sub, ti_mul, Int32.reduceToInt] at *; omega)))
          · exact ih66_4 (x3_4 + 1, σ4) (show Tr [] σ0 σ4 ∧ (0 ≤ (x3_4 + 1).toInt ∧ (x3_4 + 1).toInt ≤ 16 ∧ 1 ≤ ((1 : Int32) <<< ((x1 - 6) &&& 31)).toInt ∧ ((1 : Int32) <<< ((x1 - 6) &&& 31)).toInt ≤ 1024) from ⟨hT, (by first | omega | decide | (simp only [Int32.le_iff_toInt_le, Int32.lt_iff_toInt_lt, ti_add, ti_sub, ti_mul, Int32.reduceToInt] at *; omega))⟩) (show (16 - (x3_4 + 1).toInt).toNat < (16 - x3_4.toInt).toNat from (by first | omega | decide | (simp only [Int32.le_iff_toInt_le, Int32.lt_iff_toInt_lt, ti_add, ti_sub, ti_mul, Int32.reduceToInt] at *; omega)))
      · refine ok_lp (fun t : Int32 × zS => Tr [] σ0 (t.2) ∧ (0 ≤ (t.1).toInt)) (fun t : Int32 × zS => ((16 : Int32).toInt - (t.1).toInt).toNat) (fun again12 t hI ih19_12 => ?_) N _ (show Tr [] σ0 σ0 ∧ (0 ≤ (0 : Int32).toInt) from ⟨hT, (by first | omega | decide | (simp only [Int32.le_iff_toInt_le, Int32.lt_iff_toInt_lt, ti_add, ti_sub, ti_mul, Int32.reduceToInt] at *; omega))⟩) (show ((16 : Int32).toInt - (0 : Int32).toInt).toNat < N from (by first | omega | decide | (simp only [Int32.le_iff_toInt_le, Int32.lt_iff_toInt_lt, ti_add, ti_sub, ti_mul, Int32.reduceToInt] at *; omega)))
        obtain ⟨x2_12, σ12⟩ := t
        have hI : Tr [] σ0 σ12 ∧ (0 ≤ x2_12.toInt) := hI
        obtain ⟨hT, hI12⟩ := hI
        rw [F_X2_raise_19.eq_1]
        refine ok_if (fun hc13 => ?_) (fun hc13 => ?_)
        · exact ok_some ⟨hT, trivial⟩
        · refine ok_gR hT h_x0 (fam_R hR h_x0).1 ?_
          refine ok_aJ (fam_R hR h_x0).2 (by first | omega | decide | (simp only [Int32.le_iff_toInt_le, Int32.lt_iff_toInt_lt, ti_add, ti_sub, ti_mul, Int32.reduceToInt] at *; omega)) (by first | omega | decide | (simp only [Int32.le_iff_toInt_le, Int32.lt_iff_toInt_lt, ti_add, ti_sub, ti_mul, Int32.reduceToInt] at *; omega)) ?_
          generalize σ12.2.1 (x0 + 1) (Int32.toNatClampNeg (x2_12)) = v15
          refine ok_gR hT h_x0 (fam_R hR h_x0).1 ?_
          refine ok_aJ (fam_R hR h_x0).2 (by first | omega | decide | (simp only [Int32.le_iff_toInt_le, Int32.lt_iff_toInt_lt, ti_add, ti_sub, ti_mul, Int32.reduceToInt] at *; omega)) (by first | omega | decide | (simp only [Int32.le_iff_toInt_le, Int32.lt_iff_toInt_lt, ti_add, ti_sub, ti_mul, Int32.reduceToInt] at *; omega)) ?_
          generalize σ12.2.1 (x0 + 1) (Int32.toNatClampNeg (x2_12)) = v17
          refine ok_aW (by first | omega | decide | (simp only [Int32.le_iff_toInt_le, Int32.lt_iff_toInt_lt, ti_add, ti_sub, ti_mul, Int32.reduceToInt] at *; omega)) (by first | omega | decide | (simp only [Int32.le_iff_toInt_le, Int32.lt_iff_toInt_lt, ti_add, ti_sub, ti_mul, Int32.reduceToInt] at *; omega)) ?_
          generalize zWo (Int32.toNatClampNeg (x1)) = v18
          refine ok_sJ hT (fam_R hR h_x0).2 (by first | omega | decide | (simp only [Int32.le_iff_toInt_le, Int32.lt_iff_toInt_lt, ti_add, ti_sub, ti_mul, Int32.reduceToInt] at *; omega)) (by first | omega | decide | (simp only [Int32.le_iff_toInt_le, Int32.lt_iff_toInt_lt, ti_add, ti_sub, ti_mul, Int32.reduceToInt] at *; omega)) (fun σ19 eσ19 hOσ19 hT => ?_)
          exact ih19_12 (x2_12 + 1, σ19) (show Tr [] σ0 σ19 ∧ (0 ≤ (x2_12 + 1).toInt) from ⟨hT, (by first | omega | decide | (simp only [Int32.le_iff_toInt_le, Int32.lt_iff_toInt_lt, ti_add, ti_sub, ti_mul, Int32.reduceToInt] at *; omega))⟩) (show ((16 : Int32).toInt - (x2_12 + 1).toInt).toNat < ((16 : Int32).toInt - x2_12.toInt).toNat from (by first | omega | decide | (simp only [Int32.le_iff_toInt_le, Int32.lt_iff_toInt_lt, ti_add, ti_sub, ti_mul, Int32.reduceToInt] at *; omega)))
    · exact ok_some ⟨hT, trivial⟩

set_option maxHeartbeats 4000000 in
set_option maxRecDepth 100000 in
theorem s_X2_lower {N : Nat} (hN : 1048576 ≤ N) {x0 : Nat} {x1 : Int32} {σ0 : zS}  (hR : RF σ0.2.2) (h_x0 : (zKd x0).1 = 2) : Ok (f_X2_lower N x0 x1 σ0) (fun r => Tr [] σ0 r.2 ∧ (True)) := by
  have hT : Tr [] σ0 σ0 := Tr.rf
  rw [f_X2_lower.eq_1]
  refine ok_if (fun hc1 => ?_) (fun hc1 => ?_)
  · exact ok_some ⟨hT, trivial⟩
  · refine ok_if (fun hc2 => ?_) (fun hc2 => ?_)
    · refine ok_if (fun hc3 => ?_) (fun hc3 => ?_)
      · have q1 := ti_one10 (x := x1 - 6) (by simp only [ti_sub, Int32.le_iff_toInt_le, Int32.lt_iff_toInt_lt, Int32.reduceToInt] at *; omega) (by simp only [ti_sub, Int32.le_iff_toInt_le, Int32.lt_iff_toInt_lt, Int32.reduceToInt] at *; omega)
        refine ok_lp (fun t : Int32 × zS => Tr [] σ0 (t.2) ∧ (0 ≤ (t.1).toInt ∧ (t.1).toInt ≤ 16 ∧ 1 ≤ ((1 : Int32) <<< ((x1 - 6) &&& 31)).toInt ∧ ((1 : Int32) <<< ((x1 - 6) &&& 31)).toInt ≤ 1024)) (fun t : Int32 × zS => (16 - (t.1).toInt).toNat) (fun again4 t hI ih66_4 => ?_) N _ (show Tr [] σ0 σ0 ∧ (0 ≤ (0 : Int32).toInt ∧ (0 : Int32).toInt ≤ 16 ∧ 1 ≤ ((1 : Int32) <<< ((x1 - 6) &&& 31)).toInt ∧ ((1 : Int32) <<< ((x1 - 6) &&& 31)).toInt ≤ 1024) from ⟨hT, (by first | omega | decide | (simp only [Int32.le_iff_toInt_le, Int32.lt_iff_toInt_lt, ti_add, ti_sub, ti_mul, Int32.reduceToInt] at *; omega))⟩) (show (16 - (0 : Int32).toInt).toNat < N from (by first | omega | decide | (simp only [Int32.le_iff_toInt_le, Int32.lt_iff_toInt_lt, ti_add, ti_sub, ti_mul, Int32.reduceToInt] at *; omega)))
        obtain ⟨x3_4, σ4⟩ := t
        have hI : Tr [] σ0 σ4 ∧ (0 ≤ x3_4.toInt ∧ x3_4.toInt ≤ 16 ∧ 1 ≤ ((1 : Int32) <<< ((x1 - 6) &&& 31)).toInt ∧ ((1 : Int32) <<< ((x1 - 6) &&& 31)).toInt ≤ 1024) := hI
        obtain ⟨hT, hI4⟩ := hI
        rw [F_X2_lower_66.eq_1]
        refine ok_if (fun hc5 => ?_) (fun hc5 => ?_)
        · exact ok_some ⟨hT, trivial⟩
        · refine ok_if (fun hc6 => ?_) (fun hc6 => ?_)
          · refine ok_gR hT h_x0 (fam_R hR h_x0).1 ?_
            refine ok_aJ (fam_R hR h_x0).2 (by first | omega | decide | (simp only [Int32.le_iff_toInt_le, Int32.lt_iff_toInt_lt, ti_add, ti_sub, ti_mul, Int32.reduceToInt] at *; omega)) (by first | omega | decide | (simp only [Int32.le_iff_toInt_le, Int32.lt_iff_toInt_lt, ti_add, ti_sub, ti_mul, Int32.reduceToInt] at *; omega)) ?_
            generalize σ4.2.1 (x0 + 1) (Int32.toNatClampNeg (x3_4)) = v8
            refine ok_gR hT h_x0 (fam_R hR h_x0).1 ?_
            refine ok_aJ (fam_R hR h_x0).2 (by first | omega | decide | (simp only [Int32.le_iff_toInt_le, Int32.lt_iff_toInt_lt, ti_add, ti_sub, ti_mul, Int32.reduceToInt] at *; omega)) (by first | omega | decide | (simp only [Int32.le_iff_toInt_le, Int32.lt_iff_toInt_lt, ti_add, ti_sub, ti_mul, Int32.reduceToInt] at *; omega)) ?_
            generalize σ4.2.1 (x0 + 1) (Int32.toNatClampNeg (x3_4 + ((1 : Int32) <<< ((x1 - 6) &&& 31)))) = v10
            refine ok_sJ hT (fam_R hR h_x0).2 (by first | omega | decide | (simp only [Int32.le_iff_toInt_le, Int32.lt_iff_toInt_lt, ti_add, ti_sub, ti_mul, Int32.reduceToInt] at *; omega)) (by first | omega | decide | (simp only [Int32.le_iff_toInt_le, Int32.lt_iff_toInt_lt, ti_add, ti_sub, ti_mul, Int32.reduceToInt] at *; omega)) (fun σ11 eσ11 hOσ11 hT => ?_)
            exact ih66_4 (x3_4 + 1, σ11) (show Tr [] σ0 σ11 ∧ (0 ≤ (x3_4 + 1).toInt ∧ (x3_4 + 1).toInt ≤ 16 ∧ 1 ≤ ((1 : Int32) <<< ((x1 - 6) &&& 31)).toInt ∧ ((1 : Int32) <<< ((x1 - 6) &&& 31)).toInt ≤ 1024) from ⟨hT, (by first | omega | decide | (simp only [Int32.le_iff_toInt_le, Int32.lt_iff_toInt_lt, ti_add, ti_sub, ti_mul, Int32.reduceToInt] at *; omega))⟩) (show (16 - (x3_4 + 1).toInt).toNat < (16 - x3_4.toInt).toNat from (by first | omega | decide | (simp only [Int32.le_iff_toInt_le, Int32.lt_iff_toInt_lt, ti_add, ti_sub, ti_mul, Int32.reduceToInt] at *; omega)))
          · exact ih66_4 (x3_4 + 1, σ4) (show Tr [] σ0 σ4 ∧ (0 ≤ (x3_4 + 1).toInt ∧ (x3_4 + 1).toInt ≤ 16 ∧ 1 ≤ ((1 : Int32) <<< ((x1 - 6) &&& 31)).toInt ∧ ((1 : Int32) <<< ((x1 - 6) &&& 31)).toInt ≤ 1024) from ⟨hT, (by first | omega | decide | (simp only [Int32.le_iff_toInt_le, Int32.lt_iff_toInt_lt, ti_add, ti_sub, ti_mul, Int32.reduceToInt] at *; omega))⟩) (show (16 - (x3_4 + 1).toInt).toNat < (16 - x3_4.toInt).toNat from (by first | omega | decide | (simp only [Int32.le_iff_toInt_le, Int32.lt_iff_toInt_lt, ti_add, ti_sub, ti_mul, Int32.reduceToInt] at *; omega)))
      · refine ok_lp (fun t : Int32 × zS => Tr [] σ0 (t.2) ∧ (0 ≤ (t.1).toInt)) (fun t : Int32 × zS => ((16 : Int32).toInt - (t.1).toInt).toNat) (fun again12 t hI ih19_12 => ?_) N _ (show Tr [] σ0 σ0 ∧ (0 ≤ (0 : Int32).toInt) from ⟨hT, (by first | omega | decide | (simp only [Int32.le_iff_toInt_le, Int32.lt_iff_toInt_lt, ti_add, ti_sub, ti_mul, Int32.reduceToInt] at *; omega))⟩) (show ((16 : Int32).toInt - (0 : Int32).toInt).toNat < N from (by first | omega | decide | (simp only [Int32.le_iff_toInt_le, Int32.lt_iff_toInt_lt, ti_add, ti_sub, ti_mul, Int32.reduceToInt] at *; omega)))
        obtain ⟨x2_12, σ12⟩ := t
        have hI : Tr [] σ0 σ12 ∧ (0 ≤ x2_12.toInt) := hI
        obtain ⟨hT, hI12⟩ := hI
        rw [F_X2_lower_19.eq_1]
        refine ok_if (fun hc13 => ?_) (fun hc13 => ?_)
        · exact ok_some ⟨hT, trivial⟩
        · refine ok_gR hT h_x0 (fam_R hR h_x0).1 ?_
          refine ok_aJ (fam_R hR h_x0).2 (by first | omega | decide | (simp only [Int32.le_iff_toInt_le, Int32.lt_iff_toInt_lt, ti_add, ti_sub, ti_mul, Int32.reduceToInt] at *; omega)) (by first | omega | decide | (simp only [Int32.le_iff_toInt_le, Int32.lt_iff_toInt_lt, ti_add, ti_sub, ti_mul, Int32.reduceToInt] at *; omega)) ?_
          generalize σ12.2.1 (x0 + 1) (Int32.toNatClampNeg (x2_12)) = v15
          refine ok_gR hT h_x0 (fam_R hR h_x0).1 ?_
          refine ok_aJ (fam_R hR h_x0).2 (by first | omega | decide | (simp only [Int32.le_iff_toInt_le, Int32.lt_iff_toInt_lt, ti_add, ti_sub, ti_mul, Int32.reduceToInt] at *; omega)) (by first | omega | decide | (simp only [Int32.le_iff_toInt_le, Int32.lt_iff_toInt_lt, ti_add, ti_sub, ti_mul, Int32.reduceToInt] at *; omega)) ?_
          generalize σ12.2.1 (x0 + 1) (Int32.toNatClampNeg (x2_12)) = v17
          refine ok_aW (by first | omega | decide | (simp only [Int32.le_iff_toInt_le, Int32.lt_iff_toInt_lt, ti_add, ti_sub, ti_mul, Int32.reduceToInt] at *; omega)) (by first | omega | decide | (simp only [Int32.le_iff_toInt_le, Int32.lt_iff_toInt_lt, ti_add, ti_sub, ti_mul, Int32.reduceToInt] at *; omega)) ?_
          generalize zWo (Int32.toNatClampNeg (x1)) = v18
          refine ok_sJ hT (fam_R hR h_x0).2 (by first | omega | decide | (simp only [Int32.le_iff_toInt_le, Int32.lt_iff_toInt_lt, ti_add, ti_sub, ti_mul, Int32.reduceToInt] at *; omega)) (by first | omega | decide | (simp only [Int32.le_iff_toInt_le, Int32.lt_iff_toInt_lt, ti_add, ti_sub, ti_mul, Int32.reduceToInt] at *; omega)) (fun σ19 eσ19 hOσ19 hT => ?_)
          exact ih19_12 (x2_12 + 1, σ19) (show Tr [] σ0 σ19 ∧ (0 ≤ (x2_12 + 1).toInt) from ⟨hT, (by first | omega | decide | (simp only [Int32.le_iff_toInt_le, Int32.lt_iff_toInt_lt, ti_add, ti_sub, ti_mul, Int32.reduceToInt] at *; omega))⟩) (show ((16 : Int32).toInt - (x2_12 + 1).toInt).toNat < ((16 : Int32).toInt - x2_12.toInt).toNat from (by first | omega | decide | (simp only [Int32.le_iff_toInt_le, Int32.lt_iff_toInt_lt, ti_add, ti_sub, ti_mul, Int32.reduceToInt] at *; omega)))
    · exact ok_some ⟨hT, trivial⟩

set_option maxHeartbeats 4000000 in
set_option maxRecDepth 100000 in
theorem s_X2_flip {N : Nat} (hN : 1048576 ≤ N) {x0 : Nat} {x1 : Int32} {σ0 : zS}  (hR : RF σ0.2.2) (h_x0 : (zKd x0).1 = 2) : Ok (f_X2_flip N x0 x1 σ0) (fun r => Tr [] σ0 r.2 ∧ (True)) := by
  have hT : Tr [] σ0 σ0 := Tr.rf
  rw [f_X2_flip.eq_1]
  refine ok_if (fun hc1 => ?_) (fun hc1 => ?_)
  · exact ok_some ⟨hT, trivial⟩
  · refine ok_if (fun hc2 => ?_) (fun hc2 => ?_)
    · refine ok_if (fun hc3 => ?_) (fun hc3 => ?_)
      · have q1 := ti_one10 (x := x1 - 6) (by simp only [ti_sub, Int32.le_iff_toInt_le, Int32.lt_iff_toInt_lt, Int32.reduceToInt] at *; omega) (by simp only [ti_sub, Int32.le_iff_toInt_le, Int32.lt_iff_toInt_lt, Int32.reduceToInt] at *; omega)
        refine ok_lp (fun t : Int32 × zS => Tr [] σ0 (t.2) ∧ (0 ≤ (t.1).toInt ∧ (t.1).toInt ≤ 16 ∧ 1 ≤ ((1 : Int32) <<< ((x1 - 6) &&& 31)).toInt ∧ ((1 : Int32) <<< ((x1 - 6) &&& 31)).toInt ≤ 1024)) (fun t : Int32 × zS => (16 - (t.1).toInt).toNat) (fun again4 t hI ih80_4 => ?_) N _ (show Tr [] σ0 σ0 ∧ (0 ≤ (0 : Int32).toInt ∧ (0 : Int32).toInt ≤ 16 ∧ 1 ≤ ((1 : Int32) <<< ((x1 - 6) &&& 31)).toInt ∧ ((1 : Int32) <<< ((x1 - 6) &&& 31)).toInt ≤ 1024) from ⟨hT, (by first | omega | decide | (simp only [Int32.le_iff_toInt_le, Int32.lt_iff_toInt_lt, ti_add, ti_sub, ti_mul, Int32.reduceToInt] at *; omega))⟩) (show (16 - (0 : Int32).toInt).toNat < N from (by first | omega | decide | (simp only [Int32.le_iff_toInt_le, Int32.lt_iff_toInt_lt, ti_add, ti_sub, ti_mul, Int32.reduceToInt] at *; omega)))
        obtain ⟨x3_4, σ4⟩ := t
        have hI : Tr [] σ0 σ4 ∧ (0 ≤ x3_4.toInt ∧ x3_4.toInt ≤ 16 ∧ 1 ≤ ((1 : Int32) <<< ((x1 - 6) &&& 31)).toInt ∧ ((1 : Int32) <<< ((x1 - 6) &&& 31)).toInt ≤ 1024) := hI
        obtain ⟨hT, hI4⟩ := hI
        rw [F_X2_flip_80.eq_1]
        refine ok_if (fun hc5 => ?_) (fun hc5 => ?_)
        · exact ok_some ⟨hT, trivial⟩
        · refine ok_if (fun hc6 => ?_) (fun hc6 => ?_)
          · refine ok_gR hT h_x0 (fam_R hR h_x0).1 ?_
            refine ok_aJ (fam_R hR h_x0).2 (by first | omega | decide | (simp only [Int32.le_iff_toInt_le, Int32.lt_iff_toInt_lt, ti_add, ti_sub, ti_mul, Int32.reduceToInt] at *; omega)) (by first | omega | decide | (simp only [Int32.le_iff_toInt_le, Int32.lt_iff_toInt_lt, ti_add, ti_sub, ti_mul, Int32.reduceToInt] at *; omega)) ?_
            generalize σ4.2.1 (x0 + 1) (Int32.toNatClampNeg (x3_4)) = v8
            refine ok_gR hT h_x0 (fam_R hR h_x0).1 ?_
            refine ok_gR hT h_x0 (fam_R hR h_x0).1 ?_
            refine ok_aJ (fam_R hR h_x0).2 (by first | omega | decide | (simp only [Int32.le_iff_toInt_le, Int32.lt_iff_toInt_lt, ti_add, ti_sub, ti_mul, Int32.reduceToInt] at *; omega)) (by first | omega | decide | (simp only [Int32.le_iff_toInt_le, Int32.lt_iff_toInt_lt, ti_add, ti_sub, ti_mul, Int32.reduceToInt] at *; omega)) ?_
            generalize σ4.2.1 (x0 + 1) (Int32.toNatClampNeg (x3_4 + ((1 : Int32) <<< ((x1 - 6) &&& 31)))) = v11
            refine ok_sJ hT (fam_R hR h_x0).2 (by first | omega | decide | (simp only [Int32.le_iff_toInt_le, Int32.lt_iff_toInt_lt, ti_add, ti_sub, ti_mul, Int32.reduceToInt] at *; omega)) (by first | omega | decide | (simp only [Int32.le_iff_toInt_le, Int32.lt_iff_toInt_lt, ti_add, ti_sub, ti_mul, Int32.reduceToInt] at *; omega)) (fun σ12 eσ12 hOσ12 hT => ?_)
            refine ok_gR hT h_x0 (fam_R hR h_x0).1 ?_
            refine ok_sJ hT (fam_R hR h_x0).2 (by first | omega | decide | (simp only [Int32.le_iff_toInt_le, Int32.lt_iff_toInt_lt, ti_add, ti_sub, ti_mul, Int32.reduceToInt] at *; omega)) (by first | omega | decide | (simp only [Int32.le_iff_toInt_le, Int32.lt_iff_toInt_lt, ti_add, ti_sub, ti_mul, Int32.reduceToInt] at *; omega)) (fun σ14 eσ14 hOσ14 hT => ?_)
            exact ih80_4 (x3_4 + 1, σ14) (show Tr [] σ0 σ14 ∧ (0 ≤ (x3_4 + 1).toInt ∧ (x3_4 + 1).toInt ≤ 16 ∧ 1 ≤ ((1 : Int32) <<< ((x1 - 6) &&& 31)).toInt ∧ ((1 : Int32) <<< ((x1 - 6) &&& 31)).toInt ≤ 1024) from ⟨hT, (by first | omega | decide | (simp only [Int32.le_iff_toInt_le, Int32.lt_iff_toInt_lt, ti_add, ti_sub, ti_mul, Int32.reduceToInt] at *; omega))⟩) (show (16 - (x3_4 + 1).toInt).toNat < (16 - x3_4.toInt).toNat from (by first | omega | decide | (simp only [Int32.le_iff_toInt_le, Int32.lt_iff_toInt_lt, ti_add, ti_sub, ti_mul, Int32.reduceToInt] at *; omega)))
          · exact ih80_4 (x3_4 + 1, σ4) (show Tr [] σ0 σ4 ∧ (0 ≤ (x3_4 + 1).toInt ∧ (x3_4 + 1).toInt ≤ 16 ∧ 1 ≤ ((1 : Int32) <<< ((x1 - 6) &&& 31)).toInt ∧ ((1 : Int32) <<< ((x1 - 6) &&& 31)).toInt ≤ 1024) from ⟨hT, (by first | omega | decide | (simp only [Int32.le_iff_toInt_le, Int32.lt_iff_toInt_lt, ti_add, ti_sub, ti_mul, Int32.reduceToInt] at *; omega))⟩) (show (16 - (x3_4 + 1).toInt).toNat < (16 - x3_4.toInt).toNat from (by first | omega | decide | (simp only [Int32.le_iff_toInt_le, Int32.lt_iff_toInt_lt, ti_add, ti_sub, ti_mul, Int32.reduceToInt] at *; omega)))
      · refine ok_lp (fun t : Int32 × zS => Tr [] σ0 (t.2) ∧ (0 ≤ (t.1).toInt)) (fun t : Int32 × zS => ((16 : Int32).toInt - (t.1).toInt).toNat) (fun again15 t hI ih23_15 => ?_) N _ (show Tr [] σ0 σ0 ∧ (0 ≤ (0 : Int32).toInt) from ⟨hT, (by first | omega | decide | (simp only [Int32.le_iff_toInt_le, Int32.lt_iff_toInt_lt, ti_add, ti_sub, ti_mul, Int32.reduceToInt] at *; omega))⟩) (show ((16 : Int32).toInt - (0 : Int32).toInt).toNat < N from (by first | omega | decide | (simp only [Int32.le_iff_toInt_le, Int32.lt_iff_toInt_lt, ti_add, ti_sub, ti_mul, Int32.reduceToInt] at *; omega)))
        obtain ⟨x3_15, σ15⟩ := t
        have hI : Tr [] σ0 σ15 ∧ (0 ≤ x3_15.toInt) := hI
        obtain ⟨hT, hI15⟩ := hI
        rw [F_X2_flip_23.eq_1]
        refine ok_if (fun hc16 => ?_) (fun hc16 => ?_)
        · exact ok_some ⟨hT, trivial⟩
        · refine ok_gR hT h_x0 (fam_R hR h_x0).1 ?_
          refine ok_gR hT h_x0 (fam_R hR h_x0).1 ?_
          refine ok_aJ (fam_R hR h_x0).2 (by first | omega | decide | (simp only [Int32.le_iff_toInt_le, Int32.lt_iff_toInt_lt, ti_add, ti_sub, ti_mul, Int32.reduceToInt] at *; omega)) (by first | omega | decide | (simp only [Int32.le_iff_toInt_le, Int32.lt_iff_toInt_lt, ti_add, ti_sub, ti_mul, Int32.reduceToInt] at *; omega)) ?_
          generalize σ15.2.1 (x0 + 1) (Int32.toNatClampNeg (x3_15)) = v19
          refine ok_aW (by first | omega | decide | (simp only [Int32.le_iff_toInt_le, Int32.lt_iff_toInt_lt, ti_add, ti_sub, ti_mul, Int32.reduceToInt] at *; omega)) (by first | omega | decide | (simp only [Int32.le_iff_toInt_le, Int32.lt_iff_toInt_lt, ti_add, ti_sub, ti_mul, Int32.reduceToInt] at *; omega)) ?_
          generalize zWo (Int32.toNatClampNeg (x1)) = v20
          refine ok_gR hT h_x0 (fam_R hR h_x0).1 ?_
          refine ok_aJ (fam_R hR h_x0).2 (by first | omega | decide | (simp only [Int32.le_iff_toInt_le, Int32.lt_iff_toInt_lt, ti_add, ti_sub, ti_mul, Int32.reduceToInt] at *; omega)) (by first | omega | decide | (simp only [Int32.le_iff_toInt_le, Int32.lt_iff_toInt_lt, ti_add, ti_sub, ti_mul, Int32.reduceToInt] at *; omega)) ?_
          generalize σ15.2.1 (x0 + 1) (Int32.toNatClampNeg (x3_15)) = v22
          refine ok_aW (by first | omega | decide | (simp only [Int32.le_iff_toInt_le, Int32.lt_iff_toInt_lt, ti_add, ti_sub, ti_mul, Int32.reduceToInt] at *; omega)) (by first | omega | decide | (simp only [Int32.le_iff_toInt_le, Int32.lt_iff_toInt_lt, ti_add, ti_sub, ti_mul, Int32.reduceToInt] at *; omega)) ?_
          generalize zWo (Int32.toNatClampNeg (x1)) = v23
          refine ok_sJ hT (fam_R hR h_x0).2 (by first | omega | decide | (simp only [Int32.le_iff_toInt_le, Int32.lt_iff_toInt_lt, ti_add, ti_sub, ti_mul, Int32.reduceToInt] at *; omega)) (by first | omega | decide | (simp only [Int32.le_iff_toInt_le, Int32.lt_iff_toInt_lt, ti_add, ti_sub, ti_mul, Int32.reduceToInt] at *; omega)) (fun σ24 eσ24 hOσ24 hT => ?_)
          exact ih23_15 (x3_15 + 1, σ24) (show Tr [] σ0 σ24 ∧ (0 ≤ (x3_15 + 1).toInt) from ⟨hT, (by first | omega | decide | (simp only [Int32.le_iff_toInt_le, Int32.lt_iff_toInt_lt, ti_add, ti_sub, ti_mul, Int32.reduceToInt] at *; omega))⟩) (show ((16 : Int32).toInt - (x3_15 + 1).toInt).toNat < ((16 : Int32).toInt - x3_15.toInt).toNat from (by first | omega | decide | (simp only [Int32.le_iff_toInt_le, Int32.lt_iff_toInt_lt, ti_add, ti_sub, ti_mul, Int32.reduceToInt] at *; omega)))
    · exact ok_some ⟨hT, trivial⟩

set_option maxHeartbeats 4000000 in
set_option maxRecDepth 100000 in
theorem s_X2_tallyBelow {N : Nat} (hN : 1048576 ≤ N) {x0 : Nat} {x1 : Int32} {σ0 : zS}  (hR : RF σ0.2.2) (h_x0 : (zKd x0).1 = 2) : Ok (f_X2_tallyBelow N x0 x1 σ0) (fun r => Tr [] σ0 r.2 ∧ (True)) := by
  have hT : Tr [] σ0 σ0 := Tr.rf
  rw [f_X2_tallyBelow.eq_1]
  refine ok_lp (fun t : Int32 × Int32 × zS => Tr [] σ0 (t.2.2) ∧ (0 ≤ (t.2.1).toInt)) (fun t : Int32 × Int32 × zS => ((16 : Int32).toInt - (t.2.1).toInt).toNat) (fun again1 t hI ih4_1 => ?_) N _ (show Tr [] σ0 σ0 ∧ (0 ≤ (0 : Int32).toInt) from ⟨hT, (by first | omega | decide | (simp only [Int32.le_iff_toInt_le, Int32.lt_iff_toInt_lt, ti_add, ti_sub, ti_mul, Int32.reduceToInt] at *; omega))⟩) (show ((16 : Int32).toInt - (0 : Int32).toInt).toNat < N from (by first | omega | decide | (simp only [Int32.le_iff_toInt_le, Int32.lt_iff_toInt_lt, ti_add, ti_sub, ti_mul, Int32.reduceToInt] at *; omega)))
  obtain ⟨x2_1, x3_1, σ1⟩ := t
  have hI : Tr [] σ0 σ1 ∧ (0 ≤ x3_1.toInt) := hI
  obtain ⟨hT, hI1⟩ := hI
  rw [F_X2_tallyBelow_4.eq_1]
  refine ok_if (fun hc2 => ?_) (fun hc2 => ?_)
  · rw [J_X2_tallyBelow_36.eq_1]
    refine ok_if (fun hc3 => ?_) (fun hc3 => ?_)
    · exact ok_some ⟨hT, trivial⟩
    · refine ok_if (fun hc4 => ?_) (fun hc4 => ?_)
      · exact ok_some ⟨hT, trivial⟩
      · refine ok_gR hT h_x0 (fam_R hR h_x0).1 ?_
        refine ok_aJ (fam_R hR h_x0).2 (by have q9 := ti_shr x1 (n := 6) (by decide); rw [show Int32.ofNat 6 = 6 from rfl] at q9; simp only [Int32.le_iff_toInt_le, Int32.lt_iff_toInt_lt, ti_add, ti_sub, ti_mul, Int32.reduceToInt] at *; omega) (by have q9 := ti_shr x1 (n := 6) (by decide); rw [show Int32.ofNat 6 = 6 from rfl] at q9; simp only [Int32.le_iff_toInt_le, Int32.lt_iff_toInt_lt, ti_add, ti_sub, ti_mul, Int32.reduceToInt] at *; omega) ?_
        generalize σ1.2.1 (x0 + 1) (Int32.toNatClampNeg ((x1 : Int32) >>> (6 &&& 31))) = v6
        refine ok_zbT (Q := fun V σ => True) hT (s_J13_bitCount_95d88 hN (hR.tr hT) ) (fun _ h9 => absurd h9 List.not_mem_nil) (fun v7 σ8 hOσ8 hT hqv7 => ?_)
        exact ok_some ⟨hT, trivial⟩
  · refine ok_if (fun hc9 => ?_) (fun hc9 => ?_)
    · rw [J_X2_tallyBelow_36.eq_1]
      refine ok_if (fun hc10 => ?_) (fun hc10 => ?_)
      · exact ok_some ⟨hT, trivial⟩
      · refine ok_if (fun hc11 => ?_) (fun hc11 => ?_)
        · exact ok_some ⟨hT, trivial⟩
        · refine ok_gR hT h_x0 (fam_R hR h_x0).1 ?_
          refine ok_aJ (fam_R hR h_x0).2 (by have q9 := ti_shr x1 (n := 6) (by decide); rw [show Int32.ofNat 6 = 6 from rfl] at q9; simp only [Int32.le_iff_toInt_le, Int32.lt_iff_toInt_lt, ti_add, ti_sub, ti_mul, Int32.reduceToInt] at *; omega) (by have q9 := ti_shr x1 (n := 6) (by decide); rw [show Int32.ofNat 6 = 6 from rfl] at q9; simp only [Int32.le_iff_toInt_le, Int32.lt_iff_toInt_lt, ti_add, ti_sub, ti_mul, Int32.reduceToInt] at *; omega) ?_
          generalize σ1.2.1 (x0 + 1) (Int32.toNatClampNeg ((x1 : Int32) >>> (6 &&& 31))) = v13
          refine ok_zbT (Q := fun V σ => True) hT (s_J13_bitCount_95d88 hN (hR.tr hT) ) (fun _ h9 => absurd h9 List.not_mem_nil) (fun v14 σ15 hOσ15 hT hqv14 => ?_)
          exact ok_some ⟨hT, trivial⟩
    · refine ok_gR hT h_x0 (fam_R hR h_x0).1 ?_
      refine ok_aJ (fam_R hR h_x0).2 (by have q9 := ti_shr x1 (n := 6) (by decide); rw [show Int32.ofNat 6 = 6 from rfl] at q9; simp only [Int32.le_iff_toInt_le, Int32.lt_iff_toInt_lt, ti_add, ti_sub, ti_mul, Int32.reduceToInt] at *; omega) (by have q9 := ti_shr x1 (n := 6) (by decide); rw [show Int32.ofNat 6 = 6 from rfl] at q9; simp only [Int32.le_iff_toInt_le, Int32.lt_iff_toInt_lt, ti_add, ti_sub, ti_mul, Int32.reduceToInt] at *; omega) ?_
      generalize σ1.2.1 (x0 + 1) (Int32.toNatClampNeg (x3_1)) = v17
      refine ok_zbT (Q := fun V σ => True) hT (s_J13_bitCount_95d88 hN (hR.tr hT) ) (fun _ h9 => absurd h9 List.not_mem_nil) (fun v18 σ19 hOσ19 hT hqv18 => ?_)
      exact ih4_1 (x2_1 + v18, x3_1 + 1, σ19) (show Tr [] σ0 σ19 ∧ (0 ≤ (x3_1 + 1).toInt) from ⟨hT, (by first | omega | decide | (simp only [Int32.le_iff_toInt_le, Int32.lt_iff_toInt_lt, ti_add, ti_sub, ti_mul, Int32.reduceToInt] at *; omega))⟩) (show ((16 : Int32).toInt - (x3_1 + 1).toInt).toNat < ((16 : Int32).toInt - x3_1.toInt).toNat from (by first | omega | decide | (simp only [Int32.le_iff_toInt_le, Int32.lt_iff_toInt_lt, ti_add, ti_sub, ti_mul, Int32.reduceToInt] at *; omega)))

set_option maxHeartbeats 4000000 in
set_option maxRecDepth 100000 in
theorem s_X2_pickInWord {N : Nat} (hN : 1048576 ≤ N) {x0 : Nat} {x1 : Int64} {x3 : Int32} {σ0 : zS}  (hR : RF σ0.2.2) (h_x0 : (zKd x0).1 = 2) : Ok (f_X2_pickInWord N x0 x1 x3 σ0) (fun r => Tr [] σ0 r.2 ∧ (True)) := by
  have hT : Tr [] σ0 σ0 := Tr.rf
  rw [f_X2_pickInWord.eq_1]
  refine ok_lp (fun t : Int64 × Int32 × zS => Tr [] σ0 (t.2.2) ∧ (0 ≤ (t.2.1).toInt)) (fun t : Int64 × Int32 × zS => (64 - (t.2.1).toInt).toNat) (fun again1 t hI ih6_1 => ?_) N _ (show Tr [] σ0 σ0 ∧ (0 ≤ (0 : Int32).toInt) from ⟨hT, (by first | omega | decide | (simp only [Int32.le_iff_toInt_le, Int32.lt_iff_toInt_lt, ti_add, ti_sub, ti_mul, Int32.reduceToInt] at *; omega))⟩) (show (64 - (0 : Int32).toInt).toNat < N from (by first | omega | decide | (simp only [Int32.le_iff_toInt_le, Int32.lt_iff_toInt_lt, ti_add, ti_sub, ti_mul, Int32.reduceToInt] at *; omega)))
  obtain ⟨x4_1, x6_1, σ1⟩ := t
  have hI : Tr [] σ0 σ1 ∧ (0 ≤ x6_1.toInt) := hI
  obtain ⟨hT, hI1⟩ := hI
  rw [F_X2_pickInWord_6.eq_1]
  refine ok_if (fun hc2 => ?_) (fun hc2 => ?_)
  · refine ok_zbT (Q := fun V σ => 0 ≤ V.toInt ∧ V.toInt ≤ 64 ∧ (¬ x4_1 = 0 → V.toInt ≤ 63)) hT (s_J13_numberOfTrailingZeros_95d88 hN (hR.tr hT) ) (fun _ h9 => absurd h9 List.not_mem_nil) (fun v3 σ4 hOσ4 hT hqv3 => ?_)
    have hqv3 : 0 ≤ v3.toInt ∧ v3.toInt ≤ 64 ∧ (¬ x4_1 = 0 → v3.toInt ≤ 63) := hqv3
    exact ok_some ⟨hT, trivial⟩
  · refine ok_if (fun hc5 => ?_) (fun hc5 => ?_)
    · refine ok_zbT (Q := fun V σ => 0 ≤ V.toInt ∧ V.toInt ≤ 64 ∧ (¬ x4_1 = 0 → V.toInt ≤ 63)) hT (s_J13_numberOfTrailingZeros_95d88 hN (hR.tr hT) ) (fun _ h9 => absurd h9 List.not_mem_nil) (fun v6 σ7 hOσ7 hT hqv6 => ?_)
      have hqv6 : 0 ≤ v6.toInt ∧ v6.toInt ≤ 64 ∧ (¬ x4_1 = 0 → v6.toInt ≤ 63) := hqv6
      exact ok_some ⟨hT, trivial⟩
    · exact ih6_1 (x4_1 &&& (x4_1 - 1), x6_1 + 1, σ1) (show Tr [] σ0 σ1 ∧ (0 ≤ (x6_1 + 1).toInt) from ⟨hT, (by first | omega | decide | (simp only [Int32.le_iff_toInt_le, Int32.lt_iff_toInt_lt, ti_add, ti_sub, ti_mul, Int32.reduceToInt] at *; omega))⟩) (show (64 - (x6_1 + 1).toInt).toNat < (64 - x6_1.toInt).toNat from (by first | omega | decide | (simp only [Int32.le_iff_toInt_le, Int32.lt_iff_toInt_lt, ti_add, ti_sub, ti_mul, Int32.reduceToInt] at *; omega)))

set_option maxHeartbeats 4000000 in
set_option maxRecDepth 100000 in
theorem s_X2_pick {N : Nat} (hN : 1048576 ≤ N) {x0 : Nat} {x1 : Int32} {σ0 : zS}  (hR : RF σ0.2.2) (h_x0 : (zKd x0).1 = 2) : Ok (f_X2_pick N x0 x1 σ0) (fun r => Tr [] σ0 r.2 ∧ (True)) := by
  have hT : Tr [] σ0 σ0 := Tr.rf
  rw [f_X2_pick.eq_1]
  refine ok_if (fun hc1 => ?_) (fun hc1 => ?_)
  · refine ok_lp (fun t : Int32 × Int32 × zS => Tr [] σ0 (t.2.2) ∧ (0 ≤ (t.2.1).toInt)) (fun t : Int32 × Int32 × zS => (16 - (t.2.1).toInt).toNat) (fun again2 t hI ih10_2 => ?_) N _ (show Tr [] σ0 σ0 ∧ (0 ≤ (0 : Int32).toInt) from ⟨hT, (by first | omega | decide | (simp only [Int32.le_iff_toInt_le, Int32.lt_iff_toInt_lt, ti_add, ti_sub, ti_mul, Int32.reduceToInt] at *; omega))⟩) (show (16 - (0 : Int32).toInt).toNat < N from (by first | omega | decide | (simp only [Int32.le_iff_toInt_le, Int32.lt_iff_toInt_lt, ti_add, ti_sub, ti_mul, Int32.reduceToInt] at *; omega)))
    obtain ⟨x2_2, x3_2, σ2⟩ := t
    have hI : Tr [] σ0 σ2 ∧ (0 ≤ x3_2.toInt) := hI
    obtain ⟨hT, hI2⟩ := hI
    rw [F_X2_pick_10.eq_1]
    refine ok_if (fun hc3 => ?_) (fun hc3 => ?_)
    · exact ok_some ⟨hT, trivial⟩
    · refine ok_gR hT h_x0 (fam_R hR h_x0).1 ?_
      refine ok_aJ (fam_R hR h_x0).2 (by first | omega | decide | (simp only [Int32.le_iff_toInt_le, Int32.lt_iff_toInt_lt, ti_add, ti_sub, ti_mul, Int32.reduceToInt] at *; omega)) (by first | omega | decide | (simp only [Int32.le_iff_toInt_le, Int32.lt_iff_toInt_lt, ti_add, ti_sub, ti_mul, Int32.reduceToInt] at *; omega)) ?_
      generalize σ2.2.1 (x0 + 1) (Int32.toNatClampNeg (x3_2)) = v5
      refine ok_zbT (Q := fun V σ => True) hT (s_J13_bitCount_95d88 hN (hR.tr hT) ) (fun _ h9 => absurd h9 List.not_mem_nil) (fun v6 σ7 hOσ7 hT hqv6 => ?_)
      refine ok_if (fun hc8 => ?_) (fun hc8 => ?_)
      · exact ih10_2 (x2_2 - v6, x3_2 + 1, σ7) (show Tr [] σ0 σ7 ∧ (0 ≤ (x3_2 + 1).toInt) from ⟨hT, (by first | omega | decide | (simp only [Int32.le_iff_toInt_le, Int32.lt_iff_toInt_lt, ti_add, ti_sub, ti_mul, Int32.reduceToInt] at *; omega))⟩) (show (16 - (x3_2 + 1).toInt).toNat < (16 - x3_2.toInt).toNat from (by first | omega | decide | (simp only [Int32.le_iff_toInt_le, Int32.lt_iff_toInt_lt, ti_add, ti_sub, ti_mul, Int32.reduceToInt] at *; omega)))
      · refine ok_gR hT h_x0 (fam_R hR h_x0).1 ?_
        refine ok_aJ (fam_R hR h_x0).2 (by first | omega | decide | (simp only [Int32.le_iff_toInt_le, Int32.lt_iff_toInt_lt, ti_add, ti_sub, ti_mul, Int32.reduceToInt] at *; omega)) (by first | omega | decide | (simp only [Int32.le_iff_toInt_le, Int32.lt_iff_toInt_lt, ti_add, ti_sub, ti_mul, Int32.reduceToInt] at *; omega)) ?_
        generalize σ7.2.1 (x0 + 1) (Int32.toNatClampNeg (x3_2)) = v10
        refine ok_gC h_x0 ?_
        refine ok_zbT (Q := fun V σ => True) hT (s_X2_pickInWord hN (hR.tr hT) h_x0) (fun _ h9 => absurd h9 List.not_mem_nil) (fun v11 σ12 hOσ12 hT hqv11 => ?_)
        exact ok_some ⟨hT, trivial⟩
  · exact ok_some ⟨hT, trivial⟩

set_option maxHeartbeats 4000000 in
set_option maxRecDepth 100000 in
theorem s_X2_firstFrom {N : Nat} (hN : 1048576 ≤ N) {x0 : Nat} {x1 : Int32} {σ0 : zS}  (hR : RF σ0.2.2) (h_x0 : (zKd x0).1 = 2) : Ok (f_X2_firstFrom N x0 x1 σ0) (fun r => Tr [] σ0 r.2 ∧ (-1 ≤ r.1.toInt ∧ r.1.toInt ≤ 1023)) := by
  have hT : Tr [] σ0 σ0 := Tr.rf
  rw [f_X2_firstFrom.eq_1]
  refine ok_if (fun hc1 => ?_) (fun hc1 => ?_)
  · exact ok_some ⟨hT, (show -1 ≤ (-1 : Int32).toInt ∧ (-1 : Int32).toInt ≤ 1023 from by first | omega | decide | (simp only [Int32.le_iff_toInt_le, Int32.lt_iff_toInt_lt, ti_add, ti_sub, ti_mul, Int32.reduceToInt] at *; omega))⟩
  · refine ok_if (fun hc2 => ?_) (fun hc2 => ?_)
    · refine ok_gR hT h_x0 (fam_R hR h_x0).1 ?_
      refine ok_aJ (fam_R hR h_x0).2 (by have q9 := ti_shr x1 (n := 6) (by decide); rw [show Int32.ofNat 6 = 6 from rfl] at q9; simp only [Int32.le_iff_toInt_le, Int32.lt_iff_toInt_lt, ti_add, ti_sub, ti_mul, Int32.reduceToInt] at *; omega) (by have q9 := ti_shr x1 (n := 6) (by decide); rw [show Int32.ofNat 6 = 6 from rfl] at q9; simp only [Int32.le_iff_toInt_le, Int32.lt_iff_toInt_lt, ti_add, ti_sub, ti_mul, Int32.reduceToInt] at *; omega) ?_
      generalize σ0.2.1 (x0 + 1) (Int32.toNatClampNeg ((x1 : Int32) >>> (6 &&& 31))) = v4
      refine ok_lp (fun t : Int64 × Int32 × zS => Tr [] σ0 (t.2.2) ∧ (0 ≤ (t.2.1).toInt)) (fun t : Int64 × Int32 × zS => (16 - (t.2.1).toInt).toNat) (fun again5 t hI ih38_5 => ?_) N _ (show Tr [] σ0 σ0 ∧ (0 ≤ ((x1 : Int32) >>> (6 &&& 31)).toInt) from ⟨hT, (by have q9 := ti_shr x1 (n := 6) (by decide); rw [show Int32.ofNat 6 = 6 from rfl] at q9; simp only [Int32.le_iff_toInt_le, Int32.lt_iff_toInt_lt, ti_add, ti_sub, ti_mul, Int32.reduceToInt] at *; omega)⟩) (show (16 - ((x1 : Int32) >>> (6 &&& 31)).toInt).toNat < N from (by have q9 := ti_shr x1 (n := 6) (by decide); rw [show Int32.ofNat 6 = 6 from rfl] at q9; simp only [Int32.le_iff_toInt_le, Int32.lt_iff_toInt_lt, ti_add, ti_sub, ti_mul, Int32.reduceToInt] at *; omega))
      obtain ⟨x2_5, x4_5, σ5⟩ := t
      have hI : Tr [] σ0 σ5 ∧ (0 ≤ x4_5.toInt) := hI
      obtain ⟨hT, hI5⟩ := hI
      rw [F_X2_firstFrom_38.eq_1]
      refine ok_if (fun hc6 => ?_) (fun hc6 => ?_)
      · exact ok_some ⟨hT, (show -1 ≤ (-1 : Int32).toInt ∧ (-1 : Int32).toInt ≤ 1023 from by first | omega | decide | (simp only [Int32.le_iff_toInt_le, Int32.lt_iff_toInt_lt, ti_add, ti_sub, ti_mul, Int32.reduceToInt] at *; omega))⟩
      · refine ok_if (fun hc7 => ?_) (fun hc7 => ?_)
        · rw [J_X2_firstFrom_62.eq_1]
          refine ok_if (fun hc8 => ?_) (fun hc8 => ?_)
          · exact ih38_5 (x2_5, x4_5 + 1, σ5) (show Tr [] σ0 σ5 ∧ (0 ≤ (x4_5 + 1).toInt) from ⟨hT, (by first | omega | decide | (simp only [Int32.le_iff_toInt_le, Int32.lt_iff_toInt_lt, ti_add, ti_sub, ti_mul, Int32.reduceToInt] at *; omega))⟩) (show (16 - (x4_5 + 1).toInt).toNat < (16 - x4_5.toInt).toNat from (by first | omega | decide | (simp only [Int32.le_iff_toInt_le, Int32.lt_iff_toInt_lt, ti_add, ti_sub, ti_mul, Int32.reduceToInt] at *; omega)))
          · have qne := lgc0 hc8
            refine ok_zbT (Q := fun V σ => 0 ≤ V.toInt ∧ V.toInt ≤ 64 ∧ (¬ x2_5 = 0 → V.toInt ≤ 63)) hT (s_J13_numberOfTrailingZeros_95d88 hN (hR.tr hT) ) (fun _ h9 => absurd h9 List.not_mem_nil) (fun v9 σ10 hOσ10 hT hqv9 => ?_)
            have hqv9 : 0 ≤ v9.toInt ∧ v9.toInt ≤ 64 ∧ (¬ x2_5 = 0 → v9.toInt ≤ 63) := hqv9
            have q63 := hqv9.2.2 qne
            exact ok_some ⟨hT, (show -1 ≤ ((x4_5 * 64) + v9).toInt ∧ ((x4_5 * 64) + v9).toInt ≤ 1023 from by first | omega | decide | (simp only [Int32.le_iff_toInt_le, Int32.lt_iff_toInt_lt, ti_add, ti_sub, ti_mul, Int32.reduceToInt] at *; omega))⟩
        · refine ok_gR hT h_x0 (fam_R hR h_x0).1 ?_
          refine ok_aJ (fam_R hR h_x0).2 (by simp only [Int32.le_iff_toInt_le, Int32.lt_iff_toInt_lt, ti_add, ti_sub, ti_mul, Int32.reduceToInt] at *; omega) (by simp only [Int32.le_iff_toInt_le, Int32.lt_iff_toInt_lt, ti_add, ti_sub, ti_mul, Int32.reduceToInt] at *; omega) ?_
          generalize σ5.2.1 (x0 + 1) (Int32.toNatClampNeg (x4_5)) = v12
          rw [J_X2_firstFrom_62.eq_1]
          refine ok_if (fun hc13 => ?_) (fun hc13 => ?_)
          · exact ih38_5 (v12, x4_5 + 1, σ5) (show Tr [] σ0 σ5 ∧ (0 ≤ (x4_5 + 1).toInt) from ⟨hT, (by first | omega | decide | (simp only [Int32.le_iff_toInt_le, Int32.lt_iff_toInt_lt, ti_add, ti_sub, ti_mul, Int32.reduceToInt] at *; omega))⟩) (show (16 - (x4_5 + 1).toInt).toNat < (16 - x4_5.toInt).toNat from (by first | omega | decide | (simp only [Int32.le_iff_toInt_le, Int32.lt_iff_toInt_lt, ti_add, ti_sub, ti_mul, Int32.reduceToInt] at *; omega)))
          · have qne := lgc0 hc13
            refine ok_zbT (Q := fun V σ => 0 ≤ V.toInt ∧ V.toInt ≤ 64 ∧ (¬ v12 = 0 → V.toInt ≤ 63)) hT (s_J13_numberOfTrailingZeros_95d88 hN (hR.tr hT) ) (fun _ h9 => absurd h9 List.not_mem_nil) (fun v14 σ15 hOσ15 hT hqv14 => ?_)
            have hqv14 : 0 ≤ v14.toInt ∧ v14.toInt ≤ 64 ∧ (¬ v12 = 0 → v14.toInt ≤ 63) := hqv14
            have q63 := hqv14.2.2 qne
            exact ok_some ⟨hT, (show -1 ≤ ((x4_5 * 64) + v14).toInt ∧ ((x4_5 * 64) + v14).toInt ≤ 1023 from by first | omega | decide | (simp only [Int32.le_iff_toInt_le, Int32.lt_iff_toInt_lt, ti_add, ti_sub, ti_mul, Int32.reduceToInt] at *; omega))⟩
    · exact ok_some ⟨hT, (show -1 ≤ (-1 : Int32).toInt ∧ (-1 : Int32).toInt ≤ 1023 from by first | omega | decide | (simp only [Int32.le_iff_toInt_le, Int32.lt_iff_toInt_lt, ti_add, ti_sub, ti_mul, Int32.reduceToInt] at *; omega))⟩
end Zq0_1
section Zq0_2
set_option maxHeartbeats 4000000 in
set_option maxRecDepth 100000 in
theorem s_X10_placeOf_2 {N : Nat} (hN : 1048576 ≤ N) {x1 : Int32} {σ0 : zS}  (hR : RF σ0.2.2)  : Ok (f_X10_placeOf N 2 x1 σ0) (fun r => Tr [] σ0 r.2 ∧ (-1 ≤ r.1.toInt ∧ r.1.toInt ≤ 9)) := by
  have hT : Tr [] σ0 σ0 := Tr.rf
  rw [f_X10_placeOf.eq_1]
  refine ok_lp (fun t : Int32 × zS => Tr [] σ0 (t.2) ∧ (0 ≤ (t.1).toInt)) (fun t : Int32 × zS => (10 - (t.1).toInt).toNat) (fun again1 t hI ih2_1 => ?_) N _ (show Tr [] σ0 σ0 ∧ (0 ≤ (0 : Int32).toInt) from ⟨hT, (by first | omega | decide | (simp only [Int32.le_iff_toInt_le, Int32.lt_iff_toInt_lt, ti_add, ti_sub, ti_mul, Int32.reduceToInt] at *; omega))⟩) (show (10 - (0 : Int32).toInt).toNat < N from (by first | omega | decide | (simp only [Int32.le_iff_toInt_le, Int32.lt_iff_toInt_lt, ti_add, ti_sub, ti_mul, Int32.reduceToInt] at *; omega)))
  obtain ⟨x2_1, σ1⟩ := t
  have hI : Tr [] σ0 σ1 ∧ (0 ≤ x2_1.toInt) := hI
  obtain ⟨hT, hI1⟩ := hI
  rw [F_X10_placeOf_2.eq_1]
  refine ok_gI0 hT rfl (by decide) ?_
  refine ok_if (fun hc3 => ?_) (fun hc3 => ?_)
  · exact ok_some ⟨hT, (show -1 ≤ (-1 : Int32).toInt ∧ (-1 : Int32).toInt ≤ 9 from by first | omega | decide | (simp only [Int32.le_iff_toInt_le, Int32.lt_iff_toInt_lt, ti_add, ti_sub, ti_mul, Int32.reduceToInt] at *; omega))⟩
  · refine ok_if (fun hc4 => ?_) (fun hc4 => ?_)
    · exact ok_some ⟨hT, (show -1 ≤ (-1 : Int32).toInt ∧ (-1 : Int32).toInt ≤ 9 from by first | omega | decide | (simp only [Int32.le_iff_toInt_le, Int32.lt_iff_toInt_lt, ti_add, ti_sub, ti_mul, Int32.reduceToInt] at *; omega))⟩
    · refine ok_gR (v := 6) hT rfl (hR 2 6 rfl) ?_
      refine ok_aIn rfl (by first | omega | decide | (simp only [Int32.le_iff_toInt_le, Int32.lt_iff_toInt_lt, ti_add, ti_sub, ti_mul, Int32.reduceToInt] at *; omega)) (by first | omega | decide | (simp only [Int32.le_iff_toInt_le, Int32.lt_iff_toInt_lt, ti_add, ti_sub, ti_mul, Int32.reduceToInt] at *; omega)) (fun v6 ev6 => ?_)
      refine ok_if (fun hc7 => ?_) (fun hc7 => ?_)
      · exact ok_some ⟨hT, (show -1 ≤ x2_1.toInt ∧ x2_1.toInt ≤ 9 from by first | omega | decide | (simp only [Int32.le_iff_toInt_le, Int32.lt_iff_toInt_lt, ti_add, ti_sub, ti_mul, Int32.reduceToInt] at *; omega))⟩
      · exact ih2_1 (x2_1 + 1, σ1) (show Tr [] σ0 σ1 ∧ (0 ≤ (x2_1 + 1).toInt) from ⟨hT, (by first | omega | decide | (simp only [Int32.le_iff_toInt_le, Int32.lt_iff_toInt_lt, ti_add, ti_sub, ti_mul, Int32.reduceToInt] at *; omega))⟩) (show (10 - (x2_1 + 1).toInt).toNat < (10 - x2_1.toInt).toNat from (by simp only [Int32.le_iff_toInt_le, Int32.lt_iff_toInt_lt, ti_add, ti_sub, ti_mul, Int32.reduceToInt] at *; omega))

set_option maxHeartbeats 4000000 in
set_option maxRecDepth 100000 in
theorem s_X10_moveName_2 {N : Nat} (hN : 1048576 ≤ N) {x1 : Int32} {x2 : Int32} {σ0 : zS}  (hR : RF σ0.2.2)  : Ok (f_X10_moveName N 2 x1 x2 σ0) (fun r => Tr [6] σ0 r.2 ∧ (True)) := by
  have hT : Tr [6] σ0 σ0 := Tr.rf
  rw [f_X10_moveName.eq_1]
  refine ok_gC rfl ?_
  refine ok_zbT (Q := fun V σ => -1 ≤ V.toInt ∧ V.toInt ≤ 9) hT (s_X10_placeOf_2 hN (hR.tr hT) ) (fun _ h9 => absurd h9 List.not_mem_nil) (fun v1 σ2 hOσ2 hT hqv1 => ?_)
  have hqv1 : -1 ≤ v1.toInt ∧ v1.toInt ≤ 9 := hqv1
  refine ok_if (fun hc3 => ?_) (fun hc3 => ?_)
  · exact ok_some ⟨hT, trivial⟩
  · refine ok_if (fun hc4 => ?_) (fun hc4 => ?_)
    · exact ok_some ⟨hT, trivial⟩
    · refine ok_if (fun hc5 => ?_) (fun hc5 => ?_)
      · refine ok_if (fun hc6 => ?_) (fun hc6 => ?_)
        · rw [J_X10_moveName_32.eq_1]
          refine ok_lp (fun t : Int32 × zS => Tr [6] σ0 (t.2) ∧ (0 ≤ (-1 : Int32).toInt * (x2.toInt - (t.1).toInt) ∧ 0 ≤ (t.1).toInt ∧ (t.1).toInt ≤ 9)) (fun t : Int32 × zS => (x2.toInt - (t.1).toInt).toNat + ((t.1).toInt - x2.toInt).toNat) (fun again7 t hI ih37_7 => ?_) N _ (show Tr [6] σ0 σ2 ∧ (0 ≤ (-1 : Int32).toInt * (x2.toInt - v1.toInt) ∧ 0 ≤ v1.toInt ∧ v1.toInt ≤ 9) from ⟨hT, (by first | omega | decide | (simp only [Int32.le_iff_toInt_le, Int32.lt_iff_toInt_lt, ti_add, ti_sub, ti_mul, Int32.reduceToInt] at *; omega))⟩) (show (x2.toInt - v1.toInt).toNat + (v1.toInt - x2.toInt).toNat < N from (by first | omega | decide | (simp only [Int32.le_iff_toInt_le, Int32.lt_iff_toInt_lt, ti_add, ti_sub, ti_mul, Int32.reduceToInt] at *; omega)))
          obtain ⟨x5_7, σ7⟩ := t
          have hI : Tr [6] σ0 σ7 ∧ (0 ≤ (-1 : Int32).toInt * (x2.toInt - x5_7.toInt) ∧ 0 ≤ x5_7.toInt ∧ x5_7.toInt ≤ 9) := hI
          obtain ⟨hT, hI7⟩ := hI
          rw [F_X10_moveName_37.eq_1]
          refine ok_if (fun hc8 => ?_) (fun hc8 => ?_)
          · refine ok_gR (v := 6) hT rfl (hR 2 6 rfl) ?_
            refine ok_s14 hT rfl (by decide) (by first | omega | decide | (simp only [Int32.le_iff_toInt_le, Int32.lt_iff_toInt_lt, ti_add, ti_sub, ti_mul, Int32.reduceToInt] at *; omega)) (by first | omega | decide | (simp only [Int32.le_iff_toInt_le, Int32.lt_iff_toInt_lt, ti_add, ti_sub, ti_mul, Int32.reduceToInt] at *; omega)) (fun σ10 eσ10 hOσ10 hT => ?_)
            exact ok_some ⟨hT, trivial⟩
          · rw [ti_eq] at hc8
            refine ok_if (fun hc11 => ?_) (fun hc11 => ?_)
            · refine ok_gR (v := 6) hT rfl (hR 2 6 rfl) ?_
              refine ok_s14 hT rfl (by decide) (by first | omega | decide | (simp only [Int32.le_iff_toInt_le, Int32.lt_iff_toInt_lt, ti_add, ti_sub, ti_mul, Int32.reduceToInt] at *; omega)) (by first | omega | decide | (simp only [Int32.le_iff_toInt_le, Int32.lt_iff_toInt_lt, ti_add, ti_sub, ti_mul, Int32.reduceToInt] at *; omega)) (fun σ13 eσ13 hOσ13 hT => ?_)
              exact ok_some ⟨hT, trivial⟩
            · refine ok_if (fun hc14 => ?_) (fun hc14 => ?_)
              · refine ok_gR (v := 6) hT rfl (hR 2 6 rfl) ?_
                refine ok_s14 hT rfl (by decide) (by first | omega | decide | (simp only [Int32.le_iff_toInt_le, Int32.lt_iff_toInt_lt, ti_add, ti_sub, ti_mul, Int32.reduceToInt] at *; omega)) (by first | omega | decide | (simp only [Int32.le_iff_toInt_le, Int32.lt_iff_toInt_lt, ti_add, ti_sub, ti_mul, Int32.reduceToInt] at *; omega)) (fun σ16 eσ16 hOσ16 hT => ?_)
                exact ok_some ⟨hT, trivial⟩
              · refine ok_gR (v := 6) hT rfl (hR 2 6 rfl) ?_
                refine ok_gR (v := 6) hT rfl (hR 2 6 rfl) ?_
                refine ok_aIn rfl (by first | omega | decide | (simp only [Int32.le_iff_toInt_le, Int32.lt_iff_toInt_lt, ti_add, ti_sub, ti_mul, Int32.reduceToInt] at *; omega)) (by first | omega | decide | (simp only [Int32.le_iff_toInt_le, Int32.lt_iff_toInt_lt, ti_add, ti_sub, ti_mul, Int32.reduceToInt] at *; omega)) (fun v19 ev19 => ?_)
                refine ok_s14 hT rfl (by decide) (by first | omega | decide | (simp only [Int32.le_iff_toInt_le, Int32.lt_iff_toInt_lt, ti_add, ti_sub, ti_mul, Int32.reduceToInt] at *; omega)) (by first | omega | decide | (simp only [Int32.le_iff_toInt_le, Int32.lt_iff_toInt_lt, ti_add, ti_sub, ti_mul, Int32.reduceToInt] at *; omega)) (fun σ20 eσ20 hOσ20 hT => ?_)
                exact ih37_7 (x5_7 + (-1), σ20) (show Tr [6] σ0 σ20 ∧ (0 ≤ (-1 : Int32).toInt * (x2.toInt - (x5_7 + (-1)).toInt) ∧ 0 ≤ (x5_7 + (-1)).toInt ∧ (x5_7 + (-1)).toInt ≤ 9) from ⟨hT, (by first | omega | decide | (simp only [Int32.le_iff_toInt_le, Int32.lt_iff_toInt_lt, ti_add, ti_sub, ti_mul, Int32.reduceToInt] at *; omega))⟩) (show (x2.toInt - (x5_7 + (-1)).toInt).toNat + ((x5_7 + (-1)).toInt - x2.toInt).toNat < (x2.toInt - x5_7.toInt).toNat + (x5_7.toInt - x2.toInt).toNat from (by first | omega | decide | (simp only [Int32.le_iff_toInt_le, Int32.lt_iff_toInt_lt, ti_add, ti_sub, ti_mul, Int32.reduceToInt] at *; omega)))
        · rw [J_X10_moveName_32.eq_1]
          refine ok_lp (fun t : Int32 × zS => Tr [6] σ0 (t.2) ∧ (0 ≤ (1 : Int32).toInt * (x2.toInt - (t.1).toInt) ∧ 0 ≤ (t.1).toInt ∧ (t.1).toInt ≤ 9)) (fun t : Int32 × zS => (x2.toInt - (t.1).toInt).toNat + ((t.1).toInt - x2.toInt).toNat) (fun again21 t hI ih37_21 => ?_) N _ (show Tr [6] σ0 σ2 ∧ (0 ≤ (1 : Int32).toInt * (x2.toInt - v1.toInt) ∧ 0 ≤ v1.toInt ∧ v1.toInt ≤ 9) from ⟨hT, (by first | omega | decide | (simp only [Int32.le_iff_toInt_le, Int32.lt_iff_toInt_lt, ti_add, ti_sub, ti_mul, Int32.reduceToInt] at *; omega))⟩) (show (x2.toInt - v1.toInt).toNat + (v1.toInt - x2.toInt).toNat < N from (by first | omega | decide | (simp only [Int32.le_iff_toInt_le, Int32.lt_iff_toInt_lt, ti_add, ti_sub, ti_mul, Int32.reduceToInt] at *; omega)))
          obtain ⟨x5_21, σ21⟩ := t
          have hI : Tr [6] σ0 σ21 ∧ (0 ≤ (1 : Int32).toInt * (x2.toInt - x5_21.toInt) ∧ 0 ≤ x5_21.toInt ∧ x5_21.toInt ≤ 9) := hI
          obtain ⟨hT, hI21⟩ := hI
          rw [F_X10_moveName_37.eq_1]
          refine ok_if (fun hc22 => ?_) (fun hc22 => ?_)
          · refine ok_gR (v := 6) hT rfl (hR 2 6 rfl) ?_
            refine ok_s14 hT rfl (by decide) (by first | omega | decide | (simp only [Int32.le_iff_toInt_le, Int32.lt_iff_toInt_lt, ti_add, ti_sub, ti_mul, Int32.reduceToInt] at *; omega)) (by first | omega | decide | (simp only [Int32.le_iff_toInt_le, Int32.lt_iff_toInt_lt, ti_add, ti_sub, ti_mul, Int32.reduceToInt] at *; omega)) (fun σ24 eσ24 hOσ24 hT => ?_)
            exact ok_some ⟨hT, trivial⟩
          · rw [ti_eq] at hc22
            refine ok_if (fun hc25 => ?_) (fun hc25 => ?_)
            · refine ok_gR (v := 6) hT rfl (hR 2 6 rfl) ?_
              refine ok_s14 hT rfl (by decide) (by first | omega | decide | (simp only [Int32.le_iff_toInt_le, Int32.lt_iff_toInt_lt, ti_add, ti_sub, ti_mul, Int32.reduceToInt] at *; omega)) (by first | omega | decide | (simp only [Int32.le_iff_toInt_le, Int32.lt_iff_toInt_lt, ti_add, ti_sub, ti_mul, Int32.reduceToInt] at *; omega)) (fun σ27 eσ27 hOσ27 hT => ?_)
              exact ok_some ⟨hT, trivial⟩
            · refine ok_if (fun hc28 => ?_) (fun hc28 => ?_)
              · refine ok_gR (v := 6) hT rfl (hR 2 6 rfl) ?_
                refine ok_s14 hT rfl (by decide) (by first | omega | decide | (simp only [Int32.le_iff_toInt_le, Int32.lt_iff_toInt_lt, ti_add, ti_sub, ti_mul, Int32.reduceToInt] at *; omega)) (by first | omega | decide | (simp only [Int32.le_iff_toInt_le, Int32.lt_iff_toInt_lt, ti_add, ti_sub, ti_mul, Int32.reduceToInt] at *; omega)) (fun σ30 eσ30 hOσ30 hT => ?_)
                exact ok_some ⟨hT, trivial⟩
              · refine ok_gR (v := 6) hT rfl (hR 2 6 rfl) ?_
                refine ok_gR (v := 6) hT rfl (hR 2 6 rfl) ?_
                refine ok_aIn rfl (by first | omega | decide | (simp only [Int32.le_iff_toInt_le, Int32.lt_iff_toInt_lt, ti_add, ti_sub, ti_mul, Int32.reduceToInt] at *; omega)) (by first | omega | decide | (simp only [Int32.le_iff_toInt_le, Int32.lt_iff_toInt_lt, ti_add, ti_sub, ti_mul, Int32.reduceToInt] at *; omega)) (fun v33 ev33 => ?_)
                refine ok_s14 hT rfl (by decide) (by first | omega | decide | (simp only [Int32.le_iff_toInt_le, Int32.lt_iff_toInt_lt, ti_add, ti_sub, ti_mul, Int32.reduceToInt] at *; omega)) (by first | omega | decide | (simp only [Int32.le_iff_toInt_le, Int32.lt_iff_toInt_lt, ti_add, ti_sub, ti_mul, Int32.reduceToInt] at *; omega)) (fun σ34 eσ34 hOσ34 hT => ?_)
                exact ih37_21 (x5_21 + 1, σ34) (show Tr [6] σ0 σ34 ∧ (0 ≤ (1 : Int32).toInt * (x2.toInt - (x5_21 + 1).toInt) ∧ 0 ≤ (x5_21 + 1).toInt ∧ (x5_21 + 1).toInt ≤ 9) from ⟨hT, (by first | omega | decide | (simp only [Int32.le_iff_toInt_le, Int32.lt_iff_toInt_lt, ti_add, ti_sub, ti_mul, Int32.reduceToInt] at *; omega))⟩) (show (x2.toInt - (x5_21 + 1).toInt).toNat + ((x5_21 + 1).toInt - x2.toInt).toNat < (x2.toInt - x5_21.toInt).toNat + (x5_21.toInt - x2.toInt).toNat from (by first | omega | decide | (simp only [Int32.le_iff_toInt_le, Int32.lt_iff_toInt_lt, ti_add, ti_sub, ti_mul, Int32.reduceToInt] at *; omega)))
      · exact ok_some ⟨hT, trivial⟩

set_option maxHeartbeats 4000000 in
set_option maxRecDepth 100000 in
theorem s_X10_firstLike_2 {N : Nat} (hN : 1048576 ≤ N) {x1 : Int32} {σ0 : zS}  (hR : RF σ0.2.2) (hp : x1.toInt ≤ 10) : Ok (f_X10_firstLike N 2 x1 σ0) (fun r => Tr [] σ0 r.2 ∧ (True)) := by
  have hT : Tr [] σ0 σ0 := Tr.rf
  rw [f_X10_firstLike.eq_1]
  refine ok_lp (fun t : Int32 × zS => Tr [] σ0 (t.2) ∧ (0 ≤ (t.1).toInt)) (fun t : Int32 × zS => (x1.toInt - (t.1).toInt).toNat) (fun again1 t hI ih2_1 => ?_) N _ (show Tr [] σ0 σ0 ∧ (0 ≤ (0 : Int32).toInt) from ⟨hT, (by first | omega | decide | (simp only [Int32.le_iff_toInt_le, Int32.lt_iff_toInt_lt, ti_add, ti_sub, ti_mul, Int32.reduceToInt] at *; omega))⟩) (show (x1.toInt - (0 : Int32).toInt).toNat < N from (by first | omega | decide | (simp only [Int32.le_iff_toInt_le, Int32.lt_iff_toInt_lt, ti_add, ti_sub, ti_mul, Int32.reduceToInt] at *; omega)))
  obtain ⟨x2_1, σ1⟩ := t
  have hI : Tr [] σ0 σ1 ∧ (0 ≤ x2_1.toInt) := hI
  obtain ⟨hT, hI1⟩ := hI
  rw [F_X10_firstLike_2.eq_1]
  refine ok_if (fun hc2 => ?_) (fun hc2 => ?_)
  · exact ok_some ⟨hT, trivial⟩
  · refine ok_if (fun hc3 => ?_) (fun hc3 => ?_)
    · exact ok_some ⟨hT, trivial⟩
    · refine ok_if (fun hc4 => ?_) (fun hc4 => ?_)
      · exact ih2_1 (x2_1 + 1, σ1) (show Tr [] σ0 σ1 ∧ (0 ≤ (x2_1 + 1).toInt) from ⟨hT, (by first | omega | decide | (simp only [Int32.le_iff_toInt_le, Int32.lt_iff_toInt_lt, ti_add, ti_sub, ti_mul, Int32.reduceToInt] at *; omega))⟩) (show (x1.toInt - (x2_1 + 1).toInt).toNat < (x1.toInt - x2_1.toInt).toNat from (by first | omega | decide | (simp only [Int32.le_iff_toInt_le, Int32.lt_iff_toInt_lt, ti_add, ti_sub, ti_mul, Int32.reduceToInt] at *; omega)))
      · refine ok_gR (v := 7) hT rfl (hR 2 7 rfl) ?_
        obtain ⟨q7, eq7, kq7⟩ := arrF hR (k := 7) (i := x2_1) rfl (by first | omega | decide | (simp only [Int32.le_iff_toInt_le, Int32.lt_iff_toInt_lt, ti_add, ti_sub, ti_mul, Int32.reduceToInt] at *; omega)) (by first | omega | decide | (simp only [Int32.le_iff_toInt_le, Int32.lt_iff_toInt_lt, ti_add, ti_sub, ti_mul, Int32.reduceToInt] at *; omega))
        refine ok_aR (v := q7) hT rfl (by first | omega | decide | (simp only [Int32.le_iff_toInt_le, Int32.lt_iff_toInt_lt, ti_add, ti_sub, ti_mul, Int32.reduceToInt] at *; omega)) (by first | omega | decide | (simp only [Int32.le_iff_toInt_le, Int32.lt_iff_toInt_lt, ti_add, ti_sub, ti_mul, Int32.reduceToInt] at *; omega)) eq7 ?_
        refine ok_gR (v := 7) hT rfl (hR 2 7 rfl) ?_
        obtain ⟨q10, eq10, kq10⟩ := arrF hR (k := 7) (i := x1) rfl (by first | omega | decide | (simp only [Int32.le_iff_toInt_le, Int32.lt_iff_toInt_lt, ti_add, ti_sub, ti_mul, Int32.reduceToInt] at *; omega)) (by first | omega | decide | (simp only [Int32.le_iff_toInt_le, Int32.lt_iff_toInt_lt, ti_add, ti_sub, ti_mul, Int32.reduceToInt] at *; omega))
        refine ok_aR (v := q10) hT rfl (by first | omega | decide | (simp only [Int32.le_iff_toInt_le, Int32.lt_iff_toInt_lt, ti_add, ti_sub, ti_mul, Int32.reduceToInt] at *; omega)) (by first | omega | decide | (simp only [Int32.le_iff_toInt_le, Int32.lt_iff_toInt_lt, ti_add, ti_sub, ti_mul, Int32.reduceToInt] at *; omega)) eq10 ?_
        refine ok_gC kq7 ?_
        refine ok_zbT (Q := fun V σ => V = 0 ∨ V = 1) hT (s_X2_sameAs hN (hR.tr hT) kq7 kq10) (fun _ h9 => absurd h9 List.not_mem_nil) (fun v11 σ12 hOσ12 hT hqv11 => ?_)
        have hqv11 : v11 = 0 ∨ v11 = 1 := hqv11
        refine ok_if (fun hc13 => ?_) (fun hc13 => ?_)
        · exact ih2_1 (x2_1 + 1, σ12) (show Tr [] σ0 σ12 ∧ (0 ≤ (x2_1 + 1).toInt) from ⟨hT, (by first | omega | decide | (simp only [Int32.le_iff_toInt_le, Int32.lt_iff_toInt_lt, ti_add, ti_sub, ti_mul, Int32.reduceToInt] at *; omega))⟩) (show (x1.toInt - (x2_1 + 1).toInt).toNat < (x1.toInt - x2_1.toInt).toNat from (by first | omega | decide | (simp only [Int32.le_iff_toInt_le, Int32.lt_iff_toInt_lt, ti_add, ti_sub, ti_mul, Int32.reduceToInt] at *; omega)))
        · exact ok_some ⟨hT, trivial⟩

set_option maxHeartbeats 4000000 in
set_option maxRecDepth 100000 in
theorem s_X10_unlikeFamilies_2 {N : Nat} (hN : 1048576 ≤ N)  {σ0 : zS}  (hR : RF σ0.2.2)  : Ok (f_X10_unlikeFamilies N 2 σ0) (fun r => Tr [] σ0 r.2 ∧ (True)) := by
  have hT : Tr [] σ0 σ0 := Tr.rf
  rw [f_X10_unlikeFamilies.eq_1]
  refine ok_lp (fun t : Int32 × Int32 × zS => Tr [] σ0 (t.2.2) ∧ (0 ≤ (t.2.1).toInt)) (fun t : Int32 × Int32 × zS => ((10 : Int32).toInt - (t.2.1).toInt).toNat) (fun again1 t hI ih4_1 => ?_) N _ (show Tr [] σ0 σ0 ∧ (0 ≤ (0 : Int32).toInt) from ⟨hT, (by first | omega | decide | (simp only [Int32.le_iff_toInt_le, Int32.lt_iff_toInt_lt, ti_add, ti_sub, ti_mul, Int32.reduceToInt] at *; omega))⟩) (show ((10 : Int32).toInt - (0 : Int32).toInt).toNat < N from (by first | omega | decide | (simp only [Int32.le_iff_toInt_le, Int32.lt_iff_toInt_lt, ti_add, ti_sub, ti_mul, Int32.reduceToInt] at *; omega)))
  obtain ⟨x1_1, x2_1, σ1⟩ := t
  have hI : Tr [] σ0 σ1 ∧ (0 ≤ x2_1.toInt) := hI
  obtain ⟨hT, hI1⟩ := hI
  rw [F_X10_unlikeFamilies_4.eq_1]
  refine ok_if (fun hc2 => ?_) (fun hc2 => ?_)
  · exact ok_some ⟨hT, trivial⟩
  · refine ok_gC rfl ?_
    refine ok_zbT (Q := fun V σ => True) hT (s_X10_firstLike_2 hN (hR.tr hT) (by simp only [Int32.le_iff_toInt_le, Int32.lt_iff_toInt_lt, ti_add, ti_sub, ti_mul, Int32.reduceToInt] at *; omega)) (fun _ h9 => absurd h9 List.not_mem_nil) (fun v3 σ4 hOσ4 hT hqv3 => ?_)
    refine ok_if (fun hc5 => ?_) (fun hc5 => ?_)
    · exact ih4_1 (x1_1 + 1, x2_1 + 1, σ4) (show Tr [] σ0 σ4 ∧ (0 ≤ (x2_1 + 1).toInt) from ⟨hT, (by first | omega | decide | (simp only [Int32.le_iff_toInt_le, Int32.lt_iff_toInt_lt, ti_add, ti_sub, ti_mul, Int32.reduceToInt] at *; omega))⟩) (show ((10 : Int32).toInt - (x2_1 + 1).toInt).toNat < ((10 : Int32).toInt - x2_1.toInt).toNat from (by first | omega | decide | (simp only [Int32.le_iff_toInt_le, Int32.lt_iff_toInt_lt, ti_add, ti_sub, ti_mul, Int32.reduceToInt] at *; omega)))
    · exact ih4_1 (x1_1, x2_1 + 1, σ4) (show Tr [] σ0 σ4 ∧ (0 ≤ (x2_1 + 1).toInt) from ⟨hT, (by first | omega | decide | (simp only [Int32.le_iff_toInt_le, Int32.lt_iff_toInt_lt, ti_add, ti_sub, ti_mul, Int32.reduceToInt] at *; omega))⟩) (show ((10 : Int32).toInt - (x2_1 + 1).toInt).toNat < ((10 : Int32).toInt - x2_1.toInt).toNat from (by first | omega | decide | (simp only [Int32.le_iff_toInt_le, Int32.lt_iff_toInt_lt, ti_add, ti_sub, ti_mul, Int32.reduceToInt] at *; omega)))

set_option maxHeartbeats 4000000 in
set_option maxRecDepth 100000 in
theorem s_X10_filledRegisters_2 {N : Nat} (hN : 1048576 ≤ N)  {σ0 : zS}  (hR : RF σ0.2.2)  : Ok (f_X10_filledRegisters N 2 σ0) (fun r => Tr [] σ0 r.2 ∧ (True)) := by
  have hT : Tr [] σ0 σ0 := Tr.rf
  rw [f_X10_filledRegisters.eq_1]
  refine ok_lp (fun t : Int32 × Int32 × zS => Tr [] σ0 (t.2.2) ∧ (0 ≤ (t.2.1).toInt)) (fun t : Int32 × Int32 × zS => ((10 : Int32).toInt - (t.2.1).toInt).toNat) (fun again1 t hI ih4_1 => ?_) N _ (show Tr [] σ0 σ0 ∧ (0 ≤ (0 : Int32).toInt) from ⟨hT, (by first | omega | decide | (simp only [Int32.le_iff_toInt_le, Int32.lt_iff_toInt_lt, ti_add, ti_sub, ti_mul, Int32.reduceToInt] at *; omega))⟩) (show ((10 : Int32).toInt - (0 : Int32).toInt).toNat < N from (by first | omega | decide | (simp only [Int32.le_iff_toInt_le, Int32.lt_iff_toInt_lt, ti_add, ti_sub, ti_mul, Int32.reduceToInt] at *; omega)))
  obtain ⟨x1_1, x2_1, σ1⟩ := t
  have hI : Tr [] σ0 σ1 ∧ (0 ≤ x2_1.toInt) := hI
  obtain ⟨hT, hI1⟩ := hI
  rw [F_X10_filledRegisters_4.eq_1]
  refine ok_if (fun hc2 => ?_) (fun hc2 => ?_)
  · exact ok_some ⟨hT, trivial⟩
  · refine ok_gR (v := 7) hT rfl (hR 2 7 rfl) ?_
    obtain ⟨q5, eq5, kq5⟩ := arrF hR (k := 7) (i := x2_1) rfl (by first | omega | decide | (simp only [Int32.le_iff_toInt_le, Int32.lt_iff_toInt_lt, ti_add, ti_sub, ti_mul, Int32.reduceToInt] at *; omega)) (by first | omega | decide | (simp only [Int32.le_iff_toInt_le, Int32.lt_iff_toInt_lt, ti_add, ti_sub, ti_mul, Int32.reduceToInt] at *; omega))
    refine ok_aR (v := q5) hT rfl (by first | omega | decide | (simp only [Int32.le_iff_toInt_le, Int32.lt_iff_toInt_lt, ti_add, ti_sub, ti_mul, Int32.reduceToInt] at *; omega)) (by first | omega | decide | (simp only [Int32.le_iff_toInt_le, Int32.lt_iff_toInt_lt, ti_add, ti_sub, ti_mul, Int32.reduceToInt] at *; omega)) eq5 ?_
    refine ok_gC kq5 ?_
    refine ok_zbT (Q := fun V σ => V = 0 ∨ V = 1) hT (s_X2_isEmpty hN (hR.tr hT) kq5) (fun _ h9 => absurd h9 List.not_mem_nil) (fun v6 σ7 hOσ7 hT hqv6 => ?_)
    have hqv6 : v6 = 0 ∨ v6 = 1 := hqv6
    refine ok_if (fun hc8 => ?_) (fun hc8 => ?_)
    · exact ih4_1 (x1_1 ||| ((1 : Int32) <<< (x2_1 &&& 31)), x2_1 + 1, σ7) (show Tr [] σ0 σ7 ∧ (0 ≤ (x2_1 + 1).toInt) from ⟨hT, (by first | omega | decide | (simp only [Int32.le_iff_toInt_le, Int32.lt_iff_toInt_lt, ti_add, ti_sub, ti_mul, Int32.reduceToInt] at *; omega))⟩) (show ((10 : Int32).toInt - (x2_1 + 1).toInt).toNat < ((10 : Int32).toInt - x2_1.toInt).toNat from (by first | omega | decide | (simp only [Int32.le_iff_toInt_le, Int32.lt_iff_toInt_lt, ti_add, ti_sub, ti_mul, Int32.reduceToInt] at *; omega)))
    · exact ih4_1 (x1_1, x2_1 + 1, σ7) (show Tr [] σ0 σ7 ∧ (0 ≤ (x2_1 + 1).toInt) from ⟨hT, (by first | omega | decide | (simp only [Int32.le_iff_toInt_le, Int32.lt_iff_toInt_lt, ti_add, ti_sub, ti_mul, Int32.reduceToInt] at *; omega))⟩) (show ((10 : Int32).toInt - (x2_1 + 1).toInt).toNat < ((10 : Int32).toInt - x2_1.toInt).toNat from (by first | omega | decide | (simp only [Int32.le_iff_toInt_le, Int32.lt_iff_toInt_lt, ti_add, ti_sub, ti_mul, Int32.reduceToInt] at *; omega)))

set_option maxHeartbeats 4000000 in
set_option maxRecDepth 100000 in
theorem s_X10_load_2 {N : Nat} (hN : 1048576 ≤ N) {x1 : Int32} {σ0 : zS}  (hR : RF σ0.2.2)  : Ok (f_X10_load N 2 x1 σ0) (fun r => Tr [] σ0 r.2 ∧ (True)) := by
  have hT : Tr [] σ0 σ0 := Tr.rf
  rw [f_X10_load.eq_1]
  refine ok_lp (fun t : Int32 × Int32 × zS => Tr [] σ0 (t.2.2) ∧ (0 ≤ (t.2.1).toInt)) (fun t : Int32 × Int32 × zS => (10 - (t.2.1).toInt).toNat) (fun again1 t hI ih4_1 => ?_) N _ (show Tr [] σ0 σ0 ∧ (0 ≤ (0 : Int32).toInt) from ⟨hT, (by first | omega | decide | (simp only [Int32.le_iff_toInt_le, Int32.lt_iff_toInt_lt, ti_add, ti_sub, ti_mul, Int32.reduceToInt] at *; omega))⟩) (show (10 - (0 : Int32).toInt).toNat < N from (by first | omega | decide | (simp only [Int32.le_iff_toInt_le, Int32.lt_iff_toInt_lt, ti_add, ti_sub, ti_mul, Int32.reduceToInt] at *; omega)))
  obtain ⟨x2_1, x3_1, σ1⟩ := t
  have hI : Tr [] σ0 σ1 ∧ (0 ≤ x3_1.toInt) := hI
  obtain ⟨hT, hI1⟩ := hI
  rw [F_X10_load_4.eq_1]
  refine ok_gI0 hT rfl (by decide) ?_
  refine ok_if (fun hc3 => ?_) (fun hc3 => ?_)
  · exact ok_some ⟨hT, trivial⟩
  · refine ok_if (fun hc4 => ?_) (fun hc4 => ?_)
    · exact ok_some ⟨hT, trivial⟩
    · refine ok_if (fun hc5 => ?_) (fun hc5 => ?_)
      · exact ih4_1 (x2_1, x3_1 + 1, σ1) (show Tr [] σ0 σ1 ∧ (0 ≤ (x3_1 + 1).toInt) from ⟨hT, (by first | omega | decide | (simp only [Int32.le_iff_toInt_le, Int32.lt_iff_toInt_lt, ti_add, ti_sub, ti_mul, Int32.reduceToInt] at *; omega))⟩) (show (10 - (x3_1 + 1).toInt).toNat < (10 - x3_1.toInt).toNat from (by first | omega | decide | (simp only [Int32.le_iff_toInt_le, Int32.lt_iff_toInt_lt, ti_add, ti_sub, ti_mul, Int32.reduceToInt] at *; omega)))
      · refine ok_gR (v := 5) hT rfl (hR 2 5 rfl) ?_
        refine ok_aIn rfl (by first | omega | decide | (simp only [Int32.le_iff_toInt_le, Int32.lt_iff_toInt_lt, ti_add, ti_sub, ti_mul, Int32.reduceToInt] at *; omega)) (by first | omega | decide | (simp only [Int32.le_iff_toInt_le, Int32.lt_iff_toInt_lt, ti_add, ti_sub, ti_mul, Int32.reduceToInt] at *; omega)) (fun v7 ev7 => ?_)
        exact ih4_1 (x2_1 + v7, x3_1 + 1, σ1) (show Tr [] σ0 σ1 ∧ (0 ≤ (x3_1 + 1).toInt) from ⟨hT, (by first | omega | decide | (simp only [Int32.le_iff_toInt_le, Int32.lt_iff_toInt_lt, ti_add, ti_sub, ti_mul, Int32.reduceToInt] at *; omega))⟩) (show (10 - (x3_1 + 1).toInt).toNat < (10 - x3_1.toInt).toNat from (by first | omega | decide | (simp only [Int32.le_iff_toInt_le, Int32.lt_iff_toInt_lt, ti_add, ti_sub, ti_mul, Int32.reduceToInt] at *; omega)))

set_option maxHeartbeats 4000000 in
set_option maxRecDepth 100000 in
theorem s_X10_addEdge_2 {N : Nat} (hN : 1048576 ≤ N) {x1 : Int32} {x2 : Int32} {σ0 : zS}  (hR : RF σ0.2.2) (hW : WI 2 σ0.1) (h1 : 0 ≤ x1.toInt ∧ x1.toInt ≤ 7) (h2 : 0 ≤ x2.toInt ∧ x2.toInt ≤ 7) : Ok (f_X10_addEdge N 2 x1 x2 σ0) (fun r => Tr [2, 3, 4] σ0 r.2 ∧ (WI 2 r.2.1)) := by
  have hT : Tr [2, 3, 4] σ0 σ0 := Tr.rf
  have hE : σ0.1 2 2 = σ0.1 2 2 := rfl
  rw [f_X10_addEdge.eq_1]
  refine ok_gIv rfl hE ?_
  refine ok_if (fun hc2 => ?_) (fun hc2 => ?_)
  · exact ok_some ⟨hT, (show WI 2 σ0.1 from by first | exact hW | exact WI_add (B := 2) hW eσ7 eσ10 eσ12 h1 h2 (by simp only [Int32.le_iff_toInt_le, Int32.lt_iff_toInt_lt, ti_add, ti_sub, ti_mul, Int32.reduceToInt] at *; omega))⟩
  · refine ok_gIv rfl hE ?_
    refine ok_if (fun hc4 => ?_) (fun hc4 => ?_)
    · exact ok_some ⟨hT, (show WI 2 σ0.1 from by first | exact hW | exact WI_add (B := 2) hW eσ7 eσ10 eσ12 h1 h2 (by simp only [Int32.le_iff_toInt_le, Int32.lt_iff_toInt_lt, ti_add, ti_sub, ti_mul, Int32.reduceToInt] at *; omega))⟩
    · refine ok_gR (v := 3) hT rfl (hR 2 3 rfl) ?_
      refine ok_gIv rfl hE ?_
      refine ok_s14 hT rfl (by decide) (by first | omega | decide | (simp only [Int32.le_iff_toInt_le, Int32.lt_iff_toInt_lt, ti_add, ti_sub, ti_mul, Int32.reduceToInt] at *; omega)) (by first | omega | decide | (simp only [Int32.le_iff_toInt_le, Int32.lt_iff_toInt_lt, ti_add, ti_sub, ti_mul, Int32.reduceToInt] at *; omega)) (fun σ7 eσ7 hOσ7 hT => ?_)
      have hE : σ7.1 2 2 = σ0.1 2 2 := by rw [hOσ7.2 2 (by decide)] <;> exact hE
      refine ok_gR (v := 4) hT rfl (hR 2 4 rfl) ?_
      refine ok_gIv rfl hE ?_
      refine ok_s14 hT rfl (by decide) (by first | omega | decide | (simp only [Int32.le_iff_toInt_le, Int32.lt_iff_toInt_lt, ti_add, ti_sub, ti_mul, Int32.reduceToInt] at *; omega)) (by first | omega | decide | (simp only [Int32.le_iff_toInt_le, Int32.lt_iff_toInt_lt, ti_add, ti_sub, ti_mul, Int32.reduceToInt] at *; omega)) (fun σ10 eσ10 hOσ10 hT => ?_)
      have hE : σ10.1 2 2 = σ0.1 2 2 := by rw [hOσ10.2 2 (by decide)] <;> exact hE
      refine ok_gIv rfl hE ?_
      refine ok_pI hT rfl (by decide) (fun σ12 eσ12 hOσ12 hT => ?_)
      exact ok_some ⟨hT, (show WI 2 σ12.1 from by first | exact hW | exact WI_add (B := 2) hW eσ7 eσ10 eσ12 h1 h2 (by simp only [Int32.le_iff_toInt_le, Int32.lt_iff_toInt_lt, ti_add, ti_sub, ti_mul, Int32.reduceToInt] at *; omega))⟩

set_option maxHeartbeats 4000000 in
set_option maxRecDepth 100000 in
theorem s_X10_placeOf_28 {N : Nat} (hN : 1048576 ≤ N) {x1 : Int32} {σ0 : zS}  (hR : RF σ0.2.2)  : Ok (f_X10_placeOf N 28 x1 σ0) (fun r => Tr [] σ0 r.2 ∧ (-1 ≤ r.1.toInt ∧ r.1.toInt ≤ 9)) := by
  have hT : Tr [] σ0 σ0 := Tr.rf
  rw [f_X10_placeOf.eq_1]
  refine ok_lp (fun t : Int32 × zS => Tr [] σ0 (t.2) ∧ (0 ≤ (t.1).toInt)) (fun t : Int32 × zS => (10 - (t.1).toInt).toNat) (fun again1 t hI ih2_1 => ?_) N _ (show Tr [] σ0 σ0 ∧ (0 ≤ (0 : Int32).toInt) from ⟨hT, (by first | omega | decide | (simp only [Int32.le_iff_toInt_le, Int32.lt_iff_toInt_lt, ti_add, ti_sub, ti_mul, Int32.reduceToInt] at *; omega))⟩) (show (10 - (0 : Int32).toInt).toNat < N from (by first | omega | decide | (simp only [Int32.le_iff_toInt_le, Int32.lt_iff_toInt_lt, ti_add, ti_sub, ti_mul, Int32.reduceToInt] at *; omega)))
  obtain ⟨x2_1, σ1⟩ := t
  have hI : Tr [] σ0 σ1 ∧ (0 ≤ x2_1.toInt) := hI
  obtain ⟨hT, hI1⟩ := hI
  rw [F_X10_placeOf_2.eq_1]
  refine ok_gI0 hT rfl (by decide) ?_
  refine ok_if (fun hc3 => ?_) (fun hc3 => ?_)
  · exact ok_some ⟨hT, (show -1 ≤ (-1 : Int32).toInt ∧ (-1 : Int32).toInt ≤ 9 from by first | omega | decide | (simp only [Int32.le_iff_toInt_le, Int32.lt_iff_toInt_lt, ti_add, ti_sub, ti_mul, Int32.reduceToInt] at *; omega))⟩
  · refine ok_if (fun hc4 => ?_) (fun hc4 => ?_)
    · exact ok_some ⟨hT, (show -1 ≤ (-1 : Int32).toInt ∧ (-1 : Int32).toInt ≤ 9 from by first | omega | decide | (simp only [Int32.le_iff_toInt_le, Int32.lt_iff_toInt_lt, ti_add, ti_sub, ti_mul, Int32.reduceToInt] at *; omega))⟩
    · refine ok_gR (v := 32) hT rfl (hR 28 6 rfl) ?_
      refine ok_aIn rfl (by first | omega | decide | (simp only [Int32.le_iff_toInt_le, Int32.lt_iff_toInt_lt, ti_add, ti_sub, ti_mul, Int32.reduceToInt] at *; omega)) (by first | omega | decide | (simp only [Int32.le_iff_toInt_le, Int32.lt_iff_toInt_lt, ti_add, ti_sub, ti_mul, Int32.reduceToInt] at *; omega)) (fun v6 ev6 => ?_)
      refine ok_if (fun hc7 => ?_) (fun hc7 => ?_)
      · exact ok_some ⟨hT, (show -1 ≤ x2_1.toInt ∧ x2_1.toInt ≤ 9 from by first | omega | decide | (simp only [Int32.le_iff_toInt_le, Int32.lt_iff_toInt_lt, ti_add, ti_sub, ti_mul, Int32.reduceToInt] at *; omega))⟩
      · exact ih2_1 (x2_1 + 1, σ1) (show Tr [] σ0 σ1 ∧ (0 ≤ (x2_1 + 1).toInt) from ⟨hT, (by first | omega | decide | (simp only [Int32.le_iff_toInt_le, Int32.lt_iff_toInt_lt, ti_add, ti_sub, ti_mul, Int32.reduceToInt] at *; omega))⟩) (show (10 - (x2_1 + 1).toInt).toNat < (10 - x2_1.toInt).toNat from (by simp only [Int32.le_iff_toInt_le, Int32.lt_iff_toInt_lt, ti_add, ti_sub, ti_mul, Int32.reduceToInt] at *; omega))

set_option maxHeartbeats 4000000 in
set_option maxRecDepth 100000 in
theorem s_X10_moveName_28 {N : Nat} (hN : 1048576 ≤ N) {x1 : Int32} {x2 : Int32} {σ0 : zS}  (hR : RF σ0.2.2)  : Ok (f_X10_moveName N 28 x1 x2 σ0) (fun r => Tr [32] σ0 r.2 ∧ (True)) := by
  have hT : Tr [32] σ0 σ0 := Tr.rf
  rw [f_X10_moveName.eq_1]
  refine ok_gC rfl ?_
  refine ok_zbT (Q := fun V σ => -1 ≤ V.toInt ∧ V.toInt ≤ 9) hT (s_X10_placeOf_28 hN (hR.tr hT) ) (fun _ h9 => absurd h9 List.not_mem_nil) (fun v1 σ2 hOσ2 hT hqv1 => ?_)
  have hqv1 : -1 ≤ v1.toInt ∧ v1.toInt ≤ 9 := hqv1
  refine ok_if (fun hc3 => ?_) (fun hc3 => ?_)
  · exact ok_some ⟨hT, trivial⟩
  · refine ok_if (fun hc4 => ?_) (fun hc4 => ?_)
    · exact ok_some ⟨hT, trivial⟩
    · refine ok_if (fun hc5 => ?_) (fun hc5 => ?_)
      · refine ok_if (fun hc6 => ?_) (fun hc6 => ?_)
        · rw [J_X10_moveName_32.eq_1]
          refine ok_lp (fun t : Int32 × zS => Tr [32] σ0 (t.2) ∧ (0 ≤ (-1 : Int32).toInt * (x2.toInt - (t.1).toInt) ∧ 0 ≤ (t.1).toInt ∧ (t.1).toInt ≤ 9)) (fun t : Int32 × zS => (x2.toInt - (t.1).toInt).toNat + ((t.1).toInt - x2.toInt).toNat) (fun again7 t hI ih37_7 => ?_) N _ (show Tr [32] σ0 σ2 ∧ (0 ≤ (-1 : Int32).toInt * (x2.toInt - v1.toInt) ∧ 0 ≤ v1.toInt ∧ v1.toInt ≤ 9) from ⟨hT, (by first | omega | decide | (simp only [Int32.le_iff_toInt_le, Int32.lt_iff_toInt_lt, ti_add, ti_sub, ti_mul, Int32.reduceToInt] at *; omega))⟩) (show (x2.toInt - v1.toInt).toNat + (v1.toInt - x2.toInt).toNat < N from (by first | omega | decide | (simp only [Int32.le_iff_toInt_le, Int32.lt_iff_toInt_lt, ti_add, ti_sub, ti_mul, Int32.reduceToInt] at *; omega)))
          obtain ⟨x5_7, σ7⟩ := t
          have hI : Tr [32] σ0 σ7 ∧ (0 ≤ (-1 : Int32).toInt * (x2.toInt - x5_7.toInt) ∧ 0 ≤ x5_7.toInt ∧ x5_7.toInt ≤ 9) := hI
          obtain ⟨hT, hI7⟩ := hI
          rw [F_X10_moveName_37.eq_1]
          refine ok_if (fun hc8 => ?_) (fun hc8 => ?_)
          · refine ok_gR (v := 32) hT rfl (hR 28 6 rfl) ?_
            refine ok_s14 hT rfl (by decide) (by first | omega | decide | (simp only [Int32.le_iff_toInt_le, Int32.lt_iff_toInt_lt, ti_add, ti_sub, ti_mul, Int32.reduceToInt] at *; omega)) (by first | omega | decide | (simp only [Int32.le_iff_toInt_le, Int32.lt_iff_toInt_lt, ti_add, ti_sub, ti_mul, Int32.reduceToInt] at *; omega)) (fun σ10 eσ10 hOσ10 hT => ?_)
            exact ok_some ⟨hT, trivial⟩
          · rw [ti_eq] at hc8
            refine ok_if (fun hc11 => ?_) (fun hc11 => ?_)
            · refine ok_gR (v := 32) hT rfl (hR 28 6 rfl) ?_
              refine ok_s14 hT rfl (by decide) (by first | omega | decide | (simp only [Int32.le_iff_toInt_le, Int32.lt_iff_toInt_lt, ti_add, ti_sub, ti_mul, Int32.reduceToInt] at *; omega)) (by first | omega | decide | (simp only [Int32.le_iff_toInt_le, Int32.lt_iff_toInt_lt, ti_add, ti_sub, ti_mul, Int32.reduceToInt] at *; omega)) (fun σ13 eσ13 hOσ13 hT => ?_)
              exact ok_some ⟨hT, trivial⟩
            · refine ok_if (fun hc14 => ?_) (fun hc14 => ?_)
              · refine ok_gR (v := 32) hT rfl (hR 28 6 rfl) ?_
                refine ok_s14 hT rfl (by decide) (by first | omega | decide | (simp only [Int32.le_iff_toInt_le, Int32.lt_iff_toInt_lt, ti_add, ti_sub, ti_mul, Int32.reduceToInt] at *; omega)) (by first | omega | decide | (simp only [Int32.le_iff_toInt_le, Int32.lt_iff_toInt_lt, ti_add, ti_sub, ti_mul, Int32.reduceToInt] at *; omega)) (fun σ16 eσ16 hOσ16 hT => ?_)
                exact ok_some ⟨hT, trivial⟩
              · refine ok_gR (v := 32) hT rfl (hR 28 6 rfl) ?_
                refine ok_gR (v := 32) hT rfl (hR 28 6 rfl) ?_
                refine ok_aIn rfl (by first | omega | decide | (simp only [Int32.le_iff_toInt_le, Int32.lt_iff_toInt_lt, ti_add, ti_sub, ti_mul, Int32.reduceToInt] at *; omega)) (by first | omega | decide | (simp only [Int32.le_iff_toInt_le, Int32.lt_iff_toInt_lt, ti_add, ti_sub, ti_mul, Int32.reduceToInt] at *; omega)) (fun v19 ev19 => ?_)
                refine ok_s14 hT rfl (by decide) (by first | omega | decide | (simp only [Int32.le_iff_toInt_le, Int32.lt_iff_toInt_lt, ti_add, ti_sub, ti_mul, Int32.reduceToInt] at *; omega)) (by first | omega | decide | (simp only [Int32.le_iff_toInt_le, Int32.lt_iff_toInt_lt, ti_add, ti_sub, ti_mul, Int32.reduceToInt] at *; omega)) (fun σ20 eσ20 hOσ20 hT => ?_)
                exact ih37_7 (x5_7 + (-1), σ20) (show Tr [32] σ0 σ20 ∧ (0 ≤ (-1 : Int32).toInt * (x2.toInt - (x5_7 + (-1)).toInt) ∧ 0 ≤ (x5_7 + (-1)).toInt ∧ (x5_7 + (-1)).toInt ≤ 9) from ⟨hT, (by first | omega | decide | (simp only [Int32.le_iff_toInt_le, Int32.lt_iff_toInt_lt, ti_add, ti_sub, ti_mul, Int32.reduceToInt] at *; omega))⟩) (show (x2.toInt - (x5_7 + (-1)).toInt).toNat + ((x5_7 + (-1)).toInt - x2.toInt).toNat < (x2.toInt - x5_7.toInt).toNat + (x5_7.toInt - x2.toInt).toNat from (by first | omega | decide | (simp only [Int32.le_iff_toInt_le, Int32.lt_iff_toInt_lt, ti_add, ti_sub, ti_mul, Int32.reduceToInt] at *; omega)))
        · rw [J_X10_moveName_32.eq_1]
          refine ok_lp (fun t : Int32 × zS => Tr [32] σ0 (t.2) ∧ (0 ≤ (1 : Int32).toInt * (x2.toInt - (t.1).toInt) ∧ 0 ≤ (t.1).toInt ∧ (t.1).toInt ≤ 9)) (fun t : Int32 × zS => (x2.toInt - (t.1).toInt).toNat + ((t.1).toInt - x2.toInt).toNat) (fun again21 t hI ih37_21 => ?_) N _ (show Tr [32] σ0 σ2 ∧ (0 ≤ (1 : Int32).toInt * (x2.toInt - v1.toInt) ∧ 0 ≤ v1.toInt ∧ v1.toInt ≤ 9) from ⟨hT, (by first | omega | decide | (simp only [Int32.le_iff_toInt_le, Int32.lt_iff_toInt_lt, ti_add, ti_sub, ti_mul, Int32.reduceToInt] at *; omega))⟩) (show (x2.toInt - v1.toInt).toNat + (v1.toInt - x2.toInt).toNat < N from (by first | omega | decide | (simp only [Int32.le_iff_toInt_le, Int32.lt_iff_toInt_lt, ti_add, ti_sub, ti_mul, Int32.reduceToInt] at *; omega)))
          obtain ⟨x5_21, σ21⟩ := t
          have hI : Tr [32] σ0 σ21 ∧ (0 ≤ (1 : Int32).toInt * (x2.toInt - x5_21.toInt) ∧ 0 ≤ x5_21.toInt ∧ x5_21.toInt ≤ 9) := hI
          obtain ⟨hT, hI21⟩ := hI
          rw [F_X10_moveName_37.eq_1]
          refine ok_if (fun hc22 => ?_) (fun hc22 => ?_)
          · refine ok_gR (v := 32) hT rfl (hR 28 6 rfl) ?_
            refine ok_s14 hT rfl (by decide) (by first | omega | decide | (simp only [Int32.le_iff_toInt_le, Int32.lt_iff_toInt_lt, ti_add, ti_sub, ti_mul, Int32.reduceToInt] at *; omega)) (by first | omega | decide | (simp only [Int32.le_iff_toInt_le, Int32.lt_iff_toInt_lt, ti_add, ti_sub, ti_mul, Int32.reduceToInt] at *; omega)) (fun σ24 eσ24 hOσ24 hT => ?_)
            exact ok_some ⟨hT, trivial⟩
          · rw [ti_eq] at hc22
            refine ok_if (fun hc25 => ?_) (fun hc25 => ?_)
            · refine ok_gR (v := 32) hT rfl (hR 28 6 rfl) ?_
              refine ok_s14 hT rfl (by decide) (by first | omega | decide | (simp only [Int32.le_iff_toInt_le, Int32.lt_iff_toInt_lt, ti_add, ti_sub, ti_mul, Int32.reduceToInt] at *; omega)) (by first | omega | decide | (simp only [Int32.le_iff_toInt_le, Int32.lt_iff_toInt_lt, ti_add, ti_sub, ti_mul, Int32.reduceToInt] at *; omega)) (fun σ27 eσ27 hOσ27 hT => ?_)
              exact ok_some ⟨hT, trivial⟩
            · refine ok_if (fun hc28 => ?_) (fun hc28 => ?_)
              · refine ok_gR (v := 32) hT rfl (hR 28 6 rfl) ?_
                refine ok_s14 hT rfl (by decide) (by first | omega | decide | (simp only [Int32.le_iff_toInt_le, Int32.lt_iff_toInt_lt, ti_add, ti_sub, ti_mul, Int32.reduceToInt] at *; omega)) (by first | omega | decide | (simp only [Int32.le_iff_toInt_le, Int32.lt_iff_toInt_lt, ti_add, ti_sub, ti_mul, Int32.reduceToInt] at *; omega)) (fun σ30 eσ30 hOσ30 hT => ?_)
                exact ok_some ⟨hT, trivial⟩
              · refine ok_gR (v := 32) hT rfl (hR 28 6 rfl) ?_
                refine ok_gR (v := 32) hT rfl (hR 28 6 rfl) ?_
                refine ok_aIn rfl (by first | omega | decide | (simp only [Int32.le_iff_toInt_le, Int32.lt_iff_toInt_lt, ti_add, ti_sub, ti_mul, Int32.reduceToInt] at *; omega)) (by first | omega | decide | (simp only [Int32.le_iff_toInt_le, Int32.lt_iff_toInt_lt, ti_add, ti_sub, ti_mul, Int32.reduceToInt] at *; omega)) (fun v33 ev33 => ?_)
                refine ok_s14 hT rfl (by decide) (by first | omega | decide | (simp only [Int32.le_iff_toInt_le, Int32.lt_iff_toInt_lt, ti_add, ti_sub, ti_mul, Int32.reduceToInt] at *; omega)) (by first | omega | decide | (simp only [Int32.le_iff_toInt_le, Int32.lt_iff_toInt_lt, ti_add, ti_sub, ti_mul, Int32.reduceToInt] at *; omega)) (fun σ34 eσ34 hOσ34 hT => ?_)
                exact ih37_21 (x5_21 + 1, σ34) (show Tr [32] σ0 σ34 ∧ (0 ≤ (1 : Int32).toInt * (x2.toInt - (x5_21 + 1).toInt) ∧ 0 ≤ (x5_21 + 1).toInt ∧ (x5_21 + 1).toInt ≤ 9) from ⟨hT, (by first | omega | decide | (simp only [Int32.le_iff_toInt_le, Int32.lt_iff_toInt_lt, ti_add, ti_sub, ti_mul, Int32.reduceToInt] at *; omega))⟩) (show (x2.toInt - (x5_21 + 1).toInt).toNat + ((x5_21 + 1).toInt - x2.toInt).toNat < (x2.toInt - x5_21.toInt).toNat + (x5_21.toInt - x2.toInt).toNat from (by first | omega | decide | (simp only [Int32.le_iff_toInt_le, Int32.lt_iff_toInt_lt, ti_add, ti_sub, ti_mul, Int32.reduceToInt] at *; omega)))
      · exact ok_some ⟨hT, trivial⟩

set_option maxHeartbeats 4000000 in
set_option maxRecDepth 100000 in
theorem s_X10_firstLike_28 {N : Nat} (hN : 1048576 ≤ N) {x1 : Int32} {σ0 : zS}  (hR : RF σ0.2.2) (hp : x1.toInt ≤ 10) : Ok (f_X10_firstLike N 28 x1 σ0) (fun r => Tr [] σ0 r.2 ∧ (True)) := by
  have hT : Tr [] σ0 σ0 := Tr.rf
  rw [f_X10_firstLike.eq_1]
  refine ok_lp (fun t : Int32 × zS => Tr [] σ0 (t.2) ∧ (0 ≤ (t.1).toInt)) (fun t : Int32 × zS => (x1.toInt - (t.1).toInt).toNat) (fun again1 t hI ih2_1 => ?_) N _ (show Tr [] σ0 σ0 ∧ (0 ≤ (0 : Int32).toInt) from ⟨hT, (by first | omega | decide | (simp only [Int32.le_iff_toInt_le, Int32.lt_iff_toInt_lt, ti_add, ti_sub, ti_mul, Int32.reduceToInt] at *; omega))⟩) (show (x1.toInt - (0 : Int32).toInt).toNat < N from (by first | omega | decide | (simp only [Int32.le_iff_toInt_le, Int32.lt_iff_toInt_lt, ti_add, ti_sub, ti_mul, Int32.reduceToInt] at *; omega)))
  obtain ⟨x2_1, σ1⟩ := t
  have hI : Tr [] σ0 σ1 ∧ (0 ≤ x2_1.toInt) := hI
  obtain ⟨hT, hI1⟩ := hI
  rw [F_X10_firstLike_2.eq_1]
  refine ok_if (fun hc2 => ?_) (fun hc2 => ?_)
  · exact ok_some ⟨hT, trivial⟩
  · refine ok_if (fun hc3 => ?_) (fun hc3 => ?_)
    · exact ok_some ⟨hT, trivial⟩
    · refine ok_if (fun hc4 => ?_) (fun hc4 => ?_)
      · exact ih2_1 (x2_1 + 1, σ1) (show Tr [] σ0 σ1 ∧ (0 ≤ (x2_1 + 1).toInt) from ⟨hT, (by first | omega | decide | (simp only [Int32.le_iff_toInt_le, Int32.lt_iff_toInt_lt, ti_add, ti_sub, ti_mul, Int32.reduceToInt] at *; omega))⟩) (show (x1.toInt - (x2_1 + 1).toInt).toNat < (x1.toInt - x2_1.toInt).toNat from (by first | omega | decide | (simp only [Int32.le_iff_toInt_le, Int32.lt_iff_toInt_lt, ti_add, ti_sub, ti_mul, Int32.reduceToInt] at *; omega)))
      · refine ok_gR (v := 33) hT rfl (hR 28 7 rfl) ?_
        obtain ⟨q7, eq7, kq7⟩ := arrF hR (k := 33) (i := x2_1) rfl (by first | omega | decide | (simp only [Int32.le_iff_toInt_le, Int32.lt_iff_toInt_lt, ti_add, ti_sub, ti_mul, Int32.reduceToInt] at *; omega)) (by first | omega | decide | (simp only [Int32.le_iff_toInt_le, Int32.lt_iff_toInt_lt, ti_add, ti_sub, ti_mul, Int32.reduceToInt] at *; omega))
        refine ok_aR (v := q7) hT rfl (by first | omega | decide | (simp only [Int32.le_iff_toInt_le, Int32.lt_iff_toInt_lt, ti_add, ti_sub, ti_mul, Int32.reduceToInt] at *; omega)) (by first | omega | decide | (simp only [Int32.le_iff_toInt_le, Int32.lt_iff_toInt_lt, ti_add, ti_sub, ti_mul, Int32.reduceToInt] at *; omega)) eq7 ?_
        refine ok_gR (v := 33) hT rfl (hR 28 7 rfl) ?_
        obtain ⟨q10, eq10, kq10⟩ := arrF hR (k := 33) (i := x1) rfl (by first | omega | decide | (simp only [Int32.le_iff_toInt_le, Int32.lt_iff_toInt_lt, ti_add, ti_sub, ti_mul, Int32.reduceToInt] at *; omega)) (by first | omega | decide | (simp only [Int32.le_iff_toInt_le, Int32.lt_iff_toInt_lt, ti_add, ti_sub, ti_mul, Int32.reduceToInt] at *; omega))
        refine ok_aR (v := q10) hT rfl (by first | omega | decide | (simp only [Int32.le_iff_toInt_le, Int32.lt_iff_toInt_lt, ti_add, ti_sub, ti_mul, Int32.reduceToInt] at *; omega)) (by first | omega | decide | (simp only [Int32.le_iff_toInt_le, Int32.lt_iff_toInt_lt, ti_add, ti_sub, ti_mul, Int32.reduceToInt] at *; omega)) eq10 ?_
        refine ok_gC kq7 ?_
        refine ok_zbT (Q := fun V σ => V = 0 ∨ V = 1) hT (s_X2_sameAs hN (hR.tr hT) kq7 kq10) (fun _ h9 => absurd h9 List.not_mem_nil) (fun v11 σ12 hOσ12 hT hqv11 => ?_)
        have hqv11 : v11 = 0 ∨ v11 = 1 := hqv11
        refine ok_if (fun hc13 => ?_) (fun hc13 => ?_)
        · exact ih2_1 (x2_1 + 1, σ12) (show Tr [] σ0 σ12 ∧ (0 ≤ (x2_1 + 1).toInt) from ⟨hT, (by first | omega | decide | (simp only [Int32.le_iff_toInt_le, Int32.lt_iff_toInt_lt, ti_add, ti_sub, ti_mul, Int32.reduceToInt] at *; omega))⟩) (show (x1.toInt - (x2_1 + 1).toInt).toNat < (x1.toInt - x2_1.toInt).toNat from (by first | omega | decide | (simp only [Int32.le_iff_toInt_le, Int32.lt_iff_toInt_lt, ti_add, ti_sub, ti_mul, Int32.reduceToInt] at *; omega)))
        · exact ok_some ⟨hT, trivial⟩

set_option maxHeartbeats 4000000 in
set_option maxRecDepth 100000 in
theorem s_X10_unlikeFamilies_28 {N : Nat} (hN : 1048576 ≤ N)  {σ0 : zS}  (hR : RF σ0.2.2)  : Ok (f_X10_unlikeFamilies N 28 σ0) (fun r => Tr [] σ0 r.2 ∧ (True)) := by
  have hT : Tr [] σ0 σ0 := Tr.rf
  rw [f_X10_unlikeFamilies.eq_1]
  refine ok_lp (fun t : Int32 × Int32 × zS => Tr [] σ0 (t.2.2) ∧ (0 ≤ (t.2.1).toInt)) (fun t : Int32 × Int32 × zS => ((10 : Int32).toInt - (t.2.1).toInt).toNat) (fun again1 t hI ih4_1 => ?_) N _ (show Tr [] σ0 σ0 ∧ (0 ≤ (0 : Int32).toInt) from ⟨hT, (by first | omega | decide | (simp only [Int32.le_iff_toInt_le, Int32.lt_iff_toInt_lt, ti_add, ti_sub, ti_mul, Int32.reduceToInt] at *; omega))⟩) (show ((10 : Int32).toInt - (0 : Int32).toInt).toNat < N from (by first | omega | decide | (simp only [Int32.le_iff_toInt_le, Int32.lt_iff_toInt_lt, ti_add, ti_sub, ti_mul, Int32.reduceToInt] at *; omega)))
  obtain ⟨x1_1, x2_1, σ1⟩ := t
  have hI : Tr [] σ0 σ1 ∧ (0 ≤ x2_1.toInt) := hI
  obtain ⟨hT, hI1⟩ := hI
  rw [F_X10_unlikeFamilies_4.eq_1]
  refine ok_if (fun hc2 => ?_) (fun hc2 => ?_)
  · exact ok_some ⟨hT, trivial⟩
  · refine ok_gC rfl ?_
    refine ok_zbT (Q := fun V σ => True) hT (s_X10_firstLike_28 hN (hR.tr hT) (by simp only [Int32.le_iff_toInt_le, Int32.lt_iff_toInt_lt, ti_add, ti_sub, ti_mul, Int32.reduceToInt] at *; omega)) (fun _ h9 => absurd h9 List.not_mem_nil) (fun v3 σ4 hOσ4 hT hqv3 => ?_)
    refine ok_if (fun hc5 => ?_) (fun hc5 => ?_)
    · exact ih4_1 (x1_1 + 1, x2_1 + 1, σ4) (show Tr [] σ0 σ4 ∧ (0 ≤ (x2_1 + 1).toInt) from ⟨hT, (by first | omega | decide | (simp only [Int32.le_iff_toInt_le, Int32.lt_iff_toInt_lt, ti_add, ti_sub, ti_mul, Int32.reduceToInt] at *; omega))⟩) (show ((10 : Int32).toInt - (x2_1 + 1).toInt).toNat < ((10 : Int32).toInt - x2_1.toInt).toNat from (by first | omega | decide | (simp only [Int32.le_iff_toInt_le, Int32.lt_iff_toInt_lt, ti_add, ti_sub, ti_mul, Int32.reduceToInt] at *; omega)))
    · exact ih4_1 (x1_1, x2_1 + 1, σ4) (show Tr [] σ0 σ4 ∧ (0 ≤ (x2_1 + 1).toInt) from ⟨hT, (by first | omega | decide | (simp only [Int32.le_iff_toInt_le, Int32.lt_iff_toInt_lt, ti_add, ti_sub, ti_mul, Int32.reduceToInt] at *; omega))⟩) (show ((10 : Int32).toInt - (x2_1 + 1).toInt).toNat < ((10 : Int32).toInt - x2_1.toInt).toNat from (by first | omega | decide | (simp only [Int32.le_iff_toInt_le, Int32.lt_iff_toInt_lt, ti_add, ti_sub, ti_mul, Int32.reduceToInt] at *; omega)))

set_option maxHeartbeats 4000000 in
set_option maxRecDepth 100000 in
theorem s_X10_filledRegisters_28 {N : Nat} (hN : 1048576 ≤ N)  {σ0 : zS}  (hR : RF σ0.2.2)  : Ok (f_X10_filledRegisters N 28 σ0) (fun r => Tr [] σ0 r.2 ∧ (True)) := by
  have hT : Tr [] σ0 σ0 := Tr.rf
  rw [f_X10_filledRegisters.eq_1]
  refine ok_lp (fun t : Int32 × Int32 × zS => Tr [] σ0 (t.2.2) ∧ (0 ≤ (t.2.1).toInt)) (fun t : Int32 × Int32 × zS => ((10 : Int32).toInt - (t.2.1).toInt).toNat) (fun again1 t hI ih4_1 => ?_) N _ (show Tr [] σ0 σ0 ∧ (0 ≤ (0 : Int32).toInt) from ⟨hT, (by first | omega | decide | (simp only [Int32.le_iff_toInt_le, Int32.lt_iff_toInt_lt, ti_add, ti_sub, ti_mul, Int32.reduceToInt] at *; omega))⟩) (show ((10 : Int32).toInt - (0 : Int32).toInt).toNat < N from (by first | omega | decide | (simp only [Int32.le_iff_toInt_le, Int32.lt_iff_toInt_lt, ti_add, ti_sub, ti_mul, Int32.reduceToInt] at *; omega)))
  obtain ⟨x1_1, x2_1, σ1⟩ := t
  have hI : Tr [] σ0 σ1 ∧ (0 ≤ x2_1.toInt) := hI
  obtain ⟨hT, hI1⟩ := hI
  rw [F_X10_filledRegisters_4.eq_1]
  refine ok_if (fun hc2 => ?_) (fun hc2 => ?_)
  · exact ok_some ⟨hT, trivial⟩
  · refine ok_gR (v := 33) hT rfl (hR 28 7 rfl) ?_
    obtain ⟨q5, eq5, kq5⟩ := arrF hR (k := 33) (i := x2_1) rfl (by first | omega | decide | (simp only [Int32.le_iff_toInt_le, Int32.lt_iff_toInt_lt, ti_add, ti_sub, ti_mul, Int32.reduceToInt] at *; omega)) (by first | omega | decide | (simp only [Int32.le_iff_toInt_le, Int32.lt_iff_toInt_lt, ti_add, ti_sub, ti_mul, Int32.reduceToInt] at *; omega))
    refine ok_aR (v := q5) hT rfl (by first | omega | decide | (simp only [Int32.le_iff_toInt_le, Int32.lt_iff_toInt_lt, ti_add, ti_sub, ti_mul, Int32.reduceToInt] at *; omega)) (by first | omega | decide | (simp only [Int32.le_iff_toInt_le, Int32.lt_iff_toInt_lt, ti_add, ti_sub, ti_mul, Int32.reduceToInt] at *; omega)) eq5 ?_
    refine ok_gC kq5 ?_
    refine ok_zbT (Q := fun V σ => V = 0 ∨ V = 1) hT (s_X2_isEmpty hN (hR.tr hT) kq5) (fun _ h9 => absurd h9 List.not_mem_nil) (fun v6 σ7 hOσ7 hT hqv6 => ?_)
    have hqv6 : v6 = 0 ∨ v6 = 1 := hqv6
    refine ok_if (fun hc8 => ?_) (fun hc8 => ?_)
    · exact ih4_1 (x1_1 ||| ((1 : Int32) <<< (x2_1 &&& 31)), x2_1 + 1, σ7) (show Tr [] σ0 σ7 ∧ (0 ≤ (x2_1 + 1).toInt) from ⟨hT, (by first | omega | decide | (simp only [Int32.le_iff_toInt_le, Int32.lt_iff_toInt_lt, ti_add, ti_sub, ti_mul, Int32.reduceToInt] at *; omega))⟩) (show ((10 : Int32).toInt - (x2_1 + 1).toInt).toNat < ((10 : Int32).toInt - x2_1.toInt).toNat from (by first | omega | decide | (simp only [Int32.le_iff_toInt_le, Int32.lt_iff_toInt_lt, ti_add, ti_sub, ti_mul, Int32.reduceToInt] at *; omega)))
    · exact ih4_1 (x1_1, x2_1 + 1, σ7) (show Tr [] σ0 σ7 ∧ (0 ≤ (x2_1 + 1).toInt) from ⟨hT, (by first | omega | decide | (simp only [Int32.le_iff_toInt_le, Int32.lt_iff_toInt_lt, ti_add, ti_sub, ti_mul, Int32.reduceToInt] at *; omega))⟩) (show ((10 : Int32).toInt - (x2_1 + 1).toInt).toNat < ((10 : Int32).toInt - x2_1.toInt).toNat from (by first | omega | decide | (simp only [Int32.le_iff_toInt_le, Int32.lt_iff_toInt_lt, ti_add, ti_sub, ti_mul, Int32.reduceToInt] at *; omega)))

set_option maxHeartbeats 4000000 in
set_option maxRecDepth 100000 in
theorem s_X10_load_28 {N : Nat} (hN : 1048576 ≤ N) {x1 : Int32} {σ0 : zS}  (hR : RF σ0.2.2)  : Ok (f_X10_load N 28 x1 σ0) (fun r => Tr [] σ0 r.2 ∧ (True)) := by
  have hT : Tr [] σ0 σ0 := Tr.rf
  rw [f_X10_load.eq_1]
  refine ok_lp (fun t : Int32 × Int32 × zS => Tr [] σ0 (t.2.2) ∧ (0 ≤ (t.2.1).toInt)) (fun t : Int32 × Int32 × zS => (10 - (t.2.1).toInt).toNat) (fun again1 t hI ih4_1 => ?_) N _ (show Tr [] σ0 σ0 ∧ (0 ≤ (0 : Int32).toInt) from ⟨hT, (by first | omega | decide | (simp only [Int32.le_iff_toInt_le, Int32.lt_iff_toInt_lt, ti_add, ti_sub, ti_mul, Int32.reduceToInt] at *; omega))⟩) (show (10 - (0 : Int32).toInt).toNat < N from (by first | omega | decide | (simp only [Int32.le_iff_toInt_le, Int32.lt_iff_toInt_lt, ti_add, ti_sub, ti_mul, Int32.reduceToInt] at *; omega)))
  obtain ⟨x2_1, x3_1, σ1⟩ := t
  have hI : Tr [] σ0 σ1 ∧ (0 ≤ x3_1.toInt) := hI
  obtain ⟨hT, hI1⟩ := hI
  rw [F_X10_load_4.eq_1]
  refine ok_gI0 hT rfl (by decide) ?_
  refine ok_if (fun hc3 => ?_) (fun hc3 => ?_)
  · exact ok_some ⟨hT, trivial⟩
  · refine ok_if (fun hc4 => ?_) (fun hc4 => ?_)
    · exact ok_some ⟨hT, trivial⟩
    · refine ok_if (fun hc5 => ?_) (fun hc5 => ?_)
      · exact ih4_1 (x2_1, x3_1 + 1, σ1) (show Tr [] σ0 σ1 ∧ (0 ≤ (x3_1 + 1).toInt) from ⟨hT, (by first | omega | decide | (simp only [Int32.le_iff_toInt_le, Int32.lt_iff_toInt_lt, ti_add, ti_sub, ti_mul, Int32.reduceToInt] at *; omega))⟩) (show (10 - (x3_1 + 1).toInt).toNat < (10 - x3_1.toInt).toNat from (by first | omega | decide | (simp only [Int32.le_iff_toInt_le, Int32.lt_iff_toInt_lt, ti_add, ti_sub, ti_mul, Int32.reduceToInt] at *; omega)))
      · refine ok_gR (v := 31) hT rfl (hR 28 5 rfl) ?_
        refine ok_aIn rfl (by first | omega | decide | (simp only [Int32.le_iff_toInt_le, Int32.lt_iff_toInt_lt, ti_add, ti_sub, ti_mul, Int32.reduceToInt] at *; omega)) (by first | omega | decide | (simp only [Int32.le_iff_toInt_le, Int32.lt_iff_toInt_lt, ti_add, ti_sub, ti_mul, Int32.reduceToInt] at *; omega)) (fun v7 ev7 => ?_)
        exact ih4_1 (x2_1 + v7, x3_1 + 1, σ1) (show Tr [] σ0 σ1 ∧ (0 ≤ (x3_1 + 1).toInt) from ⟨hT, (by first | omega | decide | (simp only [Int32.le_iff_toInt_le, Int32.lt_iff_toInt_lt, ti_add, ti_sub, ti_mul, Int32.reduceToInt] at *; omega))⟩) (show (10 - (x3_1 + 1).toInt).toNat < (10 - x3_1.toInt).toNat from (by first | omega | decide | (simp only [Int32.le_iff_toInt_le, Int32.lt_iff_toInt_lt, ti_add, ti_sub, ti_mul, Int32.reduceToInt] at *; omega)))

set_option maxHeartbeats 4000000 in
set_option maxRecDepth 100000 in
theorem s_X10_addEdge_28 {N : Nat} (hN : 1048576 ≤ N) {x1 : Int32} {x2 : Int32} {σ0 : zS}  (hR : RF σ0.2.2) (hW : WI 28 σ0.1) (h1 : 0 ≤ x1.toInt ∧ x1.toInt ≤ 7) (h2 : 0 ≤ x2.toInt ∧ x2.toInt ≤ 7) : Ok (f_X10_addEdge N 28 x1 x2 σ0) (fun r => Tr [28, 29, 30] σ0 r.2 ∧ (WI 28 r.2.1)) := by
  have hT : Tr [28, 29, 30] σ0 σ0 := Tr.rf
  have hE : σ0.1 28 2 = σ0.1 28 2 := rfl
  rw [f_X10_addEdge.eq_1]
  refine ok_gIv rfl hE ?_
  refine ok_if (fun hc2 => ?_) (fun hc2 => ?_)
  · exact ok_some ⟨hT, (show WI 28 σ0.1 from by first | exact hW | exact WI_add (B := 28) hW eσ7 eσ10 eσ12 h1 h2 (by simp only [Int32.le_iff_toInt_le, Int32.lt_iff_toInt_lt, ti_add, ti_sub, ti_mul, Int32.reduceToInt] at *; omega))⟩
  · refine ok_gIv rfl hE ?_
    refine ok_if (fun hc4 => ?_) (fun hc4 => ?_)
    · exact ok_some ⟨hT, (show WI 28 σ0.1 from by first | exact hW | exact WI_add (B := 28) hW eσ7 eσ10 eσ12 h1 h2 (by simp only [Int32.le_iff_toInt_le, Int32.lt_iff_toInt_lt, ti_add, ti_sub, ti_mul, Int32.reduceToInt] at *; omega))⟩
    · refine ok_gR (v := 29) hT rfl (hR 28 3 rfl) ?_
      refine ok_gIv rfl hE ?_
      refine ok_s14 hT rfl (by decide) (by first | omega | decide | (simp only [Int32.le_iff_toInt_le, Int32.lt_iff_toInt_lt, ti_add, ti_sub, ti_mul, Int32.reduceToInt] at *; omega)) (by first | omega | decide | (simp only [Int32.le_iff_toInt_le, Int32.lt_iff_toInt_lt, ti_add, ti_sub, ti_mul, Int32.reduceToInt] at *; omega)) (fun σ7 eσ7 hOσ7 hT => ?_)
      have hE : σ7.1 28 2 = σ0.1 28 2 := by rw [hOσ7.2 28 (by decide)] <;> exact hE
      refine ok_gR (v := 30) hT rfl (hR 28 4 rfl) ?_
      refine ok_gIv rfl hE ?_
      refine ok_s14 hT rfl (by decide) (by first | omega | decide | (simp only [Int32.le_iff_toInt_le, Int32.lt_iff_toInt_lt, ti_add, ti_sub, ti_mul, Int32.reduceToInt] at *; omega)) (by first | omega | decide | (simp only [Int32.le_iff_toInt_le, Int32.lt_iff_toInt_lt, ti_add, ti_sub, ti_mul, Int32.reduceToInt] at *; omega)) (fun σ10 eσ10 hOσ10 hT => ?_)
      have hE : σ10.1 28 2 = σ0.1 28 2 := by rw [hOσ10.2 28 (by decide)] <;> exact hE
      refine ok_gIv rfl hE ?_
      refine ok_pI hT rfl (by decide) (fun σ12 eσ12 hOσ12 hT => ?_)
      exact ok_some ⟨hT, (show WI 28 σ12.1 from by first | exact hW | exact WI_add (B := 28) hW eσ7 eσ10 eσ12 h1 h2 (by simp only [Int32.le_iff_toInt_le, Int32.lt_iff_toInt_lt, ti_add, ti_sub, ti_mul, Int32.reduceToInt] at *; omega))⟩
end Zq0_2
section Zq0_3
set_option maxHeartbeats 4000000 in
set_option maxRecDepth 100000 in
theorem s_X0_setsOf {N : Nat} (hN : 1048576 ≤ N) {x0 : Int32} {σ0 : zS}  (hR : RF σ0.2.2)  : Ok (f_X0_setsOf N x0 σ0) (fun r => Tr [] σ0 r.2 ∧ (1 ≤ r.1.toInt ∧ r.1.toInt ≤ 1024)) := by
  have hT : Tr [] σ0 σ0 := Tr.rf
  rw [f_X0_setsOf.eq_1]
  exact ok_some ⟨hT, (show 1 ≤ ((1 : Int32) <<< ((zmax 0 (zmin 10 x0)) &&& 31)).toInt ∧ ((1 : Int32) <<< ((zmax 0 (zmin 10 x0)) &&& 31)).toInt ≤ 1024 from by exact ti_one10 (ti_mm x0).1 (ti_mm x0).2)⟩

set_option maxHeartbeats 4000000 in
set_option maxRecDepth 100000 in
theorem s_X0_raiseAll {N : Nat} (hN : 1048576 ≤ N) {x1 : Nat} {x2 : Int32} {σ0 : zS}  (hR : RF σ0.2.2) (h_x1 : (zKd x1).1 = 2) (hn : x2.toInt ≤ 100) : Ok (f_X0_raiseAll N 99 x1 x2 σ0) (fun r => Tr [] σ0 r.2 ∧ (True)) := by
  have hT : Tr [] σ0 σ0 := Tr.rf
  rw [f_X0_raiseAll.eq_1]
  refine ok_lp (fun t : Int32 × zS => Tr [] σ0 (t.2) ∧ (0 ≤ (t.1).toInt)) (fun t : Int32 × zS => (x2.toInt - (t.1).toInt).toNat) (fun again1 t hI ih2_1 => ?_) N _ (show Tr [] σ0 σ0 ∧ (0 ≤ (0 : Int32).toInt) from ⟨hT, (by first | omega | decide | (simp only [Int32.le_iff_toInt_le, Int32.lt_iff_toInt_lt, ti_add, ti_sub, ti_mul, Int32.reduceToInt] at *; omega))⟩) (show (x2.toInt - (0 : Int32).toInt).toNat < N from (by first | omega | decide | (simp only [Int32.le_iff_toInt_le, Int32.lt_iff_toInt_lt, ti_add, ti_sub, ti_mul, Int32.reduceToInt] at *; omega)))
  obtain ⟨x3_1, σ1⟩ := t
  have hI : Tr [] σ0 σ1 ∧ (0 ≤ x3_1.toInt) := hI
  obtain ⟨hT, hI1⟩ := hI
  rw [F_X0_raiseAll_2.eq_1]
  refine ok_if (fun hc2 => ?_) (fun hc2 => ?_)
  · exact ok_some ⟨hT, trivial⟩
  · refine ok_gC h_x1 ?_
    refine ok_zbT (Q := fun V σ => True) hT (s_X2_raise hN (hR.tr hT) h_x1) (fun _ h9 => absurd h9 List.not_mem_nil) (fun v3 σ4 hOσ4 hT hqv3 => ?_)
    exact ih2_1 (x3_1 + 1, σ4) (show Tr [] σ0 σ4 ∧ (0 ≤ (x3_1 + 1).toInt) from ⟨hT, (by first | omega | decide | (simp only [Int32.le_iff_toInt_le, Int32.lt_iff_toInt_lt, ti_add, ti_sub, ti_mul, Int32.reduceToInt] at *; omega))⟩) (show (x2.toInt - (x3_1 + 1).toInt).toNat < (x2.toInt - x3_1.toInt).toNat from (by first | omega | decide | (simp only [Int32.le_iff_toInt_le, Int32.lt_iff_toInt_lt, ti_add, ti_sub, ti_mul, Int32.reduceToInt] at *; omega)))

set_option maxHeartbeats 4000000 in
set_option maxRecDepth 100000 in
theorem s_X0_lowerAll {N : Nat} (hN : 1048576 ≤ N) {x1 : Nat} {x2 : Int32} {σ0 : zS}  (hR : RF σ0.2.2) (h_x1 : (zKd x1).1 = 2) (hn : x2.toInt ≤ 100) : Ok (f_X0_lowerAll N 99 x1 x2 σ0) (fun r => Tr [] σ0 r.2 ∧ (True)) := by
  have hT : Tr [] σ0 σ0 := Tr.rf
  rw [f_X0_lowerAll.eq_1]
  refine ok_lp (fun t : Int32 × zS => Tr [] σ0 (t.2) ∧ (0 ≤ (t.1).toInt)) (fun t : Int32 × zS => (x2.toInt - (t.1).toInt).toNat) (fun again1 t hI ih2_1 => ?_) N _ (show Tr [] σ0 σ0 ∧ (0 ≤ (0 : Int32).toInt) from ⟨hT, (by first | omega | decide | (simp only [Int32.le_iff_toInt_le, Int32.lt_iff_toInt_lt, ti_add, ti_sub, ti_mul, Int32.reduceToInt] at *; omega))⟩) (show (x2.toInt - (0 : Int32).toInt).toNat < N from (by first | omega | decide | (simp only [Int32.le_iff_toInt_le, Int32.lt_iff_toInt_lt, ti_add, ti_sub, ti_mul, Int32.reduceToInt] at *; omega)))
  obtain ⟨x3_1, σ1⟩ := t
  have hI : Tr [] σ0 σ1 ∧ (0 ≤ x3_1.toInt) := hI
  obtain ⟨hT, hI1⟩ := hI
  rw [F_X0_lowerAll_2.eq_1]
  refine ok_if (fun hc2 => ?_) (fun hc2 => ?_)
  · exact ok_some ⟨hT, trivial⟩
  · refine ok_gC h_x1 ?_
    refine ok_zbT (Q := fun V σ => True) hT (s_X2_lower hN (hR.tr hT) h_x1) (fun _ h9 => absurd h9 List.not_mem_nil) (fun v3 σ4 hOσ4 hT hqv3 => ?_)
    exact ih2_1 (x3_1 + 1, σ4) (show Tr [] σ0 σ4 ∧ (0 ≤ (x3_1 + 1).toInt) from ⟨hT, (by first | omega | decide | (simp only [Int32.le_iff_toInt_le, Int32.lt_iff_toInt_lt, ti_add, ti_sub, ti_mul, Int32.reduceToInt] at *; omega))⟩) (show (x2.toInt - (x3_1 + 1).toInt).toNat < (x2.toInt - x3_1.toInt).toNat from (by first | omega | decide | (simp only [Int32.le_iff_toInt_le, Int32.lt_iff_toInt_lt, ti_add, ti_sub, ti_mul, Int32.reduceToInt] at *; omega)))

set_option maxHeartbeats 4000000 in
set_option maxRecDepth 100000 in
theorem s_X0_becomeMissing {N : Nat} (hN : 1048576 ≤ N) {x1 : Nat} {x2 : Int32} {σ0 : zS}  (hR : RF σ0.2.2) (h_x1 : (zKd x1).1 = 2) (hn : x2.toInt ≤ 100) : Ok (f_X0_becomeMissing N 99 x1 x2 σ0) (fun r => Tr [] σ0 r.2 ∧ (True)) := by
  have hT : Tr [] σ0 σ0 := Tr.rf
  rw [f_X0_becomeMissing.eq_1]
  refine ok_gC rfl ?_
  refine ok_zbT (Q := fun V σ => True) hT (s_X0_raiseAll hN (hR.tr hT) h_x1 (by first | omega | decide | (simp only [Int32.le_iff_toInt_le, Int32.lt_iff_toInt_lt, ti_add, ti_sub, ti_mul, Int32.reduceToInt] at *; omega))) (fun _ h9 => absurd h9 List.not_mem_nil) (fun v1 σ2 hOσ2 hT hqv1 => ?_)
  refine ok_lp (fun t : Int32 × zS => Tr [] σ0 (t.2) ∧ (0 ≤ (t.1).toInt)) (fun t : Int32 × zS => (x2.toInt - (t.1).toInt).toNat) (fun again3 t hI ih8_3 => ?_) N _ (show Tr [] σ0 σ2 ∧ (0 ≤ (0 : Int32).toInt) from ⟨hT, (by first | omega | decide | (simp only [Int32.le_iff_toInt_le, Int32.lt_iff_toInt_lt, ti_add, ti_sub, ti_mul, Int32.reduceToInt] at *; omega))⟩) (show (x2.toInt - (0 : Int32).toInt).toNat < N from (by first | omega | decide | (simp only [Int32.le_iff_toInt_le, Int32.lt_iff_toInt_lt, ti_add, ti_sub, ti_mul, Int32.reduceToInt] at *; omega)))
  obtain ⟨x3_3, σ3⟩ := t
  have hI : Tr [] σ0 σ3 ∧ (0 ≤ x3_3.toInt) := hI
  obtain ⟨hT, hI3⟩ := hI
  rw [F_X0_becomeMissing_8.eq_1]
  refine ok_if (fun hc4 => ?_) (fun hc4 => ?_)
  · exact ok_some ⟨hT, trivial⟩
  · refine ok_gC h_x1 ?_
    refine ok_zbT (Q := fun V σ => True) hT (s_X2_flip hN (hR.tr hT) h_x1) (fun _ h9 => absurd h9 List.not_mem_nil) (fun v5 σ6 hOσ6 hT hqv5 => ?_)
    exact ih8_3 (x3_3 + 1, σ6) (show Tr [] σ0 σ6 ∧ (0 ≤ (x3_3 + 1).toInt) from ⟨hT, (by first | omega | decide | (simp only [Int32.le_iff_toInt_le, Int32.lt_iff_toInt_lt, ti_add, ti_sub, ti_mul, Int32.reduceToInt] at *; omega))⟩) (show (x2.toInt - (x3_3 + 1).toInt).toNat < (x2.toInt - x3_3.toInt).toNat from (by first | omega | decide | (simp only [Int32.le_iff_toInt_le, Int32.lt_iff_toInt_lt, ti_add, ti_sub, ti_mul, Int32.reduceToInt] at *; omega)))

set_option maxHeartbeats 4000000 in
set_option maxRecDepth 100000 in
theorem s_X0_keepLeast {N : Nat} (hN : 1048576 ≤ N) {x1 : Nat} {x2 : Int32} {σ0 : zS}  (hR : RF σ0.2.2) (h_x1 : (zKd x1).1 = 2) (hn : x2.toInt ≤ 100) : Ok (f_X0_keepLeast N 99 x1 x2 σ0) (fun r => Tr [] σ0 r.2 ∧ (True)) := by
  have hT : Tr [] σ0 σ0 := Tr.rf
  rw [f_X0_keepLeast.eq_1]
  refine ok_gR (v := 100) hT rfl (hR 99 0 rfl) ?_
  refine ok_gC rfl ?_
  refine ok_zbT (Q := fun V σ => True) hT (s_X2_clear hN (hR.tr hT) rfl) (fun _ h9 => absurd h9 List.not_mem_nil) (fun v2 σ3 hOσ3 hT hqv2 => ?_)
  refine ok_lp (fun t : Int32 × zS => Tr [] σ0 (t.2) ∧ (0 ≤ (t.1).toInt)) (fun t : Int32 × zS => (x2.toInt - (t.1).toInt).toNat) (fun again4 t hI ih9_4 => ?_) N _ (show Tr [] σ0 σ3 ∧ (0 ≤ (0 : Int32).toInt) from ⟨hT, (by first | omega | decide | (simp only [Int32.le_iff_toInt_le, Int32.lt_iff_toInt_lt, ti_add, ti_sub, ti_mul, Int32.reduceToInt] at *; omega))⟩) (show (x2.toInt - (0 : Int32).toInt).toNat < N from (by first | omega | decide | (simp only [Int32.le_iff_toInt_le, Int32.lt_iff_toInt_lt, ti_add, ti_sub, ti_mul, Int32.reduceToInt] at *; omega)))
  obtain ⟨x3_4, σ4⟩ := t
  have hI : Tr [] σ0 σ4 ∧ (0 ≤ x3_4.toInt) := hI
  obtain ⟨hT, hI4⟩ := hI
  rw [F_X0_keepLeast_9.eq_1]
  refine ok_if (fun hc5 => ?_) (fun hc5 => ?_)
  · refine ok_gR (v := 100) hT rfl (hR 99 0 rfl) ?_
    refine ok_gC rfl ?_
    refine ok_zbT (Q := fun V σ => True) hT (s_X0_raiseAll hN (hR.tr hT) rfl (by first | omega | decide | (simp only [Int32.le_iff_toInt_le, Int32.lt_iff_toInt_lt, ti_add, ti_sub, ti_mul, Int32.reduceToInt] at *; omega))) (fun _ h9 => absurd h9 List.not_mem_nil) (fun v7 σ8 hOσ8 hT hqv7 => ?_)
    refine ok_gR (v := 100) hT rfl (hR 99 0 rfl) ?_
    refine ok_gC h_x1 ?_
    refine ok_zbT (Q := fun V σ => True) hT (s_X2_takeAway hN (hR.tr hT) h_x1 rfl) (fun _ h9 => absurd h9 List.not_mem_nil) (fun v10 σ11 hOσ11 hT hqv10 => ?_)
    exact ok_some ⟨hT, trivial⟩
  · refine ok_gR (v := 102) hT rfl (hR 99 1 rfl) ?_
    refine ok_gC rfl ?_
    refine ok_zbT (Q := fun V σ => True) hT (s_X2_copyFrom hN (hR.tr hT) rfl h_x1) (fun _ h9 => absurd h9 List.not_mem_nil) (fun v13 σ14 hOσ14 hT hqv13 => ?_)
    refine ok_gR (v := 102) hT rfl (hR 99 1 rfl) ?_
    refine ok_gC rfl ?_
    refine ok_zbT (Q := fun V σ => True) hT (s_X2_keepWithout hN (hR.tr hT) rfl) (fun _ h9 => absurd h9 List.not_mem_nil) (fun v16 σ17 hOσ17 hT hqv16 => ?_)
    refine ok_gR (v := 102) hT rfl (hR 99 1 rfl) ?_
    refine ok_gC rfl ?_
    refine ok_zbT (Q := fun V σ => True) hT (s_X2_flip hN (hR.tr hT) rfl) (fun _ h9 => absurd h9 List.not_mem_nil) (fun v19 σ20 hOσ20 hT hqv19 => ?_)
    refine ok_gR (v := 100) hT rfl (hR 99 0 rfl) ?_
    refine ok_gR (v := 102) hT rfl (hR 99 1 rfl) ?_
    refine ok_gC rfl ?_
    refine ok_zbT (Q := fun V σ => True) hT (s_X2_join hN (hR.tr hT) rfl rfl) (fun _ h9 => absurd h9 List.not_mem_nil) (fun v23 σ24 hOσ24 hT hqv23 => ?_)
    exact ih9_4 (x3_4 + 1, σ24) (show Tr [] σ0 σ24 ∧ (0 ≤ (x3_4 + 1).toInt) from ⟨hT, (by first | omega | decide | (simp only [Int32.le_iff_toInt_le, Int32.lt_iff_toInt_lt, ti_add, ti_sub, ti_mul, Int32.reduceToInt] at *; omega))⟩) (show (x2.toInt - (x3_4 + 1).toInt).toNat < (x2.toInt - x3_4.toInt).toNat from (by first | omega | decide | (simp only [Int32.le_iff_toInt_le, Int32.lt_iff_toInt_lt, ti_add, ti_sub, ti_mul, Int32.reduceToInt] at *; omega)))

set_option maxHeartbeats 4000000 in
set_option maxRecDepth 100000 in
theorem s_X0_keepGreatest {N : Nat} (hN : 1048576 ≤ N) {x1 : Nat} {x2 : Int32} {σ0 : zS}  (hR : RF σ0.2.2) (h_x1 : (zKd x1).1 = 2) (hn : x2.toInt ≤ 100) : Ok (f_X0_keepGreatest N 99 x1 x2 σ0) (fun r => Tr [] σ0 r.2 ∧ (True)) := by
  have hT : Tr [] σ0 σ0 := Tr.rf
  rw [f_X0_keepGreatest.eq_1]
  refine ok_gR (v := 100) hT rfl (hR 99 0 rfl) ?_
  refine ok_gC rfl ?_
  refine ok_zbT (Q := fun V σ => True) hT (s_X2_clear hN (hR.tr hT) rfl) (fun _ h9 => absurd h9 List.not_mem_nil) (fun v2 σ3 hOσ3 hT hqv2 => ?_)
  refine ok_lp (fun t : Int32 × zS => Tr [] σ0 (t.2) ∧ (0 ≤ (t.1).toInt)) (fun t : Int32 × zS => (x2.toInt - (t.1).toInt).toNat) (fun again4 t hI ih9_4 => ?_) N _ (show Tr [] σ0 σ3 ∧ (0 ≤ (0 : Int32).toInt) from ⟨hT, (by first | omega | decide | (simp only [Int32.le_iff_toInt_le, Int32.lt_iff_toInt_lt, ti_add, ti_sub, ti_mul, Int32.reduceToInt] at *; omega))⟩) (show (x2.toInt - (0 : Int32).toInt).toNat < N from (by first | omega | decide | (simp only [Int32.le_iff_toInt_le, Int32.lt_iff_toInt_lt, ti_add, ti_sub, ti_mul, Int32.reduceToInt] at *; omega)))
  obtain ⟨x3_4, σ4⟩ := t
  have hI : Tr [] σ0 σ4 ∧ (0 ≤ x3_4.toInt) := hI
  obtain ⟨hT, hI4⟩ := hI
  rw [F_X0_keepGreatest_9.eq_1]
  refine ok_if (fun hc5 => ?_) (fun hc5 => ?_)
  · refine ok_gR (v := 100) hT rfl (hR 99 0 rfl) ?_
    refine ok_gC rfl ?_
    refine ok_zbT (Q := fun V σ => True) hT (s_X0_lowerAll hN (hR.tr hT) rfl (by first | omega | decide | (simp only [Int32.le_iff_toInt_le, Int32.lt_iff_toInt_lt, ti_add, ti_sub, ti_mul, Int32.reduceToInt] at *; omega))) (fun _ h9 => absurd h9 List.not_mem_nil) (fun v7 σ8 hOσ8 hT hqv7 => ?_)
    refine ok_gR (v := 100) hT rfl (hR 99 0 rfl) ?_
    refine ok_gC h_x1 ?_
    refine ok_zbT (Q := fun V σ => True) hT (s_X2_takeAway hN (hR.tr hT) h_x1 rfl) (fun _ h9 => absurd h9 List.not_mem_nil) (fun v10 σ11 hOσ11 hT hqv10 => ?_)
    exact ok_some ⟨hT, trivial⟩
  · refine ok_gR (v := 102) hT rfl (hR 99 1 rfl) ?_
    refine ok_gC rfl ?_
    refine ok_zbT (Q := fun V σ => True) hT (s_X2_copyFrom hN (hR.tr hT) rfl h_x1) (fun _ h9 => absurd h9 List.not_mem_nil) (fun v13 σ14 hOσ14 hT hqv13 => ?_)
    refine ok_gR (v := 102) hT rfl (hR 99 1 rfl) ?_
    refine ok_gC rfl ?_
    refine ok_zbT (Q := fun V σ => True) hT (s_X2_flip hN (hR.tr hT) rfl) (fun _ h9 => absurd h9 List.not_mem_nil) (fun v16 σ17 hOσ17 hT hqv16 => ?_)
    refine ok_gR (v := 102) hT rfl (hR 99 1 rfl) ?_
    refine ok_gC rfl ?_
    refine ok_zbT (Q := fun V σ => True) hT (s_X2_keepWithout hN (hR.tr hT) rfl) (fun _ h9 => absurd h9 List.not_mem_nil) (fun v19 σ20 hOσ20 hT hqv19 => ?_)
    refine ok_gR (v := 100) hT rfl (hR 99 0 rfl) ?_
    refine ok_gR (v := 102) hT rfl (hR 99 1 rfl) ?_
    refine ok_gC rfl ?_
    refine ok_zbT (Q := fun V σ => True) hT (s_X2_join hN (hR.tr hT) rfl rfl) (fun _ h9 => absurd h9 List.not_mem_nil) (fun v23 σ24 hOσ24 hT hqv23 => ?_)
    exact ih9_4 (x3_4 + 1, σ24) (show Tr [] σ0 σ24 ∧ (0 ≤ (x3_4 + 1).toInt) from ⟨hT, (by first | omega | decide | (simp only [Int32.le_iff_toInt_le, Int32.lt_iff_toInt_lt, ti_add, ti_sub, ti_mul, Int32.reduceToInt] at *; omega))⟩) (show (x2.toInt - (x3_4 + 1).toInt).toNat < (x2.toInt - x3_4.toInt).toNat from (by first | omega | decide | (simp only [Int32.le_iff_toInt_le, Int32.lt_iff_toInt_lt, ti_add, ti_sub, ti_mul, Int32.reduceToInt] at *; omega)))

set_option maxHeartbeats 4000000 in
set_option maxRecDepth 100000 in
theorem s_X0_complement {N : Nat} (hN : 1048576 ≤ N) {x1 : Nat} {x2 : Int32} {σ0 : zS}  (hR : RF σ0.2.2) (h_x1 : (zKd x1).1 = 2) : Ok (f_X0_complement N 99 x1 x2 σ0) (fun r => Tr [] σ0 r.2 ∧ (True)) := by
  have hT : Tr [] σ0 σ0 := Tr.rf
  rw [f_X0_complement.eq_1]
  refine ok_gR (v := 100) hT rfl (hR 99 0 rfl) ?_
  refine ok_gC rfl ?_
  refine ok_zbT (Q := fun V σ => True) hT (s_X2_becomeAll hN (hR.tr hT) rfl) (fun _ h9 => absurd h9 List.not_mem_nil) (fun v2 σ3 hOσ3 hT hqv2 => ?_)
  refine ok_gR (v := 100) hT rfl (hR 99 0 rfl) ?_
  refine ok_gC rfl ?_
  refine ok_zbT (Q := fun V σ => True) hT (s_X2_takeAway hN (hR.tr hT) rfl h_x1) (fun _ h9 => absurd h9 List.not_mem_nil) (fun v5 σ6 hOσ6 hT hqv5 => ?_)
  refine ok_gR (v := 100) hT rfl (hR 99 0 rfl) ?_
  refine ok_gC h_x1 ?_
  refine ok_zbT (Q := fun V σ => True) hT (s_X2_copyFrom hN (hR.tr hT) h_x1 rfl) (fun _ h9 => absurd h9 List.not_mem_nil) (fun v8 σ9 hOσ9 hT hqv8 => ?_)
  exact ok_some ⟨hT, trivial⟩

set_option maxHeartbeats 4000000 in
set_option maxRecDepth 100000 in
theorem s_X0_countBelow_106 {N : Nat} (hN : 1048576 ≤ N) {x1 : Nat} {x3 : Int32} {σ0 : zS}  (hR : RF σ0.2.2) (h_x1 : (zKd x1).1 = 2) : Ok (f_X0_countBelow N 99 x1 106 x3 σ0) (fun r => Tr [106] σ0 r.2 ∧ (True)) := by
  have hT : Tr [106] σ0 σ0 := Tr.rf
  rw [f_X0_countBelow.eq_1]
  refine ok_zbT (Q := fun V σ => 1 ≤ V.toInt ∧ V.toInt ≤ 1024) hT (s_X0_setsOf hN (hR.tr hT) ) (fun _ h9 => absurd h9 List.not_mem_nil) (fun v1 σ2 hOσ2 hT hqv1 => ?_)
  have hqv1 : 1 ≤ v1.toInt ∧ v1.toInt ≤ 1024 := hqv1
  refine ok_lp (fun t : Int32 × zS => Tr [106] σ0 (t.2) ∧ (0 ≤ (t.1).toInt)) (fun t : Int32 × zS => (v1.toInt - (t.1).toInt).toNat) (fun again3 t hI ih9_3 => ?_) N _ (show Tr [106] σ0 σ2 ∧ (0 ≤ (0 : Int32).toInt) from ⟨hT, (by first | omega | decide | (simp only [Int32.le_iff_toInt_le, Int32.lt_iff_toInt_lt, ti_add, ti_sub, ti_mul, Int32.reduceToInt] at *; omega))⟩) (show (v1.toInt - (0 : Int32).toInt).toNat < N from (by first | omega | decide | (simp only [Int32.le_iff_toInt_le, Int32.lt_iff_toInt_lt, ti_add, ti_sub, ti_mul, Int32.reduceToInt] at *; omega)))
  obtain ⟨x5_3, σ3⟩ := t
  have hI : Tr [106] σ0 σ3 ∧ (0 ≤ x5_3.toInt) := hI
  obtain ⟨hT, hI3⟩ := hI
  rw [F_X0_countBelow_9.eq_1]
  refine ok_if (fun hc4 => ?_) (fun hc4 => ?_)
  · refine ok_lp (fun t : Int32 × zS => Tr [106] σ0 (t.2) ∧ (1 ≤ (t.1).toInt ∧ (t.1).toInt ≤ 2048)) (fun t : Int32 × zS => (4096 - (t.1).toInt).toNat) (fun again5 t hI ih43_5 => ?_) N _ (show Tr [106] σ0 σ3 ∧ (1 ≤ (1 : Int32).toInt ∧ (1 : Int32).toInt ≤ 2048) from ⟨hT, (by first | omega | decide | (simp only [Int32.le_iff_toInt_le, Int32.lt_iff_toInt_lt, ti_add, ti_sub, ti_mul, Int32.reduceToInt] at *; omega))⟩) (show (4096 - (1 : Int32).toInt).toNat < N from (by first | omega | decide | (simp only [Int32.le_iff_toInt_le, Int32.lt_iff_toInt_lt, ti_add, ti_sub, ti_mul, Int32.reduceToInt] at *; omega)))
    obtain ⟨x5_5, σ5⟩ := t
    have hI : Tr [106] σ0 σ5 ∧ (1 ≤ x5_5.toInt ∧ x5_5.toInt ≤ 2048) := hI
    obtain ⟨hT, hI5⟩ := hI
    rw [F_X0_countBelow_43.eq_1]
    refine ok_if (fun hc6 => ?_) (fun hc6 => ?_)
    · exact ok_some ⟨hT, trivial⟩
    · refine ok_lp (fun t : Int32 × zS => Tr [106] σ0 (t.2) ∧ (x5_5.toInt ≤ (t.1).toInt)) (fun t : Int32 × zS => (v1.toInt - (t.1).toInt).toNat) (fun again7 t hI ih54_7 => ?_) N _ (show Tr [106] σ0 σ5 ∧ (x5_5.toInt ≤ x5_5.toInt) from ⟨hT, (by first | omega | decide | (simp only [Int32.le_iff_toInt_le, Int32.lt_iff_toInt_lt, ti_add, ti_sub, ti_mul, Int32.reduceToInt] at *; omega))⟩) (show (v1.toInt - x5_5.toInt).toNat < N from (by first | omega | decide | (simp only [Int32.le_iff_toInt_le, Int32.lt_iff_toInt_lt, ti_add, ti_sub, ti_mul, Int32.reduceToInt] at *; omega)))
      obtain ⟨x6_7, σ7⟩ := t
      have hI : Tr [106] σ0 σ7 ∧ (x5_5.toInt ≤ x6_7.toInt) := hI
      obtain ⟨hT, hI7⟩ := hI
      rw [F_X0_countBelow_54.eq_1]
      refine ok_if (fun hc8 => ?_) (fun hc8 => ?_)
      · have q1 := ti_shl1 (x := x5_5) (by omega) (by omega)
        exact ih43_5 ((x5_5 : Int32) <<< (1 &&& 31), σ7) (show Tr [106] σ0 σ7 ∧ (1 ≤ ((x5_5 : Int32) <<< (1 &&& 31)).toInt ∧ ((x5_5 : Int32) <<< (1 &&& 31)).toInt ≤ 2048) from ⟨hT, (by first | omega | decide | (simp only [Int32.le_iff_toInt_le, Int32.lt_iff_toInt_lt, ti_add, ti_sub, ti_mul, Int32.reduceToInt] at *; omega))⟩) (show (4096 - ((x5_5 : Int32) <<< (1 &&& 31)).toInt).toNat < (4096 - x5_5.toInt).toNat from (by first | omega | decide | (simp only [Int32.le_iff_toInt_le, Int32.lt_iff_toInt_lt, ti_add, ti_sub, ti_mul, Int32.reduceToInt] at *; omega)))
      · refine ok_if (fun hc9 => ?_) (fun hc9 => ?_)
        · exact ih54_7 (x6_7 + 1, σ7) (show Tr [106] σ0 σ7 ∧ (x5_5.toInt ≤ (x6_7 + 1).toInt) from ⟨hT, (by first | omega | decide | (simp only [Int32.le_iff_toInt_le, Int32.lt_iff_toInt_lt, ti_add, ti_sub, ti_mul, Int32.reduceToInt] at *; omega))⟩) (show (v1.toInt - (x6_7 + 1).toInt).toNat < (v1.toInt - x6_7.toInt).toNat from (by first | omega | decide | (simp only [Int32.le_iff_toInt_le, Int32.lt_iff_toInt_lt, ti_add, ti_sub, ti_mul, Int32.reduceToInt] at *; omega)))
        · refine ok_aIn rfl (by first | omega | decide | (simp only [Int32.le_iff_toInt_le, Int32.lt_iff_toInt_lt, ti_add, ti_sub, ti_mul, Int32.reduceToInt] at *; omega)) (by first | omega | decide | (simp only [Int32.le_iff_toInt_le, Int32.lt_iff_toInt_lt, ti_add, ti_sub, ti_mul, Int32.reduceToInt] at *; omega)) (fun v10 ev10 => ?_)
          refine ok_aIn rfl (by first | omega | decide | (simp only [Int32.le_iff_toInt_le, Int32.lt_iff_toInt_lt, ti_add, ti_sub, ti_mul, Int32.reduceToInt] at *; omega)) (by first | omega | decide | (simp only [Int32.le_iff_toInt_le, Int32.lt_iff_toInt_lt, ti_add, ti_sub, ti_mul, Int32.reduceToInt] at *; omega)) (fun v11 ev11 => ?_)
          refine ok_s14 hT rfl (by decide) (by first | omega | decide | (simp only [Int32.le_iff_toInt_le, Int32.lt_iff_toInt_lt, ti_add, ti_sub, ti_mul, Int32.reduceToInt] at *; omega)) (by first | omega | decide | (simp only [Int32.le_iff_toInt_le, Int32.lt_iff_toInt_lt, ti_add, ti_sub, ti_mul, Int32.reduceToInt] at *; omega)) (fun σ12 eσ12 hOσ12 hT => ?_)
          exact ih54_7 (x6_7 + 1, σ12) (show Tr [106] σ0 σ12 ∧ (x5_5.toInt ≤ (x6_7 + 1).toInt) from ⟨hT, (by first | omega | decide | (simp only [Int32.le_iff_toInt_le, Int32.lt_iff_toInt_lt, ti_add, ti_sub, ti_mul, Int32.reduceToInt] at *; omega))⟩) (show (v1.toInt - (x6_7 + 1).toInt).toNat < (v1.toInt - x6_7.toInt).toNat from (by first | omega | decide | (simp only [Int32.le_iff_toInt_le, Int32.lt_iff_toInt_lt, ti_add, ti_sub, ti_mul, Int32.reduceToInt] at *; omega)))
  · refine ok_gC h_x1 ?_
    refine ok_zbT (Q := fun V σ => V = 0 ∨ V = 1) hT (s_X2_holds hN (hR.tr hT) h_x1) (fun _ h9 => absurd h9 List.not_mem_nil) (fun v13 σ14 hOσ14 hT hqv13 => ?_)
    have hqv13 : v13 = 0 ∨ v13 = 1 := hqv13
    refine ok_if (fun hc15 => ?_) (fun hc15 => ?_)
    · refine ok_s14 hT rfl (by decide) (by first | omega | decide | (simp only [Int32.le_iff_toInt_le, Int32.lt_iff_toInt_lt, ti_add, ti_sub, ti_mul, Int32.reduceToInt] at *; omega)) (by first | omega | decide | (simp only [Int32.le_iff_toInt_le, Int32.lt_iff_toInt_lt, ti_add, ti_sub, ti_mul, Int32.reduceToInt] at *; omega)) (fun σ16 eσ16 hOσ16 hT => ?_)
      exact ih9_3 (x5_3 + 1, σ16) (show Tr [106] σ0 σ16 ∧ (0 ≤ (x5_3 + 1).toInt) from ⟨hT, (by first | omega | decide | (simp only [Int32.le_iff_toInt_le, Int32.lt_iff_toInt_lt, ti_add, ti_sub, ti_mul, Int32.reduceToInt] at *; omega))⟩) (show (v1.toInt - (x5_3 + 1).toInt).toNat < (v1.toInt - x5_3.toInt).toNat from (by first | omega | decide | (simp only [Int32.le_iff_toInt_le, Int32.lt_iff_toInt_lt, ti_add, ti_sub, ti_mul, Int32.reduceToInt] at *; omega)))
    · refine ok_s14 hT rfl (by decide) (by first | omega | decide | (simp only [Int32.le_iff_toInt_le, Int32.lt_iff_toInt_lt, ti_add, ti_sub, ti_mul, Int32.reduceToInt] at *; omega)) (by first | omega | decide | (simp only [Int32.le_iff_toInt_le, Int32.lt_iff_toInt_lt, ti_add, ti_sub, ti_mul, Int32.reduceToInt] at *; omega)) (fun σ17 eσ17 hOσ17 hT => ?_)
      exact ih9_3 (x5_3 + 1, σ17) (show Tr [106] σ0 σ17 ∧ (0 ≤ (x5_3 + 1).toInt) from ⟨hT, (by first | omega | decide | (simp only [Int32.le_iff_toInt_le, Int32.lt_iff_toInt_lt, ti_add, ti_sub, ti_mul, Int32.reduceToInt] at *; omega))⟩) (show (v1.toInt - (x5_3 + 1).toInt).toNat < (v1.toInt - x5_3.toInt).toNat from (by first | omega | decide | (simp only [Int32.le_iff_toInt_le, Int32.lt_iff_toInt_lt, ti_add, ti_sub, ti_mul, Int32.reduceToInt] at *; omega)))

set_option maxHeartbeats 4000000 in
set_option maxRecDepth 100000 in
theorem s_X0_countBelow_107 {N : Nat} (hN : 1048576 ≤ N) {x1 : Nat} {x3 : Int32} {σ0 : zS}  (hR : RF σ0.2.2) (h_x1 : (zKd x1).1 = 2) : Ok (f_X0_countBelow N 99 x1 107 x3 σ0) (fun r => Tr [107] σ0 r.2 ∧ (True)) := by
  have hT : Tr [107] σ0 σ0 := Tr.rf
  rw [f_X0_countBelow.eq_1]
  refine ok_zbT (Q := fun V σ => 1 ≤ V.toInt ∧ V.toInt ≤ 1024) hT (s_X0_setsOf hN (hR.tr hT) ) (fun _ h9 => absurd h9 List.not_mem_nil) (fun v1 σ2 hOσ2 hT hqv1 => ?_)
  have hqv1 : 1 ≤ v1.toInt ∧ v1.toInt ≤ 1024 := hqv1
  refine ok_lp (fun t : Int32 × zS => Tr [107] σ0 (t.2) ∧ (0 ≤ (t.1).toInt)) (fun t : Int32 × zS => (v1.toInt - (t.1).toInt).toNat) (fun again3 t hI ih9_3 => ?_) N _ (show Tr [107] σ0 σ2 ∧ (0 ≤ (0 : Int32).toInt) from ⟨hT, (by first | omega | decide | (simp only [Int32.le_iff_toInt_le, Int32.lt_iff_toInt_lt, ti_add, ti_sub, ti_mul, Int32.reduceToInt] at *; omega))⟩) (show (v1.toInt - (0 : Int32).toInt).toNat < N from (by first | omega | decide | (simp only [Int32.le_iff_toInt_le, Int32.lt_iff_toInt_lt, ti_add, ti_sub, ti_mul, Int32.reduceToInt] at *; omega)))
  obtain ⟨x5_3, σ3⟩ := t
  have hI : Tr [107] σ0 σ3 ∧ (0 ≤ x5_3.toInt) := hI
  obtain ⟨hT, hI3⟩ := hI
  rw [F_X0_countBelow_9.eq_1]
  refine ok_if (fun hc4 => ?_) (fun hc4 => ?_)
  · refine ok_lp (fun t : Int32 × zS => Tr [107] σ0 (t.2) ∧ (1 ≤ (t.1).toInt ∧ (t.1).toInt ≤ 2048)) (fun t : Int32 × zS => (4096 - (t.1).toInt).toNat) (fun again5 t hI ih43_5 => ?_) N _ (show Tr [107] σ0 σ3 ∧ (1 ≤ (1 : Int32).toInt ∧ (1 : Int32).toInt ≤ 2048) from ⟨hT, (by first | omega | decide | (simp only [Int32.le_iff_toInt_le, Int32.lt_iff_toInt_lt, ti_add, ti_sub, ti_mul, Int32.reduceToInt] at *; omega))⟩) (show (4096 - (1 : Int32).toInt).toNat < N from (by first | omega | decide | (simp only [Int32.le_iff_toInt_le, Int32.lt_iff_toInt_lt, ti_add, ti_sub, ti_mul, Int32.reduceToInt] at *; omega)))
    obtain ⟨x5_5, σ5⟩ := t
    have hI : Tr [107] σ0 σ5 ∧ (1 ≤ x5_5.toInt ∧ x5_5.toInt ≤ 2048) := hI
    obtain ⟨hT, hI5⟩ := hI
    rw [F_X0_countBelow_43.eq_1]
    refine ok_if (fun hc6 => ?_) (fun hc6 => ?_)
    · exact ok_some ⟨hT, trivial⟩
    · refine ok_lp (fun t : Int32 × zS => Tr [107] σ0 (t.2) ∧ (x5_5.toInt ≤ (t.1).toInt)) (fun t : Int32 × zS => (v1.toInt - (t.1).toInt).toNat) (fun again7 t hI ih54_7 => ?_) N _ (show Tr [107] σ0 σ5 ∧ (x5_5.toInt ≤ x5_5.toInt) from ⟨hT, (by first | omega | decide | (simp only [Int32.le_iff_toInt_le, Int32.lt_iff_toInt_lt, ti_add, ti_sub, ti_mul, Int32.reduceToInt] at *; omega))⟩) (show (v1.toInt - x5_5.toInt).toNat < N from (by first | omega | decide | (simp only [Int32.le_iff_toInt_le, Int32.lt_iff_toInt_lt, ti_add, ti_sub, ti_mul, Int32.reduceToInt] at *; omega)))
      obtain ⟨x6_7, σ7⟩ := t
      have hI : Tr [107] σ0 σ7 ∧ (x5_5.toInt ≤ x6_7.toInt) := hI
      obtain ⟨hT, hI7⟩ := hI
      rw [F_X0_countBelow_54.eq_1]
      refine ok_if (fun hc8 => ?_) (fun hc8 => ?_)
      · have q1 := ti_shl1 (x := x5_5) (by omega) (by omega)
        exact ih43_5 ((x5_5 : Int32) <<< (1 &&& 31), σ7) (show Tr [107] σ0 σ7 ∧ (1 ≤ ((x5_5 : Int32) <<< (1 &&& 31)).toInt ∧ ((x5_5 : Int32) <<< (1 &&& 31)).toInt ≤ 2048) from ⟨hT, (by first | omega | decide | (simp only [Int32.le_iff_toInt_le, Int32.lt_iff_toInt_lt, ti_add, ti_sub, ti_mul, Int32.reduceToInt] at *; omega))⟩) (show (4096 - ((x5_5 : Int32) <<< (1 &&& 31)).toInt).toNat < (4096 - x5_5.toInt).toNat from (by first | omega | decide | (simp only [Int32.le_iff_toInt_le, Int32.lt_iff_toInt_lt, ti_add, ti_sub, ti_mul, Int32.reduceToInt] at *; omega)))
      · refine ok_if (fun hc9 => ?_) (fun hc9 => ?_)
        · exact ih54_7 (x6_7 + 1, σ7) (show Tr [107] σ0 σ7 ∧ (x5_5.toInt ≤ (x6_7 + 1).toInt) from ⟨hT, (by first | omega | decide | (simp only [Int32.le_iff_toInt_le, Int32.lt_iff_toInt_lt, ti_add, ti_sub, ti_mul, Int32.reduceToInt] at *; omega))⟩) (show (v1.toInt - (x6_7 + 1).toInt).toNat < (v1.toInt - x6_7.toInt).toNat from (by first | omega | decide | (simp only [Int32.le_iff_toInt_le, Int32.lt_iff_toInt_lt, ti_add, ti_sub, ti_mul, Int32.reduceToInt] at *; omega)))
        · refine ok_aIn rfl (by first | omega | decide | (simp only [Int32.le_iff_toInt_le, Int32.lt_iff_toInt_lt, ti_add, ti_sub, ti_mul, Int32.reduceToInt] at *; omega)) (by first | omega | decide | (simp only [Int32.le_iff_toInt_le, Int32.lt_iff_toInt_lt, ti_add, ti_sub, ti_mul, Int32.reduceToInt] at *; omega)) (fun v10 ev10 => ?_)
          refine ok_aIn rfl (by first | omega | decide | (simp only [Int32.le_iff_toInt_le, Int32.lt_iff_toInt_lt, ti_add, ti_sub, ti_mul, Int32.reduceToInt] at *; omega)) (by first | omega | decide | (simp only [Int32.le_iff_toInt_le, Int32.lt_iff_toInt_lt, ti_add, ti_sub, ti_mul, Int32.reduceToInt] at *; omega)) (fun v11 ev11 => ?_)
          refine ok_s14 hT rfl (by decide) (by first | omega | decide | (simp only [Int32.le_iff_toInt_le, Int32.lt_iff_toInt_lt, ti_add, ti_sub, ti_mul, Int32.reduceToInt] at *; omega)) (by first | omega | decide | (simp only [Int32.le_iff_toInt_le, Int32.lt_iff_toInt_lt, ti_add, ti_sub, ti_mul, Int32.reduceToInt] at *; omega)) (fun σ12 eσ12 hOσ12 hT => ?_)
          exact ih54_7 (x6_7 + 1, σ12) (show Tr [107] σ0 σ12 ∧ (x5_5.toInt ≤ (x6_7 + 1).toInt) from ⟨hT, (by first | omega | decide | (simp only [Int32.le_iff_toInt_le, Int32.lt_iff_toInt_lt, ti_add, ti_sub, ti_mul, Int32.reduceToInt] at *; omega))⟩) (show (v1.toInt - (x6_7 + 1).toInt).toNat < (v1.toInt - x6_7.toInt).toNat from (by first | omega | decide | (simp only [Int32.le_iff_toInt_le, Int32.lt_iff_toInt_lt, ti_add, ti_sub, ti_mul, Int32.reduceToInt] at *; omega)))
  · refine ok_gC h_x1 ?_
    refine ok_zbT (Q := fun V σ => V = 0 ∨ V = 1) hT (s_X2_holds hN (hR.tr hT) h_x1) (fun _ h9 => absurd h9 List.not_mem_nil) (fun v13 σ14 hOσ14 hT hqv13 => ?_)
    have hqv13 : v13 = 0 ∨ v13 = 1 := hqv13
    refine ok_if (fun hc15 => ?_) (fun hc15 => ?_)
    · refine ok_s14 hT rfl (by decide) (by first | omega | decide | (simp only [Int32.le_iff_toInt_le, Int32.lt_iff_toInt_lt, ti_add, ti_sub, ti_mul, Int32.reduceToInt] at *; omega)) (by first | omega | decide | (simp only [Int32.le_iff_toInt_le, Int32.lt_iff_toInt_lt, ti_add, ti_sub, ti_mul, Int32.reduceToInt] at *; omega)) (fun σ16 eσ16 hOσ16 hT => ?_)
      exact ih9_3 (x5_3 + 1, σ16) (show Tr [107] σ0 σ16 ∧ (0 ≤ (x5_3 + 1).toInt) from ⟨hT, (by first | omega | decide | (simp only [Int32.le_iff_toInt_le, Int32.lt_iff_toInt_lt, ti_add, ti_sub, ti_mul, Int32.reduceToInt] at *; omega))⟩) (show (v1.toInt - (x5_3 + 1).toInt).toNat < (v1.toInt - x5_3.toInt).toNat from (by first | omega | decide | (simp only [Int32.le_iff_toInt_le, Int32.lt_iff_toInt_lt, ti_add, ti_sub, ti_mul, Int32.reduceToInt] at *; omega)))
    · refine ok_s14 hT rfl (by decide) (by first | omega | decide | (simp only [Int32.le_iff_toInt_le, Int32.lt_iff_toInt_lt, ti_add, ti_sub, ti_mul, Int32.reduceToInt] at *; omega)) (by first | omega | decide | (simp only [Int32.le_iff_toInt_le, Int32.lt_iff_toInt_lt, ti_add, ti_sub, ti_mul, Int32.reduceToInt] at *; omega)) (fun σ17 eσ17 hOσ17 hT => ?_)
      exact ih9_3 (x5_3 + 1, σ17) (show Tr [107] σ0 σ17 ∧ (0 ≤ (x5_3 + 1).toInt) from ⟨hT, (by first | omega | decide | (simp only [Int32.le_iff_toInt_le, Int32.lt_iff_toInt_lt, ti_add, ti_sub, ti_mul, Int32.reduceToInt] at *; omega))⟩) (show (v1.toInt - (x5_3 + 1).toInt).toNat < (v1.toInt - x5_3.toInt).toNat from (by first | omega | decide | (simp only [Int32.le_iff_toInt_le, Int32.lt_iff_toInt_lt, ti_add, ti_sub, ti_mul, Int32.reduceToInt] at *; omega)))

set_option maxHeartbeats 4000000 in
set_option maxRecDepth 100000 in
theorem s_X0_multiply {N : Nat} (hN : 1048576 ≤ N) {x1 : Nat} {x2 : Nat} {x3 : Int32} {σ0 : zS}  (hR : RF σ0.2.2) (h_x1 : (zKd x1).1 = 2) (h_x2 : (zKd x2).1 = 2) : Ok (f_X0_multiply N 99 x1 x2 x3 σ0) (fun r => Tr [106, 107] σ0 r.2 ∧ (True)) := by
  have hT : Tr [106, 107] σ0 σ0 := Tr.rf
  rw [f_X0_multiply.eq_1]
  refine ok_gR (v := 106) hT rfl (hR 99 3 rfl) ?_
  refine ok_gC rfl ?_
  refine ok_zbT (Q := fun V σ => True) hT (s_X0_countBelow_106 hN (hR.tr hT) h_x1) (by decide) (fun v2 σ3 hOσ3 hT hqv2 => ?_)
  refine ok_gR (v := 107) hT rfl (hR 99 4 rfl) ?_
  refine ok_gC rfl ?_
  refine ok_zbT (Q := fun V σ => True) hT (s_X0_countBelow_107 hN (hR.tr hT) h_x2) (by decide) (fun v5 σ6 hOσ6 hT hqv5 => ?_)
  refine ok_zbT (Q := fun V σ => 1 ≤ V.toInt ∧ V.toInt ≤ 1024) hT (s_X0_setsOf hN (hR.tr hT) ) (fun _ h9 => absurd h9 List.not_mem_nil) (fun v7 σ8 hOσ8 hT hqv7 => ?_)
  have hqv7 : 1 ≤ v7.toInt ∧ v7.toInt ≤ 1024 := hqv7
  refine ok_lp (fun t : Int32 × zS => Tr [106, 107] σ0 (t.2) ∧ (0 ≤ (t.1).toInt)) (fun t : Int32 × zS => (v7.toInt - (t.1).toInt).toNat) (fun again9 t hI ih29_9 => ?_) N _ (show Tr [106, 107] σ0 σ8 ∧ (0 ≤ (0 : Int32).toInt) from ⟨hT, (by first | omega | decide | (simp only [Int32.le_iff_toInt_le, Int32.lt_iff_toInt_lt, ti_add, ti_sub, ti_mul, Int32.reduceToInt] at *; omega))⟩) (show (v7.toInt - (0 : Int32).toInt).toNat < N from (by first | omega | decide | (simp only [Int32.le_iff_toInt_le, Int32.lt_iff_toInt_lt, ti_add, ti_sub, ti_mul, Int32.reduceToInt] at *; omega)))
  obtain ⟨x5_9, σ9⟩ := t
  have hI : Tr [106, 107] σ0 σ9 ∧ (0 ≤ x5_9.toInt) := hI
  obtain ⟨hT, hI9⟩ := hI
  rw [F_X0_multiply_29.eq_1]
  refine ok_if (fun hc10 => ?_) (fun hc10 => ?_)
  · refine ok_lp (fun t : Int32 × zS => Tr [106, 107] σ0 (t.2) ∧ (1 ≤ (t.1).toInt ∧ (t.1).toInt ≤ 2048)) (fun t : Int32 × zS => (4096 - (t.1).toInt).toNat) (fun again11 t hI ih62_11 => ?_) N _ (show Tr [106, 107] σ0 σ9 ∧ (1 ≤ (1 : Int32).toInt ∧ (1 : Int32).toInt ≤ 2048) from ⟨hT, (by first | omega | decide | (simp only [Int32.le_iff_toInt_le, Int32.lt_iff_toInt_lt, ti_add, ti_sub, ti_mul, Int32.reduceToInt] at *; omega))⟩) (show (4096 - (1 : Int32).toInt).toNat < N from (by first | omega | decide | (simp only [Int32.le_iff_toInt_le, Int32.lt_iff_toInt_lt, ti_add, ti_sub, ti_mul, Int32.reduceToInt] at *; omega)))
    obtain ⟨x5_11, σ11⟩ := t
    have hI : Tr [106, 107] σ0 σ11 ∧ (1 ≤ x5_11.toInt ∧ x5_11.toInt ≤ 2048) := hI
    obtain ⟨hT, hI11⟩ := hI
    rw [F_X0_multiply_62.eq_1]
    refine ok_if (fun hc12 => ?_) (fun hc12 => ?_)
    · refine ok_gC h_x1 ?_
      refine ok_zbT (Q := fun V σ => True) hT (s_X2_clear hN (hR.tr hT) h_x1) (fun _ h9 => absurd h9 List.not_mem_nil) (fun v13 σ14 hOσ14 hT hqv13 => ?_)
      refine ok_lp (fun t : Int32 × zS => Tr [106, 107] σ0 (t.2) ∧ (0 ≤ (t.1).toInt)) (fun t : Int32 × zS => (v7.toInt - (t.1).toInt).toNat) (fun again15 t hI ih130_15 => ?_) N _ (show Tr [106, 107] σ0 σ14 ∧ (0 ≤ (0 : Int32).toInt) from ⟨hT, (by first | omega | decide | (simp only [Int32.le_iff_toInt_le, Int32.lt_iff_toInt_lt, ti_add, ti_sub, ti_mul, Int32.reduceToInt] at *; omega))⟩) (show (v7.toInt - (0 : Int32).toInt).toNat < N from (by first | omega | decide | (simp only [Int32.le_iff_toInt_le, Int32.lt_iff_toInt_lt, ti_add, ti_sub, ti_mul, Int32.reduceToInt] at *; omega)))
      obtain ⟨x5_15, σ15⟩ := t
      have hI : Tr [106, 107] σ0 σ15 ∧ (0 ≤ x5_15.toInt) := hI
      obtain ⟨hT, hI15⟩ := hI
      rw [F_X0_multiply_130.eq_1]
      refine ok_if (fun hc16 => ?_) (fun hc16 => ?_)
      · exact ok_some ⟨hT, trivial⟩
      · refine ok_gR (v := 106) hT rfl (hR 99 3 rfl) ?_
        refine ok_aIn rfl (by first | omega | decide | (simp only [Int32.le_iff_toInt_le, Int32.lt_iff_toInt_lt, ti_add, ti_sub, ti_mul, Int32.reduceToInt] at *; omega)) (by first | omega | decide | (simp only [Int32.le_iff_toInt_le, Int32.lt_iff_toInt_lt, ti_add, ti_sub, ti_mul, Int32.reduceToInt] at *; omega)) (fun v18 ev18 => ?_)
        refine ok_if (fun hc19 => ?_) (fun hc19 => ?_)
        · exact ih130_15 (x5_15 + 1, σ15) (show Tr [106, 107] σ0 σ15 ∧ (0 ≤ (x5_15 + 1).toInt) from ⟨hT, (by first | omega | decide | (simp only [Int32.le_iff_toInt_le, Int32.lt_iff_toInt_lt, ti_add, ti_sub, ti_mul, Int32.reduceToInt] at *; omega))⟩) (show (v7.toInt - (x5_15 + 1).toInt).toNat < (v7.toInt - x5_15.toInt).toNat from (by first | omega | decide | (simp only [Int32.le_iff_toInt_le, Int32.lt_iff_toInt_lt, ti_add, ti_sub, ti_mul, Int32.reduceToInt] at *; omega)))
        · refine ok_gC h_x1 ?_
          refine ok_zbT (Q := fun V σ => True) hT (s_X2_include hN (hR.tr hT) h_x1) (fun _ h9 => absurd h9 List.not_mem_nil) (fun v20 σ21 hOσ21 hT hqv20 => ?_)
          exact ih130_15 (x5_15 + 1, σ21) (show Tr [106, 107] σ0 σ21 ∧ (0 ≤ (x5_15 + 1).toInt) from ⟨hT, (by first | omega | decide | (simp only [Int32.le_iff_toInt_le, Int32.lt_iff_toInt_lt, ti_add, ti_sub, ti_mul, Int32.reduceToInt] at *; omega))⟩) (show (v7.toInt - (x5_15 + 1).toInt).toNat < (v7.toInt - x5_15.toInt).toNat from (by first | omega | decide | (simp only [Int32.le_iff_toInt_le, Int32.lt_iff_toInt_lt, ti_add, ti_sub, ti_mul, Int32.reduceToInt] at *; omega)))
    · refine ok_lp (fun t : Int32 × zS => Tr [106, 107] σ0 (t.2) ∧ (x5_11.toInt ≤ (t.1).toInt)) (fun t : Int32 × zS => (v7.toInt - (t.1).toInt).toNat) (fun again22 t hI ih73_22 => ?_) N _ (show Tr [106, 107] σ0 σ11 ∧ (x5_11.toInt ≤ x5_11.toInt) from ⟨hT, (by first | omega | decide | (simp only [Int32.le_iff_toInt_le, Int32.lt_iff_toInt_lt, ti_add, ti_sub, ti_mul, Int32.reduceToInt] at *; omega))⟩) (show (v7.toInt - x5_11.toInt).toNat < N from (by first | omega | decide | (simp only [Int32.le_iff_toInt_le, Int32.lt_iff_toInt_lt, ti_add, ti_sub, ti_mul, Int32.reduceToInt] at *; omega)))
      obtain ⟨x6_22, σ22⟩ := t
      have hI : Tr [106, 107] σ0 σ22 ∧ (x5_11.toInt ≤ x6_22.toInt) := hI
      obtain ⟨hT, hI22⟩ := hI
      rw [F_X0_multiply_73.eq_1]
      refine ok_if (fun hc23 => ?_) (fun hc23 => ?_)
      · have q1 := ti_shl1 (x := x5_11) (by omega) (by omega)
        exact ih62_11 ((x5_11 : Int32) <<< (1 &&& 31), σ22) (show Tr [106, 107] σ0 σ22 ∧ (1 ≤ ((x5_11 : Int32) <<< (1 &&& 31)).toInt ∧ ((x5_11 : Int32) <<< (1 &&& 31)).toInt ≤ 2048) from ⟨hT, (by first | omega | decide | (simp only [Int32.le_iff_toInt_le, Int32.lt_iff_toInt_lt, ti_add, ti_sub, ti_mul, Int32.reduceToInt] at *; omega))⟩) (show (4096 - ((x5_11 : Int32) <<< (1 &&& 31)).toInt).toNat < (4096 - x5_11.toInt).toNat from (by first | omega | decide | (simp only [Int32.le_iff_toInt_le, Int32.lt_iff_toInt_lt, ti_add, ti_sub, ti_mul, Int32.reduceToInt] at *; omega)))
      · refine ok_if (fun hc24 => ?_) (fun hc24 => ?_)
        · exact ih73_22 (x6_22 + 1, σ22) (show Tr [106, 107] σ0 σ22 ∧ (x5_11.toInt ≤ (x6_22 + 1).toInt) from ⟨hT, (by first | omega | decide | (simp only [Int32.le_iff_toInt_le, Int32.lt_iff_toInt_lt, ti_add, ti_sub, ti_mul, Int32.reduceToInt] at *; omega))⟩) (show (v7.toInt - (x6_22 + 1).toInt).toNat < (v7.toInt - x6_22.toInt).toNat from (by first | omega | decide | (simp only [Int32.le_iff_toInt_le, Int32.lt_iff_toInt_lt, ti_add, ti_sub, ti_mul, Int32.reduceToInt] at *; omega)))
        · refine ok_gR (v := 106) hT rfl (hR 99 3 rfl) ?_
          refine ok_aIn rfl (by first | omega | decide | (simp only [Int32.le_iff_toInt_le, Int32.lt_iff_toInt_lt, ti_add, ti_sub, ti_mul, Int32.reduceToInt] at *; omega)) (by first | omega | decide | (simp only [Int32.le_iff_toInt_le, Int32.lt_iff_toInt_lt, ti_add, ti_sub, ti_mul, Int32.reduceToInt] at *; omega)) (fun v26 ev26 => ?_)
          refine ok_gR (v := 106) hT rfl (hR 99 3 rfl) ?_
          refine ok_aIn rfl (by first | omega | decide | (simp only [Int32.le_iff_toInt_le, Int32.lt_iff_toInt_lt, ti_add, ti_sub, ti_mul, Int32.reduceToInt] at *; omega)) (by first | omega | decide | (simp only [Int32.le_iff_toInt_le, Int32.lt_iff_toInt_lt, ti_add, ti_sub, ti_mul, Int32.reduceToInt] at *; omega)) (fun v28 ev28 => ?_)
          refine ok_s14 hT rfl (by decide) (by first | omega | decide | (simp only [Int32.le_iff_toInt_le, Int32.lt_iff_toInt_lt, ti_add, ti_sub, ti_mul, Int32.reduceToInt] at *; omega)) (by first | omega | decide | (simp only [Int32.le_iff_toInt_le, Int32.lt_iff_toInt_lt, ti_add, ti_sub, ti_mul, Int32.reduceToInt] at *; omega)) (fun σ29 eσ29 hOσ29 hT => ?_)
          exact ih73_22 (x6_22 + 1, σ29) (show Tr [106, 107] σ0 σ29 ∧ (x5_11.toInt ≤ (x6_22 + 1).toInt) from ⟨hT, (by first | omega | decide | (simp only [Int32.le_iff_toInt_le, Int32.lt_iff_toInt_lt, ti_add, ti_sub, ti_mul, Int32.reduceToInt] at *; omega))⟩) (show (v7.toInt - (x6_22 + 1).toInt).toNat < (v7.toInt - x6_22.toInt).toNat from (by first | omega | decide | (simp only [Int32.le_iff_toInt_le, Int32.lt_iff_toInt_lt, ti_add, ti_sub, ti_mul, Int32.reduceToInt] at *; omega)))
  · refine ok_gR (v := 106) hT rfl (hR 99 3 rfl) ?_
    refine ok_aIn rfl (by first | omega | decide | (simp only [Int32.le_iff_toInt_le, Int32.lt_iff_toInt_lt, ti_add, ti_sub, ti_mul, Int32.reduceToInt] at *; omega)) (by first | omega | decide | (simp only [Int32.le_iff_toInt_le, Int32.lt_iff_toInt_lt, ti_add, ti_sub, ti_mul, Int32.reduceToInt] at *; omega)) (fun v31 ev31 => ?_)
    refine ok_gR (v := 107) hT rfl (hR 99 4 rfl) ?_
    refine ok_aIn rfl (by first | omega | decide | (simp only [Int32.le_iff_toInt_le, Int32.lt_iff_toInt_lt, ti_add, ti_sub, ti_mul, Int32.reduceToInt] at *; omega)) (by first | omega | decide | (simp only [Int32.le_iff_toInt_le, Int32.lt_iff_toInt_lt, ti_add, ti_sub, ti_mul, Int32.reduceToInt] at *; omega)) (fun v33 ev33 => ?_)
    refine ok_s14 hT rfl (by decide) (by first | omega | decide | (simp only [Int32.le_iff_toInt_le, Int32.lt_iff_toInt_lt, ti_add, ti_sub, ti_mul, Int32.reduceToInt] at *; omega)) (by first | omega | decide | (simp only [Int32.le_iff_toInt_le, Int32.lt_iff_toInt_lt, ti_add, ti_sub, ti_mul, Int32.reduceToInt] at *; omega)) (fun σ34 eσ34 hOσ34 hT => ?_)
    exact ih29_9 (x5_9 + 1, σ34) (show Tr [106, 107] σ0 σ34 ∧ (0 ≤ (x5_9 + 1).toInt) from ⟨hT, (by first | omega | decide | (simp only [Int32.le_iff_toInt_le, Int32.lt_iff_toInt_lt, ti_add, ti_sub, ti_mul, Int32.reduceToInt] at *; omega))⟩) (show (v7.toInt - (x5_9 + 1).toInt).toNat < (v7.toInt - x5_9.toInt).toNat from (by first | omega | decide | (simp only [Int32.le_iff_toInt_le, Int32.lt_iff_toInt_lt, ti_add, ti_sub, ti_mul, Int32.reduceToInt] at *; omega)))

set_option maxHeartbeats 4000000 in
set_option maxRecDepth 100000 in
theorem s_X0_allJoined {N : Nat} (hN : 1048576 ≤ N) {x1 : Nat} {x2 : Nat} {x3 : Int32} {σ0 : zS}  (hR : RF σ0.2.2) (h_x1 : (zKd x1).1 = 2) (h_x2 : (zKd x2).1 = 2) : Ok (f_X0_allJoined N 99 x1 x2 x3 σ0) (fun r => Tr [] σ0 r.2 ∧ (r.1 = 0 ∨ r.1 = 1)) := by
  have hT : Tr [] σ0 σ0 := Tr.rf
  rw [f_X0_allJoined.eq_1]
  refine ok_gC h_x2 ?_
  refine ok_zbT (Q := fun V σ => -1 ≤ V.toInt ∧ V.toInt ≤ 1023) hT (s_X2_firstFrom hN (hR.tr hT) h_x2) (fun _ h9 => absurd h9 List.not_mem_nil) (fun v1 σ2 hOσ2 hT hqv1 => ?_)
  have hqv1 : -1 ≤ v1.toInt ∧ v1.toInt ≤ 1023 := hqv1
  refine ok_lp (fun t : Int32 × Int32 × zS => Tr [] σ0 (t.2.2) ∧ (0 ≤ (t.2.1).toInt)) (fun t : Int32 × Int32 × zS => (1024 - (t.2.1).toInt).toNat) (fun again3 t hI ih10_3 => ?_) N _ (show Tr [] σ0 σ2 ∧ (0 ≤ (0 : Int32).toInt) from ⟨hT, (by first | omega | decide | (simp only [Int32.le_iff_toInt_le, Int32.lt_iff_toInt_lt, ti_add, ti_sub, ti_mul, Int32.reduceToInt] at *; omega))⟩) (show (1024 - (0 : Int32).toInt).toNat < N from (by first | omega | decide | (simp only [Int32.le_iff_toInt_le, Int32.lt_iff_toInt_lt, ti_add, ti_sub, ti_mul, Int32.reduceToInt] at *; omega)))
  obtain ⟨x4_3, x5_3, σ3⟩ := t
  have hI : Tr [] σ0 σ3 ∧ (0 ≤ x5_3.toInt) := hI
  obtain ⟨hT, hI3⟩ := hI
  rw [F_X0_allJoined_10.eq_1]
  refine ok_if (fun hc4 => ?_) (fun hc4 => ?_)
  · exact ok_rZ (Or.inr rfl) ⟨hT, (show (1 : Int32) = 0 ∨ (1 : Int32) = 1 from by first | exact Or.inl rfl | exact Or.inr rfl)⟩
  · refine ok_if (fun hc5 => ?_) (fun hc5 => ?_)
    · exact ok_rZ (Or.inr rfl) ⟨hT, (show (1 : Int32) = 0 ∨ (1 : Int32) = 1 from by first | exact Or.inl rfl | exact Or.inr rfl)⟩
    · refine ok_gC h_x1 ?_
      refine ok_zbT (Q := fun V σ => V = 0 ∨ V = 1) hT (s_X2_holds hN (hR.tr hT) h_x1) (fun _ h9 => absurd h9 List.not_mem_nil) (fun v6 σ7 hOσ7 hT hqv6 => ?_)
      have hqv6 : v6 = 0 ∨ v6 = 1 := hqv6
      refine ok_if (fun hc8 => ?_) (fun hc8 => ?_)
      · exact ok_rZ (Or.inl rfl) ⟨hT, (show (0 : Int32) = 0 ∨ (0 : Int32) = 1 from by first | exact Or.inl rfl | exact Or.inr rfl)⟩
      · refine ok_gC h_x2 ?_
        refine ok_zbT (Q := fun V σ => -1 ≤ V.toInt ∧ V.toInt ≤ 1023) hT (s_X2_firstFrom hN (hR.tr hT) h_x2) (fun _ h9 => absurd h9 List.not_mem_nil) (fun v9 σ10 hOσ10 hT hqv9 => ?_)
        have hqv9 : -1 ≤ v9.toInt ∧ v9.toInt ≤ 1023 := hqv9
        exact ih10_3 (v9, x5_3 + 1, σ10) (show Tr [] σ0 σ10 ∧ (0 ≤ (x5_3 + 1).toInt) from ⟨hT, (by first | omega | decide | (simp only [Int32.le_iff_toInt_le, Int32.lt_iff_toInt_lt, ti_add, ti_sub, ti_mul, Int32.reduceToInt] at *; omega))⟩) (show (1024 - (x5_3 + 1).toInt).toNat < (1024 - x5_3.toInt).toNat from (by first | omega | decide | (simp only [Int32.le_iff_toInt_le, Int32.lt_iff_toInt_lt, ti_add, ti_sub, ti_mul, Int32.reduceToInt] at *; omega)))

set_option maxHeartbeats 4000000 in
set_option maxRecDepth 100000 in
theorem s_X0_namesUsed {N : Nat} (hN : 1048576 ≤ N) {x1 : Nat} {x2 : Int32} {σ0 : zS}  (hR : RF σ0.2.2) (h_x1 : (zKd x1).1 = 2) (hn : x2.toInt ≤ 100) : Ok (f_X0_namesUsed N 99 x1 x2 σ0) (fun r => Tr [] σ0 r.2 ∧ (True)) := by
  have hT : Tr [] σ0 σ0 := Tr.rf
  rw [f_X0_namesUsed.eq_1]
  refine ok_lp (fun t : Int32 × Int32 × zS => Tr [] σ0 (t.2.2) ∧ (0 ≤ (t.2.1).toInt)) (fun t : Int32 × Int32 × zS => (x2.toInt - (t.2.1).toInt).toNat) (fun again1 t hI ih5_1 => ?_) N _ (show Tr [] σ0 σ0 ∧ (0 ≤ (0 : Int32).toInt) from ⟨hT, (by first | omega | decide | (simp only [Int32.le_iff_toInt_le, Int32.lt_iff_toInt_lt, ti_add, ti_sub, ti_mul, Int32.reduceToInt] at *; omega))⟩) (show (x2.toInt - (0 : Int32).toInt).toNat < N from (by first | omega | decide | (simp only [Int32.le_iff_toInt_le, Int32.lt_iff_toInt_lt, ti_add, ti_sub, ti_mul, Int32.reduceToInt] at *; omega)))
  obtain ⟨x3_1, x4_1, σ1⟩ := t
  have hI : Tr [] σ0 σ1 ∧ (0 ≤ x4_1.toInt) := hI
  obtain ⟨hT, hI1⟩ := hI
  rw [F_X0_namesUsed_5.eq_1]
  refine ok_if (fun hc2 => ?_) (fun hc2 => ?_)
  · exact ok_some ⟨hT, trivial⟩
  · refine ok_gR (v := 102) hT rfl (hR 99 1 rfl) ?_
    refine ok_gC rfl ?_
    refine ok_zbT (Q := fun V σ => True) hT (s_X2_copyFrom hN (hR.tr hT) rfl h_x1) (fun _ h9 => absurd h9 List.not_mem_nil) (fun v4 σ5 hOσ5 hT hqv4 => ?_)
    refine ok_gR (v := 102) hT rfl (hR 99 1 rfl) ?_
    refine ok_gC rfl ?_
    refine ok_zbT (Q := fun V σ => True) hT (s_X2_keepWithout hN (hR.tr hT) rfl) (fun _ h9 => absurd h9 List.not_mem_nil) (fun v7 σ8 hOσ8 hT hqv7 => ?_)
    refine ok_gR (v := 102) hT rfl (hR 99 1 rfl) ?_
    refine ok_gC rfl ?_
    refine ok_zbT (Q := fun V σ => V = 0 ∨ V = 1) hT (s_X2_sameAs hN (hR.tr hT) rfl h_x1) (fun _ h9 => absurd h9 List.not_mem_nil) (fun v10 σ11 hOσ11 hT hqv10 => ?_)
    have hqv10 : v10 = 0 ∨ v10 = 1 := hqv10
    refine ok_if (fun hc12 => ?_) (fun hc12 => ?_)
    · exact ih5_1 (x3_1 ||| ((1 : Int32) <<< (x4_1 &&& 31)), x4_1 + 1, σ11) (show Tr [] σ0 σ11 ∧ (0 ≤ (x4_1 + 1).toInt) from ⟨hT, (by first | omega | decide | (simp only [Int32.le_iff_toInt_le, Int32.lt_iff_toInt_lt, ti_add, ti_sub, ti_mul, Int32.reduceToInt] at *; omega))⟩) (show (x2.toInt - (x4_1 + 1).toInt).toNat < (x2.toInt - x4_1.toInt).toNat from (by first | omega | decide | (simp only [Int32.le_iff_toInt_le, Int32.lt_iff_toInt_lt, ti_add, ti_sub, ti_mul, Int32.reduceToInt] at *; omega)))
    · exact ih5_1 (x3_1, x4_1 + 1, σ11) (show Tr [] σ0 σ11 ∧ (0 ≤ (x4_1 + 1).toInt) from ⟨hT, (by first | omega | decide | (simp only [Int32.le_iff_toInt_le, Int32.lt_iff_toInt_lt, ti_add, ti_sub, ti_mul, Int32.reduceToInt] at *; omega))⟩) (show (x2.toInt - (x4_1 + 1).toInt).toNat < (x2.toInt - x4_1.toInt).toNat from (by first | omega | decide | (simp only [Int32.le_iff_toInt_le, Int32.lt_iff_toInt_lt, ti_add, ti_sub, ti_mul, Int32.reduceToInt] at *; omega)))

set_option maxHeartbeats 4000000 in
set_option maxRecDepth 100000 in
theorem s_X0_divide {N : Nat} (hN : 1048576 ≤ N) {x1 : Nat} {x2 : Nat} {x3 : Int32} {σ0 : zS}  (hR : RF σ0.2.2) (h_x1 : (zKd x1).1 = 2) (h_x2 : (zKd x2).1 = 2) (hn : x3.toInt ≤ 100) : Ok (f_X0_divide N 99 x1 x2 x3 σ0) (fun r => Tr [] σ0 r.2 ∧ (True)) := by
  have hT : Tr [] σ0 σ0 := Tr.rf
  rw [f_X0_divide.eq_1]
  refine ok_gR (v := 100) hT rfl (hR 99 0 rfl) ?_
  refine ok_gC rfl ?_
  refine ok_zbT (Q := fun V σ => True) hT (s_X2_clear hN (hR.tr hT) rfl) (fun _ h9 => absurd h9 List.not_mem_nil) (fun v2 σ3 hOσ3 hT hqv2 => ?_)
  refine ok_gC h_x2 ?_
  refine ok_zbT (Q := fun V σ => V = 0 ∨ V = 1) hT (s_X2_isEmpty hN (hR.tr hT) h_x2) (fun _ h9 => absurd h9 List.not_mem_nil) (fun v4 σ5 hOσ5 hT hqv4 => ?_)
  have hqv4 : v4 = 0 ∨ v4 = 1 := hqv4
  refine ok_if (fun hc6 => ?_) (fun hc6 => ?_)
  · refine ok_gC rfl ?_
    refine ok_zbT (Q := fun V σ => True) hT (s_X0_namesUsed hN (hR.tr hT) h_x2 (by first | omega | decide | (simp only [Int32.le_iff_toInt_le, Int32.lt_iff_toInt_lt, ti_add, ti_sub, ti_mul, Int32.reduceToInt] at *; omega))) (fun _ h9 => absurd h9 List.not_mem_nil) (fun v7 σ8 hOσ8 hT hqv7 => ?_)
    refine ok_zbT (Q := fun V σ => 1 ≤ V.toInt ∧ V.toInt ≤ 1024) hT (s_X0_setsOf hN (hR.tr hT) ) (fun _ h9 => absurd h9 List.not_mem_nil) (fun v9 σ10 hOσ10 hT hqv9 => ?_)
    have hqv9 : 1 ≤ v9.toInt ∧ v9.toInt ≤ 1024 := hqv9
    refine ok_lp (fun t : Int32 × zS => Tr [] σ0 (t.2) ∧ (0 ≤ (t.1).toInt)) (fun t : Int32 × zS => (v9.toInt - (t.1).toInt).toNat) (fun again11 t hI ih31_11 => ?_) N _ (show Tr [] σ0 σ10 ∧ (0 ≤ (0 : Int32).toInt) from ⟨hT, (by first | omega | decide | (simp only [Int32.le_iff_toInt_le, Int32.lt_iff_toInt_lt, ti_add, ti_sub, ti_mul, Int32.reduceToInt] at *; omega))⟩) (show (v9.toInt - (0 : Int32).toInt).toNat < N from (by first | omega | decide | (simp only [Int32.le_iff_toInt_le, Int32.lt_iff_toInt_lt, ti_add, ti_sub, ti_mul, Int32.reduceToInt] at *; omega)))
    obtain ⟨x6_11, σ11⟩ := t
    have hI : Tr [] σ0 σ11 ∧ (0 ≤ x6_11.toInt) := hI
    obtain ⟨hT, hI11⟩ := hI
    rw [F_X0_divide_31.eq_1]
    refine ok_if (fun hc12 => ?_) (fun hc12 => ?_)
    · refine ok_gR (v := 100) hT rfl (hR 99 0 rfl) ?_
      refine ok_gC h_x1 ?_
      refine ok_zbT (Q := fun V σ => True) hT (s_X2_copyFrom hN (hR.tr hT) h_x1 rfl) (fun _ h9 => absurd h9 List.not_mem_nil) (fun v14 σ15 hOσ15 hT hqv14 => ?_)
      exact ok_some ⟨hT, trivial⟩
    · refine ok_if (fun hc16 => ?_) (fun hc16 => ?_)
      · refine ok_gC rfl ?_
        refine ok_zbT (Q := fun V σ => V = 0 ∨ V = 1) hT (s_X0_allJoined hN (hR.tr hT) h_x1 h_x2) (fun _ h9 => absurd h9 List.not_mem_nil) (fun v17 σ18 hOσ18 hT hqv17 => ?_)
        have hqv17 : v17 = 0 ∨ v17 = 1 := hqv17
        refine ok_if (fun hc19 => ?_) (fun hc19 => ?_)
        · exact ih31_11 (x6_11 + 1, σ18) (show Tr [] σ0 σ18 ∧ (0 ≤ (x6_11 + 1).toInt) from ⟨hT, (by first | omega | decide | (simp only [Int32.le_iff_toInt_le, Int32.lt_iff_toInt_lt, ti_add, ti_sub, ti_mul, Int32.reduceToInt] at *; omega))⟩) (show (v9.toInt - (x6_11 + 1).toInt).toNat < (v9.toInt - x6_11.toInt).toNat from (by first | omega | decide | (simp only [Int32.le_iff_toInt_le, Int32.lt_iff_toInt_lt, ti_add, ti_sub, ti_mul, Int32.reduceToInt] at *; omega)))
        · refine ok_gR (v := 100) hT rfl (hR 99 0 rfl) ?_
          refine ok_gC rfl ?_
          refine ok_zbT (Q := fun V σ => True) hT (s_X2_include hN (hR.tr hT) rfl) (fun _ h9 => absurd h9 List.not_mem_nil) (fun v21 σ22 hOσ22 hT hqv21 => ?_)
          exact ih31_11 (x6_11 + 1, σ22) (show Tr [] σ0 σ22 ∧ (0 ≤ (x6_11 + 1).toInt) from ⟨hT, (by first | omega | decide | (simp only [Int32.le_iff_toInt_le, Int32.lt_iff_toInt_lt, ti_add, ti_sub, ti_mul, Int32.reduceToInt] at *; omega))⟩) (show (v9.toInt - (x6_11 + 1).toInt).toNat < (v9.toInt - x6_11.toInt).toNat from (by first | omega | decide | (simp only [Int32.le_iff_toInt_le, Int32.lt_iff_toInt_lt, ti_add, ti_sub, ti_mul, Int32.reduceToInt] at *; omega)))
      · exact ih31_11 (x6_11 + 1, σ11) (show Tr [] σ0 σ11 ∧ (0 ≤ (x6_11 + 1).toInt) from ⟨hT, (by first | omega | decide | (simp only [Int32.le_iff_toInt_le, Int32.lt_iff_toInt_lt, ti_add, ti_sub, ti_mul, Int32.reduceToInt] at *; omega))⟩) (show (v9.toInt - (x6_11 + 1).toInt).toNat < (v9.toInt - x6_11.toInt).toNat from (by first | omega | decide | (simp only [Int32.le_iff_toInt_le, Int32.lt_iff_toInt_lt, ti_add, ti_sub, ti_mul, Int32.reduceToInt] at *; omega)))
  · refine ok_gR (v := 100) hT rfl (hR 99 0 rfl) ?_
    refine ok_gC h_x1 ?_
    refine ok_zbT (Q := fun V σ => True) hT (s_X2_copyFrom hN (hR.tr hT) h_x1 rfl) (fun _ h9 => absurd h9 List.not_mem_nil) (fun v24 σ25 hOσ25 hT hqv24 => ?_)
    exact ok_some ⟨hT, trivial⟩

set_option maxHeartbeats 4000000 in
set_option maxRecDepth 100000 in
theorem s_X0_disjointPairs {N : Nat} (hN : 1048576 ≤ N) {x1 : Nat} {x2 : Nat} {x3 : Int32} {σ0 : zS}  (hR : RF σ0.2.2) (h_x1 : (zKd x1).1 = 2) (h_x2 : (zKd x2).1 = 2) : Ok (f_X0_disjointPairs N 99 x1 x2 x3 σ0) (fun r => Tr [107] σ0 r.2 ∧ (True)) := by
  have hT : Tr [107] σ0 σ0 := Tr.rf
  rw [f_X0_disjointPairs.eq_1]
  refine ok_gR (v := 107) hT rfl (hR 99 4 rfl) ?_
  refine ok_gC rfl ?_
  refine ok_zbT (Q := fun V σ => True) hT (s_X0_countBelow_107 hN (hR.tr hT) h_x2) (by decide) (fun v2 σ3 hOσ3 hT hqv2 => ?_)
  refine ok_zbT (Q := fun V σ => 1 ≤ V.toInt ∧ V.toInt ≤ 1024) hT (s_X0_setsOf hN (hR.tr hT) ) (fun _ h9 => absurd h9 List.not_mem_nil) (fun v4 σ5 hOσ5 hT hqv4 => ?_)
  have hqv4 : 1 ≤ v4.toInt ∧ v4.toInt ≤ 1024 := hqv4
  refine ok_lp (fun t : Int32 × Int32 × zS => Tr [107] σ0 (t.2.2) ∧ (0 ≤ (t.2.1).toInt)) (fun t : Int32 × Int32 × zS => (v4.toInt - (t.2.1).toInt).toNat) (fun again6 t hI ih22_6 => ?_) N _ (show Tr [107] σ0 σ5 ∧ (0 ≤ (0 : Int32).toInt) from ⟨hT, (by first | omega | decide | (simp only [Int32.le_iff_toInt_le, Int32.lt_iff_toInt_lt, ti_add, ti_sub, ti_mul, Int32.reduceToInt] at *; omega))⟩) (show (v4.toInt - (0 : Int32).toInt).toNat < N from (by first | omega | decide | (simp only [Int32.le_iff_toInt_le, Int32.lt_iff_toInt_lt, ti_add, ti_sub, ti_mul, Int32.reduceToInt] at *; omega)))
  obtain ⟨x5_6, x6_6, σ6⟩ := t
  have hI : Tr [107] σ0 σ6 ∧ (0 ≤ x6_6.toInt) := hI
  obtain ⟨hT, hI6⟩ := hI
  rw [F_X0_disjointPairs_22.eq_1]
  refine ok_if (fun hc7 => ?_) (fun hc7 => ?_)
  · exact ok_some ⟨hT, trivial⟩
  · refine ok_gC h_x1 ?_
    refine ok_zbT (Q := fun V σ => V = 0 ∨ V = 1) hT (s_X2_holds hN (hR.tr hT) h_x1) (fun _ h9 => absurd h9 List.not_mem_nil) (fun v8 σ9 hOσ9 hT hqv8 => ?_)
    have hqv8 : v8 = 0 ∨ v8 = 1 := hqv8
    refine ok_if (fun hc10 => ?_) (fun hc10 => ?_)
    · exact ih22_6 (x5_6, x6_6 + 1, σ9) (show Tr [107] σ0 σ9 ∧ (0 ≤ (x6_6 + 1).toInt) from ⟨hT, (by first | omega | decide | (simp only [Int32.le_iff_toInt_le, Int32.lt_iff_toInt_lt, ti_add, ti_sub, ti_mul, Int32.reduceToInt] at *; omega))⟩) (show (v4.toInt - (x6_6 + 1).toInt).toNat < (v4.toInt - x6_6.toInt).toNat from (by first | omega | decide | (simp only [Int32.le_iff_toInt_le, Int32.lt_iff_toInt_lt, ti_add, ti_sub, ti_mul, Int32.reduceToInt] at *; omega)))
    · refine ok_gR (v := 107) hT rfl (hR 99 4 rfl) ?_
      refine ok_aIn rfl (by first | omega | decide | (simp only [Int32.le_iff_toInt_le, Int32.lt_iff_toInt_lt, ti_add, ti_sub, ti_mul, Int32.reduceToInt] at *; omega)) (by first | omega | decide | (simp only [Int32.le_iff_toInt_le, Int32.lt_iff_toInt_lt, ti_add, ti_sub, ti_mul, Int32.reduceToInt] at *; omega)) (fun v12 ev12 => ?_)
      exact ih22_6 (x5_6 + v12, x6_6 + 1, σ9) (show Tr [107] σ0 σ9 ∧ (0 ≤ (x6_6 + 1).toInt) from ⟨hT, (by first | omega | decide | (simp only [Int32.le_iff_toInt_le, Int32.lt_iff_toInt_lt, ti_add, ti_sub, ti_mul, Int32.reduceToInt] at *; omega))⟩) (show (v4.toInt - (x6_6 + 1).toInt).toNat < (v4.toInt - x6_6.toInt).toNat from (by first | omega | decide | (simp only [Int32.le_iff_toInt_le, Int32.lt_iff_toInt_lt, ti_add, ti_sub, ti_mul, Int32.reduceToInt] at *; omega)))

set_option maxHeartbeats 4000000 in
set_option maxRecDepth 100000 in
theorem s_X0_combine {N : Nat} (hN : 1048576 ≤ N) {x1 : Int32} {x2 : Nat} {x3 : Nat} {x4 : Int32} {σ0 : zS}  (hR : RF σ0.2.2) (h_x2 : (zKd x2).1 = 2) (h_x3 : (zKd x3).1 = 2) (hn : x4.toInt ≤ 100) : Ok (f_X0_combine N 99 x1 x2 x3 x4 σ0) (fun r => Tr [106, 107] σ0 r.2 ∧ (True)) := by
  have hT : Tr [106, 107] σ0 σ0 := Tr.rf
  rw [f_X0_combine.eq_1]
  refine ok_if (fun hc1 => ?_) (fun hc1 => ?_)
  · refine ok_gC h_x2 ?_
    refine ok_zbT (Q := fun V σ => True) hT (s_X2_join hN (hR.tr hT) h_x2 h_x3) (fun _ h9 => absurd h9 List.not_mem_nil) (fun v2 σ3 hOσ3 hT hqv2 => ?_)
    exact ok_some ⟨hT, trivial⟩
  refine ok_if (fun hc4 => ?_) (fun hc4 => ?_)
  · refine ok_gC h_x2 ?_
    refine ok_zbT (Q := fun V σ => True) hT (s_X2_takeAway hN (hR.tr hT) h_x2 h_x3) (fun _ h9 => absurd h9 List.not_mem_nil) (fun v5 σ6 hOσ6 hT hqv5 => ?_)
    exact ok_some ⟨hT, trivial⟩
  refine ok_if (fun hc7 => ?_) (fun hc7 => ?_)
  · refine ok_gC h_x2 ?_
    refine ok_zbT (Q := fun V σ => True) hT (s_X2_cutBy hN (hR.tr hT) h_x2 h_x3) (fun _ h9 => absurd h9 List.not_mem_nil) (fun v8 σ9 hOσ9 hT hqv8 => ?_)
    exact ok_some ⟨hT, trivial⟩
  refine ok_if (fun hc10 => ?_) (fun hc10 => ?_)
  · refine ok_gC rfl ?_
    refine ok_zbT (Q := fun V σ => True) hT (s_X0_multiply hN (hR.tr hT) h_x2 h_x3) (by decide) (fun v11 σ12 hOσ12 hT hqv11 => ?_)
    exact ok_some ⟨hT, trivial⟩
  refine ok_if (fun hc13 => ?_) (fun hc13 => ?_)
  · refine ok_gC rfl ?_
    refine ok_zbT (Q := fun V σ => True) hT (s_X0_divide hN (hR.tr hT) h_x2 h_x3 (by first | omega | decide | (simp only [Int32.le_iff_toInt_le, Int32.lt_iff_toInt_lt, ti_add, ti_sub, ti_mul, Int32.reduceToInt] at *; omega))) (fun _ h9 => absurd h9 List.not_mem_nil) (fun v14 σ15 hOσ15 hT hqv14 => ?_)
    exact ok_some ⟨hT, trivial⟩
  refine ok_if (fun hc16 => ?_) (fun hc16 => ?_)
  · refine ok_gR (v := 104) hT rfl (hR 99 2 rfl) ?_
    refine ok_gC rfl ?_
    refine ok_zbT (Q := fun V σ => True) hT (s_X2_copyFrom hN (hR.tr hT) rfl h_x2) (fun _ h9 => absurd h9 List.not_mem_nil) (fun v18 σ19 hOσ19 hT hqv18 => ?_)
    refine ok_gC rfl ?_
    refine ok_zbT (Q := fun V σ => True) hT (s_X0_divide hN (hR.tr hT) h_x2 h_x3 (by first | omega | decide | (simp only [Int32.le_iff_toInt_le, Int32.lt_iff_toInt_lt, ti_add, ti_sub, ti_mul, Int32.reduceToInt] at *; omega))) (fun _ h9 => absurd h9 List.not_mem_nil) (fun v20 σ21 hOσ21 hT hqv20 => ?_)
    refine ok_gC rfl ?_
    refine ok_zbT (Q := fun V σ => True) hT (s_X0_multiply hN (hR.tr hT) h_x2 h_x3) (by decide) (fun v22 σ23 hOσ23 hT hqv22 => ?_)
    refine ok_gR (v := 104) hT rfl (hR 99 2 rfl) ?_
    refine ok_gC rfl ?_
    refine ok_zbT (Q := fun V σ => True) hT (s_X2_takeAway hN (hR.tr hT) rfl h_x2) (fun _ h9 => absurd h9 List.not_mem_nil) (fun v25 σ26 hOσ26 hT hqv25 => ?_)
    refine ok_gR (v := 104) hT rfl (hR 99 2 rfl) ?_
    refine ok_gC h_x2 ?_
    refine ok_zbT (Q := fun V σ => True) hT (s_X2_copyFrom hN (hR.tr hT) h_x2 rfl) (fun _ h9 => absurd h9 List.not_mem_nil) (fun v28 σ29 hOσ29 hT hqv28 => ?_)
    exact ok_some ⟨hT, trivial⟩
  refine ok_gR (v := 100) hT rfl (hR 99 0 rfl) ?_
  refine ok_gC rfl ?_
  refine ok_zbT (Q := fun V σ => True) hT (s_X2_copyFrom hN (hR.tr hT) rfl h_x3) (fun _ h9 => absurd h9 List.not_mem_nil) (fun v31 σ32 hOσ32 hT hqv31 => ?_)
  refine ok_gR (v := 100) hT rfl (hR 99 0 rfl) ?_
  refine ok_gC rfl ?_
  refine ok_zbT (Q := fun V σ => True) hT (s_X0_becomeMissing hN (hR.tr hT) rfl (by first | omega | decide | (simp only [Int32.le_iff_toInt_le, Int32.lt_iff_toInt_lt, ti_add, ti_sub, ti_mul, Int32.reduceToInt] at *; omega))) (fun _ h9 => absurd h9 List.not_mem_nil) (fun v34 σ35 hOσ35 hT hqv34 => ?_)
  refine ok_gR (v := 100) hT rfl (hR 99 0 rfl) ?_
  refine ok_gC h_x2 ?_
  refine ok_zbT (Q := fun V σ => True) hT (s_X2_takeAway hN (hR.tr hT) h_x2 rfl) (fun _ h9 => absurd h9 List.not_mem_nil) (fun v37 σ38 hOσ38 hT hqv37 => ?_)
  exact ok_some ⟨hT, trivial⟩

set_option maxHeartbeats 4000000 in
set_option maxRecDepth 100000 in
theorem s_X0_reshape {N : Nat} (hN : 1048576 ≤ N) {x1 : Int32} {x2 : Nat} {x3 : Int32} {σ0 : zS}  (hR : RF σ0.2.2) (h_x2 : (zKd x2).1 = 2) (hn : x3.toInt ≤ 100) : Ok (f_X0_reshape N 99 x1 x2 x3 σ0) (fun r => Tr [] σ0 r.2 ∧ (True)) := by
  have hT : Tr [] σ0 σ0 := Tr.rf
  rw [f_X0_reshape.eq_1]
  refine ok_if (fun hc1 => ?_) (fun hc1 => ?_)
  · refine ok_gC rfl ?_
    refine ok_zbT (Q := fun V σ => True) hT (s_X0_keepLeast hN (hR.tr hT) h_x2 (by first | omega | decide | (simp only [Int32.le_iff_toInt_le, Int32.lt_iff_toInt_lt, ti_add, ti_sub, ti_mul, Int32.reduceToInt] at *; omega))) (fun _ h9 => absurd h9 List.not_mem_nil) (fun v2 σ3 hOσ3 hT hqv2 => ?_)
    exact ok_some ⟨hT, trivial⟩
  refine ok_if (fun hc4 => ?_) (fun hc4 => ?_)
  · refine ok_gC rfl ?_
    refine ok_zbT (Q := fun V σ => True) hT (s_X0_keepGreatest hN (hR.tr hT) h_x2 (by first | omega | decide | (simp only [Int32.le_iff_toInt_le, Int32.lt_iff_toInt_lt, ti_add, ti_sub, ti_mul, Int32.reduceToInt] at *; omega))) (fun _ h9 => absurd h9 List.not_mem_nil) (fun v5 σ6 hOσ6 hT hqv5 => ?_)
    exact ok_some ⟨hT, trivial⟩
  refine ok_if (fun hc7 => ?_) (fun hc7 => ?_)
  · refine ok_gC rfl ?_
    refine ok_zbT (Q := fun V σ => True) hT (s_X0_becomeMissing hN (hR.tr hT) h_x2 (by first | omega | decide | (simp only [Int32.le_iff_toInt_le, Int32.lt_iff_toInt_lt, ti_add, ti_sub, ti_mul, Int32.reduceToInt] at *; omega))) (fun _ h9 => absurd h9 List.not_mem_nil) (fun v8 σ9 hOσ9 hT hqv8 => ?_)
    refine ok_gC rfl ?_
    refine ok_zbT (Q := fun V σ => True) hT (s_X0_complement hN (hR.tr hT) h_x2) (fun _ h9 => absurd h9 List.not_mem_nil) (fun v10 σ11 hOσ11 hT hqv10 => ?_)
    refine ok_gC rfl ?_
    refine ok_zbT (Q := fun V σ => True) hT (s_X0_keepLeast hN (hR.tr hT) h_x2 (by first | omega | decide | (simp only [Int32.le_iff_toInt_le, Int32.lt_iff_toInt_lt, ti_add, ti_sub, ti_mul, Int32.reduceToInt] at *; omega))) (fun _ h9 => absurd h9 List.not_mem_nil) (fun v12 σ13 hOσ13 hT hqv12 => ?_)
    exact ok_some ⟨hT, trivial⟩
  refine ok_if (fun hc14 => ?_) (fun hc14 => ?_)
  · refine ok_gC rfl ?_
    refine ok_zbT (Q := fun V σ => True) hT (s_X0_complement hN (hR.tr hT) h_x2) (fun _ h9 => absurd h9 List.not_mem_nil) (fun v15 σ16 hOσ16 hT hqv15 => ?_)
    exact ok_some ⟨hT, trivial⟩
  refine ok_if (fun hc17 => ?_) (fun hc17 => ?_)
  · refine ok_gC rfl ?_
    refine ok_zbT (Q := fun V σ => True) hT (s_X0_raiseAll hN (hR.tr hT) h_x2 (by first | omega | decide | (simp only [Int32.le_iff_toInt_le, Int32.lt_iff_toInt_lt, ti_add, ti_sub, ti_mul, Int32.reduceToInt] at *; omega))) (fun _ h9 => absurd h9 List.not_mem_nil) (fun v18 σ19 hOσ19 hT hqv18 => ?_)
    exact ok_some ⟨hT, trivial⟩
  refine ok_if (fun hc20 => ?_) (fun hc20 => ?_)
  · refine ok_gC rfl ?_
    refine ok_zbT (Q := fun V σ => True) hT (s_X0_lowerAll hN (hR.tr hT) h_x2 (by first | omega | decide | (simp only [Int32.le_iff_toInt_le, Int32.lt_iff_toInt_lt, ti_add, ti_sub, ti_mul, Int32.reduceToInt] at *; omega))) (fun _ h9 => absurd h9 List.not_mem_nil) (fun v21 σ22 hOσ22 hT hqv21 => ?_)
    exact ok_some ⟨hT, trivial⟩
  exact ok_some ⟨hT, trivial⟩
end Zq0_3
section Zq0_4
set_option maxHeartbeats 4000000 in
set_option maxRecDepth 100000 in
theorem s_J7_fill_53178_110 {N : Nat} (hN : 1048576 ≤ N) {x1 : Int32} {σ0 : zS}  (hR : RF σ0.2.2)  : Ok (f_J7_fill_53178 N 110 x1 σ0) (fun r => Tr [110] σ0 r.2 ∧ (True)) := by
  have hT : Tr [110] σ0 σ0 := Tr.rf
  rw [f_J7_fill_53178.eq_1]
  refine ok_aL (n := 991) rfl ?_
  rw [show Int32.ofNat 991 = 991 from rfl]
  refine ok_lp (fun t : Int32 × zS => Tr [110] σ0 (t.2) ∧ (0 ≤ (t.1).toInt)) (fun t : Int32 × zS => ((991 : Int32).toInt - (t.1).toInt).toNat) (fun again2 t hI ih5_2 => ?_) N _ (show Tr [110] σ0 σ0 ∧ (0 ≤ (0 : Int32).toInt) from ⟨hT, (by first | omega | decide | (simp only [Int32.le_iff_toInt_le, Int32.lt_iff_toInt_lt, ti_add, ti_sub, ti_mul, Int32.reduceToInt] at *; omega))⟩) (show ((991 : Int32).toInt - (0 : Int32).toInt).toNat < N from (by first | omega | decide | (simp only [Int32.le_iff_toInt_le, Int32.lt_iff_toInt_lt, ti_add, ti_sub, ti_mul, Int32.reduceToInt] at *; omega)))
  obtain ⟨x2_2, σ2⟩ := t
  have hI : Tr [110] σ0 σ2 ∧ (0 ≤ x2_2.toInt) := hI
  obtain ⟨hT, hI2⟩ := hI
  rw [F_J7_fill_53178_5.eq_1]
  refine ok_if (fun hc3 => ?_) (fun hc3 => ?_)
  · exact ok_some ⟨hT, trivial⟩
  · refine ok_s14 hT rfl (by decide) (by first | omega | decide | (simp only [Int32.le_iff_toInt_le, Int32.lt_iff_toInt_lt, ti_add, ti_sub, ti_mul, Int32.reduceToInt] at *; omega)) (by first | omega | decide | (simp only [Int32.le_iff_toInt_le, Int32.lt_iff_toInt_lt, ti_add, ti_sub, ti_mul, Int32.reduceToInt] at *; omega)) (fun σ4 eσ4 hOσ4 hT => ?_)
    exact ih5_2 (x2_2 + 1, σ4) (show Tr [110] σ0 σ4 ∧ (0 ≤ (x2_2 + 1).toInt) from ⟨hT, (by first | omega | decide | (simp only [Int32.le_iff_toInt_le, Int32.lt_iff_toInt_lt, ti_add, ti_sub, ti_mul, Int32.reduceToInt] at *; omega))⟩) (show ((991 : Int32).toInt - (x2_2 + 1).toInt).toNat < ((991 : Int32).toInt - x2_2.toInt).toNat from (by first | omega | decide | (simp only [Int32.le_iff_toInt_le, Int32.lt_iff_toInt_lt, ti_add, ti_sub, ti_mul, Int32.reduceToInt] at *; omega)))

set_option maxHeartbeats 4000000 in
set_option maxRecDepth 100000 in
theorem s_J7_fill_53178_119 {N : Nat} (hN : 1048576 ≤ N) {x1 : Int32} {σ0 : zS}  (hR : RF σ0.2.2)  : Ok (f_J7_fill_53178 N 119 x1 σ0) (fun r => Tr [119] σ0 r.2 ∧ (True)) := by
  have hT : Tr [119] σ0 σ0 := Tr.rf
  rw [f_J7_fill_53178.eq_1]
  refine ok_aL (n := 10) rfl ?_
  rw [show Int32.ofNat 10 = 10 from rfl]
  refine ok_lp (fun t : Int32 × zS => Tr [119] σ0 (t.2) ∧ (0 ≤ (t.1).toInt)) (fun t : Int32 × zS => ((10 : Int32).toInt - (t.1).toInt).toNat) (fun again2 t hI ih5_2 => ?_) N _ (show Tr [119] σ0 σ0 ∧ (0 ≤ (0 : Int32).toInt) from ⟨hT, (by first | omega | decide | (simp only [Int32.le_iff_toInt_le, Int32.lt_iff_toInt_lt, ti_add, ti_sub, ti_mul, Int32.reduceToInt] at *; omega))⟩) (show ((10 : Int32).toInt - (0 : Int32).toInt).toNat < N from (by first | omega | decide | (simp only [Int32.le_iff_toInt_le, Int32.lt_iff_toInt_lt, ti_add, ti_sub, ti_mul, Int32.reduceToInt] at *; omega)))
  obtain ⟨x2_2, σ2⟩ := t
  have hI : Tr [119] σ0 σ2 ∧ (0 ≤ x2_2.toInt) := hI
  obtain ⟨hT, hI2⟩ := hI
  rw [F_J7_fill_53178_5.eq_1]
  refine ok_if (fun hc3 => ?_) (fun hc3 => ?_)
  · exact ok_some ⟨hT, trivial⟩
  · refine ok_s14 hT rfl (by decide) (by first | omega | decide | (simp only [Int32.le_iff_toInt_le, Int32.lt_iff_toInt_lt, ti_add, ti_sub, ti_mul, Int32.reduceToInt] at *; omega)) (by first | omega | decide | (simp only [Int32.le_iff_toInt_le, Int32.lt_iff_toInt_lt, ti_add, ti_sub, ti_mul, Int32.reduceToInt] at *; omega)) (fun σ4 eσ4 hOσ4 hT => ?_)
    exact ih5_2 (x2_2 + 1, σ4) (show Tr [119] σ0 σ4 ∧ (0 ≤ (x2_2 + 1).toInt) from ⟨hT, (by first | omega | decide | (simp only [Int32.le_iff_toInt_le, Int32.lt_iff_toInt_lt, ti_add, ti_sub, ti_mul, Int32.reduceToInt] at *; omega))⟩) (show ((10 : Int32).toInt - (x2_2 + 1).toInt).toNat < ((10 : Int32).toInt - x2_2.toInt).toNat from (by first | omega | decide | (simp only [Int32.le_iff_toInt_le, Int32.lt_iff_toInt_lt, ti_add, ti_sub, ti_mul, Int32.reduceToInt] at *; omega)))

set_option maxHeartbeats 4000000 in
set_option maxRecDepth 100000 in
theorem s_X8_weighSets_2 {N : Nat} (hN : 1048576 ≤ N)  {σ0 : zS}  (hR : RF σ0.2.2)  : Ok (f_X8_weighSets N 108 2 σ0) (fun r => Tr [109] σ0 r.2 ∧ (True)) := by
  have hT : Tr [109] σ0 σ0 := Tr.rf
  rw [f_X8_weighSets.eq_1]
  refine ok_gR (v := 109) hT rfl (hR 108 0 rfl) ?_
  refine ok_s14 hT rfl (by decide) (by first | omega | decide | (simp only [Int32.le_iff_toInt_le, Int32.lt_iff_toInt_lt, ti_add, ti_sub, ti_mul, Int32.reduceToInt] at *; omega)) (by first | omega | decide | (simp only [Int32.le_iff_toInt_le, Int32.lt_iff_toInt_lt, ti_add, ti_sub, ti_mul, Int32.reduceToInt] at *; omega)) (fun σ2 eσ2 hOσ2 hT => ?_)
  refine ok_lp (fun t : Int32 × zS => Tr [109] σ0 (t.2) ∧ (0 ≤ (t.1).toInt)) (fun t : Int32 × zS => (10 - (t.1).toInt).toNat) (fun again3 t hI ih9_3 => ?_) N _ (show Tr [109] σ0 σ2 ∧ (0 ≤ (0 : Int32).toInt) from ⟨hT, (by first | omega | decide | (simp only [Int32.le_iff_toInt_le, Int32.lt_iff_toInt_lt, ti_add, ti_sub, ti_mul, Int32.reduceToInt] at *; omega))⟩) (show (10 - (0 : Int32).toInt).toNat < N from (by first | omega | decide | (simp only [Int32.le_iff_toInt_le, Int32.lt_iff_toInt_lt, ti_add, ti_sub, ti_mul, Int32.reduceToInt] at *; omega)))
  obtain ⟨x2_3, σ3⟩ := t
  have hI : Tr [109] σ0 σ3 ∧ (0 ≤ x2_3.toInt) := hI
  obtain ⟨hT, hI3⟩ := hI
  rw [F_X8_weighSets_9.eq_1]
  refine ok_gI0 hT rfl (by decide) ?_
  refine ok_if (fun hc5 => ?_) (fun hc5 => ?_)
  · exact ok_some ⟨hT, trivial⟩
  · refine ok_if (fun hc6 => ?_) (fun hc6 => ?_)
    · exact ok_some ⟨hT, trivial⟩
    · have q9 := ti_one9 (x := x2_3) (by simp only [Int32.le_iff_toInt_le, Int32.reduceToInt] at *; omega) (by simp only [Int32.le_iff_toInt_le, Int32.reduceToInt] at *; omega)
      refine ok_lp (fun t : Int32 × zS => Tr [109] σ0 (t.2) ∧ (0 ≤ (t.1).toInt)) (fun t : Int32 × zS => (((1 : Int32) <<< (x2_3 &&& 31)).toInt - (t.1).toInt).toNat) (fun again7 t hI ih30_7 => ?_) N _ (show Tr [109] σ0 σ3 ∧ (0 ≤ (0 : Int32).toInt) from ⟨hT, (by first | omega | decide | (simp only [Int32.le_iff_toInt_le, Int32.lt_iff_toInt_lt, ti_add, ti_sub, ti_mul, Int32.reduceToInt] at *; omega))⟩) (show (((1 : Int32) <<< (x2_3 &&& 31)).toInt - (0 : Int32).toInt).toNat < N from (by first | omega | decide | (simp only [Int32.le_iff_toInt_le, Int32.lt_iff_toInt_lt, ti_add, ti_sub, ti_mul, Int32.reduceToInt] at *; omega)))
      obtain ⟨x4_7, σ7⟩ := t
      have hI : Tr [109] σ0 σ7 ∧ (0 ≤ x4_7.toInt) := hI
      obtain ⟨hT, hI7⟩ := hI
      rw [F_X8_weighSets_30.eq_1]
      refine ok_if (fun hc8 => ?_) (fun hc8 => ?_)
      · exact ih9_3 (x2_3 + 1, σ7) (show Tr [109] σ0 σ7 ∧ (0 ≤ (x2_3 + 1).toInt) from ⟨hT, (by first | omega | decide | (simp only [Int32.le_iff_toInt_le, Int32.lt_iff_toInt_lt, ti_add, ti_sub, ti_mul, Int32.reduceToInt] at *; omega))⟩) (show (10 - (x2_3 + 1).toInt).toNat < (10 - x2_3.toInt).toNat from (by first | omega | decide | (simp only [Int32.le_iff_toInt_le, Int32.lt_iff_toInt_lt, ti_add, ti_sub, ti_mul, Int32.reduceToInt] at *; omega)))
      · refine ok_gR (v := 109) hT rfl (hR 108 0 rfl) ?_
        refine ok_gR (v := 109) hT rfl (hR 108 0 rfl) ?_
        refine ok_aIn rfl (by first | omega | decide | (simp only [Int32.le_iff_toInt_le, Int32.lt_iff_toInt_lt, ti_add, ti_sub, ti_mul, Int32.reduceToInt] at *; omega)) (by first | omega | decide | (simp only [Int32.le_iff_toInt_le, Int32.lt_iff_toInt_lt, ti_add, ti_sub, ti_mul, Int32.reduceToInt] at *; omega)) (fun v11 ev11 => ?_)
        refine ok_gR (v := 5) hT rfl (hR 2 5 rfl) ?_
        refine ok_aIn rfl (by first | omega | decide | (simp only [Int32.le_iff_toInt_le, Int32.lt_iff_toInt_lt, ti_add, ti_sub, ti_mul, Int32.reduceToInt] at *; omega)) (by first | omega | decide | (simp only [Int32.le_iff_toInt_le, Int32.lt_iff_toInt_lt, ti_add, ti_sub, ti_mul, Int32.reduceToInt] at *; omega)) (fun v13 ev13 => ?_)
        refine ok_s14 hT rfl (by decide) (by first | omega | decide | (simp only [Int32.le_iff_toInt_le, Int32.lt_iff_toInt_lt, ti_add, ti_sub, ti_mul, Int32.reduceToInt] at *; omega)) (by first | omega | decide | (simp only [Int32.le_iff_toInt_le, Int32.lt_iff_toInt_lt, ti_add, ti_sub, ti_mul, Int32.reduceToInt] at *; omega)) (fun σ14 eσ14 hOσ14 hT => ?_)
        exact ih30_7 (x4_7 + 1, σ14) (show Tr [109] σ0 σ14 ∧ (0 ≤ (x4_7 + 1).toInt) from ⟨hT, (by first | omega | decide | (simp only [Int32.le_iff_toInt_le, Int32.lt_iff_toInt_lt, ti_add, ti_sub, ti_mul, Int32.reduceToInt] at *; omega))⟩) (show (((1 : Int32) <<< (x2_3 &&& 31)).toInt - (x4_7 + 1).toInt).toNat < (((1 : Int32) <<< (x2_3 &&& 31)).toInt - x4_7.toInt).toNat from (by first | omega | decide | (simp only [Int32.le_iff_toInt_le, Int32.lt_iff_toInt_lt, ti_add, ti_sub, ti_mul, Int32.reduceToInt] at *; omega)))

set_option maxHeartbeats 4000000 in
set_option maxRecDepth 100000 in
theorem s_X8_sum_2 {N : Nat} (hN : 1048576 ≤ N) {x2 : Nat} {x3 : Int32} {σ0 : zS}  (hR : RF σ0.2.2) (h_x2 : (zKd x2).1 = 2) : Ok (f_X8_sum N 108 2 x2 x3 σ0) (fun r => Tr [109] σ0 r.2 ∧ (True)) := by
  have hT : Tr [109] σ0 σ0 := Tr.rf
  rw [f_X8_sum.eq_1]
  refine ok_gC h_x2 ?_
  refine ok_zbT (Q := fun V σ => V = 0 ∨ V = 1) hT (s_X2_isEmpty hN (hR.tr hT) h_x2) (fun _ h9 => absurd h9 List.not_mem_nil) (fun v1 σ2 hOσ2 hT hqv1 => ?_)
  have hqv1 : v1 = 0 ∨ v1 = 1 := hqv1
  refine ok_if (fun hc3 => ?_) (fun hc3 => ?_)
  · refine ok_gC rfl ?_
    refine ok_zbT (Q := fun V σ => True) hT (s_X8_weighSets_2 hN (hR.tr hT) ) (by decide) (fun v4 σ5 hOσ5 hT hqv4 => ?_)
    refine ok_gC h_x2 ?_
    refine ok_zbT (Q := fun V σ => -1 ≤ V.toInt ∧ V.toInt ≤ 1023) hT (s_X2_firstFrom hN (hR.tr hT) h_x2) (fun _ h9 => absurd h9 List.not_mem_nil) (fun v6 σ7 hOσ7 hT hqv6 => ?_)
    have hqv6 : -1 ≤ v6.toInt ∧ v6.toInt ≤ 1023 := hqv6
    refine ok_lp (fun t : Int32 × Int32 × Int32 × Int32 × Int32 × zS => Tr [109] σ0 (t.2.2.2.2.2) ∧ (0 ≤ (t.2.2.2.2.1).toInt ∧ (t.2.2.2.1).toInt ≤ 1023)) (fun t : Int32 × Int32 × Int32 × Int32 × Int32 × zS => (1024 - (t.2.2.2.2.1).toInt).toNat) (fun again8 t hI ih44_8 => ?_) N _ (show Tr [109] σ0 σ7 ∧ (0 ≤ (0 : Int32).toInt ∧ v6.toInt ≤ 1023) from ⟨hT, (by first | omega | decide | (simp only [Int32.le_iff_toInt_le, Int32.lt_iff_toInt_lt, ti_add, ti_sub, ti_mul, Int32.reduceToInt] at *; omega))⟩) (show (1024 - (0 : Int32).toInt).toNat < N from (by first | omega | decide | (simp only [Int32.le_iff_toInt_le, Int32.lt_iff_toInt_lt, ti_add, ti_sub, ti_mul, Int32.reduceToInt] at *; omega)))
    obtain ⟨x4_8, x5_8, x6_8, x7_8, x8_8, σ8⟩ := t
    have hI : Tr [109] σ0 σ8 ∧ (0 ≤ x8_8.toInt ∧ x7_8.toInt ≤ 1023) := hI
    obtain ⟨hT, hI8⟩ := hI
    rw [F_X8_sum_44.eq_1]
    refine ok_if (fun hc9 => ?_) (fun hc9 => ?_)
    · rw [J_X8_sum_113.eq_1]
      refine ok_if (fun hc10 => ?_) (fun hc10 => ?_)
      · exact ok_some ⟨hT, trivial⟩
      · refine ok_if (fun hc11 => ?_) (fun hc11 => ?_)
        · exact ok_some ⟨hT, trivial⟩
        · exact ok_some ⟨hT, trivial⟩
    · refine ok_if (fun hc12 => ?_) (fun hc12 => ?_)
      · rw [J_X8_sum_113.eq_1]
        refine ok_if (fun hc13 => ?_) (fun hc13 => ?_)
        · exact ok_some ⟨hT, trivial⟩
        · refine ok_if (fun hc14 => ?_) (fun hc14 => ?_)
          · exact ok_some ⟨hT, trivial⟩
          · exact ok_some ⟨hT, trivial⟩
      · refine ok_gR (v := 109) hT rfl (hR 108 0 rfl) ?_
        refine ok_aIn rfl (by first | omega | decide | (simp only [Int32.le_iff_toInt_le, Int32.lt_iff_toInt_lt, ti_add, ti_sub, ti_mul, Int32.reduceToInt] at *; omega)) (by first | omega | decide | (simp only [Int32.le_iff_toInt_le, Int32.lt_iff_toInt_lt, ti_add, ti_sub, ti_mul, Int32.reduceToInt] at *; omega)) (fun v16 ev16 => ?_)
        refine ok_gR (v := 109) hT rfl (hR 108 0 rfl) ?_
        refine ok_aIn rfl (by first | omega | decide | (simp only [Int32.le_iff_toInt_le, Int32.lt_iff_toInt_lt, ti_add, ti_sub, ti_mul, Int32.reduceToInt] at *; omega)) (by first | omega | decide | (simp only [Int32.le_iff_toInt_le, Int32.lt_iff_toInt_lt, ti_add, ti_sub, ti_mul, Int32.reduceToInt] at *; omega)) (fun v18 ev18 => ?_)
        refine ok_gR (v := 109) hT rfl (hR 108 0 rfl) ?_
        refine ok_aIn rfl (by first | omega | decide | (simp only [Int32.le_iff_toInt_le, Int32.lt_iff_toInt_lt, ti_add, ti_sub, ti_mul, Int32.reduceToInt] at *; omega)) (by first | omega | decide | (simp only [Int32.le_iff_toInt_le, Int32.lt_iff_toInt_lt, ti_add, ti_sub, ti_mul, Int32.reduceToInt] at *; omega)) (fun v20 ev20 => ?_)
        refine ok_gC h_x2 ?_
        refine ok_zbT (Q := fun V σ => -1 ≤ V.toInt ∧ V.toInt ≤ 1023) hT (s_X2_firstFrom hN (hR.tr hT) h_x2) (fun _ h9 => absurd h9 List.not_mem_nil) (fun v21 σ22 hOσ22 hT hqv21 => ?_)
        have hqv21 : -1 ≤ v21.toInt ∧ v21.toInt ≤ 1023 := hqv21
        exact ih44_8 (zmin x4_8 v16, zmax x5_8 v18, x6_8 + v20, v21, x8_8 + 1, σ22) (show Tr [109] σ0 σ22 ∧ (0 ≤ (x8_8 + 1).toInt ∧ v21.toInt ≤ 1023) from ⟨hT, (by first | omega | decide | (simp only [Int32.le_iff_toInt_le, Int32.lt_iff_toInt_lt, ti_add, ti_sub, ti_mul, Int32.reduceToInt] at *; omega))⟩) (show (1024 - (x8_8 + 1).toInt).toNat < (1024 - x8_8.toInt).toNat from (by first | omega | decide | (simp only [Int32.le_iff_toInt_le, Int32.lt_iff_toInt_lt, ti_add, ti_sub, ti_mul, Int32.reduceToInt] at *; omega)))
  · refine ok_if (fun hc23 => ?_) (fun hc23 => ?_)
    · exact ok_some ⟨hT, trivial⟩
    · exact ok_some ⟨hT, trivial⟩

set_option maxHeartbeats 4000000 in
set_option maxRecDepth 100000 in
theorem s_X8_pickOfLoad {N : Nat} (hN : 1048576 ≤ N) {x1 : Nat} {x2 : Int32} {x3 : Int32} {σ0 : zS}  (hR : RF σ0.2.2) (h_x1 : (zKd x1).1 = 2) : Ok (f_X8_pickOfLoad N 108 x1 x2 x3 σ0) (fun r => Tr [] σ0 r.2 ∧ (True)) := by
  have hT : Tr [] σ0 σ0 := Tr.rf
  rw [f_X8_pickOfLoad.eq_1]
  refine ok_gC h_x1 ?_
  refine ok_zbT (Q := fun V σ => -1 ≤ V.toInt ∧ V.toInt ≤ 1023) hT (s_X2_firstFrom hN (hR.tr hT) h_x1) (fun _ h9 => absurd h9 List.not_mem_nil) (fun v1 σ2 hOσ2 hT hqv1 => ?_)
  have hqv1 : -1 ≤ v1.toInt ∧ v1.toInt ≤ 1023 := hqv1
  refine ok_lp (fun t : Int32 × Int32 × Int32 × zS => Tr [] σ0 (t.2.2.2) ∧ (0 ≤ (t.2.2.1).toInt ∧ (t.2.1).toInt ≤ 1023)) (fun t : Int32 × Int32 × Int32 × zS => (1024 - (t.2.2.1).toInt).toNat) (fun again3 t hI ih13_3 => ?_) N _ (show Tr [] σ0 σ2 ∧ (0 ≤ (0 : Int32).toInt ∧ v1.toInt ≤ 1023) from ⟨hT, (by first | omega | decide | (simp only [Int32.le_iff_toInt_le, Int32.lt_iff_toInt_lt, ti_add, ti_sub, ti_mul, Int32.reduceToInt] at *; omega))⟩) (show (1024 - (0 : Int32).toInt).toNat < N from (by first | omega | decide | (simp only [Int32.le_iff_toInt_le, Int32.lt_iff_toInt_lt, ti_add, ti_sub, ti_mul, Int32.reduceToInt] at *; omega)))
  obtain ⟨x4_3, x5_3, x6_3, σ3⟩ := t
  have hI : Tr [] σ0 σ3 ∧ (0 ≤ x6_3.toInt ∧ x5_3.toInt ≤ 1023) := hI
  obtain ⟨hT, hI3⟩ := hI
  rw [F_X8_pickOfLoad_13.eq_1]
  refine ok_if (fun hc4 => ?_) (fun hc4 => ?_)
  · exact ok_some ⟨hT, trivial⟩
  · refine ok_if (fun hc5 => ?_) (fun hc5 => ?_)
    · exact ok_some ⟨hT, trivial⟩
    · refine ok_gR (v := 109) hT rfl (hR 108 0 rfl) ?_
      refine ok_aIn rfl (by first | omega | decide | (simp only [Int32.le_iff_toInt_le, Int32.lt_iff_toInt_lt, ti_add, ti_sub, ti_mul, Int32.reduceToInt] at *; omega)) (by first | omega | decide | (simp only [Int32.le_iff_toInt_le, Int32.lt_iff_toInt_lt, ti_add, ti_sub, ti_mul, Int32.reduceToInt] at *; omega)) (fun v7 ev7 => ?_)
      refine ok_if (fun hc8 => ?_) (fun hc8 => ?_)
      · refine ok_if (fun hc9 => ?_) (fun hc9 => ?_)
        · exact ok_some ⟨hT, trivial⟩
        · refine ok_gC h_x1 ?_
          refine ok_zbT (Q := fun V σ => -1 ≤ V.toInt ∧ V.toInt ≤ 1023) hT (s_X2_firstFrom hN (hR.tr hT) h_x1) (fun _ h9 => absurd h9 List.not_mem_nil) (fun v10 σ11 hOσ11 hT hqv10 => ?_)
          have hqv10 : -1 ≤ v10.toInt ∧ v10.toInt ≤ 1023 := hqv10
          exact ih13_3 (x4_3 + (-1), v10, x6_3 + 1, σ11) (show Tr [] σ0 σ11 ∧ (0 ≤ (x6_3 + 1).toInt ∧ v10.toInt ≤ 1023) from ⟨hT, (by first | omega | decide | (simp only [Int32.le_iff_toInt_le, Int32.lt_iff_toInt_lt, ti_add, ti_sub, ti_mul, Int32.reduceToInt] at *; omega))⟩) (show (1024 - (x6_3 + 1).toInt).toNat < (1024 - x6_3.toInt).toNat from (by first | omega | decide | (simp only [Int32.le_iff_toInt_le, Int32.lt_iff_toInt_lt, ti_add, ti_sub, ti_mul, Int32.reduceToInt] at *; omega)))
      · refine ok_gC h_x1 ?_
        refine ok_zbT (Q := fun V σ => -1 ≤ V.toInt ∧ V.toInt ≤ 1023) hT (s_X2_firstFrom hN (hR.tr hT) h_x1) (fun _ h9 => absurd h9 List.not_mem_nil) (fun v12 σ13 hOσ13 hT hqv12 => ?_)
        have hqv12 : -1 ≤ v12.toInt ∧ v12.toInt ≤ 1023 := hqv12
        exact ih13_3 (x4_3, v12, x6_3 + 1, σ13) (show Tr [] σ0 σ13 ∧ (0 ≤ (x6_3 + 1).toInt ∧ v12.toInt ≤ 1023) from ⟨hT, (by first | omega | decide | (simp only [Int32.le_iff_toInt_le, Int32.lt_iff_toInt_lt, ti_add, ti_sub, ti_mul, Int32.reduceToInt] at *; omega))⟩) (show (1024 - (x6_3 + 1).toInt).toNat < (1024 - x6_3.toInt).toNat from (by first | omega | decide | (simp only [Int32.le_iff_toInt_le, Int32.lt_iff_toInt_lt, ti_add, ti_sub, ti_mul, Int32.reduceToInt] at *; omega)))

set_option maxHeartbeats 4000000 in
set_option maxRecDepth 100000 in
theorem s_X8_pick_2 {N : Nat} (hN : 1048576 ≤ N) {x2 : Nat} {x3 : Int32} {σ0 : zS}  (hR : RF σ0.2.2) (h_x2 : (zKd x2).1 = 2) : Ok (f_X8_pick N 108 2 x2 x3 σ0) (fun r => Tr [109, 110] σ0 r.2 ∧ (True)) := by
  have hT : Tr [109, 110] σ0 σ0 := Tr.rf
  rw [f_X8_pick.eq_1]
  refine ok_if (fun hc1 => ?_) (fun hc1 => ?_)
  · exact ok_some ⟨hT, trivial⟩
  · refine ok_gC h_x2 ?_
    refine ok_zbT (Q := fun V σ => True) hT (s_X2_tally hN (hR.tr hT) h_x2) (fun _ h9 => absurd h9 List.not_mem_nil) (fun v2 σ3 hOσ3 hT hqv2 => ?_)
    refine ok_if (fun hc4 => ?_) (fun hc4 => ?_)
    · refine ok_gC rfl ?_
      refine ok_zbT (Q := fun V σ => True) hT (s_X8_weighSets_2 hN (hR.tr hT) ) (by decide) (fun v5 σ6 hOσ6 hT hqv5 => ?_)
      refine ok_gR (v := 110) hT rfl (hR 108 1 rfl) ?_
      refine ok_zbT (Q := fun V σ => True) hT (s_J7_fill_53178_110 hN (hR.tr hT) ) (by decide) (fun v8 σ9 hOσ9 hT hqv8 => ?_)
      refine ok_gC h_x2 ?_
      refine ok_zbT (Q := fun V σ => -1 ≤ V.toInt ∧ V.toInt ≤ 1023) hT (s_X2_firstFrom hN (hR.tr hT) h_x2) (fun _ h9 => absurd h9 List.not_mem_nil) (fun v10 σ11 hOσ11 hT hqv10 => ?_)
      have hqv10 : -1 ≤ v10.toInt ∧ v10.toInt ≤ 1023 := hqv10
      refine ok_lp (fun t : Int32 × Int32 × zS => Tr [109, 110] σ0 (t.2.2) ∧ (0 ≤ (t.2.1).toInt ∧ (t.1).toInt ≤ 1023)) (fun t : Int32 × Int32 × zS => (1024 - (t.2.1).toInt).toNat) (fun again12 t hI ih37_12 => ?_) N _ (show Tr [109, 110] σ0 σ11 ∧ (0 ≤ (0 : Int32).toInt ∧ v10.toInt ≤ 1023) from ⟨hT, (by first | omega | decide | (simp only [Int32.le_iff_toInt_le, Int32.lt_iff_toInt_lt, ti_add, ti_sub, ti_mul, Int32.reduceToInt] at *; omega))⟩) (show (1024 - (0 : Int32).toInt).toNat < N from (by first | omega | decide | (simp only [Int32.le_iff_toInt_le, Int32.lt_iff_toInt_lt, ti_add, ti_sub, ti_mul, Int32.reduceToInt] at *; omega)))
      obtain ⟨x4_12, x5_12, σ12⟩ := t
      have hI : Tr [109, 110] σ0 σ12 ∧ (0 ≤ x5_12.toInt ∧ x4_12.toInt ≤ 1023) := hI
      obtain ⟨hT, hI12⟩ := hI
      rw [F_X8_pick_37.eq_1]
      refine ok_if (fun hc13 => ?_) (fun hc13 => ?_)
      · rw [J_X8_pick_107.eq_1]
        refine ok_lp (fun t : Int32 × Int32 × zS => Tr [109, 110] σ0 (t.2.2) ∧ (0 ≤ (t.2.1).toInt)) (fun t : Int32 × Int32 × zS => (991 - (t.2.1).toInt).toNat) (fun again14 t hI ih113_14 => ?_) N _ (show Tr [109, 110] σ0 σ12 ∧ (0 ≤ (0 : Int32).toInt) from ⟨hT, (by first | omega | decide | (simp only [Int32.le_iff_toInt_le, Int32.lt_iff_toInt_lt, ti_add, ti_sub, ti_mul, Int32.reduceToInt] at *; omega))⟩) (show (991 - (0 : Int32).toInt).toNat < N from (by first | omega | decide | (simp only [Int32.le_iff_toInt_le, Int32.lt_iff_toInt_lt, ti_add, ti_sub, ti_mul, Int32.reduceToInt] at *; omega)))
        obtain ⟨x5_14, x6_14, σ14⟩ := t
        have hI : Tr [109, 110] σ0 σ14 ∧ (0 ≤ x6_14.toInt) := hI
        obtain ⟨hT, hI14⟩ := hI
        rw [F_X8_pick_113.eq_1]
        refine ok_gR (v := 110) hT rfl (hR 108 1 rfl) ?_
        refine ok_aL (n := 991) rfl ?_
        rw [show Int32.ofNat 991 = 991 from rfl]
        refine ok_if (fun hc17 => ?_) (fun hc17 => ?_)
        · exact ok_some ⟨hT, trivial⟩
        · refine ok_gR (v := 110) hT rfl (hR 108 1 rfl) ?_
          refine ok_aIn rfl (by first | omega | decide | (simp only [Int32.le_iff_toInt_le, Int32.lt_iff_toInt_lt, ti_add, ti_sub, ti_mul, Int32.reduceToInt] at *; omega)) (by first | omega | decide | (simp only [Int32.le_iff_toInt_le, Int32.lt_iff_toInt_lt, ti_add, ti_sub, ti_mul, Int32.reduceToInt] at *; omega)) (fun v19 ev19 => ?_)
          refine ok_if (fun hc20 => ?_) (fun hc20 => ?_)
          · refine ok_gR (v := 110) hT rfl (hR 108 1 rfl) ?_
            refine ok_aIn rfl (by first | omega | decide | (simp only [Int32.le_iff_toInt_le, Int32.lt_iff_toInt_lt, ti_add, ti_sub, ti_mul, Int32.reduceToInt] at *; omega)) (by first | omega | decide | (simp only [Int32.le_iff_toInt_le, Int32.lt_iff_toInt_lt, ti_add, ti_sub, ti_mul, Int32.reduceToInt] at *; omega)) (fun v22 ev22 => ?_)
            exact ih113_14 (x5_14 - v22, x6_14 + 1, σ14) (show Tr [109, 110] σ0 σ14 ∧ (0 ≤ (x6_14 + 1).toInt) from ⟨hT, (by first | omega | decide | (simp only [Int32.le_iff_toInt_le, Int32.lt_iff_toInt_lt, ti_add, ti_sub, ti_mul, Int32.reduceToInt] at *; omega))⟩) (show (991 - (x6_14 + 1).toInt).toNat < (991 - x6_14.toInt).toNat from (by first | omega | decide | (simp only [Int32.le_iff_toInt_le, Int32.lt_iff_toInt_lt, ti_add, ti_sub, ti_mul, Int32.reduceToInt] at *; omega)))
          · refine ok_gC rfl ?_
            refine ok_zbT (Q := fun V σ => True) hT (s_X8_pickOfLoad hN (hR.tr hT) h_x2) (fun _ h9 => absurd h9 List.not_mem_nil) (fun v23 σ24 hOσ24 hT hqv23 => ?_)
            exact ok_some ⟨hT, trivial⟩
      · refine ok_if (fun hc25 => ?_) (fun hc25 => ?_)
        · rw [J_X8_pick_107.eq_1]
          refine ok_lp (fun t : Int32 × Int32 × zS => Tr [109, 110] σ0 (t.2.2) ∧ (0 ≤ (t.2.1).toInt)) (fun t : Int32 × Int32 × zS => (991 - (t.2.1).toInt).toNat) (fun again26 t hI ih113_26 => ?_) N _ (show Tr [109, 110] σ0 σ12 ∧ (0 ≤ (0 : Int32).toInt) from ⟨hT, (by first | omega | decide | (simp only [Int32.le_iff_toInt_le, Int32.lt_iff_toInt_lt, ti_add, ti_sub, ti_mul, Int32.reduceToInt] at *; omega))⟩) (show (991 - (0 : Int32).toInt).toNat < N from (by first | omega | decide | (simp only [Int32.le_iff_toInt_le, Int32.lt_iff_toInt_lt, ti_add, ti_sub, ti_mul, Int32.reduceToInt] at *; omega)))
          obtain ⟨x5_26, x6_26, σ26⟩ := t
          have hI : Tr [109, 110] σ0 σ26 ∧ (0 ≤ x6_26.toInt) := hI
          obtain ⟨hT, hI26⟩ := hI
          rw [F_X8_pick_113.eq_1]
          refine ok_gR (v := 110) hT rfl (hR 108 1 rfl) ?_
          refine ok_aL (n := 991) rfl ?_
          rw [show Int32.ofNat 991 = 991 from rfl]
          refine ok_if (fun hc29 => ?_) (fun hc29 => ?_)
          · exact ok_some ⟨hT, trivial⟩
          · refine ok_gR (v := 110) hT rfl (hR 108 1 rfl) ?_
            refine ok_aIn rfl (by first | omega | decide | (simp only [Int32.le_iff_toInt_le, Int32.lt_iff_toInt_lt, ti_add, ti_sub, ti_mul, Int32.reduceToInt] at *; omega)) (by first | omega | decide | (simp only [Int32.le_iff_toInt_le, Int32.lt_iff_toInt_lt, ti_add, ti_sub, ti_mul, Int32.reduceToInt] at *; omega)) (fun v31 ev31 => ?_)
            refine ok_if (fun hc32 => ?_) (fun hc32 => ?_)
            · refine ok_gR (v := 110) hT rfl (hR 108 1 rfl) ?_
              refine ok_aIn rfl (by first | omega | decide | (simp only [Int32.le_iff_toInt_le, Int32.lt_iff_toInt_lt, ti_add, ti_sub, ti_mul, Int32.reduceToInt] at *; omega)) (by first | omega | decide | (simp only [Int32.le_iff_toInt_le, Int32.lt_iff_toInt_lt, ti_add, ti_sub, ti_mul, Int32.reduceToInt] at *; omega)) (fun v34 ev34 => ?_)
              exact ih113_26 (x5_26 - v34, x6_26 + 1, σ26) (show Tr [109, 110] σ0 σ26 ∧ (0 ≤ (x6_26 + 1).toInt) from ⟨hT, (by first | omega | decide | (simp only [Int32.le_iff_toInt_le, Int32.lt_iff_toInt_lt, ti_add, ti_sub, ti_mul, Int32.reduceToInt] at *; omega))⟩) (show (991 - (x6_26 + 1).toInt).toNat < (991 - x6_26.toInt).toNat from (by first | omega | decide | (simp only [Int32.le_iff_toInt_le, Int32.lt_iff_toInt_lt, ti_add, ti_sub, ti_mul, Int32.reduceToInt] at *; omega)))
            · refine ok_gC rfl ?_
              refine ok_zbT (Q := fun V σ => True) hT (s_X8_pickOfLoad hN (hR.tr hT) h_x2) (fun _ h9 => absurd h9 List.not_mem_nil) (fun v35 σ36 hOσ36 hT hqv35 => ?_)
              exact ok_some ⟨hT, trivial⟩
        · refine ok_gR (v := 109) hT rfl (hR 108 0 rfl) ?_
          refine ok_aIn rfl (by first | omega | decide | (simp only [Int32.le_iff_toInt_le, Int32.lt_iff_toInt_lt, ti_add, ti_sub, ti_mul, Int32.reduceToInt] at *; omega)) (by first | omega | decide | (simp only [Int32.le_iff_toInt_le, Int32.lt_iff_toInt_lt, ti_add, ti_sub, ti_mul, Int32.reduceToInt] at *; omega)) (fun v38 ev38 => ?_)
          have q56 := ev38
          refine ok_if (fun hc39 => ?_) (fun hc39 => ?_)
          · refine ok_gC h_x2 ?_
            refine ok_zbT (Q := fun V σ => -1 ≤ V.toInt ∧ V.toInt ≤ 1023) hT (s_X2_firstFrom hN (hR.tr hT) h_x2) (fun _ h9 => absurd h9 List.not_mem_nil) (fun v40 σ41 hOσ41 hT hqv40 => ?_)
            have hqv40 : -1 ≤ v40.toInt ∧ v40.toInt ≤ 1023 := hqv40
            exact ih37_12 (v40, x5_12 + 1, σ41) (show Tr [109, 110] σ0 σ41 ∧ (0 ≤ (x5_12 + 1).toInt ∧ v40.toInt ≤ 1023) from ⟨hT, (by first | omega | decide | (simp only [Int32.le_iff_toInt_le, Int32.lt_iff_toInt_lt, ti_add, ti_sub, ti_mul, Int32.reduceToInt] at *; omega))⟩) (show (1024 - (x5_12 + 1).toInt).toNat < (1024 - x5_12.toInt).toNat from (by first | omega | decide | (simp only [Int32.le_iff_toInt_le, Int32.lt_iff_toInt_lt, ti_add, ti_sub, ti_mul, Int32.reduceToInt] at *; omega)))
          · refine ok_gR (v := 109) hT rfl (hR 108 0 rfl) ?_
            refine ok_aIn rfl (by first | omega | decide | (simp only [Int32.le_iff_toInt_le, Int32.lt_iff_toInt_lt, ti_add, ti_sub, ti_mul, Int32.reduceToInt] at *; omega)) (by first | omega | decide | (simp only [Int32.le_iff_toInt_le, Int32.lt_iff_toInt_lt, ti_add, ti_sub, ti_mul, Int32.reduceToInt] at *; omega)) (fun v43 ev43 => ?_)
            have q66 := congrArg Int32.toInt (ev43.trans q56.symm)
            have q67 := ev43
            refine ok_gR (v := 110) hT rfl (hR 108 1 rfl) ?_
            refine ok_aL (n := 991) rfl ?_
            rw [show Int32.ofNat 991 = 991 from rfl]
            refine ok_if (fun hc46 => ?_) (fun hc46 => ?_)
            · refine ok_gC h_x2 ?_
              refine ok_zbT (Q := fun V σ => -1 ≤ V.toInt ∧ V.toInt ≤ 1023) hT (s_X2_firstFrom hN (hR.tr hT) h_x2) (fun _ h9 => absurd h9 List.not_mem_nil) (fun v47 σ48 hOσ48 hT hqv47 => ?_)
              have hqv47 : -1 ≤ v47.toInt ∧ v47.toInt ≤ 1023 := hqv47
              exact ih37_12 (v47, x5_12 + 1, σ48) (show Tr [109, 110] σ0 σ48 ∧ (0 ≤ (x5_12 + 1).toInt ∧ v47.toInt ≤ 1023) from ⟨hT, (by first | omega | decide | (simp only [Int32.le_iff_toInt_le, Int32.lt_iff_toInt_lt, ti_add, ti_sub, ti_mul, Int32.reduceToInt] at *; omega))⟩) (show (1024 - (x5_12 + 1).toInt).toNat < (1024 - x5_12.toInt).toNat from (by first | omega | decide | (simp only [Int32.le_iff_toInt_le, Int32.lt_iff_toInt_lt, ti_add, ti_sub, ti_mul, Int32.reduceToInt] at *; omega)))
            · refine ok_gR (v := 110) hT rfl (hR 108 1 rfl) ?_
              refine ok_gR (v := 109) hT rfl (hR 108 0 rfl) ?_
              refine ok_aIn rfl (by first | omega | decide | (simp only [Int32.le_iff_toInt_le, Int32.lt_iff_toInt_lt, ti_add, ti_sub, ti_mul, Int32.reduceToInt] at *; omega)) (by first | omega | decide | (simp only [Int32.le_iff_toInt_le, Int32.lt_iff_toInt_lt, ti_add, ti_sub, ti_mul, Int32.reduceToInt] at *; omega)) (fun v51 ev51 => ?_)
              have q85 := congrArg Int32.toInt (ev51.trans q67.symm)
              refine ok_aIn rfl (by first | omega | decide | (simp only [Int32.le_iff_toInt_le, Int32.lt_iff_toInt_lt, ti_add, ti_sub, ti_mul, Int32.reduceToInt] at *; omega)) (by first | omega | decide | (simp only [Int32.le_iff_toInt_le, Int32.lt_iff_toInt_lt, ti_add, ti_sub, ti_mul, Int32.reduceToInt] at *; omega)) (fun v52 ev52 => ?_)
              refine ok_s14 hT rfl (by decide) (by first | omega | decide | (simp only [Int32.le_iff_toInt_le, Int32.lt_iff_toInt_lt, ti_add, ti_sub, ti_mul, Int32.reduceToInt] at *; omega)) (by first | omega | decide | (simp only [Int32.le_iff_toInt_le, Int32.lt_iff_toInt_lt, ti_add, ti_sub, ti_mul, Int32.reduceToInt] at *; omega)) (fun σ53 eσ53 hOσ53 hT => ?_)
              refine ok_gC h_x2 ?_
              refine ok_zbT (Q := fun V σ => -1 ≤ V.toInt ∧ V.toInt ≤ 1023) hT (s_X2_firstFrom hN (hR.tr hT) h_x2) (fun _ h9 => absurd h9 List.not_mem_nil) (fun v54 σ55 hOσ55 hT hqv54 => ?_)
              have hqv54 : -1 ≤ v54.toInt ∧ v54.toInt ≤ 1023 := hqv54
              exact ih37_12 (v54, x5_12 + 1, σ55) (show Tr [109, 110] σ0 σ55 ∧ (0 ≤ (x5_12 + 1).toInt ∧ v54.toInt ≤ 1023) from ⟨hT, (by first | omega | decide | (simp only [Int32.le_iff_toInt_le, Int32.lt_iff_toInt_lt, ti_add, ti_sub, ti_mul, Int32.reduceToInt] at *; omega))⟩) (show (1024 - (x5_12 + 1).toInt).toNat < (1024 - x5_12.toInt).toNat from (by first | omega | decide | (simp only [Int32.le_iff_toInt_le, Int32.lt_iff_toInt_lt, ti_add, ti_sub, ti_mul, Int32.reduceToInt] at *; omega)))
    · exact ok_some ⟨hT, trivial⟩

set_option maxHeartbeats 4000000 in
set_option maxRecDepth 100000 in
theorem s_X8_weighSets_28 {N : Nat} (hN : 1048576 ≤ N)  {σ0 : zS}  (hR : RF σ0.2.2)  : Ok (f_X8_weighSets N 108 28 σ0) (fun r => Tr [109] σ0 r.2 ∧ (True)) := by
  have hT : Tr [109] σ0 σ0 := Tr.rf
  rw [f_X8_weighSets.eq_1]
  refine ok_gR (v := 109) hT rfl (hR 108 0 rfl) ?_
  refine ok_s14 hT rfl (by decide) (by first | omega | decide | (simp only [Int32.le_iff_toInt_le, Int32.lt_iff_toInt_lt, ti_add, ti_sub, ti_mul, Int32.reduceToInt] at *; omega)) (by first | omega | decide | (simp only [Int32.le_iff_toInt_le, Int32.lt_iff_toInt_lt, ti_add, ti_sub, ti_mul, Int32.reduceToInt] at *; omega)) (fun σ2 eσ2 hOσ2 hT => ?_)
  refine ok_lp (fun t : Int32 × zS => Tr [109] σ0 (t.2) ∧ (0 ≤ (t.1).toInt)) (fun t : Int32 × zS => (10 - (t.1).toInt).toNat) (fun again3 t hI ih9_3 => ?_) N _ (show Tr [109] σ0 σ2 ∧ (0 ≤ (0 : Int32).toInt) from ⟨hT, (by first | omega | decide | (simp only [Int32.le_iff_toInt_le, Int32.lt_iff_toInt_lt, ti_add, ti_sub, ti_mul, Int32.reduceToInt] at *; omega))⟩) (show (10 - (0 : Int32).toInt).toNat < N from (by first | omega | decide | (simp only [Int32.le_iff_toInt_le, Int32.lt_iff_toInt_lt, ti_add, ti_sub, ti_mul, Int32.reduceToInt] at *; omega)))
  obtain ⟨x2_3, σ3⟩ := t
  have hI : Tr [109] σ0 σ3 ∧ (0 ≤ x2_3.toInt) := hI
  obtain ⟨hT, hI3⟩ := hI
  rw [F_X8_weighSets_9.eq_1]
  refine ok_gI0 hT rfl (by decide) ?_
  refine ok_if (fun hc5 => ?_) (fun hc5 => ?_)
  · exact ok_some ⟨hT, trivial⟩
  · refine ok_if (fun hc6 => ?_) (fun hc6 => ?_)
    · exact ok_some ⟨hT, trivial⟩
    · have q9 := ti_one9 (x := x2_3) (by simp only [Int32.le_iff_toInt_le, Int32.reduceToInt] at *; omega) (by simp only [Int32.le_iff_toInt_le, Int32.reduceToInt] at *; omega)
      refine ok_lp (fun t : Int32 × zS => Tr [109] σ0 (t.2) ∧ (0 ≤ (t.1).toInt)) (fun t : Int32 × zS => (((1 : Int32) <<< (x2_3 &&& 31)).toInt - (t.1).toInt).toNat) (fun again7 t hI ih30_7 => ?_) N _ (show Tr [109] σ0 σ3 ∧ (0 ≤ (0 : Int32).toInt) from ⟨hT, (by first | omega | decide | (simp only [Int32.le_iff_toInt_le, Int32.lt_iff_toInt_lt, ti_add, ti_sub, ti_mul, Int32.reduceToInt] at *; omega))⟩) (show (((1 : Int32) <<< (x2_3 &&& 31)).toInt - (0 : Int32).toInt).toNat < N from (by first | omega | decide | (simp only [Int32.le_iff_toInt_le, Int32.lt_iff_toInt_lt, ti_add, ti_sub, ti_mul, Int32.reduceToInt] at *; omega)))
      obtain ⟨x4_7, σ7⟩ := t
      have hI : Tr [109] σ0 σ7 ∧ (0 ≤ x4_7.toInt) := hI
      obtain ⟨hT, hI7⟩ := hI
      rw [F_X8_weighSets_30.eq_1]
      refine ok_if (fun hc8 => ?_) (fun hc8 => ?_)
      · exact ih9_3 (x2_3 + 1, σ7) (show Tr [109] σ0 σ7 ∧ (0 ≤ (x2_3 + 1).toInt) from ⟨hT, (by first | omega | decide | (simp only [Int32.le_iff_toInt_le, Int32.lt_iff_toInt_lt, ti_add, ti_sub, ti_mul, Int32.reduceToInt] at *; omega))⟩) (show (10 - (x2_3 + 1).toInt).toNat < (10 - x2_3.toInt).toNat from (by first | omega | decide | (simp only [Int32.le_iff_toInt_le, Int32.lt_iff_toInt_lt, ti_add, ti_sub, ti_mul, Int32.reduceToInt] at *; omega)))
      · refine ok_gR (v := 109) hT rfl (hR 108 0 rfl) ?_
        refine ok_gR (v := 109) hT rfl (hR 108 0 rfl) ?_
        refine ok_aIn rfl (by first | omega | decide | (simp only [Int32.le_iff_toInt_le, Int32.lt_iff_toInt_lt, ti_add, ti_sub, ti_mul, Int32.reduceToInt] at *; omega)) (by first | omega | decide | (simp only [Int32.le_iff_toInt_le, Int32.lt_iff_toInt_lt, ti_add, ti_sub, ti_mul, Int32.reduceToInt] at *; omega)) (fun v11 ev11 => ?_)
        refine ok_gR (v := 31) hT rfl (hR 28 5 rfl) ?_
        refine ok_aIn rfl (by first | omega | decide | (simp only [Int32.le_iff_toInt_le, Int32.lt_iff_toInt_lt, ti_add, ti_sub, ti_mul, Int32.reduceToInt] at *; omega)) (by first | omega | decide | (simp only [Int32.le_iff_toInt_le, Int32.lt_iff_toInt_lt, ti_add, ti_sub, ti_mul, Int32.reduceToInt] at *; omega)) (fun v13 ev13 => ?_)
        refine ok_s14 hT rfl (by decide) (by first | omega | decide | (simp only [Int32.le_iff_toInt_le, Int32.lt_iff_toInt_lt, ti_add, ti_sub, ti_mul, Int32.reduceToInt] at *; omega)) (by first | omega | decide | (simp only [Int32.le_iff_toInt_le, Int32.lt_iff_toInt_lt, ti_add, ti_sub, ti_mul, Int32.reduceToInt] at *; omega)) (fun σ14 eσ14 hOσ14 hT => ?_)
        exact ih30_7 (x4_7 + 1, σ14) (show Tr [109] σ0 σ14 ∧ (0 ≤ (x4_7 + 1).toInt) from ⟨hT, (by first | omega | decide | (simp only [Int32.le_iff_toInt_le, Int32.lt_iff_toInt_lt, ti_add, ti_sub, ti_mul, Int32.reduceToInt] at *; omega))⟩) (show (((1 : Int32) <<< (x2_3 &&& 31)).toInt - (x4_7 + 1).toInt).toNat < (((1 : Int32) <<< (x2_3 &&& 31)).toInt - x4_7.toInt).toNat from (by first | omega | decide | (simp only [Int32.le_iff_toInt_le, Int32.lt_iff_toInt_lt, ti_add, ti_sub, ti_mul, Int32.reduceToInt] at *; omega)))

set_option maxHeartbeats 4000000 in
set_option maxRecDepth 100000 in
theorem s_X8_sum_28 {N : Nat} (hN : 1048576 ≤ N) {x2 : Nat} {x3 : Int32} {σ0 : zS}  (hR : RF σ0.2.2) (h_x2 : (zKd x2).1 = 2) : Ok (f_X8_sum N 108 28 x2 x3 σ0) (fun r => Tr [109] σ0 r.2 ∧ (True)) := by
  have hT : Tr [109] σ0 σ0 := Tr.rf
  rw [f_X8_sum.eq_1]
  refine ok_gC h_x2 ?_
  refine ok_zbT (Q := fun V σ => V = 0 ∨ V = 1) hT (s_X2_isEmpty hN (hR.tr hT) h_x2) (fun _ h9 => absurd h9 List.not_mem_nil) (fun v1 σ2 hOσ2 hT hqv1 => ?_)
  have hqv1 : v1 = 0 ∨ v1 = 1 := hqv1
  refine ok_if (fun hc3 => ?_) (fun hc3 => ?_)
  · refine ok_gC rfl ?_
    refine ok_zbT (Q := fun V σ => True) hT (s_X8_weighSets_28 hN (hR.tr hT) ) (by decide) (fun v4 σ5 hOσ5 hT hqv4 => ?_)
    refine ok_gC h_x2 ?_
    refine ok_zbT (Q := fun V σ => -1 ≤ V.toInt ∧ V.toInt ≤ 1023) hT (s_X2_firstFrom hN (hR.tr hT) h_x2) (fun _ h9 => absurd h9 List.not_mem_nil) (fun v6 σ7 hOσ7 hT hqv6 => ?_)
    have hqv6 : -1 ≤ v6.toInt ∧ v6.toInt ≤ 1023 := hqv6
    refine ok_lp (fun t : Int32 × Int32 × Int32 × Int32 × Int32 × zS => Tr [109] σ0 (t.2.2.2.2.2) ∧ (0 ≤ (t.2.2.2.2.1).toInt ∧ (t.2.2.2.1).toInt ≤ 1023)) (fun t : Int32 × Int32 × Int32 × Int32 × Int32 × zS => (1024 - (t.2.2.2.2.1).toInt).toNat) (fun again8 t hI ih44_8 => ?_) N _ (show Tr [109] σ0 σ7 ∧ (0 ≤ (0 : Int32).toInt ∧ v6.toInt ≤ 1023) from ⟨hT, (by first | omega | decide | (simp only [Int32.le_iff_toInt_le, Int32.lt_iff_toInt_lt, ti_add, ti_sub, ti_mul, Int32.reduceToInt] at *; omega))⟩) (show (1024 - (0 : Int32).toInt).toNat < N from (by first | omega | decide | (simp only [Int32.le_iff_toInt_le, Int32.lt_iff_toInt_lt, ti_add, ti_sub, ti_mul, Int32.reduceToInt] at *; omega)))
    obtain ⟨x4_8, x5_8, x6_8, x7_8, x8_8, σ8⟩ := t
    have hI : Tr [109] σ0 σ8 ∧ (0 ≤ x8_8.toInt ∧ x7_8.toInt ≤ 1023) := hI
    obtain ⟨hT, hI8⟩ := hI
    rw [F_X8_sum_44.eq_1]
    refine ok_if (fun hc9 => ?_) (fun hc9 => ?_)
    · rw [J_X8_sum_113.eq_1]
      refine ok_if (fun hc10 => ?_) (fun hc10 => ?_)
      · exact ok_some ⟨hT, trivial⟩
      · refine ok_if (fun hc11 => ?_) (fun hc11 => ?_)
        · exact ok_some ⟨hT, trivial⟩
        · exact ok_some ⟨hT, trivial⟩
    · refine ok_if (fun hc12 => ?_) (fun hc12 => ?_)
      · rw [J_X8_sum_113.eq_1]
        refine ok_if (fun hc13 => ?_) (fun hc13 => ?_)
        · exact ok_some ⟨hT, trivial⟩
        · refine ok_if (fun hc14 => ?_) (fun hc14 => ?_)
          · exact ok_some ⟨hT, trivial⟩
          · exact ok_some ⟨hT, trivial⟩
      · refine ok_gR (v := 109) hT rfl (hR 108 0 rfl) ?_
        refine ok_aIn rfl (by first | omega | decide | (simp only [Int32.le_iff_toInt_le, Int32.lt_iff_toInt_lt, ti_add, ti_sub, ti_mul, Int32.reduceToInt] at *; omega)) (by first | omega | decide | (simp only [Int32.le_iff_toInt_le, Int32.lt_iff_toInt_lt, ti_add, ti_sub, ti_mul, Int32.reduceToInt] at *; omega)) (fun v16 ev16 => ?_)
        refine ok_gR (v := 109) hT rfl (hR 108 0 rfl) ?_
        refine ok_aIn rfl (by first | omega | decide | (simp only [Int32.le_iff_toInt_le, Int32.lt_iff_toInt_lt, ti_add, ti_sub, ti_mul, Int32.reduceToInt] at *; omega)) (by first | omega | decide | (simp only [Int32.le_iff_toInt_le, Int32.lt_iff_toInt_lt, ti_add, ti_sub, ti_mul, Int32.reduceToInt] at *; omega)) (fun v18 ev18 => ?_)
        refine ok_gR (v := 109) hT rfl (hR 108 0 rfl) ?_
        refine ok_aIn rfl (by first | omega | decide | (simp only [Int32.le_iff_toInt_le, Int32.lt_iff_toInt_lt, ti_add, ti_sub, ti_mul, Int32.reduceToInt] at *; omega)) (by first | omega | decide | (simp only [Int32.le_iff_toInt_le, Int32.lt_iff_toInt_lt, ti_add, ti_sub, ti_mul, Int32.reduceToInt] at *; omega)) (fun v20 ev20 => ?_)
        refine ok_gC h_x2 ?_
        refine ok_zbT (Q := fun V σ => -1 ≤ V.toInt ∧ V.toInt ≤ 1023) hT (s_X2_firstFrom hN (hR.tr hT) h_x2) (fun _ h9 => absurd h9 List.not_mem_nil) (fun v21 σ22 hOσ22 hT hqv21 => ?_)
        have hqv21 : -1 ≤ v21.toInt ∧ v21.toInt ≤ 1023 := hqv21
        exact ih44_8 (zmin x4_8 v16, zmax x5_8 v18, x6_8 + v20, v21, x8_8 + 1, σ22) (show Tr [109] σ0 σ22 ∧ (0 ≤ (x8_8 + 1).toInt ∧ v21.toInt ≤ 1023) from ⟨hT, (by first | omega | decide | (simp only [Int32.le_iff_toInt_le, Int32.lt_iff_toInt_lt, ti_add, ti_sub, ti_mul, Int32.reduceToInt] at *; omega))⟩) (show (1024 - (x8_8 + 1).toInt).toNat < (1024 - x8_8.toInt).toNat from (by first | omega | decide | (simp only [Int32.le_iff_toInt_le, Int32.lt_iff_toInt_lt, ti_add, ti_sub, ti_mul, Int32.reduceToInt] at *; omega)))
  · refine ok_if (fun hc23 => ?_) (fun hc23 => ?_)
    · exact ok_some ⟨hT, trivial⟩
    · exact ok_some ⟨hT, trivial⟩

set_option maxHeartbeats 4000000 in
set_option maxRecDepth 100000 in
theorem s_X8_pick_28 {N : Nat} (hN : 1048576 ≤ N) {x2 : Nat} {x3 : Int32} {σ0 : zS}  (hR : RF σ0.2.2) (h_x2 : (zKd x2).1 = 2) : Ok (f_X8_pick N 108 28 x2 x3 σ0) (fun r => Tr [109, 110] σ0 r.2 ∧ (True)) := by
  have hT : Tr [109, 110] σ0 σ0 := Tr.rf
  rw [f_X8_pick.eq_1]
  refine ok_if (fun hc1 => ?_) (fun hc1 => ?_)
  · exact ok_some ⟨hT, trivial⟩
  · refine ok_gC h_x2 ?_
    refine ok_zbT (Q := fun V σ => True) hT (s_X2_tally hN (hR.tr hT) h_x2) (fun _ h9 => absurd h9 List.not_mem_nil) (fun v2 σ3 hOσ3 hT hqv2 => ?_)
    refine ok_if (fun hc4 => ?_) (fun hc4 => ?_)
    · refine ok_gC rfl ?_
      refine ok_zbT (Q := fun V σ => True) hT (s_X8_weighSets_28 hN (hR.tr hT) ) (by decide) (fun v5 σ6 hOσ6 hT hqv5 => ?_)
      refine ok_gR (v := 110) hT rfl (hR 108 1 rfl) ?_
      refine ok_zbT (Q := fun V σ => True) hT (s_J7_fill_53178_110 hN (hR.tr hT) ) (by decide) (fun v8 σ9 hOσ9 hT hqv8 => ?_)
      refine ok_gC h_x2 ?_
      refine ok_zbT (Q := fun V σ => -1 ≤ V.toInt ∧ V.toInt ≤ 1023) hT (s_X2_firstFrom hN (hR.tr hT) h_x2) (fun _ h9 => absurd h9 List.not_mem_nil) (fun v10 σ11 hOσ11 hT hqv10 => ?_)
      have hqv10 : -1 ≤ v10.toInt ∧ v10.toInt ≤ 1023 := hqv10
      refine ok_lp (fun t : Int32 × Int32 × zS => Tr [109, 110] σ0 (t.2.2) ∧ (0 ≤ (t.2.1).toInt ∧ (t.1).toInt ≤ 1023)) (fun t : Int32 × Int32 × zS => (1024 - (t.2.1).toInt).toNat) (fun again12 t hI ih37_12 => ?_) N _ (show Tr [109, 110] σ0 σ11 ∧ (0 ≤ (0 : Int32).toInt ∧ v10.toInt ≤ 1023) from ⟨hT, (by first | omega | decide | (simp only [Int32.le_iff_toInt_le, Int32.lt_iff_toInt_lt, ti_add, ti_sub, ti_mul, Int32.reduceToInt] at *; omega))⟩) (show (1024 - (0 : Int32).toInt).toNat < N from (by first | omega | decide | (simp only [Int32.le_iff_toInt_le, Int32.lt_iff_toInt_lt, ti_add, ti_sub, ti_mul, Int32.reduceToInt] at *; omega)))
      obtain ⟨x4_12, x5_12, σ12⟩ := t
      have hI : Tr [109, 110] σ0 σ12 ∧ (0 ≤ x5_12.toInt ∧ x4_12.toInt ≤ 1023) := hI
      obtain ⟨hT, hI12⟩ := hI
      rw [F_X8_pick_37.eq_1]
      refine ok_if (fun hc13 => ?_) (fun hc13 => ?_)
      · rw [J_X8_pick_107.eq_1]
        refine ok_lp (fun t : Int32 × Int32 × zS => Tr [109, 110] σ0 (t.2.2) ∧ (0 ≤ (t.2.1).toInt)) (fun t : Int32 × Int32 × zS => (991 - (t.2.1).toInt).toNat) (fun again14 t hI ih113_14 => ?_) N _ (show Tr [109, 110] σ0 σ12 ∧ (0 ≤ (0 : Int32).toInt) from ⟨hT, (by first | omega | decide | (simp only [Int32.le_iff_toInt_le, Int32.lt_iff_toInt_lt, ti_add, ti_sub, ti_mul, Int32.reduceToInt] at *; omega))⟩) (show (991 - (0 : Int32).toInt).toNat < N from (by first | omega | decide | (simp only [Int32.le_iff_toInt_le, Int32.lt_iff_toInt_lt, ti_add, ti_sub, ti_mul, Int32.reduceToInt] at *; omega)))
        obtain ⟨x5_14, x6_14, σ14⟩ := t
        have hI : Tr [109, 110] σ0 σ14 ∧ (0 ≤ x6_14.toInt) := hI
        obtain ⟨hT, hI14⟩ := hI
        rw [F_X8_pick_113.eq_1]
        refine ok_gR (v := 110) hT rfl (hR 108 1 rfl) ?_
        refine ok_aL (n := 991) rfl ?_
        rw [show Int32.ofNat 991 = 991 from rfl]
        refine ok_if (fun hc17 => ?_) (fun hc17 => ?_)
        · exact ok_some ⟨hT, trivial⟩
        · refine ok_gR (v := 110) hT rfl (hR 108 1 rfl) ?_
          refine ok_aIn rfl (by first | omega | decide | (simp only [Int32.le_iff_toInt_le, Int32.lt_iff_toInt_lt, ti_add, ti_sub, ti_mul, Int32.reduceToInt] at *; omega)) (by first | omega | decide | (simp only [Int32.le_iff_toInt_le, Int32.lt_iff_toInt_lt, ti_add, ti_sub, ti_mul, Int32.reduceToInt] at *; omega)) (fun v19 ev19 => ?_)
          refine ok_if (fun hc20 => ?_) (fun hc20 => ?_)
          · refine ok_gR (v := 110) hT rfl (hR 108 1 rfl) ?_
            refine ok_aIn rfl (by first | omega | decide | (simp only [Int32.le_iff_toInt_le, Int32.lt_iff_toInt_lt, ti_add, ti_sub, ti_mul, Int32.reduceToInt] at *; omega)) (by first | omega | decide | (simp only [Int32.le_iff_toInt_le, Int32.lt_iff_toInt_lt, ti_add, ti_sub, ti_mul, Int32.reduceToInt] at *; omega)) (fun v22 ev22 => ?_)
            exact ih113_14 (x5_14 - v22, x6_14 + 1, σ14) (show Tr [109, 110] σ0 σ14 ∧ (0 ≤ (x6_14 + 1).toInt) from ⟨hT, (by first | omega | decide | (simp only [Int32.le_iff_toInt_le, Int32.lt_iff_toInt_lt, ti_add, ti_sub, ti_mul, Int32.reduceToInt] at *; omega))⟩) (show (991 - (x6_14 + 1).toInt).toNat < (991 - x6_14.toInt).toNat from (by first | omega | decide | (simp only [Int32.le_iff_toInt_le, Int32.lt_iff_toInt_lt, ti_add, ti_sub, ti_mul, Int32.reduceToInt] at *; omega)))
          · refine ok_gC rfl ?_
            refine ok_zbT (Q := fun V σ => True) hT (s_X8_pickOfLoad hN (hR.tr hT) h_x2) (fun _ h9 => absurd h9 List.not_mem_nil) (fun v23 σ24 hOσ24 hT hqv23 => ?_)
            exact ok_some ⟨hT, trivial⟩
      · refine ok_if (fun hc25 => ?_) (fun hc25 => ?_)
        · rw [J_X8_pick_107.eq_1]
          refine ok_lp (fun t : Int32 × Int32 × zS => Tr [109, 110] σ0 (t.2.2) ∧ (0 ≤ (t.2.1).toInt)) (fun t : Int32 × Int32 × zS => (991 - (t.2.1).toInt).toNat) (fun again26 t hI ih113_26 => ?_) N _ (show Tr [109, 110] σ0 σ12 ∧ (0 ≤ (0 : Int32).toInt) from ⟨hT, (by first | omega | decide | (simp only [Int32.le_iff_toInt_le, Int32.lt_iff_toInt_lt, ti_add, ti_sub, ti_mul, Int32.reduceToInt] at *; omega))⟩) (show (991 - (0 : Int32).toInt).toNat < N from (by first | omega | decide | (simp only [Int32.le_iff_toInt_le, Int32.lt_iff_toInt_lt, ti_add, ti_sub, ti_mul, Int32.reduceToInt] at *; omega)))
          obtain ⟨x5_26, x6_26, σ26⟩ := t
          have hI : Tr [109, 110] σ0 σ26 ∧ (0 ≤ x6_26.toInt) := hI
          obtain ⟨hT, hI26⟩ := hI
          rw [F_X8_pick_113.eq_1]
          refine ok_gR (v := 110) hT rfl (hR 108 1 rfl) ?_
          refine ok_aL (n := 991) rfl ?_
          rw [show Int32.ofNat 991 = 991 from rfl]
          refine ok_if (fun hc29 => ?_) (fun hc29 => ?_)
          · exact ok_some ⟨hT, trivial⟩
          · refine ok_gR (v := 110) hT rfl (hR 108 1 rfl) ?_
            refine ok_aIn rfl (by first | omega | decide | (simp only [Int32.le_iff_toInt_le, Int32.lt_iff_toInt_lt, ti_add, ti_sub, ti_mul, Int32.reduceToInt] at *; omega)) (by first | omega | decide | (simp only [Int32.le_iff_toInt_le, Int32.lt_iff_toInt_lt, ti_add, ti_sub, ti_mul, Int32.reduceToInt] at *; omega)) (fun v31 ev31 => ?_)
            refine ok_if (fun hc32 => ?_) (fun hc32 => ?_)
            · refine ok_gR (v := 110) hT rfl (hR 108 1 rfl) ?_
              refine ok_aIn rfl (by first | omega | decide | (simp only [Int32.le_iff_toInt_le, Int32.lt_iff_toInt_lt, ti_add, ti_sub, ti_mul, Int32.reduceToInt] at *; omega)) (by first | omega | decide | (simp only [Int32.le_iff_toInt_le, Int32.lt_iff_toInt_lt, ti_add, ti_sub, ti_mul, Int32.reduceToInt] at *; omega)) (fun v34 ev34 => ?_)
              exact ih113_26 (x5_26 - v34, x6_26 + 1, σ26) (show Tr [109, 110] σ0 σ26 ∧ (0 ≤ (x6_26 + 1).toInt) from ⟨hT, (by first | omega | decide | (simp only [Int32.le_iff_toInt_le, Int32.lt_iff_toInt_lt, ti_add, ti_sub, ti_mul, Int32.reduceToInt] at *; omega))⟩) (show (991 - (x6_26 + 1).toInt).toNat < (991 - x6_26.toInt).toNat from (by first | omega | decide | (simp only [Int32.le_iff_toInt_le, Int32.lt_iff_toInt_lt, ti_add, ti_sub, ti_mul, Int32.reduceToInt] at *; omega)))
            · refine ok_gC rfl ?_
              refine ok_zbT (Q := fun V σ => True) hT (s_X8_pickOfLoad hN (hR.tr hT) h_x2) (fun _ h9 => absurd h9 List.not_mem_nil) (fun v35 σ36 hOσ36 hT hqv35 => ?_)
              exact ok_some ⟨hT, trivial⟩
        · refine ok_gR (v := 109) hT rfl (hR 108 0 rfl) ?_
          refine ok_aIn rfl (by first | omega | decide | (simp only [Int32.le_iff_toInt_le, Int32.lt_iff_toInt_lt, ti_add, ti_sub, ti_mul, Int32.reduceToInt] at *; omega)) (by first | omega | decide | (simp only [Int32.le_iff_toInt_le, Int32.lt_iff_toInt_lt, ti_add, ti_sub, ti_mul, Int32.reduceToInt] at *; omega)) (fun v38 ev38 => ?_)
          have q56 := ev38
          refine ok_if (fun hc39 => ?_) (fun hc39 => ?_)
          · refine ok_gC h_x2 ?_
            refine ok_zbT (Q := fun V σ => -1 ≤ V.toInt ∧ V.toInt ≤ 1023) hT (s_X2_firstFrom hN (hR.tr hT) h_x2) (fun _ h9 => absurd h9 List.not_mem_nil) (fun v40 σ41 hOσ41 hT hqv40 => ?_)
            have hqv40 : -1 ≤ v40.toInt ∧ v40.toInt ≤ 1023 := hqv40
            exact ih37_12 (v40, x5_12 + 1, σ41) (show Tr [109, 110] σ0 σ41 ∧ (0 ≤ (x5_12 + 1).toInt ∧ v40.toInt ≤ 1023) from ⟨hT, (by first | omega | decide | (simp only [Int32.le_iff_toInt_le, Int32.lt_iff_toInt_lt, ti_add, ti_sub, ti_mul, Int32.reduceToInt] at *; omega))⟩) (show (1024 - (x5_12 + 1).toInt).toNat < (1024 - x5_12.toInt).toNat from (by first | omega | decide | (simp only [Int32.le_iff_toInt_le, Int32.lt_iff_toInt_lt, ti_add, ti_sub, ti_mul, Int32.reduceToInt] at *; omega)))
          · refine ok_gR (v := 109) hT rfl (hR 108 0 rfl) ?_
            refine ok_aIn rfl (by first | omega | decide | (simp only [Int32.le_iff_toInt_le, Int32.lt_iff_toInt_lt, ti_add, ti_sub, ti_mul, Int32.reduceToInt] at *; omega)) (by first | omega | decide | (simp only [Int32.le_iff_toInt_le, Int32.lt_iff_toInt_lt, ti_add, ti_sub, ti_mul, Int32.reduceToInt] at *; omega)) (fun v43 ev43 => ?_)
            have q66 := congrArg Int32.toInt (ev43.trans q56.symm)
            have q67 := ev43
            refine ok_gR (v := 110) hT rfl (hR 108 1 rfl) ?_
            refine ok_aL (n := 991) rfl ?_
            rw [show Int32.ofNat 991 = 991 from rfl]
            refine ok_if (fun hc46 => ?_) (fun hc46 => ?_)
            · refine ok_gC h_x2 ?_
              refine ok_zbT (Q := fun V σ => -1 ≤ V.toInt ∧ V.toInt ≤ 1023) hT (s_X2_firstFrom hN (hR.tr hT) h_x2) (fun _ h9 => absurd h9 List.not_mem_nil) (fun v47 σ48 hOσ48 hT hqv47 => ?_)
              have hqv47 : -1 ≤ v47.toInt ∧ v47.toInt ≤ 1023 := hqv47
              exact ih37_12 (v47, x5_12 + 1, σ48) (show Tr [109, 110] σ0 σ48 ∧ (0 ≤ (x5_12 + 1).toInt ∧ v47.toInt ≤ 1023) from ⟨hT, (by first | omega | decide | (simp only [Int32.le_iff_toInt_le, Int32.lt_iff_toInt_lt, ti_add, ti_sub, ti_mul, Int32.reduceToInt] at *; omega))⟩) (show (1024 - (x5_12 + 1).toInt).toNat < (1024 - x5_12.toInt).toNat from (by first | omega | decide | (simp only [Int32.le_iff_toInt_le, Int32.lt_iff_toInt_lt, ti_add, ti_sub, ti_mul, Int32.reduceToInt] at *; omega)))
            · refine ok_gR (v := 110) hT rfl (hR 108 1 rfl) ?_
              refine ok_gR (v := 109) hT rfl (hR 108 0 rfl) ?_
              refine ok_aIn rfl (by first | omega | decide | (simp only [Int32.le_iff_toInt_le, Int32.lt_iff_toInt_lt, ti_add, ti_sub, ti_mul, Int32.reduceToInt] at *; omega)) (by first | omega | decide | (simp only [Int32.le_iff_toInt_le, Int32.lt_iff_toInt_lt, ti_add, ti_sub, ti_mul, Int32.reduceToInt] at *; omega)) (fun v51 ev51 => ?_)
              have q85 := congrArg Int32.toInt (ev51.trans q67.symm)
              refine ok_aIn rfl (by first | omega | decide | (simp only [Int32.le_iff_toInt_le, Int32.lt_iff_toInt_lt, ti_add, ti_sub, ti_mul, Int32.reduceToInt] at *; omega)) (by first | omega | decide | (simp only [Int32.le_iff_toInt_le, Int32.lt_iff_toInt_lt, ti_add, ti_sub, ti_mul, Int32.reduceToInt] at *; omega)) (fun v52 ev52 => ?_)
              refine ok_s14 hT rfl (by decide) (by first | omega | decide | (simp only [Int32.le_iff_toInt_le, Int32.lt_iff_toInt_lt, ti_add, ti_sub, ti_mul, Int32.reduceToInt] at *; omega)) (by first | omega | decide | (simp only [Int32.le_iff_toInt_le, Int32.lt_iff_toInt_lt, ti_add, ti_sub, ti_mul, Int32.reduceToInt] at *; omega)) (fun σ53 eσ53 hOσ53 hT => ?_)
              refine ok_gC h_x2 ?_
              refine ok_zbT (Q := fun V σ => -1 ≤ V.toInt ∧ V.toInt ≤ 1023) hT (s_X2_firstFrom hN (hR.tr hT) h_x2) (fun _ h9 => absurd h9 List.not_mem_nil) (fun v54 σ55 hOσ55 hT hqv54 => ?_)
              have hqv54 : -1 ≤ v54.toInt ∧ v54.toInt ≤ 1023 := hqv54
              exact ih37_12 (v54, x5_12 + 1, σ55) (show Tr [109, 110] σ0 σ55 ∧ (0 ≤ (x5_12 + 1).toInt ∧ v54.toInt ≤ 1023) from ⟨hT, (by first | omega | decide | (simp only [Int32.le_iff_toInt_le, Int32.lt_iff_toInt_lt, ti_add, ti_sub, ti_mul, Int32.reduceToInt] at *; omega))⟩) (show (1024 - (x5_12 + 1).toInt).toNat < (1024 - x5_12.toInt).toNat from (by first | omega | decide | (simp only [Int32.le_iff_toInt_le, Int32.lt_iff_toInt_lt, ti_add, ti_sub, ti_mul, Int32.reduceToInt] at *; omega)))
    · exact ok_some ⟨hT, trivial⟩
end Zq0_4
section Zq0_5
set_option maxHeartbeats 4000000 in
set_option maxRecDepth 100000 in
theorem s_X1_headOf {N : Nat} (hN : 1048576 ≤ N) {x0 : Int32} {x1 : Int32} {x2 : Int32} {σ0 : zS}  (hR : RF σ0.2.2)  : Ok (f_X1_headOf N x0 x1 x2 σ0) (fun r => Tr [] σ0 r.2 ∧ (0 ≤ r.1.toInt ∧ r.1.toInt ≤ 2047)) := by
  have hT : Tr [] σ0 σ0 := Tr.rf
  rw [f_X1_headOf.eq_1]
  exact ok_some ⟨hT, (show 0 ≤ ((((x2 * 613) + (x1 * 37)) + x0) &&& 2047).toInt ∧ ((((x2 * 613) + (x1 * 37)) + x0) &&& 2047).toInt ≤ 2047 from by exact ti_and0 _ (m := 2047) (by decide))⟩

set_option maxHeartbeats 4000000 in
set_option maxRecDepth 100000 in
theorem s_X1_tallyAt {N : Nat} (hN : 1048576 ≤ N) {x1 : Int32} {σ0 : zS}  (hR : RF σ0.2.2)  : Ok (f_X1_tallyAt N 111 x1 σ0) (fun r => Tr [] σ0 r.2 ∧ (True)) := by
  have hT : Tr [] σ0 σ0 := Tr.rf
  rw [f_X1_tallyAt.eq_1]
  refine ok_if (fun hc1 => ?_) (fun hc1 => ?_)
  · exact ok_some ⟨hT, trivial⟩
  · refine ok_if (fun hc2 => ?_) (fun hc2 => ?_)
    · exact ok_some ⟨hT, trivial⟩
    · refine ok_gR (v := 119) hT rfl (hR 111 7 rfl) ?_
      refine ok_aIn rfl (by first | omega | decide | (simp only [Int32.le_iff_toInt_le, Int32.lt_iff_toInt_lt, ti_add, ti_sub, ti_mul, Int32.reduceToInt] at *; omega)) (by first | omega | decide | (simp only [Int32.le_iff_toInt_le, Int32.lt_iff_toInt_lt, ti_add, ti_sub, ti_mul, Int32.reduceToInt] at *; omega)) (fun v4 ev4 => ?_)
      exact ok_some ⟨hT, trivial⟩

set_option maxHeartbeats 4000000 in
set_option maxRecDepth 100000 in
theorem s_X1_reset {N : Nat} (hN : 1048576 ≤ N)  {σ0 : zS}  (hR : RF σ0.2.2) (hu : 2 ≤ (σ0.1 111 8).toInt ∧ (σ0.1 111 8).toInt ≤ 1600) : Ok (f_X1_reset N 111 σ0) (fun r => Tr [111, 112, 119] σ0 r.2 ∧ (2 ≤ (r.2.1 111 8).toInt ∧ (r.2.1 111 8).toInt ≤ 1600)) := by
  have hT : Tr [111, 112, 119] σ0 σ0 := Tr.rf
  rw [f_X1_reset.eq_1]
  refine ok_lp (fun t : Int32 × zS => Tr [111, 112, 119] σ0 (t.2) ∧ (2 ≤ (t.1).toInt) ∧ (2 ≤ ((t.2).1 111 8).toInt ∧ ((t.2).1 111 8).toInt ≤ 1600)) (fun t : Int32 × zS => (1600 - (t.1).toInt).toNat) (fun again1 t hI ih2_1 => ?_) N _ (show Tr [111, 112, 119] σ0 σ0 ∧ (2 ≤ (2 : Int32).toInt) ∧ (2 ≤ (σ0.1 111 8).toInt ∧ (σ0.1 111 8).toInt ≤ 1600) from ⟨hT, (by first | omega | decide | (simp only [Int32.le_iff_toInt_le, Int32.lt_iff_toInt_lt, ti_add, ti_sub, ti_mul, Int32.reduceToInt] at *; omega)), hu⟩) (show (1600 - (2 : Int32).toInt).toNat < N from (by first | omega | decide | (simp only [Int32.le_iff_toInt_le, Int32.lt_iff_toInt_lt, ti_add, ti_sub, ti_mul, Int32.reduceToInt] at *; omega)))
  obtain ⟨x1_1, σ1⟩ := t
  have hI : Tr [111, 112, 119] σ0 σ1 ∧ (2 ≤ x1_1.toInt) ∧ (2 ≤ (σ1.1 111 8).toInt ∧ (σ1.1 111 8).toInt ≤ 1600) := hI
  obtain ⟨hT, hI1, hu⟩ := hI
  rw [F_X1_reset_2.eq_1]
  refine ok_gI rfl ?_
  refine ok_if (fun hc3 => ?_) (fun hc3 => ?_)
  · refine ok_gR (v := 119) hT rfl (hR 111 7 rfl) ?_
    refine ok_zbT (Q := fun V σ => True) hT (s_J7_fill_53178_119 hN (hR.tr hT) ) (by decide) (fun v5 σ6 hOσ6 hT hqv5 => ?_)
    have hu : 2 ≤ (σ6.1 111 8).toInt ∧ (σ6.1 111 8).toInt ≤ 1600 := by rw [hOσ6.2 111 (by decide)] <;> exact hu
    refine ok_pI hT rfl (by decide) (fun σ7 eσ7 hOσ7 hT => ?_)
    have hu : 2 ≤ (σ7.1 111 8).toInt ∧ (σ7.1 111 8).toInt ≤ 1600 := by rw [zI_atI eσ7]; decide
    exact ok_some ⟨hT, (show 2 ≤ (σ7.1 111 8).toInt ∧ (σ7.1 111 8).toInt ≤ 1600 from by exact hu)⟩
  · refine ok_gR (v := 112) hT rfl (hR 111 0 rfl) ?_
    refine ok_gR (v := 114) hT rfl (hR 111 2 rfl) ?_
    refine ok_aIn rfl (by first | omega | decide | (simp only [Int32.le_iff_toInt_le, Int32.lt_iff_toInt_lt, ti_add, ti_sub, ti_mul, Int32.reduceToInt] at *; omega)) (by first | omega | decide | (simp only [Int32.le_iff_toInt_le, Int32.lt_iff_toInt_lt, ti_add, ti_sub, ti_mul, Int32.reduceToInt] at *; omega)) (fun v10 ev10 => ?_)
    refine ok_gR (v := 115) hT rfl (hR 111 3 rfl) ?_
    refine ok_aIn rfl (by first | omega | decide | (simp only [Int32.le_iff_toInt_le, Int32.lt_iff_toInt_lt, ti_add, ti_sub, ti_mul, Int32.reduceToInt] at *; omega)) (by first | omega | decide | (simp only [Int32.le_iff_toInt_le, Int32.lt_iff_toInt_lt, ti_add, ti_sub, ti_mul, Int32.reduceToInt] at *; omega)) (fun v12 ev12 => ?_)
    refine ok_gR (v := 116) hT rfl (hR 111 4 rfl) ?_
    refine ok_aIn rfl (by first | omega | decide | (simp only [Int32.le_iff_toInt_le, Int32.lt_iff_toInt_lt, ti_add, ti_sub, ti_mul, Int32.reduceToInt] at *; omega)) (by first | omega | decide | (simp only [Int32.le_iff_toInt_le, Int32.lt_iff_toInt_lt, ti_add, ti_sub, ti_mul, Int32.reduceToInt] at *; omega)) (fun v14 ev14 => ?_)
    refine ok_zbT (Q := fun V σ => 0 ≤ V.toInt ∧ V.toInt ≤ 2047) hT (s_X1_headOf hN (hR.tr hT) ) (fun _ h9 => absurd h9 List.not_mem_nil) (fun v15 σ16 hOσ16 hT hqv15 => ?_)
    have hqv15 : 0 ≤ v15.toInt ∧ v15.toInt ≤ 2047 := hqv15
    have hu : 2 ≤ (σ16.1 111 8).toInt ∧ (σ16.1 111 8).toInt ≤ 1600 := by rw [hOσ16.2 111 (by decide)] <;> exact hu
    refine ok_s14 hT rfl (by decide) (by first | omega | decide | (simp only [Int32.le_iff_toInt_le, Int32.lt_iff_toInt_lt, ti_add, ti_sub, ti_mul, Int32.reduceToInt] at *; omega)) (by first | omega | decide | (simp only [Int32.le_iff_toInt_le, Int32.lt_iff_toInt_lt, ti_add, ti_sub, ti_mul, Int32.reduceToInt] at *; omega)) (fun σ17 eσ17 hOσ17 hT => ?_)
    have hu : 2 ≤ (σ17.1 111 8).toInt ∧ (σ17.1 111 8).toInt ≤ 1600 := by rw [hOσ17.2 111 (by decide)] <;> exact hu
    exact ih2_1 (x1_1 + 1, σ17) (show Tr [111, 112, 119] σ0 σ17 ∧ (2 ≤ (x1_1 + 1).toInt) ∧ (2 ≤ (σ17.1 111 8).toInt ∧ (σ17.1 111 8).toInt ≤ 1600) from ⟨hT, (by first | omega | decide | (simp only [Int32.le_iff_toInt_le, Int32.lt_iff_toInt_lt, ti_add, ti_sub, ti_mul, Int32.reduceToInt] at *; omega)), hu⟩) (show (1600 - (x1_1 + 1).toInt).toNat < (1600 - x1_1.toInt).toNat from (by first | omega | decide | (simp only [Int32.le_iff_toInt_le, Int32.lt_iff_toInt_lt, ti_add, ti_sub, ti_mul, Int32.reduceToInt] at *; omega)))

set_option maxHeartbeats 4000000 in
set_option maxRecDepth 100000 in
theorem s_X1_node {N : Nat} (hN : 1048576 ≤ N) {x1 : Int32} {x2 : Int32} {x3 : Int32} {σ0 : zS}  (hR : RF σ0.2.2) (hu : 2 ≤ (σ0.1 111 8).toInt ∧ (σ0.1 111 8).toInt ≤ 1600) : Ok (f_X1_node N 111 x1 x2 x3 σ0) (fun r => Tr [111, 112, 113, 114, 115, 116, 119] σ0 r.2 ∧ (2 ≤ (r.2.1 111 8).toInt ∧ (r.2.1 111 8).toInt ≤ 1600)) := by
  have hT : Tr [111, 112, 113, 114, 115, 116, 119] σ0 σ0 := Tr.rf
  rw [f_X1_node.eq_1]
  refine ok_zbT (Q := fun V σ => 0 ≤ V.toInt ∧ V.toInt ≤ 2047) hT (s_X1_headOf hN (hR.tr hT) ) (fun _ h9 => absurd h9 List.not_mem_nil) (fun v1 σ2 hOσ2 hT hqv1 => ?_)
  have hqv1 : 0 ≤ v1.toInt ∧ v1.toInt ≤ 2047 := hqv1
  have hu : 2 ≤ (σ2.1 111 8).toInt ∧ (σ2.1 111 8).toInt ≤ 1600 := by rw [hOσ2.2 111 (by decide)] <;> exact hu
  refine ok_gR (v := 112) hT rfl (hR 111 0 rfl) ?_
  refine ok_aIn rfl (by first | omega | decide | (simp only [Int32.le_iff_toInt_le, Int32.lt_iff_toInt_lt, ti_add, ti_sub, ti_mul, Int32.reduceToInt] at *; omega)) (by first | omega | decide | (simp only [Int32.le_iff_toInt_le, Int32.lt_iff_toInt_lt, ti_add, ti_sub, ti_mul, Int32.reduceToInt] at *; omega)) (fun v4 ev4 => ?_)
  refine ok_lp (fun t : Int32 × Int32 × zS => Tr [111, 112, 113, 114, 115, 116, 119] σ0 (t.2.2) ∧ (0 ≤ (t.2.1).toInt) ∧ (2 ≤ ((t.2.2).1 111 8).toInt ∧ ((t.2.2).1 111 8).toInt ≤ 1600)) (fun t : Int32 × Int32 × zS => (1600 - (t.2.1).toInt).toNat) (fun again5 t hI ih20_5 => ?_) N _ (show Tr [111, 112, 113, 114, 115, 116, 119] σ0 σ2 ∧ (0 ≤ (0 : Int32).toInt) ∧ (2 ≤ (σ2.1 111 8).toInt ∧ (σ2.1 111 8).toInt ≤ 1600) from ⟨hT, (by first | omega | decide | (simp only [Int32.le_iff_toInt_le, Int32.lt_iff_toInt_lt, ti_add, ti_sub, ti_mul, Int32.reduceToInt] at *; omega)), hu⟩) (show (1600 - (0 : Int32).toInt).toNat < N from (by first | omega | decide | (simp only [Int32.le_iff_toInt_le, Int32.lt_iff_toInt_lt, ti_add, ti_sub, ti_mul, Int32.reduceToInt] at *; omega)))
  obtain ⟨x5_5, x6_5, σ5⟩ := t
  have hI : Tr [111, 112, 113, 114, 115, 116, 119] σ0 σ5 ∧ (0 ≤ x6_5.toInt) ∧ (2 ≤ (σ5.1 111 8).toInt ∧ (σ5.1 111 8).toInt ≤ 1600) := hI
  obtain ⟨hT, hI5, hu⟩ := hI
  rw [F_X1_node_20.eq_1]
  refine ok_if (fun hc6 => ?_) (fun hc6 => ?_)
  · rw [J_X1_node_93.eq_1]
    refine ok_gI rfl ?_
    refine ok_if (fun hc8 => ?_) (fun hc8 => ?_)
    · exact ok_some ⟨hT, (show 2 ≤ (σ5.1 111 8).toInt ∧ (σ5.1 111 8).toInt ≤ 1600 from by exact hu)⟩
    · refine ok_if (fun hc9 => ?_) (fun hc9 => ?_)
      · exact ok_some ⟨hT, (show 2 ≤ (σ5.1 111 8).toInt ∧ (σ5.1 111 8).toInt ≤ 1600 from by exact hu)⟩
      · refine ok_if (fun hc10 => ?_) (fun hc10 => ?_)
        · refine ok_gI rfl ?_
          refine ok_pI hT rfl (by decide) (fun σ12 eσ12 hOσ12 hT => ?_)
          have hu : 2 ≤ (σ12.1 111 8).toInt ∧ (σ12.1 111 8).toInt ≤ 1600 := by rw [zI_atI eσ12]; simp only [Int32.le_iff_toInt_le, Int32.lt_iff_toInt_lt, ti_add, ti_sub, ti_mul, Int32.reduceToInt] at *; omega
          refine ok_gR (v := 114) hT rfl (hR 111 2 rfl) ?_
          refine ok_s14 hT rfl (by decide) (by first | omega | decide | (simp only [Int32.le_iff_toInt_le, Int32.lt_iff_toInt_lt, ti_add, ti_sub, ti_mul, Int32.reduceToInt] at *; omega)) (by first | omega | decide | (simp only [Int32.le_iff_toInt_le, Int32.lt_iff_toInt_lt, ti_add, ti_sub, ti_mul, Int32.reduceToInt] at *; omega)) (fun σ14 eσ14 hOσ14 hT => ?_)
          have hu : 2 ≤ (σ14.1 111 8).toInt ∧ (σ14.1 111 8).toInt ≤ 1600 := by rw [hOσ14.2 111 (by decide)] <;> exact hu
          refine ok_gR (v := 115) hT rfl (hR 111 3 rfl) ?_
          refine ok_s14 hT rfl (by decide) (by first | omega | decide | (simp only [Int32.le_iff_toInt_le, Int32.lt_iff_toInt_lt, ti_add, ti_sub, ti_mul, Int32.reduceToInt] at *; omega)) (by first | omega | decide | (simp only [Int32.le_iff_toInt_le, Int32.lt_iff_toInt_lt, ti_add, ti_sub, ti_mul, Int32.reduceToInt] at *; omega)) (fun σ16 eσ16 hOσ16 hT => ?_)
          have hu : 2 ≤ (σ16.1 111 8).toInt ∧ (σ16.1 111 8).toInt ≤ 1600 := by rw [hOσ16.2 111 (by decide)] <;> exact hu
          refine ok_gR (v := 116) hT rfl (hR 111 4 rfl) ?_
          refine ok_s14 hT rfl (by decide) (by first | omega | decide | (simp only [Int32.le_iff_toInt_le, Int32.lt_iff_toInt_lt, ti_add, ti_sub, ti_mul, Int32.reduceToInt] at *; omega)) (by first | omega | decide | (simp only [Int32.le_iff_toInt_le, Int32.lt_iff_toInt_lt, ti_add, ti_sub, ti_mul, Int32.reduceToInt] at *; omega)) (fun σ18 eσ18 hOσ18 hT => ?_)
          have hu : 2 ≤ (σ18.1 111 8).toInt ∧ (σ18.1 111 8).toInt ≤ 1600 := by rw [hOσ18.2 111 (by decide)] <;> exact hu
          refine ok_gR (v := 113) hT rfl (hR 111 1 rfl) ?_
          refine ok_gR (v := 112) hT rfl (hR 111 0 rfl) ?_
          refine ok_aIn rfl (by first | omega | decide | (simp only [Int32.le_iff_toInt_le, Int32.lt_iff_toInt_lt, ti_add, ti_sub, ti_mul, Int32.reduceToInt] at *; omega)) (by first | omega | decide | (simp only [Int32.le_iff_toInt_le, Int32.lt_iff_toInt_lt, ti_add, ti_sub, ti_mul, Int32.reduceToInt] at *; omega)) (fun v21 ev21 => ?_)
          refine ok_s14 hT rfl (by decide) (by first | omega | decide | (simp only [Int32.le_iff_toInt_le, Int32.lt_iff_toInt_lt, ti_add, ti_sub, ti_mul, Int32.reduceToInt] at *; omega)) (by first | omega | decide | (simp only [Int32.le_iff_toInt_le, Int32.lt_iff_toInt_lt, ti_add, ti_sub, ti_mul, Int32.reduceToInt] at *; omega)) (fun σ22 eσ22 hOσ22 hT => ?_)
          have hu : 2 ≤ (σ22.1 111 8).toInt ∧ (σ22.1 111 8).toInt ≤ 1600 := by rw [hOσ22.2 111 (by decide)] <;> exact hu
          refine ok_gR (v := 112) hT rfl (hR 111 0 rfl) ?_
          refine ok_s14 hT rfl (by decide) (by first | omega | decide | (simp only [Int32.le_iff_toInt_le, Int32.lt_iff_toInt_lt, ti_add, ti_sub, ti_mul, Int32.reduceToInt] at *; omega)) (by first | omega | decide | (simp only [Int32.le_iff_toInt_le, Int32.lt_iff_toInt_lt, ti_add, ti_sub, ti_mul, Int32.reduceToInt] at *; omega)) (fun σ24 eσ24 hOσ24 hT => ?_)
          have hu : 2 ≤ (σ24.1 111 8).toInt ∧ (σ24.1 111 8).toInt ≤ 1600 := by rw [hOσ24.2 111 (by decide)] <;> exact hu
          refine ok_gR (v := 119) hT rfl (hR 111 7 rfl) ?_
          refine ok_aIn rfl (by first | omega | decide | (simp only [Int32.le_iff_toInt_le, Int32.lt_iff_toInt_lt, ti_add, ti_sub, ti_mul, Int32.reduceToInt] at *; omega)) (by first | omega | decide | (simp only [Int32.le_iff_toInt_le, Int32.lt_iff_toInt_lt, ti_add, ti_sub, ti_mul, Int32.reduceToInt] at *; omega)) (fun v26 ev26 => ?_)
          refine ok_s14 hT rfl (by decide) (by first | omega | decide | (simp only [Int32.le_iff_toInt_le, Int32.lt_iff_toInt_lt, ti_add, ti_sub, ti_mul, Int32.reduceToInt] at *; omega)) (by first | omega | decide | (simp only [Int32.le_iff_toInt_le, Int32.lt_iff_toInt_lt, ti_add, ti_sub, ti_mul, Int32.reduceToInt] at *; omega)) (fun σ27 eσ27 hOσ27 hT => ?_)
          have hu : 2 ≤ (σ27.1 111 8).toInt ∧ (σ27.1 111 8).toInt ≤ 1600 := by rw [hOσ27.2 111 (by decide)] <;> exact hu
          exact ok_some ⟨hT, (show 2 ≤ (σ27.1 111 8).toInt ∧ (σ27.1 111 8).toInt ≤ 1600 from by exact hu)⟩
        · exact ok_some ⟨hT, (show 2 ≤ (σ5.1 111 8).toInt ∧ (σ5.1 111 8).toInt ≤ 1600 from by exact hu)⟩
  · refine ok_if (fun hc28 => ?_) (fun hc28 => ?_)
    · rw [J_X1_node_93.eq_1]
      refine ok_gI rfl ?_
      refine ok_if (fun hc30 => ?_) (fun hc30 => ?_)
      · exact ok_some ⟨hT, (show 2 ≤ (σ5.1 111 8).toInt ∧ (σ5.1 111 8).toInt ≤ 1600 from by exact hu)⟩
      · refine ok_if (fun hc31 => ?_) (fun hc31 => ?_)
        · exact ok_some ⟨hT, (show 2 ≤ (σ5.1 111 8).toInt ∧ (σ5.1 111 8).toInt ≤ 1600 from by exact hu)⟩
        · refine ok_if (fun hc32 => ?_) (fun hc32 => ?_)
          · refine ok_gI rfl ?_
            refine ok_pI hT rfl (by decide) (fun σ34 eσ34 hOσ34 hT => ?_)
            have hu : 2 ≤ (σ34.1 111 8).toInt ∧ (σ34.1 111 8).toInt ≤ 1600 := by rw [zI_atI eσ34]; simp only [Int32.le_iff_toInt_le, Int32.lt_iff_toInt_lt, ti_add, ti_sub, ti_mul, Int32.reduceToInt] at *; omega
            refine ok_gR (v := 114) hT rfl (hR 111 2 rfl) ?_
            refine ok_s14 hT rfl (by decide) (by first | omega | decide | (simp only [Int32.le_iff_toInt_le, Int32.lt_iff_toInt_lt, ti_add, ti_sub, ti_mul, Int32.reduceToInt] at *; omega)) (by first | omega | decide | (simp only [Int32.le_iff_toInt_le, Int32.lt_iff_toInt_lt, ti_add, ti_sub, ti_mul, Int32.reduceToInt] at *; omega)) (fun σ36 eσ36 hOσ36 hT => ?_)
            have hu : 2 ≤ (σ36.1 111 8).toInt ∧ (σ36.1 111 8).toInt ≤ 1600 := by rw [hOσ36.2 111 (by decide)] <;> exact hu
            refine ok_gR (v := 115) hT rfl (hR 111 3 rfl) ?_
            refine ok_s14 hT rfl (by decide) (by first | omega | decide | (simp only [Int32.le_iff_toInt_le, Int32.lt_iff_toInt_lt, ti_add, ti_sub, ti_mul, Int32.reduceToInt] at *; omega)) (by first | omega | decide | (simp only [Int32.le_iff_toInt_le, Int32.lt_iff_toInt_lt, ti_add, ti_sub, ti_mul, Int32.reduceToInt] at *; omega)) (fun σ38 eσ38 hOσ38 hT => ?_)
            have hu : 2 ≤ (σ38.1 111 8).toInt ∧ (σ38.1 111 8).toInt ≤ 1600 := by rw [hOσ38.2 111 (by decide)] <;> exact hu
            refine ok_gR (v := 116) hT rfl (hR 111 4 rfl) ?_
            refine ok_s14 hT rfl (by decide) (by first | omega | decide | (simp only [Int32.le_iff_toInt_le, Int32.lt_iff_toInt_lt, ti_add, ti_sub, ti_mul, Int32.reduceToInt] at *; omega)) (by first | omega | decide | (simp only [Int32.le_iff_toInt_le, Int32.lt_iff_toInt_lt, ti_add, ti_sub, ti_mul, Int32.reduceToInt] at *; omega)) (fun σ40 eσ40 hOσ40 hT => ?_)
            have hu : 2 ≤ (σ40.1 111 8).toInt ∧ (σ40.1 111 8).toInt ≤ 1600 := by rw [hOσ40.2 111 (by decide)] <;> exact hu
            refine ok_gR (v := 113) hT rfl (hR 111 1 rfl) ?_
            refine ok_gR (v := 112) hT rfl (hR 111 0 rfl) ?_
            refine ok_aIn rfl (by first | omega | decide | (simp only [Int32.le_iff_toInt_le, Int32.lt_iff_toInt_lt, ti_add, ti_sub, ti_mul, Int32.reduceToInt] at *; omega)) (by first | omega | decide | (simp only [Int32.le_iff_toInt_le, Int32.lt_iff_toInt_lt, ti_add, ti_sub, ti_mul, Int32.reduceToInt] at *; omega)) (fun v43 ev43 => ?_)
            refine ok_s14 hT rfl (by decide) (by first | omega | decide | (simp only [Int32.le_iff_toInt_le, Int32.lt_iff_toInt_lt, ti_add, ti_sub, ti_mul, Int32.reduceToInt] at *; omega)) (by first | omega | decide | (simp only [Int32.le_iff_toInt_le, Int32.lt_iff_toInt_lt, ti_add, ti_sub, ti_mul, Int32.reduceToInt] at *; omega)) (fun σ44 eσ44 hOσ44 hT => ?_)
            have hu : 2 ≤ (σ44.1 111 8).toInt ∧ (σ44.1 111 8).toInt ≤ 1600 := by rw [hOσ44.2 111 (by decide)] <;> exact hu
            refine ok_gR (v := 112) hT rfl (hR 111 0 rfl) ?_
            refine ok_s14 hT rfl (by decide) (by first | omega | decide | (simp only [Int32.le_iff_toInt_le, Int32.lt_iff_toInt_lt, ti_add, ti_sub, ti_mul, Int32.reduceToInt] at *; omega)) (by first | omega | decide | (simp only [Int32.le_iff_toInt_le, Int32.lt_iff_toInt_lt, ti_add, ti_sub, ti_mul, Int32.reduceToInt] at *; omega)) (fun σ46 eσ46 hOσ46 hT => ?_)
            have hu : 2 ≤ (σ46.1 111 8).toInt ∧ (σ46.1 111 8).toInt ≤ 1600 := by rw [hOσ46.2 111 (by decide)] <;> exact hu
            refine ok_gR (v := 119) hT rfl (hR 111 7 rfl) ?_
            refine ok_aIn rfl (by first | omega | decide | (simp only [Int32.le_iff_toInt_le, Int32.lt_iff_toInt_lt, ti_add, ti_sub, ti_mul, Int32.reduceToInt] at *; omega)) (by first | omega | decide | (simp only [Int32.le_iff_toInt_le, Int32.lt_iff_toInt_lt, ti_add, ti_sub, ti_mul, Int32.reduceToInt] at *; omega)) (fun v48 ev48 => ?_)
            refine ok_s14 hT rfl (by decide) (by first | omega | decide | (simp only [Int32.le_iff_toInt_le, Int32.lt_iff_toInt_lt, ti_add, ti_sub, ti_mul, Int32.reduceToInt] at *; omega)) (by first | omega | decide | (simp only [Int32.le_iff_toInt_le, Int32.lt_iff_toInt_lt, ti_add, ti_sub, ti_mul, Int32.reduceToInt] at *; omega)) (fun σ49 eσ49 hOσ49 hT => ?_)
            have hu : 2 ≤ (σ49.1 111 8).toInt ∧ (σ49.1 111 8).toInt ≤ 1600 := by rw [hOσ49.2 111 (by decide)] <;> exact hu
            exact ok_some ⟨hT, (show 2 ≤ (σ49.1 111 8).toInt ∧ (σ49.1 111 8).toInt ≤ 1600 from by exact hu)⟩
          · exact ok_some ⟨hT, (show 2 ≤ (σ5.1 111 8).toInt ∧ (σ5.1 111 8).toInt ≤ 1600 from by exact hu)⟩
    · refine ok_if (fun hc50 => ?_) (fun hc50 => ?_)
      · rw [J_X1_node_93.eq_1]
        refine ok_gI rfl ?_
        refine ok_if (fun hc52 => ?_) (fun hc52 => ?_)
        · exact ok_some ⟨hT, (show 2 ≤ (σ5.1 111 8).toInt ∧ (σ5.1 111 8).toInt ≤ 1600 from by exact hu)⟩
        · refine ok_if (fun hc53 => ?_) (fun hc53 => ?_)
          · exact ok_some ⟨hT, (show 2 ≤ (σ5.1 111 8).toInt ∧ (σ5.1 111 8).toInt ≤ 1600 from by exact hu)⟩
          · refine ok_if (fun hc54 => ?_) (fun hc54 => ?_)
            · refine ok_gI rfl ?_
              refine ok_pI hT rfl (by decide) (fun σ56 eσ56 hOσ56 hT => ?_)
              have hu : 2 ≤ (σ56.1 111 8).toInt ∧ (σ56.1 111 8).toInt ≤ 1600 := by rw [zI_atI eσ56]; simp only [Int32.le_iff_toInt_le, Int32.lt_iff_toInt_lt, ti_add, ti_sub, ti_mul, Int32.reduceToInt] at *; omega
              refine ok_gR (v := 114) hT rfl (hR 111 2 rfl) ?_
              refine ok_s14 hT rfl (by decide) (by first | omega | decide | (simp only [Int32.le_iff_toInt_le, Int32.lt_iff_toInt_lt, ti_add, ti_sub, ti_mul, Int32.reduceToInt] at *; omega)) (by first | omega | decide | (simp only [Int32.le_iff_toInt_le, Int32.lt_iff_toInt_lt, ti_add, ti_sub, ti_mul, Int32.reduceToInt] at *; omega)) (fun σ58 eσ58 hOσ58 hT => ?_)
              have hu : 2 ≤ (σ58.1 111 8).toInt ∧ (σ58.1 111 8).toInt ≤ 1600 := by rw [hOσ58.2 111 (by decide)] <;> exact hu
              refine ok_gR (v := 115) hT rfl (hR 111 3 rfl) ?_
              refine ok_s14 hT rfl (by decide) (by first | omega | decide | (simp only [Int32.le_iff_toInt_le, Int32.lt_iff_toInt_lt, ti_add, ti_sub, ti_mul, Int32.reduceToInt] at *; omega)) (by first | omega | decide | (simp only [Int32.le_iff_toInt_le, Int32.lt_iff_toInt_lt, ti_add, ti_sub, ti_mul, Int32.reduceToInt] at *; omega)) (fun σ60 eσ60 hOσ60 hT => ?_)
              have hu : 2 ≤ (σ60.1 111 8).toInt ∧ (σ60.1 111 8).toInt ≤ 1600 := by rw [hOσ60.2 111 (by decide)] <;> exact hu
              refine ok_gR (v := 116) hT rfl (hR 111 4 rfl) ?_
              refine ok_s14 hT rfl (by decide) (by first | omega | decide | (simp only [Int32.le_iff_toInt_le, Int32.lt_iff_toInt_lt, ti_add, ti_sub, ti_mul, Int32.reduceToInt] at *; omega)) (by first | omega | decide | (simp only [Int32.le_iff_toInt_le, Int32.lt_iff_toInt_lt, ti_add, ti_sub, ti_mul, Int32.reduceToInt] at *; omega)) (fun σ62 eσ62 hOσ62 hT => ?_)
              have hu : 2 ≤ (σ62.1 111 8).toInt ∧ (σ62.1 111 8).toInt ≤ 1600 := by rw [hOσ62.2 111 (by decide)] <;> exact hu
              refine ok_gR (v := 113) hT rfl (hR 111 1 rfl) ?_
              refine ok_gR (v := 112) hT rfl (hR 111 0 rfl) ?_
              refine ok_aIn rfl (by first | omega | decide | (simp only [Int32.le_iff_toInt_le, Int32.lt_iff_toInt_lt, ti_add, ti_sub, ti_mul, Int32.reduceToInt] at *; omega)) (by first | omega | decide | (simp only [Int32.le_iff_toInt_le, Int32.lt_iff_toInt_lt, ti_add, ti_sub, ti_mul, Int32.reduceToInt] at *; omega)) (fun v65 ev65 => ?_)
              refine ok_s14 hT rfl (by decide) (by first | omega | decide | (simp only [Int32.le_iff_toInt_le, Int32.lt_iff_toInt_lt, ti_add, ti_sub, ti_mul, Int32.reduceToInt] at *; omega)) (by first | omega | decide | (simp only [Int32.le_iff_toInt_le, Int32.lt_iff_toInt_lt, ti_add, ti_sub, ti_mul, Int32.reduceToInt] at *; omega)) (fun σ66 eσ66 hOσ66 hT => ?_)
              have hu : 2 ≤ (σ66.1 111 8).toInt ∧ (σ66.1 111 8).toInt ≤ 1600 := by rw [hOσ66.2 111 (by decide)] <;> exact hu
              refine ok_gR (v := 112) hT rfl (hR 111 0 rfl) ?_
              refine ok_s14 hT rfl (by decide) (by first | omega | decide | (simp only [Int32.le_iff_toInt_le, Int32.lt_iff_toInt_lt, ti_add, ti_sub, ti_mul, Int32.reduceToInt] at *; omega)) (by first | omega | decide | (simp only [Int32.le_iff_toInt_le, Int32.lt_iff_toInt_lt, ti_add, ti_sub, ti_mul, Int32.reduceToInt] at *; omega)) (fun σ68 eσ68 hOσ68 hT => ?_)
              have hu : 2 ≤ (σ68.1 111 8).toInt ∧ (σ68.1 111 8).toInt ≤ 1600 := by rw [hOσ68.2 111 (by decide)] <;> exact hu
              refine ok_gR (v := 119) hT rfl (hR 111 7 rfl) ?_
              refine ok_aIn rfl (by first | omega | decide | (simp only [Int32.le_iff_toInt_le, Int32.lt_iff_toInt_lt, ti_add, ti_sub, ti_mul, Int32.reduceToInt] at *; omega)) (by first | omega | decide | (simp only [Int32.le_iff_toInt_le, Int32.lt_iff_toInt_lt, ti_add, ti_sub, ti_mul, Int32.reduceToInt] at *; omega)) (fun v70 ev70 => ?_)
              refine ok_s14 hT rfl (by decide) (by first | omega | decide | (simp only [Int32.le_iff_toInt_le, Int32.lt_iff_toInt_lt, ti_add, ti_sub, ti_mul, Int32.reduceToInt] at *; omega)) (by first | omega | decide | (simp only [Int32.le_iff_toInt_le, Int32.lt_iff_toInt_lt, ti_add, ti_sub, ti_mul, Int32.reduceToInt] at *; omega)) (fun σ71 eσ71 hOσ71 hT => ?_)
              have hu : 2 ≤ (σ71.1 111 8).toInt ∧ (σ71.1 111 8).toInt ≤ 1600 := by rw [hOσ71.2 111 (by decide)] <;> exact hu
              exact ok_some ⟨hT, (show 2 ≤ (σ71.1 111 8).toInt ∧ (σ71.1 111 8).toInt ≤ 1600 from by exact hu)⟩
            · exact ok_some ⟨hT, (show 2 ≤ (σ5.1 111 8).toInt ∧ (σ5.1 111 8).toInt ≤ 1600 from by exact hu)⟩
      · refine ok_gR (v := 114) hT rfl (hR 111 2 rfl) ?_
        refine ok_aIn rfl (by first | omega | decide | (simp only [Int32.le_iff_toInt_le, Int32.lt_iff_toInt_lt, ti_add, ti_sub, ti_mul, Int32.reduceToInt] at *; omega)) (by first | omega | decide | (simp only [Int32.le_iff_toInt_le, Int32.lt_iff_toInt_lt, ti_add, ti_sub, ti_mul, Int32.reduceToInt] at *; omega)) (fun v73 ev73 => ?_)
        refine ok_if (fun hc74 => ?_) (fun hc74 => ?_)
        · refine ok_gR (v := 115) hT rfl (hR 111 3 rfl) ?_
          refine ok_aIn rfl (by first | omega | decide | (simp only [Int32.le_iff_toInt_le, Int32.lt_iff_toInt_lt, ti_add, ti_sub, ti_mul, Int32.reduceToInt] at *; omega)) (by first | omega | decide | (simp only [Int32.le_iff_toInt_le, Int32.lt_iff_toInt_lt, ti_add, ti_sub, ti_mul, Int32.reduceToInt] at *; omega)) (fun v76 ev76 => ?_)
          refine ok_if (fun hc77 => ?_) (fun hc77 => ?_)
          · refine ok_gR (v := 116) hT rfl (hR 111 4 rfl) ?_
            refine ok_aIn rfl (by first | omega | decide | (simp only [Int32.le_iff_toInt_le, Int32.lt_iff_toInt_lt, ti_add, ti_sub, ti_mul, Int32.reduceToInt] at *; omega)) (by first | omega | decide | (simp only [Int32.le_iff_toInt_le, Int32.lt_iff_toInt_lt, ti_add, ti_sub, ti_mul, Int32.reduceToInt] at *; omega)) (fun v79 ev79 => ?_)
            refine ok_if (fun hc80 => ?_) (fun hc80 => ?_)
            · exact ok_some ⟨hT, (show 2 ≤ (σ5.1 111 8).toInt ∧ (σ5.1 111 8).toInt ≤ 1600 from by exact hu)⟩
            · refine ok_gR (v := 113) hT rfl (hR 111 1 rfl) ?_
              refine ok_aIn rfl (by first | omega | decide | (simp only [Int32.le_iff_toInt_le, Int32.lt_iff_toInt_lt, ti_add, ti_sub, ti_mul, Int32.reduceToInt] at *; omega)) (by first | omega | decide | (simp only [Int32.le_iff_toInt_le, Int32.lt_iff_toInt_lt, ti_add, ti_sub, ti_mul, Int32.reduceToInt] at *; omega)) (fun v82 ev82 => ?_)
              exact ih20_5 (v82, x6_5 + 1, σ5) (show Tr [111, 112, 113, 114, 115, 116, 119] σ0 σ5 ∧ (0 ≤ (x6_5 + 1).toInt) ∧ (2 ≤ (σ5.1 111 8).toInt ∧ (σ5.1 111 8).toInt ≤ 1600) from ⟨hT, (by first | omega | decide | (simp only [Int32.le_iff_toInt_le, Int32.lt_iff_toInt_lt, ti_add, ti_sub, ti_mul, Int32.reduceToInt] at *; omega)), hu⟩) (show (1600 - (x6_5 + 1).toInt).toNat < (1600 - x6_5.toInt).toNat from (by first | omega | decide | (simp only [Int32.le_iff_toInt_le, Int32.lt_iff_toInt_lt, ti_add, ti_sub, ti_mul, Int32.reduceToInt] at *; omega)))
          · refine ok_gR (v := 113) hT rfl (hR 111 1 rfl) ?_
            refine ok_aIn rfl (by first | omega | decide | (simp only [Int32.le_iff_toInt_le, Int32.lt_iff_toInt_lt, ti_add, ti_sub, ti_mul, Int32.reduceToInt] at *; omega)) (by first | omega | decide | (simp only [Int32.le_iff_toInt_le, Int32.lt_iff_toInt_lt, ti_add, ti_sub, ti_mul, Int32.reduceToInt] at *; omega)) (fun v84 ev84 => ?_)
            exact ih20_5 (v84, x6_5 + 1, σ5) (show Tr [111, 112, 113, 114, 115, 116, 119] σ0 σ5 ∧ (0 ≤ (x6_5 + 1).toInt) ∧ (2 ≤ (σ5.1 111 8).toInt ∧ (σ5.1 111 8).toInt ≤ 1600) from ⟨hT, (by first | omega | decide | (simp only [Int32.le_iff_toInt_le, Int32.lt_iff_toInt_lt, ti_add, ti_sub, ti_mul, Int32.reduceToInt] at *; omega)), hu⟩) (show (1600 - (x6_5 + 1).toInt).toNat < (1600 - x6_5.toInt).toNat from (by first | omega | decide | (simp only [Int32.le_iff_toInt_le, Int32.lt_iff_toInt_lt, ti_add, ti_sub, ti_mul, Int32.reduceToInt] at *; omega)))
        · refine ok_gR (v := 113) hT rfl (hR 111 1 rfl) ?_
          refine ok_aIn rfl (by first | omega | decide | (simp only [Int32.le_iff_toInt_le, Int32.lt_iff_toInt_lt, ti_add, ti_sub, ti_mul, Int32.reduceToInt] at *; omega)) (by first | omega | decide | (simp only [Int32.le_iff_toInt_le, Int32.lt_iff_toInt_lt, ti_add, ti_sub, ti_mul, Int32.reduceToInt] at *; omega)) (fun v86 ev86 => ?_)
          exact ih20_5 (v86, x6_5 + 1, σ5) (show Tr [111, 112, 113, 114, 115, 116, 119] σ0 σ5 ∧ (0 ≤ (x6_5 + 1).toInt) ∧ (2 ≤ (σ5.1 111 8).toInt ∧ (σ5.1 111 8).toInt ≤ 1600) from ⟨hT, (by first | omega | decide | (simp only [Int32.le_iff_toInt_le, Int32.lt_iff_toInt_lt, ti_add, ti_sub, ti_mul, Int32.reduceToInt] at *; omega)), hu⟩) (show (1600 - (x6_5 + 1).toInt).toNat < (1600 - x6_5.toInt).toNat from (by first | omega | decide | (simp only [Int32.le_iff_toInt_le, Int32.lt_iff_toInt_lt, ti_add, ti_sub, ti_mul, Int32.reduceToInt] at *; omega)))

set_option maxHeartbeats 4000000 in
set_option maxRecDepth 100000 in
theorem s_X1_grow {N : Nat} (hN : 1048576 ≤ N) {x1 : Nat} {x2 : Int32} {σ0 : zS}  (hR : RF σ0.2.2) (h_x1 : (zKd x1).1 = 2) (hu : 2 ≤ (σ0.1 111 8).toInt ∧ (σ0.1 111 8).toInt ≤ 1600) (hn : 0 ≤ x2.toInt ∧ x2.toInt ≤ 10) : Ok (f_X1_grow N 111 x1 x2 σ0) (fun r => Tr [111, 112, 113, 114, 115, 116, 118, 119] σ0 r.2 ∧ (2 ≤ (r.2.1 111 8).toInt ∧ (r.2.1 111 8).toInt ≤ 1600)) := by
  have hT : Tr [111, 112, 113, 114, 115, 116, 118, 119] σ0 σ0 := Tr.rf
  rw [f_X1_grow.eq_1]
  have q0 := ti_one10 (ti_mm x2).1 (ti_mm x2).2
  refine ok_lp (fun t : Int32 × zS => Tr [111, 112, 113, 114, 115, 116, 118, 119] σ0 (t.2) ∧ (0 ≤ (t.1).toInt) ∧ (2 ≤ ((t.2).1 111 8).toInt ∧ ((t.2).1 111 8).toInt ≤ 1600)) (fun t : Int32 × zS => (((1 : Int32) <<< ((zmax 0 (zmin 10 x2)) &&& 31)).toInt - (t.1).toInt).toNat) (fun again1 t hI ih16_1 => ?_) N _ (show Tr [111, 112, 113, 114, 115, 116, 118, 119] σ0 σ0 ∧ (0 ≤ (0 : Int32).toInt) ∧ (2 ≤ (σ0.1 111 8).toInt ∧ (σ0.1 111 8).toInt ≤ 1600) from ⟨hT, (by first | omega | decide | (simp only [Int32.le_iff_toInt_le, Int32.lt_iff_toInt_lt, ti_add, ti_sub, ti_mul, Int32.reduceToInt] at *; omega)), hu⟩) (show (((1 : Int32) <<< ((zmax 0 (zmin 10 x2)) &&& 31)).toInt - (0 : Int32).toInt).toNat < N from (by first | omega | decide | (simp only [Int32.le_iff_toInt_le, Int32.lt_iff_toInt_lt, ti_add, ti_sub, ti_mul, Int32.reduceToInt] at *; omega)))
  obtain ⟨x4_1, σ1⟩ := t
  have hI : Tr [111, 112, 113, 114, 115, 116, 118, 119] σ0 σ1 ∧ (0 ≤ x4_1.toInt) ∧ (2 ≤ (σ1.1 111 8).toInt ∧ (σ1.1 111 8).toInt ≤ 1600) := hI
  obtain ⟨hT, hI1, hu⟩ := hI
  rw [F_X1_grow_16.eq_1]
  refine ok_if (fun hc2 => ?_) (fun hc2 => ?_)
  · have q5 := ti_zmin 10 x2
    simp only [Int32.reduceToInt] at q5
    refine ok_lp (fun t : Int32 × zS => Tr [111, 112, 113, 114, 115, 116, 118, 119] σ0 (t.2) ∧ ((t.1).toInt ≤ 9) ∧ (2 ≤ ((t.2).1 111 8).toInt ∧ ((t.2).1 111 8).toInt ≤ 1600)) (fun t : Int32 × zS => ((t.1).toInt + 1).toNat) (fun again3 t hI ih64_3 => ?_) N _ (show Tr [111, 112, 113, 114, 115, 116, 118, 119] σ0 σ1 ∧ (((zmin 10 x2) - 1).toInt ≤ 9) ∧ (2 ≤ (σ1.1 111 8).toInt ∧ (σ1.1 111 8).toInt ≤ 1600) from ⟨hT, (by first | omega | decide | (simp only [Int32.le_iff_toInt_le, Int32.lt_iff_toInt_lt, ti_add, ti_sub, ti_mul, Int32.reduceToInt] at *; omega)), hu⟩) (show (((zmin 10 x2) - 1).toInt + 1).toNat < N from (by first | omega | decide | (simp only [Int32.le_iff_toInt_le, Int32.lt_iff_toInt_lt, ti_add, ti_sub, ti_mul, Int32.reduceToInt] at *; omega)))
    obtain ⟨x4_3, σ3⟩ := t
    have hI : Tr [111, 112, 113, 114, 115, 116, 118, 119] σ0 σ3 ∧ (x4_3.toInt ≤ 9) ∧ (2 ≤ (σ3.1 111 8).toInt ∧ (σ3.1 111 8).toInt ≤ 1600) := hI
    obtain ⟨hT, hI3, hu⟩ := hI
    rw [F_X1_grow_64.eq_1]
    refine ok_if (fun hc4 => ?_) (fun hc4 => ?_)
    · exact ok_some ⟨hT, (show 2 ≤ (σ3.1 111 8).toInt ∧ (σ3.1 111 8).toInt ≤ 1600 from by exact hu)⟩
    · have q9 := ti_one9 (x := x4_3) (by simp only [Int32.le_iff_toInt_le, Int32.lt_iff_toInt_lt, Int32.reduceToInt] at *; omega) (by simp only [Int32.le_iff_toInt_le, Int32.lt_iff_toInt_lt, Int32.reduceToInt] at *; omega)
      refine ok_lp (fun t : Int32 × zS => Tr [111, 112, 113, 114, 115, 116, 118, 119] σ0 (t.2) ∧ (0 ≤ (t.1).toInt) ∧ (2 ≤ ((t.2).1 111 8).toInt ∧ ((t.2).1 111 8).toInt ≤ 1600)) (fun t : Int32 × zS => (((1 : Int32) <<< (x4_3 &&& 31)).toInt - (t.1).toInt).toNat) (fun again5 t hI ih72_5 => ?_) N _ (show Tr [111, 112, 113, 114, 115, 116, 118, 119] σ0 σ3 ∧ (0 ≤ (0 : Int32).toInt) ∧ (2 ≤ (σ3.1 111 8).toInt ∧ (σ3.1 111 8).toInt ≤ 1600) from ⟨hT, (by first | omega | decide | (simp only [Int32.le_iff_toInt_le, Int32.lt_iff_toInt_lt, ti_add, ti_sub, ti_mul, Int32.reduceToInt] at *; omega)), hu⟩) (show (((1 : Int32) <<< (x4_3 &&& 31)).toInt - (0 : Int32).toInt).toNat < N from (by first | omega | decide | (simp only [Int32.le_iff_toInt_le, Int32.lt_iff_toInt_lt, ti_add, ti_sub, ti_mul, Int32.reduceToInt] at *; omega)))
      obtain ⟨x5_5, σ5⟩ := t
      have hI : Tr [111, 112, 113, 114, 115, 116, 118, 119] σ0 σ5 ∧ (0 ≤ x5_5.toInt) ∧ (2 ≤ (σ5.1 111 8).toInt ∧ (σ5.1 111 8).toInt ≤ 1600) := hI
      obtain ⟨hT, hI5, hu⟩ := hI
      rw [F_X1_grow_72.eq_1]
      refine ok_if (fun hc6 => ?_) (fun hc6 => ?_)
      · exact ih64_3 (x4_3 + (-1), σ5) (show Tr [111, 112, 113, 114, 115, 116, 118, 119] σ0 σ5 ∧ ((x4_3 + (-1)).toInt ≤ 9) ∧ (2 ≤ (σ5.1 111 8).toInt ∧ (σ5.1 111 8).toInt ≤ 1600) from ⟨hT, (by first | omega | decide | (simp only [Int32.le_iff_toInt_le, Int32.lt_iff_toInt_lt, ti_add, ti_sub, ti_mul, Int32.reduceToInt] at *; omega)), hu⟩) (show ((x4_3 + (-1)).toInt + 1).toNat < (x4_3.toInt + 1).toNat from (by first | omega | decide | (simp only [Int32.le_iff_toInt_le, Int32.lt_iff_toInt_lt, ti_add, ti_sub, ti_mul, Int32.reduceToInt] at *; omega)))
      · refine ok_gR (v := 118) hT rfl (hR 111 6 rfl) ?_
        refine ok_aIn rfl (by first | omega | decide | (simp only [Int32.le_iff_toInt_le, Int32.lt_iff_toInt_lt, ti_add, ti_sub, ti_mul, Int32.reduceToInt] at *; omega)) (by first | omega | decide | (simp only [Int32.le_iff_toInt_le, Int32.lt_iff_toInt_lt, ti_add, ti_sub, ti_mul, Int32.reduceToInt] at *; omega)) (fun v8 ev8 => ?_)
        refine ok_gR (v := 118) hT rfl (hR 111 6 rfl) ?_
        refine ok_if (fun hc10 => ?_) (fun hc10 => ?_)
        · refine ok_gR (v := 118) hT rfl (hR 111 6 rfl) ?_
          refine ok_aIn rfl (by first | omega | decide | (simp only [Int32.le_iff_toInt_le, Int32.lt_iff_toInt_lt, ti_add, ti_sub, ti_mul, Int32.reduceToInt] at *; omega)) (by first | omega | decide | (simp only [Int32.le_iff_toInt_le, Int32.lt_iff_toInt_lt, ti_add, ti_sub, ti_mul, Int32.reduceToInt] at *; omega)) (fun v12 ev12 => ?_)
          refine ok_s14 hT rfl (by decide) (by first | omega | decide | (simp only [Int32.le_iff_toInt_le, Int32.lt_iff_toInt_lt, ti_add, ti_sub, ti_mul, Int32.reduceToInt] at *; omega)) (by first | omega | decide | (simp only [Int32.le_iff_toInt_le, Int32.lt_iff_toInt_lt, ti_add, ti_sub, ti_mul, Int32.reduceToInt] at *; omega)) (fun σ13 eσ13 hOσ13 hT => ?_)
          have hu : 2 ≤ (σ13.1 111 8).toInt ∧ (σ13.1 111 8).toInt ≤ 1600 := by rw [hOσ13.2 111 (by decide)] <;> exact hu
          exact ih72_5 (x5_5 + 1, σ13) (show Tr [111, 112, 113, 114, 115, 116, 118, 119] σ0 σ13 ∧ (0 ≤ (x5_5 + 1).toInt) ∧ (2 ≤ (σ13.1 111 8).toInt ∧ (σ13.1 111 8).toInt ≤ 1600) from ⟨hT, (by first | omega | decide | (simp only [Int32.le_iff_toInt_le, Int32.lt_iff_toInt_lt, ti_add, ti_sub, ti_mul, Int32.reduceToInt] at *; omega)), hu⟩) (show (((1 : Int32) <<< (x4_3 &&& 31)).toInt - (x5_5 + 1).toInt).toNat < (((1 : Int32) <<< (x4_3 &&& 31)).toInt - x5_5.toInt).toNat from (by first | omega | decide | (simp only [Int32.le_iff_toInt_le, Int32.lt_iff_toInt_lt, ti_add, ti_sub, ti_mul, Int32.reduceToInt] at *; omega)))
        · refine ok_gR (v := 118) hT rfl (hR 111 6 rfl) ?_
          refine ok_aIn rfl (by first | omega | decide | (simp only [Int32.le_iff_toInt_le, Int32.lt_iff_toInt_lt, ti_add, ti_sub, ti_mul, Int32.reduceToInt] at *; omega)) (by first | omega | decide | (simp only [Int32.le_iff_toInt_le, Int32.lt_iff_toInt_lt, ti_add, ti_sub, ti_mul, Int32.reduceToInt] at *; omega)) (fun v15 ev15 => ?_)
          refine ok_gC rfl ?_
          refine ok_zbT (Q := fun V σ => 2 ≤ (σ.1 111 8).toInt ∧ (σ.1 111 8).toInt ≤ 1600) hT (s_X1_node hN (hR.tr hT) (by first | omega | decide | (simp only [Int32.le_iff_toInt_le, Int32.lt_iff_toInt_lt, ti_add, ti_sub, ti_mul, Int32.reduceToInt] at *; omega))) (by decide) (fun v16 σ17 hOσ17 hT hqv16 => ?_)
          have hqv16 : 2 ≤ (σ17.1 111 8).toInt ∧ (σ17.1 111 8).toInt ≤ 1600 := hqv16
          have hu : 2 ≤ (σ17.1 111 8).toInt ∧ (σ17.1 111 8).toInt ≤ 1600 := hqv16
          refine ok_s14 hT rfl (by decide) (by first | omega | decide | (simp only [Int32.le_iff_toInt_le, Int32.lt_iff_toInt_lt, ti_add, ti_sub, ti_mul, Int32.reduceToInt] at *; omega)) (by first | omega | decide | (simp only [Int32.le_iff_toInt_le, Int32.lt_iff_toInt_lt, ti_add, ti_sub, ti_mul, Int32.reduceToInt] at *; omega)) (fun σ18 eσ18 hOσ18 hT => ?_)
          have hu : 2 ≤ (σ18.1 111 8).toInt ∧ (σ18.1 111 8).toInt ≤ 1600 := by rw [hOσ18.2 111 (by decide)] <;> exact hu
          exact ih72_5 (x5_5 + 1, σ18) (show Tr [111, 112, 113, 114, 115, 116, 118, 119] σ0 σ18 ∧ (0 ≤ (x5_5 + 1).toInt) ∧ (2 ≤ (σ18.1 111 8).toInt ∧ (σ18.1 111 8).toInt ≤ 1600) from ⟨hT, (by first | omega | decide | (simp only [Int32.le_iff_toInt_le, Int32.lt_iff_toInt_lt, ti_add, ti_sub, ti_mul, Int32.reduceToInt] at *; omega)), hu⟩) (show (((1 : Int32) <<< (x4_3 &&& 31)).toInt - (x5_5 + 1).toInt).toNat < (((1 : Int32) <<< (x4_3 &&& 31)).toInt - x5_5.toInt).toNat from (by first | omega | decide | (simp only [Int32.le_iff_toInt_le, Int32.lt_iff_toInt_lt, ti_add, ti_sub, ti_mul, Int32.reduceToInt] at *; omega)))
  · refine ok_gR (v := 118) hT rfl (hR 111 6 rfl) ?_
    refine ok_gR (v := 117) hT rfl (hR 111 5 rfl) ?_
    refine ok_aIn rfl (by first | omega | decide | (simp only [Int32.le_iff_toInt_le, Int32.lt_iff_toInt_lt, ti_add, ti_sub, ti_mul, Int32.reduceToInt] at *; omega)) (by first | omega | decide | (simp only [Int32.le_iff_toInt_le, Int32.lt_iff_toInt_lt, ti_add, ti_sub, ti_mul, Int32.reduceToInt] at *; omega)) (fun v21 ev21 => ?_)
    refine ok_gC h_x1 ?_
    refine ok_zbT (Q := fun V σ => V = 0 ∨ V = 1) hT (s_X2_holds hN (hR.tr hT) h_x1) (fun _ h9 => absurd h9 List.not_mem_nil) (fun v22 σ23 hOσ23 hT hqv22 => ?_)
    have hqv22 : v22 = 0 ∨ v22 = 1 := hqv22
    have hu : 2 ≤ (σ23.1 111 8).toInt ∧ (σ23.1 111 8).toInt ≤ 1600 := by rw [hOσ23.2 111 (by decide)] <;> exact hu
    refine ok_if (fun hc24 => ?_) (fun hc24 => ?_)
    · refine ok_s14 hT rfl (by decide) (by first | omega | decide | (simp only [Int32.le_iff_toInt_le, Int32.lt_iff_toInt_lt, ti_add, ti_sub, ti_mul, Int32.reduceToInt] at *; omega)) (by first | omega | decide | (simp only [Int32.le_iff_toInt_le, Int32.lt_iff_toInt_lt, ti_add, ti_sub, ti_mul, Int32.reduceToInt] at *; omega)) (fun σ25 eσ25 hOσ25 hT => ?_)
      have hu : 2 ≤ (σ25.1 111 8).toInt ∧ (σ25.1 111 8).toInt ≤ 1600 := by rw [hOσ25.2 111 (by decide)] <;> exact hu
      exact ih16_1 (x4_1 + 1, σ25) (show Tr [111, 112, 113, 114, 115, 116, 118, 119] σ0 σ25 ∧ (0 ≤ (x4_1 + 1).toInt) ∧ (2 ≤ (σ25.1 111 8).toInt ∧ (σ25.1 111 8).toInt ≤ 1600) from ⟨hT, (by first | omega | decide | (simp only [Int32.le_iff_toInt_le, Int32.lt_iff_toInt_lt, ti_add, ti_sub, ti_mul, Int32.reduceToInt] at *; omega)), hu⟩) (show (((1 : Int32) <<< ((zmax 0 (zmin 10 x2)) &&& 31)).toInt - (x4_1 + 1).toInt).toNat < (((1 : Int32) <<< ((zmax 0 (zmin 10 x2)) &&& 31)).toInt - x4_1.toInt).toNat from (by first | omega | decide | (simp only [Int32.le_iff_toInt_le, Int32.lt_iff_toInt_lt, ti_add, ti_sub, ti_mul, Int32.reduceToInt] at *; omega)))
    · refine ok_s14 hT rfl (by decide) (by first | omega | decide | (simp only [Int32.le_iff_toInt_le, Int32.lt_iff_toInt_lt, ti_add, ti_sub, ti_mul, Int32.reduceToInt] at *; omega)) (by first | omega | decide | (simp only [Int32.le_iff_toInt_le, Int32.lt_iff_toInt_lt, ti_add, ti_sub, ti_mul, Int32.reduceToInt] at *; omega)) (fun σ26 eσ26 hOσ26 hT => ?_)
      have hu : 2 ≤ (σ26.1 111 8).toInt ∧ (σ26.1 111 8).toInt ≤ 1600 := by rw [hOσ26.2 111 (by decide)] <;> exact hu
      exact ih16_1 (x4_1 + 1, σ26) (show Tr [111, 112, 113, 114, 115, 116, 118, 119] σ0 σ26 ∧ (0 ≤ (x4_1 + 1).toInt) ∧ (2 ≤ (σ26.1 111 8).toInt ∧ (σ26.1 111 8).toInt ≤ 1600) from ⟨hT, (by first | omega | decide | (simp only [Int32.le_iff_toInt_le, Int32.lt_iff_toInt_lt, ti_add, ti_sub, ti_mul, Int32.reduceToInt] at *; omega)), hu⟩) (show (((1 : Int32) <<< ((zmax 0 (zmin 10 x2)) &&& 31)).toInt - (x4_1 + 1).toInt).toNat < (((1 : Int32) <<< ((zmax 0 (zmin 10 x2)) &&& 31)).toInt - x4_1.toInt).toNat from (by first | omega | decide | (simp only [Int32.le_iff_toInt_le, Int32.lt_iff_toInt_lt, ti_add, ti_sub, ti_mul, Int32.reduceToInt] at *; omega)))

set_option maxHeartbeats 4000000 in
set_option maxRecDepth 100000 in
theorem s_X1_spread_2 {N : Nat} (hN : 1048576 ≤ N)  {σ0 : zS}  (hR : RF σ0.2.2) (hn : 0 ≤ (σ0.1 2 0).toInt ∧ (σ0.1 2 0).toInt ≤ 10) : Ok (f_X1_spread N 111 2 σ0) (fun r => Tr [117] σ0 r.2 ∧ (True)) := by
  have hT : Tr [117] σ0 σ0 := Tr.rf
  rw [f_X1_spread.eq_1]
  refine ok_gR (v := 117) hT rfl (hR 111 5 rfl) ?_
  refine ok_s14 hT rfl (by decide) (by first | omega | decide | (simp only [Int32.le_iff_toInt_le, Int32.lt_iff_toInt_lt, ti_add, ti_sub, ti_mul, Int32.reduceToInt] at *; omega)) (by first | omega | decide | (simp only [Int32.le_iff_toInt_le, Int32.lt_iff_toInt_lt, ti_add, ti_sub, ti_mul, Int32.reduceToInt] at *; omega)) (fun σ2 eσ2 hOσ2 hT => ?_)
  refine ok_lp (fun t : Int32 × zS => Tr [117] σ0 (t.2) ∧ (0 ≤ (t.1).toInt)) (fun t : Int32 × zS => (10 - (t.1).toInt).toNat) (fun again3 t hI ih9_3 => ?_) N _ (show Tr [117] σ0 σ2 ∧ (0 ≤ (0 : Int32).toInt) from ⟨hT, (by first | omega | decide | (simp only [Int32.le_iff_toInt_le, Int32.lt_iff_toInt_lt, ti_add, ti_sub, ti_mul, Int32.reduceToInt] at *; omega))⟩) (show (10 - (0 : Int32).toInt).toNat < N from (by first | omega | decide | (simp only [Int32.le_iff_toInt_le, Int32.lt_iff_toInt_lt, ti_add, ti_sub, ti_mul, Int32.reduceToInt] at *; omega)))
  obtain ⟨x2_3, σ3⟩ := t
  have hI : Tr [117] σ0 σ3 ∧ (0 ≤ x2_3.toInt) := hI
  obtain ⟨hT, hI3⟩ := hI
  rw [F_X1_spread_9.eq_1]
  refine ok_gI0 hT rfl (by decide) ?_
  refine ok_if (fun hc5 => ?_) (fun hc5 => ?_)
  · exact ok_some ⟨hT, trivial⟩
  · refine ok_if (fun hc6 => ?_) (fun hc6 => ?_)
    · exact ok_some ⟨hT, trivial⟩
    · have q9 := ti_one9 (x := x2_3) (by simp only [Int32.le_iff_toInt_le, Int32.lt_iff_toInt_lt, Int32.reduceToInt] at *; omega) (by simp only [Int32.le_iff_toInt_le, Int32.lt_iff_toInt_lt, Int32.reduceToInt] at *; omega)
      refine ok_gR (v := 6) hT rfl (hR 2 6 rfl) ?_
      refine ok_gI0 hT rfl (by decide) ?_
      refine ok_aIn rfl (by first | omega | decide | (simp only [Int32.le_iff_toInt_le, Int32.lt_iff_toInt_lt, ti_add, ti_sub, ti_mul, Int32.reduceToInt] at *; omega)) (by first | omega | decide | (simp only [Int32.le_iff_toInt_le, Int32.lt_iff_toInt_lt, ti_add, ti_sub, ti_mul, Int32.reduceToInt] at *; omega)) (fun v9 ev9 => ?_)
      refine ok_lp (fun t : Int32 × zS => Tr [117] σ0 (t.2) ∧ (0 ≤ (t.1).toInt)) (fun t : Int32 × zS => (((1 : Int32) <<< (x2_3 &&& 31)).toInt - (t.1).toInt).toNat) (fun again10 t hI ih47_10 => ?_) N _ (show Tr [117] σ0 σ3 ∧ (0 ≤ (0 : Int32).toInt) from ⟨hT, (by first | omega | decide | (simp only [Int32.le_iff_toInt_le, Int32.lt_iff_toInt_lt, ti_add, ti_sub, ti_mul, Int32.reduceToInt] at *; omega))⟩) (show (((1 : Int32) <<< (x2_3 &&& 31)).toInt - (0 : Int32).toInt).toNat < N from (by first | omega | decide | (simp only [Int32.le_iff_toInt_le, Int32.lt_iff_toInt_lt, ti_add, ti_sub, ti_mul, Int32.reduceToInt] at *; omega)))
      obtain ⟨x5_10, σ10⟩ := t
      have hI : Tr [117] σ0 σ10 ∧ (0 ≤ x5_10.toInt) := hI
      obtain ⟨hT, hI10⟩ := hI
      rw [F_X1_spread_47.eq_1]
      refine ok_if (fun hc11 => ?_) (fun hc11 => ?_)
      · exact ih9_3 (x2_3 + 1, σ10) (show Tr [117] σ0 σ10 ∧ (0 ≤ (x2_3 + 1).toInt) from ⟨hT, (by first | omega | decide | (simp only [Int32.le_iff_toInt_le, Int32.lt_iff_toInt_lt, ti_add, ti_sub, ti_mul, Int32.reduceToInt] at *; omega))⟩) (show (10 - (x2_3 + 1).toInt).toNat < (10 - x2_3.toInt).toNat from (by first | omega | decide | (simp only [Int32.le_iff_toInt_le, Int32.lt_iff_toInt_lt, ti_add, ti_sub, ti_mul, Int32.reduceToInt] at *; omega)))
      · refine ok_gR (v := 117) hT rfl (hR 111 5 rfl) ?_
        refine ok_gR (v := 117) hT rfl (hR 111 5 rfl) ?_
        refine ok_aIn rfl (by first | omega | decide | (simp only [Int32.le_iff_toInt_le, Int32.lt_iff_toInt_lt, ti_add, ti_sub, ti_mul, Int32.reduceToInt] at *; omega)) (by first | omega | decide | (simp only [Int32.le_iff_toInt_le, Int32.lt_iff_toInt_lt, ti_add, ti_sub, ti_mul, Int32.reduceToInt] at *; omega)) (fun v14 ev14 => ?_)
        refine ok_s14 hT rfl (by decide) (by first | omega | decide | (simp only [Int32.le_iff_toInt_le, Int32.lt_iff_toInt_lt, ti_add, ti_sub, ti_mul, Int32.reduceToInt] at *; omega)) (by first | omega | decide | (simp only [Int32.le_iff_toInt_le, Int32.lt_iff_toInt_lt, ti_add, ti_sub, ti_mul, Int32.reduceToInt] at *; omega)) (fun σ15 eσ15 hOσ15 hT => ?_)
        exact ih47_10 (x5_10 + 1, σ15) (show Tr [117] σ0 σ15 ∧ (0 ≤ (x5_10 + 1).toInt) from ⟨hT, (by first | omega | decide | (simp only [Int32.le_iff_toInt_le, Int32.lt_iff_toInt_lt, ti_add, ti_sub, ti_mul, Int32.reduceToInt] at *; omega))⟩) (show (((1 : Int32) <<< (x2_3 &&& 31)).toInt - (x5_10 + 1).toInt).toNat < (((1 : Int32) <<< (x2_3 &&& 31)).toInt - x5_10.toInt).toNat from (by first | omega | decide | (simp only [Int32.le_iff_toInt_le, Int32.lt_iff_toInt_lt, ti_add, ti_sub, ti_mul, Int32.reduceToInt] at *; omega)))

set_option maxHeartbeats 4000000 in
set_option maxRecDepth 100000 in
theorem s_X1_tallyOf_2 {N : Nat} (hN : 1048576 ≤ N) {x2 : Nat} {σ0 : zS}  (hR : RF σ0.2.2) (h_x2 : (zKd x2).1 = 2) (hu : 2 ≤ (σ0.1 111 8).toInt ∧ (σ0.1 111 8).toInt ≤ 1600) (hn : 0 ≤ (σ0.1 2 0).toInt ∧ (σ0.1 2 0).toInt ≤ 10) : Ok (f_X1_tallyOf N 111 2 x2 σ0) (fun r => Tr [111, 112, 113, 114, 115, 116, 117, 118, 119] σ0 r.2 ∧ (2 ≤ (r.2.1 111 8).toInt ∧ (r.2.1 111 8).toInt ≤ 1600)) := by
  have hT : Tr [111, 112, 113, 114, 115, 116, 117, 118, 119] σ0 σ0 := Tr.rf
  rw [f_X1_tallyOf.eq_1]
  refine ok_gC rfl ?_
  refine ok_zbT (Q := fun V σ => 2 ≤ (σ.1 111 8).toInt ∧ (σ.1 111 8).toInt ≤ 1600) hT (s_X1_reset hN (hR.tr hT) (by first | omega | decide | (simp only [Int32.le_iff_toInt_le, Int32.lt_iff_toInt_lt, ti_add, ti_sub, ti_mul, Int32.reduceToInt] at *; omega))) (by decide) (fun v1 σ2 hOσ2 hT hqv1 => ?_)
  have hqv1 : 2 ≤ (σ2.1 111 8).toInt ∧ (σ2.1 111 8).toInt ≤ 1600 := hqv1
  have hu : 2 ≤ (σ2.1 111 8).toInt ∧ (σ2.1 111 8).toInt ≤ 1600 := hqv1
  refine ok_gC rfl ?_
  refine ok_zbT (Q := fun V σ => True) hT (s_X1_spread_2 hN (hR.tr hT) (by first | exact hn | (rw [hT.2 2 (by decide)]; exact hn))) (by decide) (fun v3 σ4 hOσ4 hT hqv3 => ?_)
  have hu : 2 ≤ (σ4.1 111 8).toInt ∧ (σ4.1 111 8).toInt ≤ 1600 := by rw [hOσ4.2 111 (by decide)] <;> exact hu
  refine ok_gI0 hT rfl (by decide) ?_
  refine ok_gC rfl ?_
  refine ok_zbT (Q := fun V σ => 2 ≤ (σ.1 111 8).toInt ∧ (σ.1 111 8).toInt ≤ 1600) hT (s_X1_grow hN (hR.tr hT) h_x2 (by first | omega | decide | (simp only [Int32.le_iff_toInt_le, Int32.lt_iff_toInt_lt, ti_add, ti_sub, ti_mul, Int32.reduceToInt] at *; omega)) (by first | exact hn | (rw [hT.2 2 (by decide)]; exact hn))) (by decide) (fun v6 σ7 hOσ7 hT hqv6 => ?_)
  have hqv6 : 2 ≤ (σ7.1 111 8).toInt ∧ (σ7.1 111 8).toInt ≤ 1600 := hqv6
  have hu : 2 ≤ (σ7.1 111 8).toInt ∧ (σ7.1 111 8).toInt ≤ 1600 := hqv6
  refine ok_gI rfl ?_
  exact ok_some ⟨hT, (show 2 ≤ (σ7.1 111 8).toInt ∧ (σ7.1 111 8).toInt ≤ 1600 from by exact hu)⟩

set_option maxHeartbeats 4000000 in
set_option maxRecDepth 100000 in
theorem s_X1_tallyOfAll_2 {N : Nat} (hN : 1048576 ≤ N)  {σ0 : zS}  (hR : RF σ0.2.2) (hu : 2 ≤ (σ0.1 111 8).toInt ∧ (σ0.1 111 8).toInt ≤ 1600) (hn : 0 ≤ (σ0.1 2 0).toInt ∧ (σ0.1 2 0).toInt ≤ 10) : Ok (f_X1_tallyOfAll N 111 2 σ0) (fun r => Tr [111, 112, 113, 114, 115, 116, 117, 118, 119] σ0 r.2 ∧ (2 ≤ (r.2.1 111 8).toInt ∧ (r.2.1 111 8).toInt ≤ 1600)) := by
  have hT : Tr [111, 112, 113, 114, 115, 116, 117, 118, 119] σ0 σ0 := Tr.rf
  rw [f_X1_tallyOfAll.eq_1]
  refine ok_gC rfl ?_
  refine ok_zbT (Q := fun V σ => 2 ≤ (σ.1 111 8).toInt ∧ (σ.1 111 8).toInt ≤ 1600) hT (s_X1_reset hN (hR.tr hT) (by first | omega | decide | (simp only [Int32.le_iff_toInt_le, Int32.lt_iff_toInt_lt, ti_add, ti_sub, ti_mul, Int32.reduceToInt] at *; omega))) (by decide) (fun v1 σ2 hOσ2 hT hqv1 => ?_)
  have hqv1 : 2 ≤ (σ2.1 111 8).toInt ∧ (σ2.1 111 8).toInt ≤ 1600 := hqv1
  have hu : 2 ≤ (σ2.1 111 8).toInt ∧ (σ2.1 111 8).toInt ≤ 1600 := hqv1
  refine ok_gC rfl ?_
  refine ok_zbT (Q := fun V σ => True) hT (s_X1_spread_2 hN (hR.tr hT) (by first | exact hn | (rw [hT.2 2 (by decide)]; exact hn))) (by decide) (fun v3 σ4 hOσ4 hT hqv3 => ?_)
  have hu : 2 ≤ (σ4.1 111 8).toInt ∧ (σ4.1 111 8).toInt ≤ 1600 := by rw [hOσ4.2 111 (by decide)] <;> exact hu
  refine ok_lp (fun t : Int32 × zS => Tr [111, 112, 113, 114, 115, 116, 117, 118, 119] σ0 (t.2) ∧ (0 ≤ (t.1).toInt) ∧ (2 ≤ ((t.2).1 111 8).toInt ∧ ((t.2).1 111 8).toInt ≤ 1600)) (fun t : Int32 × zS => ((10 : Int32).toInt - (t.1).toInt).toNat) (fun again5 t hI ih11_5 => ?_) N _ (show Tr [111, 112, 113, 114, 115, 116, 117, 118, 119] σ0 σ4 ∧ (0 ≤ (0 : Int32).toInt) ∧ (2 ≤ (σ4.1 111 8).toInt ∧ (σ4.1 111 8).toInt ≤ 1600) from ⟨hT, (by first | omega | decide | (simp only [Int32.le_iff_toInt_le, Int32.lt_iff_toInt_lt, ti_add, ti_sub, ti_mul, Int32.reduceToInt] at *; omega)), hu⟩) (show ((10 : Int32).toInt - (0 : Int32).toInt).toNat < N from (by first | omega | decide | (simp only [Int32.le_iff_toInt_le, Int32.lt_iff_toInt_lt, ti_add, ti_sub, ti_mul, Int32.reduceToInt] at *; omega)))
  obtain ⟨x2_5, σ5⟩ := t
  have hI : Tr [111, 112, 113, 114, 115, 116, 117, 118, 119] σ0 σ5 ∧ (0 ≤ x2_5.toInt) ∧ (2 ≤ (σ5.1 111 8).toInt ∧ (σ5.1 111 8).toInt ≤ 1600) := hI
  obtain ⟨hT, hI5, hu⟩ := hI
  rw [F_X1_tallyOfAll_11.eq_1]
  refine ok_if (fun hc6 => ?_) (fun hc6 => ?_)
  · refine ok_gI rfl ?_
    exact ok_some ⟨hT, (show 2 ≤ (σ5.1 111 8).toInt ∧ (σ5.1 111 8).toInt ≤ 1600 from by exact hu)⟩
  · refine ok_gC rfl ?_
    refine ok_zbT (Q := fun V σ => True) hT (s_X10_firstLike_2 hN (hR.tr hT) (by first | omega | decide | (simp only [Int32.le_iff_toInt_le, Int32.lt_iff_toInt_lt, ti_add, ti_sub, ti_mul, Int32.reduceToInt] at *; omega))) (fun _ h9 => absurd h9 List.not_mem_nil) (fun v8 σ9 hOσ9 hT hqv8 => ?_)
    have hu : 2 ≤ (σ9.1 111 8).toInt ∧ (σ9.1 111 8).toInt ≤ 1600 := by rw [hOσ9.2 111 (by decide)] <;> exact hu
    refine ok_if (fun hc10 => ?_) (fun hc10 => ?_)
    · refine ok_gR (v := 7) hT rfl (hR 2 7 rfl) ?_
      obtain ⟨q13, eq13, kq13⟩ := arrF hR (k := 7) (i := x2_5) rfl (by first | omega | decide | (simp only [Int32.le_iff_toInt_le, Int32.lt_iff_toInt_lt, ti_add, ti_sub, ti_mul, Int32.reduceToInt] at *; omega)) (by first | omega | decide | (simp only [Int32.le_iff_toInt_le, Int32.lt_iff_toInt_lt, ti_add, ti_sub, ti_mul, Int32.reduceToInt] at *; omega))
      refine ok_aR (v := q13) hT rfl (by first | omega | decide | (simp only [Int32.le_iff_toInt_le, Int32.lt_iff_toInt_lt, ti_add, ti_sub, ti_mul, Int32.reduceToInt] at *; omega)) (by first | omega | decide | (simp only [Int32.le_iff_toInt_le, Int32.lt_iff_toInt_lt, ti_add, ti_sub, ti_mul, Int32.reduceToInt] at *; omega)) eq13 ?_
      refine ok_gI0 hT rfl (by decide) ?_
      refine ok_gC rfl ?_
      refine ok_zbT (Q := fun V σ => 2 ≤ (σ.1 111 8).toInt ∧ (σ.1 111 8).toInt ≤ 1600) hT (s_X1_grow hN (hR.tr hT) kq13 (by first | omega | decide | (simp only [Int32.le_iff_toInt_le, Int32.lt_iff_toInt_lt, ti_add, ti_sub, ti_mul, Int32.reduceToInt] at *; omega)) (by first | exact hn | (rw [hT.2 2 (by decide)]; exact hn))) (by decide) (fun v15 σ16 hOσ16 hT hqv15 => ?_)
      have hqv15 : 2 ≤ (σ16.1 111 8).toInt ∧ (σ16.1 111 8).toInt ≤ 1600 := hqv15
      have hu : 2 ≤ (σ16.1 111 8).toInt ∧ (σ16.1 111 8).toInt ≤ 1600 := hqv15
      exact ih11_5 (x2_5 + 1, σ16) (show Tr [111, 112, 113, 114, 115, 116, 117, 118, 119] σ0 σ16 ∧ (0 ≤ (x2_5 + 1).toInt) ∧ (2 ≤ (σ16.1 111 8).toInt ∧ (σ16.1 111 8).toInt ≤ 1600) from ⟨hT, (by first | omega | decide | (simp only [Int32.le_iff_toInt_le, Int32.lt_iff_toInt_lt, ti_add, ti_sub, ti_mul, Int32.reduceToInt] at *; omega)), hu⟩) (show ((10 : Int32).toInt - (x2_5 + 1).toInt).toNat < ((10 : Int32).toInt - x2_5.toInt).toNat from (by first | omega | decide | (simp only [Int32.le_iff_toInt_le, Int32.lt_iff_toInt_lt, ti_add, ti_sub, ti_mul, Int32.reduceToInt] at *; omega)))
    · exact ih11_5 (x2_5 + 1, σ9) (show Tr [111, 112, 113, 114, 115, 116, 117, 118, 119] σ0 σ9 ∧ (0 ≤ (x2_5 + 1).toInt) ∧ (2 ≤ (σ9.1 111 8).toInt ∧ (σ9.1 111 8).toInt ≤ 1600) from ⟨hT, (by first | omega | decide | (simp only [Int32.le_iff_toInt_le, Int32.lt_iff_toInt_lt, ti_add, ti_sub, ti_mul, Int32.reduceToInt] at *; omega)), hu⟩) (show ((10 : Int32).toInt - (x2_5 + 1).toInt).toNat < ((10 : Int32).toInt - x2_5.toInt).toNat from (by first | omega | decide | (simp only [Int32.le_iff_toInt_le, Int32.lt_iff_toInt_lt, ti_add, ti_sub, ti_mul, Int32.reduceToInt] at *; omega)))

set_option maxHeartbeats 4000000 in
set_option maxRecDepth 100000 in
theorem s_X1_spread_28 {N : Nat} (hN : 1048576 ≤ N)  {σ0 : zS}  (hR : RF σ0.2.2) (hn : 0 ≤ (σ0.1 28 0).toInt ∧ (σ0.1 28 0).toInt ≤ 10) : Ok (f_X1_spread N 111 28 σ0) (fun r => Tr [117] σ0 r.2 ∧ (True)) := by
  have hT : Tr [117] σ0 σ0 := Tr.rf
  rw [f_X1_spread.eq_1]
  refine ok_gR (v := 117) hT rfl (hR 111 5 rfl) ?_
  refine ok_s14 hT rfl (by decide) (by first | omega | decide | (simp only [Int32.le_iff_toInt_le, Int32.lt_iff_toInt_lt, ti_add, ti_sub, ti_mul, Int32.reduceToInt] at *; omega)) (by first | omega | decide | (simp only [Int32.le_iff_toInt_le, Int32.lt_iff_toInt_lt, ti_add, ti_sub, ti_mul, Int32.reduceToInt] at *; omega)) (fun σ2 eσ2 hOσ2 hT => ?_)
  refine ok_lp (fun t : Int32 × zS => Tr [117] σ0 (t.2) ∧ (0 ≤ (t.1).toInt)) (fun t : Int32 × zS => (10 - (t.1).toInt).toNat) (fun again3 t hI ih9_3 => ?_) N _ (show Tr [117] σ0 σ2 ∧ (0 ≤ (0 : Int32).toInt) from ⟨hT, (by first | omega | decide | (simp only [Int32.le_iff_toInt_le, Int32.lt_iff_toInt_lt, ti_add, ti_sub, ti_mul, Int32.reduceToInt] at *; omega))⟩) (show (10 - (0 : Int32).toInt).toNat < N from (by first | omega | decide | (simp only [Int32.le_iff_toInt_le, Int32.lt_iff_toInt_lt, ti_add, ti_sub, ti_mul, Int32.reduceToInt] at *; omega)))
  obtain ⟨x2_3, σ3⟩ := t
  have hI : Tr [117] σ0 σ3 ∧ (0 ≤ x2_3.toInt) := hI
  obtain ⟨hT, hI3⟩ := hI
  rw [F_X1_spread_9.eq_1]
  refine ok_gI0 hT rfl (by decide) ?_
  refine ok_if (fun hc5 => ?_) (fun hc5 => ?_)
  · exact ok_some ⟨hT, trivial⟩
  · refine ok_if (fun hc6 => ?_) (fun hc6 => ?_)
    · exact ok_some ⟨hT, trivial⟩
    · have q9 := ti_one9 (x := x2_3) (by simp only [Int32.le_iff_toInt_le, Int32.lt_iff_toInt_lt, Int32.reduceToInt] at *; omega) (by simp only [Int32.le_iff_toInt_le, Int32.lt_iff_toInt_lt, Int32.reduceToInt] at *; omega)
      refine ok_gR (v := 32) hT rfl (hR 28 6 rfl) ?_
      refine ok_gI0 hT rfl (by decide) ?_
      refine ok_aIn rfl (by first | omega | decide | (simp only [Int32.le_iff_toInt_le, Int32.lt_iff_toInt_lt, ti_add, ti_sub, ti_mul, Int32.reduceToInt] at *; omega)) (by first | omega | decide | (simp only [Int32.le_iff_toInt_le, Int32.lt_iff_toInt_lt, ti_add, ti_sub, ti_mul, Int32.reduceToInt] at *; omega)) (fun v9 ev9 => ?_)
      refine ok_lp (fun t : Int32 × zS => Tr [117] σ0 (t.2) ∧ (0 ≤ (t.1).toInt)) (fun t : Int32 × zS => (((1 : Int32) <<< (x2_3 &&& 31)).toInt - (t.1).toInt).toNat) (fun again10 t hI ih47_10 => ?_) N _ (show Tr [117] σ0 σ3 ∧ (0 ≤ (0 : Int32).toInt) from ⟨hT, (by first | omega | decide | (simp only [Int32.le_iff_toInt_le, Int32.lt_iff_toInt_lt, ti_add, ti_sub, ti_mul, Int32.reduceToInt] at *; omega))⟩) (show (((1 : Int32) <<< (x2_3 &&& 31)).toInt - (0 : Int32).toInt).toNat < N from (by first | omega | decide | (simp only [Int32.le_iff_toInt_le, Int32.lt_iff_toInt_lt, ti_add, ti_sub, ti_mul, Int32.reduceToInt] at *; omega)))
      obtain ⟨x5_10, σ10⟩ := t
      have hI : Tr [117] σ0 σ10 ∧ (0 ≤ x5_10.toInt) := hI
      obtain ⟨hT, hI10⟩ := hI
      rw [F_X1_spread_47.eq_1]
      refine ok_if (fun hc11 => ?_) (fun hc11 => ?_)
      · exact ih9_3 (x2_3 + 1, σ10) (show Tr [117] σ0 σ10 ∧ (0 ≤ (x2_3 + 1).toInt) from ⟨hT, (by first | omega | decide | (simp only [Int32.le_iff_toInt_le, Int32.lt_iff_toInt_lt, ti_add, ti_sub, ti_mul, Int32.reduceToInt] at *; omega))⟩) (show (10 - (x2_3 + 1).toInt).toNat < (10 - x2_3.toInt).toNat from (by first | omega | decide | (simp only [Int32.le_iff_toInt_le, Int32.lt_iff_toInt_lt, ti_add, ti_sub, ti_mul, Int32.reduceToInt] at *; omega)))
      · refine ok_gR (v := 117) hT rfl (hR 111 5 rfl) ?_
        refine ok_gR (v := 117) hT rfl (hR 111 5 rfl) ?_
        refine ok_aIn rfl (by first | omega | decide | (simp only [Int32.le_iff_toInt_le, Int32.lt_iff_toInt_lt, ti_add, ti_sub, ti_mul, Int32.reduceToInt] at *; omega)) (by first | omega | decide | (simp only [Int32.le_iff_toInt_le, Int32.lt_iff_toInt_lt, ti_add, ti_sub, ti_mul, Int32.reduceToInt] at *; omega)) (fun v14 ev14 => ?_)
        refine ok_s14 hT rfl (by decide) (by first | omega | decide | (simp only [Int32.le_iff_toInt_le, Int32.lt_iff_toInt_lt, ti_add, ti_sub, ti_mul, Int32.reduceToInt] at *; omega)) (by first | omega | decide | (simp only [Int32.le_iff_toInt_le, Int32.lt_iff_toInt_lt, ti_add, ti_sub, ti_mul, Int32.reduceToInt] at *; omega)) (fun σ15 eσ15 hOσ15 hT => ?_)
        exact ih47_10 (x5_10 + 1, σ15) (show Tr [117] σ0 σ15 ∧ (0 ≤ (x5_10 + 1).toInt) from ⟨hT, (by first | omega | decide | (simp only [Int32.le_iff_toInt_le, Int32.lt_iff_toInt_lt, ti_add, ti_sub, ti_mul, Int32.reduceToInt] at *; omega))⟩) (show (((1 : Int32) <<< (x2_3 &&& 31)).toInt - (x5_10 + 1).toInt).toNat < (((1 : Int32) <<< (x2_3 &&& 31)).toInt - x5_10.toInt).toNat from (by first | omega | decide | (simp only [Int32.le_iff_toInt_le, Int32.lt_iff_toInt_lt, ti_add, ti_sub, ti_mul, Int32.reduceToInt] at *; omega)))

set_option maxHeartbeats 4000000 in
set_option maxRecDepth 100000 in
theorem s_X1_tallyOf_28 {N : Nat} (hN : 1048576 ≤ N) {x2 : Nat} {σ0 : zS}  (hR : RF σ0.2.2) (h_x2 : (zKd x2).1 = 2) (hu : 2 ≤ (σ0.1 111 8).toInt ∧ (σ0.1 111 8).toInt ≤ 1600) (hn : 0 ≤ (σ0.1 28 0).toInt ∧ (σ0.1 28 0).toInt ≤ 10) : Ok (f_X1_tallyOf N 111 28 x2 σ0) (fun r => Tr [111, 112, 113, 114, 115, 116, 117, 118, 119] σ0 r.2 ∧ (2 ≤ (r.2.1 111 8).toInt ∧ (r.2.1 111 8).toInt ≤ 1600)) := by
  have hT : Tr [111, 112, 113, 114, 115, 116, 117, 118, 119] σ0 σ0 := Tr.rf
  rw [f_X1_tallyOf.eq_1]
  refine ok_gC rfl ?_
  refine ok_zbT (Q := fun V σ => 2 ≤ (σ.1 111 8).toInt ∧ (σ.1 111 8).toInt ≤ 1600) hT (s_X1_reset hN (hR.tr hT) (by first | omega | decide | (simp only [Int32.le_iff_toInt_le, Int32.lt_iff_toInt_lt, ti_add, ti_sub, ti_mul, Int32.reduceToInt] at *; omega))) (by decide) (fun v1 σ2 hOσ2 hT hqv1 => ?_)
  have hqv1 : 2 ≤ (σ2.1 111 8).toInt ∧ (σ2.1 111 8).toInt ≤ 1600 := hqv1
  have hu : 2 ≤ (σ2.1 111 8).toInt ∧ (σ2.1 111 8).toInt ≤ 1600 := hqv1
  refine ok_gC rfl ?_
  refine ok_zbT (Q := fun V σ => True) hT (s_X1_spread_28 hN (hR.tr hT) (by first | exact hn | (rw [hT.2 28 (by decide)]; exact hn))) (by decide) (fun v3 σ4 hOσ4 hT hqv3 => ?_)
  have hu : 2 ≤ (σ4.1 111 8).toInt ∧ (σ4.1 111 8).toInt ≤ 1600 := by rw [hOσ4.2 111 (by decide)] <;> exact hu
  refine ok_gI0 hT rfl (by decide) ?_
  refine ok_gC rfl ?_
  refine ok_zbT (Q := fun V σ => 2 ≤ (σ.1 111 8).toInt ∧ (σ.1 111 8).toInt ≤ 1600) hT (s_X1_grow hN (hR.tr hT) h_x2 (by first | omega | decide | (simp only [Int32.le_iff_toInt_le, Int32.lt_iff_toInt_lt, ti_add, ti_sub, ti_mul, Int32.reduceToInt] at *; omega)) (by first | exact hn | (rw [hT.2 28 (by decide)]; exact hn))) (by decide) (fun v6 σ7 hOσ7 hT hqv6 => ?_)
  have hqv6 : 2 ≤ (σ7.1 111 8).toInt ∧ (σ7.1 111 8).toInt ≤ 1600 := hqv6
  have hu : 2 ≤ (σ7.1 111 8).toInt ∧ (σ7.1 111 8).toInt ≤ 1600 := hqv6
  refine ok_gI rfl ?_
  exact ok_some ⟨hT, (show 2 ≤ (σ7.1 111 8).toInt ∧ (σ7.1 111 8).toInt ≤ 1600 from by exact hu)⟩

set_option maxHeartbeats 4000000 in
set_option maxRecDepth 100000 in
theorem s_X1_tallyOfAll_28 {N : Nat} (hN : 1048576 ≤ N)  {σ0 : zS}  (hR : RF σ0.2.2) (hu : 2 ≤ (σ0.1 111 8).toInt ∧ (σ0.1 111 8).toInt ≤ 1600) (hn : 0 ≤ (σ0.1 28 0).toInt ∧ (σ0.1 28 0).toInt ≤ 10) : Ok (f_X1_tallyOfAll N 111 28 σ0) (fun r => Tr [111, 112, 113, 114, 115, 116, 117, 118, 119] σ0 r.2 ∧ (2 ≤ (r.2.1 111 8).toInt ∧ (r.2.1 111 8).toInt ≤ 1600)) := by
  have hT : Tr [111, 112, 113, 114, 115, 116, 117, 118, 119] σ0 σ0 := Tr.rf
  rw [f_X1_tallyOfAll.eq_1]
  refine ok_gC rfl ?_
  refine ok_zbT (Q := fun V σ => 2 ≤ (σ.1 111 8).toInt ∧ (σ.1 111 8).toInt ≤ 1600) hT (s_X1_reset hN (hR.tr hT) (by first | omega | decide | (simp only [Int32.le_iff_toInt_le, Int32.lt_iff_toInt_lt, ti_add, ti_sub, ti_mul, Int32.reduceToInt] at *; omega))) (by decide) (fun v1 σ2 hOσ2 hT hqv1 => ?_)
  have hqv1 : 2 ≤ (σ2.1 111 8).toInt ∧ (σ2.1 111 8).toInt ≤ 1600 := hqv1
  have hu : 2 ≤ (σ2.1 111 8).toInt ∧ (σ2.1 111 8).toInt ≤ 1600 := hqv1
  refine ok_gC rfl ?_
  refine ok_zbT (Q := fun V σ => True) hT (s_X1_spread_28 hN (hR.tr hT) (by first | exact hn | (rw [hT.2 28 (by decide)]; exact hn))) (by decide) (fun v3 σ4 hOσ4 hT hqv3 => ?_)
  have hu : 2 ≤ (σ4.1 111 8).toInt ∧ (σ4.1 111 8).toInt ≤ 1600 := by rw [hOσ4.2 111 (by decide)] <;> exact hu
  refine ok_lp (fun t : Int32 × zS => Tr [111, 112, 113, 114, 115, 116, 117, 118, 119] σ0 (t.2) ∧ (0 ≤ (t.1).toInt) ∧ (2 ≤ ((t.2).1 111 8).toInt ∧ ((t.2).1 111 8).toInt ≤ 1600)) (fun t : Int32 × zS => ((10 : Int32).toInt - (t.1).toInt).toNat) (fun again5 t hI ih11_5 => ?_) N _ (show Tr [111, 112, 113, 114, 115, 116, 117, 118, 119] σ0 σ4 ∧ (0 ≤ (0 : Int32).toInt) ∧ (2 ≤ (σ4.1 111 8).toInt ∧ (σ4.1 111 8).toInt ≤ 1600) from ⟨hT, (by first | omega | decide | (simp only [Int32.le_iff_toInt_le, Int32.lt_iff_toInt_lt, ti_add, ti_sub, ti_mul, Int32.reduceToInt] at *; omega)), hu⟩) (show ((10 : Int32).toInt - (0 : Int32).toInt).toNat < N from (by first | omega | decide | (simp only [Int32.le_iff_toInt_le, Int32.lt_iff_toInt_lt, ti_add, ti_sub, ti_mul, Int32.reduceToInt] at *; omega)))
  obtain ⟨x2_5, σ5⟩ := t
  have hI : Tr [111, 112, 113, 114, 115, 116, 117, 118, 119] σ0 σ5 ∧ (0 ≤ x2_5.toInt) ∧ (2 ≤ (σ5.1 111 8).toInt ∧ (σ5.1 111 8).toInt ≤ 1600) := hI
  obtain ⟨hT, hI5, hu⟩ := hI
  rw [F_X1_tallyOfAll_11.eq_1]
  refine ok_if (fun hc6 => ?_) (fun hc6 => ?_)
  · refine ok_gI rfl ?_
    exact ok_some ⟨hT, (show 2 ≤ (σ5.1 111 8).toInt ∧ (σ5.1 111 8).toInt ≤ 1600 from by exact hu)⟩
  · refine ok_gC rfl ?_
    refine ok_zbT (Q := fun V σ => True) hT (s_X10_firstLike_28 hN (hR.tr hT) (by first | omega | decide | (simp only [Int32.le_iff_toInt_le, Int32.lt_iff_toInt_lt, ti_add, ti_sub, ti_mul, Int32.reduceToInt] at *; omega))) (fun _ h9 => absurd h9 List.not_mem_nil) (fun v8 σ9 hOσ9 hT hqv8 => ?_)
    have hu : 2 ≤ (σ9.1 111 8).toInt ∧ (σ9.1 111 8).toInt ≤ 1600 := by rw [hOσ9.2 111 (by decide)] <;> exact hu
    refine ok_if (fun hc10 => ?_) (fun hc10 => ?_)
    · refine ok_gR (v := 33) hT rfl (hR 28 7 rfl) ?_
      obtain ⟨q13, eq13, kq13⟩ := arrF hR (k := 33) (i := x2_5) rfl (by first | omega | decide | (simp only [Int32.le_iff_toInt_le, Int32.lt_iff_toInt_lt, ti_add, ti_sub, ti_mul, Int32.reduceToInt] at *; omega)) (by first | omega | decide | (simp only [Int32.le_iff_toInt_le, Int32.lt_iff_toInt_lt, ti_add, ti_sub, ti_mul, Int32.reduceToInt] at *; omega))
      refine ok_aR (v := q13) hT rfl (by first | omega | decide | (simp only [Int32.le_iff_toInt_le, Int32.lt_iff_toInt_lt, ti_add, ti_sub, ti_mul, Int32.reduceToInt] at *; omega)) (by first | omega | decide | (simp only [Int32.le_iff_toInt_le, Int32.lt_iff_toInt_lt, ti_add, ti_sub, ti_mul, Int32.reduceToInt] at *; omega)) eq13 ?_
      refine ok_gI0 hT rfl (by decide) ?_
      refine ok_gC rfl ?_
      refine ok_zbT (Q := fun V σ => 2 ≤ (σ.1 111 8).toInt ∧ (σ.1 111 8).toInt ≤ 1600) hT (s_X1_grow hN (hR.tr hT) kq13 (by first | omega | decide | (simp only [Int32.le_iff_toInt_le, Int32.lt_iff_toInt_lt, ti_add, ti_sub, ti_mul, Int32.reduceToInt] at *; omega)) (by first | exact hn | (rw [hT.2 28 (by decide)]; exact hn))) (by decide) (fun v15 σ16 hOσ16 hT hqv15 => ?_)
      have hqv15 : 2 ≤ (σ16.1 111 8).toInt ∧ (σ16.1 111 8).toInt ≤ 1600 := hqv15
      have hu : 2 ≤ (σ16.1 111 8).toInt ∧ (σ16.1 111 8).toInt ≤ 1600 := hqv15
      exact ih11_5 (x2_5 + 1, σ16) (show Tr [111, 112, 113, 114, 115, 116, 117, 118, 119] σ0 σ16 ∧ (0 ≤ (x2_5 + 1).toInt) ∧ (2 ≤ (σ16.1 111 8).toInt ∧ (σ16.1 111 8).toInt ≤ 1600) from ⟨hT, (by first | omega | decide | (simp only [Int32.le_iff_toInt_le, Int32.lt_iff_toInt_lt, ti_add, ti_sub, ti_mul, Int32.reduceToInt] at *; omega)), hu⟩) (show ((10 : Int32).toInt - (x2_5 + 1).toInt).toNat < ((10 : Int32).toInt - x2_5.toInt).toNat from (by first | omega | decide | (simp only [Int32.le_iff_toInt_le, Int32.lt_iff_toInt_lt, ti_add, ti_sub, ti_mul, Int32.reduceToInt] at *; omega)))
    · exact ih11_5 (x2_5 + 1, σ9) (show Tr [111, 112, 113, 114, 115, 116, 117, 118, 119] σ0 σ9 ∧ (0 ≤ (x2_5 + 1).toInt) ∧ (2 ≤ (σ9.1 111 8).toInt ∧ (σ9.1 111 8).toInt ≤ 1600) from ⟨hT, (by first | omega | decide | (simp only [Int32.le_iff_toInt_le, Int32.lt_iff_toInt_lt, ti_add, ti_sub, ti_mul, Int32.reduceToInt] at *; omega)), hu⟩) (show ((10 : Int32).toInt - (x2_5 + 1).toInt).toNat < ((10 : Int32).toInt - x2_5.toInt).toNat from (by first | omega | decide | (simp only [Int32.le_iff_toInt_le, Int32.lt_iff_toInt_lt, ti_add, ti_sub, ti_mul, Int32.reduceToInt] at *; omega)))
end Zq0_5
section Zq0_6
set_option maxHeartbeats 4000000 in
set_option maxRecDepth 100000 in
theorem s_X3_isGathered {N : Nat} (hN : 1048576 ≤ N) {x1 : Int64} {x3 : Int32} {σ0 : zS}  (hR : RF σ0.2.2)  : Ok (f_X3_isGathered N 120 x1 x3 σ0) (fun r => Tr [] σ0 r.2 ∧ (True)) := by
  have hT : Tr [] σ0 σ0 := Tr.rf
  rw [f_X3_isGathered.eq_1]
  refine ok_lp (fun t : Int32 × zS => Tr [] σ0 (t.2) ∧ (0 ≤ (t.1).toInt)) (fun t : Int32 × zS => (64 - (t.1).toInt).toNat) (fun again1 t hI ih3_1 => ?_) N _ (show Tr [] σ0 σ0 ∧ (0 ≤ (0 : Int32).toInt) from ⟨hT, (by first | omega | decide | (simp only [Int32.le_iff_toInt_le, Int32.lt_iff_toInt_lt, ti_add, ti_sub, ti_mul, Int32.reduceToInt] at *; omega))⟩) (show (64 - (0 : Int32).toInt).toNat < N from (by first | omega | decide | (simp only [Int32.le_iff_toInt_le, Int32.lt_iff_toInt_lt, ti_add, ti_sub, ti_mul, Int32.reduceToInt] at *; omega)))
  obtain ⟨x4_1, σ1⟩ := t
  have hI : Tr [] σ0 σ1 ∧ (0 ≤ x4_1.toInt) := hI
  obtain ⟨hT, hI1⟩ := hI
  rw [F_X3_isGathered_3.eq_1]
  refine ok_if (fun hc2 => ?_) (fun hc2 => ?_)
  · exact ok_rZ (Or.inl rfl) ⟨hT, trivial⟩
  · refine ok_if (fun hc3 => ?_) (fun hc3 => ?_)
    · exact ok_rZ (Or.inl rfl) ⟨hT, trivial⟩
    · refine ok_gR (v := 121) hT rfl (hR 120 0 rfl) ?_
      refine ok_aJ rfl (by first | omega | decide | (simp only [Int32.le_iff_toInt_le, Int32.lt_iff_toInt_lt, ti_add, ti_sub, ti_mul, Int32.reduceToInt] at *; omega)) (by first | omega | decide | (simp only [Int32.le_iff_toInt_le, Int32.lt_iff_toInt_lt, ti_add, ti_sub, ti_mul, Int32.reduceToInt] at *; omega)) ?_
      generalize σ1.2.1 (121) (Int32.toNatClampNeg (x4_1)) = v5
      refine ok_if (fun hc6 => ?_) (fun hc6 => ?_)
      · exact ok_rZ (Or.inr rfl) ⟨hT, trivial⟩
      · exact ih3_1 (x4_1 + 1, σ1) (show Tr [] σ0 σ1 ∧ (0 ≤ (x4_1 + 1).toInt) from ⟨hT, (by first | omega | decide | (simp only [Int32.le_iff_toInt_le, Int32.lt_iff_toInt_lt, ti_add, ti_sub, ti_mul, Int32.reduceToInt] at *; omega))⟩) (show (64 - (x4_1 + 1).toInt).toNat < (64 - x4_1.toInt).toNat from (by first | omega | decide | (simp only [Int32.le_iff_toInt_le, Int32.lt_iff_toInt_lt, ti_add, ti_sub, ti_mul, Int32.reduceToInt] at *; omega)))

set_option maxHeartbeats 4000000 in
set_option maxRecDepth 100000 in
theorem s_X3_partsWith {N : Nat} (hN : 1048576 ≤ N) {x1 : Int32} {x2 : Int32} {σ0 : zS}  (hR : RF σ0.2.2)  : Ok (f_X3_partsWith N 120 x1 x2 σ0) (fun r => Tr [] σ0 r.2 ∧ (True)) := by
  have hT : Tr [] σ0 σ0 := Tr.rf
  rw [f_X3_partsWith.eq_1]
  refine ok_if (fun hc1 => ?_) (fun hc1 => ?_)
  · rw [J_X3_partsWith_23.eq_1]
    refine ok_lp (fun t : Int32 × Int32 × zS => Tr [] σ0 (t.2.2) ∧ (0 ≤ (t.2.1).toInt)) (fun t : Int32 × Int32 × zS => (64 - (t.2.1).toInt).toNat) (fun again2 t hI ih30_2 => ?_) N _ (show Tr [] σ0 σ0 ∧ (0 ≤ (0 : Int32).toInt) from ⟨hT, (by first | omega | decide | (simp only [Int32.le_iff_toInt_le, Int32.lt_iff_toInt_lt, ti_add, ti_sub, ti_mul, Int32.reduceToInt] at *; omega))⟩) (show (64 - (0 : Int32).toInt).toNat < N from (by first | omega | decide | (simp only [Int32.le_iff_toInt_le, Int32.lt_iff_toInt_lt, ti_add, ti_sub, ti_mul, Int32.reduceToInt] at *; omega)))
    obtain ⟨x5_2, x6_2, σ2⟩ := t
    have hI : Tr [] σ0 σ2 ∧ (0 ≤ x6_2.toInt) := hI
    obtain ⟨hT, hI2⟩ := hI
    rw [F_X3_partsWith_30.eq_1]
    refine ok_if (fun hc3 => ?_) (fun hc3 => ?_)
    · exact ok_some ⟨hT, trivial⟩
    · refine ok_if (fun hc4 => ?_) (fun hc4 => ?_)
      · exact ok_some ⟨hT, trivial⟩
      · refine ok_gR (v := 121) hT rfl (hR 120 0 rfl) ?_
        refine ok_aJ rfl (by first | omega | decide | (simp only [Int32.le_iff_toInt_le, Int32.lt_iff_toInt_lt, ti_add, ti_sub, ti_mul, Int32.reduceToInt] at *; omega)) (by first | omega | decide | (simp only [Int32.le_iff_toInt_le, Int32.lt_iff_toInt_lt, ti_add, ti_sub, ti_mul, Int32.reduceToInt] at *; omega)) ?_
        generalize σ2.2.1 (121) (Int32.toNatClampNeg (x6_2)) = v6
        refine ok_if (fun hc7 => ?_) (fun hc7 => ?_)
        · exact ih30_2 (x5_2, x6_2 + 1, σ2) (show Tr [] σ0 σ2 ∧ (0 ≤ (x6_2 + 1).toInt) from ⟨hT, (by first | omega | decide | (simp only [Int32.le_iff_toInt_le, Int32.lt_iff_toInt_lt, ti_add, ti_sub, ti_mul, Int32.reduceToInt] at *; omega))⟩) (show (64 - (x6_2 + 1).toInt).toNat < (64 - x6_2.toInt).toNat from (by first | omega | decide | (simp only [Int32.le_iff_toInt_le, Int32.lt_iff_toInt_lt, ti_add, ti_sub, ti_mul, Int32.reduceToInt] at *; omega)))
        · exact ih30_2 (x5_2 + 1, x6_2 + 1, σ2) (show Tr [] σ0 σ2 ∧ (0 ≤ (x6_2 + 1).toInt) from ⟨hT, (by first | omega | decide | (simp only [Int32.le_iff_toInt_le, Int32.lt_iff_toInt_lt, ti_add, ti_sub, ti_mul, Int32.reduceToInt] at *; omega))⟩) (show (64 - (x6_2 + 1).toInt).toNat < (64 - x6_2.toInt).toNat from (by first | omega | decide | (simp only [Int32.le_iff_toInt_le, Int32.lt_iff_toInt_lt, ti_add, ti_sub, ti_mul, Int32.reduceToInt] at *; omega)))
  · refine ok_if (fun hc8 => ?_) (fun hc8 => ?_)
    · rw [J_X3_partsWith_23.eq_1]
      refine ok_lp (fun t : Int32 × Int32 × zS => Tr [] σ0 (t.2.2) ∧ (0 ≤ (t.2.1).toInt)) (fun t : Int32 × Int32 × zS => (64 - (t.2.1).toInt).toNat) (fun again9 t hI ih30_9 => ?_) N _ (show Tr [] σ0 σ0 ∧ (0 ≤ (0 : Int32).toInt) from ⟨hT, (by first | omega | decide | (simp only [Int32.le_iff_toInt_le, Int32.lt_iff_toInt_lt, ti_add, ti_sub, ti_mul, Int32.reduceToInt] at *; omega))⟩) (show (64 - (0 : Int32).toInt).toNat < N from (by first | omega | decide | (simp only [Int32.le_iff_toInt_le, Int32.lt_iff_toInt_lt, ti_add, ti_sub, ti_mul, Int32.reduceToInt] at *; omega)))
      obtain ⟨x5_9, x6_9, σ9⟩ := t
      have hI : Tr [] σ0 σ9 ∧ (0 ≤ x6_9.toInt) := hI
      obtain ⟨hT, hI9⟩ := hI
      rw [F_X3_partsWith_30.eq_1]
      refine ok_if (fun hc10 => ?_) (fun hc10 => ?_)
      · exact ok_some ⟨hT, trivial⟩
      · refine ok_if (fun hc11 => ?_) (fun hc11 => ?_)
        · exact ok_some ⟨hT, trivial⟩
        · refine ok_gR (v := 121) hT rfl (hR 120 0 rfl) ?_
          refine ok_aJ rfl (by first | omega | decide | (simp only [Int32.le_iff_toInt_le, Int32.lt_iff_toInt_lt, ti_add, ti_sub, ti_mul, Int32.reduceToInt] at *; omega)) (by first | omega | decide | (simp only [Int32.le_iff_toInt_le, Int32.lt_iff_toInt_lt, ti_add, ti_sub, ti_mul, Int32.reduceToInt] at *; omega)) ?_
          generalize σ9.2.1 (121) (Int32.toNatClampNeg (x6_9)) = v13
          refine ok_if (fun hc14 => ?_) (fun hc14 => ?_)
          · exact ih30_9 (x5_9, x6_9 + 1, σ9) (show Tr [] σ0 σ9 ∧ (0 ≤ (x6_9 + 1).toInt) from ⟨hT, (by first | omega | decide | (simp only [Int32.le_iff_toInt_le, Int32.lt_iff_toInt_lt, ti_add, ti_sub, ti_mul, Int32.reduceToInt] at *; omega))⟩) (show (64 - (x6_9 + 1).toInt).toNat < (64 - x6_9.toInt).toNat from (by first | omega | decide | (simp only [Int32.le_iff_toInt_le, Int32.lt_iff_toInt_lt, ti_add, ti_sub, ti_mul, Int32.reduceToInt] at *; omega)))
          · exact ih30_9 (x5_9 + 1, x6_9 + 1, σ9) (show Tr [] σ0 σ9 ∧ (0 ≤ (x6_9 + 1).toInt) from ⟨hT, (by first | omega | decide | (simp only [Int32.le_iff_toInt_le, Int32.lt_iff_toInt_lt, ti_add, ti_sub, ti_mul, Int32.reduceToInt] at *; omega))⟩) (show (64 - (x6_9 + 1).toInt).toNat < (64 - x6_9.toInt).toNat from (by first | omega | decide | (simp only [Int32.le_iff_toInt_le, Int32.lt_iff_toInt_lt, ti_add, ti_sub, ti_mul, Int32.reduceToInt] at *; omega)))
    · refine ok_aW (by first | omega | decide | (simp only [Int32.le_iff_toInt_le, Int32.lt_iff_toInt_lt, ti_add, ti_sub, ti_mul, Int32.reduceToInt] at *; omega)) (by first | omega | decide | (simp only [Int32.le_iff_toInt_le, Int32.lt_iff_toInt_lt, ti_add, ti_sub, ti_mul, Int32.reduceToInt] at *; omega)) ?_
      generalize zWo (Int32.toNatClampNeg (x1)) = v15
      rw [J_X3_partsWith_23.eq_1]
      refine ok_lp (fun t : Int32 × Int32 × zS => Tr [] σ0 (t.2.2) ∧ (0 ≤ (t.2.1).toInt)) (fun t : Int32 × Int32 × zS => (64 - (t.2.1).toInt).toNat) (fun again16 t hI ih30_16 => ?_) N _ (show Tr [] σ0 σ0 ∧ (0 ≤ (0 : Int32).toInt) from ⟨hT, (by first | omega | decide | (simp only [Int32.le_iff_toInt_le, Int32.lt_iff_toInt_lt, ti_add, ti_sub, ti_mul, Int32.reduceToInt] at *; omega))⟩) (show (64 - (0 : Int32).toInt).toNat < N from (by first | omega | decide | (simp only [Int32.le_iff_toInt_le, Int32.lt_iff_toInt_lt, ti_add, ti_sub, ti_mul, Int32.reduceToInt] at *; omega)))
      obtain ⟨x5_16, x6_16, σ16⟩ := t
      have hI : Tr [] σ0 σ16 ∧ (0 ≤ x6_16.toInt) := hI
      obtain ⟨hT, hI16⟩ := hI
      rw [F_X3_partsWith_30.eq_1]
      refine ok_if (fun hc17 => ?_) (fun hc17 => ?_)
      · exact ok_some ⟨hT, trivial⟩
      · refine ok_if (fun hc18 => ?_) (fun hc18 => ?_)
        · exact ok_some ⟨hT, trivial⟩
        · refine ok_gR (v := 121) hT rfl (hR 120 0 rfl) ?_
          refine ok_aJ rfl (by first | omega | decide | (simp only [Int32.le_iff_toInt_le, Int32.lt_iff_toInt_lt, ti_add, ti_sub, ti_mul, Int32.reduceToInt] at *; omega)) (by first | omega | decide | (simp only [Int32.le_iff_toInt_le, Int32.lt_iff_toInt_lt, ti_add, ti_sub, ti_mul, Int32.reduceToInt] at *; omega)) ?_
          generalize σ16.2.1 (121) (Int32.toNatClampNeg (x6_16)) = v20
          refine ok_if (fun hc21 => ?_) (fun hc21 => ?_)
          · exact ih30_16 (x5_16, x6_16 + 1, σ16) (show Tr [] σ0 σ16 ∧ (0 ≤ (x6_16 + 1).toInt) from ⟨hT, (by first | omega | decide | (simp only [Int32.le_iff_toInt_le, Int32.lt_iff_toInt_lt, ti_add, ti_sub, ti_mul, Int32.reduceToInt] at *; omega))⟩) (show (64 - (x6_16 + 1).toInt).toNat < (64 - x6_16.toInt).toNat from (by first | omega | decide | (simp only [Int32.le_iff_toInt_le, Int32.lt_iff_toInt_lt, ti_add, ti_sub, ti_mul, Int32.reduceToInt] at *; omega)))
          · exact ih30_16 (x5_16 + 1, x6_16 + 1, σ16) (show Tr [] σ0 σ16 ∧ (0 ≤ (x6_16 + 1).toInt) from ⟨hT, (by first | omega | decide | (simp only [Int32.le_iff_toInt_le, Int32.lt_iff_toInt_lt, ti_add, ti_sub, ti_mul, Int32.reduceToInt] at *; omega))⟩) (show (64 - (x6_16 + 1).toInt).toNat < (64 - x6_16.toInt).toNat from (by first | omega | decide | (simp only [Int32.le_iff_toInt_le, Int32.lt_iff_toInt_lt, ti_add, ti_sub, ti_mul, Int32.reduceToInt] at *; omega)))

set_option maxHeartbeats 4000000 in
set_option maxRecDepth 100000 in
theorem s_X3_gatherParts {N : Nat} (hN : 1048576 ≤ N) {x1 : Int64} {x3 : Int32} {x4 : Int32} {σ0 : zS}  (hR : RF σ0.2.2)  : Ok (f_X3_gatherParts N 120 x1 x3 x4 σ0) (fun r => Tr [] σ0 r.2 ∧ (0 ≤ r.1.toInt ∧ r.1.toInt ≤ 64)) := by
  have hT : Tr [] σ0 σ0 := Tr.rf
  rw [f_X3_gatherParts.eq_1]
  refine ok_lp (fun t : Int64 × Int32 × zS => Tr [] σ0 (t.2.2) ∧ (0 ≤ (t.2.1).toInt)) (fun t : Int64 × Int32 × zS => (6 - (t.2.1).toInt).toNat) (fun again1 t hI ih6_1 => ?_) N _ (show Tr [] σ0 σ0 ∧ (0 ≤ (0 : Int32).toInt) from ⟨hT, (by first | omega | decide | (simp only [Int32.le_iff_toInt_le, Int32.lt_iff_toInt_lt, ti_add, ti_sub, ti_mul, Int32.reduceToInt] at *; omega))⟩) (show (6 - (0 : Int32).toInt).toNat < N from (by first | omega | decide | (simp only [Int32.le_iff_toInt_le, Int32.lt_iff_toInt_lt, ti_add, ti_sub, ti_mul, Int32.reduceToInt] at *; omega)))
  obtain ⟨x5_1, x7_1, σ1⟩ := t
  have hI : Tr [] σ0 σ1 ∧ (0 ≤ x7_1.toInt) := hI
  obtain ⟨hT, hI1⟩ := hI
  rw [F_X3_gatherParts_6.eq_1]
  refine ok_if (fun hc2 => ?_) (fun hc2 => ?_)
  · refine ok_lp (fun t : Int32 × Int32 × Int32 × zS => Tr [] σ0 (t.2.2.2) ∧ (0 ≤ (t.2.2.1).toInt ∧ 0 ≤ (t.1).toInt ∧ (t.1).toInt ≤ 64)) (fun t : Int32 × Int32 × Int32 × zS => (64 - (t.2.2.1).toInt).toNat) (fun again3 t hI ih54_3 => ?_) N _ (show Tr [] σ0 σ1 ∧ (0 ≤ (0 : Int32).toInt ∧ 0 ≤ (0 : Int32).toInt ∧ (0 : Int32).toInt ≤ 64) from ⟨hT, (by first | omega | decide | (simp only [Int32.le_iff_toInt_le, Int32.lt_iff_toInt_lt, ti_add, ti_sub, ti_mul, Int32.reduceToInt] at *; omega))⟩) (show (64 - (0 : Int32).toInt).toNat < N from (by first | omega | decide | (simp only [Int32.le_iff_toInt_le, Int32.lt_iff_toInt_lt, ti_add, ti_sub, ti_mul, Int32.reduceToInt] at *; omega)))
    obtain ⟨x7_3, x8_3, x9_3, σ3⟩ := t
    have hI : Tr [] σ0 σ3 ∧ (0 ≤ x9_3.toInt ∧ 0 ≤ x7_3.toInt ∧ x7_3.toInt ≤ 64) := hI
    obtain ⟨hT, hI3⟩ := hI
    rw [F_X3_gatherParts_54.eq_1]
    refine ok_if (fun hc4 => ?_) (fun hc4 => ?_)
    · exact ok_some ⟨hT, (show 0 ≤ x7_3.toInt ∧ x7_3.toInt ≤ 64 from by first | omega | decide | (simp only [Int32.le_iff_toInt_le, Int32.lt_iff_toInt_lt, ti_add, ti_sub, ti_mul, Int32.reduceToInt] at *; omega))⟩
    · refine ok_if (fun hc5 => ?_) (fun hc5 => ?_)
      · rw [J_X3_gatherParts_100.eq_1]
        refine ok_if (fun hc6 => ?_) (fun hc6 => ?_)
        · exact ok_some ⟨hT, (show 0 ≤ x7_3.toInt ∧ x7_3.toInt ≤ 64 from by first | omega | decide | (simp only [Int32.le_iff_toInt_le, Int32.lt_iff_toInt_lt, ti_add, ti_sub, ti_mul, Int32.reduceToInt] at *; omega))⟩
        · exact ih54_3 (x7_3, (x8_3 - x3) &&& x3, x9_3 + 1, σ3) (show Tr [] σ0 σ3 ∧ (0 ≤ (x9_3 + 1).toInt ∧ 0 ≤ x7_3.toInt ∧ x7_3.toInt ≤ 64) from ⟨hT, (by first | omega | decide | (simp only [Int32.le_iff_toInt_le, Int32.lt_iff_toInt_lt, ti_add, ti_sub, ti_mul, Int32.reduceToInt] at *; omega))⟩) (show (64 - (x9_3 + 1).toInt).toNat < (64 - x9_3.toInt).toNat from (by first | omega | decide | (simp only [Int32.le_iff_toInt_le, Int32.lt_iff_toInt_lt, ti_add, ti_sub, ti_mul, Int32.reduceToInt] at *; omega)))
      · refine ok_gC rfl ?_
        refine ok_zbT (Q := fun V σ => True) hT (s_X3_isGathered hN (hR.tr hT) ) (fun _ h9 => absurd h9 List.not_mem_nil) (fun v7 σ8 hOσ8 hT hqv7 => ?_)
        refine ok_if (fun hc9 => ?_) (fun hc9 => ?_)
        · refine ok_gR (v := 121) hT rfl (hR 120 0 rfl) ?_
          refine ok_sJ hT rfl (by first | omega | decide | (simp only [Int32.le_iff_toInt_le, Int32.lt_iff_toInt_lt, ti_add, ti_sub, ti_mul, Int32.reduceToInt] at *; omega)) (by first | omega | decide | (simp only [Int32.le_iff_toInt_le, Int32.lt_iff_toInt_lt, ti_add, ti_sub, ti_mul, Int32.reduceToInt] at *; omega)) (fun σ11 eσ11 hOσ11 hT => ?_)
          rw [J_X3_gatherParts_100.eq_1]
          refine ok_if (fun hc12 => ?_) (fun hc12 => ?_)
          · exact ok_some ⟨hT, (show 0 ≤ (x7_3 + 1).toInt ∧ (x7_3 + 1).toInt ≤ 64 from by first | omega | decide | (simp only [Int32.le_iff_toInt_le, Int32.lt_iff_toInt_lt, ti_add, ti_sub, ti_mul, Int32.reduceToInt] at *; omega))⟩
          · exact ih54_3 (x7_3 + 1, (x8_3 - x3) &&& x3, x9_3 + 1, σ11) (show Tr [] σ0 σ11 ∧ (0 ≤ (x9_3 + 1).toInt ∧ 0 ≤ (x7_3 + 1).toInt ∧ (x7_3 + 1).toInt ≤ 64) from ⟨hT, (by first | omega | decide | (simp only [Int32.le_iff_toInt_le, Int32.lt_iff_toInt_lt, ti_add, ti_sub, ti_mul, Int32.reduceToInt] at *; omega))⟩) (show (64 - (x9_3 + 1).toInt).toNat < (64 - x9_3.toInt).toNat from (by first | omega | decide | (simp only [Int32.le_iff_toInt_le, Int32.lt_iff_toInt_lt, ti_add, ti_sub, ti_mul, Int32.reduceToInt] at *; omega)))
        · rw [J_X3_gatherParts_100.eq_1]
          refine ok_if (fun hc13 => ?_) (fun hc13 => ?_)
          · exact ok_some ⟨hT, (show 0 ≤ x7_3.toInt ∧ x7_3.toInt ≤ 64 from by first | omega | decide | (simp only [Int32.le_iff_toInt_le, Int32.lt_iff_toInt_lt, ti_add, ti_sub, ti_mul, Int32.reduceToInt] at *; omega))⟩
          · exact ih54_3 (x7_3, (x8_3 - x3) &&& x3, x9_3 + 1, σ8) (show Tr [] σ0 σ8 ∧ (0 ≤ (x9_3 + 1).toInt ∧ 0 ≤ x7_3.toInt ∧ x7_3.toInt ≤ 64) from ⟨hT, (by first | omega | decide | (simp only [Int32.le_iff_toInt_le, Int32.lt_iff_toInt_lt, ti_add, ti_sub, ti_mul, Int32.reduceToInt] at *; omega))⟩) (show (64 - (x9_3 + 1).toInt).toNat < (64 - x9_3.toInt).toNat from (by first | omega | decide | (simp only [Int32.le_iff_toInt_le, Int32.lt_iff_toInt_lt, ti_add, ti_sub, ti_mul, Int32.reduceToInt] at *; omega)))
  · refine ok_if (fun hc14 => ?_) (fun hc14 => ?_)
    · exact ih6_1 (x5_1, x7_1 + 1, σ1) (show Tr [] σ0 σ1 ∧ (0 ≤ (x7_1 + 1).toInt) from ⟨hT, (by first | omega | decide | (simp only [Int32.le_iff_toInt_le, Int32.lt_iff_toInt_lt, ti_add, ti_sub, ti_mul, Int32.reduceToInt] at *; omega))⟩) (show (6 - (x7_1 + 1).toInt).toNat < (6 - x7_1.toInt).toNat from (by first | omega | decide | (simp only [Int32.le_iff_toInt_le, Int32.lt_iff_toInt_lt, ti_add, ti_sub, ti_mul, Int32.reduceToInt] at *; omega)))
    · exact ih6_1 (x5_1 ||| (zsl x5_1 ((1 : Int32) <<< (x7_1 &&& 31))), x7_1 + 1, σ1) (show Tr [] σ0 σ1 ∧ (0 ≤ (x7_1 + 1).toInt) from ⟨hT, (by first | omega | decide | (simp only [Int32.le_iff_toInt_le, Int32.lt_iff_toInt_lt, ti_add, ti_sub, ti_mul, Int32.reduceToInt] at *; omega))⟩) (show (6 - (x7_1 + 1).toInt).toNat < (6 - x7_1.toInt).toNat from (by first | omega | decide | (simp only [Int32.le_iff_toInt_le, Int32.lt_iff_toInt_lt, ti_add, ti_sub, ti_mul, Int32.reduceToInt] at *; omega)))

set_option maxHeartbeats 4000000 in
set_option maxRecDepth 100000 in
theorem s_X3_fewest {N : Nat} (hN : 1048576 ≤ N)  {σ0 : zS}  (hR : RF σ0.2.2)  : Ok (f_X3_fewest N 120 σ0) (fun r => Tr [] σ0 r.2 ∧ (True)) := by
  have hT : Tr [] σ0 σ0 := Tr.rf
  rw [f_X3_fewest.eq_1]
  refine ok_gR (v := 122) hT rfl (hR 120 1 rfl) ?_
  refine ok_aIn rfl (by first | omega | decide | (simp only [Int32.le_iff_toInt_le, Int32.lt_iff_toInt_lt, ti_add, ti_sub, ti_mul, Int32.reduceToInt] at *; omega)) (by first | omega | decide | (simp only [Int32.le_iff_toInt_le, Int32.lt_iff_toInt_lt, ti_add, ti_sub, ti_mul, Int32.reduceToInt] at *; omega)) (fun v2 ev2 => ?_)
  exact ok_some ⟨hT, trivial⟩

set_option maxHeartbeats 4000000 in
set_option maxRecDepth 100000 in
theorem s_X3_nameAt {N : Nat} (hN : 1048576 ≤ N) {x1 : Int32} {σ0 : zS}  (hR : RF σ0.2.2)  : Ok (f_X3_nameAt N 120 x1 σ0) (fun r => Tr [] σ0 r.2 ∧ (True)) := by
  have hT : Tr [] σ0 σ0 := Tr.rf
  rw [f_X3_nameAt.eq_1]
  refine ok_lp (fun t : Int32 × Int32 × zS => Tr [] σ0 (t.2.2) ∧ (0 ≤ (t.2.1).toInt)) (fun t : Int32 × Int32 × zS => (6 - (t.2.1).toInt).toNat) (fun again1 t hI ih4_1 => ?_) N _ (show Tr [] σ0 σ0 ∧ (0 ≤ (0 : Int32).toInt) from ⟨hT, (by first | omega | decide | (simp only [Int32.le_iff_toInt_le, Int32.lt_iff_toInt_lt, ti_add, ti_sub, ti_mul, Int32.reduceToInt] at *; omega))⟩) (show (6 - (0 : Int32).toInt).toNat < N from (by first | omega | decide | (simp only [Int32.le_iff_toInt_le, Int32.lt_iff_toInt_lt, ti_add, ti_sub, ti_mul, Int32.reduceToInt] at *; omega)))
  obtain ⟨x2_1, x3_1, σ1⟩ := t
  have hI : Tr [] σ0 σ1 ∧ (0 ≤ x3_1.toInt) := hI
  obtain ⟨hT, hI1⟩ := hI
  rw [F_X3_nameAt_4.eq_1]
  refine ok_if (fun hc2 => ?_) (fun hc2 => ?_)
  · refine ok_gR (v := 123) hT rfl (hR 120 2 rfl) ?_
    refine ok_aIn rfl (by exact (ti_and0 x2_1 (m := 63) (by decide)).1) (by exact Int.lt_of_le_of_lt (ti_and0 x2_1 (m := 63) (by decide)).2 (by decide)) (fun v4 ev4 => ?_)
    exact ok_some ⟨hT, trivial⟩
  · refine ok_if (fun hc5 => ?_) (fun hc5 => ?_)
    · refine ok_gR (v := 123) hT rfl (hR 120 2 rfl) ?_
      refine ok_aIn rfl (by exact (ti_and0 x2_1 (m := 63) (by decide)).1) (by exact Int.lt_of_le_of_lt (ti_and0 x2_1 (m := 63) (by decide)).2 (by decide)) (fun v7 ev7 => ?_)
      exact ok_some ⟨hT, trivial⟩
    · refine ok_gR (v := 123) hT rfl (hR 120 2 rfl) ?_
      refine ok_aIn rfl (by exact (ti_and0 x2_1 (m := 63) (by decide)).1) (by exact Int.lt_of_le_of_lt (ti_and0 x2_1 (m := 63) (by decide)).2 (by decide)) (fun v9 ev9 => ?_)
      exact ih4_1 (x2_1 ||| ((1 : Int32) <<< (v9 &&& 31)), x3_1 + 1, σ1) (show Tr [] σ0 σ1 ∧ (0 ≤ (x3_1 + 1).toInt) from ⟨hT, (by first | omega | decide | (simp only [Int32.le_iff_toInt_le, Int32.lt_iff_toInt_lt, ti_add, ti_sub, ti_mul, Int32.reduceToInt] at *; omega))⟩) (show (6 - (x3_1 + 1).toInt).toNat < (6 - x3_1.toInt).toNat from (by first | omega | decide | (simp only [Int32.le_iff_toInt_le, Int32.lt_iff_toInt_lt, ti_add, ti_sub, ti_mul, Int32.reduceToInt] at *; omega)))

set_option maxHeartbeats 4000000 in
set_option maxRecDepth 100000 in
theorem s_X3_weighAll {N : Nat} (hN : 1048576 ≤ N) {x1 : Nat} {x2 : Int32} {σ0 : zS}  (hR : RF σ0.2.2) (h_x1 : (zKd x1).1 = 2) : Ok (f_X3_weighAll N 120 x1 x2 σ0) (fun r => Tr [122, 123] σ0 r.2 ∧ (True)) := by
  have hT : Tr [122, 123] σ0 σ0 := Tr.rf
  have q0 := ti_one6 (ti_mm6 x2).1 (ti_mm6 x2).2
  rw [f_X3_weighAll.eq_1]
  refine ok_gR (v := 122) hT rfl (hR 120 1 rfl) ?_
  refine ok_s14 hT rfl (by decide) (by first | omega | decide | (simp only [Int32.le_iff_toInt_le, Int32.lt_iff_toInt_lt, ti_add, ti_sub, ti_mul, Int32.reduceToInt] at *; omega)) (by first | omega | decide | (simp only [Int32.le_iff_toInt_le, Int32.lt_iff_toInt_lt, ti_add, ti_sub, ti_mul, Int32.reduceToInt] at *; omega)) (fun σ2 eσ2 hOσ2 hT => ?_)
  refine ok_lp (fun t : Int32 × zS => Tr [122, 123] σ0 (t.2) ∧ ((t.1).toInt ≤ 62)) (fun t : Int32 × zS => ((t.1).toInt + 1).toNat) (fun again3 t hI ih27_3 => ?_) N _ (show Tr [122, 123] σ0 σ2 ∧ (((((1 : Int32) <<< ((zmax 0 (zmin 6 x2)) &&& 31)) - 1) - 1).toInt ≤ 62) from ⟨hT, (by first | omega | decide | (simp only [Int32.le_iff_toInt_le, Int32.lt_iff_toInt_lt, ti_add, ti_sub, ti_mul, Int32.reduceToInt] at *; omega))⟩) (show (((((1 : Int32) <<< ((zmax 0 (zmin 6 x2)) &&& 31)) - 1) - 1).toInt + 1).toNat < N from (by first | omega | decide | (simp only [Int32.le_iff_toInt_le, Int32.lt_iff_toInt_lt, ti_add, ti_sub, ti_mul, Int32.reduceToInt] at *; omega)))
  obtain ⟨x4_3, σ3⟩ := t
  have hI : Tr [122, 123] σ0 σ3 ∧ (x4_3.toInt ≤ 62) := hI
  obtain ⟨hT, hI3⟩ := hI
  rw [F_X3_weighAll_27.eq_1]
  refine ok_if (fun hc4 => ?_) (fun hc4 => ?_)
  · exact ok_some ⟨hT, trivial⟩
  · refine ok_gR hT h_x1 (fam_R hR h_x1).1 ?_
    refine ok_aJ (fam_R hR h_x1).2 (by first | omega | decide | (simp only [Int32.le_iff_toInt_le, Int32.lt_iff_toInt_lt, ti_add, ti_sub, ti_mul, Int32.reduceToInt] at *; omega)) (by first | omega | decide | (simp only [Int32.le_iff_toInt_le, Int32.lt_iff_toInt_lt, ti_add, ti_sub, ti_mul, Int32.reduceToInt] at *; omega)) ?_
    generalize σ3.2.1 (x1 + 1) (Int32.toNatClampNeg (0)) = v6
    refine ok_gC rfl ?_
    refine ok_zbT (Q := fun V σ => 0 ≤ V.toInt ∧ V.toInt ≤ 64) hT (s_X3_gatherParts hN (hR.tr hT) ) (fun _ h9 => absurd h9 List.not_mem_nil) (fun v7 σ8 hOσ8 hT hqv7 => ?_)
    have hqv7 : 0 ≤ v7.toInt ∧ v7.toInt ≤ 64 := hqv7
    refine ok_gR (v := 122) hT rfl (hR 120 1 rfl) ?_
    refine ok_s14 hT rfl (by decide) (by first | omega | decide | (simp only [Int32.le_iff_toInt_le, Int32.lt_iff_toInt_lt, ti_add, ti_sub, ti_mul, Int32.reduceToInt] at *; omega)) (by first | omega | decide | (simp only [Int32.le_iff_toInt_le, Int32.lt_iff_toInt_lt, ti_add, ti_sub, ti_mul, Int32.reduceToInt] at *; omega)) (fun σ10 eσ10 hOσ10 hT => ?_)
    refine ok_lp (fun t : Int32 × zS => Tr [122, 123] σ0 (t.2) ∧ (0 ≤ (t.1).toInt)) (fun t : Int32 × zS => (6 - (t.1).toInt).toNat) (fun again11 t hI ih59_11 => ?_) N _ (show Tr [122, 123] σ0 σ10 ∧ (0 ≤ (0 : Int32).toInt) from ⟨hT, (by first | omega | decide | (simp only [Int32.le_iff_toInt_le, Int32.lt_iff_toInt_lt, ti_add, ti_sub, ti_mul, Int32.reduceToInt] at *; omega))⟩) (show (6 - (0 : Int32).toInt).toNat < N from (by first | omega | decide | (simp only [Int32.le_iff_toInt_le, Int32.lt_iff_toInt_lt, ti_add, ti_sub, ti_mul, Int32.reduceToInt] at *; omega)))
    obtain ⟨x6_11, σ11⟩ := t
    have hI : Tr [122, 123] σ0 σ11 ∧ (0 ≤ x6_11.toInt) := hI
    obtain ⟨hT, hI11⟩ := hI
    rw [F_X3_weighAll_59.eq_1]
    refine ok_if (fun hc12 => ?_) (fun hc12 => ?_)
    · exact ih27_3 (x4_3 + (-1), σ11) (show Tr [122, 123] σ0 σ11 ∧ ((x4_3 + (-1)).toInt ≤ 62) from ⟨hT, (by first | omega | decide | (simp only [Int32.le_iff_toInt_le, Int32.lt_iff_toInt_lt, ti_add, ti_sub, ti_mul, Int32.reduceToInt] at *; omega))⟩) (show ((x4_3 + (-1)).toInt + 1).toNat < (x4_3.toInt + 1).toNat from (by first | omega | decide | (simp only [Int32.le_iff_toInt_le, Int32.lt_iff_toInt_lt, ti_add, ti_sub, ti_mul, Int32.reduceToInt] at *; omega)))
    · refine ok_if (fun hc13 => ?_) (fun hc13 => ?_)
      · exact ih27_3 (x4_3 + (-1), σ11) (show Tr [122, 123] σ0 σ11 ∧ ((x4_3 + (-1)).toInt ≤ 62) from ⟨hT, (by first | omega | decide | (simp only [Int32.le_iff_toInt_le, Int32.lt_iff_toInt_lt, ti_add, ti_sub, ti_mul, Int32.reduceToInt] at *; omega))⟩) (show ((x4_3 + (-1)).toInt + 1).toNat < (x4_3.toInt + 1).toNat from (by first | omega | decide | (simp only [Int32.le_iff_toInt_le, Int32.lt_iff_toInt_lt, ti_add, ti_sub, ti_mul, Int32.reduceToInt] at *; omega)))
      · refine ok_if (fun hc14 => ?_) (fun hc14 => ?_)
        · have q5 := ti_one5 (x := x6_11) (by simp only [Int32.le_iff_toInt_le, Int32.lt_iff_toInt_lt, Int32.reduceToInt] at *; omega) (by simp only [Int32.le_iff_toInt_le, Int32.lt_iff_toInt_lt, Int32.reduceToInt] at *; omega)
          have q6 := ti_or (a := x4_3) (n := 6) (by decide) (by simp only [Int32.le_iff_toInt_le, Int32.lt_iff_toInt_lt, Int32.reduceToInt] at *; omega) (by simp only [Int32.le_iff_toInt_le, Int32.lt_iff_toInt_lt, Int32.reduceToInt] at *; omega) q5.1 q5.2
          refine ok_gC rfl ?_
          refine ok_zbT (Q := fun V σ => True) hT (s_X3_partsWith hN (hR.tr hT) ) (fun _ h9 => absurd h9 List.not_mem_nil) (fun v15 σ16 hOσ16 hT hqv15 => ?_)
          refine ok_gR (v := 122) hT rfl (hR 120 1 rfl) ?_
          refine ok_aIn rfl (by first | omega | decide | (simp only [Int32.le_iff_toInt_le, Int32.lt_iff_toInt_lt, ti_add, ti_sub, ti_mul, Int32.reduceToInt] at *; omega)) (by first | omega | decide | (simp only [Int32.le_iff_toInt_le, Int32.lt_iff_toInt_lt, ti_add, ti_sub, ti_mul, Int32.reduceToInt] at *; omega)) (fun v18 ev18 => ?_)
          refine ok_gR (v := 122) hT rfl (hR 120 1 rfl) ?_
          refine ok_aIn rfl (by first | omega | decide | (simp only [Int32.le_iff_toInt_le, Int32.lt_iff_toInt_lt, ti_add, ti_sub, ti_mul, Int32.reduceToInt] at *; omega)) (by first | omega | decide | (simp only [Int32.le_iff_toInt_le, Int32.lt_iff_toInt_lt, ti_add, ti_sub, ti_mul, Int32.reduceToInt] at *; omega)) (fun v20 ev20 => ?_)
          refine ok_if (fun hc21 => ?_) (fun hc21 => ?_)
          · exact ih59_11 (x6_11 + 1, σ16) (show Tr [122, 123] σ0 σ16 ∧ (0 ≤ (x6_11 + 1).toInt) from ⟨hT, (by first | omega | decide | (simp only [Int32.le_iff_toInt_le, Int32.lt_iff_toInt_lt, ti_add, ti_sub, ti_mul, Int32.reduceToInt] at *; omega))⟩) (show (6 - (x6_11 + 1).toInt).toNat < (6 - x6_11.toInt).toNat from (by first | omega | decide | (simp only [Int32.le_iff_toInt_le, Int32.lt_iff_toInt_lt, ti_add, ti_sub, ti_mul, Int32.reduceToInt] at *; omega)))
          · refine ok_gR (v := 122) hT rfl (hR 120 1 rfl) ?_
            refine ok_s14 hT rfl (by decide) (by first | omega | decide | (simp only [Int32.le_iff_toInt_le, Int32.lt_iff_toInt_lt, ti_add, ti_sub, ti_mul, Int32.reduceToInt] at *; omega)) (by first | omega | decide | (simp only [Int32.le_iff_toInt_le, Int32.lt_iff_toInt_lt, ti_add, ti_sub, ti_mul, Int32.reduceToInt] at *; omega)) (fun σ23 eσ23 hOσ23 hT => ?_)
            refine ok_gR (v := 123) hT rfl (hR 120 2 rfl) ?_
            refine ok_s14 hT rfl (by decide) (by first | omega | decide | (simp only [Int32.le_iff_toInt_le, Int32.lt_iff_toInt_lt, ti_add, ti_sub, ti_mul, Int32.reduceToInt] at *; omega)) (by first | omega | decide | (simp only [Int32.le_iff_toInt_le, Int32.lt_iff_toInt_lt, ti_add, ti_sub, ti_mul, Int32.reduceToInt] at *; omega)) (fun σ25 eσ25 hOσ25 hT => ?_)
            exact ih59_11 (x6_11 + 1, σ25) (show Tr [122, 123] σ0 σ25 ∧ (0 ≤ (x6_11 + 1).toInt) from ⟨hT, (by first | omega | decide | (simp only [Int32.le_iff_toInt_le, Int32.lt_iff_toInt_lt, ti_add, ti_sub, ti_mul, Int32.reduceToInt] at *; omega))⟩) (show (6 - (x6_11 + 1).toInt).toNat < (6 - x6_11.toInt).toNat from (by first | omega | decide | (simp only [Int32.le_iff_toInt_le, Int32.lt_iff_toInt_lt, ti_add, ti_sub, ti_mul, Int32.reduceToInt] at *; omega)))
        · exact ih59_11 (x6_11 + 1, σ11) (show Tr [122, 123] σ0 σ11 ∧ (0 ≤ (x6_11 + 1).toInt) from ⟨hT, (by first | omega | decide | (simp only [Int32.le_iff_toInt_le, Int32.lt_iff_toInt_lt, ti_add, ti_sub, ti_mul, Int32.reduceToInt] at *; omega))⟩) (show (6 - (x6_11 + 1).toInt).toNat < (6 - x6_11.toInt).toNat from (by first | omega | decide | (simp only [Int32.le_iff_toInt_le, Int32.lt_iff_toInt_lt, ti_add, ti_sub, ti_mul, Int32.reduceToInt] at *; omega)))

set_option maxHeartbeats 4000000 in
set_option maxRecDepth 100000 in
theorem s_X3_siftAll_2_111 {N : Nat} (hN : 1048576 ≤ N) {x2 : Nat} {σ0 : zS}  (hR : RF σ0.2.2) (h_x2 : (zKd x2).1 = 2) (hu : 2 ≤ (σ0.1 111 8).toInt ∧ (σ0.1 111 8).toInt ≤ 1600) (hn : 0 ≤ (σ0.1 2 0).toInt ∧ (σ0.1 2 0).toInt ≤ 10) : Ok (f_X3_siftAll N 120 2 x2 111 σ0) (fun r => Tr [6, 111, 112, 113, 114, 115, 116, 117, 118, 119] σ0 r.2 ∧ (2 ≤ (r.2.1 111 8).toInt ∧ (r.2.1 111 8).toInt ≤ 1600)) := by
  have hT : Tr [6, 111, 112, 113, 114, 115, 116, 117, 118, 119] σ0 σ0 := Tr.rf
  rw [f_X3_siftAll.eq_1]
  refine ok_lp (fun t : Int32 × Int32 × zS => Tr [6, 111, 112, 113, 114, 115, 116, 117, 118, 119] σ0 (t.2.2) ∧ (0 ≤ (t.2.1).toInt) ∧ (2 ≤ ((t.2.2).1 111 8).toInt ∧ ((t.2.2).1 111 8).toInt ≤ 1600)) (fun t : Int32 × Int32 × zS => (10 - (t.2.1).toInt).toNat) (fun again1 t hI ih6_1 => ?_) N _ (show Tr [6, 111, 112, 113, 114, 115, 116, 117, 118, 119] σ0 σ0 ∧ (0 ≤ (0 : Int32).toInt) ∧ (2 ≤ (σ0.1 111 8).toInt ∧ (σ0.1 111 8).toInt ≤ 1600) from ⟨hT, (by first | omega | decide | (simp only [Int32.le_iff_toInt_le, Int32.lt_iff_toInt_lt, ti_add, ti_sub, ti_mul, Int32.reduceToInt] at *; omega)), hu⟩) (show (10 - (0 : Int32).toInt).toNat < N from (by first | omega | decide | (simp only [Int32.le_iff_toInt_le, Int32.lt_iff_toInt_lt, ti_add, ti_sub, ti_mul, Int32.reduceToInt] at *; omega)))
  obtain ⟨x4_1, x5_1, σ1⟩ := t
  have hI : Tr [6, 111, 112, 113, 114, 115, 116, 117, 118, 119] σ0 σ1 ∧ (0 ≤ x5_1.toInt) ∧ (2 ≤ (σ1.1 111 8).toInt ∧ (σ1.1 111 8).toInt ≤ 1600) := hI
  obtain ⟨hT, hI1, hu⟩ := hI
  rw [F_X3_siftAll_6.eq_1]
  refine ok_gI0 hT rfl (by decide) ?_
  refine ok_if (fun hc3 => ?_) (fun hc3 => ?_)
  · exact ok_some ⟨hT, (show 2 ≤ (σ1.1 111 8).toInt ∧ (σ1.1 111 8).toInt ≤ 1600 from by exact hu)⟩
  · refine ok_if (fun hc4 => ?_) (fun hc4 => ?_)
    · exact ok_some ⟨hT, (show 2 ≤ (σ1.1 111 8).toInt ∧ (σ1.1 111 8).toInt ≤ 1600 from by exact hu)⟩
    · refine ok_lp (fun t : Int32 × Int32 × Int32 × zS => Tr [6, 111, 112, 113, 114, 115, 116, 117, 118, 119] σ0 (t.2.2.2) ∧ (0 ≤ (t.2.2.1).toInt) ∧ (2 ≤ ((t.2.2.2).1 111 8).toInt ∧ ((t.2.2.2).1 111 8).toInt ≤ 1600)) (fun t : Int32 × Int32 × Int32 × zS => (10 - (t.2.2.1).toInt).toNat) (fun again5 t hI ih32_5 => ?_) N _ (show Tr [6, 111, 112, 113, 114, 115, 116, 117, 118, 119] σ0 σ1 ∧ (0 ≤ (0 : Int32).toInt) ∧ (2 ≤ (σ1.1 111 8).toInt ∧ (σ1.1 111 8).toInt ≤ 1600) from ⟨hT, (by first | omega | decide | (simp only [Int32.le_iff_toInt_le, Int32.lt_iff_toInt_lt, ti_add, ti_sub, ti_mul, Int32.reduceToInt] at *; omega)), hu⟩) (show (10 - (0 : Int32).toInt).toNat < N from (by first | omega | decide | (simp only [Int32.le_iff_toInt_le, Int32.lt_iff_toInt_lt, ti_add, ti_sub, ti_mul, Int32.reduceToInt] at *; omega)))
      obtain ⟨x4_5, x6_5, x7_5, σ5⟩ := t
      have hI : Tr [6, 111, 112, 113, 114, 115, 116, 117, 118, 119] σ0 σ5 ∧ (0 ≤ x7_5.toInt) ∧ (2 ≤ (σ5.1 111 8).toInt ∧ (σ5.1 111 8).toInt ≤ 1600) := hI
      obtain ⟨hT, hI5, hu⟩ := hI
      rw [F_X3_siftAll_32.eq_1]
      refine ok_gI0 hT rfl (by decide) ?_
      refine ok_if (fun hc7 => ?_) (fun hc7 => ?_)
      · refine ok_gC rfl ?_
        refine ok_zbT (Q := fun V σ => True) hT (s_X10_moveName_2 hN (hR.tr hT) ) (by decide) (fun v8 σ9 hOσ9 hT hqv8 => ?_)
        have hu : 2 ≤ (σ9.1 111 8).toInt ∧ (σ9.1 111 8).toInt ≤ 1600 := by rw [hOσ9.2 111 (by decide)] <;> exact hu
        exact ih6_1 (x4_5, x5_1 + 1, σ9) (show Tr [6, 111, 112, 113, 114, 115, 116, 117, 118, 119] σ0 σ9 ∧ (0 ≤ (x5_1 + 1).toInt) ∧ (2 ≤ (σ9.1 111 8).toInt ∧ (σ9.1 111 8).toInt ≤ 1600) from ⟨hT, (by first | omega | decide | (simp only [Int32.le_iff_toInt_le, Int32.lt_iff_toInt_lt, ti_add, ti_sub, ti_mul, Int32.reduceToInt] at *; omega)), hu⟩) (show (10 - (x5_1 + 1).toInt).toNat < (10 - x5_1.toInt).toNat from (by first | omega | decide | (simp only [Int32.le_iff_toInt_le, Int32.lt_iff_toInt_lt, ti_add, ti_sub, ti_mul, Int32.reduceToInt] at *; omega)))
      · refine ok_if (fun hc10 => ?_) (fun hc10 => ?_)
        · refine ok_gC rfl ?_
          refine ok_zbT (Q := fun V σ => True) hT (s_X10_moveName_2 hN (hR.tr hT) ) (by decide) (fun v11 σ12 hOσ12 hT hqv11 => ?_)
          have hu : 2 ≤ (σ12.1 111 8).toInt ∧ (σ12.1 111 8).toInt ≤ 1600 := by rw [hOσ12.2 111 (by decide)] <;> exact hu
          exact ih6_1 (x4_5, x5_1 + 1, σ12) (show Tr [6, 111, 112, 113, 114, 115, 116, 117, 118, 119] σ0 σ12 ∧ (0 ≤ (x5_1 + 1).toInt) ∧ (2 ≤ (σ12.1 111 8).toInt ∧ (σ12.1 111 8).toInt ≤ 1600) from ⟨hT, (by first | omega | decide | (simp only [Int32.le_iff_toInt_le, Int32.lt_iff_toInt_lt, ti_add, ti_sub, ti_mul, Int32.reduceToInt] at *; omega)), hu⟩) (show (10 - (x5_1 + 1).toInt).toNat < (10 - x5_1.toInt).toNat from (by first | omega | decide | (simp only [Int32.le_iff_toInt_le, Int32.lt_iff_toInt_lt, ti_add, ti_sub, ti_mul, Int32.reduceToInt] at *; omega)))
        · refine ok_gC rfl ?_
          refine ok_zbT (Q := fun V σ => True) hT (s_X10_moveName_2 hN (hR.tr hT) ) (by decide) (fun v13 σ14 hOσ14 hT hqv13 => ?_)
          have hu : 2 ≤ (σ14.1 111 8).toInt ∧ (σ14.1 111 8).toInt ≤ 1600 := by rw [hOσ14.2 111 (by decide)] <;> exact hu
          refine ok_gC rfl ?_
          refine ok_zbT (Q := fun V σ => 2 ≤ (σ.1 111 8).toInt ∧ (σ.1 111 8).toInt ≤ 1600) hT (s_X1_tallyOf_2 hN (hR.tr hT) h_x2 (by first | omega | decide | (simp only [Int32.le_iff_toInt_le, Int32.lt_iff_toInt_lt, ti_add, ti_sub, ti_mul, Int32.reduceToInt] at *; omega)) (by first | exact hn | (rw [hT.2 2 (by decide)]; exact hn))) (by decide) (fun v15 σ16 hOσ16 hT hqv15 => ?_)
          have hqv15 : 2 ≤ (σ16.1 111 8).toInt ∧ (σ16.1 111 8).toInt ≤ 1600 := hqv15
          have hu : 2 ≤ (σ16.1 111 8).toInt ∧ (σ16.1 111 8).toInt ≤ 1600 := hqv15
          refine ok_if (fun hc17 => ?_) (fun hc17 => ?_)
          · exact ih32_5 (x4_5, x6_5, x7_5 + 1, σ16) (show Tr [6, 111, 112, 113, 114, 115, 116, 117, 118, 119] σ0 σ16 ∧ (0 ≤ (x7_5 + 1).toInt) ∧ (2 ≤ (σ16.1 111 8).toInt ∧ (σ16.1 111 8).toInt ≤ 1600) from ⟨hT, (by first | omega | decide | (simp only [Int32.le_iff_toInt_le, Int32.lt_iff_toInt_lt, ti_add, ti_sub, ti_mul, Int32.reduceToInt] at *; omega)), hu⟩) (show (10 - (x7_5 + 1).toInt).toNat < (10 - x7_5.toInt).toNat from (by first | omega | decide | (simp only [Int32.le_iff_toInt_le, Int32.lt_iff_toInt_lt, ti_add, ti_sub, ti_mul, Int32.reduceToInt] at *; omega)))
          · exact ih32_5 (v15, x7_5, x7_5 + 1, σ16) (show Tr [6, 111, 112, 113, 114, 115, 116, 117, 118, 119] σ0 σ16 ∧ (0 ≤ (x7_5 + 1).toInt) ∧ (2 ≤ (σ16.1 111 8).toInt ∧ (σ16.1 111 8).toInt ≤ 1600) from ⟨hT, (by first | omega | decide | (simp only [Int32.le_iff_toInt_le, Int32.lt_iff_toInt_lt, ti_add, ti_sub, ti_mul, Int32.reduceToInt] at *; omega)), hu⟩) (show (10 - (x7_5 + 1).toInt).toNat < (10 - x7_5.toInt).toNat from (by first | omega | decide | (simp only [Int32.le_iff_toInt_le, Int32.lt_iff_toInt_lt, ti_add, ti_sub, ti_mul, Int32.reduceToInt] at *; omega)))

set_option maxHeartbeats 4000000 in
set_option maxRecDepth 100000 in
theorem s_X3_siftAll_28_111 {N : Nat} (hN : 1048576 ≤ N) {x2 : Nat} {σ0 : zS}  (hR : RF σ0.2.2) (h_x2 : (zKd x2).1 = 2) (hu : 2 ≤ (σ0.1 111 8).toInt ∧ (σ0.1 111 8).toInt ≤ 1600) (hn : 0 ≤ (σ0.1 28 0).toInt ∧ (σ0.1 28 0).toInt ≤ 10) : Ok (f_X3_siftAll N 120 28 x2 111 σ0) (fun r => Tr [32, 111, 112, 113, 114, 115, 116, 117, 118, 119] σ0 r.2 ∧ (2 ≤ (r.2.1 111 8).toInt ∧ (r.2.1 111 8).toInt ≤ 1600)) := by
  have hT : Tr [32, 111, 112, 113, 114, 115, 116, 117, 118, 119] σ0 σ0 := Tr.rf
  rw [f_X3_siftAll.eq_1]
  refine ok_lp (fun t : Int32 × Int32 × zS => Tr [32, 111, 112, 113, 114, 115, 116, 117, 118, 119] σ0 (t.2.2) ∧ (0 ≤ (t.2.1).toInt) ∧ (2 ≤ ((t.2.2).1 111 8).toInt ∧ ((t.2.2).1 111 8).toInt ≤ 1600)) (fun t : Int32 × Int32 × zS => (10 - (t.2.1).toInt).toNat) (fun again1 t hI ih6_1 => ?_) N _ (show Tr [32, 111, 112, 113, 114, 115, 116, 117, 118, 119] σ0 σ0 ∧ (0 ≤ (0 : Int32).toInt) ∧ (2 ≤ (σ0.1 111 8).toInt ∧ (σ0.1 111 8).toInt ≤ 1600) from ⟨hT, (by first | omega | decide | (simp only [Int32.le_iff_toInt_le, Int32.lt_iff_toInt_lt, ti_add, ti_sub, ti_mul, Int32.reduceToInt] at *; omega)), hu⟩) (show (10 - (0 : Int32).toInt).toNat < N from (by first | omega | decide | (simp only [Int32.le_iff_toInt_le, Int32.lt_iff_toInt_lt, ti_add, ti_sub, ti_mul, Int32.reduceToInt] at *; omega)))
  obtain ⟨x4_1, x5_1, σ1⟩ := t
  have hI : Tr [32, 111, 112, 113, 114, 115, 116, 117, 118, 119] σ0 σ1 ∧ (0 ≤ x5_1.toInt) ∧ (2 ≤ (σ1.1 111 8).toInt ∧ (σ1.1 111 8).toInt ≤ 1600) := hI
  obtain ⟨hT, hI1, hu⟩ := hI
  rw [F_X3_siftAll_6.eq_1]
  refine ok_gI0 hT rfl (by decide) ?_
  refine ok_if (fun hc3 => ?_) (fun hc3 => ?_)
  · exact ok_some ⟨hT, (show 2 ≤ (σ1.1 111 8).toInt ∧ (σ1.1 111 8).toInt ≤ 1600 from by exact hu)⟩
  · refine ok_if (fun hc4 => ?_) (fun hc4 => ?_)
    · exact ok_some ⟨hT, (show 2 ≤ (σ1.1 111 8).toInt ∧ (σ1.1 111 8).toInt ≤ 1600 from by exact hu)⟩
    · refine ok_lp (fun t : Int32 × Int32 × Int32 × zS => Tr [32, 111, 112, 113, 114, 115, 116, 117, 118, 119] σ0 (t.2.2.2) ∧ (0 ≤ (t.2.2.1).toInt) ∧ (2 ≤ ((t.2.2.2).1 111 8).toInt ∧ ((t.2.2.2).1 111 8).toInt ≤ 1600)) (fun t : Int32 × Int32 × Int32 × zS => (10 - (t.2.2.1).toInt).toNat) (fun again5 t hI ih32_5 => ?_) N _ (show Tr [32, 111, 112, 113, 114, 115, 116, 117, 118, 119] σ0 σ1 ∧ (0 ≤ (0 : Int32).toInt) ∧ (2 ≤ (σ1.1 111 8).toInt ∧ (σ1.1 111 8).toInt ≤ 1600) from ⟨hT, (by first | omega | decide | (simp only [Int32.le_iff_toInt_le, Int32.lt_iff_toInt_lt, ti_add, ti_sub, ti_mul, Int32.reduceToInt] at *; omega)), hu⟩) (show (10 - (0 : Int32).toInt).toNat < N from (by first | omega | decide | (simp only [Int32.le_iff_toInt_le, Int32.lt_iff_toInt_lt, ti_add, ti_sub, ti_mul, Int32.reduceToInt] at *; omega)))
      obtain ⟨x4_5, x6_5, x7_5, σ5⟩ := t
      have hI : Tr [32, 111, 112, 113, 114, 115, 116, 117, 118, 119] σ0 σ5 ∧ (0 ≤ x7_5.toInt) ∧ (2 ≤ (σ5.1 111 8).toInt ∧ (σ5.1 111 8).toInt ≤ 1600) := hI
      obtain ⟨hT, hI5, hu⟩ := hI
      rw [F_X3_siftAll_32.eq_1]
      refine ok_gI0 hT rfl (by decide) ?_
      refine ok_if (fun hc7 => ?_) (fun hc7 => ?_)
      · refine ok_gC rfl ?_
        refine ok_zbT (Q := fun V σ => True) hT (s_X10_moveName_28 hN (hR.tr hT) ) (by decide) (fun v8 σ9 hOσ9 hT hqv8 => ?_)
        have hu : 2 ≤ (σ9.1 111 8).toInt ∧ (σ9.1 111 8).toInt ≤ 1600 := by rw [hOσ9.2 111 (by decide)] <;> exact hu
        exact ih6_1 (x4_5, x5_1 + 1, σ9) (show Tr [32, 111, 112, 113, 114, 115, 116, 117, 118, 119] σ0 σ9 ∧ (0 ≤ (x5_1 + 1).toInt) ∧ (2 ≤ (σ9.1 111 8).toInt ∧ (σ9.1 111 8).toInt ≤ 1600) from ⟨hT, (by first | omega | decide | (simp only [Int32.le_iff_toInt_le, Int32.lt_iff_toInt_lt, ti_add, ti_sub, ti_mul, Int32.reduceToInt] at *; omega)), hu⟩) (show (10 - (x5_1 + 1).toInt).toNat < (10 - x5_1.toInt).toNat from (by first | omega | decide | (simp only [Int32.le_iff_toInt_le, Int32.lt_iff_toInt_lt, ti_add, ti_sub, ti_mul, Int32.reduceToInt] at *; omega)))
      · refine ok_if (fun hc10 => ?_) (fun hc10 => ?_)
        · refine ok_gC rfl ?_
          refine ok_zbT (Q := fun V σ => True) hT (s_X10_moveName_28 hN (hR.tr hT) ) (by decide) (fun v11 σ12 hOσ12 hT hqv11 => ?_)
          have hu : 2 ≤ (σ12.1 111 8).toInt ∧ (σ12.1 111 8).toInt ≤ 1600 := by rw [hOσ12.2 111 (by decide)] <;> exact hu
          exact ih6_1 (x4_5, x5_1 + 1, σ12) (show Tr [32, 111, 112, 113, 114, 115, 116, 117, 118, 119] σ0 σ12 ∧ (0 ≤ (x5_1 + 1).toInt) ∧ (2 ≤ (σ12.1 111 8).toInt ∧ (σ12.1 111 8).toInt ≤ 1600) from ⟨hT, (by first | omega | decide | (simp only [Int32.le_iff_toInt_le, Int32.lt_iff_toInt_lt, ti_add, ti_sub, ti_mul, Int32.reduceToInt] at *; omega)), hu⟩) (show (10 - (x5_1 + 1).toInt).toNat < (10 - x5_1.toInt).toNat from (by first | omega | decide | (simp only [Int32.le_iff_toInt_le, Int32.lt_iff_toInt_lt, ti_add, ti_sub, ti_mul, Int32.reduceToInt] at *; omega)))
        · refine ok_gC rfl ?_
          refine ok_zbT (Q := fun V σ => True) hT (s_X10_moveName_28 hN (hR.tr hT) ) (by decide) (fun v13 σ14 hOσ14 hT hqv13 => ?_)
          have hu : 2 ≤ (σ14.1 111 8).toInt ∧ (σ14.1 111 8).toInt ≤ 1600 := by rw [hOσ14.2 111 (by decide)] <;> exact hu
          refine ok_gC rfl ?_
          refine ok_zbT (Q := fun V σ => 2 ≤ (σ.1 111 8).toInt ∧ (σ.1 111 8).toInt ≤ 1600) hT (s_X1_tallyOf_28 hN (hR.tr hT) h_x2 (by first | omega | decide | (simp only [Int32.le_iff_toInt_le, Int32.lt_iff_toInt_lt, ti_add, ti_sub, ti_mul, Int32.reduceToInt] at *; omega)) (by first | exact hn | (rw [hT.2 28 (by decide)]; exact hn))) (by decide) (fun v15 σ16 hOσ16 hT hqv15 => ?_)
          have hqv15 : 2 ≤ (σ16.1 111 8).toInt ∧ (σ16.1 111 8).toInt ≤ 1600 := hqv15
          have hu : 2 ≤ (σ16.1 111 8).toInt ∧ (σ16.1 111 8).toInt ≤ 1600 := hqv15
          refine ok_if (fun hc17 => ?_) (fun hc17 => ?_)
          · exact ih32_5 (x4_5, x6_5, x7_5 + 1, σ16) (show Tr [32, 111, 112, 113, 114, 115, 116, 117, 118, 119] σ0 σ16 ∧ (0 ≤ (x7_5 + 1).toInt) ∧ (2 ≤ (σ16.1 111 8).toInt ∧ (σ16.1 111 8).toInt ≤ 1600) from ⟨hT, (by first | omega | decide | (simp only [Int32.le_iff_toInt_le, Int32.lt_iff_toInt_lt, ti_add, ti_sub, ti_mul, Int32.reduceToInt] at *; omega)), hu⟩) (show (10 - (x7_5 + 1).toInt).toNat < (10 - x7_5.toInt).toNat from (by first | omega | decide | (simp only [Int32.le_iff_toInt_le, Int32.lt_iff_toInt_lt, ti_add, ti_sub, ti_mul, Int32.reduceToInt] at *; omega)))
          · exact ih32_5 (v15, x7_5, x7_5 + 1, σ16) (show Tr [32, 111, 112, 113, 114, 115, 116, 117, 118, 119] σ0 σ16 ∧ (0 ≤ (x7_5 + 1).toInt) ∧ (2 ≤ (σ16.1 111 8).toInt ∧ (σ16.1 111 8).toInt ≤ 1600) from ⟨hT, (by first | omega | decide | (simp only [Int32.le_iff_toInt_le, Int32.lt_iff_toInt_lt, ti_add, ti_sub, ti_mul, Int32.reduceToInt] at *; omega)), hu⟩) (show (10 - (x7_5 + 1).toInt).toNat < (10 - x7_5.toInt).toNat from (by first | omega | decide | (simp only [Int32.le_iff_toInt_le, Int32.lt_iff_toInt_lt, ti_add, ti_sub, ti_mul, Int32.reduceToInt] at *; omega)))
end Zq0_6
section Zq0_7
set_option maxHeartbeats 4000000 in
set_option maxRecDepth 100000 in
theorem s_X4_load {N : Nat} (hN : 1048576 ≤ N) {x1 : Nat} {σ0 : zS}  (hR : RF σ0.2.2) (h_x1 : (zKd x1).1 = 2) : Ok (f_X4_load N 126 x1 σ0) (fun r => Tr [126, 127] σ0 r.2 ∧ (True)) := by
  have hT : Tr [126, 127] σ0 σ0 := Tr.rf
  rw [f_X4_load.eq_1]
  refine ok_pI hT rfl (by decide) (fun σ1 eσ1 hOσ1 hT => ?_)
  refine ok_pI hT rfl (by decide) (fun σ2 eσ2 hOσ2 hT => ?_)
  refine ok_gC h_x1 ?_
  refine ok_zbT (Q := fun V σ => -1 ≤ V.toInt ∧ V.toInt ≤ 1023) hT (s_X2_firstFrom hN (hR.tr hT) h_x1) (fun _ h9 => absurd h9 List.not_mem_nil) (fun v3 σ4 hOσ4 hT hqv3 => ?_)
  have hqv3 : -1 ≤ v3.toInt ∧ v3.toInt ≤ 1023 := hqv3
  refine ok_lp (fun t : Int32 × Int32 × zS => Tr [126, 127] σ0 (t.2.2) ∧ (0 ≤ (t.2.1).toInt)) (fun t : Int32 × Int32 × zS => (12 - (t.2.1).toInt).toNat) (fun again5 t hI ih18_5 => ?_) N _ (show Tr [126, 127] σ0 σ4 ∧ (0 ≤ (0 : Int32).toInt) from ⟨hT, (by first | omega | decide | (simp only [Int32.le_iff_toInt_le, Int32.lt_iff_toInt_lt, ti_add, ti_sub, ti_mul, Int32.reduceToInt] at *; omega))⟩) (show (12 - (0 : Int32).toInt).toNat < N from (by first | omega | decide | (simp only [Int32.le_iff_toInt_le, Int32.lt_iff_toInt_lt, ti_add, ti_sub, ti_mul, Int32.reduceToInt] at *; omega)))
  obtain ⟨x2_5, x3_5, σ5⟩ := t
  have hI : Tr [126, 127] σ0 σ5 ∧ (0 ≤ x3_5.toInt) := hI
  obtain ⟨hT, hI5⟩ := hI
  rw [F_X4_load_18.eq_1]
  refine ok_if (fun hc6 => ?_) (fun hc6 => ?_)
  · exact ok_some ⟨hT, trivial⟩
  · refine ok_if (fun hc7 => ?_) (fun hc7 => ?_)
    · exact ok_some ⟨hT, trivial⟩
    · refine ok_gR (v := 127) hT rfl (hR 126 0 rfl) ?_
      refine ok_s14 hT rfl (by decide) (by first | omega | decide | (simp only [Int32.le_iff_toInt_le, Int32.lt_iff_toInt_lt, ti_add, ti_sub, ti_mul, Int32.reduceToInt] at *; omega)) (by first | omega | decide | (simp only [Int32.le_iff_toInt_le, Int32.lt_iff_toInt_lt, ti_add, ti_sub, ti_mul, Int32.reduceToInt] at *; omega)) (fun σ9 eσ9 hOσ9 hT => ?_)
      refine ok_gI rfl ?_
      refine ok_pI hT rfl (by decide) (fun σ11 eσ11 hOσ11 hT => ?_)
      refine ok_gI rfl ?_
      refine ok_pI hT rfl (by decide) (fun σ13 eσ13 hOσ13 hT => ?_)
      refine ok_gC h_x1 ?_
      refine ok_zbT (Q := fun V σ => -1 ≤ V.toInt ∧ V.toInt ≤ 1023) hT (s_X2_firstFrom hN (hR.tr hT) h_x1) (fun _ h9 => absurd h9 List.not_mem_nil) (fun v14 σ15 hOσ15 hT hqv14 => ?_)
      have hqv14 : -1 ≤ v14.toInt ∧ v14.toInt ≤ 1023 := hqv14
      exact ih18_5 (v14, x3_5 + 1, σ15) (show Tr [126, 127] σ0 σ15 ∧ (0 ≤ (x3_5 + 1).toInt) from ⟨hT, (by first | omega | decide | (simp only [Int32.le_iff_toInt_le, Int32.lt_iff_toInt_lt, ti_add, ti_sub, ti_mul, Int32.reduceToInt] at *; omega))⟩) (show (12 - (x3_5 + 1).toInt).toNat < (12 - x3_5.toInt).toNat from (by first | omega | decide | (simp only [Int32.le_iff_toInt_le, Int32.lt_iff_toInt_lt, ti_add, ti_sub, ti_mul, Int32.reduceToInt] at *; omega)))

set_option maxHeartbeats 4000000 in
set_option maxRecDepth 100000 in
theorem sg_X4_fewestFrom_127 {N : Nat} (hN : 1048576 ≤ N) : ∀ dd : Nat, (∀ (x1 : Int32) (x2 : Int32) (x3 : Int32) (x4 : Int32) (σ0 : zS), RF σ0.2.2 → 0 ≤ x3.toInt → (13 - x3.toInt).toNat < dd → Ok (f_X4_fewestFrom N dd 127 x1 x2 x3 x4 σ0) (fun r => Tr [] σ0 r.2 ∧ (True))) := by
  intro dd
  induction dd with
  | zero => exact fun _ _ _ _ _ _ _ h => absurd h (Nat.not_lt_zero _)
  | succ dd ih =>
    have ih0 := ih
    intro x1 x2 x3 x4 σ0 hR h3 hm
    show Ok (B_X4_fewestFrom N (f_X4_fewestFrom N dd) 127 x1 x2 x3 x4 σ0) _
    have hT : Tr [] σ0 σ0 := Tr.rf
    rw [B_X4_fewestFrom.eq_1]
    refine ok_if (fun hc1 => ?_) (fun hc1 => ?_)
    · exact ok_some ⟨hT, trivial⟩
    · refine ok_if (fun hc2 => ?_) (fun hc2 => ?_)
      · exact ok_some ⟨hT, trivial⟩
      · refine ok_if (fun hc3 => ?_) (fun hc3 => ?_)
        · exact ok_some ⟨hT, trivial⟩
        · refine ok_aL (n := 12) rfl ?_
          rw [show Int32.ofNat 12 = 12 from rfl]
          refine ok_if (fun hc5 => ?_) (fun hc5 => ?_)
          · refine ok_zbT (Q := fun V σ => True) hT (ih0 _ _ _ _ _ (hR.tr hT) (by first | omega | decide | (simp only [Int32.le_iff_toInt_le, Int32.lt_iff_toInt_lt, ti_add, ti_sub, ti_mul, Int32.reduceToInt] at *; omega)) (by first | omega | decide | (simp only [Int32.le_iff_toInt_le, Int32.lt_iff_toInt_lt, ti_add, ti_sub, ti_mul, Int32.reduceToInt] at *; omega))) (fun _ h9 => absurd h9 List.not_mem_nil) (fun v6 σ7 hOσ7 hT hqv6 => ?_)
            refine ok_aIn rfl (by first | omega | decide | (simp only [Int32.le_iff_toInt_le, Int32.lt_iff_toInt_lt, ti_add, ti_sub, ti_mul, Int32.reduceToInt] at *; omega)) (by first | omega | decide | (simp only [Int32.le_iff_toInt_le, Int32.lt_iff_toInt_lt, ti_add, ti_sub, ti_mul, Int32.reduceToInt] at *; omega)) (fun v8 ev8 => ?_)
            refine ok_zbT (Q := fun V σ => True) hT (ih0 _ _ _ _ _ (hR.tr hT) (by first | omega | decide | (simp only [Int32.le_iff_toInt_le, Int32.lt_iff_toInt_lt, ti_add, ti_sub, ti_mul, Int32.reduceToInt] at *; omega)) (by first | omega | decide | (simp only [Int32.le_iff_toInt_le, Int32.lt_iff_toInt_lt, ti_add, ti_sub, ti_mul, Int32.reduceToInt] at *; omega))) (fun _ h9 => absurd h9 List.not_mem_nil) (fun v9 σ10 hOσ10 hT hqv9 => ?_)
            exact ok_some ⟨hT, trivial⟩
          · exact ok_some ⟨hT, trivial⟩
theorem s_X4_fewestFrom_127 {N : Nat} (hN : 1048576 ≤ N) {x1 : Int32} {x2 : Int32} {x3 : Int32} {x4 : Int32} {σ0 : zS} (hR : RF σ0.2.2) (h3 : 0 ≤ x3.toInt) (hm : (13 - x3.toInt).toNat < 14) : Ok (f_X4_fewestFrom N 14 127 x1 x2 x3 x4 σ0) (fun r => Tr [] σ0 r.2 ∧ (True)) := (sg_X4_fewestFrom_127 hN 14) _ _ _ _ _ hR h3 hm

set_option maxHeartbeats 4000000 in
set_option maxRecDepth 100000 in
theorem sg_X4_mostFrom_127 {N : Nat} (hN : 1048576 ≤ N) : ∀ dd : Nat, (∀ (x1 : Int32) (x2 : Int32) (x3 : Int32) (σ0 : zS), RF σ0.2.2 → 0 ≤ x2.toInt → (13 - x2.toInt).toNat < dd → Ok (f_X4_mostFrom N dd 127 x1 x2 x3 σ0) (fun r => Tr [] σ0 r.2 ∧ (True))) := by
  intro dd
  induction dd with
  | zero => exact fun _ _ _ _ _ _ h => absurd h (Nat.not_lt_zero _)
  | succ dd ih =>
    have ih0 := ih
    intro x1 x2 x3 σ0 hR h3 hm
    show Ok (B_X4_mostFrom N (f_X4_mostFrom N dd) 127 x1 x2 x3 σ0) _
    have hT : Tr [] σ0 σ0 := Tr.rf
    rw [B_X4_mostFrom.eq_1]
    refine ok_if (fun hc1 => ?_) (fun hc1 => ?_)
    · exact ok_some ⟨hT, trivial⟩
    · refine ok_if (fun hc2 => ?_) (fun hc2 => ?_)
      · exact ok_some ⟨hT, trivial⟩
      · refine ok_aL (n := 12) rfl ?_
        rw [show Int32.ofNat 12 = 12 from rfl]
        refine ok_if (fun hc4 => ?_) (fun hc4 => ?_)
        · refine ok_zbT (Q := fun V σ => True) hT (ih0 _ _ _ _ (hR.tr hT) (by first | omega | decide | (simp only [Int32.le_iff_toInt_le, Int32.lt_iff_toInt_lt, ti_add, ti_sub, ti_mul, Int32.reduceToInt] at *; omega)) (by first | omega | decide | (simp only [Int32.le_iff_toInt_le, Int32.lt_iff_toInt_lt, ti_add, ti_sub, ti_mul, Int32.reduceToInt] at *; omega))) (fun _ h9 => absurd h9 List.not_mem_nil) (fun v5 σ6 hOσ6 hT hqv5 => ?_)
          refine ok_aIn rfl (by first | omega | decide | (simp only [Int32.le_iff_toInt_le, Int32.lt_iff_toInt_lt, ti_add, ti_sub, ti_mul, Int32.reduceToInt] at *; omega)) (by first | omega | decide | (simp only [Int32.le_iff_toInt_le, Int32.lt_iff_toInt_lt, ti_add, ti_sub, ti_mul, Int32.reduceToInt] at *; omega)) (fun v7 ev7 => ?_)
          refine ok_if (fun hc8 => ?_) (fun hc8 => ?_)
          · refine ok_aIn rfl (by first | omega | decide | (simp only [Int32.le_iff_toInt_le, Int32.lt_iff_toInt_lt, ti_add, ti_sub, ti_mul, Int32.reduceToInt] at *; omega)) (by first | omega | decide | (simp only [Int32.le_iff_toInt_le, Int32.lt_iff_toInt_lt, ti_add, ti_sub, ti_mul, Int32.reduceToInt] at *; omega)) (fun v9 ev9 => ?_)
            refine ok_zbT (Q := fun V σ => True) hT (ih0 _ _ _ _ (hR.tr hT) (by first | omega | decide | (simp only [Int32.le_iff_toInt_le, Int32.lt_iff_toInt_lt, ti_add, ti_sub, ti_mul, Int32.reduceToInt] at *; omega)) (by first | omega | decide | (simp only [Int32.le_iff_toInt_le, Int32.lt_iff_toInt_lt, ti_add, ti_sub, ti_mul, Int32.reduceToInt] at *; omega))) (fun _ h9 => absurd h9 List.not_mem_nil) (fun v10 σ11 hOσ11 hT hqv10 => ?_)
            exact ok_some ⟨hT, trivial⟩
          · exact ok_some ⟨hT, trivial⟩
        · exact ok_some ⟨hT, trivial⟩
theorem s_X4_mostFrom_127 {N : Nat} (hN : 1048576 ≤ N) {x1 : Int32} {x2 : Int32} {x3 : Int32} {σ0 : zS} (hR : RF σ0.2.2) (h3 : 0 ≤ x2.toInt) (hm : (13 - x2.toInt).toNat < 14) : Ok (f_X4_mostFrom N 14 127 x1 x2 x3 σ0) (fun r => Tr [] σ0 r.2 ∧ (True)) := (sg_X4_mostFrom_127 hN 14) _ _ _ _ hR h3 hm

set_option maxHeartbeats 4000000 in
set_option maxRecDepth 100000 in
theorem s_X4_fewestForAll {N : Nat} (hN : 1048576 ≤ N)  {σ0 : zS}  (hR : RF σ0.2.2)  : Ok (f_X4_fewestForAll N 126 σ0) (fun r => Tr [] σ0 r.2 ∧ (True)) := by
  have hT : Tr [] σ0 σ0 := Tr.rf
  rw [f_X4_fewestForAll.eq_1]
  refine ok_gR (v := 127) hT rfl (hR 126 0 rfl) ?_
  refine ok_gI0 hT rfl (by decide) ?_
  refine ok_gI0 hT rfl (by decide) ?_
  refine ok_zbT (Q := fun V σ => True) hT (s_X4_fewestFrom_127 hN (hR.tr hT) (by first | omega | decide | (simp only [Int32.le_iff_toInt_le, Int32.lt_iff_toInt_lt, ti_add, ti_sub, ti_mul, Int32.reduceToInt] at *; omega)) (by first | omega | decide | (simp only [Int32.le_iff_toInt_le, Int32.lt_iff_toInt_lt, ti_add, ti_sub, ti_mul, Int32.reduceToInt] at *; omega))) (fun _ h9 => absurd h9 List.not_mem_nil) (fun v4 σ5 hOσ5 hT hqv4 => ?_)
  exact ok_some ⟨hT, trivial⟩

set_option maxHeartbeats 4000000 in
set_option maxRecDepth 100000 in
theorem s_X4_mostDisjoint {N : Nat} (hN : 1048576 ≤ N)  {σ0 : zS}  (hR : RF σ0.2.2)  : Ok (f_X4_mostDisjoint N 126 σ0) (fun r => Tr [] σ0 r.2 ∧ (True)) := by
  have hT : Tr [] σ0 σ0 := Tr.rf
  rw [f_X4_mostDisjoint.eq_1]
  refine ok_gR (v := 127) hT rfl (hR 126 0 rfl) ?_
  refine ok_gI0 hT rfl (by decide) ?_
  refine ok_zbT (Q := fun V σ => True) hT (s_X4_mostFrom_127 hN (hR.tr hT) (by first | omega | decide | (simp only [Int32.le_iff_toInt_le, Int32.lt_iff_toInt_lt, ti_add, ti_sub, ti_mul, Int32.reduceToInt] at *; omega)) (by first | omega | decide | (simp only [Int32.le_iff_toInt_le, Int32.lt_iff_toInt_lt, ti_add, ti_sub, ti_mul, Int32.reduceToInt] at *; omega))) (fun _ h9 => absurd h9 List.not_mem_nil) (fun v3 σ4 hOσ4 hT hqv3 => ?_)
  exact ok_some ⟨hT, trivial⟩
end Zq0_7
section Zq0_8
set_option maxHeartbeats 4000000 in
set_option maxRecDepth 100000 in
theorem s_X9_isBare {N : Nat} (hN : 1048576 ≤ N) {x0 : Nat} {σ0 : zS}  (hR : RF σ0.2.2) (h_x0 : (zKd x0).1 = 9) : Ok (f_X9_isBare N x0 σ0) (fun r => Tr [] σ0 r.2 ∧ ((r.1 = 0 ∨ r.1 = 1) ∧ (r.1 = 0 → 0 ≤ (σ0.1 x0 2).toInt))) := by
  have hT : Tr [] σ0 σ0 := Tr.rf
  rw [f_X9_isBare.eq_1]
  refine ok_gI0 hT h_x0 List.not_mem_nil ?_
  refine ok_if (fun hc2 => ?_) (fun hc2 => ?_)
  · exact ok_rZ (Or.inl rfl) ⟨hT, (show ((0 : Int32) = 0 ∨ (0 : Int32) = 1) ∧ ((0 : Int32) = 0 → 0 ≤ (σ0.1 x0 2).toInt) from by first | exact ⟨Or.inl rfl, fun _ => by simp only [Int32.le_iff_toInt_le, Int32.lt_iff_toInt_lt, ti_add, ti_sub, ti_mul, Int32.reduceToInt] at *; omega⟩ | exact ⟨Or.inr rfl, fun h9 => absurd h9 (by decide)⟩)⟩
  · exact ok_rZ (Or.inr rfl) ⟨hT, (show ((1 : Int32) = 0 ∨ (1 : Int32) = 1) ∧ ((1 : Int32) = 0 → 0 ≤ (σ0.1 x0 2).toInt) from by first | exact ⟨Or.inl rfl, fun _ => by simp only [Int32.le_iff_toInt_le, Int32.lt_iff_toInt_lt, ti_add, ti_sub, ti_mul, Int32.reduceToInt] at *; omega⟩ | exact ⟨Or.inr rfl, fun h9 => absurd h9 (by decide)⟩)⟩

set_option maxHeartbeats 4000000 in
set_option maxRecDepth 100000 in
theorem s_X9_cut {N : Nat} (hN : 1048576 ≤ N) {x0 : Nat} {x1 : Int64} {σ0 : zS}  (hR : RF σ0.2.2) (h_x0 : (zKd x0).1 = 9) : Ok (f_X9_cut N x0 x1 σ0) (fun r => Tr [] σ0 r.2 ∧ (True)) := by
  have hT : Tr [] σ0 σ0 := Tr.rf
  rw [f_X9_cut.eq_1]
  refine ok_gI0 hT h_x0 List.not_mem_nil ?_
  refine ok_if (fun hc2 => ?_) (fun hc2 => ?_)
  · exact ok_some ⟨hT, trivial⟩
  refine ok_if (fun hc3 => ?_) (fun hc3 => ?_)
  · exact ok_some ⟨hT, trivial⟩
  refine ok_if (fun hc4 => ?_) (fun hc4 => ?_)
  · exact ok_some ⟨hT, trivial⟩
  exact ok_some ⟨hT, trivial⟩

set_option maxHeartbeats 4000000 in
set_option maxRecDepth 100000 in
theorem s_X9_spans {N : Nat} (hN : 1048576 ≤ N) {x0 : Nat} {x1 : Int32} {x2 : Int32} {σ0 : zS}  (hR : RF σ0.2.2) (h_x0 : (zKd x0).1 = 9) : Ok (f_X9_spans N x0 x1 x2 σ0) (fun r => Tr [] σ0 r.2 ∧ ((r.1 = 0 ∨ r.1 = 1) ∧ (¬ r.1 = 0 → 0 ≤ x1.toInt ∧ 0 ≤ x2.toInt ∧ x1.toInt + x2.toInt ≤ (σ0.1 x0 2).toInt))) := by
  have hT : Tr [] σ0 σ0 := Tr.rf
  rw [f_X9_spans.eq_1]
  refine ok_if (fun hc1 => ?_) (fun hc1 => ?_)
  · exact ok_rZ (Or.inl rfl) ⟨hT, (show ((0 : Int32) = 0 ∨ (0 : Int32) = 1) ∧ (¬ (0 : Int32) = 0 → 0 ≤ x1.toInt ∧ 0 ≤ x2.toInt ∧ x1.toInt + x2.toInt ≤ (σ0.1 x0 2).toInt) from by first | exact ⟨Or.inl rfl, fun h9 => absurd rfl h9⟩ | exact ⟨Or.inr rfl, fun _ => by simp only [Int32.le_iff_toInt_le, Int32.lt_iff_toInt_lt, ti_add, ti_sub, ti_mul, Int32.reduceToInt] at *; omega⟩)⟩
  · refine ok_if (fun hc2 => ?_) (fun hc2 => ?_)
    · exact ok_rZ (Or.inl rfl) ⟨hT, (show ((0 : Int32) = 0 ∨ (0 : Int32) = 1) ∧ (¬ (0 : Int32) = 0 → 0 ≤ x1.toInt ∧ 0 ≤ x2.toInt ∧ x1.toInt + x2.toInt ≤ (σ0.1 x0 2).toInt) from by first | exact ⟨Or.inl rfl, fun h9 => absurd rfl h9⟩ | exact ⟨Or.inr rfl, fun _ => by simp only [Int32.le_iff_toInt_le, Int32.lt_iff_toInt_lt, ti_add, ti_sub, ti_mul, Int32.reduceToInt] at *; omega⟩)⟩
    · refine ok_gI0 hT h_x0 List.not_mem_nil ?_
      refine ok_if (fun hc4 => ?_) (fun hc4 => ?_)
      · exact ok_rZ (Or.inl rfl) ⟨hT, (show ((0 : Int32) = 0 ∨ (0 : Int32) = 1) ∧ (¬ (0 : Int32) = 0 → 0 ≤ x1.toInt ∧ 0 ≤ x2.toInt ∧ x1.toInt + x2.toInt ≤ (σ0.1 x0 2).toInt) from by first | exact ⟨Or.inl rfl, fun h9 => absurd rfl h9⟩ | exact ⟨Or.inr rfl, fun _ => by simp only [Int32.le_iff_toInt_le, Int32.lt_iff_toInt_lt, ti_add, ti_sub, ti_mul, Int32.reduceToInt] at *; omega⟩)⟩
      · have q1 := spans_ok (by simp only [Int32.lt_iff_toInt_lt, Int32.reduceToInt] at *; omega) (by simp only [Int32.lt_iff_toInt_lt, Int32.reduceToInt] at *; omega) hc4
        exact ok_rZ (Or.inr rfl) ⟨hT, (show ((1 : Int32) = 0 ∨ (1 : Int32) = 1) ∧ (¬ (1 : Int32) = 0 → 0 ≤ x1.toInt ∧ 0 ≤ x2.toInt ∧ x1.toInt + x2.toInt ≤ (σ0.1 x0 2).toInt) from by first | exact ⟨Or.inl rfl, fun h9 => absurd rfl h9⟩ | exact ⟨Or.inr rfl, fun _ => by simp only [Int32.le_iff_toInt_le, Int32.lt_iff_toInt_lt, ti_add, ti_sub, ti_mul, Int32.reduceToInt] at *; omega⟩)⟩

set_option maxHeartbeats 4000000 in
set_option maxRecDepth 100000 in
theorem s_X9_start {N : Nat} (hN : 1048576 ≤ N) {x0 : Nat} {x1 : Int32} {x2 : Int32} {σ0 : zS}  (hR : RF σ0.2.2) (h_x0 : (zKd x0).1 = 9) (hL : SI σ0.1) : Ok (f_X9_start N x0 x1 x2 σ0) (fun r => Tr [210, 212, 214, 216] σ0 r.2 ∧ (SI r.2.1)) := by
  have hT : Tr [210, 212, 214, 216] σ0 σ0 := Tr.rf
  rw [f_X9_start.eq_1]
  refine ok_gR hT h_x0 (slot_R hR h_x0).1 ?_
  refine ok_zbT (Q := fun V σ => True) hT (s_J7_fill_d0a16 hN (hR.tr hT) (slot_R hR h_x0).2 (by decide)) (fun _ h9 => absurd h9 List.not_mem_nil) (fun v2 σ3 hOσ3 hT hqv2 => ?_)
  have hL : SI σ3.1 := SI.tr hOσ3 (by decide) (by decide) (by decide) (by decide) hL
  refine ok_pI hT h_x0 (slotMem h_x0) (fun σ4 eσ4 hOσ4 hT => ?_)
  have hL : SI σ4.1 := SI_p eσ4 (fun q => absurd q (by decide)) hL
  refine ok_pI hT h_x0 (slotMem h_x0) (fun σ5 eσ5 hOσ5 hT => ?_)
  have hL : SI σ5.1 := SI_p eσ5 (fun _ => by rw [ti_zmin]; simp only [Int32.reduceToInt]; split <;> omega) hL
  exact ok_some ⟨hT, (show SI σ5.1 from by exact hL)⟩
end Zq0_8
section Zq0_9
set_option maxHeartbeats 4000000 in
set_option maxRecDepth 100000 in
theorem s_X10_clear_2 {N : Nat} (hN : 1048576 ≤ N)  {σ0 : zS}  (hR : RF σ0.2.2) (hW : WI 2 σ0.1) : Ok (f_X10_clear N 2 σ0) (fun r => Tr [2, 5, 6] σ0 r.2 ∧ (WI 2 r.2.1)) := by
  have hT : Tr [2, 5, 6] σ0 σ0 := Tr.rf
  rw [f_X10_clear.eq_1]
  refine ok_pI hT rfl (by decide) (fun σ1 eσ1 hOσ1 hT => ?_)
  have hW : WI 2 σ1.1 := WI_p0 eσ1 (by decide) hW
  refine ok_pI hT rfl (by decide) (fun σ2 eσ2 hOσ2 hT => ?_)
  have hW : WI 2 σ2.1 := WI_p1 eσ2 hW
  refine ok_pI hT rfl (by decide) (fun σ3 eσ3 hOσ3 hT => ?_)
  have hW : WI 2 σ3.1 := WI_p2 eσ3 (by decide) hW
  refine ok_lp (fun t : Int32 × zS => Tr [2, 5, 6] σ0 (t.2) ∧ (0 ≤ (t.1).toInt) ∧ (WI 2 (t.2).1)) (fun t : Int32 × zS => ((10 : Int32).toInt - (t.1).toInt).toNat) (fun again4 t hI ih17_4 => ?_) N _ (show Tr [2, 5, 6] σ0 σ3 ∧ (0 ≤ (0 : Int32).toInt) ∧ (WI 2 σ3.1) from ⟨hT, (by first | omega | decide | (simp only [Int32.le_iff_toInt_le, Int32.lt_iff_toInt_lt, ti_add, ti_sub, ti_mul, Int32.reduceToInt] at *; omega)), hW⟩) (show ((10 : Int32).toInt - (0 : Int32).toInt).toNat < N from (by first | omega | decide | (simp only [Int32.le_iff_toInt_le, Int32.lt_iff_toInt_lt, ti_add, ti_sub, ti_mul, Int32.reduceToInt] at *; omega)))
  obtain ⟨x1_4, σ4⟩ := t
  have hI : Tr [2, 5, 6] σ0 σ4 ∧ (0 ≤ x1_4.toInt) ∧ (WI 2 σ4.1) := hI
  obtain ⟨hT, hI4, hW⟩ := hI
  rw [F_X10_clear_17.eq_1]
  refine ok_if (fun hc5 => ?_) (fun hc5 => ?_)
  · refine ok_lp (fun t : Int32 × zS => Tr [2, 5, 6] σ0 (t.2) ∧ (0 ≤ (t.1).toInt) ∧ (WI 2 (t.2).1)) (fun t : Int32 × zS => ((10 : Int32).toInt - (t.1).toInt).toNat) (fun again6 t hI ih45_6 => ?_) N _ (show Tr [2, 5, 6] σ0 σ4 ∧ (0 ≤ (0 : Int32).toInt) ∧ (WI 2 σ4.1) from ⟨hT, (by first | omega | decide | (simp only [Int32.le_iff_toInt_le, Int32.lt_iff_toInt_lt, ti_add, ti_sub, ti_mul, Int32.reduceToInt] at *; omega)), hW⟩) (show ((10 : Int32).toInt - (0 : Int32).toInt).toNat < N from (by first | omega | decide | (simp only [Int32.le_iff_toInt_le, Int32.lt_iff_toInt_lt, ti_add, ti_sub, ti_mul, Int32.reduceToInt] at *; omega)))
    obtain ⟨x1_6, σ6⟩ := t
    have hI : Tr [2, 5, 6] σ0 σ6 ∧ (0 ≤ x1_6.toInt) ∧ (WI 2 σ6.1) := hI
    obtain ⟨hT, hI6, hW⟩ := hI
    rw [F_X10_clear_45.eq_1]
    refine ok_if (fun hc7 => ?_) (fun hc7 => ?_)
    · exact ok_some ⟨hT, (show WI 2 σ6.1 from by exact hW)⟩
    · refine ok_gR (v := 7) hT rfl (hR 2 7 rfl) ?_
      obtain ⟨q10, eq10, kq10⟩ := arrF hR (k := 7) (i := x1_6) rfl (by first | omega | decide | (simp only [Int32.le_iff_toInt_le, Int32.lt_iff_toInt_lt, ti_add, ti_sub, ti_mul, Int32.reduceToInt] at *; omega)) (by first | omega | decide | (simp only [Int32.le_iff_toInt_le, Int32.lt_iff_toInt_lt, ti_add, ti_sub, ti_mul, Int32.reduceToInt] at *; omega))
      refine ok_aR (v := q10) hT rfl (by first | omega | decide | (simp only [Int32.le_iff_toInt_le, Int32.lt_iff_toInt_lt, ti_add, ti_sub, ti_mul, Int32.reduceToInt] at *; omega)) (by first | omega | decide | (simp only [Int32.le_iff_toInt_le, Int32.lt_iff_toInt_lt, ti_add, ti_sub, ti_mul, Int32.reduceToInt] at *; omega)) eq10 ?_
      refine ok_gC kq10 ?_
      refine ok_zbT (Q := fun V σ => True) hT (s_X2_clear hN (hR.tr hT) kq10) (fun _ h9 => absurd h9 List.not_mem_nil) (fun v11 σ12 hOσ12 hT hqv11 => ?_)
      have hW : WI 2 σ12.1 := WI.tr hOσ12 (by decide) (by decide) (by decide) hW
      exact ih45_6 (x1_6 + 1, σ12) (show Tr [2, 5, 6] σ0 σ12 ∧ (0 ≤ (x1_6 + 1).toInt) ∧ (WI 2 σ12.1) from ⟨hT, (by first | omega | decide | (simp only [Int32.le_iff_toInt_le, Int32.lt_iff_toInt_lt, ti_add, ti_sub, ti_mul, Int32.reduceToInt] at *; omega)), hW⟩) (show ((10 : Int32).toInt - (x1_6 + 1).toInt).toNat < ((10 : Int32).toInt - x1_6.toInt).toNat from (by first | omega | decide | (simp only [Int32.le_iff_toInt_le, Int32.lt_iff_toInt_lt, ti_add, ti_sub, ti_mul, Int32.reduceToInt] at *; omega)))
  · refine ok_gR (v := 5) hT rfl (hR 2 5 rfl) ?_
    refine ok_s14 hT rfl (by decide) (by first | omega | decide | (simp only [Int32.le_iff_toInt_le, Int32.lt_iff_toInt_lt, ti_add, ti_sub, ti_mul, Int32.reduceToInt] at *; omega)) (by first | omega | decide | (simp only [Int32.le_iff_toInt_le, Int32.lt_iff_toInt_lt, ti_add, ti_sub, ti_mul, Int32.reduceToInt] at *; omega)) (fun σ14 eσ14 hOσ14 hT => ?_)
    have hW : WI 2 σ14.1 := WI.tr hOσ14 (by decide) (by decide) (by decide) hW
    refine ok_gR (v := 6) hT rfl (hR 2 6 rfl) ?_
    refine ok_s14 hT rfl (by decide) (by first | omega | decide | (simp only [Int32.le_iff_toInt_le, Int32.lt_iff_toInt_lt, ti_add, ti_sub, ti_mul, Int32.reduceToInt] at *; omega)) (by first | omega | decide | (simp only [Int32.le_iff_toInt_le, Int32.lt_iff_toInt_lt, ti_add, ti_sub, ti_mul, Int32.reduceToInt] at *; omega)) (fun σ16 eσ16 hOσ16 hT => ?_)
    have hW : WI 2 σ16.1 := WI.tr hOσ16 (by decide) (by decide) (by decide) hW
    exact ih17_4 (x1_4 + 1, σ16) (show Tr [2, 5, 6] σ0 σ16 ∧ (0 ≤ (x1_4 + 1).toInt) ∧ (WI 2 σ16.1) from ⟨hT, (by first | omega | decide | (simp only [Int32.le_iff_toInt_le, Int32.lt_iff_toInt_lt, ti_add, ti_sub, ti_mul, Int32.reduceToInt] at *; omega)), hW⟩) (show ((10 : Int32).toInt - (x1_4 + 1).toInt).toNat < ((10 : Int32).toInt - x1_4.toInt).toNat from (by first | omega | decide | (simp only [Int32.le_iff_toInt_le, Int32.lt_iff_toInt_lt, ti_add, ti_sub, ti_mul, Int32.reduceToInt] at *; omega)))

set_option maxHeartbeats 4000000 in
set_option maxRecDepth 100000 in
theorem s_X10_copyFrom_2_132 {N : Nat} (hN : 1048576 ≤ N)  {σ0 : zS}  (hR : RF σ0.2.2) (hW : WI 2 σ0.1) (hV : WI 132 σ0.1) : Ok (f_X10_copyFrom N 2 132 σ0) (fun r => Tr [2, 3, 4, 5, 6] σ0 r.2 ∧ (WI 2 r.2.1)) := by
  have hT : Tr [2, 3, 4, 5, 6] σ0 σ0 := Tr.rf
  rw [f_X10_copyFrom.eq_1]
  refine ok_gIv rfl rfl ?_
  refine ok_pI hT rfl (by decide) (fun σ2 eσ2 hOσ2 hT => ?_)
  have hW : WI 2 σ2.1 := WI_p0 eσ2 (hV).1 hW
  have hV : WI 132 σ2.1 := WI.tr hOσ2 (by decide) (by decide) (by decide) hV
  refine ok_gIv rfl rfl ?_
  refine ok_pI hT rfl (by decide) (fun σ4 eσ4 hOσ4 hT => ?_)
  have hW : WI 2 σ4.1 := WI_p1 eσ4 hW
  have hV : WI 132 σ4.1 := WI.tr hOσ4 (by decide) (by decide) (by decide) hV
  refine ok_gIv rfl rfl ?_
  refine ok_pI hT rfl (by decide) (fun σ6 eσ6 hOσ6 hT => ?_)
  have hW : WI 2 σ6.1 := WI_p2 eσ6 (hV).2.1 hW
  have hV : WI 132 σ6.1 := WI.tr hOσ6 (by decide) (by decide) (by decide) hV
  refine ok_gR (v := 133) hT rfl (hR 132 3 rfl) ?_
  refine ok_gR (v := 3) hT rfl (hR 2 3 rfl) ?_
  refine ok_cpI hT rfl rfl (by decide) (by first | omega | decide | (simp only [Int32.le_iff_toInt_le, Int32.lt_iff_toInt_lt, ti_add, ti_sub, ti_mul, Int32.reduceToInt] at *; omega)) (by first | omega | decide | (simp only [Int32.le_iff_toInt_le, Int32.lt_iff_toInt_lt, ti_add, ti_sub, ti_mul, Int32.reduceToInt] at *; omega)) (by first | omega | decide | (simp only [Int32.le_iff_toInt_le, Int32.lt_iff_toInt_lt, ti_add, ti_sub, ti_mul, Int32.reduceToInt] at *; omega)) (by first | omega | decide | (simp only [Int32.le_iff_toInt_le, Int32.lt_iff_toInt_lt, ti_add, ti_sub, ti_mul, Int32.reduceToInt] at *; omega)) (by first | omega | decide | (simp only [Int32.le_iff_toInt_le, Int32.lt_iff_toInt_lt, ti_add, ti_sub, ti_mul, Int32.reduceToInt] at *; omega)) (fun σ9 eσ9 hOσ9 hT => ?_)
  have hW : WI 2 σ9.1 := WI_c1 (B := 2) (C := 132) eσ9 hV hW
  have hV : WI 132 σ9.1 := WI.tr hOσ9 (by decide) (by decide) (by decide) hV
  refine ok_gR (v := 134) hT rfl (hR 132 4 rfl) ?_
  refine ok_gR (v := 4) hT rfl (hR 2 4 rfl) ?_
  refine ok_cpI hT rfl rfl (by decide) (by first | omega | decide | (simp only [Int32.le_iff_toInt_le, Int32.lt_iff_toInt_lt, ti_add, ti_sub, ti_mul, Int32.reduceToInt] at *; omega)) (by first | omega | decide | (simp only [Int32.le_iff_toInt_le, Int32.lt_iff_toInt_lt, ti_add, ti_sub, ti_mul, Int32.reduceToInt] at *; omega)) (by first | omega | decide | (simp only [Int32.le_iff_toInt_le, Int32.lt_iff_toInt_lt, ti_add, ti_sub, ti_mul, Int32.reduceToInt] at *; omega)) (by first | omega | decide | (simp only [Int32.le_iff_toInt_le, Int32.lt_iff_toInt_lt, ti_add, ti_sub, ti_mul, Int32.reduceToInt] at *; omega)) (by first | omega | decide | (simp only [Int32.le_iff_toInt_le, Int32.lt_iff_toInt_lt, ti_add, ti_sub, ti_mul, Int32.reduceToInt] at *; omega)) (fun σ12 eσ12 hOσ12 hT => ?_)
  have hW : WI 2 σ12.1 := WI_c2 (B := 2) (C := 132) eσ12 hV hW
  have hV : WI 132 σ12.1 := WI.tr hOσ12 (by decide) (by decide) (by decide) hV
  refine ok_gR (v := 135) hT rfl (hR 132 5 rfl) ?_
  refine ok_gR (v := 5) hT rfl (hR 2 5 rfl) ?_
  refine ok_cpI hT rfl rfl (by decide) (by first | omega | decide | (simp only [Int32.le_iff_toInt_le, Int32.lt_iff_toInt_lt, ti_add, ti_sub, ti_mul, Int32.reduceToInt] at *; omega)) (by first | omega | decide | (simp only [Int32.le_iff_toInt_le, Int32.lt_iff_toInt_lt, ti_add, ti_sub, ti_mul, Int32.reduceToInt] at *; omega)) (by first | omega | decide | (simp only [Int32.le_iff_toInt_le, Int32.lt_iff_toInt_lt, ti_add, ti_sub, ti_mul, Int32.reduceToInt] at *; omega)) (by first | omega | decide | (simp only [Int32.le_iff_toInt_le, Int32.lt_iff_toInt_lt, ti_add, ti_sub, ti_mul, Int32.reduceToInt] at *; omega)) (by first | omega | decide | (simp only [Int32.le_iff_toInt_le, Int32.lt_iff_toInt_lt, ti_add, ti_sub, ti_mul, Int32.reduceToInt] at *; omega)) (fun σ15 eσ15 hOσ15 hT => ?_)
  have hW : WI 2 σ15.1 := WI.tr hOσ15 (by decide) (by decide) (by decide) hW
  have hV : WI 132 σ15.1 := WI.tr hOσ15 (by decide) (by decide) (by decide) hV
  refine ok_gR (v := 136) hT rfl (hR 132 6 rfl) ?_
  refine ok_gR (v := 6) hT rfl (hR 2 6 rfl) ?_
  refine ok_cpI hT rfl rfl (by decide) (by first | omega | decide | (simp only [Int32.le_iff_toInt_le, Int32.lt_iff_toInt_lt, ti_add, ti_sub, ti_mul, Int32.reduceToInt] at *; omega)) (by first | omega | decide | (simp only [Int32.le_iff_toInt_le, Int32.lt_iff_toInt_lt, ti_add, ti_sub, ti_mul, Int32.reduceToInt] at *; omega)) (by first | omega | decide | (simp only [Int32.le_iff_toInt_le, Int32.lt_iff_toInt_lt, ti_add, ti_sub, ti_mul, Int32.reduceToInt] at *; omega)) (by first | omega | decide | (simp only [Int32.le_iff_toInt_le, Int32.lt_iff_toInt_lt, ti_add, ti_sub, ti_mul, Int32.reduceToInt] at *; omega)) (by first | omega | decide | (simp only [Int32.le_iff_toInt_le, Int32.lt_iff_toInt_lt, ti_add, ti_sub, ti_mul, Int32.reduceToInt] at *; omega)) (fun σ18 eσ18 hOσ18 hT => ?_)
  have hW : WI 2 σ18.1 := WI.tr hOσ18 (by decide) (by decide) (by decide) hW
  have hV : WI 132 σ18.1 := WI.tr hOσ18 (by decide) (by decide) (by decide) hV
  refine ok_lp (fun t : Int32 × zS => Tr [2, 3, 4, 5, 6] σ0 (t.2) ∧ (0 ≤ (t.1).toInt) ∧ (WI 2 (t.2).1) ∧ (WI 132 (t.2).1)) (fun t : Int32 × zS => ((10 : Int32).toInt - (t.1).toInt).toNat) (fun again19 t hI ih86_19 => ?_) N _ (show Tr [2, 3, 4, 5, 6] σ0 σ18 ∧ (0 ≤ (0 : Int32).toInt) ∧ (WI 2 σ18.1) ∧ (WI 132 σ18.1) from ⟨hT, (by first | omega | decide | (simp only [Int32.le_iff_toInt_le, Int32.lt_iff_toInt_lt, ti_add, ti_sub, ti_mul, Int32.reduceToInt] at *; omega)), hW, hV⟩) (show ((10 : Int32).toInt - (0 : Int32).toInt).toNat < N from (by first | omega | decide | (simp only [Int32.le_iff_toInt_le, Int32.lt_iff_toInt_lt, ti_add, ti_sub, ti_mul, Int32.reduceToInt] at *; omega)))
  obtain ⟨x2_19, σ19⟩ := t
  have hI : Tr [2, 3, 4, 5, 6] σ0 σ19 ∧ (0 ≤ x2_19.toInt) ∧ (WI 2 σ19.1) ∧ (WI 132 σ19.1) := hI
  obtain ⟨hT, hI19, hW, hV⟩ := hI
  rw [F_X10_copyFrom_86.eq_1]
  refine ok_if (fun hc20 => ?_) (fun hc20 => ?_)
  · exact ok_some ⟨hT, (show WI 2 σ19.1 from by exact hW)⟩
  · refine ok_gR (v := 7) hT rfl (hR 2 7 rfl) ?_
    obtain ⟨q23, eq23, kq23⟩ := arrF hR (k := 7) (i := x2_19) rfl (by first | omega | decide | (simp only [Int32.le_iff_toInt_le, Int32.lt_iff_toInt_lt, ti_add, ti_sub, ti_mul, Int32.reduceToInt] at *; omega)) (by first | omega | decide | (simp only [Int32.le_iff_toInt_le, Int32.lt_iff_toInt_lt, ti_add, ti_sub, ti_mul, Int32.reduceToInt] at *; omega))
    refine ok_aR (v := q23) hT rfl (by first | omega | decide | (simp only [Int32.le_iff_toInt_le, Int32.lt_iff_toInt_lt, ti_add, ti_sub, ti_mul, Int32.reduceToInt] at *; omega)) (by first | omega | decide | (simp only [Int32.le_iff_toInt_le, Int32.lt_iff_toInt_lt, ti_add, ti_sub, ti_mul, Int32.reduceToInt] at *; omega)) eq23 ?_
    refine ok_gR (v := 137) hT rfl (hR 132 7 rfl) ?_
    obtain ⟨q26, eq26, kq26⟩ := arrF hR (k := 137) (i := x2_19) rfl (by first | omega | decide | (simp only [Int32.le_iff_toInt_le, Int32.lt_iff_toInt_lt, ti_add, ti_sub, ti_mul, Int32.reduceToInt] at *; omega)) (by first | omega | decide | (simp only [Int32.le_iff_toInt_le, Int32.lt_iff_toInt_lt, ti_add, ti_sub, ti_mul, Int32.reduceToInt] at *; omega))
    refine ok_aR (v := q26) hT rfl (by first | omega | decide | (simp only [Int32.le_iff_toInt_le, Int32.lt_iff_toInt_lt, ti_add, ti_sub, ti_mul, Int32.reduceToInt] at *; omega)) (by first | omega | decide | (simp only [Int32.le_iff_toInt_le, Int32.lt_iff_toInt_lt, ti_add, ti_sub, ti_mul, Int32.reduceToInt] at *; omega)) eq26 ?_
    refine ok_gC kq23 ?_
    refine ok_zbT (Q := fun V σ => True) hT (s_X2_copyFrom hN (hR.tr hT) kq23 kq26) (fun _ h9 => absurd h9 List.not_mem_nil) (fun v27 σ28 hOσ28 hT hqv27 => ?_)
    have hW : WI 2 σ28.1 := WI.tr hOσ28 (by decide) (by decide) (by decide) hW
    have hV : WI 132 σ28.1 := WI.tr hOσ28 (by decide) (by decide) (by decide) hV
    exact ih86_19 (x2_19 + 1, σ28) (show Tr [2, 3, 4, 5, 6] σ0 σ28 ∧ (0 ≤ (x2_19 + 1).toInt) ∧ (WI 2 σ28.1) ∧ (WI 132 σ28.1) from ⟨hT, (by first | omega | decide | (simp only [Int32.le_iff_toInt_le, Int32.lt_iff_toInt_lt, ti_add, ti_sub, ti_mul, Int32.reduceToInt] at *; omega)), hW, hV⟩) (show ((10 : Int32).toInt - (x2_19 + 1).toInt).toNat < ((10 : Int32).toInt - x2_19.toInt).toNat from (by first | omega | decide | (simp only [Int32.le_iff_toInt_le, Int32.lt_iff_toInt_lt, ti_add, ti_sub, ti_mul, Int32.reduceToInt] at *; omega)))

set_option maxHeartbeats 4000000 in
set_option maxRecDepth 100000 in
theorem s_X10_copyFrom_132_2 {N : Nat} (hN : 1048576 ≤ N)  {σ0 : zS}  (hR : RF σ0.2.2) (hW : WI 132 σ0.1) (hV : WI 2 σ0.1) : Ok (f_X10_copyFrom N 132 2 σ0) (fun r => Tr [132, 133, 134, 135, 136] σ0 r.2 ∧ (WI 132 r.2.1)) := by
  have hT : Tr [132, 133, 134, 135, 136] σ0 σ0 := Tr.rf
  rw [f_X10_copyFrom.eq_1]
  refine ok_gIv rfl rfl ?_
  refine ok_pI hT rfl (by decide) (fun σ2 eσ2 hOσ2 hT => ?_)
  have hW : WI 132 σ2.1 := WI_p0 eσ2 (hV).1 hW
  have hV : WI 2 σ2.1 := WI.tr hOσ2 (by decide) (by decide) (by decide) hV
  refine ok_gIv rfl rfl ?_
  refine ok_pI hT rfl (by decide) (fun σ4 eσ4 hOσ4 hT => ?_)
  have hW : WI 132 σ4.1 := WI_p1 eσ4 hW
  have hV : WI 2 σ4.1 := WI.tr hOσ4 (by decide) (by decide) (by decide) hV
  refine ok_gIv rfl rfl ?_
  refine ok_pI hT rfl (by decide) (fun σ6 eσ6 hOσ6 hT => ?_)
  have hW : WI 132 σ6.1 := WI_p2 eσ6 (hV).2.1 hW
  have hV : WI 2 σ6.1 := WI.tr hOσ6 (by decide) (by decide) (by decide) hV
  refine ok_gR (v := 3) hT rfl (hR 2 3 rfl) ?_
  refine ok_gR (v := 133) hT rfl (hR 132 3 rfl) ?_
  refine ok_cpI hT rfl rfl (by decide) (by first | omega | decide | (simp only [Int32.le_iff_toInt_le, Int32.lt_iff_toInt_lt, ti_add, ti_sub, ti_mul, Int32.reduceToInt] at *; omega)) (by first | omega | decide | (simp only [Int32.le_iff_toInt_le, Int32.lt_iff_toInt_lt, ti_add, ti_sub, ti_mul, Int32.reduceToInt] at *; omega)) (by first | omega | decide | (simp only [Int32.le_iff_toInt_le, Int32.lt_iff_toInt_lt, ti_add, ti_sub, ti_mul, Int32.reduceToInt] at *; omega)) (by first | omega | decide | (simp only [Int32.le_iff_toInt_le, Int32.lt_iff_toInt_lt, ti_add, ti_sub, ti_mul, Int32.reduceToInt] at *; omega)) (by first | omega | decide | (simp only [Int32.le_iff_toInt_le, Int32.lt_iff_toInt_lt, ti_add, ti_sub, ti_mul, Int32.reduceToInt] at *; omega)) (fun σ9 eσ9 hOσ9 hT => ?_)
  have hW : WI 132 σ9.1 := WI_c1 (B := 132) (C := 2) eσ9 hV hW
  have hV : WI 2 σ9.1 := WI.tr hOσ9 (by decide) (by decide) (by decide) hV
  refine ok_gR (v := 4) hT rfl (hR 2 4 rfl) ?_
  refine ok_gR (v := 134) hT rfl (hR 132 4 rfl) ?_
  refine ok_cpI hT rfl rfl (by decide) (by first | omega | decide | (simp only [Int32.le_iff_toInt_le, Int32.lt_iff_toInt_lt, ti_add, ti_sub, ti_mul, Int32.reduceToInt] at *; omega)) (by first | omega | decide | (simp only [Int32.le_iff_toInt_le, Int32.lt_iff_toInt_lt, ti_add, ti_sub, ti_mul, Int32.reduceToInt] at *; omega)) (by first | omega | decide | (simp only [Int32.le_iff_toInt_le, Int32.lt_iff_toInt_lt, ti_add, ti_sub, ti_mul, Int32.reduceToInt] at *; omega)) (by first | omega | decide | (simp only [Int32.le_iff_toInt_le, Int32.lt_iff_toInt_lt, ti_add, ti_sub, ti_mul, Int32.reduceToInt] at *; omega)) (by first | omega | decide | (simp only [Int32.le_iff_toInt_le, Int32.lt_iff_toInt_lt, ti_add, ti_sub, ti_mul, Int32.reduceToInt] at *; omega)) (fun σ12 eσ12 hOσ12 hT => ?_)
  have hW : WI 132 σ12.1 := WI_c2 (B := 132) (C := 2) eσ12 hV hW
  have hV : WI 2 σ12.1 := WI.tr hOσ12 (by decide) (by decide) (by decide) hV
  refine ok_gR (v := 5) hT rfl (hR 2 5 rfl) ?_
  refine ok_gR (v := 135) hT rfl (hR 132 5 rfl) ?_
  refine ok_cpI hT rfl rfl (by decide) (by first | omega | decide | (simp only [Int32.le_iff_toInt_le, Int32.lt_iff_toInt_lt, ti_add, ti_sub, ti_mul, Int32.reduceToInt] at *; omega)) (by first | omega | decide | (simp only [Int32.le_iff_toInt_le, Int32.lt_iff_toInt_lt, ti_add, ti_sub, ti_mul, Int32.reduceToInt] at *; omega)) (by first | omega | decide | (simp only [Int32.le_iff_toInt_le, Int32.lt_iff_toInt_lt, ti_add, ti_sub, ti_mul, Int32.reduceToInt] at *; omega)) (by first | omega | decide | (simp only [Int32.le_iff_toInt_le, Int32.lt_iff_toInt_lt, ti_add, ti_sub, ti_mul, Int32.reduceToInt] at *; omega)) (by first | omega | decide | (simp only [Int32.le_iff_toInt_le, Int32.lt_iff_toInt_lt, ti_add, ti_sub, ti_mul, Int32.reduceToInt] at *; omega)) (fun σ15 eσ15 hOσ15 hT => ?_)
  have hW : WI 132 σ15.1 := WI.tr hOσ15 (by decide) (by decide) (by decide) hW
  have hV : WI 2 σ15.1 := WI.tr hOσ15 (by decide) (by decide) (by decide) hV
  refine ok_gR (v := 6) hT rfl (hR 2 6 rfl) ?_
  refine ok_gR (v := 136) hT rfl (hR 132 6 rfl) ?_
  refine ok_cpI hT rfl rfl (by decide) (by first | omega | decide | (simp only [Int32.le_iff_toInt_le, Int32.lt_iff_toInt_lt, ti_add, ti_sub, ti_mul, Int32.reduceToInt] at *; omega)) (by first | omega | decide | (simp only [Int32.le_iff_toInt_le, Int32.lt_iff_toInt_lt, ti_add, ti_sub, ti_mul, Int32.reduceToInt] at *; omega)) (by first | omega | decide | (simp only [Int32.le_iff_toInt_le, Int32.lt_iff_toInt_lt, ti_add, ti_sub, ti_mul, Int32.reduceToInt] at *; omega)) (by first | omega | decide | (simp only [Int32.le_iff_toInt_le, Int32.lt_iff_toInt_lt, ti_add, ti_sub, ti_mul, Int32.reduceToInt] at *; omega)) (by first | omega | decide | (simp only [Int32.le_iff_toInt_le, Int32.lt_iff_toInt_lt, ti_add, ti_sub, ti_mul, Int32.reduceToInt] at *; omega)) (fun σ18 eσ18 hOσ18 hT => ?_)
  have hW : WI 132 σ18.1 := WI.tr hOσ18 (by decide) (by decide) (by decide) hW
  have hV : WI 2 σ18.1 := WI.tr hOσ18 (by decide) (by decide) (by decide) hV
  refine ok_lp (fun t : Int32 × zS => Tr [132, 133, 134, 135, 136] σ0 (t.2) ∧ (0 ≤ (t.1).toInt) ∧ (WI 132 (t.2).1) ∧ (WI 2 (t.2).1)) (fun t : Int32 × zS => ((10 : Int32).toInt - (t.1).toInt).toNat) (fun again19 t hI ih86_19 => ?_) N _ (show Tr [132, 133, 134, 135, 136] σ0 σ18 ∧ (0 ≤ (0 : Int32).toInt) ∧ (WI 132 σ18.1) ∧ (WI 2 σ18.1) from ⟨hT, (by first | omega | decide | (simp only [Int32.le_iff_toInt_le, Int32.lt_iff_toInt_lt, ti_add, ti_sub, ti_mul, Int32.reduceToInt] at *; omega)), hW, hV⟩) (show ((10 : Int32).toInt - (0 : Int32).toInt).toNat < N from (by first | omega | decide | (simp only [Int32.le_iff_toInt_le, Int32.lt_iff_toInt_lt, ti_add, ti_sub, ti_mul, Int32.reduceToInt] at *; omega)))
  obtain ⟨x2_19, σ19⟩ := t
  have hI : Tr [132, 133, 134, 135, 136] σ0 σ19 ∧ (0 ≤ x2_19.toInt) ∧ (WI 132 σ19.1) ∧ (WI 2 σ19.1) := hI
  obtain ⟨hT, hI19, hW, hV⟩ := hI
  rw [F_X10_copyFrom_86.eq_1]
  refine ok_if (fun hc20 => ?_) (fun hc20 => ?_)
  · exact ok_some ⟨hT, (show WI 132 σ19.1 from by exact hW)⟩
  · refine ok_gR (v := 137) hT rfl (hR 132 7 rfl) ?_
    obtain ⟨q23, eq23, kq23⟩ := arrF hR (k := 137) (i := x2_19) rfl (by first | omega | decide | (simp only [Int32.le_iff_toInt_le, Int32.lt_iff_toInt_lt, ti_add, ti_sub, ti_mul, Int32.reduceToInt] at *; omega)) (by first | omega | decide | (simp only [Int32.le_iff_toInt_le, Int32.lt_iff_toInt_lt, ti_add, ti_sub, ti_mul, Int32.reduceToInt] at *; omega))
    refine ok_aR (v := q23) hT rfl (by first | omega | decide | (simp only [Int32.le_iff_toInt_le, Int32.lt_iff_toInt_lt, ti_add, ti_sub, ti_mul, Int32.reduceToInt] at *; omega)) (by first | omega | decide | (simp only [Int32.le_iff_toInt_le, Int32.lt_iff_toInt_lt, ti_add, ti_sub, ti_mul, Int32.reduceToInt] at *; omega)) eq23 ?_
    refine ok_gR (v := 7) hT rfl (hR 2 7 rfl) ?_
    obtain ⟨q26, eq26, kq26⟩ := arrF hR (k := 7) (i := x2_19) rfl (by first | omega | decide | (simp only [Int32.le_iff_toInt_le, Int32.lt_iff_toInt_lt, ti_add, ti_sub, ti_mul, Int32.reduceToInt] at *; omega)) (by first | omega | decide | (simp only [Int32.le_iff_toInt_le, Int32.lt_iff_toInt_lt, ti_add, ti_sub, ti_mul, Int32.reduceToInt] at *; omega))
    refine ok_aR (v := q26) hT rfl (by first | omega | decide | (simp only [Int32.le_iff_toInt_le, Int32.lt_iff_toInt_lt, ti_add, ti_sub, ti_mul, Int32.reduceToInt] at *; omega)) (by first | omega | decide | (simp only [Int32.le_iff_toInt_le, Int32.lt_iff_toInt_lt, ti_add, ti_sub, ti_mul, Int32.reduceToInt] at *; omega)) eq26 ?_
    refine ok_gC kq23 ?_
    refine ok_zbT (Q := fun V σ => True) hT (s_X2_copyFrom hN (hR.tr hT) kq23 kq26) (fun _ h9 => absurd h9 List.not_mem_nil) (fun v27 σ28 hOσ28 hT hqv27 => ?_)
    have hW : WI 132 σ28.1 := WI.tr hOσ28 (by decide) (by decide) (by decide) hW
    have hV : WI 2 σ28.1 := WI.tr hOσ28 (by decide) (by decide) (by decide) hV
    exact ih86_19 (x2_19 + 1, σ28) (show Tr [132, 133, 134, 135, 136] σ0 σ28 ∧ (0 ≤ (x2_19 + 1).toInt) ∧ (WI 132 σ28.1) ∧ (WI 2 σ28.1) from ⟨hT, (by first | omega | decide | (simp only [Int32.le_iff_toInt_le, Int32.lt_iff_toInt_lt, ti_add, ti_sub, ti_mul, Int32.reduceToInt] at *; omega)), hW, hV⟩) (show ((10 : Int32).toInt - (x2_19 + 1).toInt).toNat < ((10 : Int32).toInt - x2_19.toInt).toNat from (by first | omega | decide | (simp only [Int32.le_iff_toInt_le, Int32.lt_iff_toInt_lt, ti_add, ti_sub, ti_mul, Int32.reduceToInt] at *; omega)))

set_option maxHeartbeats 4000000 in
set_option maxRecDepth 100000 in
theorem s_X10_copyFrom_2_158 {N : Nat} (hN : 1048576 ≤ N)  {σ0 : zS}  (hR : RF σ0.2.2) (hW : WI 2 σ0.1) (hV : WI 158 σ0.1) : Ok (f_X10_copyFrom N 2 158 σ0) (fun r => Tr [2, 3, 4, 5, 6] σ0 r.2 ∧ (WI 2 r.2.1)) := by
  have hT : Tr [2, 3, 4, 5, 6] σ0 σ0 := Tr.rf
  rw [f_X10_copyFrom.eq_1]
  refine ok_gIv rfl rfl ?_
  refine ok_pI hT rfl (by decide) (fun σ2 eσ2 hOσ2 hT => ?_)
  have hW : WI 2 σ2.1 := WI_p0 eσ2 (hV).1 hW
  have hV : WI 158 σ2.1 := WI.tr hOσ2 (by decide) (by decide) (by decide) hV
  refine ok_gIv rfl rfl ?_
  refine ok_pI hT rfl (by decide) (fun σ4 eσ4 hOσ4 hT => ?_)
  have hW : WI 2 σ4.1 := WI_p1 eσ4 hW
  have hV : WI 158 σ4.1 := WI.tr hOσ4 (by decide) (by decide) (by decide) hV
  refine ok_gIv rfl rfl ?_
  refine ok_pI hT rfl (by decide) (fun σ6 eσ6 hOσ6 hT => ?_)
  have hW : WI 2 σ6.1 := WI_p2 eσ6 (hV).2.1 hW
  have hV : WI 158 σ6.1 := WI.tr hOσ6 (by decide) (by decide) (by decide) hV
  refine ok_gR (v := 159) hT rfl (hR 158 3 rfl) ?_
  refine ok_gR (v := 3) hT rfl (hR 2 3 rfl) ?_
  refine ok_cpI hT rfl rfl (by decide) (by first | omega | decide | (simp only [Int32.le_iff_toInt_le, Int32.lt_iff_toInt_lt, ti_add, ti_sub, ti_mul, Int32.reduceToInt] at *; omega)) (by first | omega | decide | (simp only [Int32.le_iff_toInt_le, Int32.lt_iff_toInt_lt, ti_add, ti_sub, ti_mul, Int32.reduceToInt] at *; omega)) (by first | omega | decide | (simp only [Int32.le_iff_toInt_le, Int32.lt_iff_toInt_lt, ti_add, ti_sub, ti_mul, Int32.reduceToInt] at *; omega)) (by first | omega | decide | (simp only [Int32.le_iff_toInt_le, Int32.lt_iff_toInt_lt, ti_add, ti_sub, ti_mul, Int32.reduceToInt] at *; omega)) (by first | omega | decide | (simp only [Int32.le_iff_toInt_le, Int32.lt_iff_toInt_lt, ti_add, ti_sub, ti_mul, Int32.reduceToInt] at *; omega)) (fun σ9 eσ9 hOσ9 hT => ?_)
  have hW : WI 2 σ9.1 := WI_c1 (B := 2) (C := 158) eσ9 hV hW
  have hV : WI 158 σ9.1 := WI.tr hOσ9 (by decide) (by decide) (by decide) hV
  refine ok_gR (v := 160) hT rfl (hR 158 4 rfl) ?_
  refine ok_gR (v := 4) hT rfl (hR 2 4 rfl) ?_
  refine ok_cpI hT rfl rfl (by decide) (by first | omega | decide | (simp only [Int32.le_iff_toInt_le, Int32.lt_iff_toInt_lt, ti_add, ti_sub, ti_mul, Int32.reduceToInt] at *; omega)) (by first | omega | decide | (simp only [Int32.le_iff_toInt_le, Int32.lt_iff_toInt_lt, ti_add, ti_sub, ti_mul, Int32.reduceToInt] at *; omega)) (by first | omega | decide | (simp only [Int32.le_iff_toInt_le, Int32.lt_iff_toInt_lt, ti_add, ti_sub, ti_mul, Int32.reduceToInt] at *; omega)) (by first | omega | decide | (simp only [Int32.le_iff_toInt_le, Int32.lt_iff_toInt_lt, ti_add, ti_sub, ti_mul, Int32.reduceToInt] at *; omega)) (by first | omega | decide | (simp only [Int32.le_iff_toInt_le, Int32.lt_iff_toInt_lt, ti_add, ti_sub, ti_mul, Int32.reduceToInt] at *; omega)) (fun σ12 eσ12 hOσ12 hT => ?_)
  have hW : WI 2 σ12.1 := WI_c2 (B := 2) (C := 158) eσ12 hV hW
  have hV : WI 158 σ12.1 := WI.tr hOσ12 (by decide) (by decide) (by decide) hV
  refine ok_gR (v := 161) hT rfl (hR 158 5 rfl) ?_
  refine ok_gR (v := 5) hT rfl (hR 2 5 rfl) ?_
  refine ok_cpI hT rfl rfl (by decide) (by first | omega | decide | (simp only [Int32.le_iff_toInt_le, Int32.lt_iff_toInt_lt, ti_add, ti_sub, ti_mul, Int32.reduceToInt] at *; omega)) (by first | omega | decide | (simp only [Int32.le_iff_toInt_le, Int32.lt_iff_toInt_lt, ti_add, ti_sub, ti_mul, Int32.reduceToInt] at *; omega)) (by first | omega | decide | (simp only [Int32.le_iff_toInt_le, Int32.lt_iff_toInt_lt, ti_add, ti_sub, ti_mul, Int32.reduceToInt] at *; omega)) (by first | omega | decide | (simp only [Int32.le_iff_toInt_le, Int32.lt_iff_toInt_lt, ti_add, ti_sub, ti_mul, Int32.reduceToInt] at *; omega)) (by first | omega | decide | (simp only [Int32.le_iff_toInt_le, Int32.lt_iff_toInt_lt, ti_add, ti_sub, ti_mul, Int32.reduceToInt] at *; omega)) (fun σ15 eσ15 hOσ15 hT => ?_)
  have hW : WI 2 σ15.1 := WI.tr hOσ15 (by decide) (by decide) (by decide) hW
  have hV : WI 158 σ15.1 := WI.tr hOσ15 (by decide) (by decide) (by decide) hV
  refine ok_gR (v := 162) hT rfl (hR 158 6 rfl) ?_
  refine ok_gR (v := 6) hT rfl (hR 2 6 rfl) ?_
  refine ok_cpI hT rfl rfl (by decide) (by first | omega | decide | (simp only [Int32.le_iff_toInt_le, Int32.lt_iff_toInt_lt, ti_add, ti_sub, ti_mul, Int32.reduceToInt] at *; omega)) (by first | omega | decide | (simp only [Int32.le_iff_toInt_le, Int32.lt_iff_toInt_lt, ti_add, ti_sub, ti_mul, Int32.reduceToInt] at *; omega)) (by first | omega | decide | (simp only [Int32.le_iff_toInt_le, Int32.lt_iff_toInt_lt, ti_add, ti_sub, ti_mul, Int32.reduceToInt] at *; omega)) (by first | omega | decide | (simp only [Int32.le_iff_toInt_le, Int32.lt_iff_toInt_lt, ti_add, ti_sub, ti_mul, Int32.reduceToInt] at *; omega)) (by first | omega | decide | (simp only [Int32.le_iff_toInt_le, Int32.lt_iff_toInt_lt, ti_add, ti_sub, ti_mul, Int32.reduceToInt] at *; omega)) (fun σ18 eσ18 hOσ18 hT => ?_)
  have hW : WI 2 σ18.1 := WI.tr hOσ18 (by decide) (by decide) (by decide) hW
  have hV : WI 158 σ18.1 := WI.tr hOσ18 (by decide) (by decide) (by decide) hV
  refine ok_lp (fun t : Int32 × zS => Tr [2, 3, 4, 5, 6] σ0 (t.2) ∧ (0 ≤ (t.1).toInt) ∧ (WI 2 (t.2).1) ∧ (WI 158 (t.2).1)) (fun t : Int32 × zS => ((10 : Int32).toInt - (t.1).toInt).toNat) (fun again19 t hI ih86_19 => ?_) N _ (show Tr [2, 3, 4, 5, 6] σ0 σ18 ∧ (0 ≤ (0 : Int32).toInt) ∧ (WI 2 σ18.1) ∧ (WI 158 σ18.1) from ⟨hT, (by first | omega | decide | (simp only [Int32.le_iff_toInt_le, Int32.lt_iff_toInt_lt, ti_add, ti_sub, ti_mul, Int32.reduceToInt] at *; omega)), hW, hV⟩) (show ((10 : Int32).toInt - (0 : Int32).toInt).toNat < N from (by first | omega | decide | (simp only [Int32.le_iff_toInt_le, Int32.lt_iff_toInt_lt, ti_add, ti_sub, ti_mul, Int32.reduceToInt] at *; omega)))
  obtain ⟨x2_19, σ19⟩ := t
  have hI : Tr [2, 3, 4, 5, 6] σ0 σ19 ∧ (0 ≤ x2_19.toInt) ∧ (WI 2 σ19.1) ∧ (WI 158 σ19.1) := hI
  obtain ⟨hT, hI19, hW, hV⟩ := hI
  rw [F_X10_copyFrom_86.eq_1]
  refine ok_if (fun hc20 => ?_) (fun hc20 => ?_)
  · exact ok_some ⟨hT, (show WI 2 σ19.1 from by exact hW)⟩
  · refine ok_gR (v := 7) hT rfl (hR 2 7 rfl) ?_
    obtain ⟨q23, eq23, kq23⟩ := arrF hR (k := 7) (i := x2_19) rfl (by first | omega | decide | (simp only [Int32.le_iff_toInt_le, Int32.lt_iff_toInt_lt, ti_add, ti_sub, ti_mul, Int32.reduceToInt] at *; omega)) (by first | omega | decide | (simp only [Int32.le_iff_toInt_le, Int32.lt_iff_toInt_lt, ti_add, ti_sub, ti_mul, Int32.reduceToInt] at *; omega))
    refine ok_aR (v := q23) hT rfl (by first | omega | decide | (simp only [Int32.le_iff_toInt_le, Int32.lt_iff_toInt_lt, ti_add, ti_sub, ti_mul, Int32.reduceToInt] at *; omega)) (by first | omega | decide | (simp only [Int32.le_iff_toInt_le, Int32.lt_iff_toInt_lt, ti_add, ti_sub, ti_mul, Int32.reduceToInt] at *; omega)) eq23 ?_
    refine ok_gR (v := 163) hT rfl (hR 158 7 rfl) ?_
    obtain ⟨q26, eq26, kq26⟩ := arrF hR (k := 163) (i := x2_19) rfl (by first | omega | decide | (simp only [Int32.le_iff_toInt_le, Int32.lt_iff_toInt_lt, ti_add, ti_sub, ti_mul, Int32.reduceToInt] at *; omega)) (by first | omega | decide | (simp only [Int32.le_iff_toInt_le, Int32.lt_iff_toInt_lt, ti_add, ti_sub, ti_mul, Int32.reduceToInt] at *; omega))
    refine ok_aR (v := q26) hT rfl (by first | omega | decide | (simp only [Int32.le_iff_toInt_le, Int32.lt_iff_toInt_lt, ti_add, ti_sub, ti_mul, Int32.reduceToInt] at *; omega)) (by first | omega | decide | (simp only [Int32.le_iff_toInt_le, Int32.lt_iff_toInt_lt, ti_add, ti_sub, ti_mul, Int32.reduceToInt] at *; omega)) eq26 ?_
    refine ok_gC kq23 ?_
    refine ok_zbT (Q := fun V σ => True) hT (s_X2_copyFrom hN (hR.tr hT) kq23 kq26) (fun _ h9 => absurd h9 List.not_mem_nil) (fun v27 σ28 hOσ28 hT hqv27 => ?_)
    have hW : WI 2 σ28.1 := WI.tr hOσ28 (by decide) (by decide) (by decide) hW
    have hV : WI 158 σ28.1 := WI.tr hOσ28 (by decide) (by decide) (by decide) hV
    exact ih86_19 (x2_19 + 1, σ28) (show Tr [2, 3, 4, 5, 6] σ0 σ28 ∧ (0 ≤ (x2_19 + 1).toInt) ∧ (WI 2 σ28.1) ∧ (WI 158 σ28.1) from ⟨hT, (by first | omega | decide | (simp only [Int32.le_iff_toInt_le, Int32.lt_iff_toInt_lt, ti_add, ti_sub, ti_mul, Int32.reduceToInt] at *; omega)), hW, hV⟩) (show ((10 : Int32).toInt - (x2_19 + 1).toInt).toNat < ((10 : Int32).toInt - x2_19.toInt).toNat from (by first | omega | decide | (simp only [Int32.le_iff_toInt_le, Int32.lt_iff_toInt_lt, ti_add, ti_sub, ti_mul, Int32.reduceToInt] at *; omega)))

set_option maxHeartbeats 4000000 in
set_option maxRecDepth 100000 in
theorem s_X10_copyFrom_158_2 {N : Nat} (hN : 1048576 ≤ N)  {σ0 : zS}  (hR : RF σ0.2.2) (hW : WI 158 σ0.1) (hV : WI 2 σ0.1) : Ok (f_X10_copyFrom N 158 2 σ0) (fun r => Tr [158, 159, 160, 161, 162] σ0 r.2 ∧ (WI 158 r.2.1)) := by
  have hT : Tr [158, 159, 160, 161, 162] σ0 σ0 := Tr.rf
  rw [f_X10_copyFrom.eq_1]
  refine ok_gIv rfl rfl ?_
  refine ok_pI hT rfl (by decide) (fun σ2 eσ2 hOσ2 hT => ?_)
  have hW : WI 158 σ2.1 := WI_p0 eσ2 (hV).1 hW
  have hV : WI 2 σ2.1 := WI.tr hOσ2 (by decide) (by decide) (by decide) hV
  refine ok_gIv rfl rfl ?_
  refine ok_pI hT rfl (by decide) (fun σ4 eσ4 hOσ4 hT => ?_)
  have hW : WI 158 σ4.1 := WI_p1 eσ4 hW
  have hV : WI 2 σ4.1 := WI.tr hOσ4 (by decide) (by decide) (by decide) hV
  refine ok_gIv rfl rfl ?_
  refine ok_pI hT rfl (by decide) (fun σ6 eσ6 hOσ6 hT => ?_)
  have hW : WI 158 σ6.1 := WI_p2 eσ6 (hV).2.1 hW
  have hV : WI 2 σ6.1 := WI.tr hOσ6 (by decide) (by decide) (by decide) hV
  refine ok_gR (v := 3) hT rfl (hR 2 3 rfl) ?_
  refine ok_gR (v := 159) hT rfl (hR 158 3 rfl) ?_
  refine ok_cpI hT rfl rfl (by decide) (by first | omega | decide | (simp only [Int32.le_iff_toInt_le, Int32.lt_iff_toInt_lt, ti_add, ti_sub, ti_mul, Int32.reduceToInt] at *; omega)) (by first | omega | decide | (simp only [Int32.le_iff_toInt_le, Int32.lt_iff_toInt_lt, ti_add, ti_sub, ti_mul, Int32.reduceToInt] at *; omega)) (by first | omega | decide | (simp only [Int32.le_iff_toInt_le, Int32.lt_iff_toInt_lt, ti_add, ti_sub, ti_mul, Int32.reduceToInt] at *; omega)) (by first | omega | decide | (simp only [Int32.le_iff_toInt_le, Int32.lt_iff_toInt_lt, ti_add, ti_sub, ti_mul, Int32.reduceToInt] at *; omega)) (by first | omega | decide | (simp only [Int32.le_iff_toInt_le, Int32.lt_iff_toInt_lt, ti_add, ti_sub, ti_mul, Int32.reduceToInt] at *; omega)) (fun σ9 eσ9 hOσ9 hT => ?_)
  have hW : WI 158 σ9.1 := WI_c1 (B := 158) (C := 2) eσ9 hV hW
  have hV : WI 2 σ9.1 := WI.tr hOσ9 (by decide) (by decide) (by decide) hV
  refine ok_gR (v := 4) hT rfl (hR 2 4 rfl) ?_
  refine ok_gR (v := 160) hT rfl (hR 158 4 rfl) ?_
  refine ok_cpI hT rfl rfl (by decide) (by first | omega | decide | (simp only [Int32.le_iff_toInt_le, Int32.lt_iff_toInt_lt, ti_add, ti_sub, ti_mul, Int32.reduceToInt] at *; omega)) (by first | omega | decide | (simp only [Int32.le_iff_toInt_le, Int32.lt_iff_toInt_lt, ti_add, ti_sub, ti_mul, Int32.reduceToInt] at *; omega)) (by first | omega | decide | (simp only [Int32.le_iff_toInt_le, Int32.lt_iff_toInt_lt, ti_add, ti_sub, ti_mul, Int32.reduceToInt] at *; omega)) (by first | omega | decide | (simp only [Int32.le_iff_toInt_le, Int32.lt_iff_toInt_lt, ti_add, ti_sub, ti_mul, Int32.reduceToInt] at *; omega)) (by first | omega | decide | (simp only [Int32.le_iff_toInt_le, Int32.lt_iff_toInt_lt, ti_add, ti_sub, ti_mul, Int32.reduceToInt] at *; omega)) (fun σ12 eσ12 hOσ12 hT => ?_)
  have hW : WI 158 σ12.1 := WI_c2 (B := 158) (C := 2) eσ12 hV hW
  have hV : WI 2 σ12.1 := WI.tr hOσ12 (by decide) (by decide) (by decide) hV
  refine ok_gR (v := 5) hT rfl (hR 2 5 rfl) ?_
  refine ok_gR (v := 161) hT rfl (hR 158 5 rfl) ?_
  refine ok_cpI hT rfl rfl (by decide) (by first | omega | decide | (simp only [Int32.le_iff_toInt_le, Int32.lt_iff_toInt_lt, ti_add, ti_sub, ti_mul, Int32.reduceToInt] at *; omega)) (by first | omega | decide | (simp only [Int32.le_iff_toInt_le, Int32.lt_iff_toInt_lt, ti_add, ti_sub, ti_mul, Int32.reduceToInt] at *; omega)) (by first | omega | decide | (simp only [Int32.le_iff_toInt_le, Int32.lt_iff_toInt_lt, ti_add, ti_sub, ti_mul, Int32.reduceToInt] at *; omega)) (by first | omega | decide | (simp only [Int32.le_iff_toInt_le, Int32.lt_iff_toInt_lt, ti_add, ti_sub, ti_mul, Int32.reduceToInt] at *; omega)) (by first | omega | decide | (simp only [Int32.le_iff_toInt_le, Int32.lt_iff_toInt_lt, ti_add, ti_sub, ti_mul, Int32.reduceToInt] at *; omega)) (fun σ15 eσ15 hOσ15 hT => ?_)
  have hW : WI 158 σ15.1 := WI.tr hOσ15 (by decide) (by decide) (by decide) hW
  have hV : WI 2 σ15.1 := WI.tr hOσ15 (by decide) (by decide) (by decide) hV
  refine ok_gR (v := 6) hT rfl (hR 2 6 rfl) ?_
  refine ok_gR (v := 162) hT rfl (hR 158 6 rfl) ?_
  refine ok_cpI hT rfl rfl (by decide) (by first | omega | decide | (simp only [Int32.le_iff_toInt_le, Int32.lt_iff_toInt_lt, ti_add, ti_sub, ti_mul, Int32.reduceToInt] at *; omega)) (by first | omega | decide | (simp only [Int32.le_iff_toInt_le, Int32.lt_iff_toInt_lt, ti_add, ti_sub, ti_mul, Int32.reduceToInt] at *; omega)) (by first | omega | decide | (simp only [Int32.le_iff_toInt_le, Int32.lt_iff_toInt_lt, ti_add, ti_sub, ti_mul, Int32.reduceToInt] at *; omega)) (by first | omega | decide | (simp only [Int32.le_iff_toInt_le, Int32.lt_iff_toInt_lt, ti_add, ti_sub, ti_mul, Int32.reduceToInt] at *; omega)) (by first | omega | decide | (simp only [Int32.le_iff_toInt_le, Int32.lt_iff_toInt_lt, ti_add, ti_sub, ti_mul, Int32.reduceToInt] at *; omega)) (fun σ18 eσ18 hOσ18 hT => ?_)
  have hW : WI 158 σ18.1 := WI.tr hOσ18 (by decide) (by decide) (by decide) hW
  have hV : WI 2 σ18.1 := WI.tr hOσ18 (by decide) (by decide) (by decide) hV
  refine ok_lp (fun t : Int32 × zS => Tr [158, 159, 160, 161, 162] σ0 (t.2) ∧ (0 ≤ (t.1).toInt) ∧ (WI 158 (t.2).1) ∧ (WI 2 (t.2).1)) (fun t : Int32 × zS => ((10 : Int32).toInt - (t.1).toInt).toNat) (fun again19 t hI ih86_19 => ?_) N _ (show Tr [158, 159, 160, 161, 162] σ0 σ18 ∧ (0 ≤ (0 : Int32).toInt) ∧ (WI 158 σ18.1) ∧ (WI 2 σ18.1) from ⟨hT, (by first | omega | decide | (simp only [Int32.le_iff_toInt_le, Int32.lt_iff_toInt_lt, ti_add, ti_sub, ti_mul, Int32.reduceToInt] at *; omega)), hW, hV⟩) (show ((10 : Int32).toInt - (0 : Int32).toInt).toNat < N from (by first | omega | decide | (simp only [Int32.le_iff_toInt_le, Int32.lt_iff_toInt_lt, ti_add, ti_sub, ti_mul, Int32.reduceToInt] at *; omega)))
  obtain ⟨x2_19, σ19⟩ := t
  have hI : Tr [158, 159, 160, 161, 162] σ0 σ19 ∧ (0 ≤ x2_19.toInt) ∧ (WI 158 σ19.1) ∧ (WI 2 σ19.1) := hI
  obtain ⟨hT, hI19, hW, hV⟩ := hI
  rw [F_X10_copyFrom_86.eq_1]
  refine ok_if (fun hc20 => ?_) (fun hc20 => ?_)
  · exact ok_some ⟨hT, (show WI 158 σ19.1 from by exact hW)⟩
  · refine ok_gR (v := 163) hT rfl (hR 158 7 rfl) ?_
    obtain ⟨q23, eq23, kq23⟩ := arrF hR (k := 163) (i := x2_19) rfl (by first | omega | decide | (simp only [Int32.le_iff_toInt_le, Int32.lt_iff_toInt_lt, ti_add, ti_sub, ti_mul, Int32.reduceToInt] at *; omega)) (by first | omega | decide | (simp only [Int32.le_iff_toInt_le, Int32.lt_iff_toInt_lt, ti_add, ti_sub, ti_mul, Int32.reduceToInt] at *; omega))
    refine ok_aR (v := q23) hT rfl (by first | omega | decide | (simp only [Int32.le_iff_toInt_le, Int32.lt_iff_toInt_lt, ti_add, ti_sub, ti_mul, Int32.reduceToInt] at *; omega)) (by first | omega | decide | (simp only [Int32.le_iff_toInt_le, Int32.lt_iff_toInt_lt, ti_add, ti_sub, ti_mul, Int32.reduceToInt] at *; omega)) eq23 ?_
    refine ok_gR (v := 7) hT rfl (hR 2 7 rfl) ?_
    obtain ⟨q26, eq26, kq26⟩ := arrF hR (k := 7) (i := x2_19) rfl (by first | omega | decide | (simp only [Int32.le_iff_toInt_le, Int32.lt_iff_toInt_lt, ti_add, ti_sub, ti_mul, Int32.reduceToInt] at *; omega)) (by first | omega | decide | (simp only [Int32.le_iff_toInt_le, Int32.lt_iff_toInt_lt, ti_add, ti_sub, ti_mul, Int32.reduceToInt] at *; omega))
    refine ok_aR (v := q26) hT rfl (by first | omega | decide | (simp only [Int32.le_iff_toInt_le, Int32.lt_iff_toInt_lt, ti_add, ti_sub, ti_mul, Int32.reduceToInt] at *; omega)) (by first | omega | decide | (simp only [Int32.le_iff_toInt_le, Int32.lt_iff_toInt_lt, ti_add, ti_sub, ti_mul, Int32.reduceToInt] at *; omega)) eq26 ?_
    refine ok_gC kq23 ?_
    refine ok_zbT (Q := fun V σ => True) hT (s_X2_copyFrom hN (hR.tr hT) kq23 kq26) (fun _ h9 => absurd h9 List.not_mem_nil) (fun v27 σ28 hOσ28 hT hqv27 => ?_)
    have hW : WI 158 σ28.1 := WI.tr hOσ28 (by decide) (by decide) (by decide) hW
    have hV : WI 2 σ28.1 := WI.tr hOσ28 (by decide) (by decide) (by decide) hV
    exact ih86_19 (x2_19 + 1, σ28) (show Tr [158, 159, 160, 161, 162] σ0 σ28 ∧ (0 ≤ (x2_19 + 1).toInt) ∧ (WI 158 σ28.1) ∧ (WI 2 σ28.1) from ⟨hT, (by first | omega | decide | (simp only [Int32.le_iff_toInt_le, Int32.lt_iff_toInt_lt, ti_add, ti_sub, ti_mul, Int32.reduceToInt] at *; omega)), hW, hV⟩) (show ((10 : Int32).toInt - (x2_19 + 1).toInt).toNat < ((10 : Int32).toInt - x2_19.toInt).toNat from (by first | omega | decide | (simp only [Int32.le_iff_toInt_le, Int32.lt_iff_toInt_lt, ti_add, ti_sub, ti_mul, Int32.reduceToInt] at *; omega)))

set_option maxHeartbeats 4000000 in
set_option maxRecDepth 100000 in
theorem s_X10_copyFrom_2_184 {N : Nat} (hN : 1048576 ≤ N)  {σ0 : zS}  (hR : RF σ0.2.2) (hW : WI 2 σ0.1) (hV : WI 184 σ0.1) : Ok (f_X10_copyFrom N 2 184 σ0) (fun r => Tr [2, 3, 4, 5, 6] σ0 r.2 ∧ (WI 2 r.2.1)) := by
  have hT : Tr [2, 3, 4, 5, 6] σ0 σ0 := Tr.rf
  rw [f_X10_copyFrom.eq_1]
  refine ok_gIv rfl rfl ?_
  refine ok_pI hT rfl (by decide) (fun σ2 eσ2 hOσ2 hT => ?_)
  have hW : WI 2 σ2.1 := WI_p0 eσ2 (hV).1 hW
  have hV : WI 184 σ2.1 := WI.tr hOσ2 (by decide) (by decide) (by decide) hV
  refine ok_gIv rfl rfl ?_
  refine ok_pI hT rfl (by decide) (fun σ4 eσ4 hOσ4 hT => ?_)
  have hW : WI 2 σ4.1 := WI_p1 eσ4 hW
  have hV : WI 184 σ4.1 := WI.tr hOσ4 (by decide) (by decide) (by decide) hV
  refine ok_gIv rfl rfl ?_
  refine ok_pI hT rfl (by decide) (fun σ6 eσ6 hOσ6 hT => ?_)
  have hW : WI 2 σ6.1 := WI_p2 eσ6 (hV).2.1 hW
  have hV : WI 184 σ6.1 := WI.tr hOσ6 (by decide) (by decide) (by decide) hV
  refine ok_gR (v := 185) hT rfl (hR 184 3 rfl) ?_
  refine ok_gR (v := 3) hT rfl (hR 2 3 rfl) ?_
  refine ok_cpI hT rfl rfl (by decide) (by first | omega | decide | (simp only [Int32.le_iff_toInt_le, Int32.lt_iff_toInt_lt, ti_add, ti_sub, ti_mul, Int32.reduceToInt] at *; omega)) (by first | omega | decide | (simp only [Int32.le_iff_toInt_le, Int32.lt_iff_toInt_lt, ti_add, ti_sub, ti_mul, Int32.reduceToInt] at *; omega)) (by first | omega | decide | (simp only [Int32.le_iff_toInt_le, Int32.lt_iff_toInt_lt, ti_add, ti_sub, ti_mul, Int32.reduceToInt] at *; omega)) (by first | omega | decide | (simp only [Int32.le_iff_toInt_le, Int32.lt_iff_toInt_lt, ti_add, ti_sub, ti_mul, Int32.reduceToInt] at *; omega)) (by first | omega | decide | (simp only [Int32.le_iff_toInt_le, Int32.lt_iff_toInt_lt, ti_add, ti_sub, ti_mul, Int32.reduceToInt] at *; omega)) (fun σ9 eσ9 hOσ9 hT => ?_)
  have hW : WI 2 σ9.1 := WI_c1 (B := 2) (C := 184) eσ9 hV hW
  have hV : WI 184 σ9.1 := WI.tr hOσ9 (by decide) (by decide) (by decide) hV
  refine ok_gR (v := 186) hT rfl (hR 184 4 rfl) ?_
  refine ok_gR (v := 4) hT rfl (hR 2 4 rfl) ?_
  refine ok_cpI hT rfl rfl (by decide) (by first | omega | decide | (simp only [Int32.le_iff_toInt_le, Int32.lt_iff_toInt_lt, ti_add, ti_sub, ti_mul, Int32.reduceToInt] at *; omega)) (by first | omega | decide | (simp only [Int32.le_iff_toInt_le, Int32.lt_iff_toInt_lt, ti_add, ti_sub, ti_mul, Int32.reduceToInt] at *; omega)) (by first | omega | decide | (simp only [Int32.le_iff_toInt_le, Int32.lt_iff_toInt_lt, ti_add, ti_sub, ti_mul, Int32.reduceToInt] at *; omega)) (by first | omega | decide | (simp only [Int32.le_iff_toInt_le, Int32.lt_iff_toInt_lt, ti_add, ti_sub, ti_mul, Int32.reduceToInt] at *; omega)) (by first | omega | decide | (simp only [Int32.le_iff_toInt_le, Int32.lt_iff_toInt_lt, ti_add, ti_sub, ti_mul, Int32.reduceToInt] at *; omega)) (fun σ12 eσ12 hOσ12 hT => ?_)
  have hW : WI 2 σ12.1 := WI_c2 (B := 2) (C := 184) eσ12 hV hW
  have hV : WI 184 σ12.1 := WI.tr hOσ12 (by decide) (by decide) (by decide) hV
  refine ok_gR (v := 187) hT rfl (hR 184 5 rfl) ?_
  refine ok_gR (v := 5) hT rfl (hR 2 5 rfl) ?_
  refine ok_cpI hT rfl rfl (by decide) (by first | omega | decide | (simp only [Int32.le_iff_toInt_le, Int32.lt_iff_toInt_lt, ti_add, ti_sub, ti_mul, Int32.reduceToInt] at *; omega)) (by first | omega | decide | (simp only [Int32.le_iff_toInt_le, Int32.lt_iff_toInt_lt, ti_add, ti_sub, ti_mul, Int32.reduceToInt] at *; omega)) (by first | omega | decide | (simp only [Int32.le_iff_toInt_le, Int32.lt_iff_toInt_lt, ti_add, ti_sub, ti_mul, Int32.reduceToInt] at *; omega)) (by first | omega | decide | (simp only [Int32.le_iff_toInt_le, Int32.lt_iff_toInt_lt, ti_add, ti_sub, ti_mul, Int32.reduceToInt] at *; omega)) (by first | omega | decide | (simp only [Int32.le_iff_toInt_le, Int32.lt_iff_toInt_lt, ti_add, ti_sub, ti_mul, Int32.reduceToInt] at *; omega)) (fun σ15 eσ15 hOσ15 hT => ?_)
  have hW : WI 2 σ15.1 := WI.tr hOσ15 (by decide) (by decide) (by decide) hW
  have hV : WI 184 σ15.1 := WI.tr hOσ15 (by decide) (by decide) (by decide) hV
  refine ok_gR (v := 188) hT rfl (hR 184 6 rfl) ?_
  refine ok_gR (v := 6) hT rfl (hR 2 6 rfl) ?_
  refine ok_cpI hT rfl rfl (by decide) (by first | omega | decide | (simp only [Int32.le_iff_toInt_le, Int32.lt_iff_toInt_lt, ti_add, ti_sub, ti_mul, Int32.reduceToInt] at *; omega)) (by first | omega | decide | (simp only [Int32.le_iff_toInt_le, Int32.lt_iff_toInt_lt, ti_add, ti_sub, ti_mul, Int32.reduceToInt] at *; omega)) (by first | omega | decide | (simp only [Int32.le_iff_toInt_le, Int32.lt_iff_toInt_lt, ti_add, ti_sub, ti_mul, Int32.reduceToInt] at *; omega)) (by first | omega | decide | (simp only [Int32.le_iff_toInt_le, Int32.lt_iff_toInt_lt, ti_add, ti_sub, ti_mul, Int32.reduceToInt] at *; omega)) (by first | omega | decide | (simp only [Int32.le_iff_toInt_le, Int32.lt_iff_toInt_lt, ti_add, ti_sub, ti_mul, Int32.reduceToInt] at *; omega)) (fun σ18 eσ18 hOσ18 hT => ?_)
  have hW : WI 2 σ18.1 := WI.tr hOσ18 (by decide) (by decide) (by decide) hW
  have hV : WI 184 σ18.1 := WI.tr hOσ18 (by decide) (by decide) (by decide) hV
  refine ok_lp (fun t : Int32 × zS => Tr [2, 3, 4, 5, 6] σ0 (t.2) ∧ (0 ≤ (t.1).toInt) ∧ (WI 2 (t.2).1) ∧ (WI 184 (t.2).1)) (fun t : Int32 × zS => ((10 : Int32).toInt - (t.1).toInt).toNat) (fun again19 t hI ih86_19 => ?_) N _ (show Tr [2, 3, 4, 5, 6] σ0 σ18 ∧ (0 ≤ (0 : Int32).toInt) ∧ (WI 2 σ18.1) ∧ (WI 184 σ18.1) from ⟨hT, (by first | omega | decide | (simp only [Int32.le_iff_toInt_le, Int32.lt_iff_toInt_lt, ti_add, ti_sub, ti_mul, Int32.reduceToInt] at *; omega)), hW, hV⟩) (show ((10 : Int32).toInt - (0 : Int32).toInt).toNat < N from (by first | omega | decide | (simp only [Int32.le_iff_toInt_le, Int32.lt_iff_toInt_lt, ti_add, ti_sub, ti_mul, Int32.reduceToInt] at *; omega)))
  obtain ⟨x2_19, σ19⟩ := t
  have hI : Tr [2, 3, 4, 5, 6] σ0 σ19 ∧ (0 ≤ x2_19.toInt) ∧ (WI 2 σ19.1) ∧ (WI 184 σ19.1) := hI
  obtain ⟨hT, hI19, hW, hV⟩ := hI
  rw [F_X10_copyFrom_86.eq_1]
  refine ok_if (fun hc20 => ?_) (fun hc20 => ?_)
  · exact ok_some ⟨hT, (show WI 2 σ19.1 from by exact hW)⟩
  · refine ok_gR (v := 7) hT rfl (hR 2 7 rfl) ?_
    obtain ⟨q23, eq23, kq23⟩ := arrF hR (k := 7) (i := x2_19) rfl (by first | omega | decide | (simp only [Int32.le_iff_toInt_le, Int32.lt_iff_toInt_lt, ti_add, ti_sub, ti_mul, Int32.reduceToInt] at *; omega)) (by first | omega | decide | (simp only [Int32.le_iff_toInt_le, Int32.lt_iff_toInt_lt, ti_add, ti_sub, ti_mul, Int32.reduceToInt] at *; omega))
    refine ok_aR (v := q23) hT rfl (by first | omega | decide | (simp only [Int32.le_iff_toInt_le, Int32.lt_iff_toInt_lt, ti_add, ti_sub, ti_mul, Int32.reduceToInt] at *; omega)) (by first | omega | decide | (simp only [Int32.le_iff_toInt_le, Int32.lt_iff_toInt_lt, ti_add, ti_sub, ti_mul, Int32.reduceToInt] at *; omega)) eq23 ?_
    refine ok_gR (v := 189) hT rfl (hR 184 7 rfl) ?_
    obtain ⟨q26, eq26, kq26⟩ := arrF hR (k := 189) (i := x2_19) rfl (by first | omega | decide | (simp only [Int32.le_iff_toInt_le, Int32.lt_iff_toInt_lt, ti_add, ti_sub, ti_mul, Int32.reduceToInt] at *; omega)) (by first | omega | decide | (simp only [Int32.le_iff_toInt_le, Int32.lt_iff_toInt_lt, ti_add, ti_sub, ti_mul, Int32.reduceToInt] at *; omega))
    refine ok_aR (v := q26) hT rfl (by first | omega | decide | (simp only [Int32.le_iff_toInt_le, Int32.lt_iff_toInt_lt, ti_add, ti_sub, ti_mul, Int32.reduceToInt] at *; omega)) (by first | omega | decide | (simp only [Int32.le_iff_toInt_le, Int32.lt_iff_toInt_lt, ti_add, ti_sub, ti_mul, Int32.reduceToInt] at *; omega)) eq26 ?_
    refine ok_gC kq23 ?_
    refine ok_zbT (Q := fun V σ => True) hT (s_X2_copyFrom hN (hR.tr hT) kq23 kq26) (fun _ h9 => absurd h9 List.not_mem_nil) (fun v27 σ28 hOσ28 hT hqv27 => ?_)
    have hW : WI 2 σ28.1 := WI.tr hOσ28 (by decide) (by decide) (by decide) hW
    have hV : WI 184 σ28.1 := WI.tr hOσ28 (by decide) (by decide) (by decide) hV
    exact ih86_19 (x2_19 + 1, σ28) (show Tr [2, 3, 4, 5, 6] σ0 σ28 ∧ (0 ≤ (x2_19 + 1).toInt) ∧ (WI 2 σ28.1) ∧ (WI 184 σ28.1) from ⟨hT, (by first | omega | decide | (simp only [Int32.le_iff_toInt_le, Int32.lt_iff_toInt_lt, ti_add, ti_sub, ti_mul, Int32.reduceToInt] at *; omega)), hW, hV⟩) (show ((10 : Int32).toInt - (x2_19 + 1).toInt).toNat < ((10 : Int32).toInt - x2_19.toInt).toNat from (by first | omega | decide | (simp only [Int32.le_iff_toInt_le, Int32.lt_iff_toInt_lt, ti_add, ti_sub, ti_mul, Int32.reduceToInt] at *; omega)))

set_option maxHeartbeats 4000000 in
set_option maxRecDepth 100000 in
theorem s_X10_copyFrom_184_2 {N : Nat} (hN : 1048576 ≤ N)  {σ0 : zS}  (hR : RF σ0.2.2) (hW : WI 184 σ0.1) (hV : WI 2 σ0.1) : Ok (f_X10_copyFrom N 184 2 σ0) (fun r => Tr [184, 185, 186, 187, 188] σ0 r.2 ∧ (WI 184 r.2.1)) := by
  have hT : Tr [184, 185, 186, 187, 188] σ0 σ0 := Tr.rf
  rw [f_X10_copyFrom.eq_1]
  refine ok_gIv rfl rfl ?_
  refine ok_pI hT rfl (by decide) (fun σ2 eσ2 hOσ2 hT => ?_)
  have hW : WI 184 σ2.1 := WI_p0 eσ2 (hV).1 hW
  have hV : WI 2 σ2.1 := WI.tr hOσ2 (by decide) (by decide) (by decide) hV
  refine ok_gIv rfl rfl ?_
  refine ok_pI hT rfl (by decide) (fun σ4 eσ4 hOσ4 hT => ?_)
  have hW : WI 184 σ4.1 := WI_p1 eσ4 hW
  have hV : WI 2 σ4.1 := WI.tr hOσ4 (by decide) (by decide) (by decide) hV
  refine ok_gIv rfl rfl ?_
  refine ok_pI hT rfl (by decide) (fun σ6 eσ6 hOσ6 hT => ?_)
  have hW : WI 184 σ6.1 := WI_p2 eσ6 (hV).2.1 hW
  have hV : WI 2 σ6.1 := WI.tr hOσ6 (by decide) (by decide) (by decide) hV
  refine ok_gR (v := 3) hT rfl (hR 2 3 rfl) ?_
  refine ok_gR (v := 185) hT rfl (hR 184 3 rfl) ?_
  refine ok_cpI hT rfl rfl (by decide) (by first | omega | decide | (simp only [Int32.le_iff_toInt_le, Int32.lt_iff_toInt_lt, ti_add, ti_sub, ti_mul, Int32.reduceToInt] at *; omega)) (by first | omega | decide | (simp only [Int32.le_iff_toInt_le, Int32.lt_iff_toInt_lt, ti_add, ti_sub, ti_mul, Int32.reduceToInt] at *; omega)) (by first | omega | decide | (simp only [Int32.le_iff_toInt_le, Int32.lt_iff_toInt_lt, ti_add, ti_sub, ti_mul, Int32.reduceToInt] at *; omega)) (by first | omega | decide | (simp only [Int32.le_iff_toInt_le, Int32.lt_iff_toInt_lt, ti_add, ti_sub, ti_mul, Int32.reduceToInt] at *; omega)) (by first | omega | decide | (simp only [Int32.le_iff_toInt_le, Int32.lt_iff_toInt_lt, ti_add, ti_sub, ti_mul, Int32.reduceToInt] at *; omega)) (fun σ9 eσ9 hOσ9 hT => ?_)
  have hW : WI 184 σ9.1 := WI_c1 (B := 184) (C := 2) eσ9 hV hW
  have hV : WI 2 σ9.1 := WI.tr hOσ9 (by decide) (by decide) (by decide) hV
  refine ok_gR (v := 4) hT rfl (hR 2 4 rfl) ?_
  refine ok_gR (v := 186) hT rfl (hR 184 4 rfl) ?_
  refine ok_cpI hT rfl rfl (by decide) (by first | omega | decide | (simp only [Int32.le_iff_toInt_le, Int32.lt_iff_toInt_lt, ti_add, ti_sub, ti_mul, Int32.reduceToInt] at *; omega)) (by first | omega | decide | (simp only [Int32.le_iff_toInt_le, Int32.lt_iff_toInt_lt, ti_add, ti_sub, ti_mul, Int32.reduceToInt] at *; omega)) (by first | omega | decide | (simp only [Int32.le_iff_toInt_le, Int32.lt_iff_toInt_lt, ti_add, ti_sub, ti_mul, Int32.reduceToInt] at *; omega)) (by first | omega | decide | (simp only [Int32.le_iff_toInt_le, Int32.lt_iff_toInt_lt, ti_add, ti_sub, ti_mul, Int32.reduceToInt] at *; omega)) (by first | omega | decide | (simp only [Int32.le_iff_toInt_le, Int32.lt_iff_toInt_lt, ti_add, ti_sub, ti_mul, Int32.reduceToInt] at *; omega)) (fun σ12 eσ12 hOσ12 hT => ?_)
  have hW : WI 184 σ12.1 := WI_c2 (B := 184) (C := 2) eσ12 hV hW
  have hV : WI 2 σ12.1 := WI.tr hOσ12 (by decide) (by decide) (by decide) hV
  refine ok_gR (v := 5) hT rfl (hR 2 5 rfl) ?_
  refine ok_gR (v := 187) hT rfl (hR 184 5 rfl) ?_
  refine ok_cpI hT rfl rfl (by decide) (by first | omega | decide | (simp only [Int32.le_iff_toInt_le, Int32.lt_iff_toInt_lt, ti_add, ti_sub, ti_mul, Int32.reduceToInt] at *; omega)) (by first | omega | decide | (simp only [Int32.le_iff_toInt_le, Int32.lt_iff_toInt_lt, ti_add, ti_sub, ti_mul, Int32.reduceToInt] at *; omega)) (by first | omega | decide | (simp only [Int32.le_iff_toInt_le, Int32.lt_iff_toInt_lt, ti_add, ti_sub, ti_mul, Int32.reduceToInt] at *; omega)) (by first | omega | decide | (simp only [Int32.le_iff_toInt_le, Int32.lt_iff_toInt_lt, ti_add, ti_sub, ti_mul, Int32.reduceToInt] at *; omega)) (by first | omega | decide | (simp only [Int32.le_iff_toInt_le, Int32.lt_iff_toInt_lt, ti_add, ti_sub, ti_mul, Int32.reduceToInt] at *; omega)) (fun σ15 eσ15 hOσ15 hT => ?_)
  have hW : WI 184 σ15.1 := WI.tr hOσ15 (by decide) (by decide) (by decide) hW
  have hV : WI 2 σ15.1 := WI.tr hOσ15 (by decide) (by decide) (by decide) hV
  refine ok_gR (v := 6) hT rfl (hR 2 6 rfl) ?_
  refine ok_gR (v := 188) hT rfl (hR 184 6 rfl) ?_
  refine ok_cpI hT rfl rfl (by decide) (by first | omega | decide | (simp only [Int32.le_iff_toInt_le, Int32.lt_iff_toInt_lt, ti_add, ti_sub, ti_mul, Int32.reduceToInt] at *; omega)) (by first | omega | decide | (simp only [Int32.le_iff_toInt_le, Int32.lt_iff_toInt_lt, ti_add, ti_sub, ti_mul, Int32.reduceToInt] at *; omega)) (by first | omega | decide | (simp only [Int32.le_iff_toInt_le, Int32.lt_iff_toInt_lt, ti_add, ti_sub, ti_mul, Int32.reduceToInt] at *; omega)) (by first | omega | decide | (simp only [Int32.le_iff_toInt_le, Int32.lt_iff_toInt_lt, ti_add, ti_sub, ti_mul, Int32.reduceToInt] at *; omega)) (by first | omega | decide | (simp only [Int32.le_iff_toInt_le, Int32.lt_iff_toInt_lt, ti_add, ti_sub, ti_mul, Int32.reduceToInt] at *; omega)) (fun σ18 eσ18 hOσ18 hT => ?_)
  have hW : WI 184 σ18.1 := WI.tr hOσ18 (by decide) (by decide) (by decide) hW
  have hV : WI 2 σ18.1 := WI.tr hOσ18 (by decide) (by decide) (by decide) hV
  refine ok_lp (fun t : Int32 × zS => Tr [184, 185, 186, 187, 188] σ0 (t.2) ∧ (0 ≤ (t.1).toInt) ∧ (WI 184 (t.2).1) ∧ (WI 2 (t.2).1)) (fun t : Int32 × zS => ((10 : Int32).toInt - (t.1).toInt).toNat) (fun again19 t hI ih86_19 => ?_) N _ (show Tr [184, 185, 186, 187, 188] σ0 σ18 ∧ (0 ≤ (0 : Int32).toInt) ∧ (WI 184 σ18.1) ∧ (WI 2 σ18.1) from ⟨hT, (by first | omega | decide | (simp only [Int32.le_iff_toInt_le, Int32.lt_iff_toInt_lt, ti_add, ti_sub, ti_mul, Int32.reduceToInt] at *; omega)), hW, hV⟩) (show ((10 : Int32).toInt - (0 : Int32).toInt).toNat < N from (by first | omega | decide | (simp only [Int32.le_iff_toInt_le, Int32.lt_iff_toInt_lt, ti_add, ti_sub, ti_mul, Int32.reduceToInt] at *; omega)))
  obtain ⟨x2_19, σ19⟩ := t
  have hI : Tr [184, 185, 186, 187, 188] σ0 σ19 ∧ (0 ≤ x2_19.toInt) ∧ (WI 184 σ19.1) ∧ (WI 2 σ19.1) := hI
  obtain ⟨hT, hI19, hW, hV⟩ := hI
  rw [F_X10_copyFrom_86.eq_1]
  refine ok_if (fun hc20 => ?_) (fun hc20 => ?_)
  · exact ok_some ⟨hT, (show WI 184 σ19.1 from by exact hW)⟩
  · refine ok_gR (v := 189) hT rfl (hR 184 7 rfl) ?_
    obtain ⟨q23, eq23, kq23⟩ := arrF hR (k := 189) (i := x2_19) rfl (by first | omega | decide | (simp only [Int32.le_iff_toInt_le, Int32.lt_iff_toInt_lt, ti_add, ti_sub, ti_mul, Int32.reduceToInt] at *; omega)) (by first | omega | decide | (simp only [Int32.le_iff_toInt_le, Int32.lt_iff_toInt_lt, ti_add, ti_sub, ti_mul, Int32.reduceToInt] at *; omega))
    refine ok_aR (v := q23) hT rfl (by first | omega | decide | (simp only [Int32.le_iff_toInt_le, Int32.lt_iff_toInt_lt, ti_add, ti_sub, ti_mul, Int32.reduceToInt] at *; omega)) (by first | omega | decide | (simp only [Int32.le_iff_toInt_le, Int32.lt_iff_toInt_lt, ti_add, ti_sub, ti_mul, Int32.reduceToInt] at *; omega)) eq23 ?_
    refine ok_gR (v := 7) hT rfl (hR 2 7 rfl) ?_
    obtain ⟨q26, eq26, kq26⟩ := arrF hR (k := 7) (i := x2_19) rfl (by first | omega | decide | (simp only [Int32.le_iff_toInt_le, Int32.lt_iff_toInt_lt, ti_add, ti_sub, ti_mul, Int32.reduceToInt] at *; omega)) (by first | omega | decide | (simp only [Int32.le_iff_toInt_le, Int32.lt_iff_toInt_lt, ti_add, ti_sub, ti_mul, Int32.reduceToInt] at *; omega))
    refine ok_aR (v := q26) hT rfl (by first | omega | decide | (simp only [Int32.le_iff_toInt_le, Int32.lt_iff_toInt_lt, ti_add, ti_sub, ti_mul, Int32.reduceToInt] at *; omega)) (by first | omega | decide | (simp only [Int32.le_iff_toInt_le, Int32.lt_iff_toInt_lt, ti_add, ti_sub, ti_mul, Int32.reduceToInt] at *; omega)) eq26 ?_
    refine ok_gC kq23 ?_
    refine ok_zbT (Q := fun V σ => True) hT (s_X2_copyFrom hN (hR.tr hT) kq23 kq26) (fun _ h9 => absurd h9 List.not_mem_nil) (fun v27 σ28 hOσ28 hT hqv27 => ?_)
    have hW : WI 184 σ28.1 := WI.tr hOσ28 (by decide) (by decide) (by decide) hW
    have hV : WI 2 σ28.1 := WI.tr hOσ28 (by decide) (by decide) (by decide) hV
    exact ih86_19 (x2_19 + 1, σ28) (show Tr [184, 185, 186, 187, 188] σ0 σ28 ∧ (0 ≤ (x2_19 + 1).toInt) ∧ (WI 184 σ28.1) ∧ (WI 2 σ28.1) from ⟨hT, (by first | omega | decide | (simp only [Int32.le_iff_toInt_le, Int32.lt_iff_toInt_lt, ti_add, ti_sub, ti_mul, Int32.reduceToInt] at *; omega)), hW, hV⟩) (show ((10 : Int32).toInt - (x2_19 + 1).toInt).toNat < ((10 : Int32).toInt - x2_19.toInt).toNat from (by first | omega | decide | (simp only [Int32.le_iff_toInt_le, Int32.lt_iff_toInt_lt, ti_add, ti_sub, ti_mul, Int32.reduceToInt] at *; omega)))

set_option maxHeartbeats 4000000 in
set_option maxRecDepth 100000 in
theorem s_X10_clear_28 {N : Nat} (hN : 1048576 ≤ N)  {σ0 : zS}  (hR : RF σ0.2.2) (hW : WI 28 σ0.1) : Ok (f_X10_clear N 28 σ0) (fun r => Tr [28, 31, 32] σ0 r.2 ∧ (WI 28 r.2.1)) := by
  have hT : Tr [28, 31, 32] σ0 σ0 := Tr.rf
  rw [f_X10_clear.eq_1]
  refine ok_pI hT rfl (by decide) (fun σ1 eσ1 hOσ1 hT => ?_)
  have hW : WI 28 σ1.1 := WI_p0 eσ1 (by decide) hW
  refine ok_pI hT rfl (by decide) (fun σ2 eσ2 hOσ2 hT => ?_)
  have hW : WI 28 σ2.1 := WI_p1 eσ2 hW
  refine ok_pI hT rfl (by decide) (fun σ3 eσ3 hOσ3 hT => ?_)
  have hW : WI 28 σ3.1 := WI_p2 eσ3 (by decide) hW
  refine ok_lp (fun t : Int32 × zS => Tr [28, 31, 32] σ0 (t.2) ∧ (0 ≤ (t.1).toInt) ∧ (WI 28 (t.2).1)) (fun t : Int32 × zS => ((10 : Int32).toInt - (t.1).toInt).toNat) (fun again4 t hI ih17_4 => ?_) N _ (show Tr [28, 31, 32] σ0 σ3 ∧ (0 ≤ (0 : Int32).toInt) ∧ (WI 28 σ3.1) from ⟨hT, (by first | omega | decide | (simp only [Int32.le_iff_toInt_le, Int32.lt_iff_toInt_lt, ti_add, ti_sub, ti_mul, Int32.reduceToInt] at *; omega)), hW⟩) (show ((10 : Int32).toInt - (0 : Int32).toInt).toNat < N from (by first | omega | decide | (simp only [Int32.le_iff_toInt_le, Int32.lt_iff_toInt_lt, ti_add, ti_sub, ti_mul, Int32.reduceToInt] at *; omega)))
  obtain ⟨x1_4, σ4⟩ := t
  have hI : Tr [28, 31, 32] σ0 σ4 ∧ (0 ≤ x1_4.toInt) ∧ (WI 28 σ4.1) := hI
  obtain ⟨hT, hI4, hW⟩ := hI
  rw [F_X10_clear_17.eq_1]
  refine ok_if (fun hc5 => ?_) (fun hc5 => ?_)
  · refine ok_lp (fun t : Int32 × zS => Tr [28, 31, 32] σ0 (t.2) ∧ (0 ≤ (t.1).toInt) ∧ (WI 28 (t.2).1)) (fun t : Int32 × zS => ((10 : Int32).toInt - (t.1).toInt).toNat) (fun again6 t hI ih45_6 => ?_) N _ (show Tr [28, 31, 32] σ0 σ4 ∧ (0 ≤ (0 : Int32).toInt) ∧ (WI 28 σ4.1) from ⟨hT, (by first | omega | decide | (simp only [Int32.le_iff_toInt_le, Int32.lt_iff_toInt_lt, ti_add, ti_sub, ti_mul, Int32.reduceToInt] at *; omega)), hW⟩) (show ((10 : Int32).toInt - (0 : Int32).toInt).toNat < N from (by first | omega | decide | (simp only [Int32.le_iff_toInt_le, Int32.lt_iff_toInt_lt, ti_add, ti_sub, ti_mul, Int32.reduceToInt] at *; omega)))
    obtain ⟨x1_6, σ6⟩ := t
    have hI : Tr [28, 31, 32] σ0 σ6 ∧ (0 ≤ x1_6.toInt) ∧ (WI 28 σ6.1) := hI
    obtain ⟨hT, hI6, hW⟩ := hI
    rw [F_X10_clear_45.eq_1]
    refine ok_if (fun hc7 => ?_) (fun hc7 => ?_)
    · exact ok_some ⟨hT, (show WI 28 σ6.1 from by exact hW)⟩
    · refine ok_gR (v := 33) hT rfl (hR 28 7 rfl) ?_
      obtain ⟨q10, eq10, kq10⟩ := arrF hR (k := 33) (i := x1_6) rfl (by first | omega | decide | (simp only [Int32.le_iff_toInt_le, Int32.lt_iff_toInt_lt, ti_add, ti_sub, ti_mul, Int32.reduceToInt] at *; omega)) (by first | omega | decide | (simp only [Int32.le_iff_toInt_le, Int32.lt_iff_toInt_lt, ti_add, ti_sub, ti_mul, Int32.reduceToInt] at *; omega))
      refine ok_aR (v := q10) hT rfl (by first | omega | decide | (simp only [Int32.le_iff_toInt_le, Int32.lt_iff_toInt_lt, ti_add, ti_sub, ti_mul, Int32.reduceToInt] at *; omega)) (by first | omega | decide | (simp only [Int32.le_iff_toInt_le, Int32.lt_iff_toInt_lt, ti_add, ti_sub, ti_mul, Int32.reduceToInt] at *; omega)) eq10 ?_
      refine ok_gC kq10 ?_
      refine ok_zbT (Q := fun V σ => True) hT (s_X2_clear hN (hR.tr hT) kq10) (fun _ h9 => absurd h9 List.not_mem_nil) (fun v11 σ12 hOσ12 hT hqv11 => ?_)
      have hW : WI 28 σ12.1 := WI.tr hOσ12 (by decide) (by decide) (by decide) hW
      exact ih45_6 (x1_6 + 1, σ12) (show Tr [28, 31, 32] σ0 σ12 ∧ (0 ≤ (x1_6 + 1).toInt) ∧ (WI 28 σ12.1) from ⟨hT, (by first | omega | decide | (simp only [Int32.le_iff_toInt_le, Int32.lt_iff_toInt_lt, ti_add, ti_sub, ti_mul, Int32.reduceToInt] at *; omega)), hW⟩) (show ((10 : Int32).toInt - (x1_6 + 1).toInt).toNat < ((10 : Int32).toInt - x1_6.toInt).toNat from (by first | omega | decide | (simp only [Int32.le_iff_toInt_le, Int32.lt_iff_toInt_lt, ti_add, ti_sub, ti_mul, Int32.reduceToInt] at *; omega)))
  · refine ok_gR (v := 31) hT rfl (hR 28 5 rfl) ?_
    refine ok_s14 hT rfl (by decide) (by first | omega | decide | (simp only [Int32.le_iff_toInt_le, Int32.lt_iff_toInt_lt, ti_add, ti_sub, ti_mul, Int32.reduceToInt] at *; omega)) (by first | omega | decide | (simp only [Int32.le_iff_toInt_le, Int32.lt_iff_toInt_lt, ti_add, ti_sub, ti_mul, Int32.reduceToInt] at *; omega)) (fun σ14 eσ14 hOσ14 hT => ?_)
    have hW : WI 28 σ14.1 := WI.tr hOσ14 (by decide) (by decide) (by decide) hW
    refine ok_gR (v := 32) hT rfl (hR 28 6 rfl) ?_
    refine ok_s14 hT rfl (by decide) (by first | omega | decide | (simp only [Int32.le_iff_toInt_le, Int32.lt_iff_toInt_lt, ti_add, ti_sub, ti_mul, Int32.reduceToInt] at *; omega)) (by first | omega | decide | (simp only [Int32.le_iff_toInt_le, Int32.lt_iff_toInt_lt, ti_add, ti_sub, ti_mul, Int32.reduceToInt] at *; omega)) (fun σ16 eσ16 hOσ16 hT => ?_)
    have hW : WI 28 σ16.1 := WI.tr hOσ16 (by decide) (by decide) (by decide) hW
    exact ih17_4 (x1_4 + 1, σ16) (show Tr [28, 31, 32] σ0 σ16 ∧ (0 ≤ (x1_4 + 1).toInt) ∧ (WI 28 σ16.1) from ⟨hT, (by first | omega | decide | (simp only [Int32.le_iff_toInt_le, Int32.lt_iff_toInt_lt, ti_add, ti_sub, ti_mul, Int32.reduceToInt] at *; omega)), hW⟩) (show ((10 : Int32).toInt - (x1_4 + 1).toInt).toNat < ((10 : Int32).toInt - x1_4.toInt).toNat from (by first | omega | decide | (simp only [Int32.le_iff_toInt_le, Int32.lt_iff_toInt_lt, ti_add, ti_sub, ti_mul, Int32.reduceToInt] at *; omega)))

set_option maxHeartbeats 4000000 in
set_option maxRecDepth 100000 in
theorem s_X10_copyFrom_28_132 {N : Nat} (hN : 1048576 ≤ N)  {σ0 : zS}  (hR : RF σ0.2.2) (hW : WI 28 σ0.1) (hV : WI 132 σ0.1) : Ok (f_X10_copyFrom N 28 132 σ0) (fun r => Tr [28, 29, 30, 31, 32] σ0 r.2 ∧ (WI 28 r.2.1)) := by
  have hT : Tr [28, 29, 30, 31, 32] σ0 σ0 := Tr.rf
  rw [f_X10_copyFrom.eq_1]
  refine ok_gIv rfl rfl ?_
  refine ok_pI hT rfl (by decide) (fun σ2 eσ2 hOσ2 hT => ?_)
  have hW : WI 28 σ2.1 := WI_p0 eσ2 (hV).1 hW
  have hV : WI 132 σ2.1 := WI.tr hOσ2 (by decide) (by decide) (by decide) hV
  refine ok_gIv rfl rfl ?_
  refine ok_pI hT rfl (by decide) (fun σ4 eσ4 hOσ4 hT => ?_)
  have hW : WI 28 σ4.1 := WI_p1 eσ4 hW
  have hV : WI 132 σ4.1 := WI.tr hOσ4 (by decide) (by decide) (by decide) hV
  refine ok_gIv rfl rfl ?_
  refine ok_pI hT rfl (by decide) (fun σ6 eσ6 hOσ6 hT => ?_)
  have hW : WI 28 σ6.1 := WI_p2 eσ6 (hV).2.1 hW
  have hV : WI 132 σ6.1 := WI.tr hOσ6 (by decide) (by decide) (by decide) hV
  refine ok_gR (v := 133) hT rfl (hR 132 3 rfl) ?_
  refine ok_gR (v := 29) hT rfl (hR 28 3 rfl) ?_
  refine ok_cpI hT rfl rfl (by decide) (by first | omega | decide | (simp only [Int32.le_iff_toInt_le, Int32.lt_iff_toInt_lt, ti_add, ti_sub, ti_mul, Int32.reduceToInt] at *; omega)) (by first | omega | decide | (simp only [Int32.le_iff_toInt_le, Int32.lt_iff_toInt_lt, ti_add, ti_sub, ti_mul, Int32.reduceToInt] at *; omega)) (by first | omega | decide | (simp only [Int32.le_iff_toInt_le, Int32.lt_iff_toInt_lt, ti_add, ti_sub, ti_mul, Int32.reduceToInt] at *; omega)) (by first | omega | decide | (simp only [Int32.le_iff_toInt_le, Int32.lt_iff_toInt_lt, ti_add, ti_sub, ti_mul, Int32.reduceToInt] at *; omega)) (by first | omega | decide | (simp only [Int32.le_iff_toInt_le, Int32.lt_iff_toInt_lt, ti_add, ti_sub, ti_mul, Int32.reduceToInt] at *; omega)) (fun σ9 eσ9 hOσ9 hT => ?_)
  have hW : WI 28 σ9.1 := WI_c1 (B := 28) (C := 132) eσ9 hV hW
  have hV : WI 132 σ9.1 := WI.tr hOσ9 (by decide) (by decide) (by decide) hV
  refine ok_gR (v := 134) hT rfl (hR 132 4 rfl) ?_
  refine ok_gR (v := 30) hT rfl (hR 28 4 rfl) ?_
  refine ok_cpI hT rfl rfl (by decide) (by first | omega | decide | (simp only [Int32.le_iff_toInt_le, Int32.lt_iff_toInt_lt, ti_add, ti_sub, ti_mul, Int32.reduceToInt] at *; omega)) (by first | omega | decide | (simp only [Int32.le_iff_toInt_le, Int32.lt_iff_toInt_lt, ti_add, ti_sub, ti_mul, Int32.reduceToInt] at *; omega)) (by first | omega | decide | (simp only [Int32.le_iff_toInt_le, Int32.lt_iff_toInt_lt, ti_add, ti_sub, ti_mul, Int32.reduceToInt] at *; omega)) (by first | omega | decide | (simp only [Int32.le_iff_toInt_le, Int32.lt_iff_toInt_lt, ti_add, ti_sub, ti_mul, Int32.reduceToInt] at *; omega)) (by first | omega | decide | (simp only [Int32.le_iff_toInt_le, Int32.lt_iff_toInt_lt, ti_add, ti_sub, ti_mul, Int32.reduceToInt] at *; omega)) (fun σ12 eσ12 hOσ12 hT => ?_)
  have hW : WI 28 σ12.1 := WI_c2 (B := 28) (C := 132) eσ12 hV hW
  have hV : WI 132 σ12.1 := WI.tr hOσ12 (by decide) (by decide) (by decide) hV
  refine ok_gR (v := 135) hT rfl (hR 132 5 rfl) ?_
  refine ok_gR (v := 31) hT rfl (hR 28 5 rfl) ?_
  refine ok_cpI hT rfl rfl (by decide) (by first | omega | decide | (simp only [Int32.le_iff_toInt_le, Int32.lt_iff_toInt_lt, ti_add, ti_sub, ti_mul, Int32.reduceToInt] at *; omega)) (by first | omega | decide | (simp only [Int32.le_iff_toInt_le, Int32.lt_iff_toInt_lt, ti_add, ti_sub, ti_mul, Int32.reduceToInt] at *; omega)) (by first | omega | decide | (simp only [Int32.le_iff_toInt_le, Int32.lt_iff_toInt_lt, ti_add, ti_sub, ti_mul, Int32.reduceToInt] at *; omega)) (by first | omega | decide | (simp only [Int32.le_iff_toInt_le, Int32.lt_iff_toInt_lt, ti_add, ti_sub, ti_mul, Int32.reduceToInt] at *; omega)) (by first | omega | decide | (simp only [Int32.le_iff_toInt_le, Int32.lt_iff_toInt_lt, ti_add, ti_sub, ti_mul, Int32.reduceToInt] at *; omega)) (fun σ15 eσ15 hOσ15 hT => ?_)
  have hW : WI 28 σ15.1 := WI.tr hOσ15 (by decide) (by decide) (by decide) hW
  have hV : WI 132 σ15.1 := WI.tr hOσ15 (by decide) (by decide) (by decide) hV
  refine ok_gR (v := 136) hT rfl (hR 132 6 rfl) ?_
  refine ok_gR (v := 32) hT rfl (hR 28 6 rfl) ?_
  refine ok_cpI hT rfl rfl (by decide) (by first | omega | decide | (simp only [Int32.le_iff_toInt_le, Int32.lt_iff_toInt_lt, ti_add, ti_sub, ti_mul, Int32.reduceToInt] at *; omega)) (by first | omega | decide | (simp only [Int32.le_iff_toInt_le, Int32.lt_iff_toInt_lt, ti_add, ti_sub, ti_mul, Int32.reduceToInt] at *; omega)) (by first | omega | decide | (simp only [Int32.le_iff_toInt_le, Int32.lt_iff_toInt_lt, ti_add, ti_sub, ti_mul, Int32.reduceToInt] at *; omega)) (by first | omega | decide | (simp only [Int32.le_iff_toInt_le, Int32.lt_iff_toInt_lt, ti_add, ti_sub, ti_mul, Int32.reduceToInt] at *; omega)) (by first | omega | decide | (simp only [Int32.le_iff_toInt_le, Int32.lt_iff_toInt_lt, ti_add, ti_sub, ti_mul, Int32.reduceToInt] at *; omega)) (fun σ18 eσ18 hOσ18 hT => ?_)
  have hW : WI 28 σ18.1 := WI.tr hOσ18 (by decide) (by decide) (by decide) hW
  have hV : WI 132 σ18.1 := WI.tr hOσ18 (by decide) (by decide) (by decide) hV
  refine ok_lp (fun t : Int32 × zS => Tr [28, 29, 30, 31, 32] σ0 (t.2) ∧ (0 ≤ (t.1).toInt) ∧ (WI 28 (t.2).1) ∧ (WI 132 (t.2).1)) (fun t : Int32 × zS => ((10 : Int32).toInt - (t.1).toInt).toNat) (fun again19 t hI ih86_19 => ?_) N _ (show Tr [28, 29, 30, 31, 32] σ0 σ18 ∧ (0 ≤ (0 : Int32).toInt) ∧ (WI 28 σ18.1) ∧ (WI 132 σ18.1) from ⟨hT, (by first | omega | decide | (simp only [Int32.le_iff_toInt_le, Int32.lt_iff_toInt_lt, ti_add, ti_sub, ti_mul, Int32.reduceToInt] at *; omega)), hW, hV⟩) (show ((10 : Int32).toInt - (0 : Int32).toInt).toNat < N from (by first | omega | decide | (simp only [Int32.le_iff_toInt_le, Int32.lt_iff_toInt_lt, ti_add, ti_sub, ti_mul, Int32.reduceToInt] at *; omega)))
  obtain ⟨x2_19, σ19⟩ := t
  have hI : Tr [28, 29, 30, 31, 32] σ0 σ19 ∧ (0 ≤ x2_19.toInt) ∧ (WI 28 σ19.1) ∧ (WI 132 σ19.1) := hI
  obtain ⟨hT, hI19, hW, hV⟩ := hI
  rw [F_X10_copyFrom_86.eq_1]
  refine ok_if (fun hc20 => ?_) (fun hc20 => ?_)
  · exact ok_some ⟨hT, (show WI 28 σ19.1 from by exact hW)⟩
  · refine ok_gR (v := 33) hT rfl (hR 28 7 rfl) ?_
    obtain ⟨q23, eq23, kq23⟩ := arrF hR (k := 33) (i := x2_19) rfl (by first | omega | decide | (simp only [Int32.le_iff_toInt_le, Int32.lt_iff_toInt_lt, ti_add, ti_sub, ti_mul, Int32.reduceToInt] at *; omega)) (by first | omega | decide | (simp only [Int32.le_iff_toInt_le, Int32.lt_iff_toInt_lt, ti_add, ti_sub, ti_mul, Int32.reduceToInt] at *; omega))
    refine ok_aR (v := q23) hT rfl (by first | omega | decide | (simp only [Int32.le_iff_toInt_le, Int32.lt_iff_toInt_lt, ti_add, ti_sub, ti_mul, Int32.reduceToInt] at *; omega)) (by first | omega | decide | (simp only [Int32.le_iff_toInt_le, Int32.lt_iff_toInt_lt, ti_add, ti_sub, ti_mul, Int32.reduceToInt] at *; omega)) eq23 ?_
    refine ok_gR (v := 137) hT rfl (hR 132 7 rfl) ?_
    obtain ⟨q26, eq26, kq26⟩ := arrF hR (k := 137) (i := x2_19) rfl (by first | omega | decide | (simp only [Int32.le_iff_toInt_le, Int32.lt_iff_toInt_lt, ti_add, ti_sub, ti_mul, Int32.reduceToInt] at *; omega)) (by first | omega | decide | (simp only [Int32.le_iff_toInt_le, Int32.lt_iff_toInt_lt, ti_add, ti_sub, ti_mul, Int32.reduceToInt] at *; omega))
    refine ok_aR (v := q26) hT rfl (by first | omega | decide | (simp only [Int32.le_iff_toInt_le, Int32.lt_iff_toInt_lt, ti_add, ti_sub, ti_mul, Int32.reduceToInt] at *; omega)) (by first | omega | decide | (simp only [Int32.le_iff_toInt_le, Int32.lt_iff_toInt_lt, ti_add, ti_sub, ti_mul, Int32.reduceToInt] at *; omega)) eq26 ?_
    refine ok_gC kq23 ?_
    refine ok_zbT (Q := fun V σ => True) hT (s_X2_copyFrom hN (hR.tr hT) kq23 kq26) (fun _ h9 => absurd h9 List.not_mem_nil) (fun v27 σ28 hOσ28 hT hqv27 => ?_)
    have hW : WI 28 σ28.1 := WI.tr hOσ28 (by decide) (by decide) (by decide) hW
    have hV : WI 132 σ28.1 := WI.tr hOσ28 (by decide) (by decide) (by decide) hV
    exact ih86_19 (x2_19 + 1, σ28) (show Tr [28, 29, 30, 31, 32] σ0 σ28 ∧ (0 ≤ (x2_19 + 1).toInt) ∧ (WI 28 σ28.1) ∧ (WI 132 σ28.1) from ⟨hT, (by first | omega | decide | (simp only [Int32.le_iff_toInt_le, Int32.lt_iff_toInt_lt, ti_add, ti_sub, ti_mul, Int32.reduceToInt] at *; omega)), hW, hV⟩) (show ((10 : Int32).toInt - (x2_19 + 1).toInt).toNat < ((10 : Int32).toInt - x2_19.toInt).toNat from (by first | omega | decide | (simp only [Int32.le_iff_toInt_le, Int32.lt_iff_toInt_lt, ti_add, ti_sub, ti_mul, Int32.reduceToInt] at *; omega)))

set_option maxHeartbeats 4000000 in
set_option maxRecDepth 100000 in
theorem s_X10_copyFrom_132_28 {N : Nat} (hN : 1048576 ≤ N)  {σ0 : zS}  (hR : RF σ0.2.2) (hW : WI 132 σ0.1) (hV : WI 28 σ0.1) : Ok (f_X10_copyFrom N 132 28 σ0) (fun r => Tr [132, 133, 134, 135, 136] σ0 r.2 ∧ (WI 132 r.2.1)) := by
  have hT : Tr [132, 133, 134, 135, 136] σ0 σ0 := Tr.rf
  rw [f_X10_copyFrom.eq_1]
  refine ok_gIv rfl rfl ?_
  refine ok_pI hT rfl (by decide) (fun σ2 eσ2 hOσ2 hT => ?_)
  have hW : WI 132 σ2.1 := WI_p0 eσ2 (hV).1 hW
  have hV : WI 28 σ2.1 := WI.tr hOσ2 (by decide) (by decide) (by decide) hV
  refine ok_gIv rfl rfl ?_
  refine ok_pI hT rfl (by decide) (fun σ4 eσ4 hOσ4 hT => ?_)
  have hW : WI 132 σ4.1 := WI_p1 eσ4 hW
  have hV : WI 28 σ4.1 := WI.tr hOσ4 (by decide) (by decide) (by decide) hV
  refine ok_gIv rfl rfl ?_
  refine ok_pI hT rfl (by decide) (fun σ6 eσ6 hOσ6 hT => ?_)
  have hW : WI 132 σ6.1 := WI_p2 eσ6 (hV).2.1 hW
  have hV : WI 28 σ6.1 := WI.tr hOσ6 (by decide) (by decide) (by decide) hV
  refine ok_gR (v := 29) hT rfl (hR 28 3 rfl) ?_
  refine ok_gR (v := 133) hT rfl (hR 132 3 rfl) ?_
  refine ok_cpI hT rfl rfl (by decide) (by first | omega | decide | (simp only [Int32.le_iff_toInt_le, Int32.lt_iff_toInt_lt, ti_add, ti_sub, ti_mul, Int32.reduceToInt] at *; omega)) (by first | omega | decide | (simp only [Int32.le_iff_toInt_le, Int32.lt_iff_toInt_lt, ti_add, ti_sub, ti_mul, Int32.reduceToInt] at *; omega)) (by first | omega | decide | (simp only [Int32.le_iff_toInt_le, Int32.lt_iff_toInt_lt, ti_add, ti_sub, ti_mul, Int32.reduceToInt] at *; omega)) (by first | omega | decide | (simp only [Int32.le_iff_toInt_le, Int32.lt_iff_toInt_lt, ti_add, ti_sub, ti_mul, Int32.reduceToInt] at *; omega)) (by first | omega | decide | (simp only [Int32.le_iff_toInt_le, Int32.lt_iff_toInt_lt, ti_add, ti_sub, ti_mul, Int32.reduceToInt] at *; omega)) (fun σ9 eσ9 hOσ9 hT => ?_)
  have hW : WI 132 σ9.1 := WI_c1 (B := 132) (C := 28) eσ9 hV hW
  have hV : WI 28 σ9.1 := WI.tr hOσ9 (by decide) (by decide) (by decide) hV
  refine ok_gR (v := 30) hT rfl (hR 28 4 rfl) ?_
  refine ok_gR (v := 134) hT rfl (hR 132 4 rfl) ?_
  refine ok_cpI hT rfl rfl (by decide) (by first | omega | decide | (simp only [Int32.le_iff_toInt_le, Int32.lt_iff_toInt_lt, ti_add, ti_sub, ti_mul, Int32.reduceToInt] at *; omega)) (by first | omega | decide | (simp only [Int32.le_iff_toInt_le, Int32.lt_iff_toInt_lt, ti_add, ti_sub, ti_mul, Int32.reduceToInt] at *; omega)) (by first | omega | decide | (simp only [Int32.le_iff_toInt_le, Int32.lt_iff_toInt_lt, ti_add, ti_sub, ti_mul, Int32.reduceToInt] at *; omega)) (by first | omega | decide | (simp only [Int32.le_iff_toInt_le, Int32.lt_iff_toInt_lt, ti_add, ti_sub, ti_mul, Int32.reduceToInt] at *; omega)) (by first | omega | decide | (simp only [Int32.le_iff_toInt_le, Int32.lt_iff_toInt_lt, ti_add, ti_sub, ti_mul, Int32.reduceToInt] at *; omega)) (fun σ12 eσ12 hOσ12 hT => ?_)
  have hW : WI 132 σ12.1 := WI_c2 (B := 132) (C := 28) eσ12 hV hW
  have hV : WI 28 σ12.1 := WI.tr hOσ12 (by decide) (by decide) (by decide) hV
  refine ok_gR (v := 31) hT rfl (hR 28 5 rfl) ?_
  refine ok_gR (v := 135) hT rfl (hR 132 5 rfl) ?_
  refine ok_cpI hT rfl rfl (by decide) (by first | omega | decide | (simp only [Int32.le_iff_toInt_le, Int32.lt_iff_toInt_lt, ti_add, ti_sub, ti_mul, Int32.reduceToInt] at *; omega)) (by first | omega | decide | (simp only [Int32.le_iff_toInt_le, Int32.lt_iff_toInt_lt, ti_add, ti_sub, ti_mul, Int32.reduceToInt] at *; omega)) (by first | omega | decide | (simp only [Int32.le_iff_toInt_le, Int32.lt_iff_toInt_lt, ti_add, ti_sub, ti_mul, Int32.reduceToInt] at *; omega)) (by first | omega | decide | (simp only [Int32.le_iff_toInt_le, Int32.lt_iff_toInt_lt, ti_add, ti_sub, ti_mul, Int32.reduceToInt] at *; omega)) (by first | omega | decide | (simp only [Int32.le_iff_toInt_le, Int32.lt_iff_toInt_lt, ti_add, ti_sub, ti_mul, Int32.reduceToInt] at *; omega)) (fun σ15 eσ15 hOσ15 hT => ?_)
  have hW : WI 132 σ15.1 := WI.tr hOσ15 (by decide) (by decide) (by decide) hW
  have hV : WI 28 σ15.1 := WI.tr hOσ15 (by decide) (by decide) (by decide) hV
  refine ok_gR (v := 32) hT rfl (hR 28 6 rfl) ?_
  refine ok_gR (v := 136) hT rfl (hR 132 6 rfl) ?_
  refine ok_cpI hT rfl rfl (by decide) (by first | omega | decide | (simp only [Int32.le_iff_toInt_le, Int32.lt_iff_toInt_lt, ti_add, ti_sub, ti_mul, Int32.reduceToInt] at *; omega)) (by first | omega | decide | (simp only [Int32.le_iff_toInt_le, Int32.lt_iff_toInt_lt, ti_add, ti_sub, ti_mul, Int32.reduceToInt] at *; omega)) (by first | omega | decide | (simp only [Int32.le_iff_toInt_le, Int32.lt_iff_toInt_lt, ti_add, ti_sub, ti_mul, Int32.reduceToInt] at *; omega)) (by first | omega | decide | (simp only [Int32.le_iff_toInt_le, Int32.lt_iff_toInt_lt, ti_add, ti_sub, ti_mul, Int32.reduceToInt] at *; omega)) (by first | omega | decide | (simp only [Int32.le_iff_toInt_le, Int32.lt_iff_toInt_lt, ti_add, ti_sub, ti_mul, Int32.reduceToInt] at *; omega)) (fun σ18 eσ18 hOσ18 hT => ?_)
  have hW : WI 132 σ18.1 := WI.tr hOσ18 (by decide) (by decide) (by decide) hW
  have hV : WI 28 σ18.1 := WI.tr hOσ18 (by decide) (by decide) (by decide) hV
  refine ok_lp (fun t : Int32 × zS => Tr [132, 133, 134, 135, 136] σ0 (t.2) ∧ (0 ≤ (t.1).toInt) ∧ (WI 132 (t.2).1) ∧ (WI 28 (t.2).1)) (fun t : Int32 × zS => ((10 : Int32).toInt - (t.1).toInt).toNat) (fun again19 t hI ih86_19 => ?_) N _ (show Tr [132, 133, 134, 135, 136] σ0 σ18 ∧ (0 ≤ (0 : Int32).toInt) ∧ (WI 132 σ18.1) ∧ (WI 28 σ18.1) from ⟨hT, (by first | omega | decide | (simp only [Int32.le_iff_toInt_le, Int32.lt_iff_toInt_lt, ti_add, ti_sub, ti_mul, Int32.reduceToInt] at *; omega)), hW, hV⟩) (show ((10 : Int32).toInt - (0 : Int32).toInt).toNat < N from (by first | omega | decide | (simp only [Int32.le_iff_toInt_le, Int32.lt_iff_toInt_lt, ti_add, ti_sub, ti_mul, Int32.reduceToInt] at *; omega)))
  obtain ⟨x2_19, σ19⟩ := t
  have hI : Tr [132, 133, 134, 135, 136] σ0 σ19 ∧ (0 ≤ x2_19.toInt) ∧ (WI 132 σ19.1) ∧ (WI 28 σ19.1) := hI
  obtain ⟨hT, hI19, hW, hV⟩ := hI
  rw [F_X10_copyFrom_86.eq_1]
  refine ok_if (fun hc20 => ?_) (fun hc20 => ?_)
  · exact ok_some ⟨hT, (show WI 132 σ19.1 from by exact hW)⟩
  · refine ok_gR (v := 137) hT rfl (hR 132 7 rfl) ?_
    obtain ⟨q23, eq23, kq23⟩ := arrF hR (k := 137) (i := x2_19) rfl (by first | omega | decide | (simp only [Int32.le_iff_toInt_le, Int32.lt_iff_toInt_lt, ti_add, ti_sub, ti_mul, Int32.reduceToInt] at *; omega)) (by first | omega | decide | (simp only [Int32.le_iff_toInt_le, Int32.lt_iff_toInt_lt, ti_add, ti_sub, ti_mul, Int32.reduceToInt] at *; omega))
    refine ok_aR (v := q23) hT rfl (by first | omega | decide | (simp only [Int32.le_iff_toInt_le, Int32.lt_iff_toInt_lt, ti_add, ti_sub, ti_mul, Int32.reduceToInt] at *; omega)) (by first | omega | decide | (simp only [Int32.le_iff_toInt_le, Int32.lt_iff_toInt_lt, ti_add, ti_sub, ti_mul, Int32.reduceToInt] at *; omega)) eq23 ?_
    refine ok_gR (v := 33) hT rfl (hR 28 7 rfl) ?_
    obtain ⟨q26, eq26, kq26⟩ := arrF hR (k := 33) (i := x2_19) rfl (by first | omega | decide | (simp only [Int32.le_iff_toInt_le, Int32.lt_iff_toInt_lt, ti_add, ti_sub, ti_mul, Int32.reduceToInt] at *; omega)) (by first | omega | decide | (simp only [Int32.le_iff_toInt_le, Int32.lt_iff_toInt_lt, ti_add, ti_sub, ti_mul, Int32.reduceToInt] at *; omega))
    refine ok_aR (v := q26) hT rfl (by first | omega | decide | (simp only [Int32.le_iff_toInt_le, Int32.lt_iff_toInt_lt, ti_add, ti_sub, ti_mul, Int32.reduceToInt] at *; omega)) (by first | omega | decide | (simp only [Int32.le_iff_toInt_le, Int32.lt_iff_toInt_lt, ti_add, ti_sub, ti_mul, Int32.reduceToInt] at *; omega)) eq26 ?_
    refine ok_gC kq23 ?_
    refine ok_zbT (Q := fun V σ => True) hT (s_X2_copyFrom hN (hR.tr hT) kq23 kq26) (fun _ h9 => absurd h9 List.not_mem_nil) (fun v27 σ28 hOσ28 hT hqv27 => ?_)
    have hW : WI 132 σ28.1 := WI.tr hOσ28 (by decide) (by decide) (by decide) hW
    have hV : WI 28 σ28.1 := WI.tr hOσ28 (by decide) (by decide) (by decide) hV
    exact ih86_19 (x2_19 + 1, σ28) (show Tr [132, 133, 134, 135, 136] σ0 σ28 ∧ (0 ≤ (x2_19 + 1).toInt) ∧ (WI 132 σ28.1) ∧ (WI 28 σ28.1) from ⟨hT, (by first | omega | decide | (simp only [Int32.le_iff_toInt_le, Int32.lt_iff_toInt_lt, ti_add, ti_sub, ti_mul, Int32.reduceToInt] at *; omega)), hW, hV⟩) (show ((10 : Int32).toInt - (x2_19 + 1).toInt).toNat < ((10 : Int32).toInt - x2_19.toInt).toNat from (by first | omega | decide | (simp only [Int32.le_iff_toInt_le, Int32.lt_iff_toInt_lt, ti_add, ti_sub, ti_mul, Int32.reduceToInt] at *; omega)))

set_option maxHeartbeats 4000000 in
set_option maxRecDepth 100000 in
theorem s_X10_copyFrom_28_158 {N : Nat} (hN : 1048576 ≤ N)  {σ0 : zS}  (hR : RF σ0.2.2) (hW : WI 28 σ0.1) (hV : WI 158 σ0.1) : Ok (f_X10_copyFrom N 28 158 σ0) (fun r => Tr [28, 29, 30, 31, 32] σ0 r.2 ∧ (WI 28 r.2.1)) := by
  have hT : Tr [28, 29, 30, 31, 32] σ0 σ0 := Tr.rf
  rw [f_X10_copyFrom.eq_1]
  refine ok_gIv rfl rfl ?_
  refine ok_pI hT rfl (by decide) (fun σ2 eσ2 hOσ2 hT => ?_)
  have hW : WI 28 σ2.1 := WI_p0 eσ2 (hV).1 hW
  have hV : WI 158 σ2.1 := WI.tr hOσ2 (by decide) (by decide) (by decide) hV
  refine ok_gIv rfl rfl ?_
  refine ok_pI hT rfl (by decide) (fun σ4 eσ4 hOσ4 hT => ?_)
  have hW : WI 28 σ4.1 := WI_p1 eσ4 hW
  have hV : WI 158 σ4.1 := WI.tr hOσ4 (by decide) (by decide) (by decide) hV
  refine ok_gIv rfl rfl ?_
  refine ok_pI hT rfl (by decide) (fun σ6 eσ6 hOσ6 hT => ?_)
  have hW : WI 28 σ6.1 := WI_p2 eσ6 (hV).2.1 hW
  have hV : WI 158 σ6.1 := WI.tr hOσ6 (by decide) (by decide) (by decide) hV
  refine ok_gR (v := 159) hT rfl (hR 158 3 rfl) ?_
  refine ok_gR (v := 29) hT rfl (hR 28 3 rfl) ?_
  refine ok_cpI hT rfl rfl (by decide) (by first | omega | decide | (simp only [Int32.le_iff_toInt_le, Int32.lt_iff_toInt_lt, ti_add, ti_sub, ti_mul, Int32.reduceToInt] at *; omega)) (by first | omega | decide | (simp only [Int32.le_iff_toInt_le, Int32.lt_iff_toInt_lt, ti_add, ti_sub, ti_mul, Int32.reduceToInt] at *; omega)) (by first | omega | decide | (simp only [Int32.le_iff_toInt_le, Int32.lt_iff_toInt_lt, ti_add, ti_sub, ti_mul, Int32.reduceToInt] at *; omega)) (by first | omega | decide | (simp only [Int32.le_iff_toInt_le, Int32.lt_iff_toInt_lt, ti_add, ti_sub, ti_mul, Int32.reduceToInt] at *; omega)) (by first | omega | decide | (simp only [Int32.le_iff_toInt_le, Int32.lt_iff_toInt_lt, ti_add, ti_sub, ti_mul, Int32.reduceToInt] at *; omega)) (fun σ9 eσ9 hOσ9 hT => ?_)
  have hW : WI 28 σ9.1 := WI_c1 (B := 28) (C := 158) eσ9 hV hW
  have hV : WI 158 σ9.1 := WI.tr hOσ9 (by decide) (by decide) (by decide) hV
  refine ok_gR (v := 160) hT rfl (hR 158 4 rfl) ?_
  refine ok_gR (v := 30) hT rfl (hR 28 4 rfl) ?_
  refine ok_cpI hT rfl rfl (by decide) (by first | omega | decide | (simp only [Int32.le_iff_toInt_le, Int32.lt_iff_toInt_lt, ti_add, ti_sub, ti_mul, Int32.reduceToInt] at *; omega)) (by first | omega | decide | (simp only [Int32.le_iff_toInt_le, Int32.lt_iff_toInt_lt, ti_add, ti_sub, ti_mul, Int32.reduceToInt] at *; omega)) (by first | omega | decide | (simp only [Int32.le_iff_toInt_le, Int32.lt_iff_toInt_lt, ti_add, ti_sub, ti_mul, Int32.reduceToInt] at *; omega)) (by first | omega | decide | (simp only [Int32.le_iff_toInt_le, Int32.lt_iff_toInt_lt, ti_add, ti_sub, ti_mul, Int32.reduceToInt] at *; omega)) (by first | omega | decide | (simp only [Int32.le_iff_toInt_le, Int32.lt_iff_toInt_lt, ti_add, ti_sub, ti_mul, Int32.reduceToInt] at *; omega)) (fun σ12 eσ12 hOσ12 hT => ?_)
  have hW : WI 28 σ12.1 := WI_c2 (B := 28) (C := 158) eσ12 hV hW
  have hV : WI 158 σ12.1 := WI.tr hOσ12 (by decide) (by decide) (by decide) hV
  refine ok_gR (v := 161) hT rfl (hR 158 5 rfl) ?_
  refine ok_gR (v := 31) hT rfl (hR 28 5 rfl) ?_
  refine ok_cpI hT rfl rfl (by decide) (by first | omega | decide | (simp only [Int32.le_iff_toInt_le, Int32.lt_iff_toInt_lt, ti_add, ti_sub, ti_mul, Int32.reduceToInt] at *; omega)) (by first | omega | decide | (simp only [Int32.le_iff_toInt_le, Int32.lt_iff_toInt_lt, ti_add, ti_sub, ti_mul, Int32.reduceToInt] at *; omega)) (by first | omega | decide | (simp only [Int32.le_iff_toInt_le, Int32.lt_iff_toInt_lt, ti_add, ti_sub, ti_mul, Int32.reduceToInt] at *; omega)) (by first | omega | decide | (simp only [Int32.le_iff_toInt_le, Int32.lt_iff_toInt_lt, ti_add, ti_sub, ti_mul, Int32.reduceToInt] at *; omega)) (by first | omega | decide | (simp only [Int32.le_iff_toInt_le, Int32.lt_iff_toInt_lt, ti_add, ti_sub, ti_mul, Int32.reduceToInt] at *; omega)) (fun σ15 eσ15 hOσ15 hT => ?_)
  have hW : WI 28 σ15.1 := WI.tr hOσ15 (by decide) (by decide) (by decide) hW
  have hV : WI 158 σ15.1 := WI.tr hOσ15 (by decide) (by decide) (by decide) hV
  refine ok_gR (v := 162) hT rfl (hR 158 6 rfl) ?_
  refine ok_gR (v := 32) hT rfl (hR 28 6 rfl) ?_
  refine ok_cpI hT rfl rfl (by decide) (by first | omega | decide | (simp only [Int32.le_iff_toInt_le, Int32.lt_iff_toInt_lt, ti_add, ti_sub, ti_mul, Int32.reduceToInt] at *; omega)) (by first | omega | decide | (simp only [Int32.le_iff_toInt_le, Int32.lt_iff_toInt_lt, ti_add, ti_sub, ti_mul, Int32.reduceToInt] at *; omega)) (by first | omega | decide | (simp only [Int32.le_iff_toInt_le, Int32.lt_iff_toInt_lt, ti_add, ti_sub, ti_mul, Int32.reduceToInt] at *; omega)) (by first | omega | decide | (simp only [Int32.le_iff_toInt_le, Int32.lt_iff_toInt_lt, ti_add, ti_sub, ti_mul, Int32.reduceToInt] at *; omega)) (by first | omega | decide | (simp only [Int32.le_iff_toInt_le, Int32.lt_iff_toInt_lt, ti_add, ti_sub, ti_mul, Int32.reduceToInt] at *; omega)) (fun σ18 eσ18 hOσ18 hT => ?_)
  have hW : WI 28 σ18.1 := WI.tr hOσ18 (by decide) (by decide) (by decide) hW
  have hV : WI 158 σ18.1 := WI.tr hOσ18 (by decide) (by decide) (by decide) hV
  refine ok_lp (fun t : Int32 × zS => Tr [28, 29, 30, 31, 32] σ0 (t.2) ∧ (0 ≤ (t.1).toInt) ∧ (WI 28 (t.2).1) ∧ (WI 158 (t.2).1)) (fun t : Int32 × zS => ((10 : Int32).toInt - (t.1).toInt).toNat) (fun again19 t hI ih86_19 => ?_) N _ (show Tr [28, 29, 30, 31, 32] σ0 σ18 ∧ (0 ≤ (0 : Int32).toInt) ∧ (WI 28 σ18.1) ∧ (WI 158 σ18.1) from ⟨hT, (by first | omega | decide | (simp only [Int32.le_iff_toInt_le, Int32.lt_iff_toInt_lt, ti_add, ti_sub, ti_mul, Int32.reduceToInt] at *; omega)), hW, hV⟩) (show ((10 : Int32).toInt - (0 : Int32).toInt).toNat < N from (by first | omega | decide | (simp only [Int32.le_iff_toInt_le, Int32.lt_iff_toInt_lt, ti_add, ti_sub, ti_mul, Int32.reduceToInt] at *; omega)))
  obtain ⟨x2_19, σ19⟩ := t
  have hI : Tr [28, 29, 30, 31, 32] σ0 σ19 ∧ (0 ≤ x2_19.toInt) ∧ (WI 28 σ19.1) ∧ (WI 158 σ19.1) := hI
  obtain ⟨hT, hI19, hW, hV⟩ := hI
  rw [F_X10_copyFrom_86.eq_1]
  refine ok_if (fun hc20 => ?_) (fun hc20 => ?_)
  · exact ok_some ⟨hT, (show WI 28 σ19.1 from by exact hW)⟩
  · refine ok_gR (v := 33) hT rfl (hR 28 7 rfl) ?_
    obtain ⟨q23, eq23, kq23⟩ := arrF hR (k := 33) (i := x2_19) rfl (by first | omega | decide | (simp only [Int32.le_iff_toInt_le, Int32.lt_iff_toInt_lt, ti_add, ti_sub, ti_mul, Int32.reduceToInt] at *; omega)) (by first | omega | decide | (simp only [Int32.le_iff_toInt_le, Int32.lt_iff_toInt_lt, ti_add, ti_sub, ti_mul, Int32.reduceToInt] at *; omega))
    refine ok_aR (v := q23) hT rfl (by first | omega | decide | (simp only [Int32.le_iff_toInt_le, Int32.lt_iff_toInt_lt, ti_add, ti_sub, ti_mul, Int32.reduceToInt] at *; omega)) (by first | omega | decide | (simp only [Int32.le_iff_toInt_le, Int32.lt_iff_toInt_lt, ti_add, ti_sub, ti_mul, Int32.reduceToInt] at *; omega)) eq23 ?_
    refine ok_gR (v := 163) hT rfl (hR 158 7 rfl) ?_
    obtain ⟨q26, eq26, kq26⟩ := arrF hR (k := 163) (i := x2_19) rfl (by first | omega | decide | (simp only [Int32.le_iff_toInt_le, Int32.lt_iff_toInt_lt, ti_add, ti_sub, ti_mul, Int32.reduceToInt] at *; omega)) (by first | omega | decide | (simp only [Int32.le_iff_toInt_le, Int32.lt_iff_toInt_lt, ti_add, ti_sub, ti_mul, Int32.reduceToInt] at *; omega))
    refine ok_aR (v := q26) hT rfl (by first | omega | decide | (simp only [Int32.le_iff_toInt_le, Int32.lt_iff_toInt_lt, ti_add, ti_sub, ti_mul, Int32.reduceToInt] at *; omega)) (by first | omega | decide | (simp only [Int32.le_iff_toInt_le, Int32.lt_iff_toInt_lt, ti_add, ti_sub, ti_mul, Int32.reduceToInt] at *; omega)) eq26 ?_
    refine ok_gC kq23 ?_
    refine ok_zbT (Q := fun V σ => True) hT (s_X2_copyFrom hN (hR.tr hT) kq23 kq26) (fun _ h9 => absurd h9 List.not_mem_nil) (fun v27 σ28 hOσ28 hT hqv27 => ?_)
    have hW : WI 28 σ28.1 := WI.tr hOσ28 (by decide) (by decide) (by decide) hW
    have hV : WI 158 σ28.1 := WI.tr hOσ28 (by decide) (by decide) (by decide) hV
    exact ih86_19 (x2_19 + 1, σ28) (show Tr [28, 29, 30, 31, 32] σ0 σ28 ∧ (0 ≤ (x2_19 + 1).toInt) ∧ (WI 28 σ28.1) ∧ (WI 158 σ28.1) from ⟨hT, (by first | omega | decide | (simp only [Int32.le_iff_toInt_le, Int32.lt_iff_toInt_lt, ti_add, ti_sub, ti_mul, Int32.reduceToInt] at *; omega)), hW, hV⟩) (show ((10 : Int32).toInt - (x2_19 + 1).toInt).toNat < ((10 : Int32).toInt - x2_19.toInt).toNat from (by first | omega | decide | (simp only [Int32.le_iff_toInt_le, Int32.lt_iff_toInt_lt, ti_add, ti_sub, ti_mul, Int32.reduceToInt] at *; omega)))

set_option maxHeartbeats 4000000 in
set_option maxRecDepth 100000 in
theorem s_X10_copyFrom_158_28 {N : Nat} (hN : 1048576 ≤ N)  {σ0 : zS}  (hR : RF σ0.2.2) (hW : WI 158 σ0.1) (hV : WI 28 σ0.1) : Ok (f_X10_copyFrom N 158 28 σ0) (fun r => Tr [158, 159, 160, 161, 162] σ0 r.2 ∧ (WI 158 r.2.1)) := by
  have hT : Tr [158, 159, 160, 161, 162] σ0 σ0 := Tr.rf
  rw [f_X10_copyFrom.eq_1]
  refine ok_gIv rfl rfl ?_
  refine ok_pI hT rfl (by decide) (fun σ2 eσ2 hOσ2 hT => ?_)
  have hW : WI 158 σ2.1 := WI_p0 eσ2 (hV).1 hW
  have hV : WI 28 σ2.1 := WI.tr hOσ2 (by decide) (by decide) (by decide) hV
  refine ok_gIv rfl rfl ?_
  refine ok_pI hT rfl (by decide) (fun σ4 eσ4 hOσ4 hT => ?_)
  have hW : WI 158 σ4.1 := WI_p1 eσ4 hW
  have hV : WI 28 σ4.1 := WI.tr hOσ4 (by decide) (by decide) (by decide) hV
  refine ok_gIv rfl rfl ?_
  refine ok_pI hT rfl (by decide) (fun σ6 eσ6 hOσ6 hT => ?_)
  have hW : WI 158 σ6.1 := WI_p2 eσ6 (hV).2.1 hW
  have hV : WI 28 σ6.1 := WI.tr hOσ6 (by decide) (by decide) (by decide) hV
  refine ok_gR (v := 29) hT rfl (hR 28 3 rfl) ?_
  refine ok_gR (v := 159) hT rfl (hR 158 3 rfl) ?_
  refine ok_cpI hT rfl rfl (by decide) (by first | omega | decide | (simp only [Int32.le_iff_toInt_le, Int32.lt_iff_toInt_lt, ti_add, ti_sub, ti_mul, Int32.reduceToInt] at *; omega)) (by first | omega | decide | (simp only [Int32.le_iff_toInt_le, Int32.lt_iff_toInt_lt, ti_add, ti_sub, ti_mul, Int32.reduceToInt] at *; omega)) (by first | omega | decide | (simp only [Int32.le_iff_toInt_le, Int32.lt_iff_toInt_lt, ti_add, ti_sub, ti_mul, Int32.reduceToInt] at *; omega)) (by first | omega | decide | (simp only [Int32.le_iff_toInt_le, Int32.lt_iff_toInt_lt, ti_add, ti_sub, ti_mul, Int32.reduceToInt] at *; omega)) (by first | omega | decide | (simp only [Int32.le_iff_toInt_le, Int32.lt_iff_toInt_lt, ti_add, ti_sub, ti_mul, Int32.reduceToInt] at *; omega)) (fun σ9 eσ9 hOσ9 hT => ?_)
  have hW : WI 158 σ9.1 := WI_c1 (B := 158) (C := 28) eσ9 hV hW
  have hV : WI 28 σ9.1 := WI.tr hOσ9 (by decide) (by decide) (by decide) hV
  refine ok_gR (v := 30) hT rfl (hR 28 4 rfl) ?_
  refine ok_gR (v := 160) hT rfl (hR 158 4 rfl) ?_
  refine ok_cpI hT rfl rfl (by decide) (by first | omega | decide | (simp only [Int32.le_iff_toInt_le, Int32.lt_iff_toInt_lt, ti_add, ti_sub, ti_mul, Int32.reduceToInt] at *; omega)) (by first | omega | decide | (simp only [Int32.le_iff_toInt_le, Int32.lt_iff_toInt_lt, ti_add, ti_sub, ti_mul, Int32.reduceToInt] at *; omega)) (by first | omega | decide | (simp only [Int32.le_iff_toInt_le, Int32.lt_iff_toInt_lt, ti_add, ti_sub, ti_mul, Int32.reduceToInt] at *; omega)) (by first | omega | decide | (simp only [Int32.le_iff_toInt_le, Int32.lt_iff_toInt_lt, ti_add, ti_sub, ti_mul, Int32.reduceToInt] at *; omega)) (by first | omega | decide | (simp only [Int32.le_iff_toInt_le, Int32.lt_iff_toInt_lt, ti_add, ti_sub, ti_mul, Int32.reduceToInt] at *; omega)) (fun σ12 eσ12 hOσ12 hT => ?_)
  have hW : WI 158 σ12.1 := WI_c2 (B := 158) (C := 28) eσ12 hV hW
  have hV : WI 28 σ12.1 := WI.tr hOσ12 (by decide) (by decide) (by decide) hV
  refine ok_gR (v := 31) hT rfl (hR 28 5 rfl) ?_
  refine ok_gR (v := 161) hT rfl (hR 158 5 rfl) ?_
  refine ok_cpI hT rfl rfl (by decide) (by first | omega | decide | (simp only [Int32.le_iff_toInt_le, Int32.lt_iff_toInt_lt, ti_add, ti_sub, ti_mul, Int32.reduceToInt] at *; omega)) (by first | omega | decide | (simp only [Int32.le_iff_toInt_le, Int32.lt_iff_toInt_lt, ti_add, ti_sub, ti_mul, Int32.reduceToInt] at *; omega)) (by first | omega | decide | (simp only [Int32.le_iff_toInt_le, Int32.lt_iff_toInt_lt, ti_add, ti_sub, ti_mul, Int32.reduceToInt] at *; omega)) (by first | omega | decide | (simp only [Int32.le_iff_toInt_le, Int32.lt_iff_toInt_lt, ti_add, ti_sub, ti_mul, Int32.reduceToInt] at *; omega)) (by first | omega | decide | (simp only [Int32.le_iff_toInt_le, Int32.lt_iff_toInt_lt, ti_add, ti_sub, ti_mul, Int32.reduceToInt] at *; omega)) (fun σ15 eσ15 hOσ15 hT => ?_)
  have hW : WI 158 σ15.1 := WI.tr hOσ15 (by decide) (by decide) (by decide) hW
  have hV : WI 28 σ15.1 := WI.tr hOσ15 (by decide) (by decide) (by decide) hV
  refine ok_gR (v := 32) hT rfl (hR 28 6 rfl) ?_
  refine ok_gR (v := 162) hT rfl (hR 158 6 rfl) ?_
  refine ok_cpI hT rfl rfl (by decide) (by first | omega | decide | (simp only [Int32.le_iff_toInt_le, Int32.lt_iff_toInt_lt, ti_add, ti_sub, ti_mul, Int32.reduceToInt] at *; omega)) (by first | omega | decide | (simp only [Int32.le_iff_toInt_le, Int32.lt_iff_toInt_lt, ti_add, ti_sub, ti_mul, Int32.reduceToInt] at *; omega)) (by first | omega | decide | (simp only [Int32.le_iff_toInt_le, Int32.lt_iff_toInt_lt, ti_add, ti_sub, ti_mul, Int32.reduceToInt] at *; omega)) (by first | omega | decide | (simp only [Int32.le_iff_toInt_le, Int32.lt_iff_toInt_lt, ti_add, ti_sub, ti_mul, Int32.reduceToInt] at *; omega)) (by first | omega | decide | (simp only [Int32.le_iff_toInt_le, Int32.lt_iff_toInt_lt, ti_add, ti_sub, ti_mul, Int32.reduceToInt] at *; omega)) (fun σ18 eσ18 hOσ18 hT => ?_)
  have hW : WI 158 σ18.1 := WI.tr hOσ18 (by decide) (by decide) (by decide) hW
  have hV : WI 28 σ18.1 := WI.tr hOσ18 (by decide) (by decide) (by decide) hV
  refine ok_lp (fun t : Int32 × zS => Tr [158, 159, 160, 161, 162] σ0 (t.2) ∧ (0 ≤ (t.1).toInt) ∧ (WI 158 (t.2).1) ∧ (WI 28 (t.2).1)) (fun t : Int32 × zS => ((10 : Int32).toInt - (t.1).toInt).toNat) (fun again19 t hI ih86_19 => ?_) N _ (show Tr [158, 159, 160, 161, 162] σ0 σ18 ∧ (0 ≤ (0 : Int32).toInt) ∧ (WI 158 σ18.1) ∧ (WI 28 σ18.1) from ⟨hT, (by first | omega | decide | (simp only [Int32.le_iff_toInt_le, Int32.lt_iff_toInt_lt, ti_add, ti_sub, ti_mul, Int32.reduceToInt] at *; omega)), hW, hV⟩) (show ((10 : Int32).toInt - (0 : Int32).toInt).toNat < N from (by first | omega | decide | (simp only [Int32.le_iff_toInt_le, Int32.lt_iff_toInt_lt, ti_add, ti_sub, ti_mul, Int32.reduceToInt] at *; omega)))
  obtain ⟨x2_19, σ19⟩ := t
  have hI : Tr [158, 159, 160, 161, 162] σ0 σ19 ∧ (0 ≤ x2_19.toInt) ∧ (WI 158 σ19.1) ∧ (WI 28 σ19.1) := hI
  obtain ⟨hT, hI19, hW, hV⟩ := hI
  rw [F_X10_copyFrom_86.eq_1]
  refine ok_if (fun hc20 => ?_) (fun hc20 => ?_)
  · exact ok_some ⟨hT, (show WI 158 σ19.1 from by exact hW)⟩
  · refine ok_gR (v := 163) hT rfl (hR 158 7 rfl) ?_
    obtain ⟨q23, eq23, kq23⟩ := arrF hR (k := 163) (i := x2_19) rfl (by first | omega | decide | (simp only [Int32.le_iff_toInt_le, Int32.lt_iff_toInt_lt, ti_add, ti_sub, ti_mul, Int32.reduceToInt] at *; omega)) (by first | omega | decide | (simp only [Int32.le_iff_toInt_le, Int32.lt_iff_toInt_lt, ti_add, ti_sub, ti_mul, Int32.reduceToInt] at *; omega))
    refine ok_aR (v := q23) hT rfl (by first | omega | decide | (simp only [Int32.le_iff_toInt_le, Int32.lt_iff_toInt_lt, ti_add, ti_sub, ti_mul, Int32.reduceToInt] at *; omega)) (by first | omega | decide | (simp only [Int32.le_iff_toInt_le, Int32.lt_iff_toInt_lt, ti_add, ti_sub, ti_mul, Int32.reduceToInt] at *; omega)) eq23 ?_
    refine ok_gR (v := 33) hT rfl (hR 28 7 rfl) ?_
    obtain ⟨q26, eq26, kq26⟩ := arrF hR (k := 33) (i := x2_19) rfl (by first | omega | decide | (simp only [Int32.le_iff_toInt_le, Int32.lt_iff_toInt_lt, ti_add, ti_sub, ti_mul, Int32.reduceToInt] at *; omega)) (by first | omega | decide | (simp only [Int32.le_iff_toInt_le, Int32.lt_iff_toInt_lt, ti_add, ti_sub, ti_mul, Int32.reduceToInt] at *; omega))
    refine ok_aR (v := q26) hT rfl (by first | omega | decide | (simp only [Int32.le_iff_toInt_le, Int32.lt_iff_toInt_lt, ti_add, ti_sub, ti_mul, Int32.reduceToInt] at *; omega)) (by first | omega | decide | (simp only [Int32.le_iff_toInt_le, Int32.lt_iff_toInt_lt, ti_add, ti_sub, ti_mul, Int32.reduceToInt] at *; omega)) eq26 ?_
    refine ok_gC kq23 ?_
    refine ok_zbT (Q := fun V σ => True) hT (s_X2_copyFrom hN (hR.tr hT) kq23 kq26) (fun _ h9 => absurd h9 List.not_mem_nil) (fun v27 σ28 hOσ28 hT hqv27 => ?_)
    have hW : WI 158 σ28.1 := WI.tr hOσ28 (by decide) (by decide) (by decide) hW
    have hV : WI 28 σ28.1 := WI.tr hOσ28 (by decide) (by decide) (by decide) hV
    exact ih86_19 (x2_19 + 1, σ28) (show Tr [158, 159, 160, 161, 162] σ0 σ28 ∧ (0 ≤ (x2_19 + 1).toInt) ∧ (WI 158 σ28.1) ∧ (WI 28 σ28.1) from ⟨hT, (by first | omega | decide | (simp only [Int32.le_iff_toInt_le, Int32.lt_iff_toInt_lt, ti_add, ti_sub, ti_mul, Int32.reduceToInt] at *; omega)), hW, hV⟩) (show ((10 : Int32).toInt - (x2_19 + 1).toInt).toNat < ((10 : Int32).toInt - x2_19.toInt).toNat from (by first | omega | decide | (simp only [Int32.le_iff_toInt_le, Int32.lt_iff_toInt_lt, ti_add, ti_sub, ti_mul, Int32.reduceToInt] at *; omega)))

set_option maxHeartbeats 4000000 in
set_option maxRecDepth 100000 in
theorem s_X10_copyFrom_28_184 {N : Nat} (hN : 1048576 ≤ N)  {σ0 : zS}  (hR : RF σ0.2.2) (hW : WI 28 σ0.1) (hV : WI 184 σ0.1) : Ok (f_X10_copyFrom N 28 184 σ0) (fun r => Tr [28, 29, 30, 31, 32] σ0 r.2 ∧ (WI 28 r.2.1)) := by
  have hT : Tr [28, 29, 30, 31, 32] σ0 σ0 := Tr.rf
  rw [f_X10_copyFrom.eq_1]
  refine ok_gIv rfl rfl ?_
  refine ok_pI hT rfl (by decide) (fun σ2 eσ2 hOσ2 hT => ?_)
  have hW : WI 28 σ2.1 := WI_p0 eσ2 (hV).1 hW
  have hV : WI 184 σ2.1 := WI.tr hOσ2 (by decide) (by decide) (by decide) hV
  refine ok_gIv rfl rfl ?_
  refine ok_pI hT rfl (by decide) (fun σ4 eσ4 hOσ4 hT => ?_)
  have hW : WI 28 σ4.1 := WI_p1 eσ4 hW
  have hV : WI 184 σ4.1 := WI.tr hOσ4 (by decide) (by decide) (by decide) hV
  refine ok_gIv rfl rfl ?_
  refine ok_pI hT rfl (by decide) (fun σ6 eσ6 hOσ6 hT => ?_)
  have hW : WI 28 σ6.1 := WI_p2 eσ6 (hV).2.1 hW
  have hV : WI 184 σ6.1 := WI.tr hOσ6 (by decide) (by decide) (by decide) hV
  refine ok_gR (v := 185) hT rfl (hR 184 3 rfl) ?_
  refine ok_gR (v := 29) hT rfl (hR 28 3 rfl) ?_
  refine ok_cpI hT rfl rfl (by decide) (by first | omega | decide | (simp only [Int32.le_iff_toInt_le, Int32.lt_iff_toInt_lt, ti_add, ti_sub, ti_mul, Int32.reduceToInt] at *; omega)) (by first | omega | decide | (simp only [Int32.le_iff_toInt_le, Int32.lt_iff_toInt_lt, ti_add, ti_sub, ti_mul, Int32.reduceToInt] at *; omega)) (by first | omega | decide | (simp only [Int32.le_iff_toInt_le, Int32.lt_iff_toInt_lt, ti_add, ti_sub, ti_mul, Int32.reduceToInt] at *; omega)) (by first | omega | decide | (simp only [Int32.le_iff_toInt_le, Int32.lt_iff_toInt_lt, ti_add, ti_sub, ti_mul, Int32.reduceToInt] at *; omega)) (by first | omega | decide | (simp only [Int32.le_iff_toInt_le, Int32.lt_iff_toInt_lt, ti_add, ti_sub, ti_mul, Int32.reduceToInt] at *; omega)) (fun σ9 eσ9 hOσ9 hT => ?_)
  have hW : WI 28 σ9.1 := WI_c1 (B := 28) (C := 184) eσ9 hV hW
  have hV : WI 184 σ9.1 := WI.tr hOσ9 (by decide) (by decide) (by decide) hV
  refine ok_gR (v := 186) hT rfl (hR 184 4 rfl) ?_
  refine ok_gR (v := 30) hT rfl (hR 28 4 rfl) ?_
  refine ok_cpI hT rfl rfl (by decide) (by first | omega | decide | (simp only [Int32.le_iff_toInt_le, Int32.lt_iff_toInt_lt, ti_add, ti_sub, ti_mul, Int32.reduceToInt] at *; omega)) (by first | omega | decide | (simp only [Int32.le_iff_toInt_le, Int32.lt_iff_toInt_lt, ti_add, ti_sub, ti_mul, Int32.reduceToInt] at *; omega)) (by first | omega | decide | (simp only [Int32.le_iff_toInt_le, Int32.lt_iff_toInt_lt, ti_add, ti_sub, ti_mul, Int32.reduceToInt] at *; omega)) (by first | omega | decide | (simp only [Int32.le_iff_toInt_le, Int32.lt_iff_toInt_lt, ti_add, ti_sub, ti_mul, Int32.reduceToInt] at *; omega)) (by first | omega | decide | (simp only [Int32.le_iff_toInt_le, Int32.lt_iff_toInt_lt, ti_add, ti_sub, ti_mul, Int32.reduceToInt] at *; omega)) (fun σ12 eσ12 hOσ12 hT => ?_)
  have hW : WI 28 σ12.1 := WI_c2 (B := 28) (C := 184) eσ12 hV hW
  have hV : WI 184 σ12.1 := WI.tr hOσ12 (by decide) (by decide) (by decide) hV
  refine ok_gR (v := 187) hT rfl (hR 184 5 rfl) ?_
  refine ok_gR (v := 31) hT rfl (hR 28 5 rfl) ?_
  refine ok_cpI hT rfl rfl (by decide) (by first | omega | decide | (simp only [Int32.le_iff_toInt_le, Int32.lt_iff_toInt_lt, ti_add, ti_sub, ti_mul, Int32.reduceToInt] at *; omega)) (by first | omega | decide | (simp only [Int32.le_iff_toInt_le, Int32.lt_iff_toInt_lt, ti_add, ti_sub, ti_mul, Int32.reduceToInt] at *; omega)) (by first | omega | decide | (simp only [Int32.le_iff_toInt_le, Int32.lt_iff_toInt_lt, ti_add, ti_sub, ti_mul, Int32.reduceToInt] at *; omega)) (by first | omega | decide | (simp only [Int32.le_iff_toInt_le, Int32.lt_iff_toInt_lt, ti_add, ti_sub, ti_mul, Int32.reduceToInt] at *; omega)) (by first | omega | decide | (simp only [Int32.le_iff_toInt_le, Int32.lt_iff_toInt_lt, ti_add, ti_sub, ti_mul, Int32.reduceToInt] at *; omega)) (fun σ15 eσ15 hOσ15 hT => ?_)
  have hW : WI 28 σ15.1 := WI.tr hOσ15 (by decide) (by decide) (by decide) hW
  have hV : WI 184 σ15.1 := WI.tr hOσ15 (by decide) (by decide) (by decide) hV
  refine ok_gR (v := 188) hT rfl (hR 184 6 rfl) ?_
  refine ok_gR (v := 32) hT rfl (hR 28 6 rfl) ?_
  refine ok_cpI hT rfl rfl (by decide) (by first | omega | decide | (simp only [Int32.le_iff_toInt_le, Int32.lt_iff_toInt_lt, ti_add, ti_sub, ti_mul, Int32.reduceToInt] at *; omega)) (by first | omega | decide | (simp only [Int32.le_iff_toInt_le, Int32.lt_iff_toInt_lt, ti_add, ti_sub, ti_mul, Int32.reduceToInt] at *; omega)) (by first | omega | decide | (simp only [Int32.le_iff_toInt_le, Int32.lt_iff_toInt_lt, ti_add, ti_sub, ti_mul, Int32.reduceToInt] at *; omega)) (by first | omega | decide | (simp only [Int32.le_iff_toInt_le, Int32.lt_iff_toInt_lt, ti_add, ti_sub, ti_mul, Int32.reduceToInt] at *; omega)) (by first | omega | decide | (simp only [Int32.le_iff_toInt_le, Int32.lt_iff_toInt_lt, ti_add, ti_sub, ti_mul, Int32.reduceToInt] at *; omega)) (fun σ18 eσ18 hOσ18 hT => ?_)
  have hW : WI 28 σ18.1 := WI.tr hOσ18 (by decide) (by decide) (by decide) hW
  have hV : WI 184 σ18.1 := WI.tr hOσ18 (by decide) (by decide) (by decide) hV
  refine ok_lp (fun t : Int32 × zS => Tr [28, 29, 30, 31, 32] σ0 (t.2) ∧ (0 ≤ (t.1).toInt) ∧ (WI 28 (t.2).1) ∧ (WI 184 (t.2).1)) (fun t : Int32 × zS => ((10 : Int32).toInt - (t.1).toInt).toNat) (fun again19 t hI ih86_19 => ?_) N _ (show Tr [28, 29, 30, 31, 32] σ0 σ18 ∧ (0 ≤ (0 : Int32).toInt) ∧ (WI 28 σ18.1) ∧ (WI 184 σ18.1) from ⟨hT, (by first | omega | decide | (simp only [Int32.le_iff_toInt_le, Int32.lt_iff_toInt_lt, ti_add, ti_sub, ti_mul, Int32.reduceToInt] at *; omega)), hW, hV⟩) (show ((10 : Int32).toInt - (0 : Int32).toInt).toNat < N from (by first | omega | decide | (simp only [Int32.le_iff_toInt_le, Int32.lt_iff_toInt_lt, ti_add, ti_sub, ti_mul, Int32.reduceToInt] at *; omega)))
  obtain ⟨x2_19, σ19⟩ := t
  have hI : Tr [28, 29, 30, 31, 32] σ0 σ19 ∧ (0 ≤ x2_19.toInt) ∧ (WI 28 σ19.1) ∧ (WI 184 σ19.1) := hI
  obtain ⟨hT, hI19, hW, hV⟩ := hI
  rw [F_X10_copyFrom_86.eq_1]
  refine ok_if (fun hc20 => ?_) (fun hc20 => ?_)
  · exact ok_some ⟨hT, (show WI 28 σ19.1 from by exact hW)⟩
  · refine ok_gR (v := 33) hT rfl (hR 28 7 rfl) ?_
    obtain ⟨q23, eq23, kq23⟩ := arrF hR (k := 33) (i := x2_19) rfl (by first | omega | decide | (simp only [Int32.le_iff_toInt_le, Int32.lt_iff_toInt_lt, ti_add, ti_sub, ti_mul, Int32.reduceToInt] at *; omega)) (by first | omega | decide | (simp only [Int32.le_iff_toInt_le, Int32.lt_iff_toInt_lt, ti_add, ti_sub, ti_mul, Int32.reduceToInt] at *; omega))
    refine ok_aR (v := q23) hT rfl (by first | omega | decide | (simp only [Int32.le_iff_toInt_le, Int32.lt_iff_toInt_lt, ti_add, ti_sub, ti_mul, Int32.reduceToInt] at *; omega)) (by first | omega | decide | (simp only [Int32.le_iff_toInt_le, Int32.lt_iff_toInt_lt, ti_add, ti_sub, ti_mul, Int32.reduceToInt] at *; omega)) eq23 ?_
    refine ok_gR (v := 189) hT rfl (hR 184 7 rfl) ?_
    obtain ⟨q26, eq26, kq26⟩ := arrF hR (k := 189) (i := x2_19) rfl (by first | omega | decide | (simp only [Int32.le_iff_toInt_le, Int32.lt_iff_toInt_lt, ti_add, ti_sub, ti_mul, Int32.reduceToInt] at *; omega)) (by first | omega | decide | (simp only [Int32.le_iff_toInt_le, Int32.lt_iff_toInt_lt, ti_add, ti_sub, ti_mul, Int32.reduceToInt] at *; omega))
    refine ok_aR (v := q26) hT rfl (by first | omega | decide | (simp only [Int32.le_iff_toInt_le, Int32.lt_iff_toInt_lt, ti_add, ti_sub, ti_mul, Int32.reduceToInt] at *; omega)) (by first | omega | decide | (simp only [Int32.le_iff_toInt_le, Int32.lt_iff_toInt_lt, ti_add, ti_sub, ti_mul, Int32.reduceToInt] at *; omega)) eq26 ?_
    refine ok_gC kq23 ?_
    refine ok_zbT (Q := fun V σ => True) hT (s_X2_copyFrom hN (hR.tr hT) kq23 kq26) (fun _ h9 => absurd h9 List.not_mem_nil) (fun v27 σ28 hOσ28 hT hqv27 => ?_)
    have hW : WI 28 σ28.1 := WI.tr hOσ28 (by decide) (by decide) (by decide) hW
    have hV : WI 184 σ28.1 := WI.tr hOσ28 (by decide) (by decide) (by decide) hV
    exact ih86_19 (x2_19 + 1, σ28) (show Tr [28, 29, 30, 31, 32] σ0 σ28 ∧ (0 ≤ (x2_19 + 1).toInt) ∧ (WI 28 σ28.1) ∧ (WI 184 σ28.1) from ⟨hT, (by first | omega | decide | (simp only [Int32.le_iff_toInt_le, Int32.lt_iff_toInt_lt, ti_add, ti_sub, ti_mul, Int32.reduceToInt] at *; omega)), hW, hV⟩) (show ((10 : Int32).toInt - (x2_19 + 1).toInt).toNat < ((10 : Int32).toInt - x2_19.toInt).toNat from (by first | omega | decide | (simp only [Int32.le_iff_toInt_le, Int32.lt_iff_toInt_lt, ti_add, ti_sub, ti_mul, Int32.reduceToInt] at *; omega)))

set_option maxHeartbeats 4000000 in
set_option maxRecDepth 100000 in
theorem s_X10_copyFrom_184_28 {N : Nat} (hN : 1048576 ≤ N)  {σ0 : zS}  (hR : RF σ0.2.2) (hW : WI 184 σ0.1) (hV : WI 28 σ0.1) : Ok (f_X10_copyFrom N 184 28 σ0) (fun r => Tr [184, 185, 186, 187, 188] σ0 r.2 ∧ (WI 184 r.2.1)) := by
  have hT : Tr [184, 185, 186, 187, 188] σ0 σ0 := Tr.rf
  rw [f_X10_copyFrom.eq_1]
  refine ok_gIv rfl rfl ?_
  refine ok_pI hT rfl (by decide) (fun σ2 eσ2 hOσ2 hT => ?_)
  have hW : WI 184 σ2.1 := WI_p0 eσ2 (hV).1 hW
  have hV : WI 28 σ2.1 := WI.tr hOσ2 (by decide) (by decide) (by decide) hV
  refine ok_gIv rfl rfl ?_
  refine ok_pI hT rfl (by decide) (fun σ4 eσ4 hOσ4 hT => ?_)
  have hW : WI 184 σ4.1 := WI_p1 eσ4 hW
  have hV : WI 28 σ4.1 := WI.tr hOσ4 (by decide) (by decide) (by decide) hV
  refine ok_gIv rfl rfl ?_
  refine ok_pI hT rfl (by decide) (fun σ6 eσ6 hOσ6 hT => ?_)
  have hW : WI 184 σ6.1 := WI_p2 eσ6 (hV).2.1 hW
  have hV : WI 28 σ6.1 := WI.tr hOσ6 (by decide) (by decide) (by decide) hV
  refine ok_gR (v := 29) hT rfl (hR 28 3 rfl) ?_
  refine ok_gR (v := 185) hT rfl (hR 184 3 rfl) ?_
  refine ok_cpI hT rfl rfl (by decide) (by first | omega | decide | (simp only [Int32.le_iff_toInt_le, Int32.lt_iff_toInt_lt, ti_add, ti_sub, ti_mul, Int32.reduceToInt] at *; omega)) (by first | omega | decide | (simp only [Int32.le_iff_toInt_le, Int32.lt_iff_toInt_lt, ti_add, ti_sub, ti_mul, Int32.reduceToInt] at *; omega)) (by first | omega | decide | (simp only [Int32.le_iff_toInt_le, Int32.lt_iff_toInt_lt, ti_add, ti_sub, ti_mul, Int32.reduceToInt] at *; omega)) (by first | omega | decide | (simp only [Int32.le_iff_toInt_le, Int32.lt_iff_toInt_lt, ti_add, ti_sub, ti_mul, Int32.reduceToInt] at *; omega)) (by first | omega | decide | (simp only [Int32.le_iff_toInt_le, Int32.lt_iff_toInt_lt, ti_add, ti_sub, ti_mul, Int32.reduceToInt] at *; omega)) (fun σ9 eσ9 hOσ9 hT => ?_)
  have hW : WI 184 σ9.1 := WI_c1 (B := 184) (C := 28) eσ9 hV hW
  have hV : WI 28 σ9.1 := WI.tr hOσ9 (by decide) (by decide) (by decide) hV
  refine ok_gR (v := 30) hT rfl (hR 28 4 rfl) ?_
  refine ok_gR (v := 186) hT rfl (hR 184 4 rfl) ?_
  refine ok_cpI hT rfl rfl (by decide) (by first | omega | decide | (simp only [Int32.le_iff_toInt_le, Int32.lt_iff_toInt_lt, ti_add, ti_sub, ti_mul, Int32.reduceToInt] at *; omega)) (by first | omega | decide | (simp only [Int32.le_iff_toInt_le, Int32.lt_iff_toInt_lt, ti_add, ti_sub, ti_mul, Int32.reduceToInt] at *; omega)) (by first | omega | decide | (simp only [Int32.le_iff_toInt_le, Int32.lt_iff_toInt_lt, ti_add, ti_sub, ti_mul, Int32.reduceToInt] at *; omega)) (by first | omega | decide | (simp only [Int32.le_iff_toInt_le, Int32.lt_iff_toInt_lt, ti_add, ti_sub, ti_mul, Int32.reduceToInt] at *; omega)) (by first | omega | decide | (simp only [Int32.le_iff_toInt_le, Int32.lt_iff_toInt_lt, ti_add, ti_sub, ti_mul, Int32.reduceToInt] at *; omega)) (fun σ12 eσ12 hOσ12 hT => ?_)
  have hW : WI 184 σ12.1 := WI_c2 (B := 184) (C := 28) eσ12 hV hW
  have hV : WI 28 σ12.1 := WI.tr hOσ12 (by decide) (by decide) (by decide) hV
  refine ok_gR (v := 31) hT rfl (hR 28 5 rfl) ?_
  refine ok_gR (v := 187) hT rfl (hR 184 5 rfl) ?_
  refine ok_cpI hT rfl rfl (by decide) (by first | omega | decide | (simp only [Int32.le_iff_toInt_le, Int32.lt_iff_toInt_lt, ti_add, ti_sub, ti_mul, Int32.reduceToInt] at *; omega)) (by first | omega | decide | (simp only [Int32.le_iff_toInt_le, Int32.lt_iff_toInt_lt, ti_add, ti_sub, ti_mul, Int32.reduceToInt] at *; omega)) (by first | omega | decide | (simp only [Int32.le_iff_toInt_le, Int32.lt_iff_toInt_lt, ti_add, ti_sub, ti_mul, Int32.reduceToInt] at *; omega)) (by first | omega | decide | (simp only [Int32.le_iff_toInt_le, Int32.lt_iff_toInt_lt, ti_add, ti_sub, ti_mul, Int32.reduceToInt] at *; omega)) (by first | omega | decide | (simp only [Int32.le_iff_toInt_le, Int32.lt_iff_toInt_lt, ti_add, ti_sub, ti_mul, Int32.reduceToInt] at *; omega)) (fun σ15 eσ15 hOσ15 hT => ?_)
  have hW : WI 184 σ15.1 := WI.tr hOσ15 (by decide) (by decide) (by decide) hW
  have hV : WI 28 σ15.1 := WI.tr hOσ15 (by decide) (by decide) (by decide) hV
  refine ok_gR (v := 32) hT rfl (hR 28 6 rfl) ?_
  refine ok_gR (v := 188) hT rfl (hR 184 6 rfl) ?_
  refine ok_cpI hT rfl rfl (by decide) (by first | omega | decide | (simp only [Int32.le_iff_toInt_le, Int32.lt_iff_toInt_lt, ti_add, ti_sub, ti_mul, Int32.reduceToInt] at *; omega)) (by first | omega | decide | (simp only [Int32.le_iff_toInt_le, Int32.lt_iff_toInt_lt, ti_add, ti_sub, ti_mul, Int32.reduceToInt] at *; omega)) (by first | omega | decide | (simp only [Int32.le_iff_toInt_le, Int32.lt_iff_toInt_lt, ti_add, ti_sub, ti_mul, Int32.reduceToInt] at *; omega)) (by first | omega | decide | (simp only [Int32.le_iff_toInt_le, Int32.lt_iff_toInt_lt, ti_add, ti_sub, ti_mul, Int32.reduceToInt] at *; omega)) (by first | omega | decide | (simp only [Int32.le_iff_toInt_le, Int32.lt_iff_toInt_lt, ti_add, ti_sub, ti_mul, Int32.reduceToInt] at *; omega)) (fun σ18 eσ18 hOσ18 hT => ?_)
  have hW : WI 184 σ18.1 := WI.tr hOσ18 (by decide) (by decide) (by decide) hW
  have hV : WI 28 σ18.1 := WI.tr hOσ18 (by decide) (by decide) (by decide) hV
  refine ok_lp (fun t : Int32 × zS => Tr [184, 185, 186, 187, 188] σ0 (t.2) ∧ (0 ≤ (t.1).toInt) ∧ (WI 184 (t.2).1) ∧ (WI 28 (t.2).1)) (fun t : Int32 × zS => ((10 : Int32).toInt - (t.1).toInt).toNat) (fun again19 t hI ih86_19 => ?_) N _ (show Tr [184, 185, 186, 187, 188] σ0 σ18 ∧ (0 ≤ (0 : Int32).toInt) ∧ (WI 184 σ18.1) ∧ (WI 28 σ18.1) from ⟨hT, (by first | omega | decide | (simp only [Int32.le_iff_toInt_le, Int32.lt_iff_toInt_lt, ti_add, ti_sub, ti_mul, Int32.reduceToInt] at *; omega)), hW, hV⟩) (show ((10 : Int32).toInt - (0 : Int32).toInt).toNat < N from (by first | omega | decide | (simp only [Int32.le_iff_toInt_le, Int32.lt_iff_toInt_lt, ti_add, ti_sub, ti_mul, Int32.reduceToInt] at *; omega)))
  obtain ⟨x2_19, σ19⟩ := t
  have hI : Tr [184, 185, 186, 187, 188] σ0 σ19 ∧ (0 ≤ x2_19.toInt) ∧ (WI 184 σ19.1) ∧ (WI 28 σ19.1) := hI
  obtain ⟨hT, hI19, hW, hV⟩ := hI
  rw [F_X10_copyFrom_86.eq_1]
  refine ok_if (fun hc20 => ?_) (fun hc20 => ?_)
  · exact ok_some ⟨hT, (show WI 184 σ19.1 from by exact hW)⟩
  · refine ok_gR (v := 189) hT rfl (hR 184 7 rfl) ?_
    obtain ⟨q23, eq23, kq23⟩ := arrF hR (k := 189) (i := x2_19) rfl (by first | omega | decide | (simp only [Int32.le_iff_toInt_le, Int32.lt_iff_toInt_lt, ti_add, ti_sub, ti_mul, Int32.reduceToInt] at *; omega)) (by first | omega | decide | (simp only [Int32.le_iff_toInt_le, Int32.lt_iff_toInt_lt, ti_add, ti_sub, ti_mul, Int32.reduceToInt] at *; omega))
    refine ok_aR (v := q23) hT rfl (by first | omega | decide | (simp only [Int32.le_iff_toInt_le, Int32.lt_iff_toInt_lt, ti_add, ti_sub, ti_mul, Int32.reduceToInt] at *; omega)) (by first | omega | decide | (simp only [Int32.le_iff_toInt_le, Int32.lt_iff_toInt_lt, ti_add, ti_sub, ti_mul, Int32.reduceToInt] at *; omega)) eq23 ?_
    refine ok_gR (v := 33) hT rfl (hR 28 7 rfl) ?_
    obtain ⟨q26, eq26, kq26⟩ := arrF hR (k := 33) (i := x2_19) rfl (by first | omega | decide | (simp only [Int32.le_iff_toInt_le, Int32.lt_iff_toInt_lt, ti_add, ti_sub, ti_mul, Int32.reduceToInt] at *; omega)) (by first | omega | decide | (simp only [Int32.le_iff_toInt_le, Int32.lt_iff_toInt_lt, ti_add, ti_sub, ti_mul, Int32.reduceToInt] at *; omega))
    refine ok_aR (v := q26) hT rfl (by first | omega | decide | (simp only [Int32.le_iff_toInt_le, Int32.lt_iff_toInt_lt, ti_add, ti_sub, ti_mul, Int32.reduceToInt] at *; omega)) (by first | omega | decide | (simp only [Int32.le_iff_toInt_le, Int32.lt_iff_toInt_lt, ti_add, ti_sub, ti_mul, Int32.reduceToInt] at *; omega)) eq26 ?_
    refine ok_gC kq23 ?_
    refine ok_zbT (Q := fun V σ => True) hT (s_X2_copyFrom hN (hR.tr hT) kq23 kq26) (fun _ h9 => absurd h9 List.not_mem_nil) (fun v27 σ28 hOσ28 hT hqv27 => ?_)
    have hW : WI 184 σ28.1 := WI.tr hOσ28 (by decide) (by decide) (by decide) hW
    have hV : WI 28 σ28.1 := WI.tr hOσ28 (by decide) (by decide) (by decide) hV
    exact ih86_19 (x2_19 + 1, σ28) (show Tr [184, 185, 186, 187, 188] σ0 σ28 ∧ (0 ≤ (x2_19 + 1).toInt) ∧ (WI 184 σ28.1) ∧ (WI 28 σ28.1) from ⟨hT, (by first | omega | decide | (simp only [Int32.le_iff_toInt_le, Int32.lt_iff_toInt_lt, ti_add, ti_sub, ti_mul, Int32.reduceToInt] at *; omega)), hW, hV⟩) (show ((10 : Int32).toInt - (x2_19 + 1).toInt).toNat < ((10 : Int32).toInt - x2_19.toInt).toNat from (by first | omega | decide | (simp only [Int32.le_iff_toInt_le, Int32.lt_iff_toInt_lt, ti_add, ti_sub, ti_mul, Int32.reduceToInt] at *; omega)))
end Zq0_9
section Zq0_10
set_option maxHeartbeats 4000000 in
set_option maxRecDepth 100000 in
theorem s_X6_acrossFrom_2 {N : Nat} (hN : 1048576 ≤ N) {x1 : Int32} {x2 : Int32} {σ0 : zS}  (hR : RF σ0.2.2) (hW : WI 2 σ0.1) : Ok (f_X6_acrossFrom N 2 x1 x2 σ0) (fun r => Tr [] σ0 r.2 ∧ (-1 ≤ r.1.toInt ∧ r.1.toInt ≤ 7)) := by
  have hT : Tr [] σ0 σ0 := Tr.rf
  rw [f_X6_acrossFrom.eq_1]
  refine ok_if (fun hc1 => ?_) (fun hc1 => ?_)
  · exact ok_some ⟨hT, (show -1 ≤ (-1 : Int32).toInt ∧ (-1 : Int32).toInt ≤ 7 from by first | omega | decide | (simp only [Int32.le_iff_toInt_le, Int32.lt_iff_toInt_lt, ti_add, ti_sub, ti_mul, Int32.reduceToInt] at *; omega))⟩
  · refine ok_if (fun hc2 => ?_) (fun hc2 => ?_)
    · refine ok_gR (v := 3) hT rfl (hR 2 3 rfl) ?_
      refine ok_aIn rfl (by first | omega | decide | (simp only [Int32.le_iff_toInt_le, Int32.lt_iff_toInt_lt, ti_add, ti_sub, ti_mul, Int32.reduceToInt] at *; omega)) (by first | omega | decide | (simp only [Int32.le_iff_toInt_le, Int32.lt_iff_toInt_lt, ti_add, ti_sub, ti_mul, Int32.reduceToInt] at *; omega)) (fun v4 ev4 => ?_)
      have qV17 : 0 ≤ v4.toInt ∧ v4.toInt ≤ 7 := by rw [ev4]; exact WI_from (B := 2) (i := (x1)) hT (by decide) hW (by simp only [Int32.le_iff_toInt_le, Int32.lt_iff_toInt_lt, ti_add, ti_sub, ti_mul, Int32.reduceToInt] at *; omega) (by simp only [Int32.le_iff_toInt_le, Int32.lt_iff_toInt_lt, ti_add, ti_sub, ti_mul, Int32.reduceToInt] at *; omega)
      refine ok_if (fun hc5 => ?_) (fun hc5 => ?_)
      · refine ok_gR (v := 4) hT rfl (hR 2 4 rfl) ?_
        refine ok_aIn rfl (by first | omega | decide | (simp only [Int32.le_iff_toInt_le, Int32.lt_iff_toInt_lt, ti_add, ti_sub, ti_mul, Int32.reduceToInt] at *; omega)) (by first | omega | decide | (simp only [Int32.le_iff_toInt_le, Int32.lt_iff_toInt_lt, ti_add, ti_sub, ti_mul, Int32.reduceToInt] at *; omega)) (fun v7 ev7 => ?_)
        have qV27 : 0 ≤ v7.toInt ∧ v7.toInt ≤ 7 := by rw [ev7]; exact WI_till (B := 2) (i := (x1)) hT (by decide) hW (by simp only [Int32.le_iff_toInt_le, Int32.lt_iff_toInt_lt, ti_add, ti_sub, ti_mul, Int32.reduceToInt] at *; omega) (by simp only [Int32.le_iff_toInt_le, Int32.lt_iff_toInt_lt, ti_add, ti_sub, ti_mul, Int32.reduceToInt] at *; omega)
        exact ok_some ⟨hT, (show -1 ≤ v7.toInt ∧ v7.toInt ≤ 7 from by first | omega | decide | (simp only [Int32.le_iff_toInt_le, Int32.lt_iff_toInt_lt, ti_add, ti_sub, ti_mul, Int32.reduceToInt] at *; omega))⟩
      · refine ok_gR (v := 4) hT rfl (hR 2 4 rfl) ?_
        refine ok_aIn rfl (by first | omega | decide | (simp only [Int32.le_iff_toInt_le, Int32.lt_iff_toInt_lt, ti_add, ti_sub, ti_mul, Int32.reduceToInt] at *; omega)) (by first | omega | decide | (simp only [Int32.le_iff_toInt_le, Int32.lt_iff_toInt_lt, ti_add, ti_sub, ti_mul, Int32.reduceToInt] at *; omega)) (fun v9 ev9 => ?_)
        have qV34 : 0 ≤ v9.toInt ∧ v9.toInt ≤ 7 := by rw [ev9]; exact WI_till (B := 2) (i := (x1)) hT (by decide) hW (by simp only [Int32.le_iff_toInt_le, Int32.lt_iff_toInt_lt, ti_add, ti_sub, ti_mul, Int32.reduceToInt] at *; omega) (by simp only [Int32.le_iff_toInt_le, Int32.lt_iff_toInt_lt, ti_add, ti_sub, ti_mul, Int32.reduceToInt] at *; omega)
        refine ok_if (fun hc10 => ?_) (fun hc10 => ?_)
        · refine ok_gR (v := 3) hT rfl (hR 2 3 rfl) ?_
          refine ok_aIn rfl (by first | omega | decide | (simp only [Int32.le_iff_toInt_le, Int32.lt_iff_toInt_lt, ti_add, ti_sub, ti_mul, Int32.reduceToInt] at *; omega)) (by first | omega | decide | (simp only [Int32.le_iff_toInt_le, Int32.lt_iff_toInt_lt, ti_add, ti_sub, ti_mul, Int32.reduceToInt] at *; omega)) (fun v12 ev12 => ?_)
          have qV44 : 0 ≤ v12.toInt ∧ v12.toInt ≤ 7 := by rw [ev12]; exact WI_from (B := 2) (i := (x1)) hT (by decide) hW (by simp only [Int32.le_iff_toInt_le, Int32.lt_iff_toInt_lt, ti_add, ti_sub, ti_mul, Int32.reduceToInt] at *; omega) (by simp only [Int32.le_iff_toInt_le, Int32.lt_iff_toInt_lt, ti_add, ti_sub, ti_mul, Int32.reduceToInt] at *; omega)
          exact ok_some ⟨hT, (show -1 ≤ v12.toInt ∧ v12.toInt ≤ 7 from by first | omega | decide | (simp only [Int32.le_iff_toInt_le, Int32.lt_iff_toInt_lt, ti_add, ti_sub, ti_mul, Int32.reduceToInt] at *; omega))⟩
        · exact ok_some ⟨hT, (show -1 ≤ (-1 : Int32).toInt ∧ (-1 : Int32).toInt ≤ 7 from by first | omega | decide | (simp only [Int32.le_iff_toInt_le, Int32.lt_iff_toInt_lt, ti_add, ti_sub, ti_mul, Int32.reduceToInt] at *; omega))⟩
    · exact ok_some ⟨hT, (show -1 ≤ (-1 : Int32).toInt ∧ (-1 : Int32).toInt ≤ 7 from by first | omega | decide | (simp only [Int32.le_iff_toInt_le, Int32.lt_iff_toInt_lt, ti_add, ti_sub, ti_mul, Int32.reduceToInt] at *; omega))⟩

set_option maxHeartbeats 4000000 in
set_option maxRecDepth 100000 in
theorem s_X6_touchedBy_2 {N : Nat} (hN : 1048576 ≤ N) {x1 : Int32} {σ0 : zS}  (hR : RF σ0.2.2)  : Ok (f_X6_touchedBy N 2 x1 σ0) (fun r => Tr [] σ0 r.2 ∧ (True)) := by
  have hT : Tr [] σ0 σ0 := Tr.rf
  rw [f_X6_touchedBy.eq_1]
  refine ok_lp (fun t : Int32 × Int32 × zS => Tr [] σ0 (t.2.2) ∧ (0 ≤ (t.2.1).toInt)) (fun t : Int32 × Int32 × zS => (10 - (t.2.1).toInt).toNat) (fun again1 t hI ih4_1 => ?_) N _ (show Tr [] σ0 σ0 ∧ (0 ≤ (0 : Int32).toInt) from ⟨hT, (by first | omega | decide | (simp only [Int32.le_iff_toInt_le, Int32.lt_iff_toInt_lt, ti_add, ti_sub, ti_mul, Int32.reduceToInt] at *; omega))⟩) (show (10 - (0 : Int32).toInt).toNat < N from (by first | omega | decide | (simp only [Int32.le_iff_toInt_le, Int32.lt_iff_toInt_lt, ti_add, ti_sub, ti_mul, Int32.reduceToInt] at *; omega)))
  obtain ⟨x2_1, x3_1, σ1⟩ := t
  have hI : Tr [] σ0 σ1 ∧ (0 ≤ x3_1.toInt) := hI
  obtain ⟨hT, hI1⟩ := hI
  rw [F_X6_touchedBy_4.eq_1]
  refine ok_gI0 hT rfl (by decide) ?_
  refine ok_if (fun hc3 => ?_) (fun hc3 => ?_)
  · exact ok_some ⟨hT, trivial⟩
  · refine ok_if (fun hc4 => ?_) (fun hc4 => ?_)
    · exact ok_some ⟨hT, trivial⟩
    · refine ok_if (fun hc5 => ?_) (fun hc5 => ?_)
      · exact ih4_1 (x2_1, x3_1 + 1, σ1) (show Tr [] σ0 σ1 ∧ (0 ≤ (x3_1 + 1).toInt) from ⟨hT, (by first | omega | decide | (simp only [Int32.le_iff_toInt_le, Int32.lt_iff_toInt_lt, ti_add, ti_sub, ti_mul, Int32.reduceToInt] at *; omega))⟩) (show (10 - (x3_1 + 1).toInt).toNat < (10 - x3_1.toInt).toNat from (by first | omega | decide | (simp only [Int32.le_iff_toInt_le, Int32.lt_iff_toInt_lt, ti_add, ti_sub, ti_mul, Int32.reduceToInt] at *; omega)))
      · refine ok_gR (v := 3) hT rfl (hR 2 3 rfl) ?_
        refine ok_aIn rfl (by first | omega | decide | (simp only [Int32.le_iff_toInt_le, Int32.lt_iff_toInt_lt, ti_add, ti_sub, ti_mul, Int32.reduceToInt] at *; omega)) (by first | omega | decide | (simp only [Int32.le_iff_toInt_le, Int32.lt_iff_toInt_lt, ti_add, ti_sub, ti_mul, Int32.reduceToInt] at *; omega)) (fun v7 ev7 => ?_)
        refine ok_gR (v := 4) hT rfl (hR 2 4 rfl) ?_
        refine ok_aIn rfl (by first | omega | decide | (simp only [Int32.le_iff_toInt_le, Int32.lt_iff_toInt_lt, ti_add, ti_sub, ti_mul, Int32.reduceToInt] at *; omega)) (by first | omega | decide | (simp only [Int32.le_iff_toInt_le, Int32.lt_iff_toInt_lt, ti_add, ti_sub, ti_mul, Int32.reduceToInt] at *; omega)) (fun v9 ev9 => ?_)
        exact ih4_1 (x2_1 ||| (((1 : Int32) <<< (v7 &&& 31)) ||| ((1 : Int32) <<< (v9 &&& 31))), x3_1 + 1, σ1) (show Tr [] σ0 σ1 ∧ (0 ≤ (x3_1 + 1).toInt) from ⟨hT, (by first | omega | decide | (simp only [Int32.le_iff_toInt_le, Int32.lt_iff_toInt_lt, ti_add, ti_sub, ti_mul, Int32.reduceToInt] at *; omega))⟩) (show (10 - (x3_1 + 1).toInt).toNat < (10 - x3_1.toInt).toNat from (by first | omega | decide | (simp only [Int32.le_iff_toInt_le, Int32.lt_iff_toInt_lt, ti_add, ti_sub, ti_mul, Int32.reduceToInt] at *; omega)))

set_option maxHeartbeats 4000000 in
set_option maxRecDepth 100000 in
theorem s_X6_joinClumps {N : Nat} (hN : 1048576 ≤ N) {x1 : Int32} {x2 : Int32} {σ0 : zS}  (hR : RF σ0.2.2)  : Ok (f_X6_joinClumps N 124 x1 x2 σ0) (fun r => Tr [125] σ0 r.2 ∧ (r.1 = 0 ∨ r.1 = 1)) := by
  have hT : Tr [125] σ0 σ0 := Tr.rf
  rw [f_X6_joinClumps.eq_1]
  refine ok_if (fun hc1 => ?_) (fun hc1 => ?_)
  · exact ok_rZ (Or.inl rfl) ⟨hT, (show (0 : Int32) = 0 ∨ (0 : Int32) = 1 from by first | exact Or.inl rfl | exact Or.inr rfl)⟩
  · refine ok_if (fun hc2 => ?_) (fun hc2 => ?_)
    · exact ok_rZ (Or.inl rfl) ⟨hT, (show (0 : Int32) = 0 ∨ (0 : Int32) = 1 from by first | exact Or.inl rfl | exact Or.inr rfl)⟩
    · refine ok_if (fun hc3 => ?_) (fun hc3 => ?_)
      · exact ok_rZ (Or.inl rfl) ⟨hT, (show (0 : Int32) = 0 ∨ (0 : Int32) = 1 from by first | exact Or.inl rfl | exact Or.inr rfl)⟩
      · refine ok_if (fun hc4 => ?_) (fun hc4 => ?_)
        · exact ok_rZ (Or.inl rfl) ⟨hT, (show (0 : Int32) = 0 ∨ (0 : Int32) = 1 from by first | exact Or.inl rfl | exact Or.inr rfl)⟩
        · refine ok_gR (v := 125) hT rfl (hR 124 0 rfl) ?_
          refine ok_aIn rfl (by first | omega | decide | (simp only [Int32.le_iff_toInt_le, Int32.lt_iff_toInt_lt, ti_add, ti_sub, ti_mul, Int32.reduceToInt] at *; omega)) (by first | omega | decide | (simp only [Int32.le_iff_toInt_le, Int32.lt_iff_toInt_lt, ti_add, ti_sub, ti_mul, Int32.reduceToInt] at *; omega)) (fun v6 ev6 => ?_)
          refine ok_gR (v := 125) hT rfl (hR 124 0 rfl) ?_
          refine ok_aIn rfl (by first | omega | decide | (simp only [Int32.le_iff_toInt_le, Int32.lt_iff_toInt_lt, ti_add, ti_sub, ti_mul, Int32.reduceToInt] at *; omega)) (by first | omega | decide | (simp only [Int32.le_iff_toInt_le, Int32.lt_iff_toInt_lt, ti_add, ti_sub, ti_mul, Int32.reduceToInt] at *; omega)) (fun v8 ev8 => ?_)
          refine ok_if (fun hc9 => ?_) (fun hc9 => ?_)
          · exact ok_rZ (Or.inl rfl) ⟨hT, (show (0 : Int32) = 0 ∨ (0 : Int32) = 1 from by first | exact Or.inl rfl | exact Or.inr rfl)⟩
          · refine ok_gR (v := 125) hT rfl (hR 124 0 rfl) ?_
            refine ok_aIn rfl (by first | omega | decide | (simp only [Int32.le_iff_toInt_le, Int32.lt_iff_toInt_lt, ti_add, ti_sub, ti_mul, Int32.reduceToInt] at *; omega)) (by first | omega | decide | (simp only [Int32.le_iff_toInt_le, Int32.lt_iff_toInt_lt, ti_add, ti_sub, ti_mul, Int32.reduceToInt] at *; omega)) (fun v11 ev11 => ?_)
            refine ok_lp (fun t : Int32 × zS => Tr [125] σ0 (t.2) ∧ (0 ≤ (t.1).toInt)) (fun t : Int32 × zS => ((8 : Int32).toInt - (t.1).toInt).toNat) (fun again12 t hI ih47_12 => ?_) N _ (show Tr [125] σ0 σ0 ∧ (0 ≤ (0 : Int32).toInt) from ⟨hT, (by first | omega | decide | (simp only [Int32.le_iff_toInt_le, Int32.lt_iff_toInt_lt, ti_add, ti_sub, ti_mul, Int32.reduceToInt] at *; omega))⟩) (show ((8 : Int32).toInt - (0 : Int32).toInt).toNat < N from (by first | omega | decide | (simp only [Int32.le_iff_toInt_le, Int32.lt_iff_toInt_lt, ti_add, ti_sub, ti_mul, Int32.reduceToInt] at *; omega)))
            obtain ⟨x4_12, σ12⟩ := t
            have hI : Tr [125] σ0 σ12 ∧ (0 ≤ x4_12.toInt) := hI
            obtain ⟨hT, hI12⟩ := hI
            rw [F_X6_joinClumps_47.eq_1]
            refine ok_if (fun hc13 => ?_) (fun hc13 => ?_)
            · exact ok_rZ (Or.inr rfl) ⟨hT, (show (1 : Int32) = 0 ∨ (1 : Int32) = 1 from by first | exact Or.inl rfl | exact Or.inr rfl)⟩
            · refine ok_gR (v := 125) hT rfl (hR 124 0 rfl) ?_
              refine ok_aIn rfl (by first | omega | decide | (simp only [Int32.le_iff_toInt_le, Int32.lt_iff_toInt_lt, ti_add, ti_sub, ti_mul, Int32.reduceToInt] at *; omega)) (by first | omega | decide | (simp only [Int32.le_iff_toInt_le, Int32.lt_iff_toInt_lt, ti_add, ti_sub, ti_mul, Int32.reduceToInt] at *; omega)) (fun v15 ev15 => ?_)
              refine ok_if (fun hc16 => ?_) (fun hc16 => ?_)
              · refine ok_gR (v := 125) hT rfl (hR 124 0 rfl) ?_
                refine ok_gR (v := 125) hT rfl (hR 124 0 rfl) ?_
                refine ok_aIn rfl (by first | omega | decide | (simp only [Int32.le_iff_toInt_le, Int32.lt_iff_toInt_lt, ti_add, ti_sub, ti_mul, Int32.reduceToInt] at *; omega)) (by first | omega | decide | (simp only [Int32.le_iff_toInt_le, Int32.lt_iff_toInt_lt, ti_add, ti_sub, ti_mul, Int32.reduceToInt] at *; omega)) (fun v19 ev19 => ?_)
                refine ok_s14 hT rfl (by decide) (by first | omega | decide | (simp only [Int32.le_iff_toInt_le, Int32.lt_iff_toInt_lt, ti_add, ti_sub, ti_mul, Int32.reduceToInt] at *; omega)) (by first | omega | decide | (simp only [Int32.le_iff_toInt_le, Int32.lt_iff_toInt_lt, ti_add, ti_sub, ti_mul, Int32.reduceToInt] at *; omega)) (fun σ20 eσ20 hOσ20 hT => ?_)
                exact ih47_12 (x4_12 + 1, σ20) (show Tr [125] σ0 σ20 ∧ (0 ≤ (x4_12 + 1).toInt) from ⟨hT, (by first | omega | decide | (simp only [Int32.le_iff_toInt_le, Int32.lt_iff_toInt_lt, ti_add, ti_sub, ti_mul, Int32.reduceToInt] at *; omega))⟩) (show ((8 : Int32).toInt - (x4_12 + 1).toInt).toNat < ((8 : Int32).toInt - x4_12.toInt).toNat from (by first | omega | decide | (simp only [Int32.le_iff_toInt_le, Int32.lt_iff_toInt_lt, ti_add, ti_sub, ti_mul, Int32.reduceToInt] at *; omega)))
              · exact ih47_12 (x4_12 + 1, σ12) (show Tr [125] σ0 σ12 ∧ (0 ≤ (x4_12 + 1).toInt) from ⟨hT, (by first | omega | decide | (simp only [Int32.le_iff_toInt_le, Int32.lt_iff_toInt_lt, ti_add, ti_sub, ti_mul, Int32.reduceToInt] at *; omega))⟩) (show ((8 : Int32).toInt - (x4_12 + 1).toInt).toNat < ((8 : Int32).toInt - x4_12.toInt).toNat from (by first | omega | decide | (simp only [Int32.le_iff_toInt_le, Int32.lt_iff_toInt_lt, ti_add, ti_sub, ti_mul, Int32.reduceToInt] at *; omega)))

set_option maxHeartbeats 4000000 in
set_option maxRecDepth 100000 in
theorem s_X6_isWithoutRing_2 {N : Nat} (hN : 1048576 ≤ N) {x2 : Int32} {σ0 : zS}  (hR : RF σ0.2.2)  : Ok (f_X6_isWithoutRing N 124 2 x2 σ0) (fun r => Tr [125] σ0 r.2 ∧ (r.1 = 0 ∨ r.1 = 1)) := by
  have hT : Tr [125] σ0 σ0 := Tr.rf
  rw [f_X6_isWithoutRing.eq_1]
  refine ok_lp (fun t : Int32 × zS => Tr [125] σ0 (t.2) ∧ (0 ≤ (t.1).toInt)) (fun t : Int32 × zS => ((8 : Int32).toInt - (t.1).toInt).toNat) (fun again1 t hI ih2_1 => ?_) N _ (show Tr [125] σ0 σ0 ∧ (0 ≤ (0 : Int32).toInt) from ⟨hT, (by first | omega | decide | (simp only [Int32.le_iff_toInt_le, Int32.lt_iff_toInt_lt, ti_add, ti_sub, ti_mul, Int32.reduceToInt] at *; omega))⟩) (show ((8 : Int32).toInt - (0 : Int32).toInt).toNat < N from (by first | omega | decide | (simp only [Int32.le_iff_toInt_le, Int32.lt_iff_toInt_lt, ti_add, ti_sub, ti_mul, Int32.reduceToInt] at *; omega)))
  obtain ⟨x3_1, σ1⟩ := t
  have hI : Tr [125] σ0 σ1 ∧ (0 ≤ x3_1.toInt) := hI
  obtain ⟨hT, hI1⟩ := hI
  rw [F_X6_isWithoutRing_2.eq_1]
  refine ok_if (fun hc2 => ?_) (fun hc2 => ?_)
  · refine ok_lp (fun t : Int32 × zS => Tr [125] σ0 (t.2) ∧ (0 ≤ (t.1).toInt)) (fun t : Int32 × zS => (10 - (t.1).toInt).toNat) (fun again3 t hI ih23_3 => ?_) N _ (show Tr [125] σ0 σ1 ∧ (0 ≤ (0 : Int32).toInt) from ⟨hT, (by first | omega | decide | (simp only [Int32.le_iff_toInt_le, Int32.lt_iff_toInt_lt, ti_add, ti_sub, ti_mul, Int32.reduceToInt] at *; omega))⟩) (show (10 - (0 : Int32).toInt).toNat < N from (by first | omega | decide | (simp only [Int32.le_iff_toInt_le, Int32.lt_iff_toInt_lt, ti_add, ti_sub, ti_mul, Int32.reduceToInt] at *; omega)))
    obtain ⟨x3_3, σ3⟩ := t
    have hI : Tr [125] σ0 σ3 ∧ (0 ≤ x3_3.toInt) := hI
    obtain ⟨hT, hI3⟩ := hI
    rw [F_X6_isWithoutRing_23.eq_1]
    refine ok_gI0 hT rfl (by decide) ?_
    refine ok_if (fun hc5 => ?_) (fun hc5 => ?_)
    · exact ok_rZ (Or.inr rfl) ⟨hT, (show (1 : Int32) = 0 ∨ (1 : Int32) = 1 from by first | exact Or.inl rfl | exact Or.inr rfl)⟩
    · refine ok_if (fun hc6 => ?_) (fun hc6 => ?_)
      · exact ok_rZ (Or.inr rfl) ⟨hT, (show (1 : Int32) = 0 ∨ (1 : Int32) = 1 from by first | exact Or.inl rfl | exact Or.inr rfl)⟩
      · refine ok_if (fun hc7 => ?_) (fun hc7 => ?_)
        · exact ih23_3 (x3_3 + 1, σ3) (show Tr [125] σ0 σ3 ∧ (0 ≤ (x3_3 + 1).toInt) from ⟨hT, (by first | omega | decide | (simp only [Int32.le_iff_toInt_le, Int32.lt_iff_toInt_lt, ti_add, ti_sub, ti_mul, Int32.reduceToInt] at *; omega))⟩) (show (10 - (x3_3 + 1).toInt).toNat < (10 - x3_3.toInt).toNat from (by first | omega | decide | (simp only [Int32.le_iff_toInt_le, Int32.lt_iff_toInt_lt, ti_add, ti_sub, ti_mul, Int32.reduceToInt] at *; omega)))
        · refine ok_gR (v := 3) hT rfl (hR 2 3 rfl) ?_
          refine ok_aIn rfl (by first | omega | decide | (simp only [Int32.le_iff_toInt_le, Int32.lt_iff_toInt_lt, ti_add, ti_sub, ti_mul, Int32.reduceToInt] at *; omega)) (by first | omega | decide | (simp only [Int32.le_iff_toInt_le, Int32.lt_iff_toInt_lt, ti_add, ti_sub, ti_mul, Int32.reduceToInt] at *; omega)) (fun v9 ev9 => ?_)
          refine ok_gR (v := 4) hT rfl (hR 2 4 rfl) ?_
          refine ok_aIn rfl (by first | omega | decide | (simp only [Int32.le_iff_toInt_le, Int32.lt_iff_toInt_lt, ti_add, ti_sub, ti_mul, Int32.reduceToInt] at *; omega)) (by first | omega | decide | (simp only [Int32.le_iff_toInt_le, Int32.lt_iff_toInt_lt, ti_add, ti_sub, ti_mul, Int32.reduceToInt] at *; omega)) (fun v11 ev11 => ?_)
          refine ok_gC rfl ?_
          refine ok_zbT (Q := fun V σ => V = 0 ∨ V = 1) hT (s_X6_joinClumps hN (hR.tr hT) ) (by decide) (fun v12 σ13 hOσ13 hT hqv12 => ?_)
          have hqv12 : v12 = 0 ∨ v12 = 1 := hqv12
          refine ok_if (fun hc14 => ?_) (fun hc14 => ?_)
          · exact ok_rZ (Or.inl rfl) ⟨hT, (show (0 : Int32) = 0 ∨ (0 : Int32) = 1 from by first | exact Or.inl rfl | exact Or.inr rfl)⟩
          · exact ih23_3 (x3_3 + 1, σ13) (show Tr [125] σ0 σ13 ∧ (0 ≤ (x3_3 + 1).toInt) from ⟨hT, (by first | omega | decide | (simp only [Int32.le_iff_toInt_le, Int32.lt_iff_toInt_lt, ti_add, ti_sub, ti_mul, Int32.reduceToInt] at *; omega))⟩) (show (10 - (x3_3 + 1).toInt).toNat < (10 - x3_3.toInt).toNat from (by first | omega | decide | (simp only [Int32.le_iff_toInt_le, Int32.lt_iff_toInt_lt, ti_add, ti_sub, ti_mul, Int32.reduceToInt] at *; omega)))
  · refine ok_gR (v := 125) hT rfl (hR 124 0 rfl) ?_
    refine ok_s14 hT rfl (by decide) (by first | omega | decide | (simp only [Int32.le_iff_toInt_le, Int32.lt_iff_toInt_lt, ti_add, ti_sub, ti_mul, Int32.reduceToInt] at *; omega)) (by first | omega | decide | (simp only [Int32.le_iff_toInt_le, Int32.lt_iff_toInt_lt, ti_add, ti_sub, ti_mul, Int32.reduceToInt] at *; omega)) (fun σ16 eσ16 hOσ16 hT => ?_)
    exact ih2_1 (x3_1 + 1, σ16) (show Tr [125] σ0 σ16 ∧ (0 ≤ (x3_1 + 1).toInt) from ⟨hT, (by first | omega | decide | (simp only [Int32.le_iff_toInt_le, Int32.lt_iff_toInt_lt, ti_add, ti_sub, ti_mul, Int32.reduceToInt] at *; omega))⟩) (show ((8 : Int32).toInt - (x3_1 + 1).toInt).toNat < ((8 : Int32).toInt - x3_1.toInt).toNat from (by first | omega | decide | (simp only [Int32.le_iff_toInt_le, Int32.lt_iff_toInt_lt, ti_add, ti_sub, ti_mul, Int32.reduceToInt] at *; omega)))

set_option maxHeartbeats 4000000 in
set_option maxRecDepth 100000 in
theorem s_X6_isOneOf_2 {N : Nat} (hN : 1048576 ≤ N) {x2 : Int32} {x3 : Int32} {x4 : Int32} {σ0 : zS}  (hR : RF σ0.2.2)  : Ok (f_X6_isOneOf N 124 2 x2 x3 x4 σ0) (fun r => Tr [125] σ0 r.2 ∧ (r.1 = 0 ∨ r.1 = 1)) := by
  have hT : Tr [125] σ0 σ0 := Tr.rf
  rw [f_X6_isOneOf.eq_1]
  refine ok_zbT (Q := fun V σ => True) hT (s_J6_bitCount_0f7a4 hN (hR.tr hT) ) (fun _ h9 => absurd h9 List.not_mem_nil) (fun v1 σ2 hOσ2 hT hqv1 => ?_)
  refine ok_zbT (Q := fun V σ => True) hT (s_J6_bitCount_0f7a4 hN (hR.tr hT) ) (fun _ h9 => absurd h9 List.not_mem_nil) (fun v3 σ4 hOσ4 hT hqv3 => ?_)
  refine ok_if (fun hc5 => ?_) (fun hc5 => ?_)
  · refine ok_if (fun hc6 => ?_) (fun hc6 => ?_)
    · refine ok_gC rfl ?_
      refine ok_zbT (Q := fun V σ => V = 0 ∨ V = 1) hT (s_X6_isWithoutRing_2 hN (hR.tr hT) ) (by decide) (fun v7 σ8 hOσ8 hT hqv7 => ?_)
      have hqv7 : v7 = 0 ∨ v7 = 1 := hqv7
      refine ok_if (fun hc9 => ?_) (fun hc9 => ?_)
      · exact ok_rZ (Or.inl rfl) ⟨hT, (show (0 : Int32) = 0 ∨ (0 : Int32) = 1 from by first | exact Or.inl rfl | exact Or.inr rfl)⟩
      · exact ok_rZ (Or.inr rfl) ⟨hT, (show (1 : Int32) = 0 ∨ (1 : Int32) = 1 from by first | exact Or.inl rfl | exact Or.inr rfl)⟩
    · exact ok_rZ (Or.inl rfl) ⟨hT, (show (0 : Int32) = 0 ∨ (0 : Int32) = 1 from by first | exact Or.inl rfl | exact Or.inr rfl)⟩
  refine ok_if (fun hc10 => ?_) (fun hc10 => ?_)
  · refine ok_zbT (Q := fun V σ => True) hT (s_X6_touchedBy_2 hN (hR.tr hT) ) (fun _ h9 => absurd h9 List.not_mem_nil) (fun v11 σ12 hOσ12 hT hqv11 => ?_)
    refine ok_zbT (Q := fun V σ => True) hT (s_J6_bitCount_0f7a4 hN (hR.tr hT) ) (fun _ h9 => absurd h9 List.not_mem_nil) (fun v13 σ14 hOσ14 hT hqv13 => ?_)
    refine ok_if (fun hc15 => ?_) (fun hc15 => ?_)
    · exact ok_rZ (Or.inr rfl) ⟨hT, (show (1 : Int32) = 0 ∨ (1 : Int32) = 1 from by first | exact Or.inl rfl | exact Or.inr rfl)⟩
    · exact ok_rZ (Or.inl rfl) ⟨hT, (show (0 : Int32) = 0 ∨ (0 : Int32) = 1 from by first | exact Or.inl rfl | exact Or.inr rfl)⟩
  refine ok_zbT (Q := fun V σ => True) hT (s_X6_touchedBy_2 hN (hR.tr hT) ) (fun _ h9 => absurd h9 List.not_mem_nil) (fun v16 σ17 hOσ17 hT hqv16 => ?_)
  refine ok_if (fun hc18 => ?_) (fun hc18 => ?_)
  · exact ok_rZ (Or.inr rfl) ⟨hT, (show (1 : Int32) = 0 ∨ (1 : Int32) = 1 from by first | exact Or.inl rfl | exact Or.inr rfl)⟩
  · exact ok_rZ (Or.inl rfl) ⟨hT, (show (0 : Int32) = 0 ∨ (0 : Int32) = 1 from by first | exact Or.inl rfl | exact Or.inr rfl)⟩

set_option maxHeartbeats 4000000 in
set_option maxRecDepth 100000 in
theorem s_X6_findSets_2 {N : Nat} (hN : 1048576 ≤ N) {x2 : Int32} {x3 : Nat} {σ0 : zS}  (hR : RF σ0.2.2) (h_x3 : (zKd x3).1 = 2) : Ok (f_X6_findSets N 124 2 x2 x3 σ0) (fun r => Tr [125] σ0 r.2 ∧ (True)) := by
  have hT : Tr [125] σ0 σ0 := Tr.rf
  rw [f_X6_findSets.eq_1]
  refine ok_gC h_x3 ?_
  refine ok_zbT (Q := fun V σ => True) hT (s_X2_clear hN (hR.tr hT) h_x3) (fun _ h9 => absurd h9 List.not_mem_nil) (fun v1 σ2 hOσ2 hT hqv1 => ?_)
  refine ok_gI0 hT rfl (by decide) ?_
  refine ok_zbT (Q := fun V σ => True) hT (s_X6_touchedBy_2 hN (hR.tr hT) ) (fun _ h9 => absurd h9 List.not_mem_nil) (fun v4 σ5 hOσ5 hT hqv4 => ?_)
  refine ok_lp (fun t : Int32 × zS => Tr [125] σ0 (t.2) ∧ (0 ≤ (t.1).toInt)) (fun t : Int32 × zS => (1024 - (t.1).toInt).toNat) (fun again6 t hI ih21_6 => ?_) N _ (show Tr [125] σ0 σ5 ∧ (0 ≤ (0 : Int32).toInt) from ⟨hT, (by first | omega | decide | (simp only [Int32.le_iff_toInt_le, Int32.lt_iff_toInt_lt, ti_add, ti_sub, ti_mul, Int32.reduceToInt] at *; omega))⟩) (show (1024 - (0 : Int32).toInt).toNat < N from (by first | omega | decide | (simp only [Int32.le_iff_toInt_le, Int32.lt_iff_toInt_lt, ti_add, ti_sub, ti_mul, Int32.reduceToInt] at *; omega)))
  obtain ⟨x5_6, σ6⟩ := t
  have hI : Tr [125] σ0 σ6 ∧ (0 ≤ x5_6.toInt) := hI
  obtain ⟨hT, hI6⟩ := hI
  rw [F_X6_findSets_21.eq_1]
  refine ok_gI0 hT rfl (by decide) ?_
  refine ok_if (fun hc8 => ?_) (fun hc8 => ?_)
  · exact ok_some ⟨hT, trivial⟩
  · refine ok_if (fun hc9 => ?_) (fun hc9 => ?_)
    · exact ok_some ⟨hT, trivial⟩
    · refine ok_gC rfl ?_
      refine ok_zbT (Q := fun V σ => V = 0 ∨ V = 1) hT (s_X6_isOneOf_2 hN (hR.tr hT) ) (by decide) (fun v10 σ11 hOσ11 hT hqv10 => ?_)
      have hqv10 : v10 = 0 ∨ v10 = 1 := hqv10
      refine ok_if (fun hc12 => ?_) (fun hc12 => ?_)
      · exact ih21_6 (x5_6 + 1, σ11) (show Tr [125] σ0 σ11 ∧ (0 ≤ (x5_6 + 1).toInt) from ⟨hT, (by first | omega | decide | (simp only [Int32.le_iff_toInt_le, Int32.lt_iff_toInt_lt, ti_add, ti_sub, ti_mul, Int32.reduceToInt] at *; omega))⟩) (show (1024 - (x5_6 + 1).toInt).toNat < (1024 - x5_6.toInt).toNat from (by first | omega | decide | (simp only [Int32.le_iff_toInt_le, Int32.lt_iff_toInt_lt, ti_add, ti_sub, ti_mul, Int32.reduceToInt] at *; omega)))
      · refine ok_gC h_x3 ?_
        refine ok_zbT (Q := fun V σ => True) hT (s_X2_include hN (hR.tr hT) h_x3) (fun _ h9 => absurd h9 List.not_mem_nil) (fun v13 σ14 hOσ14 hT hqv13 => ?_)
        exact ih21_6 (x5_6 + 1, σ14) (show Tr [125] σ0 σ14 ∧ (0 ≤ (x5_6 + 1).toInt) from ⟨hT, (by first | omega | decide | (simp only [Int32.le_iff_toInt_le, Int32.lt_iff_toInt_lt, ti_add, ti_sub, ti_mul, Int32.reduceToInt] at *; omega))⟩) (show (1024 - (x5_6 + 1).toInt).toNat < (1024 - x5_6.toInt).toNat from (by first | omega | decide | (simp only [Int32.le_iff_toInt_le, Int32.lt_iff_toInt_lt, ti_add, ti_sub, ti_mul, Int32.reduceToInt] at *; omega)))

set_option maxHeartbeats 4000000 in
set_option maxRecDepth 100000 in
theorem sg_X6_walk_2 {N : Nat} (hN : 1048576 ≤ N) : ∀ dd : Nat, (∀ (x1 : Int32) (x2 : Int32) (x3 : Int32) (x4 : Int32) (x5 : Nat) (σ0 : zS), RF σ0.2.2 → (zKd x5).1 = 2 → WI 2 σ0.1 → 0 ≤ x1.toInt ∧ x1.toInt ≤ 7 → 0 ≤ x3.toInt ∧ x3.toInt ≤ 255 → 8 - bc8 x3 < dd → Ok (f_X6_walk N dd 2 x1 x2 x3 x4 x5 σ0) (fun r => Tr [] σ0 r.2 ∧ (True))) := by
  intro dd
  induction dd with
  | zero => exact fun _ _ _ _ _ _ _ _ _ _ _ h => absurd h (Nat.not_lt_zero _)
  | succ dd ih =>
    have ih0 := ih
    intro x1 x2 x3 x4 x5 σ0 hR h_x5 hW h1 h3 hm
    show Ok (B_X6_walk N (f_X6_walk N dd) 2 x1 x2 x3 x4 x5 σ0) _
    have hT : Tr [] σ0 σ0 := Tr.rf
    rw [B_X6_walk.eq_1]
    refine ok_lp (fun t : Int32 × zS => Tr [] σ0 (t.2) ∧ (0 ≤ (t.1).toInt)) (fun t : Int32 × zS => (10 - (t.1).toInt).toNat) (fun again1 t hI ih3_1 => ?_) N _ (show Tr [] σ0 σ0 ∧ (0 ≤ (0 : Int32).toInt) from ⟨hT, (by first | omega | decide | (simp only [Int32.le_iff_toInt_le, Int32.lt_iff_toInt_lt, ti_add, ti_sub, ti_mul, Int32.reduceToInt] at *; omega))⟩) (show (10 - (0 : Int32).toInt).toNat < N from (by first | omega | decide | (simp only [Int32.le_iff_toInt_le, Int32.lt_iff_toInt_lt, ti_add, ti_sub, ti_mul, Int32.reduceToInt] at *; omega)))
    obtain ⟨x6_1, σ1⟩ := t
    have hI : Tr [] σ0 σ1 ∧ (0 ≤ x6_1.toInt) := hI
    obtain ⟨hT, hI1⟩ := hI
    rw [F_X6_walk_3.eq_1]
    refine ok_gI0 hT rfl (by decide) ?_
    refine ok_if (fun hc3 => ?_) (fun hc3 => ?_)
    · exact ok_some ⟨hT, trivial⟩
    · refine ok_if (fun hc4 => ?_) (fun hc4 => ?_)
      · exact ok_some ⟨hT, trivial⟩
      · refine ok_zbT (Q := fun V σ => -1 ≤ V.toInt ∧ V.toInt ≤ 7) hT (s_X6_acrossFrom_2 hN (hR.tr hT) (by first | exact hW | exact WI.tr hT (by decide) (by decide) (by decide) hW)) (fun _ h9 => absurd h9 List.not_mem_nil) (fun v5 σ6 hOσ6 hT hqv5 => ?_)
        have hqv5 : -1 ≤ v5.toInt ∧ v5.toInt ≤ 7 := hqv5
        refine ok_if (fun hc7 => ?_) (fun hc7 => ?_)
        · exact ih3_1 (x6_1 + 1, σ6) (show Tr [] σ0 σ6 ∧ (0 ≤ (x6_1 + 1).toInt) from ⟨hT, (by first | omega | decide | (simp only [Int32.le_iff_toInt_le, Int32.lt_iff_toInt_lt, ti_add, ti_sub, ti_mul, Int32.reduceToInt] at *; omega))⟩) (show (10 - (x6_1 + 1).toInt).toNat < (10 - x6_1.toInt).toNat from (by first | omega | decide | (simp only [Int32.le_iff_toInt_le, Int32.lt_iff_toInt_lt, ti_add, ti_sub, ti_mul, Int32.reduceToInt] at *; omega)))
        · refine ok_if (fun hc8 => ?_) (fun hc8 => ?_)
          · have qs := bc8_up (x := x3) (k := v5) (by omega) (by omega) (by simp only [Int32.le_iff_toInt_le, Int32.lt_iff_toInt_lt, ti_add, ti_sub, ti_mul, Int32.reduceToInt] at *; omega) (by simp only [Int32.le_iff_toInt_le, Int32.lt_iff_toInt_lt, ti_add, ti_sub, ti_mul, Int32.reduceToInt] at *; omega) hc8
            refine ok_if (fun hc9 => ?_) (fun hc9 => ?_)
            · refine ok_gC h_x5 ?_
              refine ok_zbT (Q := fun V σ => True) hT (s_X2_include hN (hR.tr hT) h_x5) (fun _ h9 => absurd h9 List.not_mem_nil) (fun v10 σ11 hOσ11 hT hqv10 => ?_)
              exact ih3_1 (x6_1 + 1, σ11) (show Tr [] σ0 σ11 ∧ (0 ≤ (x6_1 + 1).toInt) from ⟨hT, (by first | omega | decide | (simp only [Int32.le_iff_toInt_le, Int32.lt_iff_toInt_lt, ti_add, ti_sub, ti_mul, Int32.reduceToInt] at *; omega))⟩) (show (10 - (x6_1 + 1).toInt).toNat < (10 - x6_1.toInt).toNat from (by first | omega | decide | (simp only [Int32.le_iff_toInt_le, Int32.lt_iff_toInt_lt, ti_add, ti_sub, ti_mul, Int32.reduceToInt] at *; omega)))
            · refine ok_zbT (Q := fun V σ => True) hT (s_J6_bitCount_0f7a4 hN (hR.tr hT) ) (fun _ h9 => absurd h9 List.not_mem_nil) (fun v12 σ13 hOσ13 hT hqv12 => ?_)
              refine ok_if (fun hc14 => ?_) (fun hc14 => ?_)
              · exact ih3_1 (x6_1 + 1, σ13) (show Tr [] σ0 σ13 ∧ (0 ≤ (x6_1 + 1).toInt) from ⟨hT, (by first | omega | decide | (simp only [Int32.le_iff_toInt_le, Int32.lt_iff_toInt_lt, ti_add, ti_sub, ti_mul, Int32.reduceToInt] at *; omega))⟩) (show (10 - (x6_1 + 1).toInt).toNat < (10 - x6_1.toInt).toNat from (by first | omega | decide | (simp only [Int32.le_iff_toInt_le, Int32.lt_iff_toInt_lt, ti_add, ti_sub, ti_mul, Int32.reduceToInt] at *; omega)))
              · refine ok_zbT (Q := fun V σ => True) hT (ih0 _ _ _ _ _ _ (hR.tr hT) h_x5 (by first | exact hW | exact WI.tr hT (by decide) (by decide) (by decide) hW) (by simp only [Int32.le_iff_toInt_le, Int32.lt_iff_toInt_lt, ti_add, ti_sub, ti_mul, Int32.reduceToInt] at *; omega) (by omega) (by omega)) (fun _ h9 => absurd h9 List.not_mem_nil) (fun v15 σ16 hOσ16 hT hqv15 => ?_)
                exact ih3_1 (x6_1 + 1, σ16) (show Tr [] σ0 σ16 ∧ (0 ≤ (x6_1 + 1).toInt) from ⟨hT, (by first | omega | decide | (simp only [Int32.le_iff_toInt_le, Int32.lt_iff_toInt_lt, ti_add, ti_sub, ti_mul, Int32.reduceToInt] at *; omega))⟩) (show (10 - (x6_1 + 1).toInt).toNat < (10 - x6_1.toInt).toNat from (by first | omega | decide | (simp only [Int32.le_iff_toInt_le, Int32.lt_iff_toInt_lt, ti_add, ti_sub, ti_mul, Int32.reduceToInt] at *; omega)))
          · exact ih3_1 (x6_1 + 1, σ6) (show Tr [] σ0 σ6 ∧ (0 ≤ (x6_1 + 1).toInt) from ⟨hT, (by first | omega | decide | (simp only [Int32.le_iff_toInt_le, Int32.lt_iff_toInt_lt, ti_add, ti_sub, ti_mul, Int32.reduceToInt] at *; omega))⟩) (show (10 - (x6_1 + 1).toInt).toNat < (10 - x6_1.toInt).toNat from (by first | omega | decide | (simp only [Int32.le_iff_toInt_le, Int32.lt_iff_toInt_lt, ti_add, ti_sub, ti_mul, Int32.reduceToInt] at *; omega)))
theorem s_X6_walk_2 {N : Nat} (hN : 1048576 ≤ N) {x1 : Int32} {x2 : Int32} {x3 : Int32} {x4 : Int32} {x5 : Nat} {σ0 : zS} (hR : RF σ0.2.2) (h_x5 : (zKd x5).1 = 2) (hW : WI 2 σ0.1) (h1 : 0 ≤ x1.toInt ∧ x1.toInt ≤ 7) (h3 : 0 ≤ x3.toInt ∧ x3.toInt ≤ 255) (hm : 8 - bc8 x3 < 10) : Ok (f_X6_walk N 10 2 x1 x2 x3 x4 x5 σ0) (fun r => Tr [] σ0 r.2 ∧ (True)) := (sg_X6_walk_2 hN 10) _ _ _ _ _ _ hR h_x5 hW h1 h3 hm

set_option maxHeartbeats 4000000 in
set_option maxRecDepth 100000 in
theorem s_X6_findWays_2 {N : Nat} (hN : 1048576 ≤ N) {x2 : Int32} {x3 : Int32} {x4 : Nat} {σ0 : zS}  (hR : RF σ0.2.2) (h_x4 : (zKd x4).1 = 2) (hW : WI 2 σ0.1) (h2 : 0 ≤ x2.toInt ∧ x2.toInt ≤ 7) : Ok (f_X6_findWays N 124 2 x2 x3 x4 σ0) (fun r => Tr [] σ0 r.2 ∧ (True)) := by
  have hT : Tr [] σ0 σ0 := Tr.rf
  rw [f_X6_findWays.eq_1]
  refine ok_gC h_x4 ?_
  refine ok_zbT (Q := fun V σ => True) hT (s_X2_clear hN (hR.tr hT) h_x4) (fun _ h9 => absurd h9 List.not_mem_nil) (fun v1 σ2 hOσ2 hT hqv1 => ?_)
  refine ok_if (fun hc3 => ?_) (fun hc3 => ?_)
  · refine ok_gC h_x4 ?_
    refine ok_zbT (Q := fun V σ => True) hT (s_X2_include hN (hR.tr hT) h_x4) (fun _ h9 => absurd h9 List.not_mem_nil) (fun v4 σ5 hOσ5 hT hqv4 => ?_)
    exact ok_some ⟨hT, trivial⟩
  · have q7 := one7 (k := x2) h2.1 h2.2
    refine ok_zbT (Q := fun V σ => True) hT (s_X6_walk_2 hN (hR.tr hT) h_x4 (by first | exact hW | exact WI.tr hT (by decide) (by decide) (by decide) hW) (by exact h2) (by exact q7) (by omega)) (fun _ h9 => absurd h9 List.not_mem_nil) (fun v6 σ7 hOσ7 hT hqv6 => ?_)
    exact ok_some ⟨hT, trivial⟩

set_option maxHeartbeats 4000000 in
set_option maxRecDepth 100000 in
theorem s_X6_acrossFrom_28 {N : Nat} (hN : 1048576 ≤ N) {x1 : Int32} {x2 : Int32} {σ0 : zS}  (hR : RF σ0.2.2) (hW : WI 28 σ0.1) : Ok (f_X6_acrossFrom N 28 x1 x2 σ0) (fun r => Tr [] σ0 r.2 ∧ (-1 ≤ r.1.toInt ∧ r.1.toInt ≤ 7)) := by
  have hT : Tr [] σ0 σ0 := Tr.rf
  rw [f_X6_acrossFrom.eq_1]
  refine ok_if (fun hc1 => ?_) (fun hc1 => ?_)
  · exact ok_some ⟨hT, (show -1 ≤ (-1 : Int32).toInt ∧ (-1 : Int32).toInt ≤ 7 from by first | omega | decide | (simp only [Int32.le_iff_toInt_le, Int32.lt_iff_toInt_lt, ti_add, ti_sub, ti_mul, Int32.reduceToInt] at *; omega))⟩
  · refine ok_if (fun hc2 => ?_) (fun hc2 => ?_)
    · refine ok_gR (v := 29) hT rfl (hR 28 3 rfl) ?_
      refine ok_aIn rfl (by first | omega | decide | (simp only [Int32.le_iff_toInt_le, Int32.lt_iff_toInt_lt, ti_add, ti_sub, ti_mul, Int32.reduceToInt] at *; omega)) (by first | omega | decide | (simp only [Int32.le_iff_toInt_le, Int32.lt_iff_toInt_lt, ti_add, ti_sub, ti_mul, Int32.reduceToInt] at *; omega)) (fun v4 ev4 => ?_)
      have qV17 : 0 ≤ v4.toInt ∧ v4.toInt ≤ 7 := by rw [ev4]; exact WI_from (B := 28) (i := (x1)) hT (by decide) hW (by simp only [Int32.le_iff_toInt_le, Int32.lt_iff_toInt_lt, ti_add, ti_sub, ti_mul, Int32.reduceToInt] at *; omega) (by simp only [Int32.le_iff_toInt_le, Int32.lt_iff_toInt_lt, ti_add, ti_sub, ti_mul, Int32.reduceToInt] at *; omega)
      refine ok_if (fun hc5 => ?_) (fun hc5 => ?_)
      · refine ok_gR (v := 30) hT rfl (hR 28 4 rfl) ?_
        refine ok_aIn rfl (by first | omega | decide | (simp only [Int32.le_iff_toInt_le, Int32.lt_iff_toInt_lt, ti_add, ti_sub, ti_mul, Int32.reduceToInt] at *; omega)) (by first | omega | decide | (simp only [Int32.le_iff_toInt_le, Int32.lt_iff_toInt_lt, ti_add, ti_sub, ti_mul, Int32.reduceToInt] at *; omega)) (fun v7 ev7 => ?_)
        have qV27 : 0 ≤ v7.toInt ∧ v7.toInt ≤ 7 := by rw [ev7]; exact WI_till (B := 28) (i := (x1)) hT (by decide) hW (by simp only [Int32.le_iff_toInt_le, Int32.lt_iff_toInt_lt, ti_add, ti_sub, ti_mul, Int32.reduceToInt] at *; omega) (by simp only [Int32.le_iff_toInt_le, Int32.lt_iff_toInt_lt, ti_add, ti_sub, ti_mul, Int32.reduceToInt] at *; omega)
        exact ok_some ⟨hT, (show -1 ≤ v7.toInt ∧ v7.toInt ≤ 7 from by first | omega | decide | (simp only [Int32.le_iff_toInt_le, Int32.lt_iff_toInt_lt, ti_add, ti_sub, ti_mul, Int32.reduceToInt] at *; omega))⟩
      · refine ok_gR (v := 30) hT rfl (hR 28 4 rfl) ?_
        refine ok_aIn rfl (by first | omega | decide | (simp only [Int32.le_iff_toInt_le, Int32.lt_iff_toInt_lt, ti_add, ti_sub, ti_mul, Int32.reduceToInt] at *; omega)) (by first | omega | decide | (simp only [Int32.le_iff_toInt_le, Int32.lt_iff_toInt_lt, ti_add, ti_sub, ti_mul, Int32.reduceToInt] at *; omega)) (fun v9 ev9 => ?_)
        have qV34 : 0 ≤ v9.toInt ∧ v9.toInt ≤ 7 := by rw [ev9]; exact WI_till (B := 28) (i := (x1)) hT (by decide) hW (by simp only [Int32.le_iff_toInt_le, Int32.lt_iff_toInt_lt, ti_add, ti_sub, ti_mul, Int32.reduceToInt] at *; omega) (by simp only [Int32.le_iff_toInt_le, Int32.lt_iff_toInt_lt, ti_add, ti_sub, ti_mul, Int32.reduceToInt] at *; omega)
        refine ok_if (fun hc10 => ?_) (fun hc10 => ?_)
        · refine ok_gR (v := 29) hT rfl (hR 28 3 rfl) ?_
          refine ok_aIn rfl (by first | omega | decide | (simp only [Int32.le_iff_toInt_le, Int32.lt_iff_toInt_lt, ti_add, ti_sub, ti_mul, Int32.reduceToInt] at *; omega)) (by first | omega | decide | (simp only [Int32.le_iff_toInt_le, Int32.lt_iff_toInt_lt, ti_add, ti_sub, ti_mul, Int32.reduceToInt] at *; omega)) (fun v12 ev12 => ?_)
          have qV44 : 0 ≤ v12.toInt ∧ v12.toInt ≤ 7 := by rw [ev12]; exact WI_from (B := 28) (i := (x1)) hT (by decide) hW (by simp only [Int32.le_iff_toInt_le, Int32.lt_iff_toInt_lt, ti_add, ti_sub, ti_mul, Int32.reduceToInt] at *; omega) (by simp only [Int32.le_iff_toInt_le, Int32.lt_iff_toInt_lt, ti_add, ti_sub, ti_mul, Int32.reduceToInt] at *; omega)
          exact ok_some ⟨hT, (show -1 ≤ v12.toInt ∧ v12.toInt ≤ 7 from by first | omega | decide | (simp only [Int32.le_iff_toInt_le, Int32.lt_iff_toInt_lt, ti_add, ti_sub, ti_mul, Int32.reduceToInt] at *; omega))⟩
        · exact ok_some ⟨hT, (show -1 ≤ (-1 : Int32).toInt ∧ (-1 : Int32).toInt ≤ 7 from by first | omega | decide | (simp only [Int32.le_iff_toInt_le, Int32.lt_iff_toInt_lt, ti_add, ti_sub, ti_mul, Int32.reduceToInt] at *; omega))⟩
    · exact ok_some ⟨hT, (show -1 ≤ (-1 : Int32).toInt ∧ (-1 : Int32).toInt ≤ 7 from by first | omega | decide | (simp only [Int32.le_iff_toInt_le, Int32.lt_iff_toInt_lt, ti_add, ti_sub, ti_mul, Int32.reduceToInt] at *; omega))⟩

set_option maxHeartbeats 4000000 in
set_option maxRecDepth 100000 in
theorem s_X6_touchedBy_28 {N : Nat} (hN : 1048576 ≤ N) {x1 : Int32} {σ0 : zS}  (hR : RF σ0.2.2)  : Ok (f_X6_touchedBy N 28 x1 σ0) (fun r => Tr [] σ0 r.2 ∧ (True)) := by
  have hT : Tr [] σ0 σ0 := Tr.rf
  rw [f_X6_touchedBy.eq_1]
  refine ok_lp (fun t : Int32 × Int32 × zS => Tr [] σ0 (t.2.2) ∧ (0 ≤ (t.2.1).toInt)) (fun t : Int32 × Int32 × zS => (10 - (t.2.1).toInt).toNat) (fun again1 t hI ih4_1 => ?_) N _ (show Tr [] σ0 σ0 ∧ (0 ≤ (0 : Int32).toInt) from ⟨hT, (by first | omega | decide | (simp only [Int32.le_iff_toInt_le, Int32.lt_iff_toInt_lt, ti_add, ti_sub, ti_mul, Int32.reduceToInt] at *; omega))⟩) (show (10 - (0 : Int32).toInt).toNat < N from (by first | omega | decide | (simp only [Int32.le_iff_toInt_le, Int32.lt_iff_toInt_lt, ti_add, ti_sub, ti_mul, Int32.reduceToInt] at *; omega)))
  obtain ⟨x2_1, x3_1, σ1⟩ := t
  have hI : Tr [] σ0 σ1 ∧ (0 ≤ x3_1.toInt) := hI
  obtain ⟨hT, hI1⟩ := hI
  rw [F_X6_touchedBy_4.eq_1]
  refine ok_gI0 hT rfl (by decide) ?_
  refine ok_if (fun hc3 => ?_) (fun hc3 => ?_)
  · exact ok_some ⟨hT, trivial⟩
  · refine ok_if (fun hc4 => ?_) (fun hc4 => ?_)
    · exact ok_some ⟨hT, trivial⟩
    · refine ok_if (fun hc5 => ?_) (fun hc5 => ?_)
      · exact ih4_1 (x2_1, x3_1 + 1, σ1) (show Tr [] σ0 σ1 ∧ (0 ≤ (x3_1 + 1).toInt) from ⟨hT, (by first | omega | decide | (simp only [Int32.le_iff_toInt_le, Int32.lt_iff_toInt_lt, ti_add, ti_sub, ti_mul, Int32.reduceToInt] at *; omega))⟩) (show (10 - (x3_1 + 1).toInt).toNat < (10 - x3_1.toInt).toNat from (by first | omega | decide | (simp only [Int32.le_iff_toInt_le, Int32.lt_iff_toInt_lt, ti_add, ti_sub, ti_mul, Int32.reduceToInt] at *; omega)))
      · refine ok_gR (v := 29) hT rfl (hR 28 3 rfl) ?_
        refine ok_aIn rfl (by first | omega | decide | (simp only [Int32.le_iff_toInt_le, Int32.lt_iff_toInt_lt, ti_add, ti_sub, ti_mul, Int32.reduceToInt] at *; omega)) (by first | omega | decide | (simp only [Int32.le_iff_toInt_le, Int32.lt_iff_toInt_lt, ti_add, ti_sub, ti_mul, Int32.reduceToInt] at *; omega)) (fun v7 ev7 => ?_)
        refine ok_gR (v := 30) hT rfl (hR 28 4 rfl) ?_
        refine ok_aIn rfl (by first | omega | decide | (simp only [Int32.le_iff_toInt_le, Int32.lt_iff_toInt_lt, ti_add, ti_sub, ti_mul, Int32.reduceToInt] at *; omega)) (by first | omega | decide | (simp only [Int32.le_iff_toInt_le, Int32.lt_iff_toInt_lt, ti_add, ti_sub, ti_mul, Int32.reduceToInt] at *; omega)) (fun v9 ev9 => ?_)
        exact ih4_1 (x2_1 ||| (((1 : Int32) <<< (v7 &&& 31)) ||| ((1 : Int32) <<< (v9 &&& 31))), x3_1 + 1, σ1) (show Tr [] σ0 σ1 ∧ (0 ≤ (x3_1 + 1).toInt) from ⟨hT, (by first | omega | decide | (simp only [Int32.le_iff_toInt_le, Int32.lt_iff_toInt_lt, ti_add, ti_sub, ti_mul, Int32.reduceToInt] at *; omega))⟩) (show (10 - (x3_1 + 1).toInt).toNat < (10 - x3_1.toInt).toNat from (by first | omega | decide | (simp only [Int32.le_iff_toInt_le, Int32.lt_iff_toInt_lt, ti_add, ti_sub, ti_mul, Int32.reduceToInt] at *; omega)))

set_option maxHeartbeats 4000000 in
set_option maxRecDepth 100000 in
theorem s_X6_isWithoutRing_28 {N : Nat} (hN : 1048576 ≤ N) {x2 : Int32} {σ0 : zS}  (hR : RF σ0.2.2)  : Ok (f_X6_isWithoutRing N 124 28 x2 σ0) (fun r => Tr [125] σ0 r.2 ∧ (r.1 = 0 ∨ r.1 = 1)) := by
  have hT : Tr [125] σ0 σ0 := Tr.rf
  rw [f_X6_isWithoutRing.eq_1]
  refine ok_lp (fun t : Int32 × zS => Tr [125] σ0 (t.2) ∧ (0 ≤ (t.1).toInt)) (fun t : Int32 × zS => ((8 : Int32).toInt - (t.1).toInt).toNat) (fun again1 t hI ih2_1 => ?_) N _ (show Tr [125] σ0 σ0 ∧ (0 ≤ (0 : Int32).toInt) from ⟨hT, (by first | omega | decide | (simp only [Int32.le_iff_toInt_le, Int32.lt_iff_toInt_lt, ti_add, ti_sub, ti_mul, Int32.reduceToInt] at *; omega))⟩) (show ((8 : Int32).toInt - (0 : Int32).toInt).toNat < N from (by first | omega | decide | (simp only [Int32.le_iff_toInt_le, Int32.lt_iff_toInt_lt, ti_add, ti_sub, ti_mul, Int32.reduceToInt] at *; omega)))
  obtain ⟨x3_1, σ1⟩ := t
  have hI : Tr [125] σ0 σ1 ∧ (0 ≤ x3_1.toInt) := hI
  obtain ⟨hT, hI1⟩ := hI
  rw [F_X6_isWithoutRing_2.eq_1]
  refine ok_if (fun hc2 => ?_) (fun hc2 => ?_)
  · refine ok_lp (fun t : Int32 × zS => Tr [125] σ0 (t.2) ∧ (0 ≤ (t.1).toInt)) (fun t : Int32 × zS => (10 - (t.1).toInt).toNat) (fun again3 t hI ih23_3 => ?_) N _ (show Tr [125] σ0 σ1 ∧ (0 ≤ (0 : Int32).toInt) from ⟨hT, (by first | omega | decide | (simp only [Int32.le_iff_toInt_le, Int32.lt_iff_toInt_lt, ti_add, ti_sub, ti_mul, Int32.reduceToInt] at *; omega))⟩) (show (10 - (0 : Int32).toInt).toNat < N from (by first | omega | decide | (simp only [Int32.le_iff_toInt_le, Int32.lt_iff_toInt_lt, ti_add, ti_sub, ti_mul, Int32.reduceToInt] at *; omega)))
    obtain ⟨x3_3, σ3⟩ := t
    have hI : Tr [125] σ0 σ3 ∧ (0 ≤ x3_3.toInt) := hI
    obtain ⟨hT, hI3⟩ := hI
    rw [F_X6_isWithoutRing_23.eq_1]
    refine ok_gI0 hT rfl (by decide) ?_
    refine ok_if (fun hc5 => ?_) (fun hc5 => ?_)
    · exact ok_rZ (Or.inr rfl) ⟨hT, (show (1 : Int32) = 0 ∨ (1 : Int32) = 1 from by first | exact Or.inl rfl | exact Or.inr rfl)⟩
    · refine ok_if (fun hc6 => ?_) (fun hc6 => ?_)
      · exact ok_rZ (Or.inr rfl) ⟨hT, (show (1 : Int32) = 0 ∨ (1 : Int32) = 1 from by first | exact Or.inl rfl | exact Or.inr rfl)⟩
      · refine ok_if (fun hc7 => ?_) (fun hc7 => ?_)
        · exact ih23_3 (x3_3 + 1, σ3) (show Tr [125] σ0 σ3 ∧ (0 ≤ (x3_3 + 1).toInt) from ⟨hT, (by first | omega | decide | (simp only [Int32.le_iff_toInt_le, Int32.lt_iff_toInt_lt, ti_add, ti_sub, ti_mul, Int32.reduceToInt] at *; omega))⟩) (show (10 - (x3_3 + 1).toInt).toNat < (10 - x3_3.toInt).toNat from (by first | omega | decide | (simp only [Int32.le_iff_toInt_le, Int32.lt_iff_toInt_lt, ti_add, ti_sub, ti_mul, Int32.reduceToInt] at *; omega)))
        · refine ok_gR (v := 29) hT rfl (hR 28 3 rfl) ?_
          refine ok_aIn rfl (by first | omega | decide | (simp only [Int32.le_iff_toInt_le, Int32.lt_iff_toInt_lt, ti_add, ti_sub, ti_mul, Int32.reduceToInt] at *; omega)) (by first | omega | decide | (simp only [Int32.le_iff_toInt_le, Int32.lt_iff_toInt_lt, ti_add, ti_sub, ti_mul, Int32.reduceToInt] at *; omega)) (fun v9 ev9 => ?_)
          refine ok_gR (v := 30) hT rfl (hR 28 4 rfl) ?_
          refine ok_aIn rfl (by first | omega | decide | (simp only [Int32.le_iff_toInt_le, Int32.lt_iff_toInt_lt, ti_add, ti_sub, ti_mul, Int32.reduceToInt] at *; omega)) (by first | omega | decide | (simp only [Int32.le_iff_toInt_le, Int32.lt_iff_toInt_lt, ti_add, ti_sub, ti_mul, Int32.reduceToInt] at *; omega)) (fun v11 ev11 => ?_)
          refine ok_gC rfl ?_
          refine ok_zbT (Q := fun V σ => V = 0 ∨ V = 1) hT (s_X6_joinClumps hN (hR.tr hT) ) (by decide) (fun v12 σ13 hOσ13 hT hqv12 => ?_)
          have hqv12 : v12 = 0 ∨ v12 = 1 := hqv12
          refine ok_if (fun hc14 => ?_) (fun hc14 => ?_)
          · exact ok_rZ (Or.inl rfl) ⟨hT, (show (0 : Int32) = 0 ∨ (0 : Int32) = 1 from by first | exact Or.inl rfl | exact Or.inr rfl)⟩
          · exact ih23_3 (x3_3 + 1, σ13) (show Tr [125] σ0 σ13 ∧ (0 ≤ (x3_3 + 1).toInt) from ⟨hT, (by first | omega | decide | (simp only [Int32.le_iff_toInt_le, Int32.lt_iff_toInt_lt, ti_add, ti_sub, ti_mul, Int32.reduceToInt] at *; omega))⟩) (show (10 - (x3_3 + 1).toInt).toNat < (10 - x3_3.toInt).toNat from (by first | omega | decide | (simp only [Int32.le_iff_toInt_le, Int32.lt_iff_toInt_lt, ti_add, ti_sub, ti_mul, Int32.reduceToInt] at *; omega)))
  · refine ok_gR (v := 125) hT rfl (hR 124 0 rfl) ?_
    refine ok_s14 hT rfl (by decide) (by first | omega | decide | (simp only [Int32.le_iff_toInt_le, Int32.lt_iff_toInt_lt, ti_add, ti_sub, ti_mul, Int32.reduceToInt] at *; omega)) (by first | omega | decide | (simp only [Int32.le_iff_toInt_le, Int32.lt_iff_toInt_lt, ti_add, ti_sub, ti_mul, Int32.reduceToInt] at *; omega)) (fun σ16 eσ16 hOσ16 hT => ?_)
    exact ih2_1 (x3_1 + 1, σ16) (show Tr [125] σ0 σ16 ∧ (0 ≤ (x3_1 + 1).toInt) from ⟨hT, (by first | omega | decide | (simp only [Int32.le_iff_toInt_le, Int32.lt_iff_toInt_lt, ti_add, ti_sub, ti_mul, Int32.reduceToInt] at *; omega))⟩) (show ((8 : Int32).toInt - (x3_1 + 1).toInt).toNat < ((8 : Int32).toInt - x3_1.toInt).toNat from (by first | omega | decide | (simp only [Int32.le_iff_toInt_le, Int32.lt_iff_toInt_lt, ti_add, ti_sub, ti_mul, Int32.reduceToInt] at *; omega)))

set_option maxHeartbeats 4000000 in
set_option maxRecDepth 100000 in
theorem s_X6_isOneOf_28 {N : Nat} (hN : 1048576 ≤ N) {x2 : Int32} {x3 : Int32} {x4 : Int32} {σ0 : zS}  (hR : RF σ0.2.2)  : Ok (f_X6_isOneOf N 124 28 x2 x3 x4 σ0) (fun r => Tr [125] σ0 r.2 ∧ (r.1 = 0 ∨ r.1 = 1)) := by
  have hT : Tr [125] σ0 σ0 := Tr.rf
  rw [f_X6_isOneOf.eq_1]
  refine ok_zbT (Q := fun V σ => True) hT (s_J6_bitCount_0f7a4 hN (hR.tr hT) ) (fun _ h9 => absurd h9 List.not_mem_nil) (fun v1 σ2 hOσ2 hT hqv1 => ?_)
  refine ok_zbT (Q := fun V σ => True) hT (s_J6_bitCount_0f7a4 hN (hR.tr hT) ) (fun _ h9 => absurd h9 List.not_mem_nil) (fun v3 σ4 hOσ4 hT hqv3 => ?_)
  refine ok_if (fun hc5 => ?_) (fun hc5 => ?_)
  · refine ok_if (fun hc6 => ?_) (fun hc6 => ?_)
    · refine ok_gC rfl ?_
      refine ok_zbT (Q := fun V σ => V = 0 ∨ V = 1) hT (s_X6_isWithoutRing_28 hN (hR.tr hT) ) (by decide) (fun v7 σ8 hOσ8 hT hqv7 => ?_)
      have hqv7 : v7 = 0 ∨ v7 = 1 := hqv7
      refine ok_if (fun hc9 => ?_) (fun hc9 => ?_)
      · exact ok_rZ (Or.inl rfl) ⟨hT, (show (0 : Int32) = 0 ∨ (0 : Int32) = 1 from by first | exact Or.inl rfl | exact Or.inr rfl)⟩
      · exact ok_rZ (Or.inr rfl) ⟨hT, (show (1 : Int32) = 0 ∨ (1 : Int32) = 1 from by first | exact Or.inl rfl | exact Or.inr rfl)⟩
    · exact ok_rZ (Or.inl rfl) ⟨hT, (show (0 : Int32) = 0 ∨ (0 : Int32) = 1 from by first | exact Or.inl rfl | exact Or.inr rfl)⟩
  refine ok_if (fun hc10 => ?_) (fun hc10 => ?_)
  · refine ok_zbT (Q := fun V σ => True) hT (s_X6_touchedBy_28 hN (hR.tr hT) ) (fun _ h9 => absurd h9 List.not_mem_nil) (fun v11 σ12 hOσ12 hT hqv11 => ?_)
    refine ok_zbT (Q := fun V σ => True) hT (s_J6_bitCount_0f7a4 hN (hR.tr hT) ) (fun _ h9 => absurd h9 List.not_mem_nil) (fun v13 σ14 hOσ14 hT hqv13 => ?_)
    refine ok_if (fun hc15 => ?_) (fun hc15 => ?_)
    · exact ok_rZ (Or.inr rfl) ⟨hT, (show (1 : Int32) = 0 ∨ (1 : Int32) = 1 from by first | exact Or.inl rfl | exact Or.inr rfl)⟩
    · exact ok_rZ (Or.inl rfl) ⟨hT, (show (0 : Int32) = 0 ∨ (0 : Int32) = 1 from by first | exact Or.inl rfl | exact Or.inr rfl)⟩
  refine ok_zbT (Q := fun V σ => True) hT (s_X6_touchedBy_28 hN (hR.tr hT) ) (fun _ h9 => absurd h9 List.not_mem_nil) (fun v16 σ17 hOσ17 hT hqv16 => ?_)
  refine ok_if (fun hc18 => ?_) (fun hc18 => ?_)
  · exact ok_rZ (Or.inr rfl) ⟨hT, (show (1 : Int32) = 0 ∨ (1 : Int32) = 1 from by first | exact Or.inl rfl | exact Or.inr rfl)⟩
  · exact ok_rZ (Or.inl rfl) ⟨hT, (show (0 : Int32) = 0 ∨ (0 : Int32) = 1 from by first | exact Or.inl rfl | exact Or.inr rfl)⟩

set_option maxHeartbeats 4000000 in
set_option maxRecDepth 100000 in
theorem s_X6_findSets_28 {N : Nat} (hN : 1048576 ≤ N) {x2 : Int32} {x3 : Nat} {σ0 : zS}  (hR : RF σ0.2.2) (h_x3 : (zKd x3).1 = 2) : Ok (f_X6_findSets N 124 28 x2 x3 σ0) (fun r => Tr [125] σ0 r.2 ∧ (True)) := by
  have hT : Tr [125] σ0 σ0 := Tr.rf
  rw [f_X6_findSets.eq_1]
  refine ok_gC h_x3 ?_
  refine ok_zbT (Q := fun V σ => True) hT (s_X2_clear hN (hR.tr hT) h_x3) (fun _ h9 => absurd h9 List.not_mem_nil) (fun v1 σ2 hOσ2 hT hqv1 => ?_)
  refine ok_gI0 hT rfl (by decide) ?_
  refine ok_zbT (Q := fun V σ => True) hT (s_X6_touchedBy_28 hN (hR.tr hT) ) (fun _ h9 => absurd h9 List.not_mem_nil) (fun v4 σ5 hOσ5 hT hqv4 => ?_)
  refine ok_lp (fun t : Int32 × zS => Tr [125] σ0 (t.2) ∧ (0 ≤ (t.1).toInt)) (fun t : Int32 × zS => (1024 - (t.1).toInt).toNat) (fun again6 t hI ih21_6 => ?_) N _ (show Tr [125] σ0 σ5 ∧ (0 ≤ (0 : Int32).toInt) from ⟨hT, (by first | omega | decide | (simp only [Int32.le_iff_toInt_le, Int32.lt_iff_toInt_lt, ti_add, ti_sub, ti_mul, Int32.reduceToInt] at *; omega))⟩) (show (1024 - (0 : Int32).toInt).toNat < N from (by first | omega | decide | (simp only [Int32.le_iff_toInt_le, Int32.lt_iff_toInt_lt, ti_add, ti_sub, ti_mul, Int32.reduceToInt] at *; omega)))
  obtain ⟨x5_6, σ6⟩ := t
  have hI : Tr [125] σ0 σ6 ∧ (0 ≤ x5_6.toInt) := hI
  obtain ⟨hT, hI6⟩ := hI
  rw [F_X6_findSets_21.eq_1]
  refine ok_gI0 hT rfl (by decide) ?_
  refine ok_if (fun hc8 => ?_) (fun hc8 => ?_)
  · exact ok_some ⟨hT, trivial⟩
  · refine ok_if (fun hc9 => ?_) (fun hc9 => ?_)
    · exact ok_some ⟨hT, trivial⟩
    · refine ok_gC rfl ?_
      refine ok_zbT (Q := fun V σ => V = 0 ∨ V = 1) hT (s_X6_isOneOf_28 hN (hR.tr hT) ) (by decide) (fun v10 σ11 hOσ11 hT hqv10 => ?_)
      have hqv10 : v10 = 0 ∨ v10 = 1 := hqv10
      refine ok_if (fun hc12 => ?_) (fun hc12 => ?_)
      · exact ih21_6 (x5_6 + 1, σ11) (show Tr [125] σ0 σ11 ∧ (0 ≤ (x5_6 + 1).toInt) from ⟨hT, (by first | omega | decide | (simp only [Int32.le_iff_toInt_le, Int32.lt_iff_toInt_lt, ti_add, ti_sub, ti_mul, Int32.reduceToInt] at *; omega))⟩) (show (1024 - (x5_6 + 1).toInt).toNat < (1024 - x5_6.toInt).toNat from (by first | omega | decide | (simp only [Int32.le_iff_toInt_le, Int32.lt_iff_toInt_lt, ti_add, ti_sub, ti_mul, Int32.reduceToInt] at *; omega)))
      · refine ok_gC h_x3 ?_
        refine ok_zbT (Q := fun V σ => True) hT (s_X2_include hN (hR.tr hT) h_x3) (fun _ h9 => absurd h9 List.not_mem_nil) (fun v13 σ14 hOσ14 hT hqv13 => ?_)
        exact ih21_6 (x5_6 + 1, σ14) (show Tr [125] σ0 σ14 ∧ (0 ≤ (x5_6 + 1).toInt) from ⟨hT, (by first | omega | decide | (simp only [Int32.le_iff_toInt_le, Int32.lt_iff_toInt_lt, ti_add, ti_sub, ti_mul, Int32.reduceToInt] at *; omega))⟩) (show (1024 - (x5_6 + 1).toInt).toNat < (1024 - x5_6.toInt).toNat from (by first | omega | decide | (simp only [Int32.le_iff_toInt_le, Int32.lt_iff_toInt_lt, ti_add, ti_sub, ti_mul, Int32.reduceToInt] at *; omega)))

set_option maxHeartbeats 4000000 in
set_option maxRecDepth 100000 in
theorem sg_X6_walk_28 {N : Nat} (hN : 1048576 ≤ N) : ∀ dd : Nat, (∀ (x1 : Int32) (x2 : Int32) (x3 : Int32) (x4 : Int32) (x5 : Nat) (σ0 : zS), RF σ0.2.2 → (zKd x5).1 = 2 → WI 28 σ0.1 → 0 ≤ x1.toInt ∧ x1.toInt ≤ 7 → 0 ≤ x3.toInt ∧ x3.toInt ≤ 255 → 8 - bc8 x3 < dd → Ok (f_X6_walk N dd 28 x1 x2 x3 x4 x5 σ0) (fun r => Tr [] σ0 r.2 ∧ (True))) := by
  intro dd
  induction dd with
  | zero => exact fun _ _ _ _ _ _ _ _ _ _ _ h => absurd h (Nat.not_lt_zero _)
  | succ dd ih =>
    have ih0 := ih
    intro x1 x2 x3 x4 x5 σ0 hR h_x5 hW h1 h3 hm
    show Ok (B_X6_walk N (f_X6_walk N dd) 28 x1 x2 x3 x4 x5 σ0) _
    have hT : Tr [] σ0 σ0 := Tr.rf
    rw [B_X6_walk.eq_1]
    refine ok_lp (fun t : Int32 × zS => Tr [] σ0 (t.2) ∧ (0 ≤ (t.1).toInt)) (fun t : Int32 × zS => (10 - (t.1).toInt).toNat) (fun again1 t hI ih3_1 => ?_) N _ (show Tr [] σ0 σ0 ∧ (0 ≤ (0 : Int32).toInt) from ⟨hT, (by first | omega | decide | (simp only [Int32.le_iff_toInt_le, Int32.lt_iff_toInt_lt, ti_add, ti_sub, ti_mul, Int32.reduceToInt] at *; omega))⟩) (show (10 - (0 : Int32).toInt).toNat < N from (by first | omega | decide | (simp only [Int32.le_iff_toInt_le, Int32.lt_iff_toInt_lt, ti_add, ti_sub, ti_mul, Int32.reduceToInt] at *; omega)))
    obtain ⟨x6_1, σ1⟩ := t
    have hI : Tr [] σ0 σ1 ∧ (0 ≤ x6_1.toInt) := hI
    obtain ⟨hT, hI1⟩ := hI
    rw [F_X6_walk_3.eq_1]
    refine ok_gI0 hT rfl (by decide) ?_
    refine ok_if (fun hc3 => ?_) (fun hc3 => ?_)
    · exact ok_some ⟨hT, trivial⟩
    · refine ok_if (fun hc4 => ?_) (fun hc4 => ?_)
      · exact ok_some ⟨hT, trivial⟩
      · refine ok_zbT (Q := fun V σ => -1 ≤ V.toInt ∧ V.toInt ≤ 7) hT (s_X6_acrossFrom_28 hN (hR.tr hT) (by first | exact hW | exact WI.tr hT (by decide) (by decide) (by decide) hW)) (fun _ h9 => absurd h9 List.not_mem_nil) (fun v5 σ6 hOσ6 hT hqv5 => ?_)
        have hqv5 : -1 ≤ v5.toInt ∧ v5.toInt ≤ 7 := hqv5
        refine ok_if (fun hc7 => ?_) (fun hc7 => ?_)
        · exact ih3_1 (x6_1 + 1, σ6) (show Tr [] σ0 σ6 ∧ (0 ≤ (x6_1 + 1).toInt) from ⟨hT, (by first | omega | decide | (simp only [Int32.le_iff_toInt_le, Int32.lt_iff_toInt_lt, ti_add, ti_sub, ti_mul, Int32.reduceToInt] at *; omega))⟩) (show (10 - (x6_1 + 1).toInt).toNat < (10 - x6_1.toInt).toNat from (by first | omega | decide | (simp only [Int32.le_iff_toInt_le, Int32.lt_iff_toInt_lt, ti_add, ti_sub, ti_mul, Int32.reduceToInt] at *; omega)))
        · refine ok_if (fun hc8 => ?_) (fun hc8 => ?_)
          · have qs := bc8_up (x := x3) (k := v5) (by omega) (by omega) (by simp only [Int32.le_iff_toInt_le, Int32.lt_iff_toInt_lt, ti_add, ti_sub, ti_mul, Int32.reduceToInt] at *; omega) (by simp only [Int32.le_iff_toInt_le, Int32.lt_iff_toInt_lt, ti_add, ti_sub, ti_mul, Int32.reduceToInt] at *; omega) hc8
            refine ok_if (fun hc9 => ?_) (fun hc9 => ?_)
            · refine ok_gC h_x5 ?_
              refine ok_zbT (Q := fun V σ => True) hT (s_X2_include hN (hR.tr hT) h_x5) (fun _ h9 => absurd h9 List.not_mem_nil) (fun v10 σ11 hOσ11 hT hqv10 => ?_)
              exact ih3_1 (x6_1 + 1, σ11) (show Tr [] σ0 σ11 ∧ (0 ≤ (x6_1 + 1).toInt) from ⟨hT, (by first | omega | decide | (simp only [Int32.le_iff_toInt_le, Int32.lt_iff_toInt_lt, ti_add, ti_sub, ti_mul, Int32.reduceToInt] at *; omega))⟩) (show (10 - (x6_1 + 1).toInt).toNat < (10 - x6_1.toInt).toNat from (by first | omega | decide | (simp only [Int32.le_iff_toInt_le, Int32.lt_iff_toInt_lt, ti_add, ti_sub, ti_mul, Int32.reduceToInt] at *; omega)))
            · refine ok_zbT (Q := fun V σ => True) hT (s_J6_bitCount_0f7a4 hN (hR.tr hT) ) (fun _ h9 => absurd h9 List.not_mem_nil) (fun v12 σ13 hOσ13 hT hqv12 => ?_)
              refine ok_if (fun hc14 => ?_) (fun hc14 => ?_)
              · exact ih3_1 (x6_1 + 1, σ13) (show Tr [] σ0 σ13 ∧ (0 ≤ (x6_1 + 1).toInt) from ⟨hT, (by first | omega | decide | (simp only [Int32.le_iff_toInt_le, Int32.lt_iff_toInt_lt, ti_add, ti_sub, ti_mul, Int32.reduceToInt] at *; omega))⟩) (show (10 - (x6_1 + 1).toInt).toNat < (10 - x6_1.toInt).toNat from (by first | omega | decide | (simp only [Int32.le_iff_toInt_le, Int32.lt_iff_toInt_lt, ti_add, ti_sub, ti_mul, Int32.reduceToInt] at *; omega)))
              · refine ok_zbT (Q := fun V σ => True) hT (ih0 _ _ _ _ _ _ (hR.tr hT) h_x5 (by first | exact hW | exact WI.tr hT (by decide) (by decide) (by decide) hW) (by simp only [Int32.le_iff_toInt_le, Int32.lt_iff_toInt_lt, ti_add, ti_sub, ti_mul, Int32.reduceToInt] at *; omega) (by omega) (by omega)) (fun _ h9 => absurd h9 List.not_mem_nil) (fun v15 σ16 hOσ16 hT hqv15 => ?_)
                exact ih3_1 (x6_1 + 1, σ16) (show Tr [] σ0 σ16 ∧ (0 ≤ (x6_1 + 1).toInt) from ⟨hT, (by first | omega | decide | (simp only [Int32.le_iff_toInt_le, Int32.lt_iff_toInt_lt, ti_add, ti_sub, ti_mul, Int32.reduceToInt] at *; omega))⟩) (show (10 - (x6_1 + 1).toInt).toNat < (10 - x6_1.toInt).toNat from (by first | omega | decide | (simp only [Int32.le_iff_toInt_le, Int32.lt_iff_toInt_lt, ti_add, ti_sub, ti_mul, Int32.reduceToInt] at *; omega)))
          · exact ih3_1 (x6_1 + 1, σ6) (show Tr [] σ0 σ6 ∧ (0 ≤ (x6_1 + 1).toInt) from ⟨hT, (by first | omega | decide | (simp only [Int32.le_iff_toInt_le, Int32.lt_iff_toInt_lt, ti_add, ti_sub, ti_mul, Int32.reduceToInt] at *; omega))⟩) (show (10 - (x6_1 + 1).toInt).toNat < (10 - x6_1.toInt).toNat from (by first | omega | decide | (simp only [Int32.le_iff_toInt_le, Int32.lt_iff_toInt_lt, ti_add, ti_sub, ti_mul, Int32.reduceToInt] at *; omega)))
theorem s_X6_walk_28 {N : Nat} (hN : 1048576 ≤ N) {x1 : Int32} {x2 : Int32} {x3 : Int32} {x4 : Int32} {x5 : Nat} {σ0 : zS} (hR : RF σ0.2.2) (h_x5 : (zKd x5).1 = 2) (hW : WI 28 σ0.1) (h1 : 0 ≤ x1.toInt ∧ x1.toInt ≤ 7) (h3 : 0 ≤ x3.toInt ∧ x3.toInt ≤ 255) (hm : 8 - bc8 x3 < 10) : Ok (f_X6_walk N 10 28 x1 x2 x3 x4 x5 σ0) (fun r => Tr [] σ0 r.2 ∧ (True)) := (sg_X6_walk_28 hN 10) _ _ _ _ _ _ hR h_x5 hW h1 h3 hm

set_option maxHeartbeats 4000000 in
set_option maxRecDepth 100000 in
theorem s_X6_findWays_28 {N : Nat} (hN : 1048576 ≤ N) {x2 : Int32} {x3 : Int32} {x4 : Nat} {σ0 : zS}  (hR : RF σ0.2.2) (h_x4 : (zKd x4).1 = 2) (hW : WI 28 σ0.1) (h2 : 0 ≤ x2.toInt ∧ x2.toInt ≤ 7) : Ok (f_X6_findWays N 124 28 x2 x3 x4 σ0) (fun r => Tr [] σ0 r.2 ∧ (True)) := by
  have hT : Tr [] σ0 σ0 := Tr.rf
  rw [f_X6_findWays.eq_1]
  refine ok_gC h_x4 ?_
  refine ok_zbT (Q := fun V σ => True) hT (s_X2_clear hN (hR.tr hT) h_x4) (fun _ h9 => absurd h9 List.not_mem_nil) (fun v1 σ2 hOσ2 hT hqv1 => ?_)
  refine ok_if (fun hc3 => ?_) (fun hc3 => ?_)
  · refine ok_gC h_x4 ?_
    refine ok_zbT (Q := fun V σ => True) hT (s_X2_include hN (hR.tr hT) h_x4) (fun _ h9 => absurd h9 List.not_mem_nil) (fun v4 σ5 hOσ5 hT hqv4 => ?_)
    exact ok_some ⟨hT, trivial⟩
  · have q7 := one7 (k := x2) h2.1 h2.2
    refine ok_zbT (Q := fun V σ => True) hT (s_X6_walk_28 hN (hR.tr hT) h_x4 (by first | exact hW | exact WI.tr hT (by decide) (by decide) (by decide) hW) (by exact h2) (by exact q7) (by omega)) (fun _ h9 => absurd h9 List.not_mem_nil) (fun v6 σ7 hOσ7 hT hqv6 => ?_)
    exact ok_some ⟨hT, trivial⟩
end Zq0_10

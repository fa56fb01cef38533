/-! ===== what the functions answer: rules ===== -/
def Ok {α : Type} (x : Option α) (P : α → Prop) : Prop := ∃ a, x = some a ∧ P a
/-- only ints of the cells S may be other (and longs); references stay, but the reader's text, which may become the tape -/
def Tr (S : List Nat) (σ σ' : zS) : Prop := ((∀ k j, ¬ (k = 57 ∧ j = 5) → σ'.2.2 k j = σ.2.2 k j) ∧ (σ.2.2 57 5 = 1 → σ'.2.2 57 5 = 1)) ∧ ∀ k, k ∉ S → σ'.1 k = σ.1 k
theorem Tr.rf {S : List Nat} {σ : zS} : Tr S σ σ := ⟨⟨fun _ _ _ => rfl, id⟩, fun _ _ => rfl⟩
theorem Tr.of {S : List Nat} {σ τ : zS} (h : τ.2.2 = σ.2.2) (hi : ∀ k, k ∉ S → τ.1 k = σ.1 k) : Tr S σ τ := ⟨⟨fun _ _ _ => by rw [h], fun q => by rw [h]; exact q⟩, hi⟩
theorem Tr.up {S S' : List Nat} {σ τ υ : zS} (h : Tr S σ τ) (h' : Tr S' τ υ) (hs : ∀ k ∈ S', k ∈ S) : Tr S σ υ := ⟨⟨fun k j q => (h'.1.1 k j q).trans (h.1.1 k j q), fun q => h'.1.2 (h.1.2 q)⟩, fun k hk => (h'.2 k (fun q => hk (hs k q))).trans (h.2 k hk)⟩
theorem Tr.wk {S S' : List Nat} {σ τ : zS} (h : Tr S' σ τ) (hs : ∀ k ∈ S', k ∈ S) : Tr S σ τ := ⟨h.1, fun k hk => h.2 k (fun q => hk (hs k q))⟩
/-- the references that never change -/
def RF (R : Nat → Nat → Nat) : Prop := ∀ k j, zdyn k j = false → R k j = zT k j
theorem RF.tr {S : List Nat} {σ τ : zS} (hT : Tr S σ τ) (h : RF σ.2.2) : RF τ.2.2 := fun k j q => (hT.1.1 k j (fun e => by rw [e.1, e.2] at q; exact absurd q (by decide))).trans (h k j q)
section OKS
variable {α β S : Type} {P : β → Prop} {Sx S' : List Nat} {σ0 σ : zS}
theorem ok_some {a : β} (h : P a) : Ok (some a) P := ⟨a, rfl, h⟩
theorem ok_rZ {P : Int32 × zS → Prop} {v : Int32} (hv : v = 0 ∨ v = 1) (h : P (v, σ)) : Ok (rZ v σ) P := ⟨(v, σ), if_pos hv, h⟩
theorem ok_if {c : Prop} [Decidable c] {a b : Option β} (h1 : c → Ok a P) (h2 : ¬ c → Ok b P) : Ok (if c then a else b) P := by
  by_cases h : c
  · rw [if_pos h]; exact h1 h
  · rw [if_neg h]; exact h2 h
theorem ok_zl {x : Option α} {f : α → Option β} {v : α} (hx : x = some v) (h : Ok (f v) P) : Ok (zl x f) P := by
  subst hx; exact h
theorem ok_mono {x : Option β} {Q : β → Prop} (h : Ok x Q) (hq : ∀ a, Q a → P a) : Ok x P := by
  obtain ⟨a, h1, h2⟩ := h
  exact ⟨a, h1, hq a h2⟩
theorem ok_zb {x : Option (α × zS)} {f : α → zS → Option β} {Q : α × zS → Prop} (hx : Ok x Q) (h : ∀ v τ, Q (v, τ) → Ok (f v τ) P) : Ok (zb x f) P := by
  obtain ⟨⟨v, τ⟩, rfl, hq⟩ := hx
  exact h v τ hq
theorem ok_zbT {x : Option (α × zS)} {f : α → zS → Option β} {Q : α → zS → Prop} (hT : Tr Sx σ0 σ) (hx : Ok x (fun r => Tr S' σ r.2 ∧ Q r.1 r.2)) (hs : ∀ k ∈ S', k ∈ Sx) (h : ∀ v τ, Tr S' σ τ → Tr Sx σ0 τ → Q v τ → Ok (f v τ) P) : Ok (zb x f) P := by
  obtain ⟨⟨v, τ⟩, rfl, hq, hv⟩ := hx
  exact h v τ hq (hT.up hq hs) hv
theorem ok_gC {ci k : Nat} {f : Unit → Option β} (hk : (zKd k).1 = ci) (h : Ok (f ()) P) : Ok (zl (gC ci k) f) P := ok_zl (if_pos hk) h
theorem ok_gR {ci j k v : Nat} {f : Nat → Option β} (hT : Tr Sx σ0 σ) (hk : (zKd k).1 = ci) (hv : σ0.2.2 k j = v) (h : Ok (f v) P) (hne : ¬ (ci = 5 ∧ j = 5) := by decide) : Ok (zl (gR ci j k σ) f) P := by
  refine ok_zl (v := v) ?_ h
  rw [gR, if_pos hk, hT.1.1 k j (fun e => hne ⟨by rw [← hk, e.1]; rfl, e.2⟩), hv]
theorem ok_gRX {f : Nat → Option β} (hT : Tr Sx σ0 σ) (hX : σ0.2.2 57 5 = 1) (h : Ok (f 1) P) : Ok (zl (gR 5 5 57 σ) f) P := by
  refine ok_zl (v := 1) ?_ h
  rw [gR, if_pos (show (zKd 57).1 = 5 from rfl), hT.1.2 hX]
theorem ok_pRX {f : zS → Option β} (hT : Tr Sx σ0 σ) (h : ∀ τ : zS, τ.2.2 57 5 = 1 → τ.1 = σ.1 → Tr [] σ τ → Tr Sx σ0 τ → Ok (f τ) P) : Ok (zl (pR 5 5 57 1 σ) f) P := by
  have e : (zR σ 57 (va_up (σ.2.2 57) 5 1)).2.2 57 5 = 1 := by
    show va_up σ.2.2 57 (va_up (σ.2.2 57) 5 1) 57 5 = 1
    rw [va_up_self, va_up_self]
  have t : Tr [] σ (zR σ 57 (va_up (σ.2.2 57) 5 1)) := by
    refine ⟨⟨fun k j q => ?_, fun _ => e⟩, fun _ _ => rfl⟩
    show va_up σ.2.2 57 (va_up (σ.2.2 57) 5 1) k j = _
    by_cases hk : k = 57
    · subst hk
      rw [va_up_self, va_up_ne _ _ (fun q2 => q ⟨rfl, q2⟩)]
    · rw [va_up_ne _ _ hk]
  exact ok_zl (if_pos rfl) (h _ e rfl t (hT.up t (fun a ha => absurd ha List.not_mem_nil)))
theorem ok_gI {ci j k : Nat} {f : Int32 → Option β} (hk : (zKd k).1 = ci) (h : Ok (f (σ.1 k j)) P) : Ok (zl (gI ci j k σ) f) P := ok_zl (if_pos hk) h
theorem ok_gI0 {ci j k : Nat} {f : Int32 → Option β} (hT : Tr Sx σ0 σ) (hk : (zKd k).1 = ci) (hS : k ∉ Sx) (h : Ok (f (σ0.1 k j)) P) : Ok (zl (gI ci j k σ) f) P := by
  refine ok_gI hk ?_
  rw [hT.2 k hS]; exact h
theorem ok_gIv {ci j k : Nat} {f : Int32 → Option β} {v : Int32} (hk : (zKd k).1 = ci) (hv : σ.1 k j = v) (h : Ok (f v) P) : Ok (zl (gI ci j k σ) f) P := by
  refine ok_gI hk ?_
  rw [hv]; exact h
theorem ok_pI {ci j k : Nat} {v : Int32} {f : zS → Option β} (hT : Tr Sx σ0 σ) (hk : (zKd k).1 = ci) (hS : k ∈ Sx) (h : ∀ τ : zS, τ = zI σ k (upd (σ.1 k) j v) → Tr [k] σ τ → Tr Sx σ0 τ → Ok (f τ) P) : Ok (zl (pI ci j k v σ) f) P := by
  refine ok_zl (if_pos hk) (h _ rfl (Tr.of rfl (fun a ha => va_up_ne _ _ (fun q => ha (by rw [q]; exact List.mem_singleton.mpr rfl)))) (hT.up (S' := [k]) (Tr.of rfl (fun a ha => va_up_ne _ _ (fun q => ha (by rw [q]; exact List.mem_singleton.mpr rfl)))) (fun a ha => by rw [List.mem_singleton.mp ha]; exact hS)))
theorem ok_aI {ti n k : Nat} {i : Int32} {f : Int32 → Option β} (hk : zKd k = (ti, n)) (h1 : 0 ≤ i.toInt) (h2 : i.toInt < (n : Int)) (h : Ok (f (σ.1 k i.toNatClampNeg)) P) : Ok (zl (aI ti k i σ) f) P := by
  refine ok_zl (if_pos ⟨by rw [hk], h1, by rw [hk]; exact h2⟩) h
theorem ok_aIn {ti n k : Nat} {i : Int32} {f : Int32 → Option β} (hk : zKd k = (ti, n)) (h1 : 0 ≤ i.toInt) (h2 : i.toInt < (n : Int)) (h : ∀ v : Int32, v = σ.1 k i.toNatClampNeg → Ok (f v) P) : Ok (zl (aI ti k i σ) f) P := ok_aI hk h1 h2 (h _ rfl)
theorem ok_aJ {n k : Nat} {i : Int32} {f : Int64 → Option β} (hk : zKd k = (15, n)) (h1 : 0 ≤ i.toInt) (h2 : i.toInt < (n : Int)) (h : Ok (f (σ.2.1 k i.toNatClampNeg)) P) : Ok (zl (aJ k i σ) f) P := by
  refine ok_zl (if_pos ⟨by rw [hk], h1, by rw [hk]; exact h2⟩) h
theorem ok_aR {ti n k v : Nat} {i : Int32} {f : Nat → Option β} (hT : Tr Sx σ0 σ) (hk : zKd k = (ti, n)) (h1 : 0 ≤ i.toInt) (h2 : i.toInt < (n : Int)) (hv : σ0.2.2 k i.toNatClampNeg = v) (h : Ok (f v) P) (hne : ¬ ti = 5 := by decide) : Ok (zl (aR ti k i σ) f) P := by
  refine ok_zl (v := v) ?_ h
  rw [aR, if_pos ⟨by rw [hk], h1, by rw [hk]; exact h2⟩, hT.1.1 k _ (fun e => hne (by rw [e.1] at hk; exact (congrArg Prod.fst hk).symm)), hv]
theorem ok_sI {ti n k : Nat} {i v : Int32} {f : zS → Option β} (hT : Tr Sx σ0 σ) (hk : zKd k = (ti, n)) (hS : k ∈ Sx) (h1 : 0 ≤ i.toInt) (h2 : i.toInt < (n : Int)) (h : ∀ τ : zS, τ = zI σ k (upd (σ.1 k) i.toNatClampNeg (if ti = 13 then vp_nar .byte v else if ti = 16 then vp_nar .boolean v else v)) → Tr [k] σ τ → Tr Sx σ0 τ → Ok (f τ) P) : Ok (zl (sI ti k i v σ) f) P := by
  refine ok_zl (if_pos ⟨by rw [hk], h1, by rw [hk]; exact h2⟩) (h _ rfl (Tr.of rfl (fun a ha => va_up_ne _ _ (fun q => ha (by rw [q]; exact List.mem_singleton.mpr rfl)))) (hT.up (S' := [k]) (Tr.of rfl (fun a ha => va_up_ne _ _ (fun q => ha (by rw [q]; exact List.mem_singleton.mpr rfl)))) (fun a ha => by rw [List.mem_singleton.mp ha]; exact hS)))
theorem ok_sJ {n k : Nat} {i : Int32} {v : Int64} {f : zS → Option β} (hT : Tr Sx σ0 σ) (hk : zKd k = (15, n)) (h1 : 0 ≤ i.toInt) (h2 : i.toInt < (n : Int)) (h : ∀ τ : zS, τ = zJ σ k (vp_updL (σ.2.1 k) i.toNatClampNeg v) → Tr [] σ τ → Tr Sx σ0 τ → Ok (f τ) P) : Ok (zl (sJ k i v σ) f) P := by
  refine ok_zl (if_pos ⟨by rw [hk], h1, by rw [hk]; exact h2⟩) (h _ rfl (Tr.of rfl fun _ _ => rfl) (hT.up (S' := []) (Tr.of rfl fun _ _ => rfl) (fun a ha => absurd ha List.not_mem_nil)))
theorem ok_aL {ti n k : Nat} {f : Int32 → Option β} (hk : zKd k = (ti, n)) (h : Ok (f (Int32.ofNat n)) P) : Ok (zl (aL ti k) f) P := by
  refine ok_zl (v := Int32.ofNat n) ?_ h
  rw [aL, if_pos (by rw [hk]), hk]
theorem ok_cpI {n0 n1 k0 k1 : Nat} {sp dp n : Int32} {f : zS → Option β} (hT : Tr Sx σ0 σ) (hk0 : zKd k0 = (14, n0)) (hk1 : zKd k1 = (14, n1)) (hS : k1 ∈ Sx) (h1 : 0 ≤ sp.toInt) (h2 : 0 ≤ dp.toInt) (h3 : 0 ≤ n.toInt) (h4 : sp.toInt + n.toInt ≤ (n0 : Int)) (h5 : dp.toInt + n.toInt ≤ (n1 : Int)) (h : ∀ τ : zS, τ = zI σ k1 (va_cpy (σ.1 k0) (σ.1 k1) sp.toNatClampNeg dp.toNatClampNeg n.toNatClampNeg) → Tr [k1] σ τ → Tr Sx σ0 τ → Ok (f τ) P) : Ok (zl (cpI k0 sp k1 dp n σ) f) P := by
  refine ok_zl (if_pos ⟨by rw [hk0], by rw [hk1], h1, h2, h3, by rw [hk0]; exact h4, by rw [hk1]; exact h5⟩) (h _ rfl (Tr.of rfl (fun a ha => va_up_ne _ _ (fun q => ha (by rw [q]; exact List.mem_singleton.mpr rfl)))) (hT.up (S' := [k1]) (Tr.of rfl (fun a ha => va_up_ne _ _ (fun q => ha (by rw [q]; exact List.mem_singleton.mpr rfl)))) (fun a ha => by rw [List.mem_singleton.mp ha]; exact hS)))
theorem ok_cpJ {n0 n1 k0 k1 : Nat} {sp dp n : Int32} {f : zS → Option β} (hT : Tr Sx σ0 σ) (hk0 : zKd k0 = (15, n0)) (hk1 : zKd k1 = (15, n1)) (h1 : 0 ≤ sp.toInt) (h2 : 0 ≤ dp.toInt) (h3 : 0 ≤ n.toInt) (h4 : sp.toInt + n.toInt ≤ (n0 : Int)) (h5 : dp.toInt + n.toInt ≤ (n1 : Int)) (h : ∀ τ : zS, τ = zJ σ k1 (va_cpy (σ.2.1 k0) (σ.2.1 k1) sp.toNatClampNeg dp.toNatClampNeg n.toNatClampNeg) → Tr [] σ τ → Tr Sx σ0 τ → Ok (f τ) P) : Ok (zl (cpJ k0 sp k1 dp n σ) f) P := by
  refine ok_zl (if_pos ⟨by rw [hk0], by rw [hk1], h1, h2, h3, by rw [hk0]; exact h4, by rw [hk1]; exact h5⟩) (h _ rfl (Tr.of rfl fun _ _ => rfl) (hT.up (S' := []) (Tr.of rfl fun _ _ => rfl) (fun a ha => absurd ha List.not_mem_nil)))
theorem ok_aW {i : Int32} {f : Int64 → Option β} (h1 : 0 ≤ i.toInt) (h2 : i.toInt < 6) (h : Ok (f (zWo i.toNatClampNeg)) P) : Ok (zl (aW i) f) P := ok_zl (if_pos ⟨h1, h2⟩) h
theorem ok_nzI {y : Int32} {f : Unit → Option β} (hy : ¬ y = 0) (h : Ok (f ()) P) : Ok (zl (nzI y) f) P := ok_zl (if_neg hy) h
theorem ok_nzJ {y : Int64} {f : Unit → Option β} (hy : ¬ y = 0) (h : Ok (f ()) P) : Ok (zl (nzJ y) f) P := ok_zl (if_neg hy) h
theorem ok_lp {F : (S → Option β) → S → Option β} (Inv : S → Prop) (μ : S → Nat) (step : ∀ (again : S → Option β) (t : S), Inv t → (∀ t', Inv t' → μ t' < μ t → Ok (again t') P) → Ok (F again t) P) : ∀ (n : Nat) (t : S), Inv t → μ t < n → Ok (zlp F n t) P := by
  intro n
  induction n with
  | zero => intro t _ h; exact absurd h (Nat.not_lt_zero _)
  | succ n ih => intro t hi h; exact step (zlp F n) t hi (fun t' h1 h2 => ih t' h1 (by omega))
end OKS
/-! numbers: ints as integers -/
theorem ti_w (x : Int) : x.bmod (2 ^ 32) = (x + 2147483648) % 4294967296 - 2147483648 := by
  have e : ((2 ^ 32 : Nat) : Int) = 4294967296 := rfl
  rw [Int.bmod_def, e]
  split <;> omega
theorem ti_add (a b : Int32) : (a + b).toInt = (a.toInt + b.toInt + 2147483648) % 4294967296 - 2147483648 := by rw [Int32.toInt_add, ti_w]
theorem ti_sub (a b : Int32) : (a - b).toInt = (a.toInt - b.toInt + 2147483648) % 4294967296 - 2147483648 := by rw [Int32.toInt_sub, ti_w]
theorem ti_mul (a b : Int32) : (a * b).toInt = (a.toInt * b.toInt + 2147483648) % 4294967296 - 2147483648 := by rw [Int32.toInt_mul, ti_w]
theorem ti_ofNat {n : Nat} (h : n < 2147483648) : (Int32.ofNat n).toInt = (n : Int) := nI_toInt h
theorem ti_eq {a b : Int32} : a = b ↔ a.toInt = b.toInt := Int32.toInt_inj.symm
theorem ti_lo (a : Int32) : -2147483648 ≤ a.toInt := Int32.le_toInt a
theorem ti_hi (a : Int32) : a.toInt < 2147483648 := Int32.toInt_lt a
theorem ti_sl : ∀ n, n < 32 → ((Int32.ofNat n &&& 31).toBitVec.smod 32).toNat = n := by decide +kernel
theorem ti_shr (x : Int32) {n : Nat} (hn : n < 32) : (x >>> (Int32.ofNat n &&& 31)).toInt = x.toInt / ((2 ^ n : Nat) : Int) := by
  show (x >>> (Int32.ofNat n &&& 31)).toBitVec.toInt = x.toBitVec.toInt / _
  rw [Int32.toBitVec_shiftRight]
  show (x.toBitVec.sshiftRight ((Int32.ofNat n &&& 31).toBitVec.smod 32).toNat).toInt = _
  rw [ti_sl n hn, BitVec.toInt_sshiftRight, Int.shiftRight_eq_div_pow]
theorem ti_toNat {x : Int32} (h : x.toBitVec.toNat < 2147483648) : x.toInt = (x.toBitVec.toNat : Int) := by
  show x.toBitVec.toInt = _
  rw [BitVec.toInt_eq_toNat_of_lt (by omega)]
theorem ti_and0 (x : Int32) {m : Nat} (hm : m < 2147483648) : 0 ≤ (x &&& Int32.ofNat m).toInt ∧ (x &&& Int32.ofNat m).toInt ≤ (m : Int) := by
  have e : (x &&& Int32.ofNat m).toBitVec.toNat ≤ m := by
    rw [Int32.toBitVec_and, BitVec.toNat_and]
    refine Nat.le_trans Nat.and_le_right ?_
    show (BitVec.ofNat 32 m).toNat ≤ m
    rw [BitVec.toNat_ofNat]
    exact Nat.mod_le _ _
  rw [ti_toNat (by omega)]
  omega
/-- 1 << x, x from 0 to 10 -/
theorem ti_one {x : Int32} (h0 : 0 ≤ x.toInt) (h1 : x.toInt ≤ 30) : ((1 : Int32) <<< (x &&& 31)).toInt = ((2 ^ x.toInt.toNat : Nat) : Int) := by
  obtain ⟨n, hn, rfl⟩ : ∃ n, n < 31 ∧ x = nI n := ⟨x.toInt.toNat, by omega, Int32.toInt_inj.mp (by rw [nI_toInt (by omega)]; omega)⟩
  rw [nI_toInt (by omega)]
  exact (by decide +kernel : ∀ n, n < 31 → ((1 : Int32) <<< (nI n &&& 31)).toInt = ((2 ^ ((n : Int)).toNat : Nat) : Int)) n hn
theorem ti_one10 {x : Int32} (h0 : 0 ≤ x.toInt) (h1 : x.toInt ≤ 10) : 1 ≤ ((1 : Int32) <<< (x &&& 31)).toInt ∧ ((1 : Int32) <<< (x &&& 31)).toInt ≤ 1024 := by
  rw [ti_one h0 (by omega)]
  have : x.toInt.toNat ≤ 10 := by omega
  have h2 := Nat.pow_le_pow_right (show 0 < 2 by decide) this
  have h3 := Nat.pow_pos (n := x.toInt.toNat) (show 0 < 2 by decide)
  omega
theorem ti_cl (x : Int32) : ((x.toNatClampNeg : Nat) : Int) = if x.toInt < 0 then 0 else x.toInt := by
  have e1 : x.toNatClampNeg = x.toInt.toNat := rfl
  rw [e1]
  split <;> omega
/-- every cell of a family has its row -/
theorem zfam : ∀ k, k < 243 → (zKd k).1 = 2 → zdyn k 0 = false ∧ zT k 0 = k + 1 ∧ zKd (k + 1) = (15, 16) := by decide +kernel
theorem zKd_lt {k ci : Nat} (h : (zKd k).1 = ci) (hc : ci < 99) : k < 243 := (zKd_in h hc).1
theorem fam_R {R : Nat → Nat → Nat} {f : Nat} (hR : RF R) (hf : (zKd f).1 = 2) : R f 0 = f + 1 ∧ zKd (f + 1) = (15, 16) := by
  obtain ⟨h1, h2, h3⟩ := zfam f (zKd_lt hf (by decide)) hf
  exact ⟨(hR f 0 h1).trans h2, h3⟩
theorem zslot : ∀ k, k < 243 → (zKd k).1 = 9 → zdyn k 0 = false ∧ zT k 0 = k + 1 ∧ zKd (k + 1) = (15, 60) := by decide +kernel
theorem slot_R {R : Nat → Nat → Nat} {f : Nat} (hR : RF R) (hf : (zKd f).1 = 9) : R f 0 = f + 1 ∧ zKd (f + 1) = (15, 60) := by
  obtain ⟨h1, h2, h3⟩ := zslot f (zKd_lt hf (by decide)) hf
  exact ⟨(hR f 0 h1).trans h2, h3⟩
theorem zarF : ∀ k, k < 243 → (zKd k).1 = 17 → ∀ i, i < (zKd k).2 → zdyn k i = false ∧ (zKd (zT k i)).1 = 2 := by decide +kernel
theorem zarS : ∀ k, k < 243 → (zKd k).1 = 18 → ∀ i, i < (zKd k).2 → zdyn k i = false ∧ (zKd (zT k i)).1 = 9 := by decide +kernel
theorem arrF {R : Nat → Nat → Nat} (hR : RF R) {k n : Nat} {i : Int32} (hk : zKd k = (17, n)) (h0 : 0 ≤ i.toInt) (h1 : i.toInt < (n : Int)) : ∃ q, R k i.toNatClampNeg = q ∧ (zKd q).1 = 2 := by
  have e1 : i.toNatClampNeg = i.toInt.toNat := rfl
  obtain ⟨h2, h3⟩ := zarF k (zKd_lt (ci := 17) (by rw [hk]) (by decide)) (by rw [hk]) i.toNatClampNeg (by rw [hk, e1]; show _ < n; omega)
  exact ⟨_, rfl, by rw [hR k _ h2]; exact h3⟩
theorem arrS {R : Nat → Nat → Nat} (hR : RF R) {k n : Nat} {i : Int32} (hk : zKd k = (18, n)) (h0 : 0 ≤ i.toInt) (h1 : i.toInt < (n : Int)) : ∃ q, R k i.toNatClampNeg = q ∧ (zKd q).1 = 9 := by
  have e1 : i.toNatClampNeg = i.toInt.toNat := rfl
  obtain ⟨h2, h3⟩ := zarS k (zKd_lt (ci := 18) (by rw [hk]) (by decide)) (by rw [hk]) i.toNatClampNeg (by rw [hk, e1]; show _ < n; omega)
  exact ⟨_, rfl, by rw [hR k _ h2]; exact h3⟩
/-- what always holds of a world's numbers -/
def WI (B : Nat) (f : Nat → Nat → Int32) : Prop := (0 ≤ (f B 0).toInt ∧ (f B 0).toInt ≤ 10) ∧ (0 ≤ (f B 2).toInt ∧ (f B 2).toInt ≤ 10) ∧ ∀ j, j < 10 → (0 ≤ (f (B + 1) j).toInt ∧ (f (B + 1) j).toInt ≤ 7) ∧ (0 ≤ (f (B + 2) j).toInt ∧ (f (B + 2) j).toInt ≤ 7)
theorem WI.tr {S : List Nat} {σ τ : zS} {B : Nat} (hT : Tr S σ τ) (h0 : B ∉ S) (h1 : B + 1 ∉ S) (h2 : B + 2 ∉ S) (h : WI B σ.1) : WI B τ.1 := by
  unfold WI at h ⊢
  rw [hT.2 B h0, hT.2 (B + 1) h1, hT.2 (B + 2) h2]
  exact h
theorem zslm : ∀ k, k < 243 → (zKd k).1 = 9 → k = 210 ∨ k = 212 ∨ k = 214 ∨ k = 216 := by decide +kernel
theorem slotMem {S : List Nat} {k : Nat} (hk : (zKd k).1 = 9) (h0 : 210 ∈ S := by decide) (h1 : 212 ∈ S := by decide) (h2 : 214 ∈ S := by decide) (h3 : 216 ∈ S := by decide) : k ∈ S := by
  rcases zslm k (zKd_lt hk (by decide)) hk with rfl | rfl | rfl | rfl <;> assumption
theorem ti_shl1 {x : Int32} (h0 : 0 ≤ x.toInt) (h1 : x.toInt < 1073741824) : (x <<< ((1 : Int32) &&& 31)).toInt = 2 * x.toInt := by
  have e : x <<< ((1 : Int32) &&& 31) = x + x := by
    apply Int32.toBitVec_inj.1
    rw [Int32.toBitVec_shiftLeft, Int32.toBitVec_add]
    show x.toBitVec <<< ((Int32.ofNat 1 &&& 31).toBitVec.smod 32).toNat = _
    rw [ti_sl 1 (by decide)]
    apply BitVec.eq_of_toNat_eq
    rw [BitVec.toNat_shiftLeft, BitVec.toNat_add, Nat.shiftLeft_eq]
    congr 1
    omega
  rw [e, ti_add]
  omega
theorem ti_zmin (x y : Int32) : (zmin x y).toInt = if y.toInt < x.toInt then y.toInt else x.toInt := by
  unfold zmin
  simp only [Int32.lt_iff_toInt_lt]
  split <;> rfl
theorem ti_zmax (x y : Int32) : (zmax x y).toInt = if x.toInt < y.toInt then y.toInt else x.toInt := by
  unfold zmax
  simp only [Int32.lt_iff_toInt_lt]
  split <;> rfl
theorem lgc0 {x : Int64} (h : ¬ lg_cmp x 0 = 0) : ¬ x = 0 := fun q => h (by rw [q]; rfl)
theorem zI_atI {τ σ : zS} {k j : Nat} {v : Int32} (e : τ = zI σ k (upd (σ.1 k) j v)) : τ.1 k j = v := by
  subst e
  show va_up σ.1 k (upd (σ.1 k) j v) k j = v
  rw [va_up_self]
  exact if_pos rfl
theorem zI_atN {τ σ : zS} {k j i : Nat} {v : Int32} (e : τ = zI σ k (upd (σ.1 k) j v)) (h : i ≠ j) : τ.1 k i = σ.1 k i := by
  subst e
  show va_up σ.1 k (upd (σ.1 k) j v) k i = σ.1 k i
  rw [va_up_self]
  exact if_neg h
section OKS2
variable {β : Type} {P : β → Prop} {Sx : List Nat} {σ0 σ : zS}
theorem ok_s14 {n k : Nat} {i v : Int32} {f : zS → Option β} (hT : Tr Sx σ0 σ) (hk : zKd k = (14, n)) (hS : k ∈ Sx) (h1 : 0 ≤ i.toInt) (h2 : i.toInt < (n : Int)) (h : ∀ τ : zS, τ = zI σ k (upd (σ.1 k) i.toNatClampNeg v) → Tr [k] σ τ → Tr Sx σ0 τ → Ok (f τ) P) : Ok (zl (sI 14 k i v σ) f) P := ok_sI hT hk hS h1 h2 h
theorem ok_s13 {n k : Nat} {i v : Int32} {f : zS → Option β} (hT : Tr Sx σ0 σ) (hk : zKd k = (13, n)) (hS : k ∈ Sx) (h1 : 0 ≤ i.toInt) (h2 : i.toInt < (n : Int)) (h : ∀ τ : zS, τ = zI σ k (upd (σ.1 k) i.toNatClampNeg (vp_nar .byte v)) → Tr [k] σ τ → Tr Sx σ0 τ → Ok (f τ) P) : Ok (zl (sI 13 k i v σ) f) P := ok_sI hT hk hS h1 h2 h
theorem ok_s16 {n k : Nat} {i v : Int32} {f : zS → Option β} (hT : Tr Sx σ0 σ) (hk : zKd k = (16, n)) (hS : k ∈ Sx) (h1 : 0 ≤ i.toInt) (h2 : i.toInt < (n : Int)) (h : ∀ τ : zS, τ = zI σ k (upd (σ.1 k) i.toNatClampNeg (vp_nar .boolean v)) → Tr [k] σ τ → Tr Sx σ0 τ → Ok (f τ) P) : Ok (zl (sI 16 k i v σ) f) P := ok_sI hT hk hS h1 h2 h
end OKS2
/-- a row of small numbers stays one -/
theorem row_up {τ σ : zS} {k j : Nat} {v : Int32} {A : Int32 → Prop} {n : Nat} (e : τ = zI σ k (upd (σ.1 k) j v)) (hv : A v) (h : ∀ i, i < n → A (σ.1 k i)) : ∀ i, i < n → A (τ.1 k i) := by
  intro i hi
  by_cases q : i = j
  · subst q; rw [zI_atI e]; exact hv
  · rw [zI_atN e q]; exact h i hi
theorem WI_add {B : Nat} {σ σ1 σ2 σ3 : zS} {i1 i2 : Nat} {v w u : Int32} (hW : WI B σ.1) (e1 : σ1 = zI σ (B + 1) (upd (σ.1 (B + 1)) i1 v)) (e2 : σ2 = zI σ1 (B + 2) (upd (σ1.1 (B + 2)) i2 w)) (e3 : σ3 = zI σ2 B (upd (σ2.1 B) 2 u)) (hv : 0 ≤ v.toInt ∧ v.toInt ≤ 7) (hw : 0 ≤ w.toInt ∧ w.toInt ≤ 7) (hu : 0 ≤ u.toInt ∧ u.toInt ≤ 10) : WI B σ3.1 := by
  obtain ⟨h1, h2, h3⟩ := hW
  have o1 : ∀ a, a ≠ B + 1 → σ1.1 a = σ.1 a := fun a ha => by subst e1; exact va_up_ne _ _ ha
  have o2 : ∀ a, a ≠ B + 2 → σ2.1 a = σ1.1 a := fun a ha => by subst e2; exact va_up_ne _ _ ha
  have o3 : ∀ a, a ≠ B → σ3.1 a = σ2.1 a := fun a ha => by subst e3; exact va_up_ne _ _ ha
  have r1 := row_up (A := fun x => 0 ≤ x.toInt ∧ x.toInt ≤ 7) (n := 10) e1 hv (fun i hi => (h3 i hi).1)
  have r2 := row_up (A := fun x => 0 ≤ x.toInt ∧ x.toInt ≤ 7) (n := 10) e2 hw (fun i hi => by rw [o1 _ (by omega)]; exact (h3 i hi).2)
  refine ⟨?_, ?_, fun j hj => ⟨?_, ?_⟩⟩
  · rw [zI_atN e3 (by decide), o2 _ (by omega), o1 _ (by omega)]; exact h1
  · rw [zI_atI e3]; exact hu
  · rw [o3 _ (by omega), o2 _ (by omega)]; exact r1 j hj
  · rw [o3 _ (by omega)]; exact r2 j hj
theorem ti_one9 {x : Int32} (h0 : 0 ≤ x.toInt) (h1 : x.toInt ≤ 9) : 1 ≤ ((1 : Int32) <<< (x &&& 31)).toInt ∧ ((1 : Int32) <<< (x &&& 31)).toInt ≤ 512 := by
  rw [ti_one h0 (by omega)]
  have : x.toInt.toNat ≤ 9 := by omega
  have h2 := Nat.pow_le_pow_right (show 0 < 2 by decide) this
  have h3 := Nat.pow_pos (n := x.toInt.toNat) (show 0 < 2 by decide)
  omega
theorem ti_mm (x : Int32) : 0 ≤ (zmax 0 (zmin 10 x)).toInt ∧ (zmax 0 (zmin 10 x)).toInt ≤ 10 := by
  rw [ti_zmax, ti_zmin]
  simp only [Int32.reduceToInt]
  split <;> split <;> omega
theorem ti_or {a b : Int32} {n : Nat} (hn : n ≤ 31) (ha : 0 ≤ a.toInt) (ha2 : a.toInt < ((2 ^ n : Nat) : Int)) (hb : 0 ≤ b.toInt) (hb2 : b.toInt < ((2 ^ n : Nat) : Int)) : 0 ≤ (a ||| b).toInt ∧ (a ||| b).toInt < ((2 ^ n : Nat) : Int) := by
  have hp : 2 ^ n ≤ 2147483648 := Nat.pow_le_pow_right (show 0 < 2 by decide) hn
  have nn : ∀ x : Int32, 0 ≤ x.toInt → x.toInt = (x.toBitVec.toNat : Int) := by
    intro x hx
    have h1 : x.toInt = x.toBitVec.toInt := rfl
    rw [h1, BitVec.toInt_eq_toNat_cond] at hx ⊢
    have := x.toBitVec.isLt
    split at hx
    · rw [if_pos (by assumption)]
    · omega
  have e : (a ||| b).toBitVec.toNat < 2 ^ n := by
    rw [Int32.toBitVec_or, BitVec.toNat_or]
    exact Nat.or_lt_two_pow (by rw [nn a ha] at ha2; omega) (by rw [nn b hb] at hb2; omega)
  rw [ti_toNat (by omega)]
  omega
theorem ti_mm6 (x : Int32) : 0 ≤ (zmax 0 (zmin 6 x)).toInt ∧ (zmax 0 (zmin 6 x)).toInt ≤ 6 := by
  rw [ti_zmax, ti_zmin]
  simp only [Int32.reduceToInt]
  split <;> split <;> omega
theorem ti_one6 {x : Int32} (h0 : 0 ≤ x.toInt) (h1 : x.toInt ≤ 6) : 1 ≤ ((1 : Int32) <<< (x &&& 31)).toInt ∧ ((1 : Int32) <<< (x &&& 31)).toInt ≤ 64 := by
  rw [ti_one h0 (by omega)]
  have : x.toInt.toNat ≤ 6 := by omega
  have h2 := Nat.pow_le_pow_right (show 0 < 2 by decide) this
  have h3 := Nat.pow_pos (n := x.toInt.toNat) (show 0 < 2 by decide)
  omega
theorem ti_one5 {x : Int32} (h0 : 0 ≤ x.toInt) (h1 : x.toInt ≤ 5) : 0 ≤ ((1 : Int32) <<< (x &&& 31)).toInt ∧ ((1 : Int32) <<< (x &&& 31)).toInt < ((2 ^ 6 : Nat) : Int) := by
  rw [ti_one h0 (by omega)]
  have : x.toInt.toNat ≤ 5 := by omega
  have h2 := Nat.pow_le_pow_right (show 0 < 2 by decide) this
  have h3 := Nat.pow_pos (n := x.toInt.toNat) (show 0 < 2 by decide)
  omega
theorem i64_of (a : Int32) : (Int32.toInt64 a).toInt = a.toInt := Int32.toInt_toInt64 a
theorem spans_ok {a b c : Int32} (h0 : 0 ≤ a.toInt) (h1 : 0 ≤ b.toInt) (h : ¬ 0 < lg_cmp (Int32.toInt64 a + Int32.toInt64 b) (Int32.toInt64 c)) : a.toInt + b.toInt ≤ c.toInt := by
  rw [zcmp_gt, Int64.toInt_add, i64_of, i64_of, i64_of] at h
  have ha := ti_hi a
  have hb := ti_hi b
  have e : (a.toInt + b.toInt).bmod (2 ^ 64) = a.toInt + b.toInt := by
    have e2 : ((2 ^ 64 : Nat) : Int) = 18446744073709551616 := rfl
    rw [Int.bmod_def, e2]
    split <;> omega
  rw [e] at h
  omega
section WIS
variable {B : Nat} {σ τ : zS}
theorem WI_p0 {v : Int32} (e : τ = zI σ B (upd (σ.1 B) 0 v)) (hv : 0 ≤ v.toInt ∧ v.toInt ≤ 10) (h : WI B σ.1) : WI B τ.1 := by
  have o1 : ∀ a, a ≠ B → τ.1 a = σ.1 a := fun a ha => by subst e; exact va_up_ne _ _ ha
  refine ⟨by rw [zI_atI e]; exact hv, by rw [zI_atN e (by decide)]; exact h.2.1, fun j hj => ?_⟩
  rw [o1 _ (by omega), o1 _ (by omega)]; exact h.2.2 j hj
theorem WI_p1 {v : Int32} (e : τ = zI σ B (upd (σ.1 B) 1 v)) (h : WI B σ.1) : WI B τ.1 := by
  have o1 : ∀ a, a ≠ B → τ.1 a = σ.1 a := fun a ha => by subst e; exact va_up_ne _ _ ha
  refine ⟨by rw [zI_atN e (by decide)]; exact h.1, by rw [zI_atN e (by decide)]; exact h.2.1, fun j hj => ?_⟩
  rw [o1 _ (by omega), o1 _ (by omega)]; exact h.2.2 j hj
theorem WI_p2 {v : Int32} (e : τ = zI σ B (upd (σ.1 B) 2 v)) (hv : 0 ≤ v.toInt ∧ v.toInt ≤ 10) (h : WI B σ.1) : WI B τ.1 := by
  have o1 : ∀ a, a ≠ B → τ.1 a = σ.1 a := fun a ha => by subst e; exact va_up_ne _ _ ha
  refine ⟨by rw [zI_atN e (by decide)]; exact h.1, by rw [zI_atI e]; exact hv, fun j hj => ?_⟩
  rw [o1 _ (by omega), o1 _ (by omega)]; exact h.2.2 j hj
theorem zI_row {k : Nat} {f : Nat → Int32} (e : τ = zI σ k f) : τ.1 k = f := by
  subst e; exact va_up_self _ _ _
theorem WI_c1 {C : Nat} (e : τ = zI σ (B + 1) (va_cpy (σ.1 (C + 1)) (σ.1 (B + 1)) (Int32.toNatClampNeg 0) (Int32.toNatClampNeg 0) (Int32.toNatClampNeg 10))) (hC : WI C σ.1) (h : WI B σ.1) : WI B τ.1 := by
  have o1 : ∀ a, a ≠ B + 1 → τ.1 a = σ.1 a := fun a ha => by subst e; exact va_up_ne _ _ ha
  refine ⟨by rw [o1 _ (by omega)]; exact h.1, by rw [o1 _ (by omega)]; exact h.2.1, fun j hj => ?_⟩
  rw [o1 (B + 2) (by omega), zI_row e]
  refine ⟨?_, (h.2.2 j hj).2⟩
  show 0 ≤ (if 0 ≤ j ∧ j < 0 + 10 then σ.1 (C + 1) (0 + (j - 0)) else σ.1 (B + 1) j).toInt ∧ (if 0 ≤ j ∧ j < 0 + 10 then σ.1 (C + 1) (0 + (j - 0)) else σ.1 (B + 1) j).toInt ≤ 7
  rw [if_pos ⟨Nat.zero_le _, by omega⟩, show 0 + (j - 0) = j by omega]
  exact (hC.2.2 j hj).1
theorem WI_c2 {C : Nat} (e : τ = zI σ (B + 2) (va_cpy (σ.1 (C + 2)) (σ.1 (B + 2)) (Int32.toNatClampNeg 0) (Int32.toNatClampNeg 0) (Int32.toNatClampNeg 10))) (hC : WI C σ.1) (h : WI B σ.1) : WI B τ.1 := by
  have o1 : ∀ a, a ≠ B + 2 → τ.1 a = σ.1 a := fun a ha => by subst e; exact va_up_ne _ _ ha
  refine ⟨by rw [o1 _ (by omega)]; exact h.1, by rw [o1 _ (by omega)]; exact h.2.1, fun j hj => ?_⟩
  rw [o1 (B + 1) (by omega), zI_row e]
  refine ⟨(h.2.2 j hj).1, ?_⟩
  show 0 ≤ (if 0 ≤ j ∧ j < 0 + 10 then σ.1 (C + 2) (0 + (j - 0)) else σ.1 (B + 2) j).toInt ∧ (if 0 ≤ j ∧ j < 0 + 10 then σ.1 (C + 2) (0 + (j - 0)) else σ.1 (B + 2) j).toInt ≤ 7
  rw [if_pos ⟨Nat.zero_le _, by omega⟩, show 0 + (j - 0) = j by omega]
  exact (hC.2.2 j hj).2
theorem WI_from {S : List Nat} {σ0 : zS} {i : Int32} (hT : Tr S σ0 σ) (hS : B + 1 ∉ S) (hW : WI B σ0.1) (h0 : 0 ≤ i.toInt) (h1 : i.toInt < 10) : 0 ≤ (σ.1 (B + 1) i.toNatClampNeg).toInt ∧ (σ.1 (B + 1) i.toNatClampNeg).toInt ≤ 7 := by
  have e1 : i.toNatClampNeg = i.toInt.toNat := rfl
  rw [hT.2 _ hS]
  exact (hW.2.2 _ (by omega)).1
theorem WI_till {S : List Nat} {σ0 : zS} {i : Int32} (hT : Tr S σ0 σ) (hS : B + 2 ∉ S) (hW : WI B σ0.1) (h0 : 0 ≤ i.toInt) (h1 : i.toInt < 10) : 0 ≤ (σ.1 (B + 2) i.toNatClampNeg).toInt ∧ (σ.1 (B + 2) i.toNatClampNeg).toInt ≤ 7 := by
  have e1 : i.toNatClampNeg = i.toInt.toNat := rfl
  rw [hT.2 _ hS]
  exact (hW.2.2 _ (by omega)).2
end WIS
/-- crossings seen: bits among the first eight -/
def bc8 (x : Int32) : Nat := ((List.range 8).filter (fun i => x.toBitVec.getLsbD i)).length
theorem bc8_step : ∀ n, n < 256 → ∀ k, k < 8 → ((nI n >>> (nI k &&& 31)) &&& 1) = 0 → (0 ≤ (nI n ||| ((1 : Int32) <<< (nI k &&& 31))).toInt ∧ (nI n ||| ((1 : Int32) <<< (nI k &&& 31))).toInt ≤ 255 ∧ bc8 (nI n ||| ((1 : Int32) <<< (nI k &&& 31))) = bc8 (nI n) + 1 ∧ bc8 (nI n) < 8) := by decide +kernel
theorem znI {x : Int32} {m : Nat} (h0 : 0 ≤ x.toInt) (h1 : x.toInt < (m : Int)) : ∃ n, n < m ∧ x = nI n := by
  have := ti_hi x
  exact ⟨x.toInt.toNat, by omega, Int32.toInt_inj.mp (by rw [nI_toInt (by omega)]; omega)⟩
theorem bc8_up {x k : Int32} (h0 : 0 ≤ x.toInt) (h1 : x.toInt ≤ 255) (h2 : 0 ≤ k.toInt) (h3 : k.toInt ≤ 7) (h : ((x >>> (k &&& 31)) &&& 1) = 0) : 0 ≤ (x ||| ((1 : Int32) <<< (k &&& 31))).toInt ∧ (x ||| ((1 : Int32) <<< (k &&& 31))).toInt ≤ 255 ∧ bc8 (x ||| ((1 : Int32) <<< (k &&& 31))) = bc8 x + 1 ∧ bc8 x < 8 := by
  obtain ⟨n, hn, rfl⟩ := znI (m := 256) h0 (by omega)
  obtain ⟨q, hq, rfl⟩ := znI (m := 8) h2 (by omega)
  exact bc8_step _ hn _ hq h
theorem one7 {k : Int32} (h2 : 0 ≤ k.toInt) (h3 : k.toInt ≤ 7) : 0 ≤ ((1 : Int32) <<< (k &&& 31)).toInt ∧ ((1 : Int32) <<< (k &&& 31)).toInt ≤ 255 := by
  obtain ⟨q, hq, rfl⟩ := znI (m := 8) h2 (by omega)
  exact (by decide +kernel : ∀ n, n < 8 → 0 ≤ ((1 : Int32) <<< (nI n &&& 31)).toInt ∧ ((1 : Int32) <<< (nI n &&& 31)).toInt ≤ 255) _ hq
/-- no slot's row is longer than 60 -/
def SI (f : Nat → Nat → Int32) : Prop := ∀ k, (zKd k).1 = 9 → (f k 2).toInt ≤ 60
theorem SI.tr {S : List Nat} {σ τ : zS} (hT : Tr S σ τ) (h0 : 210 ∉ S) (h1 : 212 ∉ S) (h2 : 214 ∉ S) (h3 : 216 ∉ S) (h : SI σ.1) : SI τ.1 := by
  intro k hk
  have e : τ.1 k = σ.1 k := by rcases zslm k (zKd_lt hk (by decide)) hk with rfl | rfl | rfl | rfl <;> (apply hT.2; assumption)
  rw [e]; exact h k hk
theorem SI_p {σ τ : zS} {k j : Nat} {v : Int32} (e : τ = zI σ k (upd (σ.1 k) j v)) (hv : j = 2 → v.toInt ≤ 60) (h : SI σ.1) : SI τ.1 := by
  intro a ha
  by_cases q : a = k
  · subst q
    by_cases q2 : 2 = j
    · subst q2; rw [zI_atI e]; exact hv rfl
    · rw [zI_atN e q2]; exact h a ha
  · have : τ.1 a = σ.1 a := by subst e; exact va_up_ne _ _ q
    rw [this]; exact h a ha
/-- the reader's numbers: place 0 .. 600, length 0 .. 600, the last token is none, starts and ends 0 .. 600 -/
def RD (f : Nat → Nat → Int32) : Prop := (0 ≤ (f 57 9).toInt ∧ (f 57 9).toInt ≤ 600) ∧ (0 ≤ (f 57 6).toInt ∧ (f 57 6).toInt ≤ 600) ∧ f 61 600 = 0 ∧ (∀ j, j < 601 → 0 ≤ (f 63 j).toInt ∧ (f 63 j).toInt ≤ 600) ∧ ∀ j, j < 601 → 0 ≤ (f 64 j).toInt ∧ (f 64 j).toInt ≤ 600
theorem RD.tr {S : List Nat} {σ τ : zS} (hT : Tr S σ τ) (h0 : 57 ∉ S) (h1 : 61 ∉ S) (h2 : 63 ∉ S) (h3 : 64 ∉ S) (h : RD σ.1) : RD τ.1 := by
  unfold RD at h ⊢
  rw [hT.2 57 h0, hT.2 61 h1, hT.2 63 h2, hT.2 64 h3]
  exact h
theorem RD_p {σ τ : zS} {j : Nat} {v : Int32} (e : τ = zI σ 57 (upd (σ.1 57) j v)) (h9 : j = 9 → 0 ≤ v.toInt ∧ v.toInt ≤ 600) (h6 : j = 6 → 0 ≤ v.toInt ∧ v.toInt ≤ 600) (h : RD σ.1) : RD τ.1 := by
  have o1 : ∀ a, a ≠ 57 → τ.1 a = σ.1 a := fun a ha => by subst e; exact va_up_ne _ _ ha
  unfold RD
  rw [o1 61 (by decide), o1 63 (by decide), o1 64 (by decide)]
  refine ⟨?_, ?_, h.2.2⟩
  · by_cases q : 9 = j
    · subst q; rw [zI_atI e]; exact h9 rfl
    · rw [zI_atN e q]; exact h.1
  · by_cases q : 6 = j
    · subst q; rw [zI_atI e]; exact h6 rfl
    · rw [zI_atN e q]; exact h.2.1
theorem RD_k {σ τ : zS} {x v : Int32} (e : τ = zI σ 61 (upd (σ.1 61) x.toNatClampNeg v)) (h0 : x.toInt < 600 ∨ v = 0) (h : RD σ.1) : RD τ.1 := by
  have o1 : ∀ a, a ≠ 61 → τ.1 a = σ.1 a := fun a ha => by subst e; exact va_up_ne _ _ ha
  have e1 : x.toNatClampNeg = x.toInt.toNat := rfl
  unfold RD
  rw [o1 57 (by decide), o1 63 (by decide), o1 64 (by decide)]
  refine ⟨h.1, h.2.1, ?_, h.2.2.2⟩
  by_cases q : 600 = x.toNatClampNeg
  · rw [q, zI_atI e]
    rcases h0 with h0 | h0
    · omega
    · exact h0
  · rw [zI_atN e q]; exact h.2.2.1
theorem RD_s {σ τ : zS} {i : Nat} {v : Int32} (e : τ = zI σ 63 (upd (σ.1 63) i v)) (hv : 0 ≤ v.toInt ∧ v.toInt ≤ 600) (h : RD σ.1) : RD τ.1 := by
  have o1 : ∀ a, a ≠ 63 → τ.1 a = σ.1 a := fun a ha => by subst e; exact va_up_ne _ _ ha
  have r := row_up (A := fun x => 0 ≤ x.toInt ∧ x.toInt ≤ 600) (n := 601) e hv h.2.2.2.1
  unfold RD
  rw [o1 57 (by decide), o1 61 (by decide), o1 64 (by decide)]
  exact ⟨h.1, h.2.1, h.2.2.1, r, h.2.2.2.2⟩
theorem RD_e {σ τ : zS} {i : Nat} {v : Int32} (e : τ = zI σ 64 (upd (σ.1 64) i v)) (hv : 0 ≤ v.toInt ∧ v.toInt ≤ 600) (h : RD σ.1) : RD τ.1 := by
  have o1 : ∀ a, a ≠ 64 → τ.1 a = σ.1 a := fun a ha => by subst e; exact va_up_ne _ _ ha
  have r := row_up (A := fun x => 0 ≤ x.toInt ∧ x.toInt ≤ 600) (n := 601) e hv h.2.2.2.2
  unfold RD
  rw [o1 57 (by decide), o1 61 (by decide), o1 63 (by decide)]
  exact ⟨h.1, h.2.1, h.2.2.1, h.2.2.2.1, r⟩
theorem RD_st {σ : zS} {x : Int32} (h : RD σ.1) (h0 : 0 ≤ x.toInt) (h1 : x.toInt < 601) : 0 ≤ (σ.1 63 x.toNatClampNeg).toInt ∧ (σ.1 63 x.toNatClampNeg).toInt ≤ 600 := by
  have e1 : x.toNatClampNeg = x.toInt.toNat := rfl
  exact h.2.2.2.1 _ (by omega)
theorem RD_en {σ : zS} {x : Int32} (h : RD σ.1) (h0 : 0 ≤ x.toInt) (h1 : x.toInt < 601) : 0 ≤ (σ.1 64 x.toNatClampNeg).toInt ∧ (σ.1 64 x.toNatClampNeg).toInt ≤ 600 := by
  have e1 : x.toNatClampNeg = x.toInt.toNat := rfl
  exact h.2.2.2.2 _ (by omega)
theorem RD_lt {σ : zS} {x : Int32} (h : RD σ.1) (h0 : 0 ≤ x.toInt) (h1 : x.toInt ≤ 600) (hk : ¬ σ.1 61 x.toNatClampNeg = 0) : x.toInt ≤ 599 := by
  have e1 : x.toNatClampNeg = x.toInt.toNat := rfl
  rcases (show x.toInt ≤ 599 ∨ x.toInt = 600 by omega) with q | q
  · exact q
  · exact absurd (by rw [e1, q]; exact h.2.2.1) hk
/-- the value of the token that was passed last -/
def lastv (f : Nat → Nat → Int32) : Int32 := f 62 ((f 57 9).toInt - 1).toNat
theorem ti_mm15 (x : Int32) : 0 ≤ (zmax 0 (zmin 15 x)).toInt ∧ (zmax 0 (zmin 15 x)).toInt ≤ 15 := by
  rw [ti_zmax, ti_zmin]
  simp only [Int32.reduceToInt]
  split <;> split <;> omega
theorem zlen_6 : ∀ i, i < zSn → zlen.getD i 0 ≤ 6 := by decide +kernel
theorem s_J0_length_8abf5 {N : Nat} (hN : 1048576 ≤ N) {x0 : Nat} {σ0 : zS} (hR : RF σ0.2.2) (hi : x0 < zSn) : Ok (f_J0_length_8abf5 N x0 σ0) (fun r => Tr [] σ0 r.2 ∧ (r.1.toInt = ((zlen.getD x0 0 : Nat) : Int) ∧ r.1.toInt ≤ 6)) := by
  have h6 := zlen_6 x0 hi
  refine ⟨_, if_pos hi, Tr.rf, ?_⟩
  show (nI (zlen.getD x0 0)).toInt = _ ∧ _
  rw [nI_toInt (by omega)]
  omega
theorem s_J0_charAt_5068e {N : Nat} (hN : 1048576 ≤ N) {x0 : Nat} {x1 : Int32} {σ0 : zS} (hR : RF σ0.2.2) (hi : x0 < zSn) (h0 : 0 ≤ x1.toInt) (h1 : x1.toInt < ((zlen.getD x0 0 : Nat) : Int)) : Ok (f_J0_charAt_5068e N x0 x1 σ0) (fun r => Tr [] σ0 r.2 ∧ True) := ⟨_, if_pos ⟨hi, h0, h1⟩, Tr.rf, trivial⟩
theorem lastv_adv {σ τ : zS} (hO : Tr [57] σ τ) (h9 : 0 ≤ (σ.1 57 9).toInt) (h : (τ.1 57 9).toInt = (σ.1 57 9).toInt + 1) : lastv τ.1 = σ.1 62 (σ.1 57 9).toNatClampNeg := by
  have e1 : (σ.1 57 9).toNatClampNeg = (σ.1 57 9).toInt.toNat := rfl
  unfold lastv
  rw [h, hO.2 62 (by decide), e1, show (σ.1 57 9).toInt + 1 - 1 = (σ.1 57 9).toInt by omega]
theorem lastv_at {f : Nat → Nat → Int32} (h : 1 ≤ (f 57 9).toInt) : f 62 (f 57 9 - 1).toNatClampNeg = lastv f := by
  have e1 : (f 57 9 - 1).toNatClampNeg = (f 57 9 - 1).toInt.toNat := rfl
  have h2 := ti_hi (f 57 9)
  unfold lastv
  rw [e1, ti_sub]
  simp only [Int32.reduceToInt]
  rw [show ((f 57 9).toInt - 1 + 2147483648) % 4294967296 - 2147483648 = (f 57 9).toInt - 1 by omega]
theorem lastv_tr {S : List Nat} {σ τ : zS} (hO : Tr S σ τ) (h1 : 57 ∉ S) (h2 : 62 ∉ S) : lastv τ.1 = lastv σ.1 := by
  unfold lastv; rw [hO.2 57 h1, hO.2 62 h2]
theorem PN1 {σ τ : zS} {v3 v7 v13 x1 x2 : Int32} (hD0 : RD σ.1) (hO : Tr [57] σ τ) (e3 : v3 = σ.1 61 (σ.1 57 9).toNatClampNeg) (hc4 : v3 = 3) (e7 : v7 = σ.1 62 (σ.1 57 9).toNatClampNeg) (e13 : v13 = σ.1 62 (σ.1 57 9).toNatClampNeg) (h8 : ¬ v7 < x1) (h14 : ¬ x2 < v13) (ha : ¬ (1 : Int32) = 0 → ¬ σ.1 61 (σ.1 57 9).toNatClampNeg = 0 → (τ.1 57 9).toInt = (σ.1 57 9).toInt + 1) : 1 ≤ (τ.1 57 9).toInt ∧ x1.toInt ≤ (lastv τ.1).toInt ∧ (lastv τ.1).toInt ≤ x2.toInt := by
  have hk : ¬ σ.1 61 (σ.1 57 9).toNatClampNeg = 0 := by rw [← e3, hc4]; decide
  have ha := ha (by decide) hk
  have hl := lastv_adv hO hD0.1.1 ha
  have h1 := hD0.1.1
  rw [Int32.lt_iff_toInt_lt] at h8 h14
  refine ⟨by omega, ?_, ?_⟩
  · rw [hl, ← e7]; omega
  · rw [hl, ← e13]; omega
/-- what always holds of the class's numbers -/
def CF (f : Nat → Nat → Int32) : Prop := WI 2 f ∧ WI 28 f ∧ WI 132 f ∧ WI 158 f ∧ WI 184 f ∧ SI f ∧ RD f ∧ (2 ≤ (f 111 8).toInt ∧ (f 111 8).toInt ≤ 1600) ∧ 0 ≤ (f 0 1).toInt ∧ (f 0 1).toInt ≤ 600
theorem nz64 {v : Int32} (h : 0 < v.toInt) : ¬ Int32.toInt64 v = 0 := by
  intro q
  have q2 := congrArg Int64.toInt q
  rw [i64_of] at q2
  have z : (0 : Int64).toInt = 0 := rfl
  omega

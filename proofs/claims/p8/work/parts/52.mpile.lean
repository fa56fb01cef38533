/-! ===== the reference's sums: what waits and what is piled ===== -/
def rkI (w : Int32) : Int32 := if w = 100 then 0 else if w < 50 then (if w = 0 then 1 else if w = 1 then 1 else 2) else 3
theorem x_X12_rank {N : Nat} {x0 : Int32} {σ : zS} : Ok (f_X12_rank N x0 σ) (fun r => r.2 = σ ∧ r.1 = rkI x0) := by
  rw [f_X12_rank.eq_1]
  unfold rkI
  refine ok_if (fun h => ok_some ⟨rfl, (if_pos h).symm⟩) (fun h => ?_)
  rw [if_neg h]
  refine ok_if (fun h1 => ?_) (fun h1 => ok_some ⟨rfl, (if_neg h1).symm⟩)
  rw [if_pos h1]
  refine ok_if (fun h2 => ok_some ⟨rfl, (if_pos h2).symm⟩) (fun h2 => ?_)
  rw [if_neg h2]
  exact ok_if (fun h3 => ok_some ⟨rfl, (if_pos h3).symm⟩) (fun h3 => ok_some ⟨rfl, (if_neg h3).symm⟩)
theorem x_X12_signOf {N : Nat} {x0 : Int32} {σ : zS} : Ok (f_X12_signOf N x0 σ) (fun r => r.2 = σ ∧ (r.1 = -1 ∨ ((0 ≤ r.1.toInt ∧ r.1.toInt ≤ 6) ∧ ¬ x0 = 0))) := by
  rw [f_X12_signOf.eq_1]
  refine ok_if (fun h => ok_some ⟨rfl, Or.inr ⟨(by decide : 0 ≤ (0 : Int32).toInt ∧ (0 : Int32).toInt ≤ 6), by rw [h]; decide⟩⟩) (fun _ => ?_)
  refine ok_if (fun h => ok_some ⟨rfl, Or.inr ⟨(by decide : 0 ≤ (1 : Int32).toInt ∧ (1 : Int32).toInt ≤ 6), by rw [h]; decide⟩⟩) (fun _ => ?_)
  refine ok_if (fun h => ok_some ⟨rfl, Or.inr ⟨(by decide : 0 ≤ (2 : Int32).toInt ∧ (2 : Int32).toInt ≤ 6), by rw [h]; decide⟩⟩) (fun _ => ?_)
  refine ok_if (fun h => ok_some ⟨rfl, Or.inr ⟨(by decide : 0 ≤ (3 : Int32).toInt ∧ (3 : Int32).toInt ≤ 6), by rw [h]; decide⟩⟩) (fun _ => ?_)
  refine ok_if (fun h => ok_some ⟨rfl, Or.inr ⟨(by decide : 0 ≤ (4 : Int32).toInt ∧ (4 : Int32).toInt ≤ 6), by rw [h]; decide⟩⟩) (fun _ => ?_)
  refine ok_if (fun h => ok_some ⟨rfl, Or.inr ⟨(by decide : 0 ≤ (5 : Int32).toInt ∧ (5 : Int32).toInt ≤ 6), by rw [h]; decide⟩⟩) (fun _ => ?_)
  refine ok_if (fun h => ok_some ⟨rfl, Or.inr ⟨(by decide : 0 ≤ (6 : Int32).toInt ∧ (6 : Int32).toInt ≤ 6), by rw [h]; decide⟩⟩) (fun _ => ok_some ⟨rfl, Or.inl rfl⟩)
theorem x_X12_prefixOf {N : Nat} {σ : zS} (hN : 1048576 ≤ N) (hR : RF σ.2.2) (hK : TOK σ.1) : Ok (f_X12_prefixOf N 218 σ) (fun r => r.2 = σ ∧ (r.1 = -1 ∨ ((0 ≤ r.1.toInt ∧ r.1.toInt ≤ 5) ∧ σ.1 218 14 = 0 ∧ σ.1 218 12 = 1))) := by
  rw [f_X12_prefixOf.eq_1]
  refine ok_gC rfl (ok_zbX (Q := fun v => (v = 0 ∨ v = 1) ∧ (¬ v = 0 → σ.1 218 14 = 0 ∧ σ.1 218 12 = 1)) (x0_X12_is hN hR (by decide) hK) (fun v hv => ok_if (fun h => ?_) (fun h => ok_some ⟨rfl, Or.inr ⟨(by decide : 0 ≤ (0 : Int32).toInt ∧ (0 : Int32).toInt ≤ 5), hv.2 h⟩⟩)))
  refine ok_gC rfl (ok_zbX (Q := fun v => (v = 0 ∨ v = 1) ∧ (¬ v = 0 → σ.1 218 14 = 0 ∧ σ.1 218 12 = 1)) (x0_X12_is hN hR (by decide) hK) (fun v hv => ok_if (fun h => ?_) (fun h => ok_some ⟨rfl, Or.inr ⟨(by decide : 0 ≤ (1 : Int32).toInt ∧ (1 : Int32).toInt ≤ 5), hv.2 h⟩⟩)))
  refine ok_gC rfl (ok_zbX (Q := fun v => (v = 0 ∨ v = 1) ∧ (¬ v = 0 → σ.1 218 14 = 0 ∧ σ.1 218 12 = 1)) (x0_X12_is hN hR (by decide) hK) (fun v hv => ok_if (fun h => ?_) (fun h => ok_some ⟨rfl, Or.inr ⟨(by decide : 0 ≤ (2 : Int32).toInt ∧ (2 : Int32).toInt ≤ 5), hv.2 h⟩⟩)))
  refine ok_gC rfl (ok_zbX (Q := fun v => (v = 0 ∨ v = 1) ∧ (¬ v = 0 → σ.1 218 14 = 0 ∧ σ.1 218 12 = 1)) (x0_X12_is hN hR (by decide) hK) (fun v hv => ok_if (fun h => ?_) (fun h => ok_some ⟨rfl, Or.inr ⟨(by decide : 0 ≤ (3 : Int32).toInt ∧ (3 : Int32).toInt ≤ 5), hv.2 h⟩⟩)))
  refine ok_gC rfl (ok_zbX (Q := fun v => (v = 0 ∨ v = 1) ∧ (¬ v = 0 → σ.1 218 14 = 0 ∧ σ.1 218 12 = 1)) (x0_X12_is hN hR (by decide) hK) (fun v hv => ok_if (fun h => ?_) (fun h => ok_some ⟨rfl, Or.inr ⟨(by decide : 0 ≤ (4 : Int32).toInt ∧ (4 : Int32).toInt ≤ 5), hv.2 h⟩⟩)))
  refine ok_gC rfl (ok_zbX (Q := fun v => (v = 0 ∨ v = 1) ∧ (¬ v = 0 → σ.1 218 14 = 0 ∧ σ.1 218 12 = 1)) (x0_X12_is hN hR (by decide) hK) (fun v hv => ok_if (fun h => ok_some ⟨rfl, Or.inl rfl⟩) (fun h => ok_some ⟨rfl, Or.inr ⟨(by decide : 0 ≤ (5 : Int32).toInt ∧ (5 : Int32).toInt ≤ 5), hv.2 h⟩⟩)))
/-- n that wait: b signs, d that open; r the rank of the last sign since the last that opens -/
def Stk (g : Nat → Int32) : Nat → Nat → Nat → Nat → Prop
  | 0, b, d, r => b = 0 ∧ d = 0 ∧ r = 0
  | n + 1, b, d, r => ((50 ≤ (g n).toInt ∧ (g n).toInt ≤ 100) ∧ r = 0 ∧ ∃ d' r', d = d' + 1 ∧ Stk g n b d' r') ∨ ((0 ≤ (g n).toInt ∧ (g n).toInt ≤ 6) ∧ (r : Int) = (rkI (g n)).toInt ∧ ∃ b' r', b = b' + 1 ∧ r' < r ∧ Stk g n b' d r')
theorem rk6 : ∀ k, k < 7 → 1 ≤ (rkI (nI k)).toInt ∧ (rkI (nI k)).toInt ≤ 2 := by decide
theorem rk_s {w : Int32} (h : 0 ≤ w.toInt ∧ w.toInt ≤ 6) : 1 ≤ (rkI w).toInt ∧ (rkI w).toInt ≤ 2 := by
  obtain ⟨k, hk, rfl⟩ := znI (m := 7) h.1 (by omega)
  exact rk6 k hk
theorem Stk_b {g : Nat → Int32} : ∀ {n b d r : Nat}, Stk g n b d r → (b ≤ 2 * d + r ∧ r ≤ 2) ∧ n = b + d
  | 0, b, d, r, h => by obtain ⟨rfl, rfl, rfl⟩ := h; omega
  | n + 1, b, d, r, h => by
    rcases h with ⟨_, rfl, d', r', rfl, h⟩ | ⟨hw, hr, b', r', rfl, hlt, h⟩
    · have := Stk_b h; omega
    · have := Stk_b h
      have := rk_s hw
      omega
theorem Stk_c {g g' : Nat → Int32} : ∀ {n b d r : Nat}, (∀ k, k < n → g' k = g k) → Stk g n b d r → Stk g' n b d r
  | 0, b, d, r, _, h => h
  | n + 1, b, d, r, e, h => by
    have en := e n (by omega)
    rcases h with ⟨hw, rfl, d', r', rfl, h⟩ | ⟨hw, hr, b', r', rfl, hlt, h⟩
    · exact Or.inl ⟨by rw [en]; exact hw, rfl, d', r', rfl, Stk_c (fun k hk => e k (by omega)) h⟩
    · exact Or.inr ⟨by rw [en]; exact hw, by rw [en]; exact hr, b', r', rfl, hlt, Stk_c (fun k hk => e k (by omega)) h⟩
theorem Stk_open {g g' : Nat → Int32} {n b d r : Nat} (h : Stk g n b d r) (e : ∀ k, k < n → g' k = g k) (hx : 50 ≤ (g' n).toInt ∧ (g' n).toInt ≤ 100) : Stk g' (n + 1) b (d + 1) 0 := Or.inl ⟨hx, rfl, d, r, rfl, Stk_c e h⟩
theorem Stk_sign {g g' : Nat → Int32} {n b d r p : Nat} (h : Stk g n b d r) (e : ∀ k, k < n → g' k = g k) (hx : 0 ≤ (g' n).toInt ∧ (g' n).toInt ≤ 6) (hp : (p : Int) = (rkI (g' n)).toInt) (hr : r < p) : Stk g' (n + 1) (b + 1) d p := Or.inr ⟨hx, hp, b, r, rfl, hr, Stk_c e h⟩
theorem Stk_pb {g : Nat → Int32} {n b d r : Nat} (h : Stk g (n + 1) b d r) (hx : (g n).toInt < 50) : ∃ b' r', b = b' + 1 ∧ Stk g n b' d r' := by
  rcases h with ⟨hw, _⟩ | ⟨hw, hr, b', r', e, hlt, h⟩
  · omega
  · exact ⟨b', r', e, h⟩
theorem Stk_po {g : Nat → Int32} {n b d r : Nat} (h : Stk g (n + 1) b d r) (hx : 50 ≤ (g n).toInt) : ∃ d' r', d = d' + 1 ∧ Stk g n b d' r' := by
  rcases h with ⟨hw, _, d', r', e, h⟩ | ⟨hw, _⟩
  · exact ⟨d', r', e, h⟩
  · omega
theorem Stk_top {g : Nat → Int32} {n b d r : Nat} {p : Int} (h : Stk g n b d r) (h1 : 1 ≤ p) (hx : n = 0 ∨ ∃ m, n = m + 1 ∧ (rkI (g m)).toInt < p) : (r : Int) < p := by
  rcases hx with rfl | ⟨m, rfl, hx⟩
  · obtain ⟨_, _, rfl⟩ := h; omega
  · rcases h with ⟨_, rfl, _⟩ | ⟨_, hr, _⟩ <;> omega
def PIL (s : Nat → Nat → Int32) (w : Nat) : Prop := ∃ b d r : Nat, Stk (s 230) (s 218 22).toInt.toNat b d r ∧ 0 ≤ (s 218 22).toInt ∧ (s 218 24).toInt = (d : Int) ∧ d ≤ 6 ∧ (s 218 23).toInt = ((b + w : Nat) : Int)
theorem PIL_b {s : Nat → Nat → Int32} {w : Nat} (h : PIL s w) (hw : w ≤ 1) : (0 ≤ (s 218 22).toInt ∧ (s 218 22).toInt ≤ 20) ∧ (((w : Int) ≤ (s 218 23).toInt ∧ (s 218 23).toInt ≤ 15) ∧ 0 ≤ (s 218 24).toInt ∧ (s 218 24).toInt ≤ 6) := by
  obtain ⟨b, d, r, hS, h0, hd, h6, hp⟩ := h
  have := Stk_b hS
  omega
theorem PIL_i {s : Nat → Nat → Int32} {b d r w : Nat} {g : Nat → Int32} {a p q : Int32} (e22 : s 218 22 = a) (e23 : s 218 23 = p) (e24 : s 218 24 = q) (eg : s 230 = g) (h : Stk g a.toInt.toNat b d r) (h0 : 0 ≤ a.toInt) (hd : q.toInt = (d : Int)) (h6 : d ≤ 6) (hp : p.toInt = ((b + w : Nat) : Int)) : PIL s w := by
  refine ⟨b, d, r, ?_⟩
  rw [e22, e23, e24, eg]
  exact ⟨h, h0, hd, h6, hp⟩
theorem PIL_c {s s' : Nat → Nat → Int32} {w : Nat} (h : PIL s w) (e22 : s' 218 22 = s 218 22) (e23 : s' 218 23 = s 218 23) (e24 : s' 218 24 = s 218 24) (eg : s' 230 = s 230) : PIL s' w := by
  obtain ⟨b, d, r, h⟩ := h
  refine ⟨b, d, r, ?_⟩
  rw [e22, e23, e24, eg]; exact h
abbrev WT (s : Nat → Nat → Int32) : Prop := 0 ≤ (s 218 22).toInt ∧ (s 218 22).toInt ≤ 40
theorem p1024d : ∀ k, k < 18 → (1024 * nI k).toInt = 1024 * (k : Int) := by decide
theorem p1024 {p : Int32} {k : Int} (h : p.toInt = k) (h0 : 0 ≤ k) (h1 : k ≤ 17) : (1024 * p).toInt = 1024 * k := by
  subst h
  obtain ⟨n, hn, rfl⟩ := znI (m := 18) h0 (by omega)
  rw [p1024d n hn, nI_toInt (by omega)]
theorem so9 {g : Nat → Int32} {a a' x : Int32} {k : Nat} (h : (k : Int) < a.toInt) (h2 : g k = 100) (hx : x.toInt ≤ (rkI (g (a - 1).toNatClampNeg)).toInt) (h1 : 1 ≤ x.toInt) (hs : (a - 1).toInt = a.toInt - 1) (w : a'.toInt = a.toInt - 1) : (k : Int) < a'.toInt := by
  by_cases q : (k : Int) = a.toInt - 1
  · have e : (a - 1).toNatClampNeg = k := by
      show (a - 1).toInt.toNat = k
      rw [hs]; omega
    rw [e, h2] at hx
    have : (rkI 100).toInt = 0 := by decide
    omega
  · omega
theorem x_X12_isOpen {N : Nat} {σ : zS} (hN : 1048576 ≤ N) (hR : RF σ.2.2) (hW : WT σ.1) : Ok (f_X12_isOpen N 218 σ) (fun r => r.2 = σ ∧ ((r.1 = 0 → True) ∧ (¬ r.1 = 0 → ∃ k : Nat, (k : Int) < (σ.1 218 22).toInt ∧ σ.1 230 k = 100))) := by
  rw [f_X12_isOpen.eq_1]
  refine ok_lp (fun t : Int32 × zS => t.2 = σ ∧ 0 ≤ t.1.toInt) (fun t => (40 - t.1.toInt).toNat) (fun again t hI ih => ?_) N _ ⟨rfl, (by decide : 0 ≤ (0 : Int32).toInt)⟩ (by simp only [Int32.reduceToInt]; omega)
  obtain ⟨x1, σ'⟩ := t
  obtain ⟨e, h0⟩ := hI
  have e : σ' = σ := e
  have h0 : 0 ≤ x1.toInt := h0
  subst e
  rw [F_X12_isOpen_2.eq_1]
  refine ok_gI rfl ?_
  refine ok_if (fun h => ok_rZ (Or.inl rfl) ⟨rfl, fun _ => trivial, fun q => absurd rfl q⟩) (fun h => ?_)
  rw [Int32.le_iff_toInt_le] at h
  have hs : (x1 + 1).toInt = x1.toInt + 1 := by rw [ti_add]; simp only [Int32.reduceToInt]; omega
  refine ok_gR (Sx := []) (v := 230) Tr.rf rfl (hR 218 21 rfl) ?_
  refine ok_aIn (n := 40) rfl h0 (by omega) (fun v e => ?_)
  refine ok_if (fun h1 => ok_rZ (Or.inr rfl) ⟨rfl, fun q => absurd (show (1 : Int32) = 0 from q) (by decide), fun _ => ⟨x1.toInt.toNat, by omega, by rw [← h1, e]; rfl⟩⟩) (fun h1 => ?_)
  exact ih (x1 + 1, σ') ⟨rfl, (by rw [hs]; omega : 0 ≤ (x1 + 1).toInt)⟩ (by show (40 - (x1 + 1).toInt).toNat < (40 - x1.toInt).toNat; rw [hs]; omega)

set_option maxHeartbeats 4000000 in
set_option maxRecDepth 100000 in
theorem s_X12_copiesMade {N : Nat} (hN : 1048576 ≤ N) {x1 : Int32} {σ0 : zS}  (hR : RF σ0.2.2) (hB : ZB σ0.1) (hx : 0 ≤ x1.toInt ∧ x1.toInt ≤ 17) : Ok (f_X12_copiesMade N 218 x1 σ0) (fun r => Tr [226] σ0 r.2 ∧ (ZB r.2.1)) := by
  have hT : Tr [226] σ0 σ0 := Tr.rf
  have m1 := p1024 (p := x1) rfl hx.1 hx.2
  rw [f_X12_copiesMade.eq_1]
  refine ok_lp (fun t : Int32 × zS => Tr [226] σ0 (t.2) ∧ (0 ≤ (t.1).toInt) ∧ (ZB (t.2).1)) (fun t : Int32 × zS => (1024 - (t.1).toInt).toNat) (fun again1 t hI ih2_1 => ?_) N _ (show Tr [226] σ0 σ0 ∧ (0 ≤ (0 : Int32).toInt) ∧ (ZB σ0.1) from ⟨hT, (by first | omega | decide | (simp only [Int32.le_iff_toInt_le, Int32.lt_iff_toInt_lt, ti_add, ti_sub, ti_mul, Int32.reduceToInt] at *; omega)), hB⟩) (show (1024 - (0 : Int32).toInt).toNat < N from (by first | omega | decide | (simp only [Int32.le_iff_toInt_le, Int32.lt_iff_toInt_lt, ti_add, ti_sub, ti_mul, Int32.reduceToInt] at *; omega)))
  obtain ⟨x2_1, σ1⟩ := t
  have hI : Tr [226] σ0 σ1 ∧ (0 ≤ x2_1.toInt) ∧ (ZB σ1.1) := hI
  obtain ⟨hT, hI1, hB⟩ := hI
  rw [F_X12_copiesMade_2.eq_1]
  refine ok_if (fun hc2 => ?_) (fun hc2 => ?_)
  · exact ok_some ⟨hT, (show ZB σ1.1 from by exact hB)⟩
  · refine ok_gR (v := 226) hT rfl (hR 218 16 rfl) ?_
    refine ok_gR (v := 227) hT rfl (hR 218 17 rfl) ?_
    refine ok_aIn rfl (by first | omega | decide | (simp only [Int32.le_iff_toInt_le, Int32.lt_iff_toInt_lt, ti_add, ti_sub, ti_mul, Int32.reduceToInt] at *; omega)) (by first | omega | decide | (simp only [Int32.le_iff_toInt_le, Int32.lt_iff_toInt_lt, ti_add, ti_sub, ti_mul, Int32.reduceToInt] at *; omega)) (fun v5 ev5 => ?_)
    have zv5 : v5 = 0 ∨ v5 = 1 := by rw [ev5]; exact hB 227 rfl _
    refine ok_s16 hT rfl (by decide) (by rw [ti_add, m1]; first | omega | (simp only [Int32.le_iff_toInt_le, Int32.lt_iff_toInt_lt, ti_add, ti_sub, ti_mul, Int32.reduceToInt] at *; omega)) (by rw [ti_add, m1]; first | omega | (simp only [Int32.le_iff_toInt_le, Int32.lt_iff_toInt_lt, ti_add, ti_sub, ti_mul, Int32.reduceToInt] at *; omega)) (fun σ6 eσ6 hOσ6 hT => ?_)
    have hB : ZB σ6.1 := ZB_s eσ6 hB
    exact ih2_1 (x2_1 + 1, σ6) (show Tr [226] σ0 σ6 ∧ (0 ≤ (x2_1 + 1).toInt) ∧ (ZB σ6.1) from ⟨hT, (by first | omega | decide | (simp only [Int32.le_iff_toInt_le, Int32.lt_iff_toInt_lt, ti_add, ti_sub, ti_mul, Int32.reduceToInt] at *; omega)), hB⟩) (show (1024 - (x2_1 + 1).toInt).toNat < (1024 - x2_1.toInt).toNat from (by first | omega | decide | (simp only [Int32.le_iff_toInt_le, Int32.lt_iff_toInt_lt, ti_add, ti_sub, ti_mul, Int32.reduceToInt] at *; omega)))

set_option maxHeartbeats 4000000 in
set_option maxRecDepth 100000 in
theorem s_X12_settles {N : Nat} (hN : 1048576 ≤ N)  {σ0 : zS}  (hR : RF σ0.2.2) (hK : TOK σ0.1) (hY : BYT (σ0.1 224)) (hB : ZB σ0.1) (ha : 0 ≤ (σ0.1 218 20).toInt ∧ (σ0.1 218 20).toInt ≤ 1024) (hP : PIL σ0.1 1) (hw : 1 ≤ (σ0.1 218 22).toInt) : Ok (f_X12_settles N 218 σ0) (fun r => Tr [218, 226, 227, 228, 229] σ0 r.2 ∧ ((TOK r.2.1 ∧ ZB r.2.1 ∧ PIL r.2.1 1 ∧ (r.2.1 218 22).toInt = (σ0.1 218 22).toInt - 1) ∧ (r.2.1 218 7 = σ0.1 218 7 ∧ r.2.1 218 9 = σ0.1 218 9 ∧ r.2.1 218 10 = σ0.1 218 10 ∧ r.2.1 218 11 = σ0.1 218 11 ∧ r.2.1 218 12 = σ0.1 218 12 ∧ r.2.1 218 13 = σ0.1 218 13 ∧ r.2.1 218 14 = σ0.1 218 14 ∧ r.2.1 218 15 = σ0.1 218 15 ∧ r.2.1 218 20 = σ0.1 218 20 ∧ r.2.1 218 25 = σ0.1 218 25))) := by
  have hT : Tr [218, 226, 227, 228, 229] σ0 σ0 := Tr.rf
  have hK1 := hK.1
  obtain ⟨b8, d8, r8, hS, h22, hd, hd6, hp⟩ := hP
  have hSb := Stk_b hS
  obtain ⟨n8, hn8⟩ : ∃ n : Nat, (σ0.1 218 22).toInt.toNat = n + 1 := ⟨(σ0.1 218 22).toInt.toNat - 1, by omega⟩
  rw [hn8] at hS
  have s22 : ((σ0.1 218 22) - 1).toInt = (n8 : Int) := by rw [ti_sub]; simp only [Int32.reduceToInt]; omega
  have i22 : ((σ0.1 218 22) - 1).toNatClampNeg = n8 := by show ((σ0.1 218 22) - 1).toInt.toNat = n8; rw [s22]; omega
  have j22 : ((σ0.1 218 22) - 1).toInt.toNat = n8 := i22
  have p1 : ((σ0.1 218 23) - 1).toInt = (b8 : Int) := by rw [ti_sub]; simp only [Int32.reduceToInt]; omega
  have m1 := p1024 p1 (by omega) (by omega)
  rw [f_X12_settles.eq_1]
  refine ok_gI rfl ?_
  refine ok_pI hT rfl (by decide) (fun σ2 eσ2 hOσ2 hT => ?_)
  have hK : TOK σ2.1 := by first | exact HQ.1 | exact TOK_p eσ2 (by decide) hK
  have hB : ZB σ2.1 := ZB.tr hOσ2 (by decide) hB
  have g7_σ2 : σ2.1 218 7 = (σ0.1 218 7) := zI_atN eσ2 (by decide)
  have g9_σ2 : σ2.1 218 9 = (σ0.1 218 9) := zI_atN eσ2 (by decide)
  have g10_σ2 : σ2.1 218 10 = (σ0.1 218 10) := zI_atN eσ2 (by decide)
  have g11_σ2 : σ2.1 218 11 = (σ0.1 218 11) := zI_atN eσ2 (by decide)
  have g12_σ2 : σ2.1 218 12 = (σ0.1 218 12) := zI_atN eσ2 (by decide)
  have g13_σ2 : σ2.1 218 13 = (σ0.1 218 13) := zI_atN eσ2 (by decide)
  have g14_σ2 : σ2.1 218 14 = (σ0.1 218 14) := zI_atN eσ2 (by decide)
  have g15_σ2 : σ2.1 218 15 = (σ0.1 218 15) := zI_atN eσ2 (by decide)
  have g20_σ2 : σ2.1 218 20 = (σ0.1 218 20) := zI_atN eσ2 (by decide)
  have g22_σ2 : σ2.1 218 22 = ((σ0.1 218 22) - 1) := zI_atI eσ2
  have g23_σ2 : σ2.1 218 23 = (σ0.1 218 23) := zI_atN eσ2 (by decide)
  have g24_σ2 : σ2.1 218 24 = (σ0.1 218 24) := zI_atN eσ2 (by decide)
  have g25_σ2 : σ2.1 218 25 = (σ0.1 218 25) := zI_atN eσ2 (by decide)
  refine ok_gR (v := 230) hT rfl (hR 218 21 rfl) ?_
  refine ok_gIv rfl g22_σ2 ?_
  refine ok_aIn rfl (by rw [s22]; omega) (by rw [s22]; omega) (fun v5 ev5 => ?_)
  have ev18 := ev5
  rw [hT.2 230 (by decide), i22] at ev18
  refine ok_if (fun hc6 => ?_) (fun hc6 => ?_)
  · have q9 := hc6
    rw [ev18, Int32.lt_iff_toInt_lt] at q9
    simp only [Int32.reduceToInt] at q9
    obtain ⟨b9, r9, e9, hS9⟩ := Stk_pb hS q9
    have p2 : ((σ0.1 218 23) - 2).toInt = (b9 : Int) := by rw [ti_sub]; simp only [Int32.reduceToInt]; omega
    have m2 := p1024 p2 (by omega) (by omega)
    have p3 : ((σ0.1 218 23) - 1 - 1).toInt = (b9 : Int) := by rw [ti_sub, p1]; simp only [Int32.reduceToInt]; omega
    refine ok_gR (v := 226) hT rfl (hR 218 16 rfl) ?_
    refine ok_gIv rfl g23_σ2 ?_
    refine ok_gR (v := 226) hT rfl (hR 218 16 rfl) ?_
    refine ok_gIv rfl g23_σ2 ?_
    refine ok_gC rfl ?_
    refine ok_zbT (Q := fun V σ => ZB σ.1) hT (s_X12_gives_226_226 hN (hR.tr hT) (hB) (by (try simp only [g7_σ2, g9_σ2, g10_σ2, g11_σ2, g12_σ2, g13_σ2, g14_σ2, g15_σ2, g20_σ2, g22_σ2, g23_σ2, g24_σ2, g25_σ2]); exact ha) (by first | (rw [m2]; omega) | (rw [m1]; omega)) (by rw [m1]; omega)) (by decide) (fun v11 σ12 hOσ12 hT hqv11 => ?_)
    have hqv11 : ZB σ12.1 := hqv11
    have hK : TOK σ12.1 := TOK_tr hOσ12 (by decide) (by decide) hK
    have hB : ZB σ12.1 := by first | exact hqv11 | exact ZB_s eσ12 hB
    try simp only [g7_σ2, g9_σ2, g10_σ2, g11_σ2, g12_σ2, g13_σ2, g14_σ2, g15_σ2, g20_σ2, g22_σ2, g23_σ2, g24_σ2, g25_σ2] at hqv11
    have g7_σ12 : σ12.1 218 7 = (σ0.1 218 7) := (congrFun (hOσ12.2 218 (by decide)) 7).trans g7_σ2
    have g9_σ12 : σ12.1 218 9 = (σ0.1 218 9) := (congrFun (hOσ12.2 218 (by decide)) 9).trans g9_σ2
    have g10_σ12 : σ12.1 218 10 = (σ0.1 218 10) := (congrFun (hOσ12.2 218 (by decide)) 10).trans g10_σ2
    have g11_σ12 : σ12.1 218 11 = (σ0.1 218 11) := (congrFun (hOσ12.2 218 (by decide)) 11).trans g11_σ2
    have g12_σ12 : σ12.1 218 12 = (σ0.1 218 12) := (congrFun (hOσ12.2 218 (by decide)) 12).trans g12_σ2
    have g13_σ12 : σ12.1 218 13 = (σ0.1 218 13) := (congrFun (hOσ12.2 218 (by decide)) 13).trans g13_σ2
    have g14_σ12 : σ12.1 218 14 = (σ0.1 218 14) := (congrFun (hOσ12.2 218 (by decide)) 14).trans g14_σ2
    have g15_σ12 : σ12.1 218 15 = (σ0.1 218 15) := (congrFun (hOσ12.2 218 (by decide)) 15).trans g15_σ2
    have g20_σ12 : σ12.1 218 20 = (σ0.1 218 20) := (congrFun (hOσ12.2 218 (by decide)) 20).trans g20_σ2
    have g22_σ12 : σ12.1 218 22 = ((σ0.1 218 22) - 1) := (congrFun (hOσ12.2 218 (by decide)) 22).trans g22_σ2
    have g23_σ12 : σ12.1 218 23 = (σ0.1 218 23) := (congrFun (hOσ12.2 218 (by decide)) 23).trans g23_σ2
    have g24_σ12 : σ12.1 218 24 = (σ0.1 218 24) := (congrFun (hOσ12.2 218 (by decide)) 24).trans g24_σ2
    have g25_σ12 : σ12.1 218 25 = (σ0.1 218 25) := (congrFun (hOσ12.2 218 (by decide)) 25).trans g25_σ2
    refine ok_gIv rfl g23_σ12 ?_
    refine ok_pI hT rfl (by decide) (fun σ14 eσ14 hOσ14 hT => ?_)
    have hK : TOK σ14.1 := by first | exact HQ.1 | exact TOK_p eσ14 (by decide) hK
    have hB : ZB σ14.1 := ZB.tr hOσ14 (by decide) hB
    have g7_σ14 : σ14.1 218 7 = (σ0.1 218 7) := (zI_atN eσ14 (by decide)).trans g7_σ12
    have g9_σ14 : σ14.1 218 9 = (σ0.1 218 9) := (zI_atN eσ14 (by decide)).trans g9_σ12
    have g10_σ14 : σ14.1 218 10 = (σ0.1 218 10) := (zI_atN eσ14 (by decide)).trans g10_σ12
    have g11_σ14 : σ14.1 218 11 = (σ0.1 218 11) := (zI_atN eσ14 (by decide)).trans g11_σ12
    have g12_σ14 : σ14.1 218 12 = (σ0.1 218 12) := (zI_atN eσ14 (by decide)).trans g12_σ12
    have g13_σ14 : σ14.1 218 13 = (σ0.1 218 13) := (zI_atN eσ14 (by decide)).trans g13_σ12
    have g14_σ14 : σ14.1 218 14 = (σ0.1 218 14) := (zI_atN eσ14 (by decide)).trans g14_σ12
    have g15_σ14 : σ14.1 218 15 = (σ0.1 218 15) := (zI_atN eσ14 (by decide)).trans g15_σ12
    have g20_σ14 : σ14.1 218 20 = (σ0.1 218 20) := (zI_atN eσ14 (by decide)).trans g20_σ12
    have g22_σ14 : σ14.1 218 22 = ((σ0.1 218 22) - 1) := (zI_atN eσ14 (by decide)).trans g22_σ12
    have g23_σ14 : σ14.1 218 23 = ((σ0.1 218 23) - 1) := zI_atI eσ14
    have g24_σ14 : σ14.1 218 24 = (σ0.1 218 24) := (zI_atN eσ14 (by decide)).trans g24_σ12
    have g25_σ14 : σ14.1 218 25 = (σ0.1 218 25) := (zI_atN eσ14 (by decide)).trans g25_σ12
    refine ok_gIv rfl g23_σ14 ?_
    refine ok_gC rfl ?_
    refine ok_zbT (Q := fun V σ => ZB σ.1) hT (s_X12_copiesMade hN (hR.tr hT) (hB) (by first | (rw [p3]; omega) | (rw [p1]; omega))) (by decide) (fun v16 σ17 hOσ17 hT hqv16 => ?_)
    have hqv16 : ZB σ17.1 := hqv16
    have hK : TOK σ17.1 := TOK_tr hOσ17 (by decide) (by decide) hK
    have hB : ZB σ17.1 := by first | exact hqv16 | exact ZB_s eσ17 hB
    try simp only [g7_σ14, g9_σ14, g10_σ14, g11_σ14, g12_σ14, g13_σ14, g14_σ14, g15_σ14, g20_σ14, g22_σ14, g23_σ14, g24_σ14, g25_σ14] at hqv16
    have g7_σ17 : σ17.1 218 7 = (σ0.1 218 7) := (congrFun (hOσ17.2 218 (by decide)) 7).trans g7_σ14
    have g9_σ17 : σ17.1 218 9 = (σ0.1 218 9) := (congrFun (hOσ17.2 218 (by decide)) 9).trans g9_σ14
    have g10_σ17 : σ17.1 218 10 = (σ0.1 218 10) := (congrFun (hOσ17.2 218 (by decide)) 10).trans g10_σ14
    have g11_σ17 : σ17.1 218 11 = (σ0.1 218 11) := (congrFun (hOσ17.2 218 (by decide)) 11).trans g11_σ14
    have g12_σ17 : σ17.1 218 12 = (σ0.1 218 12) := (congrFun (hOσ17.2 218 (by decide)) 12).trans g12_σ14
    have g13_σ17 : σ17.1 218 13 = (σ0.1 218 13) := (congrFun (hOσ17.2 218 (by decide)) 13).trans g13_σ14
    have g14_σ17 : σ17.1 218 14 = (σ0.1 218 14) := (congrFun (hOσ17.2 218 (by decide)) 14).trans g14_σ14
    have g15_σ17 : σ17.1 218 15 = (σ0.1 218 15) := (congrFun (hOσ17.2 218 (by decide)) 15).trans g15_σ14
    have g20_σ17 : σ17.1 218 20 = (σ0.1 218 20) := (congrFun (hOσ17.2 218 (by decide)) 20).trans g20_σ14
    have g22_σ17 : σ17.1 218 22 = ((σ0.1 218 22) - 1) := (congrFun (hOσ17.2 218 (by decide)) 22).trans g22_σ14
    have g23_σ17 : σ17.1 218 23 = ((σ0.1 218 23) - 1) := (congrFun (hOσ17.2 218 (by decide)) 23).trans g23_σ14
    have g24_σ17 : σ17.1 218 24 = (σ0.1 218 24) := (congrFun (hOσ17.2 218 (by decide)) 24).trans g24_σ14
    have g25_σ17 : σ17.1 218 25 = (σ0.1 218 25) := (congrFun (hOσ17.2 218 (by decide)) 25).trans g25_σ14
    exact ok_some ⟨hT, (show (TOK σ17.1 ∧ ZB σ17.1 ∧ PIL σ17.1 1 ∧ (σ17.1 218 22).toInt = (σ0.1 218 22).toInt - 1) ∧ (σ17.1 218 7 = σ0.1 218 7 ∧ σ17.1 218 9 = σ0.1 218 9 ∧ σ17.1 218 10 = σ0.1 218 10 ∧ σ17.1 218 11 = σ0.1 218 11 ∧ σ17.1 218 12 = σ0.1 218 12 ∧ σ17.1 218 13 = σ0.1 218 13 ∧ σ17.1 218 14 = σ0.1 218 14 ∧ σ17.1 218 15 = σ0.1 218 15 ∧ σ17.1 218 20 = σ0.1 218 20 ∧ σ17.1 218 25 = σ0.1 218 25) from ⟨by first | exact ⟨hK, hB, PIL_i g22_σ17 g23_σ17 g24_σ17 (hT.2 230 (by decide)) (by rw [j22]; exact hS9) (by omega) hd hd6 (by rw [p1]; omega), by (try simp only [g7_σ17, g9_σ17, g10_σ17, g11_σ17, g12_σ17, g13_σ17, g14_σ17, g15_σ17, g20_σ17, g22_σ17, g23_σ17, g24_σ17, g25_σ17]); omega⟩ | exact ⟨hK, hB, PIL_i g22_σ17 g23_σ17 g24_σ17 (hT.2 230 (by decide)) (by rw [j22]; exact hS9) (by omega) d24 (by omega) hp, by (try simp only [g7_σ17, g9_σ17, g10_σ17, g11_σ17, g12_σ17, g13_σ17, g14_σ17, g15_σ17, g20_σ17, g22_σ17, g23_σ17, g24_σ17, g25_σ17]); omega⟩, g7_σ17, g9_σ17, g10_σ17, g11_σ17, g12_σ17, g13_σ17, g14_σ17, g15_σ17, g20_σ17, g25_σ17⟩)⟩
  · have q9 := hc6
    rw [ev18, Int32.lt_iff_toInt_lt] at q9
    simp only [Int32.reduceToInt] at q9
    obtain ⟨d9, r9, e9, hS9⟩ := Stk_po hS (by omega)
    have d24 : ((σ0.1 218 24) - 1).toInt = (d9 : Int) := by rw [ti_sub]; simp only [Int32.reduceToInt]; omega
    refine ok_gR (v := 226) hT rfl (hR 218 16 rfl) ?_
    refine ok_gIv rfl g23_σ2 ?_
    refine ok_gC rfl ?_
    refine ok_zbT (Q := fun V σ => ZB σ.1) hT (s_X12_turns_226 hN (hR.tr hT) (hB) (by (try simp only [g7_σ2, g9_σ2, g10_σ2, g11_σ2, g12_σ2, g13_σ2, g14_σ2, g15_σ2, g20_σ2, g22_σ2, g23_σ2, g24_σ2, g25_σ2]); exact ha) (by first | (rw [m2]; omega) | (rw [m1]; omega))) (by decide) (fun v20 σ21 hOσ21 hT hqv20 => ?_)
    have hqv20 : ZB σ21.1 := hqv20
    have hK : TOK σ21.1 := TOK_tr hOσ21 (by decide) (by decide) hK
    have hB : ZB σ21.1 := by first | exact hqv20 | exact ZB_s eσ21 hB
    try simp only [g7_σ2, g9_σ2, g10_σ2, g11_σ2, g12_σ2, g13_σ2, g14_σ2, g15_σ2, g20_σ2, g22_σ2, g23_σ2, g24_σ2, g25_σ2] at hqv20
    have g7_σ21 : σ21.1 218 7 = (σ0.1 218 7) := (congrFun (hOσ21.2 218 (by decide)) 7).trans g7_σ2
    have g9_σ21 : σ21.1 218 9 = (σ0.1 218 9) := (congrFun (hOσ21.2 218 (by decide)) 9).trans g9_σ2
    have g10_σ21 : σ21.1 218 10 = (σ0.1 218 10) := (congrFun (hOσ21.2 218 (by decide)) 10).trans g10_σ2
    have g11_σ21 : σ21.1 218 11 = (σ0.1 218 11) := (congrFun (hOσ21.2 218 (by decide)) 11).trans g11_σ2
    have g12_σ21 : σ21.1 218 12 = (σ0.1 218 12) := (congrFun (hOσ21.2 218 (by decide)) 12).trans g12_σ2
    have g13_σ21 : σ21.1 218 13 = (σ0.1 218 13) := (congrFun (hOσ21.2 218 (by decide)) 13).trans g13_σ2
    have g14_σ21 : σ21.1 218 14 = (σ0.1 218 14) := (congrFun (hOσ21.2 218 (by decide)) 14).trans g14_σ2
    have g15_σ21 : σ21.1 218 15 = (σ0.1 218 15) := (congrFun (hOσ21.2 218 (by decide)) 15).trans g15_σ2
    have g20_σ21 : σ21.1 218 20 = (σ0.1 218 20) := (congrFun (hOσ21.2 218 (by decide)) 20).trans g20_σ2
    have g22_σ21 : σ21.1 218 22 = ((σ0.1 218 22) - 1) := (congrFun (hOσ21.2 218 (by decide)) 22).trans g22_σ2
    have g23_σ21 : σ21.1 218 23 = (σ0.1 218 23) := (congrFun (hOσ21.2 218 (by decide)) 23).trans g23_σ2
    have g24_σ21 : σ21.1 218 24 = (σ0.1 218 24) := (congrFun (hOσ21.2 218 (by decide)) 24).trans g24_σ2
    have g25_σ21 : σ21.1 218 25 = (σ0.1 218 25) := (congrFun (hOσ21.2 218 (by decide)) 25).trans g25_σ2
    refine ok_gIv rfl g23_σ21 ?_
    refine ok_gC rfl ?_
    refine ok_zbT (Q := fun V σ => ZB σ.1) hT (s_X12_copiesMade hN (hR.tr hT) (hB) (by first | (rw [p3]; omega) | (rw [p1]; omega))) (by decide) (fun v23 σ24 hOσ24 hT hqv23 => ?_)
    have hqv23 : ZB σ24.1 := hqv23
    have hK : TOK σ24.1 := TOK_tr hOσ24 (by decide) (by decide) hK
    have hB : ZB σ24.1 := by first | exact hqv23 | exact ZB_s eσ24 hB
    try simp only [g7_σ21, g9_σ21, g10_σ21, g11_σ21, g12_σ21, g13_σ21, g14_σ21, g15_σ21, g20_σ21, g22_σ21, g23_σ21, g24_σ21, g25_σ21] at hqv23
    have g7_σ24 : σ24.1 218 7 = (σ0.1 218 7) := (congrFun (hOσ24.2 218 (by decide)) 7).trans g7_σ21
    have g9_σ24 : σ24.1 218 9 = (σ0.1 218 9) := (congrFun (hOσ24.2 218 (by decide)) 9).trans g9_σ21
    have g10_σ24 : σ24.1 218 10 = (σ0.1 218 10) := (congrFun (hOσ24.2 218 (by decide)) 10).trans g10_σ21
    have g11_σ24 : σ24.1 218 11 = (σ0.1 218 11) := (congrFun (hOσ24.2 218 (by decide)) 11).trans g11_σ21
    have g12_σ24 : σ24.1 218 12 = (σ0.1 218 12) := (congrFun (hOσ24.2 218 (by decide)) 12).trans g12_σ21
    have g13_σ24 : σ24.1 218 13 = (σ0.1 218 13) := (congrFun (hOσ24.2 218 (by decide)) 13).trans g13_σ21
    have g14_σ24 : σ24.1 218 14 = (σ0.1 218 14) := (congrFun (hOσ24.2 218 (by decide)) 14).trans g14_σ21
    have g15_σ24 : σ24.1 218 15 = (σ0.1 218 15) := (congrFun (hOσ24.2 218 (by decide)) 15).trans g15_σ21
    have g20_σ24 : σ24.1 218 20 = (σ0.1 218 20) := (congrFun (hOσ24.2 218 (by decide)) 20).trans g20_σ21
    have g22_σ24 : σ24.1 218 22 = ((σ0.1 218 22) - 1) := (congrFun (hOσ24.2 218 (by decide)) 22).trans g22_σ21
    have g23_σ24 : σ24.1 218 23 = (σ0.1 218 23) := (congrFun (hOσ24.2 218 (by decide)) 23).trans g23_σ21
    have g24_σ24 : σ24.1 218 24 = (σ0.1 218 24) := (congrFun (hOσ24.2 218 (by decide)) 24).trans g24_σ21
    have g25_σ24 : σ24.1 218 25 = (σ0.1 218 25) := (congrFun (hOσ24.2 218 (by decide)) 25).trans g25_σ21
    refine ok_gIv rfl g24_σ24 ?_
    refine ok_pI hT rfl (by decide) (fun σ26 eσ26 hOσ26 hT => ?_)
    have hK : TOK σ26.1 := by first | exact HQ.1 | exact TOK_p eσ26 (by decide) hK
    have hB : ZB σ26.1 := ZB.tr hOσ26 (by decide) hB
    have g7_σ26 : σ26.1 218 7 = (σ0.1 218 7) := (zI_atN eσ26 (by decide)).trans g7_σ24
    have g9_σ26 : σ26.1 218 9 = (σ0.1 218 9) := (zI_atN eσ26 (by decide)).trans g9_σ24
    have g10_σ26 : σ26.1 218 10 = (σ0.1 218 10) := (zI_atN eσ26 (by decide)).trans g10_σ24
    have g11_σ26 : σ26.1 218 11 = (σ0.1 218 11) := (zI_atN eσ26 (by decide)).trans g11_σ24
    have g12_σ26 : σ26.1 218 12 = (σ0.1 218 12) := (zI_atN eσ26 (by decide)).trans g12_σ24
    have g13_σ26 : σ26.1 218 13 = (σ0.1 218 13) := (zI_atN eσ26 (by decide)).trans g13_σ24
    have g14_σ26 : σ26.1 218 14 = (σ0.1 218 14) := (zI_atN eσ26 (by decide)).trans g14_σ24
    have g15_σ26 : σ26.1 218 15 = (σ0.1 218 15) := (zI_atN eσ26 (by decide)).trans g15_σ24
    have g20_σ26 : σ26.1 218 20 = (σ0.1 218 20) := (zI_atN eσ26 (by decide)).trans g20_σ24
    have g22_σ26 : σ26.1 218 22 = ((σ0.1 218 22) - 1) := (zI_atN eσ26 (by decide)).trans g22_σ24
    have g23_σ26 : σ26.1 218 23 = (σ0.1 218 23) := (zI_atN eσ26 (by decide)).trans g23_σ24
    have g24_σ26 : σ26.1 218 24 = ((σ0.1 218 24) - 1) := zI_atI eσ26
    have g25_σ26 : σ26.1 218 25 = (σ0.1 218 25) := (zI_atN eσ26 (by decide)).trans g25_σ24
    exact ok_some ⟨hT, (show (TOK σ26.1 ∧ ZB σ26.1 ∧ PIL σ26.1 1 ∧ (σ26.1 218 22).toInt = (σ0.1 218 22).toInt - 1) ∧ (σ26.1 218 7 = σ0.1 218 7 ∧ σ26.1 218 9 = σ0.1 218 9 ∧ σ26.1 218 10 = σ0.1 218 10 ∧ σ26.1 218 11 = σ0.1 218 11 ∧ σ26.1 218 12 = σ0.1 218 12 ∧ σ26.1 218 13 = σ0.1 218 13 ∧ σ26.1 218 14 = σ0.1 218 14 ∧ σ26.1 218 15 = σ0.1 218 15 ∧ σ26.1 218 20 = σ0.1 218 20 ∧ σ26.1 218 25 = σ0.1 218 25) from ⟨by first | exact ⟨hK, hB, PIL_i g22_σ26 g23_σ26 g24_σ26 (hT.2 230 (by decide)) (by rw [j22]; exact hS9) (by omega) hd hd6 (by rw [p1]; omega), by (try simp only [g7_σ26, g9_σ26, g10_σ26, g11_σ26, g12_σ26, g13_σ26, g14_σ26, g15_σ26, g20_σ26, g22_σ26, g23_σ26, g24_σ26, g25_σ26]); omega⟩ | exact ⟨hK, hB, PIL_i g22_σ26 g23_σ26 g24_σ26 (hT.2 230 (by decide)) (by rw [j22]; exact hS9) (by omega) d24 (by omega) hp, by (try simp only [g7_σ26, g9_σ26, g10_σ26, g11_σ26, g12_σ26, g13_σ26, g14_σ26, g15_σ26, g20_σ26, g22_σ26, g23_σ26, g24_σ26, g25_σ26]); omega⟩, g7_σ26, g9_σ26, g10_σ26, g11_σ26, g12_σ26, g13_σ26, g14_σ26, g15_σ26, g20_σ26, g25_σ26⟩)⟩

set_option maxHeartbeats 4000000 in
set_option maxRecDepth 100000 in
theorem s_X12_settlesTo {N : Nat} (hN : 1048576 ≤ N) {x1 : Int32} {σ0 : zS}  (hR : RF σ0.2.2) (hK : TOK σ0.1) (hY : BYT (σ0.1 224)) (hB : ZB σ0.1) (ha : 0 ≤ (σ0.1 218 20).toInt ∧ (σ0.1 218 20).toInt ≤ 1024) (hP : PIL σ0.1 1) (h1 : 1 ≤ x1.toInt) : Ok (f_X12_settlesTo N 218 x1 σ0) (fun r => Tr [218, 226, 227, 228, 229] σ0 r.2 ∧ ((TOK r.2.1 ∧ ZB r.2.1 ∧ PIL r.2.1 1 ∧ (∀ k : Nat, (k : Int) < (σ0.1 218 22).toInt → σ0.1 230 k = 100 → (k : Int) < (r.2.1 218 22).toInt) ∧ ((r.2.1 218 22).toInt ≤ 0 ∨ (rkI (σ0.1 230 ((r.2.1 218 22) - 1).toNatClampNeg)).toInt < x1.toInt)) ∧ (r.2.1 218 7 = σ0.1 218 7 ∧ r.2.1 218 9 = σ0.1 218 9 ∧ r.2.1 218 10 = σ0.1 218 10 ∧ r.2.1 218 11 = σ0.1 218 11 ∧ r.2.1 218 12 = σ0.1 218 12 ∧ r.2.1 218 13 = σ0.1 218 13 ∧ r.2.1 218 14 = σ0.1 218 14 ∧ r.2.1 218 15 = σ0.1 218 15 ∧ r.2.1 218 20 = σ0.1 218 20 ∧ r.2.1 218 25 = σ0.1 218 25))) := by
  have hT : Tr [218, 226, 227, 228, 229] σ0 σ0 := Tr.rf
  have hK1 := hK.1
  have hb0 := PIL_b hP (by decide)
  rw [f_X12_settlesTo.eq_1]
  refine ok_lp (fun t : zS => Tr [218, 226, 227, 228, 229] σ0 (t) ∧ (PIL (t).1 1 ∧ ∀ k : Nat, (k : Int) < (σ0.1 218 22).toInt → σ0.1 230 k = 100 → (k : Int) < ((t).1 218 22).toInt) ∧ (TOK (t).1) ∧ (ZB (t).1) ∧ ((t).1 218 7 = (σ0.1 218 7)) ∧ ((t).1 218 9 = (σ0.1 218 9)) ∧ ((t).1 218 10 = (σ0.1 218 10)) ∧ ((t).1 218 11 = (σ0.1 218 11)) ∧ ((t).1 218 12 = (σ0.1 218 12)) ∧ ((t).1 218 13 = (σ0.1 218 13)) ∧ ((t).1 218 14 = (σ0.1 218 14)) ∧ ((t).1 218 15 = (σ0.1 218 15)) ∧ ((t).1 218 20 = (σ0.1 218 20)) ∧ ((t).1 218 25 = (σ0.1 218 25))) (fun t : zS => ((t).1 218 22).toInt.toNat) (fun again1 t hI ih0_1 => ?_) N _ (show Tr [218, 226, 227, 228, 229] σ0 σ0 ∧ (PIL σ0.1 1 ∧ ∀ k : Nat, (k : Int) < (σ0.1 218 22).toInt → σ0.1 230 k = 100 → (k : Int) < (σ0.1 218 22).toInt) ∧ (TOK σ0.1) ∧ (ZB σ0.1) ∧ (σ0.1 218 7 = (σ0.1 218 7)) ∧ (σ0.1 218 9 = (σ0.1 218 9)) ∧ (σ0.1 218 10 = (σ0.1 218 10)) ∧ (σ0.1 218 11 = (σ0.1 218 11)) ∧ (σ0.1 218 12 = (σ0.1 218 12)) ∧ (σ0.1 218 13 = (σ0.1 218 13)) ∧ (σ0.1 218 14 = (σ0.1 218 14)) ∧ (σ0.1 218 15 = (σ0.1 218 15)) ∧ (σ0.1 218 20 = (σ0.1 218 20)) ∧ (σ0.1 218 25 = (σ0.1 218 25)) from ⟨hT, (by exact ⟨hP, fun k q _ => q⟩), hK, hB, rfl, rfl, rfl, rfl, rfl, rfl, rfl, rfl, rfl, rfl⟩) (show (σ0.1 218 22).toInt.toNat < N from (by omega))
  obtain ⟨σ1, rfl⟩ : ∃ x, x = t := ⟨t, rfl⟩
  have hI : Tr [218, 226, 227, 228, 229] σ0 σ1 ∧ (PIL σ1.1 1 ∧ ∀ k : Nat, (k : Int) < (σ0.1 218 22).toInt → σ0.1 230 k = 100 → (k : Int) < (σ1.1 218 22).toInt) ∧ (TOK σ1.1) ∧ (ZB σ1.1) ∧ (σ1.1 218 7 = (σ0.1 218 7)) ∧ (σ1.1 218 9 = (σ0.1 218 9)) ∧ (σ1.1 218 10 = (σ0.1 218 10)) ∧ (σ1.1 218 11 = (σ0.1 218 11)) ∧ (σ1.1 218 12 = (σ0.1 218 12)) ∧ (σ1.1 218 13 = (σ0.1 218 13)) ∧ (σ1.1 218 14 = (σ0.1 218 14)) ∧ (σ1.1 218 15 = (σ0.1 218 15)) ∧ (σ1.1 218 20 = (σ0.1 218 20)) ∧ (σ1.1 218 25 = (σ0.1 218 25)) := hI
  obtain ⟨hT, hI1, hK, hB, g7_σ1, g9_σ1, g10_σ1, g11_σ1, g12_σ1, g13_σ1, g14_σ1, g15_σ1, g20_σ1, g25_σ1⟩ := hI
  rw [F_X12_settlesTo_0.eq_1]
  have hP := hI1.1
  have hO9 := hI1.2
  have hb9 := PIL_b hI1.1 (by decide)
  refine ok_gI rfl ?_
  refine ok_if (fun hc3 => ?_) (fun hc3 => ?_)
  · have w9 := hc3
    rw [Int32.le_iff_toInt_le] at w9
    simp only [Int32.reduceToInt] at w9
    exact ok_some ⟨hT, (show (TOK σ1.1 ∧ ZB σ1.1 ∧ PIL σ1.1 1 ∧ (∀ k : Nat, (k : Int) < (σ0.1 218 22).toInt → σ0.1 230 k = 100 → (k : Int) < (σ1.1 218 22).toInt) ∧ ((σ1.1 218 22).toInt ≤ 0 ∨ (rkI (σ0.1 230 ((σ1.1 218 22) - 1).toNatClampNeg)).toInt < x1.toInt)) ∧ (σ1.1 218 7 = σ0.1 218 7 ∧ σ1.1 218 9 = σ0.1 218 9 ∧ σ1.1 218 10 = σ0.1 218 10 ∧ σ1.1 218 11 = σ0.1 218 11 ∧ σ1.1 218 12 = σ0.1 218 12 ∧ σ1.1 218 13 = σ0.1 218 13 ∧ σ1.1 218 14 = σ0.1 218 14 ∧ σ1.1 218 15 = σ0.1 218 15 ∧ σ1.1 218 20 = σ0.1 218 20 ∧ σ1.1 218 25 = σ0.1 218 25) from ⟨by first | exact ⟨hK, hB, hP, hO9, Or.inl w9⟩ | exact ⟨hK, hB, hP, hO9, Or.inr x9⟩, g7_σ1, g9_σ1, g10_σ1, g11_σ1, g12_σ1, g13_σ1, g14_σ1, g15_σ1, g20_σ1, g25_σ1⟩)⟩
  · have w9 := hc3
    rw [Int32.le_iff_toInt_le] at w9
    simp only [Int32.reduceToInt] at w9
    have s22 : ((σ1.1 218 22) - 1).toInt = (σ1.1 218 22).toInt - 1 := by rw [ti_sub]; simp only [Int32.reduceToInt]; omega
    refine ok_gR (v := 230) hT rfl (hR 218 21 rfl) ?_
    refine ok_gI rfl ?_
    refine ok_aIn rfl (by rw [s22]; omega) (by rw [s22]; omega) (fun v6 ev6 => ?_)
    have ev17 := ev6
    rw [hT.2 230 (by decide)] at ev17
    refine ok_zbX (Q := fun V => V = rkI v6) (x_X12_rank) (fun v7 hqv7 => ?_)
    have hqv7 : v7 = rkI v6 := hqv7
    try simp only [g7_σ1, g9_σ1, g10_σ1, g11_σ1, g12_σ1, g13_σ1, g14_σ1, g15_σ1, g20_σ1, g25_σ1, hT.2 224 (by decide)] at hqv7
    refine ok_if (fun hc9 => ?_) (fun hc9 => ?_)
    · have x9 := hc9
      rw [hqv7, ev17, Int32.lt_iff_toInt_lt] at x9
      exact ok_some ⟨hT, (show (TOK σ1.1 ∧ ZB σ1.1 ∧ PIL σ1.1 1 ∧ (∀ k : Nat, (k : Int) < (σ0.1 218 22).toInt → σ0.1 230 k = 100 → (k : Int) < (σ1.1 218 22).toInt) ∧ ((σ1.1 218 22).toInt ≤ 0 ∨ (rkI (σ0.1 230 ((σ1.1 218 22) - 1).toNatClampNeg)).toInt < x1.toInt)) ∧ (σ1.1 218 7 = σ0.1 218 7 ∧ σ1.1 218 9 = σ0.1 218 9 ∧ σ1.1 218 10 = σ0.1 218 10 ∧ σ1.1 218 11 = σ0.1 218 11 ∧ σ1.1 218 12 = σ0.1 218 12 ∧ σ1.1 218 13 = σ0.1 218 13 ∧ σ1.1 218 14 = σ0.1 218 14 ∧ σ1.1 218 15 = σ0.1 218 15 ∧ σ1.1 218 20 = σ0.1 218 20 ∧ σ1.1 218 25 = σ0.1 218 25) from ⟨by first | exact ⟨hK, hB, hP, hO9, Or.inl w9⟩ | exact ⟨hK, hB, hP, hO9, Or.inr x9⟩, g7_σ1, g9_σ1, g10_σ1, g11_σ1, g12_σ1, g13_σ1, g14_σ1, g15_σ1, g20_σ1, g25_σ1⟩)⟩
    · have x9 := hc9
      rw [hqv7, ev17, Int32.lt_iff_toInt_lt] at x9
      have x9 := Int.not_lt.mp x9
      refine ok_gC rfl ?_
      refine ok_zbT (Q := fun V σ => (TOK σ.1 ∧ ZB σ.1 ∧ PIL σ.1 1 ∧ (σ.1 218 22).toInt = (σ1.1 218 22).toInt - 1) ∧ (σ.1 218 7 = σ1.1 218 7 ∧ σ.1 218 9 = σ1.1 218 9 ∧ σ.1 218 10 = σ1.1 218 10 ∧ σ.1 218 11 = σ1.1 218 11 ∧ σ.1 218 12 = σ1.1 218 12 ∧ σ.1 218 13 = σ1.1 218 13 ∧ σ.1 218 14 = σ1.1 218 14 ∧ σ.1 218 15 = σ1.1 218 15 ∧ σ.1 218 20 = σ1.1 218 20 ∧ σ.1 218 25 = σ1.1 218 25)) hT (s_X12_settles hN (hR.tr hT) (hK) (by rw [hT.2 224 (by decide)]; exact hY) (hB) (by (try simp only [g7_σ1, g9_σ1, g10_σ1, g11_σ1, g12_σ1, g13_σ1, g14_σ1, g15_σ1, g20_σ1, g25_σ1]); exact ha) (hP) (by omega)) (by decide) (fun v10 σ11 hOσ11 hT hqv10 => ?_)
      have hqv10 : (TOK σ11.1 ∧ ZB σ11.1 ∧ PIL σ11.1 1 ∧ (σ11.1 218 22).toInt = (σ1.1 218 22).toInt - 1) ∧ (σ11.1 218 7 = σ1.1 218 7 ∧ σ11.1 218 9 = σ1.1 218 9 ∧ σ11.1 218 10 = σ1.1 218 10 ∧ σ11.1 218 11 = σ1.1 218 11 ∧ σ11.1 218 12 = σ1.1 218 12 ∧ σ11.1 218 13 = σ1.1 218 13 ∧ σ11.1 218 14 = σ1.1 218 14 ∧ σ11.1 218 15 = σ1.1 218 15 ∧ σ11.1 218 20 = σ1.1 218 20 ∧ σ11.1 218 25 = σ1.1 218 25) := hqv10
      have hkv10 := hqv10
      have hqv10 := hqv10.1
      have hK : TOK σ11.1 := by first | exact hqv10.1 | exact TOK_p eσ11 (by decide) hK
      have hB : ZB σ11.1 := hqv10.2.1
      try simp only [g7_σ1, g9_σ1, g10_σ1, g11_σ1, g12_σ1, g13_σ1, g14_σ1, g15_σ1, g20_σ1, g25_σ1] at hqv10
      have g7_σ11 : σ11.1 218 7 = (σ0.1 218 7) := (hkv10.2.1).trans g7_σ1
      have g9_σ11 : σ11.1 218 9 = (σ0.1 218 9) := (hkv10.2.2.1).trans g9_σ1
      have g10_σ11 : σ11.1 218 10 = (σ0.1 218 10) := (hkv10.2.2.2.1).trans g10_σ1
      have g11_σ11 : σ11.1 218 11 = (σ0.1 218 11) := (hkv10.2.2.2.2.1).trans g11_σ1
      have g12_σ11 : σ11.1 218 12 = (σ0.1 218 12) := (hkv10.2.2.2.2.2.1).trans g12_σ1
      have g13_σ11 : σ11.1 218 13 = (σ0.1 218 13) := (hkv10.2.2.2.2.2.2.1).trans g13_σ1
      have g14_σ11 : σ11.1 218 14 = (σ0.1 218 14) := (hkv10.2.2.2.2.2.2.2.1).trans g14_σ1
      have g15_σ11 : σ11.1 218 15 = (σ0.1 218 15) := (hkv10.2.2.2.2.2.2.2.2.1).trans g15_σ1
      have g20_σ11 : σ11.1 218 20 = (σ0.1 218 20) := (hkv10.2.2.2.2.2.2.2.2.2.1).trans g20_σ1
      have g25_σ11 : σ11.1 218 25 = (σ0.1 218 25) := (hkv10.2.2.2.2.2.2.2.2.2.2).trans g25_σ1
      have hP := hqv10.2.2.1
      have w26 := hqv10.2.2.2
      have hO9 : ∀ k : Nat, (k : Int) < (σ0.1 218 22).toInt → σ0.1 230 k = 100 → (k : Int) < (σ11.1 218 22).toInt := fun k u1 u2 => so9 (hO9 k u1 u2) u2 x9 h1 s22 w26
      exact ih0_1 σ11 (show Tr [218, 226, 227, 228, 229] σ0 σ11 ∧ (PIL σ11.1 1 ∧ ∀ k : Nat, (k : Int) < (σ0.1 218 22).toInt → σ0.1 230 k = 100 → (k : Int) < (σ11.1 218 22).toInt) ∧ (TOK σ11.1) ∧ (ZB σ11.1) ∧ (σ11.1 218 7 = (σ0.1 218 7)) ∧ (σ11.1 218 9 = (σ0.1 218 9)) ∧ (σ11.1 218 10 = (σ0.1 218 10)) ∧ (σ11.1 218 11 = (σ0.1 218 11)) ∧ (σ11.1 218 12 = (σ0.1 218 12)) ∧ (σ11.1 218 13 = (σ0.1 218 13)) ∧ (σ11.1 218 14 = (σ0.1 218 14)) ∧ (σ11.1 218 15 = (σ0.1 218 15)) ∧ (σ11.1 218 20 = (σ0.1 218 20)) ∧ (σ11.1 218 25 = (σ0.1 218 25)) from ⟨hT, (by exact ⟨hP, hO9⟩), hK, hB, g7_σ11, g9_σ11, g10_σ11, g11_σ11, g12_σ11, g13_σ11, g14_σ11, g15_σ11, g20_σ11, g25_σ11⟩) (show (σ11.1 218 22).toInt.toNat < (σ1.1 218 22).toInt.toNat from (by omega))

def rowV (a w n : Int32) : Int32 := if (0 ≤ a.toInt ∧ a.toInt ≤ 3) ∧ (0 ≤ w.toInt ∧ w.toInt ≤ 3) ∧ n.toInt ≤ 60 then (if n.toInt < 0 then -3 else 0) else -2
def wrV (a i l : Int32) : Int32 := if 0 ≤ a.toInt ∧ a.toInt ≤ 3 then (if l.toInt < 0 then -6 else if 0 ≤ i.toInt ∧ i.toInt < l.toInt then 0 else -7) else -2
def paV (a i b k n la lb wa wb : Int32) : Int32 := if (0 ≤ a.toInt ∧ a.toInt ≤ 3) ∧ (0 ≤ b.toInt ∧ b.toInt ≤ 3) then (if la.toInt < 0 ∨ lb.toInt < 0 then -6 else if wa = wb then (if (0 ≤ i.toInt ∧ 0 ≤ k.toInt ∧ 0 ≤ n.toInt) ∧ i.toInt + n.toInt ≤ la.toInt ∧ k.toInt + n.toInt ≤ lb.toInt then 0 else -7) else -8) else -2
def fdV (t : Int32) : Int32 := if t.toInt ≤ 580 then t + 20 else -1
def fdT (t : Int32) : Int32 := if t.toInt ≤ 580 then t + 20 else t
def enV (x t : Int32) : Int32 := if 0 ≤ x.toInt ∧ x.toInt ≤ t.toInt then x else -1
def enT (x t : Int32) : Int32 := if 0 ≤ x.toInt ∧ x.toInt ≤ t.toInt then x else t
/-- the slots' lengths and widths behind row -/
def RWC (f g : Nat → Nat → Int32) (a w n v : Int32) : Prop := ∀ s, s < 4 → g (210 + 2 * s) 2 = (if v = 0 ∧ s = a.toInt.toNat then n else f (210 + 2 * s) 2) ∧ g (210 + 2 * s) 1 = (if v = 0 ∧ s = a.toInt.toNat then w else f (210 + 2 * s) 1)
def RWR (f g : Nat → Nat → Int32) (a w n v : Int32) : Prop := ∀ s, s < 4 → g 239 s = (if v = 0 ∧ s = a.toInt.toNat then n else f 239 s) ∧ g 240 s = (if v = 0 ∧ s = a.toInt.toNat then w else f 240 s)
theorem RWC_n {f g : Nat → Nat → Int32} {a w n v : Int32} (e : ∀ k, g k = f k) (hv : ¬ v = 0) : RWC f g a w n v := fun s _ => by
  rw [if_neg (fun q => hv q.1), if_neg (fun q => hv q.1), e]
  exact ⟨rfl, rfl⟩
theorem RWR_n {f g : Nat → Nat → Int32} {a w n v : Int32} (e : ∀ k, g k = f k) (hv : ¬ v = 0) : RWR f g a w n v := fun s _ => by
  rw [if_neg (fun q => hv q.1), if_neg (fun q => hv q.1), e, e]
  exact ⟨rfl, rfl⟩
theorem RWC_s {f g : Nat → Nat → Int32} {a w n : Int32} {q : Nat} (hq : q = 210 + 2 * a.toInt.toNat) (h : (g q 2 = zmin 60 n ∧ g q 1 = w) ∧ ∀ k, k ≠ q → g k = f k) (hn : n.toInt ≤ 60) : RWC f g a w n 0 := fun s _ => by
  have z : zmin 60 n = n := Int32.toInt_inj.mp (by rw [ti_zmin]; simp only [Int32.reduceToInt]; split <;> omega)
  by_cases e : s = a.toInt.toNat
  · rw [if_pos ⟨rfl, e⟩, if_pos ⟨rfl, e⟩, e, ← hq, h.1.1, z]
    exact ⟨rfl, h.1.2⟩
  · rw [if_neg (fun q => e q.2), if_neg (fun q => e q.2), h.2 _ (by omega)]
    exact ⟨rfl, rfl⟩
theorem upd_at {σ τ : zS} {k i : Nat} {v : Int32} {g : Nat → Int32} (e : τ = zI σ k (upd (σ.1 k) i v)) (hr : σ.1 k = g) : ∀ s, τ.1 k s = if s = i then v else g s := fun s => by
  by_cases q : s = i
  · rw [if_pos q, q]; exact zI_atI e
  · rw [if_neg q, zI_atN e q, hr]
theorem RWR_s {f g : Nat → Nat → Int32} {a w n : Int32} {i : Nat} (hi : i = a.toInt.toNat) (h1 : ∀ s, g 239 s = if s = i then n else f 239 s) (h2 : ∀ s, g 240 s = if s = i then w else f 240 s) : RWR f g a w n 0 := fun s _ => by
  subst hi
  rw [h1, h2]
  by_cases e : s = a.toInt.toNat
  · rw [if_pos e, if_pos e, if_pos ⟨rfl, e⟩, if_pos ⟨rfl, e⟩]; exact ⟨rfl, rfl⟩
  · rw [if_neg e, if_neg e, if_neg (fun q => e q.2), if_neg (fun q => e q.2)]; exact ⟨rfl, rfl⟩
theorem zI_o {σ τ : zS} {k a : Nat} {r : Nat → Int32} (e : τ = zI σ a r) (h : k ≠ a) : τ.1 k = σ.1 k := by
  subst e
  exact va_up_ne σ.1 r h
theorem zT56 : ∀ s, s < 4 → zT 56 s = 210 + 2 * s := by decide
theorem slotC {R : Nat → Nat → Nat} (hR : RF R) {x : Int32} {q : Nat} (h0 : 0 ≤ x.toInt) (h3 : x.toInt ≤ 3) (e : R 56 x.toNatClampNeg = q) : q = 210 + 2 * x.toInt.toNat := by
  rw [← e, hR 56 _ rfl]
  exact zT56 x.toInt.toNat (by omega)
theorem x_X11_isSlot {N : Nat} {x1 : Int32} {σ : zS} : Ok (f_X11_isSlot N 0 x1 σ) (fun r => r.2 = σ ∧ ((r.1 = 0 → ¬ (0 ≤ x1.toInt ∧ x1.toInt ≤ 3)) ∧ (¬ r.1 = 0 → 0 ≤ x1.toInt ∧ x1.toInt ≤ 3))) := by
  rw [f_X11_isSlot.eq_1]
  refine ok_if (fun h => ok_rZ (Or.inl rfl) ⟨rfl, fun _ => ?_, fun q => absurd rfl q⟩) (fun h => ok_if (fun h2 => ok_rZ (Or.inl rfl) ⟨rfl, fun _ => ?_, fun q => absurd rfl q⟩) (fun h2 => ok_rZ (Or.inr rfl) ⟨rfl, fun q => absurd (show (1 : Int32) = 0 from q) (by decide), fun _ => ?_⟩))
  · rw [Int32.lt_iff_toInt_lt] at h; simp only [Int32.reduceToInt] at h; omega
  · rw [Int32.le_iff_toInt_le] at h2; simp only [Int32.reduceToInt] at h2; omega
  · rw [Int32.lt_iff_toInt_lt] at h; rw [Int32.le_iff_toInt_le] at h2; simp only [Int32.reduceToInt] at h h2; omega
theorem x_X12_isSlot {N : Nat} {x0 : Int32} {σ : zS} : Ok (f_X12_isSlot N x0 σ) (fun r => r.2 = σ ∧ ((r.1 = 0 → ¬ (0 ≤ x0.toInt ∧ x0.toInt ≤ 3)) ∧ (¬ r.1 = 0 → 0 ≤ x0.toInt ∧ x0.toInt ≤ 3))) := by
  rw [f_X12_isSlot.eq_1, f_X12_in.eq_1]
  show Ok (zb (if _ then _ else _) _) _
  by_cases h : lg_cmp (Int32.toInt64 x0) 0 < 0
  · rw [if_pos h]
    refine ok_rZ (Or.inl rfl) ⟨rfl, fun _ => ?_, fun q => absurd rfl q⟩
    rw [zcmp_lt, i64_of] at h; simp only [Int64.reduceToInt] at h; omega
  · rw [if_neg h]
    by_cases h2 : 0 < lg_cmp (Int32.toInt64 x0) 3
    · rw [if_pos h2]
      refine ok_rZ (Or.inl rfl) ⟨rfl, fun _ => ?_, fun q => absurd rfl q⟩
      rw [zcmp_gt, i64_of] at h2; simp only [Int64.reduceToInt] at h2; omega
    · rw [if_neg h2]
      refine ok_rZ (Or.inr rfl) ⟨rfl, fun q => absurd (show (1 : Int32) = 0 from q) (by decide), fun _ => ?_⟩
      rw [zcmp_lt, i64_of] at h; rw [zcmp_gt, i64_of] at h2; simp only [Int64.reduceToInt] at h h2; omega

set_option maxHeartbeats 4000000 in
set_option maxRecDepth 100000 in
theorem s_X9_startv {N : Nat} (hN : 1048576 ≤ N) {x0 : Nat} {x1 : Int32} {x2 : Int32} {σ0 : zS}  (hR : RF σ0.2.2) (h_x0 : (zKd x0).1 = 9) (hL : SI σ0.1) : Ok (f_X9_start N x0 x1 x2 σ0) (fun r => Tr [210, 212, 214, 216] σ0 r.2 ∧ (SI r.2.1 ∧ (r.2.1 x0 2 = zmin 60 x2 ∧ r.2.1 x0 1 = x1) ∧ ∀ k, k ≠ x0 → r.2.1 k = σ0.1 k)) := by
  have hT : Tr [210, 212, 214, 216] σ0 σ0 := Tr.rf
  rw [f_X9_start.eq_1]
  refine ok_gR hT h_x0 (slot_R hR h_x0).1 ?_
  refine ok_zbT (Q := fun V σ => True) hT (s_J7_fill_d0a16 hN (hR.tr hT) (slot_R hR h_x0).2 (by decide)) (fun _ h9 => absurd h9 List.not_mem_nil) (fun v2 σ3 hOσ3 hT hqv2 => ?_)
  have hL : SI σ3.1 := SI.tr hOσ3 (by decide) (by decide) (by decide) (by decide) hL
  have f0 : ∀ k, σ3.1 k = σ0.1 k := fun k => hOσ3.2 k List.not_mem_nil
  refine ok_pI hT h_x0 (slotMem h_x0) (fun σ4 eσ4 hOσ4 hT => ?_)
  have a10 := zI_atI eσ4
  have o10 : ∀ k, k ≠ x0 → σ4.1 k = σ0.1 k := fun k hk => (zI_o eσ4 hk).trans (f0 k)
  have hL : SI σ4.1 := SI_p eσ4 (fun q => absurd q (by decide)) hL
  refine ok_pI hT h_x0 (slotMem h_x0) (fun σ5 eσ5 hOσ5 hT => ?_)
  have a20 := zI_atI eσ5
  have b20 := (zI_atN eσ5 (show 1 ≠ 2 by decide)).trans a10
  have o20 : ∀ k, k ≠ x0 → σ5.1 k = σ0.1 k := fun k hk => (zI_o eσ5 hk).trans (o10 k hk)
  have hL : SI σ5.1 := SI_p eσ5 (fun _ => by rw [ti_zmin]; simp only [Int32.reduceToInt]; split <;> omega) hL
  exact ok_some ⟨hT, (show SI σ5.1 ∧ (σ5.1 x0 2 = zmin 60 x2 ∧ σ5.1 x0 1 = x1) ∧ ∀ k, k ≠ x0 → σ5.1 k = σ0.1 k from by exact ⟨hL, ⟨a20, b20⟩, o20⟩)⟩

set_option maxHeartbeats 4000000 in
set_option maxRecDepth 100000 in
theorem s_X11_row_n2v {N : Nat} (hN : 1048576 ≤ N) {x1 : Int32} {x2 : Int32} {x3 : Int32} {σ0 : zS}  (hR : RF σ0.2.2) (hNw : σ0.2.2 0 4 = 2) (hPw : σ0.2.2 0 5 = 28) (hC : CF σ0.1) : Ok (f_X11_row N 0 x1 x2 x3 σ0) (fun r => Tr [210, 212, 214, 216] σ0 r.2 ∧ (CF r.2.1 ∧ r.1 = rowV x1 x2 x3 ∧ RWC σ0.1 r.2.1 x1 x2 x3 r.1)) := by
  have hT : Tr [210, 212, 214, 216] σ0 σ0 := Tr.rf
  obtain ⟨hW2, hW28, hW132, hW158, hW184, hL, hD, hu, ht⟩ := hC
  have hn := hW2.1
  have he := hW2.2.1
  have hD0 := hD
  have hL0 := hL
  have q10 := ti_one10 (x := σ0.1 2 0) hn.1 hn.2
  rw [f_X11_row.eq_1]
  refine ok_gC rfl ?_
  refine ok_zbX (Q := fun V => (V = 0 → ¬ (0 ≤ x1.toInt ∧ x1.toInt ≤ 3)) ∧ (¬ V = 0 → 0 ≤ x1.toInt ∧ x1.toInt ≤ 3)) (x_X11_isSlot) (fun v1 hqv1 => ?_)
  refine ok_if (fun hc3 => ?_) (fun hc3 => ?_)
  · have qhc3 := hqv1.1 hc3
    exact ok_some ⟨hT, (show CF σ0.1 ∧ (-2 : Int32) = rowV x1 x2 x3 ∧ RWC σ0.1 σ0.1 x1 x2 x3 (-2 : Int32) from by first | exact ⟨⟨hW2, hW28, hW132, hW158, hW184, hL, hD, hu, ht⟩, by (first | exact (if_neg (by first | omega | (simp only [Int32.le_iff_toInt_le, Int32.lt_iff_toInt_lt, ti_add, ti_sub, ti_mul, Int32.reduceToInt] at *; omega))).symm | exact ((if_pos (by first | omega | (simp only [Int32.le_iff_toInt_le, Int32.lt_iff_toInt_lt, ti_add, ti_sub, ti_mul, Int32.reduceToInt] at *; omega))).trans (if_neg (by first | omega | (simp only [Int32.le_iff_toInt_le, Int32.lt_iff_toInt_lt, ti_add, ti_sub, ti_mul, Int32.reduceToInt] at *; omega)))).symm | exact ((if_pos (by first | omega | (simp only [Int32.le_iff_toInt_le, Int32.lt_iff_toInt_lt, ti_add, ti_sub, ti_mul, Int32.reduceToInt] at *; omega))).trans (if_pos (by first | omega | (simp only [Int32.le_iff_toInt_le, Int32.lt_iff_toInt_lt, ti_add, ti_sub, ti_mul, Int32.reduceToInt] at *; omega)))).symm), RWC_n (fun _ => rfl) (by decide)⟩ | exact ⟨⟨hW2, hW28, hW132, hW158, hW184, hL, hD, hu, ht⟩, by (first | exact (if_neg (by first | omega | (simp only [Int32.le_iff_toInt_le, Int32.lt_iff_toInt_lt, ti_add, ti_sub, ti_mul, Int32.reduceToInt] at *; omega))).symm | exact ((if_pos (by first | omega | (simp only [Int32.le_iff_toInt_le, Int32.lt_iff_toInt_lt, ti_add, ti_sub, ti_mul, Int32.reduceToInt] at *; omega))).trans (if_neg (by first | omega | (simp only [Int32.le_iff_toInt_le, Int32.lt_iff_toInt_lt, ti_add, ti_sub, ti_mul, Int32.reduceToInt] at *; omega)))).symm | exact ((if_pos (by first | omega | (simp only [Int32.le_iff_toInt_le, Int32.lt_iff_toInt_lt, ti_add, ti_sub, ti_mul, Int32.reduceToInt] at *; omega))).trans (if_pos (by first | omega | (simp only [Int32.le_iff_toInt_le, Int32.lt_iff_toInt_lt, ti_add, ti_sub, ti_mul, Int32.reduceToInt] at *; omega)))).symm), RWC_s hqq h41 (by first | omega | (simp only [Int32.le_iff_toInt_le, Int32.lt_iff_toInt_lt, ti_add, ti_sub, ti_mul, Int32.reduceToInt] at *; omega))⟩)⟩
  · have qhc3 := hqv1.2 hc3
    refine ok_if (fun hc4 => ?_) (fun hc4 => ?_)
    · exact ok_some ⟨hT, (show CF σ0.1 ∧ (-2 : Int32) = rowV x1 x2 x3 ∧ RWC σ0.1 σ0.1 x1 x2 x3 (-2 : Int32) from by first | exact ⟨⟨hW2, hW28, hW132, hW158, hW184, hL, hD, hu, ht⟩, by (first | exact (if_neg (by first | omega | (simp only [Int32.le_iff_toInt_le, Int32.lt_iff_toInt_lt, ti_add, ti_sub, ti_mul, Int32.reduceToInt] at *; omega))).symm | exact ((if_pos (by first | omega | (simp only [Int32.le_iff_toInt_le, Int32.lt_iff_toInt_lt, ti_add, ti_sub, ti_mul, Int32.reduceToInt] at *; omega))).trans (if_neg (by first | omega | (simp only [Int32.le_iff_toInt_le, Int32.lt_iff_toInt_lt, ti_add, ti_sub, ti_mul, Int32.reduceToInt] at *; omega)))).symm | exact ((if_pos (by first | omega | (simp only [Int32.le_iff_toInt_le, Int32.lt_iff_toInt_lt, ti_add, ti_sub, ti_mul, Int32.reduceToInt] at *; omega))).trans (if_pos (by first | omega | (simp only [Int32.le_iff_toInt_le, Int32.lt_iff_toInt_lt, ti_add, ti_sub, ti_mul, Int32.reduceToInt] at *; omega)))).symm), RWC_n (fun _ => rfl) (by decide)⟩ | exact ⟨⟨hW2, hW28, hW132, hW158, hW184, hL, hD, hu, ht⟩, by (first | exact (if_neg (by first | omega | (simp only [Int32.le_iff_toInt_le, Int32.lt_iff_toInt_lt, ti_add, ti_sub, ti_mul, Int32.reduceToInt] at *; omega))).symm | exact ((if_pos (by first | omega | (simp only [Int32.le_iff_toInt_le, Int32.lt_iff_toInt_lt, ti_add, ti_sub, ti_mul, Int32.reduceToInt] at *; omega))).trans (if_neg (by first | omega | (simp only [Int32.le_iff_toInt_le, Int32.lt_iff_toInt_lt, ti_add, ti_sub, ti_mul, Int32.reduceToInt] at *; omega)))).symm | exact ((if_pos (by first | omega | (simp only [Int32.le_iff_toInt_le, Int32.lt_iff_toInt_lt, ti_add, ti_sub, ti_mul, Int32.reduceToInt] at *; omega))).trans (if_pos (by first | omega | (simp only [Int32.le_iff_toInt_le, Int32.lt_iff_toInt_lt, ti_add, ti_sub, ti_mul, Int32.reduceToInt] at *; omega)))).symm), RWC_s hqq h41 (by first | omega | (simp only [Int32.le_iff_toInt_le, Int32.lt_iff_toInt_lt, ti_add, ti_sub, ti_mul, Int32.reduceToInt] at *; omega))⟩)⟩
    · refine ok_if (fun hc5 => ?_) (fun hc5 => ?_)
      · exact ok_some ⟨hT, (show CF σ0.1 ∧ (-2 : Int32) = rowV x1 x2 x3 ∧ RWC σ0.1 σ0.1 x1 x2 x3 (-2 : Int32) from by first | exact ⟨⟨hW2, hW28, hW132, hW158, hW184, hL, hD, hu, ht⟩, by (first | exact (if_neg (by first | omega | (simp only [Int32.le_iff_toInt_le, Int32.lt_iff_toInt_lt, ti_add, ti_sub, ti_mul, Int32.reduceToInt] at *; omega))).symm | exact ((if_pos (by first | omega | (simp only [Int32.le_iff_toInt_le, Int32.lt_iff_toInt_lt, ti_add, ti_sub, ti_mul, Int32.reduceToInt] at *; omega))).trans (if_neg (by first | omega | (simp only [Int32.le_iff_toInt_le, Int32.lt_iff_toInt_lt, ti_add, ti_sub, ti_mul, Int32.reduceToInt] at *; omega)))).symm | exact ((if_pos (by first | omega | (simp only [Int32.le_iff_toInt_le, Int32.lt_iff_toInt_lt, ti_add, ti_sub, ti_mul, Int32.reduceToInt] at *; omega))).trans (if_pos (by first | omega | (simp only [Int32.le_iff_toInt_le, Int32.lt_iff_toInt_lt, ti_add, ti_sub, ti_mul, Int32.reduceToInt] at *; omega)))).symm), RWC_n (fun _ => rfl) (by decide)⟩ | exact ⟨⟨hW2, hW28, hW132, hW158, hW184, hL, hD, hu, ht⟩, by (first | exact (if_neg (by first | omega | (simp only [Int32.le_iff_toInt_le, Int32.lt_iff_toInt_lt, ti_add, ti_sub, ti_mul, Int32.reduceToInt] at *; omega))).symm | exact ((if_pos (by first | omega | (simp only [Int32.le_iff_toInt_le, Int32.lt_iff_toInt_lt, ti_add, ti_sub, ti_mul, Int32.reduceToInt] at *; omega))).trans (if_neg (by first | omega | (simp only [Int32.le_iff_toInt_le, Int32.lt_iff_toInt_lt, ti_add, ti_sub, ti_mul, Int32.reduceToInt] at *; omega)))).symm | exact ((if_pos (by first | omega | (simp only [Int32.le_iff_toInt_le, Int32.lt_iff_toInt_lt, ti_add, ti_sub, ti_mul, Int32.reduceToInt] at *; omega))).trans (if_pos (by first | omega | (simp only [Int32.le_iff_toInt_le, Int32.lt_iff_toInt_lt, ti_add, ti_sub, ti_mul, Int32.reduceToInt] at *; omega)))).symm), RWC_s hqq h41 (by first | omega | (simp only [Int32.le_iff_toInt_le, Int32.lt_iff_toInt_lt, ti_add, ti_sub, ti_mul, Int32.reduceToInt] at *; omega))⟩)⟩
      · refine ok_if (fun hc6 => ?_) (fun hc6 => ?_)
        · refine ok_if (fun hc7 => ?_) (fun hc7 => ?_)
          · refine ok_gR (v := 56) hT rfl (hR 0 8 rfl) ?_
            obtain ⟨q10, eq10, kq10⟩ := arrS hR (k := 56) (i := x1) rfl (by first | omega | decide | (have q1 := hD.1; have q2 := hD.2.1; simp only [Int32.le_iff_toInt_le, Int32.lt_iff_toInt_lt, ti_add, ti_sub, ti_mul, Int32.reduceToInt] at *; omega)) (by first | omega | decide | (have q1 := hD.1; have q2 := hD.2.1; simp only [Int32.le_iff_toInt_le, Int32.lt_iff_toInt_lt, ti_add, ti_sub, ti_mul, Int32.reduceToInt] at *; omega))
            refine ok_aR (v := q10) hT rfl (by first | omega | decide | (have q1 := hD.1; have q2 := hD.2.1; simp only [Int32.le_iff_toInt_le, Int32.lt_iff_toInt_lt, ti_add, ti_sub, ti_mul, Int32.reduceToInt] at *; omega)) (by first | omega | decide | (have q1 := hD.1; have q2 := hD.2.1; simp only [Int32.le_iff_toInt_le, Int32.lt_iff_toInt_lt, ti_add, ti_sub, ti_mul, Int32.reduceToInt] at *; omega)) eq10 ?_
            have hqq := slotC hR (x := x1) (by omega) (by omega) eq10
            refine ok_gC kq10 ?_
            refine ok_zbT (Q := fun V σ => SI σ.1 ∧ (σ.1 q10 2 = zmin 60 x3 ∧ σ.1 q10 1 = x2) ∧ ∀ k, k ≠ q10 → σ.1 k = σ0.1 k) hT (s_X9_startv hN (hR.tr hT) kq10 (hL)) (by decide) (fun v11 σ12 hOσ12 hT hqv11 => ?_)
            have hqv11 : SI σ12.1 ∧ (σ12.1 q10 2 = zmin 60 x3 ∧ σ12.1 q10 1 = x2) ∧ ∀ k, k ≠ q10 → σ12.1 k = σ0.1 k := hqv11
            have hW2 : WI 2 σ12.1 := WI.tr hOσ12 (by decide) (by decide) (by decide) hW2
            have hW28 : WI 28 σ12.1 := WI.tr hOσ12 (by decide) (by decide) (by decide) hW28
            have hW132 : WI 132 σ12.1 := WI.tr hOσ12 (by decide) (by decide) (by decide) hW132
            have hW158 : WI 158 σ12.1 := WI.tr hOσ12 (by decide) (by decide) (by decide) hW158
            have hW184 : WI 184 σ12.1 := WI.tr hOσ12 (by decide) (by decide) (by decide) hW184
            have hL : SI σ12.1 := hqv11.1
            have hD : RD σ12.1 := RD.tr hOσ12 (by decide) (by decide) (by decide) (by decide) hD
            have hu : 2 ≤ (σ12.1 111 8).toInt ∧ (σ12.1 111 8).toInt ≤ 1600 := by rw [hOσ12.2 111 (by decide)] <;> exact hu
            have ht : 0 ≤ (σ12.1 0 1).toInt ∧ (σ12.1 0 1).toInt ≤ 600 := by rw [hOσ12.2 0 (by decide)] <;> exact ht
            have h41 := hqv11.2
            exact ok_some ⟨hT, (show CF σ12.1 ∧ (0 : Int32) = rowV x1 x2 x3 ∧ RWC σ0.1 σ12.1 x1 x2 x3 (0 : Int32) from by first | exact ⟨⟨hW2, hW28, hW132, hW158, hW184, hL, hD, hu, ht⟩, by (first | exact (if_neg (by first | omega | (simp only [Int32.le_iff_toInt_le, Int32.lt_iff_toInt_lt, ti_add, ti_sub, ti_mul, Int32.reduceToInt] at *; omega))).symm | exact ((if_pos (by first | omega | (simp only [Int32.le_iff_toInt_le, Int32.lt_iff_toInt_lt, ti_add, ti_sub, ti_mul, Int32.reduceToInt] at *; omega))).trans (if_neg (by first | omega | (simp only [Int32.le_iff_toInt_le, Int32.lt_iff_toInt_lt, ti_add, ti_sub, ti_mul, Int32.reduceToInt] at *; omega)))).symm | exact ((if_pos (by first | omega | (simp only [Int32.le_iff_toInt_le, Int32.lt_iff_toInt_lt, ti_add, ti_sub, ti_mul, Int32.reduceToInt] at *; omega))).trans (if_pos (by first | omega | (simp only [Int32.le_iff_toInt_le, Int32.lt_iff_toInt_lt, ti_add, ti_sub, ti_mul, Int32.reduceToInt] at *; omega)))).symm), RWC_n (fun _ => rfl) (by decide)⟩ | exact ⟨⟨hW2, hW28, hW132, hW158, hW184, hL, hD, hu, ht⟩, by (first | exact (if_neg (by first | omega | (simp only [Int32.le_iff_toInt_le, Int32.lt_iff_toInt_lt, ti_add, ti_sub, ti_mul, Int32.reduceToInt] at *; omega))).symm | exact ((if_pos (by first | omega | (simp only [Int32.le_iff_toInt_le, Int32.lt_iff_toInt_lt, ti_add, ti_sub, ti_mul, Int32.reduceToInt] at *; omega))).trans (if_neg (by first | omega | (simp only [Int32.le_iff_toInt_le, Int32.lt_iff_toInt_lt, ti_add, ti_sub, ti_mul, Int32.reduceToInt] at *; omega)))).symm | exact ((if_pos (by first | omega | (simp only [Int32.le_iff_toInt_le, Int32.lt_iff_toInt_lt, ti_add, ti_sub, ti_mul, Int32.reduceToInt] at *; omega))).trans (if_pos (by first | omega | (simp only [Int32.le_iff_toInt_le, Int32.lt_iff_toInt_lt, ti_add, ti_sub, ti_mul, Int32.reduceToInt] at *; omega)))).symm), RWC_s hqq h41 (by first | omega | (simp only [Int32.le_iff_toInt_le, Int32.lt_iff_toInt_lt, ti_add, ti_sub, ti_mul, Int32.reduceToInt] at *; omega))⟩)⟩
          · exact ok_some ⟨hT, (show CF σ0.1 ∧ (-3 : Int32) = rowV x1 x2 x3 ∧ RWC σ0.1 σ0.1 x1 x2 x3 (-3 : Int32) from by first | exact ⟨⟨hW2, hW28, hW132, hW158, hW184, hL, hD, hu, ht⟩, by (first | exact (if_neg (by first | omega | (simp only [Int32.le_iff_toInt_le, Int32.lt_iff_toInt_lt, ti_add, ti_sub, ti_mul, Int32.reduceToInt] at *; omega))).symm | exact ((if_pos (by first | omega | (simp only [Int32.le_iff_toInt_le, Int32.lt_iff_toInt_lt, ti_add, ti_sub, ti_mul, Int32.reduceToInt] at *; omega))).trans (if_neg (by first | omega | (simp only [Int32.le_iff_toInt_le, Int32.lt_iff_toInt_lt, ti_add, ti_sub, ti_mul, Int32.reduceToInt] at *; omega)))).symm | exact ((if_pos (by first | omega | (simp only [Int32.le_iff_toInt_le, Int32.lt_iff_toInt_lt, ti_add, ti_sub, ti_mul, Int32.reduceToInt] at *; omega))).trans (if_pos (by first | omega | (simp only [Int32.le_iff_toInt_le, Int32.lt_iff_toInt_lt, ti_add, ti_sub, ti_mul, Int32.reduceToInt] at *; omega)))).symm), RWC_n (fun _ => rfl) (by decide)⟩ | exact ⟨⟨hW2, hW28, hW132, hW158, hW184, hL, hD, hu, ht⟩, by (first | exact (if_neg (by first | omega | (simp only [Int32.le_iff_toInt_le, Int32.lt_iff_toInt_lt, ti_add, ti_sub, ti_mul, Int32.reduceToInt] at *; omega))).symm | exact ((if_pos (by first | omega | (simp only [Int32.le_iff_toInt_le, Int32.lt_iff_toInt_lt, ti_add, ti_sub, ti_mul, Int32.reduceToInt] at *; omega))).trans (if_neg (by first | omega | (simp only [Int32.le_iff_toInt_le, Int32.lt_iff_toInt_lt, ti_add, ti_sub, ti_mul, Int32.reduceToInt] at *; omega)))).symm | exact ((if_pos (by first | omega | (simp only [Int32.le_iff_toInt_le, Int32.lt_iff_toInt_lt, ti_add, ti_sub, ti_mul, Int32.reduceToInt] at *; omega))).trans (if_pos (by first | omega | (simp only [Int32.le_iff_toInt_le, Int32.lt_iff_toInt_lt, ti_add, ti_sub, ti_mul, Int32.reduceToInt] at *; omega)))).symm), RWC_s hqq h41 (by first | omega | (simp only [Int32.le_iff_toInt_le, Int32.lt_iff_toInt_lt, ti_add, ti_sub, ti_mul, Int32.reduceToInt] at *; omega))⟩)⟩
        · exact ok_some ⟨hT, (show CF σ0.1 ∧ (-2 : Int32) = rowV x1 x2 x3 ∧ RWC σ0.1 σ0.1 x1 x2 x3 (-2 : Int32) from by first | exact ⟨⟨hW2, hW28, hW132, hW158, hW184, hL, hD, hu, ht⟩, by (first | exact (if_neg (by first | omega | (simp only [Int32.le_iff_toInt_le, Int32.lt_iff_toInt_lt, ti_add, ti_sub, ti_mul, Int32.reduceToInt] at *; omega))).symm | exact ((if_pos (by first | omega | (simp only [Int32.le_iff_toInt_le, Int32.lt_iff_toInt_lt, ti_add, ti_sub, ti_mul, Int32.reduceToInt] at *; omega))).trans (if_neg (by first | omega | (simp only [Int32.le_iff_toInt_le, Int32.lt_iff_toInt_lt, ti_add, ti_sub, ti_mul, Int32.reduceToInt] at *; omega)))).symm | exact ((if_pos (by first | omega | (simp only [Int32.le_iff_toInt_le, Int32.lt_iff_toInt_lt, ti_add, ti_sub, ti_mul, Int32.reduceToInt] at *; omega))).trans (if_pos (by first | omega | (simp only [Int32.le_iff_toInt_le, Int32.lt_iff_toInt_lt, ti_add, ti_sub, ti_mul, Int32.reduceToInt] at *; omega)))).symm), RWC_n (fun _ => rfl) (by decide)⟩ | exact ⟨⟨hW2, hW28, hW132, hW158, hW184, hL, hD, hu, ht⟩, by (first | exact (if_neg (by first | omega | (simp only [Int32.le_iff_toInt_le, Int32.lt_iff_toInt_lt, ti_add, ti_sub, ti_mul, Int32.reduceToInt] at *; omega))).symm | exact ((if_pos (by first | omega | (simp only [Int32.le_iff_toInt_le, Int32.lt_iff_toInt_lt, ti_add, ti_sub, ti_mul, Int32.reduceToInt] at *; omega))).trans (if_neg (by first | omega | (simp only [Int32.le_iff_toInt_le, Int32.lt_iff_toInt_lt, ti_add, ti_sub, ti_mul, Int32.reduceToInt] at *; omega)))).symm | exact ((if_pos (by first | omega | (simp only [Int32.le_iff_toInt_le, Int32.lt_iff_toInt_lt, ti_add, ti_sub, ti_mul, Int32.reduceToInt] at *; omega))).trans (if_pos (by first | omega | (simp only [Int32.le_iff_toInt_le, Int32.lt_iff_toInt_lt, ti_add, ti_sub, ti_mul, Int32.reduceToInt] at *; omega)))).symm), RWC_s hqq h41 (by first | omega | (simp only [Int32.le_iff_toInt_le, Int32.lt_iff_toInt_lt, ti_add, ti_sub, ti_mul, Int32.reduceToInt] at *; omega))⟩)⟩

set_option maxHeartbeats 4000000 in
set_option maxRecDepth 100000 in
theorem s_X11_row_n28v {N : Nat} (hN : 1048576 ≤ N) {x1 : Int32} {x2 : Int32} {x3 : Int32} {σ0 : zS}  (hR : RF σ0.2.2) (hNw : σ0.2.2 0 4 = 28) (hPw : σ0.2.2 0 5 = 2) (hC : CF σ0.1) : Ok (f_X11_row N 0 x1 x2 x3 σ0) (fun r => Tr [210, 212, 214, 216] σ0 r.2 ∧ (CF r.2.1 ∧ r.1 = rowV x1 x2 x3 ∧ RWC σ0.1 r.2.1 x1 x2 x3 r.1)) := by
  have hT : Tr [210, 212, 214, 216] σ0 σ0 := Tr.rf
  obtain ⟨hW2, hW28, hW132, hW158, hW184, hL, hD, hu, ht⟩ := hC
  have hn := hW28.1
  have he := hW28.2.1
  have hD0 := hD
  have hL0 := hL
  have q10 := ti_one10 (x := σ0.1 28 0) hn.1 hn.2
  rw [f_X11_row.eq_1]
  refine ok_gC rfl ?_
  refine ok_zbX (Q := fun V => (V = 0 → ¬ (0 ≤ x1.toInt ∧ x1.toInt ≤ 3)) ∧ (¬ V = 0 → 0 ≤ x1.toInt ∧ x1.toInt ≤ 3)) (x_X11_isSlot) (fun v1 hqv1 => ?_)
  refine ok_if (fun hc3 => ?_) (fun hc3 => ?_)
  · have qhc3 := hqv1.1 hc3
    exact ok_some ⟨hT, (show CF σ0.1 ∧ (-2 : Int32) = rowV x1 x2 x3 ∧ RWC σ0.1 σ0.1 x1 x2 x3 (-2 : Int32) from by first | exact ⟨⟨hW2, hW28, hW132, hW158, hW184, hL, hD, hu, ht⟩, by (first | exact (if_neg (by first | omega | (simp only [Int32.le_iff_toInt_le, Int32.lt_iff_toInt_lt, ti_add, ti_sub, ti_mul, Int32.reduceToInt] at *; omega))).symm | exact ((if_pos (by first | omega | (simp only [Int32.le_iff_toInt_le, Int32.lt_iff_toInt_lt, ti_add, ti_sub, ti_mul, Int32.reduceToInt] at *; omega))).trans (if_neg (by first | omega | (simp only [Int32.le_iff_toInt_le, Int32.lt_iff_toInt_lt, ti_add, ti_sub, ti_mul, Int32.reduceToInt] at *; omega)))).symm | exact ((if_pos (by first | omega | (simp only [Int32.le_iff_toInt_le, Int32.lt_iff_toInt_lt, ti_add, ti_sub, ti_mul, Int32.reduceToInt] at *; omega))).trans (if_pos (by first | omega | (simp only [Int32.le_iff_toInt_le, Int32.lt_iff_toInt_lt, ti_add, ti_sub, ti_mul, Int32.reduceToInt] at *; omega)))).symm), RWC_n (fun _ => rfl) (by decide)⟩ | exact ⟨⟨hW2, hW28, hW132, hW158, hW184, hL, hD, hu, ht⟩, by (first | exact (if_neg (by first | omega | (simp only [Int32.le_iff_toInt_le, Int32.lt_iff_toInt_lt, ti_add, ti_sub, ti_mul, Int32.reduceToInt] at *; omega))).symm | exact ((if_pos (by first | omega | (simp only [Int32.le_iff_toInt_le, Int32.lt_iff_toInt_lt, ti_add, ti_sub, ti_mul, Int32.reduceToInt] at *; omega))).trans (if_neg (by first | omega | (simp only [Int32.le_iff_toInt_le, Int32.lt_iff_toInt_lt, ti_add, ti_sub, ti_mul, Int32.reduceToInt] at *; omega)))).symm | exact ((if_pos (by first | omega | (simp only [Int32.le_iff_toInt_le, Int32.lt_iff_toInt_lt, ti_add, ti_sub, ti_mul, Int32.reduceToInt] at *; omega))).trans (if_pos (by first | omega | (simp only [Int32.le_iff_toInt_le, Int32.lt_iff_toInt_lt, ti_add, ti_sub, ti_mul, Int32.reduceToInt] at *; omega)))).symm), RWC_s hqq h41 (by first | omega | (simp only [Int32.le_iff_toInt_le, Int32.lt_iff_toInt_lt, ti_add, ti_sub, ti_mul, Int32.reduceToInt] at *; omega))⟩)⟩
  · have qhc3 := hqv1.2 hc3
    refine ok_if (fun hc4 => ?_) (fun hc4 => ?_)
    · exact ok_some ⟨hT, (show CF σ0.1 ∧ (-2 : Int32) = rowV x1 x2 x3 ∧ RWC σ0.1 σ0.1 x1 x2 x3 (-2 : Int32) from by first | exact ⟨⟨hW2, hW28, hW132, hW158, hW184, hL, hD, hu, ht⟩, by (first | exact (if_neg (by first | omega | (simp only [Int32.le_iff_toInt_le, Int32.lt_iff_toInt_lt, ti_add, ti_sub, ti_mul, Int32.reduceToInt] at *; omega))).symm | exact ((if_pos (by first | omega | (simp only [Int32.le_iff_toInt_le, Int32.lt_iff_toInt_lt, ti_add, ti_sub, ti_mul, Int32.reduceToInt] at *; omega))).trans (if_neg (by first | omega | (simp only [Int32.le_iff_toInt_le, Int32.lt_iff_toInt_lt, ti_add, ti_sub, ti_mul, Int32.reduceToInt] at *; omega)))).symm | exact ((if_pos (by first | omega | (simp only [Int32.le_iff_toInt_le, Int32.lt_iff_toInt_lt, ti_add, ti_sub, ti_mul, Int32.reduceToInt] at *; omega))).trans (if_pos (by first | omega | (simp only [Int32.le_iff_toInt_le, Int32.lt_iff_toInt_lt, ti_add, ti_sub, ti_mul, Int32.reduceToInt] at *; omega)))).symm), RWC_n (fun _ => rfl) (by decide)⟩ | exact ⟨⟨hW2, hW28, hW132, hW158, hW184, hL, hD, hu, ht⟩, by (first | exact (if_neg (by first | omega | (simp only [Int32.le_iff_toInt_le, Int32.lt_iff_toInt_lt, ti_add, ti_sub, ti_mul, Int32.reduceToInt] at *; omega))).symm | exact ((if_pos (by first | omega | (simp only [Int32.le_iff_toInt_le, Int32.lt_iff_toInt_lt, ti_add, ti_sub, ti_mul, Int32.reduceToInt] at *; omega))).trans (if_neg (by first | omega | (simp only [Int32.le_iff_toInt_le, Int32.lt_iff_toInt_lt, ti_add, ti_sub, ti_mul, Int32.reduceToInt] at *; omega)))).symm | exact ((if_pos (by first | omega | (simp only [Int32.le_iff_toInt_le, Int32.lt_iff_toInt_lt, ti_add, ti_sub, ti_mul, Int32.reduceToInt] at *; omega))).trans (if_pos (by first | omega | (simp only [Int32.le_iff_toInt_le, Int32.lt_iff_toInt_lt, ti_add, ti_sub, ti_mul, Int32.reduceToInt] at *; omega)))).symm), RWC_s hqq h41 (by first | omega | (simp only [Int32.le_iff_toInt_le, Int32.lt_iff_toInt_lt, ti_add, ti_sub, ti_mul, Int32.reduceToInt] at *; omega))⟩)⟩
    · refine ok_if (fun hc5 => ?_) (fun hc5 => ?_)
      · exact ok_some ⟨hT, (show CF σ0.1 ∧ (-2 : Int32) = rowV x1 x2 x3 ∧ RWC σ0.1 σ0.1 x1 x2 x3 (-2 : Int32) from by first | exact ⟨⟨hW2, hW28, hW132, hW158, hW184, hL, hD, hu, ht⟩, by (first | exact (if_neg (by first | omega | (simp only [Int32.le_iff_toInt_le, Int32.lt_iff_toInt_lt, ti_add, ti_sub, ti_mul, Int32.reduceToInt] at *; omega))).symm | exact ((if_pos (by first | omega | (simp only [Int32.le_iff_toInt_le, Int32.lt_iff_toInt_lt, ti_add, ti_sub, ti_mul, Int32.reduceToInt] at *; omega))).trans (if_neg (by first | omega | (simp only [Int32.le_iff_toInt_le, Int32.lt_iff_toInt_lt, ti_add, ti_sub, ti_mul, Int32.reduceToInt] at *; omega)))).symm | exact ((if_pos (by first | omega | (simp only [Int32.le_iff_toInt_le, Int32.lt_iff_toInt_lt, ti_add, ti_sub, ti_mul, Int32.reduceToInt] at *; omega))).trans (if_pos (by first | omega | (simp only [Int32.le_iff_toInt_le, Int32.lt_iff_toInt_lt, ti_add, ti_sub, ti_mul, Int32.reduceToInt] at *; omega)))).symm), RWC_n (fun _ => rfl) (by decide)⟩ | exact ⟨⟨hW2, hW28, hW132, hW158, hW184, hL, hD, hu, ht⟩, by (first | exact (if_neg (by first | omega | (simp only [Int32.le_iff_toInt_le, Int32.lt_iff_toInt_lt, ti_add, ti_sub, ti_mul, Int32.reduceToInt] at *; omega))).symm | exact ((if_pos (by first | omega | (simp only [Int32.le_iff_toInt_le, Int32.lt_iff_toInt_lt, ti_add, ti_sub, ti_mul, Int32.reduceToInt] at *; omega))).trans (if_neg (by first | omega | (simp only [Int32.le_iff_toInt_le, Int32.lt_iff_toInt_lt, ti_add, ti_sub, ti_mul, Int32.reduceToInt] at *; omega)))).symm | exact ((if_pos (by first | omega | (simp only [Int32.le_iff_toInt_le, Int32.lt_iff_toInt_lt, ti_add, ti_sub, ti_mul, Int32.reduceToInt] at *; omega))).trans (if_pos (by first | omega | (simp only [Int32.le_iff_toInt_le, Int32.lt_iff_toInt_lt, ti_add, ti_sub, ti_mul, Int32.reduceToInt] at *; omega)))).symm), RWC_s hqq h41 (by first | omega | (simp only [Int32.le_iff_toInt_le, Int32.lt_iff_toInt_lt, ti_add, ti_sub, ti_mul, Int32.reduceToInt] at *; omega))⟩)⟩
      · refine ok_if (fun hc6 => ?_) (fun hc6 => ?_)
        · refine ok_if (fun hc7 => ?_) (fun hc7 => ?_)
          · refine ok_gR (v := 56) hT rfl (hR 0 8 rfl) ?_
            obtain ⟨q10, eq10, kq10⟩ := arrS hR (k := 56) (i := x1) rfl (by first | omega | decide | (have q1 := hD.1; have q2 := hD.2.1; simp only [Int32.le_iff_toInt_le, Int32.lt_iff_toInt_lt, ti_add, ti_sub, ti_mul, Int32.reduceToInt] at *; omega)) (by first | omega | decide | (have q1 := hD.1; have q2 := hD.2.1; simp only [Int32.le_iff_toInt_le, Int32.lt_iff_toInt_lt, ti_add, ti_sub, ti_mul, Int32.reduceToInt] at *; omega))
            refine ok_aR (v := q10) hT rfl (by first | omega | decide | (have q1 := hD.1; have q2 := hD.2.1; simp only [Int32.le_iff_toInt_le, Int32.lt_iff_toInt_lt, ti_add, ti_sub, ti_mul, Int32.reduceToInt] at *; omega)) (by first | omega | decide | (have q1 := hD.1; have q2 := hD.2.1; simp only [Int32.le_iff_toInt_le, Int32.lt_iff_toInt_lt, ti_add, ti_sub, ti_mul, Int32.reduceToInt] at *; omega)) eq10 ?_
            have hqq := slotC hR (x := x1) (by omega) (by omega) eq10
            refine ok_gC kq10 ?_
            refine ok_zbT (Q := fun V σ => SI σ.1 ∧ (σ.1 q10 2 = zmin 60 x3 ∧ σ.1 q10 1 = x2) ∧ ∀ k, k ≠ q10 → σ.1 k = σ0.1 k) hT (s_X9_startv hN (hR.tr hT) kq10 (hL)) (by decide) (fun v11 σ12 hOσ12 hT hqv11 => ?_)
            have hqv11 : SI σ12.1 ∧ (σ12.1 q10 2 = zmin 60 x3 ∧ σ12.1 q10 1 = x2) ∧ ∀ k, k ≠ q10 → σ12.1 k = σ0.1 k := hqv11
            have hW2 : WI 2 σ12.1 := WI.tr hOσ12 (by decide) (by decide) (by decide) hW2
            have hW28 : WI 28 σ12.1 := WI.tr hOσ12 (by decide) (by decide) (by decide) hW28
            have hW132 : WI 132 σ12.1 := WI.tr hOσ12 (by decide) (by decide) (by decide) hW132
            have hW158 : WI 158 σ12.1 := WI.tr hOσ12 (by decide) (by decide) (by decide) hW158
            have hW184 : WI 184 σ12.1 := WI.tr hOσ12 (by decide) (by decide) (by decide) hW184
            have hL : SI σ12.1 := hqv11.1
            have hD : RD σ12.1 := RD.tr hOσ12 (by decide) (by decide) (by decide) (by decide) hD
            have hu : 2 ≤ (σ12.1 111 8).toInt ∧ (σ12.1 111 8).toInt ≤ 1600 := by rw [hOσ12.2 111 (by decide)] <;> exact hu
            have ht : 0 ≤ (σ12.1 0 1).toInt ∧ (σ12.1 0 1).toInt ≤ 600 := by rw [hOσ12.2 0 (by decide)] <;> exact ht
            have h41 := hqv11.2
            exact ok_some ⟨hT, (show CF σ12.1 ∧ (0 : Int32) = rowV x1 x2 x3 ∧ RWC σ0.1 σ12.1 x1 x2 x3 (0 : Int32) from by first | exact ⟨⟨hW2, hW28, hW132, hW158, hW184, hL, hD, hu, ht⟩, by (first | exact (if_neg (by first | omega | (simp only [Int32.le_iff_toInt_le, Int32.lt_iff_toInt_lt, ti_add, ti_sub, ti_mul, Int32.reduceToInt] at *; omega))).symm | exact ((if_pos (by first | omega | (simp only [Int32.le_iff_toInt_le, Int32.lt_iff_toInt_lt, ti_add, ti_sub, ti_mul, Int32.reduceToInt] at *; omega))).trans (if_neg (by first | omega | (simp only [Int32.le_iff_toInt_le, Int32.lt_iff_toInt_lt, ti_add, ti_sub, ti_mul, Int32.reduceToInt] at *; omega)))).symm | exact ((if_pos (by first | omega | (simp only [Int32.le_iff_toInt_le, Int32.lt_iff_toInt_lt, ti_add, ti_sub, ti_mul, Int32.reduceToInt] at *; omega))).trans (if_pos (by first | omega | (simp only [Int32.le_iff_toInt_le, Int32.lt_iff_toInt_lt, ti_add, ti_sub, ti_mul, Int32.reduceToInt] at *; omega)))).symm), RWC_n (fun _ => rfl) (by decide)⟩ | exact ⟨⟨hW2, hW28, hW132, hW158, hW184, hL, hD, hu, ht⟩, by (first | exact (if_neg (by first | omega | (simp only [Int32.le_iff_toInt_le, Int32.lt_iff_toInt_lt, ti_add, ti_sub, ti_mul, Int32.reduceToInt] at *; omega))).symm | exact ((if_pos (by first | omega | (simp only [Int32.le_iff_toInt_le, Int32.lt_iff_toInt_lt, ti_add, ti_sub, ti_mul, Int32.reduceToInt] at *; omega))).trans (if_neg (by first | omega | (simp only [Int32.le_iff_toInt_le, Int32.lt_iff_toInt_lt, ti_add, ti_sub, ti_mul, Int32.reduceToInt] at *; omega)))).symm | exact ((if_pos (by first | omega | (simp only [Int32.le_iff_toInt_le, Int32.lt_iff_toInt_lt, ti_add, ti_sub, ti_mul, Int32.reduceToInt] at *; omega))).trans (if_pos (by first | omega | (simp only [Int32.le_iff_toInt_le, Int32.lt_iff_toInt_lt, ti_add, ti_sub, ti_mul, Int32.reduceToInt] at *; omega)))).symm), RWC_s hqq h41 (by first | omega | (simp only [Int32.le_iff_toInt_le, Int32.lt_iff_toInt_lt, ti_add, ti_sub, ti_mul, Int32.reduceToInt] at *; omega))⟩)⟩
          · exact ok_some ⟨hT, (show CF σ0.1 ∧ (-3 : Int32) = rowV x1 x2 x3 ∧ RWC σ0.1 σ0.1 x1 x2 x3 (-3 : Int32) from by first | exact ⟨⟨hW2, hW28, hW132, hW158, hW184, hL, hD, hu, ht⟩, by (first | exact (if_neg (by first | omega | (simp only [Int32.le_iff_toInt_le, Int32.lt_iff_toInt_lt, ti_add, ti_sub, ti_mul, Int32.reduceToInt] at *; omega))).symm | exact ((if_pos (by first | omega | (simp only [Int32.le_iff_toInt_le, Int32.lt_iff_toInt_lt, ti_add, ti_sub, ti_mul, Int32.reduceToInt] at *; omega))).trans (if_neg (by first | omega | (simp only [Int32.le_iff_toInt_le, Int32.lt_iff_toInt_lt, ti_add, ti_sub, ti_mul, Int32.reduceToInt] at *; omega)))).symm | exact ((if_pos (by first | omega | (simp only [Int32.le_iff_toInt_le, Int32.lt_iff_toInt_lt, ti_add, ti_sub, ti_mul, Int32.reduceToInt] at *; omega))).trans (if_pos (by first | omega | (simp only [Int32.le_iff_toInt_le, Int32.lt_iff_toInt_lt, ti_add, ti_sub, ti_mul, Int32.reduceToInt] at *; omega)))).symm), RWC_n (fun _ => rfl) (by decide)⟩ | exact ⟨⟨hW2, hW28, hW132, hW158, hW184, hL, hD, hu, ht⟩, by (first | exact (if_neg (by first | omega | (simp only [Int32.le_iff_toInt_le, Int32.lt_iff_toInt_lt, ti_add, ti_sub, ti_mul, Int32.reduceToInt] at *; omega))).symm | exact ((if_pos (by first | omega | (simp only [Int32.le_iff_toInt_le, Int32.lt_iff_toInt_lt, ti_add, ti_sub, ti_mul, Int32.reduceToInt] at *; omega))).trans (if_neg (by first | omega | (simp only [Int32.le_iff_toInt_le, Int32.lt_iff_toInt_lt, ti_add, ti_sub, ti_mul, Int32.reduceToInt] at *; omega)))).symm | exact ((if_pos (by first | omega | (simp only [Int32.le_iff_toInt_le, Int32.lt_iff_toInt_lt, ti_add, ti_sub, ti_mul, Int32.reduceToInt] at *; omega))).trans (if_pos (by first | omega | (simp only [Int32.le_iff_toInt_le, Int32.lt_iff_toInt_lt, ti_add, ti_sub, ti_mul, Int32.reduceToInt] at *; omega)))).symm), RWC_s hqq h41 (by first | omega | (simp only [Int32.le_iff_toInt_le, Int32.lt_iff_toInt_lt, ti_add, ti_sub, ti_mul, Int32.reduceToInt] at *; omega))⟩)⟩
        · exact ok_some ⟨hT, (show CF σ0.1 ∧ (-2 : Int32) = rowV x1 x2 x3 ∧ RWC σ0.1 σ0.1 x1 x2 x3 (-2 : Int32) from by first | exact ⟨⟨hW2, hW28, hW132, hW158, hW184, hL, hD, hu, ht⟩, by (first | exact (if_neg (by first | omega | (simp only [Int32.le_iff_toInt_le, Int32.lt_iff_toInt_lt, ti_add, ti_sub, ti_mul, Int32.reduceToInt] at *; omega))).symm | exact ((if_pos (by first | omega | (simp only [Int32.le_iff_toInt_le, Int32.lt_iff_toInt_lt, ti_add, ti_sub, ti_mul, Int32.reduceToInt] at *; omega))).trans (if_neg (by first | omega | (simp only [Int32.le_iff_toInt_le, Int32.lt_iff_toInt_lt, ti_add, ti_sub, ti_mul, Int32.reduceToInt] at *; omega)))).symm | exact ((if_pos (by first | omega | (simp only [Int32.le_iff_toInt_le, Int32.lt_iff_toInt_lt, ti_add, ti_sub, ti_mul, Int32.reduceToInt] at *; omega))).trans (if_pos (by first | omega | (simp only [Int32.le_iff_toInt_le, Int32.lt_iff_toInt_lt, ti_add, ti_sub, ti_mul, Int32.reduceToInt] at *; omega)))).symm), RWC_n (fun _ => rfl) (by decide)⟩ | exact ⟨⟨hW2, hW28, hW132, hW158, hW184, hL, hD, hu, ht⟩, by (first | exact (if_neg (by first | omega | (simp only [Int32.le_iff_toInt_le, Int32.lt_iff_toInt_lt, ti_add, ti_sub, ti_mul, Int32.reduceToInt] at *; omega))).symm | exact ((if_pos (by first | omega | (simp only [Int32.le_iff_toInt_le, Int32.lt_iff_toInt_lt, ti_add, ti_sub, ti_mul, Int32.reduceToInt] at *; omega))).trans (if_neg (by first | omega | (simp only [Int32.le_iff_toInt_le, Int32.lt_iff_toInt_lt, ti_add, ti_sub, ti_mul, Int32.reduceToInt] at *; omega)))).symm | exact ((if_pos (by first | omega | (simp only [Int32.le_iff_toInt_le, Int32.lt_iff_toInt_lt, ti_add, ti_sub, ti_mul, Int32.reduceToInt] at *; omega))).trans (if_pos (by first | omega | (simp only [Int32.le_iff_toInt_le, Int32.lt_iff_toInt_lt, ti_add, ti_sub, ti_mul, Int32.reduceToInt] at *; omega)))).symm), RWC_s hqq h41 (by first | omega | (simp only [Int32.le_iff_toInt_le, Int32.lt_iff_toInt_lt, ti_add, ti_sub, ti_mul, Int32.reduceToInt] at *; omega))⟩)⟩

set_option maxHeartbeats 4000000 in
set_option maxRecDepth 100000 in
theorem s_X12_row_v {N : Nat} (hN : 1048576 ≤ N) {x1 : Int32} {x2 : Int32} {x3 : Int32} {σ0 : zS}  (hR : RF σ0.2.2) (hS : MS (σ0.1 239)) : Ok (f_X12_row N 218 x1 x2 x3 σ0) (fun r => Tr [239, 240] σ0 r.2 ∧ (MS (r.2.1 239) ∧ r.1 = rowV x1 x2 x3 ∧ RWR σ0.1 r.2.1 x1 x2 x3 r.1)) := by
  have hT : Tr [239, 240] σ0 σ0 := Tr.rf
  rw [f_X12_row.eq_1]
  refine ok_zbX (Q := fun V => (V = 0 → ¬ (0 ≤ x1.toInt ∧ x1.toInt ≤ 3)) ∧ (¬ V = 0 → 0 ≤ x1.toInt ∧ x1.toInt ≤ 3)) (x_X12_isSlot) (fun v1 hqv1 => ?_)
  refine ok_if (fun hc3 => ?_) (fun hc3 => ?_)
  · have qhc3 := hqv1.1 hc3
    exact ok_some ⟨hT, (show MS (σ0.1 239) ∧ (-2 : Int32) = rowV x1 x2 x3 ∧ RWR σ0.1 σ0.1 x1 x2 x3 (-2 : Int32) from by first | exact ⟨hS, by (first | exact (if_neg (by first | omega | (simp only [Int32.le_iff_toInt_le, Int32.lt_iff_toInt_lt, ti_add, ti_sub, ti_mul, Int32.reduceToInt] at *; omega))).symm | exact ((if_pos (by first | omega | (simp only [Int32.le_iff_toInt_le, Int32.lt_iff_toInt_lt, ti_add, ti_sub, ti_mul, Int32.reduceToInt] at *; omega))).trans (if_neg (by first | omega | (simp only [Int32.le_iff_toInt_le, Int32.lt_iff_toInt_lt, ti_add, ti_sub, ti_mul, Int32.reduceToInt] at *; omega)))).symm | exact ((if_pos (by first | omega | (simp only [Int32.le_iff_toInt_le, Int32.lt_iff_toInt_lt, ti_add, ti_sub, ti_mul, Int32.reduceToInt] at *; omega))).trans (if_pos (by first | omega | (simp only [Int32.le_iff_toInt_le, Int32.lt_iff_toInt_lt, ti_add, ti_sub, ti_mul, Int32.reduceToInt] at *; omega)))).symm), RWR_n (fun _ => rfl) (by decide)⟩ | exact ⟨hS, by (first | exact (if_neg (by first | omega | (simp only [Int32.le_iff_toInt_le, Int32.lt_iff_toInt_lt, ti_add, ti_sub, ti_mul, Int32.reduceToInt] at *; omega))).symm | exact ((if_pos (by first | omega | (simp only [Int32.le_iff_toInt_le, Int32.lt_iff_toInt_lt, ti_add, ti_sub, ti_mul, Int32.reduceToInt] at *; omega))).trans (if_neg (by first | omega | (simp only [Int32.le_iff_toInt_le, Int32.lt_iff_toInt_lt, ti_add, ti_sub, ti_mul, Int32.reduceToInt] at *; omega)))).symm | exact ((if_pos (by first | omega | (simp only [Int32.le_iff_toInt_le, Int32.lt_iff_toInt_lt, ti_add, ti_sub, ti_mul, Int32.reduceToInt] at *; omega))).trans (if_pos (by first | omega | (simp only [Int32.le_iff_toInt_le, Int32.lt_iff_toInt_lt, ti_add, ti_sub, ti_mul, Int32.reduceToInt] at *; omega)))).symm), RWR_s (i := x1.toNatClampNeg) rfl (fun s => (congrFun rfl s).trans (u41 s)) (fun s => (congrFun rfl s).trans (u48 s))⟩)⟩
  · have qhc3 := hqv1.2 hc3
    refine ok_zbX (Q := fun V => (V = 0 → ¬ ((0 : Int64).toInt ≤ (Int32.toInt64 x2).toInt ∧ (Int32.toInt64 x2).toInt ≤ (3 : Int64).toInt)) ∧ (¬ V = 0 → (0 : Int64).toInt ≤ (Int32.toInt64 x2).toInt ∧ (Int32.toInt64 x2).toInt ≤ (3 : Int64).toInt)) (xi_X12_in) (fun v4 hqv4 => ?_)
    simp only [i64_of, Int64.reduceToInt] at hqv4
    refine ok_if (fun hc6 => ?_) (fun hc6 => ?_)
    · have qhc6 := hqv4.1 hc6
      exact ok_some ⟨hT, (show MS (σ0.1 239) ∧ (-2 : Int32) = rowV x1 x2 x3 ∧ RWR σ0.1 σ0.1 x1 x2 x3 (-2 : Int32) from by first | exact ⟨hS, by (first | exact (if_neg (by first | omega | (simp only [Int32.le_iff_toInt_le, Int32.lt_iff_toInt_lt, ti_add, ti_sub, ti_mul, Int32.reduceToInt] at *; omega))).symm | exact ((if_pos (by first | omega | (simp only [Int32.le_iff_toInt_le, Int32.lt_iff_toInt_lt, ti_add, ti_sub, ti_mul, Int32.reduceToInt] at *; omega))).trans (if_neg (by first | omega | (simp only [Int32.le_iff_toInt_le, Int32.lt_iff_toInt_lt, ti_add, ti_sub, ti_mul, Int32.reduceToInt] at *; omega)))).symm | exact ((if_pos (by first | omega | (simp only [Int32.le_iff_toInt_le, Int32.lt_iff_toInt_lt, ti_add, ti_sub, ti_mul, Int32.reduceToInt] at *; omega))).trans (if_pos (by first | omega | (simp only [Int32.le_iff_toInt_le, Int32.lt_iff_toInt_lt, ti_add, ti_sub, ti_mul, Int32.reduceToInt] at *; omega)))).symm), RWR_n (fun _ => rfl) (by decide)⟩ | exact ⟨hS, by (first | exact (if_neg (by first | omega | (simp only [Int32.le_iff_toInt_le, Int32.lt_iff_toInt_lt, ti_add, ti_sub, ti_mul, Int32.reduceToInt] at *; omega))).symm | exact ((if_pos (by first | omega | (simp only [Int32.le_iff_toInt_le, Int32.lt_iff_toInt_lt, ti_add, ti_sub, ti_mul, Int32.reduceToInt] at *; omega))).trans (if_neg (by first | omega | (simp only [Int32.le_iff_toInt_le, Int32.lt_iff_toInt_lt, ti_add, ti_sub, ti_mul, Int32.reduceToInt] at *; omega)))).symm | exact ((if_pos (by first | omega | (simp only [Int32.le_iff_toInt_le, Int32.lt_iff_toInt_lt, ti_add, ti_sub, ti_mul, Int32.reduceToInt] at *; omega))).trans (if_pos (by first | omega | (simp only [Int32.le_iff_toInt_le, Int32.lt_iff_toInt_lt, ti_add, ti_sub, ti_mul, Int32.reduceToInt] at *; omega)))).symm), RWR_s (i := x1.toNatClampNeg) rfl (fun s => (congrFun rfl s).trans (u41 s)) (fun s => (congrFun rfl s).trans (u48 s))⟩)⟩
    · have qhc6 := hqv4.2 hc6
      refine ok_if (fun hc7 => ?_) (fun hc7 => ?_)
      · refine ok_if (fun hc8 => ?_) (fun hc8 => ?_)
        · refine ok_gR (v := 239) hT rfl (hR 218 35 rfl) ?_
          refine ok_s14 hT rfl (by decide) (by first | omega | decide | (simp only [Int32.le_iff_toInt_le, Int32.lt_iff_toInt_lt, ti_add, ti_sub, ti_mul, Int32.reduceToInt] at *; omega)) (by first | omega | decide | (simp only [Int32.le_iff_toInt_le, Int32.lt_iff_toInt_lt, ti_add, ti_sub, ti_mul, Int32.reduceToInt] at *; omega)) (fun σ10 eσ10 hOσ10 hT => ?_)
          have u41 := upd_at eσ10 rfl
          have r240_σ10 : σ10.1 240 = σ0.1 240 := hOσ10.2 240 (by decide)
          have hS : MS (σ10.1 239) := MS_w eσ10 (by first | omega | (simp only [Int32.le_iff_toInt_le, Int32.lt_iff_toInt_lt, ti_add, ti_sub, ti_mul, Int32.reduceToInt] at *; omega)) (by first | omega | (simp only [Int32.le_iff_toInt_le, Int32.lt_iff_toInt_lt, ti_add, ti_sub, ti_mul, Int32.reduceToInt] at *; omega)) hS
          refine ok_gR (v := 240) hT rfl (hR 218 36 rfl) ?_
          refine ok_s14 hT rfl (by decide) (by first | omega | decide | (simp only [Int32.le_iff_toInt_le, Int32.lt_iff_toInt_lt, ti_add, ti_sub, ti_mul, Int32.reduceToInt] at *; omega)) (by first | omega | decide | (simp only [Int32.le_iff_toInt_le, Int32.lt_iff_toInt_lt, ti_add, ti_sub, ti_mul, Int32.reduceToInt] at *; omega)) (fun σ12 eσ12 hOσ12 hT => ?_)
          have u48 := upd_at eσ12 r240_σ10
          have r239_σ12 : σ12.1 239 = σ10.1 239 := hOσ12.2 239 (by decide)
          have hS : MS (σ12.1 239) := by rw [hOσ12.2 239 (by decide)]; exact hS
          refine ok_lp (fun t : Int32 × zS => Tr [239, 240] σ0 (t.2) ∧ (0 ≤ (t.1).toInt) ∧ (MS ((t.2).1 239)) ∧ ((t.2).1 239 = σ10.1 239) ∧ ((t.2).1 240 = σ12.1 240)) (fun t : Int32 × zS => (60 - (t.1).toInt).toNat) (fun again13 t hI ih52_13 => ?_) N _ (show Tr [239, 240] σ0 σ12 ∧ (0 ≤ (0 : Int32).toInt) ∧ (MS (σ12.1 239)) ∧ (σ12.1 239 = σ10.1 239) ∧ (σ12.1 240 = σ12.1 240) from ⟨hT, (by first | omega | decide | (simp only [Int32.le_iff_toInt_le, Int32.lt_iff_toInt_lt, ti_add, ti_sub, ti_mul, Int32.reduceToInt] at *; omega)), hS, r239_σ12, rfl⟩) (show (60 - (0 : Int32).toInt).toNat < N from (by first | omega | decide | (simp only [Int32.le_iff_toInt_le, Int32.lt_iff_toInt_lt, ti_add, ti_sub, ti_mul, Int32.reduceToInt] at *; omega)))
          obtain ⟨x4_13, σ13⟩ := t
          have hI : Tr [239, 240] σ0 σ13 ∧ (0 ≤ x4_13.toInt) ∧ (MS (σ13.1 239)) ∧ (σ13.1 239 = σ10.1 239) ∧ (σ13.1 240 = σ12.1 240) := hI
          obtain ⟨hT, hI13, hS, r239_σ13, r240_σ13⟩ := hI
          rw [F_X12_row_52.eq_1]
          refine ok_if (fun hc14 => ?_) (fun hc14 => ?_)
          · exact ok_some ⟨hT, (show MS (σ13.1 239) ∧ (0 : Int32) = rowV x1 x2 x3 ∧ RWR σ0.1 σ13.1 x1 x2 x3 (0 : Int32) from by first | exact ⟨hS, by (first | exact (if_neg (by first | omega | (simp only [Int32.le_iff_toInt_le, Int32.lt_iff_toInt_lt, ti_add, ti_sub, ti_mul, Int32.reduceToInt] at *; omega))).symm | exact ((if_pos (by first | omega | (simp only [Int32.le_iff_toInt_le, Int32.lt_iff_toInt_lt, ti_add, ti_sub, ti_mul, Int32.reduceToInt] at *; omega))).trans (if_neg (by first | omega | (simp only [Int32.le_iff_toInt_le, Int32.lt_iff_toInt_lt, ti_add, ti_sub, ti_mul, Int32.reduceToInt] at *; omega)))).symm | exact ((if_pos (by first | omega | (simp only [Int32.le_iff_toInt_le, Int32.lt_iff_toInt_lt, ti_add, ti_sub, ti_mul, Int32.reduceToInt] at *; omega))).trans (if_pos (by first | omega | (simp only [Int32.le_iff_toInt_le, Int32.lt_iff_toInt_lt, ti_add, ti_sub, ti_mul, Int32.reduceToInt] at *; omega)))).symm), RWR_n (fun _ => rfl) (by decide)⟩ | exact ⟨hS, by (first | exact (if_neg (by first | omega | (simp only [Int32.le_iff_toInt_le, Int32.lt_iff_toInt_lt, ti_add, ti_sub, ti_mul, Int32.reduceToInt] at *; omega))).symm | exact ((if_pos (by first | omega | (simp only [Int32.le_iff_toInt_le, Int32.lt_iff_toInt_lt, ti_add, ti_sub, ti_mul, Int32.reduceToInt] at *; omega))).trans (if_neg (by first | omega | (simp only [Int32.le_iff_toInt_le, Int32.lt_iff_toInt_lt, ti_add, ti_sub, ti_mul, Int32.reduceToInt] at *; omega)))).symm | exact ((if_pos (by first | omega | (simp only [Int32.le_iff_toInt_le, Int32.lt_iff_toInt_lt, ti_add, ti_sub, ti_mul, Int32.reduceToInt] at *; omega))).trans (if_pos (by first | omega | (simp only [Int32.le_iff_toInt_le, Int32.lt_iff_toInt_lt, ti_add, ti_sub, ti_mul, Int32.reduceToInt] at *; omega)))).symm), RWR_s (i := x1.toNatClampNeg) rfl (fun s => (congrFun r239_σ13 s).trans (u41 s)) (fun s => (congrFun r240_σ13 s).trans (u48 s))⟩)⟩
          · have m9 := ix60 (x := x1) (y := x4_13) (by first | omega | (simp only [Int32.le_iff_toInt_le, Int32.lt_iff_toInt_lt, ti_add, ti_sub, ti_mul, Int32.reduceToInt] at *; omega)) (by first | omega | (simp only [Int32.le_iff_toInt_le, Int32.lt_iff_toInt_lt, ti_add, ti_sub, ti_mul, Int32.reduceToInt] at *; omega)) (by first | omega | (simp only [Int32.le_iff_toInt_le, Int32.lt_iff_toInt_lt, ti_add, ti_sub, ti_mul, Int32.reduceToInt] at *; omega)) (by first | omega | (simp only [Int32.le_iff_toInt_le, Int32.lt_iff_toInt_lt, ti_add, ti_sub, ti_mul, Int32.reduceToInt] at *; omega))
            refine ok_gR (v := 241) hT rfl (hR 218 37 rfl) ?_
            refine ok_sJ hT rfl (by first | omega | decide | (simp only [Int32.le_iff_toInt_le, Int32.lt_iff_toInt_lt, ti_add, ti_sub, ti_mul, Int32.reduceToInt] at *; omega)) (by first | omega | decide | (simp only [Int32.le_iff_toInt_le, Int32.lt_iff_toInt_lt, ti_add, ti_sub, ti_mul, Int32.reduceToInt] at *; omega)) (fun σ16 eσ16 hOσ16 hT => ?_)
            have r239_σ16 : σ16.1 239 = σ10.1 239 := (hOσ16.2 239 (by decide)).trans r239_σ13
            have r240_σ16 : σ16.1 240 = σ12.1 240 := (hOσ16.2 240 (by decide)).trans r240_σ13
            have hS : MS (σ16.1 239) := by rw [hOσ16.2 239 (by decide)]; exact hS
            exact ih52_13 (x4_13 + 1, σ16) (show Tr [239, 240] σ0 σ16 ∧ (0 ≤ (x4_13 + 1).toInt) ∧ (MS (σ16.1 239)) ∧ (σ16.1 239 = σ10.1 239) ∧ (σ16.1 240 = σ12.1 240) from ⟨hT, (by first | omega | decide | (simp only [Int32.le_iff_toInt_le, Int32.lt_iff_toInt_lt, ti_add, ti_sub, ti_mul, Int32.reduceToInt] at *; omega)), hS, r239_σ16, r240_σ16⟩) (show (60 - (x4_13 + 1).toInt).toNat < (60 - x4_13.toInt).toNat from (by first | omega | decide | (simp only [Int32.le_iff_toInt_le, Int32.lt_iff_toInt_lt, ti_add, ti_sub, ti_mul, Int32.reduceToInt] at *; omega)))
        · exact ok_some ⟨hT, (show MS (σ0.1 239) ∧ (-3 : Int32) = rowV x1 x2 x3 ∧ RWR σ0.1 σ0.1 x1 x2 x3 (-3 : Int32) from by first | exact ⟨hS, by (first | exact (if_neg (by first | omega | (simp only [Int32.le_iff_toInt_le, Int32.lt_iff_toInt_lt, ti_add, ti_sub, ti_mul, Int32.reduceToInt] at *; omega))).symm | exact ((if_pos (by first | omega | (simp only [Int32.le_iff_toInt_le, Int32.lt_iff_toInt_lt, ti_add, ti_sub, ti_mul, Int32.reduceToInt] at *; omega))).trans (if_neg (by first | omega | (simp only [Int32.le_iff_toInt_le, Int32.lt_iff_toInt_lt, ti_add, ti_sub, ti_mul, Int32.reduceToInt] at *; omega)))).symm | exact ((if_pos (by first | omega | (simp only [Int32.le_iff_toInt_le, Int32.lt_iff_toInt_lt, ti_add, ti_sub, ti_mul, Int32.reduceToInt] at *; omega))).trans (if_pos (by first | omega | (simp only [Int32.le_iff_toInt_le, Int32.lt_iff_toInt_lt, ti_add, ti_sub, ti_mul, Int32.reduceToInt] at *; omega)))).symm), RWR_n (fun _ => rfl) (by decide)⟩ | exact ⟨hS, by (first | exact (if_neg (by first | omega | (simp only [Int32.le_iff_toInt_le, Int32.lt_iff_toInt_lt, ti_add, ti_sub, ti_mul, Int32.reduceToInt] at *; omega))).symm | exact ((if_pos (by first | omega | (simp only [Int32.le_iff_toInt_le, Int32.lt_iff_toInt_lt, ti_add, ti_sub, ti_mul, Int32.reduceToInt] at *; omega))).trans (if_neg (by first | omega | (simp only [Int32.le_iff_toInt_le, Int32.lt_iff_toInt_lt, ti_add, ti_sub, ti_mul, Int32.reduceToInt] at *; omega)))).symm | exact ((if_pos (by first | omega | (simp only [Int32.le_iff_toInt_le, Int32.lt_iff_toInt_lt, ti_add, ti_sub, ti_mul, Int32.reduceToInt] at *; omega))).trans (if_pos (by first | omega | (simp only [Int32.le_iff_toInt_le, Int32.lt_iff_toInt_lt, ti_add, ti_sub, ti_mul, Int32.reduceToInt] at *; omega)))).symm), RWR_s (i := x1.toNatClampNeg) rfl (fun s => (congrFun rfl s).trans (u41 s)) (fun s => (congrFun rfl s).trans (u48 s))⟩)⟩
      · exact ok_some ⟨hT, (show MS (σ0.1 239) ∧ (-2 : Int32) = rowV x1 x2 x3 ∧ RWR σ0.1 σ0.1 x1 x2 x3 (-2 : Int32) from by first | exact ⟨hS, by (first | exact (if_neg (by first | omega | (simp only [Int32.le_iff_toInt_le, Int32.lt_iff_toInt_lt, ti_add, ti_sub, ti_mul, Int32.reduceToInt] at *; omega))).symm | exact ((if_pos (by first | omega | (simp only [Int32.le_iff_toInt_le, Int32.lt_iff_toInt_lt, ti_add, ti_sub, ti_mul, Int32.reduceToInt] at *; omega))).trans (if_neg (by first | omega | (simp only [Int32.le_iff_toInt_le, Int32.lt_iff_toInt_lt, ti_add, ti_sub, ti_mul, Int32.reduceToInt] at *; omega)))).symm | exact ((if_pos (by first | omega | (simp only [Int32.le_iff_toInt_le, Int32.lt_iff_toInt_lt, ti_add, ti_sub, ti_mul, Int32.reduceToInt] at *; omega))).trans (if_pos (by first | omega | (simp only [Int32.le_iff_toInt_le, Int32.lt_iff_toInt_lt, ti_add, ti_sub, ti_mul, Int32.reduceToInt] at *; omega)))).symm), RWR_n (fun _ => rfl) (by decide)⟩ | exact ⟨hS, by (first | exact (if_neg (by first | omega | (simp only [Int32.le_iff_toInt_le, Int32.lt_iff_toInt_lt, ti_add, ti_sub, ti_mul, Int32.reduceToInt] at *; omega))).symm | exact ((if_pos (by first | omega | (simp only [Int32.le_iff_toInt_le, Int32.lt_iff_toInt_lt, ti_add, ti_sub, ti_mul, Int32.reduceToInt] at *; omega))).trans (if_neg (by first | omega | (simp only [Int32.le_iff_toInt_le, Int32.lt_iff_toInt_lt, ti_add, ti_sub, ti_mul, Int32.reduceToInt] at *; omega)))).symm | exact ((if_pos (by first | omega | (simp only [Int32.le_iff_toInt_le, Int32.lt_iff_toInt_lt, ti_add, ti_sub, ti_mul, Int32.reduceToInt] at *; omega))).trans (if_pos (by first | omega | (simp only [Int32.le_iff_toInt_le, Int32.lt_iff_toInt_lt, ti_add, ti_sub, ti_mul, Int32.reduceToInt] at *; omega)))).symm), RWR_s (i := x1.toNatClampNeg) rfl (fun s => (congrFun rfl s).trans (u41 s)) (fun s => (congrFun rfl s).trans (u48 s))⟩)⟩

theorem x_X9_isBare {N q : Nat} {σ : zS} (hq : (zKd q).1 = 9) : Ok (f_X9_isBare N q σ) (fun r => r.2 = σ ∧ ((r.1 = 0 → 0 ≤ (σ.1 q 2).toInt) ∧ (¬ r.1 = 0 → (σ.1 q 2).toInt < 0))) := by
  rw [f_X9_isBare.eq_1]
  refine ok_gI hq ?_
  refine ok_if (fun h => ok_rZ (Or.inl rfl) ⟨rfl, fun _ => ?_, fun q => absurd rfl q⟩) (fun h => ok_rZ (Or.inr rfl) ⟨rfl, fun q => absurd (show (1 : Int32) = 0 from q) (by decide), fun _ => ?_⟩)
  · rw [Int32.le_iff_toInt_le] at h; simpa using h
  · rw [Int32.le_iff_toInt_le] at h; simp only [Int32.reduceToInt] at h; omega
theorem spans_no {a b c : Int32} (h0 : 0 ≤ a.toInt) (h1 : 0 ≤ b.toInt) (h : 0 < lg_cmp (Int32.toInt64 a + Int32.toInt64 b) (Int32.toInt64 c)) : c.toInt < a.toInt + b.toInt := by
  rw [zcmp_gt, Int64.toInt_add, i64_of, i64_of, i64_of] at h
  have ha := ti_hi a
  have hb := ti_hi b
  have e : (a.toInt + b.toInt).bmod (2 ^ 64) = a.toInt + b.toInt := Int.bmod_eq_of_le (by omega) (by omega)
  rw [e] at h
  exact h
theorem x_X9_spans {N q : Nat} {x1 x2 : Int32} {σ : zS} (hq : (zKd q).1 = 9) : Ok (f_X9_spans N q x1 x2 σ) (fun r => r.2 = σ ∧ ((r.1 = 0 → ¬ (0 ≤ x1.toInt ∧ 0 ≤ x2.toInt ∧ x1.toInt + x2.toInt ≤ (σ.1 q 2).toInt)) ∧ (¬ r.1 = 0 → 0 ≤ x1.toInt ∧ 0 ≤ x2.toInt ∧ x1.toInt + x2.toInt ≤ (σ.1 q 2).toInt))) := by
  rw [f_X9_spans.eq_1]
  refine ok_if (fun h => ok_rZ (Or.inl rfl) ⟨rfl, fun _ => ?_, fun q => absurd rfl q⟩) (fun h => ok_if (fun h2 => ok_rZ (Or.inl rfl) ⟨rfl, fun _ => ?_, fun q => absurd rfl q⟩) (fun h2 => ?_))
  · rw [Int32.lt_iff_toInt_lt] at h; simp only [Int32.reduceToInt] at h; omega
  · rw [Int32.lt_iff_toInt_lt] at h2; simp only [Int32.reduceToInt] at h2; omega
  · rw [Int32.lt_iff_toInt_lt] at h h2
    simp only [Int32.reduceToInt] at h h2
    refine ok_gI hq ?_
    refine ok_if (fun h3 => ok_rZ (Or.inl rfl) ⟨rfl, fun _ => ?_, fun q => absurd rfl q⟩) (fun h3 => ok_rZ (Or.inr rfl) ⟨rfl, fun q => absurd (show (1 : Int32) = 0 from q) (by decide), fun _ => ?_⟩)
    · have := spans_no (by omega) (by omega) h3; omega
    · have := spans_ok (by omega) (by omega) h3; omega

set_option maxHeartbeats 4000000 in
set_option maxRecDepth 100000 in
theorem s_X11_feed_n2v {N : Nat} (hN : 1048576 ≤ N) {x1 : Int32} {x2 : Int32} {x3 : Int32} {x4 : Int32} {x5 : Int32} {σ0 : zS}  (hR : RF σ0.2.2) (hNw : σ0.2.2 0 4 = 2) (hPw : σ0.2.2 0 5 = 28) (hC : CF σ0.1) : Ok (f_X11_feed N 0 x1 x2 x3 x4 x5 σ0) (fun r => Tr [0, 1] σ0 r.2 ∧ (CF r.2.1 ∧ r.1 = fdV (σ0.1 0 1) ∧ r.2.1 0 1 = fdT (σ0.1 0 1))) := by
  have hT : Tr [0, 1] σ0 σ0 := Tr.rf
  obtain ⟨hW2, hW28, hW132, hW158, hW184, hL, hD, hu, ht⟩ := hC
  have hn := hW2.1
  have he := hW2.2.1
  have hD0 := hD
  have hL0 := hL
  have q10 := ti_one10 (x := σ0.1 2 0) hn.1 hn.2
  have h01 : σ0.1 0 1 = σ0.1 0 1 := rfl
  have t0 := ht
  rw [f_X11_feed.eq_1]
  refine ok_gIv rfl h01 ?_
  refine ok_if (fun hc2 => ?_) (fun hc2 => ?_)
  · exact ok_some ⟨hT, (show CF σ0.1 ∧ (-1 : Int32) = fdV (σ0.1 0 1) ∧ σ0.1 0 1 = fdT (σ0.1 0 1) from by first | exact ⟨⟨hW2, hW28, hW132, hW158, hW184, hL, hD, hu, ht⟩, (if_neg (by first | omega | (simp only [Int32.le_iff_toInt_le, Int32.lt_iff_toInt_lt, ti_add, ti_sub, ti_mul, Int32.reduceToInt] at *; omega))).symm, h01.trans (if_neg (by first | omega | (simp only [Int32.le_iff_toInt_le, Int32.lt_iff_toInt_lt, ti_add, ti_sub, ti_mul, Int32.reduceToInt] at *; omega))).symm⟩ | exact ⟨⟨hW2, hW28, hW132, hW158, hW184, hL, hD, hu, ht⟩, a88.trans (if_pos (by first | omega | (simp only [Int32.le_iff_toInt_le, Int32.lt_iff_toInt_lt, ti_add, ti_sub, ti_mul, Int32.reduceToInt] at *; omega))).symm, a88.trans (if_pos (by first | omega | (simp only [Int32.le_iff_toInt_le, Int32.lt_iff_toInt_lt, ti_add, ti_sub, ti_mul, Int32.reduceToInt] at *; omega))).symm⟩)⟩
  · refine ok_gIv rfl h01 ?_
    refine ok_if (fun hc4 => ?_) (fun hc4 => ?_)
    · refine ok_gIv rfl h01 ?_
      refine ok_gC rfl ?_
      refine ok_zbT (Q := fun V σ => True) hT (s_X11_tapeNumber hN (hR.tr hT) (by first | omega | decide | (have q1 := hD.1; have q2 := hD.2.1; simp only [Int32.le_iff_toInt_le, Int32.lt_iff_toInt_lt, ti_add, ti_sub, ti_mul, Int32.reduceToInt] at *; omega))) (by decide) (fun v6 σ7 hOσ7 hT hqv6 => ?_)
      have hW2 : WI 2 σ7.1 := WI.tr hOσ7 (by decide) (by decide) (by decide) hW2
      have hW28 : WI 28 σ7.1 := WI.tr hOσ7 (by decide) (by decide) (by decide) hW28
      have hW132 : WI 132 σ7.1 := WI.tr hOσ7 (by decide) (by decide) (by decide) hW132
      have hW158 : WI 158 σ7.1 := WI.tr hOσ7 (by decide) (by decide) (by decide) hW158
      have hW184 : WI 184 σ7.1 := WI.tr hOσ7 (by decide) (by decide) (by decide) hW184
      have hL : SI σ7.1 := SI.tr hOσ7 (by decide) (by decide) (by decide) (by decide) hL
      have hD : RD σ7.1 := RD.tr hOσ7 (by decide) (by decide) (by decide) (by decide) hD
      have hu : 2 ≤ (σ7.1 111 8).toInt ∧ (σ7.1 111 8).toInt ≤ 1600 := by rw [hOσ7.2 111 (by decide)] <;> exact hu
      have ht : 0 ≤ (σ7.1 0 1).toInt ∧ (σ7.1 0 1).toInt ≤ 600 := by rw [hOσ7.2 0 (by decide)] <;> exact ht
      have h01 : σ7.1 0 1 = σ0.1 0 1 := by rw [hOσ7.2 0 (by decide)] <;> exact h01
      refine ok_gIv rfl h01 ?_
      refine ok_gC rfl ?_
      refine ok_zbT (Q := fun V σ => True) hT (s_X11_tapeNumber hN (hR.tr hT) (by first | omega | decide | (have q1 := hD.1; have q2 := hD.2.1; simp only [Int32.le_iff_toInt_le, Int32.lt_iff_toInt_lt, ti_add, ti_sub, ti_mul, Int32.reduceToInt] at *; omega))) (by decide) (fun v9 σ10 hOσ10 hT hqv9 => ?_)
      have hW2 : WI 2 σ10.1 := WI.tr hOσ10 (by decide) (by decide) (by decide) hW2
      have hW28 : WI 28 σ10.1 := WI.tr hOσ10 (by decide) (by decide) (by decide) hW28
      have hW132 : WI 132 σ10.1 := WI.tr hOσ10 (by decide) (by decide) (by decide) hW132
      have hW158 : WI 158 σ10.1 := WI.tr hOσ10 (by decide) (by decide) (by decide) hW158
      have hW184 : WI 184 σ10.1 := WI.tr hOσ10 (by decide) (by decide) (by decide) hW184
      have hL : SI σ10.1 := SI.tr hOσ10 (by decide) (by decide) (by decide) (by decide) hL
      have hD : RD σ10.1 := RD.tr hOσ10 (by decide) (by decide) (by decide) (by decide) hD
      have hu : 2 ≤ (σ10.1 111 8).toInt ∧ (σ10.1 111 8).toInt ≤ 1600 := by rw [hOσ10.2 111 (by decide)] <;> exact hu
      have ht : 0 ≤ (σ10.1 0 1).toInt ∧ (σ10.1 0 1).toInt ≤ 600 := by rw [hOσ10.2 0 (by decide)] <;> exact ht
      have h01 : σ10.1 0 1 = σ0.1 0 1 := by rw [hOσ10.2 0 (by decide)] <;> exact h01
      refine ok_gIv rfl h01 ?_
      refine ok_gC rfl ?_
      refine ok_zbT (Q := fun V σ => True) hT (s_X11_tapeNumber hN (hR.tr hT) (by first | omega | decide | (have q1 := hD.1; have q2 := hD.2.1; simp only [Int32.le_iff_toInt_le, Int32.lt_iff_toInt_lt, ti_add, ti_sub, ti_mul, Int32.reduceToInt] at *; omega))) (by decide) (fun v12 σ13 hOσ13 hT hqv12 => ?_)
      have hW2 : WI 2 σ13.1 := WI.tr hOσ13 (by decide) (by decide) (by decide) hW2
      have hW28 : WI 28 σ13.1 := WI.tr hOσ13 (by decide) (by decide) (by decide) hW28
      have hW132 : WI 132 σ13.1 := WI.tr hOσ13 (by decide) (by decide) (by decide) hW132
      have hW158 : WI 158 σ13.1 := WI.tr hOσ13 (by decide) (by decide) (by decide) hW158
      have hW184 : WI 184 σ13.1 := WI.tr hOσ13 (by decide) (by decide) (by decide) hW184
      have hL : SI σ13.1 := SI.tr hOσ13 (by decide) (by decide) (by decide) (by decide) hL
      have hD : RD σ13.1 := RD.tr hOσ13 (by decide) (by decide) (by decide) (by decide) hD
      have hu : 2 ≤ (σ13.1 111 8).toInt ∧ (σ13.1 111 8).toInt ≤ 1600 := by rw [hOσ13.2 111 (by decide)] <;> exact hu
      have ht : 0 ≤ (σ13.1 0 1).toInt ∧ (σ13.1 0 1).toInt ≤ 600 := by rw [hOσ13.2 0 (by decide)] <;> exact ht
      have h01 : σ13.1 0 1 = σ0.1 0 1 := by rw [hOσ13.2 0 (by decide)] <;> exact h01
      refine ok_gIv rfl h01 ?_
      refine ok_gC rfl ?_
      refine ok_zbT (Q := fun V σ => True) hT (s_X11_tapeNumber hN (hR.tr hT) (by first | omega | decide | (have q1 := hD.1; have q2 := hD.2.1; simp only [Int32.le_iff_toInt_le, Int32.lt_iff_toInt_lt, ti_add, ti_sub, ti_mul, Int32.reduceToInt] at *; omega))) (by decide) (fun v15 σ16 hOσ16 hT hqv15 => ?_)
      have hW2 : WI 2 σ16.1 := WI.tr hOσ16 (by decide) (by decide) (by decide) hW2
      have hW28 : WI 28 σ16.1 := WI.tr hOσ16 (by decide) (by decide) (by decide) hW28
      have hW132 : WI 132 σ16.1 := WI.tr hOσ16 (by decide) (by decide) (by decide) hW132
      have hW158 : WI 158 σ16.1 := WI.tr hOσ16 (by decide) (by decide) (by decide) hW158
      have hW184 : WI 184 σ16.1 := WI.tr hOσ16 (by decide) (by decide) (by decide) hW184
      have hL : SI σ16.1 := SI.tr hOσ16 (by decide) (by decide) (by decide) (by decide) hL
      have hD : RD σ16.1 := RD.tr hOσ16 (by decide) (by decide) (by decide) (by decide) hD
      have hu : 2 ≤ (σ16.1 111 8).toInt ∧ (σ16.1 111 8).toInt ≤ 1600 := by rw [hOσ16.2 111 (by decide)] <;> exact hu
      have ht : 0 ≤ (σ16.1 0 1).toInt ∧ (σ16.1 0 1).toInt ≤ 600 := by rw [hOσ16.2 0 (by decide)] <;> exact ht
      have h01 : σ16.1 0 1 = σ0.1 0 1 := by rw [hOσ16.2 0 (by decide)] <;> exact h01
      refine ok_gIv rfl h01 ?_
      refine ok_gC rfl ?_
      refine ok_zbT (Q := fun V σ => True) hT (s_X11_tapeNumber hN (hR.tr hT) (by first | omega | decide | (have q1 := hD.1; have q2 := hD.2.1; simp only [Int32.le_iff_toInt_le, Int32.lt_iff_toInt_lt, ti_add, ti_sub, ti_mul, Int32.reduceToInt] at *; omega))) (by decide) (fun v18 σ19 hOσ19 hT hqv18 => ?_)
      have hW2 : WI 2 σ19.1 := WI.tr hOσ19 (by decide) (by decide) (by decide) hW2
      have hW28 : WI 28 σ19.1 := WI.tr hOσ19 (by decide) (by decide) (by decide) hW28
      have hW132 : WI 132 σ19.1 := WI.tr hOσ19 (by decide) (by decide) (by decide) hW132
      have hW158 : WI 158 σ19.1 := WI.tr hOσ19 (by decide) (by decide) (by decide) hW158
      have hW184 : WI 184 σ19.1 := WI.tr hOσ19 (by decide) (by decide) (by decide) hW184
      have hL : SI σ19.1 := SI.tr hOσ19 (by decide) (by decide) (by decide) (by decide) hL
      have hD : RD σ19.1 := RD.tr hOσ19 (by decide) (by decide) (by decide) (by decide) hD
      have hu : 2 ≤ (σ19.1 111 8).toInt ∧ (σ19.1 111 8).toInt ≤ 1600 := by rw [hOσ19.2 111 (by decide)] <;> exact hu
      have ht : 0 ≤ (σ19.1 0 1).toInt ∧ (σ19.1 0 1).toInt ≤ 600 := by rw [hOσ19.2 0 (by decide)] <;> exact ht
      have h01 : σ19.1 0 1 = σ0.1 0 1 := by rw [hOσ19.2 0 (by decide)] <;> exact h01
      refine ok_gIv rfl h01 ?_
      refine ok_pI hT rfl (by decide) (fun σ21 eσ21 hOσ21 hT => ?_)
      have a88 := zI_atI eσ21
      have hW2 : WI 2 σ21.1 := WI.tr hOσ21 (by decide) (by decide) (by decide) hW2
      have hW28 : WI 28 σ21.1 := WI.tr hOσ21 (by decide) (by decide) (by decide) hW28
      have hW132 : WI 132 σ21.1 := WI.tr hOσ21 (by decide) (by decide) (by decide) hW132
      have hW158 : WI 158 σ21.1 := WI.tr hOσ21 (by decide) (by decide) (by decide) hW158
      have hW184 : WI 184 σ21.1 := WI.tr hOσ21 (by decide) (by decide) (by decide) hW184
      have hL : SI σ21.1 := SI.tr hOσ21 (by decide) (by decide) (by decide) (by decide) hL
      have hD : RD σ21.1 := RD.tr hOσ21 (by decide) (by decide) (by decide) (by decide) hD
      have hu : 2 ≤ (σ21.1 111 8).toInt ∧ (σ21.1 111 8).toInt ≤ 1600 := by rw [hOσ21.2 111 (by decide)] <;> exact hu
      have ht : 0 ≤ (σ21.1 0 1).toInt ∧ (σ21.1 0 1).toInt ≤ 600 := by rw [zI_atI eσ21]; simp only [Int32.le_iff_toInt_le, Int32.lt_iff_toInt_lt, ti_add, ti_sub, ti_mul, Int32.reduceToInt] at *; omega
      refine ok_gI rfl ?_
      exact ok_some ⟨hT, (show CF σ21.1 ∧ ((σ21.1 0 1)) = fdV (σ0.1 0 1) ∧ σ21.1 0 1 = fdT (σ0.1 0 1) from by first | exact ⟨⟨hW2, hW28, hW132, hW158, hW184, hL, hD, hu, ht⟩, (if_neg (by first | omega | (simp only [Int32.le_iff_toInt_le, Int32.lt_iff_toInt_lt, ti_add, ti_sub, ti_mul, Int32.reduceToInt] at *; omega))).symm, h01.trans (if_neg (by first | omega | (simp only [Int32.le_iff_toInt_le, Int32.lt_iff_toInt_lt, ti_add, ti_sub, ti_mul, Int32.reduceToInt] at *; omega))).symm⟩ | exact ⟨⟨hW2, hW28, hW132, hW158, hW184, hL, hD, hu, ht⟩, a88.trans (if_pos (by first | omega | (simp only [Int32.le_iff_toInt_le, Int32.lt_iff_toInt_lt, ti_add, ti_sub, ti_mul, Int32.reduceToInt] at *; omega))).symm, a88.trans (if_pos (by first | omega | (simp only [Int32.le_iff_toInt_le, Int32.lt_iff_toInt_lt, ti_add, ti_sub, ti_mul, Int32.reduceToInt] at *; omega))).symm⟩)⟩
    · exact ok_some ⟨hT, (show CF σ0.1 ∧ (-1 : Int32) = fdV (σ0.1 0 1) ∧ σ0.1 0 1 = fdT (σ0.1 0 1) from by first | exact ⟨⟨hW2, hW28, hW132, hW158, hW184, hL, hD, hu, ht⟩, (if_neg (by first | omega | (simp only [Int32.le_iff_toInt_le, Int32.lt_iff_toInt_lt, ti_add, ti_sub, ti_mul, Int32.reduceToInt] at *; omega))).symm, h01.trans (if_neg (by first | omega | (simp only [Int32.le_iff_toInt_le, Int32.lt_iff_toInt_lt, ti_add, ti_sub, ti_mul, Int32.reduceToInt] at *; omega))).symm⟩ | exact ⟨⟨hW2, hW28, hW132, hW158, hW184, hL, hD, hu, ht⟩, a88.trans (if_pos (by first | omega | (simp only [Int32.le_iff_toInt_le, Int32.lt_iff_toInt_lt, ti_add, ti_sub, ti_mul, Int32.reduceToInt] at *; omega))).symm, a88.trans (if_pos (by first | omega | (simp only [Int32.le_iff_toInt_le, Int32.lt_iff_toInt_lt, ti_add, ti_sub, ti_mul, Int32.reduceToInt] at *; omega))).symm⟩)⟩

set_option maxHeartbeats 4000000 in
set_option maxRecDepth 100000 in
theorem s_X11_end_n2v {N : Nat} (hN : 1048576 ≤ N) {x1 : Int32} {σ0 : zS}  (hR : RF σ0.2.2) (hNw : σ0.2.2 0 4 = 2) (hPw : σ0.2.2 0 5 = 28) (hC : CF σ0.1) : Ok (f_X11_end N 0 x1 σ0) (fun r => Tr [0] σ0 r.2 ∧ (CF r.2.1 ∧ r.1 = enV x1 (σ0.1 0 1) ∧ r.2.1 0 1 = enT x1 (σ0.1 0 1))) := by
  have hT : Tr [0] σ0 σ0 := Tr.rf
  obtain ⟨hW2, hW28, hW132, hW158, hW184, hL, hD, hu, ht⟩ := hC
  have hn := hW2.1
  have he := hW2.2.1
  have hD0 := hD
  have hL0 := hL
  have q10 := ti_one10 (x := σ0.1 2 0) hn.1 hn.2
  have t0 := ht
  rw [f_X11_end.eq_1]
  refine ok_if (fun hc1 => ?_) (fun hc1 => ?_)
  · exact ok_some ⟨hT, (show CF σ0.1 ∧ (-1 : Int32) = enV x1 (σ0.1 0 1) ∧ σ0.1 0 1 = enT x1 (σ0.1 0 1) from by first | exact ⟨⟨hW2, hW28, hW132, hW158, hW184, hL, hD, hu, ht⟩, (if_neg (by first | omega | (simp only [Int32.le_iff_toInt_le, Int32.lt_iff_toInt_lt, ti_add, ti_sub, ti_mul, Int32.reduceToInt] at *; omega))).symm, (if_neg (by first | omega | (simp only [Int32.le_iff_toInt_le, Int32.lt_iff_toInt_lt, ti_add, ti_sub, ti_mul, Int32.reduceToInt] at *; omega))).symm⟩ | exact ⟨⟨hW2, hW28, hW132, hW158, hW184, hL, hD, hu, ht⟩, (if_pos (by first | omega | (simp only [Int32.le_iff_toInt_le, Int32.lt_iff_toInt_lt, ti_add, ti_sub, ti_mul, Int32.reduceToInt] at *; omega))).symm, a16.trans (if_pos (by first | omega | (simp only [Int32.le_iff_toInt_le, Int32.lt_iff_toInt_lt, ti_add, ti_sub, ti_mul, Int32.reduceToInt] at *; omega))).symm⟩)⟩
  · refine ok_gI rfl ?_
    refine ok_if (fun hc3 => ?_) (fun hc3 => ?_)
    · refine ok_pI hT rfl (by decide) (fun σ4 eσ4 hOσ4 hT => ?_)
      have a16 := zI_atI eσ4
      have hW2 : WI 2 σ4.1 := WI.tr hOσ4 (by decide) (by decide) (by decide) hW2
      have hW28 : WI 28 σ4.1 := WI.tr hOσ4 (by decide) (by decide) (by decide) hW28
      have hW132 : WI 132 σ4.1 := WI.tr hOσ4 (by decide) (by decide) (by decide) hW132
      have hW158 : WI 158 σ4.1 := WI.tr hOσ4 (by decide) (by decide) (by decide) hW158
      have hW184 : WI 184 σ4.1 := WI.tr hOσ4 (by decide) (by decide) (by decide) hW184
      have hL : SI σ4.1 := SI.tr hOσ4 (by decide) (by decide) (by decide) (by decide) hL
      have hD : RD σ4.1 := RD.tr hOσ4 (by decide) (by decide) (by decide) (by decide) hD
      have hu : 2 ≤ (σ4.1 111 8).toInt ∧ (σ4.1 111 8).toInt ≤ 1600 := by rw [hOσ4.2 111 (by decide)] <;> exact hu
      have ht : 0 ≤ (σ4.1 0 1).toInt ∧ (σ4.1 0 1).toInt ≤ 600 := by rw [zI_atI eσ4]; simp only [Int32.le_iff_toInt_le, Int32.lt_iff_toInt_lt, ti_add, ti_sub, ti_mul, Int32.reduceToInt] at *; omega
      exact ok_some ⟨hT, (show CF σ4.1 ∧ x1 = enV x1 (σ0.1 0 1) ∧ σ4.1 0 1 = enT x1 (σ0.1 0 1) from by first | exact ⟨⟨hW2, hW28, hW132, hW158, hW184, hL, hD, hu, ht⟩, (if_neg (by first | omega | (simp only [Int32.le_iff_toInt_le, Int32.lt_iff_toInt_lt, ti_add, ti_sub, ti_mul, Int32.reduceToInt] at *; omega))).symm, (if_neg (by first | omega | (simp only [Int32.le_iff_toInt_le, Int32.lt_iff_toInt_lt, ti_add, ti_sub, ti_mul, Int32.reduceToInt] at *; omega))).symm⟩ | exact ⟨⟨hW2, hW28, hW132, hW158, hW184, hL, hD, hu, ht⟩, (if_pos (by first | omega | (simp only [Int32.le_iff_toInt_le, Int32.lt_iff_toInt_lt, ti_add, ti_sub, ti_mul, Int32.reduceToInt] at *; omega))).symm, a16.trans (if_pos (by first | omega | (simp only [Int32.le_iff_toInt_le, Int32.lt_iff_toInt_lt, ti_add, ti_sub, ti_mul, Int32.reduceToInt] at *; omega))).symm⟩)⟩
    · exact ok_some ⟨hT, (show CF σ0.1 ∧ (-1 : Int32) = enV x1 (σ0.1 0 1) ∧ σ0.1 0 1 = enT x1 (σ0.1 0 1) from by first | exact ⟨⟨hW2, hW28, hW132, hW158, hW184, hL, hD, hu, ht⟩, (if_neg (by first | omega | (simp only [Int32.le_iff_toInt_le, Int32.lt_iff_toInt_lt, ti_add, ti_sub, ti_mul, Int32.reduceToInt] at *; omega))).symm, (if_neg (by first | omega | (simp only [Int32.le_iff_toInt_le, Int32.lt_iff_toInt_lt, ti_add, ti_sub, ti_mul, Int32.reduceToInt] at *; omega))).symm⟩ | exact ⟨⟨hW2, hW28, hW132, hW158, hW184, hL, hD, hu, ht⟩, (if_pos (by first | omega | (simp only [Int32.le_iff_toInt_le, Int32.lt_iff_toInt_lt, ti_add, ti_sub, ti_mul, Int32.reduceToInt] at *; omega))).symm, a16.trans (if_pos (by first | omega | (simp only [Int32.le_iff_toInt_le, Int32.lt_iff_toInt_lt, ti_add, ti_sub, ti_mul, Int32.reduceToInt] at *; omega))).symm⟩)⟩

set_option maxHeartbeats 4000000 in
set_option maxRecDepth 100000 in
theorem s_X11_put_n2v {N : Nat} (hN : 1048576 ≤ N) {x1 : Int32} {σ0 : zS}  (hR : RF σ0.2.2) (hNw : σ0.2.2 0 4 = 2) (hPw : σ0.2.2 0 5 = 28) (hC : CF σ0.1) : Ok (f_X11_put N 0 x1 σ0) (fun r => Tr [0, 57, 58, 59, 61, 62, 63, 64, 65, 106, 107] σ0 r.2 ∧ (CF r.2.1 ∧ r.2.1 0 1 = 0)) := by
  have hT : Tr [0, 57, 58, 59, 61, 62, 63, 64, 65, 106, 107] σ0 σ0 := Tr.rf
  obtain ⟨hW2, hW28, hW132, hW158, hW184, hL, hD, hu, ht⟩ := hC
  have hn := hW2.1
  have he := hW2.2.1
  have hD0 := hD
  have hL0 := hL
  have q10 := ti_one10 (x := σ0.1 2 0) hn.1 hn.2
  rw [f_X11_put.eq_1]
  refine ok_gC rfl ?_
  refine ok_zbT (Q := fun V σ => (V = 0 ∨ V = 1) ∧ (¬ V = 0 → 0 ≤ x1.toInt ∧ x1.toInt ≤ 9)) hT (s_X11_isRegister_n2 hN (hR.tr hT) ((hT.1.1 0 4 (by decide)).trans hNw) (by first | exact hn | omega | (rw [hT.2 2 (by decide)]; exact hn))) (fun _ h9 => absurd h9 List.not_mem_nil) (fun v1 σ2 hOσ2 hT hqv1 => ?_)
  have hqv1 : (v1 = 0 ∨ v1 = 1) ∧ (¬ v1 = 0 → 0 ≤ x1.toInt ∧ x1.toInt ≤ 9) := hqv1
  have hW2 : WI 2 σ2.1 := WI.tr hOσ2 (by decide) (by decide) (by decide) hW2
  have hW28 : WI 28 σ2.1 := WI.tr hOσ2 (by decide) (by decide) (by decide) hW28
  have hW132 : WI 132 σ2.1 := WI.tr hOσ2 (by decide) (by decide) (by decide) hW132
  have hW158 : WI 158 σ2.1 := WI.tr hOσ2 (by decide) (by decide) (by decide) hW158
  have hW184 : WI 184 σ2.1 := WI.tr hOσ2 (by decide) (by decide) (by decide) hW184
  have hL : SI σ2.1 := SI.tr hOσ2 (by decide) (by decide) (by decide) (by decide) hL
  have hD : RD σ2.1 := RD.tr hOσ2 (by decide) (by decide) (by decide) (by decide) hD
  have hu : 2 ≤ (σ2.1 111 8).toInt ∧ (σ2.1 111 8).toInt ≤ 1600 := by rw [hOσ2.2 111 (by decide)] <;> exact hu
  have ht : 0 ≤ (σ2.1 0 1).toInt ∧ (σ2.1 0 1).toInt ≤ 600 := by rw [hOσ2.2 0 (by decide)] <;> exact ht
  refine ok_if (fun hc3 => ?_) (fun hc3 => ?_)
  · refine ok_pI hT rfl (by decide) (fun σ4 eσ4 hOσ4 hT => ?_)
    have z0 := zI_atI eσ4
    have hW2 : WI 2 σ4.1 := WI.tr hOσ4 (by decide) (by decide) (by decide) hW2
    have hW28 : WI 28 σ4.1 := WI.tr hOσ4 (by decide) (by decide) (by decide) hW28
    have hW132 : WI 132 σ4.1 := WI.tr hOσ4 (by decide) (by decide) (by decide) hW132
    have hW158 : WI 158 σ4.1 := WI.tr hOσ4 (by decide) (by decide) (by decide) hW158
    have hW184 : WI 184 σ4.1 := WI.tr hOσ4 (by decide) (by decide) (by decide) hW184
    have hL : SI σ4.1 := SI.tr hOσ4 (by decide) (by decide) (by decide) (by decide) hL
    have hD : RD σ4.1 := RD.tr hOσ4 (by decide) (by decide) (by decide) (by decide) hD
    have hu : 2 ≤ (σ4.1 111 8).toInt ∧ (σ4.1 111 8).toInt ≤ 1600 := by rw [hOσ4.2 111 (by decide)] <;> exact hu
    have ht : 0 ≤ (σ4.1 0 1).toInt ∧ (σ4.1 0 1).toInt ≤ 600 := by first | (rw [zI_atI eσ4]; decide) | (rw [HQ]; decide)
    exact ok_some ⟨hT, (show CF σ4.1 ∧ σ4.1 0 1 = 0 from by exact ⟨⟨hW2, hW28, hW132, hW158, hW184, hL, hD, hu, ht⟩, z0⟩)⟩
  · have qhc3 := hqv1.2 hc3
    refine ok_gR (v := 57) hT rfl (hR 0 9 rfl) ?_
    refine ok_gR (v := 1) hT rfl (hR 0 0 rfl) ?_
    refine ok_gI rfl ?_
    refine ok_gR (v := 2) hT rfl hNw ?_
    refine ok_gI0 hT rfl (by decide) ?_
    refine ok_gC rfl ?_
    refine ok_zbT (Q := fun V σ => (V = 0 ∨ V = 1) ∧ RD σ.1) hT (s_X5_readSum_1 hN (hR.tr hT) (hD)) (by decide) (fun v10 σ11 hOσ11 hT hqv10 => ?_)
    have hqv10 : (v10 = 0 ∨ v10 = 1) ∧ RD σ11.1 := hqv10
    have hW2 : WI 2 σ11.1 := WI.tr hOσ11 (by decide) (by decide) (by decide) hW2
    have hW28 : WI 28 σ11.1 := WI.tr hOσ11 (by decide) (by decide) (by decide) hW28
    have hW132 : WI 132 σ11.1 := WI.tr hOσ11 (by decide) (by decide) (by decide) hW132
    have hW158 : WI 158 σ11.1 := WI.tr hOσ11 (by decide) (by decide) (by decide) hW158
    have hW184 : WI 184 σ11.1 := WI.tr hOσ11 (by decide) (by decide) (by decide) hW184
    have hL : SI σ11.1 := SI.tr hOσ11 (by decide) (by decide) (by decide) (by decide) hL
    have hD : RD σ11.1 := hqv10.2
    have hu : 2 ≤ (σ11.1 111 8).toInt ∧ (σ11.1 111 8).toInt ≤ 1600 := by rw [hOσ11.2 111 (by decide)] <;> exact hu
    have ht : 0 ≤ (σ11.1 0 1).toInt ∧ (σ11.1 0 1).toInt ≤ 600 := by rw [hOσ11.2 0 (by decide)] <;> exact ht
    refine ok_gC rfl ?_
    refine ok_zbT (Q := fun V σ => σ.1 0 1 = 0) hT (s_X11_takeFault hN (hR.tr hT) ) (by decide) (fun v12 σ13 hOσ13 hT hqv12 => ?_)
    have hqv12 : σ13.1 0 1 = 0 := hqv12
    have hW2 : WI 2 σ13.1 := WI.tr hOσ13 (by decide) (by decide) (by decide) hW2
    have hW28 : WI 28 σ13.1 := WI.tr hOσ13 (by decide) (by decide) (by decide) hW28
    have hW132 : WI 132 σ13.1 := WI.tr hOσ13 (by decide) (by decide) (by decide) hW132
    have hW158 : WI 158 σ13.1 := WI.tr hOσ13 (by decide) (by decide) (by decide) hW158
    have hW184 : WI 184 σ13.1 := WI.tr hOσ13 (by decide) (by decide) (by decide) hW184
    have hL : SI σ13.1 := SI.tr hOσ13 (by decide) (by decide) (by decide) (by decide) hL
    have hD : RD σ13.1 := RD.tr hOσ13 (by decide) (by decide) (by decide) (by decide) hD
    have hu : 2 ≤ (σ13.1 111 8).toInt ∧ (σ13.1 111 8).toInt ≤ 1600 := by rw [hOσ13.2 111 (by decide)] <;> exact hu
    have ht : 0 ≤ (σ13.1 0 1).toInt ∧ (σ13.1 0 1).toInt ≤ 600 := by first | (rw [zI_atI eσ13]; decide) | (rw [hqv12]; decide)
    have z0 := hqv12
    refine ok_if (fun hc14 => ?_) (fun hc14 => ?_)
    · exact ok_some ⟨hT, (show CF σ13.1 ∧ σ13.1 0 1 = 0 from by exact ⟨⟨hW2, hW28, hW132, hW158, hW184, hL, hD, hu, ht⟩, z0⟩)⟩
    · refine ok_gR (v := 65) hT rfl (hR 0 10 rfl) ?_
      refine ok_gR (v := 57) hT rfl (hR 0 9 rfl) ?_
      refine ok_gR (v := 2) hT rfl hNw ?_
      refine ok_gR (v := 99) hT rfl (hR 0 11 rfl) ?_
      refine ok_gC rfl ?_
      refine ok_zbT (Q := fun V σ => True) hT (s_X7_run_57_2_99 hN (hR.tr hT) (by first | exact hn | omega | (rw [hT.2 2 (by decide)]; exact hn))) (by decide) (fun v19 σ20 hOσ20 hT hqv19 => ?_)
      have hW2 : WI 2 σ20.1 := WI.tr hOσ20 (by decide) (by decide) (by decide) hW2
      have hW28 : WI 28 σ20.1 := WI.tr hOσ20 (by decide) (by decide) (by decide) hW28
      have hW132 : WI 132 σ20.1 := WI.tr hOσ20 (by decide) (by decide) (by decide) hW132
      have hW158 : WI 158 σ20.1 := WI.tr hOσ20 (by decide) (by decide) (by decide) hW158
      have hW184 : WI 184 σ20.1 := WI.tr hOσ20 (by decide) (by decide) (by decide) hW184
      have hL : SI σ20.1 := SI.tr hOσ20 (by decide) (by decide) (by decide) (by decide) hL
      have hD : RD σ20.1 := RD.tr hOσ20 (by decide) (by decide) (by decide) (by decide) hD
      have hu : 2 ≤ (σ20.1 111 8).toInt ∧ (σ20.1 111 8).toInt ≤ 1600 := by rw [hOσ20.2 111 (by decide)] <;> exact hu
      have ht : 0 ≤ (σ20.1 0 1).toInt ∧ (σ20.1 0 1).toInt ≤ 600 := by rw [hOσ20.2 0 (by decide)] <;> exact ht
      have z0 := (congrFun (hOσ20.2 0 (by decide)) 1).trans z0
      refine ok_gR (v := 2) hT rfl hNw ?_
      refine ok_gR (v := 7) hT rfl (hR 2 7 rfl) ?_
      obtain ⟨q24, eq24, kq24⟩ := arrF hR (k := 7) (i := x1) rfl (by first | omega | decide | (have q1 := hD.1; have q2 := hD.2.1; simp only [Int32.le_iff_toInt_le, Int32.lt_iff_toInt_lt, ti_add, ti_sub, ti_mul, Int32.reduceToInt] at *; omega)) (by first | omega | decide | (have q1 := hD.1; have q2 := hD.2.1; simp only [Int32.le_iff_toInt_le, Int32.lt_iff_toInt_lt, ti_add, ti_sub, ti_mul, Int32.reduceToInt] at *; omega))
      refine ok_aR (v := q24) hT rfl (by first | omega | decide | (have q1 := hD.1; have q2 := hD.2.1; simp only [Int32.le_iff_toInt_le, Int32.lt_iff_toInt_lt, ti_add, ti_sub, ti_mul, Int32.reduceToInt] at *; omega)) (by first | omega | decide | (have q1 := hD.1; have q2 := hD.2.1; simp only [Int32.le_iff_toInt_le, Int32.lt_iff_toInt_lt, ti_add, ti_sub, ti_mul, Int32.reduceToInt] at *; omega)) eq24 ?_
      refine ok_gC kq24 ?_
      refine ok_zbT (Q := fun V σ => True) hT (s_X2_tally hN (hR.tr hT) kq24) (fun _ h9 => absurd h9 List.not_mem_nil) (fun v25 σ26 hOσ26 hT hqv25 => ?_)
      have hW2 : WI 2 σ26.1 := WI.tr hOσ26 (by decide) (by decide) (by decide) hW2
      have hW28 : WI 28 σ26.1 := WI.tr hOσ26 (by decide) (by decide) (by decide) hW28
      have hW132 : WI 132 σ26.1 := WI.tr hOσ26 (by decide) (by decide) (by decide) hW132
      have hW158 : WI 158 σ26.1 := WI.tr hOσ26 (by decide) (by decide) (by decide) hW158
      have hW184 : WI 184 σ26.1 := WI.tr hOσ26 (by decide) (by decide) (by decide) hW184
      have hL : SI σ26.1 := SI.tr hOσ26 (by decide) (by decide) (by decide) (by decide) hL
      have hD : RD σ26.1 := RD.tr hOσ26 (by decide) (by decide) (by decide) (by decide) hD
      have hu : 2 ≤ (σ26.1 111 8).toInt ∧ (σ26.1 111 8).toInt ≤ 1600 := by rw [hOσ26.2 111 (by decide)] <;> exact hu
      have ht : 0 ≤ (σ26.1 0 1).toInt ∧ (σ26.1 0 1).toInt ≤ 600 := by rw [hOσ26.2 0 (by decide)] <;> exact ht
      have z0 := (congrFun (hOσ26.2 0 (by decide)) 1).trans z0
      exact ok_some ⟨hT, (show CF σ26.1 ∧ σ26.1 0 1 = 0 from by exact ⟨⟨hW2, hW28, hW132, hW158, hW184, hL, hD, hu, ht⟩, z0⟩)⟩

set_option maxHeartbeats 4000000 in
set_option maxRecDepth 100000 in
theorem s_X11_keep_n2_0v {N : Nat} (hN : 1048576 ≤ N)  {σ0 : zS}  (hR : RF σ0.2.2) (hNw : σ0.2.2 0 4 = 2) (hPw : σ0.2.2 0 5 = 28) (hC : CF σ0.1) (hB : ZB σ0.1) : Ok (f_X11_keep N 0 0 σ0) (fun r => Tr [55, 132, 133, 134, 135, 136] σ0 r.2 ∧ (CF r.2.1 ∧ ZB r.2.1 ∧ r.1 = 0 ∧ ∀ j, r.2.1 55 j = if j = 0 then vp_nar .boolean 1 else σ0.1 55 j)) := by
  have hT : Tr [55, 132, 133, 134, 135, 136] σ0 σ0 := Tr.rf
  obtain ⟨hW2, hW28, hW132, hW158, hW184, hL, hD, hu, ht⟩ := hC
  have hn := hW2.1
  have he := hW2.2.1
  have hD0 := hD
  have hL0 := hL
  have q10 := ti_one10 (x := σ0.1 2 0) hn.1 hn.2
  rw [f_X11_keep.eq_1]
  refine ok_if (fun hc1 => ?_) (fun hc1 => ?_)
  · exact absurd hc1 (by decide)
  · refine ok_if (fun hc2 => ?_) (fun hc2 => ?_)
    · refine ok_gR (v := 54) hT rfl (hR 0 6 rfl) ?_
      refine ok_aR (v := 132) hT rfl (by first | omega | decide | (have q1 := hD.1; have q2 := hD.2.1; simp only [Int32.le_iff_toInt_le, Int32.lt_iff_toInt_lt, ti_add, ti_sub, ti_mul, Int32.reduceToInt] at *; omega)) (by first | omega | decide | (have q1 := hD.1; have q2 := hD.2.1; simp only [Int32.le_iff_toInt_le, Int32.lt_iff_toInt_lt, ti_add, ti_sub, ti_mul, Int32.reduceToInt] at *; omega)) (hR 54 0 rfl) ?_
      refine ok_gR (v := 2) hT rfl hNw ?_
      refine ok_gC rfl ?_
      refine ok_zbT (Q := fun V σ => WI 132 σ.1) hT (s_X10_copyFrom_132_2 hN (hR.tr hT) (hW132) (hW2)) (by decide) (fun v6 σ7 hOσ7 hT hqv6 => ?_)
      have hqv6 : WI 132 σ7.1 := hqv6
      have r55_σ7 : σ7.1 55 = σ0.1 55 := hOσ7.2 55 (by decide)
      have hW2 : WI 2 σ7.1 := WI.tr hOσ7 (by decide) (by decide) (by decide) hW2
      have hW28 : WI 28 σ7.1 := WI.tr hOσ7 (by decide) (by decide) (by decide) hW28
      have hW132 : WI 132 σ7.1 := hqv6
      have hW158 : WI 158 σ7.1 := WI.tr hOσ7 (by decide) (by decide) (by decide) hW158
      have hW184 : WI 184 σ7.1 := WI.tr hOσ7 (by decide) (by decide) (by decide) hW184
      have hL : SI σ7.1 := SI.tr hOσ7 (by decide) (by decide) (by decide) (by decide) hL
      have hD : RD σ7.1 := RD.tr hOσ7 (by decide) (by decide) (by decide) (by decide) hD
      have hu : 2 ≤ (σ7.1 111 8).toInt ∧ (σ7.1 111 8).toInt ≤ 1600 := by rw [hOσ7.2 111 (by decide)] <;> exact hu
      have ht : 0 ≤ (σ7.1 0 1).toInt ∧ (σ7.1 0 1).toInt ≤ 600 := by rw [hOσ7.2 0 (by decide)] <;> exact ht
      have hB : ZB σ7.1 := ZB.tr hOσ7 (by decide) hB
      refine ok_gR (v := 55) hT rfl (hR 0 7 rfl) ?_
      refine ok_s16 hT rfl (by decide) (by first | omega | decide | (have q1 := hD.1; have q2 := hD.2.1; simp only [Int32.le_iff_toInt_le, Int32.lt_iff_toInt_lt, ti_add, ti_sub, ti_mul, Int32.reduceToInt] at *; omega)) (by first | omega | decide | (have q1 := hD.1; have q2 := hD.2.1; simp only [Int32.le_iff_toInt_le, Int32.lt_iff_toInt_lt, ti_add, ti_sub, ti_mul, Int32.reduceToInt] at *; omega)) (fun σ9 eσ9 hOσ9 hT => ?_)
      have u31 := upd_at eσ9 r55_σ7
      have hW2 : WI 2 σ9.1 := WI.tr hOσ9 (by decide) (by decide) (by decide) hW2
      have hW28 : WI 28 σ9.1 := WI.tr hOσ9 (by decide) (by decide) (by decide) hW28
      have hW132 : WI 132 σ9.1 := WI.tr hOσ9 (by decide) (by decide) (by decide) hW132
      have hW158 : WI 158 σ9.1 := WI.tr hOσ9 (by decide) (by decide) (by decide) hW158
      have hW184 : WI 184 σ9.1 := WI.tr hOσ9 (by decide) (by decide) (by decide) hW184
      have hL : SI σ9.1 := SI.tr hOσ9 (by decide) (by decide) (by decide) (by decide) hL
      have hD : RD σ9.1 := RD.tr hOσ9 (by decide) (by decide) (by decide) (by decide) hD
      have hu : 2 ≤ (σ9.1 111 8).toInt ∧ (σ9.1 111 8).toInt ≤ 1600 := by rw [hOσ9.2 111 (by decide)] <;> exact hu
      have ht : 0 ≤ (σ9.1 0 1).toInt ∧ (σ9.1 0 1).toInt ≤ 600 := by rw [hOσ9.2 0 (by decide)] <;> exact ht
      have hB : ZB σ9.1 := ZB_s eσ9 hB
      exact ok_some ⟨hT, (show CF σ9.1 ∧ ZB σ9.1 ∧ (0 : Int32) = 0 ∧ ∀ j, σ9.1 55 j = if j = 0 then vp_nar .boolean 1 else σ0.1 55 j from by exact ⟨⟨hW2, hW28, hW132, hW158, hW184, hL, hD, hu, ht⟩, hB, rfl, u31⟩)⟩
    · exact absurd hc2 (by decide)

set_option maxHeartbeats 4000000 in
set_option maxRecDepth 100000 in
theorem s_X11_back_n2_0v {N : Nat} (hN : 1048576 ≤ N)  {σ0 : zS}  (hR : RF σ0.2.2) (hNw : σ0.2.2 0 4 = 2) (hPw : σ0.2.2 0 5 = 28) (hC : CF σ0.1) : Ok (f_X11_back N 0 0 σ0) (fun r => Tr [2, 3, 4, 5, 6] σ0 r.2 ∧ (CF r.2.1 ∧ r.1 = if σ0.1 55 0 = 0 then -6 else 0)) := by
  have hT : Tr [2, 3, 4, 5, 6] σ0 σ0 := Tr.rf
  obtain ⟨hW2, hW28, hW132, hW158, hW184, hL, hD, hu, ht⟩ := hC
  have hn := hW2.1
  have he := hW2.2.1
  have hD0 := hD
  have hL0 := hL
  have q10 := ti_one10 (x := σ0.1 2 0) hn.1 hn.2
  rw [f_X11_back.eq_1]
  refine ok_if (fun hc1 => ?_) (fun hc1 => ?_)
  · exact absurd hc1 (by decide)
  · refine ok_if (fun hc2 => ?_) (fun hc2 => ?_)
    · refine ok_gR (v := 55) hT rfl (hR 0 7 rfl) ?_
      refine ok_aIn rfl (by first | omega | decide | (have q1 := hD.1; have q2 := hD.2.1; simp only [Int32.le_iff_toInt_le, Int32.lt_iff_toInt_lt, ti_add, ti_sub, ti_mul, Int32.reduceToInt] at *; omega)) (by first | omega | decide | (have q1 := hD.1; have q2 := hD.2.1; simp only [Int32.le_iff_toInt_le, Int32.lt_iff_toInt_lt, ti_add, ti_sub, ti_mul, Int32.reduceToInt] at *; omega)) (fun v4 ev4 => ?_)
      have w17 : v4 = σ0.1 55 0 := ev4
      refine ok_if (fun hc5 => ?_) (fun hc5 => ?_)
      · have e18 := hc5
        exact ok_some ⟨hT, (show CF σ0.1 ∧ (-6 : Int32) = if σ0.1 55 0 = 0 then -6 else 0 from by first | exact ⟨⟨hW2, hW28, hW132, hW158, hW184, hL, hD, hu, ht⟩, (if_pos (w17 ▸ e18)).symm⟩ | exact ⟨⟨hW2, hW28, hW132, hW158, hW184, hL, hD, hu, ht⟩, (if_neg (w17 ▸ e18)).symm⟩)⟩
      · have e18 := hc5
        refine ok_gR (v := 2) hT rfl hNw ?_
        refine ok_gR (v := 54) hT rfl (hR 0 6 rfl) ?_
        refine ok_aR (v := 132) hT rfl (by first | omega | decide | (have q1 := hD.1; have q2 := hD.2.1; simp only [Int32.le_iff_toInt_le, Int32.lt_iff_toInt_lt, ti_add, ti_sub, ti_mul, Int32.reduceToInt] at *; omega)) (by first | omega | decide | (have q1 := hD.1; have q2 := hD.2.1; simp only [Int32.le_iff_toInt_le, Int32.lt_iff_toInt_lt, ti_add, ti_sub, ti_mul, Int32.reduceToInt] at *; omega)) (hR 54 0 rfl) ?_
        refine ok_gC rfl ?_
        refine ok_zbT (Q := fun V σ => WI 2 σ.1) hT (s_X10_copyFrom_2_132 hN (hR.tr hT) (hW2) (hW132)) (by decide) (fun v9 σ10 hOσ10 hT hqv9 => ?_)
        have hqv9 : WI 2 σ10.1 := hqv9
        have hW2 : WI 2 σ10.1 := hqv9
        have hW28 : WI 28 σ10.1 := WI.tr hOσ10 (by decide) (by decide) (by decide) hW28
        have hW132 : WI 132 σ10.1 := WI.tr hOσ10 (by decide) (by decide) (by decide) hW132
        have hW158 : WI 158 σ10.1 := WI.tr hOσ10 (by decide) (by decide) (by decide) hW158
        have hW184 : WI 184 σ10.1 := WI.tr hOσ10 (by decide) (by decide) (by decide) hW184
        have hL : SI σ10.1 := SI.tr hOσ10 (by decide) (by decide) (by decide) (by decide) hL
        have hD : RD σ10.1 := RD.tr hOσ10 (by decide) (by decide) (by decide) (by decide) hD
        have hu : 2 ≤ (σ10.1 111 8).toInt ∧ (σ10.1 111 8).toInt ≤ 1600 := by rw [hOσ10.2 111 (by decide)] <;> exact hu
        have ht : 0 ≤ (σ10.1 0 1).toInt ∧ (σ10.1 0 1).toInt ≤ 600 := by rw [hOσ10.2 0 (by decide)] <;> exact ht
        exact ok_some ⟨hT, (show CF σ10.1 ∧ (0 : Int32) = if σ0.1 55 0 = 0 then -6 else 0 from by first | exact ⟨⟨hW2, hW28, hW132, hW158, hW184, hL, hD, hu, ht⟩, (if_pos (w17 ▸ e18)).symm⟩ | exact ⟨⟨hW2, hW28, hW132, hW158, hW184, hL, hD, hu, ht⟩, (if_neg (w17 ▸ e18)).symm⟩)⟩
    · exact absurd hc2 (by decide)

set_option maxHeartbeats 4000000 in
set_option maxRecDepth 100000 in
theorem s_X11_keep_n2_1v {N : Nat} (hN : 1048576 ≤ N)  {σ0 : zS}  (hR : RF σ0.2.2) (hNw : σ0.2.2 0 4 = 2) (hPw : σ0.2.2 0 5 = 28) (hC : CF σ0.1) (hB : ZB σ0.1) : Ok (f_X11_keep N 0 1 σ0) (fun r => Tr [55, 158, 159, 160, 161, 162] σ0 r.2 ∧ (CF r.2.1 ∧ ZB r.2.1 ∧ r.1 = 0 ∧ ∀ j, r.2.1 55 j = if j = 1 then vp_nar .boolean 1 else σ0.1 55 j)) := by
  have hT : Tr [55, 158, 159, 160, 161, 162] σ0 σ0 := Tr.rf
  obtain ⟨hW2, hW28, hW132, hW158, hW184, hL, hD, hu, ht⟩ := hC
  have hn := hW2.1
  have he := hW2.2.1
  have hD0 := hD
  have hL0 := hL
  have q10 := ti_one10 (x := σ0.1 2 0) hn.1 hn.2
  rw [f_X11_keep.eq_1]
  refine ok_if (fun hc1 => ?_) (fun hc1 => ?_)
  · exact absurd hc1 (by decide)
  · refine ok_if (fun hc2 => ?_) (fun hc2 => ?_)
    · refine ok_gR (v := 54) hT rfl (hR 0 6 rfl) ?_
      refine ok_aR (v := 158) hT rfl (by first | omega | decide | (have q1 := hD.1; have q2 := hD.2.1; simp only [Int32.le_iff_toInt_le, Int32.lt_iff_toInt_lt, ti_add, ti_sub, ti_mul, Int32.reduceToInt] at *; omega)) (by first | omega | decide | (have q1 := hD.1; have q2 := hD.2.1; simp only [Int32.le_iff_toInt_le, Int32.lt_iff_toInt_lt, ti_add, ti_sub, ti_mul, Int32.reduceToInt] at *; omega)) (hR 54 1 rfl) ?_
      refine ok_gR (v := 2) hT rfl hNw ?_
      refine ok_gC rfl ?_
      refine ok_zbT (Q := fun V σ => WI 158 σ.1) hT (s_X10_copyFrom_158_2 hN (hR.tr hT) (hW158) (hW2)) (by decide) (fun v6 σ7 hOσ7 hT hqv6 => ?_)
      have hqv6 : WI 158 σ7.1 := hqv6
      have r55_σ7 : σ7.1 55 = σ0.1 55 := hOσ7.2 55 (by decide)
      have hW2 : WI 2 σ7.1 := WI.tr hOσ7 (by decide) (by decide) (by decide) hW2
      have hW28 : WI 28 σ7.1 := WI.tr hOσ7 (by decide) (by decide) (by decide) hW28
      have hW132 : WI 132 σ7.1 := WI.tr hOσ7 (by decide) (by decide) (by decide) hW132
      have hW158 : WI 158 σ7.1 := hqv6
      have hW184 : WI 184 σ7.1 := WI.tr hOσ7 (by decide) (by decide) (by decide) hW184
      have hL : SI σ7.1 := SI.tr hOσ7 (by decide) (by decide) (by decide) (by decide) hL
      have hD : RD σ7.1 := RD.tr hOσ7 (by decide) (by decide) (by decide) (by decide) hD
      have hu : 2 ≤ (σ7.1 111 8).toInt ∧ (σ7.1 111 8).toInt ≤ 1600 := by rw [hOσ7.2 111 (by decide)] <;> exact hu
      have ht : 0 ≤ (σ7.1 0 1).toInt ∧ (σ7.1 0 1).toInt ≤ 600 := by rw [hOσ7.2 0 (by decide)] <;> exact ht
      have hB : ZB σ7.1 := ZB.tr hOσ7 (by decide) hB
      refine ok_gR (v := 55) hT rfl (hR 0 7 rfl) ?_
      refine ok_s16 hT rfl (by decide) (by first | omega | decide | (have q1 := hD.1; have q2 := hD.2.1; simp only [Int32.le_iff_toInt_le, Int32.lt_iff_toInt_lt, ti_add, ti_sub, ti_mul, Int32.reduceToInt] at *; omega)) (by first | omega | decide | (have q1 := hD.1; have q2 := hD.2.1; simp only [Int32.le_iff_toInt_le, Int32.lt_iff_toInt_lt, ti_add, ti_sub, ti_mul, Int32.reduceToInt] at *; omega)) (fun σ9 eσ9 hOσ9 hT => ?_)
      have u31 := upd_at eσ9 r55_σ7
      have hW2 : WI 2 σ9.1 := WI.tr hOσ9 (by decide) (by decide) (by decide) hW2
      have hW28 : WI 28 σ9.1 := WI.tr hOσ9 (by decide) (by decide) (by decide) hW28
      have hW132 : WI 132 σ9.1 := WI.tr hOσ9 (by decide) (by decide) (by decide) hW132
      have hW158 : WI 158 σ9.1 := WI.tr hOσ9 (by decide) (by decide) (by decide) hW158
      have hW184 : WI 184 σ9.1 := WI.tr hOσ9 (by decide) (by decide) (by decide) hW184
      have hL : SI σ9.1 := SI.tr hOσ9 (by decide) (by decide) (by decide) (by decide) hL
      have hD : RD σ9.1 := RD.tr hOσ9 (by decide) (by decide) (by decide) (by decide) hD
      have hu : 2 ≤ (σ9.1 111 8).toInt ∧ (σ9.1 111 8).toInt ≤ 1600 := by rw [hOσ9.2 111 (by decide)] <;> exact hu
      have ht : 0 ≤ (σ9.1 0 1).toInt ∧ (σ9.1 0 1).toInt ≤ 600 := by rw [hOσ9.2 0 (by decide)] <;> exact ht
      have hB : ZB σ9.1 := ZB_s eσ9 hB
      exact ok_some ⟨hT, (show CF σ9.1 ∧ ZB σ9.1 ∧ (0 : Int32) = 0 ∧ ∀ j, σ9.1 55 j = if j = 1 then vp_nar .boolean 1 else σ0.1 55 j from by exact ⟨⟨hW2, hW28, hW132, hW158, hW184, hL, hD, hu, ht⟩, hB, rfl, u31⟩)⟩
    · exact absurd hc2 (by decide)

set_option maxHeartbeats 4000000 in
set_option maxRecDepth 100000 in
theorem s_X11_back_n2_1v {N : Nat} (hN : 1048576 ≤ N)  {σ0 : zS}  (hR : RF σ0.2.2) (hNw : σ0.2.2 0 4 = 2) (hPw : σ0.2.2 0 5 = 28) (hC : CF σ0.1) : Ok (f_X11_back N 0 1 σ0) (fun r => Tr [2, 3, 4, 5, 6] σ0 r.2 ∧ (CF r.2.1 ∧ r.1 = if σ0.1 55 1 = 0 then -6 else 0)) := by
  have hT : Tr [2, 3, 4, 5, 6] σ0 σ0 := Tr.rf
  obtain ⟨hW2, hW28, hW132, hW158, hW184, hL, hD, hu, ht⟩ := hC
  have hn := hW2.1
  have he := hW2.2.1
  have hD0 := hD
  have hL0 := hL
  have q10 := ti_one10 (x := σ0.1 2 0) hn.1 hn.2
  rw [f_X11_back.eq_1]
  refine ok_if (fun hc1 => ?_) (fun hc1 => ?_)
  · exact absurd hc1 (by decide)
  · refine ok_if (fun hc2 => ?_) (fun hc2 => ?_)
    · refine ok_gR (v := 55) hT rfl (hR 0 7 rfl) ?_
      refine ok_aIn rfl (by first | omega | decide | (have q1 := hD.1; have q2 := hD.2.1; simp only [Int32.le_iff_toInt_le, Int32.lt_iff_toInt_lt, ti_add, ti_sub, ti_mul, Int32.reduceToInt] at *; omega)) (by first | omega | decide | (have q1 := hD.1; have q2 := hD.2.1; simp only [Int32.le_iff_toInt_le, Int32.lt_iff_toInt_lt, ti_add, ti_sub, ti_mul, Int32.reduceToInt] at *; omega)) (fun v4 ev4 => ?_)
      have w17 : v4 = σ0.1 55 1 := ev4
      refine ok_if (fun hc5 => ?_) (fun hc5 => ?_)
      · have e18 := hc5
        exact ok_some ⟨hT, (show CF σ0.1 ∧ (-6 : Int32) = if σ0.1 55 1 = 0 then -6 else 0 from by first | exact ⟨⟨hW2, hW28, hW132, hW158, hW184, hL, hD, hu, ht⟩, (if_pos (w17 ▸ e18)).symm⟩ | exact ⟨⟨hW2, hW28, hW132, hW158, hW184, hL, hD, hu, ht⟩, (if_neg (w17 ▸ e18)).symm⟩)⟩
      · have e18 := hc5
        refine ok_gR (v := 2) hT rfl hNw ?_
        refine ok_gR (v := 54) hT rfl (hR 0 6 rfl) ?_
        refine ok_aR (v := 158) hT rfl (by first | omega | decide | (have q1 := hD.1; have q2 := hD.2.1; simp only [Int32.le_iff_toInt_le, Int32.lt_iff_toInt_lt, ti_add, ti_sub, ti_mul, Int32.reduceToInt] at *; omega)) (by first | omega | decide | (have q1 := hD.1; have q2 := hD.2.1; simp only [Int32.le_iff_toInt_le, Int32.lt_iff_toInt_lt, ti_add, ti_sub, ti_mul, Int32.reduceToInt] at *; omega)) (hR 54 1 rfl) ?_
        refine ok_gC rfl ?_
        refine ok_zbT (Q := fun V σ => WI 2 σ.1) hT (s_X10_copyFrom_2_158 hN (hR.tr hT) (hW2) (hW158)) (by decide) (fun v9 σ10 hOσ10 hT hqv9 => ?_)
        have hqv9 : WI 2 σ10.1 := hqv9
        have hW2 : WI 2 σ10.1 := hqv9
        have hW28 : WI 28 σ10.1 := WI.tr hOσ10 (by decide) (by decide) (by decide) hW28
        have hW132 : WI 132 σ10.1 := WI.tr hOσ10 (by decide) (by decide) (by decide) hW132
        have hW158 : WI 158 σ10.1 := WI.tr hOσ10 (by decide) (by decide) (by decide) hW158
        have hW184 : WI 184 σ10.1 := WI.tr hOσ10 (by decide) (by decide) (by decide) hW184
        have hL : SI σ10.1 := SI.tr hOσ10 (by decide) (by decide) (by decide) (by decide) hL
        have hD : RD σ10.1 := RD.tr hOσ10 (by decide) (by decide) (by decide) (by decide) hD
        have hu : 2 ≤ (σ10.1 111 8).toInt ∧ (σ10.1 111 8).toInt ≤ 1600 := by rw [hOσ10.2 111 (by decide)] <;> exact hu
        have ht : 0 ≤ (σ10.1 0 1).toInt ∧ (σ10.1 0 1).toInt ≤ 600 := by rw [hOσ10.2 0 (by decide)] <;> exact ht
        exact ok_some ⟨hT, (show CF σ10.1 ∧ (0 : Int32) = if σ0.1 55 1 = 0 then -6 else 0 from by first | exact ⟨⟨hW2, hW28, hW132, hW158, hW184, hL, hD, hu, ht⟩, (if_pos (w17 ▸ e18)).symm⟩ | exact ⟨⟨hW2, hW28, hW132, hW158, hW184, hL, hD, hu, ht⟩, (if_neg (w17 ▸ e18)).symm⟩)⟩
    · exact absurd hc2 (by decide)

set_option maxHeartbeats 4000000 in
set_option maxRecDepth 100000 in
theorem s_X11_keep_n2_2v {N : Nat} (hN : 1048576 ≤ N)  {σ0 : zS}  (hR : RF σ0.2.2) (hNw : σ0.2.2 0 4 = 2) (hPw : σ0.2.2 0 5 = 28) (hC : CF σ0.1) (hB : ZB σ0.1) : Ok (f_X11_keep N 0 2 σ0) (fun r => Tr [55, 184, 185, 186, 187, 188] σ0 r.2 ∧ (CF r.2.1 ∧ ZB r.2.1 ∧ r.1 = 0 ∧ ∀ j, r.2.1 55 j = if j = 2 then vp_nar .boolean 1 else σ0.1 55 j)) := by
  have hT : Tr [55, 184, 185, 186, 187, 188] σ0 σ0 := Tr.rf
  obtain ⟨hW2, hW28, hW132, hW158, hW184, hL, hD, hu, ht⟩ := hC
  have hn := hW2.1
  have he := hW2.2.1
  have hD0 := hD
  have hL0 := hL
  have q10 := ti_one10 (x := σ0.1 2 0) hn.1 hn.2
  rw [f_X11_keep.eq_1]
  refine ok_if (fun hc1 => ?_) (fun hc1 => ?_)
  · exact absurd hc1 (by decide)
  · refine ok_if (fun hc2 => ?_) (fun hc2 => ?_)
    · refine ok_gR (v := 54) hT rfl (hR 0 6 rfl) ?_
      refine ok_aR (v := 184) hT rfl (by first | omega | decide | (have q1 := hD.1; have q2 := hD.2.1; simp only [Int32.le_iff_toInt_le, Int32.lt_iff_toInt_lt, ti_add, ti_sub, ti_mul, Int32.reduceToInt] at *; omega)) (by first | omega | decide | (have q1 := hD.1; have q2 := hD.2.1; simp only [Int32.le_iff_toInt_le, Int32.lt_iff_toInt_lt, ti_add, ti_sub, ti_mul, Int32.reduceToInt] at *; omega)) (hR 54 2 rfl) ?_
      refine ok_gR (v := 2) hT rfl hNw ?_
      refine ok_gC rfl ?_
      refine ok_zbT (Q := fun V σ => WI 184 σ.1) hT (s_X10_copyFrom_184_2 hN (hR.tr hT) (hW184) (hW2)) (by decide) (fun v6 σ7 hOσ7 hT hqv6 => ?_)
      have hqv6 : WI 184 σ7.1 := hqv6
      have r55_σ7 : σ7.1 55 = σ0.1 55 := hOσ7.2 55 (by decide)
      have hW2 : WI 2 σ7.1 := WI.tr hOσ7 (by decide) (by decide) (by decide) hW2
      have hW28 : WI 28 σ7.1 := WI.tr hOσ7 (by decide) (by decide) (by decide) hW28
      have hW132 : WI 132 σ7.1 := WI.tr hOσ7 (by decide) (by decide) (by decide) hW132
      have hW158 : WI 158 σ7.1 := WI.tr hOσ7 (by decide) (by decide) (by decide) hW158
      have hW184 : WI 184 σ7.1 := hqv6
      have hL : SI σ7.1 := SI.tr hOσ7 (by decide) (by decide) (by decide) (by decide) hL
      have hD : RD σ7.1 := RD.tr hOσ7 (by decide) (by decide) (by decide) (by decide) hD
      have hu : 2 ≤ (σ7.1 111 8).toInt ∧ (σ7.1 111 8).toInt ≤ 1600 := by rw [hOσ7.2 111 (by decide)] <;> exact hu
      have ht : 0 ≤ (σ7.1 0 1).toInt ∧ (σ7.1 0 1).toInt ≤ 600 := by rw [hOσ7.2 0 (by decide)] <;> exact ht
      have hB : ZB σ7.1 := ZB.tr hOσ7 (by decide) hB
      refine ok_gR (v := 55) hT rfl (hR 0 7 rfl) ?_
      refine ok_s16 hT rfl (by decide) (by first | omega | decide | (have q1 := hD.1; have q2 := hD.2.1; simp only [Int32.le_iff_toInt_le, Int32.lt_iff_toInt_lt, ti_add, ti_sub, ti_mul, Int32.reduceToInt] at *; omega)) (by first | omega | decide | (have q1 := hD.1; have q2 := hD.2.1; simp only [Int32.le_iff_toInt_le, Int32.lt_iff_toInt_lt, ti_add, ti_sub, ti_mul, Int32.reduceToInt] at *; omega)) (fun σ9 eσ9 hOσ9 hT => ?_)
      have u31 := upd_at eσ9 r55_σ7
      have hW2 : WI 2 σ9.1 := WI.tr hOσ9 (by decide) (by decide) (by decide) hW2
      have hW28 : WI 28 σ9.1 := WI.tr hOσ9 (by decide) (by decide) (by decide) hW28
      have hW132 : WI 132 σ9.1 := WI.tr hOσ9 (by decide) (by decide) (by decide) hW132
      have hW158 : WI 158 σ9.1 := WI.tr hOσ9 (by decide) (by decide) (by decide) hW158
      have hW184 : WI 184 σ9.1 := WI.tr hOσ9 (by decide) (by decide) (by decide) hW184
      have hL : SI σ9.1 := SI.tr hOσ9 (by decide) (by decide) (by decide) (by decide) hL
      have hD : RD σ9.1 := RD.tr hOσ9 (by decide) (by decide) (by decide) (by decide) hD
      have hu : 2 ≤ (σ9.1 111 8).toInt ∧ (σ9.1 111 8).toInt ≤ 1600 := by rw [hOσ9.2 111 (by decide)] <;> exact hu
      have ht : 0 ≤ (σ9.1 0 1).toInt ∧ (σ9.1 0 1).toInt ≤ 600 := by rw [hOσ9.2 0 (by decide)] <;> exact ht
      have hB : ZB σ9.1 := ZB_s eσ9 hB
      exact ok_some ⟨hT, (show CF σ9.1 ∧ ZB σ9.1 ∧ (0 : Int32) = 0 ∧ ∀ j, σ9.1 55 j = if j = 2 then vp_nar .boolean 1 else σ0.1 55 j from by exact ⟨⟨hW2, hW28, hW132, hW158, hW184, hL, hD, hu, ht⟩, hB, rfl, u31⟩)⟩
    · exact absurd hc2 (by decide)

set_option maxHeartbeats 4000000 in
set_option maxRecDepth 100000 in
theorem s_X11_back_n2_2v {N : Nat} (hN : 1048576 ≤ N)  {σ0 : zS}  (hR : RF σ0.2.2) (hNw : σ0.2.2 0 4 = 2) (hPw : σ0.2.2 0 5 = 28) (hC : CF σ0.1) : Ok (f_X11_back N 0 2 σ0) (fun r => Tr [2, 3, 4, 5, 6] σ0 r.2 ∧ (CF r.2.1 ∧ r.1 = if σ0.1 55 2 = 0 then -6 else 0)) := by
  have hT : Tr [2, 3, 4, 5, 6] σ0 σ0 := Tr.rf
  obtain ⟨hW2, hW28, hW132, hW158, hW184, hL, hD, hu, ht⟩ := hC
  have hn := hW2.1
  have he := hW2.2.1
  have hD0 := hD
  have hL0 := hL
  have q10 := ti_one10 (x := σ0.1 2 0) hn.1 hn.2
  rw [f_X11_back.eq_1]
  refine ok_if (fun hc1 => ?_) (fun hc1 => ?_)
  · exact absurd hc1 (by decide)
  · refine ok_if (fun hc2 => ?_) (fun hc2 => ?_)
    · refine ok_gR (v := 55) hT rfl (hR 0 7 rfl) ?_
      refine ok_aIn rfl (by first | omega | decide | (have q1 := hD.1; have q2 := hD.2.1; simp only [Int32.le_iff_toInt_le, Int32.lt_iff_toInt_lt, ti_add, ti_sub, ti_mul, Int32.reduceToInt] at *; omega)) (by first | omega | decide | (have q1 := hD.1; have q2 := hD.2.1; simp only [Int32.le_iff_toInt_le, Int32.lt_iff_toInt_lt, ti_add, ti_sub, ti_mul, Int32.reduceToInt] at *; omega)) (fun v4 ev4 => ?_)
      have w17 : v4 = σ0.1 55 2 := ev4
      refine ok_if (fun hc5 => ?_) (fun hc5 => ?_)
      · have e18 := hc5
        exact ok_some ⟨hT, (show CF σ0.1 ∧ (-6 : Int32) = if σ0.1 55 2 = 0 then -6 else 0 from by first | exact ⟨⟨hW2, hW28, hW132, hW158, hW184, hL, hD, hu, ht⟩, (if_pos (w17 ▸ e18)).symm⟩ | exact ⟨⟨hW2, hW28, hW132, hW158, hW184, hL, hD, hu, ht⟩, (if_neg (w17 ▸ e18)).symm⟩)⟩
      · have e18 := hc5
        refine ok_gR (v := 2) hT rfl hNw ?_
        refine ok_gR (v := 54) hT rfl (hR 0 6 rfl) ?_
        refine ok_aR (v := 184) hT rfl (by first | omega | decide | (have q1 := hD.1; have q2 := hD.2.1; simp only [Int32.le_iff_toInt_le, Int32.lt_iff_toInt_lt, ti_add, ti_sub, ti_mul, Int32.reduceToInt] at *; omega)) (by first | omega | decide | (have q1 := hD.1; have q2 := hD.2.1; simp only [Int32.le_iff_toInt_le, Int32.lt_iff_toInt_lt, ti_add, ti_sub, ti_mul, Int32.reduceToInt] at *; omega)) (hR 54 2 rfl) ?_
        refine ok_gC rfl ?_
        refine ok_zbT (Q := fun V σ => WI 2 σ.1) hT (s_X10_copyFrom_2_184 hN (hR.tr hT) (hW2) (hW184)) (by decide) (fun v9 σ10 hOσ10 hT hqv9 => ?_)
        have hqv9 : WI 2 σ10.1 := hqv9
        have hW2 : WI 2 σ10.1 := hqv9
        have hW28 : WI 28 σ10.1 := WI.tr hOσ10 (by decide) (by decide) (by decide) hW28
        have hW132 : WI 132 σ10.1 := WI.tr hOσ10 (by decide) (by decide) (by decide) hW132
        have hW158 : WI 158 σ10.1 := WI.tr hOσ10 (by decide) (by decide) (by decide) hW158
        have hW184 : WI 184 σ10.1 := WI.tr hOσ10 (by decide) (by decide) (by decide) hW184
        have hL : SI σ10.1 := SI.tr hOσ10 (by decide) (by decide) (by decide) (by decide) hL
        have hD : RD σ10.1 := RD.tr hOσ10 (by decide) (by decide) (by decide) (by decide) hD
        have hu : 2 ≤ (σ10.1 111 8).toInt ∧ (σ10.1 111 8).toInt ≤ 1600 := by rw [hOσ10.2 111 (by decide)] <;> exact hu
        have ht : 0 ≤ (σ10.1 0 1).toInt ∧ (σ10.1 0 1).toInt ≤ 600 := by rw [hOσ10.2 0 (by decide)] <;> exact ht
        exact ok_some ⟨hT, (show CF σ10.1 ∧ (0 : Int32) = if σ0.1 55 2 = 0 then -6 else 0 from by first | exact ⟨⟨hW2, hW28, hW132, hW158, hW184, hL, hD, hu, ht⟩, (if_pos (w17 ▸ e18)).symm⟩ | exact ⟨⟨hW2, hW28, hW132, hW158, hW184, hL, hD, hu, ht⟩, (if_neg (w17 ▸ e18)).symm⟩)⟩
    · exact absurd hc2 (by decide)

set_option maxHeartbeats 4000000 in
set_option maxRecDepth 100000 in
theorem s_X11_write_n2v {N : Nat} (hN : 1048576 ≤ N) {x1 : Int32} {x2 : Int32} {x3 : Int64} {σ0 : zS}  (hR : RF σ0.2.2) (hNw : σ0.2.2 0 4 = 2) (hPw : σ0.2.2 0 5 = 28) (hC : CF σ0.1) : Ok (f_X11_write N 0 x1 x2 x3 σ0) (fun r => Tr [] σ0 r.2 ∧ (CF r.2.1 ∧ r.1 = wrV x1 x2 (σ0.1 (210 + 2 * x1.toInt.toNat) 2))) := by
  have hT : Tr [] σ0 σ0 := Tr.rf
  obtain ⟨hW2, hW28, hW132, hW158, hW184, hL, hD, hu, ht⟩ := hC
  have hn := hW2.1
  have he := hW2.2.1
  have hD0 := hD
  have hL0 := hL
  have q10 := ti_one10 (x := σ0.1 2 0) hn.1 hn.2
  rw [f_X11_write.eq_1]
  refine ok_gC rfl ?_
  refine ok_zbX (Q := fun V => (V = 0 → ¬ (0 ≤ x1.toInt ∧ x1.toInt ≤ 3)) ∧ (¬ V = 0 → 0 ≤ x1.toInt ∧ x1.toInt ≤ 3)) (x_X11_isSlot) (fun v1 hqv1 => ?_)
  refine ok_if (fun hc3 => ?_) (fun hc3 => ?_)
  · have qhc3 := hqv1.1 hc3
    exact ok_some ⟨hT, (show CF σ0.1 ∧ (-2 : Int32) = wrV x1 x2 (σ0.1 (210 + 2 * x1.toInt.toNat) 2) from by first | exact ⟨⟨hW2, hW28, hW132, hW158, hW184, hL, hD, hu, ht⟩, (if_neg (by first | omega | (simp only [Int32.le_iff_toInt_le, Int32.lt_iff_toInt_lt, ti_add, ti_sub, ti_mul, Int32.reduceToInt] at *; omega))).symm⟩ | exact ⟨⟨hW2, hW28, hW132, hW158, hW184, hL, hD, hu, ht⟩, by rw [← hqq16]; (first | exact (if_neg (by first | omega | (simp only [Int32.le_iff_toInt_le, Int32.lt_iff_toInt_lt, ti_add, ti_sub, ti_mul, Int32.reduceToInt] at *; omega))).symm | exact ((if_pos (by first | omega | (simp only [Int32.le_iff_toInt_le, Int32.lt_iff_toInt_lt, ti_add, ti_sub, ti_mul, Int32.reduceToInt] at *; omega))).trans (if_pos (by first | omega | (simp only [Int32.le_iff_toInt_le, Int32.lt_iff_toInt_lt, ti_add, ti_sub, ti_mul, Int32.reduceToInt] at *; omega)))).symm | exact ((if_pos (by first | omega | (simp only [Int32.le_iff_toInt_le, Int32.lt_iff_toInt_lt, ti_add, ti_sub, ti_mul, Int32.reduceToInt] at *; omega))).trans ((if_neg (by first | omega | (simp only [Int32.le_iff_toInt_le, Int32.lt_iff_toInt_lt, ti_add, ti_sub, ti_mul, Int32.reduceToInt] at *; omega))).trans (if_pos (by first | omega | (simp only [Int32.le_iff_toInt_le, Int32.lt_iff_toInt_lt, ti_add, ti_sub, ti_mul, Int32.reduceToInt] at *; omega))))).symm | exact ((if_pos (by first | omega | (simp only [Int32.le_iff_toInt_le, Int32.lt_iff_toInt_lt, ti_add, ti_sub, ti_mul, Int32.reduceToInt] at *; omega))).trans ((if_neg (by first | omega | (simp only [Int32.le_iff_toInt_le, Int32.lt_iff_toInt_lt, ti_add, ti_sub, ti_mul, Int32.reduceToInt] at *; omega))).trans (if_neg (by first | omega | (simp only [Int32.le_iff_toInt_le, Int32.lt_iff_toInt_lt, ti_add, ti_sub, ti_mul, Int32.reduceToInt] at *; omega))))).symm)⟩)⟩
  · have qhc3 := hqv1.2 hc3
    refine ok_gR (v := 56) hT rfl (hR 0 8 rfl) ?_
    obtain ⟨q6, eq6, kq6⟩ := arrS hR (k := 56) (i := x1) rfl (by first | omega | decide | (have q1 := hD.1; have q2 := hD.2.1; simp only [Int32.le_iff_toInt_le, Int32.lt_iff_toInt_lt, ti_add, ti_sub, ti_mul, Int32.reduceToInt] at *; omega)) (by first | omega | decide | (have q1 := hD.1; have q2 := hD.2.1; simp only [Int32.le_iff_toInt_le, Int32.lt_iff_toInt_lt, ti_add, ti_sub, ti_mul, Int32.reduceToInt] at *; omega))
    refine ok_aR (v := q6) hT rfl (by first | omega | decide | (have q1 := hD.1; have q2 := hD.2.1; simp only [Int32.le_iff_toInt_le, Int32.lt_iff_toInt_lt, ti_add, ti_sub, ti_mul, Int32.reduceToInt] at *; omega)) (by first | omega | decide | (have q1 := hD.1; have q2 := hD.2.1; simp only [Int32.le_iff_toInt_le, Int32.lt_iff_toInt_lt, ti_add, ti_sub, ti_mul, Int32.reduceToInt] at *; omega)) eq6 ?_
    have hq16 := hL0 q6 kq6
    have hqq16 := slotC hR (x := x1) (by omega) (by omega) eq6
    have KQ9 := kq6
    refine ok_gC kq6 ?_
    refine ok_zbX (Q := fun V => (V = 0 → 0 ≤ (σ0.1 q6 2).toInt) ∧ (¬ V = 0 → (σ0.1 q6 2).toInt < 0)) (x_X9_isBare (by first | exact kq4 | exact KQ9)) (fun v7 hqv7 => ?_)
    refine ok_if (fun hc9 => ?_) (fun hc9 => ?_)
    · have qhc9 := hqv7.1 hc9
      refine ok_if (fun hc10 => ?_) (fun hc10 => ?_)
      · exact ok_some ⟨hT, (show CF σ0.1 ∧ (-7 : Int32) = wrV x1 x2 (σ0.1 (210 + 2 * x1.toInt.toNat) 2) from by first | exact ⟨⟨hW2, hW28, hW132, hW158, hW184, hL, hD, hu, ht⟩, (if_neg (by first | omega | (simp only [Int32.le_iff_toInt_le, Int32.lt_iff_toInt_lt, ti_add, ti_sub, ti_mul, Int32.reduceToInt] at *; omega))).symm⟩ | exact ⟨⟨hW2, hW28, hW132, hW158, hW184, hL, hD, hu, ht⟩, by rw [← hqq16]; (first | exact (if_neg (by first | omega | (simp only [Int32.le_iff_toInt_le, Int32.lt_iff_toInt_lt, ti_add, ti_sub, ti_mul, Int32.reduceToInt] at *; omega))).symm | exact ((if_pos (by first | omega | (simp only [Int32.le_iff_toInt_le, Int32.lt_iff_toInt_lt, ti_add, ti_sub, ti_mul, Int32.reduceToInt] at *; omega))).trans (if_pos (by first | omega | (simp only [Int32.le_iff_toInt_le, Int32.lt_iff_toInt_lt, ti_add, ti_sub, ti_mul, Int32.reduceToInt] at *; omega)))).symm | exact ((if_pos (by first | omega | (simp only [Int32.le_iff_toInt_le, Int32.lt_iff_toInt_lt, ti_add, ti_sub, ti_mul, Int32.reduceToInt] at *; omega))).trans ((if_neg (by first | omega | (simp only [Int32.le_iff_toInt_le, Int32.lt_iff_toInt_lt, ti_add, ti_sub, ti_mul, Int32.reduceToInt] at *; omega))).trans (if_pos (by first | omega | (simp only [Int32.le_iff_toInt_le, Int32.lt_iff_toInt_lt, ti_add, ti_sub, ti_mul, Int32.reduceToInt] at *; omega))))).symm | exact ((if_pos (by first | omega | (simp only [Int32.le_iff_toInt_le, Int32.lt_iff_toInt_lt, ti_add, ti_sub, ti_mul, Int32.reduceToInt] at *; omega))).trans ((if_neg (by first | omega | (simp only [Int32.le_iff_toInt_le, Int32.lt_iff_toInt_lt, ti_add, ti_sub, ti_mul, Int32.reduceToInt] at *; omega))).trans (if_neg (by first | omega | (simp only [Int32.le_iff_toInt_le, Int32.lt_iff_toInt_lt, ti_add, ti_sub, ti_mul, Int32.reduceToInt] at *; omega))))).symm)⟩)⟩
      · refine ok_gI0 hT kq6 List.not_mem_nil ?_
        refine ok_if (fun hc12 => ?_) (fun hc12 => ?_)
        · refine ok_gR hT kq6 (slot_R hR kq6).1 ?_
          refine ok_gC kq6 ?_
          refine ok_zbT (Q := fun V σ => True) hT (s_X9_cut hN (hR.tr hT) kq6) (fun _ h9 => absurd h9 List.not_mem_nil) (fun v14 σ15 hOσ15 hT hqv14 => ?_)
          have hW2 : WI 2 σ15.1 := WI.tr hOσ15 (by decide) (by decide) (by decide) hW2
          have hW28 : WI 28 σ15.1 := WI.tr hOσ15 (by decide) (by decide) (by decide) hW28
          have hW132 : WI 132 σ15.1 := WI.tr hOσ15 (by decide) (by decide) (by decide) hW132
          have hW158 : WI 158 σ15.1 := WI.tr hOσ15 (by decide) (by decide) (by decide) hW158
          have hW184 : WI 184 σ15.1 := WI.tr hOσ15 (by decide) (by decide) (by decide) hW184
          have hL : SI σ15.1 := SI.tr hOσ15 (by decide) (by decide) (by decide) (by decide) hL
          have hD : RD σ15.1 := RD.tr hOσ15 (by decide) (by decide) (by decide) (by decide) hD
          have hu : 2 ≤ (σ15.1 111 8).toInt ∧ (σ15.1 111 8).toInt ≤ 1600 := by rw [hOσ15.2 111 (by decide)] <;> exact hu
          have ht : 0 ≤ (σ15.1 0 1).toInt ∧ (σ15.1 0 1).toInt ≤ 600 := by rw [hOσ15.2 0 (by decide)] <;> exact ht
          refine ok_sJ hT (slot_R hR kq6).2 (by first | omega | decide | (have q1 := hD.1; have q2 := hD.2.1; simp only [Int32.le_iff_toInt_le, Int32.lt_iff_toInt_lt, ti_add, ti_sub, ti_mul, Int32.reduceToInt] at *; omega)) (by first | omega | decide | (have q1 := hD.1; have q2 := hD.2.1; simp only [Int32.le_iff_toInt_le, Int32.lt_iff_toInt_lt, ti_add, ti_sub, ti_mul, Int32.reduceToInt] at *; omega)) (fun σ16 eσ16 hOσ16 hT => ?_)
          have hW2 : WI 2 σ16.1 := WI.tr hOσ16 (by decide) (by decide) (by decide) hW2
          have hW28 : WI 28 σ16.1 := WI.tr hOσ16 (by decide) (by decide) (by decide) hW28
          have hW132 : WI 132 σ16.1 := WI.tr hOσ16 (by decide) (by decide) (by decide) hW132
          have hW158 : WI 158 σ16.1 := WI.tr hOσ16 (by decide) (by decide) (by decide) hW158
          have hW184 : WI 184 σ16.1 := WI.tr hOσ16 (by decide) (by decide) (by decide) hW184
          have hL : SI σ16.1 := SI.tr hOσ16 (by decide) (by decide) (by decide) (by decide) hL
          have hD : RD σ16.1 := RD.tr hOσ16 (by decide) (by decide) (by decide) (by decide) hD
          have hu : 2 ≤ (σ16.1 111 8).toInt ∧ (σ16.1 111 8).toInt ≤ 1600 := by rw [hOσ16.2 111 (by decide)] <;> exact hu
          have ht : 0 ≤ (σ16.1 0 1).toInt ∧ (σ16.1 0 1).toInt ≤ 600 := by rw [hOσ16.2 0 (by decide)] <;> exact ht
          exact ok_some ⟨hT, (show CF σ16.1 ∧ (0 : Int32) = wrV x1 x2 (σ0.1 (210 + 2 * x1.toInt.toNat) 2) from by first | exact ⟨⟨hW2, hW28, hW132, hW158, hW184, hL, hD, hu, ht⟩, (if_neg (by first | omega | (simp only [Int32.le_iff_toInt_le, Int32.lt_iff_toInt_lt, ti_add, ti_sub, ti_mul, Int32.reduceToInt] at *; omega))).symm⟩ | exact ⟨⟨hW2, hW28, hW132, hW158, hW184, hL, hD, hu, ht⟩, by rw [← hqq16]; (first | exact (if_neg (by first | omega | (simp only [Int32.le_iff_toInt_le, Int32.lt_iff_toInt_lt, ti_add, ti_sub, ti_mul, Int32.reduceToInt] at *; omega))).symm | exact ((if_pos (by first | omega | (simp only [Int32.le_iff_toInt_le, Int32.lt_iff_toInt_lt, ti_add, ti_sub, ti_mul, Int32.reduceToInt] at *; omega))).trans (if_pos (by first | omega | (simp only [Int32.le_iff_toInt_le, Int32.lt_iff_toInt_lt, ti_add, ti_sub, ti_mul, Int32.reduceToInt] at *; omega)))).symm | exact ((if_pos (by first | omega | (simp only [Int32.le_iff_toInt_le, Int32.lt_iff_toInt_lt, ti_add, ti_sub, ti_mul, Int32.reduceToInt] at *; omega))).trans ((if_neg (by first | omega | (simp only [Int32.le_iff_toInt_le, Int32.lt_iff_toInt_lt, ti_add, ti_sub, ti_mul, Int32.reduceToInt] at *; omega))).trans (if_pos (by first | omega | (simp only [Int32.le_iff_toInt_le, Int32.lt_iff_toInt_lt, ti_add, ti_sub, ti_mul, Int32.reduceToInt] at *; omega))))).symm | exact ((if_pos (by first | omega | (simp only [Int32.le_iff_toInt_le, Int32.lt_iff_toInt_lt, ti_add, ti_sub, ti_mul, Int32.reduceToInt] at *; omega))).trans ((if_neg (by first | omega | (simp only [Int32.le_iff_toInt_le, Int32.lt_iff_toInt_lt, ti_add, ti_sub, ti_mul, Int32.reduceToInt] at *; omega))).trans (if_neg (by first | omega | (simp only [Int32.le_iff_toInt_le, Int32.lt_iff_toInt_lt, ti_add, ti_sub, ti_mul, Int32.reduceToInt] at *; omega))))).symm)⟩)⟩
        · exact ok_some ⟨hT, (show CF σ0.1 ∧ (-7 : Int32) = wrV x1 x2 (σ0.1 (210 + 2 * x1.toInt.toNat) 2) from by first | exact ⟨⟨hW2, hW28, hW132, hW158, hW184, hL, hD, hu, ht⟩, (if_neg (by first | omega | (simp only [Int32.le_iff_toInt_le, Int32.lt_iff_toInt_lt, ti_add, ti_sub, ti_mul, Int32.reduceToInt] at *; omega))).symm⟩ | exact ⟨⟨hW2, hW28, hW132, hW158, hW184, hL, hD, hu, ht⟩, by rw [← hqq16]; (first | exact (if_neg (by first | omega | (simp only [Int32.le_iff_toInt_le, Int32.lt_iff_toInt_lt, ti_add, ti_sub, ti_mul, Int32.reduceToInt] at *; omega))).symm | exact ((if_pos (by first | omega | (simp only [Int32.le_iff_toInt_le, Int32.lt_iff_toInt_lt, ti_add, ti_sub, ti_mul, Int32.reduceToInt] at *; omega))).trans (if_pos (by first | omega | (simp only [Int32.le_iff_toInt_le, Int32.lt_iff_toInt_lt, ti_add, ti_sub, ti_mul, Int32.reduceToInt] at *; omega)))).symm | exact ((if_pos (by first | omega | (simp only [Int32.le_iff_toInt_le, Int32.lt_iff_toInt_lt, ti_add, ti_sub, ti_mul, Int32.reduceToInt] at *; omega))).trans ((if_neg (by first | omega | (simp only [Int32.le_iff_toInt_le, Int32.lt_iff_toInt_lt, ti_add, ti_sub, ti_mul, Int32.reduceToInt] at *; omega))).trans (if_pos (by first | omega | (simp only [Int32.le_iff_toInt_le, Int32.lt_iff_toInt_lt, ti_add, ti_sub, ti_mul, Int32.reduceToInt] at *; omega))))).symm | exact ((if_pos (by first | omega | (simp only [Int32.le_iff_toInt_le, Int32.lt_iff_toInt_lt, ti_add, ti_sub, ti_mul, Int32.reduceToInt] at *; omega))).trans ((if_neg (by first | omega | (simp only [Int32.le_iff_toInt_le, Int32.lt_iff_toInt_lt, ti_add, ti_sub, ti_mul, Int32.reduceToInt] at *; omega))).trans (if_neg (by first | omega | (simp only [Int32.le_iff_toInt_le, Int32.lt_iff_toInt_lt, ti_add, ti_sub, ti_mul, Int32.reduceToInt] at *; omega))))).symm)⟩)⟩
    · have qhc9 := hqv7.2 hc9
      exact ok_some ⟨hT, (show CF σ0.1 ∧ (-6 : Int32) = wrV x1 x2 (σ0.1 (210 + 2 * x1.toInt.toNat) 2) from by first | exact ⟨⟨hW2, hW28, hW132, hW158, hW184, hL, hD, hu, ht⟩, (if_neg (by first | omega | (simp only [Int32.le_iff_toInt_le, Int32.lt_iff_toInt_lt, ti_add, ti_sub, ti_mul, Int32.reduceToInt] at *; omega))).symm⟩ | exact ⟨⟨hW2, hW28, hW132, hW158, hW184, hL, hD, hu, ht⟩, by rw [← hqq16]; (first | exact (if_neg (by first | omega | (simp only [Int32.le_iff_toInt_le, Int32.lt_iff_toInt_lt, ti_add, ti_sub, ti_mul, Int32.reduceToInt] at *; omega))).symm | exact ((if_pos (by first | omega | (simp only [Int32.le_iff_toInt_le, Int32.lt_iff_toInt_lt, ti_add, ti_sub, ti_mul, Int32.reduceToInt] at *; omega))).trans (if_pos (by first | omega | (simp only [Int32.le_iff_toInt_le, Int32.lt_iff_toInt_lt, ti_add, ti_sub, ti_mul, Int32.reduceToInt] at *; omega)))).symm | exact ((if_pos (by first | omega | (simp only [Int32.le_iff_toInt_le, Int32.lt_iff_toInt_lt, ti_add, ti_sub, ti_mul, Int32.reduceToInt] at *; omega))).trans ((if_neg (by first | omega | (simp only [Int32.le_iff_toInt_le, Int32.lt_iff_toInt_lt, ti_add, ti_sub, ti_mul, Int32.reduceToInt] at *; omega))).trans (if_pos (by first | omega | (simp only [Int32.le_iff_toInt_le, Int32.lt_iff_toInt_lt, ti_add, ti_sub, ti_mul, Int32.reduceToInt] at *; omega))))).symm | exact ((if_pos (by first | omega | (simp only [Int32.le_iff_toInt_le, Int32.lt_iff_toInt_lt, ti_add, ti_sub, ti_mul, Int32.reduceToInt] at *; omega))).trans ((if_neg (by first | omega | (simp only [Int32.le_iff_toInt_le, Int32.lt_iff_toInt_lt, ti_add, ti_sub, ti_mul, Int32.reduceToInt] at *; omega))).trans (if_neg (by first | omega | (simp only [Int32.le_iff_toInt_le, Int32.lt_iff_toInt_lt, ti_add, ti_sub, ti_mul, Int32.reduceToInt] at *; omega))))).symm)⟩)⟩

set_option maxHeartbeats 4000000 in
set_option maxRecDepth 100000 in
theorem s_X11_paste_n2v {N : Nat} (hN : 1048576 ≤ N) {x1 : Int32} {x2 : Int32} {x3 : Int32} {x4 : Int32} {x5 : Int32} {σ0 : zS}  (hR : RF σ0.2.2) (hNw : σ0.2.2 0 4 = 2) (hPw : σ0.2.2 0 5 = 28) (hC : CF σ0.1) : Ok (f_X11_paste N 0 x1 x2 x3 x4 x5 σ0) (fun r => Tr [] σ0 r.2 ∧ (CF r.2.1 ∧ r.1 = paV x1 x2 x3 x4 x5 (σ0.1 (210 + 2 * x1.toInt.toNat) 2) (σ0.1 (210 + 2 * x3.toInt.toNat) 2) (σ0.1 (210 + 2 * x1.toInt.toNat) 1) (σ0.1 (210 + 2 * x3.toInt.toNat) 1))) := by
  have hT : Tr [] σ0 σ0 := Tr.rf
  obtain ⟨hW2, hW28, hW132, hW158, hW184, hL, hD, hu, ht⟩ := hC
  have hn := hW2.1
  have he := hW2.2.1
  have hD0 := hD
  have hL0 := hL
  have q10 := ti_one10 (x := σ0.1 2 0) hn.1 hn.2
  rw [f_X11_paste.eq_1]
  refine ok_gC rfl ?_
  refine ok_zbX (Q := fun V => (V = 0 → ¬ (0 ≤ x1.toInt ∧ x1.toInt ≤ 3)) ∧ (¬ V = 0 → 0 ≤ x1.toInt ∧ x1.toInt ≤ 3)) (x_X11_isSlot) (fun v1 hqv1 => ?_)
  refine ok_if (fun hc3 => ?_) (fun hc3 => ?_)
  · have qhc3 := hqv1.1 hc3
    exact ok_some ⟨hT, (show CF σ0.1 ∧ (-2 : Int32) = paV x1 x2 x3 x4 x5 (σ0.1 (210 + 2 * x1.toInt.toNat) 2) (σ0.1 (210 + 2 * x3.toInt.toNat) 2) (σ0.1 (210 + 2 * x1.toInt.toNat) 1) (σ0.1 (210 + 2 * x3.toInt.toNat) 1) from by first | exact ⟨⟨hW2, hW28, hW132, hW158, hW184, hL, hD, hu, ht⟩, (if_neg (by first | omega | (simp only [Int32.le_iff_toInt_le, Int32.lt_iff_toInt_lt, ti_add, ti_sub, ti_mul, Int32.reduceToInt] at *; omega))).symm⟩ | exact ⟨⟨hW2, hW28, hW132, hW158, hW184, hL, hD, hu, ht⟩, by rw [← hqq24, ← hqq32]; (first | exact ((if_pos (by first | omega | (simp only [Int32.le_iff_toInt_le, Int32.lt_iff_toInt_lt, ti_add, ti_sub, ti_mul, Int32.reduceToInt] at *; omega))).trans (if_pos (by first | omega | (simp only [Int32.le_iff_toInt_le, Int32.lt_iff_toInt_lt, ti_add, ti_sub, ti_mul, Int32.reduceToInt] at *; omega)))).symm | exact ((if_pos (by first | omega | (simp only [Int32.le_iff_toInt_le, Int32.lt_iff_toInt_lt, ti_add, ti_sub, ti_mul, Int32.reduceToInt] at *; omega))).trans ((if_neg (by first | omega | (simp only [Int32.le_iff_toInt_le, Int32.lt_iff_toInt_lt, ti_add, ti_sub, ti_mul, Int32.reduceToInt] at *; omega))).trans (if_neg n64))).symm | exact ((if_pos (by first | omega | (simp only [Int32.le_iff_toInt_le, Int32.lt_iff_toInt_lt, ti_add, ti_sub, ti_mul, Int32.reduceToInt] at *; omega))).trans ((if_neg (by first | omega | (simp only [Int32.le_iff_toInt_le, Int32.lt_iff_toInt_lt, ti_add, ti_sub, ti_mul, Int32.reduceToInt] at *; omega))).trans ((if_pos n64).trans (if_neg (by first | omega | (simp only [Int32.le_iff_toInt_le, Int32.lt_iff_toInt_lt, ti_add, ti_sub, ti_mul, Int32.reduceToInt] at *; omega)))))).symm | exact ((if_pos (by first | omega | (simp only [Int32.le_iff_toInt_le, Int32.lt_iff_toInt_lt, ti_add, ti_sub, ti_mul, Int32.reduceToInt] at *; omega))).trans ((if_neg (by first | omega | (simp only [Int32.le_iff_toInt_le, Int32.lt_iff_toInt_lt, ti_add, ti_sub, ti_mul, Int32.reduceToInt] at *; omega))).trans ((if_pos n64).trans (if_pos (by first | omega | (simp only [Int32.le_iff_toInt_le, Int32.lt_iff_toInt_lt, ti_add, ti_sub, ti_mul, Int32.reduceToInt] at *; omega)))))).symm)⟩)⟩
  · have qhc3 := hqv1.2 hc3
    refine ok_gC rfl ?_
    refine ok_zbX (Q := fun V => (V = 0 → ¬ (0 ≤ x3.toInt ∧ x3.toInt ≤ 3)) ∧ (¬ V = 0 → 0 ≤ x3.toInt ∧ x3.toInt ≤ 3)) (x_X11_isSlot) (fun v4 hqv4 => ?_)
    refine ok_if (fun hc6 => ?_) (fun hc6 => ?_)
    · have qhc6 := hqv4.1 hc6
      exact ok_some ⟨hT, (show CF σ0.1 ∧ (-2 : Int32) = paV x1 x2 x3 x4 x5 (σ0.1 (210 + 2 * x1.toInt.toNat) 2) (σ0.1 (210 + 2 * x3.toInt.toNat) 2) (σ0.1 (210 + 2 * x1.toInt.toNat) 1) (σ0.1 (210 + 2 * x3.toInt.toNat) 1) from by first | exact ⟨⟨hW2, hW28, hW132, hW158, hW184, hL, hD, hu, ht⟩, (if_neg (by first | omega | (simp only [Int32.le_iff_toInt_le, Int32.lt_iff_toInt_lt, ti_add, ti_sub, ti_mul, Int32.reduceToInt] at *; omega))).symm⟩ | exact ⟨⟨hW2, hW28, hW132, hW158, hW184, hL, hD, hu, ht⟩, by rw [← hqq24, ← hqq32]; (first | exact ((if_pos (by first | omega | (simp only [Int32.le_iff_toInt_le, Int32.lt_iff_toInt_lt, ti_add, ti_sub, ti_mul, Int32.reduceToInt] at *; omega))).trans (if_pos (by first | omega | (simp only [Int32.le_iff_toInt_le, Int32.lt_iff_toInt_lt, ti_add, ti_sub, ti_mul, Int32.reduceToInt] at *; omega)))).symm | exact ((if_pos (by first | omega | (simp only [Int32.le_iff_toInt_le, Int32.lt_iff_toInt_lt, ti_add, ti_sub, ti_mul, Int32.reduceToInt] at *; omega))).trans ((if_neg (by first | omega | (simp only [Int32.le_iff_toInt_le, Int32.lt_iff_toInt_lt, ti_add, ti_sub, ti_mul, Int32.reduceToInt] at *; omega))).trans (if_neg n64))).symm | exact ((if_pos (by first | omega | (simp only [Int32.le_iff_toInt_le, Int32.lt_iff_toInt_lt, ti_add, ti_sub, ti_mul, Int32.reduceToInt] at *; omega))).trans ((if_neg (by first | omega | (simp only [Int32.le_iff_toInt_le, Int32.lt_iff_toInt_lt, ti_add, ti_sub, ti_mul, Int32.reduceToInt] at *; omega))).trans ((if_pos n64).trans (if_neg (by first | omega | (simp only [Int32.le_iff_toInt_le, Int32.lt_iff_toInt_lt, ti_add, ti_sub, ti_mul, Int32.reduceToInt] at *; omega)))))).symm | exact ((if_pos (by first | omega | (simp only [Int32.le_iff_toInt_le, Int32.lt_iff_toInt_lt, ti_add, ti_sub, ti_mul, Int32.reduceToInt] at *; omega))).trans ((if_neg (by first | omega | (simp only [Int32.le_iff_toInt_le, Int32.lt_iff_toInt_lt, ti_add, ti_sub, ti_mul, Int32.reduceToInt] at *; omega))).trans ((if_pos n64).trans (if_pos (by first | omega | (simp only [Int32.le_iff_toInt_le, Int32.lt_iff_toInt_lt, ti_add, ti_sub, ti_mul, Int32.reduceToInt] at *; omega)))))).symm)⟩)⟩
    · have qhc6 := hqv4.2 hc6
      refine ok_gR (v := 56) hT rfl (hR 0 8 rfl) ?_
      obtain ⟨q9, eq9, kq9⟩ := arrS hR (k := 56) (i := x1) rfl (by first | omega | decide | (have q1 := hD.1; have q2 := hD.2.1; simp only [Int32.le_iff_toInt_le, Int32.lt_iff_toInt_lt, ti_add, ti_sub, ti_mul, Int32.reduceToInt] at *; omega)) (by first | omega | decide | (have q1 := hD.1; have q2 := hD.2.1; simp only [Int32.le_iff_toInt_le, Int32.lt_iff_toInt_lt, ti_add, ti_sub, ti_mul, Int32.reduceToInt] at *; omega))
      refine ok_aR (v := q9) hT rfl (by first | omega | decide | (have q1 := hD.1; have q2 := hD.2.1; simp only [Int32.le_iff_toInt_le, Int32.lt_iff_toInt_lt, ti_add, ti_sub, ti_mul, Int32.reduceToInt] at *; omega)) (by first | omega | decide | (have q1 := hD.1; have q2 := hD.2.1; simp only [Int32.le_iff_toInt_le, Int32.lt_iff_toInt_lt, ti_add, ti_sub, ti_mul, Int32.reduceToInt] at *; omega)) eq9 ?_
      have hq24 := hL0 q9 kq9
      have hqq24 := slotC hR (x := x1) (by omega) (by omega) eq9
      have KQ24 := kq9
      refine ok_gR (v := 56) hT rfl (hR 0 8 rfl) ?_
      obtain ⟨q12, eq12, kq12⟩ := arrS hR (k := 56) (i := x3) rfl (by first | omega | decide | (have q1 := hD.1; have q2 := hD.2.1; simp only [Int32.le_iff_toInt_le, Int32.lt_iff_toInt_lt, ti_add, ti_sub, ti_mul, Int32.reduceToInt] at *; omega)) (by first | omega | decide | (have q1 := hD.1; have q2 := hD.2.1; simp only [Int32.le_iff_toInt_le, Int32.lt_iff_toInt_lt, ti_add, ti_sub, ti_mul, Int32.reduceToInt] at *; omega))
      refine ok_aR (v := q12) hT rfl (by first | omega | decide | (have q1 := hD.1; have q2 := hD.2.1; simp only [Int32.le_iff_toInt_le, Int32.lt_iff_toInt_lt, ti_add, ti_sub, ti_mul, Int32.reduceToInt] at *; omega)) (by first | omega | decide | (have q1 := hD.1; have q2 := hD.2.1; simp only [Int32.le_iff_toInt_le, Int32.lt_iff_toInt_lt, ti_add, ti_sub, ti_mul, Int32.reduceToInt] at *; omega)) eq12 ?_
      have hq32 := hL0 q12 kq12
      have hqq32 := slotC hR (x := x3) (by omega) (by omega) eq12
      have KQ32 := kq12
      refine ok_gC kq9 ?_
      refine ok_zbX (Q := fun V => (V = 0 → 0 ≤ (σ0.1 q9 2).toInt) ∧ (¬ V = 0 → (σ0.1 q9 2).toInt < 0)) (x_X9_isBare KQ24) (fun v13 hqv13 => ?_)
      refine ok_if (fun hc15 => ?_) (fun hc15 => ?_)
      · have qhc15 := hqv13.1 hc15
        refine ok_gC kq12 ?_
        refine ok_zbX (Q := fun V => (V = 0 → 0 ≤ (σ0.1 q12 2).toInt) ∧ (¬ V = 0 → (σ0.1 q12 2).toInt < 0)) (x_X9_isBare KQ32) (fun v16 hqv16 => ?_)
        refine ok_if (fun hc18 => ?_) (fun hc18 => ?_)
        · have qhc18 := hqv16.1 hc18
          refine ok_gI0 hT kq9 List.not_mem_nil ?_
          refine ok_gI0 hT kq12 List.not_mem_nil ?_
          refine ok_if (fun hc21 => ?_) (fun hc21 => ?_)
          · have n64 := hc21
            refine ok_gC kq9 ?_
            refine ok_zbX (Q := fun V => (V = 0 → ¬ (0 ≤ x2.toInt ∧ 0 ≤ x5.toInt ∧ x2.toInt + x5.toInt ≤ (σ0.1 q9 2).toInt)) ∧ (¬ V = 0 → 0 ≤ x2.toInt ∧ 0 ≤ x5.toInt ∧ x2.toInt + x5.toInt ≤ (σ0.1 q9 2).toInt)) (x_X9_spans KQ24) (fun v22 hqv22 => ?_)
            refine ok_if (fun hc24 => ?_) (fun hc24 => ?_)
            · have qhc24 := hqv22.1 hc24
              exact ok_some ⟨hT, (show CF σ0.1 ∧ (-7 : Int32) = paV x1 x2 x3 x4 x5 (σ0.1 (210 + 2 * x1.toInt.toNat) 2) (σ0.1 (210 + 2 * x3.toInt.toNat) 2) (σ0.1 (210 + 2 * x1.toInt.toNat) 1) (σ0.1 (210 + 2 * x3.toInt.toNat) 1) from by first | exact ⟨⟨hW2, hW28, hW132, hW158, hW184, hL, hD, hu, ht⟩, (if_neg (by first | omega | (simp only [Int32.le_iff_toInt_le, Int32.lt_iff_toInt_lt, ti_add, ti_sub, ti_mul, Int32.reduceToInt] at *; omega))).symm⟩ | exact ⟨⟨hW2, hW28, hW132, hW158, hW184, hL, hD, hu, ht⟩, by rw [← hqq24, ← hqq32]; (first | exact ((if_pos (by first | omega | (simp only [Int32.le_iff_toInt_le, Int32.lt_iff_toInt_lt, ti_add, ti_sub, ti_mul, Int32.reduceToInt] at *; omega))).trans (if_pos (by first | omega | (simp only [Int32.le_iff_toInt_le, Int32.lt_iff_toInt_lt, ti_add, ti_sub, ti_mul, Int32.reduceToInt] at *; omega)))).symm | exact ((if_pos (by first | omega | (simp only [Int32.le_iff_toInt_le, Int32.lt_iff_toInt_lt, ti_add, ti_sub, ti_mul, Int32.reduceToInt] at *; omega))).trans ((if_neg (by first | omega | (simp only [Int32.le_iff_toInt_le, Int32.lt_iff_toInt_lt, ti_add, ti_sub, ti_mul, Int32.reduceToInt] at *; omega))).trans (if_neg n64))).symm | exact ((if_pos (by first | omega | (simp only [Int32.le_iff_toInt_le, Int32.lt_iff_toInt_lt, ti_add, ti_sub, ti_mul, Int32.reduceToInt] at *; omega))).trans ((if_neg (by first | omega | (simp only [Int32.le_iff_toInt_le, Int32.lt_iff_toInt_lt, ti_add, ti_sub, ti_mul, Int32.reduceToInt] at *; omega))).trans ((if_pos n64).trans (if_neg (by first | omega | (simp only [Int32.le_iff_toInt_le, Int32.lt_iff_toInt_lt, ti_add, ti_sub, ti_mul, Int32.reduceToInt] at *; omega)))))).symm | exact ((if_pos (by first | omega | (simp only [Int32.le_iff_toInt_le, Int32.lt_iff_toInt_lt, ti_add, ti_sub, ti_mul, Int32.reduceToInt] at *; omega))).trans ((if_neg (by first | omega | (simp only [Int32.le_iff_toInt_le, Int32.lt_iff_toInt_lt, ti_add, ti_sub, ti_mul, Int32.reduceToInt] at *; omega))).trans ((if_pos n64).trans (if_pos (by first | omega | (simp only [Int32.le_iff_toInt_le, Int32.lt_iff_toInt_lt, ti_add, ti_sub, ti_mul, Int32.reduceToInt] at *; omega)))))).symm)⟩)⟩
            · have qhc24 := hqv22.2 hc24
              refine ok_gC kq12 ?_
              refine ok_zbX (Q := fun V => (V = 0 → ¬ (0 ≤ x4.toInt ∧ 0 ≤ x5.toInt ∧ x4.toInt + x5.toInt ≤ (σ0.1 q12 2).toInt)) ∧ (¬ V = 0 → 0 ≤ x4.toInt ∧ 0 ≤ x5.toInt ∧ x4.toInt + x5.toInt ≤ (σ0.1 q12 2).toInt)) (x_X9_spans KQ32) (fun v25 hqv25 => ?_)
              refine ok_if (fun hc27 => ?_) (fun hc27 => ?_)
              · have qhc27 := hqv25.1 hc27
                exact ok_some ⟨hT, (show CF σ0.1 ∧ (-7 : Int32) = paV x1 x2 x3 x4 x5 (σ0.1 (210 + 2 * x1.toInt.toNat) 2) (σ0.1 (210 + 2 * x3.toInt.toNat) 2) (σ0.1 (210 + 2 * x1.toInt.toNat) 1) (σ0.1 (210 + 2 * x3.toInt.toNat) 1) from by first | exact ⟨⟨hW2, hW28, hW132, hW158, hW184, hL, hD, hu, ht⟩, (if_neg (by first | omega | (simp only [Int32.le_iff_toInt_le, Int32.lt_iff_toInt_lt, ti_add, ti_sub, ti_mul, Int32.reduceToInt] at *; omega))).symm⟩ | exact ⟨⟨hW2, hW28, hW132, hW158, hW184, hL, hD, hu, ht⟩, by rw [← hqq24, ← hqq32]; (first | exact ((if_pos (by first | omega | (simp only [Int32.le_iff_toInt_le, Int32.lt_iff_toInt_lt, ti_add, ti_sub, ti_mul, Int32.reduceToInt] at *; omega))).trans (if_pos (by first | omega | (simp only [Int32.le_iff_toInt_le, Int32.lt_iff_toInt_lt, ti_add, ti_sub, ti_mul, Int32.reduceToInt] at *; omega)))).symm | exact ((if_pos (by first | omega | (simp only [Int32.le_iff_toInt_le, Int32.lt_iff_toInt_lt, ti_add, ti_sub, ti_mul, Int32.reduceToInt] at *; omega))).trans ((if_neg (by first | omega | (simp only [Int32.le_iff_toInt_le, Int32.lt_iff_toInt_lt, ti_add, ti_sub, ti_mul, Int32.reduceToInt] at *; omega))).trans (if_neg n64))).symm | exact ((if_pos (by first | omega | (simp only [Int32.le_iff_toInt_le, Int32.lt_iff_toInt_lt, ti_add, ti_sub, ti_mul, Int32.reduceToInt] at *; omega))).trans ((if_neg (by first | omega | (simp only [Int32.le_iff_toInt_le, Int32.lt_iff_toInt_lt, ti_add, ti_sub, ti_mul, Int32.reduceToInt] at *; omega))).trans ((if_pos n64).trans (if_neg (by first | omega | (simp only [Int32.le_iff_toInt_le, Int32.lt_iff_toInt_lt, ti_add, ti_sub, ti_mul, Int32.reduceToInt] at *; omega)))))).symm | exact ((if_pos (by first | omega | (simp only [Int32.le_iff_toInt_le, Int32.lt_iff_toInt_lt, ti_add, ti_sub, ti_mul, Int32.reduceToInt] at *; omega))).trans ((if_neg (by first | omega | (simp only [Int32.le_iff_toInt_le, Int32.lt_iff_toInt_lt, ti_add, ti_sub, ti_mul, Int32.reduceToInt] at *; omega))).trans ((if_pos n64).trans (if_pos (by first | omega | (simp only [Int32.le_iff_toInt_le, Int32.lt_iff_toInt_lt, ti_add, ti_sub, ti_mul, Int32.reduceToInt] at *; omega)))))).symm)⟩)⟩
              · have qhc27 := hqv25.2 hc27
                refine ok_gR hT kq9 (slot_R hR kq9).1 ?_
                refine ok_gR hT kq12 (slot_R hR kq12).1 ?_
                refine ok_cpJ hT (slot_R hR kq9).2 (slot_R hR kq12).2 (by first | omega | decide | (have q1 := hD.1; have q2 := hD.2.1; simp only [Int32.le_iff_toInt_le, Int32.lt_iff_toInt_lt, ti_add, ti_sub, ti_mul, Int32.reduceToInt] at *; omega)) (by first | omega | decide | (have q1 := hD.1; have q2 := hD.2.1; simp only [Int32.le_iff_toInt_le, Int32.lt_iff_toInt_lt, ti_add, ti_sub, ti_mul, Int32.reduceToInt] at *; omega)) (by first | omega | decide | (have q1 := hD.1; have q2 := hD.2.1; simp only [Int32.le_iff_toInt_le, Int32.lt_iff_toInt_lt, ti_add, ti_sub, ti_mul, Int32.reduceToInt] at *; omega)) (by first | omega | decide | (have q1 := hD.1; have q2 := hD.2.1; simp only [Int32.le_iff_toInt_le, Int32.lt_iff_toInt_lt, ti_add, ti_sub, ti_mul, Int32.reduceToInt] at *; omega)) (by first | omega | decide | (have q1 := hD.1; have q2 := hD.2.1; simp only [Int32.le_iff_toInt_le, Int32.lt_iff_toInt_lt, ti_add, ti_sub, ti_mul, Int32.reduceToInt] at *; omega)) (fun σ30 eσ30 hOσ30 hT => ?_)
                have hW2 : WI 2 σ30.1 := WI.tr hOσ30 (by decide) (by decide) (by decide) hW2
                have hW28 : WI 28 σ30.1 := WI.tr hOσ30 (by decide) (by decide) (by decide) hW28
                have hW132 : WI 132 σ30.1 := WI.tr hOσ30 (by decide) (by decide) (by decide) hW132
                have hW158 : WI 158 σ30.1 := WI.tr hOσ30 (by decide) (by decide) (by decide) hW158
                have hW184 : WI 184 σ30.1 := WI.tr hOσ30 (by decide) (by decide) (by decide) hW184
                have hL : SI σ30.1 := SI.tr hOσ30 (by decide) (by decide) (by decide) (by decide) hL
                have hD : RD σ30.1 := RD.tr hOσ30 (by decide) (by decide) (by decide) (by decide) hD
                have hu : 2 ≤ (σ30.1 111 8).toInt ∧ (σ30.1 111 8).toInt ≤ 1600 := by rw [hOσ30.2 111 (by decide)] <;> exact hu
                have ht : 0 ≤ (σ30.1 0 1).toInt ∧ (σ30.1 0 1).toInt ≤ 600 := by rw [hOσ30.2 0 (by decide)] <;> exact ht
                exact ok_some ⟨hT, (show CF σ30.1 ∧ (0 : Int32) = paV x1 x2 x3 x4 x5 (σ0.1 (210 + 2 * x1.toInt.toNat) 2) (σ0.1 (210 + 2 * x3.toInt.toNat) 2) (σ0.1 (210 + 2 * x1.toInt.toNat) 1) (σ0.1 (210 + 2 * x3.toInt.toNat) 1) from by first | exact ⟨⟨hW2, hW28, hW132, hW158, hW184, hL, hD, hu, ht⟩, (if_neg (by first | omega | (simp only [Int32.le_iff_toInt_le, Int32.lt_iff_toInt_lt, ti_add, ti_sub, ti_mul, Int32.reduceToInt] at *; omega))).symm⟩ | exact ⟨⟨hW2, hW28, hW132, hW158, hW184, hL, hD, hu, ht⟩, by rw [← hqq24, ← hqq32]; (first | exact ((if_pos (by first | omega | (simp only [Int32.le_iff_toInt_le, Int32.lt_iff_toInt_lt, ti_add, ti_sub, ti_mul, Int32.reduceToInt] at *; omega))).trans (if_pos (by first | omega | (simp only [Int32.le_iff_toInt_le, Int32.lt_iff_toInt_lt, ti_add, ti_sub, ti_mul, Int32.reduceToInt] at *; omega)))).symm | exact ((if_pos (by first | omega | (simp only [Int32.le_iff_toInt_le, Int32.lt_iff_toInt_lt, ti_add, ti_sub, ti_mul, Int32.reduceToInt] at *; omega))).trans ((if_neg (by first | omega | (simp only [Int32.le_iff_toInt_le, Int32.lt_iff_toInt_lt, ti_add, ti_sub, ti_mul, Int32.reduceToInt] at *; omega))).trans (if_neg n64))).symm | exact ((if_pos (by first | omega | (simp only [Int32.le_iff_toInt_le, Int32.lt_iff_toInt_lt, ti_add, ti_sub, ti_mul, Int32.reduceToInt] at *; omega))).trans ((if_neg (by first | omega | (simp only [Int32.le_iff_toInt_le, Int32.lt_iff_toInt_lt, ti_add, ti_sub, ti_mul, Int32.reduceToInt] at *; omega))).trans ((if_pos n64).trans (if_neg (by first | omega | (simp only [Int32.le_iff_toInt_le, Int32.lt_iff_toInt_lt, ti_add, ti_sub, ti_mul, Int32.reduceToInt] at *; omega)))))).symm | exact ((if_pos (by first | omega | (simp only [Int32.le_iff_toInt_le, Int32.lt_iff_toInt_lt, ti_add, ti_sub, ti_mul, Int32.reduceToInt] at *; omega))).trans ((if_neg (by first | omega | (simp only [Int32.le_iff_toInt_le, Int32.lt_iff_toInt_lt, ti_add, ti_sub, ti_mul, Int32.reduceToInt] at *; omega))).trans ((if_pos n64).trans (if_pos (by first | omega | (simp only [Int32.le_iff_toInt_le, Int32.lt_iff_toInt_lt, ti_add, ti_sub, ti_mul, Int32.reduceToInt] at *; omega)))))).symm)⟩)⟩
          · have n64 := hc21
            exact ok_some ⟨hT, (show CF σ0.1 ∧ (-8 : Int32) = paV x1 x2 x3 x4 x5 (σ0.1 (210 + 2 * x1.toInt.toNat) 2) (σ0.1 (210 + 2 * x3.toInt.toNat) 2) (σ0.1 (210 + 2 * x1.toInt.toNat) 1) (σ0.1 (210 + 2 * x3.toInt.toNat) 1) from by first | exact ⟨⟨hW2, hW28, hW132, hW158, hW184, hL, hD, hu, ht⟩, (if_neg (by first | omega | (simp only [Int32.le_iff_toInt_le, Int32.lt_iff_toInt_lt, ti_add, ti_sub, ti_mul, Int32.reduceToInt] at *; omega))).symm⟩ | exact ⟨⟨hW2, hW28, hW132, hW158, hW184, hL, hD, hu, ht⟩, by rw [← hqq24, ← hqq32]; (first | exact ((if_pos (by first | omega | (simp only [Int32.le_iff_toInt_le, Int32.lt_iff_toInt_lt, ti_add, ti_sub, ti_mul, Int32.reduceToInt] at *; omega))).trans (if_pos (by first | omega | (simp only [Int32.le_iff_toInt_le, Int32.lt_iff_toInt_lt, ti_add, ti_sub, ti_mul, Int32.reduceToInt] at *; omega)))).symm | exact ((if_pos (by first | omega | (simp only [Int32.le_iff_toInt_le, Int32.lt_iff_toInt_lt, ti_add, ti_sub, ti_mul, Int32.reduceToInt] at *; omega))).trans ((if_neg (by first | omega | (simp only [Int32.le_iff_toInt_le, Int32.lt_iff_toInt_lt, ti_add, ti_sub, ti_mul, Int32.reduceToInt] at *; omega))).trans (if_neg n64))).symm | exact ((if_pos (by first | omega | (simp only [Int32.le_iff_toInt_le, Int32.lt_iff_toInt_lt, ti_add, ti_sub, ti_mul, Int32.reduceToInt] at *; omega))).trans ((if_neg (by first | omega | (simp only [Int32.le_iff_toInt_le, Int32.lt_iff_toInt_lt, ti_add, ti_sub, ti_mul, Int32.reduceToInt] at *; omega))).trans ((if_pos n64).trans (if_neg (by first | omega | (simp only [Int32.le_iff_toInt_le, Int32.lt_iff_toInt_lt, ti_add, ti_sub, ti_mul, Int32.reduceToInt] at *; omega)))))).symm | exact ((if_pos (by first | omega | (simp only [Int32.le_iff_toInt_le, Int32.lt_iff_toInt_lt, ti_add, ti_sub, ti_mul, Int32.reduceToInt] at *; omega))).trans ((if_neg (by first | omega | (simp only [Int32.le_iff_toInt_le, Int32.lt_iff_toInt_lt, ti_add, ti_sub, ti_mul, Int32.reduceToInt] at *; omega))).trans ((if_pos n64).trans (if_pos (by first | omega | (simp only [Int32.le_iff_toInt_le, Int32.lt_iff_toInt_lt, ti_add, ti_sub, ti_mul, Int32.reduceToInt] at *; omega)))))).symm)⟩)⟩
        · have qhc18 := hqv16.2 hc18
          exact ok_some ⟨hT, (show CF σ0.1 ∧ (-6 : Int32) = paV x1 x2 x3 x4 x5 (σ0.1 (210 + 2 * x1.toInt.toNat) 2) (σ0.1 (210 + 2 * x3.toInt.toNat) 2) (σ0.1 (210 + 2 * x1.toInt.toNat) 1) (σ0.1 (210 + 2 * x3.toInt.toNat) 1) from by first | exact ⟨⟨hW2, hW28, hW132, hW158, hW184, hL, hD, hu, ht⟩, (if_neg (by first | omega | (simp only [Int32.le_iff_toInt_le, Int32.lt_iff_toInt_lt, ti_add, ti_sub, ti_mul, Int32.reduceToInt] at *; omega))).symm⟩ | exact ⟨⟨hW2, hW28, hW132, hW158, hW184, hL, hD, hu, ht⟩, by rw [← hqq24, ← hqq32]; (first | exact ((if_pos (by first | omega | (simp only [Int32.le_iff_toInt_le, Int32.lt_iff_toInt_lt, ti_add, ti_sub, ti_mul, Int32.reduceToInt] at *; omega))).trans (if_pos (by first | omega | (simp only [Int32.le_iff_toInt_le, Int32.lt_iff_toInt_lt, ti_add, ti_sub, ti_mul, Int32.reduceToInt] at *; omega)))).symm | exact ((if_pos (by first | omega | (simp only [Int32.le_iff_toInt_le, Int32.lt_iff_toInt_lt, ti_add, ti_sub, ti_mul, Int32.reduceToInt] at *; omega))).trans ((if_neg (by first | omega | (simp only [Int32.le_iff_toInt_le, Int32.lt_iff_toInt_lt, ti_add, ti_sub, ti_mul, Int32.reduceToInt] at *; omega))).trans (if_neg n64))).symm | exact ((if_pos (by first | omega | (simp only [Int32.le_iff_toInt_le, Int32.lt_iff_toInt_lt, ti_add, ti_sub, ti_mul, Int32.reduceToInt] at *; omega))).trans ((if_neg (by first | omega | (simp only [Int32.le_iff_toInt_le, Int32.lt_iff_toInt_lt, ti_add, ti_sub, ti_mul, Int32.reduceToInt] at *; omega))).trans ((if_pos n64).trans (if_neg (by first | omega | (simp only [Int32.le_iff_toInt_le, Int32.lt_iff_toInt_lt, ti_add, ti_sub, ti_mul, Int32.reduceToInt] at *; omega)))))).symm | exact ((if_pos (by first | omega | (simp only [Int32.le_iff_toInt_le, Int32.lt_iff_toInt_lt, ti_add, ti_sub, ti_mul, Int32.reduceToInt] at *; omega))).trans ((if_neg (by first | omega | (simp only [Int32.le_iff_toInt_le, Int32.lt_iff_toInt_lt, ti_add, ti_sub, ti_mul, Int32.reduceToInt] at *; omega))).trans ((if_pos n64).trans (if_pos (by first | omega | (simp only [Int32.le_iff_toInt_le, Int32.lt_iff_toInt_lt, ti_add, ti_sub, ti_mul, Int32.reduceToInt] at *; omega)))))).symm)⟩)⟩
      · have qhc15 := hqv13.2 hc15
        exact ok_some ⟨hT, (show CF σ0.1 ∧ (-6 : Int32) = paV x1 x2 x3 x4 x5 (σ0.1 (210 + 2 * x1.toInt.toNat) 2) (σ0.1 (210 + 2 * x3.toInt.toNat) 2) (σ0.1 (210 + 2 * x1.toInt.toNat) 1) (σ0.1 (210 + 2 * x3.toInt.toNat) 1) from by first | exact ⟨⟨hW2, hW28, hW132, hW158, hW184, hL, hD, hu, ht⟩, (if_neg (by first | omega | (simp only [Int32.le_iff_toInt_le, Int32.lt_iff_toInt_lt, ti_add, ti_sub, ti_mul, Int32.reduceToInt] at *; omega))).symm⟩ | exact ⟨⟨hW2, hW28, hW132, hW158, hW184, hL, hD, hu, ht⟩, by rw [← hqq24, ← hqq32]; (first | exact ((if_pos (by first | omega | (simp only [Int32.le_iff_toInt_le, Int32.lt_iff_toInt_lt, ti_add, ti_sub, ti_mul, Int32.reduceToInt] at *; omega))).trans (if_pos (by first | omega | (simp only [Int32.le_iff_toInt_le, Int32.lt_iff_toInt_lt, ti_add, ti_sub, ti_mul, Int32.reduceToInt] at *; omega)))).symm | exact ((if_pos (by first | omega | (simp only [Int32.le_iff_toInt_le, Int32.lt_iff_toInt_lt, ti_add, ti_sub, ti_mul, Int32.reduceToInt] at *; omega))).trans ((if_neg (by first | omega | (simp only [Int32.le_iff_toInt_le, Int32.lt_iff_toInt_lt, ti_add, ti_sub, ti_mul, Int32.reduceToInt] at *; omega))).trans (if_neg n64))).symm | exact ((if_pos (by first | omega | (simp only [Int32.le_iff_toInt_le, Int32.lt_iff_toInt_lt, ti_add, ti_sub, ti_mul, Int32.reduceToInt] at *; omega))).trans ((if_neg (by first | omega | (simp only [Int32.le_iff_toInt_le, Int32.lt_iff_toInt_lt, ti_add, ti_sub, ti_mul, Int32.reduceToInt] at *; omega))).trans ((if_pos n64).trans (if_neg (by first | omega | (simp only [Int32.le_iff_toInt_le, Int32.lt_iff_toInt_lt, ti_add, ti_sub, ti_mul, Int32.reduceToInt] at *; omega)))))).symm | exact ((if_pos (by first | omega | (simp only [Int32.le_iff_toInt_le, Int32.lt_iff_toInt_lt, ti_add, ti_sub, ti_mul, Int32.reduceToInt] at *; omega))).trans ((if_neg (by first | omega | (simp only [Int32.le_iff_toInt_le, Int32.lt_iff_toInt_lt, ti_add, ti_sub, ti_mul, Int32.reduceToInt] at *; omega))).trans ((if_pos n64).trans (if_pos (by first | omega | (simp only [Int32.le_iff_toInt_le, Int32.lt_iff_toInt_lt, ti_add, ti_sub, ti_mul, Int32.reduceToInt] at *; omega)))))).symm)⟩)⟩

set_option maxHeartbeats 4000000 in
set_option maxRecDepth 100000 in
theorem s_X11_feed_n28v {N : Nat} (hN : 1048576 ≤ N) {x1 : Int32} {x2 : Int32} {x3 : Int32} {x4 : Int32} {x5 : Int32} {σ0 : zS}  (hR : RF σ0.2.2) (hNw : σ0.2.2 0 4 = 28) (hPw : σ0.2.2 0 5 = 2) (hC : CF σ0.1) : Ok (f_X11_feed N 0 x1 x2 x3 x4 x5 σ0) (fun r => Tr [0, 1] σ0 r.2 ∧ (CF r.2.1 ∧ r.1 = fdV (σ0.1 0 1) ∧ r.2.1 0 1 = fdT (σ0.1 0 1))) := by
  have hT : Tr [0, 1] σ0 σ0 := Tr.rf
  obtain ⟨hW2, hW28, hW132, hW158, hW184, hL, hD, hu, ht⟩ := hC
  have hn := hW28.1
  have he := hW28.2.1
  have hD0 := hD
  have hL0 := hL
  have q10 := ti_one10 (x := σ0.1 28 0) hn.1 hn.2
  have h01 : σ0.1 0 1 = σ0.1 0 1 := rfl
  have t0 := ht
  rw [f_X11_feed.eq_1]
  refine ok_gIv rfl h01 ?_
  refine ok_if (fun hc2 => ?_) (fun hc2 => ?_)
  · exact ok_some ⟨hT, (show CF σ0.1 ∧ (-1 : Int32) = fdV (σ0.1 0 1) ∧ σ0.1 0 1 = fdT (σ0.1 0 1) from by first | exact ⟨⟨hW2, hW28, hW132, hW158, hW184, hL, hD, hu, ht⟩, (if_neg (by first | omega | (simp only [Int32.le_iff_toInt_le, Int32.lt_iff_toInt_lt, ti_add, ti_sub, ti_mul, Int32.reduceToInt] at *; omega))).symm, h01.trans (if_neg (by first | omega | (simp only [Int32.le_iff_toInt_le, Int32.lt_iff_toInt_lt, ti_add, ti_sub, ti_mul, Int32.reduceToInt] at *; omega))).symm⟩ | exact ⟨⟨hW2, hW28, hW132, hW158, hW184, hL, hD, hu, ht⟩, a88.trans (if_pos (by first | omega | (simp only [Int32.le_iff_toInt_le, Int32.lt_iff_toInt_lt, ti_add, ti_sub, ti_mul, Int32.reduceToInt] at *; omega))).symm, a88.trans (if_pos (by first | omega | (simp only [Int32.le_iff_toInt_le, Int32.lt_iff_toInt_lt, ti_add, ti_sub, ti_mul, Int32.reduceToInt] at *; omega))).symm⟩)⟩
  · refine ok_gIv rfl h01 ?_
    refine ok_if (fun hc4 => ?_) (fun hc4 => ?_)
    · refine ok_gIv rfl h01 ?_
      refine ok_gC rfl ?_
      refine ok_zbT (Q := fun V σ => True) hT (s_X11_tapeNumber hN (hR.tr hT) (by first | omega | decide | (have q1 := hD.1; have q2 := hD.2.1; simp only [Int32.le_iff_toInt_le, Int32.lt_iff_toInt_lt, ti_add, ti_sub, ti_mul, Int32.reduceToInt] at *; omega))) (by decide) (fun v6 σ7 hOσ7 hT hqv6 => ?_)
      have hW2 : WI 2 σ7.1 := WI.tr hOσ7 (by decide) (by decide) (by decide) hW2
      have hW28 : WI 28 σ7.1 := WI.tr hOσ7 (by decide) (by decide) (by decide) hW28
      have hW132 : WI 132 σ7.1 := WI.tr hOσ7 (by decide) (by decide) (by decide) hW132
      have hW158 : WI 158 σ7.1 := WI.tr hOσ7 (by decide) (by decide) (by decide) hW158
      have hW184 : WI 184 σ7.1 := WI.tr hOσ7 (by decide) (by decide) (by decide) hW184
      have hL : SI σ7.1 := SI.tr hOσ7 (by decide) (by decide) (by decide) (by decide) hL
      have hD : RD σ7.1 := RD.tr hOσ7 (by decide) (by decide) (by decide) (by decide) hD
      have hu : 2 ≤ (σ7.1 111 8).toInt ∧ (σ7.1 111 8).toInt ≤ 1600 := by rw [hOσ7.2 111 (by decide)] <;> exact hu
      have ht : 0 ≤ (σ7.1 0 1).toInt ∧ (σ7.1 0 1).toInt ≤ 600 := by rw [hOσ7.2 0 (by decide)] <;> exact ht
      have h01 : σ7.1 0 1 = σ0.1 0 1 := by rw [hOσ7.2 0 (by decide)] <;> exact h01
      refine ok_gIv rfl h01 ?_
      refine ok_gC rfl ?_
      refine ok_zbT (Q := fun V σ => True) hT (s_X11_tapeNumber hN (hR.tr hT) (by first | omega | decide | (have q1 := hD.1; have q2 := hD.2.1; simp only [Int32.le_iff_toInt_le, Int32.lt_iff_toInt_lt, ti_add, ti_sub, ti_mul, Int32.reduceToInt] at *; omega))) (by decide) (fun v9 σ10 hOσ10 hT hqv9 => ?_)
      have hW2 : WI 2 σ10.1 := WI.tr hOσ10 (by decide) (by decide) (by decide) hW2
      have hW28 : WI 28 σ10.1 := WI.tr hOσ10 (by decide) (by decide) (by decide) hW28
      have hW132 : WI 132 σ10.1 := WI.tr hOσ10 (by decide) (by decide) (by decide) hW132
      have hW158 : WI 158 σ10.1 := WI.tr hOσ10 (by decide) (by decide) (by decide) hW158
      have hW184 : WI 184 σ10.1 := WI.tr hOσ10 (by decide) (by decide) (by decide) hW184
      have hL : SI σ10.1 := SI.tr hOσ10 (by decide) (by decide) (by decide) (by decide) hL
      have hD : RD σ10.1 := RD.tr hOσ10 (by decide) (by decide) (by decide) (by decide) hD
      have hu : 2 ≤ (σ10.1 111 8).toInt ∧ (σ10.1 111 8).toInt ≤ 1600 := by rw [hOσ10.2 111 (by decide)] <;> exact hu
      have ht : 0 ≤ (σ10.1 0 1).toInt ∧ (σ10.1 0 1).toInt ≤ 600 := by rw [hOσ10.2 0 (by decide)] <;> exact ht
      have h01 : σ10.1 0 1 = σ0.1 0 1 := by rw [hOσ10.2 0 (by decide)] <;> exact h01
      refine ok_gIv rfl h01 ?_
      refine ok_gC rfl ?_
      refine ok_zbT (Q := fun V σ => True) hT (s_X11_tapeNumber hN (hR.tr hT) (by first | omega | decide | (have q1 := hD.1; have q2 := hD.2.1; simp only [Int32.le_iff_toInt_le, Int32.lt_iff_toInt_lt, ti_add, ti_sub, ti_mul, Int32.reduceToInt] at *; omega))) (by decide) (fun v12 σ13 hOσ13 hT hqv12 => ?_)
      have hW2 : WI 2 σ13.1 := WI.tr hOσ13 (by decide) (by decide) (by decide) hW2
      have hW28 : WI 28 σ13.1 := WI.tr hOσ13 (by decide) (by decide) (by decide) hW28
      have hW132 : WI 132 σ13.1 := WI.tr hOσ13 (by decide) (by decide) (by decide) hW132
      have hW158 : WI 158 σ13.1 := WI.tr hOσ13 (by decide) (by decide) (by decide) hW158
      have hW184 : WI 184 σ13.1 := WI.tr hOσ13 (by decide) (by decide) (by decide) hW184
      have hL : SI σ13.1 := SI.tr hOσ13 (by decide) (by decide) (by decide) (by decide) hL
      have hD : RD σ13.1 := RD.tr hOσ13 (by decide) (by decide) (by decide) (by decide) hD
      have hu : 2 ≤ (σ13.1 111 8).toInt ∧ (σ13.1 111 8).toInt ≤ 1600 := by rw [hOσ13.2 111 (by decide)] <;> exact hu
      have ht : 0 ≤ (σ13.1 0 1).toInt ∧ (σ13.1 0 1).toInt ≤ 600 := by rw [hOσ13.2 0 (by decide)] <;> exact ht
      have h01 : σ13.1 0 1 = σ0.1 0 1 := by rw [hOσ13.2 0 (by decide)] <;> exact h01
      refine ok_gIv rfl h01 ?_
      refine ok_gC rfl ?_
      refine ok_zbT (Q := fun V σ => True) hT (s_X11_tapeNumber hN (hR.tr hT) (by first | omega | decide | (have q1 := hD.1; have q2 := hD.2.1; simp only [Int32.le_iff_toInt_le, Int32.lt_iff_toInt_lt, ti_add, ti_sub, ti_mul, Int32.reduceToInt] at *; omega))) (by decide) (fun v15 σ16 hOσ16 hT hqv15 => ?_)
      have hW2 : WI 2 σ16.1 := WI.tr hOσ16 (by decide) (by decide) (by decide) hW2
      have hW28 : WI 28 σ16.1 := WI.tr hOσ16 (by decide) (by decide) (by decide) hW28
      have hW132 : WI 132 σ16.1 := WI.tr hOσ16 (by decide) (by decide) (by decide) hW132
      have hW158 : WI 158 σ16.1 := WI.tr hOσ16 (by decide) (by decide) (by decide) hW158
      have hW184 : WI 184 σ16.1 := WI.tr hOσ16 (by decide) (by decide) (by decide) hW184
      have hL : SI σ16.1 := SI.tr hOσ16 (by decide) (by decide) (by decide) (by decide) hL
      have hD : RD σ16.1 := RD.tr hOσ16 (by decide) (by decide) (by decide) (by decide) hD
      have hu : 2 ≤ (σ16.1 111 8).toInt ∧ (σ16.1 111 8).toInt ≤ 1600 := by rw [hOσ16.2 111 (by decide)] <;> exact hu
      have ht : 0 ≤ (σ16.1 0 1).toInt ∧ (σ16.1 0 1).toInt ≤ 600 := by rw [hOσ16.2 0 (by decide)] <;> exact ht
      have h01 : σ16.1 0 1 = σ0.1 0 1 := by rw [hOσ16.2 0 (by decide)] <;> exact h01
      refine ok_gIv rfl h01 ?_
      refine ok_gC rfl ?_
      refine ok_zbT (Q := fun V σ => True) hT (s_X11_tapeNumber hN (hR.tr hT) (by first | omega | decide | (have q1 := hD.1; have q2 := hD.2.1; simp only [Int32.le_iff_toInt_le, Int32.lt_iff_toInt_lt, ti_add, ti_sub, ti_mul, Int32.reduceToInt] at *; omega))) (by decide) (fun v18 σ19 hOσ19 hT hqv18 => ?_)
      have hW2 : WI 2 σ19.1 := WI.tr hOσ19 (by decide) (by decide) (by decide) hW2
      have hW28 : WI 28 σ19.1 := WI.tr hOσ19 (by decide) (by decide) (by decide) hW28
      have hW132 : WI 132 σ19.1 := WI.tr hOσ19 (by decide) (by decide) (by decide) hW132
      have hW158 : WI 158 σ19.1 := WI.tr hOσ19 (by decide) (by decide) (by decide) hW158
      have hW184 : WI 184 σ19.1 := WI.tr hOσ19 (by decide) (by decide) (by decide) hW184
      have hL : SI σ19.1 := SI.tr hOσ19 (by decide) (by decide) (by decide) (by decide) hL
      have hD : RD σ19.1 := RD.tr hOσ19 (by decide) (by decide) (by decide) (by decide) hD
      have hu : 2 ≤ (σ19.1 111 8).toInt ∧ (σ19.1 111 8).toInt ≤ 1600 := by rw [hOσ19.2 111 (by decide)] <;> exact hu
      have ht : 0 ≤ (σ19.1 0 1).toInt ∧ (σ19.1 0 1).toInt ≤ 600 := by rw [hOσ19.2 0 (by decide)] <;> exact ht
      have h01 : σ19.1 0 1 = σ0.1 0 1 := by rw [hOσ19.2 0 (by decide)] <;> exact h01
      refine ok_gIv rfl h01 ?_
      refine ok_pI hT rfl (by decide) (fun σ21 eσ21 hOσ21 hT => ?_)
      have a88 := zI_atI eσ21
      have hW2 : WI 2 σ21.1 := WI.tr hOσ21 (by decide) (by decide) (by decide) hW2
      have hW28 : WI 28 σ21.1 := WI.tr hOσ21 (by decide) (by decide) (by decide) hW28
      have hW132 : WI 132 σ21.1 := WI.tr hOσ21 (by decide) (by decide) (by decide) hW132
      have hW158 : WI 158 σ21.1 := WI.tr hOσ21 (by decide) (by decide) (by decide) hW158
      have hW184 : WI 184 σ21.1 := WI.tr hOσ21 (by decide) (by decide) (by decide) hW184
      have hL : SI σ21.1 := SI.tr hOσ21 (by decide) (by decide) (by decide) (by decide) hL
      have hD : RD σ21.1 := RD.tr hOσ21 (by decide) (by decide) (by decide) (by decide) hD
      have hu : 2 ≤ (σ21.1 111 8).toInt ∧ (σ21.1 111 8).toInt ≤ 1600 := by rw [hOσ21.2 111 (by decide)] <;> exact hu
      have ht : 0 ≤ (σ21.1 0 1).toInt ∧ (σ21.1 0 1).toInt ≤ 600 := by rw [zI_atI eσ21]; simp only [Int32.le_iff_toInt_le, Int32.lt_iff_toInt_lt, ti_add, ti_sub, ti_mul, Int32.reduceToInt] at *; omega
      refine ok_gI rfl ?_
      exact ok_some ⟨hT, (show CF σ21.1 ∧ ((σ21.1 0 1)) = fdV (σ0.1 0 1) ∧ σ21.1 0 1 = fdT (σ0.1 0 1) from by first | exact ⟨⟨hW2, hW28, hW132, hW158, hW184, hL, hD, hu, ht⟩, (if_neg (by first | omega | (simp only [Int32.le_iff_toInt_le, Int32.lt_iff_toInt_lt, ti_add, ti_sub, ti_mul, Int32.reduceToInt] at *; omega))).symm, h01.trans (if_neg (by first | omega | (simp only [Int32.le_iff_toInt_le, Int32.lt_iff_toInt_lt, ti_add, ti_sub, ti_mul, Int32.reduceToInt] at *; omega))).symm⟩ | exact ⟨⟨hW2, hW28, hW132, hW158, hW184, hL, hD, hu, ht⟩, a88.trans (if_pos (by first | omega | (simp only [Int32.le_iff_toInt_le, Int32.lt_iff_toInt_lt, ti_add, ti_sub, ti_mul, Int32.reduceToInt] at *; omega))).symm, a88.trans (if_pos (by first | omega | (simp only [Int32.le_iff_toInt_le, Int32.lt_iff_toInt_lt, ti_add, ti_sub, ti_mul, Int32.reduceToInt] at *; omega))).symm⟩)⟩
    · exact ok_some ⟨hT, (show CF σ0.1 ∧ (-1 : Int32) = fdV (σ0.1 0 1) ∧ σ0.1 0 1 = fdT (σ0.1 0 1) from by first | exact ⟨⟨hW2, hW28, hW132, hW158, hW184, hL, hD, hu, ht⟩, (if_neg (by first | omega | (simp only [Int32.le_iff_toInt_le, Int32.lt_iff_toInt_lt, ti_add, ti_sub, ti_mul, Int32.reduceToInt] at *; omega))).symm, h01.trans (if_neg (by first | omega | (simp only [Int32.le_iff_toInt_le, Int32.lt_iff_toInt_lt, ti_add, ti_sub, ti_mul, Int32.reduceToInt] at *; omega))).symm⟩ | exact ⟨⟨hW2, hW28, hW132, hW158, hW184, hL, hD, hu, ht⟩, a88.trans (if_pos (by first | omega | (simp only [Int32.le_iff_toInt_le, Int32.lt_iff_toInt_lt, ti_add, ti_sub, ti_mul, Int32.reduceToInt] at *; omega))).symm, a88.trans (if_pos (by first | omega | (simp only [Int32.le_iff_toInt_le, Int32.lt_iff_toInt_lt, ti_add, ti_sub, ti_mul, Int32.reduceToInt] at *; omega))).symm⟩)⟩

set_option maxHeartbeats 4000000 in
set_option maxRecDepth 100000 in
theorem s_X11_end_n28v {N : Nat} (hN : 1048576 ≤ N) {x1 : Int32} {σ0 : zS}  (hR : RF σ0.2.2) (hNw : σ0.2.2 0 4 = 28) (hPw : σ0.2.2 0 5 = 2) (hC : CF σ0.1) : Ok (f_X11_end N 0 x1 σ0) (fun r => Tr [0] σ0 r.2 ∧ (CF r.2.1 ∧ r.1 = enV x1 (σ0.1 0 1) ∧ r.2.1 0 1 = enT x1 (σ0.1 0 1))) := by
  have hT : Tr [0] σ0 σ0 := Tr.rf
  obtain ⟨hW2, hW28, hW132, hW158, hW184, hL, hD, hu, ht⟩ := hC
  have hn := hW28.1
  have he := hW28.2.1
  have hD0 := hD
  have hL0 := hL
  have q10 := ti_one10 (x := σ0.1 28 0) hn.1 hn.2
  have t0 := ht
  rw [f_X11_end.eq_1]
  refine ok_if (fun hc1 => ?_) (fun hc1 => ?_)
  · exact ok_some ⟨hT, (show CF σ0.1 ∧ (-1 : Int32) = enV x1 (σ0.1 0 1) ∧ σ0.1 0 1 = enT x1 (σ0.1 0 1) from by first | exact ⟨⟨hW2, hW28, hW132, hW158, hW184, hL, hD, hu, ht⟩, (if_neg (by first | omega | (simp only [Int32.le_iff_toInt_le, Int32.lt_iff_toInt_lt, ti_add, ti_sub, ti_mul, Int32.reduceToInt] at *; omega))).symm, (if_neg (by first | omega | (simp only [Int32.le_iff_toInt_le, Int32.lt_iff_toInt_lt, ti_add, ti_sub, ti_mul, Int32.reduceToInt] at *; omega))).symm⟩ | exact ⟨⟨hW2, hW28, hW132, hW158, hW184, hL, hD, hu, ht⟩, (if_pos (by first | omega | (simp only [Int32.le_iff_toInt_le, Int32.lt_iff_toInt_lt, ti_add, ti_sub, ti_mul, Int32.reduceToInt] at *; omega))).symm, a16.trans (if_pos (by first | omega | (simp only [Int32.le_iff_toInt_le, Int32.lt_iff_toInt_lt, ti_add, ti_sub, ti_mul, Int32.reduceToInt] at *; omega))).symm⟩)⟩
  · refine ok_gI rfl ?_
    refine ok_if (fun hc3 => ?_) (fun hc3 => ?_)
    · refine ok_pI hT rfl (by decide) (fun σ4 eσ4 hOσ4 hT => ?_)
      have a16 := zI_atI eσ4
      have hW2 : WI 2 σ4.1 := WI.tr hOσ4 (by decide) (by decide) (by decide) hW2
      have hW28 : WI 28 σ4.1 := WI.tr hOσ4 (by decide) (by decide) (by decide) hW28
      have hW132 : WI 132 σ4.1 := WI.tr hOσ4 (by decide) (by decide) (by decide) hW132
      have hW158 : WI 158 σ4.1 := WI.tr hOσ4 (by decide) (by decide) (by decide) hW158
      have hW184 : WI 184 σ4.1 := WI.tr hOσ4 (by decide) (by decide) (by decide) hW184
      have hL : SI σ4.1 := SI.tr hOσ4 (by decide) (by decide) (by decide) (by decide) hL
      have hD : RD σ4.1 := RD.tr hOσ4 (by decide) (by decide) (by decide) (by decide) hD
      have hu : 2 ≤ (σ4.1 111 8).toInt ∧ (σ4.1 111 8).toInt ≤ 1600 := by rw [hOσ4.2 111 (by decide)] <;> exact hu
      have ht : 0 ≤ (σ4.1 0 1).toInt ∧ (σ4.1 0 1).toInt ≤ 600 := by rw [zI_atI eσ4]; simp only [Int32.le_iff_toInt_le, Int32.lt_iff_toInt_lt, ti_add, ti_sub, ti_mul, Int32.reduceToInt] at *; omega
      exact ok_some ⟨hT, (show CF σ4.1 ∧ x1 = enV x1 (σ0.1 0 1) ∧ σ4.1 0 1 = enT x1 (σ0.1 0 1) from by first | exact ⟨⟨hW2, hW28, hW132, hW158, hW184, hL, hD, hu, ht⟩, (if_neg (by first | omega | (simp only [Int32.le_iff_toInt_le, Int32.lt_iff_toInt_lt, ti_add, ti_sub, ti_mul, Int32.reduceToInt] at *; omega))).symm, (if_neg (by first | omega | (simp only [Int32.le_iff_toInt_le, Int32.lt_iff_toInt_lt, ti_add, ti_sub, ti_mul, Int32.reduceToInt] at *; omega))).symm⟩ | exact ⟨⟨hW2, hW28, hW132, hW158, hW184, hL, hD, hu, ht⟩, (if_pos (by first | omega | (simp only [Int32.le_iff_toInt_le, Int32.lt_iff_toInt_lt, ti_add, ti_sub, ti_mul, Int32.reduceToInt] at *; omega))).symm, a16.trans (if_pos (by first | omega | (simp only [Int32.le_iff_toInt_le, Int32.lt_iff_toInt_lt, ti_add, ti_sub, ti_mul, Int32.reduceToInt] at *; omega))).symm⟩)⟩
    · exact ok_some ⟨hT, (show CF σ0.1 ∧ (-1 : Int32) = enV x1 (σ0.1 0 1) ∧ σ0.1 0 1 = enT x1 (σ0.1 0 1) from by first | exact ⟨⟨hW2, hW28, hW132, hW158, hW184, hL, hD, hu, ht⟩, (if_neg (by first | omega | (simp only [Int32.le_iff_toInt_le, Int32.lt_iff_toInt_lt, ti_add, ti_sub, ti_mul, Int32.reduceToInt] at *; omega))).symm, (if_neg (by first | omega | (simp only [Int32.le_iff_toInt_le, Int32.lt_iff_toInt_lt, ti_add, ti_sub, ti_mul, Int32.reduceToInt] at *; omega))).symm⟩ | exact ⟨⟨hW2, hW28, hW132, hW158, hW184, hL, hD, hu, ht⟩, (if_pos (by first | omega | (simp only [Int32.le_iff_toInt_le, Int32.lt_iff_toInt_lt, ti_add, ti_sub, ti_mul, Int32.reduceToInt] at *; omega))).symm, a16.trans (if_pos (by first | omega | (simp only [Int32.le_iff_toInt_le, Int32.lt_iff_toInt_lt, ti_add, ti_sub, ti_mul, Int32.reduceToInt] at *; omega))).symm⟩)⟩

set_option maxHeartbeats 4000000 in
set_option maxRecDepth 100000 in
theorem s_X11_put_n28v {N : Nat} (hN : 1048576 ≤ N) {x1 : Int32} {σ0 : zS}  (hR : RF σ0.2.2) (hNw : σ0.2.2 0 4 = 28) (hPw : σ0.2.2 0 5 = 2) (hC : CF σ0.1) : Ok (f_X11_put N 0 x1 σ0) (fun r => Tr [0, 57, 58, 59, 61, 62, 63, 64, 65, 106, 107] σ0 r.2 ∧ (CF r.2.1 ∧ r.2.1 0 1 = 0)) := by
  have hT : Tr [0, 57, 58, 59, 61, 62, 63, 64, 65, 106, 107] σ0 σ0 := Tr.rf
  obtain ⟨hW2, hW28, hW132, hW158, hW184, hL, hD, hu, ht⟩ := hC
  have hn := hW28.1
  have he := hW28.2.1
  have hD0 := hD
  have hL0 := hL
  have q10 := ti_one10 (x := σ0.1 28 0) hn.1 hn.2
  rw [f_X11_put.eq_1]
  refine ok_gC rfl ?_
  refine ok_zbT (Q := fun V σ => (V = 0 ∨ V = 1) ∧ (¬ V = 0 → 0 ≤ x1.toInt ∧ x1.toInt ≤ 9)) hT (s_X11_isRegister_n28 hN (hR.tr hT) ((hT.1.1 0 4 (by decide)).trans hNw) (by first | exact hn | omega | (rw [hT.2 28 (by decide)]; exact hn))) (fun _ h9 => absurd h9 List.not_mem_nil) (fun v1 σ2 hOσ2 hT hqv1 => ?_)
  have hqv1 : (v1 = 0 ∨ v1 = 1) ∧ (¬ v1 = 0 → 0 ≤ x1.toInt ∧ x1.toInt ≤ 9) := hqv1
  have hW2 : WI 2 σ2.1 := WI.tr hOσ2 (by decide) (by decide) (by decide) hW2
  have hW28 : WI 28 σ2.1 := WI.tr hOσ2 (by decide) (by decide) (by decide) hW28
  have hW132 : WI 132 σ2.1 := WI.tr hOσ2 (by decide) (by decide) (by decide) hW132
  have hW158 : WI 158 σ2.1 := WI.tr hOσ2 (by decide) (by decide) (by decide) hW158
  have hW184 : WI 184 σ2.1 := WI.tr hOσ2 (by decide) (by decide) (by decide) hW184
  have hL : SI σ2.1 := SI.tr hOσ2 (by decide) (by decide) (by decide) (by decide) hL
  have hD : RD σ2.1 := RD.tr hOσ2 (by decide) (by decide) (by decide) (by decide) hD
  have hu : 2 ≤ (σ2.1 111 8).toInt ∧ (σ2.1 111 8).toInt ≤ 1600 := by rw [hOσ2.2 111 (by decide)] <;> exact hu
  have ht : 0 ≤ (σ2.1 0 1).toInt ∧ (σ2.1 0 1).toInt ≤ 600 := by rw [hOσ2.2 0 (by decide)] <;> exact ht
  refine ok_if (fun hc3 => ?_) (fun hc3 => ?_)
  · refine ok_pI hT rfl (by decide) (fun σ4 eσ4 hOσ4 hT => ?_)
    have z0 := zI_atI eσ4
    have hW2 : WI 2 σ4.1 := WI.tr hOσ4 (by decide) (by decide) (by decide) hW2
    have hW28 : WI 28 σ4.1 := WI.tr hOσ4 (by decide) (by decide) (by decide) hW28
    have hW132 : WI 132 σ4.1 := WI.tr hOσ4 (by decide) (by decide) (by decide) hW132
    have hW158 : WI 158 σ4.1 := WI.tr hOσ4 (by decide) (by decide) (by decide) hW158
    have hW184 : WI 184 σ4.1 := WI.tr hOσ4 (by decide) (by decide) (by decide) hW184
    have hL : SI σ4.1 := SI.tr hOσ4 (by decide) (by decide) (by decide) (by decide) hL
    have hD : RD σ4.1 := RD.tr hOσ4 (by decide) (by decide) (by decide) (by decide) hD
    have hu : 2 ≤ (σ4.1 111 8).toInt ∧ (σ4.1 111 8).toInt ≤ 1600 := by rw [hOσ4.2 111 (by decide)] <;> exact hu
    have ht : 0 ≤ (σ4.1 0 1).toInt ∧ (σ4.1 0 1).toInt ≤ 600 := by first | (rw [zI_atI eσ4]; decide) | (rw [HQ]; decide)
    exact ok_some ⟨hT, (show CF σ4.1 ∧ σ4.1 0 1 = 0 from by exact ⟨⟨hW2, hW28, hW132, hW158, hW184, hL, hD, hu, ht⟩, z0⟩)⟩
  · have qhc3 := hqv1.2 hc3
    refine ok_gR (v := 57) hT rfl (hR 0 9 rfl) ?_
    refine ok_gR (v := 1) hT rfl (hR 0 0 rfl) ?_
    refine ok_gI rfl ?_
    refine ok_gR (v := 28) hT rfl hNw ?_
    refine ok_gI0 hT rfl (by decide) ?_
    refine ok_gC rfl ?_
    refine ok_zbT (Q := fun V σ => (V = 0 ∨ V = 1) ∧ RD σ.1) hT (s_X5_readSum_1 hN (hR.tr hT) (hD)) (by decide) (fun v10 σ11 hOσ11 hT hqv10 => ?_)
    have hqv10 : (v10 = 0 ∨ v10 = 1) ∧ RD σ11.1 := hqv10
    have hW2 : WI 2 σ11.1 := WI.tr hOσ11 (by decide) (by decide) (by decide) hW2
    have hW28 : WI 28 σ11.1 := WI.tr hOσ11 (by decide) (by decide) (by decide) hW28
    have hW132 : WI 132 σ11.1 := WI.tr hOσ11 (by decide) (by decide) (by decide) hW132
    have hW158 : WI 158 σ11.1 := WI.tr hOσ11 (by decide) (by decide) (by decide) hW158
    have hW184 : WI 184 σ11.1 := WI.tr hOσ11 (by decide) (by decide) (by decide) hW184
    have hL : SI σ11.1 := SI.tr hOσ11 (by decide) (by decide) (by decide) (by decide) hL
    have hD : RD σ11.1 := hqv10.2
    have hu : 2 ≤ (σ11.1 111 8).toInt ∧ (σ11.1 111 8).toInt ≤ 1600 := by rw [hOσ11.2 111 (by decide)] <;> exact hu
    have ht : 0 ≤ (σ11.1 0 1).toInt ∧ (σ11.1 0 1).toInt ≤ 600 := by rw [hOσ11.2 0 (by decide)] <;> exact ht
    refine ok_gC rfl ?_
    refine ok_zbT (Q := fun V σ => σ.1 0 1 = 0) hT (s_X11_takeFault hN (hR.tr hT) ) (by decide) (fun v12 σ13 hOσ13 hT hqv12 => ?_)
    have hqv12 : σ13.1 0 1 = 0 := hqv12
    have hW2 : WI 2 σ13.1 := WI.tr hOσ13 (by decide) (by decide) (by decide) hW2
    have hW28 : WI 28 σ13.1 := WI.tr hOσ13 (by decide) (by decide) (by decide) hW28
    have hW132 : WI 132 σ13.1 := WI.tr hOσ13 (by decide) (by decide) (by decide) hW132
    have hW158 : WI 158 σ13.1 := WI.tr hOσ13 (by decide) (by decide) (by decide) hW158
    have hW184 : WI 184 σ13.1 := WI.tr hOσ13 (by decide) (by decide) (by decide) hW184
    have hL : SI σ13.1 := SI.tr hOσ13 (by decide) (by decide) (by decide) (by decide) hL
    have hD : RD σ13.1 := RD.tr hOσ13 (by decide) (by decide) (by decide) (by decide) hD
    have hu : 2 ≤ (σ13.1 111 8).toInt ∧ (σ13.1 111 8).toInt ≤ 1600 := by rw [hOσ13.2 111 (by decide)] <;> exact hu
    have ht : 0 ≤ (σ13.1 0 1).toInt ∧ (σ13.1 0 1).toInt ≤ 600 := by first | (rw [zI_atI eσ13]; decide) | (rw [hqv12]; decide)
    have z0 := hqv12
    refine ok_if (fun hc14 => ?_) (fun hc14 => ?_)
    · exact ok_some ⟨hT, (show CF σ13.1 ∧ σ13.1 0 1 = 0 from by exact ⟨⟨hW2, hW28, hW132, hW158, hW184, hL, hD, hu, ht⟩, z0⟩)⟩
    · refine ok_gR (v := 65) hT rfl (hR 0 10 rfl) ?_
      refine ok_gR (v := 57) hT rfl (hR 0 9 rfl) ?_
      refine ok_gR (v := 28) hT rfl hNw ?_
      refine ok_gR (v := 99) hT rfl (hR 0 11 rfl) ?_
      refine ok_gC rfl ?_
      refine ok_zbT (Q := fun V σ => True) hT (s_X7_run_57_28_99 hN (hR.tr hT) (by first | exact hn | omega | (rw [hT.2 28 (by decide)]; exact hn))) (by decide) (fun v19 σ20 hOσ20 hT hqv19 => ?_)
      have hW2 : WI 2 σ20.1 := WI.tr hOσ20 (by decide) (by decide) (by decide) hW2
      have hW28 : WI 28 σ20.1 := WI.tr hOσ20 (by decide) (by decide) (by decide) hW28
      have hW132 : WI 132 σ20.1 := WI.tr hOσ20 (by decide) (by decide) (by decide) hW132
      have hW158 : WI 158 σ20.1 := WI.tr hOσ20 (by decide) (by decide) (by decide) hW158
      have hW184 : WI 184 σ20.1 := WI.tr hOσ20 (by decide) (by decide) (by decide) hW184
      have hL : SI σ20.1 := SI.tr hOσ20 (by decide) (by decide) (by decide) (by decide) hL
      have hD : RD σ20.1 := RD.tr hOσ20 (by decide) (by decide) (by decide) (by decide) hD
      have hu : 2 ≤ (σ20.1 111 8).toInt ∧ (σ20.1 111 8).toInt ≤ 1600 := by rw [hOσ20.2 111 (by decide)] <;> exact hu
      have ht : 0 ≤ (σ20.1 0 1).toInt ∧ (σ20.1 0 1).toInt ≤ 600 := by rw [hOσ20.2 0 (by decide)] <;> exact ht
      have z0 := (congrFun (hOσ20.2 0 (by decide)) 1).trans z0
      refine ok_gR (v := 28) hT rfl hNw ?_
      refine ok_gR (v := 33) hT rfl (hR 28 7 rfl) ?_
      obtain ⟨q24, eq24, kq24⟩ := arrF hR (k := 33) (i := x1) rfl (by first | omega | decide | (have q1 := hD.1; have q2 := hD.2.1; simp only [Int32.le_iff_toInt_le, Int32.lt_iff_toInt_lt, ti_add, ti_sub, ti_mul, Int32.reduceToInt] at *; omega)) (by first | omega | decide | (have q1 := hD.1; have q2 := hD.2.1; simp only [Int32.le_iff_toInt_le, Int32.lt_iff_toInt_lt, ti_add, ti_sub, ti_mul, Int32.reduceToInt] at *; omega))
      refine ok_aR (v := q24) hT rfl (by first | omega | decide | (have q1 := hD.1; have q2 := hD.2.1; simp only [Int32.le_iff_toInt_le, Int32.lt_iff_toInt_lt, ti_add, ti_sub, ti_mul, Int32.reduceToInt] at *; omega)) (by first | omega | decide | (have q1 := hD.1; have q2 := hD.2.1; simp only [Int32.le_iff_toInt_le, Int32.lt_iff_toInt_lt, ti_add, ti_sub, ti_mul, Int32.reduceToInt] at *; omega)) eq24 ?_
      refine ok_gC kq24 ?_
      refine ok_zbT (Q := fun V σ => True) hT (s_X2_tally hN (hR.tr hT) kq24) (fun _ h9 => absurd h9 List.not_mem_nil) (fun v25 σ26 hOσ26 hT hqv25 => ?_)
      have hW2 : WI 2 σ26.1 := WI.tr hOσ26 (by decide) (by decide) (by decide) hW2
      have hW28 : WI 28 σ26.1 := WI.tr hOσ26 (by decide) (by decide) (by decide) hW28
      have hW132 : WI 132 σ26.1 := WI.tr hOσ26 (by decide) (by decide) (by decide) hW132
      have hW158 : WI 158 σ26.1 := WI.tr hOσ26 (by decide) (by decide) (by decide) hW158
      have hW184 : WI 184 σ26.1 := WI.tr hOσ26 (by decide) (by decide) (by decide) hW184
      have hL : SI σ26.1 := SI.tr hOσ26 (by decide) (by decide) (by decide) (by decide) hL
      have hD : RD σ26.1 := RD.tr hOσ26 (by decide) (by decide) (by decide) (by decide) hD
      have hu : 2 ≤ (σ26.1 111 8).toInt ∧ (σ26.1 111 8).toInt ≤ 1600 := by rw [hOσ26.2 111 (by decide)] <;> exact hu
      have ht : 0 ≤ (σ26.1 0 1).toInt ∧ (σ26.1 0 1).toInt ≤ 600 := by rw [hOσ26.2 0 (by decide)] <;> exact ht
      have z0 := (congrFun (hOσ26.2 0 (by decide)) 1).trans z0
      exact ok_some ⟨hT, (show CF σ26.1 ∧ σ26.1 0 1 = 0 from by exact ⟨⟨hW2, hW28, hW132, hW158, hW184, hL, hD, hu, ht⟩, z0⟩)⟩

set_option maxHeartbeats 4000000 in
set_option maxRecDepth 100000 in
theorem s_X11_keep_n28_0v {N : Nat} (hN : 1048576 ≤ N)  {σ0 : zS}  (hR : RF σ0.2.2) (hNw : σ0.2.2 0 4 = 28) (hPw : σ0.2.2 0 5 = 2) (hC : CF σ0.1) (hB : ZB σ0.1) : Ok (f_X11_keep N 0 0 σ0) (fun r => Tr [55, 132, 133, 134, 135, 136] σ0 r.2 ∧ (CF r.2.1 ∧ ZB r.2.1 ∧ r.1 = 0 ∧ ∀ j, r.2.1 55 j = if j = 0 then vp_nar .boolean 1 else σ0.1 55 j)) := by
  have hT : Tr [55, 132, 133, 134, 135, 136] σ0 σ0 := Tr.rf
  obtain ⟨hW2, hW28, hW132, hW158, hW184, hL, hD, hu, ht⟩ := hC
  have hn := hW28.1
  have he := hW28.2.1
  have hD0 := hD
  have hL0 := hL
  have q10 := ti_one10 (x := σ0.1 28 0) hn.1 hn.2
  rw [f_X11_keep.eq_1]
  refine ok_if (fun hc1 => ?_) (fun hc1 => ?_)
  · exact absurd hc1 (by decide)
  · refine ok_if (fun hc2 => ?_) (fun hc2 => ?_)
    · refine ok_gR (v := 54) hT rfl (hR 0 6 rfl) ?_
      refine ok_aR (v := 132) hT rfl (by first | omega | decide | (have q1 := hD.1; have q2 := hD.2.1; simp only [Int32.le_iff_toInt_le, Int32.lt_iff_toInt_lt, ti_add, ti_sub, ti_mul, Int32.reduceToInt] at *; omega)) (by first | omega | decide | (have q1 := hD.1; have q2 := hD.2.1; simp only [Int32.le_iff_toInt_le, Int32.lt_iff_toInt_lt, ti_add, ti_sub, ti_mul, Int32.reduceToInt] at *; omega)) (hR 54 0 rfl) ?_
      refine ok_gR (v := 28) hT rfl hNw ?_
      refine ok_gC rfl ?_
      refine ok_zbT (Q := fun V σ => WI 132 σ.1) hT (s_X10_copyFrom_132_28 hN (hR.tr hT) (hW132) (hW28)) (by decide) (fun v6 σ7 hOσ7 hT hqv6 => ?_)
      have hqv6 : WI 132 σ7.1 := hqv6
      have r55_σ7 : σ7.1 55 = σ0.1 55 := hOσ7.2 55 (by decide)
      have hW2 : WI 2 σ7.1 := WI.tr hOσ7 (by decide) (by decide) (by decide) hW2
      have hW28 : WI 28 σ7.1 := WI.tr hOσ7 (by decide) (by decide) (by decide) hW28
      have hW132 : WI 132 σ7.1 := hqv6
      have hW158 : WI 158 σ7.1 := WI.tr hOσ7 (by decide) (by decide) (by decide) hW158
      have hW184 : WI 184 σ7.1 := WI.tr hOσ7 (by decide) (by decide) (by decide) hW184
      have hL : SI σ7.1 := SI.tr hOσ7 (by decide) (by decide) (by decide) (by decide) hL
      have hD : RD σ7.1 := RD.tr hOσ7 (by decide) (by decide) (by decide) (by decide) hD
      have hu : 2 ≤ (σ7.1 111 8).toInt ∧ (σ7.1 111 8).toInt ≤ 1600 := by rw [hOσ7.2 111 (by decide)] <;> exact hu
      have ht : 0 ≤ (σ7.1 0 1).toInt ∧ (σ7.1 0 1).toInt ≤ 600 := by rw [hOσ7.2 0 (by decide)] <;> exact ht
      have hB : ZB σ7.1 := ZB.tr hOσ7 (by decide) hB
      refine ok_gR (v := 55) hT rfl (hR 0 7 rfl) ?_
      refine ok_s16 hT rfl (by decide) (by first | omega | decide | (have q1 := hD.1; have q2 := hD.2.1; simp only [Int32.le_iff_toInt_le, Int32.lt_iff_toInt_lt, ti_add, ti_sub, ti_mul, Int32.reduceToInt] at *; omega)) (by first | omega | decide | (have q1 := hD.1; have q2 := hD.2.1; simp only [Int32.le_iff_toInt_le, Int32.lt_iff_toInt_lt, ti_add, ti_sub, ti_mul, Int32.reduceToInt] at *; omega)) (fun σ9 eσ9 hOσ9 hT => ?_)
      have u31 := upd_at eσ9 r55_σ7
      have hW2 : WI 2 σ9.1 := WI.tr hOσ9 (by decide) (by decide) (by decide) hW2
      have hW28 : WI 28 σ9.1 := WI.tr hOσ9 (by decide) (by decide) (by decide) hW28
      have hW132 : WI 132 σ9.1 := WI.tr hOσ9 (by decide) (by decide) (by decide) hW132
      have hW158 : WI 158 σ9.1 := WI.tr hOσ9 (by decide) (by decide) (by decide) hW158
      have hW184 : WI 184 σ9.1 := WI.tr hOσ9 (by decide) (by decide) (by decide) hW184
      have hL : SI σ9.1 := SI.tr hOσ9 (by decide) (by decide) (by decide) (by decide) hL
      have hD : RD σ9.1 := RD.tr hOσ9 (by decide) (by decide) (by decide) (by decide) hD
      have hu : 2 ≤ (σ9.1 111 8).toInt ∧ (σ9.1 111 8).toInt ≤ 1600 := by rw [hOσ9.2 111 (by decide)] <;> exact hu
      have ht : 0 ≤ (σ9.1 0 1).toInt ∧ (σ9.1 0 1).toInt ≤ 600 := by rw [hOσ9.2 0 (by decide)] <;> exact ht
      have hB : ZB σ9.1 := ZB_s eσ9 hB
      exact ok_some ⟨hT, (show CF σ9.1 ∧ ZB σ9.1 ∧ (0 : Int32) = 0 ∧ ∀ j, σ9.1 55 j = if j = 0 then vp_nar .boolean 1 else σ0.1 55 j from by exact ⟨⟨hW2, hW28, hW132, hW158, hW184, hL, hD, hu, ht⟩, hB, rfl, u31⟩)⟩
    · exact absurd hc2 (by decide)

set_option maxHeartbeats 4000000 in
set_option maxRecDepth 100000 in
theorem s_X11_back_n28_0v {N : Nat} (hN : 1048576 ≤ N)  {σ0 : zS}  (hR : RF σ0.2.2) (hNw : σ0.2.2 0 4 = 28) (hPw : σ0.2.2 0 5 = 2) (hC : CF σ0.1) : Ok (f_X11_back N 0 0 σ0) (fun r => Tr [28, 29, 30, 31, 32] σ0 r.2 ∧ (CF r.2.1 ∧ r.1 = if σ0.1 55 0 = 0 then -6 else 0)) := by
  have hT : Tr [28, 29, 30, 31, 32] σ0 σ0 := Tr.rf
  obtain ⟨hW2, hW28, hW132, hW158, hW184, hL, hD, hu, ht⟩ := hC
  have hn := hW28.1
  have he := hW28.2.1
  have hD0 := hD
  have hL0 := hL
  have q10 := ti_one10 (x := σ0.1 28 0) hn.1 hn.2
  rw [f_X11_back.eq_1]
  refine ok_if (fun hc1 => ?_) (fun hc1 => ?_)
  · exact absurd hc1 (by decide)
  · refine ok_if (fun hc2 => ?_) (fun hc2 => ?_)
    · refine ok_gR (v := 55) hT rfl (hR 0 7 rfl) ?_
      refine ok_aIn rfl (by first | omega | decide | (have q1 := hD.1; have q2 := hD.2.1; simp only [Int32.le_iff_toInt_le, Int32.lt_iff_toInt_lt, ti_add, ti_sub, ti_mul, Int32.reduceToInt] at *; omega)) (by first | omega | decide | (have q1 := hD.1; have q2 := hD.2.1; simp only [Int32.le_iff_toInt_le, Int32.lt_iff_toInt_lt, ti_add, ti_sub, ti_mul, Int32.reduceToInt] at *; omega)) (fun v4 ev4 => ?_)
      have w17 : v4 = σ0.1 55 0 := ev4
      refine ok_if (fun hc5 => ?_) (fun hc5 => ?_)
      · have e18 := hc5
        exact ok_some ⟨hT, (show CF σ0.1 ∧ (-6 : Int32) = if σ0.1 55 0 = 0 then -6 else 0 from by first | exact ⟨⟨hW2, hW28, hW132, hW158, hW184, hL, hD, hu, ht⟩, (if_pos (w17 ▸ e18)).symm⟩ | exact ⟨⟨hW2, hW28, hW132, hW158, hW184, hL, hD, hu, ht⟩, (if_neg (w17 ▸ e18)).symm⟩)⟩
      · have e18 := hc5
        refine ok_gR (v := 28) hT rfl hNw ?_
        refine ok_gR (v := 54) hT rfl (hR 0 6 rfl) ?_
        refine ok_aR (v := 132) hT rfl (by first | omega | decide | (have q1 := hD.1; have q2 := hD.2.1; simp only [Int32.le_iff_toInt_le, Int32.lt_iff_toInt_lt, ti_add, ti_sub, ti_mul, Int32.reduceToInt] at *; omega)) (by first | omega | decide | (have q1 := hD.1; have q2 := hD.2.1; simp only [Int32.le_iff_toInt_le, Int32.lt_iff_toInt_lt, ti_add, ti_sub, ti_mul, Int32.reduceToInt] at *; omega)) (hR 54 0 rfl) ?_
        refine ok_gC rfl ?_
        refine ok_zbT (Q := fun V σ => WI 28 σ.1) hT (s_X10_copyFrom_28_132 hN (hR.tr hT) (hW28) (hW132)) (by decide) (fun v9 σ10 hOσ10 hT hqv9 => ?_)
        have hqv9 : WI 28 σ10.1 := hqv9
        have hW2 : WI 2 σ10.1 := WI.tr hOσ10 (by decide) (by decide) (by decide) hW2
        have hW28 : WI 28 σ10.1 := hqv9
        have hW132 : WI 132 σ10.1 := WI.tr hOσ10 (by decide) (by decide) (by decide) hW132
        have hW158 : WI 158 σ10.1 := WI.tr hOσ10 (by decide) (by decide) (by decide) hW158
        have hW184 : WI 184 σ10.1 := WI.tr hOσ10 (by decide) (by decide) (by decide) hW184
        have hL : SI σ10.1 := SI.tr hOσ10 (by decide) (by decide) (by decide) (by decide) hL
        have hD : RD σ10.1 := RD.tr hOσ10 (by decide) (by decide) (by decide) (by decide) hD
        have hu : 2 ≤ (σ10.1 111 8).toInt ∧ (σ10.1 111 8).toInt ≤ 1600 := by rw [hOσ10.2 111 (by decide)] <;> exact hu
        have ht : 0 ≤ (σ10.1 0 1).toInt ∧ (σ10.1 0 1).toInt ≤ 600 := by rw [hOσ10.2 0 (by decide)] <;> exact ht
        exact ok_some ⟨hT, (show CF σ10.1 ∧ (0 : Int32) = if σ0.1 55 0 = 0 then -6 else 0 from by first | exact ⟨⟨hW2, hW28, hW132, hW158, hW184, hL, hD, hu, ht⟩, (if_pos (w17 ▸ e18)).symm⟩ | exact ⟨⟨hW2, hW28, hW132, hW158, hW184, hL, hD, hu, ht⟩, (if_neg (w17 ▸ e18)).symm⟩)⟩
    · exact absurd hc2 (by decide)

set_option maxHeartbeats 4000000 in
set_option maxRecDepth 100000 in
theorem s_X11_keep_n28_1v {N : Nat} (hN : 1048576 ≤ N)  {σ0 : zS}  (hR : RF σ0.2.2) (hNw : σ0.2.2 0 4 = 28) (hPw : σ0.2.2 0 5 = 2) (hC : CF σ0.1) (hB : ZB σ0.1) : Ok (f_X11_keep N 0 1 σ0) (fun r => Tr [55, 158, 159, 160, 161, 162] σ0 r.2 ∧ (CF r.2.1 ∧ ZB r.2.1 ∧ r.1 = 0 ∧ ∀ j, r.2.1 55 j = if j = 1 then vp_nar .boolean 1 else σ0.1 55 j)) := by
  have hT : Tr [55, 158, 159, 160, 161, 162] σ0 σ0 := Tr.rf
  obtain ⟨hW2, hW28, hW132, hW158, hW184, hL, hD, hu, ht⟩ := hC
  have hn := hW28.1
  have he := hW28.2.1
  have hD0 := hD
  have hL0 := hL
  have q10 := ti_one10 (x := σ0.1 28 0) hn.1 hn.2
  rw [f_X11_keep.eq_1]
  refine ok_if (fun hc1 => ?_) (fun hc1 => ?_)
  · exact absurd hc1 (by decide)
  · refine ok_if (fun hc2 => ?_) (fun hc2 => ?_)
    · refine ok_gR (v := 54) hT rfl (hR 0 6 rfl) ?_
      refine ok_aR (v := 158) hT rfl (by first | omega | decide | (have q1 := hD.1; have q2 := hD.2.1; simp only [Int32.le_iff_toInt_le, Int32.lt_iff_toInt_lt, ti_add, ti_sub, ti_mul, Int32.reduceToInt] at *; omega)) (by first | omega | decide | (have q1 := hD.1; have q2 := hD.2.1; simp only [Int32.le_iff_toInt_le, Int32.lt_iff_toInt_lt, ti_add, ti_sub, ti_mul, Int32.reduceToInt] at *; omega)) (hR 54 1 rfl) ?_
      refine ok_gR (v := 28) hT rfl hNw ?_
      refine ok_gC rfl ?_
      refine ok_zbT (Q := fun V σ => WI 158 σ.1) hT (s_X10_copyFrom_158_28 hN (hR.tr hT) (hW158) (hW28)) (by decide) (fun v6 σ7 hOσ7 hT hqv6 => ?_)
      have hqv6 : WI 158 σ7.1 := hqv6
      have r55_σ7 : σ7.1 55 = σ0.1 55 := hOσ7.2 55 (by decide)
      have hW2 : WI 2 σ7.1 := WI.tr hOσ7 (by decide) (by decide) (by decide) hW2
      have hW28 : WI 28 σ7.1 := WI.tr hOσ7 (by decide) (by decide) (by decide) hW28
      have hW132 : WI 132 σ7.1 := WI.tr hOσ7 (by decide) (by decide) (by decide) hW132
      have hW158 : WI 158 σ7.1 := hqv6
      have hW184 : WI 184 σ7.1 := WI.tr hOσ7 (by decide) (by decide) (by decide) hW184
      have hL : SI σ7.1 := SI.tr hOσ7 (by decide) (by decide) (by decide) (by decide) hL
      have hD : RD σ7.1 := RD.tr hOσ7 (by decide) (by decide) (by decide) (by decide) hD
      have hu : 2 ≤ (σ7.1 111 8).toInt ∧ (σ7.1 111 8).toInt ≤ 1600 := by rw [hOσ7.2 111 (by decide)] <;> exact hu
      have ht : 0 ≤ (σ7.1 0 1).toInt ∧ (σ7.1 0 1).toInt ≤ 600 := by rw [hOσ7.2 0 (by decide)] <;> exact ht
      have hB : ZB σ7.1 := ZB.tr hOσ7 (by decide) hB
      refine ok_gR (v := 55) hT rfl (hR 0 7 rfl) ?_
      refine ok_s16 hT rfl (by decide) (by first | omega | decide | (have q1 := hD.1; have q2 := hD.2.1; simp only [Int32.le_iff_toInt_le, Int32.lt_iff_toInt_lt, ti_add, ti_sub, ti_mul, Int32.reduceToInt] at *; omega)) (by first | omega | decide | (have q1 := hD.1; have q2 := hD.2.1; simp only [Int32.le_iff_toInt_le, Int32.lt_iff_toInt_lt, ti_add, ti_sub, ti_mul, Int32.reduceToInt] at *; omega)) (fun σ9 eσ9 hOσ9 hT => ?_)
      have u31 := upd_at eσ9 r55_σ7
      have hW2 : WI 2 σ9.1 := WI.tr hOσ9 (by decide) (by decide) (by decide) hW2
      have hW28 : WI 28 σ9.1 := WI.tr hOσ9 (by decide) (by decide) (by decide) hW28
      have hW132 : WI 132 σ9.1 := WI.tr hOσ9 (by decide) (by decide) (by decide) hW132
      have hW158 : WI 158 σ9.1 := WI.tr hOσ9 (by decide) (by decide) (by decide) hW158
      have hW184 : WI 184 σ9.1 := WI.tr hOσ9 (by decide) (by decide) (by decide) hW184
      have hL : SI σ9.1 := SI.tr hOσ9 (by decide) (by decide) (by decide) (by decide) hL
      have hD : RD σ9.1 := RD.tr hOσ9 (by decide) (by decide) (by decide) (by decide) hD
      have hu : 2 ≤ (σ9.1 111 8).toInt ∧ (σ9.1 111 8).toInt ≤ 1600 := by rw [hOσ9.2 111 (by decide)] <;> exact hu
      have ht : 0 ≤ (σ9.1 0 1).toInt ∧ (σ9.1 0 1).toInt ≤ 600 := by rw [hOσ9.2 0 (by decide)] <;> exact ht
      have hB : ZB σ9.1 := ZB_s eσ9 hB
      exact ok_some ⟨hT, (show CF σ9.1 ∧ ZB σ9.1 ∧ (0 : Int32) = 0 ∧ ∀ j, σ9.1 55 j = if j = 1 then vp_nar .boolean 1 else σ0.1 55 j from by exact ⟨⟨hW2, hW28, hW132, hW158, hW184, hL, hD, hu, ht⟩, hB, rfl, u31⟩)⟩
    · exact absurd hc2 (by decide)

set_option maxHeartbeats 4000000 in
set_option maxRecDepth 100000 in
theorem s_X11_back_n28_1v {N : Nat} (hN : 1048576 ≤ N)  {σ0 : zS}  (hR : RF σ0.2.2) (hNw : σ0.2.2 0 4 = 28) (hPw : σ0.2.2 0 5 = 2) (hC : CF σ0.1) : Ok (f_X11_back N 0 1 σ0) (fun r => Tr [28, 29, 30, 31, 32] σ0 r.2 ∧ (CF r.2.1 ∧ r.1 = if σ0.1 55 1 = 0 then -6 else 0)) := by
  have hT : Tr [28, 29, 30, 31, 32] σ0 σ0 := Tr.rf
  obtain ⟨hW2, hW28, hW132, hW158, hW184, hL, hD, hu, ht⟩ := hC
  have hn := hW28.1
  have he := hW28.2.1
  have hD0 := hD
  have hL0 := hL
  have q10 := ti_one10 (x := σ0.1 28 0) hn.1 hn.2
  rw [f_X11_back.eq_1]
  refine ok_if (fun hc1 => ?_) (fun hc1 => ?_)
  · exact absurd hc1 (by decide)
  · refine ok_if (fun hc2 => ?_) (fun hc2 => ?_)
    · refine ok_gR (v := 55) hT rfl (hR 0 7 rfl) ?_
      refine ok_aIn rfl (by first | omega | decide | (have q1 := hD.1; have q2 := hD.2.1; simp only [Int32.le_iff_toInt_le, Int32.lt_iff_toInt_lt, ti_add, ti_sub, ti_mul, Int32.reduceToInt] at *; omega)) (by first | omega | decide | (have q1 := hD.1; have q2 := hD.2.1; simp only [Int32.le_iff_toInt_le, Int32.lt_iff_toInt_lt, ti_add, ti_sub, ti_mul, Int32.reduceToInt] at *; omega)) (fun v4 ev4 => ?_)
      have w17 : v4 = σ0.1 55 1 := ev4
      refine ok_if (fun hc5 => ?_) (fun hc5 => ?_)
      · have e18 := hc5
        exact ok_some ⟨hT, (show CF σ0.1 ∧ (-6 : Int32) = if σ0.1 55 1 = 0 then -6 else 0 from by first | exact ⟨⟨hW2, hW28, hW132, hW158, hW184, hL, hD, hu, ht⟩, (if_pos (w17 ▸ e18)).symm⟩ | exact ⟨⟨hW2, hW28, hW132, hW158, hW184, hL, hD, hu, ht⟩, (if_neg (w17 ▸ e18)).symm⟩)⟩
      · have e18 := hc5
        refine ok_gR (v := 28) hT rfl hNw ?_
        refine ok_gR (v := 54) hT rfl (hR 0 6 rfl) ?_
        refine ok_aR (v := 158) hT rfl (by first | omega | decide | (have q1 := hD.1; have q2 := hD.2.1; simp only [Int32.le_iff_toInt_le, Int32.lt_iff_toInt_lt, ti_add, ti_sub, ti_mul, Int32.reduceToInt] at *; omega)) (by first | omega | decide | (have q1 := hD.1; have q2 := hD.2.1; simp only [Int32.le_iff_toInt_le, Int32.lt_iff_toInt_lt, ti_add, ti_sub, ti_mul, Int32.reduceToInt] at *; omega)) (hR 54 1 rfl) ?_
        refine ok_gC rfl ?_
        refine ok_zbT (Q := fun V σ => WI 28 σ.1) hT (s_X10_copyFrom_28_158 hN (hR.tr hT) (hW28) (hW158)) (by decide) (fun v9 σ10 hOσ10 hT hqv9 => ?_)
        have hqv9 : WI 28 σ10.1 := hqv9
        have hW2 : WI 2 σ10.1 := WI.tr hOσ10 (by decide) (by decide) (by decide) hW2
        have hW28 : WI 28 σ10.1 := hqv9
        have hW132 : WI 132 σ10.1 := WI.tr hOσ10 (by decide) (by decide) (by decide) hW132
        have hW158 : WI 158 σ10.1 := WI.tr hOσ10 (by decide) (by decide) (by decide) hW158
        have hW184 : WI 184 σ10.1 := WI.tr hOσ10 (by decide) (by decide) (by decide) hW184
        have hL : SI σ10.1 := SI.tr hOσ10 (by decide) (by decide) (by decide) (by decide) hL
        have hD : RD σ10.1 := RD.tr hOσ10 (by decide) (by decide) (by decide) (by decide) hD
        have hu : 2 ≤ (σ10.1 111 8).toInt ∧ (σ10.1 111 8).toInt ≤ 1600 := by rw [hOσ10.2 111 (by decide)] <;> exact hu
        have ht : 0 ≤ (σ10.1 0 1).toInt ∧ (σ10.1 0 1).toInt ≤ 600 := by rw [hOσ10.2 0 (by decide)] <;> exact ht
        exact ok_some ⟨hT, (show CF σ10.1 ∧ (0 : Int32) = if σ0.1 55 1 = 0 then -6 else 0 from by first | exact ⟨⟨hW2, hW28, hW132, hW158, hW184, hL, hD, hu, ht⟩, (if_pos (w17 ▸ e18)).symm⟩ | exact ⟨⟨hW2, hW28, hW132, hW158, hW184, hL, hD, hu, ht⟩, (if_neg (w17 ▸ e18)).symm⟩)⟩
    · exact absurd hc2 (by decide)

set_option maxHeartbeats 4000000 in
set_option maxRecDepth 100000 in
theorem s_X11_keep_n28_2v {N : Nat} (hN : 1048576 ≤ N)  {σ0 : zS}  (hR : RF σ0.2.2) (hNw : σ0.2.2 0 4 = 28) (hPw : σ0.2.2 0 5 = 2) (hC : CF σ0.1) (hB : ZB σ0.1) : Ok (f_X11_keep N 0 2 σ0) (fun r => Tr [55, 184, 185, 186, 187, 188] σ0 r.2 ∧ (CF r.2.1 ∧ ZB r.2.1 ∧ r.1 = 0 ∧ ∀ j, r.2.1 55 j = if j = 2 then vp_nar .boolean 1 else σ0.1 55 j)) := by
  have hT : Tr [55, 184, 185, 186, 187, 188] σ0 σ0 := Tr.rf
  obtain ⟨hW2, hW28, hW132, hW158, hW184, hL, hD, hu, ht⟩ := hC
  have hn := hW28.1
  have he := hW28.2.1
  have hD0 := hD
  have hL0 := hL
  have q10 := ti_one10 (x := σ0.1 28 0) hn.1 hn.2
  rw [f_X11_keep.eq_1]
  refine ok_if (fun hc1 => ?_) (fun hc1 => ?_)
  · exact absurd hc1 (by decide)
  · refine ok_if (fun hc2 => ?_) (fun hc2 => ?_)
    · refine ok_gR (v := 54) hT rfl (hR 0 6 rfl) ?_
      refine ok_aR (v := 184) hT rfl (by first | omega | decide | (have q1 := hD.1; have q2 := hD.2.1; simp only [Int32.le_iff_toInt_le, Int32.lt_iff_toInt_lt, ti_add, ti_sub, ti_mul, Int32.reduceToInt] at *; omega)) (by first | omega | decide | (have q1 := hD.1; have q2 := hD.2.1; simp only [Int32.le_iff_toInt_le, Int32.lt_iff_toInt_lt, ti_add, ti_sub, ti_mul, Int32.reduceToInt] at *; omega)) (hR 54 2 rfl) ?_
      refine ok_gR (v := 28) hT rfl hNw ?_
      refine ok_gC rfl ?_
      refine ok_zbT (Q := fun V σ => WI 184 σ.1) hT (s_X10_copyFrom_184_28 hN (hR.tr hT) (hW184) (hW28)) (by decide) (fun v6 σ7 hOσ7 hT hqv6 => ?_)
      have hqv6 : WI 184 σ7.1 := hqv6
      have r55_σ7 : σ7.1 55 = σ0.1 55 := hOσ7.2 55 (by decide)
      have hW2 : WI 2 σ7.1 := WI.tr hOσ7 (by decide) (by decide) (by decide) hW2
      have hW28 : WI 28 σ7.1 := WI.tr hOσ7 (by decide) (by decide) (by decide) hW28
      have hW132 : WI 132 σ7.1 := WI.tr hOσ7 (by decide) (by decide) (by decide) hW132
      have hW158 : WI 158 σ7.1 := WI.tr hOσ7 (by decide) (by decide) (by decide) hW158
      have hW184 : WI 184 σ7.1 := hqv6
      have hL : SI σ7.1 := SI.tr hOσ7 (by decide) (by decide) (by decide) (by decide) hL
      have hD : RD σ7.1 := RD.tr hOσ7 (by decide) (by decide) (by decide) (by decide) hD
      have hu : 2 ≤ (σ7.1 111 8).toInt ∧ (σ7.1 111 8).toInt ≤ 1600 := by rw [hOσ7.2 111 (by decide)] <;> exact hu
      have ht : 0 ≤ (σ7.1 0 1).toInt ∧ (σ7.1 0 1).toInt ≤ 600 := by rw [hOσ7.2 0 (by decide)] <;> exact ht
      have hB : ZB σ7.1 := ZB.tr hOσ7 (by decide) hB
      refine ok_gR (v := 55) hT rfl (hR 0 7 rfl) ?_
      refine ok_s16 hT rfl (by decide) (by first | omega | decide | (have q1 := hD.1; have q2 := hD.2.1; simp only [Int32.le_iff_toInt_le, Int32.lt_iff_toInt_lt, ti_add, ti_sub, ti_mul, Int32.reduceToInt] at *; omega)) (by first | omega | decide | (have q1 := hD.1; have q2 := hD.2.1; simp only [Int32.le_iff_toInt_le, Int32.lt_iff_toInt_lt, ti_add, ti_sub, ti_mul, Int32.reduceToInt] at *; omega)) (fun σ9 eσ9 hOσ9 hT => ?_)
      have u31 := upd_at eσ9 r55_σ7
      have hW2 : WI 2 σ9.1 := WI.tr hOσ9 (by decide) (by decide) (by decide) hW2
      have hW28 : WI 28 σ9.1 := WI.tr hOσ9 (by decide) (by decide) (by decide) hW28
      have hW132 : WI 132 σ9.1 := WI.tr hOσ9 (by decide) (by decide) (by decide) hW132
      have hW158 : WI 158 σ9.1 := WI.tr hOσ9 (by decide) (by decide) (by decide) hW158
      have hW184 : WI 184 σ9.1 := WI.tr hOσ9 (by decide) (by decide) (by decide) hW184
      have hL : SI σ9.1 := SI.tr hOσ9 (by decide) (by decide) (by decide) (by decide) hL
      have hD : RD σ9.1 := RD.tr hOσ9 (by decide) (by decide) (by decide) (by decide) hD
      have hu : 2 ≤ (σ9.1 111 8).toInt ∧ (σ9.1 111 8).toInt ≤ 1600 := by rw [hOσ9.2 111 (by decide)] <;> exact hu
      have ht : 0 ≤ (σ9.1 0 1).toInt ∧ (σ9.1 0 1).toInt ≤ 600 := by rw [hOσ9.2 0 (by decide)] <;> exact ht
      have hB : ZB σ9.1 := ZB_s eσ9 hB
      exact ok_some ⟨hT, (show CF σ9.1 ∧ ZB σ9.1 ∧ (0 : Int32) = 0 ∧ ∀ j, σ9.1 55 j = if j = 2 then vp_nar .boolean 1 else σ0.1 55 j from by exact ⟨⟨hW2, hW28, hW132, hW158, hW184, hL, hD, hu, ht⟩, hB, rfl, u31⟩)⟩
    · exact absurd hc2 (by decide)

set_option maxHeartbeats 4000000 in
set_option maxRecDepth 100000 in
theorem s_X11_back_n28_2v {N : Nat} (hN : 1048576 ≤ N)  {σ0 : zS}  (hR : RF σ0.2.2) (hNw : σ0.2.2 0 4 = 28) (hPw : σ0.2.2 0 5 = 2) (hC : CF σ0.1) : Ok (f_X11_back N 0 2 σ0) (fun r => Tr [28, 29, 30, 31, 32] σ0 r.2 ∧ (CF r.2.1 ∧ r.1 = if σ0.1 55 2 = 0 then -6 else 0)) := by
  have hT : Tr [28, 29, 30, 31, 32] σ0 σ0 := Tr.rf
  obtain ⟨hW2, hW28, hW132, hW158, hW184, hL, hD, hu, ht⟩ := hC
  have hn := hW28.1
  have he := hW28.2.1
  have hD0 := hD
  have hL0 := hL
  have q10 := ti_one10 (x := σ0.1 28 0) hn.1 hn.2
  rw [f_X11_back.eq_1]
  refine ok_if (fun hc1 => ?_) (fun hc1 => ?_)
  · exact absurd hc1 (by decide)
  · refine ok_if (fun hc2 => ?_) (fun hc2 => ?_)
    · refine ok_gR (v := 55) hT rfl (hR 0 7 rfl) ?_
      refine ok_aIn rfl (by first | omega | decide | (have q1 := hD.1; have q2 := hD.2.1; simp only [Int32.le_iff_toInt_le, Int32.lt_iff_toInt_lt, ti_add, ti_sub, ti_mul, Int32.reduceToInt] at *; omega)) (by first | omega | decide | (have q1 := hD.1; have q2 := hD.2.1; simp only [Int32.le_iff_toInt_le, Int32.lt_iff_toInt_lt, ti_add, ti_sub, ti_mul, Int32.reduceToInt] at *; omega)) (fun v4 ev4 => ?_)
      have w17 : v4 = σ0.1 55 2 := ev4
      refine ok_if (fun hc5 => ?_) (fun hc5 => ?_)
      · have e18 := hc5
        exact ok_some ⟨hT, (show CF σ0.1 ∧ (-6 : Int32) = if σ0.1 55 2 = 0 then -6 else 0 from by first | exact ⟨⟨hW2, hW28, hW132, hW158, hW184, hL, hD, hu, ht⟩, (if_pos (w17 ▸ e18)).symm⟩ | exact ⟨⟨hW2, hW28, hW132, hW158, hW184, hL, hD, hu, ht⟩, (if_neg (w17 ▸ e18)).symm⟩)⟩
      · have e18 := hc5
        refine ok_gR (v := 28) hT rfl hNw ?_
        refine ok_gR (v := 54) hT rfl (hR 0 6 rfl) ?_
        refine ok_aR (v := 184) hT rfl (by first | omega | decide | (have q1 := hD.1; have q2 := hD.2.1; simp only [Int32.le_iff_toInt_le, Int32.lt_iff_toInt_lt, ti_add, ti_sub, ti_mul, Int32.reduceToInt] at *; omega)) (by first | omega | decide | (have q1 := hD.1; have q2 := hD.2.1; simp only [Int32.le_iff_toInt_le, Int32.lt_iff_toInt_lt, ti_add, ti_sub, ti_mul, Int32.reduceToInt] at *; omega)) (hR 54 2 rfl) ?_
        refine ok_gC rfl ?_
        refine ok_zbT (Q := fun V σ => WI 28 σ.1) hT (s_X10_copyFrom_28_184 hN (hR.tr hT) (hW28) (hW184)) (by decide) (fun v9 σ10 hOσ10 hT hqv9 => ?_)
        have hqv9 : WI 28 σ10.1 := hqv9
        have hW2 : WI 2 σ10.1 := WI.tr hOσ10 (by decide) (by decide) (by decide) hW2
        have hW28 : WI 28 σ10.1 := hqv9
        have hW132 : WI 132 σ10.1 := WI.tr hOσ10 (by decide) (by decide) (by decide) hW132
        have hW158 : WI 158 σ10.1 := WI.tr hOσ10 (by decide) (by decide) (by decide) hW158
        have hW184 : WI 184 σ10.1 := WI.tr hOσ10 (by decide) (by decide) (by decide) hW184
        have hL : SI σ10.1 := SI.tr hOσ10 (by decide) (by decide) (by decide) (by decide) hL
        have hD : RD σ10.1 := RD.tr hOσ10 (by decide) (by decide) (by decide) (by decide) hD
        have hu : 2 ≤ (σ10.1 111 8).toInt ∧ (σ10.1 111 8).toInt ≤ 1600 := by rw [hOσ10.2 111 (by decide)] <;> exact hu
        have ht : 0 ≤ (σ10.1 0 1).toInt ∧ (σ10.1 0 1).toInt ≤ 600 := by rw [hOσ10.2 0 (by decide)] <;> exact ht
        exact ok_some ⟨hT, (show CF σ10.1 ∧ (0 : Int32) = if σ0.1 55 2 = 0 then -6 else 0 from by first | exact ⟨⟨hW2, hW28, hW132, hW158, hW184, hL, hD, hu, ht⟩, (if_pos (w17 ▸ e18)).symm⟩ | exact ⟨⟨hW2, hW28, hW132, hW158, hW184, hL, hD, hu, ht⟩, (if_neg (w17 ▸ e18)).symm⟩)⟩
    · exact absurd hc2 (by decide)

set_option maxHeartbeats 4000000 in
set_option maxRecDepth 100000 in
theorem s_X11_write_n28v {N : Nat} (hN : 1048576 ≤ N) {x1 : Int32} {x2 : Int32} {x3 : Int64} {σ0 : zS}  (hR : RF σ0.2.2) (hNw : σ0.2.2 0 4 = 28) (hPw : σ0.2.2 0 5 = 2) (hC : CF σ0.1) : Ok (f_X11_write N 0 x1 x2 x3 σ0) (fun r => Tr [] σ0 r.2 ∧ (CF r.2.1 ∧ r.1 = wrV x1 x2 (σ0.1 (210 + 2 * x1.toInt.toNat) 2))) := by
  have hT : Tr [] σ0 σ0 := Tr.rf
  obtain ⟨hW2, hW28, hW132, hW158, hW184, hL, hD, hu, ht⟩ := hC
  have hn := hW28.1
  have he := hW28.2.1
  have hD0 := hD
  have hL0 := hL
  have q10 := ti_one10 (x := σ0.1 28 0) hn.1 hn.2
  rw [f_X11_write.eq_1]
  refine ok_gC rfl ?_
  refine ok_zbX (Q := fun V => (V = 0 → ¬ (0 ≤ x1.toInt ∧ x1.toInt ≤ 3)) ∧ (¬ V = 0 → 0 ≤ x1.toInt ∧ x1.toInt ≤ 3)) (x_X11_isSlot) (fun v1 hqv1 => ?_)
  refine ok_if (fun hc3 => ?_) (fun hc3 => ?_)
  · have qhc3 := hqv1.1 hc3
    exact ok_some ⟨hT, (show CF σ0.1 ∧ (-2 : Int32) = wrV x1 x2 (σ0.1 (210 + 2 * x1.toInt.toNat) 2) from by first | exact ⟨⟨hW2, hW28, hW132, hW158, hW184, hL, hD, hu, ht⟩, (if_neg (by first | omega | (simp only [Int32.le_iff_toInt_le, Int32.lt_iff_toInt_lt, ti_add, ti_sub, ti_mul, Int32.reduceToInt] at *; omega))).symm⟩ | exact ⟨⟨hW2, hW28, hW132, hW158, hW184, hL, hD, hu, ht⟩, by rw [← hqq16]; (first | exact (if_neg (by first | omega | (simp only [Int32.le_iff_toInt_le, Int32.lt_iff_toInt_lt, ti_add, ti_sub, ti_mul, Int32.reduceToInt] at *; omega))).symm | exact ((if_pos (by first | omega | (simp only [Int32.le_iff_toInt_le, Int32.lt_iff_toInt_lt, ti_add, ti_sub, ti_mul, Int32.reduceToInt] at *; omega))).trans (if_pos (by first | omega | (simp only [Int32.le_iff_toInt_le, Int32.lt_iff_toInt_lt, ti_add, ti_sub, ti_mul, Int32.reduceToInt] at *; omega)))).symm | exact ((if_pos (by first | omega | (simp only [Int32.le_iff_toInt_le, Int32.lt_iff_toInt_lt, ti_add, ti_sub, ti_mul, Int32.reduceToInt] at *; omega))).trans ((if_neg (by first | omega | (simp only [Int32.le_iff_toInt_le, Int32.lt_iff_toInt_lt, ti_add, ti_sub, ti_mul, Int32.reduceToInt] at *; omega))).trans (if_pos (by first | omega | (simp only [Int32.le_iff_toInt_le, Int32.lt_iff_toInt_lt, ti_add, ti_sub, ti_mul, Int32.reduceToInt] at *; omega))))).symm | exact ((if_pos (by first | omega | (simp only [Int32.le_iff_toInt_le, Int32.lt_iff_toInt_lt, ti_add, ti_sub, ti_mul, Int32.reduceToInt] at *; omega))).trans ((if_neg (by first | omega | (simp only [Int32.le_iff_toInt_le, Int32.lt_iff_toInt_lt, ti_add, ti_sub, ti_mul, Int32.reduceToInt] at *; omega))).trans (if_neg (by first | omega | (simp only [Int32.le_iff_toInt_le, Int32.lt_iff_toInt_lt, ti_add, ti_sub, ti_mul, Int32.reduceToInt] at *; omega))))).symm)⟩)⟩
  · have qhc3 := hqv1.2 hc3
    refine ok_gR (v := 56) hT rfl (hR 0 8 rfl) ?_
    obtain ⟨q6, eq6, kq6⟩ := arrS hR (k := 56) (i := x1) rfl (by first | omega | decide | (have q1 := hD.1; have q2 := hD.2.1; simp only [Int32.le_iff_toInt_le, Int32.lt_iff_toInt_lt, ti_add, ti_sub, ti_mul, Int32.reduceToInt] at *; omega)) (by first | omega | decide | (have q1 := hD.1; have q2 := hD.2.1; simp only [Int32.le_iff_toInt_le, Int32.lt_iff_toInt_lt, ti_add, ti_sub, ti_mul, Int32.reduceToInt] at *; omega))
    refine ok_aR (v := q6) hT rfl (by first | omega | decide | (have q1 := hD.1; have q2 := hD.2.1; simp only [Int32.le_iff_toInt_le, Int32.lt_iff_toInt_lt, ti_add, ti_sub, ti_mul, Int32.reduceToInt] at *; omega)) (by first | omega | decide | (have q1 := hD.1; have q2 := hD.2.1; simp only [Int32.le_iff_toInt_le, Int32.lt_iff_toInt_lt, ti_add, ti_sub, ti_mul, Int32.reduceToInt] at *; omega)) eq6 ?_
    have hq16 := hL0 q6 kq6
    have hqq16 := slotC hR (x := x1) (by omega) (by omega) eq6
    have KQ9 := kq6
    refine ok_gC kq6 ?_
    refine ok_zbX (Q := fun V => (V = 0 → 0 ≤ (σ0.1 q6 2).toInt) ∧ (¬ V = 0 → (σ0.1 q6 2).toInt < 0)) (x_X9_isBare (by first | exact kq4 | exact KQ9)) (fun v7 hqv7 => ?_)
    refine ok_if (fun hc9 => ?_) (fun hc9 => ?_)
    · have qhc9 := hqv7.1 hc9
      refine ok_if (fun hc10 => ?_) (fun hc10 => ?_)
      · exact ok_some ⟨hT, (show CF σ0.1 ∧ (-7 : Int32) = wrV x1 x2 (σ0.1 (210 + 2 * x1.toInt.toNat) 2) from by first | exact ⟨⟨hW2, hW28, hW132, hW158, hW184, hL, hD, hu, ht⟩, (if_neg (by first | omega | (simp only [Int32.le_iff_toInt_le, Int32.lt_iff_toInt_lt, ti_add, ti_sub, ti_mul, Int32.reduceToInt] at *; omega))).symm⟩ | exact ⟨⟨hW2, hW28, hW132, hW158, hW184, hL, hD, hu, ht⟩, by rw [← hqq16]; (first | exact (if_neg (by first | omega | (simp only [Int32.le_iff_toInt_le, Int32.lt_iff_toInt_lt, ti_add, ti_sub, ti_mul, Int32.reduceToInt] at *; omega))).symm | exact ((if_pos (by first | omega | (simp only [Int32.le_iff_toInt_le, Int32.lt_iff_toInt_lt, ti_add, ti_sub, ti_mul, Int32.reduceToInt] at *; omega))).trans (if_pos (by first | omega | (simp only [Int32.le_iff_toInt_le, Int32.lt_iff_toInt_lt, ti_add, ti_sub, ti_mul, Int32.reduceToInt] at *; omega)))).symm | exact ((if_pos (by first | omega | (simp only [Int32.le_iff_toInt_le, Int32.lt_iff_toInt_lt, ti_add, ti_sub, ti_mul, Int32.reduceToInt] at *; omega))).trans ((if_neg (by first | omega | (simp only [Int32.le_iff_toInt_le, Int32.lt_iff_toInt_lt, ti_add, ti_sub, ti_mul, Int32.reduceToInt] at *; omega))).trans (if_pos (by first | omega | (simp only [Int32.le_iff_toInt_le, Int32.lt_iff_toInt_lt, ti_add, ti_sub, ti_mul, Int32.reduceToInt] at *; omega))))).symm | exact ((if_pos (by first | omega | (simp only [Int32.le_iff_toInt_le, Int32.lt_iff_toInt_lt, ti_add, ti_sub, ti_mul, Int32.reduceToInt] at *; omega))).trans ((if_neg (by first | omega | (simp only [Int32.le_iff_toInt_le, Int32.lt_iff_toInt_lt, ti_add, ti_sub, ti_mul, Int32.reduceToInt] at *; omega))).trans (if_neg (by first | omega | (simp only [Int32.le_iff_toInt_le, Int32.lt_iff_toInt_lt, ti_add, ti_sub, ti_mul, Int32.reduceToInt] at *; omega))))).symm)⟩)⟩
      · refine ok_gI0 hT kq6 List.not_mem_nil ?_
        refine ok_if (fun hc12 => ?_) (fun hc12 => ?_)
        · refine ok_gR hT kq6 (slot_R hR kq6).1 ?_
          refine ok_gC kq6 ?_
          refine ok_zbT (Q := fun V σ => True) hT (s_X9_cut hN (hR.tr hT) kq6) (fun _ h9 => absurd h9 List.not_mem_nil) (fun v14 σ15 hOσ15 hT hqv14 => ?_)
          have hW2 : WI 2 σ15.1 := WI.tr hOσ15 (by decide) (by decide) (by decide) hW2
          have hW28 : WI 28 σ15.1 := WI.tr hOσ15 (by decide) (by decide) (by decide) hW28
          have hW132 : WI 132 σ15.1 := WI.tr hOσ15 (by decide) (by decide) (by decide) hW132
          have hW158 : WI 158 σ15.1 := WI.tr hOσ15 (by decide) (by decide) (by decide) hW158
          have hW184 : WI 184 σ15.1 := WI.tr hOσ15 (by decide) (by decide) (by decide) hW184
          have hL : SI σ15.1 := SI.tr hOσ15 (by decide) (by decide) (by decide) (by decide) hL
          have hD : RD σ15.1 := RD.tr hOσ15 (by decide) (by decide) (by decide) (by decide) hD
          have hu : 2 ≤ (σ15.1 111 8).toInt ∧ (σ15.1 111 8).toInt ≤ 1600 := by rw [hOσ15.2 111 (by decide)] <;> exact hu
          have ht : 0 ≤ (σ15.1 0 1).toInt ∧ (σ15.1 0 1).toInt ≤ 600 := by rw [hOσ15.2 0 (by decide)] <;> exact ht
          refine ok_sJ hT (slot_R hR kq6).2 (by first | omega | decide | (have q1 := hD.1; have q2 := hD.2.1; simp only [Int32.le_iff_toInt_le, Int32.lt_iff_toInt_lt, ti_add, ti_sub, ti_mul, Int32.reduceToInt] at *; omega)) (by first | omega | decide | (have q1 := hD.1; have q2 := hD.2.1; simp only [Int32.le_iff_toInt_le, Int32.lt_iff_toInt_lt, ti_add, ti_sub, ti_mul, Int32.reduceToInt] at *; omega)) (fun σ16 eσ16 hOσ16 hT => ?_)
          have hW2 : WI 2 σ16.1 := WI.tr hOσ16 (by decide) (by decide) (by decide) hW2
          have hW28 : WI 28 σ16.1 := WI.tr hOσ16 (by decide) (by decide) (by decide) hW28
          have hW132 : WI 132 σ16.1 := WI.tr hOσ16 (by decide) (by decide) (by decide) hW132
          have hW158 : WI 158 σ16.1 := WI.tr hOσ16 (by decide) (by decide) (by decide) hW158
          have hW184 : WI 184 σ16.1 := WI.tr hOσ16 (by decide) (by decide) (by decide) hW184
          have hL : SI σ16.1 := SI.tr hOσ16 (by decide) (by decide) (by decide) (by decide) hL
          have hD : RD σ16.1 := RD.tr hOσ16 (by decide) (by decide) (by decide) (by decide) hD
          have hu : 2 ≤ (σ16.1 111 8).toInt ∧ (σ16.1 111 8).toInt ≤ 1600 := by rw [hOσ16.2 111 (by decide)] <;> exact hu
          have ht : 0 ≤ (σ16.1 0 1).toInt ∧ (σ16.1 0 1).toInt ≤ 600 := by rw [hOσ16.2 0 (by decide)] <;> exact ht
          exact ok_some ⟨hT, (show CF σ16.1 ∧ (0 : Int32) = wrV x1 x2 (σ0.1 (210 + 2 * x1.toInt.toNat) 2) from by first | exact ⟨⟨hW2, hW28, hW132, hW158, hW184, hL, hD, hu, ht⟩, (if_neg (by first | omega | (simp only [Int32.le_iff_toInt_le, Int32.lt_iff_toInt_lt, ti_add, ti_sub, ti_mul, Int32.reduceToInt] at *; omega))).symm⟩ | exact ⟨⟨hW2, hW28, hW132, hW158, hW184, hL, hD, hu, ht⟩, by rw [← hqq16]; (first | exact (if_neg (by first | omega | (simp only [Int32.le_iff_toInt_le, Int32.lt_iff_toInt_lt, ti_add, ti_sub, ti_mul, Int32.reduceToInt] at *; omega))).symm | exact ((if_pos (by first | omega | (simp only [Int32.le_iff_toInt_le, Int32.lt_iff_toInt_lt, ti_add, ti_sub, ti_mul, Int32.reduceToInt] at *; omega))).trans (if_pos (by first | omega | (simp only [Int32.le_iff_toInt_le, Int32.lt_iff_toInt_lt, ti_add, ti_sub, ti_mul, Int32.reduceToInt] at *; omega)))).symm | exact ((if_pos (by first | omega | (simp only [Int32.le_iff_toInt_le, Int32.lt_iff_toInt_lt, ti_add, ti_sub, ti_mul, Int32.reduceToInt] at *; omega))).trans ((if_neg (by first | omega | (simp only [Int32.le_iff_toInt_le, Int32.lt_iff_toInt_lt, ti_add, ti_sub, ti_mul, Int32.reduceToInt] at *; omega))).trans (if_pos (by first | omega | (simp only [Int32.le_iff_toInt_le, Int32.lt_iff_toInt_lt, ti_add, ti_sub, ti_mul, Int32.reduceToInt] at *; omega))))).symm | exact ((if_pos (by first | omega | (simp only [Int32.le_iff_toInt_le, Int32.lt_iff_toInt_lt, ti_add, ti_sub, ti_mul, Int32.reduceToInt] at *; omega))).trans ((if_neg (by first | omega | (simp only [Int32.le_iff_toInt_le, Int32.lt_iff_toInt_lt, ti_add, ti_sub, ti_mul, Int32.reduceToInt] at *; omega))).trans (if_neg (by first | omega | (simp only [Int32.le_iff_toInt_le, Int32.lt_iff_toInt_lt, ti_add, ti_sub, ti_mul, Int32.reduceToInt] at *; omega))))).symm)⟩)⟩
        · exact ok_some ⟨hT, (show CF σ0.1 ∧ (-7 : Int32) = wrV x1 x2 (σ0.1 (210 + 2 * x1.toInt.toNat) 2) from by first | exact ⟨⟨hW2, hW28, hW132, hW158, hW184, hL, hD, hu, ht⟩, (if_neg (by first | omega | (simp only [Int32.le_iff_toInt_le, Int32.lt_iff_toInt_lt, ti_add, ti_sub, ti_mul, Int32.reduceToInt] at *; omega))).symm⟩ | exact ⟨⟨hW2, hW28, hW132, hW158, hW184, hL, hD, hu, ht⟩, by rw [← hqq16]; (first | exact (if_neg (by first | omega | (simp only [Int32.le_iff_toInt_le, Int32.lt_iff_toInt_lt, ti_add, ti_sub, ti_mul, Int32.reduceToInt] at *; omega))).symm | exact ((if_pos (by first | omega | (simp only [Int32.le_iff_toInt_le, Int32.lt_iff_toInt_lt, ti_add, ti_sub, ti_mul, Int32.reduceToInt] at *; omega))).trans (if_pos (by first | omega | (simp only [Int32.le_iff_toInt_le, Int32.lt_iff_toInt_lt, ti_add, ti_sub, ti_mul, Int32.reduceToInt] at *; omega)))).symm | exact ((if_pos (by first | omega | (simp only [Int32.le_iff_toInt_le, Int32.lt_iff_toInt_lt, ti_add, ti_sub, ti_mul, Int32.reduceToInt] at *; omega))).trans ((if_neg (by first | omega | (simp only [Int32.le_iff_toInt_le, Int32.lt_iff_toInt_lt, ti_add, ti_sub, ti_mul, Int32.reduceToInt] at *; omega))).trans (if_pos (by first | omega | (simp only [Int32.le_iff_toInt_le, Int32.lt_iff_toInt_lt, ti_add, ti_sub, ti_mul, Int32.reduceToInt] at *; omega))))).symm | exact ((if_pos (by first | omega | (simp only [Int32.le_iff_toInt_le, Int32.lt_iff_toInt_lt, ti_add, ti_sub, ti_mul, Int32.reduceToInt] at *; omega))).trans ((if_neg (by first | omega | (simp only [Int32.le_iff_toInt_le, Int32.lt_iff_toInt_lt, ti_add, ti_sub, ti_mul, Int32.reduceToInt] at *; omega))).trans (if_neg (by first | omega | (simp only [Int32.le_iff_toInt_le, Int32.lt_iff_toInt_lt, ti_add, ti_sub, ti_mul, Int32.reduceToInt] at *; omega))))).symm)⟩)⟩
    · have qhc9 := hqv7.2 hc9
      exact ok_some ⟨hT, (show CF σ0.1 ∧ (-6 : Int32) = wrV x1 x2 (σ0.1 (210 + 2 * x1.toInt.toNat) 2) from by first | exact ⟨⟨hW2, hW28, hW132, hW158, hW184, hL, hD, hu, ht⟩, (if_neg (by first | omega | (simp only [Int32.le_iff_toInt_le, Int32.lt_iff_toInt_lt, ti_add, ti_sub, ti_mul, Int32.reduceToInt] at *; omega))).symm⟩ | exact ⟨⟨hW2, hW28, hW132, hW158, hW184, hL, hD, hu, ht⟩, by rw [← hqq16]; (first | exact (if_neg (by first | omega | (simp only [Int32.le_iff_toInt_le, Int32.lt_iff_toInt_lt, ti_add, ti_sub, ti_mul, Int32.reduceToInt] at *; omega))).symm | exact ((if_pos (by first | omega | (simp only [Int32.le_iff_toInt_le, Int32.lt_iff_toInt_lt, ti_add, ti_sub, ti_mul, Int32.reduceToInt] at *; omega))).trans (if_pos (by first | omega | (simp only [Int32.le_iff_toInt_le, Int32.lt_iff_toInt_lt, ti_add, ti_sub, ti_mul, Int32.reduceToInt] at *; omega)))).symm | exact ((if_pos (by first | omega | (simp only [Int32.le_iff_toInt_le, Int32.lt_iff_toInt_lt, ti_add, ti_sub, ti_mul, Int32.reduceToInt] at *; omega))).trans ((if_neg (by first | omega | (simp only [Int32.le_iff_toInt_le, Int32.lt_iff_toInt_lt, ti_add, ti_sub, ti_mul, Int32.reduceToInt] at *; omega))).trans (if_pos (by first | omega | (simp only [Int32.le_iff_toInt_le, Int32.lt_iff_toInt_lt, ti_add, ti_sub, ti_mul, Int32.reduceToInt] at *; omega))))).symm | exact ((if_pos (by first | omega | (simp only [Int32.le_iff_toInt_le, Int32.lt_iff_toInt_lt, ti_add, ti_sub, ti_mul, Int32.reduceToInt] at *; omega))).trans ((if_neg (by first | omega | (simp only [Int32.le_iff_toInt_le, Int32.lt_iff_toInt_lt, ti_add, ti_sub, ti_mul, Int32.reduceToInt] at *; omega))).trans (if_neg (by first | omega | (simp only [Int32.le_iff_toInt_le, Int32.lt_iff_toInt_lt, ti_add, ti_sub, ti_mul, Int32.reduceToInt] at *; omega))))).symm)⟩)⟩

set_option maxHeartbeats 4000000 in
set_option maxRecDepth 100000 in
theorem s_X11_paste_n28v {N : Nat} (hN : 1048576 ≤ N) {x1 : Int32} {x2 : Int32} {x3 : Int32} {x4 : Int32} {x5 : Int32} {σ0 : zS}  (hR : RF σ0.2.2) (hNw : σ0.2.2 0 4 = 28) (hPw : σ0.2.2 0 5 = 2) (hC : CF σ0.1) : Ok (f_X11_paste N 0 x1 x2 x3 x4 x5 σ0) (fun r => Tr [] σ0 r.2 ∧ (CF r.2.1 ∧ r.1 = paV x1 x2 x3 x4 x5 (σ0.1 (210 + 2 * x1.toInt.toNat) 2) (σ0.1 (210 + 2 * x3.toInt.toNat) 2) (σ0.1 (210 + 2 * x1.toInt.toNat) 1) (σ0.1 (210 + 2 * x3.toInt.toNat) 1))) := by
  have hT : Tr [] σ0 σ0 := Tr.rf
  obtain ⟨hW2, hW28, hW132, hW158, hW184, hL, hD, hu, ht⟩ := hC
  have hn := hW28.1
  have he := hW28.2.1
  have hD0 := hD
  have hL0 := hL
  have q10 := ti_one10 (x := σ0.1 28 0) hn.1 hn.2
  rw [f_X11_paste.eq_1]
  refine ok_gC rfl ?_
  refine ok_zbX (Q := fun V => (V = 0 → ¬ (0 ≤ x1.toInt ∧ x1.toInt ≤ 3)) ∧ (¬ V = 0 → 0 ≤ x1.toInt ∧ x1.toInt ≤ 3)) (x_X11_isSlot) (fun v1 hqv1 => ?_)
  refine ok_if (fun hc3 => ?_) (fun hc3 => ?_)
  · have qhc3 := hqv1.1 hc3
    exact ok_some ⟨hT, (show CF σ0.1 ∧ (-2 : Int32) = paV x1 x2 x3 x4 x5 (σ0.1 (210 + 2 * x1.toInt.toNat) 2) (σ0.1 (210 + 2 * x3.toInt.toNat) 2) (σ0.1 (210 + 2 * x1.toInt.toNat) 1) (σ0.1 (210 + 2 * x3.toInt.toNat) 1) from by first | exact ⟨⟨hW2, hW28, hW132, hW158, hW184, hL, hD, hu, ht⟩, (if_neg (by first | omega | (simp only [Int32.le_iff_toInt_le, Int32.lt_iff_toInt_lt, ti_add, ti_sub, ti_mul, Int32.reduceToInt] at *; omega))).symm⟩ | exact ⟨⟨hW2, hW28, hW132, hW158, hW184, hL, hD, hu, ht⟩, by rw [← hqq24, ← hqq32]; (first | exact ((if_pos (by first | omega | (simp only [Int32.le_iff_toInt_le, Int32.lt_iff_toInt_lt, ti_add, ti_sub, ti_mul, Int32.reduceToInt] at *; omega))).trans (if_pos (by first | omega | (simp only [Int32.le_iff_toInt_le, Int32.lt_iff_toInt_lt, ti_add, ti_sub, ti_mul, Int32.reduceToInt] at *; omega)))).symm | exact ((if_pos (by first | omega | (simp only [Int32.le_iff_toInt_le, Int32.lt_iff_toInt_lt, ti_add, ti_sub, ti_mul, Int32.reduceToInt] at *; omega))).trans ((if_neg (by first | omega | (simp only [Int32.le_iff_toInt_le, Int32.lt_iff_toInt_lt, ti_add, ti_sub, ti_mul, Int32.reduceToInt] at *; omega))).trans (if_neg n64))).symm | exact ((if_pos (by first | omega | (simp only [Int32.le_iff_toInt_le, Int32.lt_iff_toInt_lt, ti_add, ti_sub, ti_mul, Int32.reduceToInt] at *; omega))).trans ((if_neg (by first | omega | (simp only [Int32.le_iff_toInt_le, Int32.lt_iff_toInt_lt, ti_add, ti_sub, ti_mul, Int32.reduceToInt] at *; omega))).trans ((if_pos n64).trans (if_neg (by first | omega | (simp only [Int32.le_iff_toInt_le, Int32.lt_iff_toInt_lt, ti_add, ti_sub, ti_mul, Int32.reduceToInt] at *; omega)))))).symm | exact ((if_pos (by first | omega | (simp only [Int32.le_iff_toInt_le, Int32.lt_iff_toInt_lt, ti_add, ti_sub, ti_mul, Int32.reduceToInt] at *; omega))).trans ((if_neg (by first | omega | (simp only [Int32.le_iff_toInt_le, Int32.lt_iff_toInt_lt, ti_add, ti_sub, ti_mul, Int32.reduceToInt] at *; omega))).trans ((if_pos n64).trans (if_pos (by first | omega | (simp only [Int32.le_iff_toInt_le, Int32.lt_iff_toInt_lt, ti_add, ti_sub, ti_mul, Int32.reduceToInt] at *; omega)))))).symm)⟩)⟩
  · have qhc3 := hqv1.2 hc3
    refine ok_gC rfl ?_
    refine ok_zbX (Q := fun V => (V = 0 → ¬ (0 ≤ x3.toInt ∧ x3.toInt ≤ 3)) ∧ (¬ V = 0 → 0 ≤ x3.toInt ∧ x3.toInt ≤ 3)) (x_X11_isSlot) (fun v4 hqv4 => ?_)
    refine ok_if (fun hc6 => ?_) (fun hc6 => ?_)
    · have qhc6 := hqv4.1 hc6
      exact ok_some ⟨hT, (show CF σ0.1 ∧ (-2 : Int32) = paV x1 x2 x3 x4 x5 (σ0.1 (210 + 2 * x1.toInt.toNat) 2) (σ0.1 (210 + 2 * x3.toInt.toNat) 2) (σ0.1 (210 + 2 * x1.toInt.toNat) 1) (σ0.1 (210 + 2 * x3.toInt.toNat) 1) from by first | exact ⟨⟨hW2, hW28, hW132, hW158, hW184, hL, hD, hu, ht⟩, (if_neg (by first | omega | (simp only [Int32.le_iff_toInt_le, Int32.lt_iff_toInt_lt, ti_add, ti_sub, ti_mul, Int32.reduceToInt] at *; omega))).symm⟩ | exact ⟨⟨hW2, hW28, hW132, hW158, hW184, hL, hD, hu, ht⟩, by rw [← hqq24, ← hqq32]; (first | exact ((if_pos (by first | omega | (simp only [Int32.le_iff_toInt_le, Int32.lt_iff_toInt_lt, ti_add, ti_sub, ti_mul, Int32.reduceToInt] at *; omega))).trans (if_pos (by first | omega | (simp only [Int32.le_iff_toInt_le, Int32.lt_iff_toInt_lt, ti_add, ti_sub, ti_mul, Int32.reduceToInt] at *; omega)))).symm | exact ((if_pos (by first | omega | (simp only [Int32.le_iff_toInt_le, Int32.lt_iff_toInt_lt, ti_add, ti_sub, ti_mul, Int32.reduceToInt] at *; omega))).trans ((if_neg (by first | omega | (simp only [Int32.le_iff_toInt_le, Int32.lt_iff_toInt_lt, ti_add, ti_sub, ti_mul, Int32.reduceToInt] at *; omega))).trans (if_neg n64))).symm | exact ((if_pos (by first | omega | (simp only [Int32.le_iff_toInt_le, Int32.lt_iff_toInt_lt, ti_add, ti_sub, ti_mul, Int32.reduceToInt] at *; omega))).trans ((if_neg (by first | omega | (simp only [Int32.le_iff_toInt_le, Int32.lt_iff_toInt_lt, ti_add, ti_sub, ti_mul, Int32.reduceToInt] at *; omega))).trans ((if_pos n64).trans (if_neg (by first | omega | (simp only [Int32.le_iff_toInt_le, Int32.lt_iff_toInt_lt, ti_add, ti_sub, ti_mul, Int32.reduceToInt] at *; omega)))))).symm | exact ((if_pos (by first | omega | (simp only [Int32.le_iff_toInt_le, Int32.lt_iff_toInt_lt, ti_add, ti_sub, ti_mul, Int32.reduceToInt] at *; omega))).trans ((if_neg (by first | omega | (simp only [Int32.le_iff_toInt_le, Int32.lt_iff_toInt_lt, ti_add, ti_sub, ti_mul, Int32.reduceToInt] at *; omega))).trans ((if_pos n64).trans (if_pos (by first | omega | (simp only [Int32.le_iff_toInt_le, Int32.lt_iff_toInt_lt, ti_add, ti_sub, ti_mul, Int32.reduceToInt] at *; omega)))))).symm)⟩)⟩
    · have qhc6 := hqv4.2 hc6
      refine ok_gR (v := 56) hT rfl (hR 0 8 rfl) ?_
      obtain ⟨q9, eq9, kq9⟩ := arrS hR (k := 56) (i := x1) rfl (by first | omega | decide | (have q1 := hD.1; have q2 := hD.2.1; simp only [Int32.le_iff_toInt_le, Int32.lt_iff_toInt_lt, ti_add, ti_sub, ti_mul, Int32.reduceToInt] at *; omega)) (by first | omega | decide | (have q1 := hD.1; have q2 := hD.2.1; simp only [Int32.le_iff_toInt_le, Int32.lt_iff_toInt_lt, ti_add, ti_sub, ti_mul, Int32.reduceToInt] at *; omega))
      refine ok_aR (v := q9) hT rfl (by first | omega | decide | (have q1 := hD.1; have q2 := hD.2.1; simp only [Int32.le_iff_toInt_le, Int32.lt_iff_toInt_lt, ti_add, ti_sub, ti_mul, Int32.reduceToInt] at *; omega)) (by first | omega | decide | (have q1 := hD.1; have q2 := hD.2.1; simp only [Int32.le_iff_toInt_le, Int32.lt_iff_toInt_lt, ti_add, ti_sub, ti_mul, Int32.reduceToInt] at *; omega)) eq9 ?_
      have hq24 := hL0 q9 kq9
      have hqq24 := slotC hR (x := x1) (by omega) (by omega) eq9
      have KQ24 := kq9
      refine ok_gR (v := 56) hT rfl (hR 0 8 rfl) ?_
      obtain ⟨q12, eq12, kq12⟩ := arrS hR (k := 56) (i := x3) rfl (by first | omega | decide | (have q1 := hD.1; have q2 := hD.2.1; simp only [Int32.le_iff_toInt_le, Int32.lt_iff_toInt_lt, ti_add, ti_sub, ti_mul, Int32.reduceToInt] at *; omega)) (by first | omega | decide | (have q1 := hD.1; have q2 := hD.2.1; simp only [Int32.le_iff_toInt_le, Int32.lt_iff_toInt_lt, ti_add, ti_sub, ti_mul, Int32.reduceToInt] at *; omega))
      refine ok_aR (v := q12) hT rfl (by first | omega | decide | (have q1 := hD.1; have q2 := hD.2.1; simp only [Int32.le_iff_toInt_le, Int32.lt_iff_toInt_lt, ti_add, ti_sub, ti_mul, Int32.reduceToInt] at *; omega)) (by first | omega | decide | (have q1 := hD.1; have q2 := hD.2.1; simp only [Int32.le_iff_toInt_le, Int32.lt_iff_toInt_lt, ti_add, ti_sub, ti_mul, Int32.reduceToInt] at *; omega)) eq12 ?_
      have hq32 := hL0 q12 kq12
      have hqq32 := slotC hR (x := x3) (by omega) (by omega) eq12
      have KQ32 := kq12
      refine ok_gC kq9 ?_
      refine ok_zbX (Q := fun V => (V = 0 → 0 ≤ (σ0.1 q9 2).toInt) ∧ (¬ V = 0 → (σ0.1 q9 2).toInt < 0)) (x_X9_isBare KQ24) (fun v13 hqv13 => ?_)
      refine ok_if (fun hc15 => ?_) (fun hc15 => ?_)
      · have qhc15 := hqv13.1 hc15
        refine ok_gC kq12 ?_
        refine ok_zbX (Q := fun V => (V = 0 → 0 ≤ (σ0.1 q12 2).toInt) ∧ (¬ V = 0 → (σ0.1 q12 2).toInt < 0)) (x_X9_isBare KQ32) (fun v16 hqv16 => ?_)
        refine ok_if (fun hc18 => ?_) (fun hc18 => ?_)
        · have qhc18 := hqv16.1 hc18
          refine ok_gI0 hT kq9 List.not_mem_nil ?_
          refine ok_gI0 hT kq12 List.not_mem_nil ?_
          refine ok_if (fun hc21 => ?_) (fun hc21 => ?_)
          · have n64 := hc21
            refine ok_gC kq9 ?_
            refine ok_zbX (Q := fun V => (V = 0 → ¬ (0 ≤ x2.toInt ∧ 0 ≤ x5.toInt ∧ x2.toInt + x5.toInt ≤ (σ0.1 q9 2).toInt)) ∧ (¬ V = 0 → 0 ≤ x2.toInt ∧ 0 ≤ x5.toInt ∧ x2.toInt + x5.toInt ≤ (σ0.1 q9 2).toInt)) (x_X9_spans KQ24) (fun v22 hqv22 => ?_)
            refine ok_if (fun hc24 => ?_) (fun hc24 => ?_)
            · have qhc24 := hqv22.1 hc24
              exact ok_some ⟨hT, (show CF σ0.1 ∧ (-7 : Int32) = paV x1 x2 x3 x4 x5 (σ0.1 (210 + 2 * x1.toInt.toNat) 2) (σ0.1 (210 + 2 * x3.toInt.toNat) 2) (σ0.1 (210 + 2 * x1.toInt.toNat) 1) (σ0.1 (210 + 2 * x3.toInt.toNat) 1) from by first | exact ⟨⟨hW2, hW28, hW132, hW158, hW184, hL, hD, hu, ht⟩, (if_neg (by first | omega | (simp only [Int32.le_iff_toInt_le, Int32.lt_iff_toInt_lt, ti_add, ti_sub, ti_mul, Int32.reduceToInt] at *; omega))).symm⟩ | exact ⟨⟨hW2, hW28, hW132, hW158, hW184, hL, hD, hu, ht⟩, by rw [← hqq24, ← hqq32]; (first | exact ((if_pos (by first | omega | (simp only [Int32.le_iff_toInt_le, Int32.lt_iff_toInt_lt, ti_add, ti_sub, ti_mul, Int32.reduceToInt] at *; omega))).trans (if_pos (by first | omega | (simp only [Int32.le_iff_toInt_le, Int32.lt_iff_toInt_lt, ti_add, ti_sub, ti_mul, Int32.reduceToInt] at *; omega)))).symm | exact ((if_pos (by first | omega | (simp only [Int32.le_iff_toInt_le, Int32.lt_iff_toInt_lt, ti_add, ti_sub, ti_mul, Int32.reduceToInt] at *; omega))).trans ((if_neg (by first | omega | (simp only [Int32.le_iff_toInt_le, Int32.lt_iff_toInt_lt, ti_add, ti_sub, ti_mul, Int32.reduceToInt] at *; omega))).trans (if_neg n64))).symm | exact ((if_pos (by first | omega | (simp only [Int32.le_iff_toInt_le, Int32.lt_iff_toInt_lt, ti_add, ti_sub, ti_mul, Int32.reduceToInt] at *; omega))).trans ((if_neg (by first | omega | (simp only [Int32.le_iff_toInt_le, Int32.lt_iff_toInt_lt, ti_add, ti_sub, ti_mul, Int32.reduceToInt] at *; omega))).trans ((if_pos n64).trans (if_neg (by first | omega | (simp only [Int32.le_iff_toInt_le, Int32.lt_iff_toInt_lt, ti_add, ti_sub, ti_mul, Int32.reduceToInt] at *; omega)))))).symm | exact ((if_pos (by first | omega | (simp only [Int32.le_iff_toInt_le, Int32.lt_iff_toInt_lt, ti_add, ti_sub, ti_mul, Int32.reduceToInt] at *; omega))).trans ((if_neg (by first | omega | (simp only [Int32.le_iff_toInt_le, Int32.lt_iff_toInt_lt, ti_add, ti_sub, ti_mul, Int32.reduceToInt] at *; omega))).trans ((if_pos n64).trans (if_pos (by first | omega | (simp only [Int32.le_iff_toInt_le, Int32.lt_iff_toInt_lt, ti_add, ti_sub, ti_mul, Int32.reduceToInt] at *; omega)))))).symm)⟩)⟩
            · have qhc24 := hqv22.2 hc24
              refine ok_gC kq12 ?_
              refine ok_zbX (Q := fun V => (V = 0 → ¬ (0 ≤ x4.toInt ∧ 0 ≤ x5.toInt ∧ x4.toInt + x5.toInt ≤ (σ0.1 q12 2).toInt)) ∧ (¬ V = 0 → 0 ≤ x4.toInt ∧ 0 ≤ x5.toInt ∧ x4.toInt + x5.toInt ≤ (σ0.1 q12 2).toInt)) (x_X9_spans KQ32) (fun v25 hqv25 => ?_)
              refine ok_if (fun hc27 => ?_) (fun hc27 => ?_)
              · have qhc27 := hqv25.1 hc27
                exact ok_some ⟨hT, (show CF σ0.1 ∧ (-7 : Int32) = paV x1 x2 x3 x4 x5 (σ0.1 (210 + 2 * x1.toInt.toNat) 2) (σ0.1 (210 + 2 * x3.toInt.toNat) 2) (σ0.1 (210 + 2 * x1.toInt.toNat) 1) (σ0.1 (210 + 2 * x3.toInt.toNat) 1) from by first | exact ⟨⟨hW2, hW28, hW132, hW158, hW184, hL, hD, hu, ht⟩, (if_neg (by first | omega | (simp only [Int32.le_iff_toInt_le, Int32.lt_iff_toInt_lt, ti_add, ti_sub, ti_mul, Int32.reduceToInt] at *; omega))).symm⟩ | exact ⟨⟨hW2, hW28, hW132, hW158, hW184, hL, hD, hu, ht⟩, by rw [← hqq24, ← hqq32]; (first | exact ((if_pos (by first | omega | (simp only [Int32.le_iff_toInt_le, Int32.lt_iff_toInt_lt, ti_add, ti_sub, ti_mul, Int32.reduceToInt] at *; omega))).trans (if_pos (by first | omega | (simp only [Int32.le_iff_toInt_le, Int32.lt_iff_toInt_lt, ti_add, ti_sub, ti_mul, Int32.reduceToInt] at *; omega)))).symm | exact ((if_pos (by first | omega | (simp only [Int32.le_iff_toInt_le, Int32.lt_iff_toInt_lt, ti_add, ti_sub, ti_mul, Int32.reduceToInt] at *; omega))).trans ((if_neg (by first | omega | (simp only [Int32.le_iff_toInt_le, Int32.lt_iff_toInt_lt, ti_add, ti_sub, ti_mul, Int32.reduceToInt] at *; omega))).trans (if_neg n64))).symm | exact ((if_pos (by first | omega | (simp only [Int32.le_iff_toInt_le, Int32.lt_iff_toInt_lt, ti_add, ti_sub, ti_mul, Int32.reduceToInt] at *; omega))).trans ((if_neg (by first | omega | (simp only [Int32.le_iff_toInt_le, Int32.lt_iff_toInt_lt, ti_add, ti_sub, ti_mul, Int32.reduceToInt] at *; omega))).trans ((if_pos n64).trans (if_neg (by first | omega | (simp only [Int32.le_iff_toInt_le, Int32.lt_iff_toInt_lt, ti_add, ti_sub, ti_mul, Int32.reduceToInt] at *; omega)))))).symm | exact ((if_pos (by first | omega | (simp only [Int32.le_iff_toInt_le, Int32.lt_iff_toInt_lt, ti_add, ti_sub, ti_mul, Int32.reduceToInt] at *; omega))).trans ((if_neg (by first | omega | (simp only [Int32.le_iff_toInt_le, Int32.lt_iff_toInt_lt, ti_add, ti_sub, ti_mul, Int32.reduceToInt] at *; omega))).trans ((if_pos n64).trans (if_pos (by first | omega | (simp only [Int32.le_iff_toInt_le, Int32.lt_iff_toInt_lt, ti_add, ti_sub, ti_mul, Int32.reduceToInt] at *; omega)))))).symm)⟩)⟩
              · have qhc27 := hqv25.2 hc27
                refine ok_gR hT kq9 (slot_R hR kq9).1 ?_
                refine ok_gR hT kq12 (slot_R hR kq12).1 ?_
                refine ok_cpJ hT (slot_R hR kq9).2 (slot_R hR kq12).2 (by first | omega | decide | (have q1 := hD.1; have q2 := hD.2.1; simp only [Int32.le_iff_toInt_le, Int32.lt_iff_toInt_lt, ti_add, ti_sub, ti_mul, Int32.reduceToInt] at *; omega)) (by first | omega | decide | (have q1 := hD.1; have q2 := hD.2.1; simp only [Int32.le_iff_toInt_le, Int32.lt_iff_toInt_lt, ti_add, ti_sub, ti_mul, Int32.reduceToInt] at *; omega)) (by first | omega | decide | (have q1 := hD.1; have q2 := hD.2.1; simp only [Int32.le_iff_toInt_le, Int32.lt_iff_toInt_lt, ti_add, ti_sub, ti_mul, Int32.reduceToInt] at *; omega)) (by first | omega | decide | (have q1 := hD.1; have q2 := hD.2.1; simp only [Int32.le_iff_toInt_le, Int32.lt_iff_toInt_lt, ti_add, ti_sub, ti_mul, Int32.reduceToInt] at *; omega)) (by first | omega | decide | (have q1 := hD.1; have q2 := hD.2.1; simp only [Int32.le_iff_toInt_le, Int32.lt_iff_toInt_lt, ti_add, ti_sub, ti_mul, Int32.reduceToInt] at *; omega)) (fun σ30 eσ30 hOσ30 hT => ?_)
                have hW2 : WI 2 σ30.1 := WI.tr hOσ30 (by decide) (by decide) (by decide) hW2
                have hW28 : WI 28 σ30.1 := WI.tr hOσ30 (by decide) (by decide) (by decide) hW28
                have hW132 : WI 132 σ30.1 := WI.tr hOσ30 (by decide) (by decide) (by decide) hW132
                have hW158 : WI 158 σ30.1 := WI.tr hOσ30 (by decide) (by decide) (by decide) hW158
                have hW184 : WI 184 σ30.1 := WI.tr hOσ30 (by decide) (by decide) (by decide) hW184
                have hL : SI σ30.1 := SI.tr hOσ30 (by decide) (by decide) (by decide) (by decide) hL
                have hD : RD σ30.1 := RD.tr hOσ30 (by decide) (by decide) (by decide) (by decide) hD
                have hu : 2 ≤ (σ30.1 111 8).toInt ∧ (σ30.1 111 8).toInt ≤ 1600 := by rw [hOσ30.2 111 (by decide)] <;> exact hu
                have ht : 0 ≤ (σ30.1 0 1).toInt ∧ (σ30.1 0 1).toInt ≤ 600 := by rw [hOσ30.2 0 (by decide)] <;> exact ht
                exact ok_some ⟨hT, (show CF σ30.1 ∧ (0 : Int32) = paV x1 x2 x3 x4 x5 (σ0.1 (210 + 2 * x1.toInt.toNat) 2) (σ0.1 (210 + 2 * x3.toInt.toNat) 2) (σ0.1 (210 + 2 * x1.toInt.toNat) 1) (σ0.1 (210 + 2 * x3.toInt.toNat) 1) from by first | exact ⟨⟨hW2, hW28, hW132, hW158, hW184, hL, hD, hu, ht⟩, (if_neg (by first | omega | (simp only [Int32.le_iff_toInt_le, Int32.lt_iff_toInt_lt, ti_add, ti_sub, ti_mul, Int32.reduceToInt] at *; omega))).symm⟩ | exact ⟨⟨hW2, hW28, hW132, hW158, hW184, hL, hD, hu, ht⟩, by rw [← hqq24, ← hqq32]; (first | exact ((if_pos (by first | omega | (simp only [Int32.le_iff_toInt_le, Int32.lt_iff_toInt_lt, ti_add, ti_sub, ti_mul, Int32.reduceToInt] at *; omega))).trans (if_pos (by first | omega | (simp only [Int32.le_iff_toInt_le, Int32.lt_iff_toInt_lt, ti_add, ti_sub, ti_mul, Int32.reduceToInt] at *; omega)))).symm | exact ((if_pos (by first | omega | (simp only [Int32.le_iff_toInt_le, Int32.lt_iff_toInt_lt, ti_add, ti_sub, ti_mul, Int32.reduceToInt] at *; omega))).trans ((if_neg (by first | omega | (simp only [Int32.le_iff_toInt_le, Int32.lt_iff_toInt_lt, ti_add, ti_sub, ti_mul, Int32.reduceToInt] at *; omega))).trans (if_neg n64))).symm | exact ((if_pos (by first | omega | (simp only [Int32.le_iff_toInt_le, Int32.lt_iff_toInt_lt, ti_add, ti_sub, ti_mul, Int32.reduceToInt] at *; omega))).trans ((if_neg (by first | omega | (simp only [Int32.le_iff_toInt_le, Int32.lt_iff_toInt_lt, ti_add, ti_sub, ti_mul, Int32.reduceToInt] at *; omega))).trans ((if_pos n64).trans (if_neg (by first | omega | (simp only [Int32.le_iff_toInt_le, Int32.lt_iff_toInt_lt, ti_add, ti_sub, ti_mul, Int32.reduceToInt] at *; omega)))))).symm | exact ((if_pos (by first | omega | (simp only [Int32.le_iff_toInt_le, Int32.lt_iff_toInt_lt, ti_add, ti_sub, ti_mul, Int32.reduceToInt] at *; omega))).trans ((if_neg (by first | omega | (simp only [Int32.le_iff_toInt_le, Int32.lt_iff_toInt_lt, ti_add, ti_sub, ti_mul, Int32.reduceToInt] at *; omega))).trans ((if_pos n64).trans (if_pos (by first | omega | (simp only [Int32.le_iff_toInt_le, Int32.lt_iff_toInt_lt, ti_add, ti_sub, ti_mul, Int32.reduceToInt] at *; omega)))))).symm)⟩)⟩
          · have n64 := hc21
            exact ok_some ⟨hT, (show CF σ0.1 ∧ (-8 : Int32) = paV x1 x2 x3 x4 x5 (σ0.1 (210 + 2 * x1.toInt.toNat) 2) (σ0.1 (210 + 2 * x3.toInt.toNat) 2) (σ0.1 (210 + 2 * x1.toInt.toNat) 1) (σ0.1 (210 + 2 * x3.toInt.toNat) 1) from by first | exact ⟨⟨hW2, hW28, hW132, hW158, hW184, hL, hD, hu, ht⟩, (if_neg (by first | omega | (simp only [Int32.le_iff_toInt_le, Int32.lt_iff_toInt_lt, ti_add, ti_sub, ti_mul, Int32.reduceToInt] at *; omega))).symm⟩ | exact ⟨⟨hW2, hW28, hW132, hW158, hW184, hL, hD, hu, ht⟩, by rw [← hqq24, ← hqq32]; (first | exact ((if_pos (by first | omega | (simp only [Int32.le_iff_toInt_le, Int32.lt_iff_toInt_lt, ti_add, ti_sub, ti_mul, Int32.reduceToInt] at *; omega))).trans (if_pos (by first | omega | (simp only [Int32.le_iff_toInt_le, Int32.lt_iff_toInt_lt, ti_add, ti_sub, ti_mul, Int32.reduceToInt] at *; omega)))).symm | exact ((if_pos (by first | omega | (simp only [Int32.le_iff_toInt_le, Int32.lt_iff_toInt_lt, ti_add, ti_sub, ti_mul, Int32.reduceToInt] at *; omega))).trans ((if_neg (by first | omega | (simp only [Int32.le_iff_toInt_le, Int32.lt_iff_toInt_lt, ti_add, ti_sub, ti_mul, Int32.reduceToInt] at *; omega))).trans (if_neg n64))).symm | exact ((if_pos (by first | omega | (simp only [Int32.le_iff_toInt_le, Int32.lt_iff_toInt_lt, ti_add, ti_sub, ti_mul, Int32.reduceToInt] at *; omega))).trans ((if_neg (by first | omega | (simp only [Int32.le_iff_toInt_le, Int32.lt_iff_toInt_lt, ti_add, ti_sub, ti_mul, Int32.reduceToInt] at *; omega))).trans ((if_pos n64).trans (if_neg (by first | omega | (simp only [Int32.le_iff_toInt_le, Int32.lt_iff_toInt_lt, ti_add, ti_sub, ti_mul, Int32.reduceToInt] at *; omega)))))).symm | exact ((if_pos (by first | omega | (simp only [Int32.le_iff_toInt_le, Int32.lt_iff_toInt_lt, ti_add, ti_sub, ti_mul, Int32.reduceToInt] at *; omega))).trans ((if_neg (by first | omega | (simp only [Int32.le_iff_toInt_le, Int32.lt_iff_toInt_lt, ti_add, ti_sub, ti_mul, Int32.reduceToInt] at *; omega))).trans ((if_pos n64).trans (if_pos (by first | omega | (simp only [Int32.le_iff_toInt_le, Int32.lt_iff_toInt_lt, ti_add, ti_sub, ti_mul, Int32.reduceToInt] at *; omega)))))).symm)⟩)⟩
        · have qhc18 := hqv16.2 hc18
          exact ok_some ⟨hT, (show CF σ0.1 ∧ (-6 : Int32) = paV x1 x2 x3 x4 x5 (σ0.1 (210 + 2 * x1.toInt.toNat) 2) (σ0.1 (210 + 2 * x3.toInt.toNat) 2) (σ0.1 (210 + 2 * x1.toInt.toNat) 1) (σ0.1 (210 + 2 * x3.toInt.toNat) 1) from by first | exact ⟨⟨hW2, hW28, hW132, hW158, hW184, hL, hD, hu, ht⟩, (if_neg (by first | omega | (simp only [Int32.le_iff_toInt_le, Int32.lt_iff_toInt_lt, ti_add, ti_sub, ti_mul, Int32.reduceToInt] at *; omega))).symm⟩ | exact ⟨⟨hW2, hW28, hW132, hW158, hW184, hL, hD, hu, ht⟩, by rw [← hqq24, ← hqq32]; (first | exact ((if_pos (by first | omega | (simp only [Int32.le_iff_toInt_le, Int32.lt_iff_toInt_lt, ti_add, ti_sub, ti_mul, Int32.reduceToInt] at *; omega))).trans (if_pos (by first | omega | (simp only [Int32.le_iff_toInt_le, Int32.lt_iff_toInt_lt, ti_add, ti_sub, ti_mul, Int32.reduceToInt] at *; omega)))).symm | exact ((if_pos (by first | omega | (simp only [Int32.le_iff_toInt_le, Int32.lt_iff_toInt_lt, ti_add, ti_sub, ti_mul, Int32.reduceToInt] at *; omega))).trans ((if_neg (by first | omega | (simp only [Int32.le_iff_toInt_le, Int32.lt_iff_toInt_lt, ti_add, ti_sub, ti_mul, Int32.reduceToInt] at *; omega))).trans (if_neg n64))).symm | exact ((if_pos (by first | omega | (simp only [Int32.le_iff_toInt_le, Int32.lt_iff_toInt_lt, ti_add, ti_sub, ti_mul, Int32.reduceToInt] at *; omega))).trans ((if_neg (by first | omega | (simp only [Int32.le_iff_toInt_le, Int32.lt_iff_toInt_lt, ti_add, ti_sub, ti_mul, Int32.reduceToInt] at *; omega))).trans ((if_pos n64).trans (if_neg (by first | omega | (simp only [Int32.le_iff_toInt_le, Int32.lt_iff_toInt_lt, ti_add, ti_sub, ti_mul, Int32.reduceToInt] at *; omega)))))).symm | exact ((if_pos (by first | omega | (simp only [Int32.le_iff_toInt_le, Int32.lt_iff_toInt_lt, ti_add, ti_sub, ti_mul, Int32.reduceToInt] at *; omega))).trans ((if_neg (by first | omega | (simp only [Int32.le_iff_toInt_le, Int32.lt_iff_toInt_lt, ti_add, ti_sub, ti_mul, Int32.reduceToInt] at *; omega))).trans ((if_pos n64).trans (if_pos (by first | omega | (simp only [Int32.le_iff_toInt_le, Int32.lt_iff_toInt_lt, ti_add, ti_sub, ti_mul, Int32.reduceToInt] at *; omega)))))).symm)⟩)⟩
      · have qhc15 := hqv13.2 hc15
        exact ok_some ⟨hT, (show CF σ0.1 ∧ (-6 : Int32) = paV x1 x2 x3 x4 x5 (σ0.1 (210 + 2 * x1.toInt.toNat) 2) (σ0.1 (210 + 2 * x3.toInt.toNat) 2) (σ0.1 (210 + 2 * x1.toInt.toNat) 1) (σ0.1 (210 + 2 * x3.toInt.toNat) 1) from by first | exact ⟨⟨hW2, hW28, hW132, hW158, hW184, hL, hD, hu, ht⟩, (if_neg (by first | omega | (simp only [Int32.le_iff_toInt_le, Int32.lt_iff_toInt_lt, ti_add, ti_sub, ti_mul, Int32.reduceToInt] at *; omega))).symm⟩ | exact ⟨⟨hW2, hW28, hW132, hW158, hW184, hL, hD, hu, ht⟩, by rw [← hqq24, ← hqq32]; (first | exact ((if_pos (by first | omega | (simp only [Int32.le_iff_toInt_le, Int32.lt_iff_toInt_lt, ti_add, ti_sub, ti_mul, Int32.reduceToInt] at *; omega))).trans (if_pos (by first | omega | (simp only [Int32.le_iff_toInt_le, Int32.lt_iff_toInt_lt, ti_add, ti_sub, ti_mul, Int32.reduceToInt] at *; omega)))).symm | exact ((if_pos (by first | omega | (simp only [Int32.le_iff_toInt_le, Int32.lt_iff_toInt_lt, ti_add, ti_sub, ti_mul, Int32.reduceToInt] at *; omega))).trans ((if_neg (by first | omega | (simp only [Int32.le_iff_toInt_le, Int32.lt_iff_toInt_lt, ti_add, ti_sub, ti_mul, Int32.reduceToInt] at *; omega))).trans (if_neg n64))).symm | exact ((if_pos (by first | omega | (simp only [Int32.le_iff_toInt_le, Int32.lt_iff_toInt_lt, ti_add, ti_sub, ti_mul, Int32.reduceToInt] at *; omega))).trans ((if_neg (by first | omega | (simp only [Int32.le_iff_toInt_le, Int32.lt_iff_toInt_lt, ti_add, ti_sub, ti_mul, Int32.reduceToInt] at *; omega))).trans ((if_pos n64).trans (if_neg (by first | omega | (simp only [Int32.le_iff_toInt_le, Int32.lt_iff_toInt_lt, ti_add, ti_sub, ti_mul, Int32.reduceToInt] at *; omega)))))).symm | exact ((if_pos (by first | omega | (simp only [Int32.le_iff_toInt_le, Int32.lt_iff_toInt_lt, ti_add, ti_sub, ti_mul, Int32.reduceToInt] at *; omega))).trans ((if_neg (by first | omega | (simp only [Int32.le_iff_toInt_le, Int32.lt_iff_toInt_lt, ti_add, ti_sub, ti_mul, Int32.reduceToInt] at *; omega))).trans ((if_pos n64).trans (if_pos (by first | omega | (simp only [Int32.le_iff_toInt_le, Int32.lt_iff_toInt_lt, ti_add, ti_sub, ti_mul, Int32.reduceToInt] at *; omega)))))).symm)⟩)⟩

set_option maxHeartbeats 4000000 in
set_option maxRecDepth 100000 in
theorem s_X12_feed_v {N : Nat} (hN : 1048576 ≤ N) {x1 : Int32} {x2 : Int32} {x3 : Int32} {x4 : Int32} {x5 : Int32} {σ0 : zS}  (hR : RF σ0.2.2) (hp : 0 ≤ (σ0.1 218 7).toInt ∧ (σ0.1 218 7).toInt ≤ 600) (hY : BYT (σ0.1 224)) : Ok (f_X12_feed N 218 x1 x2 x3 x4 x5 σ0) (fun r => Tr [218, 224, 225] σ0 r.2 ∧ (((0 ≤ (r.2.1 218 7).toInt ∧ (r.2.1 218 7).toInt ≤ 600) ∧ BYT (r.2.1 224)) ∧ r.1 = fdV (σ0.1 218 7) ∧ r.2.1 218 7 = fdT (σ0.1 218 7))) := by
  have hT : Tr [218, 224, 225] σ0 σ0 := Tr.rf
  have ht : σ0.1 218 7 = σ0.1 218 7 := rfl
  have p0 := hp
  rw [f_X12_feed.eq_1]
  refine ok_gI rfl ?_
  refine ok_if (fun hc2 => ?_) (fun hc2 => ?_)
  · have c10 := hc2
    refine ok_gR (v := 225) hT rfl (hR 218 8 rfl) ?_
    refine ok_s14 hT rfl (by decide) (by first | omega | decide | (simp only [Int32.le_iff_toInt_le, Int32.lt_iff_toInt_lt, ti_add, ti_sub, ti_mul, Int32.reduceToInt] at *; omega)) (by first | omega | decide | (simp only [Int32.le_iff_toInt_le, Int32.lt_iff_toInt_lt, ti_add, ti_sub, ti_mul, Int32.reduceToInt] at *; omega)) (fun σ4 eσ4 hOσ4 hT => ?_)
    have hp : 0 ≤ (σ4.1 218 7).toInt ∧ (σ4.1 218 7).toInt ≤ 600 := by rw [hOσ4.2 218 (by decide)] <;> exact hp
    have ht : σ4.1 218 7 = σ0.1 218 7 := by rw [hOσ4.2 218 (by decide)] <;> exact ht
    have hY : BYT (σ4.1 224) := by rw [hOσ4.2 224 (by decide)]; exact hY
    refine ok_gR (v := 225) hT rfl (hR 218 8 rfl) ?_
    refine ok_s14 hT rfl (by decide) (by first | omega | decide | (simp only [Int32.le_iff_toInt_le, Int32.lt_iff_toInt_lt, ti_add, ti_sub, ti_mul, Int32.reduceToInt] at *; omega)) (by first | omega | decide | (simp only [Int32.le_iff_toInt_le, Int32.lt_iff_toInt_lt, ti_add, ti_sub, ti_mul, Int32.reduceToInt] at *; omega)) (fun σ6 eσ6 hOσ6 hT => ?_)
    have hp : 0 ≤ (σ6.1 218 7).toInt ∧ (σ6.1 218 7).toInt ≤ 600 := by rw [hOσ6.2 218 (by decide)] <;> exact hp
    have ht : σ6.1 218 7 = σ0.1 218 7 := by rw [hOσ6.2 218 (by decide)] <;> exact ht
    have hY : BYT (σ6.1 224) := by rw [hOσ6.2 224 (by decide)]; exact hY
    refine ok_gR (v := 225) hT rfl (hR 218 8 rfl) ?_
    refine ok_s14 hT rfl (by decide) (by first | omega | decide | (simp only [Int32.le_iff_toInt_le, Int32.lt_iff_toInt_lt, ti_add, ti_sub, ti_mul, Int32.reduceToInt] at *; omega)) (by first | omega | decide | (simp only [Int32.le_iff_toInt_le, Int32.lt_iff_toInt_lt, ti_add, ti_sub, ti_mul, Int32.reduceToInt] at *; omega)) (fun σ8 eσ8 hOσ8 hT => ?_)
    have hp : 0 ≤ (σ8.1 218 7).toInt ∧ (σ8.1 218 7).toInt ≤ 600 := by rw [hOσ8.2 218 (by decide)] <;> exact hp
    have ht : σ8.1 218 7 = σ0.1 218 7 := by rw [hOσ8.2 218 (by decide)] <;> exact ht
    have hY : BYT (σ8.1 224) := by rw [hOσ8.2 224 (by decide)]; exact hY
    refine ok_gR (v := 225) hT rfl (hR 218 8 rfl) ?_
    refine ok_s14 hT rfl (by decide) (by first | omega | decide | (simp only [Int32.le_iff_toInt_le, Int32.lt_iff_toInt_lt, ti_add, ti_sub, ti_mul, Int32.reduceToInt] at *; omega)) (by first | omega | decide | (simp only [Int32.le_iff_toInt_le, Int32.lt_iff_toInt_lt, ti_add, ti_sub, ti_mul, Int32.reduceToInt] at *; omega)) (fun σ10 eσ10 hOσ10 hT => ?_)
    have hp : 0 ≤ (σ10.1 218 7).toInt ∧ (σ10.1 218 7).toInt ≤ 600 := by rw [hOσ10.2 218 (by decide)] <;> exact hp
    have ht : σ10.1 218 7 = σ0.1 218 7 := by rw [hOσ10.2 218 (by decide)] <;> exact ht
    have hY : BYT (σ10.1 224) := by rw [hOσ10.2 224 (by decide)]; exact hY
    refine ok_gR (v := 225) hT rfl (hR 218 8 rfl) ?_
    refine ok_s14 hT rfl (by decide) (by first | omega | decide | (simp only [Int32.le_iff_toInt_le, Int32.lt_iff_toInt_lt, ti_add, ti_sub, ti_mul, Int32.reduceToInt] at *; omega)) (by first | omega | decide | (simp only [Int32.le_iff_toInt_le, Int32.lt_iff_toInt_lt, ti_add, ti_sub, ti_mul, Int32.reduceToInt] at *; omega)) (fun σ12 eσ12 hOσ12 hT => ?_)
    have hp : 0 ≤ (σ12.1 218 7).toInt ∧ (σ12.1 218 7).toInt ≤ 600 := by rw [hOσ12.2 218 (by decide)] <;> exact hp
    have ht : σ12.1 218 7 = σ0.1 218 7 := by rw [hOσ12.2 218 (by decide)] <;> exact ht
    have hY : BYT (σ12.1 224) := by rw [hOσ12.2 224 (by decide)]; exact hY
    refine ok_lp (fun t : Int32 × zS => Tr [218, 224, 225] σ0 (t.2) ∧ (0 ≤ (t.1).toInt) ∧ (0 ≤ ((t.2).1 218 7).toInt ∧ ((t.2).1 218 7).toInt ≤ 600) ∧ ((t.2).1 218 7 = σ0.1 218 7) ∧ (BYT ((t.2).1 224))) (fun t : Int32 × zS => (20 - (t.1).toInt).toNat) (fun again13 t hI ih55_13 => ?_) N _ (show Tr [218, 224, 225] σ0 σ12 ∧ (0 ≤ (0 : Int32).toInt) ∧ (0 ≤ (σ12.1 218 7).toInt ∧ (σ12.1 218 7).toInt ≤ 600) ∧ (σ12.1 218 7 = σ0.1 218 7) ∧ (BYT (σ12.1 224)) from ⟨hT, (by first | omega | decide | (simp only [Int32.le_iff_toInt_le, Int32.lt_iff_toInt_lt, ti_add, ti_sub, ti_mul, Int32.reduceToInt] at *; omega)), hp, ht, hY⟩) (show (20 - (0 : Int32).toInt).toNat < N from (by first | omega | decide | (simp only [Int32.le_iff_toInt_le, Int32.lt_iff_toInt_lt, ti_add, ti_sub, ti_mul, Int32.reduceToInt] at *; omega)))
    obtain ⟨x6_13, σ13⟩ := t
    have hI : Tr [218, 224, 225] σ0 σ13 ∧ (0 ≤ x6_13.toInt) ∧ (0 ≤ (σ13.1 218 7).toInt ∧ (σ13.1 218 7).toInt ≤ 600) ∧ (σ13.1 218 7 = σ0.1 218 7) ∧ (BYT (σ13.1 224)) := hI
    obtain ⟨hT, hI13, hp, ht, hY⟩ := hI
    rw [F_X12_feed_55.eq_1]
    refine ok_if (fun hc14 => ?_) (fun hc14 => ?_)
    · refine ok_gI rfl ?_
      refine ok_pI hT rfl (by decide) (fun σ16 eσ16 hOσ16 hT => ?_)
      have a109 := zI_atI eσ16
      rw [ht] at a109
      have hp : 0 ≤ (σ16.1 218 7).toInt ∧ (σ16.1 218 7).toInt ≤ 600 := by rw [zI_atI eσ16]; have e9 := congrArg Int32.toInt ht; first | omega | (simp only [Int32.le_iff_toInt_le, Int32.lt_iff_toInt_lt, ti_add, ti_sub, ti_mul, Int32.reduceToInt] at *; omega)
      have hY : BYT (σ16.1 224) := by rw [hOσ16.2 224 (by decide)]; exact hY
      refine ok_gI rfl ?_
      exact ok_some ⟨hT, (show ((0 ≤ (σ16.1 218 7).toInt ∧ (σ16.1 218 7).toInt ≤ 600) ∧ BYT (σ16.1 224)) ∧ ((σ16.1 218 7)) = fdV (σ0.1 218 7) ∧ σ16.1 218 7 = fdT (σ0.1 218 7) from by first | exact ⟨⟨hp, hY⟩, (if_neg (by first | omega | (simp only [Int32.le_iff_toInt_le, Int32.lt_iff_toInt_lt, ti_add, ti_sub, ti_mul, Int32.reduceToInt] at *; omega))).symm, ht.trans (if_neg (by first | omega | (simp only [Int32.le_iff_toInt_le, Int32.lt_iff_toInt_lt, ti_add, ti_sub, ti_mul, Int32.reduceToInt] at *; omega))).symm⟩ | exact ⟨⟨hp, hY⟩, a109.trans (if_pos (by first | omega | (simp only [Int32.le_iff_toInt_le, Int32.lt_iff_toInt_lt, ti_add, ti_sub, ti_mul, Int32.reduceToInt] at *; omega))).symm, a109.trans (if_pos (by first | omega | (simp only [Int32.le_iff_toInt_le, Int32.lt_iff_toInt_lt, ti_add, ti_sub, ti_mul, Int32.reduceToInt] at *; omega))).symm⟩)⟩
    · have d4 := ti_div4 (x := x6_13) (by first | omega | (simp only [Int32.le_iff_toInt_le, Int32.lt_iff_toInt_lt, ti_add, ti_sub, ti_mul, Int32.reduceToInt] at *; omega)) (by first | omega | (simp only [Int32.le_iff_toInt_le, Int32.lt_iff_toInt_lt, ti_add, ti_sub, ti_mul, Int32.reduceToInt] at *; omega))
      have k9 : 0 = 0 := rfl
      have e9 := congrArg Int32.toInt ht
      refine ok_gR (v := 224) hT rfl (hR 218 6 rfl) ?_
      refine ok_gI rfl ?_
      refine ok_gR (v := 225) hT rfl (hR 218 8 rfl) ?_
      refine ok_nzI (by decide) ?_
      refine ok_aIn rfl (by first | omega | decide | (simp only [Int32.le_iff_toInt_le, Int32.lt_iff_toInt_lt, ti_add, ti_sub, ti_mul, Int32.reduceToInt] at *; omega)) (by first | omega | decide | (simp only [Int32.le_iff_toInt_le, Int32.lt_iff_toInt_lt, ti_add, ti_sub, ti_mul, Int32.reduceToInt] at *; omega)) (fun v21 ev21 => ?_)
      refine ok_nzI (by decide) ?_
      refine ok_s13 hT rfl (by decide) (by first | omega | decide | (simp only [Int32.le_iff_toInt_le, Int32.lt_iff_toInt_lt, ti_add, ti_sub, ti_mul, Int32.reduceToInt] at *; omega)) (by first | omega | decide | (simp only [Int32.le_iff_toInt_le, Int32.lt_iff_toInt_lt, ti_add, ti_sub, ti_mul, Int32.reduceToInt] at *; omega)) (fun σ22 eσ22 hOσ22 hT => ?_)
      have hp : 0 ≤ (σ22.1 218 7).toInt ∧ (σ22.1 218 7).toInt ≤ 600 := by rw [hOσ22.2 218 (by decide)] <;> exact hp
      have ht : σ22.1 218 7 = σ0.1 218 7 := by rw [hOσ22.2 218 (by decide)] <;> exact ht
      have hY : BYT (σ22.1 224) := BYT_s eσ22 hY
      exact ih55_13 (x6_13 + 1, σ22) (show Tr [218, 224, 225] σ0 σ22 ∧ (0 ≤ (x6_13 + 1).toInt) ∧ (0 ≤ (σ22.1 218 7).toInt ∧ (σ22.1 218 7).toInt ≤ 600) ∧ (σ22.1 218 7 = σ0.1 218 7) ∧ (BYT (σ22.1 224)) from ⟨hT, (by first | omega | decide | (simp only [Int32.le_iff_toInt_le, Int32.lt_iff_toInt_lt, ti_add, ti_sub, ti_mul, Int32.reduceToInt] at *; omega)), hp, ht, hY⟩) (show (20 - (x6_13 + 1).toInt).toNat < (20 - x6_13.toInt).toNat from (by first | omega | decide | (simp only [Int32.le_iff_toInt_le, Int32.lt_iff_toInt_lt, ti_add, ti_sub, ti_mul, Int32.reduceToInt] at *; omega)))
  · have c10 := hc2
    exact ok_some ⟨hT, (show ((0 ≤ (σ0.1 218 7).toInt ∧ (σ0.1 218 7).toInt ≤ 600) ∧ BYT (σ0.1 224)) ∧ (-1 : Int32) = fdV (σ0.1 218 7) ∧ σ0.1 218 7 = fdT (σ0.1 218 7) from by first | exact ⟨⟨hp, hY⟩, (if_neg (by first | omega | (simp only [Int32.le_iff_toInt_le, Int32.lt_iff_toInt_lt, ti_add, ti_sub, ti_mul, Int32.reduceToInt] at *; omega))).symm, ht.trans (if_neg (by first | omega | (simp only [Int32.le_iff_toInt_le, Int32.lt_iff_toInt_lt, ti_add, ti_sub, ti_mul, Int32.reduceToInt] at *; omega))).symm⟩ | exact ⟨⟨hp, hY⟩, a109.trans (if_pos (by first | omega | (simp only [Int32.le_iff_toInt_le, Int32.lt_iff_toInt_lt, ti_add, ti_sub, ti_mul, Int32.reduceToInt] at *; omega))).symm, a109.trans (if_pos (by first | omega | (simp only [Int32.le_iff_toInt_le, Int32.lt_iff_toInt_lt, ti_add, ti_sub, ti_mul, Int32.reduceToInt] at *; omega))).symm⟩)⟩

set_option maxHeartbeats 4000000 in
set_option maxRecDepth 100000 in
theorem s_X12_end_v {N : Nat} (hN : 1048576 ≤ N) {x1 : Int32} {σ0 : zS}  (hR : RF σ0.2.2) (hp : 0 ≤ (σ0.1 218 7).toInt ∧ (σ0.1 218 7).toInt ≤ 600) : Ok (f_X12_end N 218 x1 σ0) (fun r => Tr [218] σ0 r.2 ∧ ((0 ≤ (r.2.1 218 7).toInt ∧ (r.2.1 218 7).toInt ≤ 600) ∧ r.1 = enV x1 (σ0.1 218 7) ∧ r.2.1 218 7 = enT x1 (σ0.1 218 7))) := by
  have hT : Tr [218] σ0 σ0 := Tr.rf
  have p0 := hp
  rw [f_X12_end.eq_1]
  refine ok_gI rfl ?_
  refine ok_zbX (Q := fun V => (V = 0 → ¬ ((0 : Int64).toInt ≤ (Int32.toInt64 x1).toInt ∧ (Int32.toInt64 x1).toInt ≤ (Int32.toInt64 (σ0.1 218 7)).toInt)) ∧ (¬ V = 0 → (0 : Int64).toInt ≤ (Int32.toInt64 x1).toInt ∧ (Int32.toInt64 x1).toInt ≤ (Int32.toInt64 (σ0.1 218 7)).toInt)) (xi_X12_in) (fun v2 hqv2 => ?_)
  simp only [i64_of, Int64.reduceToInt] at hqv2
  refine ok_if (fun hc4 => ?_) (fun hc4 => ?_)
  · have qhc4 := hqv2.1 hc4
    exact ok_some ⟨hT, (show (0 ≤ (σ0.1 218 7).toInt ∧ (σ0.1 218 7).toInt ≤ 600) ∧ (-1 : Int32) = enV x1 (σ0.1 218 7) ∧ σ0.1 218 7 = enT x1 (σ0.1 218 7) from by first | exact ⟨hp, (if_neg (by first | omega | (simp only [Int32.le_iff_toInt_le, Int32.lt_iff_toInt_lt, ti_add, ti_sub, ti_mul, Int32.reduceToInt] at *; omega))).symm, (if_neg (by first | omega | (simp only [Int32.le_iff_toInt_le, Int32.lt_iff_toInt_lt, ti_add, ti_sub, ti_mul, Int32.reduceToInt] at *; omega))).symm⟩ | exact ⟨hp, (if_pos (by first | omega | (simp only [Int32.le_iff_toInt_le, Int32.lt_iff_toInt_lt, ti_add, ti_sub, ti_mul, Int32.reduceToInt] at *; omega))).symm, a18.trans (if_pos (by first | omega | (simp only [Int32.le_iff_toInt_le, Int32.lt_iff_toInt_lt, ti_add, ti_sub, ti_mul, Int32.reduceToInt] at *; omega))).symm⟩)⟩
  · have qhc4 := hqv2.2 hc4
    refine ok_pI hT rfl (by decide) (fun σ5 eσ5 hOσ5 hT => ?_)
    have a18 := zI_atI eσ5
    have hp : 0 ≤ (σ5.1 218 7).toInt ∧ (σ5.1 218 7).toInt ≤ 600 := by rw [zI_atI eσ5]; first | omega | (simp only [Int32.le_iff_toInt_le, Int32.lt_iff_toInt_lt, ti_add, ti_sub, ti_mul, Int32.reduceToInt] at *; omega)
    exact ok_some ⟨hT, (show (0 ≤ (σ5.1 218 7).toInt ∧ (σ5.1 218 7).toInt ≤ 600) ∧ x1 = enV x1 (σ0.1 218 7) ∧ σ5.1 218 7 = enT x1 (σ0.1 218 7) from by first | exact ⟨hp, (if_neg (by first | omega | (simp only [Int32.le_iff_toInt_le, Int32.lt_iff_toInt_lt, ti_add, ti_sub, ti_mul, Int32.reduceToInt] at *; omega))).symm, (if_neg (by first | omega | (simp only [Int32.le_iff_toInt_le, Int32.lt_iff_toInt_lt, ti_add, ti_sub, ti_mul, Int32.reduceToInt] at *; omega))).symm⟩ | exact ⟨hp, (if_pos (by first | omega | (simp only [Int32.le_iff_toInt_le, Int32.lt_iff_toInt_lt, ti_add, ti_sub, ti_mul, Int32.reduceToInt] at *; omega))).symm, a18.trans (if_pos (by first | omega | (simp only [Int32.le_iff_toInt_le, Int32.lt_iff_toInt_lt, ti_add, ti_sub, ti_mul, Int32.reduceToInt] at *; omega))).symm⟩)⟩

set_option maxHeartbeats 4000000 in
set_option maxRecDepth 100000 in
theorem s_X12_keep_v {N : Nat} (hN : 1048576 ≤ N) {x1 : Int32} {σ0 : zS}  (hR : RF σ0.2.2) (hM : MW (σ0.1 219) 0) (hB : ZB σ0.1) (hI3 : MI (σ0.1 221)) : Ok (f_X12_keep N 218 x1 σ0) (fun r => Tr [221, 222, 223] σ0 r.2 ∧ ((ZB r.2.1 ∧ MI (r.2.1 221)) ∧ r.1 = (if 0 ≤ x1.toInt ∧ x1.toInt ≤ 2 then 0 else -2) ∧ ∀ j, r.2.1 223 j = if (0 ≤ x1.toInt ∧ x1.toInt ≤ 2) ∧ j = x1.toInt.toNat then vp_nar .boolean 1 else σ0.1 223 j)) := by
  have hT : Tr [221, 222, 223] σ0 σ0 := Tr.rf
  have hn := hM.1
  have he : 0 ≤ (σ0.1 219 2).toInt ∧ (σ0.1 219 2).toInt ≤ 10 := hM.2.1
  have qm := mny_b hn.1 hn.2
  rw [f_X12_keep.eq_1]
  refine ok_zbX (Q := fun V => ¬ V = 0 ↔ (0 : Int64).toInt ≤ (Int32.toInt64 x1).toInt ∧ (Int32.toInt64 x1).toInt ≤ (2 : Int64).toInt) (x2_X12_in) (fun v1 hqv1 => ?_)
  simp only [i64_of, Int64.reduceToInt] at hqv1
  refine ok_if (fun hc3 => ?_) (fun hc3 => ?_)
  · have qk : ¬ (0 ≤ x1.toInt ∧ x1.toInt ≤ 2) := fun h9 => hqv1.mpr h9 hc3
    exact ok_some ⟨hT, (show (ZB σ0.1 ∧ MI (σ0.1 221)) ∧ (-2 : Int32) = (if 0 ≤ x1.toInt ∧ x1.toInt ≤ 2 then 0 else -2) ∧ ∀ j, σ0.1 223 j = if (0 ≤ x1.toInt ∧ x1.toInt ≤ 2) ∧ j = x1.toInt.toNat then vp_nar .boolean 1 else σ0.1 223 j from by exact ⟨⟨hB, hI3⟩, (if_neg qk).symm, fun j => (if_neg (fun q => qk q.1)).symm⟩)⟩
  · have qk := hqv1.mp hc3
    refine ok_lp (fun t : Int32 × zS => Tr [221, 222, 223] σ0 (t.2) ∧ ((0 ≤ (t.1).toInt ∧ (t.1).toInt ≤ 43) ∧ KP ((t.2).1 221) (σ0.1 221) (σ0.1 219) (43 * x1.toInt.toNat) 0 (t.1).toInt.toNat) ∧ (ZB (t.2).1) ∧ ((t.2).1 223 = σ0.1 223)) (fun t : Int32 × zS => (43 - (t.1).toInt).toNat) (fun again4 t hI ih17_4 => ?_) N _ (show Tr [221, 222, 223] σ0 σ0 ∧ ((0 ≤ (0 : Int32).toInt ∧ (0 : Int32).toInt ≤ 43) ∧ KP (σ0.1 221) (σ0.1 221) (σ0.1 219) (43 * x1.toInt.toNat) 0 (0 : Int32).toInt.toNat) ∧ (ZB σ0.1) ∧ (σ0.1 223 = σ0.1 223) from ⟨hT, (by exact ⟨⟨by decide, by decide⟩, ⟨fun j hj => absurd hj (Nat.not_lt_zero _), fun _ _ => rfl⟩⟩), hB, rfl⟩) (show (43 - (0 : Int32).toInt).toNat < N from (by first | omega | decide | (simp only [Int32.le_iff_toInt_le, Int32.lt_iff_toInt_lt, ti_add, ti_sub, ti_mul, Int32.reduceToInt] at *; omega)))
    obtain ⟨x2_4, σ4⟩ := t
    have hI : Tr [221, 222, 223] σ0 σ4 ∧ ((0 ≤ x2_4.toInt ∧ x2_4.toInt ≤ 43) ∧ KP (σ4.1 221) (σ0.1 221) (σ0.1 219) (43 * x1.toInt.toNat) 0 x2_4.toInt.toNat) ∧ (ZB σ4.1) ∧ (σ4.1 223 = σ0.1 223) := hI
    obtain ⟨hT, hI4, hB, r223_σ4⟩ := hI
    rw [F_X12_keep_17.eq_1]
    have hK := hI4.2
    refine ok_if (fun hc5 => ?_) (fun hc5 => ?_)
    · have e9 : x2_4.toInt.toNat = 43 := by first | omega | (simp only [Int32.le_iff_toInt_le, Int32.lt_iff_toInt_lt, ti_add, ti_sub, ti_mul, Int32.reduceToInt] at *; omega)
      rw [e9] at hK
      refine ok_lp (fun t : Int32 × zS => Tr [221, 222, 223] σ0 (t.2) ∧ (0 ≤ (t.1).toInt ∧ KP ((t.2).1 221) (σ0.1 221) (σ0.1 219) (43 * x1.toInt.toNat) 0 43) ∧ (ZB (t.2).1) ∧ ((t.2).1 223 = σ0.1 223)) (fun t : Int32 × zS => (10240 - (t.1).toInt).toNat) (fun again6 t hI ih48_6 => ?_) N _ (show Tr [221, 222, 223] σ0 σ4 ∧ (0 ≤ (0 : Int32).toInt ∧ KP (σ4.1 221) (σ0.1 221) (σ0.1 219) (43 * x1.toInt.toNat) 0 43) ∧ (ZB σ4.1) ∧ (σ4.1 223 = σ0.1 223) from ⟨hT, (by exact ⟨by decide, hK⟩), hB, r223_σ4⟩) (show (10240 - (0 : Int32).toInt).toNat < N from (by first | omega | decide | (simp only [Int32.le_iff_toInt_le, Int32.lt_iff_toInt_lt, ti_add, ti_sub, ti_mul, Int32.reduceToInt] at *; omega)))
      obtain ⟨x2_6, σ6⟩ := t
      have hI : Tr [221, 222, 223] σ0 σ6 ∧ (0 ≤ x2_6.toInt ∧ KP (σ6.1 221) (σ0.1 221) (σ0.1 219) (43 * x1.toInt.toNat) 0 43) ∧ (ZB σ6.1) ∧ (σ6.1 223 = σ0.1 223) := hI
      obtain ⟨hT, hI6, hB, r223_σ6⟩ := hI
      rw [F_X12_keep_48.eq_1]
      have hK := hI6.2
      refine ok_if (fun hc7 => ?_) (fun hc7 => ?_)
      · refine ok_gR (v := 223) hT rfl (hR 218 5 rfl) ?_
        refine ok_s16 hT rfl (by decide) (by first | omega | decide | (simp only [Int32.le_iff_toInt_le, Int32.lt_iff_toInt_lt, ti_add, ti_sub, ti_mul, Int32.reduceToInt] at *; omega)) (by first | omega | decide | (simp only [Int32.le_iff_toInt_le, Int32.lt_iff_toInt_lt, ti_add, ti_sub, ti_mul, Int32.reduceToInt] at *; omega)) (fun σ9 eσ9 hOσ9 hT => ?_)
        have hK : KP (σ9.1 221) (σ0.1 221) (σ0.1 219) (43 * x1.toInt.toNat) 0 43 := by rw [hOσ9.2 221 (by decide)]; exact hK
        have u85 := upd_at eσ9 r223_σ6
        have hB : ZB σ9.1 := ZB_s eσ9 hB
        exact ok_some ⟨hT, (show (ZB σ9.1 ∧ MI (σ9.1 221)) ∧ (0 : Int32) = (if 0 ≤ x1.toInt ∧ x1.toInt ≤ 2 then 0 else -2) ∧ ∀ j, σ9.1 223 j = if (0 ≤ x1.toInt ∧ x1.toInt ≤ 2) ∧ j = x1.toInt.toNat then vp_nar .boolean 1 else σ0.1 223 j from by exact ⟨⟨hB, MI_cp hK hM hI3⟩, (if_pos qk).symm, fun j => by rw [u85 j]; by_cases e : j = x1.toInt.toNat; rw [if_pos (show j = x1.toNatClampNeg from e), if_pos ⟨qk, e⟩]; rw [if_neg (show ¬ j = x1.toNatClampNeg from e), if_neg (fun q => e q.2)]⟩)⟩
      · have m9 := ixF (x := x1) (y := x2_6) (by first | omega | (simp only [Int32.le_iff_toInt_le, Int32.lt_iff_toInt_lt, ti_add, ti_sub, ti_mul, Int32.reduceToInt] at *; omega)) (by first | omega | (simp only [Int32.le_iff_toInt_le, Int32.lt_iff_toInt_lt, ti_add, ti_sub, ti_mul, Int32.reduceToInt] at *; omega)) (by first | omega | (simp only [Int32.le_iff_toInt_le, Int32.lt_iff_toInt_lt, ti_add, ti_sub, ti_mul, Int32.reduceToInt] at *; omega)) (by first | omega | (simp only [Int32.le_iff_toInt_le, Int32.lt_iff_toInt_lt, ti_add, ti_sub, ti_mul, Int32.reduceToInt] at *; omega))
        refine ok_gR (v := 222) hT rfl (hR 218 4 rfl) ?_
        refine ok_gR (v := 220) hT rfl (hR 218 2 rfl) ?_
        refine ok_aIn rfl (by first | omega | decide | (simp only [Int32.le_iff_toInt_le, Int32.lt_iff_toInt_lt, ti_add, ti_sub, ti_mul, Int32.reduceToInt] at *; omega)) (by first | omega | decide | (simp only [Int32.le_iff_toInt_le, Int32.lt_iff_toInt_lt, ti_add, ti_sub, ti_mul, Int32.reduceToInt] at *; omega)) (fun v12 ev12 => ?_)
        have zv12 : v12 = 0 ∨ v12 = 1 := by rw [ev12]; exact hB 220 rfl _
        refine ok_s16 hT rfl (by decide) (by first | omega | decide | (simp only [Int32.le_iff_toInt_le, Int32.lt_iff_toInt_lt, ti_add, ti_sub, ti_mul, Int32.reduceToInt] at *; omega)) (by first | omega | decide | (simp only [Int32.le_iff_toInt_le, Int32.lt_iff_toInt_lt, ti_add, ti_sub, ti_mul, Int32.reduceToInt] at *; omega)) (fun σ13 eσ13 hOσ13 hT => ?_)
        have hK : KP (σ13.1 221) (σ0.1 221) (σ0.1 219) (43 * x1.toInt.toNat) 0 43 := by rw [hOσ13.2 221 (by decide)]; exact hK
        have r223_σ13 : σ13.1 223 = σ0.1 223 := (hOσ13.2 223 (by decide)).trans r223_σ6
        have hB : ZB σ13.1 := ZB_s eσ13 hB
        exact ih48_6 (x2_6 + 1, σ13) (show Tr [221, 222, 223] σ0 σ13 ∧ (0 ≤ (x2_6 + 1).toInt ∧ KP (σ13.1 221) (σ0.1 221) (σ0.1 219) (43 * x1.toInt.toNat) 0 43) ∧ (ZB σ13.1) ∧ (σ13.1 223 = σ0.1 223) from ⟨hT, (by exact ⟨by first | omega | (simp only [Int32.le_iff_toInt_le, Int32.lt_iff_toInt_lt, ti_add, ti_sub, ti_mul, Int32.reduceToInt] at *; omega), hK⟩), hB, r223_σ13⟩) (show (10240 - (x2_6 + 1).toInt).toNat < (10240 - x2_6.toInt).toNat from (by first | omega | decide | (simp only [Int32.le_iff_toInt_le, Int32.lt_iff_toInt_lt, ti_add, ti_sub, ti_mul, Int32.reduceToInt] at *; omega)))
    · have m9 := ix43 (x := x1) (y := x2_4) (by first | omega | (simp only [Int32.le_iff_toInt_le, Int32.lt_iff_toInt_lt, ti_add, ti_sub, ti_mul, Int32.reduceToInt] at *; omega)) (by first | omega | (simp only [Int32.le_iff_toInt_le, Int32.lt_iff_toInt_lt, ti_add, ti_sub, ti_mul, Int32.reduceToInt] at *; omega)) (by first | omega | (simp only [Int32.le_iff_toInt_le, Int32.lt_iff_toInt_lt, ti_add, ti_sub, ti_mul, Int32.reduceToInt] at *; omega)) (by first | omega | (simp only [Int32.le_iff_toInt_le, Int32.lt_iff_toInt_lt, ti_add, ti_sub, ti_mul, Int32.reduceToInt] at *; omega))
      have hx : (x2_4 + 1).toInt.toNat = x2_4.toInt.toNat + 1 := by first | omega | (simp only [Int32.le_iff_toInt_le, Int32.lt_iff_toInt_lt, ti_add, ti_sub, ti_mul, Int32.reduceToInt] at *; omega)
      have h43 : x2_4.toInt.toNat < 43 := by first | omega | (simp only [Int32.le_iff_toInt_le, Int32.lt_iff_toInt_lt, ti_add, ti_sub, ti_mul, Int32.reduceToInt] at *; omega)
      refine ok_gR (v := 221) hT rfl (hR 218 3 rfl) ?_
      refine ok_gR (v := 219) hT rfl (hR 218 1 rfl) ?_
      refine ok_aIn rfl (by first | omega | decide | (simp only [Int32.le_iff_toInt_le, Int32.lt_iff_toInt_lt, ti_add, ti_sub, ti_mul, Int32.reduceToInt] at *; omega)) (by first | omega | decide | (simp only [Int32.le_iff_toInt_le, Int32.lt_iff_toInt_lt, ti_add, ti_sub, ti_mul, Int32.reduceToInt] at *; omega)) (fun v16 ev16 => ?_)
      have ev38 : v16 = σ0.1 219 (Int32.toNatClampNeg (x2_4)) := by rw [ev16, hT.2 219 (by decide)]
      refine ok_s14 hT rfl (by decide) (by first | omega | decide | (simp only [Int32.le_iff_toInt_le, Int32.lt_iff_toInt_lt, ti_add, ti_sub, ti_mul, Int32.reduceToInt] at *; omega)) (by first | omega | decide | (simp only [Int32.le_iff_toInt_le, Int32.lt_iff_toInt_lt, ti_add, ti_sub, ti_mul, Int32.reduceToInt] at *; omega)) (fun σ17 eσ17 hOσ17 hT => ?_)
      have hK := KP_s eσ17 m9.2.2 (by rw [ev38, Nat.zero_add]; rfl) h43 hK
      have r223_σ17 : σ17.1 223 = σ0.1 223 := (hOσ17.2 223 (by decide)).trans r223_σ4
      have hB : ZB σ17.1 := ZB.tr hOσ17 (by decide) hB
      exact ih17_4 (x2_4 + 1, σ17) (show Tr [221, 222, 223] σ0 σ17 ∧ ((0 ≤ (x2_4 + 1).toInt ∧ (x2_4 + 1).toInt ≤ 43) ∧ KP (σ17.1 221) (σ0.1 221) (σ0.1 219) (43 * x1.toInt.toNat) 0 (x2_4 + 1).toInt.toNat) ∧ (ZB σ17.1) ∧ (σ17.1 223 = σ0.1 223) from ⟨hT, (by exact ⟨⟨by first | omega | (simp only [Int32.le_iff_toInt_le, Int32.lt_iff_toInt_lt, ti_add, ti_sub, ti_mul, Int32.reduceToInt] at *; omega), by first | omega | (simp only [Int32.le_iff_toInt_le, Int32.lt_iff_toInt_lt, ti_add, ti_sub, ti_mul, Int32.reduceToInt] at *; omega)⟩, by rw [hx]; exact hK⟩), hB, r223_σ17⟩) (show (43 - (x2_4 + 1).toInt).toNat < (43 - x2_4.toInt).toNat from (by first | omega | decide | (simp only [Int32.le_iff_toInt_le, Int32.lt_iff_toInt_lt, ti_add, ti_sub, ti_mul, Int32.reduceToInt] at *; omega)))

set_option maxHeartbeats 4000000 in
set_option maxRecDepth 100000 in
theorem s_X12_back_v {N : Nat} (hN : 1048576 ≤ N) {x1 : Int32} {σ0 : zS}  (hR : RF σ0.2.2) (hM : MW (σ0.1 219) 0) (hB : ZB σ0.1) (hI3 : MI (σ0.1 221)) : Ok (f_X12_back N 218 x1 σ0) (fun r => Tr [219, 220] σ0 r.2 ∧ ((ZB r.2.1 ∧ MW (r.2.1 219) 0) ∧ r.1 = if 0 ≤ x1.toInt ∧ x1.toInt ≤ 2 then (if σ0.1 223 x1.toInt.toNat = 0 then -6 else 0) else -2)) := by
  have hT : Tr [219, 220] σ0 σ0 := Tr.rf
  have hn := hM.1
  have he : 0 ≤ (σ0.1 219 2).toInt ∧ (σ0.1 219 2).toInt ≤ 10 := hM.2.1
  have qm := mny_b hn.1 hn.2
  rw [f_X12_back.eq_1]
  refine ok_zbX (Q := fun V => ¬ V = 0 ↔ (0 : Int64).toInt ≤ (Int32.toInt64 x1).toInt ∧ (Int32.toInt64 x1).toInt ≤ (2 : Int64).toInt) (x2_X12_in) (fun v1 hqv1 => ?_)
  simp only [i64_of, Int64.reduceToInt] at hqv1
  refine ok_if (fun hc3 => ?_) (fun hc3 => ?_)
  · have qk : ¬ (0 ≤ x1.toInt ∧ x1.toInt ≤ 2) := fun h9 => hqv1.mpr h9 hc3
    exact ok_some ⟨hT, (show (ZB σ0.1 ∧ MW (σ0.1 219) 0) ∧ (-2 : Int32) = if 0 ≤ x1.toInt ∧ x1.toInt ≤ 2 then (if σ0.1 223 x1.toInt.toNat = 0 then -6 else 0) else -2 from by exact ⟨⟨hB, hM⟩, (if_neg qk).symm⟩)⟩
  · have qk := hqv1.mp hc3
    refine ok_gR (v := 223) hT rfl (hR 218 5 rfl) ?_
    refine ok_aIn rfl (by first | omega | decide | (simp only [Int32.le_iff_toInt_le, Int32.lt_iff_toInt_lt, ti_add, ti_sub, ti_mul, Int32.reduceToInt] at *; omega)) (by first | omega | decide | (simp only [Int32.le_iff_toInt_le, Int32.lt_iff_toInt_lt, ti_add, ti_sub, ti_mul, Int32.reduceToInt] at *; omega)) (fun v5 ev5 => ?_)
    have w20 : v5 = σ0.1 223 x1.toInt.toNat := by rw [ev5, hT.2 223 (by decide)]; rfl
    have zv5 : v5 = 0 ∨ v5 = 1 := by rw [ev5]; exact hB 223 rfl _
    refine ok_if (fun hc6 => ?_) (fun hc6 => ?_)
    · have e21 := hc6
      exact ok_some ⟨hT, (show (ZB σ0.1 ∧ MW (σ0.1 219) 0) ∧ (-6 : Int32) = if 0 ≤ x1.toInt ∧ x1.toInt ≤ 2 then (if σ0.1 223 x1.toInt.toNat = 0 then -6 else 0) else -2 from by exact ⟨⟨hB, hM⟩, ((if_pos qk).trans (if_pos (w20 ▸ e21))).symm⟩)⟩
    · have e21 := hc6
      refine ok_lp (fun t : Int32 × zS => Tr [219, 220] σ0 (t.2) ∧ ((0 ≤ (t.1).toInt ∧ (t.1).toInt ≤ 43) ∧ KP ((t.2).1 219) (σ0.1 219) (σ0.1 221) 0 (43 * x1.toInt.toNat) (t.1).toInt.toNat) ∧ (ZB (t.2).1)) (fun t : Int32 × zS => (43 - (t.1).toInt).toNat) (fun again7 t hI ih29_7 => ?_) N _ (show Tr [219, 220] σ0 σ0 ∧ ((0 ≤ (0 : Int32).toInt ∧ (0 : Int32).toInt ≤ 43) ∧ KP (σ0.1 219) (σ0.1 219) (σ0.1 221) 0 (43 * x1.toInt.toNat) (0 : Int32).toInt.toNat) ∧ (ZB σ0.1) from ⟨hT, (by exact ⟨⟨by decide, by decide⟩, ⟨fun j hj => absurd hj (Nat.not_lt_zero _), fun _ _ => rfl⟩⟩), hB⟩) (show (43 - (0 : Int32).toInt).toNat < N from (by first | omega | decide | (simp only [Int32.le_iff_toInt_le, Int32.lt_iff_toInt_lt, ti_add, ti_sub, ti_mul, Int32.reduceToInt] at *; omega)))
      obtain ⟨x2_7, σ7⟩ := t
      have hI : Tr [219, 220] σ0 σ7 ∧ ((0 ≤ x2_7.toInt ∧ x2_7.toInt ≤ 43) ∧ KP (σ7.1 219) (σ0.1 219) (σ0.1 221) 0 (43 * x1.toInt.toNat) x2_7.toInt.toNat) ∧ (ZB σ7.1) := hI
      obtain ⟨hT, hI7, hB⟩ := hI
      rw [F_X12_back_29.eq_1]
      have hK := hI7.2
      refine ok_if (fun hc8 => ?_) (fun hc8 => ?_)
      · have e9 : x2_7.toInt.toNat = 43 := by first | omega | (simp only [Int32.le_iff_toInt_le, Int32.lt_iff_toInt_lt, ti_add, ti_sub, ti_mul, Int32.reduceToInt] at *; omega)
        rw [e9] at hK
        refine ok_lp (fun t : Int32 × zS => Tr [219, 220] σ0 (t.2) ∧ (0 ≤ (t.1).toInt ∧ KP ((t.2).1 219) (σ0.1 219) (σ0.1 221) 0 (43 * x1.toInt.toNat) 43) ∧ (ZB (t.2).1)) (fun t : Int32 × zS => (10240 - (t.1).toInt).toNat) (fun again9 t hI ih60_9 => ?_) N _ (show Tr [219, 220] σ0 σ7 ∧ (0 ≤ (0 : Int32).toInt ∧ KP (σ7.1 219) (σ0.1 219) (σ0.1 221) 0 (43 * x1.toInt.toNat) 43) ∧ (ZB σ7.1) from ⟨hT, (by exact ⟨by decide, hK⟩), hB⟩) (show (10240 - (0 : Int32).toInt).toNat < N from (by first | omega | decide | (simp only [Int32.le_iff_toInt_le, Int32.lt_iff_toInt_lt, ti_add, ti_sub, ti_mul, Int32.reduceToInt] at *; omega)))
        obtain ⟨x2_9, σ9⟩ := t
        have hI : Tr [219, 220] σ0 σ9 ∧ (0 ≤ x2_9.toInt ∧ KP (σ9.1 219) (σ0.1 219) (σ0.1 221) 0 (43 * x1.toInt.toNat) 43) ∧ (ZB σ9.1) := hI
        obtain ⟨hT, hI9, hB⟩ := hI
        rw [F_X12_back_60.eq_1]
        have hK := hI9.2
        refine ok_if (fun hc10 => ?_) (fun hc10 => ?_)
        · exact ok_some ⟨hT, (show (ZB σ9.1 ∧ MW (σ9.1 219) 0) ∧ (0 : Int32) = if 0 ≤ x1.toInt ∧ x1.toInt ≤ 2 then (if σ0.1 223 x1.toInt.toNat = 0 then -6 else 0) else -2 from by exact ⟨⟨hB, MW_cp hK.1 (hI3 _ (by omega))⟩, ((if_pos qk).trans (if_neg (w20 ▸ e21))).symm⟩)⟩
        · have m9 := ixF (x := x1) (y := x2_9) (by first | omega | (simp only [Int32.le_iff_toInt_le, Int32.lt_iff_toInt_lt, ti_add, ti_sub, ti_mul, Int32.reduceToInt] at *; omega)) (by first | omega | (simp only [Int32.le_iff_toInt_le, Int32.lt_iff_toInt_lt, ti_add, ti_sub, ti_mul, Int32.reduceToInt] at *; omega)) (by first | omega | (simp only [Int32.le_iff_toInt_le, Int32.lt_iff_toInt_lt, ti_add, ti_sub, ti_mul, Int32.reduceToInt] at *; omega)) (by first | omega | (simp only [Int32.le_iff_toInt_le, Int32.lt_iff_toInt_lt, ti_add, ti_sub, ti_mul, Int32.reduceToInt] at *; omega))
          refine ok_gR (v := 220) hT rfl (hR 218 2 rfl) ?_
          refine ok_gR (v := 222) hT rfl (hR 218 4 rfl) ?_
          refine ok_aIn rfl (by first | omega | decide | (simp only [Int32.le_iff_toInt_le, Int32.lt_iff_toInt_lt, ti_add, ti_sub, ti_mul, Int32.reduceToInt] at *; omega)) (by first | omega | decide | (simp only [Int32.le_iff_toInt_le, Int32.lt_iff_toInt_lt, ti_add, ti_sub, ti_mul, Int32.reduceToInt] at *; omega)) (fun v13 ev13 => ?_)
          have zv13 : v13 = 0 ∨ v13 = 1 := by rw [ev13]; exact hB 222 rfl _
          refine ok_s16 hT rfl (by decide) (by first | omega | decide | (simp only [Int32.le_iff_toInt_le, Int32.lt_iff_toInt_lt, ti_add, ti_sub, ti_mul, Int32.reduceToInt] at *; omega)) (by first | omega | decide | (simp only [Int32.le_iff_toInt_le, Int32.lt_iff_toInt_lt, ti_add, ti_sub, ti_mul, Int32.reduceToInt] at *; omega)) (fun σ14 eσ14 hOσ14 hT => ?_)
          have hK : KP (σ14.1 219) (σ0.1 219) (σ0.1 221) 0 (43 * x1.toInt.toNat) 43 := by rw [hOσ14.2 219 (by decide)]; exact hK
          have hB : ZB σ14.1 := ZB_s eσ14 hB
          exact ih60_9 (x2_9 + 1, σ14) (show Tr [219, 220] σ0 σ14 ∧ (0 ≤ (x2_9 + 1).toInt ∧ KP (σ14.1 219) (σ0.1 219) (σ0.1 221) 0 (43 * x1.toInt.toNat) 43) ∧ (ZB σ14.1) from ⟨hT, (by exact ⟨by first | omega | (simp only [Int32.le_iff_toInt_le, Int32.lt_iff_toInt_lt, ti_add, ti_sub, ti_mul, Int32.reduceToInt] at *; omega), hK⟩), hB⟩) (show (10240 - (x2_9 + 1).toInt).toNat < (10240 - x2_9.toInt).toNat from (by first | omega | decide | (simp only [Int32.le_iff_toInt_le, Int32.lt_iff_toInt_lt, ti_add, ti_sub, ti_mul, Int32.reduceToInt] at *; omega)))
      · have m9 := ix43 (x := x1) (y := x2_7) (by first | omega | (simp only [Int32.le_iff_toInt_le, Int32.lt_iff_toInt_lt, ti_add, ti_sub, ti_mul, Int32.reduceToInt] at *; omega)) (by first | omega | (simp only [Int32.le_iff_toInt_le, Int32.lt_iff_toInt_lt, ti_add, ti_sub, ti_mul, Int32.reduceToInt] at *; omega)) (by first | omega | (simp only [Int32.le_iff_toInt_le, Int32.lt_iff_toInt_lt, ti_add, ti_sub, ti_mul, Int32.reduceToInt] at *; omega)) (by first | omega | (simp only [Int32.le_iff_toInt_le, Int32.lt_iff_toInt_lt, ti_add, ti_sub, ti_mul, Int32.reduceToInt] at *; omega))
        have hx : (x2_7 + 1).toInt.toNat = x2_7.toInt.toNat + 1 := by first | omega | (simp only [Int32.le_iff_toInt_le, Int32.lt_iff_toInt_lt, ti_add, ti_sub, ti_mul, Int32.reduceToInt] at *; omega)
        have h43 : x2_7.toInt.toNat < 43 := by first | omega | (simp only [Int32.le_iff_toInt_le, Int32.lt_iff_toInt_lt, ti_add, ti_sub, ti_mul, Int32.reduceToInt] at *; omega)
        refine ok_gR (v := 219) hT rfl (hR 218 1 rfl) ?_
        refine ok_gR (v := 221) hT rfl (hR 218 3 rfl) ?_
        refine ok_aIn rfl (by first | omega | decide | (simp only [Int32.le_iff_toInt_le, Int32.lt_iff_toInt_lt, ti_add, ti_sub, ti_mul, Int32.reduceToInt] at *; omega)) (by first | omega | decide | (simp only [Int32.le_iff_toInt_le, Int32.lt_iff_toInt_lt, ti_add, ti_sub, ti_mul, Int32.reduceToInt] at *; omega)) (fun v17 ev17 => ?_)
        have ev38 : v17 = σ0.1 221 (Int32.toNatClampNeg ((43 * x1) + x2_7)) := by rw [ev17, hT.2 221 (by decide)]
        refine ok_s14 hT rfl (by decide) (by first | omega | decide | (simp only [Int32.le_iff_toInt_le, Int32.lt_iff_toInt_lt, ti_add, ti_sub, ti_mul, Int32.reduceToInt] at *; omega)) (by first | omega | decide | (simp only [Int32.le_iff_toInt_le, Int32.lt_iff_toInt_lt, ti_add, ti_sub, ti_mul, Int32.reduceToInt] at *; omega)) (fun σ18 eσ18 hOσ18 hT => ?_)
        have hK := KP_s eσ18 (Nat.zero_add _).symm (by rw [ev38, m9.2.2]; rfl) h43 hK
        have hB : ZB σ18.1 := ZB.tr hOσ18 (by decide) hB
        exact ih29_7 (x2_7 + 1, σ18) (show Tr [219, 220] σ0 σ18 ∧ ((0 ≤ (x2_7 + 1).toInt ∧ (x2_7 + 1).toInt ≤ 43) ∧ KP (σ18.1 219) (σ0.1 219) (σ0.1 221) 0 (43 * x1.toInt.toNat) (x2_7 + 1).toInt.toNat) ∧ (ZB σ18.1) from ⟨hT, (by exact ⟨⟨by first | omega | (simp only [Int32.le_iff_toInt_le, Int32.lt_iff_toInt_lt, ti_add, ti_sub, ti_mul, Int32.reduceToInt] at *; omega), by first | omega | (simp only [Int32.le_iff_toInt_le, Int32.lt_iff_toInt_lt, ti_add, ti_sub, ti_mul, Int32.reduceToInt] at *; omega)⟩, by rw [hx]; exact hK⟩), hB⟩) (show (43 - (x2_7 + 1).toInt).toNat < (43 - x2_7.toInt).toNat from (by first | omega | decide | (simp only [Int32.le_iff_toInt_le, Int32.lt_iff_toInt_lt, ti_add, ti_sub, ti_mul, Int32.reduceToInt] at *; omega)))

set_option maxHeartbeats 4000000 in
set_option maxRecDepth 100000 in
theorem s_X12_write_v {N : Nat} (hN : 1048576 ≤ N) {x1 : Int32} {x2 : Int32} {x3 : Int64} {σ0 : zS}  (hR : RF σ0.2.2) (hS : MS (σ0.1 239)) : Ok (f_X12_write N 218 x1 x2 x3 σ0) (fun r => Tr [] σ0 r.2 ∧ (r.1 = wrV x1 x2 (σ0.1 239 x1.toNatClampNeg))) := by
  have hT : Tr [] σ0 σ0 := Tr.rf
  have m39 := hS x1.toNatClampNeg
  rw [f_X12_write.eq_1]
  refine ok_zbX (Q := fun V => (V = 0 → ¬ (0 ≤ x1.toInt ∧ x1.toInt ≤ 3)) ∧ (¬ V = 0 → 0 ≤ x1.toInt ∧ x1.toInt ≤ 3)) (x_X12_isSlot) (fun v1 hqv1 => ?_)
  refine ok_if (fun hc3 => ?_) (fun hc3 => ?_)
  · have qhc3 := hqv1.1 hc3
    exact ok_some ⟨hT, (show (-2 : Int32) = wrV x1 x2 (σ0.1 239 x1.toNatClampNeg) from by (first | exact (if_neg (by first | omega | (simp only [Int32.le_iff_toInt_le, Int32.lt_iff_toInt_lt, ti_add, ti_sub, ti_mul, Int32.reduceToInt] at *; omega))).symm | exact ((if_pos (by first | omega | (simp only [Int32.le_iff_toInt_le, Int32.lt_iff_toInt_lt, ti_add, ti_sub, ti_mul, Int32.reduceToInt] at *; omega))).trans (if_pos (by first | omega | (simp only [Int32.le_iff_toInt_le, Int32.lt_iff_toInt_lt, ti_add, ti_sub, ti_mul, Int32.reduceToInt] at *; omega)))).symm | exact ((if_pos (by first | omega | (simp only [Int32.le_iff_toInt_le, Int32.lt_iff_toInt_lt, ti_add, ti_sub, ti_mul, Int32.reduceToInt] at *; omega))).trans ((if_neg (by first | omega | (simp only [Int32.le_iff_toInt_le, Int32.lt_iff_toInt_lt, ti_add, ti_sub, ti_mul, Int32.reduceToInt] at *; omega))).trans (if_pos (by first | omega | (simp only [Int32.le_iff_toInt_le, Int32.lt_iff_toInt_lt, ti_add, ti_sub, ti_mul, Int32.reduceToInt] at *; omega))))).symm | exact ((if_pos (by first | omega | (simp only [Int32.le_iff_toInt_le, Int32.lt_iff_toInt_lt, ti_add, ti_sub, ti_mul, Int32.reduceToInt] at *; omega))).trans ((if_neg (by first | omega | (simp only [Int32.le_iff_toInt_le, Int32.lt_iff_toInt_lt, ti_add, ti_sub, ti_mul, Int32.reduceToInt] at *; omega))).trans (if_neg (by first | omega | (simp only [Int32.le_iff_toInt_le, Int32.lt_iff_toInt_lt, ti_add, ti_sub, ti_mul, Int32.reduceToInt] at *; omega))))).symm))⟩
  · have qhc3 := hqv1.2 hc3
    refine ok_gR (v := 239) hT rfl (hR 218 35 rfl) ?_
    refine ok_aIn rfl (by first | omega | decide | (simp only [Int32.le_iff_toInt_le, Int32.lt_iff_toInt_lt, ti_add, ti_sub, ti_mul, Int32.reduceToInt] at *; omega)) (by first | omega | decide | (simp only [Int32.le_iff_toInt_le, Int32.lt_iff_toInt_lt, ti_add, ti_sub, ti_mul, Int32.reduceToInt] at *; omega)) (fun v5 ev5 => ?_)
    have qs15 : -1 ≤ v5.toInt ∧ v5.toInt ≤ 60 := by rw [ev5, hT.2 239 (by decide)]; exact hS _
    have w15 : v5 = σ0.1 239 x1.toNatClampNeg := by rw [ev5, hT.2 239 (by decide)]
    refine ok_if (fun hc6 => ?_) (fun hc6 => ?_)
    · have c17 := hc6
      rw [w15] at c17
      have d17 := congrArg Int32.toInt c17
      simp only [Int32.reduceToInt] at d17
      exact ok_some ⟨hT, (show (-6 : Int32) = wrV x1 x2 (σ0.1 239 x1.toNatClampNeg) from by (first | exact (if_neg (by first | omega | (simp only [Int32.le_iff_toInt_le, Int32.lt_iff_toInt_lt, ti_add, ti_sub, ti_mul, Int32.reduceToInt] at *; omega))).symm | exact ((if_pos (by first | omega | (simp only [Int32.le_iff_toInt_le, Int32.lt_iff_toInt_lt, ti_add, ti_sub, ti_mul, Int32.reduceToInt] at *; omega))).trans (if_pos (by first | omega | (simp only [Int32.le_iff_toInt_le, Int32.lt_iff_toInt_lt, ti_add, ti_sub, ti_mul, Int32.reduceToInt] at *; omega)))).symm | exact ((if_pos (by first | omega | (simp only [Int32.le_iff_toInt_le, Int32.lt_iff_toInt_lt, ti_add, ti_sub, ti_mul, Int32.reduceToInt] at *; omega))).trans ((if_neg (by first | omega | (simp only [Int32.le_iff_toInt_le, Int32.lt_iff_toInt_lt, ti_add, ti_sub, ti_mul, Int32.reduceToInt] at *; omega))).trans (if_pos (by first | omega | (simp only [Int32.le_iff_toInt_le, Int32.lt_iff_toInt_lt, ti_add, ti_sub, ti_mul, Int32.reduceToInt] at *; omega))))).symm | exact ((if_pos (by first | omega | (simp only [Int32.le_iff_toInt_le, Int32.lt_iff_toInt_lt, ti_add, ti_sub, ti_mul, Int32.reduceToInt] at *; omega))).trans ((if_neg (by first | omega | (simp only [Int32.le_iff_toInt_le, Int32.lt_iff_toInt_lt, ti_add, ti_sub, ti_mul, Int32.reduceToInt] at *; omega))).trans (if_neg (by first | omega | (simp only [Int32.le_iff_toInt_le, Int32.lt_iff_toInt_lt, ti_add, ti_sub, ti_mul, Int32.reduceToInt] at *; omega))))).symm))⟩
    · have c17 := hc6
      rw [w15] at c17
      have d17 : (σ0.1 239 x1.toNatClampNeg).toInt ≠ -1 := fun e => c17 (Int32.toInt_inj.mp e)
      refine ok_gR (v := 239) hT rfl (hR 218 35 rfl) ?_
      refine ok_aIn rfl (by first | omega | decide | (simp only [Int32.le_iff_toInt_le, Int32.lt_iff_toInt_lt, ti_add, ti_sub, ti_mul, Int32.reduceToInt] at *; omega)) (by first | omega | decide | (simp only [Int32.le_iff_toInt_le, Int32.lt_iff_toInt_lt, ti_add, ti_sub, ti_mul, Int32.reduceToInt] at *; omega)) (fun v8 ev8 => ?_)
      have qs31 : -1 ≤ v8.toInt ∧ v8.toInt ≤ 60 := by rw [ev8, hT.2 239 (by decide)]; exact hS _
      have w31 : v8 = σ0.1 239 x1.toNatClampNeg := by rw [ev8, hT.2 239 (by decide)]
      refine ok_zbX (Q := fun V => (V = 0 → ¬ ((0 : Int64).toInt ≤ (Int32.toInt64 x2).toInt ∧ (Int32.toInt64 x2).toInt ≤ (Int32.toInt64 (v8 - 1)).toInt)) ∧ (¬ V = 0 → (0 : Int64).toInt ≤ (Int32.toInt64 x2).toInt ∧ (Int32.toInt64 x2).toInt ≤ (Int32.toInt64 (v8 - 1)).toInt)) (xi_X12_in) (fun v9 hqv9 => ?_)
      simp only [i64_of, Int64.reduceToInt] at hqv9
      refine ok_if (fun hc11 => ?_) (fun hc11 => ?_)
      · have qhc11 := hqv9.1 hc11
        have r38 := qhc11
        rw [w31, ti_sub] at r38
        simp only [Int32.reduceToInt] at r38
        exact ok_some ⟨hT, (show (-7 : Int32) = wrV x1 x2 (σ0.1 239 x1.toNatClampNeg) from by (first | exact (if_neg (by first | omega | (simp only [Int32.le_iff_toInt_le, Int32.lt_iff_toInt_lt, ti_add, ti_sub, ti_mul, Int32.reduceToInt] at *; omega))).symm | exact ((if_pos (by first | omega | (simp only [Int32.le_iff_toInt_le, Int32.lt_iff_toInt_lt, ti_add, ti_sub, ti_mul, Int32.reduceToInt] at *; omega))).trans (if_pos (by first | omega | (simp only [Int32.le_iff_toInt_le, Int32.lt_iff_toInt_lt, ti_add, ti_sub, ti_mul, Int32.reduceToInt] at *; omega)))).symm | exact ((if_pos (by first | omega | (simp only [Int32.le_iff_toInt_le, Int32.lt_iff_toInt_lt, ti_add, ti_sub, ti_mul, Int32.reduceToInt] at *; omega))).trans ((if_neg (by first | omega | (simp only [Int32.le_iff_toInt_le, Int32.lt_iff_toInt_lt, ti_add, ti_sub, ti_mul, Int32.reduceToInt] at *; omega))).trans (if_pos (by first | omega | (simp only [Int32.le_iff_toInt_le, Int32.lt_iff_toInt_lt, ti_add, ti_sub, ti_mul, Int32.reduceToInt] at *; omega))))).symm | exact ((if_pos (by first | omega | (simp only [Int32.le_iff_toInt_le, Int32.lt_iff_toInt_lt, ti_add, ti_sub, ti_mul, Int32.reduceToInt] at *; omega))).trans ((if_neg (by first | omega | (simp only [Int32.le_iff_toInt_le, Int32.lt_iff_toInt_lt, ti_add, ti_sub, ti_mul, Int32.reduceToInt] at *; omega))).trans (if_neg (by first | omega | (simp only [Int32.le_iff_toInt_le, Int32.lt_iff_toInt_lt, ti_add, ti_sub, ti_mul, Int32.reduceToInt] at *; omega))))).symm))⟩
      · have qhc11 := hqv9.2 hc11
        have r38 := qhc11
        rw [w31, ti_sub] at r38
        simp only [Int32.reduceToInt] at r38
        have m9 := ix60 (x := x1) (y := x2) (by first | omega | (simp only [Int32.le_iff_toInt_le, Int32.lt_iff_toInt_lt, ti_add, ti_sub, ti_mul, Int32.reduceToInt] at *; omega)) (by first | omega | (simp only [Int32.le_iff_toInt_le, Int32.lt_iff_toInt_lt, ti_add, ti_sub, ti_mul, Int32.reduceToInt] at *; omega)) (by first | omega | (simp only [Int32.le_iff_toInt_le, Int32.lt_iff_toInt_lt, ti_add, ti_sub, ti_mul, Int32.reduceToInt] at *; omega)) (by first | omega | (simp only [Int32.le_iff_toInt_le, Int32.lt_iff_toInt_lt, ti_add, ti_sub, ti_mul, Int32.reduceToInt] at *; omega))
        refine ok_gR (v := 241) hT rfl (hR 218 37 rfl) ?_
        refine ok_gR (v := 240) hT rfl (hR 218 36 rfl) ?_
        refine ok_aIn rfl (by first | omega | decide | (simp only [Int32.le_iff_toInt_le, Int32.lt_iff_toInt_lt, ti_add, ti_sub, ti_mul, Int32.reduceToInt] at *; omega)) (by first | omega | decide | (simp only [Int32.le_iff_toInt_le, Int32.lt_iff_toInt_lt, ti_add, ti_sub, ti_mul, Int32.reduceToInt] at *; omega)) (fun v14 ev14 => ?_)
        refine ok_zbT (Q := fun V σ => True) hT (s_X12_cut hN (hR.tr hT) ) (fun _ h9 => absurd h9 List.not_mem_nil) (fun v15 σ16 hOσ16 hT hqv15 => ?_)
        refine ok_sJ hT rfl (by first | omega | decide | (simp only [Int32.le_iff_toInt_le, Int32.lt_iff_toInt_lt, ti_add, ti_sub, ti_mul, Int32.reduceToInt] at *; omega)) (by first | omega | decide | (simp only [Int32.le_iff_toInt_le, Int32.lt_iff_toInt_lt, ti_add, ti_sub, ti_mul, Int32.reduceToInt] at *; omega)) (fun σ17 eσ17 hOσ17 hT => ?_)
        exact ok_some ⟨hT, (show (0 : Int32) = wrV x1 x2 (σ0.1 239 x1.toNatClampNeg) from by (first | exact (if_neg (by first | omega | (simp only [Int32.le_iff_toInt_le, Int32.lt_iff_toInt_lt, ti_add, ti_sub, ti_mul, Int32.reduceToInt] at *; omega))).symm | exact ((if_pos (by first | omega | (simp only [Int32.le_iff_toInt_le, Int32.lt_iff_toInt_lt, ti_add, ti_sub, ti_mul, Int32.reduceToInt] at *; omega))).trans (if_pos (by first | omega | (simp only [Int32.le_iff_toInt_le, Int32.lt_iff_toInt_lt, ti_add, ti_sub, ti_mul, Int32.reduceToInt] at *; omega)))).symm | exact ((if_pos (by first | omega | (simp only [Int32.le_iff_toInt_le, Int32.lt_iff_toInt_lt, ti_add, ti_sub, ti_mul, Int32.reduceToInt] at *; omega))).trans ((if_neg (by first | omega | (simp only [Int32.le_iff_toInt_le, Int32.lt_iff_toInt_lt, ti_add, ti_sub, ti_mul, Int32.reduceToInt] at *; omega))).trans (if_pos (by first | omega | (simp only [Int32.le_iff_toInt_le, Int32.lt_iff_toInt_lt, ti_add, ti_sub, ti_mul, Int32.reduceToInt] at *; omega))))).symm | exact ((if_pos (by first | omega | (simp only [Int32.le_iff_toInt_le, Int32.lt_iff_toInt_lt, ti_add, ti_sub, ti_mul, Int32.reduceToInt] at *; omega))).trans ((if_neg (by first | omega | (simp only [Int32.le_iff_toInt_le, Int32.lt_iff_toInt_lt, ti_add, ti_sub, ti_mul, Int32.reduceToInt] at *; omega))).trans (if_neg (by first | omega | (simp only [Int32.le_iff_toInt_le, Int32.lt_iff_toInt_lt, ti_add, ti_sub, ti_mul, Int32.reduceToInt] at *; omega))))).symm))⟩

set_option maxHeartbeats 4000000 in
set_option maxRecDepth 100000 in
theorem s_X12_paste_v {N : Nat} (hN : 1048576 ≤ N) {x1 : Int32} {x2 : Int32} {x3 : Int32} {x4 : Int32} {x5 : Int32} {σ0 : zS}  (hR : RF σ0.2.2) (hS : MS (σ0.1 239)) : Ok (f_X12_paste N 218 x1 x2 x3 x4 x5 σ0) (fun r => Tr [] σ0 r.2 ∧ (r.1 = paV x1 x2 x3 x4 x5 (σ0.1 239 x1.toNatClampNeg) (σ0.1 239 x3.toNatClampNeg) (σ0.1 240 x1.toNatClampNeg) (σ0.1 240 x3.toNatClampNeg))) := by
  have hT : Tr [] σ0 σ0 := Tr.rf
  have m39 := hS x1.toNatClampNeg
  have m39b := hS x3.toNatClampNeg
  rw [f_X12_paste.eq_1]
  refine ok_zbX (Q := fun V => (V = 0 → ¬ (0 ≤ x1.toInt ∧ x1.toInt ≤ 3)) ∧ (¬ V = 0 → 0 ≤ x1.toInt ∧ x1.toInt ≤ 3)) (x_X12_isSlot) (fun v1 hqv1 => ?_)
  refine ok_if (fun hc3 => ?_) (fun hc3 => ?_)
  · have qhc3 := hqv1.1 hc3
    exact ok_some ⟨hT, (show (-2 : Int32) = paV x1 x2 x3 x4 x5 (σ0.1 239 x1.toNatClampNeg) (σ0.1 239 x3.toNatClampNeg) (σ0.1 240 x1.toNatClampNeg) (σ0.1 240 x3.toNatClampNeg) from by first | exact (if_neg (by first | omega | (simp only [Int32.le_iff_toInt_le, Int32.lt_iff_toInt_lt, ti_add, ti_sub, ti_mul, Int32.reduceToInt] at *; omega))).symm | (first | exact ((if_pos (by first | omega | (simp only [Int32.le_iff_toInt_le, Int32.lt_iff_toInt_lt, ti_add, ti_sub, ti_mul, Int32.reduceToInt] at *; omega))).trans (if_pos (by first | omega | (simp only [Int32.le_iff_toInt_le, Int32.lt_iff_toInt_lt, ti_add, ti_sub, ti_mul, Int32.reduceToInt] at *; omega)))).symm | exact ((if_pos (by first | omega | (simp only [Int32.le_iff_toInt_le, Int32.lt_iff_toInt_lt, ti_add, ti_sub, ti_mul, Int32.reduceToInt] at *; omega))).trans ((if_neg (by first | omega | (simp only [Int32.le_iff_toInt_le, Int32.lt_iff_toInt_lt, ti_add, ti_sub, ti_mul, Int32.reduceToInt] at *; omega))).trans (if_neg n64))).symm | exact ((if_pos (by first | omega | (simp only [Int32.le_iff_toInt_le, Int32.lt_iff_toInt_lt, ti_add, ti_sub, ti_mul, Int32.reduceToInt] at *; omega))).trans ((if_neg (by first | omega | (simp only [Int32.le_iff_toInt_le, Int32.lt_iff_toInt_lt, ti_add, ti_sub, ti_mul, Int32.reduceToInt] at *; omega))).trans ((if_pos n64).trans (if_neg (by first | omega | (simp only [Int32.le_iff_toInt_le, Int32.lt_iff_toInt_lt, ti_add, ti_sub, ti_mul, Int32.reduceToInt] at *; omega)))))).symm | exact ((if_pos (by first | omega | (simp only [Int32.le_iff_toInt_le, Int32.lt_iff_toInt_lt, ti_add, ti_sub, ti_mul, Int32.reduceToInt] at *; omega))).trans ((if_neg (by first | omega | (simp only [Int32.le_iff_toInt_le, Int32.lt_iff_toInt_lt, ti_add, ti_sub, ti_mul, Int32.reduceToInt] at *; omega))).trans ((if_pos n64).trans (if_pos (by first | omega | (simp only [Int32.le_iff_toInt_le, Int32.lt_iff_toInt_lt, ti_add, ti_sub, ti_mul, Int32.reduceToInt] at *; omega)))))).symm))⟩
  · have qhc3 := hqv1.2 hc3
    refine ok_zbX (Q := fun V => (V = 0 → ¬ (0 ≤ x3.toInt ∧ x3.toInt ≤ 3)) ∧ (¬ V = 0 → 0 ≤ x3.toInt ∧ x3.toInt ≤ 3)) (x_X12_isSlot) (fun v4 hqv4 => ?_)
    refine ok_if (fun hc6 => ?_) (fun hc6 => ?_)
    · have qhc6 := hqv4.1 hc6
      exact ok_some ⟨hT, (show (-2 : Int32) = paV x1 x2 x3 x4 x5 (σ0.1 239 x1.toNatClampNeg) (σ0.1 239 x3.toNatClampNeg) (σ0.1 240 x1.toNatClampNeg) (σ0.1 240 x3.toNatClampNeg) from by first | exact (if_neg (by first | omega | (simp only [Int32.le_iff_toInt_le, Int32.lt_iff_toInt_lt, ti_add, ti_sub, ti_mul, Int32.reduceToInt] at *; omega))).symm | (first | exact ((if_pos (by first | omega | (simp only [Int32.le_iff_toInt_le, Int32.lt_iff_toInt_lt, ti_add, ti_sub, ti_mul, Int32.reduceToInt] at *; omega))).trans (if_pos (by first | omega | (simp only [Int32.le_iff_toInt_le, Int32.lt_iff_toInt_lt, ti_add, ti_sub, ti_mul, Int32.reduceToInt] at *; omega)))).symm | exact ((if_pos (by first | omega | (simp only [Int32.le_iff_toInt_le, Int32.lt_iff_toInt_lt, ti_add, ti_sub, ti_mul, Int32.reduceToInt] at *; omega))).trans ((if_neg (by first | omega | (simp only [Int32.le_iff_toInt_le, Int32.lt_iff_toInt_lt, ti_add, ti_sub, ti_mul, Int32.reduceToInt] at *; omega))).trans (if_neg n64))).symm | exact ((if_pos (by first | omega | (simp only [Int32.le_iff_toInt_le, Int32.lt_iff_toInt_lt, ti_add, ti_sub, ti_mul, Int32.reduceToInt] at *; omega))).trans ((if_neg (by first | omega | (simp only [Int32.le_iff_toInt_le, Int32.lt_iff_toInt_lt, ti_add, ti_sub, ti_mul, Int32.reduceToInt] at *; omega))).trans ((if_pos n64).trans (if_neg (by first | omega | (simp only [Int32.le_iff_toInt_le, Int32.lt_iff_toInt_lt, ti_add, ti_sub, ti_mul, Int32.reduceToInt] at *; omega)))))).symm | exact ((if_pos (by first | omega | (simp only [Int32.le_iff_toInt_le, Int32.lt_iff_toInt_lt, ti_add, ti_sub, ti_mul, Int32.reduceToInt] at *; omega))).trans ((if_neg (by first | omega | (simp only [Int32.le_iff_toInt_le, Int32.lt_iff_toInt_lt, ti_add, ti_sub, ti_mul, Int32.reduceToInt] at *; omega))).trans ((if_pos n64).trans (if_pos (by first | omega | (simp only [Int32.le_iff_toInt_le, Int32.lt_iff_toInt_lt, ti_add, ti_sub, ti_mul, Int32.reduceToInt] at *; omega)))))).symm))⟩
    · have qhc6 := hqv4.2 hc6
      refine ok_gR (v := 239) hT rfl (hR 218 35 rfl) ?_
      refine ok_aIn rfl (by first | omega | decide | (simp only [Int32.le_iff_toInt_le, Int32.lt_iff_toInt_lt, ti_add, ti_sub, ti_mul, Int32.reduceToInt] at *; omega)) (by first | omega | decide | (simp only [Int32.le_iff_toInt_le, Int32.lt_iff_toInt_lt, ti_add, ti_sub, ti_mul, Int32.reduceToInt] at *; omega)) (fun v8 ev8 => ?_)
      have qs22 : -1 ≤ v8.toInt ∧ v8.toInt ≤ 60 := by rw [ev8, hT.2 239 (by decide)]; exact hS _
      have w22q : v8 = σ0.1 239 x1.toNatClampNeg := by rw [ev8, hT.2 239 (by decide)]
      refine ok_if (fun hc9 => ?_) (fun hc9 => ?_)
      · have c24 := hc9
        rw [w22q] at c24
        have d24 := congrArg Int32.toInt c24
        simp only [Int32.reduceToInt] at d24
        exact ok_some ⟨hT, (show (-6 : Int32) = paV x1 x2 x3 x4 x5 (σ0.1 239 x1.toNatClampNeg) (σ0.1 239 x3.toNatClampNeg) (σ0.1 240 x1.toNatClampNeg) (σ0.1 240 x3.toNatClampNeg) from by first | exact (if_neg (by first | omega | (simp only [Int32.le_iff_toInt_le, Int32.lt_iff_toInt_lt, ti_add, ti_sub, ti_mul, Int32.reduceToInt] at *; omega))).symm | (first | exact ((if_pos (by first | omega | (simp only [Int32.le_iff_toInt_le, Int32.lt_iff_toInt_lt, ti_add, ti_sub, ti_mul, Int32.reduceToInt] at *; omega))).trans (if_pos (by first | omega | (simp only [Int32.le_iff_toInt_le, Int32.lt_iff_toInt_lt, ti_add, ti_sub, ti_mul, Int32.reduceToInt] at *; omega)))).symm | exact ((if_pos (by first | omega | (simp only [Int32.le_iff_toInt_le, Int32.lt_iff_toInt_lt, ti_add, ti_sub, ti_mul, Int32.reduceToInt] at *; omega))).trans ((if_neg (by first | omega | (simp only [Int32.le_iff_toInt_le, Int32.lt_iff_toInt_lt, ti_add, ti_sub, ti_mul, Int32.reduceToInt] at *; omega))).trans (if_neg n64))).symm | exact ((if_pos (by first | omega | (simp only [Int32.le_iff_toInt_le, Int32.lt_iff_toInt_lt, ti_add, ti_sub, ti_mul, Int32.reduceToInt] at *; omega))).trans ((if_neg (by first | omega | (simp only [Int32.le_iff_toInt_le, Int32.lt_iff_toInt_lt, ti_add, ti_sub, ti_mul, Int32.reduceToInt] at *; omega))).trans ((if_pos n64).trans (if_neg (by first | omega | (simp only [Int32.le_iff_toInt_le, Int32.lt_iff_toInt_lt, ti_add, ti_sub, ti_mul, Int32.reduceToInt] at *; omega)))))).symm | exact ((if_pos (by first | omega | (simp only [Int32.le_iff_toInt_le, Int32.lt_iff_toInt_lt, ti_add, ti_sub, ti_mul, Int32.reduceToInt] at *; omega))).trans ((if_neg (by first | omega | (simp only [Int32.le_iff_toInt_le, Int32.lt_iff_toInt_lt, ti_add, ti_sub, ti_mul, Int32.reduceToInt] at *; omega))).trans ((if_pos n64).trans (if_pos (by first | omega | (simp only [Int32.le_iff_toInt_le, Int32.lt_iff_toInt_lt, ti_add, ti_sub, ti_mul, Int32.reduceToInt] at *; omega)))))).symm))⟩
      · have c24 := hc9
        rw [w22q] at c24
        have d24 : (σ0.1 239 x1.toNatClampNeg).toInt ≠ -1 := fun e => c24 (Int32.toInt_inj.mp e)
        refine ok_gR (v := 239) hT rfl (hR 218 35 rfl) ?_
        refine ok_aIn rfl (by first | omega | decide | (simp only [Int32.le_iff_toInt_le, Int32.lt_iff_toInt_lt, ti_add, ti_sub, ti_mul, Int32.reduceToInt] at *; omega)) (by first | omega | decide | (simp only [Int32.le_iff_toInt_le, Int32.lt_iff_toInt_lt, ti_add, ti_sub, ti_mul, Int32.reduceToInt] at *; omega)) (fun v11 ev11 => ?_)
        have qs32 : -1 ≤ v11.toInt ∧ v11.toInt ≤ 60 := by rw [ev11, hT.2 239 (by decide)]; exact hS _
        have w32q : v11 = σ0.1 239 x3.toNatClampNeg := by rw [ev11, hT.2 239 (by decide)]
        refine ok_if (fun hc12 => ?_) (fun hc12 => ?_)
        · have c34 := hc12
          rw [w32q] at c34
          have d34 := congrArg Int32.toInt c34
          simp only [Int32.reduceToInt] at d34
          exact ok_some ⟨hT, (show (-6 : Int32) = paV x1 x2 x3 x4 x5 (σ0.1 239 x1.toNatClampNeg) (σ0.1 239 x3.toNatClampNeg) (σ0.1 240 x1.toNatClampNeg) (σ0.1 240 x3.toNatClampNeg) from by first | exact (if_neg (by first | omega | (simp only [Int32.le_iff_toInt_le, Int32.lt_iff_toInt_lt, ti_add, ti_sub, ti_mul, Int32.reduceToInt] at *; omega))).symm | (first | exact ((if_pos (by first | omega | (simp only [Int32.le_iff_toInt_le, Int32.lt_iff_toInt_lt, ti_add, ti_sub, ti_mul, Int32.reduceToInt] at *; omega))).trans (if_pos (by first | omega | (simp only [Int32.le_iff_toInt_le, Int32.lt_iff_toInt_lt, ti_add, ti_sub, ti_mul, Int32.reduceToInt] at *; omega)))).symm | exact ((if_pos (by first | omega | (simp only [Int32.le_iff_toInt_le, Int32.lt_iff_toInt_lt, ti_add, ti_sub, ti_mul, Int32.reduceToInt] at *; omega))).trans ((if_neg (by first | omega | (simp only [Int32.le_iff_toInt_le, Int32.lt_iff_toInt_lt, ti_add, ti_sub, ti_mul, Int32.reduceToInt] at *; omega))).trans (if_neg n64))).symm | exact ((if_pos (by first | omega | (simp only [Int32.le_iff_toInt_le, Int32.lt_iff_toInt_lt, ti_add, ti_sub, ti_mul, Int32.reduceToInt] at *; omega))).trans ((if_neg (by first | omega | (simp only [Int32.le_iff_toInt_le, Int32.lt_iff_toInt_lt, ti_add, ti_sub, ti_mul, Int32.reduceToInt] at *; omega))).trans ((if_pos n64).trans (if_neg (by first | omega | (simp only [Int32.le_iff_toInt_le, Int32.lt_iff_toInt_lt, ti_add, ti_sub, ti_mul, Int32.reduceToInt] at *; omega)))))).symm | exact ((if_pos (by first | omega | (simp only [Int32.le_iff_toInt_le, Int32.lt_iff_toInt_lt, ti_add, ti_sub, ti_mul, Int32.reduceToInt] at *; omega))).trans ((if_neg (by first | omega | (simp only [Int32.le_iff_toInt_le, Int32.lt_iff_toInt_lt, ti_add, ti_sub, ti_mul, Int32.reduceToInt] at *; omega))).trans ((if_pos n64).trans (if_pos (by first | omega | (simp only [Int32.le_iff_toInt_le, Int32.lt_iff_toInt_lt, ti_add, ti_sub, ti_mul, Int32.reduceToInt] at *; omega)))))).symm))⟩
        · have c34 := hc12
          rw [w32q] at c34
          have d34 : (σ0.1 239 x3.toNatClampNeg).toInt ≠ -1 := fun e => c34 (Int32.toInt_inj.mp e)
          refine ok_gR (v := 240) hT rfl (hR 218 36 rfl) ?_
          refine ok_aIn rfl (by first | omega | decide | (simp only [Int32.le_iff_toInt_le, Int32.lt_iff_toInt_lt, ti_add, ti_sub, ti_mul, Int32.reduceToInt] at *; omega)) (by first | omega | decide | (simp only [Int32.le_iff_toInt_le, Int32.lt_iff_toInt_lt, ti_add, ti_sub, ti_mul, Int32.reduceToInt] at *; omega)) (fun v14 ev14 => ?_)
          have w45q : v14 = σ0.1 240 x1.toNatClampNeg := by rw [ev14, hT.2 240 (by decide)]
          refine ok_gR (v := 240) hT rfl (hR 218 36 rfl) ?_
          refine ok_aIn rfl (by first | omega | decide | (simp only [Int32.le_iff_toInt_le, Int32.lt_iff_toInt_lt, ti_add, ti_sub, ti_mul, Int32.reduceToInt] at *; omega)) (by first | omega | decide | (simp only [Int32.le_iff_toInt_le, Int32.lt_iff_toInt_lt, ti_add, ti_sub, ti_mul, Int32.reduceToInt] at *; omega)) (fun v16 ev16 => ?_)
          have w51q : v16 = σ0.1 240 x3.toNatClampNeg := by rw [ev16, hT.2 240 (by decide)]
          refine ok_if (fun hc17 => ?_) (fun hc17 => ?_)
          · have n64 := hc17
            rw [w45q, w51q] at n64
            refine ok_if (fun hc18 => ?_) (fun hc18 => ?_)
            · exact ok_some ⟨hT, (show (-7 : Int32) = paV x1 x2 x3 x4 x5 (σ0.1 239 x1.toNatClampNeg) (σ0.1 239 x3.toNatClampNeg) (σ0.1 240 x1.toNatClampNeg) (σ0.1 240 x3.toNatClampNeg) from by first | exact (if_neg (by first | omega | (simp only [Int32.le_iff_toInt_le, Int32.lt_iff_toInt_lt, ti_add, ti_sub, ti_mul, Int32.reduceToInt] at *; omega))).symm | (first | exact ((if_pos (by first | omega | (simp only [Int32.le_iff_toInt_le, Int32.lt_iff_toInt_lt, ti_add, ti_sub, ti_mul, Int32.reduceToInt] at *; omega))).trans (if_pos (by first | omega | (simp only [Int32.le_iff_toInt_le, Int32.lt_iff_toInt_lt, ti_add, ti_sub, ti_mul, Int32.reduceToInt] at *; omega)))).symm | exact ((if_pos (by first | omega | (simp only [Int32.le_iff_toInt_le, Int32.lt_iff_toInt_lt, ti_add, ti_sub, ti_mul, Int32.reduceToInt] at *; omega))).trans ((if_neg (by first | omega | (simp only [Int32.le_iff_toInt_le, Int32.lt_iff_toInt_lt, ti_add, ti_sub, ti_mul, Int32.reduceToInt] at *; omega))).trans (if_neg n64))).symm | exact ((if_pos (by first | omega | (simp only [Int32.le_iff_toInt_le, Int32.lt_iff_toInt_lt, ti_add, ti_sub, ti_mul, Int32.reduceToInt] at *; omega))).trans ((if_neg (by first | omega | (simp only [Int32.le_iff_toInt_le, Int32.lt_iff_toInt_lt, ti_add, ti_sub, ti_mul, Int32.reduceToInt] at *; omega))).trans ((if_pos n64).trans (if_neg (by first | omega | (simp only [Int32.le_iff_toInt_le, Int32.lt_iff_toInt_lt, ti_add, ti_sub, ti_mul, Int32.reduceToInt] at *; omega)))))).symm | exact ((if_pos (by first | omega | (simp only [Int32.le_iff_toInt_le, Int32.lt_iff_toInt_lt, ti_add, ti_sub, ti_mul, Int32.reduceToInt] at *; omega))).trans ((if_neg (by first | omega | (simp only [Int32.le_iff_toInt_le, Int32.lt_iff_toInt_lt, ti_add, ti_sub, ti_mul, Int32.reduceToInt] at *; omega))).trans ((if_pos n64).trans (if_pos (by first | omega | (simp only [Int32.le_iff_toInt_le, Int32.lt_iff_toInt_lt, ti_add, ti_sub, ti_mul, Int32.reduceToInt] at *; omega)))))).symm))⟩
            · refine ok_if (fun hc19 => ?_) (fun hc19 => ?_)
              · exact ok_some ⟨hT, (show (-7 : Int32) = paV x1 x2 x3 x4 x5 (σ0.1 239 x1.toNatClampNeg) (σ0.1 239 x3.toNatClampNeg) (σ0.1 240 x1.toNatClampNeg) (σ0.1 240 x3.toNatClampNeg) from by first | exact (if_neg (by first | omega | (simp only [Int32.le_iff_toInt_le, Int32.lt_iff_toInt_lt, ti_add, ti_sub, ti_mul, Int32.reduceToInt] at *; omega))).symm | (first | exact ((if_pos (by first | omega | (simp only [Int32.le_iff_toInt_le, Int32.lt_iff_toInt_lt, ti_add, ti_sub, ti_mul, Int32.reduceToInt] at *; omega))).trans (if_pos (by first | omega | (simp only [Int32.le_iff_toInt_le, Int32.lt_iff_toInt_lt, ti_add, ti_sub, ti_mul, Int32.reduceToInt] at *; omega)))).symm | exact ((if_pos (by first | omega | (simp only [Int32.le_iff_toInt_le, Int32.lt_iff_toInt_lt, ti_add, ti_sub, ti_mul, Int32.reduceToInt] at *; omega))).trans ((if_neg (by first | omega | (simp only [Int32.le_iff_toInt_le, Int32.lt_iff_toInt_lt, ti_add, ti_sub, ti_mul, Int32.reduceToInt] at *; omega))).trans (if_neg n64))).symm | exact ((if_pos (by first | omega | (simp only [Int32.le_iff_toInt_le, Int32.lt_iff_toInt_lt, ti_add, ti_sub, ti_mul, Int32.reduceToInt] at *; omega))).trans ((if_neg (by first | omega | (simp only [Int32.le_iff_toInt_le, Int32.lt_iff_toInt_lt, ti_add, ti_sub, ti_mul, Int32.reduceToInt] at *; omega))).trans ((if_pos n64).trans (if_neg (by first | omega | (simp only [Int32.le_iff_toInt_le, Int32.lt_iff_toInt_lt, ti_add, ti_sub, ti_mul, Int32.reduceToInt] at *; omega)))))).symm | exact ((if_pos (by first | omega | (simp only [Int32.le_iff_toInt_le, Int32.lt_iff_toInt_lt, ti_add, ti_sub, ti_mul, Int32.reduceToInt] at *; omega))).trans ((if_neg (by first | omega | (simp only [Int32.le_iff_toInt_le, Int32.lt_iff_toInt_lt, ti_add, ti_sub, ti_mul, Int32.reduceToInt] at *; omega))).trans ((if_pos n64).trans (if_pos (by first | omega | (simp only [Int32.le_iff_toInt_le, Int32.lt_iff_toInt_lt, ti_add, ti_sub, ti_mul, Int32.reduceToInt] at *; omega)))))).symm))⟩
              · refine ok_if (fun hc20 => ?_) (fun hc20 => ?_)
                · exact ok_some ⟨hT, (show (-7 : Int32) = paV x1 x2 x3 x4 x5 (σ0.1 239 x1.toNatClampNeg) (σ0.1 239 x3.toNatClampNeg) (σ0.1 240 x1.toNatClampNeg) (σ0.1 240 x3.toNatClampNeg) from by first | exact (if_neg (by first | omega | (simp only [Int32.le_iff_toInt_le, Int32.lt_iff_toInt_lt, ti_add, ti_sub, ti_mul, Int32.reduceToInt] at *; omega))).symm | (first | exact ((if_pos (by first | omega | (simp only [Int32.le_iff_toInt_le, Int32.lt_iff_toInt_lt, ti_add, ti_sub, ti_mul, Int32.reduceToInt] at *; omega))).trans (if_pos (by first | omega | (simp only [Int32.le_iff_toInt_le, Int32.lt_iff_toInt_lt, ti_add, ti_sub, ti_mul, Int32.reduceToInt] at *; omega)))).symm | exact ((if_pos (by first | omega | (simp only [Int32.le_iff_toInt_le, Int32.lt_iff_toInt_lt, ti_add, ti_sub, ti_mul, Int32.reduceToInt] at *; omega))).trans ((if_neg (by first | omega | (simp only [Int32.le_iff_toInt_le, Int32.lt_iff_toInt_lt, ti_add, ti_sub, ti_mul, Int32.reduceToInt] at *; omega))).trans (if_neg n64))).symm | exact ((if_pos (by first | omega | (simp only [Int32.le_iff_toInt_le, Int32.lt_iff_toInt_lt, ti_add, ti_sub, ti_mul, Int32.reduceToInt] at *; omega))).trans ((if_neg (by first | omega | (simp only [Int32.le_iff_toInt_le, Int32.lt_iff_toInt_lt, ti_add, ti_sub, ti_mul, Int32.reduceToInt] at *; omega))).trans ((if_pos n64).trans (if_neg (by first | omega | (simp only [Int32.le_iff_toInt_le, Int32.lt_iff_toInt_lt, ti_add, ti_sub, ti_mul, Int32.reduceToInt] at *; omega)))))).symm | exact ((if_pos (by first | omega | (simp only [Int32.le_iff_toInt_le, Int32.lt_iff_toInt_lt, ti_add, ti_sub, ti_mul, Int32.reduceToInt] at *; omega))).trans ((if_neg (by first | omega | (simp only [Int32.le_iff_toInt_le, Int32.lt_iff_toInt_lt, ti_add, ti_sub, ti_mul, Int32.reduceToInt] at *; omega))).trans ((if_pos n64).trans (if_pos (by first | omega | (simp only [Int32.le_iff_toInt_le, Int32.lt_iff_toInt_lt, ti_add, ti_sub, ti_mul, Int32.reduceToInt] at *; omega)))))).symm))⟩
                · refine ok_gR (v := 239) hT rfl (hR 218 35 rfl) ?_
                  refine ok_aIn rfl (by first | omega | decide | (simp only [Int32.le_iff_toInt_le, Int32.lt_iff_toInt_lt, ti_add, ti_sub, ti_mul, Int32.reduceToInt] at *; omega)) (by first | omega | decide | (simp only [Int32.le_iff_toInt_le, Int32.lt_iff_toInt_lt, ti_add, ti_sub, ti_mul, Int32.reduceToInt] at *; omega)) (fun v22 ev22 => ?_)
                  have qs83 : -1 ≤ v22.toInt ∧ v22.toInt ≤ 60 := by rw [ev22, hT.2 239 (by decide)]; exact hS _
                  have w83q : v22 = σ0.1 239 x1.toNatClampNeg := by rw [ev22, hT.2 239 (by decide)]
                  refine ok_if (fun hc23 => ?_) (fun hc23 => ?_)
                  · have s1 := spans_no (by first | omega | (simp only [Int32.le_iff_toInt_le, Int32.lt_iff_toInt_lt, ti_add, ti_sub, ti_mul, Int32.reduceToInt] at *; omega)) (by first | omega | (simp only [Int32.le_iff_toInt_le, Int32.lt_iff_toInt_lt, ti_add, ti_sub, ti_mul, Int32.reduceToInt] at *; omega)) hc23
                    rw [w83q] at s1
                    exact ok_some ⟨hT, (show (-7 : Int32) = paV x1 x2 x3 x4 x5 (σ0.1 239 x1.toNatClampNeg) (σ0.1 239 x3.toNatClampNeg) (σ0.1 240 x1.toNatClampNeg) (σ0.1 240 x3.toNatClampNeg) from by first | exact (if_neg (by first | omega | (simp only [Int32.le_iff_toInt_le, Int32.lt_iff_toInt_lt, ti_add, ti_sub, ti_mul, Int32.reduceToInt] at *; omega))).symm | (first | exact ((if_pos (by first | omega | (simp only [Int32.le_iff_toInt_le, Int32.lt_iff_toInt_lt, ti_add, ti_sub, ti_mul, Int32.reduceToInt] at *; omega))).trans (if_pos (by first | omega | (simp only [Int32.le_iff_toInt_le, Int32.lt_iff_toInt_lt, ti_add, ti_sub, ti_mul, Int32.reduceToInt] at *; omega)))).symm | exact ((if_pos (by first | omega | (simp only [Int32.le_iff_toInt_le, Int32.lt_iff_toInt_lt, ti_add, ti_sub, ti_mul, Int32.reduceToInt] at *; omega))).trans ((if_neg (by first | omega | (simp only [Int32.le_iff_toInt_le, Int32.lt_iff_toInt_lt, ti_add, ti_sub, ti_mul, Int32.reduceToInt] at *; omega))).trans (if_neg n64))).symm | exact ((if_pos (by first | omega | (simp only [Int32.le_iff_toInt_le, Int32.lt_iff_toInt_lt, ti_add, ti_sub, ti_mul, Int32.reduceToInt] at *; omega))).trans ((if_neg (by first | omega | (simp only [Int32.le_iff_toInt_le, Int32.lt_iff_toInt_lt, ti_add, ti_sub, ti_mul, Int32.reduceToInt] at *; omega))).trans ((if_pos n64).trans (if_neg (by first | omega | (simp only [Int32.le_iff_toInt_le, Int32.lt_iff_toInt_lt, ti_add, ti_sub, ti_mul, Int32.reduceToInt] at *; omega)))))).symm | exact ((if_pos (by first | omega | (simp only [Int32.le_iff_toInt_le, Int32.lt_iff_toInt_lt, ti_add, ti_sub, ti_mul, Int32.reduceToInt] at *; omega))).trans ((if_neg (by first | omega | (simp only [Int32.le_iff_toInt_le, Int32.lt_iff_toInt_lt, ti_add, ti_sub, ti_mul, Int32.reduceToInt] at *; omega))).trans ((if_pos n64).trans (if_pos (by first | omega | (simp only [Int32.le_iff_toInt_le, Int32.lt_iff_toInt_lt, ti_add, ti_sub, ti_mul, Int32.reduceToInt] at *; omega)))))).symm))⟩
                  · have s1 := spans_ok (by first | omega | (simp only [Int32.le_iff_toInt_le, Int32.lt_iff_toInt_lt, ti_add, ti_sub, ti_mul, Int32.reduceToInt] at *; omega)) (by first | omega | (simp only [Int32.le_iff_toInt_le, Int32.lt_iff_toInt_lt, ti_add, ti_sub, ti_mul, Int32.reduceToInt] at *; omega)) hc23
                    have s1 := s1
                    rw [w83q] at s1
                    refine ok_gR (v := 239) hT rfl (hR 218 35 rfl) ?_
                    refine ok_aIn rfl (by first | omega | decide | (simp only [Int32.le_iff_toInt_le, Int32.lt_iff_toInt_lt, ti_add, ti_sub, ti_mul, Int32.reduceToInt] at *; omega)) (by first | omega | decide | (simp only [Int32.le_iff_toInt_le, Int32.lt_iff_toInt_lt, ti_add, ti_sub, ti_mul, Int32.reduceToInt] at *; omega)) (fun v25 ev25 => ?_)
                    have qs101 : -1 ≤ v25.toInt ∧ v25.toInt ≤ 60 := by rw [ev25, hT.2 239 (by decide)]; exact hS _
                    have w101q : v25 = σ0.1 239 x3.toNatClampNeg := by rw [ev25, hT.2 239 (by decide)]
                    refine ok_if (fun hc26 => ?_) (fun hc26 => ?_)
                    · have s2 := spans_ok (by first | omega | (simp only [Int32.le_iff_toInt_le, Int32.lt_iff_toInt_lt, ti_add, ti_sub, ti_mul, Int32.reduceToInt] at *; omega)) (by first | omega | (simp only [Int32.le_iff_toInt_le, Int32.lt_iff_toInt_lt, ti_add, ti_sub, ti_mul, Int32.reduceToInt] at *; omega)) (cmp_le hc26)
                      have s2 := s2
                      rw [w101q] at s2
                      refine ok_lp (fun t : Int32 × zS => Tr [] σ0 (t.2) ∧ (0 ≤ (t.1).toInt)) (fun t : Int32 × zS => (60 - (t.1).toInt).toNat) (fun again27 t hI ih113_27 => ?_) N _ (show Tr [] σ0 σ0 ∧ (0 ≤ (0 : Int32).toInt) from ⟨hT, (by first | omega | decide | (simp only [Int32.le_iff_toInt_le, Int32.lt_iff_toInt_lt, ti_add, ti_sub, ti_mul, Int32.reduceToInt] at *; omega))⟩) (show (60 - (0 : Int32).toInt).toNat < N from (by first | omega | decide | (simp only [Int32.le_iff_toInt_le, Int32.lt_iff_toInt_lt, ti_add, ti_sub, ti_mul, Int32.reduceToInt] at *; omega)))
                      obtain ⟨x6_27, σ27⟩ := t
                      have hI : Tr [] σ0 σ27 ∧ (0 ≤ x6_27.toInt) := hI
                      obtain ⟨hT, hI27⟩ := hI
                      rw [F_X12_paste_113.eq_1]
                      refine ok_if (fun hc28 => ?_) (fun hc28 => ?_)
                      · refine ok_lp (fun t : Int32 × zS => Tr [] σ0 (t.2) ∧ (0 ≤ (t.1).toInt)) (fun t : Int32 × zS => (60 - (t.1).toInt).toNat) (fun again29 t hI ih150_29 => ?_) N _ (show Tr [] σ0 σ27 ∧ (0 ≤ (0 : Int32).toInt) from ⟨hT, (by first | omega | decide | (simp only [Int32.le_iff_toInt_le, Int32.lt_iff_toInt_lt, ti_add, ti_sub, ti_mul, Int32.reduceToInt] at *; omega))⟩) (show (60 - (0 : Int32).toInt).toNat < N from (by first | omega | decide | (simp only [Int32.le_iff_toInt_le, Int32.lt_iff_toInt_lt, ti_add, ti_sub, ti_mul, Int32.reduceToInt] at *; omega)))
                        obtain ⟨x6_29, σ29⟩ := t
                        have hI : Tr [] σ0 σ29 ∧ (0 ≤ x6_29.toInt) := hI
                        obtain ⟨hT, hI29⟩ := hI
                        rw [F_X12_paste_150.eq_1]
                        refine ok_if (fun hc30 => ?_) (fun hc30 => ?_)
                        · exact ok_some ⟨hT, (show (0 : Int32) = paV x1 x2 x3 x4 x5 (σ0.1 239 x1.toNatClampNeg) (σ0.1 239 x3.toNatClampNeg) (σ0.1 240 x1.toNatClampNeg) (σ0.1 240 x3.toNatClampNeg) from by first | exact (if_neg (by first | omega | (simp only [Int32.le_iff_toInt_le, Int32.lt_iff_toInt_lt, ti_add, ti_sub, ti_mul, Int32.reduceToInt] at *; omega))).symm | (first | exact ((if_pos (by first | omega | (simp only [Int32.le_iff_toInt_le, Int32.lt_iff_toInt_lt, ti_add, ti_sub, ti_mul, Int32.reduceToInt] at *; omega))).trans (if_pos (by first | omega | (simp only [Int32.le_iff_toInt_le, Int32.lt_iff_toInt_lt, ti_add, ti_sub, ti_mul, Int32.reduceToInt] at *; omega)))).symm | exact ((if_pos (by first | omega | (simp only [Int32.le_iff_toInt_le, Int32.lt_iff_toInt_lt, ti_add, ti_sub, ti_mul, Int32.reduceToInt] at *; omega))).trans ((if_neg (by first | omega | (simp only [Int32.le_iff_toInt_le, Int32.lt_iff_toInt_lt, ti_add, ti_sub, ti_mul, Int32.reduceToInt] at *; omega))).trans (if_neg n64))).symm | exact ((if_pos (by first | omega | (simp only [Int32.le_iff_toInt_le, Int32.lt_iff_toInt_lt, ti_add, ti_sub, ti_mul, Int32.reduceToInt] at *; omega))).trans ((if_neg (by first | omega | (simp only [Int32.le_iff_toInt_le, Int32.lt_iff_toInt_lt, ti_add, ti_sub, ti_mul, Int32.reduceToInt] at *; omega))).trans ((if_pos n64).trans (if_neg (by first | omega | (simp only [Int32.le_iff_toInt_le, Int32.lt_iff_toInt_lt, ti_add, ti_sub, ti_mul, Int32.reduceToInt] at *; omega)))))).symm | exact ((if_pos (by first | omega | (simp only [Int32.le_iff_toInt_le, Int32.lt_iff_toInt_lt, ti_add, ti_sub, ti_mul, Int32.reduceToInt] at *; omega))).trans ((if_neg (by first | omega | (simp only [Int32.le_iff_toInt_le, Int32.lt_iff_toInt_lt, ti_add, ti_sub, ti_mul, Int32.reduceToInt] at *; omega))).trans ((if_pos n64).trans (if_pos (by first | omega | (simp only [Int32.le_iff_toInt_le, Int32.lt_iff_toInt_lt, ti_add, ti_sub, ti_mul, Int32.reduceToInt] at *; omega)))))).symm))⟩
                        · have m9 := ix60b (x := x3) (y := x4) (z := x6_29) (by first | omega | (simp only [Int32.le_iff_toInt_le, Int32.lt_iff_toInt_lt, ti_add, ti_sub, ti_mul, Int32.reduceToInt] at *; omega)) (by first | omega | (simp only [Int32.le_iff_toInt_le, Int32.lt_iff_toInt_lt, ti_add, ti_sub, ti_mul, Int32.reduceToInt] at *; omega)) (by first | omega | (simp only [Int32.le_iff_toInt_le, Int32.lt_iff_toInt_lt, ti_add, ti_sub, ti_mul, Int32.reduceToInt] at *; omega)) (by first | omega | (simp only [Int32.le_iff_toInt_le, Int32.lt_iff_toInt_lt, ti_add, ti_sub, ti_mul, Int32.reduceToInt] at *; omega)) (by first | omega | (simp only [Int32.le_iff_toInt_le, Int32.lt_iff_toInt_lt, ti_add, ti_sub, ti_mul, Int32.reduceToInt] at *; omega))
                          refine ok_gR (v := 241) hT rfl (hR 218 37 rfl) ?_
                          refine ok_gR (v := 242) hT rfl (hR 218 38 rfl) ?_
                          refine ok_aJ rfl (by first | omega | decide | (simp only [Int32.le_iff_toInt_le, Int32.lt_iff_toInt_lt, ti_add, ti_sub, ti_mul, Int32.reduceToInt] at *; omega)) (by first | omega | decide | (simp only [Int32.le_iff_toInt_le, Int32.lt_iff_toInt_lt, ti_add, ti_sub, ti_mul, Int32.reduceToInt] at *; omega)) ?_
                          generalize σ29.2.1 (242) (Int32.toNatClampNeg (x6_29)) = v33
                          refine ok_sJ hT rfl (by first | omega | decide | (simp only [Int32.le_iff_toInt_le, Int32.lt_iff_toInt_lt, ti_add, ti_sub, ti_mul, Int32.reduceToInt] at *; omega)) (by first | omega | decide | (simp only [Int32.le_iff_toInt_le, Int32.lt_iff_toInt_lt, ti_add, ti_sub, ti_mul, Int32.reduceToInt] at *; omega)) (fun σ34 eσ34 hOσ34 hT => ?_)
                          exact ih150_29 (x6_29 + 1, σ34) (show Tr [] σ0 σ34 ∧ (0 ≤ (x6_29 + 1).toInt) from ⟨hT, (by first | omega | decide | (simp only [Int32.le_iff_toInt_le, Int32.lt_iff_toInt_lt, ti_add, ti_sub, ti_mul, Int32.reduceToInt] at *; omega))⟩) (show (60 - (x6_29 + 1).toInt).toNat < (60 - x6_29.toInt).toNat from (by first | omega | decide | (simp only [Int32.le_iff_toInt_le, Int32.lt_iff_toInt_lt, ti_add, ti_sub, ti_mul, Int32.reduceToInt] at *; omega)))
                      · have m9 := ix60b (x := x1) (y := x2) (z := x6_27) (by first | omega | (simp only [Int32.le_iff_toInt_le, Int32.lt_iff_toInt_lt, ti_add, ti_sub, ti_mul, Int32.reduceToInt] at *; omega)) (by first | omega | (simp only [Int32.le_iff_toInt_le, Int32.lt_iff_toInt_lt, ti_add, ti_sub, ti_mul, Int32.reduceToInt] at *; omega)) (by first | omega | (simp only [Int32.le_iff_toInt_le, Int32.lt_iff_toInt_lt, ti_add, ti_sub, ti_mul, Int32.reduceToInt] at *; omega)) (by first | omega | (simp only [Int32.le_iff_toInt_le, Int32.lt_iff_toInt_lt, ti_add, ti_sub, ti_mul, Int32.reduceToInt] at *; omega)) (by first | omega | (simp only [Int32.le_iff_toInt_le, Int32.lt_iff_toInt_lt, ti_add, ti_sub, ti_mul, Int32.reduceToInt] at *; omega))
                        refine ok_gR (v := 242) hT rfl (hR 218 38 rfl) ?_
                        refine ok_gR (v := 241) hT rfl (hR 218 37 rfl) ?_
                        refine ok_aJ rfl (by first | omega | decide | (simp only [Int32.le_iff_toInt_le, Int32.lt_iff_toInt_lt, ti_add, ti_sub, ti_mul, Int32.reduceToInt] at *; omega)) (by first | omega | decide | (simp only [Int32.le_iff_toInt_le, Int32.lt_iff_toInt_lt, ti_add, ti_sub, ti_mul, Int32.reduceToInt] at *; omega)) ?_
                        generalize σ27.2.1 (241) (Int32.toNatClampNeg (((60 * x1) + x2) + x6_27)) = v37
                        refine ok_sJ hT rfl (by first | omega | decide | (simp only [Int32.le_iff_toInt_le, Int32.lt_iff_toInt_lt, ti_add, ti_sub, ti_mul, Int32.reduceToInt] at *; omega)) (by first | omega | decide | (simp only [Int32.le_iff_toInt_le, Int32.lt_iff_toInt_lt, ti_add, ti_sub, ti_mul, Int32.reduceToInt] at *; omega)) (fun σ38 eσ38 hOσ38 hT => ?_)
                        exact ih113_27 (x6_27 + 1, σ38) (show Tr [] σ0 σ38 ∧ (0 ≤ (x6_27 + 1).toInt) from ⟨hT, (by first | omega | decide | (simp only [Int32.le_iff_toInt_le, Int32.lt_iff_toInt_lt, ti_add, ti_sub, ti_mul, Int32.reduceToInt] at *; omega))⟩) (show (60 - (x6_27 + 1).toInt).toNat < (60 - x6_27.toInt).toNat from (by first | omega | decide | (simp only [Int32.le_iff_toInt_le, Int32.lt_iff_toInt_lt, ti_add, ti_sub, ti_mul, Int32.reduceToInt] at *; omega)))
                    · have s2 := spans_no (by first | omega | (simp only [Int32.le_iff_toInt_le, Int32.lt_iff_toInt_lt, ti_add, ti_sub, ti_mul, Int32.reduceToInt] at *; omega)) (by first | omega | (simp only [Int32.le_iff_toInt_le, Int32.lt_iff_toInt_lt, ti_add, ti_sub, ti_mul, Int32.reduceToInt] at *; omega)) (Int32.not_le.mp hc26)
                      rw [w101q] at s2
                      exact ok_some ⟨hT, (show (-7 : Int32) = paV x1 x2 x3 x4 x5 (σ0.1 239 x1.toNatClampNeg) (σ0.1 239 x3.toNatClampNeg) (σ0.1 240 x1.toNatClampNeg) (σ0.1 240 x3.toNatClampNeg) from by first | exact (if_neg (by first | omega | (simp only [Int32.le_iff_toInt_le, Int32.lt_iff_toInt_lt, ti_add, ti_sub, ti_mul, Int32.reduceToInt] at *; omega))).symm | (first | exact ((if_pos (by first | omega | (simp only [Int32.le_iff_toInt_le, Int32.lt_iff_toInt_lt, ti_add, ti_sub, ti_mul, Int32.reduceToInt] at *; omega))).trans (if_pos (by first | omega | (simp only [Int32.le_iff_toInt_le, Int32.lt_iff_toInt_lt, ti_add, ti_sub, ti_mul, Int32.reduceToInt] at *; omega)))).symm | exact ((if_pos (by first | omega | (simp only [Int32.le_iff_toInt_le, Int32.lt_iff_toInt_lt, ti_add, ti_sub, ti_mul, Int32.reduceToInt] at *; omega))).trans ((if_neg (by first | omega | (simp only [Int32.le_iff_toInt_le, Int32.lt_iff_toInt_lt, ti_add, ti_sub, ti_mul, Int32.reduceToInt] at *; omega))).trans (if_neg n64))).symm | exact ((if_pos (by first | omega | (simp only [Int32.le_iff_toInt_le, Int32.lt_iff_toInt_lt, ti_add, ti_sub, ti_mul, Int32.reduceToInt] at *; omega))).trans ((if_neg (by first | omega | (simp only [Int32.le_iff_toInt_le, Int32.lt_iff_toInt_lt, ti_add, ti_sub, ti_mul, Int32.reduceToInt] at *; omega))).trans ((if_pos n64).trans (if_neg (by first | omega | (simp only [Int32.le_iff_toInt_le, Int32.lt_iff_toInt_lt, ti_add, ti_sub, ti_mul, Int32.reduceToInt] at *; omega)))))).symm | exact ((if_pos (by first | omega | (simp only [Int32.le_iff_toInt_le, Int32.lt_iff_toInt_lt, ti_add, ti_sub, ti_mul, Int32.reduceToInt] at *; omega))).trans ((if_neg (by first | omega | (simp only [Int32.le_iff_toInt_le, Int32.lt_iff_toInt_lt, ti_add, ti_sub, ti_mul, Int32.reduceToInt] at *; omega))).trans ((if_pos n64).trans (if_pos (by first | omega | (simp only [Int32.le_iff_toInt_le, Int32.lt_iff_toInt_lt, ti_add, ti_sub, ti_mul, Int32.reduceToInt] at *; omega)))))).symm))⟩
          · have n64 := hc17
            rw [w45q, w51q] at n64
            exact ok_some ⟨hT, (show (-8 : Int32) = paV x1 x2 x3 x4 x5 (σ0.1 239 x1.toNatClampNeg) (σ0.1 239 x3.toNatClampNeg) (σ0.1 240 x1.toNatClampNeg) (σ0.1 240 x3.toNatClampNeg) from by first | exact (if_neg (by first | omega | (simp only [Int32.le_iff_toInt_le, Int32.lt_iff_toInt_lt, ti_add, ti_sub, ti_mul, Int32.reduceToInt] at *; omega))).symm | (first | exact ((if_pos (by first | omega | (simp only [Int32.le_iff_toInt_le, Int32.lt_iff_toInt_lt, ti_add, ti_sub, ti_mul, Int32.reduceToInt] at *; omega))).trans (if_pos (by first | omega | (simp only [Int32.le_iff_toInt_le, Int32.lt_iff_toInt_lt, ti_add, ti_sub, ti_mul, Int32.reduceToInt] at *; omega)))).symm | exact ((if_pos (by first | omega | (simp only [Int32.le_iff_toInt_le, Int32.lt_iff_toInt_lt, ti_add, ti_sub, ti_mul, Int32.reduceToInt] at *; omega))).trans ((if_neg (by first | omega | (simp only [Int32.le_iff_toInt_le, Int32.lt_iff_toInt_lt, ti_add, ti_sub, ti_mul, Int32.reduceToInt] at *; omega))).trans (if_neg n64))).symm | exact ((if_pos (by first | omega | (simp only [Int32.le_iff_toInt_le, Int32.lt_iff_toInt_lt, ti_add, ti_sub, ti_mul, Int32.reduceToInt] at *; omega))).trans ((if_neg (by first | omega | (simp only [Int32.le_iff_toInt_le, Int32.lt_iff_toInt_lt, ti_add, ti_sub, ti_mul, Int32.reduceToInt] at *; omega))).trans ((if_pos n64).trans (if_neg (by first | omega | (simp only [Int32.le_iff_toInt_le, Int32.lt_iff_toInt_lt, ti_add, ti_sub, ti_mul, Int32.reduceToInt] at *; omega)))))).symm | exact ((if_pos (by first | omega | (simp only [Int32.le_iff_toInt_le, Int32.lt_iff_toInt_lt, ti_add, ti_sub, ti_mul, Int32.reduceToInt] at *; omega))).trans ((if_neg (by first | omega | (simp only [Int32.le_iff_toInt_le, Int32.lt_iff_toInt_lt, ti_add, ti_sub, ti_mul, Int32.reduceToInt] at *; omega))).trans ((if_pos n64).trans (if_pos (by first | omega | (simp only [Int32.le_iff_toInt_le, Int32.lt_iff_toInt_lt, ti_add, ti_sub, ti_mul, Int32.reduceToInt] at *; omega)))))).symm))⟩

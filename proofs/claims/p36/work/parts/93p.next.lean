/-! ===== the next order (best) ===== -/
/-- at i the order rises for the last time, k is the last above it -/
def NXi (n : Nat) (o : Nat → Nat) (i k : Nat) : Prop := (i + 1 < n ∧ o i < o (i + 1)) ∧ (∀ j, i < j → j + 1 < n → o (j + 1) < o j) ∧ (i < k ∧ k < n ∧ o i < o k) ∧ ∀ j, k < j → j < n → o j < o i
/-- traded -/
def trN (o : Nat → Nat) (i k j : Nat) : Nat := if j = k then o i else if j = i then o k else o j
/-- traded, and turned behind i -/
def nxo (n : Nat) (o : Nat → Nat) (i k j : Nat) : Nat := if j ≤ i then trN o i k j else trN o i k (i + n - j)
/-- turned so far -/
def tnN (n i c : Nat) (s : Nat → Nat) (j : Nat) : Nat := if (i < j ∧ j ≤ i + c) ∨ (n ≤ j + c ∧ i < j) then s (i + n - j) else s j
theorem tn_t {n i c j : Nat} {s : Nat → Nat} (h : (i < j ∧ j ≤ i + c) ∨ (n ≤ j + c ∧ i < j)) : tnN n i c s j = s (i + n - j) := if_pos h
theorem tn_f {n i c j : Nat} {s : Nat → Nat} (h : ¬ ((i < j ∧ j ≤ i + c) ∨ (n ≤ j + c ∧ i < j))) : tnN n i c s j = s j := if_neg h
def NXe (n : Nat) (o : Nat → Nat) : Prop := ∀ j, j + 1 < n → o (j + 1) < o j
def RPl (n : Nat) (o : Nat → Nat) (τ : zS) : Prop := ∀ j, j < n → τ.1 235 j = nI (o j)
section NXT
variable {N n i k : Nat} {o : Nat → Nat} {σ : zS}
theorem vr_trades {a b : Nat} (hR : RF σ.2.2) (n10 : n ≤ 10) (ha : a < n) (hb : b < n) (ho : RPl n o σ) : Pt (f_X12_trades N 218 (nI a) (nI b) σ) (fun r => FW_ [235] σ r.2 ∧ RPl n (trN o a b) r.2) := by
  rw [f_X12_trades.eq_1]
  refine pt_gR (v := 235) (hR 218 30 rfl) (pt_aI (pt_gR (v := 235) (hR 218 30 rfl) (pt_gR (v := 235) (hR 218 30 rfl) (pt_aI ?_))))
  rw [iN (m := a) (by omega), iN (m := b) (by omega), ho a ha, ho b hb]
  refine pt_s14x (fun τ a1 b1 c1 => ?_)
  rw [iN (m := a) (by omega)] at a1
  have Rt : RF τ.2.2 := by rw [c1]; exact hR
  refine pt_gR (v := 235) (Rt 218 30 rfl) (pt_s14x (fun φ a2 b2 c2 => ?_))
  rw [iN (m := b) (by omega)] at a2
  refine pt_some ⟨⟨c2.trans c1, fun c hc => ?_⟩, fun j hj => ?_⟩
  · have hc : c ≠ 235 := fun z => hc (by rw [z]; exact List.mem_singleton_self _)
    exact (b2 c hc).trans (b1 c hc)
  · show φ.1 235 j = _
    unfold trN
    rw [a2, upd_i, a1, upd_i]
    by_cases w : j = b
    · rw [if_pos w, if_pos w]
    · rw [if_neg w, if_neg w]
      by_cases w2 : j = a
      · rw [if_pos w2, if_pos w2]
      · rw [if_neg w2, if_neg w2]; exact ho j hj
/-- turning behind i -/
theorem vr_turn78 {s : Nat → Nat} (hR : RF σ.2.2) (n10 : n ≤ 10) (hi : i + 1 < n) (ho : RPl n s σ) : Pt (zlp (F_X12_nextOrder_78 N 218) N (nI (i + 1), nI (n - 1), σ)) (fun r => r.1 = 1 ∧ FW_ [235] σ r.2 ∧ RPl n (fun j => if j ≤ i then s j else s (i + n - j)) r.2) := by
  refine pt_lp (fun x : Int32 × Int32 × zS => FW_ [235] σ x.2.2 ∧ ∃ c, (x.1 = nI (i + 1 + c) ∧ x.2.1 = nI (n - 1 - c)) ∧ (c ≤ n ∧ i + 2 * c ≤ n) ∧ RPl n (tnN n i c s) x.2.2) (fun again x hJ ih => ?_) N _ ⟨FW_r, 0, ⟨rfl, rfl⟩, ⟨by omega, by omega⟩, fun j hj => by
    rw [tn_f (by omega)]; exact ho j hj⟩
  obtain ⟨x4, x5, τ⟩ := x
  obtain ⟨f, c, ⟨e4, e5⟩, ⟨hc, hc2⟩, hr⟩ := hJ
  have f : FW_ [235] σ τ := f
  have e4 : x4 = nI (i + 1 + c) := e4
  have e5 : x5 = nI (n - 1 - c) := e5
  subst e4
  subst e5
  have hr : ∀ j, j < n → τ.1 235 j = nI (tnN n i c s j) := hr
  have Rt : RF τ.2.2 := by rw [f.1]; exact hR
  rw [F_X12_nextOrder_78.eq_1]
  refine pt_if (fun q => ?_) (fun q => ?_)
  · rw [nlt (by omega) (by omega)] at q
    refine pt_rZ ⟨rfl, f, fun j hj => ?_⟩
    show τ.1 235 j = nI (if j ≤ i then s j else s (i + n - j))
    rw [hr j hj]
    by_cases w : j ≤ i
    · rw [if_pos w, tn_f (by omega)]
    · rw [if_neg w]
      by_cases w2 : (i < j ∧ j ≤ i + c) ∨ (n ≤ j + c ∧ i < j)
      · rw [tn_t w2]
      · rw [tn_f w2, show i + n - j = j by omega]
  · rw [nlt (by omega) (by omega)] at q
    refine pt_gC (pt_zb (vr_trades (n := n) (a := i + 1 + c) (b := n - 1 - c) Rt n10 (by omega) (by omega) hr) (fun _ φ h => ?_))
    obtain ⟨g, hs⟩ := h
    have g : FW_ [235] τ φ := g
    have hs : ∀ j, j < n → φ.1 235 j = nI (trN (tnN n i c s) (i + 1 + c) (n - 1 - c) j) := hs
    rw [nI_m1, nI_p (by omega)]
    refine ih (nI (i + 1 + c + 1), nI (n - 1 - c - 1), φ) ⟨FW_t (S := [235]) (fun _ h => h) f g, c + 1, ⟨by show nI _ = nI _; rw [show i + 1 + c + 1 = i + 1 + (c + 1) by omega], by show nI _ = nI _; rw [show n - 1 - c - 1 = n - 1 - (c + 1) by omega]⟩, ⟨by omega, by omega⟩, fun j hj => ?_⟩
    show φ.1 235 j = nI (tnN n i (c + 1) s j)
    rw [hs j hj]
    unfold trN
    by_cases w1 : j = n - 1 - c
    · rw [if_pos w1, tn_f (by omega), tn_t (by omega), show i + n - j = i + 1 + c by omega]
    · rw [if_neg w1]
      by_cases w2 : j = i + 1 + c
      · rw [if_pos w2, tn_f (by omega), tn_t (by omega), show i + n - j = n - 1 - c by omega]
      · rw [if_neg w2]
        by_cases w3 : (i < j ∧ j ≤ i + c) ∨ (n ≤ j + c ∧ i < j)
        · rw [tn_t w3, tn_t (by omega)]
        · rw [tn_f w3, tn_f (by omega)]
/-- the next order, or none -/
theorem vr_nextOrder (hR : RF σ.2.2) (n0 : 0 < n) (n10 : n ≤ 10) (hb : ∀ j, j < n → o j < 10) (ho : RPl n o σ) : Pt (f_X12_nextOrder N 218 (nI n) σ) (fun r => FW_ [235] σ r.2 ∧ ((∃ i k, NXi n o i k) → ∃ i k, NXi n o i k ∧ r.1 = 1 ∧ RPl n (nxo n o i k) r.2) ∧ (NXe n o → r.1 = 0)) := by
  rw [f_X12_nextOrder.eq_1, show (2 : Int32) = nI 2 from rfl]
  have e2 : nI n - nI 2 = nI (n - 1) - 1 := by
    apply Int32.toInt_inj.mp
    rw [ti_sub, ti_sub, nI_toInt (by omega), nI_toInt (by omega), nI_toInt (by omega)]
    simp only [Int32.reduceToInt]
    omega
  rw [e2]
  refine pt_lp (fun x : Int32 × zS => x.2 = σ ∧ ∃ m, (x.1 = nI m - 1 ∧ m + 1 ≤ n) ∧ ∀ j, m ≤ j → j + 1 < n → o (j + 1) < o j) (fun again x hJ ih => ?_) N _ ⟨rfl, n - 1, ⟨rfl, by omega⟩, fun j h1 h2 => by omega⟩
  obtain ⟨y, τ⟩ := x
  obtain ⟨eo, m, ⟨em, hm⟩, hd⟩ := hJ
  have e : τ = σ := eo
  have em : y = nI m - 1 := em
  clear eo
  subst e
  subst em
  rw [F_X12_nextOrder_4.eq_1]
  cases m with
  | zero =>
    refine pt_if (fun _ => ?_) (fun q => absurd (by decide : nI 0 - 1 < 0) q)
    rw [J_X12_nextOrder_31.eq_1]
    refine pt_if (fun q => absurd q (by decide)) (fun _ => pt_rZ ⟨FW_r, fun ⟨i, k, h⟩ => ?_, fun _ => rfl⟩)
    have := hd i (Nat.zero_le _) h.1.1
    have := h.1.2
    omega
  | succ m =>
    have ek : nI (m + 1) - 1 = nI m := by rw [show (1 : Int32) = nI 1 from rfl]; exact nI_sub rfl
    rw [ek]
    refine pt_if (fun q => ?_) (fun _ => ?_)
    · have q : nI m < nI 0 := q
      rw [nl_ (by omega) (by omega)] at q
      omega
    · have b1 := hb m (by omega)
      have b2 := hb (m + 1) (by omega)
      refine pt_gR (v := 235) (hR 218 30 rfl) (pt_aI (pt_gR (v := 235) (hR 218 30 rfl) (pt_aI ?_)))
      rw [nI_m1 (m := m), iN (m := m) (by omega), iN (m := m + 1) (by omega), ho m (by omega), ho (m + 1) (by omega)]
      refine pt_if (fun q => ?_) (fun q => ?_)
      · rw [nlt (by omega) (by omega)] at q
        rw [J_X12_nextOrder_31.eq_1]
        refine pt_if (fun _ => ?_) (fun w => absurd (Int32.le_iff_toInt_le.mpr (by rw [nI_toInt (by omega)]; simp only [Int32.reduceToInt]; omega)) w)
        -- the last above it
        rw [show (1 : Int32) = nI 1 from rfl, nI_sub (c := n - 1) (by omega)]
        refine pt_lp (fun x : Int32 × zS => x.2 = τ ∧ ∃ c, (x.1 = nI c ∧ m < c ∧ c < n) ∧ ∀ j, c < j → j < n → o j < o m) (fun again2 x hJ ih2 => ?_) N _ ⟨rfl, n - 1, ⟨rfl, by omega, by omega⟩, fun j h1 h2 => by omega⟩
        obtain ⟨y3, φ⟩ := x
        obtain ⟨eo, c, ⟨ec, hc1, hc2⟩, hl⟩ := hJ
        have e : φ = τ := eo
        have ec : y3 = nI c := ec
        clear eo
        subst e
        subst ec
        have b3 := hb c hc2
        rw [F_X12_nextOrder_41.eq_1]
        refine pt_gR (v := 235) (hR 218 30 rfl) (pt_aI (pt_gR (v := 235) (hR 218 30 rfl) (pt_aI ?_)))
        rw [iN (m := c) (by omega), iN (m := m) (by omega), ho c hc2, ho m (by omega)]
        refine pt_if (fun w => ?_) (fun w => ?_)
        · rw [nlt (by omega) (by omega)] at w
          refine pt_gC (pt_zb (vr_trades (n := n) hR n10 (show m < n by omega) hc2 ho) (fun _ ψ h => ?_))
          obtain ⟨g, hs⟩ := h
          have g : FW_ [235] φ ψ := g
          rw [nI_m1, show (1 : Int32) = nI 1 from rfl, nI_sub (c := n - 1) (by omega)]
          refine pt_w (vr_turn78 (i := m) (s := trN o m c) (by rw [g.1]; exact hR) n10 (by omega) hs) (fun r h => ⟨FW_t (S := [235]) (fun _ h => h) g h.2.1, fun ⟨i, k, hx⟩ => ?_, fun he => ?_⟩)
          · have im : i = m := by
              by_cases z : i < m
              · have := hx.2.1 m z (by omega)
                omega
              · by_cases z2 : m < i
                · have := hd i (by omega) hx.1.1
                  have := hx.1.2
                  omega
                · omega
            subst im
            have kc : k = c := by
              by_cases z : k < c
              · have := hx.2.2.2 c z hc2
                omega
              · by_cases z2 : c < k
                · have := hl k z2 hx.2.2.1.2.1
                  have := hx.2.2.1.2.2
                  omega
                · omega
            subst kc
            exact ⟨i, k, hx, h.1, h.2.2⟩
          · have := he m (by omega)
            omega
        · rw [nlt (by omega) (by omega)] at w
          rw [nI_p (by omega)]
          have cm : c ≠ m + 1 := fun z => by
            rw [z] at w
            omega
          refine ih2 (nI (c - 1), φ) ⟨rfl, c - 1, ⟨rfl, by omega, by omega⟩, fun j h1 h2 => ?_⟩
          by_cases z : j = c
          · rw [z]; omega
          · exact hl j (by omega) h2
      · rw [nlt (by omega) (by omega)] at q
        rw [← Int32.sub_eq_add_neg]
        refine ih (nI m - 1, τ) ⟨rfl, m, ⟨rfl, by omega⟩, fun j h1 h2 => ?_⟩
        by_cases z : j = m
        · rw [z]; omega
        · exact hd j (by omega) h2
end NXT

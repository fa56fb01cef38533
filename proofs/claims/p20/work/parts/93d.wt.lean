/-! ===== weights of sets ===== -/
section WTS2
variable {N n B : Nat} {σ : zS} {f f' : Nat → Int32}
def wsN (f : Nat → Int32) (s : Nat) : Nat → Int32
  | 0 => 0
  | k + 1 => wsN f s k + (if s.testBit k = true then f k else 0)
theorem wsN_e {s : Nat} (hs : s < 1024) : ∀ k, k ≤ 10 → ws f (nI s) k = wsN f s k
  | 0, _ => rfl
  | k + 1, h => by
    show ws f (nI s) k + (if ((nI s >>> (nI k &&& 31)) &&& 1) = 0 then 0 else f k) = wsN f s k + _
    rw [wsN_e hs k (by omega), shb k (by omega) s hs]
    by_cases q : s.testBit k = true
    · rw [if_pos q, if_pos q, if_neg (by decide)]
    · rw [if_neg q, if_neg q]
      rfl
theorem wsN_c {s : Nat} : ∀ {k : Nat}, (∀ j, j < k → f j = f' j) → wsN f s k = wsN f' s k
  | 0, _ => rfl
  | k + 1, h => by
    show wsN f s k + _ = wsN f' s k + _
    rw [wsN_c (fun j hj => h j (by omega)), h k (by omega)]
theorem wsN_b {s t : Nat} : ∀ {k : Nat}, (∀ j, j < k → s.testBit j = t.testBit j) → wsN f s k = wsN f t k
  | 0, _ => rfl
  | k + 1, h => by
    show wsN f s k + _ = wsN f t k + _
    rw [wsN_b (fun j hj => h j (by omega)), h k (by omega)]
theorem wsN_z {s : Nat} (hs : s < 2 ^ n) : ∀ {k : Nat}, n ≤ k → wsN f s k = wsN f s n
  | 0, h => by rw [show n = 0 by omega]
  | k + 1, h => by
    by_cases e : n = k + 1
    · rw [e]
    · show wsN f s k + _ = _
      rw [wsN_z hs (show n ≤ k by omega), if_neg (by rw [tb_lt hs (by omega)]; decide)]
      exact Int32.add_zero _
theorem pow_add {k s : Nat} (h : s < 2 ^ k) : (2 ^ k + s).testBit k = true ∧ ∀ j, j < k → (2 ^ k + s).testBit j = s.testBit j := by
  constructor
  · rw [Nat.testBit_two_pow_add_eq, tb_lt h (Nat.le_refl _)]; rfl
  · intro j hj
    exact Nat.testBit_two_pow_add_gt hj s
/-- loads of all sets -/
theorem v_weighSets (hB : isWc B) (hR : RF σ.2.2) (en : σ.1 B 0 = nI n) (hn : n ≤ 10) : Pt (f_X8_weighSets N 108 B σ) (fun r => r.2.2 = σ.2 ∧ (∀ a, a ≠ 109 → r.2.1 a = σ.1 a) ∧ ∀ s, s < 2 ^ n → r.2.1 109 s = wsN (σ.1 (B + 3)) s n) := by
  have b109 : B ≠ 109 ∧ B + 3 ≠ 109 := by unfold isWc at hB; omega
  rw [f_X8_weighSets.eq_1]
  refine pt_gR (v := 109) (hR 108 0 rfl) (pt_s14 ?_)
  rw [show (0 : Int32).toInt.toNat = 0 from rfl]
  refine pt_lp (fun x : Int32 × zS => x.2.2 = σ.2 ∧ (∀ a, a ≠ 109 → x.2.1 a = σ.1 a) ∧ ∃ k, (x.1 = nI k ∧ k ≤ n) ∧ ∀ s, s < 2 ^ k → x.2.1 109 s = wsN (σ.1 (B + 3)) s k) (fun again x hJ ih => ?_) N _ ⟨rfl, fun a ha => zI_n ha, 0, ⟨rfl, Nat.zero_le _⟩, fun s hs => ?_⟩
  · obtain ⟨y, τ⟩ := x
    obtain ⟨e, o, k, ⟨ek, hk⟩, hl⟩ := hJ
    have e : τ.2 = σ.2 := e
    have o : ∀ a, a ≠ 109 → τ.1 a = σ.1 a := o
    have ek : y = nI k := ek
    subst ek
    have hl : ∀ s, s < 2 ^ k → τ.1 109 s = wsN (σ.1 (B + 3)) s k := hl
    have Rt : RF τ.2.2 := by rw [e]; exact hR
    rw [F_X8_weighSets_9.eq_1]
    refine pt_gI ?_
    rw [o B b109.1, en]
    refine pt_if (fun z => ?_) (fun z => pt_if (fun z2 => ?_) (fun _ => ?_))
    · rw [nlt (by omega) (by omega)] at z
      have : k = n := by omega
      subst this
      exact pt_some ⟨e, o, hl⟩
    · rw [nlt (by omega) (by omega)] at z
      have z2 : nI 10 ≤ nI k := z2
      rw [nlt (by omega) (by omega)] at z2
      omega
    · rw [nlt (by omega) (by omega)] at z
      have k10 : k < 10 := by omega
      have p2 := p2le (show k ≤ 10 by omega)
      rw [one10 k k10]
      refine pt_lp (fun x : Int32 × zS => x.2.2 = σ.2 ∧ (∀ a, a ≠ 109 → x.2.1 a = σ.1 a) ∧ ∃ m, (x.1 = nI m ∧ m ≤ 2 ^ k) ∧ ∀ s, s < 2 ^ k + m → x.2.1 109 s = wsN (σ.1 (B + 3)) s (k + 1)) (fun again2 x hJ ih2 => ?_) N _ ⟨e, o, 0, ⟨rfl, Nat.zero_le _⟩, fun s hs => ?_⟩
      · obtain ⟨w, υ⟩ := x
        obtain ⟨e, o, m, ⟨em, hm⟩, hl⟩ := hJ
        have e : υ.2 = σ.2 := e
        have o : ∀ a, a ≠ 109 → υ.1 a = σ.1 a := o
        have em : w = nI m := em
        subst em
        have hl : ∀ s, s < 2 ^ k + m → υ.1 109 s = wsN (σ.1 (B + 3)) s (k + 1) := hl
        have Ru : RF υ.2.2 := by rw [e]; exact hR
        rw [F_X8_weighSets_30.eq_1]
        refine pt_if (fun q => ?_) (fun q => ?_)
        · rw [nlt (by omega) (by omega)] at q
          rw [nI_s1 (by omega)]
          refine ih (nI (k + 1), υ) ⟨e, o, k + 1, ⟨rfl, by omega⟩, fun s hs => hl s ?_⟩
          rw [Nat.pow_succ] at hs
          omega
        · rw [nlt (by omega) (by omega)] at q
          have rw3 : υ.2.2 B 5 = B + 3 := (rW hB Ru).1.2.2.1
          refine pt_gR (v := 109) (Ru 108 0 rfl) (pt_gR (v := 109) (Ru 108 0 rfl) (pt_aI (pt_gR (v := B + 3) rw3 (pt_aI (pt_s14 ?_)))))
          rw [nI_plus, iNb (m := 2 ^ k + m) (by omega), iN (m := m) (by omega), iN (m := k) (by omega), o (B + 3) b109.2, nI_s1 (m := m) (by omega)]
          refine ih2 (nI (m + 1), _) ⟨e, fun a ha => (zI_n ha).trans (o a ha), m + 1, ⟨rfl, by omega⟩, fun s hs => ?_⟩
          show (zI υ 109 _).1 109 s = _
          rw [zI_s, upd_i]
          by_cases sm : s = 2 ^ k + m
          · have pa := pow_add (show m < 2 ^ k by omega)
            rw [if_pos sm, hl m (by omega), sm]
            show wsN _ m k + (if m.testBit k = true then _ else 0) + _ = wsN _ (2 ^ k + m) k + _
            rw [if_pos pa.1, if_neg (by rw [tb_lt (show m < 2 ^ k by omega) (Nat.le_refl _)]; decide), Int32.add_zero, wsN_b pa.2]
          · rw [if_neg sm]; exact hl s (by omega)
      · show τ.1 109 s = _
        rw [hl s (by omega)]
        show _ = wsN _ s k + (if s.testBit k = true then _ else 0)
        rw [if_neg (by rw [tb_lt (show s < 2 ^ k by omega) (Nat.le_refl _)]; decide), Int32.add_zero]
  · have s0 : s = 0 := by
      have : s < 1 := hs
      omega
    subst s0
    show (zI σ 109 _).1 109 0 = 0
    rw [zI_s, upd_s]
end WTS2
/-- the weight of a set in a world's row -/
def Wg (g : Nat → Int32) (s : Nat) : Int32 := wsN (fun j => g (3 + j)) s 10
theorem lq_W {σ : zS} (hW : WQ σ) {n s : Nat} (en : σ.1 219 0 = nI n) (n0 : 0 < n) (n10 : n ≤ 10) (hs : s < 2 ^ n) : wsN (σ.1 (σ.2.2 0 4 + 3)) s n = Wg (σ.1 219) s := by
  have nz : ¬ σ.1 219 0 = 0 := fun z => by
    rw [en] at z
    have := (nI_z (by omega)).mp z
    omega
  unfold Wg
  rw [wsN_z hs n10]
  exact wsN_c (fun j hj => (hW.1.2 nz).1 j (by omega))
theorem rq_W {N s : Nat} {σ : zS} (hR : RF σ.2.2) (hs : s < 1024) : Px (f_X12_weightOf N 218 (nI s) σ) σ (fun v => v = Wg (σ.1 219) s) := by
  refine pt_w (vr_weightOf hR) (fun r h => ⟨h.1, h.2.trans (wsN_e hs 10 (Nat.le_refl _))⟩)

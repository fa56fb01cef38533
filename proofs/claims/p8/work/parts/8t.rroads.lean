/-! ===== the reference's roads ===== -/
section RROADS
variable {N m : Nat} {σ τ : zS} {P Q : Nat → Nat}
def EdR (σ : zS) (m : Nat) (P Q : Nat → Nat) : Prop := (σ.1 219 2 = nI m ∧ m ≤ 10) ∧ (∀ j, j < m → σ.1 219 (13 + j) = nI (P j) ∧ σ.1 219 (23 + j) = nI (Q j)) ∧ Gr m P Q
theorem EdR_c (h0 : τ.1 219 = σ.1 219) (h : EdR σ m P Q) : EdR τ m P Q := by
  unfold EdR at h ⊢
  rw [h0]; exact h
theorem vk_one {j : Nat} (hR : RF σ.2.2) (hE : EdR σ m P Q) (hj : j < m) : Px (f_X12_one N 218 (nI j) σ) σ (fun v => v = nI (P j)) := by
  have m10 := hE.1.2
  rw [f_X12_one.eq_1]
  refine pt_gR (v := 219) (hR 218 1 rfl) (pt_aI (pt_some ⟨rfl, ?_⟩))
  show σ.1 219 ((13 : Int32) + nI j).toInt.toNat = _
  rw [show (13 : Int32) + nI j = nI (13 + j) from nI_plus 13 j, iN (by omega)]
  exact (hE.2.1 j hj).1
theorem vk_other {j : Nat} (hR : RF σ.2.2) (hE : EdR σ m P Q) (hj : j < m) : Px (f_X12_other N 218 (nI j) σ) σ (fun v => v = nI (Q j)) := by
  have m10 := hE.1.2
  rw [f_X12_other.eq_1]
  refine pt_gR (v := 219) (hR 218 1 rfl) (pt_aI (pt_some ⟨rfl, ?_⟩))
  show σ.1 219 ((23 : Int32) + nI j).toInt.toNat = _
  rw [show (23 : Int32) + nI j = nI (23 + j) from nI_plus 23 j, iN (by omega)]
  exact (hE.2.1 j hj).2
theorem vk_ends {s : Nat} (hR : RF σ.2.2) (hE : EdR σ m P Q) (hs : s < 1024) : Pt (f_X12_fillEnds N 218 (nI s) σ) (fun r => FG [238] σ r.2 ∧ ∀ v, v < 8 → r.2.1 238 v = nI (dg P Q s m v)) := by
  have m10 := hE.1.2
  rw [f_X12_fillEnds.eq_1]
  refine pt_lp (fun y : Int32 × zS => ∃ l, (y.1 = nI l ∧ l ≤ 8) ∧ FG [238] σ y.2 ∧ ∀ x, x < l → y.2.1 238 x = 0) (fun again y hI ih => ?_) N _ ⟨0, ⟨rfl, Nat.zero_le _⟩, FG.rf, fun x hx => absurd hx (Nat.not_lt_zero _)⟩
  obtain ⟨x2, τ⟩ := y
  obtain ⟨l, ⟨ex, hl⟩, hf, hz⟩ := hI
  have ex : x2 = nI l := ex
  subst ex
  have hf : FG [238] σ τ := hf
  have hz : ∀ x, x < l → τ.1 238 x = 0 := hz
  have R9 := hf.R hR
  rw [F_X12_fillEnds_2.eq_1]
  refine pt_if (fun q => ?_) (fun q => ?_)
  · have q : nI 8 ≤ nI l := q
    rw [nlt (by omega) (by omega)] at q
    refine pt_lp (fun y : Int32 × zS => ∃ j, (y.1 = nI j ∧ j ≤ m) ∧ FG [238] σ y.2 ∧ ∀ v, v < 8 → y.2.1 238 v = nI (dg P Q s j v)) (fun again y hI ih => ?_) N _ ⟨0, ⟨rfl, Nat.zero_le _⟩, hf, fun v hv => hz v (by omega)⟩
    obtain ⟨x2, υ⟩ := y
    obtain ⟨j, ⟨ex, hj⟩, hf, hd⟩ := hI
    have ex : x2 = nI j := ex
    subst ex
    have hf : FG [238] σ υ := hf
    have hd : ∀ v, v < 8 → υ.1 238 v = nI (dg P Q s j v) := hd
    have R9 := hf.R hR
    have E9 : EdR υ m P Q := EdR_c (hf.2 219 (by decide)) hE
    rw [F_X12_fillEnds_23.eq_1]
    refine pt_gR (v := 219) (R9 218 1 rfl) (pt_aI ?_)
    rw [show (Int32.toInt 2).toNat = 2 from rfl, E9.1.1]
    refine pt_if (fun q => ?_) (fun q => ?_)
    · rw [nlt (by omega) (by omega)] at q
      have e : j = m := by omega
      subst e
      exact pt_some ⟨hf, hd⟩
    rw [nlt (by omega) (by omega)] at q
    have hjm : j < m := by omega
    obtain ⟨⟨p8, q8⟩, ne⟩ := hE.2.2 j hjm
    refine pt_gR (v := 238) (R9 218 34 rfl) (pt_gC (pt_zbq (vk_one R9 E9 hjm) (fun v hv => ?_)))
    rw [hv]
    refine pt_aI (pt_s14x (fun υ1 a1 b1 c1 => ?_))
    have f1 : FG [238] σ υ1 := ⟨c1.trans hf.1, fun k hk => (b1 k (fun e => hk (by rw [e]; exact List.mem_cons_self))).trans (hf.2 k hk)⟩
    have R1 := f1.R hR
    have E1 : EdR υ1 m P Q := EdR_c (f1.2 219 (by decide)) hE
    refine pt_gR (v := 238) (R1 218 34 rfl) (pt_gC (pt_zbq (vk_other R1 E1 hjm) (fun v hv => ?_)))
    rw [hv]
    refine pt_aI (pt_s14x (fun υ2 a2 b2 c2 => ?_))
    have f2 : FG [238] σ υ2 := ⟨c2.trans f1.1, fun k hk => (b2 k (fun e => hk (by rw [e]; exact List.mem_cons_self))).trans (f1.2 k hk)⟩
    rw [nI_s1 (by omega)]
    refine ih (nI (j + 1), υ2) ⟨j + 1, ⟨rfl, by omega⟩, f2, fun v hv => ?_⟩
    rw [iN (by omega), hd _ p8, shb j (by omega) s hs, nI_plus] at a1
    rw [iN (by omega), a1, upd_n (show Q j ≠ P j from fun z => ne z.symm), hd _ q8, shb j (by omega) s hs, nI_plus] at a2
    show υ2.1 238 v = nI (dg P Q s (j + 1) v)
    rw [a2, upd_i, upd_i, dg_s]
    have e : ∀ x, (x = P j ∨ x = Q j) → (if eb P Q s x j = true then 1 else 0) = (if s.testBit j = true then 1 else 0 : Nat) := fun x hx => by
      by_cases b : s.testBit j = true
      · rw [if_pos b, if_pos (eb_t.mpr ⟨b, hx.imp Eq.symm Eq.symm⟩)]
      · rw [if_neg b, if_neg (fun z => b (eb_t.mp z).1)]
    by_cases eq : v = Q j
    · rw [if_pos eq, e v (Or.inr eq), eq]
    · rw [if_neg eq]
      by_cases ep : v = P j
      · rw [if_pos ep, e v (Or.inl ep), ep]
      · rw [if_neg ep, if_neg (fun z => (eb_t.mp z).2.elim (fun y => ep y.symm) (fun y => eq y.symm)), hd v hv, Nat.add_zero]
  · have q : ¬ nI 8 ≤ nI l := q
    rw [nlt (by omega) (by omega)] at q
    refine pt_gR (v := 238) (R9 218 34 rfl) (pt_s14x (fun υ a b c => ?_))
    rw [iN (by omega)] at a
    rw [nI_s1 (by omega)]
    refine ih (nI (l + 1), υ) ⟨l + 1, ⟨rfl, by omega⟩, ⟨c.trans hf.1, fun k hk => (b k (fun e => hk (by rw [e]; exact List.mem_cons_self))).trans (hf.2 k hk)⟩, fun x hx => ?_⟩
    show υ.1 238 x = 0
    rw [a, upd_i]
    by_cases e : x = l
    · rw [if_pos e]
    · rw [if_neg e]; exact hz x (by omega)
theorem rds_256 (hG : Gr m P Q) {s C : Nat} (hC : C < 256) : ∀ j, j ≤ m → rds P Q s j C < 256
  | 0, _ => hC
  | j + 1, hj => by
    have ih := rds_256 hG (s := s) hC j (by omega)
    have g := (hG j (by omega)).1
    show rd1 P Q s j (rds P Q s j C) < 256
    unfold rd1
    split
    · exact Nat.or_lt_two_pow (n := 8) ih (Nat.or_lt_two_pow (n := 8) (Nat.pow_lt_pow_right (by decide) g.1) (Nat.pow_lt_pow_right (by decide) g.2))
    · exact ih
theorem hg_256 (hG : Gr m P Q) {s c : Nat} (hc : c < 8) : ∀ r, hg m P Q s c r < 256
  | 0 => Nat.pow_lt_pow_right (n := 8) (by decide) hc
  | r + 1 => rds_256 hG (hg_256 hG hc r) m (Nat.le_refl _)
theorem vk_hangs {s c : Nat} (hR : RF σ.2.2) (hE : EdR σ m P Q) (hs : s < 1024) (hc : c < 8) : Px (f_X12_hangs N 218 (nI s) (nI c) σ) σ (fun v => v = nI (hg m P Q s c 8)) := by
  have m10 := hE.1.2
  have hG := hE.2.2
  rw [f_X12_hangs.eq_1, one11 c (by omega)]
  refine pt_lp (fun y : Int32 × Int32 × zS => y.2.2 = σ ∧ ∃ r, y.1 = nI (hg m P Q s c r) ∧ y.2.1 = nI r ∧ r ≤ 8) (fun again y hI ih => ?_) N _ ⟨rfl, 0, rfl, rfl, Nat.zero_le _⟩
  obtain ⟨x3, x4, τ⟩ := y
  obtain ⟨eo, r, e3o, e4o, hr⟩ := hI
  have e : τ = σ := eo
  have e3 : x3 = nI (hg m P Q s c r) := e3o
  have e4 : x4 = nI r := e4o
  clear eo e3o e4o
  subst e
  subst e3
  subst e4
  have c256 := hg_256 hG (s := s) hc r
  rw [F_X12_hangs_7.eq_1]
  refine pt_if (fun q => pt_some ⟨rfl, ?_⟩) (fun q => ?_)
  · have q : nI 8 ≤ nI r := q
    rw [nlt (by omega) (by omega)] at q
    show nI (hg m P Q s c r) = _
    rw [show r = 8 by omega]
  have q : ¬ nI 8 ≤ nI r := q
  rw [nlt (by omega) (by omega)] at q
  refine pt_lp (fun y : Int32 × Int32 × zS => y.2.2 = τ ∧ ∃ j, y.1 = nI (rds P Q s j (hg m P Q s c r)) ∧ y.2.1 = nI j ∧ j ≤ m) (fun again2 y hI ih2 => ?_) N _ ⟨rfl, 0, rfl, rfl, Nat.zero_le _⟩
  obtain ⟨x3, x5, υ⟩ := y
  obtain ⟨eo, j, e3o, e5o, hj⟩ := hI
  have e : υ = τ := eo
  have e3 : x3 = nI (rds P Q s j (hg m P Q s c r)) := e3o
  have e5 : x5 = nI j := e5o
  clear eo e3o e5o
  subst e
  subst e3
  subst e5
  have d256 := rds_256 hG (s := s) c256 j hj
  rw [F_X12_hangs_17.eq_1]
  refine pt_gR (v := 219) (hR 218 1 rfl) (pt_aI ?_)
  rw [show (Int32.toInt 2).toNat = 2 from rfl, hE.1.1]
  refine pt_if (fun q => ?_) (fun q => ?_)
  · rw [nlt (by omega) (by omega)] at q
    rw [nI_s1 (by omega), show j = m by omega]
    exact ih (nI (hg m P Q s c (r + 1)), nI (r + 1), υ) ⟨rfl, r + 1, rfl, rfl, by omega⟩
  rw [nlt (by omega) (by omega)] at q
  have hjm : j < m := by omega
  obtain ⟨⟨p8, q8⟩, ne⟩ := hE.2.2 j hjm
  rw [shb j (by omega) s hs]
  have one1 : ∀ b : Bool, nI (if b = true then 1 else 0) = 1 ↔ b = true := fun b => by cases b <;> decide
  have stay : ¬ (s.testBit j = true ∧ ((rds P Q s j (hg m P Q s c r)).testBit (P j) = true ∨ (rds P Q s j (hg m P Q s c r)).testBit (Q j) = true)) → Pt (again2 (nI (rds P Q s j (hg m P Q s c r)), nI j + 1, υ)) (fun r_1 => r_1.2 = υ ∧ (fun v => v = nI (hg m P Q s c 8)) r_1.1) := fun no => by
    rw [nI_s1 (by omega)]
    exact ih2 (nI (rds P Q s j (hg m P Q s c r)), nI (j + 1), υ) ⟨rfl, j + 1, by show _ = nI (rd1 P Q s j (rds P Q s j (hg m P Q s c r))); rw [show rd1 P Q s j (rds P Q s j (hg m P Q s c r)) = rds P Q s j (hg m P Q s c r) from if_neg no], rfl, by omega⟩
  refine pt_if (fun z => ?_) (fun z => stay (fun y => z ((one1 _).mpr y.1)))
  have bt' := (one1 _).mp z
  refine pt_gC (pt_zbq (vk_one hR hE hjm) (fun v hv => pt_gC (pt_zbq (vk_other hR hE hjm) (fun w hw => ?_))))
  rw [hv, hw, shb (P j) (by omega) _ (by omega), shb (Q j) (by omega) _ (by omega)]
  have or1 : ∀ a b : Bool, (nI (if a = true then 1 else 0) ||| nI (if b = true then 1 else 0)) = 1 ↔ (a = true ∨ b = true) := fun a b => by cases a <;> cases b <;> decide
  refine pt_if (fun y => ?_) (fun y => stay (fun x => y ((or1 _ _).mpr x.2)))
  have yy := (or1 _ _).mp y
  refine pt_gC (pt_zbq (vk_one hR hE hjm) (fun v2 hv2 => pt_gC (pt_zbq (vk_other hR hE hjm) (fun w2 hw2 => ?_))))
  rw [hv2, hw2, one11 (P j) (by omega), one11 (Q j) (by omega), nI_or, nI_or, nI_s1 (by omega)]
  exact ih2 (nI (rds P Q s j (hg m P Q s c r) ||| (2 ^ P j ||| 2 ^ Q j)), nI (j + 1), υ) ⟨rfl, j + 1, by show _ = nI (rd1 P Q s j (rds P Q s j (hg m P Q s c r))); rw [show rd1 P Q s j (rds P Q s j (hg m P Q s c r)) = rds P Q s j (hg m P Q s c r) ||| (2 ^ P j ||| 2 ^ Q j) from if_pos ⟨bt', yy⟩], rfl, by omega⟩
theorem nnI {a b : Nat} (ha : a ≤ 2000) (hb : b ≤ 2000) : nI a = nI b ↔ a = b := by
  constructor
  · intro h
    have := congrArg Int32.toInt h
    rw [nI_toInt (by omega), nI_toInt (by omega)] at this
    omega
  · intro h; rw [h]
theorem vk_isWay {s c g : Nat} (hR : RF σ.2.2) (hE : EdR σ m P Q) (hs : s < 1024) (hc : c < 8) (g8 : g < 8) : Pt (f_X12_isWay N 218 (nI s) (nI c) (nI g) σ) (fun r => FG [238] σ r.2 ∧ (r.1 = 0 → ¬ (if c = g then s = 0 else IsW m P Q s c g)) ∧ (¬ r.1 = 0 → if c = g then s = 0 else IsW m P Q s c g)) := by
  have m10 := hE.1.2
  have d10 : ∀ v, dg P Q s m v ≤ 10 := fun v => Nat.le_trans (ct_le _ m) m10
  have t1 : ∀ {τ : zS} {C : Prop}, C → ((1 : Int32), τ).1 = 0 → ¬ C := fun _ z => absurd (show (1 : Int32) = 0 from z) (by decide)
  rw [f_X12_isWay.eq_1]
  refine pt_if (fun e => ?_) (fun e => ?_)
  · have e : c = g := neq8 hc g8 e
    rw [if_pos e]
    refine pt_if (fun z => pt_rZ ⟨FG.rf, fun y => absurd (show (1 : Int32) = 0 from y) (by decide), fun _ => (nnI (b := 0) (by omega) (by decide)).mp z⟩) (fun z => pt_rZ ⟨FG.rf, fun _ y => z (by rw [y]; rfl), fun y => absurd rfl y⟩)
  have ne : ¬ c = g := fun z => e (by rw [z])
  rw [if_neg ne]
  refine pt_gC (pt_zb (vk_ends hR hE hs) (fun _ σ1 h1 => ?_))
  obtain ⟨f1, d1⟩ := h1
  have f1 : FG [238] σ σ1 := f1
  have d1 : ∀ v, v < 8 → σ1.1 238 v = nI (dg P Q s m v) := d1
  have R1 := f1.R hR
  have E1 : EdR σ1 m P Q := EdR_c (f1.2 219 (by decide)) hE
  refine pt_gR (v := 238) (R1 218 34 rfl) (pt_aI ?_)
  rw [iN (by omega), d1 c hc]
  refine pt_if (fun z => ?_) (fun z => pt_rZ ⟨f1, fun _ y => z (by rw [y.1.1]; rfl), fun y => absurd rfl y⟩)
  have dc := (nnI (b := 1) (by have := d10 c; omega) (by decide)).mp z
  refine pt_gR (v := 238) (R1 218 34 rfl) (pt_aI ?_)
  rw [iN (by omega), d1 g g8]
  refine pt_if (fun z => ?_) (fun z => pt_rZ ⟨f1, fun _ y => z (by rw [y.1.2]; rfl), fun y => absurd rfl y⟩)
  have dgg := (nnI (b := 1) (by have := d10 g; omega) (by decide)).mp z
  refine pt_gC (pt_zbq (vk_hangs R1 E1 hs hc) (fun v hv => ?_))
  subst hv
  have h256 := hg_256 hE.2.2 (s := s) hc 8
  refine pt_lp (fun y : Int32 × zS => y.2 = σ1 ∧ ∃ l, (y.1 = nI l ∧ l ≤ 8) ∧ ∀ x, x < l → (0 < dg P Q s m x → (hg m P Q s c 8).testBit x = true) ∧ (x ≠ c → x ≠ g → dg P Q s m x = 0 ∨ dg P Q s m x = 2)) (fun again y hI ih => ?_) N _ ⟨rfl, 0, ⟨rfl, Nat.zero_le _⟩, fun x hx => absurd hx (Nat.not_lt_zero _)⟩
  obtain ⟨x5, τ⟩ := y
  obtain ⟨e9, l, ⟨ex, hl⟩, hx⟩ := hI
  have e9 : τ = σ1 := e9
  have ex : x5 = nI l := ex
  subst ex
  subst e9
  rw [F_X12_isWay_53.eq_1]
  refine pt_if (fun q => ?_) (fun q => ?_)
  · have q : nI 8 ≤ nI l := q
    rw [nlt (by omega) (by omega)] at q
    exact pt_rZ ⟨f1, fun y => absurd (show (1 : Int32) = 0 from y) (by decide), fun _ => ⟨⟨dc, dgg⟩, fun x h => hx x (by omega)⟩⟩
  have q : ¬ nI 8 ≤ nI l := q
  rw [nlt (by omega) (by omega)] at q
  have l8 : l < 8 := by omega
  have dl := d10 l
  have go : (0 < dg P Q s m l → (hg m P Q s c 8).testBit l = true) → Pt (J_X12_isWay_80 N again 218 (nI c) (nI g) (nI (hg m P Q s c 8)) (nI l) τ) (fun r => FG [238] σ r.2 ∧ (r.1 = 0 → ¬ IsW m P Q s c g) ∧ (¬ r.1 = 0 → IsW m P Q s c g)) := fun a => by
    have nxt : (l ≠ c → l ≠ g → dg P Q s m l = 0 ∨ dg P Q s m l = 2) → Pt (again (nI l + 1, τ)) (fun r => FG [238] σ r.2 ∧ (r.1 = 0 → ¬ IsW m P Q s c g) ∧ (¬ r.1 = 0 → IsW m P Q s c g)) := fun b => by
      rw [nI_s1 (by omega)]
      refine ih (nI (l + 1), τ) ⟨rfl, l + 1, ⟨rfl, by omega⟩, fun x h => ?_⟩
      by_cases e : x = l
      · rw [e]; exact ⟨a, b⟩
      · exact hx x (by omega)
    rw [J_X12_isWay_80.eq_1]
    refine pt_if (fun z => nxt (fun y => absurd (neq8 l8 hc z) y)) (fun z1 => pt_if (fun z => nxt (fun _ y => absurd (neq8 l8 g8 z) y)) (fun z2 => ?_))
    refine pt_gR (v := 238) (R1 218 34 rfl) (pt_aI ?_)
    rw [iN (by omega), d1 l l8]
    refine pt_if (fun z => nxt (fun _ _ => Or.inl ((nnI (b := 0) (by omega) (by decide)).mp z))) (fun z3 => ?_)
    refine pt_gR (v := 238) (R1 218 34 rfl) (pt_aI ?_)
    rw [iN (by omega), d1 l l8]
    refine pt_if (fun z => nxt (fun _ _ => Or.inr ((nnI (b := 2) (by omega) (by decide)).mp z))) (fun z4 => pt_rZ ⟨f1, fun _ y => ?_, fun y => absurd rfl y⟩)
    rcases (y.2 l l8).2 (fun w => z1 (by rw [w])) (fun w => z2 (by rw [w])) with w | w
    · exact z3 (by rw [w]; rfl)
    · exact z4 (by rw [w]; rfl)
  have b0 := bit0 (s := hg m P Q s c 8) (k := l) (by omega) (by omega)
  refine pt_if (fun z => ?_) (fun z => go (fun _ => ?_))
  · have bf := b0.mp z
    refine pt_gR (v := 238) (R1 218 34 rfl) (pt_aI ?_)
    rw [iN (by omega), d1 l l8]
    refine pt_if (fun y => pt_rZ ⟨f1, fun _ w => ?_, fun w => absurd rfl w⟩) (fun y => go (fun w => absurd ?_ y))
    · rw [Int32.lt_iff_toInt_lt, nI_toInt (by omega)] at y
      simp only [Int32.reduceToInt] at y
      have := (w.2 l l8).1 (by omega)
      rw [bf] at this; cases this
    · rw [Int32.lt_iff_toInt_lt, nI_toInt (by omega)]
      simp only [Int32.reduceToInt]
      omega
  · cases h : (hg m P Q s c 8).testBit l with
    | true => rfl
    | false => exact absurd (b0.mpr h) z
end RROADS

/-- as far as the first m sets tell -/
def nfM (F : Nat → Bool) (x : Int32) (m i : Nat) : Prop := if x = 2 then ∀ u, u < m → F u = F (u ^^^ 2 ^ i) else if x = 0 then ∀ u, u < m → F u = true → u.testBit i = true else ∃ u, u < m ∧ F u = true ∧ u.testBit i = true
def V_names (x1 x2 : Int32) (g f : Nat → Int32) (v : Int32) : Prop := QE (isR (g 0) x1 ∧ 0 ≤ x2.toInt ∧ x2.toInt ≤ 2) (nmP (nfM (Rg f x1.toInt.toNat) x2 (mn (g 0))) (g 0).toInt.toNat) v
theorem uq_names {N : Nat} (hN : 1048576 ≤ N) {x1 x2 : Int32} {σ : zS} (hI : IV σ) (hW : WQ σ) (hF : FQ σ) : Pt (f_X11_names N 0 x1 x2 σ) (fun r => V_names x1 x2 (σ.1 219) (σ.1 220) r.1) := by
  have h := vl_names_ (N := N) (x1 := x1) (x2 := x2) (isWc4 (IV_4 hI)) hI.1.1.1 rfl (CF_n hI rfl)
  rw [e0_ hW] at h
  refine pt_w h (fun r h => ⟨fun c => ?_, fun c => h.2.2 c⟩)
  have p1 := isR_p c.1
  have n10 := RI_n hI.1.2
  obtain ⟨n, en, n0, nn⟩ := world_n c.1.1 n10.2
  have eM : mn (σ.1 219 0) = 2 ^ n := by rw [en, mnn n0 nn]
  have M10 := lq_M hI
  refine nmP_c (fun i hi => ?_) (h.2.1 c)
  rw [en, iN (m := n) (by omega)] at hi
  have i10 : i < 10 := by omega
  unfold fdN nfM Fc
  by_cases q2 : x2 = 2
  · rw [if_pos q2, if_pos q2]
    constructor
    · intro k u hu
      have := k u (by omega)
      rw [FQ_f hF p1 (x_1024 (show u < 1024 by omega) i10), FQ_f hF p1 (show u < 1024 by omega)] at this
      exact this.symm
    · intro k u hu
      rw [FQ_f hF p1 hu, FQ_f hF p1 (x_1024 hu i10)]
      by_cases y : u < mn (σ.1 219 0)
      · exact (k u y).symm
      · have y2 : ¬ u ^^^ 2 ^ i < 2 ^ n := fun z => by
          have := x_lt z hi
          rw [x_x] at this
          omega
        exact (ge_f hF p1 (x_1024 hu i10) (by omega)).trans (ge_f hF p1 hu (by omega)).symm
  · rw [if_neg q2, if_neg q2]
    by_cases q0 : x2 = 0
    · rw [if_pos q0, if_pos q0]
      constructor
      · intro k u hu a
        exact k u (by omega) (by rw [FQ_f hF p1 (by omega)]; exact a)
      · intro k u hu a
        rw [FQ_f hF p1 hu] at a
        exact k u (FQ_i hF p1 hu a) a
    · rw [if_neg q0, if_neg q0]
      constructor
      · rintro ⟨u, hu, a, b⟩
        rw [FQ_f hF p1 hu] at a
        exact ⟨u, FQ_i hF p1 hu a, a, b⟩
      · rintro ⟨u, hu, a, b⟩
        exact ⟨u, by omega, by rw [FQ_f hF p1 (by omega)]; exact a, b⟩
theorem nI_m1_ {a : Nat} : nI a &&& -1 = nI a := by
  apply Int32.toBitVec_inj.mp
  rw [Int32.toBitVec_and]
  show (nI a).toBitVec &&& BitVec.allOnes 32 = _
  rw [BitVec.and_allOnes]
theorem nI_clr {a k : Nat} (ha : a < 1024) (hk : k < 10) : nI a &&& (nI (2 ^ k) ^^^ -1) = nI (a &&& (1023 ^^^ 2 ^ k)) := by
  have e : (nI (2 ^ k) ^^^ -1) &&& 1023 = nI (1023 ^^^ 2 ^ k) := (by decide +kernel : ∀ k, k < 10 → (nI (2 ^ k) ^^^ -1) &&& 1023 = nI (1023 ^^^ 2 ^ k)) k hk
  have e2 : nI a = nI a &&& 1023 := (by decide +kernel : ∀ a, a < 1024 → nI a = nI a &&& 1023) a ha
  rw [← nI_and, ← e]
  conv => lhs; rw [e2]
  rw [Int32.and_assoc, Int32.and_comm 1023]
theorem clr_tb {a k i : Nat} (ha : a < 1024) (hk : k < 10) : (a &&& (1023 ^^^ 2 ^ k)).testBit i = true ↔ a.testBit i = true ∧ i ≠ k := by
  rw [Nat.testBit_and, Nat.testBit_xor, Bool.and_eq_true]
  constructor
  · rintro ⟨p, q⟩
    refine ⟨p, fun e => ?_⟩
    subst e
    rw [Nat.testBit_two_pow_self, show (1023 : Nat) = 2 ^ 10 - 1 from rfl, Nat.testBit_two_pow_sub_one, decide_eq_true hk] at q
    cases q
  · rintro ⟨p, q⟩
    refine ⟨p, ?_⟩
    have i10 : i < 10 := Classical.byContradiction (fun z => by rw [tb_lt (n := 10) ha (by omega)] at p; cases p)
    rw [Nat.testBit_two_pow, decide_eq_false (fun e => q e.symm), show (1023 : Nat) = 2 ^ 10 - 1 from rfl, Nat.testBit_two_pow_sub_one, decide_eq_true i10]
    rfl
/-- the three rows of names, as far as the first m sets tell -/
def nm3 (F : Nat → Bool) (n m a b c : Nat) : Prop := ((a < 1024 ∧ b < 1024) ∧ c < 1024) ∧ (∀ i, a.testBit i = true ↔ i < n ∧ ∀ u, u < m → F u = true → u.testBit i = true) ∧ (∀ i, b.testBit i = true ↔ i < n ∧ ∃ u, u < m ∧ F u = true ∧ u.testBit i = true) ∧ ∀ i, c.testBit i = true ↔ i < n ∧ ∀ u, u < m → F u = F (u ^^^ 2 ^ i)
theorem rq_names {N : Nat} (hN : 1048576 ≤ N) {x1 x2 : Int32} {σ : zS} (hC : CI σ) (hR : RI σ) : Pt (f_X12_names N 218 x1 x2 σ) (fun r => V_names x1 x2 (σ.1 219) (σ.1 220) r.1) := by
  rw [f_X12_names.eq_1]
  refine pt_gC (pt_zbq (vr_isRegister hC.1) (fun v hv => pt_if (fun q => pt_some (QE_n (fun z => hv.1 q z.1))) (fun q1 => ?_)))
  refine pt_zbq vr_in (fun v3 hv3 => ?_)
  rw [i64_of] at hv3
  simp only [Int64.reduceToInt] at hv3
  refine pt_if (fun q => pt_some (QE_n (fun z => hv3.1 q z.2))) (fun q3 => ?_)
  have hc : isR (σ.1 219 0) x1 ∧ 0 ≤ x2.toInt ∧ x2.toInt ≤ 2 := ⟨hv.2 q1, hv3.2 q3⟩
  obtain ⟨p, hp, rfl⟩ := isR_n hc.1
  obtain ⟨n, en, n0, n10⟩ := world_n hc.1.1 (RI_n hR).2
  have eM : mn (σ.1 219 0) = 2 ^ n := by rw [en, mnn n0 n10]
  have pn := p2le n10
  have ep := iN (m := p) (by omega)
  have en2 : (σ.1 219 0).toInt.toNat = n := by rw [en]; exact iN (by omega)
  have e1 : nI (2 ^ n) - 1 = nI (2 ^ n - 1) := nI_sub (b := 1) (by omega)
  refine pt_gC (pt_zbq (vr_mn hC.1 (RI_n hR)) (fun v5 h5 => pt_gC (pt_zbq (vr_mn hC.1 (RI_n hR)) (fun v7 h7 => ?_))))
  subst h5
  subst h7
  rw [eM, e1]
  have full : ∀ i, (2 ^ n - 1).testBit i = true ↔ i < n := fun i => by rw [Nat.testBit_two_pow_sub_one, decide_eq_true_iff]
  refine pt_lp (fun x : Int32 × Int32 × Int32 × Int32 × zS => x.2.2.2.2 = σ ∧ ∃ m a b c, (x.2.2.2.1 = nI m ∧ m ≤ 2 ^ n) ∧ (x.1 = nI a ∧ x.2.1 = nI b ∧ x.2.2.1 = nI c) ∧ nm3 (Rg (σ.1 220) p) n m a b c) (fun again x hI ih => ?_) N _ ⟨rfl, 0, 2 ^ n - 1, 0, 2 ^ n - 1, ⟨rfl, Nat.zero_le _⟩, ⟨rfl, rfl, rfl⟩, ⟨⟨by omega, by omega⟩, by omega⟩, fun i => (full i).trans ⟨fun z => ⟨z, fun u hu => absurd hu (Nat.not_lt_zero _)⟩, fun z => z.1⟩, fun i => by rw [Nat.zero_testBit]; exact ⟨fun z => (by cases z), fun ⟨_, u, hu, _⟩ => absurd hu (Nat.not_lt_zero _)⟩, fun i => (full i).trans ⟨fun z => ⟨z, fun u hu => absurd hu (Nat.not_lt_zero _)⟩, fun z => z.1⟩⟩
  obtain ⟨y3, y4, y5, y6, τ⟩ := x
  obtain ⟨eo, m, a, b, c, ⟨e6o, hm⟩, ⟨e3o, e4o, e5o⟩, H⟩ := hI
  have e : τ = σ := eo
  have e6 : y6 = nI m := e6o
  have e3 : y3 = nI a := e3o
  have e4 : y4 = nI b := e4o
  have e5 : y5 = nI c := e5o
  clear eo e6o e3o e4o e5o
  subst e
  subst e6
  subst e3
  subst e4
  subst e5
  obtain ⟨⟨⟨a10, b10⟩, c10⟩, ha, hb, hc3⟩ := H
  rw [F_X12_names_44.eq_1]
  refine pt_gC (pt_zbq (vr_mn hC.1 (RI_n hR)) (fun v hv => ?_))
  subst hv
  rw [eM]
  refine pt_if (fun z => ?_) (fun z => ?_)
  · rw [nlt (by omega) (by omega)] at z
    have em : m = 2 ^ n := by omega
    subst em
    refine pt_if (fun q0 => pt_some (QE_y hc ?_)) (fun q0 => pt_if (fun q => pt_some (QE_y hc ?_)) (fun q => pt_some (QE_y hc ?_)))
    · rw [ep, en2, eM]
      refine ⟨a, ⟨rfl, a10⟩, fun i => ?_⟩
      unfold nfM
      rw [if_neg (by rw [q0]; decide), if_pos q0]
      exact ha i
    · rw [ep, en2, eM]
      refine ⟨b, ⟨rfl, b10⟩, fun i => ?_⟩
      unfold nfM
      rw [if_neg (by rw [q]; decide), if_neg q0]
      exact hb i
    · rw [ep, en2, eM]
      refine ⟨c, ⟨rfl, c10⟩, fun i => ?_⟩
      unfold nfM
      rw [if_pos (by
        have := hc.2
        have n0 : x2.toInt ≠ 0 := fun y => q0 (Int32.toInt_inj.mp (y.trans rfl))
        have n1 : x2.toInt ≠ 1 := fun y => q (Int32.toInt_inj.mp (y.trans rfl))
        exact Int32.toInt_inj.mp (show x2.toInt = 2 by omega))]
      exact hc3 i
  · rw [nlt (by omega) (by omega)] at z
    have m10 : m < 1024 := by omega
    -- the inner loop, with the first two rows as they are behind
    have inner : ∀ a2 b2, (a2 < 1024 ∧ b2 < 1024) → (∀ i, a2.testBit i = true ↔ i < n ∧ ∀ u, u < m + 1 → Rg (τ.1 220) p u = true → u.testBit i = true) → (∀ i, b2.testBit i = true ↔ i < n ∧ ∃ u, u < m + 1 ∧ Rg (τ.1 220) p u = true ∧ u.testBit i = true) → Pt (zlp (F_X12_names_96 N 218 (nI p) x2 (nI a2) (nI b2) (nI m) again) N (nI c, 0, τ)) (fun r => V_names (nI p) x2 (τ.1 219) (τ.1 220) r.1) := fun a2 b2 h10 ha2 hb2 => by
      refine pt_lp (fun x : Int32 × Int32 × zS => x.2.2 = τ ∧ ∃ l c2, (x.2.1 = nI l ∧ l ≤ n) ∧ (x.1 = nI c2 ∧ c2 < 1024) ∧ ∀ i, c2.testBit i = true ↔ (i < n ∧ ∀ u, u < m → Rg (τ.1 220) p u = Rg (τ.1 220) p (u ^^^ 2 ^ i)) ∧ (i < l → Rg (τ.1 220) p m = Rg (τ.1 220) p (m ^^^ 2 ^ i))) (fun again2 x hI ih2 => ?_) N _ ⟨rfl, 0, c, ⟨rfl, Nat.zero_le _⟩, ⟨rfl, c10⟩, fun i => (hc3 i).trans ⟨fun y => ⟨y, fun hi => absurd hi (Nat.not_lt_zero _)⟩, fun y => y.1⟩⟩
      obtain ⟨w5, w7, υ⟩ := x
      obtain ⟨eo, l, c2, ⟨e7o, hl⟩, ⟨e5o, c210⟩, hc2⟩ := hI
      have e : υ = τ := eo
      have e7 : w7 = nI l := e7o
      have e5 : w5 = nI c2 := e5o
      clear eo e7o e5o
      subst e
      subst e7
      subst e5
      rw [F_X12_names_96.eq_1]
      refine pt_gR (v := 219) (hC.1 218 1 rfl) (pt_aI ?_)
      rw [show (0 : Int32).toInt.toNat = 0 from rfl]
      refine pt_if (fun q => ?_) (fun q => ?_)
      · rw [en, nlt (by omega) (by omega)] at q
        rw [nI_s1 (by omega)]
        refine ih (nI a2, nI b2, nI c2, nI (m + 1), υ) ⟨rfl, m + 1, a2, b2, c2, ⟨rfl, by omega⟩, ⟨rfl, rfl, rfl⟩, ⟨h10, c210⟩, ha2, hb2, fun i => (hc2 i).trans ⟨fun y => ⟨y.1.1, fun u hu => ?_⟩, fun y => ⟨⟨y.1, fun u hu => y.2 u (by omega)⟩, fun _ => y.2 m (by omega)⟩⟩⟩
        by_cases k : u = m
        · rw [k]; exact y.2 (by have := y.1.1; omega)
        · exact y.1.2 u (by omega)
      · rw [en, nlt (by omega) (by omega)] at q
        have l10 : l < 10 := by omega
        rw [one10 l l10, nI_xor]
        refine pt_gC (pt_zbq (vr_of hC.1 hp m10) (fun v17 h17 => pt_gC (pt_zbq (vr_of hC.1 hp (x_1024 m10 l10)) (fun v19 h19 => ?_))))
        have k := vb_eq h17 h19
        refine pt_if (fun y => ?_) (fun y => ?_)
        · rw [nI_m1_, nI_s1 (by omega)]
          refine ih2 (nI c2, nI (l + 1), υ) ⟨rfl, l + 1, c2, ⟨rfl, by omega⟩, ⟨rfl, c210⟩, fun i => (hc2 i).trans ⟨fun w => ⟨w.1, fun hi => ?_⟩, fun w => ⟨w.1, fun hi => w.2 (by omega)⟩⟩⟩
          by_cases il : i = l
          · rw [il]; exact k.mp y
          · exact w.2 (by omega)
        · rw [nI_clr c210 l10, nI_s1 (by omega)]
          refine ih2 (nI (c2 &&& (1023 ^^^ 2 ^ l)), nI (l + 1), υ) ⟨rfl, l + 1, c2 &&& (1023 ^^^ 2 ^ l), ⟨rfl, by omega⟩, ⟨rfl, and_1024 c210⟩, fun i => ?_⟩
          rw [clr_tb c210 l10, hc2 i]
          constructor
          · rintro ⟨w, ne⟩
            exact ⟨w.1, fun hi => w.2 (by omega)⟩
          · rintro ⟨w, w2⟩
            refine ⟨⟨w, fun hi => w2 (by omega)⟩, fun il => ?_⟩
            subst il
            exact y (k.mpr (w2 (by omega)))
    have j90 : ∀ a2 y0 b2 : Nat, nI b ||| nI y0 = nI b2 → (a2 < 1024 ∧ b2 < 1024) → (∀ i, a2.testBit i = true ↔ i < n ∧ ∀ u, u < m + 1 → Rg (τ.1 220) p u = true → u.testBit i = true) → (∀ i, b2.testBit i = true ↔ i < n ∧ ∃ u, u < m + 1 ∧ Rg (τ.1 220) p u = true ∧ u.testBit i = true) → Pt (J_X12_names_90 N again 218 (nI p) x2 (nI a2) (nI c) (nI m) (nI y0) (nI b) τ) (fun r => V_names (nI p) x2 (τ.1 219) (τ.1 220) r.1) := fun a2 y0 b2 eb h10 ha2 hb2 => by
      rw [J_X12_names_90.eq_1, eb]
      exact inner a2 b2 h10 ha2 hb2
    have mn2 : ∀ i, m.testBit i = true → i < n := fun i hi => Classical.byContradiction (fun y => by rw [tb_lt (show m < 2 ^ n by omega) (by omega)] at hi; cases hi)
    refine pt_gC (pt_zbq (vr_of hC.1 hp m10) (fun v11 h11 => pt_if (fun y => ?_) (fun y => ?_)))
    · have nf : Rg (τ.1 220) p m = false := vb_f h11 y
      rw [J_X12_names_70.eq_1]
      refine pt_gC (pt_zbq (vr_of hC.1 hp m10) (fun v13 h13 => pt_if (fun y2 => ?_) (fun y2 => absurd (vb_t h13 y2) (by rw [show rb (τ.1 220) (1024 * p) m = false from nf]; decide))))
      rw [nI_m1_]
      refine j90 a 0 b (by rw [nI_or, Nat.or_zero]) ⟨a10, b10⟩ (fun i => (ha i).trans ⟨fun w => ⟨w.1, fun u hu t => ?_⟩, fun w => ⟨w.1, fun u hu => w.2 u (by omega)⟩⟩) (fun i => (hb i).trans ⟨fun ⟨w, u, hu, t⟩ => ⟨w, u, by omega, t⟩, fun ⟨w, u, hu, t⟩ => ⟨w, u, ?_, t⟩⟩)
      · by_cases k : u = m
        · rw [k, nf] at t; cases t
        · exact w.2 u (by omega) t
      · by_cases k : u = m
        · rw [k, nf] at t; cases t.1
        · omega
    · have nt : Rg (τ.1 220) p m = true := vb_t h11 y
      rw [J_X12_names_70.eq_1]
      refine pt_gC (pt_zbq (vr_of hC.1 hp m10) (fun v13 h13 => pt_if (fun y2 => absurd (vb_f h13 y2) (by rw [show rb (τ.1 220) (1024 * p) m = true from nt]; decide)) (fun y2 => ?_)))
      rw [nI_and]
      refine j90 (a &&& m) m (b ||| m) (nI_or b m) ⟨and_1024 a10, or_1024 b10 m10⟩ (fun i => ?_) (fun i => ?_)
      · rw [Nat.testBit_and, Bool.and_eq_true, ha i]
        constructor
        · rintro ⟨w, t⟩
          refine ⟨w.1, fun u hu tu => ?_⟩
          by_cases k : u = m
          · rw [k]; exact t
          · exact w.2 u (by omega) tu
        · rintro ⟨w, t⟩
          exact ⟨⟨w, fun u hu tu => t u (by omega) tu⟩, t m (by omega) nt⟩
      · rw [Nat.testBit_or, Bool.or_eq_true, hb i]
        constructor
        · rintro (⟨w, u, hu, t⟩ | t)
          · exact ⟨w, u, by omega, t⟩
          · exact ⟨mn2 i t, m, by omega, nt, t⟩
        · rintro ⟨w, u, hu, t⟩
          by_cases k : u = m
          · rw [k] at t; exact Or.inr t.2
          · exact Or.inl ⟨w, u, by omega, t⟩
theorem fe_names {S : List Nat} {x1 x2 v w : Int32} {σ σ1 : zS} (hI : IV σ) (hW : WQ σ) (hF : FQ σ) (t1 : FR S σ σ1) (hS : ∀ k ∈ [218, 219, 220, 239], k ∉ S) (c : V_names x1 x2 (σ.1 219) (σ.1 220) v) (r : V_names x1 x2 (σ1.1 219) (σ1.1 220) w) : v = w :=
  fe_V (V := V_names x1 x2) (fun _ _ _ _ h h2 => QE_u (fun _ _ _ => nmP_u) h h2) t1 hS c r

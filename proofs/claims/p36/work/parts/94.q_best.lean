/-! ===== best of both ===== -/
section QBS
variable {F : Nat → Bool} {n m : Nat}
/-- what is answered of n names -/
def bsP (F : Nat → Bool) (n : Nat) (x v : Int32) : Prop := (6 < n → v = -3) ∧ (n ≤ 6 → (n < x.toInt.toNat → v = -1) ∧ (x.toInt.toNat ≤ n → ∃ r, bo F n n 0 = some r ∧ v = if x = 0 then nI (cl F n 0 r) else nI (lo r (x.toInt.toNat - 1))))
theorem bsP_u {x v w : Int32} (h : bsP F n x v) (h2 : bsP F n x w) : v = w := by
  by_cases q : 6 < n
  · rw [h.1 q, h2.1 q]
  · by_cases q2 : n < x.toInt.toNat
    · rw [(h.2 (by omega)).1 q2, (h2.2 (by omega)).1 q2]
    · obtain ⟨r, a, b⟩ := (h.2 (by omega)).2 (by omega)
      obtain ⟨r2, a2, b2⟩ := (h2.2 (by omega)).2 (by omega)
      rw [a] at a2
      rw [b, b2, Option.some.inj a2]
def bsC (x1 x2 : Int32) (g : Nat → Int32) : Prop := isR (g 0) x1 ∧ 0 ≤ x2.toInt ∧ x2.toInt ≤ 10
def V_best (x1 x2 : Int32) (g f : Nat → Int32) (v : Int32) : Prop := QE (bsC x1 x2 g) (bsP (Rg f x1.toInt.toNat) (g 0).toInt.toNat x2) v
/-- the same families cost the same -/
theorem wN_c {G : Nat → Bool} {S v : Nat} (n6 : n ≤ 6) (h : ∀ u, u < 64 → F u = G u) : wN F n S v = wN G n S v := by
  have pn := p6le n6
  have key : ∀ x y, x < 2 ^ n → y < 2 ^ n → F (x ||| y) = G (x ||| y) := fun x y hx hy => h _ (by
    have := Nat.or_lt_two_pow hx hy
    omega)
  have pe : ∀ x x', x < 2 ^ n → x' < 2 ^ n → (PEq F n S x x' ↔ PEq G n S x x') := fun x x' hx hx' => by
    constructor
    · intro p y o; rw [← key _ _ hx' o.1, ← key _ _ hx o.1]; exact p y o
    · intro p y o; rw [key _ _ hx' o.1, key _ _ hx o.1]; exact p y o
  refine ct_c (fun x hx => ?_)
  rw [Bool.eq_iff_iff, bl_t, bl_t]
  constructor
  · rintro ⟨⟨a, b⟩, y, o, c, d⟩
    exact ⟨⟨a, fun x' h1 h2 h3 => b x' h1 h2 ((pe _ _ hx (by omega)).mpr h3)⟩, y, o, c, by rw [← key _ _ hx o.1]; exact d⟩
  · rintro ⟨⟨a, b⟩, y, o, c, d⟩
    exact ⟨⟨a, fun x' h1 h2 h3 => b x' h1 h2 ((pe _ _ hx (by omega)).mp h3)⟩, y, o, c, by rw [key _ _ hx o.1]; exact d⟩
end QBS
theorem uq_best {N : Nat} (hN : 1048576 ≤ N) {x1 x2 : Int32} {σ : zS} (hI : IV σ) (hW : WQ σ) (hF : FQ σ) : Pt (f_X11_best N 0 x1 x2 σ) (fun r => V_best x1 x2 (σ.1 219) (σ.1 220) r.1) := by
  rw [f_X11_best.eq_1]
  refine pt_gC (pt_zbq (lq_isR hW) (fun v hv => pt_if (fun q => pt_some (QE_n (fun z => hv.1 q z.1))) (fun q1 => pt_if (fun z => pt_some (QE_n (fun y => ?_))) (fun z0 => pt_if (fun z2 => ?_) (fun z => pt_some (QE_n (fun y => ?_)))))))
  · rw [Int32.lt_iff_toInt_lt] at z
    simp only [Int32.reduceToInt] at z
    have := y.2
    omega
  · rw [Int32.lt_iff_toInt_lt] at z0
    rw [Int32.le_iff_toInt_le] at z2
    simp only [Int32.reduceToInt] at z0 z2
    have hc : bsC x1 x2 (σ.1 219) := ⟨hv.2 q1, by omega, z2⟩
    obtain ⟨p, hp, rfl⟩ := isR_n hc.1
    have ep := iN (m := p) (by omega)
    obtain ⟨i, hi, rfl⟩ := znI (x := x2) (m := 11) hc.2.1 (by have := hc.2.2; omega)
    have ei := iN (m := i) (by omega)
    obtain ⟨n, en, n0, n10⟩ := world_n hc.1.1 (RI_n hI.1.2).2
    have eB : σ.1 (σ.2.2 0 4) 0 = nI n := (e0_ hW).trans en
    have en2 : (σ.1 219 0).toInt.toNat = n := by rw [en]; exact iN (by omega)
    obtain ⟨F, hFe⟩ : ∃ F, F = Rg (σ.1 220) p := ⟨_, rfl⟩
    have fin : ∀ v, bsP F n (nI i) v → V_best (nI p) (nI i) (σ.1 219) (σ.1 220) v := fun v h => by
      refine QE_y hc ?_
      rw [ep, en2, ← hFe]; exact h
    refine pt_gR rfl (pt_gI ?_)
    rw [eB]
    refine pt_if (fun k => ?_) (fun k => pt_some (fin _ ⟨fun _ => rfl, fun y => ?_⟩))
    · have k : nI n ≤ nI 6 := k
      rw [nlt (by omega) (by omega)] at k
      have pn := p6le k
      refine pt_gR rfl (pt_gI ?_)
      rw [eB]
      refine pt_if (fun k2 => ?_) (fun k2 => pt_some (fin _ ⟨fun y => by omega, fun _ => ⟨fun _ => rfl, fun y => ?_⟩⟩))
      · rw [nlt (by omega) (by omega)] at k2
        refine pt_gR (v := 120) (hI.1.1.1 0 14 rfl) (lq_reg hI hp (pt_gR (v := σ.2.2 0 4) rfl (pt_gI (pt_gC ?_))))
        rw [eB]
        have hk2 := lq_k hI hp
        have Wf : Wof F (σ.2.1 (σ.2.2 0 4 + 6 + 2 * p + 1) 0) := fun u hu => by
          have e : bt (σ.2.1 (σ.2.2 0 4 + 6 + 2 * p + 1)) u = F u := by
            rw [hFe]; exact FQ_f hF hp (show u < 1024 by omega)
          rw [← e]
          unfold bt
          rw [Nat.div_eq_of_lt hu, Nat.mod_eq_of_lt hu]
        have hB4 := IV_4 hI
        refine pt_zb (v_weighAll (F := F) k hI.1.1.1 hk2 (by omega) Wf) (fun _ τ h => ?_)
        obtain ⟨oh, hd⟩ := h
        have oh : OH σ τ := oh
        have hd : ∀ S, S < 2 ^ n → DPs F n (τ.1 122) (τ.1 123) S := hd
        have Rt : RF τ.2.2 := oh.1.R hI.1.1.1
        have J := jn_t n (by omega)
        have p0 : 0 < 2 ^ n := Nat.pow_pos (by decide)
        obtain ⟨r, d1, d2, _⟩ := hd 0 p0
        rw [J.1] at d1
        have out : ∀ v, (v = if nI i = 0 then nI (cl F n 0 r) else nI (lo r (i - 1))) → V_best (nI p) (nI i) (σ.1 219) (σ.1 220) v := fun v h => fin _ ⟨fun y => by omega, fun _ => ⟨fun y => by rw [ei] at y; omega, fun _ => ⟨r, d1, by rw [ei]; exact h⟩⟩⟩
        refine pt_if (fun z => ?_) (fun z => ?_)
        · refine pt_gR (v := 120) (Rt 0 14 rfl) (pt_gC (pt_zbq (σ := τ) (Q := fun v => v = τ.1 122 0) ?_ (fun v hv => pt_some (out _ ?_))))
          · rw [f_X3_fewest.eq_1]
            exact pt_gR (v := 122) (Rt 120 1 rfl) (pt_aI (pt_some ⟨rfl, rfl⟩))
          · rw [if_pos z, show v = τ.1 122 0 from hv]; exact d2
        · have i0 : i ≠ 0 := fun y => z (by rw [y]; rfl)
          refine pt_gR (v := 120) (Rt 0 14 rfl) (pt_gC ?_)
          rw [show nI i - 1 = nI (i - 1) from (by rw [show (1 : Int32) = nI 1 from rfl]; exact nI_sub (by omega))]
          refine pt_zbq (v_nameAt (F := F) k Rt (show i - 1 < n by omega) hd d1) (fun v hv => pt_some (out _ ?_))
          rw [if_neg z]; exact hv
      · rw [nlt (by omega) (by omega)] at k2
        rw [ei] at y; omega
    · have k : ¬ nI n ≤ nI 6 := k
      rw [nlt (by omega) (by omega)] at k
      omega
  · rw [Int32.le_iff_toInt_le] at z
    simp only [Int32.reduceToInt] at z
    have := y.2
    omega
section RBS
variable {N n p : Nat} {σ τ : zS} {F : Nat → Bool}
/-- how far the reference is: what came before, what is to come -/
def BSo (F : Nat → Bool) (n : Nat) (pre : List (List Nat)) (x : Int32) (τ : zS) : Prop := (fsl (cl F n 0) none pre = none ∧ x = -1) ∨ ∃ b, fsl (cl F n 0) none pre = some b ∧ b ∈ lp n n 0 ∧ x = nI (cl F n 0 b) ∧ ∀ j, j < n → τ.1 237 j = nI (lo b j)
def RBL : List Nat := [218, 234, 235, 236, 237]
theorem cl_lp {b : List Nat} (n6 : n ≤ 6) (h : b ∈ lp n n 0) : cl F n 0 b ≤ 384 := by
  have a := cl_le (F := F) n6 b 0
  rw [lp_len h] at a
  omega
theorem chn_h {a : List Nat} {t : List (List Nat)} (h : chn n (a :: t) = true) : (t = [] ∧ NXe n (lo a)) ∨ ∃ b u, t = b :: u ∧ (∃ i k, NXi n (lo a) i k ∧ ∀ j, j < n → lo b j = nxo n (lo a) i k j) ∧ chn n t = true := by
  cases t with
  | nil => exact Or.inl ⟨rfl, lastB_t h⟩
  | cons b u => exact Or.inr ⟨b, u, rfl, nxB_t (and_1 (show (nxB n a b && chn n (b :: u)) = true from h)), and_2 (show (nxB n a b && chn n (b :: u)) = true from h)⟩
theorem NX_u {o : Nat → Nat} {i k i2 k2 : Nat} (h : NXi n o i k) (h2 : NXi n o i2 k2) : i = i2 ∧ k = k2 := by
  have e : i = i2 := by
    by_cases z : i < i2
    · have := h.2.1 i2 z h2.1.1
      have := h2.1.2
      omega
    · by_cases z2 : i2 < i
      · have := h2.2.1 i z2 h.1.1
        have := h.1.2
        omega
      · omega
  subst e
  refine ⟨rfl, ?_⟩
  by_cases z : k < k2
  · have := h.2.2.2 k2 z h2.2.2.1.2.1
    have := h2.2.2.1.2.2
    omega
  · by_cases z2 : k2 < k
    · have := h2.2.2.2 k z2 h.2.2.1.2.1
      have := h.2.2.1.2.2
      omega
    · omega
theorem vr_findsBest (hR : RF σ.2.2) (hp : p < 10) (en : σ.1 219 0 = nI n) (n0 : 0 < n) (n6 : n ≤ 6) : Pt (f_X12_findsBest N 218 (nI p) σ) (fun r => FW_ RBL σ r.2 ∧ ∃ b, bo (Rg (σ.1 220) p) n n 0 = some b ∧ r.1 = nI (cl (Rg (σ.1 220) p) n 0 b) ∧ ∀ j, j < n → r.2.1 237 j = nI (lo b j)) := by
  obtain ⟨F, hFe⟩ : ∃ F, F = Rg (σ.1 220) p := ⟨_, rfl⟩
  rw [← hFe, f_X12_findsBest.eq_1]
  have ck := chk n (by omega) n0
  refine pt_lp (fun t : Int32 × zS => FW_ RBL σ t.2 ∧ ∃ k, (t.1 = nI k ∧ k ≤ 10) ∧ ∀ j, j < k → t.2.1 235 j = nI j) (fun again t hJ ih => ?_) N _ ⟨FW_r, 0, ⟨rfl, Nat.zero_le _⟩, fun j hj => absurd hj (Nat.not_lt_zero _)⟩
  obtain ⟨x3, τ⟩ := t
  obtain ⟨f, k, ⟨e3, hk⟩, hl⟩ := hJ
  have f : FW_ RBL σ τ := f
  have e3 : x3 = nI k := e3
  have hl : ∀ j, j < k → τ.1 235 j = nI j := hl
  subst e3
  have Rt : RF τ.2.2 := by rw [f.1]; exact hR
  rw [F_X12_findsBest_4.eq_1]
  refine pt_if (fun q => ?_) (fun q => ?_)
  · have q : nI 10 ≤ nI k := q
    rw [nlt (by omega) (by omega)] at q
    have e10 : k = 10 := by omega
    subst e10
    -- over all orders
    have hd : (lp n n 0).headD [] = List.range n := eq_of_beq (and_2 ck)
    obtain ⟨a0, t0, e0⟩ : ∃ a t, lp n n 0 = a :: t := by
      cases q2 : lp n n 0 with
      | nil => rw [q2] at hd; have := congrArg List.length hd; rw [List.length_range] at this; exact absurd this (by show ¬ 0 = n; omega)
      | cons a t => exact ⟨a, t, rfl⟩
    have ea : a0 = List.range n := by rw [e0] at hd; exact hd
    have ini : RPl n (lo a0) τ := fun j hj => by
      rw [ea, hl j (by omega)]
      congr 1
      unfold lo
      rw [List.getD_eq_getElem?_getD, List.getElem?_range hj]; rfl
    refine pt_lp (fun t : Int32 × Int32 × zS => FW_ RBL σ t.2.2 ∧ ((∃ b, bo F n n 0 = some b ∧ t.1 = nI (cl F n 0 b) ∧ ∀ j, j < n → t.2.2.1 237 j = nI (lo b j)) ∧ t.2.1 = 0 ∨ (¬ t.2.1 = 0 ∧ ∃ pre a rest, lp n n 0 = pre ++ a :: rest ∧ chn n (a :: rest) = true ∧ RPl n (lo a) t.2.2 ∧ BSo F n pre t.1 t.2.2))) (fun again25 t hJ ih25 => ?_) N _ ⟨f, Or.inr ⟨(by decide : ¬ (1 : Int32) = 0), [], a0, t0, e0, by rw [← e0]; exact and_1 ck, ini, Or.inl ⟨rfl, rfl⟩⟩⟩
    obtain ⟨x2, x3, φ⟩ := t
    obtain ⟨g, hJ⟩ := hJ
    have g : FW_ RBL σ φ := g
    have hJ : (∃ b, bo F n n 0 = some b ∧ x2 = nI (cl F n 0 b) ∧ ∀ j, j < n → φ.1 237 j = nI (lo b j)) ∧ x3 = 0 ∨ (¬ x3 = 0 ∧ ∃ pre a rest, lp n n 0 = pre ++ a :: rest ∧ chn n (a :: rest) = true ∧ RPl n (lo a) φ ∧ BSo F n pre x2 φ) := hJ
    rw [F_X12_findsBest_25.eq_1]
    refine pt_if (fun z => ?_) (fun z => ?_)
    · exact pt_some ⟨g, (hJ.resolve_right (fun y => y.1 z)).1⟩
    · obtain ⟨_, pre, a, rest, e1, hc, hpl, hb⟩ := hJ.resolve_left (fun y => z y.2)
      have am : a ∈ lp n n 0 := by rw [e1]; exact List.mem_append_right _ List.mem_cons_self
      have P := lp_pm (show n < 7 by omega) am
      have Rp : RF φ.2.2 := by rw [g.1]; exact hR
      have g19 : φ.1 219 = σ.1 219 := g.2 219 (by decide)
      have g20 : φ.1 220 = σ.1 220 := g.2 220 (by decide)
      refine pt_gC (pt_zb (vr_nodesOf (n := n) (a := lo a) Rp hp (by rw [g19]; exact en) (by omega) P hpl) (fun v1 ψ h => ?_))
      obtain ⟨g2, ev⟩ := h
      have g2 : FW_ NRL φ ψ := g2
      have ev : v1 = nI (aN (Gs (Rg (φ.1 220) p) (lo a) n) n 1) := ev
      rw [g20, ← hFe, cl_nodes (show n < 7 by omega) am] at ev
      subst ev
      have g3 : FW_ RBL σ ψ := FW_t (S := NRL) (by decide) g g2
      have Rs : RF ψ.2.2 := by rw [g3.1]; exact hR
      have s19 : ψ.1 219 = σ.1 219 := g3.2 219 (by decide)
      have s37 : ψ.1 237 = φ.1 237 := g2.2 237 (by decide)
      have spl : RPl n (lo a) ψ := fun j hj => by rw [g2.2 235 (by decide)]; exact hpl j hj
      have ca := cl_lp (F := F) n6 am
      have step : fsl (cl F n 0) none (pre ++ [a]) = fup (cl F n 0) (fsl (cl F n 0) none pre) a := by rw [fsl_a]; rfl
      -- to the next order
      have nxt : ∀ (x : Int32) (ω : zS), FW_ RBL σ ω → RPl n (lo a) ω → (∃ b, fsl (cl F n 0) none (pre ++ [a]) = some b ∧ b ∈ lp n n 0 ∧ x = nI (cl F n 0 b) ∧ ∀ j, j < n → ω.1 237 j = nI (lo b j)) → Pt (zb (f_X12_nextOrder N 218 (nI n) ω) fun v5 σ6 => again25 (x, v5, σ6)) (fun r => FW_ RBL σ r.2 ∧ ∃ b, bo F n n 0 = some b ∧ r.1 = nI (cl F n 0 b) ∧ ∀ j, j < n → r.2.1 237 j = nI (lo b j)) := fun x ω k1 k2 ⟨b, k3, kb, k4, k5⟩ => by
        have Rw : RF ω.2.2 := by rw [k1.1]; exact hR
        refine pt_zb (vr_nextOrder (n := n) (o := lo a) Rw n0 (by omega) (fun j hj => by have := P.1 j hj; omega) k2) (fun v5 υ h => ?_)
        obtain ⟨l1, l2, l3⟩ := h
        have l1 : FW_ [235] ω υ := l1
        have l2 : (∃ i k, NXi n (lo a) i k) → ∃ i k, NXi n (lo a) i k ∧ v5 = 1 ∧ RPl n (nxo n (lo a) i k) υ := l2
        have l3 : NXe n (lo a) → v5 = 0 := l3
        have k6 : ∀ j, j < n → υ.1 237 j = nI (lo b j) := fun j hj => by rw [l1.2 237 (by decide)]; exact k5 j hj
        refine ih25 (x, v5, υ) ⟨FW_t (S := [235]) (by decide) k1 l1, ?_⟩
        rcases chn_h hc with ⟨er, he⟩ | ⟨b2, u, er, ⟨i, k, hx, hy⟩, hc2⟩
        · refine Or.inl ⟨⟨b, ?_, k4, k6⟩, l3 he⟩
          show fsl (cl F n 0) none (lp n n 0) = some b
          rw [e1, er]; exact k3
        · obtain ⟨i2, k2', hx2, ev5, hr⟩ := l2 ⟨i, k, hx⟩
          obtain ⟨ei, ek⟩ := NX_u hx hx2
          subst ei
          subst ek
          refine Or.inr ⟨by show ¬ v5 = 0; rw [ev5]; decide, pre ++ [a], b2, u, by rw [e1, er]; exact (List.append_assoc pre [a] (b2 :: u)).symm, by rw [er] at hc2; exact hc2, fun j hj => ?_, Or.inr ⟨b, k3, kb, k4, k6⟩⟩
          show υ.1 235 j = _
          rw [hr j hj, hy j hj]
      -- the best is kept
      have take : fsl (cl F n 0) none (pre ++ [a]) = some a → Pt (J_X12_findsBest_47 N again25 218 (nI p) (nI (cl F n 0 a)) ψ) (fun r => FW_ RBL σ r.2 ∧ ∃ b, bo F n n 0 = some b ∧ r.1 = nI (cl F n 0 b) ∧ ∀ j, j < n → r.2.1 237 j = nI (lo b j)) := fun es => by
        rw [J_X12_findsBest_47.eq_1]
        refine pt_lp (fun t : Int32 × zS => FW_ [237] ψ t.2 ∧ ∃ k, (t.1 = nI k ∧ k ≤ 10) ∧ ∀ j, j < k → t.2.1 237 j = ψ.1 235 j) (fun again53 t hJ ih53 => ?_) N _ ⟨FW_r, 0, ⟨rfl, Nat.zero_le _⟩, fun j hj => absurd hj (Nat.not_lt_zero _)⟩
        obtain ⟨x5, ω⟩ := t
        obtain ⟨w, c, ⟨e5, hc5⟩, hcp⟩ := hJ
        have w : FW_ [237] ψ ω := w
        have e5 : x5 = nI c := e5
        have hcp : ∀ j, j < c → ω.1 237 j = ψ.1 235 j := hcp
        subst e5
        have Rw : RF ω.2.2 := by rw [w.1]; exact Rs
        rw [F_X12_findsBest_53.eq_1]
        refine pt_if (fun y => ?_) (fun y => ?_)
        · have y : nI 10 ≤ nI c := y
          rw [nlt (by omega) (by omega)] at y
          refine pt_gR (v := 219) (Rw 218 1 rfl) (pt_aI (pt_gC ?_))
          rw [show (0 : Int32).toInt.toNat = 0 from rfl, w.2 219 (by decide), s19, en]
          refine nxt _ ω (FW_t (S := [237]) (by decide) g3 w) (fun j hj => by rw [w.2 235 (by decide)]; exact spl j hj) ⟨a, es, am, rfl, fun j hj => ?_⟩
          rw [hcp j (by omega)]
          exact spl j hj
        · have y : ¬ nI 10 ≤ nI c := y
          rw [nlt (by omega) (by omega)] at y
          refine pt_gR (v := 237) (Rw 218 33 rfl) (pt_gR (v := 235) (Rw 218 30 rfl) (pt_aI (pt_s14x (fun υ a4 b4 c4 => ?_))))
          rw [iN (m := c) (by omega)] at a4
          rw [nI_m1]
          refine ih53 (nI (c + 1), υ) ⟨⟨c4.trans w.1, fun b hb => ?_⟩, c + 1, ⟨rfl, by omega⟩, fun j hj => ?_⟩
          · show υ.1 b = _
            rw [b4 b (fun z => hb (by rw [z]; decide))]
            exact w.2 b hb
          · show υ.1 237 j = _
            rw [a4, upd_i]
            by_cases z : j = c
            · rw [if_pos z, z, w.2 235 (by decide)]
            · rw [if_neg z]; exact hcp j (by omega)
      rcases hb with ⟨b1, b2⟩ | ⟨b, b1, bm, b2, b3⟩
      · subst b2
        refine pt_if (fun _ => take (by rw [step, b1]; rfl)) (fun y => absurd rfl y)
      · subst b2
        have cb := cl_lp (F := F) n6 bm
        refine pt_if (fun y => ?_) (fun _ => pt_if (fun y => ?_) (fun y => ?_))
        · have := congrArg Int32.toInt y
          rw [nI_toInt (by omega)] at this
          simp only [Int32.reduceToInt] at this
          omega
        · rw [nlt (by omega) (by omega)] at y
          refine pt_gR (v := 219) (Rs 218 1 rfl) (pt_aI (pt_gC ?_))
          rw [show (0 : Int32).toInt.toNat = 0 from rfl, s19, en]
          refine nxt _ ψ g3 spl ⟨b, ?_, bm, rfl, fun j hj => by rw [s37]; exact b3 j hj⟩
          rw [step, b1, fup_f (by omega)]
        · rw [nlt (by omega) (by omega)] at y
          refine take ?_
          rw [step, b1, fup_t (by omega)]
  · have q : ¬ nI 10 ≤ nI k := q
    rw [nlt (by omega) (by omega)] at q
    refine pt_gR (v := 235) (Rt 218 30 rfl) (pt_s14x (fun υ a4 b4 c4 => ?_))
    rw [iN (m := k) (by omega)] at a4
    rw [nI_m1]
    refine ih (nI (k + 1), υ) ⟨⟨c4.trans f.1, fun b hb => ?_⟩, k + 1, ⟨rfl, by omega⟩, fun j hj => ?_⟩
    · show υ.1 b = _
      rw [b4 b (fun z => hb (by rw [z]; decide))]
      exact f.2 b hb
    · show υ.1 235 j = _
      rw [a4, upd_i]
      by_cases z : j = k
      · rw [if_pos z, z]
      · rw [if_neg z]; exact hl j (by omega)
end RBS
theorem rq_best {N : Nat} (hN : 1048576 ≤ N) {x1 x2 : Int32} {σ : zS} (hC : CI σ) (hR : RI σ) : Pt (f_X12_best N 218 x1 x2 σ) (fun r => V_best x1 x2 (σ.1 219) (σ.1 220) r.1) := by
  rw [f_X12_best.eq_1]
  refine pt_gC (pt_zbq (vr_isRegister hC.1) (fun v hv => pt_if (fun q => pt_some (QE_n (fun z => hv.1 q z.1))) (fun q1 => ?_)))
  refine pt_zbq vr_in (fun v3 hv3 => pt_if (fun q => pt_some (QE_n (fun z => hv3.1 q ?_))) (fun q3 => ?_))
  · rw [i64_of]
    exact z.2
  · have h2 := hv3.2 q3
    rw [i64_of] at h2
    have hc : bsC x1 x2 (σ.1 219) := ⟨hv.2 q1, h2⟩
    obtain ⟨p, hp, rfl⟩ := isR_n hc.1
    have ep := iN (m := p) (by omega)
    obtain ⟨i, hi, rfl⟩ := znI (x := x2) (m := 11) hc.2.1 (by have := hc.2.2; omega)
    have ei := iN (m := i) (by omega)
    obtain ⟨n, en, n0, n10⟩ := world_n (σ := σ) (B := 219) hc.1.1 (RI_n hR).2
    have en2 : (σ.1 219 0).toInt.toNat = n := by rw [en]; exact iN (by omega)
    have fin : ∀ v, bsP (Rg (σ.1 220) p) n (nI i) v → V_best (nI p) (nI i) (σ.1 219) (σ.1 220) v := fun v h => by
      refine QE_y hc ?_
      rw [ep, en2]; exact h
    refine pt_gR (v := 219) (hC.1 218 1 rfl) (pt_aI ?_)
    rw [show (0 : Int32).toInt.toNat = 0 from rfl, en]
    refine pt_if (fun k => ?_) (fun k => pt_some (fin _ ⟨fun _ => rfl, fun y => ?_⟩))
    · have k : nI n ≤ nI 6 := k
      rw [nlt (by omega) (by omega)] at k
      refine pt_gC (pt_zb (vr_findsBest (n := n) hC.1 hp en n0 k) (fun v7 τ h => ?_))
      obtain ⟨f, b, hb, ev, hl⟩ := h
      have f : FW_ RBL σ τ := f
      have ev : v7 = nI (cl (Rg (σ.1 220) p) n 0 b) := ev
      have hl : ∀ j, j < n → τ.1 237 j = nI (lo b j) := hl
      have Rt : RF τ.2.2 := by rw [f.1]; exact hC.1
      refine pt_if (fun z => pt_some (fin _ ⟨fun y => by omega, fun _ => ⟨fun y => ?_, fun _ => ⟨b, hb, ?_⟩⟩⟩)) (fun z => ?_)
      · rw [ei] at y
        have : i = 0 := (nI_inj (by omega) (by omega)).mp (show nI i = nI 0 from z)
        omega
      · show v7 = _
        rw [if_pos z]; exact ev
      · have i0 : i ≠ 0 := fun y => z (by rw [y]; rfl)
        refine pt_gR (v := 219) (Rt 218 1 rfl) (pt_aI ?_)
        rw [show (0 : Int32).toInt.toNat = 0 from rfl, f.2 219 (by decide), en]
        refine pt_if (fun z2 => ?_) (fun z2 => pt_some (fin _ ⟨fun y => by omega, fun _ => ⟨fun _ => rfl, fun y => ?_⟩⟩))
        · rw [nlt (by omega) (by omega)] at z2
          refine pt_gR (v := 237) (Rt 218 33 rfl) (pt_aI (pt_some (fin _ ⟨fun y => by omega, fun _ => ⟨fun y => ?_, fun _ => ⟨b, hb, ?_⟩⟩⟩)))
          · rw [ei] at y; omega
          · rw [if_neg z, ei]
            show τ.1 237 (nI i - 1).toInt.toNat = _
            rw [show nI i - 1 = nI (i - 1) from (by rw [show (1 : Int32) = nI 1 from rfl]; exact nI_sub (by omega)), iN (m := i - 1) (by omega)]
            exact hl _ (by omega)
        · rw [nlt (by omega) (by omega)] at z2
          rw [ei] at y; omega
    · have k : ¬ nI n ≤ nI 6 := k
      rw [nlt (by omega) (by omega)] at k
      omega
theorem fe_best {S : List Nat} {x1 x2 v w : Int32} {σ σ1 : zS} (hI : IV σ) (hW : WQ σ) (hF : FQ σ) (t1 : FR S σ σ1) (hS : ∀ k ∈ [218, 219, 220, 239], k ∉ S) (c : V_best x1 x2 (σ.1 219) (σ.1 220) v) (r : V_best x1 x2 (σ1.1 219) (σ1.1 220) w) : v = w :=
  fe_V (V := V_best x1 x2) (fun _ _ _ _ h h2 => QE_u (fun _ _ _ => bsP_u) h h2) t1 hS c r

/-! ===== weighs ===== -/
section WGH
variable {F : Nat → Bool} {W : Nat → Int32} {M : Nat}
def swN (F : Nat → Bool) (W : Nat → Int32) : Nat → Int32
  | 0 => 0
  | k + 1 => swN F W k + (if F k = true then W k else 0)
theorem sw_t {k : Nat} (h : F k = true) : swN F W (k + 1) = swN F W k + W k := by
  show swN F W k + (if F k = true then W k else 0) = _
  rw [if_pos h]
theorem sw_f {k : Nat} (h : F k = false) : swN F W (k + 1) = swN F W k := by
  show swN F W k + (if F k = true then W k else 0) = _
  rw [if_neg (by rw [h]; decide), Int32.add_zero]
theorem sw_top {a b : Nat} (h : a ≤ b) (hz : ∀ u, a ≤ u → u < b → F u = false) : swN F W b = swN F W a := by
  induction b with
  | zero => rw [show a = 0 by omega]
  | succ b ih =>
    by_cases e : a = b + 1
    · rw [e]
    · rw [sw_f (hz b (by omega) (by omega))]
      exact ih (by omega) (fun u h1 h2 => hz u h1 (by omega))
/-- the least of the members below k, or z if there is none -/
def mnI (F : Nat → Bool) (W : Nat → Int32) (z : Int) (k : Nat) (x : Int32) : Prop := ((∀ u, u < k → F u = false) ∧ x.toInt = z) ∨ ((∃ u, u < k ∧ F u = true ∧ x.toInt = (W u).toInt) ∧ ∀ u, u < k → F u = true → x.toInt ≤ (W u).toInt)
def mxI (F : Nat → Bool) (W : Nat → Int32) (z : Int) (k : Nat) (x : Int32) : Prop := ((∀ u, u < k → F u = false) ∧ x.toInt = z) ∨ ((∃ u, u < k ∧ F u = true ∧ x.toInt = (W u).toInt) ∧ ∀ u, u < k → F u = true → (W u).toInt ≤ x.toInt)
theorem mn_top {z : Int} {a b : Nat} {x : Int32} (h : a ≤ b) (hz : ∀ u, a ≤ u → u < b → F u = false) (m : mnI F W z a x) : mnI F W z b x := by
  have c : ∀ u, u < b → F u = true → u < a := fun u hu hf => by
    by_cases q : u < a
    · exact q
    · rw [hz u (by omega) hu] at hf; cases hf
  rcases m with ⟨m1, m2⟩ | ⟨⟨u, m1, m2, m3⟩, m4⟩
  · refine Or.inl ⟨fun u hu => ?_, m2⟩
    by_cases q : u < a
    · exact m1 u q
    · exact hz u (by omega) hu
  · exact Or.inr ⟨⟨u, by omega, m2, m3⟩, fun u hu hf => m4 u (c u hu hf) hf⟩
theorem mx_top {z : Int} {a b : Nat} {x : Int32} (h : a ≤ b) (hz : ∀ u, a ≤ u → u < b → F u = false) (m : mxI F W z a x) : mxI F W z b x := by
  have c : ∀ u, u < b → F u = true → u < a := fun u hu hf => by
    by_cases q : u < a
    · exact q
    · rw [hz u (by omega) hu] at hf; cases hf
  rcases m with ⟨m1, m2⟩ | ⟨⟨u, m1, m2, m3⟩, m4⟩
  · refine Or.inl ⟨fun u hu => ?_, m2⟩
    by_cases q : u < a
    · exact m1 u q
    · exact hz u (by omega) hu
  · exact Or.inr ⟨⟨u, by omega, m2, m3⟩, fun u hu hf => m4 u (c u hu hf) hf⟩
theorem mn_new {z : Int} {k : Nat} {x : Int32} (h : F k = true) (hz : (W k).toInt ≤ z ∨ ∃ u, u < k ∧ F u = true) (m : mnI F W z k x) : mnI F W z (k + 1) (zmin x (W k)) := by
  have e := ti_zmin x (W k)
  rcases m with ⟨m1, m2⟩ | ⟨⟨u, m1, m2, m3⟩, m4⟩
  · have hz : (W k).toInt ≤ z := by
      rcases hz with q | ⟨u, a, b⟩
      · exact q
      · rw [m1 u a] at b; cases b
    have e2 : (zmin x (W k)).toInt = (W k).toInt := by
      rw [e]
      split <;> omega
    refine Or.inr ⟨⟨k, by omega, h, e2⟩, fun u hu hf => ?_⟩
    by_cases q : u = k
    · rw [q, e2]; exact Int.le_refl _
    · rw [m1 u (by omega)] at hf; cases hf
  · refine Or.inr ⟨?_, fun v hv hf => ?_⟩
    · by_cases q : (W k).toInt < x.toInt
      · rw [if_pos q] at e
        exact ⟨k, by omega, h, e⟩
      · rw [if_neg q] at e
        exact ⟨u, by omega, m2, e.trans m3⟩
    · have b : (zmin x (W k)).toInt ≤ x.toInt ∧ (zmin x (W k)).toInt ≤ (W k).toInt := by
        rw [e]
        split <;> omega
      by_cases q : v = k
      · rw [q]; exact b.2
      · have := m4 v (by omega) hf
        omega
theorem mx_new {z : Int} {k : Nat} {x : Int32} (h : F k = true) (hz : z ≤ (W k).toInt ∨ ∃ u, u < k ∧ F u = true) (m : mxI F W z k x) : mxI F W z (k + 1) (zmax x (W k)) := by
  have e := ti_zmax x (W k)
  rcases m with ⟨m1, m2⟩ | ⟨⟨u, m1, m2, m3⟩, m4⟩
  · have hz : z ≤ (W k).toInt := by
      rcases hz with q | ⟨u, a, b⟩
      · exact q
      · rw [m1 u a] at b; cases b
    have e2 : (zmax x (W k)).toInt = (W k).toInt := by
      rw [e]
      split <;> omega
    refine Or.inr ⟨⟨k, by omega, h, e2⟩, fun u hu hf => ?_⟩
    by_cases q : u = k
    · rw [q, e2]; exact Int.le_refl _
    · rw [m1 u (by omega)] at hf; cases hf
  · have b : x.toInt ≤ (zmax x (W k)).toInt ∧ (W k).toInt ≤ (zmax x (W k)).toInt := by
      rw [e]
      split <;> omega
    have b2 : (zmax x (W k)).toInt = x.toInt ∨ (zmax x (W k)).toInt = (W k).toInt := by
      rw [e]
      split
      · exact Or.inr rfl
      · exact Or.inl rfl
    refine Or.inr ⟨?_, fun v hv hf => ?_⟩
    · rcases b2 with q | q
      · exact ⟨u, by omega, m2, q.trans m3⟩
      · exact ⟨k, by omega, h, q⟩
    · by_cases q : v = k
      · rw [q]; exact b.2
      · have := m4 v (by omega) hf
        omega
theorem mn_u {z : Int} {v w : Int32} (h : mnI F W z M v) (h2 : mnI F W z M w) : v = w := by
  apply Int32.toInt_inj.mp
  rcases h with ⟨a1, a2⟩ | ⟨⟨u, a1, a2, a3⟩, a4⟩
  · rcases h2 with ⟨b1, b2⟩ | ⟨⟨u, b1, b2, b3⟩, b4⟩
    · omega
    · rw [a1 u b1] at b2; cases b2
  · rcases h2 with ⟨b1, b2⟩ | ⟨⟨u2, b1, b2, b3⟩, b4⟩
    · rw [b1 u a1] at a2; cases a2
    · have := a4 u2 b1 b2
      have := b4 u a1 a2
      omega
theorem mx_u {z : Int} {v w : Int32} (h : mxI F W z M v) (h2 : mxI F W z M w) : v = w := by
  apply Int32.toInt_inj.mp
  rcases h with ⟨a1, a2⟩ | ⟨⟨u, a1, a2, a3⟩, a4⟩
  · rcases h2 with ⟨b1, b2⟩ | ⟨⟨u, b1, b2, b3⟩, b4⟩
    · omega
    · rw [a1 u b1] at b2; cases b2
  · rcases h2 with ⟨b1, b2⟩ | ⟨⟨u2, b1, b2, b3⟩, b4⟩
    · rw [b1 u a1] at a2; cases a2
    · have := a4 u2 b1 b2
      have := b4 u a1 a2
      omega
/-- from another beginning: there is a member -/
theorem mn_z {z z' : Int} {x : Int32} (hm : ∃ u, u < M ∧ F u = true) (m : mnI F W z M x) : mnI F W z' M x := by
  rcases m with ⟨m1, _⟩ | m
  · obtain ⟨u, a, b⟩ := hm
    rw [m1 u a] at b; cases b
  · exact Or.inr m
theorem mx_z {z z' : Int} {x : Int32} (hm : ∃ u, u < M ∧ F u = true) (m : mxI F W z M x) : mxI F W z' M x := by
  rcases m with ⟨m1, _⟩ | m
  · obtain ⟨u, a, b⟩ := hm
    rw [m1 u a] at b; cases b
  · exact Or.inr m
def wgP (F : Nat → Bool) (W : Nat → Int32) (M : Nat) (x v : Int32) : Prop := (x = 0 → mnI F W (-1) M v) ∧ (x = 1 → mxI F W (-1) M v) ∧ (¬ x = 0 → ¬ x = 1 → v = swN F W M)
theorem wgP_u {x v w : Int32} (h : wgP F W M x v) (h2 : wgP F W M x w) : v = w := by
  by_cases q0 : x = 0
  · exact mn_u (h.1 q0) (h2.1 q0)
  · by_cases q1 : x = 1
    · exact mx_u (h.2.1 q1) (h2.2.1 q1)
    · exact (h.2.2 q0 q1).trans (h2.2.2 q0 q1).symm
end WGH
theorem wg_b {g : Nat → Int32} (hb : WB9 g) {s : Nat} : ∀ k, k ≤ 10 → 0 ≤ (wsN (fun j => g (3 + j)) s k).toInt ∧ (wsN (fun j => g (3 + j)) s k).toInt ≤ 99 * k
  | 0, _ => by
    show 0 ≤ (0 : Int32).toInt ∧ (0 : Int32).toInt ≤ _
    simp only [Int32.reduceToInt]
    omega
  | k + 1, h => by
    have ih := wg_b hb (s := s) k (by omega)
    have b := hb k (by omega)
    show 0 ≤ (wsN (fun j => g (3 + j)) s k + (if s.testBit k = true then g (3 + k) else 0)).toInt ∧ (wsN (fun j => g (3 + j)) s k + (if s.testBit k = true then g (3 + k) else 0)).toInt ≤ _
    have c : 0 ≤ (if s.testBit k = true then g (3 + k) else 0).toInt ∧ (if s.testBit k = true then g (3 + k) else 0).toInt ≤ 99 := by
      split
      · exact b
      · decide
    rw [ti_add]
    omega
theorem Wg_b {g : Nat → Int32} (hb : WB9 g) (s : Nat) : 0 ≤ (Wg g s).toInt ∧ (Wg g s).toInt ≤ 990 := by
  have := wg_b hb (s := s) 10 (Nat.le_refl _)
  unfold Wg
  omega
def wgC (x1 x2 : Int32) (g : Nat → Int32) : Prop := isR (g 0) x1 ∧ 0 ≤ x2.toInt ∧ x2.toInt ≤ 2
def V_weighs (x1 x2 : Int32) (g f : Nat → Int32) (v : Int32) : Prop := QE (wgC x1 x2 g) (wgP (Rg f x1.toInt.toNat) (Wg g) (mn (g 0)) x2) v
theorem uq_weighs {N : Nat} (hN : 1048576 ≤ N) {x1 x2 : Int32} {σ : zS} (hI : IV σ) (hW : WQ σ) (hF : FQ σ) (hG : GQ σ) : Pt (f_X11_weighs N 0 x1 x2 σ) (fun r => V_weighs x1 x2 (σ.1 219) (σ.1 220) r.1) := by
  rw [f_X11_weighs.eq_1]
  refine pt_gC (pt_zbq (lq_isR hW) (fun v hv => pt_if (fun q => pt_some (QE_n (fun z => hv.1 q z.1))) (fun q1 => pt_if (fun z => pt_some (QE_n (fun y => ?_))) (fun z0 => pt_if (fun z2 => ?_) (fun z => pt_some (QE_n (fun y => ?_)))))))
  · rw [Int32.lt_iff_toInt_lt] at z
    simp only [Int32.reduceToInt] at z
    have := y.2
    omega
  · rw [Int32.lt_iff_toInt_lt] at z0
    rw [Int32.le_iff_toInt_le] at z2
    simp only [Int32.reduceToInt] at z0 z2
    have hc : wgC x1 x2 (σ.1 219) := ⟨hv.2 q1, by omega, z2⟩
    obtain ⟨p, hp, rfl⟩ := isR_n hc.1
    have ep := iN (m := p) (by omega)
    obtain ⟨n, en, n0, n10⟩ := world_n hc.1.1 (RI_n hI.1.2).2
    have eB : σ.1 (σ.2.2 0 4) 0 = nI n := (e0_ hW).trans en
    have eM : mn (σ.1 219 0) = 2 ^ n := by rw [en, mnn n0 n10]
    have pn := p2le n10
    obtain ⟨F, hFe⟩ : ∃ F, F = Rg (σ.1 220) p := ⟨_, rfl⟩
    obtain ⟨W, hWe⟩ : ∃ W, W = Wg (σ.1 219) := ⟨_, rfl⟩
    have Wb : ∀ s, 0 ≤ (W s).toInt ∧ (W s).toInt ≤ 990 := fun s => by rw [hWe]; exact Wg_b hG.2.1.1 s
    have hk2 := lq_k hI hp
    have fF : ∀ u, u < 1024 → bt (σ.2.1 (σ.2.2 0 4 + 6 + 2 * p + 1)) u = F u := fun u hu => by rw [hFe]; exact FQ_f hF hp hu
    have fM : ∀ u, u < 1024 → F u = true → u < 2 ^ n := fun u hu h => by rw [← eM]; rw [hFe] at h; exact FQ_i hF hp hu h
    have fin : ∀ v, wgP F W (2 ^ n) x2 v → V_weighs (nI p) x2 (σ.1 219) (σ.1 220) v := fun v h => by
      refine QE_y hc ?_
      rw [ep, eM, ← hFe, ← hWe]; exact h
    refine pt_gR (v := 108) (hI.1.1.1 0 12 rfl) (pt_gR (v := σ.2.2 0 4) rfl (lq_reg hI hp (pt_gC ?_)))
    refine pt_zb (Q := fun r => wgP F W (2 ^ n) x2 r.1) ?_ (fun v8 σ9 h8 => pt_some (fin _ h8))
    rw [f_X8_sum.eq_1]
    refine pt_gC (pt_zbq (v_isEmpty hI.1.1.1 hk2) (fun v1 h1 => pt_if (fun e0 => ?_) (fun e1 => ?_)))
    · have hm : ∃ u, u < 2 ^ n ∧ F u = true := by
        by_cases q : ∃ u, u < 2 ^ n ∧ F u = true
        · exact q
        · have := h1.2.mpr (fun u hu => by
            rw [fF u hu]
            cases y : F u with
            | false => rfl
            | true => exact absurd ⟨u, fM u hu y, y⟩ q)
          rw [e0] at this
          exact absurd this (by decide)
      refine pt_gC (pt_zb (v_weighSets (isWc4 (IV_4 hI)) hI.1.1.1 eB n10) (fun _ σ4 h4 => ?_))
      obtain ⟨s2, so, sl⟩ := h4
      have s2 : σ4.2 = σ.2 := s2
      have sl : ∀ s, s < 2 ^ n → σ4.1 109 s = W s := fun s hs => by
        rw [hWe, ← lq_W hW en n0 n10 hs]; exact sl s hs
      have R4 : RF σ4.2.2 := by rw [s2]; exact hI.1.1.1
      have rw4 : σ4.2.1 (σ.2.2 0 4 + 6 + 2 * p + 1) = σ.2.1 (σ.2.2 0 4 + 6 + 2 * p + 1) := by rw [s2]
      refine pt_gC (pt_zbq (v_firstFrom (s := 0) R4 hk2 (by omega)) (fun v5 h5 => ?_))
      rw [rw4] at h5
      refine pt_lp (fun x : Int32 × Int32 × Int32 × Int32 × Int32 × zS => x.2.2.2.2.2 = σ4 ∧ ∃ fr, (fr ≤ 1024 ∧ fsQ (bt (σ.2.1 (σ.2.2 0 4 + 6 + 2 * p + 1))) fr x.2.2.2.1) ∧ x.2.2.2.2.1 = nI (ct F fr) ∧ mnI F W 990 fr x.1 ∧ mxI F W 0 fr x.2.1 ∧ x.2.2.1 = swN F W fr) (fun again x hJ ih => ?_) N _ ⟨rfl, 0, ⟨by omega, h5⟩, rfl, Or.inl ⟨fun u hu => absurd hu (Nat.not_lt_zero _), (by decide : (990 : Int32).toInt = 990)⟩, Or.inl ⟨fun u hu => absurd hu (Nat.not_lt_zero _), (by decide : (0 : Int32).toInt = 0)⟩, rfl⟩
      obtain ⟨y4, y5, y6, y7, y8, τ⟩ := x
      obtain ⟨eo, fr, ⟨hf, hfs⟩, e8o, h4, h5, e6o⟩ := hJ
      have e : τ = σ4 := eo
      have hfs : fsQ (bt (σ.2.1 (σ.2.2 0 4 + 6 + 2 * p + 1))) fr y7 := hfs
      have e8 : y8 = nI (ct F fr) := e8o
      have h4 : mnI F W 990 fr y4 := h4
      have h5 : mxI F W 0 fr y5 := h5
      have e6 : y6 = swN F W fr := e6o
      clear eo e8o e6o
      subst e
      subst e8
      subst e6
      have cf := ct_le F fr
      -- behind the last member
      have last : (∀ u, fr ≤ u → u < 1024 → F u = false) → Pt (J_X8_sum_113 N x2 y4 y5 (swN F W fr) τ) (fun r => wgP F W (2 ^ n) x2 r.1) := fun hz => by
        have full : ∀ {a}, a = y4 → mnI F W (-1) (2 ^ n) a := fun {a} ea => by
          subst ea
          by_cases k : fr ≤ 2 ^ n
          · exact mn_z hm (mn_top k (fun u h1 h2 => hz u h1 (by omega)) h4)
          · refine mn_z (z := 990) hm ?_
            rcases h4 with ⟨m1, m2⟩ | ⟨⟨u, m1, m2, m3⟩, m4⟩
            · exact Or.inl ⟨fun u hu => m1 u (by omega), m2⟩
            · exact Or.inr ⟨⟨u, fM u (by omega) m2, m2, m3⟩, fun u hu hf => m4 u (by omega) hf⟩
        have full2 : mxI F W (-1) (2 ^ n) y5 := by
          by_cases k : fr ≤ 2 ^ n
          · exact mx_z hm (mx_top k (fun u h1 h2 => hz u h1 (by omega)) h5)
          · refine mx_z (z := 0) hm ?_
            rcases h5 with ⟨m1, m2⟩ | ⟨⟨u, m1, m2, m3⟩, m4⟩
            · exact Or.inl ⟨fun u hu => m1 u (by omega), m2⟩
            · exact Or.inr ⟨⟨u, fM u (by omega) m2, m2, m3⟩, fun u hu hf => m4 u (by omega) hf⟩
        have full3 : swN F W fr = swN F W (2 ^ n) := by
          by_cases k : fr ≤ 2 ^ n
          · exact (sw_top k (fun u h1 h2 => hz u h1 (by omega))).symm
          · refine sw_top (by omega) (fun u h1 h2 => ?_)
            cases y : F u with
            | false => rfl
            | true =>
              have := fM u (by omega) y
              omega
        rw [J_X8_sum_113.eq_1]
        refine pt_if (fun a => pt_some ⟨fun _ => full rfl, fun b => ?_, fun b => absurd a b⟩) (fun a => pt_if (fun b => pt_some ⟨fun c => absurd c a, fun _ => full2, fun _ c => absurd b c⟩) (fun b => pt_some ⟨fun c => absurd c a, fun c => absurd c b, fun _ _ => full3⟩))
        rw [a] at b
        exact absurd b (by decide)
      rw [F_X8_sum_44.eq_1]
      rcases hfs with ⟨u, ⟨a1, a2⟩, a3, a4, a5⟩ | ⟨b1, b2⟩
      · have ev : y7 = nI u := Int32.toInt_inj.mp (by rw [a5, nI_toInt (by omega)])
        subst ev
        rw [fF u a2] at a3
        have uM := fM u a2 a3
        have gap : ∀ k, fr ≤ k → k < u → F k = false := fun k h1 h2 => by rw [← fF k (by omega)]; exact a4 k h1 h2
        have c2 : ct F u = ct F fr := ct_top a1 gap
        have c3 := ct_lt_ (M := 1024) a2 a3
        have c4 := ct_le F 1024
        refine pt_if (fun k => ?_) (fun _ => pt_if (fun k => absurd k (by rw [Int32.lt_iff_toInt_lt, a5]; simp only [Int32.reduceToInt]; omega)) (fun _ => ?_))
        · have k : nI 1024 ≤ nI (ct F fr) := k
          rw [nlt (by omega) (by omega)] at k
          omega
        · refine pt_gR (v := 109) (R4 108 0 rfl) (pt_aI (pt_gR (v := 109) (R4 108 0 rfl) (pt_aI (pt_gR (v := 109) (R4 108 0 rfl) (pt_aI (pt_gC ?_))))))
          rw [iN (m := u) (by omega), sl u uM, nI_m1 (m := u), nI_m1 (m := ct F fr)]
          refine pt_zbq (v_firstFrom (s := u + 1) R4 hk2 (by omega)) (fun v h => ?_)
          rw [rw4] at h
          refine ih (_, _, _, v, nI (ct F fr + 1), τ) ⟨rfl, u + 1, ⟨by omega, h⟩, by rw [ct_t a3, c2], mn_new a3 (Or.inl (Wb u).2) (mn_top a1 gap h4), mx_new a3 (Or.inl (Wb u).1) (mx_top a1 gap h5), ?_⟩
          show swN F W fr + W u = _
          rw [sw_t a3, sw_top a1 gap]
      · have hz : ∀ u, fr ≤ u → u < 1024 → F u = false := fun u h1 h2 => by rw [← fF u h2]; exact b1 u h1 h2
        refine pt_if (fun _ => last hz) (fun _ => pt_if (fun _ => last hz) (fun k => absurd (by rw [show y7 = -1 from b2]; decide) k))
    · have hz : ∀ u, u < 2 ^ n → F u = false := fun u hu => by
        rw [← fF u (by omega)]
        exact h1.2.mp (h1.1.resolve_left e1) u (by omega)
      have s0 : swN F W (2 ^ n) = 0 := sw_top (a := 0) (Nat.zero_le _) (fun u _ hu => hz u hu)
      refine pt_if (fun y => pt_some ⟨fun c => ?_, fun c => ?_, fun _ _ => s0.symm⟩) (fun y => pt_some ⟨fun _ => Or.inl ⟨hz, (by decide : (-1 : Int32).toInt = -1)⟩, fun _ => Or.inl ⟨hz, (by decide : (-1 : Int32).toInt = -1)⟩, fun a b => ?_⟩)
      · rw [y] at c; exact absurd c (by decide)
      · rw [y] at c; exact absurd c (by decide)
      · exfalso
        have t0 : x2.toInt ≠ 0 := fun z => a (Int32.toInt_inj.mp z)
        have t1 : x2.toInt ≠ 1 := fun z => b (Int32.toInt_inj.mp z)
        have t2 : x2.toInt ≠ 2 := fun z => y (Int32.toInt_inj.mp z)
        omega
  · rw [Int32.le_iff_toInt_le] at z
    simp only [Int32.reduceToInt] at z
    have := y.2
    omega
theorem rq_weighs {N : Nat} (hN : 1048576 ≤ N) {x1 x2 : Int32} {σ : zS} (hC : CI σ) (hR : RI σ) (hb : WB9 (σ.1 219)) : Pt (f_X12_weighs N 218 x1 x2 σ) (fun r => V_weighs x1 x2 (σ.1 219) (σ.1 220) r.1) := by
  have M10 := mn_le (RI_n hR).2
  rw [f_X12_weighs.eq_1]
  refine pt_gC (pt_zbq (vr_isRegister hC.1) (fun v hv => pt_if (fun q => pt_some (QE_n (fun z => hv.1 q z.1))) (fun q1 => ?_)))
  refine pt_zbq vr_in (fun v3 hv3 => pt_if (fun q => pt_some (QE_n (fun z => hv3.1 q ?_))) (fun q3 => ?_))
  · rw [i64_of]
    exact z.2
  · have h2 := hv3.2 q3
    rw [i64_of] at h2
    have hc : wgC x1 x2 (σ.1 219) := ⟨hv.2 q1, h2⟩
    obtain ⟨p, hp, rfl⟩ := isR_n hc.1
    have ep := iN (m := p) (by omega)
    obtain ⟨F, hFe⟩ : ∃ F, F = Rg (σ.1 220) p := ⟨_, rfl⟩
    obtain ⟨W, hWe⟩ : ∃ W, W = Wg (σ.1 219) := ⟨_, rfl⟩
    obtain ⟨M, hMe⟩ : ∃ M, M = mn (σ.1 219 0) := ⟨_, rfl⟩
    have Wb : ∀ s, 0 ≤ (W s).toInt ∧ (W s).toInt ≤ 990 := fun s => by rw [hWe]; exact Wg_b hb s
    have fin : ∀ v, wgP F W M x2 v → V_weighs (nI p) x2 (σ.1 219) (σ.1 220) v := fun v h => by
      refine QE_y hc ?_
      rw [ep, ← hFe, ← hWe, ← hMe]; exact h
    refine pt_lp (fun x : Int32 × Int32 × Int32 × Int32 × zS => x.2.2.2.2 = σ ∧ ∃ m, (x.2.2.2.1 = nI m ∧ m ≤ M) ∧ mnI F W (-1) m x.1 ∧ mxI F W (-1) m x.2.1 ∧ x.2.2.1 = swN F W m) (fun again x hJ ih => ?_) N _ ⟨rfl, 0, ⟨rfl, Nat.zero_le _⟩, Or.inl ⟨fun u hu => absurd hu (Nat.not_lt_zero _), (by decide : (-1 : Int32).toInt = -1)⟩, Or.inl ⟨fun u hu => absurd hu (Nat.not_lt_zero _), (by decide : (-1 : Int32).toInt = -1)⟩, rfl⟩
    obtain ⟨y3, y4, y5, y6, τ⟩ := x
    obtain ⟨eo, m, ⟨e6o, hm⟩, h3, h4, e5o⟩ := hJ
    have e : τ = σ := eo
    have e6 : y6 = nI m := e6o
    have h3 : mnI F W (-1) m y3 := h3
    have h4 : mxI F W (-1) m y4 := h4
    have e5 : y5 = swN F W m := e5o
    clear eo e6o e5o
    subst e
    subst e6
    subst e5
    rw [F_X12_weighs_34.eq_1]
    refine pt_gC (pt_zbq (vr_mn hC.1 (RI_n hR)) (fun v5 h5 => ?_))
    rw [← hMe] at h5
    subst h5
    refine pt_if (fun z => ?_) (fun z => ?_)
    · rw [nlt (by omega) (by omega)] at z
      have em : m = M := by omega
      subst em
      refine pt_if (fun a => pt_some (fin _ ⟨fun _ => h3, fun b => ?_, fun b => absurd a b⟩)) (fun a => pt_if (fun b => pt_some (fin _ ⟨fun c => absurd c a, fun _ => h4, fun _ c => absurd b c⟩)) (fun b => pt_some (fin _ ⟨fun c => absurd c a, fun c => absurd c b, fun _ _ => rfl⟩)))
      rw [a] at b
      exact absurd b (by decide)
    · rw [nlt (by omega) (by omega)] at z
      have m10 : m < 1024 := by omega
      refine pt_gC (pt_zbq (vr_of hC.1 hp m10) (fun v7 h7 => pt_if (fun y => ?_) (fun y => ?_)))
      · have f : F m = false := by rw [hFe]; exact vb_f h7 y
        rw [nI_m1]
        have gap : ∀ u, m ≤ u → u < m + 1 → F u = false := fun u h1 h2 => by rw [show u = m by omega]; exact f
        exact ih (_, _, _, nI (m + 1), τ) ⟨rfl, m + 1, ⟨rfl, by omega⟩, mn_top (by omega) gap h3, mx_top (by omega) gap h4, (sw_f f).symm⟩
      · have f : F m = true := by rw [hFe]; exact vb_t h7 y
        refine pt_gC (pt_zbq (rq_W hC.1 m10) (fun v9 h9 => ?_))
        rw [← hWe] at h9
        subst h9
        have wm := Wb m
        rw [nI_m1]
        refine pt_if (fun k => ?_) (fun k => ?_)
        · refine ih (W m, _, _, nI (m + 1), τ) ⟨rfl, m + 1, ⟨rfl, by omega⟩, ?_, mx_new f (Or.inl (by omega)) h4, (sw_t f).symm⟩
          have none : ∀ u, u < m → F u = false := by
            rcases h3 with ⟨m1, _⟩ | ⟨⟨u, m1, m2, m3⟩, _⟩
            · exact m1
            · rw [k] at m3
              have := (Wb u).1
              simp only [Int32.reduceToInt] at m3
              omega
          refine Or.inr ⟨⟨m, by omega, f, rfl⟩, fun u hu hf => ?_⟩
          by_cases w : u = m
          · rw [w]; exact Int.le_refl _
          · rw [none u (by omega)] at hf; cases hf
        · have ex : ∃ u, u < m ∧ F u = true := by
            rcases h3 with ⟨_, m2⟩ | ⟨⟨u, m1, m2, m3⟩, _⟩
            · exact absurd (Int32.toInt_inj.mp (m2.trans (by decide : (-1 : Int) = (-1 : Int32).toInt))) k
            · exact ⟨u, m1, m2⟩
          exact ih (_, _, _, nI (m + 1), τ) ⟨rfl, m + 1, ⟨rfl, by omega⟩, mn_new f (Or.inr ex) h3, mx_new f (Or.inl (by omega)) h4, (sw_t f).symm⟩
theorem fe_weighs {S : List Nat} {x1 x2 v w : Int32} {σ σ1 : zS} (hI : IV σ) (hW : WQ σ) (hF : FQ σ) (t1 : FR S σ σ1) (hS : ∀ k ∈ [218, 219, 220, 239], k ∉ S) (c : V_weighs x1 x2 (σ.1 219) (σ.1 220) v) (r : V_weighs x1 x2 (σ1.1 219) (σ1.1 220) w) : v = w :=
  fe_V (V := V_weighs x1 x2) (fun _ _ _ _ h h2 => QE_u (fun _ _ _ => wgP_u) h h2) t1 hS c r

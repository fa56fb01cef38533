/-! ===== sifting ===== -/
/-- the place of a name -/
def plN (o : Nat → Nat) (v : Nat) : Nat → Nat
  | 0 => 0
  | k + 1 => if o k = v then k else plN o v k
section SIF
variable {N n B v a : Nat} {o : Nat → Nat} {F : Nat → Bool} {σ τ : zS}
theorem plN_e : ∀ {m : Nat}, a < m → o a = v → (∀ j, j < m → o j = v → j = a) → plN o v m = a
  | 0, h, _, _ => absurd h (Nat.not_lt_zero _)
  | m + 1, h, e, u => by
    show (if o m = v then m else plN o v m) = a
    by_cases q : o m = v
    · rw [if_pos q]; exact u m (by omega) q
    · rw [if_neg q]
      have : a ≠ m := fun z => q (by rw [← z]; exact e)
      exact plN_e (by omega) e (fun j hj => u j (by omega))
theorem plN_p (hP : PmO n o) (ha : a < n) (e : o a = v) : plN o v n = a := plN_e ha e (fun j hj h => hP.2.1 j a hj ha (h.trans e.symm))
/-- nodes of a register with an order -/
noncomputable def cnN (F : Nat → Bool) (n : Nat) (o : Nat → Nat) : Nat := aN (fun _ e => F (saN o n e n)) n 1
theorem aN_b {Gr : Nat → Nat → Bool} {R : Nat} (n10 : n ≤ 10) (hR : R ≤ 10) : aN Gr n R ≤ 1546 := by
  have b := sF_le (f := fun k => cF Gr n k (R * 2 ^ k)) (g := bdN n) (n := n) (fun k _ => cF_b (Nat.mul_le_mul_right _ hR))
  have c := bdN_s n (by omega)
  unfold aN
  omega
/-- the best place so far, and the order behind the last try -/
noncomputable def svN (F : Nat → Bool) (n v : Nat) (o : Nat → Nat) : Nat → Nat × Nat × (Nat → Nat)
  | 0 => (1000000, 0, o)
  | c + 1 => if (svN F n v o c).1 ≤ cnN F n (mvN (svN F n v o c).2.2 (plN (svN F n v o c).2.2 v n) c) then ((svN F n v o c).1, (svN F n v o c).2.1, mvN (svN F n v o c).2.2 (plN (svN F n v o c).2.2 v n) c) else (cnN F n (mvN (svN F n v o c).2.2 (plN (svN F n v o c).2.2 v n) c), c, mvN (svN F n v o c).2.2 (plN (svN F n v o c).2.2 v n) c)
noncomputable def s1N (F : Nat → Bool) (n v : Nat) (o : Nat → Nat) : Nat × (Nat → Nat) := ((svN F n v o n).1, mvN (svN F n v o n).2.2 (plN (svN F n v o n).2.2 v n) (svN F n v o n).2.1)
noncomputable def sAN (F : Nat → Bool) (n : Nat) (o : Nat → Nat) : Nat → Nat × (Nat → Nat)
  | 0 => (0, o)
  | v + 1 => s1N F n v (sAN F n o v).2
theorem pl_lt (hP : PmO n o) (hv : v < n) : plN o v n < n := by
  obtain ⟨k, hk, e⟩ := hP.2.2 v hv
  rw [plN_p hP hk e]; exact hk
theorem sv_P (n10 : n ≤ 10) (hP : PmO n o) (hv : v < n) : ∀ c, c ≤ n → PmO n (svN F n v o c).2.2 ∧ (svN F n v o c).2.1 < n ∧ (svN F n v o c).1 ≤ 1000000 ∧ (0 < c → (svN F n v o c).1 ≤ 1546)
  | 0, _ => ⟨hP, (by show 0 < n; omega), Nat.le_refl _, fun h => absurd h (Nat.not_lt_zero _)⟩
  | c + 1, h => by
    obtain ⟨a1, a2, a3, a4⟩ := sv_P n10 hP hv c (by omega)
    have b := PmO_mv a1 (pl_lt a1 hv) (show c < n by omega)
    have d : cnN F n (mvN (svN F n v o c).2.2 (plN (svN F n v o c).2.2 v n) c) ≤ 1546 := aN_b n10 (by decide)
    by_cases q : (svN F n v o c).1 ≤ cnN F n (mvN (svN F n v o c).2.2 (plN (svN F n v o c).2.2 v n) c)
    · have e : svN F n v o (c + 1) = _ := if_pos q
      rw [e]
      exact ⟨b, a2, a3, fun _ => Nat.le_trans q d⟩
    · have e : svN F n v o (c + 1) = _ := if_neg q
      rw [e]
      exact ⟨b, by show c < n; omega, Nat.le_trans d (by decide), fun _ => d⟩
theorem s1_P (n10 : n ≤ 10) (hP : PmO n o) (hv : v < n) : PmO n (s1N F n v o).2 ∧ (s1N F n v o).1 ≤ 1546 := by
  obtain ⟨a1, a2, a3, a4⟩ := sv_P (F := F) n10 hP hv n (Nat.le_refl _)
  exact ⟨PmO_mv a1 (pl_lt a1 hv) a2, a4 (by omega)⟩
theorem sA_P (n10 : n ≤ 10) (hP : PmO n o) : ∀ v, v ≤ n → PmO n (sAN F n o v).2 ∧ (sAN F n o v).1 ≤ 1546
  | 0, _ => ⟨hP, Nat.zero_le _⟩
  | v + 1, h => s1_P n10 (sA_P n10 hP v (by omega)).1 (by omega)
/-- rows that sifting of the class may leave other -/
def SIL (B : Nat) : List Nat := [B + 4, 111, 112, 113, 114, 115, 116, 117, 118, 119]
theorem FW_l {S T : List Nat} (h : ∀ b ∈ S, b ∈ T) (f : FW_ S σ τ) : FW_ T σ τ := ⟨f.1, fun b hb => f.2 b (fun z => hb (h b z))⟩
theorem RCo_w {o' : Nat → Nat} (h : ∀ j, j < n → o' j = o j) (hr : RCo n B o τ) : RCo n B o' τ := fun j hj => by rw [h j hj]; exact hr j hj
theorem v_sift {x0 : Nat} (hB : isWc B) (hR : RF σ.2.2) (h0 : (zKd x0).1 = 2) (hH : HQ σ) (en : σ.1 B 0 = nI n) (n0 : 0 < n) (n10 : n ≤ 10) (hP : PmO n o) (ho : RCo n B o σ) : Pt (f_X3_siftAll N 120 B x0 111 σ) (fun r => FW_ (SIL B) σ r.2 ∧ HQ r.2 ∧ r.1 = nI (sAN (bt (σ.2.1 (x0 + 1))) n o n).1 ∧ RCo n B (sAN (bt (σ.2.1 (x0 + 1))) n o n).2 r.2) := by
  have bS : B ∉ SIL B := fun z => by
    unfold SIL at z
    simp only [List.mem_cons, List.not_mem_nil, or_false] at z
    unfold isWc at hB
    omega
  have s4 : ∀ b ∈ [B + 4], b ∈ SIL B := fun b hb => by
    rw [List.mem_singleton.mp hb]; exact List.mem_cons_self
  have sN : ∀ b, b ∉ SIL B → b ∉ NLS ∧ b ≠ 117 ∧ b ≠ 118 := fun b hb => by
    unfold SIL at hb
    unfold NLS
    simp only [List.mem_cons, List.not_mem_nil, or_false, not_or] at hb ⊢
    omega
  have b4 : B + 4 ∉ NLS ∧ B + 4 ≠ 117 ∧ B + 4 ≠ 118 := by
    unfold NLS
    simp only [List.mem_cons, List.not_mem_nil, or_false, not_or]
    unfold isWc at hB
    omega
  have hq4 : ∀ {φ ψ : zS}, FW_ [B + 4] φ ψ → HQ φ → HQ ψ := fun {φ ψ} f h => HQ_c (fun a ha => f.2 a (fun z => by
    rw [List.mem_singleton.mp z] at ha
    exact b4.1 ((by decide : ∀ a ∈ [111, 112, 114, 115, 116], a ∈ NLS) _ ha))) h
  obtain ⟨FF, eF⟩ : ∃ FF, FF = bt (σ.2.1 (x0 + 1)) := ⟨_, rfl⟩
  rw [← eF]
  rw [f_X3_siftAll.eq_1]
  refine pt_lp (fun x : Int32 × Int32 × zS => FW_ (SIL B) σ x.2.2 ∧ HQ x.2.2 ∧ ∃ v, (x.2.1 = nI v ∧ v ≤ n) ∧ x.1 = nI (sAN FF n o v).1 ∧ RCo n B (sAN FF n o v).2 x.2.2) (fun again x hJ ih => ?_) N _ ⟨FW_r, hH, 0, ⟨rfl, Nat.zero_le _⟩, rfl, ho⟩
  obtain ⟨y, w, τ⟩ := x
  obtain ⟨f, hq, v, ⟨ev, hv⟩, ey, hr⟩ := hJ
  have f : FW_ (SIL B) σ τ := f
  have hq : HQ τ := hq
  have ev : w = nI v := ev
  have ey : y = nI (sAN FF n o v).1 := ey
  have hr : RCo n B (sAN FF n o v).2 τ := hr
  subst ev
  subst ey
  rw [F_X3_siftAll_6.eq_1]
  refine pt_gI ?_
  rw [f.2 B bS, en]
  refine pt_if (fun q => ?_) (fun q => pt_if (fun q2 => ?_) (fun _ => ?_))
  · rw [nlt (by omega) (by omega)] at q
    have : v = n := by omega
    subst this
    exact pt_some ⟨f, hq, rfl, hr⟩
  · rw [nlt (by omega) (by omega)] at q
    have q2 : nI 10 ≤ nI v := q2
    rw [nlt (by omega) (by omega)] at q2
    omega
  · rw [nlt (by omega) (by omega)] at q
    have hv : v < n := by omega
    have P0 := (sA_P (F := FF) n10 hP v (by omega)).1
    obtain ⟨o1, eo1⟩ : ∃ o1, o1 = (sAN FF n o v).2 := ⟨_, rfl⟩
    rw [← eo1] at P0 hr
    have enx : sAN FF n o (v + 1) = s1N FF n v o1 := by rw [eo1]; rfl
    refine pt_lp (fun x : Int32 × Int32 × Int32 × zS => FW_ (SIL B) σ x.2.2.2 ∧ HQ x.2.2.2 ∧ ∃ c, (x.2.2.1 = nI c ∧ c ≤ n) ∧ (x.1 = nI (svN FF n v o1 c).1 ∧ x.2.1 = nI (svN FF n v o1 c).2.1) ∧ RCo n B (svN FF n v o1 c).2.2 x.2.2.2) (fun again2 x hJ ih2 => ?_) N _ ⟨f, hq, 0, ⟨rfl, Nat.zero_le _⟩, ⟨rfl, rfl⟩, hr⟩
    obtain ⟨z4, z6, z7, τ⟩ := x
    obtain ⟨f, hq, c, ⟨ec, hc⟩, ⟨e4, e6⟩, hr⟩ := hJ
    have f : FW_ (SIL B) σ τ := f
    have hq : HQ τ := hq
    have ec : z7 = nI c := ec
    have e4 : z4 = nI (svN FF n v o1 c).1 := e4
    have e6 : z6 = nI (svN FF n v o1 c).2.1 := e6
    have hr : RCo n B (svN FF n v o1 c).2.2 τ := hr
    subst ec
    subst e4
    subst e6
    obtain ⟨p1, p2, p3, p4⟩ := sv_P (F := FF) n10 P0 hv c hc
    have Rt : RF τ.2.2 := by rw [f.1]; exact hR
    have ent : τ.1 B 0 = nI n := by rw [f.2 B bS]; exact en
    rw [F_X3_siftAll_32.eq_1]
    refine pt_gI ?_
    rw [ent]
    refine pt_if (fun w1 => ?_) (fun w1 => pt_if (fun w2 => ?_) (fun _ => ?_))
    · rw [nlt (by omega) (by omega)] at w1
      have cn : c = n := by omega
      subst cn
      refine pt_gC (pt_zb (v_moveName (n := c) hB Rt ent n10 p1 hr hv p2) (fun _ φ h => ?_))
      obtain ⟨a, ⟨ha, ea⟩, _, g, hs⟩ := h
      have g : FW_ [B + 4] τ φ := g
      have hs : RCo c B (mvN (svN FF c v o1 c).2.2 a (svN FF c v o1 c).2.1) φ := hs
      rw [← plN_p p1 ha ea] at hs
      rw [nI_m1]
      refine ih (_, nI (v + 1), φ) ⟨FW_t s4 f g, hq4 g hq, v + 1, ⟨rfl, hv⟩, ?_, ?_⟩
      · show nI _ = nI _
        rw [enx]; rfl
      · rw [enx]; exact hs
    · rw [nlt (by omega) (by omega)] at w1
      have w2 : nI 10 ≤ nI c := w2
      rw [nlt (by omega) (by omega)] at w2
      omega
    · rw [nlt (by omega) (by omega)] at w1
      have cn : c < n := by omega
      refine pt_gC (pt_zb (v_moveName (n := n) hB Rt ent n10 p1 hr hv cn) (fun _ φ h => ?_))
      obtain ⟨a, ⟨ha, ea⟩, _, g, hs⟩ := h
      have g : FW_ [B + 4] τ φ := g
      have hs : RCo n B (mvN (svN FF n v o1 c).2.2 a c) φ := hs
      rw [← plN_p p1 ha ea] at hs
      have P2 := PmO_mv p1 (pl_lt p1 hv) cn
      have f2 := FW_t s4 f g
      have Rp : RF φ.2.2 := by rw [f2.1]; exact hR
      refine pt_gC (pt_zb (v_tallyOf (n := n) Rp hB h0 (hq4 g hq) (by rw [f2.2 B bS]; exact en) n10 hs P2) (fun v9 ψ h => ?_))
      obtain ⟨⟨t1, t2⟩, t3, t4, _⟩ := h
      have t1 : ψ.2 = φ.2 := t1
      have t2 : ∀ b, b ∉ NLS → b ≠ 117 → b ≠ 118 → ψ.1 b = φ.1 b := t2
      have t3 : HQ ψ := t3
      have t4 : v9 = nI (aN (fun _ e => bt (φ.2.1 (x0 + 1)) (saN (mvN (svN FF n v o1 c).2.2 (plN (svN FF n v o1 c).2.2 v n) c) n e n)) n 1) := t4
      rw [show φ.2.1 (x0 + 1) = σ.2.1 (x0 + 1) by rw [f2.1], ← eF] at t4
      have t4 : v9 = nI (cnN FF n (mvN (svN FF n v o1 c).2.2 (plN (svN FF n v o1 c).2.2 v n) c)) := t4
      have d : cnN FF n (mvN (svN FF n v o1 c).2.2 (plN (svN FF n v o1 c).2.2 v n) c) ≤ 1546 := aN_b n10 (by decide)
      subst t4
      have f3 : FW_ (SIL B) σ ψ := ⟨t1.trans f2.1, fun b hb => (t2 b (sN b hb).1 (sN b hb).2.1 (sN b hb).2.2).trans (f2.2 b hb)⟩
      have hs3 : RCo n B (mvN (svN FF n v o1 c).2.2 (plN (svN FF n v o1 c).2.2 v n) c) ψ := fun j hj => by rw [t2 _ b4.1 b4.2.1 b4.2.2]; exact hs j hj
      rw [nI_m1]
      refine pt_if (fun q3 => ?_) (fun q3 => ?_)
      · rw [nI_leb (by omega) (by omega)] at q3
        have e : svN FF n v o1 (c + 1) = _ := if_pos q3
        refine ih2 (_, _, nI (c + 1), ψ) ⟨f3, t3, c + 1, ⟨rfl, cn⟩, ⟨?_, ?_⟩, ?_⟩
        · show nI _ = nI _
          rw [e]
        · show nI _ = nI _
          rw [e]
        · rw [e]; exact hs3
      · rw [nI_leb (by omega) (by omega)] at q3
        have e : svN FF n v o1 (c + 1) = _ := if_neg q3
        refine ih2 (_, nI c, nI (c + 1), ψ) ⟨f3, t3, c + 1, ⟨rfl, cn⟩, ⟨?_, ?_⟩, ?_⟩
        · show nI _ = nI _
          rw [e]
        · show nI _ = nI _
          rw [e]
        · rw [e]; exact hs3
/-! the reference's -/
def SIR : List Nat := [218, 219, 234, 235, 236]
/-- of the world's row only order is other, besides rows of the list -/
def FS_ (σ τ : zS) : Prop := FW_ SIR σ τ ∧ ∀ c, c < 33 → τ.1 219 c = σ.1 219 c
theorem FS_o {φ : zS} (f : FS_ σ τ) (g : FO_ τ φ) : FS_ σ φ := ⟨FW_t (S := [219]) (by decide) f.1 g.1, fun c hc => (g.2 c hc).trans (f.2 c hc)⟩
theorem FS_n {φ : zS} {S : List Nat} (hS : ∀ b ∈ S, b ∈ SIR ∧ b ≠ 219) (f : FS_ σ τ) (g : FW_ S τ φ) : FS_ σ φ := ⟨FW_t (fun b hb => (hS b hb).1) f.1 g, fun c hc => by rw [g.2 219 (fun z => (hS 219 z).2 rfl)]; exact f.2 c hc⟩
theorem vr_sift {p : Nat} (hR : RF σ.2.2) (hp : p < 10) (en : σ.1 219 0 = nI n) (n0 : 0 < n) (n10 : n ≤ 10) (hP : PmO n o) (ho : RRo n o σ) : Pt (zlp (F_X12_sift_15 N 218 (nI p)) N (0, 0, σ)) (fun r => FS_ σ r.2 ∧ r.1 = nI (sAN (Rg (σ.1 220) p) n o n).1 ∧ RRo n (sAN (Rg (σ.1 220) p) n o n).2 r.2) := by
  obtain ⟨FF, eF⟩ : ∃ FF, FF = Rg (σ.1 220) p := ⟨_, rfl⟩
  rw [← eF]
  refine pt_lp (fun x : Int32 × Int32 × zS => FS_ σ x.2.2 ∧ ∃ v, (x.2.1 = nI v ∧ v ≤ n) ∧ x.1 = nI (sAN FF n o v).1 ∧ RRo n (sAN FF n o v).2 x.2.2) (fun again x hJ ih => ?_) N _ ⟨⟨FW_r, fun _ _ => rfl⟩, 0, ⟨rfl, Nat.zero_le _⟩, rfl, ho⟩
  obtain ⟨y, w, τ⟩ := x
  obtain ⟨f, v, ⟨ev, hv⟩, ey, hr⟩ := hJ
  have f : FS_ σ τ := f
  have ev : w = nI v := ev
  have ey : y = nI (sAN FF n o v).1 := ey
  have hr : RRo n (sAN FF n o v).2 τ := hr
  subst ev
  subst ey
  have Rt : RF τ.2.2 := by rw [f.1.1]; exact hR
  rw [F_X12_sift_15.eq_1]
  refine pt_gR (v := 219) (Rt 218 1 rfl) (pt_aI ?_)
  rw [show (0 : Int32).toInt.toNat = 0 from rfl, f.2 0 (by decide), en]
  refine pt_if (fun q => ?_) (fun q => ?_)
  · rw [nlt (by omega) (by omega)] at q
    have : v = n := by omega
    subst this
    exact pt_some ⟨f, rfl, hr⟩
  · rw [nlt (by omega) (by omega)] at q
    have hv : v < n := by omega
    have P0 := (sA_P (F := FF) n10 hP v (by omega)).1
    obtain ⟨o1, eo1⟩ : ∃ o1, o1 = (sAN FF n o v).2 := ⟨_, rfl⟩
    rw [← eo1] at P0 hr
    have enx : sAN FF n o (v + 1) = s1N FF n v o1 := by rw [eo1]; rfl
    refine pt_lp (fun x : Int32 × Int32 × Int32 × zS => FS_ σ x.2.2.2 ∧ ∃ c, (x.2.2.1 = nI c ∧ c ≤ n) ∧ ((c = 0 ∧ x.2.1 = -1) ∨ (0 < c ∧ x.1 = nI (svN FF n v o1 c).1 ∧ x.2.1 = nI (svN FF n v o1 c).2.1)) ∧ RRo n (svN FF n v o1 c).2.2 x.2.2.2) (fun again2 x hJ ih2 => ?_) N _ ⟨f, 0, ⟨rfl, Nat.zero_le _⟩, Or.inl ⟨rfl, rfl⟩, hr⟩
    obtain ⟨z2, z4, z5, τ⟩ := x
    obtain ⟨f, c, ⟨ec, hc⟩, hzo, hr⟩ := hJ
    have f : FS_ σ τ := f
    have ec : z5 = nI c := ec
    have hz : (c = 0 ∧ z4 = -1) ∨ (0 < c ∧ z2 = nI (svN FF n v o1 c).1 ∧ z4 = nI (svN FF n v o1 c).2.1) := hzo
    clear hzo
    have hr : RRo n (svN FF n v o1 c).2.2 τ := hr
    subst ec
    obtain ⟨p1, p2, p3, p4⟩ := sv_P (F := FF) n10 P0 hv c hc
    have Rt : RF τ.2.2 := by rw [f.1.1]; exact hR
    have ent : τ.1 219 0 = nI n := by rw [f.2 0 (by decide)]; exact en
    rw [F_X12_sift_31.eq_1]
    refine pt_gR (v := 219) (Rt 218 1 rfl) (pt_aI ?_)
    rw [show (0 : Int32).toInt.toNat = 0 from rfl, ent]
    refine pt_if (fun w1 => ?_) (fun w1 => ?_)
    · rw [nlt (by omega) (by omega)] at w1
      have cn : c = n := by omega
      subst cn
      obtain ⟨_, e2, e4⟩ := hz.resolve_left (fun z => by omega)
      subst e2
      subst e4
      refine pt_gC (pt_zb (vq_goesTo (n := c) Rt n10 p1 hr hv p2) (fun _ φ h => ?_))
      obtain ⟨a, ⟨ha, ea⟩, g, hs⟩ := h
      have g : FO_ τ φ := g
      have hs : RRo c (mvN (svN FF c v o1 c).2.2 a (svN FF c v o1 c).2.1) φ := hs
      rw [← plN_p p1 ha ea] at hs
      rw [nI_m1]
      refine ih (_, nI (v + 1), φ) ⟨FS_o f g, v + 1, ⟨rfl, hv⟩, ?_, ?_⟩
      · show nI _ = nI _
        rw [enx]; rfl
      · rw [enx]; exact hs
    · rw [nlt (by omega) (by omega)] at w1
      have cn : c < n := by omega
      refine pt_gC (pt_zb (vq_goesTo (n := n) Rt n10 p1 hr hv cn) (fun _ φ h => ?_))
      obtain ⟨a, ⟨ha, ea⟩, g, hs⟩ := h
      have g : FO_ τ φ := g
      have hs : RRo n (mvN (svN FF n v o1 c).2.2 a c) φ := hs
      rw [← plN_p p1 ha ea] at hs
      have P2 := PmO_mv p1 (pl_lt p1 hv) cn
      have f2 := FS_o f g
      have Rp : RF φ.2.2 := by rw [f2.1.1]; exact hR
      refine pt_gC (pt_zb (vr_takesOrder Rp) (fun _ ω h => ?_))
      obtain ⟨k1, k2⟩ := h
      have k1 : FW_ [235] φ ω := k1
      have k2 : ∀ j, j < 10 → ω.1 235 j = φ.1 219 (33 + j) := k2
      have f3 := FS_n (S := [235]) (by decide) f2 k1
      have Rw : RF ω.2.2 := by rw [f3.1.1]; exact hR
      refine pt_gC (pt_zb (vr_nodesOf (n := n) (a := mvN (svN FF n v o1 c).2.2 (plN (svN FF n v o1 c).2.2 v n) c) Rw hp (by rw [f3.2 0 (by decide)]; exact en) n10 P2 (fun j hj => by rw [k2 j (by omega)]; exact hs j hj)) (fun v13 ψ h => ?_))
      obtain ⟨t1, t4⟩ := h
      have t1 : FW_ NRL ω ψ := t1
      have t4 : v13 = nI (aN (fun _ e => Rg (ω.1 220) p (saN (mvN (svN FF n v o1 c).2.2 (plN (svN FF n v o1 c).2.2 v n) c) n e n)) n 1) := t4
      rw [f3.1.2 220 (by decide), ← eF] at t4
      have t4 : v13 = nI (cnN FF n (mvN (svN FF n v o1 c).2.2 (plN (svN FF n v o1 c).2.2 v n) c)) := t4
      have d : cnN FF n (mvN (svN FF n v o1 c).2.2 (plN (svN FF n v o1 c).2.2 v n) c) ≤ 1546 := aN_b n10 (by decide)
      subst t4
      have f4 := FS_n (S := NRL) (by decide) f3 t1
      have hs3 : RRo n (mvN (svN FF n v o1 c).2.2 (plN (svN FF n v o1 c).2.2 v n) c) ψ := fun j hj => by rw [t1.2 219 (by decide), k1.2 219 (by decide)]; exact hs j hj
      rw [nI_m1]
      -- the new place is taken
      have take : ¬ (svN FF n v o1 c).1 ≤ cnN FF n (mvN (svN FF n v o1 c).2.2 (plN (svN FF n v o1 c).2.2 v n) c) → Pt (again2 (nI (cnN FF n (mvN (svN FF n v o1 c).2.2 (plN (svN FF n v o1 c).2.2 v n) c)), nI c, nI (c + 1), ψ)) (fun r => FS_ σ r.2 ∧ r.1 = nI (sAN FF n o n).1 ∧ RRo n (sAN FF n o n).2 r.2) := fun q3 => by
        have e : svN FF n v o1 (c + 1) = _ := if_neg q3
        refine ih2 (_, nI c, nI (c + 1), ψ) ⟨f4, c + 1, ⟨rfl, cn⟩, Or.inr ⟨Nat.succ_pos _, ?_, ?_⟩, ?_⟩
        · show nI _ = nI _
          rw [e]
        · show nI _ = nI _
          rw [e]
        · rw [e]; exact hs3
      refine pt_if (fun q3 => take ?_) (fun q3 => pt_if (fun q4 => take ?_) (fun q4 => ?_))
      · rcases hz with ⟨z0, _⟩ | ⟨_, _, e4⟩
        · subst z0
          show ¬ 1000000 ≤ _
          omega
        · rw [e4] at q3
          have q3 := congrArg Int32.toInt q3
          rw [nI_toInt (by omega)] at q3
          simp only [Int32.reduceToInt] at q3
          omega
      · obtain ⟨c0, e2, e4⟩ := hz.resolve_left (fun z => q3 z.2)
        have := p4 c0
        rw [e2, nl_ (by omega) (by omega)] at q4
        omega
      · obtain ⟨c0, e2, e4⟩ := hz.resolve_left (fun z => q3 z.2)
        have := p4 c0
        rw [e2, nl_ (by omega) (by omega)] at q4
        have e : svN FF n v o1 (c + 1) = _ := if_pos (show (svN FF n v o1 c).1 ≤ cnN FF n (mvN (svN FF n v o1 c).2.2 (plN (svN FF n v o1 c).2.2 v n) c) by omega)
        refine ih2 (z2, z4, nI (c + 1), ψ) ⟨f4, c + 1, ⟨rfl, cn⟩, Or.inr ⟨Nat.succ_pos _, ?_, ?_⟩, ?_⟩
        · show z2 = nI _
          rw [e, e2]
        · show z4 = nI _
          rw [e, e4]
        · rw [e]; exact hs3
end SIF

/-! ===== the steps of a world's lines ===== -/
section WSTEP
variable {N : Nat} {σ τ υ : zS} {t : Nat → Int32} {n c i B : Nat} {m : Int32} {O : List zOp} {g : Nat → Int32}
theorem CA_un {a : Int32} {i j : Nat} (h : CA a t n c i) (h2 : CA a t n c j) : i = j := by
  obtain ⟨k, e, _, rfl⟩ := h
  obtain ⟨l, e2, _, rfl⟩ := h2
  rw [show k = l by omega]
/-- the steps behind a line's sum -/
noncomputable def sO (t : Nat → Int32) (n i : Nat) (m p : Int32) (O : List zOp) : List zOp := by
  classical exact (if h : ∃ d : Cv, (Rc (stv t n m) (i, 0, [], O) d ∧ stv t n m d = some none) ∧ ¬ 100 ∈ d.2.2.1 then (setl 1 h.choose.2.2.1 h.choose.2.2.2).2 ++ [(6, p)] else O)
theorem sO_d {p : Int32} {d : Cv} (h : Rc (stv t n m) (i, 0, [], O) d) (h2 : stv t n m d = some none) (h3 : ¬ 100 ∈ d.2.2.1) : sO t n i m p O = (setl 1 d.2.2.1 d.2.2.2).2 ++ [(6, p)] := by
  have hx : ∃ d : Cv, (Rc (stv t n m) (i, 0, [], O) d ∧ stv t n m d = some none) ∧ ¬ 100 ∈ d.2.2.1 := ⟨d, ⟨h, h2⟩, h3⟩
  have e : hx.choose = d := Rc.un hx.choose_spec.1.1 h (fun x q => by rw [hx.choose_spec.1.2] at q; cases q) (fun x q => by rw [h2] at q; cases q)
  unfold sO
  rw [dif_pos hx, e]
theorem sO_V {k : Nat} {p : Int32} (hk : k ≤ 10) (hv : vds (2 ^ k) O 0) (hh : hts O 0 = 0) (hp : 0 ≤ p.toInt ∧ p.toInt < 10) : vds (2 ^ k) (sO t n i (nI k) p O) 0 ∧ hts (sO t n i (nI k) p O) 0 = 0 := by
  by_cases hx : ∃ d : Cv, (Rc (stv t n (nI k)) (i, 0, [], O) d ∧ stv t n (nI k) d = some none) ∧ ¬ 100 ∈ d.2.2.1
  · obtain ⟨d, ⟨h1, h2⟩, h3⟩ := hx
    rw [sO_d h1 h2 h3]
    have E := end_H (t := t) (n := n) (Rc_H (c := (_, 0, [], O)) hk ⟨⟨hv, hh⟩, trivial, Nat.zero_le _⟩ h1) (stv_e1 h2).1 h3
    refine ⟨vds_1 E.2.1 ?_, ?_⟩
    · rw [E.2.2]
      exact Or.inr (Or.inr (Or.inr (Or.inr (Or.inr (Or.inr ⟨rfl, hp, Nat.le_refl _⟩)))))
    · rw [hts_1]; exact nh_p.2.2.2.2.2.2
  · have : sO t n i (nI k) p O = O := by unfold sO; rw [dif_neg hx]
    rw [this]; exact ⟨hv, hh⟩
noncomputable def oL (t : Nat → Int32) (n i : Nat) (g : Nat → Int32) (O : List zOp) : List zOp := by
  classical exact (if g 1 = 0 ∨ ¬ isW t n i 14 then O else sO t n (tkE t n (tkE t n (tkE t n i))) (g 0) (nvI t n (tkE t n i)) O)
theorem oL_n (h : g 1 = 0 ∨ ¬ isW t n i 14) : oL t n i g O = O := if_pos h
theorem oL_l (h : ¬ g 1 = 0) (h2 : isW t n i 14) : oL t n i g O = sO t n (tkE t n (tkE t n (tkE t n i))) (g 0) (nvI t n (tkE t n i)) O := if_neg (fun z => z.elim h (fun z => z h2))
abbrev LW2 : Type := LC × List zOp
noncomputable def stW (t : Nat → Int32) (n : Nat) (c : LW2) : Option (Option LW2) := (stL t n c.1).map (fun o => o.map (fun d => (d, oL t n c.1.1 c.1.2.1 c.2)))
theorem stW_s {a b : LC} (h : stL t n a = some (some b)) : stW t n (a, O) = some (some (b, oL t n a.1 a.2.1 O)) := by
  unfold stW
  show (stL t n a).map _ = _
  rw [h]; rfl
theorem stW_i {a b : LW2} (h : stW t n a = some (some b)) : stL t n a.1 = some (some b.1) ∧ b.2 = oL t n a.1.1 a.1.2.1 a.2 := by
  obtain ⟨o, h1, h2⟩ := Option.map_eq_some_iff.mp h
  obtain ⟨d, h3, h4⟩ := Option.map_eq_some_iff.mp h2
  rw [h1, h3, ← h4]
  exact ⟨rfl, rfl⟩
theorem stW_e {a : LC} (h : stL t n a = some none) : stW t n (a, O) = some none := by
  unfold stW
  show (stL t n a).map _ = _
  rw [h]; rfl
theorem itW_L : ∀ {k : Nat} {a b : LW2}, itG (stW t n) k a = some b → itG (stL t n) k a.1 = some b.1
  | 0, a, b, h => by rw [show a = b from Option.some.inj h]; rfl
  | k + 1, a, b, h => by
    have h : (stW t n a).bind (fun o => o.bind (fun c1 => itG (stW t n) k c1)) = some b := h
    obtain ⟨o, ho, h⟩ := Option.bind_eq_some_iff.mp h
    obtain ⟨c1, hc, h⟩ := Option.bind_eq_some_iff.mp h
    rw [hc] at ho
    show (stL t n a.1).bind (fun o => o.bind (fun c1 => itG (stL t n) k c1)) = some b.1
    rw [(stW_i ho).1]
    exact itW_L h
theorem Rc_L {a b : LW2} (h : Rc (stW t n) a b) : Rc (stL t n) a.1 b.1 := by
  obtain ⟨k, hk⟩ := h
  exact ⟨k, itW_L hk⟩
/-- steps of a world fit -/
def VW (c : LW2) : Prop := (c.1.2.1 1 = 0 → c.2 = []) ∧ vds (2 ^ (c.1.2.1 0).toInt.toNat) c.2 0 ∧ hts c.2 0 = 0
theorem oL_V {i j sg sg' : Nat} {g g' : Nat → Int32} (hL : LI g) (hv : VW ((i, g, sg), O)) (eb : bdR t n i g sg = some (j, g', sg')) : vds (2 ^ (g' 0).toInt.toNat) (oL t n i g O) 0 ∧ hts (oL t n i g O) 0 = 0 := by
  by_cases h1 : g 1 = 0
  · rw [oL_n (Or.inl h1), show O = [] from hv.1 h1]; exact ⟨trivial, rfl⟩
  have eb0 : lnR t n i g sg = some (j, g', sg') := by
    unfold bdR at eb
    rw [if_neg h1] at eb; exact eb
  have hv0 : vds (2 ^ (g 0).toInt.toNat) O 0 ∧ hts O 0 = 0 := hv.2
  by_cases w14 : isW t n i 14
  · have n12 : ¬ isW t n i 12 := fun z => absurd (isW_u (a := 1) (b := 3) (by decide) (by decide) z w14) (by decide)
    have n13 : ¬ isW t n i 13 := fun z => absurd (isW_u (a := 2) (b := 3) (by decide) (by decide) z w14) (by decide)
    rw [lnR_l n12 n13 w14] at eb0
    obtain ⟨p, hp, e⟩ := Option.map_eq_some_iff.mp eb0
    have eg : g = g' := congrArg (fun z : LC => z.2.1) e
    have ok : nOK t n (tkE t n i) 0 9 := by
      unfold letR at hp
      split at hp
      · rename_i w; exact w.1
      · cases hp
    have pb := nvI_b ok
    simp only [Int32.reduceToInt] at pb
    have hb := hL.1.1.1
    obtain ⟨k, hk, e0⟩ := znI (x := g 0) (m := 11) hb.1 (by omega)
    rw [← eg, oL_l h1 w14]
    rw [e0] at hv0 ⊢
    rw [iN (by omega)] at hv0 ⊢
    exact sO_V (by omega) hv0.1 hv0.2 ⟨pb.1, by omega⟩
  · have e0 : g' 0 = g 0 := by
      by_cases w12 : isW t n i 12
      · rw [lnR_w w12] at eb0; exact (LI_wt hL eb0).2.2
      · by_cases w13 : isW t n i 13
        · by_cases e2 : g 2 = g 0
          · rw [lnR_m w12 w13 e2] at eb0; cases eb0
          · rw [lnR_e w12 w13 e2] at eb0; exact (LI_ed hL e2 eb0).2.2
        · rw [lnR_z w12 w13 w14] at eb0; cases eb0
    rw [oL_n (Or.inr w14), e0]; exact hv0
def HW (n : Nat) (a : LW2) : Prop := (LI a.1.2.1 ∧ a.1.1 ≤ n) ∧ (0 ≤ (a.1.2.1 1).toInt ∧ (a.1.2.1 1).toInt ≤ (a.1.1 : Int)) ∧ VW a
theorem HW_0 {G : Nat → Int32} (hG : ∀ j, j < 43 → G j = 0) : HW n ((0, G, 0), []) := by
  refine ⟨⟨LI_0 hG, Nat.zero_le _⟩, ?_, fun _ => rfl, trivial, rfl⟩
  show 0 ≤ (G 1).toInt ∧ (G 1).toInt ≤ ((0 : Nat) : Int)
  rw [hG 1 (by decide)]; decide
theorem HW_s {a b : LW2} (h6 : n ≤ 600) (h : HW n a) (hs : stW t n a = some (some b)) : HW n b := by
  obtain ⟨⟨i, g, sg⟩, O⟩ := a
  obtain ⟨⟨hL, le⟩, h1, hv⟩ := h
  have hL : LI g := hL
  have le : i ≤ n := le
  have h1 : 0 ≤ (g 1).toInt ∧ (g 1).toInt ≤ (i : Int) := h1
  obtain ⟨s1, s2⟩ := stW_i hs
  have s1 : stL t n (i, g, sg) = some (some b.1) := s1
  have s2 : b.2 = oL t n i g O := s2
  by_cases k0 : tkK t n i = 0
  · rw [stL_e (c := (i, g, sg)) k0] at s1; cases s1
  cases eb : bdR t n i g sg with
  | none => rw [stL_n (c := (i, g, sg)) k0 eb] at s1; cases s1
  | some d =>
    rw [stL_s (c := (i, g, sg)) k0 eb] at s1
    split at s1
    · rename_i k59
      obtain ⟨j, g', sg'⟩ := d
      have k59 : tkK t n j = 59 := k59
      have e1 : b.1 = (tkE t n j, upd g' 1 (g' 1 + 1), sg') := (Option.some.inj (Option.some.inj s1)).symm
      obtain ⟨F1, g1, g0⟩ := LI_bd hL eb
      have ge := bdR_ge le eb
      have gt := tk_gt ge.2 (show ¬ tkK t n j = 0 by rw [k59]; decide)
      have le2 := (tk_le (t := t) ge.2).2.2
      have w1 : (g' 1 + 1).toInt = (g 1).toInt + 1 := by rw [g1]; exact a1_ (by omega)
      have V := oL_V hL hv eb
      unfold HW VW
      rw [e1, s2]
      show (LI (upd g' 1 (g' 1 + 1)) ∧ tkE t n j ≤ n) ∧ (0 ≤ (upd g' 1 (g' 1 + 1) 1).toInt ∧ (upd g' 1 (g' 1 + 1) 1).toInt ≤ (tkE t n j : Int)) ∧ (upd g' 1 (g' 1 + 1) 1 = 0 → oL t n i g O = []) ∧ vds (2 ^ (upd g' 1 (g' 1 + 1) 0).toInt.toNat) (oL t n i g O) 0 ∧ hts (oL t n i g O) 0 = 0
      have nz : ¬ g' 1 + 1 = 0 := nz_of (by omega)
      rw [upd_s, upd_n (by decide)]
      exact ⟨⟨LI_1 F1 nz g0, le2⟩, by omega, fun z => absurd z nz, V⟩
    · cases s1
theorem HW_k (h6 : n ≤ 600) : ∀ {k : Nat} {a b : LW2}, HW n a → itG (stW t n) k a = some b → HW n b
  | 0, a, b, h, e => by rw [← show a = b from Option.some.inj e]; exact h
  | k + 1, a, b, h, e => by
    have e : (stW t n a).bind (fun o => o.bind (fun c1 => itG (stW t n) k c1)) = some b := e
    obtain ⟨o, ho, e⟩ := Option.bind_eq_some_iff.mp e
    obtain ⟨c1, hc, e⟩ := Option.bind_eq_some_iff.mp e
    rw [hc] at ho
    exact HW_k h6 (HW_s h6 h ho) e
theorem HW_R {a b : LW2} (h6 : n ≤ 600) (h : HW n a) (hr : Rc (stW t n) a b) : HW n b := by
  obtain ⟨k, hk⟩ := hr
  exact HW_k h6 h hk
/-! the class -/
theorem Sk.o {k : Nat} {r : Nat → Int32} (hk : k ≠ 57 ∧ k ≠ 58 ∧ k ≠ 59) (h : Sk σ τ) : Sk σ (zI τ k r) := ⟨h.1, ⟨(zI_n hk.2.1.symm).trans h.2.1.1, (zI_n hk.2.2.symm).trans h.2.1.2⟩, by rw [zI_n hk.1.symm]; exact h.2.2⟩
theorem sk_passed (hR : RF σ.2.2) : Px (f_X5_passed N 57 σ) σ (fun _ => True) := by
  rw [f_X5_passed.eq_1]
  exact pt_gI (pt_if (fun _ => pt_some ⟨rfl, trivial⟩) (fun _ => pt_gR (v := 62) (hR 57 11 rfl) (pt_gI (pt_aI (pt_some ⟨rfl, trivial⟩)))))
theorem b57 (hB : B = 2 ∨ B = 28) {a : Nat} (ha : a ≤ 4) : B + a ≠ 57 ∧ B + a ≠ 58 ∧ B + a ≠ 59 := by omega
theorem sk_readNames (hB : B = 2 ∨ B = 28) (hR : RF σ.2.2) : Pt (f_X5_readNames N 57 B σ) (fun r => Sk σ r.2) := by
  rw [f_X5_readNames.eq_1]
  refine pt_gC (pt_zb (sk_passNumber hR) (fun v τ h => pt_if (fun _ => pt_rZ h) (fun _ => ?_)))
  have h : Sk σ τ := h
  refine pt_gC (pt_zbq (sk_passed (h.R hR)) (fun w _ => pt_pI (pt_gI (pt_pI (pt_rZ ?_)))))
  exact (h.u (by decide)).o (b57 hB (a := 0) (by decide))
theorem sk_w83 {x2 y0 : Int32} (hB : B = 2 ∨ B = 28) (hR : RF σ.2.2) : Pt (J_X5_readWeight_83 N 57 B x2 y0 σ) (fun r => Sk σ r.2) := by
  rw [J_X5_readWeight_83.eq_1]
  refine pt_gC (pt_zb (sk_advance hR) (fun v τ h => pt_if (fun _ => pt_rZ h.2) (fun _ => ?_)))
  have h : Sk σ τ := h.2
  refine pt_gC (pt_zb (sk_passNumber (h.R hR)) (fun w υ h2 => pt_if (fun _ => pt_rZ (h.tr h2)) (fun _ => ?_)))
  have h2 : Sk σ υ := h.tr h2
  refine pt_gR (v := B + 3) (rB hB (h2.R hR)).2.2.1 (pt_gC (pt_zbq (sk_passed (h2.R hR)) (fun w _ => pt_s14 (pt_rZ ?_))))
  exact h2.o (b57 hB (by decide))
theorem sk_readWeight (hB : B = 2 ∨ B = 28) (hR : RF σ.2.2) : Pt (f_X5_readWeight N 57 B σ) (fun r => Sk σ r.2) := by
  have bad : ∀ x1 : Int32, Pt (zl (gC 5 57) fun _ => zb (f_X5_fail N 57 x1 σ) fun v24 σ25 => rZ v24 σ25) (fun r => Sk σ r.2) := fun _ => pt_gC (pt_zb (sk_fail hR) (fun v τ h => pt_rZ h))
  rw [f_X5_readWeight.eq_1]
  refine pt_gR (v := 61) (hR 57 10 rfl) (pt_gI (pt_aI (pt_if (fun _ => ?_) (fun _ => bad 1))))
  refine pt_gR (v := 64) (hR 57 13 rfl) (pt_gI (pt_aI (pt_gR (v := 63) (hR 57 12 rfl) (pt_gI (pt_aI (pt_if (fun _ => ?_) (fun _ => bad 1)))))))
  refine pt_gR (v := σ.2.2 57 5) rfl (pt_gR (v := 63) (hR 57 12 rfl) (pt_gI (pt_aI (pt_aI (pt_if (fun _ => sk_w83 hB hR) (fun _ => pt_gI (pt_if (fun _ => sk_w83 hB hR) (fun _ => pt_if (fun _ => sk_w83 hB hR) (fun _ => sk_w83 hB hR)))))))))
theorem sk_addEdge {x1 x2 : Int32} (hB : B = 2 ∨ B = 28) (hR : RF σ.2.2) : Pt (f_X10_addEdge N B x1 x2 σ) (fun r => Sk σ r.2) := by
  rw [f_X10_addEdge.eq_1]
  refine pt_gI (pt_if (fun _ => pt_some Sk.rf) (fun _ => pt_gI (pt_if (fun _ => pt_some Sk.rf) (fun _ => ?_))))
  refine pt_gR (v := B + 1) (rB hB hR).1 (pt_gI (pt_s14 (pt_gR (v := B + 2) (rB hB hR).2.1 (pt_gI (pt_s14 (pt_gI (pt_pI (pt_some ?_))))))))
  exact ((Sk.rf.o (b57 hB (by decide))).o (b57 hB (by decide))).o (b57 hB (a := 0) (by decide))
theorem sk_e49 {x2 : Int32} (hB : B = 2 ∨ B = 28) (hR : RF σ.2.2) : Pt (J_X5_readEdge_49 N 57 B x2 σ) (fun r => Sk σ r.2) := by
  rw [J_X5_readEdge_49.eq_1]
  refine pt_gC (pt_zb (sk_passNumber hR) (fun v τ h => pt_if (fun _ => pt_rZ h) (fun _ => ?_)))
  have h : Sk σ τ := h
  refine pt_gC (pt_zbq (sk_passed (h.R hR)) (fun w _ => pt_gC (pt_zb (sk_addEdge hB (h.R hR)) (fun _ υ h2 => pt_rZ (h.tr h2)))))
theorem sk_readEdge (hB : B = 2 ∨ B = 28) (hR : RF σ.2.2) : Pt (f_X5_readEdge N 57 B σ) (fun r => Sk σ r.2) := by
  rw [f_X5_readEdge.eq_1]
  refine pt_gC (pt_zb (sk_passNumber hR) (fun v τ h => pt_if (fun _ => pt_rZ h) (fun _ => ?_)))
  have h : Sk σ τ := h
  have R1 := h.R hR
  refine pt_gC (pt_zbq (sk_passed R1) (fun w _ => pt_gR (v := 61) (R1 57 10 rfl) (pt_gI (pt_aI (pt_if (fun _ => ?_) (fun _ => pt_w (sk_e49 hB R1) (fun r h2 => h.tr h2)))))))
  refine pt_gR (v := 62) (R1 57 11 rfl) (pt_gI (pt_aI (pt_if (fun _ => ?_) (fun _ => pt_w (sk_e49 hB R1) (fun r h2 => h.tr h2)))))
  exact pt_gC (pt_zb (sk_fail R1) (fun v υ h2 => pt_rZ (h.tr h2)))
/-- the steps behind a line -/
def LY (t : Nat → Int32) (n c : Nat) (O O' : List zOp) (ρ : zS) (r : Int32 × zS) : Prop := ¬ r.1 = 0 → (r.2.2 = ρ.2 ∧ St r.2 O') ∧ (O' = O ∨ ∃ j, CA (r.2.1 57 9) t n c j ∧ O'.length ≤ j)
theorem LY_0 {O' : List zOp} {ρ : zS} : LY t n c O O' ρ (0, τ) := fun z => absurd rfl z
theorem vy_211 {x5 : Int32} {O' : List zOp} {ρ : zS} (hR : RF σ.2.2) (H : ¬ x5 = 0 → (σ.2 = ρ.2 ∧ St σ O') ∧ (O' = O ∨ (CB σ t n c ∧ ∃ j, CA (σ.1 57 9) t n c j ∧ O'.length ≤ j))) : Pt (J_X5_readLine_211 N 57 x5 σ) (LY t n c O O' ρ) := by
  rw [J_X5_readLine_211.eq_1]
  refine pt_if (fun _ => pt_rZ LY_0) (fun q => ?_)
  obtain ⟨⟨e, hs⟩, alt⟩ := H q
  rcases alt with alt | ⟨hC, j, hA, hl⟩
  · refine pt_gC (pt_zb (sk_pass hR) (fun v τ h => pt_if (fun _ => pt_rZ LY_0) (fun _ => pt_rZ (fun _ => ?_))))
    have h : Sk σ τ := h
    exact ⟨⟨h.1.trans e, h.k hs⟩, Or.inl alt⟩
  · refine pt_gC (pt_zb (pt_and (pt_ok (xs_pass hC hA (by decide))) (sk_pass hR)) (fun v τ h => pt_if (fun _ => pt_rZ LY_0) (fun q1 => pt_rZ (fun _ => ?_))))
    obtain ⟨⟨_, h1⟩, s1⟩ := h
    have s1 : Sk σ τ := s1
    have h1 := h1.resolve_right (fun z => q1 z.1)
    have le := tk_le (t := t) (CA_le hA)
    exact ⟨⟨s1.1.trans e, s1.k hs⟩, Or.inr ⟨_, h1.2.2, by omega⟩⟩
theorem vy_z {O' : List zOp} {ρ : zS} : Pt (J_X5_readLine_211 N 57 0 σ) (LY t n c O O' ρ) := by
  rw [J_X5_readLine_211.eq_1]
  exact pt_if (fun _ => pt_rZ LY_0) (fun q => absurd rfl q)
theorem vy_92 {x2 : Int32} (hN : 1048576 ≤ N) (hB : B = 2 ∨ B = 28) (hC : CB σ t n c) (hA : CA (σ.1 57 9) t n c i) (h7 : σ.1 57 7 = g 0) (hs : St σ O) (hl : O.length ≤ i) (hk : tkK t n i = 1) (hx : x2 = wv t n i) (hx4 : 1 ≤ x2.toInt ∧ x2.toInt ≤ 4) (hf : g 1 = 0 ↔ x2 = 1) : Pt (J_X5_readLine_92 N 57 B x2 σ) (LY t n c O (oL t n i g O) σ) := by
  have gt := tk_gt (CA_le hA) (show ¬ tkK t n i = 0 by rw [hk]; decide)
  have h600 := hC.2.1.1.2.1
  rw [J_X5_readLine_92.eq_1]
  refine pt_gC (pt_zb (pt_and (pt_ok (xs_pass hC hA (by decide))) (sk_pass hC.1.1)) (fun v σ1 h1 => ?_))
  obtain ⟨⟨f1, h1⟩, s1⟩ := h1
  have f1 : F8 σ σ1 := f1
  have s1 : Sk σ σ1 := s1
  have h1 := h1.resolve_right (fun z => z.2 (ck_w.mpr hk))
  have A1 : CA (σ1.1 57 9) t n c (tkE t n i) := h1.2.2
  have C1 := CB_fr f1.1 hC
  have R1 := C1.1.1
  have row := CA_row C1.2.1 A1
  have hs1 := s1.k hs
  refine pt_gR (v := 62) (R1 57 11 rfl) (pt_gI (pt_aI ?_))
  have eo : ∀ y : Int32, ¬ y = 4 → x2 = y → oL t n i g O = O := fun y z e => oL_n (Or.inr (fun w => z (e.symm.trans (hx.trans ((wv_iff (w := 3) (by decide)).mpr w)))))
  have same : ∀ {x5 : Int32} {τ : zS}, Sk σ1 τ → oL t n i g O = O → Pt (J_X5_readLine_211 N 57 x5 τ) (LY t n c O (oL t n i g O) σ) := fun {x5 τ} h e => by
    rw [e]
    exact vy_211 (h.R R1) (fun _ => ⟨⟨h.1.trans s1.1, h.k hs1⟩, Or.inl rfl⟩)
  refine pt_if (fun q => pt_gC (pt_zb (sk_readNames hB R1) (fun v τ h => same h (eo 1 (by decide) q)))) (fun q1 => ?_)
  refine pt_if (fun q => pt_gC (pt_zb (sk_readWeight hB R1) (fun v τ h => same h (eo 2 (by decide) q)))) (fun q2 => ?_)
  refine pt_if (fun q => pt_gC (pt_zb (sk_readEdge hB R1) (fun v τ h => same h (eo 3 (by decide) q)))) (fun q3 => ?_)
  have x4 : x2 = 4 := by
    apply Int32.toInt_inj.mp
    have a1 : x2.toInt ≠ 1 := fun z => q1 (Int32.toInt_inj.mp z)
    have a2 : x2.toInt ≠ 2 := fun z => q2 (Int32.toInt_inj.mp z)
    have a3 : x2.toInt ≠ 3 := fun z => q3 (Int32.toInt_inj.mp z)
    simp only [Int32.reduceToInt]
    omega
  have w14 : isW t n i 14 := (wv_iff (w := 3) (by decide)).mp (hx.symm.trans x4)
  have g1 : ¬ g 1 = 0 := fun z => q1 (hf.mp z)
  rw [oL_l g1 w14]
  refine pt_gC (pt_zb (pt_and (pt_ok (xs_passNumber C1 A1 (by decide))) (sk_passNumber R1)) (fun v2 σ2 h2 => ?_))
  obtain ⟨⟨f2, h2⟩, s2⟩ := h2
  have f2 : F8 σ1 σ2 := f2
  have s2 : Sk σ1 σ2 := s2
  have R2 := s2.R R1
  refine pt_if (fun _ => vy_z) (fun q => ?_)
  obtain ⟨_, ⟨ok, A2⟩, _, _⟩ := h2.resolve_right (fun z => q z.1)
  have A2 : CA (σ2.1 57 9) t n c (tkE t n (tkE t n i)) := A2
  have ep : σ1.1 62 (σ1.1 57 9).toInt.toNat = nvI t n (tkE t n i) := by
    apply nv_eq
    have z := row.2.1 ok.1
    have z : (σ1.1 62 (σ1.1 57 9).toInt.toNat).toInt = min 1000000 (Nv t n (tkF t n (tkE t n i)) 0 : Int) := z
    have b := ok.2.2
    simp only [Int32.reduceToInt] at b
    unfold nv5
    rw [z]
    omega
  have F2 := f1.tr f2
  have C2 := CB_fr F2.1 hC
  refine pt_gC (pt_zb (pt_and (pt_ok (xs_pass C2 A2 (by decide))) (sk_pass R2)) (fun v3 σ3 h3 => ?_))
  obtain ⟨⟨f3, h3⟩, s3⟩ := h3
  have f3 : F8 σ2 σ3 := f3
  have s3 : Sk σ2 σ3 := s3
  have S3 := (s1.tr s2).tr s3
  have R3 := s3.R R2
  refine pt_if (fun _ => vy_z) (fun q => ?_)
  have h3 := h3.resolve_right (fun z => q z.1)
  have A3 : CA (σ3.1 57 9) t n c (tkE t n (tkE t n (tkE t n i))) := h3.2.2
  have F3 := F2.tr f3
  have C3 := CB_fr F3.1 hC
  have l2 := (tk_le (t := t) (CA_le A1))
  have l3 := (tk_le (t := t) (CA_le A2))
  refine pt_gC (pt_zb ((csumv_all (m := g 0) hN 24).1 (tkE t n (tkE t n (tkE t n i))) [] O 0 σ3 ⟨⟨C3, A3, F3.1.2.2.trans h7⟩, ⟨S3.k hs, by omega⟩, rfl, by decide⟩ (Or.inl rfl)) (fun v4 σ4 h4 => ?_))
  refine pt_if (fun _ => vy_z) (fun q4 => ?_)
  obtain ⟨j, V, Q, O1, ⟨rc, sl, ncb⟩, A4, ⟨t4, l4⟩, F4, e4⟩ := h4 q4
  have A4 : CA (σ4.1 57 9) t n c j := A4
  have t4 : St σ4 O1 := t4
  have F4 : Fr σ3 σ4 := F4
  have e4 : σ4.2 = σ3.2 := e4
  have C4 := CB_fr F4 C3
  have j6 := CA_le A4
  refine pt_gC (pt_zb (pt_and (pt_ok (xs_emit C4)) (v_emit C4.1.1 t4 (by omega))) (fun v5 σ5 h5 => ?_))
  obtain ⟨⟨v51, f5⟩, e5, t5⟩ := h5
  have v51 : v5 = 1 := v51
  have f5 : F9 σ4 σ5 := f5
  have e5 : σ5.2 = σ4.2 := e5
  have C5 := CB_fr f5.1.1 C4
  refine pt_if (fun q => absurd (v51.symm.trans q) (by decide)) (fun _ => ?_)
  have n100 : ¬ 100 ∈ V := fun z => by
    have := (setl_100 (r := 1) (by decide) V Q).mpr z
    rw [sl] at this
    exact absurd this List.not_mem_nil
  have es : sO t n (tkE t n (tkE t n (tkE t n i))) (g 0) (nvI t n (tkE t n i)) O = O1 ++ [(6, nvI t n (tkE t n i))] := by
    rw [sO_d rc (stv_e ncb (fun z => n100 z.2)) n100]
    show (setl 1 V Q).2 ++ _ = _
    rw [sl]
  rw [es]
  rw [ep] at t5
  refine vy_211 C5.1.1 (fun _ => ⟨⟨e5.trans (e4.trans S3.1), t5⟩, Or.inr ⟨C5, j, by rw [f5.2]; exact A4, ?_⟩⟩)
  rw [List.length_append, List.length_singleton]
  omega
theorem vy_51 {x2 y0 y1 : Int32} (hN : 1048576 ≤ N) (hB : B = 2 ∨ B = 28) (hC : CB σ t n c) (hA : CA (σ.1 57 9) t n c i) (h7 : σ.1 57 7 = g 0) (hs : St σ O) (hl : O.length ≤ i) (hx : (tkK t n i = 1 ∧ x2 = wv t n i) ∨ (¬ tkK t n i = 1 ∧ x2 = -1)) (hy0 : (x2 = 1 ∧ y0 = 1) ∨ (¬ x2 = 1 ∧ y0 = 0)) (hy1 : (g 1 = 0 ∧ y1 = 1) ∨ (¬ g 1 = 0 ∧ y1 = 0)) : Pt (J_X5_readLine_51 N 57 B x2 y0 y1 σ) (LY t n c O (oL t n i g O) σ) := by
  have bad : ∀ x1 : Int32, Pt (zl (gC 5 57) fun _ => zb (f_X5_fail N 57 x1 σ) fun v8 σ9 => rZ v8 σ9) (LY t n c O (oL t n i g O) σ) := fun x1 =>
    pt_gC (pt_zb (pt_ok (xs_fail hC hA)) (fun v σ1 h1 => pt_rZ (fun z => absurd h1.1 z)))
  rw [J_X5_readLine_51.eq_1]
  refine pt_if (fun q => ?_) (fun q => bad 1)
  have hf : g 1 = 0 ↔ x2 = 1 := by
    rcases hy0 with ⟨a, rfl⟩ | ⟨a, rfl⟩
    · rcases hy1 with ⟨b, rfl⟩ | ⟨b, rfl⟩
      · exact ⟨fun _ => a, fun _ => b⟩
      · exact absurd q (by decide)
    · rcases hy1 with ⟨b, rfl⟩ | ⟨b, rfl⟩
      · exact absurd q (by decide)
      · exact ⟨fun z => absurd z b, fun z => absurd z a⟩
  refine pt_if (fun q1 => bad 1) (fun q1 => pt_if (fun q4 => ?_) (fun q4 => bad 1))
  rw [Int32.lt_iff_toInt_lt] at q1
  rw [Int32.le_iff_toInt_le] at q4
  simp only [Int32.reduceToInt] at q1 q4
  have hx := hx.resolve_right (fun z => by rw [z.2] at q1; exact absurd q1 (by decide))
  have go := vy_92 (N := N) (O := O) (g := g) hN hB hC hA h7 hs hl hx.1 hx.2 (by omega) hf
  exact pt_if (fun q3 => pt_gI (pt_gI (pt_if (fun l => go) (fun l => bad 3)))) (fun q3 => go)
theorem vy_line (hN : 1048576 ≤ N) (hB : B = 2 ∨ B = 28) (hC : CB σ t n c) (hA : CA (σ.1 57 9) t n c i) (h7 : σ.1 57 7 = g 0) (hs : St σ O) (hl : O.length ≤ i) (h1 : σ.1 B 1 = g 1) : Pt (f_X5_readLine N 57 B σ) (LY t n c O (oL t n i g O) σ) := by
  have row := CA_row hC.2.1 hA
  have e1 : σ.1 61 (σ.1 57 9).toInt.toNat = ck (tkK t n i) := row.1.1
  have go : ∀ x2 : Int32, ((tkK t n i = 1 ∧ x2 = wv t n i) ∨ (¬ tkK t n i = 1 ∧ x2 = -1)) → Pt (J_X5_readLine_26 N 57 B x2 σ) (LY t n c O (oL t n i g O) σ) := fun x2 hx => by
    rw [J_X5_readLine_26.eq_1]
    refine pt_gI ?_
    rw [h1]
    have go2 : ∀ y1 : Int32, ((g 1 = 0 ∧ y1 = 1) ∨ (¬ g 1 = 0 ∧ y1 = 0)) → Pt (J_X5_readLine_39 N 57 B x2 y1 σ) (LY t n c O (oL t n i g O) σ) := fun y1 hy => by
      rw [J_X5_readLine_39.eq_1]
      exact pt_if (fun q => vy_51 hN hB hC hA h7 hs hl hx (Or.inl ⟨q, rfl⟩) hy) (fun q => vy_51 hN hB hC hA h7 hs hl hx (Or.inr ⟨q, rfl⟩) hy)
    exact pt_if (fun q => go2 1 (Or.inl ⟨q, rfl⟩)) (fun q => go2 0 (Or.inr ⟨q, rfl⟩))
  rw [f_X5_readLine.eq_1]
  refine pt_gR (v := 61) (hC.1.1 57 10 rfl) (pt_gI (pt_aI ?_))
  rw [e1]
  refine pt_if (fun q => ?_) (fun q => go (-1) (Or.inr ⟨fun z => q (ck_w.mpr z), rfl⟩))
  refine pt_gR (v := 62) (hC.1.1 57 11 rfl) (pt_gI (pt_aI ?_))
  exact go _ (Or.inl ⟨ck_w.mp q, row.2.2 (ck_w.mp q)⟩)
end WSTEP

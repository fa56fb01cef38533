theorem tk_fe {t : Nat → Int32} {n i : Nat} (h : i ≤ n) (hk : ¬ tkK t n i = 0) : tkF t n i < tkE t n i := by
  have q : tkF t n i < n := by
    by_cases q : tkF t n i < n
    · exact q
    · exact absurd (tk_0 rfl q).1 hk
  unfold tkE
  simp only [if_pos q]
  split
  · rename_i l
    have := Rn_b (p := isLt) (t := t) (n := n) (i := tkF t n i + 1) (by omega)
    rw [Rn_s q l]; omega
  · split
    · rename_i l
      have := Rn_b (p := isDg) (t := t) (n := n) (i := tkF t n i + 1) (by omega)
      rw [Rn_s q l]; omega
    · omega
section SPLIT2
variable {N : Nat} {σ0 : zS}
def SI4 (T : Nat → Int32) (n : Nat) (σ0 : zS) (x1 x2 : Int32) (σ : zS) : Prop := Tr [61, 62, 63, 64] σ0 σ ∧ ((0 ≤ x1.toInt ∧ x1.toInt ≤ x2.toInt) ∧ x2.toInt ≤ (n : Int)) ∧ Rn isSp T n (Pk T n x1.toInt.toNat) = Rn isSp T n x2.toInt.toNat ∧ ∀ k, k < x1.toInt.toNat → ¬ tkK T n (Pk T n k) = 0 ∧ TR σ.1 T n k
theorem sp_next {T : Nat → Int32} {n : Nat} {x1 x2 v w : Int32} {σ τ : zS} (hn : n ≤ 600) (h : SI4 T n σ0 x1 x2 σ) (hT : Tr [61, 62, 63, 64] σ0 τ) (hf : tkF T n (Pk T n x1.toInt.toNat) = x2.toInt.toNat) (hw : Rw x1.toNatClampNeg σ τ) (h61 : τ.1 61 x1.toNatClampNeg = ck (tkK T n (Pk T n x1.toInt.toNat))) (h63 : τ.1 63 x1.toNatClampNeg = x2) (h64 : τ.1 64 x1.toNatClampNeg = v) (hv : v.toInt = (tkE T n (Pk T n x1.toInt.toNat) : Int)) (h62 : τ.1 62 x1.toNatClampNeg = w) (hA : tkK T n (Pk T n x1.toInt.toNat) = 2 → w.toInt = min 1000000 (Nv T n x2.toInt.toNat 0 : Int)) (hB : tkK T n (Pk T n x1.toInt.toNat) = 1 → w = wv T n (Pk T n x1.toInt.toNat)) (hk : ¬ tkK T n (Pk T n x1.toInt.toNat) = 0) : SI4 T n σ0 (x1 + 1) v τ ∧ x2.toInt < v.toInt ∧ (x1 + 1).toInt = x1.toInt + 1 := by
  obtain ⟨_, hb, _, hI⟩ := h
  have hp := Pk_le (t := T) (n := n) x1.toInt.toNat
  have h1 := tk_fe hp hk
  have h2 := (tk_le (t := T) hp).2.2
  have hs : (x1 + 1).toInt = x1.toInt + 1 := by rw [ti_add]; simp only [Int32.reduceToInt]; omega
  have hj : (x1 + 1).toInt.toNat = x1.toInt.toNat + 1 := by rw [hs]; omega
  have hc : x1.toNatClampNeg = x1.toInt.toNat := rfl
  refine ⟨⟨hT, ⟨⟨by omega, by omega⟩, by omega⟩, ?_, fun k hk' => ?_⟩, by omega, hs⟩
  · rw [hj]
    show Rn isSp T n (tkE T n (Pk T n x1.toInt.toNat)) = _
    rw [show v.toInt.toNat = tkE T n (Pk T n x1.toInt.toNat) by omega]
  · rw [hj] at hk'
    by_cases q : k = x1.toInt.toNat
    · subst q
      refine ⟨hk, ?_⟩
      unfold TR
      rw [← hc, h61, h63, h64, h62, hc, hf]
      exact ⟨⟨rfl, by omega, hv⟩, hA, hB⟩
    · exact ⟨(hI k (by omega)).1, TR_rw hw (by rw [hc]; exact q) (hI k (by omega)).2⟩
theorem sp_end {T : Nat → Int32} {n : Nat} {x1 x2 : Int32} {σ : zS} (hR : RF σ0.2.2) (hn : (σ0.1 57 6).toInt = (n : Int)) (hT0 : σ0.1 1 = T) (h6 : n ≤ 600) (h : SI4 T n σ0 x1 x2 σ) (hx : (n : Int) ≤ x2.toInt) : Ok (J_X5_split_142 N 57 x1 σ) (fun r => Tr [61, 62, 63, 64] σ0 r.2 ∧ ∃ c, CT r.2.1 T n c) := by
  obtain ⟨hT, hb, hr, hI⟩ := h
  have hf : tkF T n (Pk T n x1.toInt.toNat) = n := by
    refine hr.trans ?_
    rw [show x2.toInt.toNat = n by omega]
    exact Rn_e (fun q => absurd q (Nat.lt_irrefl _))
  have hk := tk_0 hf (Nat.lt_irrefl _)
  rw [J_X5_split_142.eq_1]
  refine ok_gR (v := 61) hT rfl (hR 57 10 rfl) ?_
  refine ok_s14 (n := 601) hT rfl (by decide) hb.1.1 (by omega) (fun τ e hO hT => ?_)
  refine ok_gR (v := 63) hT rfl (hR 57 12 rfl) ?_
  refine ok_gI rfl ?_
  rw [hT.2 57 (by decide)]
  refine ok_s14 (n := 601) hT rfl (by decide) hb.1.1 (by omega) (fun υ f hO2 hT => ?_)
  refine ok_gR (v := 64) hT rfl (hR 57 13 rfl) ?_
  refine ok_gI rfl ?_
  rw [hT.2 57 (by decide)]
  refine ok_s14 (n := 601) hT rfl (by decide) hb.1.1 (by omega) (fun ρ g hO3 hT => ?_)
  have hw : Rw x1.toNatClampNeg σ ρ := ((Rw.u61 e hO).tr (Rw.u63 f hO2)).tr (Rw.u64 g hO3)
  refine ok_some ⟨hT, x1.toInt.toNat, ⟨(hT.2 1 (by decide)).trans hT0, h6, by omega⟩, fun k q => (hI k q).1, hk.1, fun k q => ?_⟩
  have hc : x1.toNatClampNeg = x1.toInt.toNat := rfl
  by_cases z : k = x1.toInt.toNat
  · subst z
    unfold TR
    rw [hk.1, hk.2, hf]
    refine ⟨⟨?_, ?_, ?_⟩, fun q => absurd q (by decide), fun q => absurd q (by decide)⟩
    · exact ((congrFun (hO3.2 61 (by decide)) _).trans (congrFun (hO2.2 61 (by decide)) _)).trans (zI_atI e)
    · exact (congrArg Int32.toInt (show ρ.1 63 x1.toNatClampNeg = σ0.1 57 6 from (congrFun (hO3.2 63 (by decide)) _).trans (zI_atI f))).trans hn
    · exact (congrArg Int32.toInt (show ρ.1 64 x1.toNatClampNeg = σ0.1 57 6 from zI_atI g)).trans hn
  · exact TR_rw hw (by rw [hc]; exact z) (hI k (by omega)).2
theorem xs_X5_split {T : Nat → Int32} {n : Nat} (hN : 1048576 ≤ N) (hR : RF σ0.2.2) (hX : σ0.2.2 57 5 = 1) (hn : (σ0.1 57 6).toInt = (n : Int)) (hT0 : σ0.1 1 = T) (h6 : n ≤ 600) : Ok (f_X5_split N 57 σ0) (fun r => Tr [61, 62, 63, 64] σ0 r.2 ∧ ∃ c, CT r.2.1 T n c) := by
  rw [f_X5_split.eq_1]
  refine ok_lp (fun t : Int32 × Int32 × zS => SI4 T n σ0 t.1 t.2.1 t.2.2) (fun t => (601 - t.1.toInt).toNat + (601 - t.2.1.toInt).toNat) (fun again t hI ih => ?_) N _ ⟨Tr.rf, (by simp only [Int32.reduceToInt]; omega : ((0 : Int) ≤ (0 : Int32).toInt ∧ (0 : Int32).toInt ≤ (0 : Int32).toInt) ∧ (0 : Int32).toInt ≤ (n : Int)), rfl, fun k hk => absurd hk (Nat.not_lt_zero _)⟩ (by simp only [Int32.reduceToInt]; omega)
  obtain ⟨x1, x2, σ⟩ := t
  have hI : SI4 T n σ0 x1 x2 σ := hI
  have ih : ∀ y1 y2 τ, SI4 T n σ0 y1 y2 τ → (601 - y1.toInt).toNat + (601 - y2.toInt).toNat < (601 - x1.toInt).toNat + (601 - x2.toInt).toNat → Ok (again (y1, y2, τ)) (fun r => Tr [61, 62, 63, 64] σ0 r.2 ∧ ∃ c, CT r.2.1 T n c) := fun y1 y2 τ a b => ih (y1, y2, τ) a b
  have hT := hI.1
  have hb := hI.2.1
  have e57 : σ.1 57 = σ0.1 57 := hT.2 57 (by decide)
  have e1 : σ.1 1 = T := (hT.2 1 (by decide)).trans hT0
  rw [F_X5_split_4.eq_1]
  refine ok_gI rfl ?_
  rw [e57]
  refine ok_if (fun hc => sp_end hR hn hT0 h6 hI (by rw [Int32.le_iff_toInt_le] at hc; omega)) (fun hc => ?_)
  rw [Int32.le_iff_toInt_le] at hc
  refine ok_if (fun hc2 => absurd hc2 (by rw [Int32.le_iff_toInt_le]; simp only [Int32.reduceToInt]; omega)) (fun hc2 => ?_)
  have hX' := hT.1.2 hX
  have hs : (x2 + 1).toInt = x2.toInt + 1 := by rw [ti_add]; simp only [Int32.reduceToInt]; omega
  have hj : (x2 + 1).toInt.toNat = x2.toInt.toNat + 1 := by rw [hs]; omega
  have sp : isSp (T x2.toInt.toNat) → Ok (again (x1, x2 + 1, σ)) (fun r => Tr [61, 62, 63, 64] σ0 r.2 ∧ ∃ c, CT r.2.1 T n c) := fun q => ih x1 (x2 + 1) σ ⟨hT, ⟨⟨hb.1.1, by omega⟩, by omega⟩, by rw [hj, hI.2.2.1]; exact Rn_s (by omega) q, hI.2.2.2⟩ (by omega)
  refine ok_gRX hT hX ?_
  refine ok_aIn (n := 600) rfl (by omega) (by omega) (fun v e => ?_)
  have e : v = T x2.toInt.toNat := by rw [e, e1]; rfl
  refine ok_if (fun q => sp (Or.inl (by rw [← e, q]; rfl))) (fun n32 => ?_)
  refine ok_gRX hT hX ?_
  refine ok_aIn (n := 600) rfl (by omega) (by omega) (fun v2 e2 => ?_)
  have e2 : v2 = T x2.toInt.toNat := by rw [e2, e1]; rfl
  refine ok_if (fun q => sp (Or.inr (by rw [← e2, q]; rfl))) (fun n10 => ?_)
  have ns : ¬ isSp (T x2.toInt.toNat) := fun q => by
    rcases q with q | q
    · exact n32 (by rw [e]; exact Int32.toInt_inj.mp q)
    · exact n10 (by rw [e2]; exact Int32.toInt_inj.mp q)
  have hf : tkF T n (Pk T n x1.toInt.toNat) = x2.toInt.toNat := hI.2.2.1.trans (Rn_e (fun _ => ns))
  have hl : x2.toInt.toNat < n := by omega
  have hx1 : 0 ≤ x1.toInt ∧ x1.toInt ≤ 600 := by omega
  refine ok_gR (v := 63) hT rfl (hR 57 12 rfl) ?_
  refine ok_s14 (n := 601) hT rfl (by decide) hb.1.1 (by omega) (fun τ f hO hT => ?_)
  have t57 : τ.1 57 = σ0.1 57 := hT.2 57 (by decide)
  have t1 : τ.1 1 = T := (hT.2 1 (by decide)).trans hT0
  have a63 : τ.1 63 x1.toNatClampNeg = x2 := zI_atI f
  have w63 : Rw x1.toNatClampNeg σ τ := Rw.u63 f hO
  refine ok_gRX hT hX ?_
  refine ok_aIn (n := 600) rfl (by omega) (by omega) (fun v3 e3 => ?_)
  have e3 : v3 = T x2.toInt.toNat := by rw [e3, t1]; rfl
  refine ok_zbX (Q := fun v => (v = 0 → ¬ isLt v3) ∧ (¬ v = 0 → isLt v3)) x_X5_isLetter (fun v4 h4 => ?_)
  refine ok_if (fun h => ?_) (fun h => ?_)
  · have nl := h4.1 h
    rw [e3] at nl
    refine ok_gRX hT hX ?_
    refine ok_aIn (n := 600) rfl (by omega) (by omega) (fun v5 e5 => ?_)
    have e5 : v5 = T x2.toInt.toNat := by rw [e5, t1]; rfl
    refine ok_zbX (Q := fun v => (v = 0 → ¬ isDg v5) ∧ (¬ v = 0 → isDg v5)) x_X5_isDigit (fun v6 h6' => ?_)
    refine ok_if (fun h => ?_) (fun h => ?_)
    · have nd := h6'.1 h
      rw [e5] at nd
      have tk := tk_3 hf hl nl nd
      refine ok_gR (v := 61) hT rfl (hR 57 10 rfl) ?_
      refine ok_gRX hT hX ?_
      refine ok_aIn (n := 600) rfl (by omega) (by omega) (fun v7 e7 => ?_)
      have e7 : v7 = T x2.toInt.toNat := by rw [e7, t1]; rfl
      refine ok_zbX (Q := fun v => (v = 0 → ¬ sgn v7) ∧ (¬ v = 0 → sgn v7)) x_X5_isSign (fun v8 h8 => ?_)
      refine ok_if (fun h => ?_) (fun h => ?_)
      · have nS := h8.1 h
        rw [e7] at nS
        rw [if_neg nS] at tk
        refine ok_s14 (n := 601) hT rfl (by decide) hb.1.1 (by omega) (fun υ g hO2 hT => ?_)
        refine ok_gR (v := 64) hT rfl (hR 57 13 rfl) ?_
        refine ok_s14 (n := 601) hT rfl (by decide) hb.1.1 (by omega) (fun ρ g3 hO3 hT => ?_)
        have z := sp_next (w := ρ.1 62 x1.toNatClampNeg) h6 hI hT hf ((w63.tr (Rw.u61 g hO2)).tr (Rw.u64 g3 hO3)) (((congrFun (hO3.2 61 (by decide)) _).trans (zI_atI g)).trans (by rw [tk.1]; rfl)) (((congrFun (hO3.2 63 (by decide)) _).trans (congrFun (hO2.2 63 (by decide)) _)).trans a63) (zI_atI g3) (by rw [tk.2, hs]; omega) rfl (fun q => absurd (tk.1.symm.trans q) (by decide)) (fun q => absurd (tk.1.symm.trans q) (by decide)) (by rw [tk.1]; decide)
        exact ih _ _ _ z.1 (by omega)
      · have nS := h8.2 h
        rw [e7] at nS
        rw [if_pos nS] at tk
        have sb := sg_b nS
        have ne : ∀ y : Int32, y.toInt < 35 → ¬ T x2.toInt.toNat = y := fun y hy q => by rw [q] at sb; omega
        refine ok_gRX hT hX ?_
        refine ok_aIn (n := 600) rfl (by omega) (by omega) (fun v9 e9 => ?_)
        have e9 : v9 = T x2.toInt.toNat := by rw [e9, t1]; rfl
        refine ok_s14 (n := 601) hT rfl (by decide) hb.1.1 (by omega) (fun υ g hO2 hT => ?_)
        refine ok_gR (v := 64) hT rfl (hR 57 13 rfl) ?_
        refine ok_s14 (n := 601) hT rfl (by decide) hb.1.1 (by omega) (fun ρ g3 hO3 hT => ?_)
        have z := sp_next (w := ρ.1 62 x1.toNatClampNeg) h6 hI hT hf ((w63.tr (Rw.u61 g hO2)).tr (Rw.u64 g3 hO3)) (((congrFun (hO3.2 61 (by decide)) _).trans (zI_atI g)).trans (by rw [tk.1, e9]; exact ((ck_s (by omega)).mpr rfl).symm)) (((congrFun (hO3.2 63 (by decide)) _).trans (congrFun (hO2.2 63 (by decide)) _)).trans a63) (zI_atI g3) (by rw [tk.2, hs]; omega) rfl (fun q => absurd (tk.1.symm.trans q) (ne 2 (by decide))) (fun q => absurd (tk.1.symm.trans q) (ne 1 (by decide))) (by rw [tk.1]; exact ne 0 (by decide))
        exact ih _ _ _ z.1 (by omega)
    · have nd := h6'.2 h
      rw [e5] at nd
      have tk := tk_2 hf hl nd
      refine ok_gC rfl (ok_zb (xs_X5_splitNumber hN (hR.tr hT) (hT.1.2 hX) hx1 (by rw [t57]; omega) (by rw [t57]; omega)) (fun v8 υ h8 => ?_))
      obtain ⟨⟨hO2, w2⟩, k61, w, k62, ev, ew⟩ := h8
      have hT := hT.up hO2 (by decide)
      rw [t57, t1, hn, Int.toNat_natCast] at ev ew
      refine ok_gR (v := 64) hT rfl (hR 57 13 rfl) ?_
      refine ok_s14 (n := 601) hT rfl (by decide) hb.1.1 (by omega) (fun ρ g3 hO3 hT => ?_)
      have z := sp_next (w := w) h6 hI hT hf ((w63.tr w2).tr (Rw.u64 g3 hO3)) (((congrFun (hO3.2 61 (by decide)) _).trans k61).trans (by rw [tk.1]; rfl)) (((congrFun (hO3.2 63 (by decide)) _).trans (congrFun (hO2.2 63 (by decide)) _)).trans a63) (zI_atI g3) (by rw [tk.2]; exact ev) ((congrFun (hO3.2 62 (by decide)) _).trans k62) (fun _ => ew) (fun q => absurd (tk.1.symm.trans q) (by decide)) (by rw [tk.1]; decide)
      exact ih _ _ _ z.1 (by omega)
  · have nl := h4.2 h
    rw [e3] at nl
    have tk := tk_1 hf hl nl
    refine ok_gC rfl (ok_zb (xs_X5_splitWord hN (hR.tr hT) (hT.1.2 hX) hx1 (by rw [t57]; omega) (by rw [t57]; omega)) (fun v8 υ h8 => ?_))
    obtain ⟨⟨hO2, w2⟩, k61, w, k62, ev, ew⟩ := h8
    have hT := hT.up hO2 (by decide)
    rw [t57, t1, hn, Int.toNat_natCast] at ev
    refine ok_gR (v := 64) hT rfl (hR 57 13 rfl) ?_
    refine ok_s14 (n := 601) hT rfl (by decide) hb.1.1 (by omega) (fun ρ g3 hO3 hT => ?_)
    have ev' : v8.toInt = (tkE T n (Pk T n x1.toInt.toNat) : Int) := by rw [tk.2]; exact ev
    have z := sp_next (w := w) h6 hI hT hf ((w63.tr w2).tr (Rw.u64 g3 hO3)) (((congrFun (hO3.2 61 (by decide)) _).trans k61).trans (by rw [tk.1]; rfl)) (((congrFun (hO3.2 63 (by decide)) _).trans (congrFun (hO2.2 63 (by decide)) _)).trans a63) (zI_atI g3) ev' ((congrFun (hO3.2 62 (by decide)) _).trans k62) (fun q => absurd (tk.1.symm.trans q) (by decide)) (fun _ => ew.trans (spC_w t1 (by rw [hf]; omega) ev' tk.1)) (by rw [tk.1]; decide)
    exact ih _ _ _ z.1 (by omega)
end SPLIT2

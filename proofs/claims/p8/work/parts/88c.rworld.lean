section RLINE2
variable {N : Nat} {σ : zS} {t : Nat → Int32} {n i : Nat}
/-- a line that went wrong ahead of its reading -/
theorem vr_65b {o : LO} (hb : ¬ σ.1 218 14 = 0) (ho : o = none) : Pt (J_X12_readsLine_65 N 218 σ) (fun r => LB t n o r.2.1) := by
  rw [J_X12_readsLine_65.eq_1]
  refine pt_gC (g_bad (fun q => ?_) (fun q => absurd q hb))
  exact pt_if (fun _ => pt_some ⟨fun z => absurd z q, fun _ => ho⟩) (fun z => absurd rfl z)
theorem vr_35b {o : LO} (hN : 1048576 ≤ N) (hR : RF σ.2.2) (hK : TOK σ.1) (hY : BYT (σ.1 224)) (hb : ¬ σ.1 218 14 = 0) (ho : o = none) : Pt (J_X12_readsLine_35 N 218 σ) (fun r => LB t n o r.2.1) := by
  rw [J_X12_readsLine_35.eq_1]
  refine pt_gC (pt_zbX (Q := fun _ => True) (pt_w (pt_ok (x0_X12_is hN hR (by decide) hK)) (fun r h => ⟨h.1, trivial⟩)) (fun v _ => ?_))
  refine pt_if (fun _ => vr_65b hb ho) (fun _ => ?_)
  refine pt_gR (v := 231) (hR 218 26 rfl) (pt_aI (pt_gR (v := 231) (hR 218 26 rfl) (pt_aI ?_)))
  refine pt_if (fun _ => ?_) (fun _ => vr_65b hb ho)
  refine pt_gC (pt_zb (pt_ok (s_X12_errs hN hR hK hY (by decide))) (fun _ σ3 h3 => ?_))
  exact vr_65b h3.2.1.2 ho
theorem vr_65 (hN : 1048576 ≤ N) (hR : RF σ.2.2) (hK : TOK σ.1) (hY : BYT (σ.1 224)) (hB : ZB σ.1) (hG : RX σ.1 t n i) (hg : σ.1 218 14 = 0) (hi : i ≤ n) (hs : 0 ≤ (σ.1 218 25).toInt ∧ (σ.1 218 25).toInt ≤ 24) (hF : FW (σ.1 231)) (hw : isW t n i 12 ∨ isW t n i 13 ∨ isW t n i 14) (he : isW t n i 13 → ¬ σ.1 231 2 = σ.1 231 0) : Pt (J_X12_readsLine_65 N 218 σ) (fun r => LB t n (lnR t n i (σ.1 231) (σ.1 218 25).toInt.toNat) r.2.1) := by
  have le1 := (tk_le (t := t) hi).2.2
  have le2 := (tk_le (t := t) le1).2.2
  have le3 := (tk_le (t := t) le2).2.2
  rw [J_X12_readsLine_65.eq_1]
  refine pt_gC (g_bad (fun q => absurd hg q) (fun _ v hv => ?_))
  refine pt_if (fun z => absurd z hv) (fun _ => ?_)
  refine pt_gC (pt_zb (pt_ok (s_X12_takes_r (tx := t) (n := n) (i := i) hN hR hK hY hG hg (by decide))) (fun v1 σ1 h1 => ?_))
  obtain ⟨T1, ⟨K1, _, n1, y1⟩, _, _, e14, _, _, _, _, _, e25⟩ := h1
  have T1 : Tr [218] σ σ1 := T1
  have n1 : v1 = 0 → σ1 = σ ∧ ¬ isW t n i 12 := n1
  have y1 : ¬ v1 = 0 → (isW t n i 12 ∧ _) ∧ RX σ1.1 t n (tkE t n i) := y1
  refine pt_if (fun z => ?_) (fun z => ?_)
  · obtain ⟨rfl, nw⟩ := n1 z
    refine pt_gC (pt_zb (pt_ok (s_X12_takes_r (tx := t) (n := n) (i := i) hN hR hK hY hG hg (by decide))) (fun v2 σ2 h2 => ?_))
    obtain ⟨T2, ⟨K2, _, n2, y2⟩, _, _, e14, _, _, _, _, _, e25⟩ := h2
    have T2 : Tr [218] σ1 σ2 := T2
    have n2 : v2 = 0 → σ2 = σ1 ∧ ¬ isW t n i 13 := n2
    have y2 : ¬ v2 = 0 → (isW t n i 13 ∧ _) ∧ RX σ2.1 t n (tkE t n i) := y2
    have e14 : σ2.1 218 14 = σ1.1 218 14 := e14
    have e25 : σ2.1 218 25 = σ1.1 218 25 := e25
    refine pt_if (fun z => ?_) (fun z => ?_)
    · obtain ⟨rfl, ne⟩ := n2 z
      have wl := (hw.resolve_left nw).resolve_left ne
      have l0 := hK.2.1 (by rw [hG.2.2.1, wl.1]; decide)
      have A : (0 ≤ (σ2.1 218 10).toInt ∧ (σ2.1 218 10).toInt ≤ (σ2.1 218 9).toInt) ∧ (σ2.1 218 9).toInt ≤ 600 := by have := hK.1; omega
      refine pt_gC (pt_zb (pt_ok (s_X12_advance_r (tx := t) (n := n) (i := i) hN hR A hY hG)) (fun _ σ3 h3 => ?_))
      obtain ⟨T3, ⟨⟨K3, _⟩, G3⟩, _, _, d14, _, _, _, _, _, d25⟩ := h3
      have T3 : Tr [218] σ2 σ3 := T3
      have d14 : σ3.1 218 14 = σ2.1 218 14 := d14
      have d25 : σ3.1 218 25 = σ2.1 218 25 := d25
      have r3 : σ3.1 231 = σ2.1 231 := T3.2 231 (by decide)
      refine pt_gC (pt_zb (pt_ok (s_X12_readsLet_r (tx := t) (n := n) (i := tkE t n i) hN (hR.tr T3) K3 (by rw [T3.2 224 (by decide)]; exact hY) G3 (d14.trans hg) (ZB.tr T3 (by decide) hB) (by rw [r3]; exact hF) le1 (by rw [d25]; exact hs))) (fun _ σ4 h4 => ?_))
      obtain ⟨T4, ⟨K4, _, u4, f4, s4, _⟩, _⟩ := h4
      have T4 : Tr [218, 226, 227, 228, 229, 230, 232] σ3 σ4 := T4
      have u4 : σ4.1 218 14 = 0 → ∃ j, letR t n (σ3.1 231 0) (tkE t n i) (σ3.1 218 25).toInt.toNat = some (j, (σ4.1 218 25).toInt.toNat) ∧ RX σ4.1 t n j ∧ j ≤ n := u4
      have f4 : ¬ σ4.1 218 14 = 0 → letR t n (σ3.1 231 0) (tkE t n i) (σ3.1 218 25).toInt.toNat = none := f4
      rw [r3, d25] at u4 f4
      have r4 : σ4.1 231 = σ2.1 231 := (T4.2 231 (by decide)).trans r3
      refine pt_some ⟨fun q => ?_, fun q => ?_⟩
      · obtain ⟨j, e, x, l⟩ := u4 q
        refine ⟨j, ?_, x, l, s4⟩
        rw [lnR_l nw ne wl, e]
        show _ = some (j, σ4.1 231, (σ4.1 218 25).toInt.toNat)
        rw [r4]; rfl
      · rw [lnR_l nw ne wl, f4 q]; rfl
    · have a2 := y2 z
      have r2 : σ2.1 231 = σ1.1 231 := T2.2 231 (by decide)
      have h02 := hF.1
      refine pt_gC (pt_zb (vr_readsEdge (t := t) (n := n) (i := tkE t n i) hN (hR.tr T2) K2 (by rw [T2.2 224 (by decide)]; exact hY) a2.2 (e14.trans hg) le1 (by rw [e25]; exact hs) (by rw [r2]; omega)) (fun _ σ3 h3 => ?_))
      rw [r2, e25] at h3
      rw [lnR_e nw a2.1.1 (he a2.1.1)]
      exact pt_some h3
  · have a1 := y1 z
    have e14 : σ1.1 218 14 = σ.1 218 14 := e14
    have e25 : σ1.1 218 25 = σ.1 218 25 := e25
    have r1 : σ1.1 231 = σ.1 231 := T1.2 231 (by decide)
    have Y1 : BYT (σ1.1 224) := by rw [T1.2 224 (by decide)]; exact hY
    refine pt_gC (pt_zb (pt_ok (s_X12_readsName_r (tx := t) (n := n) (i := tkE t n i) hN (hR.tr T1) K1 Y1 a1.2 (e14.trans hg) (by rw [r1]; exact hF))) (fun v2 σ2 h2 => ?_))
    obtain ⟨T2, ⟨K2, _, u2, f2, b2⟩, _, _, _, _, _, _, d25⟩ := h2
    have T2 : Tr [218] σ1 σ2 := T2
    have u2 : σ2.1 218 14 = 0 → (nmOK t n (tkE t n i) (σ1.1 231 0) ∧ v2.toInt = (t (tkF t n (tkE t n i))).toInt - 97) ∧ RX σ2.1 t n (tkE t n (tkE t n i)) := u2
    have f2 : ¬ σ2.1 218 14 = 0 → ¬ nmOK t n (tkE t n i) (σ1.1 231 0) := f2
    have b2 : 0 ≤ v2.toInt ∧ v2.toInt ≤ 9 := b2
    have d25 : σ2.1 218 25 = σ1.1 218 25 := d25
    rw [r1] at u2 f2
    refine pt_gR (v := 231) (((hR.tr T1).tr T2) 218 26 rfl) ?_
    refine pt_gC (pt_zb (pt_ok (s_X12_number_c (tx := t) (n := n) (i := tkE t n (tkE t n i)) hN ((hR.tr T1).tr T2) K2 (by rw [T2.2 224 (by decide)]; exact Y1) (fun q => (u2 q).2))) (fun v3 σ3 h3 => ?_))
    obtain ⟨T3, ⟨K3, _, u3, f3⟩, _, _, _, _, _, _, c25⟩ := h3
    have T3 : Tr [218] σ2 σ3 := T3
    have u3 : σ3.1 218 14 = 0 → ((σ2.1 218 14 = 0 ∧ _) ∧ nOK t n (tkE t n (tkE t n i)) 0 99) ∧ v3.toInt = nv5 t n (tkE t n (tkE t n i)) ∧ RX σ3.1 t n (tkE t n (tkE t n (tkE t n i))) := u3
    have f3 : ¬ σ3.1 218 14 = 0 → v3 = 0 ∧ (σ2.1 218 14 = 0 → ¬ nOK t n (tkE t n (tkE t n i)) 0 99) := f3
    have c25 : σ3.1 218 25 = σ2.1 218 25 := c25
    have r3 : σ3.1 231 = σ.1 231 := ((T3.2 231 (by decide)).trans (T2.2 231 (by decide))).trans r1
    rw [lnR_w a1.1.1]
    refine pt_s14 (pt_some ⟨fun q => ?_, fun q => ?_⟩)
    · have q : σ3.1 218 14 = 0 := by have q := q; rw [show (zI σ3 231 (upd (σ3.1 231) (3 + v2).toInt.toNat v3)).1 218 = σ3.1 218 from zI_n (by decide)] at q; exact q
      have a3 := u3 q
      have a2 := u2 a3.1.1.1
      refine ⟨tkE t n (tkE t n (tkE t n i)), ?_, RX_c (zI_n (by decide)) (zI_n (by decide)) a3.2.2, le3, ?_⟩
      · show _ = some (_, (zI σ3 231 (upd (σ3.1 231) (3 + v2).toInt.toNat v3)).1 231, ((zI σ3 231 (upd (σ3.1 231) (3 + v2).toInt.toNat v3)).1 218 25).toInt.toNat)
        rw [zI_s, zI_n (by decide), r3, c25, d25, e25, wtR_t ⟨a2.1.1, a3.1.2⟩, nv_eq a3.2.1, a3_ ⟨b2.1, by omega⟩, a2.1.2]
        have b9 := a2.1.2
        rw [show (3 + ((t (tkF t n (tkE t n i))).toInt - 97)).toNat = 3 + ((t (tkF t n (tkE t n i))).toInt - 97).toNat by omega]
      · show 0 ≤ ((zI σ3 231 (upd (σ3.1 231) (3 + v2).toInt.toNat v3)).1 218 25).toInt ∧ ((zI σ3 231 (upd (σ3.1 231) (3 + v2).toInt.toNat v3)).1 218 25).toInt ≤ 24
        rw [zI_n (by decide), c25, d25, e25]; exact hs
    · have q : ¬ σ3.1 218 14 = 0 := by have q := q; rw [show (zI σ3 231 (upd (σ3.1 231) (3 + v2).toInt.toNat v3)).1 218 = σ3.1 218 from zI_n (by decide)] at q; exact q
      refine wtR_f (fun w => ?_)
      by_cases y : σ2.1 218 14 = 0
      · exact (f3 q).2 y w.2
      · exact f2 y w.1
theorem vr_35 (hN : 1048576 ≤ N) (hR : RF σ.2.2) (hK : TOK σ.1) (hY : BYT (σ.1 224)) (hB : ZB σ.1) (hG : RX σ.1 t n i) (hg : σ.1 218 14 = 0) (hi : i ≤ n) (hs : 0 ≤ (σ.1 218 25).toInt ∧ (σ.1 218 25).toInt ≤ 24) (hF : FW (σ.1 231)) (hw : isW t n i 12 ∨ isW t n i 13 ∨ isW t n i 14) : Pt (J_X12_readsLine_35 N 218 σ) (fun r => LB t n (lnR t n i (σ.1 231) (σ.1 218 25).toInt.toNat) r.2.1) := by
  rw [J_X12_readsLine_35.eq_1]
  refine pt_gC (pt_zbX (Q := fun v => (v = 0 ∨ v = 1) ∧ (v = 0 → ¬ isW t n i 13) ∧ (¬ v = 0 → isW t n i 13)) (pt_ok (xf_X12_is hN hR (by decide) hK hg hG)) (fun v hv => ?_))
  refine pt_if (fun z => vr_65 hN hR hK hY hB hG hg hi hs hF hw (fun y => absurd y (hv.2.1 z))) (fun z => ?_)
  have w13 := hv.2.2 z
  refine pt_gR (v := 231) (hR 218 26 rfl) (pt_aI (pt_gR (v := 231) (hR 218 26 rfl) (pt_aI ?_)))
  refine pt_if (fun e => ?_) (fun e => vr_65 hN hR hK hY hB hG hg hi hs hF hw (fun _ => e))
  refine pt_gC (pt_zb (pt_ok (s_X12_errs hN hR hK hY (by decide))) (fun _ σ3 h3 => ?_))
  refine vr_65b h3.2.1.2 (lnR_m (fun y => ?_) w13 e)
  exact absurd (isW_u (a := 1) (b := 2) (by decide) (by decide) y w13) (by decide)
theorem vr_readsLine (hN : 1048576 ≤ N) (hR : RF σ.2.2) (hK : TOK σ.1) (hY : BYT (σ.1 224)) (hB : ZB σ.1) (hG : RX σ.1 t n i) (hg : σ.1 218 14 = 0) (hi : i ≤ n) (hs : 0 ≤ (σ.1 218 25).toInt ∧ (σ.1 218 25).toInt ≤ 24) (hF : FW (σ.1 231)) : Pt (f_X12_readsLine N 218 σ) (fun r => LB t n (lnR t n i (σ.1 231) (σ.1 218 25).toInt.toNat) r.2.1) := by
  rw [f_X12_readsLine.eq_1]
  refine pt_gC (pt_zbX (Q := fun v => (v = 0 ∨ v = 1) ∧ (v = 0 → ¬ isW t n i 12) ∧ (¬ v = 0 → isW t n i 12)) (pt_ok (xf_X12_is hN hR (by decide) hK hg hG)) (fun v1 h1 => ?_))
  refine pt_if (fun z1 => ?_) (fun z1 => vr_35 hN hR hK hY hB hG hg hi hs hF (Or.inl (h1.2.2 z1)))
  refine pt_gC (pt_zbX (Q := fun v => (v = 0 ∨ v = 1) ∧ (v = 0 → ¬ isW t n i 13) ∧ (¬ v = 0 → isW t n i 13)) (pt_ok (xf_X12_is hN hR (by decide) hK hg hG)) (fun v2 h2 => ?_))
  refine pt_if (fun z2 => ?_) (fun z2 => vr_35 hN hR hK hY hB hG hg hi hs hF (Or.inr (Or.inl (h2.2.2 z2))))
  refine pt_gC (pt_zbX (Q := fun v => (v = 0 ∨ v = 1) ∧ (v = 0 → ¬ isW t n i 14) ∧ (¬ v = 0 → isW t n i 14)) (pt_ok (xf_X12_is hN hR (by decide) hK hg hG)) (fun v3 h3 => ?_))
  refine pt_if (fun z3 => ?_) (fun z3 => vr_35 hN hR hK hY hB hG hg hi hs hF (Or.inr (Or.inr (h3.2.2 z3))))
  refine pt_gC (pt_zb (pt_ok (s_X12_errs hN hR hK hY (by decide))) (fun _ σ3 h4 => ?_))
  obtain ⟨T4, ⟨K4, b4⟩, _⟩ := h4
  have T4 : Tr [218] σ σ3 := T4
  exact vr_35b hN (hR.tr T4) K4 (by rw [T4.2 224 (by decide)]; exact hY) b4 (lnR_z (h1.2.1 z1) (h2.2.1 z2) (h3.2.1 z3))
end RLINE2

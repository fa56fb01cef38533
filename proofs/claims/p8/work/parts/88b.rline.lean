/-! ===== the reference's lines ===== -/
section RLINE
variable {N : Nat} {σ : zS} {t : Nat → Int32} {n i : Nat}
/-- what a line's reading leaves behind -/
def LB (t : Nat → Int32) (n : Nat) (o : LO) (s : Nat → Nat → Int32) : Prop := (s 218 14 = 0 → ∃ j, o = some (j, s 231, (s 218 25).toInt.toNat) ∧ RX s t n j ∧ j ≤ n ∧ 0 ≤ (s 218 25).toInt ∧ (s 218 25).toInt ≤ 24) ∧ (¬ s 218 14 = 0 → o = none)
/-- the token stands as it stood -/
theorem RX_c {s s' : Nat → Nat → Int32} {t : Nat → Int32} {n j : Nat} (e1 : s' 218 = s 218) (e2 : s' 224 = s 224) (h : RX s t n j) : RX s' t n j := by
  unfold RX TKS at h ⊢
  rw [e1, e2]; exact h
theorem nm_loop {σ2 : zS} {v : Int32} {g : Nat → Int32} {P : Unit × zS → Prop} (hR : RF σ2.2.2) (h0 : σ2.1 231 = upd g 0 v) (hP : ∀ τ : zS, τ.1 231 = nmRow g v → (∀ k, k ≠ 231 → τ.1 k = σ2.1 k) → P ((), τ)) : Pt (zlp (F_X12_readsNames_22 N 218) N (0, σ2)) P := by
  refine pt_lp (fun s : Int32 × zS => (0 ≤ s.1.toInt ∧ s.1.toInt ≤ 10) ∧ s.2.2.2 = σ2.2.2 ∧ (∀ k, k ≠ 231 → s.2.1 k = σ2.1 k) ∧ ∀ j, s.2.1 231 j = if j = 0 then v else if 3 ≤ j ∧ (j : Int) < 3 + s.1.toInt then 1 else if 33 ≤ j ∧ (j : Int) < 33 + s.1.toInt then nI (j - 33) else g j) (fun again s hI ih => ?_) N _ ⟨(by decide : 0 ≤ (0 : Int32).toInt ∧ (0 : Int32).toInt ≤ 10), rfl, fun _ _ => rfl, fun j => ?_⟩
  · obtain ⟨x1, τ⟩ := s
    obtain ⟨hb, hr, ho, hj⟩ := hI
    have hb : 0 ≤ x1.toInt ∧ x1.toInt ≤ 10 := hb
    have hr : τ.2.2 = σ2.2.2 := hr
    have ho : ∀ k, k ≠ 231 → τ.1 k = σ2.1 k := ho
    have hj : ∀ j, τ.1 231 j = if j = 0 then v else if 3 ≤ j ∧ (j : Int) < 3 + x1.toInt then 1 else if 33 ≤ j ∧ (j : Int) < 33 + x1.toInt then nI (j - 33) else g j := hj
    rw [F_X12_readsNames_22.eq_1]
    refine pt_if (fun q => pt_some (hP τ ?_ ho)) (fun q => ?_)
    · rw [Int32.le_iff_toInt_le] at q
      simp only [Int32.reduceToInt] at q
      funext j
      rw [hj j]
      unfold nmRow
      by_cases a : j = 0
      · rw [if_pos a, if_pos a]
      · rw [if_neg a, if_neg a]
        by_cases b : 3 ≤ j ∧ j < 13
        · rw [if_pos b, if_pos (by omega)]
        · rw [if_neg b, if_neg (by omega)]
          by_cases c : 33 ≤ j ∧ j < 43
          · rw [if_pos c, if_pos (by omega)]
          · rw [if_neg c, if_neg (by omega)]
    · rw [Int32.le_iff_toInt_le] at q
      simp only [Int32.reduceToInt] at q
      have hw : 0 ≤ x1.toInt ∧ x1.toInt ≤ 100000 := by omega
      have hx1 : 0 ≤ (x1 + 1).toInt ∧ (x1 + 1).toInt ≤ 10 := by rw [a1_ hw]; omega
      refine pt_gR (v := 231) (by rw [hr]; exact hR 218 26 rfl) (pt_s14 ?_)
      refine pt_gR (v := 231) (by show τ.2.2 218 26 = 231; rw [hr]; exact hR 218 26 rfl) (pt_s14 ?_)
      refine ih (x1 + 1, _) ⟨hx1, hr, fun k hk => ?_, fun j => ?_⟩
      · show (zI (zI τ 231 _) 231 _).1 k = _
        rw [zI_n hk, zI_n hk]; exact ho k hk
      · show (zI (zI τ 231 _) 231 _).1 231 j = if j = 0 then v else if 3 ≤ j ∧ (j : Int) < 3 + (x1 + 1).toInt then 1 else if 33 ≤ j ∧ (j : Int) < 33 + (x1 + 1).toInt then nI (j - 33) else g j
        rw [zI_s, zI_s, upd_i, upd_i, hj j, a3_ hw, a33_ hw, a1_ hw]
        clear hx1
        by_cases a : j = (33 + x1.toInt).toNat
        · rw [if_pos a, if_neg (by omega), if_neg (by omega), if_pos (by omega)]
          apply Int32.toInt_inj.mp
          rw [nI_toInt (by omega)]; omega
        · rw [if_neg a]
          by_cases b : j = (3 + x1.toInt).toNat
          · rw [if_pos b, if_neg (by omega), if_pos (by omega)]
          · rw [if_neg b]
            by_cases c : j = 0
            · rw [if_pos c, if_pos c]
            · rw [if_neg c, if_neg c]
              by_cases d : 3 ≤ j ∧ (j : Int) < 3 + x1.toInt
              · rw [if_pos d, if_pos (by omega)]
              · rw [if_neg d]
                by_cases f : 33 ≤ j ∧ (j : Int) < 33 + x1.toInt
                · rw [if_pos f, if_neg (by omega), if_pos (by omega)]
                · rw [if_neg f, if_neg (by omega), if_neg (by omega)]
  · show σ2.1 231 j = if j = 0 then v else if 3 ≤ j ∧ (j : Int) < 3 + (0 : Int32).toInt then 1 else if 33 ≤ j ∧ (j : Int) < 33 + (0 : Int32).toInt then nI (j - 33) else g j
    simp only [Int32.reduceToInt]
    rw [h0, upd_i]
    by_cases a : j = 0
    · rw [if_pos a, if_pos a]
    · rw [if_neg a, if_neg a, if_neg (by omega), if_neg (by omega)]
theorem vr_readsNames (hN : 1048576 ≤ N) (hR : RF σ.2.2) (hK : TOK σ.1) (hY : BYT (σ.1 224)) (hG : RX σ.1 t n i) (hg : σ.1 218 14 = 0) (hi : i ≤ n) (hs : 0 ≤ (σ.1 218 25).toInt ∧ (σ.1 218 25).toInt ≤ 24) : Pt (f_X12_readsNames N 218 σ) (fun r => LB t n (nmR t n i (σ.1 231) (σ.1 218 25).toInt.toNat) r.2.1) := by
  rw [f_X12_readsNames.eq_1]
  refine pt_gC (pt_zb (pt_ok (s_X12_needs_r hN hR hK hY hG hg (by decide))) (fun v1 σ1 h1 => ?_))
  obtain ⟨T1, ⟨K1, _, u1, f1⟩, _, _, _, _, _, _, e25⟩ := h1
  have T1 : Tr [218] σ σ1 := T1
  have K1 : TOK σ1.1 := K1
  have u1 : σ1.1 218 14 = 0 → isW t n i 11 ∧ RX σ1.1 t n (tkE t n i) := u1
  have f1 : ¬ σ1.1 218 14 = 0 → ¬ isW t n i 11 := f1
  have e25 : σ1.1 218 25 = σ.1 218 25 := e25
  refine pt_gR (v := 231) ((hR.tr T1) 218 26 rfl) ?_
  refine pt_gC (pt_zb (pt_ok (s_X12_number_c (tx := t) (n := n) (i := tkE t n i) hN (hR.tr T1) K1 (by rw [T1.2 224 (by decide)]; exact hY) (fun q => (u1 q).2))) (fun v4 σ2 h2 => ?_))
  obtain ⟨T2, ⟨K2, _, u2, f2⟩, _, _, _, _, _, _, d25⟩ := h2
  have T2 : Tr [218] σ1 σ2 := T2
  have u2 : σ2.1 218 14 = 0 → ((σ1.1 218 14 = 0 ∧ _) ∧ nOK t n (tkE t n i) 1 10) ∧ v4.toInt = nv5 t n (tkE t n i) ∧ RX σ2.1 t n (tkE t n (tkE t n i)) := u2
  have f2 : ¬ σ2.1 218 14 = 0 → v4 = 0 ∧ (σ1.1 218 14 = 0 → ¬ nOK t n (tkE t n i) 1 10) := f2
  have d25 : σ2.1 218 25 = σ1.1 218 25 := d25
  have r2 : σ2.1 231 = σ.1 231 := (T2.2 231 (by decide)).trans (T1.2 231 (by decide))
  refine pt_s14 ?_
  refine nm_loop (v := v4) (g := σ.1 231) (show RF σ2.2.2 from (hR.tr T1).tr T2) (by rw [zI_s, r2]; rfl) (fun τ hτ ho => ?_)
  have o218 : τ.1 218 = σ2.1 218 := (ho 218 (by decide)).trans (zI_n (by decide))
  have o224 : τ.1 224 = σ2.1 224 := (ho 224 (by decide)).trans (zI_n (by decide))
  have le := (tk_le (t := t) (tk_le (t := t) hi).2.2).2.2
  refine ⟨fun q => ?_, fun q => ?_⟩
  · have q : σ2.1 218 14 = 0 := by rw [← o218]; exact q
    have a := u2 q
    refine ⟨tkE t n (tkE t n i), ?_, RX_c o218 o224 a.2.2, le, ?_⟩
    · show _ = some (_, τ.1 231, (τ.1 218 25).toInt.toNat)
      rw [hτ, o218, d25, e25, nmR_t ⟨(u1 a.1.1.1).1, a.1.2⟩, nv_eq a.2.1]
    · show 0 ≤ (τ.1 218 25).toInt ∧ (τ.1 218 25).toInt ≤ 24
      rw [o218, d25, e25]; exact hs
  · have q : ¬ σ2.1 218 14 = 0 := by rw [← o218]; exact q
    refine nmR_f (fun z => ?_)
    by_cases w : σ1.1 218 14 = 0
    · exact (f2 q).2 w z.2
    · exact f1 w z.1
theorem g_bad {σ : zS} {P : Unit × zS → Prop} {f : Int32 → zS → Option (Unit × zS)} (h0 : ¬ σ.1 218 14 = 0 → Pt (f 0 σ) P) (h1 : σ.1 218 14 = 0 → ∀ v, ¬ v = 0 → Pt (f v σ) P) : Pt (zb (f_X12_good N 218 σ) f) P := by
  refine pt_zbX (Q := fun v => (v = 0 → ¬ σ.1 218 14 = 0) ∧ (¬ v = 0 → σ.1 218 14 = 0)) (pt_ok x_X12_good) (fun v hv => ?_)
  by_cases q : v = 0
  · subst q; exact h0 (hv.1 rfl)
  · exact h1 (hv.2 q) v q
/-- the second half of readsEdge -/
theorem vr_edge2 {a : Int32} {P : Unit × zS → Prop} (hN : 1048576 ≤ N) (hR : RF σ.2.2) (hK : TOK σ.1) (hY : BYT (σ.1 224)) (hG : σ.1 218 14 = 0 → RX σ.1 t n i) (h2 : 0 ≤ (σ.1 231 2).toInt ∧ (σ.1 231 2).toInt ≤ 10)
    (hf : ∀ τ : zS, ¬ τ.1 218 14 = 0 → (σ.1 218 14 = 0 → ¬ nOK t n i 0 7) → P ((), τ)) (ht : ∀ τ : zS, τ.1 218 14 = 0 → σ.1 218 14 = 0 ∧ nOK t n i 0 7 → RX τ.1 t n (tkE t n i) → τ.1 218 25 = σ.1 218 25 → τ.1 231 = edRow (σ.1 231) a (nvI t n i) → P ((), τ)) : Pt (J_X12_readsEdge_36 N 218 a σ) P := by
  rw [J_X12_readsEdge_36.eq_1]
  refine pt_gC (pt_zb (pt_ok (s_X12_number_c (tx := t) (n := n) (i := i) hN hR hK hY hG)) (fun v5 σ6 h => ?_))
  obtain ⟨T1, ⟨K1, _, u1, f1⟩, _, _, _, _, _, _, e25⟩ := h
  have T1 : Tr [218] σ σ6 := T1
  have u1 : σ6.1 218 14 = 0 → ((σ.1 218 14 = 0 ∧ _) ∧ nOK t n i 0 7) ∧ v5.toInt = nv5 t n i ∧ RX σ6.1 t n (tkE t n i) := u1
  have f1 : ¬ σ6.1 218 14 = 0 → v5 = 0 ∧ (σ.1 218 14 = 0 → ¬ nOK t n i 0 7) := f1
  have e25 : σ6.1 218 25 = σ.1 218 25 := e25
  have r6 : σ6.1 231 = σ.1 231 := T1.2 231 (by decide)
  have R6 : RF σ6.2.2 := hR.tr T1
  refine pt_gC (g_bad (fun q => ?_) (fun q v hv => ?_))
  · exact pt_if (fun _ => pt_some (hf σ6 q (f1 q).2)) (fun z => absurd rfl z)
  · refine pt_if (fun z => absurd z hv) (fun _ => ?_)
    have a1 := u1 q
    have hw : 0 ≤ (σ.1 231 2).toInt ∧ (σ.1 231 2).toInt ≤ 100000 := by omega
    refine pt_gR (v := 231) (R6 218 26 rfl) (pt_gR (v := 231) (R6 218 26 rfl) (pt_aI ?_))
    refine pt_s14 ?_
    refine pt_gR (v := 231) (R6 218 26 rfl) (pt_gR (v := 231) (R6 218 26 rfl) (pt_aI ?_))
    refine pt_s14 ?_
    refine pt_gR (v := 231) (R6 218 26 rfl) (pt_aI ?_)
    refine pt_s14 (pt_some (ht _ ?_ ⟨a1.1.1.1, a1.1.2⟩ ?_ ?_ ?_))
    · rw [zI_n (by decide), zI_n (by decide), zI_n (by decide)]; exact q
    · refine RX_c ?_ ?_ a1.2.2
      · rw [zI_n (by decide), zI_n (by decide), zI_n (by decide)]
      · rw [zI_n (by decide), zI_n (by decide), zI_n (by decide)]
    · rw [zI_n (by decide), zI_n (by decide), zI_n (by decide)]; exact e25
    · have z2 : (Int32.toInt 2).toNat = 2 := rfl
      rw [zI_s, zI_s, zI_s, r6, z2, a13_ hw]
      have n13 : (2 : Nat) ≠ (13 + (σ.1 231 2).toInt).toNat := by omega
      have m13 : (13 + (σ.1 231 2).toInt).toNat = 13 + (σ.1 231 2).toInt.toNat := by omega
      have n23 : (2 : Nat) ≠ (23 + (σ.1 231 2).toInt).toNat := by omega
      have m23 : (23 + (σ.1 231 2).toInt).toNat = 23 + (σ.1 231 2).toInt.toNat := by omega
      rw [upd_n n13, a23_ hw, upd_n n23, upd_n n13, nv_eq a1.2.1, m13, m23]
      rfl
theorem vr_readsEdge (hN : 1048576 ≤ N) (hR : RF σ.2.2) (hK : TOK σ.1) (hY : BYT (σ.1 224)) (hG : RX σ.1 t n i) (hg : σ.1 218 14 = 0) (hi : i ≤ n) (hs : 0 ≤ (σ.1 218 25).toInt ∧ (σ.1 218 25).toInt ≤ 24) (h2 : 0 ≤ (σ.1 231 2).toInt ∧ (σ.1 231 2).toInt ≤ 10) : Pt (f_X12_readsEdge N 218 σ) (fun r => LB t n (edR t n i (σ.1 231) (σ.1 218 25).toInt.toNat) r.2.1) := by
  have le := (tk_le (t := t) (tk_le (t := t) hi).2.2).2.2
  rw [f_X12_readsEdge.eq_1]
  refine pt_gC (pt_zb (pt_ok (s_X12_number_r (tx := t) (n := n) (i := i) hN hR hK hY hG hg)) (fun v1 σ2 h => ?_))
  obtain ⟨T1, ⟨K1, _, u1, f1⟩, _, _, _, _, _, _, e25⟩ := h
  have T1 : Tr [218] σ σ2 := T1
  have K1 : TOK σ2.1 := K1
  have u1 : σ2.1 218 14 = 0 → (_ ∧ nOK t n i 0 7) ∧ v1.toInt = nv5 t n i ∧ RX σ2.1 t n (tkE t n i) := u1
  have f1 : ¬ σ2.1 218 14 = 0 → v1 = 0 ∧ ¬ nOK t n i 0 7 := f1
  have e25 : σ2.1 218 25 = σ.1 218 25 := e25
  have r2 : σ2.1 231 = σ.1 231 := T1.2 231 (by decide)
  have Y2 : BYT (σ2.1 224) := by rw [T1.2 224 (by decide)]; exact hY
  have fin : ∀ σ3 : zS, (σ2.1 218 14 = 0 → (nOK t n (tkE t n i) 0 7 → edOK t n i)) → σ3 = σ2 → Pt (J_X12_readsEdge_36 N 218 v1 σ3) (fun r => LB t n (edR t n i (σ.1 231) (σ.1 218 25).toInt.toNat) r.2.1) := by
    intro σ3 hd e
    subst e
    refine vr_edge2 (t := t) (n := n) (i := tkE t n i) hN (hR.tr T1) K1 Y2 (fun q => (u1 q).2.2) (by rw [r2]; exact h2) (fun τ q z => ⟨fun y => absurd y q, fun _ => edR_f (fun w => ?_)⟩) (fun τ q z hx h25 hrow => ⟨fun _ => ⟨tkE t n (tkE t n i), ?_, hx, le, ?_⟩, fun y => absurd q y⟩)
    · by_cases y : σ3.1 218 14 = 0
      · exact z y w.2.2
      · exact (f1 y).2 w.1
    · show _ = some (_, τ.1 231, (τ.1 218 25).toInt.toNat)
      rw [edR_t (hd z.1 z.2), hrow, r2, h25, e25, nv_eq (u1 z.1).2.1]
    · show 0 ≤ (τ.1 218 25).toInt ∧ (τ.1 218 25).toInt ≤ 24
      rw [h25, e25]; exact hs
  refine pt_gC (g_bad (fun q => ?_) (fun q v hv => ?_))
  · exact pt_if (fun _ => fin σ2 (fun y => absurd y q) rfl) (fun z => absurd rfl z)
  · refine pt_if (fun z => absurd z hv) (fun _ => ?_)
    have a1 := u1 q
    have pk := a1.2.2.2
    refine pt_gI (pt_if (fun k2 => ?_) (fun k2 => ?_))
    · have v2 := pk.2.2 k2
      refine pt_gI (pt_if (fun e => ?_) (fun e => ?_))
      · refine pt_gC (pt_zb (pt_ok (s_X12_errs hN (hR.tr T1) K1 Y2 (by decide))) (fun _ σ3 h3 => ?_))
        obtain ⟨T3, ⟨K3, b3⟩, _⟩ := h3
        have T3 : Tr [218] σ2 σ3 := T3
        have b3 : ¬ σ3.1 218 14 = 0 := b3
        have ne : ¬ edOK t n i := fun w => w.2.1 ⟨pk.2.1.symm.trans k2, by rw [← a1.2.1, ← e]; exact v2.symm⟩
        refine vr_edge2 (t := t) (n := n) (i := tkE t n i) hN ((hR.tr T1).tr T3) K3 (by rw [T3.2 224 (by decide)]; exact Y2) (fun y => absurd y b3) (by rw [T3.2 231 (by decide), r2]; exact h2) (fun τ y z => ⟨fun w => absurd w y, fun _ => edR_f ne⟩) (fun τ y z => absurd z.1 b3)
      · exact fin σ2 (fun _ z => ⟨a1.1.2, fun w => e (Int32.toInt_inj.mp (v2.trans (w.2.trans a1.2.1.symm))), z⟩) rfl
    · exact fin σ2 (fun _ z => ⟨a1.1.2, fun w => k2 (pk.2.1.trans w.1), z⟩) rfl
end RLINE

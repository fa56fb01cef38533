/-! ===== moves: the rest of the world's row stays ===== -/
section WORD
variable {N : Nat} {σ : zS} {x1 x2 : Int32}
/-- below the order the row is the same -/
def B33 (g h : Nat → Int32) : Prop := ∀ j, j < 33 → h j = g j
theorem B33.rf {g : Nat → Int32} : B33 g g := fun _ _ => rfl
theorem B33.tr {g h k : Nat → Int32} (a : B33 g h) (b : B33 h k) : B33 g k := fun j hj => (b j hj).trans (a j hj)
theorem B33.u {g : Nat → Int32} {i : Nat} {v : Int32} (h : 33 ≤ i) : B33 g (upd g i v) := fun j hj => upd_n (by omega)
theorem a33b {x : Int32} (h : 0 ≤ x.toInt ∧ x.toInt ≤ 100) : 33 ≤ (33 + x).toInt.toNat := by
  rw [a33_ ⟨h.1, by omega⟩]
  generalize x.toInt = a at *
  omega
theorem vr_g37 {x3 : Int32} {P : Unit × zS → Prop} (hR : RF σ.2.2) (h2 : 0 ≤ x2.toInt ∧ x2.toInt ≤ 9) (h3 : x3.toInt ≤ 100) (hP : ∀ τ : zS, B33 (σ.1 219) (τ.1 219) → P ((), τ)) : Pt (zlp (F_X12_goesTo_37 N 218 x1 x2) N (x3, σ)) P := by
  refine pt_lp (fun s : Int32 × zS => s.1.toInt ≤ 100 ∧ s.2.2.2 = σ.2.2 ∧ B33 (σ.1 219) (s.2.1 219)) (fun again s hI ih => ?_) N _ ⟨h3, rfl, B33.rf⟩
  obtain ⟨x3, τ⟩ := s
  obtain ⟨hb, hr, ho⟩ := hI
  have hb : x3.toInt ≤ 100 := hb
  have hr : τ.2.2 = σ.2.2 := hr
  have ho : B33 (σ.1 219) (τ.1 219) := ho
  have R9 : RF τ.2.2 := by rw [hr]; exact hR
  rw [F_X12_goesTo_37.eq_1]
  refine pt_if (fun q => pt_gR (v := 219) (R9 218 1 rfl) (pt_s14 (pt_some (hP _ (by rw [zI_s]; exact ho.tr (B33.u (a33b ⟨h2.1, by omega⟩))))))) (fun q => ?_)
  rw [Int32.le_iff_toInt_le] at q
  have i33 := a33b (x := x3) ⟨by omega, hb⟩
  have hd : (x3 + (-1)).toInt ≤ 100 := by
    clear i33
    rw [ti_add]
    have : (-1 : Int32).toInt = -1 := rfl
    rw [this]
    generalize x3.toInt = a at *
    generalize x2.toInt = b at *
    omega
  refine pt_gR (v := 219) (R9 218 1 rfl) (pt_gR (v := 219) (R9 218 1 rfl) (pt_aI (pt_s14 ?_)))
  refine ih (x3 + (-1), _) ⟨hd, hr, ?_⟩
  show B33 (σ.1 219) ((zI τ 219 _).1 219)
  rw [zI_s]
  exact ho.tr (B33.u i33)
theorem vr_g6 {x3 : Int32} {P : Unit × zS → Prop} (hR : RF σ.2.2) (h2 : 0 ≤ x2.toInt ∧ x2.toInt ≤ 9) (h3 : 0 ≤ x3.toInt ∧ x3.toInt ≤ 100) (hP : ∀ τ : zS, B33 (σ.1 219) (τ.1 219) → P ((), τ)) : Pt (zlp (F_X12_goesTo_6 N 218 x1 x2) N (x3, σ)) P := by
  refine pt_lp (fun s : Int32 × zS => (0 ≤ s.1.toInt ∧ s.1.toInt ≤ 100) ∧ s.2.2.2 = σ.2.2 ∧ B33 (σ.1 219) (s.2.1 219)) (fun again s hI ih => ?_) N _ ⟨h3, rfl, B33.rf⟩
  obtain ⟨x3, τ⟩ := s
  obtain ⟨hb, hr, ho⟩ := hI
  have hb : 0 ≤ x3.toInt ∧ x3.toInt ≤ 100 := hb
  have hr : τ.2.2 = σ.2.2 := hr
  have ho : B33 (σ.1 219) (τ.1 219) := ho
  have R9 : RF τ.2.2 := by rw [hr]; exact hR
  rw [F_X12_goesTo_6.eq_1]
  refine pt_if (fun q => vr_g37 R9 h2 hb.2 (fun υ hυ => hP υ (ho.tr hυ))) (fun q => ?_)
  rw [Int32.le_iff_toInt_le] at q
  have i33 := a33b (x := x3) hb
  have hd : 0 ≤ (x3 + 1).toInt ∧ (x3 + 1).toInt ≤ 100 := by
    clear i33
    rw [a1_ ⟨hb.1, by omega⟩]
    omega
  refine pt_gR (v := 219) (R9 218 1 rfl) (pt_gR (v := 219) (R9 218 1 rfl) (pt_aI (pt_s14 ?_)))
  refine ih (x3 + 1, _) ⟨hd, hr, ?_⟩
  show B33 (σ.1 219) ((zI τ 219 _).1 219)
  rw [zI_s]
  exact ho.tr (B33.u i33)
theorem vr_goesTo (hN : 1048576 ≤ N) (hR : RF σ.2.2) (hM : MW (σ.1 219) 0) (hx : 0 ≤ x1.toInt ∧ x1.toInt < (σ.1 219 0).toInt) (h2 : 0 ≤ x2.toInt ∧ x2.toInt ≤ 9) : Pt (f_X12_goesTo N 218 x1 x2 σ) (fun r => B33 (σ.1 219) (r.2.1 219)) := by
  rw [f_X12_goesTo.eq_1]
  refine pt_gC (pt_zb (pt_ok (s_X12_placeOf hN hR hM hx)) (fun v1 σ1 h1 => ?_))
  obtain ⟨T1, b1, _⟩ := h1
  have T1 : Tr [] σ σ1 := T1
  have b1 : 0 ≤ v1.toInt ∧ v1.toInt < (σ.1 219 0).toInt := b1
  have := hM.1
  refine vr_g6 (hR.tr T1) h2 (by omega) (fun τ h => ?_)
  rw [T1.2 219 List.not_mem_nil] at h
  exact h
theorem vr_move_ (hN : 1048576 ≤ N) (hR : RF σ.2.2) (hM : MW (σ.1 219) 0) : Pt (f_X12_move N 218 x1 x2 σ) (fun r => B33 (σ.1 219) (r.2.1 219)) := by
  rw [f_X12_move.eq_1]
  have hn := hM.1
  refine pt_gC (pt_zbq (vr_isName hR hn) (fun v hv => pt_if (fun _ => pt_some B33.rf) (fun q => pt_gC (pt_zbq (vr_isName hR hn) (fun w hw => pt_if (fun _ => pt_some B33.rf) (fun q2 => ?_))))))
  have a := hv.2 q
  have b := hw.2 q2
  refine pt_gC (pt_zb (pt_ok (s_X12_placeOf hN hR hM a)) (fun v5 σ1 h1 => ?_))
  have T1 : Tr [] σ σ1 := h1.1
  have e9 : σ1.1 219 = σ.1 219 := T1.2 219 List.not_mem_nil
  refine pt_gC (pt_zb (vr_goesTo hN (hR.tr T1) (by rw [e9]; exact hM) (by rw [e9]; exact a) (by omega)) (fun _ σ2 h2 => pt_some ?_))
  rw [e9] at h2
  exact h2
theorem ZB_9 {r : Nat → Int32} (h : ZB σ.1) : ZB (zI σ 219 r).1 := fun k hk j => by
  by_cases q : k = 219
  · rw [q] at hk; exact absurd hk (by decide)
  · rw [zI_n q]; exact h k hk j
theorem vr_swap_ (hN : 1048576 ≤ N) (hR : RF σ.2.2) (hM : MW (σ.1 219) 0) (hB : ZB σ.1) : Pt (f_X12_swap N 218 x1 σ) (fun r => B33 (σ.1 219) (r.2.1 219)) := by
  rw [f_X12_swap.eq_1]
  have hn := hM.1
  refine pt_gC (pt_zbq (vr_isName hR hn) (fun v hv => pt_if (fun _ => pt_some B33.rf) (fun q => pt_gC (pt_zbq (vr_isName hR hn) (fun w hw => pt_if (fun _ => pt_some B33.rf) (fun q2 => ?_))))))
  have a := hv.2 q
  have b := hw.2 q2
  rw [a1_ (x := x1) ⟨a.1, by omega⟩] at b
  have ei : (33 + x1).toInt.toNat = 33 + x1.toInt.toNat := by
    rw [a33_ (x := x1) ⟨a.1, by omega⟩]
    omega
  have ej : (33 + x1 + 1).toInt.toNat = 33 + x1.toInt.toNat + 1 := by
    have e := a33_ (x := x1) ⟨a.1, by omega⟩
    rw [a1_ (x := 33 + x1) (by rw [e]; clear ei e; omega), e]
    clear ei e
    omega
  refine pt_gR (v := 219) (hR 218 1 rfl) (pt_aI (pt_gR (v := 219) (hR 218 1 rfl) (pt_gR (v := 219) (hR 218 1 rfl) (pt_aI (pt_s14 (pt_gR (v := 219) (hR 218 1 rfl) (pt_s14 (pt_gC ?_))))))))
  rw [ei, ej]
  clear ei ej
  obtain ⟨τ1, h1⟩ : ∃ τ1 : zS, τ1 = zI σ 219 (upd (σ.1 219) (33 + x1.toInt.toNat) (σ.1 219 (33 + x1.toInt.toNat + 1))) := ⟨_, rfl⟩
  rw [← h1]
  obtain ⟨τ2, h2⟩ : ∃ τ2 : zS, τ2 = zI τ1 219 (upd (τ1.1 219) (33 + x1.toInt.toNat + 1) (σ.1 219 (33 + x1.toInt.toNat))) := ⟨_, rfl⟩
  rw [← h2]
  have m2 := MW_sw h1 h2 rfl rfl (by omega) (by omega) (by omega) (by omega) (by omega) hM
  have B2 : ZB τ2.1 := by rw [h2]; exact ZB_9 (by rw [h1]; exact ZB_9 hB)
  have R2 : RF τ2.2.2 := by rw [h2, h1]; exact hR
  have o : B33 (σ.1 219) (τ2.1 219) := by
    rw [h2, zI_s, h1, zI_s]
    exact (B33.u (by omega)).tr (B33.u (by omega))
  refine pt_zb (pt_ok (s_X12_netOf hN R2 m2 B2)) (fun v σ3 h3 => pt_some ?_)
  have T3 : Tr [218, 234, 235, 236] τ2 σ3 := h3.1
  show B33 _ (σ3.1 219)
  rw [T3.2 219 (by decide)]; exact o
theorem vr_sift_ (hN : 1048576 ≤ N) (hR : RF σ.2.2) (hM : MW (σ.1 219) 0) (hB : ZB σ.1) : Pt (f_X12_sift N 218 x1 σ) (fun r => B33 (σ.1 219) (r.2.1 219)) := by
  rw [f_X12_sift.eq_1]
  refine pt_gC (pt_zbX (σ := σ) (Q := fun v => (v = 0 → True) ∧ (¬ v = 0 → 0 ≤ x1.toInt ∧ x1.toInt ≤ 9)) (pt_ok (x_X12_isRegister hR)) (fun v hv => pt_if (fun _ => pt_some B33.rf) (fun q => ?_)))
  have hp := hv.2 q
  refine pt_lp (fun s : Int32 × Int32 × zS => 0 ≤ s.2.1.toInt ∧ (RF s.2.2.2.2 ∧ MW (s.2.2.1 219) 0 ∧ ZB s.2.2.1) ∧ B33 (σ.1 219) (s.2.2.1 219)) (fun again s hI ih => ?_) N _ ⟨(by decide : 0 ≤ (0 : Int32).toInt), ⟨hR, hM, hB⟩, B33.rf⟩
  obtain ⟨x2, x3, τ⟩ := s
  obtain ⟨hb, ⟨hR, hM, hB⟩, ho⟩ := hI
  have hb : 0 ≤ x3.toInt := hb
  have hR : RF τ.2.2 := hR
  have hM : MW (τ.1 219) 0 := hM
  have hB : ZB τ.1 := hB
  have ho : B33 (σ.1 219) (τ.1 219) := ho
  rw [F_X12_sift_15.eq_1]
  refine pt_gR (v := 219) (hR 218 1 rfl) (pt_aI (pt_if (fun _ => pt_some ho) (fun q3 => ?_)))
  have q3 : ¬ τ.1 219 0 ≤ x3 := q3
  rw [Int32.le_iff_toInt_le] at q3
  have n10 := hM.1
  have w3 : (x3 + 1).toInt = x3.toInt + 1 := a1_ ⟨hb, by omega⟩
  refine pt_lp (fun s : Int32 × Int32 × Int32 × zS => (0 ≤ s.2.2.1.toInt ∧ s.2.2.1.toInt ≤ 10) ∧ (s.2.1 = -1 ∨ (0 ≤ s.2.1.toInt ∧ s.2.1.toInt < (τ.1 219 0).toInt)) ∧ ((0 < s.2.2.1.toInt → ¬ s.2.1 = -1) ∧ s.2.2.2.1 219 0 = τ.1 219 0) ∧ (RF s.2.2.2.2.2 ∧ MW (s.2.2.2.1 219) 0 ∧ ZB s.2.2.2.1) ∧ B33 (σ.1 219) (s.2.2.2.1 219)) (fun again2 s hI ih2 => ?_) N _ ⟨(by decide : 0 ≤ (0 : Int32).toInt ∧ (0 : Int32).toInt ≤ 10), Or.inl rfl, ⟨fun z => absurd (show 0 < (0 : Int32).toInt from z) (by decide), rfl⟩, ⟨hR, hM, hB⟩, ho⟩
  obtain ⟨y2, x4, x5, υ⟩ := s
  obtain ⟨hb5, h4, ⟨h45, e0⟩, ⟨hR5, hM5, hB5⟩, ho5⟩ := hI
  have hb5 : 0 ≤ x5.toInt ∧ x5.toInt ≤ 10 := hb5
  have h4 : x4 = -1 ∨ (0 ≤ x4.toInt ∧ x4.toInt < (τ.1 219 0).toInt) := h4
  have h45 : 0 < x5.toInt → ¬ x4 = -1 := h45
  have e0 : υ.1 219 0 = τ.1 219 0 := e0
  have hR5 : RF υ.2.2 := hR5
  have hM5 : MW (υ.1 219) 0 := hM5
  have hB5 : ZB υ.1 := hB5
  have ho5 : B33 (σ.1 219) (υ.1 219) := ho5
  rw [F_X12_sift_31.eq_1]
  refine pt_gR (v := 219) (hR5 218 1 rfl) (pt_aI (pt_if (fun z => ?_) (fun z => ?_)))
  · have z : υ.1 219 0 ≤ x5 := z
    rw [Int32.le_iff_toInt_le, e0] at z
    have h4 := h4.resolve_left (h45 (by omega))
    refine pt_gC (pt_zb (pt_and (pt_ok (s_X12_goesTo (x1 := x3) (x2 := x4) hN hR5 hM5 (by rw [e0]; omega) (by rw [e0]; omega))) (vr_goesTo (x1 := x3) (x2 := x4) hN hR5 hM5 (by rw [e0]; omega) (by omega))) (fun _ σ1 h => ?_))
    obtain ⟨⟨T1, m1, _⟩, b1⟩ := h
    have T1 : Tr [219] υ σ1 := T1
    exact ih (y2, x3 + 1, σ1) ⟨(by rw [w3]; omega : 0 ≤ (x3 + 1).toInt), ⟨hR5.tr T1, m1, ZB.tr T1 (by decide) hB5⟩, ho5.tr b1⟩
  · have z : ¬ υ.1 219 0 ≤ x5 := z
    rw [Int32.le_iff_toInt_le, e0] at z
    have w5 : (x5 + 1).toInt = x5.toInt + 1 := a1_ ⟨hb5.1, by omega⟩
    refine pt_gC (pt_zb (pt_and (pt_ok (s_X12_goesTo (x1 := x3) (x2 := x5) hN hR5 hM5 (by rw [e0]; omega) (by rw [e0]; omega))) (vr_goesTo (x1 := x3) (x2 := x5) hN hR5 hM5 (by rw [e0]; omega) (by omega))) (fun _ σ1 h => ?_))
    obtain ⟨⟨T1, m1, _⟩, b1⟩ := h
    have T1 : Tr [219] υ σ1 := T1
    have m1 : MW (σ1.1 219) 0 := m1
    have b1 : B33 (υ.1 219) (σ1.1 219) := b1
    have R1 := hR5.tr T1
    refine pt_gC (pt_zb (pt_ok (s_X12_takesOrder hN R1 m1)) (fun _ σ2 h => ?_))
    have T2 : Tr [235] σ1 σ2 := h.1
    have e2 : σ2.1 219 = σ1.1 219 := T2.2 219 (by decide)
    have B2 : ZB σ2.1 := ZB.tr T2 (by decide) (ZB.tr T1 (by decide) hB5)
    refine pt_gC (pt_zb (pt_ok (s_X12_nodesOf hN (R1.tr T2) (by rw [e2]; exact m1) B2 hp)) (fun v σ3 h => ?_))
    obtain ⟨T3, B3, _⟩ := h
    have T3 : Tr [218, 234, 236] σ2 σ3 := T3
    have e3 : σ3.1 219 = σ1.1 219 := (T3.2 219 (by decide)).trans e2
    have fin : ∀ y a : Int32, (0 ≤ a.toInt ∧ a.toInt < (τ.1 219 0).toInt) → Pt (again2 (y, a, x5 + 1, σ3)) (fun r => B33 (σ.1 219) (r.2.1 219)) := fun y a ha => ih2 (y, a, x5 + 1, σ3) ⟨(by rw [w5]; omega : 0 ≤ (x5 + 1).toInt ∧ (x5 + 1).toInt ≤ 10), Or.inr ha, ⟨fun _ c => by have ha := ha; rw [show a = -1 from c] at ha; exact absurd ha.1 (by decide), by show σ3.1 219 0 = _; rw [e3, b1 0 (by decide), e0]⟩, ⟨(R1.tr T2).tr T3, by show MW (σ3.1 219) 0; rw [e3]; exact m1, B3⟩, by show B33 _ (σ3.1 219); rw [e3]; exact ho5.tr b1⟩
    refine pt_if (fun _ => fin v x5 (by omega)) (fun c => pt_if (fun _ => fin v x5 (by omega)) (fun _ => fin y2 x4 (h4.resolve_left c)))
end WORD

/-! ===== best leaves the worlds' families ===== -/
section OBEST
variable {N B : Nat} {σ τ υ : zS} {x1 x2 x3 x4 : Int32}
/-- longs of the row of parts alone may be other -/
def OF (σ τ : zS) : Prop := τ.2.2 = σ.2.2 ∧ ∀ a, a ≠ 121 → τ.2.1 a = σ.2.1 a
theorem OF.rf : OF σ σ := ⟨rfl, fun _ _ => rfl⟩
theorem OF.R (h : OF σ τ) (hR : RF σ.2.2) : RF τ.2.2 := by rw [h.1]; exact hR
theorem OF.i {k : Nat} {r : Nat → Int32} (h : OF σ τ) : OF σ (zI τ k r) := h
theorem OF.J {r : Nat → Int64} (h : OF σ τ) : OF σ (zJ τ 121 r) := ⟨h.1, fun a ha => (zJ_n ha).trans (h.2 a ha)⟩
theorem of_isG {x : Int64} (h : OF σ τ) : Pt (f_X3_isGathered N 120 x x3 τ) (fun r => OF σ r.2) := by
  rw [f_X3_isGathered.eq_1]
  refine pt_lp (fun s : Int32 × zS => OF σ s.2) (fun again s hI ih => ?_) N _ h
  obtain ⟨x4, φ⟩ := s
  have hI : OF σ φ := hI
  rw [F_X3_isGathered_3.eq_1]
  exact pt_if (fun _ => pt_rZ hI) (fun _ => pt_if (fun _ => pt_rZ hI) (fun _ => pt_gR rfl (pt_aJ (pt_if (fun _ => pt_rZ hI) (fun _ => ih (x4 + 1, φ) hI)))))
theorem of_23 {x : Int64} (h : OF σ τ) : Pt (J_X3_partsWith_23 N 120 x2 x τ) (fun r => OF σ r.2) := by
  rw [J_X3_partsWith_23.eq_1]
  refine pt_lp (fun s : Int32 × Int32 × zS => OF σ s.2.2) (fun again s hI ih => ?_) N _ h
  obtain ⟨x5, x6, φ⟩ := s
  have hI : OF σ φ := hI
  rw [F_X3_partsWith_30.eq_1]
  exact pt_if (fun _ => pt_some hI) (fun _ => pt_if (fun _ => pt_some hI) (fun _ => pt_gR rfl (pt_aJ (pt_if (fun _ => ih (x5, x6 + 1, φ) hI) (fun _ => ih (x5 + 1, x6 + 1, φ) hI)))))
theorem of_pW (h : OF σ τ) : Pt (f_X3_partsWith N 120 x1 x2 τ) (fun r => OF σ r.2) := by
  rw [f_X3_partsWith.eq_1]
  exact pt_if (fun _ => of_23 h) (fun _ => pt_if (fun _ => of_23 h) (fun _ => pt_aW (of_23 h)))
theorem of_100 {x y : Int64} {x7 x8 x9 : Int32} {again : Int32 × Int32 × Int32 × zS → Option (Int32 × zS)} (h : OF σ τ) (ih : ∀ t, OF σ t.2.2.2 → Pt (again t) (fun r => OF σ r.2)) : Pt (J_X3_gatherParts_100 N again 120 x x3 y x8 x9 x7 τ) (fun r => OF σ r.2) := by
  rw [J_X3_gatherParts_100.eq_1]
  exact pt_if (fun _ => pt_some h) (fun _ => ih _ h)
theorem of_gP {x : Int64} (hR : RF σ.2.2) (h : OF σ τ) : Pt (f_X3_gatherParts N 120 x x3 x4 τ) (fun r => OF σ r.2) := by
  rw [f_X3_gatherParts.eq_1]
  refine pt_lp (fun s : Int64 × Int32 × zS => OF σ s.2.2) (fun again s hI ih => ?_) N _ h
  obtain ⟨x5, x7, φ⟩ := s
  have hI : OF σ φ := hI
  rw [F_X3_gatherParts_6.eq_1]
  refine pt_if (fun _ => ?_) (fun _ => pt_if (fun _ => ih (x5, x7 + 1, φ) hI) (fun _ => ih (_, x7 + 1, φ) hI))
  refine pt_lp (fun s : Int32 × Int32 × Int32 × zS => OF σ s.2.2.2) (fun again s hI ih => ?_) N _ hI
  obtain ⟨y7, y8, y9, ψ⟩ := s
  have hI : OF σ ψ := hI
  rw [F_X3_gatherParts_54.eq_1]
  refine pt_if (fun _ => pt_some hI) (fun _ => pt_if (fun _ => of_100 hI ih) (fun _ => pt_gC (pt_zb (of_isG hI) (fun v φ2 h2 => ?_))))
  have h2 : OF σ φ2 := h2
  exact pt_if (fun _ => pt_gR (v := 121) (h2.R hR 120 0 rfl) (pt_sJ (of_100 h2.J ih))) (fun _ => of_100 h2 ih)
theorem of_wA {f : Nat} (hR : RF σ.2.2) (h : OF σ τ) : Pt (f_X3_weighAll N 120 f x2 τ) (fun r => OF σ r.2) := by
  rw [f_X3_weighAll.eq_1]
  refine pt_gR (v := 122) (h.R hR 120 1 rfl) (pt_s14 ?_)
  refine pt_lp (fun s : Int32 × zS => OF σ s.2) (fun again s hI ih => ?_) N _ h
  obtain ⟨y4, φ⟩ := s
  have hI : OF σ φ := hI
  rw [F_X3_weighAll_27.eq_1]
  refine pt_if (fun _ => pt_some hI) (fun _ => pt_gR rfl (pt_aJ (pt_gC (pt_zb (of_gP hR hI) (fun v φ2 h2 => ?_)))))
  have h2 : OF σ φ2 := h2
  refine pt_gR rfl (pt_s14 ?_)
  refine pt_lp (fun s : Int32 × zS => OF σ s.2) (fun again2 s hI ih2 => ?_) N _ h2
  obtain ⟨y6, ψ⟩ := s
  have hI : OF σ ψ := hI
  rw [F_X3_weighAll_59.eq_1]
  refine pt_if (fun _ => ih (_, ψ) hI) (fun _ => pt_if (fun _ => ih (_, ψ) hI) (fun _ => pt_if (fun _ => pt_gC (pt_zb (of_pW hI) (fun v φ3 h3 => ?_))) (fun _ => ih2 (y6 + 1, ψ) hI)))
  have h3 : OF σ φ3 := h3
  exact pt_gR rfl (pt_aI (pt_gR rfl (pt_aI (pt_if (fun _ => ih2 (y6 + 1, φ3) h3) (fun _ => pt_gR rfl (pt_s14 (pt_gR rfl (pt_s14 (ih2 (y6 + 1, _) h3)))))))))
theorem of_nA (h : OF σ τ) : Pt (f_X3_nameAt N 120 x1 τ) (fun r => OF σ r.2) := by
  rw [f_X3_nameAt.eq_1]
  refine pt_lp (fun s : Int32 × Int32 × zS => OF σ s.2.2) (fun again s hI ih => ?_) N _ h
  obtain ⟨y2, y3, φ⟩ := s
  have hI : OF σ φ := hI
  rw [F_X3_nameAt_4.eq_1]
  exact pt_if (fun _ => pt_gR rfl (pt_aI (pt_some hI))) (fun _ => pt_if (fun _ => pt_gR rfl (pt_aI (pt_some hI))) (fun _ => pt_gR rfl (pt_aI (ih (_, y3 + 1, φ) hI))))
theorem of_best (hR : RF σ.2.2) : Pt (f_X11_best N 0 x1 x2 σ) (fun r => LW σ r.2) := by
  have lw : ∀ {r : zS}, OF σ r → LW σ r := fun h a ha => h.2 a (by unfold WR at ha; omega)
  rw [f_X11_best.eq_1]
  refine pt_gC (pt_zb (Q := fun r => r.2 = σ) (pt_w (vl_isRegister (B := σ.2.2 0 4) rfl) (fun r h => h.1)) (fun v τ e => ?_))
  have e : τ = σ := e
  subst e
  refine pt_if (fun _ => pt_some (lw OF.rf)) (fun _ => pt_if (fun _ => pt_some (lw OF.rf)) (fun _ => pt_if (fun _ => ?_) (fun _ => pt_some (lw OF.rf))))
  refine pt_gR rfl (pt_gI (pt_if (fun _ => ?_) (fun _ => pt_some (lw OF.rf))))
  refine pt_gR rfl (pt_gI (pt_if (fun _ => ?_) (fun _ => pt_some (lw OF.rf))))
  refine pt_gR (v := 120) (hR 0 14 rfl) (pt_gR rfl (pt_gR rfl (pt_aR (pt_gR rfl (pt_gI (pt_gC (pt_zb (of_wA hR OF.rf) (fun _ φ h => ?_))))))))
  have h : OF τ φ := h
  refine pt_if (fun _ => ?_) (fun _ => ?_)
  · refine pt_gR (v := 120) (h.R hR 0 14 rfl) (pt_gC (pt_zb (Q := fun r => OF τ r.2) ?_ (fun _ φ2 h2 => pt_some (lw h2))))
    rw [f_X3_fewest.eq_1]
    exact pt_gR rfl (pt_aI (pt_some h))
  · exact pt_gR (v := 120) (h.R hR 0 14 rfl) (pt_gC (pt_zb (of_nA h) (fun _ φ2 h2 => pt_some (lw h2))))
end OBEST

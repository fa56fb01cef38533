/-- the edges in a world's row -/
def eM (g : Nat → Int32) : Nat := (g 2).toInt.toNat
def eP (g : Nat → Int32) : Nat → Nat := fun j => (g (13 + j)).toInt.toNat
def eQ (g : Nat → Int32) : Nat → Nat := fun j => (g (23 + j)).toInt.toNat
theorem EdR_x {σ : zS} (hM : MW (σ.1 219) 0) (hX : WX (σ.1 219)) : EdR σ (eM (σ.1 219)) (eP (σ.1 219)) (eQ (σ.1 219)) := EdR_m hM hX
theorem Ed_x {σ : zS} (hI : IV σ) (hW : WQ σ) (hF : FQ σ) : Ed σ (σ.2.2 0 4) (eM (σ.1 219)) (eP (σ.1 219)) (eQ (σ.1 219)) := Ed_W hW hF.2.1.1 (EdR_m hI.1.2.1.1 hF.2.1.1)
theorem isR_p {m x : Int32} (h : isR m x) : x.toInt.toNat < 10 := by have := h.2; omega
theorem isX_p {x : Int32} (h : isX x) : x.toInt.toNat < 8 := by unfold isX at h; omega
theorem eM_le {g : Nat → Int32} (hX : WX g) : eM g ≤ (g 0).toInt.toNat := by unfold eM; have := hX.2.1; omega
theorem in_M {g : Nat → Int32} {u : Nat} (hX : WX g) (h0 : 0 < (g 0).toInt) (h : u < 2 ^ eM g) : u < mn (g 0) := by
  rw [mn_p h0]
  exact Nat.lt_of_lt_of_le h (Nat.pow_le_pow_right (by decide) (eM_le hX))
theorem FQ_00 : FQ zs00 := by
  have b : ∀ a u, bt (zs00.2.1 a) u = false := fun a u => BitVec.getLsbD_zero
  have r0 : ∀ k, k ∉ [0, 57, 111, 210, 212, 214, 216, 218, 239] → ∀ a u, rb (zs00.1 k) a u = false := fun k hk a u => rb_f.mpr (zs_0 hk _)
  have f : ∀ {g : Nat → Int32} {B a : Nat} {m : Int32}, (∀ a u, rb g a u = false) → FAM zs00.2.1 g B a m := fun h => ⟨fun p _ u _ => by rw [b, h], fun p _ u _ q => by rw [h] at q; cases q⟩
  have x : ∀ {g : Nat → Int32}, (∀ j, g j = 0) → WX g := fun h => ⟨fun k hk => by
    rw [h 2] at hk
    exact absurd hk (Nat.not_lt_zero _), by rw [h 2, h 0]; decide, by rw [h 0]; decide⟩
  refine ⟨⟨f (r0 220 (by decide)), fun k _ => f (r0 222 (by decide))⟩, ⟨x (zs_0 (by decide)), fun k _ => x (fun j => zs_0 (by decide) _)⟩, fun s _ j _ => rfl, fun s _ => ?_⟩
  rw [zs_0 (k := 240) (by decide)]; decide

theorem fs_makes {x1 : Int32} {x2 : Int32} {x3 : Int32} {x4 : Int32} {v w : Int32} {σ σ1 σ2 : zS} (hI : IV σ) (hW : WQ σ) (hF : FQ σ) (t1 : FR [106, 107] σ σ1) (c : (mkC (σ.1 (σ.2.2 0 4) 0) x1 x2 x3 x4 → CM σ σ1 v (σ.2.2 0 4) x1.toInt.toNat (CS x2 (bt (σ.2.1 ((σ.2.2 0 4) + 6 + 2 * x3.toInt.toNat + 1))) (bt (σ.2.1 ((σ.2.2 0 4) + 6 + 2 * x4.toInt.toNat + 1))) (mn (σ.1 (σ.2.2 0 4) 0)))) ∧ (¬ mkC (σ.1 (σ.2.2 0 4) 0) x1 x2 x3 x4 → v = -2 ∧ LW σ σ1)) (t2 : FR [218, 220, 227, 228, 229] σ1 σ2) (j : σ2.2.1 = σ1.2.1) (r : σ2.2 = σ1.2 ∧ (mkC (σ1.1 219 0) x1 x2 x3 x4 → RM σ1 σ2 w x1.toInt.toNat (CS x2 (rb (σ1.1 220) (1024 * x3.toInt.toNat)) (rb (σ1.1 220) (1024 * x4.toInt.toNat)) (mn (σ1.1 219 0)))) ∧ (¬ mkC (σ1.1 219 0) x1 x2 x3 x4 → w = -2 ∧ σ2 = σ1)) : FQ σ2 ∧ v = w := by
  have e0 : σ.1 (σ.2.2 0 4) 0 = σ.1 219 0 := hW.1.1.1
  have e9 : σ1.1 219 = σ.1 219 := t1.1 219 (by decide)
  have e20 : σ1.1 220 = σ.1 220 := t1.1 220 (by decide)
  have f := FRu t1 t2
  have n10 := RI_n hI.1.2
  have M10 := mn_le n10.2
  rw [e0] at c
  rw [e9] at r
  refine FQ_R (p := x1.toInt.toNat) hF (IV_4 hI) n10 f.2 (fun k hk => f.1 k ((by decide : ∀ k ∈ [219, 221, 222, 240], k ∉ ([106, 107] ++ [218, 220, 227, 228, 229])) k hk)) e9 e20 j c ⟨r.2.1, fun z => ⟨(r.2.2 z).1, by rw [(r.2.2 z).2]⟩⟩ (fun q => isR_p q.1.1) (fun q u hu => ?_) (fun q u hu h => ?_)
  · have a : ∀ k, k < 1024 → bt (σ.2.1 (σ.2.2 0 4 + 6 + 2 * x3.toInt.toNat + 1)) k = rb (σ1.1 220) (1024 * x3.toInt.toNat) k := fun k hk => by
      rw [e20]; exact FQ_f hF (isR_p q.1.2.1) hk
    have b : ∀ k, k < 1024 → bt (σ.2.1 (σ.2.2 0 4 + 6 + 2 * x4.toInt.toNat + 1)) k = rb (σ1.1 220) (1024 * x4.toInt.toNat) k := fun k hk => by
      rw [e20]; exact FQ_f hF (isR_p q.1.2.2) hk
    exact ⟨CS_c a b M10 hu, CS_c (fun k hk => (a k hk).symm) (fun k hk => (b k hk).symm) M10 hu⟩
  · rw [mn_p q.1.1.1] at h ⊢
    exact CS_in h

theorem fs_turn {x1 : Int32} {x2 : Int32} {x3 : Int32} {v w : Int32} {σ σ1 σ2 : zS} (hI : IV σ) (hW : WQ σ) (hF : FQ σ) (t1 : FR [] σ σ1) (c : (tuC (σ.1 (σ.2.2 0 4) 0) x1 x2 x3 → CM σ σ1 v (σ.2.2 0 4) x1.toInt.toNat (RS x2 (bt (σ.2.1 ((σ.2.2 0 4) + 6 + 2 * x3.toInt.toNat + 1))) (mn (σ.1 (σ.2.2 0 4) 0)))) ∧ (¬ tuC (σ.1 (σ.2.2 0 4) 0) x1 x2 x3 → v = -2 ∧ LW σ σ1)) (t2 : FR [218, 220, 227, 228] σ1 σ2) (j : σ2.2.1 = σ1.2.1) (r : σ2.2 = σ1.2 ∧ (tuC (σ1.1 219 0) x1 x2 x3 → RM σ1 σ2 w x1.toInt.toNat (RS x2 (rb (σ1.1 220) (1024 * x3.toInt.toNat)) (mn (σ1.1 219 0)))) ∧ (¬ tuC (σ1.1 219 0) x1 x2 x3 → w = -2 ∧ σ2 = σ1)) : FQ σ2 ∧ v = w := by
  have e0 : σ.1 (σ.2.2 0 4) 0 = σ.1 219 0 := hW.1.1.1
  have e9 : σ1.1 219 = σ.1 219 := t1.1 219 (by decide)
  have e20 : σ1.1 220 = σ.1 220 := t1.1 220 (by decide)
  have f := FRu t1 t2
  have n10 := RI_n hI.1.2
  have M10 := mn_le n10.2
  rw [e0] at c
  rw [e9] at r
  refine FQ_R (p := x1.toInt.toNat) hF (IV_4 hI) n10 f.2 (fun k hk => f.1 k ((by decide : ∀ k ∈ [219, 221, 222, 240], k ∉ ([] ++ [218, 220, 227, 228])) k hk)) e9 e20 j c ⟨r.2.1, fun z => ⟨(r.2.2 z).1, by rw [(r.2.2 z).2]⟩⟩ (fun q => isR_p q.1.1) (fun q u hu => ?_) (fun q u hu h => ?_)
  · have a : ∀ k, k < 1024 → bt (σ.2.1 (σ.2.2 0 4 + 6 + 2 * x3.toInt.toNat + 1)) k = rb (σ1.1 220) (1024 * x3.toInt.toNat) k := fun k hk => by
      rw [e20]; exact FQ_f hF (isR_p q.1.2) hk
    exact ⟨RS_c a M10 hu, RS_c (fun k hk => (a k hk).symm) M10 hu⟩
  · rw [mn_p q.1.1.1] at h ⊢
    exact RS_in h

theorem fs_change {x1 : Int32} {x2 : Int32} {x3 : Int32} {v w : Int32} {σ σ1 σ2 : zS} (hI : IV σ) (hW : WQ σ) (hF : FQ σ) (t1 : FR [] σ σ1) (c : (chC (σ.1 (σ.2.2 0 4) 0) x1 x2 x3 → CM σ σ1 v (σ.2.2 0 4) x1.toInt.toNat (chS (bt (σ.2.1 ((σ.2.2 0 4) + 6 + 2 * x2.toInt.toNat + 1))) (mn (σ.1 (σ.2.2 0 4) 0)) x3.toInt.toNat)) ∧ (¬ chC (σ.1 (σ.2.2 0 4) 0) x1 x2 x3 → v = -2 ∧ LW σ σ1)) (t2 : FR [220, 227] σ1 σ2) (j : σ2.2.1 = σ1.2.1) (r : σ2.2 = σ1.2 ∧ (chC (σ1.1 219 0) x1 x2 x3 → RM σ1 σ2 w x1.toInt.toNat (chS (rb (σ1.1 220) (1024 * x2.toInt.toNat)) (mn (σ1.1 219 0)) x3.toInt.toNat)) ∧ (¬ chC (σ1.1 219 0) x1 x2 x3 → w = -2 ∧ σ2 = σ1)) : FQ σ2 ∧ v = w := by
  have e0 : σ.1 (σ.2.2 0 4) 0 = σ.1 219 0 := hW.1.1.1
  have e9 : σ1.1 219 = σ.1 219 := t1.1 219 (by decide)
  have e20 : σ1.1 220 = σ.1 220 := t1.1 220 (by decide)
  have f := FRu t1 t2
  have n10 := RI_n hI.1.2
  have M10 := mn_le n10.2
  rw [e0] at c
  rw [e9] at r
  refine FQ_R (p := x1.toInt.toNat) hF (IV_4 hI) n10 f.2 (fun k hk => f.1 k ((by decide : ∀ k ∈ [219, 221, 222, 240], k ∉ ([] ++ [220, 227])) k hk)) e9 e20 j c ⟨r.2.1, fun z => ⟨(r.2.2 z).1, by rw [(r.2.2 z).2]⟩⟩ (fun q => isR_p q.1.1) (fun q u hu => ?_) (fun q u hu h => ?_)
  · have a : ∀ k, k < 1024 → bt (σ.2.1 (σ.2.2 0 4 + 6 + 2 * x2.toInt.toNat + 1)) k = rb (σ1.1 220) (1024 * x2.toInt.toNat) k := fun k hk => by
      rw [e20]; exact FQ_f hF (isR_p q.1.2) hk
    have k10 : x3.toInt.toNat < 10 := by have := q.2; unfold isN at this; omega
    unfold chS
    rw [a _ (x_1024 hu k10)]
  · exact h.1

theorem fs_half {x1 : Int32} {x2 : Int32} {x3 : Int32} {x4 : Int32} {v w : Int32} {σ σ1 σ2 : zS} (hI : IV σ) (hW : WQ σ) (hF : FQ σ) (t1 : FR [] σ σ1) (c : (chC (σ.1 (σ.2.2 0 4) 0) x1 x2 x3 → CM σ σ1 v (σ.2.2 0 4) x1.toInt.toNat (haS (bt (σ.2.1 ((σ.2.2 0 4) + 6 + 2 * x2.toInt.toNat + 1))) (mn (σ.1 (σ.2.2 0 4) 0)) x3.toInt.toNat x4)) ∧ (¬ chC (σ.1 (σ.2.2 0 4) 0) x1 x2 x3 → v = -2 ∧ LW σ σ1)) (t2 : FR [220, 227] σ1 σ2) (j : σ2.2.1 = σ1.2.1) (r : σ2.2 = σ1.2 ∧ (chC (σ1.1 219 0) x1 x2 x3 → RM σ1 σ2 w x1.toInt.toNat (haS (rb (σ1.1 220) (1024 * x2.toInt.toNat)) (mn (σ1.1 219 0)) x3.toInt.toNat x4)) ∧ (¬ chC (σ1.1 219 0) x1 x2 x3 → w = -2 ∧ σ2 = σ1)) : FQ σ2 ∧ v = w := by
  have e0 : σ.1 (σ.2.2 0 4) 0 = σ.1 219 0 := hW.1.1.1
  have e9 : σ1.1 219 = σ.1 219 := t1.1 219 (by decide)
  have e20 : σ1.1 220 = σ.1 220 := t1.1 220 (by decide)
  have f := FRu t1 t2
  have n10 := RI_n hI.1.2
  have M10 := mn_le n10.2
  rw [e0] at c
  rw [e9] at r
  refine FQ_R (p := x1.toInt.toNat) hF (IV_4 hI) n10 f.2 (fun k hk => f.1 k ((by decide : ∀ k ∈ [219, 221, 222, 240], k ∉ ([] ++ [220, 227])) k hk)) e9 e20 j c ⟨r.2.1, fun z => ⟨(r.2.2 z).1, by rw [(r.2.2 z).2]⟩⟩ (fun q => isR_p q.1.1) (fun q u hu => ?_) (fun q u hu h => ?_)
  · have a : ∀ k, k < 1024 → bt (σ.2.1 (σ.2.2 0 4 + 6 + 2 * x2.toInt.toNat + 1)) k = rb (σ1.1 220) (1024 * x2.toInt.toNat) k := fun k hk => by
      rw [e20]; exact FQ_f hF (isR_p q.1.2) hk
    have k10 : x3.toInt.toNat < 10 := by have := q.2; unfold isN at this; omega
    unfold haS
    rw [a _ (by split; exact hu; exact x_1024 hu k10)]
  · exact h.1

theorem fs_level {x1 : Int32} {x2 : Int32} {x3 : Int32} {v w : Int32} {σ σ1 σ2 : zS} (hI : IV σ) (hW : WQ σ) (hF : FQ σ) (t1 : FR [] σ σ1) (c : (leC (σ.1 (σ.2.2 0 4) 0) x1 x2 x3 → CM σ σ1 v (σ.2.2 0 4) x1.toInt.toNat (leS (bt (σ.2.1 ((σ.2.2 0 4) + 6 + 2 * x2.toInt.toNat + 1))) (mn (σ.1 (σ.2.2 0 4) 0)) x3)) ∧ (¬ leC (σ.1 (σ.2.2 0 4) 0) x1 x2 x3 → v = -2 ∧ LW σ σ1)) (t2 : FR [220, 227] σ1 σ2) (j : σ2.2.1 = σ1.2.1) (r : σ2.2 = σ1.2 ∧ (leC (σ1.1 219 0) x1 x2 x3 → RM σ1 σ2 w x1.toInt.toNat (leS (rb (σ1.1 220) (1024 * x2.toInt.toNat)) (mn (σ1.1 219 0)) x3)) ∧ (¬ leC (σ1.1 219 0) x1 x2 x3 → w = -2 ∧ σ2 = σ1)) : FQ σ2 ∧ v = w := by
  have e0 : σ.1 (σ.2.2 0 4) 0 = σ.1 219 0 := hW.1.1.1
  have e9 : σ1.1 219 = σ.1 219 := t1.1 219 (by decide)
  have e20 : σ1.1 220 = σ.1 220 := t1.1 220 (by decide)
  have f := FRu t1 t2
  have n10 := RI_n hI.1.2
  have M10 := mn_le n10.2
  rw [e0] at c
  rw [e9] at r
  refine FQ_R (p := x1.toInt.toNat) hF (IV_4 hI) n10 f.2 (fun k hk => f.1 k ((by decide : ∀ k ∈ [219, 221, 222, 240], k ∉ ([] ++ [220, 227])) k hk)) e9 e20 j c ⟨r.2.1, fun z => ⟨(r.2.2 z).1, by rw [(r.2.2 z).2]⟩⟩ (fun q => isR_p q.1.1) (fun q u hu => ?_) (fun q u hu h => ?_)
  · have a : ∀ k, k < 1024 → bt (σ.2.1 (σ.2.2 0 4 + 6 + 2 * x2.toInt.toNat + 1)) k = rb (σ1.1 220) (1024 * x2.toInt.toNat) k := fun k hk => by
      rw [e20]; exact FQ_f hF (isR_p q.1.2) hk
    unfold leS
    rw [a u hu]
  · exact h.1

theorem fs_ways {x1 : Int32} {x2 : Int32} {x3 : Int32} {v w : Int32} {σ σ1 σ2 : zS} (hI : IV σ) (hW : WQ σ) (hF : FQ σ) (t1 : FR [] σ σ1) (c : (wyC (σ.1 (σ.2.2 0 4) 0) x1 x2 x3 → CM σ σ1 v (σ.2.2 0 4) x1.toInt.toNat (WS (eM (σ.1 219)) (eP (σ.1 219)) (eQ (σ.1 219)) x2.toInt.toNat x3.toInt.toNat)) ∧ (¬ wyC (σ.1 (σ.2.2 0 4) 0) x1 x2 x3 → v = -2 ∧ LW σ σ1)) (t2 : FR [220, 227, 238] σ1 σ2) (j : σ2.2.1 = σ1.2.1) (r : (wyC (σ1.1 219 0) x1 x2 x3 → RM σ1 σ2 w x1.toInt.toNat (fun u => u < 2 ^ (eM (σ1.1 219)) ∧ (if x2.toInt.toNat = x3.toInt.toNat then u = 0 else IsW (eM (σ1.1 219)) (eP (σ1.1 219)) (eQ (σ1.1 219)) u x2.toInt.toNat x3.toInt.toNat))) ∧ (¬ wyC (σ1.1 219 0) x1 x2 x3 → w = -2 ∧ σ2.1 220 = σ1.1 220)) : FQ σ2 ∧ v = w := by
  have e0 : σ.1 (σ.2.2 0 4) 0 = σ.1 219 0 := hW.1.1.1
  have e9 : σ1.1 219 = σ.1 219 := t1.1 219 (by decide)
  have e20 : σ1.1 220 = σ.1 220 := t1.1 220 (by decide)
  have f := FRu t1 t2
  have n10 := RI_n hI.1.2
  have M10 := mn_le n10.2
  rw [e0] at c
  rw [e9] at r
  refine FQ_R (p := x1.toInt.toNat) hF (IV_4 hI) n10 f.2 (fun k hk => f.1 k ((by decide : ∀ k ∈ [219, 221, 222, 240], k ∉ ([] ++ [220, 227, 238])) k hk)) e9 e20 j c ⟨r.1, fun z => ⟨(r.2 z).1, (r.2 z).2⟩⟩ (fun q => isR_p q.1) (fun q u hu => ?_) (fun q u hu h => ?_)
  · exact ws_eq (EdR_m hI.1.2.1.1 hF.2.1.1).2.2 (isX_p q.2.1) (isX_p q.2.2)
  · exact in_M hF.2.1.1 q.1.1 h.1

theorem fs_map {x1 : Int32} {x2 : Int32} {v w : Int32} {σ σ1 σ2 : zS} (hI : IV σ) (hW : WQ σ) (hF : FQ σ) (t1 : FR [125] σ σ1) (c : (mpC (σ.1 (σ.2.2 0 4) 0) x1 x2 → CM σ σ1 v (σ.2.2 0 4) x1.toInt.toNat (fun u => u < 2 ^ (eM (σ.1 219)) ∧ OnC (eM (σ.1 219)) (eP (σ.1 219)) (eQ (σ.1 219)) x2 (Xa (eM (σ.1 219)) (eP (σ.1 219)) (eQ (σ.1 219))) u)) ∧ (¬ mpC (σ.1 (σ.2.2 0 4) 0) x1 x2 → v = -2 ∧ LW σ σ1)) (t2 : FR [220, 227, 238] σ1 σ2) (j : σ2.2.1 = σ1.2.1) (r : (mpC (σ1.1 219 0) x1 x2 → RM σ1 σ2 w x1.toInt.toNat (fun u => u < 2 ^ (eM (σ1.1 219)) ∧ OnR (eM (σ1.1 219)) (eP (σ1.1 219)) (eQ (σ1.1 219)) x2 u)) ∧ (¬ mpC (σ1.1 219 0) x1 x2 → w = -2 ∧ σ2.1 220 = σ1.1 220)) : FQ σ2 ∧ v = w := by
  have e0 : σ.1 (σ.2.2 0 4) 0 = σ.1 219 0 := hW.1.1.1
  have e9 : σ1.1 219 = σ.1 219 := t1.1 219 (by decide)
  have e20 : σ1.1 220 = σ.1 220 := t1.1 220 (by decide)
  have f := FRu t1 t2
  have n10 := RI_n hI.1.2
  have M10 := mn_le n10.2
  rw [e0] at c
  rw [e9] at r
  refine FQ_R (p := x1.toInt.toNat) hF (IV_4 hI) n10 f.2 (fun k hk => f.1 k ((by decide : ∀ k ∈ [219, 221, 222, 240], k ∉ ([125] ++ [220, 227, 238])) k hk)) e9 e20 j c ⟨r.1, fun z => ⟨(r.2 z).1, (r.2 z).2⟩⟩ (fun q => isR_p q.1) (fun q u hu => ?_) (fun q u hu h => ?_)
  · exact and_congr_right (fun h => on_eq (EdR_m hI.1.2.1.1 hF.2.1.1).2.2 (EdR_m hI.1.2.1.1 hF.2.1.1).1.2 h)
  · exact in_M hF.2.1.1 q.1.1 h.1

theorem fs_cuts {x1 : Int32} {x2 : Int32} {x3 : Int32} {v w : Int32} {σ σ1 σ2 : zS} (hI : IV σ) (hW : WQ σ) (hF : FQ σ) (t1 : FR [] σ σ1) (c : (wyC (σ.1 (σ.2.2 0 4) 0) x1 x2 x3 → CM σ σ1 v (σ.2.2 0 4) x1.toInt.toNat (RS 2 (bl (WS (eM (σ.1 219)) (eP (σ.1 219)) (eQ (σ.1 219)) x2.toInt.toNat x3.toInt.toNat)) (2 ^ (σ.1 219 0).toInt.toNat))) ∧ (¬ wyC (σ.1 (σ.2.2 0 4) 0) x1 x2 x3 → v = -2 ∧ LW σ σ1)) (t2 : FR [218, 220, 227, 228, 229, 238] σ1 σ2) (j : σ2.2.1 = σ1.2.1) (r : (wyC (σ1.1 219 0) x1 x2 x3 → RM σ1 σ2 w x1.toInt.toNat (RS 2 (bl (fun u => u < 2 ^ (eM (σ1.1 219)) ∧ (if x2.toInt.toNat = x3.toInt.toNat then u = 0 else IsW (eM (σ1.1 219)) (eP (σ1.1 219)) (eQ (σ1.1 219)) u x2.toInt.toNat x3.toInt.toNat))) (mn (σ1.1 219 0)))) ∧ (¬ wyC (σ1.1 219 0) x1 x2 x3 → w = -2 ∧ σ2.1 220 = σ1.1 220)) : FQ σ2 ∧ v = w := by
  have e0 : σ.1 (σ.2.2 0 4) 0 = σ.1 219 0 := hW.1.1.1
  have e9 : σ1.1 219 = σ.1 219 := t1.1 219 (by decide)
  have e20 : σ1.1 220 = σ.1 220 := t1.1 220 (by decide)
  have f := FRu t1 t2
  have n10 := RI_n hI.1.2
  have M10 := mn_le n10.2
  rw [e0] at c
  rw [e9] at r
  refine FQ_R (p := x1.toInt.toNat) hF (IV_4 hI) n10 f.2 (fun k hk => f.1 k ((by decide : ∀ k ∈ [219, 221, 222, 240], k ∉ ([] ++ [218, 220, 227, 228, 229, 238])) k hk)) e9 e20 j c ⟨r.1, fun z => ⟨(r.2 z).1, (r.2 z).2⟩⟩ (fun q => isR_p q.1) (fun q u hu => ?_) (fun q u hu h => ?_)
  · rw [mn_p q.1.1]
    have a : ∀ k, k < 1024 → bl (WS (eM (σ.1 219)) (eP (σ.1 219)) (eQ (σ.1 219)) x2.toInt.toNat x3.toInt.toNat) k = bl (fun u => u < 2 ^ (eM (σ.1 219)) ∧ (if x2.toInt.toNat = x3.toInt.toNat then u = 0 else IsW (eM (σ.1 219)) (eP (σ.1 219)) (eQ (σ.1 219)) u x2.toInt.toNat x3.toInt.toNat)) k := fun k hk => by
      rw [Bool.eq_iff_iff, bl_t, bl_t]
      exact ws_eq (EdR_m hI.1.2.1.1 hF.2.1.1).2.2 (isX_p q.2.1) (isX_p q.2.2)
    have M2 : 2 ^ (σ.1 219 0).toInt.toNat ≤ 1024 := (p2le (by omega)).1
    exact ⟨RS_c a M2 hu, RS_c (fun k hk => (a k hk).symm) M2 hu⟩
  · rw [mn_p q.1.1] at h ⊢
    exact RS_in h

theorem fs_sets {x1 : Int32} {x2 : Int32} {x3 : Int32} {v w : Int32} {σ σ1 σ2 : zS} (hI : IV σ) (hW : WQ σ) (hF : FQ σ) (h01 : x3 = 0 ∨ x3 = 1) (t1 : FR [] σ σ1) (c : (seC (σ.1 (σ.2.2 0 4) 0) x1 x2 → ((∀ u, u < 1024 → (bt (σ1.2.1 ((σ.2.2 0 4) + 6 + 2 * x1.toInt.toNat + 1)) u = true ↔ if u = x2.toInt.toNat then x3 = 1 else bt (σ.2.1 ((σ.2.2 0 4) + 6 + 2 * x1.toInt.toNat + 1)) u = true)) ∧ (∀ a, WR a → a ≠ (σ.2.2 0 4) + 6 + 2 * x1.toInt.toNat + 1 → σ1.2.1 a = σ.2.1 a)) ∧ (v = 0 ∨ v = 1) ∧ (v = 0 ↔ (bt (σ.2.1 ((σ.2.2 0 4) + 6 + 2 * x1.toInt.toNat + 1)) x2.toInt.toNat = true ↔ x3 = 1))) ∧ (¬ seC (σ.1 (σ.2.2 0 4) 0) x1 x2 → v = -2 ∧ LW σ σ1)) (t2 : FR [220] σ1 σ2) (j : σ2.2.1 = σ1.2.1) (r : σ2.2 = σ1.2 ∧ (seC (σ1.1 219 0) x1 x2 → σ2.1 220 = upd (σ1.1 220) (1024 * x1.toInt.toNat + x2.toInt.toNat) x3 ∧ (w = 0 ∨ w = 1) ∧ (w = 0 ↔ (rb (σ1.1 220) (1024 * x1.toInt.toNat) x2.toInt.toNat = true ↔ x3 = 1))) ∧ (¬ seC (σ1.1 219 0) x1 x2 → w = -2 ∧ σ2 = σ1)) : FQ σ2 ∧ v = w := by
  have e0 : σ.1 (σ.2.2 0 4) 0 = σ.1 219 0 := hW.1.1.1
  have e9 : σ1.1 219 = σ.1 219 := t1.1 219 (by decide)
  have e20 : σ1.1 220 = σ.1 220 := t1.1 220 (by decide)
  have f := FRu t1 t2
  have n10 := RI_n hI.1.2
  have M10 := mn_le n10.2
  rw [e0] at c
  rw [e9] at r
  exact FQ_S hF (IV_4 hI) n10 h01 f.2 (fun k hk => f.1 k ((by decide : ∀ k ∈ [219, 221, 222, 240], k ∉ ([] ++ [220])) k hk)) e20 j c ⟨r.2.1, fun z => ⟨(r.2.2 z).1, by rw [(r.2.2 z).2]⟩⟩

theorem fs_takes {x1 : Int32} {x2 : Int32} {v w : Int32} {σ σ1 σ2 : zS} (hI : IV σ) (hW : WQ σ) (hF : FQ σ) (t1 : FR [] σ σ1) (c : tkQ (isR (σ.1 (σ.2.2 0 4) 0) x1 ∧ isL x2) (σ.1 (210 + 2 * x2.toInt.toNat) 2) (σ.2.1 (210 + 2 * x2.toInt.toNat + 1)) (mn (σ.1 (σ.2.2 0 4) 0)) v (LW σ σ1) (CM σ σ1 v (σ.2.2 0 4) x1.toInt.toNat (tkS (σ.2.1 (210 + 2 * x2.toInt.toNat + 1)) (σ.1 (210 + 2 * x2.toInt.toNat) 2).toInt.toNat))) (t2 : FR [220, 227] σ1 σ2) (j : σ2.2.1 = σ1.2.1) (r : tkQ (isR (σ1.1 219 0) x1 ∧ isL x2) (σ1.1 239 x2.toInt.toNat) (fun j => σ1.2.1 241 (60 * x2.toInt.toNat + j)) (mn (σ1.1 219 0)) w (σ2.1 220 = σ1.1 220) (RM σ1 σ2 w x1.toInt.toNat (tkS (fun j => σ1.2.1 241 (60 * x2.toInt.toNat + j)) (σ1.1 239 x2.toInt.toNat).toInt.toNat))) : FQ σ2 ∧ v = w := by
  have e0 : σ.1 (σ.2.2 0 4) 0 = σ.1 219 0 := hW.1.1.1
  have e9 : σ1.1 219 = σ.1 219 := t1.1 219 (by decide)
  have e20 : σ1.1 220 = σ.1 220 := t1.1 220 (by decide)
  have f := FRu t1 t2
  have n10 := RI_n hI.1.2
  have M10 := mn_le n10.2
  rw [e0] at c
  rw [e9] at r
  have e39 : σ1.1 239 = σ.1 239 := t1.1 239 (by decide)
  rw [e39] at r
  have fi : ∀ k ∈ [219, 221, 222, 240], σ2.1 k = σ.1 k := fun k hk => f.1 k ((by decide : ∀ k ∈ [219, 221, 222, 240], k ∉ ([] ++ [220, 227])) k hk)
  have same : LW σ σ1 → σ2.1 220 = σ1.1 220 → FQ σ2 := fun a b => by
    refine FQ_0 hF (IV_4 hI) f.2 (fun a' ha => by rw [j]; exact a a' ha) (fun k hk => ?_) (fun j _ => by rw [fi 219 (by decide)])
    simp only [List.mem_cons, List.not_mem_nil, or_false] at hk
    rcases hk with rfl | rfl | rfl | rfl
    · rw [b, e20]
    · exact fi 221 (by decide)
    · exact fi 222 (by decide)
    · exact fi 240 (by decide)
  by_cases q : isR (σ.1 219 0) x1 ∧ isL x2
  · have q1 := c.2 q
    have q2 := r.2 q
    have s4 : x2.toInt.toNat < 4 := by have := q.2; unfold isL at this; omega
    have el : σ.1 (210 + 2 * x2.toInt.toNat) 2 = σ.1 239 x2.toInt.toNat := (hI.2.2.2.1 _ s4).1
    rw [el] at q1
    have hm := hI.1.2.1.2.2 x2.toInt.toNat
    by_cases l0 : (σ.1 239 x2.toInt.toNat).toInt < 0
    · have a := q1.1 l0
      have b := q2.1 l0
      exact ⟨same a.2 b.2, a.1.trans b.1.symm⟩
    · have q1 := q1.2 (by omega)
      have q2 := q2.2 (by omega)
      have eg : ∀ i, i < (σ.1 239 x2.toInt.toNat).toInt.toNat → σ.2.1 (210 + 2 * x2.toInt.toNat + 1) i = σ1.2.1 241 (60 * x2.toInt.toNat + i) := fun i hi => by
        have i60 : i < 60 := by omega
        rw [hF.2.2.1 _ s4 i i60]
        by_cases z : tkN (σ.2.1 (210 + 2 * x2.toInt.toNat + 1)) (σ.1 239 x2.toInt.toNat).toInt.toNat (mn (σ.1 219 0))
        · have cm := (q1.2 z).2.1
          rw [cm 241 (by unfold WR; omega) (by have := isR_p q.1; have := IV_4 hI; omega)]
        · rw [(q1.1 z).2 241 (by unfold WR; omega)]
      have eN : tkN (σ.2.1 (210 + 2 * x2.toInt.toNat + 1)) (σ.1 239 x2.toInt.toNat).toInt.toNat (mn (σ.1 219 0)) ↔ tkN (fun j => σ1.2.1 241 (60 * x2.toInt.toNat + j)) (σ.1 239 x2.toInt.toNat).toInt.toNat (mn (σ.1 219 0)) := by
        constructor
        · intro h i hi
          show 0 ≤ (σ1.2.1 241 (60 * x2.toInt.toNat + i)).toInt ∧ (σ1.2.1 241 (60 * x2.toInt.toNat + i)).toInt < _
          rw [← eg i hi]; exact h i hi
        · intro h i hi
          rw [eg i hi]; exact h i hi
      by_cases z : tkN (σ.2.1 (210 + 2 * x2.toInt.toNat + 1)) (σ.1 239 x2.toInt.toNat).toInt.toNat (mn (σ.1 219 0))
      · obtain ⟨c1, c2, c3⟩ := q1.2 z
        obtain ⟨r1, r2, r3⟩ := q2.2 (eN.mp z)
        have hS : ∀ u, u < 1024 → (tkS (σ.2.1 (210 + 2 * x2.toInt.toNat + 1)) (σ.1 239 x2.toInt.toNat).toInt.toNat u ↔ tkS (fun j => σ1.2.1 241 (60 * x2.toInt.toNat + j)) (σ.1 239 x2.toInt.toNat).toInt.toNat u) := fun u _ => by
          constructor
          · rintro ⟨i, hi, y⟩
            exact ⟨i, hi, by show (σ1.2.1 241 (60 * x2.toInt.toNat + i)).toInt = _; rw [← eg i hi]; exact y⟩
          · rintro ⟨i, hi, y⟩
            exact ⟨i, hi, by rw [eg i hi]; exact y⟩
        have hin : ∀ u, u < 1024 → tkS (fun j => σ1.2.1 241 (60 * x2.toInt.toNat + j)) (σ.1 239 x2.toInt.toNat).toInt.toNat u → u < mn (σ.1 219 0) := fun u hu h => by
          obtain ⟨i, hi, y⟩ := (hS u hu).mpr h
          have := z i hi
          omega
        have hF2 := FQ_M hF (IV_4 hI) f.2 fi e20 j c1 c2 r1 r2 (isR_p q.1) hS hin
        refine ⟨hF2, Int32.toInt_inj.mp ?_⟩
        have k := ct_both (F := bt (σ1.2.1 (σ.2.2 0 4 + 6 + 2 * x1.toInt.toNat + 1))) (G := rb (σ2.1 220) (1024 * x1.toInt.toNat)) M10 (fun u hu => by rw [Bool.eq_iff_iff, c1 u hu, r1 u hu]; exact hS u hu) (fun u hu h => hin u hu ((r1 u hu).mp h))
        have l := ct_le (rb (σ2.1 220) (1024 * x1.toInt.toNat)) (mn (σ.1 219 0))
        rw [c3, r3, e9, k, nI_toInt (by omega)]
      · have a := q1.1 z
        have b := q2.1 (fun y => z (eN.mpr y))
        exact ⟨same a.2 b.2, a.1.trans b.1.symm⟩
  · have a := c.1 q
    have b := r.1 q
    exact ⟨same a.2 b.2, a.1.trans b.1.symm⟩
theorem SI_x {σ : zS} (hI : IV σ) : SI σ.1 := hI.1.1.2.1.2.2.2.2.2.1
theorem uc_put {N : Nat} (hN : 1048576 ≤ N) {x1 : Int32} {σ : zS} (hI : IV σ) (hF : FQ σ) (hW : WQ σ) : Pt (f_X11_put N 0 x1 σ) (CPQ (σ.1 1) (σ.1 0 1).toInt.toNat x1 (σ.2.2 0 4) (fun p u => rb (σ.1 220) (1024 * p) u) σ) := by
  have n10 := RI_n hI.1.2
  have e0 : σ.1 (σ.2.2 0 4) 0 = σ.1 219 0 := hW.1.1.1
  have ht := hI.1.1.2.1.2.2.2.2.2.2.2.2
  refine vl_put (k := (σ.1 219 0).toInt.toNat) hN (IV_4 hI) hI.1.1.1 rfl (by rw [e0]; exact Int32.toInt_inj.mp (by rw [nI_toInt (by omega)]; omega)) (by omega) ⟨by omega, by omega⟩ (fun p hp u hu h => ?_) (fun p hp u hu => FQ_f hF hp hu)
  have := FQ_i hF hp hu h
  by_cases z : 0 < (σ.1 219 0).toInt
  · rw [mn_p z] at this; exact this
  · rw [mn_0 (by omega)] at this; exact absurd this (Nat.not_lt_zero _)
theorem ur_put {N : Nat} (hN : 1048576 ≤ N) {x1 : Int32} {σ : zS} (hC : CI σ) (hR : RI σ) (hG : ∀ p, p < 10 → ∀ u, u < 1024 → rb (σ.1 220) (1024 * p) u = true → u < mn (σ.1 219 0)) : Pt (f_X12_put N 218 x1 σ) (RPQ (σ.1 224) (σ.1 218 7).toInt.toNat x1 (fun p u => rb (σ.1 220) (1024 * p) u) σ) := by
  have n10 := RI_n hR
  have ht := hR.2.2.1
  refine vr_put (k := (σ.1 219 0).toInt.toNat) hN hC.1 hR.2.1 hR.2.2.2 (Int32.toInt_inj.mp (by rw [nI_toInt (by omega)]; omega)) (by omega) rfl ⟨by omega, by omega⟩ (fun p hp u hu h => ?_) (fun p hp u hu => rfl)
  have := hG p hp u hu h
  by_cases z : 0 < (σ.1 219 0).toInt
  · rw [mn_p z] at this; exact this
  · rw [mn_0 (by omega)] at this; exact absurd this (Nat.not_lt_zero _)
theorem uc_world {N : Nat} (hN : 1048576 ≤ N) {σ : zS} (hI : IV σ) : Pt (f_X11_world N 0 σ) (fun r => ∀ G : Nat → Int32, (∀ j, j < 43 → G j = 0) → CYQ (σ.1 1) (σ.1 0 1).toInt.toNat (σ.2.2 0 5) σ G r) := by
  have hC := hI.1.1.2.1
  have ht := hC.2.2.2.2.2.2.2.2
  intro a e G hG
  rcases hI.1.1.2.2 with q | q
  · exact vy_world (n := (σ.1 0 1).toInt.toNat) hN (Or.inr q.2) hI.1.1.1 rfl (by rw [q.2]; exact hC.2.1) hC.2.2.2.2.2.2.1 (by omega) hG a e
  · exact vy_world (n := (σ.1 0 1).toInt.toNat) hN (Or.inl q.2) hI.1.1.1 rfl (by rw [q.2]; exact hC.1) hC.2.2.2.2.2.2.1 (by omega) hG a e

theorem fs_put {x1 v w : Int32} {σ σ1 σ2 : zS} (hI : IV σ) (hW : WQ σ) (hF : FQ σ) (t1 : FR [0, 57, 58, 59, 61, 62, 63, 64, 65, 106, 107] σ σ1) (c : CPQ (σ.1 1) (σ.1 0 1).toInt.toNat x1 (σ.2.2 0 4) (fun p u => rb (σ.1 220) (1024 * p) u) σ (v, σ1)) (t2 : FR [218, 220, 226, 227, 228, 229, 230] σ1 σ2) (j : σ2.2.1 = σ1.2.1) (r : RPQ (σ1.1 224) (σ1.1 218 7).toInt.toNat x1 (fun p u => rb (σ1.1 220) (1024 * p) u) σ1 (w, σ2)) : FQ σ2 ∧ v = w := by
  have e9 : σ1.1 219 = σ.1 219 := t1.1 219 (by decide)
  have e20 : σ1.1 220 = σ.1 220 := t1.1 220 (by decide)
  have f := FRu t1 t2
  rw [t1.1 224 (by decide), t1.1 218 (by decide), ← hI.2.1, ← hI.2.2.2.2, e20] at r
  exact FQ_P hF (IV_4 hI) (RI_n hI.1.2) hW.1.1.1 f.2 (fun k hk => f.1 k ((by decide : ∀ k ∈ [219, 221, 222, 240], k ∉ ([0, 57, 58, 59, 61, 62, 63, 64, 65, 106, 107] ++ [218, 220, 226, 227, 228, 229, 230])) k hk)) e9 e20 j c r
theorem fs_world {v w : Int32} {σ σ1 σ2 : zS} (hI : IV σ) (hF : FQ σ) (h1 : (CI σ1 ∧ RI σ1) ∧ FC [0, 2, 3, 4, 5, 6, 28, 29, 30, 31, 32, 57, 58, 59, 61, 62, 63, 64, 65, 106, 107] σ σ1 ∧ σ1.1 0 1 = 0 ∧ ∀ G : Nat → Int32, (∀ j, j < 43 → G j = 0) → CXQ (σ.1 1) (σ.1 0 1).toInt.toNat (σ.2.2 0 5) σ G (v, σ1)) (c : ∀ G : Nat → Int32, (∀ j, j < 43 → G j = 0) → CYQ (σ.1 1) (σ.1 0 1).toInt.toNat (σ.2.2 0 5) σ G (v, σ1)) (t2 : FR [218, 219, 220, 226, 227, 228, 229, 230, 231, 232] σ1 σ2) (j : σ2.2.1 = σ1.2.1) (r : ∃ G, (∀ j, j < 43 → G j = 0) ∧ (RWQ (σ1.1 224) (σ1.1 218 7).toInt.toNat G (σ1.1 219) (w, σ2) ∧ RYQ (σ1.1 224) (σ1.1 218 7).toInt.toNat G (σ1.1 220) (w, σ2))) : FQ σ2 := by
  obtain ⟨G, hG, ra, rb⟩ := r
  have e9 : σ1.1 219 = σ.1 219 := h1.2.1 219 (by decide)
  have e20 : σ1.1 220 = σ.1 220 := h1.2.1 220 (by decide)
  have ht := hI.1.1.2.1.2.2.2.2.2.2.2.2
  rw [h1.2.1 224 (by decide), h1.2.1 218 (by decide), ← hI.2.1, ← hI.2.2.2.2] at ra rb
  refine FQ_W (n := (σ.1 0 1).toInt.toNat) hF hI.1.1.2.2 (by omega) hG t2.2 (fun k hk => ?_) e9 e20 j (h1.2.2.2 G hG) (c G hG) ra rb
  exact (t2.1 k ((by decide : ∀ k ∈ [221, 222, 240], k ∉ [218, 219, 220, 226, 227, 228, 229, 230, 231, 232]) k hk)).trans (h1.2.1 k ((by decide : ∀ k ∈ [221, 222, 240], k ∉ [0, 2, 3, 4, 5, 6, 28, 29, 30, 31, 32, 57, 58, 59, 61, 62, 63, 64, 65, 106, 107]) k hk))

theorem fs_keep {x1 v : Int32} {σ σ1 σ2 : zS} (hI : IV σ) (hF : FQ σ) (o : FC [55, 132, 133, 134, 135, 136, 158, 159, 160, 161, 162, 184, 185, 186, 187, 188] σ σ1) (e4 : σ1.2.2 = σ.2.2) (c : (0 ≤ x1.toInt ∧ x1.toInt ≤ 2 → CPF σ σ1 (132 + 26 * x1.toInt.toNat) (σ.2.2 0 4)) ∧ (¬ (0 ≤ x1.toInt ∧ x1.toInt ≤ 2) → σ1.2.1 = σ.2.1)) (t2 : FR [221, 222, 223] σ1 σ2) (r2 : 0 ≤ x1.toInt ∧ x1.toInt ≤ 2 → (∀ j, j < 43 → σ2.1 221 (43 * x1.toInt.toNat + j) = σ1.1 219 j) ∧ ∀ k, (k < 43 * x1.toInt.toNat ∨ 43 * x1.toInt.toNat + 43 ≤ k) → σ2.1 221 k = σ1.1 221 k) (j : σ2.2.1 = σ1.2.1) (r : σ2.1 220 = σ1.1 220 ∧ (0 ≤ x1.toInt ∧ x1.toInt ≤ 2 → (∀ j, j < 10240 → σ2.1 222 (10240 * x1.toInt.toNat + j) = σ1.1 220 j) ∧ ∀ k, (k < 10240 * x1.toInt.toNat ∨ 10240 * x1.toInt.toNat + 10240 ≤ k) → σ2.1 222 k = σ1.1 222 k) ∧ (¬ (0 ≤ x1.toInt ∧ x1.toInt ≤ 2) → σ2.1 = σ1.1)) : FQ σ2 :=
  FQ_K hF (IV_4 hI) (t2.2.trans (by rw [e4])) (fun k hk => (t2.1 k ((by decide : ∀ k ∈ [219, 240], k ∉ [221, 222, 223]) k hk)).trans (o k ((by decide : ∀ k ∈ [219, 240], k ∉ [55, 132, 133, 134, 135, 136, 158, 159, 160, 161, 162, 184, 185, 186, 187, 188]) k hk))) (fun k hk => o k ((by decide : ∀ k ∈ [219, 220, 221, 222], k ∉ [55, 132, 133, 134, 135, 136, 158, 159, 160, 161, 162, 184, 185, 186, 187, 188]) k hk)) j c r r2
theorem fs_back {x1 v : Int32} {σ σ1 σ2 : zS} (hI : IV σ) (hF : FQ σ) (o : FC [2, 3, 4, 5, 6, 28, 29, 30, 31, 32] σ σ1) (e4 : σ1.2.2 = σ.2.2) (c : ((0 ≤ x1.toInt ∧ x1.toInt ≤ 2) ∧ ¬ σ.1 55 x1.toInt.toNat = 0 → CPF σ σ1 (σ.2.2 0 4) (132 + 26 * x1.toInt.toNat)) ∧ (¬ ((0 ≤ x1.toInt ∧ x1.toInt ≤ 2) ∧ ¬ σ.1 55 x1.toInt.toNat = 0) → σ1.2.1 = σ.2.1)) (t2 : FR [219, 220] σ1 σ2) (r2 : (0 ≤ x1.toInt ∧ x1.toInt ≤ 2) ∧ ¬ σ1.1 223 x1.toInt.toNat = 0 → ∀ j, j < 43 → σ2.1 219 j = σ1.1 221 (43 * x1.toInt.toNat + j)) (j : σ2.2.1 = σ1.2.1) (r : ((0 ≤ x1.toInt ∧ x1.toInt ≤ 2) ∧ ¬ σ1.1 223 x1.toInt.toNat = 0 → σ2.1 222 = σ1.1 222 ∧ ∀ j, j < 10240 → σ2.1 220 j = σ1.1 222 (10240 * x1.toInt.toNat + j)) ∧ (¬ ((0 ≤ x1.toInt ∧ x1.toInt ≤ 2) ∧ ¬ σ1.1 223 x1.toInt.toNat = 0) → σ2.1 = σ1.1)) : FQ σ2 :=
  FQ_B hF (IV_4 hI) (t2.2.trans (by rw [e4])) (fun k hk => (t2.1 k ((by decide : ∀ k ∈ [221, 222, 240], k ∉ [219, 220]) k hk)).trans (o k ((by decide : ∀ k ∈ [221, 222, 240], k ∉ [2, 3, 4, 5, 6, 28, 29, 30, 31, 32]) k hk))) (fun k hk => o k ((by decide : ∀ k ∈ [219, 220, 221, 222, 223], k ∉ [2, 3, 4, 5, 6, 28, 29, 30, 31, 32]) k hk)) j hI.2.2.1 c r r2

theorem fs_row {x1 x2 x3 v w : Int32} {σ σ1 σ2 : zS} (hI : IV σ) (hF : FQ σ) (e : v = w) (t1 : FR [210, 212, 214, 216] σ σ1) (c : (SLO σ (fun s j => if s = x1.toInt.toNat then 0 else σ.2.1 (210 + 2 * s + 1) j)) (v, σ1)) (t2 : FR [239, 240] σ1 σ2) (hv : w = rowV x1 x2 x3 ∧ RWR σ1.1 σ2.1 x1 x2 x3 w) (r : (SRO σ1 (fun s j => if s = x1.toInt.toNat then 0 else σ1.2.1 241 (60 * s + j))) (w, σ2)) : FQ σ2 := by
  have f := FRu t1 t2
  refine FQ_L hF (IV_4 hI) f.2 (fun k hk => f.1 k ((by decide : ∀ k ∈ [219, 220, 221, 222], k ∉ ([210, 212, 214, 216] ++ [239, 240])) k hk)) (fun s hs => ?_) e c r (fun _ s hs i hi => ?_)
  · rw [(hv.2 s hs).2]
    by_cases q : w = 0 ∧ s = x1.toInt.toNat
    · rw [if_pos q]
      have h := hv.1
      rw [q.1] at h
      unfold rowV at h
      by_cases z : (0 ≤ x1.toInt ∧ x1.toInt ≤ 3) ∧ (0 ≤ x2.toInt ∧ x2.toInt ≤ 3) ∧ x3.toInt ≤ 60
      · exact z.2.1
      · rw [if_neg z] at h; exact absurd h (by decide)
    · rw [if_neg q, t1.1 240 (by decide)]; exact hF.2.2.2 s hs
  · show (if s = x1.toInt.toNat then 0 else σ.2.1 (210 + 2 * s + 1) i) = (if s = x1.toInt.toNat then 0 else σ1.2.1 241 (60 * s + i))
    rw [c.1 241 (by omega), hF.2.2.1 s hs i hi]
theorem fs_write {x1 x2 v w : Int32} {x3 : Int64} {σ σ1 σ2 : zS} (hI : IV σ) (hF : FQ σ) (e : v = w) (t1 : FR [] σ σ1) (c : (SLO σ (fun s j => if s = x1.toInt.toNat ∧ j = x2.toInt.toNat then cutC (σ.1 (210 + 2 * s) 1) x3 else σ.2.1 (210 + 2 * s + 1) j)) (v, σ1)) (t2 : FR [] σ1 σ2) (r : (SRO σ1 (fun s j => if s = x1.toInt.toNat ∧ j = x2.toInt.toNat then cutR (σ1.1 240 s) x3 else σ1.2.1 241 (60 * s + j))) (w, σ2)) : FQ σ2 := by
  have f := FRu t1 t2
  have e40 : σ1.1 240 = σ.1 240 := t1.1 240 (by decide)
  refine FQ_L hF (IV_4 hI) f.2 (fun k hk => f.1 k ((by decide : ∀ k ∈ [219, 220, 221, 222], k ∉ ([] ++ [])) k hk)) (fun s hs => by rw [f.1 240 (by decide)]; exact hF.2.2.2 s hs) e c r (fun _ s hs i hi => ?_)
  show (if s = x1.toInt.toNat ∧ i = x2.toInt.toNat then cutC (σ.1 (210 + 2 * s) 1) x3 else σ.2.1 (210 + 2 * s + 1) i) = (if s = x1.toInt.toNat ∧ i = x2.toInt.toNat then cutR (σ1.1 240 s) x3 else σ1.2.1 241 (60 * s + i))
  rw [c.1 241 (by omega), hF.2.2.1 s hs i hi, e40, (hI.2.2.2.1 s hs).2, cut_eq (hF.2.2.2 s hs)]
theorem fs_paste {x1 x2 x3 x4 x5 v w : Int32} {σ σ1 σ2 : zS} (hI : IV σ) (hF : FQ σ) (e : v = w) (hv : v = paV x1 x2 x3 x4 x5 (σ.1 (210 + 2 * x1.toInt.toNat) 2) (σ.1 (210 + 2 * x3.toInt.toNat) 2) (σ.1 (210 + 2 * x1.toInt.toNat) 1) (σ.1 (210 + 2 * x3.toInt.toNat) 1)) (t1 : FR [] σ σ1) (c : (SLO σ (fun s j => if s = x3.toInt.toNat ∧ x4.toInt.toNat ≤ j ∧ j < x4.toInt.toNat + x5.toInt.toNat then σ.2.1 (210 + 2 * x1.toInt.toNat + 1) (x2.toInt.toNat + (j - x4.toInt.toNat)) else σ.2.1 (210 + 2 * s + 1) j)) (v, σ1)) (t2 : FR [] σ1 σ2) (r : (SRO σ1 (fun s j => if s = x3.toInt.toNat ∧ x4.toInt.toNat ≤ j ∧ j < x4.toInt.toNat + x5.toInt.toNat then σ1.2.1 241 (60 * x1.toInt.toNat + (x2.toInt.toNat + (j - x4.toInt.toNat))) else σ1.2.1 241 (60 * s + j))) (w, σ2)) : FQ σ2 := by
  have f := FRu t1 t2
  refine FQ_L hF (IV_4 hI) f.2 (fun k hk => f.1 k ((by decide : ∀ k ∈ [219, 220, 221, 222], k ∉ ([] ++ [])) k hk)) (fun s hs => by rw [f.1 240 (by decide)]; exact hF.2.2.2 s hs) e c r (fun z s hs i hi => ?_)
  rw [z] at hv
  unfold paV at hv
  by_cases a : (0 ≤ x1.toInt ∧ x1.toInt ≤ 3) ∧ (0 ≤ x3.toInt ∧ x3.toInt ≤ 3)
  · rw [if_pos a] at hv
    by_cases b : (σ.1 (210 + 2 * x1.toInt.toNat) 2).toInt < 0 ∨ (σ.1 (210 + 2 * x3.toInt.toNat) 2).toInt < 0
    · rw [if_pos b] at hv; exact absurd hv (by decide)
    · rw [if_neg b] at hv
      by_cases g : σ.1 (210 + 2 * x1.toInt.toNat) 1 = σ.1 (210 + 2 * x3.toInt.toNat) 1
      · rw [if_pos g] at hv
        by_cases h : (0 ≤ x2.toInt ∧ 0 ≤ x4.toInt ∧ 0 ≤ x5.toInt) ∧ x2.toInt + x5.toInt ≤ (σ.1 (210 + 2 * x1.toInt.toNat) 2).toInt ∧ x4.toInt + x5.toInt ≤ (σ.1 (210 + 2 * x3.toInt.toNat) 2).toInt
        · have l60 := SI_x hI (210 + 2 * x1.toInt.toNat) (k9 (by omega))
          show (if s = x3.toInt.toNat ∧ x4.toInt.toNat ≤ i ∧ i < x4.toInt.toNat + x5.toInt.toNat then σ.2.1 (210 + 2 * x1.toInt.toNat + 1) (x2.toInt.toNat + (i - x4.toInt.toNat)) else σ.2.1 (210 + 2 * s + 1) i) = (if s = x3.toInt.toNat ∧ x4.toInt.toNat ≤ i ∧ i < x4.toInt.toNat + x5.toInt.toNat then σ1.2.1 241 (60 * x1.toInt.toNat + (x2.toInt.toNat + (i - x4.toInt.toNat))) else σ1.2.1 241 (60 * s + i))
          rw [c.1 241 (by omega)]
          by_cases y : s = x3.toInt.toNat ∧ x4.toInt.toNat ≤ i ∧ i < x4.toInt.toNat + x5.toInt.toNat
          · rw [if_pos y, if_pos y]
            exact hF.2.2.1 _ (by omega) _ (by omega)
          · rw [if_neg y, if_neg y]
            exact hF.2.2.1 s hs i hi
        · rw [if_neg h] at hv; exact absurd hv (by decide)
      · rw [if_neg g] at hv; exact absurd hv (by decide)
  · rw [if_neg a] at hv; exact absurd hv (by decide)
/-- a call that touches neither worlds nor families nor slots, in both -/
theorem fs_0 {S1 S2 : List Nat} {σ σ1 σ2 : zS} (hI : IV σ) (hF : FQ σ) (t1 : FR S1 σ σ1) (t2 : FR S2 σ1 σ2) (hS : ∀ k ∈ [219, 220, 221, 222, 240], k ∉ S1 ++ S2) (c : LW σ σ1) (j : σ2.2.1 = σ1.2.1) : FQ σ2 := by
  have f := FRu t1 t2
  exact FQ_0 hF (IV_4 hI) f.2 (fun a ha => by rw [j]; exact c a ha) (fun k hk => f.1 k (hS k (List.mem_cons_of_mem _ hk))) (fun i _ => by rw [f.1 219 (hS 219 (by decide))])
/-- a move of the order -/
theorem fs_o {S1 S2 : List Nat} {σ σ1 σ2 : zS} (hI : IV σ) (hF : FQ σ) (t1 : FR S1 σ σ1) (t2 : FR S2 σ1 σ2 ∧ B33 (σ1.1 219) (σ2.1 219)) (h9 : 219 ∉ S1) (hS : ∀ k ∈ [220, 221, 222, 240], k ∉ S1 ++ S2) (c : LW σ σ1) (j : σ2.2.1 = σ1.2.1) : FQ σ2 := by
  have f := FRu t1 t2.1
  exact FQ_0 hF (IV_4 hI) f.2 (fun a ha => by rw [j]; exact c a ha) (fun k hk => f.1 k (hS k hk)) (fun i hi => by rw [t2.2 i (by unfold eJ at hi; omega), t1.1 219 h9])
theorem fs_weigh {x1 x2 w : Int32} {σ σ1 σ2 : zS} (hI : IV σ) (hF : FQ σ) (t1 : FR [5, 31] σ σ1) (t2 : FR [219] σ1 σ2 ∧ (wgOK (σ1.1 219 0) x1 x2 → w = σ1.1 219 (3 + x1.toInt.toNat) ∧ σ2.1 219 = upd (σ1.1 219) (3 + x1.toInt.toNat) x2) ∧ (¬ wgOK (σ1.1 219 0) x1 x2 → w = -2 ∧ σ2.1 219 = σ1.1 219)) (c : LW σ σ1) (j : σ2.2.1 = σ1.2.1) : FQ σ2 := by
  have f := FRu t1 t2.1
  have e9 : σ1.1 219 = σ.1 219 := t1.1 219 (by decide)
  refine FQ_0 hF (IV_4 hI) f.2 (fun a ha => by rw [j]; exact c a ha) (fun k hk => f.1 k ((by decide : ∀ k ∈ [220, 221, 222, 240], k ∉ [5, 31] ++ [219]) k hk)) (fun i hi => ?_)
  by_cases q : wgOK (σ1.1 219 0) x1 x2
  · rw [(t2.2.1 q).2, e9]
    have h := q.1
    have n10 := RI_n hI.1.2
    rw [e9] at h
    exact upd_n (by unfold eJ at hi; omega)
  · rw [(t2.2.2 q).2, e9]

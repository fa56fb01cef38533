def F_X8_pickOfLoad_13 (N : Nat) (x0 : Nat) (x1 : Nat) (x2 : Int32) (again13 : (Int32 × Int32 × Int32 × zS) → Option (Int32 × zS)) : Int32 × Int32 × Int32 × zS → Option (Int32 × zS)
  | (x4, x5, x6, σ) =>
  if 1024 ≤ x6 then
    (some ((-1), σ))
  else
    (if x5 < 0 then
      (some ((-1), σ))
    else
      (zl (gR 8 0 x0 σ) fun v3 =>
      zl (aI 14 v3 x5 σ) fun v4 =>
      if v4 = x2 then
        (if x4 = 0 then
          (some (x5, σ))
        else
          (zl (gC 2 x1) fun _ => zb (f_X2_firstFrom N x1 (x5 + 1) σ) fun v5 σ6 =>
          again13 (x4 + (-1), v5, x6 + 1, σ6)))
      else
        (zl (gC 2 x1) fun _ => zb (f_X2_firstFrom N x1 (x5 + 1) σ) fun v7 σ8 =>
        again13 (x4, v7, x6 + 1, σ8))))
def f_X8_pickOfLoad (N : Nat) (x0 : Nat) (x1 : Nat) (x2 : Int32) (x3 : Int32) (σ : zS) : Option (Int32 × zS) :=
  zl (gC 2 x1) fun _ => zb (f_X2_firstFrom N x1 0 σ) fun v1 σ2 =>
  zlp (F_X8_pickOfLoad_13 N x0 x1 x2) N (x3, v1, 0, σ2)
set_option maxHeartbeats 4000000 in
set_option maxRecDepth 100000 in
theorem c_X8_pickOfLoad (l : Launch) (D : va_G) (c : zC) (o : Nat) (g : zEp) (N : Nat) {x0 : Nat} {x1 : Nat} {x2 : Int32} {x3 : Int32} {σ : zS} {ρ : Int32 × zS} (h : f_X8_pickOfLoad N x0 x1 x2 x3 σ = some ρ) : Met l yX8_pickOfLoad zs_X8_pickOfLoad (zr 8) (va_Pc [.ref (o + x0), .ref (o + x1), .int x2, .int x3] (zG D c o g σ)) (zQi D c o g ρ) 0 0 (zA o) := by
  refine zMetG (by decide) (Nat.le_of_ble_eq_true rfl) ?_
  intro p e s m below meth cd ⟨hx, hb, hr, hml, hown, hts, hlocks⟩ hP hK hE ls hl
  have hS : va_S (zA o) s.heap s.heap [] := va_S.rf
  have hl : lv_has ls 7 [(0, .ref (o + x0)), (1, .ref (o + x1)), (2, .int x2), (3, .int x3)] := hl
  rw [f_X8_pickOfLoad.eq_1] at h
  refine lv_iload_n (pc := 0) hx hb dX8_pickOfLoad_0 rfl (lv_at hl 3 rfl) ?_
  refine lv_istore (pc := 1) (lv' := [(4, .int x3), (0, .ref (o + x0)), (1, .ref (o + x1)), (2, .int x2), (3, .int x3)]) hx hb dX8_pickOfLoad_1 hl (by decide) rfl (fun ls hl => ?_)
  refine lv_aload_n (pc := 3) hx hb dX8_pickOfLoad_3 rfl (lv_at hl 2 rfl) ?_
  refine lv_iconst (pc := 4) (v := 0) hx hb dX8_pickOfLoad_4 (by decide) ?_
  obtain ⟨_, hg, h⟩ := zl_some h
  obtain ⟨v1, σ2, hv, h⟩ := zb_some h
  refine xcallVi (pc := 5) (As := [.int 0]) (rest := []) ⟨hx, hb, hml, hown, hts⟩ (c_X2_firstFrom l D c o g N hv) zc2 zV_X8_37 rfl zd_X2_firstFrom ⟨Nat.le_of_ble_eq_true rfl, Nat.le_of_ble_eq_true rfl⟩ hK hP hE hS hg hl.1 rfl (Nat.le_of_ble_eq_true rfl) ⟨Nat.zero_le _, Nat.zero_le _⟩ dX8_pickOfLoad_5 (fun H locs hP hS => ?_)
  refine lv_istore (pc := 8) (lv' := [(5, .int v1), (4, .int x3), (0, .ref (o + x0)), (1, .ref (o + x1)), (2, .int x2), (3, .int x3)]) hx hb dX8_pickOfLoad_8 hl (by decide) rfl (fun ls hl => ?_)
  refine lv_iconst (pc := 10) (v := 0) hx hb dX8_pickOfLoad_10 (by decide) ?_
  refine lv_istore (pc := 11) (lv' := [(6, .int 0), (5, .int v1), (4, .int x3), (0, .ref (o + x0)), (1, .ref (o + x1)), (2, .int x2), (3, .int x3)]) hx hb dX8_pickOfLoad_11 hl (by decide) rfl (fun ls hl => ?_)
  have L13_3 : ∀ (n : Nat) (t : Int32 × Int32 × Int32 × zS), zlp (F_X8_pickOfLoad_13 N x0 x1 x2) n t = some ρ → ∀ (H : Heap) (locs : List Loc) (ls : Array Slot), zP D c o (zabs o (t.2.2.2)) H → va_S (zA o) s.heap H locs → lv_has ls 7 [(4, .int (t.1)), (5, .int (t.2.1)), (6, .int (t.2.2.1)), (0, .ref (o + x0)), (1, .ref (o + x1)), (2, .int x2)] → W p l e (zr 8) s m (([.ref (o + x0), .ref (o + x1), .int x2, .int x3] : List Value).toArray) below meth cd H locs 0 0 (MQ below (zQi D c o g ρ) (([.ref (o + x0), .ref (o + x1), .int x2, .int x3] : List Value).toArray) s 0 0 (zA o)) (F0 m 13 ls []) := by
    refine zlp_ind (fun ag3 ih3 t h H locs ls hP hS hl => ?_)
    obtain ⟨x4_3, x5_3, x6_3, σ3⟩ := t
    have hP : zP D c o (zabs o σ3) H := hP
    have hl : lv_has ls 7 [(4, .int x4_3), (5, .int x5_3), (6, .int x6_3), (0, .ref (o + x0)), (1, .ref (o + x1)), (2, .int x2)] := hl
    rw [F_X8_pickOfLoad_13.eq_1] at h
    show W p l e (zr 8) s m (([.ref (o + x0), .ref (o + x1), .int x2, .int x3] : List Value).toArray) below meth cd H locs 0 0 (MQ below (zQi D c o g ρ) (([.ref (o + x0), .ref (o + x1), .int x2, .int x3] : List Value).toArray) s 0 0 (zA o)) (F0 m 13 ls [])
    refine lv_iload (pc := 13) hx hb dX8_pickOfLoad_13 (lv_at hl 2 rfl) ?_
    refine lv_sipush (pc := 15) (v := 1024) hx hb dX8_pickOfLoad_15 (by decide) ?_
    refine lv_icmp_ge (pc := 18) (tgt := 64) hx hb dX8_pickOfLoad_18 (by decide) (fun c1 => ?_) (fun c1 => ?_)
    · rw [if_pos c1] at h
      refine lv_iconst (pc := 64) (v := (-1)) hx hb dX8_pickOfLoad_64 (by decide) ?_
      exact xreti (pc := 65) hx hb hr hlocks hP hK hE hS h dX8_pickOfLoad_65
    · rw [if_neg c1] at h
      refine lv_iload (pc := 21) hx hb dX8_pickOfLoad_21 (lv_at hl 1 rfl) ?_
      refine lv_if_lt (pc := 23) (tgt := 64) hx hb dX8_pickOfLoad_23 (by decide) (fun c1 => ?_) (fun c1 => ?_)
      · rw [if_pos c1] at h
        refine lv_iconst (pc := 64) (v := (-1)) hx hb dX8_pickOfLoad_64 (by decide) ?_
        exact xreti (pc := 65) hx hb hr hlocks hP hK hE hS h dX8_pickOfLoad_65
      · rw [if_neg c1] at h
        refine lv_aload_n (pc := 26) hx hb dX8_pickOfLoad_26 rfl (lv_at hl 3 rfl) ?_
        obtain ⟨v4, hv, h⟩ := zl_some h
        refine xgR (pc := 27) (j := 0) zc8 hx hb hts hown hK hP hv rfl zf_X8_9 dX8_pickOfLoad_27 ?_
        refine lv_iload (pc := 30) hx hb dX8_pickOfLoad_30 (lv_at hl 1 rfl) ?_
        obtain ⟨v5, hv, h⟩ := zl_some h
        refine xaI (pc := 32) hx hb hK hP hv dX8_pickOfLoad_32 ?_
        refine lv_iload_n (pc := 33) hx hb dX8_pickOfLoad_33 rfl (lv_at hl 5 rfl) ?_
        refine lv_icmp_ne (pc := 34) (tgt := 48) hx hb dX8_pickOfLoad_34 (by decide) (fun c1 => ?_) (fun c1 => ?_)
        · rw [if_neg c1] at h
          refine lv_aload_n (pc := 48) hx hb dX8_pickOfLoad_48 rfl (lv_at hl 4 rfl) ?_
          refine lv_iload (pc := 49) hx hb dX8_pickOfLoad_49 (lv_at hl 1 rfl) ?_
          refine lv_iconst (pc := 51) (v := 1) hx hb dX8_pickOfLoad_51 (by decide) ?_
          refine lv_iadd (pc := 52) hx hb dX8_pickOfLoad_52 ?_
          obtain ⟨_, hg, h⟩ := zl_some h
          obtain ⟨v6, σ7, hv, h⟩ := zb_some h
          refine xcallVi (pc := 53) (As := [.int (x5_3 + 1)]) (rest := []) ⟨hx, hb, hml, hown, hts⟩ (c_X2_firstFrom l D c o g N hv) zc2 zV_X8_37 rfl zd_X2_firstFrom ⟨Nat.le_of_ble_eq_true rfl, Nat.le_of_ble_eq_true rfl⟩ hK hP hE hS hg hl.1 rfl (Nat.le_of_ble_eq_true rfl) ⟨Nat.zero_le _, Nat.zero_le _⟩ dX8_pickOfLoad_53 (fun H locs hP hS => ?_)
          refine lv_istore (pc := 56) (lv' := [(5, .int v6), (4, .int x4_3), (6, .int x6_3), (0, .ref (o + x0)), (1, .ref (o + x1)), (2, .int x2)]) hx hb dX8_pickOfLoad_56 hl (by decide) rfl (fun ls hl => ?_)
          refine lv_iinc (pc := 58) (v := x6_3 + 1) (lv' := [(6, .int (x6_3 + 1)), (5, .int v6), (4, .int x4_3), (0, .ref (o + x0)), (1, .ref (o + x1)), (2, .int x2)]) hx hb dX8_pickOfLoad_58 hl (k := 2) rfl rfl (by decide) rfl (fun ls hl => ?_)
          refine lv_goto (pc := 61) (tgt := 13) hx hb dX8_pickOfLoad_61 (by decide) ?_
          exact ih3 (x4_3, v6, x6_3 + 1, σ7) h _ _ ls hP hS (lv_sub hl [2, 1, 0, 3, 4, 5] rfl)
        · rw [if_pos c1] at h
          refine lv_iload (pc := 37) hx hb dX8_pickOfLoad_37 (lv_at hl 0 rfl) ?_
          refine lv_if_ne (pc := 39) (tgt := 45) hx hb dX8_pickOfLoad_39 (by decide) (fun c1 => ?_) (fun c1 => ?_)
          · rw [if_neg c1] at h
            refine lv_iinc (pc := 45) (v := x4_3 + (-1)) (lv' := [(4, .int (x4_3 + (-1))), (5, .int x5_3), (6, .int x6_3), (0, .ref (o + x0)), (1, .ref (o + x1)), (2, .int x2)]) hx hb dX8_pickOfLoad_45 hl (k := 0) rfl rfl (by decide) rfl (fun ls hl => ?_)
            refine lv_aload_n (pc := 48) hx hb dX8_pickOfLoad_48 rfl (lv_at hl 4 rfl) ?_
            refine lv_iload (pc := 49) hx hb dX8_pickOfLoad_49 (lv_at hl 1 rfl) ?_
            refine lv_iconst (pc := 51) (v := 1) hx hb dX8_pickOfLoad_51 (by decide) ?_
            refine lv_iadd (pc := 52) hx hb dX8_pickOfLoad_52 ?_
            obtain ⟨_, hg, h⟩ := zl_some h
            obtain ⟨v8, σ9, hv, h⟩ := zb_some h
            refine xcallVi (pc := 53) (As := [.int (x5_3 + 1)]) (rest := []) ⟨hx, hb, hml, hown, hts⟩ (c_X2_firstFrom l D c o g N hv) zc2 zV_X8_37 rfl zd_X2_firstFrom ⟨Nat.le_of_ble_eq_true rfl, Nat.le_of_ble_eq_true rfl⟩ hK hP hE hS hg hl.1 rfl (Nat.le_of_ble_eq_true rfl) ⟨Nat.zero_le _, Nat.zero_le _⟩ dX8_pickOfLoad_53 (fun H locs hP hS => ?_)
            refine lv_istore (pc := 56) (lv' := [(5, .int v8), (4, .int (x4_3 + (-1))), (6, .int x6_3), (0, .ref (o + x0)), (1, .ref (o + x1)), (2, .int x2)]) hx hb dX8_pickOfLoad_56 hl (by decide) rfl (fun ls hl => ?_)
            refine lv_iinc (pc := 58) (v := x6_3 + 1) (lv' := [(6, .int (x6_3 + 1)), (5, .int v8), (4, .int (x4_3 + (-1))), (0, .ref (o + x0)), (1, .ref (o + x1)), (2, .int x2)]) hx hb dX8_pickOfLoad_58 hl (k := 2) rfl rfl (by decide) rfl (fun ls hl => ?_)
            refine lv_goto (pc := 61) (tgt := 13) hx hb dX8_pickOfLoad_61 (by decide) ?_
            exact ih3 (x4_3 + (-1), v8, x6_3 + 1, σ9) h _ _ ls hP hS (lv_sub hl [2, 1, 0, 3, 4, 5] rfl)
          · rw [if_pos c1] at h
            refine lv_iload (pc := 42) hx hb dX8_pickOfLoad_42 (lv_at hl 1 rfl) ?_
            exact xreti (pc := 44) hx hb hr hlocks hP hK hE hS h dX8_pickOfLoad_44
  exact L13_3 N (x3, v1, 0, σ2) h _ _ ls hP hS (lv_sub hl [2, 1, 0, 3, 4, 5] rfl)
def F_X8_pick_113 (N : Nat) (x0 : Nat) (x2 : Nat) (again113 : (Int32 × Int32 × zS) → Option (Int32 × zS)) : Int32 × Int32 × zS → Option (Int32 × zS)
  | (x5, x6, σ) =>
  zl (gR 8 1 x0 σ) fun v10 =>
  zl (aL 14 v10) fun v11 =>
  if v11 ≤ x6 then
    (some ((-1), σ))
  else
    (zl (gR 8 1 x0 σ) fun v12 =>
    zl (aI 14 v12 x6 σ) fun v13 =>
    if v13 ≤ x5 then
      (zl (gR 8 1 x0 σ) fun v14 =>
      zl (aI 14 v14 x6 σ) fun v15 =>
      again113 (x5 - v15, x6 + 1, σ))
    else
      (zl (gC 8 x0) fun _ => zb (f_X8_pickOfLoad N x0 x2 x6 x5 σ) fun v16 σ17 =>
      some (v16, σ17)))
def J_X8_pick_107 (N : Nat) (x0 : Nat) (x2 : Nat) (x3 : Int32) (σ : zS) : Option (Int32 × zS) :=
  zlp (F_X8_pick_113 N x0 x2) N (x3, 0, σ)
def F_X8_pick_37 (N : Nat) (x0 : Nat) (x2 : Nat) (x3 : Int32) (again37 : (Int32 × Int32 × zS) → Option (Int32 × zS)) : Int32 × Int32 × zS → Option (Int32 × zS)
  | (x4, x5, σ) =>
  if 1024 ≤ x5 then
    (J_X8_pick_107 N x0 x2 x3 σ)
  else
    (if x4 < 0 then
      (J_X8_pick_107 N x0 x2 x3 σ)
    else
      (zl (gR 8 0 x0 σ) fun v18 =>
      zl (aI 14 v18 x4 σ) fun v19 =>
      if v19 < 0 then
        (zl (gC 2 x2) fun _ => zb (f_X2_firstFrom N x2 (x4 + 1) σ) fun v20 σ21 =>
        again37 (v20, x5 + 1, σ21))
      else
        (zl (gR 8 0 x0 σ) fun v22 =>
        zl (aI 14 v22 x4 σ) fun v23 =>
        zl (gR 8 1 x0 σ) fun v24 =>
        zl (aL 14 v24) fun v25 =>
        if v25 ≤ v23 then
          (zl (gC 2 x2) fun _ => zb (f_X2_firstFrom N x2 (x4 + 1) σ) fun v26 σ27 =>
          again37 (v26, x5 + 1, σ27))
        else
          (zl (gR 8 1 x0 σ) fun v28 =>
          zl (gR 8 0 x0 σ) fun v29 =>
          zl (aI 14 v29 x4 σ) fun v30 =>
          zl (aI 14 v28 v30 σ) fun v31 =>
          zl (sI 14 v28 v30 (v31 + 1) σ) fun σ32 =>
          zl (gC 2 x2) fun _ => zb (f_X2_firstFrom N x2 (x4 + 1) σ32) fun v33 σ34 =>
          again37 (v33, x5 + 1, σ34)))))
def f_X8_pick (N : Nat) (x0 : Nat) (x1 : Nat) (x2 : Nat) (x3 : Int32) (σ : zS) : Option (Int32 × zS) :=
  if x3 < 0 then
    (some ((-1), σ))
  else
    (zl (gC 2 x2) fun _ => zb (f_X2_tally N x2 σ) fun v1 σ2 =>
    if x3 < v1 then
      (zl (gC 8 x0) fun _ => zb (f_X8_weighSets N x0 x1 σ2) fun v3 σ4 =>
      zl (gR 8 1 x0 σ4) fun v5 =>
      zb (f_J7_fill_53178 N v5 0 σ4) fun v6 σ7 =>
      zl (gC 2 x2) fun _ => zb (f_X2_firstFrom N x2 0 σ7) fun v8 σ9 =>
      zlp (F_X8_pick_37 N x0 x2 x3) N (v8, 0, σ9))
    else
      (some ((-1), σ2)))
set_option maxHeartbeats 4000000 in
set_option maxRecDepth 100000 in
theorem c_X8_pick (l : Launch) (D : va_G) (c : zC) (o : Nat) (g : zEp) (N : Nat) {x0 : Nat} {x1 : Nat} {x2 : Nat} {x3 : Int32} {σ : zS} {ρ : Int32 × zS} (h : f_X8_pick N x0 x1 x2 x3 σ = some ρ) : Met l yX8_pick zs_X8_pick (zr 10) (va_Pc [.ref (o + x0), .ref (o + x1), .ref (o + x2), .int x3] (zG D c o g σ)) (zQi D c o g ρ) 0 0 (zA o) := by
  refine zMetG (by decide) (Nat.le_of_ble_eq_true rfl) ?_
  intro p e s m below meth cd ⟨hx, hb, hr, hml, hown, hts, hlocks⟩ hP hK hE ls hl
  have hS : va_S (zA o) s.heap s.heap [] := va_S.rf
  have hl : lv_has ls 7 [(0, .ref (o + x0)), (1, .ref (o + x1)), (2, .ref (o + x2)), (3, .int x3)] := hl
  rw [f_X8_pick.eq_1] at h
  refine lv_iload_n (pc := 0) hx hb dX8_pick_0 rfl (lv_at hl 3 rfl) ?_
  refine lv_if_lt (pc := 1) (tgt := 12) hx hb dX8_pick_1 (by decide) (fun c1 => ?_) (fun c1 => ?_)
  · rw [if_pos c1] at h
    refine lv_iconst (pc := 12) (v := (-1)) hx hb dX8_pick_12 (by decide) ?_
    exact xreti (pc := 13) hx hb hr hlocks hP hK hE hS h dX8_pick_13
  · rw [if_neg c1] at h
    refine lv_iload_n (pc := 4) hx hb dX8_pick_4 rfl (lv_at hl 3 rfl) ?_
    refine lv_aload_n (pc := 5) hx hb dX8_pick_5 rfl (lv_at hl 2 rfl) ?_
    obtain ⟨_, hg, h⟩ := zl_some h
    obtain ⟨v1, σ2, hv, h⟩ := zb_some h
    refine xcallVi (pc := 6) (As := []) (rest := [.int x3]) ⟨hx, hb, hml, hown, hts⟩ (c_X2_tally l D c o g N hv) zc2 zV_X8_50 rfl zd_X2_tally ⟨Nat.le_of_ble_eq_true rfl, Nat.le_of_ble_eq_true rfl⟩ hK hP hE hS hg hl.1 rfl (Nat.le_of_ble_eq_true rfl) ⟨Nat.zero_le _, Nat.zero_le _⟩ dX8_pick_6 (fun H locs hP hS => ?_)
    refine lv_icmp_lt (pc := 9) (tgt := 14) hx hb dX8_pick_9 (by decide) (fun c1 => ?_) (fun c1 => ?_)
    · rw [if_pos c1] at h
      refine lv_aload_n (pc := 14) hx hb dX8_pick_14 rfl (lv_at hl 0 rfl) ?_
      refine lv_aload_n (pc := 15) hx hb dX8_pick_15 rfl (lv_at hl 1 rfl) ?_
      obtain ⟨_, hg, h⟩ := zl_some h
      obtain ⟨v3, σ4, hv, h⟩ := zb_some h
      refine xcallVv (pc := 16) (As := [.ref (o + x1)]) (rest := []) ⟨hx, hb, hml, hown, hts⟩ (c_X8_weighSets l D c o g N hv) zc8 zV_X8_33 rfl zd_X8_weighSets ⟨Nat.le_of_ble_eq_true rfl, Nat.le_of_ble_eq_true rfl⟩ hK hP hE hS hg hl.1 rfl (Nat.le_of_ble_eq_true rfl) ⟨Nat.zero_le _, Nat.zero_le _⟩ dX8_pick_16 (fun H locs hP hS => ?_)
      refine lv_aload_n (pc := 19) hx hb dX8_pick_19 rfl (lv_at hl 0 rfl) ?_
      obtain ⟨v5, hv, h⟩ := zl_some h
      refine xgR (pc := 20) (j := 1) zc8 hx hb hts hown hK hP hv rfl zf_X8_15 dX8_pick_20 ?_
      refine lv_iconst (pc := 23) (v := 0) hx hb dX8_pick_23 (by decide) ?_
      obtain ⟨v6, σ7, hv, h⟩ := zb_some h
      refine xcallSv (pc := 24) (As := [.ref (o + v5), .int 0]) (rest := []) ⟨hx, hb, hml, hown, hts⟩ (c_J7_fill_53178 l D c o g N hv) zT_X8_54 rfl zd_J7_fill_53178 ⟨Nat.le_of_ble_eq_true rfl, Nat.le_of_ble_eq_true rfl⟩ hK hP hE hS hl.1 rfl (Nat.le_of_ble_eq_true rfl) ⟨Nat.zero_le _, Nat.zero_le _⟩ dX8_pick_24 (fun H locs hP hS => ?_)
      refine lv_aload_n (pc := 27) hx hb dX8_pick_27 rfl (lv_at hl 2 rfl) ?_
      refine lv_iconst (pc := 28) (v := 0) hx hb dX8_pick_28 (by decide) ?_
      obtain ⟨_, hg, h⟩ := zl_some h
      obtain ⟨v8, σ9, hv, h⟩ := zb_some h
      refine xcallVi (pc := 29) (As := [.int 0]) (rest := []) ⟨hx, hb, hml, hown, hts⟩ (c_X2_firstFrom l D c o g N hv) zc2 zV_X8_37 rfl zd_X2_firstFrom ⟨Nat.le_of_ble_eq_true rfl, Nat.le_of_ble_eq_true rfl⟩ hK hP hE hS hg hl.1 rfl (Nat.le_of_ble_eq_true rfl) ⟨Nat.zero_le _, Nat.zero_le _⟩ dX8_pick_29 (fun H locs hP hS => ?_)
      refine lv_istore (pc := 32) (lv' := [(4, .int v8), (0, .ref (o + x0)), (1, .ref (o + x1)), (2, .ref (o + x2)), (3, .int x3)]) hx hb dX8_pick_32 hl (by decide) rfl (fun ls hl => ?_)
      refine lv_iconst (pc := 34) (v := 0) hx hb dX8_pick_34 (by decide) ?_
      refine lv_istore (pc := 35) (lv' := [(5, .int 0), (4, .int v8), (0, .ref (o + x0)), (1, .ref (o + x1)), (2, .ref (o + x2)), (3, .int x3)]) hx hb dX8_pick_35 hl (by decide) rfl (fun ls hl => ?_)
      have L37_10 : ∀ (n : Nat) (t : Int32 × Int32 × zS), zlp (F_X8_pick_37 N x0 x2 x3) n t = some ρ → ∀ (H : Heap) (locs : List Loc) (ls : Array Slot), zP D c o (zabs o (t.2.2)) H → va_S (zA o) s.heap H locs → lv_has ls 7 [(4, .int (t.1)), (5, .int (t.2.1)), (0, .ref (o + x0)), (2, .ref (o + x2)), (3, .int x3)] → W p l e (zr 10) s m (([.ref (o + x0), .ref (o + x1), .ref (o + x2), .int x3] : List Value).toArray) below meth cd H locs 0 0 (MQ below (zQi D c o g ρ) (([.ref (o + x0), .ref (o + x1), .ref (o + x2), .int x3] : List Value).toArray) s 0 0 (zA o)) (F0 m 37 ls []) := by
        refine zlp_ind (fun ag10 ih10 t h H locs ls hP hS hl => ?_)
        obtain ⟨x4_10, x5_10, σ10⟩ := t
        have hP : zP D c o (zabs o σ10) H := hP
        have hl : lv_has ls 7 [(4, .int x4_10), (5, .int x5_10), (0, .ref (o + x0)), (2, .ref (o + x2)), (3, .int x3)] := hl
        rw [F_X8_pick_37.eq_1] at h
        show W p l e (zr 10) s m (([.ref (o + x0), .ref (o + x1), .ref (o + x2), .int x3] : List Value).toArray) below meth cd H locs 0 0 (MQ below (zQi D c o g ρ) (([.ref (o + x0), .ref (o + x1), .ref (o + x2), .int x3] : List Value).toArray) s 0 0 (zA o)) (F0 m 37 ls [])
        refine lv_iload (pc := 37) hx hb dX8_pick_37 (lv_at hl 1 rfl) ?_
        refine lv_sipush (pc := 39) (v := 1024) hx hb dX8_pick_39 (by decide) ?_
        have hj107_11 : ∀ (σ11 : zS), J_X8_pick_107 N x0 x2 x3 σ11 = some ρ → ∀ (H : Heap) (locs : List Loc) (ls : Array Slot), zP D c o (zabs o σ11) H → va_S (zA o) s.heap H locs → lv_has ls 7 [(0, .ref (o + x0)), (2, .ref (o + x2)), (3, .int x3)] → W p l e (zr 10) s m (([.ref (o + x0), .ref (o + x1), .ref (o + x2), .int x3] : List Value).toArray) below meth cd H locs 0 0 (MQ below (zQi D c o g ρ) (([.ref (o + x0), .ref (o + x1), .ref (o + x2), .int x3] : List Value).toArray) s 0 0 (zA o)) (F0 m 107 ls []) := by
          intro σ11 h H locs ls hP hS hl
          rw [J_X8_pick_107.eq_1] at h
          refine lv_iload_n (pc := 107) hx hb dX8_pick_107 rfl (lv_at hl 2 rfl) ?_
          refine lv_istore (pc := 108) (lv' := [(5, .int x3), (0, .ref (o + x0)), (2, .ref (o + x2)), (3, .int x3)]) hx hb dX8_pick_108 hl (by decide) rfl (fun ls hl => ?_)
          refine lv_iconst (pc := 110) (v := 0) hx hb dX8_pick_110 (by decide) ?_
          refine lv_istore (pc := 111) (lv' := [(6, .int 0), (5, .int x3), (0, .ref (o + x0)), (2, .ref (o + x2)), (3, .int x3)]) hx hb dX8_pick_111 hl (by decide) rfl (fun ls hl => ?_)
          have L113_12 : ∀ (n : Nat) (t : Int32 × Int32 × zS), zlp (F_X8_pick_113 N x0 x2) n t = some ρ → ∀ (H : Heap) (locs : List Loc) (ls : Array Slot), zP D c o (zabs o (t.2.2)) H → va_S (zA o) s.heap H locs → lv_has ls 7 [(5, .int (t.1)), (6, .int (t.2.1)), (0, .ref (o + x0)), (2, .ref (o + x2))] → W p l e (zr 10) s m (([.ref (o + x0), .ref (o + x1), .ref (o + x2), .int x3] : List Value).toArray) below meth cd H locs 0 0 (MQ below (zQi D c o g ρ) (([.ref (o + x0), .ref (o + x1), .ref (o + x2), .int x3] : List Value).toArray) s 0 0 (zA o)) (F0 m 113 ls []) := by
            refine zlp_ind (fun ag12 ih12 t h H locs ls hP hS hl => ?_)
            obtain ⟨x5_12, x6_12, σ12⟩ := t
            have hP : zP D c o (zabs o σ12) H := hP
            have hl : lv_has ls 7 [(5, .int x5_12), (6, .int x6_12), (0, .ref (o + x0)), (2, .ref (o + x2))] := hl
            rw [F_X8_pick_113.eq_1] at h
            show W p l e (zr 10) s m (([.ref (o + x0), .ref (o + x1), .ref (o + x2), .int x3] : List Value).toArray) below meth cd H locs 0 0 (MQ below (zQi D c o g ρ) (([.ref (o + x0), .ref (o + x1), .ref (o + x2), .int x3] : List Value).toArray) s 0 0 (zA o)) (F0 m 113 ls [])
            refine lv_iload (pc := 113) hx hb dX8_pick_113 (lv_at hl 1 rfl) ?_
            refine lv_aload_n (pc := 115) hx hb dX8_pick_115 rfl (lv_at hl 2 rfl) ?_
            obtain ⟨v13, hv, h⟩ := zl_some h
            refine xgR (pc := 116) (j := 1) zc8 hx hb hts hown hK hP hv rfl zf_X8_15 dX8_pick_116 ?_
            obtain ⟨v14, hv, h⟩ := zl_some h
            refine xLI (pc := 119) hx hb hK hP hv dX8_pick_119 ?_
            refine lv_icmp_ge (pc := 120) (tgt := 163) hx hb dX8_pick_120 (by decide) (fun c1 => ?_) (fun c1 => ?_)
            · rw [if_pos c1] at h
              refine lv_iconst (pc := 163) (v := (-1)) hx hb dX8_pick_163 (by decide) ?_
              exact xreti (pc := 164) hx hb hr hlocks hP hK hE hS h dX8_pick_164
            · rw [if_neg c1] at h
              refine lv_iload (pc := 123) hx hb dX8_pick_123 (lv_at hl 0 rfl) ?_
              refine lv_aload_n (pc := 125) hx hb dX8_pick_125 rfl (lv_at hl 2 rfl) ?_
              obtain ⟨v15, hv, h⟩ := zl_some h
              refine xgR (pc := 126) (j := 1) zc8 hx hb hts hown hK hP hv rfl zf_X8_15 dX8_pick_126 ?_
              refine lv_iload (pc := 129) hx hb dX8_pick_129 (lv_at hl 1 rfl) ?_
              obtain ⟨v16, hv, h⟩ := zl_some h
              refine xaI (pc := 131) hx hb hK hP hv dX8_pick_131 ?_
              refine lv_icmp_ge (pc := 132) (tgt := 145) hx hb dX8_pick_132 (by decide) (fun c1 => ?_) (fun c1 => ?_)
              · rw [if_pos c1] at h
                refine lv_iload (pc := 145) hx hb dX8_pick_145 (lv_at hl 0 rfl) ?_
                refine lv_aload_n (pc := 147) hx hb dX8_pick_147 rfl (lv_at hl 2 rfl) ?_
                obtain ⟨v17, hv, h⟩ := zl_some h
                refine xgR (pc := 148) (j := 1) zc8 hx hb hts hown hK hP hv rfl zf_X8_15 dX8_pick_148 ?_
                refine lv_iload (pc := 151) hx hb dX8_pick_151 (lv_at hl 1 rfl) ?_
                obtain ⟨v18, hv, h⟩ := zl_some h
                refine xaI (pc := 153) hx hb hK hP hv dX8_pick_153 ?_
                refine lv_isub (pc := 154) hx hb dX8_pick_154 ?_
                refine lv_istore (pc := 155) (lv' := [(5, .int (x5_12 - v18)), (6, .int x6_12), (0, .ref (o + x0)), (2, .ref (o + x2))]) hx hb dX8_pick_155 hl (by decide) rfl (fun ls hl => ?_)
                refine lv_iinc (pc := 157) (v := x6_12 + 1) (lv' := [(6, .int (x6_12 + 1)), (5, .int (x5_12 - v18)), (0, .ref (o + x0)), (2, .ref (o + x2))]) hx hb dX8_pick_157 hl (k := 1) rfl rfl (by decide) rfl (fun ls hl => ?_)
                refine lv_goto (pc := 160) (tgt := 113) hx hb dX8_pick_160 (by decide) ?_
                exact ih12 (x5_12 - v18, x6_12 + 1, σ12) h _ _ ls hP hS (lv_sub hl [1, 0, 2, 3] rfl)
              · rw [if_neg c1] at h
                refine lv_aload_n (pc := 135) hx hb dX8_pick_135 rfl (lv_at hl 2 rfl) ?_
                refine lv_aload_n (pc := 136) hx hb dX8_pick_136 rfl (lv_at hl 3 rfl) ?_
                refine lv_iload (pc := 137) hx hb dX8_pick_137 (lv_at hl 1 rfl) ?_
                refine lv_iload (pc := 139) hx hb dX8_pick_139 (lv_at hl 0 rfl) ?_
                obtain ⟨_, hg, h⟩ := zl_some h
                obtain ⟨v19, σ20, hv, h⟩ := zb_some h
                refine xcallVi (pc := 141) (As := [.ref (o + x2), .int x6_12, .int x5_12]) (rest := []) ⟨hx, hb, hml, hown, hts⟩ (c_X8_pickOfLoad l D c o g N hv) zc8 zV_X8_60 rfl zd_X8_pickOfLoad ⟨Nat.le_of_ble_eq_true rfl, Nat.le_of_ble_eq_true rfl⟩ hK hP hE hS hg hl.1 rfl (Nat.le_of_ble_eq_true rfl) ⟨Nat.zero_le _, Nat.zero_le _⟩ dX8_pick_141 (fun H locs hP hS => ?_)
                exact xreti (pc := 144) hx hb hr hlocks hP hK hE hS h dX8_pick_144
          exact L113_12 N (x3, 0, σ11) h _ _ ls hP hS (lv_sub hl [1, 0, 2, 3] rfl)
        refine lv_icmp_ge (pc := 42) (tgt := 107) hx hb dX8_pick_42 (by decide) (fun c1 => ?_) (fun c1 => ?_)
        · rw [if_pos c1] at h
          exact hj107_11 σ10 h _ _ ls hP hS (lv_sub hl [2, 3, 4] rfl)
        · rw [if_neg c1] at h
          refine lv_iload (pc := 45) hx hb dX8_pick_45 (lv_at hl 0 rfl) ?_
          refine lv_if_lt (pc := 47) (tgt := 107) hx hb dX8_pick_47 (by decide) (fun c1 => ?_) (fun c1 => ?_)
          · rw [if_pos c1] at h
            exact hj107_11 σ10 h _ _ ls hP hS (lv_sub hl [2, 3, 4] rfl)
          · rw [if_neg c1] at h
            refine lv_aload_n (pc := 50) hx hb dX8_pick_50 rfl (lv_at hl 2 rfl) ?_
            obtain ⟨v21, hv, h⟩ := zl_some h
            refine xgR (pc := 51) (j := 0) zc8 hx hb hts hown hK hP hv rfl zf_X8_9 dX8_pick_51 ?_
            refine lv_iload (pc := 54) hx hb dX8_pick_54 (lv_at hl 0 rfl) ?_
            obtain ⟨v22, hv, h⟩ := zl_some h
            refine xaI (pc := 56) hx hb hK hP hv dX8_pick_56 ?_
            refine lv_if_lt (pc := 57) (tgt := 91) hx hb dX8_pick_57 (by decide) (fun c1 => ?_) (fun c1 => ?_)
            · rw [if_pos c1] at h
              refine lv_aload_n (pc := 91) hx hb dX8_pick_91 rfl (lv_at hl 3 rfl) ?_
              refine lv_iload (pc := 92) hx hb dX8_pick_92 (lv_at hl 0 rfl) ?_
              refine lv_iconst (pc := 94) (v := 1) hx hb dX8_pick_94 (by decide) ?_
              refine lv_iadd (pc := 95) hx hb dX8_pick_95 ?_
              obtain ⟨_, hg, h⟩ := zl_some h
              obtain ⟨v23, σ24, hv, h⟩ := zb_some h
              refine xcallVi (pc := 96) (As := [.int (x4_10 + 1)]) (rest := []) ⟨hx, hb, hml, hown, hts⟩ (c_X2_firstFrom l D c o g N hv) zc2 zV_X8_37 rfl zd_X2_firstFrom ⟨Nat.le_of_ble_eq_true rfl, Nat.le_of_ble_eq_true rfl⟩ hK hP hE hS hg hl.1 rfl (Nat.le_of_ble_eq_true rfl) ⟨Nat.zero_le _, Nat.zero_le _⟩ dX8_pick_96 (fun H locs hP hS => ?_)
              refine lv_istore (pc := 99) (lv' := [(4, .int v23), (5, .int x5_10), (0, .ref (o + x0)), (2, .ref (o + x2)), (3, .int x3)]) hx hb dX8_pick_99 hl (by decide) rfl (fun ls hl => ?_)
              refine lv_iinc (pc := 101) (v := x5_10 + 1) (lv' := [(5, .int (x5_10 + 1)), (4, .int v23), (0, .ref (o + x0)), (2, .ref (o + x2)), (3, .int x3)]) hx hb dX8_pick_101 hl (k := 1) rfl rfl (by decide) rfl (fun ls hl => ?_)
              refine lv_goto (pc := 104) (tgt := 37) hx hb dX8_pick_104 (by decide) ?_
              exact ih10 (v23, x5_10 + 1, σ24) h _ _ ls hP hS (lv_sub hl [1, 0, 2, 3, 4] rfl)
            · rw [if_neg c1] at h
              refine lv_aload_n (pc := 60) hx hb dX8_pick_60 rfl (lv_at hl 2 rfl) ?_
              obtain ⟨v25, hv, h⟩ := zl_some h
              refine xgR (pc := 61) (j := 0) zc8 hx hb hts hown hK hP hv rfl zf_X8_9 dX8_pick_61 ?_
              refine lv_iload (pc := 64) hx hb dX8_pick_64 (lv_at hl 0 rfl) ?_
              obtain ⟨v26, hv, h⟩ := zl_some h
              refine xaI (pc := 66) hx hb hK hP hv dX8_pick_66 ?_
              refine lv_aload_n (pc := 67) hx hb dX8_pick_67 rfl (lv_at hl 2 rfl) ?_
              obtain ⟨v27, hv, h⟩ := zl_some h
              refine xgR (pc := 68) (j := 1) zc8 hx hb hts hown hK hP hv rfl zf_X8_15 dX8_pick_68 ?_
              obtain ⟨v28, hv, h⟩ := zl_some h
              refine xLI (pc := 71) hx hb hK hP hv dX8_pick_71 ?_
              refine lv_icmp_ge (pc := 72) (tgt := 91) hx hb dX8_pick_72 (by decide) (fun c1 => ?_) (fun c1 => ?_)
              · rw [if_pos c1] at h
                refine lv_aload_n (pc := 91) hx hb dX8_pick_91 rfl (lv_at hl 3 rfl) ?_
                refine lv_iload (pc := 92) hx hb dX8_pick_92 (lv_at hl 0 rfl) ?_
                refine lv_iconst (pc := 94) (v := 1) hx hb dX8_pick_94 (by decide) ?_
                refine lv_iadd (pc := 95) hx hb dX8_pick_95 ?_
                obtain ⟨_, hg, h⟩ := zl_some h
                obtain ⟨v29, σ30, hv, h⟩ := zb_some h
                refine xcallVi (pc := 96) (As := [.int (x4_10 + 1)]) (rest := []) ⟨hx, hb, hml, hown, hts⟩ (c_X2_firstFrom l D c o g N hv) zc2 zV_X8_37 rfl zd_X2_firstFrom ⟨Nat.le_of_ble_eq_true rfl, Nat.le_of_ble_eq_true rfl⟩ hK hP hE hS hg hl.1 rfl (Nat.le_of_ble_eq_true rfl) ⟨Nat.zero_le _, Nat.zero_le _⟩ dX8_pick_96 (fun H locs hP hS => ?_)
                refine lv_istore (pc := 99) (lv' := [(4, .int v29), (5, .int x5_10), (0, .ref (o + x0)), (2, .ref (o + x2)), (3, .int x3)]) hx hb dX8_pick_99 hl (by decide) rfl (fun ls hl => ?_)
                refine lv_iinc (pc := 101) (v := x5_10 + 1) (lv' := [(5, .int (x5_10 + 1)), (4, .int v29), (0, .ref (o + x0)), (2, .ref (o + x2)), (3, .int x3)]) hx hb dX8_pick_101 hl (k := 1) rfl rfl (by decide) rfl (fun ls hl => ?_)
                refine lv_goto (pc := 104) (tgt := 37) hx hb dX8_pick_104 (by decide) ?_
                exact ih10 (v29, x5_10 + 1, σ30) h _ _ ls hP hS (lv_sub hl [1, 0, 2, 3, 4] rfl)
              · rw [if_neg c1] at h
                refine lv_aload_n (pc := 75) hx hb dX8_pick_75 rfl (lv_at hl 2 rfl) ?_
                obtain ⟨v31, hv, h⟩ := zl_some h
                refine xgR (pc := 76) (j := 1) zc8 hx hb hts hown hK hP hv rfl zf_X8_15 dX8_pick_76 ?_
                refine lv_aload_n (pc := 79) hx hb dX8_pick_79 rfl (lv_at hl 2 rfl) ?_
                obtain ⟨v32, hv, h⟩ := zl_some h
                refine xgR (pc := 80) (j := 0) zc8 hx hb hts hown hK hP hv rfl zf_X8_9 dX8_pick_80 ?_
                refine lv_iload (pc := 83) hx hb dX8_pick_83 (lv_at hl 0 rfl) ?_
                obtain ⟨v33, hv, h⟩ := zl_some h
                refine xaI (pc := 85) hx hb hK hP hv dX8_pick_85 ?_
                refine lv_dup2_11 (pc := 86) hx hb dX8_pick_86 rfl rfl ?_
                obtain ⟨v34, hv, h⟩ := zl_some h
                refine xaI (pc := 87) hx hb hK hP hv dX8_pick_87 ?_
                refine lv_iconst (pc := 88) (v := 1) hx hb dX8_pick_88 (by decide) ?_
                refine lv_iadd (pc := 89) hx hb dX8_pick_89 ?_
                obtain ⟨σ35, hv, h⟩ := zl_some h
                refine xsI (pc := 90) hx hb hK hP hS hv dX8_pick_90 (fun H locs hP hS => ?_)
                refine lv_aload_n (pc := 91) hx hb dX8_pick_91 rfl (lv_at hl 3 rfl) ?_
                refine lv_iload (pc := 92) hx hb dX8_pick_92 (lv_at hl 0 rfl) ?_
                refine lv_iconst (pc := 94) (v := 1) hx hb dX8_pick_94 (by decide) ?_
                refine lv_iadd (pc := 95) hx hb dX8_pick_95 ?_
                obtain ⟨_, hg, h⟩ := zl_some h
                obtain ⟨v36, σ37, hv, h⟩ := zb_some h
                refine xcallVi (pc := 96) (As := [.int (x4_10 + 1)]) (rest := []) ⟨hx, hb, hml, hown, hts⟩ (c_X2_firstFrom l D c o g N hv) zc2 zV_X8_37 rfl zd_X2_firstFrom ⟨Nat.le_of_ble_eq_true rfl, Nat.le_of_ble_eq_true rfl⟩ hK hP hE hS hg hl.1 rfl (Nat.le_of_ble_eq_true rfl) ⟨Nat.zero_le _, Nat.zero_le _⟩ dX8_pick_96 (fun H locs hP hS => ?_)
                refine lv_istore (pc := 99) (lv' := [(4, .int v36), (5, .int x5_10), (0, .ref (o + x0)), (2, .ref (o + x2)), (3, .int x3)]) hx hb dX8_pick_99 hl (by decide) rfl (fun ls hl => ?_)
                refine lv_iinc (pc := 101) (v := x5_10 + 1) (lv' := [(5, .int (x5_10 + 1)), (4, .int v36), (0, .ref (o + x0)), (2, .ref (o + x2)), (3, .int x3)]) hx hb dX8_pick_101 hl (k := 1) rfl rfl (by decide) rfl (fun ls hl => ?_)
                refine lv_goto (pc := 104) (tgt := 37) hx hb dX8_pick_104 (by decide) ?_
                exact ih10 (v36, x5_10 + 1, σ37) h _ _ ls hP hS (lv_sub hl [1, 0, 2, 3, 4] rfl)
      exact L37_10 N (v8, 0, σ9) h _ _ ls hP hS (lv_sub hl [1, 0, 2, 4, 5] rfl)
    · rw [if_neg c1] at h
      refine lv_iconst (pc := 12) (v := (-1)) hx hb dX8_pick_12 (by decide) ?_
      exact xreti (pc := 13) hx hb hr hlocks hP hK hE hS h dX8_pick_13
def f_X9_isBare (N : Nat) (x0 : Nat) (σ : zS) : Option (Int32 × zS) :=
  zl (gI 9 2 x0 σ) fun v1 =>
  if 0 ≤ v1 then
    (rZ 0 σ)
  else
    (rZ 1 σ)
set_option maxHeartbeats 4000000 in
set_option maxRecDepth 100000 in
theorem c_X9_isBare (l : Launch) (D : va_G) (c : zC) (o : Nat) (g : zEp) (N : Nat) {x0 : Nat} {σ : zS} {ρ : Int32 × zS} (h : f_X9_isBare N x0 σ = some ρ) : Met l yX9_isBare zs_X9_isBare (zr 2) (va_Pc [.ref (o + x0)] (zG D c o g σ)) (zQi D c o g ρ) 0 0 (zA o) := by
  refine zMetG (by decide) (Nat.le_of_ble_eq_true rfl) ?_
  intro p e s m below meth cd ⟨hx, hb, hr, hml, hown, hts, hlocks⟩ hP hK hE ls hl
  have hS : va_S (zA o) s.heap s.heap [] := va_S.rf
  have hl : lv_has ls 1 [(0, .ref (o + x0))] := hl
  rw [f_X9_isBare.eq_1] at h
  refine lv_aload_n (pc := 0) hx hb dX9_isBare_0 rfl (lv_at hl 0 rfl) ?_
  obtain ⟨v1, hv, h⟩ := zl_some h
  refine xgI (pc := 1) (j := 2) zc9 hx hb hts hown hK hP hv rfl zf_X9_19 dX9_isBare_1 ?_
  refine lv_if_ge (pc := 4) (tgt := 11) hx hb dX9_isBare_4 (by decide) (fun c1 => ?_) (fun c1 => ?_)
  · rw [if_pos c1] at h
    refine lv_iconst (pc := 11) (v := 0) hx hb dX9_isBare_11 (by decide) ?_
    exact xretz (pc := 12) hx hb hr hlocks hP hK hE hS h dX9_isBare_12
  · rw [if_neg c1] at h
    refine lv_iconst (pc := 7) (v := 1) hx hb dX9_isBare_7 (by decide) ?_
    refine lv_goto (pc := 8) (tgt := 12) hx hb dX9_isBare_8 (by decide) ?_
    exact xretz (pc := 12) hx hb hr hlocks hP hK hE hS h dX9_isBare_12
def f_X9_start (N : Nat) (x0 : Nat) (x1 : Int32) (x2 : Int32) (σ : zS) : Option (Unit × zS) :=
  zl (gR 9 0 x0 σ) fun v1 =>
  zb (f_J7_fill_d0a16 N v1 0 σ) fun v2 σ3 =>
  zl (pI 9 1 x0 x1 σ3) fun σ4 =>
  zl (pI 9 2 x0 (zmin 60 x2) σ4) fun σ5 =>
  some ((), σ5)
set_option maxHeartbeats 4000000 in
set_option maxRecDepth 100000 in
theorem c_X9_start (l : Launch) (D : va_G) (c : zC) (o : Nat) (g : zEp) (N : Nat) {x0 : Nat} {x1 : Int32} {x2 : Int32} {σ : zS} {ρ : Unit × zS} (h : f_X9_start N x0 x1 x2 σ = some ρ) : Met l yX9_start zs_X9_start (zr 4) (va_Pc [.ref (o + x0), .int x1, .int x2] (zG D c o g σ)) (zQu D c o g ρ) 0 0 (zA o) := by
  refine zMetG (by decide) (Nat.le_of_ble_eq_true rfl) ?_
  intro p e s m below meth cd ⟨hx, hb, hr, hml, hown, hts, hlocks⟩ hP hK hE ls hl
  have hS : va_S (zA o) s.heap s.heap [] := va_S.rf
  have hl : lv_has ls 3 [(0, .ref (o + x0)), (1, .int x1), (2, .int x2)] := hl
  rw [f_X9_start.eq_1] at h
  refine lv_aload_n (pc := 0) hx hb dX9_start_0 rfl (lv_at hl 0 rfl) ?_
  obtain ⟨v1, hv, h⟩ := zl_some h
  refine xgR (pc := 1) (j := 0) zc9 hx hb hts hown hK hP hv rfl zf_X9_9 dX9_start_1 ?_
  refine lv_lconst (pc := 4) (v := 0) hx hb dX9_start_4 (by decide) ?_
  obtain ⟨v2, σ3, hv, h⟩ := zb_some h
  refine xcallSv (pc := 5) (As := [.ref (o + v1), .long 0]) (rest := []) ⟨hx, hb, hml, hown, hts⟩ (c_J7_fill_d0a16 l D c o g N hv) zT_X9_22 rfl zd_J7_fill_d0a16 ⟨Nat.le_of_ble_eq_true rfl, Nat.le_of_ble_eq_true rfl⟩ hK hP hE hS hl.1 rfl (Nat.le_of_ble_eq_true rfl) ⟨Nat.zero_le _, Nat.zero_le _⟩ dX9_start_5 (fun H locs hP hS => ?_)
  refine lv_aload_n (pc := 8) hx hb dX9_start_8 rfl (lv_at hl 0 rfl) ?_
  refine lv_iload_n (pc := 9) hx hb dX9_start_9 rfl (lv_at hl 1 rfl) ?_
  obtain ⟨σ4, hv, h⟩ := zl_some h
  refine xpI (pc := 10) (j := 1) zc9 hx hb hts hown hK hP hS hv rfl rfl rfl zf_X9_15 dX9_start_10 (fun H locs hP hS => ?_)
  refine lv_aload_n (pc := 13) hx hb dX9_start_13 rfl (lv_at hl 0 rfl) ?_
  refine lv_bipush (pc := 14) (v := 60) hx hb dX9_start_14 (by decide) ?_
  refine lv_iload_n (pc := 16) hx hb dX9_start_16 rfl (lv_at hl 2 rfl) ?_
  refine xmin (pc := 17) (rest := [.ref (o + x0)]) hx hb (hml.trans hl.1.symm) hown (hts _ zm_X9_28) (hts _ zst_J9_min_7cf53) (hts _ zn_J9) (hts _ (zq_J9_min_7cf53 _ List.mem_cons_self).1) (Nat.le_of_ble_eq_true rfl) (Nat.le_of_ble_eq_true rfl) (Nat.zero_le _) (Nat.zero_le _) dX9_start_17 ?_
  obtain ⟨σ5, hv, h⟩ := zl_some h
  refine xpI (pc := 20) (j := 2) zc9 hx hb hts hown hK hP hS hv rfl rfl rfl zf_X9_19 dX9_start_20 (fun H locs hP hS => ?_)
  exact xretv (pc := 23) hx hb hr hlocks hP hK hE hS h dX9_start_23
def f_X9_cut (N : Nat) (x0 : Nat) (x1 : Int64) (σ : zS) : Option (Int64 × zS) :=
  zl (gI 9 1 x0 σ) fun v1 =>
  if v1 = 0 then
    (some (Int32.toInt64 ((Int32.toInt8 (Int64.toInt32 x1)).toInt32), σ))
  else if v1 = 1 then
    (some (Int32.toInt64 ((Int32.toInt16 (Int64.toInt32 x1)).toInt32), σ))
  else if v1 = 2 then
    (some (Int32.toInt64 (Int64.toInt32 x1), σ))
  else (some (x1, σ))
set_option maxHeartbeats 4000000 in
set_option maxRecDepth 100000 in
theorem c_X9_cut (l : Launch) (D : va_G) (c : zC) (o : Nat) (g : zEp) (N : Nat) {x0 : Nat} {x1 : Int64} {σ : zS} {ρ : Int64 × zS} (h : f_X9_cut N x0 x1 σ = some ρ) : Met l yX9_cut zs_X9_cut (zr 2) (va_Pc [.ref (o + x0), .long x1] (zG D c o g σ)) (zQl D c o g ρ) 0 0 (zA o) := by
  refine zMetG (by decide) (Nat.le_of_ble_eq_true rfl) ?_
  intro p e s m below meth cd ⟨hx, hb, hr, hml, hown, hts, hlocks⟩ hP hK hE ls hl
  have hS : va_S (zA o) s.heap s.heap [] := va_S.rf
  have hl : lv_has ls 3 [(0, .ref (o + x0)), (1, .long x1)] := hl
  rw [f_X9_cut.eq_1] at h
  refine lv_aload_n (pc := 0) hx hb dX9_cut_0 rfl (lv_at hl 0 rfl) ?_
  obtain ⟨v1, hv, h⟩ := zl_some h
  refine xgI (pc := 1) (j := 1) zc9 hx hb hts hown hK hP hv rfl zf_X9_15 dX9_cut_1 ?_
  by_cases w0_4 : v1 = 0
  · rw [if_pos w0_4] at h
    refine lv_tableIn (pc := 4) (tgt := 32) hx hb dX9_cut_4 (by rw [w0_4]; decide) (by rw [w0_4]; decide) (by rw [w0_4]; rfl) (by decide) ?_
    refine lv_lload_n (pc := 32) hx hb dX9_cut_32 rfl (lv_at hl 1 rfl) ?_
    refine lv_l2i (pc := 33) hx hb dX9_cut_33 rfl ?_
    refine lv_i2b (pc := 34) hx hb dX9_cut_34 rfl ?_
    refine lv_i2l (pc := 35) hx hb dX9_cut_35 rfl ?_
    exact xretl (pc := 36) hx hb hr hlocks hP hK hE hS h dX9_cut_36
  rw [if_neg w0_4] at h
  by_cases w1_4 : v1 = 1
  · rw [if_pos w1_4] at h
    refine lv_tableIn (pc := 4) (tgt := 37) hx hb dX9_cut_4 (by rw [w1_4]; decide) (by rw [w1_4]; decide) (by rw [w1_4]; rfl) (by decide) ?_
    refine lv_lload_n (pc := 37) hx hb dX9_cut_37 rfl (lv_at hl 1 rfl) ?_
    refine lv_l2i (pc := 38) hx hb dX9_cut_38 rfl ?_
    refine lv_i2s (pc := 39) hx hb dX9_cut_39 rfl ?_
    refine lv_i2l (pc := 40) hx hb dX9_cut_40 rfl ?_
    exact xretl (pc := 41) hx hb hr hlocks hP hK hE hS h dX9_cut_41
  rw [if_neg w1_4] at h
  by_cases w2_4 : v1 = 2
  · rw [if_pos w2_4] at h
    refine lv_tableIn (pc := 4) (tgt := 42) hx hb dX9_cut_4 (by rw [w2_4]; decide) (by rw [w2_4]; decide) (by rw [w2_4]; rfl) (by decide) ?_
    refine lv_lload_n (pc := 42) hx hb dX9_cut_42 rfl (lv_at hl 1 rfl) ?_
    refine lv_l2i (pc := 43) hx hb dX9_cut_43 rfl ?_
    refine lv_i2l (pc := 44) hx hb dX9_cut_44 rfl ?_
    exact xretl (pc := 45) hx hb hr hlocks hP hK hE hS h dX9_cut_45
  rw [if_neg w2_4] at h
  have wo_4 : v1.toInt < 0 ∨ 2 < v1.toInt := by
    have q0 := lv_neT w0_4 (a := 0) rfl; have q1 := lv_neT w1_4 (a := 1) rfl; have q2 := lv_neT w2_4 (a := 2) rfl
    omega
  refine lv_tableOut (pc := 4) (tgt := 46) hx hb dX9_cut_4 wo_4 (by decide) ?_
  refine lv_lload_n (pc := 46) hx hb dX9_cut_46 rfl (lv_at hl 1 rfl) ?_
  exact xretl (pc := 47) hx hb hr hlocks hP hK hE hS h dX9_cut_47
def f_X9_spans (N : Nat) (x0 : Nat) (x1 : Int32) (x2 : Int32) (σ : zS) : Option (Int32 × zS) :=
  if x1 < 0 then
    (rZ 0 σ)
  else
    (if x2 < 0 then
      (rZ 0 σ)
    else
      (zl (gI 9 2 x0 σ) fun v1 =>
      if 0 < (lg_cmp ((Int32.toInt64 x1) + (Int32.toInt64 x2)) (Int32.toInt64 v1)) then
        (rZ 0 σ)
      else
        (rZ 1 σ)))
set_option maxHeartbeats 4000000 in
set_option maxRecDepth 100000 in
theorem c_X9_spans (l : Launch) (D : va_G) (c : zC) (o : Nat) (g : zEp) (N : Nat) {x0 : Nat} {x1 : Int32} {x2 : Int32} {σ : zS} {ρ : Int32 × zS} (h : f_X9_spans N x0 x1 x2 σ = some ρ) : Met l yX9_spans zs_X9_spans (zr 2) (va_Pc [.ref (o + x0), .int x1, .int x2] (zG D c o g σ)) (zQi D c o g ρ) 0 0 (zA o) := by
  refine zMetG (by decide) (Nat.le_of_ble_eq_true rfl) ?_
  intro p e s m below meth cd ⟨hx, hb, hr, hml, hown, hts, hlocks⟩ hP hK hE ls hl
  have hS : va_S (zA o) s.heap s.heap [] := va_S.rf
  have hl : lv_has ls 3 [(0, .ref (o + x0)), (1, .int x1), (2, .int x2)] := hl
  rw [f_X9_spans.eq_1] at h
  refine lv_iload_n (pc := 0) hx hb dX9_spans_0 rfl (lv_at hl 1 rfl) ?_
  refine lv_if_lt (pc := 1) (tgt := 26) hx hb dX9_spans_1 (by decide) (fun c1 => ?_) (fun c1 => ?_)
  · rw [if_pos c1] at h
    refine lv_iconst (pc := 26) (v := 0) hx hb dX9_spans_26 (by decide) ?_
    exact xretz (pc := 27) hx hb hr hlocks hP hK hE hS h dX9_spans_27
  · rw [if_neg c1] at h
    refine lv_iload_n (pc := 4) hx hb dX9_spans_4 rfl (lv_at hl 2 rfl) ?_
    refine lv_if_lt (pc := 5) (tgt := 26) hx hb dX9_spans_5 (by decide) (fun c1 => ?_) (fun c1 => ?_)
    · rw [if_pos c1] at h
      refine lv_iconst (pc := 26) (v := 0) hx hb dX9_spans_26 (by decide) ?_
      exact xretz (pc := 27) hx hb hr hlocks hP hK hE hS h dX9_spans_27
    · rw [if_neg c1] at h
      refine lv_iload_n (pc := 8) hx hb dX9_spans_8 rfl (lv_at hl 1 rfl) ?_
      refine lv_i2l (pc := 9) hx hb dX9_spans_9 rfl ?_
      refine lv_iload_n (pc := 10) hx hb dX9_spans_10 rfl (lv_at hl 2 rfl) ?_
      refine lv_i2l (pc := 11) hx hb dX9_spans_11 rfl ?_
      refine lv_ladd (pc := 12) hx hb dX9_spans_12 ?_
      refine lv_aload_n (pc := 13) hx hb dX9_spans_13 rfl (lv_at hl 0 rfl) ?_
      obtain ⟨v1, hv, h⟩ := zl_some h
      refine xgI (pc := 14) (j := 2) zc9 hx hb hts hown hK hP hv rfl zf_X9_19 dX9_spans_14 ?_
      refine lv_i2l (pc := 17) hx hb dX9_spans_17 rfl ?_
      refine W.lcmp (pc := 18) hx hb dX9_spans_18 ?_
      refine lv_if_gt (pc := 19) (tgt := 26) hx hb dX9_spans_19 (by decide) (fun c1 => ?_) (fun c1 => ?_)
      · rw [if_pos c1] at h
        refine lv_iconst (pc := 26) (v := 0) hx hb dX9_spans_26 (by decide) ?_
        exact xretz (pc := 27) hx hb hr hlocks hP hK hE hS h dX9_spans_27
      · rw [if_neg c1] at h
        refine lv_iconst (pc := 22) (v := 1) hx hb dX9_spans_22 (by decide) ?_
        refine lv_goto (pc := 23) (tgt := 27) hx hb dX9_spans_23 (by decide) ?_
        exact xretz (pc := 27) hx hb hr hlocks hP hK hE hS h dX9_spans_27
def F_X10_clear_45 (N : Nat) (x0 : Nat) (again45 : (Int32 × zS) → Option (Unit × zS)) : Int32 × zS → Option (Unit × zS)
  | (x1, σ) =>
  if 10 ≤ x1 then
    (some ((), σ))
  else
    (zl (gR 10 7 x0 σ) fun v4 =>
    zl (aR 17 v4 x1 σ) fun v5 =>
    zl (gC 2 v5) fun _ => zb (f_X2_clear N v5 σ) fun v6 σ7 =>
    again45 (x1 + 1, σ7))
def F_X10_clear_17 (N : Nat) (x0 : Nat) (again17 : (Int32 × zS) → Option (Unit × zS)) : Int32 × zS → Option (Unit × zS)
  | (x1, σ) =>
  if 10 ≤ x1 then
    (zlp (F_X10_clear_45 N x0) N (0, σ))
  else
    (zl (gR 10 5 x0 σ) fun v8 =>
    zl (sI 14 v8 x1 1 σ) fun σ9 =>
    zl (gR 10 6 x0 σ9) fun v10 =>
    zl (sI 14 v10 x1 x1 σ9) fun σ11 =>
    again17 (x1 + 1, σ11))
def f_X10_clear (N : Nat) (x0 : Nat) (σ : zS) : Option (Unit × zS) :=
  zl (pI 10 0 x0 0 σ) fun σ1 =>
  zl (pI 10 1 x0 0 σ1) fun σ2 =>
  zl (pI 10 2 x0 0 σ2) fun σ3 =>
  zlp (F_X10_clear_17 N x0) N (0, σ3)
set_option maxHeartbeats 4000000 in
set_option maxRecDepth 100000 in
theorem c_X10_clear (l : Launch) (D : va_G) (c : zC) (o : Nat) (g : zEp) (N : Nat) {x0 : Nat} {σ : zS} {ρ : Unit × zS} (h : f_X10_clear N x0 σ = some ρ) : Met l yX10_clear zs_X10_clear (zr 6) (va_Pc [.ref (o + x0)] (zG D c o g σ)) (zQu D c o g ρ) 0 0 (zA o) := by
  refine zMetG (by decide) (Nat.le_of_ble_eq_true rfl) ?_
  intro p e s m below meth cd ⟨hx, hb, hr, hml, hown, hts, hlocks⟩ hP hK hE ls hl
  have hS : va_S (zA o) s.heap s.heap [] := va_S.rf
  have hl : lv_has ls 2 [(0, .ref (o + x0))] := hl
  rw [f_X10_clear.eq_1] at h
  refine lv_aload_n (pc := 0) hx hb dX10_clear_0 rfl (lv_at hl 0 rfl) ?_
  refine lv_iconst (pc := 1) (v := 0) hx hb dX10_clear_1 (by decide) ?_
  obtain ⟨σ1, hv, h⟩ := zl_some h
  refine xpI (pc := 2) (j := 0) zc10 hx hb hts hown hK hP hS hv rfl rfl rfl zf_X10_9 dX10_clear_2 (fun H locs hP hS => ?_)
  refine lv_aload_n (pc := 5) hx hb dX10_clear_5 rfl (lv_at hl 0 rfl) ?_
  refine lv_iconst (pc := 6) (v := 0) hx hb dX10_clear_6 (by decide) ?_
  obtain ⟨σ2, hv, h⟩ := zl_some h
  refine xpI (pc := 7) (j := 1) zc10 hx hb hts hown hK hP hS hv rfl rfl rfl zf_X10_15 dX10_clear_7 (fun H locs hP hS => ?_)
  refine lv_aload_n (pc := 10) hx hb dX10_clear_10 rfl (lv_at hl 0 rfl) ?_
  refine lv_iconst (pc := 11) (v := 0) hx hb dX10_clear_11 (by decide) ?_
  obtain ⟨σ3, hv, h⟩ := zl_some h
  refine xpI (pc := 12) (j := 2) zc10 hx hb hts hown hK hP hS hv rfl rfl rfl zf_X10_18 dX10_clear_12 (fun H locs hP hS => ?_)
  refine lv_iconst (pc := 15) (v := 0) hx hb dX10_clear_15 (by decide) ?_
  refine lv_istore_n (pc := 16) (lv' := [(1, .int 0), (0, .ref (o + x0))]) hx hb dX10_clear_16 rfl hl (by decide) rfl (fun ls hl => ?_)
  have L17_4 : ∀ (n : Nat) (t : Int32 × zS), zlp (F_X10_clear_17 N x0) n t = some ρ → ∀ (H : Heap) (locs : List Loc) (ls : Array Slot), zP D c o (zabs o (t.2)) H → va_S (zA o) s.heap H locs → lv_has ls 2 [(1, .int (t.1)), (0, .ref (o + x0))] → W p l e (zr 6) s m (([.ref (o + x0)] : List Value).toArray) below meth cd H locs 0 0 (MQ below (zQu D c o g ρ) (([.ref (o + x0)] : List Value).toArray) s 0 0 (zA o)) (F0 m 17 ls []) := by
    refine zlp_ind (fun ag4 ih4 t h H locs ls hP hS hl => ?_)
    obtain ⟨x1_4, σ4⟩ := t
    have hP : zP D c o (zabs o σ4) H := hP
    have hl : lv_has ls 2 [(1, .int x1_4), (0, .ref (o + x0))] := hl
    rw [F_X10_clear_17.eq_1] at h
    show W p l e (zr 6) s m (([.ref (o + x0)] : List Value).toArray) below meth cd H locs 0 0 (MQ below (zQu D c o g ρ) (([.ref (o + x0)] : List Value).toArray) s 0 0 (zA o)) (F0 m 17 ls [])
    refine lv_iload_n (pc := 17) hx hb dX10_clear_17 rfl (lv_at hl 0 rfl) ?_
    refine lv_bipush (pc := 18) (v := 10) hx hb dX10_clear_18 (by decide) ?_
    refine lv_icmp_ge (pc := 20) (tgt := 43) hx hb dX10_clear_20 (by decide) (fun c1 => ?_) (fun c1 => ?_)
    · rw [if_pos c1] at h
      refine lv_iconst (pc := 43) (v := 0) hx hb dX10_clear_43 (by decide) ?_
      refine lv_istore_n (pc := 44) (lv' := [(1, .int 0), (0, .ref (o + x0))]) hx hb dX10_clear_44 rfl hl (by decide) rfl (fun ls hl => ?_)
      have L45_5 : ∀ (n : Nat) (t : Int32 × zS), zlp (F_X10_clear_45 N x0) n t = some ρ → ∀ (H : Heap) (locs : List Loc) (ls : Array Slot), zP D c o (zabs o (t.2)) H → va_S (zA o) s.heap H locs → lv_has ls 2 [(1, .int (t.1)), (0, .ref (o + x0))] → W p l e (zr 6) s m (([.ref (o + x0)] : List Value).toArray) below meth cd H locs 0 0 (MQ below (zQu D c o g ρ) (([.ref (o + x0)] : List Value).toArray) s 0 0 (zA o)) (F0 m 45 ls []) := by
        refine zlp_ind (fun ag5 ih5 t h H locs ls hP hS hl => ?_)
        obtain ⟨x1_5, σ5⟩ := t
        have hP : zP D c o (zabs o σ5) H := hP
        have hl : lv_has ls 2 [(1, .int x1_5), (0, .ref (o + x0))] := hl
        rw [F_X10_clear_45.eq_1] at h
        show W p l e (zr 6) s m (([.ref (o + x0)] : List Value).toArray) below meth cd H locs 0 0 (MQ below (zQu D c o g ρ) (([.ref (o + x0)] : List Value).toArray) s 0 0 (zA o)) (F0 m 45 ls [])
        refine lv_iload_n (pc := 45) hx hb dX10_clear_45 rfl (lv_at hl 0 rfl) ?_
        refine lv_bipush (pc := 46) (v := 10) hx hb dX10_clear_46 (by decide) ?_
        refine lv_icmp_ge (pc := 48) (tgt := 66) hx hb dX10_clear_48 (by decide) (fun c1 => ?_) (fun c1 => ?_)
        · rw [if_pos c1] at h
          exact xretv (pc := 66) hx hb hr hlocks hP hK hE hS h dX10_clear_66
        · rw [if_neg c1] at h
          refine lv_aload_n (pc := 51) hx hb dX10_clear_51 rfl (lv_at hl 1 rfl) ?_
          obtain ⟨v6, hv, h⟩ := zl_some h
          refine xgR (pc := 52) (j := 7) zc10 hx hb hts hown hK hP hv rfl zf_X10_36 dX10_clear_52 ?_
          refine lv_iload_n (pc := 55) hx hb dX10_clear_55 rfl (lv_at hl 0 rfl) ?_
          obtain ⟨v7, hv, h⟩ := zl_some h
          refine xaF (pc := 56) hx hb hK hP hv dX10_clear_56 ?_
          obtain ⟨_, hg, h⟩ := zl_some h
          obtain ⟨v8, σ9, hv, h⟩ := zb_some h
          refine xcallVv (pc := 57) (As := []) (rest := []) ⟨hx, hb, hml, hown, hts⟩ (c_X2_clear l D c o g N hv) zc2 zV_X10_41 rfl zd_X2_clear ⟨Nat.le_of_ble_eq_true rfl, Nat.le_of_ble_eq_true rfl⟩ hK hP hE hS hg hl.1 rfl (Nat.le_of_ble_eq_true rfl) ⟨Nat.zero_le _, Nat.zero_le _⟩ dX10_clear_57 (fun H locs hP hS => ?_)
          refine lv_iinc (pc := 60) (v := x1_5 + 1) (lv' := [(1, .int (x1_5 + 1)), (0, .ref (o + x0))]) hx hb dX10_clear_60 hl (k := 0) rfl rfl (by decide) rfl (fun ls hl => ?_)
          refine lv_goto (pc := 63) (tgt := 45) hx hb dX10_clear_63 (by decide) ?_
          exact ih5 (x1_5 + 1, σ9) h _ _ ls hP hS (lv_sub hl [0, 1] rfl)
      exact L45_5 N (0, σ4) h _ _ ls hP hS (lv_sub hl [0, 1] rfl)
    · rw [if_neg c1] at h
      refine lv_aload_n (pc := 23) hx hb dX10_clear_23 rfl (lv_at hl 1 rfl) ?_
      obtain ⟨v10, hv, h⟩ := zl_some h
      refine xgR (pc := 24) (j := 5) zc10 hx hb hts hown hK hP hv rfl zf_X10_28 dX10_clear_24 ?_
      refine lv_iload_n (pc := 27) hx hb dX10_clear_27 rfl (lv_at hl 0 rfl) ?_
      refine lv_iconst (pc := 28) (v := 1) hx hb dX10_clear_28 (by decide) ?_
      obtain ⟨σ11, hv, h⟩ := zl_some h
      refine xsI (pc := 29) hx hb hK hP hS hv dX10_clear_29 (fun H locs hP hS => ?_)
      refine lv_aload_n (pc := 30) hx hb dX10_clear_30 rfl (lv_at hl 1 rfl) ?_
      obtain ⟨v12, hv, h⟩ := zl_some h
      refine xgR (pc := 31) (j := 6) zc10 hx hb hts hown hK hP hv rfl zf_X10_31 dX10_clear_31 ?_
      refine lv_iload_n (pc := 34) hx hb dX10_clear_34 rfl (lv_at hl 0 rfl) ?_
      refine lv_iload_n (pc := 35) hx hb dX10_clear_35 rfl (lv_at hl 0 rfl) ?_
      obtain ⟨σ13, hv, h⟩ := zl_some h
      refine xsI (pc := 36) hx hb hK hP hS hv dX10_clear_36 (fun H locs hP hS => ?_)
      refine lv_iinc (pc := 37) (v := x1_4 + 1) (lv' := [(1, .int (x1_4 + 1)), (0, .ref (o + x0))]) hx hb dX10_clear_37 hl (k := 0) rfl rfl (by decide) rfl (fun ls hl => ?_)
      refine lv_goto (pc := 40) (tgt := 17) hx hb dX10_clear_40 (by decide) ?_
      exact ih4 (x1_4 + 1, σ13) h _ _ ls hP hS (lv_sub hl [0, 1] rfl)
  exact L17_4 N (0, σ3) h _ _ ls hP hS (lv_sub hl [0, 1] rfl)
def F_X10_copyFrom_86 (N : Nat) (x0 : Nat) (x1 : Nat) (again86 : (Int32 × zS) → Option (Unit × zS)) : Int32 × zS → Option (Unit × zS)
  | (x2, σ) =>
  if 10 ≤ x2 then
    (some ((), σ))
  else
    (zl (gR 10 7 x0 σ) fun v19 =>
    zl (aR 17 v19 x2 σ) fun v20 =>
    zl (gR 10 7 x1 σ) fun v21 =>
    zl (aR 17 v21 x2 σ) fun v22 =>
    zl (gC 2 v20) fun _ => zb (f_X2_copyFrom N v20 v22 σ) fun v23 σ24 =>
    again86 (x2 + 1, σ24))
def f_X10_copyFrom (N : Nat) (x0 : Nat) (x1 : Nat) (σ : zS) : Option (Unit × zS) :=
  zl (gI 10 0 x1 σ) fun v1 =>
  zl (pI 10 0 x0 v1 σ) fun σ2 =>
  zl (gI 10 1 x1 σ2) fun v3 =>
  zl (pI 10 1 x0 v3 σ2) fun σ4 =>
  zl (gI 10 2 x1 σ4) fun v5 =>
  zl (pI 10 2 x0 v5 σ4) fun σ6 =>
  zl (gR 10 3 x1 σ6) fun v7 =>
  zl (gR 10 3 x0 σ6) fun v8 =>
  zl (cpI v7 0 v8 0 10 σ6) fun σ9 =>
  zl (gR 10 4 x1 σ9) fun v10 =>
  zl (gR 10 4 x0 σ9) fun v11 =>
  zl (cpI v10 0 v11 0 10 σ9) fun σ12 =>
  zl (gR 10 5 x1 σ12) fun v13 =>
  zl (gR 10 5 x0 σ12) fun v14 =>
  zl (cpI v13 0 v14 0 10 σ12) fun σ15 =>
  zl (gR 10 6 x1 σ15) fun v16 =>
  zl (gR 10 6 x0 σ15) fun v17 =>
  zl (cpI v16 0 v17 0 10 σ15) fun σ18 =>
  zlp (F_X10_copyFrom_86 N x0 x1) N (0, σ18)
set_option maxHeartbeats 4000000 in
set_option maxRecDepth 100000 in
theorem c_X10_copyFrom (l : Launch) (D : va_G) (c : zC) (o : Nat) (g : zEp) (N : Nat) {x0 : Nat} {x1 : Nat} {σ : zS} {ρ : Unit × zS} (h : f_X10_copyFrom N x0 x1 σ = some ρ) : Met l yX10_copyFrom zs_X10_copyFrom (zr 4) (va_Pc [.ref (o + x0), .ref (o + x1)] (zG D c o g σ)) (zQu D c o g ρ) 0 0 (zA o) := by
  refine zMetG (by decide) (Nat.le_of_ble_eq_true rfl) ?_
  intro p e s m below meth cd ⟨hx, hb, hr, hml, hown, hts, hlocks⟩ hP hK hE ls hl
  have hS : va_S (zA o) s.heap s.heap [] := va_S.rf
  have hl : lv_has ls 3 [(0, .ref (o + x0)), (1, .ref (o + x1))] := hl
  rw [f_X10_copyFrom.eq_1] at h
  refine lv_aload_n (pc := 0) hx hb dX10_copyFrom_0 rfl (lv_at hl 0 rfl) ?_
  refine lv_aload_n (pc := 1) hx hb dX10_copyFrom_1 rfl (lv_at hl 1 rfl) ?_
  obtain ⟨v1, hv, h⟩ := zl_some h
  refine xgI (pc := 2) (j := 0) zc10 hx hb hts hown hK hP hv rfl zf_X10_9 dX10_copyFrom_2 ?_
  obtain ⟨σ2, hv, h⟩ := zl_some h
  refine xpI (pc := 5) (j := 0) zc10 hx hb hts hown hK hP hS hv rfl rfl rfl zf_X10_9 dX10_copyFrom_5 (fun H locs hP hS => ?_)
  refine lv_aload_n (pc := 8) hx hb dX10_copyFrom_8 rfl (lv_at hl 0 rfl) ?_
  refine lv_aload_n (pc := 9) hx hb dX10_copyFrom_9 rfl (lv_at hl 1 rfl) ?_
  obtain ⟨v3, hv, h⟩ := zl_some h
  refine xgI (pc := 10) (j := 1) zc10 hx hb hts hown hK hP hv rfl zf_X10_15 dX10_copyFrom_10 ?_
  obtain ⟨σ4, hv, h⟩ := zl_some h
  refine xpI (pc := 13) (j := 1) zc10 hx hb hts hown hK hP hS hv rfl rfl rfl zf_X10_15 dX10_copyFrom_13 (fun H locs hP hS => ?_)
  refine lv_aload_n (pc := 16) hx hb dX10_copyFrom_16 rfl (lv_at hl 0 rfl) ?_
  refine lv_aload_n (pc := 17) hx hb dX10_copyFrom_17 rfl (lv_at hl 1 rfl) ?_
  obtain ⟨v5, hv, h⟩ := zl_some h
  refine xgI (pc := 18) (j := 2) zc10 hx hb hts hown hK hP hv rfl zf_X10_18 dX10_copyFrom_18 ?_
  obtain ⟨σ6, hv, h⟩ := zl_some h
  refine xpI (pc := 21) (j := 2) zc10 hx hb hts hown hK hP hS hv rfl rfl rfl zf_X10_18 dX10_copyFrom_21 (fun H locs hP hS => ?_)
  refine lv_aload_n (pc := 24) hx hb dX10_copyFrom_24 rfl (lv_at hl 1 rfl) ?_
  obtain ⟨v7, hv, h⟩ := zl_some h
  refine xgR (pc := 25) (j := 3) zc10 hx hb hts hown hK hP hv rfl zf_X10_21 dX10_copyFrom_25 ?_
  refine lv_iconst (pc := 28) (v := 0) hx hb dX10_copyFrom_28 (by decide) ?_
  refine lv_aload_n (pc := 29) hx hb dX10_copyFrom_29 rfl (lv_at hl 0 rfl) ?_
  obtain ⟨v8, hv, h⟩ := zl_some h
  refine xgR (pc := 30) (j := 3) zc10 hx hb hts hown hK hP hv rfl zf_X10_21 dX10_copyFrom_30 ?_
  refine lv_iconst (pc := 33) (v := 0) hx hb dX10_copyFrom_33 (by decide) ?_
  refine lv_bipush (pc := 34) (v := 10) hx hb dX10_copyFrom_34 (by decide) ?_
  obtain ⟨σ9, hv, h⟩ := zl_some h
  refine xcI (pc := 36) (rest := []) hx hb (hml.trans hl.1.symm) hown hts zm_X10_44 hK hP hS hv (Nat.le_of_ble_eq_true rfl) (Nat.le_of_ble_eq_true rfl) dX10_copyFrom_36 (fun H locs hP hS => ?_)
  refine lv_aload_n (pc := 39) hx hb dX10_copyFrom_39 rfl (lv_at hl 1 rfl) ?_
  obtain ⟨v10, hv, h⟩ := zl_some h
  refine xgR (pc := 40) (j := 4) zc10 hx hb hts hown hK hP hv rfl zf_X10_25 dX10_copyFrom_40 ?_
  refine lv_iconst (pc := 43) (v := 0) hx hb dX10_copyFrom_43 (by decide) ?_
  refine lv_aload_n (pc := 44) hx hb dX10_copyFrom_44 rfl (lv_at hl 0 rfl) ?_
  obtain ⟨v11, hv, h⟩ := zl_some h
  refine xgR (pc := 45) (j := 4) zc10 hx hb hts hown hK hP hv rfl zf_X10_25 dX10_copyFrom_45 ?_
  refine lv_iconst (pc := 48) (v := 0) hx hb dX10_copyFrom_48 (by decide) ?_
  refine lv_bipush (pc := 49) (v := 10) hx hb dX10_copyFrom_49 (by decide) ?_
  obtain ⟨σ12, hv, h⟩ := zl_some h
  refine xcI (pc := 51) (rest := []) hx hb (hml.trans hl.1.symm) hown hts zm_X10_44 hK hP hS hv (Nat.le_of_ble_eq_true rfl) (Nat.le_of_ble_eq_true rfl) dX10_copyFrom_51 (fun H locs hP hS => ?_)
  refine lv_aload_n (pc := 54) hx hb dX10_copyFrom_54 rfl (lv_at hl 1 rfl) ?_
  obtain ⟨v13, hv, h⟩ := zl_some h
  refine xgR (pc := 55) (j := 5) zc10 hx hb hts hown hK hP hv rfl zf_X10_28 dX10_copyFrom_55 ?_
  refine lv_iconst (pc := 58) (v := 0) hx hb dX10_copyFrom_58 (by decide) ?_
  refine lv_aload_n (pc := 59) hx hb dX10_copyFrom_59 rfl (lv_at hl 0 rfl) ?_
  obtain ⟨v14, hv, h⟩ := zl_some h
  refine xgR (pc := 60) (j := 5) zc10 hx hb hts hown hK hP hv rfl zf_X10_28 dX10_copyFrom_60 ?_
  refine lv_iconst (pc := 63) (v := 0) hx hb dX10_copyFrom_63 (by decide) ?_
  refine lv_bipush (pc := 64) (v := 10) hx hb dX10_copyFrom_64 (by decide) ?_
  obtain ⟨σ15, hv, h⟩ := zl_some h
  refine xcI (pc := 66) (rest := []) hx hb (hml.trans hl.1.symm) hown hts zm_X10_44 hK hP hS hv (Nat.le_of_ble_eq_true rfl) (Nat.le_of_ble_eq_true rfl) dX10_copyFrom_66 (fun H locs hP hS => ?_)
  refine lv_aload_n (pc := 69) hx hb dX10_copyFrom_69 rfl (lv_at hl 1 rfl) ?_
  obtain ⟨v16, hv, h⟩ := zl_some h
  refine xgR (pc := 70) (j := 6) zc10 hx hb hts hown hK hP hv rfl zf_X10_31 dX10_copyFrom_70 ?_
  refine lv_iconst (pc := 73) (v := 0) hx hb dX10_copyFrom_73 (by decide) ?_
  refine lv_aload_n (pc := 74) hx hb dX10_copyFrom_74 rfl (lv_at hl 0 rfl) ?_
  obtain ⟨v17, hv, h⟩ := zl_some h
  refine xgR (pc := 75) (j := 6) zc10 hx hb hts hown hK hP hv rfl zf_X10_31 dX10_copyFrom_75 ?_
  refine lv_iconst (pc := 78) (v := 0) hx hb dX10_copyFrom_78 (by decide) ?_
  refine lv_bipush (pc := 79) (v := 10) hx hb dX10_copyFrom_79 (by decide) ?_
  obtain ⟨σ18, hv, h⟩ := zl_some h
  refine xcI (pc := 81) (rest := []) hx hb (hml.trans hl.1.symm) hown hts zm_X10_44 hK hP hS hv (Nat.le_of_ble_eq_true rfl) (Nat.le_of_ble_eq_true rfl) dX10_copyFrom_81 (fun H locs hP hS => ?_)
  refine lv_iconst (pc := 84) (v := 0) hx hb dX10_copyFrom_84 (by decide) ?_
  refine lv_istore_n (pc := 85) (lv' := [(2, .int 0), (0, .ref (o + x0)), (1, .ref (o + x1))]) hx hb dX10_copyFrom_85 rfl hl (by decide) rfl (fun ls hl => ?_)
  have L86_19 : ∀ (n : Nat) (t : Int32 × zS), zlp (F_X10_copyFrom_86 N x0 x1) n t = some ρ → ∀ (H : Heap) (locs : List Loc) (ls : Array Slot), zP D c o (zabs o (t.2)) H → va_S (zA o) s.heap H locs → lv_has ls 3 [(2, .int (t.1)), (0, .ref (o + x0)), (1, .ref (o + x1))] → W p l e (zr 4) s m (([.ref (o + x0), .ref (o + x1)] : List Value).toArray) below meth cd H locs 0 0 (MQ below (zQu D c o g ρ) (([.ref (o + x0), .ref (o + x1)] : List Value).toArray) s 0 0 (zA o)) (F0 m 86 ls []) := by
    refine zlp_ind (fun ag19 ih19 t h H locs ls hP hS hl => ?_)
    obtain ⟨x2_19, σ19⟩ := t
    have hP : zP D c o (zabs o σ19) H := hP
    have hl : lv_has ls 3 [(2, .int x2_19), (0, .ref (o + x0)), (1, .ref (o + x1))] := hl
    rw [F_X10_copyFrom_86.eq_1] at h
    show W p l e (zr 4) s m (([.ref (o + x0), .ref (o + x1)] : List Value).toArray) below meth cd H locs 0 0 (MQ below (zQu D c o g ρ) (([.ref (o + x0), .ref (o + x1)] : List Value).toArray) s 0 0 (zA o)) (F0 m 86 ls [])
    refine lv_iload_n (pc := 86) hx hb dX10_copyFrom_86 rfl (lv_at hl 0 rfl) ?_
    refine lv_bipush (pc := 87) (v := 10) hx hb dX10_copyFrom_87 (by decide) ?_
    refine lv_icmp_ge (pc := 89) (tgt := 113) hx hb dX10_copyFrom_89 (by decide) (fun c1 => ?_) (fun c1 => ?_)
    · rw [if_pos c1] at h
      exact xretv (pc := 113) hx hb hr hlocks hP hK hE hS h dX10_copyFrom_113
    · rw [if_neg c1] at h
      refine lv_aload_n (pc := 92) hx hb dX10_copyFrom_92 rfl (lv_at hl 1 rfl) ?_
      obtain ⟨v20, hv, h⟩ := zl_some h
      refine xgR (pc := 93) (j := 7) zc10 hx hb hts hown hK hP hv rfl zf_X10_36 dX10_copyFrom_93 ?_
      refine lv_iload_n (pc := 96) hx hb dX10_copyFrom_96 rfl (lv_at hl 0 rfl) ?_
      obtain ⟨v21, hv, h⟩ := zl_some h
      refine xaF (pc := 97) hx hb hK hP hv dX10_copyFrom_97 ?_
      refine lv_aload_n (pc := 98) hx hb dX10_copyFrom_98 rfl (lv_at hl 2 rfl) ?_
      obtain ⟨v22, hv, h⟩ := zl_some h
      refine xgR (pc := 99) (j := 7) zc10 hx hb hts hown hK hP hv rfl zf_X10_36 dX10_copyFrom_99 ?_
      refine lv_iload_n (pc := 102) hx hb dX10_copyFrom_102 rfl (lv_at hl 0 rfl) ?_
      obtain ⟨v23, hv, h⟩ := zl_some h
      refine xaF (pc := 103) hx hb hK hP hv dX10_copyFrom_103 ?_
      obtain ⟨_, hg, h⟩ := zl_some h
      obtain ⟨v24, σ25, hv, h⟩ := zb_some h
      refine xcallVv (pc := 104) (As := [.ref (o + v23)]) (rest := []) ⟨hx, hb, hml, hown, hts⟩ (c_X2_copyFrom l D c o g N hv) zc2 zV_X10_50 rfl zd_X2_copyFrom ⟨Nat.le_of_ble_eq_true rfl, Nat.le_of_ble_eq_true rfl⟩ hK hP hE hS hg hl.1 rfl (Nat.le_of_ble_eq_true rfl) ⟨Nat.zero_le _, Nat.zero_le _⟩ dX10_copyFrom_104 (fun H locs hP hS => ?_)
      refine lv_iinc (pc := 107) (v := x2_19 + 1) (lv' := [(2, .int (x2_19 + 1)), (0, .ref (o + x0)), (1, .ref (o + x1))]) hx hb dX10_copyFrom_107 hl (k := 0) rfl rfl (by decide) rfl (fun ls hl => ?_)
      refine lv_goto (pc := 110) (tgt := 86) hx hb dX10_copyFrom_110 (by decide) ?_
      exact ih19 (x2_19 + 1, σ25) h _ _ ls hP hS (lv_sub hl [0, 1, 2] rfl)
  exact L86_19 N (0, σ18) h _ _ ls hP hS (lv_sub hl [0, 1, 2] rfl)
def F_X10_load_4 (N : Nat) (x0 : Nat) (x1 : Int32) (again4 : (Int32 × Int32 × zS) → Option (Int32 × zS)) : Int32 × Int32 × zS → Option (Int32 × zS)
  | (x2, x3, σ) =>
  zl (gI 10 0 x0 σ) fun v1 =>
  if v1 ≤ x3 then
    (some (x2, σ))
  else
    (if 10 ≤ x3 then
      (some (x2, σ))
    else
      (if (((x1 : Int32) >>> (x3 &&& 31)) &&& 1) = 0 then
        (again4 (x2, x3 + 1, σ))
      else
        (zl (gR 10 5 x0 σ) fun v2 =>
        zl (aI 14 v2 x3 σ) fun v3 =>
        again4 (x2 + v3, x3 + 1, σ))))
def f_X10_load (N : Nat) (x0 : Nat) (x1 : Int32) (σ : zS) : Option (Int32 × zS) :=
  zlp (F_X10_load_4 N x0 x1) N (0, 0, σ)
set_option maxHeartbeats 4000000 in
set_option maxRecDepth 100000 in
theorem c_X10_load (l : Launch) (D : va_G) (c : zC) (o : Nat) (g : zEp) (N : Nat) {x0 : Nat} {x1 : Int32} {σ : zS} {ρ : Int32 × zS} (h : f_X10_load N x0 x1 σ = some ρ) : Met l yX10_load zs_X10_load (zr 2) (va_Pc [.ref (o + x0), .int x1] (zG D c o g σ)) (zQi D c o g ρ) 0 0 (zA o) := by
  refine zMetG (by decide) (Nat.le_of_ble_eq_true rfl) ?_
  intro p e s m below meth cd ⟨hx, hb, hr, hml, hown, hts, hlocks⟩ hP hK hE ls hl
  have hS : va_S (zA o) s.heap s.heap [] := va_S.rf
  have hl : lv_has ls 4 [(0, .ref (o + x0)), (1, .int x1)] := hl
  rw [f_X10_load.eq_1] at h
  refine lv_iconst (pc := 0) (v := 0) hx hb dX10_load_0 (by decide) ?_
  refine lv_istore_n (pc := 1) (lv' := [(2, .int 0), (0, .ref (o + x0)), (1, .int x1)]) hx hb dX10_load_1 rfl hl (by decide) rfl (fun ls hl => ?_)
  refine lv_iconst (pc := 2) (v := 0) hx hb dX10_load_2 (by decide) ?_
  refine lv_istore_n (pc := 3) (lv' := [(3, .int 0), (2, .int 0), (0, .ref (o + x0)), (1, .int x1)]) hx hb dX10_load_3 rfl hl (by decide) rfl (fun ls hl => ?_)
  have L4_1 : ∀ (n : Nat) (t : Int32 × Int32 × zS), zlp (F_X10_load_4 N x0 x1) n t = some ρ → ∀ (H : Heap) (locs : List Loc) (ls : Array Slot), zP D c o (zabs o (t.2.2)) H → va_S (zA o) s.heap H locs → lv_has ls 4 [(2, .int (t.1)), (3, .int (t.2.1)), (0, .ref (o + x0)), (1, .int x1)] → W p l e (zr 2) s m (([.ref (o + x0), .int x1] : List Value).toArray) below meth cd H locs 0 0 (MQ below (zQi D c o g ρ) (([.ref (o + x0), .int x1] : List Value).toArray) s 0 0 (zA o)) (F0 m 4 ls []) := by
    refine zlp_ind (fun ag1 ih1 t h H locs ls hP hS hl => ?_)
    obtain ⟨x2_1, x3_1, σ1⟩ := t
    have hP : zP D c o (zabs o σ1) H := hP
    have hl : lv_has ls 4 [(2, .int x2_1), (3, .int x3_1), (0, .ref (o + x0)), (1, .int x1)] := hl
    rw [F_X10_load_4.eq_1] at h
    show W p l e (zr 2) s m (([.ref (o + x0), .int x1] : List Value).toArray) below meth cd H locs 0 0 (MQ below (zQi D c o g ρ) (([.ref (o + x0), .int x1] : List Value).toArray) s 0 0 (zA o)) (F0 m 4 ls [])
    refine lv_iload_n (pc := 4) hx hb dX10_load_4 rfl (lv_at hl 1 rfl) ?_
    refine lv_aload_n (pc := 5) hx hb dX10_load_5 rfl (lv_at hl 2 rfl) ?_
    obtain ⟨v2, hv, h⟩ := zl_some h
    refine xgI (pc := 6) (j := 0) zc10 hx hb hts hown hK hP hv rfl zf_X10_9 dX10_load_6 ?_
    refine lv_icmp_ge (pc := 9) (tgt := 41) hx hb dX10_load_9 (by decide) (fun c1 => ?_) (fun c1 => ?_)
    · rw [if_pos c1] at h
      refine lv_iload_n (pc := 41) hx hb dX10_load_41 rfl (lv_at hl 0 rfl) ?_
      exact xreti (pc := 42) hx hb hr hlocks hP hK hE hS h dX10_load_42
    · rw [if_neg c1] at h
      refine lv_iload_n (pc := 12) hx hb dX10_load_12 rfl (lv_at hl 1 rfl) ?_
      refine lv_bipush (pc := 13) (v := 10) hx hb dX10_load_13 (by decide) ?_
      refine lv_icmp_ge (pc := 15) (tgt := 41) hx hb dX10_load_15 (by decide) (fun c1 => ?_) (fun c1 => ?_)
      · rw [if_pos c1] at h
        refine lv_iload_n (pc := 41) hx hb dX10_load_41 rfl (lv_at hl 0 rfl) ?_
        exact xreti (pc := 42) hx hb hr hlocks hP hK hE hS h dX10_load_42
      · rw [if_neg c1] at h
        refine lv_iload_n (pc := 18) hx hb dX10_load_18 rfl (lv_at hl 3 rfl) ?_
        refine lv_iload_n (pc := 19) hx hb dX10_load_19 rfl (lv_at hl 1 rfl) ?_
        refine lv_ishr (pc := 20) hx hb dX10_load_20 ?_
        refine lv_iconst (pc := 21) (v := 1) hx hb dX10_load_21 (by decide) ?_
        refine lv_iand (pc := 22) hx hb dX10_load_22 ?_
        refine lv_if_eq (pc := 23) (tgt := 35) hx hb dX10_load_23 (by decide) (fun c1 => ?_) (fun c1 => ?_)
        · rw [if_pos c1] at h
          refine lv_iinc (pc := 35) (v := x3_1 + 1) (lv' := [(3, .int (x3_1 + 1)), (2, .int x2_1), (0, .ref (o + x0)), (1, .int x1)]) hx hb dX10_load_35 hl (k := 1) rfl rfl (by decide) rfl (fun ls hl => ?_)
          refine lv_goto (pc := 38) (tgt := 4) hx hb dX10_load_38 (by decide) ?_
          exact ih1 (x2_1, x3_1 + 1, σ1) h _ _ ls hP hS (lv_sub hl [1, 0, 2, 3] rfl)
        · rw [if_neg c1] at h
          refine lv_iload_n (pc := 26) hx hb dX10_load_26 rfl (lv_at hl 0 rfl) ?_
          refine lv_aload_n (pc := 27) hx hb dX10_load_27 rfl (lv_at hl 2 rfl) ?_
          obtain ⟨v3, hv, h⟩ := zl_some h
          refine xgR (pc := 28) (j := 5) zc10 hx hb hts hown hK hP hv rfl zf_X10_28 dX10_load_28 ?_
          refine lv_iload_n (pc := 31) hx hb dX10_load_31 rfl (lv_at hl 1 rfl) ?_
          obtain ⟨v4, hv, h⟩ := zl_some h
          refine xaI (pc := 32) hx hb hK hP hv dX10_load_32 ?_
          refine lv_iadd (pc := 33) hx hb dX10_load_33 ?_
          refine lv_istore_n (pc := 34) (lv' := [(2, .int (x2_1 + v4)), (3, .int x3_1), (0, .ref (o + x0)), (1, .int x1)]) hx hb dX10_load_34 rfl hl (by decide) rfl (fun ls hl => ?_)
          refine lv_iinc (pc := 35) (v := x3_1 + 1) (lv' := [(3, .int (x3_1 + 1)), (2, .int (x2_1 + v4)), (0, .ref (o + x0)), (1, .int x1)]) hx hb dX10_load_35 hl (k := 1) rfl rfl (by decide) rfl (fun ls hl => ?_)
          refine lv_goto (pc := 38) (tgt := 4) hx hb dX10_load_38 (by decide) ?_
          exact ih1 (x2_1 + v4, x3_1 + 1, σ1) h _ _ ls hP hS (lv_sub hl [1, 0, 2, 3] rfl)
  exact L4_1 N (0, 0, σ) h _ _ ls hP hS (lv_sub hl [1, 0, 2, 3] rfl)
def F_X10_filledRegisters_4 (N : Nat) (x0 : Nat) (again4 : (Int32 × Int32 × zS) → Option (Int32 × zS)) : Int32 × Int32 × zS → Option (Int32 × zS)
  | (x1, x2, σ) =>
  if 10 ≤ x2 then
    (some (x1, σ))
  else
    (zl (gR 10 7 x0 σ) fun v1 =>
    zl (aR 17 v1 x2 σ) fun v2 =>
    zl (gC 2 v2) fun _ => zb (f_X2_isEmpty N v2 σ) fun v3 σ4 =>
    if v3 = 0 then
      (again4 (x1 ||| ((1 : Int32) <<< (x2 &&& 31)), x2 + 1, σ4))
    else
      (again4 (x1, x2 + 1, σ4)))
def f_X10_filledRegisters (N : Nat) (x0 : Nat) (σ : zS) : Option (Int32 × zS) :=
  zlp (F_X10_filledRegisters_4 N x0) N (0, 0, σ)
set_option maxHeartbeats 4000000 in
set_option maxRecDepth 100000 in
theorem c_X10_filledRegisters (l : Launch) (D : va_G) (c : zC) (o : Nat) (g : zEp) (N : Nat) {x0 : Nat} {σ : zS} {ρ : Int32 × zS} (h : f_X10_filledRegisters N x0 σ = some ρ) : Met l yX10_filledRegisters zs_X10_filledRegisters (zr 4) (va_Pc [.ref (o + x0)] (zG D c o g σ)) (zQi D c o g ρ) 0 0 (zA o) := by
  refine zMetG (by decide) (Nat.le_of_ble_eq_true rfl) ?_
  intro p e s m below meth cd ⟨hx, hb, hr, hml, hown, hts, hlocks⟩ hP hK hE ls hl
  have hS : va_S (zA o) s.heap s.heap [] := va_S.rf
  have hl : lv_has ls 3 [(0, .ref (o + x0))] := hl
  rw [f_X10_filledRegisters.eq_1] at h
  refine lv_iconst (pc := 0) (v := 0) hx hb dX10_filledRegisters_0 (by decide) ?_
  refine lv_istore_n (pc := 1) (lv' := [(1, .int 0), (0, .ref (o + x0))]) hx hb dX10_filledRegisters_1 rfl hl (by decide) rfl (fun ls hl => ?_)
  refine lv_iconst (pc := 2) (v := 0) hx hb dX10_filledRegisters_2 (by decide) ?_
  refine lv_istore_n (pc := 3) (lv' := [(2, .int 0), (1, .int 0), (0, .ref (o + x0))]) hx hb dX10_filledRegisters_3 rfl hl (by decide) rfl (fun ls hl => ?_)
  have L4_1 : ∀ (n : Nat) (t : Int32 × Int32 × zS), zlp (F_X10_filledRegisters_4 N x0) n t = some ρ → ∀ (H : Heap) (locs : List Loc) (ls : Array Slot), zP D c o (zabs o (t.2.2)) H → va_S (zA o) s.heap H locs → lv_has ls 3 [(1, .int (t.1)), (2, .int (t.2.1)), (0, .ref (o + x0))] → W p l e (zr 4) s m (([.ref (o + x0)] : List Value).toArray) below meth cd H locs 0 0 (MQ below (zQi D c o g ρ) (([.ref (o + x0)] : List Value).toArray) s 0 0 (zA o)) (F0 m 4 ls []) := by
    refine zlp_ind (fun ag1 ih1 t h H locs ls hP hS hl => ?_)
    obtain ⟨x1_1, x2_1, σ1⟩ := t
    have hP : zP D c o (zabs o σ1) H := hP
    have hl : lv_has ls 3 [(1, .int x1_1), (2, .int x2_1), (0, .ref (o + x0))] := hl
    rw [F_X10_filledRegisters_4.eq_1] at h
    show W p l e (zr 4) s m (([.ref (o + x0)] : List Value).toArray) below meth cd H locs 0 0 (MQ below (zQi D c o g ρ) (([.ref (o + x0)] : List Value).toArray) s 0 0 (zA o)) (F0 m 4 ls [])
    refine lv_iload_n (pc := 4) hx hb dX10_filledRegisters_4 rfl (lv_at hl 1 rfl) ?_
    refine lv_bipush (pc := 5) (v := 10) hx hb dX10_filledRegisters_5 (by decide) ?_
    refine lv_icmp_ge (pc := 7) (tgt := 34) hx hb dX10_filledRegisters_7 (by decide) (fun c1 => ?_) (fun c1 => ?_)
    · rw [if_pos c1] at h
      refine lv_iload_n (pc := 34) hx hb dX10_filledRegisters_34 rfl (lv_at hl 0 rfl) ?_
      exact xreti (pc := 35) hx hb hr hlocks hP hK hE hS h dX10_filledRegisters_35
    · rw [if_neg c1] at h
      refine lv_aload_n (pc := 10) hx hb dX10_filledRegisters_10 rfl (lv_at hl 2 rfl) ?_
      obtain ⟨v2, hv, h⟩ := zl_some h
      refine xgR (pc := 11) (j := 7) zc10 hx hb hts hown hK hP hv rfl zf_X10_36 dX10_filledRegisters_11 ?_
      refine lv_iload_n (pc := 14) hx hb dX10_filledRegisters_14 rfl (lv_at hl 1 rfl) ?_
      obtain ⟨v3, hv, h⟩ := zl_some h
      refine xaF (pc := 15) hx hb hK hP hv dX10_filledRegisters_15 ?_
      obtain ⟨_, hg, h⟩ := zl_some h
      obtain ⟨v4, σ5, hv, h⟩ := zb_some h
      refine xcallVi (pc := 16) (As := []) (rest := []) ⟨hx, hb, hml, hown, hts⟩ (c_X2_isEmpty l D c o g N hv) zc2 zV_X10_58 rfl zd_X2_isEmpty ⟨Nat.le_of_ble_eq_true rfl, Nat.le_of_ble_eq_true rfl⟩ hK hP hE hS hg hl.1 rfl (Nat.le_of_ble_eq_true rfl) ⟨Nat.zero_le _, Nat.zero_le _⟩ dX10_filledRegisters_16 (fun H locs hP hS => ?_)
      refine lv_if_ne (pc := 19) (tgt := 28) hx hb dX10_filledRegisters_19 (by decide) (fun c1 => ?_) (fun c1 => ?_)
      · rw [if_neg c1] at h
        refine lv_iinc (pc := 28) (v := x2_1 + 1) (lv' := [(2, .int (x2_1 + 1)), (1, .int x1_1), (0, .ref (o + x0))]) hx hb dX10_filledRegisters_28 hl (k := 1) rfl rfl (by decide) rfl (fun ls hl => ?_)
        refine lv_goto (pc := 31) (tgt := 4) hx hb dX10_filledRegisters_31 (by decide) ?_
        exact ih1 (x1_1, x2_1 + 1, σ5) h _ _ ls hP hS (lv_sub hl [1, 0, 2] rfl)
      · rw [if_pos c1] at h
        refine lv_iload_n (pc := 22) hx hb dX10_filledRegisters_22 rfl (lv_at hl 0 rfl) ?_
        refine lv_iconst (pc := 23) (v := 1) hx hb dX10_filledRegisters_23 (by decide) ?_
        refine lv_iload_n (pc := 24) hx hb dX10_filledRegisters_24 rfl (lv_at hl 1 rfl) ?_
        refine lv_ishl (pc := 25) hx hb dX10_filledRegisters_25 ?_
        refine lv_ior (pc := 26) hx hb dX10_filledRegisters_26 ?_
        refine lv_istore_n (pc := 27) (lv' := [(1, .int (x1_1 ||| ((1 : Int32) <<< (x2_1 &&& 31)))), (2, .int x2_1), (0, .ref (o + x0))]) hx hb dX10_filledRegisters_27 rfl hl (by decide) rfl (fun ls hl => ?_)
        refine lv_iinc (pc := 28) (v := x2_1 + 1) (lv' := [(2, .int (x2_1 + 1)), (1, .int (x1_1 ||| ((1 : Int32) <<< (x2_1 &&& 31)))), (0, .ref (o + x0))]) hx hb dX10_filledRegisters_28 hl (k := 1) rfl rfl (by decide) rfl (fun ls hl => ?_)
        refine lv_goto (pc := 31) (tgt := 4) hx hb dX10_filledRegisters_31 (by decide) ?_
        exact ih1 (x1_1 ||| ((1 : Int32) <<< (x2_1 &&& 31)), x2_1 + 1, σ5) h _ _ ls hP hS (lv_sub hl [1, 0, 2] rfl)
  exact L4_1 N (0, 0, σ) h _ _ ls hP hS (lv_sub hl [1, 0, 2] rfl)
def F_X10_unlikeFamilies_4 (N : Nat) (x0 : Nat) (again4 : (Int32 × Int32 × zS) → Option (Int32 × zS)) : Int32 × Int32 × zS → Option (Int32 × zS)
  | (x1, x2, σ) =>
  if 10 ≤ x2 then
    (some (x1, σ))
  else
    (zl (gC 10 x0) fun _ => zb (f_X10_firstLike N x0 x2 σ) fun v1 σ2 =>
    if v1 = x2 then
      (again4 (x1 + 1, x2 + 1, σ2))
    else
      (again4 (x1, x2 + 1, σ2)))
def f_X10_unlikeFamilies (N : Nat) (x0 : Nat) (σ : zS) : Option (Int32 × zS) :=
  zlp (F_X10_unlikeFamilies_4 N x0) N (0, 0, σ)
set_option maxHeartbeats 4000000 in
set_option maxRecDepth 100000 in
theorem c_X10_unlikeFamilies (l : Launch) (D : va_G) (c : zC) (o : Nat) (g : zEp) (N : Nat) {x0 : Nat} {σ : zS} {ρ : Int32 × zS} (h : f_X10_unlikeFamilies N x0 σ = some ρ) : Met l yX10_unlikeFamilies zs_X10_unlikeFamilies (zr 6) (va_Pc [.ref (o + x0)] (zG D c o g σ)) (zQi D c o g ρ) 0 0 (zA o) := by
  refine zMetG (by decide) (Nat.le_of_ble_eq_true rfl) ?_
  intro p e s m below meth cd ⟨hx, hb, hr, hml, hown, hts, hlocks⟩ hP hK hE ls hl
  have hS : va_S (zA o) s.heap s.heap [] := va_S.rf
  have hl : lv_has ls 3 [(0, .ref (o + x0))] := hl
  rw [f_X10_unlikeFamilies.eq_1] at h
  refine lv_iconst (pc := 0) (v := 0) hx hb dX10_unlikeFamilies_0 (by decide) ?_
  refine lv_istore_n (pc := 1) (lv' := [(1, .int 0), (0, .ref (o + x0))]) hx hb dX10_unlikeFamilies_1 rfl hl (by decide) rfl (fun ls hl => ?_)
  refine lv_iconst (pc := 2) (v := 0) hx hb dX10_unlikeFamilies_2 (by decide) ?_
  refine lv_istore_n (pc := 3) (lv' := [(2, .int 0), (1, .int 0), (0, .ref (o + x0))]) hx hb dX10_unlikeFamilies_3 rfl hl (by decide) rfl (fun ls hl => ?_)
  have L4_1 : ∀ (n : Nat) (t : Int32 × Int32 × zS), zlp (F_X10_unlikeFamilies_4 N x0) n t = some ρ → ∀ (H : Heap) (locs : List Loc) (ls : Array Slot), zP D c o (zabs o (t.2.2)) H → va_S (zA o) s.heap H locs → lv_has ls 3 [(1, .int (t.1)), (2, .int (t.2.1)), (0, .ref (o + x0))] → W p l e (zr 6) s m (([.ref (o + x0)] : List Value).toArray) below meth cd H locs 0 0 (MQ below (zQi D c o g ρ) (([.ref (o + x0)] : List Value).toArray) s 0 0 (zA o)) (F0 m 4 ls []) := by
    refine zlp_ind (fun ag1 ih1 t h H locs ls hP hS hl => ?_)
    obtain ⟨x1_1, x2_1, σ1⟩ := t
    have hP : zP D c o (zabs o σ1) H := hP
    have hl : lv_has ls 3 [(1, .int x1_1), (2, .int x2_1), (0, .ref (o + x0))] := hl
    rw [F_X10_unlikeFamilies_4.eq_1] at h
    show W p l e (zr 6) s m (([.ref (o + x0)] : List Value).toArray) below meth cd H locs 0 0 (MQ below (zQi D c o g ρ) (([.ref (o + x0)] : List Value).toArray) s 0 0 (zA o)) (F0 m 4 ls [])
    refine lv_iload_n (pc := 4) hx hb dX10_unlikeFamilies_4 rfl (lv_at hl 1 rfl) ?_
    refine lv_bipush (pc := 5) (v := 10) hx hb dX10_unlikeFamilies_5 (by decide) ?_
    refine lv_icmp_ge (pc := 7) (tgt := 28) hx hb dX10_unlikeFamilies_7 (by decide) (fun c1 => ?_) (fun c1 => ?_)
    · rw [if_pos c1] at h
      refine lv_iload_n (pc := 28) hx hb dX10_unlikeFamilies_28 rfl (lv_at hl 0 rfl) ?_
      exact xreti (pc := 29) hx hb hr hlocks hP hK hE hS h dX10_unlikeFamilies_29
    · rw [if_neg c1] at h
      refine lv_aload_n (pc := 10) hx hb dX10_unlikeFamilies_10 rfl (lv_at hl 2 rfl) ?_
      refine lv_iload_n (pc := 11) hx hb dX10_unlikeFamilies_11 rfl (lv_at hl 1 rfl) ?_
      obtain ⟨_, hg, h⟩ := zl_some h
      obtain ⟨v2, σ3, hv, h⟩ := zb_some h
      refine xcallVi (pc := 12) (As := [.int x2_1]) (rest := []) ⟨hx, hb, hml, hown, hts⟩ (c_X10_firstLike l D c o g N hv) zc10 zV_X10_62 rfl zd_X10_firstLike ⟨Nat.le_of_ble_eq_true rfl, Nat.le_of_ble_eq_true rfl⟩ hK hP hE hS hg hl.1 rfl (Nat.le_of_ble_eq_true rfl) ⟨Nat.zero_le _, Nat.zero_le _⟩ dX10_unlikeFamilies_12 (fun H locs hP hS => ?_)
      refine lv_iload_n (pc := 15) hx hb dX10_unlikeFamilies_15 rfl (lv_at hl 1 rfl) ?_
      refine lv_icmp_ne (pc := 16) (tgt := 22) hx hb dX10_unlikeFamilies_16 (by decide) (fun c1 => ?_) (fun c1 => ?_)
      · rw [if_neg c1] at h
        refine lv_iinc (pc := 22) (v := x2_1 + 1) (lv' := [(2, .int (x2_1 + 1)), (1, .int x1_1), (0, .ref (o + x0))]) hx hb dX10_unlikeFamilies_22 hl (k := 1) rfl rfl (by decide) rfl (fun ls hl => ?_)
        refine lv_goto (pc := 25) (tgt := 4) hx hb dX10_unlikeFamilies_25 (by decide) ?_
        exact ih1 (x1_1, x2_1 + 1, σ3) h _ _ ls hP hS (lv_sub hl [1, 0, 2] rfl)
      · rw [if_pos c1] at h
        refine lv_iinc (pc := 19) (v := x1_1 + 1) (lv' := [(1, .int (x1_1 + 1)), (2, .int x2_1), (0, .ref (o + x0))]) hx hb dX10_unlikeFamilies_19 hl (k := 0) rfl rfl (by decide) rfl (fun ls hl => ?_)
        refine lv_iinc (pc := 22) (v := x2_1 + 1) (lv' := [(2, .int (x2_1 + 1)), (1, .int (x1_1 + 1)), (0, .ref (o + x0))]) hx hb dX10_unlikeFamilies_22 hl (k := 1) rfl rfl (by decide) rfl (fun ls hl => ?_)
        refine lv_goto (pc := 25) (tgt := 4) hx hb dX10_unlikeFamilies_25 (by decide) ?_
        exact ih1 (x1_1 + 1, x2_1 + 1, σ3) h _ _ ls hP hS (lv_sub hl [1, 0, 2] rfl)
  exact L4_1 N (0, 0, σ) h _ _ ls hP hS (lv_sub hl [1, 0, 2] rfl)
def F_X11_tapeNumber_2 (N : Nat) (x0 : Nat) (x1 : Int32) (x2 : Int32) (again2 : (Int32 × zS) → Option (Unit × zS)) : Int32 × zS → Option (Unit × zS)
  | (x3, σ) =>
  if 4 ≤ x3 then
    (some ((), σ))
  else
    (if x2 < 0 then
      (again2 (x3 + 1, σ))
    else
      (if 600 ≤ (x2 + x3) then
        (again2 (x3 + 1, σ))
      else
        (zl (gR 11 0 x0 σ) fun v1 =>
        zl (sI 13 v1 (x2 + x3) ((Int32.toInt8 (zus x1 (24 - (8 * x3)))).toInt32) σ) fun σ2 =>
        again2 (x3 + 1, σ2))))
def f_X11_tapeNumber (N : Nat) (x0 : Nat) (x1 : Int32) (x2 : Int32) (σ : zS) : Option (Unit × zS) :=
  zlp (F_X11_tapeNumber_2 N x0 x1 x2) N (0, σ)
set_option maxHeartbeats 4000000 in
set_option maxRecDepth 100000 in
theorem c_X11_tapeNumber (l : Launch) (D : va_G) (c : zC) (o : Nat) (g : zEp) (N : Nat) {x0 : Nat} {x1 : Int32} {x2 : Int32} {σ : zS} {ρ : Unit × zS} (h : f_X11_tapeNumber N x0 x1 x2 σ = some ρ) : Met l yX11_tapeNumber zs_X11_tapeNumber (zr 2) (va_Pc [.ref (o + x0), .int x1, .int x2] (zG D c o g σ)) (zQu D c o g ρ) 0 0 (zA o) := by
  refine zMetG (by decide) (Nat.le_of_ble_eq_true rfl) ?_
  intro p e s m below meth cd ⟨hx, hb, hr, hml, hown, hts, hlocks⟩ hP hK hE ls hl
  have hS : va_S (zA o) s.heap s.heap [] := va_S.rf
  have hl : lv_has ls 4 [(0, .ref (o + x0)), (1, .int x1), (2, .int x2)] := hl
  rw [f_X11_tapeNumber.eq_1] at h
  refine lv_iconst (pc := 0) (v := 0) hx hb dX11_tapeNumber_0 (by decide) ?_
  refine lv_istore_n (pc := 1) (lv' := [(3, .int 0), (0, .ref (o + x0)), (1, .int x1), (2, .int x2)]) hx hb dX11_tapeNumber_1 rfl hl (by decide) rfl (fun ls hl => ?_)
  have L2_1 : ∀ (n : Nat) (t : Int32 × zS), zlp (F_X11_tapeNumber_2 N x0 x1 x2) n t = some ρ → ∀ (H : Heap) (locs : List Loc) (ls : Array Slot), zP D c o (zabs o (t.2)) H → va_S (zA o) s.heap H locs → lv_has ls 4 [(3, .int (t.1)), (0, .ref (o + x0)), (1, .int x1), (2, .int x2)] → W p l e (zr 2) s m (([.ref (o + x0), .int x1, .int x2] : List Value).toArray) below meth cd H locs 0 0 (MQ below (zQu D c o g ρ) (([.ref (o + x0), .int x1, .int x2] : List Value).toArray) s 0 0 (zA o)) (F0 m 2 ls []) := by
    refine zlp_ind (fun ag1 ih1 t h H locs ls hP hS hl => ?_)
    obtain ⟨x3_1, σ1⟩ := t
    have hP : zP D c o (zabs o σ1) H := hP
    have hl : lv_has ls 4 [(3, .int x3_1), (0, .ref (o + x0)), (1, .int x1), (2, .int x2)] := hl
    rw [F_X11_tapeNumber_2.eq_1] at h
    show W p l e (zr 2) s m (([.ref (o + x0), .int x1, .int x2] : List Value).toArray) below meth cd H locs 0 0 (MQ below (zQu D c o g ρ) (([.ref (o + x0), .int x1, .int x2] : List Value).toArray) s 0 0 (zA o)) (F0 m 2 ls [])
    refine lv_iload_n (pc := 2) hx hb dX11_tapeNumber_2 rfl (lv_at hl 0 rfl) ?_
    refine lv_iconst (pc := 3) (v := 4) hx hb dX11_tapeNumber_3 (by decide) ?_
    refine lv_icmp_ge (pc := 4) (tgt := 44) hx hb dX11_tapeNumber_4 (by decide) (fun c1 => ?_) (fun c1 => ?_)
    · rw [if_pos c1] at h
      exact xretv (pc := 44) hx hb hr hlocks hP hK hE hS h dX11_tapeNumber_44
    · rw [if_neg c1] at h
      refine lv_iload_n (pc := 7) hx hb dX11_tapeNumber_7 rfl (lv_at hl 3 rfl) ?_
      refine lv_if_lt (pc := 8) (tgt := 38) hx hb dX11_tapeNumber_8 (by decide) (fun c1 => ?_) (fun c1 => ?_)
      · rw [if_pos c1] at h
        refine lv_iinc (pc := 38) (v := x3_1 + 1) (lv' := [(3, .int (x3_1 + 1)), (0, .ref (o + x0)), (1, .int x1), (2, .int x2)]) hx hb dX11_tapeNumber_38 hl (k := 0) rfl rfl (by decide) rfl (fun ls hl => ?_)
        refine lv_goto (pc := 41) (tgt := 2) hx hb dX11_tapeNumber_41 (by decide) ?_
        exact ih1 (x3_1 + 1, σ1) h _ _ ls hP hS (lv_sub hl [0, 1, 2, 3] rfl)
      · rw [if_neg c1] at h
        refine lv_iload_n (pc := 11) hx hb dX11_tapeNumber_11 rfl (lv_at hl 3 rfl) ?_
        refine lv_iload_n (pc := 12) hx hb dX11_tapeNumber_12 rfl (lv_at hl 0 rfl) ?_
        refine lv_iadd (pc := 13) hx hb dX11_tapeNumber_13 ?_
        refine lv_sipush (pc := 14) (v := 600) hx hb dX11_tapeNumber_14 (by decide) ?_
        refine lv_icmp_ge (pc := 17) (tgt := 38) hx hb dX11_tapeNumber_17 (by decide) (fun c1 => ?_) (fun c1 => ?_)
        · rw [if_pos c1] at h
          refine lv_iinc (pc := 38) (v := x3_1 + 1) (lv' := [(3, .int (x3_1 + 1)), (0, .ref (o + x0)), (1, .int x1), (2, .int x2)]) hx hb dX11_tapeNumber_38 hl (k := 0) rfl rfl (by decide) rfl (fun ls hl => ?_)
          refine lv_goto (pc := 41) (tgt := 2) hx hb dX11_tapeNumber_41 (by decide) ?_
          exact ih1 (x3_1 + 1, σ1) h _ _ ls hP hS (lv_sub hl [0, 1, 2, 3] rfl)
        · rw [if_neg c1] at h
          refine lv_aload_n (pc := 20) hx hb dX11_tapeNumber_20 rfl (lv_at hl 1 rfl) ?_
          obtain ⟨v2, hv, h⟩ := zl_some h
          refine xgR (pc := 21) (j := 0) zc11 hx hb hts hown hK hP hv rfl zf_X11_9 dX11_tapeNumber_21 ?_
          refine lv_iload_n (pc := 24) hx hb dX11_tapeNumber_24 rfl (lv_at hl 3 rfl) ?_
          refine lv_iload_n (pc := 25) hx hb dX11_tapeNumber_25 rfl (lv_at hl 0 rfl) ?_
          refine lv_iadd (pc := 26) hx hb dX11_tapeNumber_26 ?_
          refine lv_iload_n (pc := 27) hx hb dX11_tapeNumber_27 rfl (lv_at hl 2 rfl) ?_
          refine lv_bipush (pc := 28) (v := 24) hx hb dX11_tapeNumber_28 (by decide) ?_
          refine lv_bipush (pc := 30) (v := 8) hx hb dX11_tapeNumber_30 (by decide) ?_
          refine lv_iload_n (pc := 32) hx hb dX11_tapeNumber_32 rfl (lv_at hl 0 rfl) ?_
          refine lv_imul (pc := 33) hx hb dX11_tapeNumber_33 ?_
          refine lv_isub (pc := 34) hx hb dX11_tapeNumber_34 ?_
          refine lv_iushr (pc := 35) (v := zus x1 (24 - (8 * x3_1))) hx hb dX11_tapeNumber_35 rfl ?_
          refine lv_i2b (pc := 36) hx hb dX11_tapeNumber_36 rfl ?_
          obtain ⟨σ3, hv, h⟩ := zl_some h
          refine xsB (pc := 37) hx hb hK hP hS hv dX11_tapeNumber_37 (fun H locs hP hS => ?_)
          refine lv_iinc (pc := 38) (v := x3_1 + 1) (lv' := [(3, .int (x3_1 + 1)), (0, .ref (o + x0)), (1, .int x1), (2, .int x2)]) hx hb dX11_tapeNumber_38 hl (k := 0) rfl rfl (by decide) rfl (fun ls hl => ?_)
          refine lv_goto (pc := 41) (tgt := 2) hx hb dX11_tapeNumber_41 (by decide) ?_
          exact ih1 (x3_1 + 1, σ3) h _ _ ls hP hS (lv_sub hl [0, 1, 2, 3] rfl)
  exact L2_1 N (0, σ) h _ _ ls hP hS (lv_sub hl [0, 1, 2, 3] rfl)
def f_X11_feed (N : Nat) (x0 : Nat) (x1 : Int32) (x2 : Int32) (x3 : Int32) (x4 : Int32) (x5 : Int32) (σ : zS) : Option (Int32 × zS) :=
  zl (gI 11 1 x0 σ) fun v1 =>
  if v1 < 0 then
    (some ((-1), σ))
  else
    (zl (gI 11 1 x0 σ) fun v2 =>
    if (v2 + 20) ≤ 600 then
      (zl (gI 11 1 x0 σ) fun v3 =>
      zl (gC 11 x0) fun _ => zb (f_X11_tapeNumber N x0 x1 v3 σ) fun v4 σ5 =>
      zl (gI 11 1 x0 σ5) fun v6 =>
      zl (gC 11 x0) fun _ => zb (f_X11_tapeNumber N x0 x2 (v6 + 4) σ5) fun v7 σ8 =>
      zl (gI 11 1 x0 σ8) fun v9 =>
      zl (gC 11 x0) fun _ => zb (f_X11_tapeNumber N x0 x3 (v9 + 8) σ8) fun v10 σ11 =>
      zl (gI 11 1 x0 σ11) fun v12 =>
      zl (gC 11 x0) fun _ => zb (f_X11_tapeNumber N x0 x4 (v12 + 12) σ11) fun v13 σ14 =>
      zl (gI 11 1 x0 σ14) fun v15 =>
      zl (gC 11 x0) fun _ => zb (f_X11_tapeNumber N x0 x5 (v15 + 16) σ14) fun v16 σ17 =>
      zl (gI 11 1 x0 σ17) fun v18 =>
      zl (pI 11 1 x0 (v18 + 20) σ17) fun σ19 =>
      zl (gI 11 1 x0 σ19) fun v20 =>
      some (v20, σ19))
    else
      (some ((-1), σ)))
set_option maxHeartbeats 4000000 in
set_option maxRecDepth 100000 in
theorem c_X11_feed (l : Launch) (D : va_G) (c : zC) (o : Nat) (g : zEp) (N : Nat) {x0 : Nat} {x1 : Int32} {x2 : Int32} {x3 : Int32} {x4 : Int32} {x5 : Int32} {σ : zS} {ρ : Int32 × zS} (h : f_X11_feed N x0 x1 x2 x3 x4 x5 σ = some ρ) : Met l yX11_feed zs_X11_feed (zr 4) (va_Pc [.ref (o + x0), .int x1, .int x2, .int x3, .int x4, .int x5] (zG D c o g σ)) (zQi D c o g ρ) 0 0 (zA o) := by
  refine zMetG (by decide) (Nat.le_of_ble_eq_true rfl) ?_
  intro p e s m below meth cd ⟨hx, hb, hr, hml, hown, hts, hlocks⟩ hP hK hE ls hl
  have hS : va_S (zA o) s.heap s.heap [] := va_S.rf
  have hl : lv_has ls 6 [(0, .ref (o + x0)), (1, .int x1), (2, .int x2), (3, .int x3), (4, .int x4), (5, .int x5)] := hl
  rw [f_X11_feed.eq_1] at h
  refine lv_aload_n (pc := 0) hx hb dX11_feed_0 rfl (lv_at hl 0 rfl) ?_
  obtain ⟨v1, hv, h⟩ := zl_some h
  refine xgI (pc := 1) (j := 1) zc11 hx hb hts hown hK hP hv rfl zf_X11_13 dX11_feed_1 ?_
  refine lv_if_lt (pc := 4) (tgt := 20) hx hb dX11_feed_4 (by decide) (fun c1 => ?_) (fun c1 => ?_)
  · rw [if_pos c1] at h
    refine lv_iconst (pc := 20) (v := (-1)) hx hb dX11_feed_20 (by decide) ?_
    exact xreti (pc := 21) hx hb hr hlocks hP hK hE hS h dX11_feed_21
  · rw [if_neg c1] at h
    refine lv_aload_n (pc := 7) hx hb dX11_feed_7 rfl (lv_at hl 0 rfl) ?_
    obtain ⟨v2, hv, h⟩ := zl_some h
    refine xgI (pc := 8) (j := 1) zc11 hx hb hts hown hK hP hv rfl zf_X11_13 dX11_feed_8 ?_
    refine lv_bipush (pc := 11) (v := 20) hx hb dX11_feed_11 (by decide) ?_
    refine lv_iadd (pc := 13) hx hb dX11_feed_13 ?_
    refine lv_sipush (pc := 14) (v := 600) hx hb dX11_feed_14 (by decide) ?_
    refine lv_icmp_le (pc := 17) (tgt := 22) hx hb dX11_feed_17 (by decide) (fun c1 => ?_) (fun c1 => ?_)
    · rw [if_pos c1] at h
      refine lv_aload_n (pc := 22) hx hb dX11_feed_22 rfl (lv_at hl 0 rfl) ?_
      refine lv_iload_n (pc := 23) hx hb dX11_feed_23 rfl (lv_at hl 1 rfl) ?_
      refine lv_aload_n (pc := 24) hx hb dX11_feed_24 rfl (lv_at hl 0 rfl) ?_
      obtain ⟨v3, hv, h⟩ := zl_some h
      refine xgI (pc := 25) (j := 1) zc11 hx hb hts hown hK hP hv rfl zf_X11_13 dX11_feed_25 ?_
      obtain ⟨_, hg, h⟩ := zl_some h
      obtain ⟨v4, σ5, hv, h⟩ := zb_some h
      refine xcallVv (pc := 28) (As := [.int x1, .int v3]) (rest := []) ⟨hx, hb, hml, hown, hts⟩ (c_X11_tapeNumber l D c o g N hv) zc11 zV_X11_114 rfl zd_X11_tapeNumber ⟨Nat.le_of_ble_eq_true rfl, Nat.le_of_ble_eq_true rfl⟩ hK hP hE hS hg hl.1 rfl (Nat.le_of_ble_eq_true rfl) ⟨Nat.zero_le _, Nat.zero_le _⟩ dX11_feed_28 (fun H locs hP hS => ?_)
      refine lv_aload_n (pc := 31) hx hb dX11_feed_31 rfl (lv_at hl 0 rfl) ?_
      refine lv_iload_n (pc := 32) hx hb dX11_feed_32 rfl (lv_at hl 2 rfl) ?_
      refine lv_aload_n (pc := 33) hx hb dX11_feed_33 rfl (lv_at hl 0 rfl) ?_
      obtain ⟨v6, hv, h⟩ := zl_some h
      refine xgI (pc := 34) (j := 1) zc11 hx hb hts hown hK hP hv rfl zf_X11_13 dX11_feed_34 ?_
      refine lv_iconst (pc := 37) (v := 4) hx hb dX11_feed_37 (by decide) ?_
      refine lv_iadd (pc := 38) hx hb dX11_feed_38 ?_
      obtain ⟨_, hg, h⟩ := zl_some h
      obtain ⟨v7, σ8, hv, h⟩ := zb_some h
      refine xcallVv (pc := 39) (As := [.int x2, .int (v6 + 4)]) (rest := []) ⟨hx, hb, hml, hown, hts⟩ (c_X11_tapeNumber l D c o g N hv) zc11 zV_X11_114 rfl zd_X11_tapeNumber ⟨Nat.le_of_ble_eq_true rfl, Nat.le_of_ble_eq_true rfl⟩ hK hP hE hS hg hl.1 rfl (Nat.le_of_ble_eq_true rfl) ⟨Nat.zero_le _, Nat.zero_le _⟩ dX11_feed_39 (fun H locs hP hS => ?_)
      refine lv_aload_n (pc := 42) hx hb dX11_feed_42 rfl (lv_at hl 0 rfl) ?_
      refine lv_iload_n (pc := 43) hx hb dX11_feed_43 rfl (lv_at hl 3 rfl) ?_
      refine lv_aload_n (pc := 44) hx hb dX11_feed_44 rfl (lv_at hl 0 rfl) ?_
      obtain ⟨v9, hv, h⟩ := zl_some h
      refine xgI (pc := 45) (j := 1) zc11 hx hb hts hown hK hP hv rfl zf_X11_13 dX11_feed_45 ?_
      refine lv_bipush (pc := 48) (v := 8) hx hb dX11_feed_48 (by decide) ?_
      refine lv_iadd (pc := 50) hx hb dX11_feed_50 ?_
      obtain ⟨_, hg, h⟩ := zl_some h
      obtain ⟨v10, σ11, hv, h⟩ := zb_some h
      refine xcallVv (pc := 51) (As := [.int x3, .int (v9 + 8)]) (rest := []) ⟨hx, hb, hml, hown, hts⟩ (c_X11_tapeNumber l D c o g N hv) zc11 zV_X11_114 rfl zd_X11_tapeNumber ⟨Nat.le_of_ble_eq_true rfl, Nat.le_of_ble_eq_true rfl⟩ hK hP hE hS hg hl.1 rfl (Nat.le_of_ble_eq_true rfl) ⟨Nat.zero_le _, Nat.zero_le _⟩ dX11_feed_51 (fun H locs hP hS => ?_)
      refine lv_aload_n (pc := 54) hx hb dX11_feed_54 rfl (lv_at hl 0 rfl) ?_
      refine lv_iload (pc := 55) hx hb dX11_feed_55 (lv_at hl 4 rfl) ?_
      refine lv_aload_n (pc := 57) hx hb dX11_feed_57 rfl (lv_at hl 0 rfl) ?_
      obtain ⟨v12, hv, h⟩ := zl_some h
      refine xgI (pc := 58) (j := 1) zc11 hx hb hts hown hK hP hv rfl zf_X11_13 dX11_feed_58 ?_
      refine lv_bipush (pc := 61) (v := 12) hx hb dX11_feed_61 (by decide) ?_
      refine lv_iadd (pc := 63) hx hb dX11_feed_63 ?_
      obtain ⟨_, hg, h⟩ := zl_some h
      obtain ⟨v13, σ14, hv, h⟩ := zb_some h
      refine xcallVv (pc := 64) (As := [.int x4, .int (v12 + 12)]) (rest := []) ⟨hx, hb, hml, hown, hts⟩ (c_X11_tapeNumber l D c o g N hv) zc11 zV_X11_114 rfl zd_X11_tapeNumber ⟨Nat.le_of_ble_eq_true rfl, Nat.le_of_ble_eq_true rfl⟩ hK hP hE hS hg hl.1 rfl (Nat.le_of_ble_eq_true rfl) ⟨Nat.zero_le _, Nat.zero_le _⟩ dX11_feed_64 (fun H locs hP hS => ?_)
      refine lv_aload_n (pc := 67) hx hb dX11_feed_67 rfl (lv_at hl 0 rfl) ?_
      refine lv_iload (pc := 68) hx hb dX11_feed_68 (lv_at hl 5 rfl) ?_
      refine lv_aload_n (pc := 70) hx hb dX11_feed_70 rfl (lv_at hl 0 rfl) ?_
      obtain ⟨v15, hv, h⟩ := zl_some h
      refine xgI (pc := 71) (j := 1) zc11 hx hb hts hown hK hP hv rfl zf_X11_13 dX11_feed_71 ?_
      refine lv_bipush (pc := 74) (v := 16) hx hb dX11_feed_74 (by decide) ?_
      refine lv_iadd (pc := 76) hx hb dX11_feed_76 ?_
      obtain ⟨_, hg, h⟩ := zl_some h
      obtain ⟨v16, σ17, hv, h⟩ := zb_some h
      refine xcallVv (pc := 77) (As := [.int x5, .int (v15 + 16)]) (rest := []) ⟨hx, hb, hml, hown, hts⟩ (c_X11_tapeNumber l D c o g N hv) zc11 zV_X11_114 rfl zd_X11_tapeNumber ⟨Nat.le_of_ble_eq_true rfl, Nat.le_of_ble_eq_true rfl⟩ hK hP hE hS hg hl.1 rfl (Nat.le_of_ble_eq_true rfl) ⟨Nat.zero_le _, Nat.zero_le _⟩ dX11_feed_77 (fun H locs hP hS => ?_)
      refine lv_aload_n (pc := 80) hx hb dX11_feed_80 rfl (lv_at hl 0 rfl) ?_
      refine lv_dup (pc := 81) hx hb dX11_feed_81 rfl ?_
      obtain ⟨v18, hv, h⟩ := zl_some h
      refine xgI (pc := 82) (j := 1) zc11 hx hb hts hown hK hP hv rfl zf_X11_13 dX11_feed_82 ?_
      refine lv_bipush (pc := 85) (v := 20) hx hb dX11_feed_85 (by decide) ?_
      refine lv_iadd (pc := 87) hx hb dX11_feed_87 ?_
      obtain ⟨σ19, hv, h⟩ := zl_some h
      refine xpI (pc := 88) (j := 1) zc11 hx hb hts hown hK hP hS hv rfl rfl rfl zf_X11_13 dX11_feed_88 (fun H locs hP hS => ?_)
      refine lv_aload_n (pc := 91) hx hb dX11_feed_91 rfl (lv_at hl 0 rfl) ?_
      obtain ⟨v20, hv, h⟩ := zl_some h
      refine xgI (pc := 92) (j := 1) zc11 hx hb hts hown hK hP hv rfl zf_X11_13 dX11_feed_92 ?_
      exact xreti (pc := 95) hx hb hr hlocks hP hK hE hS h dX11_feed_95
    · rw [if_neg c1] at h
      refine lv_iconst (pc := 20) (v := (-1)) hx hb dX11_feed_20 (by decide) ?_
      exact xreti (pc := 21) hx hb hr hlocks hP hK hE hS h dX11_feed_21
def f_X11_end (N : Nat) (x0 : Nat) (x1 : Int32) (σ : zS) : Option (Int32 × zS) :=
  if x1 < 0 then
    (some ((-1), σ))
  else
    (zl (gI 11 1 x0 σ) fun v1 =>
    if x1 ≤ v1 then
      (zl (pI 11 1 x0 x1 σ) fun σ2 =>
      some (x1, σ2))
    else
      (some ((-1), σ)))
set_option maxHeartbeats 4000000 in
set_option maxRecDepth 100000 in
theorem c_X11_end (l : Launch) (D : va_G) (c : zC) (o : Nat) (g : zEp) (N : Nat) {x0 : Nat} {x1 : Int32} {σ : zS} {ρ : Int32 × zS} (h : f_X11_end N x0 x1 σ = some ρ) : Met l yX11_end zs_X11_end (zr 2) (va_Pc [.ref (o + x0), .int x1] (zG D c o g σ)) (zQi D c o g ρ) 0 0 (zA o) := by
  refine zMetG (by decide) (Nat.le_of_ble_eq_true rfl) ?_
  intro p e s m below meth cd ⟨hx, hb, hr, hml, hown, hts, hlocks⟩ hP hK hE ls hl
  have hS : va_S (zA o) s.heap s.heap [] := va_S.rf
  have hl : lv_has ls 2 [(0, .ref (o + x0)), (1, .int x1)] := hl
  rw [f_X11_end.eq_1] at h
  refine lv_iload_n (pc := 0) hx hb dX11_end_0 rfl (lv_at hl 1 rfl) ?_
  refine lv_if_lt (pc := 1) (tgt := 12) hx hb dX11_end_1 (by decide) (fun c1 => ?_) (fun c1 => ?_)
  · rw [if_pos c1] at h
    refine lv_iconst (pc := 12) (v := (-1)) hx hb dX11_end_12 (by decide) ?_
    exact xreti (pc := 13) hx hb hr hlocks hP hK hE hS h dX11_end_13
  · rw [if_neg c1] at h
    refine lv_iload_n (pc := 4) hx hb dX11_end_4 rfl (lv_at hl 1 rfl) ?_
    refine lv_aload_n (pc := 5) hx hb dX11_end_5 rfl (lv_at hl 0 rfl) ?_
    obtain ⟨v1, hv, h⟩ := zl_some h
    refine xgI (pc := 6) (j := 1) zc11 hx hb hts hown hK hP hv rfl zf_X11_13 dX11_end_6 ?_
    refine lv_icmp_le (pc := 9) (tgt := 14) hx hb dX11_end_9 (by decide) (fun c1 => ?_) (fun c1 => ?_)
    · rw [if_pos c1] at h
      refine lv_aload_n (pc := 14) hx hb dX11_end_14 rfl (lv_at hl 0 rfl) ?_
      refine lv_iload_n (pc := 15) hx hb dX11_end_15 rfl (lv_at hl 1 rfl) ?_
      obtain ⟨σ2, hv, h⟩ := zl_some h
      refine xpI (pc := 16) (j := 1) zc11 hx hb hts hown hK hP hS hv rfl rfl rfl zf_X11_13 dX11_end_16 (fun H locs hP hS => ?_)
      refine lv_iload_n (pc := 19) hx hb dX11_end_19 rfl (lv_at hl 1 rfl) ?_
      exact xreti (pc := 20) hx hb hr hlocks hP hK hE hS h dX11_end_20
    · rw [if_neg c1] at h
      refine lv_iconst (pc := 12) (v := (-1)) hx hb dX11_end_12 (by decide) ?_
      exact xreti (pc := 13) hx hb hr hlocks hP hK hE hS h dX11_end_13
def f_X11_takeFault (N : Nat) (x0 : Nat) (σ : zS) : Option (Unit × zS) :=
  zl (pI 11 1 x0 0 σ) fun σ1 =>
  zl (gR 11 9 x0 σ1) fun v2 =>
  zl (gI 5 0 v2 σ1) fun v3 =>
  zl (pI 11 2 x0 v3 σ1) fun σ4 =>
  zl (gR 11 9 x0 σ4) fun v5 =>
  zl (gI 5 1 v5 σ4) fun v6 =>
  zl (pI 11 3 x0 v6 σ4) fun σ7 =>
  some ((), σ7)
set_option maxHeartbeats 4000000 in
set_option maxRecDepth 100000 in
theorem c_X11_takeFault (l : Launch) (D : va_G) (c : zC) (o : Nat) (g : zEp) (N : Nat) {x0 : Nat} {σ : zS} {ρ : Unit × zS} (h : f_X11_takeFault N x0 σ = some ρ) : Met l yX11_takeFault zs_X11_takeFault (zr 2) (va_Pc [.ref (o + x0)] (zG D c o g σ)) (zQu D c o g ρ) 0 0 (zA o) := by
  refine zMetG (by decide) (Nat.le_of_ble_eq_true rfl) ?_
  intro p e s m below meth cd ⟨hx, hb, hr, hml, hown, hts, hlocks⟩ hP hK hE ls hl
  have hS : va_S (zA o) s.heap s.heap [] := va_S.rf
  have hl : lv_has ls 1 [(0, .ref (o + x0))] := hl
  rw [f_X11_takeFault.eq_1] at h
  refine lv_aload_n (pc := 0) hx hb dX11_takeFault_0 rfl (lv_at hl 0 rfl) ?_
  refine lv_iconst (pc := 1) (v := 0) hx hb dX11_takeFault_1 (by decide) ?_
  obtain ⟨σ1, hv, h⟩ := zl_some h
  refine xpI (pc := 2) (j := 1) zc11 hx hb hts hown hK hP hS hv rfl rfl rfl zf_X11_13 dX11_takeFault_2 (fun H locs hP hS => ?_)
  refine lv_aload_n (pc := 5) hx hb dX11_takeFault_5 rfl (lv_at hl 0 rfl) ?_
  refine lv_aload_n (pc := 6) hx hb dX11_takeFault_6 rfl (lv_at hl 0 rfl) ?_
  obtain ⟨v2, hv, h⟩ := zl_some h
  refine xgR (pc := 7) (j := 9) zc11 hx hb hts hown hK hP hv rfl zf_X11_50 dX11_takeFault_7 ?_
  obtain ⟨v3, hv, h⟩ := zl_some h
  refine xgI (pc := 10) (j := 0) zc5 hx hb hts hown hK hP hv rfl zf_X11_353 dX11_takeFault_10 ?_
  obtain ⟨σ4, hv, h⟩ := zl_some h
  refine xpI (pc := 13) (j := 2) zc11 hx hb hts hown hK hP hS hv rfl rfl rfl zf_X11_17 dX11_takeFault_13 (fun H locs hP hS => ?_)
  refine lv_aload_n (pc := 16) hx hb dX11_takeFault_16 rfl (lv_at hl 0 rfl) ?_
  refine lv_aload_n (pc := 17) hx hb dX11_takeFault_17 rfl (lv_at hl 0 rfl) ?_
  obtain ⟨v5, hv, h⟩ := zl_some h
  refine xgR (pc := 18) (j := 9) zc11 hx hb hts hown hK hP hv rfl zf_X11_50 dX11_takeFault_18 ?_
  obtain ⟨v6, hv, h⟩ := zl_some h
  refine xgI (pc := 21) (j := 1) zc5 hx hb hts hown hK hP hv rfl zf_X11_354 dX11_takeFault_21 ?_
  obtain ⟨σ7, hv, h⟩ := zl_some h
  refine xpI (pc := 24) (j := 3) zc11 hx hb hts hown hK hP hS hv rfl rfl rfl zf_X11_20 dX11_takeFault_24 (fun H locs hP hS => ?_)
  exact xretv (pc := 27) hx hb hr hlocks hP hK hE hS h dX11_takeFault_27
def f_X11_world (N : Nat) (x0 : Nat) (σ : zS) : Option (Int32 × zS) :=
  zl (gR 11 5 x0 σ) fun v1 =>
  zl (gC 10 v1) fun _ => zb (f_X10_clear N v1 σ) fun v2 σ3 =>
  zl (gR 11 9 x0 σ3) fun v4 =>
  zl (gR 11 0 x0 σ3) fun v5 =>
  zl (gI 11 1 x0 σ3) fun v6 =>
  zl (gR 11 5 x0 σ3) fun v7 =>
  zl (gC 5 v4) fun _ => zb (f_X5_readWorld N v4 v5 v6 v7 σ3) fun v8 σ9 =>
  zl (gC 11 x0) fun _ => zb (f_X11_takeFault N x0 σ9) fun v10 σ11 =>
  if v8 = 0 then
    (some ((-4), σ11))
  else
    (zl (gR 11 10 x0 σ11) fun v12 =>
    zl (gR 11 9 x0 σ11) fun v13 =>
    zl (gR 11 5 x0 σ11) fun v14 =>
    zl (gR 11 11 x0 σ11) fun v15 =>
    zl (gC 7 v12) fun _ => zb (f_X7_run N v12 v13 v14 v15 σ11) fun v16 σ17 =>
    zl (gR 11 4 x0 σ17) fun v18 =>
    zl (gR 11 5 x0 σ17) fun v19 =>
    zl (pR 11 4 x0 v19 σ17) fun σ20 =>
    zl (pR 11 5 x0 v18 σ20) fun σ21 =>
    zl (gR 11 4 x0 σ21) fun v22 =>
    zl (gI 10 1 v22 σ21) fun v23 =>
    some (v23, σ21))
set_option maxHeartbeats 4000000 in
set_option maxRecDepth 100000 in
theorem c_X11_world (l : Launch) (D : va_G) (c : zC) (o : Nat) (g : zEp) (N : Nat) {x0 : Nat} {σ : zS} {ρ : Int32 × zS} (h : f_X11_world N x0 σ = some ρ) : Met l yX11_world zs_X11_world (zr 38) (va_Pc [.ref (o + x0)] (zG D c o g σ)) (zQi D c o g ρ) 0 0 (zA o) := by
  refine zMetG (by decide) (Nat.le_of_ble_eq_true rfl) ?_
  intro p e s m below meth cd ⟨hx, hb, hr, hml, hown, hts, hlocks⟩ hP hK hE ls hl
  have hS : va_S (zA o) s.heap s.heap [] := va_S.rf
  have hl : lv_has ls 3 [(0, .ref (o + x0))] := hl
  rw [f_X11_world.eq_1] at h
  refine lv_aload_n (pc := 0) hx hb dX11_world_0 rfl (lv_at hl 0 rfl) ?_
  obtain ⟨v1, hv, h⟩ := zl_some h
  refine xgR (pc := 1) (j := 5) zc11 hx hb hts hown hK hP hv rfl zf_X11_30 dX11_world_1 ?_
  obtain ⟨_, hg, h⟩ := zl_some h
  obtain ⟨v2, σ3, hv, h⟩ := zb_some h
  refine xcallVv (pc := 4) (As := []) (rest := []) ⟨hx, hb, hml, hown, hts⟩ (c_X10_clear l D c o g N hv) zc10 zV_X11_118 rfl zd_X10_clear ⟨Nat.le_of_ble_eq_true rfl, Nat.le_of_ble_eq_true rfl⟩ hK hP hE hS hg hl.1 rfl (Nat.le_of_ble_eq_true rfl) ⟨Nat.zero_le _, Nat.zero_le _⟩ dX11_world_4 (fun H locs hP hS => ?_)
  refine lv_aload_n (pc := 7) hx hb dX11_world_7 rfl (lv_at hl 0 rfl) ?_
  obtain ⟨v4, hv, h⟩ := zl_some h
  refine xgR (pc := 8) (j := 9) zc11 hx hb hts hown hK hP hv rfl zf_X11_50 dX11_world_8 ?_
  refine lv_aload_n (pc := 11) hx hb dX11_world_11 rfl (lv_at hl 0 rfl) ?_
  obtain ⟨v5, hv, h⟩ := zl_some h
  refine xgR (pc := 12) (j := 0) zc11 hx hb hts hown hK hP hv rfl zf_X11_9 dX11_world_12 ?_
  refine lv_aload_n (pc := 15) hx hb dX11_world_15 rfl (lv_at hl 0 rfl) ?_
  obtain ⟨v6, hv, h⟩ := zl_some h
  refine xgI (pc := 16) (j := 1) zc11 hx hb hts hown hK hP hv rfl zf_X11_13 dX11_world_16 ?_
  refine lv_aload_n (pc := 19) hx hb dX11_world_19 rfl (lv_at hl 0 rfl) ?_
  obtain ⟨v7, hv, h⟩ := zl_some h
  refine xgR (pc := 20) (j := 5) zc11 hx hb hts hown hK hP hv rfl zf_X11_30 dX11_world_20 ?_
  obtain ⟨_, hg, h⟩ := zl_some h
  obtain ⟨v8, σ9, hv, h⟩ := zb_some h
  refine xcallVi (pc := 23) (As := [.ref (o + v5), .int v6, .ref (o + v7)]) (rest := []) ⟨hx, hb, hml, hown, hts⟩ (c_X5_readWorld l D c o g N hv) zc5 zV_X11_121 rfl zd_X5_readWorld ⟨Nat.le_of_ble_eq_true rfl, Nat.le_of_ble_eq_true rfl⟩ hK hP hE hS hg hl.1 rfl (Nat.le_of_ble_eq_true rfl) ⟨Nat.zero_le _, Nat.zero_le _⟩ dX11_world_23 (fun H locs hP hS => ?_)
  refine lv_istore_n (pc := 26) (lv' := [(1, .int v8), (0, .ref (o + x0))]) hx hb dX11_world_26 rfl hl (by decide) rfl (fun ls hl => ?_)
  refine lv_aload_n (pc := 27) hx hb dX11_world_27 rfl (lv_at hl 1 rfl) ?_
  obtain ⟨_, hg, h⟩ := zl_some h
  obtain ⟨v10, σ11, hv, h⟩ := zb_some h
  refine xcallVv (pc := 28) (As := []) (rest := []) ⟨hx, hb, hml, hown, hts⟩ (c_X11_takeFault l D c o g N hv) zc11 zV_X11_125 rfl zd_X11_takeFault ⟨Nat.le_of_ble_eq_true rfl, Nat.le_of_ble_eq_true rfl⟩ hK hP hE hS hg hl.1 rfl (Nat.le_of_ble_eq_true rfl) ⟨Nat.zero_le _, Nat.zero_le _⟩ dX11_world_28 (fun H locs hP hS => ?_)
  refine lv_iload_n (pc := 31) hx hb dX11_world_31 rfl (lv_at hl 0 rfl) ?_
  refine lv_if_ne (pc := 32) (tgt := 38) hx hb dX11_world_32 (by decide) (fun c1 => ?_) (fun c1 => ?_)
  · rw [if_neg c1] at h
    refine lv_aload_n (pc := 38) hx hb dX11_world_38 rfl (lv_at hl 1 rfl) ?_
    obtain ⟨v12, hv, h⟩ := zl_some h
    refine xgR (pc := 39) (j := 10) zc11 hx hb hts hown hK hP hv rfl zf_X11_57 dX11_world_39 ?_
    refine lv_aload_n (pc := 42) hx hb dX11_world_42 rfl (lv_at hl 1 rfl) ?_
    obtain ⟨v13, hv, h⟩ := zl_some h
    refine xgR (pc := 43) (j := 9) zc11 hx hb hts hown hK hP hv rfl zf_X11_50 dX11_world_43 ?_
    refine lv_aload_n (pc := 46) hx hb dX11_world_46 rfl (lv_at hl 1 rfl) ?_
    obtain ⟨v14, hv, h⟩ := zl_some h
    refine xgR (pc := 47) (j := 5) zc11 hx hb hts hown hK hP hv rfl zf_X11_30 dX11_world_47 ?_
    refine lv_aload_n (pc := 50) hx hb dX11_world_50 rfl (lv_at hl 1 rfl) ?_
    obtain ⟨v15, hv, h⟩ := zl_some h
    refine xgR (pc := 51) (j := 11) zc11 hx hb hts hown hK hP hv rfl zf_X11_64 dX11_world_51 ?_
    obtain ⟨_, hg, h⟩ := zl_some h
    obtain ⟨v16, σ17, hv, h⟩ := zb_some h
    refine xcallVv (pc := 54) (As := [.ref (o + v13), .ref (o + v14), .ref (o + v15)]) (rest := []) ⟨hx, hb, hml, hown, hts⟩ (c_X7_run l D c o g N hv) zc7 zV_X11_128 rfl zd_X7_run ⟨Nat.le_of_ble_eq_true rfl, Nat.le_of_ble_eq_true rfl⟩ hK hP hE hS hg hl.1 rfl (Nat.le_of_ble_eq_true rfl) ⟨Nat.zero_le _, Nat.zero_le _⟩ dX11_world_54 (fun H locs hP hS => ?_)
    refine lv_aload_n (pc := 57) hx hb dX11_world_57 rfl (lv_at hl 1 rfl) ?_
    obtain ⟨v18, hv, h⟩ := zl_some h
    refine xgR (pc := 58) (j := 4) zc11 hx hb hts hown hK hP hv rfl zf_X11_26 dX11_world_58 ?_
    refine lv_astore_n (pc := 61) (lv' := [(2, .ref (o + v18)), (1, .int v8), (0, .ref (o + x0))]) hx hb dX11_world_61 rfl hl (by decide) rfl (fun ls hl => ?_)
    refine lv_aload_n (pc := 62) hx hb dX11_world_62 rfl (lv_at hl 2 rfl) ?_
    refine lv_aload_n (pc := 63) hx hb dX11_world_63 rfl (lv_at hl 2 rfl) ?_
    obtain ⟨v19, hv, h⟩ := zl_some h
    refine xgR (pc := 64) (j := 5) zc11 hx hb hts hown hK hP hv rfl zf_X11_30 dX11_world_64 ?_
    obtain ⟨σ20, hv, h⟩ := zl_some h
    refine xpR (pc := 67) (j := 4) zc11 hx hb hts hown hK hP hS hv rfl rfl rfl rfl zf_X11_26 dX11_world_67 (fun H locs hP hS => ?_)
    refine lv_aload_n (pc := 70) hx hb dX11_world_70 rfl (lv_at hl 2 rfl) ?_
    refine lv_aload_n (pc := 71) hx hb dX11_world_71 rfl (lv_at hl 0 rfl) ?_
    obtain ⟨σ21, hv, h⟩ := zl_some h
    refine xpR (pc := 72) (j := 5) zc11 hx hb hts hown hK hP hS hv rfl rfl rfl rfl zf_X11_30 dX11_world_72 (fun H locs hP hS => ?_)
    refine lv_aload_n (pc := 75) hx hb dX11_world_75 rfl (lv_at hl 2 rfl) ?_
    obtain ⟨v22, hv, h⟩ := zl_some h
    refine xgR (pc := 76) (j := 4) zc11 hx hb hts hown hK hP hv rfl zf_X11_26 dX11_world_76 ?_
    obtain ⟨v23, hv, h⟩ := zl_some h
    refine xgI (pc := 79) (j := 1) zc10 hx hb hts hown hK hP hv rfl zf_X11_132 dX11_world_79 ?_
    exact xreti (pc := 82) hx hb hr hlocks hP hK hE hS h dX11_world_82
  · rw [if_pos c1] at h
    refine lv_bipush (pc := 35) (v := (-4)) hx hb dX11_world_35 (by decide) ?_
    exact xreti (pc := 37) hx hb hr hlocks hP hK hE hS h dX11_world_37
def f_X11_isWorld (N : Nat) (x0 : Nat) (σ : zS) : Option (Int32 × zS) :=
  zl (gR 11 4 x0 σ) fun v1 =>
  zl (gI 10 0 v1 σ) fun v2 =>
  if v2 ≤ 0 then
    (rZ 0 σ)
  else
    (rZ 1 σ)
set_option maxHeartbeats 4000000 in
set_option maxRecDepth 100000 in
theorem c_X11_isWorld (l : Launch) (D : va_G) (c : zC) (o : Nat) (g : zEp) (N : Nat) {x0 : Nat} {σ : zS} {ρ : Int32 × zS} (h : f_X11_isWorld N x0 σ = some ρ) : Met l yX11_isWorld zs_X11_isWorld (zr 2) (va_Pc [.ref (o + x0)] (zG D c o g σ)) (zQi D c o g ρ) 0 0 (zA o) := by
  refine zMetG (by decide) (Nat.le_of_ble_eq_true rfl) ?_
  intro p e s m below meth cd ⟨hx, hb, hr, hml, hown, hts, hlocks⟩ hP hK hE ls hl
  have hS : va_S (zA o) s.heap s.heap [] := va_S.rf
  have hl : lv_has ls 1 [(0, .ref (o + x0))] := hl
  rw [f_X11_isWorld.eq_1] at h
  refine lv_aload_n (pc := 0) hx hb dX11_isWorld_0 rfl (lv_at hl 0 rfl) ?_
  obtain ⟨v1, hv, h⟩ := zl_some h
  refine xgR (pc := 1) (j := 4) zc11 hx hb hts hown hK hP hv rfl zf_X11_26 dX11_isWorld_1 ?_
  obtain ⟨v2, hv, h⟩ := zl_some h
  refine xgI (pc := 4) (j := 0) zc10 hx hb hts hown hK hP hv rfl zf_X11_139 dX11_isWorld_4 ?_
  refine lv_if_le (pc := 7) (tgt := 14) hx hb dX11_isWorld_7 (by decide) (fun c1 => ?_) (fun c1 => ?_)
  · rw [if_pos c1] at h
    refine lv_iconst (pc := 14) (v := 0) hx hb dX11_isWorld_14 (by decide) ?_
    exact xretz (pc := 15) hx hb hr hlocks hP hK hE hS h dX11_isWorld_15
  · rw [if_neg c1] at h
    refine lv_iconst (pc := 10) (v := 1) hx hb dX11_isWorld_10 (by decide) ?_
    refine lv_goto (pc := 11) (tgt := 15) hx hb dX11_isWorld_11 (by decide) ?_
    exact xretz (pc := 15) hx hb hr hlocks hP hK hE hS h dX11_isWorld_15
def f_X11_isRegister (N : Nat) (x0 : Nat) (x1 : Int32) (σ : zS) : Option (Int32 × zS) :=
  zl (gC 11 x0) fun _ => zb (f_X11_isWorld N x0 σ) fun v1 σ2 =>
  if v1 = 0 then
    (rZ 0 σ2)
  else
    (if x1 < 0 then
      (rZ 0 σ2)
    else
      (if 10 ≤ x1 then
        (rZ 0 σ2)
      else
        (rZ 1 σ2)))
set_option maxHeartbeats 4000000 in
set_option maxRecDepth 100000 in
theorem c_X11_isRegister (l : Launch) (D : va_G) (c : zC) (o : Nat) (g : zEp) (N : Nat) {x0 : Nat} {x1 : Int32} {σ : zS} {ρ : Int32 × zS} (h : f_X11_isRegister N x0 x1 σ = some ρ) : Met l yX11_isRegister zs_X11_isRegister (zr 4) (va_Pc [.ref (o + x0), .int x1] (zG D c o g σ)) (zQi D c o g ρ) 0 0 (zA o) := by
  refine zMetG (by decide) (Nat.le_of_ble_eq_true rfl) ?_
  intro p e s m below meth cd ⟨hx, hb, hr, hml, hown, hts, hlocks⟩ hP hK hE ls hl
  have hS : va_S (zA o) s.heap s.heap [] := va_S.rf
  have hl : lv_has ls 2 [(0, .ref (o + x0)), (1, .int x1)] := hl
  rw [f_X11_isRegister.eq_1] at h
  refine lv_aload_n (pc := 0) hx hb dX11_isRegister_0 rfl (lv_at hl 0 rfl) ?_
  obtain ⟨_, hg, h⟩ := zl_some h
  obtain ⟨v1, σ2, hv, h⟩ := zb_some h
  refine xcallVi (pc := 1) (As := []) (rest := []) ⟨hx, hb, hml, hown, hts⟩ (c_X11_isWorld l D c o g N hv) zc11 zV_X11_260 rfl zd_X11_isWorld ⟨Nat.le_of_ble_eq_true rfl, Nat.le_of_ble_eq_true rfl⟩ hK hP hE hS hg hl.1 rfl (Nat.le_of_ble_eq_true rfl) ⟨Nat.zero_le _, Nat.zero_le _⟩ dX11_isRegister_1 (fun H locs hP hS => ?_)
  refine lv_if_eq (pc := 4) (tgt := 21) hx hb dX11_isRegister_4 (by decide) (fun c1 => ?_) (fun c1 => ?_)
  · rw [if_pos c1] at h
    refine lv_iconst (pc := 21) (v := 0) hx hb dX11_isRegister_21 (by decide) ?_
    exact xretz (pc := 22) hx hb hr hlocks hP hK hE hS h dX11_isRegister_22
  · rw [if_neg c1] at h
    refine lv_iload_n (pc := 7) hx hb dX11_isRegister_7 rfl (lv_at hl 1 rfl) ?_
    refine lv_if_lt (pc := 8) (tgt := 21) hx hb dX11_isRegister_8 (by decide) (fun c1 => ?_) (fun c1 => ?_)
    · rw [if_pos c1] at h
      refine lv_iconst (pc := 21) (v := 0) hx hb dX11_isRegister_21 (by decide) ?_
      exact xretz (pc := 22) hx hb hr hlocks hP hK hE hS h dX11_isRegister_22
    · rw [if_neg c1] at h
      refine lv_iload_n (pc := 11) hx hb dX11_isRegister_11 rfl (lv_at hl 1 rfl) ?_
      refine lv_bipush (pc := 12) (v := 10) hx hb dX11_isRegister_12 (by decide) ?_
      refine lv_icmp_ge (pc := 14) (tgt := 21) hx hb dX11_isRegister_14 (by decide) (fun c1 => ?_) (fun c1 => ?_)
      · rw [if_pos c1] at h
        refine lv_iconst (pc := 21) (v := 0) hx hb dX11_isRegister_21 (by decide) ?_
        exact xretz (pc := 22) hx hb hr hlocks hP hK hE hS h dX11_isRegister_22
      · rw [if_neg c1] at h
        refine lv_iconst (pc := 17) (v := 1) hx hb dX11_isRegister_17 (by decide) ?_
        refine lv_goto (pc := 18) (tgt := 22) hx hb dX11_isRegister_18 (by decide) ?_
        exact xretz (pc := 22) hx hb hr hlocks hP hK hE hS h dX11_isRegister_22
def f_X11_put (N : Nat) (x0 : Nat) (x1 : Int32) (σ : zS) : Option (Int32 × zS) :=
  zl (gC 11 x0) fun _ => zb (f_X11_isRegister N x0 x1 σ) fun v1 σ2 =>
  if v1 = 0 then
    (zl (pI 11 1 x0 0 σ2) fun σ3 =>
    some ((-2), σ3))
  else
    (zl (gR 11 9 x0 σ2) fun v4 =>
    zl (gR 11 0 x0 σ2) fun v5 =>
    zl (gI 11 1 x0 σ2) fun v6 =>
    zl (gR 11 4 x0 σ2) fun v7 =>
    zl (gI 10 0 v7 σ2) fun v8 =>
    zl (gC 5 v4) fun _ => zb (f_X5_readSum N v4 v5 v6 v8 x1 σ2) fun v9 σ10 =>
    zl (gC 11 x0) fun _ => zb (f_X11_takeFault N x0 σ10) fun v11 σ12 =>
    if v9 = 0 then
      (some ((-4), σ12))
    else
      (zl (gR 11 10 x0 σ12) fun v13 =>
      zl (gR 11 9 x0 σ12) fun v14 =>
      zl (gR 11 4 x0 σ12) fun v15 =>
      zl (gR 11 11 x0 σ12) fun v16 =>
      zl (gC 7 v13) fun _ => zb (f_X7_run N v13 v14 v15 v16 σ12) fun v17 σ18 =>
      zl (gR 11 4 x0 σ18) fun v19 =>
      zl (gR 10 7 v19 σ18) fun v20 =>
      zl (aR 17 v20 x1 σ18) fun v21 =>
      zl (gC 2 v21) fun _ => zb (f_X2_tally N v21 σ18) fun v22 σ23 =>
      some (v22, σ23)))
set_option maxHeartbeats 4000000 in
set_option maxRecDepth 100000 in
theorem c_X11_put (l : Launch) (D : va_G) (c : zC) (o : Nat) (g : zEp) (N : Nat) {x0 : Nat} {x1 : Int32} {σ : zS} {ρ : Int32 × zS} (h : f_X11_put N x0 x1 σ = some ρ) : Met l yX11_put zs_X11_put (zr 36) (va_Pc [.ref (o + x0), .int x1] (zG D c o g σ)) (zQi D c o g ρ) 0 0 (zA o) := by
  refine zMetG (by decide) (Nat.le_of_ble_eq_true rfl) ?_
  intro p e s m below meth cd ⟨hx, hb, hr, hml, hown, hts, hlocks⟩ hP hK hE ls hl
  have hS : va_S (zA o) s.heap s.heap [] := va_S.rf
  have hl : lv_has ls 3 [(0, .ref (o + x0)), (1, .int x1)] := hl
  rw [f_X11_put.eq_1] at h
  refine lv_aload_n (pc := 0) hx hb dX11_put_0 rfl (lv_at hl 0 rfl) ?_
  refine lv_iload_n (pc := 1) hx hb dX11_put_1 rfl (lv_at hl 1 rfl) ?_
  obtain ⟨_, hg, h⟩ := zl_some h
  obtain ⟨v1, σ2, hv, h⟩ := zb_some h
  refine xcallVi (pc := 2) (As := [.int x1]) (rest := []) ⟨hx, hb, hml, hown, hts⟩ (c_X11_isRegister l D c o g N hv) zc11 zV_X11_135 rfl zd_X11_isRegister ⟨Nat.le_of_ble_eq_true rfl, Nat.le_of_ble_eq_true rfl⟩ hK hP hE hS hg hl.1 rfl (Nat.le_of_ble_eq_true rfl) ⟨Nat.zero_le _, Nat.zero_le _⟩ dX11_put_2 (fun H locs hP hS => ?_)
  refine lv_if_ne (pc := 5) (tgt := 16) hx hb dX11_put_5 (by decide) (fun c1 => ?_) (fun c1 => ?_)
  · rw [if_neg c1] at h
    refine lv_aload_n (pc := 16) hx hb dX11_put_16 rfl (lv_at hl 0 rfl) ?_
    obtain ⟨v3, hv, h⟩ := zl_some h
    refine xgR (pc := 17) (j := 9) zc11 hx hb hts hown hK hP hv rfl zf_X11_50 dX11_put_17 ?_
    refine lv_aload_n (pc := 20) hx hb dX11_put_20 rfl (lv_at hl 0 rfl) ?_
    obtain ⟨v4, hv, h⟩ := zl_some h
    refine xgR (pc := 21) (j := 0) zc11 hx hb hts hown hK hP hv rfl zf_X11_9 dX11_put_21 ?_
    refine lv_aload_n (pc := 24) hx hb dX11_put_24 rfl (lv_at hl 0 rfl) ?_
    obtain ⟨v5, hv, h⟩ := zl_some h
    refine xgI (pc := 25) (j := 1) zc11 hx hb hts hown hK hP hv rfl zf_X11_13 dX11_put_25 ?_
    refine lv_aload_n (pc := 28) hx hb dX11_put_28 rfl (lv_at hl 0 rfl) ?_
    obtain ⟨v6, hv, h⟩ := zl_some h
    refine xgR (pc := 29) (j := 4) zc11 hx hb hts hown hK hP hv rfl zf_X11_26 dX11_put_29 ?_
    obtain ⟨v7, hv, h⟩ := zl_some h
    refine xgI (pc := 32) (j := 0) zc10 hx hb hts hown hK hP hv rfl zf_X11_139 dX11_put_32 ?_
    refine lv_iload_n (pc := 35) hx hb dX11_put_35 rfl (lv_at hl 1 rfl) ?_
    obtain ⟨_, hg, h⟩ := zl_some h
    obtain ⟨v8, σ9, hv, h⟩ := zb_some h
    refine xcallVi (pc := 36) (As := [.ref (o + v4), .int v5, .int v7, .int x1]) (rest := []) ⟨hx, hb, hml, hown, hts⟩ (c_X5_readSum l D c o g N hv) zc5 zV_X11_142 rfl zd_X5_readSum ⟨Nat.le_of_ble_eq_true rfl, Nat.le_of_ble_eq_true rfl⟩ hK hP hE hS hg hl.1 rfl (Nat.le_of_ble_eq_true rfl) ⟨Nat.zero_le _, Nat.zero_le _⟩ dX11_put_36 (fun H locs hP hS => ?_)
    refine lv_istore_n (pc := 39) (lv' := [(2, .int v8), (0, .ref (o + x0)), (1, .int x1)]) hx hb dX11_put_39 rfl hl (by decide) rfl (fun ls hl => ?_)
    refine lv_aload_n (pc := 40) hx hb dX11_put_40 rfl (lv_at hl 1 rfl) ?_
    obtain ⟨_, hg, h⟩ := zl_some h
    obtain ⟨v10, σ11, hv, h⟩ := zb_some h
    refine xcallVv (pc := 41) (As := []) (rest := []) ⟨hx, hb, hml, hown, hts⟩ (c_X11_takeFault l D c o g N hv) zc11 zV_X11_125 rfl zd_X11_takeFault ⟨Nat.le_of_ble_eq_true rfl, Nat.le_of_ble_eq_true rfl⟩ hK hP hE hS hg hl.1 rfl (Nat.le_of_ble_eq_true rfl) ⟨Nat.zero_le _, Nat.zero_le _⟩ dX11_put_41 (fun H locs hP hS => ?_)
    refine lv_iload_n (pc := 44) hx hb dX11_put_44 rfl (lv_at hl 0 rfl) ?_
    refine lv_if_ne (pc := 45) (tgt := 51) hx hb dX11_put_45 (by decide) (fun c1 => ?_) (fun c1 => ?_)
    · rw [if_neg c1] at h
      refine lv_aload_n (pc := 51) hx hb dX11_put_51 rfl (lv_at hl 1 rfl) ?_
      obtain ⟨v12, hv, h⟩ := zl_some h
      refine xgR (pc := 52) (j := 10) zc11 hx hb hts hown hK hP hv rfl zf_X11_57 dX11_put_52 ?_
      refine lv_aload_n (pc := 55) hx hb dX11_put_55 rfl (lv_at hl 1 rfl) ?_
      obtain ⟨v13, hv, h⟩ := zl_some h
      refine xgR (pc := 56) (j := 9) zc11 hx hb hts hown hK hP hv rfl zf_X11_50 dX11_put_56 ?_
      refine lv_aload_n (pc := 59) hx hb dX11_put_59 rfl (lv_at hl 1 rfl) ?_
      obtain ⟨v14, hv, h⟩ := zl_some h
      refine xgR (pc := 60) (j := 4) zc11 hx hb hts hown hK hP hv rfl zf_X11_26 dX11_put_60 ?_
      refine lv_aload_n (pc := 63) hx hb dX11_put_63 rfl (lv_at hl 1 rfl) ?_
      obtain ⟨v15, hv, h⟩ := zl_some h
      refine xgR (pc := 64) (j := 11) zc11 hx hb hts hown hK hP hv rfl zf_X11_64 dX11_put_64 ?_
      obtain ⟨_, hg, h⟩ := zl_some h
      obtain ⟨v16, σ17, hv, h⟩ := zb_some h
      refine xcallVv (pc := 67) (As := [.ref (o + v13), .ref (o + v14), .ref (o + v15)]) (rest := []) ⟨hx, hb, hml, hown, hts⟩ (c_X7_run l D c o g N hv) zc7 zV_X11_128 rfl zd_X7_run ⟨Nat.le_of_ble_eq_true rfl, Nat.le_of_ble_eq_true rfl⟩ hK hP hE hS hg hl.1 rfl (Nat.le_of_ble_eq_true rfl) ⟨Nat.zero_le _, Nat.zero_le _⟩ dX11_put_67 (fun H locs hP hS => ?_)
      refine lv_aload_n (pc := 70) hx hb dX11_put_70 rfl (lv_at hl 1 rfl) ?_
      obtain ⟨v18, hv, h⟩ := zl_some h
      refine xgR (pc := 71) (j := 4) zc11 hx hb hts hown hK hP hv rfl zf_X11_26 dX11_put_71 ?_
      obtain ⟨v19, hv, h⟩ := zl_some h
      refine xgR (pc := 74) (j := 7) zc10 hx hb hts hown hK hP hv rfl zf_X11_146 dX11_put_74 ?_
      refine lv_iload_n (pc := 77) hx hb dX11_put_77 rfl (lv_at hl 2 rfl) ?_
      obtain ⟨v20, hv, h⟩ := zl_some h
      refine xaF (pc := 78) hx hb hK hP hv dX11_put_78 ?_
      obtain ⟨_, hg, h⟩ := zl_some h
      obtain ⟨v21, σ22, hv, h⟩ := zb_some h
      refine xcallVi (pc := 79) (As := []) (rest := []) ⟨hx, hb, hml, hown, hts⟩ (c_X2_tally l D c o g N hv) zc2 zV_X11_150 rfl zd_X2_tally ⟨Nat.le_of_ble_eq_true rfl, Nat.le_of_ble_eq_true rfl⟩ hK hP hE hS hg hl.1 rfl (Nat.le_of_ble_eq_true rfl) ⟨Nat.zero_le _, Nat.zero_le _⟩ dX11_put_79 (fun H locs hP hS => ?_)
      exact xreti (pc := 82) hx hb hr hlocks hP hK hE hS h dX11_put_82
    · rw [if_pos c1] at h
      refine lv_bipush (pc := 48) (v := (-4)) hx hb dX11_put_48 (by decide) ?_
      exact xreti (pc := 50) hx hb hr hlocks hP hK hE hS h dX11_put_50
  · rw [if_pos c1] at h
    refine lv_aload_n (pc := 8) hx hb dX11_put_8 rfl (lv_at hl 0 rfl) ?_
    refine lv_iconst (pc := 9) (v := 0) hx hb dX11_put_9 (by decide) ?_
    obtain ⟨σ23, hv, h⟩ := zl_some h
    refine xpI (pc := 10) (j := 1) zc11 hx hb hts hown hK hP hS hv rfl rfl rfl zf_X11_13 dX11_put_10 (fun H locs hP hS => ?_)
    refine lv_bipush (pc := 13) (v := (-2)) hx hb dX11_put_13 (by decide) ?_
    exact xreti (pc := 15) hx hb hr hlocks hP hK hE hS h dX11_put_15
def f_X11_fault (N : Nat) (x0 : Nat) (x1 : Int32) (σ : zS) : Option (Int32 × zS) :=
  if x1 = 0 then
    (zl (gI 11 2 x0 σ) fun v1 =>
    some (v1, σ))
  else
    (if x1 = 1 then
      (zl (gI 11 3 x0 σ) fun v2 =>
      some (v2, σ))
    else
      (some ((-1), σ)))
set_option maxHeartbeats 4000000 in
set_option maxRecDepth 100000 in
theorem c_X11_fault (l : Launch) (D : va_G) (c : zC) (o : Nat) (g : zEp) (N : Nat) {x0 : Nat} {x1 : Int32} {σ : zS} {ρ : Int32 × zS} (h : f_X11_fault N x0 x1 σ = some ρ) : Met l yX11_fault zs_X11_fault (zr 2) (va_Pc [.ref (o + x0), .int x1] (zG D c o g σ)) (zQi D c o g ρ) 0 0 (zA o) := by
  refine zMetG (by decide) (Nat.le_of_ble_eq_true rfl) ?_
  intro p e s m below meth cd ⟨hx, hb, hr, hml, hown, hts, hlocks⟩ hP hK hE ls hl
  have hS : va_S (zA o) s.heap s.heap [] := va_S.rf
  have hl : lv_has ls 2 [(0, .ref (o + x0)), (1, .int x1)] := hl
  rw [f_X11_fault.eq_1] at h
  refine lv_iload_n (pc := 0) hx hb dX11_fault_0 rfl (lv_at hl 1 rfl) ?_
  refine lv_if_ne (pc := 1) (tgt := 9) hx hb dX11_fault_1 (by decide) (fun c1 => ?_) (fun c1 => ?_)
  · rw [if_neg c1] at h
    refine lv_iload_n (pc := 9) hx hb dX11_fault_9 rfl (lv_at hl 1 rfl) ?_
    refine lv_iconst (pc := 10) (v := 1) hx hb dX11_fault_10 (by decide) ?_
    refine lv_icmp_ne (pc := 11) (tgt := 21) hx hb dX11_fault_11 (by decide) (fun c1 => ?_) (fun c1 => ?_)
    · rw [if_neg c1] at h
      refine lv_iconst (pc := 21) (v := (-1)) hx hb dX11_fault_21 (by decide) ?_
      exact xreti (pc := 22) hx hb hr hlocks hP hK hE hS h dX11_fault_22
    · rw [if_pos c1] at h
      refine lv_aload_n (pc := 14) hx hb dX11_fault_14 rfl (lv_at hl 0 rfl) ?_
      obtain ⟨v1, hv, h⟩ := zl_some h
      refine xgI (pc := 15) (j := 3) zc11 hx hb hts hown hK hP hv rfl zf_X11_20 dX11_fault_15 ?_
      refine lv_goto (pc := 18) (tgt := 22) hx hb dX11_fault_18 (by decide) ?_
      exact xreti (pc := 22) hx hb hr hlocks hP hK hE hS h dX11_fault_22
  · rw [if_pos c1] at h
    refine lv_aload_n (pc := 4) hx hb dX11_fault_4 rfl (lv_at hl 0 rfl) ?_
    obtain ⟨v2, hv, h⟩ := zl_some h
    refine xgI (pc := 5) (j := 2) zc11 hx hb hts hown hK hP hv rfl zf_X11_17 dX11_fault_5 ?_
    exact xreti (pc := 8) hx hb hr hlocks hP hK hE hS h dX11_fault_8
def f_X11_size (N : Nat) (x0 : Nat) (x1 : Int32) (σ : zS) : Option (Int32 × zS) :=
  zl (gC 11 x0) fun _ => zb (f_X11_isRegister N x0 x1 σ) fun v1 σ2 =>
  if v1 = 0 then
    (some ((-2), σ2))
  else
    (zl (gR 11 4 x0 σ2) fun v3 =>
    zl (gR 10 7 v3 σ2) fun v4 =>
    zl (aR 17 v4 x1 σ2) fun v5 =>
    zl (gC 2 v5) fun _ => zb (f_X2_tally N v5 σ2) fun v6 σ7 =>
    some (v6, σ7))
set_option maxHeartbeats 4000000 in
set_option maxRecDepth 100000 in
theorem c_X11_size (l : Launch) (D : va_G) (c : zC) (o : Nat) (g : zEp) (N : Nat) {x0 : Nat} {x1 : Int32} {σ : zS} {ρ : Int32 × zS} (h : f_X11_size N x0 x1 σ = some ρ) : Met l yX11_size zs_X11_size (zr 6) (va_Pc [.ref (o + x0), .int x1] (zG D c o g σ)) (zQi D c o g ρ) 0 0 (zA o) := by
  refine zMetG (by decide) (Nat.le_of_ble_eq_true rfl) ?_
  intro p e s m below meth cd ⟨hx, hb, hr, hml, hown, hts, hlocks⟩ hP hK hE ls hl
  have hS : va_S (zA o) s.heap s.heap [] := va_S.rf
  have hl : lv_has ls 2 [(0, .ref (o + x0)), (1, .int x1)] := hl
  rw [f_X11_size.eq_1] at h
  refine lv_aload_n (pc := 0) hx hb dX11_size_0 rfl (lv_at hl 0 rfl) ?_
  refine lv_iload_n (pc := 1) hx hb dX11_size_1 rfl (lv_at hl 1 rfl) ?_
  obtain ⟨_, hg, h⟩ := zl_some h
  obtain ⟨v1, σ2, hv, h⟩ := zb_some h
  refine xcallVi (pc := 2) (As := [.int x1]) (rest := []) ⟨hx, hb, hml, hown, hts⟩ (c_X11_isRegister l D c o g N hv) zc11 zV_X11_135 rfl zd_X11_isRegister ⟨Nat.le_of_ble_eq_true rfl, Nat.le_of_ble_eq_true rfl⟩ hK hP hE hS hg hl.1 rfl (Nat.le_of_ble_eq_true rfl) ⟨Nat.zero_le _, Nat.zero_le _⟩ dX11_size_2 (fun H locs hP hS => ?_)
  refine lv_if_eq (pc := 5) (tgt := 23) hx hb dX11_size_5 (by decide) (fun c1 => ?_) (fun c1 => ?_)
  · rw [if_pos c1] at h
    refine lv_bipush (pc := 23) (v := (-2)) hx hb dX11_size_23 (by decide) ?_
    exact xreti (pc := 25) hx hb hr hlocks hP hK hE hS h dX11_size_25
  · rw [if_neg c1] at h
    refine lv_aload_n (pc := 8) hx hb dX11_size_8 rfl (lv_at hl 0 rfl) ?_
    obtain ⟨v3, hv, h⟩ := zl_some h
    refine xgR (pc := 9) (j := 4) zc11 hx hb hts hown hK hP hv rfl zf_X11_26 dX11_size_9 ?_
    obtain ⟨v4, hv, h⟩ := zl_some h
    refine xgR (pc := 12) (j := 7) zc10 hx hb hts hown hK hP hv rfl zf_X11_146 dX11_size_12 ?_
    refine lv_iload_n (pc := 15) hx hb dX11_size_15 rfl (lv_at hl 1 rfl) ?_
    obtain ⟨v5, hv, h⟩ := zl_some h
    refine xaF (pc := 16) hx hb hK hP hv dX11_size_16 ?_
    obtain ⟨_, hg, h⟩ := zl_some h
    obtain ⟨v6, σ7, hv, h⟩ := zb_some h
    refine xcallVi (pc := 17) (As := []) (rest := []) ⟨hx, hb, hml, hown, hts⟩ (c_X2_tally l D c o g N hv) zc2 zV_X11_150 rfl zd_X2_tally ⟨Nat.le_of_ble_eq_true rfl, Nat.le_of_ble_eq_true rfl⟩ hK hP hE hS hg hl.1 rfl (Nat.le_of_ble_eq_true rfl) ⟨Nat.zero_le _, Nat.zero_le _⟩ dX11_size_17 (fun H locs hP hS => ?_)
    refine lv_goto (pc := 20) (tgt := 25) hx hb dX11_size_20 (by decide) ?_
    exact xreti (pc := 25) hx hb hr hlocks hP hK hE hS h dX11_size_25
def f_X11_isSet (N : Nat) (x0 : Nat) (x1 : Int32) (σ : zS) : Option (Int32 × zS) :=
  zl (gC 11 x0) fun _ => zb (f_X11_isWorld N x0 σ) fun v1 σ2 =>
  if v1 = 0 then
    (rZ 0 σ2)
  else
    (if x1 < 0 then
      (rZ 0 σ2)
    else
      (zl (gR 11 4 x0 σ2) fun v3 =>
      zl (gI 10 0 v3 σ2) fun v4 =>
      if ((1 : Int32) <<< (v4 &&& 31)) ≤ x1 then
        (rZ 0 σ2)
      else
        (rZ 1 σ2)))
set_option maxHeartbeats 4000000 in
set_option maxRecDepth 100000 in
theorem c_X11_isSet (l : Launch) (D : va_G) (c : zC) (o : Nat) (g : zEp) (N : Nat) {x0 : Nat} {x1 : Int32} {σ : zS} {ρ : Int32 × zS} (h : f_X11_isSet N x0 x1 σ = some ρ) : Met l yX11_isSet zs_X11_isSet (zr 4) (va_Pc [.ref (o + x0), .int x1] (zG D c o g σ)) (zQi D c o g ρ) 0 0 (zA o) := by
  refine zMetG (by decide) (Nat.le_of_ble_eq_true rfl) ?_
  intro p e s m below meth cd ⟨hx, hb, hr, hml, hown, hts, hlocks⟩ hP hK hE ls hl
  have hS : va_S (zA o) s.heap s.heap [] := va_S.rf
  have hl : lv_has ls 2 [(0, .ref (o + x0)), (1, .int x1)] := hl
  rw [f_X11_isSet.eq_1] at h
  refine lv_aload_n (pc := 0) hx hb dX11_isSet_0 rfl (lv_at hl 0 rfl) ?_
  obtain ⟨_, hg, h⟩ := zl_some h
  obtain ⟨v1, σ2, hv, h⟩ := zb_some h
  refine xcallVi (pc := 1) (As := []) (rest := []) ⟨hx, hb, hml, hown, hts⟩ (c_X11_isWorld l D c o g N hv) zc11 zV_X11_260 rfl zd_X11_isWorld ⟨Nat.le_of_ble_eq_true rfl, Nat.le_of_ble_eq_true rfl⟩ hK hP hE hS hg hl.1 rfl (Nat.le_of_ble_eq_true rfl) ⟨Nat.zero_le _, Nat.zero_le _⟩ dX11_isSet_1 (fun H locs hP hS => ?_)
  refine lv_if_eq (pc := 4) (tgt := 28) hx hb dX11_isSet_4 (by decide) (fun c1 => ?_) (fun c1 => ?_)
  · rw [if_pos c1] at h
    refine lv_iconst (pc := 28) (v := 0) hx hb dX11_isSet_28 (by decide) ?_
    exact xretz (pc := 29) hx hb hr hlocks hP hK hE hS h dX11_isSet_29
  · rw [if_neg c1] at h
    refine lv_iload_n (pc := 7) hx hb dX11_isSet_7 rfl (lv_at hl 1 rfl) ?_
    refine lv_if_lt (pc := 8) (tgt := 28) hx hb dX11_isSet_8 (by decide) (fun c1 => ?_) (fun c1 => ?_)
    · rw [if_pos c1] at h
      refine lv_iconst (pc := 28) (v := 0) hx hb dX11_isSet_28 (by decide) ?_
      exact xretz (pc := 29) hx hb hr hlocks hP hK hE hS h dX11_isSet_29
    · rw [if_neg c1] at h
      refine lv_iload_n (pc := 11) hx hb dX11_isSet_11 rfl (lv_at hl 1 rfl) ?_
      refine lv_iconst (pc := 12) (v := 1) hx hb dX11_isSet_12 (by decide) ?_
      refine lv_aload_n (pc := 13) hx hb dX11_isSet_13 rfl (lv_at hl 0 rfl) ?_
      obtain ⟨v3, hv, h⟩ := zl_some h
      refine xgR (pc := 14) (j := 4) zc11 hx hb hts hown hK hP hv rfl zf_X11_26 dX11_isSet_14 ?_
      obtain ⟨v4, hv, h⟩ := zl_some h
      refine xgI (pc := 17) (j := 0) zc10 hx hb hts hown hK hP hv rfl zf_X11_139 dX11_isSet_17 ?_
      refine lv_ishl (pc := 20) hx hb dX11_isSet_20 ?_
      refine lv_icmp_ge (pc := 21) (tgt := 28) hx hb dX11_isSet_21 (by decide) (fun c1 => ?_) (fun c1 => ?_)
      · rw [if_pos c1] at h
        refine lv_iconst (pc := 28) (v := 0) hx hb dX11_isSet_28 (by decide) ?_
        exact xretz (pc := 29) hx hb hr hlocks hP hK hE hS h dX11_isSet_29
      · rw [if_neg c1] at h
        refine lv_iconst (pc := 24) (v := 1) hx hb dX11_isSet_24 (by decide) ?_
        refine lv_goto (pc := 25) (tgt := 29) hx hb dX11_isSet_25 (by decide) ?_
        exact xretz (pc := 29) hx hb hr hlocks hP hK hE hS h dX11_isSet_29
def f_X11_has (N : Nat) (x0 : Nat) (x1 : Int32) (x2 : Int32) (σ : zS) : Option (Int32 × zS) :=
  zl (gC 11 x0) fun _ => zb (f_X11_isRegister N x0 x1 σ) fun v1 σ2 =>
  if v1 = 0 then
    (some ((-2), σ2))
  else
    (zl (gC 11 x0) fun _ => zb (f_X11_isSet N x0 x2 σ2) fun v3 σ4 =>
    if v3 = 0 then
      (some ((-2), σ4))
    else
      (zl (gR 11 4 x0 σ4) fun v5 =>
      zl (gR 10 7 v5 σ4) fun v6 =>
      zl (aR 17 v6 x1 σ4) fun v7 =>
      zl (gC 2 v7) fun _ => zb (f_X2_holds N v7 x2 σ4) fun v8 σ9 =>
      if v8 = 0 then
        (some (0, σ9))
      else
        (some (1, σ9))))
set_option maxHeartbeats 4000000 in
set_option maxRecDepth 100000 in
theorem c_X11_has (l : Launch) (D : va_G) (c : zC) (o : Nat) (g : zEp) (N : Nat) {x0 : Nat} {x1 : Int32} {x2 : Int32} {σ : zS} {ρ : Int32 × zS} (h : f_X11_has N x0 x1 x2 σ = some ρ) : Met l yX11_has zs_X11_has (zr 6) (va_Pc [.ref (o + x0), .int x1, .int x2] (zG D c o g σ)) (zQi D c o g ρ) 0 0 (zA o) := by
  refine zMetG (by decide) (Nat.le_of_ble_eq_true rfl) ?_
  intro p e s m below meth cd ⟨hx, hb, hr, hml, hown, hts, hlocks⟩ hP hK hE ls hl
  have hS : va_S (zA o) s.heap s.heap [] := va_S.rf
  have hl : lv_has ls 3 [(0, .ref (o + x0)), (1, .int x1), (2, .int x2)] := hl
  rw [f_X11_has.eq_1] at h
  refine lv_aload_n (pc := 0) hx hb dX11_has_0 rfl (lv_at hl 0 rfl) ?_
  refine lv_iload_n (pc := 1) hx hb dX11_has_1 rfl (lv_at hl 1 rfl) ?_
  obtain ⟨_, hg, h⟩ := zl_some h
  obtain ⟨v1, σ2, hv, h⟩ := zb_some h
  refine xcallVi (pc := 2) (As := [.int x1]) (rest := []) ⟨hx, hb, hml, hown, hts⟩ (c_X11_isRegister l D c o g N hv) zc11 zV_X11_135 rfl zd_X11_isRegister ⟨Nat.le_of_ble_eq_true rfl, Nat.le_of_ble_eq_true rfl⟩ hK hP hE hS hg hl.1 rfl (Nat.le_of_ble_eq_true rfl) ⟨Nat.zero_le _, Nat.zero_le _⟩ dX11_has_2 (fun H locs hP hS => ?_)
  refine lv_if_eq (pc := 5) (tgt := 16) hx hb dX11_has_5 (by decide) (fun c1 => ?_) (fun c1 => ?_)
  · rw [if_pos c1] at h
    refine lv_bipush (pc := 16) (v := (-2)) hx hb dX11_has_16 (by decide) ?_
    exact xreti (pc := 18) hx hb hr hlocks hP hK hE hS h dX11_has_18
  · rw [if_neg c1] at h
    refine lv_aload_n (pc := 8) hx hb dX11_has_8 rfl (lv_at hl 0 rfl) ?_
    refine lv_iload_n (pc := 9) hx hb dX11_has_9 rfl (lv_at hl 2 rfl) ?_
    obtain ⟨_, hg, h⟩ := zl_some h
    obtain ⟨v3, σ4, hv, h⟩ := zb_some h
    refine xcallVi (pc := 10) (As := [.int x2]) (rest := []) ⟨hx, hb, hml, hown, hts⟩ (c_X11_isSet l D c o g N hv) zc11 zV_X11_154 rfl zd_X11_isSet ⟨Nat.le_of_ble_eq_true rfl, Nat.le_of_ble_eq_true rfl⟩ hK hP hE hS hg hl.1 rfl (Nat.le_of_ble_eq_true rfl) ⟨Nat.zero_le _, Nat.zero_le _⟩ dX11_has_10 (fun H locs hP hS => ?_)
    refine lv_if_ne (pc := 13) (tgt := 19) hx hb dX11_has_13 (by decide) (fun c1 => ?_) (fun c1 => ?_)
    · rw [if_neg c1] at h
      refine lv_aload_n (pc := 19) hx hb dX11_has_19 rfl (lv_at hl 0 rfl) ?_
      obtain ⟨v5, hv, h⟩ := zl_some h
      refine xgR (pc := 20) (j := 4) zc11 hx hb hts hown hK hP hv rfl zf_X11_26 dX11_has_20 ?_
      obtain ⟨v6, hv, h⟩ := zl_some h
      refine xgR (pc := 23) (j := 7) zc10 hx hb hts hown hK hP hv rfl zf_X11_146 dX11_has_23 ?_
      refine lv_iload_n (pc := 26) hx hb dX11_has_26 rfl (lv_at hl 1 rfl) ?_
      obtain ⟨v7, hv, h⟩ := zl_some h
      refine xaF (pc := 27) hx hb hK hP hv dX11_has_27 ?_
      refine lv_iload_n (pc := 28) hx hb dX11_has_28 rfl (lv_at hl 2 rfl) ?_
      obtain ⟨_, hg, h⟩ := zl_some h
      obtain ⟨v8, σ9, hv, h⟩ := zb_some h
      refine xcallVi (pc := 29) (As := [.int x2]) (rest := []) ⟨hx, hb, hml, hown, hts⟩ (c_X2_holds l D c o g N hv) zc2 zV_X11_157 rfl zd_X2_holds ⟨Nat.le_of_ble_eq_true rfl, Nat.le_of_ble_eq_true rfl⟩ hK hP hE hS hg hl.1 rfl (Nat.le_of_ble_eq_true rfl) ⟨Nat.zero_le _, Nat.zero_le _⟩ dX11_has_29 (fun H locs hP hS => ?_)
      refine lv_if_eq (pc := 32) (tgt := 39) hx hb dX11_has_32 (by decide) (fun c1 => ?_) (fun c1 => ?_)
      · rw [if_pos c1] at h
        refine lv_iconst (pc := 39) (v := 0) hx hb dX11_has_39 (by decide) ?_
        exact xreti (pc := 40) hx hb hr hlocks hP hK hE hS h dX11_has_40
      · rw [if_neg c1] at h
        refine lv_iconst (pc := 35) (v := 1) hx hb dX11_has_35 (by decide) ?_
        refine lv_goto (pc := 36) (tgt := 40) hx hb dX11_has_36 (by decide) ?_
        exact xreti (pc := 40) hx hb hr hlocks hP hK hE hS h dX11_has_40
    · rw [if_pos c1] at h
      refine lv_bipush (pc := 16) (v := (-2)) hx hb dX11_has_16 (by decide) ?_
      exact xreti (pc := 18) hx hb hr hlocks hP hK hE hS h dX11_has_18
def f_X11_store (N : Nat) (x0 : Nat) (x1 : Int32) (σ : zS) : Option (Int32 × zS) :=
  zl (gC 11 x0) fun _ => zb (f_X11_isRegister N x0 x1 σ) fun v1 σ2 =>
  if v1 = 0 then
    (some ((-2), σ2))
  else
    (zl (gR 11 4 x0 σ2) fun v3 =>
    zl (gR 10 7 v3 σ2) fun v4 =>
    zl (aR 17 v4 x1 σ2) fun v5 =>
    zl (gR 11 17 x0 σ2) fun v6 =>
    zl (gC 2 v5) fun _ => zb (f_X2_copyFrom N v5 v6 σ2) fun v7 σ8 =>
    zl (gR 11 17 x0 σ8) fun v9 =>
    zl (gC 2 v9) fun _ => zb (f_X2_tally N v9 σ8) fun v10 σ11 =>
    some (v10, σ11))
set_option maxHeartbeats 4000000 in
set_option maxRecDepth 100000 in
theorem c_X11_store (l : Launch) (D : va_G) (c : zC) (o : Nat) (g : zEp) (N : Nat) {x0 : Nat} {x1 : Int32} {σ : zS} {ρ : Int32 × zS} (h : f_X11_store N x0 x1 σ = some ρ) : Met l yX11_store zs_X11_store (zr 6) (va_Pc [.ref (o + x0), .int x1] (zG D c o g σ)) (zQi D c o g ρ) 0 0 (zA o) := by
  refine zMetG (by decide) (Nat.le_of_ble_eq_true rfl) ?_
  intro p e s m below meth cd ⟨hx, hb, hr, hml, hown, hts, hlocks⟩ hP hK hE ls hl
  have hS : va_S (zA o) s.heap s.heap [] := va_S.rf
  have hl : lv_has ls 2 [(0, .ref (o + x0)), (1, .int x1)] := hl
  rw [f_X11_store.eq_1] at h
  refine lv_aload_n (pc := 0) hx hb dX11_store_0 rfl (lv_at hl 0 rfl) ?_
  refine lv_iload_n (pc := 1) hx hb dX11_store_1 rfl (lv_at hl 1 rfl) ?_
  obtain ⟨_, hg, h⟩ := zl_some h
  obtain ⟨v1, σ2, hv, h⟩ := zb_some h
  refine xcallVi (pc := 2) (As := [.int x1]) (rest := []) ⟨hx, hb, hml, hown, hts⟩ (c_X11_isRegister l D c o g N hv) zc11 zV_X11_135 rfl zd_X11_isRegister ⟨Nat.le_of_ble_eq_true rfl, Nat.le_of_ble_eq_true rfl⟩ hK hP hE hS hg hl.1 rfl (Nat.le_of_ble_eq_true rfl) ⟨Nat.zero_le _, Nat.zero_le _⟩ dX11_store_2 (fun H locs hP hS => ?_)
  refine lv_if_ne (pc := 5) (tgt := 11) hx hb dX11_store_5 (by decide) (fun c1 => ?_) (fun c1 => ?_)
  · rw [if_neg c1] at h
    refine lv_aload_n (pc := 11) hx hb dX11_store_11 rfl (lv_at hl 0 rfl) ?_
    obtain ⟨v3, hv, h⟩ := zl_some h
    refine xgR (pc := 12) (j := 4) zc11 hx hb hts hown hK hP hv rfl zf_X11_26 dX11_store_12 ?_
    obtain ⟨v4, hv, h⟩ := zl_some h
    refine xgR (pc := 15) (j := 7) zc10 hx hb hts hown hK hP hv rfl zf_X11_146 dX11_store_15 ?_
    refine lv_iload_n (pc := 18) hx hb dX11_store_18 rfl (lv_at hl 1 rfl) ?_
    obtain ⟨v5, hv, h⟩ := zl_some h
    refine xaF (pc := 19) hx hb hK hP hv dX11_store_19 ?_
    refine lv_aload_n (pc := 20) hx hb dX11_store_20 rfl (lv_at hl 0 rfl) ?_
    obtain ⟨v6, hv, h⟩ := zl_some h
    refine xgR (pc := 21) (j := 17) zc11 hx hb hts hown hK hP hv rfl zf_X11_106 dX11_store_21 ?_
    obtain ⟨_, hg, h⟩ := zl_some h
    obtain ⟨v7, σ8, hv, h⟩ := zb_some h
    refine xcallVv (pc := 24) (As := [.ref (o + v6)]) (rest := []) ⟨hx, hb, hml, hown, hts⟩ (c_X2_copyFrom l D c o g N hv) zc2 zV_X11_160 rfl zd_X2_copyFrom ⟨Nat.le_of_ble_eq_true rfl, Nat.le_of_ble_eq_true rfl⟩ hK hP hE hS hg hl.1 rfl (Nat.le_of_ble_eq_true rfl) ⟨Nat.zero_le _, Nat.zero_le _⟩ dX11_store_24 (fun H locs hP hS => ?_)
    refine lv_aload_n (pc := 27) hx hb dX11_store_27 rfl (lv_at hl 0 rfl) ?_
    obtain ⟨v9, hv, h⟩ := zl_some h
    refine xgR (pc := 28) (j := 17) zc11 hx hb hts hown hK hP hv rfl zf_X11_106 dX11_store_28 ?_
    obtain ⟨_, hg, h⟩ := zl_some h
    obtain ⟨v10, σ11, hv, h⟩ := zb_some h
    refine xcallVi (pc := 31) (As := []) (rest := []) ⟨hx, hb, hml, hown, hts⟩ (c_X2_tally l D c o g N hv) zc2 zV_X11_150 rfl zd_X2_tally ⟨Nat.le_of_ble_eq_true rfl, Nat.le_of_ble_eq_true rfl⟩ hK hP hE hS hg hl.1 rfl (Nat.le_of_ble_eq_true rfl) ⟨Nat.zero_le _, Nat.zero_le _⟩ dX11_store_31 (fun H locs hP hS => ?_)
    exact xreti (pc := 34) hx hb hr hlocks hP hK hE hS h dX11_store_34
  · rw [if_pos c1] at h
    refine lv_bipush (pc := 8) (v := (-2)) hx hb dX11_store_8 (by decide) ?_
    exact xreti (pc := 10) hx hb hr hlocks hP hK hE hS h dX11_store_10
def f_X11_makes (N : Nat) (x0 : Nat) (x1 : Int32) (x2 : Int32) (x3 : Int32) (x4 : Int32) (σ : zS) : Option (Int32 × zS) :=
  zl (gC 11 x0) fun _ => zb (f_X11_isRegister N x0 x1 σ) fun v1 σ2 =>
  if v1 = 0 then
    (some ((-2), σ2))
  else
    (zl (gC 11 x0) fun _ => zb (f_X11_isRegister N x0 x3 σ2) fun v3 σ4 =>
    if v3 = 0 then
      (some ((-2), σ4))
    else
      (zl (gC 11 x0) fun _ => zb (f_X11_isRegister N x0 x4 σ4) fun v5 σ6 =>
      if v5 = 0 then
        (some ((-2), σ6))
      else
        (if x2 < 0 then
          (some ((-2), σ6))
        else
          (if x2 ≤ 6 then
            (zl (gR 11 17 x0 σ6) fun v7 =>
            zl (gR 11 4 x0 σ6) fun v8 =>
            zl (gR 10 7 v8 σ6) fun v9 =>
            zl (aR 17 v9 x3 σ6) fun v10 =>
            zl (gC 2 v7) fun _ => zb (f_X2_copyFrom N v7 v10 σ6) fun v11 σ12 =>
            zl (gR 11 11 x0 σ12) fun v13 =>
            zl (gR 11 17 x0 σ12) fun v14 =>
            zl (gR 11 4 x0 σ12) fun v15 =>
            zl (gR 10 7 v15 σ12) fun v16 =>
            zl (aR 17 v16 x4 σ12) fun v17 =>
            zl (gR 11 4 x0 σ12) fun v18 =>
            zl (gI 10 0 v18 σ12) fun v19 =>
            zl (gC 0 v13) fun _ => zb (f_X0_combine N v13 x2 v14 v17 v19 σ12) fun v20 σ21 =>
            zl (gC 11 x0) fun _ => zb (f_X11_store N x0 x1 σ21) fun v22 σ23 =>
            some (v22, σ23))
          else
            (some ((-2), σ6))))))
set_option maxHeartbeats 4000000 in
set_option maxRecDepth 100000 in
theorem c_X11_makes (l : Launch) (D : va_G) (c : zC) (o : Nat) (g : zEp) (N : Nat) {x0 : Nat} {x1 : Int32} {x2 : Int32} {x3 : Int32} {x4 : Int32} {σ : zS} {ρ : Int32 × zS} (h : f_X11_makes N x0 x1 x2 x3 x4 σ = some ρ) : Met l yX11_makes zs_X11_makes (zr 14) (va_Pc [.ref (o + x0), .int x1, .int x2, .int x3, .int x4] (zG D c o g σ)) (zQi D c o g ρ) 0 0 (zA o) := by
  refine zMetG (by decide) (Nat.le_of_ble_eq_true rfl) ?_
  intro p e s m below meth cd ⟨hx, hb, hr, hml, hown, hts, hlocks⟩ hP hK hE ls hl
  have hS : va_S (zA o) s.heap s.heap [] := va_S.rf
  have hl : lv_has ls 5 [(0, .ref (o + x0)), (1, .int x1), (2, .int x2), (3, .int x3), (4, .int x4)] := hl
  rw [f_X11_makes.eq_1] at h
  refine lv_aload_n (pc := 0) hx hb dX11_makes_0 rfl (lv_at hl 0 rfl) ?_
  refine lv_iload_n (pc := 1) hx hb dX11_makes_1 rfl (lv_at hl 1 rfl) ?_
  obtain ⟨_, hg, h⟩ := zl_some h
  obtain ⟨v1, σ2, hv, h⟩ := zb_some h
  refine xcallVi (pc := 2) (As := [.int x1]) (rest := []) ⟨hx, hb, hml, hown, hts⟩ (c_X11_isRegister l D c o g N hv) zc11 zV_X11_135 rfl zd_X11_isRegister ⟨Nat.le_of_ble_eq_true rfl, Nat.le_of_ble_eq_true rfl⟩ hK hP hE hS hg hl.1 rfl (Nat.le_of_ble_eq_true rfl) ⟨Nat.zero_le _, Nat.zero_le _⟩ dX11_makes_2 (fun H locs hP hS => ?_)
  refine lv_if_eq (pc := 5) (tgt := 35) hx hb dX11_makes_5 (by decide) (fun c1 => ?_) (fun c1 => ?_)
  · rw [if_pos c1] at h
    refine lv_bipush (pc := 35) (v := (-2)) hx hb dX11_makes_35 (by decide) ?_
    exact xreti (pc := 37) hx hb hr hlocks hP hK hE hS h dX11_makes_37
  · rw [if_neg c1] at h
    refine lv_aload_n (pc := 8) hx hb dX11_makes_8 rfl (lv_at hl 0 rfl) ?_
    refine lv_iload_n (pc := 9) hx hb dX11_makes_9 rfl (lv_at hl 3 rfl) ?_
    obtain ⟨_, hg, h⟩ := zl_some h
    obtain ⟨v3, σ4, hv, h⟩ := zb_some h
    refine xcallVi (pc := 10) (As := [.int x3]) (rest := []) ⟨hx, hb, hml, hown, hts⟩ (c_X11_isRegister l D c o g N hv) zc11 zV_X11_135 rfl zd_X11_isRegister ⟨Nat.le_of_ble_eq_true rfl, Nat.le_of_ble_eq_true rfl⟩ hK hP hE hS hg hl.1 rfl (Nat.le_of_ble_eq_true rfl) ⟨Nat.zero_le _, Nat.zero_le _⟩ dX11_makes_10 (fun H locs hP hS => ?_)
    refine lv_if_eq (pc := 13) (tgt := 35) hx hb dX11_makes_13 (by decide) (fun c1 => ?_) (fun c1 => ?_)
    · rw [if_pos c1] at h
      refine lv_bipush (pc := 35) (v := (-2)) hx hb dX11_makes_35 (by decide) ?_
      exact xreti (pc := 37) hx hb hr hlocks hP hK hE hS h dX11_makes_37
    · rw [if_neg c1] at h
      refine lv_aload_n (pc := 16) hx hb dX11_makes_16 rfl (lv_at hl 0 rfl) ?_
      refine lv_iload (pc := 17) hx hb dX11_makes_17 (lv_at hl 4 rfl) ?_
      obtain ⟨_, hg, h⟩ := zl_some h
      obtain ⟨v5, σ6, hv, h⟩ := zb_some h
      refine xcallVi (pc := 19) (As := [.int x4]) (rest := []) ⟨hx, hb, hml, hown, hts⟩ (c_X11_isRegister l D c o g N hv) zc11 zV_X11_135 rfl zd_X11_isRegister ⟨Nat.le_of_ble_eq_true rfl, Nat.le_of_ble_eq_true rfl⟩ hK hP hE hS hg hl.1 rfl (Nat.le_of_ble_eq_true rfl) ⟨Nat.zero_le _, Nat.zero_le _⟩ dX11_makes_19 (fun H locs hP hS => ?_)
      refine lv_if_eq (pc := 22) (tgt := 35) hx hb dX11_makes_22 (by decide) (fun c1 => ?_) (fun c1 => ?_)
      · rw [if_pos c1] at h
        refine lv_bipush (pc := 35) (v := (-2)) hx hb dX11_makes_35 (by decide) ?_
        exact xreti (pc := 37) hx hb hr hlocks hP hK hE hS h dX11_makes_37
      · rw [if_neg c1] at h
        refine lv_iload_n (pc := 25) hx hb dX11_makes_25 rfl (lv_at hl 2 rfl) ?_
        refine lv_if_lt (pc := 26) (tgt := 35) hx hb dX11_makes_26 (by decide) (fun c1 => ?_) (fun c1 => ?_)
        · rw [if_pos c1] at h
          refine lv_bipush (pc := 35) (v := (-2)) hx hb dX11_makes_35 (by decide) ?_
          exact xreti (pc := 37) hx hb hr hlocks hP hK hE hS h dX11_makes_37
        · rw [if_neg c1] at h
          refine lv_iload_n (pc := 29) hx hb dX11_makes_29 rfl (lv_at hl 2 rfl) ?_
          refine lv_bipush (pc := 30) (v := 6) hx hb dX11_makes_30 (by decide) ?_
          refine lv_icmp_le (pc := 32) (tgt := 38) hx hb dX11_makes_32 (by decide) (fun c1 => ?_) (fun c1 => ?_)
          · rw [if_pos c1] at h
            refine lv_aload_n (pc := 38) hx hb dX11_makes_38 rfl (lv_at hl 0 rfl) ?_
            obtain ⟨v7, hv, h⟩ := zl_some h
            refine xgR (pc := 39) (j := 17) zc11 hx hb hts hown hK hP hv rfl zf_X11_106 dX11_makes_39 ?_
            refine lv_aload_n (pc := 42) hx hb dX11_makes_42 rfl (lv_at hl 0 rfl) ?_
            obtain ⟨v8, hv, h⟩ := zl_some h
            refine xgR (pc := 43) (j := 4) zc11 hx hb hts hown hK hP hv rfl zf_X11_26 dX11_makes_43 ?_
            obtain ⟨v9, hv, h⟩ := zl_some h
            refine xgR (pc := 46) (j := 7) zc10 hx hb hts hown hK hP hv rfl zf_X11_146 dX11_makes_46 ?_
            refine lv_iload_n (pc := 49) hx hb dX11_makes_49 rfl (lv_at hl 3 rfl) ?_
            obtain ⟨v10, hv, h⟩ := zl_some h
            refine xaF (pc := 50) hx hb hK hP hv dX11_makes_50 ?_
            obtain ⟨_, hg, h⟩ := zl_some h
            obtain ⟨v11, σ12, hv, h⟩ := zb_some h
            refine xcallVv (pc := 51) (As := [.ref (o + v10)]) (rest := []) ⟨hx, hb, hml, hown, hts⟩ (c_X2_copyFrom l D c o g N hv) zc2 zV_X11_160 rfl zd_X2_copyFrom ⟨Nat.le_of_ble_eq_true rfl, Nat.le_of_ble_eq_true rfl⟩ hK hP hE hS hg hl.1 rfl (Nat.le_of_ble_eq_true rfl) ⟨Nat.zero_le _, Nat.zero_le _⟩ dX11_makes_51 (fun H locs hP hS => ?_)
            refine lv_aload_n (pc := 54) hx hb dX11_makes_54 rfl (lv_at hl 0 rfl) ?_
            obtain ⟨v13, hv, h⟩ := zl_some h
            refine xgR (pc := 55) (j := 11) zc11 hx hb hts hown hK hP hv rfl zf_X11_64 dX11_makes_55 ?_
            refine lv_iload_n (pc := 58) hx hb dX11_makes_58 rfl (lv_at hl 2 rfl) ?_
            refine lv_aload_n (pc := 59) hx hb dX11_makes_59 rfl (lv_at hl 0 rfl) ?_
            obtain ⟨v14, hv, h⟩ := zl_some h
            refine xgR (pc := 60) (j := 17) zc11 hx hb hts hown hK hP hv rfl zf_X11_106 dX11_makes_60 ?_
            refine lv_aload_n (pc := 63) hx hb dX11_makes_63 rfl (lv_at hl 0 rfl) ?_
            obtain ⟨v15, hv, h⟩ := zl_some h
            refine xgR (pc := 64) (j := 4) zc11 hx hb hts hown hK hP hv rfl zf_X11_26 dX11_makes_64 ?_
            obtain ⟨v16, hv, h⟩ := zl_some h
            refine xgR (pc := 67) (j := 7) zc10 hx hb hts hown hK hP hv rfl zf_X11_146 dX11_makes_67 ?_
            refine lv_iload (pc := 70) hx hb dX11_makes_70 (lv_at hl 4 rfl) ?_
            obtain ⟨v17, hv, h⟩ := zl_some h
            refine xaF (pc := 72) hx hb hK hP hv dX11_makes_72 ?_
            refine lv_aload_n (pc := 73) hx hb dX11_makes_73 rfl (lv_at hl 0 rfl) ?_
            obtain ⟨v18, hv, h⟩ := zl_some h
            refine xgR (pc := 74) (j := 4) zc11 hx hb hts hown hK hP hv rfl zf_X11_26 dX11_makes_74 ?_
            obtain ⟨v19, hv, h⟩ := zl_some h
            refine xgI (pc := 77) (j := 0) zc10 hx hb hts hown hK hP hv rfl zf_X11_139 dX11_makes_77 ?_
            obtain ⟨_, hg, h⟩ := zl_some h
            obtain ⟨v20, σ21, hv, h⟩ := zb_some h
            refine xcallVv (pc := 80) (As := [.int x2, .ref (o + v14), .ref (o + v17), .int v19]) (rest := []) ⟨hx, hb, hml, hown, hts⟩ (c_X0_combine l D c o g N hv) zc0 zV_X11_164 rfl zd_X0_combine ⟨Nat.le_of_ble_eq_true rfl, Nat.le_of_ble_eq_true rfl⟩ hK hP hE hS hg hl.1 rfl (Nat.le_of_ble_eq_true rfl) ⟨Nat.zero_le _, Nat.zero_le _⟩ dX11_makes_80 (fun H locs hP hS => ?_)
            refine lv_aload_n (pc := 83) hx hb dX11_makes_83 rfl (lv_at hl 0 rfl) ?_
            refine lv_iload_n (pc := 84) hx hb dX11_makes_84 rfl (lv_at hl 1 rfl) ?_
            obtain ⟨_, hg, h⟩ := zl_some h
            obtain ⟨v22, σ23, hv, h⟩ := zb_some h
            refine xcallVi (pc := 85) (As := [.int x1]) (rest := []) ⟨hx, hb, hml, hown, hts⟩ (c_X11_store l D c o g N hv) zc11 zV_X11_168 rfl zd_X11_store ⟨Nat.le_of_ble_eq_true rfl, Nat.le_of_ble_eq_true rfl⟩ hK hP hE hS hg hl.1 rfl (Nat.le_of_ble_eq_true rfl) ⟨Nat.zero_le _, Nat.zero_le _⟩ dX11_makes_85 (fun H locs hP hS => ?_)
            exact xreti (pc := 88) hx hb hr hlocks hP hK hE hS h dX11_makes_88
          · rw [if_neg c1] at h
            refine lv_bipush (pc := 35) (v := (-2)) hx hb dX11_makes_35 (by decide) ?_
            exact xreti (pc := 37) hx hb hr hlocks hP hK hE hS h dX11_makes_37
def f_X11_turn (N : Nat) (x0 : Nat) (x1 : Int32) (x2 : Int32) (x3 : Int32) (σ : zS) : Option (Int32 × zS) :=
  zl (gC 11 x0) fun _ => zb (f_X11_isRegister N x0 x1 σ) fun v1 σ2 =>
  if v1 = 0 then
    (some ((-2), σ2))
  else
    (zl (gC 11 x0) fun _ => zb (f_X11_isRegister N x0 x3 σ2) fun v3 σ4 =>
    if v3 = 0 then
      (some ((-2), σ4))
    else
      (if x2 < 0 then
        (some ((-2), σ4))
      else
        (if x2 ≤ 6 then
          (zl (gR 11 17 x0 σ4) fun v5 =>
          zl (gR 11 4 x0 σ4) fun v6 =>
          zl (gR 10 7 v6 σ4) fun v7 =>
          zl (aR 17 v7 x3 σ4) fun v8 =>
          zl (gC 2 v5) fun _ => zb (f_X2_copyFrom N v5 v8 σ4) fun v9 σ10 =>
          zl (gR 11 11 x0 σ10) fun v11 =>
          zl (gR 11 17 x0 σ10) fun v12 =>
          zl (gR 11 4 x0 σ10) fun v13 =>
          zl (gI 10 0 v13 σ10) fun v14 =>
          zl (gC 0 v11) fun _ => zb (f_X0_reshape N v11 x2 v12 v14 σ10) fun v15 σ16 =>
          zl (gC 11 x0) fun _ => zb (f_X11_store N x0 x1 σ16) fun v17 σ18 =>
          some (v17, σ18))
        else
          (some ((-2), σ4)))))
set_option maxHeartbeats 4000000 in
set_option maxRecDepth 100000 in
theorem c_X11_turn (l : Launch) (D : va_G) (c : zC) (o : Nat) (g : zEp) (N : Nat) {x0 : Nat} {x1 : Int32} {x2 : Int32} {x3 : Int32} {σ : zS} {ρ : Int32 × zS} (h : f_X11_turn N x0 x1 x2 x3 σ = some ρ) : Met l yX11_turn zs_X11_turn (zr 12) (va_Pc [.ref (o + x0), .int x1, .int x2, .int x3] (zG D c o g σ)) (zQi D c o g ρ) 0 0 (zA o) := by
  refine zMetG (by decide) (Nat.le_of_ble_eq_true rfl) ?_
  intro p e s m below meth cd ⟨hx, hb, hr, hml, hown, hts, hlocks⟩ hP hK hE ls hl
  have hS : va_S (zA o) s.heap s.heap [] := va_S.rf
  have hl : lv_has ls 4 [(0, .ref (o + x0)), (1, .int x1), (2, .int x2), (3, .int x3)] := hl
  rw [f_X11_turn.eq_1] at h
  refine lv_aload_n (pc := 0) hx hb dX11_turn_0 rfl (lv_at hl 0 rfl) ?_
  refine lv_iload_n (pc := 1) hx hb dX11_turn_1 rfl (lv_at hl 1 rfl) ?_
  obtain ⟨_, hg, h⟩ := zl_some h
  obtain ⟨v1, σ2, hv, h⟩ := zb_some h
  refine xcallVi (pc := 2) (As := [.int x1]) (rest := []) ⟨hx, hb, hml, hown, hts⟩ (c_X11_isRegister l D c o g N hv) zc11 zV_X11_135 rfl zd_X11_isRegister ⟨Nat.le_of_ble_eq_true rfl, Nat.le_of_ble_eq_true rfl⟩ hK hP hE hS hg hl.1 rfl (Nat.le_of_ble_eq_true rfl) ⟨Nat.zero_le _, Nat.zero_le _⟩ dX11_turn_2 (fun H locs hP hS => ?_)
  refine lv_if_eq (pc := 5) (tgt := 26) hx hb dX11_turn_5 (by decide) (fun c1 => ?_) (fun c1 => ?_)
  · rw [if_pos c1] at h
    refine lv_bipush (pc := 26) (v := (-2)) hx hb dX11_turn_26 (by decide) ?_
    exact xreti (pc := 28) hx hb hr hlocks hP hK hE hS h dX11_turn_28
  · rw [if_neg c1] at h
    refine lv_aload_n (pc := 8) hx hb dX11_turn_8 rfl (lv_at hl 0 rfl) ?_
    refine lv_iload_n (pc := 9) hx hb dX11_turn_9 rfl (lv_at hl 3 rfl) ?_
    obtain ⟨_, hg, h⟩ := zl_some h
    obtain ⟨v3, σ4, hv, h⟩ := zb_some h
    refine xcallVi (pc := 10) (As := [.int x3]) (rest := []) ⟨hx, hb, hml, hown, hts⟩ (c_X11_isRegister l D c o g N hv) zc11 zV_X11_135 rfl zd_X11_isRegister ⟨Nat.le_of_ble_eq_true rfl, Nat.le_of_ble_eq_true rfl⟩ hK hP hE hS hg hl.1 rfl (Nat.le_of_ble_eq_true rfl) ⟨Nat.zero_le _, Nat.zero_le _⟩ dX11_turn_10 (fun H locs hP hS => ?_)
    refine lv_if_eq (pc := 13) (tgt := 26) hx hb dX11_turn_13 (by decide) (fun c1 => ?_) (fun c1 => ?_)
    · rw [if_pos c1] at h
      refine lv_bipush (pc := 26) (v := (-2)) hx hb dX11_turn_26 (by decide) ?_
      exact xreti (pc := 28) hx hb hr hlocks hP hK hE hS h dX11_turn_28
    · rw [if_neg c1] at h
      refine lv_iload_n (pc := 16) hx hb dX11_turn_16 rfl (lv_at hl 2 rfl) ?_
      refine lv_if_lt (pc := 17) (tgt := 26) hx hb dX11_turn_17 (by decide) (fun c1 => ?_) (fun c1 => ?_)
      · rw [if_pos c1] at h
        refine lv_bipush (pc := 26) (v := (-2)) hx hb dX11_turn_26 (by decide) ?_
        exact xreti (pc := 28) hx hb hr hlocks hP hK hE hS h dX11_turn_28
      · rw [if_neg c1] at h
        refine lv_iload_n (pc := 20) hx hb dX11_turn_20 rfl (lv_at hl 2 rfl) ?_
        refine lv_bipush (pc := 21) (v := 6) hx hb dX11_turn_21 (by decide) ?_
        refine lv_icmp_le (pc := 23) (tgt := 29) hx hb dX11_turn_23 (by decide) (fun c1 => ?_) (fun c1 => ?_)
        · rw [if_pos c1] at h
          refine lv_aload_n (pc := 29) hx hb dX11_turn_29 rfl (lv_at hl 0 rfl) ?_
          obtain ⟨v5, hv, h⟩ := zl_some h
          refine xgR (pc := 30) (j := 17) zc11 hx hb hts hown hK hP hv rfl zf_X11_106 dX11_turn_30 ?_
          refine lv_aload_n (pc := 33) hx hb dX11_turn_33 rfl (lv_at hl 0 rfl) ?_
          obtain ⟨v6, hv, h⟩ := zl_some h
          refine xgR (pc := 34) (j := 4) zc11 hx hb hts hown hK hP hv rfl zf_X11_26 dX11_turn_34 ?_
          obtain ⟨v7, hv, h⟩ := zl_some h
          refine xgR (pc := 37) (j := 7) zc10 hx hb hts hown hK hP hv rfl zf_X11_146 dX11_turn_37 ?_
          refine lv_iload_n (pc := 40) hx hb dX11_turn_40 rfl (lv_at hl 3 rfl) ?_
          obtain ⟨v8, hv, h⟩ := zl_some h
          refine xaF (pc := 41) hx hb hK hP hv dX11_turn_41 ?_
          obtain ⟨_, hg, h⟩ := zl_some h
          obtain ⟨v9, σ10, hv, h⟩ := zb_some h
          refine xcallVv (pc := 42) (As := [.ref (o + v8)]) (rest := []) ⟨hx, hb, hml, hown, hts⟩ (c_X2_copyFrom l D c o g N hv) zc2 zV_X11_160 rfl zd_X2_copyFrom ⟨Nat.le_of_ble_eq_true rfl, Nat.le_of_ble_eq_true rfl⟩ hK hP hE hS hg hl.1 rfl (Nat.le_of_ble_eq_true rfl) ⟨Nat.zero_le _, Nat.zero_le _⟩ dX11_turn_42 (fun H locs hP hS => ?_)
          refine lv_aload_n (pc := 45) hx hb dX11_turn_45 rfl (lv_at hl 0 rfl) ?_
          obtain ⟨v11, hv, h⟩ := zl_some h
          refine xgR (pc := 46) (j := 11) zc11 hx hb hts hown hK hP hv rfl zf_X11_64 dX11_turn_46 ?_
          refine lv_iload_n (pc := 49) hx hb dX11_turn_49 rfl (lv_at hl 2 rfl) ?_
          refine lv_aload_n (pc := 50) hx hb dX11_turn_50 rfl (lv_at hl 0 rfl) ?_
          obtain ⟨v12, hv, h⟩ := zl_some h
          refine xgR (pc := 51) (j := 17) zc11 hx hb hts hown hK hP hv rfl zf_X11_106 dX11_turn_51 ?_
          refine lv_aload_n (pc := 54) hx hb dX11_turn_54 rfl (lv_at hl 0 rfl) ?_
          obtain ⟨v13, hv, h⟩ := zl_some h
          refine xgR (pc := 55) (j := 4) zc11 hx hb hts hown hK hP hv rfl zf_X11_26 dX11_turn_55 ?_
          obtain ⟨v14, hv, h⟩ := zl_some h
          refine xgI (pc := 58) (j := 0) zc10 hx hb hts hown hK hP hv rfl zf_X11_139 dX11_turn_58 ?_
          obtain ⟨_, hg, h⟩ := zl_some h
          obtain ⟨v15, σ16, hv, h⟩ := zb_some h
          refine xcallVv (pc := 61) (As := [.int x2, .ref (o + v12), .int v14]) (rest := []) ⟨hx, hb, hml, hown, hts⟩ (c_X0_reshape l D c o g N hv) zc0 zV_X11_172 rfl zd_X0_reshape ⟨Nat.le_of_ble_eq_true rfl, Nat.le_of_ble_eq_true rfl⟩ hK hP hE hS hg hl.1 rfl (Nat.le_of_ble_eq_true rfl) ⟨Nat.zero_le _, Nat.zero_le _⟩ dX11_turn_61 (fun H locs hP hS => ?_)
          refine lv_aload_n (pc := 64) hx hb dX11_turn_64 rfl (lv_at hl 0 rfl) ?_
          refine lv_iload_n (pc := 65) hx hb dX11_turn_65 rfl (lv_at hl 1 rfl) ?_
          obtain ⟨_, hg, h⟩ := zl_some h
          obtain ⟨v17, σ18, hv, h⟩ := zb_some h
          refine xcallVi (pc := 66) (As := [.int x1]) (rest := []) ⟨hx, hb, hml, hown, hts⟩ (c_X11_store l D c o g N hv) zc11 zV_X11_168 rfl zd_X11_store ⟨Nat.le_of_ble_eq_true rfl, Nat.le_of_ble_eq_true rfl⟩ hK hP hE hS hg hl.1 rfl (Nat.le_of_ble_eq_true rfl) ⟨Nat.zero_le _, Nat.zero_le _⟩ dX11_turn_66 (fun H locs hP hS => ?_)
          exact xreti (pc := 69) hx hb hr hlocks hP hK hE hS h dX11_turn_69
        · rw [if_neg c1] at h
          refine lv_bipush (pc := 26) (v := (-2)) hx hb dX11_turn_26 (by decide) ?_
          exact xreti (pc := 28) hx hb hr hlocks hP hK hE hS h dX11_turn_28
def f_X11_sets (N : Nat) (x0 : Nat) (x1 : Int32) (x2 : Int32) (x3 : Int32) (σ : zS) : Option (Int32 × zS) :=
  zl (gC 11 x0) fun _ => zb (f_X11_isRegister N x0 x1 σ) fun v1 σ2 =>
  if v1 = 0 then
    (some ((-2), σ2))
  else
    (zl (gC 11 x0) fun _ => zb (f_X11_isSet N x0 x2 σ2) fun v3 σ4 =>
    if v3 = 0 then
      (some ((-2), σ4))
    else
      (zl (gR 11 4 x0 σ4) fun v5 =>
      zl (gR 10 7 v5 σ4) fun v6 =>
      zl (aR 17 v6 x1 σ4) fun v7 =>
      zl (gC 2 v7) fun _ => zb (f_X2_holds N v7 x2 σ4) fun v8 σ9 =>
      if v8 = x3 then
        (some (0, σ9))
      else
        (if x3 = 0 then
          (zl (gC 2 v7) fun _ => zb (f_X2_exclude N v7 x2 σ9) fun v10 σ11 =>
          some (1, σ11))
        else
          (zl (gC 2 v7) fun _ => zb (f_X2_include N v7 x2 σ9) fun v12 σ13 =>
          some (1, σ13)))))
set_option maxHeartbeats 4000000 in
set_option maxRecDepth 100000 in
theorem c_X11_sets (l : Launch) (D : va_G) (c : zC) (o : Nat) (g : zEp) (N : Nat) {x0 : Nat} {x1 : Int32} {x2 : Int32} {x3 : Int32} {σ : zS} {ρ : Int32 × zS} (h : f_X11_sets N x0 x1 x2 x3 σ = some ρ) : Met l yX11_sets zs_X11_sets (zr 6) (va_Pc [.ref (o + x0), .int x1, .int x2, .int x3] (zG D c o g σ)) (zQi D c o g ρ) 0 0 (zA o) := by
  refine zMetG (by decide) (Nat.le_of_ble_eq_true rfl) ?_
  intro p e s m below meth cd ⟨hx, hb, hr, hml, hown, hts, hlocks⟩ hP hK hE ls hl
  have hS : va_S (zA o) s.heap s.heap [] := va_S.rf
  have hl : lv_has ls 5 [(0, .ref (o + x0)), (1, .int x1), (2, .int x2), (3, .int x3)] := hl
  rw [f_X11_sets.eq_1] at h
  refine lv_aload_n (pc := 0) hx hb dX11_sets_0 rfl (lv_at hl 0 rfl) ?_
  refine lv_iload_n (pc := 1) hx hb dX11_sets_1 rfl (lv_at hl 1 rfl) ?_
  obtain ⟨_, hg, h⟩ := zl_some h
  obtain ⟨v1, σ2, hv, h⟩ := zb_some h
  refine xcallVi (pc := 2) (As := [.int x1]) (rest := []) ⟨hx, hb, hml, hown, hts⟩ (c_X11_isRegister l D c o g N hv) zc11 zV_X11_135 rfl zd_X11_isRegister ⟨Nat.le_of_ble_eq_true rfl, Nat.le_of_ble_eq_true rfl⟩ hK hP hE hS hg hl.1 rfl (Nat.le_of_ble_eq_true rfl) ⟨Nat.zero_le _, Nat.zero_le _⟩ dX11_sets_2 (fun H locs hP hS => ?_)
  refine lv_if_eq (pc := 5) (tgt := 16) hx hb dX11_sets_5 (by decide) (fun c1 => ?_) (fun c1 => ?_)
  · rw [if_pos c1] at h
    refine lv_bipush (pc := 16) (v := (-2)) hx hb dX11_sets_16 (by decide) ?_
    exact xreti (pc := 18) hx hb hr hlocks hP hK hE hS h dX11_sets_18
  · rw [if_neg c1] at h
    refine lv_aload_n (pc := 8) hx hb dX11_sets_8 rfl (lv_at hl 0 rfl) ?_
    refine lv_iload_n (pc := 9) hx hb dX11_sets_9 rfl (lv_at hl 2 rfl) ?_
    obtain ⟨_, hg, h⟩ := zl_some h
    obtain ⟨v3, σ4, hv, h⟩ := zb_some h
    refine xcallVi (pc := 10) (As := [.int x2]) (rest := []) ⟨hx, hb, hml, hown, hts⟩ (c_X11_isSet l D c o g N hv) zc11 zV_X11_154 rfl zd_X11_isSet ⟨Nat.le_of_ble_eq_true rfl, Nat.le_of_ble_eq_true rfl⟩ hK hP hE hS hg hl.1 rfl (Nat.le_of_ble_eq_true rfl) ⟨Nat.zero_le _, Nat.zero_le _⟩ dX11_sets_10 (fun H locs hP hS => ?_)
    refine lv_if_ne (pc := 13) (tgt := 19) hx hb dX11_sets_13 (by decide) (fun c1 => ?_) (fun c1 => ?_)
    · rw [if_neg c1] at h
      refine lv_aload_n (pc := 19) hx hb dX11_sets_19 rfl (lv_at hl 0 rfl) ?_
      obtain ⟨v5, hv, h⟩ := zl_some h
      refine xgR (pc := 20) (j := 4) zc11 hx hb hts hown hK hP hv rfl zf_X11_26 dX11_sets_20 ?_
      obtain ⟨v6, hv, h⟩ := zl_some h
      refine xgR (pc := 23) (j := 7) zc10 hx hb hts hown hK hP hv rfl zf_X11_146 dX11_sets_23 ?_
      refine lv_iload_n (pc := 26) hx hb dX11_sets_26 rfl (lv_at hl 1 rfl) ?_
      obtain ⟨v7, hv, h⟩ := zl_some h
      refine xaF (pc := 27) hx hb hK hP hv dX11_sets_27 ?_
      refine lv_astore (pc := 28) (lv' := [(4, .ref (o + v7)), (0, .ref (o + x0)), (1, .int x1), (2, .int x2), (3, .int x3)]) hx hb dX11_sets_28 hl (by decide) rfl (fun ls hl => ?_)
      refine lv_aload (pc := 30) hx hb dX11_sets_30 (lv_at hl 0 rfl) ?_
      refine lv_iload_n (pc := 32) hx hb dX11_sets_32 rfl (lv_at hl 3 rfl) ?_
      obtain ⟨_, hg, h⟩ := zl_some h
      obtain ⟨v8, σ9, hv, h⟩ := zb_some h
      refine xcallVi (pc := 33) (As := [.int x2]) (rest := []) ⟨hx, hb, hml, hown, hts⟩ (c_X2_holds l D c o g N hv) zc2 zV_X11_157 rfl zd_X2_holds ⟨Nat.le_of_ble_eq_true rfl, Nat.le_of_ble_eq_true rfl⟩ hK hP hE hS hg hl.1 rfl (Nat.le_of_ble_eq_true rfl) ⟨Nat.zero_le _, Nat.zero_le _⟩ dX11_sets_33 (fun H locs hP hS => ?_)
      refine lv_iload_n (pc := 36) hx hb dX11_sets_36 rfl (lv_at hl 4 rfl) ?_
      refine lv_icmp_ne (pc := 37) (tgt := 42) hx hb dX11_sets_37 (by decide) (fun c1 => ?_) (fun c1 => ?_)
      · rw [if_neg c1] at h
        refine lv_iload_n (pc := 42) hx hb dX11_sets_42 rfl (lv_at hl 4 rfl) ?_
        refine lv_if_eq (pc := 43) (tgt := 55) hx hb dX11_sets_43 (by decide) (fun c1 => ?_) (fun c1 => ?_)
        · rw [if_pos c1] at h
          refine lv_aload (pc := 55) hx hb dX11_sets_55 (lv_at hl 0 rfl) ?_
          refine lv_iload_n (pc := 57) hx hb dX11_sets_57 rfl (lv_at hl 3 rfl) ?_
          obtain ⟨_, hg, h⟩ := zl_some h
          obtain ⟨v10, σ11, hv, h⟩ := zb_some h
          refine xcallVv (pc := 58) (As := [.int x2]) (rest := []) ⟨hx, hb, hml, hown, hts⟩ (c_X2_exclude l D c o g N hv) zc2 zV_X11_180 rfl zd_X2_exclude ⟨Nat.le_of_ble_eq_true rfl, Nat.le_of_ble_eq_true rfl⟩ hK hP hE hS hg hl.1 rfl (Nat.le_of_ble_eq_true rfl) ⟨Nat.zero_le _, Nat.zero_le _⟩ dX11_sets_58 (fun H locs hP hS => ?_)
          refine lv_iconst (pc := 61) (v := 1) hx hb dX11_sets_61 (by decide) ?_
          exact xreti (pc := 62) hx hb hr hlocks hP hK hE hS h dX11_sets_62
        · rw [if_neg c1] at h
          refine lv_aload (pc := 46) hx hb dX11_sets_46 (lv_at hl 0 rfl) ?_
          refine lv_iload_n (pc := 48) hx hb dX11_sets_48 rfl (lv_at hl 3 rfl) ?_
          obtain ⟨_, hg, h⟩ := zl_some h
          obtain ⟨v12, σ13, hv, h⟩ := zb_some h
          refine xcallVv (pc := 49) (As := [.int x2]) (rest := []) ⟨hx, hb, hml, hown, hts⟩ (c_X2_include l D c o g N hv) zc2 zV_X11_176 rfl zd_X2_include ⟨Nat.le_of_ble_eq_true rfl, Nat.le_of_ble_eq_true rfl⟩ hK hP hE hS hg hl.1 rfl (Nat.le_of_ble_eq_true rfl) ⟨Nat.zero_le _, Nat.zero_le _⟩ dX11_sets_49 (fun H locs hP hS => ?_)
          refine lv_goto (pc := 52) (tgt := 61) hx hb dX11_sets_52 (by decide) ?_
          refine lv_iconst (pc := 61) (v := 1) hx hb dX11_sets_61 (by decide) ?_
          exact xreti (pc := 62) hx hb hr hlocks hP hK hE hS h dX11_sets_62
      · rw [if_pos c1] at h
        refine lv_iconst (pc := 40) (v := 0) hx hb dX11_sets_40 (by decide) ?_
        exact xreti (pc := 41) hx hb hr hlocks hP hK hE hS h dX11_sets_41
    · rw [if_pos c1] at h
      refine lv_bipush (pc := 16) (v := (-2)) hx hb dX11_sets_16 (by decide) ?_
      exact xreti (pc := 18) hx hb hr hlocks hP hK hE hS h dX11_sets_18
def f_X11_isName (N : Nat) (x0 : Nat) (x1 : Int32) (σ : zS) : Option (Int32 × zS) :=
  if x1 < 0 then
    (rZ 0 σ)
  else
    (zl (gR 11 4 x0 σ) fun v1 =>
    zl (gI 10 0 v1 σ) fun v2 =>
    if v2 ≤ x1 then
      (rZ 0 σ)
    else
      (rZ 1 σ))
set_option maxHeartbeats 4000000 in
set_option maxRecDepth 100000 in
theorem c_X11_isName (l : Launch) (D : va_G) (c : zC) (o : Nat) (g : zEp) (N : Nat) {x0 : Nat} {x1 : Int32} {σ : zS} {ρ : Int32 × zS} (h : f_X11_isName N x0 x1 σ = some ρ) : Met l yX11_isName zs_X11_isName (zr 2) (va_Pc [.ref (o + x0), .int x1] (zG D c o g σ)) (zQi D c o g ρ) 0 0 (zA o) := by
  refine zMetG (by decide) (Nat.le_of_ble_eq_true rfl) ?_
  intro p e s m below meth cd ⟨hx, hb, hr, hml, hown, hts, hlocks⟩ hP hK hE ls hl
  have hS : va_S (zA o) s.heap s.heap [] := va_S.rf
  have hl : lv_has ls 2 [(0, .ref (o + x0)), (1, .int x1)] := hl
  rw [f_X11_isName.eq_1] at h
  refine lv_iload_n (pc := 0) hx hb dX11_isName_0 rfl (lv_at hl 1 rfl) ?_
  refine lv_if_lt (pc := 1) (tgt := 19) hx hb dX11_isName_1 (by decide) (fun c1 => ?_) (fun c1 => ?_)
  · rw [if_pos c1] at h
    refine lv_iconst (pc := 19) (v := 0) hx hb dX11_isName_19 (by decide) ?_
    exact xretz (pc := 20) hx hb hr hlocks hP hK hE hS h dX11_isName_20
  · rw [if_neg c1] at h
    refine lv_iload_n (pc := 4) hx hb dX11_isName_4 rfl (lv_at hl 1 rfl) ?_
    refine lv_aload_n (pc := 5) hx hb dX11_isName_5 rfl (lv_at hl 0 rfl) ?_
    obtain ⟨v1, hv, h⟩ := zl_some h
    refine xgR (pc := 6) (j := 4) zc11 hx hb hts hown hK hP hv rfl zf_X11_26 dX11_isName_6 ?_
    obtain ⟨v2, hv, h⟩ := zl_some h
    refine xgI (pc := 9) (j := 0) zc10 hx hb hts hown hK hP hv rfl zf_X11_139 dX11_isName_9 ?_
    refine lv_icmp_ge (pc := 12) (tgt := 19) hx hb dX11_isName_12 (by decide) (fun c1 => ?_) (fun c1 => ?_)
    · rw [if_pos c1] at h
      refine lv_iconst (pc := 19) (v := 0) hx hb dX11_isName_19 (by decide) ?_
      exact xretz (pc := 20) hx hb hr hlocks hP hK hE hS h dX11_isName_20
    · rw [if_neg c1] at h
      refine lv_iconst (pc := 15) (v := 1) hx hb dX11_isName_15 (by decide) ?_
      refine lv_goto (pc := 16) (tgt := 20) hx hb dX11_isName_16 (by decide) ?_
      exact xretz (pc := 20) hx hb hr hlocks hP hK hE hS h dX11_isName_20
def f_X11_change (N : Nat) (x0 : Nat) (x1 : Int32) (x2 : Int32) (x3 : Int32) (σ : zS) : Option (Int32 × zS) :=
  zl (gC 11 x0) fun _ => zb (f_X11_isRegister N x0 x1 σ) fun v1 σ2 =>
  if v1 = 0 then
    (some ((-2), σ2))
  else
    (zl (gC 11 x0) fun _ => zb (f_X11_isRegister N x0 x2 σ2) fun v3 σ4 =>
    if v3 = 0 then
      (some ((-2), σ4))
    else
      (zl (gC 11 x0) fun _ => zb (f_X11_isName N x0 x3 σ4) fun v5 σ6 =>
      if v5 = 0 then
        (some ((-2), σ6))
      else
        (zl (gR 11 17 x0 σ6) fun v7 =>
        zl (gR 11 4 x0 σ6) fun v8 =>
        zl (gR 10 7 v8 σ6) fun v9 =>
        zl (aR 17 v9 x2 σ6) fun v10 =>
        zl (gC 2 v7) fun _ => zb (f_X2_copyFrom N v7 v10 σ6) fun v11 σ12 =>
        zl (gR 11 17 x0 σ12) fun v13 =>
        zl (gC 2 v13) fun _ => zb (f_X2_flip N v13 x3 σ12) fun v14 σ15 =>
        zl (gC 11 x0) fun _ => zb (f_X11_store N x0 x1 σ15) fun v16 σ17 =>
        some (v16, σ17))))
set_option maxHeartbeats 4000000 in
set_option maxRecDepth 100000 in
theorem c_X11_change (l : Launch) (D : va_G) (c : zC) (o : Nat) (g : zEp) (N : Nat) {x0 : Nat} {x1 : Int32} {x2 : Int32} {x3 : Int32} {σ : zS} {ρ : Int32 × zS} (h : f_X11_change N x0 x1 x2 x3 σ = some ρ) : Met l yX11_change zs_X11_change (zr 8) (va_Pc [.ref (o + x0), .int x1, .int x2, .int x3] (zG D c o g σ)) (zQi D c o g ρ) 0 0 (zA o) := by
  refine zMetG (by decide) (Nat.le_of_ble_eq_true rfl) ?_
  intro p e s m below meth cd ⟨hx, hb, hr, hml, hown, hts, hlocks⟩ hP hK hE ls hl
  have hS : va_S (zA o) s.heap s.heap [] := va_S.rf
  have hl : lv_has ls 4 [(0, .ref (o + x0)), (1, .int x1), (2, .int x2), (3, .int x3)] := hl
  rw [f_X11_change.eq_1] at h
  refine lv_aload_n (pc := 0) hx hb dX11_change_0 rfl (lv_at hl 0 rfl) ?_
  refine lv_iload_n (pc := 1) hx hb dX11_change_1 rfl (lv_at hl 1 rfl) ?_
  obtain ⟨_, hg, h⟩ := zl_some h
  obtain ⟨v1, σ2, hv, h⟩ := zb_some h
  refine xcallVi (pc := 2) (As := [.int x1]) (rest := []) ⟨hx, hb, hml, hown, hts⟩ (c_X11_isRegister l D c o g N hv) zc11 zV_X11_135 rfl zd_X11_isRegister ⟨Nat.le_of_ble_eq_true rfl, Nat.le_of_ble_eq_true rfl⟩ hK hP hE hS hg hl.1 rfl (Nat.le_of_ble_eq_true rfl) ⟨Nat.zero_le _, Nat.zero_le _⟩ dX11_change_2 (fun H locs hP hS => ?_)
  refine lv_if_eq (pc := 5) (tgt := 24) hx hb dX11_change_5 (by decide) (fun c1 => ?_) (fun c1 => ?_)
  · rw [if_pos c1] at h
    refine lv_bipush (pc := 24) (v := (-2)) hx hb dX11_change_24 (by decide) ?_
    exact xreti (pc := 26) hx hb hr hlocks hP hK hE hS h dX11_change_26
  · rw [if_neg c1] at h
    refine lv_aload_n (pc := 8) hx hb dX11_change_8 rfl (lv_at hl 0 rfl) ?_
    refine lv_iload_n (pc := 9) hx hb dX11_change_9 rfl (lv_at hl 2 rfl) ?_
    obtain ⟨_, hg, h⟩ := zl_some h
    obtain ⟨v3, σ4, hv, h⟩ := zb_some h
    refine xcallVi (pc := 10) (As := [.int x2]) (rest := []) ⟨hx, hb, hml, hown, hts⟩ (c_X11_isRegister l D c o g N hv) zc11 zV_X11_135 rfl zd_X11_isRegister ⟨Nat.le_of_ble_eq_true rfl, Nat.le_of_ble_eq_true rfl⟩ hK hP hE hS hg hl.1 rfl (Nat.le_of_ble_eq_true rfl) ⟨Nat.zero_le _, Nat.zero_le _⟩ dX11_change_10 (fun H locs hP hS => ?_)
    refine lv_if_eq (pc := 13) (tgt := 24) hx hb dX11_change_13 (by decide) (fun c1 => ?_) (fun c1 => ?_)
    · rw [if_pos c1] at h
      refine lv_bipush (pc := 24) (v := (-2)) hx hb dX11_change_24 (by decide) ?_
      exact xreti (pc := 26) hx hb hr hlocks hP hK hE hS h dX11_change_26
    · rw [if_neg c1] at h
      refine lv_aload_n (pc := 16) hx hb dX11_change_16 rfl (lv_at hl 0 rfl) ?_
      refine lv_iload_n (pc := 17) hx hb dX11_change_17 rfl (lv_at hl 3 rfl) ?_
      obtain ⟨_, hg, h⟩ := zl_some h
      obtain ⟨v5, σ6, hv, h⟩ := zb_some h
      refine xcallVi (pc := 18) (As := [.int x3]) (rest := []) ⟨hx, hb, hml, hown, hts⟩ (c_X11_isName l D c o g N hv) zc11 zV_X11_183 rfl zd_X11_isName ⟨Nat.le_of_ble_eq_true rfl, Nat.le_of_ble_eq_true rfl⟩ hK hP hE hS hg hl.1 rfl (Nat.le_of_ble_eq_true rfl) ⟨Nat.zero_le _, Nat.zero_le _⟩ dX11_change_18 (fun H locs hP hS => ?_)
      refine lv_if_ne (pc := 21) (tgt := 27) hx hb dX11_change_21 (by decide) (fun c1 => ?_) (fun c1 => ?_)
      · rw [if_neg c1] at h
        refine lv_aload_n (pc := 27) hx hb dX11_change_27 rfl (lv_at hl 0 rfl) ?_
        obtain ⟨v7, hv, h⟩ := zl_some h
        refine xgR (pc := 28) (j := 17) zc11 hx hb hts hown hK hP hv rfl zf_X11_106 dX11_change_28 ?_
        refine lv_aload_n (pc := 31) hx hb dX11_change_31 rfl (lv_at hl 0 rfl) ?_
        obtain ⟨v8, hv, h⟩ := zl_some h
        refine xgR (pc := 32) (j := 4) zc11 hx hb hts hown hK hP hv rfl zf_X11_26 dX11_change_32 ?_
        obtain ⟨v9, hv, h⟩ := zl_some h
        refine xgR (pc := 35) (j := 7) zc10 hx hb hts hown hK hP hv rfl zf_X11_146 dX11_change_35 ?_
        refine lv_iload_n (pc := 38) hx hb dX11_change_38 rfl (lv_at hl 2 rfl) ?_
        obtain ⟨v10, hv, h⟩ := zl_some h
        refine xaF (pc := 39) hx hb hK hP hv dX11_change_39 ?_
        obtain ⟨_, hg, h⟩ := zl_some h
        obtain ⟨v11, σ12, hv, h⟩ := zb_some h
        refine xcallVv (pc := 40) (As := [.ref (o + v10)]) (rest := []) ⟨hx, hb, hml, hown, hts⟩ (c_X2_copyFrom l D c o g N hv) zc2 zV_X11_160 rfl zd_X2_copyFrom ⟨Nat.le_of_ble_eq_true rfl, Nat.le_of_ble_eq_true rfl⟩ hK hP hE hS hg hl.1 rfl (Nat.le_of_ble_eq_true rfl) ⟨Nat.zero_le _, Nat.zero_le _⟩ dX11_change_40 (fun H locs hP hS => ?_)
        refine lv_aload_n (pc := 43) hx hb dX11_change_43 rfl (lv_at hl 0 rfl) ?_
        obtain ⟨v13, hv, h⟩ := zl_some h
        refine xgR (pc := 44) (j := 17) zc11 hx hb hts hown hK hP hv rfl zf_X11_106 dX11_change_44 ?_
        refine lv_iload_n (pc := 47) hx hb dX11_change_47 rfl (lv_at hl 3 rfl) ?_
        obtain ⟨_, hg, h⟩ := zl_some h
        obtain ⟨v14, σ15, hv, h⟩ := zb_some h
        refine xcallVv (pc := 48) (As := [.int x3]) (rest := []) ⟨hx, hb, hml, hown, hts⟩ (c_X2_flip l D c o g N hv) zc2 zV_X11_186 rfl zd_X2_flip ⟨Nat.le_of_ble_eq_true rfl, Nat.le_of_ble_eq_true rfl⟩ hK hP hE hS hg hl.1 rfl (Nat.le_of_ble_eq_true rfl) ⟨Nat.zero_le _, Nat.zero_le _⟩ dX11_change_48 (fun H locs hP hS => ?_)
        refine lv_aload_n (pc := 51) hx hb dX11_change_51 rfl (lv_at hl 0 rfl) ?_
        refine lv_iload_n (pc := 52) hx hb dX11_change_52 rfl (lv_at hl 1 rfl) ?_
        obtain ⟨_, hg, h⟩ := zl_some h
        obtain ⟨v16, σ17, hv, h⟩ := zb_some h
        refine xcallVi (pc := 53) (As := [.int x1]) (rest := []) ⟨hx, hb, hml, hown, hts⟩ (c_X11_store l D c o g N hv) zc11 zV_X11_168 rfl zd_X11_store ⟨Nat.le_of_ble_eq_true rfl, Nat.le_of_ble_eq_true rfl⟩ hK hP hE hS hg hl.1 rfl (Nat.le_of_ble_eq_true rfl) ⟨Nat.zero_le _, Nat.zero_le _⟩ dX11_change_53 (fun H locs hP hS => ?_)
        exact xreti (pc := 56) hx hb hr hlocks hP hK hE hS h dX11_change_56
      · rw [if_pos c1] at h
        refine lv_bipush (pc := 24) (v := (-2)) hx hb dX11_change_24 (by decide) ?_
        exact xreti (pc := 26) hx hb hr hlocks hP hK hE hS h dX11_change_26

def f_X11_half (N : Nat) (x0 : Nat) (x1 : Int32) (x2 : Int32) (x3 : Int32) (x4 : Int32) (σ : zS) : Option (Int32 × zS) :=
  zl (gC 11 x0) fun _ => zb (f_X11_isRegister N x0 x1 σ) fun v1 σ2 =>
  if v1 = 0 then
    (some ((-2), σ2))
  else
    (zl (gC 11 x0) fun _ => zb (f_X11_isRegister N x0 x2 σ2) fun v3 σ4 =>
    if v3 = 0 then
      (some ((-2), σ4))
    else
      (zl (gC 11 x0) fun _ => zb (f_X11_isName N x0 x3 σ4) fun v5 σ6 =>
      if v5 = 0 then
        (some ((-2), σ6))
      else
        (zl (gR 11 17 x0 σ6) fun v7 =>
        zl (gR 11 4 x0 σ6) fun v8 =>
        zl (gR 10 7 v8 σ6) fun v9 =>
        zl (aR 17 v9 x2 σ6) fun v10 =>
        zl (gC 2 v7) fun _ => zb (f_X2_copyFrom N v7 v10 σ6) fun v11 σ12 =>
        if x4 = 0 then
          (zl (gR 11 17 x0 σ12) fun v13 =>
          zl (gC 2 v13) fun _ => zb (f_X2_keepWithout N v13 x3 σ12) fun v14 σ15 =>
          zl (gC 11 x0) fun _ => zb (f_X11_store N x0 x1 σ15) fun v16 σ17 =>
          some (v16, σ17))
        else
          (zl (gR 11 17 x0 σ12) fun v18 =>
          zl (gC 2 v18) fun _ => zb (f_X2_flip N v18 x3 σ12) fun v19 σ20 =>
          zl (gR 11 17 x0 σ20) fun v21 =>
          zl (gC 2 v21) fun _ => zb (f_X2_keepWithout N v21 x3 σ20) fun v22 σ23 =>
          zl (gC 11 x0) fun _ => zb (f_X11_store N x0 x1 σ23) fun v24 σ25 =>
          some (v24, σ25)))))
set_option maxHeartbeats 4000000 in
set_option maxRecDepth 100000 in
theorem c_X11_half (l : Launch) (D : va_G) (c : zC) (o : Nat) (g : zEp) (N : Nat) {x0 : Nat} {x1 : Int32} {x2 : Int32} {x3 : Int32} {x4 : Int32} {σ : zS} {ρ : Int32 × zS} (h : f_X11_half N x0 x1 x2 x3 x4 σ = some ρ) : Met l yX11_half zs_X11_half (zr 8) (va_Pc [.ref (o + x0), .int x1, .int x2, .int x3, .int x4] (zG D c o g σ)) (zQi D c o g ρ) 0 0 (zA o) := by
  refine zMetG (by decide) (Nat.le_of_ble_eq_true rfl) ?_
  intro p e s m below meth cd ⟨hx, hb, hr, hml, hown, hts, hlocks⟩ hP hK hE ls hl
  have hS : va_S (zA o) s.heap s.heap [] := va_S.rf
  have hl : lv_has ls 5 [(0, .ref (o + x0)), (1, .int x1), (2, .int x2), (3, .int x3), (4, .int x4)] := hl
  rw [f_X11_half.eq_1] at h
  refine lv_aload_n (pc := 0) hx hb dX11_half_0 rfl (lv_at hl 0 rfl) ?_
  refine lv_iload_n (pc := 1) hx hb dX11_half_1 rfl (lv_at hl 1 rfl) ?_
  obtain ⟨_, hg, h⟩ := zl_some h
  obtain ⟨v1, σ2, hv, h⟩ := zb_some h
  refine xcallVi (pc := 2) (As := [.int x1]) (rest := []) ⟨hx, hb, hml, hown, hts⟩ (c_X11_isRegister l D c o g N hv) zc11 zV_X11_135 rfl zd_X11_isRegister ⟨Nat.le_of_ble_eq_true rfl, Nat.le_of_ble_eq_true rfl⟩ hK hP hE hS hg hl.1 rfl (Nat.le_of_ble_eq_true rfl) ⟨Nat.zero_le _, Nat.zero_le _⟩ dX11_half_2 (fun H locs hP hS => ?_)
  refine lv_if_eq (pc := 5) (tgt := 24) hx hb dX11_half_5 (by decide) (fun c1 => ?_) (fun c1 => ?_)
  · rw [if_pos c1] at h
    refine lv_bipush (pc := 24) (v := (-2)) hx hb dX11_half_24 (by decide) ?_
    exact xreti (pc := 26) hx hb hr hlocks hP hK hE hS h dX11_half_26
  · rw [if_neg c1] at h
    refine lv_aload_n (pc := 8) hx hb dX11_half_8 rfl (lv_at hl 0 rfl) ?_
    refine lv_iload_n (pc := 9) hx hb dX11_half_9 rfl (lv_at hl 2 rfl) ?_
    obtain ⟨_, hg, h⟩ := zl_some h
    obtain ⟨v3, σ4, hv, h⟩ := zb_some h
    refine xcallVi (pc := 10) (As := [.int x2]) (rest := []) ⟨hx, hb, hml, hown, hts⟩ (c_X11_isRegister l D c o g N hv) zc11 zV_X11_135 rfl zd_X11_isRegister ⟨Nat.le_of_ble_eq_true rfl, Nat.le_of_ble_eq_true rfl⟩ hK hP hE hS hg hl.1 rfl (Nat.le_of_ble_eq_true rfl) ⟨Nat.zero_le _, Nat.zero_le _⟩ dX11_half_10 (fun H locs hP hS => ?_)
    refine lv_if_eq (pc := 13) (tgt := 24) hx hb dX11_half_13 (by decide) (fun c1 => ?_) (fun c1 => ?_)
    · rw [if_pos c1] at h
      refine lv_bipush (pc := 24) (v := (-2)) hx hb dX11_half_24 (by decide) ?_
      exact xreti (pc := 26) hx hb hr hlocks hP hK hE hS h dX11_half_26
    · rw [if_neg c1] at h
      refine lv_aload_n (pc := 16) hx hb dX11_half_16 rfl (lv_at hl 0 rfl) ?_
      refine lv_iload_n (pc := 17) hx hb dX11_half_17 rfl (lv_at hl 3 rfl) ?_
      obtain ⟨_, hg, h⟩ := zl_some h
      obtain ⟨v5, σ6, hv, h⟩ := zb_some h
      refine xcallVi (pc := 18) (As := [.int x3]) (rest := []) ⟨hx, hb, hml, hown, hts⟩ (c_X11_isName l D c o g N hv) zc11 zV_X11_183 rfl zd_X11_isName ⟨Nat.le_of_ble_eq_true rfl, Nat.le_of_ble_eq_true rfl⟩ hK hP hE hS hg hl.1 rfl (Nat.le_of_ble_eq_true rfl) ⟨Nat.zero_le _, Nat.zero_le _⟩ dX11_half_18 (fun H locs hP hS => ?_)
      refine lv_if_ne (pc := 21) (tgt := 27) hx hb dX11_half_21 (by decide) (fun c1 => ?_) (fun c1 => ?_)
      · rw [if_neg c1] at h
        refine lv_aload_n (pc := 27) hx hb dX11_half_27 rfl (lv_at hl 0 rfl) ?_
        obtain ⟨v7, hv, h⟩ := zl_some h
        refine xgR (pc := 28) (j := 17) zc11 hx hb hts hown hK hP hv rfl zf_X11_106 dX11_half_28 ?_
        refine lv_aload_n (pc := 31) hx hb dX11_half_31 rfl (lv_at hl 0 rfl) ?_
        obtain ⟨v8, hv, h⟩ := zl_some h
        refine xgR (pc := 32) (j := 4) zc11 hx hb hts hown hK hP hv rfl zf_X11_26 dX11_half_32 ?_
        obtain ⟨v9, hv, h⟩ := zl_some h
        refine xgR (pc := 35) (j := 7) zc10 hx hb hts hown hK hP hv rfl zf_X11_146 dX11_half_35 ?_
        refine lv_iload_n (pc := 38) hx hb dX11_half_38 rfl (lv_at hl 2 rfl) ?_
        obtain ⟨v10, hv, h⟩ := zl_some h
        refine xaF (pc := 39) hx hb hK hP hv dX11_half_39 ?_
        obtain ⟨_, hg, h⟩ := zl_some h
        obtain ⟨v11, σ12, hv, h⟩ := zb_some h
        refine xcallVv (pc := 40) (As := [.ref (o + v10)]) (rest := []) ⟨hx, hb, hml, hown, hts⟩ (c_X2_copyFrom l D c o g N hv) zc2 zV_X11_160 rfl zd_X2_copyFrom ⟨Nat.le_of_ble_eq_true rfl, Nat.le_of_ble_eq_true rfl⟩ hK hP hE hS hg hl.1 rfl (Nat.le_of_ble_eq_true rfl) ⟨Nat.zero_le _, Nat.zero_le _⟩ dX11_half_40 (fun H locs hP hS => ?_)
        refine lv_iload (pc := 43) hx hb dX11_half_43 (lv_at hl 4 rfl) ?_
        refine lv_if_eq (pc := 45) (tgt := 56) hx hb dX11_half_45 (by decide) (fun c1 => ?_) (fun c1 => ?_)
        · rw [if_pos c1] at h
          refine lv_aload_n (pc := 56) hx hb dX11_half_56 rfl (lv_at hl 0 rfl) ?_
          obtain ⟨v13, hv, h⟩ := zl_some h
          refine xgR (pc := 57) (j := 17) zc11 hx hb hts hown hK hP hv rfl zf_X11_106 dX11_half_57 ?_
          refine lv_iload_n (pc := 60) hx hb dX11_half_60 rfl (lv_at hl 3 rfl) ?_
          obtain ⟨_, hg, h⟩ := zl_some h
          obtain ⟨v14, σ15, hv, h⟩ := zb_some h
          refine xcallVv (pc := 61) (As := [.int x3]) (rest := []) ⟨hx, hb, hml, hown, hts⟩ (c_X2_keepWithout l D c o g N hv) zc2 zV_X11_189 rfl zd_X2_keepWithout ⟨Nat.le_of_ble_eq_true rfl, Nat.le_of_ble_eq_true rfl⟩ hK hP hE hS hg hl.1 rfl (Nat.le_of_ble_eq_true rfl) ⟨Nat.zero_le _, Nat.zero_le _⟩ dX11_half_61 (fun H locs hP hS => ?_)
          refine lv_aload_n (pc := 64) hx hb dX11_half_64 rfl (lv_at hl 0 rfl) ?_
          refine lv_iload_n (pc := 65) hx hb dX11_half_65 rfl (lv_at hl 1 rfl) ?_
          obtain ⟨_, hg, h⟩ := zl_some h
          obtain ⟨v16, σ17, hv, h⟩ := zb_some h
          refine xcallVi (pc := 66) (As := [.int x1]) (rest := []) ⟨hx, hb, hml, hown, hts⟩ (c_X11_store l D c o g N hv) zc11 zV_X11_168 rfl zd_X11_store ⟨Nat.le_of_ble_eq_true rfl, Nat.le_of_ble_eq_true rfl⟩ hK hP hE hS hg hl.1 rfl (Nat.le_of_ble_eq_true rfl) ⟨Nat.zero_le _, Nat.zero_le _⟩ dX11_half_66 (fun H locs hP hS => ?_)
          exact xreti (pc := 69) hx hb hr hlocks hP hK hE hS h dX11_half_69
        · rw [if_neg c1] at h
          refine lv_aload_n (pc := 48) hx hb dX11_half_48 rfl (lv_at hl 0 rfl) ?_
          obtain ⟨v18, hv, h⟩ := zl_some h
          refine xgR (pc := 49) (j := 17) zc11 hx hb hts hown hK hP hv rfl zf_X11_106 dX11_half_49 ?_
          refine lv_iload_n (pc := 52) hx hb dX11_half_52 rfl (lv_at hl 3 rfl) ?_
          obtain ⟨_, hg, h⟩ := zl_some h
          obtain ⟨v19, σ20, hv, h⟩ := zb_some h
          refine xcallVv (pc := 53) (As := [.int x3]) (rest := []) ⟨hx, hb, hml, hown, hts⟩ (c_X2_flip l D c o g N hv) zc2 zV_X11_186 rfl zd_X2_flip ⟨Nat.le_of_ble_eq_true rfl, Nat.le_of_ble_eq_true rfl⟩ hK hP hE hS hg hl.1 rfl (Nat.le_of_ble_eq_true rfl) ⟨Nat.zero_le _, Nat.zero_le _⟩ dX11_half_53 (fun H locs hP hS => ?_)
          refine lv_aload_n (pc := 56) hx hb dX11_half_56 rfl (lv_at hl 0 rfl) ?_
          obtain ⟨v21, hv, h⟩ := zl_some h
          refine xgR (pc := 57) (j := 17) zc11 hx hb hts hown hK hP hv rfl zf_X11_106 dX11_half_57 ?_
          refine lv_iload_n (pc := 60) hx hb dX11_half_60 rfl (lv_at hl 3 rfl) ?_
          obtain ⟨_, hg, h⟩ := zl_some h
          obtain ⟨v22, σ23, hv, h⟩ := zb_some h
          refine xcallVv (pc := 61) (As := [.int x3]) (rest := []) ⟨hx, hb, hml, hown, hts⟩ (c_X2_keepWithout l D c o g N hv) zc2 zV_X11_189 rfl zd_X2_keepWithout ⟨Nat.le_of_ble_eq_true rfl, Nat.le_of_ble_eq_true rfl⟩ hK hP hE hS hg hl.1 rfl (Nat.le_of_ble_eq_true rfl) ⟨Nat.zero_le _, Nat.zero_le _⟩ dX11_half_61 (fun H locs hP hS => ?_)
          refine lv_aload_n (pc := 64) hx hb dX11_half_64 rfl (lv_at hl 0 rfl) ?_
          refine lv_iload_n (pc := 65) hx hb dX11_half_65 rfl (lv_at hl 1 rfl) ?_
          obtain ⟨_, hg, h⟩ := zl_some h
          obtain ⟨v24, σ25, hv, h⟩ := zb_some h
          refine xcallVi (pc := 66) (As := [.int x1]) (rest := []) ⟨hx, hb, hml, hown, hts⟩ (c_X11_store l D c o g N hv) zc11 zV_X11_168 rfl zd_X11_store ⟨Nat.le_of_ble_eq_true rfl, Nat.le_of_ble_eq_true rfl⟩ hK hP hE hS hg hl.1 rfl (Nat.le_of_ble_eq_true rfl) ⟨Nat.zero_le _, Nat.zero_le _⟩ dX11_half_66 (fun H locs hP hS => ?_)
          exact xreti (pc := 69) hx hb hr hlocks hP hK hE hS h dX11_half_69
      · rw [if_pos c1] at h
        refine lv_bipush (pc := 24) (v := (-2)) hx hb dX11_half_24 (by decide) ?_
        exact xreti (pc := 26) hx hb hr hlocks hP hK hE hS h dX11_half_26
def F_X11_level_50 (N : Nat) (x0 : Nat) (x1 : Int32) (x3 : Int32) (x4 : Nat) (again50 : (Int32 × zS) → Option (Int32 × zS)) : Int32 × zS → Option (Int32 × zS)
  | (x5, σ) =>
  zl (gR 11 4 x0 σ) fun v11 =>
  zl (gI 10 0 v11 σ) fun v12 =>
  if ((1 : Int32) <<< (v12 &&& 31)) ≤ x5 then
    (zl (gC 11 x0) fun _ => zb (f_X11_store N x0 x1 σ) fun v13 σ14 =>
    some (v13, σ14))
  else
    (zb (f_J6_bitCount_0f7a4 N x5 σ) fun v15 σ16 =>
    if v15 = x3 then
      (zl (gC 2 x4) fun _ => zb (f_X2_holds N x4 x5 σ16) fun v17 σ18 =>
      if v17 = 0 then
        (again50 (x5 + 1, σ18))
      else
        (zl (gR 11 17 x0 σ18) fun v19 =>
        zl (gC 2 v19) fun _ => zb (f_X2_include N v19 x5 σ18) fun v20 σ21 =>
        again50 (x5 + 1, σ21)))
    else
      (again50 (x5 + 1, σ16)))
def f_X11_level (N : Nat) (x0 : Nat) (x1 : Int32) (x2 : Int32) (x3 : Int32) (σ : zS) : Option (Int32 × zS) :=
  zl (gC 11 x0) fun _ => zb (f_X11_isRegister N x0 x1 σ) fun v1 σ2 =>
  if v1 = 0 then
    (some ((-2), σ2))
  else
    (zl (gC 11 x0) fun _ => zb (f_X11_isRegister N x0 x2 σ2) fun v3 σ4 =>
    if v3 = 0 then
      (some ((-2), σ4))
    else
      (if x3 < 0 then
        (some ((-2), σ4))
      else
        (if x3 ≤ 10 then
          (zl (gR 11 4 x0 σ4) fun v5 =>
          zl (gR 10 7 v5 σ4) fun v6 =>
          zl (aR 17 v6 x2 σ4) fun v7 =>
          zl (gR 11 17 x0 σ4) fun v8 =>
          zl (gC 2 v8) fun _ => zb (f_X2_clear N v8 σ4) fun v9 σ10 =>
          zlp (F_X11_level_50 N x0 x1 x3 v7) N (0, σ10))
        else
          (some ((-2), σ4)))))
set_option maxHeartbeats 4000000 in
set_option maxRecDepth 100000 in
theorem c_X11_level (l : Launch) (D : va_G) (c : zC) (o : Nat) (g : zEp) (N : Nat) {x0 : Nat} {x1 : Int32} {x2 : Int32} {x3 : Int32} {σ : zS} {ρ : Int32 × zS} (h : f_X11_level N x0 x1 x2 x3 σ = some ρ) : Met l yX11_level zs_X11_level (zr 8) (va_Pc [.ref (o + x0), .int x1, .int x2, .int x3] (zG D c o g σ)) (zQi D c o g ρ) 0 0 (zA o) := by
  refine zMetG (by decide) (Nat.le_of_ble_eq_true rfl) ?_
  intro p e s m below meth cd ⟨hx, hb, hr, hml, hown, hts, hlocks⟩ hP hK hE ls hl
  have hS : va_S (zA o) s.heap s.heap [] := va_S.rf
  have hl : lv_has ls 6 [(0, .ref (o + x0)), (1, .int x1), (2, .int x2), (3, .int x3)] := hl
  rw [f_X11_level.eq_1] at h
  refine lv_aload_n (pc := 0) hx hb dX11_level_0 rfl (lv_at hl 0 rfl) ?_
  refine lv_iload_n (pc := 1) hx hb dX11_level_1 rfl (lv_at hl 1 rfl) ?_
  obtain ⟨_, hg, h⟩ := zl_some h
  obtain ⟨v1, σ2, hv, h⟩ := zb_some h
  refine xcallVi (pc := 2) (As := [.int x1]) (rest := []) ⟨hx, hb, hml, hown, hts⟩ (c_X11_isRegister l D c o g N hv) zc11 zV_X11_135 rfl zd_X11_isRegister ⟨Nat.le_of_ble_eq_true rfl, Nat.le_of_ble_eq_true rfl⟩ hK hP hE hS hg hl.1 rfl (Nat.le_of_ble_eq_true rfl) ⟨Nat.zero_le _, Nat.zero_le _⟩ dX11_level_2 (fun H locs hP hS => ?_)
  refine lv_if_eq (pc := 5) (tgt := 26) hx hb dX11_level_5 (by decide) (fun c1 => ?_) (fun c1 => ?_)
  · rw [if_pos c1] at h
    refine lv_bipush (pc := 26) (v := (-2)) hx hb dX11_level_26 (by decide) ?_
    exact xreti (pc := 28) hx hb hr hlocks hP hK hE hS h dX11_level_28
  · rw [if_neg c1] at h
    refine lv_aload_n (pc := 8) hx hb dX11_level_8 rfl (lv_at hl 0 rfl) ?_
    refine lv_iload_n (pc := 9) hx hb dX11_level_9 rfl (lv_at hl 2 rfl) ?_
    obtain ⟨_, hg, h⟩ := zl_some h
    obtain ⟨v3, σ4, hv, h⟩ := zb_some h
    refine xcallVi (pc := 10) (As := [.int x2]) (rest := []) ⟨hx, hb, hml, hown, hts⟩ (c_X11_isRegister l D c o g N hv) zc11 zV_X11_135 rfl zd_X11_isRegister ⟨Nat.le_of_ble_eq_true rfl, Nat.le_of_ble_eq_true rfl⟩ hK hP hE hS hg hl.1 rfl (Nat.le_of_ble_eq_true rfl) ⟨Nat.zero_le _, Nat.zero_le _⟩ dX11_level_10 (fun H locs hP hS => ?_)
    refine lv_if_eq (pc := 13) (tgt := 26) hx hb dX11_level_13 (by decide) (fun c1 => ?_) (fun c1 => ?_)
    · rw [if_pos c1] at h
      refine lv_bipush (pc := 26) (v := (-2)) hx hb dX11_level_26 (by decide) ?_
      exact xreti (pc := 28) hx hb hr hlocks hP hK hE hS h dX11_level_28
    · rw [if_neg c1] at h
      refine lv_iload_n (pc := 16) hx hb dX11_level_16 rfl (lv_at hl 3 rfl) ?_
      refine lv_if_lt (pc := 17) (tgt := 26) hx hb dX11_level_17 (by decide) (fun c1 => ?_) (fun c1 => ?_)
      · rw [if_pos c1] at h
        refine lv_bipush (pc := 26) (v := (-2)) hx hb dX11_level_26 (by decide) ?_
        exact xreti (pc := 28) hx hb hr hlocks hP hK hE hS h dX11_level_28
      · rw [if_neg c1] at h
        refine lv_iload_n (pc := 20) hx hb dX11_level_20 rfl (lv_at hl 3 rfl) ?_
        refine lv_bipush (pc := 21) (v := 10) hx hb dX11_level_21 (by decide) ?_
        refine lv_icmp_le (pc := 23) (tgt := 29) hx hb dX11_level_23 (by decide) (fun c1 => ?_) (fun c1 => ?_)
        · rw [if_pos c1] at h
          refine lv_aload_n (pc := 29) hx hb dX11_level_29 rfl (lv_at hl 0 rfl) ?_
          obtain ⟨v5, hv, h⟩ := zl_some h
          refine xgR (pc := 30) (j := 4) zc11 hx hb hts hown hK hP hv rfl zf_X11_26 dX11_level_30 ?_
          obtain ⟨v6, hv, h⟩ := zl_some h
          refine xgR (pc := 33) (j := 7) zc10 hx hb hts hown hK hP hv rfl zf_X11_146 dX11_level_33 ?_
          refine lv_iload_n (pc := 36) hx hb dX11_level_36 rfl (lv_at hl 2 rfl) ?_
          obtain ⟨v7, hv, h⟩ := zl_some h
          refine xaF (pc := 37) hx hb hK hP hv dX11_level_37 ?_
          refine lv_astore (pc := 38) (lv' := [(4, .ref (o + v7)), (0, .ref (o + x0)), (1, .int x1), (2, .int x2), (3, .int x3)]) hx hb dX11_level_38 hl (by decide) rfl (fun ls hl => ?_)
          refine lv_aload_n (pc := 40) hx hb dX11_level_40 rfl (lv_at hl 1 rfl) ?_
          obtain ⟨v8, hv, h⟩ := zl_some h
          refine xgR (pc := 41) (j := 17) zc11 hx hb hts hown hK hP hv rfl zf_X11_106 dX11_level_41 ?_
          obtain ⟨_, hg, h⟩ := zl_some h
          obtain ⟨v9, σ10, hv, h⟩ := zb_some h
          refine xcallVv (pc := 44) (As := []) (rest := []) ⟨hx, hb, hml, hown, hts⟩ (c_X2_clear l D c o g N hv) zc2 zV_X11_192 rfl zd_X2_clear ⟨Nat.le_of_ble_eq_true rfl, Nat.le_of_ble_eq_true rfl⟩ hK hP hE hS hg hl.1 rfl (Nat.le_of_ble_eq_true rfl) ⟨Nat.zero_le _, Nat.zero_le _⟩ dX11_level_44 (fun H locs hP hS => ?_)
          refine lv_iconst (pc := 47) (v := 0) hx hb dX11_level_47 (by decide) ?_
          refine lv_istore (pc := 48) (lv' := [(5, .int 0), (4, .ref (o + v7)), (0, .ref (o + x0)), (1, .int x1), (2, .int x2), (3, .int x3)]) hx hb dX11_level_48 hl (by decide) rfl (fun ls hl => ?_)
          have L50_11 : ∀ (n : Nat) (t : Int32 × zS), zlp (F_X11_level_50 N x0 x1 x3 v7) n t = some ρ → ∀ (H : Heap) (locs : List Loc) (ls : Array Slot), zP D c o (zabs o (t.2)) H → va_S (zA o) s.heap H locs → lv_has ls 6 [(5, .int (t.1)), (0, .ref (o + x0)), (1, .int x1), (3, .int x3), (4, .ref (o + v7))] → W p l e (zr 8) s m (([.ref (o + x0), .int x1, .int x2, .int x3] : List Value).toArray) below meth cd H locs 0 0 (MQ below (zQi D c o g ρ) (([.ref (o + x0), .int x1, .int x2, .int x3] : List Value).toArray) s 0 0 (zA o)) (F0 m 50 ls []) := by
            refine zlp_ind (fun ag11 ih11 t h H locs ls hP hS hl => ?_)
            obtain ⟨x5_11, σ11⟩ := t
            have hP : zP D c o (zabs o σ11) H := hP
            have hl : lv_has ls 6 [(5, .int x5_11), (0, .ref (o + x0)), (1, .int x1), (3, .int x3), (4, .ref (o + v7))] := hl
            rw [F_X11_level_50.eq_1] at h
            show W p l e (zr 8) s m (([.ref (o + x0), .int x1, .int x2, .int x3] : List Value).toArray) below meth cd H locs 0 0 (MQ below (zQi D c o g ρ) (([.ref (o + x0), .int x1, .int x2, .int x3] : List Value).toArray) s 0 0 (zA o)) (F0 m 50 ls [])
            refine lv_iload (pc := 50) hx hb dX11_level_50 (lv_at hl 0 rfl) ?_
            refine lv_iconst (pc := 52) (v := 1) hx hb dX11_level_52 (by decide) ?_
            refine lv_aload_n (pc := 53) hx hb dX11_level_53 rfl (lv_at hl 1 rfl) ?_
            obtain ⟨v12, hv, h⟩ := zl_some h
            refine xgR (pc := 54) (j := 4) zc11 hx hb hts hown hK hP hv rfl zf_X11_26 dX11_level_54 ?_
            obtain ⟨v13, hv, h⟩ := zl_some h
            refine xgI (pc := 57) (j := 0) zc10 hx hb hts hown hK hP hv rfl zf_X11_139 dX11_level_57 ?_
            refine lv_ishl (pc := 60) hx hb dX11_level_60 ?_
            refine lv_icmp_ge (pc := 61) (tgt := 98) hx hb dX11_level_61 (by decide) (fun c1 => ?_) (fun c1 => ?_)
            · rw [if_pos c1] at h
              refine lv_aload_n (pc := 98) hx hb dX11_level_98 rfl (lv_at hl 1 rfl) ?_
              refine lv_iload_n (pc := 99) hx hb dX11_level_99 rfl (lv_at hl 2 rfl) ?_
              obtain ⟨_, hg, h⟩ := zl_some h
              obtain ⟨v14, σ15, hv, h⟩ := zb_some h
              refine xcallVi (pc := 100) (As := [.int x1]) (rest := []) ⟨hx, hb, hml, hown, hts⟩ (c_X11_store l D c o g N hv) zc11 zV_X11_168 rfl zd_X11_store ⟨Nat.le_of_ble_eq_true rfl, Nat.le_of_ble_eq_true rfl⟩ hK hP hE hS hg hl.1 rfl (Nat.le_of_ble_eq_true rfl) ⟨Nat.zero_le _, Nat.zero_le _⟩ dX11_level_100 (fun H locs hP hS => ?_)
              exact xreti (pc := 103) hx hb hr hlocks hP hK hE hS h dX11_level_103
            · rw [if_neg c1] at h
              refine lv_iload (pc := 64) hx hb dX11_level_64 (lv_at hl 0 rfl) ?_
              obtain ⟨v16, σ17, hv, h⟩ := zb_some h
              refine xcallSi (pc := 66) (As := [.int x5_11]) (rest := []) ⟨hx, hb, hml, hown, hts⟩ (c_J6_bitCount_0f7a4 l D c o g N hv) zT_X11_193 rfl zd_J6_bitCount_0f7a4 ⟨Nat.le_of_ble_eq_true rfl, Nat.le_of_ble_eq_true rfl⟩ hK hP hE hS hl.1 rfl (Nat.le_of_ble_eq_true rfl) ⟨Nat.zero_le _, Nat.zero_le _⟩ dX11_level_66 (fun H locs hP hS => ?_)
              refine lv_iload_n (pc := 69) hx hb dX11_level_69 rfl (lv_at hl 3 rfl) ?_
              refine lv_icmp_ne (pc := 70) (tgt := 92) hx hb dX11_level_70 (by decide) (fun c1 => ?_) (fun c1 => ?_)
              · rw [if_neg c1] at h
                refine lv_iinc (pc := 92) (v := x5_11 + 1) (lv' := [(5, .int (x5_11 + 1)), (0, .ref (o + x0)), (1, .int x1), (3, .int x3), (4, .ref (o + v7))]) hx hb dX11_level_92 hl (k := 0) rfl rfl (by decide) rfl (fun ls hl => ?_)
                refine lv_goto (pc := 95) (tgt := 50) hx hb dX11_level_95 (by decide) ?_
                exact ih11 (x5_11 + 1, σ17) h _ _ ls hP hS (lv_sub hl [0, 1, 2, 3, 4] rfl)
              · rw [if_pos c1] at h
                refine lv_aload (pc := 73) hx hb dX11_level_73 (lv_at hl 4 rfl) ?_
                refine lv_iload (pc := 75) hx hb dX11_level_75 (lv_at hl 0 rfl) ?_
                obtain ⟨_, hg, h⟩ := zl_some h
                obtain ⟨v18, σ19, hv, h⟩ := zb_some h
                refine xcallVi (pc := 77) (As := [.int x5_11]) (rest := []) ⟨hx, hb, hml, hown, hts⟩ (c_X2_holds l D c o g N hv) zc2 zV_X11_157 rfl zd_X2_holds ⟨Nat.le_of_ble_eq_true rfl, Nat.le_of_ble_eq_true rfl⟩ hK hP hE hS hg hl.1 rfl (Nat.le_of_ble_eq_true rfl) ⟨Nat.zero_le _, Nat.zero_le _⟩ dX11_level_77 (fun H locs hP hS => ?_)
                refine lv_if_eq (pc := 80) (tgt := 92) hx hb dX11_level_80 (by decide) (fun c1 => ?_) (fun c1 => ?_)
                · rw [if_pos c1] at h
                  refine lv_iinc (pc := 92) (v := x5_11 + 1) (lv' := [(5, .int (x5_11 + 1)), (0, .ref (o + x0)), (1, .int x1), (3, .int x3), (4, .ref (o + v7))]) hx hb dX11_level_92 hl (k := 0) rfl rfl (by decide) rfl (fun ls hl => ?_)
                  refine lv_goto (pc := 95) (tgt := 50) hx hb dX11_level_95 (by decide) ?_
                  exact ih11 (x5_11 + 1, σ19) h _ _ ls hP hS (lv_sub hl [0, 1, 2, 3, 4] rfl)
                · rw [if_neg c1] at h
                  refine lv_aload_n (pc := 83) hx hb dX11_level_83 rfl (lv_at hl 1 rfl) ?_
                  obtain ⟨v20, hv, h⟩ := zl_some h
                  refine xgR (pc := 84) (j := 17) zc11 hx hb hts hown hK hP hv rfl zf_X11_106 dX11_level_84 ?_
                  refine lv_iload (pc := 87) hx hb dX11_level_87 (lv_at hl 0 rfl) ?_
                  obtain ⟨_, hg, h⟩ := zl_some h
                  obtain ⟨v21, σ22, hv, h⟩ := zb_some h
                  refine xcallVv (pc := 89) (As := [.int x5_11]) (rest := []) ⟨hx, hb, hml, hown, hts⟩ (c_X2_include l D c o g N hv) zc2 zV_X11_176 rfl zd_X2_include ⟨Nat.le_of_ble_eq_true rfl, Nat.le_of_ble_eq_true rfl⟩ hK hP hE hS hg hl.1 rfl (Nat.le_of_ble_eq_true rfl) ⟨Nat.zero_le _, Nat.zero_le _⟩ dX11_level_89 (fun H locs hP hS => ?_)
                  refine lv_iinc (pc := 92) (v := x5_11 + 1) (lv' := [(5, .int (x5_11 + 1)), (0, .ref (o + x0)), (1, .int x1), (3, .int x3), (4, .ref (o + v7))]) hx hb dX11_level_92 hl (k := 0) rfl rfl (by decide) rfl (fun ls hl => ?_)
                  refine lv_goto (pc := 95) (tgt := 50) hx hb dX11_level_95 (by decide) ?_
                  exact ih11 (x5_11 + 1, σ22) h _ _ ls hP hS (lv_sub hl [0, 1, 2, 3, 4] rfl)
          exact L50_11 N (0, σ10) h _ _ ls hP hS (lv_sub hl [0, 2, 3, 5, 1] rfl)
        · rw [if_neg c1] at h
          refine lv_bipush (pc := 26) (v := (-2)) hx hb dX11_level_26 (by decide) ?_
          exact xreti (pc := 28) hx hb hr hlocks hP hK hE hS h dX11_level_28
def f_X11_nth (N : Nat) (x0 : Nat) (x1 : Int32) (x2 : Int32) (σ : zS) : Option (Int32 × zS) :=
  zl (gC 11 x0) fun _ => zb (f_X11_isRegister N x0 x1 σ) fun v1 σ2 =>
  if v1 = 0 then
    (some ((-2), σ2))
  else
    (zl (gR 11 4 x0 σ2) fun v3 =>
    zl (gR 10 7 v3 σ2) fun v4 =>
    zl (aR 17 v4 x1 σ2) fun v5 =>
    zl (gC 2 v5) fun _ => zb (f_X2_pick N v5 x2 σ2) fun v6 σ7 =>
    some (v6, σ7))
set_option maxHeartbeats 4000000 in
set_option maxRecDepth 100000 in
theorem c_X11_nth (l : Launch) (D : va_G) (c : zC) (o : Nat) (g : zEp) (N : Nat) {x0 : Nat} {x1 : Int32} {x2 : Int32} {σ : zS} {ρ : Int32 × zS} (h : f_X11_nth N x0 x1 x2 σ = some ρ) : Met l yX11_nth zs_X11_nth (zr 10) (va_Pc [.ref (o + x0), .int x1, .int x2] (zG D c o g σ)) (zQi D c o g ρ) 0 0 (zA o) := by
  refine zMetG (by decide) (Nat.le_of_ble_eq_true rfl) ?_
  intro p e s m below meth cd ⟨hx, hb, hr, hml, hown, hts, hlocks⟩ hP hK hE ls hl
  have hS : va_S (zA o) s.heap s.heap [] := va_S.rf
  have hl : lv_has ls 3 [(0, .ref (o + x0)), (1, .int x1), (2, .int x2)] := hl
  rw [f_X11_nth.eq_1] at h
  refine lv_aload_n (pc := 0) hx hb dX11_nth_0 rfl (lv_at hl 0 rfl) ?_
  refine lv_iload_n (pc := 1) hx hb dX11_nth_1 rfl (lv_at hl 1 rfl) ?_
  obtain ⟨_, hg, h⟩ := zl_some h
  obtain ⟨v1, σ2, hv, h⟩ := zb_some h
  refine xcallVi (pc := 2) (As := [.int x1]) (rest := []) ⟨hx, hb, hml, hown, hts⟩ (c_X11_isRegister l D c o g N hv) zc11 zV_X11_135 rfl zd_X11_isRegister ⟨Nat.le_of_ble_eq_true rfl, Nat.le_of_ble_eq_true rfl⟩ hK hP hE hS hg hl.1 rfl (Nat.le_of_ble_eq_true rfl) ⟨Nat.zero_le _, Nat.zero_le _⟩ dX11_nth_2 (fun H locs hP hS => ?_)
  refine lv_if_eq (pc := 5) (tgt := 24) hx hb dX11_nth_5 (by decide) (fun c1 => ?_) (fun c1 => ?_)
  · rw [if_pos c1] at h
    refine lv_bipush (pc := 24) (v := (-2)) hx hb dX11_nth_24 (by decide) ?_
    exact xreti (pc := 26) hx hb hr hlocks hP hK hE hS h dX11_nth_26
  · rw [if_neg c1] at h
    refine lv_aload_n (pc := 8) hx hb dX11_nth_8 rfl (lv_at hl 0 rfl) ?_
    obtain ⟨v3, hv, h⟩ := zl_some h
    refine xgR (pc := 9) (j := 4) zc11 hx hb hts hown hK hP hv rfl zf_X11_26 dX11_nth_9 ?_
    obtain ⟨v4, hv, h⟩ := zl_some h
    refine xgR (pc := 12) (j := 7) zc10 hx hb hts hown hK hP hv rfl zf_X11_146 dX11_nth_12 ?_
    refine lv_iload_n (pc := 15) hx hb dX11_nth_15 rfl (lv_at hl 1 rfl) ?_
    obtain ⟨v5, hv, h⟩ := zl_some h
    refine xaF (pc := 16) hx hb hK hP hv dX11_nth_16 ?_
    refine lv_iload_n (pc := 17) hx hb dX11_nth_17 rfl (lv_at hl 2 rfl) ?_
    obtain ⟨_, hg, h⟩ := zl_some h
    obtain ⟨v6, σ7, hv, h⟩ := zb_some h
    refine xcallVi (pc := 18) (As := [.int x2]) (rest := []) ⟨hx, hb, hml, hown, hts⟩ (c_X2_pick l D c o g N hv) zc2 zV_X11_198 rfl zd_X2_pick ⟨Nat.le_of_ble_eq_true rfl, Nat.le_of_ble_eq_true rfl⟩ hK hP hE hS hg hl.1 rfl (Nat.le_of_ble_eq_true rfl) ⟨Nat.zero_le _, Nat.zero_le _⟩ dX11_nth_18 (fun H locs hP hS => ?_)
    refine lv_goto (pc := 21) (tgt := 26) hx hb dX11_nth_21 (by decide) ?_
    exact xreti (pc := 26) hx hb hr hlocks hP hK hE hS h dX11_nth_26
def f_X11_rank (N : Nat) (x0 : Nat) (x1 : Int32) (x2 : Int32) (σ : zS) : Option (Int32 × zS) :=
  zl (gC 11 x0) fun _ => zb (f_X11_isRegister N x0 x1 σ) fun v1 σ2 =>
  if v1 = 0 then
    (some ((-2), σ2))
  else
    (zl (gC 11 x0) fun _ => zb (f_X11_isSet N x0 x2 σ2) fun v3 σ4 =>
    if v3 = 0 then
      (some ((-2), σ4))
    else
      (zl (gR 11 4 x0 σ4) fun v5 =>
      zl (gR 10 7 v5 σ4) fun v6 =>
      zl (aR 17 v6 x1 σ4) fun v7 =>
      zl (gC 2 v7) fun _ => zb (f_X2_tallyBelow N v7 x2 σ4) fun v8 σ9 =>
      some (v8, σ9)))
set_option maxHeartbeats 4000000 in
set_option maxRecDepth 100000 in
theorem c_X11_rank (l : Launch) (D : va_G) (c : zC) (o : Nat) (g : zEp) (N : Nat) {x0 : Nat} {x1 : Int32} {x2 : Int32} {σ : zS} {ρ : Int32 × zS} (h : f_X11_rank N x0 x1 x2 σ = some ρ) : Met l yX11_rank zs_X11_rank (zr 6) (va_Pc [.ref (o + x0), .int x1, .int x2] (zG D c o g σ)) (zQi D c o g ρ) 0 0 (zA o) := by
  refine zMetG (by decide) (Nat.le_of_ble_eq_true rfl) ?_
  intro p e s m below meth cd ⟨hx, hb, hr, hml, hown, hts, hlocks⟩ hP hK hE ls hl
  have hS : va_S (zA o) s.heap s.heap [] := va_S.rf
  have hl : lv_has ls 3 [(0, .ref (o + x0)), (1, .int x1), (2, .int x2)] := hl
  rw [f_X11_rank.eq_1] at h
  refine lv_aload_n (pc := 0) hx hb dX11_rank_0 rfl (lv_at hl 0 rfl) ?_
  refine lv_iload_n (pc := 1) hx hb dX11_rank_1 rfl (lv_at hl 1 rfl) ?_
  obtain ⟨_, hg, h⟩ := zl_some h
  obtain ⟨v1, σ2, hv, h⟩ := zb_some h
  refine xcallVi (pc := 2) (As := [.int x1]) (rest := []) ⟨hx, hb, hml, hown, hts⟩ (c_X11_isRegister l D c o g N hv) zc11 zV_X11_135 rfl zd_X11_isRegister ⟨Nat.le_of_ble_eq_true rfl, Nat.le_of_ble_eq_true rfl⟩ hK hP hE hS hg hl.1 rfl (Nat.le_of_ble_eq_true rfl) ⟨Nat.zero_le _, Nat.zero_le _⟩ dX11_rank_2 (fun H locs hP hS => ?_)
  refine lv_if_eq (pc := 5) (tgt := 16) hx hb dX11_rank_5 (by decide) (fun c1 => ?_) (fun c1 => ?_)
  · rw [if_pos c1] at h
    refine lv_bipush (pc := 16) (v := (-2)) hx hb dX11_rank_16 (by decide) ?_
    exact xreti (pc := 18) hx hb hr hlocks hP hK hE hS h dX11_rank_18
  · rw [if_neg c1] at h
    refine lv_aload_n (pc := 8) hx hb dX11_rank_8 rfl (lv_at hl 0 rfl) ?_
    refine lv_iload_n (pc := 9) hx hb dX11_rank_9 rfl (lv_at hl 2 rfl) ?_
    obtain ⟨_, hg, h⟩ := zl_some h
    obtain ⟨v3, σ4, hv, h⟩ := zb_some h
    refine xcallVi (pc := 10) (As := [.int x2]) (rest := []) ⟨hx, hb, hml, hown, hts⟩ (c_X11_isSet l D c o g N hv) zc11 zV_X11_154 rfl zd_X11_isSet ⟨Nat.le_of_ble_eq_true rfl, Nat.le_of_ble_eq_true rfl⟩ hK hP hE hS hg hl.1 rfl (Nat.le_of_ble_eq_true rfl) ⟨Nat.zero_le _, Nat.zero_le _⟩ dX11_rank_10 (fun H locs hP hS => ?_)
    refine lv_if_ne (pc := 13) (tgt := 19) hx hb dX11_rank_13 (by decide) (fun c1 => ?_) (fun c1 => ?_)
    · rw [if_neg c1] at h
      refine lv_aload_n (pc := 19) hx hb dX11_rank_19 rfl (lv_at hl 0 rfl) ?_
      obtain ⟨v5, hv, h⟩ := zl_some h
      refine xgR (pc := 20) (j := 4) zc11 hx hb hts hown hK hP hv rfl zf_X11_26 dX11_rank_20 ?_
      obtain ⟨v6, hv, h⟩ := zl_some h
      refine xgR (pc := 23) (j := 7) zc10 hx hb hts hown hK hP hv rfl zf_X11_146 dX11_rank_23 ?_
      refine lv_iload_n (pc := 26) hx hb dX11_rank_26 rfl (lv_at hl 1 rfl) ?_
      obtain ⟨v7, hv, h⟩ := zl_some h
      refine xaF (pc := 27) hx hb hK hP hv dX11_rank_27 ?_
      refine lv_iload_n (pc := 28) hx hb dX11_rank_28 rfl (lv_at hl 2 rfl) ?_
      obtain ⟨_, hg, h⟩ := zl_some h
      obtain ⟨v8, σ9, hv, h⟩ := zb_some h
      refine xcallVi (pc := 29) (As := [.int x2]) (rest := []) ⟨hx, hb, hml, hown, hts⟩ (c_X2_tallyBelow l D c o g N hv) zc2 zV_X11_201 rfl zd_X2_tallyBelow ⟨Nat.le_of_ble_eq_true rfl, Nat.le_of_ble_eq_true rfl⟩ hK hP hE hS hg hl.1 rfl (Nat.le_of_ble_eq_true rfl) ⟨Nat.zero_le _, Nat.zero_le _⟩ dX11_rank_29 (fun H locs hP hS => ?_)
      exact xreti (pc := 32) hx hb hr hlocks hP hK hE hS h dX11_rank_32
    · rw [if_pos c1] at h
      refine lv_bipush (pc := 16) (v := (-2)) hx hb dX11_rank_16 (by decide) ?_
      exact xreti (pc := 18) hx hb hr hlocks hP hK hE hS h dX11_rank_18
def f_X11_light (N : Nat) (x0 : Nat) (x1 : Int32) (x2 : Int32) (σ : zS) : Option (Int32 × zS) :=
  zl (gC 11 x0) fun _ => zb (f_X11_isRegister N x0 x1 σ) fun v1 σ2 =>
  if v1 = 0 then
    (some ((-2), σ2))
  else
    (zl (gR 11 12 x0 σ2) fun v3 =>
    zl (gR 11 4 x0 σ2) fun v4 =>
    zl (gR 11 4 x0 σ2) fun v5 =>
    zl (gR 10 7 v5 σ2) fun v6 =>
    zl (aR 17 v6 x1 σ2) fun v7 =>
    zl (gC 8 v3) fun _ => zb (f_X8_pick N v3 v4 v7 x2 σ2) fun v8 σ9 =>
    some (v8, σ9))
set_option maxHeartbeats 4000000 in
set_option maxRecDepth 100000 in
theorem c_X11_light (l : Launch) (D : va_G) (c : zC) (o : Nat) (g : zEp) (N : Nat) {x0 : Nat} {x1 : Int32} {x2 : Int32} {σ : zS} {ρ : Int32 × zS} (h : f_X11_light N x0 x1 x2 σ = some ρ) : Met l yX11_light zs_X11_light (zr 12) (va_Pc [.ref (o + x0), .int x1, .int x2] (zG D c o g σ)) (zQi D c o g ρ) 0 0 (zA o) := by
  refine zMetG (by decide) (Nat.le_of_ble_eq_true rfl) ?_
  intro p e s m below meth cd ⟨hx, hb, hr, hml, hown, hts, hlocks⟩ hP hK hE ls hl
  have hS : va_S (zA o) s.heap s.heap [] := va_S.rf
  have hl : lv_has ls 3 [(0, .ref (o + x0)), (1, .int x1), (2, .int x2)] := hl
  rw [f_X11_light.eq_1] at h
  refine lv_aload_n (pc := 0) hx hb dX11_light_0 rfl (lv_at hl 0 rfl) ?_
  refine lv_iload_n (pc := 1) hx hb dX11_light_1 rfl (lv_at hl 1 rfl) ?_
  obtain ⟨_, hg, h⟩ := zl_some h
  obtain ⟨v1, σ2, hv, h⟩ := zb_some h
  refine xcallVi (pc := 2) (As := [.int x1]) (rest := []) ⟨hx, hb, hml, hown, hts⟩ (c_X11_isRegister l D c o g N hv) zc11 zV_X11_135 rfl zd_X11_isRegister ⟨Nat.le_of_ble_eq_true rfl, Nat.le_of_ble_eq_true rfl⟩ hK hP hE hS hg hl.1 rfl (Nat.le_of_ble_eq_true rfl) ⟨Nat.zero_le _, Nat.zero_le _⟩ dX11_light_2 (fun H locs hP hS => ?_)
  refine lv_if_eq (pc := 5) (tgt := 32) hx hb dX11_light_5 (by decide) (fun c1 => ?_) (fun c1 => ?_)
  · rw [if_pos c1] at h
    refine lv_bipush (pc := 32) (v := (-2)) hx hb dX11_light_32 (by decide) ?_
    exact xreti (pc := 34) hx hb hr hlocks hP hK hE hS h dX11_light_34
  · rw [if_neg c1] at h
    refine lv_aload_n (pc := 8) hx hb dX11_light_8 rfl (lv_at hl 0 rfl) ?_
    obtain ⟨v3, hv, h⟩ := zl_some h
    refine xgR (pc := 9) (j := 12) zc11 hx hb hts hown hK hP hv rfl zf_X11_71 dX11_light_9 ?_
    refine lv_aload_n (pc := 12) hx hb dX11_light_12 rfl (lv_at hl 0 rfl) ?_
    obtain ⟨v4, hv, h⟩ := zl_some h
    refine xgR (pc := 13) (j := 4) zc11 hx hb hts hown hK hP hv rfl zf_X11_26 dX11_light_13 ?_
    refine lv_aload_n (pc := 16) hx hb dX11_light_16 rfl (lv_at hl 0 rfl) ?_
    obtain ⟨v5, hv, h⟩ := zl_some h
    refine xgR (pc := 17) (j := 4) zc11 hx hb hts hown hK hP hv rfl zf_X11_26 dX11_light_17 ?_
    obtain ⟨v6, hv, h⟩ := zl_some h
    refine xgR (pc := 20) (j := 7) zc10 hx hb hts hown hK hP hv rfl zf_X11_146 dX11_light_20 ?_
    refine lv_iload_n (pc := 23) hx hb dX11_light_23 rfl (lv_at hl 1 rfl) ?_
    obtain ⟨v7, hv, h⟩ := zl_some h
    refine xaF (pc := 24) hx hb hK hP hv dX11_light_24 ?_
    refine lv_iload_n (pc := 25) hx hb dX11_light_25 rfl (lv_at hl 2 rfl) ?_
    obtain ⟨_, hg, h⟩ := zl_some h
    obtain ⟨v8, σ9, hv, h⟩ := zb_some h
    refine xcallVi (pc := 26) (As := [.ref (o + v4), .ref (o + v7), .int x2]) (rest := []) ⟨hx, hb, hml, hown, hts⟩ (c_X8_pick l D c o g N hv) zc8 zV_X11_204 rfl zd_X8_pick ⟨Nat.le_of_ble_eq_true rfl, Nat.le_of_ble_eq_true rfl⟩ hK hP hE hS hg hl.1 rfl (Nat.le_of_ble_eq_true rfl) ⟨Nat.zero_le _, Nat.zero_le _⟩ dX11_light_26 (fun H locs hP hS => ?_)
    refine lv_goto (pc := 29) (tgt := 34) hx hb dX11_light_29 (by decide) ?_
    exact xreti (pc := 34) hx hb hr hlocks hP hK hE hS h dX11_light_34
def f_X11_weight (N : Nat) (x0 : Nat) (x1 : Int32) (σ : zS) : Option (Int32 × zS) :=
  zl (gC 11 x0) fun _ => zb (f_X11_isSet N x0 x1 σ) fun v1 σ2 =>
  if v1 = 0 then
    (some ((-2), σ2))
  else
    (zl (gR 11 4 x0 σ2) fun v3 =>
    zl (gC 10 v3) fun _ => zb (f_X10_load N v3 x1 σ2) fun v4 σ5 =>
    some (v4, σ5))
set_option maxHeartbeats 4000000 in
set_option maxRecDepth 100000 in
theorem c_X11_weight (l : Launch) (D : va_G) (c : zC) (o : Nat) (g : zEp) (N : Nat) {x0 : Nat} {x1 : Int32} {σ : zS} {ρ : Int32 × zS} (h : f_X11_weight N x0 x1 σ = some ρ) : Met l yX11_weight zs_X11_weight (zr 6) (va_Pc [.ref (o + x0), .int x1] (zG D c o g σ)) (zQi D c o g ρ) 0 0 (zA o) := by
  refine zMetG (by decide) (Nat.le_of_ble_eq_true rfl) ?_
  intro p e s m below meth cd ⟨hx, hb, hr, hml, hown, hts, hlocks⟩ hP hK hE ls hl
  have hS : va_S (zA o) s.heap s.heap [] := va_S.rf
  have hl : lv_has ls 2 [(0, .ref (o + x0)), (1, .int x1)] := hl
  rw [f_X11_weight.eq_1] at h
  refine lv_aload_n (pc := 0) hx hb dX11_weight_0 rfl (lv_at hl 0 rfl) ?_
  refine lv_iload_n (pc := 1) hx hb dX11_weight_1 rfl (lv_at hl 1 rfl) ?_
  obtain ⟨_, hg, h⟩ := zl_some h
  obtain ⟨v1, σ2, hv, h⟩ := zb_some h
  refine xcallVi (pc := 2) (As := [.int x1]) (rest := []) ⟨hx, hb, hml, hown, hts⟩ (c_X11_isSet l D c o g N hv) zc11 zV_X11_154 rfl zd_X11_isSet ⟨Nat.le_of_ble_eq_true rfl, Nat.le_of_ble_eq_true rfl⟩ hK hP hE hS hg hl.1 rfl (Nat.le_of_ble_eq_true rfl) ⟨Nat.zero_le _, Nat.zero_le _⟩ dX11_weight_2 (fun H locs hP hS => ?_)
  refine lv_if_eq (pc := 5) (tgt := 19) hx hb dX11_weight_5 (by decide) (fun c1 => ?_) (fun c1 => ?_)
  · rw [if_pos c1] at h
    refine lv_bipush (pc := 19) (v := (-2)) hx hb dX11_weight_19 (by decide) ?_
    exact xreti (pc := 21) hx hb hr hlocks hP hK hE hS h dX11_weight_21
  · rw [if_neg c1] at h
    refine lv_aload_n (pc := 8) hx hb dX11_weight_8 rfl (lv_at hl 0 rfl) ?_
    obtain ⟨v3, hv, h⟩ := zl_some h
    refine xgR (pc := 9) (j := 4) zc11 hx hb hts hown hK hP hv rfl zf_X11_26 dX11_weight_9 ?_
    refine lv_iload_n (pc := 12) hx hb dX11_weight_12 rfl (lv_at hl 1 rfl) ?_
    obtain ⟨_, hg, h⟩ := zl_some h
    obtain ⟨v4, σ5, hv, h⟩ := zb_some h
    refine xcallVi (pc := 13) (As := [.int x1]) (rest := []) ⟨hx, hb, hml, hown, hts⟩ (c_X10_load l D c o g N hv) zc10 zV_X11_207 rfl zd_X10_load ⟨Nat.le_of_ble_eq_true rfl, Nat.le_of_ble_eq_true rfl⟩ hK hP hE hS hg hl.1 rfl (Nat.le_of_ble_eq_true rfl) ⟨Nat.zero_le _, Nat.zero_le _⟩ dX11_weight_13 (fun H locs hP hS => ?_)
    refine lv_goto (pc := 16) (tgt := 21) hx hb dX11_weight_16 (by decide) ?_
    exact xreti (pc := 21) hx hb hr hlocks hP hK hE hS h dX11_weight_21
def f_X11_weigh (N : Nat) (x0 : Nat) (x1 : Int32) (x2 : Int32) (σ : zS) : Option (Int32 × zS) :=
  zl (gC 11 x0) fun _ => zb (f_X11_isName N x0 x1 σ) fun v1 σ2 =>
  if v1 = 0 then
    (some ((-2), σ2))
  else
    (if x2 < 0 then
      (some ((-2), σ2))
    else
      (if x2 ≤ 99 then
        (zl (gR 11 4 x0 σ2) fun v3 =>
        zl (gR 10 5 v3 σ2) fun v4 =>
        zl (aI 14 v4 x1 σ2) fun v5 =>
        zl (gR 11 4 x0 σ2) fun v6 =>
        zl (gR 10 5 v6 σ2) fun v7 =>
        zl (sI 14 v7 x1 x2 σ2) fun σ8 =>
        some (v5, σ8))
      else
        (some ((-2), σ2))))
set_option maxHeartbeats 4000000 in
set_option maxRecDepth 100000 in
theorem c_X11_weigh (l : Launch) (D : va_G) (c : zC) (o : Nat) (g : zEp) (N : Nat) {x0 : Nat} {x1 : Int32} {x2 : Int32} {σ : zS} {ρ : Int32 × zS} (h : f_X11_weigh N x0 x1 x2 σ = some ρ) : Met l yX11_weigh zs_X11_weigh (zr 4) (va_Pc [.ref (o + x0), .int x1, .int x2] (zG D c o g σ)) (zQi D c o g ρ) 0 0 (zA o) := by
  refine zMetG (by decide) (Nat.le_of_ble_eq_true rfl) ?_
  intro p e s m below meth cd ⟨hx, hb, hr, hml, hown, hts, hlocks⟩ hP hK hE ls hl
  have hS : va_S (zA o) s.heap s.heap [] := va_S.rf
  have hl : lv_has ls 4 [(0, .ref (o + x0)), (1, .int x1), (2, .int x2)] := hl
  rw [f_X11_weigh.eq_1] at h
  refine lv_aload_n (pc := 0) hx hb dX11_weigh_0 rfl (lv_at hl 0 rfl) ?_
  refine lv_iload_n (pc := 1) hx hb dX11_weigh_1 rfl (lv_at hl 1 rfl) ?_
  obtain ⟨_, hg, h⟩ := zl_some h
  obtain ⟨v1, σ2, hv, h⟩ := zb_some h
  refine xcallVi (pc := 2) (As := [.int x1]) (rest := []) ⟨hx, hb, hml, hown, hts⟩ (c_X11_isName l D c o g N hv) zc11 zV_X11_183 rfl zd_X11_isName ⟨Nat.le_of_ble_eq_true rfl, Nat.le_of_ble_eq_true rfl⟩ hK hP hE hS hg hl.1 rfl (Nat.le_of_ble_eq_true rfl) ⟨Nat.zero_le _, Nat.zero_le _⟩ dX11_weigh_2 (fun H locs hP hS => ?_)
  refine lv_if_eq (pc := 5) (tgt := 18) hx hb dX11_weigh_5 (by decide) (fun c1 => ?_) (fun c1 => ?_)
  · rw [if_pos c1] at h
    refine lv_bipush (pc := 18) (v := (-2)) hx hb dX11_weigh_18 (by decide) ?_
    exact xreti (pc := 20) hx hb hr hlocks hP hK hE hS h dX11_weigh_20
  · rw [if_neg c1] at h
    refine lv_iload_n (pc := 8) hx hb dX11_weigh_8 rfl (lv_at hl 2 rfl) ?_
    refine lv_if_lt (pc := 9) (tgt := 18) hx hb dX11_weigh_9 (by decide) (fun c1 => ?_) (fun c1 => ?_)
    · rw [if_pos c1] at h
      refine lv_bipush (pc := 18) (v := (-2)) hx hb dX11_weigh_18 (by decide) ?_
      exact xreti (pc := 20) hx hb hr hlocks hP hK hE hS h dX11_weigh_20
    · rw [if_neg c1] at h
      refine lv_iload_n (pc := 12) hx hb dX11_weigh_12 rfl (lv_at hl 2 rfl) ?_
      refine lv_bipush (pc := 13) (v := 99) hx hb dX11_weigh_13 (by decide) ?_
      refine lv_icmp_le (pc := 15) (tgt := 21) hx hb dX11_weigh_15 (by decide) (fun c1 => ?_) (fun c1 => ?_)
      · rw [if_pos c1] at h
        refine lv_aload_n (pc := 21) hx hb dX11_weigh_21 rfl (lv_at hl 0 rfl) ?_
        obtain ⟨v3, hv, h⟩ := zl_some h
        refine xgR (pc := 22) (j := 4) zc11 hx hb hts hown hK hP hv rfl zf_X11_26 dX11_weigh_22 ?_
        obtain ⟨v4, hv, h⟩ := zl_some h
        refine xgR (pc := 25) (j := 5) zc10 hx hb hts hown hK hP hv rfl zf_X11_210 dX11_weigh_25 ?_
        refine lv_iload_n (pc := 28) hx hb dX11_weigh_28 rfl (lv_at hl 1 rfl) ?_
        obtain ⟨v5, hv, h⟩ := zl_some h
        refine xaI (pc := 29) hx hb hK hP hv dX11_weigh_29 ?_
        refine lv_istore_n (pc := 30) (lv' := [(3, .int v5), (0, .ref (o + x0)), (1, .int x1), (2, .int x2)]) hx hb dX11_weigh_30 rfl hl (by decide) rfl (fun ls hl => ?_)
        refine lv_aload_n (pc := 31) hx hb dX11_weigh_31 rfl (lv_at hl 1 rfl) ?_
        obtain ⟨v6, hv, h⟩ := zl_some h
        refine xgR (pc := 32) (j := 4) zc11 hx hb hts hown hK hP hv rfl zf_X11_26 dX11_weigh_32 ?_
        obtain ⟨v7, hv, h⟩ := zl_some h
        refine xgR (pc := 35) (j := 5) zc10 hx hb hts hown hK hP hv rfl zf_X11_210 dX11_weigh_35 ?_
        refine lv_iload_n (pc := 38) hx hb dX11_weigh_38 rfl (lv_at hl 2 rfl) ?_
        refine lv_iload_n (pc := 39) hx hb dX11_weigh_39 rfl (lv_at hl 3 rfl) ?_
        obtain ⟨σ8, hv, h⟩ := zl_some h
        refine xsI (pc := 40) hx hb hK hP hS hv dX11_weigh_40 (fun H locs hP hS => ?_)
        refine lv_iload_n (pc := 41) hx hb dX11_weigh_41 rfl (lv_at hl 0 rfl) ?_
        exact xreti (pc := 42) hx hb hr hlocks hP hK hE hS h dX11_weigh_42
      · rw [if_neg c1] at h
        refine lv_bipush (pc := 18) (v := (-2)) hx hb dX11_weigh_18 (by decide) ?_
        exact xreti (pc := 20) hx hb hr hlocks hP hK hE hS h dX11_weigh_20
def f_X11_weighs (N : Nat) (x0 : Nat) (x1 : Int32) (x2 : Int32) (σ : zS) : Option (Int32 × zS) :=
  zl (gC 11 x0) fun _ => zb (f_X11_isRegister N x0 x1 σ) fun v1 σ2 =>
  if v1 = 0 then
    (some ((-2), σ2))
  else
    (if x2 < 0 then
      (some ((-2), σ2))
    else
      (if x2 ≤ 2 then
        (zl (gR 11 12 x0 σ2) fun v3 =>
        zl (gR 11 4 x0 σ2) fun v4 =>
        zl (gR 11 4 x0 σ2) fun v5 =>
        zl (gR 10 7 v5 σ2) fun v6 =>
        zl (aR 17 v6 x1 σ2) fun v7 =>
        zl (gC 8 v3) fun _ => zb (f_X8_sum N v3 v4 v7 x2 σ2) fun v8 σ9 =>
        some (v8, σ9))
      else
        (some ((-2), σ2))))
set_option maxHeartbeats 4000000 in
set_option maxRecDepth 100000 in
theorem c_X11_weighs (l : Launch) (D : va_G) (c : zC) (o : Nat) (g : zEp) (N : Nat) {x0 : Nat} {x1 : Int32} {x2 : Int32} {σ : zS} {ρ : Int32 × zS} (h : f_X11_weighs N x0 x1 x2 σ = some ρ) : Met l yX11_weighs zs_X11_weighs (zr 10) (va_Pc [.ref (o + x0), .int x1, .int x2] (zG D c o g σ)) (zQi D c o g ρ) 0 0 (zA o) := by
  refine zMetG (by decide) (Nat.le_of_ble_eq_true rfl) ?_
  intro p e s m below meth cd ⟨hx, hb, hr, hml, hown, hts, hlocks⟩ hP hK hE ls hl
  have hS : va_S (zA o) s.heap s.heap [] := va_S.rf
  have hl : lv_has ls 3 [(0, .ref (o + x0)), (1, .int x1), (2, .int x2)] := hl
  rw [f_X11_weighs.eq_1] at h
  refine lv_aload_n (pc := 0) hx hb dX11_weighs_0 rfl (lv_at hl 0 rfl) ?_
  refine lv_iload_n (pc := 1) hx hb dX11_weighs_1 rfl (lv_at hl 1 rfl) ?_
  obtain ⟨_, hg, h⟩ := zl_some h
  obtain ⟨v1, σ2, hv, h⟩ := zb_some h
  refine xcallVi (pc := 2) (As := [.int x1]) (rest := []) ⟨hx, hb, hml, hown, hts⟩ (c_X11_isRegister l D c o g N hv) zc11 zV_X11_135 rfl zd_X11_isRegister ⟨Nat.le_of_ble_eq_true rfl, Nat.le_of_ble_eq_true rfl⟩ hK hP hE hS hg hl.1 rfl (Nat.le_of_ble_eq_true rfl) ⟨Nat.zero_le _, Nat.zero_le _⟩ dX11_weighs_2 (fun H locs hP hS => ?_)
  refine lv_if_eq (pc := 5) (tgt := 17) hx hb dX11_weighs_5 (by decide) (fun c1 => ?_) (fun c1 => ?_)
  · rw [if_pos c1] at h
    refine lv_bipush (pc := 17) (v := (-2)) hx hb dX11_weighs_17 (by decide) ?_
    exact xreti (pc := 19) hx hb hr hlocks hP hK hE hS h dX11_weighs_19
  · rw [if_neg c1] at h
    refine lv_iload_n (pc := 8) hx hb dX11_weighs_8 rfl (lv_at hl 2 rfl) ?_
    refine lv_if_lt (pc := 9) (tgt := 17) hx hb dX11_weighs_9 (by decide) (fun c1 => ?_) (fun c1 => ?_)
    · rw [if_pos c1] at h
      refine lv_bipush (pc := 17) (v := (-2)) hx hb dX11_weighs_17 (by decide) ?_
      exact xreti (pc := 19) hx hb hr hlocks hP hK hE hS h dX11_weighs_19
    · rw [if_neg c1] at h
      refine lv_iload_n (pc := 12) hx hb dX11_weighs_12 rfl (lv_at hl 2 rfl) ?_
      refine lv_iconst (pc := 13) (v := 2) hx hb dX11_weighs_13 (by decide) ?_
      refine lv_icmp_le (pc := 14) (tgt := 20) hx hb dX11_weighs_14 (by decide) (fun c1 => ?_) (fun c1 => ?_)
      · rw [if_pos c1] at h
        refine lv_aload_n (pc := 20) hx hb dX11_weighs_20 rfl (lv_at hl 0 rfl) ?_
        obtain ⟨v3, hv, h⟩ := zl_some h
        refine xgR (pc := 21) (j := 12) zc11 hx hb hts hown hK hP hv rfl zf_X11_71 dX11_weighs_21 ?_
        refine lv_aload_n (pc := 24) hx hb dX11_weighs_24 rfl (lv_at hl 0 rfl) ?_
        obtain ⟨v4, hv, h⟩ := zl_some h
        refine xgR (pc := 25) (j := 4) zc11 hx hb hts hown hK hP hv rfl zf_X11_26 dX11_weighs_25 ?_
        refine lv_aload_n (pc := 28) hx hb dX11_weighs_28 rfl (lv_at hl 0 rfl) ?_
        obtain ⟨v5, hv, h⟩ := zl_some h
        refine xgR (pc := 29) (j := 4) zc11 hx hb hts hown hK hP hv rfl zf_X11_26 dX11_weighs_29 ?_
        obtain ⟨v6, hv, h⟩ := zl_some h
        refine xgR (pc := 32) (j := 7) zc10 hx hb hts hown hK hP hv rfl zf_X11_146 dX11_weighs_32 ?_
        refine lv_iload_n (pc := 35) hx hb dX11_weighs_35 rfl (lv_at hl 1 rfl) ?_
        obtain ⟨v7, hv, h⟩ := zl_some h
        refine xaF (pc := 36) hx hb hK hP hv dX11_weighs_36 ?_
        refine lv_iload_n (pc := 37) hx hb dX11_weighs_37 rfl (lv_at hl 2 rfl) ?_
        obtain ⟨_, hg, h⟩ := zl_some h
        obtain ⟨v8, σ9, hv, h⟩ := zb_some h
        refine xcallVi (pc := 38) (As := [.ref (o + v4), .ref (o + v7), .int x2]) (rest := []) ⟨hx, hb, hml, hown, hts⟩ (c_X8_sum l D c o g N hv) zc8 zV_X11_214 rfl zd_X8_sum ⟨Nat.le_of_ble_eq_true rfl, Nat.le_of_ble_eq_true rfl⟩ hK hP hE hS hg hl.1 rfl (Nat.le_of_ble_eq_true rfl) ⟨Nat.zero_le _, Nat.zero_le _⟩ dX11_weighs_38 (fun H locs hP hS => ?_)
        exact xreti (pc := 41) hx hb hr hlocks hP hK hE hS h dX11_weighs_41
      · rw [if_neg c1] at h
        refine lv_bipush (pc := 17) (v := (-2)) hx hb dX11_weighs_17 (by decide) ?_
        exact xreti (pc := 19) hx hb hr hlocks hP hK hE hS h dX11_weighs_19
def f_X11_each (N : Nat) (x0 : Nat) (x1 : Int32) (x2 : Int32) (σ : zS) : Option (Int32 × zS) :=
  zl (gC 11 x0) fun _ => zb (f_X11_isRegister N x0 x1 σ) fun v1 σ2 =>
  if v1 = 0 then
    (some ((-2), σ2))
  else
    (zl (gC 11 x0) fun _ => zb (f_X11_isName N x0 x2 σ2) fun v3 σ4 =>
    if v3 = 0 then
      (some ((-2), σ4))
    else
      (zl (gR 11 17 x0 σ4) fun v5 =>
      zl (gR 11 4 x0 σ4) fun v6 =>
      zl (gR 10 7 v6 σ4) fun v7 =>
      zl (aR 17 v7 x1 σ4) fun v8 =>
      zl (gC 2 v5) fun _ => zb (f_X2_copyFrom N v5 v8 σ4) fun v9 σ10 =>
      zl (gR 11 17 x0 σ10) fun v11 =>
      zl (gC 2 v11) fun _ => zb (f_X2_keepWithout N v11 x2 σ10) fun v12 σ13 =>
      zl (gR 11 4 x0 σ13) fun v14 =>
      zl (gR 10 7 v14 σ13) fun v15 =>
      zl (aR 17 v15 x1 σ13) fun v16 =>
      zl (gC 2 v16) fun _ => zb (f_X2_tally N v16 σ13) fun v17 σ18 =>
      zl (gR 11 17 x0 σ18) fun v19 =>
      zl (gC 2 v19) fun _ => zb (f_X2_tally N v19 σ18) fun v20 σ21 =>
      some (v17 - v20, σ21)))
set_option maxHeartbeats 4000000 in
set_option maxRecDepth 100000 in
theorem c_X11_each (l : Launch) (D : va_G) (c : zC) (o : Nat) (g : zEp) (N : Nat) {x0 : Nat} {x1 : Int32} {x2 : Int32} {σ : zS} {ρ : Int32 × zS} (h : f_X11_each N x0 x1 x2 σ = some ρ) : Met l yX11_each zs_X11_each (zr 6) (va_Pc [.ref (o + x0), .int x1, .int x2] (zG D c o g σ)) (zQi D c o g ρ) 0 0 (zA o) := by
  refine zMetG (by decide) (Nat.le_of_ble_eq_true rfl) ?_
  intro p e s m below meth cd ⟨hx, hb, hr, hml, hown, hts, hlocks⟩ hP hK hE ls hl
  have hS : va_S (zA o) s.heap s.heap [] := va_S.rf
  have hl : lv_has ls 3 [(0, .ref (o + x0)), (1, .int x1), (2, .int x2)] := hl
  rw [f_X11_each.eq_1] at h
  refine lv_aload_n (pc := 0) hx hb dX11_each_0 rfl (lv_at hl 0 rfl) ?_
  refine lv_iload_n (pc := 1) hx hb dX11_each_1 rfl (lv_at hl 1 rfl) ?_
  obtain ⟨_, hg, h⟩ := zl_some h
  obtain ⟨v1, σ2, hv, h⟩ := zb_some h
  refine xcallVi (pc := 2) (As := [.int x1]) (rest := []) ⟨hx, hb, hml, hown, hts⟩ (c_X11_isRegister l D c o g N hv) zc11 zV_X11_135 rfl zd_X11_isRegister ⟨Nat.le_of_ble_eq_true rfl, Nat.le_of_ble_eq_true rfl⟩ hK hP hE hS hg hl.1 rfl (Nat.le_of_ble_eq_true rfl) ⟨Nat.zero_le _, Nat.zero_le _⟩ dX11_each_2 (fun H locs hP hS => ?_)
  refine lv_if_eq (pc := 5) (tgt := 16) hx hb dX11_each_5 (by decide) (fun c1 => ?_) (fun c1 => ?_)
  · rw [if_pos c1] at h
    refine lv_bipush (pc := 16) (v := (-2)) hx hb dX11_each_16 (by decide) ?_
    exact xreti (pc := 18) hx hb hr hlocks hP hK hE hS h dX11_each_18
  · rw [if_neg c1] at h
    refine lv_aload_n (pc := 8) hx hb dX11_each_8 rfl (lv_at hl 0 rfl) ?_
    refine lv_iload_n (pc := 9) hx hb dX11_each_9 rfl (lv_at hl 2 rfl) ?_
    obtain ⟨_, hg, h⟩ := zl_some h
    obtain ⟨v3, σ4, hv, h⟩ := zb_some h
    refine xcallVi (pc := 10) (As := [.int x2]) (rest := []) ⟨hx, hb, hml, hown, hts⟩ (c_X11_isName l D c o g N hv) zc11 zV_X11_183 rfl zd_X11_isName ⟨Nat.le_of_ble_eq_true rfl, Nat.le_of_ble_eq_true rfl⟩ hK hP hE hS hg hl.1 rfl (Nat.le_of_ble_eq_true rfl) ⟨Nat.zero_le _, Nat.zero_le _⟩ dX11_each_10 (fun H locs hP hS => ?_)
    refine lv_if_ne (pc := 13) (tgt := 19) hx hb dX11_each_13 (by decide) (fun c1 => ?_) (fun c1 => ?_)
    · rw [if_neg c1] at h
      refine lv_aload_n (pc := 19) hx hb dX11_each_19 rfl (lv_at hl 0 rfl) ?_
      obtain ⟨v5, hv, h⟩ := zl_some h
      refine xgR (pc := 20) (j := 17) zc11 hx hb hts hown hK hP hv rfl zf_X11_106 dX11_each_20 ?_
      refine lv_aload_n (pc := 23) hx hb dX11_each_23 rfl (lv_at hl 0 rfl) ?_
      obtain ⟨v6, hv, h⟩ := zl_some h
      refine xgR (pc := 24) (j := 4) zc11 hx hb hts hown hK hP hv rfl zf_X11_26 dX11_each_24 ?_
      obtain ⟨v7, hv, h⟩ := zl_some h
      refine xgR (pc := 27) (j := 7) zc10 hx hb hts hown hK hP hv rfl zf_X11_146 dX11_each_27 ?_
      refine lv_iload_n (pc := 30) hx hb dX11_each_30 rfl (lv_at hl 1 rfl) ?_
      obtain ⟨v8, hv, h⟩ := zl_some h
      refine xaF (pc := 31) hx hb hK hP hv dX11_each_31 ?_
      obtain ⟨_, hg, h⟩ := zl_some h
      obtain ⟨v9, σ10, hv, h⟩ := zb_some h
      refine xcallVv (pc := 32) (As := [.ref (o + v8)]) (rest := []) ⟨hx, hb, hml, hown, hts⟩ (c_X2_copyFrom l D c o g N hv) zc2 zV_X11_160 rfl zd_X2_copyFrom ⟨Nat.le_of_ble_eq_true rfl, Nat.le_of_ble_eq_true rfl⟩ hK hP hE hS hg hl.1 rfl (Nat.le_of_ble_eq_true rfl) ⟨Nat.zero_le _, Nat.zero_le _⟩ dX11_each_32 (fun H locs hP hS => ?_)
      refine lv_aload_n (pc := 35) hx hb dX11_each_35 rfl (lv_at hl 0 rfl) ?_
      obtain ⟨v11, hv, h⟩ := zl_some h
      refine xgR (pc := 36) (j := 17) zc11 hx hb hts hown hK hP hv rfl zf_X11_106 dX11_each_36 ?_
      refine lv_iload_n (pc := 39) hx hb dX11_each_39 rfl (lv_at hl 2 rfl) ?_
      obtain ⟨_, hg, h⟩ := zl_some h
      obtain ⟨v12, σ13, hv, h⟩ := zb_some h
      refine xcallVv (pc := 40) (As := [.int x2]) (rest := []) ⟨hx, hb, hml, hown, hts⟩ (c_X2_keepWithout l D c o g N hv) zc2 zV_X11_189 rfl zd_X2_keepWithout ⟨Nat.le_of_ble_eq_true rfl, Nat.le_of_ble_eq_true rfl⟩ hK hP hE hS hg hl.1 rfl (Nat.le_of_ble_eq_true rfl) ⟨Nat.zero_le _, Nat.zero_le _⟩ dX11_each_40 (fun H locs hP hS => ?_)
      refine lv_aload_n (pc := 43) hx hb dX11_each_43 rfl (lv_at hl 0 rfl) ?_
      obtain ⟨v14, hv, h⟩ := zl_some h
      refine xgR (pc := 44) (j := 4) zc11 hx hb hts hown hK hP hv rfl zf_X11_26 dX11_each_44 ?_
      obtain ⟨v15, hv, h⟩ := zl_some h
      refine xgR (pc := 47) (j := 7) zc10 hx hb hts hown hK hP hv rfl zf_X11_146 dX11_each_47 ?_
      refine lv_iload_n (pc := 50) hx hb dX11_each_50 rfl (lv_at hl 1 rfl) ?_
      obtain ⟨v16, hv, h⟩ := zl_some h
      refine xaF (pc := 51) hx hb hK hP hv dX11_each_51 ?_
      obtain ⟨_, hg, h⟩ := zl_some h
      obtain ⟨v17, σ18, hv, h⟩ := zb_some h
      refine xcallVi (pc := 52) (As := []) (rest := []) ⟨hx, hb, hml, hown, hts⟩ (c_X2_tally l D c o g N hv) zc2 zV_X11_150 rfl zd_X2_tally ⟨Nat.le_of_ble_eq_true rfl, Nat.le_of_ble_eq_true rfl⟩ hK hP hE hS hg hl.1 rfl (Nat.le_of_ble_eq_true rfl) ⟨Nat.zero_le _, Nat.zero_le _⟩ dX11_each_52 (fun H locs hP hS => ?_)
      refine lv_aload_n (pc := 55) hx hb dX11_each_55 rfl (lv_at hl 0 rfl) ?_
      obtain ⟨v19, hv, h⟩ := zl_some h
      refine xgR (pc := 56) (j := 17) zc11 hx hb hts hown hK hP hv rfl zf_X11_106 dX11_each_56 ?_
      obtain ⟨_, hg, h⟩ := zl_some h
      obtain ⟨v20, σ21, hv, h⟩ := zb_some h
      refine xcallVi (pc := 59) (As := []) (rest := [.int v17]) ⟨hx, hb, hml, hown, hts⟩ (c_X2_tally l D c o g N hv) zc2 zV_X11_150 rfl zd_X2_tally ⟨Nat.le_of_ble_eq_true rfl, Nat.le_of_ble_eq_true rfl⟩ hK hP hE hS hg hl.1 rfl (Nat.le_of_ble_eq_true rfl) ⟨Nat.zero_le _, Nat.zero_le _⟩ dX11_each_59 (fun H locs hP hS => ?_)
      refine lv_isub (pc := 62) hx hb dX11_each_62 ?_
      exact xreti (pc := 63) hx hb hr hlocks hP hK hE hS h dX11_each_63
    · rw [if_pos c1] at h
      refine lv_bipush (pc := 16) (v := (-2)) hx hb dX11_each_16 (by decide) ?_
      exact xreti (pc := 18) hx hb hr hlocks hP hK hE hS h dX11_each_18
def f_X11_isFoundName (N : Nat) (x0 : Nat) (x1 : Nat) (x2 : Int32) (x3 : Int32) (σ : zS) : Option (Int32 × zS) :=
  zl (gR 11 17 x0 σ) fun v1 =>
  zl (gC 2 v1) fun _ => zb (f_X2_copyFrom N v1 x1 σ) fun v2 σ3 =>
  if x3 = 2 then
    (zl (gR 11 17 x0 σ3) fun v4 =>
    zl (gC 2 v4) fun _ => zb (f_X2_flip N v4 x2 σ3) fun v5 σ6 =>
    zl (gR 11 17 x0 σ6) fun v7 =>
    zl (gC 2 v7) fun _ => zb (f_X2_sameAs N v7 x1 σ6) fun v8 σ9 =>
    rZ v8 σ9)
  else
    (zl (gR 11 17 x0 σ3) fun v10 =>
    zl (gC 2 v10) fun _ => zb (f_X2_keepWithout N v10 x2 σ3) fun v11 σ12 =>
    if x3 = 0 then
      (zl (gR 11 17 x0 σ12) fun v13 =>
      zl (gC 2 v13) fun _ => zb (f_X2_isEmpty N v13 σ12) fun v14 σ15 =>
      rZ v14 σ15)
    else
      (zl (gR 11 17 x0 σ12) fun v16 =>
      zl (gC 2 v16) fun _ => zb (f_X2_sameAs N v16 x1 σ12) fun v17 σ18 =>
      if v17 = 0 then
        (rZ 1 σ18)
      else
        (rZ 0 σ18)))
set_option maxHeartbeats 4000000 in
set_option maxRecDepth 100000 in
theorem c_X11_isFoundName (l : Launch) (D : va_G) (c : zC) (o : Nat) (g : zEp) (N : Nat) {x0 : Nat} {x1 : Nat} {x2 : Int32} {x3 : Int32} {σ : zS} {ρ : Int32 × zS} (h : f_X11_isFoundName N x0 x1 x2 x3 σ = some ρ) : Met l yX11_isFoundName zs_X11_isFoundName (zr 4) (va_Pc [.ref (o + x0), .ref (o + x1), .int x2, .int x3] (zG D c o g σ)) (zQi D c o g ρ) 0 0 (zA o) := by
  refine zMetG (by decide) (Nat.le_of_ble_eq_true rfl) ?_
  intro p e s m below meth cd ⟨hx, hb, hr, hml, hown, hts, hlocks⟩ hP hK hE ls hl
  have hS : va_S (zA o) s.heap s.heap [] := va_S.rf
  have hl : lv_has ls 4 [(0, .ref (o + x0)), (1, .ref (o + x1)), (2, .int x2), (3, .int x3)] := hl
  rw [f_X11_isFoundName.eq_1] at h
  refine lv_aload_n (pc := 0) hx hb dX11_isFoundName_0 rfl (lv_at hl 0 rfl) ?_
  obtain ⟨v1, hv, h⟩ := zl_some h
  refine xgR (pc := 1) (j := 17) zc11 hx hb hts hown hK hP hv rfl zf_X11_106 dX11_isFoundName_1 ?_
  refine lv_aload_n (pc := 4) hx hb dX11_isFoundName_4 rfl (lv_at hl 1 rfl) ?_
  obtain ⟨_, hg, h⟩ := zl_some h
  obtain ⟨v2, σ3, hv, h⟩ := zb_some h
  refine xcallVv (pc := 5) (As := [.ref (o + x1)]) (rest := []) ⟨hx, hb, hml, hown, hts⟩ (c_X2_copyFrom l D c o g N hv) zc2 zV_X11_160 rfl zd_X2_copyFrom ⟨Nat.le_of_ble_eq_true rfl, Nat.le_of_ble_eq_true rfl⟩ hK hP hE hS hg hl.1 rfl (Nat.le_of_ble_eq_true rfl) ⟨Nat.zero_le _, Nat.zero_le _⟩ dX11_isFoundName_5 (fun H locs hP hS => ?_)
  refine lv_iload_n (pc := 8) hx hb dX11_isFoundName_8 rfl (lv_at hl 3 rfl) ?_
  refine lv_iconst (pc := 9) (v := 2) hx hb dX11_isFoundName_9 (by decide) ?_
  refine lv_icmp_ne (pc := 10) (tgt := 30) hx hb dX11_isFoundName_10 (by decide) (fun c1 => ?_) (fun c1 => ?_)
  · rw [if_neg c1] at h
    refine lv_aload_n (pc := 30) hx hb dX11_isFoundName_30 rfl (lv_at hl 0 rfl) ?_
    obtain ⟨v4, hv, h⟩ := zl_some h
    refine xgR (pc := 31) (j := 17) zc11 hx hb hts hown hK hP hv rfl zf_X11_106 dX11_isFoundName_31 ?_
    refine lv_iload_n (pc := 34) hx hb dX11_isFoundName_34 rfl (lv_at hl 2 rfl) ?_
    obtain ⟨_, hg, h⟩ := zl_some h
    obtain ⟨v5, σ6, hv, h⟩ := zb_some h
    refine xcallVv (pc := 35) (As := [.int x2]) (rest := []) ⟨hx, hb, hml, hown, hts⟩ (c_X2_keepWithout l D c o g N hv) zc2 zV_X11_189 rfl zd_X2_keepWithout ⟨Nat.le_of_ble_eq_true rfl, Nat.le_of_ble_eq_true rfl⟩ hK hP hE hS hg hl.1 rfl (Nat.le_of_ble_eq_true rfl) ⟨Nat.zero_le _, Nat.zero_le _⟩ dX11_isFoundName_35 (fun H locs hP hS => ?_)
    refine lv_iload_n (pc := 38) hx hb dX11_isFoundName_38 rfl (lv_at hl 3 rfl) ?_
    refine lv_if_ne (pc := 39) (tgt := 52) hx hb dX11_isFoundName_39 (by decide) (fun c1 => ?_) (fun c1 => ?_)
    · rw [if_neg c1] at h
      refine lv_aload_n (pc := 52) hx hb dX11_isFoundName_52 rfl (lv_at hl 0 rfl) ?_
      obtain ⟨v7, hv, h⟩ := zl_some h
      refine xgR (pc := 53) (j := 17) zc11 hx hb hts hown hK hP hv rfl zf_X11_106 dX11_isFoundName_53 ?_
      refine lv_aload_n (pc := 56) hx hb dX11_isFoundName_56 rfl (lv_at hl 1 rfl) ?_
      obtain ⟨_, hg, h⟩ := zl_some h
      obtain ⟨v8, σ9, hv, h⟩ := zb_some h
      refine xcallVi (pc := 57) (As := [.ref (o + x1)]) (rest := []) ⟨hx, hb, hml, hown, hts⟩ (c_X2_sameAs l D c o g N hv) zc2 zV_X11_230 rfl zd_X2_sameAs ⟨Nat.le_of_ble_eq_true rfl, Nat.le_of_ble_eq_true rfl⟩ hK hP hE hS hg hl.1 rfl (Nat.le_of_ble_eq_true rfl) ⟨Nat.zero_le _, Nat.zero_le _⟩ dX11_isFoundName_57 (fun H locs hP hS => ?_)
      refine lv_if_ne (pc := 60) (tgt := 67) hx hb dX11_isFoundName_60 (by decide) (fun c1 => ?_) (fun c1 => ?_)
      · rw [if_neg c1] at h
        refine lv_iconst (pc := 67) (v := 0) hx hb dX11_isFoundName_67 (by decide) ?_
        exact xretz (pc := 68) hx hb hr hlocks hP hK hE hS h dX11_isFoundName_68
      · rw [if_pos c1] at h
        refine lv_iconst (pc := 63) (v := 1) hx hb dX11_isFoundName_63 (by decide) ?_
        refine lv_goto (pc := 64) (tgt := 68) hx hb dX11_isFoundName_64 (by decide) ?_
        exact xretz (pc := 68) hx hb hr hlocks hP hK hE hS h dX11_isFoundName_68
    · rw [if_pos c1] at h
      refine lv_aload_n (pc := 42) hx hb dX11_isFoundName_42 rfl (lv_at hl 0 rfl) ?_
      obtain ⟨v10, hv, h⟩ := zl_some h
      refine xgR (pc := 43) (j := 17) zc11 hx hb hts hown hK hP hv rfl zf_X11_106 dX11_isFoundName_43 ?_
      obtain ⟨_, hg, h⟩ := zl_some h
      obtain ⟨v11, σ12, hv, h⟩ := zb_some h
      refine xcallVi (pc := 46) (As := []) (rest := []) ⟨hx, hb, hml, hown, hts⟩ (c_X2_isEmpty l D c o g N hv) zc2 zV_X11_240 rfl zd_X2_isEmpty ⟨Nat.le_of_ble_eq_true rfl, Nat.le_of_ble_eq_true rfl⟩ hK hP hE hS hg hl.1 rfl (Nat.le_of_ble_eq_true rfl) ⟨Nat.zero_le _, Nat.zero_le _⟩ dX11_isFoundName_46 (fun H locs hP hS => ?_)
      refine lv_goto (pc := 49) (tgt := 68) hx hb dX11_isFoundName_49 (by decide) ?_
      exact xretz (pc := 68) hx hb hr hlocks hP hK hE hS h dX11_isFoundName_68
  · rw [if_pos c1] at h
    refine lv_aload_n (pc := 13) hx hb dX11_isFoundName_13 rfl (lv_at hl 0 rfl) ?_
    obtain ⟨v13, hv, h⟩ := zl_some h
    refine xgR (pc := 14) (j := 17) zc11 hx hb hts hown hK hP hv rfl zf_X11_106 dX11_isFoundName_14 ?_
    refine lv_iload_n (pc := 17) hx hb dX11_isFoundName_17 rfl (lv_at hl 2 rfl) ?_
    obtain ⟨_, hg, h⟩ := zl_some h
    obtain ⟨v14, σ15, hv, h⟩ := zb_some h
    refine xcallVv (pc := 18) (As := [.int x2]) (rest := []) ⟨hx, hb, hml, hown, hts⟩ (c_X2_flip l D c o g N hv) zc2 zV_X11_186 rfl zd_X2_flip ⟨Nat.le_of_ble_eq_true rfl, Nat.le_of_ble_eq_true rfl⟩ hK hP hE hS hg hl.1 rfl (Nat.le_of_ble_eq_true rfl) ⟨Nat.zero_le _, Nat.zero_le _⟩ dX11_isFoundName_18 (fun H locs hP hS => ?_)
    refine lv_aload_n (pc := 21) hx hb dX11_isFoundName_21 rfl (lv_at hl 0 rfl) ?_
    obtain ⟨v16, hv, h⟩ := zl_some h
    refine xgR (pc := 22) (j := 17) zc11 hx hb hts hown hK hP hv rfl zf_X11_106 dX11_isFoundName_22 ?_
    refine lv_aload_n (pc := 25) hx hb dX11_isFoundName_25 rfl (lv_at hl 1 rfl) ?_
    obtain ⟨_, hg, h⟩ := zl_some h
    obtain ⟨v17, σ18, hv, h⟩ := zb_some h
    refine xcallVi (pc := 26) (As := [.ref (o + x1)]) (rest := []) ⟨hx, hb, hml, hown, hts⟩ (c_X2_sameAs l D c o g N hv) zc2 zV_X11_230 rfl zd_X2_sameAs ⟨Nat.le_of_ble_eq_true rfl, Nat.le_of_ble_eq_true rfl⟩ hK hP hE hS hg hl.1 rfl (Nat.le_of_ble_eq_true rfl) ⟨Nat.zero_le _, Nat.zero_le _⟩ dX11_isFoundName_26 (fun H locs hP hS => ?_)
    exact xretz (pc := 29) hx hb hr hlocks hP hK hE hS h dX11_isFoundName_29
def F_X11_names_36 (N : Nat) (x0 : Nat) (x2 : Int32) (x3 : Nat) (again36 : (Int32 × Int32 × zS) → Option (Int32 × zS)) : Int32 × Int32 × zS → Option (Int32 × zS)
  | (x4, x5, σ) =>
  zl (gR 11 4 x0 σ) fun v6 =>
  zl (gI 10 0 v6 σ) fun v7 =>
  if v7 ≤ x5 then
    (some (x4, σ))
  else
    (zl (gC 11 x0) fun _ => zb (f_X11_isFoundName N x0 x3 x5 x2 σ) fun v8 σ9 =>
    if v8 = 0 then
      (again36 (x4, x5 + 1, σ9))
    else
      (again36 (x4 ||| ((1 : Int32) <<< (x5 &&& 31)), x5 + 1, σ9)))
def f_X11_names (N : Nat) (x0 : Nat) (x1 : Int32) (x2 : Int32) (σ : zS) : Option (Int32 × zS) :=
  zl (gC 11 x0) fun _ => zb (f_X11_isRegister N x0 x1 σ) fun v1 σ2 =>
  if v1 = 0 then
    (some ((-2), σ2))
  else
    (if x2 < 0 then
      (some ((-2), σ2))
    else
      (if x2 ≤ 2 then
        (zl (gR 11 4 x0 σ2) fun v3 =>
        zl (gR 10 7 v3 σ2) fun v4 =>
        zl (aR 17 v4 x1 σ2) fun v5 =>
        zlp (F_X11_names_36 N x0 x2 v5) N (0, 0, σ2))
      else
        (some ((-2), σ2))))
set_option maxHeartbeats 4000000 in
set_option maxRecDepth 100000 in
theorem c_X11_names (l : Launch) (D : va_G) (c : zC) (o : Nat) (g : zEp) (N : Nat) {x0 : Nat} {x1 : Int32} {x2 : Int32} {σ : zS} {ρ : Int32 × zS} (h : f_X11_names N x0 x1 x2 σ = some ρ) : Met l yX11_names zs_X11_names (zr 6) (va_Pc [.ref (o + x0), .int x1, .int x2] (zG D c o g σ)) (zQi D c o g ρ) 0 0 (zA o) := by
  refine zMetG (by decide) (Nat.le_of_ble_eq_true rfl) ?_
  intro p e s m below meth cd ⟨hx, hb, hr, hml, hown, hts, hlocks⟩ hP hK hE ls hl
  have hS : va_S (zA o) s.heap s.heap [] := va_S.rf
  have hl : lv_has ls 6 [(0, .ref (o + x0)), (1, .int x1), (2, .int x2)] := hl
  rw [f_X11_names.eq_1] at h
  refine lv_aload_n (pc := 0) hx hb dX11_names_0 rfl (lv_at hl 0 rfl) ?_
  refine lv_iload_n (pc := 1) hx hb dX11_names_1 rfl (lv_at hl 1 rfl) ?_
  obtain ⟨_, hg, h⟩ := zl_some h
  obtain ⟨v1, σ2, hv, h⟩ := zb_some h
  refine xcallVi (pc := 2) (As := [.int x1]) (rest := []) ⟨hx, hb, hml, hown, hts⟩ (c_X11_isRegister l D c o g N hv) zc11 zV_X11_135 rfl zd_X11_isRegister ⟨Nat.le_of_ble_eq_true rfl, Nat.le_of_ble_eq_true rfl⟩ hK hP hE hS hg hl.1 rfl (Nat.le_of_ble_eq_true rfl) ⟨Nat.zero_le _, Nat.zero_le _⟩ dX11_names_2 (fun H locs hP hS => ?_)
  refine lv_if_eq (pc := 5) (tgt := 17) hx hb dX11_names_5 (by decide) (fun c1 => ?_) (fun c1 => ?_)
  · rw [if_pos c1] at h
    refine lv_bipush (pc := 17) (v := (-2)) hx hb dX11_names_17 (by decide) ?_
    exact xreti (pc := 19) hx hb hr hlocks hP hK hE hS h dX11_names_19
  · rw [if_neg c1] at h
    refine lv_iload_n (pc := 8) hx hb dX11_names_8 rfl (lv_at hl 2 rfl) ?_
    refine lv_if_lt (pc := 9) (tgt := 17) hx hb dX11_names_9 (by decide) (fun c1 => ?_) (fun c1 => ?_)
    · rw [if_pos c1] at h
      refine lv_bipush (pc := 17) (v := (-2)) hx hb dX11_names_17 (by decide) ?_
      exact xreti (pc := 19) hx hb hr hlocks hP hK hE hS h dX11_names_19
    · rw [if_neg c1] at h
      refine lv_iload_n (pc := 12) hx hb dX11_names_12 rfl (lv_at hl 2 rfl) ?_
      refine lv_iconst (pc := 13) (v := 2) hx hb dX11_names_13 (by decide) ?_
      refine lv_icmp_le (pc := 14) (tgt := 20) hx hb dX11_names_14 (by decide) (fun c1 => ?_) (fun c1 => ?_)
      · rw [if_pos c1] at h
        refine lv_aload_n (pc := 20) hx hb dX11_names_20 rfl (lv_at hl 0 rfl) ?_
        obtain ⟨v3, hv, h⟩ := zl_some h
        refine xgR (pc := 21) (j := 4) zc11 hx hb hts hown hK hP hv rfl zf_X11_26 dX11_names_21 ?_
        obtain ⟨v4, hv, h⟩ := zl_some h
        refine xgR (pc := 24) (j := 7) zc10 hx hb hts hown hK hP hv rfl zf_X11_146 dX11_names_24 ?_
        refine lv_iload_n (pc := 27) hx hb dX11_names_27 rfl (lv_at hl 1 rfl) ?_
        obtain ⟨v5, hv, h⟩ := zl_some h
        refine xaF (pc := 28) hx hb hK hP hv dX11_names_28 ?_
        refine lv_astore_n (pc := 29) (lv' := [(3, .ref (o + v5)), (0, .ref (o + x0)), (1, .int x1), (2, .int x2)]) hx hb dX11_names_29 rfl hl (by decide) rfl (fun ls hl => ?_)
        refine lv_iconst (pc := 30) (v := 0) hx hb dX11_names_30 (by decide) ?_
        refine lv_istore (pc := 31) (lv' := [(4, .int 0), (3, .ref (o + v5)), (0, .ref (o + x0)), (1, .int x1), (2, .int x2)]) hx hb dX11_names_31 hl (by decide) rfl (fun ls hl => ?_)
        refine lv_iconst (pc := 33) (v := 0) hx hb dX11_names_33 (by decide) ?_
        refine lv_istore (pc := 34) (lv' := [(5, .int 0), (4, .int 0), (3, .ref (o + v5)), (0, .ref (o + x0)), (1, .int x1), (2, .int x2)]) hx hb dX11_names_34 hl (by decide) rfl (fun ls hl => ?_)
        have L36_6 : ∀ (n : Nat) (t : Int32 × Int32 × zS), zlp (F_X11_names_36 N x0 x2 v5) n t = some ρ → ∀ (H : Heap) (locs : List Loc) (ls : Array Slot), zP D c o (zabs o (t.2.2)) H → va_S (zA o) s.heap H locs → lv_has ls 6 [(4, .int (t.1)), (5, .int (t.2.1)), (0, .ref (o + x0)), (2, .int x2), (3, .ref (o + v5))] → W p l e (zr 6) s m (([.ref (o + x0), .int x1, .int x2] : List Value).toArray) below meth cd H locs 0 0 (MQ below (zQi D c o g ρ) (([.ref (o + x0), .int x1, .int x2] : List Value).toArray) s 0 0 (zA o)) (F0 m 36 ls []) := by
          refine zlp_ind (fun ag6 ih6 t h H locs ls hP hS hl => ?_)
          obtain ⟨x4_6, x5_6, σ6⟩ := t
          have hP : zP D c o (zabs o σ6) H := hP
          have hl : lv_has ls 6 [(4, .int x4_6), (5, .int x5_6), (0, .ref (o + x0)), (2, .int x2), (3, .ref (o + v5))] := hl
          rw [F_X11_names_36.eq_1] at h
          show W p l e (zr 6) s m (([.ref (o + x0), .int x1, .int x2] : List Value).toArray) below meth cd H locs 0 0 (MQ below (zQi D c o g ρ) (([.ref (o + x0), .int x1, .int x2] : List Value).toArray) s 0 0 (zA o)) (F0 m 36 ls [])
          refine lv_iload (pc := 36) hx hb dX11_names_36 (lv_at hl 1 rfl) ?_
          refine lv_aload_n (pc := 38) hx hb dX11_names_38 rfl (lv_at hl 2 rfl) ?_
          obtain ⟨v7, hv, h⟩ := zl_some h
          refine xgR (pc := 39) (j := 4) zc11 hx hb hts hown hK hP hv rfl zf_X11_26 dX11_names_39 ?_
          obtain ⟨v8, hv, h⟩ := zl_some h
          refine xgI (pc := 42) (j := 0) zc10 hx hb hts hown hK hP hv rfl zf_X11_139 dX11_names_42 ?_
          refine lv_icmp_ge (pc := 45) (tgt := 74) hx hb dX11_names_45 (by decide) (fun c1 => ?_) (fun c1 => ?_)
          · rw [if_pos c1] at h
            refine lv_iload (pc := 74) hx hb dX11_names_74 (lv_at hl 0 rfl) ?_
            exact xreti (pc := 76) hx hb hr hlocks hP hK hE hS h dX11_names_76
          · rw [if_neg c1] at h
            refine lv_aload_n (pc := 48) hx hb dX11_names_48 rfl (lv_at hl 2 rfl) ?_
            refine lv_aload_n (pc := 49) hx hb dX11_names_49 rfl (lv_at hl 4 rfl) ?_
            refine lv_iload (pc := 50) hx hb dX11_names_50 (lv_at hl 1 rfl) ?_
            refine lv_iload_n (pc := 52) hx hb dX11_names_52 rfl (lv_at hl 3 rfl) ?_
            obtain ⟨_, hg, h⟩ := zl_some h
            obtain ⟨v9, σ10, hv, h⟩ := zb_some h
            refine xcallVi (pc := 53) (As := [.ref (o + v5), .int x5_6, .int x2]) (rest := []) ⟨hx, hb, hml, hown, hts⟩ (c_X11_isFoundName l D c o g N hv) zc11 zV_X11_217 rfl zd_X11_isFoundName ⟨Nat.le_of_ble_eq_true rfl, Nat.le_of_ble_eq_true rfl⟩ hK hP hE hS hg hl.1 rfl (Nat.le_of_ble_eq_true rfl) ⟨Nat.zero_le _, Nat.zero_le _⟩ dX11_names_53 (fun H locs hP hS => ?_)
            refine lv_if_eq (pc := 56) (tgt := 68) hx hb dX11_names_56 (by decide) (fun c1 => ?_) (fun c1 => ?_)
            · rw [if_pos c1] at h
              refine lv_iinc (pc := 68) (v := x5_6 + 1) (lv' := [(5, .int (x5_6 + 1)), (4, .int x4_6), (0, .ref (o + x0)), (2, .int x2), (3, .ref (o + v5))]) hx hb dX11_names_68 hl (k := 1) rfl rfl (by decide) rfl (fun ls hl => ?_)
              refine lv_goto (pc := 71) (tgt := 36) hx hb dX11_names_71 (by decide) ?_
              exact ih6 (x4_6, x5_6 + 1, σ10) h _ _ ls hP hS (lv_sub hl [1, 0, 2, 3, 4] rfl)
            · rw [if_neg c1] at h
              refine lv_iload (pc := 59) hx hb dX11_names_59 (lv_at hl 0 rfl) ?_
              refine lv_iconst (pc := 61) (v := 1) hx hb dX11_names_61 (by decide) ?_
              refine lv_iload (pc := 62) hx hb dX11_names_62 (lv_at hl 1 rfl) ?_
              refine lv_ishl (pc := 64) hx hb dX11_names_64 ?_
              refine lv_ior (pc := 65) hx hb dX11_names_65 ?_
              refine lv_istore (pc := 66) (lv' := [(4, .int (x4_6 ||| ((1 : Int32) <<< (x5_6 &&& 31)))), (5, .int x5_6), (0, .ref (o + x0)), (2, .int x2), (3, .ref (o + v5))]) hx hb dX11_names_66 hl (by decide) rfl (fun ls hl => ?_)
              refine lv_iinc (pc := 68) (v := x5_6 + 1) (lv' := [(5, .int (x5_6 + 1)), (4, .int (x4_6 ||| ((1 : Int32) <<< (x5_6 &&& 31)))), (0, .ref (o + x0)), (2, .int x2), (3, .ref (o + v5))]) hx hb dX11_names_68 hl (k := 1) rfl rfl (by decide) rfl (fun ls hl => ?_)
              refine lv_goto (pc := 71) (tgt := 36) hx hb dX11_names_71 (by decide) ?_
              exact ih6 (x4_6 ||| ((1 : Int32) <<< (x5_6 &&& 31)), x5_6 + 1, σ10) h _ _ ls hP hS (lv_sub hl [1, 0, 2, 3, 4] rfl)
        exact L36_6 N (0, 0, σ2) h _ _ ls hP hS (lv_sub hl [1, 0, 3, 5, 2] rfl)
      · rw [if_neg c1] at h
        refine lv_bipush (pc := 17) (v := (-2)) hx hb dX11_names_17 (by decide) ?_
        exact xreti (pc := 19) hx hb hr hlocks hP hK hE hS h dX11_names_19
def f_X11_draw (N : Nat) (x0 : Nat) (x1 : Int32) (x2 : Int32) (σ : zS) : Option (Int32 × zS) :=
  zl (gC 11 x0) fun _ => zb (f_X11_isRegister N x0 x1 σ) fun v1 σ2 =>
  if v1 = 0 then
    (some ((-2), σ2))
  else
    (if x2 < 0 then
      (some ((-2), σ2))
    else
      (if x2 ≤ 2000000000 then
        (zl (gR 11 4 x0 σ2) fun v3 =>
        zl (gR 10 7 v3 σ2) fun v4 =>
        zl (aR 17 v4 x1 σ2) fun v5 =>
        zl (gC 2 v5) fun _ => zb (f_X2_tally N v5 σ2) fun v6 σ7 =>
        if 0 < v6 then
          (zl (nzJ 2147483648) fun _ =>
          zl (gR 11 4 x0 σ7) fun v8 =>
          zl (gR 10 7 v8 σ7) fun v9 =>
          zl (aR 17 v9 x1 σ7) fun v10 =>
          zl (nzJ 65536) fun _ =>
          zl (nzJ (Int32.toInt64 v6)) fun _ =>
          zl (gC 2 v10) fun _ => zb (f_X2_pick N v10 (Int64.toInt32 (((((1103515245 * (Int32.toInt64 x2)) + 12345) - ((1103515245 * (Int32.toInt64 x2)) + 12345) / 2147483648 * 2147483648) / 65536) - ((((1103515245 * (Int32.toInt64 x2)) + 12345) - ((1103515245 * (Int32.toInt64 x2)) + 12345) / 2147483648 * 2147483648) / 65536) / (Int32.toInt64 v6) * (Int32.toInt64 v6))) σ7) fun v11 σ12 =>
          some (v11, σ12))
        else
          (some ((-1), σ7)))
      else
        (some ((-2), σ2))))
set_option maxHeartbeats 4000000 in
set_option maxRecDepth 100000 in
theorem c_X11_draw (l : Launch) (D : va_G) (c : zC) (o : Nat) (g : zEp) (N : Nat) {x0 : Nat} {x1 : Int32} {x2 : Int32} {σ : zS} {ρ : Int32 × zS} (h : f_X11_draw N x0 x1 x2 σ = some ρ) : Met l yX11_draw zs_X11_draw (zr 10) (va_Pc [.ref (o + x0), .int x1, .int x2] (zG D c o g σ)) (zQi D c o g ρ) 0 0 (zA o) := by
  refine zMetG (by decide) (Nat.le_of_ble_eq_true rfl) ?_
  intro p e s m below meth cd ⟨hx, hb, hr, hml, hown, hts, hlocks⟩ hP hK hE ls hl
  have hS : va_S (zA o) s.heap s.heap [] := va_S.rf
  have hl : lv_has ls 6 [(0, .ref (o + x0)), (1, .int x1), (2, .int x2)] := hl
  rw [f_X11_draw.eq_1] at h
  refine lv_aload_n (pc := 0) hx hb dX11_draw_0 rfl (lv_at hl 0 rfl) ?_
  refine lv_iload_n (pc := 1) hx hb dX11_draw_1 rfl (lv_at hl 1 rfl) ?_
  obtain ⟨_, hg, h⟩ := zl_some h
  obtain ⟨v1, σ2, hv, h⟩ := zb_some h
  refine xcallVi (pc := 2) (As := [.int x1]) (rest := []) ⟨hx, hb, hml, hown, hts⟩ (c_X11_isRegister l D c o g N hv) zc11 zV_X11_135 rfl zd_X11_isRegister ⟨Nat.le_of_ble_eq_true rfl, Nat.le_of_ble_eq_true rfl⟩ hK hP hE hS hg hl.1 rfl (Nat.le_of_ble_eq_true rfl) ⟨Nat.zero_le _, Nat.zero_le _⟩ dX11_draw_2 (fun H locs hP hS => ?_)
  refine lv_if_eq (pc := 5) (tgt := 18) hx hb dX11_draw_5 (by decide) (fun c1 => ?_) (fun c1 => ?_)
  · rw [if_pos c1] at h
    refine lv_bipush (pc := 18) (v := (-2)) hx hb dX11_draw_18 (by decide) ?_
    exact xreti (pc := 20) hx hb hr hlocks hP hK hE hS h dX11_draw_20
  · rw [if_neg c1] at h
    refine lv_iload_n (pc := 8) hx hb dX11_draw_8 rfl (lv_at hl 2 rfl) ?_
    refine lv_if_lt (pc := 9) (tgt := 18) hx hb dX11_draw_9 (by decide) (fun c1 => ?_) (fun c1 => ?_)
    · rw [if_pos c1] at h
      refine lv_bipush (pc := 18) (v := (-2)) hx hb dX11_draw_18 (by decide) ?_
      exact xreti (pc := 20) hx hb hr hlocks hP hK hE hS h dX11_draw_20
    · rw [if_neg c1] at h
      refine lv_iload_n (pc := 12) hx hb dX11_draw_12 rfl (lv_at hl 2 rfl) ?_
      refine lv_ldc (pc := 13) hx hb hown (hts _ zk_X11_221) dX11_draw_13 ?_
      refine lv_icmp_le (pc := 15) (tgt := 21) hx hb dX11_draw_15 (by decide) (fun c1 => ?_) (fun c1 => ?_)
      · rw [if_pos c1] at h
        refine lv_aload_n (pc := 21) hx hb dX11_draw_21 rfl (lv_at hl 0 rfl) ?_
        obtain ⟨v3, hv, h⟩ := zl_some h
        refine xgR (pc := 22) (j := 4) zc11 hx hb hts hown hK hP hv rfl zf_X11_26 dX11_draw_22 ?_
        obtain ⟨v4, hv, h⟩ := zl_some h
        refine xgR (pc := 25) (j := 7) zc10 hx hb hts hown hK hP hv rfl zf_X11_146 dX11_draw_25 ?_
        refine lv_iload_n (pc := 28) hx hb dX11_draw_28 rfl (lv_at hl 1 rfl) ?_
        obtain ⟨v5, hv, h⟩ := zl_some h
        refine xaF (pc := 29) hx hb hK hP hv dX11_draw_29 ?_
        obtain ⟨_, hg, h⟩ := zl_some h
        obtain ⟨v6, σ7, hv, h⟩ := zb_some h
        refine xcallVi (pc := 30) (As := []) (rest := []) ⟨hx, hb, hml, hown, hts⟩ (c_X2_tally l D c o g N hv) zc2 zV_X11_150 rfl zd_X2_tally ⟨Nat.le_of_ble_eq_true rfl, Nat.le_of_ble_eq_true rfl⟩ hK hP hE hS hg hl.1 rfl (Nat.le_of_ble_eq_true rfl) ⟨Nat.zero_le _, Nat.zero_le _⟩ dX11_draw_30 (fun H locs hP hS => ?_)
        refine lv_istore_n (pc := 33) (lv' := [(3, .int v6), (0, .ref (o + x0)), (1, .int x1), (2, .int x2)]) hx hb dX11_draw_33 rfl hl (by decide) rfl (fun ls hl => ?_)
        refine lv_iload_n (pc := 34) hx hb dX11_draw_34 rfl (lv_at hl 0 rfl) ?_
        refine lv_if_gt (pc := 35) (tgt := 40) hx hb dX11_draw_35 (by decide) (fun c1 => ?_) (fun c1 => ?_)
        · rw [if_pos c1] at h
          refine lv_ldc2 (pc := 40) hx hb hown (hts _ zk_X11_222) dX11_draw_40 ?_
          refine lv_iload_n (pc := 43) hx hb dX11_draw_43 rfl (lv_at hl 3 rfl) ?_
          refine lv_i2l (pc := 44) hx hb dX11_draw_44 rfl ?_
          refine lv_lmul (pc := 45) hx hb dX11_draw_45 ?_
          refine lv_ldc2 (pc := 46) hx hb hown (hts _ zk_X11_224) dX11_draw_46 ?_
          refine lv_ladd (pc := 49) hx hb dX11_draw_49 ?_
          refine lv_ldc2 (pc := 50) hx hb hown (hts _ zk_X11_226) dX11_draw_50 ?_
          obtain ⟨_, hv, h⟩ := zl_some h
          refine lv_lrem (pc := 53) hx hb dX11_draw_53 (xnzJ hv) ?_
          refine lv_lstore (pc := 54) (lv' := [(4, .long (((1103515245 * (Int32.toInt64 x2)) + 12345) - ((1103515245 * (Int32.toInt64 x2)) + 12345) / 2147483648 * 2147483648)), (3, .int v6), (0, .ref (o + x0)), (1, .int x1), (2, .int x2)]) hx hb dX11_draw_54 hl (by decide) rfl (fun ls hl => ?_)
          refine lv_aload_n (pc := 56) hx hb dX11_draw_56 rfl (lv_at hl 2 rfl) ?_
          obtain ⟨v8, hv, h⟩ := zl_some h
          refine xgR (pc := 57) (j := 4) zc11 hx hb hts hown hK hP hv rfl zf_X11_26 dX11_draw_57 ?_
          obtain ⟨v9, hv, h⟩ := zl_some h
          refine xgR (pc := 60) (j := 7) zc10 hx hb hts hown hK hP hv rfl zf_X11_146 dX11_draw_60 ?_
          refine lv_iload_n (pc := 63) hx hb dX11_draw_63 rfl (lv_at hl 3 rfl) ?_
          obtain ⟨v10, hv, h⟩ := zl_some h
          refine xaF (pc := 64) hx hb hK hP hv dX11_draw_64 ?_
          refine lv_lload (pc := 65) hx hb dX11_draw_65 (lv_at hl 0 rfl) ?_
          refine lv_ldc2 (pc := 67) hx hb hown (hts _ zk_X11_228) dX11_draw_67 ?_
          obtain ⟨_, hv, h⟩ := zl_some h
          refine lv_ldiv (pc := 70) hx hb dX11_draw_70 (xnzJ hv) ?_
          refine lv_iload_n (pc := 71) hx hb dX11_draw_71 rfl (lv_at hl 1 rfl) ?_
          refine lv_i2l (pc := 72) hx hb dX11_draw_72 rfl ?_
          obtain ⟨_, hv, h⟩ := zl_some h
          refine lv_lrem (pc := 73) hx hb dX11_draw_73 (xnzJ hv) ?_
          refine lv_l2i (pc := 74) hx hb dX11_draw_74 rfl ?_
          obtain ⟨_, hg, h⟩ := zl_some h
          obtain ⟨v11, σ12, hv, h⟩ := zb_some h
          refine xcallVi (pc := 75) (As := [.int (Int64.toInt32 (((((1103515245 * (Int32.toInt64 x2)) + 12345) - ((1103515245 * (Int32.toInt64 x2)) + 12345) / 2147483648 * 2147483648) / 65536) - ((((1103515245 * (Int32.toInt64 x2)) + 12345) - ((1103515245 * (Int32.toInt64 x2)) + 12345) / 2147483648 * 2147483648) / 65536) / (Int32.toInt64 v6) * (Int32.toInt64 v6)))]) (rest := []) ⟨hx, hb, hml, hown, hts⟩ (c_X2_pick l D c o g N hv) zc2 zV_X11_198 rfl zd_X2_pick ⟨Nat.le_of_ble_eq_true rfl, Nat.le_of_ble_eq_true rfl⟩ hK hP hE hS hg hl.1 rfl (Nat.le_of_ble_eq_true rfl) ⟨Nat.zero_le _, Nat.zero_le _⟩ dX11_draw_75 (fun H locs hP hS => ?_)
          exact xreti (pc := 78) hx hb hr hlocks hP hK hE hS h dX11_draw_78
        · rw [if_neg c1] at h
          refine lv_iconst (pc := 38) (v := (-1)) hx hb dX11_draw_38 (by decide) ?_
          exact xreti (pc := 39) hx hb hr hlocks hP hK hE hS h dX11_draw_39
      · rw [if_neg c1] at h
        refine lv_bipush (pc := 18) (v := (-2)) hx hb dX11_draw_18 (by decide) ?_
        exact xreti (pc := 20) hx hb hr hlocks hP hK hE hS h dX11_draw_20
def f_X11_alike (N : Nat) (x0 : Nat) (x1 : Int32) (x2 : Int32) (σ : zS) : Option (Int32 × zS) :=
  zl (gC 11 x0) fun _ => zb (f_X11_isRegister N x0 x1 σ) fun v1 σ2 =>
  if v1 = 0 then
    (some ((-2), σ2))
  else
    (zl (gC 11 x0) fun _ => zb (f_X11_isRegister N x0 x2 σ2) fun v3 σ4 =>
    if v3 = 0 then
      (some ((-2), σ4))
    else
      (zl (gR 11 4 x0 σ4) fun v5 =>
      zl (gR 10 7 v5 σ4) fun v6 =>
      zl (aR 17 v6 x1 σ4) fun v7 =>
      zl (gR 11 4 x0 σ4) fun v8 =>
      zl (gR 10 7 v8 σ4) fun v9 =>
      zl (aR 17 v9 x2 σ4) fun v10 =>
      zl (gC 2 v7) fun _ => zb (f_X2_sameAs N v7 v10 σ4) fun v11 σ12 =>
      if v11 = 0 then
        (some (0, σ12))
      else
        (some (1, σ12))))
set_option maxHeartbeats 4000000 in
set_option maxRecDepth 100000 in
theorem c_X11_alike (l : Launch) (D : va_G) (c : zC) (o : Nat) (g : zEp) (N : Nat) {x0 : Nat} {x1 : Int32} {x2 : Int32} {σ : zS} {ρ : Int32 × zS} (h : f_X11_alike N x0 x1 x2 σ = some ρ) : Met l yX11_alike zs_X11_alike (zr 6) (va_Pc [.ref (o + x0), .int x1, .int x2] (zG D c o g σ)) (zQi D c o g ρ) 0 0 (zA o) := by
  refine zMetG (by decide) (Nat.le_of_ble_eq_true rfl) ?_
  intro p e s m below meth cd ⟨hx, hb, hr, hml, hown, hts, hlocks⟩ hP hK hE ls hl
  have hS : va_S (zA o) s.heap s.heap [] := va_S.rf
  have hl : lv_has ls 3 [(0, .ref (o + x0)), (1, .int x1), (2, .int x2)] := hl
  rw [f_X11_alike.eq_1] at h
  refine lv_aload_n (pc := 0) hx hb dX11_alike_0 rfl (lv_at hl 0 rfl) ?_
  refine lv_iload_n (pc := 1) hx hb dX11_alike_1 rfl (lv_at hl 1 rfl) ?_
  obtain ⟨_, hg, h⟩ := zl_some h
  obtain ⟨v1, σ2, hv, h⟩ := zb_some h
  refine xcallVi (pc := 2) (As := [.int x1]) (rest := []) ⟨hx, hb, hml, hown, hts⟩ (c_X11_isRegister l D c o g N hv) zc11 zV_X11_135 rfl zd_X11_isRegister ⟨Nat.le_of_ble_eq_true rfl, Nat.le_of_ble_eq_true rfl⟩ hK hP hE hS hg hl.1 rfl (Nat.le_of_ble_eq_true rfl) ⟨Nat.zero_le _, Nat.zero_le _⟩ dX11_alike_2 (fun H locs hP hS => ?_)
  refine lv_if_eq (pc := 5) (tgt := 16) hx hb dX11_alike_5 (by decide) (fun c1 => ?_) (fun c1 => ?_)
  · rw [if_pos c1] at h
    refine lv_bipush (pc := 16) (v := (-2)) hx hb dX11_alike_16 (by decide) ?_
    exact xreti (pc := 18) hx hb hr hlocks hP hK hE hS h dX11_alike_18
  · rw [if_neg c1] at h
    refine lv_aload_n (pc := 8) hx hb dX11_alike_8 rfl (lv_at hl 0 rfl) ?_
    refine lv_iload_n (pc := 9) hx hb dX11_alike_9 rfl (lv_at hl 2 rfl) ?_
    obtain ⟨_, hg, h⟩ := zl_some h
    obtain ⟨v3, σ4, hv, h⟩ := zb_some h
    refine xcallVi (pc := 10) (As := [.int x2]) (rest := []) ⟨hx, hb, hml, hown, hts⟩ (c_X11_isRegister l D c o g N hv) zc11 zV_X11_135 rfl zd_X11_isRegister ⟨Nat.le_of_ble_eq_true rfl, Nat.le_of_ble_eq_true rfl⟩ hK hP hE hS hg hl.1 rfl (Nat.le_of_ble_eq_true rfl) ⟨Nat.zero_le _, Nat.zero_le _⟩ dX11_alike_10 (fun H locs hP hS => ?_)
    refine lv_if_ne (pc := 13) (tgt := 19) hx hb dX11_alike_13 (by decide) (fun c1 => ?_) (fun c1 => ?_)
    · rw [if_neg c1] at h
      refine lv_aload_n (pc := 19) hx hb dX11_alike_19 rfl (lv_at hl 0 rfl) ?_
      obtain ⟨v5, hv, h⟩ := zl_some h
      refine xgR (pc := 20) (j := 4) zc11 hx hb hts hown hK hP hv rfl zf_X11_26 dX11_alike_20 ?_
      obtain ⟨v6, hv, h⟩ := zl_some h
      refine xgR (pc := 23) (j := 7) zc10 hx hb hts hown hK hP hv rfl zf_X11_146 dX11_alike_23 ?_
      refine lv_iload_n (pc := 26) hx hb dX11_alike_26 rfl (lv_at hl 1 rfl) ?_
      obtain ⟨v7, hv, h⟩ := zl_some h
      refine xaF (pc := 27) hx hb hK hP hv dX11_alike_27 ?_
      refine lv_aload_n (pc := 28) hx hb dX11_alike_28 rfl (lv_at hl 0 rfl) ?_
      obtain ⟨v8, hv, h⟩ := zl_some h
      refine xgR (pc := 29) (j := 4) zc11 hx hb hts hown hK hP hv rfl zf_X11_26 dX11_alike_29 ?_
      obtain ⟨v9, hv, h⟩ := zl_some h
      refine xgR (pc := 32) (j := 7) zc10 hx hb hts hown hK hP hv rfl zf_X11_146 dX11_alike_32 ?_
      refine lv_iload_n (pc := 35) hx hb dX11_alike_35 rfl (lv_at hl 2 rfl) ?_
      obtain ⟨v10, hv, h⟩ := zl_some h
      refine xaF (pc := 36) hx hb hK hP hv dX11_alike_36 ?_
      obtain ⟨_, hg, h⟩ := zl_some h
      obtain ⟨v11, σ12, hv, h⟩ := zb_some h
      refine xcallVi (pc := 37) (As := [.ref (o + v10)]) (rest := []) ⟨hx, hb, hml, hown, hts⟩ (c_X2_sameAs l D c o g N hv) zc2 zV_X11_230 rfl zd_X2_sameAs ⟨Nat.le_of_ble_eq_true rfl, Nat.le_of_ble_eq_true rfl⟩ hK hP hE hS hg hl.1 rfl (Nat.le_of_ble_eq_true rfl) ⟨Nat.zero_le _, Nat.zero_le _⟩ dX11_alike_37 (fun H locs hP hS => ?_)
      refine lv_if_eq (pc := 40) (tgt := 47) hx hb dX11_alike_40 (by decide) (fun c1 => ?_) (fun c1 => ?_)
      · rw [if_pos c1] at h
        refine lv_iconst (pc := 47) (v := 0) hx hb dX11_alike_47 (by decide) ?_
        exact xreti (pc := 48) hx hb hr hlocks hP hK hE hS h dX11_alike_48
      · rw [if_neg c1] at h
        refine lv_iconst (pc := 43) (v := 1) hx hb dX11_alike_43 (by decide) ?_
        refine lv_goto (pc := 44) (tgt := 48) hx hb dX11_alike_44 (by decide) ?_
        exact xreti (pc := 48) hx hb hr hlocks hP hK hE hS h dX11_alike_48
    · rw [if_pos c1] at h
      refine lv_bipush (pc := 16) (v := (-2)) hx hb dX11_alike_16 (by decide) ?_
      exact xreti (pc := 18) hx hb hr hlocks hP hK hE hS h dX11_alike_18
def f_X11_differ (N : Nat) (x0 : Nat) (x1 : Int32) (x2 : Int32) (σ : zS) : Option (Int32 × zS) :=
  zl (gC 11 x0) fun _ => zb (f_X11_isRegister N x0 x1 σ) fun v1 σ2 =>
  if v1 = 0 then
    (some ((-2), σ2))
  else
    (zl (gC 11 x0) fun _ => zb (f_X11_isRegister N x0 x2 σ2) fun v3 σ4 =>
    if v3 = 0 then
      (some ((-2), σ4))
    else
      (zl (gR 11 17 x0 σ4) fun v5 =>
      zl (gR 11 4 x0 σ4) fun v6 =>
      zl (gR 10 7 v6 σ4) fun v7 =>
      zl (aR 17 v7 x1 σ4) fun v8 =>
      zl (gC 2 v5) fun _ => zb (f_X2_copyFrom N v5 v8 σ4) fun v9 σ10 =>
      zl (gR 11 17 x0 σ10) fun v11 =>
      zl (gR 11 4 x0 σ10) fun v12 =>
      zl (gR 10 7 v12 σ10) fun v13 =>
      zl (aR 17 v13 x2 σ10) fun v14 =>
      zl (gC 2 v11) fun _ => zb (f_X2_takeAway N v11 v14 σ10) fun v15 σ16 =>
      zl (gR 11 18 x0 σ16) fun v17 =>
      zl (gR 11 4 x0 σ16) fun v18 =>
      zl (gR 10 7 v18 σ16) fun v19 =>
      zl (aR 17 v19 x2 σ16) fun v20 =>
      zl (gC 2 v17) fun _ => zb (f_X2_copyFrom N v17 v20 σ16) fun v21 σ22 =>
      zl (gR 11 18 x0 σ22) fun v23 =>
      zl (gR 11 4 x0 σ22) fun v24 =>
      zl (gR 10 7 v24 σ22) fun v25 =>
      zl (aR 17 v25 x1 σ22) fun v26 =>
      zl (gC 2 v23) fun _ => zb (f_X2_takeAway N v23 v26 σ22) fun v27 σ28 =>
      zl (gR 11 17 x0 σ28) fun v29 =>
      zl (gR 11 18 x0 σ28) fun v30 =>
      zl (gC 2 v29) fun _ => zb (f_X2_join N v29 v30 σ28) fun v31 σ32 =>
      zl (gR 11 17 x0 σ32) fun v33 =>
      zl (gC 2 v33) fun _ => zb (f_X2_pick N v33 0 σ32) fun v34 σ35 =>
      some (v34, σ35)))
set_option maxHeartbeats 4000000 in
set_option maxRecDepth 100000 in
theorem c_X11_differ (l : Launch) (D : va_G) (c : zC) (o : Nat) (g : zEp) (N : Nat) {x0 : Nat} {x1 : Int32} {x2 : Int32} {σ : zS} {ρ : Int32 × zS} (h : f_X11_differ N x0 x1 x2 σ = some ρ) : Met l yX11_differ zs_X11_differ (zr 10) (va_Pc [.ref (o + x0), .int x1, .int x2] (zG D c o g σ)) (zQi D c o g ρ) 0 0 (zA o) := by
  refine zMetG (by decide) (Nat.le_of_ble_eq_true rfl) ?_
  intro p e s m below meth cd ⟨hx, hb, hr, hml, hown, hts, hlocks⟩ hP hK hE ls hl
  have hS : va_S (zA o) s.heap s.heap [] := va_S.rf
  have hl : lv_has ls 3 [(0, .ref (o + x0)), (1, .int x1), (2, .int x2)] := hl
  rw [f_X11_differ.eq_1] at h
  refine lv_aload_n (pc := 0) hx hb dX11_differ_0 rfl (lv_at hl 0 rfl) ?_
  refine lv_iload_n (pc := 1) hx hb dX11_differ_1 rfl (lv_at hl 1 rfl) ?_
  obtain ⟨_, hg, h⟩ := zl_some h
  obtain ⟨v1, σ2, hv, h⟩ := zb_some h
  refine xcallVi (pc := 2) (As := [.int x1]) (rest := []) ⟨hx, hb, hml, hown, hts⟩ (c_X11_isRegister l D c o g N hv) zc11 zV_X11_135 rfl zd_X11_isRegister ⟨Nat.le_of_ble_eq_true rfl, Nat.le_of_ble_eq_true rfl⟩ hK hP hE hS hg hl.1 rfl (Nat.le_of_ble_eq_true rfl) ⟨Nat.zero_le _, Nat.zero_le _⟩ dX11_differ_2 (fun H locs hP hS => ?_)
  refine lv_if_eq (pc := 5) (tgt := 16) hx hb dX11_differ_5 (by decide) (fun c1 => ?_) (fun c1 => ?_)
  · rw [if_pos c1] at h
    refine lv_bipush (pc := 16) (v := (-2)) hx hb dX11_differ_16 (by decide) ?_
    exact xreti (pc := 18) hx hb hr hlocks hP hK hE hS h dX11_differ_18
  · rw [if_neg c1] at h
    refine lv_aload_n (pc := 8) hx hb dX11_differ_8 rfl (lv_at hl 0 rfl) ?_
    refine lv_iload_n (pc := 9) hx hb dX11_differ_9 rfl (lv_at hl 2 rfl) ?_
    obtain ⟨_, hg, h⟩ := zl_some h
    obtain ⟨v3, σ4, hv, h⟩ := zb_some h
    refine xcallVi (pc := 10) (As := [.int x2]) (rest := []) ⟨hx, hb, hml, hown, hts⟩ (c_X11_isRegister l D c o g N hv) zc11 zV_X11_135 rfl zd_X11_isRegister ⟨Nat.le_of_ble_eq_true rfl, Nat.le_of_ble_eq_true rfl⟩ hK hP hE hS hg hl.1 rfl (Nat.le_of_ble_eq_true rfl) ⟨Nat.zero_le _, Nat.zero_le _⟩ dX11_differ_10 (fun H locs hP hS => ?_)
    refine lv_if_ne (pc := 13) (tgt := 19) hx hb dX11_differ_13 (by decide) (fun c1 => ?_) (fun c1 => ?_)
    · rw [if_neg c1] at h
      refine lv_aload_n (pc := 19) hx hb dX11_differ_19 rfl (lv_at hl 0 rfl) ?_
      obtain ⟨v5, hv, h⟩ := zl_some h
      refine xgR (pc := 20) (j := 17) zc11 hx hb hts hown hK hP hv rfl zf_X11_106 dX11_differ_20 ?_
      refine lv_aload_n (pc := 23) hx hb dX11_differ_23 rfl (lv_at hl 0 rfl) ?_
      obtain ⟨v6, hv, h⟩ := zl_some h
      refine xgR (pc := 24) (j := 4) zc11 hx hb hts hown hK hP hv rfl zf_X11_26 dX11_differ_24 ?_
      obtain ⟨v7, hv, h⟩ := zl_some h
      refine xgR (pc := 27) (j := 7) zc10 hx hb hts hown hK hP hv rfl zf_X11_146 dX11_differ_27 ?_
      refine lv_iload_n (pc := 30) hx hb dX11_differ_30 rfl (lv_at hl 1 rfl) ?_
      obtain ⟨v8, hv, h⟩ := zl_some h
      refine xaF (pc := 31) hx hb hK hP hv dX11_differ_31 ?_
      obtain ⟨_, hg, h⟩ := zl_some h
      obtain ⟨v9, σ10, hv, h⟩ := zb_some h
      refine xcallVv (pc := 32) (As := [.ref (o + v8)]) (rest := []) ⟨hx, hb, hml, hown, hts⟩ (c_X2_copyFrom l D c o g N hv) zc2 zV_X11_160 rfl zd_X2_copyFrom ⟨Nat.le_of_ble_eq_true rfl, Nat.le_of_ble_eq_true rfl⟩ hK hP hE hS hg hl.1 rfl (Nat.le_of_ble_eq_true rfl) ⟨Nat.zero_le _, Nat.zero_le _⟩ dX11_differ_32 (fun H locs hP hS => ?_)
      refine lv_aload_n (pc := 35) hx hb dX11_differ_35 rfl (lv_at hl 0 rfl) ?_
      obtain ⟨v11, hv, h⟩ := zl_some h
      refine xgR (pc := 36) (j := 17) zc11 hx hb hts hown hK hP hv rfl zf_X11_106 dX11_differ_36 ?_
      refine lv_aload_n (pc := 39) hx hb dX11_differ_39 rfl (lv_at hl 0 rfl) ?_
      obtain ⟨v12, hv, h⟩ := zl_some h
      refine xgR (pc := 40) (j := 4) zc11 hx hb hts hown hK hP hv rfl zf_X11_26 dX11_differ_40 ?_
      obtain ⟨v13, hv, h⟩ := zl_some h
      refine xgR (pc := 43) (j := 7) zc10 hx hb hts hown hK hP hv rfl zf_X11_146 dX11_differ_43 ?_
      refine lv_iload_n (pc := 46) hx hb dX11_differ_46 rfl (lv_at hl 2 rfl) ?_
      obtain ⟨v14, hv, h⟩ := zl_some h
      refine xaF (pc := 47) hx hb hK hP hv dX11_differ_47 ?_
      obtain ⟨_, hg, h⟩ := zl_some h
      obtain ⟨v15, σ16, hv, h⟩ := zb_some h
      refine xcallVv (pc := 48) (As := [.ref (o + v14)]) (rest := []) ⟨hx, hb, hml, hown, hts⟩ (c_X2_takeAway l D c o g N hv) zc2 zV_X11_234 rfl zd_X2_takeAway ⟨Nat.le_of_ble_eq_true rfl, Nat.le_of_ble_eq_true rfl⟩ hK hP hE hS hg hl.1 rfl (Nat.le_of_ble_eq_true rfl) ⟨Nat.zero_le _, Nat.zero_le _⟩ dX11_differ_48 (fun H locs hP hS => ?_)
      refine lv_aload_n (pc := 51) hx hb dX11_differ_51 rfl (lv_at hl 0 rfl) ?_
      obtain ⟨v17, hv, h⟩ := zl_some h
      refine xgR (pc := 52) (j := 18) zc11 hx hb hts hown hK hP hv rfl zf_X11_110 dX11_differ_52 ?_
      refine lv_aload_n (pc := 55) hx hb dX11_differ_55 rfl (lv_at hl 0 rfl) ?_
      obtain ⟨v18, hv, h⟩ := zl_some h
      refine xgR (pc := 56) (j := 4) zc11 hx hb hts hown hK hP hv rfl zf_X11_26 dX11_differ_56 ?_
      obtain ⟨v19, hv, h⟩ := zl_some h
      refine xgR (pc := 59) (j := 7) zc10 hx hb hts hown hK hP hv rfl zf_X11_146 dX11_differ_59 ?_
      refine lv_iload_n (pc := 62) hx hb dX11_differ_62 rfl (lv_at hl 2 rfl) ?_
      obtain ⟨v20, hv, h⟩ := zl_some h
      refine xaF (pc := 63) hx hb hK hP hv dX11_differ_63 ?_
      obtain ⟨_, hg, h⟩ := zl_some h
      obtain ⟨v21, σ22, hv, h⟩ := zb_some h
      refine xcallVv (pc := 64) (As := [.ref (o + v20)]) (rest := []) ⟨hx, hb, hml, hown, hts⟩ (c_X2_copyFrom l D c o g N hv) zc2 zV_X11_160 rfl zd_X2_copyFrom ⟨Nat.le_of_ble_eq_true rfl, Nat.le_of_ble_eq_true rfl⟩ hK hP hE hS hg hl.1 rfl (Nat.le_of_ble_eq_true rfl) ⟨Nat.zero_le _, Nat.zero_le _⟩ dX11_differ_64 (fun H locs hP hS => ?_)
      refine lv_aload_n (pc := 67) hx hb dX11_differ_67 rfl (lv_at hl 0 rfl) ?_
      obtain ⟨v23, hv, h⟩ := zl_some h
      refine xgR (pc := 68) (j := 18) zc11 hx hb hts hown hK hP hv rfl zf_X11_110 dX11_differ_68 ?_
      refine lv_aload_n (pc := 71) hx hb dX11_differ_71 rfl (lv_at hl 0 rfl) ?_
      obtain ⟨v24, hv, h⟩ := zl_some h
      refine xgR (pc := 72) (j := 4) zc11 hx hb hts hown hK hP hv rfl zf_X11_26 dX11_differ_72 ?_
      obtain ⟨v25, hv, h⟩ := zl_some h
      refine xgR (pc := 75) (j := 7) zc10 hx hb hts hown hK hP hv rfl zf_X11_146 dX11_differ_75 ?_
      refine lv_iload_n (pc := 78) hx hb dX11_differ_78 rfl (lv_at hl 1 rfl) ?_
      obtain ⟨v26, hv, h⟩ := zl_some h
      refine xaF (pc := 79) hx hb hK hP hv dX11_differ_79 ?_
      obtain ⟨_, hg, h⟩ := zl_some h
      obtain ⟨v27, σ28, hv, h⟩ := zb_some h
      refine xcallVv (pc := 80) (As := [.ref (o + v26)]) (rest := []) ⟨hx, hb, hml, hown, hts⟩ (c_X2_takeAway l D c o g N hv) zc2 zV_X11_234 rfl zd_X2_takeAway ⟨Nat.le_of_ble_eq_true rfl, Nat.le_of_ble_eq_true rfl⟩ hK hP hE hS hg hl.1 rfl (Nat.le_of_ble_eq_true rfl) ⟨Nat.zero_le _, Nat.zero_le _⟩ dX11_differ_80 (fun H locs hP hS => ?_)
      refine lv_aload_n (pc := 83) hx hb dX11_differ_83 rfl (lv_at hl 0 rfl) ?_
      obtain ⟨v29, hv, h⟩ := zl_some h
      refine xgR (pc := 84) (j := 17) zc11 hx hb hts hown hK hP hv rfl zf_X11_106 dX11_differ_84 ?_
      refine lv_aload_n (pc := 87) hx hb dX11_differ_87 rfl (lv_at hl 0 rfl) ?_
      obtain ⟨v30, hv, h⟩ := zl_some h
      refine xgR (pc := 88) (j := 18) zc11 hx hb hts hown hK hP hv rfl zf_X11_110 dX11_differ_88 ?_
      obtain ⟨_, hg, h⟩ := zl_some h
      obtain ⟨v31, σ32, hv, h⟩ := zb_some h
      refine xcallVv (pc := 91) (As := [.ref (o + v30)]) (rest := []) ⟨hx, hb, hml, hown, hts⟩ (c_X2_join l D c o g N hv) zc2 zV_X11_237 rfl zd_X2_join ⟨Nat.le_of_ble_eq_true rfl, Nat.le_of_ble_eq_true rfl⟩ hK hP hE hS hg hl.1 rfl (Nat.le_of_ble_eq_true rfl) ⟨Nat.zero_le _, Nat.zero_le _⟩ dX11_differ_91 (fun H locs hP hS => ?_)
      refine lv_aload_n (pc := 94) hx hb dX11_differ_94 rfl (lv_at hl 0 rfl) ?_
      obtain ⟨v33, hv, h⟩ := zl_some h
      refine xgR (pc := 95) (j := 17) zc11 hx hb hts hown hK hP hv rfl zf_X11_106 dX11_differ_95 ?_
      refine lv_iconst (pc := 98) (v := 0) hx hb dX11_differ_98 (by decide) ?_
      obtain ⟨_, hg, h⟩ := zl_some h
      obtain ⟨v34, σ35, hv, h⟩ := zb_some h
      refine xcallVi (pc := 99) (As := [.int 0]) (rest := []) ⟨hx, hb, hml, hown, hts⟩ (c_X2_pick l D c o g N hv) zc2 zV_X11_198 rfl zd_X2_pick ⟨Nat.le_of_ble_eq_true rfl, Nat.le_of_ble_eq_true rfl⟩ hK hP hE hS hg hl.1 rfl (Nat.le_of_ble_eq_true rfl) ⟨Nat.zero_le _, Nat.zero_le _⟩ dX11_differ_99 (fun H locs hP hS => ?_)
      exact xreti (pc := 102) hx hb hr hlocks hP hK hE hS h dX11_differ_102
    · rw [if_pos c1] at h
      refine lv_bipush (pc := 16) (v := (-2)) hx hb dX11_differ_16 (by decide) ?_
      exact xreti (pc := 18) hx hb hr hlocks hP hK hE hS h dX11_differ_18
def f_X11_within (N : Nat) (x0 : Nat) (x1 : Int32) (x2 : Int32) (σ : zS) : Option (Int32 × zS) :=
  zl (gC 11 x0) fun _ => zb (f_X11_isRegister N x0 x1 σ) fun v1 σ2 =>
  if v1 = 0 then
    (some ((-2), σ2))
  else
    (zl (gC 11 x0) fun _ => zb (f_X11_isRegister N x0 x2 σ2) fun v3 σ4 =>
    if v3 = 0 then
      (some ((-2), σ4))
    else
      (zl (gR 11 17 x0 σ4) fun v5 =>
      zl (gR 11 4 x0 σ4) fun v6 =>
      zl (gR 10 7 v6 σ4) fun v7 =>
      zl (aR 17 v7 x1 σ4) fun v8 =>
      zl (gC 2 v5) fun _ => zb (f_X2_copyFrom N v5 v8 σ4) fun v9 σ10 =>
      zl (gR 11 17 x0 σ10) fun v11 =>
      zl (gR 11 4 x0 σ10) fun v12 =>
      zl (gR 10 7 v12 σ10) fun v13 =>
      zl (aR 17 v13 x2 σ10) fun v14 =>
      zl (gC 2 v11) fun _ => zb (f_X2_takeAway N v11 v14 σ10) fun v15 σ16 =>
      zl (gR 11 17 x0 σ16) fun v17 =>
      zl (gC 2 v17) fun _ => zb (f_X2_isEmpty N v17 σ16) fun v18 σ19 =>
      if v18 = 0 then
        (some (0, σ19))
      else
        (some (1, σ19))))
set_option maxHeartbeats 4000000 in
set_option maxRecDepth 100000 in
theorem c_X11_within (l : Launch) (D : va_G) (c : zC) (o : Nat) (g : zEp) (N : Nat) {x0 : Nat} {x1 : Int32} {x2 : Int32} {σ : zS} {ρ : Int32 × zS} (h : f_X11_within N x0 x1 x2 σ = some ρ) : Met l yX11_within zs_X11_within (zr 6) (va_Pc [.ref (o + x0), .int x1, .int x2] (zG D c o g σ)) (zQi D c o g ρ) 0 0 (zA o) := by
  refine zMetG (by decide) (Nat.le_of_ble_eq_true rfl) ?_
  intro p e s m below meth cd ⟨hx, hb, hr, hml, hown, hts, hlocks⟩ hP hK hE ls hl
  have hS : va_S (zA o) s.heap s.heap [] := va_S.rf
  have hl : lv_has ls 3 [(0, .ref (o + x0)), (1, .int x1), (2, .int x2)] := hl
  rw [f_X11_within.eq_1] at h
  refine lv_aload_n (pc := 0) hx hb dX11_within_0 rfl (lv_at hl 0 rfl) ?_
  refine lv_iload_n (pc := 1) hx hb dX11_within_1 rfl (lv_at hl 1 rfl) ?_
  obtain ⟨_, hg, h⟩ := zl_some h
  obtain ⟨v1, σ2, hv, h⟩ := zb_some h
  refine xcallVi (pc := 2) (As := [.int x1]) (rest := []) ⟨hx, hb, hml, hown, hts⟩ (c_X11_isRegister l D c o g N hv) zc11 zV_X11_135 rfl zd_X11_isRegister ⟨Nat.le_of_ble_eq_true rfl, Nat.le_of_ble_eq_true rfl⟩ hK hP hE hS hg hl.1 rfl (Nat.le_of_ble_eq_true rfl) ⟨Nat.zero_le _, Nat.zero_le _⟩ dX11_within_2 (fun H locs hP hS => ?_)
  refine lv_if_eq (pc := 5) (tgt := 16) hx hb dX11_within_5 (by decide) (fun c1 => ?_) (fun c1 => ?_)
  · rw [if_pos c1] at h
    refine lv_bipush (pc := 16) (v := (-2)) hx hb dX11_within_16 (by decide) ?_
    exact xreti (pc := 18) hx hb hr hlocks hP hK hE hS h dX11_within_18
  · rw [if_neg c1] at h
    refine lv_aload_n (pc := 8) hx hb dX11_within_8 rfl (lv_at hl 0 rfl) ?_
    refine lv_iload_n (pc := 9) hx hb dX11_within_9 rfl (lv_at hl 2 rfl) ?_
    obtain ⟨_, hg, h⟩ := zl_some h
    obtain ⟨v3, σ4, hv, h⟩ := zb_some h
    refine xcallVi (pc := 10) (As := [.int x2]) (rest := []) ⟨hx, hb, hml, hown, hts⟩ (c_X11_isRegister l D c o g N hv) zc11 zV_X11_135 rfl zd_X11_isRegister ⟨Nat.le_of_ble_eq_true rfl, Nat.le_of_ble_eq_true rfl⟩ hK hP hE hS hg hl.1 rfl (Nat.le_of_ble_eq_true rfl) ⟨Nat.zero_le _, Nat.zero_le _⟩ dX11_within_10 (fun H locs hP hS => ?_)
    refine lv_if_ne (pc := 13) (tgt := 19) hx hb dX11_within_13 (by decide) (fun c1 => ?_) (fun c1 => ?_)
    · rw [if_neg c1] at h
      refine lv_aload_n (pc := 19) hx hb dX11_within_19 rfl (lv_at hl 0 rfl) ?_
      obtain ⟨v5, hv, h⟩ := zl_some h
      refine xgR (pc := 20) (j := 17) zc11 hx hb hts hown hK hP hv rfl zf_X11_106 dX11_within_20 ?_
      refine lv_aload_n (pc := 23) hx hb dX11_within_23 rfl (lv_at hl 0 rfl) ?_
      obtain ⟨v6, hv, h⟩ := zl_some h
      refine xgR (pc := 24) (j := 4) zc11 hx hb hts hown hK hP hv rfl zf_X11_26 dX11_within_24 ?_
      obtain ⟨v7, hv, h⟩ := zl_some h
      refine xgR (pc := 27) (j := 7) zc10 hx hb hts hown hK hP hv rfl zf_X11_146 dX11_within_27 ?_
      refine lv_iload_n (pc := 30) hx hb dX11_within_30 rfl (lv_at hl 1 rfl) ?_
      obtain ⟨v8, hv, h⟩ := zl_some h
      refine xaF (pc := 31) hx hb hK hP hv dX11_within_31 ?_
      obtain ⟨_, hg, h⟩ := zl_some h
      obtain ⟨v9, σ10, hv, h⟩ := zb_some h
      refine xcallVv (pc := 32) (As := [.ref (o + v8)]) (rest := []) ⟨hx, hb, hml, hown, hts⟩ (c_X2_copyFrom l D c o g N hv) zc2 zV_X11_160 rfl zd_X2_copyFrom ⟨Nat.le_of_ble_eq_true rfl, Nat.le_of_ble_eq_true rfl⟩ hK hP hE hS hg hl.1 rfl (Nat.le_of_ble_eq_true rfl) ⟨Nat.zero_le _, Nat.zero_le _⟩ dX11_within_32 (fun H locs hP hS => ?_)
      refine lv_aload_n (pc := 35) hx hb dX11_within_35 rfl (lv_at hl 0 rfl) ?_
      obtain ⟨v11, hv, h⟩ := zl_some h
      refine xgR (pc := 36) (j := 17) zc11 hx hb hts hown hK hP hv rfl zf_X11_106 dX11_within_36 ?_
      refine lv_aload_n (pc := 39) hx hb dX11_within_39 rfl (lv_at hl 0 rfl) ?_
      obtain ⟨v12, hv, h⟩ := zl_some h
      refine xgR (pc := 40) (j := 4) zc11 hx hb hts hown hK hP hv rfl zf_X11_26 dX11_within_40 ?_
      obtain ⟨v13, hv, h⟩ := zl_some h
      refine xgR (pc := 43) (j := 7) zc10 hx hb hts hown hK hP hv rfl zf_X11_146 dX11_within_43 ?_
      refine lv_iload_n (pc := 46) hx hb dX11_within_46 rfl (lv_at hl 2 rfl) ?_
      obtain ⟨v14, hv, h⟩ := zl_some h
      refine xaF (pc := 47) hx hb hK hP hv dX11_within_47 ?_
      obtain ⟨_, hg, h⟩ := zl_some h
      obtain ⟨v15, σ16, hv, h⟩ := zb_some h
      refine xcallVv (pc := 48) (As := [.ref (o + v14)]) (rest := []) ⟨hx, hb, hml, hown, hts⟩ (c_X2_takeAway l D c o g N hv) zc2 zV_X11_234 rfl zd_X2_takeAway ⟨Nat.le_of_ble_eq_true rfl, Nat.le_of_ble_eq_true rfl⟩ hK hP hE hS hg hl.1 rfl (Nat.le_of_ble_eq_true rfl) ⟨Nat.zero_le _, Nat.zero_le _⟩ dX11_within_48 (fun H locs hP hS => ?_)
      refine lv_aload_n (pc := 51) hx hb dX11_within_51 rfl (lv_at hl 0 rfl) ?_
      obtain ⟨v17, hv, h⟩ := zl_some h
      refine xgR (pc := 52) (j := 17) zc11 hx hb hts hown hK hP hv rfl zf_X11_106 dX11_within_52 ?_
      obtain ⟨_, hg, h⟩ := zl_some h
      obtain ⟨v18, σ19, hv, h⟩ := zb_some h
      refine xcallVi (pc := 55) (As := []) (rest := []) ⟨hx, hb, hml, hown, hts⟩ (c_X2_isEmpty l D c o g N hv) zc2 zV_X11_240 rfl zd_X2_isEmpty ⟨Nat.le_of_ble_eq_true rfl, Nat.le_of_ble_eq_true rfl⟩ hK hP hE hS hg hl.1 rfl (Nat.le_of_ble_eq_true rfl) ⟨Nat.zero_le _, Nat.zero_le _⟩ dX11_within_55 (fun H locs hP hS => ?_)
      refine lv_if_eq (pc := 58) (tgt := 65) hx hb dX11_within_58 (by decide) (fun c1 => ?_) (fun c1 => ?_)
      · rw [if_pos c1] at h
        refine lv_iconst (pc := 65) (v := 0) hx hb dX11_within_65 (by decide) ?_
        exact xreti (pc := 66) hx hb hr hlocks hP hK hE hS h dX11_within_66
      · rw [if_neg c1] at h
        refine lv_iconst (pc := 61) (v := 1) hx hb dX11_within_61 (by decide) ?_
        refine lv_goto (pc := 62) (tgt := 66) hx hb dX11_within_62 (by decide) ?_
        exact xreti (pc := 66) hx hb hr hlocks hP hK hE hS h dX11_within_66
    · rw [if_pos c1] at h
      refine lv_bipush (pc := 16) (v := (-2)) hx hb dX11_within_16 (by decide) ?_
      exact xreti (pc := 18) hx hb hr hlocks hP hK hE hS h dX11_within_18
def f_X11_dual (N : Nat) (x0 : Nat) (x1 : Int32) (x2 : Int32) (σ : zS) : Option (Int32 × zS) :=
  zl (gC 11 x0) fun _ => zb (f_X11_isRegister N x0 x1 σ) fun v1 σ2 =>
  if v1 = 0 then
    (some ((-2), σ2))
  else
    (zl (gC 11 x0) fun _ => zb (f_X11_isRegister N x0 x2 σ2) fun v3 σ4 =>
    if v3 = 0 then
      (some ((-2), σ4))
    else
      (zl (gR 11 17 x0 σ4) fun v5 =>
      zl (gR 11 4 x0 σ4) fun v6 =>
      zl (gR 10 7 v6 σ4) fun v7 =>
      zl (aR 17 v7 x2 σ4) fun v8 =>
      zl (gC 2 v5) fun _ => zb (f_X2_copyFrom N v5 v8 σ4) fun v9 σ10 =>
      zl (gR 11 11 x0 σ10) fun v11 =>
      zl (gR 11 17 x0 σ10) fun v12 =>
      zl (gR 11 4 x0 σ10) fun v13 =>
      zl (gI 10 0 v13 σ10) fun v14 =>
      zl (gC 0 v11) fun _ => zb (f_X0_reshape N v11 2 v12 v14 σ10) fun v15 σ16 =>
      zl (gR 11 18 x0 σ16) fun v17 =>
      zl (gR 11 4 x0 σ16) fun v18 =>
      zl (gR 10 7 v18 σ16) fun v19 =>
      zl (aR 17 v19 x1 σ16) fun v20 =>
      zl (gC 2 v17) fun _ => zb (f_X2_copyFrom N v17 v20 σ16) fun v21 σ22 =>
      zl (gR 11 11 x0 σ22) fun v23 =>
      zl (gR 11 18 x0 σ22) fun v24 =>
      zl (gR 11 4 x0 σ22) fun v25 =>
      zl (gI 10 0 v25 σ22) fun v26 =>
      zl (gC 0 v23) fun _ => zb (f_X0_reshape N v23 2 v24 v26 σ22) fun v27 σ28 =>
      zl (gR 11 17 x0 σ28) fun v29 =>
      zl (gR 11 4 x0 σ28) fun v30 =>
      zl (gR 10 7 v30 σ28) fun v31 =>
      zl (aR 17 v31 x1 σ28) fun v32 =>
      zl (gC 2 v29) fun _ => zb (f_X2_sameAs N v29 v32 σ28) fun v33 σ34 =>
      if v33 = 0 then
        (some (0, σ34))
      else
        (zl (gR 11 18 x0 σ34) fun v35 =>
        zl (gR 11 4 x0 σ34) fun v36 =>
        zl (gR 10 7 v36 σ34) fun v37 =>
        zl (aR 17 v37 x2 σ34) fun v38 =>
        zl (gC 2 v35) fun _ => zb (f_X2_sameAs N v35 v38 σ34) fun v39 σ40 =>
        if v39 = 0 then
          (some (0, σ40))
        else
          (some (1, σ40)))))
set_option maxHeartbeats 4000000 in
set_option maxRecDepth 100000 in
theorem c_X11_dual (l : Launch) (D : va_G) (c : zC) (o : Nat) (g : zEp) (N : Nat) {x0 : Nat} {x1 : Int32} {x2 : Int32} {σ : zS} {ρ : Int32 × zS} (h : f_X11_dual N x0 x1 x2 σ = some ρ) : Met l yX11_dual zs_X11_dual (zr 12) (va_Pc [.ref (o + x0), .int x1, .int x2] (zG D c o g σ)) (zQi D c o g ρ) 0 0 (zA o) := by
  refine zMetG (by decide) (Nat.le_of_ble_eq_true rfl) ?_
  intro p e s m below meth cd ⟨hx, hb, hr, hml, hown, hts, hlocks⟩ hP hK hE ls hl
  have hS : va_S (zA o) s.heap s.heap [] := va_S.rf
  have hl : lv_has ls 3 [(0, .ref (o + x0)), (1, .int x1), (2, .int x2)] := hl
  rw [f_X11_dual.eq_1] at h
  refine lv_aload_n (pc := 0) hx hb dX11_dual_0 rfl (lv_at hl 0 rfl) ?_
  refine lv_iload_n (pc := 1) hx hb dX11_dual_1 rfl (lv_at hl 1 rfl) ?_
  obtain ⟨_, hg, h⟩ := zl_some h
  obtain ⟨v1, σ2, hv, h⟩ := zb_some h
  refine xcallVi (pc := 2) (As := [.int x1]) (rest := []) ⟨hx, hb, hml, hown, hts⟩ (c_X11_isRegister l D c o g N hv) zc11 zV_X11_135 rfl zd_X11_isRegister ⟨Nat.le_of_ble_eq_true rfl, Nat.le_of_ble_eq_true rfl⟩ hK hP hE hS hg hl.1 rfl (Nat.le_of_ble_eq_true rfl) ⟨Nat.zero_le _, Nat.zero_le _⟩ dX11_dual_2 (fun H locs hP hS => ?_)
  refine lv_if_eq (pc := 5) (tgt := 16) hx hb dX11_dual_5 (by decide) (fun c1 => ?_) (fun c1 => ?_)
  · rw [if_pos c1] at h
    refine lv_bipush (pc := 16) (v := (-2)) hx hb dX11_dual_16 (by decide) ?_
    exact xreti (pc := 18) hx hb hr hlocks hP hK hE hS h dX11_dual_18
  · rw [if_neg c1] at h
    refine lv_aload_n (pc := 8) hx hb dX11_dual_8 rfl (lv_at hl 0 rfl) ?_
    refine lv_iload_n (pc := 9) hx hb dX11_dual_9 rfl (lv_at hl 2 rfl) ?_
    obtain ⟨_, hg, h⟩ := zl_some h
    obtain ⟨v3, σ4, hv, h⟩ := zb_some h
    refine xcallVi (pc := 10) (As := [.int x2]) (rest := []) ⟨hx, hb, hml, hown, hts⟩ (c_X11_isRegister l D c o g N hv) zc11 zV_X11_135 rfl zd_X11_isRegister ⟨Nat.le_of_ble_eq_true rfl, Nat.le_of_ble_eq_true rfl⟩ hK hP hE hS hg hl.1 rfl (Nat.le_of_ble_eq_true rfl) ⟨Nat.zero_le _, Nat.zero_le _⟩ dX11_dual_10 (fun H locs hP hS => ?_)
    refine lv_if_ne (pc := 13) (tgt := 19) hx hb dX11_dual_13 (by decide) (fun c1 => ?_) (fun c1 => ?_)
    · rw [if_neg c1] at h
      refine lv_aload_n (pc := 19) hx hb dX11_dual_19 rfl (lv_at hl 0 rfl) ?_
      obtain ⟨v5, hv, h⟩ := zl_some h
      refine xgR (pc := 20) (j := 17) zc11 hx hb hts hown hK hP hv rfl zf_X11_106 dX11_dual_20 ?_
      refine lv_aload_n (pc := 23) hx hb dX11_dual_23 rfl (lv_at hl 0 rfl) ?_
      obtain ⟨v6, hv, h⟩ := zl_some h
      refine xgR (pc := 24) (j := 4) zc11 hx hb hts hown hK hP hv rfl zf_X11_26 dX11_dual_24 ?_
      obtain ⟨v7, hv, h⟩ := zl_some h
      refine xgR (pc := 27) (j := 7) zc10 hx hb hts hown hK hP hv rfl zf_X11_146 dX11_dual_27 ?_
      refine lv_iload_n (pc := 30) hx hb dX11_dual_30 rfl (lv_at hl 2 rfl) ?_
      obtain ⟨v8, hv, h⟩ := zl_some h
      refine xaF (pc := 31) hx hb hK hP hv dX11_dual_31 ?_
      obtain ⟨_, hg, h⟩ := zl_some h
      obtain ⟨v9, σ10, hv, h⟩ := zb_some h
      refine xcallVv (pc := 32) (As := [.ref (o + v8)]) (rest := []) ⟨hx, hb, hml, hown, hts⟩ (c_X2_copyFrom l D c o g N hv) zc2 zV_X11_160 rfl zd_X2_copyFrom ⟨Nat.le_of_ble_eq_true rfl, Nat.le_of_ble_eq_true rfl⟩ hK hP hE hS hg hl.1 rfl (Nat.le_of_ble_eq_true rfl) ⟨Nat.zero_le _, Nat.zero_le _⟩ dX11_dual_32 (fun H locs hP hS => ?_)
      refine lv_aload_n (pc := 35) hx hb dX11_dual_35 rfl (lv_at hl 0 rfl) ?_
      obtain ⟨v11, hv, h⟩ := zl_some h
      refine xgR (pc := 36) (j := 11) zc11 hx hb hts hown hK hP hv rfl zf_X11_64 dX11_dual_36 ?_
      refine lv_iconst (pc := 39) (v := 2) hx hb dX11_dual_39 (by decide) ?_
      refine lv_aload_n (pc := 40) hx hb dX11_dual_40 rfl (lv_at hl 0 rfl) ?_
      obtain ⟨v12, hv, h⟩ := zl_some h
      refine xgR (pc := 41) (j := 17) zc11 hx hb hts hown hK hP hv rfl zf_X11_106 dX11_dual_41 ?_
      refine lv_aload_n (pc := 44) hx hb dX11_dual_44 rfl (lv_at hl 0 rfl) ?_
      obtain ⟨v13, hv, h⟩ := zl_some h
      refine xgR (pc := 45) (j := 4) zc11 hx hb hts hown hK hP hv rfl zf_X11_26 dX11_dual_45 ?_
      obtain ⟨v14, hv, h⟩ := zl_some h
      refine xgI (pc := 48) (j := 0) zc10 hx hb hts hown hK hP hv rfl zf_X11_139 dX11_dual_48 ?_
      obtain ⟨_, hg, h⟩ := zl_some h
      obtain ⟨v15, σ16, hv, h⟩ := zb_some h
      refine xcallVv (pc := 51) (As := [.int 2, .ref (o + v12), .int v14]) (rest := []) ⟨hx, hb, hml, hown, hts⟩ (c_X0_reshape l D c o g N hv) zc0 zV_X11_172 rfl zd_X0_reshape ⟨Nat.le_of_ble_eq_true rfl, Nat.le_of_ble_eq_true rfl⟩ hK hP hE hS hg hl.1 rfl (Nat.le_of_ble_eq_true rfl) ⟨Nat.zero_le _, Nat.zero_le _⟩ dX11_dual_51 (fun H locs hP hS => ?_)
      refine lv_aload_n (pc := 54) hx hb dX11_dual_54 rfl (lv_at hl 0 rfl) ?_
      obtain ⟨v17, hv, h⟩ := zl_some h
      refine xgR (pc := 55) (j := 18) zc11 hx hb hts hown hK hP hv rfl zf_X11_110 dX11_dual_55 ?_
      refine lv_aload_n (pc := 58) hx hb dX11_dual_58 rfl (lv_at hl 0 rfl) ?_
      obtain ⟨v18, hv, h⟩ := zl_some h
      refine xgR (pc := 59) (j := 4) zc11 hx hb hts hown hK hP hv rfl zf_X11_26 dX11_dual_59 ?_
      obtain ⟨v19, hv, h⟩ := zl_some h
      refine xgR (pc := 62) (j := 7) zc10 hx hb hts hown hK hP hv rfl zf_X11_146 dX11_dual_62 ?_
      refine lv_iload_n (pc := 65) hx hb dX11_dual_65 rfl (lv_at hl 1 rfl) ?_
      obtain ⟨v20, hv, h⟩ := zl_some h
      refine xaF (pc := 66) hx hb hK hP hv dX11_dual_66 ?_
      obtain ⟨_, hg, h⟩ := zl_some h
      obtain ⟨v21, σ22, hv, h⟩ := zb_some h
      refine xcallVv (pc := 67) (As := [.ref (o + v20)]) (rest := []) ⟨hx, hb, hml, hown, hts⟩ (c_X2_copyFrom l D c o g N hv) zc2 zV_X11_160 rfl zd_X2_copyFrom ⟨Nat.le_of_ble_eq_true rfl, Nat.le_of_ble_eq_true rfl⟩ hK hP hE hS hg hl.1 rfl (Nat.le_of_ble_eq_true rfl) ⟨Nat.zero_le _, Nat.zero_le _⟩ dX11_dual_67 (fun H locs hP hS => ?_)
      refine lv_aload_n (pc := 70) hx hb dX11_dual_70 rfl (lv_at hl 0 rfl) ?_
      obtain ⟨v23, hv, h⟩ := zl_some h
      refine xgR (pc := 71) (j := 11) zc11 hx hb hts hown hK hP hv rfl zf_X11_64 dX11_dual_71 ?_
      refine lv_iconst (pc := 74) (v := 2) hx hb dX11_dual_74 (by decide) ?_
      refine lv_aload_n (pc := 75) hx hb dX11_dual_75 rfl (lv_at hl 0 rfl) ?_
      obtain ⟨v24, hv, h⟩ := zl_some h
      refine xgR (pc := 76) (j := 18) zc11 hx hb hts hown hK hP hv rfl zf_X11_110 dX11_dual_76 ?_
      refine lv_aload_n (pc := 79) hx hb dX11_dual_79 rfl (lv_at hl 0 rfl) ?_
      obtain ⟨v25, hv, h⟩ := zl_some h
      refine xgR (pc := 80) (j := 4) zc11 hx hb hts hown hK hP hv rfl zf_X11_26 dX11_dual_80 ?_
      obtain ⟨v26, hv, h⟩ := zl_some h
      refine xgI (pc := 83) (j := 0) zc10 hx hb hts hown hK hP hv rfl zf_X11_139 dX11_dual_83 ?_
      obtain ⟨_, hg, h⟩ := zl_some h
      obtain ⟨v27, σ28, hv, h⟩ := zb_some h
      refine xcallVv (pc := 86) (As := [.int 2, .ref (o + v24), .int v26]) (rest := []) ⟨hx, hb, hml, hown, hts⟩ (c_X0_reshape l D c o g N hv) zc0 zV_X11_172 rfl zd_X0_reshape ⟨Nat.le_of_ble_eq_true rfl, Nat.le_of_ble_eq_true rfl⟩ hK hP hE hS hg hl.1 rfl (Nat.le_of_ble_eq_true rfl) ⟨Nat.zero_le _, Nat.zero_le _⟩ dX11_dual_86 (fun H locs hP hS => ?_)
      refine lv_aload_n (pc := 89) hx hb dX11_dual_89 rfl (lv_at hl 0 rfl) ?_
      obtain ⟨v29, hv, h⟩ := zl_some h
      refine xgR (pc := 90) (j := 17) zc11 hx hb hts hown hK hP hv rfl zf_X11_106 dX11_dual_90 ?_
      refine lv_aload_n (pc := 93) hx hb dX11_dual_93 rfl (lv_at hl 0 rfl) ?_
      obtain ⟨v30, hv, h⟩ := zl_some h
      refine xgR (pc := 94) (j := 4) zc11 hx hb hts hown hK hP hv rfl zf_X11_26 dX11_dual_94 ?_
      obtain ⟨v31, hv, h⟩ := zl_some h
      refine xgR (pc := 97) (j := 7) zc10 hx hb hts hown hK hP hv rfl zf_X11_146 dX11_dual_97 ?_
      refine lv_iload_n (pc := 100) hx hb dX11_dual_100 rfl (lv_at hl 1 rfl) ?_
      obtain ⟨v32, hv, h⟩ := zl_some h
      refine xaF (pc := 101) hx hb hK hP hv dX11_dual_101 ?_
      obtain ⟨_, hg, h⟩ := zl_some h
      obtain ⟨v33, σ34, hv, h⟩ := zb_some h
      refine xcallVi (pc := 102) (As := [.ref (o + v32)]) (rest := []) ⟨hx, hb, hml, hown, hts⟩ (c_X2_sameAs l D c o g N hv) zc2 zV_X11_230 rfl zd_X2_sameAs ⟨Nat.le_of_ble_eq_true rfl, Nat.le_of_ble_eq_true rfl⟩ hK hP hE hS hg hl.1 rfl (Nat.le_of_ble_eq_true rfl) ⟨Nat.zero_le _, Nat.zero_le _⟩ dX11_dual_102 (fun H locs hP hS => ?_)
      refine lv_if_eq (pc := 105) (tgt := 131) hx hb dX11_dual_105 (by decide) (fun c1 => ?_) (fun c1 => ?_)
      · rw [if_pos c1] at h
        refine lv_iconst (pc := 131) (v := 0) hx hb dX11_dual_131 (by decide) ?_
        exact xreti (pc := 132) hx hb hr hlocks hP hK hE hS h dX11_dual_132
      · rw [if_neg c1] at h
        refine lv_aload_n (pc := 108) hx hb dX11_dual_108 rfl (lv_at hl 0 rfl) ?_
        obtain ⟨v35, hv, h⟩ := zl_some h
        refine xgR (pc := 109) (j := 18) zc11 hx hb hts hown hK hP hv rfl zf_X11_110 dX11_dual_109 ?_
        refine lv_aload_n (pc := 112) hx hb dX11_dual_112 rfl (lv_at hl 0 rfl) ?_
        obtain ⟨v36, hv, h⟩ := zl_some h
        refine xgR (pc := 113) (j := 4) zc11 hx hb hts hown hK hP hv rfl zf_X11_26 dX11_dual_113 ?_
        obtain ⟨v37, hv, h⟩ := zl_some h
        refine xgR (pc := 116) (j := 7) zc10 hx hb hts hown hK hP hv rfl zf_X11_146 dX11_dual_116 ?_
        refine lv_iload_n (pc := 119) hx hb dX11_dual_119 rfl (lv_at hl 2 rfl) ?_
        obtain ⟨v38, hv, h⟩ := zl_some h
        refine xaF (pc := 120) hx hb hK hP hv dX11_dual_120 ?_
        obtain ⟨_, hg, h⟩ := zl_some h
        obtain ⟨v39, σ40, hv, h⟩ := zb_some h
        refine xcallVi (pc := 121) (As := [.ref (o + v38)]) (rest := []) ⟨hx, hb, hml, hown, hts⟩ (c_X2_sameAs l D c o g N hv) zc2 zV_X11_230 rfl zd_X2_sameAs ⟨Nat.le_of_ble_eq_true rfl, Nat.le_of_ble_eq_true rfl⟩ hK hP hE hS hg hl.1 rfl (Nat.le_of_ble_eq_true rfl) ⟨Nat.zero_le _, Nat.zero_le _⟩ dX11_dual_121 (fun H locs hP hS => ?_)
        refine lv_if_eq (pc := 124) (tgt := 131) hx hb dX11_dual_124 (by decide) (fun c1 => ?_) (fun c1 => ?_)
        · rw [if_pos c1] at h
          refine lv_iconst (pc := 131) (v := 0) hx hb dX11_dual_131 (by decide) ?_
          exact xreti (pc := 132) hx hb hr hlocks hP hK hE hS h dX11_dual_132
        · rw [if_neg c1] at h
          refine lv_iconst (pc := 127) (v := 1) hx hb dX11_dual_127 (by decide) ?_
          refine lv_goto (pc := 128) (tgt := 132) hx hb dX11_dual_128 (by decide) ?_
          exact xreti (pc := 132) hx hb hr hlocks hP hK hE hS h dX11_dual_132
    · rw [if_pos c1] at h
      refine lv_bipush (pc := 16) (v := (-2)) hx hb dX11_dual_16 (by decide) ?_
      exact xreti (pc := 18) hx hb hr hlocks hP hK hE hS h dX11_dual_18
def f_X11_apart (N : Nat) (x0 : Nat) (x1 : Int32) (x2 : Int32) (σ : zS) : Option (Int32 × zS) :=
  zl (gC 11 x0) fun _ => zb (f_X11_isRegister N x0 x1 σ) fun v1 σ2 =>
  if v1 = 0 then
    (some ((-2), σ2))
  else
    (zl (gC 11 x0) fun _ => zb (f_X11_isRegister N x0 x2 σ2) fun v3 σ4 =>
    if v3 = 0 then
      (some ((-2), σ4))
    else
      (zl (gR 11 11 x0 σ4) fun v5 =>
      zl (gR 11 4 x0 σ4) fun v6 =>
      zl (gR 10 7 v6 σ4) fun v7 =>
      zl (aR 17 v7 x1 σ4) fun v8 =>
      zl (gR 11 4 x0 σ4) fun v9 =>
      zl (gR 10 7 v9 σ4) fun v10 =>
      zl (aR 17 v10 x2 σ4) fun v11 =>
      zl (gR 11 4 x0 σ4) fun v12 =>
      zl (gI 10 0 v12 σ4) fun v13 =>
      zl (gC 0 v5) fun _ => zb (f_X0_disjointPairs N v5 v8 v11 v13 σ4) fun v14 σ15 =>
      some (v14, σ15)))
set_option maxHeartbeats 4000000 in
set_option maxRecDepth 100000 in
theorem c_X11_apart (l : Launch) (D : va_G) (c : zC) (o : Nat) (g : zEp) (N : Nat) {x0 : Nat} {x1 : Int32} {x2 : Int32} {σ : zS} {ρ : Int32 × zS} (h : f_X11_apart N x0 x1 x2 σ = some ρ) : Met l yX11_apart zs_X11_apart (zr 8) (va_Pc [.ref (o + x0), .int x1, .int x2] (zG D c o g σ)) (zQi D c o g ρ) 0 0 (zA o) := by
  refine zMetG (by decide) (Nat.le_of_ble_eq_true rfl) ?_
  intro p e s m below meth cd ⟨hx, hb, hr, hml, hown, hts, hlocks⟩ hP hK hE ls hl
  have hS : va_S (zA o) s.heap s.heap [] := va_S.rf
  have hl : lv_has ls 3 [(0, .ref (o + x0)), (1, .int x1), (2, .int x2)] := hl
  rw [f_X11_apart.eq_1] at h
  refine lv_aload_n (pc := 0) hx hb dX11_apart_0 rfl (lv_at hl 0 rfl) ?_
  refine lv_iload_n (pc := 1) hx hb dX11_apart_1 rfl (lv_at hl 1 rfl) ?_
  obtain ⟨_, hg, h⟩ := zl_some h
  obtain ⟨v1, σ2, hv, h⟩ := zb_some h
  refine xcallVi (pc := 2) (As := [.int x1]) (rest := []) ⟨hx, hb, hml, hown, hts⟩ (c_X11_isRegister l D c o g N hv) zc11 zV_X11_135 rfl zd_X11_isRegister ⟨Nat.le_of_ble_eq_true rfl, Nat.le_of_ble_eq_true rfl⟩ hK hP hE hS hg hl.1 rfl (Nat.le_of_ble_eq_true rfl) ⟨Nat.zero_le _, Nat.zero_le _⟩ dX11_apart_2 (fun H locs hP hS => ?_)
  refine lv_if_eq (pc := 5) (tgt := 16) hx hb dX11_apart_5 (by decide) (fun c1 => ?_) (fun c1 => ?_)
  · rw [if_pos c1] at h
    refine lv_bipush (pc := 16) (v := (-2)) hx hb dX11_apart_16 (by decide) ?_
    exact xreti (pc := 18) hx hb hr hlocks hP hK hE hS h dX11_apart_18
  · rw [if_neg c1] at h
    refine lv_aload_n (pc := 8) hx hb dX11_apart_8 rfl (lv_at hl 0 rfl) ?_
    refine lv_iload_n (pc := 9) hx hb dX11_apart_9 rfl (lv_at hl 2 rfl) ?_
    obtain ⟨_, hg, h⟩ := zl_some h
    obtain ⟨v3, σ4, hv, h⟩ := zb_some h
    refine xcallVi (pc := 10) (As := [.int x2]) (rest := []) ⟨hx, hb, hml, hown, hts⟩ (c_X11_isRegister l D c o g N hv) zc11 zV_X11_135 rfl zd_X11_isRegister ⟨Nat.le_of_ble_eq_true rfl, Nat.le_of_ble_eq_true rfl⟩ hK hP hE hS hg hl.1 rfl (Nat.le_of_ble_eq_true rfl) ⟨Nat.zero_le _, Nat.zero_le _⟩ dX11_apart_10 (fun H locs hP hS => ?_)
    refine lv_if_ne (pc := 13) (tgt := 19) hx hb dX11_apart_13 (by decide) (fun c1 => ?_) (fun c1 => ?_)
    · rw [if_neg c1] at h
      refine lv_aload_n (pc := 19) hx hb dX11_apart_19 rfl (lv_at hl 0 rfl) ?_
      obtain ⟨v5, hv, h⟩ := zl_some h
      refine xgR (pc := 20) (j := 11) zc11 hx hb hts hown hK hP hv rfl zf_X11_64 dX11_apart_20 ?_
      refine lv_aload_n (pc := 23) hx hb dX11_apart_23 rfl (lv_at hl 0 rfl) ?_
      obtain ⟨v6, hv, h⟩ := zl_some h
      refine xgR (pc := 24) (j := 4) zc11 hx hb hts hown hK hP hv rfl zf_X11_26 dX11_apart_24 ?_
      obtain ⟨v7, hv, h⟩ := zl_some h
      refine xgR (pc := 27) (j := 7) zc10 hx hb hts hown hK hP hv rfl zf_X11_146 dX11_apart_27 ?_
      refine lv_iload_n (pc := 30) hx hb dX11_apart_30 rfl (lv_at hl 1 rfl) ?_
      obtain ⟨v8, hv, h⟩ := zl_some h
      refine xaF (pc := 31) hx hb hK hP hv dX11_apart_31 ?_
      refine lv_aload_n (pc := 32) hx hb dX11_apart_32 rfl (lv_at hl 0 rfl) ?_
      obtain ⟨v9, hv, h⟩ := zl_some h
      refine xgR (pc := 33) (j := 4) zc11 hx hb hts hown hK hP hv rfl zf_X11_26 dX11_apart_33 ?_
      obtain ⟨v10, hv, h⟩ := zl_some h
      refine xgR (pc := 36) (j := 7) zc10 hx hb hts hown hK hP hv rfl zf_X11_146 dX11_apart_36 ?_
      refine lv_iload_n (pc := 39) hx hb dX11_apart_39 rfl (lv_at hl 2 rfl) ?_
      obtain ⟨v11, hv, h⟩ := zl_some h
      refine xaF (pc := 40) hx hb hK hP hv dX11_apart_40 ?_
      refine lv_aload_n (pc := 41) hx hb dX11_apart_41 rfl (lv_at hl 0 rfl) ?_
      obtain ⟨v12, hv, h⟩ := zl_some h
      refine xgR (pc := 42) (j := 4) zc11 hx hb hts hown hK hP hv rfl zf_X11_26 dX11_apart_42 ?_
      obtain ⟨v13, hv, h⟩ := zl_some h
      refine xgI (pc := 45) (j := 0) zc10 hx hb hts hown hK hP hv rfl zf_X11_139 dX11_apart_45 ?_
      obtain ⟨_, hg, h⟩ := zl_some h
      obtain ⟨v14, σ15, hv, h⟩ := zb_some h
      refine xcallVi (pc := 48) (As := [.ref (o + v8), .ref (o + v11), .int v13]) (rest := []) ⟨hx, hb, hml, hown, hts⟩ (c_X0_disjointPairs l D c o g N hv) zc0 zV_X11_244 rfl zd_X0_disjointPairs ⟨Nat.le_of_ble_eq_true rfl, Nat.le_of_ble_eq_true rfl⟩ hK hP hE hS hg hl.1 rfl (Nat.le_of_ble_eq_true rfl) ⟨Nat.zero_le _, Nat.zero_le _⟩ dX11_apart_48 (fun H locs hP hS => ?_)
      exact xreti (pc := 51) hx hb hr hlocks hP hK hE hS h dX11_apart_51
    · rw [if_pos c1] at h
      refine lv_bipush (pc := 16) (v := (-2)) hx hb dX11_apart_16 (by decide) ?_
      exact xreti (pc := 18) hx hb hr hlocks hP hK hE hS h dX11_apart_18
def f_X11_packs (N : Nat) (x0 : Nat) (x1 : Int32) (x2 : Int32) (σ : zS) : Option (Int32 × zS) :=
  zl (gC 11 x0) fun _ => zb (f_X11_isRegister N x0 x1 σ) fun v1 σ2 =>
  if v1 = 0 then
    (some ((-2), σ2))
  else
    (if x2 < 0 then
      (some ((-2), σ2))
    else
      (if x2 ≤ 1 then
        (zl (gR 11 4 x0 σ2) fun v3 =>
        zl (gR 10 7 v3 σ2) fun v4 =>
        zl (aR 17 v4 x1 σ2) fun v5 =>
        zl (gC 2 v5) fun _ => zb (f_X2_tally N v5 σ2) fun v6 σ7 =>
        if v6 = 0 then
          (some ((-1), σ7))
        else
          (if v6 ≤ 12 then
            (zl (gR 11 16 x0 σ7) fun v8 =>
            zl (gC 4 v8) fun _ => zb (f_X4_load N v8 v5 σ7) fun v9 σ10 =>
            if x2 = 0 then
              (zl (gR 11 16 x0 σ10) fun v11 =>
              zl (gC 4 v11) fun _ => zb (f_X4_fewestForAll N v11 σ10) fun v12 σ13 =>
              some (v12, σ13))
            else
              (zl (gR 11 16 x0 σ10) fun v14 =>
              zl (gC 4 v14) fun _ => zb (f_X4_mostDisjoint N v14 σ10) fun v15 σ16 =>
              some (v15, σ16)))
          else
            (some ((-3), σ7))))
      else
        (some ((-2), σ2))))
set_option maxHeartbeats 4000000 in
set_option maxRecDepth 100000 in
theorem c_X11_packs (l : Launch) (D : va_G) (c : zC) (o : Nat) (g : zEp) (N : Nat) {x0 : Nat} {x1 : Int32} {x2 : Int32} {σ : zS} {ρ : Int32 × zS} (h : f_X11_packs N x0 x1 x2 σ = some ρ) : Met l yX11_packs zs_X11_packs (zr 20) (va_Pc [.ref (o + x0), .int x1, .int x2] (zG D c o g σ)) (zQi D c o g ρ) 0 0 (zA o) := by
  refine zMetG (by decide) (Nat.le_of_ble_eq_true rfl) ?_
  intro p e s m below meth cd ⟨hx, hb, hr, hml, hown, hts, hlocks⟩ hP hK hE ls hl
  have hS : va_S (zA o) s.heap s.heap [] := va_S.rf
  have hl : lv_has ls 5 [(0, .ref (o + x0)), (1, .int x1), (2, .int x2)] := hl
  rw [f_X11_packs.eq_1] at h
  refine lv_aload_n (pc := 0) hx hb dX11_packs_0 rfl (lv_at hl 0 rfl) ?_
  refine lv_iload_n (pc := 1) hx hb dX11_packs_1 rfl (lv_at hl 1 rfl) ?_
  obtain ⟨_, hg, h⟩ := zl_some h
  obtain ⟨v1, σ2, hv, h⟩ := zb_some h
  refine xcallVi (pc := 2) (As := [.int x1]) (rest := []) ⟨hx, hb, hml, hown, hts⟩ (c_X11_isRegister l D c o g N hv) zc11 zV_X11_135 rfl zd_X11_isRegister ⟨Nat.le_of_ble_eq_true rfl, Nat.le_of_ble_eq_true rfl⟩ hK hP hE hS hg hl.1 rfl (Nat.le_of_ble_eq_true rfl) ⟨Nat.zero_le _, Nat.zero_le _⟩ dX11_packs_2 (fun H locs hP hS => ?_)
  refine lv_if_eq (pc := 5) (tgt := 17) hx hb dX11_packs_5 (by decide) (fun c1 => ?_) (fun c1 => ?_)
  · rw [if_pos c1] at h
    refine lv_bipush (pc := 17) (v := (-2)) hx hb dX11_packs_17 (by decide) ?_
    exact xreti (pc := 19) hx hb hr hlocks hP hK hE hS h dX11_packs_19
  · rw [if_neg c1] at h
    refine lv_iload_n (pc := 8) hx hb dX11_packs_8 rfl (lv_at hl 2 rfl) ?_
    refine lv_if_lt (pc := 9) (tgt := 17) hx hb dX11_packs_9 (by decide) (fun c1 => ?_) (fun c1 => ?_)
    · rw [if_pos c1] at h
      refine lv_bipush (pc := 17) (v := (-2)) hx hb dX11_packs_17 (by decide) ?_
      exact xreti (pc := 19) hx hb hr hlocks hP hK hE hS h dX11_packs_19
    · rw [if_neg c1] at h
      refine lv_iload_n (pc := 12) hx hb dX11_packs_12 rfl (lv_at hl 2 rfl) ?_
      refine lv_iconst (pc := 13) (v := 1) hx hb dX11_packs_13 (by decide) ?_
      refine lv_icmp_le (pc := 14) (tgt := 20) hx hb dX11_packs_14 (by decide) (fun c1 => ?_) (fun c1 => ?_)
      · rw [if_pos c1] at h
        refine lv_aload_n (pc := 20) hx hb dX11_packs_20 rfl (lv_at hl 0 rfl) ?_
        obtain ⟨v3, hv, h⟩ := zl_some h
        refine xgR (pc := 21) (j := 4) zc11 hx hb hts hown hK hP hv rfl zf_X11_26 dX11_packs_21 ?_
        obtain ⟨v4, hv, h⟩ := zl_some h
        refine xgR (pc := 24) (j := 7) zc10 hx hb hts hown hK hP hv rfl zf_X11_146 dX11_packs_24 ?_
        refine lv_iload_n (pc := 27) hx hb dX11_packs_27 rfl (lv_at hl 1 rfl) ?_
        obtain ⟨v5, hv, h⟩ := zl_some h
        refine xaF (pc := 28) hx hb hK hP hv dX11_packs_28 ?_
        refine lv_astore_n (pc := 29) (lv' := [(3, .ref (o + v5)), (0, .ref (o + x0)), (1, .int x1), (2, .int x2)]) hx hb dX11_packs_29 rfl hl (by decide) rfl (fun ls hl => ?_)
        refine lv_aload_n (pc := 30) hx hb dX11_packs_30 rfl (lv_at hl 0 rfl) ?_
        obtain ⟨_, hg, h⟩ := zl_some h
        obtain ⟨v6, σ7, hv, h⟩ := zb_some h
        refine xcallVi (pc := 31) (As := []) (rest := []) ⟨hx, hb, hml, hown, hts⟩ (c_X2_tally l D c o g N hv) zc2 zV_X11_150 rfl zd_X2_tally ⟨Nat.le_of_ble_eq_true rfl, Nat.le_of_ble_eq_true rfl⟩ hK hP hE hS hg hl.1 rfl (Nat.le_of_ble_eq_true rfl) ⟨Nat.zero_le _, Nat.zero_le _⟩ dX11_packs_31 (fun H locs hP hS => ?_)
        refine lv_istore (pc := 34) (lv' := [(4, .int v6), (3, .ref (o + v5)), (0, .ref (o + x0)), (1, .int x1), (2, .int x2)]) hx hb dX11_packs_34 hl (by decide) rfl (fun ls hl => ?_)
        refine lv_iload (pc := 36) hx hb dX11_packs_36 (lv_at hl 0 rfl) ?_
        refine lv_if_ne (pc := 38) (tgt := 43) hx hb dX11_packs_38 (by decide) (fun c1 => ?_) (fun c1 => ?_)
        · rw [if_neg c1] at h
          refine lv_iload (pc := 43) hx hb dX11_packs_43 (lv_at hl 0 rfl) ?_
          refine lv_bipush (pc := 45) (v := 12) hx hb dX11_packs_45 (by decide) ?_
          refine lv_icmp_le (pc := 47) (tgt := 53) hx hb dX11_packs_47 (by decide) (fun c1 => ?_) (fun c1 => ?_)
          · rw [if_pos c1] at h
            refine lv_aload_n (pc := 53) hx hb dX11_packs_53 rfl (lv_at hl 2 rfl) ?_
            obtain ⟨v8, hv, h⟩ := zl_some h
            refine xgR (pc := 54) (j := 16) zc11 hx hb hts hown hK hP hv rfl zf_X11_99 dX11_packs_54 ?_
            refine lv_aload_n (pc := 57) hx hb dX11_packs_57 rfl (lv_at hl 1 rfl) ?_
            obtain ⟨_, hg, h⟩ := zl_some h
            obtain ⟨v9, σ10, hv, h⟩ := zb_some h
            refine xcallVv (pc := 58) (As := [.ref (o + v5)]) (rest := []) ⟨hx, hb, hml, hown, hts⟩ (c_X4_load l D c o g N hv) zc4 zV_X11_248 rfl zd_X4_load ⟨Nat.le_of_ble_eq_true rfl, Nat.le_of_ble_eq_true rfl⟩ hK hP hE hS hg hl.1 rfl (Nat.le_of_ble_eq_true rfl) ⟨Nat.zero_le _, Nat.zero_le _⟩ dX11_packs_58 (fun H locs hP hS => ?_)
            refine lv_iload_n (pc := 61) hx hb dX11_packs_61 rfl (lv_at hl 4 rfl) ?_
            refine lv_if_ne (pc := 62) (tgt := 75) hx hb dX11_packs_62 (by decide) (fun c1 => ?_) (fun c1 => ?_)
            · rw [if_neg c1] at h
              refine lv_aload_n (pc := 75) hx hb dX11_packs_75 rfl (lv_at hl 2 rfl) ?_
              obtain ⟨v11, hv, h⟩ := zl_some h
              refine xgR (pc := 76) (j := 16) zc11 hx hb hts hown hK hP hv rfl zf_X11_99 dX11_packs_76 ?_
              obtain ⟨_, hg, h⟩ := zl_some h
              obtain ⟨v12, σ13, hv, h⟩ := zb_some h
              refine xcallVi (pc := 79) (As := []) (rest := []) ⟨hx, hb, hml, hown, hts⟩ (c_X4_mostDisjoint l D c o g N hv) zc4 zV_X11_253 rfl zd_X4_mostDisjoint ⟨Nat.le_of_ble_eq_true rfl, Nat.le_of_ble_eq_true rfl⟩ hK hP hE hS hg hl.1 rfl (Nat.le_of_ble_eq_true rfl) ⟨Nat.zero_le _, Nat.zero_le _⟩ dX11_packs_79 (fun H locs hP hS => ?_)
              exact xreti (pc := 82) hx hb hr hlocks hP hK hE hS h dX11_packs_82
            · rw [if_pos c1] at h
              refine lv_aload_n (pc := 65) hx hb dX11_packs_65 rfl (lv_at hl 2 rfl) ?_
              obtain ⟨v14, hv, h⟩ := zl_some h
              refine xgR (pc := 66) (j := 16) zc11 hx hb hts hown hK hP hv rfl zf_X11_99 dX11_packs_66 ?_
              obtain ⟨_, hg, h⟩ := zl_some h
              obtain ⟨v15, σ16, hv, h⟩ := zb_some h
              refine xcallVi (pc := 69) (As := []) (rest := []) ⟨hx, hb, hml, hown, hts⟩ (c_X4_fewestForAll l D c o g N hv) zc4 zV_X11_250 rfl zd_X4_fewestForAll ⟨Nat.le_of_ble_eq_true rfl, Nat.le_of_ble_eq_true rfl⟩ hK hP hE hS hg hl.1 rfl (Nat.le_of_ble_eq_true rfl) ⟨Nat.zero_le _, Nat.zero_le _⟩ dX11_packs_69 (fun H locs hP hS => ?_)
              refine lv_goto (pc := 72) (tgt := 82) hx hb dX11_packs_72 (by decide) ?_
              exact xreti (pc := 82) hx hb hr hlocks hP hK hE hS h dX11_packs_82
          · rw [if_neg c1] at h
            refine lv_bipush (pc := 50) (v := (-3)) hx hb dX11_packs_50 (by decide) ?_
            exact xreti (pc := 52) hx hb hr hlocks hP hK hE hS h dX11_packs_52
        · rw [if_pos c1] at h
          refine lv_iconst (pc := 41) (v := (-1)) hx hb dX11_packs_41 (by decide) ?_
          exact xreti (pc := 42) hx hb hr hlocks hP hK hE hS h dX11_packs_42
      · rw [if_neg c1] at h
        refine lv_bipush (pc := 17) (v := (-2)) hx hb dX11_packs_17 (by decide) ?_
        exact xreti (pc := 19) hx hb hr hlocks hP hK hE hS h dX11_packs_19
def f_X11_nodes (N : Nat) (x0 : Nat) (x1 : Int32) (σ : zS) : Option (Int32 × zS) :=
  zl (gC 11 x0) fun _ => zb (f_X11_isRegister N x0 x1 σ) fun v1 σ2 =>
  if v1 = 0 then
    (some ((-2), σ2))
  else
    (zl (gR 11 13 x0 σ2) fun v3 =>
    zl (gR 11 4 x0 σ2) fun v4 =>
    zl (gR 11 4 x0 σ2) fun v5 =>
    zl (gR 10 7 v5 σ2) fun v6 =>
    zl (aR 17 v6 x1 σ2) fun v7 =>
    zl (gC 1 v3) fun _ => zb (f_X1_tallyOf N v3 v4 v7 σ2) fun v8 σ9 =>
    some (v8, σ9))
set_option maxHeartbeats 4000000 in
set_option maxRecDepth 100000 in
theorem c_X11_nodes (l : Launch) (D : va_G) (c : zC) (o : Nat) (g : zEp) (N : Nat) {x0 : Nat} {x1 : Int32} {σ : zS} {ρ : Int32 × zS} (h : f_X11_nodes N x0 x1 σ = some ρ) : Met l yX11_nodes zs_X11_nodes (zr 10) (va_Pc [.ref (o + x0), .int x1] (zG D c o g σ)) (zQi D c o g ρ) 0 0 (zA o) := by
  refine zMetG (by decide) (Nat.le_of_ble_eq_true rfl) ?_
  intro p e s m below meth cd ⟨hx, hb, hr, hml, hown, hts, hlocks⟩ hP hK hE ls hl
  have hS : va_S (zA o) s.heap s.heap [] := va_S.rf
  have hl : lv_has ls 2 [(0, .ref (o + x0)), (1, .int x1)] := hl
  rw [f_X11_nodes.eq_1] at h
  refine lv_aload_n (pc := 0) hx hb dX11_nodes_0 rfl (lv_at hl 0 rfl) ?_
  refine lv_iload_n (pc := 1) hx hb dX11_nodes_1 rfl (lv_at hl 1 rfl) ?_
  obtain ⟨_, hg, h⟩ := zl_some h
  obtain ⟨v1, σ2, hv, h⟩ := zb_some h
  refine xcallVi (pc := 2) (As := [.int x1]) (rest := []) ⟨hx, hb, hml, hown, hts⟩ (c_X11_isRegister l D c o g N hv) zc11 zV_X11_135 rfl zd_X11_isRegister ⟨Nat.le_of_ble_eq_true rfl, Nat.le_of_ble_eq_true rfl⟩ hK hP hE hS hg hl.1 rfl (Nat.le_of_ble_eq_true rfl) ⟨Nat.zero_le _, Nat.zero_le _⟩ dX11_nodes_2 (fun H locs hP hS => ?_)
  refine lv_if_eq (pc := 5) (tgt := 31) hx hb dX11_nodes_5 (by decide) (fun c1 => ?_) (fun c1 => ?_)
  · rw [if_pos c1] at h
    refine lv_bipush (pc := 31) (v := (-2)) hx hb dX11_nodes_31 (by decide) ?_
    exact xreti (pc := 33) hx hb hr hlocks hP hK hE hS h dX11_nodes_33
  · rw [if_neg c1] at h
    refine lv_aload_n (pc := 8) hx hb dX11_nodes_8 rfl (lv_at hl 0 rfl) ?_
    obtain ⟨v3, hv, h⟩ := zl_some h
    refine xgR (pc := 9) (j := 13) zc11 hx hb hts hown hK hP hv rfl zf_X11_78 dX11_nodes_9 ?_
    refine lv_aload_n (pc := 12) hx hb dX11_nodes_12 rfl (lv_at hl 0 rfl) ?_
    obtain ⟨v4, hv, h⟩ := zl_some h
    refine xgR (pc := 13) (j := 4) zc11 hx hb hts hown hK hP hv rfl zf_X11_26 dX11_nodes_13 ?_
    refine lv_aload_n (pc := 16) hx hb dX11_nodes_16 rfl (lv_at hl 0 rfl) ?_
    obtain ⟨v5, hv, h⟩ := zl_some h
    refine xgR (pc := 17) (j := 4) zc11 hx hb hts hown hK hP hv rfl zf_X11_26 dX11_nodes_17 ?_
    obtain ⟨v6, hv, h⟩ := zl_some h
    refine xgR (pc := 20) (j := 7) zc10 hx hb hts hown hK hP hv rfl zf_X11_146 dX11_nodes_20 ?_
    refine lv_iload_n (pc := 23) hx hb dX11_nodes_23 rfl (lv_at hl 1 rfl) ?_
    obtain ⟨v7, hv, h⟩ := zl_some h
    refine xaF (pc := 24) hx hb hK hP hv dX11_nodes_24 ?_
    obtain ⟨_, hg, h⟩ := zl_some h
    obtain ⟨v8, σ9, hv, h⟩ := zb_some h
    refine xcallVi (pc := 25) (As := [.ref (o + v4), .ref (o + v7)]) (rest := []) ⟨hx, hb, hml, hown, hts⟩ (c_X1_tallyOf l D c o g N hv) zc1 zV_X11_256 rfl zd_X1_tallyOf ⟨Nat.le_of_ble_eq_true rfl, Nat.le_of_ble_eq_true rfl⟩ hK hP hE hS hg hl.1 rfl (Nat.le_of_ble_eq_true rfl) ⟨Nat.zero_le _, Nat.zero_le _⟩ dX11_nodes_25 (fun H locs hP hS => ?_)
    refine lv_goto (pc := 28) (tgt := 33) hx hb dX11_nodes_28 (by decide) ?_
    exact xreti (pc := 33) hx hb hr hlocks hP hK hE hS h dX11_nodes_33
def f_X11_net (N : Nat) (x0 : Nat) (σ : zS) : Option (Int32 × zS) :=
  zl (gC 11 x0) fun _ => zb (f_X11_isWorld N x0 σ) fun v1 σ2 =>
  if v1 = 0 then
    (some ((-2), σ2))
  else
    (zl (gR 11 13 x0 σ2) fun v3 =>
    zl (gR 11 4 x0 σ2) fun v4 =>
    zl (gC 1 v3) fun _ => zb (f_X1_tallyOfAll N v3 v4 σ2) fun v5 σ6 =>
    some (v5, σ6))
set_option maxHeartbeats 4000000 in
set_option maxRecDepth 100000 in
theorem c_X11_net (l : Launch) (D : va_G) (c : zC) (o : Nat) (g : zEp) (N : Nat) {x0 : Nat} {σ : zS} {ρ : Int32 × zS} (h : f_X11_net N x0 σ = some ρ) : Met l yX11_net zs_X11_net (zr 10) (va_Pc [.ref (o + x0)] (zG D c o g σ)) (zQi D c o g ρ) 0 0 (zA o) := by
  refine zMetG (by decide) (Nat.le_of_ble_eq_true rfl) ?_
  intro p e s m below meth cd ⟨hx, hb, hr, hml, hown, hts, hlocks⟩ hP hK hE ls hl
  have hS : va_S (zA o) s.heap s.heap [] := va_S.rf
  have hl : lv_has ls 1 [(0, .ref (o + x0))] := hl
  rw [f_X11_net.eq_1] at h
  refine lv_aload_n (pc := 0) hx hb dX11_net_0 rfl (lv_at hl 0 rfl) ?_
  obtain ⟨_, hg, h⟩ := zl_some h
  obtain ⟨v1, σ2, hv, h⟩ := zb_some h
  refine xcallVi (pc := 1) (As := []) (rest := []) ⟨hx, hb, hml, hown, hts⟩ (c_X11_isWorld l D c o g N hv) zc11 zV_X11_260 rfl zd_X11_isWorld ⟨Nat.le_of_ble_eq_true rfl, Nat.le_of_ble_eq_true rfl⟩ hK hP hE hS hg hl.1 rfl (Nat.le_of_ble_eq_true rfl) ⟨Nat.zero_le _, Nat.zero_le _⟩ dX11_net_1 (fun H locs hP hS => ?_)
  refine lv_if_eq (pc := 4) (tgt := 21) hx hb dX11_net_4 (by decide) (fun c1 => ?_) (fun c1 => ?_)
  · rw [if_pos c1] at h
    refine lv_bipush (pc := 21) (v := (-2)) hx hb dX11_net_21 (by decide) ?_
    exact xreti (pc := 23) hx hb hr hlocks hP hK hE hS h dX11_net_23
  · rw [if_neg c1] at h
    refine lv_aload_n (pc := 7) hx hb dX11_net_7 rfl (lv_at hl 0 rfl) ?_
    obtain ⟨v3, hv, h⟩ := zl_some h
    refine xgR (pc := 8) (j := 13) zc11 hx hb hts hown hK hP hv rfl zf_X11_78 dX11_net_8 ?_
    refine lv_aload_n (pc := 11) hx hb dX11_net_11 rfl (lv_at hl 0 rfl) ?_
    obtain ⟨v4, hv, h⟩ := zl_some h
    refine xgR (pc := 12) (j := 4) zc11 hx hb hts hown hK hP hv rfl zf_X11_26 dX11_net_12 ?_
    obtain ⟨_, hg, h⟩ := zl_some h
    obtain ⟨v5, σ6, hv, h⟩ := zb_some h
    refine xcallVi (pc := 15) (As := [.ref (o + v4)]) (rest := []) ⟨hx, hb, hml, hown, hts⟩ (c_X1_tallyOfAll l D c o g N hv) zc1 zV_X11_263 rfl zd_X1_tallyOfAll ⟨Nat.le_of_ble_eq_true rfl, Nat.le_of_ble_eq_true rfl⟩ hK hP hE hS hg hl.1 rfl (Nat.le_of_ble_eq_true rfl) ⟨Nat.zero_le _, Nat.zero_le _⟩ dX11_net_15 (fun H locs hP hS => ?_)
    refine lv_goto (pc := 18) (tgt := 23) hx hb dX11_net_18 (by decide) ?_
    exact xreti (pc := 23) hx hb hr hlocks hP hK hE hS h dX11_net_23
def f_X11_wide (N : Nat) (x0 : Nat) (x1 : Int32) (x2 : Int32) (σ : zS) : Option (Int32 × zS) :=
  zl (gC 11 x0) fun _ => zb (f_X11_isRegister N x0 x1 σ) fun v1 σ2 =>
  if v1 = 0 then
    (some ((-2), σ2))
  else
    (zl (gC 11 x0) fun _ => zb (f_X11_isName N x0 x2 σ2) fun v3 σ4 =>
    if v3 = 0 then
      (some ((-2), σ4))
    else
      (zl (gR 11 13 x0 σ4) fun v5 =>
      zl (gR 11 4 x0 σ4) fun v6 =>
      zl (gR 11 4 x0 σ4) fun v7 =>
      zl (gR 10 7 v7 σ4) fun v8 =>
      zl (aR 17 v8 x1 σ4) fun v9 =>
      zl (gC 1 v5) fun _ => zb (f_X1_tallyOf N v5 v6 v9 σ4) fun v10 σ11 =>
      zl (gR 11 13 x0 σ11) fun v12 =>
      zl (gC 1 v12) fun _ => zb (f_X1_tallyAt N v12 x2 σ11) fun v13 σ14 =>
      some (v13, σ14)))
set_option maxHeartbeats 4000000 in
set_option maxRecDepth 100000 in
theorem c_X11_wide (l : Launch) (D : va_G) (c : zC) (o : Nat) (g : zEp) (N : Nat) {x0 : Nat} {x1 : Int32} {x2 : Int32} {σ : zS} {ρ : Int32 × zS} (h : f_X11_wide N x0 x1 x2 σ = some ρ) : Met l yX11_wide zs_X11_wide (zr 10) (va_Pc [.ref (o + x0), .int x1, .int x2] (zG D c o g σ)) (zQi D c o g ρ) 0 0 (zA o) := by
  refine zMetG (by decide) (Nat.le_of_ble_eq_true rfl) ?_
  intro p e s m below meth cd ⟨hx, hb, hr, hml, hown, hts, hlocks⟩ hP hK hE ls hl
  have hS : va_S (zA o) s.heap s.heap [] := va_S.rf
  have hl : lv_has ls 3 [(0, .ref (o + x0)), (1, .int x1), (2, .int x2)] := hl
  rw [f_X11_wide.eq_1] at h
  refine lv_aload_n (pc := 0) hx hb dX11_wide_0 rfl (lv_at hl 0 rfl) ?_
  refine lv_iload_n (pc := 1) hx hb dX11_wide_1 rfl (lv_at hl 1 rfl) ?_
  obtain ⟨_, hg, h⟩ := zl_some h
  obtain ⟨v1, σ2, hv, h⟩ := zb_some h
  refine xcallVi (pc := 2) (As := [.int x1]) (rest := []) ⟨hx, hb, hml, hown, hts⟩ (c_X11_isRegister l D c o g N hv) zc11 zV_X11_135 rfl zd_X11_isRegister ⟨Nat.le_of_ble_eq_true rfl, Nat.le_of_ble_eq_true rfl⟩ hK hP hE hS hg hl.1 rfl (Nat.le_of_ble_eq_true rfl) ⟨Nat.zero_le _, Nat.zero_le _⟩ dX11_wide_2 (fun H locs hP hS => ?_)
  refine lv_if_eq (pc := 5) (tgt := 16) hx hb dX11_wide_5 (by decide) (fun c1 => ?_) (fun c1 => ?_)
  · rw [if_pos c1] at h
    refine lv_bipush (pc := 16) (v := (-2)) hx hb dX11_wide_16 (by decide) ?_
    exact xreti (pc := 18) hx hb hr hlocks hP hK hE hS h dX11_wide_18
  · rw [if_neg c1] at h
    refine lv_aload_n (pc := 8) hx hb dX11_wide_8 rfl (lv_at hl 0 rfl) ?_
    refine lv_iload_n (pc := 9) hx hb dX11_wide_9 rfl (lv_at hl 2 rfl) ?_
    obtain ⟨_, hg, h⟩ := zl_some h
    obtain ⟨v3, σ4, hv, h⟩ := zb_some h
    refine xcallVi (pc := 10) (As := [.int x2]) (rest := []) ⟨hx, hb, hml, hown, hts⟩ (c_X11_isName l D c o g N hv) zc11 zV_X11_183 rfl zd_X11_isName ⟨Nat.le_of_ble_eq_true rfl, Nat.le_of_ble_eq_true rfl⟩ hK hP hE hS hg hl.1 rfl (Nat.le_of_ble_eq_true rfl) ⟨Nat.zero_le _, Nat.zero_le _⟩ dX11_wide_10 (fun H locs hP hS => ?_)
    refine lv_if_ne (pc := 13) (tgt := 19) hx hb dX11_wide_13 (by decide) (fun c1 => ?_) (fun c1 => ?_)
    · rw [if_neg c1] at h
      refine lv_aload_n (pc := 19) hx hb dX11_wide_19 rfl (lv_at hl 0 rfl) ?_
      obtain ⟨v5, hv, h⟩ := zl_some h
      refine xgR (pc := 20) (j := 13) zc11 hx hb hts hown hK hP hv rfl zf_X11_78 dX11_wide_20 ?_
      refine lv_aload_n (pc := 23) hx hb dX11_wide_23 rfl (lv_at hl 0 rfl) ?_
      obtain ⟨v6, hv, h⟩ := zl_some h
      refine xgR (pc := 24) (j := 4) zc11 hx hb hts hown hK hP hv rfl zf_X11_26 dX11_wide_24 ?_
      refine lv_aload_n (pc := 27) hx hb dX11_wide_27 rfl (lv_at hl 0 rfl) ?_
      obtain ⟨v7, hv, h⟩ := zl_some h
      refine xgR (pc := 28) (j := 4) zc11 hx hb hts hown hK hP hv rfl zf_X11_26 dX11_wide_28 ?_
      obtain ⟨v8, hv, h⟩ := zl_some h
      refine xgR (pc := 31) (j := 7) zc10 hx hb hts hown hK hP hv rfl zf_X11_146 dX11_wide_31 ?_
      refine lv_iload_n (pc := 34) hx hb dX11_wide_34 rfl (lv_at hl 1 rfl) ?_
      obtain ⟨v9, hv, h⟩ := zl_some h
      refine xaF (pc := 35) hx hb hK hP hv dX11_wide_35 ?_
      obtain ⟨_, hg, h⟩ := zl_some h
      obtain ⟨v10, σ11, hv, h⟩ := zb_some h
      refine xcallVi (pc := 36) (As := [.ref (o + v6), .ref (o + v9)]) (rest := []) ⟨hx, hb, hml, hown, hts⟩ (c_X1_tallyOf l D c o g N hv) zc1 zV_X11_256 rfl zd_X1_tallyOf ⟨Nat.le_of_ble_eq_true rfl, Nat.le_of_ble_eq_true rfl⟩ hK hP hE hS hg hl.1 rfl (Nat.le_of_ble_eq_true rfl) ⟨Nat.zero_le _, Nat.zero_le _⟩ dX11_wide_36 (fun H locs hP hS => ?_)
      refine lv_pop (pc := 39) hx hb dX11_wide_39 rfl ?_
      refine lv_aload_n (pc := 40) hx hb dX11_wide_40 rfl (lv_at hl 0 rfl) ?_
      obtain ⟨v12, hv, h⟩ := zl_some h
      refine xgR (pc := 41) (j := 13) zc11 hx hb hts hown hK hP hv rfl zf_X11_78 dX11_wide_41 ?_
      refine lv_iload_n (pc := 44) hx hb dX11_wide_44 rfl (lv_at hl 2 rfl) ?_
      obtain ⟨_, hg, h⟩ := zl_some h
      obtain ⟨v13, σ14, hv, h⟩ := zb_some h
      refine xcallVi (pc := 45) (As := [.int x2]) (rest := []) ⟨hx, hb, hml, hown, hts⟩ (c_X1_tallyAt l D c o g N hv) zc1 zV_X11_267 rfl zd_X1_tallyAt ⟨Nat.le_of_ble_eq_true rfl, Nat.le_of_ble_eq_true rfl⟩ hK hP hE hS hg hl.1 rfl (Nat.le_of_ble_eq_true rfl) ⟨Nat.zero_le _, Nat.zero_le _⟩ dX11_wide_45 (fun H locs hP hS => ?_)
      exact xreti (pc := 48) hx hb hr hlocks hP hK hE hS h dX11_wide_48
    · rw [if_pos c1] at h
      refine lv_bipush (pc := 16) (v := (-2)) hx hb dX11_wide_16 (by decide) ?_
      exact xreti (pc := 18) hx hb hr hlocks hP hK hE hS h dX11_wide_18
def f_X11_order (N : Nat) (x0 : Nat) (x1 : Int32) (σ : zS) : Option (Int32 × zS) :=
  zl (gC 11 x0) fun _ => zb (f_X11_isName N x0 x1 σ) fun v1 σ2 =>
  if v1 = 0 then
    (some ((-2), σ2))
  else
    (zl (gR 11 4 x0 σ2) fun v3 =>
    zl (gR 10 6 v3 σ2) fun v4 =>
    zl (aI 14 v4 x1 σ2) fun v5 =>
    some (v5, σ2))
set_option maxHeartbeats 4000000 in
set_option maxRecDepth 100000 in
theorem c_X11_order (l : Launch) (D : va_G) (c : zC) (o : Nat) (g : zEp) (N : Nat) {x0 : Nat} {x1 : Int32} {σ : zS} {ρ : Int32 × zS} (h : f_X11_order N x0 x1 σ = some ρ) : Met l yX11_order zs_X11_order (zr 4) (va_Pc [.ref (o + x0), .int x1] (zG D c o g σ)) (zQi D c o g ρ) 0 0 (zA o) := by
  refine zMetG (by decide) (Nat.le_of_ble_eq_true rfl) ?_
  intro p e s m below meth cd ⟨hx, hb, hr, hml, hown, hts, hlocks⟩ hP hK hE ls hl
  have hS : va_S (zA o) s.heap s.heap [] := va_S.rf
  have hl : lv_has ls 2 [(0, .ref (o + x0)), (1, .int x1)] := hl
  rw [f_X11_order.eq_1] at h
  refine lv_aload_n (pc := 0) hx hb dX11_order_0 rfl (lv_at hl 0 rfl) ?_
  refine lv_iload_n (pc := 1) hx hb dX11_order_1 rfl (lv_at hl 1 rfl) ?_
  obtain ⟨_, hg, h⟩ := zl_some h
  obtain ⟨v1, σ2, hv, h⟩ := zb_some h
  refine xcallVi (pc := 2) (As := [.int x1]) (rest := []) ⟨hx, hb, hml, hown, hts⟩ (c_X11_isName l D c o g N hv) zc11 zV_X11_183 rfl zd_X11_isName ⟨Nat.le_of_ble_eq_true rfl, Nat.le_of_ble_eq_true rfl⟩ hK hP hE hS hg hl.1 rfl (Nat.le_of_ble_eq_true rfl) ⟨Nat.zero_le _, Nat.zero_le _⟩ dX11_order_2 (fun H locs hP hS => ?_)
  refine lv_if_eq (pc := 5) (tgt := 20) hx hb dX11_order_5 (by decide) (fun c1 => ?_) (fun c1 => ?_)
  · rw [if_pos c1] at h
    refine lv_bipush (pc := 20) (v := (-2)) hx hb dX11_order_20 (by decide) ?_
    exact xreti (pc := 22) hx hb hr hlocks hP hK hE hS h dX11_order_22
  · rw [if_neg c1] at h
    refine lv_aload_n (pc := 8) hx hb dX11_order_8 rfl (lv_at hl 0 rfl) ?_
    obtain ⟨v3, hv, h⟩ := zl_some h
    refine xgR (pc := 9) (j := 4) zc11 hx hb hts hown hK hP hv rfl zf_X11_26 dX11_order_9 ?_
    obtain ⟨v4, hv, h⟩ := zl_some h
    refine xgR (pc := 12) (j := 6) zc10 hx hb hts hown hK hP hv rfl zf_X11_270 dX11_order_12 ?_
    refine lv_iload_n (pc := 15) hx hb dX11_order_15 rfl (lv_at hl 1 rfl) ?_
    obtain ⟨v5, hv, h⟩ := zl_some h
    refine xaI (pc := 16) hx hb hK hP hv dX11_order_16 ?_
    refine lv_goto (pc := 17) (tgt := 22) hx hb dX11_order_17 (by decide) ?_
    exact xreti (pc := 22) hx hb hr hlocks hP hK hE hS h dX11_order_22
def f_X11_swap (N : Nat) (x0 : Nat) (x1 : Int32) (σ : zS) : Option (Int32 × zS) :=
  zl (gC 11 x0) fun _ => zb (f_X11_isName N x0 x1 σ) fun v1 σ2 =>
  if v1 = 0 then
    (some ((-2), σ2))
  else
    (zl (gR 11 4 x0 σ2) fun v3 =>
    zl (gI 10 0 v3 σ2) fun v4 =>
    if x1 < (v4 - 1) then
      (zl (gR 11 4 x0 σ2) fun v5 =>
      zl (gR 11 4 x0 σ2) fun v6 =>
      zl (gR 10 6 v6 σ2) fun v7 =>
      zl (aI 14 v7 x1 σ2) fun v8 =>
      zl (gC 10 v5) fun _ => zb (f_X10_moveName N v5 v8 (x1 + 1) σ2) fun v9 σ10 =>
      zl (gR 11 13 x0 σ10) fun v11 =>
      zl (gR 11 4 x0 σ10) fun v12 =>
      zl (gC 1 v11) fun _ => zb (f_X1_tallyOfAll N v11 v12 σ10) fun v13 σ14 =>
      some (v13, σ14))
    else
      (some ((-2), σ2)))
set_option maxHeartbeats 4000000 in
set_option maxRecDepth 100000 in
theorem c_X11_swap (l : Launch) (D : va_G) (c : zC) (o : Nat) (g : zEp) (N : Nat) {x0 : Nat} {x1 : Int32} {σ : zS} {ρ : Int32 × zS} (h : f_X11_swap N x0 x1 σ = some ρ) : Met l yX11_swap zs_X11_swap (zr 10) (va_Pc [.ref (o + x0), .int x1] (zG D c o g σ)) (zQi D c o g ρ) 0 0 (zA o) := by
  refine zMetG (by decide) (Nat.le_of_ble_eq_true rfl) ?_
  intro p e s m below meth cd ⟨hx, hb, hr, hml, hown, hts, hlocks⟩ hP hK hE ls hl
  have hS : va_S (zA o) s.heap s.heap [] := va_S.rf
  have hl : lv_has ls 2 [(0, .ref (o + x0)), (1, .int x1)] := hl
  rw [f_X11_swap.eq_1] at h
  refine lv_aload_n (pc := 0) hx hb dX11_swap_0 rfl (lv_at hl 0 rfl) ?_
  refine lv_iload_n (pc := 1) hx hb dX11_swap_1 rfl (lv_at hl 1 rfl) ?_
  obtain ⟨_, hg, h⟩ := zl_some h
  obtain ⟨v1, σ2, hv, h⟩ := zb_some h
  refine xcallVi (pc := 2) (As := [.int x1]) (rest := []) ⟨hx, hb, hml, hown, hts⟩ (c_X11_isName l D c o g N hv) zc11 zV_X11_183 rfl zd_X11_isName ⟨Nat.le_of_ble_eq_true rfl, Nat.le_of_ble_eq_true rfl⟩ hK hP hE hS hg hl.1 rfl (Nat.le_of_ble_eq_true rfl) ⟨Nat.zero_le _, Nat.zero_le _⟩ dX11_swap_2 (fun H locs hP hS => ?_)
  refine lv_if_eq (pc := 5) (tgt := 21) hx hb dX11_swap_5 (by decide) (fun c1 => ?_) (fun c1 => ?_)
  · rw [if_pos c1] at h
    refine lv_bipush (pc := 21) (v := (-2)) hx hb dX11_swap_21 (by decide) ?_
    exact xreti (pc := 23) hx hb hr hlocks hP hK hE hS h dX11_swap_23
  · rw [if_neg c1] at h
    refine lv_iload_n (pc := 8) hx hb dX11_swap_8 rfl (lv_at hl 1 rfl) ?_
    refine lv_aload_n (pc := 9) hx hb dX11_swap_9 rfl (lv_at hl 0 rfl) ?_
    obtain ⟨v3, hv, h⟩ := zl_some h
    refine xgR (pc := 10) (j := 4) zc11 hx hb hts hown hK hP hv rfl zf_X11_26 dX11_swap_10 ?_
    obtain ⟨v4, hv, h⟩ := zl_some h
    refine xgI (pc := 13) (j := 0) zc10 hx hb hts hown hK hP hv rfl zf_X11_139 dX11_swap_13 ?_
    refine lv_iconst (pc := 16) (v := 1) hx hb dX11_swap_16 (by decide) ?_
    refine lv_isub (pc := 17) hx hb dX11_swap_17 ?_
    refine lv_icmp_lt (pc := 18) (tgt := 24) hx hb dX11_swap_18 (by decide) (fun c1 => ?_) (fun c1 => ?_)
    · rw [if_pos c1] at h
      refine lv_aload_n (pc := 24) hx hb dX11_swap_24 rfl (lv_at hl 0 rfl) ?_
      obtain ⟨v5, hv, h⟩ := zl_some h
      refine xgR (pc := 25) (j := 4) zc11 hx hb hts hown hK hP hv rfl zf_X11_26 dX11_swap_25 ?_
      refine lv_aload_n (pc := 28) hx hb dX11_swap_28 rfl (lv_at hl 0 rfl) ?_
      obtain ⟨v6, hv, h⟩ := zl_some h
      refine xgR (pc := 29) (j := 4) zc11 hx hb hts hown hK hP hv rfl zf_X11_26 dX11_swap_29 ?_
      obtain ⟨v7, hv, h⟩ := zl_some h
      refine xgR (pc := 32) (j := 6) zc10 hx hb hts hown hK hP hv rfl zf_X11_270 dX11_swap_32 ?_
      refine lv_iload_n (pc := 35) hx hb dX11_swap_35 rfl (lv_at hl 1 rfl) ?_
      obtain ⟨v8, hv, h⟩ := zl_some h
      refine xaI (pc := 36) hx hb hK hP hv dX11_swap_36 ?_
      refine lv_iload_n (pc := 37) hx hb dX11_swap_37 rfl (lv_at hl 1 rfl) ?_
      refine lv_iconst (pc := 38) (v := 1) hx hb dX11_swap_38 (by decide) ?_
      refine lv_iadd (pc := 39) hx hb dX11_swap_39 ?_
      obtain ⟨_, hg, h⟩ := zl_some h
      obtain ⟨v9, σ10, hv, h⟩ := zb_some h
      refine xcallVi (pc := 40) (As := [.int v8, .int (x1 + 1)]) (rest := []) ⟨hx, hb, hml, hown, hts⟩ (c_X10_moveName l D c o g N hv) zc10 zV_X11_273 rfl zd_X10_moveName ⟨Nat.le_of_ble_eq_true rfl, Nat.le_of_ble_eq_true rfl⟩ hK hP hE hS hg hl.1 rfl (Nat.le_of_ble_eq_true rfl) ⟨Nat.zero_le _, Nat.zero_le _⟩ dX11_swap_40 (fun H locs hP hS => ?_)
      refine lv_pop (pc := 43) hx hb dX11_swap_43 rfl ?_
      refine lv_aload_n (pc := 44) hx hb dX11_swap_44 rfl (lv_at hl 0 rfl) ?_
      obtain ⟨v11, hv, h⟩ := zl_some h
      refine xgR (pc := 45) (j := 13) zc11 hx hb hts hown hK hP hv rfl zf_X11_78 dX11_swap_45 ?_
      refine lv_aload_n (pc := 48) hx hb dX11_swap_48 rfl (lv_at hl 0 rfl) ?_
      obtain ⟨v12, hv, h⟩ := zl_some h
      refine xgR (pc := 49) (j := 4) zc11 hx hb hts hown hK hP hv rfl zf_X11_26 dX11_swap_49 ?_
      obtain ⟨_, hg, h⟩ := zl_some h
      obtain ⟨v13, σ14, hv, h⟩ := zb_some h
      refine xcallVi (pc := 52) (As := [.ref (o + v12)]) (rest := []) ⟨hx, hb, hml, hown, hts⟩ (c_X1_tallyOfAll l D c o g N hv) zc1 zV_X11_263 rfl zd_X1_tallyOfAll ⟨Nat.le_of_ble_eq_true rfl, Nat.le_of_ble_eq_true rfl⟩ hK hP hE hS hg hl.1 rfl (Nat.le_of_ble_eq_true rfl) ⟨Nat.zero_le _, Nat.zero_le _⟩ dX11_swap_52 (fun H locs hP hS => ?_)
      exact xreti (pc := 55) hx hb hr hlocks hP hK hE hS h dX11_swap_55
    · rw [if_neg c1] at h
      refine lv_bipush (pc := 21) (v := (-2)) hx hb dX11_swap_21 (by decide) ?_
      exact xreti (pc := 23) hx hb hr hlocks hP hK hE hS h dX11_swap_23
def f_X11_move (N : Nat) (x0 : Nat) (x1 : Int32) (x2 : Int32) (σ : zS) : Option (Int32 × zS) :=
  zl (gC 11 x0) fun _ => zb (f_X11_isName N x0 x1 σ) fun v1 σ2 =>
  if v1 = 0 then
    (some ((-2), σ2))
  else
    (zl (gC 11 x0) fun _ => zb (f_X11_isName N x0 x2 σ2) fun v3 σ4 =>
    if v3 = 0 then
      (some ((-2), σ4))
    else
      (zl (gR 11 4 x0 σ4) fun v5 =>
      zl (gC 10 v5) fun _ => zb (f_X10_moveName N v5 x1 x2 σ4) fun v6 σ7 =>
      some (v6, σ7)))
set_option maxHeartbeats 4000000 in
set_option maxRecDepth 100000 in
theorem c_X11_move (l : Launch) (D : va_G) (c : zC) (o : Nat) (g : zEp) (N : Nat) {x0 : Nat} {x1 : Int32} {x2 : Int32} {σ : zS} {ρ : Int32 × zS} (h : f_X11_move N x0 x1 x2 σ = some ρ) : Met l yX11_move zs_X11_move (zr 6) (va_Pc [.ref (o + x0), .int x1, .int x2] (zG D c o g σ)) (zQi D c o g ρ) 0 0 (zA o) := by
  refine zMetG (by decide) (Nat.le_of_ble_eq_true rfl) ?_
  intro p e s m below meth cd ⟨hx, hb, hr, hml, hown, hts, hlocks⟩ hP hK hE ls hl
  have hS : va_S (zA o) s.heap s.heap [] := va_S.rf
  have hl : lv_has ls 3 [(0, .ref (o + x0)), (1, .int x1), (2, .int x2)] := hl
  rw [f_X11_move.eq_1] at h
  refine lv_aload_n (pc := 0) hx hb dX11_move_0 rfl (lv_at hl 0 rfl) ?_
  refine lv_iload_n (pc := 1) hx hb dX11_move_1 rfl (lv_at hl 1 rfl) ?_
  obtain ⟨_, hg, h⟩ := zl_some h
  obtain ⟨v1, σ2, hv, h⟩ := zb_some h
  refine xcallVi (pc := 2) (As := [.int x1]) (rest := []) ⟨hx, hb, hml, hown, hts⟩ (c_X11_isName l D c o g N hv) zc11 zV_X11_183 rfl zd_X11_isName ⟨Nat.le_of_ble_eq_true rfl, Nat.le_of_ble_eq_true rfl⟩ hK hP hE hS hg hl.1 rfl (Nat.le_of_ble_eq_true rfl) ⟨Nat.zero_le _, Nat.zero_le _⟩ dX11_move_2 (fun H locs hP hS => ?_)
  refine lv_if_eq (pc := 5) (tgt := 16) hx hb dX11_move_5 (by decide) (fun c1 => ?_) (fun c1 => ?_)
  · rw [if_pos c1] at h
    refine lv_bipush (pc := 16) (v := (-2)) hx hb dX11_move_16 (by decide) ?_
    exact xreti (pc := 18) hx hb hr hlocks hP hK hE hS h dX11_move_18
  · rw [if_neg c1] at h
    refine lv_aload_n (pc := 8) hx hb dX11_move_8 rfl (lv_at hl 0 rfl) ?_
    refine lv_iload_n (pc := 9) hx hb dX11_move_9 rfl (lv_at hl 2 rfl) ?_
    obtain ⟨_, hg, h⟩ := zl_some h
    obtain ⟨v3, σ4, hv, h⟩ := zb_some h
    refine xcallVi (pc := 10) (As := [.int x2]) (rest := []) ⟨hx, hb, hml, hown, hts⟩ (c_X11_isName l D c o g N hv) zc11 zV_X11_183 rfl zd_X11_isName ⟨Nat.le_of_ble_eq_true rfl, Nat.le_of_ble_eq_true rfl⟩ hK hP hE hS hg hl.1 rfl (Nat.le_of_ble_eq_true rfl) ⟨Nat.zero_le _, Nat.zero_le _⟩ dX11_move_10 (fun H locs hP hS => ?_)
    refine lv_if_ne (pc := 13) (tgt := 19) hx hb dX11_move_13 (by decide) (fun c1 => ?_) (fun c1 => ?_)
    · rw [if_neg c1] at h
      refine lv_aload_n (pc := 19) hx hb dX11_move_19 rfl (lv_at hl 0 rfl) ?_
      obtain ⟨v5, hv, h⟩ := zl_some h
      refine xgR (pc := 20) (j := 4) zc11 hx hb hts hown hK hP hv rfl zf_X11_26 dX11_move_20 ?_
      refine lv_iload_n (pc := 23) hx hb dX11_move_23 rfl (lv_at hl 1 rfl) ?_
      refine lv_iload_n (pc := 24) hx hb dX11_move_24 rfl (lv_at hl 2 rfl) ?_
      obtain ⟨_, hg, h⟩ := zl_some h
      obtain ⟨v6, σ7, hv, h⟩ := zb_some h
      refine xcallVi (pc := 25) (As := [.int x1, .int x2]) (rest := []) ⟨hx, hb, hml, hown, hts⟩ (c_X10_moveName l D c o g N hv) zc10 zV_X11_273 rfl zd_X10_moveName ⟨Nat.le_of_ble_eq_true rfl, Nat.le_of_ble_eq_true rfl⟩ hK hP hE hS hg hl.1 rfl (Nat.le_of_ble_eq_true rfl) ⟨Nat.zero_le _, Nat.zero_le _⟩ dX11_move_25 (fun H locs hP hS => ?_)
      exact xreti (pc := 28) hx hb hr hlocks hP hK hE hS h dX11_move_28
    · rw [if_pos c1] at h
      refine lv_bipush (pc := 16) (v := (-2)) hx hb dX11_move_16 (by decide) ?_
      exact xreti (pc := 18) hx hb hr hlocks hP hK hE hS h dX11_move_18
def f_X11_best (N : Nat) (x0 : Nat) (x1 : Int32) (x2 : Int32) (σ : zS) : Option (Int32 × zS) :=
  zl (gC 11 x0) fun _ => zb (f_X11_isRegister N x0 x1 σ) fun v1 σ2 =>
  if v1 = 0 then
    (some ((-2), σ2))
  else
    (if x2 < 0 then
      (some ((-2), σ2))
    else
      (if x2 ≤ 10 then
        (zl (gR 11 4 x0 σ2) fun v3 =>
        zl (gI 10 0 v3 σ2) fun v4 =>
        if v4 ≤ 6 then
          (zl (gR 11 4 x0 σ2) fun v5 =>
          zl (gI 10 0 v5 σ2) fun v6 =>
          if x2 ≤ v6 then
            (zl (gR 11 14 x0 σ2) fun v7 =>
            zl (gR 11 4 x0 σ2) fun v8 =>
            zl (gR 10 7 v8 σ2) fun v9 =>
            zl (aR 17 v9 x1 σ2) fun v10 =>
            zl (gR 11 4 x0 σ2) fun v11 =>
            zl (gI 10 0 v11 σ2) fun v12 =>
            zl (gC 3 v7) fun _ => zb (f_X3_weighAll N v7 v10 v12 σ2) fun v13 σ14 =>
            if x2 = 0 then
              (zl (gR 11 14 x0 σ14) fun v15 =>
              zl (gC 3 v15) fun _ => zb (f_X3_fewest N v15 σ14) fun v16 σ17 =>
              some (v16, σ17))
            else
              (zl (gR 11 14 x0 σ14) fun v18 =>
              zl (gC 3 v18) fun _ => zb (f_X3_nameAt N v18 (x2 - 1) σ14) fun v19 σ20 =>
              some (v19, σ20)))
          else
            (some ((-1), σ2)))
        else
          (some ((-3), σ2)))
      else
        (some ((-2), σ2))))
set_option maxHeartbeats 4000000 in
set_option maxRecDepth 100000 in
theorem c_X11_best (l : Launch) (D : va_G) (c : zC) (o : Nat) (g : zEp) (N : Nat) {x0 : Nat} {x1 : Int32} {x2 : Int32} {σ : zS} {ρ : Int32 × zS} (h : f_X11_best N x0 x1 x2 σ = some ρ) : Met l yX11_best zs_X11_best (zr 8) (va_Pc [.ref (o + x0), .int x1, .int x2] (zG D c o g σ)) (zQi D c o g ρ) 0 0 (zA o) := by
  refine zMetG (by decide) (Nat.le_of_ble_eq_true rfl) ?_
  intro p e s m below meth cd ⟨hx, hb, hr, hml, hown, hts, hlocks⟩ hP hK hE ls hl
  have hS : va_S (zA o) s.heap s.heap [] := va_S.rf
  have hl : lv_has ls 3 [(0, .ref (o + x0)), (1, .int x1), (2, .int x2)] := hl
  rw [f_X11_best.eq_1] at h
  refine lv_aload_n (pc := 0) hx hb dX11_best_0 rfl (lv_at hl 0 rfl) ?_
  refine lv_iload_n (pc := 1) hx hb dX11_best_1 rfl (lv_at hl 1 rfl) ?_
  obtain ⟨_, hg, h⟩ := zl_some h
  obtain ⟨v1, σ2, hv, h⟩ := zb_some h
  refine xcallVi (pc := 2) (As := [.int x1]) (rest := []) ⟨hx, hb, hml, hown, hts⟩ (c_X11_isRegister l D c o g N hv) zc11 zV_X11_135 rfl zd_X11_isRegister ⟨Nat.le_of_ble_eq_true rfl, Nat.le_of_ble_eq_true rfl⟩ hK hP hE hS hg hl.1 rfl (Nat.le_of_ble_eq_true rfl) ⟨Nat.zero_le _, Nat.zero_le _⟩ dX11_best_2 (fun H locs hP hS => ?_)
  refine lv_if_eq (pc := 5) (tgt := 18) hx hb dX11_best_5 (by decide) (fun c1 => ?_) (fun c1 => ?_)
  · rw [if_pos c1] at h
    refine lv_bipush (pc := 18) (v := (-2)) hx hb dX11_best_18 (by decide) ?_
    exact xreti (pc := 20) hx hb hr hlocks hP hK hE hS h dX11_best_20
  · rw [if_neg c1] at h
    refine lv_iload_n (pc := 8) hx hb dX11_best_8 rfl (lv_at hl 2 rfl) ?_
    refine lv_if_lt (pc := 9) (tgt := 18) hx hb dX11_best_9 (by decide) (fun c1 => ?_) (fun c1 => ?_)
    · rw [if_pos c1] at h
      refine lv_bipush (pc := 18) (v := (-2)) hx hb dX11_best_18 (by decide) ?_
      exact xreti (pc := 20) hx hb hr hlocks hP hK hE hS h dX11_best_20
    · rw [if_neg c1] at h
      refine lv_iload_n (pc := 12) hx hb dX11_best_12 rfl (lv_at hl 2 rfl) ?_
      refine lv_bipush (pc := 13) (v := 10) hx hb dX11_best_13 (by decide) ?_
      refine lv_icmp_le (pc := 15) (tgt := 21) hx hb dX11_best_15 (by decide) (fun c1 => ?_) (fun c1 => ?_)
      · rw [if_pos c1] at h
        refine lv_aload_n (pc := 21) hx hb dX11_best_21 rfl (lv_at hl 0 rfl) ?_
        obtain ⟨v3, hv, h⟩ := zl_some h
        refine xgR (pc := 22) (j := 4) zc11 hx hb hts hown hK hP hv rfl zf_X11_26 dX11_best_22 ?_
        obtain ⟨v4, hv, h⟩ := zl_some h
        refine xgI (pc := 25) (j := 0) zc10 hx hb hts hown hK hP hv rfl zf_X11_139 dX11_best_25 ?_
        refine lv_bipush (pc := 28) (v := 6) hx hb dX11_best_28 (by decide) ?_
        refine lv_icmp_le (pc := 30) (tgt := 36) hx hb dX11_best_30 (by decide) (fun c1 => ?_) (fun c1 => ?_)
        · rw [if_pos c1] at h
          refine lv_iload_n (pc := 36) hx hb dX11_best_36 rfl (lv_at hl 2 rfl) ?_
          refine lv_aload_n (pc := 37) hx hb dX11_best_37 rfl (lv_at hl 0 rfl) ?_
          obtain ⟨v5, hv, h⟩ := zl_some h
          refine xgR (pc := 38) (j := 4) zc11 hx hb hts hown hK hP hv rfl zf_X11_26 dX11_best_38 ?_
          obtain ⟨v6, hv, h⟩ := zl_some h
          refine xgI (pc := 41) (j := 0) zc10 hx hb hts hown hK hP hv rfl zf_X11_139 dX11_best_41 ?_
          refine lv_icmp_le (pc := 44) (tgt := 49) hx hb dX11_best_44 (by decide) (fun c1 => ?_) (fun c1 => ?_)
          · rw [if_pos c1] at h
            refine lv_aload_n (pc := 49) hx hb dX11_best_49 rfl (lv_at hl 0 rfl) ?_
            obtain ⟨v7, hv, h⟩ := zl_some h
            refine xgR (pc := 50) (j := 14) zc11 hx hb hts hown hK hP hv rfl zf_X11_85 dX11_best_50 ?_
            refine lv_aload_n (pc := 53) hx hb dX11_best_53 rfl (lv_at hl 0 rfl) ?_
            obtain ⟨v8, hv, h⟩ := zl_some h
            refine xgR (pc := 54) (j := 4) zc11 hx hb hts hown hK hP hv rfl zf_X11_26 dX11_best_54 ?_
            obtain ⟨v9, hv, h⟩ := zl_some h
            refine xgR (pc := 57) (j := 7) zc10 hx hb hts hown hK hP hv rfl zf_X11_146 dX11_best_57 ?_
            refine lv_iload_n (pc := 60) hx hb dX11_best_60 rfl (lv_at hl 1 rfl) ?_
            obtain ⟨v10, hv, h⟩ := zl_some h
            refine xaF (pc := 61) hx hb hK hP hv dX11_best_61 ?_
            refine lv_aload_n (pc := 62) hx hb dX11_best_62 rfl (lv_at hl 0 rfl) ?_
            obtain ⟨v11, hv, h⟩ := zl_some h
            refine xgR (pc := 63) (j := 4) zc11 hx hb hts hown hK hP hv rfl zf_X11_26 dX11_best_63 ?_
            obtain ⟨v12, hv, h⟩ := zl_some h
            refine xgI (pc := 66) (j := 0) zc10 hx hb hts hown hK hP hv rfl zf_X11_139 dX11_best_66 ?_
            obtain ⟨_, hg, h⟩ := zl_some h
            obtain ⟨v13, σ14, hv, h⟩ := zb_some h
            refine xcallVv (pc := 69) (As := [.ref (o + v10), .int v12]) (rest := []) ⟨hx, hb, hml, hown, hts⟩ (c_X3_weighAll l D c o g N hv) zc3 zV_X11_277 rfl zd_X3_weighAll ⟨Nat.le_of_ble_eq_true rfl, Nat.le_of_ble_eq_true rfl⟩ hK hP hE hS hg hl.1 rfl (Nat.le_of_ble_eq_true rfl) ⟨Nat.zero_le _, Nat.zero_le _⟩ dX11_best_69 (fun H locs hP hS => ?_)
            refine lv_iload_n (pc := 72) hx hb dX11_best_72 rfl (lv_at hl 2 rfl) ?_
            refine lv_if_ne (pc := 73) (tgt := 86) hx hb dX11_best_73 (by decide) (fun c1 => ?_) (fun c1 => ?_)
            · rw [if_neg c1] at h
              refine lv_aload_n (pc := 86) hx hb dX11_best_86 rfl (lv_at hl 0 rfl) ?_
              obtain ⟨v15, hv, h⟩ := zl_some h
              refine xgR (pc := 87) (j := 14) zc11 hx hb hts hown hK hP hv rfl zf_X11_85 dX11_best_87 ?_
              refine lv_iload_n (pc := 90) hx hb dX11_best_90 rfl (lv_at hl 2 rfl) ?_
              refine lv_iconst (pc := 91) (v := 1) hx hb dX11_best_91 (by decide) ?_
              refine lv_isub (pc := 92) hx hb dX11_best_92 ?_
              obtain ⟨_, hg, h⟩ := zl_some h
              obtain ⟨v16, σ17, hv, h⟩ := zb_some h
              refine xcallVi (pc := 93) (As := [.int (x2 - 1)]) (rest := []) ⟨hx, hb, hml, hown, hts⟩ (c_X3_nameAt l D c o g N hv) zc3 zV_X11_284 rfl zd_X3_nameAt ⟨Nat.le_of_ble_eq_true rfl, Nat.le_of_ble_eq_true rfl⟩ hK hP hE hS hg hl.1 rfl (Nat.le_of_ble_eq_true rfl) ⟨Nat.zero_le _, Nat.zero_le _⟩ dX11_best_93 (fun H locs hP hS => ?_)
              exact xreti (pc := 96) hx hb hr hlocks hP hK hE hS h dX11_best_96
            · rw [if_pos c1] at h
              refine lv_aload_n (pc := 76) hx hb dX11_best_76 rfl (lv_at hl 0 rfl) ?_
              obtain ⟨v18, hv, h⟩ := zl_some h
              refine xgR (pc := 77) (j := 14) zc11 hx hb hts hown hK hP hv rfl zf_X11_85 dX11_best_77 ?_
              obtain ⟨_, hg, h⟩ := zl_some h
              obtain ⟨v19, σ20, hv, h⟩ := zb_some h
              refine xcallVi (pc := 80) (As := []) (rest := []) ⟨hx, hb, hml, hown, hts⟩ (c_X3_fewest l D c o g N hv) zc3 zV_X11_281 rfl zd_X3_fewest ⟨Nat.le_of_ble_eq_true rfl, Nat.le_of_ble_eq_true rfl⟩ hK hP hE hS hg hl.1 rfl (Nat.le_of_ble_eq_true rfl) ⟨Nat.zero_le _, Nat.zero_le _⟩ dX11_best_80 (fun H locs hP hS => ?_)
              refine lv_goto (pc := 83) (tgt := 96) hx hb dX11_best_83 (by decide) ?_
              exact xreti (pc := 96) hx hb hr hlocks hP hK hE hS h dX11_best_96
          · rw [if_neg c1] at h
            refine lv_iconst (pc := 47) (v := (-1)) hx hb dX11_best_47 (by decide) ?_
            exact xreti (pc := 48) hx hb hr hlocks hP hK hE hS h dX11_best_48
        · rw [if_neg c1] at h
          refine lv_bipush (pc := 33) (v := (-3)) hx hb dX11_best_33 (by decide) ?_
          exact xreti (pc := 35) hx hb hr hlocks hP hK hE hS h dX11_best_35
      · rw [if_neg c1] at h
        refine lv_bipush (pc := 18) (v := (-2)) hx hb dX11_best_18 (by decide) ?_
        exact xreti (pc := 20) hx hb hr hlocks hP hK hE hS h dX11_best_20
def f_X11_sift (N : Nat) (x0 : Nat) (x1 : Int32) (σ : zS) : Option (Int32 × zS) :=
  zl (gC 11 x0) fun _ => zb (f_X11_isRegister N x0 x1 σ) fun v1 σ2 =>
  if v1 = 0 then
    (some ((-2), σ2))
  else
    (zl (gR 11 14 x0 σ2) fun v3 =>
    zl (gR 11 4 x0 σ2) fun v4 =>
    zl (gR 11 4 x0 σ2) fun v5 =>
    zl (gR 10 7 v5 σ2) fun v6 =>
    zl (aR 17 v6 x1 σ2) fun v7 =>
    zl (gR 11 13 x0 σ2) fun v8 =>
    zl (gC 3 v3) fun _ => zb (f_X3_siftAll N v3 v4 v7 v8 σ2) fun v9 σ10 =>
    some (v9, σ10))
set_option maxHeartbeats 4000000 in
set_option maxRecDepth 100000 in
theorem c_X11_sift (l : Launch) (D : va_G) (c : zC) (o : Nat) (g : zEp) (N : Nat) {x0 : Nat} {x1 : Int32} {σ : zS} {ρ : Int32 × zS} (h : f_X11_sift N x0 x1 σ = some ρ) : Met l yX11_sift zs_X11_sift (zr 12) (va_Pc [.ref (o + x0), .int x1] (zG D c o g σ)) (zQi D c o g ρ) 0 0 (zA o) := by
  refine zMetG (by decide) (Nat.le_of_ble_eq_true rfl) ?_
  intro p e s m below meth cd ⟨hx, hb, hr, hml, hown, hts, hlocks⟩ hP hK hE ls hl
  have hS : va_S (zA o) s.heap s.heap [] := va_S.rf
  have hl : lv_has ls 2 [(0, .ref (o + x0)), (1, .int x1)] := hl
  rw [f_X11_sift.eq_1] at h
  refine lv_aload_n (pc := 0) hx hb dX11_sift_0 rfl (lv_at hl 0 rfl) ?_
  refine lv_iload_n (pc := 1) hx hb dX11_sift_1 rfl (lv_at hl 1 rfl) ?_
  obtain ⟨_, hg, h⟩ := zl_some h
  obtain ⟨v1, σ2, hv, h⟩ := zb_some h
  refine xcallVi (pc := 2) (As := [.int x1]) (rest := []) ⟨hx, hb, hml, hown, hts⟩ (c_X11_isRegister l D c o g N hv) zc11 zV_X11_135 rfl zd_X11_isRegister ⟨Nat.le_of_ble_eq_true rfl, Nat.le_of_ble_eq_true rfl⟩ hK hP hE hS hg hl.1 rfl (Nat.le_of_ble_eq_true rfl) ⟨Nat.zero_le _, Nat.zero_le _⟩ dX11_sift_2 (fun H locs hP hS => ?_)
  refine lv_if_ne (pc := 5) (tgt := 11) hx hb dX11_sift_5 (by decide) (fun c1 => ?_) (fun c1 => ?_)
  · rw [if_neg c1] at h
    refine lv_aload_n (pc := 11) hx hb dX11_sift_11 rfl (lv_at hl 0 rfl) ?_
    obtain ⟨v3, hv, h⟩ := zl_some h
    refine xgR (pc := 12) (j := 14) zc11 hx hb hts hown hK hP hv rfl zf_X11_85 dX11_sift_12 ?_
    refine lv_aload_n (pc := 15) hx hb dX11_sift_15 rfl (lv_at hl 0 rfl) ?_
    obtain ⟨v4, hv, h⟩ := zl_some h
    refine xgR (pc := 16) (j := 4) zc11 hx hb hts hown hK hP hv rfl zf_X11_26 dX11_sift_16 ?_
    refine lv_aload_n (pc := 19) hx hb dX11_sift_19 rfl (lv_at hl 0 rfl) ?_
    obtain ⟨v5, hv, h⟩ := zl_some h
    refine xgR (pc := 20) (j := 4) zc11 hx hb hts hown hK hP hv rfl zf_X11_26 dX11_sift_20 ?_
    obtain ⟨v6, hv, h⟩ := zl_some h
    refine xgR (pc := 23) (j := 7) zc10 hx hb hts hown hK hP hv rfl zf_X11_146 dX11_sift_23 ?_
    refine lv_iload_n (pc := 26) hx hb dX11_sift_26 rfl (lv_at hl 1 rfl) ?_
    obtain ⟨v7, hv, h⟩ := zl_some h
    refine xaF (pc := 27) hx hb hK hP hv dX11_sift_27 ?_
    refine lv_aload_n (pc := 28) hx hb dX11_sift_28 rfl (lv_at hl 0 rfl) ?_
    obtain ⟨v8, hv, h⟩ := zl_some h
    refine xgR (pc := 29) (j := 13) zc11 hx hb hts hown hK hP hv rfl zf_X11_78 dX11_sift_29 ?_
    obtain ⟨_, hg, h⟩ := zl_some h
    obtain ⟨v9, σ10, hv, h⟩ := zb_some h
    refine xcallVi (pc := 32) (As := [.ref (o + v4), .ref (o + v7), .ref (o + v8)]) (rest := []) ⟨hx, hb, hml, hown, hts⟩ (c_X3_siftAll l D c o g N hv) zc3 zV_X11_287 rfl zd_X3_siftAll ⟨Nat.le_of_ble_eq_true rfl, Nat.le_of_ble_eq_true rfl⟩ hK hP hE hS hg hl.1 rfl (Nat.le_of_ble_eq_true rfl) ⟨Nat.zero_le _, Nat.zero_le _⟩ dX11_sift_32 (fun H locs hP hS => ?_)
    exact xreti (pc := 35) hx hb hr hlocks hP hK hE hS h dX11_sift_35
  · rw [if_pos c1] at h
    refine lv_bipush (pc := 8) (v := (-2)) hx hb dX11_sift_8 (by decide) ?_
    exact xreti (pc := 10) hx hb hr hlocks hP hK hE hS h dX11_sift_10
def f_X11_isCrossing (N : Nat) (x0 : Nat) (x1 : Int32) (σ : zS) : Option (Int32 × zS) :=
  if x1 < 0 then
    (rZ 0 σ)
  else
    (if 8 ≤ x1 then
      (rZ 0 σ)
    else
      (rZ 1 σ))
set_option maxHeartbeats 4000000 in
set_option maxRecDepth 100000 in
theorem c_X11_isCrossing (l : Launch) (D : va_G) (c : zC) (o : Nat) (g : zEp) (N : Nat) {x0 : Nat} {x1 : Int32} {σ : zS} {ρ : Int32 × zS} (h : f_X11_isCrossing N x0 x1 σ = some ρ) : Met l yX11_isCrossing zs_X11_isCrossing (zr 2) (va_Pc [.ref (o + x0), .int x1] (zG D c o g σ)) (zQi D c o g ρ) 0 0 (zA o) := by
  refine zMetG (by decide) (Nat.le_of_ble_eq_true rfl) ?_
  intro p e s m below meth cd ⟨hx, hb, hr, hml, hown, hts, hlocks⟩ hP hK hE ls hl
  have hS : va_S (zA o) s.heap s.heap [] := va_S.rf
  have hl : lv_has ls 2 [(0, .ref (o + x0)), (1, .int x1)] := hl
  rw [f_X11_isCrossing.eq_1] at h
  refine lv_iload_n (pc := 0) hx hb dX11_isCrossing_0 rfl (lv_at hl 1 rfl) ?_
  refine lv_if_lt (pc := 1) (tgt := 14) hx hb dX11_isCrossing_1 (by decide) (fun c1 => ?_) (fun c1 => ?_)
  · rw [if_pos c1] at h
    refine lv_iconst (pc := 14) (v := 0) hx hb dX11_isCrossing_14 (by decide) ?_
    exact xretz (pc := 15) hx hb hr hlocks hP hK hE hS h dX11_isCrossing_15
  · rw [if_neg c1] at h
    refine lv_iload_n (pc := 4) hx hb dX11_isCrossing_4 rfl (lv_at hl 1 rfl) ?_
    refine lv_bipush (pc := 5) (v := 8) hx hb dX11_isCrossing_5 (by decide) ?_
    refine lv_icmp_ge (pc := 7) (tgt := 14) hx hb dX11_isCrossing_7 (by decide) (fun c1 => ?_) (fun c1 => ?_)
    · rw [if_pos c1] at h
      refine lv_iconst (pc := 14) (v := 0) hx hb dX11_isCrossing_14 (by decide) ?_
      exact xretz (pc := 15) hx hb hr hlocks hP hK hE hS h dX11_isCrossing_15
    · rw [if_neg c1] at h
      refine lv_iconst (pc := 10) (v := 1) hx hb dX11_isCrossing_10 (by decide) ?_
      refine lv_goto (pc := 11) (tgt := 15) hx hb dX11_isCrossing_11 (by decide) ?_
      exact xretz (pc := 15) hx hb hr hlocks hP hK hE hS h dX11_isCrossing_15

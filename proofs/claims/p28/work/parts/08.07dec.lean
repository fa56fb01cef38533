def f_X11_ways (N : Nat) (x0 : Nat) (x1 : Int32) (x2 : Int32) (x3 : Int32) (σ : zS) : Option (Int32 × zS) :=
  zl (gC 11 x0) fun _ => zb (f_X11_isRegister N x0 x1 σ) fun v1 σ2 =>
  if v1 = 0 then
    (some ((-2), σ2))
  else
    (zl (gC 11 x0) fun _ => zb (f_X11_isCrossing N x0 x2 σ2) fun v3 σ4 =>
    if v3 = 0 then
      (some ((-2), σ4))
    else
      (zl (gC 11 x0) fun _ => zb (f_X11_isCrossing N x0 x3 σ4) fun v5 σ6 =>
      if v5 = 0 then
        (some ((-2), σ6))
      else
        (zl (gR 11 15 x0 σ6) fun v7 =>
        zl (gR 11 4 x0 σ6) fun v8 =>
        zl (gR 11 17 x0 σ6) fun v9 =>
        zl (gC 6 v7) fun _ => zb (f_X6_findWays N v7 v8 x2 x3 v9 σ6) fun v10 σ11 =>
        zl (gC 11 x0) fun _ => zb (f_X11_store N x0 x1 σ11) fun v12 σ13 =>
        some (v12, σ13))))
set_option maxHeartbeats 4000000 in
set_option maxRecDepth 100000 in
theorem c_X11_ways (l : Launch) (D : va_G) (c : zC) (o : Nat) (g : zEp) (N : Nat) {x0 : Nat} {x1 : Int32} {x2 : Int32} {x3 : Int32} {σ : zS} {ρ : Int32 × zS} (h : f_X11_ways N x0 x1 x2 x3 σ = some ρ) : Met l yX11_ways zs_X11_ways (zr 18) (va_Pc [.ref (o + x0), .int x1, .int x2, .int x3] (zG D c o g σ)) (zQi D c o g ρ) 0 0 (zA o) := by
  refine zMetG (by decide) (Nat.le_of_ble_eq_true rfl) ?_
  intro p e s m below meth cd ⟨hx, hb, hr, hml, hown, hts, hlocks⟩ hP hK hE ls hl
  have hS : va_S (zA o) s.heap s.heap [] := va_S.rf
  have hl : lv_has ls 4 [(0, .ref (o + x0)), (1, .int x1), (2, .int x2), (3, .int x3)] := hl
  rw [f_X11_ways.eq_1] at h
  refine lv_aload_n (pc := 0) hx hb dX11_ways_0 rfl (lv_at hl 0 rfl) ?_
  refine lv_iload_n (pc := 1) hx hb dX11_ways_1 rfl (lv_at hl 1 rfl) ?_
  obtain ⟨_, hg, h⟩ := zl_some h
  obtain ⟨v1, σ2, hv, h⟩ := zb_some h
  refine xcallVi (pc := 2) (As := [.int x1]) (rest := []) ⟨hx, hb, hml, hown, hts⟩ (c_X11_isRegister l D c o g N hv) zc11 zV_X11_135 rfl zd_X11_isRegister ⟨Nat.le_of_ble_eq_true rfl, Nat.le_of_ble_eq_true rfl⟩ hK hP hE hS hg hl.1 rfl (Nat.le_of_ble_eq_true rfl) ⟨Nat.zero_le _, Nat.zero_le _⟩ dX11_ways_2 (fun H locs hP hS => ?_)
  refine lv_if_eq (pc := 5) (tgt := 24) hx hb dX11_ways_5 (by decide) (fun c1 => ?_) (fun c1 => ?_)
  · rw [if_pos c1] at h
    refine lv_bipush (pc := 24) (v := (-2)) hx hb dX11_ways_24 (by decide) ?_
    exact xreti (pc := 26) hx hb hr hlocks hP hK hE hS h dX11_ways_26
  · rw [if_neg c1] at h
    refine lv_aload_n (pc := 8) hx hb dX11_ways_8 rfl (lv_at hl 0 rfl) ?_
    refine lv_iload_n (pc := 9) hx hb dX11_ways_9 rfl (lv_at hl 2 rfl) ?_
    obtain ⟨_, hg, h⟩ := zl_some h
    obtain ⟨v3, σ4, hv, h⟩ := zb_some h
    refine xcallVi (pc := 10) (As := [.int x2]) (rest := []) ⟨hx, hb, hml, hown, hts⟩ (c_X11_isCrossing l D c o g N hv) zc11 zV_X11_291 rfl zd_X11_isCrossing ⟨Nat.le_of_ble_eq_true rfl, Nat.le_of_ble_eq_true rfl⟩ hK hP hE hS hg hl.1 rfl (Nat.le_of_ble_eq_true rfl) ⟨Nat.zero_le _, Nat.zero_le _⟩ dX11_ways_10 (fun H locs hP hS => ?_)
    refine lv_if_eq (pc := 13) (tgt := 24) hx hb dX11_ways_13 (by decide) (fun c1 => ?_) (fun c1 => ?_)
    · rw [if_pos c1] at h
      refine lv_bipush (pc := 24) (v := (-2)) hx hb dX11_ways_24 (by decide) ?_
      exact xreti (pc := 26) hx hb hr hlocks hP hK hE hS h dX11_ways_26
    · rw [if_neg c1] at h
      refine lv_aload_n (pc := 16) hx hb dX11_ways_16 rfl (lv_at hl 0 rfl) ?_
      refine lv_iload_n (pc := 17) hx hb dX11_ways_17 rfl (lv_at hl 3 rfl) ?_
      obtain ⟨_, hg, h⟩ := zl_some h
      obtain ⟨v5, σ6, hv, h⟩ := zb_some h
      refine xcallVi (pc := 18) (As := [.int x3]) (rest := []) ⟨hx, hb, hml, hown, hts⟩ (c_X11_isCrossing l D c o g N hv) zc11 zV_X11_291 rfl zd_X11_isCrossing ⟨Nat.le_of_ble_eq_true rfl, Nat.le_of_ble_eq_true rfl⟩ hK hP hE hS hg hl.1 rfl (Nat.le_of_ble_eq_true rfl) ⟨Nat.zero_le _, Nat.zero_le _⟩ dX11_ways_18 (fun H locs hP hS => ?_)
      refine lv_if_ne (pc := 21) (tgt := 27) hx hb dX11_ways_21 (by decide) (fun c1 => ?_) (fun c1 => ?_)
      · rw [if_neg c1] at h
        refine lv_aload_n (pc := 27) hx hb dX11_ways_27 rfl (lv_at hl 0 rfl) ?_
        obtain ⟨v7, hv, h⟩ := zl_some h
        refine xgR (pc := 28) (j := 15) zc11 hx hb hts hown hK hP hv rfl zf_X11_92 dX11_ways_28 ?_
        refine lv_aload_n (pc := 31) hx hb dX11_ways_31 rfl (lv_at hl 0 rfl) ?_
        obtain ⟨v8, hv, h⟩ := zl_some h
        refine xgR (pc := 32) (j := 4) zc11 hx hb hts hown hK hP hv rfl zf_X11_26 dX11_ways_32 ?_
        refine lv_iload_n (pc := 35) hx hb dX11_ways_35 rfl (lv_at hl 2 rfl) ?_
        refine lv_iload_n (pc := 36) hx hb dX11_ways_36 rfl (lv_at hl 3 rfl) ?_
        refine lv_aload_n (pc := 37) hx hb dX11_ways_37 rfl (lv_at hl 0 rfl) ?_
        obtain ⟨v9, hv, h⟩ := zl_some h
        refine xgR (pc := 38) (j := 17) zc11 hx hb hts hown hK hP hv rfl zf_X11_106 dX11_ways_38 ?_
        obtain ⟨_, hg, h⟩ := zl_some h
        obtain ⟨v10, σ11, hv, h⟩ := zb_some h
        refine xcallVv (pc := 41) (As := [.ref (o + v8), .int x2, .int x3, .ref (o + v9)]) (rest := []) ⟨hx, hb, hml, hown, hts⟩ (c_X6_findWays l D c o g N hv) zc6 zV_X11_294 rfl zd_X6_findWays ⟨Nat.le_of_ble_eq_true rfl, Nat.le_of_ble_eq_true rfl⟩ hK hP hE hS hg hl.1 rfl (Nat.le_of_ble_eq_true rfl) ⟨Nat.zero_le _, Nat.zero_le _⟩ dX11_ways_41 (fun H locs hP hS => ?_)
        refine lv_aload_n (pc := 44) hx hb dX11_ways_44 rfl (lv_at hl 0 rfl) ?_
        refine lv_iload_n (pc := 45) hx hb dX11_ways_45 rfl (lv_at hl 1 rfl) ?_
        obtain ⟨_, hg, h⟩ := zl_some h
        obtain ⟨v12, σ13, hv, h⟩ := zb_some h
        refine xcallVi (pc := 46) (As := [.int x1]) (rest := []) ⟨hx, hb, hml, hown, hts⟩ (c_X11_store l D c o g N hv) zc11 zV_X11_168 rfl zd_X11_store ⟨Nat.le_of_ble_eq_true rfl, Nat.le_of_ble_eq_true rfl⟩ hK hP hE hS hg hl.1 rfl (Nat.le_of_ble_eq_true rfl) ⟨Nat.zero_le _, Nat.zero_le _⟩ dX11_ways_46 (fun H locs hP hS => ?_)
        exact xreti (pc := 49) hx hb hr hlocks hP hK hE hS h dX11_ways_49
      · rw [if_pos c1] at h
        refine lv_bipush (pc := 24) (v := (-2)) hx hb dX11_ways_24 (by decide) ?_
        exact xreti (pc := 26) hx hb hr hlocks hP hK hE hS h dX11_ways_26
def f_X11_map (N : Nat) (x0 : Nat) (x1 : Int32) (x2 : Int32) (σ : zS) : Option (Int32 × zS) :=
  zl (gC 11 x0) fun _ => zb (f_X11_isRegister N x0 x1 σ) fun v1 σ2 =>
  if v1 = 0 then
    (some ((-2), σ2))
  else
    (if x2 < 0 then
      (some ((-2), σ2))
    else
      (if x2 ≤ 2 then
        (zl (gR 11 15 x0 σ2) fun v3 =>
        zl (gR 11 4 x0 σ2) fun v4 =>
        zl (gR 11 17 x0 σ2) fun v5 =>
        zl (gC 6 v3) fun _ => zb (f_X6_findSets N v3 v4 x2 v5 σ2) fun v6 σ7 =>
        zl (gC 11 x0) fun _ => zb (f_X11_store N x0 x1 σ7) fun v8 σ9 =>
        some (v8, σ9))
      else
        (some ((-2), σ2))))
set_option maxHeartbeats 4000000 in
set_option maxRecDepth 100000 in
theorem c_X11_map (l : Launch) (D : va_G) (c : zC) (o : Nat) (g : zEp) (N : Nat) {x0 : Nat} {x1 : Int32} {x2 : Int32} {σ : zS} {ρ : Int32 × zS} (h : f_X11_map N x0 x1 x2 σ = some ρ) : Met l yX11_map zs_X11_map (zr 10) (va_Pc [.ref (o + x0), .int x1, .int x2] (zG D c o g σ)) (zQi D c o g ρ) 0 0 (zA o) := by
  refine zMetG (by decide) (Nat.le_of_ble_eq_true rfl) ?_
  intro p e s m below meth cd ⟨hx, hb, hr, hml, hown, hts, hlocks⟩ hP hK hE ls hl
  have hS : va_S (zA o) s.heap s.heap [] := va_S.rf
  have hl : lv_has ls 3 [(0, .ref (o + x0)), (1, .int x1), (2, .int x2)] := hl
  rw [f_X11_map.eq_1] at h
  refine lv_aload_n (pc := 0) hx hb dX11_map_0 rfl (lv_at hl 0 rfl) ?_
  refine lv_iload_n (pc := 1) hx hb dX11_map_1 rfl (lv_at hl 1 rfl) ?_
  obtain ⟨_, hg, h⟩ := zl_some h
  obtain ⟨v1, σ2, hv, h⟩ := zb_some h
  refine xcallVi (pc := 2) (As := [.int x1]) (rest := []) ⟨hx, hb, hml, hown, hts⟩ (c_X11_isRegister l D c o g N hv) zc11 zV_X11_135 rfl zd_X11_isRegister ⟨Nat.le_of_ble_eq_true rfl, Nat.le_of_ble_eq_true rfl⟩ hK hP hE hS hg hl.1 rfl (Nat.le_of_ble_eq_true rfl) ⟨Nat.zero_le _, Nat.zero_le _⟩ dX11_map_2 (fun H locs hP hS => ?_)
  refine lv_if_eq (pc := 5) (tgt := 17) hx hb dX11_map_5 (by decide) (fun c1 => ?_) (fun c1 => ?_)
  · rw [if_pos c1] at h
    refine lv_bipush (pc := 17) (v := (-2)) hx hb dX11_map_17 (by decide) ?_
    exact xreti (pc := 19) hx hb hr hlocks hP hK hE hS h dX11_map_19
  · rw [if_neg c1] at h
    refine lv_iload_n (pc := 8) hx hb dX11_map_8 rfl (lv_at hl 2 rfl) ?_
    refine lv_if_lt (pc := 9) (tgt := 17) hx hb dX11_map_9 (by decide) (fun c1 => ?_) (fun c1 => ?_)
    · rw [if_pos c1] at h
      refine lv_bipush (pc := 17) (v := (-2)) hx hb dX11_map_17 (by decide) ?_
      exact xreti (pc := 19) hx hb hr hlocks hP hK hE hS h dX11_map_19
    · rw [if_neg c1] at h
      refine lv_iload_n (pc := 12) hx hb dX11_map_12 rfl (lv_at hl 2 rfl) ?_
      refine lv_iconst (pc := 13) (v := 2) hx hb dX11_map_13 (by decide) ?_
      refine lv_icmp_le (pc := 14) (tgt := 20) hx hb dX11_map_14 (by decide) (fun c1 => ?_) (fun c1 => ?_)
      · rw [if_pos c1] at h
        refine lv_aload_n (pc := 20) hx hb dX11_map_20 rfl (lv_at hl 0 rfl) ?_
        obtain ⟨v3, hv, h⟩ := zl_some h
        refine xgR (pc := 21) (j := 15) zc11 hx hb hts hown hK hP hv rfl zf_X11_92 dX11_map_21 ?_
        refine lv_aload_n (pc := 24) hx hb dX11_map_24 rfl (lv_at hl 0 rfl) ?_
        obtain ⟨v4, hv, h⟩ := zl_some h
        refine xgR (pc := 25) (j := 4) zc11 hx hb hts hown hK hP hv rfl zf_X11_26 dX11_map_25 ?_
        refine lv_iload_n (pc := 28) hx hb dX11_map_28 rfl (lv_at hl 2 rfl) ?_
        refine lv_aload_n (pc := 29) hx hb dX11_map_29 rfl (lv_at hl 0 rfl) ?_
        obtain ⟨v5, hv, h⟩ := zl_some h
        refine xgR (pc := 30) (j := 17) zc11 hx hb hts hown hK hP hv rfl zf_X11_106 dX11_map_30 ?_
        obtain ⟨_, hg, h⟩ := zl_some h
        obtain ⟨v6, σ7, hv, h⟩ := zb_some h
        refine xcallVv (pc := 33) (As := [.ref (o + v4), .int x2, .ref (o + v5)]) (rest := []) ⟨hx, hb, hml, hown, hts⟩ (c_X6_findSets l D c o g N hv) zc6 zV_X11_298 rfl zd_X6_findSets ⟨Nat.le_of_ble_eq_true rfl, Nat.le_of_ble_eq_true rfl⟩ hK hP hE hS hg hl.1 rfl (Nat.le_of_ble_eq_true rfl) ⟨Nat.zero_le _, Nat.zero_le _⟩ dX11_map_33 (fun H locs hP hS => ?_)
        refine lv_aload_n (pc := 36) hx hb dX11_map_36 rfl (lv_at hl 0 rfl) ?_
        refine lv_iload_n (pc := 37) hx hb dX11_map_37 rfl (lv_at hl 1 rfl) ?_
        obtain ⟨_, hg, h⟩ := zl_some h
        obtain ⟨v8, σ9, hv, h⟩ := zb_some h
        refine xcallVi (pc := 38) (As := [.int x1]) (rest := []) ⟨hx, hb, hml, hown, hts⟩ (c_X11_store l D c o g N hv) zc11 zV_X11_168 rfl zd_X11_store ⟨Nat.le_of_ble_eq_true rfl, Nat.le_of_ble_eq_true rfl⟩ hK hP hE hS hg hl.1 rfl (Nat.le_of_ble_eq_true rfl) ⟨Nat.zero_le _, Nat.zero_le _⟩ dX11_map_38 (fun H locs hP hS => ?_)
        exact xreti (pc := 41) hx hb hr hlocks hP hK hE hS h dX11_map_41
      · rw [if_neg c1] at h
        refine lv_bipush (pc := 17) (v := (-2)) hx hb dX11_map_17 (by decide) ?_
        exact xreti (pc := 19) hx hb hr hlocks hP hK hE hS h dX11_map_19
def f_X11_cuts (N : Nat) (x0 : Nat) (x1 : Int32) (x2 : Int32) (x3 : Int32) (σ : zS) : Option (Int32 × zS) :=
  zl (gC 11 x0) fun _ => zb (f_X11_isRegister N x0 x1 σ) fun v1 σ2 =>
  if v1 = 0 then
    (some ((-2), σ2))
  else
    (zl (gC 11 x0) fun _ => zb (f_X11_isCrossing N x0 x2 σ2) fun v3 σ4 =>
    if v3 = 0 then
      (some ((-2), σ4))
    else
      (zl (gC 11 x0) fun _ => zb (f_X11_isCrossing N x0 x3 σ4) fun v5 σ6 =>
      if v5 = 0 then
        (some ((-2), σ6))
      else
        (zl (gR 11 15 x0 σ6) fun v7 =>
        zl (gR 11 4 x0 σ6) fun v8 =>
        zl (gR 11 17 x0 σ6) fun v9 =>
        zl (gC 6 v7) fun _ => zb (f_X6_findWays N v7 v8 x2 x3 v9 σ6) fun v10 σ11 =>
        zl (gR 11 11 x0 σ11) fun v12 =>
        zl (gR 11 17 x0 σ11) fun v13 =>
        zl (gR 11 4 x0 σ11) fun v14 =>
        zl (gI 10 0 v14 σ11) fun v15 =>
        zl (gC 0 v12) fun _ => zb (f_X0_reshape N v12 2 v13 v15 σ11) fun v16 σ17 =>
        zl (gC 11 x0) fun _ => zb (f_X11_store N x0 x1 σ17) fun v18 σ19 =>
        some (v18, σ19))))
set_option maxHeartbeats 4000000 in
set_option maxRecDepth 100000 in
theorem c_X11_cuts (l : Launch) (D : va_G) (c : zC) (o : Nat) (g : zEp) (N : Nat) {x0 : Nat} {x1 : Int32} {x2 : Int32} {x3 : Int32} {σ : zS} {ρ : Int32 × zS} (h : f_X11_cuts N x0 x1 x2 x3 σ = some ρ) : Met l yX11_cuts zs_X11_cuts (zr 18) (va_Pc [.ref (o + x0), .int x1, .int x2, .int x3] (zG D c o g σ)) (zQi D c o g ρ) 0 0 (zA o) := by
  refine zMetG (by decide) (Nat.le_of_ble_eq_true rfl) ?_
  intro p e s m below meth cd ⟨hx, hb, hr, hml, hown, hts, hlocks⟩ hP hK hE ls hl
  have hS : va_S (zA o) s.heap s.heap [] := va_S.rf
  have hl : lv_has ls 4 [(0, .ref (o + x0)), (1, .int x1), (2, .int x2), (3, .int x3)] := hl
  rw [f_X11_cuts.eq_1] at h
  refine lv_aload_n (pc := 0) hx hb dX11_cuts_0 rfl (lv_at hl 0 rfl) ?_
  refine lv_iload_n (pc := 1) hx hb dX11_cuts_1 rfl (lv_at hl 1 rfl) ?_
  obtain ⟨_, hg, h⟩ := zl_some h
  obtain ⟨v1, σ2, hv, h⟩ := zb_some h
  refine xcallVi (pc := 2) (As := [.int x1]) (rest := []) ⟨hx, hb, hml, hown, hts⟩ (c_X11_isRegister l D c o g N hv) zc11 zV_X11_135 rfl zd_X11_isRegister ⟨Nat.le_of_ble_eq_true rfl, Nat.le_of_ble_eq_true rfl⟩ hK hP hE hS hg hl.1 rfl (Nat.le_of_ble_eq_true rfl) ⟨Nat.zero_le _, Nat.zero_le _⟩ dX11_cuts_2 (fun H locs hP hS => ?_)
  refine lv_if_eq (pc := 5) (tgt := 24) hx hb dX11_cuts_5 (by decide) (fun c1 => ?_) (fun c1 => ?_)
  · rw [if_pos c1] at h
    refine lv_bipush (pc := 24) (v := (-2)) hx hb dX11_cuts_24 (by decide) ?_
    exact xreti (pc := 26) hx hb hr hlocks hP hK hE hS h dX11_cuts_26
  · rw [if_neg c1] at h
    refine lv_aload_n (pc := 8) hx hb dX11_cuts_8 rfl (lv_at hl 0 rfl) ?_
    refine lv_iload_n (pc := 9) hx hb dX11_cuts_9 rfl (lv_at hl 2 rfl) ?_
    obtain ⟨_, hg, h⟩ := zl_some h
    obtain ⟨v3, σ4, hv, h⟩ := zb_some h
    refine xcallVi (pc := 10) (As := [.int x2]) (rest := []) ⟨hx, hb, hml, hown, hts⟩ (c_X11_isCrossing l D c o g N hv) zc11 zV_X11_291 rfl zd_X11_isCrossing ⟨Nat.le_of_ble_eq_true rfl, Nat.le_of_ble_eq_true rfl⟩ hK hP hE hS hg hl.1 rfl (Nat.le_of_ble_eq_true rfl) ⟨Nat.zero_le _, Nat.zero_le _⟩ dX11_cuts_10 (fun H locs hP hS => ?_)
    refine lv_if_eq (pc := 13) (tgt := 24) hx hb dX11_cuts_13 (by decide) (fun c1 => ?_) (fun c1 => ?_)
    · rw [if_pos c1] at h
      refine lv_bipush (pc := 24) (v := (-2)) hx hb dX11_cuts_24 (by decide) ?_
      exact xreti (pc := 26) hx hb hr hlocks hP hK hE hS h dX11_cuts_26
    · rw [if_neg c1] at h
      refine lv_aload_n (pc := 16) hx hb dX11_cuts_16 rfl (lv_at hl 0 rfl) ?_
      refine lv_iload_n (pc := 17) hx hb dX11_cuts_17 rfl (lv_at hl 3 rfl) ?_
      obtain ⟨_, hg, h⟩ := zl_some h
      obtain ⟨v5, σ6, hv, h⟩ := zb_some h
      refine xcallVi (pc := 18) (As := [.int x3]) (rest := []) ⟨hx, hb, hml, hown, hts⟩ (c_X11_isCrossing l D c o g N hv) zc11 zV_X11_291 rfl zd_X11_isCrossing ⟨Nat.le_of_ble_eq_true rfl, Nat.le_of_ble_eq_true rfl⟩ hK hP hE hS hg hl.1 rfl (Nat.le_of_ble_eq_true rfl) ⟨Nat.zero_le _, Nat.zero_le _⟩ dX11_cuts_18 (fun H locs hP hS => ?_)
      refine lv_if_ne (pc := 21) (tgt := 27) hx hb dX11_cuts_21 (by decide) (fun c1 => ?_) (fun c1 => ?_)
      · rw [if_neg c1] at h
        refine lv_aload_n (pc := 27) hx hb dX11_cuts_27 rfl (lv_at hl 0 rfl) ?_
        obtain ⟨v7, hv, h⟩ := zl_some h
        refine xgR (pc := 28) (j := 15) zc11 hx hb hts hown hK hP hv rfl zf_X11_92 dX11_cuts_28 ?_
        refine lv_aload_n (pc := 31) hx hb dX11_cuts_31 rfl (lv_at hl 0 rfl) ?_
        obtain ⟨v8, hv, h⟩ := zl_some h
        refine xgR (pc := 32) (j := 4) zc11 hx hb hts hown hK hP hv rfl zf_X11_26 dX11_cuts_32 ?_
        refine lv_iload_n (pc := 35) hx hb dX11_cuts_35 rfl (lv_at hl 2 rfl) ?_
        refine lv_iload_n (pc := 36) hx hb dX11_cuts_36 rfl (lv_at hl 3 rfl) ?_
        refine lv_aload_n (pc := 37) hx hb dX11_cuts_37 rfl (lv_at hl 0 rfl) ?_
        obtain ⟨v9, hv, h⟩ := zl_some h
        refine xgR (pc := 38) (j := 17) zc11 hx hb hts hown hK hP hv rfl zf_X11_106 dX11_cuts_38 ?_
        obtain ⟨_, hg, h⟩ := zl_some h
        obtain ⟨v10, σ11, hv, h⟩ := zb_some h
        refine xcallVv (pc := 41) (As := [.ref (o + v8), .int x2, .int x3, .ref (o + v9)]) (rest := []) ⟨hx, hb, hml, hown, hts⟩ (c_X6_findWays l D c o g N hv) zc6 zV_X11_294 rfl zd_X6_findWays ⟨Nat.le_of_ble_eq_true rfl, Nat.le_of_ble_eq_true rfl⟩ hK hP hE hS hg hl.1 rfl (Nat.le_of_ble_eq_true rfl) ⟨Nat.zero_le _, Nat.zero_le _⟩ dX11_cuts_41 (fun H locs hP hS => ?_)
        refine lv_aload_n (pc := 44) hx hb dX11_cuts_44 rfl (lv_at hl 0 rfl) ?_
        obtain ⟨v12, hv, h⟩ := zl_some h
        refine xgR (pc := 45) (j := 11) zc11 hx hb hts hown hK hP hv rfl zf_X11_64 dX11_cuts_45 ?_
        refine lv_iconst (pc := 48) (v := 2) hx hb dX11_cuts_48 (by decide) ?_
        refine lv_aload_n (pc := 49) hx hb dX11_cuts_49 rfl (lv_at hl 0 rfl) ?_
        obtain ⟨v13, hv, h⟩ := zl_some h
        refine xgR (pc := 50) (j := 17) zc11 hx hb hts hown hK hP hv rfl zf_X11_106 dX11_cuts_50 ?_
        refine lv_aload_n (pc := 53) hx hb dX11_cuts_53 rfl (lv_at hl 0 rfl) ?_
        obtain ⟨v14, hv, h⟩ := zl_some h
        refine xgR (pc := 54) (j := 4) zc11 hx hb hts hown hK hP hv rfl zf_X11_26 dX11_cuts_54 ?_
        obtain ⟨v15, hv, h⟩ := zl_some h
        refine xgI (pc := 57) (j := 0) zc10 hx hb hts hown hK hP hv rfl zf_X11_139 dX11_cuts_57 ?_
        obtain ⟨_, hg, h⟩ := zl_some h
        obtain ⟨v16, σ17, hv, h⟩ := zb_some h
        refine xcallVv (pc := 60) (As := [.int 2, .ref (o + v13), .int v15]) (rest := []) ⟨hx, hb, hml, hown, hts⟩ (c_X0_reshape l D c o g N hv) zc0 zV_X11_172 rfl zd_X0_reshape ⟨Nat.le_of_ble_eq_true rfl, Nat.le_of_ble_eq_true rfl⟩ hK hP hE hS hg hl.1 rfl (Nat.le_of_ble_eq_true rfl) ⟨Nat.zero_le _, Nat.zero_le _⟩ dX11_cuts_60 (fun H locs hP hS => ?_)
        refine lv_aload_n (pc := 63) hx hb dX11_cuts_63 rfl (lv_at hl 0 rfl) ?_
        refine lv_iload_n (pc := 64) hx hb dX11_cuts_64 rfl (lv_at hl 1 rfl) ?_
        obtain ⟨_, hg, h⟩ := zl_some h
        obtain ⟨v18, σ19, hv, h⟩ := zb_some h
        refine xcallVi (pc := 65) (As := [.int x1]) (rest := []) ⟨hx, hb, hml, hown, hts⟩ (c_X11_store l D c o g N hv) zc11 zV_X11_168 rfl zd_X11_store ⟨Nat.le_of_ble_eq_true rfl, Nat.le_of_ble_eq_true rfl⟩ hK hP hE hS hg hl.1 rfl (Nat.le_of_ble_eq_true rfl) ⟨Nat.zero_le _, Nat.zero_le _⟩ dX11_cuts_65 (fun H locs hP hS => ?_)
        exact xreti (pc := 68) hx hb hr hlocks hP hK hE hS h dX11_cuts_68
      · rw [if_pos c1] at h
        refine lv_bipush (pc := 24) (v := (-2)) hx hb dX11_cuts_24 (by decide) ?_
        exact xreti (pc := 26) hx hb hr hlocks hP hK hE hS h dX11_cuts_26
def f_X11_isSlot (N : Nat) (x0 : Nat) (x1 : Int32) (σ : zS) : Option (Int32 × zS) :=
  if x1 < 0 then
    (rZ 0 σ)
  else
    (if 4 ≤ x1 then
      (rZ 0 σ)
    else
      (rZ 1 σ))
set_option maxHeartbeats 4000000 in
set_option maxRecDepth 100000 in
theorem c_X11_isSlot (l : Launch) (D : va_G) (c : zC) (o : Nat) (g : zEp) (N : Nat) {x0 : Nat} {x1 : Int32} {σ : zS} {ρ : Int32 × zS} (h : f_X11_isSlot N x0 x1 σ = some ρ) : Met l yX11_isSlot zs_X11_isSlot (zr 2) (va_Pc [.ref (o + x0), .int x1] (zG D c o g σ)) (zQi D c o g ρ) 0 0 (zA o) := by
  refine zMetG (by decide) (Nat.le_of_ble_eq_true rfl) ?_
  intro p e s m below meth cd ⟨hx, hb, hr, hml, hown, hts, hlocks⟩ hP hK hE ls hl
  have hS : va_S (zA o) s.heap s.heap [] := va_S.rf
  have hl : lv_has ls 2 [(0, .ref (o + x0)), (1, .int x1)] := hl
  rw [f_X11_isSlot.eq_1] at h
  refine lv_iload_n (pc := 0) hx hb dX11_isSlot_0 rfl (lv_at hl 1 rfl) ?_
  refine lv_if_lt (pc := 1) (tgt := 13) hx hb dX11_isSlot_1 (by decide) (fun c1 => ?_) (fun c1 => ?_)
  · rw [if_pos c1] at h
    refine lv_iconst (pc := 13) (v := 0) hx hb dX11_isSlot_13 (by decide) ?_
    exact xretz (pc := 14) hx hb hr hlocks hP hK hE hS h dX11_isSlot_14
  · rw [if_neg c1] at h
    refine lv_iload_n (pc := 4) hx hb dX11_isSlot_4 rfl (lv_at hl 1 rfl) ?_
    refine lv_iconst (pc := 5) (v := 4) hx hb dX11_isSlot_5 (by decide) ?_
    refine lv_icmp_ge (pc := 6) (tgt := 13) hx hb dX11_isSlot_6 (by decide) (fun c1 => ?_) (fun c1 => ?_)
    · rw [if_pos c1] at h
      refine lv_iconst (pc := 13) (v := 0) hx hb dX11_isSlot_13 (by decide) ?_
      exact xretz (pc := 14) hx hb hr hlocks hP hK hE hS h dX11_isSlot_14
    · rw [if_neg c1] at h
      refine lv_iconst (pc := 9) (v := 1) hx hb dX11_isSlot_9 (by decide) ?_
      refine lv_goto (pc := 10) (tgt := 14) hx hb dX11_isSlot_10 (by decide) ?_
      exact xretz (pc := 14) hx hb hr hlocks hP hK hE hS h dX11_isSlot_14
def F_X11_judge_53 (N : Nat) (x3 : Nat) (x4 : Nat) (again53 : (Int32 × Int32 × zS) → Option (Int32 × zS)) : Int32 × Int32 × zS → Option (Int32 × zS)
  | (x5, x6, σ) =>
  zl (gI 9 2 x3 σ) fun v12 =>
  if v12 ≤ x6 then
    (zl (gC 2 x4) fun _ => zb (f_X2_firstFrom N x4 x5 σ) fun v13 σ14 =>
    if v13 < 0 then
      (zl (gI 9 2 x3 σ14) fun v15 =>
      some (v15, σ14))
    else
      (some ((-1), σ14)))
  else
    (zl (gC 2 x4) fun _ => zb (f_X2_firstFrom N x4 x5 σ) fun v16 σ17 =>
    if v16 < 0 then
      (some (x6, σ17))
    else
      (zl (gR 9 0 x3 σ17) fun v18 =>
      zl (aJ v18 x6 σ17) fun v19 =>
      if (lg_cmp v19 (Int32.toInt64 v16)) = 0 then
        (again53 (v16 + 1, x6 + 1, σ17))
      else
        (some (x6, σ17))))
def f_X11_judge (N : Nat) (x0 : Nat) (x1 : Int32) (x2 : Int32) (σ : zS) : Option (Int32 × zS) :=
  zl (gC 11 x0) fun _ => zb (f_X11_isSlot N x0 x1 σ) fun v1 σ2 =>
  if v1 = 0 then
    (some ((-2), σ2))
  else
    (zl (gC 11 x0) fun _ => zb (f_X11_isRegister N x0 x2 σ2) fun v3 σ4 =>
    if v3 = 0 then
      (some ((-2), σ4))
    else
      (zl (gR 11 8 x0 σ4) fun v5 =>
      zl (aR 18 v5 x1 σ4) fun v6 =>
      zl (gC 9 v6) fun _ => zb (f_X9_isBare N v6 σ4) fun v7 σ8 =>
      if v7 = 0 then
        (zl (gR 11 4 x0 σ8) fun v9 =>
        zl (gR 10 7 v9 σ8) fun v10 =>
        zl (aR 17 v10 x2 σ8) fun v11 =>
        zlp (F_X11_judge_53 N v6 v11) N (0, 0, σ8))
      else
        (some ((-6), σ8))))
set_option maxHeartbeats 4000000 in
set_option maxRecDepth 100000 in
theorem c_X11_judge (l : Launch) (D : va_G) (c : zC) (o : Nat) (g : zEp) (N : Nat) {x0 : Nat} {x1 : Int32} {x2 : Int32} {σ : zS} {ρ : Int32 × zS} (h : f_X11_judge N x0 x1 x2 σ = some ρ) : Met l yX11_judge zs_X11_judge (zr 8) (va_Pc [.ref (o + x0), .int x1, .int x2] (zG D c o g σ)) (zQi D c o g ρ) 0 0 (zA o) := by
  refine zMetG (by decide) (Nat.le_of_ble_eq_true rfl) ?_
  intro p e s m below meth cd ⟨hx, hb, hr, hml, hown, hts, hlocks⟩ hP hK hE ls hl
  have hS : va_S (zA o) s.heap s.heap [] := va_S.rf
  have hl : lv_has ls 8 [(0, .ref (o + x0)), (1, .int x1), (2, .int x2)] := hl
  rw [f_X11_judge.eq_1] at h
  refine lv_aload_n (pc := 0) hx hb dX11_judge_0 rfl (lv_at hl 0 rfl) ?_
  refine lv_iload_n (pc := 1) hx hb dX11_judge_1 rfl (lv_at hl 1 rfl) ?_
  obtain ⟨_, hg, h⟩ := zl_some h
  obtain ⟨v1, σ2, hv, h⟩ := zb_some h
  refine xcallVi (pc := 2) (As := [.int x1]) (rest := []) ⟨hx, hb, hml, hown, hts⟩ (c_X11_isSlot l D c o g N hv) zc11 zV_X11_302 rfl zd_X11_isSlot ⟨Nat.le_of_ble_eq_true rfl, Nat.le_of_ble_eq_true rfl⟩ hK hP hE hS hg hl.1 rfl (Nat.le_of_ble_eq_true rfl) ⟨Nat.zero_le _, Nat.zero_le _⟩ dX11_judge_2 (fun H locs hP hS => ?_)
  refine lv_if_eq (pc := 5) (tgt := 16) hx hb dX11_judge_5 (by decide) (fun c1 => ?_) (fun c1 => ?_)
  · rw [if_pos c1] at h
    refine lv_bipush (pc := 16) (v := (-2)) hx hb dX11_judge_16 (by decide) ?_
    exact xreti (pc := 18) hx hb hr hlocks hP hK hE hS h dX11_judge_18
  · rw [if_neg c1] at h
    refine lv_aload_n (pc := 8) hx hb dX11_judge_8 rfl (lv_at hl 0 rfl) ?_
    refine lv_iload_n (pc := 9) hx hb dX11_judge_9 rfl (lv_at hl 2 rfl) ?_
    obtain ⟨_, hg, h⟩ := zl_some h
    obtain ⟨v3, σ4, hv, h⟩ := zb_some h
    refine xcallVi (pc := 10) (As := [.int x2]) (rest := []) ⟨hx, hb, hml, hown, hts⟩ (c_X11_isRegister l D c o g N hv) zc11 zV_X11_135 rfl zd_X11_isRegister ⟨Nat.le_of_ble_eq_true rfl, Nat.le_of_ble_eq_true rfl⟩ hK hP hE hS hg hl.1 rfl (Nat.le_of_ble_eq_true rfl) ⟨Nat.zero_le _, Nat.zero_le _⟩ dX11_judge_10 (fun H locs hP hS => ?_)
    refine lv_if_ne (pc := 13) (tgt := 19) hx hb dX11_judge_13 (by decide) (fun c1 => ?_) (fun c1 => ?_)
    · rw [if_neg c1] at h
      refine lv_aload_n (pc := 19) hx hb dX11_judge_19 rfl (lv_at hl 0 rfl) ?_
      obtain ⟨v5, hv, h⟩ := zl_some h
      refine xgR (pc := 20) (j := 8) zc11 hx hb hts hown hK hP hv rfl zf_X11_43 dX11_judge_20 ?_
      refine lv_iload_n (pc := 23) hx hb dX11_judge_23 rfl (lv_at hl 1 rfl) ?_
      obtain ⟨v6, hv, h⟩ := zl_some h
      refine xaS (pc := 24) hx hb hK hP hv dX11_judge_24 ?_
      refine lv_astore_n (pc := 25) (lv' := [(3, .ref (o + v6)), (0, .ref (o + x0)), (1, .int x1), (2, .int x2)]) hx hb dX11_judge_25 rfl hl (by decide) rfl (fun ls hl => ?_)
      refine lv_aload_n (pc := 26) hx hb dX11_judge_26 rfl (lv_at hl 0 rfl) ?_
      obtain ⟨_, hg, h⟩ := zl_some h
      obtain ⟨v7, σ8, hv, h⟩ := zb_some h
      refine xcallVi (pc := 27) (As := []) (rest := []) ⟨hx, hb, hml, hown, hts⟩ (c_X9_isBare l D c o g N hv) zc9 zV_X11_305 rfl zd_X9_isBare ⟨Nat.le_of_ble_eq_true rfl, Nat.le_of_ble_eq_true rfl⟩ hK hP hE hS hg hl.1 rfl (Nat.le_of_ble_eq_true rfl) ⟨Nat.zero_le _, Nat.zero_le _⟩ dX11_judge_27 (fun H locs hP hS => ?_)
      refine lv_if_eq (pc := 30) (tgt := 36) hx hb dX11_judge_30 (by decide) (fun c1 => ?_) (fun c1 => ?_)
      · rw [if_pos c1] at h
        refine lv_aload_n (pc := 36) hx hb dX11_judge_36 rfl (lv_at hl 1 rfl) ?_
        obtain ⟨v9, hv, h⟩ := zl_some h
        refine xgR (pc := 37) (j := 4) zc11 hx hb hts hown hK hP hv rfl zf_X11_26 dX11_judge_37 ?_
        obtain ⟨v10, hv, h⟩ := zl_some h
        refine xgR (pc := 40) (j := 7) zc10 hx hb hts hown hK hP hv rfl zf_X11_146 dX11_judge_40 ?_
        refine lv_iload_n (pc := 43) hx hb dX11_judge_43 rfl (lv_at hl 3 rfl) ?_
        obtain ⟨v11, hv, h⟩ := zl_some h
        refine xaF (pc := 44) hx hb hK hP hv dX11_judge_44 ?_
        refine lv_astore (pc := 45) (lv' := [(4, .ref (o + v11)), (3, .ref (o + v6)), (0, .ref (o + x0)), (1, .int x1), (2, .int x2)]) hx hb dX11_judge_45 hl (by decide) rfl (fun ls hl => ?_)
        refine lv_iconst (pc := 47) (v := 0) hx hb dX11_judge_47 (by decide) ?_
        refine lv_istore (pc := 48) (lv' := [(5, .int 0), (4, .ref (o + v11)), (3, .ref (o + v6)), (0, .ref (o + x0)), (1, .int x1), (2, .int x2)]) hx hb dX11_judge_48 hl (by decide) rfl (fun ls hl => ?_)
        refine lv_iconst (pc := 50) (v := 0) hx hb dX11_judge_50 (by decide) ?_
        refine lv_istore (pc := 51) (lv' := [(6, .int 0), (5, .int 0), (4, .ref (o + v11)), (3, .ref (o + v6)), (0, .ref (o + x0)), (1, .int x1), (2, .int x2)]) hx hb dX11_judge_51 hl (by decide) rfl (fun ls hl => ?_)
        have L53_12 : ∀ (n : Nat) (t : Int32 × Int32 × zS), zlp (F_X11_judge_53 N v6 v11) n t = some ρ → ∀ (H : Heap) (locs : List Loc) (ls : Array Slot), zP D c o (zabs o (t.2.2)) H → va_S (zA o) s.heap H locs → lv_has ls 8 [(5, .int (t.1)), (6, .int (t.2.1)), (3, .ref (o + v6)), (4, .ref (o + v11))] → W p l e (zr 8) s m (([.ref (o + x0), .int x1, .int x2] : List Value).toArray) below meth cd H locs 0 0 (MQ below (zQi D c o g ρ) (([.ref (o + x0), .int x1, .int x2] : List Value).toArray) s 0 0 (zA o)) (F0 m 53 ls []) := by
          refine zlp_ind (fun ag12 ih12 t h H locs ls hP hS hl => ?_)
          obtain ⟨x5_12, x6_12, σ12⟩ := t
          have hP : zP D c o (zabs o σ12) H := hP
          have hl : lv_has ls 8 [(5, .int x5_12), (6, .int x6_12), (3, .ref (o + v6)), (4, .ref (o + v11))] := hl
          rw [F_X11_judge_53.eq_1] at h
          show W p l e (zr 8) s m (([.ref (o + x0), .int x1, .int x2] : List Value).toArray) below meth cd H locs 0 0 (MQ below (zQi D c o g ρ) (([.ref (o + x0), .int x1, .int x2] : List Value).toArray) s 0 0 (zA o)) (F0 m 53 ls [])
          refine lv_iload (pc := 53) hx hb dX11_judge_53 (lv_at hl 1 rfl) ?_
          refine lv_aload_n (pc := 55) hx hb dX11_judge_55 rfl (lv_at hl 2 rfl) ?_
          obtain ⟨v13, hv, h⟩ := zl_some h
          refine xgI (pc := 56) (j := 2) zc9 hx hb hts hown hK hP hv rfl zf_X11_308 dX11_judge_56 ?_
          refine lv_icmp_ge (pc := 59) (tgt := 105) hx hb dX11_judge_59 (by decide) (fun c1 => ?_) (fun c1 => ?_)
          · rw [if_pos c1] at h
            refine lv_aload (pc := 105) hx hb dX11_judge_105 (lv_at hl 3 rfl) ?_
            refine lv_iload (pc := 107) hx hb dX11_judge_107 (lv_at hl 0 rfl) ?_
            obtain ⟨_, hg, h⟩ := zl_some h
            obtain ⟨v14, σ15, hv, h⟩ := zb_some h
            refine xcallVi (pc := 109) (As := [.int x5_12]) (rest := []) ⟨hx, hb, hml, hown, hts⟩ (c_X2_firstFrom l D c o g N hv) zc2 zV_X11_311 rfl zd_X2_firstFrom ⟨Nat.le_of_ble_eq_true rfl, Nat.le_of_ble_eq_true rfl⟩ hK hP hE hS hg hl.1 rfl (Nat.le_of_ble_eq_true rfl) ⟨Nat.zero_le _, Nat.zero_le _⟩ dX11_judge_109 (fun H locs hP hS => ?_)
            refine lv_if_lt (pc := 112) (tgt := 119) hx hb dX11_judge_112 (by decide) (fun c1 => ?_) (fun c1 => ?_)
            · rw [if_pos c1] at h
              refine lv_aload_n (pc := 119) hx hb dX11_judge_119 rfl (lv_at hl 2 rfl) ?_
              obtain ⟨v16, hv, h⟩ := zl_some h
              refine xgI (pc := 120) (j := 2) zc9 hx hb hts hown hK hP hv rfl zf_X11_308 dX11_judge_120 ?_
              exact xreti (pc := 123) hx hb hr hlocks hP hK hE hS h dX11_judge_123
            · rw [if_neg c1] at h
              refine lv_iconst (pc := 115) (v := (-1)) hx hb dX11_judge_115 (by decide) ?_
              refine lv_goto (pc := 116) (tgt := 123) hx hb dX11_judge_116 (by decide) ?_
              exact xreti (pc := 123) hx hb hr hlocks hP hK hE hS h dX11_judge_123
          · rw [if_neg c1] at h
            refine lv_aload (pc := 62) hx hb dX11_judge_62 (lv_at hl 3 rfl) ?_
            refine lv_iload (pc := 64) hx hb dX11_judge_64 (lv_at hl 0 rfl) ?_
            obtain ⟨_, hg, h⟩ := zl_some h
            obtain ⟨v17, σ18, hv, h⟩ := zb_some h
            refine xcallVi (pc := 66) (As := [.int x5_12]) (rest := []) ⟨hx, hb, hml, hown, hts⟩ (c_X2_firstFrom l D c o g N hv) zc2 zV_X11_311 rfl zd_X2_firstFrom ⟨Nat.le_of_ble_eq_true rfl, Nat.le_of_ble_eq_true rfl⟩ hK hP hE hS hg hl.1 rfl (Nat.le_of_ble_eq_true rfl) ⟨Nat.zero_le _, Nat.zero_le _⟩ dX11_judge_66 (fun H locs hP hS => ?_)
            refine lv_istore (pc := 69) (lv' := [(7, .int v17), (5, .int x5_12), (6, .int x6_12), (3, .ref (o + v6)), (4, .ref (o + v11))]) hx hb dX11_judge_69 hl (by decide) rfl (fun ls hl => ?_)
            refine lv_iload (pc := 71) hx hb dX11_judge_71 (lv_at hl 0 rfl) ?_
            refine lv_if_lt (pc := 73) (tgt := 90) hx hb dX11_judge_73 (by decide) (fun c1 => ?_) (fun c1 => ?_)
            · rw [if_pos c1] at h
              refine lv_iload (pc := 90) hx hb dX11_judge_90 (lv_at hl 2 rfl) ?_
              exact xreti (pc := 92) hx hb hr hlocks hP hK hE hS h dX11_judge_92
            · rw [if_neg c1] at h
              refine lv_aload_n (pc := 76) hx hb dX11_judge_76 rfl (lv_at hl 3 rfl) ?_
              obtain ⟨v19, hv, h⟩ := zl_some h
              refine xgR (pc := 77) (j := 0) zc9 hx hb hts hown hK hP hv rfl zf_X11_314 dX11_judge_77 ?_
              refine lv_iload (pc := 80) hx hb dX11_judge_80 (lv_at hl 2 rfl) ?_
              obtain ⟨v20, hv, h⟩ := zl_some h
              refine xaJ (pc := 82) hx hb hK hP hv dX11_judge_82 ?_
              refine lv_iload (pc := 83) hx hb dX11_judge_83 (lv_at hl 0 rfl) ?_
              refine lv_i2l (pc := 85) hx hb dX11_judge_85 rfl ?_
              refine W.lcmp (pc := 86) hx hb dX11_judge_86 ?_
              refine lv_if_eq (pc := 87) (tgt := 93) hx hb dX11_judge_87 (by decide) (fun c1 => ?_) (fun c1 => ?_)
              · rw [if_pos c1] at h
                refine lv_iload (pc := 93) hx hb dX11_judge_93 (lv_at hl 0 rfl) ?_
                refine lv_iconst (pc := 95) (v := 1) hx hb dX11_judge_95 (by decide) ?_
                refine lv_iadd (pc := 96) hx hb dX11_judge_96 ?_
                refine lv_istore (pc := 97) (lv' := [(5, .int (v17 + 1)), (7, .int v17), (6, .int x6_12), (3, .ref (o + v6)), (4, .ref (o + v11))]) hx hb dX11_judge_97 hl (by decide) rfl (fun ls hl => ?_)
                refine lv_iinc (pc := 99) (v := x6_12 + 1) (lv' := [(6, .int (x6_12 + 1)), (5, .int (v17 + 1)), (7, .int v17), (3, .ref (o + v6)), (4, .ref (o + v11))]) hx hb dX11_judge_99 hl (k := 2) rfl rfl (by decide) rfl (fun ls hl => ?_)
                refine lv_goto (pc := 102) (tgt := 53) hx hb dX11_judge_102 (by decide) ?_
                exact ih12 (v17 + 1, x6_12 + 1, σ18) h _ _ ls hP hS (lv_sub hl [1, 0, 3, 4] rfl)
              · rw [if_neg c1] at h
                refine lv_iload (pc := 90) hx hb dX11_judge_90 (lv_at hl 2 rfl) ?_
                exact xreti (pc := 92) hx hb hr hlocks hP hK hE hS h dX11_judge_92
        exact L53_12 N (0, 0, σ8) h _ _ ls hP hS (lv_sub hl [1, 0, 3, 2] rfl)
      · rw [if_neg c1] at h
        refine lv_bipush (pc := 33) (v := (-6)) hx hb dX11_judge_33 (by decide) ?_
        exact xreti (pc := 35) hx hb hr hlocks hP hK hE hS h dX11_judge_35
    · rw [if_pos c1] at h
      refine lv_bipush (pc := 16) (v := (-2)) hx hb dX11_judge_16 (by decide) ?_
      exact xreti (pc := 18) hx hb hr hlocks hP hK hE hS h dX11_judge_18
def F_X11_takes_46 (N : Nat) (x0 : Nat) (x1 : Int32) (x3 : Nat) (again46 : (Int32 × zS) → Option (Int32 × zS)) : Int32 × zS → Option (Int32 × zS)
  | (x4, σ) =>
  zl (gI 9 2 x3 σ) fun v12 =>
  if v12 ≤ x4 then
    (zl (gC 11 x0) fun _ => zb (f_X11_store N x0 x1 σ) fun v13 σ14 =>
    some (v13, σ14))
  else
    (zl (gR 9 0 x3 σ) fun v15 =>
    zl (aJ v15 x4 σ) fun v16 =>
    if (lg_cmp v16 0) < 0 then
      (some ((-2), σ))
    else
      (zl (gR 11 4 x0 σ) fun v17 =>
      zl (gI 10 0 v17 σ) fun v18 =>
      if (lg_cmp v16 (zsl 1 v18)) < 0 then
        (zl (gR 11 17 x0 σ) fun v19 =>
        zl (gC 2 v19) fun _ => zb (f_X2_include N v19 (Int64.toInt32 v16) σ) fun v20 σ21 =>
        again46 (x4 + 1, σ21))
      else
        (some ((-2), σ))))
def f_X11_takes (N : Nat) (x0 : Nat) (x1 : Int32) (x2 : Int32) (σ : zS) : Option (Int32 × zS) :=
  zl (gC 11 x0) fun _ => zb (f_X11_isRegister N x0 x1 σ) fun v1 σ2 =>
  if v1 = 0 then
    (some ((-2), σ2))
  else
    (zl (gC 11 x0) fun _ => zb (f_X11_isSlot N x0 x2 σ2) fun v3 σ4 =>
    if v3 = 0 then
      (some ((-2), σ4))
    else
      (zl (gR 11 8 x0 σ4) fun v5 =>
      zl (aR 18 v5 x2 σ4) fun v6 =>
      zl (gC 9 v6) fun _ => zb (f_X9_isBare N v6 σ4) fun v7 σ8 =>
      if v7 = 0 then
        (zl (gR 11 17 x0 σ8) fun v9 =>
        zl (gC 2 v9) fun _ => zb (f_X2_clear N v9 σ8) fun v10 σ11 =>
        zlp (F_X11_takes_46 N x0 x1 v6) N (0, σ11))
      else
        (some ((-6), σ8))))
set_option maxHeartbeats 4000000 in
set_option maxRecDepth 100000 in
theorem c_X11_takes (l : Launch) (D : va_G) (c : zC) (o : Nat) (g : zEp) (N : Nat) {x0 : Nat} {x1 : Int32} {x2 : Int32} {σ : zS} {ρ : Int32 × zS} (h : f_X11_takes N x0 x1 x2 σ = some ρ) : Met l yX11_takes zs_X11_takes (zr 8) (va_Pc [.ref (o + x0), .int x1, .int x2] (zG D c o g σ)) (zQi D c o g ρ) 0 0 (zA o) := by
  refine zMetG (by decide) (Nat.le_of_ble_eq_true rfl) ?_
  intro p e s m below meth cd ⟨hx, hb, hr, hml, hown, hts, hlocks⟩ hP hK hE ls hl
  have hS : va_S (zA o) s.heap s.heap [] := va_S.rf
  have hl : lv_has ls 7 [(0, .ref (o + x0)), (1, .int x1), (2, .int x2)] := hl
  rw [f_X11_takes.eq_1] at h
  refine lv_aload_n (pc := 0) hx hb dX11_takes_0 rfl (lv_at hl 0 rfl) ?_
  refine lv_iload_n (pc := 1) hx hb dX11_takes_1 rfl (lv_at hl 1 rfl) ?_
  obtain ⟨_, hg, h⟩ := zl_some h
  obtain ⟨v1, σ2, hv, h⟩ := zb_some h
  refine xcallVi (pc := 2) (As := [.int x1]) (rest := []) ⟨hx, hb, hml, hown, hts⟩ (c_X11_isRegister l D c o g N hv) zc11 zV_X11_135 rfl zd_X11_isRegister ⟨Nat.le_of_ble_eq_true rfl, Nat.le_of_ble_eq_true rfl⟩ hK hP hE hS hg hl.1 rfl (Nat.le_of_ble_eq_true rfl) ⟨Nat.zero_le _, Nat.zero_le _⟩ dX11_takes_2 (fun H locs hP hS => ?_)
  refine lv_if_eq (pc := 5) (tgt := 16) hx hb dX11_takes_5 (by decide) (fun c1 => ?_) (fun c1 => ?_)
  · rw [if_pos c1] at h
    refine lv_bipush (pc := 16) (v := (-2)) hx hb dX11_takes_16 (by decide) ?_
    exact xreti (pc := 18) hx hb hr hlocks hP hK hE hS h dX11_takes_18
  · rw [if_neg c1] at h
    refine lv_aload_n (pc := 8) hx hb dX11_takes_8 rfl (lv_at hl 0 rfl) ?_
    refine lv_iload_n (pc := 9) hx hb dX11_takes_9 rfl (lv_at hl 2 rfl) ?_
    obtain ⟨_, hg, h⟩ := zl_some h
    obtain ⟨v3, σ4, hv, h⟩ := zb_some h
    refine xcallVi (pc := 10) (As := [.int x2]) (rest := []) ⟨hx, hb, hml, hown, hts⟩ (c_X11_isSlot l D c o g N hv) zc11 zV_X11_302 rfl zd_X11_isSlot ⟨Nat.le_of_ble_eq_true rfl, Nat.le_of_ble_eq_true rfl⟩ hK hP hE hS hg hl.1 rfl (Nat.le_of_ble_eq_true rfl) ⟨Nat.zero_le _, Nat.zero_le _⟩ dX11_takes_10 (fun H locs hP hS => ?_)
    refine lv_if_ne (pc := 13) (tgt := 19) hx hb dX11_takes_13 (by decide) (fun c1 => ?_) (fun c1 => ?_)
    · rw [if_neg c1] at h
      refine lv_aload_n (pc := 19) hx hb dX11_takes_19 rfl (lv_at hl 0 rfl) ?_
      obtain ⟨v5, hv, h⟩ := zl_some h
      refine xgR (pc := 20) (j := 8) zc11 hx hb hts hown hK hP hv rfl zf_X11_43 dX11_takes_20 ?_
      refine lv_iload_n (pc := 23) hx hb dX11_takes_23 rfl (lv_at hl 2 rfl) ?_
      obtain ⟨v6, hv, h⟩ := zl_some h
      refine xaS (pc := 24) hx hb hK hP hv dX11_takes_24 ?_
      refine lv_astore_n (pc := 25) (lv' := [(3, .ref (o + v6)), (0, .ref (o + x0)), (1, .int x1), (2, .int x2)]) hx hb dX11_takes_25 rfl hl (by decide) rfl (fun ls hl => ?_)
      refine lv_aload_n (pc := 26) hx hb dX11_takes_26 rfl (lv_at hl 0 rfl) ?_
      obtain ⟨_, hg, h⟩ := zl_some h
      obtain ⟨v7, σ8, hv, h⟩ := zb_some h
      refine xcallVi (pc := 27) (As := []) (rest := []) ⟨hx, hb, hml, hown, hts⟩ (c_X9_isBare l D c o g N hv) zc9 zV_X11_305 rfl zd_X9_isBare ⟨Nat.le_of_ble_eq_true rfl, Nat.le_of_ble_eq_true rfl⟩ hK hP hE hS hg hl.1 rfl (Nat.le_of_ble_eq_true rfl) ⟨Nat.zero_le _, Nat.zero_le _⟩ dX11_takes_27 (fun H locs hP hS => ?_)
      refine lv_if_eq (pc := 30) (tgt := 36) hx hb dX11_takes_30 (by decide) (fun c1 => ?_) (fun c1 => ?_)
      · rw [if_pos c1] at h
        refine lv_aload_n (pc := 36) hx hb dX11_takes_36 rfl (lv_at hl 1 rfl) ?_
        obtain ⟨v9, hv, h⟩ := zl_some h
        refine xgR (pc := 37) (j := 17) zc11 hx hb hts hown hK hP hv rfl zf_X11_106 dX11_takes_37 ?_
        obtain ⟨_, hg, h⟩ := zl_some h
        obtain ⟨v10, σ11, hv, h⟩ := zb_some h
        refine xcallVv (pc := 40) (As := []) (rest := []) ⟨hx, hb, hml, hown, hts⟩ (c_X2_clear l D c o g N hv) zc2 zV_X11_192 rfl zd_X2_clear ⟨Nat.le_of_ble_eq_true rfl, Nat.le_of_ble_eq_true rfl⟩ hK hP hE hS hg hl.1 rfl (Nat.le_of_ble_eq_true rfl) ⟨Nat.zero_le _, Nat.zero_le _⟩ dX11_takes_40 (fun H locs hP hS => ?_)
        refine lv_iconst (pc := 43) (v := 0) hx hb dX11_takes_43 (by decide) ?_
        refine lv_istore (pc := 44) (lv' := [(4, .int 0), (3, .ref (o + v6)), (0, .ref (o + x0)), (1, .int x1), (2, .int x2)]) hx hb dX11_takes_44 hl (by decide) rfl (fun ls hl => ?_)
        have L46_12 : ∀ (n : Nat) (t : Int32 × zS), zlp (F_X11_takes_46 N x0 x1 v6) n t = some ρ → ∀ (H : Heap) (locs : List Loc) (ls : Array Slot), zP D c o (zabs o (t.2)) H → va_S (zA o) s.heap H locs → lv_has ls 7 [(4, .int (t.1)), (0, .ref (o + x0)), (1, .int x1), (3, .ref (o + v6))] → W p l e (zr 8) s m (([.ref (o + x0), .int x1, .int x2] : List Value).toArray) below meth cd H locs 0 0 (MQ below (zQi D c o g ρ) (([.ref (o + x0), .int x1, .int x2] : List Value).toArray) s 0 0 (zA o)) (F0 m 46 ls []) := by
          refine zlp_ind (fun ag12 ih12 t h H locs ls hP hS hl => ?_)
          obtain ⟨x4_12, σ12⟩ := t
          have hP : zP D c o (zabs o σ12) H := hP
          have hl : lv_has ls 7 [(4, .int x4_12), (0, .ref (o + x0)), (1, .int x1), (3, .ref (o + v6))] := hl
          rw [F_X11_takes_46.eq_1] at h
          show W p l e (zr 8) s m (([.ref (o + x0), .int x1, .int x2] : List Value).toArray) below meth cd H locs 0 0 (MQ below (zQi D c o g ρ) (([.ref (o + x0), .int x1, .int x2] : List Value).toArray) s 0 0 (zA o)) (F0 m 46 ls [])
          refine lv_iload (pc := 46) hx hb dX11_takes_46 (lv_at hl 0 rfl) ?_
          refine lv_aload_n (pc := 48) hx hb dX11_takes_48 rfl (lv_at hl 3 rfl) ?_
          obtain ⟨v13, hv, h⟩ := zl_some h
          refine xgI (pc := 49) (j := 2) zc9 hx hb hts hown hK hP hv rfl zf_X11_308 dX11_takes_49 ?_
          refine lv_icmp_ge (pc := 52) (tgt := 105) hx hb dX11_takes_52 (by decide) (fun c1 => ?_) (fun c1 => ?_)
          · rw [if_pos c1] at h
            refine lv_aload_n (pc := 105) hx hb dX11_takes_105 rfl (lv_at hl 1 rfl) ?_
            refine lv_iload_n (pc := 106) hx hb dX11_takes_106 rfl (lv_at hl 2 rfl) ?_
            obtain ⟨_, hg, h⟩ := zl_some h
            obtain ⟨v14, σ15, hv, h⟩ := zb_some h
            refine xcallVi (pc := 107) (As := [.int x1]) (rest := []) ⟨hx, hb, hml, hown, hts⟩ (c_X11_store l D c o g N hv) zc11 zV_X11_168 rfl zd_X11_store ⟨Nat.le_of_ble_eq_true rfl, Nat.le_of_ble_eq_true rfl⟩ hK hP hE hS hg hl.1 rfl (Nat.le_of_ble_eq_true rfl) ⟨Nat.zero_le _, Nat.zero_le _⟩ dX11_takes_107 (fun H locs hP hS => ?_)
            exact xreti (pc := 110) hx hb hr hlocks hP hK hE hS h dX11_takes_110
          · rw [if_neg c1] at h
            refine lv_aload_n (pc := 55) hx hb dX11_takes_55 rfl (lv_at hl 3 rfl) ?_
            obtain ⟨v16, hv, h⟩ := zl_some h
            refine xgR (pc := 56) (j := 0) zc9 hx hb hts hown hK hP hv rfl zf_X11_314 dX11_takes_56 ?_
            refine lv_iload (pc := 59) hx hb dX11_takes_59 (lv_at hl 0 rfl) ?_
            obtain ⟨v17, hv, h⟩ := zl_some h
            refine xaJ (pc := 61) hx hb hK hP hv dX11_takes_61 ?_
            refine lv_lstore (pc := 62) (lv' := [(5, .long v17), (4, .int x4_12), (0, .ref (o + x0)), (1, .int x1), (3, .ref (o + v6))]) hx hb dX11_takes_62 hl (by decide) rfl (fun ls hl => ?_)
            refine lv_lload (pc := 64) hx hb dX11_takes_64 (lv_at hl 0 rfl) ?_
            refine lv_lconst (pc := 66) (v := 0) hx hb dX11_takes_66 (by decide) ?_
            refine W.lcmp (pc := 67) hx hb dX11_takes_67 ?_
            refine lv_if_lt (pc := 68) (tgt := 86) hx hb dX11_takes_68 (by decide) (fun c1 => ?_) (fun c1 => ?_)
            · rw [if_pos c1] at h
              refine lv_bipush (pc := 86) (v := (-2)) hx hb dX11_takes_86 (by decide) ?_
              exact xreti (pc := 88) hx hb hr hlocks hP hK hE hS h dX11_takes_88
            · rw [if_neg c1] at h
              refine lv_lload (pc := 71) hx hb dX11_takes_71 (lv_at hl 0 rfl) ?_
              refine lv_lconst (pc := 73) (v := 1) hx hb dX11_takes_73 (by decide) ?_
              refine lv_aload_n (pc := 74) hx hb dX11_takes_74 rfl (lv_at hl 2 rfl) ?_
              obtain ⟨v18, hv, h⟩ := zl_some h
              refine xgR (pc := 75) (j := 4) zc11 hx hb hts hown hK hP hv rfl zf_X11_26 dX11_takes_75 ?_
              obtain ⟨v19, hv, h⟩ := zl_some h
              refine xgI (pc := 78) (j := 0) zc10 hx hb hts hown hK hP hv rfl zf_X11_139 dX11_takes_78 ?_
              refine lv_lshl (pc := 81) (v := zsl 1 v19) hx hb dX11_takes_81 rfl ?_
              refine W.lcmp (pc := 82) hx hb dX11_takes_82 ?_
              refine lv_if_lt (pc := 83) (tgt := 89) hx hb dX11_takes_83 (by decide) (fun c1 => ?_) (fun c1 => ?_)
              · rw [if_pos c1] at h
                refine lv_aload_n (pc := 89) hx hb dX11_takes_89 rfl (lv_at hl 2 rfl) ?_
                obtain ⟨v20, hv, h⟩ := zl_some h
                refine xgR (pc := 90) (j := 17) zc11 hx hb hts hown hK hP hv rfl zf_X11_106 dX11_takes_90 ?_
                refine lv_lload (pc := 93) hx hb dX11_takes_93 (lv_at hl 0 rfl) ?_
                refine lv_l2i (pc := 95) hx hb dX11_takes_95 rfl ?_
                obtain ⟨_, hg, h⟩ := zl_some h
                obtain ⟨v21, σ22, hv, h⟩ := zb_some h
                refine xcallVv (pc := 96) (As := [.int (Int64.toInt32 v17)]) (rest := []) ⟨hx, hb, hml, hown, hts⟩ (c_X2_include l D c o g N hv) zc2 zV_X11_176 rfl zd_X2_include ⟨Nat.le_of_ble_eq_true rfl, Nat.le_of_ble_eq_true rfl⟩ hK hP hE hS hg hl.1 rfl (Nat.le_of_ble_eq_true rfl) ⟨Nat.zero_le _, Nat.zero_le _⟩ dX11_takes_96 (fun H locs hP hS => ?_)
                refine lv_iinc (pc := 99) (v := x4_12 + 1) (lv' := [(4, .int (x4_12 + 1)), (5, .long v17), (0, .ref (o + x0)), (1, .int x1), (3, .ref (o + v6))]) hx hb dX11_takes_99 hl (k := 1) rfl rfl (by decide) rfl (fun ls hl => ?_)
                refine lv_goto (pc := 102) (tgt := 46) hx hb dX11_takes_102 (by decide) ?_
                exact ih12 (x4_12 + 1, σ22) h _ _ ls hP hS (lv_sub hl [0, 2, 3, 4] rfl)
              · rw [if_neg c1] at h
                refine lv_bipush (pc := 86) (v := (-2)) hx hb dX11_takes_86 (by decide) ?_
                exact xreti (pc := 88) hx hb hr hlocks hP hK hE hS h dX11_takes_88
        exact L46_12 N (0, σ11) h _ _ ls hP hS (lv_sub hl [0, 2, 3, 1] rfl)
      · rw [if_neg c1] at h
        refine lv_bipush (pc := 33) (v := (-6)) hx hb dX11_takes_33 (by decide) ?_
        exact xreti (pc := 35) hx hb hr hlocks hP hK hE hS h dX11_takes_35
    · rw [if_pos c1] at h
      refine lv_bipush (pc := 16) (v := (-2)) hx hb dX11_takes_16 (by decide) ?_
      exact xreti (pc := 18) hx hb hr hlocks hP hK hE hS h dX11_takes_18
def F_X11_rowsInSlots_4 (N : Nat) (x0 : Nat) (again4 : (Int32 × Int32 × zS) → Option (Int32 × zS)) : Int32 × Int32 × zS → Option (Int32 × zS)
  | (x1, x2, σ) =>
  if 4 ≤ x2 then
    (some (x1, σ))
  else
    (zl (gR 11 8 x0 σ) fun v1 =>
    zl (aR 18 v1 x2 σ) fun v2 =>
    zl (gC 9 v2) fun _ => zb (f_X9_isBare N v2 σ) fun v3 σ4 =>
    if v3 = 0 then
      (again4 (x1 + 1, x2 + 1, σ4))
    else
      (again4 (x1, x2 + 1, σ4)))
def f_X11_rowsInSlots (N : Nat) (x0 : Nat) (σ : zS) : Option (Int32 × zS) :=
  zlp (F_X11_rowsInSlots_4 N x0) N (0, 0, σ)
set_option maxHeartbeats 4000000 in
set_option maxRecDepth 100000 in
theorem c_X11_rowsInSlots (l : Launch) (D : va_G) (c : zC) (o : Nat) (g : zEp) (N : Nat) {x0 : Nat} {σ : zS} {ρ : Int32 × zS} (h : f_X11_rowsInSlots N x0 σ = some ρ) : Met l yX11_rowsInSlots zs_X11_rowsInSlots (zr 4) (va_Pc [.ref (o + x0)] (zG D c o g σ)) (zQi D c o g ρ) 0 0 (zA o) := by
  refine zMetG (by decide) (Nat.le_of_ble_eq_true rfl) ?_
  intro p e s m below meth cd ⟨hx, hb, hr, hml, hown, hts, hlocks⟩ hP hK hE ls hl
  have hS : va_S (zA o) s.heap s.heap [] := va_S.rf
  have hl : lv_has ls 3 [(0, .ref (o + x0))] := hl
  rw [f_X11_rowsInSlots.eq_1] at h
  refine lv_iconst (pc := 0) (v := 0) hx hb dX11_rowsInSlots_0 (by decide) ?_
  refine lv_istore_n (pc := 1) (lv' := [(1, .int 0), (0, .ref (o + x0))]) hx hb dX11_rowsInSlots_1 rfl hl (by decide) rfl (fun ls hl => ?_)
  refine lv_iconst (pc := 2) (v := 0) hx hb dX11_rowsInSlots_2 (by decide) ?_
  refine lv_istore_n (pc := 3) (lv' := [(2, .int 0), (1, .int 0), (0, .ref (o + x0))]) hx hb dX11_rowsInSlots_3 rfl hl (by decide) rfl (fun ls hl => ?_)
  have L4_1 : ∀ (n : Nat) (t : Int32 × Int32 × zS), zlp (F_X11_rowsInSlots_4 N x0) n t = some ρ → ∀ (H : Heap) (locs : List Loc) (ls : Array Slot), zP D c o (zabs o (t.2.2)) H → va_S (zA o) s.heap H locs → lv_has ls 3 [(1, .int (t.1)), (2, .int (t.2.1)), (0, .ref (o + x0))] → W p l e (zr 4) s m (([.ref (o + x0)] : List Value).toArray) below meth cd H locs 0 0 (MQ below (zQi D c o g ρ) (([.ref (o + x0)] : List Value).toArray) s 0 0 (zA o)) (F0 m 4 ls []) := by
    refine zlp_ind (fun ag1 ih1 t h H locs ls hP hS hl => ?_)
    obtain ⟨x1_1, x2_1, σ1⟩ := t
    have hP : zP D c o (zabs o σ1) H := hP
    have hl : lv_has ls 3 [(1, .int x1_1), (2, .int x2_1), (0, .ref (o + x0))] := hl
    rw [F_X11_rowsInSlots_4.eq_1] at h
    show W p l e (zr 4) s m (([.ref (o + x0)] : List Value).toArray) below meth cd H locs 0 0 (MQ below (zQi D c o g ρ) (([.ref (o + x0)] : List Value).toArray) s 0 0 (zA o)) (F0 m 4 ls [])
    refine lv_iload_n (pc := 4) hx hb dX11_rowsInSlots_4 rfl (lv_at hl 1 rfl) ?_
    refine lv_iconst (pc := 5) (v := 4) hx hb dX11_rowsInSlots_5 (by decide) ?_
    refine lv_icmp_ge (pc := 6) (tgt := 30) hx hb dX11_rowsInSlots_6 (by decide) (fun c1 => ?_) (fun c1 => ?_)
    · rw [if_pos c1] at h
      refine lv_iload_n (pc := 30) hx hb dX11_rowsInSlots_30 rfl (lv_at hl 0 rfl) ?_
      exact xreti (pc := 31) hx hb hr hlocks hP hK hE hS h dX11_rowsInSlots_31
    · rw [if_neg c1] at h
      refine lv_aload_n (pc := 9) hx hb dX11_rowsInSlots_9 rfl (lv_at hl 2 rfl) ?_
      obtain ⟨v2, hv, h⟩ := zl_some h
      refine xgR (pc := 10) (j := 8) zc11 hx hb hts hown hK hP hv rfl zf_X11_43 dX11_rowsInSlots_10 ?_
      refine lv_iload_n (pc := 13) hx hb dX11_rowsInSlots_13 rfl (lv_at hl 1 rfl) ?_
      obtain ⟨v3, hv, h⟩ := zl_some h
      refine xaS (pc := 14) hx hb hK hP hv dX11_rowsInSlots_14 ?_
      obtain ⟨_, hg, h⟩ := zl_some h
      obtain ⟨v4, σ5, hv, h⟩ := zb_some h
      refine xcallVi (pc := 15) (As := []) (rest := []) ⟨hx, hb, hml, hown, hts⟩ (c_X9_isBare l D c o g N hv) zc9 zV_X11_305 rfl zd_X9_isBare ⟨Nat.le_of_ble_eq_true rfl, Nat.le_of_ble_eq_true rfl⟩ hK hP hE hS hg hl.1 rfl (Nat.le_of_ble_eq_true rfl) ⟨Nat.zero_le _, Nat.zero_le _⟩ dX11_rowsInSlots_15 (fun H locs hP hS => ?_)
      refine lv_if_ne (pc := 18) (tgt := 24) hx hb dX11_rowsInSlots_18 (by decide) (fun c1 => ?_) (fun c1 => ?_)
      · rw [if_neg c1] at h
        refine lv_iinc (pc := 24) (v := x2_1 + 1) (lv' := [(2, .int (x2_1 + 1)), (1, .int x1_1), (0, .ref (o + x0))]) hx hb dX11_rowsInSlots_24 hl (k := 1) rfl rfl (by decide) rfl (fun ls hl => ?_)
        refine lv_goto (pc := 27) (tgt := 4) hx hb dX11_rowsInSlots_27 (by decide) ?_
        exact ih1 (x1_1, x2_1 + 1, σ5) h _ _ ls hP hS (lv_sub hl [1, 0, 2] rfl)
      · rw [if_pos c1] at h
        refine lv_iinc (pc := 21) (v := x1_1 + 1) (lv' := [(1, .int (x1_1 + 1)), (2, .int x2_1), (0, .ref (o + x0))]) hx hb dX11_rowsInSlots_21 hl (k := 0) rfl rfl (by decide) rfl (fun ls hl => ?_)
        refine lv_iinc (pc := 24) (v := x2_1 + 1) (lv' := [(2, .int (x2_1 + 1)), (1, .int (x1_1 + 1)), (0, .ref (o + x0))]) hx hb dX11_rowsInSlots_24 hl (k := 1) rfl rfl (by decide) rfl (fun ls hl => ?_)
        refine lv_goto (pc := 27) (tgt := 4) hx hb dX11_rowsInSlots_27 (by decide) ?_
        exact ih1 (x1_1 + 1, x2_1 + 1, σ5) h _ _ ls hP hS (lv_sub hl [1, 0, 2] rfl)
  exact L4_1 N (0, 0, σ) h _ _ ls hP hS (lv_sub hl [1, 0, 2] rfl)
def f_X11_count (N : Nat) (x0 : Nat) (x1 : Int32) (σ : zS) : Option (Int32 × zS) :=
  if x1 = 0 then
    (zl (gR 11 4 x0 σ) fun v1 =>
    zl (gI 10 0 v1 σ) fun v2 =>
    some (v2, σ))
  else if x1 = 1 then
    (zl (gR 11 4 x0 σ) fun v3 =>
    zl (gI 10 1 v3 σ) fun v4 =>
    some (v4, σ))
  else if x1 = 2 then
    (zl (gR 11 4 x0 σ) fun v5 =>
    zl (gI 10 2 v5 σ) fun v6 =>
    some (v6, σ))
  else if x1 = 3 then
    (zl (gI 11 1 x0 σ) fun v7 =>
    some (v7, σ))
  else if x1 = 4 then
    (zl (gR 11 4 x0 σ) fun v8 =>
    zl (gC 10 v8) fun _ => zb (f_X10_filledRegisters N v8 σ) fun v9 σ10 =>
    some (v9, σ10))
  else if x1 = 5 then
    (zl (gC 11 x0) fun _ => zb (f_X11_isWorld N x0 σ) fun v11 σ12 =>
    if v11 = 0 then
      (some (0, σ12))
    else
      (zl (gR 11 4 x0 σ12) fun v13 =>
      zl (gC 10 v13) fun _ => zb (f_X10_unlikeFamilies N v13 σ12) fun v14 σ15 =>
      some (v14, σ15)))
  else if x1 = 6 then
    (zl (gC 11 x0) fun _ => zb (f_X11_rowsInSlots N x0 σ) fun v16 σ17 =>
    some (v16, σ17))
  else (some ((-1), σ))
set_option maxHeartbeats 4000000 in
set_option maxRecDepth 100000 in
theorem c_X11_count (l : Launch) (D : va_G) (c : zC) (o : Nat) (g : zEp) (N : Nat) {x0 : Nat} {x1 : Int32} {σ : zS} {ρ : Int32 × zS} (h : f_X11_count N x0 x1 σ = some ρ) : Met l yX11_count zs_X11_count (zr 8) (va_Pc [.ref (o + x0), .int x1] (zG D c o g σ)) (zQi D c o g ρ) 0 0 (zA o) := by
  refine zMetG (by decide) (Nat.le_of_ble_eq_true rfl) ?_
  intro p e s m below meth cd ⟨hx, hb, hr, hml, hown, hts, hlocks⟩ hP hK hE ls hl
  have hS : va_S (zA o) s.heap s.heap [] := va_S.rf
  have hl : lv_has ls 2 [(0, .ref (o + x0)), (1, .int x1)] := hl
  rw [f_X11_count.eq_1] at h
  refine lv_iload_n (pc := 0) hx hb dX11_count_0 rfl (lv_at hl 1 rfl) ?_
  by_cases w0_1 : x1 = 0
  · rw [if_pos w0_1] at h
    refine lv_tableIn (pc := 1) (tgt := 44) hx hb dX11_count_1 (by rw [w0_1]; decide) (by rw [w0_1]; decide) (by rw [w0_1]; rfl) (by decide) ?_
    refine lv_aload_n (pc := 44) hx hb dX11_count_44 rfl (lv_at hl 0 rfl) ?_
    obtain ⟨v1, hv, h⟩ := zl_some h
    refine xgR (pc := 45) (j := 4) zc11 hx hb hts hown hK hP hv rfl zf_X11_26 dX11_count_45 ?_
    obtain ⟨v2, hv, h⟩ := zl_some h
    refine xgI (pc := 48) (j := 0) zc10 hx hb hts hown hK hP hv rfl zf_X11_139 dX11_count_48 ?_
    exact xreti (pc := 51) hx hb hr hlocks hP hK hE hS h dX11_count_51
  rw [if_neg w0_1] at h
  by_cases w1_1 : x1 = 1
  · rw [if_pos w1_1] at h
    refine lv_tableIn (pc := 1) (tgt := 52) hx hb dX11_count_1 (by rw [w1_1]; decide) (by rw [w1_1]; decide) (by rw [w1_1]; rfl) (by decide) ?_
    refine lv_aload_n (pc := 52) hx hb dX11_count_52 rfl (lv_at hl 0 rfl) ?_
    obtain ⟨v3, hv, h⟩ := zl_some h
    refine xgR (pc := 53) (j := 4) zc11 hx hb hts hown hK hP hv rfl zf_X11_26 dX11_count_53 ?_
    obtain ⟨v4, hv, h⟩ := zl_some h
    refine xgI (pc := 56) (j := 1) zc10 hx hb hts hown hK hP hv rfl zf_X11_132 dX11_count_56 ?_
    exact xreti (pc := 59) hx hb hr hlocks hP hK hE hS h dX11_count_59
  rw [if_neg w1_1] at h
  by_cases w2_1 : x1 = 2
  · rw [if_pos w2_1] at h
    refine lv_tableIn (pc := 1) (tgt := 60) hx hb dX11_count_1 (by rw [w2_1]; decide) (by rw [w2_1]; decide) (by rw [w2_1]; rfl) (by decide) ?_
    refine lv_aload_n (pc := 60) hx hb dX11_count_60 rfl (lv_at hl 0 rfl) ?_
    obtain ⟨v5, hv, h⟩ := zl_some h
    refine xgR (pc := 61) (j := 4) zc11 hx hb hts hown hK hP hv rfl zf_X11_26 dX11_count_61 ?_
    obtain ⟨v6, hv, h⟩ := zl_some h
    refine xgI (pc := 64) (j := 2) zc10 hx hb hts hown hK hP hv rfl zf_X11_318 dX11_count_64 ?_
    exact xreti (pc := 67) hx hb hr hlocks hP hK hE hS h dX11_count_67
  rw [if_neg w2_1] at h
  by_cases w3_1 : x1 = 3
  · rw [if_pos w3_1] at h
    refine lv_tableIn (pc := 1) (tgt := 68) hx hb dX11_count_1 (by rw [w3_1]; decide) (by rw [w3_1]; decide) (by rw [w3_1]; rfl) (by decide) ?_
    refine lv_aload_n (pc := 68) hx hb dX11_count_68 rfl (lv_at hl 0 rfl) ?_
    obtain ⟨v7, hv, h⟩ := zl_some h
    refine xgI (pc := 69) (j := 1) zc11 hx hb hts hown hK hP hv rfl zf_X11_13 dX11_count_69 ?_
    exact xreti (pc := 72) hx hb hr hlocks hP hK hE hS h dX11_count_72
  rw [if_neg w3_1] at h
  by_cases w4_1 : x1 = 4
  · rw [if_pos w4_1] at h
    refine lv_tableIn (pc := 1) (tgt := 73) hx hb dX11_count_1 (by rw [w4_1]; decide) (by rw [w4_1]; decide) (by rw [w4_1]; rfl) (by decide) ?_
    refine lv_aload_n (pc := 73) hx hb dX11_count_73 rfl (lv_at hl 0 rfl) ?_
    obtain ⟨v8, hv, h⟩ := zl_some h
    refine xgR (pc := 74) (j := 4) zc11 hx hb hts hown hK hP hv rfl zf_X11_26 dX11_count_74 ?_
    obtain ⟨_, hg, h⟩ := zl_some h
    obtain ⟨v9, σ10, hv, h⟩ := zb_some h
    refine xcallVi (pc := 77) (As := []) (rest := []) ⟨hx, hb, hml, hown, hts⟩ (c_X10_filledRegisters l D c o g N hv) zc10 zV_X11_321 rfl zd_X10_filledRegisters ⟨Nat.le_of_ble_eq_true rfl, Nat.le_of_ble_eq_true rfl⟩ hK hP hE hS hg hl.1 rfl (Nat.le_of_ble_eq_true rfl) ⟨Nat.zero_le _, Nat.zero_le _⟩ dX11_count_77 (fun H locs hP hS => ?_)
    exact xreti (pc := 80) hx hb hr hlocks hP hK hE hS h dX11_count_80
  rw [if_neg w4_1] at h
  by_cases w5_1 : x1 = 5
  · rw [if_pos w5_1] at h
    refine lv_tableIn (pc := 1) (tgt := 81) hx hb dX11_count_1 (by rw [w5_1]; decide) (by rw [w5_1]; decide) (by rw [w5_1]; rfl) (by decide) ?_
    refine lv_aload_n (pc := 81) hx hb dX11_count_81 rfl (lv_at hl 0 rfl) ?_
    obtain ⟨_, hg, h⟩ := zl_some h
    obtain ⟨v11, σ12, hv, h⟩ := zb_some h
    refine xcallVi (pc := 82) (As := []) (rest := []) ⟨hx, hb, hml, hown, hts⟩ (c_X11_isWorld l D c o g N hv) zc11 zV_X11_260 rfl zd_X11_isWorld ⟨Nat.le_of_ble_eq_true rfl, Nat.le_of_ble_eq_true rfl⟩ hK hP hE hS hg hl.1 rfl (Nat.le_of_ble_eq_true rfl) ⟨Nat.zero_le _, Nat.zero_le _⟩ dX11_count_82 (fun H locs hP hS => ?_)
    refine lv_if_eq (pc := 85) (tgt := 98) hx hb dX11_count_85 (by decide) (fun c1 => ?_) (fun c1 => ?_)
    · rw [if_pos c1] at h
      refine lv_iconst (pc := 98) (v := 0) hx hb dX11_count_98 (by decide) ?_
      exact xreti (pc := 99) hx hb hr hlocks hP hK hE hS h dX11_count_99
    · rw [if_neg c1] at h
      refine lv_aload_n (pc := 88) hx hb dX11_count_88 rfl (lv_at hl 0 rfl) ?_
      obtain ⟨v13, hv, h⟩ := zl_some h
      refine xgR (pc := 89) (j := 4) zc11 hx hb hts hown hK hP hv rfl zf_X11_26 dX11_count_89 ?_
      obtain ⟨_, hg, h⟩ := zl_some h
      obtain ⟨v14, σ15, hv, h⟩ := zb_some h
      refine xcallVi (pc := 92) (As := []) (rest := []) ⟨hx, hb, hml, hown, hts⟩ (c_X10_unlikeFamilies l D c o g N hv) zc10 zV_X11_324 rfl zd_X10_unlikeFamilies ⟨Nat.le_of_ble_eq_true rfl, Nat.le_of_ble_eq_true rfl⟩ hK hP hE hS hg hl.1 rfl (Nat.le_of_ble_eq_true rfl) ⟨Nat.zero_le _, Nat.zero_le _⟩ dX11_count_92 (fun H locs hP hS => ?_)
      refine lv_goto (pc := 95) (tgt := 99) hx hb dX11_count_95 (by decide) ?_
      exact xreti (pc := 99) hx hb hr hlocks hP hK hE hS h dX11_count_99
  rw [if_neg w5_1] at h
  by_cases w6_1 : x1 = 6
  · rw [if_pos w6_1] at h
    refine lv_tableIn (pc := 1) (tgt := 100) hx hb dX11_count_1 (by rw [w6_1]; decide) (by rw [w6_1]; decide) (by rw [w6_1]; rfl) (by decide) ?_
    refine lv_aload_n (pc := 100) hx hb dX11_count_100 rfl (lv_at hl 0 rfl) ?_
    obtain ⟨_, hg, h⟩ := zl_some h
    obtain ⟨v16, σ17, hv, h⟩ := zb_some h
    refine xcallVi (pc := 101) (As := []) (rest := []) ⟨hx, hb, hml, hown, hts⟩ (c_X11_rowsInSlots l D c o g N hv) zc11 zV_X11_327 rfl zd_X11_rowsInSlots ⟨Nat.le_of_ble_eq_true rfl, Nat.le_of_ble_eq_true rfl⟩ hK hP hE hS hg hl.1 rfl (Nat.le_of_ble_eq_true rfl) ⟨Nat.zero_le _, Nat.zero_le _⟩ dX11_count_101 (fun H locs hP hS => ?_)
    exact xreti (pc := 104) hx hb hr hlocks hP hK hE hS h dX11_count_104
  rw [if_neg w6_1] at h
  have wo_1 : x1.toInt < 0 ∨ 6 < x1.toInt := by
    have q0 := lv_neT w0_1 (a := 0) rfl; have q1 := lv_neT w1_1 (a := 1) rfl; have q2 := lv_neT w2_1 (a := 2) rfl; have q3 := lv_neT w3_1 (a := 3) rfl; have q4 := lv_neT w4_1 (a := 4) rfl; have q5 := lv_neT w5_1 (a := 5) rfl; have q6 := lv_neT w6_1 (a := 6) rfl
    omega
  refine lv_tableOut (pc := 1) (tgt := 105) hx hb dX11_count_1 wo_1 (by decide) ?_
  refine lv_iconst (pc := 105) (v := (-1)) hx hb dX11_count_105 (by decide) ?_
  exact xreti (pc := 106) hx hb hr hlocks hP hK hE hS h dX11_count_106
def f_X11_keep (N : Nat) (x0 : Nat) (x1 : Int32) (σ : zS) : Option (Int32 × zS) :=
  if x1 < 0 then
    (some ((-2), σ))
  else
    (if x1 < 3 then
      (zl (gR 11 6 x0 σ) fun v1 =>
      zl (aR 19 v1 x1 σ) fun v2 =>
      zl (gR 11 4 x0 σ) fun v3 =>
      zl (gC 10 v2) fun _ => zb (f_X10_copyFrom N v2 v3 σ) fun v4 σ5 =>
      zl (gR 11 7 x0 σ5) fun v6 =>
      zl (sI 16 v6 x1 1 σ5) fun σ7 =>
      some (0, σ7))
    else
      (some ((-2), σ)))
set_option maxHeartbeats 4000000 in
set_option maxRecDepth 100000 in
theorem c_X11_keep (l : Launch) (D : va_G) (c : zC) (o : Nat) (g : zEp) (N : Nat) {x0 : Nat} {x1 : Int32} {σ : zS} {ρ : Int32 × zS} (h : f_X11_keep N x0 x1 σ = some ρ) : Met l yX11_keep zs_X11_keep (zr 6) (va_Pc [.ref (o + x0), .int x1] (zG D c o g σ)) (zQi D c o g ρ) 0 0 (zA o) := by
  refine zMetG (by decide) (Nat.le_of_ble_eq_true rfl) ?_
  intro p e s m below meth cd ⟨hx, hb, hr, hml, hown, hts, hlocks⟩ hP hK hE ls hl
  have hS : va_S (zA o) s.heap s.heap [] := va_S.rf
  have hl : lv_has ls 2 [(0, .ref (o + x0)), (1, .int x1)] := hl
  rw [f_X11_keep.eq_1] at h
  refine lv_iload_n (pc := 0) hx hb dX11_keep_0 rfl (lv_at hl 1 rfl) ?_
  refine lv_if_lt (pc := 1) (tgt := 9) hx hb dX11_keep_1 (by decide) (fun c1 => ?_) (fun c1 => ?_)
  · rw [if_pos c1] at h
    refine lv_bipush (pc := 9) (v := (-2)) hx hb dX11_keep_9 (by decide) ?_
    exact xreti (pc := 11) hx hb hr hlocks hP hK hE hS h dX11_keep_11
  · rw [if_neg c1] at h
    refine lv_iload_n (pc := 4) hx hb dX11_keep_4 rfl (lv_at hl 1 rfl) ?_
    refine lv_iconst (pc := 5) (v := 3) hx hb dX11_keep_5 (by decide) ?_
    refine lv_icmp_lt (pc := 6) (tgt := 12) hx hb dX11_keep_6 (by decide) (fun c1 => ?_) (fun c1 => ?_)
    · rw [if_pos c1] at h
      refine lv_aload_n (pc := 12) hx hb dX11_keep_12 rfl (lv_at hl 0 rfl) ?_
      obtain ⟨v1, hv, h⟩ := zl_some h
      refine xgR (pc := 13) (j := 6) zc11 hx hb hts hown hK hP hv rfl zf_X11_33 dX11_keep_13 ?_
      refine lv_iload_n (pc := 16) hx hb dX11_keep_16 rfl (lv_at hl 1 rfl) ?_
      obtain ⟨v2, hv, h⟩ := zl_some h
      refine xaV (pc := 17) hx hb hK hP hv dX11_keep_17 ?_
      refine lv_aload_n (pc := 18) hx hb dX11_keep_18 rfl (lv_at hl 0 rfl) ?_
      obtain ⟨v3, hv, h⟩ := zl_some h
      refine xgR (pc := 19) (j := 4) zc11 hx hb hts hown hK hP hv rfl zf_X11_26 dX11_keep_19 ?_
      obtain ⟨_, hg, h⟩ := zl_some h
      obtain ⟨v4, σ5, hv, h⟩ := zb_some h
      refine xcallVv (pc := 22) (As := [.ref (o + v3)]) (rest := []) ⟨hx, hb, hml, hown, hts⟩ (c_X10_copyFrom l D c o g N hv) zc10 zV_X11_330 rfl zd_X10_copyFrom ⟨Nat.le_of_ble_eq_true rfl, Nat.le_of_ble_eq_true rfl⟩ hK hP hE hS hg hl.1 rfl (Nat.le_of_ble_eq_true rfl) ⟨Nat.zero_le _, Nat.zero_le _⟩ dX11_keep_22 (fun H locs hP hS => ?_)
      refine lv_aload_n (pc := 25) hx hb dX11_keep_25 rfl (lv_at hl 0 rfl) ?_
      obtain ⟨v6, hv, h⟩ := zl_some h
      refine xgR (pc := 26) (j := 7) zc11 hx hb hts hown hK hP hv rfl zf_X11_37 dX11_keep_26 ?_
      refine lv_iload_n (pc := 29) hx hb dX11_keep_29 rfl (lv_at hl 1 rfl) ?_
      refine lv_iconst (pc := 30) (v := 1) hx hb dX11_keep_30 (by decide) ?_
      obtain ⟨σ7, hv, h⟩ := zl_some h
      refine xsZ (pc := 31) hx hb hK hP hS hv dX11_keep_31 (fun H locs hP hS => ?_)
      refine lv_iconst (pc := 32) (v := 0) hx hb dX11_keep_32 (by decide) ?_
      exact xreti (pc := 33) hx hb hr hlocks hP hK hE hS h dX11_keep_33
    · rw [if_neg c1] at h
      refine lv_bipush (pc := 9) (v := (-2)) hx hb dX11_keep_9 (by decide) ?_
      exact xreti (pc := 11) hx hb hr hlocks hP hK hE hS h dX11_keep_11
def f_X11_back (N : Nat) (x0 : Nat) (x1 : Int32) (σ : zS) : Option (Int32 × zS) :=
  if x1 < 0 then
    (some ((-2), σ))
  else
    (if x1 < 3 then
      (zl (gR 11 7 x0 σ) fun v1 =>
      zl (aI 16 v1 x1 σ) fun v2 =>
      if v2 = 0 then
        (some ((-6), σ))
      else
        (zl (gR 11 4 x0 σ) fun v3 =>
        zl (gR 11 6 x0 σ) fun v4 =>
        zl (aR 19 v4 x1 σ) fun v5 =>
        zl (gC 10 v3) fun _ => zb (f_X10_copyFrom N v3 v5 σ) fun v6 σ7 =>
        some (0, σ7)))
    else
      (some ((-2), σ)))
set_option maxHeartbeats 4000000 in
set_option maxRecDepth 100000 in
theorem c_X11_back (l : Launch) (D : va_G) (c : zC) (o : Nat) (g : zEp) (N : Nat) {x0 : Nat} {x1 : Int32} {σ : zS} {ρ : Int32 × zS} (h : f_X11_back N x0 x1 σ = some ρ) : Met l yX11_back zs_X11_back (zr 6) (va_Pc [.ref (o + x0), .int x1] (zG D c o g σ)) (zQi D c o g ρ) 0 0 (zA o) := by
  refine zMetG (by decide) (Nat.le_of_ble_eq_true rfl) ?_
  intro p e s m below meth cd ⟨hx, hb, hr, hml, hown, hts, hlocks⟩ hP hK hE ls hl
  have hS : va_S (zA o) s.heap s.heap [] := va_S.rf
  have hl : lv_has ls 2 [(0, .ref (o + x0)), (1, .int x1)] := hl
  rw [f_X11_back.eq_1] at h
  refine lv_iload_n (pc := 0) hx hb dX11_back_0 rfl (lv_at hl 1 rfl) ?_
  refine lv_if_lt (pc := 1) (tgt := 9) hx hb dX11_back_1 (by decide) (fun c1 => ?_) (fun c1 => ?_)
  · rw [if_pos c1] at h
    refine lv_bipush (pc := 9) (v := (-2)) hx hb dX11_back_9 (by decide) ?_
    exact xreti (pc := 11) hx hb hr hlocks hP hK hE hS h dX11_back_11
  · rw [if_neg c1] at h
    refine lv_iload_n (pc := 4) hx hb dX11_back_4 rfl (lv_at hl 1 rfl) ?_
    refine lv_iconst (pc := 5) (v := 3) hx hb dX11_back_5 (by decide) ?_
    refine lv_icmp_lt (pc := 6) (tgt := 12) hx hb dX11_back_6 (by decide) (fun c1 => ?_) (fun c1 => ?_)
    · rw [if_pos c1] at h
      refine lv_aload_n (pc := 12) hx hb dX11_back_12 rfl (lv_at hl 0 rfl) ?_
      obtain ⟨v1, hv, h⟩ := zl_some h
      refine xgR (pc := 13) (j := 7) zc11 hx hb hts hown hK hP hv rfl zf_X11_37 dX11_back_13 ?_
      refine lv_iload_n (pc := 16) hx hb dX11_back_16 rfl (lv_at hl 1 rfl) ?_
      obtain ⟨v2, hv, h⟩ := zl_some h
      refine xaZ (pc := 17) hx hb hK hP hv dX11_back_17 ?_
      refine lv_if_ne (pc := 18) (tgt := 24) hx hb dX11_back_18 (by decide) (fun c1 => ?_) (fun c1 => ?_)
      · rw [if_neg c1] at h
        refine lv_aload_n (pc := 24) hx hb dX11_back_24 rfl (lv_at hl 0 rfl) ?_
        obtain ⟨v3, hv, h⟩ := zl_some h
        refine xgR (pc := 25) (j := 4) zc11 hx hb hts hown hK hP hv rfl zf_X11_26 dX11_back_25 ?_
        refine lv_aload_n (pc := 28) hx hb dX11_back_28 rfl (lv_at hl 0 rfl) ?_
        obtain ⟨v4, hv, h⟩ := zl_some h
        refine xgR (pc := 29) (j := 6) zc11 hx hb hts hown hK hP hv rfl zf_X11_33 dX11_back_29 ?_
        refine lv_iload_n (pc := 32) hx hb dX11_back_32 rfl (lv_at hl 1 rfl) ?_
        obtain ⟨v5, hv, h⟩ := zl_some h
        refine xaV (pc := 33) hx hb hK hP hv dX11_back_33 ?_
        obtain ⟨_, hg, h⟩ := zl_some h
        obtain ⟨v6, σ7, hv, h⟩ := zb_some h
        refine xcallVv (pc := 34) (As := [.ref (o + v5)]) (rest := []) ⟨hx, hb, hml, hown, hts⟩ (c_X10_copyFrom l D c o g N hv) zc10 zV_X11_330 rfl zd_X10_copyFrom ⟨Nat.le_of_ble_eq_true rfl, Nat.le_of_ble_eq_true rfl⟩ hK hP hE hS hg hl.1 rfl (Nat.le_of_ble_eq_true rfl) ⟨Nat.zero_le _, Nat.zero_le _⟩ dX11_back_34 (fun H locs hP hS => ?_)
        refine lv_iconst (pc := 37) (v := 0) hx hb dX11_back_37 (by decide) ?_
        exact xreti (pc := 38) hx hb hr hlocks hP hK hE hS h dX11_back_38
      · rw [if_pos c1] at h
        refine lv_bipush (pc := 21) (v := (-6)) hx hb dX11_back_21 (by decide) ?_
        exact xreti (pc := 23) hx hb hr hlocks hP hK hE hS h dX11_back_23
    · rw [if_neg c1] at h
      refine lv_bipush (pc := 9) (v := (-2)) hx hb dX11_back_9 (by decide) ?_
      exact xreti (pc := 11) hx hb hr hlocks hP hK hE hS h dX11_back_11
def f_X11_row (N : Nat) (x0 : Nat) (x1 : Int32) (x2 : Int32) (x3 : Int32) (σ : zS) : Option (Int32 × zS) :=
  zl (gC 11 x0) fun _ => zb (f_X11_isSlot N x0 x1 σ) fun v1 σ2 =>
  if v1 = 0 then
    (some ((-2), σ2))
  else
    (if x2 < 0 then
      (some ((-2), σ2))
    else
      (if 4 ≤ x2 then
        (some ((-2), σ2))
      else
        (if x3 ≤ 60 then
          (if 0 ≤ x3 then
            (zl (gR 11 8 x0 σ2) fun v3 =>
            zl (aR 18 v3 x1 σ2) fun v4 =>
            zl (gC 9 v4) fun _ => zb (f_X9_start N v4 x2 x3 σ2) fun v5 σ6 =>
            some (0, σ6))
          else
            (some ((-3), σ2)))
        else
          (some ((-2), σ2)))))
set_option maxHeartbeats 4000000 in
set_option maxRecDepth 100000 in
theorem c_X11_row (l : Launch) (D : va_G) (c : zC) (o : Nat) (g : zEp) (N : Nat) {x0 : Nat} {x1 : Int32} {x2 : Int32} {x3 : Int32} {σ : zS} {ρ : Int32 × zS} (h : f_X11_row N x0 x1 x2 x3 σ = some ρ) : Met l yX11_row zs_X11_row (zr 6) (va_Pc [.ref (o + x0), .int x1, .int x2, .int x3] (zG D c o g σ)) (zQi D c o g ρ) 0 0 (zA o) := by
  refine zMetG (by decide) (Nat.le_of_ble_eq_true rfl) ?_
  intro p e s m below meth cd ⟨hx, hb, hr, hml, hown, hts, hlocks⟩ hP hK hE ls hl
  have hS : va_S (zA o) s.heap s.heap [] := va_S.rf
  have hl : lv_has ls 4 [(0, .ref (o + x0)), (1, .int x1), (2, .int x2), (3, .int x3)] := hl
  rw [f_X11_row.eq_1] at h
  refine lv_aload_n (pc := 0) hx hb dX11_row_0 rfl (lv_at hl 0 rfl) ?_
  refine lv_iload_n (pc := 1) hx hb dX11_row_1 rfl (lv_at hl 1 rfl) ?_
  obtain ⟨_, hg, h⟩ := zl_some h
  obtain ⟨v1, σ2, hv, h⟩ := zb_some h
  refine xcallVi (pc := 2) (As := [.int x1]) (rest := []) ⟨hx, hb, hml, hown, hts⟩ (c_X11_isSlot l D c o g N hv) zc11 zV_X11_302 rfl zd_X11_isSlot ⟨Nat.le_of_ble_eq_true rfl, Nat.le_of_ble_eq_true rfl⟩ hK hP hE hS hg hl.1 rfl (Nat.le_of_ble_eq_true rfl) ⟨Nat.zero_le _, Nat.zero_le _⟩ dX11_row_2 (fun H locs hP hS => ?_)
  refine lv_if_eq (pc := 5) (tgt := 23) hx hb dX11_row_5 (by decide) (fun c1 => ?_) (fun c1 => ?_)
  · rw [if_pos c1] at h
    refine lv_bipush (pc := 23) (v := (-2)) hx hb dX11_row_23 (by decide) ?_
    exact xreti (pc := 25) hx hb hr hlocks hP hK hE hS h dX11_row_25
  · rw [if_neg c1] at h
    refine lv_iload_n (pc := 8) hx hb dX11_row_8 rfl (lv_at hl 2 rfl) ?_
    refine lv_if_lt (pc := 9) (tgt := 23) hx hb dX11_row_9 (by decide) (fun c1 => ?_) (fun c1 => ?_)
    · rw [if_pos c1] at h
      refine lv_bipush (pc := 23) (v := (-2)) hx hb dX11_row_23 (by decide) ?_
      exact xreti (pc := 25) hx hb hr hlocks hP hK hE hS h dX11_row_25
    · rw [if_neg c1] at h
      refine lv_iload_n (pc := 12) hx hb dX11_row_12 rfl (lv_at hl 2 rfl) ?_
      refine lv_iconst (pc := 13) (v := 4) hx hb dX11_row_13 (by decide) ?_
      refine lv_icmp_ge (pc := 14) (tgt := 23) hx hb dX11_row_14 (by decide) (fun c1 => ?_) (fun c1 => ?_)
      · rw [if_pos c1] at h
        refine lv_bipush (pc := 23) (v := (-2)) hx hb dX11_row_23 (by decide) ?_
        exact xreti (pc := 25) hx hb hr hlocks hP hK hE hS h dX11_row_25
      · rw [if_neg c1] at h
        refine lv_iload_n (pc := 17) hx hb dX11_row_17 rfl (lv_at hl 3 rfl) ?_
        refine lv_bipush (pc := 18) (v := 60) hx hb dX11_row_18 (by decide) ?_
        refine lv_icmp_le (pc := 20) (tgt := 26) hx hb dX11_row_20 (by decide) (fun c1 => ?_) (fun c1 => ?_)
        · rw [if_pos c1] at h
          refine lv_iload_n (pc := 26) hx hb dX11_row_26 rfl (lv_at hl 3 rfl) ?_
          refine lv_if_ge (pc := 27) (tgt := 33) hx hb dX11_row_27 (by decide) (fun c1 => ?_) (fun c1 => ?_)
          · rw [if_pos c1] at h
            refine lv_aload_n (pc := 33) hx hb dX11_row_33 rfl (lv_at hl 0 rfl) ?_
            obtain ⟨v3, hv, h⟩ := zl_some h
            refine xgR (pc := 34) (j := 8) zc11 hx hb hts hown hK hP hv rfl zf_X11_43 dX11_row_34 ?_
            refine lv_iload_n (pc := 37) hx hb dX11_row_37 rfl (lv_at hl 1 rfl) ?_
            obtain ⟨v4, hv, h⟩ := zl_some h
            refine xaS (pc := 38) hx hb hK hP hv dX11_row_38 ?_
            refine lv_iload_n (pc := 39) hx hb dX11_row_39 rfl (lv_at hl 2 rfl) ?_
            refine lv_iload_n (pc := 40) hx hb dX11_row_40 rfl (lv_at hl 3 rfl) ?_
            obtain ⟨_, hg, h⟩ := zl_some h
            obtain ⟨v5, σ6, hv, h⟩ := zb_some h
            refine xcallVv (pc := 41) (As := [.int x2, .int x3]) (rest := []) ⟨hx, hb, hml, hown, hts⟩ (c_X9_start l D c o g N hv) zc9 zV_X11_333 rfl zd_X9_start ⟨Nat.le_of_ble_eq_true rfl, Nat.le_of_ble_eq_true rfl⟩ hK hP hE hS hg hl.1 rfl (Nat.le_of_ble_eq_true rfl) ⟨Nat.zero_le _, Nat.zero_le _⟩ dX11_row_41 (fun H locs hP hS => ?_)
            refine lv_iconst (pc := 44) (v := 0) hx hb dX11_row_44 (by decide) ?_
            exact xreti (pc := 45) hx hb hr hlocks hP hK hE hS h dX11_row_45
          · rw [if_neg c1] at h
            refine lv_bipush (pc := 30) (v := (-3)) hx hb dX11_row_30 (by decide) ?_
            exact xreti (pc := 32) hx hb hr hlocks hP hK hE hS h dX11_row_32
        · rw [if_neg c1] at h
          refine lv_bipush (pc := 23) (v := (-2)) hx hb dX11_row_23 (by decide) ?_
          exact xreti (pc := 25) hx hb hr hlocks hP hK hE hS h dX11_row_25
def f_X11_write (N : Nat) (x0 : Nat) (x1 : Int32) (x2 : Int32) (x3 : Int64) (σ : zS) : Option (Int32 × zS) :=
  zl (gC 11 x0) fun _ => zb (f_X11_isSlot N x0 x1 σ) fun v1 σ2 =>
  if v1 = 0 then
    (some ((-2), σ2))
  else
    (zl (gR 11 8 x0 σ2) fun v3 =>
    zl (aR 18 v3 x1 σ2) fun v4 =>
    zl (gC 9 v4) fun _ => zb (f_X9_isBare N v4 σ2) fun v5 σ6 =>
    if v5 = 0 then
      (if x2 < 0 then
        (some ((-7), σ6))
      else
        (zl (gI 9 2 v4 σ6) fun v7 =>
        if x2 < v7 then
          (zl (gR 9 0 v4 σ6) fun v8 =>
          zl (gC 9 v4) fun _ => zb (f_X9_cut N v4 x3 σ6) fun v9 σ10 =>
          zl (sJ v8 x2 v9 σ10) fun σ11 =>
          some (0, σ11))
        else
          (some ((-7), σ6))))
    else
      (some ((-6), σ6)))
set_option maxHeartbeats 4000000 in
set_option maxRecDepth 100000 in
theorem c_X11_write (l : Launch) (D : va_G) (c : zC) (o : Nat) (g : zEp) (N : Nat) {x0 : Nat} {x1 : Int32} {x2 : Int32} {x3 : Int64} {σ : zS} {ρ : Int32 × zS} (h : f_X11_write N x0 x1 x2 x3 σ = some ρ) : Met l yX11_write zs_X11_write (zr 4) (va_Pc [.ref (o + x0), .int x1, .int x2, .long x3] (zG D c o g σ)) (zQi D c o g ρ) 0 0 (zA o) := by
  refine zMetG (by decide) (Nat.le_of_ble_eq_true rfl) ?_
  intro p e s m below meth cd ⟨hx, hb, hr, hml, hown, hts, hlocks⟩ hP hK hE ls hl
  have hS : va_S (zA o) s.heap s.heap [] := va_S.rf
  have hl : lv_has ls 6 [(0, .ref (o + x0)), (1, .int x1), (2, .int x2), (3, .long x3)] := hl
  rw [f_X11_write.eq_1] at h
  refine lv_aload_n (pc := 0) hx hb dX11_write_0 rfl (lv_at hl 0 rfl) ?_
  refine lv_iload_n (pc := 1) hx hb dX11_write_1 rfl (lv_at hl 1 rfl) ?_
  obtain ⟨_, hg, h⟩ := zl_some h
  obtain ⟨v1, σ2, hv, h⟩ := zb_some h
  refine xcallVi (pc := 2) (As := [.int x1]) (rest := []) ⟨hx, hb, hml, hown, hts⟩ (c_X11_isSlot l D c o g N hv) zc11 zV_X11_302 rfl zd_X11_isSlot ⟨Nat.le_of_ble_eq_true rfl, Nat.le_of_ble_eq_true rfl⟩ hK hP hE hS hg hl.1 rfl (Nat.le_of_ble_eq_true rfl) ⟨Nat.zero_le _, Nat.zero_le _⟩ dX11_write_2 (fun H locs hP hS => ?_)
  refine lv_if_ne (pc := 5) (tgt := 11) hx hb dX11_write_5 (by decide) (fun c1 => ?_) (fun c1 => ?_)
  · rw [if_neg c1] at h
    refine lv_aload_n (pc := 11) hx hb dX11_write_11 rfl (lv_at hl 0 rfl) ?_
    obtain ⟨v3, hv, h⟩ := zl_some h
    refine xgR (pc := 12) (j := 8) zc11 hx hb hts hown hK hP hv rfl zf_X11_43 dX11_write_12 ?_
    refine lv_iload_n (pc := 15) hx hb dX11_write_15 rfl (lv_at hl 1 rfl) ?_
    obtain ⟨v4, hv, h⟩ := zl_some h
    refine xaS (pc := 16) hx hb hK hP hv dX11_write_16 ?_
    refine lv_astore (pc := 17) (lv' := [(5, .ref (o + v4)), (0, .ref (o + x0)), (1, .int x1), (2, .int x2), (3, .long x3)]) hx hb dX11_write_17 hl (by decide) rfl (fun ls hl => ?_)
    refine lv_aload (pc := 19) hx hb dX11_write_19 (lv_at hl 0 rfl) ?_
    obtain ⟨_, hg, h⟩ := zl_some h
    obtain ⟨v5, σ6, hv, h⟩ := zb_some h
    refine xcallVi (pc := 21) (As := []) (rest := []) ⟨hx, hb, hml, hown, hts⟩ (c_X9_isBare l D c o g N hv) zc9 zV_X11_305 rfl zd_X9_isBare ⟨Nat.le_of_ble_eq_true rfl, Nat.le_of_ble_eq_true rfl⟩ hK hP hE hS hg hl.1 rfl (Nat.le_of_ble_eq_true rfl) ⟨Nat.zero_le _, Nat.zero_le _⟩ dX11_write_21 (fun H locs hP hS => ?_)
    refine lv_if_eq (pc := 24) (tgt := 30) hx hb dX11_write_24 (by decide) (fun c1 => ?_) (fun c1 => ?_)
    · rw [if_pos c1] at h
      refine lv_iload_n (pc := 30) hx hb dX11_write_30 rfl (lv_at hl 3 rfl) ?_
      refine lv_if_lt (pc := 31) (tgt := 43) hx hb dX11_write_31 (by decide) (fun c1 => ?_) (fun c1 => ?_)
      · rw [if_pos c1] at h
        refine lv_bipush (pc := 43) (v := (-7)) hx hb dX11_write_43 (by decide) ?_
        exact xreti (pc := 45) hx hb hr hlocks hP hK hE hS h dX11_write_45
      · rw [if_neg c1] at h
        refine lv_iload_n (pc := 34) hx hb dX11_write_34 rfl (lv_at hl 3 rfl) ?_
        refine lv_aload (pc := 35) hx hb dX11_write_35 (lv_at hl 0 rfl) ?_
        obtain ⟨v7, hv, h⟩ := zl_some h
        refine xgI (pc := 37) (j := 2) zc9 hx hb hts hown hK hP hv rfl zf_X11_308 dX11_write_37 ?_
        refine lv_icmp_lt (pc := 40) (tgt := 46) hx hb dX11_write_40 (by decide) (fun c1 => ?_) (fun c1 => ?_)
        · rw [if_pos c1] at h
          refine lv_aload (pc := 46) hx hb dX11_write_46 (lv_at hl 0 rfl) ?_
          obtain ⟨v8, hv, h⟩ := zl_some h
          refine xgR (pc := 48) (j := 0) zc9 hx hb hts hown hK hP hv rfl zf_X11_314 dX11_write_48 ?_
          refine lv_iload_n (pc := 51) hx hb dX11_write_51 rfl (lv_at hl 3 rfl) ?_
          refine lv_aload (pc := 52) hx hb dX11_write_52 (lv_at hl 0 rfl) ?_
          refine lv_lload_n (pc := 54) hx hb dX11_write_54 rfl (lv_at hl 4 rfl) ?_
          obtain ⟨_, hg, h⟩ := zl_some h
          obtain ⟨v9, σ10, hv, h⟩ := zb_some h
          refine xcallVl (pc := 55) (As := [.long x3]) (rest := [.int x2, .ref (o + v8)]) ⟨hx, hb, hml, hown, hts⟩ (c_X9_cut l D c o g N hv) zc9 zV_X11_336 rfl zd_X9_cut ⟨Nat.le_of_ble_eq_true rfl, Nat.le_of_ble_eq_true rfl⟩ hK hP hE hS hg hl.1 rfl (Nat.le_of_ble_eq_true rfl) ⟨Nat.zero_le _, Nat.zero_le _⟩ dX11_write_55 (fun H locs hP hS => ?_)
          obtain ⟨σ11, hv, h⟩ := zl_some h
          refine xsJ (pc := 58) hx hb hK hP hS hv dX11_write_58 (fun H locs hP hS => ?_)
          refine lv_iconst (pc := 59) (v := 0) hx hb dX11_write_59 (by decide) ?_
          exact xreti (pc := 60) hx hb hr hlocks hP hK hE hS h dX11_write_60
        · rw [if_neg c1] at h
          refine lv_bipush (pc := 43) (v := (-7)) hx hb dX11_write_43 (by decide) ?_
          exact xreti (pc := 45) hx hb hr hlocks hP hK hE hS h dX11_write_45
    · rw [if_neg c1] at h
      refine lv_bipush (pc := 27) (v := (-6)) hx hb dX11_write_27 (by decide) ?_
      exact xreti (pc := 29) hx hb hr hlocks hP hK hE hS h dX11_write_29
  · rw [if_pos c1] at h
    refine lv_bipush (pc := 8) (v := (-2)) hx hb dX11_write_8 (by decide) ?_
    exact xreti (pc := 10) hx hb hr hlocks hP hK hE hS h dX11_write_10
def f_X11_paste (N : Nat) (x0 : Nat) (x1 : Int32) (x2 : Int32) (x3 : Int32) (x4 : Int32) (x5 : Int32) (σ : zS) : Option (Int32 × zS) :=
  zl (gC 11 x0) fun _ => zb (f_X11_isSlot N x0 x1 σ) fun v1 σ2 =>
  if v1 = 0 then
    (some ((-2), σ2))
  else
    (zl (gC 11 x0) fun _ => zb (f_X11_isSlot N x0 x3 σ2) fun v3 σ4 =>
    if v3 = 0 then
      (some ((-2), σ4))
    else
      (zl (gR 11 8 x0 σ4) fun v5 =>
      zl (aR 18 v5 x1 σ4) fun v6 =>
      zl (gR 11 8 x0 σ4) fun v7 =>
      zl (aR 18 v7 x3 σ4) fun v8 =>
      zl (gC 9 v6) fun _ => zb (f_X9_isBare N v6 σ4) fun v9 σ10 =>
      if v9 = 0 then
        (zl (gC 9 v8) fun _ => zb (f_X9_isBare N v8 σ10) fun v11 σ12 =>
        if v11 = 0 then
          (zl (gI 9 1 v6 σ12) fun v13 =>
          zl (gI 9 1 v8 σ12) fun v14 =>
          if v13 = v14 then
            (zl (gC 9 v6) fun _ => zb (f_X9_spans N v6 x2 x5 σ12) fun v15 σ16 =>
            if v15 = 0 then
              (some ((-7), σ16))
            else
              (zl (gC 9 v8) fun _ => zb (f_X9_spans N v8 x4 x5 σ16) fun v17 σ18 =>
              if v17 = 0 then
                (some ((-7), σ18))
              else
                (zl (gR 9 0 v6 σ18) fun v19 =>
                zl (gR 9 0 v8 σ18) fun v20 =>
                zl (cpJ v19 x2 v20 x4 x5 σ18) fun σ21 =>
                some (0, σ21))))
          else
            (some ((-8), σ12)))
        else
          (some ((-6), σ12)))
      else
        (some ((-6), σ10))))
set_option maxHeartbeats 4000000 in
set_option maxRecDepth 100000 in
theorem c_X11_paste (l : Launch) (D : va_G) (c : zC) (o : Nat) (g : zEp) (N : Nat) {x0 : Nat} {x1 : Int32} {x2 : Int32} {x3 : Int32} {x4 : Int32} {x5 : Int32} {σ : zS} {ρ : Int32 × zS} (h : f_X11_paste N x0 x1 x2 x3 x4 x5 σ = some ρ) : Met l yX11_paste zs_X11_paste (zr 4) (va_Pc [.ref (o + x0), .int x1, .int x2, .int x3, .int x4, .int x5] (zG D c o g σ)) (zQi D c o g ρ) 0 0 (zA o) := by
  refine zMetG (by decide) (Nat.le_of_ble_eq_true rfl) ?_
  intro p e s m below meth cd ⟨hx, hb, hr, hml, hown, hts, hlocks⟩ hP hK hE ls hl
  have hS : va_S (zA o) s.heap s.heap [] := va_S.rf
  have hl : lv_has ls 8 [(0, .ref (o + x0)), (1, .int x1), (2, .int x2), (3, .int x3), (4, .int x4), (5, .int x5)] := hl
  rw [f_X11_paste.eq_1] at h
  refine lv_aload_n (pc := 0) hx hb dX11_paste_0 rfl (lv_at hl 0 rfl) ?_
  refine lv_iload_n (pc := 1) hx hb dX11_paste_1 rfl (lv_at hl 1 rfl) ?_
  obtain ⟨_, hg, h⟩ := zl_some h
  obtain ⟨v1, σ2, hv, h⟩ := zb_some h
  refine xcallVi (pc := 2) (As := [.int x1]) (rest := []) ⟨hx, hb, hml, hown, hts⟩ (c_X11_isSlot l D c o g N hv) zc11 zV_X11_302 rfl zd_X11_isSlot ⟨Nat.le_of_ble_eq_true rfl, Nat.le_of_ble_eq_true rfl⟩ hK hP hE hS hg hl.1 rfl (Nat.le_of_ble_eq_true rfl) ⟨Nat.zero_le _, Nat.zero_le _⟩ dX11_paste_2 (fun H locs hP hS => ?_)
  refine lv_if_eq (pc := 5) (tgt := 16) hx hb dX11_paste_5 (by decide) (fun c1 => ?_) (fun c1 => ?_)
  · rw [if_pos c1] at h
    refine lv_bipush (pc := 16) (v := (-2)) hx hb dX11_paste_16 (by decide) ?_
    exact xreti (pc := 18) hx hb hr hlocks hP hK hE hS h dX11_paste_18
  · rw [if_neg c1] at h
    refine lv_aload_n (pc := 8) hx hb dX11_paste_8 rfl (lv_at hl 0 rfl) ?_
    refine lv_iload_n (pc := 9) hx hb dX11_paste_9 rfl (lv_at hl 3 rfl) ?_
    obtain ⟨_, hg, h⟩ := zl_some h
    obtain ⟨v3, σ4, hv, h⟩ := zb_some h
    refine xcallVi (pc := 10) (As := [.int x3]) (rest := []) ⟨hx, hb, hml, hown, hts⟩ (c_X11_isSlot l D c o g N hv) zc11 zV_X11_302 rfl zd_X11_isSlot ⟨Nat.le_of_ble_eq_true rfl, Nat.le_of_ble_eq_true rfl⟩ hK hP hE hS hg hl.1 rfl (Nat.le_of_ble_eq_true rfl) ⟨Nat.zero_le _, Nat.zero_le _⟩ dX11_paste_10 (fun H locs hP hS => ?_)
    refine lv_if_ne (pc := 13) (tgt := 19) hx hb dX11_paste_13 (by decide) (fun c1 => ?_) (fun c1 => ?_)
    · rw [if_neg c1] at h
      refine lv_aload_n (pc := 19) hx hb dX11_paste_19 rfl (lv_at hl 0 rfl) ?_
      obtain ⟨v5, hv, h⟩ := zl_some h
      refine xgR (pc := 20) (j := 8) zc11 hx hb hts hown hK hP hv rfl zf_X11_43 dX11_paste_20 ?_
      refine lv_iload_n (pc := 23) hx hb dX11_paste_23 rfl (lv_at hl 1 rfl) ?_
      obtain ⟨v6, hv, h⟩ := zl_some h
      refine xaS (pc := 24) hx hb hK hP hv dX11_paste_24 ?_
      refine lv_astore (pc := 25) (lv' := [(6, .ref (o + v6)), (0, .ref (o + x0)), (1, .int x1), (2, .int x2), (3, .int x3), (4, .int x4), (5, .int x5)]) hx hb dX11_paste_25 hl (by decide) rfl (fun ls hl => ?_)
      refine lv_aload_n (pc := 27) hx hb dX11_paste_27 rfl (lv_at hl 1 rfl) ?_
      obtain ⟨v7, hv, h⟩ := zl_some h
      refine xgR (pc := 28) (j := 8) zc11 hx hb hts hown hK hP hv rfl zf_X11_43 dX11_paste_28 ?_
      refine lv_iload_n (pc := 31) hx hb dX11_paste_31 rfl (lv_at hl 4 rfl) ?_
      obtain ⟨v8, hv, h⟩ := zl_some h
      refine xaS (pc := 32) hx hb hK hP hv dX11_paste_32 ?_
      refine lv_astore (pc := 33) (lv' := [(7, .ref (o + v8)), (6, .ref (o + v6)), (0, .ref (o + x0)), (1, .int x1), (2, .int x2), (3, .int x3), (4, .int x4), (5, .int x5)]) hx hb dX11_paste_33 hl (by decide) rfl (fun ls hl => ?_)
      refine lv_aload (pc := 35) hx hb dX11_paste_35 (lv_at hl 1 rfl) ?_
      obtain ⟨_, hg, h⟩ := zl_some h
      obtain ⟨v9, σ10, hv, h⟩ := zb_some h
      refine xcallVi (pc := 37) (As := []) (rest := []) ⟨hx, hb, hml, hown, hts⟩ (c_X9_isBare l D c o g N hv) zc9 zV_X11_305 rfl zd_X9_isBare ⟨Nat.le_of_ble_eq_true rfl, Nat.le_of_ble_eq_true rfl⟩ hK hP hE hS hg hl.1 rfl (Nat.le_of_ble_eq_true rfl) ⟨Nat.zero_le _, Nat.zero_le _⟩ dX11_paste_37 (fun H locs hP hS => ?_)
      refine lv_if_ne (pc := 40) (tgt := 51) hx hb dX11_paste_40 (by decide) (fun c1 => ?_) (fun c1 => ?_)
      · rw [if_neg c1] at h
        refine lv_bipush (pc := 51) (v := (-6)) hx hb dX11_paste_51 (by decide) ?_
        exact xreti (pc := 53) hx hb hr hlocks hP hK hE hS h dX11_paste_53
      · rw [if_pos c1] at h
        refine lv_aload (pc := 43) hx hb dX11_paste_43 (lv_at hl 0 rfl) ?_
        obtain ⟨_, hg, h⟩ := zl_some h
        obtain ⟨v11, σ12, hv, h⟩ := zb_some h
        refine xcallVi (pc := 45) (As := []) (rest := []) ⟨hx, hb, hml, hown, hts⟩ (c_X9_isBare l D c o g N hv) zc9 zV_X11_305 rfl zd_X9_isBare ⟨Nat.le_of_ble_eq_true rfl, Nat.le_of_ble_eq_true rfl⟩ hK hP hE hS hg hl.1 rfl (Nat.le_of_ble_eq_true rfl) ⟨Nat.zero_le _, Nat.zero_le _⟩ dX11_paste_45 (fun H locs hP hS => ?_)
        refine lv_if_eq (pc := 48) (tgt := 54) hx hb dX11_paste_48 (by decide) (fun c1 => ?_) (fun c1 => ?_)
        · rw [if_pos c1] at h
          refine lv_aload (pc := 54) hx hb dX11_paste_54 (lv_at hl 1 rfl) ?_
          obtain ⟨v13, hv, h⟩ := zl_some h
          refine xgI (pc := 56) (j := 1) zc9 hx hb hts hown hK hP hv rfl zf_X11_340 dX11_paste_56 ?_
          refine lv_aload (pc := 59) hx hb dX11_paste_59 (lv_at hl 0 rfl) ?_
          obtain ⟨v14, hv, h⟩ := zl_some h
          refine xgI (pc := 61) (j := 1) zc9 hx hb hts hown hK hP hv rfl zf_X11_340 dX11_paste_61 ?_
          refine lv_icmp_eq (pc := 64) (tgt := 70) hx hb dX11_paste_64 (by decide) (fun c1 => ?_) (fun c1 => ?_)
          · rw [if_pos c1] at h
            refine lv_aload (pc := 70) hx hb dX11_paste_70 (lv_at hl 1 rfl) ?_
            refine lv_iload_n (pc := 72) hx hb dX11_paste_72 rfl (lv_at hl 4 rfl) ?_
            refine lv_iload (pc := 73) hx hb dX11_paste_73 (lv_at hl 7 rfl) ?_
            obtain ⟨_, hg, h⟩ := zl_some h
            obtain ⟨v15, σ16, hv, h⟩ := zb_some h
            refine xcallVi (pc := 75) (As := [.int x2, .int x5]) (rest := []) ⟨hx, hb, hml, hown, hts⟩ (c_X9_spans l D c o g N hv) zc9 zV_X11_343 rfl zd_X9_spans ⟨Nat.le_of_ble_eq_true rfl, Nat.le_of_ble_eq_true rfl⟩ hK hP hE hS hg hl.1 rfl (Nat.le_of_ble_eq_true rfl) ⟨Nat.zero_le _, Nat.zero_le _⟩ dX11_paste_75 (fun H locs hP hS => ?_)
            refine lv_if_eq (pc := 78) (tgt := 93) hx hb dX11_paste_78 (by decide) (fun c1 => ?_) (fun c1 => ?_)
            · rw [if_pos c1] at h
              refine lv_bipush (pc := 93) (v := (-7)) hx hb dX11_paste_93 (by decide) ?_
              exact xreti (pc := 95) hx hb hr hlocks hP hK hE hS h dX11_paste_95
            · rw [if_neg c1] at h
              refine lv_aload (pc := 81) hx hb dX11_paste_81 (lv_at hl 0 rfl) ?_
              refine lv_iload (pc := 83) hx hb dX11_paste_83 (lv_at hl 6 rfl) ?_
              refine lv_iload (pc := 85) hx hb dX11_paste_85 (lv_at hl 7 rfl) ?_
              obtain ⟨_, hg, h⟩ := zl_some h
              obtain ⟨v17, σ18, hv, h⟩ := zb_some h
              refine xcallVi (pc := 87) (As := [.int x4, .int x5]) (rest := []) ⟨hx, hb, hml, hown, hts⟩ (c_X9_spans l D c o g N hv) zc9 zV_X11_343 rfl zd_X9_spans ⟨Nat.le_of_ble_eq_true rfl, Nat.le_of_ble_eq_true rfl⟩ hK hP hE hS hg hl.1 rfl (Nat.le_of_ble_eq_true rfl) ⟨Nat.zero_le _, Nat.zero_le _⟩ dX11_paste_87 (fun H locs hP hS => ?_)
              refine lv_if_ne (pc := 90) (tgt := 96) hx hb dX11_paste_90 (by decide) (fun c1 => ?_) (fun c1 => ?_)
              · rw [if_neg c1] at h
                refine lv_aload (pc := 96) hx hb dX11_paste_96 (lv_at hl 1 rfl) ?_
                obtain ⟨v19, hv, h⟩ := zl_some h
                refine xgR (pc := 98) (j := 0) zc9 hx hb hts hown hK hP hv rfl zf_X11_314 dX11_paste_98 ?_
                refine lv_iload_n (pc := 101) hx hb dX11_paste_101 rfl (lv_at hl 4 rfl) ?_
                refine lv_aload (pc := 102) hx hb dX11_paste_102 (lv_at hl 0 rfl) ?_
                obtain ⟨v20, hv, h⟩ := zl_some h
                refine xgR (pc := 104) (j := 0) zc9 hx hb hts hown hK hP hv rfl zf_X11_314 dX11_paste_104 ?_
                refine lv_iload (pc := 107) hx hb dX11_paste_107 (lv_at hl 6 rfl) ?_
                refine lv_iload (pc := 109) hx hb dX11_paste_109 (lv_at hl 7 rfl) ?_
                obtain ⟨σ21, hv, h⟩ := zl_some h
                refine xcJ (pc := 111) (rest := []) hx hb (hml.trans hl.1.symm) hown hts zm_X11_347 hK hP hS hv (Nat.le_of_ble_eq_true rfl) (Nat.le_of_ble_eq_true rfl) dX11_paste_111 (fun H locs hP hS => ?_)
                refine lv_iconst (pc := 114) (v := 0) hx hb dX11_paste_114 (by decide) ?_
                exact xreti (pc := 115) hx hb hr hlocks hP hK hE hS h dX11_paste_115
              · rw [if_pos c1] at h
                refine lv_bipush (pc := 93) (v := (-7)) hx hb dX11_paste_93 (by decide) ?_
                exact xreti (pc := 95) hx hb hr hlocks hP hK hE hS h dX11_paste_95
          · rw [if_neg c1] at h
            refine lv_bipush (pc := 67) (v := (-8)) hx hb dX11_paste_67 (by decide) ?_
            exact xreti (pc := 69) hx hb hr hlocks hP hK hE hS h dX11_paste_69
        · rw [if_neg c1] at h
          refine lv_bipush (pc := 51) (v := (-6)) hx hb dX11_paste_51 (by decide) ?_
          exact xreti (pc := 53) hx hb hr hlocks hP hK hE hS h dX11_paste_53
    · rw [if_pos c1] at h
      refine lv_bipush (pc := 16) (v := (-2)) hx hb dX11_paste_16 (by decide) ?_
      exact xreti (pc := 18) hx hb hr hlocks hP hK hE hS h dX11_paste_18
def f_X12_in (N : Nat) (x0 : Int64) (x2 : Int64) (x4 : Int64) (σ : zS) : Option (Int32 × zS) :=
  if (lg_cmp x0 x2) < 0 then
    (rZ 0 σ)
  else
    (if 0 < (lg_cmp x0 x4) then
      (rZ 0 σ)
    else
      (rZ 1 σ))
set_option maxHeartbeats 4000000 in
set_option maxRecDepth 100000 in
theorem c_X12_in (l : Launch) (D : va_G) (c : zC) (o : Nat) (g : zEp) (N : Nat) {x0 : Int64} {x2 : Int64} {x4 : Int64} {σ : zS} {ρ : Int32 × zS} (h : f_X12_in N x0 x2 x4 σ = some ρ) : Met l yX12_in zs_X12_in (zr 2) (va_Pc [.long x0, .long x2, .long x4] (zG D c o g σ)) (zQi D c o g ρ) 0 0 (zA o) := by
  refine zMetG (by decide) (Nat.le_of_ble_eq_true rfl) ?_
  intro p e s m below meth cd ⟨hx, hb, hr, hml, hown, hts, hlocks⟩ hP hK hE ls hl
  have hS : va_S (zA o) s.heap s.heap [] := va_S.rf
  have hl : lv_has ls 6 [(0, .long x0), (2, .long x2), (4, .long x4)] := hl
  rw [f_X12_in.eq_1] at h
  refine lv_lload_n (pc := 0) hx hb dX12_in_0 rfl (lv_at hl 0 rfl) ?_
  refine lv_lload_n (pc := 1) hx hb dX12_in_1 rfl (lv_at hl 1 rfl) ?_
  refine W.lcmp (pc := 2) hx hb dX12_in_2 ?_
  refine lv_if_lt (pc := 3) (tgt := 17) hx hb dX12_in_3 (by decide) (fun c1 => ?_) (fun c1 => ?_)
  · rw [if_pos c1] at h
    refine lv_iconst (pc := 17) (v := 0) hx hb dX12_in_17 (by decide) ?_
    exact xretz (pc := 18) hx hb hr hlocks hP hK hE hS h dX12_in_18
  · rw [if_neg c1] at h
    refine lv_lload_n (pc := 6) hx hb dX12_in_6 rfl (lv_at hl 0 rfl) ?_
    refine lv_lload (pc := 7) hx hb dX12_in_7 (lv_at hl 2 rfl) ?_
    refine W.lcmp (pc := 9) hx hb dX12_in_9 ?_
    refine lv_if_gt (pc := 10) (tgt := 17) hx hb dX12_in_10 (by decide) (fun c1 => ?_) (fun c1 => ?_)
    · rw [if_pos c1] at h
      refine lv_iconst (pc := 17) (v := 0) hx hb dX12_in_17 (by decide) ?_
      exact xretz (pc := 18) hx hb hr hlocks hP hK hE hS h dX12_in_18
    · rw [if_neg c1] at h
      refine lv_iconst (pc := 13) (v := 1) hx hb dX12_in_13 (by decide) ?_
      refine lv_goto (pc := 14) (tgt := 18) hx hb dX12_in_14 (by decide) ?_
      exact xretz (pc := 18) hx hb hr hlocks hP hK hE hS h dX12_in_18
def F_X12_keep_48 (N : Nat) (x0 : Nat) (x1 : Int32) (again48 : (Int32 × zS) → Option (Int32 × zS)) : Int32 × zS → Option (Int32 × zS)
  | (x2, σ) =>
  if 10240 ≤ x2 then
    (zl (gR 12 5 x0 σ) fun v3 =>
    zl (sI 16 v3 x1 1 σ) fun σ4 =>
    some (0, σ4))
  else
    (zl (gR 12 4 x0 σ) fun v5 =>
    zl (gR 12 2 x0 σ) fun v6 =>
    zl (aI 16 v6 x2 σ) fun v7 =>
    zl (sI 16 v5 ((10240 * x1) + x2) v7 σ) fun σ8 =>
    again48 (x2 + 1, σ8))
def F_X12_keep_17 (N : Nat) (x0 : Nat) (x1 : Int32) (again17 : (Int32 × zS) → Option (Int32 × zS)) : Int32 × zS → Option (Int32 × zS)
  | (x2, σ) =>
  if 43 ≤ x2 then
    (zlp (F_X12_keep_48 N x0 x1) N (0, σ))
  else
    (zl (gR 12 3 x0 σ) fun v9 =>
    zl (gR 12 1 x0 σ) fun v10 =>
    zl (aI 14 v10 x2 σ) fun v11 =>
    zl (sI 14 v9 ((43 * x1) + x2) v11 σ) fun σ12 =>
    again17 (x2 + 1, σ12))
def f_X12_keep (N : Nat) (x0 : Nat) (x1 : Int32) (σ : zS) : Option (Int32 × zS) :=
  zb (f_X12_in N (Int32.toInt64 x1) 0 2 σ) fun v1 σ2 =>
  if v1 = 0 then
    (some ((-2), σ2))
  else
    (zlp (F_X12_keep_17 N x0 x1) N (0, σ2))
set_option maxHeartbeats 4000000 in
set_option maxRecDepth 100000 in
theorem c_X12_keep (l : Launch) (D : va_G) (c : zC) (o : Nat) (g : zEp) (N : Nat) {x0 : Nat} {x1 : Int32} {σ : zS} {ρ : Int32 × zS} (h : f_X12_keep N x0 x1 σ = some ρ) : Met l yX12_keep zs_X12_keep (zr 4) (va_Pc [.ref (o + x0), .int x1] (zG D c o g σ)) (zQi D c o g ρ) 0 0 (zA o) := by
  refine zMetG (by decide) (Nat.le_of_ble_eq_true rfl) ?_
  intro p e s m below meth cd ⟨hx, hb, hr, hml, hown, hts, hlocks⟩ hP hK hE ls hl
  have hS : va_S (zA o) s.heap s.heap [] := va_S.rf
  have hl : lv_has ls 3 [(0, .ref (o + x0)), (1, .int x1)] := hl
  rw [f_X12_keep.eq_1] at h
  refine lv_iload_n (pc := 0) hx hb dX12_keep_0 rfl (lv_at hl 1 rfl) ?_
  refine lv_i2l (pc := 1) hx hb dX12_keep_1 rfl ?_
  refine lv_lconst (pc := 2) (v := 0) hx hb dX12_keep_2 (by decide) ?_
  refine lv_ldc2 (pc := 3) hx hb hown (hts _ zk_X12_92) dX12_keep_3 ?_
  obtain ⟨v1, σ2, hv, h⟩ := zb_some h
  refine xcallSi (pc := 6) (As := [.long (Int32.toInt64 x1), .long 0, .long 2]) (rest := []) ⟨hx, hb, hml, hown, hts⟩ (c_X12_in l D c o g N hv) zT_X12_94 rfl zd_X12_in ⟨Nat.le_of_ble_eq_true rfl, Nat.le_of_ble_eq_true rfl⟩ hK hP hE hS hl.1 rfl (Nat.le_of_ble_eq_true rfl) ⟨Nat.zero_le _, Nat.zero_le _⟩ dX12_keep_6 (fun H locs hP hS => ?_)
  refine lv_if_ne (pc := 9) (tgt := 15) hx hb dX12_keep_9 (by decide) (fun c1 => ?_) (fun c1 => ?_)
  · rw [if_neg c1] at h
    refine lv_iconst (pc := 15) (v := 0) hx hb dX12_keep_15 (by decide) ?_
    refine lv_istore_n (pc := 16) (lv' := [(2, .int 0), (0, .ref (o + x0)), (1, .int x1)]) hx hb dX12_keep_16 rfl hl (by decide) rfl (fun ls hl => ?_)
    have L17_3 : ∀ (n : Nat) (t : Int32 × zS), zlp (F_X12_keep_17 N x0 x1) n t = some ρ → ∀ (H : Heap) (locs : List Loc) (ls : Array Slot), zP D c o (zabs o (t.2)) H → va_S (zA o) s.heap H locs → lv_has ls 3 [(2, .int (t.1)), (0, .ref (o + x0)), (1, .int x1)] → W p l e (zr 4) s m (([.ref (o + x0), .int x1] : List Value).toArray) below meth cd H locs 0 0 (MQ below (zQi D c o g ρ) (([.ref (o + x0), .int x1] : List Value).toArray) s 0 0 (zA o)) (F0 m 17 ls []) := by
      refine zlp_ind (fun ag3 ih3 t h H locs ls hP hS hl => ?_)
      obtain ⟨x2_3, σ3⟩ := t
      have hP : zP D c o (zabs o σ3) H := hP
      have hl : lv_has ls 3 [(2, .int x2_3), (0, .ref (o + x0)), (1, .int x1)] := hl
      rw [F_X12_keep_17.eq_1] at h
      show W p l e (zr 4) s m (([.ref (o + x0), .int x1] : List Value).toArray) below meth cd H locs 0 0 (MQ below (zQi D c o g ρ) (([.ref (o + x0), .int x1] : List Value).toArray) s 0 0 (zA o)) (F0 m 17 ls [])
      refine lv_iload_n (pc := 17) hx hb dX12_keep_17 rfl (lv_at hl 0 rfl) ?_
      refine lv_bipush (pc := 18) (v := 43) hx hb dX12_keep_18 (by decide) ?_
      refine lv_icmp_ge (pc := 20) (tgt := 46) hx hb dX12_keep_20 (by decide) (fun c1 => ?_) (fun c1 => ?_)
      · rw [if_pos c1] at h
        refine lv_iconst (pc := 46) (v := 0) hx hb dX12_keep_46 (by decide) ?_
        refine lv_istore_n (pc := 47) (lv' := [(2, .int 0), (0, .ref (o + x0)), (1, .int x1)]) hx hb dX12_keep_47 rfl hl (by decide) rfl (fun ls hl => ?_)
        have L48_4 : ∀ (n : Nat) (t : Int32 × zS), zlp (F_X12_keep_48 N x0 x1) n t = some ρ → ∀ (H : Heap) (locs : List Loc) (ls : Array Slot), zP D c o (zabs o (t.2)) H → va_S (zA o) s.heap H locs → lv_has ls 3 [(2, .int (t.1)), (0, .ref (o + x0)), (1, .int x1)] → W p l e (zr 4) s m (([.ref (o + x0), .int x1] : List Value).toArray) below meth cd H locs 0 0 (MQ below (zQi D c o g ρ) (([.ref (o + x0), .int x1] : List Value).toArray) s 0 0 (zA o)) (F0 m 48 ls []) := by
          refine zlp_ind (fun ag4 ih4 t h H locs ls hP hS hl => ?_)
          obtain ⟨x2_4, σ4⟩ := t
          have hP : zP D c o (zabs o σ4) H := hP
          have hl : lv_has ls 3 [(2, .int x2_4), (0, .ref (o + x0)), (1, .int x1)] := hl
          rw [F_X12_keep_48.eq_1] at h
          show W p l e (zr 4) s m (([.ref (o + x0), .int x1] : List Value).toArray) below meth cd H locs 0 0 (MQ below (zQi D c o g ρ) (([.ref (o + x0), .int x1] : List Value).toArray) s 0 0 (zA o)) (F0 m 48 ls [])
          refine lv_iload_n (pc := 48) hx hb dX12_keep_48 rfl (lv_at hl 0 rfl) ?_
          refine lv_sipush (pc := 49) (v := 10240) hx hb dX12_keep_49 (by decide) ?_
          refine lv_icmp_ge (pc := 52) (tgt := 79) hx hb dX12_keep_52 (by decide) (fun c1 => ?_) (fun c1 => ?_)
          · rw [if_pos c1] at h
            refine lv_aload_n (pc := 79) hx hb dX12_keep_79 rfl (lv_at hl 1 rfl) ?_
            obtain ⟨v5, hv, h⟩ := zl_some h
            refine xgR (pc := 80) (j := 5) zc12 hx hb hts hown hK hP hv rfl zf_X12_23 dX12_keep_80 ?_
            refine lv_iload_n (pc := 83) hx hb dX12_keep_83 rfl (lv_at hl 2 rfl) ?_
            refine lv_iconst (pc := 84) (v := 1) hx hb dX12_keep_84 (by decide) ?_
            obtain ⟨σ6, hv, h⟩ := zl_some h
            refine xsZ (pc := 85) hx hb hK hP hS hv dX12_keep_85 (fun H locs hP hS => ?_)
            refine lv_iconst (pc := 86) (v := 0) hx hb dX12_keep_86 (by decide) ?_
            exact xreti (pc := 87) hx hb hr hlocks hP hK hE hS h dX12_keep_87
          · rw [if_neg c1] at h
            refine lv_aload_n (pc := 55) hx hb dX12_keep_55 rfl (lv_at hl 1 rfl) ?_
            obtain ⟨v7, hv, h⟩ := zl_some h
            refine xgR (pc := 56) (j := 4) zc12 hx hb hts hown hK hP hv rfl zf_X12_20 dX12_keep_56 ?_
            refine lv_sipush (pc := 59) (v := 10240) hx hb dX12_keep_59 (by decide) ?_
            refine lv_iload_n (pc := 62) hx hb dX12_keep_62 rfl (lv_at hl 2 rfl) ?_
            refine lv_imul (pc := 63) hx hb dX12_keep_63 ?_
            refine lv_iload_n (pc := 64) hx hb dX12_keep_64 rfl (lv_at hl 0 rfl) ?_
            refine lv_iadd (pc := 65) hx hb dX12_keep_65 ?_
            refine lv_aload_n (pc := 66) hx hb dX12_keep_66 rfl (lv_at hl 1 rfl) ?_
            obtain ⟨v8, hv, h⟩ := zl_some h
            refine xgR (pc := 67) (j := 2) zc12 hx hb hts hown hK hP hv rfl zf_X12_13 dX12_keep_67 ?_
            refine lv_iload_n (pc := 70) hx hb dX12_keep_70 rfl (lv_at hl 0 rfl) ?_
            obtain ⟨v9, hv, h⟩ := zl_some h
            refine xaZ (pc := 71) hx hb hK hP hv dX12_keep_71 ?_
            obtain ⟨σ10, hv, h⟩ := zl_some h
            refine xsZ (pc := 72) hx hb hK hP hS hv dX12_keep_72 (fun H locs hP hS => ?_)
            refine lv_iinc (pc := 73) (v := x2_4 + 1) (lv' := [(2, .int (x2_4 + 1)), (0, .ref (o + x0)), (1, .int x1)]) hx hb dX12_keep_73 hl (k := 0) rfl rfl (by decide) rfl (fun ls hl => ?_)
            refine lv_goto (pc := 76) (tgt := 48) hx hb dX12_keep_76 (by decide) ?_
            exact ih4 (x2_4 + 1, σ10) h _ _ ls hP hS (lv_sub hl [0, 1, 2] rfl)
        exact L48_4 N (0, σ3) h _ _ ls hP hS (lv_sub hl [0, 1, 2] rfl)
      · rw [if_neg c1] at h
        refine lv_aload_n (pc := 23) hx hb dX12_keep_23 rfl (lv_at hl 1 rfl) ?_
        obtain ⟨v11, hv, h⟩ := zl_some h
        refine xgR (pc := 24) (j := 3) zc12 hx hb hts hown hK hP hv rfl zf_X12_17 dX12_keep_24 ?_
        refine lv_bipush (pc := 27) (v := 43) hx hb dX12_keep_27 (by decide) ?_
        refine lv_iload_n (pc := 29) hx hb dX12_keep_29 rfl (lv_at hl 2 rfl) ?_
        refine lv_imul (pc := 30) hx hb dX12_keep_30 ?_
        refine lv_iload_n (pc := 31) hx hb dX12_keep_31 rfl (lv_at hl 0 rfl) ?_
        refine lv_iadd (pc := 32) hx hb dX12_keep_32 ?_
        refine lv_aload_n (pc := 33) hx hb dX12_keep_33 rfl (lv_at hl 1 rfl) ?_
        obtain ⟨v12, hv, h⟩ := zl_some h
        refine xgR (pc := 34) (j := 1) zc12 hx hb hts hown hK hP hv rfl zf_X12_9 dX12_keep_34 ?_
        refine lv_iload_n (pc := 37) hx hb dX12_keep_37 rfl (lv_at hl 0 rfl) ?_
        obtain ⟨v13, hv, h⟩ := zl_some h
        refine xaI (pc := 38) hx hb hK hP hv dX12_keep_38 ?_
        obtain ⟨σ14, hv, h⟩ := zl_some h
        refine xsI (pc := 39) hx hb hK hP hS hv dX12_keep_39 (fun H locs hP hS => ?_)
        refine lv_iinc (pc := 40) (v := x2_3 + 1) (lv' := [(2, .int (x2_3 + 1)), (0, .ref (o + x0)), (1, .int x1)]) hx hb dX12_keep_40 hl (k := 0) rfl rfl (by decide) rfl (fun ls hl => ?_)
        refine lv_goto (pc := 43) (tgt := 17) hx hb dX12_keep_43 (by decide) ?_
        exact ih3 (x2_3 + 1, σ14) h _ _ ls hP hS (lv_sub hl [0, 1, 2] rfl)
    exact L17_3 N (0, σ2) h _ _ ls hP hS (lv_sub hl [0, 1, 2] rfl)
  · rw [if_pos c1] at h
    refine lv_bipush (pc := 12) (v := (-2)) hx hb dX12_keep_12 (by decide) ?_
    exact xreti (pc := 14) hx hb hr hlocks hP hK hE hS h dX12_keep_14
def F_X12_back_60 (N : Nat) (x0 : Nat) (x1 : Int32) (again60 : (Int32 × zS) → Option (Int32 × zS)) : Int32 × zS → Option (Int32 × zS)
  | (x2, σ) =>
  if 10240 ≤ x2 then
    (some (0, σ))
  else
    (zl (gR 12 2 x0 σ) fun v5 =>
    zl (gR 12 4 x0 σ) fun v6 =>
    zl (aI 16 v6 ((10240 * x1) + x2) σ) fun v7 =>
    zl (sI 16 v5 x2 v7 σ) fun σ8 =>
    again60 (x2 + 1, σ8))
def F_X12_back_29 (N : Nat) (x0 : Nat) (x1 : Int32) (again29 : (Int32 × zS) → Option (Int32 × zS)) : Int32 × zS → Option (Int32 × zS)
  | (x2, σ) =>
  if 43 ≤ x2 then
    (zlp (F_X12_back_60 N x0 x1) N (0, σ))
  else
    (zl (gR 12 1 x0 σ) fun v9 =>
    zl (gR 12 3 x0 σ) fun v10 =>
    zl (aI 14 v10 ((43 * x1) + x2) σ) fun v11 =>
    zl (sI 14 v9 x2 v11 σ) fun σ12 =>
    again29 (x2 + 1, σ12))
def f_X12_back (N : Nat) (x0 : Nat) (x1 : Int32) (σ : zS) : Option (Int32 × zS) :=
  zb (f_X12_in N (Int32.toInt64 x1) 0 2 σ) fun v1 σ2 =>
  if v1 = 0 then
    (some ((-2), σ2))
  else
    (zl (gR 12 5 x0 σ2) fun v3 =>
    zl (aI 16 v3 x1 σ2) fun v4 =>
    if v4 = 0 then
      (some ((-6), σ2))
    else
      (zlp (F_X12_back_29 N x0 x1) N (0, σ2)))
set_option maxHeartbeats 4000000 in
set_option maxRecDepth 100000 in
theorem c_X12_back (l : Launch) (D : va_G) (c : zC) (o : Nat) (g : zEp) (N : Nat) {x0 : Nat} {x1 : Int32} {σ : zS} {ρ : Int32 × zS} (h : f_X12_back N x0 x1 σ = some ρ) : Met l yX12_back zs_X12_back (zr 4) (va_Pc [.ref (o + x0), .int x1] (zG D c o g σ)) (zQi D c o g ρ) 0 0 (zA o) := by
  refine zMetG (by decide) (Nat.le_of_ble_eq_true rfl) ?_
  intro p e s m below meth cd ⟨hx, hb, hr, hml, hown, hts, hlocks⟩ hP hK hE ls hl
  have hS : va_S (zA o) s.heap s.heap [] := va_S.rf
  have hl : lv_has ls 3 [(0, .ref (o + x0)), (1, .int x1)] := hl
  rw [f_X12_back.eq_1] at h
  refine lv_iload_n (pc := 0) hx hb dX12_back_0 rfl (lv_at hl 1 rfl) ?_
  refine lv_i2l (pc := 1) hx hb dX12_back_1 rfl ?_
  refine lv_lconst (pc := 2) (v := 0) hx hb dX12_back_2 (by decide) ?_
  refine lv_ldc2 (pc := 3) hx hb hown (hts _ zk_X12_92) dX12_back_3 ?_
  obtain ⟨v1, σ2, hv, h⟩ := zb_some h
  refine xcallSi (pc := 6) (As := [.long (Int32.toInt64 x1), .long 0, .long 2]) (rest := []) ⟨hx, hb, hml, hown, hts⟩ (c_X12_in l D c o g N hv) zT_X12_94 rfl zd_X12_in ⟨Nat.le_of_ble_eq_true rfl, Nat.le_of_ble_eq_true rfl⟩ hK hP hE hS hl.1 rfl (Nat.le_of_ble_eq_true rfl) ⟨Nat.zero_le _, Nat.zero_le _⟩ dX12_back_6 (fun H locs hP hS => ?_)
  refine lv_if_ne (pc := 9) (tgt := 15) hx hb dX12_back_9 (by decide) (fun c1 => ?_) (fun c1 => ?_)
  · rw [if_neg c1] at h
    refine lv_aload_n (pc := 15) hx hb dX12_back_15 rfl (lv_at hl 0 rfl) ?_
    obtain ⟨v3, hv, h⟩ := zl_some h
    refine xgR (pc := 16) (j := 5) zc12 hx hb hts hown hK hP hv rfl zf_X12_23 dX12_back_16 ?_
    refine lv_iload_n (pc := 19) hx hb dX12_back_19 rfl (lv_at hl 1 rfl) ?_
    obtain ⟨v4, hv, h⟩ := zl_some h
    refine xaZ (pc := 20) hx hb hK hP hv dX12_back_20 ?_
    refine lv_if_ne (pc := 21) (tgt := 27) hx hb dX12_back_21 (by decide) (fun c1 => ?_) (fun c1 => ?_)
    · rw [if_neg c1] at h
      refine lv_iconst (pc := 27) (v := 0) hx hb dX12_back_27 (by decide) ?_
      refine lv_istore_n (pc := 28) (lv' := [(2, .int 0), (0, .ref (o + x0)), (1, .int x1)]) hx hb dX12_back_28 rfl hl (by decide) rfl (fun ls hl => ?_)
      have L29_5 : ∀ (n : Nat) (t : Int32 × zS), zlp (F_X12_back_29 N x0 x1) n t = some ρ → ∀ (H : Heap) (locs : List Loc) (ls : Array Slot), zP D c o (zabs o (t.2)) H → va_S (zA o) s.heap H locs → lv_has ls 3 [(2, .int (t.1)), (0, .ref (o + x0)), (1, .int x1)] → W p l e (zr 4) s m (([.ref (o + x0), .int x1] : List Value).toArray) below meth cd H locs 0 0 (MQ below (zQi D c o g ρ) (([.ref (o + x0), .int x1] : List Value).toArray) s 0 0 (zA o)) (F0 m 29 ls []) := by
        refine zlp_ind (fun ag5 ih5 t h H locs ls hP hS hl => ?_)
        obtain ⟨x2_5, σ5⟩ := t
        have hP : zP D c o (zabs o σ5) H := hP
        have hl : lv_has ls 3 [(2, .int x2_5), (0, .ref (o + x0)), (1, .int x1)] := hl
        rw [F_X12_back_29.eq_1] at h
        show W p l e (zr 4) s m (([.ref (o + x0), .int x1] : List Value).toArray) below meth cd H locs 0 0 (MQ below (zQi D c o g ρ) (([.ref (o + x0), .int x1] : List Value).toArray) s 0 0 (zA o)) (F0 m 29 ls [])
        refine lv_iload_n (pc := 29) hx hb dX12_back_29 rfl (lv_at hl 0 rfl) ?_
        refine lv_bipush (pc := 30) (v := 43) hx hb dX12_back_30 (by decide) ?_
        refine lv_icmp_ge (pc := 32) (tgt := 58) hx hb dX12_back_32 (by decide) (fun c1 => ?_) (fun c1 => ?_)
        · rw [if_pos c1] at h
          refine lv_iconst (pc := 58) (v := 0) hx hb dX12_back_58 (by decide) ?_
          refine lv_istore_n (pc := 59) (lv' := [(2, .int 0), (0, .ref (o + x0)), (1, .int x1)]) hx hb dX12_back_59 rfl hl (by decide) rfl (fun ls hl => ?_)
          have L60_6 : ∀ (n : Nat) (t : Int32 × zS), zlp (F_X12_back_60 N x0 x1) n t = some ρ → ∀ (H : Heap) (locs : List Loc) (ls : Array Slot), zP D c o (zabs o (t.2)) H → va_S (zA o) s.heap H locs → lv_has ls 3 [(2, .int (t.1)), (0, .ref (o + x0)), (1, .int x1)] → W p l e (zr 4) s m (([.ref (o + x0), .int x1] : List Value).toArray) below meth cd H locs 0 0 (MQ below (zQi D c o g ρ) (([.ref (o + x0), .int x1] : List Value).toArray) s 0 0 (zA o)) (F0 m 60 ls []) := by
            refine zlp_ind (fun ag6 ih6 t h H locs ls hP hS hl => ?_)
            obtain ⟨x2_6, σ6⟩ := t
            have hP : zP D c o (zabs o σ6) H := hP
            have hl : lv_has ls 3 [(2, .int x2_6), (0, .ref (o + x0)), (1, .int x1)] := hl
            rw [F_X12_back_60.eq_1] at h
            show W p l e (zr 4) s m (([.ref (o + x0), .int x1] : List Value).toArray) below meth cd H locs 0 0 (MQ below (zQi D c o g ρ) (([.ref (o + x0), .int x1] : List Value).toArray) s 0 0 (zA o)) (F0 m 60 ls [])
            refine lv_iload_n (pc := 60) hx hb dX12_back_60 rfl (lv_at hl 0 rfl) ?_
            refine lv_sipush (pc := 61) (v := 10240) hx hb dX12_back_61 (by decide) ?_
            refine lv_icmp_ge (pc := 64) (tgt := 91) hx hb dX12_back_64 (by decide) (fun c1 => ?_) (fun c1 => ?_)
            · rw [if_pos c1] at h
              refine lv_iconst (pc := 91) (v := 0) hx hb dX12_back_91 (by decide) ?_
              exact xreti (pc := 92) hx hb hr hlocks hP hK hE hS h dX12_back_92
            · rw [if_neg c1] at h
              refine lv_aload_n (pc := 67) hx hb dX12_back_67 rfl (lv_at hl 1 rfl) ?_
              obtain ⟨v7, hv, h⟩ := zl_some h
              refine xgR (pc := 68) (j := 2) zc12 hx hb hts hown hK hP hv rfl zf_X12_13 dX12_back_68 ?_
              refine lv_iload_n (pc := 71) hx hb dX12_back_71 rfl (lv_at hl 0 rfl) ?_
              refine lv_aload_n (pc := 72) hx hb dX12_back_72 rfl (lv_at hl 1 rfl) ?_
              obtain ⟨v8, hv, h⟩ := zl_some h
              refine xgR (pc := 73) (j := 4) zc12 hx hb hts hown hK hP hv rfl zf_X12_20 dX12_back_73 ?_
              refine lv_sipush (pc := 76) (v := 10240) hx hb dX12_back_76 (by decide) ?_
              refine lv_iload_n (pc := 79) hx hb dX12_back_79 rfl (lv_at hl 2 rfl) ?_
              refine lv_imul (pc := 80) hx hb dX12_back_80 ?_
              refine lv_iload_n (pc := 81) hx hb dX12_back_81 rfl (lv_at hl 0 rfl) ?_
              refine lv_iadd (pc := 82) hx hb dX12_back_82 ?_
              obtain ⟨v9, hv, h⟩ := zl_some h
              refine xaZ (pc := 83) hx hb hK hP hv dX12_back_83 ?_
              obtain ⟨σ10, hv, h⟩ := zl_some h
              refine xsZ (pc := 84) hx hb hK hP hS hv dX12_back_84 (fun H locs hP hS => ?_)
              refine lv_iinc (pc := 85) (v := x2_6 + 1) (lv' := [(2, .int (x2_6 + 1)), (0, .ref (o + x0)), (1, .int x1)]) hx hb dX12_back_85 hl (k := 0) rfl rfl (by decide) rfl (fun ls hl => ?_)
              refine lv_goto (pc := 88) (tgt := 60) hx hb dX12_back_88 (by decide) ?_
              exact ih6 (x2_6 + 1, σ10) h _ _ ls hP hS (lv_sub hl [0, 1, 2] rfl)
          exact L60_6 N (0, σ5) h _ _ ls hP hS (lv_sub hl [0, 1, 2] rfl)
        · rw [if_neg c1] at h
          refine lv_aload_n (pc := 35) hx hb dX12_back_35 rfl (lv_at hl 1 rfl) ?_
          obtain ⟨v11, hv, h⟩ := zl_some h
          refine xgR (pc := 36) (j := 1) zc12 hx hb hts hown hK hP hv rfl zf_X12_9 dX12_back_36 ?_
          refine lv_iload_n (pc := 39) hx hb dX12_back_39 rfl (lv_at hl 0 rfl) ?_
          refine lv_aload_n (pc := 40) hx hb dX12_back_40 rfl (lv_at hl 1 rfl) ?_
          obtain ⟨v12, hv, h⟩ := zl_some h
          refine xgR (pc := 41) (j := 3) zc12 hx hb hts hown hK hP hv rfl zf_X12_17 dX12_back_41 ?_
          refine lv_bipush (pc := 44) (v := 43) hx hb dX12_back_44 (by decide) ?_
          refine lv_iload_n (pc := 46) hx hb dX12_back_46 rfl (lv_at hl 2 rfl) ?_
          refine lv_imul (pc := 47) hx hb dX12_back_47 ?_
          refine lv_iload_n (pc := 48) hx hb dX12_back_48 rfl (lv_at hl 0 rfl) ?_
          refine lv_iadd (pc := 49) hx hb dX12_back_49 ?_
          obtain ⟨v13, hv, h⟩ := zl_some h
          refine xaI (pc := 50) hx hb hK hP hv dX12_back_50 ?_
          obtain ⟨σ14, hv, h⟩ := zl_some h
          refine xsI (pc := 51) hx hb hK hP hS hv dX12_back_51 (fun H locs hP hS => ?_)
          refine lv_iinc (pc := 52) (v := x2_5 + 1) (lv' := [(2, .int (x2_5 + 1)), (0, .ref (o + x0)), (1, .int x1)]) hx hb dX12_back_52 hl (k := 0) rfl rfl (by decide) rfl (fun ls hl => ?_)
          refine lv_goto (pc := 55) (tgt := 29) hx hb dX12_back_55 (by decide) ?_
          exact ih5 (x2_5 + 1, σ14) h _ _ ls hP hS (lv_sub hl [0, 1, 2] rfl)
      exact L29_5 N (0, σ2) h _ _ ls hP hS (lv_sub hl [0, 1, 2] rfl)
    · rw [if_pos c1] at h
      refine lv_bipush (pc := 24) (v := (-6)) hx hb dX12_back_24 (by decide) ?_
      exact xreti (pc := 26) hx hb hr hlocks hP hK hE hS h dX12_back_26
  · rw [if_pos c1] at h
    refine lv_bipush (pc := 12) (v := (-2)) hx hb dX12_back_12 (by decide) ?_
    exact xreti (pc := 14) hx hb hr hlocks hP hK hE hS h dX12_back_14
def f_X12_isWorld (N : Nat) (x0 : Nat) (σ : zS) : Option (Int32 × zS) :=
  zl (gR 12 1 x0 σ) fun v1 =>
  zl (aI 14 v1 0 σ) fun v2 =>
  if v2 ≤ 0 then
    (rZ 0 σ)
  else
    (rZ 1 σ)
set_option maxHeartbeats 4000000 in
set_option maxRecDepth 100000 in
theorem c_X12_isWorld (l : Launch) (D : va_G) (c : zC) (o : Nat) (g : zEp) (N : Nat) {x0 : Nat} {σ : zS} {ρ : Int32 × zS} (h : f_X12_isWorld N x0 σ = some ρ) : Met l yX12_isWorld zs_X12_isWorld (zr 2) (va_Pc [.ref (o + x0)] (zG D c o g σ)) (zQi D c o g ρ) 0 0 (zA o) := by
  refine zMetG (by decide) (Nat.le_of_ble_eq_true rfl) ?_
  intro p e s m below meth cd ⟨hx, hb, hr, hml, hown, hts, hlocks⟩ hP hK hE ls hl
  have hS : va_S (zA o) s.heap s.heap [] := va_S.rf
  have hl : lv_has ls 1 [(0, .ref (o + x0))] := hl
  rw [f_X12_isWorld.eq_1] at h
  refine lv_aload_n (pc := 0) hx hb dX12_isWorld_0 rfl (lv_at hl 0 rfl) ?_
  obtain ⟨v1, hv, h⟩ := zl_some h
  refine xgR (pc := 1) (j := 1) zc12 hx hb hts hown hK hP hv rfl zf_X12_9 dX12_isWorld_1 ?_
  refine lv_iconst (pc := 4) (v := 0) hx hb dX12_isWorld_4 (by decide) ?_
  obtain ⟨v2, hv, h⟩ := zl_some h
  refine xaI (pc := 5) hx hb hK hP hv dX12_isWorld_5 ?_
  refine lv_if_le (pc := 6) (tgt := 13) hx hb dX12_isWorld_6 (by decide) (fun c1 => ?_) (fun c1 => ?_)
  · rw [if_pos c1] at h
    refine lv_iconst (pc := 13) (v := 0) hx hb dX12_isWorld_13 (by decide) ?_
    exact xretz (pc := 14) hx hb hr hlocks hP hK hE hS h dX12_isWorld_14
  · rw [if_neg c1] at h
    refine lv_iconst (pc := 9) (v := 1) hx hb dX12_isWorld_9 (by decide) ?_
    refine lv_goto (pc := 10) (tgt := 14) hx hb dX12_isWorld_10 (by decide) ?_
    exact xretz (pc := 14) hx hb hr hlocks hP hK hE hS h dX12_isWorld_14
def f_X12_isRegister (N : Nat) (x0 : Nat) (x1 : Int32) (σ : zS) : Option (Int32 × zS) :=
  zl (gC 12 x0) fun _ => zb (f_X12_isWorld N x0 σ) fun v1 σ2 =>
  if v1 = 0 then
    (rZ 0 σ2)
  else
    (zb (f_X12_in N (Int32.toInt64 x1) 0 9 σ2) fun v3 σ4 =>
    if v3 = 0 then
      (rZ 0 σ4)
    else
      (rZ 1 σ4))
set_option maxHeartbeats 4000000 in
set_option maxRecDepth 100000 in
theorem c_X12_isRegister (l : Launch) (D : va_G) (c : zC) (o : Nat) (g : zEp) (N : Nat) {x0 : Nat} {x1 : Int32} {σ : zS} {ρ : Int32 × zS} (h : f_X12_isRegister N x0 x1 σ = some ρ) : Met l yX12_isRegister zs_X12_isRegister (zr 4) (va_Pc [.ref (o + x0), .int x1] (zG D c o g σ)) (zQi D c o g ρ) 0 0 (zA o) := by
  refine zMetG (by decide) (Nat.le_of_ble_eq_true rfl) ?_
  intro p e s m below meth cd ⟨hx, hb, hr, hml, hown, hts, hlocks⟩ hP hK hE ls hl
  have hS : va_S (zA o) s.heap s.heap [] := va_S.rf
  have hl : lv_has ls 2 [(0, .ref (o + x0)), (1, .int x1)] := hl
  rw [f_X12_isRegister.eq_1] at h
  refine lv_aload_n (pc := 0) hx hb dX12_isRegister_0 rfl (lv_at hl 0 rfl) ?_
  obtain ⟨_, hg, h⟩ := zl_some h
  obtain ⟨v1, σ2, hv, h⟩ := zb_some h
  refine xcallVi (pc := 1) (As := []) (rest := []) ⟨hx, hb, hml, hown, hts⟩ (c_X12_isWorld l D c o g N hv) zc12 zV_X12_98 rfl zd_X12_isWorld ⟨Nat.le_of_ble_eq_true rfl, Nat.le_of_ble_eq_true rfl⟩ hK hP hE hS hg hl.1 rfl (Nat.le_of_ble_eq_true rfl) ⟨Nat.zero_le _, Nat.zero_le _⟩ dX12_isRegister_1 (fun H locs hP hS => ?_)
  refine lv_if_eq (pc := 4) (tgt := 23) hx hb dX12_isRegister_4 (by decide) (fun c1 => ?_) (fun c1 => ?_)
  · rw [if_pos c1] at h
    refine lv_iconst (pc := 23) (v := 0) hx hb dX12_isRegister_23 (by decide) ?_
    exact xretz (pc := 24) hx hb hr hlocks hP hK hE hS h dX12_isRegister_24
  · rw [if_neg c1] at h
    refine lv_iload_n (pc := 7) hx hb dX12_isRegister_7 rfl (lv_at hl 1 rfl) ?_
    refine lv_i2l (pc := 8) hx hb dX12_isRegister_8 rfl ?_
    refine lv_lconst (pc := 9) (v := 0) hx hb dX12_isRegister_9 (by decide) ?_
    refine lv_ldc2 (pc := 10) hx hb hown (hts _ zk_X12_102) dX12_isRegister_10 ?_
    obtain ⟨v3, σ4, hv, h⟩ := zb_some h
    refine xcallSi (pc := 13) (As := [.long (Int32.toInt64 x1), .long 0, .long 9]) (rest := []) ⟨hx, hb, hml, hown, hts⟩ (c_X12_in l D c o g N hv) zT_X12_94 rfl zd_X12_in ⟨Nat.le_of_ble_eq_true rfl, Nat.le_of_ble_eq_true rfl⟩ hK hP hE hS hl.1 rfl (Nat.le_of_ble_eq_true rfl) ⟨Nat.zero_le _, Nat.zero_le _⟩ dX12_isRegister_13 (fun H locs hP hS => ?_)
    refine lv_if_eq (pc := 16) (tgt := 23) hx hb dX12_isRegister_16 (by decide) (fun c1 => ?_) (fun c1 => ?_)
    · rw [if_pos c1] at h
      refine lv_iconst (pc := 23) (v := 0) hx hb dX12_isRegister_23 (by decide) ?_
      exact xretz (pc := 24) hx hb hr hlocks hP hK hE hS h dX12_isRegister_24
    · rw [if_neg c1] at h
      refine lv_iconst (pc := 19) (v := 1) hx hb dX12_isRegister_19 (by decide) ?_
      refine lv_goto (pc := 20) (tgt := 24) hx hb dX12_isRegister_20 (by decide) ?_
      exact xretz (pc := 24) hx hb hr hlocks hP hK hE hS h dX12_isRegister_24
def f_X12_many (N : Nat) (x0 : Nat) (σ : zS) : Option (Int32 × zS) :=
  zl (gC 12 x0) fun _ => zb (f_X12_isWorld N x0 σ) fun v1 σ2 =>
  if v1 = 0 then
    (some (0, σ2))
  else
    (zl (gR 12 1 x0 σ2) fun v3 =>
    zl (aI 14 v3 0 σ2) fun v4 =>
    some ((1 : Int32) <<< (v4 &&& 31), σ2))
set_option maxHeartbeats 4000000 in
set_option maxRecDepth 100000 in
theorem c_X12_many (l : Launch) (D : va_G) (c : zC) (o : Nat) (g : zEp) (N : Nat) {x0 : Nat} {σ : zS} {ρ : Int32 × zS} (h : f_X12_many N x0 σ = some ρ) : Met l yX12_many zs_X12_many (zr 4) (va_Pc [.ref (o + x0)] (zG D c o g σ)) (zQi D c o g ρ) 0 0 (zA o) := by
  refine zMetG (by decide) (Nat.le_of_ble_eq_true rfl) ?_
  intro p e s m below meth cd ⟨hx, hb, hr, hml, hown, hts, hlocks⟩ hP hK hE ls hl
  have hS : va_S (zA o) s.heap s.heap [] := va_S.rf
  have hl : lv_has ls 1 [(0, .ref (o + x0))] := hl
  rw [f_X12_many.eq_1] at h
  refine lv_aload_n (pc := 0) hx hb dX12_many_0 rfl (lv_at hl 0 rfl) ?_
  obtain ⟨_, hg, h⟩ := zl_some h
  obtain ⟨v1, σ2, hv, h⟩ := zb_some h
  refine xcallVi (pc := 1) (As := []) (rest := []) ⟨hx, hb, hml, hown, hts⟩ (c_X12_isWorld l D c o g N hv) zc12 zV_X12_98 rfl zd_X12_isWorld ⟨Nat.le_of_ble_eq_true rfl, Nat.le_of_ble_eq_true rfl⟩ hK hP hE hS hg hl.1 rfl (Nat.le_of_ble_eq_true rfl) ⟨Nat.zero_le _, Nat.zero_le _⟩ dX12_many_1 (fun H locs hP hS => ?_)
  refine lv_if_eq (pc := 4) (tgt := 18) hx hb dX12_many_4 (by decide) (fun c1 => ?_) (fun c1 => ?_)
  · rw [if_pos c1] at h
    refine lv_iconst (pc := 18) (v := 0) hx hb dX12_many_18 (by decide) ?_
    exact xreti (pc := 19) hx hb hr hlocks hP hK hE hS h dX12_many_19
  · rw [if_neg c1] at h
    refine lv_iconst (pc := 7) (v := 1) hx hb dX12_many_7 (by decide) ?_
    refine lv_aload_n (pc := 8) hx hb dX12_many_8 rfl (lv_at hl 0 rfl) ?_
    obtain ⟨v3, hv, h⟩ := zl_some h
    refine xgR (pc := 9) (j := 1) zc12 hx hb hts hown hK hP hv rfl zf_X12_9 dX12_many_9 ?_
    refine lv_iconst (pc := 12) (v := 0) hx hb dX12_many_12 (by decide) ?_
    obtain ⟨v4, hv, h⟩ := zl_some h
    refine xaI (pc := 13) hx hb hK hP hv dX12_many_13 ?_
    refine lv_ishl (pc := 14) hx hb dX12_many_14 ?_
    refine lv_goto (pc := 15) (tgt := 19) hx hb dX12_many_15 (by decide) ?_
    exact xreti (pc := 19) hx hb hr hlocks hP hK hE hS h dX12_many_19
def f_X12_isSet (N : Nat) (x0 : Nat) (x1 : Int32) (σ : zS) : Option (Int32 × zS) :=
  zl (gC 12 x0) fun _ => zb (f_X12_many N x0 σ) fun v1 σ2 =>
  zb (f_X12_in N (Int32.toInt64 x1) 0 (Int32.toInt64 (v1 - 1)) σ2) fun v3 σ4 =>
  rZ v3 σ4
set_option maxHeartbeats 4000000 in
set_option maxRecDepth 100000 in
theorem c_X12_isSet (l : Launch) (D : va_G) (c : zC) (o : Nat) (g : zEp) (N : Nat) {x0 : Nat} {x1 : Int32} {σ : zS} {ρ : Int32 × zS} (h : f_X12_isSet N x0 x1 σ = some ρ) : Met l yX12_isSet zs_X12_isSet (zr 6) (va_Pc [.ref (o + x0), .int x1] (zG D c o g σ)) (zQi D c o g ρ) 0 0 (zA o) := by
  refine zMetG (by decide) (Nat.le_of_ble_eq_true rfl) ?_
  intro p e s m below meth cd ⟨hx, hb, hr, hml, hown, hts, hlocks⟩ hP hK hE ls hl
  have hS : va_S (zA o) s.heap s.heap [] := va_S.rf
  have hl : lv_has ls 2 [(0, .ref (o + x0)), (1, .int x1)] := hl
  rw [f_X12_isSet.eq_1] at h
  refine lv_iload_n (pc := 0) hx hb dX12_isSet_0 rfl (lv_at hl 1 rfl) ?_
  refine lv_i2l (pc := 1) hx hb dX12_isSet_1 rfl ?_
  refine lv_lconst (pc := 2) (v := 0) hx hb dX12_isSet_2 (by decide) ?_
  refine lv_aload_n (pc := 3) hx hb dX12_isSet_3 rfl (lv_at hl 0 rfl) ?_
  obtain ⟨_, hg, h⟩ := zl_some h
  obtain ⟨v1, σ2, hv, h⟩ := zb_some h
  refine xcallVi (pc := 4) (As := []) (rest := [.long 0, .long (Int32.toInt64 x1)]) ⟨hx, hb, hml, hown, hts⟩ (c_X12_many l D c o g N hv) zc12 zV_X12_104 rfl zd_X12_many ⟨Nat.le_of_ble_eq_true rfl, Nat.le_of_ble_eq_true rfl⟩ hK hP hE hS hg hl.1 rfl (Nat.le_of_ble_eq_true rfl) ⟨Nat.zero_le _, Nat.zero_le _⟩ dX12_isSet_4 (fun H locs hP hS => ?_)
  refine lv_iconst (pc := 7) (v := 1) hx hb dX12_isSet_7 (by decide) ?_
  refine lv_isub (pc := 8) hx hb dX12_isSet_8 ?_
  refine lv_i2l (pc := 9) hx hb dX12_isSet_9 rfl ?_
  obtain ⟨v3, σ4, hv, h⟩ := zb_some h
  refine xcallSi (pc := 10) (As := [.long (Int32.toInt64 x1), .long 0, .long (Int32.toInt64 (v1 - 1))]) (rest := []) ⟨hx, hb, hml, hown, hts⟩ (c_X12_in l D c o g N hv) zT_X12_94 rfl zd_X12_in ⟨Nat.le_of_ble_eq_true rfl, Nat.le_of_ble_eq_true rfl⟩ hK hP hE hS hl.1 rfl (Nat.le_of_ble_eq_true rfl) ⟨Nat.zero_le _, Nat.zero_le _⟩ dX12_isSet_10 (fun H locs hP hS => ?_)
  exact xretz (pc := 13) hx hb hr hlocks hP hK hE hS h dX12_isSet_13
def f_X12_isName (N : Nat) (x0 : Nat) (x1 : Int32) (σ : zS) : Option (Int32 × zS) :=
  zl (gR 12 1 x0 σ) fun v1 =>
  zl (aI 14 v1 0 σ) fun v2 =>
  zb (f_X12_in N (Int32.toInt64 x1) 0 (Int32.toInt64 (v2 - 1)) σ) fun v3 σ4 =>
  rZ v3 σ4
set_option maxHeartbeats 4000000 in
set_option maxRecDepth 100000 in
theorem c_X12_isName (l : Launch) (D : va_G) (c : zC) (o : Nat) (g : zEp) (N : Nat) {x0 : Nat} {x1 : Int32} {σ : zS} {ρ : Int32 × zS} (h : f_X12_isName N x0 x1 σ = some ρ) : Met l yX12_isName zs_X12_isName (zr 4) (va_Pc [.ref (o + x0), .int x1] (zG D c o g σ)) (zQi D c o g ρ) 0 0 (zA o) := by
  refine zMetG (by decide) (Nat.le_of_ble_eq_true rfl) ?_
  intro p e s m below meth cd ⟨hx, hb, hr, hml, hown, hts, hlocks⟩ hP hK hE ls hl
  have hS : va_S (zA o) s.heap s.heap [] := va_S.rf
  have hl : lv_has ls 2 [(0, .ref (o + x0)), (1, .int x1)] := hl
  rw [f_X12_isName.eq_1] at h
  refine lv_iload_n (pc := 0) hx hb dX12_isName_0 rfl (lv_at hl 1 rfl) ?_
  refine lv_i2l (pc := 1) hx hb dX12_isName_1 rfl ?_
  refine lv_lconst (pc := 2) (v := 0) hx hb dX12_isName_2 (by decide) ?_
  refine lv_aload_n (pc := 3) hx hb dX12_isName_3 rfl (lv_at hl 0 rfl) ?_
  obtain ⟨v1, hv, h⟩ := zl_some h
  refine xgR (pc := 4) (j := 1) zc12 hx hb hts hown hK hP hv rfl zf_X12_9 dX12_isName_4 ?_
  refine lv_iconst (pc := 7) (v := 0) hx hb dX12_isName_7 (by decide) ?_
  obtain ⟨v2, hv, h⟩ := zl_some h
  refine xaI (pc := 8) hx hb hK hP hv dX12_isName_8 ?_
  refine lv_iconst (pc := 9) (v := 1) hx hb dX12_isName_9 (by decide) ?_
  refine lv_isub (pc := 10) hx hb dX12_isName_10 ?_
  refine lv_i2l (pc := 11) hx hb dX12_isName_11 rfl ?_
  obtain ⟨v3, σ4, hv, h⟩ := zb_some h
  refine xcallSi (pc := 12) (As := [.long (Int32.toInt64 x1), .long 0, .long (Int32.toInt64 (v2 - 1))]) (rest := []) ⟨hx, hb, hml, hown, hts⟩ (c_X12_in l D c o g N hv) zT_X12_94 rfl zd_X12_in ⟨Nat.le_of_ble_eq_true rfl, Nat.le_of_ble_eq_true rfl⟩ hK hP hE hS hl.1 rfl (Nat.le_of_ble_eq_true rfl) ⟨Nat.zero_le _, Nat.zero_le _⟩ dX12_isName_12 (fun H locs hP hS => ?_)
  exact xretz (pc := 15) hx hb hr hlocks hP hK hE hS h dX12_isName_15
def f_X12_of (N : Nat) (x0 : Nat) (x1 : Int32) (x2 : Int32) (σ : zS) : Option (Int32 × zS) :=
  zl (gR 12 2 x0 σ) fun v1 =>
  zl (aI 16 v1 ((1024 * x1) + x2) σ) fun v2 =>
  rZ v2 σ
set_option maxHeartbeats 4000000 in
set_option maxRecDepth 100000 in
theorem c_X12_of (l : Launch) (D : va_G) (c : zC) (o : Nat) (g : zEp) (N : Nat) {x0 : Nat} {x1 : Int32} {x2 : Int32} {σ : zS} {ρ : Int32 × zS} (h : f_X12_of N x0 x1 x2 σ = some ρ) : Met l yX12_of zs_X12_of (zr 2) (va_Pc [.ref (o + x0), .int x1, .int x2] (zG D c o g σ)) (zQi D c o g ρ) 0 0 (zA o) := by
  refine zMetG (by decide) (Nat.le_of_ble_eq_true rfl) ?_
  intro p e s m below meth cd ⟨hx, hb, hr, hml, hown, hts, hlocks⟩ hP hK hE ls hl
  have hS : va_S (zA o) s.heap s.heap [] := va_S.rf
  have hl : lv_has ls 3 [(0, .ref (o + x0)), (1, .int x1), (2, .int x2)] := hl
  rw [f_X12_of.eq_1] at h
  refine lv_aload_n (pc := 0) hx hb dX12_of_0 rfl (lv_at hl 0 rfl) ?_
  obtain ⟨v1, hv, h⟩ := zl_some h
  refine xgR (pc := 1) (j := 2) zc12 hx hb hts hown hK hP hv rfl zf_X12_13 dX12_of_1 ?_
  refine lv_sipush (pc := 4) (v := 1024) hx hb dX12_of_4 (by decide) ?_
  refine lv_iload_n (pc := 7) hx hb dX12_of_7 rfl (lv_at hl 1 rfl) ?_
  refine lv_imul (pc := 8) hx hb dX12_of_8 ?_
  refine lv_iload_n (pc := 9) hx hb dX12_of_9 rfl (lv_at hl 2 rfl) ?_
  refine lv_iadd (pc := 10) hx hb dX12_of_10 ?_
  obtain ⟨v2, hv, h⟩ := zl_some h
  refine xaZ (pc := 11) hx hb hK hP hv dX12_of_11 ?_
  exact xretz (pc := 12) hx hb hr hlocks hP hK hE hS h dX12_of_12
def F_X12_namesOf_4 (N : Nat) (x0 : Int32) (again4 : (Int32 × Int32 × zS) → Option (Int32 × zS)) : Int32 × Int32 × zS → Option (Int32 × zS)
  | (x1, x2, σ) =>
  if 10 ≤ x2 then
    (some (x1, σ))
  else
    (again4 (x1 + (((x0 : Int32) >>> (x2 &&& 31)) &&& 1), x2 + 1, σ))
def f_X12_namesOf (N : Nat) (x0 : Int32) (σ : zS) : Option (Int32 × zS) :=
  zlp (F_X12_namesOf_4 N x0) N (0, 0, σ)
set_option maxHeartbeats 4000000 in
set_option maxRecDepth 100000 in
theorem c_X12_namesOf (l : Launch) (D : va_G) (c : zC) (o : Nat) (g : zEp) (N : Nat) {x0 : Int32} {σ : zS} {ρ : Int32 × zS} (h : f_X12_namesOf N x0 σ = some ρ) : Met l yX12_namesOf zs_X12_namesOf (zr 2) (va_Pc [.int x0] (zG D c o g σ)) (zQi D c o g ρ) 0 0 (zA o) := by
  refine zMetG (by decide) (Nat.le_of_ble_eq_true rfl) ?_
  intro p e s m below meth cd ⟨hx, hb, hr, hml, hown, hts, hlocks⟩ hP hK hE ls hl
  have hS : va_S (zA o) s.heap s.heap [] := va_S.rf
  have hl : lv_has ls 3 [(0, .int x0)] := hl
  rw [f_X12_namesOf.eq_1] at h
  refine lv_iconst (pc := 0) (v := 0) hx hb dX12_namesOf_0 (by decide) ?_
  refine lv_istore_n (pc := 1) (lv' := [(1, .int 0), (0, .int x0)]) hx hb dX12_namesOf_1 rfl hl (by decide) rfl (fun ls hl => ?_)
  refine lv_iconst (pc := 2) (v := 0) hx hb dX12_namesOf_2 (by decide) ?_
  refine lv_istore_n (pc := 3) (lv' := [(2, .int 0), (1, .int 0), (0, .int x0)]) hx hb dX12_namesOf_3 rfl hl (by decide) rfl (fun ls hl => ?_)
  have L4_1 : ∀ (n : Nat) (t : Int32 × Int32 × zS), zlp (F_X12_namesOf_4 N x0) n t = some ρ → ∀ (H : Heap) (locs : List Loc) (ls : Array Slot), zP D c o (zabs o (t.2.2)) H → va_S (zA o) s.heap H locs → lv_has ls 3 [(1, .int (t.1)), (2, .int (t.2.1)), (0, .int x0)] → W p l e (zr 2) s m (([.int x0] : List Value).toArray) below meth cd H locs 0 0 (MQ below (zQi D c o g ρ) (([.int x0] : List Value).toArray) s 0 0 (zA o)) (F0 m 4 ls []) := by
    refine zlp_ind (fun ag1 ih1 t h H locs ls hP hS hl => ?_)
    obtain ⟨x1_1, x2_1, σ1⟩ := t
    have hP : zP D c o (zabs o σ1) H := hP
    have hl : lv_has ls 3 [(1, .int x1_1), (2, .int x2_1), (0, .int x0)] := hl
    rw [F_X12_namesOf_4.eq_1] at h
    show W p l e (zr 2) s m (([.int x0] : List Value).toArray) below meth cd H locs 0 0 (MQ below (zQi D c o g ρ) (([.int x0] : List Value).toArray) s 0 0 (zA o)) (F0 m 4 ls [])
    refine lv_iload_n (pc := 4) hx hb dX12_namesOf_4 rfl (lv_at hl 1 rfl) ?_
    refine lv_bipush (pc := 5) (v := 10) hx hb dX12_namesOf_5 (by decide) ?_
    refine lv_icmp_ge (pc := 7) (tgt := 24) hx hb dX12_namesOf_7 (by decide) (fun c1 => ?_) (fun c1 => ?_)
    · rw [if_pos c1] at h
      refine lv_iload_n (pc := 24) hx hb dX12_namesOf_24 rfl (lv_at hl 0 rfl) ?_
      exact xreti (pc := 25) hx hb hr hlocks hP hK hE hS h dX12_namesOf_25
    · rw [if_neg c1] at h
      refine lv_iload_n (pc := 10) hx hb dX12_namesOf_10 rfl (lv_at hl 0 rfl) ?_
      refine lv_iload_n (pc := 11) hx hb dX12_namesOf_11 rfl (lv_at hl 2 rfl) ?_
      refine lv_iload_n (pc := 12) hx hb dX12_namesOf_12 rfl (lv_at hl 1 rfl) ?_
      refine lv_ishr (pc := 13) hx hb dX12_namesOf_13 ?_
      refine lv_iconst (pc := 14) (v := 1) hx hb dX12_namesOf_14 (by decide) ?_
      refine lv_iand (pc := 15) hx hb dX12_namesOf_15 ?_
      refine lv_iadd (pc := 16) hx hb dX12_namesOf_16 ?_
      refine lv_istore_n (pc := 17) (lv' := [(1, .int (x1_1 + (((x0 : Int32) >>> (x2_1 &&& 31)) &&& 1))), (2, .int x2_1), (0, .int x0)]) hx hb dX12_namesOf_17 rfl hl (by decide) rfl (fun ls hl => ?_)
      refine lv_iinc (pc := 18) (v := x2_1 + 1) (lv' := [(2, .int (x2_1 + 1)), (1, .int (x1_1 + (((x0 : Int32) >>> (x2_1 &&& 31)) &&& 1))), (0, .int x0)]) hx hb dX12_namesOf_18 hl (k := 1) rfl rfl (by decide) rfl (fun ls hl => ?_)
      refine lv_goto (pc := 21) (tgt := 4) hx hb dX12_namesOf_21 (by decide) ?_
      exact ih1 (x1_1 + (((x0 : Int32) >>> (x2_1 &&& 31)) &&& 1), x2_1 + 1, σ1) h _ _ ls hP hS (lv_sub hl [1, 0, 2] rfl)
  exact L4_1 N (0, 0, σ) h _ _ ls hP hS (lv_sub hl [1, 0, 2] rfl)
def F_X12_feed_55 (N : Nat) (x0 : Nat) (again55 : (Int32 × zS) → Option (Int32 × zS)) : Int32 × zS → Option (Int32 × zS)
  | (x6, σ) =>
  if 20 ≤ x6 then
    (zl (gI 12 7 x0 σ) fun v12 =>
    zl (pI 12 7 x0 (v12 + 20) σ) fun σ13 =>
    zl (gI 12 7 x0 σ13) fun v14 =>
    some (v14, σ13))
  else
    (zl (gR 12 6 x0 σ) fun v15 =>
    zl (gI 12 7 x0 σ) fun v16 =>
    zl (gR 12 8 x0 σ) fun v17 =>
    zl (nzI 4) fun _ =>
    zl (aI 14 v17 (x6 / 4) σ) fun v18 =>
    zl (nzI 4) fun _ =>
    zl (sI 13 v15 (v16 + x6) ((Int32.toInt8 ((v18 : Int32) >>> ((24 - (8 * (x6 - x6 / 4 * 4))) &&& 31))).toInt32) σ) fun σ19 =>
    again55 (x6 + 1, σ19))
def f_X12_feed (N : Nat) (x0 : Nat) (x1 : Int32) (x2 : Int32) (x3 : Int32) (x4 : Int32) (x5 : Int32) (σ : zS) : Option (Int32 × zS) :=
  zl (gI 12 7 x0 σ) fun v1 =>
  if (v1 + 20) ≤ 600 then
    (zl (gR 12 8 x0 σ) fun v2 =>
    zl (sI 14 v2 0 x1 σ) fun σ3 =>
    zl (gR 12 8 x0 σ3) fun v4 =>
    zl (sI 14 v4 1 x2 σ3) fun σ5 =>
    zl (gR 12 8 x0 σ5) fun v6 =>
    zl (sI 14 v6 2 x3 σ5) fun σ7 =>
    zl (gR 12 8 x0 σ7) fun v8 =>
    zl (sI 14 v8 3 x4 σ7) fun σ9 =>
    zl (gR 12 8 x0 σ9) fun v10 =>
    zl (sI 14 v10 4 x5 σ9) fun σ11 =>
    zlp (F_X12_feed_55 N x0) N (0, σ11))
  else
    (some ((-1), σ))
set_option maxHeartbeats 4000000 in
set_option maxRecDepth 100000 in
theorem c_X12_feed (l : Launch) (D : va_G) (c : zC) (o : Nat) (g : zEp) (N : Nat) {x0 : Nat} {x1 : Int32} {x2 : Int32} {x3 : Int32} {x4 : Int32} {x5 : Int32} {σ : zS} {ρ : Int32 × zS} (h : f_X12_feed N x0 x1 x2 x3 x4 x5 σ = some ρ) : Met l yX12_feed zs_X12_feed (zr 2) (va_Pc [.ref (o + x0), .int x1, .int x2, .int x3, .int x4, .int x5] (zG D c o g σ)) (zQi D c o g ρ) 0 0 (zA o) := by
  refine zMetG (by decide) (Nat.le_of_ble_eq_true rfl) ?_
  intro p e s m below meth cd ⟨hx, hb, hr, hml, hown, hts, hlocks⟩ hP hK hE ls hl
  have hS : va_S (zA o) s.heap s.heap [] := va_S.rf
  have hl : lv_has ls 7 [(0, .ref (o + x0)), (1, .int x1), (2, .int x2), (3, .int x3), (4, .int x4), (5, .int x5)] := hl
  rw [f_X12_feed.eq_1] at h
  refine lv_aload_n (pc := 0) hx hb dX12_feed_0 rfl (lv_at hl 0 rfl) ?_
  obtain ⟨v1, hv, h⟩ := zl_some h
  refine xgI (pc := 1) (j := 7) zc12 hx hb hts hown hK hP hv rfl zf_X12_107 dX12_feed_1 ?_
  refine lv_bipush (pc := 4) (v := 20) hx hb dX12_feed_4 (by decide) ?_
  refine lv_iadd (pc := 6) hx hb dX12_feed_6 ?_
  refine lv_sipush (pc := 7) (v := 600) hx hb dX12_feed_7 (by decide) ?_
  refine lv_icmp_le (pc := 10) (tgt := 15) hx hb dX12_feed_10 (by decide) (fun c1 => ?_) (fun c1 => ?_)
  · rw [if_pos c1] at h
    refine lv_aload_n (pc := 15) hx hb dX12_feed_15 rfl (lv_at hl 0 rfl) ?_
    obtain ⟨v2, hv, h⟩ := zl_some h
    refine xgR (pc := 16) (j := 8) zc12 hx hb hts hown hK hP hv rfl zf_X12_30 dX12_feed_16 ?_
    refine lv_iconst (pc := 19) (v := 0) hx hb dX12_feed_19 (by decide) ?_
    refine lv_iload_n (pc := 20) hx hb dX12_feed_20 rfl (lv_at hl 1 rfl) ?_
    obtain ⟨σ3, hv, h⟩ := zl_some h
    refine xsI (pc := 21) hx hb hK hP hS hv dX12_feed_21 (fun H locs hP hS => ?_)
    refine lv_aload_n (pc := 22) hx hb dX12_feed_22 rfl (lv_at hl 0 rfl) ?_
    obtain ⟨v4, hv, h⟩ := zl_some h
    refine xgR (pc := 23) (j := 8) zc12 hx hb hts hown hK hP hv rfl zf_X12_30 dX12_feed_23 ?_
    refine lv_iconst (pc := 26) (v := 1) hx hb dX12_feed_26 (by decide) ?_
    refine lv_iload_n (pc := 27) hx hb dX12_feed_27 rfl (lv_at hl 2 rfl) ?_
    obtain ⟨σ5, hv, h⟩ := zl_some h
    refine xsI (pc := 28) hx hb hK hP hS hv dX12_feed_28 (fun H locs hP hS => ?_)
    refine lv_aload_n (pc := 29) hx hb dX12_feed_29 rfl (lv_at hl 0 rfl) ?_
    obtain ⟨v6, hv, h⟩ := zl_some h
    refine xgR (pc := 30) (j := 8) zc12 hx hb hts hown hK hP hv rfl zf_X12_30 dX12_feed_30 ?_
    refine lv_iconst (pc := 33) (v := 2) hx hb dX12_feed_33 (by decide) ?_
    refine lv_iload_n (pc := 34) hx hb dX12_feed_34 rfl (lv_at hl 3 rfl) ?_
    obtain ⟨σ7, hv, h⟩ := zl_some h
    refine xsI (pc := 35) hx hb hK hP hS hv dX12_feed_35 (fun H locs hP hS => ?_)
    refine lv_aload_n (pc := 36) hx hb dX12_feed_36 rfl (lv_at hl 0 rfl) ?_
    obtain ⟨v8, hv, h⟩ := zl_some h
    refine xgR (pc := 37) (j := 8) zc12 hx hb hts hown hK hP hv rfl zf_X12_30 dX12_feed_37 ?_
    refine lv_iconst (pc := 40) (v := 3) hx hb dX12_feed_40 (by decide) ?_
    refine lv_iload (pc := 41) hx hb dX12_feed_41 (lv_at hl 4 rfl) ?_
    obtain ⟨σ9, hv, h⟩ := zl_some h
    refine xsI (pc := 43) hx hb hK hP hS hv dX12_feed_43 (fun H locs hP hS => ?_)
    refine lv_aload_n (pc := 44) hx hb dX12_feed_44 rfl (lv_at hl 0 rfl) ?_
    obtain ⟨v10, hv, h⟩ := zl_some h
    refine xgR (pc := 45) (j := 8) zc12 hx hb hts hown hK hP hv rfl zf_X12_30 dX12_feed_45 ?_
    refine lv_iconst (pc := 48) (v := 4) hx hb dX12_feed_48 (by decide) ?_
    refine lv_iload (pc := 49) hx hb dX12_feed_49 (lv_at hl 5 rfl) ?_
    obtain ⟨σ11, hv, h⟩ := zl_some h
    refine xsI (pc := 51) hx hb hK hP hS hv dX12_feed_51 (fun H locs hP hS => ?_)
    refine lv_iconst (pc := 52) (v := 0) hx hb dX12_feed_52 (by decide) ?_
    refine lv_istore (pc := 53) (lv' := [(6, .int 0), (0, .ref (o + x0)), (1, .int x1), (2, .int x2), (3, .int x3), (4, .int x4), (5, .int x5)]) hx hb dX12_feed_53 hl (by decide) rfl (fun ls hl => ?_)
    have L55_12 : ∀ (n : Nat) (t : Int32 × zS), zlp (F_X12_feed_55 N x0) n t = some ρ → ∀ (H : Heap) (locs : List Loc) (ls : Array Slot), zP D c o (zabs o (t.2)) H → va_S (zA o) s.heap H locs → lv_has ls 7 [(6, .int (t.1)), (0, .ref (o + x0))] → W p l e (zr 2) s m (([.ref (o + x0), .int x1, .int x2, .int x3, .int x4, .int x5] : List Value).toArray) below meth cd H locs 0 0 (MQ below (zQi D c o g ρ) (([.ref (o + x0), .int x1, .int x2, .int x3, .int x4, .int x5] : List Value).toArray) s 0 0 (zA o)) (F0 m 55 ls []) := by
      refine zlp_ind (fun ag12 ih12 t h H locs ls hP hS hl => ?_)
      obtain ⟨x6_12, σ12⟩ := t
      have hP : zP D c o (zabs o σ12) H := hP
      have hl : lv_has ls 7 [(6, .int x6_12), (0, .ref (o + x0))] := hl
      rw [F_X12_feed_55.eq_1] at h
      show W p l e (zr 2) s m (([.ref (o + x0), .int x1, .int x2, .int x3, .int x4, .int x5] : List Value).toArray) below meth cd H locs 0 0 (MQ below (zQi D c o g ρ) (([.ref (o + x0), .int x1, .int x2, .int x3, .int x4, .int x5] : List Value).toArray) s 0 0 (zA o)) (F0 m 55 ls [])
      refine lv_iload (pc := 55) hx hb dX12_feed_55 (lv_at hl 0 rfl) ?_
      refine lv_bipush (pc := 57) (v := 20) hx hb dX12_feed_57 (by decide) ?_
      refine lv_icmp_ge (pc := 59) (tgt := 101) hx hb dX12_feed_59 (by decide) (fun c1 => ?_) (fun c1 => ?_)
      · rw [if_pos c1] at h
        refine lv_aload_n (pc := 101) hx hb dX12_feed_101 rfl (lv_at hl 1 rfl) ?_
        refine lv_dup (pc := 102) hx hb dX12_feed_102 rfl ?_
        obtain ⟨v13, hv, h⟩ := zl_some h
        refine xgI (pc := 103) (j := 7) zc12 hx hb hts hown hK hP hv rfl zf_X12_107 dX12_feed_103 ?_
        refine lv_bipush (pc := 106) (v := 20) hx hb dX12_feed_106 (by decide) ?_
        refine lv_iadd (pc := 108) hx hb dX12_feed_108 ?_
        obtain ⟨σ14, hv, h⟩ := zl_some h
        refine xpI (pc := 109) (j := 7) zc12 hx hb hts hown hK hP hS hv rfl rfl rfl zf_X12_107 dX12_feed_109 (fun H locs hP hS => ?_)
        refine lv_aload_n (pc := 112) hx hb dX12_feed_112 rfl (lv_at hl 1 rfl) ?_
        obtain ⟨v15, hv, h⟩ := zl_some h
        refine xgI (pc := 113) (j := 7) zc12 hx hb hts hown hK hP hv rfl zf_X12_107 dX12_feed_113 ?_
        exact xreti (pc := 116) hx hb hr hlocks hP hK hE hS h dX12_feed_116
      · rw [if_neg c1] at h
        refine lv_aload_n (pc := 62) hx hb dX12_feed_62 rfl (lv_at hl 1 rfl) ?_
        obtain ⟨v16, hv, h⟩ := zl_some h
        refine xgR (pc := 63) (j := 6) zc12 hx hb hts hown hK hP hv rfl zf_X12_26 dX12_feed_63 ?_
        refine lv_aload_n (pc := 66) hx hb dX12_feed_66 rfl (lv_at hl 1 rfl) ?_
        obtain ⟨v17, hv, h⟩ := zl_some h
        refine xgI (pc := 67) (j := 7) zc12 hx hb hts hown hK hP hv rfl zf_X12_107 dX12_feed_67 ?_
        refine lv_iload (pc := 70) hx hb dX12_feed_70 (lv_at hl 0 rfl) ?_
        refine lv_iadd (pc := 72) hx hb dX12_feed_72 ?_
        refine lv_aload_n (pc := 73) hx hb dX12_feed_73 rfl (lv_at hl 1 rfl) ?_
        obtain ⟨v18, hv, h⟩ := zl_some h
        refine xgR (pc := 74) (j := 8) zc12 hx hb hts hown hK hP hv rfl zf_X12_30 dX12_feed_74 ?_
        refine lv_iload (pc := 77) hx hb dX12_feed_77 (lv_at hl 0 rfl) ?_
        refine lv_iconst (pc := 79) (v := 4) hx hb dX12_feed_79 (by decide) ?_
        obtain ⟨_, hv, h⟩ := zl_some h
        refine lv_idiv (pc := 80) hx hb dX12_feed_80 (xnzI hv) ?_
        obtain ⟨v19, hv, h⟩ := zl_some h
        refine xaI (pc := 81) hx hb hK hP hv dX12_feed_81 ?_
        refine lv_bipush (pc := 82) (v := 24) hx hb dX12_feed_82 (by decide) ?_
        refine lv_bipush (pc := 84) (v := 8) hx hb dX12_feed_84 (by decide) ?_
        refine lv_iload (pc := 86) hx hb dX12_feed_86 (lv_at hl 0 rfl) ?_
        refine lv_iconst (pc := 88) (v := 4) hx hb dX12_feed_88 (by decide) ?_
        obtain ⟨_, hv, h⟩ := zl_some h
        refine lv_irem (pc := 89) hx hb dX12_feed_89 (xnzI hv) ?_
        refine lv_imul (pc := 90) hx hb dX12_feed_90 ?_
        refine lv_isub (pc := 91) hx hb dX12_feed_91 ?_
        refine lv_ishr (pc := 92) hx hb dX12_feed_92 ?_
        refine lv_i2b (pc := 93) hx hb dX12_feed_93 rfl ?_
        obtain ⟨σ20, hv, h⟩ := zl_some h
        refine xsB (pc := 94) hx hb hK hP hS hv dX12_feed_94 (fun H locs hP hS => ?_)
        refine lv_iinc (pc := 95) (v := x6_12 + 1) (lv' := [(6, .int (x6_12 + 1)), (0, .ref (o + x0))]) hx hb dX12_feed_95 hl (k := 0) rfl rfl (by decide) rfl (fun ls hl => ?_)
        refine lv_goto (pc := 98) (tgt := 55) hx hb dX12_feed_98 (by decide) ?_
        exact ih12 (x6_12 + 1, σ20) h _ _ ls hP hS (lv_sub hl [0, 1] rfl)
    exact L55_12 N (0, σ11) h _ _ ls hP hS (lv_sub hl [0, 1] rfl)
  · rw [if_neg c1] at h
    refine lv_iconst (pc := 13) (v := (-1)) hx hb dX12_feed_13 (by decide) ?_
    exact xreti (pc := 14) hx hb hr hlocks hP hK hE hS h dX12_feed_14
def f_X12_end (N : Nat) (x0 : Nat) (x1 : Int32) (σ : zS) : Option (Int32 × zS) :=
  zl (gI 12 7 x0 σ) fun v1 =>
  zb (f_X12_in N (Int32.toInt64 x1) 0 (Int32.toInt64 v1) σ) fun v2 σ3 =>
  if v2 = 0 then
    (some ((-1), σ3))
  else
    (zl (pI 12 7 x0 x1 σ3) fun σ4 =>
    some (x1, σ4))
set_option maxHeartbeats 4000000 in
set_option maxRecDepth 100000 in
theorem c_X12_end (l : Launch) (D : va_G) (c : zC) (o : Nat) (g : zEp) (N : Nat) {x0 : Nat} {x1 : Int32} {σ : zS} {ρ : Int32 × zS} (h : f_X12_end N x0 x1 σ = some ρ) : Met l yX12_end zs_X12_end (zr 4) (va_Pc [.ref (o + x0), .int x1] (zG D c o g σ)) (zQi D c o g ρ) 0 0 (zA o) := by
  refine zMetG (by decide) (Nat.le_of_ble_eq_true rfl) ?_
  intro p e s m below meth cd ⟨hx, hb, hr, hml, hown, hts, hlocks⟩ hP hK hE ls hl
  have hS : va_S (zA o) s.heap s.heap [] := va_S.rf
  have hl : lv_has ls 2 [(0, .ref (o + x0)), (1, .int x1)] := hl
  rw [f_X12_end.eq_1] at h
  refine lv_iload_n (pc := 0) hx hb dX12_end_0 rfl (lv_at hl 1 rfl) ?_
  refine lv_i2l (pc := 1) hx hb dX12_end_1 rfl ?_
  refine lv_lconst (pc := 2) (v := 0) hx hb dX12_end_2 (by decide) ?_
  refine lv_aload_n (pc := 3) hx hb dX12_end_3 rfl (lv_at hl 0 rfl) ?_
  obtain ⟨v1, hv, h⟩ := zl_some h
  refine xgI (pc := 4) (j := 7) zc12 hx hb hts hown hK hP hv rfl zf_X12_107 dX12_end_4 ?_
  refine lv_i2l (pc := 7) hx hb dX12_end_7 rfl ?_
  obtain ⟨v2, σ3, hv, h⟩ := zb_some h
  refine xcallSi (pc := 8) (As := [.long (Int32.toInt64 x1), .long 0, .long (Int32.toInt64 v1)]) (rest := []) ⟨hx, hb, hml, hown, hts⟩ (c_X12_in l D c o g N hv) zT_X12_94 rfl zd_X12_in ⟨Nat.le_of_ble_eq_true rfl, Nat.le_of_ble_eq_true rfl⟩ hK hP hE hS hl.1 rfl (Nat.le_of_ble_eq_true rfl) ⟨Nat.zero_le _, Nat.zero_le _⟩ dX12_end_8 (fun H locs hP hS => ?_)
  refine lv_if_ne (pc := 11) (tgt := 16) hx hb dX12_end_11 (by decide) (fun c1 => ?_) (fun c1 => ?_)
  · rw [if_neg c1] at h
    refine lv_aload_n (pc := 16) hx hb dX12_end_16 rfl (lv_at hl 0 rfl) ?_
    refine lv_iload_n (pc := 17) hx hb dX12_end_17 rfl (lv_at hl 1 rfl) ?_
    obtain ⟨σ4, hv, h⟩ := zl_some h
    refine xpI (pc := 18) (j := 7) zc12 hx hb hts hown hK hP hS hv rfl rfl rfl zf_X12_107 dX12_end_18 (fun H locs hP hS => ?_)
    refine lv_iload_n (pc := 21) hx hb dX12_end_21 rfl (lv_at hl 1 rfl) ?_
    exact xreti (pc := 22) hx hb hr hlocks hP hK hE hS h dX12_end_22
  · rw [if_pos c1] at h
    refine lv_iconst (pc := 14) (v := (-1)) hx hb dX12_end_14 (by decide) ?_
    exact xreti (pc := 15) hx hb hr hlocks hP hK hE hS h dX12_end_15
def f_X12_see (N : Nat) (x0 : Nat) (x1 : Int32) (σ : zS) : Option (Int32 × zS) :=
  zl (gI 12 9 x0 σ) fun v1 =>
  if v1 ≤ x1 then
    (some ((-1), σ))
  else
    (zl (gR 12 6 x0 σ) fun v2 =>
    zl (aI 13 v2 x1 σ) fun v3 =>
    some (v3 &&& 255, σ))
set_option maxHeartbeats 4000000 in
set_option maxRecDepth 100000 in
theorem c_X12_see (l : Launch) (D : va_G) (c : zC) (o : Nat) (g : zEp) (N : Nat) {x0 : Nat} {x1 : Int32} {σ : zS} {ρ : Int32 × zS} (h : f_X12_see N x0 x1 σ = some ρ) : Met l yX12_see zs_X12_see (zr 2) (va_Pc [.ref (o + x0), .int x1] (zG D c o g σ)) (zQi D c o g ρ) 0 0 (zA o) := by
  refine zMetG (by decide) (Nat.le_of_ble_eq_true rfl) ?_
  intro p e s m below meth cd ⟨hx, hb, hr, hml, hown, hts, hlocks⟩ hP hK hE ls hl
  have hS : va_S (zA o) s.heap s.heap [] := va_S.rf
  have hl : lv_has ls 2 [(0, .ref (o + x0)), (1, .int x1)] := hl
  rw [f_X12_see.eq_1] at h
  refine lv_iload_n (pc := 0) hx hb dX12_see_0 rfl (lv_at hl 1 rfl) ?_
  refine lv_aload_n (pc := 1) hx hb dX12_see_1 rfl (lv_at hl 0 rfl) ?_
  obtain ⟨v1, hv, h⟩ := zl_some h
  refine xgI (pc := 2) (j := 9) zc12 hx hb hts hown hK hP hv rfl zf_X12_110 dX12_see_2 ?_
  refine lv_icmp_ge (pc := 5) (tgt := 21) hx hb dX12_see_5 (by decide) (fun c1 => ?_) (fun c1 => ?_)
  · rw [if_pos c1] at h
    refine lv_iconst (pc := 21) (v := (-1)) hx hb dX12_see_21 (by decide) ?_
    exact xreti (pc := 22) hx hb hr hlocks hP hK hE hS h dX12_see_22
  · rw [if_neg c1] at h
    refine lv_aload_n (pc := 8) hx hb dX12_see_8 rfl (lv_at hl 0 rfl) ?_
    obtain ⟨v2, hv, h⟩ := zl_some h
    refine xgR (pc := 9) (j := 6) zc12 hx hb hts hown hK hP hv rfl zf_X12_26 dX12_see_9 ?_
    refine lv_iload_n (pc := 12) hx hb dX12_see_12 rfl (lv_at hl 1 rfl) ?_
    obtain ⟨v3, hv, h⟩ := zl_some h
    refine xaB (pc := 13) hx hb hK hP hv dX12_see_13 ?_
    refine lv_sipush (pc := 14) (v := 255) hx hb dX12_see_14 (by decide) ?_
    refine lv_iand (pc := 17) hx hb dX12_see_17 ?_
    refine lv_goto (pc := 18) (tgt := 22) hx hb dX12_see_18 (by decide) ?_
    exact xreti (pc := 22) hx hb hr hlocks hP hK hE hS h dX12_see_22
def f_X12_isSign (N : Nat) (x0 : Int32) (σ : zS) : Option (Int32 × zS) :=
  if x0 = 59 then
    (rZ 1 σ)
  else
    (if x0 = 61 then
      (rZ 1 σ)
    else
      (if x0 = 43 then
        (rZ 1 σ)
      else
        (if x0 = 45 then
          (rZ 1 σ)
        else
          (if x0 = 38 then
            (rZ 1 σ)
          else
            (if x0 = 42 then
              (rZ 1 σ)
            else
              (if x0 = 47 then
                (rZ 1 σ)
              else
                (if x0 = 37 then
                  (rZ 1 σ)
                else
                  (if x0 = 35 then
                    (rZ 1 σ)
                  else
                    (if x0 = 40 then
                      (rZ 1 σ)
                    else
                      (if x0 = 41 then
                        (rZ 1 σ)
                      else
                        (if x0 = 123 then
                          (rZ 1 σ)
                        else
                          (if x0 = 125 then
                            (rZ 1 σ)
                          else
                            (if x0 = 44 then
                              (rZ 1 σ)
                            else
                              (rZ 0 σ))))))))))))))
set_option maxHeartbeats 4000000 in
set_option maxRecDepth 100000 in
theorem c_X12_isSign (l : Launch) (D : va_G) (c : zC) (o : Nat) (g : zEp) (N : Nat) {x0 : Int32} {σ : zS} {ρ : Int32 × zS} (h : f_X12_isSign N x0 σ = some ρ) : Met l yX12_isSign zs_X12_isSign (zr 2) (va_Pc [.int x0] (zG D c o g σ)) (zQi D c o g ρ) 0 0 (zA o) := by
  refine zMetG (by decide) (Nat.le_of_ble_eq_true rfl) ?_
  intro p e s m below meth cd ⟨hx, hb, hr, hml, hown, hts, hlocks⟩ hP hK hE ls hl
  have hS : va_S (zA o) s.heap s.heap [] := va_S.rf
  have hl : lv_has ls 1 [(0, .int x0)] := hl
  rw [f_X12_isSign.eq_1] at h
  refine lv_iload_n (pc := 0) hx hb dX12_isSign_0 rfl (lv_at hl 0 rfl) ?_
  refine lv_bipush (pc := 1) (v := 59) hx hb dX12_isSign_1 (by decide) ?_
  refine lv_icmp_eq (pc := 3) (tgt := 84) hx hb dX12_isSign_3 (by decide) (fun c1 => ?_) (fun c1 => ?_)
  · rw [if_pos c1] at h
    refine lv_iconst (pc := 84) (v := 1) hx hb dX12_isSign_84 (by decide) ?_
    refine lv_goto (pc := 85) (tgt := 89) hx hb dX12_isSign_85 (by decide) ?_
    exact xretz (pc := 89) hx hb hr hlocks hP hK hE hS h dX12_isSign_89
  · rw [if_neg c1] at h
    refine lv_iload_n (pc := 6) hx hb dX12_isSign_6 rfl (lv_at hl 0 rfl) ?_
    refine lv_bipush (pc := 7) (v := 61) hx hb dX12_isSign_7 (by decide) ?_
    refine lv_icmp_eq (pc := 9) (tgt := 84) hx hb dX12_isSign_9 (by decide) (fun c1 => ?_) (fun c1 => ?_)
    · rw [if_pos c1] at h
      refine lv_iconst (pc := 84) (v := 1) hx hb dX12_isSign_84 (by decide) ?_
      refine lv_goto (pc := 85) (tgt := 89) hx hb dX12_isSign_85 (by decide) ?_
      exact xretz (pc := 89) hx hb hr hlocks hP hK hE hS h dX12_isSign_89
    · rw [if_neg c1] at h
      refine lv_iload_n (pc := 12) hx hb dX12_isSign_12 rfl (lv_at hl 0 rfl) ?_
      refine lv_bipush (pc := 13) (v := 43) hx hb dX12_isSign_13 (by decide) ?_
      refine lv_icmp_eq (pc := 15) (tgt := 84) hx hb dX12_isSign_15 (by decide) (fun c1 => ?_) (fun c1 => ?_)
      · rw [if_pos c1] at h
        refine lv_iconst (pc := 84) (v := 1) hx hb dX12_isSign_84 (by decide) ?_
        refine lv_goto (pc := 85) (tgt := 89) hx hb dX12_isSign_85 (by decide) ?_
        exact xretz (pc := 89) hx hb hr hlocks hP hK hE hS h dX12_isSign_89
      · rw [if_neg c1] at h
        refine lv_iload_n (pc := 18) hx hb dX12_isSign_18 rfl (lv_at hl 0 rfl) ?_
        refine lv_bipush (pc := 19) (v := 45) hx hb dX12_isSign_19 (by decide) ?_
        refine lv_icmp_eq (pc := 21) (tgt := 84) hx hb dX12_isSign_21 (by decide) (fun c1 => ?_) (fun c1 => ?_)
        · rw [if_pos c1] at h
          refine lv_iconst (pc := 84) (v := 1) hx hb dX12_isSign_84 (by decide) ?_
          refine lv_goto (pc := 85) (tgt := 89) hx hb dX12_isSign_85 (by decide) ?_
          exact xretz (pc := 89) hx hb hr hlocks hP hK hE hS h dX12_isSign_89
        · rw [if_neg c1] at h
          refine lv_iload_n (pc := 24) hx hb dX12_isSign_24 rfl (lv_at hl 0 rfl) ?_
          refine lv_bipush (pc := 25) (v := 38) hx hb dX12_isSign_25 (by decide) ?_
          refine lv_icmp_eq (pc := 27) (tgt := 84) hx hb dX12_isSign_27 (by decide) (fun c1 => ?_) (fun c1 => ?_)
          · rw [if_pos c1] at h
            refine lv_iconst (pc := 84) (v := 1) hx hb dX12_isSign_84 (by decide) ?_
            refine lv_goto (pc := 85) (tgt := 89) hx hb dX12_isSign_85 (by decide) ?_
            exact xretz (pc := 89) hx hb hr hlocks hP hK hE hS h dX12_isSign_89
          · rw [if_neg c1] at h
            refine lv_iload_n (pc := 30) hx hb dX12_isSign_30 rfl (lv_at hl 0 rfl) ?_
            refine lv_bipush (pc := 31) (v := 42) hx hb dX12_isSign_31 (by decide) ?_
            refine lv_icmp_eq (pc := 33) (tgt := 84) hx hb dX12_isSign_33 (by decide) (fun c1 => ?_) (fun c1 => ?_)
            · rw [if_pos c1] at h
              refine lv_iconst (pc := 84) (v := 1) hx hb dX12_isSign_84 (by decide) ?_
              refine lv_goto (pc := 85) (tgt := 89) hx hb dX12_isSign_85 (by decide) ?_
              exact xretz (pc := 89) hx hb hr hlocks hP hK hE hS h dX12_isSign_89
            · rw [if_neg c1] at h
              refine lv_iload_n (pc := 36) hx hb dX12_isSign_36 rfl (lv_at hl 0 rfl) ?_
              refine lv_bipush (pc := 37) (v := 47) hx hb dX12_isSign_37 (by decide) ?_
              refine lv_icmp_eq (pc := 39) (tgt := 84) hx hb dX12_isSign_39 (by decide) (fun c1 => ?_) (fun c1 => ?_)
              · rw [if_pos c1] at h
                refine lv_iconst (pc := 84) (v := 1) hx hb dX12_isSign_84 (by decide) ?_
                refine lv_goto (pc := 85) (tgt := 89) hx hb dX12_isSign_85 (by decide) ?_
                exact xretz (pc := 89) hx hb hr hlocks hP hK hE hS h dX12_isSign_89
              · rw [if_neg c1] at h
                refine lv_iload_n (pc := 42) hx hb dX12_isSign_42 rfl (lv_at hl 0 rfl) ?_
                refine lv_bipush (pc := 43) (v := 37) hx hb dX12_isSign_43 (by decide) ?_
                refine lv_icmp_eq (pc := 45) (tgt := 84) hx hb dX12_isSign_45 (by decide) (fun c1 => ?_) (fun c1 => ?_)
                · rw [if_pos c1] at h
                  refine lv_iconst (pc := 84) (v := 1) hx hb dX12_isSign_84 (by decide) ?_
                  refine lv_goto (pc := 85) (tgt := 89) hx hb dX12_isSign_85 (by decide) ?_
                  exact xretz (pc := 89) hx hb hr hlocks hP hK hE hS h dX12_isSign_89
                · rw [if_neg c1] at h
                  refine lv_iload_n (pc := 48) hx hb dX12_isSign_48 rfl (lv_at hl 0 rfl) ?_
                  refine lv_bipush (pc := 49) (v := 35) hx hb dX12_isSign_49 (by decide) ?_
                  refine lv_icmp_eq (pc := 51) (tgt := 84) hx hb dX12_isSign_51 (by decide) (fun c1 => ?_) (fun c1 => ?_)
                  · rw [if_pos c1] at h
                    refine lv_iconst (pc := 84) (v := 1) hx hb dX12_isSign_84 (by decide) ?_
                    refine lv_goto (pc := 85) (tgt := 89) hx hb dX12_isSign_85 (by decide) ?_
                    exact xretz (pc := 89) hx hb hr hlocks hP hK hE hS h dX12_isSign_89
                  · rw [if_neg c1] at h
                    refine lv_iload_n (pc := 54) hx hb dX12_isSign_54 rfl (lv_at hl 0 rfl) ?_
                    refine lv_bipush (pc := 55) (v := 40) hx hb dX12_isSign_55 (by decide) ?_
                    refine lv_icmp_eq (pc := 57) (tgt := 84) hx hb dX12_isSign_57 (by decide) (fun c1 => ?_) (fun c1 => ?_)
                    · rw [if_pos c1] at h
                      refine lv_iconst (pc := 84) (v := 1) hx hb dX12_isSign_84 (by decide) ?_
                      refine lv_goto (pc := 85) (tgt := 89) hx hb dX12_isSign_85 (by decide) ?_
                      exact xretz (pc := 89) hx hb hr hlocks hP hK hE hS h dX12_isSign_89
                    · rw [if_neg c1] at h
                      refine lv_iload_n (pc := 60) hx hb dX12_isSign_60 rfl (lv_at hl 0 rfl) ?_
                      refine lv_bipush (pc := 61) (v := 41) hx hb dX12_isSign_61 (by decide) ?_
                      refine lv_icmp_eq (pc := 63) (tgt := 84) hx hb dX12_isSign_63 (by decide) (fun c1 => ?_) (fun c1 => ?_)
                      · rw [if_pos c1] at h
                        refine lv_iconst (pc := 84) (v := 1) hx hb dX12_isSign_84 (by decide) ?_
                        refine lv_goto (pc := 85) (tgt := 89) hx hb dX12_isSign_85 (by decide) ?_
                        exact xretz (pc := 89) hx hb hr hlocks hP hK hE hS h dX12_isSign_89
                      · rw [if_neg c1] at h
                        refine lv_iload_n (pc := 66) hx hb dX12_isSign_66 rfl (lv_at hl 0 rfl) ?_
                        refine lv_bipush (pc := 67) (v := 123) hx hb dX12_isSign_67 (by decide) ?_
                        refine lv_icmp_eq (pc := 69) (tgt := 84) hx hb dX12_isSign_69 (by decide) (fun c1 => ?_) (fun c1 => ?_)
                        · rw [if_pos c1] at h
                          refine lv_iconst (pc := 84) (v := 1) hx hb dX12_isSign_84 (by decide) ?_
                          refine lv_goto (pc := 85) (tgt := 89) hx hb dX12_isSign_85 (by decide) ?_
                          exact xretz (pc := 89) hx hb hr hlocks hP hK hE hS h dX12_isSign_89
                        · rw [if_neg c1] at h
                          refine lv_iload_n (pc := 72) hx hb dX12_isSign_72 rfl (lv_at hl 0 rfl) ?_
                          refine lv_bipush (pc := 73) (v := 125) hx hb dX12_isSign_73 (by decide) ?_
                          refine lv_icmp_eq (pc := 75) (tgt := 84) hx hb dX12_isSign_75 (by decide) (fun c1 => ?_) (fun c1 => ?_)
                          · rw [if_pos c1] at h
                            refine lv_iconst (pc := 84) (v := 1) hx hb dX12_isSign_84 (by decide) ?_
                            refine lv_goto (pc := 85) (tgt := 89) hx hb dX12_isSign_85 (by decide) ?_
                            exact xretz (pc := 89) hx hb hr hlocks hP hK hE hS h dX12_isSign_89
                          · rw [if_neg c1] at h
                            refine lv_iload_n (pc := 78) hx hb dX12_isSign_78 rfl (lv_at hl 0 rfl) ?_
                            refine lv_bipush (pc := 79) (v := 44) hx hb dX12_isSign_79 (by decide) ?_
                            refine lv_icmp_ne (pc := 81) (tgt := 88) hx hb dX12_isSign_81 (by decide) (fun c1 => ?_) (fun c1 => ?_)
                            · rw [if_neg c1] at h
                              refine lv_iconst (pc := 88) (v := 0) hx hb dX12_isSign_88 (by decide) ?_
                              exact xretz (pc := 89) hx hb hr hlocks hP hK hE hS h dX12_isSign_89
                            · rw [if_pos c1] at h
                              refine lv_iconst (pc := 84) (v := 1) hx hb dX12_isSign_84 (by decide) ?_
                              refine lv_goto (pc := 85) (tgt := 89) hx hb dX12_isSign_85 (by decide) ?_
                              exact xretz (pc := 89) hx hb hr hlocks hP hK hE hS h dX12_isSign_89
def F_X12_advance_144 (N : Nat) (x0 : Nat) (again144 : zS → Option (Unit × zS)) : zS → Option (Unit × zS)
  | σ =>
  zl (gI 12 10 x0 σ) fun v30 =>
  zl (gC 12 x0) fun _ => zb (f_X12_see N x0 v30 σ) fun v31 σ32 =>
  zb (f_X12_in N (Int32.toInt64 v31) 48 57 σ32) fun v33 σ34 =>
  if v33 = 0 then
    (zl (pI 12 12 x0 2 σ34) fun σ35 =>
    some ((), σ35))
  else
    (zl (gI 12 13 x0 σ34) fun v36 =>
    zl (gI 12 10 x0 σ34) fun v37 =>
    zl (gC 12 x0) fun _ => zb (f_X12_see N x0 v37 σ34) fun v38 σ39 =>
    zl (pI 12 13 x0 (zmin 99999 (((10 * v36) + v38) - 48)) σ39) fun σ40 =>
    zl (gI 12 10 x0 σ40) fun v41 =>
    zl (pI 12 10 x0 (v41 + 1) σ40) fun σ42 =>
    again144 (σ42))
def F_X12_advance_83 (N : Nat) (x0 : Nat) (again83 : zS → Option (Unit × zS)) : zS → Option (Unit × zS)
  | σ =>
  zl (gI 12 10 x0 σ) fun v43 =>
  zl (gC 12 x0) fun _ => zb (f_X12_see N x0 v43 σ) fun v44 σ45 =>
  zb (f_X12_in N (Int32.toInt64 v44) 97 122 σ45) fun v46 σ47 =>
  if v46 = 0 then
    (zl (pI 12 12 x0 1 σ47) fun σ48 =>
    some ((), σ48))
  else
    (zl (gI 12 10 x0 σ47) fun v49 =>
    zl (pI 12 10 x0 (v49 + 1) σ47) fun σ50 =>
    again83 (σ50))
def F_X12_advance_0 (N : Nat) (x0 : Nat) (again0 : zS → Option (Unit × zS)) : zS → Option (Unit × zS)
  | σ =>
  zl (gI 12 10 x0 σ) fun v1 =>
  zl (gC 12 x0) fun _ => zb (f_X12_see N x0 v1 σ) fun v2 σ3 =>
  if v2 = 32 then
    (zl (gI 12 10 x0 σ3) fun v4 =>
    zl (pI 12 10 x0 (v4 + 1) σ3) fun σ5 =>
    again0 (σ5))
  else
    (zl (gI 12 10 x0 σ3) fun v6 =>
    zl (gC 12 x0) fun _ => zb (f_X12_see N x0 v6 σ3) fun v7 σ8 =>
    if v7 = 10 then
      (zl (gI 12 10 x0 σ8) fun v9 =>
      zl (pI 12 10 x0 (v9 + 1) σ8) fun σ10 =>
      again0 (σ10))
    else
      (zl (gI 12 10 x0 σ8) fun v11 =>
      zl (pI 12 11 x0 v11 σ8) fun σ12 =>
      zl (gI 12 10 x0 σ12) fun v13 =>
      zl (gC 12 x0) fun _ => zb (f_X12_see N x0 v13 σ12) fun v14 σ15 =>
      if v14 = (-1) then
        (zl (pI 12 12 x0 0 σ15) fun σ16 =>
        some ((), σ16))
      else
        (zb (f_X12_in N (Int32.toInt64 v14) 97 122 σ15) fun v17 σ18 =>
        if v17 = 0 then
          (zb (f_X12_in N (Int32.toInt64 v14) 48 57 σ18) fun v19 σ20 =>
          if v19 = 0 then
            (zb (f_X12_isSign N v14 σ20) fun v21 σ22 =>
            if v21 = 0 then
              (zl (pI 12 12 x0 3 σ22) fun σ23 =>
              zl (gI 12 10 x0 σ23) fun v24 =>
              zl (pI 12 10 x0 (v24 + 1) σ23) fun σ25 =>
              some ((), σ25))
            else
              (zl (pI 12 12 x0 v14 σ22) fun σ26 =>
              zl (gI 12 10 x0 σ26) fun v27 =>
              zl (pI 12 10 x0 (v27 + 1) σ26) fun σ28 =>
              some ((), σ28)))
          else
            (zl (pI 12 13 x0 0 σ20) fun σ29 =>
            zlp (F_X12_advance_144 N x0) N σ29))
        else
          (zlp (F_X12_advance_83 N x0) N σ18))))
def f_X12_advance (N : Nat) (x0 : Nat) (σ : zS) : Option (Unit × zS) :=
  zlp (F_X12_advance_0 N x0) N σ
set_option maxHeartbeats 4000000 in
set_option maxRecDepth 100000 in
theorem c_X12_advance (l : Launch) (D : va_G) (c : zC) (o : Nat) (g : zEp) (N : Nat) {x0 : Nat} {σ : zS} {ρ : Unit × zS} (h : f_X12_advance N x0 σ = some ρ) : Met l yX12_advance zs_X12_advance (zr 4) (va_Pc [.ref (o + x0)] (zG D c o g σ)) (zQu D c o g ρ) 0 0 (zA o) := by
  refine zMetG (by decide) (Nat.le_of_ble_eq_true rfl) ?_
  intro p e s m below meth cd ⟨hx, hb, hr, hml, hown, hts, hlocks⟩ hP hK hE ls hl
  have hS : va_S (zA o) s.heap s.heap [] := va_S.rf
  have hl : lv_has ls 2 [(0, .ref (o + x0))] := hl
  rw [f_X12_advance.eq_1] at h
  have L0_1 : ∀ (n : Nat) (t : zS), zlp (F_X12_advance_0 N x0) n t = some ρ → ∀ (H : Heap) (locs : List Loc) (ls : Array Slot), zP D c o (zabs o (t)) H → va_S (zA o) s.heap H locs → lv_has ls 2 [(0, .ref (o + x0))] → W p l e (zr 4) s m (([.ref (o + x0)] : List Value).toArray) below meth cd H locs 0 0 (MQ below (zQu D c o g ρ) (([.ref (o + x0)] : List Value).toArray) s 0 0 (zA o)) (F0 m 0 ls []) := by
    refine zlp_ind (fun ag1 ih1 t h H locs ls hP hS hl => ?_)
    obtain ⟨σ1, rfl⟩ : ∃ x, x = t := ⟨t, rfl⟩
    have hP : zP D c o (zabs o σ1) H := hP
    have hl : lv_has ls 2 [(0, .ref (o + x0))] := hl
    rw [F_X12_advance_0.eq_1] at h
    show W p l e (zr 4) s m (([.ref (o + x0)] : List Value).toArray) below meth cd H locs 0 0 (MQ below (zQu D c o g ρ) (([.ref (o + x0)] : List Value).toArray) s 0 0 (zA o)) (F0 m 0 ls [])
    refine lv_aload_n (pc := 0) hx hb dX12_advance_0 rfl (lv_at hl 0 rfl) ?_
    refine lv_aload_n (pc := 1) hx hb dX12_advance_1 rfl (lv_at hl 0 rfl) ?_
    obtain ⟨v2, hv, h⟩ := zl_some h
    refine xgI (pc := 2) (j := 10) zc12 hx hb hts hown hK hP hv rfl zf_X12_113 dX12_advance_2 ?_
    obtain ⟨_, hg, h⟩ := zl_some h
    obtain ⟨v3, σ4, hv, h⟩ := zb_some h
    refine xcallVi (pc := 5) (As := [.int v2]) (rest := []) ⟨hx, hb, hml, hown, hts⟩ (c_X12_see l D c o g N hv) zc12 zV_X12_116 rfl zd_X12_see ⟨Nat.le_of_ble_eq_true rfl, Nat.le_of_ble_eq_true rfl⟩ hK hP hE hS hg hl.1 rfl (Nat.le_of_ble_eq_true rfl) ⟨Nat.zero_le _, Nat.zero_le _⟩ dX12_advance_5 (fun H locs hP hS => ?_)
    refine lv_bipush (pc := 8) (v := 32) hx hb dX12_advance_8 (by decide) ?_
    refine lv_icmp_eq (pc := 10) (tgt := 26) hx hb dX12_advance_10 (by decide) (fun c1 => ?_) (fun c1 => ?_)
    · rw [if_pos c1] at h
      refine lv_aload_n (pc := 26) hx hb dX12_advance_26 rfl (lv_at hl 0 rfl) ?_
      refine lv_dup (pc := 27) hx hb dX12_advance_27 rfl ?_
      obtain ⟨v5, hv, h⟩ := zl_some h
      refine xgI (pc := 28) (j := 10) zc12 hx hb hts hown hK hP hv rfl zf_X12_113 dX12_advance_28 ?_
      refine lv_iconst (pc := 31) (v := 1) hx hb dX12_advance_31 (by decide) ?_
      refine lv_iadd (pc := 32) hx hb dX12_advance_32 ?_
      obtain ⟨σ6, hv, h⟩ := zl_some h
      refine xpI (pc := 33) (j := 10) zc12 hx hb hts hown hK hP hS hv rfl rfl rfl zf_X12_113 dX12_advance_33 (fun H locs hP hS => ?_)
      refine lv_goto (pc := 36) (tgt := 0) hx hb dX12_advance_36 (by decide) ?_
      exact ih1 σ6 h _ _ ls hP hS (lv_sub hl [0] rfl)
    · rw [if_neg c1] at h
      refine lv_aload_n (pc := 13) hx hb dX12_advance_13 rfl (lv_at hl 0 rfl) ?_
      refine lv_aload_n (pc := 14) hx hb dX12_advance_14 rfl (lv_at hl 0 rfl) ?_
      obtain ⟨v7, hv, h⟩ := zl_some h
      refine xgI (pc := 15) (j := 10) zc12 hx hb hts hown hK hP hv rfl zf_X12_113 dX12_advance_15 ?_
      obtain ⟨_, hg, h⟩ := zl_some h
      obtain ⟨v8, σ9, hv, h⟩ := zb_some h
      refine xcallVi (pc := 18) (As := [.int v7]) (rest := []) ⟨hx, hb, hml, hown, hts⟩ (c_X12_see l D c o g N hv) zc12 zV_X12_116 rfl zd_X12_see ⟨Nat.le_of_ble_eq_true rfl, Nat.le_of_ble_eq_true rfl⟩ hK hP hE hS hg hl.1 rfl (Nat.le_of_ble_eq_true rfl) ⟨Nat.zero_le _, Nat.zero_le _⟩ dX12_advance_18 (fun H locs hP hS => ?_)
      refine lv_bipush (pc := 21) (v := 10) hx hb dX12_advance_21 (by decide) ?_
      refine lv_icmp_ne (pc := 23) (tgt := 39) hx hb dX12_advance_23 (by decide) (fun c1 => ?_) (fun c1 => ?_)
      · rw [if_neg c1] at h
        refine lv_aload_n (pc := 39) hx hb dX12_advance_39 rfl (lv_at hl 0 rfl) ?_
        refine lv_aload_n (pc := 40) hx hb dX12_advance_40 rfl (lv_at hl 0 rfl) ?_
        obtain ⟨v10, hv, h⟩ := zl_some h
        refine xgI (pc := 41) (j := 10) zc12 hx hb hts hown hK hP hv rfl zf_X12_113 dX12_advance_41 ?_
        obtain ⟨σ11, hv, h⟩ := zl_some h
        refine xpI (pc := 44) (j := 11) zc12 hx hb hts hown hK hP hS hv rfl rfl rfl zf_X12_120 dX12_advance_44 (fun H locs hP hS => ?_)
        refine lv_aload_n (pc := 47) hx hb dX12_advance_47 rfl (lv_at hl 0 rfl) ?_
        refine lv_aload_n (pc := 48) hx hb dX12_advance_48 rfl (lv_at hl 0 rfl) ?_
        obtain ⟨v12, hv, h⟩ := zl_some h
        refine xgI (pc := 49) (j := 10) zc12 hx hb hts hown hK hP hv rfl zf_X12_113 dX12_advance_49 ?_
        obtain ⟨_, hg, h⟩ := zl_some h
        obtain ⟨v13, σ14, hv, h⟩ := zb_some h
        refine xcallVi (pc := 52) (As := [.int v12]) (rest := []) ⟨hx, hb, hml, hown, hts⟩ (c_X12_see l D c o g N hv) zc12 zV_X12_116 rfl zd_X12_see ⟨Nat.le_of_ble_eq_true rfl, Nat.le_of_ble_eq_true rfl⟩ hK hP hE hS hg hl.1 rfl (Nat.le_of_ble_eq_true rfl) ⟨Nat.zero_le _, Nat.zero_le _⟩ dX12_advance_52 (fun H locs hP hS => ?_)
        refine lv_istore_n (pc := 55) (lv' := [(1, .int v13), (0, .ref (o + x0))]) hx hb dX12_advance_55 rfl hl (by decide) rfl (fun ls hl => ?_)
        refine lv_iload_n (pc := 56) hx hb dX12_advance_56 rfl (lv_at hl 0 rfl) ?_
        refine lv_iconst (pc := 57) (v := (-1)) hx hb dX12_advance_57 (by decide) ?_
        refine lv_icmp_ne (pc := 58) (tgt := 69) hx hb dX12_advance_58 (by decide) (fun c1 => ?_) (fun c1 => ?_)
        · rw [if_neg c1] at h
          refine lv_iload_n (pc := 69) hx hb dX12_advance_69 rfl (lv_at hl 0 rfl) ?_
          refine lv_i2l (pc := 70) hx hb dX12_advance_70 rfl ?_
          refine lv_ldc2 (pc := 71) hx hb hown (hts _ zk_X12_126) dX12_advance_71 ?_
          refine lv_ldc2 (pc := 74) hx hb hown (hts _ zk_X12_128) dX12_advance_74 ?_
          obtain ⟨v15, σ16, hv, h⟩ := zb_some h
          refine xcallSi (pc := 77) (As := [.long (Int32.toInt64 v13), .long 97, .long 122]) (rest := []) ⟨hx, hb, hml, hown, hts⟩ (c_X12_in l D c o g N hv) zT_X12_94 rfl zd_X12_in ⟨Nat.le_of_ble_eq_true rfl, Nat.le_of_ble_eq_true rfl⟩ hK hP hE hS hl.1 rfl (Nat.le_of_ble_eq_true rfl) ⟨Nat.zero_le _, Nat.zero_le _⟩ dX12_advance_77 (fun H locs hP hS => ?_)
          refine lv_if_eq (pc := 80) (tgt := 125) hx hb dX12_advance_80 (by decide) (fun c1 => ?_) (fun c1 => ?_)
          · rw [if_pos c1] at h
            refine lv_iload_n (pc := 125) hx hb dX12_advance_125 rfl (lv_at hl 0 rfl) ?_
            refine lv_i2l (pc := 126) hx hb dX12_advance_126 rfl ?_
            refine lv_ldc2 (pc := 127) hx hb hown (hts _ zk_X12_130) dX12_advance_127 ?_
            refine lv_ldc2 (pc := 130) hx hb hown (hts _ zk_X12_132) dX12_advance_130 ?_
            obtain ⟨v17, σ18, hv, h⟩ := zb_some h
            refine xcallSi (pc := 133) (As := [.long (Int32.toInt64 v13), .long 48, .long 57]) (rest := []) ⟨hx, hb, hml, hown, hts⟩ (c_X12_in l D c o g N hv) zT_X12_94 rfl zd_X12_in ⟨Nat.le_of_ble_eq_true rfl, Nat.le_of_ble_eq_true rfl⟩ hK hP hE hS hl.1 rfl (Nat.le_of_ble_eq_true rfl) ⟨Nat.zero_le _, Nat.zero_le _⟩ dX12_advance_133 (fun H locs hP hS => ?_)
            refine lv_if_eq (pc := 136) (tgt := 214) hx hb dX12_advance_136 (by decide) (fun c1 => ?_) (fun c1 => ?_)
            · rw [if_pos c1] at h
              refine lv_aload_n (pc := 214) hx hb dX12_advance_214 rfl (lv_at hl 1 rfl) ?_
              refine lv_iload_n (pc := 215) hx hb dX12_advance_215 rfl (lv_at hl 0 rfl) ?_
              obtain ⟨v19, σ20, hv, h⟩ := zb_some h
              refine xcallSi (pc := 216) (As := [.int v13]) (rest := [.ref (o + x0)]) ⟨hx, hb, hml, hown, hts⟩ (c_X12_isSign l D c o g N hv) zT_X12_144 rfl zd_X12_isSign ⟨Nat.le_of_ble_eq_true rfl, Nat.le_of_ble_eq_true rfl⟩ hK hP hE hS hl.1 rfl (Nat.le_of_ble_eq_true rfl) ⟨Nat.zero_le _, Nat.zero_le _⟩ dX12_advance_216 (fun H locs hP hS => ?_)
              refine lv_if_eq (pc := 219) (tgt := 226) hx hb dX12_advance_219 (by decide) (fun c1 => ?_) (fun c1 => ?_)
              · rw [if_pos c1] at h
                refine lv_iconst (pc := 226) (v := 3) hx hb dX12_advance_226 (by decide) ?_
                obtain ⟨σ21, hv, h⟩ := zl_some h
                refine xpI (pc := 227) (j := 12) zc12 hx hb hts hown hK hP hS hv rfl rfl rfl zf_X12_123 dX12_advance_227 (fun H locs hP hS => ?_)
                refine lv_aload_n (pc := 230) hx hb dX12_advance_230 rfl (lv_at hl 1 rfl) ?_
                refine lv_dup (pc := 231) hx hb dX12_advance_231 rfl ?_
                obtain ⟨v22, hv, h⟩ := zl_some h
                refine xgI (pc := 232) (j := 10) zc12 hx hb hts hown hK hP hv rfl zf_X12_113 dX12_advance_232 ?_
                refine lv_iconst (pc := 235) (v := 1) hx hb dX12_advance_235 (by decide) ?_
                refine lv_iadd (pc := 236) hx hb dX12_advance_236 ?_
                obtain ⟨σ23, hv, h⟩ := zl_some h
                refine xpI (pc := 237) (j := 10) zc12 hx hb hts hown hK hP hS hv rfl rfl rfl zf_X12_113 dX12_advance_237 (fun H locs hP hS => ?_)
                exact xretv (pc := 240) hx hb hr hlocks hP hK hE hS h dX12_advance_240
              · rw [if_neg c1] at h
                refine lv_iload_n (pc := 222) hx hb dX12_advance_222 rfl (lv_at hl 0 rfl) ?_
                refine lv_goto (pc := 223) (tgt := 227) hx hb dX12_advance_223 (by decide) ?_
                obtain ⟨σ24, hv, h⟩ := zl_some h
                refine xpI (pc := 227) (j := 12) zc12 hx hb hts hown hK hP hS hv rfl rfl rfl zf_X12_123 dX12_advance_227 (fun H locs hP hS => ?_)
                refine lv_aload_n (pc := 230) hx hb dX12_advance_230 rfl (lv_at hl 1 rfl) ?_
                refine lv_dup (pc := 231) hx hb dX12_advance_231 rfl ?_
                obtain ⟨v25, hv, h⟩ := zl_some h
                refine xgI (pc := 232) (j := 10) zc12 hx hb hts hown hK hP hv rfl zf_X12_113 dX12_advance_232 ?_
                refine lv_iconst (pc := 235) (v := 1) hx hb dX12_advance_235 (by decide) ?_
                refine lv_iadd (pc := 236) hx hb dX12_advance_236 ?_
                obtain ⟨σ26, hv, h⟩ := zl_some h
                refine xpI (pc := 237) (j := 10) zc12 hx hb hts hown hK hP hS hv rfl rfl rfl zf_X12_113 dX12_advance_237 (fun H locs hP hS => ?_)
                exact xretv (pc := 240) hx hb hr hlocks hP hK hE hS h dX12_advance_240
            · rw [if_neg c1] at h
              refine lv_aload_n (pc := 139) hx hb dX12_advance_139 rfl (lv_at hl 1 rfl) ?_
              refine lv_iconst (pc := 140) (v := 0) hx hb dX12_advance_140 (by decide) ?_
              obtain ⟨σ27, hv, h⟩ := zl_some h
              refine xpI (pc := 141) (j := 13) zc12 hx hb hts hown hK hP hS hv rfl rfl rfl zf_X12_134 dX12_advance_141 (fun H locs hP hS => ?_)
              have L144_28 : ∀ (n : Nat) (t : zS), zlp (F_X12_advance_144 N x0) n t = some ρ → ∀ (H : Heap) (locs : List Loc) (ls : Array Slot), zP D c o (zabs o (t)) H → va_S (zA o) s.heap H locs → lv_has ls 2 [(0, .ref (o + x0))] → W p l e (zr 4) s m (([.ref (o + x0)] : List Value).toArray) below meth cd H locs 0 0 (MQ below (zQu D c o g ρ) (([.ref (o + x0)] : List Value).toArray) s 0 0 (zA o)) (F0 m 144 ls []) := by
                refine zlp_ind (fun ag28 ih28 t h H locs ls hP hS hl => ?_)
                obtain ⟨σ28, rfl⟩ : ∃ x, x = t := ⟨t, rfl⟩
                have hP : zP D c o (zabs o σ28) H := hP
                have hl : lv_has ls 2 [(0, .ref (o + x0))] := hl
                rw [F_X12_advance_144.eq_1] at h
                show W p l e (zr 4) s m (([.ref (o + x0)] : List Value).toArray) below meth cd H locs 0 0 (MQ below (zQu D c o g ρ) (([.ref (o + x0)] : List Value).toArray) s 0 0 (zA o)) (F0 m 144 ls [])
                refine lv_aload_n (pc := 144) hx hb dX12_advance_144 rfl (lv_at hl 0 rfl) ?_
                refine lv_aload_n (pc := 145) hx hb dX12_advance_145 rfl (lv_at hl 0 rfl) ?_
                obtain ⟨v29, hv, h⟩ := zl_some h
                refine xgI (pc := 146) (j := 10) zc12 hx hb hts hown hK hP hv rfl zf_X12_113 dX12_advance_146 ?_
                obtain ⟨_, hg, h⟩ := zl_some h
                obtain ⟨v30, σ31, hv, h⟩ := zb_some h
                refine xcallVi (pc := 149) (As := [.int v29]) (rest := []) ⟨hx, hb, hml, hown, hts⟩ (c_X12_see l D c o g N hv) zc12 zV_X12_116 rfl zd_X12_see ⟨Nat.le_of_ble_eq_true rfl, Nat.le_of_ble_eq_true rfl⟩ hK hP hE hS hg hl.1 rfl (Nat.le_of_ble_eq_true rfl) ⟨Nat.zero_le _, Nat.zero_le _⟩ dX12_advance_149 (fun H locs hP hS => ?_)
                refine lv_i2l (pc := 152) hx hb dX12_advance_152 rfl ?_
                refine lv_ldc2 (pc := 153) hx hb hown (hts _ zk_X12_130) dX12_advance_153 ?_
                refine lv_ldc2 (pc := 156) hx hb hown (hts _ zk_X12_132) dX12_advance_156 ?_
                obtain ⟨v32, σ33, hv, h⟩ := zb_some h
                refine xcallSi (pc := 159) (As := [.long (Int32.toInt64 v30), .long 48, .long 57]) (rest := []) ⟨hx, hb, hml, hown, hts⟩ (c_X12_in l D c o g N hv) zT_X12_94 rfl zd_X12_in ⟨Nat.le_of_ble_eq_true rfl, Nat.le_of_ble_eq_true rfl⟩ hK hP hE hS hl.1 rfl (Nat.le_of_ble_eq_true rfl) ⟨Nat.zero_le _, Nat.zero_le _⟩ dX12_advance_159 (fun H locs hP hS => ?_)
                refine lv_if_eq (pc := 162) (tgt := 206) hx hb dX12_advance_162 (by decide) (fun c1 => ?_) (fun c1 => ?_)
                · rw [if_pos c1] at h
                  refine lv_aload_n (pc := 206) hx hb dX12_advance_206 rfl (lv_at hl 0 rfl) ?_
                  refine lv_iconst (pc := 207) (v := 2) hx hb dX12_advance_207 (by decide) ?_
                  obtain ⟨σ34, hv, h⟩ := zl_some h
                  refine xpI (pc := 208) (j := 12) zc12 hx hb hts hown hK hP hS hv rfl rfl rfl zf_X12_123 dX12_advance_208 (fun H locs hP hS => ?_)
                  refine lv_goto (pc := 211) (tgt := 240) hx hb dX12_advance_211 (by decide) ?_
                  exact xretv (pc := 240) hx hb hr hlocks hP hK hE hS h dX12_advance_240
                · rw [if_neg c1] at h
                  refine lv_aload_n (pc := 165) hx hb dX12_advance_165 rfl (lv_at hl 0 rfl) ?_
                  refine lv_ldc (pc := 166) hx hb hown (hts _ zk_X12_137) dX12_advance_166 ?_
                  refine lv_bipush (pc := 168) (v := 10) hx hb dX12_advance_168 (by decide) ?_
                  refine lv_aload_n (pc := 170) hx hb dX12_advance_170 rfl (lv_at hl 0 rfl) ?_
                  obtain ⟨v35, hv, h⟩ := zl_some h
                  refine xgI (pc := 171) (j := 13) zc12 hx hb hts hown hK hP hv rfl zf_X12_134 dX12_advance_171 ?_
                  refine lv_imul (pc := 174) hx hb dX12_advance_174 ?_
                  refine lv_aload_n (pc := 175) hx hb dX12_advance_175 rfl (lv_at hl 0 rfl) ?_
                  refine lv_aload_n (pc := 176) hx hb dX12_advance_176 rfl (lv_at hl 0 rfl) ?_
                  obtain ⟨v36, hv, h⟩ := zl_some h
                  refine xgI (pc := 177) (j := 10) zc12 hx hb hts hown hK hP hv rfl zf_X12_113 dX12_advance_177 ?_
                  obtain ⟨_, hg, h⟩ := zl_some h
                  obtain ⟨v37, σ38, hv, h⟩ := zb_some h
                  refine xcallVi (pc := 180) (As := [.int v36]) (rest := [.int (10 * v35), .int 99999, .ref (o + x0)]) ⟨hx, hb, hml, hown, hts⟩ (c_X12_see l D c o g N hv) zc12 zV_X12_116 rfl zd_X12_see ⟨Nat.le_of_ble_eq_true rfl, Nat.le_of_ble_eq_true rfl⟩ hK hP hE hS hg hl.1 rfl (Nat.le_of_ble_eq_true rfl) ⟨Nat.zero_le _, Nat.zero_le _⟩ dX12_advance_180 (fun H locs hP hS => ?_)
                  refine lv_iadd (pc := 183) hx hb dX12_advance_183 ?_
                  refine lv_bipush (pc := 184) (v := 48) hx hb dX12_advance_184 (by decide) ?_
                  refine lv_isub (pc := 186) hx hb dX12_advance_186 ?_
                  refine xmin (pc := 187) (rest := [.ref (o + x0)]) hx hb (hml.trans hl.1.symm) hown (hts _ zm_X12_138) (hts _ zst_J9_min_7cf53) (hts _ zn_J9) (hts _ (zq_J9_min_7cf53 _ List.mem_cons_self).1) (Nat.le_of_ble_eq_true rfl) (Nat.le_of_ble_eq_true rfl) (Nat.zero_le _) (Nat.zero_le _) dX12_advance_187 ?_
                  obtain ⟨σ39, hv, h⟩ := zl_some h
                  refine xpI (pc := 190) (j := 13) zc12 hx hb hts hown hK hP hS hv rfl rfl rfl zf_X12_134 dX12_advance_190 (fun H locs hP hS => ?_)
                  refine lv_aload_n (pc := 193) hx hb dX12_advance_193 rfl (lv_at hl 0 rfl) ?_
                  refine lv_dup (pc := 194) hx hb dX12_advance_194 rfl ?_
                  obtain ⟨v40, hv, h⟩ := zl_some h
                  refine xgI (pc := 195) (j := 10) zc12 hx hb hts hown hK hP hv rfl zf_X12_113 dX12_advance_195 ?_
                  refine lv_iconst (pc := 198) (v := 1) hx hb dX12_advance_198 (by decide) ?_
                  refine lv_iadd (pc := 199) hx hb dX12_advance_199 ?_
                  obtain ⟨σ41, hv, h⟩ := zl_some h
                  refine xpI (pc := 200) (j := 10) zc12 hx hb hts hown hK hP hS hv rfl rfl rfl zf_X12_113 dX12_advance_200 (fun H locs hP hS => ?_)
                  refine lv_goto (pc := 203) (tgt := 144) hx hb dX12_advance_203 (by decide) ?_
                  exact ih28 σ41 h _ _ ls hP hS (lv_sub hl [0] rfl)
              exact L144_28 N σ27 h _ _ ls hP hS (lv_sub hl [1] rfl)
          · rw [if_neg c1] at h
            have L83_42 : ∀ (n : Nat) (t : zS), zlp (F_X12_advance_83 N x0) n t = some ρ → ∀ (H : Heap) (locs : List Loc) (ls : Array Slot), zP D c o (zabs o (t)) H → va_S (zA o) s.heap H locs → lv_has ls 2 [(0, .ref (o + x0))] → W p l e (zr 4) s m (([.ref (o + x0)] : List Value).toArray) below meth cd H locs 0 0 (MQ below (zQu D c o g ρ) (([.ref (o + x0)] : List Value).toArray) s 0 0 (zA o)) (F0 m 83 ls []) := by
              refine zlp_ind (fun ag42 ih42 t h H locs ls hP hS hl => ?_)
              obtain ⟨σ42, rfl⟩ : ∃ x, x = t := ⟨t, rfl⟩
              have hP : zP D c o (zabs o σ42) H := hP
              have hl : lv_has ls 2 [(0, .ref (o + x0))] := hl
              rw [F_X12_advance_83.eq_1] at h
              show W p l e (zr 4) s m (([.ref (o + x0)] : List Value).toArray) below meth cd H locs 0 0 (MQ below (zQu D c o g ρ) (([.ref (o + x0)] : List Value).toArray) s 0 0 (zA o)) (F0 m 83 ls [])
              refine lv_aload_n (pc := 83) hx hb dX12_advance_83 rfl (lv_at hl 0 rfl) ?_
              refine lv_aload_n (pc := 84) hx hb dX12_advance_84 rfl (lv_at hl 0 rfl) ?_
              obtain ⟨v43, hv, h⟩ := zl_some h
              refine xgI (pc := 85) (j := 10) zc12 hx hb hts hown hK hP hv rfl zf_X12_113 dX12_advance_85 ?_
              obtain ⟨_, hg, h⟩ := zl_some h
              obtain ⟨v44, σ45, hv, h⟩ := zb_some h
              refine xcallVi (pc := 88) (As := [.int v43]) (rest := []) ⟨hx, hb, hml, hown, hts⟩ (c_X12_see l D c o g N hv) zc12 zV_X12_116 rfl zd_X12_see ⟨Nat.le_of_ble_eq_true rfl, Nat.le_of_ble_eq_true rfl⟩ hK hP hE hS hg hl.1 rfl (Nat.le_of_ble_eq_true rfl) ⟨Nat.zero_le _, Nat.zero_le _⟩ dX12_advance_88 (fun H locs hP hS => ?_)
              refine lv_i2l (pc := 91) hx hb dX12_advance_91 rfl ?_
              refine lv_ldc2 (pc := 92) hx hb hown (hts _ zk_X12_126) dX12_advance_92 ?_
              refine lv_ldc2 (pc := 95) hx hb hown (hts _ zk_X12_128) dX12_advance_95 ?_
              obtain ⟨v46, σ47, hv, h⟩ := zb_some h
              refine xcallSi (pc := 98) (As := [.long (Int32.toInt64 v44), .long 97, .long 122]) (rest := []) ⟨hx, hb, hml, hown, hts⟩ (c_X12_in l D c o g N hv) zT_X12_94 rfl zd_X12_in ⟨Nat.le_of_ble_eq_true rfl, Nat.le_of_ble_eq_true rfl⟩ hK hP hE hS hl.1 rfl (Nat.le_of_ble_eq_true rfl) ⟨Nat.zero_le _, Nat.zero_le _⟩ dX12_advance_98 (fun H locs hP hS => ?_)
              refine lv_if_eq (pc := 101) (tgt := 117) hx hb dX12_advance_101 (by decide) (fun c1 => ?_) (fun c1 => ?_)
              · rw [if_pos c1] at h
                refine lv_aload_n (pc := 117) hx hb dX12_advance_117 rfl (lv_at hl 0 rfl) ?_
                refine lv_iconst (pc := 118) (v := 1) hx hb dX12_advance_118 (by decide) ?_
                obtain ⟨σ48, hv, h⟩ := zl_some h
                refine xpI (pc := 119) (j := 12) zc12 hx hb hts hown hK hP hS hv rfl rfl rfl zf_X12_123 dX12_advance_119 (fun H locs hP hS => ?_)
                refine lv_goto (pc := 122) (tgt := 240) hx hb dX12_advance_122 (by decide) ?_
                exact xretv (pc := 240) hx hb hr hlocks hP hK hE hS h dX12_advance_240
              · rw [if_neg c1] at h
                refine lv_aload_n (pc := 104) hx hb dX12_advance_104 rfl (lv_at hl 0 rfl) ?_
                refine lv_dup (pc := 105) hx hb dX12_advance_105 rfl ?_
                obtain ⟨v49, hv, h⟩ := zl_some h
                refine xgI (pc := 106) (j := 10) zc12 hx hb hts hown hK hP hv rfl zf_X12_113 dX12_advance_106 ?_
                refine lv_iconst (pc := 109) (v := 1) hx hb dX12_advance_109 (by decide) ?_
                refine lv_iadd (pc := 110) hx hb dX12_advance_110 ?_
                obtain ⟨σ50, hv, h⟩ := zl_some h
                refine xpI (pc := 111) (j := 10) zc12 hx hb hts hown hK hP hS hv rfl rfl rfl zf_X12_113 dX12_advance_111 (fun H locs hP hS => ?_)
                refine lv_goto (pc := 114) (tgt := 83) hx hb dX12_advance_114 (by decide) ?_
                exact ih42 σ50 h _ _ ls hP hS (lv_sub hl [0] rfl)
            exact L83_42 N σ16 h _ _ ls hP hS (lv_sub hl [1] rfl)
        · rw [if_pos c1] at h
          refine lv_aload_n (pc := 61) hx hb dX12_advance_61 rfl (lv_at hl 1 rfl) ?_
          refine lv_iconst (pc := 62) (v := 0) hx hb dX12_advance_62 (by decide) ?_
          obtain ⟨σ51, hv, h⟩ := zl_some h
          refine xpI (pc := 63) (j := 12) zc12 hx hb hts hown hK hP hS hv rfl rfl rfl zf_X12_123 dX12_advance_63 (fun H locs hP hS => ?_)
          refine lv_goto (pc := 66) (tgt := 240) hx hb dX12_advance_66 (by decide) ?_
          exact xretv (pc := 240) hx hb hr hlocks hP hK hE hS h dX12_advance_240
      · rw [if_pos c1] at h
        refine lv_aload_n (pc := 26) hx hb dX12_advance_26 rfl (lv_at hl 0 rfl) ?_
        refine lv_dup (pc := 27) hx hb dX12_advance_27 rfl ?_
        obtain ⟨v52, hv, h⟩ := zl_some h
        refine xgI (pc := 28) (j := 10) zc12 hx hb hts hown hK hP hv rfl zf_X12_113 dX12_advance_28 ?_
        refine lv_iconst (pc := 31) (v := 1) hx hb dX12_advance_31 (by decide) ?_
        refine lv_iadd (pc := 32) hx hb dX12_advance_32 ?_
        obtain ⟨σ53, hv, h⟩ := zl_some h
        refine xpI (pc := 33) (j := 10) zc12 hx hb hts hown hK hP hS hv rfl rfl rfl zf_X12_113 dX12_advance_33 (fun H locs hP hS => ?_)
        refine lv_goto (pc := 36) (tgt := 0) hx hb dX12_advance_36 (by decide) ?_
        exact ih1 σ53 h _ _ ls hP hS (lv_sub hl [0] rfl)
  exact L0_1 N σ h _ _ ls hP hS (lv_sub hl [0] rfl)

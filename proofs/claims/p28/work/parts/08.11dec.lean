def f_X12_weight (N : Nat) (x0 : Nat) (x1 : Int32) (σ : zS) : Option (Int32 × zS) :=
  zl (gC 12 x0) fun _ => zb (f_X12_isSet N x0 x1 σ) fun v1 σ2 =>
  if v1 = 0 then
    (some ((-2), σ2))
  else
    (zl (gC 12 x0) fun _ => zb (f_X12_weightOf N x0 x1 σ2) fun v3 σ4 =>
    some (v3, σ4))
set_option maxHeartbeats 4000000 in
set_option maxRecDepth 100000 in
theorem c_X12_weight (l : Launch) (D : va_G) (c : zC) (o : Nat) (g : zEp) (N : Nat) {x0 : Nat} {x1 : Int32} {σ : zS} {ρ : Int32 × zS} (h : f_X12_weight N x0 x1 σ = some ρ) : Met l yX12_weight zs_X12_weight (zr 8) (va_Pc [.ref (o + x0), .int x1] (zG D c o g σ)) (zQi D c o g ρ) 0 0 (zA o) := by
  refine zMetG (by decide) (Nat.le_of_ble_eq_true rfl) ?_
  intro p e s m below meth cd ⟨hx, hb, hr, hml, hown, hts, hlocks⟩ hP hK hE ls hl
  have hS : va_S (zA o) s.heap s.heap [] := va_S.rf
  have hl : lv_has ls 2 [(0, .ref (o + x0)), (1, .int x1)] := hl
  rw [f_X12_weight.eq_1] at h
  refine lv_aload_n (pc := 0) hx hb dX12_weight_0 rfl (lv_at hl 0 rfl) ?_
  refine lv_iload_n (pc := 1) hx hb dX12_weight_1 rfl (lv_at hl 1 rfl) ?_
  obtain ⟨_, hg, h⟩ := zl_some h
  obtain ⟨v1, σ2, hv, h⟩ := zb_some h
  refine xcallVi (pc := 2) (As := [.int x1]) (rest := []) ⟨hx, hb, hml, hown, hts⟩ (c_X12_isSet l D c o g N hv) zc12 zV_X12_327 rfl zd_X12_isSet ⟨Nat.le_of_ble_eq_true rfl, Nat.le_of_ble_eq_true rfl⟩ hK hP hE hS hg hl.1 rfl (Nat.le_of_ble_eq_true rfl) ⟨Nat.zero_le _, Nat.zero_le _⟩ dX12_weight_2 (fun H locs hP hS => ?_)
  refine lv_if_eq (pc := 5) (tgt := 16) hx hb dX12_weight_5 (by decide) (fun c1 => ?_) (fun c1 => ?_)
  · rw [if_pos c1] at h
    refine lv_bipush (pc := 16) (v := (-2)) hx hb dX12_weight_16 (by decide) ?_
    exact xreti (pc := 18) hx hb hr hlocks hP hK hE hS h dX12_weight_18
  · rw [if_neg c1] at h
    refine lv_aload_n (pc := 8) hx hb dX12_weight_8 rfl (lv_at hl 0 rfl) ?_
    refine lv_iload_n (pc := 9) hx hb dX12_weight_9 rfl (lv_at hl 1 rfl) ?_
    obtain ⟨_, hg, h⟩ := zl_some h
    obtain ⟨v3, σ4, hv, h⟩ := zb_some h
    refine xcallVi (pc := 10) (As := [.int x1]) (rest := []) ⟨hx, hb, hml, hown, hts⟩ (c_X12_weightOf l D c o g N hv) zc12 zV_X12_343 rfl zd_X12_weightOf ⟨Nat.le_of_ble_eq_true rfl, Nat.le_of_ble_eq_true rfl⟩ hK hP hE hS hg hl.1 rfl (Nat.le_of_ble_eq_true rfl) ⟨Nat.zero_le _, Nat.zero_le _⟩ dX12_weight_10 (fun H locs hP hS => ?_)
    refine lv_goto (pc := 13) (tgt := 18) hx hb dX12_weight_13 (by decide) ?_
    exact xreti (pc := 18) hx hb hr hlocks hP hK hE hS h dX12_weight_18
def f_X12_weigh (N : Nat) (x0 : Nat) (x1 : Int32) (x2 : Int32) (σ : zS) : Option (Int32 × zS) :=
  zl (gC 12 x0) fun _ => zb (f_X12_isName N x0 x1 σ) fun v1 σ2 =>
  if v1 = 0 then
    (some ((-2), σ2))
  else
    (zb (f_X12_in N (Int32.toInt64 x2) 0 99 σ2) fun v3 σ4 =>
    if v3 = 0 then
      (some ((-2), σ4))
    else
      (zl (gR 12 1 x0 σ4) fun v5 =>
      zl (aI 14 v5 (3 + x1) σ4) fun v6 =>
      zl (gR 12 1 x0 σ4) fun v7 =>
      zl (sI 14 v7 (3 + x1) x2 σ4) fun σ8 =>
      some (v6, σ8)))
set_option maxHeartbeats 4000000 in
set_option maxRecDepth 100000 in
theorem c_X12_weigh (l : Launch) (D : va_G) (c : zC) (o : Nat) (g : zEp) (N : Nat) {x0 : Nat} {x1 : Int32} {x2 : Int32} {σ : zS} {ρ : Int32 × zS} (h : f_X12_weigh N x0 x1 x2 σ = some ρ) : Met l yX12_weigh zs_X12_weigh (zr 6) (va_Pc [.ref (o + x0), .int x1, .int x2] (zG D c o g σ)) (zQi D c o g ρ) 0 0 (zA o) := by
  refine zMetG (by decide) (Nat.le_of_ble_eq_true rfl) ?_
  intro p e s m below meth cd ⟨hx, hb, hr, hml, hown, hts, hlocks⟩ hP hK hE ls hl
  have hS : va_S (zA o) s.heap s.heap [] := va_S.rf
  have hl : lv_has ls 4 [(0, .ref (o + x0)), (1, .int x1), (2, .int x2)] := hl
  rw [f_X12_weigh.eq_1] at h
  refine lv_aload_n (pc := 0) hx hb dX12_weigh_0 rfl (lv_at hl 0 rfl) ?_
  refine lv_iload_n (pc := 1) hx hb dX12_weigh_1 rfl (lv_at hl 1 rfl) ?_
  obtain ⟨_, hg, h⟩ := zl_some h
  obtain ⟨v1, σ2, hv, h⟩ := zb_some h
  refine xcallVi (pc := 2) (As := [.int x1]) (rest := []) ⟨hx, hb, hml, hown, hts⟩ (c_X12_isName l D c o g N hv) zc12 zV_X12_332 rfl zd_X12_isName ⟨Nat.le_of_ble_eq_true rfl, Nat.le_of_ble_eq_true rfl⟩ hK hP hE hS hg hl.1 rfl (Nat.le_of_ble_eq_true rfl) ⟨Nat.zero_le _, Nat.zero_le _⟩ dX12_weigh_2 (fun H locs hP hS => ?_)
  refine lv_if_eq (pc := 5) (tgt := 20) hx hb dX12_weigh_5 (by decide) (fun c1 => ?_) (fun c1 => ?_)
  · rw [if_pos c1] at h
    refine lv_bipush (pc := 20) (v := (-2)) hx hb dX12_weigh_20 (by decide) ?_
    exact xreti (pc := 22) hx hb hr hlocks hP hK hE hS h dX12_weigh_22
  · rw [if_neg c1] at h
    refine lv_iload_n (pc := 8) hx hb dX12_weigh_8 rfl (lv_at hl 2 rfl) ?_
    refine lv_i2l (pc := 9) hx hb dX12_weigh_9 rfl ?_
    refine lv_lconst (pc := 10) (v := 0) hx hb dX12_weigh_10 (by decide) ?_
    refine lv_ldc2 (pc := 11) hx hb hown (hts _ zk_X12_346) dX12_weigh_11 ?_
    obtain ⟨v3, σ4, hv, h⟩ := zb_some h
    refine xcallSi (pc := 14) (As := [.long (Int32.toInt64 x2), .long 0, .long 99]) (rest := []) ⟨hx, hb, hml, hown, hts⟩ (c_X12_in l D c o g N hv) zT_X12_94 rfl zd_X12_in ⟨Nat.le_of_ble_eq_true rfl, Nat.le_of_ble_eq_true rfl⟩ hK hP hE hS hl.1 rfl (Nat.le_of_ble_eq_true rfl) ⟨Nat.zero_le _, Nat.zero_le _⟩ dX12_weigh_14 (fun H locs hP hS => ?_)
    refine lv_if_ne (pc := 17) (tgt := 23) hx hb dX12_weigh_17 (by decide) (fun c1 => ?_) (fun c1 => ?_)
    · rw [if_neg c1] at h
      refine lv_aload_n (pc := 23) hx hb dX12_weigh_23 rfl (lv_at hl 0 rfl) ?_
      obtain ⟨v5, hv, h⟩ := zl_some h
      refine xgR (pc := 24) (j := 1) zc12 hx hb hts hown hK hP hv rfl zf_X12_9 dX12_weigh_24 ?_
      refine lv_iconst (pc := 27) (v := 3) hx hb dX12_weigh_27 (by decide) ?_
      refine lv_iload_n (pc := 28) hx hb dX12_weigh_28 rfl (lv_at hl 1 rfl) ?_
      refine lv_iadd (pc := 29) hx hb dX12_weigh_29 ?_
      obtain ⟨v6, hv, h⟩ := zl_some h
      refine xaI (pc := 30) hx hb hK hP hv dX12_weigh_30 ?_
      refine lv_istore_n (pc := 31) (lv' := [(3, .int v6), (0, .ref (o + x0)), (1, .int x1), (2, .int x2)]) hx hb dX12_weigh_31 rfl hl (by decide) rfl (fun ls hl => ?_)
      refine lv_aload_n (pc := 32) hx hb dX12_weigh_32 rfl (lv_at hl 1 rfl) ?_
      obtain ⟨v7, hv, h⟩ := zl_some h
      refine xgR (pc := 33) (j := 1) zc12 hx hb hts hown hK hP hv rfl zf_X12_9 dX12_weigh_33 ?_
      refine lv_iconst (pc := 36) (v := 3) hx hb dX12_weigh_36 (by decide) ?_
      refine lv_iload_n (pc := 37) hx hb dX12_weigh_37 rfl (lv_at hl 2 rfl) ?_
      refine lv_iadd (pc := 38) hx hb dX12_weigh_38 ?_
      refine lv_iload_n (pc := 39) hx hb dX12_weigh_39 rfl (lv_at hl 3 rfl) ?_
      obtain ⟨σ8, hv, h⟩ := zl_some h
      refine xsI (pc := 40) hx hb hK hP hS hv dX12_weigh_40 (fun H locs hP hS => ?_)
      refine lv_iload_n (pc := 41) hx hb dX12_weigh_41 rfl (lv_at hl 0 rfl) ?_
      exact xreti (pc := 42) hx hb hr hlocks hP hK hE hS h dX12_weigh_42
    · rw [if_pos c1] at h
      refine lv_bipush (pc := 20) (v := (-2)) hx hb dX12_weigh_20 (by decide) ?_
      exact xreti (pc := 22) hx hb hr hlocks hP hK hE hS h dX12_weigh_22
def F_X12_weighs_34 (N : Nat) (x0 : Nat) (x1 : Int32) (x2 : Int32) (again34 : (Int32 × Int32 × Int32 × Int32 × zS) → Option (Int32 × zS)) : Int32 × Int32 × Int32 × Int32 × zS → Option (Int32 × zS)
  | (x3, x4, x5, x6, σ) =>
  zl (gC 12 x0) fun _ => zb (f_X12_many N x0 σ) fun v5 σ6 =>
  if v5 ≤ x6 then
    (if x2 = 0 then
      (some (x3, σ6))
    else
      (if x2 = 1 then
        (some (x4, σ6))
      else
        (some (x5, σ6))))
  else
    (zl (gC 12 x0) fun _ => zb (f_X12_of N x0 x1 x6 σ6) fun v7 σ8 =>
    if v7 = 0 then
      (again34 (x3, x4, x5, x6 + 1, σ8))
    else
      (zl (gC 12 x0) fun _ => zb (f_X12_weightOf N x0 x6 σ8) fun v9 σ10 =>
      if x3 = (-1) then
        (again34 (v9, zmax x4 v9, x5 + v9, x6 + 1, σ10))
      else
        (again34 (zmin x3 v9, zmax x4 v9, x5 + v9, x6 + 1, σ10))))
def f_X12_weighs (N : Nat) (x0 : Nat) (x1 : Int32) (x2 : Int32) (σ : zS) : Option (Int32 × zS) :=
  zl (gC 12 x0) fun _ => zb (f_X12_isRegister N x0 x1 σ) fun v1 σ2 =>
  if v1 = 0 then
    (some ((-2), σ2))
  else
    (zb (f_X12_in N (Int32.toInt64 x2) 0 2 σ2) fun v3 σ4 =>
    if v3 = 0 then
      (some ((-2), σ4))
    else
      (zlp (F_X12_weighs_34 N x0 x1 x2) N ((-1), (-1), 0, 0, σ4)))
set_option maxHeartbeats 4000000 in
set_option maxRecDepth 100000 in
theorem c_X12_weighs (l : Launch) (D : va_G) (c : zC) (o : Nat) (g : zEp) (N : Nat) {x0 : Nat} {x1 : Int32} {x2 : Int32} {σ : zS} {ρ : Int32 × zS} (h : f_X12_weighs N x0 x1 x2 σ = some ρ) : Met l yX12_weighs zs_X12_weighs (zr 6) (va_Pc [.ref (o + x0), .int x1, .int x2] (zG D c o g σ)) (zQi D c o g ρ) 0 0 (zA o) := by
  refine zMetG (by decide) (Nat.le_of_ble_eq_true rfl) ?_
  intro p e s m below meth cd ⟨hx, hb, hr, hml, hown, hts, hlocks⟩ hP hK hE ls hl
  have hS : va_S (zA o) s.heap s.heap [] := va_S.rf
  have hl : lv_has ls 8 [(0, .ref (o + x0)), (1, .int x1), (2, .int x2)] := hl
  rw [f_X12_weighs.eq_1] at h
  refine lv_aload_n (pc := 0) hx hb dX12_weighs_0 rfl (lv_at hl 0 rfl) ?_
  refine lv_iload_n (pc := 1) hx hb dX12_weighs_1 rfl (lv_at hl 1 rfl) ?_
  obtain ⟨_, hg, h⟩ := zl_some h
  obtain ⟨v1, σ2, hv, h⟩ := zb_some h
  refine xcallVi (pc := 2) (As := [.int x1]) (rest := []) ⟨hx, hb, hml, hown, hts⟩ (c_X12_isRegister l D c o g N hv) zc12 zV_X12_321 rfl zd_X12_isRegister ⟨Nat.le_of_ble_eq_true rfl, Nat.le_of_ble_eq_true rfl⟩ hK hP hE hS hg hl.1 rfl (Nat.le_of_ble_eq_true rfl) ⟨Nat.zero_le _, Nat.zero_le _⟩ dX12_weighs_2 (fun H locs hP hS => ?_)
  refine lv_if_eq (pc := 5) (tgt := 20) hx hb dX12_weighs_5 (by decide) (fun c1 => ?_) (fun c1 => ?_)
  · rw [if_pos c1] at h
    refine lv_bipush (pc := 20) (v := (-2)) hx hb dX12_weighs_20 (by decide) ?_
    exact xreti (pc := 22) hx hb hr hlocks hP hK hE hS h dX12_weighs_22
  · rw [if_neg c1] at h
    refine lv_iload_n (pc := 8) hx hb dX12_weighs_8 rfl (lv_at hl 2 rfl) ?_
    refine lv_i2l (pc := 9) hx hb dX12_weighs_9 rfl ?_
    refine lv_lconst (pc := 10) (v := 0) hx hb dX12_weighs_10 (by decide) ?_
    refine lv_ldc2 (pc := 11) hx hb hown (hts _ zk_X12_92) dX12_weighs_11 ?_
    obtain ⟨v3, σ4, hv, h⟩ := zb_some h
    refine xcallSi (pc := 14) (As := [.long (Int32.toInt64 x2), .long 0, .long 2]) (rest := []) ⟨hx, hb, hml, hown, hts⟩ (c_X12_in l D c o g N hv) zT_X12_94 rfl zd_X12_in ⟨Nat.le_of_ble_eq_true rfl, Nat.le_of_ble_eq_true rfl⟩ hK hP hE hS hl.1 rfl (Nat.le_of_ble_eq_true rfl) ⟨Nat.zero_le _, Nat.zero_le _⟩ dX12_weighs_14 (fun H locs hP hS => ?_)
    refine lv_if_ne (pc := 17) (tgt := 23) hx hb dX12_weighs_17 (by decide) (fun c1 => ?_) (fun c1 => ?_)
    · rw [if_neg c1] at h
      refine lv_iconst (pc := 23) (v := (-1)) hx hb dX12_weighs_23 (by decide) ?_
      refine lv_istore_n (pc := 24) (lv' := [(3, .int (-1)), (0, .ref (o + x0)), (1, .int x1), (2, .int x2)]) hx hb dX12_weighs_24 rfl hl (by decide) rfl (fun ls hl => ?_)
      refine lv_iconst (pc := 25) (v := (-1)) hx hb dX12_weighs_25 (by decide) ?_
      refine lv_istore (pc := 26) (lv' := [(4, .int (-1)), (3, .int (-1)), (0, .ref (o + x0)), (1, .int x1), (2, .int x2)]) hx hb dX12_weighs_26 hl (by decide) rfl (fun ls hl => ?_)
      refine lv_iconst (pc := 28) (v := 0) hx hb dX12_weighs_28 (by decide) ?_
      refine lv_istore (pc := 29) (lv' := [(5, .int 0), (4, .int (-1)), (3, .int (-1)), (0, .ref (o + x0)), (1, .int x1), (2, .int x2)]) hx hb dX12_weighs_29 hl (by decide) rfl (fun ls hl => ?_)
      refine lv_iconst (pc := 31) (v := 0) hx hb dX12_weighs_31 (by decide) ?_
      refine lv_istore (pc := 32) (lv' := [(6, .int 0), (5, .int 0), (4, .int (-1)), (3, .int (-1)), (0, .ref (o + x0)), (1, .int x1), (2, .int x2)]) hx hb dX12_weighs_32 hl (by decide) rfl (fun ls hl => ?_)
      have L34_5 : ∀ (n : Nat) (t : Int32 × Int32 × Int32 × Int32 × zS), zlp (F_X12_weighs_34 N x0 x1 x2) n t = some ρ → ∀ (H : Heap) (locs : List Loc) (ls : Array Slot), zP D c o (zabs o (t.2.2.2.2)) H → va_S (zA o) s.heap H locs → lv_has ls 8 [(3, .int (t.1)), (4, .int (t.2.1)), (5, .int (t.2.2.1)), (6, .int (t.2.2.2.1)), (0, .ref (o + x0)), (1, .int x1), (2, .int x2)] → W p l e (zr 6) s m (([.ref (o + x0), .int x1, .int x2] : List Value).toArray) below meth cd H locs 0 0 (MQ below (zQi D c o g ρ) (([.ref (o + x0), .int x1, .int x2] : List Value).toArray) s 0 0 (zA o)) (F0 m 34 ls []) := by
        refine zlp_ind (fun ag5 ih5 t h H locs ls hP hS hl => ?_)
        obtain ⟨x3_5, x4_5, x5_5, x6_5, σ5⟩ := t
        have hP : zP D c o (zabs o σ5) H := hP
        have hl : lv_has ls 8 [(3, .int x3_5), (4, .int x4_5), (5, .int x5_5), (6, .int x6_5), (0, .ref (o + x0)), (1, .int x1), (2, .int x2)] := hl
        rw [F_X12_weighs_34.eq_1] at h
        show W p l e (zr 6) s m (([.ref (o + x0), .int x1, .int x2] : List Value).toArray) below meth cd H locs 0 0 (MQ below (zQi D c o g ρ) (([.ref (o + x0), .int x1, .int x2] : List Value).toArray) s 0 0 (zA o)) (F0 m 34 ls [])
        refine lv_iload (pc := 34) hx hb dX12_weighs_34 (lv_at hl 3 rfl) ?_
        refine lv_aload_n (pc := 36) hx hb dX12_weighs_36 rfl (lv_at hl 4 rfl) ?_
        obtain ⟨_, hg, h⟩ := zl_some h
        obtain ⟨v6, σ7, hv, h⟩ := zb_some h
        refine xcallVi (pc := 37) (As := []) (rest := [.int x6_5]) ⟨hx, hb, hml, hown, hts⟩ (c_X12_many l D c o g N hv) zc12 zV_X12_104 rfl zd_X12_many ⟨Nat.le_of_ble_eq_true rfl, Nat.le_of_ble_eq_true rfl⟩ hK hP hE hS hg hl.1 rfl (Nat.le_of_ble_eq_true rfl) ⟨Nat.zero_le _, Nat.zero_le _⟩ dX12_weighs_37 (fun H locs hP hS => ?_)
        refine lv_icmp_ge (pc := 40) (tgt := 103) hx hb dX12_weighs_40 (by decide) (fun c1 => ?_) (fun c1 => ?_)
        · rw [if_pos c1] at h
          refine lv_iload_n (pc := 103) hx hb dX12_weighs_103 rfl (lv_at hl 6 rfl) ?_
          refine lv_if_ne (pc := 104) (tgt := 111) hx hb dX12_weighs_104 (by decide) (fun c1 => ?_) (fun c1 => ?_)
          · rw [if_neg c1] at h
            refine lv_iload_n (pc := 111) hx hb dX12_weighs_111 rfl (lv_at hl 6 rfl) ?_
            refine lv_iconst (pc := 112) (v := 1) hx hb dX12_weighs_112 (by decide) ?_
            refine lv_icmp_ne (pc := 113) (tgt := 121) hx hb dX12_weighs_113 (by decide) (fun c1 => ?_) (fun c1 => ?_)
            · rw [if_neg c1] at h
              refine lv_iload (pc := 121) hx hb dX12_weighs_121 (lv_at hl 2 rfl) ?_
              exact xreti (pc := 123) hx hb hr hlocks hP hK hE hS h dX12_weighs_123
            · rw [if_pos c1] at h
              refine lv_iload (pc := 116) hx hb dX12_weighs_116 (lv_at hl 1 rfl) ?_
              refine lv_goto (pc := 118) (tgt := 123) hx hb dX12_weighs_118 (by decide) ?_
              exact xreti (pc := 123) hx hb hr hlocks hP hK hE hS h dX12_weighs_123
          · rw [if_pos c1] at h
            refine lv_iload_n (pc := 107) hx hb dX12_weighs_107 rfl (lv_at hl 0 rfl) ?_
            refine lv_goto (pc := 108) (tgt := 123) hx hb dX12_weighs_108 (by decide) ?_
            exact xreti (pc := 123) hx hb hr hlocks hP hK hE hS h dX12_weighs_123
        · rw [if_neg c1] at h
          refine lv_aload_n (pc := 43) hx hb dX12_weighs_43 rfl (lv_at hl 4 rfl) ?_
          refine lv_iload_n (pc := 44) hx hb dX12_weighs_44 rfl (lv_at hl 5 rfl) ?_
          refine lv_iload (pc := 45) hx hb dX12_weighs_45 (lv_at hl 3 rfl) ?_
          obtain ⟨_, hg, h⟩ := zl_some h
          obtain ⟨v8, σ9, hv, h⟩ := zb_some h
          refine xcallVi (pc := 47) (As := [.int x1, .int x6_5]) (rest := []) ⟨hx, hb, hml, hown, hts⟩ (c_X12_of l D c o g N hv) zc12 zV_X12_314 rfl zd_X12_of ⟨Nat.le_of_ble_eq_true rfl, Nat.le_of_ble_eq_true rfl⟩ hK hP hE hS hg hl.1 rfl (Nat.le_of_ble_eq_true rfl) ⟨Nat.zero_le _, Nat.zero_le _⟩ dX12_weighs_47 (fun H locs hP hS => ?_)
          refine lv_if_ne (pc := 50) (tgt := 56) hx hb dX12_weighs_50 (by decide) (fun c1 => ?_) (fun c1 => ?_)
          · rw [if_neg c1] at h
            refine lv_aload_n (pc := 56) hx hb dX12_weighs_56 rfl (lv_at hl 4 rfl) ?_
            refine lv_iload (pc := 57) hx hb dX12_weighs_57 (lv_at hl 3 rfl) ?_
            obtain ⟨_, hg, h⟩ := zl_some h
            obtain ⟨v10, σ11, hv, h⟩ := zb_some h
            refine xcallVi (pc := 59) (As := [.int x6_5]) (rest := []) ⟨hx, hb, hml, hown, hts⟩ (c_X12_weightOf l D c o g N hv) zc12 zV_X12_343 rfl zd_X12_weightOf ⟨Nat.le_of_ble_eq_true rfl, Nat.le_of_ble_eq_true rfl⟩ hK hP hE hS hg hl.1 rfl (Nat.le_of_ble_eq_true rfl) ⟨Nat.zero_le _, Nat.zero_le _⟩ dX12_weighs_59 (fun H locs hP hS => ?_)
            refine lv_istore (pc := 62) (lv' := [(7, .int v10), (3, .int x3_5), (4, .int x4_5), (5, .int x5_5), (6, .int x6_5), (0, .ref (o + x0)), (1, .int x1), (2, .int x2)]) hx hb dX12_weighs_62 hl (by decide) rfl (fun ls hl => ?_)
            refine lv_iload_n (pc := 64) hx hb dX12_weighs_64 rfl (lv_at hl 1 rfl) ?_
            refine lv_iconst (pc := 65) (v := (-1)) hx hb dX12_weighs_65 (by decide) ?_
            refine lv_icmp_ne (pc := 66) (tgt := 74) hx hb dX12_weighs_66 (by decide) (fun c1 => ?_) (fun c1 => ?_)
            · rw [if_neg c1] at h
              refine lv_iload_n (pc := 74) hx hb dX12_weighs_74 rfl (lv_at hl 1 rfl) ?_
              refine lv_iload (pc := 75) hx hb dX12_weighs_75 (lv_at hl 0 rfl) ?_
              refine xmin (pc := 77) (rest := []) hx hb (hml.trans hl.1.symm) hown (hts _ zm_X12_138) (hts _ zst_J9_min_7cf53) (hts _ zn_J9) (hts _ (zq_J9_min_7cf53 _ List.mem_cons_self).1) (Nat.le_of_ble_eq_true rfl) (Nat.le_of_ble_eq_true rfl) (Nat.zero_le _) (Nat.zero_le _) dX12_weighs_77 ?_
              refine lv_istore_n (pc := 80) (lv' := [(3, .int (zmin x3_5 v10)), (7, .int v10), (4, .int x4_5), (5, .int x5_5), (6, .int x6_5), (0, .ref (o + x0)), (1, .int x1), (2, .int x2)]) hx hb dX12_weighs_80 rfl hl (by decide) rfl (fun ls hl => ?_)
              refine lv_iload (pc := 81) hx hb dX12_weighs_81 (lv_at hl 2 rfl) ?_
              refine lv_iload (pc := 83) hx hb dX12_weighs_83 (lv_at hl 1 rfl) ?_
              refine xmax (pc := 85) (rest := []) hx hb (hml.trans hl.1.symm) hown (hts _ zm_X12_348) (hts _ zst_J9_max_7cf53) (hts _ zn_J9) (hts _ (zq_J9_max_7cf53 _ List.mem_cons_self).1) (Nat.le_of_ble_eq_true rfl) (Nat.le_of_ble_eq_true rfl) (Nat.zero_le _) (Nat.zero_le _) dX12_weighs_85 ?_
              refine lv_istore (pc := 88) (lv' := [(4, .int (zmax x4_5 v10)), (3, .int (zmin x3_5 v10)), (7, .int v10), (5, .int x5_5), (6, .int x6_5), (0, .ref (o + x0)), (1, .int x1), (2, .int x2)]) hx hb dX12_weighs_88 hl (by decide) rfl (fun ls hl => ?_)
              refine lv_iload (pc := 90) hx hb dX12_weighs_90 (lv_at hl 3 rfl) ?_
              refine lv_iload (pc := 92) hx hb dX12_weighs_92 (lv_at hl 2 rfl) ?_
              refine lv_iadd (pc := 94) hx hb dX12_weighs_94 ?_
              refine lv_istore (pc := 95) (lv' := [(5, .int (x5_5 + v10)), (4, .int (zmax x4_5 v10)), (3, .int (zmin x3_5 v10)), (7, .int v10), (6, .int x6_5), (0, .ref (o + x0)), (1, .int x1), (2, .int x2)]) hx hb dX12_weighs_95 hl (by decide) rfl (fun ls hl => ?_)
              refine lv_iinc (pc := 97) (v := x6_5 + 1) (lv' := [(6, .int (x6_5 + 1)), (5, .int (x5_5 + v10)), (4, .int (zmax x4_5 v10)), (3, .int (zmin x3_5 v10)), (7, .int v10), (0, .ref (o + x0)), (1, .int x1), (2, .int x2)]) hx hb dX12_weighs_97 hl (k := 4) rfl rfl (by decide) rfl (fun ls hl => ?_)
              refine lv_goto (pc := 100) (tgt := 34) hx hb dX12_weighs_100 (by decide) ?_
              exact ih5 (zmin x3_5 v10, zmax x4_5 v10, x5_5 + v10, x6_5 + 1, σ11) h _ _ ls hP hS (lv_sub hl [3, 2, 1, 0, 5, 6, 7] rfl)
            · rw [if_pos c1] at h
              refine lv_iload (pc := 69) hx hb dX12_weighs_69 (lv_at hl 0 rfl) ?_
              refine lv_goto (pc := 71) (tgt := 80) hx hb dX12_weighs_71 (by decide) ?_
              refine lv_istore_n (pc := 80) (lv' := [(3, .int v10), (7, .int v10), (4, .int x4_5), (5, .int x5_5), (6, .int x6_5), (0, .ref (o + x0)), (1, .int x1), (2, .int x2)]) hx hb dX12_weighs_80 rfl hl (by decide) rfl (fun ls hl => ?_)
              refine lv_iload (pc := 81) hx hb dX12_weighs_81 (lv_at hl 2 rfl) ?_
              refine lv_iload (pc := 83) hx hb dX12_weighs_83 (lv_at hl 1 rfl) ?_
              refine xmax (pc := 85) (rest := []) hx hb (hml.trans hl.1.symm) hown (hts _ zm_X12_348) (hts _ zst_J9_max_7cf53) (hts _ zn_J9) (hts _ (zq_J9_max_7cf53 _ List.mem_cons_self).1) (Nat.le_of_ble_eq_true rfl) (Nat.le_of_ble_eq_true rfl) (Nat.zero_le _) (Nat.zero_le _) dX12_weighs_85 ?_
              refine lv_istore (pc := 88) (lv' := [(4, .int (zmax x4_5 v10)), (3, .int v10), (7, .int v10), (5, .int x5_5), (6, .int x6_5), (0, .ref (o + x0)), (1, .int x1), (2, .int x2)]) hx hb dX12_weighs_88 hl (by decide) rfl (fun ls hl => ?_)
              refine lv_iload (pc := 90) hx hb dX12_weighs_90 (lv_at hl 3 rfl) ?_
              refine lv_iload (pc := 92) hx hb dX12_weighs_92 (lv_at hl 2 rfl) ?_
              refine lv_iadd (pc := 94) hx hb dX12_weighs_94 ?_
              refine lv_istore (pc := 95) (lv' := [(5, .int (x5_5 + v10)), (4, .int (zmax x4_5 v10)), (3, .int v10), (7, .int v10), (6, .int x6_5), (0, .ref (o + x0)), (1, .int x1), (2, .int x2)]) hx hb dX12_weighs_95 hl (by decide) rfl (fun ls hl => ?_)
              refine lv_iinc (pc := 97) (v := x6_5 + 1) (lv' := [(6, .int (x6_5 + 1)), (5, .int (x5_5 + v10)), (4, .int (zmax x4_5 v10)), (3, .int v10), (7, .int v10), (0, .ref (o + x0)), (1, .int x1), (2, .int x2)]) hx hb dX12_weighs_97 hl (k := 4) rfl rfl (by decide) rfl (fun ls hl => ?_)
              refine lv_goto (pc := 100) (tgt := 34) hx hb dX12_weighs_100 (by decide) ?_
              exact ih5 (v10, zmax x4_5 v10, x5_5 + v10, x6_5 + 1, σ11) h _ _ ls hP hS (lv_sub hl [3, 2, 1, 0, 5, 6, 7] rfl)
          · rw [if_pos c1] at h
            refine lv_goto (pc := 53) (tgt := 97) hx hb dX12_weighs_53 (by decide) ?_
            refine lv_iinc (pc := 97) (v := x6_5 + 1) (lv' := [(6, .int (x6_5 + 1)), (3, .int x3_5), (4, .int x4_5), (5, .int x5_5), (0, .ref (o + x0)), (1, .int x1), (2, .int x2)]) hx hb dX12_weighs_97 hl (k := 3) rfl rfl (by decide) rfl (fun ls hl => ?_)
            refine lv_goto (pc := 100) (tgt := 34) hx hb dX12_weighs_100 (by decide) ?_
            exact ih5 (x3_5, x4_5, x5_5, x6_5 + 1, σ9) h _ _ ls hP hS (lv_sub hl [1, 2, 3, 0, 4, 5, 6] rfl)
      exact L34_5 N ((-1), (-1), 0, 0, σ4) h _ _ ls hP hS (lv_sub hl [3, 2, 1, 0, 4, 5, 6] rfl)
    · rw [if_pos c1] at h
      refine lv_bipush (pc := 20) (v := (-2)) hx hb dX12_weighs_20 (by decide) ?_
      exact xreti (pc := 22) hx hb hr hlocks hP hK hE hS h dX12_weighs_22
def F_X12_each_24 (N : Nat) (x0 : Nat) (x1 : Int32) (x2 : Int32) (again24 : (Int32 × Int32 × zS) → Option (Int32 × zS)) : Int32 × Int32 × zS → Option (Int32 × zS)
  | (x3, x4, σ) =>
  zl (gC 12 x0) fun _ => zb (f_X12_many N x0 σ) fun v5 σ6 =>
  if v5 ≤ x4 then
    (some (x3, σ6))
  else
    (zl (gC 12 x0) fun _ => zb (f_X12_of N x0 x1 x4 σ6) fun v7 σ8 =>
    if v7 = 0 then
      (again24 (x3 + 0, x4 + 1, σ8))
    else
      (again24 (x3 + (((x4 : Int32) >>> (x2 &&& 31)) &&& 1), x4 + 1, σ8)))
def f_X12_each (N : Nat) (x0 : Nat) (x1 : Int32) (x2 : Int32) (σ : zS) : Option (Int32 × zS) :=
  zl (gC 12 x0) fun _ => zb (f_X12_isRegister N x0 x1 σ) fun v1 σ2 =>
  if v1 = 0 then
    (some ((-2), σ2))
  else
    (zl (gC 12 x0) fun _ => zb (f_X12_isName N x0 x2 σ2) fun v3 σ4 =>
    if v3 = 0 then
      (some ((-2), σ4))
    else
      (zlp (F_X12_each_24 N x0 x1 x2) N (0, 0, σ4)))
set_option maxHeartbeats 4000000 in
set_option maxRecDepth 100000 in
theorem c_X12_each (l : Launch) (D : va_G) (c : zC) (o : Nat) (g : zEp) (N : Nat) {x0 : Nat} {x1 : Int32} {x2 : Int32} {σ : zS} {ρ : Int32 × zS} (h : f_X12_each N x0 x1 x2 σ = some ρ) : Met l yX12_each zs_X12_each (zr 6) (va_Pc [.ref (o + x0), .int x1, .int x2] (zG D c o g σ)) (zQi D c o g ρ) 0 0 (zA o) := by
  refine zMetG (by decide) (Nat.le_of_ble_eq_true rfl) ?_
  intro p e s m below meth cd ⟨hx, hb, hr, hml, hown, hts, hlocks⟩ hP hK hE ls hl
  have hS : va_S (zA o) s.heap s.heap [] := va_S.rf
  have hl : lv_has ls 5 [(0, .ref (o + x0)), (1, .int x1), (2, .int x2)] := hl
  rw [f_X12_each.eq_1] at h
  refine lv_aload_n (pc := 0) hx hb dX12_each_0 rfl (lv_at hl 0 rfl) ?_
  refine lv_iload_n (pc := 1) hx hb dX12_each_1 rfl (lv_at hl 1 rfl) ?_
  obtain ⟨_, hg, h⟩ := zl_some h
  obtain ⟨v1, σ2, hv, h⟩ := zb_some h
  refine xcallVi (pc := 2) (As := [.int x1]) (rest := []) ⟨hx, hb, hml, hown, hts⟩ (c_X12_isRegister l D c o g N hv) zc12 zV_X12_321 rfl zd_X12_isRegister ⟨Nat.le_of_ble_eq_true rfl, Nat.le_of_ble_eq_true rfl⟩ hK hP hE hS hg hl.1 rfl (Nat.le_of_ble_eq_true rfl) ⟨Nat.zero_le _, Nat.zero_le _⟩ dX12_each_2 (fun H locs hP hS => ?_)
  refine lv_if_eq (pc := 5) (tgt := 16) hx hb dX12_each_5 (by decide) (fun c1 => ?_) (fun c1 => ?_)
  · rw [if_pos c1] at h
    refine lv_bipush (pc := 16) (v := (-2)) hx hb dX12_each_16 (by decide) ?_
    exact xreti (pc := 18) hx hb hr hlocks hP hK hE hS h dX12_each_18
  · rw [if_neg c1] at h
    refine lv_aload_n (pc := 8) hx hb dX12_each_8 rfl (lv_at hl 0 rfl) ?_
    refine lv_iload_n (pc := 9) hx hb dX12_each_9 rfl (lv_at hl 2 rfl) ?_
    obtain ⟨_, hg, h⟩ := zl_some h
    obtain ⟨v3, σ4, hv, h⟩ := zb_some h
    refine xcallVi (pc := 10) (As := [.int x2]) (rest := []) ⟨hx, hb, hml, hown, hts⟩ (c_X12_isName l D c o g N hv) zc12 zV_X12_332 rfl zd_X12_isName ⟨Nat.le_of_ble_eq_true rfl, Nat.le_of_ble_eq_true rfl⟩ hK hP hE hS hg hl.1 rfl (Nat.le_of_ble_eq_true rfl) ⟨Nat.zero_le _, Nat.zero_le _⟩ dX12_each_10 (fun H locs hP hS => ?_)
    refine lv_if_ne (pc := 13) (tgt := 19) hx hb dX12_each_13 (by decide) (fun c1 => ?_) (fun c1 => ?_)
    · rw [if_neg c1] at h
      refine lv_iconst (pc := 19) (v := 0) hx hb dX12_each_19 (by decide) ?_
      refine lv_istore_n (pc := 20) (lv' := [(3, .int 0), (0, .ref (o + x0)), (1, .int x1), (2, .int x2)]) hx hb dX12_each_20 rfl hl (by decide) rfl (fun ls hl => ?_)
      refine lv_iconst (pc := 21) (v := 0) hx hb dX12_each_21 (by decide) ?_
      refine lv_istore (pc := 22) (lv' := [(4, .int 0), (3, .int 0), (0, .ref (o + x0)), (1, .int x1), (2, .int x2)]) hx hb dX12_each_22 hl (by decide) rfl (fun ls hl => ?_)
      have L24_5 : ∀ (n : Nat) (t : Int32 × Int32 × zS), zlp (F_X12_each_24 N x0 x1 x2) n t = some ρ → ∀ (H : Heap) (locs : List Loc) (ls : Array Slot), zP D c o (zabs o (t.2.2)) H → va_S (zA o) s.heap H locs → lv_has ls 5 [(3, .int (t.1)), (4, .int (t.2.1)), (0, .ref (o + x0)), (1, .int x1), (2, .int x2)] → W p l e (zr 6) s m (([.ref (o + x0), .int x1, .int x2] : List Value).toArray) below meth cd H locs 0 0 (MQ below (zQi D c o g ρ) (([.ref (o + x0), .int x1, .int x2] : List Value).toArray) s 0 0 (zA o)) (F0 m 24 ls []) := by
        refine zlp_ind (fun ag5 ih5 t h H locs ls hP hS hl => ?_)
        obtain ⟨x3_5, x4_5, σ5⟩ := t
        have hP : zP D c o (zabs o σ5) H := hP
        have hl : lv_has ls 5 [(3, .int x3_5), (4, .int x4_5), (0, .ref (o + x0)), (1, .int x1), (2, .int x2)] := hl
        rw [F_X12_each_24.eq_1] at h
        show W p l e (zr 6) s m (([.ref (o + x0), .int x1, .int x2] : List Value).toArray) below meth cd H locs 0 0 (MQ below (zQi D c o g ρ) (([.ref (o + x0), .int x1, .int x2] : List Value).toArray) s 0 0 (zA o)) (F0 m 24 ls [])
        refine lv_iload (pc := 24) hx hb dX12_each_24 (lv_at hl 1 rfl) ?_
        refine lv_aload_n (pc := 26) hx hb dX12_each_26 rfl (lv_at hl 2 rfl) ?_
        obtain ⟨_, hg, h⟩ := zl_some h
        obtain ⟨v6, σ7, hv, h⟩ := zb_some h
        refine xcallVi (pc := 27) (As := []) (rest := [.int x4_5]) ⟨hx, hb, hml, hown, hts⟩ (c_X12_many l D c o g N hv) zc12 zV_X12_104 rfl zd_X12_many ⟨Nat.le_of_ble_eq_true rfl, Nat.le_of_ble_eq_true rfl⟩ hK hP hE hS hg hl.1 rfl (Nat.le_of_ble_eq_true rfl) ⟨Nat.zero_le _, Nat.zero_le _⟩ dX12_each_27 (fun H locs hP hS => ?_)
        refine lv_icmp_ge (pc := 30) (tgt := 62) hx hb dX12_each_30 (by decide) (fun c1 => ?_) (fun c1 => ?_)
        · rw [if_pos c1] at h
          refine lv_iload_n (pc := 62) hx hb dX12_each_62 rfl (lv_at hl 0 rfl) ?_
          exact xreti (pc := 63) hx hb hr hlocks hP hK hE hS h dX12_each_63
        · rw [if_neg c1] at h
          refine lv_iload_n (pc := 33) hx hb dX12_each_33 rfl (lv_at hl 0 rfl) ?_
          refine lv_aload_n (pc := 34) hx hb dX12_each_34 rfl (lv_at hl 2 rfl) ?_
          refine lv_iload_n (pc := 35) hx hb dX12_each_35 rfl (lv_at hl 3 rfl) ?_
          refine lv_iload (pc := 36) hx hb dX12_each_36 (lv_at hl 1 rfl) ?_
          obtain ⟨_, hg, h⟩ := zl_some h
          obtain ⟨v8, σ9, hv, h⟩ := zb_some h
          refine xcallVi (pc := 38) (As := [.int x1, .int x4_5]) (rest := [.int x3_5]) ⟨hx, hb, hml, hown, hts⟩ (c_X12_of l D c o g N hv) zc12 zV_X12_314 rfl zd_X12_of ⟨Nat.le_of_ble_eq_true rfl, Nat.le_of_ble_eq_true rfl⟩ hK hP hE hS hg hl.1 rfl (Nat.le_of_ble_eq_true rfl) ⟨Nat.zero_le _, Nat.zero_le _⟩ dX12_each_38 (fun H locs hP hS => ?_)
          refine lv_if_eq (pc := 41) (tgt := 53) hx hb dX12_each_41 (by decide) (fun c1 => ?_) (fun c1 => ?_)
          · rw [if_pos c1] at h
            refine lv_iconst (pc := 53) (v := 0) hx hb dX12_each_53 (by decide) ?_
            refine lv_iadd (pc := 54) hx hb dX12_each_54 ?_
            refine lv_istore_n (pc := 55) (lv' := [(3, .int (x3_5 + 0)), (4, .int x4_5), (0, .ref (o + x0)), (1, .int x1), (2, .int x2)]) hx hb dX12_each_55 rfl hl (by decide) rfl (fun ls hl => ?_)
            refine lv_iinc (pc := 56) (v := x4_5 + 1) (lv' := [(4, .int (x4_5 + 1)), (3, .int (x3_5 + 0)), (0, .ref (o + x0)), (1, .int x1), (2, .int x2)]) hx hb dX12_each_56 hl (k := 1) rfl rfl (by decide) rfl (fun ls hl => ?_)
            refine lv_goto (pc := 59) (tgt := 24) hx hb dX12_each_59 (by decide) ?_
            exact ih5 (x3_5 + 0, x4_5 + 1, σ9) h _ _ ls hP hS (lv_sub hl [1, 0, 2, 3, 4] rfl)
          · rw [if_neg c1] at h
            refine lv_iload (pc := 44) hx hb dX12_each_44 (lv_at hl 1 rfl) ?_
            refine lv_iload_n (pc := 46) hx hb dX12_each_46 rfl (lv_at hl 4 rfl) ?_
            refine lv_ishr (pc := 47) hx hb dX12_each_47 ?_
            refine lv_iconst (pc := 48) (v := 1) hx hb dX12_each_48 (by decide) ?_
            refine lv_iand (pc := 49) hx hb dX12_each_49 ?_
            refine lv_goto (pc := 50) (tgt := 54) hx hb dX12_each_50 (by decide) ?_
            refine lv_iadd (pc := 54) hx hb dX12_each_54 ?_
            refine lv_istore_n (pc := 55) (lv' := [(3, .int (x3_5 + (((x4_5 : Int32) >>> (x2 &&& 31)) &&& 1))), (4, .int x4_5), (0, .ref (o + x0)), (1, .int x1), (2, .int x2)]) hx hb dX12_each_55 rfl hl (by decide) rfl (fun ls hl => ?_)
            refine lv_iinc (pc := 56) (v := x4_5 + 1) (lv' := [(4, .int (x4_5 + 1)), (3, .int (x3_5 + (((x4_5 : Int32) >>> (x2 &&& 31)) &&& 1))), (0, .ref (o + x0)), (1, .int x1), (2, .int x2)]) hx hb dX12_each_56 hl (k := 1) rfl rfl (by decide) rfl (fun ls hl => ?_)
            refine lv_goto (pc := 59) (tgt := 24) hx hb dX12_each_59 (by decide) ?_
            exact ih5 (x3_5 + (((x4_5 : Int32) >>> (x2 &&& 31)) &&& 1), x4_5 + 1, σ9) h _ _ ls hP hS (lv_sub hl [1, 0, 2, 3, 4] rfl)
      exact L24_5 N (0, 0, σ4) h _ _ ls hP hS (lv_sub hl [1, 0, 2, 3, 4] rfl)
    · rw [if_pos c1] at h
      refine lv_bipush (pc := 16) (v := (-2)) hx hb dX12_each_16 (by decide) ?_
      exact xreti (pc := 18) hx hb hr hlocks hP hK hE hS h dX12_each_18
def F_X12_names_96 (N : Nat) (x0 : Nat) (x1 : Int32) (x2 : Int32) (x3 : Int32) (x4 : Int32) (x6 : Int32) (again44 : (Int32 × Int32 × Int32 × Int32 × zS) → Option (Int32 × zS)) (again96 : (Int32 × Int32 × zS) → Option (Int32 × zS)) : Int32 × Int32 × zS → Option (Int32 × zS)
  | (x5, x7, σ) =>
  zl (gR 12 1 x0 σ) fun v15 =>
  zl (aI 14 v15 0 σ) fun v16 =>
  if v16 ≤ x7 then
    (again44 (x3, x4, x5, x6 + 1, σ))
  else
    (zl (gC 12 x0) fun _ => zb (f_X12_of N x0 x1 x6 σ) fun v17 σ18 =>
    zl (gC 12 x0) fun _ => zb (f_X12_of N x0 x1 (x6 ^^^ ((1 : Int32) <<< (x7 &&& 31))) σ18) fun v19 σ20 =>
    if v17 = v19 then
      (again96 (x5 &&& (-1), x7 + 1, σ20))
    else
      (again96 (x5 &&& (((1 : Int32) <<< (x7 &&& 31)) ^^^ (-1)), x7 + 1, σ20)))
def J_X12_names_90 (N : Nat) (again44 : (Int32 × Int32 × Int32 × Int32 × zS) → Option (Int32 × zS)) (x0 : Nat) (x1 : Int32) (x2 : Int32) (x3 : Int32) (x5 : Int32) (x6 : Int32) (y0 : Int32) (y1 : Int32) (σ : zS) : Option (Int32 × zS) :=
  zlp (F_X12_names_96 N x0 x1 x2 x3 (y1 ||| y0) x6 again44) N (x5, 0, σ)
def J_X12_names_70 (N : Nat) (again44 : (Int32 × Int32 × Int32 × Int32 × zS) → Option (Int32 × zS)) (x0 : Nat) (x1 : Int32) (x2 : Int32) (x4 : Int32) (x5 : Int32) (x6 : Int32) (y0 : Int32) (y1 : Int32) (σ : zS) : Option (Int32 × zS) :=
  zl (gC 12 x0) fun _ => zb (f_X12_of N x0 x1 x6 σ) fun v13 σ14 =>
  if v13 = 0 then
    (J_X12_names_90 N again44 x0 x1 x2 (y1 &&& y0) x5 x6 0 x4 σ14)
  else
    (J_X12_names_90 N again44 x0 x1 x2 (y1 &&& y0) x5 x6 x6 x4 σ14)
def F_X12_names_44 (N : Nat) (x0 : Nat) (x1 : Int32) (x2 : Int32) (again44 : (Int32 × Int32 × Int32 × Int32 × zS) → Option (Int32 × zS)) : Int32 × Int32 × Int32 × Int32 × zS → Option (Int32 × zS)
  | (x3, x4, x5, x6, σ) =>
  zl (gC 12 x0) fun _ => zb (f_X12_many N x0 σ) fun v9 σ10 =>
  if v9 ≤ x6 then
    (if x2 = 0 then
      (some (x3, σ10))
    else
      (if x2 = 1 then
        (some (x4, σ10))
      else
        (some (x5, σ10))))
  else
    (zl (gC 12 x0) fun _ => zb (f_X12_of N x0 x1 x6 σ10) fun v11 σ12 =>
    if v11 = 0 then
      (J_X12_names_70 N again44 x0 x1 x2 x4 x5 x6 (-1) x3 σ12)
    else
      (J_X12_names_70 N again44 x0 x1 x2 x4 x5 x6 x6 x3 σ12))
def f_X12_names (N : Nat) (x0 : Nat) (x1 : Int32) (x2 : Int32) (σ : zS) : Option (Int32 × zS) :=
  zl (gC 12 x0) fun _ => zb (f_X12_isRegister N x0 x1 σ) fun v1 σ2 =>
  if v1 = 0 then
    (some ((-2), σ2))
  else
    (zb (f_X12_in N (Int32.toInt64 x2) 0 2 σ2) fun v3 σ4 =>
    if v3 = 0 then
      (some ((-2), σ4))
    else
      (zl (gC 12 x0) fun _ => zb (f_X12_many N x0 σ4) fun v5 σ6 =>
      zl (gC 12 x0) fun _ => zb (f_X12_many N x0 σ6) fun v7 σ8 =>
      zlp (F_X12_names_44 N x0 x1 x2) N (v5 - 1, 0, v7 - 1, 0, σ8)))
set_option maxHeartbeats 4000000 in
set_option maxRecDepth 100000 in
theorem c_X12_names (l : Launch) (D : va_G) (c : zC) (o : Nat) (g : zEp) (N : Nat) {x0 : Nat} {x1 : Int32} {x2 : Int32} {σ : zS} {ρ : Int32 × zS} (h : f_X12_names N x0 x1 x2 σ = some ρ) : Met l yX12_names zs_X12_names (zr 6) (va_Pc [.ref (o + x0), .int x1, .int x2] (zG D c o g σ)) (zQi D c o g ρ) 0 0 (zA o) := by
  refine zMetG (by decide) (Nat.le_of_ble_eq_true rfl) ?_
  intro p e s m below meth cd ⟨hx, hb, hr, hml, hown, hts, hlocks⟩ hP hK hE ls hl
  have hS : va_S (zA o) s.heap s.heap [] := va_S.rf
  have hl : lv_has ls 8 [(0, .ref (o + x0)), (1, .int x1), (2, .int x2)] := hl
  rw [f_X12_names.eq_1] at h
  refine lv_aload_n (pc := 0) hx hb dX12_names_0 rfl (lv_at hl 0 rfl) ?_
  refine lv_iload_n (pc := 1) hx hb dX12_names_1 rfl (lv_at hl 1 rfl) ?_
  obtain ⟨_, hg, h⟩ := zl_some h
  obtain ⟨v1, σ2, hv, h⟩ := zb_some h
  refine xcallVi (pc := 2) (As := [.int x1]) (rest := []) ⟨hx, hb, hml, hown, hts⟩ (c_X12_isRegister l D c o g N hv) zc12 zV_X12_321 rfl zd_X12_isRegister ⟨Nat.le_of_ble_eq_true rfl, Nat.le_of_ble_eq_true rfl⟩ hK hP hE hS hg hl.1 rfl (Nat.le_of_ble_eq_true rfl) ⟨Nat.zero_le _, Nat.zero_le _⟩ dX12_names_2 (fun H locs hP hS => ?_)
  refine lv_if_eq (pc := 5) (tgt := 20) hx hb dX12_names_5 (by decide) (fun c1 => ?_) (fun c1 => ?_)
  · rw [if_pos c1] at h
    refine lv_bipush (pc := 20) (v := (-2)) hx hb dX12_names_20 (by decide) ?_
    exact xreti (pc := 22) hx hb hr hlocks hP hK hE hS h dX12_names_22
  · rw [if_neg c1] at h
    refine lv_iload_n (pc := 8) hx hb dX12_names_8 rfl (lv_at hl 2 rfl) ?_
    refine lv_i2l (pc := 9) hx hb dX12_names_9 rfl ?_
    refine lv_lconst (pc := 10) (v := 0) hx hb dX12_names_10 (by decide) ?_
    refine lv_ldc2 (pc := 11) hx hb hown (hts _ zk_X12_92) dX12_names_11 ?_
    obtain ⟨v3, σ4, hv, h⟩ := zb_some h
    refine xcallSi (pc := 14) (As := [.long (Int32.toInt64 x2), .long 0, .long 2]) (rest := []) ⟨hx, hb, hml, hown, hts⟩ (c_X12_in l D c o g N hv) zT_X12_94 rfl zd_X12_in ⟨Nat.le_of_ble_eq_true rfl, Nat.le_of_ble_eq_true rfl⟩ hK hP hE hS hl.1 rfl (Nat.le_of_ble_eq_true rfl) ⟨Nat.zero_le _, Nat.zero_le _⟩ dX12_names_14 (fun H locs hP hS => ?_)
    refine lv_if_ne (pc := 17) (tgt := 23) hx hb dX12_names_17 (by decide) (fun c1 => ?_) (fun c1 => ?_)
    · rw [if_neg c1] at h
      refine lv_aload_n (pc := 23) hx hb dX12_names_23 rfl (lv_at hl 0 rfl) ?_
      obtain ⟨_, hg, h⟩ := zl_some h
      obtain ⟨v5, σ6, hv, h⟩ := zb_some h
      refine xcallVi (pc := 24) (As := []) (rest := []) ⟨hx, hb, hml, hown, hts⟩ (c_X12_many l D c o g N hv) zc12 zV_X12_104 rfl zd_X12_many ⟨Nat.le_of_ble_eq_true rfl, Nat.le_of_ble_eq_true rfl⟩ hK hP hE hS hg hl.1 rfl (Nat.le_of_ble_eq_true rfl) ⟨Nat.zero_le _, Nat.zero_le _⟩ dX12_names_24 (fun H locs hP hS => ?_)
      refine lv_iconst (pc := 27) (v := 1) hx hb dX12_names_27 (by decide) ?_
      refine lv_isub (pc := 28) hx hb dX12_names_28 ?_
      refine lv_istore_n (pc := 29) (lv' := [(3, .int (v5 - 1)), (0, .ref (o + x0)), (1, .int x1), (2, .int x2)]) hx hb dX12_names_29 rfl hl (by decide) rfl (fun ls hl => ?_)
      refine lv_iconst (pc := 30) (v := 0) hx hb dX12_names_30 (by decide) ?_
      refine lv_istore (pc := 31) (lv' := [(4, .int 0), (3, .int (v5 - 1)), (0, .ref (o + x0)), (1, .int x1), (2, .int x2)]) hx hb dX12_names_31 hl (by decide) rfl (fun ls hl => ?_)
      refine lv_aload_n (pc := 33) hx hb dX12_names_33 rfl (lv_at hl 2 rfl) ?_
      obtain ⟨_, hg, h⟩ := zl_some h
      obtain ⟨v7, σ8, hv, h⟩ := zb_some h
      refine xcallVi (pc := 34) (As := []) (rest := []) ⟨hx, hb, hml, hown, hts⟩ (c_X12_many l D c o g N hv) zc12 zV_X12_104 rfl zd_X12_many ⟨Nat.le_of_ble_eq_true rfl, Nat.le_of_ble_eq_true rfl⟩ hK hP hE hS hg hl.1 rfl (Nat.le_of_ble_eq_true rfl) ⟨Nat.zero_le _, Nat.zero_le _⟩ dX12_names_34 (fun H locs hP hS => ?_)
      refine lv_iconst (pc := 37) (v := 1) hx hb dX12_names_37 (by decide) ?_
      refine lv_isub (pc := 38) hx hb dX12_names_38 ?_
      refine lv_istore (pc := 39) (lv' := [(5, .int (v7 - 1)), (4, .int 0), (3, .int (v5 - 1)), (0, .ref (o + x0)), (1, .int x1), (2, .int x2)]) hx hb dX12_names_39 hl (by decide) rfl (fun ls hl => ?_)
      refine lv_iconst (pc := 41) (v := 0) hx hb dX12_names_41 (by decide) ?_
      refine lv_istore (pc := 42) (lv' := [(6, .int 0), (5, .int (v7 - 1)), (4, .int 0), (3, .int (v5 - 1)), (0, .ref (o + x0)), (1, .int x1), (2, .int x2)]) hx hb dX12_names_42 hl (by decide) rfl (fun ls hl => ?_)
      have L44_9 : ∀ (n : Nat) (t : Int32 × Int32 × Int32 × Int32 × zS), zlp (F_X12_names_44 N x0 x1 x2) n t = some ρ → ∀ (H : Heap) (locs : List Loc) (ls : Array Slot), zP D c o (zabs o (t.2.2.2.2)) H → va_S (zA o) s.heap H locs → lv_has ls 8 [(3, .int (t.1)), (4, .int (t.2.1)), (5, .int (t.2.2.1)), (6, .int (t.2.2.2.1)), (0, .ref (o + x0)), (1, .int x1), (2, .int x2)] → W p l e (zr 6) s m (([.ref (o + x0), .int x1, .int x2] : List Value).toArray) below meth cd H locs 0 0 (MQ below (zQi D c o g ρ) (([.ref (o + x0), .int x1, .int x2] : List Value).toArray) s 0 0 (zA o)) (F0 m 44 ls []) := by
        refine zlp_ind (fun ag9 ih9 t h H locs ls hP hS hl => ?_)
        obtain ⟨x3_9, x4_9, x5_9, x6_9, σ9⟩ := t
        have hP : zP D c o (zabs o σ9) H := hP
        have hl : lv_has ls 8 [(3, .int x3_9), (4, .int x4_9), (5, .int x5_9), (6, .int x6_9), (0, .ref (o + x0)), (1, .int x1), (2, .int x2)] := hl
        rw [F_X12_names_44.eq_1] at h
        show W p l e (zr 6) s m (([.ref (o + x0), .int x1, .int x2] : List Value).toArray) below meth cd H locs 0 0 (MQ below (zQi D c o g ρ) (([.ref (o + x0), .int x1, .int x2] : List Value).toArray) s 0 0 (zA o)) (F0 m 44 ls [])
        refine lv_iload (pc := 44) hx hb dX12_names_44 (lv_at hl 3 rfl) ?_
        refine lv_aload_n (pc := 46) hx hb dX12_names_46 rfl (lv_at hl 4 rfl) ?_
        obtain ⟨_, hg, h⟩ := zl_some h
        obtain ⟨v10, σ11, hv, h⟩ := zb_some h
        refine xcallVi (pc := 47) (As := []) (rest := [.int x6_9]) ⟨hx, hb, hml, hown, hts⟩ (c_X12_many l D c o g N hv) zc12 zV_X12_104 rfl zd_X12_many ⟨Nat.le_of_ble_eq_true rfl, Nat.le_of_ble_eq_true rfl⟩ hK hP hE hS hg hl.1 rfl (Nat.le_of_ble_eq_true rfl) ⟨Nat.zero_le _, Nat.zero_le _⟩ dX12_names_47 (fun H locs hP hS => ?_)
        refine lv_icmp_ge (pc := 50) (tgt := 156) hx hb dX12_names_50 (by decide) (fun c1 => ?_) (fun c1 => ?_)
        · rw [if_pos c1] at h
          refine lv_iload_n (pc := 156) hx hb dX12_names_156 rfl (lv_at hl 6 rfl) ?_
          refine lv_if_ne (pc := 157) (tgt := 164) hx hb dX12_names_157 (by decide) (fun c1 => ?_) (fun c1 => ?_)
          · rw [if_neg c1] at h
            refine lv_iload_n (pc := 164) hx hb dX12_names_164 rfl (lv_at hl 6 rfl) ?_
            refine lv_iconst (pc := 165) (v := 1) hx hb dX12_names_165 (by decide) ?_
            refine lv_icmp_ne (pc := 166) (tgt := 174) hx hb dX12_names_166 (by decide) (fun c1 => ?_) (fun c1 => ?_)
            · rw [if_neg c1] at h
              refine lv_iload (pc := 174) hx hb dX12_names_174 (lv_at hl 2 rfl) ?_
              exact xreti (pc := 176) hx hb hr hlocks hP hK hE hS h dX12_names_176
            · rw [if_pos c1] at h
              refine lv_iload (pc := 169) hx hb dX12_names_169 (lv_at hl 1 rfl) ?_
              refine lv_goto (pc := 171) (tgt := 176) hx hb dX12_names_171 (by decide) ?_
              exact xreti (pc := 176) hx hb hr hlocks hP hK hE hS h dX12_names_176
          · rw [if_pos c1] at h
            refine lv_iload_n (pc := 160) hx hb dX12_names_160 rfl (lv_at hl 0 rfl) ?_
            refine lv_goto (pc := 161) (tgt := 176) hx hb dX12_names_161 (by decide) ?_
            exact xreti (pc := 176) hx hb hr hlocks hP hK hE hS h dX12_names_176
        · rw [if_neg c1] at h
          refine lv_iload_n (pc := 53) hx hb dX12_names_53 rfl (lv_at hl 0 rfl) ?_
          refine lv_aload_n (pc := 54) hx hb dX12_names_54 rfl (lv_at hl 4 rfl) ?_
          refine lv_iload_n (pc := 55) hx hb dX12_names_55 rfl (lv_at hl 5 rfl) ?_
          refine lv_iload (pc := 56) hx hb dX12_names_56 (lv_at hl 3 rfl) ?_
          obtain ⟨_, hg, h⟩ := zl_some h
          obtain ⟨v12, σ13, hv, h⟩ := zb_some h
          refine xcallVi (pc := 58) (As := [.int x1, .int x6_9]) (rest := [.int x3_9]) ⟨hx, hb, hml, hown, hts⟩ (c_X12_of l D c o g N hv) zc12 zV_X12_314 rfl zd_X12_of ⟨Nat.le_of_ble_eq_true rfl, Nat.le_of_ble_eq_true rfl⟩ hK hP hE hS hg hl.1 rfl (Nat.le_of_ble_eq_true rfl) ⟨Nat.zero_le _, Nat.zero_le _⟩ dX12_names_58 (fun H locs hP hS => ?_)
          have hj70_14 : ∀ (y0_14 : Int32) (y1_14 : Int32) (σ14 : zS), J_X12_names_70 N ag9 x0 x1 x2 x4_9 x5_9 x6_9 y0_14 y1_14 σ14 = some ρ → ∀ (H : Heap) (locs : List Loc) (ls : Array Slot), zP D c o (zabs o σ14) H → va_S (zA o) s.heap H locs → lv_has ls 8 [(0, .ref (o + x0)), (1, .int x1), (2, .int x2), (4, .int x4_9), (5, .int x5_9), (6, .int x6_9)] → W p l e (zr 6) s m (([.ref (o + x0), .int x1, .int x2] : List Value).toArray) below meth cd H locs 0 0 (MQ below (zQi D c o g ρ) (([.ref (o + x0), .int x1, .int x2] : List Value).toArray) s 0 0 (zA o)) (F0 m 70 ls [.int y0_14, .int y1_14]) := by
            intro y0_14 y1_14 σ14 h H locs ls hP hS hl
            rw [J_X12_names_70.eq_1] at h
            refine lv_iand (pc := 70) hx hb dX12_names_70 ?_
            refine lv_istore_n (pc := 71) (lv' := [(3, .int (y1_14 &&& y0_14)), (0, .ref (o + x0)), (1, .int x1), (2, .int x2), (4, .int x4_9), (5, .int x5_9), (6, .int x6_9)]) hx hb dX12_names_71 rfl hl (by decide) rfl (fun ls hl => ?_)
            refine lv_iload (pc := 72) hx hb dX12_names_72 (lv_at hl 4 rfl) ?_
            refine lv_aload_n (pc := 74) hx hb dX12_names_74 rfl (lv_at hl 1 rfl) ?_
            refine lv_iload_n (pc := 75) hx hb dX12_names_75 rfl (lv_at hl 2 rfl) ?_
            refine lv_iload (pc := 76) hx hb dX12_names_76 (lv_at hl 6 rfl) ?_
            obtain ⟨_, hg, h⟩ := zl_some h
            obtain ⟨v15, σ16, hv, h⟩ := zb_some h
            refine xcallVi (pc := 78) (As := [.int x1, .int x6_9]) (rest := [.int x4_9]) ⟨hx, hb, hml, hown, hts⟩ (c_X12_of l D c o g N hv) zc12 zV_X12_314 rfl zd_X12_of ⟨Nat.le_of_ble_eq_true rfl, Nat.le_of_ble_eq_true rfl⟩ hK hP hE hS hg hl.1 rfl (Nat.le_of_ble_eq_true rfl) ⟨Nat.zero_le _, Nat.zero_le _⟩ dX12_names_78 (fun H locs hP hS => ?_)
            have hj90_17 : ∀ (y0_17 : Int32) (y1_17 : Int32) (σ17 : zS), J_X12_names_90 N ag9 x0 x1 x2 (y1_14 &&& y0_14) x5_9 x6_9 y0_17 y1_17 σ17 = some ρ → ∀ (H : Heap) (locs : List Loc) (ls : Array Slot), zP D c o (zabs o σ17) H → va_S (zA o) s.heap H locs → lv_has ls 8 [(0, .ref (o + x0)), (1, .int x1), (2, .int x2), (3, .int (y1_14 &&& y0_14)), (5, .int x5_9), (6, .int x6_9)] → W p l e (zr 6) s m (([.ref (o + x0), .int x1, .int x2] : List Value).toArray) below meth cd H locs 0 0 (MQ below (zQi D c o g ρ) (([.ref (o + x0), .int x1, .int x2] : List Value).toArray) s 0 0 (zA o)) (F0 m 90 ls [.int y0_17, .int y1_17]) := by
              intro y0_17 y1_17 σ17 h H locs ls hP hS hl
              rw [J_X12_names_90.eq_1] at h
              refine lv_ior (pc := 90) hx hb dX12_names_90 ?_
              refine lv_istore (pc := 91) (lv' := [(4, .int (y1_17 ||| y0_17)), (0, .ref (o + x0)), (1, .int x1), (2, .int x2), (3, .int (y1_14 &&& y0_14)), (5, .int x5_9), (6, .int x6_9)]) hx hb dX12_names_91 hl (by decide) rfl (fun ls hl => ?_)
              refine lv_iconst (pc := 93) (v := 0) hx hb dX12_names_93 (by decide) ?_
              refine lv_istore (pc := 94) (lv' := [(7, .int 0), (4, .int (y1_17 ||| y0_17)), (0, .ref (o + x0)), (1, .int x1), (2, .int x2), (3, .int (y1_14 &&& y0_14)), (5, .int x5_9), (6, .int x6_9)]) hx hb dX12_names_94 hl (by decide) rfl (fun ls hl => ?_)
              have L96_18 : ∀ (n : Nat) (t : Int32 × Int32 × zS), zlp (F_X12_names_96 N x0 x1 x2 (y1_14 &&& y0_14) (y1_17 ||| y0_17) x6_9 ag9) n t = some ρ → ∀ (H : Heap) (locs : List Loc) (ls : Array Slot), zP D c o (zabs o (t.2.2)) H → va_S (zA o) s.heap H locs → lv_has ls 8 [(5, .int (t.1)), (7, .int (t.2.1)), (0, .ref (o + x0)), (1, .int x1), (2, .int x2), (3, .int (y1_14 &&& y0_14)), (4, .int (y1_17 ||| y0_17)), (6, .int x6_9)] → W p l e (zr 6) s m (([.ref (o + x0), .int x1, .int x2] : List Value).toArray) below meth cd H locs 0 0 (MQ below (zQi D c o g ρ) (([.ref (o + x0), .int x1, .int x2] : List Value).toArray) s 0 0 (zA o)) (F0 m 96 ls []) := by
                refine zlp_ind (fun ag18 ih18 t h H locs ls hP hS hl => ?_)
                obtain ⟨x5_18, x7_18, σ18⟩ := t
                have hP : zP D c o (zabs o σ18) H := hP
                have hl : lv_has ls 8 [(5, .int x5_18), (7, .int x7_18), (0, .ref (o + x0)), (1, .int x1), (2, .int x2), (3, .int (y1_14 &&& y0_14)), (4, .int (y1_17 ||| y0_17)), (6, .int x6_9)] := hl
                rw [F_X12_names_96.eq_1] at h
                show W p l e (zr 6) s m (([.ref (o + x0), .int x1, .int x2] : List Value).toArray) below meth cd H locs 0 0 (MQ below (zQi D c o g ρ) (([.ref (o + x0), .int x1, .int x2] : List Value).toArray) s 0 0 (zA o)) (F0 m 96 ls [])
                refine lv_iload (pc := 96) hx hb dX12_names_96 (lv_at hl 1 rfl) ?_
                refine lv_aload_n (pc := 98) hx hb dX12_names_98 rfl (lv_at hl 2 rfl) ?_
                obtain ⟨v19, hv, h⟩ := zl_some h
                refine xgR (pc := 99) (j := 1) zc12 hx hb hts hown hK hP hv rfl zf_X12_9 dX12_names_99 ?_
                refine lv_iconst (pc := 102) (v := 0) hx hb dX12_names_102 (by decide) ?_
                obtain ⟨v20, hv, h⟩ := zl_some h
                refine xaI (pc := 103) hx hb hK hP hv dX12_names_103 ?_
                refine lv_icmp_ge (pc := 104) (tgt := 150) hx hb dX12_names_104 (by decide) (fun c1 => ?_) (fun c1 => ?_)
                · rw [if_pos c1] at h
                  refine lv_iinc (pc := 150) (v := x6_9 + 1) (lv' := [(6, .int (x6_9 + 1)), (5, .int x5_18), (7, .int x7_18), (0, .ref (o + x0)), (1, .int x1), (2, .int x2), (3, .int (y1_14 &&& y0_14)), (4, .int (y1_17 ||| y0_17))]) hx hb dX12_names_150 hl (k := 7) rfl rfl (by decide) rfl (fun ls hl => ?_)
                  refine lv_goto (pc := 153) (tgt := 44) hx hb dX12_names_153 (by decide) ?_
                  exact ih9 (y1_14 &&& y0_14, y1_17 ||| y0_17, x5_18, x6_9 + 1, σ18) h _ _ ls hP hS (lv_sub hl [6, 7, 1, 0, 3, 4, 5] rfl)
                · rw [if_neg c1] at h
                  refine lv_iload (pc := 107) hx hb dX12_names_107 (lv_at hl 0 rfl) ?_
                  refine lv_aload_n (pc := 109) hx hb dX12_names_109 rfl (lv_at hl 2 rfl) ?_
                  refine lv_iload_n (pc := 110) hx hb dX12_names_110 rfl (lv_at hl 3 rfl) ?_
                  refine lv_iload (pc := 111) hx hb dX12_names_111 (lv_at hl 7 rfl) ?_
                  obtain ⟨_, hg, h⟩ := zl_some h
                  obtain ⟨v21, σ22, hv, h⟩ := zb_some h
                  refine xcallVi (pc := 113) (As := [.int x1, .int x6_9]) (rest := [.int x5_18]) ⟨hx, hb, hml, hown, hts⟩ (c_X12_of l D c o g N hv) zc12 zV_X12_314 rfl zd_X12_of ⟨Nat.le_of_ble_eq_true rfl, Nat.le_of_ble_eq_true rfl⟩ hK hP hE hS hg hl.1 rfl (Nat.le_of_ble_eq_true rfl) ⟨Nat.zero_le _, Nat.zero_le _⟩ dX12_names_113 (fun H locs hP hS => ?_)
                  refine lv_aload_n (pc := 116) hx hb dX12_names_116 rfl (lv_at hl 2 rfl) ?_
                  refine lv_iload_n (pc := 117) hx hb dX12_names_117 rfl (lv_at hl 3 rfl) ?_
                  refine lv_iload (pc := 118) hx hb dX12_names_118 (lv_at hl 7 rfl) ?_
                  refine lv_iconst (pc := 120) (v := 1) hx hb dX12_names_120 (by decide) ?_
                  refine lv_iload (pc := 121) hx hb dX12_names_121 (lv_at hl 1 rfl) ?_
                  refine lv_ishl (pc := 123) hx hb dX12_names_123 ?_
                  refine lv_ixor (pc := 124) hx hb dX12_names_124 ?_
                  obtain ⟨_, hg, h⟩ := zl_some h
                  obtain ⟨v23, σ24, hv, h⟩ := zb_some h
                  refine xcallVi (pc := 125) (As := [.int x1, .int (x6_9 ^^^ ((1 : Int32) <<< (x7_18 &&& 31)))]) (rest := [.int v21, .int x5_18]) ⟨hx, hb, hml, hown, hts⟩ (c_X12_of l D c o g N hv) zc12 zV_X12_314 rfl zd_X12_of ⟨Nat.le_of_ble_eq_true rfl, Nat.le_of_ble_eq_true rfl⟩ hK hP hE hS hg hl.1 rfl (Nat.le_of_ble_eq_true rfl) ⟨Nat.zero_le _, Nat.zero_le _⟩ dX12_names_125 (fun H locs hP hS => ?_)
                  refine lv_icmp_ne (pc := 128) (tgt := 135) hx hb dX12_names_128 (by decide) (fun c1 => ?_) (fun c1 => ?_)
                  · rw [if_neg c1] at h
                    refine lv_iconst (pc := 135) (v := 1) hx hb dX12_names_135 (by decide) ?_
                    refine lv_iload (pc := 136) hx hb dX12_names_136 (lv_at hl 1 rfl) ?_
                    refine lv_ishl (pc := 138) hx hb dX12_names_138 ?_
                    refine lv_iconst (pc := 139) (v := (-1)) hx hb dX12_names_139 (by decide) ?_
                    refine lv_ixor (pc := 140) hx hb dX12_names_140 ?_
                    refine lv_iand (pc := 141) hx hb dX12_names_141 ?_
                    refine lv_istore (pc := 142) (lv' := [(5, .int (x5_18 &&& (((1 : Int32) <<< (x7_18 &&& 31)) ^^^ (-1)))), (7, .int x7_18), (0, .ref (o + x0)), (1, .int x1), (2, .int x2), (3, .int (y1_14 &&& y0_14)), (4, .int (y1_17 ||| y0_17)), (6, .int x6_9)]) hx hb dX12_names_142 hl (by decide) rfl (fun ls hl => ?_)
                    refine lv_iinc (pc := 144) (v := x7_18 + 1) (lv' := [(7, .int (x7_18 + 1)), (5, .int (x5_18 &&& (((1 : Int32) <<< (x7_18 &&& 31)) ^^^ (-1)))), (0, .ref (o + x0)), (1, .int x1), (2, .int x2), (3, .int (y1_14 &&& y0_14)), (4, .int (y1_17 ||| y0_17)), (6, .int x6_9)]) hx hb dX12_names_144 hl (k := 1) rfl rfl (by decide) rfl (fun ls hl => ?_)
                    refine lv_goto (pc := 147) (tgt := 96) hx hb dX12_names_147 (by decide) ?_
                    exact ih18 (x5_18 &&& (((1 : Int32) <<< (x7_18 &&& 31)) ^^^ (-1)), x7_18 + 1, σ24) h _ _ ls hP hS (lv_sub hl [1, 0, 2, 3, 4, 5, 6, 7] rfl)
                  · rw [if_pos c1] at h
                    refine lv_iconst (pc := 131) (v := (-1)) hx hb dX12_names_131 (by decide) ?_
                    refine lv_goto (pc := 132) (tgt := 141) hx hb dX12_names_132 (by decide) ?_
                    refine lv_iand (pc := 141) hx hb dX12_names_141 ?_
                    refine lv_istore (pc := 142) (lv' := [(5, .int (x5_18 &&& (-1))), (7, .int x7_18), (0, .ref (o + x0)), (1, .int x1), (2, .int x2), (3, .int (y1_14 &&& y0_14)), (4, .int (y1_17 ||| y0_17)), (6, .int x6_9)]) hx hb dX12_names_142 hl (by decide) rfl (fun ls hl => ?_)
                    refine lv_iinc (pc := 144) (v := x7_18 + 1) (lv' := [(7, .int (x7_18 + 1)), (5, .int (x5_18 &&& (-1))), (0, .ref (o + x0)), (1, .int x1), (2, .int x2), (3, .int (y1_14 &&& y0_14)), (4, .int (y1_17 ||| y0_17)), (6, .int x6_9)]) hx hb dX12_names_144 hl (k := 1) rfl rfl (by decide) rfl (fun ls hl => ?_)
                    refine lv_goto (pc := 147) (tgt := 96) hx hb dX12_names_147 (by decide) ?_
                    exact ih18 (x5_18 &&& (-1), x7_18 + 1, σ24) h _ _ ls hP hS (lv_sub hl [1, 0, 2, 3, 4, 5, 6, 7] rfl)
              exact L96_18 N (x5_9, 0, σ17) h _ _ ls hP hS (lv_sub hl [6, 0, 2, 3, 4, 5, 1, 7] rfl)
            refine lv_if_eq (pc := 81) (tgt := 89) hx hb dX12_names_81 (by decide) (fun c1 => ?_) (fun c1 => ?_)
            · rw [if_pos c1] at h
              refine lv_iconst (pc := 89) (v := 0) hx hb dX12_names_89 (by decide) ?_
              exact hj90_17 (0) (x4_9) σ16 h _ _ ls hP hS (lv_sub hl [1, 2, 3, 0, 5, 6] rfl)
            · rw [if_neg c1] at h
              refine lv_iload (pc := 84) hx hb dX12_names_84 (lv_at hl 6 rfl) ?_
              refine lv_goto (pc := 86) (tgt := 90) hx hb dX12_names_86 (by decide) ?_
              exact hj90_17 (x6_9) (x4_9) σ16 h _ _ ls hP hS (lv_sub hl [1, 2, 3, 0, 5, 6] rfl)
          refine lv_if_eq (pc := 61) (tgt := 69) hx hb dX12_names_61 (by decide) (fun c1 => ?_) (fun c1 => ?_)
          · rw [if_pos c1] at h
            refine lv_iconst (pc := 69) (v := (-1)) hx hb dX12_names_69 (by decide) ?_
            exact hj70_14 ((-1)) (x3_9) σ13 h _ _ ls hP hS (lv_sub hl [4, 5, 6, 1, 2, 3] rfl)
          · rw [if_neg c1] at h
            refine lv_iload (pc := 64) hx hb dX12_names_64 (lv_at hl 3 rfl) ?_
            refine lv_goto (pc := 66) (tgt := 70) hx hb dX12_names_66 (by decide) ?_
            exact hj70_14 (x6_9) (x3_9) σ13 h _ _ ls hP hS (lv_sub hl [4, 5, 6, 1, 2, 3] rfl)
      exact L44_9 N (v5 - 1, 0, v7 - 1, 0, σ8) h _ _ ls hP hS (lv_sub hl [3, 2, 1, 0, 4, 5, 6] rfl)
    · rw [if_pos c1] at h
      refine lv_bipush (pc := 20) (v := (-2)) hx hb dX12_names_20 (by decide) ?_
      exact xreti (pc := 22) hx hb hr hlocks hP hK hE hS h dX12_names_22
def f_X12_draw (N : Nat) (x0 : Nat) (x1 : Int32) (x2 : Int32) (σ : zS) : Option (Int32 × zS) :=
  zl (gC 12 x0) fun _ => zb (f_X12_isRegister N x0 x1 σ) fun v1 σ2 =>
  if v1 = 0 then
    (some ((-2), σ2))
  else
    (zb (f_X12_in N (Int32.toInt64 x2) 0 2000000000 σ2) fun v3 σ4 =>
    if v3 = 0 then
      (some ((-2), σ4))
    else
      (zl (gC 12 x0) fun _ => zb (f_X12_sizeOf N x0 x1 σ4) fun v5 σ6 =>
      zl (nzJ 2147483648) fun _ =>
      if v5 = 0 then
        (some ((-1), σ6))
      else
        (zl (nzJ 65536) fun _ =>
        zl (nzJ (Int32.toInt64 v5)) fun _ =>
        zl (gC 12 x0) fun _ => zb (f_X12_nthOf N x0 x1 (Int64.toInt32 (((((1103515245 * (Int32.toInt64 x2)) + 12345) - ((1103515245 * (Int32.toInt64 x2)) + 12345) / 2147483648 * 2147483648) / 65536) - ((((1103515245 * (Int32.toInt64 x2)) + 12345) - ((1103515245 * (Int32.toInt64 x2)) + 12345) / 2147483648 * 2147483648) / 65536) / (Int32.toInt64 v5) * (Int32.toInt64 v5))) σ6) fun v7 σ8 =>
        some (v7, σ8))))
set_option maxHeartbeats 4000000 in
set_option maxRecDepth 100000 in
theorem c_X12_draw (l : Launch) (D : va_G) (c : zC) (o : Nat) (g : zEp) (N : Nat) {x0 : Nat} {x1 : Int32} {x2 : Int32} {σ : zS} {ρ : Int32 × zS} (h : f_X12_draw N x0 x1 x2 σ = some ρ) : Met l yX12_draw zs_X12_draw (zr 8) (va_Pc [.ref (o + x0), .int x1, .int x2] (zG D c o g σ)) (zQi D c o g ρ) 0 0 (zA o) := by
  refine zMetG (by decide) (Nat.le_of_ble_eq_true rfl) ?_
  intro p e s m below meth cd ⟨hx, hb, hr, hml, hown, hts, hlocks⟩ hP hK hE ls hl
  have hS : va_S (zA o) s.heap s.heap [] := va_S.rf
  have hl : lv_has ls 6 [(0, .ref (o + x0)), (1, .int x1), (2, .int x2)] := hl
  rw [f_X12_draw.eq_1] at h
  refine lv_aload_n (pc := 0) hx hb dX12_draw_0 rfl (lv_at hl 0 rfl) ?_
  refine lv_iload_n (pc := 1) hx hb dX12_draw_1 rfl (lv_at hl 1 rfl) ?_
  obtain ⟨_, hg, h⟩ := zl_some h
  obtain ⟨v1, σ2, hv, h⟩ := zb_some h
  refine xcallVi (pc := 2) (As := [.int x1]) (rest := []) ⟨hx, hb, hml, hown, hts⟩ (c_X12_isRegister l D c o g N hv) zc12 zV_X12_321 rfl zd_X12_isRegister ⟨Nat.le_of_ble_eq_true rfl, Nat.le_of_ble_eq_true rfl⟩ hK hP hE hS hg hl.1 rfl (Nat.le_of_ble_eq_true rfl) ⟨Nat.zero_le _, Nat.zero_le _⟩ dX12_draw_2 (fun H locs hP hS => ?_)
  refine lv_if_eq (pc := 5) (tgt := 20) hx hb dX12_draw_5 (by decide) (fun c1 => ?_) (fun c1 => ?_)
  · rw [if_pos c1] at h
    refine lv_bipush (pc := 20) (v := (-2)) hx hb dX12_draw_20 (by decide) ?_
    exact xreti (pc := 22) hx hb hr hlocks hP hK hE hS h dX12_draw_22
  · rw [if_neg c1] at h
    refine lv_iload_n (pc := 8) hx hb dX12_draw_8 rfl (lv_at hl 2 rfl) ?_
    refine lv_i2l (pc := 9) hx hb dX12_draw_9 rfl ?_
    refine lv_lconst (pc := 10) (v := 0) hx hb dX12_draw_10 (by decide) ?_
    refine lv_ldc2 (pc := 11) hx hb hown (hts _ zk_X12_350) dX12_draw_11 ?_
    obtain ⟨v3, σ4, hv, h⟩ := zb_some h
    refine xcallSi (pc := 14) (As := [.long (Int32.toInt64 x2), .long 0, .long 2000000000]) (rest := []) ⟨hx, hb, hml, hown, hts⟩ (c_X12_in l D c o g N hv) zT_X12_94 rfl zd_X12_in ⟨Nat.le_of_ble_eq_true rfl, Nat.le_of_ble_eq_true rfl⟩ hK hP hE hS hl.1 rfl (Nat.le_of_ble_eq_true rfl) ⟨Nat.zero_le _, Nat.zero_le _⟩ dX12_draw_14 (fun H locs hP hS => ?_)
    refine lv_if_ne (pc := 17) (tgt := 23) hx hb dX12_draw_17 (by decide) (fun c1 => ?_) (fun c1 => ?_)
    · rw [if_neg c1] at h
      refine lv_aload_n (pc := 23) hx hb dX12_draw_23 rfl (lv_at hl 0 rfl) ?_
      refine lv_iload_n (pc := 24) hx hb dX12_draw_24 rfl (lv_at hl 1 rfl) ?_
      obtain ⟨_, hg, h⟩ := zl_some h
      obtain ⟨v5, σ6, hv, h⟩ := zb_some h
      refine xcallVi (pc := 25) (As := [.int x1]) (rest := []) ⟨hx, hb, hml, hown, hts⟩ (c_X12_sizeOf l D c o g N hv) zc12 zV_X12_318 rfl zd_X12_sizeOf ⟨Nat.le_of_ble_eq_true rfl, Nat.le_of_ble_eq_true rfl⟩ hK hP hE hS hg hl.1 rfl (Nat.le_of_ble_eq_true rfl) ⟨Nat.zero_le _, Nat.zero_le _⟩ dX12_draw_25 (fun H locs hP hS => ?_)
      refine lv_istore_n (pc := 28) (lv' := [(3, .int v5), (0, .ref (o + x0)), (1, .int x1), (2, .int x2)]) hx hb dX12_draw_28 rfl hl (by decide) rfl (fun ls hl => ?_)
      refine lv_ldc2 (pc := 29) hx hb hown (hts _ zk_X12_352) dX12_draw_29 ?_
      refine lv_iload_n (pc := 32) hx hb dX12_draw_32 rfl (lv_at hl 3 rfl) ?_
      refine lv_i2l (pc := 33) hx hb dX12_draw_33 rfl ?_
      refine lv_lmul (pc := 34) hx hb dX12_draw_34 ?_
      refine lv_ldc2 (pc := 35) hx hb hown (hts _ zk_X12_354) dX12_draw_35 ?_
      refine lv_ladd (pc := 38) hx hb dX12_draw_38 ?_
      refine lv_ldc2 (pc := 39) hx hb hown (hts _ zk_X12_356) dX12_draw_39 ?_
      obtain ⟨_, hv, h⟩ := zl_some h
      refine lv_lrem (pc := 42) hx hb dX12_draw_42 (xnzJ hv) ?_
      refine lv_lstore (pc := 43) (lv' := [(4, .long (((1103515245 * (Int32.toInt64 x2)) + 12345) - ((1103515245 * (Int32.toInt64 x2)) + 12345) / 2147483648 * 2147483648)), (3, .int v5), (0, .ref (o + x0)), (1, .int x1), (2, .int x2)]) hx hb dX12_draw_43 hl (by decide) rfl (fun ls hl => ?_)
      refine lv_iload_n (pc := 45) hx hb dX12_draw_45 rfl (lv_at hl 1 rfl) ?_
      refine lv_if_ne (pc := 46) (tgt := 53) hx hb dX12_draw_46 (by decide) (fun c1 => ?_) (fun c1 => ?_)
      · rw [if_neg c1] at h
        refine lv_aload_n (pc := 53) hx hb dX12_draw_53 rfl (lv_at hl 2 rfl) ?_
        refine lv_iload_n (pc := 54) hx hb dX12_draw_54 rfl (lv_at hl 3 rfl) ?_
        refine lv_lload (pc := 55) hx hb dX12_draw_55 (lv_at hl 0 rfl) ?_
        refine lv_ldc2 (pc := 57) hx hb hown (hts _ zk_X12_358) dX12_draw_57 ?_
        obtain ⟨_, hv, h⟩ := zl_some h
        refine lv_ldiv (pc := 60) hx hb dX12_draw_60 (xnzJ hv) ?_
        refine lv_iload_n (pc := 61) hx hb dX12_draw_61 rfl (lv_at hl 1 rfl) ?_
        refine lv_i2l (pc := 62) hx hb dX12_draw_62 rfl ?_
        obtain ⟨_, hv, h⟩ := zl_some h
        refine lv_lrem (pc := 63) hx hb dX12_draw_63 (xnzJ hv) ?_
        refine lv_l2i (pc := 64) hx hb dX12_draw_64 rfl ?_
        obtain ⟨_, hg, h⟩ := zl_some h
        obtain ⟨v7, σ8, hv, h⟩ := zb_some h
        refine xcallVi (pc := 65) (As := [.int x1, .int (Int64.toInt32 (((((1103515245 * (Int32.toInt64 x2)) + 12345) - ((1103515245 * (Int32.toInt64 x2)) + 12345) / 2147483648 * 2147483648) / 65536) - ((((1103515245 * (Int32.toInt64 x2)) + 12345) - ((1103515245 * (Int32.toInt64 x2)) + 12345) / 2147483648 * 2147483648) / 65536) / (Int32.toInt64 v5) * (Int32.toInt64 v5)))]) (rest := []) ⟨hx, hb, hml, hown, hts⟩ (c_X12_nthOf l D c o g N hv) zc12 zV_X12_340 rfl zd_X12_nthOf ⟨Nat.le_of_ble_eq_true rfl, Nat.le_of_ble_eq_true rfl⟩ hK hP hE hS hg hl.1 rfl (Nat.le_of_ble_eq_true rfl) ⟨Nat.zero_le _, Nat.zero_le _⟩ dX12_draw_65 (fun H locs hP hS => ?_)
        exact xreti (pc := 68) hx hb hr hlocks hP hK hE hS h dX12_draw_68
      · rw [if_pos c1] at h
        refine lv_iconst (pc := 49) (v := (-1)) hx hb dX12_draw_49 (by decide) ?_
        refine lv_goto (pc := 50) (tgt := 68) hx hb dX12_draw_50 (by decide) ?_
        exact xreti (pc := 68) hx hb hr hlocks hP hK hE hS h dX12_draw_68
    · rw [if_pos c1] at h
      refine lv_bipush (pc := 20) (v := (-2)) hx hb dX12_draw_20 (by decide) ?_
      exact xreti (pc := 22) hx hb hr hlocks hP hK hE hS h dX12_draw_22
def f_X12_areRegisters (N : Nat) (x0 : Nat) (x1 : Int32) (x2 : Int32) (σ : zS) : Option (Int32 × zS) :=
  zl (gC 12 x0) fun _ => zb (f_X12_isRegister N x0 x1 σ) fun v1 σ2 =>
  if v1 = 0 then
    (rZ 0 σ2)
  else
    (zl (gC 12 x0) fun _ => zb (f_X12_isRegister N x0 x2 σ2) fun v3 σ4 =>
    if v3 = 0 then
      (rZ 0 σ4)
    else
      (rZ 1 σ4))
set_option maxHeartbeats 4000000 in
set_option maxRecDepth 100000 in
theorem c_X12_areRegisters (l : Launch) (D : va_G) (c : zC) (o : Nat) (g : zEp) (N : Nat) {x0 : Nat} {x1 : Int32} {x2 : Int32} {σ : zS} {ρ : Int32 × zS} (h : f_X12_areRegisters N x0 x1 x2 σ = some ρ) : Met l yX12_areRegisters zs_X12_areRegisters (zr 6) (va_Pc [.ref (o + x0), .int x1, .int x2] (zG D c o g σ)) (zQi D c o g ρ) 0 0 (zA o) := by
  refine zMetG (by decide) (Nat.le_of_ble_eq_true rfl) ?_
  intro p e s m below meth cd ⟨hx, hb, hr, hml, hown, hts, hlocks⟩ hP hK hE ls hl
  have hS : va_S (zA o) s.heap s.heap [] := va_S.rf
  have hl : lv_has ls 3 [(0, .ref (o + x0)), (1, .int x1), (2, .int x2)] := hl
  rw [f_X12_areRegisters.eq_1] at h
  refine lv_aload_n (pc := 0) hx hb dX12_areRegisters_0 rfl (lv_at hl 0 rfl) ?_
  refine lv_iload_n (pc := 1) hx hb dX12_areRegisters_1 rfl (lv_at hl 1 rfl) ?_
  obtain ⟨_, hg, h⟩ := zl_some h
  obtain ⟨v1, σ2, hv, h⟩ := zb_some h
  refine xcallVi (pc := 2) (As := [.int x1]) (rest := []) ⟨hx, hb, hml, hown, hts⟩ (c_X12_isRegister l D c o g N hv) zc12 zV_X12_321 rfl zd_X12_isRegister ⟨Nat.le_of_ble_eq_true rfl, Nat.le_of_ble_eq_true rfl⟩ hK hP hE hS hg hl.1 rfl (Nat.le_of_ble_eq_true rfl) ⟨Nat.zero_le _, Nat.zero_le _⟩ dX12_areRegisters_2 (fun H locs hP hS => ?_)
  refine lv_if_eq (pc := 5) (tgt := 20) hx hb dX12_areRegisters_5 (by decide) (fun c1 => ?_) (fun c1 => ?_)
  · rw [if_pos c1] at h
    refine lv_iconst (pc := 20) (v := 0) hx hb dX12_areRegisters_20 (by decide) ?_
    exact xretz (pc := 21) hx hb hr hlocks hP hK hE hS h dX12_areRegisters_21
  · rw [if_neg c1] at h
    refine lv_aload_n (pc := 8) hx hb dX12_areRegisters_8 rfl (lv_at hl 0 rfl) ?_
    refine lv_iload_n (pc := 9) hx hb dX12_areRegisters_9 rfl (lv_at hl 2 rfl) ?_
    obtain ⟨_, hg, h⟩ := zl_some h
    obtain ⟨v3, σ4, hv, h⟩ := zb_some h
    refine xcallVi (pc := 10) (As := [.int x2]) (rest := []) ⟨hx, hb, hml, hown, hts⟩ (c_X12_isRegister l D c o g N hv) zc12 zV_X12_321 rfl zd_X12_isRegister ⟨Nat.le_of_ble_eq_true rfl, Nat.le_of_ble_eq_true rfl⟩ hK hP hE hS hg hl.1 rfl (Nat.le_of_ble_eq_true rfl) ⟨Nat.zero_le _, Nat.zero_le _⟩ dX12_areRegisters_10 (fun H locs hP hS => ?_)
    refine lv_if_eq (pc := 13) (tgt := 20) hx hb dX12_areRegisters_13 (by decide) (fun c1 => ?_) (fun c1 => ?_)
    · rw [if_pos c1] at h
      refine lv_iconst (pc := 20) (v := 0) hx hb dX12_areRegisters_20 (by decide) ?_
      exact xretz (pc := 21) hx hb hr hlocks hP hK hE hS h dX12_areRegisters_21
    · rw [if_neg c1] at h
      refine lv_iconst (pc := 16) (v := 1) hx hb dX12_areRegisters_16 (by decide) ?_
      refine lv_goto (pc := 17) (tgt := 21) hx hb dX12_areRegisters_17 (by decide) ?_
      exact xretz (pc := 21) hx hb hr hlocks hP hK hE hS h dX12_areRegisters_21
def F_X12_differOf_2 (N : Nat) (x0 : Nat) (x1 : Int32) (x2 : Int32) (again2 : (Int32 × zS) → Option (Int32 × zS)) : Int32 × zS → Option (Int32 × zS)
  | (x3, σ) =>
  zl (gC 12 x0) fun _ => zb (f_X12_many N x0 σ) fun v1 σ2 =>
  if v1 ≤ x3 then
    (some ((-1), σ2))
  else
    (zl (gC 12 x0) fun _ => zb (f_X12_of N x0 x1 x3 σ2) fun v3 σ4 =>
    zl (gC 12 x0) fun _ => zb (f_X12_of N x0 x2 x3 σ4) fun v5 σ6 =>
    if v3 = v5 then
      (again2 (x3 + 1, σ6))
    else
      (some (x3, σ6)))
def f_X12_differOf (N : Nat) (x0 : Nat) (x1 : Int32) (x2 : Int32) (σ : zS) : Option (Int32 × zS) :=
  zlp (F_X12_differOf_2 N x0 x1 x2) N (0, σ)
set_option maxHeartbeats 4000000 in
set_option maxRecDepth 100000 in
theorem c_X12_differOf (l : Launch) (D : va_G) (c : zC) (o : Nat) (g : zEp) (N : Nat) {x0 : Nat} {x1 : Int32} {x2 : Int32} {σ : zS} {ρ : Int32 × zS} (h : f_X12_differOf N x0 x1 x2 σ = some ρ) : Met l yX12_differOf zs_X12_differOf (zr 6) (va_Pc [.ref (o + x0), .int x1, .int x2] (zG D c o g σ)) (zQi D c o g ρ) 0 0 (zA o) := by
  refine zMetG (by decide) (Nat.le_of_ble_eq_true rfl) ?_
  intro p e s m below meth cd ⟨hx, hb, hr, hml, hown, hts, hlocks⟩ hP hK hE ls hl
  have hS : va_S (zA o) s.heap s.heap [] := va_S.rf
  have hl : lv_has ls 4 [(0, .ref (o + x0)), (1, .int x1), (2, .int x2)] := hl
  rw [f_X12_differOf.eq_1] at h
  refine lv_iconst (pc := 0) (v := 0) hx hb dX12_differOf_0 (by decide) ?_
  refine lv_istore_n (pc := 1) (lv' := [(3, .int 0), (0, .ref (o + x0)), (1, .int x1), (2, .int x2)]) hx hb dX12_differOf_1 rfl hl (by decide) rfl (fun ls hl => ?_)
  have L2_1 : ∀ (n : Nat) (t : Int32 × zS), zlp (F_X12_differOf_2 N x0 x1 x2) n t = some ρ → ∀ (H : Heap) (locs : List Loc) (ls : Array Slot), zP D c o (zabs o (t.2)) H → va_S (zA o) s.heap H locs → lv_has ls 4 [(3, .int (t.1)), (0, .ref (o + x0)), (1, .int x1), (2, .int x2)] → W p l e (zr 6) s m (([.ref (o + x0), .int x1, .int x2] : List Value).toArray) below meth cd H locs 0 0 (MQ below (zQi D c o g ρ) (([.ref (o + x0), .int x1, .int x2] : List Value).toArray) s 0 0 (zA o)) (F0 m 2 ls []) := by
    refine zlp_ind (fun ag1 ih1 t h H locs ls hP hS hl => ?_)
    obtain ⟨x3_1, σ1⟩ := t
    have hP : zP D c o (zabs o σ1) H := hP
    have hl : lv_has ls 4 [(3, .int x3_1), (0, .ref (o + x0)), (1, .int x1), (2, .int x2)] := hl
    rw [F_X12_differOf_2.eq_1] at h
    show W p l e (zr 6) s m (([.ref (o + x0), .int x1, .int x2] : List Value).toArray) below meth cd H locs 0 0 (MQ below (zQi D c o g ρ) (([.ref (o + x0), .int x1, .int x2] : List Value).toArray) s 0 0 (zA o)) (F0 m 2 ls [])
    refine lv_iload_n (pc := 2) hx hb dX12_differOf_2 rfl (lv_at hl 0 rfl) ?_
    refine lv_aload_n (pc := 3) hx hb dX12_differOf_3 rfl (lv_at hl 1 rfl) ?_
    obtain ⟨_, hg, h⟩ := zl_some h
    obtain ⟨v2, σ3, hv, h⟩ := zb_some h
    refine xcallVi (pc := 4) (As := []) (rest := [.int x3_1]) ⟨hx, hb, hml, hown, hts⟩ (c_X12_many l D c o g N hv) zc12 zV_X12_104 rfl zd_X12_many ⟨Nat.le_of_ble_eq_true rfl, Nat.le_of_ble_eq_true rfl⟩ hK hP hE hS hg hl.1 rfl (Nat.le_of_ble_eq_true rfl) ⟨Nat.zero_le _, Nat.zero_le _⟩ dX12_differOf_4 (fun H locs hP hS => ?_)
    refine lv_icmp_ge (pc := 7) (tgt := 33) hx hb dX12_differOf_7 (by decide) (fun c1 => ?_) (fun c1 => ?_)
    · rw [if_pos c1] at h
      refine lv_iconst (pc := 33) (v := (-1)) hx hb dX12_differOf_33 (by decide) ?_
      exact xreti (pc := 34) hx hb hr hlocks hP hK hE hS h dX12_differOf_34
    · rw [if_neg c1] at h
      refine lv_aload_n (pc := 10) hx hb dX12_differOf_10 rfl (lv_at hl 1 rfl) ?_
      refine lv_iload_n (pc := 11) hx hb dX12_differOf_11 rfl (lv_at hl 2 rfl) ?_
      refine lv_iload_n (pc := 12) hx hb dX12_differOf_12 rfl (lv_at hl 0 rfl) ?_
      obtain ⟨_, hg, h⟩ := zl_some h
      obtain ⟨v4, σ5, hv, h⟩ := zb_some h
      refine xcallVi (pc := 13) (As := [.int x1, .int x3_1]) (rest := []) ⟨hx, hb, hml, hown, hts⟩ (c_X12_of l D c o g N hv) zc12 zV_X12_314 rfl zd_X12_of ⟨Nat.le_of_ble_eq_true rfl, Nat.le_of_ble_eq_true rfl⟩ hK hP hE hS hg hl.1 rfl (Nat.le_of_ble_eq_true rfl) ⟨Nat.zero_le _, Nat.zero_le _⟩ dX12_differOf_13 (fun H locs hP hS => ?_)
      refine lv_aload_n (pc := 16) hx hb dX12_differOf_16 rfl (lv_at hl 1 rfl) ?_
      refine lv_iload_n (pc := 17) hx hb dX12_differOf_17 rfl (lv_at hl 3 rfl) ?_
      refine lv_iload_n (pc := 18) hx hb dX12_differOf_18 rfl (lv_at hl 0 rfl) ?_
      obtain ⟨_, hg, h⟩ := zl_some h
      obtain ⟨v6, σ7, hv, h⟩ := zb_some h
      refine xcallVi (pc := 19) (As := [.int x2, .int x3_1]) (rest := [.int v4]) ⟨hx, hb, hml, hown, hts⟩ (c_X12_of l D c o g N hv) zc12 zV_X12_314 rfl zd_X12_of ⟨Nat.le_of_ble_eq_true rfl, Nat.le_of_ble_eq_true rfl⟩ hK hP hE hS hg hl.1 rfl (Nat.le_of_ble_eq_true rfl) ⟨Nat.zero_le _, Nat.zero_le _⟩ dX12_differOf_19 (fun H locs hP hS => ?_)
      refine lv_icmp_eq (pc := 22) (tgt := 27) hx hb dX12_differOf_22 (by decide) (fun c1 => ?_) (fun c1 => ?_)
      · rw [if_pos c1] at h
        refine lv_iinc (pc := 27) (v := x3_1 + 1) (lv' := [(3, .int (x3_1 + 1)), (0, .ref (o + x0)), (1, .int x1), (2, .int x2)]) hx hb dX12_differOf_27 hl (k := 0) rfl rfl (by decide) rfl (fun ls hl => ?_)
        refine lv_goto (pc := 30) (tgt := 2) hx hb dX12_differOf_30 (by decide) ?_
        exact ih1 (x3_1 + 1, σ7) h _ _ ls hP hS (lv_sub hl [0, 1, 2, 3] rfl)
      · rw [if_neg c1] at h
        refine lv_iload_n (pc := 25) hx hb dX12_differOf_25 rfl (lv_at hl 0 rfl) ?_
        exact xreti (pc := 26) hx hb hr hlocks hP hK hE hS h dX12_differOf_26
  exact L2_1 N (0, σ) h _ _ ls hP hS (lv_sub hl [0, 1, 2, 3] rfl)
def f_X12_alike (N : Nat) (x0 : Nat) (x1 : Int32) (x2 : Int32) (σ : zS) : Option (Int32 × zS) :=
  zl (gC 12 x0) fun _ => zb (f_X12_areRegisters N x0 x1 x2 σ) fun v1 σ2 =>
  if v1 = 0 then
    (some ((-2), σ2))
  else
    (zl (gC 12 x0) fun _ => zb (f_X12_differOf N x0 x1 x2 σ2) fun v3 σ4 =>
    if v3 = (-1) then
      (some (1, σ4))
    else
      (some (0, σ4)))
set_option maxHeartbeats 4000000 in
set_option maxRecDepth 100000 in
theorem c_X12_alike (l : Launch) (D : va_G) (c : zC) (o : Nat) (g : zEp) (N : Nat) {x0 : Nat} {x1 : Int32} {x2 : Int32} {σ : zS} {ρ : Int32 × zS} (h : f_X12_alike N x0 x1 x2 σ = some ρ) : Met l yX12_alike zs_X12_alike (zr 8) (va_Pc [.ref (o + x0), .int x1, .int x2] (zG D c o g σ)) (zQi D c o g ρ) 0 0 (zA o) := by
  refine zMetG (by decide) (Nat.le_of_ble_eq_true rfl) ?_
  intro p e s m below meth cd ⟨hx, hb, hr, hml, hown, hts, hlocks⟩ hP hK hE ls hl
  have hS : va_S (zA o) s.heap s.heap [] := va_S.rf
  have hl : lv_has ls 3 [(0, .ref (o + x0)), (1, .int x1), (2, .int x2)] := hl
  rw [f_X12_alike.eq_1] at h
  refine lv_aload_n (pc := 0) hx hb dX12_alike_0 rfl (lv_at hl 0 rfl) ?_
  refine lv_iload_n (pc := 1) hx hb dX12_alike_1 rfl (lv_at hl 1 rfl) ?_
  refine lv_iload_n (pc := 2) hx hb dX12_alike_2 rfl (lv_at hl 2 rfl) ?_
  obtain ⟨_, hg, h⟩ := zl_some h
  obtain ⟨v1, σ2, hv, h⟩ := zb_some h
  refine xcallVi (pc := 3) (As := [.int x1, .int x2]) (rest := []) ⟨hx, hb, hml, hown, hts⟩ (c_X12_areRegisters l D c o g N hv) zc12 zV_X12_360 rfl zd_X12_areRegisters ⟨Nat.le_of_ble_eq_true rfl, Nat.le_of_ble_eq_true rfl⟩ hK hP hE hS hg hl.1 rfl (Nat.le_of_ble_eq_true rfl) ⟨Nat.zero_le _, Nat.zero_le _⟩ dX12_alike_3 (fun H locs hP hS => ?_)
  refine lv_if_eq (pc := 6) (tgt := 27) hx hb dX12_alike_6 (by decide) (fun c1 => ?_) (fun c1 => ?_)
  · rw [if_pos c1] at h
    refine lv_bipush (pc := 27) (v := (-2)) hx hb dX12_alike_27 (by decide) ?_
    exact xreti (pc := 29) hx hb hr hlocks hP hK hE hS h dX12_alike_29
  · rw [if_neg c1] at h
    refine lv_aload_n (pc := 9) hx hb dX12_alike_9 rfl (lv_at hl 0 rfl) ?_
    refine lv_iload_n (pc := 10) hx hb dX12_alike_10 rfl (lv_at hl 1 rfl) ?_
    refine lv_iload_n (pc := 11) hx hb dX12_alike_11 rfl (lv_at hl 2 rfl) ?_
    obtain ⟨_, hg, h⟩ := zl_some h
    obtain ⟨v3, σ4, hv, h⟩ := zb_some h
    refine xcallVi (pc := 12) (As := [.int x1, .int x2]) (rest := []) ⟨hx, hb, hml, hown, hts⟩ (c_X12_differOf l D c o g N hv) zc12 zV_X12_363 rfl zd_X12_differOf ⟨Nat.le_of_ble_eq_true rfl, Nat.le_of_ble_eq_true rfl⟩ hK hP hE hS hg hl.1 rfl (Nat.le_of_ble_eq_true rfl) ⟨Nat.zero_le _, Nat.zero_le _⟩ dX12_alike_12 (fun H locs hP hS => ?_)
    refine lv_iconst (pc := 15) (v := (-1)) hx hb dX12_alike_15 (by decide) ?_
    refine lv_icmp_ne (pc := 16) (tgt := 23) hx hb dX12_alike_16 (by decide) (fun c1 => ?_) (fun c1 => ?_)
    · rw [if_neg c1] at h
      refine lv_iconst (pc := 23) (v := 0) hx hb dX12_alike_23 (by decide) ?_
      refine lv_goto (pc := 24) (tgt := 29) hx hb dX12_alike_24 (by decide) ?_
      exact xreti (pc := 29) hx hb hr hlocks hP hK hE hS h dX12_alike_29
    · rw [if_pos c1] at h
      refine lv_iconst (pc := 19) (v := 1) hx hb dX12_alike_19 (by decide) ?_
      refine lv_goto (pc := 20) (tgt := 29) hx hb dX12_alike_20 (by decide) ?_
      exact xreti (pc := 29) hx hb hr hlocks hP hK hE hS h dX12_alike_29
def f_X12_differ (N : Nat) (x0 : Nat) (x1 : Int32) (x2 : Int32) (σ : zS) : Option (Int32 × zS) :=
  zl (gC 12 x0) fun _ => zb (f_X12_areRegisters N x0 x1 x2 σ) fun v1 σ2 =>
  if v1 = 0 then
    (some ((-2), σ2))
  else
    (zl (gC 12 x0) fun _ => zb (f_X12_differOf N x0 x1 x2 σ2) fun v3 σ4 =>
    some (v3, σ4))
set_option maxHeartbeats 4000000 in
set_option maxRecDepth 100000 in
theorem c_X12_differ (l : Launch) (D : va_G) (c : zC) (o : Nat) (g : zEp) (N : Nat) {x0 : Nat} {x1 : Int32} {x2 : Int32} {σ : zS} {ρ : Int32 × zS} (h : f_X12_differ N x0 x1 x2 σ = some ρ) : Met l yX12_differ zs_X12_differ (zr 8) (va_Pc [.ref (o + x0), .int x1, .int x2] (zG D c o g σ)) (zQi D c o g ρ) 0 0 (zA o) := by
  refine zMetG (by decide) (Nat.le_of_ble_eq_true rfl) ?_
  intro p e s m below meth cd ⟨hx, hb, hr, hml, hown, hts, hlocks⟩ hP hK hE ls hl
  have hS : va_S (zA o) s.heap s.heap [] := va_S.rf
  have hl : lv_has ls 3 [(0, .ref (o + x0)), (1, .int x1), (2, .int x2)] := hl
  rw [f_X12_differ.eq_1] at h
  refine lv_aload_n (pc := 0) hx hb dX12_differ_0 rfl (lv_at hl 0 rfl) ?_
  refine lv_iload_n (pc := 1) hx hb dX12_differ_1 rfl (lv_at hl 1 rfl) ?_
  refine lv_iload_n (pc := 2) hx hb dX12_differ_2 rfl (lv_at hl 2 rfl) ?_
  obtain ⟨_, hg, h⟩ := zl_some h
  obtain ⟨v1, σ2, hv, h⟩ := zb_some h
  refine xcallVi (pc := 3) (As := [.int x1, .int x2]) (rest := []) ⟨hx, hb, hml, hown, hts⟩ (c_X12_areRegisters l D c o g N hv) zc12 zV_X12_360 rfl zd_X12_areRegisters ⟨Nat.le_of_ble_eq_true rfl, Nat.le_of_ble_eq_true rfl⟩ hK hP hE hS hg hl.1 rfl (Nat.le_of_ble_eq_true rfl) ⟨Nat.zero_le _, Nat.zero_le _⟩ dX12_differ_3 (fun H locs hP hS => ?_)
  refine lv_if_eq (pc := 6) (tgt := 18) hx hb dX12_differ_6 (by decide) (fun c1 => ?_) (fun c1 => ?_)
  · rw [if_pos c1] at h
    refine lv_bipush (pc := 18) (v := (-2)) hx hb dX12_differ_18 (by decide) ?_
    exact xreti (pc := 20) hx hb hr hlocks hP hK hE hS h dX12_differ_20
  · rw [if_neg c1] at h
    refine lv_aload_n (pc := 9) hx hb dX12_differ_9 rfl (lv_at hl 0 rfl) ?_
    refine lv_iload_n (pc := 10) hx hb dX12_differ_10 rfl (lv_at hl 1 rfl) ?_
    refine lv_iload_n (pc := 11) hx hb dX12_differ_11 rfl (lv_at hl 2 rfl) ?_
    obtain ⟨_, hg, h⟩ := zl_some h
    obtain ⟨v3, σ4, hv, h⟩ := zb_some h
    refine xcallVi (pc := 12) (As := [.int x1, .int x2]) (rest := []) ⟨hx, hb, hml, hown, hts⟩ (c_X12_differOf l D c o g N hv) zc12 zV_X12_363 rfl zd_X12_differOf ⟨Nat.le_of_ble_eq_true rfl, Nat.le_of_ble_eq_true rfl⟩ hK hP hE hS hg hl.1 rfl (Nat.le_of_ble_eq_true rfl) ⟨Nat.zero_le _, Nat.zero_le _⟩ dX12_differ_12 (fun H locs hP hS => ?_)
    refine lv_goto (pc := 15) (tgt := 20) hx hb dX12_differ_15 (by decide) ?_
    exact xreti (pc := 20) hx hb hr hlocks hP hK hE hS h dX12_differ_20
def F_X12_within_14 (N : Nat) (x0 : Nat) (x1 : Int32) (x2 : Int32) (again14 : (Int32 × zS) → Option (Int32 × zS)) : Int32 × zS → Option (Int32 × zS)
  | (x3, σ) =>
  zl (gC 12 x0) fun _ => zb (f_X12_many N x0 σ) fun v3 σ4 =>
  if v3 ≤ x3 then
    (some (1, σ4))
  else
    (zl (gC 12 x0) fun _ => zb (f_X12_of N x0 x1 x3 σ4) fun v5 σ6 =>
    if v5 = 0 then
      (again14 (x3 + 1, σ6))
    else
      (zl (gC 12 x0) fun _ => zb (f_X12_of N x0 x2 x3 σ6) fun v7 σ8 =>
      if v7 = 0 then
        (some (0, σ8))
      else
        (again14 (x3 + 1, σ8))))
def f_X12_within (N : Nat) (x0 : Nat) (x1 : Int32) (x2 : Int32) (σ : zS) : Option (Int32 × zS) :=
  zl (gC 12 x0) fun _ => zb (f_X12_areRegisters N x0 x1 x2 σ) fun v1 σ2 =>
  if v1 = 0 then
    (some ((-2), σ2))
  else
    (zlp (F_X12_within_14 N x0 x1 x2) N (0, σ2))
set_option maxHeartbeats 4000000 in
set_option maxRecDepth 100000 in
theorem c_X12_within (l : Launch) (D : va_G) (c : zC) (o : Nat) (g : zEp) (N : Nat) {x0 : Nat} {x1 : Int32} {x2 : Int32} {σ : zS} {ρ : Int32 × zS} (h : f_X12_within N x0 x1 x2 σ = some ρ) : Met l yX12_within zs_X12_within (zr 8) (va_Pc [.ref (o + x0), .int x1, .int x2] (zG D c o g σ)) (zQi D c o g ρ) 0 0 (zA o) := by
  refine zMetG (by decide) (Nat.le_of_ble_eq_true rfl) ?_
  intro p e s m below meth cd ⟨hx, hb, hr, hml, hown, hts, hlocks⟩ hP hK hE ls hl
  have hS : va_S (zA o) s.heap s.heap [] := va_S.rf
  have hl : lv_has ls 4 [(0, .ref (o + x0)), (1, .int x1), (2, .int x2)] := hl
  rw [f_X12_within.eq_1] at h
  refine lv_aload_n (pc := 0) hx hb dX12_within_0 rfl (lv_at hl 0 rfl) ?_
  refine lv_iload_n (pc := 1) hx hb dX12_within_1 rfl (lv_at hl 1 rfl) ?_
  refine lv_iload_n (pc := 2) hx hb dX12_within_2 rfl (lv_at hl 2 rfl) ?_
  obtain ⟨_, hg, h⟩ := zl_some h
  obtain ⟨v1, σ2, hv, h⟩ := zb_some h
  refine xcallVi (pc := 3) (As := [.int x1, .int x2]) (rest := []) ⟨hx, hb, hml, hown, hts⟩ (c_X12_areRegisters l D c o g N hv) zc12 zV_X12_360 rfl zd_X12_areRegisters ⟨Nat.le_of_ble_eq_true rfl, Nat.le_of_ble_eq_true rfl⟩ hK hP hE hS hg hl.1 rfl (Nat.le_of_ble_eq_true rfl) ⟨Nat.zero_le _, Nat.zero_le _⟩ dX12_within_3 (fun H locs hP hS => ?_)
  refine lv_if_ne (pc := 6) (tgt := 12) hx hb dX12_within_6 (by decide) (fun c1 => ?_) (fun c1 => ?_)
  · rw [if_neg c1] at h
    refine lv_iconst (pc := 12) (v := 0) hx hb dX12_within_12 (by decide) ?_
    refine lv_istore_n (pc := 13) (lv' := [(3, .int 0), (0, .ref (o + x0)), (1, .int x1), (2, .int x2)]) hx hb dX12_within_13 rfl hl (by decide) rfl (fun ls hl => ?_)
    have L14_3 : ∀ (n : Nat) (t : Int32 × zS), zlp (F_X12_within_14 N x0 x1 x2) n t = some ρ → ∀ (H : Heap) (locs : List Loc) (ls : Array Slot), zP D c o (zabs o (t.2)) H → va_S (zA o) s.heap H locs → lv_has ls 4 [(3, .int (t.1)), (0, .ref (o + x0)), (1, .int x1), (2, .int x2)] → W p l e (zr 8) s m (([.ref (o + x0), .int x1, .int x2] : List Value).toArray) below meth cd H locs 0 0 (MQ below (zQi D c o g ρ) (([.ref (o + x0), .int x1, .int x2] : List Value).toArray) s 0 0 (zA o)) (F0 m 14 ls []) := by
      refine zlp_ind (fun ag3 ih3 t h H locs ls hP hS hl => ?_)
      obtain ⟨x3_3, σ3⟩ := t
      have hP : zP D c o (zabs o σ3) H := hP
      have hl : lv_has ls 4 [(3, .int x3_3), (0, .ref (o + x0)), (1, .int x1), (2, .int x2)] := hl
      rw [F_X12_within_14.eq_1] at h
      show W p l e (zr 8) s m (([.ref (o + x0), .int x1, .int x2] : List Value).toArray) below meth cd H locs 0 0 (MQ below (zQi D c o g ρ) (([.ref (o + x0), .int x1, .int x2] : List Value).toArray) s 0 0 (zA o)) (F0 m 14 ls [])
      refine lv_iload_n (pc := 14) hx hb dX12_within_14 rfl (lv_at hl 0 rfl) ?_
      refine lv_aload_n (pc := 15) hx hb dX12_within_15 rfl (lv_at hl 1 rfl) ?_
      obtain ⟨_, hg, h⟩ := zl_some h
      obtain ⟨v4, σ5, hv, h⟩ := zb_some h
      refine xcallVi (pc := 16) (As := []) (rest := [.int x3_3]) ⟨hx, hb, hml, hown, hts⟩ (c_X12_many l D c o g N hv) zc12 zV_X12_104 rfl zd_X12_many ⟨Nat.le_of_ble_eq_true rfl, Nat.le_of_ble_eq_true rfl⟩ hK hP hE hS hg hl.1 rfl (Nat.le_of_ble_eq_true rfl) ⟨Nat.zero_le _, Nat.zero_le _⟩ dX12_within_16 (fun H locs hP hS => ?_)
      refine lv_icmp_ge (pc := 19) (tgt := 48) hx hb dX12_within_19 (by decide) (fun c1 => ?_) (fun c1 => ?_)
      · rw [if_pos c1] at h
        refine lv_iconst (pc := 48) (v := 1) hx hb dX12_within_48 (by decide) ?_
        exact xreti (pc := 49) hx hb hr hlocks hP hK hE hS h dX12_within_49
      · rw [if_neg c1] at h
        refine lv_aload_n (pc := 22) hx hb dX12_within_22 rfl (lv_at hl 1 rfl) ?_
        refine lv_iload_n (pc := 23) hx hb dX12_within_23 rfl (lv_at hl 2 rfl) ?_
        refine lv_iload_n (pc := 24) hx hb dX12_within_24 rfl (lv_at hl 0 rfl) ?_
        obtain ⟨_, hg, h⟩ := zl_some h
        obtain ⟨v6, σ7, hv, h⟩ := zb_some h
        refine xcallVi (pc := 25) (As := [.int x1, .int x3_3]) (rest := []) ⟨hx, hb, hml, hown, hts⟩ (c_X12_of l D c o g N hv) zc12 zV_X12_314 rfl zd_X12_of ⟨Nat.le_of_ble_eq_true rfl, Nat.le_of_ble_eq_true rfl⟩ hK hP hE hS hg hl.1 rfl (Nat.le_of_ble_eq_true rfl) ⟨Nat.zero_le _, Nat.zero_le _⟩ dX12_within_25 (fun H locs hP hS => ?_)
        refine lv_if_eq (pc := 28) (tgt := 42) hx hb dX12_within_28 (by decide) (fun c1 => ?_) (fun c1 => ?_)
        · rw [if_pos c1] at h
          refine lv_iinc (pc := 42) (v := x3_3 + 1) (lv' := [(3, .int (x3_3 + 1)), (0, .ref (o + x0)), (1, .int x1), (2, .int x2)]) hx hb dX12_within_42 hl (k := 0) rfl rfl (by decide) rfl (fun ls hl => ?_)
          refine lv_goto (pc := 45) (tgt := 14) hx hb dX12_within_45 (by decide) ?_
          exact ih3 (x3_3 + 1, σ7) h _ _ ls hP hS (lv_sub hl [0, 1, 2, 3] rfl)
        · rw [if_neg c1] at h
          refine lv_aload_n (pc := 31) hx hb dX12_within_31 rfl (lv_at hl 1 rfl) ?_
          refine lv_iload_n (pc := 32) hx hb dX12_within_32 rfl (lv_at hl 3 rfl) ?_
          refine lv_iload_n (pc := 33) hx hb dX12_within_33 rfl (lv_at hl 0 rfl) ?_
          obtain ⟨_, hg, h⟩ := zl_some h
          obtain ⟨v8, σ9, hv, h⟩ := zb_some h
          refine xcallVi (pc := 34) (As := [.int x2, .int x3_3]) (rest := []) ⟨hx, hb, hml, hown, hts⟩ (c_X12_of l D c o g N hv) zc12 zV_X12_314 rfl zd_X12_of ⟨Nat.le_of_ble_eq_true rfl, Nat.le_of_ble_eq_true rfl⟩ hK hP hE hS hg hl.1 rfl (Nat.le_of_ble_eq_true rfl) ⟨Nat.zero_le _, Nat.zero_le _⟩ dX12_within_34 (fun H locs hP hS => ?_)
          refine lv_if_ne (pc := 37) (tgt := 42) hx hb dX12_within_37 (by decide) (fun c1 => ?_) (fun c1 => ?_)
          · rw [if_neg c1] at h
            refine lv_iinc (pc := 42) (v := x3_3 + 1) (lv' := [(3, .int (x3_3 + 1)), (0, .ref (o + x0)), (1, .int x1), (2, .int x2)]) hx hb dX12_within_42 hl (k := 0) rfl rfl (by decide) rfl (fun ls hl => ?_)
            refine lv_goto (pc := 45) (tgt := 14) hx hb dX12_within_45 (by decide) ?_
            exact ih3 (x3_3 + 1, σ9) h _ _ ls hP hS (lv_sub hl [0, 1, 2, 3] rfl)
          · rw [if_pos c1] at h
            refine lv_iconst (pc := 40) (v := 0) hx hb dX12_within_40 (by decide) ?_
            exact xreti (pc := 41) hx hb hr hlocks hP hK hE hS h dX12_within_41
    exact L14_3 N (0, σ2) h _ _ ls hP hS (lv_sub hl [0, 1, 2, 3] rfl)
  · rw [if_pos c1] at h
    refine lv_bipush (pc := 9) (v := (-2)) hx hb dX12_within_9 (by decide) ?_
    exact xreti (pc := 11) hx hb hr hlocks hP hK hE hS h dX12_within_11
def F_X12_isHits_24 (N : Nat) (x0 : Nat) (x1 : Int32) (again24 : (Int32 × zS) → Option (Int32 × zS)) : Int32 × zS → Option (Int32 × zS)
  | (x3, σ) =>
  zl (gI 12 20 x0 σ) fun v7 =>
  if v7 ≤ x3 then
    (rZ 1 σ)
  else
    (zl (gC 12 x0) fun _ => zb (f_X12_of N x0 x1 x3 σ) fun v8 σ9 =>
    zl (gR 12 17 x0 σ9) fun v10 =>
    zl (aI 16 v10 x3 σ9) fun v11 =>
    if v8 = v11 then
      (again24 (x3 + 1, σ9))
    else
      (rZ 0 σ9))
def f_X12_isHits (N : Nat) (x0 : Nat) (x1 : Int32) (x2 : Int32) (σ : zS) : Option (Int32 × zS) :=
  zl (gC 12 x0) fun _ => zb (f_X12_many N x0 σ) fun v1 σ2 =>
  zl (pI 12 20 x0 v1 σ2) fun σ3 =>
  zl (gR 12 2 x0 σ3) fun v4 =>
  zl (gC 12 x0) fun _ => zb (f_X12_turns N x0 2 v4 (1024 * x2) σ3) fun v5 σ6 =>
  zlp (F_X12_isHits_24 N x0 x1) N (0, σ6)
set_option maxHeartbeats 4000000 in
set_option maxRecDepth 100000 in
theorem c_X12_isHits (l : Launch) (D : va_G) (c : zC) (o : Nat) (g : zEp) (N : Nat) {x0 : Nat} {x1 : Int32} {x2 : Int32} {σ : zS} {ρ : Int32 × zS} (h : f_X12_isHits N x0 x1 x2 σ = some ρ) : Met l yX12_isHits zs_X12_isHits (zr 8) (va_Pc [.ref (o + x0), .int x1, .int x2] (zG D c o g σ)) (zQi D c o g ρ) 0 0 (zA o) := by
  refine zMetG (by decide) (Nat.le_of_ble_eq_true rfl) ?_
  intro p e s m below meth cd ⟨hx, hb, hr, hml, hown, hts, hlocks⟩ hP hK hE ls hl
  have hS : va_S (zA o) s.heap s.heap [] := va_S.rf
  have hl : lv_has ls 4 [(0, .ref (o + x0)), (1, .int x1), (2, .int x2)] := hl
  rw [f_X12_isHits.eq_1] at h
  refine lv_aload_n (pc := 0) hx hb dX12_isHits_0 rfl (lv_at hl 0 rfl) ?_
  refine lv_aload_n (pc := 1) hx hb dX12_isHits_1 rfl (lv_at hl 0 rfl) ?_
  obtain ⟨_, hg, h⟩ := zl_some h
  obtain ⟨v1, σ2, hv, h⟩ := zb_some h
  refine xcallVi (pc := 2) (As := []) (rest := [.ref (o + x0)]) ⟨hx, hb, hml, hown, hts⟩ (c_X12_many l D c o g N hv) zc12 zV_X12_104 rfl zd_X12_many ⟨Nat.le_of_ble_eq_true rfl, Nat.le_of_ble_eq_true rfl⟩ hK hP hE hS hg hl.1 rfl (Nat.le_of_ble_eq_true rfl) ⟨Nat.zero_le _, Nat.zero_le _⟩ dX12_isHits_2 (fun H locs hP hS => ?_)
  obtain ⟨σ3, hv, h⟩ := zl_some h
  refine xpI (pc := 5) (j := 20) zc12 hx hb hts hown hK hP hS hv rfl rfl rfl zf_X12_180 dX12_isHits_5 (fun H locs hP hS => ?_)
  refine lv_aload_n (pc := 8) hx hb dX12_isHits_8 rfl (lv_at hl 0 rfl) ?_
  refine lv_iconst (pc := 9) (v := 2) hx hb dX12_isHits_9 (by decide) ?_
  refine lv_aload_n (pc := 10) hx hb dX12_isHits_10 rfl (lv_at hl 0 rfl) ?_
  obtain ⟨v4, hv, h⟩ := zl_some h
  refine xgR (pc := 11) (j := 2) zc12 hx hb hts hown hK hP hv rfl zf_X12_13 dX12_isHits_11 ?_
  refine lv_sipush (pc := 14) (v := 1024) hx hb dX12_isHits_14 (by decide) ?_
  refine lv_iload_n (pc := 17) hx hb dX12_isHits_17 rfl (lv_at hl 2 rfl) ?_
  refine lv_imul (pc := 18) hx hb dX12_isHits_18 ?_
  obtain ⟨_, hg, h⟩ := zl_some h
  obtain ⟨v5, σ6, hv, h⟩ := zb_some h
  refine xcallVv (pc := 19) (As := [.int 2, .ref (o + v4), .int (1024 * x2)]) (rest := []) ⟨hx, hb, hml, hown, hts⟩ (c_X12_turns l D c o g N hv) zc12 zV_X12_209 rfl zd_X12_turns ⟨Nat.le_of_ble_eq_true rfl, Nat.le_of_ble_eq_true rfl⟩ hK hP hE hS hg hl.1 rfl (Nat.le_of_ble_eq_true rfl) ⟨Nat.zero_le _, Nat.zero_le _⟩ dX12_isHits_19 (fun H locs hP hS => ?_)
  refine lv_iconst (pc := 22) (v := 0) hx hb dX12_isHits_22 (by decide) ?_
  refine lv_istore_n (pc := 23) (lv' := [(3, .int 0), (0, .ref (o + x0)), (1, .int x1), (2, .int x2)]) hx hb dX12_isHits_23 rfl hl (by decide) rfl (fun ls hl => ?_)
  have L24_7 : ∀ (n : Nat) (t : Int32 × zS), zlp (F_X12_isHits_24 N x0 x1) n t = some ρ → ∀ (H : Heap) (locs : List Loc) (ls : Array Slot), zP D c o (zabs o (t.2)) H → va_S (zA o) s.heap H locs → lv_has ls 4 [(3, .int (t.1)), (0, .ref (o + x0)), (1, .int x1)] → W p l e (zr 8) s m (([.ref (o + x0), .int x1, .int x2] : List Value).toArray) below meth cd H locs 0 0 (MQ below (zQi D c o g ρ) (([.ref (o + x0), .int x1, .int x2] : List Value).toArray) s 0 0 (zA o)) (F0 m 24 ls []) := by
    refine zlp_ind (fun ag7 ih7 t h H locs ls hP hS hl => ?_)
    obtain ⟨x3_7, σ7⟩ := t
    have hP : zP D c o (zabs o σ7) H := hP
    have hl : lv_has ls 4 [(3, .int x3_7), (0, .ref (o + x0)), (1, .int x1)] := hl
    rw [F_X12_isHits_24.eq_1] at h
    show W p l e (zr 8) s m (([.ref (o + x0), .int x1, .int x2] : List Value).toArray) below meth cd H locs 0 0 (MQ below (zQi D c o g ρ) (([.ref (o + x0), .int x1, .int x2] : List Value).toArray) s 0 0 (zA o)) (F0 m 24 ls [])
    refine lv_iload_n (pc := 24) hx hb dX12_isHits_24 rfl (lv_at hl 0 rfl) ?_
    refine lv_aload_n (pc := 25) hx hb dX12_isHits_25 rfl (lv_at hl 1 rfl) ?_
    obtain ⟨v8, hv, h⟩ := zl_some h
    refine xgI (pc := 26) (j := 20) zc12 hx hb hts hown hK hP hv rfl zf_X12_180 dX12_isHits_26 ?_
    refine lv_icmp_ge (pc := 29) (tgt := 55) hx hb dX12_isHits_29 (by decide) (fun c1 => ?_) (fun c1 => ?_)
    · rw [if_pos c1] at h
      refine lv_iconst (pc := 55) (v := 1) hx hb dX12_isHits_55 (by decide) ?_
      exact xretz (pc := 56) hx hb hr hlocks hP hK hE hS h dX12_isHits_56
    · rw [if_neg c1] at h
      refine lv_aload_n (pc := 32) hx hb dX12_isHits_32 rfl (lv_at hl 1 rfl) ?_
      refine lv_iload_n (pc := 33) hx hb dX12_isHits_33 rfl (lv_at hl 2 rfl) ?_
      refine lv_iload_n (pc := 34) hx hb dX12_isHits_34 rfl (lv_at hl 0 rfl) ?_
      obtain ⟨_, hg, h⟩ := zl_some h
      obtain ⟨v9, σ10, hv, h⟩ := zb_some h
      refine xcallVi (pc := 35) (As := [.int x1, .int x3_7]) (rest := []) ⟨hx, hb, hml, hown, hts⟩ (c_X12_of l D c o g N hv) zc12 zV_X12_314 rfl zd_X12_of ⟨Nat.le_of_ble_eq_true rfl, Nat.le_of_ble_eq_true rfl⟩ hK hP hE hS hg hl.1 rfl (Nat.le_of_ble_eq_true rfl) ⟨Nat.zero_le _, Nat.zero_le _⟩ dX12_isHits_35 (fun H locs hP hS => ?_)
      refine lv_aload_n (pc := 38) hx hb dX12_isHits_38 rfl (lv_at hl 1 rfl) ?_
      obtain ⟨v11, hv, h⟩ := zl_some h
      refine xgR (pc := 39) (j := 17) zc12 hx hb hts hown hK hP hv rfl zf_X12_40 dX12_isHits_39 ?_
      refine lv_iload_n (pc := 42) hx hb dX12_isHits_42 rfl (lv_at hl 0 rfl) ?_
      obtain ⟨v12, hv, h⟩ := zl_some h
      refine xaZ (pc := 43) hx hb hK hP hv dX12_isHits_43 ?_
      refine lv_icmp_eq (pc := 44) (tgt := 49) hx hb dX12_isHits_44 (by decide) (fun c1 => ?_) (fun c1 => ?_)
      · rw [if_pos c1] at h
        refine lv_iinc (pc := 49) (v := x3_7 + 1) (lv' := [(3, .int (x3_7 + 1)), (0, .ref (o + x0)), (1, .int x1)]) hx hb dX12_isHits_49 hl (k := 0) rfl rfl (by decide) rfl (fun ls hl => ?_)
        refine lv_goto (pc := 52) (tgt := 24) hx hb dX12_isHits_52 (by decide) ?_
        exact ih7 (x3_7 + 1, σ10) h _ _ ls hP hS (lv_sub hl [0, 1, 2] rfl)
      · rw [if_neg c1] at h
        refine lv_iconst (pc := 47) (v := 0) hx hb dX12_isHits_47 (by decide) ?_
        exact xretz (pc := 48) hx hb hr hlocks hP hK hE hS h dX12_isHits_48
  exact L24_7 N (0, σ6) h _ _ ls hP hS (lv_sub hl [0, 1, 2] rfl)
def f_X12_dual (N : Nat) (x0 : Nat) (x1 : Int32) (x2 : Int32) (σ : zS) : Option (Int32 × zS) :=
  zl (gC 12 x0) fun _ => zb (f_X12_areRegisters N x0 x1 x2 σ) fun v1 σ2 =>
  if v1 = 0 then
    (some ((-2), σ2))
  else
    (zl (gC 12 x0) fun _ => zb (f_X12_isHits N x0 x1 x2 σ2) fun v3 σ4 =>
    if v3 = 0 then
      (some (0, σ4))
    else
      (zl (gC 12 x0) fun _ => zb (f_X12_isHits N x0 x2 x1 σ4) fun v5 σ6 =>
      if v5 = 0 then
        (some (0, σ6))
      else
        (some (1, σ6))))
set_option maxHeartbeats 4000000 in
set_option maxRecDepth 100000 in
theorem c_X12_dual (l : Launch) (D : va_G) (c : zC) (o : Nat) (g : zEp) (N : Nat) {x0 : Nat} {x1 : Int32} {x2 : Int32} {σ : zS} {ρ : Int32 × zS} (h : f_X12_dual N x0 x1 x2 σ = some ρ) : Met l yX12_dual zs_X12_dual (zr 10) (va_Pc [.ref (o + x0), .int x1, .int x2] (zG D c o g σ)) (zQi D c o g ρ) 0 0 (zA o) := by
  refine zMetG (by decide) (Nat.le_of_ble_eq_true rfl) ?_
  intro p e s m below meth cd ⟨hx, hb, hr, hml, hown, hts, hlocks⟩ hP hK hE ls hl
  have hS : va_S (zA o) s.heap s.heap [] := va_S.rf
  have hl : lv_has ls 3 [(0, .ref (o + x0)), (1, .int x1), (2, .int x2)] := hl
  rw [f_X12_dual.eq_1] at h
  refine lv_aload_n (pc := 0) hx hb dX12_dual_0 rfl (lv_at hl 0 rfl) ?_
  refine lv_iload_n (pc := 1) hx hb dX12_dual_1 rfl (lv_at hl 1 rfl) ?_
  refine lv_iload_n (pc := 2) hx hb dX12_dual_2 rfl (lv_at hl 2 rfl) ?_
  obtain ⟨_, hg, h⟩ := zl_some h
  obtain ⟨v1, σ2, hv, h⟩ := zb_some h
  refine xcallVi (pc := 3) (As := [.int x1, .int x2]) (rest := []) ⟨hx, hb, hml, hown, hts⟩ (c_X12_areRegisters l D c o g N hv) zc12 zV_X12_360 rfl zd_X12_areRegisters ⟨Nat.le_of_ble_eq_true rfl, Nat.le_of_ble_eq_true rfl⟩ hK hP hE hS hg hl.1 rfl (Nat.le_of_ble_eq_true rfl) ⟨Nat.zero_le _, Nat.zero_le _⟩ dX12_dual_3 (fun H locs hP hS => ?_)
  refine lv_if_eq (pc := 6) (tgt := 35) hx hb dX12_dual_6 (by decide) (fun c1 => ?_) (fun c1 => ?_)
  · rw [if_pos c1] at h
    refine lv_bipush (pc := 35) (v := (-2)) hx hb dX12_dual_35 (by decide) ?_
    exact xreti (pc := 37) hx hb hr hlocks hP hK hE hS h dX12_dual_37
  · rw [if_neg c1] at h
    refine lv_aload_n (pc := 9) hx hb dX12_dual_9 rfl (lv_at hl 0 rfl) ?_
    refine lv_iload_n (pc := 10) hx hb dX12_dual_10 rfl (lv_at hl 1 rfl) ?_
    refine lv_iload_n (pc := 11) hx hb dX12_dual_11 rfl (lv_at hl 2 rfl) ?_
    obtain ⟨_, hg, h⟩ := zl_some h
    obtain ⟨v3, σ4, hv, h⟩ := zb_some h
    refine xcallVi (pc := 12) (As := [.int x1, .int x2]) (rest := []) ⟨hx, hb, hml, hown, hts⟩ (c_X12_isHits l D c o g N hv) zc12 zV_X12_366 rfl zd_X12_isHits ⟨Nat.le_of_ble_eq_true rfl, Nat.le_of_ble_eq_true rfl⟩ hK hP hE hS hg hl.1 rfl (Nat.le_of_ble_eq_true rfl) ⟨Nat.zero_le _, Nat.zero_le _⟩ dX12_dual_12 (fun H locs hP hS => ?_)
    refine lv_if_eq (pc := 15) (tgt := 31) hx hb dX12_dual_15 (by decide) (fun c1 => ?_) (fun c1 => ?_)
    · rw [if_pos c1] at h
      refine lv_iconst (pc := 31) (v := 0) hx hb dX12_dual_31 (by decide) ?_
      refine lv_goto (pc := 32) (tgt := 37) hx hb dX12_dual_32 (by decide) ?_
      exact xreti (pc := 37) hx hb hr hlocks hP hK hE hS h dX12_dual_37
    · rw [if_neg c1] at h
      refine lv_aload_n (pc := 18) hx hb dX12_dual_18 rfl (lv_at hl 0 rfl) ?_
      refine lv_iload_n (pc := 19) hx hb dX12_dual_19 rfl (lv_at hl 2 rfl) ?_
      refine lv_iload_n (pc := 20) hx hb dX12_dual_20 rfl (lv_at hl 1 rfl) ?_
      obtain ⟨_, hg, h⟩ := zl_some h
      obtain ⟨v5, σ6, hv, h⟩ := zb_some h
      refine xcallVi (pc := 21) (As := [.int x2, .int x1]) (rest := []) ⟨hx, hb, hml, hown, hts⟩ (c_X12_isHits l D c o g N hv) zc12 zV_X12_366 rfl zd_X12_isHits ⟨Nat.le_of_ble_eq_true rfl, Nat.le_of_ble_eq_true rfl⟩ hK hP hE hS hg hl.1 rfl (Nat.le_of_ble_eq_true rfl) ⟨Nat.zero_le _, Nat.zero_le _⟩ dX12_dual_21 (fun H locs hP hS => ?_)
      refine lv_if_eq (pc := 24) (tgt := 31) hx hb dX12_dual_24 (by decide) (fun c1 => ?_) (fun c1 => ?_)
      · rw [if_pos c1] at h
        refine lv_iconst (pc := 31) (v := 0) hx hb dX12_dual_31 (by decide) ?_
        refine lv_goto (pc := 32) (tgt := 37) hx hb dX12_dual_32 (by decide) ?_
        exact xreti (pc := 37) hx hb hr hlocks hP hK hE hS h dX12_dual_37
      · rw [if_neg c1] at h
        refine lv_iconst (pc := 27) (v := 1) hx hb dX12_dual_27 (by decide) ?_
        refine lv_goto (pc := 28) (tgt := 37) hx hb dX12_dual_28 (by decide) ?_
        exact xreti (pc := 37) hx hb hr hlocks hP hK hE hS h dX12_dual_37
def F_X12_apart_29 (N : Nat) (x0 : Nat) (x1 : Int32) (x2 : Int32) (x4 : Int32) (again17 : (Int32 × Int32 × zS) → Option (Int32 × zS)) (again29 : (Int32 × Int32 × zS) → Option (Int32 × zS)) : Int32 × Int32 × zS → Option (Int32 × zS)
  | (x3, x5, σ) =>
  zl (gC 12 x0) fun _ => zb (f_X12_many N x0 σ) fun v5 σ6 =>
  if v5 ≤ x5 then
    (again17 (x3, x4 + 1, σ6))
  else
    (zl (gC 12 x0) fun _ => zb (f_X12_of N x0 x1 x4 σ6) fun v7 σ8 =>
    if v7 = 0 then
      (again17 (x3, x4 + 1, σ8))
    else
      (zl (gC 12 x0) fun _ => zb (f_X12_of N x0 x2 x5 σ8) fun v9 σ10 =>
      if v9 = 0 then
        (again29 (x3 + 0, x5 + 1, σ10))
      else
        (if (x4 &&& x5) = 0 then
          (again29 (x3 + 1, x5 + 1, σ10))
        else
          (again29 (x3 + 0, x5 + 1, σ10)))))
def F_X12_apart_17 (N : Nat) (x0 : Nat) (x1 : Int32) (x2 : Int32) (again17 : (Int32 × Int32 × zS) → Option (Int32 × zS)) : Int32 × Int32 × zS → Option (Int32 × zS)
  | (x3, x4, σ) =>
  zl (gC 12 x0) fun _ => zb (f_X12_many N x0 σ) fun v3 σ4 =>
  if v3 ≤ x4 then
    (some (x3, σ4))
  else
    (zlp (F_X12_apart_29 N x0 x1 x2 x4 again17) N (x3, 0, σ4))
def f_X12_apart (N : Nat) (x0 : Nat) (x1 : Int32) (x2 : Int32) (σ : zS) : Option (Int32 × zS) :=
  zl (gC 12 x0) fun _ => zb (f_X12_areRegisters N x0 x1 x2 σ) fun v1 σ2 =>
  if v1 = 0 then
    (some ((-2), σ2))
  else
    (zlp (F_X12_apart_17 N x0 x1 x2) N (0, 0, σ2))
set_option maxHeartbeats 4000000 in
set_option maxRecDepth 100000 in
theorem c_X12_apart (l : Launch) (D : va_G) (c : zC) (o : Nat) (g : zEp) (N : Nat) {x0 : Nat} {x1 : Int32} {x2 : Int32} {σ : zS} {ρ : Int32 × zS} (h : f_X12_apart N x0 x1 x2 σ = some ρ) : Met l yX12_apart zs_X12_apart (zr 8) (va_Pc [.ref (o + x0), .int x1, .int x2] (zG D c o g σ)) (zQi D c o g ρ) 0 0 (zA o) := by
  refine zMetG (by decide) (Nat.le_of_ble_eq_true rfl) ?_
  intro p e s m below meth cd ⟨hx, hb, hr, hml, hown, hts, hlocks⟩ hP hK hE ls hl
  have hS : va_S (zA o) s.heap s.heap [] := va_S.rf
  have hl : lv_has ls 6 [(0, .ref (o + x0)), (1, .int x1), (2, .int x2)] := hl
  rw [f_X12_apart.eq_1] at h
  refine lv_aload_n (pc := 0) hx hb dX12_apart_0 rfl (lv_at hl 0 rfl) ?_
  refine lv_iload_n (pc := 1) hx hb dX12_apart_1 rfl (lv_at hl 1 rfl) ?_
  refine lv_iload_n (pc := 2) hx hb dX12_apart_2 rfl (lv_at hl 2 rfl) ?_
  obtain ⟨_, hg, h⟩ := zl_some h
  obtain ⟨v1, σ2, hv, h⟩ := zb_some h
  refine xcallVi (pc := 3) (As := [.int x1, .int x2]) (rest := []) ⟨hx, hb, hml, hown, hts⟩ (c_X12_areRegisters l D c o g N hv) zc12 zV_X12_360 rfl zd_X12_areRegisters ⟨Nat.le_of_ble_eq_true rfl, Nat.le_of_ble_eq_true rfl⟩ hK hP hE hS hg hl.1 rfl (Nat.le_of_ble_eq_true rfl) ⟨Nat.zero_le _, Nat.zero_le _⟩ dX12_apart_3 (fun H locs hP hS => ?_)
  refine lv_if_ne (pc := 6) (tgt := 12) hx hb dX12_apart_6 (by decide) (fun c1 => ?_) (fun c1 => ?_)
  · rw [if_neg c1] at h
    refine lv_iconst (pc := 12) (v := 0) hx hb dX12_apart_12 (by decide) ?_
    refine lv_istore_n (pc := 13) (lv' := [(3, .int 0), (0, .ref (o + x0)), (1, .int x1), (2, .int x2)]) hx hb dX12_apart_13 rfl hl (by decide) rfl (fun ls hl => ?_)
    refine lv_iconst (pc := 14) (v := 0) hx hb dX12_apart_14 (by decide) ?_
    refine lv_istore (pc := 15) (lv' := [(4, .int 0), (3, .int 0), (0, .ref (o + x0)), (1, .int x1), (2, .int x2)]) hx hb dX12_apart_15 hl (by decide) rfl (fun ls hl => ?_)
    have L17_3 : ∀ (n : Nat) (t : Int32 × Int32 × zS), zlp (F_X12_apart_17 N x0 x1 x2) n t = some ρ → ∀ (H : Heap) (locs : List Loc) (ls : Array Slot), zP D c o (zabs o (t.2.2)) H → va_S (zA o) s.heap H locs → lv_has ls 6 [(3, .int (t.1)), (4, .int (t.2.1)), (0, .ref (o + x0)), (1, .int x1), (2, .int x2)] → W p l e (zr 8) s m (([.ref (o + x0), .int x1, .int x2] : List Value).toArray) below meth cd H locs 0 0 (MQ below (zQi D c o g ρ) (([.ref (o + x0), .int x1, .int x2] : List Value).toArray) s 0 0 (zA o)) (F0 m 17 ls []) := by
      refine zlp_ind (fun ag3 ih3 t h H locs ls hP hS hl => ?_)
      obtain ⟨x3_3, x4_3, σ3⟩ := t
      have hP : zP D c o (zabs o σ3) H := hP
      have hl : lv_has ls 6 [(3, .int x3_3), (4, .int x4_3), (0, .ref (o + x0)), (1, .int x1), (2, .int x2)] := hl
      rw [F_X12_apart_17.eq_1] at h
      show W p l e (zr 8) s m (([.ref (o + x0), .int x1, .int x2] : List Value).toArray) below meth cd H locs 0 0 (MQ below (zQi D c o g ρ) (([.ref (o + x0), .int x1, .int x2] : List Value).toArray) s 0 0 (zA o)) (F0 m 17 ls [])
      refine lv_iload (pc := 17) hx hb dX12_apart_17 (lv_at hl 1 rfl) ?_
      refine lv_aload_n (pc := 19) hx hb dX12_apart_19 rfl (lv_at hl 2 rfl) ?_
      obtain ⟨_, hg, h⟩ := zl_some h
      obtain ⟨v4, σ5, hv, h⟩ := zb_some h
      refine xcallVi (pc := 20) (As := []) (rest := [.int x4_3]) ⟨hx, hb, hml, hown, hts⟩ (c_X12_many l D c o g N hv) zc12 zV_X12_104 rfl zd_X12_many ⟨Nat.le_of_ble_eq_true rfl, Nat.le_of_ble_eq_true rfl⟩ hK hP hE hS hg hl.1 rfl (Nat.le_of_ble_eq_true rfl) ⟨Nat.zero_le _, Nat.zero_le _⟩ dX12_apart_20 (fun H locs hP hS => ?_)
      refine lv_icmp_ge (pc := 23) (tgt := 86) hx hb dX12_apart_23 (by decide) (fun c1 => ?_) (fun c1 => ?_)
      · rw [if_pos c1] at h
        refine lv_iload_n (pc := 86) hx hb dX12_apart_86 rfl (lv_at hl 0 rfl) ?_
        exact xreti (pc := 87) hx hb hr hlocks hP hK hE hS h dX12_apart_87
      · rw [if_neg c1] at h
        refine lv_iconst (pc := 26) (v := 0) hx hb dX12_apart_26 (by decide) ?_
        refine lv_istore (pc := 27) (lv' := [(5, .int 0), (3, .int x3_3), (4, .int x4_3), (0, .ref (o + x0)), (1, .int x1), (2, .int x2)]) hx hb dX12_apart_27 hl (by decide) rfl (fun ls hl => ?_)
        have L29_6 : ∀ (n : Nat) (t : Int32 × Int32 × zS), zlp (F_X12_apart_29 N x0 x1 x2 x4_3 ag3) n t = some ρ → ∀ (H : Heap) (locs : List Loc) (ls : Array Slot), zP D c o (zabs o (t.2.2)) H → va_S (zA o) s.heap H locs → lv_has ls 6 [(3, .int (t.1)), (5, .int (t.2.1)), (0, .ref (o + x0)), (1, .int x1), (2, .int x2), (4, .int x4_3)] → W p l e (zr 8) s m (([.ref (o + x0), .int x1, .int x2] : List Value).toArray) below meth cd H locs 0 0 (MQ below (zQi D c o g ρ) (([.ref (o + x0), .int x1, .int x2] : List Value).toArray) s 0 0 (zA o)) (F0 m 29 ls []) := by
          refine zlp_ind (fun ag6 ih6 t h H locs ls hP hS hl => ?_)
          obtain ⟨x3_6, x5_6, σ6⟩ := t
          have hP : zP D c o (zabs o σ6) H := hP
          have hl : lv_has ls 6 [(3, .int x3_6), (5, .int x5_6), (0, .ref (o + x0)), (1, .int x1), (2, .int x2), (4, .int x4_3)] := hl
          rw [F_X12_apart_29.eq_1] at h
          show W p l e (zr 8) s m (([.ref (o + x0), .int x1, .int x2] : List Value).toArray) below meth cd H locs 0 0 (MQ below (zQi D c o g ρ) (([.ref (o + x0), .int x1, .int x2] : List Value).toArray) s 0 0 (zA o)) (F0 m 29 ls [])
          refine lv_iload (pc := 29) hx hb dX12_apart_29 (lv_at hl 1 rfl) ?_
          refine lv_aload_n (pc := 31) hx hb dX12_apart_31 rfl (lv_at hl 2 rfl) ?_
          obtain ⟨_, hg, h⟩ := zl_some h
          obtain ⟨v7, σ8, hv, h⟩ := zb_some h
          refine xcallVi (pc := 32) (As := []) (rest := [.int x5_6]) ⟨hx, hb, hml, hown, hts⟩ (c_X12_many l D c o g N hv) zc12 zV_X12_104 rfl zd_X12_many ⟨Nat.le_of_ble_eq_true rfl, Nat.le_of_ble_eq_true rfl⟩ hK hP hE hS hg hl.1 rfl (Nat.le_of_ble_eq_true rfl) ⟨Nat.zero_le _, Nat.zero_le _⟩ dX12_apart_32 (fun H locs hP hS => ?_)
          refine lv_icmp_ge (pc := 35) (tgt := 80) hx hb dX12_apart_35 (by decide) (fun c1 => ?_) (fun c1 => ?_)
          · rw [if_pos c1] at h
            refine lv_iinc (pc := 80) (v := x4_3 + 1) (lv' := [(4, .int (x4_3 + 1)), (3, .int x3_6), (5, .int x5_6), (0, .ref (o + x0)), (1, .int x1), (2, .int x2)]) hx hb dX12_apart_80 hl (k := 5) rfl rfl (by decide) rfl (fun ls hl => ?_)
            refine lv_goto (pc := 83) (tgt := 17) hx hb dX12_apart_83 (by decide) ?_
            exact ih3 (x3_6, x4_3 + 1, σ8) h _ _ ls hP hS (lv_sub hl [1, 0, 3, 4, 5] rfl)
          · rw [if_neg c1] at h
            refine lv_aload_n (pc := 38) hx hb dX12_apart_38 rfl (lv_at hl 2 rfl) ?_
            refine lv_iload_n (pc := 39) hx hb dX12_apart_39 rfl (lv_at hl 3 rfl) ?_
            refine lv_iload (pc := 40) hx hb dX12_apart_40 (lv_at hl 5 rfl) ?_
            obtain ⟨_, hg, h⟩ := zl_some h
            obtain ⟨v9, σ10, hv, h⟩ := zb_some h
            refine xcallVi (pc := 42) (As := [.int x1, .int x4_3]) (rest := []) ⟨hx, hb, hml, hown, hts⟩ (c_X12_of l D c o g N hv) zc12 zV_X12_314 rfl zd_X12_of ⟨Nat.le_of_ble_eq_true rfl, Nat.le_of_ble_eq_true rfl⟩ hK hP hE hS hg hl.1 rfl (Nat.le_of_ble_eq_true rfl) ⟨Nat.zero_le _, Nat.zero_le _⟩ dX12_apart_42 (fun H locs hP hS => ?_)
            refine lv_if_eq (pc := 45) (tgt := 80) hx hb dX12_apart_45 (by decide) (fun c1 => ?_) (fun c1 => ?_)
            · rw [if_pos c1] at h
              refine lv_iinc (pc := 80) (v := x4_3 + 1) (lv' := [(4, .int (x4_3 + 1)), (3, .int x3_6), (5, .int x5_6), (0, .ref (o + x0)), (1, .int x1), (2, .int x2)]) hx hb dX12_apart_80 hl (k := 5) rfl rfl (by decide) rfl (fun ls hl => ?_)
              refine lv_goto (pc := 83) (tgt := 17) hx hb dX12_apart_83 (by decide) ?_
              exact ih3 (x3_6, x4_3 + 1, σ10) h _ _ ls hP hS (lv_sub hl [1, 0, 3, 4, 5] rfl)
            · rw [if_neg c1] at h
              refine lv_iload_n (pc := 48) hx hb dX12_apart_48 rfl (lv_at hl 0 rfl) ?_
              refine lv_aload_n (pc := 49) hx hb dX12_apart_49 rfl (lv_at hl 2 rfl) ?_
              refine lv_iload_n (pc := 50) hx hb dX12_apart_50 rfl (lv_at hl 4 rfl) ?_
              refine lv_iload (pc := 51) hx hb dX12_apart_51 (lv_at hl 1 rfl) ?_
              obtain ⟨_, hg, h⟩ := zl_some h
              obtain ⟨v11, σ12, hv, h⟩ := zb_some h
              refine xcallVi (pc := 53) (As := [.int x2, .int x5_6]) (rest := [.int x3_6]) ⟨hx, hb, hml, hown, hts⟩ (c_X12_of l D c o g N hv) zc12 zV_X12_314 rfl zd_X12_of ⟨Nat.le_of_ble_eq_true rfl, Nat.le_of_ble_eq_true rfl⟩ hK hP hE hS hg hl.1 rfl (Nat.le_of_ble_eq_true rfl) ⟨Nat.zero_le _, Nat.zero_le _⟩ dX12_apart_53 (fun H locs hP hS => ?_)
              refine lv_if_eq (pc := 56) (tgt := 71) hx hb dX12_apart_56 (by decide) (fun c1 => ?_) (fun c1 => ?_)
              · rw [if_pos c1] at h
                refine lv_iconst (pc := 71) (v := 0) hx hb dX12_apart_71 (by decide) ?_
                refine lv_iadd (pc := 72) hx hb dX12_apart_72 ?_
                refine lv_istore_n (pc := 73) (lv' := [(3, .int (x3_6 + 0)), (5, .int x5_6), (0, .ref (o + x0)), (1, .int x1), (2, .int x2), (4, .int x4_3)]) hx hb dX12_apart_73 rfl hl (by decide) rfl (fun ls hl => ?_)
                refine lv_iinc (pc := 74) (v := x5_6 + 1) (lv' := [(5, .int (x5_6 + 1)), (3, .int (x3_6 + 0)), (0, .ref (o + x0)), (1, .int x1), (2, .int x2), (4, .int x4_3)]) hx hb dX12_apart_74 hl (k := 1) rfl rfl (by decide) rfl (fun ls hl => ?_)
                refine lv_goto (pc := 77) (tgt := 29) hx hb dX12_apart_77 (by decide) ?_
                exact ih6 (x3_6 + 0, x5_6 + 1, σ12) h _ _ ls hP hS (lv_sub hl [1, 0, 2, 3, 4, 5] rfl)
              · rw [if_neg c1] at h
                refine lv_iload (pc := 59) hx hb dX12_apart_59 (lv_at hl 5 rfl) ?_
                refine lv_iload (pc := 61) hx hb dX12_apart_61 (lv_at hl 1 rfl) ?_
                refine lv_iand (pc := 63) hx hb dX12_apart_63 ?_
                refine lv_if_ne (pc := 64) (tgt := 71) hx hb dX12_apart_64 (by decide) (fun c1 => ?_) (fun c1 => ?_)
                · rw [if_neg c1] at h
                  refine lv_iconst (pc := 71) (v := 0) hx hb dX12_apart_71 (by decide) ?_
                  refine lv_iadd (pc := 72) hx hb dX12_apart_72 ?_
                  refine lv_istore_n (pc := 73) (lv' := [(3, .int (x3_6 + 0)), (5, .int x5_6), (0, .ref (o + x0)), (1, .int x1), (2, .int x2), (4, .int x4_3)]) hx hb dX12_apart_73 rfl hl (by decide) rfl (fun ls hl => ?_)
                  refine lv_iinc (pc := 74) (v := x5_6 + 1) (lv' := [(5, .int (x5_6 + 1)), (3, .int (x3_6 + 0)), (0, .ref (o + x0)), (1, .int x1), (2, .int x2), (4, .int x4_3)]) hx hb dX12_apart_74 hl (k := 1) rfl rfl (by decide) rfl (fun ls hl => ?_)
                  refine lv_goto (pc := 77) (tgt := 29) hx hb dX12_apart_77 (by decide) ?_
                  exact ih6 (x3_6 + 0, x5_6 + 1, σ12) h _ _ ls hP hS (lv_sub hl [1, 0, 2, 3, 4, 5] rfl)
                · rw [if_pos c1] at h
                  refine lv_iconst (pc := 67) (v := 1) hx hb dX12_apart_67 (by decide) ?_
                  refine lv_goto (pc := 68) (tgt := 72) hx hb dX12_apart_68 (by decide) ?_
                  refine lv_iadd (pc := 72) hx hb dX12_apart_72 ?_
                  refine lv_istore_n (pc := 73) (lv' := [(3, .int (x3_6 + 1)), (5, .int x5_6), (0, .ref (o + x0)), (1, .int x1), (2, .int x2), (4, .int x4_3)]) hx hb dX12_apart_73 rfl hl (by decide) rfl (fun ls hl => ?_)
                  refine lv_iinc (pc := 74) (v := x5_6 + 1) (lv' := [(5, .int (x5_6 + 1)), (3, .int (x3_6 + 1)), (0, .ref (o + x0)), (1, .int x1), (2, .int x2), (4, .int x4_3)]) hx hb dX12_apart_74 hl (k := 1) rfl rfl (by decide) rfl (fun ls hl => ?_)
                  refine lv_goto (pc := 77) (tgt := 29) hx hb dX12_apart_77 (by decide) ?_
                  exact ih6 (x3_6 + 1, x5_6 + 1, σ12) h _ _ ls hP hS (lv_sub hl [1, 0, 2, 3, 4, 5] rfl)
        exact L29_6 N (x3_3, 0, σ5) h _ _ ls hP hS (lv_sub hl [1, 0, 3, 4, 5, 2] rfl)
    exact L17_3 N (0, 0, σ2) h _ _ ls hP hS (lv_sub hl [1, 0, 2, 3, 4] rfl)
  · rw [if_pos c1] at h
    refine lv_bipush (pc := 9) (v := (-2)) hx hb dX12_apart_9 (by decide) ?_
    exact xreti (pc := 11) hx hb hr hlocks hP hK hE hS h dX12_apart_11
def J_X12_packs_199 (N : Nat) (again95 : (Int32 × Int32 × Int32 × zS) → Option (Int32 × zS)) (x0 : Nat) (x2 : Int32) (x3 : Int32) (x4 : Int32) (x6 : Int32) (x7 : Int32) (x9 : Int32) (x10 : Int32) (y0 : Int32) (σ : zS) : Option (Int32 × zS) :=
  if x10 = 0 then
    (again95 (y0, x6, x7 + 1, σ))
  else
    (again95 (y0, zmax x6 x9, x7 + 1, σ))
def F_X12_packs_115 (N : Nat) (x0 : Nat) (x2 : Int32) (x3 : Int32) (x4 : Int32) (x5 : Int32) (x6 : Int32) (x7 : Int32) (again95 : (Int32 × Int32 × Int32 × zS) → Option (Int32 × zS)) (again115 : (Int32 × Int32 × Int32 × Int32 × zS) → Option (Int32 × zS)) : Int32 × Int32 × Int32 × Int32 × zS → Option (Int32 × zS)
  | (x8, x9, x10, x11, σ) =>
  if x3 ≤ x11 then
    (if x8 = x4 then
      (J_X12_packs_199 N again95 x0 x2 x3 x4 x6 x7 x9 x10 (zmin x5 x9) σ)
    else
      (J_X12_packs_199 N again95 x0 x2 x3 x4 x6 x7 x9 x10 x5 σ))
  else
    (if (((x7 : Int32) >>> (x11 &&& 31)) &&& 1) = 0 then
      (again115 (x8, x9, x10, x11 + 1, σ))
    else
      (if x10 = 0 then
        (zl (gR 12 28 x0 σ) fun v7 =>
        zl (aI 14 v7 x11 σ) fun v8 =>
        again115 (x8 ||| v8, x9 + 1, 0, x11 + 1, σ))
      else
        (zl (gR 12 28 x0 σ) fun v9 =>
        zl (aI 14 v9 x11 σ) fun v10 =>
        if (x8 &&& v10) = 0 then
          (zl (gR 12 28 x0 σ) fun v11 =>
          zl (aI 14 v11 x11 σ) fun v12 =>
          again115 (x8 ||| v12, x9 + 1, 1, x11 + 1, σ))
        else
          (zl (gR 12 28 x0 σ) fun v13 =>
          zl (aI 14 v13 x11 σ) fun v14 =>
          again115 (x8 ||| v14, x9 + 1, 0, x11 + 1, σ)))))
def F_X12_packs_95 (N : Nat) (x0 : Nat) (x2 : Int32) (x3 : Int32) (x4 : Int32) (again95 : (Int32 × Int32 × Int32 × zS) → Option (Int32 × zS)) : Int32 × Int32 × Int32 × zS → Option (Int32 × zS)
  | (x5, x6, x7, σ) =>
  if ((1 : Int32) <<< (x3 &&& 31)) ≤ x7 then
    (if x2 = 0 then
      (some (x5, σ))
    else
      (some (x6, σ)))
  else
    (zlp (F_X12_packs_115 N x0 x2 x3 x4 x5 x6 x7 again95) N (0, 0, 1, 0, σ))
def F_X12_packs_48 (N : Nat) (x0 : Nat) (x1 : Int32) (x2 : Int32) (x3 : Int32) (again48 : (Int32 × Int32 × zS) → Option (Int32 × zS)) : Int32 × Int32 × zS → Option (Int32 × zS)
  | (x4, x5, σ) =>
  if x3 ≤ x5 then
    (zlp (F_X12_packs_95 N x0 x2 x3 x4) N (x3, 0, 0, σ))
  else
    (zl (gR 12 28 x0 σ) fun v15 =>
    zl (gC 12 x0) fun _ => zb (f_X12_nthOf N x0 x1 x5 σ) fun v16 σ17 =>
    zl (sI 14 v15 x5 v16 σ17) fun σ18 =>
    zl (gR 12 28 x0 σ18) fun v19 =>
    zl (aI 14 v19 x5 σ18) fun v20 =>
    again48 (x4 ||| v20, x5 + 1, σ18))
def f_X12_packs (N : Nat) (x0 : Nat) (x1 : Int32) (x2 : Int32) (σ : zS) : Option (Int32 × zS) :=
  zl (gC 12 x0) fun _ => zb (f_X12_isRegister N x0 x1 σ) fun v1 σ2 =>
  if v1 = 0 then
    (some ((-2), σ2))
  else
    (zb (f_X12_in N (Int32.toInt64 x2) 0 1 σ2) fun v3 σ4 =>
    if v3 = 0 then
      (some ((-2), σ4))
    else
      (zl (gC 12 x0) fun _ => zb (f_X12_sizeOf N x0 x1 σ4) fun v5 σ6 =>
      if v5 = 0 then
        (some ((-1), σ6))
      else
        (if v5 ≤ 12 then
          (zlp (F_X12_packs_48 N x0 x1 x2 v5) N (0, 0, σ6))
        else
          (some ((-3), σ6)))))
set_option maxHeartbeats 4000000 in
set_option maxRecDepth 100000 in
theorem c_X12_packs (l : Launch) (D : va_G) (c : zC) (o : Nat) (g : zEp) (N : Nat) {x0 : Nat} {x1 : Int32} {x2 : Int32} {σ : zS} {ρ : Int32 × zS} (h : f_X12_packs N x0 x1 x2 σ = some ρ) : Met l yX12_packs zs_X12_packs (zr 8) (va_Pc [.ref (o + x0), .int x1, .int x2] (zG D c o g σ)) (zQi D c o g ρ) 0 0 (zA o) := by
  refine zMetG (by decide) (Nat.le_of_ble_eq_true rfl) ?_
  intro p e s m below meth cd ⟨hx, hb, hr, hml, hown, hts, hlocks⟩ hP hK hE ls hl
  have hS : va_S (zA o) s.heap s.heap [] := va_S.rf
  have hl : lv_has ls 12 [(0, .ref (o + x0)), (1, .int x1), (2, .int x2)] := hl
  rw [f_X12_packs.eq_1] at h
  refine lv_aload_n (pc := 0) hx hb dX12_packs_0 rfl (lv_at hl 0 rfl) ?_
  refine lv_iload_n (pc := 1) hx hb dX12_packs_1 rfl (lv_at hl 1 rfl) ?_
  obtain ⟨_, hg, h⟩ := zl_some h
  obtain ⟨v1, σ2, hv, h⟩ := zb_some h
  refine xcallVi (pc := 2) (As := [.int x1]) (rest := []) ⟨hx, hb, hml, hown, hts⟩ (c_X12_isRegister l D c o g N hv) zc12 zV_X12_321 rfl zd_X12_isRegister ⟨Nat.le_of_ble_eq_true rfl, Nat.le_of_ble_eq_true rfl⟩ hK hP hE hS hg hl.1 rfl (Nat.le_of_ble_eq_true rfl) ⟨Nat.zero_le _, Nat.zero_le _⟩ dX12_packs_2 (fun H locs hP hS => ?_)
  refine lv_if_eq (pc := 5) (tgt := 18) hx hb dX12_packs_5 (by decide) (fun c1 => ?_) (fun c1 => ?_)
  · rw [if_pos c1] at h
    refine lv_bipush (pc := 18) (v := (-2)) hx hb dX12_packs_18 (by decide) ?_
    exact xreti (pc := 20) hx hb hr hlocks hP hK hE hS h dX12_packs_20
  · rw [if_neg c1] at h
    refine lv_iload_n (pc := 8) hx hb dX12_packs_8 rfl (lv_at hl 2 rfl) ?_
    refine lv_i2l (pc := 9) hx hb dX12_packs_9 rfl ?_
    refine lv_lconst (pc := 10) (v := 0) hx hb dX12_packs_10 (by decide) ?_
    refine lv_lconst (pc := 11) (v := 1) hx hb dX12_packs_11 (by decide) ?_
    obtain ⟨v3, σ4, hv, h⟩ := zb_some h
    refine xcallSi (pc := 12) (As := [.long (Int32.toInt64 x2), .long 0, .long 1]) (rest := []) ⟨hx, hb, hml, hown, hts⟩ (c_X12_in l D c o g N hv) zT_X12_94 rfl zd_X12_in ⟨Nat.le_of_ble_eq_true rfl, Nat.le_of_ble_eq_true rfl⟩ hK hP hE hS hl.1 rfl (Nat.le_of_ble_eq_true rfl) ⟨Nat.zero_le _, Nat.zero_le _⟩ dX12_packs_12 (fun H locs hP hS => ?_)
    refine lv_if_ne (pc := 15) (tgt := 21) hx hb dX12_packs_15 (by decide) (fun c1 => ?_) (fun c1 => ?_)
    · rw [if_neg c1] at h
      refine lv_aload_n (pc := 21) hx hb dX12_packs_21 rfl (lv_at hl 0 rfl) ?_
      refine lv_iload_n (pc := 22) hx hb dX12_packs_22 rfl (lv_at hl 1 rfl) ?_
      obtain ⟨_, hg, h⟩ := zl_some h
      obtain ⟨v5, σ6, hv, h⟩ := zb_some h
      refine xcallVi (pc := 23) (As := [.int x1]) (rest := []) ⟨hx, hb, hml, hown, hts⟩ (c_X12_sizeOf l D c o g N hv) zc12 zV_X12_318 rfl zd_X12_sizeOf ⟨Nat.le_of_ble_eq_true rfl, Nat.le_of_ble_eq_true rfl⟩ hK hP hE hS hg hl.1 rfl (Nat.le_of_ble_eq_true rfl) ⟨Nat.zero_le _, Nat.zero_le _⟩ dX12_packs_23 (fun H locs hP hS => ?_)
      refine lv_istore_n (pc := 26) (lv' := [(3, .int v5), (0, .ref (o + x0)), (1, .int x1), (2, .int x2)]) hx hb dX12_packs_26 rfl hl (by decide) rfl (fun ls hl => ?_)
      refine lv_iload_n (pc := 27) hx hb dX12_packs_27 rfl (lv_at hl 0 rfl) ?_
      refine lv_if_ne (pc := 28) (tgt := 33) hx hb dX12_packs_28 (by decide) (fun c1 => ?_) (fun c1 => ?_)
      · rw [if_neg c1] at h
        refine lv_iload_n (pc := 33) hx hb dX12_packs_33 rfl (lv_at hl 0 rfl) ?_
        refine lv_bipush (pc := 34) (v := 12) hx hb dX12_packs_34 (by decide) ?_
        refine lv_icmp_le (pc := 36) (tgt := 42) hx hb dX12_packs_36 (by decide) (fun c1 => ?_) (fun c1 => ?_)
        · rw [if_pos c1] at h
          refine lv_iconst (pc := 42) (v := 0) hx hb dX12_packs_42 (by decide) ?_
          refine lv_istore (pc := 43) (lv' := [(4, .int 0), (3, .int v5), (0, .ref (o + x0)), (1, .int x1), (2, .int x2)]) hx hb dX12_packs_43 hl (by decide) rfl (fun ls hl => ?_)
          refine lv_iconst (pc := 45) (v := 0) hx hb dX12_packs_45 (by decide) ?_
          refine lv_istore (pc := 46) (lv' := [(5, .int 0), (4, .int 0), (3, .int v5), (0, .ref (o + x0)), (1, .int x1), (2, .int x2)]) hx hb dX12_packs_46 hl (by decide) rfl (fun ls hl => ?_)
          have L48_7 : ∀ (n : Nat) (t : Int32 × Int32 × zS), zlp (F_X12_packs_48 N x0 x1 x2 v5) n t = some ρ → ∀ (H : Heap) (locs : List Loc) (ls : Array Slot), zP D c o (zabs o (t.2.2)) H → va_S (zA o) s.heap H locs → lv_has ls 12 [(4, .int (t.1)), (5, .int (t.2.1)), (0, .ref (o + x0)), (1, .int x1), (2, .int x2), (3, .int v5)] → W p l e (zr 8) s m (([.ref (o + x0), .int x1, .int x2] : List Value).toArray) below meth cd H locs 0 0 (MQ below (zQi D c o g ρ) (([.ref (o + x0), .int x1, .int x2] : List Value).toArray) s 0 0 (zA o)) (F0 m 48 ls []) := by
            refine zlp_ind (fun ag7 ih7 t h H locs ls hP hS hl => ?_)
            obtain ⟨x4_7, x5_7, σ7⟩ := t
            have hP : zP D c o (zabs o σ7) H := hP
            have hl : lv_has ls 12 [(4, .int x4_7), (5, .int x5_7), (0, .ref (o + x0)), (1, .int x1), (2, .int x2), (3, .int v5)] := hl
            rw [F_X12_packs_48.eq_1] at h
            show W p l e (zr 8) s m (([.ref (o + x0), .int x1, .int x2] : List Value).toArray) below meth cd H locs 0 0 (MQ below (zQi D c o g ρ) (([.ref (o + x0), .int x1, .int x2] : List Value).toArray) s 0 0 (zA o)) (F0 m 48 ls [])
            refine lv_iload (pc := 48) hx hb dX12_packs_48 (lv_at hl 1 rfl) ?_
            refine lv_iload_n (pc := 50) hx hb dX12_packs_50 rfl (lv_at hl 5 rfl) ?_
            refine lv_icmp_ge (pc := 51) (tgt := 86) hx hb dX12_packs_51 (by decide) (fun c1 => ?_) (fun c1 => ?_)
            · rw [if_pos c1] at h
              refine lv_iload_n (pc := 86) hx hb dX12_packs_86 rfl (lv_at hl 5 rfl) ?_
              refine lv_istore (pc := 87) (lv' := [(5, .int v5), (4, .int x4_7), (0, .ref (o + x0)), (1, .int x1), (2, .int x2), (3, .int v5)]) hx hb dX12_packs_87 hl (by decide) rfl (fun ls hl => ?_)
              refine lv_iconst (pc := 89) (v := 0) hx hb dX12_packs_89 (by decide) ?_
              refine lv_istore (pc := 90) (lv' := [(6, .int 0), (5, .int v5), (4, .int x4_7), (0, .ref (o + x0)), (1, .int x1), (2, .int x2), (3, .int v5)]) hx hb dX12_packs_90 hl (by decide) rfl (fun ls hl => ?_)
              refine lv_iconst (pc := 92) (v := 0) hx hb dX12_packs_92 (by decide) ?_
              refine lv_istore (pc := 93) (lv' := [(7, .int 0), (6, .int 0), (5, .int v5), (4, .int x4_7), (0, .ref (o + x0)), (1, .int x1), (2, .int x2), (3, .int v5)]) hx hb dX12_packs_93 hl (by decide) rfl (fun ls hl => ?_)
              have L95_8 : ∀ (n : Nat) (t : Int32 × Int32 × Int32 × zS), zlp (F_X12_packs_95 N x0 x2 v5 x4_7) n t = some ρ → ∀ (H : Heap) (locs : List Loc) (ls : Array Slot), zP D c o (zabs o (t.2.2.2)) H → va_S (zA o) s.heap H locs → lv_has ls 12 [(5, .int (t.1)), (6, .int (t.2.1)), (7, .int (t.2.2.1)), (0, .ref (o + x0)), (2, .int x2), (3, .int v5), (4, .int x4_7)] → W p l e (zr 8) s m (([.ref (o + x0), .int x1, .int x2] : List Value).toArray) below meth cd H locs 0 0 (MQ below (zQi D c o g ρ) (([.ref (o + x0), .int x1, .int x2] : List Value).toArray) s 0 0 (zA o)) (F0 m 95 ls []) := by
                refine zlp_ind (fun ag8 ih8 t h H locs ls hP hS hl => ?_)
                obtain ⟨x5_8, x6_8, x7_8, σ8⟩ := t
                have hP : zP D c o (zabs o σ8) H := hP
                have hl : lv_has ls 12 [(5, .int x5_8), (6, .int x6_8), (7, .int x7_8), (0, .ref (o + x0)), (2, .int x2), (3, .int v5), (4, .int x4_7)] := hl
                rw [F_X12_packs_95.eq_1] at h
                show W p l e (zr 8) s m (([.ref (o + x0), .int x1, .int x2] : List Value).toArray) below meth cd H locs 0 0 (MQ below (zQi D c o g ρ) (([.ref (o + x0), .int x1, .int x2] : List Value).toArray) s 0 0 (zA o)) (F0 m 95 ls [])
                refine lv_iload (pc := 95) hx hb dX12_packs_95 (lv_at hl 2 rfl) ?_
                refine lv_iconst (pc := 97) (v := 1) hx hb dX12_packs_97 (by decide) ?_
                refine lv_iload_n (pc := 98) hx hb dX12_packs_98 rfl (lv_at hl 5 rfl) ?_
                refine lv_ishl (pc := 99) hx hb dX12_packs_99 ?_
                refine lv_icmp_ge (pc := 100) (tgt := 226) hx hb dX12_packs_100 (by decide) (fun c1 => ?_) (fun c1 => ?_)
                · rw [if_pos c1] at h
                  refine lv_iload_n (pc := 226) hx hb dX12_packs_226 rfl (lv_at hl 4 rfl) ?_
                  refine lv_if_ne (pc := 227) (tgt := 235) hx hb dX12_packs_227 (by decide) (fun c1 => ?_) (fun c1 => ?_)
                  · rw [if_neg c1] at h
                    refine lv_iload (pc := 235) hx hb dX12_packs_235 (lv_at hl 1 rfl) ?_
                    exact xreti (pc := 237) hx hb hr hlocks hP hK hE hS h dX12_packs_237
                  · rw [if_pos c1] at h
                    refine lv_iload (pc := 230) hx hb dX12_packs_230 (lv_at hl 0 rfl) ?_
                    refine lv_goto (pc := 232) (tgt := 237) hx hb dX12_packs_232 (by decide) ?_
                    exact xreti (pc := 237) hx hb hr hlocks hP hK hE hS h dX12_packs_237
                · rw [if_neg c1] at h
                  refine lv_iconst (pc := 103) (v := 0) hx hb dX12_packs_103 (by decide) ?_
                  refine lv_istore (pc := 104) (lv' := [(8, .int 0), (5, .int x5_8), (6, .int x6_8), (7, .int x7_8), (0, .ref (o + x0)), (2, .int x2), (3, .int v5), (4, .int x4_7)]) hx hb dX12_packs_104 hl (by decide) rfl (fun ls hl => ?_)
                  refine lv_iconst (pc := 106) (v := 0) hx hb dX12_packs_106 (by decide) ?_
                  refine lv_istore (pc := 107) (lv' := [(9, .int 0), (8, .int 0), (5, .int x5_8), (6, .int x6_8), (7, .int x7_8), (0, .ref (o + x0)), (2, .int x2), (3, .int v5), (4, .int x4_7)]) hx hb dX12_packs_107 hl (by decide) rfl (fun ls hl => ?_)
                  refine lv_iconst (pc := 109) (v := 1) hx hb dX12_packs_109 (by decide) ?_
                  refine lv_istore (pc := 110) (lv' := [(10, .int 1), (9, .int 0), (8, .int 0), (5, .int x5_8), (6, .int x6_8), (7, .int x7_8), (0, .ref (o + x0)), (2, .int x2), (3, .int v5), (4, .int x4_7)]) hx hb dX12_packs_110 hl (by decide) rfl (fun ls hl => ?_)
                  refine lv_iconst (pc := 112) (v := 0) hx hb dX12_packs_112 (by decide) ?_
                  refine lv_istore (pc := 113) (lv' := [(11, .int 0), (10, .int 1), (9, .int 0), (8, .int 0), (5, .int x5_8), (6, .int x6_8), (7, .int x7_8), (0, .ref (o + x0)), (2, .int x2), (3, .int v5), (4, .int x4_7)]) hx hb dX12_packs_113 hl (by decide) rfl (fun ls hl => ?_)
                  have L115_9 : ∀ (n : Nat) (t : Int32 × Int32 × Int32 × Int32 × zS), zlp (F_X12_packs_115 N x0 x2 v5 x4_7 x5_8 x6_8 x7_8 ag8) n t = some ρ → ∀ (H : Heap) (locs : List Loc) (ls : Array Slot), zP D c o (zabs o (t.2.2.2.2)) H → va_S (zA o) s.heap H locs → lv_has ls 12 [(8, .int (t.1)), (9, .int (t.2.1)), (10, .int (t.2.2.1)), (11, .int (t.2.2.2.1)), (0, .ref (o + x0)), (2, .int x2), (3, .int v5), (4, .int x4_7), (5, .int x5_8), (6, .int x6_8), (7, .int x7_8)] → W p l e (zr 8) s m (([.ref (o + x0), .int x1, .int x2] : List Value).toArray) below meth cd H locs 0 0 (MQ below (zQi D c o g ρ) (([.ref (o + x0), .int x1, .int x2] : List Value).toArray) s 0 0 (zA o)) (F0 m 115 ls []) := by
                    refine zlp_ind (fun ag9 ih9 t h H locs ls hP hS hl => ?_)
                    obtain ⟨x8_9, x9_9, x10_9, x11_9, σ9⟩ := t
                    have hP : zP D c o (zabs o σ9) H := hP
                    have hl : lv_has ls 12 [(8, .int x8_9), (9, .int x9_9), (10, .int x10_9), (11, .int x11_9), (0, .ref (o + x0)), (2, .int x2), (3, .int v5), (4, .int x4_7), (5, .int x5_8), (6, .int x6_8), (7, .int x7_8)] := hl
                    rw [F_X12_packs_115.eq_1] at h
                    show W p l e (zr 8) s m (([.ref (o + x0), .int x1, .int x2] : List Value).toArray) below meth cd H locs 0 0 (MQ below (zQi D c o g ρ) (([.ref (o + x0), .int x1, .int x2] : List Value).toArray) s 0 0 (zA o)) (F0 m 115 ls [])
                    refine lv_iload (pc := 115) hx hb dX12_packs_115 (lv_at hl 3 rfl) ?_
                    refine lv_iload_n (pc := 117) hx hb dX12_packs_117 rfl (lv_at hl 6 rfl) ?_
                    refine lv_icmp_ge (pc := 118) (tgt := 180) hx hb dX12_packs_118 (by decide) (fun c1 => ?_) (fun c1 => ?_)
                    · rw [if_pos c1] at h
                      refine lv_iload (pc := 180) hx hb dX12_packs_180 (lv_at hl 0 rfl) ?_
                      refine lv_iload (pc := 182) hx hb dX12_packs_182 (lv_at hl 7 rfl) ?_
                      have hj199_10 : ∀ (y0_10 : Int32) (σ10 : zS), J_X12_packs_199 N ag8 x0 x2 v5 x4_7 x6_8 x7_8 x9_9 x10_9 y0_10 σ10 = some ρ → ∀ (H : Heap) (locs : List Loc) (ls : Array Slot), zP D c o (zabs o σ10) H → va_S (zA o) s.heap H locs → lv_has ls 12 [(0, .ref (o + x0)), (2, .int x2), (3, .int v5), (4, .int x4_7), (6, .int x6_8), (7, .int x7_8), (9, .int x9_9), (10, .int x10_9)] → W p l e (zr 8) s m (([.ref (o + x0), .int x1, .int x2] : List Value).toArray) below meth cd H locs 0 0 (MQ below (zQi D c o g ρ) (([.ref (o + x0), .int x1, .int x2] : List Value).toArray) s 0 0 (zA o)) (F0 m 199 ls [.int y0_10]) := by
                        intro y0_10 σ10 h H locs ls hP hS hl
                        rw [J_X12_packs_199.eq_1] at h
                        refine lv_istore (pc := 199) (lv' := [(5, .int y0_10), (0, .ref (o + x0)), (2, .int x2), (3, .int v5), (4, .int x4_7), (6, .int x6_8), (7, .int x7_8), (9, .int x9_9), (10, .int x10_9)]) hx hb dX12_packs_199 hl (by decide) rfl (fun ls hl => ?_)
                        refine lv_iload (pc := 201) hx hb dX12_packs_201 (lv_at hl 8 rfl) ?_
                        refine lv_if_eq (pc := 203) (tgt := 216) hx hb dX12_packs_203 (by decide) (fun c1 => ?_) (fun c1 => ?_)
                        · rw [if_pos c1] at h
                          refine lv_iload (pc := 216) hx hb dX12_packs_216 (lv_at hl 5 rfl) ?_
                          refine lv_istore (pc := 218) (lv' := [(6, .int x6_8), (5, .int y0_10), (0, .ref (o + x0)), (2, .int x2), (3, .int v5), (4, .int x4_7), (7, .int x7_8), (9, .int x9_9), (10, .int x10_9)]) hx hb dX12_packs_218 hl (by decide) rfl (fun ls hl => ?_)
                          refine lv_iinc (pc := 220) (v := x7_8 + 1) (lv' := [(7, .int (x7_8 + 1)), (6, .int x6_8), (5, .int y0_10), (0, .ref (o + x0)), (2, .int x2), (3, .int v5), (4, .int x4_7), (9, .int x9_9), (10, .int x10_9)]) hx hb dX12_packs_220 hl (k := 6) rfl rfl (by decide) rfl (fun ls hl => ?_)
                          refine lv_goto (pc := 223) (tgt := 95) hx hb dX12_packs_223 (by decide) ?_
                          exact ih8 (y0_10, x6_8, x7_8 + 1, σ10) h _ _ ls hP hS (lv_sub hl [2, 1, 0, 3, 4, 5, 6] rfl)
                        · rw [if_neg c1] at h
                          refine lv_iload (pc := 206) hx hb dX12_packs_206 (lv_at hl 5 rfl) ?_
                          refine lv_iload (pc := 208) hx hb dX12_packs_208 (lv_at hl 7 rfl) ?_
                          refine xmax (pc := 210) (rest := []) hx hb (hml.trans hl.1.symm) hown (hts _ zm_X12_348) (hts _ zst_J9_max_7cf53) (hts _ zn_J9) (hts _ (zq_J9_max_7cf53 _ List.mem_cons_self).1) (Nat.le_of_ble_eq_true rfl) (Nat.le_of_ble_eq_true rfl) (Nat.zero_le _) (Nat.zero_le _) dX12_packs_210 ?_
                          refine lv_goto (pc := 213) (tgt := 218) hx hb dX12_packs_213 (by decide) ?_
                          refine lv_istore (pc := 218) (lv' := [(6, .int (zmax x6_8 x9_9)), (5, .int y0_10), (0, .ref (o + x0)), (2, .int x2), (3, .int v5), (4, .int x4_7), (7, .int x7_8), (9, .int x9_9), (10, .int x10_9)]) hx hb dX12_packs_218 hl (by decide) rfl (fun ls hl => ?_)
                          refine lv_iinc (pc := 220) (v := x7_8 + 1) (lv' := [(7, .int (x7_8 + 1)), (6, .int (zmax x6_8 x9_9)), (5, .int y0_10), (0, .ref (o + x0)), (2, .int x2), (3, .int v5), (4, .int x4_7), (9, .int x9_9), (10, .int x10_9)]) hx hb dX12_packs_220 hl (k := 6) rfl rfl (by decide) rfl (fun ls hl => ?_)
                          refine lv_goto (pc := 223) (tgt := 95) hx hb dX12_packs_223 (by decide) ?_
                          exact ih8 (y0_10, zmax x6_8 x9_9, x7_8 + 1, σ10) h _ _ ls hP hS (lv_sub hl [2, 1, 0, 3, 4, 5, 6] rfl)
                      refine lv_icmp_ne (pc := 184) (tgt := 197) hx hb dX12_packs_184 (by decide) (fun c1 => ?_) (fun c1 => ?_)
                      · rw [if_neg c1] at h
                        refine lv_iload (pc := 197) hx hb dX12_packs_197 (lv_at hl 8 rfl) ?_
                        exact hj199_10 (x5_8) σ9 h _ _ ls hP hS (lv_sub hl [4, 5, 6, 7, 9, 10, 1, 2] rfl)
                      · rw [if_pos c1] at h
                        refine lv_iload (pc := 187) hx hb dX12_packs_187 (lv_at hl 8 rfl) ?_
                        refine lv_iload (pc := 189) hx hb dX12_packs_189 (lv_at hl 1 rfl) ?_
                        refine xmin (pc := 191) (rest := []) hx hb (hml.trans hl.1.symm) hown (hts _ zm_X12_138) (hts _ zst_J9_min_7cf53) (hts _ zn_J9) (hts _ (zq_J9_min_7cf53 _ List.mem_cons_self).1) (Nat.le_of_ble_eq_true rfl) (Nat.le_of_ble_eq_true rfl) (Nat.zero_le _) (Nat.zero_le _) dX12_packs_191 ?_
                        refine lv_goto (pc := 194) (tgt := 199) hx hb dX12_packs_194 (by decide) ?_
                        exact hj199_10 (zmin x5_8 x9_9) σ9 h _ _ ls hP hS (lv_sub hl [4, 5, 6, 7, 9, 10, 1, 2] rfl)
                    · rw [if_neg c1] at h
                      refine lv_iload (pc := 121) hx hb dX12_packs_121 (lv_at hl 10 rfl) ?_
                      refine lv_iload (pc := 123) hx hb dX12_packs_123 (lv_at hl 3 rfl) ?_
                      refine lv_ishr (pc := 125) hx hb dX12_packs_125 ?_
                      refine lv_iconst (pc := 126) (v := 1) hx hb dX12_packs_126 (by decide) ?_
                      refine lv_iand (pc := 127) hx hb dX12_packs_127 ?_
                      refine lv_if_ne (pc := 128) (tgt := 134) hx hb dX12_packs_128 (by decide) (fun c1 => ?_) (fun c1 => ?_)
                      · rw [if_neg c1] at h
                        refine lv_iload (pc := 134) hx hb dX12_packs_134 (lv_at hl 2 rfl) ?_
                        refine lv_if_eq (pc := 136) (tgt := 156) hx hb dX12_packs_136 (by decide) (fun c1 => ?_) (fun c1 => ?_)
                        · rw [if_pos c1] at h
                          refine lv_iconst (pc := 156) (v := 0) hx hb dX12_packs_156 (by decide) ?_
                          refine lv_istore (pc := 157) (lv' := [(10, .int 0), (8, .int x8_9), (9, .int x9_9), (11, .int x11_9), (0, .ref (o + x0)), (2, .int x2), (3, .int v5), (4, .int x4_7), (5, .int x5_8), (6, .int x6_8), (7, .int x7_8)]) hx hb dX12_packs_157 hl (by decide) rfl (fun ls hl => ?_)
                          refine lv_iload (pc := 159) hx hb dX12_packs_159 (lv_at hl 1 rfl) ?_
                          refine lv_aload_n (pc := 161) hx hb dX12_packs_161 rfl (lv_at hl 4 rfl) ?_
                          obtain ⟨v11, hv, h⟩ := zl_some h
                          refine xgR (pc := 162) (j := 28) zc12 hx hb hts hown hK hP hv rfl zf_X12_58 dX12_packs_162 ?_
                          refine lv_iload (pc := 165) hx hb dX12_packs_165 (lv_at hl 3 rfl) ?_
                          obtain ⟨v12, hv, h⟩ := zl_some h
                          refine xaI (pc := 167) hx hb hK hP hv dX12_packs_167 ?_
                          refine lv_ior (pc := 168) hx hb dX12_packs_168 ?_
                          refine lv_istore (pc := 169) (lv' := [(8, .int (x8_9 ||| v12)), (10, .int 0), (9, .int x9_9), (11, .int x11_9), (0, .ref (o + x0)), (2, .int x2), (3, .int v5), (4, .int x4_7), (5, .int x5_8), (6, .int x6_8), (7, .int x7_8)]) hx hb dX12_packs_169 hl (by decide) rfl (fun ls hl => ?_)
                          refine lv_iinc (pc := 171) (v := x9_9 + 1) (lv' := [(9, .int (x9_9 + 1)), (8, .int (x8_9 ||| v12)), (10, .int 0), (11, .int x11_9), (0, .ref (o + x0)), (2, .int x2), (3, .int v5), (4, .int x4_7), (5, .int x5_8), (6, .int x6_8), (7, .int x7_8)]) hx hb dX12_packs_171 hl (k := 2) rfl rfl (by decide) rfl (fun ls hl => ?_)
                          refine lv_iinc (pc := 174) (v := x11_9 + 1) (lv' := [(11, .int (x11_9 + 1)), (9, .int (x9_9 + 1)), (8, .int (x8_9 ||| v12)), (10, .int 0), (0, .ref (o + x0)), (2, .int x2), (3, .int v5), (4, .int x4_7), (5, .int x5_8), (6, .int x6_8), (7, .int x7_8)]) hx hb dX12_packs_174 hl (k := 3) rfl rfl (by decide) rfl (fun ls hl => ?_)
                          refine lv_goto (pc := 177) (tgt := 115) hx hb dX12_packs_177 (by decide) ?_
                          exact ih9 (x8_9 ||| v12, x9_9 + 1, 0, x11_9 + 1, σ9) h _ _ ls hP hS (lv_sub hl [2, 1, 3, 0, 4, 5, 6, 7, 8, 9, 10] rfl)
                        · rw [if_neg c1] at h
                          refine lv_iload (pc := 139) hx hb dX12_packs_139 (lv_at hl 0 rfl) ?_
                          refine lv_aload_n (pc := 141) hx hb dX12_packs_141 rfl (lv_at hl 4 rfl) ?_
                          obtain ⟨v13, hv, h⟩ := zl_some h
                          refine xgR (pc := 142) (j := 28) zc12 hx hb hts hown hK hP hv rfl zf_X12_58 dX12_packs_142 ?_
                          refine lv_iload (pc := 145) hx hb dX12_packs_145 (lv_at hl 3 rfl) ?_
                          obtain ⟨v14, hv, h⟩ := zl_some h
                          refine xaI (pc := 147) hx hb hK hP hv dX12_packs_147 ?_
                          refine lv_iand (pc := 148) hx hb dX12_packs_148 ?_
                          refine lv_if_ne (pc := 149) (tgt := 156) hx hb dX12_packs_149 (by decide) (fun c1 => ?_) (fun c1 => ?_)
                          · rw [if_neg c1] at h
                            refine lv_iconst (pc := 156) (v := 0) hx hb dX12_packs_156 (by decide) ?_
                            refine lv_istore (pc := 157) (lv' := [(10, .int 0), (8, .int x8_9), (9, .int x9_9), (11, .int x11_9), (0, .ref (o + x0)), (2, .int x2), (3, .int v5), (4, .int x4_7), (5, .int x5_8), (6, .int x6_8), (7, .int x7_8)]) hx hb dX12_packs_157 hl (by decide) rfl (fun ls hl => ?_)
                            refine lv_iload (pc := 159) hx hb dX12_packs_159 (lv_at hl 1 rfl) ?_
                            refine lv_aload_n (pc := 161) hx hb dX12_packs_161 rfl (lv_at hl 4 rfl) ?_
                            obtain ⟨v15, hv, h⟩ := zl_some h
                            refine xgR (pc := 162) (j := 28) zc12 hx hb hts hown hK hP hv rfl zf_X12_58 dX12_packs_162 ?_
                            refine lv_iload (pc := 165) hx hb dX12_packs_165 (lv_at hl 3 rfl) ?_
                            obtain ⟨v16, hv, h⟩ := zl_some h
                            refine xaI (pc := 167) hx hb hK hP hv dX12_packs_167 ?_
                            refine lv_ior (pc := 168) hx hb dX12_packs_168 ?_
                            refine lv_istore (pc := 169) (lv' := [(8, .int (x8_9 ||| v16)), (10, .int 0), (9, .int x9_9), (11, .int x11_9), (0, .ref (o + x0)), (2, .int x2), (3, .int v5), (4, .int x4_7), (5, .int x5_8), (6, .int x6_8), (7, .int x7_8)]) hx hb dX12_packs_169 hl (by decide) rfl (fun ls hl => ?_)
                            refine lv_iinc (pc := 171) (v := x9_9 + 1) (lv' := [(9, .int (x9_9 + 1)), (8, .int (x8_9 ||| v16)), (10, .int 0), (11, .int x11_9), (0, .ref (o + x0)), (2, .int x2), (3, .int v5), (4, .int x4_7), (5, .int x5_8), (6, .int x6_8), (7, .int x7_8)]) hx hb dX12_packs_171 hl (k := 2) rfl rfl (by decide) rfl (fun ls hl => ?_)
                            refine lv_iinc (pc := 174) (v := x11_9 + 1) (lv' := [(11, .int (x11_9 + 1)), (9, .int (x9_9 + 1)), (8, .int (x8_9 ||| v16)), (10, .int 0), (0, .ref (o + x0)), (2, .int x2), (3, .int v5), (4, .int x4_7), (5, .int x5_8), (6, .int x6_8), (7, .int x7_8)]) hx hb dX12_packs_174 hl (k := 3) rfl rfl (by decide) rfl (fun ls hl => ?_)
                            refine lv_goto (pc := 177) (tgt := 115) hx hb dX12_packs_177 (by decide) ?_
                            exact ih9 (x8_9 ||| v16, x9_9 + 1, 0, x11_9 + 1, σ9) h _ _ ls hP hS (lv_sub hl [2, 1, 3, 0, 4, 5, 6, 7, 8, 9, 10] rfl)
                          · rw [if_pos c1] at h
                            refine lv_iconst (pc := 152) (v := 1) hx hb dX12_packs_152 (by decide) ?_
                            refine lv_goto (pc := 153) (tgt := 157) hx hb dX12_packs_153 (by decide) ?_
                            refine lv_istore (pc := 157) (lv' := [(10, .int 1), (8, .int x8_9), (9, .int x9_9), (11, .int x11_9), (0, .ref (o + x0)), (2, .int x2), (3, .int v5), (4, .int x4_7), (5, .int x5_8), (6, .int x6_8), (7, .int x7_8)]) hx hb dX12_packs_157 hl (by decide) rfl (fun ls hl => ?_)
                            refine lv_iload (pc := 159) hx hb dX12_packs_159 (lv_at hl 1 rfl) ?_
                            refine lv_aload_n (pc := 161) hx hb dX12_packs_161 rfl (lv_at hl 4 rfl) ?_
                            obtain ⟨v17, hv, h⟩ := zl_some h
                            refine xgR (pc := 162) (j := 28) zc12 hx hb hts hown hK hP hv rfl zf_X12_58 dX12_packs_162 ?_
                            refine lv_iload (pc := 165) hx hb dX12_packs_165 (lv_at hl 3 rfl) ?_
                            obtain ⟨v18, hv, h⟩ := zl_some h
                            refine xaI (pc := 167) hx hb hK hP hv dX12_packs_167 ?_
                            refine lv_ior (pc := 168) hx hb dX12_packs_168 ?_
                            refine lv_istore (pc := 169) (lv' := [(8, .int (x8_9 ||| v18)), (10, .int 1), (9, .int x9_9), (11, .int x11_9), (0, .ref (o + x0)), (2, .int x2), (3, .int v5), (4, .int x4_7), (5, .int x5_8), (6, .int x6_8), (7, .int x7_8)]) hx hb dX12_packs_169 hl (by decide) rfl (fun ls hl => ?_)
                            refine lv_iinc (pc := 171) (v := x9_9 + 1) (lv' := [(9, .int (x9_9 + 1)), (8, .int (x8_9 ||| v18)), (10, .int 1), (11, .int x11_9), (0, .ref (o + x0)), (2, .int x2), (3, .int v5), (4, .int x4_7), (5, .int x5_8), (6, .int x6_8), (7, .int x7_8)]) hx hb dX12_packs_171 hl (k := 2) rfl rfl (by decide) rfl (fun ls hl => ?_)
                            refine lv_iinc (pc := 174) (v := x11_9 + 1) (lv' := [(11, .int (x11_9 + 1)), (9, .int (x9_9 + 1)), (8, .int (x8_9 ||| v18)), (10, .int 1), (0, .ref (o + x0)), (2, .int x2), (3, .int v5), (4, .int x4_7), (5, .int x5_8), (6, .int x6_8), (7, .int x7_8)]) hx hb dX12_packs_174 hl (k := 3) rfl rfl (by decide) rfl (fun ls hl => ?_)
                            refine lv_goto (pc := 177) (tgt := 115) hx hb dX12_packs_177 (by decide) ?_
                            exact ih9 (x8_9 ||| v18, x9_9 + 1, 1, x11_9 + 1, σ9) h _ _ ls hP hS (lv_sub hl [2, 1, 3, 0, 4, 5, 6, 7, 8, 9, 10] rfl)
                      · rw [if_pos c1] at h
                        refine lv_goto (pc := 131) (tgt := 174) hx hb dX12_packs_131 (by decide) ?_
                        refine lv_iinc (pc := 174) (v := x11_9 + 1) (lv' := [(11, .int (x11_9 + 1)), (8, .int x8_9), (9, .int x9_9), (10, .int x10_9), (0, .ref (o + x0)), (2, .int x2), (3, .int v5), (4, .int x4_7), (5, .int x5_8), (6, .int x6_8), (7, .int x7_8)]) hx hb dX12_packs_174 hl (k := 3) rfl rfl (by decide) rfl (fun ls hl => ?_)
                        refine lv_goto (pc := 177) (tgt := 115) hx hb dX12_packs_177 (by decide) ?_
                        exact ih9 (x8_9, x9_9, x10_9, x11_9 + 1, σ9) h _ _ ls hP hS (lv_sub hl [1, 2, 3, 0, 4, 5, 6, 7, 8, 9, 10] rfl)
                  exact L115_9 N (0, 0, 1, 0, σ8) h _ _ ls hP hS (lv_sub hl [3, 2, 1, 0, 7, 8, 9, 10, 4, 5, 6] rfl)
              exact L95_8 N (v5, 0, 0, σ7) h _ _ ls hP hS (lv_sub hl [2, 1, 0, 4, 6, 7, 3] rfl)
            · rw [if_neg c1] at h
              refine lv_aload_n (pc := 54) hx hb dX12_packs_54 rfl (lv_at hl 2 rfl) ?_
              obtain ⟨v19, hv, h⟩ := zl_some h
              refine xgR (pc := 55) (j := 28) zc12 hx hb hts hown hK hP hv rfl zf_X12_58 dX12_packs_55 ?_
              refine lv_iload (pc := 58) hx hb dX12_packs_58 (lv_at hl 1 rfl) ?_
              refine lv_aload_n (pc := 60) hx hb dX12_packs_60 rfl (lv_at hl 2 rfl) ?_
              refine lv_iload_n (pc := 61) hx hb dX12_packs_61 rfl (lv_at hl 3 rfl) ?_
              refine lv_iload (pc := 62) hx hb dX12_packs_62 (lv_at hl 1 rfl) ?_
              obtain ⟨_, hg, h⟩ := zl_some h
              obtain ⟨v20, σ21, hv, h⟩ := zb_some h
              refine xcallVi (pc := 64) (As := [.int x1, .int x5_7]) (rest := [.int x5_7, .ref (o + v19)]) ⟨hx, hb, hml, hown, hts⟩ (c_X12_nthOf l D c o g N hv) zc12 zV_X12_340 rfl zd_X12_nthOf ⟨Nat.le_of_ble_eq_true rfl, Nat.le_of_ble_eq_true rfl⟩ hK hP hE hS hg hl.1 rfl (Nat.le_of_ble_eq_true rfl) ⟨Nat.zero_le _, Nat.zero_le _⟩ dX12_packs_64 (fun H locs hP hS => ?_)
              obtain ⟨σ22, hv, h⟩ := zl_some h
              refine xsI (pc := 67) hx hb hK hP hS hv dX12_packs_67 (fun H locs hP hS => ?_)
              refine lv_iload (pc := 68) hx hb dX12_packs_68 (lv_at hl 0 rfl) ?_
              refine lv_aload_n (pc := 70) hx hb dX12_packs_70 rfl (lv_at hl 2 rfl) ?_
              obtain ⟨v23, hv, h⟩ := zl_some h
              refine xgR (pc := 71) (j := 28) zc12 hx hb hts hown hK hP hv rfl zf_X12_58 dX12_packs_71 ?_
              refine lv_iload (pc := 74) hx hb dX12_packs_74 (lv_at hl 1 rfl) ?_
              obtain ⟨v24, hv, h⟩ := zl_some h
              refine xaI (pc := 76) hx hb hK hP hv dX12_packs_76 ?_
              refine lv_ior (pc := 77) hx hb dX12_packs_77 ?_
              refine lv_istore (pc := 78) (lv' := [(4, .int (x4_7 ||| v24)), (5, .int x5_7), (0, .ref (o + x0)), (1, .int x1), (2, .int x2), (3, .int v5)]) hx hb dX12_packs_78 hl (by decide) rfl (fun ls hl => ?_)
              refine lv_iinc (pc := 80) (v := x5_7 + 1) (lv' := [(5, .int (x5_7 + 1)), (4, .int (x4_7 ||| v24)), (0, .ref (o + x0)), (1, .int x1), (2, .int x2), (3, .int v5)]) hx hb dX12_packs_80 hl (k := 1) rfl rfl (by decide) rfl (fun ls hl => ?_)
              refine lv_goto (pc := 83) (tgt := 48) hx hb dX12_packs_83 (by decide) ?_
              exact ih7 (x4_7 ||| v24, x5_7 + 1, σ22) h _ _ ls hP hS (lv_sub hl [1, 0, 2, 3, 4, 5] rfl)
          exact L48_7 N (0, 0, σ6) h _ _ ls hP hS (lv_sub hl [1, 0, 3, 4, 5, 2] rfl)
        · rw [if_neg c1] at h
          refine lv_bipush (pc := 39) (v := (-3)) hx hb dX12_packs_39 (by decide) ?_
          exact xreti (pc := 41) hx hb hr hlocks hP hK hE hS h dX12_packs_41
      · rw [if_pos c1] at h
        refine lv_iconst (pc := 31) (v := (-1)) hx hb dX12_packs_31 (by decide) ?_
        exact xreti (pc := 32) hx hb hr hlocks hP hK hE hS h dX12_packs_32
    · rw [if_pos c1] at h
      refine lv_bipush (pc := 18) (v := (-2)) hx hb dX12_packs_18 (by decide) ?_
      exact xreti (pc := 20) hx hb hr hlocks hP hK hE hS h dX12_packs_20
def F_X12_takesOrder_2 (N : Nat) (x0 : Nat) (again2 : (Int32 × zS) → Option (Unit × zS)) : Int32 × zS → Option (Unit × zS)
  | (x1, σ) =>
  if 10 ≤ x1 then
    (some ((), σ))
  else
    (zl (gR 12 30 x0 σ) fun v1 =>
    zl (gR 12 1 x0 σ) fun v2 =>
    zl (aI 14 v2 (33 + x1) σ) fun v3 =>
    zl (sI 14 v1 x1 v3 σ) fun σ4 =>
    again2 (x1 + 1, σ4))
def f_X12_takesOrder (N : Nat) (x0 : Nat) (σ : zS) : Option (Unit × zS) :=
  zlp (F_X12_takesOrder_2 N x0) N (0, σ)
set_option maxHeartbeats 4000000 in
set_option maxRecDepth 100000 in
theorem c_X12_takesOrder (l : Launch) (D : va_G) (c : zC) (o : Nat) (g : zEp) (N : Nat) {x0 : Nat} {σ : zS} {ρ : Unit × zS} (h : f_X12_takesOrder N x0 σ = some ρ) : Met l yX12_takesOrder zs_X12_takesOrder (zr 2) (va_Pc [.ref (o + x0)] (zG D c o g σ)) (zQu D c o g ρ) 0 0 (zA o) := by
  refine zMetG (by decide) (Nat.le_of_ble_eq_true rfl) ?_
  intro p e s m below meth cd ⟨hx, hb, hr, hml, hown, hts, hlocks⟩ hP hK hE ls hl
  have hS : va_S (zA o) s.heap s.heap [] := va_S.rf
  have hl : lv_has ls 2 [(0, .ref (o + x0))] := hl
  rw [f_X12_takesOrder.eq_1] at h
  refine lv_iconst (pc := 0) (v := 0) hx hb dX12_takesOrder_0 (by decide) ?_
  refine lv_istore_n (pc := 1) (lv' := [(1, .int 0), (0, .ref (o + x0))]) hx hb dX12_takesOrder_1 rfl hl (by decide) rfl (fun ls hl => ?_)
  have L2_1 : ∀ (n : Nat) (t : Int32 × zS), zlp (F_X12_takesOrder_2 N x0) n t = some ρ → ∀ (H : Heap) (locs : List Loc) (ls : Array Slot), zP D c o (zabs o (t.2)) H → va_S (zA o) s.heap H locs → lv_has ls 2 [(1, .int (t.1)), (0, .ref (o + x0))] → W p l e (zr 2) s m (([.ref (o + x0)] : List Value).toArray) below meth cd H locs 0 0 (MQ below (zQu D c o g ρ) (([.ref (o + x0)] : List Value).toArray) s 0 0 (zA o)) (F0 m 2 ls []) := by
    refine zlp_ind (fun ag1 ih1 t h H locs ls hP hS hl => ?_)
    obtain ⟨x1_1, σ1⟩ := t
    have hP : zP D c o (zabs o σ1) H := hP
    have hl : lv_has ls 2 [(1, .int x1_1), (0, .ref (o + x0))] := hl
    rw [F_X12_takesOrder_2.eq_1] at h
    show W p l e (zr 2) s m (([.ref (o + x0)] : List Value).toArray) below meth cd H locs 0 0 (MQ below (zQu D c o g ρ) (([.ref (o + x0)] : List Value).toArray) s 0 0 (zA o)) (F0 m 2 ls [])
    refine lv_iload_n (pc := 2) hx hb dX12_takesOrder_2 rfl (lv_at hl 0 rfl) ?_
    refine lv_bipush (pc := 3) (v := 10) hx hb dX12_takesOrder_3 (by decide) ?_
    refine lv_icmp_ge (pc := 5) (tgt := 29) hx hb dX12_takesOrder_5 (by decide) (fun c1 => ?_) (fun c1 => ?_)
    · rw [if_pos c1] at h
      exact xretv (pc := 29) hx hb hr hlocks hP hK hE hS h dX12_takesOrder_29
    · rw [if_neg c1] at h
      refine lv_aload_n (pc := 8) hx hb dX12_takesOrder_8 rfl (lv_at hl 1 rfl) ?_
      obtain ⟨v2, hv, h⟩ := zl_some h
      refine xgR (pc := 9) (j := 30) zc12 hx hb hts hown hK hP hv rfl zf_X12_64 dX12_takesOrder_9 ?_
      refine lv_iload_n (pc := 12) hx hb dX12_takesOrder_12 rfl (lv_at hl 0 rfl) ?_
      refine lv_aload_n (pc := 13) hx hb dX12_takesOrder_13 rfl (lv_at hl 1 rfl) ?_
      obtain ⟨v3, hv, h⟩ := zl_some h
      refine xgR (pc := 14) (j := 1) zc12 hx hb hts hown hK hP hv rfl zf_X12_9 dX12_takesOrder_14 ?_
      refine lv_bipush (pc := 17) (v := 33) hx hb dX12_takesOrder_17 (by decide) ?_
      refine lv_iload_n (pc := 19) hx hb dX12_takesOrder_19 rfl (lv_at hl 0 rfl) ?_
      refine lv_iadd (pc := 20) hx hb dX12_takesOrder_20 ?_
      obtain ⟨v4, hv, h⟩ := zl_some h
      refine xaI (pc := 21) hx hb hK hP hv dX12_takesOrder_21 ?_
      obtain ⟨σ5, hv, h⟩ := zl_some h
      refine xsI (pc := 22) hx hb hK hP hS hv dX12_takesOrder_22 (fun H locs hP hS => ?_)
      refine lv_iinc (pc := 23) (v := x1_1 + 1) (lv' := [(1, .int (x1_1 + 1)), (0, .ref (o + x0))]) hx hb dX12_takesOrder_23 hl (k := 0) rfl rfl (by decide) rfl (fun ls hl => ?_)
      refine lv_goto (pc := 26) (tgt := 2) hx hb dX12_takesOrder_26 (by decide) ?_
      exact ih1 (x1_1 + 1, σ5) h _ _ ls hP hS (lv_sub hl [0, 1] rfl)
  exact L2_1 N (0, σ) h _ _ ls hP hS (lv_sub hl [0, 1] rfl)
def F_X12_spotOf_4 (N : Nat) (x0 : Nat) (x1 : Int32) (again4 : (Int32 × Int32 × zS) → Option (Int32 × zS)) : Int32 × Int32 × zS → Option (Int32 × zS)
  | (x2, x3, σ) =>
  zl (gR 12 1 x0 σ) fun v1 =>
  zl (aI 14 v1 0 σ) fun v2 =>
  if v2 ≤ x3 then
    (some (x2, σ))
  else
    (zl (gR 12 30 x0 σ) fun v3 =>
    zl (aI 14 v3 x3 σ) fun v4 =>
    again4 ((2 * x2) + (((x1 : Int32) >>> (v4 &&& 31)) &&& 1), x3 + 1, σ))
def f_X12_spotOf (N : Nat) (x0 : Nat) (x1 : Int32) (σ : zS) : Option (Int32 × zS) :=
  zlp (F_X12_spotOf_4 N x0 x1) N (0, 0, σ)
set_option maxHeartbeats 4000000 in
set_option maxRecDepth 100000 in
theorem c_X12_spotOf (l : Launch) (D : va_G) (c : zC) (o : Nat) (g : zEp) (N : Nat) {x0 : Nat} {x1 : Int32} {σ : zS} {ρ : Int32 × zS} (h : f_X12_spotOf N x0 x1 σ = some ρ) : Met l yX12_spotOf zs_X12_spotOf (zr 2) (va_Pc [.ref (o + x0), .int x1] (zG D c o g σ)) (zQi D c o g ρ) 0 0 (zA o) := by
  refine zMetG (by decide) (Nat.le_of_ble_eq_true rfl) ?_
  intro p e s m below meth cd ⟨hx, hb, hr, hml, hown, hts, hlocks⟩ hP hK hE ls hl
  have hS : va_S (zA o) s.heap s.heap [] := va_S.rf
  have hl : lv_has ls 4 [(0, .ref (o + x0)), (1, .int x1)] := hl
  rw [f_X12_spotOf.eq_1] at h
  refine lv_iconst (pc := 0) (v := 0) hx hb dX12_spotOf_0 (by decide) ?_
  refine lv_istore_n (pc := 1) (lv' := [(2, .int 0), (0, .ref (o + x0)), (1, .int x1)]) hx hb dX12_spotOf_1 rfl hl (by decide) rfl (fun ls hl => ?_)
  refine lv_iconst (pc := 2) (v := 0) hx hb dX12_spotOf_2 (by decide) ?_
  refine lv_istore_n (pc := 3) (lv' := [(3, .int 0), (2, .int 0), (0, .ref (o + x0)), (1, .int x1)]) hx hb dX12_spotOf_3 rfl hl (by decide) rfl (fun ls hl => ?_)
  have L4_1 : ∀ (n : Nat) (t : Int32 × Int32 × zS), zlp (F_X12_spotOf_4 N x0 x1) n t = some ρ → ∀ (H : Heap) (locs : List Loc) (ls : Array Slot), zP D c o (zabs o (t.2.2)) H → va_S (zA o) s.heap H locs → lv_has ls 4 [(2, .int (t.1)), (3, .int (t.2.1)), (0, .ref (o + x0)), (1, .int x1)] → W p l e (zr 2) s m (([.ref (o + x0), .int x1] : List Value).toArray) below meth cd H locs 0 0 (MQ below (zQi D c o g ρ) (([.ref (o + x0), .int x1] : List Value).toArray) s 0 0 (zA o)) (F0 m 4 ls []) := by
    refine zlp_ind (fun ag1 ih1 t h H locs ls hP hS hl => ?_)
    obtain ⟨x2_1, x3_1, σ1⟩ := t
    have hP : zP D c o (zabs o σ1) H := hP
    have hl : lv_has ls 4 [(2, .int x2_1), (3, .int x3_1), (0, .ref (o + x0)), (1, .int x1)] := hl
    rw [F_X12_spotOf_4.eq_1] at h
    show W p l e (zr 2) s m (([.ref (o + x0), .int x1] : List Value).toArray) below meth cd H locs 0 0 (MQ below (zQi D c o g ρ) (([.ref (o + x0), .int x1] : List Value).toArray) s 0 0 (zA o)) (F0 m 4 ls [])
    refine lv_iload_n (pc := 4) hx hb dX12_spotOf_4 rfl (lv_at hl 1 rfl) ?_
    refine lv_aload_n (pc := 5) hx hb dX12_spotOf_5 rfl (lv_at hl 2 rfl) ?_
    obtain ⟨v2, hv, h⟩ := zl_some h
    refine xgR (pc := 6) (j := 1) zc12 hx hb hts hown hK hP hv rfl zf_X12_9 dX12_spotOf_6 ?_
    refine lv_iconst (pc := 9) (v := 0) hx hb dX12_spotOf_9 (by decide) ?_
    obtain ⟨v3, hv, h⟩ := zl_some h
    refine xaI (pc := 10) hx hb hK hP hv dX12_spotOf_10 ?_
    refine lv_icmp_ge (pc := 11) (tgt := 35) hx hb dX12_spotOf_11 (by decide) (fun c1 => ?_) (fun c1 => ?_)
    · rw [if_pos c1] at h
      refine lv_iload_n (pc := 35) hx hb dX12_spotOf_35 rfl (lv_at hl 0 rfl) ?_
      exact xreti (pc := 36) hx hb hr hlocks hP hK hE hS h dX12_spotOf_36
    · rw [if_neg c1] at h
      refine lv_iconst (pc := 14) (v := 2) hx hb dX12_spotOf_14 (by decide) ?_
      refine lv_iload_n (pc := 15) hx hb dX12_spotOf_15 rfl (lv_at hl 0 rfl) ?_
      refine lv_imul (pc := 16) hx hb dX12_spotOf_16 ?_
      refine lv_iload_n (pc := 17) hx hb dX12_spotOf_17 rfl (lv_at hl 3 rfl) ?_
      refine lv_aload_n (pc := 18) hx hb dX12_spotOf_18 rfl (lv_at hl 2 rfl) ?_
      obtain ⟨v4, hv, h⟩ := zl_some h
      refine xgR (pc := 19) (j := 30) zc12 hx hb hts hown hK hP hv rfl zf_X12_64 dX12_spotOf_19 ?_
      refine lv_iload_n (pc := 22) hx hb dX12_spotOf_22 rfl (lv_at hl 1 rfl) ?_
      obtain ⟨v5, hv, h⟩ := zl_some h
      refine xaI (pc := 23) hx hb hK hP hv dX12_spotOf_23 ?_
      refine lv_ishr (pc := 24) hx hb dX12_spotOf_24 ?_
      refine lv_iconst (pc := 25) (v := 1) hx hb dX12_spotOf_25 (by decide) ?_
      refine lv_iand (pc := 26) hx hb dX12_spotOf_26 ?_
      refine lv_iadd (pc := 27) hx hb dX12_spotOf_27 ?_
      refine lv_istore_n (pc := 28) (lv' := [(2, .int ((2 * x2_1) + (((x1 : Int32) >>> (v5 &&& 31)) &&& 1))), (3, .int x3_1), (0, .ref (o + x0)), (1, .int x1)]) hx hb dX12_spotOf_28 rfl hl (by decide) rfl (fun ls hl => ?_)
      refine lv_iinc (pc := 29) (v := x3_1 + 1) (lv' := [(3, .int (x3_1 + 1)), (2, .int ((2 * x2_1) + (((x1 : Int32) >>> (v5 &&& 31)) &&& 1))), (0, .ref (o + x0)), (1, .int x1)]) hx hb dX12_spotOf_29 hl (k := 1) rfl rfl (by decide) rfl (fun ls hl => ?_)
      refine lv_goto (pc := 32) (tgt := 4) hx hb dX12_spotOf_32 (by decide) ?_
      exact ih1 ((2 * x2_1) + (((x1 : Int32) >>> (v5 &&& 31)) &&& 1), x3_1 + 1, σ1) h _ _ ls hP hS (lv_sub hl [1, 0, 2, 3] rfl)
  exact L4_1 N (0, 0, σ) h _ _ ls hP hS (lv_sub hl [1, 0, 2, 3] rfl)
def F_X12_laysOut_2 (N : Nat) (x0 : Nat) (x1 : Int32) (again2 : (Int32 × zS) → Option (Unit × zS)) : Int32 × zS → Option (Unit × zS)
  | (x2, σ) =>
  zl (gC 12 x0) fun _ => zb (f_X12_many N x0 σ) fun v1 σ2 =>
  if v1 ≤ x2 then
    (some ((), σ2))
  else
    (zl (gR 12 29 x0 σ2) fun v3 =>
    zl (gC 12 x0) fun _ => zb (f_X12_spotOf N x0 x2 σ2) fun v4 σ5 =>
    zl (gC 12 x0) fun _ => zb (f_X12_of N x0 x1 x2 σ5) fun v6 σ7 =>
    zl (sI 16 v3 v4 v6 σ7) fun σ8 =>
    again2 (x2 + 1, σ8))
def f_X12_laysOut (N : Nat) (x0 : Nat) (x1 : Int32) (σ : zS) : Option (Unit × zS) :=
  zlp (F_X12_laysOut_2 N x0 x1) N (0, σ)
set_option maxHeartbeats 4000000 in
set_option maxRecDepth 100000 in
theorem c_X12_laysOut (l : Launch) (D : va_G) (c : zC) (o : Nat) (g : zEp) (N : Nat) {x0 : Nat} {x1 : Int32} {σ : zS} {ρ : Unit × zS} (h : f_X12_laysOut N x0 x1 σ = some ρ) : Met l yX12_laysOut zs_X12_laysOut (zr 6) (va_Pc [.ref (o + x0), .int x1] (zG D c o g σ)) (zQu D c o g ρ) 0 0 (zA o) := by
  refine zMetG (by decide) (Nat.le_of_ble_eq_true rfl) ?_
  intro p e s m below meth cd ⟨hx, hb, hr, hml, hown, hts, hlocks⟩ hP hK hE ls hl
  have hS : va_S (zA o) s.heap s.heap [] := va_S.rf
  have hl : lv_has ls 3 [(0, .ref (o + x0)), (1, .int x1)] := hl
  rw [f_X12_laysOut.eq_1] at h
  refine lv_iconst (pc := 0) (v := 0) hx hb dX12_laysOut_0 (by decide) ?_
  refine lv_istore_n (pc := 1) (lv' := [(2, .int 0), (0, .ref (o + x0)), (1, .int x1)]) hx hb dX12_laysOut_1 rfl hl (by decide) rfl (fun ls hl => ?_)
  have L2_1 : ∀ (n : Nat) (t : Int32 × zS), zlp (F_X12_laysOut_2 N x0 x1) n t = some ρ → ∀ (H : Heap) (locs : List Loc) (ls : Array Slot), zP D c o (zabs o (t.2)) H → va_S (zA o) s.heap H locs → lv_has ls 3 [(2, .int (t.1)), (0, .ref (o + x0)), (1, .int x1)] → W p l e (zr 6) s m (([.ref (o + x0), .int x1] : List Value).toArray) below meth cd H locs 0 0 (MQ below (zQu D c o g ρ) (([.ref (o + x0), .int x1] : List Value).toArray) s 0 0 (zA o)) (F0 m 2 ls []) := by
    refine zlp_ind (fun ag1 ih1 t h H locs ls hP hS hl => ?_)
    obtain ⟨x2_1, σ1⟩ := t
    have hP : zP D c o (zabs o σ1) H := hP
    have hl : lv_has ls 3 [(2, .int x2_1), (0, .ref (o + x0)), (1, .int x1)] := hl
    rw [F_X12_laysOut_2.eq_1] at h
    show W p l e (zr 6) s m (([.ref (o + x0), .int x1] : List Value).toArray) below meth cd H locs 0 0 (MQ below (zQu D c o g ρ) (([.ref (o + x0), .int x1] : List Value).toArray) s 0 0 (zA o)) (F0 m 2 ls [])
    refine lv_iload_n (pc := 2) hx hb dX12_laysOut_2 rfl (lv_at hl 0 rfl) ?_
    refine lv_aload_n (pc := 3) hx hb dX12_laysOut_3 rfl (lv_at hl 1 rfl) ?_
    obtain ⟨_, hg, h⟩ := zl_some h
    obtain ⟨v2, σ3, hv, h⟩ := zb_some h
    refine xcallVi (pc := 4) (As := []) (rest := [.int x2_1]) ⟨hx, hb, hml, hown, hts⟩ (c_X12_many l D c o g N hv) zc12 zV_X12_104 rfl zd_X12_many ⟨Nat.le_of_ble_eq_true rfl, Nat.le_of_ble_eq_true rfl⟩ hK hP hE hS hg hl.1 rfl (Nat.le_of_ble_eq_true rfl) ⟨Nat.zero_le _, Nat.zero_le _⟩ dX12_laysOut_4 (fun H locs hP hS => ?_)
    refine lv_icmp_ge (pc := 7) (tgt := 32) hx hb dX12_laysOut_7 (by decide) (fun c1 => ?_) (fun c1 => ?_)
    · rw [if_pos c1] at h
      exact xretv (pc := 32) hx hb hr hlocks hP hK hE hS h dX12_laysOut_32
    · rw [if_neg c1] at h
      refine lv_aload_n (pc := 10) hx hb dX12_laysOut_10 rfl (lv_at hl 1 rfl) ?_
      obtain ⟨v4, hv, h⟩ := zl_some h
      refine xgR (pc := 11) (j := 29) zc12 hx hb hts hown hK hP hv rfl zf_X12_61 dX12_laysOut_11 ?_
      refine lv_aload_n (pc := 14) hx hb dX12_laysOut_14 rfl (lv_at hl 1 rfl) ?_
      refine lv_iload_n (pc := 15) hx hb dX12_laysOut_15 rfl (lv_at hl 0 rfl) ?_
      obtain ⟨_, hg, h⟩ := zl_some h
      obtain ⟨v5, σ6, hv, h⟩ := zb_some h
      refine xcallVi (pc := 16) (As := [.int x2_1]) (rest := [.ref (o + v4)]) ⟨hx, hb, hml, hown, hts⟩ (c_X12_spotOf l D c o g N hv) zc12 zV_X12_369 rfl zd_X12_spotOf ⟨Nat.le_of_ble_eq_true rfl, Nat.le_of_ble_eq_true rfl⟩ hK hP hE hS hg hl.1 rfl (Nat.le_of_ble_eq_true rfl) ⟨Nat.zero_le _, Nat.zero_le _⟩ dX12_laysOut_16 (fun H locs hP hS => ?_)
      refine lv_aload_n (pc := 19) hx hb dX12_laysOut_19 rfl (lv_at hl 1 rfl) ?_
      refine lv_iload_n (pc := 20) hx hb dX12_laysOut_20 rfl (lv_at hl 2 rfl) ?_
      refine lv_iload_n (pc := 21) hx hb dX12_laysOut_21 rfl (lv_at hl 0 rfl) ?_
      obtain ⟨_, hg, h⟩ := zl_some h
      obtain ⟨v7, σ8, hv, h⟩ := zb_some h
      refine xcallVi (pc := 22) (As := [.int x1, .int x2_1]) (rest := [.int v5, .ref (o + v4)]) ⟨hx, hb, hml, hown, hts⟩ (c_X12_of l D c o g N hv) zc12 zV_X12_314 rfl zd_X12_of ⟨Nat.le_of_ble_eq_true rfl, Nat.le_of_ble_eq_true rfl⟩ hK hP hE hS hg hl.1 rfl (Nat.le_of_ble_eq_true rfl) ⟨Nat.zero_le _, Nat.zero_le _⟩ dX12_laysOut_22 (fun H locs hP hS => ?_)
      obtain ⟨σ9, hv, h⟩ := zl_some h
      refine xsZ (pc := 25) hx hb hK hP hS hv dX12_laysOut_25 (fun H locs hP hS => ?_)
      refine lv_iinc (pc := 26) (v := x2_1 + 1) (lv' := [(2, .int (x2_1 + 1)), (0, .ref (o + x0)), (1, .int x1)]) hx hb dX12_laysOut_26 hl (k := 0) rfl rfl (by decide) rfl (fun ls hl => ?_)
      refine lv_goto (pc := 29) (tgt := 2) hx hb dX12_laysOut_29 (by decide) ?_
      exact ih1 (x2_1 + 1, σ9) h _ _ ls hP hS (lv_sub hl [0, 1, 2] rfl)
  exact L2_1 N (0, σ) h _ _ ls hP hS (lv_sub hl [0, 1, 2] rfl)
def J_X12_isKnown_63 (N : Nat) (again2 : (Int32 × zS) → Option (Int32 × zS)) (x0 : Nat) (x1 : Int32) (x2 : Int32) (x3 : Int32) (x4 : Int32) (σ : zS) : Option (Int32 × zS) :=
  if x4 = 0 then
    (again2 (x3 + 1, σ))
  else
    (rZ 1 σ)
def F_X12_isKnown_16 (N : Nat) (x0 : Nat) (x1 : Int32) (x2 : Int32) (x3 : Int32) (again2 : (Int32 × zS) → Option (Int32 × zS)) (again16 : (Int32 × Int32 × zS) → Option (Int32 × zS)) : Int32 × Int32 × zS → Option (Int32 × zS)
  | (x4, x5, σ) =>
  if x2 ≤ x5 then
    (J_X12_isKnown_63 N again2 x0 x1 x2 x3 x4 σ)
  else
    (if x4 = 0 then
      (J_X12_isKnown_63 N again2 x0 x1 x2 x3 x4 σ)
    else
      (zl (gR 12 31 x0 σ) fun v2 =>
      zl (aI 16 v2 ((x2 * x3) + x5) σ) fun v3 =>
      zl (gR 12 29 x0 σ) fun v4 =>
      zl (aI 16 v4 (x1 + x5) σ) fun v5 =>
      if v3 = v5 then
        (again16 (1, x5 + 1, σ))
      else
        (again16 (0, x5 + 1, σ))))
def F_X12_isKnown_2 (N : Nat) (x0 : Nat) (x1 : Int32) (x2 : Int32) (again2 : (Int32 × zS) → Option (Int32 × zS)) : Int32 × zS → Option (Int32 × zS)
  | (x3, σ) =>
  zl (gI 12 32 x0 σ) fun v1 =>
  if v1 ≤ x3 then
    (rZ 0 σ)
  else
    (zlp (F_X12_isKnown_16 N x0 x1 x2 x3 again2) N (1, 0, σ))
def f_X12_isKnown (N : Nat) (x0 : Nat) (x1 : Int32) (x2 : Int32) (σ : zS) : Option (Int32 × zS) :=
  zlp (F_X12_isKnown_2 N x0 x1 x2) N (0, σ)
set_option maxHeartbeats 4000000 in
set_option maxRecDepth 100000 in
theorem c_X12_isKnown (l : Launch) (D : va_G) (c : zC) (o : Nat) (g : zEp) (N : Nat) {x0 : Nat} {x1 : Int32} {x2 : Int32} {σ : zS} {ρ : Int32 × zS} (h : f_X12_isKnown N x0 x1 x2 σ = some ρ) : Met l yX12_isKnown zs_X12_isKnown (zr 2) (va_Pc [.ref (o + x0), .int x1, .int x2] (zG D c o g σ)) (zQi D c o g ρ) 0 0 (zA o) := by
  refine zMetG (by decide) (Nat.le_of_ble_eq_true rfl) ?_
  intro p e s m below meth cd ⟨hx, hb, hr, hml, hown, hts, hlocks⟩ hP hK hE ls hl
  have hS : va_S (zA o) s.heap s.heap [] := va_S.rf
  have hl : lv_has ls 6 [(0, .ref (o + x0)), (1, .int x1), (2, .int x2)] := hl
  rw [f_X12_isKnown.eq_1] at h
  refine lv_iconst (pc := 0) (v := 0) hx hb dX12_isKnown_0 (by decide) ?_
  refine lv_istore_n (pc := 1) (lv' := [(3, .int 0), (0, .ref (o + x0)), (1, .int x1), (2, .int x2)]) hx hb dX12_isKnown_1 rfl hl (by decide) rfl (fun ls hl => ?_)
  have L2_1 : ∀ (n : Nat) (t : Int32 × zS), zlp (F_X12_isKnown_2 N x0 x1 x2) n t = some ρ → ∀ (H : Heap) (locs : List Loc) (ls : Array Slot), zP D c o (zabs o (t.2)) H → va_S (zA o) s.heap H locs → lv_has ls 6 [(3, .int (t.1)), (0, .ref (o + x0)), (1, .int x1), (2, .int x2)] → W p l e (zr 2) s m (([.ref (o + x0), .int x1, .int x2] : List Value).toArray) below meth cd H locs 0 0 (MQ below (zQi D c o g ρ) (([.ref (o + x0), .int x1, .int x2] : List Value).toArray) s 0 0 (zA o)) (F0 m 2 ls []) := by
    refine zlp_ind (fun ag1 ih1 t h H locs ls hP hS hl => ?_)
    obtain ⟨x3_1, σ1⟩ := t
    have hP : zP D c o (zabs o σ1) H := hP
    have hl : lv_has ls 6 [(3, .int x3_1), (0, .ref (o + x0)), (1, .int x1), (2, .int x2)] := hl
    rw [F_X12_isKnown_2.eq_1] at h
    show W p l e (zr 2) s m (([.ref (o + x0), .int x1, .int x2] : List Value).toArray) below meth cd H locs 0 0 (MQ below (zQi D c o g ρ) (([.ref (o + x0), .int x1, .int x2] : List Value).toArray) s 0 0 (zA o)) (F0 m 2 ls [])
    refine lv_iload_n (pc := 2) hx hb dX12_isKnown_2 rfl (lv_at hl 0 rfl) ?_
    refine lv_aload_n (pc := 3) hx hb dX12_isKnown_3 rfl (lv_at hl 1 rfl) ?_
    obtain ⟨v2, hv, h⟩ := zl_some h
    refine xgI (pc := 4) (j := 32) zc12 hx hb hts hown hK hP hv rfl zf_X12_372 dX12_isKnown_4 ?_
    refine lv_icmp_ge (pc := 7) (tgt := 76) hx hb dX12_isKnown_7 (by decide) (fun c1 => ?_) (fun c1 => ?_)
    · rw [if_pos c1] at h
      refine lv_iconst (pc := 76) (v := 0) hx hb dX12_isKnown_76 (by decide) ?_
      exact xretz (pc := 77) hx hb hr hlocks hP hK hE hS h dX12_isKnown_77
    · rw [if_neg c1] at h
      refine lv_iconst (pc := 10) (v := 1) hx hb dX12_isKnown_10 (by decide) ?_
      refine lv_istore (pc := 11) (lv' := [(4, .int 1), (3, .int x3_1), (0, .ref (o + x0)), (1, .int x1), (2, .int x2)]) hx hb dX12_isKnown_11 hl (by decide) rfl (fun ls hl => ?_)
      refine lv_iconst (pc := 13) (v := 0) hx hb dX12_isKnown_13 (by decide) ?_
      refine lv_istore (pc := 14) (lv' := [(5, .int 0), (4, .int 1), (3, .int x3_1), (0, .ref (o + x0)), (1, .int x1), (2, .int x2)]) hx hb dX12_isKnown_14 hl (by decide) rfl (fun ls hl => ?_)
      have L16_3 : ∀ (n : Nat) (t : Int32 × Int32 × zS), zlp (F_X12_isKnown_16 N x0 x1 x2 x3_1 ag1) n t = some ρ → ∀ (H : Heap) (locs : List Loc) (ls : Array Slot), zP D c o (zabs o (t.2.2)) H → va_S (zA o) s.heap H locs → lv_has ls 6 [(4, .int (t.1)), (5, .int (t.2.1)), (0, .ref (o + x0)), (1, .int x1), (2, .int x2), (3, .int x3_1)] → W p l e (zr 2) s m (([.ref (o + x0), .int x1, .int x2] : List Value).toArray) below meth cd H locs 0 0 (MQ below (zQi D c o g ρ) (([.ref (o + x0), .int x1, .int x2] : List Value).toArray) s 0 0 (zA o)) (F0 m 16 ls []) := by
        refine zlp_ind (fun ag3 ih3 t h H locs ls hP hS hl => ?_)
        obtain ⟨x4_3, x5_3, σ3⟩ := t
        have hP : zP D c o (zabs o σ3) H := hP
        have hl : lv_has ls 6 [(4, .int x4_3), (5, .int x5_3), (0, .ref (o + x0)), (1, .int x1), (2, .int x2), (3, .int x3_1)] := hl
        rw [F_X12_isKnown_16.eq_1] at h
        show W p l e (zr 2) s m (([.ref (o + x0), .int x1, .int x2] : List Value).toArray) below meth cd H locs 0 0 (MQ below (zQi D c o g ρ) (([.ref (o + x0), .int x1, .int x2] : List Value).toArray) s 0 0 (zA o)) (F0 m 16 ls [])
        refine lv_iload (pc := 16) hx hb dX12_isKnown_16 (lv_at hl 1 rfl) ?_
        refine lv_iload_n (pc := 18) hx hb dX12_isKnown_18 rfl (lv_at hl 4 rfl) ?_
        have hj63_4 : ∀ (x4_4 : Int32) (σ4 : zS), J_X12_isKnown_63 N ag1 x0 x1 x2 x3_1 x4_4 σ4 = some ρ → ∀ (H : Heap) (locs : List Loc) (ls : Array Slot), zP D c o (zabs o σ4) H → va_S (zA o) s.heap H locs → lv_has ls 6 [(4, .int x4_4), (0, .ref (o + x0)), (1, .int x1), (2, .int x2), (3, .int x3_1)] → W p l e (zr 2) s m (([.ref (o + x0), .int x1, .int x2] : List Value).toArray) below meth cd H locs 0 0 (MQ below (zQi D c o g ρ) (([.ref (o + x0), .int x1, .int x2] : List Value).toArray) s 0 0 (zA o)) (F0 m 63 ls []) := by
          intro x4_4 σ4 h H locs ls hP hS hl
          rw [J_X12_isKnown_63.eq_1] at h
          refine lv_iload (pc := 63) hx hb dX12_isKnown_63 (lv_at hl 0 rfl) ?_
          refine lv_if_eq (pc := 65) (tgt := 70) hx hb dX12_isKnown_65 (by decide) (fun c1 => ?_) (fun c1 => ?_)
          · rw [if_pos c1] at h
            refine lv_iinc (pc := 70) (v := x3_1 + 1) (lv' := [(3, .int (x3_1 + 1)), (4, .int x4_4), (0, .ref (o + x0)), (1, .int x1), (2, .int x2)]) hx hb dX12_isKnown_70 hl (k := 4) rfl rfl (by decide) rfl (fun ls hl => ?_)
            refine lv_goto (pc := 73) (tgt := 2) hx hb dX12_isKnown_73 (by decide) ?_
            exact ih1 (x3_1 + 1, σ4) h _ _ ls hP hS (lv_sub hl [0, 2, 3, 4] rfl)
          · rw [if_neg c1] at h
            refine lv_iconst (pc := 68) (v := 1) hx hb dX12_isKnown_68 (by decide) ?_
            exact xretz (pc := 69) hx hb hr hlocks hP hK hE hS h dX12_isKnown_69
        refine lv_icmp_ge (pc := 19) (tgt := 63) hx hb dX12_isKnown_19 (by decide) (fun c1 => ?_) (fun c1 => ?_)
        · rw [if_pos c1] at h
          exact hj63_4 (x4_3) σ3 h _ _ ls hP hS (lv_sub hl [0, 2, 3, 4, 5] rfl)
        · rw [if_neg c1] at h
          refine lv_iload (pc := 22) hx hb dX12_isKnown_22 (lv_at hl 0 rfl) ?_
          refine lv_if_eq (pc := 24) (tgt := 63) hx hb dX12_isKnown_24 (by decide) (fun c1 => ?_) (fun c1 => ?_)
          · rw [if_pos c1] at h
            exact hj63_4 (x4_3) σ3 h _ _ ls hP hS (lv_sub hl [0, 2, 3, 4, 5] rfl)
          · rw [if_neg c1] at h
            refine lv_aload_n (pc := 27) hx hb dX12_isKnown_27 rfl (lv_at hl 2 rfl) ?_
            obtain ⟨v5, hv, h⟩ := zl_some h
            refine xgR (pc := 28) (j := 31) zc12 hx hb hts hown hK hP hv rfl zf_X12_67 dX12_isKnown_28 ?_
            refine lv_iload_n (pc := 31) hx hb dX12_isKnown_31 rfl (lv_at hl 4 rfl) ?_
            refine lv_iload_n (pc := 32) hx hb dX12_isKnown_32 rfl (lv_at hl 5 rfl) ?_
            refine lv_imul (pc := 33) hx hb dX12_isKnown_33 ?_
            refine lv_iload (pc := 34) hx hb dX12_isKnown_34 (lv_at hl 1 rfl) ?_
            refine lv_iadd (pc := 36) hx hb dX12_isKnown_36 ?_
            obtain ⟨v6, hv, h⟩ := zl_some h
            refine xaZ (pc := 37) hx hb hK hP hv dX12_isKnown_37 ?_
            refine lv_aload_n (pc := 38) hx hb dX12_isKnown_38 rfl (lv_at hl 2 rfl) ?_
            obtain ⟨v7, hv, h⟩ := zl_some h
            refine xgR (pc := 39) (j := 29) zc12 hx hb hts hown hK hP hv rfl zf_X12_61 dX12_isKnown_39 ?_
            refine lv_iload_n (pc := 42) hx hb dX12_isKnown_42 rfl (lv_at hl 3 rfl) ?_
            refine lv_iload (pc := 43) hx hb dX12_isKnown_43 (lv_at hl 1 rfl) ?_
            refine lv_iadd (pc := 45) hx hb dX12_isKnown_45 ?_
            obtain ⟨v8, hv, h⟩ := zl_some h
            refine xaZ (pc := 46) hx hb hK hP hv dX12_isKnown_46 ?_
            refine lv_icmp_ne (pc := 47) (tgt := 54) hx hb dX12_isKnown_47 (by decide) (fun c1 => ?_) (fun c1 => ?_)
            · rw [if_neg c1] at h
              refine lv_iconst (pc := 54) (v := 0) hx hb dX12_isKnown_54 (by decide) ?_
              refine lv_istore (pc := 55) (lv' := [(4, .int 0), (5, .int x5_3), (0, .ref (o + x0)), (1, .int x1), (2, .int x2), (3, .int x3_1)]) hx hb dX12_isKnown_55 hl (by decide) rfl (fun ls hl => ?_)
              refine lv_iinc (pc := 57) (v := x5_3 + 1) (lv' := [(5, .int (x5_3 + 1)), (4, .int 0), (0, .ref (o + x0)), (1, .int x1), (2, .int x2), (3, .int x3_1)]) hx hb dX12_isKnown_57 hl (k := 1) rfl rfl (by decide) rfl (fun ls hl => ?_)
              refine lv_goto (pc := 60) (tgt := 16) hx hb dX12_isKnown_60 (by decide) ?_
              exact ih3 (0, x5_3 + 1, σ3) h _ _ ls hP hS (lv_sub hl [1, 0, 2, 3, 4, 5] rfl)
            · rw [if_pos c1] at h
              refine lv_iconst (pc := 50) (v := 1) hx hb dX12_isKnown_50 (by decide) ?_
              refine lv_goto (pc := 51) (tgt := 55) hx hb dX12_isKnown_51 (by decide) ?_
              refine lv_istore (pc := 55) (lv' := [(4, .int 1), (5, .int x5_3), (0, .ref (o + x0)), (1, .int x1), (2, .int x2), (3, .int x3_1)]) hx hb dX12_isKnown_55 hl (by decide) rfl (fun ls hl => ?_)
              refine lv_iinc (pc := 57) (v := x5_3 + 1) (lv' := [(5, .int (x5_3 + 1)), (4, .int 1), (0, .ref (o + x0)), (1, .int x1), (2, .int x2), (3, .int x3_1)]) hx hb dX12_isKnown_57 hl (k := 1) rfl rfl (by decide) rfl (fun ls hl => ?_)
              refine lv_goto (pc := 60) (tgt := 16) hx hb dX12_isKnown_60 (by decide) ?_
              exact ih3 (1, x5_3 + 1, σ3) h _ _ ls hP hS (lv_sub hl [1, 0, 2, 3, 4, 5] rfl)
      exact L16_3 N (1, 0, σ1) h _ _ ls hP hS (lv_sub hl [1, 0, 3, 4, 5, 2] rfl)
  exact L2_1 N (0, σ) h _ _ ls hP hS (lv_sub hl [0, 1, 2, 3] rfl)

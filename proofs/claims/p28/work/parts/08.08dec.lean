def f_X12_begins (N : Nat) (x0 : Nat) (σ : zS) : Option (Unit × zS) :=
  zl (gI 12 7 x0 σ) fun v1 =>
  zl (pI 12 9 x0 v1 σ) fun σ2 =>
  zl (pI 12 7 x0 0 σ2) fun σ3 =>
  zl (pI 12 10 x0 0 σ3) fun σ4 =>
  zl (pI 12 14 x0 0 σ4) fun σ5 =>
  zl (pI 12 15 x0 (-1) σ5) fun σ6 =>
  zl (pI 12 25 x0 0 σ6) fun σ7 =>
  zl (gC 12 x0) fun _ => zb (f_X12_advance N x0 σ7) fun v8 σ9 =>
  some ((), σ9)
set_option maxHeartbeats 4000000 in
set_option maxRecDepth 100000 in
theorem c_X12_begins (l : Launch) (D : va_G) (c : zC) (o : Nat) (g : zEp) (N : Nat) {x0 : Nat} {σ : zS} {ρ : Unit × zS} (h : f_X12_begins N x0 σ = some ρ) : Met l yX12_begins zs_X12_begins (zr 6) (va_Pc [.ref (o + x0)] (zG D c o g σ)) (zQu D c o g ρ) 0 0 (zA o) := by
  refine zMetG (by decide) (Nat.le_of_ble_eq_true rfl) ?_
  intro p e s m below meth cd ⟨hx, hb, hr, hml, hown, hts, hlocks⟩ hP hK hE ls hl
  have hS : va_S (zA o) s.heap s.heap [] := va_S.rf
  have hl : lv_has ls 1 [(0, .ref (o + x0))] := hl
  rw [f_X12_begins.eq_1] at h
  refine lv_aload_n (pc := 0) hx hb dX12_begins_0 rfl (lv_at hl 0 rfl) ?_
  refine lv_aload_n (pc := 1) hx hb dX12_begins_1 rfl (lv_at hl 0 rfl) ?_
  obtain ⟨v1, hv, h⟩ := zl_some h
  refine xgI (pc := 2) (j := 7) zc12 hx hb hts hown hK hP hv rfl zf_X12_107 dX12_begins_2 ?_
  obtain ⟨σ2, hv, h⟩ := zl_some h
  refine xpI (pc := 5) (j := 9) zc12 hx hb hts hown hK hP hS hv rfl rfl rfl zf_X12_110 dX12_begins_5 (fun H locs hP hS => ?_)
  refine lv_aload_n (pc := 8) hx hb dX12_begins_8 rfl (lv_at hl 0 rfl) ?_
  refine lv_iconst (pc := 9) (v := 0) hx hb dX12_begins_9 (by decide) ?_
  obtain ⟨σ3, hv, h⟩ := zl_some h
  refine xpI (pc := 10) (j := 7) zc12 hx hb hts hown hK hP hS hv rfl rfl rfl zf_X12_107 dX12_begins_10 (fun H locs hP hS => ?_)
  refine lv_aload_n (pc := 13) hx hb dX12_begins_13 rfl (lv_at hl 0 rfl) ?_
  refine lv_iconst (pc := 14) (v := 0) hx hb dX12_begins_14 (by decide) ?_
  obtain ⟨σ4, hv, h⟩ := zl_some h
  refine xpI (pc := 15) (j := 10) zc12 hx hb hts hown hK hP hS hv rfl rfl rfl zf_X12_113 dX12_begins_15 (fun H locs hP hS => ?_)
  refine lv_aload_n (pc := 18) hx hb dX12_begins_18 rfl (lv_at hl 0 rfl) ?_
  refine lv_iconst (pc := 19) (v := 0) hx hb dX12_begins_19 (by decide) ?_
  obtain ⟨σ5, hv, h⟩ := zl_some h
  refine xpI (pc := 20) (j := 14) zc12 hx hb hts hown hK hP hS hv rfl rfl rfl zf_X12_148 dX12_begins_20 (fun H locs hP hS => ?_)
  refine lv_aload_n (pc := 23) hx hb dX12_begins_23 rfl (lv_at hl 0 rfl) ?_
  refine lv_iconst (pc := 24) (v := (-1)) hx hb dX12_begins_24 (by decide) ?_
  obtain ⟨σ6, hv, h⟩ := zl_some h
  refine xpI (pc := 25) (j := 15) zc12 hx hb hts hown hK hP hS hv rfl rfl rfl zf_X12_33 dX12_begins_25 (fun H locs hP hS => ?_)
  refine lv_aload_n (pc := 28) hx hb dX12_begins_28 rfl (lv_at hl 0 rfl) ?_
  refine lv_iconst (pc := 29) (v := 0) hx hb dX12_begins_29 (by decide) ?_
  obtain ⟨σ7, hv, h⟩ := zl_some h
  refine xpI (pc := 30) (j := 25) zc12 hx hb hts hown hK hP hS hv rfl rfl rfl zf_X12_151 dX12_begins_30 (fun H locs hP hS => ?_)
  refine lv_aload_n (pc := 33) hx hb dX12_begins_33 rfl (lv_at hl 0 rfl) ?_
  obtain ⟨_, hg, h⟩ := zl_some h
  obtain ⟨v8, σ9, hv, h⟩ := zb_some h
  refine xcallVv (pc := 34) (As := []) (rest := []) ⟨hx, hb, hml, hown, hts⟩ (c_X12_advance l D c o g N hv) zc12 zV_X12_154 rfl zd_X12_advance ⟨Nat.le_of_ble_eq_true rfl, Nat.le_of_ble_eq_true rfl⟩ hK hP hE hS hg hl.1 rfl (Nat.le_of_ble_eq_true rfl) ⟨Nat.zero_le _, Nat.zero_le _⟩ dX12_begins_34 (fun H locs hP hS => ?_)
  exact xretv (pc := 37) hx hb hr hlocks hP hK hE hS h dX12_begins_37
def f_X12_good (N : Nat) (x0 : Nat) (σ : zS) : Option (Int32 × zS) :=
  zl (gI 12 14 x0 σ) fun v1 =>
  if v1 = 0 then
    (rZ 1 σ)
  else
    (rZ 0 σ)
set_option maxHeartbeats 4000000 in
set_option maxRecDepth 100000 in
theorem c_X12_good (l : Launch) (D : va_G) (c : zC) (o : Nat) (g : zEp) (N : Nat) {x0 : Nat} {σ : zS} {ρ : Int32 × zS} (h : f_X12_good N x0 σ = some ρ) : Met l yX12_good zs_X12_good (zr 2) (va_Pc [.ref (o + x0)] (zG D c o g σ)) (zQi D c o g ρ) 0 0 (zA o) := by
  refine zMetG (by decide) (Nat.le_of_ble_eq_true rfl) ?_
  intro p e s m below meth cd ⟨hx, hb, hr, hml, hown, hts, hlocks⟩ hP hK hE ls hl
  have hS : va_S (zA o) s.heap s.heap [] := va_S.rf
  have hl : lv_has ls 1 [(0, .ref (o + x0))] := hl
  rw [f_X12_good.eq_1] at h
  refine lv_aload_n (pc := 0) hx hb dX12_good_0 rfl (lv_at hl 0 rfl) ?_
  obtain ⟨v1, hv, h⟩ := zl_some h
  refine xgI (pc := 1) (j := 14) zc12 hx hb hts hown hK hP hv rfl zf_X12_148 dX12_good_1 ?_
  refine lv_if_ne (pc := 4) (tgt := 11) hx hb dX12_good_4 (by decide) (fun c1 => ?_) (fun c1 => ?_)
  · rw [if_neg c1] at h
    refine lv_iconst (pc := 11) (v := 0) hx hb dX12_good_11 (by decide) ?_
    exact xretz (pc := 12) hx hb hr hlocks hP hK hE hS h dX12_good_12
  · rw [if_pos c1] at h
    refine lv_iconst (pc := 7) (v := 1) hx hb dX12_good_7 (by decide) ?_
    refine lv_goto (pc := 8) (tgt := 12) hx hb dX12_good_8 (by decide) ?_
    exact xretz (pc := 12) hx hb hr hlocks hP hK hE hS h dX12_good_12
def f_X12_errs (N : Nat) (x0 : Nat) (x1 : Int32) (σ : zS) : Option (Unit × zS) :=
  zl (gC 12 x0) fun _ => zb (f_X12_good N x0 σ) fun v1 σ2 =>
  if v1 = 0 then
    (some ((), σ2))
  else
    (zl (pI 12 14 x0 x1 σ2) fun σ3 =>
    zl (gI 12 11 x0 σ3) fun v4 =>
    zl (pI 12 15 x0 v4 σ3) fun σ5 =>
    some ((), σ5))
set_option maxHeartbeats 4000000 in
set_option maxRecDepth 100000 in
theorem c_X12_errs (l : Launch) (D : va_G) (c : zC) (o : Nat) (g : zEp) (N : Nat) {x0 : Nat} {x1 : Int32} {σ : zS} {ρ : Unit × zS} (h : f_X12_errs N x0 x1 σ = some ρ) : Met l yX12_errs zs_X12_errs (zr 4) (va_Pc [.ref (o + x0), .int x1] (zG D c o g σ)) (zQu D c o g ρ) 0 0 (zA o) := by
  refine zMetG (by decide) (Nat.le_of_ble_eq_true rfl) ?_
  intro p e s m below meth cd ⟨hx, hb, hr, hml, hown, hts, hlocks⟩ hP hK hE ls hl
  have hS : va_S (zA o) s.heap s.heap [] := va_S.rf
  have hl : lv_has ls 2 [(0, .ref (o + x0)), (1, .int x1)] := hl
  rw [f_X12_errs.eq_1] at h
  refine lv_aload_n (pc := 0) hx hb dX12_errs_0 rfl (lv_at hl 0 rfl) ?_
  obtain ⟨_, hg, h⟩ := zl_some h
  obtain ⟨v1, σ2, hv, h⟩ := zb_some h
  refine xcallVi (pc := 1) (As := []) (rest := []) ⟨hx, hb, hml, hown, hts⟩ (c_X12_good l D c o g N hv) zc12 zV_X12_157 rfl zd_X12_good ⟨Nat.le_of_ble_eq_true rfl, Nat.le_of_ble_eq_true rfl⟩ hK hP hE hS hg hl.1 rfl (Nat.le_of_ble_eq_true rfl) ⟨Nat.zero_le _, Nat.zero_le _⟩ dX12_errs_1 (fun H locs hP hS => ?_)
  refine lv_if_ne (pc := 4) (tgt := 8) hx hb dX12_errs_4 (by decide) (fun c1 => ?_) (fun c1 => ?_)
  · rw [if_neg c1] at h
    refine lv_aload_n (pc := 8) hx hb dX12_errs_8 rfl (lv_at hl 0 rfl) ?_
    refine lv_iload_n (pc := 9) hx hb dX12_errs_9 rfl (lv_at hl 1 rfl) ?_
    obtain ⟨σ3, hv, h⟩ := zl_some h
    refine xpI (pc := 10) (j := 14) zc12 hx hb hts hown hK hP hS hv rfl rfl rfl zf_X12_148 dX12_errs_10 (fun H locs hP hS => ?_)
    refine lv_aload_n (pc := 13) hx hb dX12_errs_13 rfl (lv_at hl 0 rfl) ?_
    refine lv_aload_n (pc := 14) hx hb dX12_errs_14 rfl (lv_at hl 0 rfl) ?_
    obtain ⟨v4, hv, h⟩ := zl_some h
    refine xgI (pc := 15) (j := 11) zc12 hx hb hts hown hK hP hv rfl zf_X12_120 dX12_errs_15 ?_
    obtain ⟨σ5, hv, h⟩ := zl_some h
    refine xpI (pc := 18) (j := 15) zc12 hx hb hts hown hK hP hS hv rfl rfl rfl zf_X12_33 dX12_errs_18 (fun H locs hP hS => ?_)
    exact xretv (pc := 21) hx hb hr hlocks hP hK hE hS h dX12_errs_21
  · rw [if_pos c1] at h
    exact xretv (pc := 7) hx hb hr hlocks hP hK hE hS h dX12_errs_7
def F_X12_is_39 (N : Nat) (x0 : Nat) (x1 : Nat) (again39 : (Int32 × Int32 × zS) → Option (Int32 × zS)) : Int32 × Int32 × zS → Option (Int32 × zS)
  | (x2, x3, σ) =>
  zb (f_J0_length_8abf5 N x1 σ) fun v3 σ4 =>
  if v3 ≤ x3 then
    (rZ x2 σ4)
  else
    (if x2 = 0 then
      (rZ x2 σ4)
    else
      (zl (gR 12 6 x0 σ4) fun v5 =>
      zl (gI 12 11 x0 σ4) fun v6 =>
      zl (aI 13 v5 (v6 + x3) σ4) fun v7 =>
      zb (f_J0_charAt_5068e N x1 x3 σ4) fun v8 σ9 =>
      if v7 = v8 then
        (again39 (1, x3 + 1, σ9))
      else
        (again39 (0, x3 + 1, σ9))))
def J_X12_is_36 (N : Nat) (x0 : Nat) (x1 : Nat) (y0 : Int32) (σ : zS) : Option (Int32 × zS) :=
  zlp (F_X12_is_39 N x0 x1) N (y0, 0, σ)
def f_X12_is (N : Nat) (x0 : Nat) (x1 : Nat) (σ : zS) : Option (Int32 × zS) :=
  zl (gC 12 x0) fun _ => zb (f_X12_good N x0 σ) fun v1 σ2 =>
  if v1 = 0 then
    (J_X12_is_36 N x0 x1 0 σ2)
  else
    (zl (gI 12 12 x0 σ2) fun v10 =>
    if v10 = 1 then
      (zl (gI 12 10 x0 σ2) fun v11 =>
      zl (gI 12 11 x0 σ2) fun v12 =>
      zb (f_J0_length_8abf5 N x1 σ2) fun v13 σ14 =>
      if (v11 - v12) = v13 then
        (J_X12_is_36 N x0 x1 1 σ14)
      else
        (J_X12_is_36 N x0 x1 0 σ14))
    else
      (J_X12_is_36 N x0 x1 0 σ2))
set_option maxHeartbeats 4000000 in
set_option maxRecDepth 100000 in
theorem c_X12_is (l : Launch) (D : va_G) (c : zC) (o : Nat) (g : zEp) (N : Nat) {x0 : Nat} {x1 : Nat} {σ : zS} {ρ : Int32 × zS} (h : f_X12_is N x0 x1 σ = some ρ) : Met l yX12_is zs_X12_is (zr 14) (va_Pc [.ref (o + x0), .ref (g.2.1 x1)] (zG D c o g σ)) (zQi D c o g ρ) 0 0 (zA o) := by
  refine zMetG (by decide) (Nat.le_of_ble_eq_true rfl) ?_
  intro p e s m below meth cd ⟨hx, hb, hr, hml, hown, hts, hlocks⟩ hP hK hE ls hl
  have hS : va_S (zA o) s.heap s.heap [] := va_S.rf
  have hl : lv_has ls 4 [(0, .ref (o + x0)), (1, .ref (g.2.1 x1))] := hl
  rw [f_X12_is.eq_1] at h
  refine lv_aload_n (pc := 0) hx hb dX12_is_0 rfl (lv_at hl 0 rfl) ?_
  obtain ⟨_, hg, h⟩ := zl_some h
  obtain ⟨v1, σ2, hv, h⟩ := zb_some h
  refine xcallVi (pc := 1) (As := []) (rest := []) ⟨hx, hb, hml, hown, hts⟩ (c_X12_good l D c o g N hv) zc12 zV_X12_157 rfl zd_X12_good ⟨Nat.le_of_ble_eq_true rfl, Nat.le_of_ble_eq_true rfl⟩ hK hP hE hS hg hl.1 rfl (Nat.le_of_ble_eq_true rfl) ⟨Nat.zero_le _, Nat.zero_le _⟩ dX12_is_1 (fun H locs hP hS => ?_)
  have hj36_3 : ∀ (y0_3 : Int32) (σ3 : zS), J_X12_is_36 N x0 x1 y0_3 σ3 = some ρ → ∀ (H : Heap) (locs : List Loc) (ls : Array Slot), zP D c o (zabs o σ3) H → va_S (zA o) s.heap H locs → lv_has ls 4 [(0, .ref (o + x0)), (1, .ref (g.2.1 x1))] → W p l e (zr 14) s m (([.ref (o + x0), .ref (g.2.1 x1)] : List Value).toArray) below meth cd H locs 0 0 (MQ below (zQi D c o g ρ) (([.ref (o + x0), .ref (g.2.1 x1)] : List Value).toArray) s 0 0 (zA o)) (F0 m 36 ls [.int y0_3]) := by
    intro y0_3 σ3 h H locs ls hP hS hl
    rw [J_X12_is_36.eq_1] at h
    refine lv_istore_n (pc := 36) (lv' := [(2, .int y0_3), (0, .ref (o + x0)), (1, .ref (g.2.1 x1))]) hx hb dX12_is_36 rfl hl (by decide) rfl (fun ls hl => ?_)
    refine lv_iconst (pc := 37) (v := 0) hx hb dX12_is_37 (by decide) ?_
    refine lv_istore_n (pc := 38) (lv' := [(3, .int 0), (2, .int y0_3), (0, .ref (o + x0)), (1, .ref (g.2.1 x1))]) hx hb dX12_is_38 rfl hl (by decide) rfl (fun ls hl => ?_)
    have L39_4 : ∀ (n : Nat) (t : Int32 × Int32 × zS), zlp (F_X12_is_39 N x0 x1) n t = some ρ → ∀ (H : Heap) (locs : List Loc) (ls : Array Slot), zP D c o (zabs o (t.2.2)) H → va_S (zA o) s.heap H locs → lv_has ls 4 [(2, .int (t.1)), (3, .int (t.2.1)), (0, .ref (o + x0)), (1, .ref (g.2.1 x1))] → W p l e (zr 14) s m (([.ref (o + x0), .ref (g.2.1 x1)] : List Value).toArray) below meth cd H locs 0 0 (MQ below (zQi D c o g ρ) (([.ref (o + x0), .ref (g.2.1 x1)] : List Value).toArray) s 0 0 (zA o)) (F0 m 39 ls []) := by
      refine zlp_ind (fun ag4 ih4 t h H locs ls hP hS hl => ?_)
      obtain ⟨x2_4, x3_4, σ4⟩ := t
      have hP : zP D c o (zabs o σ4) H := hP
      have hl : lv_has ls 4 [(2, .int x2_4), (3, .int x3_4), (0, .ref (o + x0)), (1, .ref (g.2.1 x1))] := hl
      rw [F_X12_is_39.eq_1] at h
      show W p l e (zr 14) s m (([.ref (o + x0), .ref (g.2.1 x1)] : List Value).toArray) below meth cd H locs 0 0 (MQ below (zQi D c o g ρ) (([.ref (o + x0), .ref (g.2.1 x1)] : List Value).toArray) s 0 0 (zA o)) (F0 m 39 ls [])
      refine lv_iload_n (pc := 39) hx hb dX12_is_39 rfl (lv_at hl 1 rfl) ?_
      refine lv_aload_n (pc := 40) hx hb dX12_is_40 rfl (lv_at hl 3 rfl) ?_
      obtain ⟨v5, σ6, hv, h⟩ := zb_some h
      refine xcallTi (pc := 41) (As := []) (rest := [.int x3_4]) ⟨hx, hb, hml, hown, hts⟩ (c_J0_length_8abf5 l D c o g N hv) (xtextL hv) zV_X12_160 rfl zd_J0_length_8abf5 ⟨Nat.le_of_ble_eq_true rfl, Nat.le_of_ble_eq_true rfl⟩ hK hP hE hS hl.1 rfl (Nat.le_of_ble_eq_true rfl) ⟨Nat.zero_le _, Nat.zero_le _⟩ dX12_is_41 (fun H locs hP hS => ?_)
      refine lv_icmp_ge (pc := 44) (tgt := 82) hx hb dX12_is_44 (by decide) (fun c1 => ?_) (fun c1 => ?_)
      · rw [if_pos c1] at h
        refine lv_iload_n (pc := 82) hx hb dX12_is_82 rfl (lv_at hl 0 rfl) ?_
        exact xretz (pc := 83) hx hb hr hlocks hP hK hE hS h dX12_is_83
      · rw [if_neg c1] at h
        refine lv_iload_n (pc := 47) hx hb dX12_is_47 rfl (lv_at hl 0 rfl) ?_
        refine lv_if_eq (pc := 48) (tgt := 82) hx hb dX12_is_48 (by decide) (fun c1 => ?_) (fun c1 => ?_)
        · rw [if_pos c1] at h
          refine lv_iload_n (pc := 82) hx hb dX12_is_82 rfl (lv_at hl 0 rfl) ?_
          exact xretz (pc := 83) hx hb hr hlocks hP hK hE hS h dX12_is_83
        · rw [if_neg c1] at h
          refine lv_aload_n (pc := 51) hx hb dX12_is_51 rfl (lv_at hl 2 rfl) ?_
          obtain ⟨v7, hv, h⟩ := zl_some h
          refine xgR (pc := 52) (j := 6) zc12 hx hb hts hown hK hP hv rfl zf_X12_26 dX12_is_52 ?_
          refine lv_aload_n (pc := 55) hx hb dX12_is_55 rfl (lv_at hl 2 rfl) ?_
          obtain ⟨v8, hv, h⟩ := zl_some h
          refine xgI (pc := 56) (j := 11) zc12 hx hb hts hown hK hP hv rfl zf_X12_120 dX12_is_56 ?_
          refine lv_iload_n (pc := 59) hx hb dX12_is_59 rfl (lv_at hl 1 rfl) ?_
          refine lv_iadd (pc := 60) hx hb dX12_is_60 ?_
          obtain ⟨v9, hv, h⟩ := zl_some h
          refine xaB (pc := 61) hx hb hK hP hv dX12_is_61 ?_
          refine lv_aload_n (pc := 62) hx hb dX12_is_62 rfl (lv_at hl 3 rfl) ?_
          refine lv_iload_n (pc := 63) hx hb dX12_is_63 rfl (lv_at hl 1 rfl) ?_
          obtain ⟨v10, σ11, hv, h⟩ := zb_some h
          refine xcallTi (pc := 64) (As := [.int x3_4]) (rest := [.int v9]) ⟨hx, hb, hml, hown, hts⟩ (c_J0_charAt_5068e l D c o g N hv) (xtextC hv) zV_X12_165 rfl zd_J0_charAt_5068e ⟨Nat.le_of_ble_eq_true rfl, Nat.le_of_ble_eq_true rfl⟩ hK hP hE hS hl.1 rfl (Nat.le_of_ble_eq_true rfl) ⟨Nat.zero_le _, Nat.zero_le _⟩ dX12_is_64 (fun H locs hP hS => ?_)
          refine lv_icmp_ne (pc := 67) (tgt := 74) hx hb dX12_is_67 (by decide) (fun c1 => ?_) (fun c1 => ?_)
          · rw [if_neg c1] at h
            refine lv_iconst (pc := 74) (v := 0) hx hb dX12_is_74 (by decide) ?_
            refine lv_istore_n (pc := 75) (lv' := [(2, .int 0), (3, .int x3_4), (0, .ref (o + x0)), (1, .ref (g.2.1 x1))]) hx hb dX12_is_75 rfl hl (by decide) rfl (fun ls hl => ?_)
            refine lv_iinc (pc := 76) (v := x3_4 + 1) (lv' := [(3, .int (x3_4 + 1)), (2, .int 0), (0, .ref (o + x0)), (1, .ref (g.2.1 x1))]) hx hb dX12_is_76 hl (k := 1) rfl rfl (by decide) rfl (fun ls hl => ?_)
            refine lv_goto (pc := 79) (tgt := 39) hx hb dX12_is_79 (by decide) ?_
            exact ih4 (0, x3_4 + 1, σ11) h _ _ ls hP hS (lv_sub hl [1, 0, 2, 3] rfl)
          · rw [if_pos c1] at h
            refine lv_iconst (pc := 70) (v := 1) hx hb dX12_is_70 (by decide) ?_
            refine lv_goto (pc := 71) (tgt := 75) hx hb dX12_is_71 (by decide) ?_
            refine lv_istore_n (pc := 75) (lv' := [(2, .int 1), (3, .int x3_4), (0, .ref (o + x0)), (1, .ref (g.2.1 x1))]) hx hb dX12_is_75 rfl hl (by decide) rfl (fun ls hl => ?_)
            refine lv_iinc (pc := 76) (v := x3_4 + 1) (lv' := [(3, .int (x3_4 + 1)), (2, .int 1), (0, .ref (o + x0)), (1, .ref (g.2.1 x1))]) hx hb dX12_is_76 hl (k := 1) rfl rfl (by decide) rfl (fun ls hl => ?_)
            refine lv_goto (pc := 79) (tgt := 39) hx hb dX12_is_79 (by decide) ?_
            exact ih4 (1, x3_4 + 1, σ11) h _ _ ls hP hS (lv_sub hl [1, 0, 2, 3] rfl)
    exact L39_4 N (y0_3, 0, σ3) h _ _ ls hP hS (lv_sub hl [1, 0, 2, 3] rfl)
  refine lv_if_eq (pc := 4) (tgt := 35) hx hb dX12_is_4 (by decide) (fun c1 => ?_) (fun c1 => ?_)
  · rw [if_pos c1] at h
    refine lv_iconst (pc := 35) (v := 0) hx hb dX12_is_35 (by decide) ?_
    exact hj36_3 (0) σ2 h _ _ ls hP hS (lv_sub hl [0, 1] rfl)
  · rw [if_neg c1] at h
    refine lv_aload_n (pc := 7) hx hb dX12_is_7 rfl (lv_at hl 0 rfl) ?_
    obtain ⟨v12, hv, h⟩ := zl_some h
    refine xgI (pc := 8) (j := 12) zc12 hx hb hts hown hK hP hv rfl zf_X12_123 dX12_is_8 ?_
    refine lv_iconst (pc := 11) (v := 1) hx hb dX12_is_11 (by decide) ?_
    refine lv_icmp_ne (pc := 12) (tgt := 35) hx hb dX12_is_12 (by decide) (fun c1 => ?_) (fun c1 => ?_)
    · rw [if_neg c1] at h
      refine lv_iconst (pc := 35) (v := 0) hx hb dX12_is_35 (by decide) ?_
      exact hj36_3 (0) σ2 h _ _ ls hP hS (lv_sub hl [0, 1] rfl)
    · rw [if_pos c1] at h
      refine lv_aload_n (pc := 15) hx hb dX12_is_15 rfl (lv_at hl 0 rfl) ?_
      obtain ⟨v13, hv, h⟩ := zl_some h
      refine xgI (pc := 16) (j := 10) zc12 hx hb hts hown hK hP hv rfl zf_X12_113 dX12_is_16 ?_
      refine lv_aload_n (pc := 19) hx hb dX12_is_19 rfl (lv_at hl 0 rfl) ?_
      obtain ⟨v14, hv, h⟩ := zl_some h
      refine xgI (pc := 20) (j := 11) zc12 hx hb hts hown hK hP hv rfl zf_X12_120 dX12_is_20 ?_
      refine lv_isub (pc := 23) hx hb dX12_is_23 ?_
      refine lv_aload_n (pc := 24) hx hb dX12_is_24 rfl (lv_at hl 1 rfl) ?_
      obtain ⟨v15, σ16, hv, h⟩ := zb_some h
      refine xcallTi (pc := 25) (As := []) (rest := [.int (v13 - v14)]) ⟨hx, hb, hml, hown, hts⟩ (c_J0_length_8abf5 l D c o g N hv) (xtextL hv) zV_X12_160 rfl zd_J0_length_8abf5 ⟨Nat.le_of_ble_eq_true rfl, Nat.le_of_ble_eq_true rfl⟩ hK hP hE hS hl.1 rfl (Nat.le_of_ble_eq_true rfl) ⟨Nat.zero_le _, Nat.zero_le _⟩ dX12_is_25 (fun H locs hP hS => ?_)
      refine lv_icmp_ne (pc := 28) (tgt := 35) hx hb dX12_is_28 (by decide) (fun c1 => ?_) (fun c1 => ?_)
      · rw [if_neg c1] at h
        refine lv_iconst (pc := 35) (v := 0) hx hb dX12_is_35 (by decide) ?_
        exact hj36_3 (0) σ16 h _ _ ls hP hS (lv_sub hl [0, 1] rfl)
      · rw [if_pos c1] at h
        refine lv_iconst (pc := 31) (v := 1) hx hb dX12_is_31 (by decide) ?_
        refine lv_goto (pc := 32) (tgt := 36) hx hb dX12_is_32 (by decide) ?_
        exact hj36_3 (1) σ16 h _ _ ls hP hS (lv_sub hl [0, 1] rfl)
def f_X12_takes (N : Nat) (x0 : Nat) (x1 : Nat) (σ : zS) : Option (Int32 × zS) :=
  zl (gC 12 x0) fun _ => zb (f_X12_is N x0 x1 σ) fun v1 σ2 =>
  if v1 = 0 then
    (rZ v1 σ2)
  else
    (zl (gC 12 x0) fun _ => zb (f_X12_advance N x0 σ2) fun v3 σ4 =>
    rZ v1 σ4)
set_option maxHeartbeats 4000000 in
set_option maxRecDepth 100000 in
theorem c_X12_takes (l : Launch) (D : va_G) (c : zC) (o : Nat) (g : zEp) (N : Nat) {x0 : Nat} {x1 : Nat} {σ : zS} {ρ : Int32 × zS} (h : f_X12_takes N x0 x1 σ = some ρ) : Met l yX12_takes zs_X12_takes (zr 16) (va_Pc [.ref (o + x0), .ref (g.2.1 x1)] (zG D c o g σ)) (zQi D c o g ρ) 0 0 (zA o) := by
  refine zMetG (by decide) (Nat.le_of_ble_eq_true rfl) ?_
  intro p e s m below meth cd ⟨hx, hb, hr, hml, hown, hts, hlocks⟩ hP hK hE ls hl
  have hS : va_S (zA o) s.heap s.heap [] := va_S.rf
  have hl : lv_has ls 3 [(0, .ref (o + x0)), (1, .ref (g.2.1 x1))] := hl
  rw [f_X12_takes.eq_1] at h
  refine lv_aload_n (pc := 0) hx hb dX12_takes_0 rfl (lv_at hl 0 rfl) ?_
  refine lv_aload_n (pc := 1) hx hb dX12_takes_1 rfl (lv_at hl 1 rfl) ?_
  obtain ⟨_, hg, h⟩ := zl_some h
  obtain ⟨v1, σ2, hv, h⟩ := zb_some h
  refine xcallVi (pc := 2) (As := [.ref (g.2.1 x1)]) (rest := []) ⟨hx, hb, hml, hown, hts⟩ (c_X12_is l D c o g N hv) zc12 zV_X12_169 rfl zd_X12_is ⟨Nat.le_of_ble_eq_true rfl, Nat.le_of_ble_eq_true rfl⟩ hK hP hE hS hg hl.1 rfl (Nat.le_of_ble_eq_true rfl) ⟨Nat.zero_le _, Nat.zero_le _⟩ dX12_takes_2 (fun H locs hP hS => ?_)
  refine lv_istore_n (pc := 5) (lv' := [(2, .int v1), (0, .ref (o + x0)), (1, .ref (g.2.1 x1))]) hx hb dX12_takes_5 rfl hl (by decide) rfl (fun ls hl => ?_)
  refine lv_iload_n (pc := 6) hx hb dX12_takes_6 rfl (lv_at hl 0 rfl) ?_
  refine lv_if_eq (pc := 7) (tgt := 14) hx hb dX12_takes_7 (by decide) (fun c1 => ?_) (fun c1 => ?_)
  · rw [if_pos c1] at h
    refine lv_iload_n (pc := 14) hx hb dX12_takes_14 rfl (lv_at hl 0 rfl) ?_
    exact xretz (pc := 15) hx hb hr hlocks hP hK hE hS h dX12_takes_15
  · rw [if_neg c1] at h
    refine lv_aload_n (pc := 10) hx hb dX12_takes_10 rfl (lv_at hl 1 rfl) ?_
    obtain ⟨_, hg, h⟩ := zl_some h
    obtain ⟨v3, σ4, hv, h⟩ := zb_some h
    refine xcallVv (pc := 11) (As := []) (rest := []) ⟨hx, hb, hml, hown, hts⟩ (c_X12_advance l D c o g N hv) zc12 zV_X12_154 rfl zd_X12_advance ⟨Nat.le_of_ble_eq_true rfl, Nat.le_of_ble_eq_true rfl⟩ hK hP hE hS hg hl.1 rfl (Nat.le_of_ble_eq_true rfl) ⟨Nat.zero_le _, Nat.zero_le _⟩ dX12_takes_11 (fun H locs hP hS => ?_)
    refine lv_iload_n (pc := 14) hx hb dX12_takes_14 rfl (lv_at hl 0 rfl) ?_
    exact xretz (pc := 15) hx hb hr hlocks hP hK hE hS h dX12_takes_15
def f_X12_needs (N : Nat) (x0 : Nat) (x1 : Nat) (σ : zS) : Option (Unit × zS) :=
  zl (gC 12 x0) fun _ => zb (f_X12_takes N x0 x1 σ) fun v1 σ2 =>
  if v1 = 0 then
    (zl (gC 12 x0) fun _ => zb (f_X12_errs N x0 1 σ2) fun v3 σ4 =>
    some ((), σ4))
  else
    (some ((), σ2))
set_option maxHeartbeats 4000000 in
set_option maxRecDepth 100000 in
theorem c_X12_needs (l : Launch) (D : va_G) (c : zC) (o : Nat) (g : zEp) (N : Nat) {x0 : Nat} {x1 : Nat} {σ : zS} {ρ : Unit × zS} (h : f_X12_needs N x0 x1 σ = some ρ) : Met l yX12_needs zs_X12_needs (zr 18) (va_Pc [.ref (o + x0), .ref (g.2.1 x1)] (zG D c o g σ)) (zQu D c o g ρ) 0 0 (zA o) := by
  refine zMetG (by decide) (Nat.le_of_ble_eq_true rfl) ?_
  intro p e s m below meth cd ⟨hx, hb, hr, hml, hown, hts, hlocks⟩ hP hK hE ls hl
  have hS : va_S (zA o) s.heap s.heap [] := va_S.rf
  have hl : lv_has ls 2 [(0, .ref (o + x0)), (1, .ref (g.2.1 x1))] := hl
  rw [f_X12_needs.eq_1] at h
  refine lv_aload_n (pc := 0) hx hb dX12_needs_0 rfl (lv_at hl 0 rfl) ?_
  refine lv_aload_n (pc := 1) hx hb dX12_needs_1 rfl (lv_at hl 1 rfl) ?_
  obtain ⟨_, hg, h⟩ := zl_some h
  obtain ⟨v1, σ2, hv, h⟩ := zb_some h
  refine xcallVi (pc := 2) (As := [.ref (g.2.1 x1)]) (rest := []) ⟨hx, hb, hml, hown, hts⟩ (c_X12_takes l D c o g N hv) zc12 zV_X12_173 rfl zd_X12_takes ⟨Nat.le_of_ble_eq_true rfl, Nat.le_of_ble_eq_true rfl⟩ hK hP hE hS hg hl.1 rfl (Nat.le_of_ble_eq_true rfl) ⟨Nat.zero_le _, Nat.zero_le _⟩ dX12_needs_2 (fun H locs hP hS => ?_)
  refine lv_if_ne (pc := 5) (tgt := 13) hx hb dX12_needs_5 (by decide) (fun c1 => ?_) (fun c1 => ?_)
  · rw [if_neg c1] at h
    exact xretv (pc := 13) hx hb hr hlocks hP hK hE hS h dX12_needs_13
  · rw [if_pos c1] at h
    refine lv_aload_n (pc := 8) hx hb dX12_needs_8 rfl (lv_at hl 0 rfl) ?_
    refine lv_iconst (pc := 9) (v := 1) hx hb dX12_needs_9 (by decide) ?_
    obtain ⟨_, hg, h⟩ := zl_some h
    obtain ⟨v3, σ4, hv, h⟩ := zb_some h
    refine xcallVv (pc := 10) (As := [.int 1]) (rest := []) ⟨hx, hb, hml, hown, hts⟩ (c_X12_errs l D c o g N hv) zc12 zV_X12_176 rfl zd_X12_errs ⟨Nat.le_of_ble_eq_true rfl, Nat.le_of_ble_eq_true rfl⟩ hK hP hE hS hg hl.1 rfl (Nat.le_of_ble_eq_true rfl) ⟨Nat.zero_le _, Nat.zero_le _⟩ dX12_needs_10 (fun H locs hP hS => ?_)
    exact xretv (pc := 13) hx hb hr hlocks hP hK hE hS h dX12_needs_13
def J_X12_needsSign_20 (N : Nat) (x0 : Nat) (σ : zS) : Option (Unit × zS) :=
  zl (gC 12 x0) fun _ => zb (f_X12_good N x0 σ) fun v3 σ4 =>
  if v3 = 0 then
    (some ((), σ4))
  else
    (zl (gC 12 x0) fun _ => zb (f_X12_advance N x0 σ4) fun v5 σ6 =>
    some ((), σ6))
def f_X12_needsSign (N : Nat) (x0 : Nat) (x1 : Int32) (σ : zS) : Option (Unit × zS) :=
  zl (gC 12 x0) fun _ => zb (f_X12_good N x0 σ) fun v1 σ2 =>
  if v1 = 0 then
    (J_X12_needsSign_20 N x0 σ2)
  else
    (zl (gI 12 12 x0 σ2) fun v7 =>
    if v7 = x1 then
      (J_X12_needsSign_20 N x0 σ2)
    else
      (zl (gC 12 x0) fun _ => zb (f_X12_errs N x0 1 σ2) fun v8 σ9 =>
      J_X12_needsSign_20 N x0 σ9))
set_option maxHeartbeats 4000000 in
set_option maxRecDepth 100000 in
theorem c_X12_needsSign (l : Launch) (D : va_G) (c : zC) (o : Nat) (g : zEp) (N : Nat) {x0 : Nat} {x1 : Int32} {σ : zS} {ρ : Unit × zS} (h : f_X12_needsSign N x0 x1 σ = some ρ) : Met l yX12_needsSign zs_X12_needsSign (zr 6) (va_Pc [.ref (o + x0), .int x1] (zG D c o g σ)) (zQu D c o g ρ) 0 0 (zA o) := by
  refine zMetG (by decide) (Nat.le_of_ble_eq_true rfl) ?_
  intro p e s m below meth cd ⟨hx, hb, hr, hml, hown, hts, hlocks⟩ hP hK hE ls hl
  have hS : va_S (zA o) s.heap s.heap [] := va_S.rf
  have hl : lv_has ls 2 [(0, .ref (o + x0)), (1, .int x1)] := hl
  rw [f_X12_needsSign.eq_1] at h
  refine lv_aload_n (pc := 0) hx hb dX12_needsSign_0 rfl (lv_at hl 0 rfl) ?_
  obtain ⟨_, hg, h⟩ := zl_some h
  obtain ⟨v1, σ2, hv, h⟩ := zb_some h
  refine xcallVi (pc := 1) (As := []) (rest := []) ⟨hx, hb, hml, hown, hts⟩ (c_X12_good l D c o g N hv) zc12 zV_X12_157 rfl zd_X12_good ⟨Nat.le_of_ble_eq_true rfl, Nat.le_of_ble_eq_true rfl⟩ hK hP hE hS hg hl.1 rfl (Nat.le_of_ble_eq_true rfl) ⟨Nat.zero_le _, Nat.zero_le _⟩ dX12_needsSign_1 (fun H locs hP hS => ?_)
  have hj20_3 : ∀ (σ3 : zS), J_X12_needsSign_20 N x0 σ3 = some ρ → ∀ (H : Heap) (locs : List Loc) (ls : Array Slot), zP D c o (zabs o σ3) H → va_S (zA o) s.heap H locs → lv_has ls 2 [(0, .ref (o + x0))] → W p l e (zr 6) s m (([.ref (o + x0), .int x1] : List Value).toArray) below meth cd H locs 0 0 (MQ below (zQu D c o g ρ) (([.ref (o + x0), .int x1] : List Value).toArray) s 0 0 (zA o)) (F0 m 20 ls []) := by
    intro σ3 h H locs ls hP hS hl
    rw [J_X12_needsSign_20.eq_1] at h
    refine lv_aload_n (pc := 20) hx hb dX12_needsSign_20 rfl (lv_at hl 0 rfl) ?_
    obtain ⟨_, hg, h⟩ := zl_some h
    obtain ⟨v4, σ5, hv, h⟩ := zb_some h
    refine xcallVi (pc := 21) (As := []) (rest := []) ⟨hx, hb, hml, hown, hts⟩ (c_X12_good l D c o g N hv) zc12 zV_X12_157 rfl zd_X12_good ⟨Nat.le_of_ble_eq_true rfl, Nat.le_of_ble_eq_true rfl⟩ hK hP hE hS hg hl.1 rfl (Nat.le_of_ble_eq_true rfl) ⟨Nat.zero_le _, Nat.zero_le _⟩ dX12_needsSign_21 (fun H locs hP hS => ?_)
    refine lv_if_eq (pc := 24) (tgt := 31) hx hb dX12_needsSign_24 (by decide) (fun c1 => ?_) (fun c1 => ?_)
    · rw [if_pos c1] at h
      exact xretv (pc := 31) hx hb hr hlocks hP hK hE hS h dX12_needsSign_31
    · rw [if_neg c1] at h
      refine lv_aload_n (pc := 27) hx hb dX12_needsSign_27 rfl (lv_at hl 0 rfl) ?_
      obtain ⟨_, hg, h⟩ := zl_some h
      obtain ⟨v6, σ7, hv, h⟩ := zb_some h
      refine xcallVv (pc := 28) (As := []) (rest := []) ⟨hx, hb, hml, hown, hts⟩ (c_X12_advance l D c o g N hv) zc12 zV_X12_154 rfl zd_X12_advance ⟨Nat.le_of_ble_eq_true rfl, Nat.le_of_ble_eq_true rfl⟩ hK hP hE hS hg hl.1 rfl (Nat.le_of_ble_eq_true rfl) ⟨Nat.zero_le _, Nat.zero_le _⟩ dX12_needsSign_28 (fun H locs hP hS => ?_)
      exact xretv (pc := 31) hx hb hr hlocks hP hK hE hS h dX12_needsSign_31
  refine lv_if_eq (pc := 4) (tgt := 20) hx hb dX12_needsSign_4 (by decide) (fun c1 => ?_) (fun c1 => ?_)
  · rw [if_pos c1] at h
    exact hj20_3 σ2 h _ _ ls hP hS (lv_sub hl [0] rfl)
  · rw [if_neg c1] at h
    refine lv_aload_n (pc := 7) hx hb dX12_needsSign_7 rfl (lv_at hl 0 rfl) ?_
    obtain ⟨v8, hv, h⟩ := zl_some h
    refine xgI (pc := 8) (j := 12) zc12 hx hb hts hown hK hP hv rfl zf_X12_123 dX12_needsSign_8 ?_
    refine lv_iload_n (pc := 11) hx hb dX12_needsSign_11 rfl (lv_at hl 1 rfl) ?_
    refine lv_icmp_eq (pc := 12) (tgt := 20) hx hb dX12_needsSign_12 (by decide) (fun c1 => ?_) (fun c1 => ?_)
    · rw [if_pos c1] at h
      exact hj20_3 σ2 h _ _ ls hP hS (lv_sub hl [0] rfl)
    · rw [if_neg c1] at h
      refine lv_aload_n (pc := 15) hx hb dX12_needsSign_15 rfl (lv_at hl 0 rfl) ?_
      refine lv_iconst (pc := 16) (v := 1) hx hb dX12_needsSign_16 (by decide) ?_
      obtain ⟨_, hg, h⟩ := zl_some h
      obtain ⟨v9, σ10, hv, h⟩ := zb_some h
      refine xcallVv (pc := 17) (As := [.int 1]) (rest := []) ⟨hx, hb, hml, hown, hts⟩ (c_X12_errs l D c o g N hv) zc12 zV_X12_176 rfl zd_X12_errs ⟨Nat.le_of_ble_eq_true rfl, Nat.le_of_ble_eq_true rfl⟩ hK hP hE hS hg hl.1 rfl (Nat.le_of_ble_eq_true rfl) ⟨Nat.zero_le _, Nat.zero_le _⟩ dX12_needsSign_17 (fun H locs hP hS => ?_)
      exact hj20_3 σ10 h _ _ ls hP hS (lv_sub hl [0] rfl)
def J_X12_number_47 (N : Nat) (x0 : Nat) (σ : zS) : Option (Int32 × zS) :=
  zl (gC 12 x0) fun _ => zb (f_X12_good N x0 σ) fun v5 σ6 =>
  if v5 = 0 then
    (some (0, σ6))
  else
    (zl (gI 12 13 x0 σ6) fun v7 =>
    zl (gC 12 x0) fun _ => zb (f_X12_advance N x0 σ6) fun v8 σ9 =>
    some (v7, σ9))
def J_X12_number_20 (N : Nat) (x0 : Nat) (x1 : Int32) (x2 : Int32) (σ : zS) : Option (Int32 × zS) :=
  zl (gC 12 x0) fun _ => zb (f_X12_good N x0 σ) fun v3 σ4 =>
  if v3 = 0 then
    (J_X12_number_47 N x0 σ4)
  else
    (zl (gI 12 13 x0 σ4) fun v10 =>
    zb (f_X12_in N (Int32.toInt64 v10) (Int32.toInt64 x1) (Int32.toInt64 x2) σ4) fun v11 σ12 =>
    if v11 = 0 then
      (zl (gC 12 x0) fun _ => zb (f_X12_errs N x0 2 σ12) fun v13 σ14 =>
      J_X12_number_47 N x0 σ14)
    else
      (J_X12_number_47 N x0 σ12))
def f_X12_number (N : Nat) (x0 : Nat) (x1 : Int32) (x2 : Int32) (σ : zS) : Option (Int32 × zS) :=
  zl (gC 12 x0) fun _ => zb (f_X12_good N x0 σ) fun v1 σ2 =>
  if v1 = 0 then
    (J_X12_number_20 N x0 x1 x2 σ2)
  else
    (zl (gI 12 12 x0 σ2) fun v15 =>
    if v15 = 2 then
      (J_X12_number_20 N x0 x1 x2 σ2)
    else
      (zl (gC 12 x0) fun _ => zb (f_X12_errs N x0 1 σ2) fun v16 σ17 =>
      J_X12_number_20 N x0 x1 x2 σ17))
set_option maxHeartbeats 4000000 in
set_option maxRecDepth 100000 in
theorem c_X12_number (l : Launch) (D : va_G) (c : zC) (o : Nat) (g : zEp) (N : Nat) {x0 : Nat} {x1 : Int32} {x2 : Int32} {σ : zS} {ρ : Int32 × zS} (h : f_X12_number N x0 x1 x2 σ = some ρ) : Met l yX12_number zs_X12_number (zr 6) (va_Pc [.ref (o + x0), .int x1, .int x2] (zG D c o g σ)) (zQi D c o g ρ) 0 0 (zA o) := by
  refine zMetG (by decide) (Nat.le_of_ble_eq_true rfl) ?_
  intro p e s m below meth cd ⟨hx, hb, hr, hml, hown, hts, hlocks⟩ hP hK hE ls hl
  have hS : va_S (zA o) s.heap s.heap [] := va_S.rf
  have hl : lv_has ls 4 [(0, .ref (o + x0)), (1, .int x1), (2, .int x2)] := hl
  rw [f_X12_number.eq_1] at h
  refine lv_aload_n (pc := 0) hx hb dX12_number_0 rfl (lv_at hl 0 rfl) ?_
  obtain ⟨_, hg, h⟩ := zl_some h
  obtain ⟨v1, σ2, hv, h⟩ := zb_some h
  refine xcallVi (pc := 1) (As := []) (rest := []) ⟨hx, hb, hml, hown, hts⟩ (c_X12_good l D c o g N hv) zc12 zV_X12_157 rfl zd_X12_good ⟨Nat.le_of_ble_eq_true rfl, Nat.le_of_ble_eq_true rfl⟩ hK hP hE hS hg hl.1 rfl (Nat.le_of_ble_eq_true rfl) ⟨Nat.zero_le _, Nat.zero_le _⟩ dX12_number_1 (fun H locs hP hS => ?_)
  have hj20_3 : ∀ (σ3 : zS), J_X12_number_20 N x0 x1 x2 σ3 = some ρ → ∀ (H : Heap) (locs : List Loc) (ls : Array Slot), zP D c o (zabs o σ3) H → va_S (zA o) s.heap H locs → lv_has ls 4 [(0, .ref (o + x0)), (1, .int x1), (2, .int x2)] → W p l e (zr 6) s m (([.ref (o + x0), .int x1, .int x2] : List Value).toArray) below meth cd H locs 0 0 (MQ below (zQi D c o g ρ) (([.ref (o + x0), .int x1, .int x2] : List Value).toArray) s 0 0 (zA o)) (F0 m 20 ls []) := by
    intro σ3 h H locs ls hP hS hl
    rw [J_X12_number_20.eq_1] at h
    refine lv_aload_n (pc := 20) hx hb dX12_number_20 rfl (lv_at hl 0 rfl) ?_
    obtain ⟨_, hg, h⟩ := zl_some h
    obtain ⟨v4, σ5, hv, h⟩ := zb_some h
    refine xcallVi (pc := 21) (As := []) (rest := []) ⟨hx, hb, hml, hown, hts⟩ (c_X12_good l D c o g N hv) zc12 zV_X12_157 rfl zd_X12_good ⟨Nat.le_of_ble_eq_true rfl, Nat.le_of_ble_eq_true rfl⟩ hK hP hE hS hg hl.1 rfl (Nat.le_of_ble_eq_true rfl) ⟨Nat.zero_le _, Nat.zero_le _⟩ dX12_number_21 (fun H locs hP hS => ?_)
    have hj47_6 : ∀ (σ6 : zS), J_X12_number_47 N x0 σ6 = some ρ → ∀ (H : Heap) (locs : List Loc) (ls : Array Slot), zP D c o (zabs o σ6) H → va_S (zA o) s.heap H locs → lv_has ls 4 [(0, .ref (o + x0))] → W p l e (zr 6) s m (([.ref (o + x0), .int x1, .int x2] : List Value).toArray) below meth cd H locs 0 0 (MQ below (zQi D c o g ρ) (([.ref (o + x0), .int x1, .int x2] : List Value).toArray) s 0 0 (zA o)) (F0 m 47 ls []) := by
      intro σ6 h H locs ls hP hS hl
      rw [J_X12_number_47.eq_1] at h
      refine lv_aload_n (pc := 47) hx hb dX12_number_47 rfl (lv_at hl 0 rfl) ?_
      obtain ⟨_, hg, h⟩ := zl_some h
      obtain ⟨v7, σ8, hv, h⟩ := zb_some h
      refine xcallVi (pc := 48) (As := []) (rest := []) ⟨hx, hb, hml, hown, hts⟩ (c_X12_good l D c o g N hv) zc12 zV_X12_157 rfl zd_X12_good ⟨Nat.le_of_ble_eq_true rfl, Nat.le_of_ble_eq_true rfl⟩ hK hP hE hS hg hl.1 rfl (Nat.le_of_ble_eq_true rfl) ⟨Nat.zero_le _, Nat.zero_le _⟩ dX12_number_48 (fun H locs hP hS => ?_)
      refine lv_if_ne (pc := 51) (tgt := 56) hx hb dX12_number_51 (by decide) (fun c1 => ?_) (fun c1 => ?_)
      · rw [if_neg c1] at h
        refine lv_aload_n (pc := 56) hx hb dX12_number_56 rfl (lv_at hl 0 rfl) ?_
        obtain ⟨v9, hv, h⟩ := zl_some h
        refine xgI (pc := 57) (j := 13) zc12 hx hb hts hown hK hP hv rfl zf_X12_134 dX12_number_57 ?_
        refine lv_istore_n (pc := 60) (lv' := [(3, .int v9), (0, .ref (o + x0))]) hx hb dX12_number_60 rfl hl (by decide) rfl (fun ls hl => ?_)
        refine lv_aload_n (pc := 61) hx hb dX12_number_61 rfl (lv_at hl 1 rfl) ?_
        obtain ⟨_, hg, h⟩ := zl_some h
        obtain ⟨v10, σ11, hv, h⟩ := zb_some h
        refine xcallVv (pc := 62) (As := []) (rest := []) ⟨hx, hb, hml, hown, hts⟩ (c_X12_advance l D c o g N hv) zc12 zV_X12_154 rfl zd_X12_advance ⟨Nat.le_of_ble_eq_true rfl, Nat.le_of_ble_eq_true rfl⟩ hK hP hE hS hg hl.1 rfl (Nat.le_of_ble_eq_true rfl) ⟨Nat.zero_le _, Nat.zero_le _⟩ dX12_number_62 (fun H locs hP hS => ?_)
        refine lv_iload_n (pc := 65) hx hb dX12_number_65 rfl (lv_at hl 0 rfl) ?_
        exact xreti (pc := 66) hx hb hr hlocks hP hK hE hS h dX12_number_66
      · rw [if_pos c1] at h
        refine lv_iconst (pc := 54) (v := 0) hx hb dX12_number_54 (by decide) ?_
        exact xreti (pc := 55) hx hb hr hlocks hP hK hE hS h dX12_number_55
    refine lv_if_eq (pc := 24) (tgt := 47) hx hb dX12_number_24 (by decide) (fun c1 => ?_) (fun c1 => ?_)
    · rw [if_pos c1] at h
      exact hj47_6 σ5 h _ _ ls hP hS (lv_sub hl [0] rfl)
    · rw [if_neg c1] at h
      refine lv_aload_n (pc := 27) hx hb dX12_number_27 rfl (lv_at hl 0 rfl) ?_
      obtain ⟨v12, hv, h⟩ := zl_some h
      refine xgI (pc := 28) (j := 13) zc12 hx hb hts hown hK hP hv rfl zf_X12_134 dX12_number_28 ?_
      refine lv_i2l (pc := 31) hx hb dX12_number_31 rfl ?_
      refine lv_iload_n (pc := 32) hx hb dX12_number_32 rfl (lv_at hl 1 rfl) ?_
      refine lv_i2l (pc := 33) hx hb dX12_number_33 rfl ?_
      refine lv_iload_n (pc := 34) hx hb dX12_number_34 rfl (lv_at hl 2 rfl) ?_
      refine lv_i2l (pc := 35) hx hb dX12_number_35 rfl ?_
      obtain ⟨v13, σ14, hv, h⟩ := zb_some h
      refine xcallSi (pc := 36) (As := [.long (Int32.toInt64 v12), .long (Int32.toInt64 x1), .long (Int32.toInt64 x2)]) (rest := []) ⟨hx, hb, hml, hown, hts⟩ (c_X12_in l D c o g N hv) zT_X12_94 rfl zd_X12_in ⟨Nat.le_of_ble_eq_true rfl, Nat.le_of_ble_eq_true rfl⟩ hK hP hE hS hl.1 rfl (Nat.le_of_ble_eq_true rfl) ⟨Nat.zero_le _, Nat.zero_le _⟩ dX12_number_36 (fun H locs hP hS => ?_)
      refine lv_if_ne (pc := 39) (tgt := 47) hx hb dX12_number_39 (by decide) (fun c1 => ?_) (fun c1 => ?_)
      · rw [if_neg c1] at h
        exact hj47_6 σ14 h _ _ ls hP hS (lv_sub hl [0] rfl)
      · rw [if_pos c1] at h
        refine lv_aload_n (pc := 42) hx hb dX12_number_42 rfl (lv_at hl 0 rfl) ?_
        refine lv_iconst (pc := 43) (v := 2) hx hb dX12_number_43 (by decide) ?_
        obtain ⟨_, hg, h⟩ := zl_some h
        obtain ⟨v15, σ16, hv, h⟩ := zb_some h
        refine xcallVv (pc := 44) (As := [.int 2]) (rest := []) ⟨hx, hb, hml, hown, hts⟩ (c_X12_errs l D c o g N hv) zc12 zV_X12_176 rfl zd_X12_errs ⟨Nat.le_of_ble_eq_true rfl, Nat.le_of_ble_eq_true rfl⟩ hK hP hE hS hg hl.1 rfl (Nat.le_of_ble_eq_true rfl) ⟨Nat.zero_le _, Nat.zero_le _⟩ dX12_number_44 (fun H locs hP hS => ?_)
        exact hj47_6 σ16 h _ _ ls hP hS (lv_sub hl [0] rfl)
  refine lv_if_eq (pc := 4) (tgt := 20) hx hb dX12_number_4 (by decide) (fun c1 => ?_) (fun c1 => ?_)
  · rw [if_pos c1] at h
    exact hj20_3 σ2 h _ _ ls hP hS (lv_sub hl [0, 1, 2] rfl)
  · rw [if_neg c1] at h
    refine lv_aload_n (pc := 7) hx hb dX12_number_7 rfl (lv_at hl 0 rfl) ?_
    obtain ⟨v17, hv, h⟩ := zl_some h
    refine xgI (pc := 8) (j := 12) zc12 hx hb hts hown hK hP hv rfl zf_X12_123 dX12_number_8 ?_
    refine lv_iconst (pc := 11) (v := 2) hx hb dX12_number_11 (by decide) ?_
    refine lv_icmp_eq (pc := 12) (tgt := 20) hx hb dX12_number_12 (by decide) (fun c1 => ?_) (fun c1 => ?_)
    · rw [if_pos c1] at h
      exact hj20_3 σ2 h _ _ ls hP hS (lv_sub hl [0, 1, 2] rfl)
    · rw [if_neg c1] at h
      refine lv_aload_n (pc := 15) hx hb dX12_number_15 rfl (lv_at hl 0 rfl) ?_
      refine lv_iconst (pc := 16) (v := 1) hx hb dX12_number_16 (by decide) ?_
      obtain ⟨_, hg, h⟩ := zl_some h
      obtain ⟨v18, σ19, hv, h⟩ := zb_some h
      refine xcallVv (pc := 17) (As := [.int 1]) (rest := []) ⟨hx, hb, hml, hown, hts⟩ (c_X12_errs l D c o g N hv) zc12 zV_X12_176 rfl zd_X12_errs ⟨Nat.le_of_ble_eq_true rfl, Nat.le_of_ble_eq_true rfl⟩ hK hP hE hS hg hl.1 rfl (Nat.le_of_ble_eq_true rfl) ⟨Nat.zero_le _, Nat.zero_le _⟩ dX12_number_17 (fun H locs hP hS => ?_)
      exact hj20_3 σ19 h _ _ ls hP hS (lv_sub hl [0, 1, 2] rfl)
def f_X12_fault (N : Nat) (x0 : Nat) (x1 : Int32) (σ : zS) : Option (Int32 × zS) :=
  if x1 = 0 then
    (zl (gI 12 14 x0 σ) fun v1 =>
    some (v1, σ))
  else
    (if x1 = 1 then
      (zl (gI 12 15 x0 σ) fun v2 =>
      some (v2, σ))
    else
      (some ((-1), σ)))
set_option maxHeartbeats 4000000 in
set_option maxRecDepth 100000 in
theorem c_X12_fault (l : Launch) (D : va_G) (c : zC) (o : Nat) (g : zEp) (N : Nat) {x0 : Nat} {x1 : Int32} {σ : zS} {ρ : Int32 × zS} (h : f_X12_fault N x0 x1 σ = some ρ) : Met l yX12_fault zs_X12_fault (zr 2) (va_Pc [.ref (o + x0), .int x1] (zG D c o g σ)) (zQi D c o g ρ) 0 0 (zA o) := by
  refine zMetG (by decide) (Nat.le_of_ble_eq_true rfl) ?_
  intro p e s m below meth cd ⟨hx, hb, hr, hml, hown, hts, hlocks⟩ hP hK hE ls hl
  have hS : va_S (zA o) s.heap s.heap [] := va_S.rf
  have hl : lv_has ls 2 [(0, .ref (o + x0)), (1, .int x1)] := hl
  rw [f_X12_fault.eq_1] at h
  refine lv_iload_n (pc := 0) hx hb dX12_fault_0 rfl (lv_at hl 1 rfl) ?_
  refine lv_if_ne (pc := 1) (tgt := 11) hx hb dX12_fault_1 (by decide) (fun c1 => ?_) (fun c1 => ?_)
  · rw [if_neg c1] at h
    refine lv_iload_n (pc := 11) hx hb dX12_fault_11 rfl (lv_at hl 1 rfl) ?_
    refine lv_iconst (pc := 12) (v := 1) hx hb dX12_fault_12 (by decide) ?_
    refine lv_icmp_ne (pc := 13) (tgt := 23) hx hb dX12_fault_13 (by decide) (fun c1 => ?_) (fun c1 => ?_)
    · rw [if_neg c1] at h
      refine lv_iconst (pc := 23) (v := (-1)) hx hb dX12_fault_23 (by decide) ?_
      exact xreti (pc := 24) hx hb hr hlocks hP hK hE hS h dX12_fault_24
    · rw [if_pos c1] at h
      refine lv_aload_n (pc := 16) hx hb dX12_fault_16 rfl (lv_at hl 0 rfl) ?_
      obtain ⟨v1, hv, h⟩ := zl_some h
      refine xgI (pc := 17) (j := 15) zc12 hx hb hts hown hK hP hv rfl zf_X12_33 dX12_fault_17 ?_
      refine lv_goto (pc := 20) (tgt := 24) hx hb dX12_fault_20 (by decide) ?_
      exact xreti (pc := 24) hx hb hr hlocks hP hK hE hS h dX12_fault_24
  · rw [if_pos c1] at h
    refine lv_aload_n (pc := 4) hx hb dX12_fault_4 rfl (lv_at hl 0 rfl) ?_
    obtain ⟨v2, hv, h⟩ := zl_some h
    refine xgI (pc := 5) (j := 14) zc12 hx hb hts hown hK hP hv rfl zf_X12_148 dX12_fault_5 ?_
    refine lv_goto (pc := 8) (tgt := 24) hx hb dX12_fault_8 (by decide) ?_
    exact xreti (pc := 24) hx hb hr hlocks hP hK hE hS h dX12_fault_24
def F_X12_joins_38 (N : Nat) (x0 : Nat) (x1 : Nat) (x2 : Int32) (x3 : Nat) (x4 : Int32) (x5 : Nat) (x6 : Int32) (again26 : (Int32 × zS) → Option (Unit × zS)) (again38 : (Int32 × zS) → Option (Unit × zS)) : Int32 × zS → Option (Unit × zS)
  | (x7, σ) =>
  zl (gI 12 20 x0 σ) fun v2 =>
  if v2 ≤ x7 then
    (again26 (x6 + 1, σ))
  else
    (zl (aI 16 x1 (x2 + x6) σ) fun v3 =>
    if v3 = 0 then
      (again26 (x6 + 1, σ))
    else
      (zl (aI 16 x3 (x4 + x7) σ) fun v4 =>
      if v4 = 0 then
        (again38 (x7 + 1, σ))
      else
        (zl (sI 16 x5 (x6 ||| x7) 1 σ) fun σ5 =>
        again38 (x7 + 1, σ5))))
def F_X12_joins_26 (N : Nat) (x0 : Nat) (x1 : Nat) (x2 : Int32) (x3 : Nat) (x4 : Int32) (x5 : Nat) (again26 : (Int32 × zS) → Option (Unit × zS)) : Int32 × zS → Option (Unit × zS)
  | (x6, σ) =>
  zl (gI 12 20 x0 σ) fun v1 =>
  if v1 ≤ x6 then
    (some ((), σ))
  else
    (zlp (F_X12_joins_38 N x0 x1 x2 x3 x4 x5 x6 again26) N (0, σ))
def F_X12_joins_3 (N : Nat) (x0 : Nat) (x1 : Nat) (x2 : Int32) (x3 : Nat) (x4 : Int32) (x5 : Nat) (again3 : (Int32 × zS) → Option (Unit × zS)) : Int32 × zS → Option (Unit × zS)
  | (x6, σ) =>
  if 1024 ≤ x6 then
    (zlp (F_X12_joins_26 N x0 x1 x2 x3 x4 x5) N (0, σ))
  else
    (zl (sI 16 x5 x6 0 σ) fun σ6 =>
    again3 (x6 + 1, σ6))
def f_X12_joins (N : Nat) (x0 : Nat) (x1 : Nat) (x2 : Int32) (x3 : Nat) (x4 : Int32) (x5 : Nat) (σ : zS) : Option (Unit × zS) :=
  zlp (F_X12_joins_3 N x0 x1 x2 x3 x4 x5) N (0, σ)
set_option maxHeartbeats 4000000 in
set_option maxRecDepth 100000 in
theorem c_X12_joins (l : Launch) (D : va_G) (c : zC) (o : Nat) (g : zEp) (N : Nat) {x0 : Nat} {x1 : Nat} {x2 : Int32} {x3 : Nat} {x4 : Int32} {x5 : Nat} {σ : zS} {ρ : Unit × zS} (h : f_X12_joins N x0 x1 x2 x3 x4 x5 σ = some ρ) : Met l yX12_joins zs_X12_joins (zr 2) (va_Pc [.ref (o + x0), .ref (o + x1), .int x2, .ref (o + x3), .int x4, .ref (o + x5)] (zG D c o g σ)) (zQu D c o g ρ) 0 0 (zA o) := by
  refine zMetG (by decide) (Nat.le_of_ble_eq_true rfl) ?_
  intro p e s m below meth cd ⟨hx, hb, hr, hml, hown, hts, hlocks⟩ hP hK hE ls hl
  have hS : va_S (zA o) s.heap s.heap [] := va_S.rf
  have hl : lv_has ls 8 [(0, .ref (o + x0)), (1, .ref (o + x1)), (2, .int x2), (3, .ref (o + x3)), (4, .int x4), (5, .ref (o + x5))] := hl
  rw [f_X12_joins.eq_1] at h
  refine lv_iconst (pc := 0) (v := 0) hx hb dX12_joins_0 (by decide) ?_
  refine lv_istore (pc := 1) (lv' := [(6, .int 0), (0, .ref (o + x0)), (1, .ref (o + x1)), (2, .int x2), (3, .ref (o + x3)), (4, .int x4), (5, .ref (o + x5))]) hx hb dX12_joins_1 hl (by decide) rfl (fun ls hl => ?_)
  have L3_1 : ∀ (n : Nat) (t : Int32 × zS), zlp (F_X12_joins_3 N x0 x1 x2 x3 x4 x5) n t = some ρ → ∀ (H : Heap) (locs : List Loc) (ls : Array Slot), zP D c o (zabs o (t.2)) H → va_S (zA o) s.heap H locs → lv_has ls 8 [(6, .int (t.1)), (0, .ref (o + x0)), (1, .ref (o + x1)), (2, .int x2), (3, .ref (o + x3)), (4, .int x4), (5, .ref (o + x5))] → W p l e (zr 2) s m (([.ref (o + x0), .ref (o + x1), .int x2, .ref (o + x3), .int x4, .ref (o + x5)] : List Value).toArray) below meth cd H locs 0 0 (MQ below (zQu D c o g ρ) (([.ref (o + x0), .ref (o + x1), .int x2, .ref (o + x3), .int x4, .ref (o + x5)] : List Value).toArray) s 0 0 (zA o)) (F0 m 3 ls []) := by
    refine zlp_ind (fun ag1 ih1 t h H locs ls hP hS hl => ?_)
    obtain ⟨x6_1, σ1⟩ := t
    have hP : zP D c o (zabs o σ1) H := hP
    have hl : lv_has ls 8 [(6, .int x6_1), (0, .ref (o + x0)), (1, .ref (o + x1)), (2, .int x2), (3, .ref (o + x3)), (4, .int x4), (5, .ref (o + x5))] := hl
    rw [F_X12_joins_3.eq_1] at h
    show W p l e (zr 2) s m (([.ref (o + x0), .ref (o + x1), .int x2, .ref (o + x3), .int x4, .ref (o + x5)] : List Value).toArray) below meth cd H locs 0 0 (MQ below (zQu D c o g ρ) (([.ref (o + x0), .ref (o + x1), .int x2, .ref (o + x3), .int x4, .ref (o + x5)] : List Value).toArray) s 0 0 (zA o)) (F0 m 3 ls [])
    refine lv_iload (pc := 3) hx hb dX12_joins_3 (lv_at hl 0 rfl) ?_
    refine lv_sipush (pc := 5) (v := 1024) hx hb dX12_joins_5 (by decide) ?_
    refine lv_icmp_ge (pc := 8) (tgt := 23) hx hb dX12_joins_8 (by decide) (fun c1 => ?_) (fun c1 => ?_)
    · rw [if_pos c1] at h
      refine lv_iconst (pc := 23) (v := 0) hx hb dX12_joins_23 (by decide) ?_
      refine lv_istore (pc := 24) (lv' := [(6, .int 0), (0, .ref (o + x0)), (1, .ref (o + x1)), (2, .int x2), (3, .ref (o + x3)), (4, .int x4), (5, .ref (o + x5))]) hx hb dX12_joins_24 hl (by decide) rfl (fun ls hl => ?_)
      have L26_2 : ∀ (n : Nat) (t : Int32 × zS), zlp (F_X12_joins_26 N x0 x1 x2 x3 x4 x5) n t = some ρ → ∀ (H : Heap) (locs : List Loc) (ls : Array Slot), zP D c o (zabs o (t.2)) H → va_S (zA o) s.heap H locs → lv_has ls 8 [(6, .int (t.1)), (0, .ref (o + x0)), (1, .ref (o + x1)), (2, .int x2), (3, .ref (o + x3)), (4, .int x4), (5, .ref (o + x5))] → W p l e (zr 2) s m (([.ref (o + x0), .ref (o + x1), .int x2, .ref (o + x3), .int x4, .ref (o + x5)] : List Value).toArray) below meth cd H locs 0 0 (MQ below (zQu D c o g ρ) (([.ref (o + x0), .ref (o + x1), .int x2, .ref (o + x3), .int x4, .ref (o + x5)] : List Value).toArray) s 0 0 (zA o)) (F0 m 26 ls []) := by
        refine zlp_ind (fun ag2 ih2 t h H locs ls hP hS hl => ?_)
        obtain ⟨x6_2, σ2⟩ := t
        have hP : zP D c o (zabs o σ2) H := hP
        have hl : lv_has ls 8 [(6, .int x6_2), (0, .ref (o + x0)), (1, .ref (o + x1)), (2, .int x2), (3, .ref (o + x3)), (4, .int x4), (5, .ref (o + x5))] := hl
        rw [F_X12_joins_26.eq_1] at h
        show W p l e (zr 2) s m (([.ref (o + x0), .ref (o + x1), .int x2, .ref (o + x3), .int x4, .ref (o + x5)] : List Value).toArray) below meth cd H locs 0 0 (MQ below (zQu D c o g ρ) (([.ref (o + x0), .ref (o + x1), .int x2, .ref (o + x3), .int x4, .ref (o + x5)] : List Value).toArray) s 0 0 (zA o)) (F0 m 26 ls [])
        refine lv_iload (pc := 26) hx hb dX12_joins_26 (lv_at hl 0 rfl) ?_
        refine lv_aload_n (pc := 28) hx hb dX12_joins_28 rfl (lv_at hl 1 rfl) ?_
        obtain ⟨v3, hv, h⟩ := zl_some h
        refine xgI (pc := 29) (j := 20) zc12 hx hb hts hown hK hP hv rfl zf_X12_180 dX12_joins_29 ?_
        refine lv_icmp_ge (pc := 32) (tgt := 87) hx hb dX12_joins_32 (by decide) (fun c1 => ?_) (fun c1 => ?_)
        · rw [if_pos c1] at h
          exact xretv (pc := 87) hx hb hr hlocks hP hK hE hS h dX12_joins_87
        · rw [if_neg c1] at h
          refine lv_iconst (pc := 35) (v := 0) hx hb dX12_joins_35 (by decide) ?_
          refine lv_istore (pc := 36) (lv' := [(7, .int 0), (6, .int x6_2), (0, .ref (o + x0)), (1, .ref (o + x1)), (2, .int x2), (3, .ref (o + x3)), (4, .int x4), (5, .ref (o + x5))]) hx hb dX12_joins_36 hl (by decide) rfl (fun ls hl => ?_)
          have L38_4 : ∀ (n : Nat) (t : Int32 × zS), zlp (F_X12_joins_38 N x0 x1 x2 x3 x4 x5 x6_2 ag2) n t = some ρ → ∀ (H : Heap) (locs : List Loc) (ls : Array Slot), zP D c o (zabs o (t.2)) H → va_S (zA o) s.heap H locs → lv_has ls 8 [(7, .int (t.1)), (0, .ref (o + x0)), (1, .ref (o + x1)), (2, .int x2), (3, .ref (o + x3)), (4, .int x4), (5, .ref (o + x5)), (6, .int x6_2)] → W p l e (zr 2) s m (([.ref (o + x0), .ref (o + x1), .int x2, .ref (o + x3), .int x4, .ref (o + x5)] : List Value).toArray) below meth cd H locs 0 0 (MQ below (zQu D c o g ρ) (([.ref (o + x0), .ref (o + x1), .int x2, .ref (o + x3), .int x4, .ref (o + x5)] : List Value).toArray) s 0 0 (zA o)) (F0 m 38 ls []) := by
            refine zlp_ind (fun ag4 ih4 t h H locs ls hP hS hl => ?_)
            obtain ⟨x7_4, σ4⟩ := t
            have hP : zP D c o (zabs o σ4) H := hP
            have hl : lv_has ls 8 [(7, .int x7_4), (0, .ref (o + x0)), (1, .ref (o + x1)), (2, .int x2), (3, .ref (o + x3)), (4, .int x4), (5, .ref (o + x5)), (6, .int x6_2)] := hl
            rw [F_X12_joins_38.eq_1] at h
            show W p l e (zr 2) s m (([.ref (o + x0), .ref (o + x1), .int x2, .ref (o + x3), .int x4, .ref (o + x5)] : List Value).toArray) below meth cd H locs 0 0 (MQ below (zQu D c o g ρ) (([.ref (o + x0), .ref (o + x1), .int x2, .ref (o + x3), .int x4, .ref (o + x5)] : List Value).toArray) s 0 0 (zA o)) (F0 m 38 ls [])
            refine lv_iload (pc := 38) hx hb dX12_joins_38 (lv_at hl 0 rfl) ?_
            refine lv_aload_n (pc := 40) hx hb dX12_joins_40 rfl (lv_at hl 1 rfl) ?_
            obtain ⟨v5, hv, h⟩ := zl_some h
            refine xgI (pc := 41) (j := 20) zc12 hx hb hts hown hK hP hv rfl zf_X12_180 dX12_joins_41 ?_
            refine lv_icmp_ge (pc := 44) (tgt := 81) hx hb dX12_joins_44 (by decide) (fun c1 => ?_) (fun c1 => ?_)
            · rw [if_pos c1] at h
              refine lv_iinc (pc := 81) (v := x6_2 + 1) (lv' := [(6, .int (x6_2 + 1)), (7, .int x7_4), (0, .ref (o + x0)), (1, .ref (o + x1)), (2, .int x2), (3, .ref (o + x3)), (4, .int x4), (5, .ref (o + x5))]) hx hb dX12_joins_81 hl (k := 7) rfl rfl (by decide) rfl (fun ls hl => ?_)
              refine lv_goto (pc := 84) (tgt := 26) hx hb dX12_joins_84 (by decide) ?_
              exact ih2 (x6_2 + 1, σ4) h _ _ ls hP hS (lv_sub hl [0, 2, 3, 4, 5, 6, 7] rfl)
            · rw [if_neg c1] at h
              refine lv_aload_n (pc := 47) hx hb dX12_joins_47 rfl (lv_at hl 2 rfl) ?_
              refine lv_iload_n (pc := 48) hx hb dX12_joins_48 rfl (lv_at hl 3 rfl) ?_
              refine lv_iload (pc := 49) hx hb dX12_joins_49 (lv_at hl 7 rfl) ?_
              refine lv_iadd (pc := 51) hx hb dX12_joins_51 ?_
              obtain ⟨v6, hv, h⟩ := zl_some h
              refine xaZ (pc := 52) hx hb hK hP hv dX12_joins_52 ?_
              refine lv_if_eq (pc := 53) (tgt := 81) hx hb dX12_joins_53 (by decide) (fun c1 => ?_) (fun c1 => ?_)
              · rw [if_pos c1] at h
                refine lv_iinc (pc := 81) (v := x6_2 + 1) (lv' := [(6, .int (x6_2 + 1)), (7, .int x7_4), (0, .ref (o + x0)), (1, .ref (o + x1)), (2, .int x2), (3, .ref (o + x3)), (4, .int x4), (5, .ref (o + x5))]) hx hb dX12_joins_81 hl (k := 7) rfl rfl (by decide) rfl (fun ls hl => ?_)
                refine lv_goto (pc := 84) (tgt := 26) hx hb dX12_joins_84 (by decide) ?_
                exact ih2 (x6_2 + 1, σ4) h _ _ ls hP hS (lv_sub hl [0, 2, 3, 4, 5, 6, 7] rfl)
              · rw [if_neg c1] at h
                refine lv_aload_n (pc := 56) hx hb dX12_joins_56 rfl (lv_at hl 4 rfl) ?_
                refine lv_iload (pc := 57) hx hb dX12_joins_57 (lv_at hl 5 rfl) ?_
                refine lv_iload (pc := 59) hx hb dX12_joins_59 (lv_at hl 0 rfl) ?_
                refine lv_iadd (pc := 61) hx hb dX12_joins_61 ?_
                obtain ⟨v7, hv, h⟩ := zl_some h
                refine xaZ (pc := 62) hx hb hK hP hv dX12_joins_62 ?_
                refine lv_if_eq (pc := 63) (tgt := 75) hx hb dX12_joins_63 (by decide) (fun c1 => ?_) (fun c1 => ?_)
                · rw [if_pos c1] at h
                  refine lv_iinc (pc := 75) (v := x7_4 + 1) (lv' := [(7, .int (x7_4 + 1)), (0, .ref (o + x0)), (1, .ref (o + x1)), (2, .int x2), (3, .ref (o + x3)), (4, .int x4), (5, .ref (o + x5)), (6, .int x6_2)]) hx hb dX12_joins_75 hl (k := 0) rfl rfl (by decide) rfl (fun ls hl => ?_)
                  refine lv_goto (pc := 78) (tgt := 38) hx hb dX12_joins_78 (by decide) ?_
                  exact ih4 (x7_4 + 1, σ4) h _ _ ls hP hS (lv_sub hl [0, 1, 2, 3, 4, 5, 6, 7] rfl)
                · rw [if_neg c1] at h
                  refine lv_aload (pc := 66) hx hb dX12_joins_66 (lv_at hl 6 rfl) ?_
                  refine lv_iload (pc := 68) hx hb dX12_joins_68 (lv_at hl 7 rfl) ?_
                  refine lv_iload (pc := 70) hx hb dX12_joins_70 (lv_at hl 0 rfl) ?_
                  refine lv_ior (pc := 72) hx hb dX12_joins_72 ?_
                  refine lv_iconst (pc := 73) (v := 1) hx hb dX12_joins_73 (by decide) ?_
                  obtain ⟨σ8, hv, h⟩ := zl_some h
                  refine xsZ (pc := 74) hx hb hK hP hS hv dX12_joins_74 (fun H locs hP hS => ?_)
                  refine lv_iinc (pc := 75) (v := x7_4 + 1) (lv' := [(7, .int (x7_4 + 1)), (0, .ref (o + x0)), (1, .ref (o + x1)), (2, .int x2), (3, .ref (o + x3)), (4, .int x4), (5, .ref (o + x5)), (6, .int x6_2)]) hx hb dX12_joins_75 hl (k := 0) rfl rfl (by decide) rfl (fun ls hl => ?_)
                  refine lv_goto (pc := 78) (tgt := 38) hx hb dX12_joins_78 (by decide) ?_
                  exact ih4 (x7_4 + 1, σ8) h _ _ ls hP hS (lv_sub hl [0, 1, 2, 3, 4, 5, 6, 7] rfl)
          exact L38_4 N (0, σ2) h _ _ ls hP hS (lv_sub hl [0, 2, 3, 4, 5, 6, 7, 1] rfl)
      exact L26_2 N (0, σ1) h _ _ ls hP hS (lv_sub hl [0, 1, 2, 3, 4, 5, 6] rfl)
    · rw [if_neg c1] at h
      refine lv_aload (pc := 11) hx hb dX12_joins_11 (lv_at hl 6 rfl) ?_
      refine lv_iload (pc := 13) hx hb dX12_joins_13 (lv_at hl 0 rfl) ?_
      refine lv_iconst (pc := 15) (v := 0) hx hb dX12_joins_15 (by decide) ?_
      obtain ⟨σ9, hv, h⟩ := zl_some h
      refine xsZ (pc := 16) hx hb hK hP hS hv dX12_joins_16 (fun H locs hP hS => ?_)
      refine lv_iinc (pc := 17) (v := x6_1 + 1) (lv' := [(6, .int (x6_1 + 1)), (0, .ref (o + x0)), (1, .ref (o + x1)), (2, .int x2), (3, .ref (o + x3)), (4, .int x4), (5, .ref (o + x5))]) hx hb dX12_joins_17 hl (k := 0) rfl rfl (by decide) rfl (fun ls hl => ?_)
      refine lv_goto (pc := 20) (tgt := 3) hx hb dX12_joins_20 (by decide) ?_
      exact ih1 (x6_1 + 1, σ9) h _ _ ls hP hS (lv_sub hl [0, 1, 2, 3, 4, 5, 6] rfl)
  exact L3_1 N (0, σ) h _ _ ls hP hS (lv_sub hl [0, 1, 2, 3, 4, 5, 6] rfl)
def F_X12_isOver_6 (N : Nat) (x0 : Nat) (x1 : Nat) (x2 : Int32) (x3 : Nat) (x4 : Int32) (x5 : Int32) (again6 : (Int32 × Int32 × zS) → Option (Int32 × zS)) : Int32 × Int32 × zS → Option (Int32 × zS)
  | (x6, x7, σ) =>
  zl (gI 12 20 x0 σ) fun v1 =>
  if v1 ≤ x7 then
    (rZ x6 σ)
  else
    (zl (aI 16 x3 (x4 + x7) σ) fun v2 =>
    if v2 = 0 then
      (again6 (x6, x7 + 1, σ))
    else
      (if (x5 &&& x7) = 0 then
        (zl (aI 16 x1 (x2 + (x5 ||| x7)) σ) fun v3 =>
        if v3 = 0 then
          (rZ 0 σ)
        else
          (again6 (1, x7 + 1, σ)))
      else
        (rZ 0 σ)))
def f_X12_isOver (N : Nat) (x0 : Nat) (x1 : Nat) (x2 : Int32) (x3 : Nat) (x4 : Int32) (x5 : Int32) (σ : zS) : Option (Int32 × zS) :=
  zlp (F_X12_isOver_6 N x0 x1 x2 x3 x4 x5) N (0, 0, σ)
set_option maxHeartbeats 4000000 in
set_option maxRecDepth 100000 in
theorem c_X12_isOver (l : Launch) (D : va_G) (c : zC) (o : Nat) (g : zEp) (N : Nat) {x0 : Nat} {x1 : Nat} {x2 : Int32} {x3 : Nat} {x4 : Int32} {x5 : Int32} {σ : zS} {ρ : Int32 × zS} (h : f_X12_isOver N x0 x1 x2 x3 x4 x5 σ = some ρ) : Met l yX12_isOver zs_X12_isOver (zr 2) (va_Pc [.ref (o + x0), .ref (o + x1), .int x2, .ref (o + x3), .int x4, .int x5] (zG D c o g σ)) (zQi D c o g ρ) 0 0 (zA o) := by
  refine zMetG (by decide) (Nat.le_of_ble_eq_true rfl) ?_
  intro p e s m below meth cd ⟨hx, hb, hr, hml, hown, hts, hlocks⟩ hP hK hE ls hl
  have hS : va_S (zA o) s.heap s.heap [] := va_S.rf
  have hl : lv_has ls 8 [(0, .ref (o + x0)), (1, .ref (o + x1)), (2, .int x2), (3, .ref (o + x3)), (4, .int x4), (5, .int x5)] := hl
  rw [f_X12_isOver.eq_1] at h
  refine lv_iconst (pc := 0) (v := 0) hx hb dX12_isOver_0 (by decide) ?_
  refine lv_istore (pc := 1) (lv' := [(6, .int 0), (0, .ref (o + x0)), (1, .ref (o + x1)), (2, .int x2), (3, .ref (o + x3)), (4, .int x4), (5, .int x5)]) hx hb dX12_isOver_1 hl (by decide) rfl (fun ls hl => ?_)
  refine lv_iconst (pc := 3) (v := 0) hx hb dX12_isOver_3 (by decide) ?_
  refine lv_istore (pc := 4) (lv' := [(7, .int 0), (6, .int 0), (0, .ref (o + x0)), (1, .ref (o + x1)), (2, .int x2), (3, .ref (o + x3)), (4, .int x4), (5, .int x5)]) hx hb dX12_isOver_4 hl (by decide) rfl (fun ls hl => ?_)
  have L6_1 : ∀ (n : Nat) (t : Int32 × Int32 × zS), zlp (F_X12_isOver_6 N x0 x1 x2 x3 x4 x5) n t = some ρ → ∀ (H : Heap) (locs : List Loc) (ls : Array Slot), zP D c o (zabs o (t.2.2)) H → va_S (zA o) s.heap H locs → lv_has ls 8 [(6, .int (t.1)), (7, .int (t.2.1)), (0, .ref (o + x0)), (1, .ref (o + x1)), (2, .int x2), (3, .ref (o + x3)), (4, .int x4), (5, .int x5)] → W p l e (zr 2) s m (([.ref (o + x0), .ref (o + x1), .int x2, .ref (o + x3), .int x4, .int x5] : List Value).toArray) below meth cd H locs 0 0 (MQ below (zQi D c o g ρ) (([.ref (o + x0), .ref (o + x1), .int x2, .ref (o + x3), .int x4, .int x5] : List Value).toArray) s 0 0 (zA o)) (F0 m 6 ls []) := by
    refine zlp_ind (fun ag1 ih1 t h H locs ls hP hS hl => ?_)
    obtain ⟨x6_1, x7_1, σ1⟩ := t
    have hP : zP D c o (zabs o σ1) H := hP
    have hl : lv_has ls 8 [(6, .int x6_1), (7, .int x7_1), (0, .ref (o + x0)), (1, .ref (o + x1)), (2, .int x2), (3, .ref (o + x3)), (4, .int x4), (5, .int x5)] := hl
    rw [F_X12_isOver_6.eq_1] at h
    show W p l e (zr 2) s m (([.ref (o + x0), .ref (o + x1), .int x2, .ref (o + x3), .int x4, .int x5] : List Value).toArray) below meth cd H locs 0 0 (MQ below (zQi D c o g ρ) (([.ref (o + x0), .ref (o + x1), .int x2, .ref (o + x3), .int x4, .int x5] : List Value).toArray) s 0 0 (zA o)) (F0 m 6 ls [])
    refine lv_iload (pc := 6) hx hb dX12_isOver_6 (lv_at hl 1 rfl) ?_
    refine lv_aload_n (pc := 8) hx hb dX12_isOver_8 rfl (lv_at hl 2 rfl) ?_
    obtain ⟨v2, hv, h⟩ := zl_some h
    refine xgI (pc := 9) (j := 20) zc12 hx hb hts hown hK hP hv rfl zf_X12_180 dX12_isOver_9 ?_
    refine lv_icmp_ge (pc := 12) (tgt := 59) hx hb dX12_isOver_12 (by decide) (fun c1 => ?_) (fun c1 => ?_)
    · rw [if_pos c1] at h
      refine lv_iload (pc := 59) hx hb dX12_isOver_59 (lv_at hl 0 rfl) ?_
      exact xretz (pc := 61) hx hb hr hlocks hP hK hE hS h dX12_isOver_61
    · rw [if_neg c1] at h
      refine lv_aload_n (pc := 15) hx hb dX12_isOver_15 rfl (lv_at hl 5 rfl) ?_
      refine lv_iload (pc := 16) hx hb dX12_isOver_16 (lv_at hl 6 rfl) ?_
      refine lv_iload (pc := 18) hx hb dX12_isOver_18 (lv_at hl 1 rfl) ?_
      refine lv_iadd (pc := 20) hx hb dX12_isOver_20 ?_
      obtain ⟨v3, hv, h⟩ := zl_some h
      refine xaZ (pc := 21) hx hb hK hP hv dX12_isOver_21 ?_
      refine lv_if_ne (pc := 22) (tgt := 28) hx hb dX12_isOver_22 (by decide) (fun c1 => ?_) (fun c1 => ?_)
      · rw [if_neg c1] at h
        refine lv_iconst (pc := 28) (v := 1) hx hb dX12_isOver_28 (by decide) ?_
        refine lv_istore (pc := 29) (lv' := [(6, .int 1), (7, .int x7_1), (0, .ref (o + x0)), (1, .ref (o + x1)), (2, .int x2), (3, .ref (o + x3)), (4, .int x4), (5, .int x5)]) hx hb dX12_isOver_29 hl (by decide) rfl (fun ls hl => ?_)
        refine lv_iload (pc := 31) hx hb dX12_isOver_31 (lv_at hl 7 rfl) ?_
        refine lv_iload (pc := 33) hx hb dX12_isOver_33 (lv_at hl 1 rfl) ?_
        refine lv_iand (pc := 35) hx hb dX12_isOver_35 ?_
        refine lv_if_ne (pc := 36) (tgt := 51) hx hb dX12_isOver_36 (by decide) (fun c1 => ?_) (fun c1 => ?_)
        · rw [if_neg c1] at h
          refine lv_iconst (pc := 51) (v := 0) hx hb dX12_isOver_51 (by decide) ?_
          exact xretz (pc := 52) hx hb hr hlocks hP hK hE hS h dX12_isOver_52
        · rw [if_pos c1] at h
          refine lv_aload_n (pc := 39) hx hb dX12_isOver_39 rfl (lv_at hl 3 rfl) ?_
          refine lv_iload_n (pc := 40) hx hb dX12_isOver_40 rfl (lv_at hl 4 rfl) ?_
          refine lv_iload (pc := 41) hx hb dX12_isOver_41 (lv_at hl 7 rfl) ?_
          refine lv_iload (pc := 43) hx hb dX12_isOver_43 (lv_at hl 1 rfl) ?_
          refine lv_ior (pc := 45) hx hb dX12_isOver_45 ?_
          refine lv_iadd (pc := 46) hx hb dX12_isOver_46 ?_
          obtain ⟨v4, hv, h⟩ := zl_some h
          refine xaZ (pc := 47) hx hb hK hP hv dX12_isOver_47 ?_
          refine lv_if_ne (pc := 48) (tgt := 53) hx hb dX12_isOver_48 (by decide) (fun c1 => ?_) (fun c1 => ?_)
          · rw [if_neg c1] at h
            refine lv_iinc (pc := 53) (v := x7_1 + 1) (lv' := [(7, .int (x7_1 + 1)), (6, .int 1), (0, .ref (o + x0)), (1, .ref (o + x1)), (2, .int x2), (3, .ref (o + x3)), (4, .int x4), (5, .int x5)]) hx hb dX12_isOver_53 hl (k := 1) rfl rfl (by decide) rfl (fun ls hl => ?_)
            refine lv_goto (pc := 56) (tgt := 6) hx hb dX12_isOver_56 (by decide) ?_
            exact ih1 (1, x7_1 + 1, σ1) h _ _ ls hP hS (lv_sub hl [1, 0, 2, 3, 4, 5, 6, 7] rfl)
          · rw [if_pos c1] at h
            refine lv_iconst (pc := 51) (v := 0) hx hb dX12_isOver_51 (by decide) ?_
            exact xretz (pc := 52) hx hb hr hlocks hP hK hE hS h dX12_isOver_52
      · rw [if_pos c1] at h
        refine lv_goto (pc := 25) (tgt := 53) hx hb dX12_isOver_25 (by decide) ?_
        refine lv_iinc (pc := 53) (v := x7_1 + 1) (lv' := [(7, .int (x7_1 + 1)), (6, .int x6_1), (0, .ref (o + x0)), (1, .ref (o + x1)), (2, .int x2), (3, .ref (o + x3)), (4, .int x4), (5, .int x5)]) hx hb dX12_isOver_53 hl (k := 1) rfl rfl (by decide) rfl (fun ls hl => ?_)
        refine lv_goto (pc := 56) (tgt := 6) hx hb dX12_isOver_56 (by decide) ?_
        exact ih1 (x6_1, x7_1 + 1, σ1) h _ _ ls hP hS (lv_sub hl [1, 0, 2, 3, 4, 5, 6, 7] rfl)
  exact L6_1 N (0, 0, σ) h _ _ ls hP hS (lv_sub hl [1, 0, 2, 3, 4, 5, 6, 7] rfl)
def F_X12_isTouching_3 (N : Nat) (x0 : Nat) (x1 : Nat) (x2 : Int32) (x3 : Int32) (again3 : (Int32 × zS) → Option (Int32 × zS)) : Int32 × zS → Option (Int32 × zS)
  | (x4, σ) =>
  zl (gI 12 20 x0 σ) fun v1 =>
  if v1 ≤ x4 then
    (rZ 1 σ)
  else
    (zl (aI 16 x1 (x2 + x4) σ) fun v2 =>
    if v2 = 0 then
      (again3 (x4 + 1, σ))
    else
      (if (x3 &&& x4) = 0 then
        (rZ 0 σ)
      else
        (again3 (x4 + 1, σ))))
def f_X12_isTouching (N : Nat) (x0 : Nat) (x1 : Nat) (x2 : Int32) (x3 : Int32) (σ : zS) : Option (Int32 × zS) :=
  zlp (F_X12_isTouching_3 N x0 x1 x2 x3) N (0, σ)
set_option maxHeartbeats 4000000 in
set_option maxRecDepth 100000 in
theorem c_X12_isTouching (l : Launch) (D : va_G) (c : zC) (o : Nat) (g : zEp) (N : Nat) {x0 : Nat} {x1 : Nat} {x2 : Int32} {x3 : Int32} {σ : zS} {ρ : Int32 × zS} (h : f_X12_isTouching N x0 x1 x2 x3 σ = some ρ) : Met l yX12_isTouching zs_X12_isTouching (zr 2) (va_Pc [.ref (o + x0), .ref (o + x1), .int x2, .int x3] (zG D c o g σ)) (zQi D c o g ρ) 0 0 (zA o) := by
  refine zMetG (by decide) (Nat.le_of_ble_eq_true rfl) ?_
  intro p e s m below meth cd ⟨hx, hb, hr, hml, hown, hts, hlocks⟩ hP hK hE ls hl
  have hS : va_S (zA o) s.heap s.heap [] := va_S.rf
  have hl : lv_has ls 5 [(0, .ref (o + x0)), (1, .ref (o + x1)), (2, .int x2), (3, .int x3)] := hl
  rw [f_X12_isTouching.eq_1] at h
  refine lv_iconst (pc := 0) (v := 0) hx hb dX12_isTouching_0 (by decide) ?_
  refine lv_istore (pc := 1) (lv' := [(4, .int 0), (0, .ref (o + x0)), (1, .ref (o + x1)), (2, .int x2), (3, .int x3)]) hx hb dX12_isTouching_1 hl (by decide) rfl (fun ls hl => ?_)
  have L3_1 : ∀ (n : Nat) (t : Int32 × zS), zlp (F_X12_isTouching_3 N x0 x1 x2 x3) n t = some ρ → ∀ (H : Heap) (locs : List Loc) (ls : Array Slot), zP D c o (zabs o (t.2)) H → va_S (zA o) s.heap H locs → lv_has ls 5 [(4, .int (t.1)), (0, .ref (o + x0)), (1, .ref (o + x1)), (2, .int x2), (3, .int x3)] → W p l e (zr 2) s m (([.ref (o + x0), .ref (o + x1), .int x2, .int x3] : List Value).toArray) below meth cd H locs 0 0 (MQ below (zQi D c o g ρ) (([.ref (o + x0), .ref (o + x1), .int x2, .int x3] : List Value).toArray) s 0 0 (zA o)) (F0 m 3 ls []) := by
    refine zlp_ind (fun ag1 ih1 t h H locs ls hP hS hl => ?_)
    obtain ⟨x4_1, σ1⟩ := t
    have hP : zP D c o (zabs o σ1) H := hP
    have hl : lv_has ls 5 [(4, .int x4_1), (0, .ref (o + x0)), (1, .ref (o + x1)), (2, .int x2), (3, .int x3)] := hl
    rw [F_X12_isTouching_3.eq_1] at h
    show W p l e (zr 2) s m (([.ref (o + x0), .ref (o + x1), .int x2, .int x3] : List Value).toArray) below meth cd H locs 0 0 (MQ below (zQi D c o g ρ) (([.ref (o + x0), .ref (o + x1), .int x2, .int x3] : List Value).toArray) s 0 0 (zA o)) (F0 m 3 ls [])
    refine lv_iload (pc := 3) hx hb dX12_isTouching_3 (lv_at hl 0 rfl) ?_
    refine lv_aload_n (pc := 5) hx hb dX12_isTouching_5 rfl (lv_at hl 1 rfl) ?_
    obtain ⟨v2, hv, h⟩ := zl_some h
    refine xgI (pc := 6) (j := 20) zc12 hx hb hts hown hK hP hv rfl zf_X12_180 dX12_isTouching_6 ?_
    refine lv_icmp_ge (pc := 9) (tgt := 36) hx hb dX12_isTouching_9 (by decide) (fun c1 => ?_) (fun c1 => ?_)
    · rw [if_pos c1] at h
      refine lv_iconst (pc := 36) (v := 1) hx hb dX12_isTouching_36 (by decide) ?_
      exact xretz (pc := 37) hx hb hr hlocks hP hK hE hS h dX12_isTouching_37
    · rw [if_neg c1] at h
      refine lv_aload_n (pc := 12) hx hb dX12_isTouching_12 rfl (lv_at hl 2 rfl) ?_
      refine lv_iload_n (pc := 13) hx hb dX12_isTouching_13 rfl (lv_at hl 3 rfl) ?_
      refine lv_iload (pc := 14) hx hb dX12_isTouching_14 (lv_at hl 0 rfl) ?_
      refine lv_iadd (pc := 16) hx hb dX12_isTouching_16 ?_
      obtain ⟨v3, hv, h⟩ := zl_some h
      refine xaZ (pc := 17) hx hb hK hP hv dX12_isTouching_17 ?_
      refine lv_if_eq (pc := 18) (tgt := 30) hx hb dX12_isTouching_18 (by decide) (fun c1 => ?_) (fun c1 => ?_)
      · rw [if_pos c1] at h
        refine lv_iinc (pc := 30) (v := x4_1 + 1) (lv' := [(4, .int (x4_1 + 1)), (0, .ref (o + x0)), (1, .ref (o + x1)), (2, .int x2), (3, .int x3)]) hx hb dX12_isTouching_30 hl (k := 0) rfl rfl (by decide) rfl (fun ls hl => ?_)
        refine lv_goto (pc := 33) (tgt := 3) hx hb dX12_isTouching_33 (by decide) ?_
        exact ih1 (x4_1 + 1, σ1) h _ _ ls hP hS (lv_sub hl [0, 1, 2, 3, 4] rfl)
      · rw [if_neg c1] at h
        refine lv_iload_n (pc := 21) hx hb dX12_isTouching_21 rfl (lv_at hl 4 rfl) ?_
        refine lv_iload (pc := 22) hx hb dX12_isTouching_22 (lv_at hl 0 rfl) ?_
        refine lv_iand (pc := 24) hx hb dX12_isTouching_24 ?_
        refine lv_if_ne (pc := 25) (tgt := 30) hx hb dX12_isTouching_25 (by decide) (fun c1 => ?_) (fun c1 => ?_)
        · rw [if_neg c1] at h
          refine lv_iinc (pc := 30) (v := x4_1 + 1) (lv' := [(4, .int (x4_1 + 1)), (0, .ref (o + x0)), (1, .ref (o + x1)), (2, .int x2), (3, .int x3)]) hx hb dX12_isTouching_30 hl (k := 0) rfl rfl (by decide) rfl (fun ls hl => ?_)
          refine lv_goto (pc := 33) (tgt := 3) hx hb dX12_isTouching_33 (by decide) ?_
          exact ih1 (x4_1 + 1, σ1) h _ _ ls hP hS (lv_sub hl [0, 1, 2, 3, 4] rfl)
        · rw [if_pos c1] at h
          refine lv_iconst (pc := 28) (v := 0) hx hb dX12_isTouching_28 (by decide) ?_
          exact xretz (pc := 29) hx hb hr hlocks hP hK hE hS h dX12_isTouching_29
  exact L3_1 N (0, σ) h _ _ ls hP hS (lv_sub hl [0, 1, 2, 3, 4] rfl)
def F_X12_gives_98 (N : Nat) (x0 : Nat) (x2 : Nat) (x3 : Int32) (again98 : (Int32 × zS) → Option (Unit × zS)) : Int32 × zS → Option (Unit × zS)
  | (x6, σ) =>
  if 1024 ≤ x6 then
    (some ((), σ))
  else
    (zl (gR 12 17 x0 σ) fun v8 =>
    zl (gI 12 20 x0 σ) fun v9 =>
    if v9 ≤ x6 then
      (zl (sI 16 v8 x6 0 σ) fun σ10 =>
      again98 (x6 + 1, σ10))
    else
      (zl (aI 16 x2 (x3 + x6) σ) fun v11 =>
      if v11 = 0 then
        (zl (sI 16 v8 x6 0 σ) fun σ12 =>
        again98 (x6 + 1, σ12))
      else
        (zl (gR 12 19 x0 σ) fun v13 =>
        zl (aI 16 v13 x6 σ) fun v14 =>
        if v14 = 0 then
          (zl (sI 16 v8 x6 1 σ) fun σ15 =>
          again98 (x6 + 1, σ15))
        else
          (zl (sI 16 v8 x6 0 σ) fun σ16 =>
          again98 (x6 + 1, σ16)))))
def F_X12_gives_28 (N : Nat) (x0 : Nat) (x2 : Nat) (x3 : Int32) (x4 : Nat) (x5 : Int32) (again28 : (Int32 × zS) → Option (Unit × zS)) : Int32 × zS → Option (Unit × zS)
  | (x6, σ) =>
  if 1024 ≤ x6 then
    (zl (gR 12 18 x0 σ) fun v4 =>
    zl (gR 12 19 x0 σ) fun v5 =>
    zl (gC 12 x0) fun _ => zb (f_X12_joins N x0 x4 x5 v4 0 v5 σ) fun v6 σ7 =>
    zlp (F_X12_gives_98 N x0 x2 x3) N (0, σ7))
  else
    (zl (gR 12 18 x0 σ) fun v17 =>
    zl (gI 12 20 x0 σ) fun v18 =>
    if v18 ≤ x6 then
      (zl (sI 16 v17 x6 0 σ) fun σ19 =>
      again28 (x6 + 1, σ19))
    else
      (zl (gC 12 x0) fun _ => zb (f_X12_isOver N x0 x2 x3 x4 x5 x6 σ) fun v20 σ21 =>
      if v20 = 0 then
        (zl (sI 16 v17 x6 0 σ21) fun σ22 =>
        again28 (x6 + 1, σ22))
      else
        (zl (sI 16 v17 x6 1 σ21) fun σ23 =>
        again28 (x6 + 1, σ23))))
def J_X12_gives_178 (N : Nat) (again156 : (Int32 × zS) → Option (Unit × zS)) (x0 : Nat) (x1 : Int32) (x2 : Nat) (x3 : Int32) (x4 : Nat) (x5 : Int32) (x6 : Int32) (y0 : Int32) (σ : zS) : Option (Unit × zS) :=
  if x1 = 0 then
    (if y0 = 0 then
      (zl (gR 12 17 x0 σ) fun v25 =>
      zl (sI 16 v25 x6 0 σ) fun σ26 =>
      again156 (x6 + 1, σ26))
    else
      (zl (aI 16 x2 (x3 + x6) σ) fun v27 =>
      if v27 = 0 then
        (zl (aI 16 x4 (x5 + x6) σ) fun v28 =>
        if v28 = 0 then
          (zl (gR 12 17 x0 σ) fun v29 =>
          zl (sI 16 v29 x6 0 σ) fun σ30 =>
          again156 (x6 + 1, σ30))
        else
          (zl (gR 12 17 x0 σ) fun v31 =>
          zl (sI 16 v31 x6 1 σ) fun σ32 =>
          again156 (x6 + 1, σ32)))
      else
        (zl (gR 12 17 x0 σ) fun v33 =>
        zl (sI 16 v33 x6 1 σ) fun σ34 =>
        again156 (x6 + 1, σ34))))
  else
    (if x1 = 1 then
      (if y0 = 0 then
        (zl (gR 12 17 x0 σ) fun v35 =>
        zl (sI 16 v35 x6 0 σ) fun σ36 =>
        again156 (x6 + 1, σ36))
      else
        (zl (aI 16 x2 (x3 + x6) σ) fun v37 =>
        if v37 = 0 then
          (zl (gR 12 17 x0 σ) fun v38 =>
          zl (sI 16 v38 x6 0 σ) fun σ39 =>
          again156 (x6 + 1, σ39))
        else
          (zl (aI 16 x4 (x5 + x6) σ) fun v40 =>
          if v40 = 0 then
            (zl (gR 12 17 x0 σ) fun v41 =>
            zl (sI 16 v41 x6 1 σ) fun σ42 =>
            again156 (x6 + 1, σ42))
          else
            (zl (gR 12 17 x0 σ) fun v43 =>
            zl (sI 16 v43 x6 0 σ) fun σ44 =>
            again156 (x6 + 1, σ44)))))
    else
      (if x1 = 2 then
        (if y0 = 0 then
          (zl (gR 12 17 x0 σ) fun v45 =>
          zl (sI 16 v45 x6 0 σ) fun σ46 =>
          again156 (x6 + 1, σ46))
        else
          (zl (aI 16 x2 (x3 + x6) σ) fun v47 =>
          if v47 = 0 then
            (zl (gR 12 17 x0 σ) fun v48 =>
            zl (sI 16 v48 x6 0 σ) fun σ49 =>
            again156 (x6 + 1, σ49))
          else
            (zl (aI 16 x4 (x5 + x6) σ) fun v50 =>
            if v50 = 0 then
              (zl (gR 12 17 x0 σ) fun v51 =>
              zl (sI 16 v51 x6 0 σ) fun σ52 =>
              again156 (x6 + 1, σ52))
            else
              (zl (gR 12 17 x0 σ) fun v53 =>
              zl (sI 16 v53 x6 1 σ) fun σ54 =>
              again156 (x6 + 1, σ54)))))
      else
        (if x1 = 4 then
          (if y0 = 0 then
            (zl (gR 12 17 x0 σ) fun v55 =>
            zl (sI 16 v55 x6 0 σ) fun σ56 =>
            again156 (x6 + 1, σ56))
          else
            (zl (gC 12 x0) fun _ => zb (f_X12_isOver N x0 x2 x3 x4 x5 x6 σ) fun v57 σ58 =>
            if v57 = 0 then
              (zl (gR 12 17 x0 σ58) fun v59 =>
              zl (sI 16 v59 x6 0 σ58) fun σ60 =>
              again156 (x6 + 1, σ60))
            else
              (zl (gR 12 17 x0 σ58) fun v61 =>
              zl (sI 16 v61 x6 1 σ58) fun σ62 =>
              again156 (x6 + 1, σ62))))
        else
          (if y0 = 0 then
            (zl (gR 12 17 x0 σ) fun v63 =>
            zl (sI 16 v63 x6 0 σ) fun σ64 =>
            again156 (x6 + 1, σ64))
          else
            (zl (aI 16 x2 (x3 + x6) σ) fun v65 =>
            if v65 = 0 then
              (zl (gR 12 17 x0 σ) fun v66 =>
              zl (sI 16 v66 x6 0 σ) fun σ67 =>
              again156 (x6 + 1, σ67))
            else
              (zl (gC 12 x0) fun _ => zb (f_X12_isTouching N x0 x4 x5 x6 σ) fun v68 σ69 =>
              if v68 = 0 then
                (zl (gR 12 17 x0 σ69) fun v70 =>
                zl (sI 16 v70 x6 0 σ69) fun σ71 =>
                again156 (x6 + 1, σ71))
              else
                (zl (gR 12 17 x0 σ69) fun v72 =>
                zl (sI 16 v72 x6 1 σ69) fun σ73 =>
                again156 (x6 + 1, σ73))))))))
def F_X12_gives_156 (N : Nat) (x0 : Nat) (x1 : Int32) (x2 : Nat) (x3 : Int32) (x4 : Nat) (x5 : Int32) (again156 : (Int32 × zS) → Option (Unit × zS)) : Int32 × zS → Option (Unit × zS)
  | (x6, σ) =>
  if 1024 ≤ x6 then
    (some ((), σ))
  else
    (zl (gI 12 20 x0 σ) fun v24 =>
    if v24 ≤ x6 then
      (J_X12_gives_178 N again156 x0 x1 x2 x3 x4 x5 x6 0 σ)
    else
      (J_X12_gives_178 N again156 x0 x1 x2 x3 x4 x5 x6 1 σ))
def f_X12_gives (N : Nat) (x0 : Nat) (x1 : Int32) (x2 : Nat) (x3 : Int32) (x4 : Nat) (x5 : Int32) (σ : zS) : Option (Unit × zS) :=
  if x1 = 3 then
    (zl (gR 12 17 x0 σ) fun v1 =>
    zl (gC 12 x0) fun _ => zb (f_X12_joins N x0 x2 x3 x4 x5 v1 σ) fun v2 σ3 =>
    some ((), σ3))
  else
    (if x1 = 5 then
      (zlp (F_X12_gives_28 N x0 x2 x3 x4 x5) N (0, σ))
    else
      (zlp (F_X12_gives_156 N x0 x1 x2 x3 x4 x5) N (0, σ)))
set_option maxHeartbeats 4000000 in
set_option maxRecDepth 100000 in
theorem c_X12_gives (l : Launch) (D : va_G) (c : zC) (o : Nat) (g : zEp) (N : Nat) {x0 : Nat} {x1 : Int32} {x2 : Nat} {x3 : Int32} {x4 : Nat} {x5 : Int32} {σ : zS} {ρ : Unit × zS} (h : f_X12_gives N x0 x1 x2 x3 x4 x5 σ = some ρ) : Met l yX12_gives zs_X12_gives (zr 4) (va_Pc [.ref (o + x0), .int x1, .ref (o + x2), .int x3, .ref (o + x4), .int x5] (zG D c o g σ)) (zQu D c o g ρ) 0 0 (zA o) := by
  refine zMetG (by decide) (Nat.le_of_ble_eq_true rfl) ?_
  intro p e s m below meth cd ⟨hx, hb, hr, hml, hown, hts, hlocks⟩ hP hK hE ls hl
  have hS : va_S (zA o) s.heap s.heap [] := va_S.rf
  have hl : lv_has ls 8 [(0, .ref (o + x0)), (1, .int x1), (2, .ref (o + x2)), (3, .int x3), (4, .ref (o + x4)), (5, .int x5)] := hl
  rw [f_X12_gives.eq_1] at h
  refine lv_iload_n (pc := 0) hx hb dX12_gives_0 rfl (lv_at hl 1 rfl) ?_
  refine lv_iconst (pc := 1) (v := 3) hx hb dX12_gives_1 (by decide) ?_
  refine lv_icmp_ne (pc := 2) (tgt := 20) hx hb dX12_gives_2 (by decide) (fun c1 => ?_) (fun c1 => ?_)
  · rw [if_neg c1] at h
    refine lv_iload_n (pc := 20) hx hb dX12_gives_20 rfl (lv_at hl 1 rfl) ?_
    refine lv_iconst (pc := 21) (v := 5) hx hb dX12_gives_21 (by decide) ?_
    refine lv_icmp_ne (pc := 22) (tgt := 153) hx hb dX12_gives_22 (by decide) (fun c1 => ?_) (fun c1 => ?_)
    · rw [if_neg c1] at h
      refine lv_iconst (pc := 153) (v := 0) hx hb dX12_gives_153 (by decide) ?_
      refine lv_istore (pc := 154) (lv' := [(6, .int 0), (0, .ref (o + x0)), (1, .int x1), (2, .ref (o + x2)), (3, .int x3), (4, .ref (o + x4)), (5, .int x5)]) hx hb dX12_gives_154 hl (by decide) rfl (fun ls hl => ?_)
      have L156_1 : ∀ (n : Nat) (t : Int32 × zS), zlp (F_X12_gives_156 N x0 x1 x2 x3 x4 x5) n t = some ρ → ∀ (H : Heap) (locs : List Loc) (ls : Array Slot), zP D c o (zabs o (t.2)) H → va_S (zA o) s.heap H locs → lv_has ls 8 [(6, .int (t.1)), (0, .ref (o + x0)), (1, .int x1), (2, .ref (o + x2)), (3, .int x3), (4, .ref (o + x4)), (5, .int x5)] → W p l e (zr 4) s m (([.ref (o + x0), .int x1, .ref (o + x2), .int x3, .ref (o + x4), .int x5] : List Value).toArray) below meth cd H locs 0 0 (MQ below (zQu D c o g ρ) (([.ref (o + x0), .int x1, .ref (o + x2), .int x3, .ref (o + x4), .int x5] : List Value).toArray) s 0 0 (zA o)) (F0 m 156 ls []) := by
        refine zlp_ind (fun ag1 ih1 t h H locs ls hP hS hl => ?_)
        obtain ⟨x6_1, σ1⟩ := t
        have hP : zP D c o (zabs o σ1) H := hP
        have hl : lv_has ls 8 [(6, .int x6_1), (0, .ref (o + x0)), (1, .int x1), (2, .ref (o + x2)), (3, .int x3), (4, .ref (o + x4)), (5, .int x5)] := hl
        rw [F_X12_gives_156.eq_1] at h
        show W p l e (zr 4) s m (([.ref (o + x0), .int x1, .ref (o + x2), .int x3, .ref (o + x4), .int x5] : List Value).toArray) below meth cd H locs 0 0 (MQ below (zQu D c o g ρ) (([.ref (o + x0), .int x1, .ref (o + x2), .int x3, .ref (o + x4), .int x5] : List Value).toArray) s 0 0 (zA o)) (F0 m 156 ls [])
        refine lv_iload (pc := 156) hx hb dX12_gives_156 (lv_at hl 0 rfl) ?_
        refine lv_sipush (pc := 158) (v := 1024) hx hb dX12_gives_158 (by decide) ?_
        refine lv_icmp_ge (pc := 161) (tgt := 383) hx hb dX12_gives_161 (by decide) (fun c1 => ?_) (fun c1 => ?_)
        · rw [if_pos c1] at h
          exact xretv (pc := 383) hx hb hr hlocks hP hK hE hS h dX12_gives_383
        · rw [if_neg c1] at h
          refine lv_iload (pc := 164) hx hb dX12_gives_164 (lv_at hl 0 rfl) ?_
          refine lv_aload_n (pc := 166) hx hb dX12_gives_166 rfl (lv_at hl 1 rfl) ?_
          obtain ⟨v2, hv, h⟩ := zl_some h
          refine xgI (pc := 167) (j := 20) zc12 hx hb hts hown hK hP hv rfl zf_X12_180 dX12_gives_167 ?_
          have hj178_3 : ∀ (y0_3 : Int32) (σ3 : zS), J_X12_gives_178 N ag1 x0 x1 x2 x3 x4 x5 x6_1 y0_3 σ3 = some ρ → ∀ (H : Heap) (locs : List Loc) (ls : Array Slot), zP D c o (zabs o σ3) H → va_S (zA o) s.heap H locs → lv_has ls 8 [(0, .ref (o + x0)), (1, .int x1), (2, .ref (o + x2)), (3, .int x3), (4, .ref (o + x4)), (5, .int x5), (6, .int x6_1)] → W p l e (zr 4) s m (([.ref (o + x0), .int x1, .ref (o + x2), .int x3, .ref (o + x4), .int x5] : List Value).toArray) below meth cd H locs 0 0 (MQ below (zQu D c o g ρ) (([.ref (o + x0), .int x1, .ref (o + x2), .int x3, .ref (o + x4), .int x5] : List Value).toArray) s 0 0 (zA o)) (F0 m 178 ls [.int y0_3]) := by
            intro y0_3 σ3 h H locs ls hP hS hl
            rw [J_X12_gives_178.eq_1] at h
            refine lv_istore (pc := 178) (lv' := [(7, .int y0_3), (0, .ref (o + x0)), (1, .int x1), (2, .ref (o + x2)), (3, .int x3), (4, .ref (o + x4)), (5, .int x5), (6, .int x6_1)]) hx hb dX12_gives_178 hl (by decide) rfl (fun ls hl => ?_)
            refine lv_iload_n (pc := 180) hx hb dX12_gives_180 rfl (lv_at hl 2 rfl) ?_
            refine lv_if_ne (pc := 181) (tgt := 219) hx hb dX12_gives_181 (by decide) (fun c1 => ?_) (fun c1 => ?_)
            · rw [if_neg c1] at h
              refine lv_iload_n (pc := 219) hx hb dX12_gives_219 rfl (lv_at hl 2 rfl) ?_
              refine lv_iconst (pc := 220) (v := 1) hx hb dX12_gives_220 (by decide) ?_
              refine lv_icmp_ne (pc := 221) (tgt := 259) hx hb dX12_gives_221 (by decide) (fun c1 => ?_) (fun c1 => ?_)
              · rw [if_neg c1] at h
                refine lv_iload_n (pc := 259) hx hb dX12_gives_259 rfl (lv_at hl 2 rfl) ?_
                refine lv_iconst (pc := 260) (v := 2) hx hb dX12_gives_260 (by decide) ?_
                refine lv_icmp_ne (pc := 261) (tgt := 299) hx hb dX12_gives_261 (by decide) (fun c1 => ?_) (fun c1 => ?_)
                · rw [if_neg c1] at h
                  refine lv_iload_n (pc := 299) hx hb dX12_gives_299 rfl (lv_at hl 2 rfl) ?_
                  refine lv_iconst (pc := 300) (v := 4) hx hb dX12_gives_300 (by decide) ?_
                  refine lv_icmp_ne (pc := 301) (tgt := 334) hx hb dX12_gives_301 (by decide) (fun c1 => ?_) (fun c1 => ?_)
                  · rw [if_neg c1] at h
                    refine lv_iload (pc := 334) hx hb dX12_gives_334 (lv_at hl 0 rfl) ?_
                    refine lv_if_eq (pc := 336) (tgt := 365) hx hb dX12_gives_336 (by decide) (fun c1 => ?_) (fun c1 => ?_)
                    · rw [if_pos c1] at h
                      refine lv_iconst (pc := 365) (v := 0) hx hb dX12_gives_365 (by decide) ?_
                      refine lv_istore (pc := 366) (lv' := [(7, .int 0), (0, .ref (o + x0)), (1, .int x1), (2, .ref (o + x2)), (3, .int x3), (4, .ref (o + x4)), (5, .int x5), (6, .int x6_1)]) hx hb dX12_gives_366 hl (by decide) rfl (fun ls hl => ?_)
                      refine lv_aload_n (pc := 368) hx hb dX12_gives_368 rfl (lv_at hl 1 rfl) ?_
                      obtain ⟨v4, hv, h⟩ := zl_some h
                      refine xgR (pc := 369) (j := 17) zc12 hx hb hts hown hK hP hv rfl zf_X12_40 dX12_gives_369 ?_
                      refine lv_iload (pc := 372) hx hb dX12_gives_372 (lv_at hl 7 rfl) ?_
                      refine lv_iload (pc := 374) hx hb dX12_gives_374 (lv_at hl 0 rfl) ?_
                      obtain ⟨σ5, hv, h⟩ := zl_some h
                      refine xsZ (pc := 376) hx hb hK hP hS hv dX12_gives_376 (fun H locs hP hS => ?_)
                      refine lv_iinc (pc := 377) (v := x6_1 + 1) (lv' := [(6, .int (x6_1 + 1)), (7, .int 0), (0, .ref (o + x0)), (1, .int x1), (2, .ref (o + x2)), (3, .int x3), (4, .ref (o + x4)), (5, .int x5)]) hx hb dX12_gives_377 hl (k := 7) rfl rfl (by decide) rfl (fun ls hl => ?_)
                      refine lv_goto (pc := 380) (tgt := 156) hx hb dX12_gives_380 (by decide) ?_
                      exact ih1 (x6_1 + 1, σ5) h _ _ ls hP hS (lv_sub hl [0, 2, 3, 4, 5, 6, 7] rfl)
                    · rw [if_neg c1] at h
                      refine lv_aload_n (pc := 339) hx hb dX12_gives_339 rfl (lv_at hl 3 rfl) ?_
                      refine lv_iload_n (pc := 340) hx hb dX12_gives_340 rfl (lv_at hl 4 rfl) ?_
                      refine lv_iload (pc := 341) hx hb dX12_gives_341 (lv_at hl 7 rfl) ?_
                      refine lv_iadd (pc := 343) hx hb dX12_gives_343 ?_
                      obtain ⟨v6, hv, h⟩ := zl_some h
                      refine xaZ (pc := 344) hx hb hK hP hv dX12_gives_344 ?_
                      refine lv_if_eq (pc := 345) (tgt := 365) hx hb dX12_gives_345 (by decide) (fun c1 => ?_) (fun c1 => ?_)
                      · rw [if_pos c1] at h
                        refine lv_iconst (pc := 365) (v := 0) hx hb dX12_gives_365 (by decide) ?_
                        refine lv_istore (pc := 366) (lv' := [(7, .int 0), (0, .ref (o + x0)), (1, .int x1), (2, .ref (o + x2)), (3, .int x3), (4, .ref (o + x4)), (5, .int x5), (6, .int x6_1)]) hx hb dX12_gives_366 hl (by decide) rfl (fun ls hl => ?_)
                        refine lv_aload_n (pc := 368) hx hb dX12_gives_368 rfl (lv_at hl 1 rfl) ?_
                        obtain ⟨v7, hv, h⟩ := zl_some h
                        refine xgR (pc := 369) (j := 17) zc12 hx hb hts hown hK hP hv rfl zf_X12_40 dX12_gives_369 ?_
                        refine lv_iload (pc := 372) hx hb dX12_gives_372 (lv_at hl 7 rfl) ?_
                        refine lv_iload (pc := 374) hx hb dX12_gives_374 (lv_at hl 0 rfl) ?_
                        obtain ⟨σ8, hv, h⟩ := zl_some h
                        refine xsZ (pc := 376) hx hb hK hP hS hv dX12_gives_376 (fun H locs hP hS => ?_)
                        refine lv_iinc (pc := 377) (v := x6_1 + 1) (lv' := [(6, .int (x6_1 + 1)), (7, .int 0), (0, .ref (o + x0)), (1, .int x1), (2, .ref (o + x2)), (3, .int x3), (4, .ref (o + x4)), (5, .int x5)]) hx hb dX12_gives_377 hl (k := 7) rfl rfl (by decide) rfl (fun ls hl => ?_)
                        refine lv_goto (pc := 380) (tgt := 156) hx hb dX12_gives_380 (by decide) ?_
                        exact ih1 (x6_1 + 1, σ8) h _ _ ls hP hS (lv_sub hl [0, 2, 3, 4, 5, 6, 7] rfl)
                      · rw [if_neg c1] at h
                        refine lv_aload_n (pc := 348) hx hb dX12_gives_348 rfl (lv_at hl 1 rfl) ?_
                        refine lv_aload (pc := 349) hx hb dX12_gives_349 (lv_at hl 5 rfl) ?_
                        refine lv_iload (pc := 351) hx hb dX12_gives_351 (lv_at hl 6 rfl) ?_
                        refine lv_iload (pc := 353) hx hb dX12_gives_353 (lv_at hl 7 rfl) ?_
                        obtain ⟨_, hg, h⟩ := zl_some h
                        obtain ⟨v9, σ10, hv, h⟩ := zb_some h
                        refine xcallVi (pc := 355) (As := [.ref (o + x4), .int x5, .int x6_1]) (rest := []) ⟨hx, hb, hml, hown, hts⟩ (c_X12_isTouching l D c o g N hv) zc12 zV_X12_191 rfl zd_X12_isTouching ⟨Nat.le_of_ble_eq_true rfl, Nat.le_of_ble_eq_true rfl⟩ hK hP hE hS hg hl.1 rfl (Nat.le_of_ble_eq_true rfl) ⟨Nat.zero_le _, Nat.zero_le _⟩ dX12_gives_355 (fun H locs hP hS => ?_)
                        refine lv_if_eq (pc := 358) (tgt := 365) hx hb dX12_gives_358 (by decide) (fun c1 => ?_) (fun c1 => ?_)
                        · rw [if_pos c1] at h
                          refine lv_iconst (pc := 365) (v := 0) hx hb dX12_gives_365 (by decide) ?_
                          refine lv_istore (pc := 366) (lv' := [(7, .int 0), (0, .ref (o + x0)), (1, .int x1), (2, .ref (o + x2)), (3, .int x3), (4, .ref (o + x4)), (5, .int x5), (6, .int x6_1)]) hx hb dX12_gives_366 hl (by decide) rfl (fun ls hl => ?_)
                          refine lv_aload_n (pc := 368) hx hb dX12_gives_368 rfl (lv_at hl 1 rfl) ?_
                          obtain ⟨v11, hv, h⟩ := zl_some h
                          refine xgR (pc := 369) (j := 17) zc12 hx hb hts hown hK hP hv rfl zf_X12_40 dX12_gives_369 ?_
                          refine lv_iload (pc := 372) hx hb dX12_gives_372 (lv_at hl 7 rfl) ?_
                          refine lv_iload (pc := 374) hx hb dX12_gives_374 (lv_at hl 0 rfl) ?_
                          obtain ⟨σ12, hv, h⟩ := zl_some h
                          refine xsZ (pc := 376) hx hb hK hP hS hv dX12_gives_376 (fun H locs hP hS => ?_)
                          refine lv_iinc (pc := 377) (v := x6_1 + 1) (lv' := [(6, .int (x6_1 + 1)), (7, .int 0), (0, .ref (o + x0)), (1, .int x1), (2, .ref (o + x2)), (3, .int x3), (4, .ref (o + x4)), (5, .int x5)]) hx hb dX12_gives_377 hl (k := 7) rfl rfl (by decide) rfl (fun ls hl => ?_)
                          refine lv_goto (pc := 380) (tgt := 156) hx hb dX12_gives_380 (by decide) ?_
                          exact ih1 (x6_1 + 1, σ12) h _ _ ls hP hS (lv_sub hl [0, 2, 3, 4, 5, 6, 7] rfl)
                        · rw [if_neg c1] at h
                          refine lv_iconst (pc := 361) (v := 1) hx hb dX12_gives_361 (by decide) ?_
                          refine lv_goto (pc := 362) (tgt := 366) hx hb dX12_gives_362 (by decide) ?_
                          refine lv_istore (pc := 366) (lv' := [(7, .int 1), (0, .ref (o + x0)), (1, .int x1), (2, .ref (o + x2)), (3, .int x3), (4, .ref (o + x4)), (5, .int x5), (6, .int x6_1)]) hx hb dX12_gives_366 hl (by decide) rfl (fun ls hl => ?_)
                          refine lv_aload_n (pc := 368) hx hb dX12_gives_368 rfl (lv_at hl 1 rfl) ?_
                          obtain ⟨v13, hv, h⟩ := zl_some h
                          refine xgR (pc := 369) (j := 17) zc12 hx hb hts hown hK hP hv rfl zf_X12_40 dX12_gives_369 ?_
                          refine lv_iload (pc := 372) hx hb dX12_gives_372 (lv_at hl 7 rfl) ?_
                          refine lv_iload (pc := 374) hx hb dX12_gives_374 (lv_at hl 0 rfl) ?_
                          obtain ⟨σ14, hv, h⟩ := zl_some h
                          refine xsZ (pc := 376) hx hb hK hP hS hv dX12_gives_376 (fun H locs hP hS => ?_)
                          refine lv_iinc (pc := 377) (v := x6_1 + 1) (lv' := [(6, .int (x6_1 + 1)), (7, .int 1), (0, .ref (o + x0)), (1, .int x1), (2, .ref (o + x2)), (3, .int x3), (4, .ref (o + x4)), (5, .int x5)]) hx hb dX12_gives_377 hl (k := 7) rfl rfl (by decide) rfl (fun ls hl => ?_)
                          refine lv_goto (pc := 380) (tgt := 156) hx hb dX12_gives_380 (by decide) ?_
                          exact ih1 (x6_1 + 1, σ14) h _ _ ls hP hS (lv_sub hl [0, 2, 3, 4, 5, 6, 7] rfl)
                  · rw [if_pos c1] at h
                    refine lv_iload (pc := 304) hx hb dX12_gives_304 (lv_at hl 0 rfl) ?_
                    refine lv_if_eq (pc := 306) (tgt := 328) hx hb dX12_gives_306 (by decide) (fun c1 => ?_) (fun c1 => ?_)
                    · rw [if_pos c1] at h
                      refine lv_iconst (pc := 328) (v := 0) hx hb dX12_gives_328 (by decide) ?_
                      refine lv_istore (pc := 329) (lv' := [(7, .int 0), (0, .ref (o + x0)), (1, .int x1), (2, .ref (o + x2)), (3, .int x3), (4, .ref (o + x4)), (5, .int x5), (6, .int x6_1)]) hx hb dX12_gives_329 hl (by decide) rfl (fun ls hl => ?_)
                      refine lv_goto (pc := 331) (tgt := 368) hx hb dX12_gives_331 (by decide) ?_
                      refine lv_aload_n (pc := 368) hx hb dX12_gives_368 rfl (lv_at hl 1 rfl) ?_
                      obtain ⟨v15, hv, h⟩ := zl_some h
                      refine xgR (pc := 369) (j := 17) zc12 hx hb hts hown hK hP hv rfl zf_X12_40 dX12_gives_369 ?_
                      refine lv_iload (pc := 372) hx hb dX12_gives_372 (lv_at hl 7 rfl) ?_
                      refine lv_iload (pc := 374) hx hb dX12_gives_374 (lv_at hl 0 rfl) ?_
                      obtain ⟨σ16, hv, h⟩ := zl_some h
                      refine xsZ (pc := 376) hx hb hK hP hS hv dX12_gives_376 (fun H locs hP hS => ?_)
                      refine lv_iinc (pc := 377) (v := x6_1 + 1) (lv' := [(6, .int (x6_1 + 1)), (7, .int 0), (0, .ref (o + x0)), (1, .int x1), (2, .ref (o + x2)), (3, .int x3), (4, .ref (o + x4)), (5, .int x5)]) hx hb dX12_gives_377 hl (k := 7) rfl rfl (by decide) rfl (fun ls hl => ?_)
                      refine lv_goto (pc := 380) (tgt := 156) hx hb dX12_gives_380 (by decide) ?_
                      exact ih1 (x6_1 + 1, σ16) h _ _ ls hP hS (lv_sub hl [0, 2, 3, 4, 5, 6, 7] rfl)
                    · rw [if_neg c1] at h
                      refine lv_aload_n (pc := 309) hx hb dX12_gives_309 rfl (lv_at hl 1 rfl) ?_
                      refine lv_aload_n (pc := 310) hx hb dX12_gives_310 rfl (lv_at hl 3 rfl) ?_
                      refine lv_iload_n (pc := 311) hx hb dX12_gives_311 rfl (lv_at hl 4 rfl) ?_
                      refine lv_aload (pc := 312) hx hb dX12_gives_312 (lv_at hl 5 rfl) ?_
                      refine lv_iload (pc := 314) hx hb dX12_gives_314 (lv_at hl 6 rfl) ?_
                      refine lv_iload (pc := 316) hx hb dX12_gives_316 (lv_at hl 7 rfl) ?_
                      obtain ⟨_, hg, h⟩ := zl_some h
                      obtain ⟨v17, σ18, hv, h⟩ := zb_some h
                      refine xcallVi (pc := 318) (As := [.ref (o + x2), .int x3, .ref (o + x4), .int x5, .int x6_1]) (rest := []) ⟨hx, hb, hml, hown, hts⟩ (c_X12_isOver l D c o g N hv) zc12 zV_X12_187 rfl zd_X12_isOver ⟨Nat.le_of_ble_eq_true rfl, Nat.le_of_ble_eq_true rfl⟩ hK hP hE hS hg hl.1 rfl (Nat.le_of_ble_eq_true rfl) ⟨Nat.zero_le _, Nat.zero_le _⟩ dX12_gives_318 (fun H locs hP hS => ?_)
                      refine lv_if_eq (pc := 321) (tgt := 328) hx hb dX12_gives_321 (by decide) (fun c1 => ?_) (fun c1 => ?_)
                      · rw [if_pos c1] at h
                        refine lv_iconst (pc := 328) (v := 0) hx hb dX12_gives_328 (by decide) ?_
                        refine lv_istore (pc := 329) (lv' := [(7, .int 0), (0, .ref (o + x0)), (1, .int x1), (2, .ref (o + x2)), (3, .int x3), (4, .ref (o + x4)), (5, .int x5), (6, .int x6_1)]) hx hb dX12_gives_329 hl (by decide) rfl (fun ls hl => ?_)
                        refine lv_goto (pc := 331) (tgt := 368) hx hb dX12_gives_331 (by decide) ?_
                        refine lv_aload_n (pc := 368) hx hb dX12_gives_368 rfl (lv_at hl 1 rfl) ?_
                        obtain ⟨v19, hv, h⟩ := zl_some h
                        refine xgR (pc := 369) (j := 17) zc12 hx hb hts hown hK hP hv rfl zf_X12_40 dX12_gives_369 ?_
                        refine lv_iload (pc := 372) hx hb dX12_gives_372 (lv_at hl 7 rfl) ?_
                        refine lv_iload (pc := 374) hx hb dX12_gives_374 (lv_at hl 0 rfl) ?_
                        obtain ⟨σ20, hv, h⟩ := zl_some h
                        refine xsZ (pc := 376) hx hb hK hP hS hv dX12_gives_376 (fun H locs hP hS => ?_)
                        refine lv_iinc (pc := 377) (v := x6_1 + 1) (lv' := [(6, .int (x6_1 + 1)), (7, .int 0), (0, .ref (o + x0)), (1, .int x1), (2, .ref (o + x2)), (3, .int x3), (4, .ref (o + x4)), (5, .int x5)]) hx hb dX12_gives_377 hl (k := 7) rfl rfl (by decide) rfl (fun ls hl => ?_)
                        refine lv_goto (pc := 380) (tgt := 156) hx hb dX12_gives_380 (by decide) ?_
                        exact ih1 (x6_1 + 1, σ20) h _ _ ls hP hS (lv_sub hl [0, 2, 3, 4, 5, 6, 7] rfl)
                      · rw [if_neg c1] at h
                        refine lv_iconst (pc := 324) (v := 1) hx hb dX12_gives_324 (by decide) ?_
                        refine lv_goto (pc := 325) (tgt := 329) hx hb dX12_gives_325 (by decide) ?_
                        refine lv_istore (pc := 329) (lv' := [(7, .int 1), (0, .ref (o + x0)), (1, .int x1), (2, .ref (o + x2)), (3, .int x3), (4, .ref (o + x4)), (5, .int x5), (6, .int x6_1)]) hx hb dX12_gives_329 hl (by decide) rfl (fun ls hl => ?_)
                        refine lv_goto (pc := 331) (tgt := 368) hx hb dX12_gives_331 (by decide) ?_
                        refine lv_aload_n (pc := 368) hx hb dX12_gives_368 rfl (lv_at hl 1 rfl) ?_
                        obtain ⟨v21, hv, h⟩ := zl_some h
                        refine xgR (pc := 369) (j := 17) zc12 hx hb hts hown hK hP hv rfl zf_X12_40 dX12_gives_369 ?_
                        refine lv_iload (pc := 372) hx hb dX12_gives_372 (lv_at hl 7 rfl) ?_
                        refine lv_iload (pc := 374) hx hb dX12_gives_374 (lv_at hl 0 rfl) ?_
                        obtain ⟨σ22, hv, h⟩ := zl_some h
                        refine xsZ (pc := 376) hx hb hK hP hS hv dX12_gives_376 (fun H locs hP hS => ?_)
                        refine lv_iinc (pc := 377) (v := x6_1 + 1) (lv' := [(6, .int (x6_1 + 1)), (7, .int 1), (0, .ref (o + x0)), (1, .int x1), (2, .ref (o + x2)), (3, .int x3), (4, .ref (o + x4)), (5, .int x5)]) hx hb dX12_gives_377 hl (k := 7) rfl rfl (by decide) rfl (fun ls hl => ?_)
                        refine lv_goto (pc := 380) (tgt := 156) hx hb dX12_gives_380 (by decide) ?_
                        exact ih1 (x6_1 + 1, σ22) h _ _ ls hP hS (lv_sub hl [0, 2, 3, 4, 5, 6, 7] rfl)
                · rw [if_pos c1] at h
                  refine lv_iload (pc := 264) hx hb dX12_gives_264 (lv_at hl 0 rfl) ?_
                  refine lv_if_eq (pc := 266) (tgt := 293) hx hb dX12_gives_266 (by decide) (fun c1 => ?_) (fun c1 => ?_)
                  · rw [if_pos c1] at h
                    refine lv_iconst (pc := 293) (v := 0) hx hb dX12_gives_293 (by decide) ?_
                    refine lv_istore (pc := 294) (lv' := [(7, .int 0), (0, .ref (o + x0)), (1, .int x1), (2, .ref (o + x2)), (3, .int x3), (4, .ref (o + x4)), (5, .int x5), (6, .int x6_1)]) hx hb dX12_gives_294 hl (by decide) rfl (fun ls hl => ?_)
                    refine lv_goto (pc := 296) (tgt := 368) hx hb dX12_gives_296 (by decide) ?_
                    refine lv_aload_n (pc := 368) hx hb dX12_gives_368 rfl (lv_at hl 1 rfl) ?_
                    obtain ⟨v23, hv, h⟩ := zl_some h
                    refine xgR (pc := 369) (j := 17) zc12 hx hb hts hown hK hP hv rfl zf_X12_40 dX12_gives_369 ?_
                    refine lv_iload (pc := 372) hx hb dX12_gives_372 (lv_at hl 7 rfl) ?_
                    refine lv_iload (pc := 374) hx hb dX12_gives_374 (lv_at hl 0 rfl) ?_
                    obtain ⟨σ24, hv, h⟩ := zl_some h
                    refine xsZ (pc := 376) hx hb hK hP hS hv dX12_gives_376 (fun H locs hP hS => ?_)
                    refine lv_iinc (pc := 377) (v := x6_1 + 1) (lv' := [(6, .int (x6_1 + 1)), (7, .int 0), (0, .ref (o + x0)), (1, .int x1), (2, .ref (o + x2)), (3, .int x3), (4, .ref (o + x4)), (5, .int x5)]) hx hb dX12_gives_377 hl (k := 7) rfl rfl (by decide) rfl (fun ls hl => ?_)
                    refine lv_goto (pc := 380) (tgt := 156) hx hb dX12_gives_380 (by decide) ?_
                    exact ih1 (x6_1 + 1, σ24) h _ _ ls hP hS (lv_sub hl [0, 2, 3, 4, 5, 6, 7] rfl)
                  · rw [if_neg c1] at h
                    refine lv_aload_n (pc := 269) hx hb dX12_gives_269 rfl (lv_at hl 3 rfl) ?_
                    refine lv_iload_n (pc := 270) hx hb dX12_gives_270 rfl (lv_at hl 4 rfl) ?_
                    refine lv_iload (pc := 271) hx hb dX12_gives_271 (lv_at hl 7 rfl) ?_
                    refine lv_iadd (pc := 273) hx hb dX12_gives_273 ?_
                    obtain ⟨v25, hv, h⟩ := zl_some h
                    refine xaZ (pc := 274) hx hb hK hP hv dX12_gives_274 ?_
                    refine lv_if_eq (pc := 275) (tgt := 293) hx hb dX12_gives_275 (by decide) (fun c1 => ?_) (fun c1 => ?_)
                    · rw [if_pos c1] at h
                      refine lv_iconst (pc := 293) (v := 0) hx hb dX12_gives_293 (by decide) ?_
                      refine lv_istore (pc := 294) (lv' := [(7, .int 0), (0, .ref (o + x0)), (1, .int x1), (2, .ref (o + x2)), (3, .int x3), (4, .ref (o + x4)), (5, .int x5), (6, .int x6_1)]) hx hb dX12_gives_294 hl (by decide) rfl (fun ls hl => ?_)
                      refine lv_goto (pc := 296) (tgt := 368) hx hb dX12_gives_296 (by decide) ?_
                      refine lv_aload_n (pc := 368) hx hb dX12_gives_368 rfl (lv_at hl 1 rfl) ?_
                      obtain ⟨v26, hv, h⟩ := zl_some h
                      refine xgR (pc := 369) (j := 17) zc12 hx hb hts hown hK hP hv rfl zf_X12_40 dX12_gives_369 ?_
                      refine lv_iload (pc := 372) hx hb dX12_gives_372 (lv_at hl 7 rfl) ?_
                      refine lv_iload (pc := 374) hx hb dX12_gives_374 (lv_at hl 0 rfl) ?_
                      obtain ⟨σ27, hv, h⟩ := zl_some h
                      refine xsZ (pc := 376) hx hb hK hP hS hv dX12_gives_376 (fun H locs hP hS => ?_)
                      refine lv_iinc (pc := 377) (v := x6_1 + 1) (lv' := [(6, .int (x6_1 + 1)), (7, .int 0), (0, .ref (o + x0)), (1, .int x1), (2, .ref (o + x2)), (3, .int x3), (4, .ref (o + x4)), (5, .int x5)]) hx hb dX12_gives_377 hl (k := 7) rfl rfl (by decide) rfl (fun ls hl => ?_)
                      refine lv_goto (pc := 380) (tgt := 156) hx hb dX12_gives_380 (by decide) ?_
                      exact ih1 (x6_1 + 1, σ27) h _ _ ls hP hS (lv_sub hl [0, 2, 3, 4, 5, 6, 7] rfl)
                    · rw [if_neg c1] at h
                      refine lv_aload (pc := 278) hx hb dX12_gives_278 (lv_at hl 5 rfl) ?_
                      refine lv_iload (pc := 280) hx hb dX12_gives_280 (lv_at hl 6 rfl) ?_
                      refine lv_iload (pc := 282) hx hb dX12_gives_282 (lv_at hl 7 rfl) ?_
                      refine lv_iadd (pc := 284) hx hb dX12_gives_284 ?_
                      obtain ⟨v28, hv, h⟩ := zl_some h
                      refine xaZ (pc := 285) hx hb hK hP hv dX12_gives_285 ?_
                      refine lv_if_eq (pc := 286) (tgt := 293) hx hb dX12_gives_286 (by decide) (fun c1 => ?_) (fun c1 => ?_)
                      · rw [if_pos c1] at h
                        refine lv_iconst (pc := 293) (v := 0) hx hb dX12_gives_293 (by decide) ?_
                        refine lv_istore (pc := 294) (lv' := [(7, .int 0), (0, .ref (o + x0)), (1, .int x1), (2, .ref (o + x2)), (3, .int x3), (4, .ref (o + x4)), (5, .int x5), (6, .int x6_1)]) hx hb dX12_gives_294 hl (by decide) rfl (fun ls hl => ?_)
                        refine lv_goto (pc := 296) (tgt := 368) hx hb dX12_gives_296 (by decide) ?_
                        refine lv_aload_n (pc := 368) hx hb dX12_gives_368 rfl (lv_at hl 1 rfl) ?_
                        obtain ⟨v29, hv, h⟩ := zl_some h
                        refine xgR (pc := 369) (j := 17) zc12 hx hb hts hown hK hP hv rfl zf_X12_40 dX12_gives_369 ?_
                        refine lv_iload (pc := 372) hx hb dX12_gives_372 (lv_at hl 7 rfl) ?_
                        refine lv_iload (pc := 374) hx hb dX12_gives_374 (lv_at hl 0 rfl) ?_
                        obtain ⟨σ30, hv, h⟩ := zl_some h
                        refine xsZ (pc := 376) hx hb hK hP hS hv dX12_gives_376 (fun H locs hP hS => ?_)
                        refine lv_iinc (pc := 377) (v := x6_1 + 1) (lv' := [(6, .int (x6_1 + 1)), (7, .int 0), (0, .ref (o + x0)), (1, .int x1), (2, .ref (o + x2)), (3, .int x3), (4, .ref (o + x4)), (5, .int x5)]) hx hb dX12_gives_377 hl (k := 7) rfl rfl (by decide) rfl (fun ls hl => ?_)
                        refine lv_goto (pc := 380) (tgt := 156) hx hb dX12_gives_380 (by decide) ?_
                        exact ih1 (x6_1 + 1, σ30) h _ _ ls hP hS (lv_sub hl [0, 2, 3, 4, 5, 6, 7] rfl)
                      · rw [if_neg c1] at h
                        refine lv_iconst (pc := 289) (v := 1) hx hb dX12_gives_289 (by decide) ?_
                        refine lv_goto (pc := 290) (tgt := 294) hx hb dX12_gives_290 (by decide) ?_
                        refine lv_istore (pc := 294) (lv' := [(7, .int 1), (0, .ref (o + x0)), (1, .int x1), (2, .ref (o + x2)), (3, .int x3), (4, .ref (o + x4)), (5, .int x5), (6, .int x6_1)]) hx hb dX12_gives_294 hl (by decide) rfl (fun ls hl => ?_)
                        refine lv_goto (pc := 296) (tgt := 368) hx hb dX12_gives_296 (by decide) ?_
                        refine lv_aload_n (pc := 368) hx hb dX12_gives_368 rfl (lv_at hl 1 rfl) ?_
                        obtain ⟨v31, hv, h⟩ := zl_some h
                        refine xgR (pc := 369) (j := 17) zc12 hx hb hts hown hK hP hv rfl zf_X12_40 dX12_gives_369 ?_
                        refine lv_iload (pc := 372) hx hb dX12_gives_372 (lv_at hl 7 rfl) ?_
                        refine lv_iload (pc := 374) hx hb dX12_gives_374 (lv_at hl 0 rfl) ?_
                        obtain ⟨σ32, hv, h⟩ := zl_some h
                        refine xsZ (pc := 376) hx hb hK hP hS hv dX12_gives_376 (fun H locs hP hS => ?_)
                        refine lv_iinc (pc := 377) (v := x6_1 + 1) (lv' := [(6, .int (x6_1 + 1)), (7, .int 1), (0, .ref (o + x0)), (1, .int x1), (2, .ref (o + x2)), (3, .int x3), (4, .ref (o + x4)), (5, .int x5)]) hx hb dX12_gives_377 hl (k := 7) rfl rfl (by decide) rfl (fun ls hl => ?_)
                        refine lv_goto (pc := 380) (tgt := 156) hx hb dX12_gives_380 (by decide) ?_
                        exact ih1 (x6_1 + 1, σ32) h _ _ ls hP hS (lv_sub hl [0, 2, 3, 4, 5, 6, 7] rfl)
              · rw [if_pos c1] at h
                refine lv_iload (pc := 224) hx hb dX12_gives_224 (lv_at hl 0 rfl) ?_
                refine lv_if_eq (pc := 226) (tgt := 253) hx hb dX12_gives_226 (by decide) (fun c1 => ?_) (fun c1 => ?_)
                · rw [if_pos c1] at h
                  refine lv_iconst (pc := 253) (v := 0) hx hb dX12_gives_253 (by decide) ?_
                  refine lv_istore (pc := 254) (lv' := [(7, .int 0), (0, .ref (o + x0)), (1, .int x1), (2, .ref (o + x2)), (3, .int x3), (4, .ref (o + x4)), (5, .int x5), (6, .int x6_1)]) hx hb dX12_gives_254 hl (by decide) rfl (fun ls hl => ?_)
                  refine lv_goto (pc := 256) (tgt := 368) hx hb dX12_gives_256 (by decide) ?_
                  refine lv_aload_n (pc := 368) hx hb dX12_gives_368 rfl (lv_at hl 1 rfl) ?_
                  obtain ⟨v33, hv, h⟩ := zl_some h
                  refine xgR (pc := 369) (j := 17) zc12 hx hb hts hown hK hP hv rfl zf_X12_40 dX12_gives_369 ?_
                  refine lv_iload (pc := 372) hx hb dX12_gives_372 (lv_at hl 7 rfl) ?_
                  refine lv_iload (pc := 374) hx hb dX12_gives_374 (lv_at hl 0 rfl) ?_
                  obtain ⟨σ34, hv, h⟩ := zl_some h
                  refine xsZ (pc := 376) hx hb hK hP hS hv dX12_gives_376 (fun H locs hP hS => ?_)
                  refine lv_iinc (pc := 377) (v := x6_1 + 1) (lv' := [(6, .int (x6_1 + 1)), (7, .int 0), (0, .ref (o + x0)), (1, .int x1), (2, .ref (o + x2)), (3, .int x3), (4, .ref (o + x4)), (5, .int x5)]) hx hb dX12_gives_377 hl (k := 7) rfl rfl (by decide) rfl (fun ls hl => ?_)
                  refine lv_goto (pc := 380) (tgt := 156) hx hb dX12_gives_380 (by decide) ?_
                  exact ih1 (x6_1 + 1, σ34) h _ _ ls hP hS (lv_sub hl [0, 2, 3, 4, 5, 6, 7] rfl)
                · rw [if_neg c1] at h
                  refine lv_aload_n (pc := 229) hx hb dX12_gives_229 rfl (lv_at hl 3 rfl) ?_
                  refine lv_iload_n (pc := 230) hx hb dX12_gives_230 rfl (lv_at hl 4 rfl) ?_
                  refine lv_iload (pc := 231) hx hb dX12_gives_231 (lv_at hl 7 rfl) ?_
                  refine lv_iadd (pc := 233) hx hb dX12_gives_233 ?_
                  obtain ⟨v35, hv, h⟩ := zl_some h
                  refine xaZ (pc := 234) hx hb hK hP hv dX12_gives_234 ?_
                  refine lv_if_eq (pc := 235) (tgt := 253) hx hb dX12_gives_235 (by decide) (fun c1 => ?_) (fun c1 => ?_)
                  · rw [if_pos c1] at h
                    refine lv_iconst (pc := 253) (v := 0) hx hb dX12_gives_253 (by decide) ?_
                    refine lv_istore (pc := 254) (lv' := [(7, .int 0), (0, .ref (o + x0)), (1, .int x1), (2, .ref (o + x2)), (3, .int x3), (4, .ref (o + x4)), (5, .int x5), (6, .int x6_1)]) hx hb dX12_gives_254 hl (by decide) rfl (fun ls hl => ?_)
                    refine lv_goto (pc := 256) (tgt := 368) hx hb dX12_gives_256 (by decide) ?_
                    refine lv_aload_n (pc := 368) hx hb dX12_gives_368 rfl (lv_at hl 1 rfl) ?_
                    obtain ⟨v36, hv, h⟩ := zl_some h
                    refine xgR (pc := 369) (j := 17) zc12 hx hb hts hown hK hP hv rfl zf_X12_40 dX12_gives_369 ?_
                    refine lv_iload (pc := 372) hx hb dX12_gives_372 (lv_at hl 7 rfl) ?_
                    refine lv_iload (pc := 374) hx hb dX12_gives_374 (lv_at hl 0 rfl) ?_
                    obtain ⟨σ37, hv, h⟩ := zl_some h
                    refine xsZ (pc := 376) hx hb hK hP hS hv dX12_gives_376 (fun H locs hP hS => ?_)
                    refine lv_iinc (pc := 377) (v := x6_1 + 1) (lv' := [(6, .int (x6_1 + 1)), (7, .int 0), (0, .ref (o + x0)), (1, .int x1), (2, .ref (o + x2)), (3, .int x3), (4, .ref (o + x4)), (5, .int x5)]) hx hb dX12_gives_377 hl (k := 7) rfl rfl (by decide) rfl (fun ls hl => ?_)
                    refine lv_goto (pc := 380) (tgt := 156) hx hb dX12_gives_380 (by decide) ?_
                    exact ih1 (x6_1 + 1, σ37) h _ _ ls hP hS (lv_sub hl [0, 2, 3, 4, 5, 6, 7] rfl)
                  · rw [if_neg c1] at h
                    refine lv_aload (pc := 238) hx hb dX12_gives_238 (lv_at hl 5 rfl) ?_
                    refine lv_iload (pc := 240) hx hb dX12_gives_240 (lv_at hl 6 rfl) ?_
                    refine lv_iload (pc := 242) hx hb dX12_gives_242 (lv_at hl 7 rfl) ?_
                    refine lv_iadd (pc := 244) hx hb dX12_gives_244 ?_
                    obtain ⟨v38, hv, h⟩ := zl_some h
                    refine xaZ (pc := 245) hx hb hK hP hv dX12_gives_245 ?_
                    refine lv_if_ne (pc := 246) (tgt := 253) hx hb dX12_gives_246 (by decide) (fun c1 => ?_) (fun c1 => ?_)
                    · rw [if_neg c1] at h
                      refine lv_iconst (pc := 253) (v := 0) hx hb dX12_gives_253 (by decide) ?_
                      refine lv_istore (pc := 254) (lv' := [(7, .int 0), (0, .ref (o + x0)), (1, .int x1), (2, .ref (o + x2)), (3, .int x3), (4, .ref (o + x4)), (5, .int x5), (6, .int x6_1)]) hx hb dX12_gives_254 hl (by decide) rfl (fun ls hl => ?_)
                      refine lv_goto (pc := 256) (tgt := 368) hx hb dX12_gives_256 (by decide) ?_
                      refine lv_aload_n (pc := 368) hx hb dX12_gives_368 rfl (lv_at hl 1 rfl) ?_
                      obtain ⟨v39, hv, h⟩ := zl_some h
                      refine xgR (pc := 369) (j := 17) zc12 hx hb hts hown hK hP hv rfl zf_X12_40 dX12_gives_369 ?_
                      refine lv_iload (pc := 372) hx hb dX12_gives_372 (lv_at hl 7 rfl) ?_
                      refine lv_iload (pc := 374) hx hb dX12_gives_374 (lv_at hl 0 rfl) ?_
                      obtain ⟨σ40, hv, h⟩ := zl_some h
                      refine xsZ (pc := 376) hx hb hK hP hS hv dX12_gives_376 (fun H locs hP hS => ?_)
                      refine lv_iinc (pc := 377) (v := x6_1 + 1) (lv' := [(6, .int (x6_1 + 1)), (7, .int 0), (0, .ref (o + x0)), (1, .int x1), (2, .ref (o + x2)), (3, .int x3), (4, .ref (o + x4)), (5, .int x5)]) hx hb dX12_gives_377 hl (k := 7) rfl rfl (by decide) rfl (fun ls hl => ?_)
                      refine lv_goto (pc := 380) (tgt := 156) hx hb dX12_gives_380 (by decide) ?_
                      exact ih1 (x6_1 + 1, σ40) h _ _ ls hP hS (lv_sub hl [0, 2, 3, 4, 5, 6, 7] rfl)
                    · rw [if_pos c1] at h
                      refine lv_iconst (pc := 249) (v := 1) hx hb dX12_gives_249 (by decide) ?_
                      refine lv_goto (pc := 250) (tgt := 254) hx hb dX12_gives_250 (by decide) ?_
                      refine lv_istore (pc := 254) (lv' := [(7, .int 1), (0, .ref (o + x0)), (1, .int x1), (2, .ref (o + x2)), (3, .int x3), (4, .ref (o + x4)), (5, .int x5), (6, .int x6_1)]) hx hb dX12_gives_254 hl (by decide) rfl (fun ls hl => ?_)
                      refine lv_goto (pc := 256) (tgt := 368) hx hb dX12_gives_256 (by decide) ?_
                      refine lv_aload_n (pc := 368) hx hb dX12_gives_368 rfl (lv_at hl 1 rfl) ?_
                      obtain ⟨v41, hv, h⟩ := zl_some h
                      refine xgR (pc := 369) (j := 17) zc12 hx hb hts hown hK hP hv rfl zf_X12_40 dX12_gives_369 ?_
                      refine lv_iload (pc := 372) hx hb dX12_gives_372 (lv_at hl 7 rfl) ?_
                      refine lv_iload (pc := 374) hx hb dX12_gives_374 (lv_at hl 0 rfl) ?_
                      obtain ⟨σ42, hv, h⟩ := zl_some h
                      refine xsZ (pc := 376) hx hb hK hP hS hv dX12_gives_376 (fun H locs hP hS => ?_)
                      refine lv_iinc (pc := 377) (v := x6_1 + 1) (lv' := [(6, .int (x6_1 + 1)), (7, .int 1), (0, .ref (o + x0)), (1, .int x1), (2, .ref (o + x2)), (3, .int x3), (4, .ref (o + x4)), (5, .int x5)]) hx hb dX12_gives_377 hl (k := 7) rfl rfl (by decide) rfl (fun ls hl => ?_)
                      refine lv_goto (pc := 380) (tgt := 156) hx hb dX12_gives_380 (by decide) ?_
                      exact ih1 (x6_1 + 1, σ42) h _ _ ls hP hS (lv_sub hl [0, 2, 3, 4, 5, 6, 7] rfl)
            · rw [if_pos c1] at h
              refine lv_iload (pc := 184) hx hb dX12_gives_184 (lv_at hl 0 rfl) ?_
              refine lv_if_eq (pc := 186) (tgt := 213) hx hb dX12_gives_186 (by decide) (fun c1 => ?_) (fun c1 => ?_)
              · rw [if_pos c1] at h
                refine lv_iconst (pc := 213) (v := 0) hx hb dX12_gives_213 (by decide) ?_
                refine lv_istore (pc := 214) (lv' := [(7, .int 0), (0, .ref (o + x0)), (1, .int x1), (2, .ref (o + x2)), (3, .int x3), (4, .ref (o + x4)), (5, .int x5), (6, .int x6_1)]) hx hb dX12_gives_214 hl (by decide) rfl (fun ls hl => ?_)
                refine lv_goto (pc := 216) (tgt := 368) hx hb dX12_gives_216 (by decide) ?_
                refine lv_aload_n (pc := 368) hx hb dX12_gives_368 rfl (lv_at hl 1 rfl) ?_
                obtain ⟨v43, hv, h⟩ := zl_some h
                refine xgR (pc := 369) (j := 17) zc12 hx hb hts hown hK hP hv rfl zf_X12_40 dX12_gives_369 ?_
                refine lv_iload (pc := 372) hx hb dX12_gives_372 (lv_at hl 7 rfl) ?_
                refine lv_iload (pc := 374) hx hb dX12_gives_374 (lv_at hl 0 rfl) ?_
                obtain ⟨σ44, hv, h⟩ := zl_some h
                refine xsZ (pc := 376) hx hb hK hP hS hv dX12_gives_376 (fun H locs hP hS => ?_)
                refine lv_iinc (pc := 377) (v := x6_1 + 1) (lv' := [(6, .int (x6_1 + 1)), (7, .int 0), (0, .ref (o + x0)), (1, .int x1), (2, .ref (o + x2)), (3, .int x3), (4, .ref (o + x4)), (5, .int x5)]) hx hb dX12_gives_377 hl (k := 7) rfl rfl (by decide) rfl (fun ls hl => ?_)
                refine lv_goto (pc := 380) (tgt := 156) hx hb dX12_gives_380 (by decide) ?_
                exact ih1 (x6_1 + 1, σ44) h _ _ ls hP hS (lv_sub hl [0, 2, 3, 4, 5, 6, 7] rfl)
              · rw [if_neg c1] at h
                refine lv_aload_n (pc := 189) hx hb dX12_gives_189 rfl (lv_at hl 3 rfl) ?_
                refine lv_iload_n (pc := 190) hx hb dX12_gives_190 rfl (lv_at hl 4 rfl) ?_
                refine lv_iload (pc := 191) hx hb dX12_gives_191 (lv_at hl 7 rfl) ?_
                refine lv_iadd (pc := 193) hx hb dX12_gives_193 ?_
                obtain ⟨v45, hv, h⟩ := zl_some h
                refine xaZ (pc := 194) hx hb hK hP hv dX12_gives_194 ?_
                refine lv_if_ne (pc := 195) (tgt := 209) hx hb dX12_gives_195 (by decide) (fun c1 => ?_) (fun c1 => ?_)
                · rw [if_neg c1] at h
                  refine lv_iconst (pc := 209) (v := 1) hx hb dX12_gives_209 (by decide) ?_
                  refine lv_goto (pc := 210) (tgt := 214) hx hb dX12_gives_210 (by decide) ?_
                  refine lv_istore (pc := 214) (lv' := [(7, .int 1), (0, .ref (o + x0)), (1, .int x1), (2, .ref (o + x2)), (3, .int x3), (4, .ref (o + x4)), (5, .int x5), (6, .int x6_1)]) hx hb dX12_gives_214 hl (by decide) rfl (fun ls hl => ?_)
                  refine lv_goto (pc := 216) (tgt := 368) hx hb dX12_gives_216 (by decide) ?_
                  refine lv_aload_n (pc := 368) hx hb dX12_gives_368 rfl (lv_at hl 1 rfl) ?_
                  obtain ⟨v46, hv, h⟩ := zl_some h
                  refine xgR (pc := 369) (j := 17) zc12 hx hb hts hown hK hP hv rfl zf_X12_40 dX12_gives_369 ?_
                  refine lv_iload (pc := 372) hx hb dX12_gives_372 (lv_at hl 7 rfl) ?_
                  refine lv_iload (pc := 374) hx hb dX12_gives_374 (lv_at hl 0 rfl) ?_
                  obtain ⟨σ47, hv, h⟩ := zl_some h
                  refine xsZ (pc := 376) hx hb hK hP hS hv dX12_gives_376 (fun H locs hP hS => ?_)
                  refine lv_iinc (pc := 377) (v := x6_1 + 1) (lv' := [(6, .int (x6_1 + 1)), (7, .int 1), (0, .ref (o + x0)), (1, .int x1), (2, .ref (o + x2)), (3, .int x3), (4, .ref (o + x4)), (5, .int x5)]) hx hb dX12_gives_377 hl (k := 7) rfl rfl (by decide) rfl (fun ls hl => ?_)
                  refine lv_goto (pc := 380) (tgt := 156) hx hb dX12_gives_380 (by decide) ?_
                  exact ih1 (x6_1 + 1, σ47) h _ _ ls hP hS (lv_sub hl [0, 2, 3, 4, 5, 6, 7] rfl)
                · rw [if_pos c1] at h
                  refine lv_aload (pc := 198) hx hb dX12_gives_198 (lv_at hl 5 rfl) ?_
                  refine lv_iload (pc := 200) hx hb dX12_gives_200 (lv_at hl 6 rfl) ?_
                  refine lv_iload (pc := 202) hx hb dX12_gives_202 (lv_at hl 7 rfl) ?_
                  refine lv_iadd (pc := 204) hx hb dX12_gives_204 ?_
                  obtain ⟨v48, hv, h⟩ := zl_some h
                  refine xaZ (pc := 205) hx hb hK hP hv dX12_gives_205 ?_
                  refine lv_if_eq (pc := 206) (tgt := 213) hx hb dX12_gives_206 (by decide) (fun c1 => ?_) (fun c1 => ?_)
                  · rw [if_pos c1] at h
                    refine lv_iconst (pc := 213) (v := 0) hx hb dX12_gives_213 (by decide) ?_
                    refine lv_istore (pc := 214) (lv' := [(7, .int 0), (0, .ref (o + x0)), (1, .int x1), (2, .ref (o + x2)), (3, .int x3), (4, .ref (o + x4)), (5, .int x5), (6, .int x6_1)]) hx hb dX12_gives_214 hl (by decide) rfl (fun ls hl => ?_)
                    refine lv_goto (pc := 216) (tgt := 368) hx hb dX12_gives_216 (by decide) ?_
                    refine lv_aload_n (pc := 368) hx hb dX12_gives_368 rfl (lv_at hl 1 rfl) ?_
                    obtain ⟨v49, hv, h⟩ := zl_some h
                    refine xgR (pc := 369) (j := 17) zc12 hx hb hts hown hK hP hv rfl zf_X12_40 dX12_gives_369 ?_
                    refine lv_iload (pc := 372) hx hb dX12_gives_372 (lv_at hl 7 rfl) ?_
                    refine lv_iload (pc := 374) hx hb dX12_gives_374 (lv_at hl 0 rfl) ?_
                    obtain ⟨σ50, hv, h⟩ := zl_some h
                    refine xsZ (pc := 376) hx hb hK hP hS hv dX12_gives_376 (fun H locs hP hS => ?_)
                    refine lv_iinc (pc := 377) (v := x6_1 + 1) (lv' := [(6, .int (x6_1 + 1)), (7, .int 0), (0, .ref (o + x0)), (1, .int x1), (2, .ref (o + x2)), (3, .int x3), (4, .ref (o + x4)), (5, .int x5)]) hx hb dX12_gives_377 hl (k := 7) rfl rfl (by decide) rfl (fun ls hl => ?_)
                    refine lv_goto (pc := 380) (tgt := 156) hx hb dX12_gives_380 (by decide) ?_
                    exact ih1 (x6_1 + 1, σ50) h _ _ ls hP hS (lv_sub hl [0, 2, 3, 4, 5, 6, 7] rfl)
                  · rw [if_neg c1] at h
                    refine lv_iconst (pc := 209) (v := 1) hx hb dX12_gives_209 (by decide) ?_
                    refine lv_goto (pc := 210) (tgt := 214) hx hb dX12_gives_210 (by decide) ?_
                    refine lv_istore (pc := 214) (lv' := [(7, .int 1), (0, .ref (o + x0)), (1, .int x1), (2, .ref (o + x2)), (3, .int x3), (4, .ref (o + x4)), (5, .int x5), (6, .int x6_1)]) hx hb dX12_gives_214 hl (by decide) rfl (fun ls hl => ?_)
                    refine lv_goto (pc := 216) (tgt := 368) hx hb dX12_gives_216 (by decide) ?_
                    refine lv_aload_n (pc := 368) hx hb dX12_gives_368 rfl (lv_at hl 1 rfl) ?_
                    obtain ⟨v51, hv, h⟩ := zl_some h
                    refine xgR (pc := 369) (j := 17) zc12 hx hb hts hown hK hP hv rfl zf_X12_40 dX12_gives_369 ?_
                    refine lv_iload (pc := 372) hx hb dX12_gives_372 (lv_at hl 7 rfl) ?_
                    refine lv_iload (pc := 374) hx hb dX12_gives_374 (lv_at hl 0 rfl) ?_
                    obtain ⟨σ52, hv, h⟩ := zl_some h
                    refine xsZ (pc := 376) hx hb hK hP hS hv dX12_gives_376 (fun H locs hP hS => ?_)
                    refine lv_iinc (pc := 377) (v := x6_1 + 1) (lv' := [(6, .int (x6_1 + 1)), (7, .int 1), (0, .ref (o + x0)), (1, .int x1), (2, .ref (o + x2)), (3, .int x3), (4, .ref (o + x4)), (5, .int x5)]) hx hb dX12_gives_377 hl (k := 7) rfl rfl (by decide) rfl (fun ls hl => ?_)
                    refine lv_goto (pc := 380) (tgt := 156) hx hb dX12_gives_380 (by decide) ?_
                    exact ih1 (x6_1 + 1, σ52) h _ _ ls hP hS (lv_sub hl [0, 2, 3, 4, 5, 6, 7] rfl)
          refine lv_icmp_ge (pc := 170) (tgt := 177) hx hb dX12_gives_170 (by decide) (fun c1 => ?_) (fun c1 => ?_)
          · rw [if_pos c1] at h
            refine lv_iconst (pc := 177) (v := 0) hx hb dX12_gives_177 (by decide) ?_
            exact hj178_3 (0) σ1 h _ _ ls hP hS (lv_sub hl [1, 2, 3, 4, 5, 6, 0] rfl)
          · rw [if_neg c1] at h
            refine lv_iconst (pc := 173) (v := 1) hx hb dX12_gives_173 (by decide) ?_
            refine lv_goto (pc := 174) (tgt := 178) hx hb dX12_gives_174 (by decide) ?_
            exact hj178_3 (1) σ1 h _ _ ls hP hS (lv_sub hl [1, 2, 3, 4, 5, 6, 0] rfl)
      exact L156_1 N (0, σ) h _ _ ls hP hS (lv_sub hl [0, 1, 2, 3, 4, 5, 6] rfl)
    · rw [if_pos c1] at h
      refine lv_iconst (pc := 25) (v := 0) hx hb dX12_gives_25 (by decide) ?_
      refine lv_istore (pc := 26) (lv' := [(6, .int 0), (0, .ref (o + x0)), (1, .int x1), (2, .ref (o + x2)), (3, .int x3), (4, .ref (o + x4)), (5, .int x5)]) hx hb dX12_gives_26 hl (by decide) rfl (fun ls hl => ?_)
      have L28_53 : ∀ (n : Nat) (t : Int32 × zS), zlp (F_X12_gives_28 N x0 x2 x3 x4 x5) n t = some ρ → ∀ (H : Heap) (locs : List Loc) (ls : Array Slot), zP D c o (zabs o (t.2)) H → va_S (zA o) s.heap H locs → lv_has ls 8 [(6, .int (t.1)), (0, .ref (o + x0)), (2, .ref (o + x2)), (3, .int x3), (4, .ref (o + x4)), (5, .int x5)] → W p l e (zr 4) s m (([.ref (o + x0), .int x1, .ref (o + x2), .int x3, .ref (o + x4), .int x5] : List Value).toArray) below meth cd H locs 0 0 (MQ below (zQu D c o g ρ) (([.ref (o + x0), .int x1, .ref (o + x2), .int x3, .ref (o + x4), .int x5] : List Value).toArray) s 0 0 (zA o)) (F0 m 28 ls []) := by
        refine zlp_ind (fun ag53 ih53 t h H locs ls hP hS hl => ?_)
        obtain ⟨x6_53, σ53⟩ := t
        have hP : zP D c o (zabs o σ53) H := hP
        have hl : lv_has ls 8 [(6, .int x6_53), (0, .ref (o + x0)), (2, .ref (o + x2)), (3, .int x3), (4, .ref (o + x4)), (5, .int x5)] := hl
        rw [F_X12_gives_28.eq_1] at h
        show W p l e (zr 4) s m (([.ref (o + x0), .int x1, .ref (o + x2), .int x3, .ref (o + x4), .int x5] : List Value).toArray) below meth cd H locs 0 0 (MQ below (zQu D c o g ρ) (([.ref (o + x0), .int x1, .ref (o + x2), .int x3, .ref (o + x4), .int x5] : List Value).toArray) s 0 0 (zA o)) (F0 m 28 ls [])
        refine lv_iload (pc := 28) hx hb dX12_gives_28 (lv_at hl 0 rfl) ?_
        refine lv_sipush (pc := 30) (v := 1024) hx hb dX12_gives_30 (by decide) ?_
        refine lv_icmp_ge (pc := 33) (tgt := 78) hx hb dX12_gives_33 (by decide) (fun c1 => ?_) (fun c1 => ?_)
        · rw [if_pos c1] at h
          refine lv_aload_n (pc := 78) hx hb dX12_gives_78 rfl (lv_at hl 1 rfl) ?_
          refine lv_aload (pc := 79) hx hb dX12_gives_79 (lv_at hl 4 rfl) ?_
          refine lv_iload (pc := 81) hx hb dX12_gives_81 (lv_at hl 5 rfl) ?_
          refine lv_aload_n (pc := 83) hx hb dX12_gives_83 rfl (lv_at hl 1 rfl) ?_
          obtain ⟨v54, hv, h⟩ := zl_some h
          refine xgR (pc := 84) (j := 18) zc12 hx hb hts hown hK hP hv rfl zf_X12_43 dX12_gives_84 ?_
          refine lv_iconst (pc := 87) (v := 0) hx hb dX12_gives_87 (by decide) ?_
          refine lv_aload_n (pc := 88) hx hb dX12_gives_88 rfl (lv_at hl 1 rfl) ?_
          obtain ⟨v55, hv, h⟩ := zl_some h
          refine xgR (pc := 89) (j := 19) zc12 hx hb hts hown hK hP hv rfl zf_X12_46 dX12_gives_89 ?_
          obtain ⟨_, hg, h⟩ := zl_some h
          obtain ⟨v56, σ57, hv, h⟩ := zb_some h
          refine xcallVv (pc := 92) (As := [.ref (o + x4), .int x5, .ref (o + v54), .int 0, .ref (o + v55)]) (rest := []) ⟨hx, hb, hml, hown, hts⟩ (c_X12_joins l D c o g N hv) zc12 zV_X12_183 rfl zd_X12_joins ⟨Nat.le_of_ble_eq_true rfl, Nat.le_of_ble_eq_true rfl⟩ hK hP hE hS hg hl.1 rfl (Nat.le_of_ble_eq_true rfl) ⟨Nat.zero_le _, Nat.zero_le _⟩ dX12_gives_92 (fun H locs hP hS => ?_)
          refine lv_iconst (pc := 95) (v := 0) hx hb dX12_gives_95 (by decide) ?_
          refine lv_istore (pc := 96) (lv' := [(6, .int 0), (0, .ref (o + x0)), (2, .ref (o + x2)), (3, .int x3), (4, .ref (o + x4)), (5, .int x5)]) hx hb dX12_gives_96 hl (by decide) rfl (fun ls hl => ?_)
          have L98_58 : ∀ (n : Nat) (t : Int32 × zS), zlp (F_X12_gives_98 N x0 x2 x3) n t = some ρ → ∀ (H : Heap) (locs : List Loc) (ls : Array Slot), zP D c o (zabs o (t.2)) H → va_S (zA o) s.heap H locs → lv_has ls 8 [(6, .int (t.1)), (0, .ref (o + x0)), (2, .ref (o + x2)), (3, .int x3)] → W p l e (zr 4) s m (([.ref (o + x0), .int x1, .ref (o + x2), .int x3, .ref (o + x4), .int x5] : List Value).toArray) below meth cd H locs 0 0 (MQ below (zQu D c o g ρ) (([.ref (o + x0), .int x1, .ref (o + x2), .int x3, .ref (o + x4), .int x5] : List Value).toArray) s 0 0 (zA o)) (F0 m 98 ls []) := by
            refine zlp_ind (fun ag58 ih58 t h H locs ls hP hS hl => ?_)
            obtain ⟨x6_58, σ58⟩ := t
            have hP : zP D c o (zabs o σ58) H := hP
            have hl : lv_has ls 8 [(6, .int x6_58), (0, .ref (o + x0)), (2, .ref (o + x2)), (3, .int x3)] := hl
            rw [F_X12_gives_98.eq_1] at h
            show W p l e (zr 4) s m (([.ref (o + x0), .int x1, .ref (o + x2), .int x3, .ref (o + x4), .int x5] : List Value).toArray) below meth cd H locs 0 0 (MQ below (zQu D c o g ρ) (([.ref (o + x0), .int x1, .ref (o + x2), .int x3, .ref (o + x4), .int x5] : List Value).toArray) s 0 0 (zA o)) (F0 m 98 ls [])
            refine lv_iload (pc := 98) hx hb dX12_gives_98 (lv_at hl 0 rfl) ?_
            refine lv_sipush (pc := 100) (v := 1024) hx hb dX12_gives_100 (by decide) ?_
            refine lv_icmp_ge (pc := 103) (tgt := 152) hx hb dX12_gives_103 (by decide) (fun c1 => ?_) (fun c1 => ?_)
            · rw [if_pos c1] at h
              exact xretv (pc := 152) hx hb hr hlocks hP hK hE hS h dX12_gives_152
            · rw [if_neg c1] at h
              refine lv_aload_n (pc := 106) hx hb dX12_gives_106 rfl (lv_at hl 1 rfl) ?_
              obtain ⟨v59, hv, h⟩ := zl_some h
              refine xgR (pc := 107) (j := 17) zc12 hx hb hts hown hK hP hv rfl zf_X12_40 dX12_gives_107 ?_
              refine lv_iload (pc := 110) hx hb dX12_gives_110 (lv_at hl 0 rfl) ?_
              refine lv_iload (pc := 112) hx hb dX12_gives_112 (lv_at hl 0 rfl) ?_
              refine lv_aload_n (pc := 114) hx hb dX12_gives_114 rfl (lv_at hl 1 rfl) ?_
              obtain ⟨v60, hv, h⟩ := zl_some h
              refine xgI (pc := 115) (j := 20) zc12 hx hb hts hown hK hP hv rfl zf_X12_180 dX12_gives_115 ?_
              refine lv_icmp_ge (pc := 118) (tgt := 144) hx hb dX12_gives_118 (by decide) (fun c1 => ?_) (fun c1 => ?_)
              · rw [if_pos c1] at h
                refine lv_iconst (pc := 144) (v := 0) hx hb dX12_gives_144 (by decide) ?_
                obtain ⟨σ61, hv, h⟩ := zl_some h
                refine xsZ (pc := 145) hx hb hK hP hS hv dX12_gives_145 (fun H locs hP hS => ?_)
                refine lv_iinc (pc := 146) (v := x6_58 + 1) (lv' := [(6, .int (x6_58 + 1)), (0, .ref (o + x0)), (2, .ref (o + x2)), (3, .int x3)]) hx hb dX12_gives_146 hl (k := 0) rfl rfl (by decide) rfl (fun ls hl => ?_)
                refine lv_goto (pc := 149) (tgt := 98) hx hb dX12_gives_149 (by decide) ?_
                exact ih58 (x6_58 + 1, σ61) h _ _ ls hP hS (lv_sub hl [0, 1, 2, 3] rfl)
              · rw [if_neg c1] at h
                refine lv_aload_n (pc := 121) hx hb dX12_gives_121 rfl (lv_at hl 2 rfl) ?_
                refine lv_iload_n (pc := 122) hx hb dX12_gives_122 rfl (lv_at hl 3 rfl) ?_
                refine lv_iload (pc := 123) hx hb dX12_gives_123 (lv_at hl 0 rfl) ?_
                refine lv_iadd (pc := 125) hx hb dX12_gives_125 ?_
                obtain ⟨v62, hv, h⟩ := zl_some h
                refine xaZ (pc := 126) hx hb hK hP hv dX12_gives_126 ?_
                refine lv_if_eq (pc := 127) (tgt := 144) hx hb dX12_gives_127 (by decide) (fun c1 => ?_) (fun c1 => ?_)
                · rw [if_pos c1] at h
                  refine lv_iconst (pc := 144) (v := 0) hx hb dX12_gives_144 (by decide) ?_
                  obtain ⟨σ63, hv, h⟩ := zl_some h
                  refine xsZ (pc := 145) hx hb hK hP hS hv dX12_gives_145 (fun H locs hP hS => ?_)
                  refine lv_iinc (pc := 146) (v := x6_58 + 1) (lv' := [(6, .int (x6_58 + 1)), (0, .ref (o + x0)), (2, .ref (o + x2)), (3, .int x3)]) hx hb dX12_gives_146 hl (k := 0) rfl rfl (by decide) rfl (fun ls hl => ?_)
                  refine lv_goto (pc := 149) (tgt := 98) hx hb dX12_gives_149 (by decide) ?_
                  exact ih58 (x6_58 + 1, σ63) h _ _ ls hP hS (lv_sub hl [0, 1, 2, 3] rfl)
                · rw [if_neg c1] at h
                  refine lv_aload_n (pc := 130) hx hb dX12_gives_130 rfl (lv_at hl 1 rfl) ?_
                  obtain ⟨v64, hv, h⟩ := zl_some h
                  refine xgR (pc := 131) (j := 19) zc12 hx hb hts hown hK hP hv rfl zf_X12_46 dX12_gives_131 ?_
                  refine lv_iload (pc := 134) hx hb dX12_gives_134 (lv_at hl 0 rfl) ?_
                  obtain ⟨v65, hv, h⟩ := zl_some h
                  refine xaZ (pc := 136) hx hb hK hP hv dX12_gives_136 ?_
                  refine lv_if_ne (pc := 137) (tgt := 144) hx hb dX12_gives_137 (by decide) (fun c1 => ?_) (fun c1 => ?_)
                  · rw [if_neg c1] at h
                    refine lv_iconst (pc := 144) (v := 0) hx hb dX12_gives_144 (by decide) ?_
                    obtain ⟨σ66, hv, h⟩ := zl_some h
                    refine xsZ (pc := 145) hx hb hK hP hS hv dX12_gives_145 (fun H locs hP hS => ?_)
                    refine lv_iinc (pc := 146) (v := x6_58 + 1) (lv' := [(6, .int (x6_58 + 1)), (0, .ref (o + x0)), (2, .ref (o + x2)), (3, .int x3)]) hx hb dX12_gives_146 hl (k := 0) rfl rfl (by decide) rfl (fun ls hl => ?_)
                    refine lv_goto (pc := 149) (tgt := 98) hx hb dX12_gives_149 (by decide) ?_
                    exact ih58 (x6_58 + 1, σ66) h _ _ ls hP hS (lv_sub hl [0, 1, 2, 3] rfl)
                  · rw [if_pos c1] at h
                    refine lv_iconst (pc := 140) (v := 1) hx hb dX12_gives_140 (by decide) ?_
                    refine lv_goto (pc := 141) (tgt := 145) hx hb dX12_gives_141 (by decide) ?_
                    obtain ⟨σ67, hv, h⟩ := zl_some h
                    refine xsZ (pc := 145) hx hb hK hP hS hv dX12_gives_145 (fun H locs hP hS => ?_)
                    refine lv_iinc (pc := 146) (v := x6_58 + 1) (lv' := [(6, .int (x6_58 + 1)), (0, .ref (o + x0)), (2, .ref (o + x2)), (3, .int x3)]) hx hb dX12_gives_146 hl (k := 0) rfl rfl (by decide) rfl (fun ls hl => ?_)
                    refine lv_goto (pc := 149) (tgt := 98) hx hb dX12_gives_149 (by decide) ?_
                    exact ih58 (x6_58 + 1, σ67) h _ _ ls hP hS (lv_sub hl [0, 1, 2, 3] rfl)
          exact L98_58 N (0, σ57) h _ _ ls hP hS (lv_sub hl [0, 1, 2, 3] rfl)
        · rw [if_neg c1] at h
          refine lv_aload_n (pc := 36) hx hb dX12_gives_36 rfl (lv_at hl 1 rfl) ?_
          obtain ⟨v68, hv, h⟩ := zl_some h
          refine xgR (pc := 37) (j := 18) zc12 hx hb hts hown hK hP hv rfl zf_X12_43 dX12_gives_37 ?_
          refine lv_iload (pc := 40) hx hb dX12_gives_40 (lv_at hl 0 rfl) ?_
          refine lv_iload (pc := 42) hx hb dX12_gives_42 (lv_at hl 0 rfl) ?_
          refine lv_aload_n (pc := 44) hx hb dX12_gives_44 rfl (lv_at hl 1 rfl) ?_
          obtain ⟨v69, hv, h⟩ := zl_some h
          refine xgI (pc := 45) (j := 20) zc12 hx hb hts hown hK hP hv rfl zf_X12_180 dX12_gives_45 ?_
          refine lv_icmp_ge (pc := 48) (tgt := 70) hx hb dX12_gives_48 (by decide) (fun c1 => ?_) (fun c1 => ?_)
          · rw [if_pos c1] at h
            refine lv_iconst (pc := 70) (v := 0) hx hb dX12_gives_70 (by decide) ?_
            obtain ⟨σ70, hv, h⟩ := zl_some h
            refine xsZ (pc := 71) hx hb hK hP hS hv dX12_gives_71 (fun H locs hP hS => ?_)
            refine lv_iinc (pc := 72) (v := x6_53 + 1) (lv' := [(6, .int (x6_53 + 1)), (0, .ref (o + x0)), (2, .ref (o + x2)), (3, .int x3), (4, .ref (o + x4)), (5, .int x5)]) hx hb dX12_gives_72 hl (k := 0) rfl rfl (by decide) rfl (fun ls hl => ?_)
            refine lv_goto (pc := 75) (tgt := 28) hx hb dX12_gives_75 (by decide) ?_
            exact ih53 (x6_53 + 1, σ70) h _ _ ls hP hS (lv_sub hl [0, 1, 2, 3, 4, 5] rfl)
          · rw [if_neg c1] at h
            refine lv_aload_n (pc := 51) hx hb dX12_gives_51 rfl (lv_at hl 1 rfl) ?_
            refine lv_aload_n (pc := 52) hx hb dX12_gives_52 rfl (lv_at hl 2 rfl) ?_
            refine lv_iload_n (pc := 53) hx hb dX12_gives_53 rfl (lv_at hl 3 rfl) ?_
            refine lv_aload (pc := 54) hx hb dX12_gives_54 (lv_at hl 4 rfl) ?_
            refine lv_iload (pc := 56) hx hb dX12_gives_56 (lv_at hl 5 rfl) ?_
            refine lv_iload (pc := 58) hx hb dX12_gives_58 (lv_at hl 0 rfl) ?_
            obtain ⟨_, hg, h⟩ := zl_some h
            obtain ⟨v71, σ72, hv, h⟩ := zb_some h
            refine xcallVi (pc := 60) (As := [.ref (o + x2), .int x3, .ref (o + x4), .int x5, .int x6_53]) (rest := [.int x6_53, .ref (o + v68)]) ⟨hx, hb, hml, hown, hts⟩ (c_X12_isOver l D c o g N hv) zc12 zV_X12_187 rfl zd_X12_isOver ⟨Nat.le_of_ble_eq_true rfl, Nat.le_of_ble_eq_true rfl⟩ hK hP hE hS hg hl.1 rfl (Nat.le_of_ble_eq_true rfl) ⟨Nat.zero_le _, Nat.zero_le _⟩ dX12_gives_60 (fun H locs hP hS => ?_)
            refine lv_if_eq (pc := 63) (tgt := 70) hx hb dX12_gives_63 (by decide) (fun c1 => ?_) (fun c1 => ?_)
            · rw [if_pos c1] at h
              refine lv_iconst (pc := 70) (v := 0) hx hb dX12_gives_70 (by decide) ?_
              obtain ⟨σ73, hv, h⟩ := zl_some h
              refine xsZ (pc := 71) hx hb hK hP hS hv dX12_gives_71 (fun H locs hP hS => ?_)
              refine lv_iinc (pc := 72) (v := x6_53 + 1) (lv' := [(6, .int (x6_53 + 1)), (0, .ref (o + x0)), (2, .ref (o + x2)), (3, .int x3), (4, .ref (o + x4)), (5, .int x5)]) hx hb dX12_gives_72 hl (k := 0) rfl rfl (by decide) rfl (fun ls hl => ?_)
              refine lv_goto (pc := 75) (tgt := 28) hx hb dX12_gives_75 (by decide) ?_
              exact ih53 (x6_53 + 1, σ73) h _ _ ls hP hS (lv_sub hl [0, 1, 2, 3, 4, 5] rfl)
            · rw [if_neg c1] at h
              refine lv_iconst (pc := 66) (v := 1) hx hb dX12_gives_66 (by decide) ?_
              refine lv_goto (pc := 67) (tgt := 71) hx hb dX12_gives_67 (by decide) ?_
              obtain ⟨σ74, hv, h⟩ := zl_some h
              refine xsZ (pc := 71) hx hb hK hP hS hv dX12_gives_71 (fun H locs hP hS => ?_)
              refine lv_iinc (pc := 72) (v := x6_53 + 1) (lv' := [(6, .int (x6_53 + 1)), (0, .ref (o + x0)), (2, .ref (o + x2)), (3, .int x3), (4, .ref (o + x4)), (5, .int x5)]) hx hb dX12_gives_72 hl (k := 0) rfl rfl (by decide) rfl (fun ls hl => ?_)
              refine lv_goto (pc := 75) (tgt := 28) hx hb dX12_gives_75 (by decide) ?_
              exact ih53 (x6_53 + 1, σ74) h _ _ ls hP hS (lv_sub hl [0, 1, 2, 3, 4, 5] rfl)
      exact L28_53 N (0, σ) h _ _ ls hP hS (lv_sub hl [0, 1, 3, 4, 5, 6] rfl)
  · rw [if_pos c1] at h
    refine lv_aload_n (pc := 5) hx hb dX12_gives_5 rfl (lv_at hl 0 rfl) ?_
    refine lv_aload_n (pc := 6) hx hb dX12_gives_6 rfl (lv_at hl 2 rfl) ?_
    refine lv_iload_n (pc := 7) hx hb dX12_gives_7 rfl (lv_at hl 3 rfl) ?_
    refine lv_aload (pc := 8) hx hb dX12_gives_8 (lv_at hl 4 rfl) ?_
    refine lv_iload (pc := 10) hx hb dX12_gives_10 (lv_at hl 5 rfl) ?_
    refine lv_aload_n (pc := 12) hx hb dX12_gives_12 rfl (lv_at hl 0 rfl) ?_
    obtain ⟨v75, hv, h⟩ := zl_some h
    refine xgR (pc := 13) (j := 17) zc12 hx hb hts hown hK hP hv rfl zf_X12_40 dX12_gives_13 ?_
    obtain ⟨_, hg, h⟩ := zl_some h
    obtain ⟨v76, σ77, hv, h⟩ := zb_some h
    refine xcallVv (pc := 16) (As := [.ref (o + x2), .int x3, .ref (o + x4), .int x5, .ref (o + v75)]) (rest := []) ⟨hx, hb, hml, hown, hts⟩ (c_X12_joins l D c o g N hv) zc12 zV_X12_183 rfl zd_X12_joins ⟨Nat.le_of_ble_eq_true rfl, Nat.le_of_ble_eq_true rfl⟩ hK hP hE hS hg hl.1 rfl (Nat.le_of_ble_eq_true rfl) ⟨Nat.zero_le _, Nat.zero_le _⟩ dX12_gives_16 (fun H locs hP hS => ?_)
    exact xretv (pc := 19) hx hb hr hlocks hP hK hE hS h dX12_gives_19
def F_X12_isNested_3 (N : Nat) (x0 : Nat) (x1 : Nat) (x2 : Int32) (x3 : Int32) (x4 : Int32) (again3 : (Int32 × zS) → Option (Int32 × zS)) : Int32 × zS → Option (Int32 × zS)
  | (x5, σ) =>
  zl (gI 12 20 x0 σ) fun v1 =>
  if v1 ≤ x5 then
    (rZ 0 σ)
  else
    (if x5 = x3 then
      (again3 (x5 + 1, σ))
    else
      (zl (aI 16 x1 (x2 + x5) σ) fun v2 =>
      if v2 = 0 then
        (again3 (x5 + 1, σ))
      else
        (if x4 = 0 then
          (if (x3 &&& (x5 ^^^ (-1))) = 0 then
            (rZ 1 σ)
          else
            (again3 (x5 + 1, σ)))
        else
          (if (x5 &&& (x3 ^^^ (-1))) = 0 then
            (rZ 1 σ)
          else
            (again3 (x5 + 1, σ))))))
def f_X12_isNested (N : Nat) (x0 : Nat) (x1 : Nat) (x2 : Int32) (x3 : Int32) (x4 : Int32) (σ : zS) : Option (Int32 × zS) :=
  zlp (F_X12_isNested_3 N x0 x1 x2 x3 x4) N (0, σ)
set_option maxHeartbeats 4000000 in
set_option maxRecDepth 100000 in
theorem c_X12_isNested (l : Launch) (D : va_G) (c : zC) (o : Nat) (g : zEp) (N : Nat) {x0 : Nat} {x1 : Nat} {x2 : Int32} {x3 : Int32} {x4 : Int32} {σ : zS} {ρ : Int32 × zS} (h : f_X12_isNested N x0 x1 x2 x3 x4 σ = some ρ) : Met l yX12_isNested zs_X12_isNested (zr 2) (va_Pc [.ref (o + x0), .ref (o + x1), .int x2, .int x3, .int x4] (zG D c o g σ)) (zQi D c o g ρ) 0 0 (zA o) := by
  refine zMetG (by decide) (Nat.le_of_ble_eq_true rfl) ?_
  intro p e s m below meth cd ⟨hx, hb, hr, hml, hown, hts, hlocks⟩ hP hK hE ls hl
  have hS : va_S (zA o) s.heap s.heap [] := va_S.rf
  have hl : lv_has ls 6 [(0, .ref (o + x0)), (1, .ref (o + x1)), (2, .int x2), (3, .int x3), (4, .int x4)] := hl
  rw [f_X12_isNested.eq_1] at h
  refine lv_iconst (pc := 0) (v := 0) hx hb dX12_isNested_0 (by decide) ?_
  refine lv_istore (pc := 1) (lv' := [(5, .int 0), (0, .ref (o + x0)), (1, .ref (o + x1)), (2, .int x2), (3, .int x3), (4, .int x4)]) hx hb dX12_isNested_1 hl (by decide) rfl (fun ls hl => ?_)
  have L3_1 : ∀ (n : Nat) (t : Int32 × zS), zlp (F_X12_isNested_3 N x0 x1 x2 x3 x4) n t = some ρ → ∀ (H : Heap) (locs : List Loc) (ls : Array Slot), zP D c o (zabs o (t.2)) H → va_S (zA o) s.heap H locs → lv_has ls 6 [(5, .int (t.1)), (0, .ref (o + x0)), (1, .ref (o + x1)), (2, .int x2), (3, .int x3), (4, .int x4)] → W p l e (zr 2) s m (([.ref (o + x0), .ref (o + x1), .int x2, .int x3, .int x4] : List Value).toArray) below meth cd H locs 0 0 (MQ below (zQi D c o g ρ) (([.ref (o + x0), .ref (o + x1), .int x2, .int x3, .int x4] : List Value).toArray) s 0 0 (zA o)) (F0 m 3 ls []) := by
    refine zlp_ind (fun ag1 ih1 t h H locs ls hP hS hl => ?_)
    obtain ⟨x5_1, σ1⟩ := t
    have hP : zP D c o (zabs o σ1) H := hP
    have hl : lv_has ls 6 [(5, .int x5_1), (0, .ref (o + x0)), (1, .ref (o + x1)), (2, .int x2), (3, .int x3), (4, .int x4)] := hl
    rw [F_X12_isNested_3.eq_1] at h
    show W p l e (zr 2) s m (([.ref (o + x0), .ref (o + x1), .int x2, .int x3, .int x4] : List Value).toArray) below meth cd H locs 0 0 (MQ below (zQi D c o g ρ) (([.ref (o + x0), .ref (o + x1), .int x2, .int x3, .int x4] : List Value).toArray) s 0 0 (zA o)) (F0 m 3 ls [])
    refine lv_iload (pc := 3) hx hb dX12_isNested_3 (lv_at hl 0 rfl) ?_
    refine lv_aload_n (pc := 5) hx hb dX12_isNested_5 rfl (lv_at hl 1 rfl) ?_
    obtain ⟨v2, hv, h⟩ := zl_some h
    refine xgI (pc := 6) (j := 20) zc12 hx hb hts hown hK hP hv rfl zf_X12_180 dX12_isNested_6 ?_
    refine lv_icmp_ge (pc := 9) (tgt := 61) hx hb dX12_isNested_9 (by decide) (fun c1 => ?_) (fun c1 => ?_)
    · rw [if_pos c1] at h
      refine lv_iconst (pc := 61) (v := 0) hx hb dX12_isNested_61 (by decide) ?_
      exact xretz (pc := 62) hx hb hr hlocks hP hK hE hS h dX12_isNested_62
    · rw [if_neg c1] at h
      refine lv_iload (pc := 12) hx hb dX12_isNested_12 (lv_at hl 0 rfl) ?_
      refine lv_iload_n (pc := 14) hx hb dX12_isNested_14 rfl (lv_at hl 4 rfl) ?_
      refine lv_icmp_eq (pc := 15) (tgt := 55) hx hb dX12_isNested_15 (by decide) (fun c1 => ?_) (fun c1 => ?_)
      · rw [if_pos c1] at h
        refine lv_iinc (pc := 55) (v := x5_1 + 1) (lv' := [(5, .int (x5_1 + 1)), (0, .ref (o + x0)), (1, .ref (o + x1)), (2, .int x2), (3, .int x3), (4, .int x4)]) hx hb dX12_isNested_55 hl (k := 0) rfl rfl (by decide) rfl (fun ls hl => ?_)
        refine lv_goto (pc := 58) (tgt := 3) hx hb dX12_isNested_58 (by decide) ?_
        exact ih1 (x5_1 + 1, σ1) h _ _ ls hP hS (lv_sub hl [0, 1, 2, 3, 4, 5] rfl)
      · rw [if_neg c1] at h
        refine lv_aload_n (pc := 18) hx hb dX12_isNested_18 rfl (lv_at hl 2 rfl) ?_
        refine lv_iload_n (pc := 19) hx hb dX12_isNested_19 rfl (lv_at hl 3 rfl) ?_
        refine lv_iload (pc := 20) hx hb dX12_isNested_20 (lv_at hl 0 rfl) ?_
        refine lv_iadd (pc := 22) hx hb dX12_isNested_22 ?_
        obtain ⟨v3, hv, h⟩ := zl_some h
        refine xaZ (pc := 23) hx hb hK hP hv dX12_isNested_23 ?_
        refine lv_if_eq (pc := 24) (tgt := 55) hx hb dX12_isNested_24 (by decide) (fun c1 => ?_) (fun c1 => ?_)
        · rw [if_pos c1] at h
          refine lv_iinc (pc := 55) (v := x5_1 + 1) (lv' := [(5, .int (x5_1 + 1)), (0, .ref (o + x0)), (1, .ref (o + x1)), (2, .int x2), (3, .int x3), (4, .int x4)]) hx hb dX12_isNested_55 hl (k := 0) rfl rfl (by decide) rfl (fun ls hl => ?_)
          refine lv_goto (pc := 58) (tgt := 3) hx hb dX12_isNested_58 (by decide) ?_
          exact ih1 (x5_1 + 1, σ1) h _ _ ls hP hS (lv_sub hl [0, 1, 2, 3, 4, 5] rfl)
        · rw [if_neg c1] at h
          refine lv_iload (pc := 27) hx hb dX12_isNested_27 (lv_at hl 5 rfl) ?_
          refine lv_if_eq (pc := 29) (tgt := 44) hx hb dX12_isNested_29 (by decide) (fun c1 => ?_) (fun c1 => ?_)
          · rw [if_pos c1] at h
            refine lv_iload_n (pc := 44) hx hb dX12_isNested_44 rfl (lv_at hl 4 rfl) ?_
            refine lv_iload (pc := 45) hx hb dX12_isNested_45 (lv_at hl 0 rfl) ?_
            refine lv_iconst (pc := 47) (v := (-1)) hx hb dX12_isNested_47 (by decide) ?_
            refine lv_ixor (pc := 48) hx hb dX12_isNested_48 ?_
            refine lv_iand (pc := 49) hx hb dX12_isNested_49 ?_
            refine lv_if_ne (pc := 50) (tgt := 55) hx hb dX12_isNested_50 (by decide) (fun c1 => ?_) (fun c1 => ?_)
            · rw [if_neg c1] at h
              refine lv_iinc (pc := 55) (v := x5_1 + 1) (lv' := [(5, .int (x5_1 + 1)), (0, .ref (o + x0)), (1, .ref (o + x1)), (2, .int x2), (3, .int x3), (4, .int x4)]) hx hb dX12_isNested_55 hl (k := 0) rfl rfl (by decide) rfl (fun ls hl => ?_)
              refine lv_goto (pc := 58) (tgt := 3) hx hb dX12_isNested_58 (by decide) ?_
              exact ih1 (x5_1 + 1, σ1) h _ _ ls hP hS (lv_sub hl [0, 1, 2, 3, 4, 5] rfl)
            · rw [if_pos c1] at h
              refine lv_iconst (pc := 53) (v := 1) hx hb dX12_isNested_53 (by decide) ?_
              exact xretz (pc := 54) hx hb hr hlocks hP hK hE hS h dX12_isNested_54
          · rw [if_neg c1] at h
            refine lv_iload (pc := 32) hx hb dX12_isNested_32 (lv_at hl 0 rfl) ?_
            refine lv_iload_n (pc := 34) hx hb dX12_isNested_34 rfl (lv_at hl 4 rfl) ?_
            refine lv_iconst (pc := 35) (v := (-1)) hx hb dX12_isNested_35 (by decide) ?_
            refine lv_ixor (pc := 36) hx hb dX12_isNested_36 ?_
            refine lv_iand (pc := 37) hx hb dX12_isNested_37 ?_
            refine lv_if_ne (pc := 38) (tgt := 55) hx hb dX12_isNested_38 (by decide) (fun c1 => ?_) (fun c1 => ?_)
            · rw [if_neg c1] at h
              refine lv_iinc (pc := 55) (v := x5_1 + 1) (lv' := [(5, .int (x5_1 + 1)), (0, .ref (o + x0)), (1, .ref (o + x1)), (2, .int x2), (3, .int x3), (4, .int x4)]) hx hb dX12_isNested_55 hl (k := 0) rfl rfl (by decide) rfl (fun ls hl => ?_)
              refine lv_goto (pc := 58) (tgt := 3) hx hb dX12_isNested_58 (by decide) ?_
              exact ih1 (x5_1 + 1, σ1) h _ _ ls hP hS (lv_sub hl [0, 1, 2, 3, 4, 5] rfl)
            · rw [if_pos c1] at h
              refine lv_goto (pc := 41) (tgt := 53) hx hb dX12_isNested_41 (by decide) ?_
              refine lv_iconst (pc := 53) (v := 1) hx hb dX12_isNested_53 (by decide) ?_
              exact xretz (pc := 54) hx hb hr hlocks hP hK hE hS h dX12_isNested_54
  exact L3_1 N (0, σ) h _ _ ls hP hS (lv_sub hl [0, 1, 2, 3, 4, 5] rfl)
def F_X12_turns__2 (N : Nat) (x0 : Nat) (x1 : Nat) (again2 : (Int32 × zS) → Option (Unit × zS)) : Int32 × zS → Option (Unit × zS)
  | (x2, σ) =>
  if 1024 ≤ x2 then
    (some ((), σ))
  else
    (zl (gR 12 17 x0 σ) fun v1 =>
    zl (gI 12 20 x0 σ) fun v2 =>
    if v2 ≤ x2 then
      (zl (sI 16 v1 x2 0 σ) fun σ3 =>
      again2 (x2 + 1, σ3))
    else
      (zl (aI 16 x1 x2 σ) fun v4 =>
      if v4 = 0 then
        (zl (sI 16 v1 x2 0 σ) fun σ5 =>
        again2 (x2 + 1, σ5))
      else
        (zl (gC 12 x0) fun _ => zb (f_X12_isNested N x0 x1 0 x2 1 σ) fun v6 σ7 =>
        if v6 = 0 then
          (zl (sI 16 v1 x2 1 σ7) fun σ8 =>
          again2 (x2 + 1, σ8))
        else
          (zl (sI 16 v1 x2 0 σ7) fun σ9 =>
          again2 (x2 + 1, σ9)))))
def f_X12_turns_ (N : Nat) (x0 : Nat) (x1 : Nat) (σ : zS) : Option (Unit × zS) :=
  zlp (F_X12_turns__2 N x0 x1) N (0, σ)
set_option maxHeartbeats 4000000 in
set_option maxRecDepth 100000 in
theorem c_X12_turns_ (l : Launch) (D : va_G) (c : zC) (o : Nat) (g : zEp) (N : Nat) {x0 : Nat} {x1 : Nat} {σ : zS} {ρ : Unit × zS} (h : f_X12_turns_ N x0 x1 σ = some ρ) : Met l yX12_turns_ zs_X12_turns_ (zr 4) (va_Pc [.ref (o + x0), .ref (o + x1)] (zG D c o g σ)) (zQu D c o g ρ) 0 0 (zA o) := by
  refine zMetG (by decide) (Nat.le_of_ble_eq_true rfl) ?_
  intro p e s m below meth cd ⟨hx, hb, hr, hml, hown, hts, hlocks⟩ hP hK hE ls hl
  have hS : va_S (zA o) s.heap s.heap [] := va_S.rf
  have hl : lv_has ls 3 [(0, .ref (o + x0)), (1, .ref (o + x1))] := hl
  rw [f_X12_turns_.eq_1] at h
  refine lv_iconst (pc := 0) (v := 0) hx hb dX12_turns__0 (by decide) ?_
  refine lv_istore_n (pc := 1) (lv' := [(2, .int 0), (0, .ref (o + x0)), (1, .ref (o + x1))]) hx hb dX12_turns__1 rfl hl (by decide) rfl (fun ls hl => ?_)
  have L2_1 : ∀ (n : Nat) (t : Int32 × zS), zlp (F_X12_turns__2 N x0 x1) n t = some ρ → ∀ (H : Heap) (locs : List Loc) (ls : Array Slot), zP D c o (zabs o (t.2)) H → va_S (zA o) s.heap H locs → lv_has ls 3 [(2, .int (t.1)), (0, .ref (o + x0)), (1, .ref (o + x1))] → W p l e (zr 4) s m (([.ref (o + x0), .ref (o + x1)] : List Value).toArray) below meth cd H locs 0 0 (MQ below (zQu D c o g ρ) (([.ref (o + x0), .ref (o + x1)] : List Value).toArray) s 0 0 (zA o)) (F0 m 2 ls []) := by
    refine zlp_ind (fun ag1 ih1 t h H locs ls hP hS hl => ?_)
    obtain ⟨x2_1, σ1⟩ := t
    have hP : zP D c o (zabs o σ1) H := hP
    have hl : lv_has ls 3 [(2, .int x2_1), (0, .ref (o + x0)), (1, .ref (o + x1))] := hl
    rw [F_X12_turns__2.eq_1] at h
    show W p l e (zr 4) s m (([.ref (o + x0), .ref (o + x1)] : List Value).toArray) below meth cd H locs 0 0 (MQ below (zQu D c o g ρ) (([.ref (o + x0), .ref (o + x1)] : List Value).toArray) s 0 0 (zA o)) (F0 m 2 ls [])
    refine lv_iload_n (pc := 2) hx hb dX12_turns__2 rfl (lv_at hl 0 rfl) ?_
    refine lv_sipush (pc := 3) (v := 1024) hx hb dX12_turns__3 (by decide) ?_
    refine lv_icmp_ge (pc := 6) (tgt := 51) hx hb dX12_turns__6 (by decide) (fun c1 => ?_) (fun c1 => ?_)
    · rw [if_pos c1] at h
      exact xretv (pc := 51) hx hb hr hlocks hP hK hE hS h dX12_turns__51
    · rw [if_neg c1] at h
      refine lv_aload_n (pc := 9) hx hb dX12_turns__9 rfl (lv_at hl 1 rfl) ?_
      obtain ⟨v2, hv, h⟩ := zl_some h
      refine xgR (pc := 10) (j := 17) zc12 hx hb hts hown hK hP hv rfl zf_X12_40 dX12_turns__10 ?_
      refine lv_iload_n (pc := 13) hx hb dX12_turns__13 rfl (lv_at hl 0 rfl) ?_
      refine lv_iload_n (pc := 14) hx hb dX12_turns__14 rfl (lv_at hl 0 rfl) ?_
      refine lv_aload_n (pc := 15) hx hb dX12_turns__15 rfl (lv_at hl 1 rfl) ?_
      obtain ⟨v3, hv, h⟩ := zl_some h
      refine xgI (pc := 16) (j := 20) zc12 hx hb hts hown hK hP hv rfl zf_X12_180 dX12_turns__16 ?_
      refine lv_icmp_ge (pc := 19) (tgt := 43) hx hb dX12_turns__19 (by decide) (fun c1 => ?_) (fun c1 => ?_)
      · rw [if_pos c1] at h
        refine lv_iconst (pc := 43) (v := 0) hx hb dX12_turns__43 (by decide) ?_
        obtain ⟨σ4, hv, h⟩ := zl_some h
        refine xsZ (pc := 44) hx hb hK hP hS hv dX12_turns__44 (fun H locs hP hS => ?_)
        refine lv_iinc (pc := 45) (v := x2_1 + 1) (lv' := [(2, .int (x2_1 + 1)), (0, .ref (o + x0)), (1, .ref (o + x1))]) hx hb dX12_turns__45 hl (k := 0) rfl rfl (by decide) rfl (fun ls hl => ?_)
        refine lv_goto (pc := 48) (tgt := 2) hx hb dX12_turns__48 (by decide) ?_
        exact ih1 (x2_1 + 1, σ4) h _ _ ls hP hS (lv_sub hl [0, 1, 2] rfl)
      · rw [if_neg c1] at h
        refine lv_aload_n (pc := 22) hx hb dX12_turns__22 rfl (lv_at hl 2 rfl) ?_
        refine lv_iload_n (pc := 23) hx hb dX12_turns__23 rfl (lv_at hl 0 rfl) ?_
        obtain ⟨v5, hv, h⟩ := zl_some h
        refine xaZ (pc := 24) hx hb hK hP hv dX12_turns__24 ?_
        refine lv_if_eq (pc := 25) (tgt := 43) hx hb dX12_turns__25 (by decide) (fun c1 => ?_) (fun c1 => ?_)
        · rw [if_pos c1] at h
          refine lv_iconst (pc := 43) (v := 0) hx hb dX12_turns__43 (by decide) ?_
          obtain ⟨σ6, hv, h⟩ := zl_some h
          refine xsZ (pc := 44) hx hb hK hP hS hv dX12_turns__44 (fun H locs hP hS => ?_)
          refine lv_iinc (pc := 45) (v := x2_1 + 1) (lv' := [(2, .int (x2_1 + 1)), (0, .ref (o + x0)), (1, .ref (o + x1))]) hx hb dX12_turns__45 hl (k := 0) rfl rfl (by decide) rfl (fun ls hl => ?_)
          refine lv_goto (pc := 48) (tgt := 2) hx hb dX12_turns__48 (by decide) ?_
          exact ih1 (x2_1 + 1, σ6) h _ _ ls hP hS (lv_sub hl [0, 1, 2] rfl)
        · rw [if_neg c1] at h
          refine lv_aload_n (pc := 28) hx hb dX12_turns__28 rfl (lv_at hl 1 rfl) ?_
          refine lv_aload_n (pc := 29) hx hb dX12_turns__29 rfl (lv_at hl 2 rfl) ?_
          refine lv_iconst (pc := 30) (v := 0) hx hb dX12_turns__30 (by decide) ?_
          refine lv_iload_n (pc := 31) hx hb dX12_turns__31 rfl (lv_at hl 0 rfl) ?_
          refine lv_iconst (pc := 32) (v := 1) hx hb dX12_turns__32 (by decide) ?_
          obtain ⟨_, hg, h⟩ := zl_some h
          obtain ⟨v7, σ8, hv, h⟩ := zb_some h
          refine xcallVi (pc := 33) (As := [.ref (o + x1), .int 0, .int x2_1, .int 1]) (rest := [.int x2_1, .ref (o + v2)]) ⟨hx, hb, hml, hown, hts⟩ (c_X12_isNested l D c o g N hv) zc12 zV_X12_199 rfl zd_X12_isNested ⟨Nat.le_of_ble_eq_true rfl, Nat.le_of_ble_eq_true rfl⟩ hK hP hE hS hg hl.1 rfl (Nat.le_of_ble_eq_true rfl) ⟨Nat.zero_le _, Nat.zero_le _⟩ dX12_turns__33 (fun H locs hP hS => ?_)
          refine lv_if_ne (pc := 36) (tgt := 43) hx hb dX12_turns__36 (by decide) (fun c1 => ?_) (fun c1 => ?_)
          · rw [if_neg c1] at h
            refine lv_iconst (pc := 43) (v := 0) hx hb dX12_turns__43 (by decide) ?_
            obtain ⟨σ9, hv, h⟩ := zl_some h
            refine xsZ (pc := 44) hx hb hK hP hS hv dX12_turns__44 (fun H locs hP hS => ?_)
            refine lv_iinc (pc := 45) (v := x2_1 + 1) (lv' := [(2, .int (x2_1 + 1)), (0, .ref (o + x0)), (1, .ref (o + x1))]) hx hb dX12_turns__45 hl (k := 0) rfl rfl (by decide) rfl (fun ls hl => ?_)
            refine lv_goto (pc := 48) (tgt := 2) hx hb dX12_turns__48 (by decide) ?_
            exact ih1 (x2_1 + 1, σ9) h _ _ ls hP hS (lv_sub hl [0, 1, 2] rfl)
          · rw [if_pos c1] at h
            refine lv_iconst (pc := 39) (v := 1) hx hb dX12_turns__39 (by decide) ?_
            refine lv_goto (pc := 40) (tgt := 44) hx hb dX12_turns__40 (by decide) ?_
            obtain ⟨σ10, hv, h⟩ := zl_some h
            refine xsZ (pc := 44) hx hb hK hP hS hv dX12_turns__44 (fun H locs hP hS => ?_)
            refine lv_iinc (pc := 45) (v := x2_1 + 1) (lv' := [(2, .int (x2_1 + 1)), (0, .ref (o + x0)), (1, .ref (o + x1))]) hx hb dX12_turns__45 hl (k := 0) rfl rfl (by decide) rfl (fun ls hl => ?_)
            refine lv_goto (pc := 48) (tgt := 2) hx hb dX12_turns__48 (by decide) ?_
            exact ih1 (x2_1 + 1, σ10) h _ _ ls hP hS (lv_sub hl [0, 1, 2] rfl)
  exact L2_1 N (0, σ) h _ _ ls hP hS (lv_sub hl [0, 1, 2] rfl)
def F_X12_turns_8 (N : Nat) (x0 : Nat) (x2 : Nat) (x3 : Int32) (again8 : (Int32 × zS) → Option (Unit × zS)) : Int32 × zS → Option (Unit × zS)
  | (x4, σ) =>
  if 1024 ≤ x4 then
    (zl (gR 12 18 x0 σ) fun v1 =>
    zl (gC 12 x0) fun _ => zb (f_X12_turns_ N x0 v1 σ) fun v2 σ3 =>
    some ((), σ3))
  else
    (zl (gR 12 18 x0 σ) fun v4 =>
    zl (gI 12 20 x0 σ) fun v5 =>
    if v5 ≤ x4 then
      (zl (sI 16 v4 x4 0 σ) fun σ6 =>
      again8 (x4 + 1, σ6))
    else
      (zl (gC 12 x0) fun _ => zb (f_X12_isTouching N x0 x2 x3 x4 σ) fun v7 σ8 =>
      if v7 = 0 then
        (zl (sI 16 v4 x4 0 σ8) fun σ9 =>
        again8 (x4 + 1, σ9))
      else
        (zl (sI 16 v4 x4 1 σ8) fun σ10 =>
        again8 (x4 + 1, σ10))))
def J_X12_turns_127 (N : Nat) (again66 : (Int32 × zS) → Option (Unit × zS)) (x0 : Nat) (x1 : Int32) (x2 : Nat) (x3 : Int32) (x4 : Int32) (y0 : Int32) (y1 : Int32) (y2 : Int32) (y3 : Nat) (y4 : Nat) (σ : zS) : Option (Unit × zS) :=
  zl (gC 12 y4) fun _ => zb (f_X12_isNested N y4 y3 y2 y1 y0 σ) fun v17 σ18 =>
  if v17 = 0 then
    (zl (gR 12 17 x0 σ18) fun v19 =>
    zl (sI 16 v19 x4 1 σ18) fun σ20 =>
    again66 (x4 + 1, σ20))
  else
    (zl (gR 12 17 x0 σ18) fun v21 =>
    zl (sI 16 v21 x4 0 σ18) fun σ22 =>
    again66 (x4 + 1, σ22))
def J_X12_turns_99 (N : Nat) (again66 : (Int32 × zS) → Option (Unit × zS)) (x0 : Nat) (x1 : Int32) (x2 : Nat) (x3 : Int32) (x4 : Int32) (x5 : Int32) (σ : zS) : Option (Unit × zS) :=
  if x5 = 0 then
    (zl (gR 12 17 x0 σ) fun v12 =>
    zl (sI 16 v12 x4 0 σ) fun σ13 =>
    again66 (x4 + 1, σ13))
  else
    (zl (aI 16 x2 (x3 + x4) σ) fun v14 =>
    if v14 = 0 then
      (zl (gR 12 17 x0 σ) fun v15 =>
      zl (sI 16 v15 x4 0 σ) fun σ16 =>
      again66 (x4 + 1, σ16))
    else
      (if x1 = 0 then
        (J_X12_turns_127 N again66 x0 x1 x2 x3 x4 1 x4 x3 x2 x0 σ)
      else
        (J_X12_turns_127 N again66 x0 x1 x2 x3 x4 0 x4 x3 x2 x0 σ)))
def J_X12_turns_211 (N : Nat) (again66 : (Int32 × zS) → Option (Unit × zS)) (x0 : Nat) (x1 : Int32) (x2 : Nat) (x3 : Int32) (x4 : Int32) (y0 : Int32) (y1 : Int32) (y2 : Int32) (y3 : Nat) (y4 : Nat) (σ : zS) : Option (Unit × zS) :=
  zl (gC 12 y4) fun _ => zb (f_X12_isNested N y4 y3 y2 y1 y0 σ) fun v33 σ34 =>
  if v33 = 0 then
    (zl (gR 12 17 x0 σ34) fun v35 =>
    zl (sI 16 v35 x4 0 σ34) fun σ36 =>
    again66 (x4 + 1, σ36))
  else
    (zl (gR 12 17 x0 σ34) fun v37 =>
    zl (sI 16 v37 x4 1 σ34) fun σ38 =>
    again66 (x4 + 1, σ38))
def J_X12_turns_182 (N : Nat) (again66 : (Int32 × zS) → Option (Unit × zS)) (x0 : Nat) (x1 : Int32) (x2 : Nat) (x3 : Int32) (x4 : Int32) (x5 : Int32) (σ : zS) : Option (Unit × zS) :=
  if x5 = 0 then
    (zl (gR 12 17 x0 σ) fun v30 =>
    zl (sI 16 v30 x4 0 σ) fun σ31 =>
    again66 (x4 + 1, σ31))
  else
    (zl (aI 16 x2 (x3 + x4) σ) fun v32 =>
    if v32 = 0 then
      (if x1 = 4 then
        (J_X12_turns_211 N again66 x0 x1 x2 x3 x4 1 x4 x3 x2 x0 σ)
      else
        (J_X12_turns_211 N again66 x0 x1 x2 x3 x4 0 x4 x3 x2 x0 σ))
    else
      (zl (gR 12 17 x0 σ) fun v39 =>
      zl (sI 16 v39 x4 1 σ) fun σ40 =>
      again66 (x4 + 1, σ40)))
def J_X12_turns_88 (N : Nat) (again66 : (Int32 × zS) → Option (Unit × zS)) (x0 : Nat) (x1 : Int32) (x2 : Nat) (x3 : Int32) (x4 : Int32) (y0 : Int32) (σ : zS) : Option (Unit × zS) :=
  if x1 = 0 then
    (J_X12_turns_99 N again66 x0 x1 x2 x3 x4 y0 σ)
  else
    (if x1 = 1 then
      (J_X12_turns_99 N again66 x0 x1 x2 x3 x4 y0 σ)
    else
      (if x1 = 3 then
        (if y0 = 0 then
          (zl (gR 12 17 x0 σ) fun v23 =>
          zl (sI 16 v23 x4 0 σ) fun σ24 =>
          again66 (x4 + 1, σ24))
        else
          (zl (aI 16 x2 (x3 + x4) σ) fun v25 =>
          if v25 = 0 then
            (zl (gR 12 17 x0 σ) fun v26 =>
            zl (sI 16 v26 x4 1 σ) fun σ27 =>
            again66 (x4 + 1, σ27))
          else
            (zl (gR 12 17 x0 σ) fun v28 =>
            zl (sI 16 v28 x4 0 σ) fun σ29 =>
            again66 (x4 + 1, σ29))))
      else
        (if x1 = 4 then
          (J_X12_turns_182 N again66 x0 x1 x2 x3 x4 y0 σ)
        else
          (if x1 = 5 then
            (J_X12_turns_182 N again66 x0 x1 x2 x3 x4 y0 σ)
          else
            (if y0 = 0 then
              (zl (gR 12 17 x0 σ) fun v41 =>
              zl (sI 16 v41 x4 0 σ) fun σ42 =>
              again66 (x4 + 1, σ42))
            else
              (zl (aI 16 x2 (x3 + x4) σ) fun v43 =>
              if v43 = 0 then
                (zl (gR 12 17 x0 σ) fun v44 =>
                zl (sI 16 v44 x4 0 σ) fun σ45 =>
                again66 (x4 + 1, σ45))
              else
                (zl (gR 12 17 x0 σ) fun v46 =>
                zl (sI 16 v46 x4 1 σ) fun σ47 =>
                again66 (x4 + 1, σ47))))))))
def F_X12_turns_66 (N : Nat) (x0 : Nat) (x1 : Int32) (x2 : Nat) (x3 : Int32) (again66 : (Int32 × zS) → Option (Unit × zS)) : Int32 × zS → Option (Unit × zS)
  | (x4, σ) =>
  if 1024 ≤ x4 then
    (some ((), σ))
  else
    (zl (gI 12 20 x0 σ) fun v11 =>
    if v11 ≤ x4 then
      (J_X12_turns_88 N again66 x0 x1 x2 x3 x4 0 σ)
    else
      (J_X12_turns_88 N again66 x0 x1 x2 x3 x4 1 σ))
def f_X12_turns (N : Nat) (x0 : Nat) (x1 : Int32) (x2 : Nat) (x3 : Int32) (σ : zS) : Option (Unit × zS) :=
  if x1 = 2 then
    (zlp (F_X12_turns_8 N x0 x2 x3) N (0, σ))
  else
    (zlp (F_X12_turns_66 N x0 x1 x2 x3) N (0, σ))
set_option maxHeartbeats 4000000 in
set_option maxRecDepth 100000 in
theorem c_X12_turns (l : Launch) (D : va_G) (c : zC) (o : Nat) (g : zEp) (N : Nat) {x0 : Nat} {x1 : Int32} {x2 : Nat} {x3 : Int32} {σ : zS} {ρ : Unit × zS} (h : f_X12_turns N x0 x1 x2 x3 σ = some ρ) : Met l yX12_turns zs_X12_turns (zr 6) (va_Pc [.ref (o + x0), .int x1, .ref (o + x2), .int x3] (zG D c o g σ)) (zQu D c o g ρ) 0 0 (zA o) := by
  refine zMetG (by decide) (Nat.le_of_ble_eq_true rfl) ?_
  intro p e s m below meth cd ⟨hx, hb, hr, hml, hown, hts, hlocks⟩ hP hK hE ls hl
  have hS : va_S (zA o) s.heap s.heap [] := va_S.rf
  have hl : lv_has ls 6 [(0, .ref (o + x0)), (1, .int x1), (2, .ref (o + x2)), (3, .int x3)] := hl
  rw [f_X12_turns.eq_1] at h
  refine lv_iload_n (pc := 0) hx hb dX12_turns_0 rfl (lv_at hl 1 rfl) ?_
  refine lv_iconst (pc := 1) (v := 2) hx hb dX12_turns_1 (by decide) ?_
  refine lv_icmp_ne (pc := 2) (tgt := 63) hx hb dX12_turns_2 (by decide) (fun c1 => ?_) (fun c1 => ?_)
  · rw [if_neg c1] at h
    refine lv_iconst (pc := 63) (v := 0) hx hb dX12_turns_63 (by decide) ?_
    refine lv_istore (pc := 64) (lv' := [(4, .int 0), (0, .ref (o + x0)), (1, .int x1), (2, .ref (o + x2)), (3, .int x3)]) hx hb dX12_turns_64 hl (by decide) rfl (fun ls hl => ?_)
    have L66_1 : ∀ (n : Nat) (t : Int32 × zS), zlp (F_X12_turns_66 N x0 x1 x2 x3) n t = some ρ → ∀ (H : Heap) (locs : List Loc) (ls : Array Slot), zP D c o (zabs o (t.2)) H → va_S (zA o) s.heap H locs → lv_has ls 6 [(4, .int (t.1)), (0, .ref (o + x0)), (1, .int x1), (2, .ref (o + x2)), (3, .int x3)] → W p l e (zr 6) s m (([.ref (o + x0), .int x1, .ref (o + x2), .int x3] : List Value).toArray) below meth cd H locs 0 0 (MQ below (zQu D c o g ρ) (([.ref (o + x0), .int x1, .ref (o + x2), .int x3] : List Value).toArray) s 0 0 (zA o)) (F0 m 66 ls []) := by
      refine zlp_ind (fun ag1 ih1 t h H locs ls hP hS hl => ?_)
      obtain ⟨x4_1, σ1⟩ := t
      have hP : zP D c o (zabs o σ1) H := hP
      have hl : lv_has ls 6 [(4, .int x4_1), (0, .ref (o + x0)), (1, .int x1), (2, .ref (o + x2)), (3, .int x3)] := hl
      rw [F_X12_turns_66.eq_1] at h
      show W p l e (zr 6) s m (([.ref (o + x0), .int x1, .ref (o + x2), .int x3] : List Value).toArray) below meth cd H locs 0 0 (MQ below (zQu D c o g ρ) (([.ref (o + x0), .int x1, .ref (o + x2), .int x3] : List Value).toArray) s 0 0 (zA o)) (F0 m 66 ls [])
      refine lv_iload (pc := 66) hx hb dX12_turns_66 (lv_at hl 0 rfl) ?_
      refine lv_sipush (pc := 68) (v := 1024) hx hb dX12_turns_68 (by decide) ?_
      refine lv_icmp_ge (pc := 71) (tgt := 263) hx hb dX12_turns_71 (by decide) (fun c1 => ?_) (fun c1 => ?_)
      · rw [if_pos c1] at h
        exact xretv (pc := 263) hx hb hr hlocks hP hK hE hS h dX12_turns_263
      · rw [if_neg c1] at h
        refine lv_iload (pc := 74) hx hb dX12_turns_74 (lv_at hl 0 rfl) ?_
        refine lv_aload_n (pc := 76) hx hb dX12_turns_76 rfl (lv_at hl 1 rfl) ?_
        obtain ⟨v2, hv, h⟩ := zl_some h
        refine xgI (pc := 77) (j := 20) zc12 hx hb hts hown hK hP hv rfl zf_X12_180 dX12_turns_77 ?_
        have hj88_3 : ∀ (y0_3 : Int32) (σ3 : zS), J_X12_turns_88 N ag1 x0 x1 x2 x3 x4_1 y0_3 σ3 = some ρ → ∀ (H : Heap) (locs : List Loc) (ls : Array Slot), zP D c o (zabs o σ3) H → va_S (zA o) s.heap H locs → lv_has ls 6 [(0, .ref (o + x0)), (1, .int x1), (2, .ref (o + x2)), (3, .int x3), (4, .int x4_1)] → W p l e (zr 6) s m (([.ref (o + x0), .int x1, .ref (o + x2), .int x3] : List Value).toArray) below meth cd H locs 0 0 (MQ below (zQu D c o g ρ) (([.ref (o + x0), .int x1, .ref (o + x2), .int x3] : List Value).toArray) s 0 0 (zA o)) (F0 m 88 ls [.int y0_3]) := by
          intro y0_3 σ3 h H locs ls hP hS hl
          rw [J_X12_turns_88.eq_1] at h
          refine lv_istore (pc := 88) (lv' := [(5, .int y0_3), (0, .ref (o + x0)), (1, .int x1), (2, .ref (o + x2)), (3, .int x3), (4, .int x4_1)]) hx hb dX12_turns_88 hl (by decide) rfl (fun ls hl => ?_)
          refine lv_iload_n (pc := 90) hx hb dX12_turns_90 rfl (lv_at hl 2 rfl) ?_
          have hj99_4 : ∀ (x4_4 : Int32) (x5_4 : Int32) (σ4 : zS), J_X12_turns_99 N ag1 x0 x1 x2 x3 x4_4 x5_4 σ4 = some ρ → ∀ (H : Heap) (locs : List Loc) (ls : Array Slot), zP D c o (zabs o σ4) H → va_S (zA o) s.heap H locs → lv_has ls 6 [(4, .int x4_4), (5, .int x5_4), (0, .ref (o + x0)), (1, .int x1), (2, .ref (o + x2)), (3, .int x3)] → W p l e (zr 6) s m (([.ref (o + x0), .int x1, .ref (o + x2), .int x3] : List Value).toArray) below meth cd H locs 0 0 (MQ below (zQu D c o g ρ) (([.ref (o + x0), .int x1, .ref (o + x2), .int x3] : List Value).toArray) s 0 0 (zA o)) (F0 m 99 ls []) := by
            intro x4_4 x5_4 σ4 h H locs ls hP hS hl
            rw [J_X12_turns_99.eq_1] at h
            refine lv_iload (pc := 99) hx hb dX12_turns_99 (lv_at hl 1 rfl) ?_
            refine lv_if_eq (pc := 101) (tgt := 137) hx hb dX12_turns_101 (by decide) (fun c1 => ?_) (fun c1 => ?_)
            · rw [if_pos c1] at h
              refine lv_iconst (pc := 137) (v := 0) hx hb dX12_turns_137 (by decide) ?_
              refine lv_istore (pc := 138) (lv' := [(5, .int 0), (4, .int x4_4), (0, .ref (o + x0)), (1, .int x1), (2, .ref (o + x2)), (3, .int x3)]) hx hb dX12_turns_138 hl (by decide) rfl (fun ls hl => ?_)
              refine lv_goto (pc := 140) (tgt := 248) hx hb dX12_turns_140 (by decide) ?_
              refine lv_aload_n (pc := 248) hx hb dX12_turns_248 rfl (lv_at hl 2 rfl) ?_
              obtain ⟨v5, hv, h⟩ := zl_some h
              refine xgR (pc := 249) (j := 17) zc12 hx hb hts hown hK hP hv rfl zf_X12_40 dX12_turns_249 ?_
              refine lv_iload (pc := 252) hx hb dX12_turns_252 (lv_at hl 1 rfl) ?_
              refine lv_iload (pc := 254) hx hb dX12_turns_254 (lv_at hl 0 rfl) ?_
              obtain ⟨σ6, hv, h⟩ := zl_some h
              refine xsZ (pc := 256) hx hb hK hP hS hv dX12_turns_256 (fun H locs hP hS => ?_)
              refine lv_iinc (pc := 257) (v := x4_4 + 1) (lv' := [(4, .int (x4_4 + 1)), (5, .int 0), (0, .ref (o + x0)), (1, .int x1), (2, .ref (o + x2)), (3, .int x3)]) hx hb dX12_turns_257 hl (k := 1) rfl rfl (by decide) rfl (fun ls hl => ?_)
              refine lv_goto (pc := 260) (tgt := 66) hx hb dX12_turns_260 (by decide) ?_
              exact ih1 (x4_4 + 1, σ6) h _ _ ls hP hS (lv_sub hl [0, 2, 3, 4, 5] rfl)
            · rw [if_neg c1] at h
              refine lv_aload_n (pc := 104) hx hb dX12_turns_104 rfl (lv_at hl 4 rfl) ?_
              refine lv_iload_n (pc := 105) hx hb dX12_turns_105 rfl (lv_at hl 5 rfl) ?_
              refine lv_iload (pc := 106) hx hb dX12_turns_106 (lv_at hl 0 rfl) ?_
              refine lv_iadd (pc := 108) hx hb dX12_turns_108 ?_
              obtain ⟨v7, hv, h⟩ := zl_some h
              refine xaZ (pc := 109) hx hb hK hP hv dX12_turns_109 ?_
              refine lv_if_eq (pc := 110) (tgt := 137) hx hb dX12_turns_110 (by decide) (fun c1 => ?_) (fun c1 => ?_)
              · rw [if_pos c1] at h
                refine lv_iconst (pc := 137) (v := 0) hx hb dX12_turns_137 (by decide) ?_
                refine lv_istore (pc := 138) (lv' := [(5, .int 0), (4, .int x4_4), (0, .ref (o + x0)), (1, .int x1), (2, .ref (o + x2)), (3, .int x3)]) hx hb dX12_turns_138 hl (by decide) rfl (fun ls hl => ?_)
                refine lv_goto (pc := 140) (tgt := 248) hx hb dX12_turns_140 (by decide) ?_
                refine lv_aload_n (pc := 248) hx hb dX12_turns_248 rfl (lv_at hl 2 rfl) ?_
                obtain ⟨v8, hv, h⟩ := zl_some h
                refine xgR (pc := 249) (j := 17) zc12 hx hb hts hown hK hP hv rfl zf_X12_40 dX12_turns_249 ?_
                refine lv_iload (pc := 252) hx hb dX12_turns_252 (lv_at hl 1 rfl) ?_
                refine lv_iload (pc := 254) hx hb dX12_turns_254 (lv_at hl 0 rfl) ?_
                obtain ⟨σ9, hv, h⟩ := zl_some h
                refine xsZ (pc := 256) hx hb hK hP hS hv dX12_turns_256 (fun H locs hP hS => ?_)
                refine lv_iinc (pc := 257) (v := x4_4 + 1) (lv' := [(4, .int (x4_4 + 1)), (5, .int 0), (0, .ref (o + x0)), (1, .int x1), (2, .ref (o + x2)), (3, .int x3)]) hx hb dX12_turns_257 hl (k := 1) rfl rfl (by decide) rfl (fun ls hl => ?_)
                refine lv_goto (pc := 260) (tgt := 66) hx hb dX12_turns_260 (by decide) ?_
                exact ih1 (x4_4 + 1, σ9) h _ _ ls hP hS (lv_sub hl [0, 2, 3, 4, 5] rfl)
              · rw [if_neg c1] at h
                refine lv_aload_n (pc := 113) hx hb dX12_turns_113 rfl (lv_at hl 2 rfl) ?_
                refine lv_aload_n (pc := 114) hx hb dX12_turns_114 rfl (lv_at hl 4 rfl) ?_
                refine lv_iload_n (pc := 115) hx hb dX12_turns_115 rfl (lv_at hl 5 rfl) ?_
                refine lv_iload (pc := 116) hx hb dX12_turns_116 (lv_at hl 0 rfl) ?_
                refine lv_iload_n (pc := 118) hx hb dX12_turns_118 rfl (lv_at hl 3 rfl) ?_
                have hj127_10 : ∀ (y0_10 : Int32) (y1_10 : Int32) (y2_10 : Int32) (y3_10 : Nat) (y4_10 : Nat) (σ10 : zS), J_X12_turns_127 N ag1 x0 x1 x2 x3 x4_4 y0_10 y1_10 y2_10 y3_10 y4_10 σ10 = some ρ → ∀ (H : Heap) (locs : List Loc) (ls : Array Slot), zP D c o (zabs o σ10) H → va_S (zA o) s.heap H locs → lv_has ls 6 [(0, .ref (o + x0)), (1, .int x1), (2, .ref (o + x2)), (3, .int x3), (4, .int x4_4)] → W p l e (zr 6) s m (([.ref (o + x0), .int x1, .ref (o + x2), .int x3] : List Value).toArray) below meth cd H locs 0 0 (MQ below (zQu D c o g ρ) (([.ref (o + x0), .int x1, .ref (o + x2), .int x3] : List Value).toArray) s 0 0 (zA o)) (F0 m 127 ls [.int y0_10, .int y1_10, .int y2_10, .ref (o + y3_10), .ref (o + y4_10)]) := by
                  intro y0_10 y1_10 y2_10 y3_10 y4_10 σ10 h H locs ls hP hS hl
                  rw [J_X12_turns_127.eq_1] at h
                  obtain ⟨_, hg, h⟩ := zl_some h
                  obtain ⟨v11, σ12, hv, h⟩ := zb_some h
                  refine xcallVi (pc := 127) (As := [.ref (o + y3_10), .int y2_10, .int y1_10, .int y0_10]) (rest := []) ⟨hx, hb, hml, hown, hts⟩ (c_X12_isNested l D c o g N hv) zc12 zV_X12_199 rfl zd_X12_isNested ⟨Nat.le_of_ble_eq_true rfl, Nat.le_of_ble_eq_true rfl⟩ hK hP hE hS hg hl.1 rfl (Nat.le_of_ble_eq_true rfl) ⟨Nat.zero_le _, Nat.zero_le _⟩ dX12_turns_127 (fun H locs hP hS => ?_)
                  refine lv_if_ne (pc := 130) (tgt := 137) hx hb dX12_turns_130 (by decide) (fun c1 => ?_) (fun c1 => ?_)
                  · rw [if_neg c1] at h
                    refine lv_iconst (pc := 137) (v := 0) hx hb dX12_turns_137 (by decide) ?_
                    refine lv_istore (pc := 138) (lv' := [(5, .int 0), (0, .ref (o + x0)), (1, .int x1), (2, .ref (o + x2)), (3, .int x3), (4, .int x4_4)]) hx hb dX12_turns_138 hl (by decide) rfl (fun ls hl => ?_)
                    refine lv_goto (pc := 140) (tgt := 248) hx hb dX12_turns_140 (by decide) ?_
                    refine lv_aload_n (pc := 248) hx hb dX12_turns_248 rfl (lv_at hl 1 rfl) ?_
                    obtain ⟨v13, hv, h⟩ := zl_some h
                    refine xgR (pc := 249) (j := 17) zc12 hx hb hts hown hK hP hv rfl zf_X12_40 dX12_turns_249 ?_
                    refine lv_iload (pc := 252) hx hb dX12_turns_252 (lv_at hl 5 rfl) ?_
                    refine lv_iload (pc := 254) hx hb dX12_turns_254 (lv_at hl 0 rfl) ?_
                    obtain ⟨σ14, hv, h⟩ := zl_some h
                    refine xsZ (pc := 256) hx hb hK hP hS hv dX12_turns_256 (fun H locs hP hS => ?_)
                    refine lv_iinc (pc := 257) (v := x4_4 + 1) (lv' := [(4, .int (x4_4 + 1)), (5, .int 0), (0, .ref (o + x0)), (1, .int x1), (2, .ref (o + x2)), (3, .int x3)]) hx hb dX12_turns_257 hl (k := 5) rfl rfl (by decide) rfl (fun ls hl => ?_)
                    refine lv_goto (pc := 260) (tgt := 66) hx hb dX12_turns_260 (by decide) ?_
                    exact ih1 (x4_4 + 1, σ14) h _ _ ls hP hS (lv_sub hl [0, 2, 3, 4, 5] rfl)
                  · rw [if_pos c1] at h
                    refine lv_iconst (pc := 133) (v := 1) hx hb dX12_turns_133 (by decide) ?_
                    refine lv_goto (pc := 134) (tgt := 138) hx hb dX12_turns_134 (by decide) ?_
                    refine lv_istore (pc := 138) (lv' := [(5, .int 1), (0, .ref (o + x0)), (1, .int x1), (2, .ref (o + x2)), (3, .int x3), (4, .int x4_4)]) hx hb dX12_turns_138 hl (by decide) rfl (fun ls hl => ?_)
                    refine lv_goto (pc := 140) (tgt := 248) hx hb dX12_turns_140 (by decide) ?_
                    refine lv_aload_n (pc := 248) hx hb dX12_turns_248 rfl (lv_at hl 1 rfl) ?_
                    obtain ⟨v15, hv, h⟩ := zl_some h
                    refine xgR (pc := 249) (j := 17) zc12 hx hb hts hown hK hP hv rfl zf_X12_40 dX12_turns_249 ?_
                    refine lv_iload (pc := 252) hx hb dX12_turns_252 (lv_at hl 5 rfl) ?_
                    refine lv_iload (pc := 254) hx hb dX12_turns_254 (lv_at hl 0 rfl) ?_
                    obtain ⟨σ16, hv, h⟩ := zl_some h
                    refine xsZ (pc := 256) hx hb hK hP hS hv dX12_turns_256 (fun H locs hP hS => ?_)
                    refine lv_iinc (pc := 257) (v := x4_4 + 1) (lv' := [(4, .int (x4_4 + 1)), (5, .int 1), (0, .ref (o + x0)), (1, .int x1), (2, .ref (o + x2)), (3, .int x3)]) hx hb dX12_turns_257 hl (k := 5) rfl rfl (by decide) rfl (fun ls hl => ?_)
                    refine lv_goto (pc := 260) (tgt := 66) hx hb dX12_turns_260 (by decide) ?_
                    exact ih1 (x4_4 + 1, σ16) h _ _ ls hP hS (lv_sub hl [0, 2, 3, 4, 5] rfl)
                refine lv_if_ne (pc := 119) (tgt := 126) hx hb dX12_turns_119 (by decide) (fun c1 => ?_) (fun c1 => ?_)
                · rw [if_neg c1] at h
                  refine lv_iconst (pc := 126) (v := 0) hx hb dX12_turns_126 (by decide) ?_
                  exact hj127_10 (0) (x4_4) (x3) (x2) (x0) σ4 h _ _ ls hP hS (lv_sub hl [2, 3, 4, 5, 0] rfl)
                · rw [if_pos c1] at h
                  refine lv_iconst (pc := 122) (v := 1) hx hb dX12_turns_122 (by decide) ?_
                  refine lv_goto (pc := 123) (tgt := 127) hx hb dX12_turns_123 (by decide) ?_
                  exact hj127_10 (1) (x4_4) (x3) (x2) (x0) σ4 h _ _ ls hP hS (lv_sub hl [2, 3, 4, 5, 0] rfl)
          refine lv_if_eq (pc := 91) (tgt := 99) hx hb dX12_turns_91 (by decide) (fun c1 => ?_) (fun c1 => ?_)
          · rw [if_pos c1] at h
            exact hj99_4 (x4_1) (y0_3) σ3 h _ _ ls hP hS (lv_sub hl [5, 0, 1, 2, 3, 4] rfl)
          · rw [if_neg c1] at h
            refine lv_iload_n (pc := 94) hx hb dX12_turns_94 rfl (lv_at hl 2 rfl) ?_
            refine lv_iconst (pc := 95) (v := 1) hx hb dX12_turns_95 (by decide) ?_
            refine lv_icmp_ne (pc := 96) (tgt := 143) hx hb dX12_turns_96 (by decide) (fun c1 => ?_) (fun c1 => ?_)
            · rw [if_neg c1] at h
              refine lv_iload_n (pc := 143) hx hb dX12_turns_143 rfl (lv_at hl 2 rfl) ?_
              refine lv_iconst (pc := 144) (v := 3) hx hb dX12_turns_144 (by decide) ?_
              refine lv_icmp_ne (pc := 145) (tgt := 172) hx hb dX12_turns_145 (by decide) (fun c1 => ?_) (fun c1 => ?_)
              · rw [if_neg c1] at h
                refine lv_iload_n (pc := 172) hx hb dX12_turns_172 rfl (lv_at hl 2 rfl) ?_
                refine lv_iconst (pc := 173) (v := 4) hx hb dX12_turns_173 (by decide) ?_
                have hj182_17 : ∀ (x5_17 : Int32) (σ17 : zS), J_X12_turns_182 N ag1 x0 x1 x2 x3 x4_1 x5_17 σ17 = some ρ → ∀ (H : Heap) (locs : List Loc) (ls : Array Slot), zP D c o (zabs o σ17) H → va_S (zA o) s.heap H locs → lv_has ls 6 [(5, .int x5_17), (0, .ref (o + x0)), (1, .int x1), (2, .ref (o + x2)), (3, .int x3), (4, .int x4_1)] → W p l e (zr 6) s m (([.ref (o + x0), .int x1, .ref (o + x2), .int x3] : List Value).toArray) below meth cd H locs 0 0 (MQ below (zQu D c o g ρ) (([.ref (o + x0), .int x1, .ref (o + x2), .int x3] : List Value).toArray) s 0 0 (zA o)) (F0 m 182 ls []) := by
                  intro x5_17 σ17 h H locs ls hP hS hl
                  rw [J_X12_turns_182.eq_1] at h
                  refine lv_iload (pc := 182) hx hb dX12_turns_182 (lv_at hl 0 rfl) ?_
                  refine lv_if_eq (pc := 184) (tgt := 221) hx hb dX12_turns_184 (by decide) (fun c1 => ?_) (fun c1 => ?_)
                  · rw [if_pos c1] at h
                    refine lv_iconst (pc := 221) (v := 0) hx hb dX12_turns_221 (by decide) ?_
                    refine lv_istore (pc := 222) (lv' := [(5, .int 0), (0, .ref (o + x0)), (1, .int x1), (2, .ref (o + x2)), (3, .int x3), (4, .int x4_1)]) hx hb dX12_turns_222 hl (by decide) rfl (fun ls hl => ?_)
                    refine lv_goto (pc := 224) (tgt := 248) hx hb dX12_turns_224 (by decide) ?_
                    refine lv_aload_n (pc := 248) hx hb dX12_turns_248 rfl (lv_at hl 1 rfl) ?_
                    obtain ⟨v18, hv, h⟩ := zl_some h
                    refine xgR (pc := 249) (j := 17) zc12 hx hb hts hown hK hP hv rfl zf_X12_40 dX12_turns_249 ?_
                    refine lv_iload (pc := 252) hx hb dX12_turns_252 (lv_at hl 5 rfl) ?_
                    refine lv_iload (pc := 254) hx hb dX12_turns_254 (lv_at hl 0 rfl) ?_
                    obtain ⟨σ19, hv, h⟩ := zl_some h
                    refine xsZ (pc := 256) hx hb hK hP hS hv dX12_turns_256 (fun H locs hP hS => ?_)
                    refine lv_iinc (pc := 257) (v := x4_1 + 1) (lv' := [(4, .int (x4_1 + 1)), (5, .int 0), (0, .ref (o + x0)), (1, .int x1), (2, .ref (o + x2)), (3, .int x3)]) hx hb dX12_turns_257 hl (k := 5) rfl rfl (by decide) rfl (fun ls hl => ?_)
                    refine lv_goto (pc := 260) (tgt := 66) hx hb dX12_turns_260 (by decide) ?_
                    exact ih1 (x4_1 + 1, σ19) h _ _ ls hP hS (lv_sub hl [0, 2, 3, 4, 5] rfl)
                  · rw [if_neg c1] at h
                    refine lv_aload_n (pc := 187) hx hb dX12_turns_187 rfl (lv_at hl 3 rfl) ?_
                    refine lv_iload_n (pc := 188) hx hb dX12_turns_188 rfl (lv_at hl 4 rfl) ?_
                    refine lv_iload (pc := 189) hx hb dX12_turns_189 (lv_at hl 5 rfl) ?_
                    refine lv_iadd (pc := 191) hx hb dX12_turns_191 ?_
                    obtain ⟨v20, hv, h⟩ := zl_some h
                    refine xaZ (pc := 192) hx hb hK hP hv dX12_turns_192 ?_
                    refine lv_if_ne (pc := 193) (tgt := 217) hx hb dX12_turns_193 (by decide) (fun c1 => ?_) (fun c1 => ?_)
                    · rw [if_neg c1] at h
                      refine lv_iconst (pc := 217) (v := 1) hx hb dX12_turns_217 (by decide) ?_
                      refine lv_goto (pc := 218) (tgt := 222) hx hb dX12_turns_218 (by decide) ?_
                      refine lv_istore (pc := 222) (lv' := [(5, .int 1), (0, .ref (o + x0)), (1, .int x1), (2, .ref (o + x2)), (3, .int x3), (4, .int x4_1)]) hx hb dX12_turns_222 hl (by decide) rfl (fun ls hl => ?_)
                      refine lv_goto (pc := 224) (tgt := 248) hx hb dX12_turns_224 (by decide) ?_
                      refine lv_aload_n (pc := 248) hx hb dX12_turns_248 rfl (lv_at hl 1 rfl) ?_
                      obtain ⟨v21, hv, h⟩ := zl_some h
                      refine xgR (pc := 249) (j := 17) zc12 hx hb hts hown hK hP hv rfl zf_X12_40 dX12_turns_249 ?_
                      refine lv_iload (pc := 252) hx hb dX12_turns_252 (lv_at hl 5 rfl) ?_
                      refine lv_iload (pc := 254) hx hb dX12_turns_254 (lv_at hl 0 rfl) ?_
                      obtain ⟨σ22, hv, h⟩ := zl_some h
                      refine xsZ (pc := 256) hx hb hK hP hS hv dX12_turns_256 (fun H locs hP hS => ?_)
                      refine lv_iinc (pc := 257) (v := x4_1 + 1) (lv' := [(4, .int (x4_1 + 1)), (5, .int 1), (0, .ref (o + x0)), (1, .int x1), (2, .ref (o + x2)), (3, .int x3)]) hx hb dX12_turns_257 hl (k := 5) rfl rfl (by decide) rfl (fun ls hl => ?_)
                      refine lv_goto (pc := 260) (tgt := 66) hx hb dX12_turns_260 (by decide) ?_
                      exact ih1 (x4_1 + 1, σ22) h _ _ ls hP hS (lv_sub hl [0, 2, 3, 4, 5] rfl)
                    · rw [if_pos c1] at h
                      refine lv_aload_n (pc := 196) hx hb dX12_turns_196 rfl (lv_at hl 1 rfl) ?_
                      refine lv_aload_n (pc := 197) hx hb dX12_turns_197 rfl (lv_at hl 3 rfl) ?_
                      refine lv_iload_n (pc := 198) hx hb dX12_turns_198 rfl (lv_at hl 4 rfl) ?_
                      refine lv_iload (pc := 199) hx hb dX12_turns_199 (lv_at hl 5 rfl) ?_
                      refine lv_iload_n (pc := 201) hx hb dX12_turns_201 rfl (lv_at hl 2 rfl) ?_
                      refine lv_iconst (pc := 202) (v := 4) hx hb dX12_turns_202 (by decide) ?_
                      have hj211_23 : ∀ (y0_23 : Int32) (y1_23 : Int32) (y2_23 : Int32) (y3_23 : Nat) (y4_23 : Nat) (σ23 : zS), J_X12_turns_211 N ag1 x0 x1 x2 x3 x4_1 y0_23 y1_23 y2_23 y3_23 y4_23 σ23 = some ρ → ∀ (H : Heap) (locs : List Loc) (ls : Array Slot), zP D c o (zabs o σ23) H → va_S (zA o) s.heap H locs → lv_has ls 6 [(0, .ref (o + x0)), (1, .int x1), (2, .ref (o + x2)), (3, .int x3), (4, .int x4_1)] → W p l e (zr 6) s m (([.ref (o + x0), .int x1, .ref (o + x2), .int x3] : List Value).toArray) below meth cd H locs 0 0 (MQ below (zQu D c o g ρ) (([.ref (o + x0), .int x1, .ref (o + x2), .int x3] : List Value).toArray) s 0 0 (zA o)) (F0 m 211 ls [.int y0_23, .int y1_23, .int y2_23, .ref (o + y3_23), .ref (o + y4_23)]) := by
                        intro y0_23 y1_23 y2_23 y3_23 y4_23 σ23 h H locs ls hP hS hl
                        rw [J_X12_turns_211.eq_1] at h
                        obtain ⟨_, hg, h⟩ := zl_some h
                        obtain ⟨v24, σ25, hv, h⟩ := zb_some h
                        refine xcallVi (pc := 211) (As := [.ref (o + y3_23), .int y2_23, .int y1_23, .int y0_23]) (rest := []) ⟨hx, hb, hml, hown, hts⟩ (c_X12_isNested l D c o g N hv) zc12 zV_X12_199 rfl zd_X12_isNested ⟨Nat.le_of_ble_eq_true rfl, Nat.le_of_ble_eq_true rfl⟩ hK hP hE hS hg hl.1 rfl (Nat.le_of_ble_eq_true rfl) ⟨Nat.zero_le _, Nat.zero_le _⟩ dX12_turns_211 (fun H locs hP hS => ?_)
                        refine lv_if_eq (pc := 214) (tgt := 221) hx hb dX12_turns_214 (by decide) (fun c1 => ?_) (fun c1 => ?_)
                        · rw [if_pos c1] at h
                          refine lv_iconst (pc := 221) (v := 0) hx hb dX12_turns_221 (by decide) ?_
                          refine lv_istore (pc := 222) (lv' := [(5, .int 0), (0, .ref (o + x0)), (1, .int x1), (2, .ref (o + x2)), (3, .int x3), (4, .int x4_1)]) hx hb dX12_turns_222 hl (by decide) rfl (fun ls hl => ?_)
                          refine lv_goto (pc := 224) (tgt := 248) hx hb dX12_turns_224 (by decide) ?_
                          refine lv_aload_n (pc := 248) hx hb dX12_turns_248 rfl (lv_at hl 1 rfl) ?_
                          obtain ⟨v26, hv, h⟩ := zl_some h
                          refine xgR (pc := 249) (j := 17) zc12 hx hb hts hown hK hP hv rfl zf_X12_40 dX12_turns_249 ?_
                          refine lv_iload (pc := 252) hx hb dX12_turns_252 (lv_at hl 5 rfl) ?_
                          refine lv_iload (pc := 254) hx hb dX12_turns_254 (lv_at hl 0 rfl) ?_
                          obtain ⟨σ27, hv, h⟩ := zl_some h
                          refine xsZ (pc := 256) hx hb hK hP hS hv dX12_turns_256 (fun H locs hP hS => ?_)
                          refine lv_iinc (pc := 257) (v := x4_1 + 1) (lv' := [(4, .int (x4_1 + 1)), (5, .int 0), (0, .ref (o + x0)), (1, .int x1), (2, .ref (o + x2)), (3, .int x3)]) hx hb dX12_turns_257 hl (k := 5) rfl rfl (by decide) rfl (fun ls hl => ?_)
                          refine lv_goto (pc := 260) (tgt := 66) hx hb dX12_turns_260 (by decide) ?_
                          exact ih1 (x4_1 + 1, σ27) h _ _ ls hP hS (lv_sub hl [0, 2, 3, 4, 5] rfl)
                        · rw [if_neg c1] at h
                          refine lv_iconst (pc := 217) (v := 1) hx hb dX12_turns_217 (by decide) ?_
                          refine lv_goto (pc := 218) (tgt := 222) hx hb dX12_turns_218 (by decide) ?_
                          refine lv_istore (pc := 222) (lv' := [(5, .int 1), (0, .ref (o + x0)), (1, .int x1), (2, .ref (o + x2)), (3, .int x3), (4, .int x4_1)]) hx hb dX12_turns_222 hl (by decide) rfl (fun ls hl => ?_)
                          refine lv_goto (pc := 224) (tgt := 248) hx hb dX12_turns_224 (by decide) ?_
                          refine lv_aload_n (pc := 248) hx hb dX12_turns_248 rfl (lv_at hl 1 rfl) ?_
                          obtain ⟨v28, hv, h⟩ := zl_some h
                          refine xgR (pc := 249) (j := 17) zc12 hx hb hts hown hK hP hv rfl zf_X12_40 dX12_turns_249 ?_
                          refine lv_iload (pc := 252) hx hb dX12_turns_252 (lv_at hl 5 rfl) ?_
                          refine lv_iload (pc := 254) hx hb dX12_turns_254 (lv_at hl 0 rfl) ?_
                          obtain ⟨σ29, hv, h⟩ := zl_some h
                          refine xsZ (pc := 256) hx hb hK hP hS hv dX12_turns_256 (fun H locs hP hS => ?_)
                          refine lv_iinc (pc := 257) (v := x4_1 + 1) (lv' := [(4, .int (x4_1 + 1)), (5, .int 1), (0, .ref (o + x0)), (1, .int x1), (2, .ref (o + x2)), (3, .int x3)]) hx hb dX12_turns_257 hl (k := 5) rfl rfl (by decide) rfl (fun ls hl => ?_)
                          refine lv_goto (pc := 260) (tgt := 66) hx hb dX12_turns_260 (by decide) ?_
                          exact ih1 (x4_1 + 1, σ29) h _ _ ls hP hS (lv_sub hl [0, 2, 3, 4, 5] rfl)
                      refine lv_icmp_ne (pc := 203) (tgt := 210) hx hb dX12_turns_203 (by decide) (fun c1 => ?_) (fun c1 => ?_)
                      · rw [if_neg c1] at h
                        refine lv_iconst (pc := 210) (v := 0) hx hb dX12_turns_210 (by decide) ?_
                        exact hj211_23 (0) (x4_1) (x3) (x2) (x0) σ17 h _ _ ls hP hS (lv_sub hl [1, 2, 3, 4, 5] rfl)
                      · rw [if_pos c1] at h
                        refine lv_iconst (pc := 206) (v := 1) hx hb dX12_turns_206 (by decide) ?_
                        refine lv_goto (pc := 207) (tgt := 211) hx hb dX12_turns_207 (by decide) ?_
                        exact hj211_23 (1) (x4_1) (x3) (x2) (x0) σ17 h _ _ ls hP hS (lv_sub hl [1, 2, 3, 4, 5] rfl)
                refine lv_icmp_eq (pc := 174) (tgt := 182) hx hb dX12_turns_174 (by decide) (fun c1 => ?_) (fun c1 => ?_)
                · rw [if_pos c1] at h
                  exact hj182_17 (y0_3) σ3 h _ _ ls hP hS (lv_sub hl [0, 1, 2, 3, 4, 5] rfl)
                · rw [if_neg c1] at h
                  refine lv_iload_n (pc := 177) hx hb dX12_turns_177 rfl (lv_at hl 2 rfl) ?_
                  refine lv_iconst (pc := 178) (v := 5) hx hb dX12_turns_178 (by decide) ?_
                  refine lv_icmp_ne (pc := 179) (tgt := 227) hx hb dX12_turns_179 (by decide) (fun c1 => ?_) (fun c1 => ?_)
                  · rw [if_neg c1] at h
                    refine lv_iload (pc := 227) hx hb dX12_turns_227 (lv_at hl 0 rfl) ?_
                    refine lv_if_eq (pc := 229) (tgt := 245) hx hb dX12_turns_229 (by decide) (fun c1 => ?_) (fun c1 => ?_)
                    · rw [if_pos c1] at h
                      refine lv_iconst (pc := 245) (v := 0) hx hb dX12_turns_245 (by decide) ?_
                      refine lv_istore (pc := 246) (lv' := [(5, .int 0), (0, .ref (o + x0)), (1, .int x1), (2, .ref (o + x2)), (3, .int x3), (4, .int x4_1)]) hx hb dX12_turns_246 hl (by decide) rfl (fun ls hl => ?_)
                      refine lv_aload_n (pc := 248) hx hb dX12_turns_248 rfl (lv_at hl 1 rfl) ?_
                      obtain ⟨v30, hv, h⟩ := zl_some h
                      refine xgR (pc := 249) (j := 17) zc12 hx hb hts hown hK hP hv rfl zf_X12_40 dX12_turns_249 ?_
                      refine lv_iload (pc := 252) hx hb dX12_turns_252 (lv_at hl 5 rfl) ?_
                      refine lv_iload (pc := 254) hx hb dX12_turns_254 (lv_at hl 0 rfl) ?_
                      obtain ⟨σ31, hv, h⟩ := zl_some h
                      refine xsZ (pc := 256) hx hb hK hP hS hv dX12_turns_256 (fun H locs hP hS => ?_)
                      refine lv_iinc (pc := 257) (v := x4_1 + 1) (lv' := [(4, .int (x4_1 + 1)), (5, .int 0), (0, .ref (o + x0)), (1, .int x1), (2, .ref (o + x2)), (3, .int x3)]) hx hb dX12_turns_257 hl (k := 5) rfl rfl (by decide) rfl (fun ls hl => ?_)
                      refine lv_goto (pc := 260) (tgt := 66) hx hb dX12_turns_260 (by decide) ?_
                      exact ih1 (x4_1 + 1, σ31) h _ _ ls hP hS (lv_sub hl [0, 2, 3, 4, 5] rfl)
                    · rw [if_neg c1] at h
                      refine lv_aload_n (pc := 232) hx hb dX12_turns_232 rfl (lv_at hl 3 rfl) ?_
                      refine lv_iload_n (pc := 233) hx hb dX12_turns_233 rfl (lv_at hl 4 rfl) ?_
                      refine lv_iload (pc := 234) hx hb dX12_turns_234 (lv_at hl 5 rfl) ?_
                      refine lv_iadd (pc := 236) hx hb dX12_turns_236 ?_
                      obtain ⟨v32, hv, h⟩ := zl_some h
                      refine xaZ (pc := 237) hx hb hK hP hv dX12_turns_237 ?_
                      refine lv_if_eq (pc := 238) (tgt := 245) hx hb dX12_turns_238 (by decide) (fun c1 => ?_) (fun c1 => ?_)
                      · rw [if_pos c1] at h
                        refine lv_iconst (pc := 245) (v := 0) hx hb dX12_turns_245 (by decide) ?_
                        refine lv_istore (pc := 246) (lv' := [(5, .int 0), (0, .ref (o + x0)), (1, .int x1), (2, .ref (o + x2)), (3, .int x3), (4, .int x4_1)]) hx hb dX12_turns_246 hl (by decide) rfl (fun ls hl => ?_)
                        refine lv_aload_n (pc := 248) hx hb dX12_turns_248 rfl (lv_at hl 1 rfl) ?_
                        obtain ⟨v33, hv, h⟩ := zl_some h
                        refine xgR (pc := 249) (j := 17) zc12 hx hb hts hown hK hP hv rfl zf_X12_40 dX12_turns_249 ?_
                        refine lv_iload (pc := 252) hx hb dX12_turns_252 (lv_at hl 5 rfl) ?_
                        refine lv_iload (pc := 254) hx hb dX12_turns_254 (lv_at hl 0 rfl) ?_
                        obtain ⟨σ34, hv, h⟩ := zl_some h
                        refine xsZ (pc := 256) hx hb hK hP hS hv dX12_turns_256 (fun H locs hP hS => ?_)
                        refine lv_iinc (pc := 257) (v := x4_1 + 1) (lv' := [(4, .int (x4_1 + 1)), (5, .int 0), (0, .ref (o + x0)), (1, .int x1), (2, .ref (o + x2)), (3, .int x3)]) hx hb dX12_turns_257 hl (k := 5) rfl rfl (by decide) rfl (fun ls hl => ?_)
                        refine lv_goto (pc := 260) (tgt := 66) hx hb dX12_turns_260 (by decide) ?_
                        exact ih1 (x4_1 + 1, σ34) h _ _ ls hP hS (lv_sub hl [0, 2, 3, 4, 5] rfl)
                      · rw [if_neg c1] at h
                        refine lv_iconst (pc := 241) (v := 1) hx hb dX12_turns_241 (by decide) ?_
                        refine lv_goto (pc := 242) (tgt := 246) hx hb dX12_turns_242 (by decide) ?_
                        refine lv_istore (pc := 246) (lv' := [(5, .int 1), (0, .ref (o + x0)), (1, .int x1), (2, .ref (o + x2)), (3, .int x3), (4, .int x4_1)]) hx hb dX12_turns_246 hl (by decide) rfl (fun ls hl => ?_)
                        refine lv_aload_n (pc := 248) hx hb dX12_turns_248 rfl (lv_at hl 1 rfl) ?_
                        obtain ⟨v35, hv, h⟩ := zl_some h
                        refine xgR (pc := 249) (j := 17) zc12 hx hb hts hown hK hP hv rfl zf_X12_40 dX12_turns_249 ?_
                        refine lv_iload (pc := 252) hx hb dX12_turns_252 (lv_at hl 5 rfl) ?_
                        refine lv_iload (pc := 254) hx hb dX12_turns_254 (lv_at hl 0 rfl) ?_
                        obtain ⟨σ36, hv, h⟩ := zl_some h
                        refine xsZ (pc := 256) hx hb hK hP hS hv dX12_turns_256 (fun H locs hP hS => ?_)
                        refine lv_iinc (pc := 257) (v := x4_1 + 1) (lv' := [(4, .int (x4_1 + 1)), (5, .int 1), (0, .ref (o + x0)), (1, .int x1), (2, .ref (o + x2)), (3, .int x3)]) hx hb dX12_turns_257 hl (k := 5) rfl rfl (by decide) rfl (fun ls hl => ?_)
                        refine lv_goto (pc := 260) (tgt := 66) hx hb dX12_turns_260 (by decide) ?_
                        exact ih1 (x4_1 + 1, σ36) h _ _ ls hP hS (lv_sub hl [0, 2, 3, 4, 5] rfl)
                  · rw [if_pos c1] at h
                    exact hj182_17 (y0_3) σ3 h _ _ ls hP hS (lv_sub hl [0, 1, 2, 3, 4, 5] rfl)
              · rw [if_pos c1] at h
                refine lv_iload (pc := 148) hx hb dX12_turns_148 (lv_at hl 0 rfl) ?_
                refine lv_if_eq (pc := 150) (tgt := 166) hx hb dX12_turns_150 (by decide) (fun c1 => ?_) (fun c1 => ?_)
                · rw [if_pos c1] at h
                  refine lv_iconst (pc := 166) (v := 0) hx hb dX12_turns_166 (by decide) ?_
                  refine lv_istore (pc := 167) (lv' := [(5, .int 0), (0, .ref (o + x0)), (1, .int x1), (2, .ref (o + x2)), (3, .int x3), (4, .int x4_1)]) hx hb dX12_turns_167 hl (by decide) rfl (fun ls hl => ?_)
                  refine lv_goto (pc := 169) (tgt := 248) hx hb dX12_turns_169 (by decide) ?_
                  refine lv_aload_n (pc := 248) hx hb dX12_turns_248 rfl (lv_at hl 1 rfl) ?_
                  obtain ⟨v37, hv, h⟩ := zl_some h
                  refine xgR (pc := 249) (j := 17) zc12 hx hb hts hown hK hP hv rfl zf_X12_40 dX12_turns_249 ?_
                  refine lv_iload (pc := 252) hx hb dX12_turns_252 (lv_at hl 5 rfl) ?_
                  refine lv_iload (pc := 254) hx hb dX12_turns_254 (lv_at hl 0 rfl) ?_
                  obtain ⟨σ38, hv, h⟩ := zl_some h
                  refine xsZ (pc := 256) hx hb hK hP hS hv dX12_turns_256 (fun H locs hP hS => ?_)
                  refine lv_iinc (pc := 257) (v := x4_1 + 1) (lv' := [(4, .int (x4_1 + 1)), (5, .int 0), (0, .ref (o + x0)), (1, .int x1), (2, .ref (o + x2)), (3, .int x3)]) hx hb dX12_turns_257 hl (k := 5) rfl rfl (by decide) rfl (fun ls hl => ?_)
                  refine lv_goto (pc := 260) (tgt := 66) hx hb dX12_turns_260 (by decide) ?_
                  exact ih1 (x4_1 + 1, σ38) h _ _ ls hP hS (lv_sub hl [0, 2, 3, 4, 5] rfl)
                · rw [if_neg c1] at h
                  refine lv_aload_n (pc := 153) hx hb dX12_turns_153 rfl (lv_at hl 3 rfl) ?_
                  refine lv_iload_n (pc := 154) hx hb dX12_turns_154 rfl (lv_at hl 4 rfl) ?_
                  refine lv_iload (pc := 155) hx hb dX12_turns_155 (lv_at hl 5 rfl) ?_
                  refine lv_iadd (pc := 157) hx hb dX12_turns_157 ?_
                  obtain ⟨v39, hv, h⟩ := zl_some h
                  refine xaZ (pc := 158) hx hb hK hP hv dX12_turns_158 ?_
                  refine lv_if_ne (pc := 159) (tgt := 166) hx hb dX12_turns_159 (by decide) (fun c1 => ?_) (fun c1 => ?_)
                  · rw [if_neg c1] at h
                    refine lv_iconst (pc := 166) (v := 0) hx hb dX12_turns_166 (by decide) ?_
                    refine lv_istore (pc := 167) (lv' := [(5, .int 0), (0, .ref (o + x0)), (1, .int x1), (2, .ref (o + x2)), (3, .int x3), (4, .int x4_1)]) hx hb dX12_turns_167 hl (by decide) rfl (fun ls hl => ?_)
                    refine lv_goto (pc := 169) (tgt := 248) hx hb dX12_turns_169 (by decide) ?_
                    refine lv_aload_n (pc := 248) hx hb dX12_turns_248 rfl (lv_at hl 1 rfl) ?_
                    obtain ⟨v40, hv, h⟩ := zl_some h
                    refine xgR (pc := 249) (j := 17) zc12 hx hb hts hown hK hP hv rfl zf_X12_40 dX12_turns_249 ?_
                    refine lv_iload (pc := 252) hx hb dX12_turns_252 (lv_at hl 5 rfl) ?_
                    refine lv_iload (pc := 254) hx hb dX12_turns_254 (lv_at hl 0 rfl) ?_
                    obtain ⟨σ41, hv, h⟩ := zl_some h
                    refine xsZ (pc := 256) hx hb hK hP hS hv dX12_turns_256 (fun H locs hP hS => ?_)
                    refine lv_iinc (pc := 257) (v := x4_1 + 1) (lv' := [(4, .int (x4_1 + 1)), (5, .int 0), (0, .ref (o + x0)), (1, .int x1), (2, .ref (o + x2)), (3, .int x3)]) hx hb dX12_turns_257 hl (k := 5) rfl rfl (by decide) rfl (fun ls hl => ?_)
                    refine lv_goto (pc := 260) (tgt := 66) hx hb dX12_turns_260 (by decide) ?_
                    exact ih1 (x4_1 + 1, σ41) h _ _ ls hP hS (lv_sub hl [0, 2, 3, 4, 5] rfl)
                  · rw [if_pos c1] at h
                    refine lv_iconst (pc := 162) (v := 1) hx hb dX12_turns_162 (by decide) ?_
                    refine lv_goto (pc := 163) (tgt := 167) hx hb dX12_turns_163 (by decide) ?_
                    refine lv_istore (pc := 167) (lv' := [(5, .int 1), (0, .ref (o + x0)), (1, .int x1), (2, .ref (o + x2)), (3, .int x3), (4, .int x4_1)]) hx hb dX12_turns_167 hl (by decide) rfl (fun ls hl => ?_)
                    refine lv_goto (pc := 169) (tgt := 248) hx hb dX12_turns_169 (by decide) ?_
                    refine lv_aload_n (pc := 248) hx hb dX12_turns_248 rfl (lv_at hl 1 rfl) ?_
                    obtain ⟨v42, hv, h⟩ := zl_some h
                    refine xgR (pc := 249) (j := 17) zc12 hx hb hts hown hK hP hv rfl zf_X12_40 dX12_turns_249 ?_
                    refine lv_iload (pc := 252) hx hb dX12_turns_252 (lv_at hl 5 rfl) ?_
                    refine lv_iload (pc := 254) hx hb dX12_turns_254 (lv_at hl 0 rfl) ?_
                    obtain ⟨σ43, hv, h⟩ := zl_some h
                    refine xsZ (pc := 256) hx hb hK hP hS hv dX12_turns_256 (fun H locs hP hS => ?_)
                    refine lv_iinc (pc := 257) (v := x4_1 + 1) (lv' := [(4, .int (x4_1 + 1)), (5, .int 1), (0, .ref (o + x0)), (1, .int x1), (2, .ref (o + x2)), (3, .int x3)]) hx hb dX12_turns_257 hl (k := 5) rfl rfl (by decide) rfl (fun ls hl => ?_)
                    refine lv_goto (pc := 260) (tgt := 66) hx hb dX12_turns_260 (by decide) ?_
                    exact ih1 (x4_1 + 1, σ43) h _ _ ls hP hS (lv_sub hl [0, 2, 3, 4, 5] rfl)
            · rw [if_pos c1] at h
              exact hj99_4 (x4_1) (y0_3) σ3 h _ _ ls hP hS (lv_sub hl [5, 0, 1, 2, 3, 4] rfl)
        refine lv_icmp_ge (pc := 80) (tgt := 87) hx hb dX12_turns_80 (by decide) (fun c1 => ?_) (fun c1 => ?_)
        · rw [if_pos c1] at h
          refine lv_iconst (pc := 87) (v := 0) hx hb dX12_turns_87 (by decide) ?_
          exact hj88_3 (0) σ1 h _ _ ls hP hS (lv_sub hl [1, 2, 3, 4, 0] rfl)
        · rw [if_neg c1] at h
          refine lv_iconst (pc := 83) (v := 1) hx hb dX12_turns_83 (by decide) ?_
          refine lv_goto (pc := 84) (tgt := 88) hx hb dX12_turns_84 (by decide) ?_
          exact hj88_3 (1) σ1 h _ _ ls hP hS (lv_sub hl [1, 2, 3, 4, 0] rfl)
    exact L66_1 N (0, σ) h _ _ ls hP hS (lv_sub hl [0, 1, 2, 3, 4] rfl)
  · rw [if_pos c1] at h
    refine lv_iconst (pc := 5) (v := 0) hx hb dX12_turns_5 (by decide) ?_
    refine lv_istore (pc := 6) (lv' := [(4, .int 0), (0, .ref (o + x0)), (1, .int x1), (2, .ref (o + x2)), (3, .int x3)]) hx hb dX12_turns_6 hl (by decide) rfl (fun ls hl => ?_)
    have L8_44 : ∀ (n : Nat) (t : Int32 × zS), zlp (F_X12_turns_8 N x0 x2 x3) n t = some ρ → ∀ (H : Heap) (locs : List Loc) (ls : Array Slot), zP D c o (zabs o (t.2)) H → va_S (zA o) s.heap H locs → lv_has ls 6 [(4, .int (t.1)), (0, .ref (o + x0)), (2, .ref (o + x2)), (3, .int x3)] → W p l e (zr 6) s m (([.ref (o + x0), .int x1, .ref (o + x2), .int x3] : List Value).toArray) below meth cd H locs 0 0 (MQ below (zQu D c o g ρ) (([.ref (o + x0), .int x1, .ref (o + x2), .int x3] : List Value).toArray) s 0 0 (zA o)) (F0 m 8 ls []) := by
      refine zlp_ind (fun ag44 ih44 t h H locs ls hP hS hl => ?_)
      obtain ⟨x4_44, σ44⟩ := t
      have hP : zP D c o (zabs o σ44) H := hP
      have hl : lv_has ls 6 [(4, .int x4_44), (0, .ref (o + x0)), (2, .ref (o + x2)), (3, .int x3)] := hl
      rw [F_X12_turns_8.eq_1] at h
      show W p l e (zr 6) s m (([.ref (o + x0), .int x1, .ref (o + x2), .int x3] : List Value).toArray) below meth cd H locs 0 0 (MQ below (zQu D c o g ρ) (([.ref (o + x0), .int x1, .ref (o + x2), .int x3] : List Value).toArray) s 0 0 (zA o)) (F0 m 8 ls [])
      refine lv_iload (pc := 8) hx hb dX12_turns_8 (lv_at hl 0 rfl) ?_
      refine lv_sipush (pc := 10) (v := 1024) hx hb dX12_turns_10 (by decide) ?_
      refine lv_icmp_ge (pc := 13) (tgt := 54) hx hb dX12_turns_13 (by decide) (fun c1 => ?_) (fun c1 => ?_)
      · rw [if_pos c1] at h
        refine lv_aload_n (pc := 54) hx hb dX12_turns_54 rfl (lv_at hl 1 rfl) ?_
        refine lv_aload_n (pc := 55) hx hb dX12_turns_55 rfl (lv_at hl 1 rfl) ?_
        obtain ⟨v45, hv, h⟩ := zl_some h
        refine xgR (pc := 56) (j := 18) zc12 hx hb hts hown hK hP hv rfl zf_X12_43 dX12_turns_56 ?_
        obtain ⟨_, hg, h⟩ := zl_some h
        obtain ⟨v46, σ47, hv, h⟩ := zb_some h
        refine xcallVv (pc := 59) (As := [.ref (o + v45)]) (rest := []) ⟨hx, hb, hml, hown, hts⟩ (c_X12_turns_ l D c o g N hv) zc12 zV_X12_195 rfl zd_X12_turns_ ⟨Nat.le_of_ble_eq_true rfl, Nat.le_of_ble_eq_true rfl⟩ hK hP hE hS hg hl.1 rfl (Nat.le_of_ble_eq_true rfl) ⟨Nat.zero_le _, Nat.zero_le _⟩ dX12_turns_59 (fun H locs hP hS => ?_)
        exact xretv (pc := 62) hx hb hr hlocks hP hK hE hS h dX12_turns_62
      · rw [if_neg c1] at h
        refine lv_aload_n (pc := 16) hx hb dX12_turns_16 rfl (lv_at hl 1 rfl) ?_
        obtain ⟨v48, hv, h⟩ := zl_some h
        refine xgR (pc := 17) (j := 18) zc12 hx hb hts hown hK hP hv rfl zf_X12_43 dX12_turns_17 ?_
        refine lv_iload (pc := 20) hx hb dX12_turns_20 (lv_at hl 0 rfl) ?_
        refine lv_iload (pc := 22) hx hb dX12_turns_22 (lv_at hl 0 rfl) ?_
        refine lv_aload_n (pc := 24) hx hb dX12_turns_24 rfl (lv_at hl 1 rfl) ?_
        obtain ⟨v49, hv, h⟩ := zl_some h
        refine xgI (pc := 25) (j := 20) zc12 hx hb hts hown hK hP hv rfl zf_X12_180 dX12_turns_25 ?_
        refine lv_icmp_ge (pc := 28) (tgt := 46) hx hb dX12_turns_28 (by decide) (fun c1 => ?_) (fun c1 => ?_)
        · rw [if_pos c1] at h
          refine lv_iconst (pc := 46) (v := 0) hx hb dX12_turns_46 (by decide) ?_
          obtain ⟨σ50, hv, h⟩ := zl_some h
          refine xsZ (pc := 47) hx hb hK hP hS hv dX12_turns_47 (fun H locs hP hS => ?_)
          refine lv_iinc (pc := 48) (v := x4_44 + 1) (lv' := [(4, .int (x4_44 + 1)), (0, .ref (o + x0)), (2, .ref (o + x2)), (3, .int x3)]) hx hb dX12_turns_48 hl (k := 0) rfl rfl (by decide) rfl (fun ls hl => ?_)
          refine lv_goto (pc := 51) (tgt := 8) hx hb dX12_turns_51 (by decide) ?_
          exact ih44 (x4_44 + 1, σ50) h _ _ ls hP hS (lv_sub hl [0, 1, 2, 3] rfl)
        · rw [if_neg c1] at h
          refine lv_aload_n (pc := 31) hx hb dX12_turns_31 rfl (lv_at hl 1 rfl) ?_
          refine lv_aload_n (pc := 32) hx hb dX12_turns_32 rfl (lv_at hl 2 rfl) ?_
          refine lv_iload_n (pc := 33) hx hb dX12_turns_33 rfl (lv_at hl 3 rfl) ?_
          refine lv_iload (pc := 34) hx hb dX12_turns_34 (lv_at hl 0 rfl) ?_
          obtain ⟨_, hg, h⟩ := zl_some h
          obtain ⟨v51, σ52, hv, h⟩ := zb_some h
          refine xcallVi (pc := 36) (As := [.ref (o + x2), .int x3, .int x4_44]) (rest := [.int x4_44, .ref (o + v48)]) ⟨hx, hb, hml, hown, hts⟩ (c_X12_isTouching l D c o g N hv) zc12 zV_X12_191 rfl zd_X12_isTouching ⟨Nat.le_of_ble_eq_true rfl, Nat.le_of_ble_eq_true rfl⟩ hK hP hE hS hg hl.1 rfl (Nat.le_of_ble_eq_true rfl) ⟨Nat.zero_le _, Nat.zero_le _⟩ dX12_turns_36 (fun H locs hP hS => ?_)
          refine lv_if_eq (pc := 39) (tgt := 46) hx hb dX12_turns_39 (by decide) (fun c1 => ?_) (fun c1 => ?_)
          · rw [if_pos c1] at h
            refine lv_iconst (pc := 46) (v := 0) hx hb dX12_turns_46 (by decide) ?_
            obtain ⟨σ53, hv, h⟩ := zl_some h
            refine xsZ (pc := 47) hx hb hK hP hS hv dX12_turns_47 (fun H locs hP hS => ?_)
            refine lv_iinc (pc := 48) (v := x4_44 + 1) (lv' := [(4, .int (x4_44 + 1)), (0, .ref (o + x0)), (2, .ref (o + x2)), (3, .int x3)]) hx hb dX12_turns_48 hl (k := 0) rfl rfl (by decide) rfl (fun ls hl => ?_)
            refine lv_goto (pc := 51) (tgt := 8) hx hb dX12_turns_51 (by decide) ?_
            exact ih44 (x4_44 + 1, σ53) h _ _ ls hP hS (lv_sub hl [0, 1, 2, 3] rfl)
          · rw [if_neg c1] at h
            refine lv_iconst (pc := 42) (v := 1) hx hb dX12_turns_42 (by decide) ?_
            refine lv_goto (pc := 43) (tgt := 47) hx hb dX12_turns_43 (by decide) ?_
            obtain ⟨σ54, hv, h⟩ := zl_some h
            refine xsZ (pc := 47) hx hb hK hP hS hv dX12_turns_47 (fun H locs hP hS => ?_)
            refine lv_iinc (pc := 48) (v := x4_44 + 1) (lv' := [(4, .int (x4_44 + 1)), (0, .ref (o + x0)), (2, .ref (o + x2)), (3, .int x3)]) hx hb dX12_turns_48 hl (k := 0) rfl rfl (by decide) rfl (fun ls hl => ?_)
            refine lv_goto (pc := 51) (tgt := 8) hx hb dX12_turns_51 (by decide) ?_
            exact ih44 (x4_44 + 1, σ54) h _ _ ls hP hS (lv_sub hl [0, 1, 2, 3] rfl)
    exact L8_44 N (0, σ) h _ _ ls hP hS (lv_sub hl [0, 1, 3, 4] rfl)
